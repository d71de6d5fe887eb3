theorem tb_in {k : List Cond} {a b : List Cond} (h : ∀ w ∈ a ++ b, w ∈ k) : (∀ w ∈ a, w ∈ k) ∧ (∀ w ∈ b, w ∈ k) := ⟨fun w hw => h w (List.mem_append_left _ hw), fun w hw => h w (List.mem_append_right _ hw)⟩
theorem tb_0 : ∀ w ∈ tables_1, w ∈ lw_tbl := fun w h => List.mem_append_right _ h
theorem tb_1 : ∀ w ∈ tables_1_1, w ∈ lw_tbl := (tb_in tb_0).1
theorem tb_2 : ∀ w ∈ tables_1_2, w ∈ lw_tbl := (tb_in (tb_in tb_0).2).1
theorem tb_3 : ∀ w ∈ tables_1_3, w ∈ lw_tbl := (tb_in (tb_in (tb_in tb_0).2).2).1
theorem tb_4 : ∀ w ∈ tables_1_4, w ∈ lw_tbl := (tb_in (tb_in (tb_in (tb_in tb_0).2).2).2).1
theorem tb_5 : ∀ w ∈ tables_1_5, w ∈ lw_tbl := (tb_in (tb_in (tb_in (tb_in (tb_in tb_0).2).2).2).2).1
theorem tb_6 : ∀ w ∈ tables_1_6, w ∈ lw_tbl := (tb_in (tb_in (tb_in (tb_in (tb_in (tb_in tb_0).2).2).2).2).2).1
theorem tb_7 : ∀ w ∈ tables_1_7, w ∈ lw_tbl := (tb_in (tb_in (tb_in (tb_in (tb_in (tb_in (tb_in tb_0).2).2).2).2).2).2).1
theorem tb_8 : ∀ w ∈ tables_1_8, w ∈ lw_tbl := (tb_in (tb_in (tb_in (tb_in (tb_in (tb_in (tb_in tb_0).2).2).2).2).2).2).2
-- 02.names: classes, methods, words by their places (by program: wip/whole/gen/emit_names.py)
def RX0 : String := "BlushLamps$Course"
def TX0 : u_T := fun k => match k with
  | 0 => ("BlushLamps$Course", "laws", "LBlushLamps$Laws;", true)
  | _ => ("BlushLamps$Course", "trial", "LBlushLamps$Night;", true)
def tyX0 : Nat → FieldType := fun k => match k with
  | 0 => (.object "BlushLamps$Laws")
  | _ => (.object "BlushLamps$Night")
theorem nmX0 : ∀ a, a < 2 → ∀ b, b < 2 → a ≠ b → (TX0 a).2.1 ≠ (TX0 b).2.1 := by decide +kernel
theorem tyX0_ok : ∀ k, k < 2 → parseFieldDescriptor (TX0 k).2.2.1 = some (tyX0 k) := by decide +kernel
def RX1 : String := "BlushLamps$Known"
def TX1 : u_T := fun k => match k with
  | 0 => ("BlushLamps$Known", "size", "I", false)
  | 1 => ("BlushLamps$Known", "whom", "[I", true)
  | 2 => ("BlushLamps$Known", "least", "[I", true)
  | _ => ("BlushLamps$Known", "so", "[I", true)
def tyX1 : Nat → FieldType := fun k => match k with
  | 0 => .int
  | 1 => (.array .int)
  | 2 => (.array .int)
  | _ => (.array .int)
theorem nmX1 : ∀ a, a < 4 → ∀ b, b < 4 → a ≠ b → (TX1 a).2.1 ≠ (TX1 b).2.1 := by decide +kernel
theorem tyX1_ok : ∀ k, k < 4 → parseFieldDescriptor (TX1 k).2.2.1 = some (tyX1 k) := by decide +kernel
def RX2 : String := "BlushLamps$Laws"
def TX2 : u_T := fun k => match k with
  | 0 => ("BlushLamps$Laws", "variables", "[I", true)
  | _ => ("BlushLamps$Laws", "stack", "[I", true)
def tyX2 : Nat → FieldType := fun k => match k with
  | 0 => (.array .int)
  | _ => (.array .int)
theorem nmX2 : ∀ a, a < 2 → ∀ b, b < 2 → a ≠ b → (TX2 a).2.1 ≠ (TX2 b).2.1 := by decide +kernel
theorem tyX2_ok : ∀ k, k < 2 → parseFieldDescriptor (TX2 k).2.2.1 = some (tyX2 k) := by decide +kernel
def RX3 : String := "BlushLamps$Night"
def TX3 : u_T := fun k => match k with
  | 0 => ("BlushLamps$Night", "town", "LBlushLamps$Town;", false)
  | 1 => ("BlushLamps$Night", "hour", "I", false)
  | 2 => ("BlushLamps$Night", "lighter", "I", false)
  | 3 => ("BlushLamps$Night", "home", "I", false)
  | 4 => ("BlushLamps$Night", "rouge", "I", false)
  | 5 => ("BlushLamps$Night", "at", "[I", true)
  | 6 => ("BlushLamps$Night", "glow", "[I", true)
  | 7 => ("BlushLamps$Night", "told", "[I", true)
  | 8 => ("BlushLamps$Night", "toldAt", "[I", true)
  | 9 => ("BlushLamps$Night", "heat", "[I", true)
  | _ => ("BlushLamps$Night", "worn", "[I", true)
def tyX3 : Nat → FieldType := fun k => match k with
  | 0 => (.object "BlushLamps$Town")
  | 1 => .int
  | 2 => .int
  | 3 => .int
  | 4 => .int
  | 5 => (.array .int)
  | 6 => (.array .int)
  | 7 => (.array .int)
  | 8 => (.array .int)
  | 9 => (.array .int)
  | _ => (.array .int)
theorem nmX3 : ∀ a, a < 11 → ∀ b, b < 11 → a ≠ b → (TX3 a).2.1 ≠ (TX3 b).2.1 := by decide +kernel
theorem tyX3_ok : ∀ k, k < 11 → parseFieldDescriptor (TX3 k).2.2.1 = some (tyX3 k) := by decide +kernel
def RX4 : String := "BlushLamps$Past"
def TX4 : u_T := fun k => match k with
  | 0 => ("BlushLamps$Past", "size", "I", false)
  | 1 => ("BlushLamps$Past", "heldSlots", "I", false)
  | 2 => ("BlushLamps$Past", "done", "[I", true)
  | 3 => ("BlushLamps$Past", "slots", "[I", true)
  | _ => ("BlushLamps$Past", "next", "I", false)
def tyX4 : Nat → FieldType := fun k => match k with
  | 0 => .int
  | 1 => .int
  | 2 => (.array .int)
  | 3 => (.array .int)
  | _ => .int
theorem nmX4 : ∀ a, a < 5 → ∀ b, b < 5 → a ≠ b → (TX4 a).2.1 ≠ (TX4 b).2.1 := by decide +kernel
theorem tyX4_ok : ∀ k, k < 5 → parseFieldDescriptor (TX4 k).2.2.1 = some (tyX4 k) := by decide +kernel
def RX5 : String := "BlushLamps$Posts"
def TX5 : u_T := fun k => match k with
  | 0 => ("BlushLamps$Posts", "found", "[I", true)
  | 1 => ("BlushLamps$Posts", "most", "I", false)
  | 2 => ("BlushLamps$Posts", "isStale", "Z", false)
  | 3 => ("BlushLamps$Posts", "light", "[I", true)
  | 4 => ("BlushLamps$Posts", "gain", "[I", true)
  | 5 => ("BlushLamps$Posts", "where", "[I", true)
  | _ => ("BlushLamps$Posts", "last", "I", false)
def tyX5 : Nat → FieldType := fun k => match k with
  | 0 => (.array .int)
  | 1 => .int
  | 2 => .boolean
  | 3 => (.array .int)
  | 4 => (.array .int)
  | 5 => (.array .int)
  | _ => .int
theorem nmX5 : ∀ a, a < 7 → ∀ b, b < 7 → a ≠ b → (TX5 a).2.1 ≠ (TX5 b).2.1 := by decide +kernel
theorem tyX5_ok : ∀ k, k < 7 → parseFieldDescriptor (TX5 k).2.2.1 = some (tyX5 k) := by decide +kernel
def RX6 : String := "BlushLamps$Reader"
def TX6 : u_T := fun k => match k with
  | 0 => ("BlushLamps$Reader", "faultPlace", "I", false)
  | 1 => ("BlushLamps$Reader", "tokens", "LBlushLamps$Tokens;", true)
  | 2 => ("BlushLamps$Reader", "names", "[J", true)
  | 3 => ("BlushLamps$Reader", "cornerNamed", "[I", true)
  | 4 => ("BlushLamps$Reader", "namesTold", "I", false)
  | 5 => ("BlushLamps$Reader", "town", "LBlushLamps$Town;", false)
  | 6 => ("BlushLamps$Reader", "at", "I", false)
  | 7 => ("BlushLamps$Reader", "fault", "I", false)
  | 8 => ("BlushLamps$Reader", "laterFault", "I", false)
  | _ => ("BlushLamps$Reader", "laterPlace", "I", false)
def tyX6 : Nat → FieldType := fun k => match k with
  | 0 => .int
  | 1 => (.object "BlushLamps$Tokens")
  | 2 => (.array .long)
  | 3 => (.array .int)
  | 4 => .int
  | 5 => (.object "BlushLamps$Town")
  | 6 => .int
  | 7 => .int
  | 8 => .int
  | _ => .int
theorem nmX6 : ∀ a, a < 10 → ∀ b, b < 10 → a ≠ b → (TX6 a).2.1 ≠ (TX6 b).2.1 := by decide +kernel
theorem tyX6_ok : ∀ k, k < 10 → parseFieldDescriptor (TX6 k).2.2.1 = some (tyX6 k) := by decide +kernel
def RX7 : String := "BlushLamps$Tape"
def TX7 : u_T := fun k => match k with
  | 0 => ("BlushLamps$Tape", "bytes", "[B", true)
  | _ => ("BlushLamps$Tape", "length", "I", false)
def tyX7 : Nat → FieldType := fun k => match k with
  | 0 => (.array .byte)
  | _ => .int
theorem nmX7 : ∀ a, a < 2 → ∀ b, b < 2 → a ≠ b → (TX7 a).2.1 ≠ (TX7 b).2.1 := by decide +kernel
theorem tyX7_ok : ∀ k, k < 2 → parseFieldDescriptor (TX7 k).2.2.1 = some (tyX7 k) := by decide +kernel
def RX8 : String := "BlushLamps$Tokens"
def TX8 : u_T := fun k => match k with
  | 0 => ("BlushLamps$Tokens", "kinds", "[I", true)
  | 1 => ("BlushLamps$Tokens", "places", "[I", true)
  | 2 => ("BlushLamps$Tokens", "values", "[J", true)
  | _ => ("BlushLamps$Tokens", "quoted", "[J", true)
def tyX8 : Nat → FieldType := fun k => match k with
  | 0 => (.array .int)
  | 1 => (.array .int)
  | 2 => (.array .long)
  | _ => (.array .long)
theorem nmX8 : ∀ a, a < 4 → ∀ b, b < 4 → a ≠ b → (TX8 a).2.1 ≠ (TX8 b).2.1 := by decide +kernel
theorem tyX8_ok : ∀ k, k < 4 → parseFieldDescriptor (TX8 k).2.2.1 = some (tyX8 k) := by decide +kernel
def RX9 : String := "BlushLamps$Town"
def TX9 : u_T := fun k => match k with
  | 0 => ("BlushLamps$Town", "one", "[I", true)
  | 1 => ("BlushLamps$Town", "other", "[I", true)
  | 2 => ("BlushLamps$Town", "span", "[I", true)
  | 3 => ("BlushLamps$Town", "age", "[I", true)
  | 4 => ("BlushLamps$Town", "temper", "[I", true)
  | 5 => ("BlushLamps$Town", "firstAt", "[I", true)
  | 6 => ("BlushLamps$Town", "firstHeat", "[I", true)
  | 7 => ("BlushLamps$Town", "lawStart", "[I", true)
  | 8 => ("BlushLamps$Town", "code", "[I", true)
  | 9 => ("BlushLamps$Town", "codeSize", "I", false)
  | 10 => ("BlushLamps$Town", "corners", "I", false)
  | 11 => ("BlushLamps$Town", "streets", "I", false)
  | 12 => ("BlushLamps$Town", "youngs", "I", false)
  | 13 => ("BlushLamps$Town", "words", "I", false)
  | 14 => ("BlushLamps$Town", "lighter", "I", false)
  | 15 => ("BlushLamps$Town", "draught", "I", false)
  | _ => ("BlushLamps$Town", "seed", "I", false)
def tyX9 : Nat → FieldType := fun k => match k with
  | 0 => (.array .int)
  | 1 => (.array .int)
  | 2 => (.array .int)
  | 3 => (.array .int)
  | 4 => (.array .int)
  | 5 => (.array .int)
  | 6 => (.array .int)
  | 7 => (.array .int)
  | 8 => (.array .int)
  | 9 => .int
  | 10 => .int
  | 11 => .int
  | 12 => .int
  | 13 => .int
  | 14 => .int
  | 15 => .int
  | _ => .int
theorem nmX9 : ∀ a, a < 17 → ∀ b, b < 17 → a ≠ b → (TX9 a).2.1 ≠ (TX9 b).2.1 := by decide +kernel
theorem tyX9_ok : ∀ k, k < 17 → parseFieldDescriptor (TX9 k).2.2.1 = some (tyX9 k) := by decide +kernel
def RX10 : String := "BlushLamps$Ways"
def TX10 : u_T := fun k => match k with
  | 0 => ("BlushLamps$Ways", "far", "[I", true)
  | _ => ("BlushLamps$Ways", "farBetween", "[I", true)
def tyX10 : Nat → FieldType := fun k => match k with
  | 0 => (.array .int)
  | _ => (.array .int)
theorem nmX10 : ∀ a, a < 2 → ∀ b, b < 2 → a ≠ b → (TX10 a).2.1 ≠ (TX10 b).2.1 := by decide +kernel
theorem tyX10_ok : ∀ k, k < 2 → parseFieldDescriptor (TX10 k).2.2.1 = some (tyX10 k) := by decide +kernel
def RX11 : String := "BlushLamps"
def TX11 : u_T := fun k => match k with
  | 0 => ("BlushLamps", "tape", "LBlushLamps$Tape;", true)
  | 1 => ("BlushLamps", "reader", "LBlushLamps$Reader;", true)
  | 2 => ("BlushLamps", "laws", "LBlushLamps$Laws;", true)
  | 3 => ("BlushLamps", "course", "LBlushLamps$Course;", true)
  | 4 => ("BlushLamps", "ways", "LBlushLamps$Ways;", true)
  | 5 => ("BlushLamps", "posts", "LBlushLamps$Posts;", true)
  | 6 => ("BlushLamps", "known", "LBlushLamps$Known;", true)
  | 7 => ("BlushLamps", "past", "LBlushLamps$Past;", true)
  | 8 => ("BlushLamps", "now", "LBlushLamps$Night;", true)
  | 9 => ("BlushLamps", "town", "LBlushLamps$Town;", false)
  | 10 => ("BlushLamps", "spare", "LBlushLamps$Town;", false)
  | _ => ("BlushLamps", "faultPlace", "I", false)
def tyX11 : Nat → FieldType := fun k => match k with
  | 0 => (.object "BlushLamps$Tape")
  | 1 => (.object "BlushLamps$Reader")
  | 2 => (.object "BlushLamps$Laws")
  | 3 => (.object "BlushLamps$Course")
  | 4 => (.object "BlushLamps$Ways")
  | 5 => (.object "BlushLamps$Posts")
  | 6 => (.object "BlushLamps$Known")
  | 7 => (.object "BlushLamps$Past")
  | 8 => (.object "BlushLamps$Night")
  | 9 => (.object "BlushLamps$Town")
  | 10 => (.object "BlushLamps$Town")
  | _ => .int
theorem nmX11 : ∀ a, a < 12 → ∀ b, b < 12 → a ≠ b → (TX11 a).2.1 ≠ (TX11 b).2.1 := by decide +kernel
theorem tyX11_ok : ∀ k, k < 12 → parseFieldDescriptor (TX11 k).2.2.1 = some (tyX11 k) := by decide +kernel
def RX12 : String := "BlushLampsModel"
def TX12 : u_T := fun k => match k with
  | 0 => ("BlushLampsModel", "thrown", "I", false)
  | 1 => ("BlushLampsModel", "tape", "[B", true)
  | 2 => ("BlushLampsModel", "taped", "I", false)
  | 3 => ("BlushLampsModel", "text", "[B", true)
  | 4 => ("BlushLampsModel", "size", "I", false)
  | 5 => ("BlushLampsModel", "tKind", "[I", true)
  | 6 => ("BlushLampsModel", "tPlace", "[I", true)
  | 7 => ("BlushLampsModel", "tValue", "[I", true)
  | 8 => ("BlushLampsModel", "tName", "[J", true)
  | 9 => ("BlushLampsModel", "keys", "[J", true)
  | 10 => ("BlushLampsModel", "tokens", "I", false)
  | 11 => ("BlushLampsModel", "t", "I", false)
  | 12 => ("BlushLampsModel", "open", "I", false)
  | 13 => ("BlushLampsModel", "fault", "I", false)
  | 14 => ("BlushLampsModel", "faultPlace", "I", false)
  | 15 => ("BlushLampsModel", "worst", "I", false)
  | 16 => ("BlushLampsModel", "worstPlace", "I", false)
  | 17 => ("BlushLampsModel", "place", "I", false)
  | 18 => ("BlushLampsModel", "live", "I", false)
  | 19 => ("BlushLampsModel", "side", "I", false)
  | 20 => ("BlushLampsModel", "names", "I", false)
  | 21 => ("BlushLampsModel", "nameOf", "[J", true)
  | 22 => ("BlushLampsModel", "nameAt", "[I", true)
  | 23 => ("BlushLampsModel", "corners", "[I", true)
  | 24 => ("BlushLampsModel", "streets", "[I", true)
  | 25 => ("BlushLampsModel", "oneOf", "[I", true)
  | 26 => ("BlushLampsModel", "otherOf", "[I", true)
  | 27 => ("BlushLampsModel", "longOf", "[I", true)
  | 28 => ("BlushLampsModel", "youngs", "[I", true)
  | 29 => ("BlushLampsModel", "ageOf", "[I", true)
  | 30 => ("BlushLampsModel", "temperOf", "[I", true)
  | 31 => ("BlushLampsModel", "cornerTold", "[I", true)
  | 32 => ("BlushLampsModel", "wordMany", "[I", true)
  | 33 => ("BlushLampsModel", "heatTold", "[I", true)
  | 34 => ("BlushLampsModel", "lighterTold", "[I", true)
  | 35 => ("BlushLampsModel", "draught", "[I", true)
  | 36 => ("BlushLampsModel", "seed", "[I", true)
  | 37 => ("BlushLampsModel", "lawFirst", "[I", true)
  | 38 => ("BlushLampsModel", "lawLast", "[I", true)
  | 39 => ("BlushLampsModel", "branches", "I", false)
  | 40 => ("BlushLampsModel", "hasTest", "[Z", true)
  | 41 => ("BlushLampsModel", "testFrom", "[I", true)
  | 42 => ("BlushLampsModel", "testMid", "[I", true)
  | 43 => ("BlushLampsModel", "testTo", "[I", true)
  | 44 => ("BlushLampsModel", "termTo", "[I", true)
  | 45 => ("BlushLampsModel", "codes", "I", false)
  | 46 => ("BlushLampsModel", "code", "[I", true)
  | 47 => ("BlushLampsModel", "codeInt", "[I", true)
  | 48 => ("BlushLampsModel", "waits", "[I", true)
  | 49 => ("BlushLampsModel", "waiting", "I", false)
  | 50 => ("BlushLampsModel", "variables", "[I", true)
  | 51 => ("BlushLampsModel", "pile", "[I", true)
  | 52 => ("BlushLampsModel", "isBroken", "Z", false)
  | 53 => ("BlushLampsModel", "now", "[I", true)
  | 54 => ("BlushLampsModel", "row", "[I", true)
  | 55 => ("BlushLampsModel", "lots", "I", false)
  | 56 => ("BlushLampsModel", "isStill", "Z", false)
  | 57 => ("BlushLampsModel", "coolsNow", "[I", true)
  | 58 => ("BlushLampsModel", "leavesNow", "[Z", true)
  | 59 => ("BlushLampsModel", "lights", "[I", true)
  | 60 => ("BlushLampsModel", "undos", "I", false)
  | 61 => ("BlushLampsModel", "history", "[I", true)
  | 62 => ("BlushLampsModel", "bestAt", "[I", true)
  | 63 => ("BlushLampsModel", "farOf", "[I", true)
  | 64 => ("BlushLampsModel", "roundBy", "[I", true)
  | 65 => ("BlushLampsModel", "stepsBy", "[I", true)
  | 66 => ("BlushLampsModel", "tolds", "I", false)
  | 67 => ("BlushLampsModel", "toldWho", "[I", true)
  | 68 => ("BlushLampsModel", "toldBy", "[I", true)
  | 69 => ("BlushLampsModel", "toldSo", "[Z", true)
  | 70 => ("BlushLampsModel", "isHeld", "[Z", true)
  | _ => ("BlushLampsModel", "heldRows", "[I", true)
def tyX12 : Nat → FieldType := fun k => match k with
  | 0 => .int
  | 1 => (.array .byte)
  | 2 => .int
  | 3 => (.array .byte)
  | 4 => .int
  | 5 => (.array .int)
  | 6 => (.array .int)
  | 7 => (.array .int)
  | 8 => (.array .long)
  | 9 => (.array .long)
  | 10 => .int
  | 11 => .int
  | 12 => .int
  | 13 => .int
  | 14 => .int
  | 15 => .int
  | 16 => .int
  | 17 => .int
  | 18 => .int
  | 19 => .int
  | 20 => .int
  | 21 => (.array .long)
  | 22 => (.array .int)
  | 23 => (.array .int)
  | 24 => (.array .int)
  | 25 => (.array .int)
  | 26 => (.array .int)
  | 27 => (.array .int)
  | 28 => (.array .int)
  | 29 => (.array .int)
  | 30 => (.array .int)
  | 31 => (.array .int)
  | 32 => (.array .int)
  | 33 => (.array .int)
  | 34 => (.array .int)
  | 35 => (.array .int)
  | 36 => (.array .int)
  | 37 => (.array .int)
  | 38 => (.array .int)
  | 39 => .int
  | 40 => (.array .boolean)
  | 41 => (.array .int)
  | 42 => (.array .int)
  | 43 => (.array .int)
  | 44 => (.array .int)
  | 45 => .int
  | 46 => (.array .int)
  | 47 => (.array .int)
  | 48 => (.array .int)
  | 49 => .int
  | 50 => (.array .int)
  | 51 => (.array .int)
  | 52 => .boolean
  | 53 => (.array .int)
  | 54 => (.array .int)
  | 55 => .int
  | 56 => .boolean
  | 57 => (.array .int)
  | 58 => (.array .boolean)
  | 59 => (.array .int)
  | 60 => .int
  | 61 => (.array .int)
  | 62 => (.array .int)
  | 63 => (.array .int)
  | 64 => (.array .int)
  | 65 => (.array .int)
  | 66 => .int
  | 67 => (.array .int)
  | 68 => (.array .int)
  | 69 => (.array .boolean)
  | 70 => (.array .boolean)
  | _ => (.array .int)
theorem nmX12 : ∀ a, a < 72 → ∀ b, b < 72 → a ≠ b → (TX12 a).2.1 ≠ (TX12 b).2.1 := by decide +kernel
theorem tyX12_ok : ∀ k, k < 72 → parseFieldDescriptor (TX12 k).2.2.1 = some (tyX12 k) := by decide +kernel
abbrev vwCl : List vw_C := [(RX0, TX0, 2), (RX1, TX1, 4), (RX2, TX2, 2), (RX3, TX3, 11), (RX4, TX4, 5), (RX5, TX5, 7), (RX6, TX6, 10), (RX7, TX7, 2), (RX8, TX8, 4), (RX9, TX9, 17), (RX10, TX10, 2), (RX11, TX11, 12), (RX12, TX12, 72)]
def clTy (ci : Nat) : Nat → FieldType := match ci with
  | 0 => tyX0
  | 1 => tyX1
  | 2 => tyX2
  | 3 => tyX3
  | 4 => tyX4
  | 5 => tyX5
  | 6 => tyX6
  | 7 => tyX7
  | 8 => tyX8
  | 9 => tyX9
  | 10 => tyX10
  | 11 => tyX11
  | _ => tyX12
def clN (ci : Nat) : Nat := match ci with
  | 0 => 2
  | 1 => 4
  | 2 => 2
  | 3 => 11
  | 4 => 5
  | 5 => 7
  | 6 => 10
  | 7 => 2
  | 8 => 4
  | 9 => 17
  | 10 => 2
  | 11 => 12
  | _ => 72
theorem inX0 : ∀ w ∈ u_ws RX0 TX0 2, w ∈ lw_tbl := fun w hw => by
  obtain ⟨k, hk, rfl⟩ := List.mem_map.mp hw
  match k, List.mem_range.mp hk with
  | 0, _ => exact tb_2 _ (List.mem_of_getElem? (i := 142) rfl)
  | 1, _ => exact tb_2 _ (List.mem_of_getElem? (i := 144) rfl)
  | n + 2, h => exact absurd h (by omega)
theorem inX1 : ∀ w ∈ u_ws RX1 TX1 4, w ∈ lw_tbl := fun w hw => by
  obtain ⟨k, hk, rfl⟩ := List.mem_map.mp hw
  match k, List.mem_range.mp hk with
  | 0, _ => exact tb_2 _ (List.mem_of_getElem? (i := 202) rfl)
  | 1, _ => exact tb_2 _ (List.mem_of_getElem? (i := 204) rfl)
  | 2, _ => exact tb_2 _ (List.mem_of_getElem? (i := 206) rfl)
  | 3, _ => exact tb_2 _ (List.mem_of_getElem? (i := 208) rfl)
  | n + 4, h => exact absurd h (by omega)
theorem inX2 : ∀ w ∈ u_ws RX2 TX2 2, w ∈ lw_tbl := fun w hw => by
  obtain ⟨k, hk, rfl⟩ := List.mem_map.mp hw
  match k, List.mem_range.mp hk with
  | 0, _ => exact tb_2 _ (List.mem_of_getElem? (i := 50) rfl)
  | 1, _ => exact tb_2 _ (List.mem_of_getElem? (i := 52) rfl)
  | n + 2, h => exact absurd h (by omega)
theorem inX3 : ∀ w ∈ u_ws RX3 TX3 11, w ∈ lw_tbl := fun w hw => by
  obtain ⟨k, hk, rfl⟩ := List.mem_map.mp hw
  match k, List.mem_range.mp hk with
  | 0, _ => exact tb_2 _ (List.mem_of_getElem? (i := 117) rfl)
  | 1, _ => exact tb_2 _ (List.mem_of_getElem? (i := 119) rfl)
  | 2, _ => exact tb_2 _ (List.mem_of_getElem? (i := 121) rfl)
  | 3, _ => exact tb_2 _ (List.mem_of_getElem? (i := 123) rfl)
  | 4, _ => exact tb_2 _ (List.mem_of_getElem? (i := 125) rfl)
  | 5, _ => exact tb_2 _ (List.mem_of_getElem? (i := 127) rfl)
  | 6, _ => exact tb_2 _ (List.mem_of_getElem? (i := 129) rfl)
  | 7, _ => exact tb_2 _ (List.mem_of_getElem? (i := 131) rfl)
  | 8, _ => exact tb_2 _ (List.mem_of_getElem? (i := 133) rfl)
  | 9, _ => exact tb_2 _ (List.mem_of_getElem? (i := 135) rfl)
  | 10, _ => exact tb_2 _ (List.mem_of_getElem? (i := 137) rfl)
  | n + 11, h => exact absurd h (by omega)
theorem inX4 : ∀ w ∈ u_ws RX4 TX4 5, w ∈ lw_tbl := fun w hw => by
  obtain ⟨k, hk, rfl⟩ := List.mem_map.mp hw
  match k, List.mem_range.mp hk with
  | 0, _ => exact tb_2 _ (List.mem_of_getElem? (i := 224) rfl)
  | 1, _ => exact tb_2 _ (List.mem_of_getElem? (i := 226) rfl)
  | 2, _ => exact tb_2 _ (List.mem_of_getElem? (i := 228) rfl)
  | 3, _ => exact tb_2 _ (List.mem_of_getElem? (i := 230) rfl)
  | 4, _ => exact tb_2 _ (List.mem_of_getElem? (i := 232) rfl)
  | n + 5, h => exact absurd h (by omega)
theorem inX5 : ∀ w ∈ u_ws RX5 TX5 7, w ∈ lw_tbl := fun w hw => by
  obtain ⟨k, hk, rfl⟩ := List.mem_map.mp hw
  match k, List.mem_range.mp hk with
  | 0, _ => exact tb_2 _ (List.mem_of_getElem? (i := 176) rfl)
  | 1, _ => exact tb_2 _ (List.mem_of_getElem? (i := 178) rfl)
  | 2, _ => exact tb_2 _ (List.mem_of_getElem? (i := 180) rfl)
  | 3, _ => exact tb_2 _ (List.mem_of_getElem? (i := 182) rfl)
  | 4, _ => exact tb_2 _ (List.mem_of_getElem? (i := 184) rfl)
  | 5, _ => exact tb_2 _ (List.mem_of_getElem? (i := 186) rfl)
  | 6, _ => exact tb_2 _ (List.mem_of_getElem? (i := 188) rfl)
  | n + 7, h => exact absurd h (by omega)
theorem inX6 : ∀ w ∈ u_ws RX6 TX6 10, w ∈ lw_tbl := fun w hw => by
  obtain ⟨k, hk, rfl⟩ := List.mem_map.mp hw
  match k, List.mem_range.mp hk with
  | 0, _ => exact tb_2 _ (List.mem_of_getElem? (i := 21) rfl)
  | 1, _ => exact tb_2 _ (List.mem_of_getElem? (i := 23) rfl)
  | 2, _ => exact tb_2 _ (List.mem_of_getElem? (i := 25) rfl)
  | 3, _ => exact tb_2 _ (List.mem_of_getElem? (i := 27) rfl)
  | 4, _ => exact tb_2 _ (List.mem_of_getElem? (i := 29) rfl)
  | 5, _ => exact tb_2 _ (List.mem_of_getElem? (i := 31) rfl)
  | 6, _ => exact tb_2 _ (List.mem_of_getElem? (i := 33) rfl)
  | 7, _ => exact tb_2 _ (List.mem_of_getElem? (i := 35) rfl)
  | 8, _ => exact tb_2 _ (List.mem_of_getElem? (i := 37) rfl)
  | 9, _ => exact tb_2 _ (List.mem_of_getElem? (i := 39) rfl)
  | n + 10, h => exact absurd h (by omega)
theorem inX7 : ∀ w ∈ u_ws RX7 TX7 2, w ∈ lw_tbl := fun w hw => by
  obtain ⟨k, hk, rfl⟩ := List.mem_map.mp hw
  match k, List.mem_range.mp hk with
  | 0, _ => exact tb_1 _ (List.mem_of_getElem? (i := 161) rfl)
  | 1, _ => exact tb_1 _ (List.mem_of_getElem? (i := 163) rfl)
  | n + 2, h => exact absurd h (by omega)
theorem inX8 : ∀ w ∈ u_ws RX8 TX8 4, w ∈ lw_tbl := fun w hw => by
  obtain ⟨k, hk, rfl⟩ := List.mem_map.mp hw
  match k, List.mem_range.mp hk with
  | 0, _ => exact tb_2 _ (List.mem_of_getElem? (i := 0) rfl)
  | 1, _ => exact tb_2 _ (List.mem_of_getElem? (i := 2) rfl)
  | 2, _ => exact tb_2 _ (List.mem_of_getElem? (i := 4) rfl)
  | 3, _ => exact tb_2 _ (List.mem_of_getElem? (i := 6) rfl)
  | n + 4, h => exact absurd h (by omega)
theorem inX9 : ∀ w ∈ u_ws RX9 TX9 17, w ∈ lw_tbl := fun w hw => by
  obtain ⟨k, hk, rfl⟩ := List.mem_map.mp hw
  match k, List.mem_range.mp hk with
  | 0, _ => exact tb_1 _ (List.mem_of_getElem? (i := 115) rfl)
  | 1, _ => exact tb_1 _ (List.mem_of_getElem? (i := 117) rfl)
  | 2, _ => exact tb_1 _ (List.mem_of_getElem? (i := 119) rfl)
  | 3, _ => exact tb_1 _ (List.mem_of_getElem? (i := 121) rfl)
  | 4, _ => exact tb_1 _ (List.mem_of_getElem? (i := 123) rfl)
  | 5, _ => exact tb_1 _ (List.mem_of_getElem? (i := 125) rfl)
  | 6, _ => exact tb_1 _ (List.mem_of_getElem? (i := 127) rfl)
  | 7, _ => exact tb_1 _ (List.mem_of_getElem? (i := 129) rfl)
  | 8, _ => exact tb_1 _ (List.mem_of_getElem? (i := 131) rfl)
  | 9, _ => exact tb_1 _ (List.mem_of_getElem? (i := 133) rfl)
  | 10, _ => exact tb_1 _ (List.mem_of_getElem? (i := 135) rfl)
  | 11, _ => exact tb_1 _ (List.mem_of_getElem? (i := 137) rfl)
  | 12, _ => exact tb_1 _ (List.mem_of_getElem? (i := 139) rfl)
  | 13, _ => exact tb_1 _ (List.mem_of_getElem? (i := 141) rfl)
  | 14, _ => exact tb_1 _ (List.mem_of_getElem? (i := 143) rfl)
  | 15, _ => exact tb_1 _ (List.mem_of_getElem? (i := 145) rfl)
  | 16, _ => exact tb_1 _ (List.mem_of_getElem? (i := 147) rfl)
  | n + 17, h => exact absurd h (by omega)
theorem inX10 : ∀ w ∈ u_ws RX10 TX10 2, w ∈ lw_tbl := fun w hw => by
  obtain ⟨k, hk, rfl⟩ := List.mem_map.mp hw
  match k, List.mem_range.mp hk with
  | 0, _ => exact tb_2 _ (List.mem_of_getElem? (i := 155) rfl)
  | 1, _ => exact tb_2 _ (List.mem_of_getElem? (i := 157) rfl)
  | n + 2, h => exact absurd h (by omega)
theorem inX11 : ∀ w ∈ u_ws RX11 TX11 12, w ∈ lw_tbl := fun w hw => by
  obtain ⟨k, hk, rfl⟩ := List.mem_map.mp hw
  match k, List.mem_range.mp hk with
  | 0, _ => exact tb_3 _ (List.mem_of_getElem? (i := 9) rfl)
  | 1, _ => exact tb_3 _ (List.mem_of_getElem? (i := 11) rfl)
  | 2, _ => exact tb_3 _ (List.mem_of_getElem? (i := 13) rfl)
  | 3, _ => exact tb_3 _ (List.mem_of_getElem? (i := 15) rfl)
  | 4, _ => exact tb_3 _ (List.mem_of_getElem? (i := 17) rfl)
  | 5, _ => exact tb_3 _ (List.mem_of_getElem? (i := 19) rfl)
  | 6, _ => exact tb_3 _ (List.mem_of_getElem? (i := 21) rfl)
  | 7, _ => exact tb_3 _ (List.mem_of_getElem? (i := 23) rfl)
  | 8, _ => exact tb_3 _ (List.mem_of_getElem? (i := 25) rfl)
  | 9, _ => exact tb_3 _ (List.mem_of_getElem? (i := 27) rfl)
  | 10, _ => exact tb_3 _ (List.mem_of_getElem? (i := 29) rfl)
  | 11, _ => exact tb_3 _ (List.mem_of_getElem? (i := 31) rfl)
  | n + 12, h => exact absurd h (by omega)
theorem inX12 : ∀ w ∈ u_ws RX12 TX12 72, w ∈ lw_tbl := fun w hw => by
  obtain ⟨k, hk, rfl⟩ := List.mem_map.mp hw
  match k, List.mem_range.mp hk with
  | 0, _ => exact tb_6 _ (List.mem_of_getElem? (i := 124) rfl)
  | 1, _ => exact tb_6 _ (List.mem_of_getElem? (i := 126) rfl)
  | 2, _ => exact tb_6 _ (List.mem_of_getElem? (i := 128) rfl)
  | 3, _ => exact tb_6 _ (List.mem_of_getElem? (i := 130) rfl)
  | 4, _ => exact tb_6 _ (List.mem_of_getElem? (i := 132) rfl)
  | 5, _ => exact tb_6 _ (List.mem_of_getElem? (i := 134) rfl)
  | 6, _ => exact tb_6 _ (List.mem_of_getElem? (i := 136) rfl)
  | 7, _ => exact tb_6 _ (List.mem_of_getElem? (i := 138) rfl)
  | 8, _ => exact tb_6 _ (List.mem_of_getElem? (i := 140) rfl)
  | 9, _ => exact tb_6 _ (List.mem_of_getElem? (i := 142) rfl)
  | 10, _ => exact tb_6 _ (List.mem_of_getElem? (i := 144) rfl)
  | 11, _ => exact tb_6 _ (List.mem_of_getElem? (i := 146) rfl)
  | 12, _ => exact tb_6 _ (List.mem_of_getElem? (i := 148) rfl)
  | 13, _ => exact tb_6 _ (List.mem_of_getElem? (i := 150) rfl)
  | 14, _ => exact tb_6 _ (List.mem_of_getElem? (i := 152) rfl)
  | 15, _ => exact tb_6 _ (List.mem_of_getElem? (i := 154) rfl)
  | 16, _ => exact tb_6 _ (List.mem_of_getElem? (i := 156) rfl)
  | 17, _ => exact tb_6 _ (List.mem_of_getElem? (i := 158) rfl)
  | 18, _ => exact tb_6 _ (List.mem_of_getElem? (i := 160) rfl)
  | 19, _ => exact tb_6 _ (List.mem_of_getElem? (i := 162) rfl)
  | 20, _ => exact tb_6 _ (List.mem_of_getElem? (i := 164) rfl)
  | 21, _ => exact tb_6 _ (List.mem_of_getElem? (i := 166) rfl)
  | 22, _ => exact tb_6 _ (List.mem_of_getElem? (i := 168) rfl)
  | 23, _ => exact tb_6 _ (List.mem_of_getElem? (i := 170) rfl)
  | 24, _ => exact tb_6 _ (List.mem_of_getElem? (i := 172) rfl)
  | 25, _ => exact tb_6 _ (List.mem_of_getElem? (i := 174) rfl)
  | 26, _ => exact tb_6 _ (List.mem_of_getElem? (i := 176) rfl)
  | 27, _ => exact tb_6 _ (List.mem_of_getElem? (i := 178) rfl)
  | 28, _ => exact tb_6 _ (List.mem_of_getElem? (i := 180) rfl)
  | 29, _ => exact tb_6 _ (List.mem_of_getElem? (i := 182) rfl)
  | 30, _ => exact tb_6 _ (List.mem_of_getElem? (i := 184) rfl)
  | 31, _ => exact tb_6 _ (List.mem_of_getElem? (i := 186) rfl)
  | 32, _ => exact tb_6 _ (List.mem_of_getElem? (i := 188) rfl)
  | 33, _ => exact tb_6 _ (List.mem_of_getElem? (i := 190) rfl)
  | 34, _ => exact tb_6 _ (List.mem_of_getElem? (i := 192) rfl)
  | 35, _ => exact tb_6 _ (List.mem_of_getElem? (i := 194) rfl)
  | 36, _ => exact tb_6 _ (List.mem_of_getElem? (i := 196) rfl)
  | 37, _ => exact tb_6 _ (List.mem_of_getElem? (i := 198) rfl)
  | 38, _ => exact tb_6 _ (List.mem_of_getElem? (i := 200) rfl)
  | 39, _ => exact tb_6 _ (List.mem_of_getElem? (i := 202) rfl)
  | 40, _ => exact tb_6 _ (List.mem_of_getElem? (i := 204) rfl)
  | 41, _ => exact tb_6 _ (List.mem_of_getElem? (i := 206) rfl)
  | 42, _ => exact tb_6 _ (List.mem_of_getElem? (i := 208) rfl)
  | 43, _ => exact tb_6 _ (List.mem_of_getElem? (i := 210) rfl)
  | 44, _ => exact tb_6 _ (List.mem_of_getElem? (i := 212) rfl)
  | 45, _ => exact tb_6 _ (List.mem_of_getElem? (i := 214) rfl)
  | 46, _ => exact tb_6 _ (List.mem_of_getElem? (i := 216) rfl)
  | 47, _ => exact tb_6 _ (List.mem_of_getElem? (i := 218) rfl)
  | 48, _ => exact tb_6 _ (List.mem_of_getElem? (i := 220) rfl)
  | 49, _ => exact tb_6 _ (List.mem_of_getElem? (i := 222) rfl)
  | 50, _ => exact tb_6 _ (List.mem_of_getElem? (i := 224) rfl)
  | 51, _ => exact tb_6 _ (List.mem_of_getElem? (i := 226) rfl)
  | 52, _ => exact tb_6 _ (List.mem_of_getElem? (i := 228) rfl)
  | 53, _ => exact tb_6 _ (List.mem_of_getElem? (i := 230) rfl)
  | 54, _ => exact tb_6 _ (List.mem_of_getElem? (i := 232) rfl)
  | 55, _ => exact tb_6 _ (List.mem_of_getElem? (i := 234) rfl)
  | 56, _ => exact tb_6 _ (List.mem_of_getElem? (i := 236) rfl)
  | 57, _ => exact tb_6 _ (List.mem_of_getElem? (i := 238) rfl)
  | 58, _ => exact tb_7 _ (List.mem_of_getElem? (i := 0) rfl)
  | 59, _ => exact tb_7 _ (List.mem_of_getElem? (i := 2) rfl)
  | 60, _ => exact tb_7 _ (List.mem_of_getElem? (i := 4) rfl)
  | 61, _ => exact tb_7 _ (List.mem_of_getElem? (i := 6) rfl)
  | 62, _ => exact tb_7 _ (List.mem_of_getElem? (i := 8) rfl)
  | 63, _ => exact tb_7 _ (List.mem_of_getElem? (i := 10) rfl)
  | 64, _ => exact tb_7 _ (List.mem_of_getElem? (i := 12) rfl)
  | 65, _ => exact tb_7 _ (List.mem_of_getElem? (i := 14) rfl)
  | 66, _ => exact tb_7 _ (List.mem_of_getElem? (i := 16) rfl)
  | 67, _ => exact tb_7 _ (List.mem_of_getElem? (i := 18) rfl)
  | 68, _ => exact tb_7 _ (List.mem_of_getElem? (i := 20) rfl)
  | 69, _ => exact tb_7 _ (List.mem_of_getElem? (i := 22) rfl)
  | 70, _ => exact tb_7 _ (List.mem_of_getElem? (i := 24) rfl)
  | 71, _ => exact tb_7 _ (List.mem_of_getElem? (i := 26) rfl)
  | n + 72, h => exact absurd h (by omega)
def RJ0 : String := "java/lang/String"
def RJ1 : String := "java/lang/StringLatin1"
def RJ10 : String := "java/lang/System"
def RJ11 : String := "java/lang/Character"
def RJ2 : String := "java/lang/StringUTF16"
def RJ3 : String := "jdk/internal/util/Preconditions"
def RJ6 : String := "java/lang/Integer"
def RJ7 : String := "java/util/Arrays"
def RJ9 : String := "java/lang/Math"
def RL : String := "BlushLampsLaw"
/-- a method as the tables have it -/
def mOK (y : MethodName) (cc : ByteArray) (nL : Nat) (ret : Option FieldType) (n : Nat) : Prop := Cond.code y cc nL ret ∈ lw_tbl ∧ Cond.initialized y.cls ∈ lw_tbl ∧ (y.cls ≠ "java/lang/invoke/MethodHandle" ∧ y.cls ≠ "java/lang/invoke/VarHandle" ∧ (parseMethodDescriptor y.desc).map (fun d => d.parameters.length) = some n) ∧ nL ≤ 10
abbrev cX0_init : ByteArray := prog_2_method_1_code
def yX0_init : MethodName := ⟨RX0, "<init>", "(LBlushLamps$Town;)V"⟩
theorem kX0_init : mOK yX0_init cX0_init 2 none 1 := ⟨tb_2 _ (List.mem_of_getElem? (i := 59) rfl), tb_1 _ (List.mem_of_getElem? (i := 11) rfl), by decide +kernel, by decide⟩
theorem vX0_init : Cond.instanceMethod yX0_init ∈ lw_tbl := tb_2 _ (List.mem_of_getElem? (i := 58) rfl)
abbrev cX0_isDraughty : ByteArray := prog_2_method_2_code
def yX0_isDraughty : MethodName := ⟨RX0, "isDraughty", "(LBlushLamps$Town;II)Z"⟩
theorem kX0_isDraughty : mOK yX0_isDraughty cX0_isDraughty 3 (some .boolean) 3 := ⟨tb_4 _ (List.mem_of_getElem? (i := 156) rfl), tb_1 _ (List.mem_of_getElem? (i := 11) rfl), by decide +kernel, by decide⟩
theorem sX0_isDraughty : Cond.static yX0_isDraughty ∈ lw_tbl := tb_4 _ (List.mem_of_getElem? (i := 155) rfl)
abbrev cX0_passHours : ByteArray := prog_2_method_3_code
def yX0_passHours : MethodName := ⟨RX0, "passHours", "(LBlushLamps$Night;IIZ)V"⟩
theorem kX0_passHours : mOK yX0_passHours cX0_passHours 6 none 4 := ⟨tb_4 _ (List.mem_of_getElem? (i := 150) rfl), tb_1 _ (List.mem_of_getElem? (i := 11) rfl), by decide +kernel, by decide⟩
theorem vX0_passHours : Cond.instanceMethod yX0_passHours ∈ lw_tbl := tb_4 _ (List.mem_of_getElem? (i := 148) rfl)
theorem eX0_passHours : Cond.selects RX0 yX0_passHours yX0_passHours ∈ lw_tbl := tb_4 _ (List.mem_of_getElem? (i := 149) rfl)
abbrev cX0_nightIn : ByteArray := prog_2_method_4_code
def yX0_nightIn : MethodName := ⟨RX0, "nightIn", "(LBlushLamps$Night;II)LBlushLamps$Night;"⟩
theorem kX0_nightIn : mOK yX0_nightIn cX0_nightIn 4 (some (.object "BlushLamps$Night")) 3 := ⟨tb_5 _ (List.mem_of_getElem? (i := 186) rfl), tb_1 _ (List.mem_of_getElem? (i := 11) rfl), by decide +kernel, by decide⟩
theorem vX0_nightIn : Cond.instanceMethod yX0_nightIn ∈ lw_tbl := tb_5 _ (List.mem_of_getElem? (i := 184) rfl)
theorem eX0_nightIn : Cond.selects RX0 yX0_nightIn yX0_nightIn ∈ lw_tbl := tb_5 _ (List.mem_of_getElem? (i := 185) rfl)
abbrev cX0_hoursTillDark : ByteArray := prog_2_method_5_code
def yX0_hoursTillDark : MethodName := ⟨RX0, "hoursTillDark", "(LBlushLamps$Night;I)I"⟩
theorem kX0_hoursTillDark : mOK yX0_hoursTillDark cX0_hoursTillDark 4 (some .int) 2 := ⟨tb_4 _ (List.mem_of_getElem? (i := 220) rfl), tb_1 _ (List.mem_of_getElem? (i := 11) rfl), by decide +kernel, by decide⟩
theorem vX0_hoursTillDark : Cond.instanceMethod yX0_hoursTillDark ∈ lw_tbl := tb_4 _ (List.mem_of_getElem? (i := 218) rfl)
theorem eX0_hoursTillDark : Cond.selects RX0 yX0_hoursTillDark yX0_hoursTillDark ∈ lw_tbl := tb_4 _ (List.mem_of_getElem? (i := 219) rfl)
abbrev cX0_passHour : ByteArray := prog_2_method_6_code
def yX0_passHour : MethodName := ⟨RX0, "passHour", "(LBlushLamps$Night;I)V"⟩
theorem kX0_passHour : mOK yX0_passHour cX0_passHour 6 none 2 := ⟨tb_4 _ (List.mem_of_getElem? (i := 167) rfl), tb_1 _ (List.mem_of_getElem? (i := 11) rfl), by decide +kernel, by decide⟩
theorem vX0_passHour : Cond.instanceMethod yX0_passHour ∈ lw_tbl := tb_4 _ (List.mem_of_getElem? (i := 166) rfl)
theorem eX0_passHour : Cond.selects RX0 yX0_passHour yX0_passHour ∈ lw_tbl := List.mem_of_getElem? (i := 30) rfl
abbrev cX0_chilledCorner : ByteArray := prog_2_method_7_code
def yX0_chilledCorner : MethodName := ⟨RX0, "chilledCorner", "(LBlushLamps$Night;I)I"⟩
theorem kX0_chilledCorner : mOK yX0_chilledCorner cX0_chilledCorner 2 (some .int) 2 := ⟨tb_4 _ (List.mem_of_getElem? (i := 153) rfl), tb_1 _ (List.mem_of_getElem? (i := 11) rfl), by decide +kernel, by decide⟩
theorem sX0_chilledCorner : Cond.static yX0_chilledCorner ∈ lw_tbl := tb_4 _ (List.mem_of_getElem? (i := 152) rfl)
abbrev cX0_lot : ByteArray := prog_2_method_8_code
def yX0_lot : MethodName := ⟨RX0, "lot", "(III)I"⟩
theorem kX0_lot : mOK yX0_lot cX0_lot 4 (some .int) 3 := ⟨tb_4 _ (List.mem_of_getElem? (i := 159) rfl), tb_1 _ (List.mem_of_getElem? (i := 11) rfl), by decide +kernel, by decide⟩
theorem sX0_lot : Cond.static yX0_lot ∈ lw_tbl := tb_4 _ (List.mem_of_getElem? (i := 158) rfl)
abbrev cX0_stir : ByteArray := prog_2_method_9_code
def yX0_stir : MethodName := ⟨RX0, "stir", "(II)I"⟩
theorem kX0_stir : mOK yX0_stir cX0_stir 3 (some .int) 2 := ⟨tb_4 _ (List.mem_of_getElem? (i := 162) rfl), tb_1 _ (List.mem_of_getElem? (i := 11) rfl), by decide +kernel, by decide⟩
theorem sX0_stir : Cond.static yX0_stir ∈ lw_tbl := tb_4 _ (List.mem_of_getElem? (i := 161) rfl)
abbrev cX1_init : ByteArray := prog_3_method_1_code
def yX1_init : MethodName := ⟨RX1, "<init>", "()V"⟩
theorem kX1_init : mOK yX1_init cX1_init 1 none 0 := ⟨tb_2 _ (List.mem_of_getElem? (i := 195) rfl), tb_1 _ (List.mem_of_getElem? (i := 15) rfl), by decide +kernel, by decide⟩
theorem vX1_init : Cond.instanceMethod yX1_init ∈ lw_tbl := tb_2 _ (List.mem_of_getElem? (i := 194) rfl)
abbrev cX1_note : ByteArray := prog_3_method_2_code
def yX1_note : MethodName := ⟨RX1, "note", "(IIZ)V"⟩
theorem kX1_note : mOK yX1_note cX1_note 4 none 3 := ⟨tb_5 _ (List.mem_of_getElem? (i := 205) rfl), tb_1 _ (List.mem_of_getElem? (i := 15) rfl), by decide +kernel, by decide⟩
theorem vX1_note : Cond.instanceMethod yX1_note ∈ lw_tbl := tb_5 _ (List.mem_of_getElem? (i := 203) rfl)
theorem eX1_note : Cond.selects RX1 yX1_note yX1_note ∈ lw_tbl := tb_5 _ (List.mem_of_getElem? (i := 204) rfl)
abbrev cX1_fitting : ByteArray := prog_3_method_3_code
def yX1_fitting : MethodName := ⟨RX1, "fitting", "(LBlushLamps$Laws;LBlushLamps$Night;I)I"⟩
theorem kX1_fitting : mOK yX1_fitting cX1_fitting 6 (some .int) 3 := ⟨tb_5 _ (List.mem_of_getElem? (i := 221) rfl), tb_1 _ (List.mem_of_getElem? (i := 15) rfl), by decide +kernel, by decide⟩
theorem vX1_fitting : Cond.instanceMethod yX1_fitting ∈ lw_tbl := tb_5 _ (List.mem_of_getElem? (i := 219) rfl)
theorem eX1_fitting : Cond.selects RX1 yX1_fitting yX1_fitting ∈ lw_tbl := tb_5 _ (List.mem_of_getElem? (i := 220) rfl)
abbrev cX1_mostTelling : ByteArray := prog_3_method_4_code
def yX1_mostTelling : MethodName := ⟨RX1, "mostTelling", "(LBlushLamps$Laws;LBlushLamps$Night;II)I"⟩
theorem kX1_mostTelling : mOK yX1_mostTelling cX1_mostTelling 8 (some .int) 4 := ⟨tb_5 _ (List.mem_of_getElem? (i := 233) rfl), tb_1 _ (List.mem_of_getElem? (i := 15) rfl), by decide +kernel, by decide⟩
theorem sX1_mostTelling : Cond.static yX1_mostTelling ∈ lw_tbl := tb_5 _ (List.mem_of_getElem? (i := 232) rfl)
abbrev cX1_isFitting : ByteArray := prog_3_method_5_code
def yX1_isFitting : MethodName := ⟨RX1, "isFitting", "(LBlushLamps$Laws;LBlushLamps$Night;II)Z"⟩
theorem kX1_isFitting : mOK yX1_isFitting cX1_isFitting 7 (some .boolean) 4 := ⟨tb_5 _ (List.mem_of_getElem? (i := 225) rfl), tb_1 _ (List.mem_of_getElem? (i := 15) rfl), by decide +kernel, by decide⟩
theorem vX1_isFitting : Cond.instanceMethod yX1_isFitting ∈ lw_tbl := tb_5 _ (List.mem_of_getElem? (i := 224) rfl)
theorem eX1_isFitting : Cond.selects RX1 yX1_isFitting yX1_isFitting ∈ lw_tbl := List.mem_of_getElem? (i := 39) rfl
abbrev cX1_leftAtWorst : ByteArray := prog_3_method_6_code
def yX1_leftAtWorst : MethodName := ⟨RX1, "leftAtWorst", "(LBlushLamps$Laws;LBlushLamps$Night;III)I"⟩
theorem kX1_leftAtWorst : mOK yX1_leftAtWorst cX1_leftAtWorst 7 (some .int) 5 := ⟨tb_5 _ (List.mem_of_getElem? (i := 237) rfl), tb_1 _ (List.mem_of_getElem? (i := 15) rfl), by decide +kernel, by decide⟩
theorem sX1_leftAtWorst : Cond.static yX1_leftAtWorst ∈ lw_tbl := tb_5 _ (List.mem_of_getElem? (i := 236) rfl)
abbrev cX2_init : ByteArray := prog_4_method_1_code
def yX2_init : MethodName := ⟨RX2, "<init>", "()V"⟩
theorem kX2_init : mOK yX2_init cX2_init 1 none 0 := ⟨tb_2 _ (List.mem_of_getElem? (i := 46) rfl), tb_1 _ (List.mem_of_getElem? (i := 10) rfl), by decide +kernel, by decide⟩
theorem vX2_init : Cond.instanceMethod yX2_init ∈ lw_tbl := tb_2 _ (List.mem_of_getElem? (i := 45) rfl)
abbrev cX2_glows : ByteArray := prog_4_method_2_code
def yX2_glows : MethodName := ⟨RX2, "glows", "(LBlushLamps$Night;II)I"⟩
theorem kX2_glows : mOK yX2_glows cX2_glows 4 (some .int) 3 := ⟨tb_4 _ (List.mem_of_getElem? (i := 121) rfl), tb_1 _ (List.mem_of_getElem? (i := 10) rfl), by decide +kernel, by decide⟩
theorem vX2_glows : Cond.instanceMethod yX2_glows ∈ lw_tbl := tb_4 _ (List.mem_of_getElem? (i := 119) rfl)
theorem eX2_glows : Cond.selects RX2 yX2_glows yX2_glows ∈ lw_tbl := tb_4 _ (List.mem_of_getElem? (i := 120) rfl)
abbrev cX2_wears : ByteArray := prog_4_method_3_code
def yX2_wears : MethodName := ⟨RX2, "wears", "(LBlushLamps$Night;II)I"⟩
theorem kX2_wears : mOK yX2_wears cX2_wears 4 (some .int) 3 := ⟨tb_4 _ (List.mem_of_getElem? (i := 125) rfl), tb_1 _ (List.mem_of_getElem? (i := 10) rfl), by decide +kernel, by decide⟩
theorem vX2_wears : Cond.instanceMethod yX2_wears ∈ lw_tbl := tb_4 _ (List.mem_of_getElem? (i := 123) rfl)
theorem eX2_wears : Cond.selects RX2 yX2_wears yX2_wears ∈ lw_tbl := tb_4 _ (List.mem_of_getElem? (i := 124) rfl)
abbrev cX2_cools : ByteArray := prog_4_method_4_code
def yX2_cools : MethodName := ⟨RX2, "cools", "(LBlushLamps$Night;I)I"⟩
theorem kX2_cools : mOK yX2_cools cX2_cools 3 (some .int) 2 := ⟨tb_4 _ (List.mem_of_getElem? (i := 87) rfl), tb_1 _ (List.mem_of_getElem? (i := 10) rfl), by decide +kernel, by decide⟩
theorem vX2_cools : Cond.instanceMethod yX2_cools ∈ lw_tbl := tb_4 _ (List.mem_of_getElem? (i := 85) rfl)
theorem eX2_cools : Cond.selects RX2 yX2_cools yX2_cools ∈ lw_tbl := tb_4 _ (List.mem_of_getElem? (i := 86) rfl)
abbrev cX2_leaves : ByteArray := prog_4_method_5_code
def yX2_leaves : MethodName := ⟨RX2, "leaves", "(LBlushLamps$Night;I)Z"⟩
theorem kX2_leaves : mOK yX2_leaves cX2_leaves 3 (some .boolean) 2 := ⟨tb_4 _ (List.mem_of_getElem? (i := 105) rfl), tb_1 _ (List.mem_of_getElem? (i := 10) rfl), by decide +kernel, by decide⟩
theorem vX2_leaves : Cond.instanceMethod yX2_leaves ∈ lw_tbl := tb_4 _ (List.mem_of_getElem? (i := 103) rfl)
theorem eX2_leaves : Cond.selects RX2 yX2_leaves yX2_leaves ∈ lw_tbl := tb_4 _ (List.mem_of_getElem? (i := 104) rfl)
abbrev cX2_glowIfTold : ByteArray := prog_4_method_6_code
def yX2_glowIfTold : MethodName := ⟨RX2, "glowIfTold", "(LBlushLamps$Night;II)I"⟩
theorem kX2_glowIfTold : mOK yX2_glowIfTold cX2_glowIfTold 4 (some .int) 3 := ⟨tb_4 _ (List.mem_of_getElem? (i := 183) rfl), tb_1 _ (List.mem_of_getElem? (i := 10) rfl), by decide +kernel, by decide⟩
theorem vX2_glowIfTold : Cond.instanceMethod yX2_glowIfTold ∈ lw_tbl := tb_4 _ (List.mem_of_getElem? (i := 181) rfl)
theorem eX2_glowIfTold : Cond.selects RX2 yX2_glowIfTold yX2_glowIfTold ∈ lw_tbl := tb_4 _ (List.mem_of_getElem? (i := 182) rfl)
abbrev cX2_hottestFor : ByteArray := prog_4_method_7_code
def yX2_hottestFor : MethodName := ⟨RX2, "hottestFor", "(LBlushLamps$Night;I)I"⟩
theorem kX2_hottestFor : mOK yX2_hottestFor cX2_hottestFor 7 (some .int) 2 := ⟨tb_5 _ (List.mem_of_getElem? (i := 23) rfl), tb_1 _ (List.mem_of_getElem? (i := 10) rfl), by decide +kernel, by decide⟩
theorem vX2_hottestFor : Cond.instanceMethod yX2_hottestFor ∈ lw_tbl := tb_5 _ (List.mem_of_getElem? (i := 21) rfl)
theorem eX2_hottestFor : Cond.selects RX2 yX2_hottestFor yX2_hottestFor ∈ lw_tbl := tb_5 _ (List.mem_of_getElem? (i := 22) rfl)
abbrev cX2_mostLasting : ByteArray := prog_4_method_8_code
def yX2_mostLasting : MethodName := ⟨RX2, "mostLasting", "(LBlushLamps$Night;I)I"⟩
theorem kX2_mostLasting : mOK yX2_mostLasting cX2_mostLasting 7 (some .int) 2 := ⟨tb_5 _ (List.mem_of_getElem? (i := 36) rfl), tb_1 _ (List.mem_of_getElem? (i := 10) rfl), by decide +kernel, by decide⟩
theorem vX2_mostLasting : Cond.instanceMethod yX2_mostLasting ∈ lw_tbl := tb_5 _ (List.mem_of_getElem? (i := 34) rfl)
theorem eX2_mostLasting : Cond.selects RX2 yX2_mostLasting yX2_mostLasting ∈ lw_tbl := tb_5 _ (List.mem_of_getElem? (i := 35) rfl)
abbrev cX2_apart : ByteArray := prog_4_method_9_code
def yX2_apart : MethodName := ⟨RX2, "apart", "(LBlushLamps$Night;II)I"⟩
theorem kX2_apart : mOK yX2_apart cX2_apart 6 (some .int) 3 := ⟨tb_5 _ (List.mem_of_getElem? (i := 165) rfl), tb_1 _ (List.mem_of_getElem? (i := 10) rfl), by decide +kernel, by decide⟩
theorem vX2_apart : Cond.instanceMethod yX2_apart ∈ lw_tbl := tb_5 _ (List.mem_of_getElem? (i := 163) rfl)
theorem eX2_apart : Cond.selects RX2 yX2_apart yX2_apart ∈ lw_tbl := tb_5 _ (List.mem_of_getElem? (i := 164) rfl)
abbrev cX2_mostAlike : ByteArray := prog_4_method_10_code
def yX2_mostAlike : MethodName := ⟨RX2, "mostAlike", "(LBlushLamps$Night;)I"⟩
theorem kX2_mostAlike : mOK yX2_mostAlike cX2_mostAlike 7 (some .int) 1 := ⟨tb_5 _ (List.mem_of_getElem? (i := 161) rfl), tb_1 _ (List.mem_of_getElem? (i := 10) rfl), by decide +kernel, by decide⟩
theorem vX2_mostAlike : Cond.instanceMethod yX2_mostAlike ∈ lw_tbl := tb_5 _ (List.mem_of_getElem? (i := 159) rfl)
theorem eX2_mostAlike : Cond.selects RX2 yX2_mostAlike yX2_mostAlike ∈ lw_tbl := tb_5 _ (List.mem_of_getElem? (i := 160) rfl)
abbrev cX2_held : ByteArray := prog_4_method_11_code
def yX2_held : MethodName := ⟨RX2, "held", "(I)I"⟩
theorem kX2_held : mOK yX2_held cX2_held 1 (some .int) 1 := ⟨tb_4 _ (List.mem_of_getElem? (i := 99) rfl), tb_1 _ (List.mem_of_getElem? (i := 10) rfl), by decide +kernel, by decide⟩
theorem sX2_held : Cond.static yX2_held ∈ lw_tbl := tb_4 _ (List.mem_of_getElem? (i := 98) rfl)
abbrev cX2_lawOf : ByteArray := prog_4_method_12_code
def yX2_lawOf : MethodName := ⟨RX2, "lawOf", "(ILBlushLamps$Night;II)I"⟩
theorem kX2_lawOf : mOK yX2_lawOf cX2_lawOf 6 (some .int) 4 := ⟨tb_4 _ (List.mem_of_getElem? (i := 91) rfl), tb_1 _ (List.mem_of_getElem? (i := 10) rfl), by decide +kernel, by decide⟩
theorem vX2_lawOf : Cond.instanceMethod yX2_lawOf ∈ lw_tbl := tb_4 _ (List.mem_of_getElem? (i := 90) rfl)
theorem eX2_lawOf : Cond.selects RX2 yX2_lawOf yX2_lawOf ∈ lw_tbl := List.mem_of_getElem? (i := 26) rfl
abbrev cX2_run : ByteArray := prog_4_method_13_code
def yX2_run : MethodName := ⟨RX2, "run", "(LBlushLamps$Town;I)I"⟩
theorem kX2_run : mOK yX2_run cX2_run 10 (some .int) 2 := ⟨tb_4 _ (List.mem_of_getElem? (i := 96) rfl), tb_1 _ (List.mem_of_getElem? (i := 10) rfl), by decide +kernel, by decide⟩
theorem vX2_run : Cond.instanceMethod yX2_run ∈ lw_tbl := tb_4 _ (List.mem_of_getElem? (i := 95) rfl)
theorem eX2_run : Cond.selects RX2 yX2_run yX2_run ∈ lw_tbl := List.mem_of_getElem? (i := 27) rfl
abbrev cX3_init : ByteArray := prog_5_method_1_code
def yX3_init : MethodName := ⟨RX3, "<init>", "(LBlushLamps$Town;)V"⟩
theorem kX3_init : mOK yX3_init cX3_init 2 none 1 := ⟨tb_2 _ (List.mem_of_getElem? (i := 67) rfl), tb_1 _ (List.mem_of_getElem? (i := 12) rfl), by decide +kernel, by decide⟩
theorem vX3_init : Cond.instanceMethod yX3_init ∈ lw_tbl := tb_2 _ (List.mem_of_getElem? (i := 66) rfl)
abbrev cX3_begin : ByteArray := prog_5_method_2_code
def yX3_begin : MethodName := ⟨RX3, "begin", "(LBlushLamps$Town;)V"⟩
theorem kX3_begin : mOK yX3_begin cX3_begin 2 none 1 := ⟨tb_4 _ (List.mem_of_getElem? (i := 13) rfl), tb_1 _ (List.mem_of_getElem? (i := 12) rfl), by decide +kernel, by decide⟩
theorem vX3_begin : Cond.instanceMethod yX3_begin ∈ lw_tbl := tb_4 _ (List.mem_of_getElem? (i := 11) rfl)
theorem eX3_begin : Cond.selects RX3 yX3_begin yX3_begin ∈ lw_tbl := tb_4 _ (List.mem_of_getElem? (i := 12) rfl)
abbrev cX3_copyFrom : ByteArray := prog_5_method_3_code
def yX3_copyFrom : MethodName := ⟨RX3, "copyFrom", "(LBlushLamps$Night;)V"⟩
theorem kX3_copyFrom : mOK yX3_copyFrom cX3_copyFrom 2 none 1 := ⟨tb_4 _ (List.mem_of_getElem? (i := 224) rfl), tb_1 _ (List.mem_of_getElem? (i := 12) rfl), by decide +kernel, by decide⟩
theorem vX3_copyFrom : Cond.instanceMethod yX3_copyFrom ∈ lw_tbl := tb_4 _ (List.mem_of_getElem? (i := 222) rfl)
theorem eX3_copyFrom : Cond.selects RX3 yX3_copyFrom yX3_copyFrom ∈ lw_tbl := tb_4 _ (List.mem_of_getElem? (i := 223) rfl)
abbrev cX3_isHome : ByteArray := prog_5_method_4_code
def yX3_isHome : MethodName := ⟨RX3, "isHome", "(I)Z"⟩
theorem kX3_isHome : mOK yX3_isHome cX3_isHome 2 (some .boolean) 1 := ⟨tb_4 _ (List.mem_of_getElem? (i := 47) rfl), tb_1 _ (List.mem_of_getElem? (i := 12) rfl), by decide +kernel, by decide⟩
theorem vX3_isHome : Cond.instanceMethod yX3_isHome ∈ lw_tbl := tb_4 _ (List.mem_of_getElem? (i := 45) rfl)
theorem eX3_isHome : Cond.selects RX3 yX3_isHome yX3_isHome ∈ lw_tbl := tb_4 _ (List.mem_of_getElem? (i := 46) rfl)
abbrev cX3_since : ByteArray := prog_5_method_5_code
def yX3_since : MethodName := ⟨RX3, "since", "(I)I"⟩
theorem kX3_since : mOK yX3_since cX3_since 2 (some .int) 1 := ⟨tb_4 _ (List.mem_of_getElem? (i := 83) rfl), tb_1 _ (List.mem_of_getElem? (i := 12) rfl), by decide +kernel, by decide⟩
theorem vX3_since : Cond.instanceMethod yX3_since ∈ lw_tbl := tb_4 _ (List.mem_of_getElem? (i := 81) rfl)
theorem eX3_since : Cond.selects RX3 yX3_since yX3_since ∈ lw_tbl := tb_4 _ (List.mem_of_getElem? (i := 82) rfl)
abbrev cX3_lightAt : ByteArray := prog_5_method_6_code
def yX3_lightAt : MethodName := ⟨RX3, "lightAt", "(I)I"⟩
theorem kX3_lightAt : mOK yX3_lightAt cX3_lightAt 4 (some .int) 1 := ⟨tb_4 _ (List.mem_of_getElem? (i := 39) rfl), tb_1 _ (List.mem_of_getElem? (i := 12) rfl), by decide +kernel, by decide⟩
theorem vX3_lightAt : Cond.instanceMethod yX3_lightAt ∈ lw_tbl := tb_4 _ (List.mem_of_getElem? (i := 37) rfl)
theorem eX3_lightAt : Cond.selects RX3 yX3_lightAt yX3_lightAt ∈ lw_tbl := tb_4 _ (List.mem_of_getElem? (i := 38) rfl)
abbrev cX3_whoIsAt : ByteArray := prog_5_method_7_code
def yX3_whoIsAt : MethodName := ⟨RX3, "whoIsAt", "(I)I"⟩
theorem kX3_whoIsAt : mOK yX3_whoIsAt cX3_whoIsAt 4 (some .int) 1 := ⟨tb_4 _ (List.mem_of_getElem? (i := 43) rfl), tb_1 _ (List.mem_of_getElem? (i := 12) rfl), by decide +kernel, by decide⟩
theorem vX3_whoIsAt : Cond.instanceMethod yX3_whoIsAt ∈ lw_tbl := tb_4 _ (List.mem_of_getElem? (i := 41) rfl)
theorem eX3_whoIsAt : Cond.selects RX3 yX3_whoIsAt yX3_whoIsAt ∈ lw_tbl := tb_4 _ (List.mem_of_getElem? (i := 42) rfl)
abbrev cX3_cornersInUse : ByteArray := prog_5_method_8_code
def yX3_cornersInUse : MethodName := ⟨RX3, "cornersInUse", "()I"⟩
theorem kX3_cornersInUse : mOK yX3_cornersInUse cX3_cornersInUse 3 (some .int) 0 := ⟨tb_5 _ (List.mem_of_getElem? (i := 59) rfl), tb_1 _ (List.mem_of_getElem? (i := 12) rfl), by decide +kernel, by decide⟩
theorem vX3_cornersInUse : Cond.instanceMethod yX3_cornersInUse ∈ lw_tbl := tb_5 _ (List.mem_of_getElem? (i := 57) rfl)
theorem eX3_cornersInUse : Cond.selects RX3 yX3_cornersInUse yX3_cornersInUse ∈ lw_tbl := tb_5 _ (List.mem_of_getElem? (i := 58) rfl)
abbrev cX3_firstOut : ByteArray := prog_5_method_9_code
def yX3_firstOut : MethodName := ⟨RX3, "firstOut", "()I"⟩
theorem kX3_firstOut : mOK yX3_firstOut cX3_firstOut 2 (some .int) 0 := ⟨tb_5 _ (List.mem_of_getElem? (i := 32) rfl), tb_1 _ (List.mem_of_getElem? (i := 12) rfl), by decide +kernel, by decide⟩
theorem vX3_firstOut : Cond.instanceMethod yX3_firstOut ∈ lw_tbl := tb_5 _ (List.mem_of_getElem? (i := 30) rfl)
theorem eX3_firstOut : Cond.selects RX3 yX3_firstOut yX3_firstOut ∈ lw_tbl := tb_5 _ (List.mem_of_getElem? (i := 31) rfl)
abbrev cX3_lightestCorner : ByteArray := prog_5_method_10_code
def yX3_lightestCorner : MethodName := ⟨RX3, "lightestCorner", "()I"⟩
theorem kX3_lightestCorner : mOK yX3_lightestCorner cX3_lightestCorner 3 (some .int) 0 := ⟨tb_5 _ (List.mem_of_getElem? (i := 178) rfl), tb_1 _ (List.mem_of_getElem? (i := 12) rfl), by decide +kernel, by decide⟩
theorem vX3_lightestCorner : Cond.instanceMethod yX3_lightestCorner ∈ lw_tbl := tb_5 _ (List.mem_of_getElem? (i := 176) rfl)
theorem eX3_lightestCorner : Cond.selects RX3 yX3_lightestCorner yX3_lightestCorner ∈ lw_tbl := tb_5 _ (List.mem_of_getElem? (i := 177) rfl)
abbrev cX3_needsOf : ByteArray := prog_5_method_11_code
def yX3_needsOf : MethodName := ⟨RX3, "needsOf", "(I)I"⟩
theorem kX3_needsOf : mOK yX3_needsOf cX3_needsOf 2 (some .int) 1 := ⟨tb_4 _ (List.mem_of_getElem? (i := 67) rfl), tb_1 _ (List.mem_of_getElem? (i := 12) rfl), by decide +kernel, by decide⟩
theorem vX3_needsOf : Cond.instanceMethod yX3_needsOf ∈ lw_tbl := tb_4 _ (List.mem_of_getElem? (i := 65) rfl)
theorem eX3_needsOf : Cond.selects RX3 yX3_needsOf yX3_needsOf ∈ lw_tbl := tb_4 _ (List.mem_of_getElem? (i := 66) rfl)
abbrev cX3_isLit : ByteArray := prog_5_method_12_code
def yX3_isLit : MethodName := ⟨RX3, "isLit", "(I)Z"⟩
theorem kX3_isLit : mOK yX3_isLit cX3_isLit 2 (some .boolean) 1 := ⟨tb_4 _ (List.mem_of_getElem? (i := 63) rfl), tb_1 _ (List.mem_of_getElem? (i := 12) rfl), by decide +kernel, by decide⟩
theorem vX3_isLit : Cond.instanceMethod yX3_isLit ∈ lw_tbl := tb_4 _ (List.mem_of_getElem? (i := 61) rfl)
theorem eX3_isLit : Cond.selects RX3 yX3_isLit yX3_isLit ∈ lw_tbl := tb_4 _ (List.mem_of_getElem? (i := 62) rfl)
abbrev cX3_litStreets : ByteArray := prog_5_method_13_code
def yX3_litStreets : MethodName := ⟨RX3, "litStreets", "()I"⟩
theorem kX3_litStreets : mOK yX3_litStreets cX3_litStreets 3 (some .int) 0 := ⟨tb_5 _ (List.mem_of_getElem? (i := 76) rfl), tb_1 _ (List.mem_of_getElem? (i := 12) rfl), by decide +kernel, by decide⟩
theorem vX3_litStreets : Cond.instanceMethod yX3_litStreets ∈ lw_tbl := tb_5 _ (List.mem_of_getElem? (i := 74) rfl)
theorem eX3_litStreets : Cond.selects RX3 yX3_litStreets yX3_litStreets ∈ lw_tbl := tb_5 _ (List.mem_of_getElem? (i := 75) rfl)
abbrev cX3_needsOfAll : ByteArray := prog_5_method_14_code
def yX3_needsOfAll : MethodName := ⟨RX3, "needsOfAll", "()I"⟩
theorem kX3_needsOfAll : mOK yX3_needsOfAll cX3_needsOfAll 3 (some .int) 0 := ⟨tb_6 _ (List.mem_of_getElem? (i := 27) rfl), tb_1 _ (List.mem_of_getElem? (i := 12) rfl), by decide +kernel, by decide⟩
theorem vX3_needsOfAll : Cond.instanceMethod yX3_needsOfAll ∈ lw_tbl := tb_6 _ (List.mem_of_getElem? (i := 25) rfl)
theorem eX3_needsOfAll : Cond.selects RX3 yX3_needsOfAll yX3_needsOfAll ∈ lw_tbl := tb_6 _ (List.mem_of_getElem? (i := 26) rfl)
abbrev cX4_init : ByteArray := prog_6_method_1_code
def yX4_init : MethodName := ⟨RX4, "<init>", "()V"⟩
theorem kX4_init : mOK yX4_init cX4_init 1 none 0 := ⟨tb_2 _ (List.mem_of_getElem? (i := 215) rfl), tb_1 _ (List.mem_of_getElem? (i := 16) rfl), by decide +kernel, by decide⟩
theorem vX4_init : Cond.instanceMethod yX4_init ∈ lw_tbl := tb_2 _ (List.mem_of_getElem? (i := 214) rfl)
abbrev cX4_clear : ByteArray := prog_6_method_2_code
def yX4_clear : MethodName := ⟨RX4, "clear", "()V"⟩
theorem kX4_clear : mOK yX4_clear cX4_clear 1 none 0 := ⟨tb_4 _ (List.mem_of_getElem? (i := 23) rfl), tb_1 _ (List.mem_of_getElem? (i := 16) rfl), by decide +kernel, by decide⟩
theorem vX4_clear : Cond.instanceMethod yX4_clear ∈ lw_tbl := tb_4 _ (List.mem_of_getElem? (i := 21) rfl)
theorem eX4_clear : Cond.selects RX4 yX4_clear yX4_clear ∈ lw_tbl := tb_4 _ (List.mem_of_getElem? (i := 22) rfl)
abbrev cX4_note : ByteArray := prog_6_method_3_code
def yX4_note : MethodName := ⟨RX4, "note", "(LBlushLamps$Night;)V"⟩
theorem kX4_note : mOK yX4_note cX4_note 2 none 1 := ⟨tb_4 _ (List.mem_of_getElem? (i := 141) rfl), tb_1 _ (List.mem_of_getElem? (i := 16) rfl), by decide +kernel, by decide⟩
theorem vX4_note : Cond.instanceMethod yX4_note ∈ lw_tbl := tb_4 _ (List.mem_of_getElem? (i := 139) rfl)
theorem eX4_note : Cond.selects RX4 yX4_note yX4_note ∈ lw_tbl := tb_4 _ (List.mem_of_getElem? (i := 140) rfl)
abbrev cX4_takeBack : ByteArray := prog_6_method_4_code
def yX4_takeBack : MethodName := ⟨RX4, "takeBack", "(LBlushLamps$Night;)Z"⟩
theorem kX4_takeBack : mOK yX4_takeBack cX4_takeBack 2 (some .boolean) 1 := ⟨tb_4 _ (List.mem_of_getElem? (i := 209) rfl), tb_1 _ (List.mem_of_getElem? (i := 16) rfl), by decide +kernel, by decide⟩
theorem vX4_takeBack : Cond.instanceMethod yX4_takeBack ∈ lw_tbl := tb_4 _ (List.mem_of_getElem? (i := 207) rfl)
theorem eX4_takeBack : Cond.selects RX4 yX4_takeBack yX4_takeBack ∈ lw_tbl := tb_4 _ (List.mem_of_getElem? (i := 208) rfl)
abbrev cX4_keepIn : ByteArray := prog_6_method_5_code
def yX4_keepIn : MethodName := ⟨RX4, "keepIn", "(ILBlushLamps$Night;)Z"⟩
theorem kX4_keepIn : mOK yX4_keepIn cX4_keepIn 3 (some .boolean) 2 := ⟨tb_6 _ (List.mem_of_getElem? (i := 7) rfl), tb_1 _ (List.mem_of_getElem? (i := 16) rfl), by decide +kernel, by decide⟩
theorem vX4_keepIn : Cond.instanceMethod yX4_keepIn ∈ lw_tbl := tb_6 _ (List.mem_of_getElem? (i := 5) rfl)
theorem eX4_keepIn : Cond.selects RX4 yX4_keepIn yX4_keepIn ∈ lw_tbl := tb_6 _ (List.mem_of_getElem? (i := 6) rfl)
abbrev cX4_takeFrom : ByteArray := prog_6_method_6_code
def yX4_takeFrom : MethodName := ⟨RX4, "takeFrom", "(ILBlushLamps$Night;)Z"⟩
theorem kX4_takeFrom : mOK yX4_takeFrom cX4_takeFrom 3 (some .boolean) 2 := ⟨tb_6 _ (List.mem_of_getElem? (i := 15) rfl), tb_1 _ (List.mem_of_getElem? (i := 16) rfl), by decide +kernel, by decide⟩
theorem vX4_takeFrom : Cond.instanceMethod yX4_takeFrom ∈ lw_tbl := tb_6 _ (List.mem_of_getElem? (i := 13) rfl)
theorem eX4_takeFrom : Cond.selects RX4 yX4_takeFrom yX4_takeFrom ∈ lw_tbl := tb_6 _ (List.mem_of_getElem? (i := 14) rfl)
abbrev cX4_write : ByteArray := prog_6_method_7_code
def yX4_write : MethodName := ⟨RX4, "write", "(LBlushLamps$Night;[II)V"⟩
theorem kX4_write : mOK yX4_write cX4_write 4 none 3 := ⟨tb_4 _ (List.mem_of_getElem? (i := 144) rfl), tb_1 _ (List.mem_of_getElem? (i := 16) rfl), by decide +kernel, by decide⟩
theorem sX4_write : Cond.static yX4_write ∈ lw_tbl := tb_4 _ (List.mem_of_getElem? (i := 143) rfl)
abbrev cX4_writeBack : ByteArray := prog_6_method_8_code
def yX4_writeBack : MethodName := ⟨RX4, "writeBack", "([IILBlushLamps$Night;)V"⟩
theorem kX4_writeBack : mOK yX4_writeBack cX4_writeBack 4 none 3 := ⟨tb_4 _ (List.mem_of_getElem? (i := 212) rfl), tb_1 _ (List.mem_of_getElem? (i := 16) rfl), by decide +kernel, by decide⟩
theorem sX4_writeBack : Cond.static yX4_writeBack ∈ lw_tbl := tb_4 _ (List.mem_of_getElem? (i := 211) rfl)
abbrev cX5_init : ByteArray := prog_7_method_1_code
def yX5_init : MethodName := ⟨RX5, "<init>", "()V"⟩
theorem kX5_init : mOK yX5_init cX5_init 1 none 0 := ⟨tb_2 _ (List.mem_of_getElem? (i := 164) rfl), tb_1 _ (List.mem_of_getElem? (i := 14) rfl), by decide +kernel, by decide⟩
theorem vX5_init : Cond.instanceMethod yX5_init ∈ lw_tbl := tb_2 _ (List.mem_of_getElem? (i := 163) rfl)
abbrev cX5_search : ByteArray := prog_7_method_2_code
def yX5_search : MethodName := ⟨RX5, "search", "(LBlushLamps$Night;)V"⟩
theorem kX5_search : mOK yX5_search cX5_search 4 none 1 := ⟨tb_4 _ (List.mem_of_getElem? (i := 234) rfl), tb_1 _ (List.mem_of_getElem? (i := 14) rfl), by decide +kernel, by decide⟩
theorem vX5_search : Cond.instanceMethod yX5_search ∈ lw_tbl := tb_4 _ (List.mem_of_getElem? (i := 232) rfl)
theorem eX5_search : Cond.selects RX5 yX5_search yX5_search ∈ lw_tbl := tb_4 _ (List.mem_of_getElem? (i := 233) rfl)
abbrev cX5_fewestFor : ByteArray := prog_7_method_3_code
def yX5_fewestFor : MethodName := ⟨RX5, "fewestFor", "(LBlushLamps$Night;I)I"⟩
theorem kX5_fewestFor : mOK yX5_fewestFor cX5_fewestFor 8 (some .int) 2 := ⟨tb_5 _ (List.mem_of_getElem? (i := 116) rfl), tb_1 _ (List.mem_of_getElem? (i := 14) rfl), by decide +kernel, by decide⟩
theorem vX5_fewestFor : Cond.instanceMethod yX5_fewestFor ∈ lw_tbl := tb_5 _ (List.mem_of_getElem? (i := 114) rfl)
theorem eX5_fewestFor : Cond.selects RX5 yX5_fewestFor yX5_fewestFor ∈ lw_tbl := tb_5 _ (List.mem_of_getElem? (i := 115) rfl)
abbrev cX5_stand : ByteArray := prog_7_method_4_code
def yX5_stand : MethodName := ⟨RX5, "stand", "(LBlushLamps$Night;II)V"⟩
theorem kX5_stand : mOK yX5_stand cX5_stand 8 none 3 := ⟨tb_4 _ (List.mem_of_getElem? (i := 239) rfl), tb_1 _ (List.mem_of_getElem? (i := 14) rfl), by decide +kernel, by decide⟩
theorem vX5_stand : Cond.instanceMethod yX5_stand ∈ lw_tbl := tb_4 _ (List.mem_of_getElem? (i := 238) rfl)
theorem eX5_stand : Cond.selects RX5 yX5_stand yX5_stand ∈ lw_tbl := List.mem_of_getElem? (i := 32) rfl
abbrev cX5_standLast : ByteArray := prog_7_method_5_code
def yX5_standLast : MethodName := ⟨RX5, "standLast", "(LBlushLamps$Night;)V"⟩
theorem kX5_standLast : mOK yX5_standLast cX5_standLast 6 none 1 := ⟨tb_5 _ (List.mem_of_getElem? (i := 3) rfl), tb_1 _ (List.mem_of_getElem? (i := 14) rfl), by decide +kernel, by decide⟩
theorem vX5_standLast : Cond.instanceMethod yX5_standLast ∈ lw_tbl := tb_5 _ (List.mem_of_getElem? (i := 2) rfl)
theorem eX5_standLast : Cond.selects RX5 yX5_standLast yX5_standLast ∈ lw_tbl := List.mem_of_getElem? (i := 33) rfl
abbrev cX5_lowestFor : ByteArray := prog_7_method_6_code
def yX5_lowestFor : MethodName := ⟨RX5, "lowestFor", "(LBlushLamps$Night;I)I"⟩
theorem kX5_lowestFor : mOK yX5_lowestFor cX5_lowestFor 4 (some .int) 2 := ⟨tb_5 _ (List.mem_of_getElem? (i := 12) rfl), tb_1 _ (List.mem_of_getElem? (i := 14) rfl), by decide +kernel, by decide⟩
theorem vX5_lowestFor : Cond.instanceMethod yX5_lowestFor ∈ lw_tbl := tb_5 _ (List.mem_of_getElem? (i := 11) rfl)
theorem eX5_lowestFor : Cond.selects RX5 yX5_lowestFor yX5_lowestFor ∈ lw_tbl := List.mem_of_getElem? (i := 35) rfl
abbrev cX5_litWith : ByteArray := prog_7_method_7_code
def yX5_litWith : MethodName := ⟨RX5, "litWith", "(LBlushLamps$Town;I)I"⟩
theorem kX5_litWith : mOK yX5_litWith cX5_litWith 5 (some .int) 2 := ⟨tb_5 _ (List.mem_of_getElem? (i := 8) rfl), tb_1 _ (List.mem_of_getElem? (i := 14) rfl), by decide +kernel, by decide⟩
theorem vX5_litWith : Cond.instanceMethod yX5_litWith ∈ lw_tbl := tb_5 _ (List.mem_of_getElem? (i := 7) rfl)
theorem eX5_litWith : Cond.selects RX5 yX5_litWith yX5_litWith ∈ lw_tbl := List.mem_of_getElem? (i := 34) rfl
abbrev cX5_glowOf : ByteArray := prog_7_method_8_code
def yX5_glowOf : MethodName := ⟨RX5, "glowOf", "(LBlushLamps$Night;I)I"⟩
theorem kX5_glowOf : mOK yX5_glowOf cX5_glowOf 4 (some .int) 2 := ⟨tb_5 _ (List.mem_of_getElem? (i := 127) rfl), tb_1 _ (List.mem_of_getElem? (i := 14) rfl), by decide +kernel, by decide⟩
theorem sX5_glowOf : Cond.static yX5_glowOf ∈ lw_tbl := tb_5 _ (List.mem_of_getElem? (i := 126) rfl)
abbrev cX6_init : ByteArray := prog_8_method_1_code
def yX6_init : MethodName := ⟨RX6, "<init>", "(LBlushLamps$Town;)V"⟩
theorem kX6_init : mOK yX6_init cX6_init 2 none 1 := ⟨tb_1 _ (List.mem_of_getElem? (i := 171) rfl), tb_1 _ (List.mem_of_getElem? (i := 4) rfl), by decide +kernel, by decide⟩
theorem vX6_init : Cond.instanceMethod yX6_init ∈ lw_tbl := tb_1 _ (List.mem_of_getElem? (i := 170) rfl)
abbrev cX6_readInto : ByteArray := prog_8_method_2_code
def yX6_readInto : MethodName := ⟨RX6, "readInto", "(LBlushLamps$Tape;LBlushLamps$Town;)I"⟩
theorem kX6_readInto : mOK yX6_readInto cX6_readInto 5 (some .int) 2 := ⟨tb_3 _ (List.mem_of_getElem? (i := 53) rfl), tb_1 _ (List.mem_of_getElem? (i := 4) rfl), by decide +kernel, by decide⟩
theorem vX6_readInto : Cond.instanceMethod yX6_readInto ∈ lw_tbl := tb_3 _ (List.mem_of_getElem? (i := 51) rfl)
theorem eX6_readInto : Cond.selects RX6 yX6_readInto yX6_readInto ∈ lw_tbl := tb_3 _ (List.mem_of_getElem? (i := 52) rfl)
abbrev cX6_start : ByteArray := prog_8_method_3_code
def yX6_start : MethodName := ⟨RX6, "start", "(LBlushLamps$Tape;LBlushLamps$Town;)V"⟩
theorem kX6_start : mOK yX6_start cX6_start 3 none 2 := ⟨tb_3 _ (List.mem_of_getElem? (i := 57) rfl), tb_1 _ (List.mem_of_getElem? (i := 4) rfl), by decide +kernel, by decide⟩
theorem vX6_start : Cond.instanceMethod yX6_start ∈ lw_tbl := tb_3 _ (List.mem_of_getElem? (i := 56) rfl)
theorem eX6_start : Cond.selects RX6 yX6_start yX6_start ∈ lw_tbl := List.mem_of_getElem? (i := 0) rfl
abbrev cX6_readCorner : ByteArray := prog_8_method_4_code
def yX6_readCorner : MethodName := ⟨RX6, "readCorner", "()V"⟩
theorem kX6_readCorner : mOK yX6_readCorner cX6_readCorner 1 none 0 := ⟨tb_3 _ (List.mem_of_getElem? (i := 164) rfl), tb_1 _ (List.mem_of_getElem? (i := 4) rfl), by decide +kernel, by decide⟩
theorem vX6_readCorner : Cond.instanceMethod yX6_readCorner ∈ lw_tbl := tb_3 _ (List.mem_of_getElem? (i := 163) rfl)
theorem eX6_readCorner : Cond.selects RX6 yX6_readCorner yX6_readCorner ∈ lw_tbl := List.mem_of_getElem? (i := 6) rfl
abbrev cX6_readStreet : ByteArray := prog_8_method_5_code
def yX6_readStreet : MethodName := ⟨RX6, "readStreet", "()V"⟩
theorem kX6_readStreet : mOK yX6_readStreet cX6_readStreet 5 none 0 := ⟨tb_3 _ (List.mem_of_getElem? (i := 196) rfl), tb_1 _ (List.mem_of_getElem? (i := 4) rfl), by decide +kernel, by decide⟩
theorem vX6_readStreet : Cond.instanceMethod yX6_readStreet ∈ lw_tbl := tb_3 _ (List.mem_of_getElem? (i := 195) rfl)
theorem eX6_readStreet : Cond.selects RX6 yX6_readStreet yX6_readStreet ∈ lw_tbl := List.mem_of_getElem? (i := 14) rfl
abbrev cX6_readYoung : ByteArray := prog_8_method_6_code
def yX6_readYoung : MethodName := ⟨RX6, "readYoung", "()V"⟩
theorem kX6_readYoung : mOK yX6_readYoung cX6_readYoung 4 none 0 := ⟨tb_3 _ (List.mem_of_getElem? (i := 212) rfl), tb_1 _ (List.mem_of_getElem? (i := 4) rfl), by decide +kernel, by decide⟩
theorem vX6_readYoung : Cond.instanceMethod yX6_readYoung ∈ lw_tbl := tb_3 _ (List.mem_of_getElem? (i := 211) rfl)
theorem eX6_readYoung : Cond.selects RX6 yX6_readYoung yX6_readYoung ∈ lw_tbl := List.mem_of_getElem? (i := 17) rfl
abbrev cX6_readWord : ByteArray := prog_8_method_7_code
def yX6_readWord : MethodName := ⟨RX6, "readWord", "()V"⟩
theorem kX6_readWord : mOK yX6_readWord cX6_readWord 2 none 0 := ⟨tb_3 _ (List.mem_of_getElem? (i := 220) rfl), tb_1 _ (List.mem_of_getElem? (i := 4) rfl), by decide +kernel, by decide⟩
theorem vX6_readWord : Cond.instanceMethod yX6_readWord ∈ lw_tbl := tb_3 _ (List.mem_of_getElem? (i := 219) rfl)
theorem eX6_readWord : Cond.selects RX6 yX6_readWord yX6_readWord ∈ lw_tbl := List.mem_of_getElem? (i := 18) rfl
abbrev cX6_readLaw : ByteArray := prog_8_method_8_code
def yX6_readLaw : MethodName := ⟨RX6, "readLaw", "(I)V"⟩
theorem kX6_readLaw : mOK yX6_readLaw cX6_readLaw 4 none 1 := ⟨tb_3 _ (List.mem_of_getElem? (i := 228) rfl), tb_1 _ (List.mem_of_getElem? (i := 4) rfl), by decide +kernel, by decide⟩
theorem vX6_readLaw : Cond.instanceMethod yX6_readLaw ∈ lw_tbl := tb_3 _ (List.mem_of_getElem? (i := 227) rfl)
theorem eX6_readLaw : Cond.selects RX6 yX6_readLaw yX6_readLaw ∈ lw_tbl := List.mem_of_getElem? (i := 19) rfl
abbrev cX6_readValue : ByteArray := prog_8_method_9_code
def yX6_readValue : MethodName := ⟨RX6, "readValue", "(II)V"⟩
theorem kX6_readValue : mOK yX6_readValue cX6_readValue 5 none 2 := ⟨tb_3 _ (List.mem_of_getElem? (i := 232) rfl), tb_1 _ (List.mem_of_getElem? (i := 4) rfl), by decide +kernel, by decide⟩
theorem vX6_readValue : Cond.instanceMethod yX6_readValue ∈ lw_tbl := tb_3 _ (List.mem_of_getElem? (i := 231) rfl)
theorem eX6_readValue : Cond.selects RX6 yX6_readValue yX6_readValue ∈ lw_tbl := List.mem_of_getElem? (i := 20) rfl
abbrev cX6_readUnit : ByteArray := prog_8_method_10_code
def yX6_readUnit : MethodName := ⟨RX6, "readUnit", "(I)V"⟩
theorem kX6_readUnit : mOK yX6_readUnit cX6_readUnit 3 none 1 := ⟨tb_3 _ (List.mem_of_getElem? (i := 236) rfl), tb_1 _ (List.mem_of_getElem? (i := 4) rfl), by decide +kernel, by decide⟩
theorem vX6_readUnit : Cond.instanceMethod yX6_readUnit ∈ lw_tbl := tb_3 _ (List.mem_of_getElem? (i := 235) rfl)
theorem eX6_readUnit : Cond.selects RX6 yX6_readUnit yX6_readUnit ∈ lw_tbl := List.mem_of_getElem? (i := 21) rfl
abbrev cX6_levelOf : ByteArray := prog_8_method_11_code
def yX6_levelOf : MethodName := ⟨RX6, "levelOf", "(I)I"⟩
theorem kX6_levelOf : mOK yX6_levelOf cX6_levelOf 1 (some .int) 1 := ⟨tb_4 _ (List.mem_of_getElem? (i := 0) rfl), tb_1 _ (List.mem_of_getElem? (i := 4) rfl), by decide +kernel, by decide⟩
theorem sX6_levelOf : Cond.static yX6_levelOf ∈ lw_tbl := tb_3 _ (List.mem_of_getElem? (i := 239) rfl)
abbrev cX6_kind : ByteArray := prog_8_method_12_code
def yX6_kind : MethodName := ⟨RX6, "kind", "()I"⟩
theorem kX6_kind : mOK yX6_kind cX6_kind 1 (some .int) 0 := ⟨tb_3 _ (List.mem_of_getElem? (i := 160) rfl), tb_1 _ (List.mem_of_getElem? (i := 4) rfl), by decide +kernel, by decide⟩
theorem vX6_kind : Cond.instanceMethod yX6_kind ∈ lw_tbl := tb_3 _ (List.mem_of_getElem? (i := 159) rfl)
theorem eX6_kind : Cond.selects RX6 yX6_kind yX6_kind ∈ lw_tbl := List.mem_of_getElem? (i := 5) rfl
abbrev cX6_passOneOf : ByteArray := prog_8_method_13_code
def yX6_passOneOf : MethodName := ⟨RX6, "passOneOf", "(II)V"⟩
theorem kX6_passOneOf : mOK yX6_passOneOf cX6_passOneOf 3 none 2 := ⟨tb_3 _ (List.mem_of_getElem? (i := 168) rfl), tb_1 _ (List.mem_of_getElem? (i := 4) rfl), by decide +kernel, by decide⟩
theorem vX6_passOneOf : Cond.instanceMethod yX6_passOneOf ∈ lw_tbl := tb_3 _ (List.mem_of_getElem? (i := 167) rfl)
theorem eX6_passOneOf : Cond.selects RX6 yX6_passOneOf yX6_passOneOf ∈ lw_tbl := List.mem_of_getElem? (i := 7) rfl
abbrev cX6_takeNewName : ByteArray := prog_8_method_14_code
def yX6_takeNewName : MethodName := ⟨RX6, "takeNewName", "(I)V"⟩
theorem kX6_takeNewName : mOK yX6_takeNewName cX6_takeNewName 5 none 1 := ⟨tb_3 _ (List.mem_of_getElem? (i := 180) rfl), tb_1 _ (List.mem_of_getElem? (i := 4) rfl), by decide +kernel, by decide⟩
theorem vX6_takeNewName : Cond.instanceMethod yX6_takeNewName ∈ lw_tbl := tb_3 _ (List.mem_of_getElem? (i := 179) rfl)
theorem eX6_takeNewName : Cond.selects RX6 yX6_takeNewName yX6_takeNewName ∈ lw_tbl := List.mem_of_getElem? (i := 10) rfl
abbrev cX6_takeCorner : ByteArray := prog_8_method_15_code
def yX6_takeCorner : MethodName := ⟨RX6, "takeCorner", "()I"⟩
theorem kX6_takeCorner : mOK yX6_takeCorner cX6_takeCorner 4 (some .int) 0 := ⟨tb_3 _ (List.mem_of_getElem? (i := 200) rfl), tb_1 _ (List.mem_of_getElem? (i := 4) rfl), by decide +kernel, by decide⟩
theorem vX6_takeCorner : Cond.instanceMethod yX6_takeCorner ∈ lw_tbl := tb_3 _ (List.mem_of_getElem? (i := 199) rfl)
theorem eX6_takeCorner : Cond.selects RX6 yX6_takeCorner yX6_takeCorner ∈ lw_tbl := List.mem_of_getElem? (i := 15) rfl
abbrev cX6_takeInt : ByteArray := prog_8_method_16_code
def yX6_takeInt : MethodName := ⟨RX6, "takeInt", "(II)I"⟩
theorem kX6_takeInt : mOK yX6_takeInt cX6_takeInt 5 (some .int) 2 := ⟨tb_3 _ (List.mem_of_getElem? (i := 204) rfl), tb_1 _ (List.mem_of_getElem? (i := 4) rfl), by decide +kernel, by decide⟩
theorem vX6_takeInt : Cond.instanceMethod yX6_takeInt ∈ lw_tbl := tb_3 _ (List.mem_of_getElem? (i := 203) rfl)
theorem eX6_takeInt : Cond.selects RX6 yX6_takeInt yX6_takeInt ∈ lw_tbl := List.mem_of_getElem? (i := 16) rfl
abbrev cX6_find : ByteArray := prog_8_method_17_code
def yX6_find : MethodName := ⟨RX6, "find", "(J)I"⟩
theorem kX6_find : mOK yX6_find cX6_find 4 (some .int) 1 := ⟨tb_3 _ (List.mem_of_getElem? (i := 188) rfl), tb_1 _ (List.mem_of_getElem? (i := 4) rfl), by decide +kernel, by decide⟩
theorem vX6_find : Cond.instanceMethod yX6_find ∈ lw_tbl := tb_3 _ (List.mem_of_getElem? (i := 187) rfl)
theorem eX6_find : Cond.selects RX6 yX6_find yX6_find ∈ lw_tbl := List.mem_of_getElem? (i := 12) rfl
abbrev cX6_expect : ByteArray := prog_8_method_18_code
def yX6_expect : MethodName := ⟨RX6, "expect", "(I)V"⟩
theorem kX6_expect : mOK yX6_expect cX6_expect 2 none 1 := ⟨tb_3 _ (List.mem_of_getElem? (i := 184) rfl), tb_1 _ (List.mem_of_getElem? (i := 4) rfl), by decide +kernel, by decide⟩
theorem vX6_expect : Cond.instanceMethod yX6_expect ∈ lw_tbl := tb_3 _ (List.mem_of_getElem? (i := 183) rfl)
theorem eX6_expect : Cond.selects RX6 yX6_expect yX6_expect ∈ lw_tbl := List.mem_of_getElem? (i := 11) rfl
abbrev cX6_pass : ByteArray := prog_8_method_19_code
def yX6_pass : MethodName := ⟨RX6, "pass", "()V"⟩
theorem kX6_pass : mOK yX6_pass cX6_pass 1 none 0 := ⟨tb_3 _ (List.mem_of_getElem? (i := 176) rfl), tb_1 _ (List.mem_of_getElem? (i := 4) rfl), by decide +kernel, by decide⟩
theorem vX6_pass : Cond.instanceMethod yX6_pass ∈ lw_tbl := tb_3 _ (List.mem_of_getElem? (i := 175) rfl)
theorem eX6_pass : Cond.selects RX6 yX6_pass yX6_pass ∈ lw_tbl := List.mem_of_getElem? (i := 9) rfl
abbrev cX6_fail : ByteArray := prog_8_method_20_code
def yX6_fail : MethodName := ⟨RX6, "fail", "(I)V"⟩
theorem kX6_fail : mOK yX6_fail cX6_fail 2 none 1 := ⟨tb_3 _ (List.mem_of_getElem? (i := 172) rfl), tb_1 _ (List.mem_of_getElem? (i := 4) rfl), by decide +kernel, by decide⟩
theorem vX6_fail : Cond.instanceMethod yX6_fail ∈ lw_tbl := tb_3 _ (List.mem_of_getElem? (i := 171) rfl)
theorem eX6_fail : Cond.selects RX6 yX6_fail yX6_fail ∈ lw_tbl := List.mem_of_getElem? (i := 8) rfl
abbrev cX6_failLater : ByteArray := prog_8_method_21_code
def yX6_failLater : MethodName := ⟨RX6, "failLater", "(II)V"⟩
theorem kX6_failLater : mOK yX6_failLater cX6_failLater 3 none 2 := ⟨tb_3 _ (List.mem_of_getElem? (i := 192) rfl), tb_1 _ (List.mem_of_getElem? (i := 4) rfl), by decide +kernel, by decide⟩
theorem vX6_failLater : Cond.instanceMethod yX6_failLater ∈ lw_tbl := tb_3 _ (List.mem_of_getElem? (i := 191) rfl)
theorem eX6_failLater : Cond.selects RX6 yX6_failLater yX6_failLater ∈ lw_tbl := List.mem_of_getElem? (i := 13) rfl
abbrev cX7_init : ByteArray := prog_9_method_1_code
def yX7_init : MethodName := ⟨RX7, "<init>", "()V"⟩
theorem kX7_init : mOK yX7_init cX7_init 1 none 0 := ⟨tb_1 _ (List.mem_of_getElem? (i := 155) rfl), tb_1 _ (List.mem_of_getElem? (i := 3) rfl), by decide +kernel, by decide⟩
theorem vX7_init : Cond.instanceMethod yX7_init ∈ lw_tbl := tb_1 _ (List.mem_of_getElem? (i := 154) rfl)
abbrev cX7_append : ByteArray := prog_9_method_2_code
def yX7_append : MethodName := ⟨RX7, "append", "(I)V"⟩
theorem kX7_append : mOK yX7_append cX7_append 3 none 1 := ⟨tb_3 _ (List.mem_of_getElem? (i := 41) rfl), tb_1 _ (List.mem_of_getElem? (i := 3) rfl), by decide +kernel, by decide⟩
theorem vX7_append : Cond.instanceMethod yX7_append ∈ lw_tbl := tb_3 _ (List.mem_of_getElem? (i := 39) rfl)
theorem eX7_append : Cond.selects RX7 yX7_append yX7_append ∈ lw_tbl := tb_3 _ (List.mem_of_getElem? (i := 40) rfl)
abbrev cX7_byteAt : ByteArray := prog_9_method_3_code
def yX7_byteAt : MethodName := ⟨RX7, "byteAt", "(I)I"⟩
theorem kX7_byteAt : mOK yX7_byteAt cX7_byteAt 2 (some .int) 1 := ⟨tb_3 _ (List.mem_of_getElem? (i := 68) rfl), tb_1 _ (List.mem_of_getElem? (i := 3) rfl), by decide +kernel, by decide⟩
theorem vX7_byteAt : Cond.instanceMethod yX7_byteAt ∈ lw_tbl := tb_3 _ (List.mem_of_getElem? (i := 66) rfl)
theorem eX7_byteAt : Cond.selects RX7 yX7_byteAt yX7_byteAt ∈ lw_tbl := tb_3 _ (List.mem_of_getElem? (i := 67) rfl)
abbrev cX8_init : ByteArray := prog_10_method_1_code
def yX8_init : MethodName := ⟨RX8, "<init>", "()V"⟩
theorem kX8_init : mOK yX8_init cX8_init 5 none 0 := ⟨tb_1 _ (List.mem_of_getElem? (i := 177) rfl), tb_1 _ (List.mem_of_getElem? (i := 5) rfl), by decide +kernel, by decide⟩
theorem vX8_init : Cond.instanceMethod yX8_init ∈ lw_tbl := tb_1 _ (List.mem_of_getElem? (i := 176) rfl)
abbrev cX8_cutUp : ByteArray := prog_10_method_2_code
def yX8_cutUp : MethodName := ⟨RX8, "cutUp", "(LBlushLamps$Tape;)V"⟩
theorem kX8_cutUp : mOK yX8_cutUp cX8_cutUp 4 none 1 := ⟨tb_3 _ (List.mem_of_getElem? (i := 61) rfl), tb_1 _ (List.mem_of_getElem? (i := 5) rfl), by decide +kernel, by decide⟩
theorem vX8_cutUp : Cond.instanceMethod yX8_cutUp ∈ lw_tbl := tb_3 _ (List.mem_of_getElem? (i := 59) rfl)
theorem eX8_cutUp : Cond.selects RX8 yX8_cutUp yX8_cutUp ∈ lw_tbl := tb_3 _ (List.mem_of_getElem? (i := 60) rfl)
abbrev cX8_cutOne : ByteArray := prog_10_method_3_code
def yX8_cutOne : MethodName := ⟨RX8, "cutOne", "(LBlushLamps$Tape;II)I"⟩
theorem kX8_cutOne : mOK yX8_cutOne cX8_cutOne 5 (some .int) 3 := ⟨tb_3 _ (List.mem_of_getElem? (i := 75) rfl), tb_1 _ (List.mem_of_getElem? (i := 5) rfl), by decide +kernel, by decide⟩
theorem vX8_cutOne : Cond.instanceMethod yX8_cutOne ∈ lw_tbl := tb_3 _ (List.mem_of_getElem? (i := 74) rfl)
theorem eX8_cutOne : Cond.selects RX8 yX8_cutOne yX8_cutOne ∈ lw_tbl := List.mem_of_getElem? (i := 1) rfl
abbrev cX8_cutLetters : ByteArray := prog_10_method_4_code
def yX8_cutLetters : MethodName := ⟨RX8, "cutLetters", "(LBlushLamps$Tape;II)I"⟩
theorem kX8_cutLetters : mOK yX8_cutLetters cX8_cutLetters 7 (some .int) 3 := ⟨tb_3 _ (List.mem_of_getElem? (i := 82) rfl), tb_1 _ (List.mem_of_getElem? (i := 5) rfl), by decide +kernel, by decide⟩
theorem vX8_cutLetters : Cond.instanceMethod yX8_cutLetters ∈ lw_tbl := tb_3 _ (List.mem_of_getElem? (i := 81) rfl)
theorem eX8_cutLetters : Cond.selects RX8 yX8_cutLetters yX8_cutLetters ∈ lw_tbl := List.mem_of_getElem? (i := 2) rfl
abbrev cX8_cutDigits : ByteArray := prog_10_method_5_code
def yX8_cutDigits : MethodName := ⟨RX8, "cutDigits", "(LBlushLamps$Tape;II)I"⟩
theorem kX8_cutDigits : mOK yX8_cutDigits cX8_cutDigits 7 (some .int) 3 := ⟨tb_3 _ (List.mem_of_getElem? (i := 93) rfl), tb_1 _ (List.mem_of_getElem? (i := 5) rfl), by decide +kernel, by decide⟩
theorem vX8_cutDigits : Cond.instanceMethod yX8_cutDigits ∈ lw_tbl := tb_3 _ (List.mem_of_getElem? (i := 92) rfl)
theorem eX8_cutDigits : Cond.selects RX8 yX8_cutDigits yX8_cutDigits ∈ lw_tbl := List.mem_of_getElem? (i := 4) rfl
abbrev cX8_kindOf : ByteArray := prog_10_method_6_code
def yX8_kindOf : MethodName := ⟨RX8, "kindOf", "(J)I"⟩
theorem kX8_kindOf : mOK yX8_kindOf cX8_kindOf 4 (some .int) 1 := ⟨tb_3 _ (List.mem_of_getElem? (i := 86) rfl), tb_1 _ (List.mem_of_getElem? (i := 5) rfl), by decide +kernel, by decide⟩
theorem vX8_kindOf : Cond.instanceMethod yX8_kindOf ∈ lw_tbl := tb_3 _ (List.mem_of_getElem? (i := 85) rfl)
theorem eX8_kindOf : Cond.selects RX8 yX8_kindOf yX8_kindOf ∈ lw_tbl := List.mem_of_getElem? (i := 3) rfl
abbrev cX8_behindBlanks : ByteArray := prog_10_method_7_code
def yX8_behindBlanks : MethodName := ⟨RX8, "behindBlanks", "(LBlushLamps$Tape;I)I"⟩
theorem kX8_behindBlanks : mOK yX8_behindBlanks cX8_behindBlanks 3 (some .int) 2 := ⟨tb_3 _ (List.mem_of_getElem? (i := 64) rfl), tb_1 _ (List.mem_of_getElem? (i := 5) rfl), by decide +kernel, by decide⟩
theorem sX8_behindBlanks : Cond.static yX8_behindBlanks ∈ lw_tbl := tb_3 _ (List.mem_of_getElem? (i := 63) rfl)
abbrev cX8_spell : ByteArray := prog_10_method_8_code
def yX8_spell : MethodName := ⟨RX8, "spell", "(JI)J"⟩
theorem kX8_spell : mOK yX8_spell cX8_spell 3 (some .long) 2 := ⟨tb_1 _ (List.mem_of_getElem? (i := 230) rfl), tb_1 _ (List.mem_of_getElem? (i := 5) rfl), by decide +kernel, by decide⟩
theorem sX8_spell : Cond.static yX8_spell ∈ lw_tbl := tb_1 _ (List.mem_of_getElem? (i := 229) rfl)
abbrev cX8_isLetter : ByteArray := prog_10_method_9_code
def yX8_isLetter : MethodName := ⟨RX8, "isLetter", "(I)Z"⟩
theorem kX8_isLetter : mOK yX8_isLetter cX8_isLetter 1 (some .boolean) 1 := ⟨tb_3 _ (List.mem_of_getElem? (i := 78) rfl), tb_1 _ (List.mem_of_getElem? (i := 5) rfl), by decide +kernel, by decide⟩
theorem sX8_isLetter : Cond.static yX8_isLetter ∈ lw_tbl := tb_3 _ (List.mem_of_getElem? (i := 77) rfl)
abbrev cX8_isDigit : ByteArray := prog_10_method_10_code
def yX8_isDigit : MethodName := ⟨RX8, "isDigit", "(I)Z"⟩
theorem kX8_isDigit : mOK yX8_isDigit cX8_isDigit 1 (some .boolean) 1 := ⟨tb_3 _ (List.mem_of_getElem? (i := 89) rfl), tb_1 _ (List.mem_of_getElem? (i := 5) rfl), by decide +kernel, by decide⟩
theorem sX8_isDigit : Cond.static yX8_isDigit ∈ lw_tbl := tb_3 _ (List.mem_of_getElem? (i := 88) rfl)
abbrev cX8_isBlank : ByteArray := prog_10_method_11_code
def yX8_isBlank : MethodName := ⟨RX8, "isBlank", "(I)Z"⟩
theorem kX8_isBlank : mOK yX8_isBlank cX8_isBlank 1 (some .boolean) 1 := ⟨tb_3 _ (List.mem_of_getElem? (i := 71) rfl), tb_1 _ (List.mem_of_getElem? (i := 5) rfl), by decide +kernel, by decide⟩
theorem sX8_isBlank : Cond.static yX8_isBlank ∈ lw_tbl := tb_3 _ (List.mem_of_getElem? (i := 70) rfl)
abbrev cX9_init : ByteArray := prog_11_method_1_code
def yX9_init : MethodName := ⟨RX9, "<init>", "()V"⟩
theorem kX9_init : mOK yX9_init cX9_init 1 none 0 := ⟨tb_1 _ (List.mem_of_getElem? (i := 35) rfl), tb_1 _ (List.mem_of_getElem? (i := 2) rfl), by decide +kernel, by decide⟩
theorem vX9_init : Cond.instanceMethod yX9_init ∈ lw_tbl := tb_1 _ (List.mem_of_getElem? (i := 34) rfl)
abbrev cX9_clear : ByteArray := prog_11_method_2_code
def yX9_clear : MethodName := ⟨RX9, "clear", "()V"⟩
theorem kX9_clear : mOK yX9_clear cX9_clear 1 none 0 := ⟨tb_1 _ (List.mem_of_getElem? (i := 40) rfl), tb_1 _ (List.mem_of_getElem? (i := 2) rfl), by decide +kernel, by decide⟩
theorem vX9_clear : Cond.instanceMethod yX9_clear ∈ lw_tbl := tb_1 _ (List.mem_of_getElem? (i := 38) rfl)
theorem eX9_clear : Cond.selects RX9 yX9_clear yX9_clear ∈ lw_tbl := tb_1 _ (List.mem_of_getElem? (i := 39) rfl)
abbrev cX9_addStreet : ByteArray := prog_11_method_3_code
def yX9_addStreet : MethodName := ⟨RX9, "addStreet", "(III)V"⟩
theorem kX9_addStreet : mOK yX9_addStreet cX9_addStreet 4 none 3 := ⟨tb_3 _ (List.mem_of_getElem? (i := 208) rfl), tb_1 _ (List.mem_of_getElem? (i := 2) rfl), by decide +kernel, by decide⟩
theorem vX9_addStreet : Cond.instanceMethod yX9_addStreet ∈ lw_tbl := tb_3 _ (List.mem_of_getElem? (i := 206) rfl)
theorem eX9_addStreet : Cond.selects RX9 yX9_addStreet yX9_addStreet ∈ lw_tbl := tb_3 _ (List.mem_of_getElem? (i := 207) rfl)
abbrev cX9_addYoung : ByteArray := prog_11_method_4_code
def yX9_addYoung : MethodName := ⟨RX9, "addYoung", "(III)V"⟩
theorem kX9_addYoung : mOK yX9_addYoung cX9_addYoung 4 none 3 := ⟨tb_3 _ (List.mem_of_getElem? (i := 216) rfl), tb_1 _ (List.mem_of_getElem? (i := 2) rfl), by decide +kernel, by decide⟩
theorem vX9_addYoung : Cond.instanceMethod yX9_addYoung ∈ lw_tbl := tb_3 _ (List.mem_of_getElem? (i := 214) rfl)
theorem eX9_addYoung : Cond.selects RX9 yX9_addYoung yX9_addYoung ∈ lw_tbl := tb_3 _ (List.mem_of_getElem? (i := 215) rfl)
abbrev cX9_addWord : ByteArray := prog_11_method_5_code
def yX9_addWord : MethodName := ⟨RX9, "addWord", "(I)V"⟩
theorem kX9_addWord : mOK yX9_addWord cX9_addWord 2 none 1 := ⟨tb_3 _ (List.mem_of_getElem? (i := 224) rfl), tb_1 _ (List.mem_of_getElem? (i := 2) rfl), by decide +kernel, by decide⟩
theorem vX9_addWord : Cond.instanceMethod yX9_addWord ∈ lw_tbl := tb_3 _ (List.mem_of_getElem? (i := 222) rfl)
theorem eX9_addWord : Cond.selects RX9 yX9_addWord yX9_addWord ∈ lw_tbl := tb_3 _ (List.mem_of_getElem? (i := 223) rfl)
abbrev cX9_emit : ByteArray := prog_11_method_6_code
def yX9_emit : MethodName := ⟨RX9, "emit", "(II)V"⟩
theorem kX9_emit : mOK yX9_emit cX9_emit 3 none 2 := ⟨tb_1 _ (List.mem_of_getElem? (i := 44) rfl), tb_1 _ (List.mem_of_getElem? (i := 2) rfl), by decide +kernel, by decide⟩
theorem vX9_emit : Cond.instanceMethod yX9_emit ∈ lw_tbl := tb_1 _ (List.mem_of_getElem? (i := 42) rfl)
theorem eX9_emit : Cond.selects RX9 yX9_emit yX9_emit ∈ lw_tbl := tb_1 _ (List.mem_of_getElem? (i := 43) rfl)
abbrev cX9_aimAtEnd : ByteArray := prog_11_method_7_code
def yX9_aimAtEnd : MethodName := ⟨RX9, "aimAtEnd", "(I)V"⟩
theorem kX9_aimAtEnd : mOK yX9_aimAtEnd cX9_aimAtEnd 2 none 1 := ⟨tb_4 _ (List.mem_of_getElem? (i := 4) rfl), tb_1 _ (List.mem_of_getElem? (i := 2) rfl), by decide +kernel, by decide⟩
theorem vX9_aimAtEnd : Cond.instanceMethod yX9_aimAtEnd ∈ lw_tbl := tb_4 _ (List.mem_of_getElem? (i := 2) rfl)
theorem eX9_aimAtEnd : Cond.selects RX9 yX9_aimAtEnd yX9_aimAtEnd ∈ lw_tbl := tb_4 _ (List.mem_of_getElem? (i := 3) rfl)
abbrev cX9_streetsOf : ByteArray := prog_11_method_8_code
def yX9_streetsOf : MethodName := ⟨RX9, "streetsOf", "(I)I"⟩
theorem kX9_streetsOf : mOK yX9_streetsOf cX9_streetsOf 4 (some .int) 1 := ⟨tb_4 _ (List.mem_of_getElem? (i := 51) rfl), tb_1 _ (List.mem_of_getElem? (i := 2) rfl), by decide +kernel, by decide⟩
theorem vX9_streetsOf : Cond.instanceMethod yX9_streetsOf ∈ lw_tbl := tb_4 _ (List.mem_of_getElem? (i := 49) rfl)
theorem eX9_streetsOf : Cond.selects RX9 yX9_streetsOf yX9_streetsOf ∈ lw_tbl := tb_4 _ (List.mem_of_getElem? (i := 50) rfl)
abbrev cX9_acrossFrom : ByteArray := prog_11_method_9_code
def yX9_acrossFrom : MethodName := ⟨RX9, "acrossFrom", "(II)I"⟩
theorem kX9_acrossFrom : mOK yX9_acrossFrom cX9_acrossFrom 3 (some .int) 2 := ⟨tb_4 _ (List.mem_of_getElem? (i := 133) rfl), tb_1 _ (List.mem_of_getElem? (i := 2) rfl), by decide +kernel, by decide⟩
theorem vX9_acrossFrom : Cond.instanceMethod yX9_acrossFrom ∈ lw_tbl := tb_4 _ (List.mem_of_getElem? (i := 131) rfl)
theorem eX9_acrossFrom : Cond.selects RX9 yX9_acrossFrom yX9_acrossFrom ∈ lw_tbl := tb_4 _ (List.mem_of_getElem? (i := 132) rfl)
abbrev cX10_init : ByteArray := prog_12_method_1_code
def yX10_init : MethodName := ⟨RX10, "<init>", "()V"⟩
theorem kX10_init : mOK yX10_init cX10_init 1 none 0 := ⟨tb_2 _ (List.mem_of_getElem? (i := 151) rfl), tb_1 _ (List.mem_of_getElem? (i := 13) rfl), by decide +kernel, by decide⟩
theorem vX10_init : Cond.instanceMethod yX10_init ∈ lw_tbl := tb_2 _ (List.mem_of_getElem? (i := 150) rfl)
abbrev cX10_fewest : ByteArray := prog_12_method_2_code
def yX10_fewest : MethodName := ⟨RX10, "fewest", "(LBlushLamps$Town;III)I"⟩
theorem kX10_fewest : mOK yX10_fewest cX10_fewest 5 (some .int) 4 := ⟨tb_5 _ (List.mem_of_getElem? (i := 45) rfl), tb_1 _ (List.mem_of_getElem? (i := 13) rfl), by decide +kernel, by decide⟩
theorem vX10_fewest : Cond.instanceMethod yX10_fewest ∈ lw_tbl := tb_5 _ (List.mem_of_getElem? (i := 43) rfl)
theorem eX10_fewest : Cond.selects RX10 yX10_fewest yX10_fewest ∈ lw_tbl := tb_5 _ (List.mem_of_getElem? (i := 44) rfl)
abbrev cX10_reached : ByteArray := prog_12_method_3_code
def yX10_reached : MethodName := ⟨RX10, "reached", "(LBlushLamps$Town;II)I"⟩
theorem kX10_reached : mOK yX10_reached cX10_reached 6 (some .int) 3 := ⟨tb_5 _ (List.mem_of_getElem? (i := 81) rfl), tb_1 _ (List.mem_of_getElem? (i := 13) rfl), by decide +kernel, by decide⟩
theorem vX10_reached : Cond.instanceMethod yX10_reached ∈ lw_tbl := tb_5 _ (List.mem_of_getElem? (i := 79) rfl)
theorem eX10_reached : Cond.selects RX10 yX10_reached yX10_reached ∈ lw_tbl := tb_5 _ (List.mem_of_getElem? (i := 80) rfl)
abbrev cX10_onlyWays : ByteArray := prog_12_method_4_code
def yX10_onlyWays : MethodName := ⟨RX10, "onlyWays", "(LBlushLamps$Town;I)I"⟩
theorem kX10_onlyWays : mOK yX10_onlyWays cX10_onlyWays 6 (some .int) 2 := ⟨tb_5 _ (List.mem_of_getElem? (i := 93) rfl), tb_1 _ (List.mem_of_getElem? (i := 13) rfl), by decide +kernel, by decide⟩
theorem vX10_onlyWays : Cond.instanceMethod yX10_onlyWays ∈ lw_tbl := tb_5 _ (List.mem_of_getElem? (i := 91) rfl)
theorem eX10_onlyWays : Cond.selects RX10 yX10_onlyWays yX10_onlyWays ∈ lw_tbl := tb_5 _ (List.mem_of_getElem? (i := 92) rfl)
abbrev cX10_shortestRound : ByteArray := prog_12_method_5_code
def yX10_shortestRound : MethodName := ⟨RX10, "shortestRound", "(LBlushLamps$Town;II)I"⟩
theorem kX10_shortestRound : mOK yX10_shortestRound cX10_shortestRound 5 (some .int) 3 := ⟨tb_5 _ (List.mem_of_getElem? (i := 63) rfl), tb_1 _ (List.mem_of_getElem? (i := 13) rfl), by decide +kernel, by decide⟩
theorem vX10_shortestRound : Cond.instanceMethod yX10_shortestRound ∈ lw_tbl := tb_5 _ (List.mem_of_getElem? (i := 61) rfl)
theorem eX10_shortestRound : Cond.selects RX10 yX10_shortestRound yX10_shortestRound ∈ lw_tbl := tb_5 _ (List.mem_of_getElem? (i := 62) rfl)
abbrev cX10_nearestToAll : ByteArray := prog_12_method_6_code
def yX10_nearestToAll : MethodName := ⟨RX10, "nearestToAll", "(LBlushLamps$Night;)I"⟩
theorem kX10_nearestToAll : mOK yX10_nearestToAll cX10_nearestToAll 6 (some .int) 1 := ⟨tb_5 _ (List.mem_of_getElem? (i := 102) rfl), tb_1 _ (List.mem_of_getElem? (i := 13) rfl), by decide +kernel, by decide⟩
theorem vX10_nearestToAll : Cond.instanceMethod yX10_nearestToAll ∈ lw_tbl := tb_5 _ (List.mem_of_getElem? (i := 100) rfl)
theorem eX10_nearestToAll : Cond.selects RX10 yX10_nearestToAll yX10_nearestToAll ∈ lw_tbl := tb_5 _ (List.mem_of_getElem? (i := 101) rfl)
abbrev cX10_stepsOfAll : ByteArray := prog_12_method_7_code
def yX10_stepsOfAll : MethodName := ⟨RX10, "stepsOfAll", "(LBlushLamps$Night;I)I"⟩
theorem kX10_stepsOfAll : mOK yX10_stepsOfAll cX10_stepsOfAll 5 (some .int) 2 := ⟨tb_5 _ (List.mem_of_getElem? (i := 106) rfl), tb_1 _ (List.mem_of_getElem? (i := 13) rfl), by decide +kernel, by decide⟩
theorem vX10_stepsOfAll : Cond.instanceMethod yX10_stepsOfAll ∈ lw_tbl := tb_5 _ (List.mem_of_getElem? (i := 104) rfl)
theorem eX10_stepsOfAll : Cond.selects RX10 yX10_stepsOfAll yX10_stepsOfAll ∈ lw_tbl := tb_5 _ (List.mem_of_getElem? (i := 105) rfl)
abbrev cX10_fewestBetween : ByteArray := prog_12_method_8_code
def yX10_fewestBetween : MethodName := ⟨RX10, "fewestBetween", "(LBlushLamps$Town;III)I"⟩
theorem kX10_fewestBetween : mOK yX10_fewestBetween cX10_fewestBetween 7 (some .int) 4 := ⟨tb_5 _ (List.mem_of_getElem? (i := 136) rfl), tb_1 _ (List.mem_of_getElem? (i := 13) rfl), by decide +kernel, by decide⟩
theorem vX10_fewestBetween : Cond.instanceMethod yX10_fewestBetween ∈ lw_tbl := tb_5 _ (List.mem_of_getElem? (i := 134) rfl)
theorem eX10_fewestBetween : Cond.selects RX10 yX10_fewestBetween yX10_fewestBetween ∈ lw_tbl := tb_5 _ (List.mem_of_getElem? (i := 135) rfl)
abbrev cX10_shortestJoin : ByteArray := prog_12_method_9_code
def yX10_shortestJoin : MethodName := ⟨RX10, "shortestJoin", "(LBlushLamps$Town;)I"⟩
theorem kX10_shortestJoin : mOK yX10_shortestJoin cX10_shortestJoin 6 (some .int) 1 := ⟨tb_5 _ (List.mem_of_getElem? (i := 150) rfl), tb_1 _ (List.mem_of_getElem? (i := 13) rfl), by decide +kernel, by decide⟩
theorem vX10_shortestJoin : Cond.instanceMethod yX10_shortestJoin ∈ lw_tbl := tb_5 _ (List.mem_of_getElem? (i := 148) rfl)
theorem eX10_shortestJoin : Cond.selects RX10 yX10_shortestJoin yX10_shortestJoin ∈ lw_tbl := tb_5 _ (List.mem_of_getElem? (i := 149) rfl)
abbrev cX10_measure : ByteArray := prog_12_method_10_code
def yX10_measure : MethodName := ⟨RX10, "measure", "(LBlushLamps$Town;II)V"⟩
theorem kX10_measure : mOK yX10_measure cX10_measure 9 none 3 := ⟨tb_5 _ (List.mem_of_getElem? (i := 49) rfl), tb_1 _ (List.mem_of_getElem? (i := 13) rfl), by decide +kernel, by decide⟩
theorem vX10_measure : Cond.instanceMethod yX10_measure ∈ lw_tbl := tb_5 _ (List.mem_of_getElem? (i := 48) rfl)
theorem eX10_measure : Cond.selects RX10 yX10_measure yX10_measure ∈ lw_tbl := List.mem_of_getElem? (i := 36) rfl
abbrev cX10_roundFrom : ByteArray := prog_12_method_11_code
def yX10_roundFrom : MethodName := ⟨RX10, "roundFrom", "(III)I"⟩
theorem kX10_roundFrom : mOK yX10_roundFrom cX10_roundFrom 8 (some .int) 3 := ⟨tb_5 _ (List.mem_of_getElem? (i := 68) rfl), tb_1 _ (List.mem_of_getElem? (i := 13) rfl), by decide +kernel, by decide⟩
theorem vX10_roundFrom : Cond.instanceMethod yX10_roundFrom ∈ lw_tbl := tb_5 _ (List.mem_of_getElem? (i := 67) rfl)
theorem eX10_roundFrom : Cond.selects RX10 yX10_roundFrom yX10_roundFrom ∈ lw_tbl := List.mem_of_getElem? (i := 37) rfl
abbrev cX10_crossing : ByteArray := prog_12_method_12_code
def yX10_crossing : MethodName := ⟨RX10, "crossing", "(LBlushLamps$Town;II)I"⟩
theorem kX10_crossing : mOK yX10_crossing cX10_crossing 5 (some .int) 3 := ⟨tb_5 _ (List.mem_of_getElem? (i := 139) rfl), tb_1 _ (List.mem_of_getElem? (i := 13) rfl), by decide +kernel, by decide⟩
theorem sX10_crossing : Cond.static yX10_crossing ∈ lw_tbl := tb_5 _ (List.mem_of_getElem? (i := 138) rfl)
abbrev cX10_shortestOutOf : ByteArray := prog_12_method_13_code
def yX10_shortestOutOf : MethodName := ⟨RX10, "shortestOutOf", "(LBlushLamps$Town;I)I"⟩
theorem kX10_shortestOutOf : mOK yX10_shortestOutOf cX10_shortestOutOf 4 (some .int) 2 := ⟨tb_5 _ (List.mem_of_getElem? (i := 153) rfl), tb_1 _ (List.mem_of_getElem? (i := 13) rfl), by decide +kernel, by decide⟩
theorem sX10_shortestOutOf : Cond.static yX10_shortestOutOf ∈ lw_tbl := tb_5 _ (List.mem_of_getElem? (i := 152) rfl)
abbrev cX10_isCrossing : ByteArray := prog_12_method_14_code
def yX10_isCrossing : MethodName := ⟨RX10, "isCrossing", "(LBlushLamps$Town;II)Z"⟩
theorem kX10_isCrossing : mOK yX10_isCrossing cX10_isCrossing 3 (some .boolean) 3 := ⟨tb_5 _ (List.mem_of_getElem? (i := 142) rfl), tb_1 _ (List.mem_of_getElem? (i := 13) rfl), by decide +kernel, by decide⟩
theorem sX10_isCrossing : Cond.static yX10_isCrossing ∈ lw_tbl := tb_5 _ (List.mem_of_getElem? (i := 141) rfl)
abbrev cX11_init : ByteArray := prog_1_method_1_code
def yX11_init : MethodName := ⟨RX11, "<init>", "()V"⟩
theorem kX11_init : mOK yX11_init cX11_init 3 none 0 := ⟨tb_1 _ (List.mem_of_getElem? (i := 27) rfl), tb_1 _ (List.mem_of_getElem? (i := 1) rfl), by decide +kernel, by decide⟩
theorem vX11_init : Cond.instanceMethod yX11_init ∈ lw_tbl := tb_1 _ (List.mem_of_getElem? (i := 26) rfl)
abbrev cX11_feed : ByteArray := prog_1_method_2_code
def yX11_feed : MethodName := ⟨RX11, "feed", "(IIIII)I"⟩
theorem kX11_feed : mOK yX11_feed cX11_feed 6 (some .int) 5 := ⟨tb_3 _ (List.mem_of_getElem? (i := 37) rfl), tb_1 _ (List.mem_of_getElem? (i := 1) rfl), by decide +kernel, by decide⟩
theorem vX11_feed : Cond.instanceMethod yX11_feed ∈ lw_tbl := tb_3 _ (List.mem_of_getElem? (i := 35) rfl)
theorem eX11_feed : Cond.selects RX11 yX11_feed yX11_feed ∈ lw_tbl := tb_3 _ (List.mem_of_getElem? (i := 36) rfl)
abbrev cX11_back : ByteArray := prog_1_method_3_code
def yX11_back : MethodName := ⟨RX11, "back", "(I)I"⟩
theorem kX11_back : mOK yX11_back cX11_back 2 (some .int) 1 := ⟨tb_3 _ (List.mem_of_getElem? (i := 45) rfl), tb_1 _ (List.mem_of_getElem? (i := 1) rfl), by decide +kernel, by decide⟩
theorem vX11_back : Cond.instanceMethod yX11_back ∈ lw_tbl := tb_3 _ (List.mem_of_getElem? (i := 43) rfl)
theorem eX11_back : Cond.selects RX11 yX11_back yX11_back ∈ lw_tbl := tb_3 _ (List.mem_of_getElem? (i := 44) rfl)
abbrev cX11_read : ByteArray := prog_1_method_4_code
def yX11_read : MethodName := ⟨RX11, "read", "()I"⟩
theorem kX11_read : mOK yX11_read cX11_read 2 (some .int) 0 := ⟨tb_3 _ (List.mem_of_getElem? (i := 49) rfl), tb_1 _ (List.mem_of_getElem? (i := 1) rfl), by decide +kernel, by decide⟩
theorem vX11_read : Cond.instanceMethod yX11_read ∈ lw_tbl := tb_3 _ (List.mem_of_getElem? (i := 47) rfl)
theorem eX11_read : Cond.selects RX11 yX11_read yX11_read ∈ lw_tbl := tb_3 _ (List.mem_of_getElem? (i := 48) rfl)
abbrev cX11_place : ByteArray := prog_1_method_5_code
def yX11_place : MethodName := ⟨RX11, "place", "()I"⟩
theorem kX11_place : mOK yX11_place cX11_place 1 (some .int) 0 := ⟨tb_4 _ (List.mem_of_getElem? (i := 27) rfl), tb_1 _ (List.mem_of_getElem? (i := 1) rfl), by decide +kernel, by decide⟩
theorem vX11_place : Cond.instanceMethod yX11_place ∈ lw_tbl := tb_4 _ (List.mem_of_getElem? (i := 25) rfl)
theorem eX11_place : Cond.selects RX11 yX11_place yX11_place ∈ lw_tbl := tb_4 _ (List.mem_of_getElem? (i := 26) rfl)
abbrev cX11_corner : ByteArray := prog_1_method_6_code
def yX11_corner : MethodName := ⟨RX11, "corner", "(II)I"⟩
theorem kX11_corner : mOK yX11_corner cX11_corner 3 (some .int) 2 := ⟨tb_4 _ (List.mem_of_getElem? (i := 31) rfl), tb_1 _ (List.mem_of_getElem? (i := 1) rfl), by decide +kernel, by decide⟩
theorem vX11_corner : Cond.instanceMethod yX11_corner ∈ lw_tbl := tb_4 _ (List.mem_of_getElem? (i := 29) rfl)
theorem eX11_corner : Cond.selects RX11 yX11_corner yX11_corner ∈ lw_tbl := tb_4 _ (List.mem_of_getElem? (i := 30) rfl)
abbrev cX11_street : ByteArray := prog_1_method_7_code
def yX11_street : MethodName := ⟨RX11, "street", "(II)I"⟩
theorem kX11_street : mOK yX11_street cX11_street 3 (some .int) 2 := ⟨tb_4 _ (List.mem_of_getElem? (i := 55) rfl), tb_1 _ (List.mem_of_getElem? (i := 1) rfl), by decide +kernel, by decide⟩
theorem vX11_street : Cond.instanceMethod yX11_street ∈ lw_tbl := tb_4 _ (List.mem_of_getElem? (i := 53) rfl)
theorem eX11_street : Cond.selects RX11 yX11_street yX11_street ∈ lw_tbl := tb_4 _ (List.mem_of_getElem? (i := 54) rfl)
abbrev cX11_young : ByteArray := prog_1_method_8_code
def yX11_young : MethodName := ⟨RX11, "young", "(II)I"⟩
theorem kX11_young : mOK yX11_young cX11_young 3 (some .int) 2 := ⟨tb_4 _ (List.mem_of_getElem? (i := 74) rfl), tb_1 _ (List.mem_of_getElem? (i := 1) rfl), by decide +kernel, by decide⟩
theorem vX11_young : Cond.instanceMethod yX11_young ∈ lw_tbl := tb_4 _ (List.mem_of_getElem? (i := 72) rfl)
theorem eX11_young : Cond.selects RX11 yX11_young yX11_young ∈ lw_tbl := tb_4 _ (List.mem_of_getElem? (i := 73) rfl)
abbrev cX11_word : ByteArray := prog_1_method_9_code
def yX11_word : MethodName := ⟨RX11, "word", "(II)I"⟩
theorem kX11_word : mOK yX11_word cX11_word 3 (some .int) 2 := ⟨tb_4 _ (List.mem_of_getElem? (i := 109) rfl), tb_1 _ (List.mem_of_getElem? (i := 1) rfl), by decide +kernel, by decide⟩
theorem vX11_word : Cond.instanceMethod yX11_word ∈ lw_tbl := tb_4 _ (List.mem_of_getElem? (i := 107) rfl)
theorem eX11_word : Cond.selects RX11 yX11_word yX11_word ∈ lw_tbl := tb_4 _ (List.mem_of_getElem? (i := 108) rfl)
abbrev cX11_tells : ByteArray := prog_1_method_10_code
def yX11_tells : MethodName := ⟨RX11, "tells", "(III)I"⟩
theorem kX11_tells : mOK yX11_tells cX11_tells 4 (some .int) 3 := ⟨tb_4 _ (List.mem_of_getElem? (i := 117) rfl), tb_1 _ (List.mem_of_getElem? (i := 1) rfl), by decide +kernel, by decide⟩
theorem vX11_tells : Cond.instanceMethod yX11_tells ∈ lw_tbl := tb_4 _ (List.mem_of_getElem? (i := 115) rfl)
theorem eX11_tells : Cond.selects RX11 yX11_tells yX11_tells ∈ lw_tbl := tb_4 _ (List.mem_of_getElem? (i := 116) rfl)
abbrev cX11_step : ByteArray := prog_1_method_11_code
def yX11_step : MethodName := ⟨RX11, "step", "(I)I"⟩
theorem kX11_step : mOK yX11_step cX11_step 3 (some .int) 1 := ⟨tb_4 _ (List.mem_of_getElem? (i := 129) rfl), tb_1 _ (List.mem_of_getElem? (i := 1) rfl), by decide +kernel, by decide⟩
theorem vX11_step : Cond.instanceMethod yX11_step ∈ lw_tbl := tb_4 _ (List.mem_of_getElem? (i := 127) rfl)
theorem eX11_step : Cond.selects RX11 yX11_step yX11_step ∈ lw_tbl := tb_4 _ (List.mem_of_getElem? (i := 128) rfl)
abbrev cX11_say : ByteArray := prog_1_method_12_code
def yX11_say : MethodName := ⟨RX11, "say", "(II)I"⟩
theorem kX11_say : mOK yX11_say cX11_say 4 (some .int) 2 := ⟨tb_4 _ (List.mem_of_getElem? (i := 175) rfl), tb_1 _ (List.mem_of_getElem? (i := 1) rfl), by decide +kernel, by decide⟩
theorem vX11_say : Cond.instanceMethod yX11_say ∈ lw_tbl := tb_4 _ (List.mem_of_getElem? (i := 173) rfl)
theorem eX11_say : Cond.selects RX11 yX11_say yX11_say ∈ lw_tbl := tb_4 _ (List.mem_of_getElem? (i := 174) rfl)
abbrev cX11_move : ByteArray := prog_1_method_13_code
def yX11_move : MethodName := ⟨RX11, "move", "(II)Z"⟩
theorem kX11_move : mOK yX11_move cX11_move 3 (some .boolean) 2 := ⟨tb_4 _ (List.mem_of_getElem? (i := 189) rfl), tb_1 _ (List.mem_of_getElem? (i := 1) rfl), by decide +kernel, by decide⟩
theorem vX11_move : Cond.instanceMethod yX11_move ∈ lw_tbl := tb_4 _ (List.mem_of_getElem? (i := 187) rfl)
theorem eX11_move : Cond.selects RX11 yX11_move yX11_move ∈ lw_tbl := tb_4 _ (List.mem_of_getElem? (i := 188) rfl)
abbrev cX11_rouge : ByteArray := prog_1_method_14_code
def yX11_rouge : MethodName := ⟨RX11, "rouge", "(I)Z"⟩
theorem kX11_rouge : mOK yX11_rouge cX11_rouge 2 (some .boolean) 1 := ⟨tb_4 _ (List.mem_of_getElem? (i := 193) rfl), tb_1 _ (List.mem_of_getElem? (i := 1) rfl), by decide +kernel, by decide⟩
theorem vX11_rouge : Cond.instanceMethod yX11_rouge ∈ lw_tbl := tb_4 _ (List.mem_of_getElem? (i := 191) rfl)
theorem eX11_rouge : Cond.selects RX11 yX11_rouge yX11_rouge ∈ lw_tbl := tb_4 _ (List.mem_of_getElem? (i := 192) rfl)
abbrev cX11_hours : ByteArray := prog_1_method_15_code
def yX11_hours : MethodName := ⟨RX11, "hours", "(I)I"⟩
theorem kX11_hours : mOK yX11_hours cX11_hours 2 (some .int) 1 := ⟨tb_4 _ (List.mem_of_getElem? (i := 198) rfl), tb_1 _ (List.mem_of_getElem? (i := 1) rfl), by decide +kernel, by decide⟩
theorem vX11_hours : Cond.instanceMethod yX11_hours ∈ lw_tbl := tb_4 _ (List.mem_of_getElem? (i := 196) rfl)
theorem eX11_hours : Cond.selects RX11 yX11_hours yX11_hours ∈ lw_tbl := tb_4 _ (List.mem_of_getElem? (i := 197) rfl)
abbrev cX11_undo : ByteArray := prog_1_method_16_code
def yX11_undo : MethodName := ⟨RX11, "undo", "()Z"⟩
theorem kX11_undo : mOK yX11_undo cX11_undo 1 (some .boolean) 0 := ⟨tb_4 _ (List.mem_of_getElem? (i := 205) rfl), tb_1 _ (List.mem_of_getElem? (i := 1) rfl), by decide +kernel, by decide⟩
theorem vX11_undo : Cond.instanceMethod yX11_undo ∈ lw_tbl := tb_4 _ (List.mem_of_getElem? (i := 203) rfl)
theorem eX11_undo : Cond.selects RX11 yX11_undo yX11_undo ∈ lw_tbl := tb_4 _ (List.mem_of_getElem? (i := 204) rfl)
abbrev cX11_darkens : ByteArray := prog_1_method_17_code
def yX11_darkens : MethodName := ⟨RX11, "darkens", "(I)I"⟩
theorem kX11_darkens : mOK yX11_darkens cX11_darkens 2 (some .int) 1 := ⟨tb_4 _ (List.mem_of_getElem? (i := 216) rfl), tb_1 _ (List.mem_of_getElem? (i := 1) rfl), by decide +kernel, by decide⟩
theorem vX11_darkens : Cond.instanceMethod yX11_darkens ∈ lw_tbl := tb_4 _ (List.mem_of_getElem? (i := 214) rfl)
theorem eX11_darkens : Cond.selects RX11 yX11_darkens yX11_darkens ∈ lw_tbl := tb_4 _ (List.mem_of_getElem? (i := 215) rfl)
abbrev cX11_best : ByteArray := prog_1_method_18_code
def yX11_best : MethodName := ⟨RX11, "best", "(I)I"⟩
theorem kX11_best : mOK yX11_best cX11_best 2 (some .int) 1 := ⟨tb_4 _ (List.mem_of_getElem? (i := 230) rfl), tb_1 _ (List.mem_of_getElem? (i := 1) rfl), by decide +kernel, by decide⟩
theorem vX11_best : Cond.instanceMethod yX11_best ∈ lw_tbl := tb_4 _ (List.mem_of_getElem? (i := 228) rfl)
theorem eX11_best : Cond.selects RX11 yX11_best yX11_best ∈ lw_tbl := tb_4 _ (List.mem_of_getElem? (i := 229) rfl)
abbrev cX11_telling : ByteArray := prog_1_method_19_code
def yX11_telling : MethodName := ⟨RX11, "telling", "(II)I"⟩
theorem kX11_telling : mOK yX11_telling cX11_telling 4 (some .int) 2 := ⟨tb_5 _ (List.mem_of_getElem? (i := 16) rfl), tb_1 _ (List.mem_of_getElem? (i := 1) rfl), by decide +kernel, by decide⟩
theorem vX11_telling : Cond.instanceMethod yX11_telling ∈ lw_tbl := tb_5 _ (List.mem_of_getElem? (i := 14) rfl)
theorem eX11_telling : Cond.selects RX11 yX11_telling yX11_telling ∈ lw_tbl := tb_5 _ (List.mem_of_getElem? (i := 15) rfl)
abbrev cX11_keep : ByteArray := prog_1_method_20_code
def yX11_keep : MethodName := ⟨RX11, "keep", "()I"⟩
theorem kX11_keep : mOK yX11_keep cX11_keep 2 (some .int) 0 := ⟨tb_5 _ (List.mem_of_getElem? (i := 28) rfl), tb_1 _ (List.mem_of_getElem? (i := 1) rfl), by decide +kernel, by decide⟩
theorem vX11_keep : Cond.instanceMethod yX11_keep ∈ lw_tbl := tb_5 _ (List.mem_of_getElem? (i := 26) rfl)
theorem eX11_keep : Cond.selects RX11 yX11_keep yX11_keep ∈ lw_tbl := tb_5 _ (List.mem_of_getElem? (i := 27) rfl)
abbrev cX11_steps : ByteArray := prog_1_method_21_code
def yX11_steps : MethodName := ⟨RX11, "steps", "(II)I"⟩
theorem kX11_steps : mOK yX11_steps cX11_steps 3 (some .int) 2 := ⟨tb_5 _ (List.mem_of_getElem? (i := 41) rfl), tb_1 _ (List.mem_of_getElem? (i := 1) rfl), by decide +kernel, by decide⟩
theorem vX11_steps : Cond.instanceMethod yX11_steps ∈ lw_tbl := tb_5 _ (List.mem_of_getElem? (i := 39) rfl)
theorem eX11_steps : Cond.selects RX11 yX11_steps yX11_steps ∈ lw_tbl := tb_5 _ (List.mem_of_getElem? (i := 40) rfl)
abbrev cX11_round : ByteArray := prog_1_method_22_code
def yX11_round : MethodName := ⟨RX11, "round", "()I"⟩
theorem kX11_round : mOK yX11_round cX11_round 1 (some .int) 0 := ⟨tb_5 _ (List.mem_of_getElem? (i := 55) rfl), tb_1 _ (List.mem_of_getElem? (i := 1) rfl), by decide +kernel, by decide⟩
theorem vX11_round : Cond.instanceMethod yX11_round ∈ lw_tbl := tb_5 _ (List.mem_of_getElem? (i := 53) rfl)
theorem eX11_round : Cond.selects RX11 yX11_round yX11_round ∈ lw_tbl := tb_5 _ (List.mem_of_getElem? (i := 54) rfl)
abbrev cX11_safe : ByteArray := prog_1_method_23_code
def yX11_safe : MethodName := ⟨RX11, "safe", "(I)I"⟩
theorem kX11_safe : mOK yX11_safe cX11_safe 2 (some .int) 1 := ⟨tb_5 _ (List.mem_of_getElem? (i := 72) rfl), tb_1 _ (List.mem_of_getElem? (i := 1) rfl), by decide +kernel, by decide⟩
theorem vX11_safe : Cond.instanceMethod yX11_safe ∈ lw_tbl := tb_5 _ (List.mem_of_getElem? (i := 70) rfl)
theorem eX11_safe : Cond.selects RX11 yX11_safe yX11_safe ∈ lw_tbl := tb_5 _ (List.mem_of_getElem? (i := 71) rfl)
abbrev cX11_dark : ByteArray := prog_1_method_24_code
def yX11_dark : MethodName := ⟨RX11, "dark", "(II)I"⟩
theorem kX11_dark : mOK yX11_dark cX11_dark 3 (some .int) 2 := ⟨tb_5 _ (List.mem_of_getElem? (i := 85) rfl), tb_1 _ (List.mem_of_getElem? (i := 1) rfl), by decide +kernel, by decide⟩
theorem vX11_dark : Cond.instanceMethod yX11_dark ∈ lw_tbl := tb_5 _ (List.mem_of_getElem? (i := 83) rfl)
theorem eX11_dark : Cond.selects RX11 yX11_dark yX11_dark ∈ lw_tbl := tb_5 _ (List.mem_of_getElem? (i := 84) rfl)
abbrev cX11_bridges : ByteArray := prog_1_method_25_code
def yX11_bridges : MethodName := ⟨RX11, "bridges", "()I"⟩
theorem kX11_bridges : mOK yX11_bridges cX11_bridges 1 (some .int) 0 := ⟨tb_5 _ (List.mem_of_getElem? (i := 89) rfl), tb_1 _ (List.mem_of_getElem? (i := 1) rfl), by decide +kernel, by decide⟩
theorem vX11_bridges : Cond.instanceMethod yX11_bridges ∈ lw_tbl := tb_5 _ (List.mem_of_getElem? (i := 87) rfl)
theorem eX11_bridges : Cond.selects RX11 yX11_bridges yX11_bridges ∈ lw_tbl := tb_5 _ (List.mem_of_getElem? (i := 88) rfl)
abbrev cX11_gather : ByteArray := prog_1_method_26_code
def yX11_gather : MethodName := ⟨RX11, "gather", "(I)I"⟩
theorem kX11_gather : mOK yX11_gather cX11_gather 3 (some .int) 1 := ⟨tb_5 _ (List.mem_of_getElem? (i := 98) rfl), tb_1 _ (List.mem_of_getElem? (i := 1) rfl), by decide +kernel, by decide⟩
theorem vX11_gather : Cond.instanceMethod yX11_gather ∈ lw_tbl := tb_5 _ (List.mem_of_getElem? (i := 96) rfl)
theorem eX11_gather : Cond.selects RX11 yX11_gather yX11_gather ∈ lw_tbl := tb_5 _ (List.mem_of_getElem? (i := 97) rfl)
abbrev cX11_moves : ByteArray := prog_1_method_27_code
def yX11_moves : MethodName := ⟨RX11, "moves", "(II)I"⟩
theorem kX11_moves : mOK yX11_moves cX11_moves 4 (some .int) 2 := ⟨tb_5 _ (List.mem_of_getElem? (i := 112) rfl), tb_1 _ (List.mem_of_getElem? (i := 1) rfl), by decide +kernel, by decide⟩
theorem vX11_moves : Cond.instanceMethod yX11_moves ∈ lw_tbl := tb_5 _ (List.mem_of_getElem? (i := 110) rfl)
theorem eX11_moves : Cond.selects RX11 yX11_moves yX11_moves ∈ lw_tbl := tb_5 _ (List.mem_of_getElem? (i := 111) rfl)
abbrev cX11_cut : ByteArray := prog_1_method_28_code
def yX11_cut : MethodName := ⟨RX11, "cut", "(II)I"⟩
theorem kX11_cut : mOK yX11_cut cX11_cut 3 (some .int) 2 := ⟨tb_5 _ (List.mem_of_getElem? (i := 132) rfl), tb_1 _ (List.mem_of_getElem? (i := 1) rfl), by decide +kernel, by decide⟩
theorem vX11_cut : Cond.instanceMethod yX11_cut ∈ lw_tbl := tb_5 _ (List.mem_of_getElem? (i := 130) rfl)
theorem eX11_cut : Cond.selects RX11 yX11_cut yX11_cut ∈ lw_tbl := tb_5 _ (List.mem_of_getElem? (i := 131) rfl)
abbrev cX11_tree : ByteArray := prog_1_method_29_code
def yX11_tree : MethodName := ⟨RX11, "tree", "()I"⟩
theorem kX11_tree : mOK yX11_tree cX11_tree 1 (some .int) 0 := ⟨tb_5 _ (List.mem_of_getElem? (i := 146) rfl), tb_1 _ (List.mem_of_getElem? (i := 1) rfl), by decide +kernel, by decide⟩
theorem vX11_tree : Cond.instanceMethod yX11_tree ∈ lw_tbl := tb_5 _ (List.mem_of_getElem? (i := 144) rfl)
theorem eX11_tree : Cond.selects RX11 yX11_tree yX11_tree ∈ lw_tbl := tb_5 _ (List.mem_of_getElem? (i := 145) rfl)
abbrev cX11_twins : ByteArray := prog_1_method_30_code
def yX11_twins : MethodName := ⟨RX11, "twins", "(I)I"⟩
theorem kX11_twins : mOK yX11_twins cX11_twins 3 (some .int) 1 := ⟨tb_5 _ (List.mem_of_getElem? (i := 157) rfl), tb_1 _ (List.mem_of_getElem? (i := 1) rfl), by decide +kernel, by decide⟩
theorem vX11_twins : Cond.instanceMethod yX11_twins ∈ lw_tbl := tb_5 _ (List.mem_of_getElem? (i := 155) rfl)
theorem eX11_twins : Cond.selects RX11 yX11_twins yX11_twins ∈ lw_tbl := tb_5 _ (List.mem_of_getElem? (i := 156) rfl)
abbrev cX11_brightest : ByteArray := prog_1_method_31_code
def yX11_brightest : MethodName := ⟨RX11, "brightest", "(I)I"⟩
theorem kX11_brightest : mOK yX11_brightest cX11_brightest 3 (some .int) 1 := ⟨tb_5 _ (List.mem_of_getElem? (i := 174) rfl), tb_1 _ (List.mem_of_getElem? (i := 1) rfl), by decide +kernel, by decide⟩
theorem vX11_brightest : Cond.instanceMethod yX11_brightest ∈ lw_tbl := tb_5 _ (List.mem_of_getElem? (i := 172) rfl)
theorem eX11_brightest : Cond.selects RX11 yX11_brightest yX11_brightest ∈ lw_tbl := tb_5 _ (List.mem_of_getElem? (i := 173) rfl)
abbrev cX11_glowIn : ByteArray := prog_1_method_32_code
def yX11_glowIn : MethodName := ⟨RX11, "glowIn", "(II)I"⟩
theorem kX11_glowIn : mOK yX11_glowIn cX11_glowIn 3 (some .int) 2 := ⟨tb_5 _ (List.mem_of_getElem? (i := 182) rfl), tb_1 _ (List.mem_of_getElem? (i := 1) rfl), by decide +kernel, by decide⟩
theorem vX11_glowIn : Cond.instanceMethod yX11_glowIn ∈ lw_tbl := tb_5 _ (List.mem_of_getElem? (i := 180) rfl)
theorem eX11_glowIn : Cond.selects RX11 yX11_glowIn yX11_glowIn ∈ lw_tbl := tb_5 _ (List.mem_of_getElem? (i := 181) rfl)
abbrev cX11_then : ByteArray := prog_1_method_33_code
def yX11_then : MethodName := ⟨RX11, "then", "(II)I"⟩
theorem kX11_then : mOK yX11_then cX11_then 4 (some .int) 2 := ⟨tb_5 _ (List.mem_of_getElem? (i := 190) rfl), tb_1 _ (List.mem_of_getElem? (i := 1) rfl), by decide +kernel, by decide⟩
theorem vX11_then : Cond.instanceMethod yX11_then ∈ lw_tbl := tb_5 _ (List.mem_of_getElem? (i := 188) rfl)
theorem eX11_then : Cond.selects RX11 yX11_then yX11_then ∈ lw_tbl := tb_5 _ (List.mem_of_getElem? (i := 189) rfl)
abbrev cX11_year : ByteArray := prog_1_method_34_code
def yX11_year : MethodName := ⟨RX11, "year", "(III)I"⟩
theorem kX11_year : mOK yX11_year cX11_year 6 (some .int) 3 := ⟨tb_5 _ (List.mem_of_getElem? (i := 194) rfl), tb_1 _ (List.mem_of_getElem? (i := 1) rfl), by decide +kernel, by decide⟩
theorem vX11_year : Cond.instanceMethod yX11_year ∈ lw_tbl := tb_5 _ (List.mem_of_getElem? (i := 192) rfl)
theorem eX11_year : Cond.selects RX11 yX11_year yX11_year ∈ lw_tbl := tb_5 _ (List.mem_of_getElem? (i := 193) rfl)
abbrev cX11_tell : ByteArray := prog_1_method_35_code
def yX11_tell : MethodName := ⟨RX11, "tell", "(IIZ)I"⟩
theorem kX11_tell : mOK yX11_tell cX11_tell 4 (some .int) 3 := ⟨tb_5 _ (List.mem_of_getElem? (i := 198) rfl), tb_1 _ (List.mem_of_getElem? (i := 1) rfl), by decide +kernel, by decide⟩
theorem vX11_tell : Cond.instanceMethod yX11_tell ∈ lw_tbl := tb_5 _ (List.mem_of_getElem? (i := 196) rfl)
theorem eX11_tell : Cond.selects RX11 yX11_tell yX11_tell ∈ lw_tbl := tb_5 _ (List.mem_of_getElem? (i := 197) rfl)
abbrev cX11_forget : ByteArray := prog_1_method_36_code
def yX11_forget : MethodName := ⟨RX11, "forget", "()I"⟩
theorem kX11_forget : mOK yX11_forget cX11_forget 2 (some .int) 0 := ⟨tb_5 _ (List.mem_of_getElem? (i := 209) rfl), tb_1 _ (List.mem_of_getElem? (i := 1) rfl), by decide +kernel, by decide⟩
theorem vX11_forget : Cond.instanceMethod yX11_forget ∈ lw_tbl := tb_5 _ (List.mem_of_getElem? (i := 207) rfl)
theorem eX11_forget : Cond.selects RX11 yX11_forget yX11_forget ∈ lw_tbl := tb_5 _ (List.mem_of_getElem? (i := 208) rfl)
abbrev cX11_words : ByteArray := prog_1_method_37_code
def yX11_words : MethodName := ⟨RX11, "words", "(II)I"⟩
theorem kX11_words : mOK yX11_words cX11_words 4 (some .int) 2 := ⟨tb_5 _ (List.mem_of_getElem? (i := 213) rfl), tb_1 _ (List.mem_of_getElem? (i := 1) rfl), by decide +kernel, by decide⟩
theorem vX11_words : Cond.instanceMethod yX11_words ∈ lw_tbl := tb_5 _ (List.mem_of_getElem? (i := 211) rfl)
theorem eX11_words : Cond.selects RX11 yX11_words yX11_words ∈ lw_tbl := tb_5 _ (List.mem_of_getElem? (i := 212) rfl)
abbrev cX11_look : ByteArray := prog_1_method_38_code
def yX11_look : MethodName := ⟨RX11, "look", "(II)I"⟩
theorem kX11_look : mOK yX11_look cX11_look 4 (some .int) 2 := ⟨tb_5 _ (List.mem_of_getElem? (i := 230) rfl), tb_1 _ (List.mem_of_getElem? (i := 1) rfl), by decide +kernel, by decide⟩
theorem vX11_look : Cond.instanceMethod yX11_look ∈ lw_tbl := tb_5 _ (List.mem_of_getElem? (i := 228) rfl)
theorem eX11_look : Cond.selects RX11 yX11_look yX11_look ∈ lw_tbl := tb_5 _ (List.mem_of_getElem? (i := 229) rfl)
abbrev cX11_hold : ByteArray := prog_1_method_39_code
def yX11_hold : MethodName := ⟨RX11, "hold", "(I)Z"⟩
theorem kX11_hold : mOK yX11_hold cX11_hold 2 (some .boolean) 1 := ⟨tb_6 _ (List.mem_of_getElem? (i := 3) rfl), tb_1 _ (List.mem_of_getElem? (i := 1) rfl), by decide +kernel, by decide⟩
theorem vX11_hold : Cond.instanceMethod yX11_hold ∈ lw_tbl := tb_6 _ (List.mem_of_getElem? (i := 1) rfl)
theorem eX11_hold : Cond.selects RX11 yX11_hold yX11_hold ∈ lw_tbl := tb_6 _ (List.mem_of_getElem? (i := 2) rfl)
abbrev cX11_restore : ByteArray := prog_1_method_40_code
def yX11_restore : MethodName := ⟨RX11, "restore", "(I)Z"⟩
theorem kX11_restore : mOK yX11_restore cX11_restore 2 (some .boolean) 1 := ⟨tb_6 _ (List.mem_of_getElem? (i := 11) rfl), tb_1 _ (List.mem_of_getElem? (i := 1) rfl), by decide +kernel, by decide⟩
theorem vX11_restore : Cond.instanceMethod yX11_restore ∈ lw_tbl := tb_6 _ (List.mem_of_getElem? (i := 9) rfl)
theorem eX11_restore : Cond.selects RX11 yX11_restore yX11_restore ∈ lw_tbl := tb_6 _ (List.mem_of_getElem? (i := 10) rfl)
abbrev cX11_count : ByteArray := prog_1_method_41_code
def yX11_count : MethodName := ⟨RX11, "count", "(I)I"⟩
theorem kX11_count : mOK yX11_count cX11_count 2 (some .int) 1 := ⟨tb_6 _ (List.mem_of_getElem? (i := 19) rfl), tb_1 _ (List.mem_of_getElem? (i := 1) rfl), by decide +kernel, by decide⟩
theorem vX11_count : Cond.instanceMethod yX11_count ∈ lw_tbl := tb_6 _ (List.mem_of_getElem? (i := 17) rfl)
theorem eX11_count : Cond.selects RX11 yX11_count yX11_count ∈ lw_tbl := tb_6 _ (List.mem_of_getElem? (i := 18) rfl)
abbrev cX11_isCorner : ByteArray := prog_1_method_42_code
def yX11_isCorner : MethodName := ⟨RX11, "isCorner", "(I)Z"⟩
theorem kX11_isCorner : mOK yX11_isCorner cX11_isCorner 2 (some .boolean) 1 := ⟨tb_4 _ (List.mem_of_getElem? (i := 35) rfl), tb_1 _ (List.mem_of_getElem? (i := 1) rfl), by decide +kernel, by decide⟩
theorem vX11_isCorner : Cond.instanceMethod yX11_isCorner ∈ lw_tbl := tb_4 _ (List.mem_of_getElem? (i := 34) rfl)
theorem eX11_isCorner : Cond.selects RX11 yX11_isCorner yX11_isCorner ∈ lw_tbl := List.mem_of_getElem? (i := 23) rfl
abbrev cX11_isStreet : ByteArray := prog_1_method_43_code
def yX11_isStreet : MethodName := ⟨RX11, "isStreet", "(I)Z"⟩
theorem kX11_isStreet : mOK yX11_isStreet cX11_isStreet 2 (some .boolean) 1 := ⟨tb_4 _ (List.mem_of_getElem? (i := 59) rfl), tb_1 _ (List.mem_of_getElem? (i := 1) rfl), by decide +kernel, by decide⟩
theorem vX11_isStreet : Cond.instanceMethod yX11_isStreet ∈ lw_tbl := tb_4 _ (List.mem_of_getElem? (i := 58) rfl)
theorem eX11_isStreet : Cond.selects RX11 yX11_isStreet yX11_isStreet ∈ lw_tbl := List.mem_of_getElem? (i := 24) rfl
abbrev cX11_isYoung : ByteArray := prog_1_method_44_code
def yX11_isYoung : MethodName := ⟨RX11, "isYoung", "(I)Z"⟩
theorem kX11_isYoung : mOK yX11_isYoung cX11_isYoung 2 (some .boolean) 1 := ⟨tb_4 _ (List.mem_of_getElem? (i := 78) rfl), tb_1 _ (List.mem_of_getElem? (i := 1) rfl), by decide +kernel, by decide⟩
theorem vX11_isYoung : Cond.instanceMethod yX11_isYoung ∈ lw_tbl := tb_4 _ (List.mem_of_getElem? (i := 77) rfl)
theorem eX11_isYoung : Cond.selects RX11 yX11_isYoung yX11_isYoung ∈ lw_tbl := List.mem_of_getElem? (i := 25) rfl
abbrev cX11_isOut : ByteArray := prog_1_method_45_code
def yX11_isOut : MethodName := ⟨RX11, "isOut", "(I)Z"⟩
theorem kX11_isOut : mOK yX11_isOut cX11_isOut 2 (some .boolean) 1 := ⟨tb_4 _ (List.mem_of_getElem? (i := 179) rfl), tb_1 _ (List.mem_of_getElem? (i := 1) rfl), by decide +kernel, by decide⟩
theorem vX11_isOut : Cond.instanceMethod yX11_isOut ∈ lw_tbl := tb_4 _ (List.mem_of_getElem? (i := 178) rfl)
theorem eX11_isOut : Cond.selects RX11 yX11_isOut yX11_isOut ∈ lw_tbl := List.mem_of_getElem? (i := 31) rfl
abbrev cX11_isWord : ByteArray := prog_1_method_46_code
def yX11_isWord : MethodName := ⟨RX11, "isWord", "(I)Z"⟩
theorem kX11_isWord : mOK yX11_isWord cX11_isWord 2 (some .boolean) 1 := ⟨tb_4 _ (List.mem_of_getElem? (i := 113) rfl), tb_1 _ (List.mem_of_getElem? (i := 1) rfl), by decide +kernel, by decide⟩
theorem vX11_isWord : Cond.instanceMethod yX11_isWord ∈ lw_tbl := tb_4 _ (List.mem_of_getElem? (i := 112) rfl)
theorem eX11_isWord : Cond.selects RX11 yX11_isWord yX11_isWord ∈ lw_tbl := List.mem_of_getElem? (i := 28) rfl
abbrev cX11_isKnown : ByteArray := prog_1_method_47_code
def yX11_isKnown : MethodName := ⟨RX11, "isKnown", "(I)Z"⟩
theorem kX11_isKnown : mOK yX11_isKnown cX11_isKnown 2 (some .boolean) 1 := ⟨tb_5 _ (List.mem_of_getElem? (i := 217) rfl), tb_1 _ (List.mem_of_getElem? (i := 1) rfl), by decide +kernel, by decide⟩
theorem vX11_isKnown : Cond.instanceMethod yX11_isKnown ∈ lw_tbl := tb_5 _ (List.mem_of_getElem? (i := 216) rfl)
theorem eX11_isKnown : Cond.selects RX11 yX11_isKnown yX11_isKnown ∈ lw_tbl := List.mem_of_getElem? (i := 38) rfl
abbrev cX11_isGlow : ByteArray := prog_1_method_48_code
def yX11_isGlow : MethodName := ⟨RX11, "isGlow", "(I)Z"⟩
theorem kX11_isGlow : mOK yX11_isGlow cX11_isGlow 1 (some .boolean) 1 := ⟨tb_5 _ (List.mem_of_getElem? (i := 201) rfl), tb_1 _ (List.mem_of_getElem? (i := 1) rfl), by decide +kernel, by decide⟩
theorem sX11_isGlow : Cond.static yX11_isGlow ∈ lw_tbl := tb_5 _ (List.mem_of_getElem? (i := 200) rfl)
abbrev cX11_areHours : ByteArray := prog_1_method_49_code
def yX11_areHours : MethodName := ⟨RX11, "areHours", "(I)Z"⟩
theorem kX11_areHours : mOK yX11_areHours cX11_areHours 1 (some .boolean) 1 := ⟨tb_4 _ (List.mem_of_getElem? (i := 201) rfl), tb_1 _ (List.mem_of_getElem? (i := 1) rfl), by decide +kernel, by decide⟩
theorem sX11_areHours : Cond.static yX11_areHours ∈ lw_tbl := tb_4 _ (List.mem_of_getElem? (i := 200) rfl)
abbrev cX11_isEither : ByteArray := prog_1_method_50_code
def yX11_isEither : MethodName := ⟨RX11, "isEither", "(I)Z"⟩
theorem kX11_isEither : mOK yX11_isEither cX11_isEither 1 (some .boolean) 1 := ⟨tb_5 _ (List.mem_of_getElem? (i := 19) rfl), tb_1 _ (List.mem_of_getElem? (i := 1) rfl), by decide +kernel, by decide⟩
theorem sX11_isEither : Cond.static yX11_isEither ∈ lw_tbl := tb_5 _ (List.mem_of_getElem? (i := 18) rfl)
abbrev cX11_sumOf : ByteArray := prog_1_method_51_code
def yX11_sumOf : MethodName := ⟨RX11, "sumOf", "([I)I"⟩
theorem kX11_sumOf : mOK yX11_sumOf cX11_sumOf 3 (some .int) 1 := ⟨tb_6 _ (List.mem_of_getElem? (i := 23) rfl), tb_1 _ (List.mem_of_getElem? (i := 1) rfl), by decide +kernel, by decide⟩
theorem sX11_sumOf : Cond.static yX11_sumOf ∈ lw_tbl := tb_6 _ (List.mem_of_getElem? (i := 22) rfl)
abbrev cX11_beginThing : ByteArray := prog_1_method_52_code
def yX11_beginThing : MethodName := ⟨RX11, "beginThing", "()V"⟩
theorem kX11_beginThing : mOK yX11_beginThing cX11_beginThing 1 none 0 := ⟨tb_4 _ (List.mem_of_getElem? (i := 137) rfl), tb_1 _ (List.mem_of_getElem? (i := 1) rfl), by decide +kernel, by decide⟩
theorem vX11_beginThing : Cond.instanceMethod yX11_beginThing ∈ lw_tbl := tb_4 _ (List.mem_of_getElem? (i := 136) rfl)
theorem eX11_beginThing : Cond.selects RX11 yX11_beginThing yX11_beginThing ∈ lw_tbl := List.mem_of_getElem? (i := 29) rfl
abbrev cX11_settle : ByteArray := prog_1_method_53_code
def yX11_settle : MethodName := ⟨RX11, "settle", "()V"⟩
theorem kX11_settle : mOK yX11_settle cX11_settle 2 none 0 := ⟨tb_4 _ (List.mem_of_getElem? (i := 9) rfl), tb_1 _ (List.mem_of_getElem? (i := 1) rfl), by decide +kernel, by decide⟩
theorem vX11_settle : Cond.instanceMethod yX11_settle ∈ lw_tbl := tb_4 _ (List.mem_of_getElem? (i := 8) rfl)
theorem eX11_settle : Cond.selects RX11 yX11_settle yX11_settle ∈ lw_tbl := List.mem_of_getElem? (i := 22) rfl
abbrev cX12_init : ByteArray := prog_14_method_2_code
def yX12_init : MethodName := ⟨RX12, "<init>", "()V"⟩
theorem kX12_init : mOK yX12_init cX12_init 1 none 0 := ⟨tb_6 _ (List.mem_of_getElem? (i := 32) rfl), tb_1 _ (List.mem_of_getElem? (i := 17) rfl), by decide +kernel, by decide⟩
theorem vX12_init : Cond.instanceMethod yX12_init ∈ lw_tbl := tb_6 _ (List.mem_of_getElem? (i := 31) rfl)
abbrev cX12_feed : ByteArray := prog_14_method_3_code
def yX12_feed : MethodName := ⟨RX12, "feed", "(IIIII)I"⟩
theorem kX12_feed : mOK yX12_feed cX12_feed 6 (some .int) 5 := ⟨tb_7 _ (List.mem_of_getElem? (i := 33) rfl), tb_1 _ (List.mem_of_getElem? (i := 17) rfl), by decide +kernel, by decide⟩
theorem vX12_feed : Cond.instanceMethod yX12_feed ∈ lw_tbl := tb_7 _ (List.mem_of_getElem? (i := 31) rfl)
theorem eX12_feed : Cond.selects RX12 yX12_feed yX12_feed ∈ lw_tbl := tb_7 _ (List.mem_of_getElem? (i := 32) rfl)
abbrev cX12_put : ByteArray := prog_14_method_4_code
def yX12_put : MethodName := ⟨RX12, "put", "(I)V"⟩
theorem kX12_put : mOK yX12_put cX12_put 3 none 1 := ⟨tb_7 _ (List.mem_of_getElem? (i := 37) rfl), tb_1 _ (List.mem_of_getElem? (i := 17) rfl), by decide +kernel, by decide⟩
theorem vX12_put : Cond.instanceMethod yX12_put ∈ lw_tbl := tb_7 _ (List.mem_of_getElem? (i := 36) rfl)
theorem eX12_put : Cond.selects RX12 yX12_put yX12_put ∈ lw_tbl := List.mem_of_getElem? (i := 43) rfl
abbrev cX12_back : ByteArray := prog_14_method_5_code
def yX12_back : MethodName := ⟨RX12, "back", "(I)I"⟩
theorem kX12_back : mOK yX12_back cX12_back 2 (some .int) 1 := ⟨tb_7 _ (List.mem_of_getElem? (i := 41) rfl), tb_1 _ (List.mem_of_getElem? (i := 17) rfl), by decide +kernel, by decide⟩
theorem vX12_back : Cond.instanceMethod yX12_back ∈ lw_tbl := tb_7 _ (List.mem_of_getElem? (i := 39) rfl)
theorem eX12_back : Cond.selects RX12 yX12_back yX12_back ∈ lw_tbl := tb_7 _ (List.mem_of_getElem? (i := 40) rfl)
abbrev cX12_byteAt : ByteArray := prog_14_method_6_code
def yX12_byteAt : MethodName := ⟨RX12, "byteAt", "(I)I"⟩
theorem kX12_byteAt : mOK yX12_byteAt cX12_byteAt 2 (some .int) 1 := ⟨tb_7 _ (List.mem_of_getElem? (i := 53) rfl), tb_1 _ (List.mem_of_getElem? (i := 17) rfl), by decide +kernel, by decide⟩
theorem vX12_byteAt : Cond.instanceMethod yX12_byteAt ∈ lw_tbl := tb_7 _ (List.mem_of_getElem? (i := 52) rfl)
theorem eX12_byteAt : Cond.selects RX12 yX12_byteAt yX12_byteAt ∈ lw_tbl := List.mem_of_getElem? (i := 45) rfl
abbrev cX12_isDigit : ByteArray := prog_14_method_7_code
def yX12_isDigit : MethodName := ⟨RX12, "isDigit", "(I)Z"⟩
theorem kX12_isDigit : mOK yX12_isDigit cX12_isDigit 1 (some .boolean) 1 := ⟨tb_7 _ (List.mem_of_getElem? (i := 63) rfl), tb_1 _ (List.mem_of_getElem? (i := 17) rfl), by decide +kernel, by decide⟩
theorem sX12_isDigit : Cond.static yX12_isDigit ∈ lw_tbl := tb_7 _ (List.mem_of_getElem? (i := 62) rfl)
abbrev cX12_isLetter : ByteArray := prog_14_method_8_code
def yX12_isLetter : MethodName := ⟨RX12, "isLetter", "(I)Z"⟩
theorem kX12_isLetter : mOK yX12_isLetter cX12_isLetter 1 (some .boolean) 1 := ⟨tb_7 _ (List.mem_of_getElem? (i := 60) rfl), tb_1 _ (List.mem_of_getElem? (i := 17) rfl), by decide +kernel, by decide⟩
theorem sX12_isLetter : Cond.static yX12_isLetter ∈ lw_tbl := tb_7 _ (List.mem_of_getElem? (i := 59) rfl)
abbrev cX12_appends : ByteArray := prog_14_method_9_code
def yX12_appends : MethodName := ⟨RX12, "appends", "(JI)J"⟩
theorem kX12_appends : mOK yX12_appends cX12_appends 3 (some .long) 2 := ⟨tb_6 _ (List.mem_of_getElem? (i := 43) rfl), tb_1 _ (List.mem_of_getElem? (i := 17) rfl), by decide +kernel, by decide⟩
theorem sX12_appends : Cond.static yX12_appends ∈ lw_tbl := tb_6 _ (List.mem_of_getElem? (i := 42) rfl)
abbrev cX12_word : ByteArray := prog_14_method_10_code
def yX12_word : MethodName := ⟨RX12, "word", "(IIIIIII)J"⟩
theorem kX12_word : mOK yX12_word cX12_word 7 (some .long) 7 := ⟨tb_6 _ (List.mem_of_getElem? (i := 40) rfl), tb_1 _ (List.mem_of_getElem? (i := 17) rfl), by decide +kernel, by decide⟩
theorem sX12_word : Cond.static yX12_word ∈ lw_tbl := tb_6 _ (List.mem_of_getElem? (i := 39) rfl)
abbrev cX12_token : ByteArray := prog_14_method_11_code
def yX12_token : MethodName := ⟨RX12, "token", "(IIIJ)V"⟩
theorem kX12_token : mOK yX12_token cX12_token 6 none 4 := ⟨tb_7 _ (List.mem_of_getElem? (i := 57) rfl), tb_1 _ (List.mem_of_getElem? (i := 17) rfl), by decide +kernel, by decide⟩
theorem vX12_token : Cond.instanceMethod yX12_token ∈ lw_tbl := tb_7 _ (List.mem_of_getElem? (i := 56) rfl)
theorem eX12_token : Cond.selects RX12 yX12_token yX12_token ∈ lw_tbl := List.mem_of_getElem? (i := 46) rfl
abbrev cX12_cutsUp : ByteArray := prog_14_method_12_code
def yX12_cutsUp : MethodName := ⟨RX12, "cutsUp", "()V"⟩
theorem kX12_cutsUp : mOK yX12_cutsUp cX12_cutsUp 8 none 0 := ⟨tb_7 _ (List.mem_of_getElem? (i := 49) rfl), tb_1 _ (List.mem_of_getElem? (i := 17) rfl), by decide +kernel, by decide⟩
theorem vX12_cutsUp : Cond.instanceMethod yX12_cutsUp ∈ lw_tbl := tb_7 _ (List.mem_of_getElem? (i := 48) rfl)
theorem eX12_cutsUp : Cond.selects RX12 yX12_cutsUp yX12_cutsUp ∈ lw_tbl := List.mem_of_getElem? (i := 44) rfl
abbrev cX12_sign : ByteArray := prog_14_method_13_code
def yX12_sign : MethodName := ⟨RX12, "sign", "(III)I"⟩
theorem kX12_sign : mOK yX12_sign cX12_sign 5 (some .int) 3 := ⟨tb_7 _ (List.mem_of_getElem? (i := 67) rfl), tb_1 _ (List.mem_of_getElem? (i := 17) rfl), by decide +kernel, by decide⟩
theorem vX12_sign : Cond.instanceMethod yX12_sign ∈ lw_tbl := tb_7 _ (List.mem_of_getElem? (i := 66) rfl)
theorem eX12_sign : Cond.selects RX12 yX12_sign yX12_sign ∈ lw_tbl := List.mem_of_getElem? (i := 47) rfl
abbrev cX12_is : ByteArray := prog_14_method_14_code
def yX12_is : MethodName := ⟨RX12, "is", "(I)Z"⟩
theorem kX12_is : mOK yX12_is cX12_is 2 (some .boolean) 1 := ⟨tb_7 _ (List.mem_of_getElem? (i := 71) rfl), tb_1 _ (List.mem_of_getElem? (i := 17) rfl), by decide +kernel, by decide⟩
theorem vX12_is : Cond.instanceMethod yX12_is ∈ lw_tbl := tb_7 _ (List.mem_of_getElem? (i := 70) rfl)
theorem eX12_is : Cond.selects RX12 yX12_is yX12_is ∈ lw_tbl := List.mem_of_getElem? (i := 48) rfl
abbrev cX12_fail : ByteArray := prog_14_method_15_code
def yX12_fail : MethodName := ⟨RX12, "fail", "(I)V"⟩
theorem kX12_fail : mOK yX12_fail cX12_fail 2 none 1 := ⟨tb_7 _ (List.mem_of_getElem? (i := 83) rfl), tb_1 _ (List.mem_of_getElem? (i := 17) rfl), by decide +kernel, by decide⟩
theorem vX12_fail : Cond.instanceMethod yX12_fail ∈ lw_tbl := tb_7 _ (List.mem_of_getElem? (i := 82) rfl)
theorem eX12_fail : Cond.selects RX12 yX12_fail yX12_fail ∈ lw_tbl := List.mem_of_getElem? (i := 51) rfl
abbrev cX12_wrong : ByteArray := prog_14_method_16_code
def yX12_wrong : MethodName := ⟨RX12, "wrong", "(II)V"⟩
theorem kX12_wrong : mOK yX12_wrong cX12_wrong 4 none 2 := ⟨tb_7 _ (List.mem_of_getElem? (i := 99) rfl), tb_1 _ (List.mem_of_getElem? (i := 17) rfl), by decide +kernel, by decide⟩
theorem vX12_wrong : Cond.instanceMethod yX12_wrong ∈ lw_tbl := tb_7 _ (List.mem_of_getElem? (i := 98) rfl)
theorem eX12_wrong : Cond.selects RX12 yX12_wrong yX12_wrong ∈ lw_tbl := List.mem_of_getElem? (i := 55) rfl
abbrev cX12_goesOn : ByteArray := prog_14_method_17_code
def yX12_goesOn : MethodName := ⟨RX12, "goesOn", "()V"⟩
theorem kX12_goesOn : mOK yX12_goesOn cX12_goesOn 1 none 0 := ⟨tb_7 _ (List.mem_of_getElem? (i := 87) rfl), tb_1 _ (List.mem_of_getElem? (i := 17) rfl), by decide +kernel, by decide⟩
theorem vX12_goesOn : Cond.instanceMethod yX12_goesOn ∈ lw_tbl := tb_7 _ (List.mem_of_getElem? (i := 86) rfl)
theorem eX12_goesOn : Cond.selects RX12 yX12_goesOn yX12_goesOn ∈ lw_tbl := List.mem_of_getElem? (i := 52) rfl
abbrev cX12_must : ByteArray := prog_14_method_18_code
def yX12_must : MethodName := ⟨RX12, "must", "(I)V"⟩
theorem kX12_must : mOK yX12_must cX12_must 2 none 1 := ⟨tb_7 _ (List.mem_of_getElem? (i := 95) rfl), tb_1 _ (List.mem_of_getElem? (i := 17) rfl), by decide +kernel, by decide⟩
theorem vX12_must : Cond.instanceMethod yX12_must ∈ lw_tbl := tb_7 _ (List.mem_of_getElem? (i := 94) rfl)
theorem eX12_must : Cond.selects RX12 yX12_must yX12_must ∈ lw_tbl := List.mem_of_getElem? (i := 54) rfl
abbrev cX12_plain : ByteArray := prog_14_method_19_code
def yX12_plain : MethodName := ⟨RX12, "plain", "(I)V"⟩
theorem kX12_plain : mOK yX12_plain cX12_plain 3 none 1 := ⟨tb_6 _ (List.mem_of_getElem? (i := 37) rfl), tb_1 _ (List.mem_of_getElem? (i := 17) rfl), by decide +kernel, by decide⟩
theorem vX12_plain : Cond.instanceMethod yX12_plain ∈ lw_tbl := tb_6 _ (List.mem_of_getElem? (i := 36) rfl)
theorem eX12_plain : Cond.selects RX12 yX12_plain yX12_plain ∈ lw_tbl := List.mem_of_getElem? (i := 40) rfl
abbrev cX12_read : ByteArray := prog_14_method_20_code
def yX12_read : MethodName := ⟨RX12, "read", "()I"⟩
theorem kX12_read : mOK yX12_read cX12_read 2 (some .int) 0 := ⟨tb_7 _ (List.mem_of_getElem? (i := 45) rfl), tb_1 _ (List.mem_of_getElem? (i := 17) rfl), by decide +kernel, by decide⟩
theorem vX12_read : Cond.instanceMethod yX12_read ∈ lw_tbl := tb_7 _ (List.mem_of_getElem? (i := 43) rfl)
theorem eX12_read : Cond.selects RX12 yX12_read yX12_read ∈ lw_tbl := tb_7 _ (List.mem_of_getElem? (i := 44) rfl)
abbrev cX12_place : ByteArray := prog_14_method_21_code
def yX12_place : MethodName := ⟨RX12, "place", "()I"⟩
theorem kX12_place : mOK yX12_place cX12_place 1 (some .int) 0 := ⟨tb_7 _ (List.mem_of_getElem? (i := 151) rfl), tb_1 _ (List.mem_of_getElem? (i := 17) rfl), by decide +kernel, by decide⟩
theorem vX12_place : Cond.instanceMethod yX12_place ∈ lw_tbl := tb_7 _ (List.mem_of_getElem? (i := 149) rfl)
theorem eX12_place : Cond.selects RX12 yX12_place yX12_place ∈ lw_tbl := tb_7 _ (List.mem_of_getElem? (i := 150) rfl)
abbrev cX12_roomFor : ByteArray := prog_14_method_22_code
def yX12_roomFor : MethodName := ⟨RX12, "roomFor", "(II)V"⟩
theorem kX12_roomFor : mOK yX12_roomFor cX12_roomFor 3 none 2 := ⟨tb_7 _ (List.mem_of_getElem? (i := 79) rfl), tb_1 _ (List.mem_of_getElem? (i := 17) rfl), by decide +kernel, by decide⟩
theorem vX12_roomFor : Cond.instanceMethod yX12_roomFor ∈ lw_tbl := tb_7 _ (List.mem_of_getElem? (i := 78) rfl)
theorem eX12_roomFor : Cond.selects RX12 yX12_roomFor yX12_roomFor ∈ lw_tbl := List.mem_of_getElem? (i := 50) rfl
abbrev cX12_toldInt : ByteArray := prog_14_method_23_code
def yX12_toldInt : MethodName := ⟨RX12, "toldInt", "(I)I"⟩
theorem kX12_toldInt : mOK yX12_toldInt cX12_toldInt 3 (some .int) 1 := ⟨tb_7 _ (List.mem_of_getElem? (i := 123) rfl), tb_1 _ (List.mem_of_getElem? (i := 17) rfl), by decide +kernel, by decide⟩
theorem vX12_toldInt : Cond.instanceMethod yX12_toldInt ∈ lw_tbl := tb_7 _ (List.mem_of_getElem? (i := 122) rfl)
theorem eX12_toldInt : Cond.selects RX12 yX12_toldInt yX12_toldInt ∈ lw_tbl := List.mem_of_getElem? (i := 61) rfl
abbrev cX12_tellOne : ByteArray := prog_14_method_24_code
def yX12_tellOne : MethodName := ⟨RX12, "tellOne", "()V"⟩
theorem kX12_tellOne : mOK yX12_tellOne cX12_tellOne 2 none 0 := ⟨tb_7 _ (List.mem_of_getElem? (i := 75) rfl), tb_1 _ (List.mem_of_getElem? (i := 17) rfl), by decide +kernel, by decide⟩
theorem vX12_tellOne : Cond.instanceMethod yX12_tellOne ∈ lw_tbl := tb_7 _ (List.mem_of_getElem? (i := 74) rfl)
theorem eX12_tellOne : Cond.selects RX12 yX12_tellOne yX12_tellOne ∈ lw_tbl := List.mem_of_getElem? (i := 49) rfl
abbrev cX12_named : ByteArray := prog_14_method_25_code
def yX12_named : MethodName := ⟨RX12, "named", "()I"⟩
theorem kX12_named : mOK yX12_named cX12_named 3 (some .int) 0 := ⟨tb_7 _ (List.mem_of_getElem? (i := 91) rfl), tb_1 _ (List.mem_of_getElem? (i := 17) rfl), by decide +kernel, by decide⟩
theorem vX12_named : Cond.instanceMethod yX12_named ∈ lw_tbl := tb_7 _ (List.mem_of_getElem? (i := 90) rfl)
theorem eX12_named : Cond.selects RX12 yX12_named yX12_named ∈ lw_tbl := List.mem_of_getElem? (i := 53) rfl
abbrev cX12_endsName : ByteArray := prog_14_method_26_code
def yX12_endsName : MethodName := ⟨RX12, "endsName", "(II)V"⟩
theorem kX12_endsName : mOK yX12_endsName cX12_endsName 3 none 2 := ⟨tb_7 _ (List.mem_of_getElem? (i := 103) rfl), tb_1 _ (List.mem_of_getElem? (i := 17) rfl), by decide +kernel, by decide⟩
theorem vX12_endsName : Cond.instanceMethod yX12_endsName ∈ lw_tbl := tb_7 _ (List.mem_of_getElem? (i := 102) rfl)
theorem eX12_endsName : Cond.selects RX12 yX12_endsName yX12_endsName ∈ lw_tbl := List.mem_of_getElem? (i := 56) rfl
abbrev cX12_known : ByteArray := prog_14_method_27_code
def yX12_known : MethodName := ⟨RX12, "known", "()I"⟩
theorem kX12_known : mOK yX12_known cX12_known 3 (some .int) 0 := ⟨tb_7 _ (List.mem_of_getElem? (i := 111) rfl), tb_1 _ (List.mem_of_getElem? (i := 17) rfl), by decide +kernel, by decide⟩
theorem vX12_known : Cond.instanceMethod yX12_known ∈ lw_tbl := tb_7 _ (List.mem_of_getElem? (i := 110) rfl)
theorem eX12_known : Cond.selects RX12 yX12_known yX12_known ∈ lw_tbl := List.mem_of_getElem? (i := 58) rfl
abbrev cX12_bounded : ByteArray := prog_14_method_28_code
def yX12_bounded : MethodName := ⟨RX12, "bounded", "(II)I"⟩
theorem kX12_bounded : mOK yX12_bounded cX12_bounded 4 (some .int) 2 := ⟨tb_7 _ (List.mem_of_getElem? (i := 115) rfl), tb_1 _ (List.mem_of_getElem? (i := 17) rfl), by decide +kernel, by decide⟩
theorem vX12_bounded : Cond.instanceMethod yX12_bounded ∈ lw_tbl := tb_7 _ (List.mem_of_getElem? (i := 114) rfl)
theorem eX12_bounded : Cond.selects RX12 yX12_bounded yX12_bounded ∈ lw_tbl := List.mem_of_getElem? (i := 59) rfl
abbrev cX12_tellStreet : ByteArray := prog_14_method_29_code
def yX12_tellStreet : MethodName := ⟨RX12, "tellStreet", "()V"⟩
theorem kX12_tellStreet : mOK yX12_tellStreet cX12_tellStreet 3 none 0 := ⟨tb_7 _ (List.mem_of_getElem? (i := 107) rfl), tb_1 _ (List.mem_of_getElem? (i := 17) rfl), by decide +kernel, by decide⟩
theorem vX12_tellStreet : Cond.instanceMethod yX12_tellStreet ∈ lw_tbl := tb_7 _ (List.mem_of_getElem? (i := 106) rfl)
theorem eX12_tellStreet : Cond.selects RX12 yX12_tellStreet yX12_tellStreet ∈ lw_tbl := List.mem_of_getElem? (i := 57) rfl
abbrev cX12_tellYoung : ByteArray := prog_14_method_30_code
def yX12_tellYoung : MethodName := ⟨RX12, "tellYoung", "()V"⟩
theorem kX12_tellYoung : mOK yX12_tellYoung cX12_tellYoung 3 none 0 := ⟨tb_7 _ (List.mem_of_getElem? (i := 119) rfl), tb_1 _ (List.mem_of_getElem? (i := 17) rfl), by decide +kernel, by decide⟩
theorem vX12_tellYoung : Cond.instanceMethod yX12_tellYoung ∈ lw_tbl := tb_7 _ (List.mem_of_getElem? (i := 118) rfl)
theorem eX12_tellYoung : Cond.selects RX12 yX12_tellYoung yX12_tellYoung ∈ lw_tbl := List.mem_of_getElem? (i := 60) rfl
abbrev cX12_tellLaw : ByteArray := prog_14_method_31_code
def yX12_tellLaw : MethodName := ⟨RX12, "tellLaw", "(I)V"⟩
theorem kX12_tellLaw : mOK yX12_tellLaw cX12_tellLaw 4 none 1 := ⟨tb_7 _ (List.mem_of_getElem? (i := 127) rfl), tb_1 _ (List.mem_of_getElem? (i := 17) rfl), by decide +kernel, by decide⟩
theorem vX12_tellLaw : Cond.instanceMethod yX12_tellLaw ∈ lw_tbl := tb_7 _ (List.mem_of_getElem? (i := 126) rfl)
theorem eX12_tellLaw : Cond.selects RX12 yX12_tellLaw yX12_tellLaw ∈ lw_tbl := List.mem_of_getElem? (i := 62) rfl
abbrev cX12_term : ByteArray := prog_14_method_32_code
def yX12_term : MethodName := ⟨RX12, "term", "()V"⟩
theorem kX12_term : mOK yX12_term cX12_term 1 none 0 := ⟨tb_7 _ (List.mem_of_getElem? (i := 147) rfl), tb_1 _ (List.mem_of_getElem? (i := 17) rfl), by decide +kernel, by decide⟩
theorem vX12_term : Cond.instanceMethod yX12_term ∈ lw_tbl := tb_7 _ (List.mem_of_getElem? (i := 146) rfl)
theorem eX12_term : Cond.selects RX12 yX12_term yX12_term ∈ lw_tbl := List.mem_of_getElem? (i := 67) rfl
abbrev cX12_emit : ByteArray := prog_14_method_33_code
def yX12_emit : MethodName := ⟨RX12, "emit", "(II)V"⟩
theorem kX12_emit : mOK yX12_emit cX12_emit 3 none 2 := ⟨tb_7 _ (List.mem_of_getElem? (i := 139) rfl), tb_1 _ (List.mem_of_getElem? (i := 17) rfl), by decide +kernel, by decide⟩
theorem vX12_emit : Cond.instanceMethod yX12_emit ∈ lw_tbl := tb_7 _ (List.mem_of_getElem? (i := 138) rfl)
theorem eX12_emit : Cond.selects RX12 yX12_emit yX12_emit ∈ lw_tbl := List.mem_of_getElem? (i := 65) rfl
abbrev cX12_comesOut : ByteArray := prog_14_method_34_code
def yX12_comesOut : MethodName := ⟨RX12, "comesOut", "(Z)V"⟩
theorem kX12_comesOut : mOK yX12_comesOut cX12_comesOut 3 none 1 := ⟨tb_7 _ (List.mem_of_getElem? (i := 143) rfl), tb_1 _ (List.mem_of_getElem? (i := 17) rfl), by decide +kernel, by decide⟩
theorem vX12_comesOut : Cond.instanceMethod yX12_comesOut ∈ lw_tbl := tb_7 _ (List.mem_of_getElem? (i := 142) rfl)
theorem eX12_comesOut : Cond.selects RX12 yX12_comesOut yX12_comesOut ∈ lw_tbl := List.mem_of_getElem? (i := 66) rfl
abbrev cX12_expression : ByteArray := prog_14_method_35_code
def yX12_expression : MethodName := ⟨RX12, "expression", "()V"⟩
theorem kX12_expression : mOK yX12_expression cX12_expression 3 none 0 := ⟨tb_7 _ (List.mem_of_getElem? (i := 131) rfl), tb_1 _ (List.mem_of_getElem? (i := 17) rfl), by decide +kernel, by decide⟩
theorem vX12_expression : Cond.instanceMethod yX12_expression ∈ lw_tbl := tb_7 _ (List.mem_of_getElem? (i := 130) rfl)
theorem eX12_expression : Cond.selects RX12 yX12_expression yX12_expression ∈ lw_tbl := List.mem_of_getElem? (i := 63) rfl
abbrev cX12_unit : ByteArray := prog_14_method_36_code
def yX12_unit : MethodName := ⟨RX12, "unit", "()V"⟩
theorem kX12_unit : mOK yX12_unit cX12_unit 1 none 0 := ⟨tb_7 _ (List.mem_of_getElem? (i := 135) rfl), tb_1 _ (List.mem_of_getElem? (i := 17) rfl), by decide +kernel, by decide⟩
theorem vX12_unit : Cond.instanceMethod yX12_unit ∈ lw_tbl := tb_7 _ (List.mem_of_getElem? (i := 134) rfl)
theorem eX12_unit : Cond.selects RX12 yX12_unit yX12_unit ∈ lw_tbl := List.mem_of_getElem? (i := 64) rfl
abbrev cX12_termOf : ByteArray := prog_14_method_37_code
def yX12_termOf : MethodName := ⟨RX12, "termOf", "(II)I"⟩
theorem kX12_termOf : mOK yX12_termOf cX12_termOf 8 (some .int) 2 := ⟨tb_7 _ (List.mem_of_getElem? (i := 218) rfl), tb_1 _ (List.mem_of_getElem? (i := 17) rfl), by decide +kernel, by decide⟩
theorem vX12_termOf : Cond.instanceMethod yX12_termOf ∈ lw_tbl := tb_7 _ (List.mem_of_getElem? (i := 217) rfl)
theorem eX12_termOf : Cond.selects RX12 yX12_termOf yX12_termOf ∈ lw_tbl := List.mem_of_getElem? (i := 80) rfl
abbrev cX12_in : ByteArray := prog_14_method_38_code
def yX12_in : MethodName := ⟨RX12, "in", "(III)Z"⟩
theorem kX12_in : mOK yX12_in cX12_in 3 (some .boolean) 3 := ⟨tb_7 _ (List.mem_of_getElem? (i := 162) rfl), tb_1 _ (List.mem_of_getElem? (i := 17) rfl), by decide +kernel, by decide⟩
theorem sX12_in : Cond.static yX12_in ∈ lw_tbl := tb_7 _ (List.mem_of_getElem? (i := 161) rfl)
abbrev cX12_within : ByteArray := prog_14_method_39_code
def yX12_within : MethodName := ⟨RX12, "within", "(III)I"⟩
theorem kX12_within : mOK yX12_within cX12_within 3 (some .int) 3 := ⟨tb_7 _ (List.mem_of_getElem? (i := 221) rfl), tb_1 _ (List.mem_of_getElem? (i := 17) rfl), by decide +kernel, by decide⟩
theorem sX12_within : Cond.static yX12_within ∈ lw_tbl := tb_7 _ (List.mem_of_getElem? (i := 220) rfl)
abbrev cX12_bits : ByteArray := prog_14_method_40_code
def yX12_bits : MethodName := ⟨RX12, "bits", "(I)I"⟩
theorem kX12_bits : mOK yX12_bits cX12_bits 3 (some .int) 1 := ⟨tb_8 _ (List.mem_of_getElem? (i := 88) rfl), tb_1 _ (List.mem_of_getElem? (i := 17) rfl), by decide +kernel, by decide⟩
theorem sX12_bits : Cond.static yX12_bits ∈ lw_tbl := tb_8 _ (List.mem_of_getElem? (i := 87) rfl)
abbrev cX12_isCorner : ByteArray := prog_14_method_41_code
def yX12_isCorner : MethodName := ⟨RX12, "isCorner", "(I)Z"⟩
theorem kX12_isCorner : mOK yX12_isCorner cX12_isCorner 2 (some .boolean) 1 := ⟨tb_7 _ (List.mem_of_getElem? (i := 159) rfl), tb_1 _ (List.mem_of_getElem? (i := 17) rfl), by decide +kernel, by decide⟩
theorem vX12_isCorner : Cond.instanceMethod yX12_isCorner ∈ lw_tbl := tb_7 _ (List.mem_of_getElem? (i := 158) rfl)
theorem eX12_isCorner : Cond.selects RX12 yX12_isCorner yX12_isCorner ∈ lw_tbl := List.mem_of_getElem? (i := 68) rfl
abbrev cX12_isStreet : ByteArray := prog_14_method_42_code
def yX12_isStreet : MethodName := ⟨RX12, "isStreet", "(I)Z"⟩
theorem kX12_isStreet : mOK yX12_isStreet cX12_isStreet 2 (some .boolean) 1 := ⟨tb_7 _ (List.mem_of_getElem? (i := 190) rfl), tb_1 _ (List.mem_of_getElem? (i := 17) rfl), by decide +kernel, by decide⟩
theorem vX12_isStreet : Cond.instanceMethod yX12_isStreet ∈ lw_tbl := tb_7 _ (List.mem_of_getElem? (i := 189) rfl)
theorem eX12_isStreet : Cond.selects RX12 yX12_isStreet yX12_isStreet ∈ lw_tbl := List.mem_of_getElem? (i := 74) rfl
abbrev cX12_isYoung : ByteArray := prog_14_method_43_code
def yX12_isYoung : MethodName := ⟨RX12, "isYoung", "(I)Z"⟩
theorem kX12_isYoung : mOK yX12_isYoung cX12_isYoung 2 (some .boolean) 1 := ⟨tb_7 _ (List.mem_of_getElem? (i := 202) rfl), tb_1 _ (List.mem_of_getElem? (i := 17) rfl), by decide +kernel, by decide⟩
theorem vX12_isYoung : Cond.instanceMethod yX12_isYoung ∈ lw_tbl := tb_7 _ (List.mem_of_getElem? (i := 201) rfl)
theorem eX12_isYoung : Cond.selects RX12 yX12_isYoung yX12_isYoung ∈ lw_tbl := List.mem_of_getElem? (i := 76) rfl
abbrev cX12_isWord : ByteArray := prog_14_method_44_code
def yX12_isWord : MethodName := ⟨RX12, "isWord", "(I)Z"⟩
theorem kX12_isWord : mOK yX12_isWord cX12_isWord 2 (some .boolean) 1 := ⟨tb_7 _ (List.mem_of_getElem? (i := 233) rfl), tb_1 _ (List.mem_of_getElem? (i := 17) rfl), by decide +kernel, by decide⟩
theorem vX12_isWord : Cond.instanceMethod yX12_isWord ∈ lw_tbl := tb_7 _ (List.mem_of_getElem? (i := 232) rfl)
theorem eX12_isWord : Cond.selects RX12 yX12_isWord yX12_isWord ∈ lw_tbl := List.mem_of_getElem? (i := 82) rfl
abbrev cX12_isOut : ByteArray := prog_14_method_45_code
def yX12_isOut : MethodName := ⟨RX12, "isOut", "(I)Z"⟩
theorem kX12_isOut : mOK yX12_isOut cX12_isOut 2 (some .boolean) 1 := ⟨tb_8 _ (List.mem_of_getElem? (i := 41) rfl), tb_1 _ (List.mem_of_getElem? (i := 17) rfl), by decide +kernel, by decide⟩
theorem vX12_isOut : Cond.instanceMethod yX12_isOut ∈ lw_tbl := tb_8 _ (List.mem_of_getElem? (i := 40) rfl)
theorem eX12_isOut : Cond.selects RX12 yX12_isOut yX12_isOut ∈ lw_tbl := List.mem_of_getElem? (i := 90) rfl
abbrev cX12_begins : ByteArray := prog_14_method_46_code
def yX12_begins : MethodName := ⟨RX12, "begins", "()V"⟩
theorem kX12_begins : mOK yX12_begins cX12_begins 2 none 0 := ⟨tb_6 _ (List.mem_of_getElem? (i := 48) rfl), tb_1 _ (List.mem_of_getElem? (i := 17) rfl), by decide +kernel, by decide⟩
theorem vX12_begins : Cond.instanceMethod yX12_begins ∈ lw_tbl := tb_6 _ (List.mem_of_getElem? (i := 47) rfl)
theorem eX12_begins : Cond.selects RX12 yX12_begins yX12_begins ∈ lw_tbl := List.mem_of_getElem? (i := 41) rfl
abbrev cX12_keepsRow : ByteArray := prog_14_method_47_code
def yX12_keepsRow : MethodName := ⟨RX12, "keepsRow", "()V"⟩
theorem kX12_keepsRow : mOK yX12_keepsRow cX12_keepsRow 2 none 0 := ⟨tb_6 _ (List.mem_of_getElem? (i := 52) rfl), tb_1 _ (List.mem_of_getElem? (i := 17) rfl), by decide +kernel, by decide⟩
theorem vX12_keepsRow : Cond.instanceMethod yX12_keepsRow ∈ lw_tbl := tb_6 _ (List.mem_of_getElem? (i := 51) rfl)
theorem eX12_keepsRow : Cond.selects RX12 yX12_keepsRow yX12_keepsRow ∈ lw_tbl := List.mem_of_getElem? (i := 42) rfl
abbrev cX12_copies : ByteArray := prog_14_method_48_code
def yX12_copies : MethodName := ⟨RX12, "copies", "()V"⟩
theorem kX12_copies : mOK yX12_copies cX12_copies 2 none 0 := ⟨tb_7 _ (List.mem_of_getElem? (i := 166) rfl), tb_1 _ (List.mem_of_getElem? (i := 17) rfl), by decide +kernel, by decide⟩
theorem vX12_copies : Cond.instanceMethod yX12_copies ∈ lw_tbl := tb_7 _ (List.mem_of_getElem? (i := 165) rfl)
theorem eX12_copies : Cond.selects RX12 yX12_copies yX12_copies ∈ lw_tbl := List.mem_of_getElem? (i := 69) rfl
abbrev cX12_copiesStill : ByteArray := prog_14_method_49_code
def yX12_copiesStill : MethodName := ⟨RX12, "copiesStill", "()V"⟩
theorem kX12_copiesStill : mOK yX12_copiesStill cX12_copiesStill 1 none 0 := ⟨tb_8 _ (List.mem_of_getElem? (i := 73) rfl), tb_1 _ (List.mem_of_getElem? (i := 17) rfl), by decide +kernel, by decide⟩
theorem vX12_copiesStill : Cond.instanceMethod yX12_copiesStill ∈ lw_tbl := tb_8 _ (List.mem_of_getElem? (i := 72) rfl)
theorem eX12_copiesStill : Cond.selects RX12 yX12_copiesStill yX12_copiesStill ∈ lw_tbl := List.mem_of_getElem? (i := 93) rfl
abbrev cX12_mixed : ByteArray := prog_14_method_50_code
def yX12_mixed : MethodName := ⟨RX12, "mixed", "(II)I"⟩
theorem kX12_mixed : mOK yX12_mixed cX12_mixed 3 (some .int) 2 := ⟨tb_8 _ (List.mem_of_getElem? (i := 28) rfl), tb_1 _ (List.mem_of_getElem? (i := 17) rfl), by decide +kernel, by decide⟩
theorem sX12_mixed : Cond.static yX12_mixed ∈ lw_tbl := tb_8 _ (List.mem_of_getElem? (i := 27) rfl)
abbrev cX12_lotOf : ByteArray := prog_14_method_51_code
def yX12_lotOf : MethodName := ⟨RX12, "lotOf", "(II)I"⟩
theorem kX12_lotOf : mOK yX12_lotOf cX12_lotOf 3 (some .int) 2 := ⟨tb_8 _ (List.mem_of_getElem? (i := 25) rfl), tb_1 _ (List.mem_of_getElem? (i := 17) rfl), by decide +kernel, by decide⟩
theorem vX12_lotOf : Cond.instanceMethod yX12_lotOf ∈ lw_tbl := tb_8 _ (List.mem_of_getElem? (i := 24) rfl)
theorem eX12_lotOf : Cond.selects RX12 yX12_lotOf yX12_lotOf ∈ lw_tbl := List.mem_of_getElem? (i := 88) rfl
abbrev cX12_isDraught : ByteArray := prog_14_method_52_code
def yX12_isDraught : MethodName := ⟨RX12, "isDraught", "()Z"⟩
theorem kX12_isDraught : mOK yX12_isDraught cX12_isDraught 1 (some .boolean) 0 := ⟨tb_8 _ (List.mem_of_getElem? (i := 21) rfl), tb_1 _ (List.mem_of_getElem? (i := 17) rfl), by decide +kernel, by decide⟩
theorem vX12_isDraught : Cond.instanceMethod yX12_isDraught ∈ lw_tbl := tb_8 _ (List.mem_of_getElem? (i := 20) rfl)
theorem eX12_isDraught : Cond.selects RX12 yX12_isDraught yX12_isDraught ∈ lw_tbl := List.mem_of_getElem? (i := 87) rfl
abbrev cX12_lawTells : ByteArray := prog_14_method_53_code
def yX12_lawTells : MethodName := ⟨RX12, "lawTells", "(II)I"⟩
theorem kX12_lawTells : mOK yX12_lawTells cX12_lawTells 7 (some .int) 2 := ⟨tb_7 _ (List.mem_of_getElem? (i := 214) rfl), tb_1 _ (List.mem_of_getElem? (i := 17) rfl), by decide +kernel, by decide⟩
theorem vX12_lawTells : Cond.instanceMethod yX12_lawTells ∈ lw_tbl := tb_7 _ (List.mem_of_getElem? (i := 213) rfl)
theorem eX12_lawTells : Cond.selects RX12 yX12_lawTells yX12_lawTells ∈ lw_tbl := List.mem_of_getElem? (i := 79) rfl
abbrev cX12_looks : ByteArray := prog_14_method_54_code
def yX12_looks : MethodName := ⟨RX12, "looks", "(III)V"⟩
theorem kX12_looks : mOK yX12_looks cX12_looks 4 none 3 := ⟨tb_7 _ (List.mem_of_getElem? (i := 210) rfl), tb_1 _ (List.mem_of_getElem? (i := 17) rfl), by decide +kernel, by decide⟩
theorem vX12_looks : Cond.instanceMethod yX12_looks ∈ lw_tbl := tb_7 _ (List.mem_of_getElem? (i := 209) rfl)
theorem eX12_looks : Cond.selects RX12 yX12_looks yX12_looks ∈ lw_tbl := List.mem_of_getElem? (i := 78) rfl
abbrev cX12_glowsOf : ByteArray := prog_14_method_55_code
def yX12_glowsOf : MethodName := ⟨RX12, "glowsOf", "(II)I"⟩
theorem kX12_glowsOf : mOK yX12_glowsOf cX12_glowsOf 3 (some .int) 2 := ⟨tb_8 _ (List.mem_of_getElem? (i := 1) rfl), tb_1 _ (List.mem_of_getElem? (i := 17) rfl), by decide +kernel, by decide⟩
theorem vX12_glowsOf : Cond.instanceMethod yX12_glowsOf ∈ lw_tbl := tb_8 _ (List.mem_of_getElem? (i := 0) rfl)
theorem eX12_glowsOf : Cond.selects RX12 yX12_glowsOf yX12_glowsOf ∈ lw_tbl := List.mem_of_getElem? (i := 83) rfl
abbrev cX12_wearsOf : ByteArray := prog_14_method_56_code
def yX12_wearsOf : MethodName := ⟨RX12, "wearsOf", "(II)I"⟩
theorem kX12_wearsOf : mOK yX12_wearsOf cX12_wearsOf 3 (some .int) 2 := ⟨tb_8 _ (List.mem_of_getElem? (i := 5) rfl), tb_1 _ (List.mem_of_getElem? (i := 17) rfl), by decide +kernel, by decide⟩
theorem vX12_wearsOf : Cond.instanceMethod yX12_wearsOf ∈ lw_tbl := tb_8 _ (List.mem_of_getElem? (i := 4) rfl)
theorem eX12_wearsOf : Cond.selects RX12 yX12_wearsOf yX12_wearsOf ∈ lw_tbl := List.mem_of_getElem? (i := 84) rfl
abbrev cX12_coolsOf : ByteArray := prog_14_method_57_code
def yX12_coolsOf : MethodName := ⟨RX12, "coolsOf", "(I)I"⟩
theorem kX12_coolsOf : mOK yX12_coolsOf cX12_coolsOf 2 (some .int) 1 := ⟨tb_7 _ (List.mem_of_getElem? (i := 206) rfl), tb_1 _ (List.mem_of_getElem? (i := 17) rfl), by decide +kernel, by decide⟩
theorem vX12_coolsOf : Cond.instanceMethod yX12_coolsOf ∈ lw_tbl := tb_7 _ (List.mem_of_getElem? (i := 205) rfl)
theorem eX12_coolsOf : Cond.selects RX12 yX12_coolsOf yX12_coolsOf ∈ lw_tbl := List.mem_of_getElem? (i := 77) rfl
abbrev cX12_doesLeave : ByteArray := prog_14_method_58_code
def yX12_doesLeave : MethodName := ⟨RX12, "doesLeave", "(I)Z"⟩
theorem kX12_doesLeave : mOK yX12_doesLeave cX12_doesLeave 2 (some .boolean) 1 := ⟨tb_7 _ (List.mem_of_getElem? (i := 225) rfl), tb_1 _ (List.mem_of_getElem? (i := 17) rfl), by decide +kernel, by decide⟩
theorem vX12_doesLeave : Cond.instanceMethod yX12_doesLeave ∈ lw_tbl := tb_7 _ (List.mem_of_getElem? (i := 224) rfl)
theorem eX12_doesLeave : Cond.selects RX12 yX12_doesLeave yX12_doesLeave ∈ lw_tbl := List.mem_of_getElem? (i := 81) rfl
abbrev cX12_says : ByteArray := prog_14_method_59_code
def yX12_says : MethodName := ⟨RX12, "says", "(II)V"⟩
theorem kX12_says : mOK yX12_says cX12_says 5 none 2 := ⟨tb_8 _ (List.mem_of_getElem? (i := 45) rfl), tb_1 _ (List.mem_of_getElem? (i := 17) rfl), by decide +kernel, by decide⟩
theorem vX12_says : Cond.instanceMethod yX12_says ∈ lw_tbl := tb_8 _ (List.mem_of_getElem? (i := 44) rfl)
theorem eX12_says : Cond.selects RX12 yX12_says yX12_says ∈ lw_tbl := List.mem_of_getElem? (i := 91) rfl
abbrev cX12_hourGoes : ByteArray := prog_14_method_60_code
def yX12_hourGoes : MethodName := ⟨RX12, "hourGoes", "()V"⟩
theorem kX12_hourGoes : mOK yX12_hourGoes cX12_hourGoes 3 none 0 := ⟨tb_8 _ (List.mem_of_getElem? (i := 17) rfl), tb_1 _ (List.mem_of_getElem? (i := 17) rfl), by decide +kernel, by decide⟩
theorem vX12_hourGoes : Cond.instanceMethod yX12_hourGoes ∈ lw_tbl := tb_8 _ (List.mem_of_getElem? (i := 16) rfl)
theorem eX12_hourGoes : Cond.selects RX12 yX12_hourGoes yX12_hourGoes ∈ lw_tbl := List.mem_of_getElem? (i := 86) rfl
abbrev cX12_goes : ByteArray := prog_14_method_61_code
def yX12_goes : MethodName := ⟨RX12, "goes", "(I)V"⟩
theorem kX12_goes : mOK yX12_goes cX12_goes 3 none 1 := ⟨tb_8 _ (List.mem_of_getElem? (i := 61) rfl), tb_1 _ (List.mem_of_getElem? (i := 17) rfl), by decide +kernel, by decide⟩
theorem vX12_goes : Cond.instanceMethod yX12_goes ∈ lw_tbl := tb_8 _ (List.mem_of_getElem? (i := 60) rfl)
theorem eX12_goes : Cond.selects RX12 yX12_goes yX12_goes ∈ lw_tbl := List.mem_of_getElem? (i := 92) rfl
abbrev cX12_lightAt : ByteArray := prog_14_method_62_code
def yX12_lightAt : MethodName := ⟨RX12, "lightAt", "(I)I"⟩
theorem kX12_lightAt : mOK yX12_lightAt cX12_lightAt 4 (some .int) 1 := ⟨tb_7 _ (List.mem_of_getElem? (i := 170) rfl), tb_1 _ (List.mem_of_getElem? (i := 17) rfl), by decide +kernel, by decide⟩
theorem vX12_lightAt : Cond.instanceMethod yX12_lightAt ∈ lw_tbl := tb_7 _ (List.mem_of_getElem? (i := 169) rfl)
theorem eX12_lightAt : Cond.selects RX12 yX12_lightAt yX12_lightAt ∈ lw_tbl := List.mem_of_getElem? (i := 70) rfl
abbrev cX12_needsOf : ByteArray := prog_14_method_63_code
def yX12_needsOf : MethodName := ⟨RX12, "needsOf", "(I)I"⟩
theorem kX12_needsOf : mOK yX12_needsOf cX12_needsOf 4 (some .int) 1 := ⟨tb_7 _ (List.mem_of_getElem? (i := 194) rfl), tb_1 _ (List.mem_of_getElem? (i := 17) rfl), by decide +kernel, by decide⟩
theorem vX12_needsOf : Cond.instanceMethod yX12_needsOf ∈ lw_tbl := tb_7 _ (List.mem_of_getElem? (i := 193) rfl)
theorem eX12_needsOf : Cond.selects RX12 yX12_needsOf yX12_needsOf ∈ lw_tbl := List.mem_of_getElem? (i := 75) rfl
abbrev cX12_litBits : ByteArray := prog_14_method_64_code
def yX12_litBits : MethodName := ⟨RX12, "litBits", "()I"⟩
theorem kX12_litBits : mOK yX12_litBits cX12_litBits 3 (some .int) 0 := ⟨tb_8 _ (List.mem_of_getElem? (i := 85) rfl), tb_1 _ (List.mem_of_getElem? (i := 17) rfl), by decide +kernel, by decide⟩
theorem vX12_litBits : Cond.instanceMethod yX12_litBits ∈ lw_tbl := tb_8 _ (List.mem_of_getElem? (i := 84) rfl)
theorem eX12_litBits : Cond.selects RX12 yX12_litBits yX12_litBits ∈ lw_tbl := List.mem_of_getElem? (i := 95) rfl
abbrev cX12_corner : ByteArray := prog_14_method_65_code
def yX12_corner : MethodName := ⟨RX12, "corner", "(II)I"⟩
theorem kX12_corner : mOK yX12_corner cX12_corner 3 (some .int) 2 := ⟨tb_7 _ (List.mem_of_getElem? (i := 155) rfl), tb_1 _ (List.mem_of_getElem? (i := 17) rfl), by decide +kernel, by decide⟩
theorem vX12_corner : Cond.instanceMethod yX12_corner ∈ lw_tbl := tb_7 _ (List.mem_of_getElem? (i := 153) rfl)
theorem eX12_corner : Cond.selects RX12 yX12_corner yX12_corner ∈ lw_tbl := tb_7 _ (List.mem_of_getElem? (i := 154) rfl)
abbrev cX12_outAt : ByteArray := prog_14_method_66_code
def yX12_outAt : MethodName := ⟨RX12, "outAt", "(I)I"⟩
theorem kX12_outAt : mOK yX12_outAt cX12_outAt 4 (some .int) 1 := ⟨tb_7 _ (List.mem_of_getElem? (i := 174) rfl), tb_1 _ (List.mem_of_getElem? (i := 17) rfl), by decide +kernel, by decide⟩
theorem vX12_outAt : Cond.instanceMethod yX12_outAt ∈ lw_tbl := tb_7 _ (List.mem_of_getElem? (i := 173) rfl)
theorem eX12_outAt : Cond.selects RX12 yX12_outAt yX12_outAt ∈ lw_tbl := List.mem_of_getElem? (i := 71) rfl
abbrev cX12_isEnd : ByteArray := prog_14_method_67_code
def yX12_isEnd : MethodName := ⟨RX12, "isEnd", "(II)Z"⟩
theorem kX12_isEnd : mOK yX12_isEnd cX12_isEnd 3 (some .boolean) 2 := ⟨tb_7 _ (List.mem_of_getElem? (i := 182) rfl), tb_1 _ (List.mem_of_getElem? (i := 17) rfl), by decide +kernel, by decide⟩
theorem vX12_isEnd : Cond.instanceMethod yX12_isEnd ∈ lw_tbl := tb_7 _ (List.mem_of_getElem? (i := 181) rfl)
theorem eX12_isEnd : Cond.selects RX12 yX12_isEnd yX12_isEnd ∈ lw_tbl := List.mem_of_getElem? (i := 73) rfl
abbrev cX12_otherEnd : ByteArray := prog_14_method_68_code
def yX12_otherEnd : MethodName := ⟨RX12, "otherEnd", "(II)I"⟩
theorem kX12_otherEnd : mOK yX12_otherEnd cX12_otherEnd 3 (some .int) 2 := ⟨tb_8 _ (List.mem_of_getElem? (i := 13) rfl), tb_1 _ (List.mem_of_getElem? (i := 17) rfl), by decide +kernel, by decide⟩
theorem vX12_otherEnd : Cond.instanceMethod yX12_otherEnd ∈ lw_tbl := tb_8 _ (List.mem_of_getElem? (i := 12) rfl)
theorem eX12_otherEnd : Cond.selects RX12 yX12_otherEnd yX12_otherEnd ∈ lw_tbl := List.mem_of_getElem? (i := 85) rfl
abbrev cX12_streetsAt : ByteArray := prog_14_method_69_code
def yX12_streetsAt : MethodName := ⟨RX12, "streetsAt", "(I)I"⟩
theorem kX12_streetsAt : mOK yX12_streetsAt cX12_streetsAt 4 (some .int) 1 := ⟨tb_7 _ (List.mem_of_getElem? (i := 178) rfl), tb_1 _ (List.mem_of_getElem? (i := 17) rfl), by decide +kernel, by decide⟩
theorem vX12_streetsAt : Cond.instanceMethod yX12_streetsAt ∈ lw_tbl := tb_7 _ (List.mem_of_getElem? (i := 177) rfl)
theorem eX12_streetsAt : Cond.selects RX12 yX12_streetsAt yX12_streetsAt ∈ lw_tbl := List.mem_of_getElem? (i := 72) rfl
abbrev cX12_street : ByteArray := prog_14_method_70_code
def yX12_street : MethodName := ⟨RX12, "street", "(II)I"⟩
theorem kX12_street : mOK yX12_street cX12_street 3 (some .int) 2 := ⟨tb_7 _ (List.mem_of_getElem? (i := 186) rfl), tb_1 _ (List.mem_of_getElem? (i := 17) rfl), by decide +kernel, by decide⟩
theorem vX12_street : Cond.instanceMethod yX12_street ∈ lw_tbl := tb_7 _ (List.mem_of_getElem? (i := 184) rfl)
theorem eX12_street : Cond.selects RX12 yX12_street yX12_street ∈ lw_tbl := tb_7 _ (List.mem_of_getElem? (i := 185) rfl)
abbrev cX12_young : ByteArray := prog_14_method_71_code
def yX12_young : MethodName := ⟨RX12, "young", "(II)I"⟩
theorem kX12_young : mOK yX12_young cX12_young 3 (some .int) 2 := ⟨tb_7 _ (List.mem_of_getElem? (i := 198) rfl), tb_1 _ (List.mem_of_getElem? (i := 17) rfl), by decide +kernel, by decide⟩
theorem vX12_young : Cond.instanceMethod yX12_young ∈ lw_tbl := tb_7 _ (List.mem_of_getElem? (i := 196) rfl)
theorem eX12_young : Cond.selects RX12 yX12_young yX12_young ∈ lw_tbl := tb_7 _ (List.mem_of_getElem? (i := 197) rfl)
abbrev cX12_word_ : ByteArray := prog_14_method_72_code
def yX12_word_ : MethodName := ⟨RX12, "word", "(II)I"⟩
theorem kX12_word_ : mOK yX12_word_ cX12_word_ 3 (some .int) 2 := ⟨tb_7 _ (List.mem_of_getElem? (i := 229) rfl), tb_1 _ (List.mem_of_getElem? (i := 17) rfl), by decide +kernel, by decide⟩
theorem vX12_word_ : Cond.instanceMethod yX12_word_ ∈ lw_tbl := tb_7 _ (List.mem_of_getElem? (i := 227) rfl)
theorem eX12_word_ : Cond.selects RX12 yX12_word_ yX12_word_ ∈ lw_tbl := tb_7 _ (List.mem_of_getElem? (i := 228) rfl)
abbrev cX12_tells : ByteArray := prog_14_method_73_code
def yX12_tells : MethodName := ⟨RX12, "tells", "(III)I"⟩
theorem kX12_tells : mOK yX12_tells cX12_tells 4 (some .int) 3 := ⟨tb_7 _ (List.mem_of_getElem? (i := 237) rfl), tb_1 _ (List.mem_of_getElem? (i := 17) rfl), by decide +kernel, by decide⟩
theorem vX12_tells : Cond.instanceMethod yX12_tells ∈ lw_tbl := tb_7 _ (List.mem_of_getElem? (i := 235) rfl)
theorem eX12_tells : Cond.selects RX12 yX12_tells yX12_tells ∈ lw_tbl := tb_7 _ (List.mem_of_getElem? (i := 236) rfl)
abbrev cX12_records : ByteArray := prog_14_method_74_code
def yX12_records : MethodName := ⟨RX12, "records", "()V"⟩
theorem kX12_records : mOK yX12_records cX12_records 2 none 0 := ⟨tb_8 _ (List.mem_of_getElem? (i := 33) rfl), tb_1 _ (List.mem_of_getElem? (i := 17) rfl), by decide +kernel, by decide⟩
theorem vX12_records : Cond.instanceMethod yX12_records ∈ lw_tbl := tb_8 _ (List.mem_of_getElem? (i := 32) rfl)
theorem eX12_records : Cond.selects RX12 yX12_records yX12_records ∈ lw_tbl := List.mem_of_getElem? (i := 89) rfl
abbrev cX12_step : ByteArray := prog_14_method_75_code
def yX12_step : MethodName := ⟨RX12, "step", "(I)I"⟩
theorem kX12_step : mOK yX12_step cX12_step 2 (some .int) 1 := ⟨tb_8 _ (List.mem_of_getElem? (i := 9) rfl), tb_1 _ (List.mem_of_getElem? (i := 17) rfl), by decide +kernel, by decide⟩
theorem vX12_step : Cond.instanceMethod yX12_step ∈ lw_tbl := tb_8 _ (List.mem_of_getElem? (i := 7) rfl)
theorem eX12_step : Cond.selects RX12 yX12_step yX12_step ∈ lw_tbl := tb_8 _ (List.mem_of_getElem? (i := 8) rfl)
abbrev cX12_say : ByteArray := prog_14_method_76_code
def yX12_say : MethodName := ⟨RX12, "say", "(II)I"⟩
theorem kX12_say : mOK yX12_say cX12_say 3 (some .int) 2 := ⟨tb_8 _ (List.mem_of_getElem? (i := 37) rfl), tb_1 _ (List.mem_of_getElem? (i := 17) rfl), by decide +kernel, by decide⟩
theorem vX12_say : Cond.instanceMethod yX12_say ∈ lw_tbl := tb_8 _ (List.mem_of_getElem? (i := 35) rfl)
theorem eX12_say : Cond.selects RX12 yX12_say yX12_say ∈ lw_tbl := tb_8 _ (List.mem_of_getElem? (i := 36) rfl)
abbrev cX12_move : ByteArray := prog_14_method_77_code
def yX12_move : MethodName := ⟨RX12, "move", "(II)Z"⟩
theorem kX12_move : mOK yX12_move cX12_move 3 (some .boolean) 2 := ⟨tb_8 _ (List.mem_of_getElem? (i := 49) rfl), tb_1 _ (List.mem_of_getElem? (i := 17) rfl), by decide +kernel, by decide⟩
theorem vX12_move : Cond.instanceMethod yX12_move ∈ lw_tbl := tb_8 _ (List.mem_of_getElem? (i := 47) rfl)
theorem eX12_move : Cond.selects RX12 yX12_move yX12_move ∈ lw_tbl := tb_8 _ (List.mem_of_getElem? (i := 48) rfl)
abbrev cX12_rouge : ByteArray := prog_14_method_78_code
def yX12_rouge : MethodName := ⟨RX12, "rouge", "(I)Z"⟩
theorem kX12_rouge : mOK yX12_rouge cX12_rouge 2 (some .boolean) 1 := ⟨tb_8 _ (List.mem_of_getElem? (i := 53) rfl), tb_1 _ (List.mem_of_getElem? (i := 17) rfl), by decide +kernel, by decide⟩
theorem vX12_rouge : Cond.instanceMethod yX12_rouge ∈ lw_tbl := tb_8 _ (List.mem_of_getElem? (i := 51) rfl)
theorem eX12_rouge : Cond.selects RX12 yX12_rouge yX12_rouge ∈ lw_tbl := tb_8 _ (List.mem_of_getElem? (i := 52) rfl)
abbrev cX12_hours : ByteArray := prog_14_method_79_code
def yX12_hours : MethodName := ⟨RX12, "hours", "(I)I"⟩
theorem kX12_hours : mOK yX12_hours cX12_hours 2 (some .int) 1 := ⟨tb_8 _ (List.mem_of_getElem? (i := 57) rfl), tb_1 _ (List.mem_of_getElem? (i := 17) rfl), by decide +kernel, by decide⟩
theorem vX12_hours : Cond.instanceMethod yX12_hours ∈ lw_tbl := tb_8 _ (List.mem_of_getElem? (i := 55) rfl)
theorem eX12_hours : Cond.selects RX12 yX12_hours yX12_hours ∈ lw_tbl := tb_8 _ (List.mem_of_getElem? (i := 56) rfl)
abbrev cX12_undo : ByteArray := prog_14_method_80_code
def yX12_undo : MethodName := ⟨RX12, "undo", "()Z"⟩
theorem kX12_undo : mOK yX12_undo cX12_undo 2 (some .boolean) 0 := ⟨tb_8 _ (List.mem_of_getElem? (i := 65) rfl), tb_1 _ (List.mem_of_getElem? (i := 17) rfl), by decide +kernel, by decide⟩
theorem vX12_undo : Cond.instanceMethod yX12_undo ∈ lw_tbl := tb_8 _ (List.mem_of_getElem? (i := 63) rfl)
theorem eX12_undo : Cond.selects RX12 yX12_undo yX12_undo ∈ lw_tbl := tb_8 _ (List.mem_of_getElem? (i := 64) rfl)
abbrev cX12_darkens : ByteArray := prog_14_method_81_code
def yX12_darkens : MethodName := ⟨RX12, "darkens", "(I)I"⟩
theorem kX12_darkens : mOK yX12_darkens cX12_darkens 3 (some .int) 1 := ⟨tb_8 _ (List.mem_of_getElem? (i := 69) rfl), tb_1 _ (List.mem_of_getElem? (i := 17) rfl), by decide +kernel, by decide⟩
theorem vX12_darkens : Cond.instanceMethod yX12_darkens ∈ lw_tbl := tb_8 _ (List.mem_of_getElem? (i := 67) rfl)
theorem eX12_darkens : Cond.selects RX12 yX12_darkens yX12_darkens ∈ lw_tbl := tb_8 _ (List.mem_of_getElem? (i := 68) rfl)
abbrev cX12_fillsBest : ByteArray := prog_14_method_82_code
def yX12_fillsBest : MethodName := ⟨RX12, "fillsBest", "()I"⟩
theorem kX12_fillsBest : mOK yX12_fillsBest cX12_fillsBest 7 (some .int) 0 := ⟨tb_8 _ (List.mem_of_getElem? (i := 81) rfl), tb_1 _ (List.mem_of_getElem? (i := 17) rfl), by decide +kernel, by decide⟩
theorem vX12_fillsBest : Cond.instanceMethod yX12_fillsBest ∈ lw_tbl := tb_8 _ (List.mem_of_getElem? (i := 80) rfl)
theorem eX12_fillsBest : Cond.selects RX12 yX12_fillsBest yX12_fillsBest ∈ lw_tbl := List.mem_of_getElem? (i := 94) rfl
abbrev cX12_best : ByteArray := prog_14_method_83_code
def yX12_best : MethodName := ⟨RX12, "best", "(I)I"⟩
theorem kX12_best : mOK yX12_best cX12_best 3 (some .int) 1 := ⟨tb_8 _ (List.mem_of_getElem? (i := 77) rfl), tb_1 _ (List.mem_of_getElem? (i := 17) rfl), by decide +kernel, by decide⟩
theorem vX12_best : Cond.instanceMethod yX12_best ∈ lw_tbl := tb_8 _ (List.mem_of_getElem? (i := 75) rfl)
theorem eX12_best : Cond.selects RX12 yX12_best yX12_best ∈ lw_tbl := tb_8 _ (List.mem_of_getElem? (i := 76) rfl)
abbrev cX12_glowBy : ByteArray := prog_14_method_84_code
def yX12_glowBy : MethodName := ⟨RX12, "glowBy", "(II)I"⟩
theorem kX12_glowBy : mOK yX12_glowBy cX12_glowBy 3 (some .int) 2 := ⟨tb_8 _ (List.mem_of_getElem? (i := 96) rfl), tb_1 _ (List.mem_of_getElem? (i := 17) rfl), by decide +kernel, by decide⟩
theorem vX12_glowBy : Cond.instanceMethod yX12_glowBy ∈ lw_tbl := tb_8 _ (List.mem_of_getElem? (i := 95) rfl)
theorem eX12_glowBy : Cond.selects RX12 yX12_glowBy yX12_glowBy ∈ lw_tbl := List.mem_of_getElem? (i := 96) rfl
abbrev cX12_telling : ByteArray := prog_14_method_85_code
def yX12_telling : MethodName := ⟨RX12, "telling", "(II)I"⟩
theorem kX12_telling : mOK yX12_telling cX12_telling 5 (some .int) 2 := ⟨tb_8 _ (List.mem_of_getElem? (i := 92) rfl), tb_1 _ (List.mem_of_getElem? (i := 17) rfl), by decide +kernel, by decide⟩
theorem vX12_telling : Cond.instanceMethod yX12_telling ∈ lw_tbl := tb_8 _ (List.mem_of_getElem? (i := 90) rfl)
theorem eX12_telling : Cond.selects RX12 yX12_telling yX12_telling ∈ lw_tbl := tb_8 _ (List.mem_of_getElem? (i := 91) rfl)
abbrev cX12_firstOut : ByteArray := prog_14_method_86_code
def yX12_firstOut : MethodName := ⟨RX12, "firstOut", "()I"⟩
theorem kX12_firstOut : mOK yX12_firstOut cX12_firstOut 2 (some .int) 0 := ⟨tb_8 _ (List.mem_of_getElem? (i := 104) rfl), tb_1 _ (List.mem_of_getElem? (i := 17) rfl), by decide +kernel, by decide⟩
theorem vX12_firstOut : Cond.instanceMethod yX12_firstOut ∈ lw_tbl := tb_8 _ (List.mem_of_getElem? (i := 103) rfl)
theorem eX12_firstOut : Cond.selects RX12 yX12_firstOut yX12_firstOut ∈ lw_tbl := List.mem_of_getElem? (i := 97) rfl
abbrev cX12_keepBy : ByteArray := prog_14_method_87_code
def yX12_keepBy : MethodName := ⟨RX12, "keepBy", "(I)I"⟩
theorem kX12_keepBy : mOK yX12_keepBy cX12_keepBy 2 (some .int) 1 := ⟨tb_8 _ (List.mem_of_getElem? (i := 108) rfl), tb_1 _ (List.mem_of_getElem? (i := 17) rfl), by decide +kernel, by decide⟩
theorem vX12_keepBy : Cond.instanceMethod yX12_keepBy ∈ lw_tbl := tb_8 _ (List.mem_of_getElem? (i := 107) rfl)
theorem eX12_keepBy : Cond.selects RX12 yX12_keepBy yX12_keepBy ∈ lw_tbl := List.mem_of_getElem? (i := 98) rfl
abbrev cX12_keep : ByteArray := prog_14_method_88_code
def yX12_keep : MethodName := ⟨RX12, "keep", "()I"⟩
theorem kX12_keep : mOK yX12_keep cX12_keep 3 (some .int) 0 := ⟨tb_8 _ (List.mem_of_getElem? (i := 100) rfl), tb_1 _ (List.mem_of_getElem? (i := 17) rfl), by decide +kernel, by decide⟩
theorem vX12_keep : Cond.instanceMethod yX12_keep ∈ lw_tbl := tb_8 _ (List.mem_of_getElem? (i := 98) rfl)
theorem eX12_keep : Cond.selects RX12 yX12_keep yX12_keep ∈ lw_tbl := tb_8 _ (List.mem_of_getElem? (i := 99) rfl)
abbrev cX12_twins : ByteArray := prog_14_method_89_code
def yX12_twins : MethodName := ⟨RX12, "twins", "(I)I"⟩
theorem kX12_twins : mOK yX12_twins cX12_twins 9 (some .int) 1 := ⟨tb_8 _ (List.mem_of_getElem? (i := 112) rfl), tb_1 _ (List.mem_of_getElem? (i := 17) rfl), by decide +kernel, by decide⟩
theorem vX12_twins : Cond.instanceMethod yX12_twins ∈ lw_tbl := tb_8 _ (List.mem_of_getElem? (i := 110) rfl)
theorem eX12_twins : Cond.selects RX12 yX12_twins yX12_twins ∈ lw_tbl := tb_8 _ (List.mem_of_getElem? (i := 111) rfl)
abbrev cX12_fillsFar : ByteArray := prog_14_method_90_code
def yX12_fillsFar : MethodName := ⟨RX12, "fillsFar", "(III)V"⟩
theorem kX12_fillsFar : mOK yX12_fillsFar cX12_fillsFar 9 none 3 := ⟨tb_8 _ (List.mem_of_getElem? (i := 120) rfl), tb_1 _ (List.mem_of_getElem? (i := 17) rfl), by decide +kernel, by decide⟩
theorem vX12_fillsFar : Cond.instanceMethod yX12_fillsFar ∈ lw_tbl := tb_8 _ (List.mem_of_getElem? (i := 119) rfl)
theorem eX12_fillsFar : Cond.selects RX12 yX12_fillsFar yX12_fillsFar ∈ lw_tbl := List.mem_of_getElem? (i := 99) rfl
abbrev cX12_farTo : ByteArray := prog_14_method_91_code
def yX12_farTo : MethodName := ⟨RX12, "farTo", "(I)I"⟩
theorem kX12_farTo : mOK yX12_farTo cX12_farTo 2 (some .int) 1 := ⟨tb_8 _ (List.mem_of_getElem? (i := 124) rfl), tb_1 _ (List.mem_of_getElem? (i := 17) rfl), by decide +kernel, by decide⟩
theorem vX12_farTo : Cond.instanceMethod yX12_farTo ∈ lw_tbl := tb_8 _ (List.mem_of_getElem? (i := 123) rfl)
theorem eX12_farTo : Cond.selects RX12 yX12_farTo yX12_farTo ∈ lw_tbl := List.mem_of_getElem? (i := 100) rfl
abbrev cX12_steps : ByteArray := prog_14_method_92_code
def yX12_steps : MethodName := ⟨RX12, "steps", "(II)I"⟩
theorem kX12_steps : mOK yX12_steps cX12_steps 3 (some .int) 2 := ⟨tb_8 _ (List.mem_of_getElem? (i := 116) rfl), tb_1 _ (List.mem_of_getElem? (i := 17) rfl), by decide +kernel, by decide⟩
theorem vX12_steps : Cond.instanceMethod yX12_steps ∈ lw_tbl := tb_8 _ (List.mem_of_getElem? (i := 114) rfl)
theorem eX12_steps : Cond.selects RX12 yX12_steps yX12_steps ∈ lw_tbl := tb_8 _ (List.mem_of_getElem? (i := 115) rfl)
abbrev cX12_litNow : ByteArray := prog_14_method_93_code
def yX12_litNow : MethodName := ⟨RX12, "litNow", "()I"⟩
theorem kX12_litNow : mOK yX12_litNow cX12_litNow 1 (some .int) 0 := ⟨tb_8 _ (List.mem_of_getElem? (i := 132) rfl), tb_1 _ (List.mem_of_getElem? (i := 17) rfl), by decide +kernel, by decide⟩
theorem vX12_litNow : Cond.instanceMethod yX12_litNow ∈ lw_tbl := tb_8 _ (List.mem_of_getElem? (i := 131) rfl)
theorem eX12_litNow : Cond.selects RX12 yX12_litNow yX12_litNow ∈ lw_tbl := List.mem_of_getElem? (i := 101) rfl
abbrev cX12_dark : ByteArray := prog_14_method_94_code
def yX12_dark : MethodName := ⟨RX12, "dark", "(II)I"⟩
theorem kX12_dark : mOK yX12_dark cX12_dark 3 (some .int) 2 := ⟨tb_8 _ (List.mem_of_getElem? (i := 128) rfl), tb_1 _ (List.mem_of_getElem? (i := 17) rfl), by decide +kernel, by decide⟩
theorem vX12_dark : Cond.instanceMethod yX12_dark ∈ lw_tbl := tb_8 _ (List.mem_of_getElem? (i := 126) rfl)
theorem eX12_dark : Cond.selects RX12 yX12_dark yX12_dark ∈ lw_tbl := tb_8 _ (List.mem_of_getElem? (i := 127) rfl)
abbrev cX12_fillsLit : ByteArray := prog_14_method_95_code
def yX12_fillsLit : MethodName := ⟨RX12, "fillsLit", "(II)V"⟩
theorem kX12_fillsLit : mOK yX12_fillsLit cX12_fillsLit 3 none 2 := ⟨tb_8 _ (List.mem_of_getElem? (i := 140) rfl), tb_1 _ (List.mem_of_getElem? (i := 17) rfl), by decide +kernel, by decide⟩
theorem vX12_fillsLit : Cond.instanceMethod yX12_fillsLit ∈ lw_tbl := tb_8 _ (List.mem_of_getElem? (i := 139) rfl)
theorem eX12_fillsLit : Cond.selects RX12 yX12_fillsLit yX12_fillsLit ∈ lw_tbl := List.mem_of_getElem? (i := 102) rfl
abbrev cX12_safe : ByteArray := prog_14_method_96_code
def yX12_safe : MethodName := ⟨RX12, "safe", "(I)I"⟩
theorem kX12_safe : mOK yX12_safe cX12_safe 4 (some .int) 1 := ⟨tb_8 _ (List.mem_of_getElem? (i := 136) rfl), tb_1 _ (List.mem_of_getElem? (i := 17) rfl), by decide +kernel, by decide⟩
theorem vX12_safe : Cond.instanceMethod yX12_safe ∈ lw_tbl := tb_8 _ (List.mem_of_getElem? (i := 134) rfl)
theorem eX12_safe : Cond.selects RX12 yX12_safe yX12_safe ∈ lw_tbl := tb_8 _ (List.mem_of_getElem? (i := 135) rfl)
abbrev cX12_bridges : ByteArray := prog_14_method_97_code
def yX12_bridges : MethodName := ⟨RX12, "bridges", "()I"⟩
theorem kX12_bridges : mOK yX12_bridges cX12_bridges 4 (some .int) 0 := ⟨tb_8 _ (List.mem_of_getElem? (i := 144) rfl), tb_1 _ (List.mem_of_getElem? (i := 17) rfl), by decide +kernel, by decide⟩
theorem vX12_bridges : Cond.instanceMethod yX12_bridges ∈ lw_tbl := tb_8 _ (List.mem_of_getElem? (i := 142) rfl)
theorem eX12_bridges : Cond.selects RX12 yX12_bridges yX12_bridges ∈ lw_tbl := tb_8 _ (List.mem_of_getElem? (i := 143) rfl)
abbrev cX12_cut : ByteArray := prog_14_method_98_code
def yX12_cut : MethodName := ⟨RX12, "cut", "(II)I"⟩
theorem kX12_cut : mOK yX12_cut cX12_cut 6 (some .int) 2 := ⟨tb_8 _ (List.mem_of_getElem? (i := 148) rfl), tb_1 _ (List.mem_of_getElem? (i := 17) rfl), by decide +kernel, by decide⟩
theorem vX12_cut : Cond.instanceMethod yX12_cut ∈ lw_tbl := tb_8 _ (List.mem_of_getElem? (i := 146) rfl)
theorem eX12_cut : Cond.selects RX12 yX12_cut yX12_cut ∈ lw_tbl := tb_8 _ (List.mem_of_getElem? (i := 147) rfl)
abbrev cX12_round : ByteArray := prog_14_method_99_code
def yX12_round : MethodName := ⟨RX12, "round", "()I"⟩
theorem kX12_round : mOK yX12_round cX12_round 8 (some .int) 0 := ⟨tb_8 _ (List.mem_of_getElem? (i := 152) rfl), tb_1 _ (List.mem_of_getElem? (i := 17) rfl), by decide +kernel, by decide⟩
theorem vX12_round : Cond.instanceMethod yX12_round ∈ lw_tbl := tb_8 _ (List.mem_of_getElem? (i := 150) rfl)
theorem eX12_round : Cond.selects RX12 yX12_round yX12_round ∈ lw_tbl := tb_8 _ (List.mem_of_getElem? (i := 151) rfl)
abbrev cX12_brightest : ByteArray := prog_14_method_100_code
def yX12_brightest : MethodName := ⟨RX12, "brightest", "(I)I"⟩
theorem kX12_brightest : mOK yX12_brightest cX12_brightest 4 (some .int) 1 := ⟨tb_8 _ (List.mem_of_getElem? (i := 156) rfl), tb_1 _ (List.mem_of_getElem? (i := 17) rfl), by decide +kernel, by decide⟩
theorem vX12_brightest : Cond.instanceMethod yX12_brightest ∈ lw_tbl := tb_8 _ (List.mem_of_getElem? (i := 154) rfl)
theorem eX12_brightest : Cond.selects RX12 yX12_brightest yX12_brightest ∈ lw_tbl := tb_8 _ (List.mem_of_getElem? (i := 155) rfl)
abbrev cX12_gather : ByteArray := prog_14_method_101_code
def yX12_gather : MethodName := ⟨RX12, "gather", "(I)I"⟩
theorem kX12_gather : mOK yX12_gather cX12_gather 7 (some .int) 1 := ⟨tb_8 _ (List.mem_of_getElem? (i := 160) rfl), tb_1 _ (List.mem_of_getElem? (i := 17) rfl), by decide +kernel, by decide⟩
theorem vX12_gather : Cond.instanceMethod yX12_gather ∈ lw_tbl := tb_8 _ (List.mem_of_getElem? (i := 158) rfl)
theorem eX12_gather : Cond.selects RX12 yX12_gather yX12_gather ∈ lw_tbl := tb_8 _ (List.mem_of_getElem? (i := 159) rfl)
abbrev cX12_moves : ByteArray := prog_14_method_102_code
def yX12_moves : MethodName := ⟨RX12, "moves", "(II)I"⟩
theorem kX12_moves : mOK yX12_moves cX12_moves 9 (some .int) 2 := ⟨tb_8 _ (List.mem_of_getElem? (i := 164) rfl), tb_1 _ (List.mem_of_getElem? (i := 17) rfl), by decide +kernel, by decide⟩
theorem vX12_moves : Cond.instanceMethod yX12_moves ∈ lw_tbl := tb_8 _ (List.mem_of_getElem? (i := 162) rfl)
theorem eX12_moves : Cond.selects RX12 yX12_moves yX12_moves ∈ lw_tbl := tb_8 _ (List.mem_of_getElem? (i := 163) rfl)
abbrev cX12_tree : ByteArray := prog_14_method_103_code
def yX12_tree : MethodName := ⟨RX12, "tree", "()I"⟩
theorem kX12_tree : mOK yX12_tree cX12_tree 7 (some .int) 0 := ⟨tb_8 _ (List.mem_of_getElem? (i := 168) rfl), tb_1 _ (List.mem_of_getElem? (i := 17) rfl), by decide +kernel, by decide⟩
theorem vX12_tree : Cond.instanceMethod yX12_tree ∈ lw_tbl := tb_8 _ (List.mem_of_getElem? (i := 166) rfl)
theorem eX12_tree : Cond.selects RX12 yX12_tree yX12_tree ∈ lw_tbl := tb_8 _ (List.mem_of_getElem? (i := 167) rfl)
abbrev cX12_homeBits : ByteArray := prog_14_method_104_code
def yX12_homeBits : MethodName := ⟨RX12, "homeBits", "()I"⟩
theorem kX12_homeBits : mOK yX12_homeBits cX12_homeBits 3 (some .int) 0 := ⟨tb_8 _ (List.mem_of_getElem? (i := 180) rfl), tb_1 _ (List.mem_of_getElem? (i := 17) rfl), by decide +kernel, by decide⟩
theorem vX12_homeBits : Cond.instanceMethod yX12_homeBits ∈ lw_tbl := tb_8 _ (List.mem_of_getElem? (i := 179) rfl)
theorem eX12_homeBits : Cond.selects RX12 yX12_homeBits yX12_homeBits ∈ lw_tbl := List.mem_of_getElem? (i := 103) rfl
abbrev cX12_glowIn : ByteArray := prog_14_method_105_code
def yX12_glowIn : MethodName := ⟨RX12, "glowIn", "(II)I"⟩
theorem kX12_glowIn : mOK yX12_glowIn cX12_glowIn 3 (some .int) 2 := ⟨tb_8 _ (List.mem_of_getElem? (i := 172) rfl), tb_1 _ (List.mem_of_getElem? (i := 17) rfl), by decide +kernel, by decide⟩
theorem vX12_glowIn : Cond.instanceMethod yX12_glowIn ∈ lw_tbl := tb_8 _ (List.mem_of_getElem? (i := 170) rfl)
theorem eX12_glowIn : Cond.selects RX12 yX12_glowIn yX12_glowIn ∈ lw_tbl := tb_8 _ (List.mem_of_getElem? (i := 171) rfl)
abbrev cX12_then : ByteArray := prog_14_method_106_code
def yX12_then : MethodName := ⟨RX12, "then", "(II)I"⟩
theorem kX12_then : mOK yX12_then cX12_then 3 (some .int) 2 := ⟨tb_8 _ (List.mem_of_getElem? (i := 176) rfl), tb_1 _ (List.mem_of_getElem? (i := 17) rfl), by decide +kernel, by decide⟩
theorem vX12_then : Cond.instanceMethod yX12_then ∈ lw_tbl := tb_8 _ (List.mem_of_getElem? (i := 174) rfl)
theorem eX12_then : Cond.selects RX12 yX12_then yX12_then ∈ lw_tbl := tb_8 _ (List.mem_of_getElem? (i := 175) rfl)
abbrev cX12_year : ByteArray := prog_14_method_107_code
def yX12_year : MethodName := ⟨RX12, "year", "(III)I"⟩
theorem kX12_year : mOK yX12_year cX12_year 6 (some .int) 3 := ⟨tb_8 _ (List.mem_of_getElem? (i := 184) rfl), tb_1 _ (List.mem_of_getElem? (i := 17) rfl), by decide +kernel, by decide⟩
theorem vX12_year : Cond.instanceMethod yX12_year ∈ lw_tbl := tb_8 _ (List.mem_of_getElem? (i := 182) rfl)
theorem eX12_year : Cond.selects RX12 yX12_year yX12_year ∈ lw_tbl := tb_8 _ (List.mem_of_getElem? (i := 183) rfl)
abbrev cX12_tell : ByteArray := prog_14_method_108_code
def yX12_tell : MethodName := ⟨RX12, "tell", "(IIZ)I"⟩
theorem kX12_tell : mOK yX12_tell cX12_tell 4 (some .int) 3 := ⟨tb_8 _ (List.mem_of_getElem? (i := 188) rfl), tb_1 _ (List.mem_of_getElem? (i := 17) rfl), by decide +kernel, by decide⟩
theorem vX12_tell : Cond.instanceMethod yX12_tell ∈ lw_tbl := tb_8 _ (List.mem_of_getElem? (i := 186) rfl)
theorem eX12_tell : Cond.selects RX12 yX12_tell yX12_tell ∈ lw_tbl := tb_8 _ (List.mem_of_getElem? (i := 187) rfl)
abbrev cX12_forget : ByteArray := prog_14_method_109_code
def yX12_forget : MethodName := ⟨RX12, "forget", "()I"⟩
theorem kX12_forget : mOK yX12_forget cX12_forget 2 (some .int) 0 := ⟨tb_8 _ (List.mem_of_getElem? (i := 192) rfl), tb_1 _ (List.mem_of_getElem? (i := 17) rfl), by decide +kernel, by decide⟩
theorem vX12_forget : Cond.instanceMethod yX12_forget ∈ lw_tbl := tb_8 _ (List.mem_of_getElem? (i := 190) rfl)
theorem eX12_forget : Cond.selects RX12 yX12_forget yX12_forget ∈ lw_tbl := tb_8 _ (List.mem_of_getElem? (i := 191) rfl)
abbrev cX12_wouldGlow : ByteArray := prog_14_method_110_code
def yX12_wouldGlow : MethodName := ⟨RX12, "wouldGlow", "(II)I"⟩
theorem kX12_wouldGlow : mOK yX12_wouldGlow cX12_wouldGlow 3 (some .int) 2 := ⟨tb_8 _ (List.mem_of_getElem? (i := 204) rfl), tb_1 _ (List.mem_of_getElem? (i := 17) rfl), by decide +kernel, by decide⟩
theorem vX12_wouldGlow : Cond.instanceMethod yX12_wouldGlow ∈ lw_tbl := tb_8 _ (List.mem_of_getElem? (i := 203) rfl)
theorem eX12_wouldGlow : Cond.selects RX12 yX12_wouldGlow yX12_wouldGlow ∈ lw_tbl := List.mem_of_getElem? (i := 105) rfl
abbrev cX12_wordBits : ByteArray := prog_14_method_111_code
def yX12_wordBits : MethodName := ⟨RX12, "wordBits", "(I)I"⟩
theorem kX12_wordBits : mOK yX12_wordBits cX12_wordBits 6 (some .int) 1 := ⟨tb_8 _ (List.mem_of_getElem? (i := 200) rfl), tb_1 _ (List.mem_of_getElem? (i := 17) rfl), by decide +kernel, by decide⟩
theorem vX12_wordBits : Cond.instanceMethod yX12_wordBits ∈ lw_tbl := tb_8 _ (List.mem_of_getElem? (i := 199) rfl)
theorem eX12_wordBits : Cond.selects RX12 yX12_wordBits yX12_wordBits ∈ lw_tbl := List.mem_of_getElem? (i := 104) rfl
abbrev cX12_words : ByteArray := prog_14_method_112_code
def yX12_words : MethodName := ⟨RX12, "words", "(II)I"⟩
theorem kX12_words : mOK yX12_words cX12_words 4 (some .int) 2 := ⟨tb_8 _ (List.mem_of_getElem? (i := 196) rfl), tb_1 _ (List.mem_of_getElem? (i := 17) rfl), by decide +kernel, by decide⟩
theorem vX12_words : Cond.instanceMethod yX12_words ∈ lw_tbl := tb_8 _ (List.mem_of_getElem? (i := 194) rfl)
theorem eX12_words : Cond.selects RX12 yX12_words yX12_words ∈ lw_tbl := tb_8 _ (List.mem_of_getElem? (i := 195) rfl)
abbrev cX12_look : ByteArray := prog_14_method_113_code
def yX12_look : MethodName := ⟨RX12, "look", "(II)I"⟩
theorem kX12_look : mOK yX12_look cX12_look 9 (some .int) 2 := ⟨tb_8 _ (List.mem_of_getElem? (i := 208) rfl), tb_1 _ (List.mem_of_getElem? (i := 17) rfl), by decide +kernel, by decide⟩
theorem vX12_look : Cond.instanceMethod yX12_look ∈ lw_tbl := tb_8 _ (List.mem_of_getElem? (i := 206) rfl)
theorem eX12_look : Cond.selects RX12 yX12_look yX12_look ∈ lw_tbl := tb_8 _ (List.mem_of_getElem? (i := 207) rfl)
abbrev cX12_hold : ByteArray := prog_14_method_114_code
def yX12_hold : MethodName := ⟨RX12, "hold", "(I)Z"⟩
theorem kX12_hold : mOK yX12_hold cX12_hold 3 (some .boolean) 1 := ⟨tb_8 _ (List.mem_of_getElem? (i := 212) rfl), tb_1 _ (List.mem_of_getElem? (i := 17) rfl), by decide +kernel, by decide⟩
theorem vX12_hold : Cond.instanceMethod yX12_hold ∈ lw_tbl := tb_8 _ (List.mem_of_getElem? (i := 210) rfl)
theorem eX12_hold : Cond.selects RX12 yX12_hold yX12_hold ∈ lw_tbl := tb_8 _ (List.mem_of_getElem? (i := 211) rfl)
abbrev cX12_restore : ByteArray := prog_14_method_115_code
def yX12_restore : MethodName := ⟨RX12, "restore", "(I)Z"⟩
theorem kX12_restore : mOK yX12_restore cX12_restore 3 (some .boolean) 1 := ⟨tb_8 _ (List.mem_of_getElem? (i := 216) rfl), tb_1 _ (List.mem_of_getElem? (i := 17) rfl), by decide +kernel, by decide⟩
theorem vX12_restore : Cond.instanceMethod yX12_restore ∈ lw_tbl := tb_8 _ (List.mem_of_getElem? (i := 214) rfl)
theorem eX12_restore : Cond.selects RX12 yX12_restore yX12_restore ∈ lw_tbl := tb_8 _ (List.mem_of_getElem? (i := 215) rfl)
abbrev cX12_sumNow : ByteArray := prog_14_method_116_code
def yX12_sumNow : MethodName := ⟨RX12, "sumNow", "(II)I"⟩
theorem kX12_sumNow : mOK yX12_sumNow cX12_sumNow 5 (some .int) 2 := ⟨tb_8 _ (List.mem_of_getElem? (i := 224) rfl), tb_1 _ (List.mem_of_getElem? (i := 17) rfl), by decide +kernel, by decide⟩
theorem vX12_sumNow : Cond.instanceMethod yX12_sumNow ∈ lw_tbl := tb_8 _ (List.mem_of_getElem? (i := 223) rfl)
theorem eX12_sumNow : Cond.selects RX12 yX12_sumNow yX12_sumNow ∈ lw_tbl := List.mem_of_getElem? (i := 106) rfl
abbrev cX12_count : ByteArray := prog_14_method_117_code
def yX12_count : MethodName := ⟨RX12, "count", "(I)I"⟩
theorem kX12_count : mOK yX12_count cX12_count 4 (some .int) 1 := ⟨tb_8 _ (List.mem_of_getElem? (i := 220) rfl), tb_1 _ (List.mem_of_getElem? (i := 17) rfl), by decide +kernel, by decide⟩
theorem vX12_count : Cond.instanceMethod yX12_count ∈ lw_tbl := tb_8 _ (List.mem_of_getElem? (i := 218) rfl)
theorem eX12_count : Cond.selects RX12 yX12_count yX12_count ∈ lw_tbl := tb_8 _ (List.mem_of_getElem? (i := 219) rfl)
abbrev cJ11_isValidCodePoint_9a6ad : ByteArray := prog_15_method_11_code
def yJ11_isValidCodePoint_9a6ad : MethodName := ⟨RJ11, "isValidCodePoint", "(I)Z"⟩
theorem kJ11_isValidCodePoint_9a6ad : mOK yJ11_isValidCodePoint_9a6ad cJ11_isValidCodePoint_9a6ad 2 (some .boolean) 1 := ⟨tb_3 _ (List.mem_of_getElem? (i := 147) rfl), tb_1 _ (List.mem_of_getElem? (i := 19) rfl), by decide +kernel, by decide⟩
theorem sJ11_isValidCodePoint_9a6ad : Cond.static yJ11_isValidCodePoint_9a6ad ∈ lw_tbl := tb_3 _ (List.mem_of_getElem? (i := 146) rfl)
abbrev cJ11_highSurrogate_5068e : ByteArray := prog_15_method_28_code
def yJ11_highSurrogate_5068e : MethodName := ⟨RJ11, "highSurrogate", "(I)C"⟩
theorem kJ11_highSurrogate_5068e : mOK yJ11_highSurrogate_5068e cJ11_highSurrogate_5068e 1 (some .char) 1 := ⟨tb_3 _ (List.mem_of_getElem? (i := 150) rfl), tb_1 _ (List.mem_of_getElem? (i := 19) rfl), by decide +kernel, by decide⟩
theorem sJ11_highSurrogate_5068e : Cond.static yJ11_highSurrogate_5068e ∈ lw_tbl := tb_3 _ (List.mem_of_getElem? (i := 149) rfl)
abbrev cJ11_lowSurrogate_5068e : ByteArray := prog_15_method_29_code
def yJ11_lowSurrogate_5068e : MethodName := ⟨RJ11, "lowSurrogate", "(I)C"⟩
theorem kJ11_lowSurrogate_5068e : mOK yJ11_lowSurrogate_5068e cJ11_lowSurrogate_5068e 1 (some .char) 1 := ⟨tb_3 _ (List.mem_of_getElem? (i := 154) rfl), tb_1 _ (List.mem_of_getElem? (i := 19) rfl), by decide +kernel, by decide⟩
theorem sJ11_lowSurrogate_5068e : Cond.static yJ11_lowSurrogate_5068e ∈ lw_tbl := tb_3 _ (List.mem_of_getElem? (i := 153) rfl)
abbrev cJ6_bitCount_0f7a4 : ByteArray := prog_16_method_49_code
def yJ6_bitCount_0f7a4 : MethodName := ⟨RJ6, "bitCount", "(I)I"⟩
theorem kJ6_bitCount_0f7a4 : mOK yJ6_bitCount_0f7a4 cJ6_bitCount_0f7a4 1 (some .int) 1 := ⟨tb_5 _ (List.mem_of_getElem? (i := 121) rfl), tb_1 _ (List.mem_of_getElem? (i := 22) rfl), by decide +kernel, by decide⟩
theorem sJ6_bitCount_0f7a4 : Cond.static yJ6_bitCount_0f7a4 ∈ lw_tbl := tb_5 _ (List.mem_of_getElem? (i := 120) rfl)
abbrev cJ9_abs_0f7a4 : ByteArray := prog_17_method_59_code
def yJ9_abs_0f7a4 : MethodName := ⟨RJ9, "abs", "(I)I"⟩
theorem kJ9_abs_0f7a4 : mOK yJ9_abs_0f7a4 cJ9_abs_0f7a4 1 (some .int) 1 := ⟨tb_5 _ (List.mem_of_getElem? (i := 169) rfl), tb_1 _ (List.mem_of_getElem? (i := 18) rfl), by decide +kernel, by decide⟩
theorem sJ9_abs_0f7a4 : Cond.static yJ9_abs_0f7a4 ∈ lw_tbl := tb_5 _ (List.mem_of_getElem? (i := 168) rfl)
abbrev cJ9_max_7cf53 : ByteArray := prog_17_method_65_code
def yJ9_max_7cf53 : MethodName := ⟨RJ9, "max", "(II)I"⟩
theorem kJ9_max_7cf53 : mOK yJ9_max_7cf53 cJ9_max_7cf53 2 (some .int) 2 := ⟨tb_3 _ (List.mem_of_getElem? (i := 114) rfl), tb_1 _ (List.mem_of_getElem? (i := 18) rfl), by decide +kernel, by decide⟩
theorem sJ9_max_7cf53 : Cond.static yJ9_max_7cf53 ∈ lw_tbl := tb_3 _ (List.mem_of_getElem? (i := 113) rfl)
abbrev cJ9_min_7cf53 : ByteArray := prog_17_method_69_code
def yJ9_min_7cf53 : MethodName := ⟨RJ9, "min", "(II)I"⟩
theorem kJ9_min_7cf53 : mOK yJ9_min_7cf53 cJ9_min_7cf53 2 (some .int) 2 := ⟨tb_3 _ (List.mem_of_getElem? (i := 117) rfl), tb_1 _ (List.mem_of_getElem? (i := 18) rfl), by decide +kernel, by decide⟩
theorem sJ9_min_7cf53 : Cond.static yJ9_min_7cf53 ∈ lw_tbl := tb_3 _ (List.mem_of_getElem? (i := 116) rfl)
abbrev cJ0_length_8abf5 : ByteArray := prog_18_method_54_code
def yJ0_length_8abf5 : MethodName := ⟨RJ0, "length", "()I"⟩
theorem kJ0_length_8abf5 : mOK yJ0_length_8abf5 cJ0_length_8abf5 1 (some .int) 0 := ⟨tb_1 _ (List.mem_of_getElem? (i := 183) rfl), tb_1 _ (List.mem_of_getElem? (i := 6) rfl), by decide +kernel, by decide⟩
theorem vJ0_length_8abf5 : Cond.instanceMethod yJ0_length_8abf5 ∈ lw_tbl := tb_1 _ (List.mem_of_getElem? (i := 181) rfl)
theorem eJ0_length_8abf5 : Cond.selects RJ0 yJ0_length_8abf5 yJ0_length_8abf5 ∈ lw_tbl := tb_1 _ (List.mem_of_getElem? (i := 182) rfl)
abbrev cJ0_charAt_5068e : ByteArray := prog_18_method_56_code
def yJ0_charAt_5068e : MethodName := ⟨RJ0, "charAt", "(I)C"⟩
theorem kJ0_charAt_5068e : mOK yJ0_charAt_5068e cJ0_charAt_5068e 2 (some .char) 1 := ⟨tb_1 _ (List.mem_of_getElem? (i := 193) rfl), tb_1 _ (List.mem_of_getElem? (i := 6) rfl), by decide +kernel, by decide⟩
theorem vJ0_charAt_5068e : Cond.instanceMethod yJ0_charAt_5068e ∈ lw_tbl := tb_1 _ (List.mem_of_getElem? (i := 191) rfl)
theorem eJ0_charAt_5068e : Cond.selects RJ0 yJ0_charAt_5068e yJ0_charAt_5068e ∈ lw_tbl := tb_1 _ (List.mem_of_getElem? (i := 192) rfl)
abbrev cJ0_indexOf_0f7a4 : ByteArray := prog_18_method_79_code
def yJ0_indexOf_0f7a4 : MethodName := ⟨RJ0, "indexOf", "(I)I"⟩
theorem kJ0_indexOf_0f7a4 : mOK yJ0_indexOf_0f7a4 cJ0_indexOf_0f7a4 2 (some .int) 1 := ⟨tb_3 _ (List.mem_of_getElem? (i := 100) rfl), tb_1 _ (List.mem_of_getElem? (i := 6) rfl), by decide +kernel, by decide⟩
theorem vJ0_indexOf_0f7a4 : Cond.instanceMethod yJ0_indexOf_0f7a4 ∈ lw_tbl := tb_3 _ (List.mem_of_getElem? (i := 98) rfl)
theorem eJ0_indexOf_0f7a4 : Cond.selects RJ0 yJ0_indexOf_0f7a4 yJ0_indexOf_0f7a4 ∈ lw_tbl := tb_3 _ (List.mem_of_getElem? (i := 99) rfl)
abbrev cJ0_indexOf_7cf53 : ByteArray := prog_18_method_80_code
def yJ0_indexOf_7cf53 : MethodName := ⟨RJ0, "indexOf", "(II)I"⟩
theorem kJ0_indexOf_7cf53 : mOK yJ0_indexOf_7cf53 cJ0_indexOf_7cf53 3 (some .int) 2 := ⟨tb_3 _ (List.mem_of_getElem? (i := 104) rfl), tb_1 _ (List.mem_of_getElem? (i := 6) rfl), by decide +kernel, by decide⟩
theorem vJ0_indexOf_7cf53 : Cond.instanceMethod yJ0_indexOf_7cf53 ∈ lw_tbl := tb_3 _ (List.mem_of_getElem? (i := 102) rfl)
theorem eJ0_indexOf_7cf53 : Cond.selects RJ0 yJ0_indexOf_7cf53 yJ0_indexOf_7cf53 ∈ lw_tbl := tb_3 _ (List.mem_of_getElem? (i := 103) rfl)
abbrev cJ0_coder_7d493 : ByteArray := prog_18_method_152_code
def yJ0_coder_7d493 : MethodName := ⟨RJ0, "coder", "()B"⟩
theorem kJ0_coder_7d493 : mOK yJ0_coder_7d493 cJ0_coder_7d493 1 (some .byte) 0 := ⟨tb_1 _ (List.mem_of_getElem? (i := 187) rfl), tb_1 _ (List.mem_of_getElem? (i := 6) rfl), by decide +kernel, by decide⟩
theorem vJ0_coder_7d493 : Cond.instanceMethod yJ0_coder_7d493 ∈ lw_tbl := tb_1 _ (List.mem_of_getElem? (i := 185) rfl)
theorem eJ0_coder_7d493 : Cond.selects RJ0 yJ0_coder_7d493 yJ0_coder_7d493 ∈ lw_tbl := tb_1 _ (List.mem_of_getElem? (i := 186) rfl)
abbrev cJ0_isLatin1_aae02 : ByteArray := prog_18_method_154_code
def yJ0_isLatin1_aae02 : MethodName := ⟨RJ0, "isLatin1", "()Z"⟩
theorem kJ0_isLatin1_aae02 : mOK yJ0_isLatin1_aae02 cJ0_isLatin1_aae02 1 (some .boolean) 0 := ⟨tb_1 _ (List.mem_of_getElem? (i := 197) rfl), tb_1 _ (List.mem_of_getElem? (i := 6) rfl), by decide +kernel, by decide⟩
theorem vJ0_isLatin1_aae02 : Cond.instanceMethod yJ0_isLatin1_aae02 ∈ lw_tbl := tb_1 _ (List.mem_of_getElem? (i := 195) rfl)
theorem eJ0_isLatin1_aae02 : Cond.selects RJ0 yJ0_isLatin1_aae02 yJ0_isLatin1_aae02 ∈ lw_tbl := tb_1 _ (List.mem_of_getElem? (i := 196) rfl)
abbrev cJ0_checkIndex_df160 : ByteArray := prog_18_method_155_code
def yJ0_checkIndex_df160 : MethodName := ⟨RJ0, "checkIndex", "(II)V"⟩
theorem kJ0_checkIndex_df160 : mOK yJ0_checkIndex_df160 cJ0_checkIndex_df160 2 none 2 := ⟨tb_1 _ (List.mem_of_getElem? (i := 203) rfl), tb_1 _ (List.mem_of_getElem? (i := 6) rfl), by decide +kernel, by decide⟩
theorem sJ0_checkIndex_df160 : Cond.static yJ0_checkIndex_df160 ∈ lw_tbl := tb_1 _ (List.mem_of_getElem? (i := 202) rfl)
abbrev cJ0_checkBoundsBeginEnd_23922 : ByteArray := prog_18_method_158_code
def yJ0_checkBoundsBeginEnd_23922 : MethodName := ⟨RJ0, "checkBoundsBeginEnd", "(III)V"⟩
theorem kJ0_checkBoundsBeginEnd_23922 : mOK yJ0_checkBoundsBeginEnd_23922 cJ0_checkBoundsBeginEnd_23922 3 none 3 := ⟨tb_3 _ (List.mem_of_getElem? (i := 135) rfl), tb_1 _ (List.mem_of_getElem? (i := 6) rfl), by decide +kernel, by decide⟩
theorem sJ0_checkBoundsBeginEnd_23922 : Cond.static yJ0_checkBoundsBeginEnd_23922 ∈ lw_tbl := tb_3 _ (List.mem_of_getElem? (i := 134) rfl)
abbrev cJ1_charAt_3b067 : ByteArray := prog_19_method_2_code
def yJ1_charAt_3b067 : MethodName := ⟨RJ1, "charAt", "([BI)C"⟩
theorem kJ1_charAt_3b067 : mOK yJ1_charAt_3b067 cJ1_charAt_3b067 2 (some .char) 2 := ⟨tb_1 _ (List.mem_of_getElem? (i := 200) rfl), tb_1 _ (List.mem_of_getElem? (i := 7) rfl), by decide +kernel, by decide⟩
theorem sJ1_charAt_3b067 : Cond.static yJ1_charAt_3b067 ∈ lw_tbl := tb_1 _ (List.mem_of_getElem? (i := 199) rfl)
abbrev cJ1_canEncode_9a6ad : ByteArray := prog_19_method_4_code
def yJ1_canEncode_9a6ad : MethodName := ⟨RJ1, "canEncode", "(I)Z"⟩
theorem kJ1_canEncode_9a6ad : mOK yJ1_canEncode_9a6ad cJ1_canEncode_9a6ad 1 (some .boolean) 1 := ⟨tb_3 _ (List.mem_of_getElem? (i := 111) rfl), tb_1 _ (List.mem_of_getElem? (i := 7) rfl), by decide +kernel, by decide⟩
theorem sJ1_canEncode_9a6ad : Cond.static yJ1_canEncode_9a6ad ∈ lw_tbl := tb_3 _ (List.mem_of_getElem? (i := 110) rfl)
abbrev cJ1_indexOf_4cfef : ByteArray := prog_19_method_22_code
def yJ1_indexOf_4cfef : MethodName := ⟨RJ1, "indexOf", "([BIII)I"⟩
theorem kJ1_indexOf_4cfef : mOK yJ1_indexOf_4cfef cJ1_indexOf_4cfef 4 (some .int) 4 := ⟨tb_3 _ (List.mem_of_getElem? (i := 108) rfl), tb_1 _ (List.mem_of_getElem? (i := 7) rfl), by decide +kernel, by decide⟩
theorem sJ1_indexOf_4cfef : Cond.static yJ1_indexOf_4cfef ∈ lw_tbl := tb_3 _ (List.mem_of_getElem? (i := 107) rfl)
abbrev cJ1_indexOfChar_4cfef : ByteArray := prog_19_method_23_code
def yJ1_indexOfChar_4cfef : MethodName := ⟨RJ1, "indexOfChar", "([BIII)I"⟩
theorem kJ1_indexOfChar_4cfef : mOK yJ1_indexOfChar_4cfef cJ1_indexOfChar_4cfef 6 (some .int) 4 := ⟨tb_3 _ (List.mem_of_getElem? (i := 120) rfl), tb_1 _ (List.mem_of_getElem? (i := 7) rfl), by decide +kernel, by decide⟩
theorem sJ1_indexOfChar_4cfef : Cond.static yJ1_indexOfChar_4cfef ∈ lw_tbl := tb_3 _ (List.mem_of_getElem? (i := 119) rfl)
abbrev cJ2_getChar_3b067 : ByteArray := prog_20_method_5_code
def yJ2_getChar_3b067 : MethodName := ⟨RJ2, "getChar", "([BI)C"⟩
theorem kJ2_getChar_3b067 : mOK yJ2_getChar_3b067 cJ2_getChar_3b067 2 (some .char) 2 := ⟨tb_1 _ (List.mem_of_getElem? (i := 221) rfl), tb_1 _ (List.mem_of_getElem? (i := 9) rfl), by decide +kernel, by decide⟩
theorem sJ2_getChar_3b067 : Cond.static yJ2_getChar_3b067 ∈ lw_tbl := tb_1 _ (List.mem_of_getElem? (i := 220) rfl)
abbrev cJ2_length_9d52b : ByteArray := prog_20_method_6_code
def yJ2_length_9d52b : MethodName := ⟨RJ2, "length", "([B)I"⟩
theorem kJ2_length_9d52b : mOK yJ2_length_9d52b cJ2_length_9d52b 1 (some .int) 1 := ⟨tb_1 _ (List.mem_of_getElem? (i := 217) rfl), tb_1 _ (List.mem_of_getElem? (i := 9) rfl), by decide +kernel, by decide⟩
theorem sJ2_length_9d52b : Cond.static yJ2_length_9d52b ∈ lw_tbl := tb_1 _ (List.mem_of_getElem? (i := 216) rfl)
abbrev cJ2_indexOf_4cfef : ByteArray := prog_20_method_40_code
def yJ2_indexOf_4cfef : MethodName := ⟨RJ2, "indexOf", "([BIII)I"⟩
theorem kJ2_indexOf_4cfef : mOK yJ2_indexOf_4cfef cJ2_indexOf_4cfef 4 (some .int) 4 := ⟨tb_3 _ (List.mem_of_getElem? (i := 123) rfl), tb_1 _ (List.mem_of_getElem? (i := 9) rfl), by decide +kernel, by decide⟩
theorem sJ2_indexOf_4cfef : Cond.static yJ2_indexOf_4cfef ∈ lw_tbl := tb_3 _ (List.mem_of_getElem? (i := 122) rfl)
abbrev cJ2_indexOfChar_4cfef : ByteArray := prog_20_method_47_code
def yJ2_indexOfChar_4cfef : MethodName := ⟨RJ2, "indexOfChar", "([BIII)I"⟩
theorem kJ2_indexOfChar_4cfef : mOK yJ2_indexOfChar_4cfef cJ2_indexOfChar_4cfef 4 (some .int) 4 := ⟨tb_3 _ (List.mem_of_getElem? (i := 129) rfl), tb_1 _ (List.mem_of_getElem? (i := 9) rfl), by decide +kernel, by decide⟩
theorem sJ2_indexOfChar_4cfef : Cond.static yJ2_indexOfChar_4cfef ∈ lw_tbl := tb_3 _ (List.mem_of_getElem? (i := 128) rfl)
abbrev cJ2_indexOfCharUnsafe_4cfef : ByteArray := prog_20_method_48_code
def yJ2_indexOfCharUnsafe_4cfef : MethodName := ⟨RJ2, "indexOfCharUnsafe", "([BIII)I"⟩
theorem kJ2_indexOfCharUnsafe_4cfef : mOK yJ2_indexOfCharUnsafe_4cfef cJ2_indexOfCharUnsafe_4cfef 5 (some .int) 4 := ⟨tb_3 _ (List.mem_of_getElem? (i := 141) rfl), tb_1 _ (List.mem_of_getElem? (i := 9) rfl), by decide +kernel, by decide⟩
theorem sJ2_indexOfCharUnsafe_4cfef : Cond.static yJ2_indexOfCharUnsafe_4cfef ∈ lw_tbl := tb_3 _ (List.mem_of_getElem? (i := 140) rfl)
abbrev cJ2_indexOfSupplementary_4cfef : ByteArray := prog_20_method_49_code
def yJ2_indexOfSupplementary_4cfef : MethodName := ⟨RJ2, "indexOfSupplementary", "([BIII)I"⟩
theorem kJ2_indexOfSupplementary_4cfef : mOK yJ2_indexOfSupplementary_4cfef cJ2_indexOfSupplementary_4cfef 7 (some .int) 4 := ⟨tb_3 _ (List.mem_of_getElem? (i := 144) rfl), tb_1 _ (List.mem_of_getElem? (i := 9) rfl), by decide +kernel, by decide⟩
theorem sJ2_indexOfSupplementary_4cfef : Cond.static yJ2_indexOfSupplementary_4cfef ∈ lw_tbl := tb_3 _ (List.mem_of_getElem? (i := 143) rfl)
abbrev cJ2_charAt_3b067 : ByteArray := prog_20_method_83_code
def yJ2_charAt_3b067 : MethodName := ⟨RJ2, "charAt", "([BI)C"⟩
theorem kJ2_charAt_3b067 : mOK yJ2_charAt_3b067 cJ2_charAt_3b067 2 (some .char) 2 := ⟨tb_1 _ (List.mem_of_getElem? (i := 211) rfl), tb_1 _ (List.mem_of_getElem? (i := 9) rfl), by decide +kernel, by decide⟩
theorem sJ2_charAt_3b067 : Cond.static yJ2_charAt_3b067 ∈ lw_tbl := tb_1 _ (List.mem_of_getElem? (i := 210) rfl)
abbrev cJ2_checkIndex_2214a : ByteArray := prog_20_method_91_code
def yJ2_checkIndex_2214a : MethodName := ⟨RJ2, "checkIndex", "(I[B)V"⟩
theorem kJ2_checkIndex_2214a : mOK yJ2_checkIndex_2214a cJ2_checkIndex_2214a 2 none 2 := ⟨tb_1 _ (List.mem_of_getElem? (i := 214) rfl), tb_1 _ (List.mem_of_getElem? (i := 9) rfl), by decide +kernel, by decide⟩
theorem sJ2_checkIndex_2214a : Cond.static yJ2_checkIndex_2214a ∈ lw_tbl := tb_1 _ (List.mem_of_getElem? (i := 213) rfl)
abbrev cJ2_checkBoundsBeginEnd_d044e : ByteArray := prog_20_method_93_code
def yJ2_checkBoundsBeginEnd_d044e : MethodName := ⟨RJ2, "checkBoundsBeginEnd", "(II[B)V"⟩
theorem kJ2_checkBoundsBeginEnd_d044e : mOK yJ2_checkBoundsBeginEnd_d044e cJ2_checkBoundsBeginEnd_d044e 3 none 3 := ⟨tb_3 _ (List.mem_of_getElem? (i := 132) rfl), tb_1 _ (List.mem_of_getElem? (i := 9) rfl), by decide +kernel, by decide⟩
theorem sJ2_checkBoundsBeginEnd_d044e : Cond.static yJ2_checkBoundsBeginEnd_d044e ∈ lw_tbl := tb_3 _ (List.mem_of_getElem? (i := 131) rfl)
abbrev cJ7_fill_53178 : ByteArray := prog_22_method_103_code
def yJ7_fill_53178 : MethodName := ⟨RJ7, "fill", "([II)V"⟩
theorem kJ7_fill_53178 : mOK yJ7_fill_53178 cJ7_fill_53178 4 none 2 := ⟨tb_4 _ (List.mem_of_getElem? (i := 16) rfl), tb_1 _ (List.mem_of_getElem? (i := 20) rfl), by decide +kernel, by decide⟩
theorem sJ7_fill_53178 : Cond.static yJ7_fill_53178 ∈ lw_tbl := tb_4 _ (List.mem_of_getElem? (i := 15) rfl)
abbrev cJ3_checkIndex_8e157 : ByteArray := prog_23_method_11_code
def yJ3_checkIndex_8e157 : MethodName := ⟨RJ3, "checkIndex", "(IILjava/util/function/BiFunction;)I"⟩
theorem kJ3_checkIndex_8e157 : mOK yJ3_checkIndex_8e157 cJ3_checkIndex_8e157 3 (some .int) 3 := ⟨tb_1 _ (List.mem_of_getElem? (i := 208) rfl), tb_1 _ (List.mem_of_getElem? (i := 8) rfl), by decide +kernel, by decide⟩
theorem sJ3_checkIndex_8e157 : Cond.static yJ3_checkIndex_8e157 ∈ lw_tbl := tb_1 _ (List.mem_of_getElem? (i := 207) rfl)
abbrev cJ3_checkFromToIndex_8c36e : ByteArray := prog_23_method_12_code
def yJ3_checkFromToIndex_8c36e : MethodName := ⟨RJ3, "checkFromToIndex", "(IIILjava/util/function/BiFunction;)I"⟩
theorem kJ3_checkFromToIndex_8c36e : mOK yJ3_checkFromToIndex_8c36e cJ3_checkFromToIndex_8c36e 4 (some .int) 4 := ⟨tb_3 _ (List.mem_of_getElem? (i := 138) rfl), tb_1 _ (List.mem_of_getElem? (i := 8) rfl), by decide +kernel, by decide⟩
theorem sJ3_checkFromToIndex_8c36e : Cond.static yJ3_checkFromToIndex_8c36e ∈ lw_tbl := tb_3 _ (List.mem_of_getElem? (i := 137) rfl)
theorem lL_9 : Cond.methodLink RL 9 yX11_init ∈ lw_tbl := tb_1 _ (List.mem_of_getElem? (i := 25) rfl)
theorem lX11_1 : Cond.methodLink RX11 1 objectInit ∈ lw_tbl := tb_1 _ (List.mem_of_getElem? (i := 28) rfl)
theorem lX11_9 : Cond.methodLink RX11 9 yX9_init ∈ lw_tbl := tb_1 _ (List.mem_of_getElem? (i := 33) rfl)
theorem lX9_5 : Cond.methodLink RX9 5 objectInit ∈ lw_tbl := tb_1 _ (List.mem_of_getElem? (i := 36) rfl)
theorem lX9_41 : Cond.methodLink RX9 41 yX9_clear ∈ lw_tbl := tb_1 _ (List.mem_of_getElem? (i := 37) rfl)
theorem lX9_71 : Cond.methodLink RX9 71 yX9_emit ∈ lw_tbl := tb_1 _ (List.mem_of_getElem? (i := 41) rfl)
theorem nX11_12 : Cond.methodLinkNest RX11 12 yX7_init "BlushLamps" ∈ lw_tbl := tb_1 _ (List.mem_of_getElem? (i := 153) rfl)
theorem lX7_3 : Cond.methodLink RX7 3 objectInit ∈ lw_tbl := tb_1 _ (List.mem_of_getElem? (i := 156) rfl)
theorem lX11_21 : Cond.methodLink RX11 21 yX6_init ∈ lw_tbl := tb_1 _ (List.mem_of_getElem? (i := 169) rfl)
theorem lX6_3 : Cond.methodLink RX6 3 objectInit ∈ lw_tbl := tb_1 _ (List.mem_of_getElem? (i := 172) rfl)
theorem lX6_11 : Cond.methodLink RX6 11 yX8_init ∈ lw_tbl := tb_1 _ (List.mem_of_getElem? (i := 175) rfl)
theorem lX8_3 : Cond.methodLink RX8 3 objectInit ∈ lw_tbl := tb_1 _ (List.mem_of_getElem? (i := 178) rfl)
theorem lX8_27 : Cond.methodLink RX8 27 yJ0_length_8abf5 ∈ lw_tbl := tb_1 _ (List.mem_of_getElem? (i := 180) rfl)
theorem lJ0_335 : Cond.methodLink RJ0 335 yJ0_coder_7d493 ∈ lw_tbl := tb_1 _ (List.mem_of_getElem? (i := 184) rfl)
theorem lX8_33 : Cond.methodLink RX8 33 yJ0_charAt_5068e ∈ lw_tbl := tb_1 _ (List.mem_of_getElem? (i := 190) rfl)
theorem lJ0_492 : Cond.methodLink RJ0 492 yJ0_isLatin1_aae02 ∈ lw_tbl := tb_1 _ (List.mem_of_getElem? (i := 194) rfl)
theorem lJ0_495 : Cond.methodLink RJ0 495 yJ1_charAt_3b067 ∈ lw_tbl := tb_1 _ (List.mem_of_getElem? (i := 198) rfl)
theorem lJ1_9 : Cond.methodLink RJ1 9 yJ0_checkIndex_df160 ∈ lw_tbl := tb_1 _ (List.mem_of_getElem? (i := 201) rfl)
theorem lJ0_1059 : Cond.methodLink RJ0 1059 yJ3_checkIndex_8e157 ∈ lw_tbl := tb_1 _ (List.mem_of_getElem? (i := 206) rfl)
theorem lJ0_498 : Cond.methodLink RJ0 498 yJ2_charAt_3b067 ∈ lw_tbl := tb_1 _ (List.mem_of_getElem? (i := 209) rfl)
theorem lJ2_67 : Cond.methodLink RJ2 67 yJ2_checkIndex_2214a ∈ lw_tbl := tb_1 _ (List.mem_of_getElem? (i := 212) rfl)
theorem lJ2_48 : Cond.methodLink RJ2 48 yJ2_length_9d52b ∈ lw_tbl := tb_1 _ (List.mem_of_getElem? (i := 215) rfl)
theorem lJ2_414 : Cond.methodLink RJ2 414 yJ0_checkIndex_df160 ∈ lw_tbl := tb_1 _ (List.mem_of_getElem? (i := 218) rfl)
theorem lJ2_71 : Cond.methodLink RJ2 71 yJ2_getChar_3b067 ∈ lw_tbl := tb_1 _ (List.mem_of_getElem? (i := 219) rfl)
theorem lX8_37 : Cond.methodLink RX8 37 yX8_spell ∈ lw_tbl := tb_1 _ (List.mem_of_getElem? (i := 228) rfl)
theorem nX11_30 : Cond.methodLinkNest RX11 30 yX2_init "BlushLamps" ∈ lw_tbl := tb_2 _ (List.mem_of_getElem? (i := 44) rfl)
theorem lX2_3 : Cond.methodLink RX2 3 objectInit ∈ lw_tbl := tb_2 _ (List.mem_of_getElem? (i := 47) rfl)
theorem lX11_37 : Cond.methodLink RX11 37 yX0_init ∈ lw_tbl := tb_2 _ (List.mem_of_getElem? (i := 57) rfl)
theorem lX0_3 : Cond.methodLink RX0 3 objectInit ∈ lw_tbl := tb_2 _ (List.mem_of_getElem? (i := 60) rfl)
theorem nX0_11 : Cond.methodLinkNest RX0 11 yX2_init "BlushLamps" ∈ lw_tbl := tb_2 _ (List.mem_of_getElem? (i := 62) rfl)
theorem lX0_20 : Cond.methodLink RX0 20 yX3_init ∈ lw_tbl := tb_2 _ (List.mem_of_getElem? (i := 65) rfl)
theorem lX3_3 : Cond.methodLink RX3 3 objectInit ∈ lw_tbl := tb_2 _ (List.mem_of_getElem? (i := 68) rfl)
theorem nX11_44 : Cond.methodLinkNest RX11 44 yX10_init "BlushLamps" ∈ lw_tbl := tb_2 _ (List.mem_of_getElem? (i := 149) rfl)
theorem lX10_3 : Cond.methodLink RX10 3 objectInit ∈ lw_tbl := tb_2 _ (List.mem_of_getElem? (i := 152) rfl)
theorem nX11_51 : Cond.methodLinkNest RX11 51 yX5_init "BlushLamps" ∈ lw_tbl := tb_2 _ (List.mem_of_getElem? (i := 162) rfl)
theorem lX5_3 : Cond.methodLink RX5 3 objectInit ∈ lw_tbl := tb_2 _ (List.mem_of_getElem? (i := 165) rfl)
theorem nX11_58 : Cond.methodLinkNest RX11 58 yX1_init "BlushLamps" ∈ lw_tbl := tb_2 _ (List.mem_of_getElem? (i := 193) rfl)
theorem lX1_3 : Cond.methodLink RX1 3 objectInit ∈ lw_tbl := tb_2 _ (List.mem_of_getElem? (i := 196) rfl)
theorem nX11_65 : Cond.methodLinkNest RX11 65 yX4_init "BlushLamps" ∈ lw_tbl := tb_2 _ (List.mem_of_getElem? (i := 213) rfl)
theorem lX4_3 : Cond.methodLink RX4 3 objectInit ∈ lw_tbl := tb_2 _ (List.mem_of_getElem? (i := 216) rfl)
theorem lX11_72 : Cond.methodLink RX11 72 yX3_init ∈ lw_tbl := tb_2 _ (List.mem_of_getElem? (i := 236) rfl)
theorem lL_13 : Cond.methodLink RL 13 yX11_feed ∈ lw_tbl := tb_3 _ (List.mem_of_getElem? (i := 34) rfl)
theorem lX11_91 : Cond.methodLink RX11 91 yX7_append ∈ lw_tbl := tb_3 _ (List.mem_of_getElem? (i := 38) rfl)
theorem lL_18 : Cond.methodLink RL 18 yX11_back ∈ lw_tbl := tb_3 _ (List.mem_of_getElem? (i := 42) rfl)
theorem lL_23 : Cond.methodLink RL 23 yX11_read ∈ lw_tbl := tb_3 _ (List.mem_of_getElem? (i := 46) rfl)
theorem lX11_95 : Cond.methodLink RX11 95 yX6_readInto ∈ lw_tbl := tb_3 _ (List.mem_of_getElem? (i := 50) rfl)
theorem lX6_30 : Cond.methodLink RX6 30 yX6_start ∈ lw_tbl := tb_3 _ (List.mem_of_getElem? (i := 54) rfl)
theorem lX6_91 : Cond.methodLink RX6 91 yX8_cutUp ∈ lw_tbl := tb_3 _ (List.mem_of_getElem? (i := 58) rfl)
theorem lX8_41 : Cond.methodLink RX8 41 yX8_behindBlanks ∈ lw_tbl := tb_3 _ (List.mem_of_getElem? (i := 62) rfl)
theorem lX8_49 : Cond.methodLink RX8 49 yX7_byteAt ∈ lw_tbl := tb_3 _ (List.mem_of_getElem? (i := 65) rfl)
theorem lX8_84 : Cond.methodLink RX8 84 yX8_isBlank ∈ lw_tbl := tb_3 _ (List.mem_of_getElem? (i := 69) rfl)
theorem lX8_45 : Cond.methodLink RX8 45 yX8_cutOne ∈ lw_tbl := tb_3 _ (List.mem_of_getElem? (i := 72) rfl)
theorem lX8_55 : Cond.methodLink RX8 55 yX8_isLetter ∈ lw_tbl := tb_3 _ (List.mem_of_getElem? (i := 76) rfl)
theorem lX8_59 : Cond.methodLink RX8 59 yX8_cutLetters ∈ lw_tbl := tb_3 _ (List.mem_of_getElem? (i := 79) rfl)
theorem lX8_76 : Cond.methodLink RX8 76 yX8_kindOf ∈ lw_tbl := tb_3 _ (List.mem_of_getElem? (i := 83) rfl)
theorem lX8_62 : Cond.methodLink RX8 62 yX8_isDigit ∈ lw_tbl := tb_3 _ (List.mem_of_getElem? (i := 87) rfl)
theorem lX8_65 : Cond.methodLink RX8 65 yX8_cutDigits ∈ lw_tbl := tb_3 _ (List.mem_of_getElem? (i := 90) rfl)
theorem lX8_70 : Cond.methodLink RX8 70 yJ0_indexOf_0f7a4 ∈ lw_tbl := tb_3 _ (List.mem_of_getElem? (i := 97) rfl)
theorem lJ0_633 : Cond.methodLink RJ0 633 yJ0_indexOf_7cf53 ∈ lw_tbl := tb_3 _ (List.mem_of_getElem? (i := 101) rfl)
theorem lJ0_505 : Cond.methodLink RJ0 505 yJ0_length_8abf5 ∈ lw_tbl := tb_3 _ (List.mem_of_getElem? (i := 105) rfl)
theorem lJ0_637 : Cond.methodLink RJ0 637 yJ1_indexOf_4cfef ∈ lw_tbl := tb_3 _ (List.mem_of_getElem? (i := 106) rfl)
theorem lJ1_88 : Cond.methodLink RJ1 88 yJ1_canEncode_9a6ad ∈ lw_tbl := tb_3 _ (List.mem_of_getElem? (i := 109) rfl)
theorem lJ1_92 : Cond.methodLink RJ1 92 yJ9_max_7cf53 ∈ lw_tbl := tb_3 _ (List.mem_of_getElem? (i := 112) rfl)
theorem lJ1_38 : Cond.methodLink RJ1 38 yJ9_min_7cf53 ∈ lw_tbl := tb_3 _ (List.mem_of_getElem? (i := 115) rfl)
theorem lJ1_95 : Cond.methodLink RJ1 95 yJ1_indexOfChar_4cfef ∈ lw_tbl := tb_3 _ (List.mem_of_getElem? (i := 118) rfl)
theorem lJ0_640 : Cond.methodLink RJ0 640 yJ2_indexOf_4cfef ∈ lw_tbl := tb_3 _ (List.mem_of_getElem? (i := 121) rfl)
theorem lJ2_224 : Cond.methodLink RJ2 224 yJ9_max_7cf53 ∈ lw_tbl := tb_3 _ (List.mem_of_getElem? (i := 124) rfl)
theorem lJ2_183 : Cond.methodLink RJ2 183 yJ9_min_7cf53 ∈ lw_tbl := tb_3 _ (List.mem_of_getElem? (i := 125) rfl)
theorem lJ2_228 : Cond.methodLink RJ2 228 yJ2_indexOfChar_4cfef ∈ lw_tbl := tb_3 _ (List.mem_of_getElem? (i := 127) rfl)
theorem lJ2_96 : Cond.methodLink RJ2 96 yJ2_checkBoundsBeginEnd_d044e ∈ lw_tbl := tb_3 _ (List.mem_of_getElem? (i := 130) rfl)
theorem lJ2_241 : Cond.methodLink RJ2 241 yJ0_checkBoundsBeginEnd_23922 ∈ lw_tbl := tb_3 _ (List.mem_of_getElem? (i := 133) rfl)
theorem lJ0_1062 : Cond.methodLink RJ0 1062 yJ3_checkFromToIndex_8c36e ∈ lw_tbl := tb_3 _ (List.mem_of_getElem? (i := 136) rfl)
theorem lJ2_244 : Cond.methodLink RJ2 244 yJ2_indexOfCharUnsafe_4cfef ∈ lw_tbl := tb_3 _ (List.mem_of_getElem? (i := 139) rfl)
theorem lJ2_232 : Cond.methodLink RJ2 232 yJ2_indexOfSupplementary_4cfef ∈ lw_tbl := tb_3 _ (List.mem_of_getElem? (i := 142) rfl)
theorem lJ2_164 : Cond.methodLink RJ2 164 yJ11_isValidCodePoint_9a6ad ∈ lw_tbl := tb_3 _ (List.mem_of_getElem? (i := 145) rfl)
theorem lJ2_157 : Cond.methodLink RJ2 157 yJ11_highSurrogate_5068e ∈ lw_tbl := tb_3 _ (List.mem_of_getElem? (i := 148) rfl)
theorem lJ2_161 : Cond.methodLink RJ2 161 yJ11_lowSurrogate_5068e ∈ lw_tbl := tb_3 _ (List.mem_of_getElem? (i := 152) rfl)
theorem lX6_95 : Cond.methodLink RX6 95 yX9_clear ∈ lw_tbl := tb_3 _ (List.mem_of_getElem? (i := 156) rfl)
theorem lX6_38 : Cond.methodLink RX6 38 yX6_kind ∈ lw_tbl := tb_3 _ (List.mem_of_getElem? (i := 157) rfl)
theorem lX6_42 : Cond.methodLink RX6 42 yX6_readCorner ∈ lw_tbl := tb_3 _ (List.mem_of_getElem? (i := 161) rfl)
theorem lX6_107 : Cond.methodLink RX6 107 yX6_passOneOf ∈ lw_tbl := tb_3 _ (List.mem_of_getElem? (i := 165) rfl)
theorem lX6_139 : Cond.methodLink RX6 139 yX6_fail ∈ lw_tbl := tb_3 _ (List.mem_of_getElem? (i := 169) rfl)
theorem lX6_54 : Cond.methodLink RX6 54 yX6_pass ∈ lw_tbl := tb_3 _ (List.mem_of_getElem? (i := 173) rfl)
theorem lX6_111 : Cond.methodLink RX6 111 yX6_takeNewName ∈ lw_tbl := tb_3 _ (List.mem_of_getElem? (i := 177) rfl)
theorem lX6_79 : Cond.methodLink RX6 79 yX6_expect ∈ lw_tbl := tb_3 _ (List.mem_of_getElem? (i := 181) rfl)
theorem lX6_170 : Cond.methodLink RX6 170 yX6_find ∈ lw_tbl := tb_3 _ (List.mem_of_getElem? (i := 185) rfl)
theorem lX6_120 : Cond.methodLink RX6 120 yX6_failLater ∈ lw_tbl := tb_3 _ (List.mem_of_getElem? (i := 189) rfl)
theorem lX6_45 : Cond.methodLink RX6 45 yX6_readStreet ∈ lw_tbl := tb_3 _ (List.mem_of_getElem? (i := 193) rfl)
theorem lX6_57 : Cond.methodLink RX6 57 yX6_takeCorner ∈ lw_tbl := tb_3 _ (List.mem_of_getElem? (i := 197) rfl)
theorem lX6_65 : Cond.methodLink RX6 65 yX6_takeInt ∈ lw_tbl := tb_3 _ (List.mem_of_getElem? (i := 201) rfl)
theorem lX6_123 : Cond.methodLink RX6 123 yX9_addStreet ∈ lw_tbl := tb_3 _ (List.mem_of_getElem? (i := 205) rfl)
theorem lX6_48 : Cond.methodLink RX6 48 yX6_readYoung ∈ lw_tbl := tb_3 _ (List.mem_of_getElem? (i := 209) rfl)
theorem lX6_130 : Cond.methodLink RX6 130 yX9_addYoung ∈ lw_tbl := tb_3 _ (List.mem_of_getElem? (i := 213) rfl)
theorem lX6_51 : Cond.methodLink RX6 51 yX6_readWord ∈ lw_tbl := tb_3 _ (List.mem_of_getElem? (i := 217) rfl)
theorem lX6_136 : Cond.methodLink RX6 136 yX9_addWord ∈ lw_tbl := tb_3 _ (List.mem_of_getElem? (i := 221) rfl)
theorem lX6_75 : Cond.methodLink RX6 75 yX6_readLaw ∈ lw_tbl := tb_3 _ (List.mem_of_getElem? (i := 225) rfl)
theorem lX6_148 : Cond.methodLink RX6 148 yX6_readValue ∈ lw_tbl := tb_3 _ (List.mem_of_getElem? (i := 229) rfl)
theorem lX6_157 : Cond.methodLink RX6 157 yX6_readUnit ∈ lw_tbl := tb_3 _ (List.mem_of_getElem? (i := 233) rfl)
theorem lX6_151 : Cond.methodLink RX6 151 yX9_emit ∈ lw_tbl := tb_3 _ (List.mem_of_getElem? (i := 237) rfl)
theorem lX6_160 : Cond.methodLink RX6 160 yX6_levelOf ∈ lw_tbl := tb_3 _ (List.mem_of_getElem? (i := 238) rfl)
theorem lX6_154 : Cond.methodLink RX6 154 yX9_aimAtEnd ∈ lw_tbl := tb_4 _ (List.mem_of_getElem? (i := 1) rfl)
theorem lX11_100 : Cond.methodLink RX11 100 yX11_settle ∈ lw_tbl := tb_4 _ (List.mem_of_getElem? (i := 6) rfl)
theorem lX11_377 : Cond.methodLink RX11 377 yX3_begin ∈ lw_tbl := tb_4 _ (List.mem_of_getElem? (i := 10) rfl)
theorem lX3_50 : Cond.methodLink RX3 50 yJ7_fill_53178 ∈ lw_tbl := tb_4 _ (List.mem_of_getElem? (i := 14) rfl)
theorem lX3_59 : Cond.methodLink RX3 59 arraycopyName ∈ lw_tbl := tb_4 _ (List.mem_of_getElem? (i := 17) rfl)
theorem lX11_380 : Cond.methodLink RX11 380 yX4_clear ∈ lw_tbl := tb_4 _ (List.mem_of_getElem? (i := 20) rfl)
theorem lL_28 : Cond.methodLink RL 28 yX11_place ∈ lw_tbl := tb_4 _ (List.mem_of_getElem? (i := 24) rfl)
theorem lL_32 : Cond.methodLink RL 32 yX11_corner ∈ lw_tbl := tb_4 _ (List.mem_of_getElem? (i := 28) rfl)
theorem lX11_103 : Cond.methodLink RX11 103 yX11_isCorner ∈ lw_tbl := tb_4 _ (List.mem_of_getElem? (i := 32) rfl)
theorem lX11_107 : Cond.methodLink RX11 107 yX3_lightAt ∈ lw_tbl := tb_4 _ (List.mem_of_getElem? (i := 36) rfl)
theorem lX11_111 : Cond.methodLink RX11 111 yX3_whoIsAt ∈ lw_tbl := tb_4 _ (List.mem_of_getElem? (i := 40) rfl)
theorem lX3_74 : Cond.methodLink RX3 74 yX3_isHome ∈ lw_tbl := tb_4 _ (List.mem_of_getElem? (i := 44) rfl)
theorem lX11_117 : Cond.methodLink RX11 117 yX9_streetsOf ∈ lw_tbl := tb_4 _ (List.mem_of_getElem? (i := 48) rfl)
theorem lL_37 : Cond.methodLink RL 37 yX11_street ∈ lw_tbl := tb_4 _ (List.mem_of_getElem? (i := 52) rfl)
theorem lX11_120 : Cond.methodLink RX11 120 yX11_isStreet ∈ lw_tbl := tb_4 _ (List.mem_of_getElem? (i := 56) rfl)
theorem lX11_133 : Cond.methodLink RX11 133 yX3_isLit ∈ lw_tbl := tb_4 _ (List.mem_of_getElem? (i := 60) rfl)
theorem lX3_100 : Cond.methodLink RX3 100 yX3_needsOf ∈ lw_tbl := tb_4 _ (List.mem_of_getElem? (i := 64) rfl)
theorem lX3_81 : Cond.methodLink RX3 81 yX3_lightAt ∈ lw_tbl := tb_4 _ (List.mem_of_getElem? (i := 68) rfl)
theorem lX3_94 : Cond.methodLink RX3 94 yJ9_max_7cf53 ∈ lw_tbl := tb_4 _ (List.mem_of_getElem? (i := 69) rfl)
theorem lX11_136 : Cond.methodLink RX11 136 yX3_needsOf ∈ lw_tbl := tb_4 _ (List.mem_of_getElem? (i := 70) rfl)
theorem lL_41 : Cond.methodLink RL 41 yX11_young ∈ lw_tbl := tb_4 _ (List.mem_of_getElem? (i := 71) rfl)
theorem lX11_139 : Cond.methodLink RX11 139 yX11_isYoung ∈ lw_tbl := tb_4 _ (List.mem_of_getElem? (i := 75) rfl)
theorem lX11_154 : Cond.methodLink RX11 154 yX3_isHome ∈ lw_tbl := tb_4 _ (List.mem_of_getElem? (i := 79) rfl)
theorem lX11_160 : Cond.methodLink RX11 160 yX3_since ∈ lw_tbl := tb_4 _ (List.mem_of_getElem? (i := 80) rfl)
theorem lX11_166 : Cond.methodLink RX11 166 yX2_cools ∈ lw_tbl := tb_4 _ (List.mem_of_getElem? (i := 84) rfl)
theorem lX2_18 : Cond.methodLink RX2 18 yX2_lawOf ∈ lw_tbl := tb_4 _ (List.mem_of_getElem? (i := 88) rfl)
theorem lX2_85 : Cond.methodLink RX2 85 yX3_since ∈ lw_tbl := tb_4 _ (List.mem_of_getElem? (i := 92) rfl)
theorem lX2_97 : Cond.methodLink RX2 97 yX2_run ∈ lw_tbl := tb_4 _ (List.mem_of_getElem? (i := 93) rfl)
theorem lX2_22 : Cond.methodLink RX2 22 yX2_held ∈ lw_tbl := tb_4 _ (List.mem_of_getElem? (i := 97) rfl)
theorem lX2_35 : Cond.methodLink RX2 35 yJ9_min_7cf53 ∈ lw_tbl := tb_4 _ (List.mem_of_getElem? (i := 100) rfl)
theorem lX2_73 : Cond.methodLink RX2 73 yJ9_max_7cf53 ∈ lw_tbl := tb_4 _ (List.mem_of_getElem? (i := 101) rfl)
theorem lX11_170 : Cond.methodLink RX11 170 yX2_leaves ∈ lw_tbl := tb_4 _ (List.mem_of_getElem? (i := 102) rfl)
theorem lL_45 : Cond.methodLink RL 45 yX11_word ∈ lw_tbl := tb_4 _ (List.mem_of_getElem? (i := 106) rfl)
theorem lX11_174 : Cond.methodLink RX11 174 yX11_isWord ∈ lw_tbl := tb_4 _ (List.mem_of_getElem? (i := 110) rfl)
theorem lL_49 : Cond.methodLink RL 49 yX11_tells ∈ lw_tbl := tb_4 _ (List.mem_of_getElem? (i := 114) rfl)
theorem lX11_183 : Cond.methodLink RX11 183 yX2_glows ∈ lw_tbl := tb_4 _ (List.mem_of_getElem? (i := 118) rfl)
theorem lX11_187 : Cond.methodLink RX11 187 yX2_wears ∈ lw_tbl := tb_4 _ (List.mem_of_getElem? (i := 122) rfl)
theorem lL_54 : Cond.methodLink RL 54 yX11_step ∈ lw_tbl := tb_4 _ (List.mem_of_getElem? (i := 126) rfl)
theorem lX11_190 : Cond.methodLink RX11 190 yX9_acrossFrom ∈ lw_tbl := tb_4 _ (List.mem_of_getElem? (i := 130) rfl)
theorem lX11_194 : Cond.methodLink RX11 194 yX11_beginThing ∈ lw_tbl := tb_4 _ (List.mem_of_getElem? (i := 134) rfl)
theorem lX11_375 : Cond.methodLink RX11 375 yX4_note ∈ lw_tbl := tb_4 _ (List.mem_of_getElem? (i := 138) rfl)
theorem lX4_30 : Cond.methodLink RX4 30 yX4_write ∈ lw_tbl := tb_4 _ (List.mem_of_getElem? (i := 142) rfl)
theorem lX4_59 : Cond.methodLink RX4 59 arraycopyName ∈ lw_tbl := tb_4 _ (List.mem_of_getElem? (i := 145) rfl)
theorem lX4_34 : Cond.methodLink RX4 34 yJ9_min_7cf53 ∈ lw_tbl := tb_4 _ (List.mem_of_getElem? (i := 146) rfl)
theorem lX11_200 : Cond.methodLink RX11 200 yX0_passHours ∈ lw_tbl := tb_4 _ (List.mem_of_getElem? (i := 147) rfl)
theorem lX0_37 : Cond.methodLink RX0 37 yX0_chilledCorner ∈ lw_tbl := tb_4 _ (List.mem_of_getElem? (i := 151) rfl)
theorem lX0_96 : Cond.methodLink RX0 96 yX0_isDraughty ∈ lw_tbl := tb_4 _ (List.mem_of_getElem? (i := 154) rfl)
theorem lX0_27 : Cond.methodLink RX0 27 yX0_lot ∈ lw_tbl := tb_4 _ (List.mem_of_getElem? (i := 157) rfl)
theorem lX0_100 : Cond.methodLink RX0 100 yX0_stir ∈ lw_tbl := tb_4 _ (List.mem_of_getElem? (i := 160) rfl)
theorem lX0_41 : Cond.methodLink RX0 41 yX0_passHour ∈ lw_tbl := tb_4 _ (List.mem_of_getElem? (i := 164) rfl)
theorem lX0_64 : Cond.methodLink RX0 64 yX3_isHome ∈ lw_tbl := tb_4 _ (List.mem_of_getElem? (i := 168) rfl)
theorem lX0_67 : Cond.methodLink RX0 67 yX2_leaves ∈ lw_tbl := tb_4 _ (List.mem_of_getElem? (i := 169) rfl)
theorem lX0_75 : Cond.methodLink RX0 75 yX2_cools ∈ lw_tbl := tb_4 _ (List.mem_of_getElem? (i := 170) rfl)
theorem lX0_78 : Cond.methodLink RX0 78 yJ9_max_7cf53 ∈ lw_tbl := tb_4 _ (List.mem_of_getElem? (i := 171) rfl)
theorem lL_58 : Cond.methodLink RL 58 yX11_say ∈ lw_tbl := tb_4 _ (List.mem_of_getElem? (i := 172) rfl)
theorem lX11_204 : Cond.methodLink RX11 204 yX11_isOut ∈ lw_tbl := tb_4 _ (List.mem_of_getElem? (i := 176) rfl)
theorem lX11_207 : Cond.methodLink RX11 207 yX2_glowIfTold ∈ lw_tbl := tb_4 _ (List.mem_of_getElem? (i := 180) rfl)
theorem lX2_26 : Cond.methodLink RX2 26 yX3_isHome ∈ lw_tbl := tb_4 _ (List.mem_of_getElem? (i := 184) rfl)
theorem lX11_210 : Cond.methodLink RX11 210 yJ9_max_7cf53 ∈ lw_tbl := tb_4 _ (List.mem_of_getElem? (i := 185) rfl)
theorem lL_62 : Cond.methodLink RL 62 yX11_move ∈ lw_tbl := tb_4 _ (List.mem_of_getElem? (i := 186) rfl)
theorem lL_67 : Cond.methodLink RL 67 yX11_rouge ∈ lw_tbl := tb_4 _ (List.mem_of_getElem? (i := 190) rfl)
theorem lX11_221 : Cond.methodLink RX11 221 yJ9_min_7cf53 ∈ lw_tbl := tb_4 _ (List.mem_of_getElem? (i := 194) rfl)
theorem lL_72 : Cond.methodLink RL 72 yX11_hours ∈ lw_tbl := tb_4 _ (List.mem_of_getElem? (i := 195) rfl)
theorem lX11_224 : Cond.methodLink RX11 224 yX11_areHours ∈ lw_tbl := tb_4 _ (List.mem_of_getElem? (i := 199) rfl)
theorem lL_76 : Cond.methodLink RL 76 yX11_undo ∈ lw_tbl := tb_4 _ (List.mem_of_getElem? (i := 202) rfl)
theorem lX11_231 : Cond.methodLink RX11 231 yX4_takeBack ∈ lw_tbl := tb_4 _ (List.mem_of_getElem? (i := 206) rfl)
theorem lX4_40 : Cond.methodLink RX4 40 yX4_writeBack ∈ lw_tbl := tb_4 _ (List.mem_of_getElem? (i := 210) rfl)
theorem lL_81 : Cond.methodLink RL 81 yX11_darkens ∈ lw_tbl := tb_4 _ (List.mem_of_getElem? (i := 213) rfl)
theorem lX11_235 : Cond.methodLink RX11 235 yX0_hoursTillDark ∈ lw_tbl := tb_4 _ (List.mem_of_getElem? (i := 217) rfl)
theorem lX0_45 : Cond.methodLink RX0 45 yX3_copyFrom ∈ lw_tbl := tb_4 _ (List.mem_of_getElem? (i := 221) rfl)
theorem lX0_53 : Cond.methodLink RX0 53 yX3_isLit ∈ lw_tbl := tb_4 _ (List.mem_of_getElem? (i := 225) rfl)
theorem lX0_49 : Cond.methodLink RX0 49 yX0_passHours ∈ lw_tbl := tb_4 _ (List.mem_of_getElem? (i := 226) rfl)
theorem lL_85 : Cond.methodLink RL 85 yX11_best ∈ lw_tbl := tb_4 _ (List.mem_of_getElem? (i := 227) rfl)
theorem lX11_238 : Cond.methodLink RX11 238 yX5_search ∈ lw_tbl := tb_4 _ (List.mem_of_getElem? (i := 231) rfl)
theorem lX5_49 : Cond.methodLink RX5 49 yJ7_fill_53178 ∈ lw_tbl := tb_4 _ (List.mem_of_getElem? (i := 235) rfl)
theorem lX5_55 : Cond.methodLink RX5 55 yX5_stand ∈ lw_tbl := tb_4 _ (List.mem_of_getElem? (i := 236) rfl)
theorem lX5_84 : Cond.methodLink RX5 84 yX5_standLast ∈ lw_tbl := tb_5 _ (List.mem_of_getElem? (i := 0) rfl)
theorem lX5_104 : Cond.methodLink RX5 104 arraycopyName ∈ lw_tbl := tb_5 _ (List.mem_of_getElem? (i := 4) rfl)
theorem lX5_88 : Cond.methodLink RX5 88 yX5_litWith ∈ lw_tbl := tb_5 _ (List.mem_of_getElem? (i := 5) rfl)
theorem lX5_95 : Cond.methodLink RX5 95 yX5_lowestFor ∈ lw_tbl := tb_5 _ (List.mem_of_getElem? (i := 9) rfl)
theorem lL_89 : Cond.methodLink RL 89 yX11_telling ∈ lw_tbl := tb_5 _ (List.mem_of_getElem? (i := 13) rfl)
theorem lX11_248 : Cond.methodLink RX11 248 yX11_isEither ∈ lw_tbl := tb_5 _ (List.mem_of_getElem? (i := 17) rfl)
theorem lX11_254 : Cond.methodLink RX11 254 yX2_hottestFor ∈ lw_tbl := tb_5 _ (List.mem_of_getElem? (i := 20) rfl)
theorem lX2_51 : Cond.methodLink RX2 51 yX2_glowIfTold ∈ lw_tbl := tb_5 _ (List.mem_of_getElem? (i := 24) rfl)
theorem lL_93 : Cond.methodLink RL 93 yX11_keep ∈ lw_tbl := tb_5 _ (List.mem_of_getElem? (i := 25) rfl)
theorem lX11_257 : Cond.methodLink RX11 257 yX3_firstOut ∈ lw_tbl := tb_5 _ (List.mem_of_getElem? (i := 29) rfl)
theorem lX11_261 : Cond.methodLink RX11 261 yX2_mostLasting ∈ lw_tbl := tb_5 _ (List.mem_of_getElem? (i := 33) rfl)
theorem lX2_58 : Cond.methodLink RX2 58 yX2_wears ∈ lw_tbl := tb_5 _ (List.mem_of_getElem? (i := 37) rfl)
theorem lL_97 : Cond.methodLink RL 97 yX11_steps ∈ lw_tbl := tb_5 _ (List.mem_of_getElem? (i := 38) rfl)
theorem lX11_264 : Cond.methodLink RX11 264 yX10_fewest ∈ lw_tbl := tb_5 _ (List.mem_of_getElem? (i := 42) rfl)
theorem lX10_18 : Cond.methodLink RX10 18 yX10_measure ∈ lw_tbl := tb_5 _ (List.mem_of_getElem? (i := 46) rfl)
theorem lX10_88 : Cond.methodLink RX10 88 yJ7_fill_53178 ∈ lw_tbl := tb_5 _ (List.mem_of_getElem? (i := 50) rfl)
theorem lX10_75 : Cond.methodLink RX10 75 yJ9_min_7cf53 ∈ lw_tbl := tb_5 _ (List.mem_of_getElem? (i := 51) rfl)
theorem lL_101 : Cond.methodLink RL 101 yX11_round ∈ lw_tbl := tb_5 _ (List.mem_of_getElem? (i := 52) rfl)
theorem lX11_271 : Cond.methodLink RX11 271 yX3_cornersInUse ∈ lw_tbl := tb_5 _ (List.mem_of_getElem? (i := 56) rfl)
theorem lX11_274 : Cond.methodLink RX11 274 yX10_shortestRound ∈ lw_tbl := tb_5 _ (List.mem_of_getElem? (i := 60) rfl)
theorem lX10_41 : Cond.methodLink RX10 41 arraycopyName ∈ lw_tbl := tb_5 _ (List.mem_of_getElem? (i := 64) rfl)
theorem lX10_47 : Cond.methodLink RX10 47 yX10_roundFrom ∈ lw_tbl := tb_5 _ (List.mem_of_getElem? (i := 65) rfl)
theorem lL_105 : Cond.methodLink RL 105 yX11_safe ∈ lw_tbl := tb_5 _ (List.mem_of_getElem? (i := 69) rfl)
theorem lX11_278 : Cond.methodLink RX11 278 yX3_litStreets ∈ lw_tbl := tb_5 _ (List.mem_of_getElem? (i := 73) rfl)
theorem lX3_106 : Cond.methodLink RX3 106 yX3_isLit ∈ lw_tbl := tb_5 _ (List.mem_of_getElem? (i := 77) rfl)
theorem lX11_281 : Cond.methodLink RX11 281 yX10_reached ∈ lw_tbl := tb_5 _ (List.mem_of_getElem? (i := 78) rfl)
theorem lL_109 : Cond.methodLink RL 109 yX11_dark ∈ lw_tbl := tb_5 _ (List.mem_of_getElem? (i := 82) rfl)
theorem lL_113 : Cond.methodLink RL 113 yX11_bridges ∈ lw_tbl := tb_5 _ (List.mem_of_getElem? (i := 86) rfl)
theorem lX11_284 : Cond.methodLink RX11 284 yX10_onlyWays ∈ lw_tbl := tb_5 _ (List.mem_of_getElem? (i := 90) rfl)
theorem lX10_37 : Cond.methodLink RX10 37 yX10_fewest ∈ lw_tbl := tb_5 _ (List.mem_of_getElem? (i := 94) rfl)
theorem lL_117 : Cond.methodLink RL 117 yX11_gather ∈ lw_tbl := tb_5 _ (List.mem_of_getElem? (i := 95) rfl)
theorem lX11_288 : Cond.methodLink RX11 288 yX10_nearestToAll ∈ lw_tbl := tb_5 _ (List.mem_of_getElem? (i := 99) rfl)
theorem lX10_57 : Cond.methodLink RX10 57 yX10_stepsOfAll ∈ lw_tbl := tb_5 _ (List.mem_of_getElem? (i := 103) rfl)
theorem lX10_64 : Cond.methodLink RX10 64 yX3_isHome ∈ lw_tbl := tb_5 _ (List.mem_of_getElem? (i := 107) rfl)
theorem lX11_292 : Cond.methodLink RX11 292 yX10_stepsOfAll ∈ lw_tbl := tb_5 _ (List.mem_of_getElem? (i := 108) rfl)
theorem lL_121 : Cond.methodLink RL 121 yX11_moves ∈ lw_tbl := tb_5 _ (List.mem_of_getElem? (i := 109) rfl)
theorem lX11_295 : Cond.methodLink RX11 295 yX5_fewestFor ∈ lw_tbl := tb_5 _ (List.mem_of_getElem? (i := 113) rfl)
theorem lX5_62 : Cond.methodLink RX5 62 yX3_whoIsAt ∈ lw_tbl := tb_5 _ (List.mem_of_getElem? (i := 117) rfl)
theorem lX5_69 : Cond.methodLink RX5 69 yX3_needsOf ∈ lw_tbl := tb_5 _ (List.mem_of_getElem? (i := 118) rfl)
theorem lX5_72 : Cond.methodLink RX5 72 yJ6_bitCount_0f7a4 ∈ lw_tbl := tb_5 _ (List.mem_of_getElem? (i := 119) rfl)
theorem lX5_80 : Cond.methodLink RX5 80 yX5_glowOf ∈ lw_tbl := tb_5 _ (List.mem_of_getElem? (i := 125) rfl)
theorem lX11_298 : Cond.methodLink RX11 298 yJ6_bitCount_0f7a4 ∈ lw_tbl := tb_5 _ (List.mem_of_getElem? (i := 128) rfl)
theorem lL_125 : Cond.methodLink RL 125 yX11_cut ∈ lw_tbl := tb_5 _ (List.mem_of_getElem? (i := 129) rfl)
theorem lX11_303 : Cond.methodLink RX11 303 yX10_fewestBetween ∈ lw_tbl := tb_5 _ (List.mem_of_getElem? (i := 133) rfl)
theorem lX10_71 : Cond.methodLink RX10 71 yX10_crossing ∈ lw_tbl := tb_5 _ (List.mem_of_getElem? (i := 137) rfl)
theorem lX10_94 : Cond.methodLink RX10 94 yX10_isCrossing ∈ lw_tbl := tb_5 _ (List.mem_of_getElem? (i := 140) rfl)
theorem lL_129 : Cond.methodLink RL 129 yX11_tree ∈ lw_tbl := tb_5 _ (List.mem_of_getElem? (i := 143) rfl)
theorem lX11_306 : Cond.methodLink RX11 306 yX10_shortestJoin ∈ lw_tbl := tb_5 _ (List.mem_of_getElem? (i := 147) rfl)
theorem lX10_81 : Cond.methodLink RX10 81 yX10_shortestOutOf ∈ lw_tbl := tb_5 _ (List.mem_of_getElem? (i := 151) rfl)
theorem lL_133 : Cond.methodLink RL 133 yX11_twins ∈ lw_tbl := tb_5 _ (List.mem_of_getElem? (i := 154) rfl)
theorem lX11_310 : Cond.methodLink RX11 310 yX2_mostAlike ∈ lw_tbl := tb_5 _ (List.mem_of_getElem? (i := 158) rfl)
theorem lX2_70 : Cond.methodLink RX2 70 yX2_apart ∈ lw_tbl := tb_5 _ (List.mem_of_getElem? (i := 162) rfl)
theorem lX2_64 : Cond.methodLink RX2 64 yX2_glows ∈ lw_tbl := tb_5 _ (List.mem_of_getElem? (i := 166) rfl)
theorem lX2_67 : Cond.methodLink RX2 67 yJ9_abs_0f7a4 ∈ lw_tbl := tb_5 _ (List.mem_of_getElem? (i := 167) rfl)
theorem lX11_313 : Cond.methodLink RX11 313 yX2_apart ∈ lw_tbl := tb_5 _ (List.mem_of_getElem? (i := 170) rfl)
theorem lL_137 : Cond.methodLink RL 137 yX11_brightest ∈ lw_tbl := tb_5 _ (List.mem_of_getElem? (i := 171) rfl)
theorem lX11_316 : Cond.methodLink RX11 316 yX3_lightestCorner ∈ lw_tbl := tb_5 _ (List.mem_of_getElem? (i := 175) rfl)
theorem lL_141 : Cond.methodLink RL 141 yX11_glowIn ∈ lw_tbl := tb_5 _ (List.mem_of_getElem? (i := 179) rfl)
theorem lX11_319 : Cond.methodLink RX11 319 yX0_nightIn ∈ lw_tbl := tb_5 _ (List.mem_of_getElem? (i := 183) rfl)
theorem lL_145 : Cond.methodLink RL 145 yX11_then ∈ lw_tbl := tb_5 _ (List.mem_of_getElem? (i := 187) rfl)
theorem lL_149 : Cond.methodLink RL 149 yX11_year ∈ lw_tbl := tb_5 _ (List.mem_of_getElem? (i := 191) rfl)
theorem lL_153 : Cond.methodLink RL 153 yX11_tell ∈ lw_tbl := tb_5 _ (List.mem_of_getElem? (i := 195) rfl)
theorem lX11_326 : Cond.methodLink RX11 326 yX11_isGlow ∈ lw_tbl := tb_5 _ (List.mem_of_getElem? (i := 199) rfl)
theorem lX11_332 : Cond.methodLink RX11 332 yX1_note ∈ lw_tbl := tb_5 _ (List.mem_of_getElem? (i := 202) rfl)
theorem lL_158 : Cond.methodLink RL 158 yX11_forget ∈ lw_tbl := tb_5 _ (List.mem_of_getElem? (i := 206) rfl)
theorem lL_162 : Cond.methodLink RL 162 yX11_words ∈ lw_tbl := tb_5 _ (List.mem_of_getElem? (i := 210) rfl)
theorem lX11_336 : Cond.methodLink RX11 336 yX11_isKnown ∈ lw_tbl := tb_5 _ (List.mem_of_getElem? (i := 214) rfl)
theorem lX11_339 : Cond.methodLink RX11 339 yX1_fitting ∈ lw_tbl := tb_5 _ (List.mem_of_getElem? (i := 218) rfl)
theorem lX1_36 : Cond.methodLink RX1 36 yX1_isFitting ∈ lw_tbl := tb_5 _ (List.mem_of_getElem? (i := 222) rfl)
theorem lX1_51 : Cond.methodLink RX1 51 yX2_glowIfTold ∈ lw_tbl := tb_5 _ (List.mem_of_getElem? (i := 226) rfl)
theorem lL_166 : Cond.methodLink RL 166 yX11_look ∈ lw_tbl := tb_5 _ (List.mem_of_getElem? (i := 227) rfl)
theorem lX11_343 : Cond.methodLink RX11 343 yX1_mostTelling ∈ lw_tbl := tb_5 _ (List.mem_of_getElem? (i := 231) rfl)
theorem lX1_43 : Cond.methodLink RX1 43 yX3_isHome ∈ lw_tbl := tb_5 _ (List.mem_of_getElem? (i := 234) rfl)
theorem lX1_47 : Cond.methodLink RX1 47 yX1_leftAtWorst ∈ lw_tbl := tb_5 _ (List.mem_of_getElem? (i := 235) rfl)
theorem lX1_57 : Cond.methodLink RX1 57 yJ6_bitCount_0f7a4 ∈ lw_tbl := tb_5 _ (List.mem_of_getElem? (i := 238) rfl)
theorem lX1_63 : Cond.methodLink RX1 63 yJ9_max_7cf53 ∈ lw_tbl := tb_5 _ (List.mem_of_getElem? (i := 239) rfl)
theorem lL_170 : Cond.methodLink RL 170 yX11_hold ∈ lw_tbl := tb_6 _ (List.mem_of_getElem? (i := 0) rfl)
theorem lX11_347 : Cond.methodLink RX11 347 yX4_keepIn ∈ lw_tbl := tb_6 _ (List.mem_of_getElem? (i := 4) rfl)
theorem lL_174 : Cond.methodLink RL 174 yX11_restore ∈ lw_tbl := tb_6 _ (List.mem_of_getElem? (i := 8) rfl)
theorem lX11_351 : Cond.methodLink RX11 351 yX4_takeFrom ∈ lw_tbl := tb_6 _ (List.mem_of_getElem? (i := 12) rfl)
theorem lL_178 : Cond.methodLink RL 178 yX11_count ∈ lw_tbl := tb_6 _ (List.mem_of_getElem? (i := 16) rfl)
theorem lX11_364 : Cond.methodLink RX11 364 yX0_isDraughty ∈ lw_tbl := tb_6 _ (List.mem_of_getElem? (i := 20) rfl)
theorem lX11_368 : Cond.methodLink RX11 368 yX11_sumOf ∈ lw_tbl := tb_6 _ (List.mem_of_getElem? (i := 21) rfl)
theorem lX11_372 : Cond.methodLink RX11 372 yX3_needsOfAll ∈ lw_tbl := tb_6 _ (List.mem_of_getElem? (i := 24) rfl)
theorem lL_12 : Cond.methodLink RL 12 yX12_init ∈ lw_tbl := tb_6 _ (List.mem_of_getElem? (i := 30) rfl)
theorem lX12_7 : Cond.methodLink RX12 7 objectInit ∈ lw_tbl := tb_6 _ (List.mem_of_getElem? (i := 33) rfl)
theorem lX12_170 : Cond.methodLink RX12 170 yX12_plain ∈ lw_tbl := tb_6 _ (List.mem_of_getElem? (i := 34) rfl)
theorem lX12_174 : Cond.methodLink RX12 174 yX12_word ∈ lw_tbl := tb_6 _ (List.mem_of_getElem? (i := 38) rfl)
theorem lX12_195 : Cond.methodLink RX12 195 yX12_appends ∈ lw_tbl := tb_6 _ (List.mem_of_getElem? (i := 41) rfl)
theorem lX12_178 : Cond.methodLink RX12 178 yX12_begins ∈ lw_tbl := tb_6 _ (List.mem_of_getElem? (i := 45) rfl)
theorem lX12_181 : Cond.methodLink RX12 181 yX12_keepsRow ∈ lw_tbl := tb_6 _ (List.mem_of_getElem? (i := 49) rfl)
theorem lL_17 : Cond.methodLink RL 17 yX12_feed ∈ lw_tbl := tb_7 _ (List.mem_of_getElem? (i := 30) rfl)
theorem lX12_187 : Cond.methodLink RX12 187 yX12_put ∈ lw_tbl := tb_7 _ (List.mem_of_getElem? (i := 34) rfl)
theorem lL_22 : Cond.methodLink RL 22 yX12_back ∈ lw_tbl := tb_7 _ (List.mem_of_getElem? (i := 38) rfl)
theorem lL_27 : Cond.methodLink RL 27 yX12_read ∈ lw_tbl := tb_7 _ (List.mem_of_getElem? (i := 42) rfl)
theorem lX12_245 : Cond.methodLink RX12 245 yX12_cutsUp ∈ lw_tbl := tb_7 _ (List.mem_of_getElem? (i := 46) rfl)
theorem lX12_202 : Cond.methodLink RX12 202 yX12_byteAt ∈ lw_tbl := tb_7 _ (List.mem_of_getElem? (i := 50) rfl)
theorem lX12_206 : Cond.methodLink RX12 206 yX12_token ∈ lw_tbl := tb_7 _ (List.mem_of_getElem? (i := 54) rfl)
theorem lX12_210 : Cond.methodLink RX12 210 yX12_isLetter ∈ lw_tbl := tb_7 _ (List.mem_of_getElem? (i := 58) rfl)
theorem lX12_214 : Cond.methodLink RX12 214 yX12_isDigit ∈ lw_tbl := tb_7 _ (List.mem_of_getElem? (i := 61) rfl)
theorem lX12_217 : Cond.methodLink RX12 217 yX12_sign ∈ lw_tbl := tb_7 _ (List.mem_of_getElem? (i := 64) rfl)
theorem lX12_239 : Cond.methodLink RX12 239 yX12_is ∈ lw_tbl := tb_7 _ (List.mem_of_getElem? (i := 68) rfl)
theorem lX12_266 : Cond.methodLink RX12 266 yX12_tellOne ∈ lw_tbl := tb_7 _ (List.mem_of_getElem? (i := 72) rfl)
theorem lX12_282 : Cond.methodLink RX12 282 yX12_roomFor ∈ lw_tbl := tb_7 _ (List.mem_of_getElem? (i := 76) rfl)
theorem lX12_236 : Cond.methodLink RX12 236 yX12_fail ∈ lw_tbl := tb_7 _ (List.mem_of_getElem? (i := 80) rfl)
theorem lX12_242 : Cond.methodLink RX12 242 yX12_goesOn ∈ lw_tbl := tb_7 _ (List.mem_of_getElem? (i := 84) rfl)
theorem lX12_286 : Cond.methodLink RX12 286 yX12_named ∈ lw_tbl := tb_7 _ (List.mem_of_getElem? (i := 88) rfl)
theorem lX12_279 : Cond.methodLink RX12 279 yX12_must ∈ lw_tbl := tb_7 _ (List.mem_of_getElem? (i := 92) rfl)
theorem lX12_308 : Cond.methodLink RX12 308 yX12_wrong ∈ lw_tbl := tb_7 _ (List.mem_of_getElem? (i := 96) rfl)
theorem lX12_290 : Cond.methodLink RX12 290 yX12_endsName ∈ lw_tbl := tb_7 _ (List.mem_of_getElem? (i := 100) rfl)
theorem lX12_293 : Cond.methodLink RX12 293 yX12_tellStreet ∈ lw_tbl := tb_7 _ (List.mem_of_getElem? (i := 104) rfl)
theorem lX12_299 : Cond.methodLink RX12 299 yX12_known ∈ lw_tbl := tb_7 _ (List.mem_of_getElem? (i := 108) rfl)
theorem lX12_275 : Cond.methodLink RX12 275 yX12_bounded ∈ lw_tbl := tb_7 _ (List.mem_of_getElem? (i := 112) rfl)
theorem lX12_296 : Cond.methodLink RX12 296 yX12_tellYoung ∈ lw_tbl := tb_7 _ (List.mem_of_getElem? (i := 116) rfl)
theorem lX12_302 : Cond.methodLink RX12 302 yX12_toldInt ∈ lw_tbl := tb_7 _ (List.mem_of_getElem? (i := 120) rfl)
theorem lX12_305 : Cond.methodLink RX12 305 yX12_tellLaw ∈ lw_tbl := tb_7 _ (List.mem_of_getElem? (i := 124) rfl)
theorem lX12_311 : Cond.methodLink RX12 311 yX12_expression ∈ lw_tbl := tb_7 _ (List.mem_of_getElem? (i := 128) rfl)
theorem lX12_323 : Cond.methodLink RX12 323 yX12_unit ∈ lw_tbl := tb_7 _ (List.mem_of_getElem? (i := 132) rfl)
theorem lX12_320 : Cond.methodLink RX12 320 yX12_emit ∈ lw_tbl := tb_7 _ (List.mem_of_getElem? (i := 136) rfl)
theorem lX12_326 : Cond.methodLink RX12 326 yX12_comesOut ∈ lw_tbl := tb_7 _ (List.mem_of_getElem? (i := 140) rfl)
theorem lX12_314 : Cond.methodLink RX12 314 yX12_term ∈ lw_tbl := tb_7 _ (List.mem_of_getElem? (i := 144) rfl)
theorem lL_31 : Cond.methodLink RL 31 yX12_place ∈ lw_tbl := tb_7 _ (List.mem_of_getElem? (i := 148) rfl)
theorem lL_36 : Cond.methodLink RL 36 yX12_corner ∈ lw_tbl := tb_7 _ (List.mem_of_getElem? (i := 152) rfl)
theorem lX12_392 : Cond.methodLink RX12 392 yX12_isCorner ∈ lw_tbl := tb_7 _ (List.mem_of_getElem? (i := 156) rfl)
theorem lX12_334 : Cond.methodLink RX12 334 yX12_in ∈ lw_tbl := tb_7 _ (List.mem_of_getElem? (i := 160) rfl)
theorem lX12_347 : Cond.methodLink RX12 347 yX12_copies ∈ lw_tbl := tb_7 _ (List.mem_of_getElem? (i := 163) rfl)
theorem lX12_389 : Cond.methodLink RX12 389 yX12_lightAt ∈ lw_tbl := tb_7 _ (List.mem_of_getElem? (i := 167) rfl)
theorem lX12_395 : Cond.methodLink RX12 395 yX12_outAt ∈ lw_tbl := tb_7 _ (List.mem_of_getElem? (i := 171) rfl)
theorem lX12_398 : Cond.methodLink RX12 398 yX12_streetsAt ∈ lw_tbl := tb_7 _ (List.mem_of_getElem? (i := 175) rfl)
theorem lX12_401 : Cond.methodLink RX12 401 yX12_isEnd ∈ lw_tbl := tb_7 _ (List.mem_of_getElem? (i := 179) rfl)
theorem lL_40 : Cond.methodLink RL 40 yX12_street ∈ lw_tbl := tb_7 _ (List.mem_of_getElem? (i := 183) rfl)
theorem lX12_405 : Cond.methodLink RX12 405 yX12_isStreet ∈ lw_tbl := tb_7 _ (List.mem_of_getElem? (i := 187) rfl)
theorem lX12_408 : Cond.methodLink RX12 408 yX12_needsOf ∈ lw_tbl := tb_7 _ (List.mem_of_getElem? (i := 191) rfl)
theorem lL_44 : Cond.methodLink RL 44 yX12_young ∈ lw_tbl := tb_7 _ (List.mem_of_getElem? (i := 195) rfl)
theorem lX12_338 : Cond.methodLink RX12 338 yX12_isYoung ∈ lw_tbl := tb_7 _ (List.mem_of_getElem? (i := 199) rfl)
theorem lX12_376 : Cond.methodLink RX12 376 yX12_coolsOf ∈ lw_tbl := tb_7 _ (List.mem_of_getElem? (i := 203) rfl)
theorem lX12_360 : Cond.methodLink RX12 360 yX12_looks ∈ lw_tbl := tb_7 _ (List.mem_of_getElem? (i := 207) rfl)
theorem lX12_364 : Cond.methodLink RX12 364 yX12_lawTells ∈ lw_tbl := tb_7 _ (List.mem_of_getElem? (i := 211) rfl)
theorem lX12_357 : Cond.methodLink RX12 357 yX12_termOf ∈ lw_tbl := tb_7 _ (List.mem_of_getElem? (i := 215) rfl)
theorem lX12_367 : Cond.methodLink RX12 367 yX12_within ∈ lw_tbl := tb_7 _ (List.mem_of_getElem? (i := 219) rfl)
theorem lX12_379 : Cond.methodLink RX12 379 yX12_doesLeave ∈ lw_tbl := tb_7 _ (List.mem_of_getElem? (i := 222) rfl)
theorem lL_48 : Cond.methodLink RL 48 yX12_word_ ∈ lw_tbl := tb_7 _ (List.mem_of_getElem? (i := 226) rfl)
theorem lX12_411 : Cond.methodLink RX12 411 yX12_isWord ∈ lw_tbl := tb_7 _ (List.mem_of_getElem? (i := 230) rfl)
theorem lL_53 : Cond.methodLink RL 53 yX12_tells ∈ lw_tbl := tb_7 _ (List.mem_of_getElem? (i := 234) rfl)
theorem lX12_370 : Cond.methodLink RX12 370 yX12_glowsOf ∈ lw_tbl := tb_7 _ (List.mem_of_getElem? (i := 238) rfl)
theorem lX12_373 : Cond.methodLink RX12 373 yX12_wearsOf ∈ lw_tbl := tb_8 _ (List.mem_of_getElem? (i := 2) rfl)
theorem lL_57 : Cond.methodLink RL 57 yX12_step ∈ lw_tbl := tb_8 _ (List.mem_of_getElem? (i := 6) rfl)
theorem lX12_414 : Cond.methodLink RX12 414 yX12_otherEnd ∈ lw_tbl := tb_8 _ (List.mem_of_getElem? (i := 10) rfl)
theorem lX12_386 : Cond.methodLink RX12 386 yX12_hourGoes ∈ lw_tbl := tb_8 _ (List.mem_of_getElem? (i := 14) rfl)
theorem lX12_382 : Cond.methodLink RX12 382 yX12_isDraught ∈ lw_tbl := tb_8 _ (List.mem_of_getElem? (i := 18) rfl)
theorem lX12_354 : Cond.methodLink RX12 354 yX12_lotOf ∈ lw_tbl := tb_8 _ (List.mem_of_getElem? (i := 22) rfl)
theorem lX12_351 : Cond.methodLink RX12 351 yX12_mixed ∈ lw_tbl := tb_8 _ (List.mem_of_getElem? (i := 26) rfl)
theorem lX12_417 : Cond.methodLink RX12 417 yX12_records ∈ lw_tbl := tb_8 _ (List.mem_of_getElem? (i := 30) rfl)
theorem lL_61 : Cond.methodLink RL 61 yX12_say ∈ lw_tbl := tb_8 _ (List.mem_of_getElem? (i := 34) rfl)
theorem lX12_420 : Cond.methodLink RX12 420 yX12_isOut ∈ lw_tbl := tb_8 _ (List.mem_of_getElem? (i := 38) rfl)
theorem lX12_423 : Cond.methodLink RX12 423 yX12_says ∈ lw_tbl := tb_8 _ (List.mem_of_getElem? (i := 42) rfl)
theorem lL_66 : Cond.methodLink RL 66 yX12_move ∈ lw_tbl := tb_8 _ (List.mem_of_getElem? (i := 46) rfl)
theorem lL_71 : Cond.methodLink RL 71 yX12_rouge ∈ lw_tbl := tb_8 _ (List.mem_of_getElem? (i := 50) rfl)
theorem lL_75 : Cond.methodLink RL 75 yX12_hours ∈ lw_tbl := tb_8 _ (List.mem_of_getElem? (i := 54) rfl)
theorem lX12_426 : Cond.methodLink RX12 426 yX12_goes ∈ lw_tbl := tb_8 _ (List.mem_of_getElem? (i := 58) rfl)
theorem lL_80 : Cond.methodLink RL 80 yX12_undo ∈ lw_tbl := tb_8 _ (List.mem_of_getElem? (i := 62) rfl)
theorem lL_84 : Cond.methodLink RL 84 yX12_darkens ∈ lw_tbl := tb_8 _ (List.mem_of_getElem? (i := 66) rfl)
theorem lX12_429 : Cond.methodLink RX12 429 yX12_copiesStill ∈ lw_tbl := tb_8 _ (List.mem_of_getElem? (i := 70) rfl)
theorem lL_88 : Cond.methodLink RL 88 yX12_best ∈ lw_tbl := tb_8 _ (List.mem_of_getElem? (i := 74) rfl)
theorem lX12_438 : Cond.methodLink RX12 438 yX12_fillsBest ∈ lw_tbl := tb_8 _ (List.mem_of_getElem? (i := 78) rfl)
theorem lX12_432 : Cond.methodLink RX12 432 yX12_litBits ∈ lw_tbl := tb_8 _ (List.mem_of_getElem? (i := 82) rfl)
theorem lX12_435 : Cond.methodLink RX12 435 yX12_bits ∈ lw_tbl := tb_8 _ (List.mem_of_getElem? (i := 86) rfl)
theorem lL_92 : Cond.methodLink RL 92 yX12_telling ∈ lw_tbl := tb_8 _ (List.mem_of_getElem? (i := 89) rfl)
theorem lX12_441 : Cond.methodLink RX12 441 yX12_glowBy ∈ lw_tbl := tb_8 _ (List.mem_of_getElem? (i := 93) rfl)
theorem lL_96 : Cond.methodLink RL 96 yX12_keep ∈ lw_tbl := tb_8 _ (List.mem_of_getElem? (i := 97) rfl)
theorem lX12_444 : Cond.methodLink RX12 444 yX12_firstOut ∈ lw_tbl := tb_8 _ (List.mem_of_getElem? (i := 101) rfl)
theorem lX12_447 : Cond.methodLink RX12 447 yX12_keepBy ∈ lw_tbl := tb_8 _ (List.mem_of_getElem? (i := 105) rfl)
theorem lL_136 : Cond.methodLink RL 136 yX12_twins ∈ lw_tbl := tb_8 _ (List.mem_of_getElem? (i := 109) rfl)
theorem lL_100 : Cond.methodLink RL 100 yX12_steps ∈ lw_tbl := tb_8 _ (List.mem_of_getElem? (i := 113) rfl)
theorem lX12_450 : Cond.methodLink RX12 450 yX12_fillsFar ∈ lw_tbl := tb_8 _ (List.mem_of_getElem? (i := 117) rfl)
theorem lX12_453 : Cond.methodLink RX12 453 yX12_farTo ∈ lw_tbl := tb_8 _ (List.mem_of_getElem? (i := 121) rfl)
theorem lL_112 : Cond.methodLink RL 112 yX12_dark ∈ lw_tbl := tb_8 _ (List.mem_of_getElem? (i := 125) rfl)
theorem lX12_456 : Cond.methodLink RX12 456 yX12_litNow ∈ lw_tbl := tb_8 _ (List.mem_of_getElem? (i := 129) rfl)
theorem lL_108 : Cond.methodLink RL 108 yX12_safe ∈ lw_tbl := tb_8 _ (List.mem_of_getElem? (i := 133) rfl)
theorem lX12_459 : Cond.methodLink RX12 459 yX12_fillsLit ∈ lw_tbl := tb_8 _ (List.mem_of_getElem? (i := 137) rfl)
theorem lL_116 : Cond.methodLink RL 116 yX12_bridges ∈ lw_tbl := tb_8 _ (List.mem_of_getElem? (i := 141) rfl)
theorem lL_128 : Cond.methodLink RL 128 yX12_cut ∈ lw_tbl := tb_8 _ (List.mem_of_getElem? (i := 145) rfl)
theorem lL_104 : Cond.methodLink RL 104 yX12_round ∈ lw_tbl := tb_8 _ (List.mem_of_getElem? (i := 149) rfl)
theorem lL_140 : Cond.methodLink RL 140 yX12_brightest ∈ lw_tbl := tb_8 _ (List.mem_of_getElem? (i := 153) rfl)
theorem lL_120 : Cond.methodLink RL 120 yX12_gather ∈ lw_tbl := tb_8 _ (List.mem_of_getElem? (i := 157) rfl)
theorem lL_124 : Cond.methodLink RL 124 yX12_moves ∈ lw_tbl := tb_8 _ (List.mem_of_getElem? (i := 161) rfl)
theorem lL_132 : Cond.methodLink RL 132 yX12_tree ∈ lw_tbl := tb_8 _ (List.mem_of_getElem? (i := 165) rfl)
theorem lL_144 : Cond.methodLink RL 144 yX12_glowIn ∈ lw_tbl := tb_8 _ (List.mem_of_getElem? (i := 169) rfl)
theorem lL_148 : Cond.methodLink RL 148 yX12_then ∈ lw_tbl := tb_8 _ (List.mem_of_getElem? (i := 173) rfl)
theorem lX12_462 : Cond.methodLink RX12 462 yX12_homeBits ∈ lw_tbl := tb_8 _ (List.mem_of_getElem? (i := 177) rfl)
theorem lL_152 : Cond.methodLink RL 152 yX12_year ∈ lw_tbl := tb_8 _ (List.mem_of_getElem? (i := 181) rfl)
theorem lL_157 : Cond.methodLink RL 157 yX12_tell ∈ lw_tbl := tb_8 _ (List.mem_of_getElem? (i := 185) rfl)
theorem lL_161 : Cond.methodLink RL 161 yX12_forget ∈ lw_tbl := tb_8 _ (List.mem_of_getElem? (i := 189) rfl)
theorem lL_165 : Cond.methodLink RL 165 yX12_words ∈ lw_tbl := tb_8 _ (List.mem_of_getElem? (i := 193) rfl)
theorem lX12_468 : Cond.methodLink RX12 468 yX12_wordBits ∈ lw_tbl := tb_8 _ (List.mem_of_getElem? (i := 197) rfl)
theorem lX12_465 : Cond.methodLink RX12 465 yX12_wouldGlow ∈ lw_tbl := tb_8 _ (List.mem_of_getElem? (i := 201) rfl)
theorem lL_169 : Cond.methodLink RL 169 yX12_look ∈ lw_tbl := tb_8 _ (List.mem_of_getElem? (i := 205) rfl)
theorem lL_173 : Cond.methodLink RL 173 yX12_hold ∈ lw_tbl := tb_8 _ (List.mem_of_getElem? (i := 209) rfl)
theorem lL_177 : Cond.methodLink RL 177 yX12_restore ∈ lw_tbl := tb_8 _ (List.mem_of_getElem? (i := 213) rfl)
theorem lL_181 : Cond.methodLink RL 181 yX12_count ∈ lw_tbl := tb_8 _ (List.mem_of_getElem? (i := 217) rfl)
theorem lX12_471 : Cond.methodLink RX12 471 yX12_sumNow ∈ lw_tbl := tb_8 _ (List.mem_of_getElem? (i := 221) rfl)
/-- a field as the tables have it: field k of class ci, linked by own at idx -/
def fOK (own : String) (idx ci k : Nat) (ty : FieldType) (fin : Bool) : Prop := ∃ (C : String) (T : u_T) (N : Nat), vwCl[ci]? = some (C, T, N) ∧ k < N ∧ Cond.fieldLink own idx (T k).1 (T k).2.1 (T k).2.2.1 ∈ lw_tbl ∧ (T k).2.2.2 = fin ∧ clTy ci k = ty ∧ (T k).1 = C
theorem fX9_11 : fOK RX9 11 9 0 (.array .int) true := ⟨_, _, _, rfl, by decide, tb_1 _ (List.mem_of_getElem? (i := 45) rfl), rfl, rfl, rfl⟩
theorem fX5_59 : fOK RX5 59 9 0 (.array .int) true := ⟨_, _, _, rfl, by decide, tb_1 _ (List.mem_of_getElem? (i := 46) rfl), rfl, rfl, rfl⟩
theorem fX10_31 : fOK RX10 31 9 0 (.array .int) true := ⟨_, _, _, rfl, by decide, tb_1 _ (List.mem_of_getElem? (i := 47) rfl), rfl, rfl, rfl⟩
theorem fX11_123 : fOK RX11 123 9 0 (.array .int) true := ⟨_, _, _, rfl, by decide, tb_1 _ (List.mem_of_getElem? (i := 48) rfl), rfl, rfl, rfl⟩
theorem fX3_88 : fOK RX3 88 9 0 (.array .int) true := ⟨_, _, _, rfl, by decide, tb_1 _ (List.mem_of_getElem? (i := 49) rfl), rfl, rfl, rfl⟩
theorem fX9_17 : fOK RX9 17 9 1 (.array .int) true := ⟨_, _, _, rfl, by decide, tb_1 _ (List.mem_of_getElem? (i := 50) rfl), rfl, rfl, rfl⟩
theorem fX5_66 : fOK RX5 66 9 1 (.array .int) true := ⟨_, _, _, rfl, by decide, tb_1 _ (List.mem_of_getElem? (i := 51) rfl), rfl, rfl, rfl⟩
theorem fX10_34 : fOK RX10 34 9 1 (.array .int) true := ⟨_, _, _, rfl, by decide, tb_1 _ (List.mem_of_getElem? (i := 52) rfl), rfl, rfl, rfl⟩
theorem fX11_127 : fOK RX11 127 9 1 (.array .int) true := ⟨_, _, _, rfl, by decide, tb_1 _ (List.mem_of_getElem? (i := 53) rfl), rfl, rfl, rfl⟩
theorem fX3_91 : fOK RX3 91 9 1 (.array .int) true := ⟨_, _, _, rfl, by decide, tb_1 _ (List.mem_of_getElem? (i := 54) rfl), rfl, rfl, rfl⟩
theorem fX9_20 : fOK RX9 20 9 2 (.array .int) true := ⟨_, _, _, rfl, by decide, tb_1 _ (List.mem_of_getElem? (i := 55) rfl), rfl, rfl, rfl⟩
theorem fX5_101 : fOK RX5 101 9 2 (.array .int) true := ⟨_, _, _, rfl, by decide, tb_1 _ (List.mem_of_getElem? (i := 56) rfl), rfl, rfl, rfl⟩
theorem fX11_130 : fOK RX11 130 9 2 (.array .int) true := ⟨_, _, _, rfl, by decide, tb_1 _ (List.mem_of_getElem? (i := 57) rfl), rfl, rfl, rfl⟩
theorem fX10_85 : fOK RX10 85 9 2 (.array .int) true := ⟨_, _, _, rfl, by decide, tb_1 _ (List.mem_of_getElem? (i := 58) rfl), rfl, rfl, rfl⟩
theorem fX3_85 : fOK RX3 85 9 2 (.array .int) true := ⟨_, _, _, rfl, by decide, tb_1 _ (List.mem_of_getElem? (i := 59) rfl), rfl, rfl, rfl⟩
theorem fX9_23 : fOK RX9 23 9 3 (.array .int) true := ⟨_, _, _, rfl, by decide, tb_1 _ (List.mem_of_getElem? (i := 60) rfl), rfl, rfl, rfl⟩
theorem fX11_142 : fOK RX11 142 9 3 (.array .int) true := ⟨_, _, _, rfl, by decide, tb_1 _ (List.mem_of_getElem? (i := 61) rfl), rfl, rfl, rfl⟩
theorem fX2_76 : fOK RX2 76 9 3 (.array .int) true := ⟨_, _, _, rfl, by decide, tb_1 _ (List.mem_of_getElem? (i := 62) rfl), rfl, rfl, rfl⟩
theorem fX9_26 : fOK RX9 26 9 4 (.array .int) true := ⟨_, _, _, rfl, by decide, tb_1 _ (List.mem_of_getElem? (i := 63) rfl), rfl, rfl, rfl⟩
theorem fX11_145 : fOK RX11 145 9 4 (.array .int) true := ⟨_, _, _, rfl, by decide, tb_1 _ (List.mem_of_getElem? (i := 64) rfl), rfl, rfl, rfl⟩
theorem fX2_79 : fOK RX2 79 9 4 (.array .int) true := ⟨_, _, _, rfl, by decide, tb_1 _ (List.mem_of_getElem? (i := 65) rfl), rfl, rfl, rfl⟩
theorem fX9_29 : fOK RX9 29 9 5 (.array .int) true := ⟨_, _, _, rfl, by decide, tb_1 _ (List.mem_of_getElem? (i := 66) rfl), rfl, rfl, rfl⟩
theorem fX3_56 : fOK RX3 56 9 5 (.array .int) true := ⟨_, _, _, rfl, by decide, tb_1 _ (List.mem_of_getElem? (i := 67) rfl), rfl, rfl, rfl⟩
theorem fX9_32 : fOK RX9 32 9 6 (.array .int) true := ⟨_, _, _, rfl, by decide, tb_1 _ (List.mem_of_getElem? (i := 68) rfl), rfl, rfl, rfl⟩
theorem fX3_65 : fOK RX3 65 9 6 (.array .int) true := ⟨_, _, _, rfl, by decide, tb_1 _ (List.mem_of_getElem? (i := 69) rfl), rfl, rfl, rfl⟩
theorem fX9_35 : fOK RX9 35 9 7 (.array .int) true := ⟨_, _, _, rfl, by decide, tb_1 _ (List.mem_of_getElem? (i := 70) rfl), rfl, rfl, rfl⟩
theorem fX6_142 : fOK RX6 142 9 7 (.array .int) true := ⟨_, _, _, rfl, by decide, tb_1 _ (List.mem_of_getElem? (i := 71) rfl), rfl, rfl, rfl⟩
theorem fX2_94 : fOK RX2 94 9 7 (.array .int) true := ⟨_, _, _, rfl, by decide, tb_1 _ (List.mem_of_getElem? (i := 72) rfl), rfl, rfl, rfl⟩
theorem fX9_38 : fOK RX9 38 9 8 (.array .int) true := ⟨_, _, _, rfl, by decide, tb_1 _ (List.mem_of_getElem? (i := 73) rfl), rfl, rfl, rfl⟩
theorem fX2_104 : fOK RX2 104 9 8 (.array .int) true := ⟨_, _, _, rfl, by decide, tb_1 _ (List.mem_of_getElem? (i := 74) rfl), rfl, rfl, rfl⟩
theorem fX9_66 : fOK RX9 66 9 9 .int false := ⟨_, _, _, rfl, by decide, tb_1 _ (List.mem_of_getElem? (i := 75) rfl), rfl, rfl, rfl⟩
theorem fX6_145 : fOK RX6 145 9 9 .int false := ⟨_, _, _, rfl, by decide, tb_1 _ (List.mem_of_getElem? (i := 76) rfl), rfl, rfl, rfl⟩
theorem fX2_101 : fOK RX2 101 9 9 .int false := ⟨_, _, _, rfl, by decide, tb_1 _ (List.mem_of_getElem? (i := 77) rfl), rfl, rfl, rfl⟩
theorem fX9_44 : fOK RX9 44 9 10 .int false := ⟨_, _, _, rfl, by decide, tb_1 _ (List.mem_of_getElem? (i := 78) rfl), rfl, rfl, rfl⟩
theorem fX10_22 : fOK RX10 22 9 10 .int false := ⟨_, _, _, rfl, by decide, tb_1 _ (List.mem_of_getElem? (i := 79) rfl), rfl, rfl, rfl⟩
theorem fX6_104 : fOK RX6 104 9 10 .int false := ⟨_, _, _, rfl, by decide, tb_1 _ (List.mem_of_getElem? (i := 80) rfl), rfl, rfl, rfl⟩
theorem fX5_92 : fOK RX5 92 9 10 .int false := ⟨_, _, _, rfl, by decide, tb_1 _ (List.mem_of_getElem? (i := 81) rfl), rfl, rfl, rfl⟩
theorem fX0_93 : fOK RX0 93 9 10 .int false := ⟨_, _, _, rfl, by decide, tb_1 _ (List.mem_of_getElem? (i := 82) rfl), rfl, rfl, rfl⟩
theorem fX3_78 : fOK RX3 78 9 10 .int false := ⟨_, _, _, rfl, by decide, tb_1 _ (List.mem_of_getElem? (i := 83) rfl), rfl, rfl, rfl⟩
theorem fX11_268 : fOK RX11 268 9 10 .int false := ⟨_, _, _, rfl, by decide, tb_1 _ (List.mem_of_getElem? (i := 84) rfl), rfl, rfl, rfl⟩
theorem fX9_48 : fOK RX9 48 9 11 .int false := ⟨_, _, _, rfl, by decide, tb_1 _ (List.mem_of_getElem? (i := 85) rfl), rfl, rfl, rfl⟩
theorem fX10_28 : fOK RX10 28 9 11 .int false := ⟨_, _, _, rfl, by decide, tb_1 _ (List.mem_of_getElem? (i := 86) rfl), rfl, rfl, rfl⟩
theorem fX6_114 : fOK RX6 114 9 11 .int false := ⟨_, _, _, rfl, by decide, tb_1 _ (List.mem_of_getElem? (i := 87) rfl), rfl, rfl, rfl⟩
theorem fX5_98 : fOK RX5 98 9 11 .int false := ⟨_, _, _, rfl, by decide, tb_1 _ (List.mem_of_getElem? (i := 88) rfl), rfl, rfl, rfl⟩
theorem fX3_103 : fOK RX3 103 9 11 .int false := ⟨_, _, _, rfl, by decide, tb_1 _ (List.mem_of_getElem? (i := 89) rfl), rfl, rfl, rfl⟩
theorem fX11_354 : fOK RX11 354 9 11 .int false := ⟨_, _, _, rfl, by decide, tb_1 _ (List.mem_of_getElem? (i := 90) rfl), rfl, rfl, rfl⟩
theorem fX9_51 : fOK RX9 51 9 12 .int false := ⟨_, _, _, rfl, by decide, tb_1 _ (List.mem_of_getElem? (i := 91) rfl), rfl, rfl, rfl⟩
theorem fX5_41 : fOK RX5 41 9 12 .int false := ⟨_, _, _, rfl, by decide, tb_1 _ (List.mem_of_getElem? (i := 92) rfl), rfl, rfl, rfl⟩
theorem fX1_40 : fOK RX1 40 9 12 .int false := ⟨_, _, _, rfl, by decide, tb_1 _ (List.mem_of_getElem? (i := 93) rfl), rfl, rfl, rfl⟩
theorem fX6_127 : fOK RX6 127 9 12 .int false := ⟨_, _, _, rfl, by decide, tb_1 _ (List.mem_of_getElem? (i := 94) rfl), rfl, rfl, rfl⟩
theorem fX0_61 : fOK RX0 61 9 12 .int false := ⟨_, _, _, rfl, by decide, tb_1 _ (List.mem_of_getElem? (i := 95) rfl), rfl, rfl, rfl⟩
theorem fX3_71 : fOK RX3 71 9 12 .int false := ⟨_, _, _, rfl, by decide, tb_1 _ (List.mem_of_getElem? (i := 96) rfl), rfl, rfl, rfl⟩
theorem fX10_61 : fOK RX10 61 9 12 .int false := ⟨_, _, _, rfl, by decide, tb_1 _ (List.mem_of_getElem? (i := 97) rfl), rfl, rfl, rfl⟩
theorem fX2_61 : fOK RX2 61 9 12 .int false := ⟨_, _, _, rfl, by decide, tb_1 _ (List.mem_of_getElem? (i := 98) rfl), rfl, rfl, rfl⟩
theorem fX11_357 : fOK RX11 357 9 12 .int false := ⟨_, _, _, rfl, by decide, tb_1 _ (List.mem_of_getElem? (i := 99) rfl), rfl, rfl, rfl⟩
theorem fX9_54 : fOK RX9 54 9 13 .int false := ⟨_, _, _, rfl, by decide, tb_1 _ (List.mem_of_getElem? (i := 100) rfl), rfl, rfl, rfl⟩
theorem fX3_68 : fOK RX3 68 9 13 .int false := ⟨_, _, _, rfl, by decide, tb_1 _ (List.mem_of_getElem? (i := 101) rfl), rfl, rfl, rfl⟩
theorem fX1_31 : fOK RX1 31 9 13 .int false := ⟨_, _, _, rfl, by decide, tb_1 _ (List.mem_of_getElem? (i := 102) rfl), rfl, rfl, rfl⟩
theorem fX6_133 : fOK RX6 133 9 13 .int false := ⟨_, _, _, rfl, by decide, tb_1 _ (List.mem_of_getElem? (i := 103) rfl), rfl, rfl, rfl⟩
theorem fX2_45 : fOK RX2 45 9 13 .int false := ⟨_, _, _, rfl, by decide, tb_1 _ (List.mem_of_getElem? (i := 104) rfl), rfl, rfl, rfl⟩
theorem fX11_251 : fOK RX11 251 9 13 .int false := ⟨_, _, _, rfl, by decide, tb_1 _ (List.mem_of_getElem? (i := 105) rfl), rfl, rfl, rfl⟩
theorem fX3_38 : fOK RX3 38 9 14 .int false := ⟨_, _, _, rfl, by decide, tb_1 _ (List.mem_of_getElem? (i := 106) rfl), rfl, rfl, rfl⟩
theorem fX9_57 : fOK RX9 57 9 14 .int false := ⟨_, _, _, rfl, by decide, tb_1 _ (List.mem_of_getElem? (i := 107) rfl), rfl, rfl, rfl⟩
theorem fX6_60 : fOK RX6 60 9 14 .int false := ⟨_, _, _, rfl, by decide, tb_1 _ (List.mem_of_getElem? (i := 108) rfl), rfl, rfl, rfl⟩
theorem fX0_31 : fOK RX0 31 9 15 .int false := ⟨_, _, _, rfl, by decide, tb_1 _ (List.mem_of_getElem? (i := 109) rfl), rfl, rfl, rfl⟩
theorem fX9_60 : fOK RX9 60 9 15 .int false := ⟨_, _, _, rfl, by decide, tb_1 _ (List.mem_of_getElem? (i := 110) rfl), rfl, rfl, rfl⟩
theorem fX6_69 : fOK RX6 69 9 15 .int false := ⟨_, _, _, rfl, by decide, tb_1 _ (List.mem_of_getElem? (i := 111) rfl), rfl, rfl, rfl⟩
theorem fX9_63 : fOK RX9 63 9 16 .int false := ⟨_, _, _, rfl, by decide, tb_1 _ (List.mem_of_getElem? (i := 112) rfl), rfl, rfl, rfl⟩
theorem fX6_72 : fOK RX6 72 9 16 .int false := ⟨_, _, _, rfl, by decide, tb_1 _ (List.mem_of_getElem? (i := 113) rfl), rfl, rfl, rfl⟩
theorem fX11_197 : fOK RX11 197 9 16 .int false := ⟨_, _, _, rfl, by decide, tb_1 _ (List.mem_of_getElem? (i := 114) rfl), rfl, rfl, rfl⟩
theorem fX7_11 : fOK RX7 11 7 0 (.array .byte) true := ⟨_, _, _, rfl, by decide, tb_1 _ (List.mem_of_getElem? (i := 157) rfl), rfl, rfl, rfl⟩
theorem fX11_88 : fOK RX11 88 7 1 .int false := ⟨_, _, _, rfl, by decide, tb_1 _ (List.mem_of_getElem? (i := 158) rfl), rfl, rfl, rfl⟩
theorem fX7_15 : fOK RX7 15 7 1 .int false := ⟨_, _, _, rfl, by decide, tb_1 _ (List.mem_of_getElem? (i := 159) rfl), rfl, rfl, rfl⟩
theorem fX8_73 : fOK RX8 73 7 1 .int false := ⟨_, _, _, rfl, by decide, tb_1 _ (List.mem_of_getElem? (i := 160) rfl), rfl, rfl, rfl⟩
theorem fX8_11 : fOK RX8 11 8 0 (.array .int) true := ⟨_, _, _, rfl, by decide, tb_1 _ (List.mem_of_getElem? (i := 233) rfl), rfl, rfl, rfl⟩
theorem fX6_167 : fOK RX6 167 8 0 (.array .int) true := ⟨_, _, _, rfl, by decide, tb_1 _ (List.mem_of_getElem? (i := 234) rfl), rfl, rfl, rfl⟩
theorem fX8_15 : fOK RX8 15 8 1 (.array .int) true := ⟨_, _, _, rfl, by decide, tb_1 _ (List.mem_of_getElem? (i := 235) rfl), rfl, rfl, rfl⟩
theorem fX6_117 : fOK RX6 117 8 1 (.array .int) true := ⟨_, _, _, rfl, by decide, tb_1 _ (List.mem_of_getElem? (i := 236) rfl), rfl, rfl, rfl⟩
theorem fX8_18 : fOK RX8 18 8 2 (.array .long) true := ⟨_, _, _, rfl, by decide, tb_1 _ (List.mem_of_getElem? (i := 237) rfl), rfl, rfl, rfl⟩
theorem fX6_164 : fOK RX6 164 8 2 (.array .long) true := ⟨_, _, _, rfl, by decide, tb_1 _ (List.mem_of_getElem? (i := 238) rfl), rfl, rfl, rfl⟩
theorem fX8_22 : fOK RX8 22 8 3 (.array .long) true := ⟨_, _, _, rfl, by decide, tb_1 _ (List.mem_of_getElem? (i := 239) rfl), rfl, rfl, rfl⟩
theorem fX6_88 : fOK RX6 88 6 0 .int false := ⟨_, _, _, rfl, by decide, tb_2 _ (List.mem_of_getElem? (i := 10) rfl), rfl, rfl, rfl⟩
theorem fX11_99 : fOK RX11 99 6 0 .int false := ⟨_, _, _, rfl, by decide, tb_2 _ (List.mem_of_getElem? (i := 11) rfl), rfl, rfl, rfl⟩
theorem fX6_12 : fOK RX6 12 6 1 (.object "BlushLamps$Tokens") true := ⟨_, _, _, rfl, by decide, tb_2 _ (List.mem_of_getElem? (i := 12) rfl), rfl, rfl, rfl⟩
theorem fX6_18 : fOK RX6 18 6 2 (.array .long) true := ⟨_, _, _, rfl, by decide, tb_2 _ (List.mem_of_getElem? (i := 13) rfl), rfl, rfl, rfl⟩
theorem fX6_22 : fOK RX6 22 6 3 (.array .int) true := ⟨_, _, _, rfl, by decide, tb_2 _ (List.mem_of_getElem? (i := 14) rfl), rfl, rfl, rfl⟩
theorem fX6_101 : fOK RX6 101 6 4 .int false := ⟨_, _, _, rfl, by decide, tb_2 _ (List.mem_of_getElem? (i := 15) rfl), rfl, rfl, rfl⟩
theorem fX6_26 : fOK RX6 26 6 5 (.object "BlushLamps$Town") false := ⟨_, _, _, rfl, by decide, tb_2 _ (List.mem_of_getElem? (i := 16) rfl), rfl, rfl, rfl⟩
theorem fX6_98 : fOK RX6 98 6 6 .int false := ⟨_, _, _, rfl, by decide, tb_2 _ (List.mem_of_getElem? (i := 17) rfl), rfl, rfl, rfl⟩
theorem fX6_34 : fOK RX6 34 6 7 .int false := ⟨_, _, _, rfl, by decide, tb_2 _ (List.mem_of_getElem? (i := 18) rfl), rfl, rfl, rfl⟩
theorem fX6_82 : fOK RX6 82 6 8 .int false := ⟨_, _, _, rfl, by decide, tb_2 _ (List.mem_of_getElem? (i := 19) rfl), rfl, rfl, rfl⟩
theorem fX6_85 : fOK RX6 85 6 9 .int false := ⟨_, _, _, rfl, by decide, tb_2 _ (List.mem_of_getElem? (i := 20) rfl), rfl, rfl, rfl⟩
theorem fX2_11 : fOK RX2 11 2 0 (.array .int) true := ⟨_, _, _, rfl, by decide, tb_2 _ (List.mem_of_getElem? (i := 48) rfl), rfl, rfl, rfl⟩
theorem fX2_15 : fOK RX2 15 2 1 (.array .int) true := ⟨_, _, _, rfl, by decide, tb_2 _ (List.mem_of_getElem? (i := 49) rfl), rfl, rfl, rfl⟩
theorem fX3_30 : fOK RX3 30 3 0 (.object "BlushLamps$Town") false := ⟨_, _, _, rfl, by decide, tb_2 _ (List.mem_of_getElem? (i := 69) rfl), rfl, rfl, rfl⟩
theorem fX5_35 : fOK RX5 35 3 0 (.object "BlushLamps$Town") false := ⟨_, _, _, rfl, by decide, tb_2 _ (List.mem_of_getElem? (i := 70) rfl), rfl, rfl, rfl⟩
theorem fX1_25 : fOK RX1 25 3 0 (.object "BlushLamps$Town") false := ⟨_, _, _, rfl, by decide, tb_2 _ (List.mem_of_getElem? (i := 71) rfl), rfl, rfl, rfl⟩
theorem fX0_57 : fOK RX0 57 3 0 (.object "BlushLamps$Town") false := ⟨_, _, _, rfl, by decide, tb_2 _ (List.mem_of_getElem? (i := 72) rfl), rfl, rfl, rfl⟩
theorem fX10_51 : fOK RX10 51 3 0 (.object "BlushLamps$Town") false := ⟨_, _, _, rfl, by decide, tb_2 _ (List.mem_of_getElem? (i := 73) rfl), rfl, rfl, rfl⟩
theorem fX2_41 : fOK RX2 41 3 0 (.object "BlushLamps$Town") false := ⟨_, _, _, rfl, by decide, tb_2 _ (List.mem_of_getElem? (i := 74) rfl), rfl, rfl, rfl⟩
theorem fX3_34 : fOK RX3 34 3 1 .int false := ⟨_, _, _, rfl, by decide, tb_2 _ (List.mem_of_getElem? (i := 75) rfl), rfl, rfl, rfl⟩
theorem fX0_90 : fOK RX0 90 3 1 .int false := ⟨_, _, _, rfl, by decide, tb_2 _ (List.mem_of_getElem? (i := 76) rfl), rfl, rfl, rfl⟩
theorem fX4_44 : fOK RX4 44 3 1 .int false := ⟨_, _, _, rfl, by decide, tb_2 _ (List.mem_of_getElem? (i := 77) rfl), rfl, rfl, rfl⟩
theorem fX2_88 : fOK RX2 88 3 1 .int false := ⟨_, _, _, rfl, by decide, tb_2 _ (List.mem_of_getElem? (i := 78) rfl), rfl, rfl, rfl⟩
theorem fX11_218 : fOK RX11 218 3 1 .int false := ⟨_, _, _, rfl, by decide, tb_2 _ (List.mem_of_getElem? (i := 79) rfl), rfl, rfl, rfl⟩
theorem fX3_43 : fOK RX3 43 3 2 .int false := ⟨_, _, _, rfl, by decide, tb_2 _ (List.mem_of_getElem? (i := 80) rfl), rfl, rfl, rfl⟩
theorem fX11_114 : fOK RX11 114 3 2 .int false := ⟨_, _, _, rfl, by decide, tb_2 _ (List.mem_of_getElem? (i := 81) rfl), rfl, rfl, rfl⟩
theorem fX4_47 : fOK RX4 47 3 2 .int false := ⟨_, _, _, rfl, by decide, tb_2 _ (List.mem_of_getElem? (i := 82) rfl), rfl, rfl, rfl⟩
theorem fX3_44 : fOK RX3 44 3 3 .int false := ⟨_, _, _, rfl, by decide, tb_2 _ (List.mem_of_getElem? (i := 83) rfl), rfl, rfl, rfl⟩
theorem fX5_77 : fOK RX5 77 3 3 .int false := ⟨_, _, _, rfl, by decide, tb_2 _ (List.mem_of_getElem? (i := 84) rfl), rfl, rfl, rfl⟩
theorem fX0_87 : fOK RX0 87 3 3 .int false := ⟨_, _, _, rfl, by decide, tb_2 _ (List.mem_of_getElem? (i := 85) rfl), rfl, rfl, rfl⟩
theorem fX4_50 : fOK RX4 50 3 3 .int false := ⟨_, _, _, rfl, by decide, tb_2 _ (List.mem_of_getElem? (i := 86) rfl), rfl, rfl, rfl⟩
theorem fX11_323 : fOK RX11 323 3 3 .int false := ⟨_, _, _, rfl, by decide, tb_2 _ (List.mem_of_getElem? (i := 87) rfl), rfl, rfl, rfl⟩
theorem fX3_47 : fOK RX3 47 3 4 .int false := ⟨_, _, _, rfl, by decide, tb_2 _ (List.mem_of_getElem? (i := 88) rfl), rfl, rfl, rfl⟩
theorem fX4_53 : fOK RX4 53 3 4 .int false := ⟨_, _, _, rfl, by decide, tb_2 _ (List.mem_of_getElem? (i := 89) rfl), rfl, rfl, rfl⟩
theorem fX11_163 : fOK RX11 163 3 4 .int false := ⟨_, _, _, rfl, by decide, tb_2 _ (List.mem_of_getElem? (i := 90) rfl), rfl, rfl, rfl⟩
theorem fX3_9 : fOK RX3 9 3 5 (.array .int) true := ⟨_, _, _, rfl, by decide, tb_2 _ (List.mem_of_getElem? (i := 91) rfl), rfl, rfl, rfl⟩
theorem fX0_84 : fOK RX0 84 3 5 (.array .int) true := ⟨_, _, _, rfl, by decide, tb_2 _ (List.mem_of_getElem? (i := 92) rfl), rfl, rfl, rfl⟩
theorem fX10_68 : fOK RX10 68 3 5 (.array .int) true := ⟨_, _, _, rfl, by decide, tb_2 _ (List.mem_of_getElem? (i := 93) rfl), rfl, rfl, rfl⟩
theorem fX4_56 : fOK RX4 56 3 5 (.array .int) true := ⟨_, _, _, rfl, by decide, tb_2 _ (List.mem_of_getElem? (i := 94) rfl), rfl, rfl, rfl⟩
theorem fX11_148 : fOK RX11 148 3 5 (.array .int) true := ⟨_, _, _, rfl, by decide, tb_2 _ (List.mem_of_getElem? (i := 95) rfl), rfl, rfl, rfl⟩
theorem fX3_15 : fOK RX3 15 3 6 (.array .int) true := ⟨_, _, _, rfl, by decide, tb_2 _ (List.mem_of_getElem? (i := 96) rfl), rfl, rfl, rfl⟩
theorem fX5_46 : fOK RX5 46 3 6 (.array .int) true := ⟨_, _, _, rfl, by decide, tb_2 _ (List.mem_of_getElem? (i := 97) rfl), rfl, rfl, rfl⟩
theorem fX2_32 : fOK RX2 32 3 6 (.array .int) true := ⟨_, _, _, rfl, by decide, tb_2 _ (List.mem_of_getElem? (i := 98) rfl), rfl, rfl, rfl⟩
theorem fX0_71 : fOK RX0 71 3 6 (.array .int) true := ⟨_, _, _, rfl, by decide, tb_2 _ (List.mem_of_getElem? (i := 99) rfl), rfl, rfl, rfl⟩
theorem fX4_65 : fOK RX4 65 3 6 (.array .int) true := ⟨_, _, _, rfl, by decide, tb_2 _ (List.mem_of_getElem? (i := 100) rfl), rfl, rfl, rfl⟩
theorem fX11_151 : fOK RX11 151 3 6 (.array .int) true := ⟨_, _, _, rfl, by decide, tb_2 _ (List.mem_of_getElem? (i := 101) rfl), rfl, rfl, rfl⟩
theorem fX3_18 : fOK RX3 18 3 7 (.array .int) true := ⟨_, _, _, rfl, by decide, tb_2 _ (List.mem_of_getElem? (i := 102) rfl), rfl, rfl, rfl⟩
theorem fX4_68 : fOK RX4 68 3 7 (.array .int) true := ⟨_, _, _, rfl, by decide, tb_2 _ (List.mem_of_getElem? (i := 103) rfl), rfl, rfl, rfl⟩
theorem fX11_157 : fOK RX11 157 3 7 (.array .int) true := ⟨_, _, _, rfl, by decide, tb_2 _ (List.mem_of_getElem? (i := 104) rfl), rfl, rfl, rfl⟩
theorem fX2_91 : fOK RX2 91 3 7 (.array .int) true := ⟨_, _, _, rfl, by decide, tb_2 _ (List.mem_of_getElem? (i := 105) rfl), rfl, rfl, rfl⟩
theorem fX3_21 : fOK RX3 21 3 8 (.array .int) true := ⟨_, _, _, rfl, by decide, tb_2 _ (List.mem_of_getElem? (i := 106) rfl), rfl, rfl, rfl⟩
theorem fX4_71 : fOK RX4 71 3 8 (.array .int) true := ⟨_, _, _, rfl, by decide, tb_2 _ (List.mem_of_getElem? (i := 107) rfl), rfl, rfl, rfl⟩
theorem fX11_215 : fOK RX11 215 3 8 (.array .int) true := ⟨_, _, _, rfl, by decide, tb_2 _ (List.mem_of_getElem? (i := 108) rfl), rfl, rfl, rfl⟩
theorem fX3_24 : fOK RX3 24 3 9 (.array .int) true := ⟨_, _, _, rfl, by decide, tb_2 _ (List.mem_of_getElem? (i := 109) rfl), rfl, rfl, rfl⟩
theorem fX4_74 : fOK RX4 74 3 9 (.array .int) true := ⟨_, _, _, rfl, by decide, tb_2 _ (List.mem_of_getElem? (i := 110) rfl), rfl, rfl, rfl⟩
theorem fX2_55 : fOK RX2 55 3 9 (.array .int) true := ⟨_, _, _, rfl, by decide, tb_2 _ (List.mem_of_getElem? (i := 111) rfl), rfl, rfl, rfl⟩
theorem fX11_177 : fOK RX11 177 3 9 (.array .int) true := ⟨_, _, _, rfl, by decide, tb_2 _ (List.mem_of_getElem? (i := 112) rfl), rfl, rfl, rfl⟩
theorem fX3_27 : fOK RX3 27 3 10 (.array .int) true := ⟨_, _, _, rfl, by decide, tb_2 _ (List.mem_of_getElem? (i := 113) rfl), rfl, rfl, rfl⟩
theorem fX4_77 : fOK RX4 77 3 10 (.array .int) true := ⟨_, _, _, rfl, by decide, tb_2 _ (List.mem_of_getElem? (i := 114) rfl), rfl, rfl, rfl⟩
theorem fX11_180 : fOK RX11 180 3 10 (.array .int) true := ⟨_, _, _, rfl, by decide, tb_2 _ (List.mem_of_getElem? (i := 115) rfl), rfl, rfl, rfl⟩
theorem fX2_82 : fOK RX2 82 3 10 (.array .int) true := ⟨_, _, _, rfl, by decide, tb_2 _ (List.mem_of_getElem? (i := 116) rfl), rfl, rfl, rfl⟩
theorem fX0_12 : fOK RX0 12 0 0 (.object "BlushLamps$Laws") true := ⟨_, _, _, rfl, by decide, tb_2 _ (List.mem_of_getElem? (i := 140) rfl), rfl, rfl, rfl⟩
theorem fX0_23 : fOK RX0 23 0 1 (.object "BlushLamps$Night") true := ⟨_, _, _, rfl, by decide, tb_2 _ (List.mem_of_getElem? (i := 141) rfl), rfl, rfl, rfl⟩
theorem fX10_9 : fOK RX10 9 10 0 (.array .int) true := ⟨_, _, _, rfl, by decide, tb_2 _ (List.mem_of_getElem? (i := 153) rfl), rfl, rfl, rfl⟩
theorem fX10_15 : fOK RX10 15 10 1 (.array .int) true := ⟨_, _, _, rfl, by decide, tb_2 _ (List.mem_of_getElem? (i := 154) rfl), rfl, rfl, rfl⟩
theorem fX5_9 : fOK RX5 9 5 0 (.array .int) true := ⟨_, _, _, rfl, by decide, tb_2 _ (List.mem_of_getElem? (i := 166) rfl), rfl, rfl, rfl⟩
theorem fX11_245 : fOK RX11 245 5 0 (.array .int) true := ⟨_, _, _, rfl, by decide, tb_2 _ (List.mem_of_getElem? (i := 167) rfl), rfl, rfl, rfl⟩
theorem fX5_28 : fOK RX5 28 5 1 .int false := ⟨_, _, _, rfl, by decide, tb_2 _ (List.mem_of_getElem? (i := 168) rfl), rfl, rfl, rfl⟩
theorem fX11_242 : fOK RX11 242 5 1 .int false := ⟨_, _, _, rfl, by decide, tb_2 _ (List.mem_of_getElem? (i := 169) rfl), rfl, rfl, rfl⟩
theorem fX5_15 : fOK RX5 15 5 2 .boolean false := ⟨_, _, _, rfl, by decide, tb_2 _ (List.mem_of_getElem? (i := 170) rfl), rfl, rfl, rfl⟩
theorem fX11_227 : fOK RX11 227 5 2 .boolean false := ⟨_, _, _, rfl, by decide, tb_2 _ (List.mem_of_getElem? (i := 171) rfl), rfl, rfl, rfl⟩
theorem fX5_19 : fOK RX5 19 5 3 (.array .int) true := ⟨_, _, _, rfl, by decide, tb_2 _ (List.mem_of_getElem? (i := 172) rfl), rfl, rfl, rfl⟩
theorem fX5_22 : fOK RX5 22 5 4 (.array .int) true := ⟨_, _, _, rfl, by decide, tb_2 _ (List.mem_of_getElem? (i := 173) rfl), rfl, rfl, rfl⟩
theorem fX5_25 : fOK RX5 25 5 5 (.array .int) true := ⟨_, _, _, rfl, by decide, tb_2 _ (List.mem_of_getElem? (i := 174) rfl), rfl, rfl, rfl⟩
theorem fX5_32 : fOK RX5 32 5 6 .int false := ⟨_, _, _, rfl, by decide, tb_2 _ (List.mem_of_getElem? (i := 175) rfl), rfl, rfl, rfl⟩
theorem fX1_21 : fOK RX1 21 1 0 .int false := ⟨_, _, _, rfl, by decide, tb_2 _ (List.mem_of_getElem? (i := 197) rfl), rfl, rfl, rfl⟩
theorem fX11_329 : fOK RX11 329 1 0 .int false := ⟨_, _, _, rfl, by decide, tb_2 _ (List.mem_of_getElem? (i := 198) rfl), rfl, rfl, rfl⟩
theorem fX1_11 : fOK RX1 11 1 1 (.array .int) true := ⟨_, _, _, rfl, by decide, tb_2 _ (List.mem_of_getElem? (i := 199) rfl), rfl, rfl, rfl⟩
theorem fX1_15 : fOK RX1 15 1 2 (.array .int) true := ⟨_, _, _, rfl, by decide, tb_2 _ (List.mem_of_getElem? (i := 200) rfl), rfl, rfl, rfl⟩
theorem fX1_18 : fOK RX1 18 1 3 (.array .int) true := ⟨_, _, _, rfl, by decide, tb_2 _ (List.mem_of_getElem? (i := 201) rfl), rfl, rfl, rfl⟩
theorem fX4_20 : fOK RX4 20 4 0 .int false := ⟨_, _, _, rfl, by decide, tb_2 _ (List.mem_of_getElem? (i := 217) rfl), rfl, rfl, rfl⟩
theorem fX11_360 : fOK RX11 360 4 0 .int false := ⟨_, _, _, rfl, by decide, tb_2 _ (List.mem_of_getElem? (i := 218) rfl), rfl, rfl, rfl⟩
theorem fX4_24 : fOK RX4 24 4 1 .int false := ⟨_, _, _, rfl, by decide, tb_2 _ (List.mem_of_getElem? (i := 219) rfl), rfl, rfl, rfl⟩
theorem fX11_361 : fOK RX11 361 4 1 .int false := ⟨_, _, _, rfl, by decide, tb_2 _ (List.mem_of_getElem? (i := 220) rfl), rfl, rfl, rfl⟩
theorem fX4_13 : fOK RX4 13 4 2 (.array .int) true := ⟨_, _, _, rfl, by decide, tb_2 _ (List.mem_of_getElem? (i := 221) rfl), rfl, rfl, rfl⟩
theorem fX4_17 : fOK RX4 17 4 3 (.array .int) true := ⟨_, _, _, rfl, by decide, tb_2 _ (List.mem_of_getElem? (i := 222) rfl), rfl, rfl, rfl⟩
theorem fX4_27 : fOK RX4 27 4 4 .int false := ⟨_, _, _, rfl, by decide, tb_2 _ (List.mem_of_getElem? (i := 223) rfl), rfl, rfl, rfl⟩
theorem fX11_13 : fOK RX11 13 11 0 (.object "BlushLamps$Tape") true := ⟨_, _, _, rfl, by decide, tb_2 _ (List.mem_of_getElem? (i := 237) rfl), rfl, rfl, rfl⟩
theorem fX11_24 : fOK RX11 24 11 1 (.object "BlushLamps$Reader") true := ⟨_, _, _, rfl, by decide, tb_2 _ (List.mem_of_getElem? (i := 238) rfl), rfl, rfl, rfl⟩
theorem fX11_31 : fOK RX11 31 11 2 (.object "BlushLamps$Laws") true := ⟨_, _, _, rfl, by decide, tb_2 _ (List.mem_of_getElem? (i := 239) rfl), rfl, rfl, rfl⟩
theorem fX11_38 : fOK RX11 38 11 3 (.object "BlushLamps$Course") true := ⟨_, _, _, rfl, by decide, tb_3 _ (List.mem_of_getElem? (i := 0) rfl), rfl, rfl, rfl⟩
theorem fX11_45 : fOK RX11 45 11 4 (.object "BlushLamps$Ways") true := ⟨_, _, _, rfl, by decide, tb_3 _ (List.mem_of_getElem? (i := 1) rfl), rfl, rfl, rfl⟩
theorem fX11_52 : fOK RX11 52 11 5 (.object "BlushLamps$Posts") true := ⟨_, _, _, rfl, by decide, tb_3 _ (List.mem_of_getElem? (i := 2) rfl), rfl, rfl, rfl⟩
theorem fX11_59 : fOK RX11 59 11 6 (.object "BlushLamps$Known") true := ⟨_, _, _, rfl, by decide, tb_3 _ (List.mem_of_getElem? (i := 3) rfl), rfl, rfl, rfl⟩
theorem fX11_66 : fOK RX11 66 11 7 (.object "BlushLamps$Past") true := ⟨_, _, _, rfl, by decide, tb_3 _ (List.mem_of_getElem? (i := 4) rfl), rfl, rfl, rfl⟩
theorem fX11_73 : fOK RX11 73 11 8 (.object "BlushLamps$Night") true := ⟨_, _, _, rfl, by decide, tb_3 _ (List.mem_of_getElem? (i := 5) rfl), rfl, rfl, rfl⟩
theorem fX11_77 : fOK RX11 77 11 9 (.object "BlushLamps$Town") false := ⟨_, _, _, rfl, by decide, tb_3 _ (List.mem_of_getElem? (i := 6) rfl), rfl, rfl, rfl⟩
theorem fX11_81 : fOK RX11 81 11 10 (.object "BlushLamps$Town") false := ⟨_, _, _, rfl, by decide, tb_3 _ (List.mem_of_getElem? (i := 7) rfl), rfl, rfl, rfl⟩
theorem fX11_84 : fOK RX11 84 11 11 .int false := ⟨_, _, _, rfl, by decide, tb_3 _ (List.mem_of_getElem? (i := 8) rfl), rfl, rfl, rfl⟩
theorem fX12_13 : fOK RX12 13 12 1 (.array .byte) true := ⟨_, _, _, rfl, by decide, tb_6 _ (List.mem_of_getElem? (i := 53) rfl), rfl, rfl, rfl⟩
theorem fX12_184 : fOK RX12 184 12 2 .int false := ⟨_, _, _, rfl, by decide, tb_6 _ (List.mem_of_getElem? (i := 54) rfl), rfl, rfl, rfl⟩
theorem fX12_17 : fOK RX12 17 12 3 (.array .byte) true := ⟨_, _, _, rfl, by decide, tb_6 _ (List.mem_of_getElem? (i := 55) rfl), rfl, rfl, rfl⟩
theorem fX12_190 : fOK RX12 190 12 4 .int false := ⟨_, _, _, rfl, by decide, tb_6 _ (List.mem_of_getElem? (i := 56) rfl), rfl, rfl, rfl⟩
theorem fX12_20 : fOK RX12 20 12 5 (.array .int) true := ⟨_, _, _, rfl, by decide, tb_6 _ (List.mem_of_getElem? (i := 57) rfl), rfl, rfl, rfl⟩
theorem fX12_24 : fOK RX12 24 12 6 (.array .int) true := ⟨_, _, _, rfl, by decide, tb_6 _ (List.mem_of_getElem? (i := 58) rfl), rfl, rfl, rfl⟩
theorem fX12_27 : fOK RX12 27 12 7 (.array .int) true := ⟨_, _, _, rfl, by decide, tb_6 _ (List.mem_of_getElem? (i := 59) rfl), rfl, rfl, rfl⟩
theorem fX12_30 : fOK RX12 30 12 8 (.array .long) true := ⟨_, _, _, rfl, by decide, tb_6 _ (List.mem_of_getElem? (i := 60) rfl), rfl, rfl, rfl⟩
theorem fX12_34 : fOK RX12 34 12 9 (.array .long) true := ⟨_, _, _, rfl, by decide, tb_6 _ (List.mem_of_getElem? (i := 61) rfl), rfl, rfl, rfl⟩
theorem fX12_199 : fOK RX12 199 12 10 .int false := ⟨_, _, _, rfl, by decide, tb_6 _ (List.mem_of_getElem? (i := 62) rfl), rfl, rfl, rfl⟩
theorem fX12_224 : fOK RX12 224 12 11 .int false := ⟨_, _, _, rfl, by decide, tb_6 _ (List.mem_of_getElem? (i := 63) rfl), rfl, rfl, rfl⟩
theorem fX12_248 : fOK RX12 248 12 12 .int false := ⟨_, _, _, rfl, by decide, tb_6 _ (List.mem_of_getElem? (i := 64) rfl), rfl, rfl, rfl⟩
theorem fX12_221 : fOK RX12 221 12 13 .int false := ⟨_, _, _, rfl, by decide, tb_6 _ (List.mem_of_getElem? (i := 65) rfl), rfl, rfl, rfl⟩
theorem fX12_227 : fOK RX12 227 12 14 .int false := ⟨_, _, _, rfl, by decide, tb_6 _ (List.mem_of_getElem? (i := 66) rfl), rfl, rfl, rfl⟩
theorem fX12_230 : fOK RX12 230 12 15 .int false := ⟨_, _, _, rfl, by decide, tb_6 _ (List.mem_of_getElem? (i := 67) rfl), rfl, rfl, rfl⟩
theorem fX12_233 : fOK RX12 233 12 16 .int false := ⟨_, _, _, rfl, by decide, tb_6 _ (List.mem_of_getElem? (i := 68) rfl), rfl, rfl, rfl⟩
theorem fX12_37 : fOK RX12 37 12 17 .int false := ⟨_, _, _, rfl, by decide, tb_6 _ (List.mem_of_getElem? (i := 69) rfl), rfl, rfl, rfl⟩
theorem fX12_251 : fOK RX12 251 12 18 .int false := ⟨_, _, _, rfl, by decide, tb_6 _ (List.mem_of_getElem? (i := 70) rfl), rfl, rfl, rfl⟩
theorem fX12_254 : fOK RX12 254 12 19 .int false := ⟨_, _, _, rfl, by decide, tb_6 _ (List.mem_of_getElem? (i := 71) rfl), rfl, rfl, rfl⟩
theorem fX12_257 : fOK RX12 257 12 20 .int false := ⟨_, _, _, rfl, by decide, tb_6 _ (List.mem_of_getElem? (i := 72) rfl), rfl, rfl, rfl⟩
theorem fX12_40 : fOK RX12 40 12 21 (.array .long) true := ⟨_, _, _, rfl, by decide, tb_6 _ (List.mem_of_getElem? (i := 73) rfl), rfl, rfl, rfl⟩
theorem fX12_43 : fOK RX12 43 12 22 (.array .int) true := ⟨_, _, _, rfl, by decide, tb_6 _ (List.mem_of_getElem? (i := 74) rfl), rfl, rfl, rfl⟩
theorem fX12_46 : fOK RX12 46 12 23 (.array .int) true := ⟨_, _, _, rfl, by decide, tb_6 _ (List.mem_of_getElem? (i := 75) rfl), rfl, rfl, rfl⟩
theorem fX12_49 : fOK RX12 49 12 24 (.array .int) true := ⟨_, _, _, rfl, by decide, tb_6 _ (List.mem_of_getElem? (i := 76) rfl), rfl, rfl, rfl⟩
theorem fX12_52 : fOK RX12 52 12 25 (.array .int) true := ⟨_, _, _, rfl, by decide, tb_6 _ (List.mem_of_getElem? (i := 77) rfl), rfl, rfl, rfl⟩
theorem fX12_55 : fOK RX12 55 12 26 (.array .int) true := ⟨_, _, _, rfl, by decide, tb_6 _ (List.mem_of_getElem? (i := 78) rfl), rfl, rfl, rfl⟩
theorem fX12_58 : fOK RX12 58 12 27 (.array .int) true := ⟨_, _, _, rfl, by decide, tb_6 _ (List.mem_of_getElem? (i := 79) rfl), rfl, rfl, rfl⟩
theorem fX12_61 : fOK RX12 61 12 28 (.array .int) true := ⟨_, _, _, rfl, by decide, tb_6 _ (List.mem_of_getElem? (i := 80) rfl), rfl, rfl, rfl⟩
theorem fX12_64 : fOK RX12 64 12 29 (.array .int) true := ⟨_, _, _, rfl, by decide, tb_6 _ (List.mem_of_getElem? (i := 81) rfl), rfl, rfl, rfl⟩
theorem fX12_67 : fOK RX12 67 12 30 (.array .int) true := ⟨_, _, _, rfl, by decide, tb_6 _ (List.mem_of_getElem? (i := 82) rfl), rfl, rfl, rfl⟩
theorem fX12_70 : fOK RX12 70 12 31 (.array .int) true := ⟨_, _, _, rfl, by decide, tb_6 _ (List.mem_of_getElem? (i := 83) rfl), rfl, rfl, rfl⟩
theorem fX12_73 : fOK RX12 73 12 32 (.array .int) true := ⟨_, _, _, rfl, by decide, tb_6 _ (List.mem_of_getElem? (i := 84) rfl), rfl, rfl, rfl⟩
theorem fX12_76 : fOK RX12 76 12 33 (.array .int) true := ⟨_, _, _, rfl, by decide, tb_6 _ (List.mem_of_getElem? (i := 85) rfl), rfl, rfl, rfl⟩
theorem fX12_79 : fOK RX12 79 12 34 (.array .int) true := ⟨_, _, _, rfl, by decide, tb_6 _ (List.mem_of_getElem? (i := 86) rfl), rfl, rfl, rfl⟩
theorem fX12_82 : fOK RX12 82 12 35 (.array .int) true := ⟨_, _, _, rfl, by decide, tb_6 _ (List.mem_of_getElem? (i := 87) rfl), rfl, rfl, rfl⟩
theorem fX12_85 : fOK RX12 85 12 36 (.array .int) true := ⟨_, _, _, rfl, by decide, tb_6 _ (List.mem_of_getElem? (i := 88) rfl), rfl, rfl, rfl⟩
theorem fX12_88 : fOK RX12 88 12 37 (.array .int) true := ⟨_, _, _, rfl, by decide, tb_6 _ (List.mem_of_getElem? (i := 89) rfl), rfl, rfl, rfl⟩
theorem fX12_91 : fOK RX12 91 12 38 (.array .int) true := ⟨_, _, _, rfl, by decide, tb_6 _ (List.mem_of_getElem? (i := 90) rfl), rfl, rfl, rfl⟩
theorem fX12_260 : fOK RX12 260 12 39 .int false := ⟨_, _, _, rfl, by decide, tb_6 _ (List.mem_of_getElem? (i := 91) rfl), rfl, rfl, rfl⟩
theorem fX12_94 : fOK RX12 94 12 40 (.array .boolean) true := ⟨_, _, _, rfl, by decide, tb_6 _ (List.mem_of_getElem? (i := 92) rfl), rfl, rfl, rfl⟩
theorem fX12_98 : fOK RX12 98 12 41 (.array .int) true := ⟨_, _, _, rfl, by decide, tb_6 _ (List.mem_of_getElem? (i := 93) rfl), rfl, rfl, rfl⟩
theorem fX12_101 : fOK RX12 101 12 42 (.array .int) true := ⟨_, _, _, rfl, by decide, tb_6 _ (List.mem_of_getElem? (i := 94) rfl), rfl, rfl, rfl⟩
theorem fX12_104 : fOK RX12 104 12 43 (.array .int) true := ⟨_, _, _, rfl, by decide, tb_6 _ (List.mem_of_getElem? (i := 95) rfl), rfl, rfl, rfl⟩
theorem fX12_107 : fOK RX12 107 12 44 (.array .int) true := ⟨_, _, _, rfl, by decide, tb_6 _ (List.mem_of_getElem? (i := 96) rfl), rfl, rfl, rfl⟩
theorem fX12_263 : fOK RX12 263 12 45 .int false := ⟨_, _, _, rfl, by decide, tb_6 _ (List.mem_of_getElem? (i := 97) rfl), rfl, rfl, rfl⟩
theorem fX12_110 : fOK RX12 110 12 46 (.array .int) true := ⟨_, _, _, rfl, by decide, tb_6 _ (List.mem_of_getElem? (i := 98) rfl), rfl, rfl, rfl⟩
theorem fX12_113 : fOK RX12 113 12 47 (.array .int) true := ⟨_, _, _, rfl, by decide, tb_6 _ (List.mem_of_getElem? (i := 99) rfl), rfl, rfl, rfl⟩
theorem fX12_116 : fOK RX12 116 12 48 (.array .int) true := ⟨_, _, _, rfl, by decide, tb_6 _ (List.mem_of_getElem? (i := 100) rfl), rfl, rfl, rfl⟩
theorem fX12_317 : fOK RX12 317 12 49 .int false := ⟨_, _, _, rfl, by decide, tb_6 _ (List.mem_of_getElem? (i := 101) rfl), rfl, rfl, rfl⟩
theorem fX12_119 : fOK RX12 119 12 50 (.array .int) true := ⟨_, _, _, rfl, by decide, tb_6 _ (List.mem_of_getElem? (i := 102) rfl), rfl, rfl, rfl⟩
theorem fX12_122 : fOK RX12 122 12 51 (.array .int) true := ⟨_, _, _, rfl, by decide, tb_6 _ (List.mem_of_getElem? (i := 103) rfl), rfl, rfl, rfl⟩
theorem fX12_330 : fOK RX12 330 12 52 .boolean false := ⟨_, _, _, rfl, by decide, tb_6 _ (List.mem_of_getElem? (i := 104) rfl), rfl, rfl, rfl⟩
theorem fX12_125 : fOK RX12 125 12 53 (.array .int) true := ⟨_, _, _, rfl, by decide, tb_6 _ (List.mem_of_getElem? (i := 105) rfl), rfl, rfl, rfl⟩
theorem fX12_128 : fOK RX12 128 12 54 (.array .int) true := ⟨_, _, _, rfl, by decide, tb_6 _ (List.mem_of_getElem? (i := 106) rfl), rfl, rfl, rfl⟩
theorem fX12_341 : fOK RX12 341 12 55 .int false := ⟨_, _, _, rfl, by decide, tb_6 _ (List.mem_of_getElem? (i := 107) rfl), rfl, rfl, rfl⟩
theorem fX12_344 : fOK RX12 344 12 56 .boolean false := ⟨_, _, _, rfl, by decide, tb_6 _ (List.mem_of_getElem? (i := 108) rfl), rfl, rfl, rfl⟩
theorem fX12_131 : fOK RX12 131 12 57 (.array .int) true := ⟨_, _, _, rfl, by decide, tb_6 _ (List.mem_of_getElem? (i := 109) rfl), rfl, rfl, rfl⟩
theorem fX12_134 : fOK RX12 134 12 58 (.array .boolean) true := ⟨_, _, _, rfl, by decide, tb_6 _ (List.mem_of_getElem? (i := 110) rfl), rfl, rfl, rfl⟩
theorem fX12_137 : fOK RX12 137 12 59 (.array .int) true := ⟨_, _, _, rfl, by decide, tb_6 _ (List.mem_of_getElem? (i := 111) rfl), rfl, rfl, rfl⟩
theorem fX12_269 : fOK RX12 269 12 60 .int false := ⟨_, _, _, rfl, by decide, tb_6 _ (List.mem_of_getElem? (i := 112) rfl), rfl, rfl, rfl⟩
theorem fX12_140 : fOK RX12 140 12 61 (.array .int) true := ⟨_, _, _, rfl, by decide, tb_6 _ (List.mem_of_getElem? (i := 113) rfl), rfl, rfl, rfl⟩
theorem fX12_143 : fOK RX12 143 12 62 (.array .int) true := ⟨_, _, _, rfl, by decide, tb_6 _ (List.mem_of_getElem? (i := 114) rfl), rfl, rfl, rfl⟩
theorem fX12_146 : fOK RX12 146 12 63 (.array .int) true := ⟨_, _, _, rfl, by decide, tb_6 _ (List.mem_of_getElem? (i := 115) rfl), rfl, rfl, rfl⟩
theorem fX12_149 : fOK RX12 149 12 64 (.array .int) true := ⟨_, _, _, rfl, by decide, tb_6 _ (List.mem_of_getElem? (i := 116) rfl), rfl, rfl, rfl⟩
theorem fX12_152 : fOK RX12 152 12 65 (.array .int) true := ⟨_, _, _, rfl, by decide, tb_6 _ (List.mem_of_getElem? (i := 117) rfl), rfl, rfl, rfl⟩
theorem fX12_272 : fOK RX12 272 12 66 .int false := ⟨_, _, _, rfl, by decide, tb_6 _ (List.mem_of_getElem? (i := 118) rfl), rfl, rfl, rfl⟩
theorem fX12_155 : fOK RX12 155 12 67 (.array .int) true := ⟨_, _, _, rfl, by decide, tb_6 _ (List.mem_of_getElem? (i := 119) rfl), rfl, rfl, rfl⟩
theorem fX12_158 : fOK RX12 158 12 68 (.array .int) true := ⟨_, _, _, rfl, by decide, tb_6 _ (List.mem_of_getElem? (i := 120) rfl), rfl, rfl, rfl⟩
theorem fX12_161 : fOK RX12 161 12 69 (.array .boolean) true := ⟨_, _, _, rfl, by decide, tb_6 _ (List.mem_of_getElem? (i := 121) rfl), rfl, rfl, rfl⟩
theorem fX12_164 : fOK RX12 164 12 70 (.array .boolean) true := ⟨_, _, _, rfl, by decide, tb_6 _ (List.mem_of_getElem? (i := 122) rfl), rfl, rfl, rfl⟩
theorem fX12_167 : fOK RX12 167 12 71 (.array .int) true := ⟨_, _, _, rfl, by decide, tb_6 _ (List.mem_of_getElem? (i := 123) rfl), rfl, rfl, rfl⟩
theorem zL : Cond.initialized RL ∈ lw_tbl := tb_1 _ (List.mem_of_getElem? (i := 0) rfl)
theorem zX11 : Cond.initialized RX11 ∈ lw_tbl := tb_1 _ (List.mem_of_getElem? (i := 1) rfl)
theorem zX9 : Cond.initialized RX9 ∈ lw_tbl := tb_1 _ (List.mem_of_getElem? (i := 2) rfl)
theorem zX7 : Cond.initialized RX7 ∈ lw_tbl := tb_1 _ (List.mem_of_getElem? (i := 3) rfl)
theorem zX6 : Cond.initialized RX6 ∈ lw_tbl := tb_1 _ (List.mem_of_getElem? (i := 4) rfl)
theorem zX8 : Cond.initialized RX8 ∈ lw_tbl := tb_1 _ (List.mem_of_getElem? (i := 5) rfl)
theorem zJ0 : Cond.initialized RJ0 ∈ lw_tbl := tb_1 _ (List.mem_of_getElem? (i := 6) rfl)
theorem zJ1 : Cond.initialized RJ1 ∈ lw_tbl := tb_1 _ (List.mem_of_getElem? (i := 7) rfl)
theorem zJ3 : Cond.initialized RJ3 ∈ lw_tbl := tb_1 _ (List.mem_of_getElem? (i := 8) rfl)
theorem zJ2 : Cond.initialized RJ2 ∈ lw_tbl := tb_1 _ (List.mem_of_getElem? (i := 9) rfl)
theorem zX2 : Cond.initialized RX2 ∈ lw_tbl := tb_1 _ (List.mem_of_getElem? (i := 10) rfl)
theorem zX0 : Cond.initialized RX0 ∈ lw_tbl := tb_1 _ (List.mem_of_getElem? (i := 11) rfl)
theorem zX3 : Cond.initialized RX3 ∈ lw_tbl := tb_1 _ (List.mem_of_getElem? (i := 12) rfl)
theorem zX10 : Cond.initialized RX10 ∈ lw_tbl := tb_1 _ (List.mem_of_getElem? (i := 13) rfl)
theorem zX5 : Cond.initialized RX5 ∈ lw_tbl := tb_1 _ (List.mem_of_getElem? (i := 14) rfl)
theorem zX1 : Cond.initialized RX1 ∈ lw_tbl := tb_1 _ (List.mem_of_getElem? (i := 15) rfl)
theorem zX4 : Cond.initialized RX4 ∈ lw_tbl := tb_1 _ (List.mem_of_getElem? (i := 16) rfl)
theorem zX12 : Cond.initialized RX12 ∈ lw_tbl := tb_1 _ (List.mem_of_getElem? (i := 17) rfl)
theorem zJ9 : Cond.initialized RJ9 ∈ lw_tbl := tb_1 _ (List.mem_of_getElem? (i := 18) rfl)
theorem zJ11 : Cond.initialized RJ11 ∈ lw_tbl := tb_1 _ (List.mem_of_getElem? (i := 19) rfl)
theorem zJ7 : Cond.initialized RJ7 ∈ lw_tbl := tb_1 _ (List.mem_of_getElem? (i := 20) rfl)
theorem zJ10 : Cond.initialized RJ10 ∈ lw_tbl := tb_1 _ (List.mem_of_getElem? (i := 21) rfl)
theorem zJ6 : Cond.initialized RJ6 ∈ lw_tbl := tb_1 _ (List.mem_of_getElem? (i := 22) rfl)
theorem aL_7 : Cond.classLink RL 7 RX11 ∈ lw_tbl := tb_1 _ (List.mem_of_getElem? (i := 23) rfl)
theorem iX11 : Cond.instantiable RX11 12 ∈ lw_tbl := tb_1 _ (List.mem_of_getElem? (i := 24) rfl)
theorem aX11_7 : Cond.classLink RX11 7 RX9 ∈ lw_tbl := tb_1 _ (List.mem_of_getElem? (i := 31) rfl)
theorem iX9 : Cond.instantiable RX9 17 ∈ lw_tbl := tb_1 _ (List.mem_of_getElem? (i := 32) rfl)
theorem ac_int : Cond.arrayClass .int ∈ lw_tbl := tb_1 _ (List.mem_of_getElem? (i := 150) rfl)
theorem aX11_10 : Cond.classLink RX11 10 RX7 ∈ lw_tbl := tb_1 _ (List.mem_of_getElem? (i := 151) rfl)
theorem iX7 : Cond.instantiable RX7 2 ∈ lw_tbl := tb_1 _ (List.mem_of_getElem? (i := 152) rfl)
theorem ac_byte : Cond.arrayClass .byte ∈ lw_tbl := tb_1 _ (List.mem_of_getElem? (i := 166) rfl)
theorem aX11_19 : Cond.classLink RX11 19 RX6 ∈ lw_tbl := tb_1 _ (List.mem_of_getElem? (i := 167) rfl)
theorem iX6 : Cond.instantiable RX6 10 ∈ lw_tbl := tb_1 _ (List.mem_of_getElem? (i := 168) rfl)
theorem aX6_9 : Cond.classLink RX6 9 RX8 ∈ lw_tbl := tb_1 _ (List.mem_of_getElem? (i := 173) rfl)
theorem iX8 : Cond.instantiable RX8 4 ∈ lw_tbl := tb_1 _ (List.mem_of_getElem? (i := 174) rfl)
theorem qX8_87 : Cond.constantLong RX8 87 (27) ∈ lw_tbl := tb_1 _ (List.mem_of_getElem? (i := 231) rfl)
theorem qX8_89 : Cond.constantLong RX8 89 (97) ∈ lw_tbl := tb_1 _ (List.mem_of_getElem? (i := 232) rfl)
theorem ac_long : Cond.arrayClass .long ∈ lw_tbl := tb_2 _ (List.mem_of_getElem? (i := 9) rfl)
theorem aX11_28 : Cond.classLink RX11 28 RX2 ∈ lw_tbl := tb_2 _ (List.mem_of_getElem? (i := 42) rfl)
theorem iX2 : Cond.instantiable RX2 2 ∈ lw_tbl := tb_2 _ (List.mem_of_getElem? (i := 43) rfl)
theorem aX11_35 : Cond.classLink RX11 35 RX0 ∈ lw_tbl := tb_2 _ (List.mem_of_getElem? (i := 55) rfl)
theorem iX0 : Cond.instantiable RX0 2 ∈ lw_tbl := tb_2 _ (List.mem_of_getElem? (i := 56) rfl)
theorem aX0_9 : Cond.classLink RX0 9 RX2 ∈ lw_tbl := tb_2 _ (List.mem_of_getElem? (i := 61) rfl)
theorem aX0_18 : Cond.classLink RX0 18 RX3 ∈ lw_tbl := tb_2 _ (List.mem_of_getElem? (i := 63) rfl)
theorem iX3 : Cond.instantiable RX3 11 ∈ lw_tbl := tb_2 _ (List.mem_of_getElem? (i := 64) rfl)
theorem aX11_42 : Cond.classLink RX11 42 RX10 ∈ lw_tbl := tb_2 _ (List.mem_of_getElem? (i := 147) rfl)
theorem iX10 : Cond.instantiable RX10 2 ∈ lw_tbl := tb_2 _ (List.mem_of_getElem? (i := 148) rfl)
theorem aX11_49 : Cond.classLink RX11 49 RX5 ∈ lw_tbl := tb_2 _ (List.mem_of_getElem? (i := 160) rfl)
theorem iX5 : Cond.instantiable RX5 7 ∈ lw_tbl := tb_2 _ (List.mem_of_getElem? (i := 161) rfl)
theorem aX11_56 : Cond.classLink RX11 56 RX1 ∈ lw_tbl := tb_2 _ (List.mem_of_getElem? (i := 191) rfl)
theorem iX1 : Cond.instantiable RX1 4 ∈ lw_tbl := tb_2 _ (List.mem_of_getElem? (i := 192) rfl)
theorem aX11_63 : Cond.classLink RX11 63 RX4 ∈ lw_tbl := tb_2 _ (List.mem_of_getElem? (i := 211) rfl)
theorem iX4 : Cond.instantiable RX4 5 ∈ lw_tbl := tb_2 _ (List.mem_of_getElem? (i := 212) rfl)
theorem aX11_70 : Cond.classLink RX11 70 RX3 ∈ lw_tbl := tb_2 _ (List.mem_of_getElem? (i := 235) rfl)
theorem qX8_80 : Cond.constantLong RX8 80 (10) ∈ lw_tbl := tb_3 _ (List.mem_of_getElem? (i := 94) rfl)
theorem qX8_82 : Cond.constantLong RX8 82 (48) ∈ lw_tbl := tb_3 _ (List.mem_of_getElem? (i := 95) rfl)
theorem qJ2_227 : Cond.constant RJ2 227 (65536) ∈ lw_tbl := tb_3 _ (List.mem_of_getElem? (i := 126) rfl)
theorem qJ11_110 : Cond.constant RJ11 110 (55232) ∈ lw_tbl := tb_3 _ (List.mem_of_getElem? (i := 151) rfl)
theorem qJ11_76 : Cond.constant RJ11 76 (56320) ∈ lw_tbl := tb_3 _ (List.mem_of_getElem? (i := 155) rfl)
theorem qX9_75 : Cond.constant RX9 75 (32768) ∈ lw_tbl := tb_4 _ (List.mem_of_getElem? (i := 5) rfl)
theorem qX0_103 : Cond.constant RX0 103 (1103515245) ∈ lw_tbl := tb_4 _ (List.mem_of_getElem? (i := 163) rfl)
theorem qJ6_265 : Cond.constant RJ6 265 (1431655765) ∈ lw_tbl := tb_5 _ (List.mem_of_getElem? (i := 122) rfl)
theorem qJ6_266 : Cond.constant RJ6 266 (858993459) ∈ lw_tbl := tb_5 _ (List.mem_of_getElem? (i := 123) rfl)
theorem qJ6_267 : Cond.constant RJ6 267 (252645135) ∈ lw_tbl := tb_5 _ (List.mem_of_getElem? (i := 124) rfl)
theorem aL_10 : Cond.classLink RL 10 RX12 ∈ lw_tbl := tb_6 _ (List.mem_of_getElem? (i := 28) rfl)
theorem iX12 : Cond.instantiable RX12 72 ∈ lw_tbl := tb_6 _ (List.mem_of_getElem? (i := 29) rfl)
theorem qX12_193 : Cond.constantLong RX12 193 (27) ∈ lw_tbl := tb_6 _ (List.mem_of_getElem? (i := 44) rfl)
theorem ac_boolean : Cond.arrayClass .boolean ∈ lw_tbl := tb_7 _ (List.mem_of_getElem? (i := 29) rfl)
theorem qX12_350 : Cond.constant RX12 350 (1103515245) ∈ lw_tbl := tb_8 _ (List.mem_of_getElem? (i := 29) rfl)
theorem w_oi : Cond.instanceMethod objectInit ∈ lw_tbl := tb_1 _ (List.mem_of_getElem? (i := 29) rfl)
theorem w_oc : Cond.code objectInit ⟨#[0xb1]⟩ 1 none ∈ lw_tbl := tb_1 _ (List.mem_of_getElem? (i := 30) rfl)
theorem w_cn : Cond.native arraycopyName ∈ lw_tbl := tb_4 _ (List.mem_of_getElem? (i := 19) rfl)
theorem w_cs : Cond.static arraycopyName ∈ lw_tbl := tb_4 _ (List.mem_of_getElem? (i := 18) rfl)
