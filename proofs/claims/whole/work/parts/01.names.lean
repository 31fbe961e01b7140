section
def RX0 : String := "VectorShelf$Company"
def TX0 : u_T := fun k => match k with
  | _ => ("VectorShelf$Company", "covered", "[I", true)
def tyX0 : Nat → FieldType := fun k => match k with
  | _ => .array .int
abbrev wsX00 : List Cond := u_ws RX0 TX0 1
theorem nmX0 : ∀ a, a < 1 → ∀ b, b < 1 → a ≠ b → (TX0 a).2.1 ≠ (TX0 b).2.1 := by decide +kernel
theorem tyX0_ok : ∀ k, k < 1 → parseFieldDescriptor (TX0 k).2.2.1 = some (tyX0 k) := by decide +kernel
def RX1 : String := "VectorShelf$Judge"
def TX1 : u_T := fun k => match k with
  | 0 => ("VectorShelf$Judge", "stack", "[I", true)
  | 1 => ("VectorShelf$Judge", "top", "I", false)
  | 2 => ("VectorShelf$Judge", "passing", "I", false)
  | _ => ("VectorShelf$Judge", "pushes", "[I", true)
def tyX1 : Nat → FieldType := fun k => match k with
  | 0 => .array .int
  | 1 => .int
  | 2 => .int
  | _ => .array .int
abbrev wsX10 : List Cond := u_ws RX1 TX1 4
theorem nmX1 : ∀ a, a < 4 → ∀ b, b < 4 → a ≠ b → (TX1 a).2.1 ≠ (TX1 b).2.1 := by decide +kernel
theorem tyX1_ok : ∀ k, k < 4 → parseFieldDescriptor (TX1 k).2.2.1 = some (tyX1 k) := by decide +kernel
def RX2 : String := "VectorShelf$Measure"
def TX2 : u_T := fun k => match k with
  | 0 => ("VectorShelf$Measure", "kind", "I", false)
  | 1 => ("VectorShelf$Measure", "slack", "I", false)
  | 2 => ("VectorShelf$Measure", "cap", "I", false)
  | _ => ("VectorShelf$Measure", "weights", "[I", true)
def tyX2 : Nat → FieldType := fun k => match k with
  | 0 => .int
  | 1 => .int
  | 2 => .int
  | _ => .array .int
abbrev wsX20 : List Cond := u_ws RX2 TX2 4
theorem nmX2 : ∀ a, a < 4 → ∀ b, b < 4 → a ≠ b → (TX2 a).2.1 ≠ (TX2 b).2.1 := by decide +kernel
theorem tyX2_ok : ∀ k, k < 4 → parseFieldDescriptor (TX2 k).2.2.1 = some (tyX2 k) := by decide +kernel
def RX3 : String := "VectorShelf$Reading"
def TX3 : u_T := fun k => match k with
  | 0 => ("VectorShelf$Reading", "lows", "[F", true)
  | 1 => ("VectorShelf$Reading", "held", "[I", true)
  | 2 => ("VectorShelf$Reading", "fars", "[I", true)
  | 3 => ("VectorShelf$Reading", "size", "I", false)
  | 4 => ("VectorShelf$Reading", "read", "I", false)
  | 5 => ("VectorShelf$Reading", "skipped", "I", false)
  | _ => ("VectorShelf$Reading", "opened", "I", false)
def tyX3 : Nat → FieldType := fun k => match k with
  | 0 => .array .float
  | 1 => .array .int
  | 2 => .array .int
  | 3 => .int
  | 4 => .int
  | 5 => .int
  | _ => .int
abbrev wsX30 : List Cond := u_ws RX3 TX3 7
theorem nmX3 : ∀ a, a < 7 → ∀ b, b < 7 → a ≠ b → (TX3 a).2.1 ≠ (TX3 b).2.1 := by decide +kernel
theorem tyX3_ok : ∀ k, k < 7 → parseFieldDescriptor (TX3 k).2.2.1 = some (tyX3 k) := by decide +kernel
def RX4 : String := "VectorShelf$Sheet"
def TX4 : u_T := fun k => match k with
  | 0 => ("VectorShelf$Sheet", "sort", "I", false)
  | 1 => ("VectorShelf$Sheet", "size", "I", false)
  | 2 => ("VectorShelf$Sheet", "floats", "[F", true)
  | 3 => ("VectorShelf$Sheet", "bytes", "[B", true)
  | _ => ("VectorShelf$Sheet", "shorts", "[S", true)
def tyX4 : Nat → FieldType := fun k => match k with
  | 0 => .int
  | 1 => .int
  | 2 => .array .float
  | 3 => .array .byte
  | _ => .array .short
abbrev wsX40 : List Cond := u_ws RX4 TX4 5
theorem nmX4 : ∀ a, a < 5 → ∀ b, b < 5 → a ≠ b → (TX4 a).2.1 ≠ (TX4 b).2.1 := by decide +kernel
theorem tyX4_ok : ∀ k, k < 5 → parseFieldDescriptor (TX4 k).2.2.1 = some (tyX4 k) := by decide +kernel
def RX5 : String := "VectorShelf$Shelf"
def TX5 : u_T := fun k => match k with
  | 0 => ("VectorShelf$Shelf", "measure", "LVectorShelf$Measure;", true)
  | 1 => ("VectorShelf$Shelf", "step", "I", false)
  | 2 => ("VectorShelf$Shelf", "rule", "I", false)
  | 3 => ("VectorShelf$Shelf", "query", "[I", true)
  | 4 => ("VectorShelf$Shelf", "cells", "I", false)
  | 5 => ("VectorShelf$Shelf", "centres", "[I", true)
  | 6 => ("VectorShelf$Shelf", "least", "[I", true)
  | 7 => ("VectorShelf$Shelf", "greatest", "[I", true)
  | 8 => ("VectorShelf$Shelf", "vectors", "I", false)
  | 9 => ("VectorShelf$Shelf", "places", "[I", true)
  | 10 => ("VectorShelf$Shelf", "tags", "[I", true)
  | 11 => ("VectorShelf$Shelf", "cellOf", "[I", true)
  | _ => ("VectorShelf$Shelf", "there", "I", false)
def tyX5 : Nat → FieldType := fun k => match k with
  | 0 => .object "VectorShelf$Measure"
  | 1 => .int
  | 2 => .int
  | 3 => .array .int
  | 4 => .int
  | 5 => .array .int
  | 6 => .array .int
  | 7 => .array .int
  | 8 => .int
  | 9 => .array .int
  | 10 => .array .int
  | 11 => .array .int
  | _ => .int
abbrev wsX50 : List Cond := u_ws RX5 TX5 13
theorem nmX5 : ∀ a, a < 13 → ∀ b, b < 13 → a ≠ b → (TX5 a).2.1 ≠ (TX5 b).2.1 := by decide +kernel
theorem tyX5_ok : ∀ k, k < 13 → parseFieldDescriptor (TX5 k).2.2.1 = some (tyX5 k) := by decide +kernel
def RX6 : String := "VectorShelf$Text"
def TX6 : u_T := fun k => match k with
  | 0 => ("VectorShelf$Text", "steps", "[I", true)
  | 1 => ("VectorShelf$Text", "size", "I", false)
  | _ => ("VectorShelf$Text", "fitsSize", "I", false)
def tyX6 : Nat → FieldType := fun k => match k with
  | 0 => .array .int
  | 1 => .int
  | _ => .int
abbrev wsX60 : List Cond := u_ws RX6 TX6 3
theorem nmX6 : ∀ a, a < 3 → ∀ b, b < 3 → a ≠ b → (TX6 a).2.1 ≠ (TX6 b).2.1 := by decide +kernel
theorem tyX6_ok : ∀ k, k < 3 → parseFieldDescriptor (TX6 k).2.2.1 = some (tyX6 k) := by decide +kernel
def RX7 : String := "VectorShelf$TextReader"
def TX7 : u_T := fun k => match k with
  | 0 => ("VectorShelf$TextReader", "tape", "[I", true)
  | 1 => ("VectorShelf$TextReader", "size", "I", false)
  | 2 => ("VectorShelf$TextReader", "start", "I", false)
  | 3 => ("VectorShelf$TextReader", "next", "I", false)
  | 4 => ("VectorShelf$TextReader", "token", "I", false)
  | 5 => ("VectorShelf$TextReader", "value", "I", false)
  | 6 => ("VectorShelf$TextReader", "fault", "I", false)
  | _ => ("VectorShelf$TextReader", "target", "LVectorShelf$Text;", false)
def tyX7 : Nat → FieldType := fun k => match k with
  | 0 => .array .int
  | 1 => .int
  | 2 => .int
  | 3 => .int
  | 4 => .int
  | 5 => .int
  | 6 => .int
  | _ => .object "VectorShelf$Text"
abbrev wsX70 : List Cond := u_ws RX7 TX7 8
theorem nmX7 : ∀ a, a < 8 → ∀ b, b < 8 → a ≠ b → (TX7 a).2.1 ≠ (TX7 b).2.1 := by decide +kernel
theorem tyX7_ok : ∀ k, k < 8 → parseFieldDescriptor (TX7 k).2.2.1 = some (tyX7 k) := by decide +kernel
def RX8 : String := "VectorShelf"
def TX8 : u_T := fun k => match k with
  | 0 => ("VectorShelf", "shelf", "LVectorShelf$Shelf;", true)
  | 1 => ("VectorShelf", "kept", "LVectorShelf$Shelf;", true)
  | 2 => ("VectorShelf", "thought", "LVectorShelf$Shelf;", true)
  | 3 => ("VectorShelf", "texts", "[LVectorShelf$Text;", true)
  | 4 => ("VectorShelf", "reader", "LVectorShelf$TextReader;", true)
  | 5 => ("VectorShelf", "judge", "LVectorShelf$Judge;", true)
  | 6 => ("VectorShelf", "reading", "LVectorShelf$Reading;", true)
  | 7 => ("VectorShelf", "company", "LVectorShelf$Company;", true)
  | 8 => ("VectorShelf", "sheets", "[LVectorShelf$Sheet;", true)
  | 9 => ("VectorShelf", "textCount", "I", false)
  | _ => ("VectorShelf", "hasImage", "Z", false)
def tyX8 : Nat → FieldType := fun k => match k with
  | 0 => .object "VectorShelf$Shelf"
  | 1 => .object "VectorShelf$Shelf"
  | 2 => .object "VectorShelf$Shelf"
  | 3 => .array (.object "VectorShelf$Text")
  | 4 => .object "VectorShelf$TextReader"
  | 5 => .object "VectorShelf$Judge"
  | 6 => .object "VectorShelf$Reading"
  | 7 => .object "VectorShelf$Company"
  | 8 => .array (.object "VectorShelf$Sheet")
  | 9 => .int
  | _ => .boolean
abbrev wsX80 : List Cond := u_ws RX8 TX8 11
theorem nmX8 : ∀ a, a < 11 → ∀ b, b < 11 → a ≠ b → (TX8 a).2.1 ≠ (TX8 b).2.1 := by decide +kernel
theorem tyX8_ok : ∀ k, k < 11 → parseFieldDescriptor (TX8 k).2.2.1 = some (tyX8 k) := by decide +kernel
def RX9 : String := "VectorShelfModel"
def TX9 : u_T := fun k => match k with
  | 0 => ("VectorShelfModel", "thrown", "I", false)
  | 1 => ("VectorShelfModel", "texts", "[I", true)
  | 2 => ("VectorShelfModel", "textSize", "[I", true)
  | 3 => ("VectorShelfModel", "textCount", "I", false)
  | 4 => ("VectorShelfModel", "rule", "I", false)
  | 5 => ("VectorShelfModel", "tape", "[I", true)
  | 6 => ("VectorShelfModel", "taped", "I", false)
  | 7 => ("VectorShelfModel", "sets", "[I", true)
  | 8 => ("VectorShelfModel", "asked", "[I", true)
  | 9 => ("VectorShelfModel", "centres", "[I", true)
  | 10 => ("VectorShelfModel", "leasts", "[I", true)
  | 11 => ("VectorShelfModel", "mosts", "[I", true)
  | 12 => ("VectorShelfModel", "isBox", "[Z", true)
  | 13 => ("VectorShelfModel", "cellMany", "I", false)
  | 14 => ("VectorShelfModel", "places", "[I", true)
  | 15 => ("VectorShelfModel", "tags", "[I", true)
  | 16 => ("VectorShelfModel", "cellOf", "[I", true)
  | 17 => ("VectorShelfModel", "drops", "[I", true)
  | 18 => ("VectorShelfModel", "many", "I", false)
  | 19 => ("VectorShelfModel", "ofX", "I", false)
  | 20 => ("VectorShelfModel", "ofY", "I", false)
  | 21 => ("VectorShelfModel", "ofZ", "I", false)
  | 22 => ("VectorShelfModel", "ofTag", "I", false)
  | 23 => ("VectorShelfModel", "ofNumber", "I", false)
  | 24 => ("VectorShelfModel", "ofCell", "I", false)
  | 25 => ("VectorShelfModel", "from", "I", false)
  | 26 => ("VectorShelfModel", "size", "I", false)
  | 27 => ("VectorShelfModel", "here", "I", false)
  | 28 => ("VectorShelfModel", "token", "I", false)
  | 29 => ("VectorShelfModel", "tokenAt", "I", false)
  | 30 => ("VectorShelfModel", "tokenWorth", "J", false)
  | 31 => ("VectorShelfModel", "open", "I", false)
  | 32 => ("VectorShelfModel", "bad", "Z", false)
  | 33 => ("VectorShelfModel", "fault", "I", false)
  | 34 => ("VectorShelfModel", "keptOf", "[J", true)
  | 35 => ("VectorShelfModel", "keptWas", "[I", true)
  | 36 => ("VectorShelfModel", "centresWere", "[I", true)
  | 37 => ("VectorShelfModel", "leastsWere", "[I", true)
  | 38 => ("VectorShelfModel", "mostsWere", "[I", true)
  | 39 => ("VectorShelfModel", "isBoxWas", "[Z", true)
  | 40 => ("VectorShelfModel", "cellOfWas", "[I", true)
  | 41 => ("VectorShelfModel", "askedWas", "[I", true)
  | 42 => ("VectorShelfModel", "fars", "[I", true)
  | 43 => ("VectorShelfModel", "fits", "[Z", true)
  | 44 => ("VectorShelfModel", "isRead", "[Z", true)
  | 45 => ("VectorShelfModel", "isOver", "[Z", true)
  | 46 => ("VectorShelfModel", "readMany", "I", false)
  | 47 => ("VectorShelfModel", "skipped", "I", false)
  | 48 => ("VectorShelfModel", "opened", "I", false)
  | 49 => ("VectorShelfModel", "servedBy", "[I", true)
  | 50 => ("VectorShelfModel", "setsKept", "[I", true)
  | 51 => ("VectorShelfModel", "askedKept", "[I", true)
  | 52 => ("VectorShelfModel", "centresKept", "[I", true)
  | 53 => ("VectorShelfModel", "leastsKept", "[I", true)
  | 54 => ("VectorShelfModel", "mostsKept", "[I", true)
  | 55 => ("VectorShelfModel", "isBoxKept", "[Z", true)
  | 56 => ("VectorShelfModel", "placesKept", "[I", true)
  | 57 => ("VectorShelfModel", "tagsKept", "[I", true)
  | 58 => ("VectorShelfModel", "cellOfKept", "[I", true)
  | 59 => ("VectorShelfModel", "dropsKept", "[I", true)
  | 60 => ("VectorShelfModel", "manyKept", "I", false)
  | 61 => ("VectorShelfModel", "cellManyKept", "I", false)
  | 62 => ("VectorShelfModel", "ruleKept", "I", false)
  | 63 => ("VectorShelfModel", "isRow", "[Z", true)
  | 64 => ("VectorShelfModel", "sorts", "[I", true)
  | 65 => ("VectorShelfModel", "sheetSize", "[I", true)
  | 66 => ("VectorShelfModel", "items", "[I", true)
  | 67 => ("VectorShelfModel", "floats", "[F", true)
  | _ => ("VectorShelfModel", "isNone", "[Z", true)
def tyX9 : Nat → FieldType := fun k => match k with
  | 0 => .int
  | 1 => .array .int
  | 2 => .array .int
  | 3 => .int
  | 4 => .int
  | 5 => .array .int
  | 6 => .int
  | 7 => .array .int
  | 8 => .array .int
  | 9 => .array .int
  | 10 => .array .int
  | 11 => .array .int
  | 12 => .array .boolean
  | 13 => .int
  | 14 => .array .int
  | 15 => .array .int
  | 16 => .array .int
  | 17 => .array .int
  | 18 => .int
  | 19 => .int
  | 20 => .int
  | 21 => .int
  | 22 => .int
  | 23 => .int
  | 24 => .int
  | 25 => .int
  | 26 => .int
  | 27 => .int
  | 28 => .int
  | 29 => .int
  | 30 => .long
  | 31 => .int
  | 32 => .boolean
  | 33 => .int
  | 34 => .array .long
  | 35 => .array .int
  | 36 => .array .int
  | 37 => .array .int
  | 38 => .array .int
  | 39 => .array .boolean
  | 40 => .array .int
  | 41 => .array .int
  | 42 => .array .int
  | 43 => .array .boolean
  | 44 => .array .boolean
  | 45 => .array .boolean
  | 46 => .int
  | 47 => .int
  | 48 => .int
  | 49 => .array .int
  | 50 => .array .int
  | 51 => .array .int
  | 52 => .array .int
  | 53 => .array .int
  | 54 => .array .int
  | 55 => .array .boolean
  | 56 => .array .int
  | 57 => .array .int
  | 58 => .array .int
  | 59 => .array .int
  | 60 => .int
  | 61 => .int
  | 62 => .int
  | 63 => .array .boolean
  | 64 => .array .int
  | 65 => .array .int
  | 66 => .array .int
  | 67 => .array .float
  | _ => .array .boolean
abbrev wsX90 : List Cond := u_ws RX9 TX9 69
theorem nmX9 : ∀ a, a < 69 → ∀ b, b < 69 → a ≠ b → (TX9 a).2.1 ≠ (TX9 b).2.1 := by decide +kernel
theorem tyX9_ok : ∀ k, k < 69 → parseFieldDescriptor (TX9 k).2.2.1 = some (tyX9 k) := by decide +kernel
/-- the classes whose objects the worlds hold -/
abbrev clsT : List vw_C := [(RX0, TX0, 1), (RX1, TX1, 4), (RX2, TX2, 4), (RX3, TX3, 7), (RX4, TX4, 5), (RX5, TX5, 13), (RX6, TX6, 3), (RX7, TX7, 8), (RX8, TX8, 11), (RX9, TX9, 69)]
set_option maxRecDepth 100000 in
theorem inX0 : ∀ w ∈ u_ws RX0 TX0 1, w ∈ lw_tbl := by
  have h : u_ws RX0 TX0 1 = ([347] : List Nat).filterMap (fun i => lw_tbl[i]?) := by decide +kernel
  intro w hw
  rw [h] at hw
  obtain ⟨i, -, hi⟩ := List.mem_filterMap.mp hw
  exact List.mem_of_getElem? hi
set_option maxRecDepth 100000 in
theorem inX1 : ∀ w ∈ u_ws RX1 TX1 4, w ∈ lw_tbl := by
  have h : u_ws RX1 TX1 4 = ([298, 300, 302, 304] : List Nat).filterMap (fun i => lw_tbl[i]?) := by decide +kernel
  intro w hw
  rw [h] at hw
  obtain ⟨i, -, hi⟩ := List.mem_filterMap.mp hw
  exact List.mem_of_getElem? hi
set_option maxRecDepth 100000 in
theorem inX2 : ∀ w ∈ u_ws RX2 TX2 4, w ∈ lw_tbl := by
  have h : u_ws RX2 TX2 4 = ([160, 162, 164, 166] : List Nat).filterMap (fun i => lw_tbl[i]?) := by decide +kernel
  intro w hw
  rw [h] at hw
  obtain ⟨i, -, hi⟩ := List.mem_filterMap.mp hw
  exact List.mem_of_getElem? hi
set_option maxRecDepth 100000 in
theorem inX3 : ∀ w ∈ u_ws RX3 TX3 7, w ∈ lw_tbl := by
  have h : u_ws RX3 TX3 7 = ([324, 326, 328, 330, 332, 334, 336] : List Nat).filterMap (fun i => lw_tbl[i]?) := by decide +kernel
  intro w hw
  rw [h] at hw
  obtain ⟨i, -, hi⟩ := List.mem_filterMap.mp hw
  exact List.mem_of_getElem? hi
set_option maxRecDepth 100000 in
theorem inX4 : ∀ w ∈ u_ws RX4 TX4 5, w ∈ lw_tbl := by
  have h : u_ws RX4 TX4 5 = ([367, 369, 371, 373, 375] : List Nat).filterMap (fun i => lw_tbl[i]?) := by decide +kernel
  intro w hw
  rw [h] at hw
  obtain ⟨i, -, hi⟩ := List.mem_filterMap.mp hw
  exact List.mem_of_getElem? hi
set_option maxRecDepth 100000 in
theorem inX5 : ∀ w ∈ u_ws RX5 TX5 13, w ∈ lw_tbl := by
  have h : u_ws RX5 TX5 13 = ([207, 209, 211, 213, 215, 217, 219, 221, 223, 225, 227, 229, 231] : List Nat).filterMap (fun i => lw_tbl[i]?) := by decide +kernel
  intro w hw
  rw [h] at hw
  obtain ⟨i, -, hi⟩ := List.mem_filterMap.mp hw
  exact List.mem_of_getElem? hi
set_option maxRecDepth 100000 in
theorem inX6 : ∀ w ∈ u_ws RX6 TX6 3, w ∈ lw_tbl := by
  have h : u_ws RX6 TX6 3 = ([254, 256, 258] : List Nat).filterMap (fun i => lw_tbl[i]?) := by decide +kernel
  intro w hw
  rw [h] at hw
  obtain ⟨i, -, hi⟩ := List.mem_filterMap.mp hw
  exact List.mem_of_getElem? hi
set_option maxRecDepth 100000 in
theorem inX7 : ∀ w ∈ u_ws RX7 TX7 8, w ∈ lw_tbl := by
  have h : u_ws RX7 TX7 8 = ([270, 272, 274, 276, 278, 280, 282, 284] : List Nat).filterMap (fun i => lw_tbl[i]?) := by decide +kernel
  intro w hw
  rw [h] at hw
  obtain ⟨i, -, hi⟩ := List.mem_filterMap.mp hw
  exact List.mem_of_getElem? hi
set_option maxRecDepth 100000 in
theorem inX8 : ∀ w ∈ u_ws RX8 TX8 11, w ∈ lw_tbl := by
  have h : u_ws RX8 TX8 11 = ([391, 393, 395, 397, 399, 401, 403, 405, 407, 409, 411] : List Nat).filterMap (fun i => lw_tbl[i]?) := by decide +kernel
  intro w hw
  rw [h] at hw
  obtain ⟨i, -, hi⟩ := List.mem_filterMap.mp hw
  exact List.mem_of_getElem? hi
set_option maxRecDepth 100000 in
theorem inX9 : ∀ w ∈ u_ws RX9 TX9 69, w ∈ lw_tbl := by
  have h : u_ws RX9 TX9 69 = ([1245, 1247, 1249, 1251, 1253, 1255, 1257, 1259, 1261, 1263, 1265, 1267, 1269, 1271, 1273, 1275, 1277, 1279, 1281, 1283, 1285, 1287, 1289, 1291, 1293, 1295, 1297, 1299, 1301, 1303, 1305, 1307, 1309, 1311, 1313, 1315, 1317, 1319, 1321, 1323, 1325, 1327, 1329, 1331, 1333, 1335, 1337, 1339, 1341, 1343, 1345, 1347, 1349, 1351, 1353, 1355, 1357, 1359, 1361, 1363, 1365, 1367, 1369, 1371, 1373, 1375, 1377, 1379, 1381] : List Nat).filterMap (fun i => lw_tbl[i]?) := by decide +kernel
  intro w hw
  rw [h] at hw
  obtain ⟨i, -, hi⟩ := List.mem_filterMap.mp hw
  exact List.mem_of_getElem? hi
/-- the methods: name, bytes, locals, answer -/
def mtb : List (MethodName × ByteArray × Nat × Option FieldType) := [
  (⟨"VectorShelf$Company", "<init>", "()V"⟩, prog_2_method_1_code, 1, none),
  (⟨"VectorShelf$Company", "friendOf", "(LVectorShelf$Shelf;I)I"⟩, prog_2_method_2_code, 7, (some .int)),
  (⟨"VectorShelf$Company", "friendsBy", "(LVectorShelf$Shelf;I)I"⟩, prog_2_method_3_code, 5, (some .int)),
  (⟨"VectorShelf$Company", "bestTwo", "(LVectorShelf$Shelf;Z)I"⟩, prog_2_method_4_code, 8, (some .int)),
  (⟨"VectorShelf$Company", "priceOf", "(LVectorShelf$Shelf;IIZ)I"⟩, prog_2_method_5_code, 7, (some .int)),
  (⟨"VectorShelf$Company", "spreadAt", "(LVectorShelf$Shelf;I)I"⟩, prog_2_method_6_code, 6, (some .int)),
  (⟨"VectorShelf$Company", "farthestFrom", "(LVectorShelf$Shelf;I)I"⟩, prog_2_method_7_code, 7, (some .int)),
  (⟨"VectorShelf$Company", "nearestAmong", "(LVectorShelf$Shelf;II)I"⟩, prog_2_method_8_code, 6, (some .int)),
  (⟨"VectorShelf$Company", "fewestCovering", "(LVectorShelf$Shelf;I)I"⟩, prog_2_method_9_code, 7, (some .int)),
  (⟨"VectorShelf$Company", "coveredBy", "(LVectorShelf$Shelf;II)I"⟩, prog_2_method_10_code, 6, (some .int)),
  (⟨"VectorShelf$Company", "isCovering", "(II)Z"⟩, prog_2_method_11_code, 5, (some .boolean)),
  (⟨"VectorShelf$Judge", "<init>", "()V"⟩, prog_3_method_1_code, 1, none),
  (⟨"VectorShelf$Judge", "weigh", "(LVectorShelf$Shelf;LVectorShelf$Text;)V"⟩, prog_3_method_2_code, 5, none),
  (⟨"VectorShelf$Judge", "valueOf", "(LVectorShelf$Text;IILVectorShelf$Shelf;I)I"⟩, prog_3_method_7_code, 8, (some .int)),
  (⟨"VectorShelf$Judge", "lift", "(I)V"⟩, prog_3_method_8_code, 2, none),
  (⟨"VectorShelf$Judge", "named", "(ILVectorShelf$Shelf;I)I"⟩, prog_3_method_9_code, 3, (some .int)),
  (⟨"VectorShelf$Judge", "turn", "(I)V"⟩, prog_3_method_10_code, 3, none),
  (⟨"VectorShelf$Judge", "truth", "(Z)I"⟩, prog_3_method_13_code, 1, (some .int)),
  (⟨"VectorShelf$Judge", "join", "(I)V"⟩, prog_3_method_11_code, 2, none),
  (⟨"VectorShelf$Judge", "joined", "(III)I"⟩, prog_3_method_12_code, 3, (some .int)),
  (⟨"VectorShelf$Judge", "isFit", "(LVectorShelf$Shelf;I)Z"⟩, prog_3_method_3_code, 3, (some .boolean)),
  (⟨"VectorShelf$Judge", "fitBits", "(LVectorShelf$Shelf;)I"⟩, prog_3_method_4_code, 2, (some .int)),
  (⟨"VectorShelf$Judge", "far", "(LVectorShelf$Shelf;I)I"⟩, prog_3_method_5_code, 5, (some .int)),
  (⟨"VectorShelf$Judge", "first", "(LVectorShelf$Shelf;)I"⟩, prog_3_method_6_code, 7, (some .int)),
  (⟨"VectorShelf$Measure", "<init>", "()V"⟩, prog_4_method_1_code, 1, none),
  (⟨"VectorShelf$Measure", "lowOf", "(III)F"⟩, prog_4_method_6_code, 4, (some .float)),
  (⟨"VectorShelf$Measure", "floatTerm", "(II)F"⟩, prog_4_method_7_code, 6, (some .float)),
  (⟨"VectorShelf$Measure", "floatJoin", "(FF)F"⟩, prog_4_method_8_code, 3, (some .float)),
  (⟨"VectorShelf$Measure", "floatWhole", "(F)F"⟩, prog_4_method_9_code, 2, (some .float)),
  (⟨"VectorShelf$Measure", "tell", "(III)I"⟩, prog_4_method_4_code, 8, (some .int)),
  (⟨"VectorShelf$Measure", "term", "(II)I"⟩, prog_4_method_5_code, 4, (some .int)),
  (⟨"VectorShelf$Measure", "highOf", "(I)F"⟩, prog_4_method_10_code, 1, (some .float)),
  (⟨"VectorShelf$Measure", "lay", "(LVectorShelf$Measure;)V"⟩, prog_4_method_2_code, 2, none),
  (⟨"VectorShelf$Measure", "isUnder", "(I)Z"⟩, prog_4_method_3_code, 4, (some .boolean)),
  (⟨"VectorShelf$Reading", "<init>", "()V"⟩, prog_5_method_1_code, 1, none),
  (⟨"VectorShelf$Reading", "readFor", "(ILVectorShelf$Shelf;LVectorShelf$Judge;)V"⟩, prog_5_method_2_code, 7, none),
  (⟨"VectorShelf$Reading", "boxedCells", "(LVectorShelf$Shelf;)I"⟩, prog_5_method_3_code, 4, (some .int)),
  (⟨"VectorShelf$Reading", "lowest", "(I)I"⟩, prog_5_method_4_code, 5, (some .int)),
  (⟨"VectorShelf$Reading", "isBeyond", "(FI)Z"⟩, prog_5_method_5_code, 3, (some .boolean)),
  (⟨"VectorShelf$Reading", "readCell", "(IILVectorShelf$Shelf;LVectorShelf$Judge;)V"⟩, prog_5_method_6_code, 8, none),
  (⟨"VectorShelf$Reading", "hold", "(III)V"⟩, prog_5_method_7_code, 5, none),
  (⟨"VectorShelf$Reading", "lastFar", "()I"⟩, prog_5_method_9_code, 1, (some .int)),
  (⟨"VectorShelf$Reading", "heldAt", "(I)I"⟩, prog_5_method_8_code, 2, (some .int)),
  (⟨"VectorShelf$Sheet", "<init>", "()V"⟩, prog_6_method_1_code, 1, none),
  (⟨"VectorShelf$Sheet", "isMissing", "()Z"⟩, prog_6_method_2_code, 1, (some .boolean)),
  (⟨"VectorShelf$Sheet", "tellAt", "(I)I"⟩, prog_6_method_7_code, 2, (some .int)),
  (⟨"VectorShelf$Sheet", "become", "(II)V"⟩, prog_6_method_3_code, 4, none),
  (⟨"VectorShelf$Sheet", "write", "(II)V"⟩, prog_6_method_5_code, 3, none),
  (⟨"VectorShelf$Sheet", "hasRun", "(II)Z"⟩, prog_6_method_4_code, 3, (some .boolean)),
  (⟨"VectorShelf$Sheet", "wipe", "(I)V"⟩, prog_6_method_6_code, 2, none),
  (⟨"VectorShelf$Sheet", "giveRun", "(ILVectorShelf$Sheet;II)V"⟩, prog_6_method_9_code, 5, none),
  (⟨"VectorShelf$Sheet", "restBy250", "(I)I"⟩, prog_6_method_8_code, 2, (some .int)),
  (⟨"VectorShelf$Shelf", "<init>", "()V"⟩, prog_7_method_1_code, 1, none),
  (⟨"VectorShelf$Shelf", "addCell", "(III)I"⟩, prog_7_method_8_code, 5, (some .int)),
  (⟨"VectorShelf$Shelf", "emptyBox", "(I)V"⟩, prog_7_method_14_code, 3, none),
  (⟨"VectorShelf$Shelf", "addVector", "(IIII)I"⟩, prog_7_method_9_code, 6, (some .int)),
  (⟨"VectorShelf$Shelf", "mark", "(IZ)V"⟩, prog_7_method_7_code, 3, none),
  (⟨"VectorShelf$Shelf", "putAt", "(IIII)V"⟩, prog_7_method_10_code, 5, none),
  (⟨"VectorShelf$Shelf", "nearestCell", "(I)I"⟩, prog_7_method_11_code, 6, (some .int)),
  (⟨"VectorShelf$Shelf", "squares", "(II)I"⟩, prog_7_method_12_code, 6, (some .int)),
  (⟨"VectorShelf$Shelf", "comeInto", "(II)V"⟩, prog_7_method_13_code, 5, none),
  (⟨"VectorShelf$Shelf", "isThere", "(I)Z"⟩, prog_7_method_6_code, 2, (some .boolean)),
  (⟨"VectorShelf$Shelf", "codeOf", "(II)I"⟩, prog_7_method_23_code, 5, (some .int)),
  (⟨"VectorShelf$Shelf", "lowOfVector", "(I)F"⟩, prog_7_method_25_code, 2, (some .float)),
  (⟨"VectorShelf$Shelf", "outsideOfSpan", "(II)I"⟩, prog_7_method_26_code, 7, (some .int)),
  (⟨"VectorShelf$Shelf", "outside", "(III)I"⟩, prog_7_method_27_code, 3, (some .int)),
  (⟨"VectorShelf$Shelf", "holders", "(I)I"⟩, prog_7_method_16_code, 4, (some .int)),
  (⟨"VectorShelf$Shelf", "isBoxEmpty", "(I)Z"⟩, prog_7_method_15_code, 2, (some .boolean)),
  (⟨"VectorShelf$Shelf", "lowOfCell", "(I)F"⟩, prog_7_method_24_code, 3, (some .float)),
  (⟨"VectorShelf$Shelf", "change", "(II)I"⟩, prog_7_method_3_code, 4, (some .int)),
  (⟨"VectorShelf$Shelf", "stand", "(III)V"⟩, prog_7_method_4_code, 4, none),
  (⟨"VectorShelf$Shelf", "between", "(II)I"⟩, prog_7_method_22_code, 5, (some .int)),
  (⟨"VectorShelf$Shelf", "tidyUp", "(I)I"⟩, prog_7_method_18_code, 4, (some .int)),
  (⟨"VectorShelf$Shelf", "shed", "(I)I"⟩, prog_7_method_17_code, 4, (some .int)),
  (⟨"VectorShelf$Shelf", "centreAnew", "()I"⟩, prog_7_method_19_code, 3, (some .int)),
  (⟨"VectorShelf$Shelf", "centreOnHolders", "(I)Z"⟩, prog_7_method_20_code, 8, (some .boolean)),
  (⟨"VectorShelf$Shelf", "lay", "(LVectorShelf$Shelf;)V"⟩, prog_7_method_2_code, 2, none),
  (⟨"VectorShelf$Shelf", "squaresFromCentres", "()I"⟩, prog_7_method_21_code, 3, (some .int)),
  (⟨"VectorShelf$Shelf", "standAt", "(I)V"⟩, prog_7_method_5_code, 2, none),
  (⟨"VectorShelf$Text", "<init>", "()V"⟩, prog_8_method_1_code, 1, none),
  (⟨"VectorShelf$Text", "clear", "()V"⟩, prog_8_method_2_code, 1, none),
  (⟨"VectorShelf$Text", "add", "(I)V"⟩, prog_8_method_3_code, 2, none),
  (⟨"VectorShelf$TextReader", "<init>", "()V"⟩, prog_9_method_1_code, 1, none),
  (⟨"VectorShelf$TextReader", "append", "(I)I"⟩, prog_9_method_2_code, 2, (some .int)),
  (⟨"VectorShelf$TextReader", "readInto", "(LVectorShelf$Text;)I"⟩, prog_9_method_3_code, 2, (some .int)),
  (⟨"VectorShelf$TextReader", "advance", "()V"⟩, prog_9_method_13_code, 2, none),
  (⟨"VectorShelf$TextReader", "letterAt", "(I)I"⟩, prog_9_method_14_code, 2, (some .int)),
  (⟨"VectorShelf$TextReader", "isBlank", "(I)Z"⟩, prog_9_method_15_code, 1, (some .boolean)),
  (⟨"VectorShelf$TextReader", "isLetter", "(I)Z"⟩, prog_9_method_16_code, 1, (some .boolean)),
  (⟨"VectorShelf$TextReader", "takeWord", "()V"⟩, prog_9_method_19_code, 1, none),
  (⟨"VectorShelf$TextReader", "nameSpelt", "()I"⟩, prog_9_method_20_code, 1, (some .int)),
  (⟨"VectorShelf$TextReader", "isSpelt", "(Ljava/lang/String;)Z"⟩, prog_9_method_22_code, 3, (some .boolean)),
  (⟨"VectorShelf$TextReader", "keySpelt", "()I"⟩, prog_9_method_21_code, 1, (some .int)),
  (⟨"VectorShelf$TextReader", "isDigit", "(I)Z"⟩, prog_9_method_17_code, 1, (some .boolean)),
  (⟨"VectorShelf$TextReader", "takeNumber", "()V"⟩, prog_9_method_18_code, 1, none),
  (⟨"VectorShelf$TextReader", "expect", "(I)V"⟩, prog_9_method_5_code, 2, none),
  (⟨"VectorShelf$TextReader", "fail", "()V"⟩, prog_9_method_4_code, 1, none),
  (⟨"VectorShelf$TextReader", "either", "(I)V"⟩, prog_9_method_6_code, 3, none),
  (⟨"VectorShelf$TextReader", "both", "(I)V"⟩, prog_9_method_7_code, 3, none),
  (⟨"VectorShelf$TextReader", "negated", "(I)V"⟩, prog_9_method_8_code, 2, none),
  (⟨"VectorShelf$TextReader", "compared", "(I)V"⟩, prog_9_method_9_code, 3, none),
  (⟨"VectorShelf$TextReader", "sum", "(I)V"⟩, prog_9_method_10_code, 4, none),
  (⟨"VectorShelf$TextReader", "product", "(I)V"⟩, prog_9_method_11_code, 3, none),
  (⟨"VectorShelf$TextReader", "single", "(I)V"⟩, prog_9_method_12_code, 2, none),
  (⟨"VectorShelf", "<init>", "()V"⟩, prog_1_method_1_code, 2, none),
  (⟨"VectorShelf", "cell", "(III)I"⟩, prog_1_method_2_code, 4, (some .int)),
  (⟨"VectorShelf", "isPlace", "(III)Z"⟩, prog_1_method_56_code, 3, (some .boolean)),
  (⟨"VectorShelf", "isIn", "(III)Z"⟩, prog_1_method_55_code, 3, (some .boolean)),
  (⟨"VectorShelf", "vector", "(IIII)I"⟩, prog_1_method_3_code, 5, (some .int)),
  (⟨"VectorShelf", "move", "(IIII)I"⟩, prog_1_method_4_code, 5, (some .int)),
  (⟨"VectorShelf", "isVector", "(I)Z"⟩, prog_1_method_60_code, 2, (some .boolean)),
  (⟨"VectorShelf", "isBit", "(II)Z"⟩, prog_1_method_57_code, 2, (some .boolean)),
  (⟨"VectorShelf", "drop", "(II)I"⟩, prog_1_method_5_code, 4, (some .int)),
  (⟨"VectorShelf", "told", "(II)I"⟩, prog_1_method_6_code, 4, (some .int)),
  (⟨"VectorShelf", "judged", "(II)I"⟩, prog_1_method_7_code, 3, (some .int)),
  (⟨"VectorShelf", "ruleOf", "(LVectorShelf$Shelf;)LVectorShelf$Text;"⟩, prog_1_method_62_code, 2, (some (.object "VectorShelf$Text"))),
  (⟨"VectorShelf", "holds", "(II)I"⟩, prog_1_method_8_code, 3, (some .int)),
  (⟨"VectorShelf", "set", "(II)I"⟩, prog_1_method_9_code, 3, (some .int)),
  (⟨"VectorShelf", "isSetting", "(II)Z"⟩, prog_1_method_10_code, 2, (some .boolean)),
  (⟨"VectorShelf", "query", "(III)I"⟩, prog_1_method_11_code, 4, (some .int)),
  (⟨"VectorShelf", "fitting", "()I"⟩, prog_1_method_63_code, 1, (some .int)),
  (⟨"VectorShelf", "apart", "(II)I"⟩, prog_1_method_12_code, 3, (some .int)),
  (⟨"VectorShelf", "high", "(I)I"⟩, prog_1_method_13_code, 2, (some .int)),
  (⟨"VectorShelf", "tidy", "(I)I"⟩, prog_1_method_14_code, 2, (some .int)),
  (⟨"VectorShelf", "centre", "()I"⟩, prog_1_method_15_code, 1, (some .int)),
  (⟨"VectorShelf", "feed", "(I)I"⟩, prog_1_method_16_code, 2, (some .int)),
  (⟨"VectorShelf", "text", "()I"⟩, prog_1_method_17_code, 2, (some .int)),
  (⟨"VectorShelf", "force", "(I)I"⟩, prog_1_method_18_code, 3, (some .int)),
  (⟨"VectorShelf", "near", "(II)I"⟩, prog_1_method_19_code, 3, (some .int)),
  (⟨"VectorShelf", "isAhead", "(IIII)Z"⟩, prog_1_method_58_code, 4, (some .boolean)),
  (⟨"VectorShelf", "within", "(II)I"⟩, prog_1_method_20_code, 6, (some .int)),
  (⟨"VectorShelf", "rank", "(I)I"⟩, prog_1_method_21_code, 6, (some .int)),
  (⟨"VectorShelf", "friend", "(II)I"⟩, prog_1_method_22_code, 3, (some .int)),
  (⟨"VectorShelf", "pair", "(I)I"⟩, prog_1_method_23_code, 2, (some .int)),
  (⟨"VectorShelf", "partOfTwo", "(IZ)I"⟩, prog_1_method_25_code, 6, (some .int)),
  (⟨"VectorShelf", "two", "(I)I"⟩, prog_1_method_24_code, 2, (some .int)),
  (⟨"VectorShelf", "spread", "(I)I"⟩, prog_1_method_26_code, 2, (some .int)),
  (⟨"VectorShelf", "cover", "(II)I"⟩, prog_1_method_27_code, 4, (some .int)),
  (⟨"VectorShelf", "rounds", "(I)I"⟩, prog_1_method_28_code, 4, (some .int)),
  (⟨"VectorShelf", "goes", "(II)I"⟩, prog_1_method_29_code, 6, (some .int)),
  (⟨"VectorShelf", "costs", "(I)J"⟩, prog_1_method_30_code, 4, (some .long)),
  (⟨"VectorShelf", "partOfFraction", "(III)J"⟩, prog_1_method_59_code, 7, (some .long)),
  (⟨"VectorShelf", "lot", "(IIII)J"⟩, prog_1_method_31_code, 7, (some .long)),
  (⟨"VectorShelf", "drawnFrom", "(II)I"⟩, prog_1_method_33_code, 4, (some .int)),
  (⟨"VectorShelf", "drawn", "(II)I"⟩, prog_1_method_32_code, 3, (some .int)),
  (⟨"VectorShelf", "tells", "(II)I"⟩, prog_1_method_34_code, 4, (some .int)),
  (⟨"VectorShelf", "isSheet", "(I)Z"⟩, prog_1_method_61_code, 1, (some .boolean)),
  (⟨"VectorShelf", "firstOtherwise", "(LVectorShelf$Sheet;)I"⟩, prog_1_method_35_code, 3, (some .int)),
  (⟨"VectorShelf", "kindsTelling", "(LVectorShelf$Sheet;)I"⟩, prog_1_method_36_code, 4, (some .int)),
  (⟨"VectorShelf", "textsTelling", "(LVectorShelf$Sheet;)I"⟩, prog_1_method_37_code, 4, (some .int)),
  (⟨"VectorShelf", "weightsTelling", "(LVectorShelf$Sheet;)I"⟩, prog_1_method_38_code, 4, (some .int)),
  (⟨"VectorShelf", "dropsTelling", "(LVectorShelf$Sheet;)I"⟩, prog_1_method_39_code, 4, (some .int)),
  (⟨"VectorShelf", "film", "(II)I"⟩, prog_1_method_40_code, 5, (some .int)),
  (⟨"VectorShelf", "image", "()I"⟩, prog_1_method_41_code, 1, (some .int)),
  (⟨"VectorShelf", "back", "()I"⟩, prog_1_method_42_code, 1, (some .int)),
  (⟨"VectorShelf", "count", "(I)I"⟩, prog_1_method_43_code, 2, (some .int)),
  (⟨"VectorShelf", "sheet", "(III)I"⟩, prog_1_method_44_code, 4, (some .int)),
  (⟨"VectorShelf", "put", "(III)I"⟩, prog_1_method_45_code, 5, (some .int)),
  (⟨"VectorShelf", "refusal", "(IIII)I"⟩, prog_1_method_53_code, 6, (some .int)),
  (⟨"VectorShelf", "blank", "(II)I"⟩, prog_1_method_46_code, 4, (some .int)),
  (⟨"VectorShelf", "item", "(II)I"⟩, prog_1_method_47_code, 3, (some .int)),
  (⟨"VectorShelf", "copy", "(IIIII)I"⟩, prog_1_method_48_code, 8, (some .int)),
  (⟨"VectorShelf", "rest", "(III)I"⟩, prog_1_method_49_code, 6, (some .int)),
  (⟨"VectorShelf", "shelve", "(IIII)I"⟩, prog_1_method_50_code, 10, (some .int)),
  (⟨"VectorShelf", "ask", "(II)I"⟩, prog_1_method_51_code, 5, (some .int)),
  (⟨"VectorShelf", "code", "(III)I"⟩, prog_1_method_52_code, 6, (some .int)),
  (⟨"VectorShelf", "taken", "(I)I"⟩, prog_1_method_54_code, 2, (some .int)),
  (⟨"VectorShelfModel", "<init>", "()V"⟩, prog_11_method_4_code, 2, none),
  (⟨"VectorShelfModel", "spell", "(IIIIIIIII)V"⟩, prog_11_method_5_code, 10, none),
  (⟨"VectorShelfModel", "set", "(II)I"⟩, prog_11_method_11_code, 4, (some .int)),
  (⟨"VectorShelfModel", "in", "(JJJ)Z"⟩, prog_11_method_2_code, 6, (some .boolean)),
  (⟨"VectorShelfModel", "mostOf", "(I)I"⟩, prog_11_method_10_code, 2, (some .int)),
  (⟨"VectorShelfModel", "cell", "(III)I"⟩, prog_11_method_12_code, 4, (some .int)),
  (⟨"VectorShelfModel", "isPlace", "(III)Z"⟩, prog_11_method_6_code, 3, (some .boolean)),
  (⟨"VectorShelfModel", "vector", "(IIII)I"⟩, prog_11_method_16_code, 5, (some .int)),
  (⟨"VectorShelfModel", "standsAt", "(IIII)V"⟩, prog_11_method_15_code, 5, none),
  (⟨"VectorShelfModel", "nearestCell", "(I)I"⟩, prog_11_method_13_code, 8, (some .int)),
  (⟨"VectorShelfModel", "comesInto", "(II)V"⟩, prog_11_method_14_code, 6, none),
  (⟨"VectorShelfModel", "move", "(IIII)I"⟩, prog_11_method_17_code, 5, (some .int)),
  (⟨"VectorShelfModel", "isOne", "(I)Z"⟩, prog_11_method_7_code, 2, (some .boolean)),
  (⟨"VectorShelfModel", "isThere", "(I)Z"⟩, prog_11_method_9_code, 2, (some .boolean)),
  (⟨"VectorShelfModel", "drop", "(II)I"⟩, prog_11_method_18_code, 4, (some .int)),
  (⟨"VectorShelfModel", "apart", "(II)I"⟩, prog_11_method_28_code, 3, (some .int)),
  (⟨"VectorShelfModel", "between", "(II)I"⟩, prog_11_method_27_code, 3, (some .int)),
  (⟨"VectorShelfModel", "far", "(II)I"⟩, prog_11_method_26_code, 2, (some .int)),
  (⟨"VectorShelfModel", "measure", "(III)I"⟩, prog_11_method_22_code, 8, (some .int)),
  (⟨"VectorShelfModel", "term", "(II)I"⟩, prog_11_method_21_code, 4, (some .int)),
  (⟨"VectorShelfModel", "isSlack", "()Z"⟩, prog_11_method_20_code, 1, (some .boolean)),
  (⟨"VectorShelfModel", "above", "(I)I"⟩, prog_11_method_19_code, 2, (some .int)),
  (⟨"VectorShelfModel", "high", "(I)I"⟩, prog_11_method_29_code, 2, (some .int)),
  (⟨"VectorShelfModel", "highOf", "(I)F"⟩, prog_11_method_25_code, 2, (some .float)),
  (⟨"VectorShelfModel", "feed", "(I)I"⟩, prog_11_method_37_code, 2, (some .int)),
  (⟨"VectorShelfModel", "text", "()I"⟩, prog_11_method_54_code, 2, (some .int)),
  (⟨"VectorShelfModel", "read", "(II)I"⟩, prog_11_method_53_code, 5, (some .int)),
  (⟨"VectorShelfModel", "next", "()V"⟩, prog_11_method_39_code, 3, none),
  (⟨"VectorShelfModel", "byteAt", "(I)I"⟩, prog_11_method_38_code, 2, (some .int)),
  (⟨"VectorShelfModel", "isWord", "(IIIIIIII)Z"⟩, prog_11_method_42_code, 9, (some .boolean)),
  (⟨"VectorShelfModel", "isLetter", "(II)Z"⟩, prog_11_method_41_code, 3, (some .boolean)),
  (⟨"VectorShelfModel", "part", "(Z)I"⟩, prog_11_method_52_code, 3, (some .int)),
  (⟨"VectorShelfModel", "fail", "()V"⟩, prog_11_method_40_code, 1, none),
  (⟨"VectorShelfModel", "either", "()I"⟩, prog_11_method_51_code, 3, (some .int)),
  (⟨"VectorShelfModel", "both", "()I"⟩, prog_11_method_50_code, 3, (some .int)),
  (⟨"VectorShelfModel", "not", "()I"⟩, prog_11_method_49_code, 4, (some .int)),
  (⟨"VectorShelfModel", "opens", "()Z"⟩, prog_11_method_44_code, 1, (some .boolean)),
  (⟨"VectorShelfModel", "added", "()I"⟩, prog_11_method_48_code, 4, (some .int)),
  (⟨"VectorShelfModel", "term", "()I"⟩, prog_11_method_47_code, 2, (some .int)),
  (⟨"VectorShelfModel", "atom", "()I"⟩, prog_11_method_46_code, 2, (some .int)),
  (⟨"VectorShelfModel", "isSign", "(I)Z"⟩, prog_11_method_43_code, 2, (some .boolean)),
  (⟨"VectorShelfModel", "name", "()I"⟩, prog_11_method_45_code, 1, (some .int)),
  (⟨"VectorShelfModel", "force", "(I)I"⟩, prog_11_method_55_code, 3, (some .int)),
  (⟨"VectorShelfModel", "told", "(II)I"⟩, prog_11_method_60_code, 4, (some .int)),
  (⟨"VectorShelfModel", "codeOf", "(II)I"⟩, prog_11_method_31_code, 4, (some .int)),
  (⟨"VectorShelfModel", "floor", "(II)I"⟩, prog_11_method_30_code, 3, (some .int)),
  (⟨"VectorShelfModel", "isFitting", "(I)Z"⟩, prog_11_method_57_code, 2, (some .boolean)),
  (⟨"VectorShelfModel", "says", "(II)I"⟩, prog_11_method_56_code, 6, (some .int)),
  (⟨"VectorShelfModel", "pushOf", "(I)I"⟩, prog_11_method_58_code, 2, (some .int)),
  (⟨"VectorShelfModel", "held", "(III)I"⟩, prog_11_method_3_code, 3, (some .int)),
  (⟨"VectorShelfModel", "farOf", "(I)I"⟩, prog_11_method_59_code, 2, (some .int)),
  (⟨"VectorShelfModel", "lowOfVector", "(I)F"⟩, prog_11_method_36_code, 2, (some .float)),
  (⟨"VectorShelfModel", "outsideCode", "(II)I"⟩, prog_11_method_34_code, 5, (some .int)),
  (⟨"VectorShelfModel", "outside", "(III)I"⟩, prog_11_method_32_code, 3, (some .int)),
  (⟨"VectorShelfModel", "low", "(III)F"⟩, prog_11_method_24_code, 10, (some .float)),
  (⟨"VectorShelfModel", "termF", "(II)F"⟩, prog_11_method_23_code, 5, (some .float)),
  (⟨"VectorShelfModel", "holds", "(II)I"⟩, prog_11_method_61_code, 5, (some .int)),
  (⟨"VectorShelfModel", "isCell", "(I)Z"⟩, prog_11_method_8_code, 2, (some .boolean)),
  (⟨"VectorShelfModel", "lowOfCell", "(I)F"⟩, prog_11_method_35_code, 2, (some .float)),
  (⟨"VectorShelfModel", "outsideBox", "(II)I"⟩, prog_11_method_33_code, 3, (some .int)),
  (⟨"VectorShelfModel", "query", "(III)I"⟩, prog_11_method_63_code, 4, (some .int)),
  (⟨"VectorShelfModel", "fitting", "()I"⟩, prog_11_method_62_code, 3, (some .int)),
  (⟨"VectorShelfModel", "tidy", "(I)I"⟩, prog_11_method_65_code, 4, (some .int)),
  (⟨"VectorShelfModel", "leaves", "(I)I"⟩, prog_11_method_64_code, 4, (some .int)),
  (⟨"VectorShelfModel", "centre", "()I"⟩, prog_11_method_67_code, 1, (some .int)),
  (⟨"VectorShelfModel", "centresAnew", "()I"⟩, prog_11_method_66_code, 9, (some .int)),
  (⟨"VectorShelfModel", "rounds", "(I)I"⟩, prog_11_method_70_code, 8, (some .int)),
  (⟨"VectorShelfModel", "keeps", "()V"⟩, prog_11_method_68_code, 2, none),
  (⟨"VectorShelfModel", "laysBack", "()V"⟩, prog_11_method_69_code, 2, none),
  (⟨"VectorShelfModel", "near", "(II)I"⟩, prog_11_method_77_code, 5, (some .int)),
  (⟨"VectorShelfModel", "reading", "(I)V"⟩, prog_11_method_76_code, 4, none),
  (⟨"VectorShelfModel", "looks", "()V"⟩, prog_11_method_71_code, 2, none),
  (⟨"VectorShelfModel", "nextCell", "()I"⟩, prog_11_method_75_code, 3, (some .int)),
  (⟨"VectorShelfModel", "isBeyond", "(FI)Z"⟩, prog_11_method_74_code, 4, (some .boolean)),
  (⟨"VectorShelfModel", "ranked", "(IZ)I"⟩, prog_11_method_73_code, 6, (some .int)),
  (⟨"VectorShelfModel", "isAhead", "(II)Z"⟩, prog_11_method_72_code, 3, (some .boolean)),
  (⟨"VectorShelfModel", "within", "(II)I"⟩, prog_11_method_78_code, 7, (some .int)),
  (⟨"VectorShelfModel", "rank", "(I)I"⟩, prog_11_method_79_code, 4, (some .int)),
  (⟨"VectorShelfModel", "friend", "(II)I"⟩, prog_11_method_81_code, 5, (some .int)),
  (⟨"VectorShelfModel", "friendOf", "(I)I"⟩, prog_11_method_80_code, 4, (some .int)),
  (⟨"VectorShelfModel", "pair", "(I)I"⟩, prog_11_method_82_code, 6, (some .int)),
  (⟨"VectorShelfModel", "spread", "(I)I"⟩, prog_11_method_83_code, 8, (some .int)),
  (⟨"VectorShelfModel", "nearestIn", "(II)I"⟩, prog_11_method_84_code, 6, (some .int)),
  (⟨"VectorShelfModel", "cover", "(II)I"⟩, prog_11_method_86_code, 6, (some .int)),
  (⟨"VectorShelfModel", "bitsOf", "(I)I"⟩, prog_11_method_85_code, 3, (some .int)),
  (⟨"VectorShelfModel", "isServed", "(I)Z"⟩, prog_11_method_87_code, 3, (some .boolean)),
  (⟨"VectorShelfModel", "two", "(I)I"⟩, prog_11_method_88_code, 9, (some .int)),
  (⟨"VectorShelfModel", "goes", "(II)I"⟩, prog_11_method_90_code, 7, (some .int)),
  (⟨"VectorShelfModel", "firstNear", "()I"⟩, prog_11_method_89_code, 1, (some .int)),
  (⟨"VectorShelfModel", "costs", "(I)J"⟩, prog_11_method_93_code, 7, (some .long)),
  (⟨"VectorShelfModel", "goesTo", "(I)V"⟩, prog_11_method_92_code, 3, none),
  (⟨"VectorShelfModel", "lowest", "(JJI)J"⟩, prog_11_method_91_code, 11, (some .long)),
  (⟨"VectorShelfModel", "drawn", "(II)I"⟩, prog_11_method_94_code, 5, (some .int)),
  (⟨"VectorShelfModel", "lot", "(IIII)J"⟩, prog_11_method_95_code, 9, (some .long)),
  (⟨"VectorShelfModel", "tells", "(II)I"⟩, prog_11_method_97_code, 8, (some .int)),
  (⟨"VectorShelfModel", "isSheet", "(I)Z"⟩, prog_11_method_103_code, 1, (some .boolean)),
  (⟨"VectorShelfModel", "firstOther", "(I)I"⟩, prog_11_method_96_code, 4, (some .int)),
  (⟨"VectorShelfModel", "itemOf", "(II)I"⟩, prog_11_method_105_code, 4, (some .int)),
  (⟨"VectorShelfModel", "lays", "(III)V"⟩, prog_11_method_98_code, 4, none),
  (⟨"VectorShelfModel", "film", "(II)I"⟩, prog_11_method_99_code, 4, (some .int)),
  (⟨"VectorShelfModel", "sheet", "(III)I"⟩, prog_11_method_106_code, 5, (some .int)),
  (⟨"VectorShelfModel", "image", "()I"⟩, prog_11_method_100_code, 2, (some .int)),
  (⟨"VectorShelfModel", "back", "()I"⟩, prog_11_method_101_code, 2, (some .int)),
  (⟨"VectorShelfModel", "count", "(I)I"⟩, prog_11_method_102_code, 4, (some .int)),
  (⟨"VectorShelfModel", "put", "(III)I"⟩, prog_11_method_107_code, 5, (some .int)),
  (⟨"VectorShelfModel", "isItem", "(II)Z"⟩, prog_11_method_104_code, 3, (some .boolean)),
  (⟨"VectorShelfModel", "blank", "(II)I"⟩, prog_11_method_108_code, 3, (some .int)),
  (⟨"VectorShelfModel", "item", "(II)I"⟩, prog_11_method_109_code, 3, (some .int)),
  (⟨"VectorShelfModel", "copy", "(IIIII)I"⟩, prog_11_method_110_code, 11, (some .int)),
  (⟨"VectorShelfModel", "rest", "(III)I"⟩, prog_11_method_111_code, 5, (some .int)),
  (⟨"VectorShelfModel", "shelve", "(IIII)I"⟩, prog_11_method_112_code, 8, (some .int)),
  (⟨"VectorShelfModel", "ask", "(II)I"⟩, prog_11_method_113_code, 6, (some .int)),
  (⟨"VectorShelfModel", "code", "(III)I"⟩, prog_11_method_114_code, 5, (some .int)),
  (⟨"VectorShelfModel", "taken", "(I)I"⟩, prog_11_method_116_code, 3, (some .int)),
  (⟨"VectorShelfModel", "over", "(I)I"⟩, prog_11_method_115_code, 1, (some .int)),
  (⟨"java/lang/Math", "min", "(II)I"⟩, prog_13_method_69_code, 2, (some .int)),
  (⟨"java/lang/Math", "max", "(II)I"⟩, prog_13_method_65_code, 2, (some .int)),
  (⟨"java/lang/Math", "floorDiv", "(II)I"⟩, prog_13_method_47_code, 3, (some .int)),
  (⟨"java/lang/Math", "abs", "(I)I"⟩, prog_13_method_59_code, 1, (some .int)),
  (⟨"java/lang/Integer", "bitCount", "(I)I"⟩, prog_12_method_49_code, 1, (some .int)),
  (⟨"VectorShelfLaw", "law", "([I)Z"⟩, code, 4, some .boolean)]
def mPos : List Nat := [344, 913, 919, 932, 936, 950, 955, 960, 969, 973, 977, 291, 540, 544, 548, 551, 555, 558, 562, 565, 571, 575, 580, 1005, 147, 514, 518, 522, 526, 587, 591, 658, 989, 1163, 311, 854, 858, 864, 869, 874, 882, 890, 894, 358, 1043, 1051, 1076, 1082, 1112, 1120, 1132, 1150, 141, 427, 431, 439, 443, 447, 451, 455, 459, 477, 495, 502, 506, 510, 601, 611, 615, 627, 635, 648, 667, 671, 680, 684, 985, 997, 1015, 244, 706, 842, 238, 694, 702, 710, 714, 717, 720, 724, 728, 733, 790, 798, 802, 806, 810, 814, 818, 822, 826, 830, 834, 838, 133, 417, 420, 423, 435, 469, 473, 480, 485, 490, 532, 536, 597, 619, 622, 631, 639, 644, 654, 663, 676, 690, 698, 846, 850, 886, 899, 904, 909, 924, 928, 942, 946, 965, 981, 1001, 1010, 1020, 1024, 1027, 1032, 1036, 1039, 1047, 1056, 1060, 1064, 1068, 1072, 1088, 1092, 1096, 1100, 1104, 1108, 1116, 1124, 1128, 1137, 1141, 1146, 1155, 1159, 1170, 1176, 1389, 1393, 1397, 1401, 1404, 1410, 1416, 1420, 1424, 1428, 1432, 1436, 1440, 1444, 1448, 1451, 1455, 1459, 1463, 1467, 1471, 1475, 1480, 1485, 1489, 1493, 1497, 1506, 1510, 1514, 1518, 1522, 1526, 1530, 1534, 1538, 1542, 1546, 1550, 1554, 1560, 1564, 1571, 1574, 1578, 1582, 1593, 1596, 1600, 1604, 1608, 1611, 1615, 1619, 1625, 1629, 1636, 1640, 1644, 1648, 1652, 1656, 1660, 1664, 1668, 1672, 1676, 1680, 1686, 1690, 1694, 1698, 1702, 1706, 1710, 1714, 1718, 1722, 1726, 1730, 1734, 1738, 1741, 1745, 1749, 1753, 1757, 1761, 1766, 1769, 1773, 1778, 1784, 1787, 1792, 1796, 1800, 1804, 1808, 1813, 1817, 1821, 1826, 1830, 1834, 1838, 1842, 1846, 1850, 1855, 1860, 1864, 1867, 462, 465, 498, 583, 604]
def mE (i : Nat) : MethodName × ByteArray × Nat × Option FieldType := mtb.getD i (⟨"", "", ""⟩, ⟨#[]⟩, 0, none)
def mN (i : Nat) : MethodName := (mE i).1
def mB (i : Nat) : ByteArray := (mE i).2.1
def mL (i : Nat) : Nat := (mE i).2.2.1
def mR (i : Nat) : Option FieldType := (mE i).2.2.2
def gTbl : List Cond := lw_tbl.filter goodWord
theorem g_in {i : Nat} {w : Cond} (h : lw_tbl[i]? = some w) (hg : goodWord w = true) : w ∈ gTbl := List.mem_filter.mpr ⟨List.mem_of_getElem? h, hg⟩
set_option maxRecDepth 100000 in
theorem mc_0 : Cond.code (mN 0) (mB 0) (mL 0) (mR 0) ∈ gTbl := g_in (i := 344) rfl rfl
set_option maxRecDepth 100000 in
theorem mc_1 : Cond.code (mN 1) (mB 1) (mL 1) (mR 1) ∈ gTbl := g_in (i := 913) rfl rfl
set_option maxRecDepth 100000 in
theorem mc_2 : Cond.code (mN 2) (mB 2) (mL 2) (mR 2) ∈ gTbl := g_in (i := 919) rfl rfl
set_option maxRecDepth 100000 in
theorem mc_3 : Cond.code (mN 3) (mB 3) (mL 3) (mR 3) ∈ gTbl := g_in (i := 932) rfl rfl
set_option maxRecDepth 100000 in
theorem mc_4 : Cond.code (mN 4) (mB 4) (mL 4) (mR 4) ∈ gTbl := g_in (i := 936) rfl rfl
set_option maxRecDepth 100000 in
theorem mc_5 : Cond.code (mN 5) (mB 5) (mL 5) (mR 5) ∈ gTbl := g_in (i := 950) rfl rfl
set_option maxRecDepth 100000 in
theorem mc_6 : Cond.code (mN 6) (mB 6) (mL 6) (mR 6) ∈ gTbl := g_in (i := 955) rfl rfl
set_option maxRecDepth 100000 in
theorem mc_7 : Cond.code (mN 7) (mB 7) (mL 7) (mR 7) ∈ gTbl := g_in (i := 960) rfl rfl
set_option maxRecDepth 100000 in
theorem mc_8 : Cond.code (mN 8) (mB 8) (mL 8) (mR 8) ∈ gTbl := g_in (i := 969) rfl rfl
set_option maxRecDepth 100000 in
theorem mc_9 : Cond.code (mN 9) (mB 9) (mL 9) (mR 9) ∈ gTbl := g_in (i := 973) rfl rfl
set_option maxRecDepth 100000 in
theorem mc_10 : Cond.code (mN 10) (mB 10) (mL 10) (mR 10) ∈ gTbl := g_in (i := 977) rfl rfl
set_option maxRecDepth 100000 in
theorem mc_11 : Cond.code (mN 11) (mB 11) (mL 11) (mR 11) ∈ gTbl := g_in (i := 291) rfl rfl
set_option maxRecDepth 100000 in
theorem mc_12 : Cond.code (mN 12) (mB 12) (mL 12) (mR 12) ∈ gTbl := g_in (i := 540) rfl rfl
set_option maxRecDepth 100000 in
theorem mc_13 : Cond.code (mN 13) (mB 13) (mL 13) (mR 13) ∈ gTbl := g_in (i := 544) rfl rfl
set_option maxRecDepth 100000 in
theorem mc_14 : Cond.code (mN 14) (mB 14) (mL 14) (mR 14) ∈ gTbl := g_in (i := 548) rfl rfl
set_option maxRecDepth 100000 in
theorem mc_15 : Cond.code (mN 15) (mB 15) (mL 15) (mR 15) ∈ gTbl := g_in (i := 551) rfl rfl
set_option maxRecDepth 100000 in
theorem mc_16 : Cond.code (mN 16) (mB 16) (mL 16) (mR 16) ∈ gTbl := g_in (i := 555) rfl rfl
set_option maxRecDepth 100000 in
theorem mc_17 : Cond.code (mN 17) (mB 17) (mL 17) (mR 17) ∈ gTbl := g_in (i := 558) rfl rfl
set_option maxRecDepth 100000 in
theorem mc_18 : Cond.code (mN 18) (mB 18) (mL 18) (mR 18) ∈ gTbl := g_in (i := 562) rfl rfl
set_option maxRecDepth 100000 in
theorem mc_19 : Cond.code (mN 19) (mB 19) (mL 19) (mR 19) ∈ gTbl := g_in (i := 565) rfl rfl
set_option maxRecDepth 100000 in
theorem mc_20 : Cond.code (mN 20) (mB 20) (mL 20) (mR 20) ∈ gTbl := g_in (i := 571) rfl rfl
set_option maxRecDepth 100000 in
theorem mc_21 : Cond.code (mN 21) (mB 21) (mL 21) (mR 21) ∈ gTbl := g_in (i := 575) rfl rfl
set_option maxRecDepth 100000 in
theorem mc_22 : Cond.code (mN 22) (mB 22) (mL 22) (mR 22) ∈ gTbl := g_in (i := 580) rfl rfl
set_option maxRecDepth 100000 in
theorem mc_23 : Cond.code (mN 23) (mB 23) (mL 23) (mR 23) ∈ gTbl := g_in (i := 1005) rfl rfl
set_option maxRecDepth 100000 in
theorem mc_24 : Cond.code (mN 24) (mB 24) (mL 24) (mR 24) ∈ gTbl := g_in (i := 147) rfl rfl
set_option maxRecDepth 100000 in
theorem mc_25 : Cond.code (mN 25) (mB 25) (mL 25) (mR 25) ∈ gTbl := g_in (i := 514) rfl rfl
set_option maxRecDepth 100000 in
theorem mc_26 : Cond.code (mN 26) (mB 26) (mL 26) (mR 26) ∈ gTbl := g_in (i := 518) rfl rfl
set_option maxRecDepth 100000 in
theorem mc_27 : Cond.code (mN 27) (mB 27) (mL 27) (mR 27) ∈ gTbl := g_in (i := 522) rfl rfl
set_option maxRecDepth 100000 in
theorem mc_28 : Cond.code (mN 28) (mB 28) (mL 28) (mR 28) ∈ gTbl := g_in (i := 526) rfl rfl
set_option maxRecDepth 100000 in
theorem mc_29 : Cond.code (mN 29) (mB 29) (mL 29) (mR 29) ∈ gTbl := g_in (i := 587) rfl rfl
set_option maxRecDepth 100000 in
theorem mc_30 : Cond.code (mN 30) (mB 30) (mL 30) (mR 30) ∈ gTbl := g_in (i := 591) rfl rfl
set_option maxRecDepth 100000 in
theorem mc_31 : Cond.code (mN 31) (mB 31) (mL 31) (mR 31) ∈ gTbl := g_in (i := 658) rfl rfl
set_option maxRecDepth 100000 in
theorem mc_32 : Cond.code (mN 32) (mB 32) (mL 32) (mR 32) ∈ gTbl := g_in (i := 989) rfl rfl
set_option maxRecDepth 100000 in
theorem mc_33 : Cond.code (mN 33) (mB 33) (mL 33) (mR 33) ∈ gTbl := g_in (i := 1163) rfl rfl
set_option maxRecDepth 100000 in
theorem mc_34 : Cond.code (mN 34) (mB 34) (mL 34) (mR 34) ∈ gTbl := g_in (i := 311) rfl rfl
set_option maxRecDepth 100000 in
theorem mc_35 : Cond.code (mN 35) (mB 35) (mL 35) (mR 35) ∈ gTbl := g_in (i := 854) rfl rfl
set_option maxRecDepth 100000 in
theorem mc_36 : Cond.code (mN 36) (mB 36) (mL 36) (mR 36) ∈ gTbl := g_in (i := 858) rfl rfl
set_option maxRecDepth 100000 in
theorem mc_37 : Cond.code (mN 37) (mB 37) (mL 37) (mR 37) ∈ gTbl := g_in (i := 864) rfl rfl
set_option maxRecDepth 100000 in
theorem mc_38 : Cond.code (mN 38) (mB 38) (mL 38) (mR 38) ∈ gTbl := g_in (i := 869) rfl rfl
set_option maxRecDepth 100000 in
theorem mc_39 : Cond.code (mN 39) (mB 39) (mL 39) (mR 39) ∈ gTbl := g_in (i := 874) rfl rfl
set_option maxRecDepth 100000 in
theorem mc_40 : Cond.code (mN 40) (mB 40) (mL 40) (mR 40) ∈ gTbl := g_in (i := 882) rfl rfl
set_option maxRecDepth 100000 in
theorem mc_41 : Cond.code (mN 41) (mB 41) (mL 41) (mR 41) ∈ gTbl := g_in (i := 890) rfl rfl
set_option maxRecDepth 100000 in
theorem mc_42 : Cond.code (mN 42) (mB 42) (mL 42) (mR 42) ∈ gTbl := g_in (i := 894) rfl rfl
set_option maxRecDepth 100000 in
theorem mc_43 : Cond.code (mN 43) (mB 43) (mL 43) (mR 43) ∈ gTbl := g_in (i := 358) rfl rfl
set_option maxRecDepth 100000 in
theorem mc_44 : Cond.code (mN 44) (mB 44) (mL 44) (mR 44) ∈ gTbl := g_in (i := 1043) rfl rfl
set_option maxRecDepth 100000 in
theorem mc_45 : Cond.code (mN 45) (mB 45) (mL 45) (mR 45) ∈ gTbl := g_in (i := 1051) rfl rfl
set_option maxRecDepth 100000 in
theorem mc_46 : Cond.code (mN 46) (mB 46) (mL 46) (mR 46) ∈ gTbl := g_in (i := 1076) rfl rfl
set_option maxRecDepth 100000 in
theorem mc_47 : Cond.code (mN 47) (mB 47) (mL 47) (mR 47) ∈ gTbl := g_in (i := 1082) rfl rfl
set_option maxRecDepth 100000 in
theorem mc_48 : Cond.code (mN 48) (mB 48) (mL 48) (mR 48) ∈ gTbl := g_in (i := 1112) rfl rfl
set_option maxRecDepth 100000 in
theorem mc_49 : Cond.code (mN 49) (mB 49) (mL 49) (mR 49) ∈ gTbl := g_in (i := 1120) rfl rfl
set_option maxRecDepth 100000 in
theorem mc_50 : Cond.code (mN 50) (mB 50) (mL 50) (mR 50) ∈ gTbl := g_in (i := 1132) rfl rfl
set_option maxRecDepth 100000 in
theorem mc_51 : Cond.code (mN 51) (mB 51) (mL 51) (mR 51) ∈ gTbl := g_in (i := 1150) rfl rfl
set_option maxRecDepth 100000 in
theorem mc_52 : Cond.code (mN 52) (mB 52) (mL 52) (mR 52) ∈ gTbl := g_in (i := 141) rfl rfl
set_option maxRecDepth 100000 in
theorem mc_53 : Cond.code (mN 53) (mB 53) (mL 53) (mR 53) ∈ gTbl := g_in (i := 427) rfl rfl
set_option maxRecDepth 100000 in
theorem mc_54 : Cond.code (mN 54) (mB 54) (mL 54) (mR 54) ∈ gTbl := g_in (i := 431) rfl rfl
set_option maxRecDepth 100000 in
theorem mc_55 : Cond.code (mN 55) (mB 55) (mL 55) (mR 55) ∈ gTbl := g_in (i := 439) rfl rfl
set_option maxRecDepth 100000 in
theorem mc_56 : Cond.code (mN 56) (mB 56) (mL 56) (mR 56) ∈ gTbl := g_in (i := 443) rfl rfl
set_option maxRecDepth 100000 in
theorem mc_57 : Cond.code (mN 57) (mB 57) (mL 57) (mR 57) ∈ gTbl := g_in (i := 447) rfl rfl
set_option maxRecDepth 100000 in
theorem mc_58 : Cond.code (mN 58) (mB 58) (mL 58) (mR 58) ∈ gTbl := g_in (i := 451) rfl rfl
set_option maxRecDepth 100000 in
theorem mc_59 : Cond.code (mN 59) (mB 59) (mL 59) (mR 59) ∈ gTbl := g_in (i := 455) rfl rfl
set_option maxRecDepth 100000 in
theorem mc_60 : Cond.code (mN 60) (mB 60) (mL 60) (mR 60) ∈ gTbl := g_in (i := 459) rfl rfl
set_option maxRecDepth 100000 in
theorem mc_61 : Cond.code (mN 61) (mB 61) (mL 61) (mR 61) ∈ gTbl := g_in (i := 477) rfl rfl
set_option maxRecDepth 100000 in
theorem mc_62 : Cond.code (mN 62) (mB 62) (mL 62) (mR 62) ∈ gTbl := g_in (i := 495) rfl rfl
set_option maxRecDepth 100000 in
theorem mc_63 : Cond.code (mN 63) (mB 63) (mL 63) (mR 63) ∈ gTbl := g_in (i := 502) rfl rfl
set_option maxRecDepth 100000 in
theorem mc_64 : Cond.code (mN 64) (mB 64) (mL 64) (mR 64) ∈ gTbl := g_in (i := 506) rfl rfl
set_option maxRecDepth 100000 in
theorem mc_65 : Cond.code (mN 65) (mB 65) (mL 65) (mR 65) ∈ gTbl := g_in (i := 510) rfl rfl
set_option maxRecDepth 100000 in
theorem mc_66 : Cond.code (mN 66) (mB 66) (mL 66) (mR 66) ∈ gTbl := g_in (i := 601) rfl rfl
set_option maxRecDepth 100000 in
theorem mc_67 : Cond.code (mN 67) (mB 67) (mL 67) (mR 67) ∈ gTbl := g_in (i := 611) rfl rfl
set_option maxRecDepth 100000 in
theorem mc_68 : Cond.code (mN 68) (mB 68) (mL 68) (mR 68) ∈ gTbl := g_in (i := 615) rfl rfl
set_option maxRecDepth 100000 in
theorem mc_69 : Cond.code (mN 69) (mB 69) (mL 69) (mR 69) ∈ gTbl := g_in (i := 627) rfl rfl
set_option maxRecDepth 100000 in
theorem mc_70 : Cond.code (mN 70) (mB 70) (mL 70) (mR 70) ∈ gTbl := g_in (i := 635) rfl rfl
set_option maxRecDepth 100000 in
theorem mc_71 : Cond.code (mN 71) (mB 71) (mL 71) (mR 71) ∈ gTbl := g_in (i := 648) rfl rfl
set_option maxRecDepth 100000 in
theorem mc_72 : Cond.code (mN 72) (mB 72) (mL 72) (mR 72) ∈ gTbl := g_in (i := 667) rfl rfl
set_option maxRecDepth 100000 in
theorem mc_73 : Cond.code (mN 73) (mB 73) (mL 73) (mR 73) ∈ gTbl := g_in (i := 671) rfl rfl
set_option maxRecDepth 100000 in
theorem mc_74 : Cond.code (mN 74) (mB 74) (mL 74) (mR 74) ∈ gTbl := g_in (i := 680) rfl rfl
set_option maxRecDepth 100000 in
theorem mc_75 : Cond.code (mN 75) (mB 75) (mL 75) (mR 75) ∈ gTbl := g_in (i := 684) rfl rfl
set_option maxRecDepth 100000 in
theorem mc_76 : Cond.code (mN 76) (mB 76) (mL 76) (mR 76) ∈ gTbl := g_in (i := 985) rfl rfl
set_option maxRecDepth 100000 in
theorem mc_77 : Cond.code (mN 77) (mB 77) (mL 77) (mR 77) ∈ gTbl := g_in (i := 997) rfl rfl
set_option maxRecDepth 100000 in
theorem mc_78 : Cond.code (mN 78) (mB 78) (mL 78) (mR 78) ∈ gTbl := g_in (i := 1015) rfl rfl
set_option maxRecDepth 100000 in
theorem mc_79 : Cond.code (mN 79) (mB 79) (mL 79) (mR 79) ∈ gTbl := g_in (i := 244) rfl rfl
set_option maxRecDepth 100000 in
theorem mc_80 : Cond.code (mN 80) (mB 80) (mL 80) (mR 80) ∈ gTbl := g_in (i := 706) rfl rfl
set_option maxRecDepth 100000 in
theorem mc_81 : Cond.code (mN 81) (mB 81) (mL 81) (mR 81) ∈ gTbl := g_in (i := 842) rfl rfl
set_option maxRecDepth 100000 in
theorem mc_82 : Cond.code (mN 82) (mB 82) (mL 82) (mR 82) ∈ gTbl := g_in (i := 238) rfl rfl
set_option maxRecDepth 100000 in
theorem mc_83 : Cond.code (mN 83) (mB 83) (mL 83) (mR 83) ∈ gTbl := g_in (i := 694) rfl rfl
set_option maxRecDepth 100000 in
theorem mc_84 : Cond.code (mN 84) (mB 84) (mL 84) (mR 84) ∈ gTbl := g_in (i := 702) rfl rfl
set_option maxRecDepth 100000 in
theorem mc_85 : Cond.code (mN 85) (mB 85) (mL 85) (mR 85) ∈ gTbl := g_in (i := 710) rfl rfl
set_option maxRecDepth 100000 in
theorem mc_86 : Cond.code (mN 86) (mB 86) (mL 86) (mR 86) ∈ gTbl := g_in (i := 714) rfl rfl
set_option maxRecDepth 100000 in
theorem mc_87 : Cond.code (mN 87) (mB 87) (mL 87) (mR 87) ∈ gTbl := g_in (i := 717) rfl rfl
set_option maxRecDepth 100000 in
theorem mc_88 : Cond.code (mN 88) (mB 88) (mL 88) (mR 88) ∈ gTbl := g_in (i := 720) rfl rfl
set_option maxRecDepth 100000 in
theorem mc_89 : Cond.code (mN 89) (mB 89) (mL 89) (mR 89) ∈ gTbl := g_in (i := 724) rfl rfl
set_option maxRecDepth 100000 in
theorem mc_90 : Cond.code (mN 90) (mB 90) (mL 90) (mR 90) ∈ gTbl := g_in (i := 728) rfl rfl
set_option maxRecDepth 100000 in
theorem mc_91 : Cond.code (mN 91) (mB 91) (mL 91) (mR 91) ∈ gTbl := g_in (i := 733) rfl rfl
set_option maxRecDepth 100000 in
theorem mc_92 : Cond.code (mN 92) (mB 92) (mL 92) (mR 92) ∈ gTbl := g_in (i := 790) rfl rfl
set_option maxRecDepth 100000 in
theorem mc_93 : Cond.code (mN 93) (mB 93) (mL 93) (mR 93) ∈ gTbl := g_in (i := 798) rfl rfl
set_option maxRecDepth 100000 in
theorem mc_94 : Cond.code (mN 94) (mB 94) (mL 94) (mR 94) ∈ gTbl := g_in (i := 802) rfl rfl
set_option maxRecDepth 100000 in
theorem mc_95 : Cond.code (mN 95) (mB 95) (mL 95) (mR 95) ∈ gTbl := g_in (i := 806) rfl rfl
set_option maxRecDepth 100000 in
theorem mc_96 : Cond.code (mN 96) (mB 96) (mL 96) (mR 96) ∈ gTbl := g_in (i := 810) rfl rfl
set_option maxRecDepth 100000 in
theorem mc_97 : Cond.code (mN 97) (mB 97) (mL 97) (mR 97) ∈ gTbl := g_in (i := 814) rfl rfl
set_option maxRecDepth 100000 in
theorem mc_98 : Cond.code (mN 98) (mB 98) (mL 98) (mR 98) ∈ gTbl := g_in (i := 818) rfl rfl
set_option maxRecDepth 100000 in
theorem mc_99 : Cond.code (mN 99) (mB 99) (mL 99) (mR 99) ∈ gTbl := g_in (i := 822) rfl rfl
set_option maxRecDepth 100000 in
theorem mc_100 : Cond.code (mN 100) (mB 100) (mL 100) (mR 100) ∈ gTbl := g_in (i := 826) rfl rfl
set_option maxRecDepth 100000 in
theorem mc_101 : Cond.code (mN 101) (mB 101) (mL 101) (mR 101) ∈ gTbl := g_in (i := 830) rfl rfl
set_option maxRecDepth 100000 in
theorem mc_102 : Cond.code (mN 102) (mB 102) (mL 102) (mR 102) ∈ gTbl := g_in (i := 834) rfl rfl
set_option maxRecDepth 100000 in
theorem mc_103 : Cond.code (mN 103) (mB 103) (mL 103) (mR 103) ∈ gTbl := g_in (i := 838) rfl rfl
set_option maxRecDepth 100000 in
theorem mc_104 : Cond.code (mN 104) (mB 104) (mL 104) (mR 104) ∈ gTbl := g_in (i := 133) rfl rfl
set_option maxRecDepth 100000 in
theorem mc_105 : Cond.code (mN 105) (mB 105) (mL 105) (mR 105) ∈ gTbl := g_in (i := 417) rfl rfl
set_option maxRecDepth 100000 in
theorem mc_106 : Cond.code (mN 106) (mB 106) (mL 106) (mR 106) ∈ gTbl := g_in (i := 420) rfl rfl
set_option maxRecDepth 100000 in
theorem mc_107 : Cond.code (mN 107) (mB 107) (mL 107) (mR 107) ∈ gTbl := g_in (i := 423) rfl rfl
set_option maxRecDepth 100000 in
theorem mc_108 : Cond.code (mN 108) (mB 108) (mL 108) (mR 108) ∈ gTbl := g_in (i := 435) rfl rfl
set_option maxRecDepth 100000 in
theorem mc_109 : Cond.code (mN 109) (mB 109) (mL 109) (mR 109) ∈ gTbl := g_in (i := 469) rfl rfl
set_option maxRecDepth 100000 in
theorem mc_110 : Cond.code (mN 110) (mB 110) (mL 110) (mR 110) ∈ gTbl := g_in (i := 473) rfl rfl
set_option maxRecDepth 100000 in
theorem mc_111 : Cond.code (mN 111) (mB 111) (mL 111) (mR 111) ∈ gTbl := g_in (i := 480) rfl rfl
set_option maxRecDepth 100000 in
theorem mc_112 : Cond.code (mN 112) (mB 112) (mL 112) (mR 112) ∈ gTbl := g_in (i := 485) rfl rfl
set_option maxRecDepth 100000 in
theorem mc_113 : Cond.code (mN 113) (mB 113) (mL 113) (mR 113) ∈ gTbl := g_in (i := 490) rfl rfl
set_option maxRecDepth 100000 in
theorem mc_114 : Cond.code (mN 114) (mB 114) (mL 114) (mR 114) ∈ gTbl := g_in (i := 532) rfl rfl
set_option maxRecDepth 100000 in
theorem mc_115 : Cond.code (mN 115) (mB 115) (mL 115) (mR 115) ∈ gTbl := g_in (i := 536) rfl rfl
set_option maxRecDepth 100000 in
theorem mc_116 : Cond.code (mN 116) (mB 116) (mL 116) (mR 116) ∈ gTbl := g_in (i := 597) rfl rfl
set_option maxRecDepth 100000 in
theorem mc_117 : Cond.code (mN 117) (mB 117) (mL 117) (mR 117) ∈ gTbl := g_in (i := 619) rfl rfl
set_option maxRecDepth 100000 in
theorem mc_118 : Cond.code (mN 118) (mB 118) (mL 118) (mR 118) ∈ gTbl := g_in (i := 622) rfl rfl
set_option maxRecDepth 100000 in
theorem mc_119 : Cond.code (mN 119) (mB 119) (mL 119) (mR 119) ∈ gTbl := g_in (i := 631) rfl rfl
set_option maxRecDepth 100000 in
theorem mc_120 : Cond.code (mN 120) (mB 120) (mL 120) (mR 120) ∈ gTbl := g_in (i := 639) rfl rfl
set_option maxRecDepth 100000 in
theorem mc_121 : Cond.code (mN 121) (mB 121) (mL 121) (mR 121) ∈ gTbl := g_in (i := 644) rfl rfl
set_option maxRecDepth 100000 in
theorem mc_122 : Cond.code (mN 122) (mB 122) (mL 122) (mR 122) ∈ gTbl := g_in (i := 654) rfl rfl
set_option maxRecDepth 100000 in
theorem mc_123 : Cond.code (mN 123) (mB 123) (mL 123) (mR 123) ∈ gTbl := g_in (i := 663) rfl rfl
set_option maxRecDepth 100000 in
theorem mc_124 : Cond.code (mN 124) (mB 124) (mL 124) (mR 124) ∈ gTbl := g_in (i := 676) rfl rfl
set_option maxRecDepth 100000 in
theorem mc_125 : Cond.code (mN 125) (mB 125) (mL 125) (mR 125) ∈ gTbl := g_in (i := 690) rfl rfl
set_option maxRecDepth 100000 in
theorem mc_126 : Cond.code (mN 126) (mB 126) (mL 126) (mR 126) ∈ gTbl := g_in (i := 698) rfl rfl
set_option maxRecDepth 100000 in
theorem mc_127 : Cond.code (mN 127) (mB 127) (mL 127) (mR 127) ∈ gTbl := g_in (i := 846) rfl rfl
set_option maxRecDepth 100000 in
theorem mc_128 : Cond.code (mN 128) (mB 128) (mL 128) (mR 128) ∈ gTbl := g_in (i := 850) rfl rfl
set_option maxRecDepth 100000 in
theorem mc_129 : Cond.code (mN 129) (mB 129) (mL 129) (mR 129) ∈ gTbl := g_in (i := 886) rfl rfl
set_option maxRecDepth 100000 in
theorem mc_130 : Cond.code (mN 130) (mB 130) (mL 130) (mR 130) ∈ gTbl := g_in (i := 899) rfl rfl
set_option maxRecDepth 100000 in
theorem mc_131 : Cond.code (mN 131) (mB 131) (mL 131) (mR 131) ∈ gTbl := g_in (i := 904) rfl rfl
set_option maxRecDepth 100000 in
theorem mc_132 : Cond.code (mN 132) (mB 132) (mL 132) (mR 132) ∈ gTbl := g_in (i := 909) rfl rfl
set_option maxRecDepth 100000 in
theorem mc_133 : Cond.code (mN 133) (mB 133) (mL 133) (mR 133) ∈ gTbl := g_in (i := 924) rfl rfl
set_option maxRecDepth 100000 in
theorem mc_134 : Cond.code (mN 134) (mB 134) (mL 134) (mR 134) ∈ gTbl := g_in (i := 928) rfl rfl
set_option maxRecDepth 100000 in
theorem mc_135 : Cond.code (mN 135) (mB 135) (mL 135) (mR 135) ∈ gTbl := g_in (i := 942) rfl rfl
set_option maxRecDepth 100000 in
theorem mc_136 : Cond.code (mN 136) (mB 136) (mL 136) (mR 136) ∈ gTbl := g_in (i := 946) rfl rfl
set_option maxRecDepth 100000 in
theorem mc_137 : Cond.code (mN 137) (mB 137) (mL 137) (mR 137) ∈ gTbl := g_in (i := 965) rfl rfl
set_option maxRecDepth 100000 in
theorem mc_138 : Cond.code (mN 138) (mB 138) (mL 138) (mR 138) ∈ gTbl := g_in (i := 981) rfl rfl
set_option maxRecDepth 100000 in
theorem mc_139 : Cond.code (mN 139) (mB 139) (mL 139) (mR 139) ∈ gTbl := g_in (i := 1001) rfl rfl
set_option maxRecDepth 100000 in
theorem mc_140 : Cond.code (mN 140) (mB 140) (mL 140) (mR 140) ∈ gTbl := g_in (i := 1010) rfl rfl
set_option maxRecDepth 100000 in
theorem mc_141 : Cond.code (mN 141) (mB 141) (mL 141) (mR 141) ∈ gTbl := g_in (i := 1020) rfl rfl
set_option maxRecDepth 100000 in
theorem mc_142 : Cond.code (mN 142) (mB 142) (mL 142) (mR 142) ∈ gTbl := g_in (i := 1024) rfl rfl
set_option maxRecDepth 100000 in
theorem mc_143 : Cond.code (mN 143) (mB 143) (mL 143) (mR 143) ∈ gTbl := g_in (i := 1027) rfl rfl
set_option maxRecDepth 100000 in
theorem mc_144 : Cond.code (mN 144) (mB 144) (mL 144) (mR 144) ∈ gTbl := g_in (i := 1032) rfl rfl
set_option maxRecDepth 100000 in
theorem mc_145 : Cond.code (mN 145) (mB 145) (mL 145) (mR 145) ∈ gTbl := g_in (i := 1036) rfl rfl
set_option maxRecDepth 100000 in
theorem mc_146 : Cond.code (mN 146) (mB 146) (mL 146) (mR 146) ∈ gTbl := g_in (i := 1039) rfl rfl
set_option maxRecDepth 100000 in
theorem mc_147 : Cond.code (mN 147) (mB 147) (mL 147) (mR 147) ∈ gTbl := g_in (i := 1047) rfl rfl
set_option maxRecDepth 100000 in
theorem mc_148 : Cond.code (mN 148) (mB 148) (mL 148) (mR 148) ∈ gTbl := g_in (i := 1056) rfl rfl
set_option maxRecDepth 100000 in
theorem mc_149 : Cond.code (mN 149) (mB 149) (mL 149) (mR 149) ∈ gTbl := g_in (i := 1060) rfl rfl
set_option maxRecDepth 100000 in
theorem mc_150 : Cond.code (mN 150) (mB 150) (mL 150) (mR 150) ∈ gTbl := g_in (i := 1064) rfl rfl
set_option maxRecDepth 100000 in
theorem mc_151 : Cond.code (mN 151) (mB 151) (mL 151) (mR 151) ∈ gTbl := g_in (i := 1068) rfl rfl
set_option maxRecDepth 100000 in
theorem mc_152 : Cond.code (mN 152) (mB 152) (mL 152) (mR 152) ∈ gTbl := g_in (i := 1072) rfl rfl
set_option maxRecDepth 100000 in
theorem mc_153 : Cond.code (mN 153) (mB 153) (mL 153) (mR 153) ∈ gTbl := g_in (i := 1088) rfl rfl
set_option maxRecDepth 100000 in
theorem mc_154 : Cond.code (mN 154) (mB 154) (mL 154) (mR 154) ∈ gTbl := g_in (i := 1092) rfl rfl
set_option maxRecDepth 100000 in
theorem mc_155 : Cond.code (mN 155) (mB 155) (mL 155) (mR 155) ∈ gTbl := g_in (i := 1096) rfl rfl
set_option maxRecDepth 100000 in
theorem mc_156 : Cond.code (mN 156) (mB 156) (mL 156) (mR 156) ∈ gTbl := g_in (i := 1100) rfl rfl
set_option maxRecDepth 100000 in
theorem mc_157 : Cond.code (mN 157) (mB 157) (mL 157) (mR 157) ∈ gTbl := g_in (i := 1104) rfl rfl
set_option maxRecDepth 100000 in
theorem mc_158 : Cond.code (mN 158) (mB 158) (mL 158) (mR 158) ∈ gTbl := g_in (i := 1108) rfl rfl
set_option maxRecDepth 100000 in
theorem mc_159 : Cond.code (mN 159) (mB 159) (mL 159) (mR 159) ∈ gTbl := g_in (i := 1116) rfl rfl
set_option maxRecDepth 100000 in
theorem mc_160 : Cond.code (mN 160) (mB 160) (mL 160) (mR 160) ∈ gTbl := g_in (i := 1124) rfl rfl
set_option maxRecDepth 100000 in
theorem mc_161 : Cond.code (mN 161) (mB 161) (mL 161) (mR 161) ∈ gTbl := g_in (i := 1128) rfl rfl
set_option maxRecDepth 100000 in
theorem mc_162 : Cond.code (mN 162) (mB 162) (mL 162) (mR 162) ∈ gTbl := g_in (i := 1137) rfl rfl
set_option maxRecDepth 100000 in
theorem mc_163 : Cond.code (mN 163) (mB 163) (mL 163) (mR 163) ∈ gTbl := g_in (i := 1141) rfl rfl
set_option maxRecDepth 100000 in
theorem mc_164 : Cond.code (mN 164) (mB 164) (mL 164) (mR 164) ∈ gTbl := g_in (i := 1146) rfl rfl
set_option maxRecDepth 100000 in
theorem mc_165 : Cond.code (mN 165) (mB 165) (mL 165) (mR 165) ∈ gTbl := g_in (i := 1155) rfl rfl
set_option maxRecDepth 100000 in
theorem mc_166 : Cond.code (mN 166) (mB 166) (mL 166) (mR 166) ∈ gTbl := g_in (i := 1159) rfl rfl
set_option maxRecDepth 100000 in
theorem mc_167 : Cond.code (mN 167) (mB 167) (mL 167) (mR 167) ∈ gTbl := g_in (i := 1170) rfl rfl
set_option maxRecDepth 100000 in
theorem mc_168 : Cond.code (mN 168) (mB 168) (mL 168) (mR 168) ∈ gTbl := g_in (i := 1176) rfl rfl
set_option maxRecDepth 100000 in
theorem mc_169 : Cond.code (mN 169) (mB 169) (mL 169) (mR 169) ∈ gTbl := g_in (i := 1389) rfl rfl
set_option maxRecDepth 100000 in
theorem mc_170 : Cond.code (mN 170) (mB 170) (mL 170) (mR 170) ∈ gTbl := g_in (i := 1393) rfl rfl
set_option maxRecDepth 100000 in
theorem mc_171 : Cond.code (mN 171) (mB 171) (mL 171) (mR 171) ∈ gTbl := g_in (i := 1397) rfl rfl
set_option maxRecDepth 100000 in
theorem mc_172 : Cond.code (mN 172) (mB 172) (mL 172) (mR 172) ∈ gTbl := g_in (i := 1401) rfl rfl
set_option maxRecDepth 100000 in
theorem mc_173 : Cond.code (mN 173) (mB 173) (mL 173) (mR 173) ∈ gTbl := g_in (i := 1404) rfl rfl
set_option maxRecDepth 100000 in
theorem mc_174 : Cond.code (mN 174) (mB 174) (mL 174) (mR 174) ∈ gTbl := g_in (i := 1410) rfl rfl
set_option maxRecDepth 100000 in
theorem mc_175 : Cond.code (mN 175) (mB 175) (mL 175) (mR 175) ∈ gTbl := g_in (i := 1416) rfl rfl
set_option maxRecDepth 100000 in
theorem mc_176 : Cond.code (mN 176) (mB 176) (mL 176) (mR 176) ∈ gTbl := g_in (i := 1420) rfl rfl
set_option maxRecDepth 100000 in
theorem mc_177 : Cond.code (mN 177) (mB 177) (mL 177) (mR 177) ∈ gTbl := g_in (i := 1424) rfl rfl
set_option maxRecDepth 100000 in
theorem mc_178 : Cond.code (mN 178) (mB 178) (mL 178) (mR 178) ∈ gTbl := g_in (i := 1428) rfl rfl
set_option maxRecDepth 100000 in
theorem mc_179 : Cond.code (mN 179) (mB 179) (mL 179) (mR 179) ∈ gTbl := g_in (i := 1432) rfl rfl
set_option maxRecDepth 100000 in
theorem mc_180 : Cond.code (mN 180) (mB 180) (mL 180) (mR 180) ∈ gTbl := g_in (i := 1436) rfl rfl
set_option maxRecDepth 100000 in
theorem mc_181 : Cond.code (mN 181) (mB 181) (mL 181) (mR 181) ∈ gTbl := g_in (i := 1440) rfl rfl
set_option maxRecDepth 100000 in
theorem mc_182 : Cond.code (mN 182) (mB 182) (mL 182) (mR 182) ∈ gTbl := g_in (i := 1444) rfl rfl
set_option maxRecDepth 100000 in
theorem mc_183 : Cond.code (mN 183) (mB 183) (mL 183) (mR 183) ∈ gTbl := g_in (i := 1448) rfl rfl
set_option maxRecDepth 100000 in
theorem mc_184 : Cond.code (mN 184) (mB 184) (mL 184) (mR 184) ∈ gTbl := g_in (i := 1451) rfl rfl
set_option maxRecDepth 100000 in
theorem mc_185 : Cond.code (mN 185) (mB 185) (mL 185) (mR 185) ∈ gTbl := g_in (i := 1455) rfl rfl
set_option maxRecDepth 100000 in
theorem mc_186 : Cond.code (mN 186) (mB 186) (mL 186) (mR 186) ∈ gTbl := g_in (i := 1459) rfl rfl
set_option maxRecDepth 100000 in
theorem mc_187 : Cond.code (mN 187) (mB 187) (mL 187) (mR 187) ∈ gTbl := g_in (i := 1463) rfl rfl
set_option maxRecDepth 100000 in
theorem mc_188 : Cond.code (mN 188) (mB 188) (mL 188) (mR 188) ∈ gTbl := g_in (i := 1467) rfl rfl
set_option maxRecDepth 100000 in
theorem mc_189 : Cond.code (mN 189) (mB 189) (mL 189) (mR 189) ∈ gTbl := g_in (i := 1471) rfl rfl
set_option maxRecDepth 100000 in
theorem mc_190 : Cond.code (mN 190) (mB 190) (mL 190) (mR 190) ∈ gTbl := g_in (i := 1475) rfl rfl
set_option maxRecDepth 100000 in
theorem mc_191 : Cond.code (mN 191) (mB 191) (mL 191) (mR 191) ∈ gTbl := g_in (i := 1480) rfl rfl
set_option maxRecDepth 100000 in
theorem mc_192 : Cond.code (mN 192) (mB 192) (mL 192) (mR 192) ∈ gTbl := g_in (i := 1485) rfl rfl
set_option maxRecDepth 100000 in
theorem mc_193 : Cond.code (mN 193) (mB 193) (mL 193) (mR 193) ∈ gTbl := g_in (i := 1489) rfl rfl
set_option maxRecDepth 100000 in
theorem mc_194 : Cond.code (mN 194) (mB 194) (mL 194) (mR 194) ∈ gTbl := g_in (i := 1493) rfl rfl
set_option maxRecDepth 100000 in
theorem mc_195 : Cond.code (mN 195) (mB 195) (mL 195) (mR 195) ∈ gTbl := g_in (i := 1497) rfl rfl
set_option maxRecDepth 100000 in
theorem mc_196 : Cond.code (mN 196) (mB 196) (mL 196) (mR 196) ∈ gTbl := g_in (i := 1506) rfl rfl
set_option maxRecDepth 100000 in
theorem mc_197 : Cond.code (mN 197) (mB 197) (mL 197) (mR 197) ∈ gTbl := g_in (i := 1510) rfl rfl
set_option maxRecDepth 100000 in
theorem mc_198 : Cond.code (mN 198) (mB 198) (mL 198) (mR 198) ∈ gTbl := g_in (i := 1514) rfl rfl
set_option maxRecDepth 100000 in
theorem mc_199 : Cond.code (mN 199) (mB 199) (mL 199) (mR 199) ∈ gTbl := g_in (i := 1518) rfl rfl
set_option maxRecDepth 100000 in
theorem mc_200 : Cond.code (mN 200) (mB 200) (mL 200) (mR 200) ∈ gTbl := g_in (i := 1522) rfl rfl
set_option maxRecDepth 100000 in
theorem mc_201 : Cond.code (mN 201) (mB 201) (mL 201) (mR 201) ∈ gTbl := g_in (i := 1526) rfl rfl
set_option maxRecDepth 100000 in
theorem mc_202 : Cond.code (mN 202) (mB 202) (mL 202) (mR 202) ∈ gTbl := g_in (i := 1530) rfl rfl
set_option maxRecDepth 100000 in
theorem mc_203 : Cond.code (mN 203) (mB 203) (mL 203) (mR 203) ∈ gTbl := g_in (i := 1534) rfl rfl
set_option maxRecDepth 100000 in
theorem mc_204 : Cond.code (mN 204) (mB 204) (mL 204) (mR 204) ∈ gTbl := g_in (i := 1538) rfl rfl
set_option maxRecDepth 100000 in
theorem mc_205 : Cond.code (mN 205) (mB 205) (mL 205) (mR 205) ∈ gTbl := g_in (i := 1542) rfl rfl
set_option maxRecDepth 100000 in
theorem mc_206 : Cond.code (mN 206) (mB 206) (mL 206) (mR 206) ∈ gTbl := g_in (i := 1546) rfl rfl
set_option maxRecDepth 100000 in
theorem mc_207 : Cond.code (mN 207) (mB 207) (mL 207) (mR 207) ∈ gTbl := g_in (i := 1550) rfl rfl
set_option maxRecDepth 100000 in
theorem mc_208 : Cond.code (mN 208) (mB 208) (mL 208) (mR 208) ∈ gTbl := g_in (i := 1554) rfl rfl
set_option maxRecDepth 100000 in
theorem mc_209 : Cond.code (mN 209) (mB 209) (mL 209) (mR 209) ∈ gTbl := g_in (i := 1560) rfl rfl
set_option maxRecDepth 100000 in
theorem mc_210 : Cond.code (mN 210) (mB 210) (mL 210) (mR 210) ∈ gTbl := g_in (i := 1564) rfl rfl
set_option maxRecDepth 100000 in
theorem mc_211 : Cond.code (mN 211) (mB 211) (mL 211) (mR 211) ∈ gTbl := g_in (i := 1571) rfl rfl
set_option maxRecDepth 100000 in
theorem mc_212 : Cond.code (mN 212) (mB 212) (mL 212) (mR 212) ∈ gTbl := g_in (i := 1574) rfl rfl
set_option maxRecDepth 100000 in
theorem mc_213 : Cond.code (mN 213) (mB 213) (mL 213) (mR 213) ∈ gTbl := g_in (i := 1578) rfl rfl
set_option maxRecDepth 100000 in
theorem mc_214 : Cond.code (mN 214) (mB 214) (mL 214) (mR 214) ∈ gTbl := g_in (i := 1582) rfl rfl
set_option maxRecDepth 100000 in
theorem mc_215 : Cond.code (mN 215) (mB 215) (mL 215) (mR 215) ∈ gTbl := g_in (i := 1593) rfl rfl
set_option maxRecDepth 100000 in
theorem mc_216 : Cond.code (mN 216) (mB 216) (mL 216) (mR 216) ∈ gTbl := g_in (i := 1596) rfl rfl
set_option maxRecDepth 100000 in
theorem mc_217 : Cond.code (mN 217) (mB 217) (mL 217) (mR 217) ∈ gTbl := g_in (i := 1600) rfl rfl
set_option maxRecDepth 100000 in
theorem mc_218 : Cond.code (mN 218) (mB 218) (mL 218) (mR 218) ∈ gTbl := g_in (i := 1604) rfl rfl
set_option maxRecDepth 100000 in
theorem mc_219 : Cond.code (mN 219) (mB 219) (mL 219) (mR 219) ∈ gTbl := g_in (i := 1608) rfl rfl
set_option maxRecDepth 100000 in
theorem mc_220 : Cond.code (mN 220) (mB 220) (mL 220) (mR 220) ∈ gTbl := g_in (i := 1611) rfl rfl
set_option maxRecDepth 100000 in
theorem mc_221 : Cond.code (mN 221) (mB 221) (mL 221) (mR 221) ∈ gTbl := g_in (i := 1615) rfl rfl
set_option maxRecDepth 100000 in
theorem mc_222 : Cond.code (mN 222) (mB 222) (mL 222) (mR 222) ∈ gTbl := g_in (i := 1619) rfl rfl
set_option maxRecDepth 100000 in
theorem mc_223 : Cond.code (mN 223) (mB 223) (mL 223) (mR 223) ∈ gTbl := g_in (i := 1625) rfl rfl
set_option maxRecDepth 100000 in
theorem mc_224 : Cond.code (mN 224) (mB 224) (mL 224) (mR 224) ∈ gTbl := g_in (i := 1629) rfl rfl
set_option maxRecDepth 100000 in
theorem mc_225 : Cond.code (mN 225) (mB 225) (mL 225) (mR 225) ∈ gTbl := g_in (i := 1636) rfl rfl
set_option maxRecDepth 100000 in
theorem mc_226 : Cond.code (mN 226) (mB 226) (mL 226) (mR 226) ∈ gTbl := g_in (i := 1640) rfl rfl
set_option maxRecDepth 100000 in
theorem mc_227 : Cond.code (mN 227) (mB 227) (mL 227) (mR 227) ∈ gTbl := g_in (i := 1644) rfl rfl
set_option maxRecDepth 100000 in
theorem mc_228 : Cond.code (mN 228) (mB 228) (mL 228) (mR 228) ∈ gTbl := g_in (i := 1648) rfl rfl
set_option maxRecDepth 100000 in
theorem mc_229 : Cond.code (mN 229) (mB 229) (mL 229) (mR 229) ∈ gTbl := g_in (i := 1652) rfl rfl
set_option maxRecDepth 100000 in
theorem mc_230 : Cond.code (mN 230) (mB 230) (mL 230) (mR 230) ∈ gTbl := g_in (i := 1656) rfl rfl
set_option maxRecDepth 100000 in
theorem mc_231 : Cond.code (mN 231) (mB 231) (mL 231) (mR 231) ∈ gTbl := g_in (i := 1660) rfl rfl
set_option maxRecDepth 100000 in
theorem mc_232 : Cond.code (mN 232) (mB 232) (mL 232) (mR 232) ∈ gTbl := g_in (i := 1664) rfl rfl
set_option maxRecDepth 100000 in
theorem mc_233 : Cond.code (mN 233) (mB 233) (mL 233) (mR 233) ∈ gTbl := g_in (i := 1668) rfl rfl
set_option maxRecDepth 100000 in
theorem mc_234 : Cond.code (mN 234) (mB 234) (mL 234) (mR 234) ∈ gTbl := g_in (i := 1672) rfl rfl
set_option maxRecDepth 100000 in
theorem mc_235 : Cond.code (mN 235) (mB 235) (mL 235) (mR 235) ∈ gTbl := g_in (i := 1676) rfl rfl
set_option maxRecDepth 100000 in
theorem mc_236 : Cond.code (mN 236) (mB 236) (mL 236) (mR 236) ∈ gTbl := g_in (i := 1680) rfl rfl
set_option maxRecDepth 100000 in
theorem mc_237 : Cond.code (mN 237) (mB 237) (mL 237) (mR 237) ∈ gTbl := g_in (i := 1686) rfl rfl
set_option maxRecDepth 100000 in
theorem mc_238 : Cond.code (mN 238) (mB 238) (mL 238) (mR 238) ∈ gTbl := g_in (i := 1690) rfl rfl
set_option maxRecDepth 100000 in
theorem mc_239 : Cond.code (mN 239) (mB 239) (mL 239) (mR 239) ∈ gTbl := g_in (i := 1694) rfl rfl
set_option maxRecDepth 100000 in
theorem mc_240 : Cond.code (mN 240) (mB 240) (mL 240) (mR 240) ∈ gTbl := g_in (i := 1698) rfl rfl
set_option maxRecDepth 100000 in
theorem mc_241 : Cond.code (mN 241) (mB 241) (mL 241) (mR 241) ∈ gTbl := g_in (i := 1702) rfl rfl
set_option maxRecDepth 100000 in
theorem mc_242 : Cond.code (mN 242) (mB 242) (mL 242) (mR 242) ∈ gTbl := g_in (i := 1706) rfl rfl
set_option maxRecDepth 100000 in
theorem mc_243 : Cond.code (mN 243) (mB 243) (mL 243) (mR 243) ∈ gTbl := g_in (i := 1710) rfl rfl
set_option maxRecDepth 100000 in
theorem mc_244 : Cond.code (mN 244) (mB 244) (mL 244) (mR 244) ∈ gTbl := g_in (i := 1714) rfl rfl
set_option maxRecDepth 100000 in
theorem mc_245 : Cond.code (mN 245) (mB 245) (mL 245) (mR 245) ∈ gTbl := g_in (i := 1718) rfl rfl
set_option maxRecDepth 100000 in
theorem mc_246 : Cond.code (mN 246) (mB 246) (mL 246) (mR 246) ∈ gTbl := g_in (i := 1722) rfl rfl
set_option maxRecDepth 100000 in
theorem mc_247 : Cond.code (mN 247) (mB 247) (mL 247) (mR 247) ∈ gTbl := g_in (i := 1726) rfl rfl
set_option maxRecDepth 100000 in
theorem mc_248 : Cond.code (mN 248) (mB 248) (mL 248) (mR 248) ∈ gTbl := g_in (i := 1730) rfl rfl
set_option maxRecDepth 100000 in
theorem mc_249 : Cond.code (mN 249) (mB 249) (mL 249) (mR 249) ∈ gTbl := g_in (i := 1734) rfl rfl
set_option maxRecDepth 100000 in
theorem mc_250 : Cond.code (mN 250) (mB 250) (mL 250) (mR 250) ∈ gTbl := g_in (i := 1738) rfl rfl
set_option maxRecDepth 100000 in
theorem mc_251 : Cond.code (mN 251) (mB 251) (mL 251) (mR 251) ∈ gTbl := g_in (i := 1741) rfl rfl
set_option maxRecDepth 100000 in
theorem mc_252 : Cond.code (mN 252) (mB 252) (mL 252) (mR 252) ∈ gTbl := g_in (i := 1745) rfl rfl
set_option maxRecDepth 100000 in
theorem mc_253 : Cond.code (mN 253) (mB 253) (mL 253) (mR 253) ∈ gTbl := g_in (i := 1749) rfl rfl
set_option maxRecDepth 100000 in
theorem mc_254 : Cond.code (mN 254) (mB 254) (mL 254) (mR 254) ∈ gTbl := g_in (i := 1753) rfl rfl
set_option maxRecDepth 100000 in
theorem mc_255 : Cond.code (mN 255) (mB 255) (mL 255) (mR 255) ∈ gTbl := g_in (i := 1757) rfl rfl
set_option maxRecDepth 100000 in
theorem mc_256 : Cond.code (mN 256) (mB 256) (mL 256) (mR 256) ∈ gTbl := g_in (i := 1761) rfl rfl
set_option maxRecDepth 100000 in
theorem mc_257 : Cond.code (mN 257) (mB 257) (mL 257) (mR 257) ∈ gTbl := g_in (i := 1766) rfl rfl
set_option maxRecDepth 100000 in
theorem mc_258 : Cond.code (mN 258) (mB 258) (mL 258) (mR 258) ∈ gTbl := g_in (i := 1769) rfl rfl
set_option maxRecDepth 100000 in
theorem mc_259 : Cond.code (mN 259) (mB 259) (mL 259) (mR 259) ∈ gTbl := g_in (i := 1773) rfl rfl
set_option maxRecDepth 100000 in
theorem mc_260 : Cond.code (mN 260) (mB 260) (mL 260) (mR 260) ∈ gTbl := g_in (i := 1778) rfl rfl
set_option maxRecDepth 100000 in
theorem mc_261 : Cond.code (mN 261) (mB 261) (mL 261) (mR 261) ∈ gTbl := g_in (i := 1784) rfl rfl
set_option maxRecDepth 100000 in
theorem mc_262 : Cond.code (mN 262) (mB 262) (mL 262) (mR 262) ∈ gTbl := g_in (i := 1787) rfl rfl
set_option maxRecDepth 100000 in
theorem mc_263 : Cond.code (mN 263) (mB 263) (mL 263) (mR 263) ∈ gTbl := g_in (i := 1792) rfl rfl
set_option maxRecDepth 100000 in
theorem mc_264 : Cond.code (mN 264) (mB 264) (mL 264) (mR 264) ∈ gTbl := g_in (i := 1796) rfl rfl
set_option maxRecDepth 100000 in
theorem mc_265 : Cond.code (mN 265) (mB 265) (mL 265) (mR 265) ∈ gTbl := g_in (i := 1800) rfl rfl
set_option maxRecDepth 100000 in
theorem mc_266 : Cond.code (mN 266) (mB 266) (mL 266) (mR 266) ∈ gTbl := g_in (i := 1804) rfl rfl
set_option maxRecDepth 100000 in
theorem mc_267 : Cond.code (mN 267) (mB 267) (mL 267) (mR 267) ∈ gTbl := g_in (i := 1808) rfl rfl
set_option maxRecDepth 100000 in
theorem mc_268 : Cond.code (mN 268) (mB 268) (mL 268) (mR 268) ∈ gTbl := g_in (i := 1813) rfl rfl
set_option maxRecDepth 100000 in
theorem mc_269 : Cond.code (mN 269) (mB 269) (mL 269) (mR 269) ∈ gTbl := g_in (i := 1817) rfl rfl
set_option maxRecDepth 100000 in
theorem mc_270 : Cond.code (mN 270) (mB 270) (mL 270) (mR 270) ∈ gTbl := g_in (i := 1821) rfl rfl
set_option maxRecDepth 100000 in
theorem mc_271 : Cond.code (mN 271) (mB 271) (mL 271) (mR 271) ∈ gTbl := g_in (i := 1826) rfl rfl
set_option maxRecDepth 100000 in
theorem mc_272 : Cond.code (mN 272) (mB 272) (mL 272) (mR 272) ∈ gTbl := g_in (i := 1830) rfl rfl
set_option maxRecDepth 100000 in
theorem mc_273 : Cond.code (mN 273) (mB 273) (mL 273) (mR 273) ∈ gTbl := g_in (i := 1834) rfl rfl
set_option maxRecDepth 100000 in
theorem mc_274 : Cond.code (mN 274) (mB 274) (mL 274) (mR 274) ∈ gTbl := g_in (i := 1838) rfl rfl
set_option maxRecDepth 100000 in
theorem mc_275 : Cond.code (mN 275) (mB 275) (mL 275) (mR 275) ∈ gTbl := g_in (i := 1842) rfl rfl
set_option maxRecDepth 100000 in
theorem mc_276 : Cond.code (mN 276) (mB 276) (mL 276) (mR 276) ∈ gTbl := g_in (i := 1846) rfl rfl
set_option maxRecDepth 100000 in
theorem mc_277 : Cond.code (mN 277) (mB 277) (mL 277) (mR 277) ∈ gTbl := g_in (i := 1850) rfl rfl
set_option maxRecDepth 100000 in
theorem mc_278 : Cond.code (mN 278) (mB 278) (mL 278) (mR 278) ∈ gTbl := g_in (i := 1855) rfl rfl
set_option maxRecDepth 100000 in
theorem mc_279 : Cond.code (mN 279) (mB 279) (mL 279) (mR 279) ∈ gTbl := g_in (i := 1860) rfl rfl
set_option maxRecDepth 100000 in
theorem mc_280 : Cond.code (mN 280) (mB 280) (mL 280) (mR 280) ∈ gTbl := g_in (i := 1864) rfl rfl
set_option maxRecDepth 100000 in
theorem mc_281 : Cond.code (mN 281) (mB 281) (mL 281) (mR 281) ∈ gTbl := g_in (i := 1867) rfl rfl
set_option maxRecDepth 100000 in
theorem mc_282 : Cond.code (mN 282) (mB 282) (mL 282) (mR 282) ∈ gTbl := g_in (i := 462) rfl rfl
set_option maxRecDepth 100000 in
theorem mc_283 : Cond.code (mN 283) (mB 283) (mL 283) (mR 283) ∈ gTbl := g_in (i := 465) rfl rfl
set_option maxRecDepth 100000 in
theorem mc_284 : Cond.code (mN 284) (mB 284) (mL 284) (mR 284) ∈ gTbl := g_in (i := 498) rfl rfl
set_option maxRecDepth 100000 in
theorem mc_285 : Cond.code (mN 285) (mB 285) (mL 285) (mR 285) ∈ gTbl := g_in (i := 583) rfl rfl
set_option maxRecDepth 100000 in
theorem mc_286 : Cond.code (mN 286) (mB 286) (mL 286) (mR 286) ∈ gTbl := g_in (i := 604) rfl rfl
def cNs : List String := ["VectorShelf$Company", "VectorShelf$Judge", "VectorShelf$Measure", "VectorShelf$Reading", "VectorShelf$Sheet", "VectorShelf$Shelf", "VectorShelf$Text", "VectorShelf$TextReader", "VectorShelf", "VectorShelfModel", "VectorShelfLaw", "java/lang/Math", "java/lang/Integer"]
def cN (o : Nat) : String := cNs.getD o ""
/-- the fields that a class links: index, class, place in it, place in the tables -/
def fTs : List (List (Nat × Nat × Nat × Nat)) := [[(9, 0, 0, 346), (15, 5, 8, 190), (42, 5, 12, 204)],
 [(9, 1, 0, 293), (15, 1, 1, 294), (19, 1, 2, 295), (22, 1, 3, 296), (25, 5, 8, 189), (30, 6, 2, 252), (39, 6, 1, 249), (59, 5, 12, 203), (62, 5, 0, 171), (66, 5, 9, 194), (69, 5, 3, 177), (86, 6, 0, 247), (103, 5, 10, 198), (106, 5, 11, 201)],
 [(9, 2, 0, 150), (13, 2, 1, 153), (17, 2, 2, 155), (20, 2, 3, 157)],
 [(9, 3, 0, 313), (15, 3, 1, 314), (19, 3, 2, 315), (22, 3, 3, 316), (26, 3, 4, 318), (29, 3, 5, 320), (32, 3, 6, 322), (51, 5, 4, 181), (76, 5, 12, 205), (84, 5, 8, 192)],
 [(11, 4, 0, 360), (15, 4, 1, 362), (18, 4, 2, 364), (22, 4, 3, 365), (26, 4, 4, 366)],
 [(12, 5, 0, 170), (18, 5, 1, 173), (22, 5, 2, 174), (25, 5, 3, 176), (29, 5, 4, 179), (32, 5, 5, 182), (35, 5, 6, 184), (38, 5, 7, 186), (41, 5, 8, 188), (44, 5, 9, 193), (47, 5, 10, 196), (50, 5, 11, 199), (53, 5, 12, 202), (66, 2, 1, 154), (69, 2, 2, 156), (72, 2, 0, 151), (75, 2, 3, 158)],
 [(9, 6, 0, 246), (15, 6, 2, 251), (19, 6, 1, 248)],
 [(9, 7, 0, 261), (15, 7, 1, 262), (19, 7, 2, 264), (22, 7, 3, 265), (25, 7, 4, 266), (28, 7, 5, 267), (31, 7, 6, 268), (37, 7, 7, 269), (54, 6, 1, 250), (55, 6, 2, 253)],
 [(10, 8, 0, 380), (16, 8, 1, 381), (19, 8, 2, 382), (25, 8, 4, 384), (32, 8, 5, 385), (39, 8, 6, 386), (46, 8, 7, 387), (52, 8, 3, 383), (59, 8, 8, 388), (64, 8, 9, 389), (68, 8, 10, 390), (76, 5, 4, 180), (86, 5, 8, 191), (104, 5, 11, 200), (113, 5, 9, 195), (116, 5, 10, 197), (142, 1, 3, 297), (149, 5, 5, 183), (156, 5, 12, 206), (170, 5, 6, 185), (173, 5, 7, 187), (207, 7, 1, 263), (217, 5, 2, 175), (224, 3, 4, 319), (227, 3, 5, 321), (230, 3, 6, 323), (236, 3, 3, 317), (282, 5, 3, 178), (306, 4, 1, 363), (326, 5, 0, 172), (330, 2, 0, 152), (333, 2, 3, 159), (349, 4, 0, 361)],
 [(13, 9, 1, 1177), (17, 9, 2, 1178), (20, 9, 5, 1181), (23, 9, 7, 1183), (26, 9, 8, 1184), (29, 9, 9, 1185), (32, 9, 10, 1186), (35, 9, 11, 1187), (38, 9, 12, 1188), (42, 9, 14, 1190), (45, 9, 15, 1191), (48, 9, 16, 1192), (51, 9, 17, 1193), (54, 9, 34, 1210), (58, 9, 35, 1211), (61, 9, 36, 1212), (64, 9, 37, 1213), (67, 9, 38, 1214), (70, 9, 39, 1215), (73, 9, 40, 1216), (76, 9, 41, 1217), (79, 9, 42, 1218), (82, 9, 43, 1219), (85, 9, 44, 1220), (88, 9, 45, 1221), (91, 9, 49, 1225), (94, 9, 50, 1226), (97, 9, 51, 1227), (100, 9, 52, 1228), (103, 9, 53, 1229), (106, 9, 54, 1230), (109, 9, 55, 1231), (112, 9, 56, 1232), (115, 9, 57, 1233), (118, 9, 58, 1234), (121, 9, 59, 1235), (124, 9, 60, 1236), (127, 9, 63, 1239), (130, 9, 64, 1240), (133, 9, 65, 1241), (136, 9, 66, 1242), (139, 9, 67, 1243), (143, 9, 68, 1244), (151, 9, 3, 1179), (162, 9, 18, 1194), (165, 9, 13, 1189), (255, 9, 6, 1182), (258, 9, 26, 1202), (261, 9, 25, 1201), (264, 9, 27, 1203), (270, 9, 29, 1205), (273, 9, 28, 1204), (284, 9, 30, 1206), (290, 9, 32, 1208), (294, 9, 33, 1209), (301, 9, 31, 1207), (314, 9, 19, 1195), (317, 9, 20, 1196), (320, 9, 21, 1197), (323, 9, 22, 1198), (326, 9, 23, 1199), (329, 9, 24, 1200), (370, 9, 4, 1180), (447, 9, 46, 1222), (450, 9, 47, 1223), (453, 9, 48, 1224), (519, 9, 61, 1237), (522, 9, 62, 1238)],
 [],
 [],
 []]
def fT (o : Nat) : List (Nat × Nat × Nat × Nat) := fTs.getD o []
def fCk (o : Nat) (e : Nat × Nat × Nat × Nat) : Bool := decide (lw_tbl[e.2.2.2]? = some (Cond.fieldLink (cN o) e.1 ((clsT.getD e.2.1 (RX0, TX0, 0)).2.1 e.2.2.1).1 ((clsT.getD e.2.1 (RX0, TX0, 0)).2.1 e.2.2.1).2.1 ((clsT.getD e.2.1 (RX0, TX0, 0)).2.1 e.2.2.1).2.2.1) ∧ e.2.1 < 10 ∧ e.2.2.1 < (clsT.getD e.2.1 (RX0, TX0, 0)).2.2)
set_option maxRecDepth 100000 in
set_option maxHeartbeats 4000000 in
theorem f_all : ∀ o, o < 13 → (fT o).all (fCk o) = true := by decide +kernel
end
