/-! Names: R_ a class, F_ its fields, t_ their types, b_ a method's code, y_ its name, w_ its words; s_ 'selects' of a private method. Made by wip/tools/gen_names.py -/
def R_Desk : String := "ChipDesk"
def F_Desk : u_T := fun k => match k with
  | 0 => ("ChipDesk", "text", "LChipDesk$Text;", true)
  | 1 => ("ChipDesk", "fault", "LChipDesk$Fault;", true)
  | 2 => ("ChipDesk", "parser", "LChipDesk$Parser;", true)
  | 3 => ("ChipDesk", "checker", "LChipDesk$Checker;", true)
  | _ => ("ChipDesk", "board", "LChipDesk$Board;", true)
def t_Desk : Nat → FieldType := fun k => match k with
  | 0 => .object "ChipDesk$Text"
  | 1 => .object "ChipDesk$Fault"
  | 2 => .object "ChipDesk$Parser"
  | 3 => .object "ChipDesk$Checker"
  | _ => .object "ChipDesk$Board"
theorem n_Desk : ∀ a, a < 5 → ∀ b, b < 5 → a ≠ b → (F_Desk a).2.1 ≠ (F_Desk b).2.1 := by decide +kernel
theorem t_Desk_ok : ∀ k, k < 5 → parseFieldDescriptor (F_Desk k).2.2.1 = some (t_Desk k) := by decide +kernel
theorem i_Desk : ∀ w ∈ u_ws R_Desk F_Desk 5, w ∈ tb := by
  intro w hw
  obtain ⟨k, hk, rfl⟩ := List.mem_map.mp hw
  have hk : k < 5 := List.mem_range.mp hk
  match k, hk with
  | 0, _ => exact k_437
  | 1, _ => exact k_439
  | 2, _ => exact k_441
  | 3, _ => exact k_443
  | 4, _ => exact k_445
  | k + 5, h => exact absurd h (by omega)
def R_Text : String := "ChipDesk$Text"
def F_Text : u_T := fun k => match k with
  | 0 => ("ChipDesk$Text", "bytes", "[B", true)
  | 1 => ("ChipDesk$Text", "length", "I", false)
  | 2 => ("ChipDesk$Text", "kind", "[I", true)
  | 3 => ("ChipDesk$Text", "place", "[I", true)
  | 4 => ("ChipDesk$Text", "number", "[I", true)
  | 5 => ("ChipDesk$Text", "head", "[J", true)
  | _ => ("ChipDesk$Text", "tail", "[J", true)
def t_Text : Nat → FieldType := fun k => match k with
  | 0 => .array (.byte)
  | 1 => .int
  | 2 => .array (.int)
  | 3 => .array (.int)
  | 4 => .array (.int)
  | 5 => .array (.long)
  | _ => .array (.long)
theorem n_Text : ∀ a, a < 7 → ∀ b, b < 7 → a ≠ b → (F_Text a).2.1 ≠ (F_Text b).2.1 := by decide +kernel
theorem t_Text_ok : ∀ k, k < 7 → parseFieldDescriptor (F_Text k).2.2.1 = some (t_Text k) := by decide +kernel
theorem i_Text : ∀ w ∈ u_ws R_Text F_Text 7, w ∈ tb := by
  intro w hw
  obtain ⟨k, hk, rfl⟩ := List.mem_map.mp hw
  have hk : k < 7 := List.mem_range.mp hk
  match k, hk with
  | 0, _ => exact k_50
  | 1, _ => exact k_52
  | 2, _ => exact k_54
  | 3, _ => exact k_56
  | 4, _ => exact k_58
  | 5, _ => exact k_60
  | 6, _ => exact k_62
  | k + 7, h => exact absurd h (by omega)
def R_Fault : String := "ChipDesk$Fault"
def F_Fault : u_T := fun k => match k with
  | 0 => ("ChipDesk$Fault", "kind", "I", false)
  | _ => ("ChipDesk$Fault", "place", "I", false)
def t_Fault : Nat → FieldType := fun k => match k with
  | 0 => .int
  | _ => .int
theorem n_Fault : ∀ a, a < 2 → ∀ b, b < 2 → a ≠ b → (F_Fault a).2.1 ≠ (F_Fault b).2.1 := by decide +kernel
theorem t_Fault_ok : ∀ k, k < 2 → parseFieldDescriptor (F_Fault k).2.2.1 = some (t_Fault k) := by decide +kernel
theorem i_Fault : ∀ w ∈ u_ws R_Fault F_Fault 2, w ∈ tb := by
  intro w hw
  obtain ⟨k, hk, rfl⟩ := List.mem_map.mp hw
  have hk : k < 2 := List.mem_range.mp hk
  match k, hk with
  | 0, _ => exact k_78
  | 1, _ => exact k_80
  | k + 2, h => exact absurd h (by omega)
def R_Parser : String := "ChipDesk$Parser"
def F_Parser : u_T := fun k => match k with
  | 0 => ("ChipDesk$Parser", "chips", "Ljava/util/ArrayList;", true)
  | 1 => ("ChipDesk$Parser", "text", "LChipDesk$Text;", true)
  | 2 => ("ChipDesk$Parser", "fault", "LChipDesk$Fault;", true)
  | _ => ("ChipDesk$Parser", "at", "I", false)
def t_Parser : Nat → FieldType := fun k => match k with
  | 0 => .object "java/util/ArrayList"
  | 1 => .object "ChipDesk$Text"
  | 2 => .object "ChipDesk$Fault"
  | _ => .int
theorem n_Parser : ∀ a, a < 4 → ∀ b, b < 4 → a ≠ b → (F_Parser a).2.1 ≠ (F_Parser b).2.1 := by decide +kernel
theorem t_Parser_ok : ∀ k, k < 4 → parseFieldDescriptor (F_Parser k).2.2.1 = some (t_Parser k) := by decide +kernel
theorem i_Parser : ∀ w ∈ u_ws R_Parser F_Parser 4, w ∈ tb := by
  intro w hw
  obtain ⟨k, hk, rfl⟩ := List.mem_map.mp hw
  have hk : k < 4 := List.mem_range.mp hk
  match k, hk with
  | 0, _ => exact k_120
  | 1, _ => exact k_122
  | 2, _ => exact k_124
  | 3, _ => exact k_126
  | k + 4, h => exact absurd h (by omega)
def R_List : String := "java/util/ArrayList"
def F_List : u_T := fun k => match k with
  | 0 => ("java/util/ArrayList", "elementData", "[Ljava/lang/Object;", false)
  | 1 => ("java/util/ArrayList", "size", "I", false)
  | _ => ("java/util/AbstractList", "modCount", "I", false)
def t_List : Nat → FieldType := fun k => match k with
  | 0 => .array (.object "java/lang/Object")
  | 1 => .int
  | _ => .int
theorem n_List : ∀ a, a < 3 → ∀ b, b < 3 → a ≠ b → (F_List a).2.1 ≠ (F_List b).2.1 := by decide +kernel
theorem t_List_ok : ∀ k, k < 3 → parseFieldDescriptor (F_List k).2.2.1 = some (t_List k) := by decide +kernel
theorem i_List : ∀ w ∈ u_ws R_List F_List 3, w ∈ tb := by
  intro w hw
  obtain ⟨k, hk, rfl⟩ := List.mem_map.mp hw
  have hk : k < 3 := List.mem_range.mp hk
  match k, hk with
  | 0, _ => exact k_108
  | 1, _ => exact k_110
  | 2, _ => exact k_112
  | k + 3, h => exact absurd h (by omega)
def R_Checker : String := "ChipDesk$Checker"
def F_Checker : u_T := fun k => match k with
  | 0 => ("ChipDesk$Checker", "chips", "Ljava/util/ArrayList;", true)
  | 1 => ("ChipDesk$Checker", "fault", "LChipDesk$Fault;", true)
  | 2 => ("ChipDesk$Checker", "nand", "LChipDesk$Chip;", true)
  | 3 => ("ChipDesk$Checker", "dff", "LChipDesk$Chip;", true)
  | _ => ("ChipDesk$Checker", "inside", "[I", true)
def t_Checker : Nat → FieldType := fun k => match k with
  | 0 => .object "java/util/ArrayList"
  | 1 => .object "ChipDesk$Fault"
  | 2 => .object "ChipDesk$Chip"
  | 3 => .object "ChipDesk$Chip"
  | _ => .array (.int)
theorem n_Checker : ∀ a, a < 5 → ∀ b, b < 5 → a ≠ b → (F_Checker a).2.1 ≠ (F_Checker b).2.1 := by decide +kernel
theorem t_Checker_ok : ∀ k, k < 5 → parseFieldDescriptor (F_Checker k).2.2.1 = some (t_Checker k) := by decide +kernel
theorem i_Checker : ∀ w ∈ u_ws R_Checker F_Checker 5, w ∈ tb := by
  intro w hw
  obtain ⟨k, hk, rfl⟩ := List.mem_map.mp hw
  have hk : k < 5 := List.mem_range.mp hk
  match k, hk with
  | 0, _ => exact k_356
  | 1, _ => exact k_358
  | 2, _ => exact k_360
  | 3, _ => exact k_362
  | 4, _ => exact k_364
  | k + 5, h => exact absurd h (by omega)
def R_Chip : String := "ChipDesk$Chip"
def F_Chip : u_T := fun k => match k with
  | 0 => ("ChipDesk$Chip", "name", "LChipDesk$Name;", true)
  | 1 => ("ChipDesk$Chip", "gate", "I", true)
  | 2 => ("ChipDesk$Chip", "index", "I", true)
  | 3 => ("ChipDesk$Chip", "pins", "Ljava/util/ArrayList;", true)
  | 4 => ("ChipDesk$Chip", "inner", "Ljava/util/ArrayList;", true)
  | 5 => ("ChipDesk$Chip", "parts", "Ljava/util/ArrayList;", true)
  | 6 => ("ChipDesk$Chip", "inPins", "I", false)
  | 7 => ("ChipDesk$Chip", "inBits", "I", false)
  | _ => ("ChipDesk$Chip", "bits", "I", false)
def t_Chip : Nat → FieldType := fun k => match k with
  | 0 => .object "ChipDesk$Name"
  | 1 => .int
  | 2 => .int
  | 3 => .object "java/util/ArrayList"
  | 4 => .object "java/util/ArrayList"
  | 5 => .object "java/util/ArrayList"
  | 6 => .int
  | 7 => .int
  | _ => .int
theorem n_Chip : ∀ a, a < 9 → ∀ b, b < 9 → a ≠ b → (F_Chip a).2.1 ≠ (F_Chip b).2.1 := by decide +kernel
theorem t_Chip_ok : ∀ k, k < 9 → parseFieldDescriptor (F_Chip k).2.2.1 = some (t_Chip k) := by decide +kernel
theorem i_Chip : ∀ w ∈ u_ws R_Chip F_Chip 9, w ∈ tb := by
  intro w hw
  obtain ⟨k, hk, rfl⟩ := List.mem_map.mp hw
  have hk : k < 9 := List.mem_range.mp hk
  match k, hk with
  | 0, _ => exact k_188
  | 1, _ => exact k_190
  | 2, _ => exact k_192
  | 3, _ => exact k_194
  | 4, _ => exact k_196
  | 5, _ => exact k_198
  | 6, _ => exact k_200
  | 7, _ => exact k_202
  | 8, _ => exact k_204
  | k + 9, h => exact absurd h (by omega)
def R_Name : String := "ChipDesk$Name"
def F_Name : u_T := fun k => match k with
  | 0 => ("ChipDesk$Name", "head", "J", true)
  | 1 => ("ChipDesk$Name", "tail", "J", true)
  | _ => ("ChipDesk$Name", "place", "I", true)
def t_Name : Nat → FieldType := fun k => match k with
  | 0 => .long
  | 1 => .long
  | _ => .int
theorem n_Name : ∀ a, a < 3 → ∀ b, b < 3 → a ≠ b → (F_Name a).2.1 ≠ (F_Name b).2.1 := by decide +kernel
theorem t_Name_ok : ∀ k, k < 3 → parseFieldDescriptor (F_Name k).2.2.1 = some (t_Name k) := by decide +kernel
theorem i_Name : ∀ w ∈ u_ws R_Name F_Name 3, w ∈ tb := by
  intro w hw
  obtain ⟨k, hk, rfl⟩ := List.mem_map.mp hw
  have hk : k < 3 := List.mem_range.mp hk
  match k, hk with
  | 0, _ => exact k_152
  | 1, _ => exact k_154
  | 2, _ => exact k_156
  | k + 3, h => exact absurd h (by omega)
def R_Wire : String := "ChipDesk$Wire"
def F_Wire : u_T := fun k => match k with
  | 0 => ("ChipDesk$Wire", "name", "LChipDesk$Name;", true)
  | 1 => ("ChipDesk$Wire", "kind", "I", true)
  | 2 => ("ChipDesk$Wire", "width", "I", false)
  | 3 => ("ChipDesk$Wire", "badWidthPlace", "I", false)
  | 4 => ("ChipDesk$Wire", "offset", "I", false)
  | 5 => ("ChipDesk$Wire", "linkedBits", "I", false)
  | _ => ("ChipDesk$Wire", "given", "Z", false)
def t_Wire : Nat → FieldType := fun k => match k with
  | 0 => .object "ChipDesk$Name"
  | 1 => .int
  | 2 => .int
  | 3 => .int
  | 4 => .int
  | 5 => .int
  | _ => .boolean
theorem n_Wire : ∀ a, a < 7 → ∀ b, b < 7 → a ≠ b → (F_Wire a).2.1 ≠ (F_Wire b).2.1 := by decide +kernel
theorem t_Wire_ok : ∀ k, k < 7 → parseFieldDescriptor (F_Wire k).2.2.1 = some (t_Wire k) := by decide +kernel
theorem i_Wire : ∀ w ∈ u_ws R_Wire F_Wire 7, w ∈ tb := by
  intro w hw
  obtain ⟨k, hk, rfl⟩ := List.mem_map.mp hw
  have hk : k < 7 := List.mem_range.mp hk
  match k, hk with
  | 0, _ => exact k_235
  | 1, _ => exact k_237
  | 2, _ => exact k_239
  | 3, _ => exact k_241
  | 4, _ => exact k_243
  | 5, _ => exact k_245
  | 6, _ => exact k_247
  | k + 7, h => exact absurd h (by omega)
def R_Board : String := "ChipDesk$Board"
def F_Board : u_T := fun k => match k with
  | 0 => ("ChipDesk$Board", "chip", "LChipDesk$Chip;", false)
  | 1 => ("ChipDesk$Board", "chipCount", "I", false)
  | 2 => ("ChipDesk$Board", "from", "[I", true)
  | 3 => ("ChipDesk$Board", "bits", "I", false)
  | 4 => ("ChipDesk$Board", "isDff", "[Z", true)
  | 5 => ("ChipDesk$Board", "firstIn", "[I", true)
  | 6 => ("ChipDesk$Board", "secondIn", "[I", true)
  | 7 => ("ChipDesk$Board", "gateCount", "I", false)
  | 8 => ("ChipDesk$Board", "nandCount", "I", false)
  | 9 => ("ChipDesk$Board", "firstGate", "I", false)
  | 10 => ("ChipDesk$Board", "value", "[Z", true)
  | 11 => ("ChipDesk$Board", "level", "[I", true)
  | 12 => ("ChipDesk$Board", "deepest", "I", false)
  | 13 => ("ChipDesk$Board", "order", "[I", true)
  | 14 => ("ChipDesk$Board", "ordered", "I", false)
  | 15 => ("ChipDesk$Board", "stack", "[I", true)
  | 16 => ("ChipDesk$Board", "next", "[Z", true)
  | 17 => ("ChipDesk$Board", "ticks", "I", false)
  | _ => ("ChipDesk$Board", "ones", "I", false)
def t_Board : Nat → FieldType := fun k => match k with
  | 0 => .object "ChipDesk$Chip"
  | 1 => .int
  | 2 => .array (.int)
  | 3 => .int
  | 4 => .array (.boolean)
  | 5 => .array (.int)
  | 6 => .array (.int)
  | 7 => .int
  | 8 => .int
  | 9 => .int
  | 10 => .array (.boolean)
  | 11 => .array (.int)
  | 12 => .int
  | 13 => .array (.int)
  | 14 => .int
  | 15 => .array (.int)
  | 16 => .array (.boolean)
  | 17 => .int
  | _ => .int
theorem n_Board : ∀ a, a < 19 → ∀ b, b < 19 → a ≠ b → (F_Board a).2.1 ≠ (F_Board b).2.1 := by decide +kernel
theorem t_Board_ok : ∀ k, k < 19 → parseFieldDescriptor (F_Board k).2.2.1 = some (t_Board k) := by decide +kernel
theorem i_Board : ∀ w ∈ u_ws R_Board F_Board 19, w ∈ tb := by
  intro w hw
  obtain ⟨k, hk, rfl⟩ := List.mem_map.mp hw
  have hk : k < 19 := List.mem_range.mp hk
  match k, hk with
  | 0, _ => exact k_392
  | 1, _ => exact k_394
  | 2, _ => exact k_396
  | 3, _ => exact k_398
  | 4, _ => exact k_400
  | 5, _ => exact k_402
  | 6, _ => exact k_404
  | 7, _ => exact k_406
  | 8, _ => exact k_408
  | 9, _ => exact k_410
  | 10, _ => exact k_412
  | 11, _ => exact k_414
  | 12, _ => exact k_416
  | 13, _ => exact k_418
  | 14, _ => exact k_420
  | 15, _ => exact k_422
  | 16, _ => exact k_424
  | 17, _ => exact k_426
  | 18, _ => exact k_428
  | k + 19, h => exact absurd h (by omega)
def R_Part : String := "ChipDesk$Part"
def F_Part : u_T := fun k => match k with
  | 0 => ("ChipDesk$Part", "name", "LChipDesk$Name;", true)
  | 1 => ("ChipDesk$Part", "links", "Ljava/util/ArrayList;", true)
  | _ => ("ChipDesk$Part", "chip", "LChipDesk$Chip;", false)
def t_Part : Nat → FieldType := fun k => match k with
  | 0 => .object "ChipDesk$Name"
  | 1 => .object "java/util/ArrayList"
  | _ => .object "ChipDesk$Chip"
theorem n_Part : ∀ a, a < 3 → ∀ b, b < 3 → a ≠ b → (F_Part a).2.1 ≠ (F_Part b).2.1 := by decide +kernel
theorem t_Part_ok : ∀ k, k < 3 → parseFieldDescriptor (F_Part k).2.2.1 = some (t_Part k) := by decide +kernel
theorem i_Part : ∀ w ∈ u_ws R_Part F_Part 3, w ∈ tb := by
  intro w hw
  obtain ⟨k, hk, rfl⟩ := List.mem_map.mp hw
  have hk : k < 3 := List.mem_range.mp hk
  match k, hk with
  | 0, _ => exact k_592
  | 1, _ => exact k_594
  | 2, _ => exact k_596
  | k + 3, h => exact absurd h (by omega)
def R_Side : String := "ChipDesk$Side"
def F_Side : u_T := fun k => match k with
  | 0 => ("ChipDesk$Side", "name", "LChipDesk$Name;", true)
  | 1 => ("ChipDesk$Side", "constant", "I", false)
  | 2 => ("ChipDesk$Side", "rangePlace", "I", false)
  | 3 => ("ChipDesk$Side", "low", "I", false)
  | _ => ("ChipDesk$Side", "high", "I", false)
def t_Side : Nat → FieldType := fun k => match k with
  | 0 => .object "ChipDesk$Name"
  | 1 => .int
  | 2 => .int
  | 3 => .int
  | _ => .int
theorem n_Side : ∀ a, a < 5 → ∀ b, b < 5 → a ≠ b → (F_Side a).2.1 ≠ (F_Side b).2.1 := by decide +kernel
theorem t_Side_ok : ∀ k, k < 5 → parseFieldDescriptor (F_Side k).2.2.1 = some (t_Side k) := by decide +kernel
theorem i_Side : ∀ w ∈ u_ws R_Side F_Side 5, w ∈ tb := by
  intro w hw
  obtain ⟨k, hk, rfl⟩ := List.mem_map.mp hw
  have hk : k < 5 := List.mem_range.mp hk
  match k, hk with
  | 0, _ => exact k_627
  | 1, _ => exact k_629
  | 2, _ => exact k_631
  | 3, _ => exact k_633
  | 4, _ => exact k_635
  | k + 5, h => exact absurd h (by omega)
def R_Link : String := "ChipDesk$Link"
def F_Link : u_T := fun k => match k with
  | 0 => ("ChipDesk$Link", "left", "LChipDesk$Side;", true)
  | 1 => ("ChipDesk$Link", "right", "LChipDesk$Side;", true)
  | 2 => ("ChipDesk$Link", "pin", "LChipDesk$Wire;", false)
  | _ => ("ChipDesk$Link", "wire", "LChipDesk$Wire;", true)
def t_Link : Nat → FieldType := fun k => match k with
  | 0 => .object "ChipDesk$Side"
  | 1 => .object "ChipDesk$Side"
  | 2 => .object "ChipDesk$Wire"
  | _ => .object "ChipDesk$Wire"
theorem n_Link : ∀ a, a < 4 → ∀ b, b < 4 → a ≠ b → (F_Link a).2.1 ≠ (F_Link b).2.1 := by decide +kernel
theorem t_Link_ok : ∀ k, k < 4 → parseFieldDescriptor (F_Link k).2.2.1 = some (t_Link k) := by decide +kernel
theorem i_Link : ∀ w ∈ u_ws R_Link F_Link 4, w ∈ tb := by
  intro w hw
  obtain ⟨k, hk, rfl⟩ := List.mem_map.mp hw
  have hk : k < 4 := List.mem_range.mp hk
  match k, hk with
  | 0, _ => exact k_664
  | 1, _ => exact k_666
  | 2, _ => exact k_668
  | 3, _ => exact k_670
  | k + 4, h => exact absurd h (by omega)
def R_Model : String := "ChipDeskModel"
def F_Model : u_T := fun k => match k with
  | 0 => ("ChipDeskModel", "CHIP_WORDS", "[C", true)
  | 1 => ("ChipDeskModel", "text", "[I", true)
  | 2 => ("ChipDeskModel", "taken0", "I", false)
  | 3 => ("ChipDeskModel", "size", "I", false)
  | 4 => ("ChipDeskModel", "place", "I", false)
  | 5 => ("ChipDeskModel", "found", "I", false)
  | 6 => ("ChipDeskModel", "foundAt", "I", false)
  | 7 => ("ChipDeskModel", "tokKind", "[I", true)
  | 8 => ("ChipDeskModel", "tokAt", "[I", true)
  | 9 => ("ChipDeskModel", "tokSize", "[I", true)
  | 10 => ("ChipDeskModel", "tokValue", "[I", true)
  | 11 => ("ChipDeskModel", "tokens", "I", false)
  | 12 => ("ChipDeskModel", "next", "I", false)
  | 13 => ("ChipDeskModel", "fault", "I", false)
  | 14 => ("ChipDeskModel", "faultAt", "I", false)
  | 15 => ("ChipDeskModel", "chipsTold", "I", false)
  | 16 => ("ChipDeskModel", "chipAt", "[I", true)
  | 17 => ("ChipDeskModel", "pinFirst", "[I", true)
  | 18 => ("ChipDeskModel", "pins", "I", false)
  | 19 => ("ChipDeskModel", "pinOut", "[Z", true)
  | 20 => ("ChipDeskModel", "pinAt", "[I", true)
  | 21 => ("ChipDeskModel", "pinWidth", "[I", true)
  | 22 => ("ChipDeskModel", "pinNumber", "[I", true)
  | 23 => ("ChipDeskModel", "partFirst", "[I", true)
  | 24 => ("ChipDeskModel", "parts", "I", false)
  | 25 => ("ChipDeskModel", "partAt", "[I", true)
  | 26 => ("ChipDeskModel", "linkFirst", "[I", true)
  | 27 => ("ChipDeskModel", "links", "I", false)
  | 28 => ("ChipDeskModel", "leftAt", "[I", true)
  | 29 => ("ChipDeskModel", "leftRange", "[I", true)
  | 30 => ("ChipDeskModel", "leftI", "[I", true)
  | 31 => ("ChipDeskModel", "leftJ", "[I", true)
  | 32 => ("ChipDeskModel", "rightAt", "[I", true)
  | 33 => ("ChipDeskModel", "rightRange", "[I", true)
  | 34 => ("ChipDeskModel", "rightI", "[I", true)
  | 35 => ("ChipDeskModel", "rightJ", "[I", true)
  | 36 => ("ChipDeskModel", "innerFirst", "[I", true)
  | 37 => ("ChipDeskModel", "inners", "I", false)
  | 38 => ("ChipDeskModel", "innerAt", "[I", true)
  | 39 => ("ChipDeskModel", "innerWidth", "[I", true)
  | 40 => ("ChipDeskModel", "innerLinked", "[Z", true)
  | 41 => ("ChipDeskModel", "rangeAt", "I", false)
  | 42 => ("ChipDeskModel", "rangeI", "I", false)
  | 43 => ("ChipDeskModel", "rangeJ", "I", false)
  | 44 => ("ChipDeskModel", "partIs", "[I", true)
  | 45 => ("ChipDeskModel", "board", "Z", false)
  | 46 => ("ChipDeskModel", "GATE_WORDS", "[C", true)
  | 47 => ("ChipDeskModel", "GATE_PINS", "[C", true)
  | 48 => ("ChipDeskModel", "taken", "[I", true)
  | 49 => ("ChipDeskModel", "linkedBits", "[I", true)
  | 50 => ("ChipDeskModel", "within", "[Z", true)
  | 51 => ("ChipDeskModel", "gatesIn", "[J", true)
  | 52 => ("ChipDeskModel", "bitsIn", "[J", true)
  | 53 => ("ChipDeskModel", "bitCount", "I", false)
  | 54 => ("ChipDeskModel", "from", "[I", true)
  | 55 => ("ChipDeskModel", "gateOfBit", "[I", true)
  | 56 => ("ChipDeskModel", "gateCount", "I", false)
  | 57 => ("ChipDeskModel", "gateDff", "[Z", true)
  | 58 => ("ChipDeskModel", "gateIn", "[I", true)
  | 59 => ("ChipDeskModel", "gateLevel", "[I", true)
  | 60 => ("ChipDeskModel", "gateOrder", "[I", true)
  | 61 => ("ChipDeskModel", "ordered", "I", false)
  | 62 => ("ChipDeskModel", "gateA", "[I", true)
  | 63 => ("ChipDeskModel", "gateB", "[I", true)
  | 64 => ("ChipDeskModel", "bitValue", "[I", true)
  | 65 => ("ChipDeskModel", "waiting", "I", false)
  | 66 => ("ChipDeskModel", "waitChip", "[I", true)
  | 67 => ("ChipDeskModel", "waitBase", "[I", true)
  | 68 => ("ChipDeskModel", "ticks", "I", false)
  | 69 => ("ChipDeskModel", "boardChip", "I", false)
  | _ => ("ChipDeskModel", "newValue", "[I", true)
def t_Model : Nat → FieldType := fun k => match k with
  | 0 => .array (.char)
  | 1 => .array (.int)
  | 2 => .int
  | 3 => .int
  | 4 => .int
  | 5 => .int
  | 6 => .int
  | 7 => .array (.int)
  | 8 => .array (.int)
  | 9 => .array (.int)
  | 10 => .array (.int)
  | 11 => .int
  | 12 => .int
  | 13 => .int
  | 14 => .int
  | 15 => .int
  | 16 => .array (.int)
  | 17 => .array (.int)
  | 18 => .int
  | 19 => .array (.boolean)
  | 20 => .array (.int)
  | 21 => .array (.int)
  | 22 => .array (.int)
  | 23 => .array (.int)
  | 24 => .int
  | 25 => .array (.int)
  | 26 => .array (.int)
  | 27 => .int
  | 28 => .array (.int)
  | 29 => .array (.int)
  | 30 => .array (.int)
  | 31 => .array (.int)
  | 32 => .array (.int)
  | 33 => .array (.int)
  | 34 => .array (.int)
  | 35 => .array (.int)
  | 36 => .array (.int)
  | 37 => .int
  | 38 => .array (.int)
  | 39 => .array (.int)
  | 40 => .array (.boolean)
  | 41 => .int
  | 42 => .int
  | 43 => .int
  | 44 => .array (.int)
  | 45 => .boolean
  | 46 => .array (.char)
  | 47 => .array (.char)
  | 48 => .array (.int)
  | 49 => .array (.int)
  | 50 => .array (.boolean)
  | 51 => .array (.long)
  | 52 => .array (.long)
  | 53 => .int
  | 54 => .array (.int)
  | 55 => .array (.int)
  | 56 => .int
  | 57 => .array (.boolean)
  | 58 => .array (.int)
  | 59 => .array (.int)
  | 60 => .array (.int)
  | 61 => .int
  | 62 => .array (.int)
  | 63 => .array (.int)
  | 64 => .array (.int)
  | 65 => .int
  | 66 => .array (.int)
  | 67 => .array (.int)
  | 68 => .int
  | 69 => .int
  | _ => .array (.int)
theorem n_Model : ∀ a, a < 71 → ∀ b, b < 71 → a ≠ b → (F_Model a).2.1 ≠ (F_Model b).2.1 := by decide +kernel
theorem t_Model_ok : ∀ k, k < 71 → parseFieldDescriptor (F_Model k).2.2.1 = some (t_Model k) := by decide +kernel
theorem i_Model : ∀ w ∈ u_ws R_Model F_Model 71, w ∈ tb := by
  intro w hw
  obtain ⟨k, hk, rfl⟩ := List.mem_map.mp hw
  have hk : k < 71 := List.mem_range.mp hk
  match k, hk with
  | 0, _ => exact k_945
  | 1, _ => exact k_947
  | 2, _ => exact k_949
  | 3, _ => exact k_951
  | 4, _ => exact k_953
  | 5, _ => exact k_955
  | 6, _ => exact k_957
  | 7, _ => exact k_959
  | 8, _ => exact k_961
  | 9, _ => exact k_963
  | 10, _ => exact k_965
  | 11, _ => exact k_967
  | 12, _ => exact k_969
  | 13, _ => exact k_971
  | 14, _ => exact k_973
  | 15, _ => exact k_975
  | 16, _ => exact k_977
  | 17, _ => exact k_979
  | 18, _ => exact k_981
  | 19, _ => exact k_983
  | 20, _ => exact k_985
  | 21, _ => exact k_987
  | 22, _ => exact k_989
  | 23, _ => exact k_991
  | 24, _ => exact k_993
  | 25, _ => exact k_995
  | 26, _ => exact k_997
  | 27, _ => exact k_999
  | 28, _ => exact k_1001
  | 29, _ => exact k_1003
  | 30, _ => exact k_1005
  | 31, _ => exact k_1007
  | 32, _ => exact k_1009
  | 33, _ => exact k_1011
  | 34, _ => exact k_1013
  | 35, _ => exact k_1015
  | 36, _ => exact k_1017
  | 37, _ => exact k_1019
  | 38, _ => exact k_1021
  | 39, _ => exact k_1023
  | 40, _ => exact k_1025
  | 41, _ => exact k_1027
  | 42, _ => exact k_1029
  | 43, _ => exact k_1031
  | 44, _ => exact k_1033
  | 45, _ => exact k_1035
  | 46, _ => exact k_1037
  | 47, _ => exact k_1039
  | 48, _ => exact k_1041
  | 49, _ => exact k_1043
  | 50, _ => exact k_1045
  | 51, _ => exact k_1047
  | 52, _ => exact k_1049
  | 53, _ => exact k_1051
  | 54, _ => exact k_1053
  | 55, _ => exact k_1055
  | 56, _ => exact k_1057
  | 57, _ => exact k_1059
  | 58, _ => exact k_1061
  | 59, _ => exact k_1063
  | 60, _ => exact k_1065
  | 61, _ => exact k_1067
  | 62, _ => exact k_1069
  | 63, _ => exact k_1071
  | 64, _ => exact k_1073
  | 65, _ => exact k_1075
  | 66, _ => exact k_1077
  | 67, _ => exact k_1079
  | 68, _ => exact k_1081
  | 69, _ => exact k_1083
  | 70, _ => exact k_1085
  | k + 71, h => exact absurd h (by omega)
abbrev cl : List vw_C := [(R_Desk, F_Desk, 5), (R_Text, F_Text, 7), (R_Fault, F_Fault, 2), (R_Parser, F_Parser, 4), (R_List, F_List, 3), (R_Checker, F_Checker, 5), (R_Chip, F_Chip, 9), (R_Name, F_Name, 3), (R_Wire, F_Wire, 7), (R_Board, F_Board, 19), (R_Part, F_Part, 3), (R_Side, F_Side, 5), (R_Link, F_Link, 4), (R_Model, F_Model, 71)]
abbrev b_Desk_init : ByteArray := prog_1_method_1_code
abbrev y_Desk_init : MethodName := ⟨"ChipDesk", "<init>", "()V"⟩
abbrev w_Desk_init : List Cond := .code y_Desk_init b_Desk_init 1 none :: tb
abbrev b_Object_init : ByteArray := object_method_1_code
abbrev y_Object_init : MethodName := ⟨"java/lang/Object", "<init>", "()V"⟩
abbrev w_Object_init : List Cond := .code y_Object_init b_Object_init 1 none :: tb
abbrev b_Text_init : ByteArray := prog_11_method_1_code
abbrev y_Text_init : MethodName := ⟨"ChipDesk$Text", "<init>", "()V"⟩
abbrev w_Text_init : List Cond := .code y_Text_init b_Text_init 1 none :: tb
abbrev b_Fault_init : ByteArray := prog_5_method_1_code
abbrev y_Fault_init : MethodName := ⟨"ChipDesk$Fault", "<init>", "()V"⟩
abbrev w_Fault_init : List Cond := .code y_Fault_init b_Fault_init 1 none :: tb
abbrev b_Parser_init : ByteArray := prog_8_method_1_code
abbrev y_Parser_init : MethodName := ⟨"ChipDesk$Parser", "<init>", "(LChipDesk$Text;LChipDesk$Fault;)V"⟩
abbrev w_Parser_init : List Cond := .code y_Parser_init b_Parser_init 3 none :: tb
abbrev b_List_init : ByteArray := prog_22_method_2_code
abbrev y_List_init : MethodName := ⟨"java/util/ArrayList", "<init>", "()V"⟩
abbrev w_List_init : List Cond := .code y_List_init b_List_init 1 none :: tb
abbrev b_AbstractList_init : ByteArray := prog_21_method_1_code
abbrev y_AbstractList_init : MethodName := ⟨"java/util/AbstractList", "<init>", "()V"⟩
abbrev w_AbstractList_init : List Cond := .code y_AbstractList_init b_AbstractList_init 1 none :: tb
abbrev b_AbstractCollection_init : ByteArray := prog_20_method_1_code
abbrev y_AbstractCollection_init : MethodName := ⟨"java/util/AbstractCollection", "<init>", "()V"⟩
abbrev w_AbstractCollection_init : List Cond := .code y_AbstractCollection_init b_AbstractCollection_init 1 none :: tb
abbrev b_Checker_init : ByteArray := prog_3_method_1_code
abbrev y_Checker_init : MethodName := ⟨"ChipDesk$Checker", "<init>", "(Ljava/util/ArrayList;LChipDesk$Fault;)V"⟩
abbrev w_Checker_init : List Cond := .code y_Checker_init b_Checker_init 3 none :: tb
abbrev b_Chip_nand : ByteArray := prog_4_method_2_code
abbrev y_Chip_nand : MethodName := ⟨"ChipDesk$Chip", "nand", "()LChipDesk$Chip;"⟩
abbrev w_Chip_nand : List Cond := .code y_Chip_nand b_Chip_nand 1 (some (ClassFile.FieldType.object "ChipDesk$Chip")) :: tb
abbrev b_Name_init : ByteArray := prog_7_method_1_code
abbrev y_Name_init : MethodName := ⟨"ChipDesk$Name", "<init>", "(JJI)V"⟩
abbrev w_Name_init : List Cond := .code y_Name_init b_Name_init 6 none :: tb
abbrev b_Chip_init : ByteArray := prog_4_method_1_code
abbrev y_Chip_init : MethodName := ⟨"ChipDesk$Chip", "<init>", "(LChipDesk$Name;II)V"⟩
abbrev w_Chip_init : List Cond := .code y_Chip_init b_Chip_init 4 none :: tb
abbrev b_Wire_init : ByteArray := prog_12_method_1_code
abbrev y_Wire_init : MethodName := ⟨"ChipDesk$Wire", "<init>", "(LChipDesk$Name;I)V"⟩
abbrev w_Wire_init : List Cond := .code y_Wire_init b_Wire_init 3 none :: tb
abbrev b_Chip_addPin : ByteArray := prog_4_method_5_code
abbrev y_Chip_addPin : MethodName := ⟨"ChipDesk$Chip", "addPin", "(LChipDesk$Wire;)V"⟩
abbrev w_Chip_addPin : List Cond := .code y_Chip_addPin b_Chip_addPin 2 none :: tb
abbrev b_List_add_0 : ByteArray := prog_22_method_25_code
abbrev y_List_add_0 : MethodName := ⟨"java/util/ArrayList", "add", "(Ljava/lang/Object;)Z"⟩
abbrev w_List_add_0 : List Cond := .code y_List_add_0 b_List_add_0 2 (some ClassFile.FieldType.boolean) :: tb
abbrev b_List_add_1 : ByteArray := prog_22_method_24_code
abbrev y_List_add_1 : MethodName := ⟨"java/util/ArrayList", "add", "(Ljava/lang/Object;[Ljava/lang/Object;I)V"⟩
abbrev w_List_add_1 : List Cond := .code y_List_add_1 b_List_add_1 4 none :: tb
abbrev b_List_grow_0 : ByteArray := prog_22_method_7_code
abbrev y_List_grow_0 : MethodName := ⟨"java/util/ArrayList", "grow", "()[Ljava/lang/Object;"⟩
abbrev w_List_grow_0 : List Cond := .code y_List_grow_0 b_List_grow_0 1 (some (ClassFile.FieldType.array (ClassFile.FieldType.object "java/lang/Object"))) :: tb
abbrev b_List_grow_1 : ByteArray := prog_22_method_6_code
abbrev y_List_grow_1 : MethodName := ⟨"java/util/ArrayList", "grow", "(I)[Ljava/lang/Object;"⟩
abbrev w_List_grow_1 : List Cond := .code y_List_grow_1 b_List_grow_1 4 (some (ClassFile.FieldType.array (ClassFile.FieldType.object "java/lang/Object"))) :: tb
abbrev b_ArraysSupport_newLength : ByteArray := prog_29_method_27_code
abbrev y_ArraysSupport_newLength : MethodName := ⟨"jdk/internal/util/ArraysSupport", "newLength", "(III)I"⟩
abbrev w_ArraysSupport_newLength : List Cond := .code y_ArraysSupport_newLength b_ArraysSupport_newLength 4 (some ClassFile.FieldType.int) :: tb
abbrev b_Math_max : ByteArray := prog_18_method_65_code
abbrev y_Math_max : MethodName := ⟨"java/lang/Math", "max", "(II)I"⟩
abbrev w_Math_max : List Cond := .code y_Math_max b_Math_max 2 (some ClassFile.FieldType.int) :: tb
abbrev b_ArraysSupport_hugeLength : ByteArray := prog_29_method_28_code
abbrev y_ArraysSupport_hugeLength : MethodName := ⟨"jdk/internal/util/ArraysSupport", "hugeLength", "(II)I"⟩
abbrev w_ArraysSupport_hugeLength : List Cond := .code y_ArraysSupport_hugeLength b_ArraysSupport_hugeLength 3 (some ClassFile.FieldType.int) :: tb
abbrev b_Arrays_copyOf_0 : ByteArray := prog_23_method_119_code
abbrev y_Arrays_copyOf_0 : MethodName := ⟨"java/util/Arrays", "copyOf", "([Ljava/lang/Object;I)[Ljava/lang/Object;"⟩
abbrev w_Arrays_copyOf_0 : List Cond := .code y_Arrays_copyOf_0 b_Arrays_copyOf_0 2 (some (ClassFile.FieldType.array (ClassFile.FieldType.object "java/lang/Object"))) :: tb
abbrev b_Arrays_copyOf_1 : ByteArray := prog_23_method_120_code
abbrev y_Arrays_copyOf_1 : MethodName := ⟨"java/util/Arrays", "copyOf", "([Ljava/lang/Object;ILjava/lang/Class;)[Ljava/lang/Object;"⟩
abbrev w_Arrays_copyOf_1 : List Cond := .code y_Arrays_copyOf_1 b_Arrays_copyOf_1 4 (some (ClassFile.FieldType.array (ClassFile.FieldType.object "java/lang/Object"))) :: tb
abbrev b_Math_min : ByteArray := prog_18_method_69_code
abbrev y_Math_min : MethodName := ⟨"java/lang/Math", "min", "(II)I"⟩
abbrev w_Math_min : List Cond := .code y_Math_min b_Math_min 2 (some ClassFile.FieldType.int) :: tb
abbrev b_Chip_outOfGate : ByteArray := prog_4_method_4_code
abbrev y_Chip_outOfGate : MethodName := ⟨"ChipDesk$Chip", "outOfGate", "()LChipDesk$Wire;"⟩
abbrev w_Chip_outOfGate : List Cond := .code y_Chip_outOfGate b_Chip_outOfGate 0 (some (ClassFile.FieldType.object "ChipDesk$Wire")) :: tb
abbrev b_Chip_setOffsets : ByteArray := prog_4_method_8_code
abbrev y_Chip_setOffsets : MethodName := ⟨"ChipDesk$Chip", "setOffsets", "()V"⟩
abbrev w_Chip_setOffsets : List Cond := .code y_Chip_setOffsets b_Chip_setOffsets 2 none :: tb
abbrev b_List_size : ByteArray := prog_22_method_8_code
abbrev y_List_size : MethodName := ⟨"java/util/ArrayList", "size", "()I"⟩
abbrev w_List_size : List Cond := .code y_List_size b_List_size 1 (some ClassFile.FieldType.int) :: tb
abbrev b_List_get : ByteArray := prog_22_method_20_code
abbrev y_List_get : MethodName := ⟨"java/util/ArrayList", "get", "(I)Ljava/lang/Object;"⟩
abbrev w_List_get : List Cond := .code y_List_get b_List_get 2 (some (ClassFile.FieldType.object "java/lang/Object")) :: tb
abbrev b_Objects_checkIndex : ByteArray := prog_26_method_17_code
abbrev y_Objects_checkIndex : MethodName := ⟨"java/util/Objects", "checkIndex", "(II)I"⟩
abbrev w_Objects_checkIndex : List Cond := .code y_Objects_checkIndex b_Objects_checkIndex 2 (some ClassFile.FieldType.int) :: tb
abbrev b_Preconditions_checkIndex : ByteArray := prog_30_method_11_code
abbrev y_Preconditions_checkIndex : MethodName := ⟨"jdk/internal/util/Preconditions", "checkIndex", "(IILjava/util/function/BiFunction;)I"⟩
abbrev w_Preconditions_checkIndex : List Cond := .code y_Preconditions_checkIndex b_Preconditions_checkIndex 3 (some ClassFile.FieldType.int) :: tb
abbrev b_List_elementData : ByteArray := prog_22_method_18_code
abbrev y_List_elementData : MethodName := ⟨"java/util/ArrayList", "elementData", "(I)Ljava/lang/Object;"⟩
abbrev w_List_elementData : List Cond := .code y_List_elementData b_List_elementData 2 (some (ClassFile.FieldType.object "java/lang/Object")) :: tb
abbrev b_Chip_setOffset : ByteArray := prog_4_method_9_code
abbrev y_Chip_setOffset : MethodName := ⟨"ChipDesk$Chip", "setOffset", "(LChipDesk$Wire;)V"⟩
abbrev w_Chip_setOffset : List Cond := .code y_Chip_setOffset b_Chip_setOffset 2 none :: tb
abbrev b_Chip_dff : ByteArray := prog_4_method_3_code
abbrev y_Chip_dff : MethodName := ⟨"ChipDesk$Chip", "dff", "()LChipDesk$Chip;"⟩
abbrev w_Chip_dff : List Cond := .code y_Chip_dff b_Chip_dff 1 (some (ClassFile.FieldType.object "ChipDesk$Chip")) :: tb
abbrev b_Board_init : ByteArray := prog_2_method_1_code
abbrev y_Board_init : MethodName := ⟨"ChipDesk$Board", "<init>", "()V"⟩
abbrev w_Board_init : List Cond := .code y_Board_init b_Board_init 1 none :: tb
abbrev b_Desk_put : ByteArray := prog_1_method_2_code
abbrev y_Desk_put : MethodName := ⟨"ChipDesk", "put", "(JI)Z"⟩
abbrev w_Desk_put : List Cond := .code y_Desk_put b_Desk_put 4 (some ClassFile.FieldType.boolean) :: tb
abbrev b_Text_append : ByteArray := prog_11_method_2_code
abbrev y_Text_append : MethodName := ⟨"ChipDesk$Text", "append", "(JI)Z"⟩
abbrev w_Text_append : List Cond := .code y_Text_append b_Text_append 5 (some ClassFile.FieldType.boolean) :: tb
abbrev b_Desk_read : ByteArray := prog_1_method_3_code
abbrev y_Desk_read : MethodName := ⟨"ChipDesk", "read", "()I"⟩
abbrev w_Desk_read : List Cond := .code y_Desk_read b_Desk_read 1 (some ClassFile.FieldType.int) :: tb
abbrev b_Fault_clear : ByteArray := prog_5_method_2_code
abbrev y_Fault_clear : MethodName := ⟨"ChipDesk$Fault", "clear", "()V"⟩
abbrev w_Fault_clear : List Cond := .code y_Fault_clear b_Fault_clear 1 none :: tb
abbrev b_Board_clear : ByteArray := prog_2_method_2_code
abbrev y_Board_clear : MethodName := ⟨"ChipDesk$Board", "clear", "()V"⟩
abbrev w_Board_clear : List Cond := .code y_Board_clear b_Board_clear 1 none :: tb
abbrev b_Text_scan : ByteArray := prog_11_method_4_code
abbrev y_Text_scan : MethodName := ⟨"ChipDesk$Text", "scan", "()V"⟩
abbrev w_Text_scan : List Cond := .code y_Text_scan b_Text_scan 3 none :: tb
abbrev b_Text_skipBlanks : ByteArray := prog_11_method_5_code
abbrev y_Text_skipBlanks : MethodName := ⟨"ChipDesk$Text", "skipBlanks", "(I)I"⟩
abbrev w_Text_skipBlanks : List Cond := .code y_Text_skipBlanks b_Text_skipBlanks 5 (some ClassFile.FieldType.int) :: tb
abbrev b_Text_behindBlank : ByteArray := prog_11_method_6_code
abbrev y_Text_behindBlank : MethodName := ⟨"ChipDesk$Text", "behindBlank", "(I)I"⟩
abbrev w_Text_behindBlank : List Cond := .code y_Text_behindBlank b_Text_behindBlank 3 (some ClassFile.FieldType.int) :: tb
abbrev b_Text_lineEnd : ByteArray := prog_11_method_7_code
abbrev y_Text_lineEnd : MethodName := ⟨"ChipDesk$Text", "lineEnd", "(I)I"⟩
abbrev w_Text_lineEnd : List Cond := .code y_Text_lineEnd b_Text_lineEnd 3 (some ClassFile.FieldType.int) :: tb
abbrev b_Text_behindComment : ByteArray := prog_11_method_8_code
abbrev y_Text_behindComment : MethodName := ⟨"ChipDesk$Text", "behindComment", "(I)I"⟩
abbrev w_Text_behindComment : List Cond := .code y_Text_behindComment b_Text_behindComment 3 (some ClassFile.FieldType.int) :: tb
abbrev b_Text_scanToken : ByteArray := prog_11_method_9_code
abbrev y_Text_scanToken : MethodName := ⟨"ChipDesk$Text", "scanToken", "(II)I"⟩
abbrev w_Text_scanToken : List Cond := .code y_Text_scanToken b_Text_scanToken 4 (some ClassFile.FieldType.int) :: tb
abbrev b_Text_isWordByte : ByteArray := prog_11_method_13_code
abbrev y_Text_isWordByte : MethodName := ⟨"ChipDesk$Text", "isWordByte", "(I)Z"⟩
abbrev w_Text_isWordByte : List Cond := .code y_Text_isWordByte b_Text_isWordByte 1 (some ClassFile.FieldType.boolean) :: tb
abbrev b_Text_isLetter : ByteArray := prog_11_method_14_code
abbrev y_Text_isLetter : MethodName := ⟨"ChipDesk$Text", "isLetter", "(I)Z"⟩
abbrev w_Text_isLetter : List Cond := .code y_Text_isLetter b_Text_isLetter 1 (some ClassFile.FieldType.boolean) :: tb
abbrev b_Text_isDigit : ByteArray := prog_11_method_15_code
abbrev y_Text_isDigit : MethodName := ⟨"ChipDesk$Text", "isDigit", "(I)Z"⟩
abbrev w_Text_isDigit : List Cond := .code y_Text_isDigit b_Text_isDigit 1 (some ClassFile.FieldType.boolean) :: tb
abbrev b_Text_scanNumber : ByteArray := prog_11_method_10_code
abbrev y_Text_scanNumber : MethodName := ⟨"ChipDesk$Text", "scanNumber", "(III)I"⟩
abbrev w_Text_scanNumber : List Cond := .code y_Text_scanNumber b_Text_scanNumber 6 (some ClassFile.FieldType.int) :: tb
abbrev b_Text_scanWord : ByteArray := prog_11_method_11_code
abbrev y_Text_scanWord : MethodName := ⟨"ChipDesk$Text", "scanWord", "(III)I"⟩
abbrev w_Text_scanWord : List Cond := .code y_Text_scanWord b_Text_scanWord 9 (some ClassFile.FieldType.int) :: tb
abbrev b_Text_wordKind : ByteArray := prog_11_method_12_code
abbrev y_Text_wordKind : MethodName := ⟨"ChipDesk$Text", "wordKind", "(JJ)I"⟩
abbrev w_Text_wordKind : List Cond := .code y_Text_wordKind b_Text_wordKind 5 (some ClassFile.FieldType.int) :: tb
abbrev b_Text_isSign : ByteArray := prog_11_method_16_code
abbrev y_Text_isSign : MethodName := ⟨"ChipDesk$Text", "isSign", "(I)Z"⟩
abbrev w_Text_isSign : List Cond := .code y_Text_isSign b_Text_isSign 1 (some ClassFile.FieldType.boolean) :: tb
abbrev b_Parser_parse : ByteArray := prog_8_method_2_code
abbrev y_Parser_parse : MethodName := ⟨"ChipDesk$Parser", "parse", "()Z"⟩
abbrev w_Parser_parse : List Cond := .code y_Parser_parse b_Parser_parse 3 (some ClassFile.FieldType.boolean) :: tb
abbrev b_List_clear : ByteArray := prog_22_method_40_code
abbrev y_List_clear : MethodName := ⟨"java/util/ArrayList", "clear", "()V"⟩
abbrev w_List_clear : List Cond := .code y_List_clear b_List_clear 4 none :: tb
abbrev b_Parser_startChip : ByteArray := prog_8_method_3_code
abbrev y_Parser_startChip : MethodName := ⟨"ChipDesk$Parser", "startChip", "()LChipDesk$Chip;"⟩
abbrev w_Parser_startChip : List Cond := .code y_Parser_startChip b_Parser_startChip 2 (some (ClassFile.FieldType.object "ChipDesk$Chip")) :: tb
abbrev b_Parser_want : ByteArray := prog_8_method_13_code
abbrev y_Parser_want : MethodName := ⟨"ChipDesk$Parser", "want", "(I)Z"⟩
abbrev w_Parser_want : List Cond := .code y_Parser_want b_Parser_want 2 (some ClassFile.FieldType.boolean) :: tb
abbrev b_Fault_note : ByteArray := prog_5_method_3_code
abbrev y_Fault_note : MethodName := ⟨"ChipDesk$Fault", "note", "(II)Z"⟩
abbrev w_Fault_note : List Cond := .code y_Fault_note b_Fault_note 3 (some ClassFile.FieldType.boolean) :: tb
abbrev b_Parser_wantNameWithRoom : ByteArray := prog_8_method_14_code
abbrev y_Parser_wantNameWithRoom : MethodName := ⟨"ChipDesk$Parser", "wantNameWithRoom", "(Z)Z"⟩
abbrev w_Parser_wantNameWithRoom : List Cond := .code y_Parser_wantNameWithRoom b_Parser_wantNameWithRoom 3 (some ClassFile.FieldType.boolean) :: tb
abbrev b_Parser_takeName : ByteArray := prog_8_method_15_code
abbrev y_Parser_takeName : MethodName := ⟨"ChipDesk$Parser", "takeName", "()LChipDesk$Name;"⟩
abbrev w_Parser_takeName : List Cond := .code y_Parser_takeName b_Parser_takeName 2 (some (ClassFile.FieldType.object "ChipDesk$Name")) :: tb
abbrev b_Parser_parsePins : ByteArray := prog_8_method_4_code
abbrev y_Parser_parsePins : MethodName := ⟨"ChipDesk$Parser", "parsePins", "(LChipDesk$Chip;II)Z"⟩
abbrev w_Parser_parsePins : List Cond := .code y_Parser_parsePins b_Parser_parsePins 5 (some ClassFile.FieldType.boolean) :: tb
abbrev b_Parser_parsePin : ByteArray := prog_8_method_5_code
abbrev y_Parser_parsePin : MethodName := ⟨"ChipDesk$Parser", "parsePin", "(LChipDesk$Chip;I)Z"⟩
abbrev w_Parser_parsePin : List Cond := .code y_Parser_parsePin b_Parser_parsePin 5 (some ClassFile.FieldType.boolean) :: tb
abbrev b_Parser_takes : ByteArray := prog_8_method_12_code
abbrev y_Parser_takes : MethodName := ⟨"ChipDesk$Parser", "takes", "(I)Z"⟩
abbrev w_Parser_takes : List Cond := .code y_Parser_takes b_Parser_takes 2 (some ClassFile.FieldType.boolean) :: tb
abbrev b_Wire_setWidth : ByteArray := prog_12_method_2_code
abbrev y_Wire_setWidth : MethodName := ⟨"ChipDesk$Wire", "setWidth", "(II)V"⟩
abbrev w_Wire_setWidth : List Cond := .code y_Wire_setWidth b_Wire_setWidth 3 none :: tb
abbrev b_Parser_parseParts : ByteArray := prog_8_method_6_code
abbrev y_Parser_parseParts : MethodName := ⟨"ChipDesk$Parser", "parseParts", "(LChipDesk$Chip;)Z"⟩
abbrev w_Parser_parseParts : List Cond := .code y_Parser_parseParts b_Parser_parseParts 4 (some ClassFile.FieldType.boolean) :: tb
abbrev b_Part_init : ByteArray := prog_9_method_1_code
abbrev y_Part_init : MethodName := ⟨"ChipDesk$Part", "<init>", "(LChipDesk$Name;)V"⟩
abbrev w_Part_init : List Cond := .code y_Part_init b_Part_init 2 none :: tb
abbrev b_Parser_parseLinks : ByteArray := prog_8_method_7_code
abbrev y_Parser_parseLinks : MethodName := ⟨"ChipDesk$Parser", "parseLinks", "(LChipDesk$Chip;LChipDesk$Part;)Z"⟩
abbrev w_Parser_parseLinks : List Cond := .code y_Parser_parseLinks b_Parser_parseLinks 4 (some ClassFile.FieldType.boolean) :: tb
abbrev b_Parser_parseLink : ByteArray := prog_8_method_8_code
abbrev y_Parser_parseLink : MethodName := ⟨"ChipDesk$Parser", "parseLink", "(LChipDesk$Chip;LChipDesk$Part;)Z"⟩
abbrev w_Parser_parseLink : List Cond := .code y_Parser_parseLink b_Parser_parseLink 6 (some ClassFile.FieldType.boolean) :: tb
abbrev b_Side_init : ByteArray := prog_10_method_1_code
abbrev y_Side_init : MethodName := ⟨"ChipDesk$Side", "<init>", "(LChipDesk$Name;)V"⟩
abbrev w_Side_init : List Cond := .code y_Side_init b_Side_init 2 none :: tb
abbrev b_Parser_parseRange : ByteArray := prog_8_method_10_code
abbrev y_Parser_parseRange : MethodName := ⟨"ChipDesk$Parser", "parseRange", "(LChipDesk$Side;)Z"⟩
abbrev w_Parser_parseRange : List Cond := .code y_Parser_parseRange b_Parser_parseRange 5 (some ClassFile.FieldType.boolean) :: tb
abbrev b_Parser_sees : ByteArray := prog_8_method_11_code
abbrev y_Parser_sees : MethodName := ⟨"ChipDesk$Parser", "sees", "(I)Z"⟩
abbrev w_Parser_sees : List Cond := .code y_Parser_sees b_Parser_sees 2 (some ClassFile.FieldType.boolean) :: tb
abbrev b_Link_init : ByteArray := prog_6_method_1_code
abbrev y_Link_init : MethodName := ⟨"ChipDesk$Link", "<init>", "(LChipDesk$Side;LChipDesk$Side;LChipDesk$Wire;)V"⟩
abbrev w_Link_init : List Cond := .code y_Link_init b_Link_init 4 none :: tb
abbrev b_Parser_findOrAddInner : ByteArray := prog_8_method_9_code
abbrev y_Parser_findOrAddInner : MethodName := ⟨"ChipDesk$Parser", "findOrAddInner", "(LChipDesk$Chip;LChipDesk$Name;)LChipDesk$Wire;"⟩
abbrev w_Parser_findOrAddInner : List Cond := .code y_Parser_findOrAddInner b_Parser_findOrAddInner 3 (some (ClassFile.FieldType.object "ChipDesk$Wire")) :: tb
abbrev b_Chip_find : ByteArray := prog_4_method_6_code
abbrev y_Chip_find : MethodName := ⟨"ChipDesk$Chip", "find", "(Ljava/util/ArrayList;LChipDesk$Name;)LChipDesk$Wire;"⟩
abbrev w_Chip_find : List Cond := .code y_Chip_find b_Chip_find 3 (some (ClassFile.FieldType.object "ChipDesk$Wire")) :: tb
abbrev b_Name_same : ByteArray := prog_7_method_2_code
abbrev y_Name_same : MethodName := ⟨"ChipDesk$Name", "same", "(LChipDesk$Name;)Z"⟩
abbrev w_Name_same : List Cond := .code y_Name_same b_Name_same 2 (some ClassFile.FieldType.boolean) :: tb
abbrev b_Checker_check : ByteArray := prog_3_method_2_code
abbrev y_Checker_check : MethodName := ⟨"ChipDesk$Checker", "check", "()Z"⟩
abbrev w_Checker_check : List Cond := .code y_Checker_check b_Checker_check 3 (some ClassFile.FieldType.boolean) :: tb
abbrev b_Checker_findChip : ByteArray := prog_3_method_3_code
abbrev y_Checker_findChip : MethodName := ⟨"ChipDesk$Checker", "findChip", "(LChipDesk$Name;)LChipDesk$Chip;"⟩
abbrev w_Checker_findChip : List Cond := .code y_Checker_findChip b_Checker_findChip 3 (some (ClassFile.FieldType.object "ChipDesk$Chip")) :: tb
abbrev b_Checker_resolve : ByteArray := prog_3_method_4_code
abbrev y_Checker_resolve : MethodName := ⟨"ChipDesk$Checker", "resolve", "(LChipDesk$Chip;)V"⟩
abbrev w_Checker_resolve : List Cond := .code y_Checker_resolve b_Checker_resolve 6 none :: tb
abbrev b_Checker_giveInner : ByteArray := prog_3_method_5_code
abbrev y_Checker_giveInner : MethodName := ⟨"ChipDesk$Checker", "giveInner", "(LChipDesk$Link;)V"⟩
abbrev w_Checker_giveInner : List Cond := .code y_Checker_giveInner b_Checker_giveInner 3 none :: tb
abbrev b_Side_fits : ByteArray := prog_10_method_3_code
abbrev y_Side_fits : MethodName := ⟨"ChipDesk$Side", "fits", "(I)Z"⟩
abbrev w_Side_fits : List Cond := .code y_Side_fits b_Side_fits 2 (some ClassFile.FieldType.boolean) :: tb
abbrev b_Side_hasRange : ByteArray := prog_10_method_2_code
abbrev y_Side_hasRange : MethodName := ⟨"ChipDesk$Side", "hasRange", "()Z"⟩
abbrev w_Side_hasRange : List Cond := .code y_Side_hasRange b_Side_hasRange 1 (some ClassFile.FieldType.boolean) :: tb
abbrev b_Side_width : ByteArray := prog_10_method_4_code
abbrev y_Side_width : MethodName := ⟨"ChipDesk$Side", "width", "(I)I"⟩
abbrev w_Side_width : List Cond := .code y_Side_width b_Side_width 2 (some ClassFile.FieldType.int) :: tb
abbrev b_Checker_checkPins : ByteArray := prog_3_method_6_code
abbrev y_Checker_checkPins : MethodName := ⟨"ChipDesk$Checker", "checkPins", "(LChipDesk$Chip;)Z"⟩
abbrev w_Checker_checkPins : List Cond := .code y_Checker_checkPins b_Checker_checkPins 4 (some ClassFile.FieldType.boolean) :: tb
abbrev b_Checker_checkParts : ByteArray := prog_3_method_7_code
abbrev y_Checker_checkParts : MethodName := ⟨"ChipDesk$Checker", "checkParts", "(LChipDesk$Chip;)Z"⟩
abbrev w_Checker_checkParts : List Cond := .code y_Checker_checkParts b_Checker_checkParts 5 (some ClassFile.FieldType.boolean) :: tb
abbrev b_Chip_freeInPins : ByteArray := prog_4_method_7_code
abbrev y_Chip_freeInPins : MethodName := ⟨"ChipDesk$Chip", "freeInPins", "()V"⟩
abbrev w_Chip_freeInPins : List Cond := .code y_Chip_freeInPins b_Chip_freeInPins 2 none :: tb
abbrev b_Checker_checkLink : ByteArray := prog_3_method_8_code
abbrev y_Checker_checkLink : MethodName := ⟨"ChipDesk$Checker", "checkLink", "(LChipDesk$Link;)Z"⟩
abbrev w_Checker_checkLink : List Cond := .code y_Checker_checkLink b_Checker_checkLink 5 (some ClassFile.FieldType.boolean) :: tb
abbrev b_Checker_checkTarget : ByteArray := prog_3_method_9_code
abbrev y_Checker_checkTarget : MethodName := ⟨"ChipDesk$Checker", "checkTarget", "(LChipDesk$Wire;LChipDesk$Side;I)Z"⟩
abbrev w_Checker_checkTarget : List Cond := .code y_Checker_checkTarget b_Checker_checkTarget 5 (some ClassFile.FieldType.boolean) :: tb
abbrev b_Checker_rangeIsRight : ByteArray := prog_3_method_11_code
abbrev y_Checker_rangeIsRight : MethodName := ⟨"ChipDesk$Checker", "rangeIsRight", "(LChipDesk$Wire;LChipDesk$Side;)Z"⟩
abbrev w_Checker_rangeIsRight : List Cond := .code y_Checker_rangeIsRight b_Checker_rangeIsRight 2 (some ClassFile.FieldType.boolean) :: tb
abbrev b_Side_bitMask : ByteArray := prog_10_method_5_code
abbrev y_Side_bitMask : MethodName := ⟨"ChipDesk$Side", "bitMask", "(I)I"⟩
abbrev w_Side_bitMask : List Cond := .code y_Side_bitMask b_Side_bitMask 2 (some ClassFile.FieldType.int) :: tb
abbrev b_Checker_checkSource : ByteArray := prog_3_method_10_code
abbrev y_Checker_checkSource : MethodName := ⟨"ChipDesk$Checker", "checkSource", "(LChipDesk$Wire;LChipDesk$Side;I)Z"⟩
abbrev w_Checker_checkSource : List Cond := .code y_Checker_checkSource b_Checker_checkSource 4 (some ClassFile.FieldType.boolean) :: tb
abbrev b_Checker_checkRings : ByteArray := prog_3_method_12_code
abbrev y_Checker_checkRings : MethodName := ⟨"ChipDesk$Checker", "checkRings", "()Z"⟩
abbrev w_Checker_checkRings : List Cond := .code y_Checker_checkRings b_Checker_checkRings 4 (some ClassFile.FieldType.boolean) :: tb
abbrev b_Checker_directlyInside : ByteArray := prog_3_method_13_code
abbrev y_Checker_directlyInside : MethodName := ⟨"ChipDesk$Checker", "directlyInside", "(LChipDesk$Chip;)I"⟩
abbrev w_Checker_directlyInside : List Cond := .code y_Checker_directlyInside b_Checker_directlyInside 4 (some ClassFile.FieldType.int) :: tb
abbrev b_Desk_buildBoard : ByteArray := prog_1_method_4_code
abbrev y_Desk_buildBoard : MethodName := ⟨"ChipDesk", "buildBoard", "()V"⟩
abbrev w_Desk_buildBoard : List Cond := .code y_Desk_buildBoard b_Desk_buildBoard 2 none :: tb
abbrev b_Board_build : ByteArray := prog_2_method_3_code
abbrev y_Board_build : MethodName := ⟨"ChipDesk$Board", "build", "(LChipDesk$Chip;I)Z"⟩
abbrev w_Board_build : List Cond := .code y_Board_build b_Board_build 3 (some ClassFile.FieldType.boolean) :: tb
abbrev b_Board_claimBits : ByteArray := prog_2_method_5_code
abbrev y_Board_claimBits : MethodName := ⟨"ChipDesk$Board", "claimBits", "(LChipDesk$Chip;)I"⟩
abbrev w_Board_claimBits : List Cond := .code y_Board_claimBits b_Board_claimBits 4 (some ClassFile.FieldType.int) :: tb
abbrev b_Board_startSignals : ByteArray := prog_2_method_4_code
abbrev y_Board_startSignals : MethodName := ⟨"ChipDesk$Board", "startSignals", "(I)V"⟩
abbrev w_Board_startSignals : List Cond := .code y_Board_startSignals b_Board_startSignals 3 none :: tb
abbrev b_Board_layOut : ByteArray := prog_2_method_6_code
abbrev y_Board_layOut : MethodName := ⟨"ChipDesk$Board", "layOut", "(LChipDesk$Chip;II)Z"⟩
abbrev w_Board_layOut : List Cond := .code y_Board_layOut b_Board_layOut 9 (some ClassFile.FieldType.boolean) :: tb
abbrev b_Board_join : ByteArray := prog_2_method_7_code
abbrev y_Board_join : MethodName := ⟨"ChipDesk$Board", "join", "(LChipDesk$Link;II)V"⟩
abbrev w_Board_join : List Cond := .code y_Board_join b_Board_join 10 none :: tb
abbrev b_Board_setFrom : ByteArray := prog_2_method_8_code
abbrev y_Board_setFrom : MethodName := ⟨"ChipDesk$Board", "setFrom", "(II)V"⟩
abbrev w_Board_setFrom : List Cond := .code y_Board_setFrom b_Board_setFrom 3 none :: tb
abbrev b_Board_addGate : ByteArray := prog_2_method_9_code
abbrev y_Board_addGate : MethodName := ⟨"ChipDesk$Board", "addGate", "(LChipDesk$Chip;I)Z"⟩
abbrev w_Board_addGate : List Cond := .code y_Board_addGate b_Board_addGate 5 (some ClassFile.FieldType.boolean) :: tb
abbrev b_Board_findSignals : ByteArray := prog_2_method_10_code
abbrev y_Board_findSignals : MethodName := ⟨"ChipDesk$Board", "findSignals", "()V"⟩
abbrev w_Board_findSignals : List Cond := .code y_Board_findSignals b_Board_findSignals 2 none :: tb
abbrev b_Board_signalOf : ByteArray := prog_2_method_11_code
abbrev y_Board_signalOf : MethodName := ⟨"ChipDesk$Board", "signalOf", "(I)I"⟩
abbrev w_Board_signalOf : List Cond := .code y_Board_signalOf b_Board_signalOf 4 (some ClassFile.FieldType.int) :: tb
abbrev b_Board_arrangeAll : ByteArray := prog_2_method_12_code
abbrev y_Board_arrangeAll : MethodName := ⟨"ChipDesk$Board", "arrangeAll", "()Z"⟩
abbrev w_Board_arrangeAll : List Cond := .code y_Board_arrangeAll b_Board_arrangeAll 2 (some ClassFile.FieldType.boolean) :: tb
abbrev b_Board_arrange : ByteArray := prog_2_method_13_code
abbrev y_Board_arrange : MethodName := ⟨"ChipDesk$Board", "arrange", "(I)Z"⟩
abbrev w_Board_arrange : List Cond := .code y_Board_arrange b_Board_arrange 8 (some ClassFile.FieldType.boolean) :: tb
abbrev b_Board_append : ByteArray := prog_2_method_14_code
abbrev y_Board_append : MethodName := ⟨"ChipDesk$Board", "append", "(II)V"⟩
abbrev w_Board_append : List Cond := .code y_Board_append b_Board_append 3 none :: tb
abbrev b_Board_settle : ByteArray := prog_2_method_15_code
abbrev y_Board_settle : MethodName := ⟨"ChipDesk$Board", "settle", "()V"⟩
abbrev w_Board_settle : List Cond := .code y_Board_settle b_Board_settle 4 none :: tb
abbrev b_Text_clear : ByteArray := prog_11_method_3_code
abbrev y_Text_clear : MethodName := ⟨"ChipDesk$Text", "clear", "()V"⟩
abbrev w_Text_clear : List Cond := .code y_Text_clear b_Text_clear 1 none :: tb
abbrev b_Desk_place : ByteArray := prog_1_method_5_code
abbrev y_Desk_place : MethodName := ⟨"ChipDesk", "place", "()I"⟩
abbrev w_Desk_place : List Cond := .code y_Desk_place b_Desk_place 1 (some ClassFile.FieldType.int) :: tb
abbrev b_Desk_drive : ByteArray := prog_1_method_6_code
abbrev y_Desk_drive : MethodName := ⟨"ChipDesk", "drive", "(II)Z"⟩
abbrev w_Desk_drive : List Cond := .code y_Desk_drive b_Desk_drive 3 (some ClassFile.FieldType.boolean) :: tb
abbrev b_Board_setIn : ByteArray := prog_2_method_16_code
abbrev y_Board_setIn : MethodName := ⟨"ChipDesk$Board", "setIn", "(II)Z"⟩
abbrev w_Board_setIn : List Cond := .code y_Board_setIn b_Board_setIn 5 (some ClassFile.FieldType.boolean) :: tb
abbrev b_Desk_pin : ByteArray := prog_1_method_7_code
abbrev y_Desk_pin : MethodName := ⟨"ChipDesk", "pin", "(I)I"⟩
abbrev w_Desk_pin : List Cond := .code y_Desk_pin b_Desk_pin 2 (some ClassFile.FieldType.int) :: tb
abbrev b_Board_outNumber : ByteArray := prog_2_method_17_code
abbrev y_Board_outNumber : MethodName := ⟨"ChipDesk$Board", "outNumber", "(I)I"⟩
abbrev w_Board_outNumber : List Cond := .code y_Board_outNumber b_Board_outNumber 5 (some ClassFile.FieldType.int) :: tb
abbrev b_Desk_tick : ByteArray := prog_1_method_8_code
abbrev y_Desk_tick : MethodName := ⟨"ChipDesk", "tick", "()I"⟩
abbrev w_Desk_tick : List Cond := .code y_Desk_tick b_Desk_tick 1 (some ClassFile.FieldType.int) :: tb
abbrev b_Board_step : ByteArray := prog_2_method_18_code
abbrev y_Board_step : MethodName := ⟨"ChipDesk$Board", "step", "()I"⟩
abbrev w_Board_step : List Cond := .code y_Board_step b_Board_step 3 (some ClassFile.FieldType.int) :: tb
abbrev b_Desk_gates : ByteArray := prog_1_method_9_code
abbrev y_Desk_gates : MethodName := ⟨"ChipDesk", "gates", "(I)I"⟩
abbrev w_Desk_gates : List Cond := .code y_Desk_gates b_Desk_gates 2 (some ClassFile.FieldType.int) :: tb
abbrev b_Board_count : ByteArray := prog_2_method_19_code
abbrev y_Board_count : MethodName := ⟨"ChipDesk$Board", "count", "(I)I"⟩
abbrev w_Board_count : List Cond := .code y_Board_count b_Board_count 2 (some ClassFile.FieldType.int) :: tb
abbrev b_Model_init : ByteArray := prog_14_method_1_code
abbrev y_Model_init : MethodName := ⟨"ChipDeskModel", "<init>", "()V"⟩
abbrev w_Model_init : List Cond := .code y_Model_init b_Model_init 1 none :: tb
abbrev b_Model_put : ByteArray := prog_14_method_2_code
abbrev y_Model_put : MethodName := ⟨"ChipDeskModel", "put", "(JI)Z"⟩
abbrev w_Model_put : List Cond := .code y_Model_put b_Model_put 5 (some ClassFile.FieldType.boolean) :: tb
abbrev b_Model_place : ByteArray := prog_14_method_3_code
abbrev y_Model_place : MethodName := ⟨"ChipDeskModel", "place", "()I"⟩
abbrev w_Model_place : List Cond := .code y_Model_place b_Model_place 1 (some ClassFile.FieldType.int) :: tb
abbrev b_Model_read : ByteArray := prog_14_method_62_code
abbrev y_Model_read : MethodName := ⟨"ChipDeskModel", "read", "()I"⟩
abbrev w_Model_read : List Cond := .code y_Model_read b_Model_read 2 (some ClassFile.FieldType.int) :: tb
abbrev b_Model_tokenize : ByteArray := prog_14_method_11_code
abbrev y_Model_tokenize : MethodName := ⟨"ChipDeskModel", "tokenize", "(I)V"⟩
abbrev w_Model_tokenize : List Cond := .code y_Model_tokenize b_Model_tokenize 5 none :: tb
abbrev b_Model_skip : ByteArray := prog_14_method_9_code
abbrev y_Model_skip : MethodName := ⟨"ChipDeskModel", "skip", "(I)I"⟩
abbrev w_Model_skip : List Cond := .code y_Model_skip b_Model_skip 5 (some ClassFile.FieldType.int) :: tb
abbrev b_Model_at : ByteArray := prog_14_method_4_code
abbrev y_Model_at : MethodName := ⟨"ChipDeskModel", "at", "(I)I"⟩
abbrev w_Model_at : List Cond := .code y_Model_at b_Model_at 2 (some ClassFile.FieldType.int) :: tb
abbrev b_Model_token : ByteArray := prog_14_method_8_code
abbrev y_Model_token : MethodName := ⟨"ChipDeskModel", "token", "(IIII)V"⟩
abbrev w_Model_token : List Cond := .code y_Model_token b_Model_token 5 none :: tb
abbrev b_Model_chipToken : ByteArray := prog_14_method_14_code
abbrev y_Model_chipToken : MethodName := ⟨"ChipDeskModel", "chipToken", "(I)I"⟩
abbrev w_Model_chipToken : List Cond := .code y_Model_chipToken b_Model_chipToken 3 (some ClassFile.FieldType.int) :: tb
abbrev b_Model_isLetter : ByteArray := prog_14_method_5_code
abbrev y_Model_isLetter : MethodName := ⟨"ChipDeskModel", "isLetter", "(I)Z"⟩
abbrev w_Model_isLetter : List Cond := .code y_Model_isLetter b_Model_isLetter 1 (some ClassFile.FieldType.boolean) :: tb
abbrev b_Model_wordToken : ByteArray := prog_14_method_12_code
abbrev y_Model_wordToken : MethodName := ⟨"ChipDeskModel", "wordToken", "(I[CZ)I"⟩
abbrev w_Model_wordToken : List Cond := .code y_Model_wordToken b_Model_wordToken 6 (some ClassFile.FieldType.int) :: tb
abbrev b_Model_isWordByte : ByteArray := prog_14_method_7_code
abbrev y_Model_isWordByte : MethodName := ⟨"ChipDeskModel", "isWordByte", "(I)Z"⟩
abbrev w_Model_isWordByte : List Cond := .code y_Model_isWordByte b_Model_isWordByte 1 (some ClassFile.FieldType.boolean) :: tb
abbrev b_Model_isDigit : ByteArray := prog_14_method_6_code
abbrev y_Model_isDigit : MethodName := ⟨"ChipDeskModel", "isDigit", "(I)Z"⟩
abbrev w_Model_isDigit : List Cond := .code y_Model_isDigit b_Model_isDigit 1 (some ClassFile.FieldType.boolean) :: tb
abbrev b_Model_wordOf : ByteArray := prog_14_method_10_code
abbrev y_Model_wordOf : MethodName := ⟨"ChipDeskModel", "wordOf", "([CII)I"⟩
abbrev w_Model_wordOf : List Cond := .code y_Model_wordOf b_Model_wordOf 7 (some ClassFile.FieldType.int) :: tb
abbrev b_Model_numberToken : ByteArray := prog_14_method_13_code
abbrev y_Model_numberToken : MethodName := ⟨"ChipDeskModel", "numberToken", "(III)I"⟩
abbrev w_Model_numberToken : List Cond := .code y_Model_numberToken b_Model_numberToken 6 (some ClassFile.FieldType.int) :: tb
abbrev b_Model_chipTexts : ByteArray := prog_14_method_34_code
abbrev y_Model_chipTexts : MethodName := ⟨"ChipDeskModel", "chipTexts", "()V"⟩
abbrev w_Model_chipTexts : List Cond := .code y_Model_chipTexts b_Model_chipTexts 2 none :: tb
abbrev b_Model_chip : ByteArray := prog_14_method_33_code
abbrev y_Model_chip : MethodName := ⟨"ChipDeskModel", "chip", "()V"⟩
abbrev w_Model_chip : List Cond := .code y_Model_chip b_Model_chip 1 none :: tb
abbrev b_Model_needWord : ByteArray := prog_14_method_22_code
abbrev y_Model_needWord : MethodName := ⟨"ChipDeskModel", "needWord", "(I)V"⟩
abbrev w_Model_needWord : List Cond := .code y_Model_needWord b_Model_needWord 2 none :: tb
abbrev b_Model_isWord : ByteArray := prog_14_method_19_code
abbrev y_Model_isWord : MethodName := ⟨"ChipDeskModel", "isWord", "(I)Z"⟩
abbrev w_Model_isWord : List Cond := .code y_Model_isWord b_Model_isWord 2 (some ClassFile.FieldType.boolean) :: tb
abbrev b_Model_go : ByteArray := prog_14_method_20_code
abbrev y_Model_go : MethodName := ⟨"ChipDeskModel", "go", "()V"⟩
abbrev w_Model_go : List Cond := .code y_Model_go b_Model_go 1 none :: tb
abbrev b_Model_syntax : ByteArray := prog_14_method_17_code
abbrev y_Model_syntax : MethodName := ⟨"ChipDeskModel", "syntax", "()V"⟩
abbrev w_Model_syntax : List Cond := .code y_Model_syntax b_Model_syntax 1 none :: tb
abbrev b_Model_wrong : ByteArray := prog_14_method_16_code
abbrev y_Model_wrong : MethodName := ⟨"ChipDeskModel", "wrong", "(II)V"⟩
abbrev w_Model_wrong : List Cond := .code y_Model_wrong b_Model_wrong 3 none :: tb
abbrev b_Model_room : ByteArray := prog_14_method_24_code
abbrev y_Model_room : MethodName := ⟨"ChipDeskModel", "room", "(III)V"⟩
abbrev w_Model_room : List Cond := .code y_Model_room b_Model_room 4 none :: tb
abbrev b_Model_needSign : ByteArray := prog_14_method_21_code
abbrev y_Model_needSign : MethodName := ⟨"ChipDeskModel", "needSign", "(I)V"⟩
abbrev w_Model_needSign : List Cond := .code y_Model_needSign b_Model_needSign 2 none :: tb
abbrev b_Model_isSign : ByteArray := prog_14_method_18_code
abbrev y_Model_isSign : MethodName := ⟨"ChipDeskModel", "isSign", "(I)Z"⟩
abbrev w_Model_isSign : List Cond := .code y_Model_isSign b_Model_isSign 2 (some ClassFile.FieldType.boolean) :: tb
abbrev b_Model_pinList : ByteArray := prog_14_method_27_code
abbrev y_Model_pinList : MethodName := ⟨"ChipDeskModel", "pinList", "(Z)V"⟩
abbrev w_Model_pinList : List Cond := .code y_Model_pinList b_Model_pinList 4 none :: tb
abbrev b_Model_needNumber : ByteArray := prog_14_method_26_code
abbrev y_Model_needNumber : MethodName := ⟨"ChipDeskModel", "needNumber", "()I"⟩
abbrev w_Model_needNumber : List Cond := .code y_Model_needNumber b_Model_needNumber 1 (some ClassFile.FieldType.int) :: tb
abbrev b_Model_part : ByteArray := prog_14_method_32_code
abbrev y_Model_part : MethodName := ⟨"ChipDeskModel", "part", "()V"⟩
abbrev w_Model_part : List Cond := .code y_Model_part b_Model_part 2 none :: tb
abbrev b_Model_link : ByteArray := prog_14_method_31_code
abbrev y_Model_link : MethodName := ⟨"ChipDeskModel", "link", "()V"⟩
abbrev w_Model_link : List Cond := .code y_Model_link b_Model_link 3 none :: tb
abbrev b_Model_needName : ByteArray := prog_14_method_23_code
abbrev y_Model_needName : MethodName := ⟨"ChipDeskModel", "needName", "()I"⟩
abbrev w_Model_needName : List Cond := .code y_Model_needName b_Model_needName 1 (some ClassFile.FieldType.int) :: tb
abbrev b_Model_range : ByteArray := prog_14_method_28_code
abbrev y_Model_range : MethodName := ⟨"ChipDeskModel", "range", "()V"⟩
abbrev w_Model_range : List Cond := .code y_Model_range b_Model_range 3 none :: tb
abbrev b_Model_pinOf : ByteArray := prog_14_method_29_code
abbrev y_Model_pinOf : MethodName := ⟨"ChipDeskModel", "pinOf", "(II)I"⟩
abbrev w_Model_pinOf : List Cond := .code y_Model_pinOf b_Model_pinOf 4 (some ClassFile.FieldType.int) :: tb
abbrev b_Model_like : ByteArray := prog_14_method_15_code
abbrev y_Model_like : MethodName := ⟨"ChipDeskModel", "like", "(II)Z"⟩
abbrev w_Model_like : List Cond := .code y_Model_like b_Model_like 5 (some ClassFile.FieldType.boolean) :: tb
abbrev b_Model_innerOf : ByteArray := prog_14_method_30_code
abbrev y_Model_innerOf : MethodName := ⟨"ChipDeskModel", "innerOf", "(II)I"⟩
abbrev w_Model_innerOf : List Cond := .code y_Model_innerOf b_Model_innerOf 4 (some ClassFile.FieldType.int) :: tb
abbrev b_Model_checkPins : ByteArray := prog_14_method_43_code
abbrev y_Model_checkPins : MethodName := ⟨"ChipDeskModel", "checkPins", "()V"⟩
abbrev w_Model_checkPins : List Cond := .code y_Model_checkPins b_Model_checkPins 6 none :: tb
abbrev b_Model_gateOf : ByteArray := prog_14_method_36_code
abbrev y_Model_gateOf : MethodName := ⟨"ChipDeskModel", "gateOf", "(I)I"⟩
abbrev w_Model_gateOf : List Cond := .code y_Model_gateOf b_Model_gateOf 2 (some ClassFile.FieldType.int) :: tb
abbrev b_Model_note : ByteArray := prog_14_method_25_code
abbrev y_Model_note : MethodName := ⟨"ChipDeskModel", "note", "(II)V"⟩
abbrev w_Model_note : List Cond := .code y_Model_note b_Model_note 3 none :: tb
abbrev b_Model_findInner : ByteArray := prog_14_method_44_code
abbrev y_Model_findInner : MethodName := ⟨"ChipDeskModel", "findInner", "(I)V"⟩
abbrev w_Model_findInner : List Cond := .code y_Model_findInner b_Model_findInner 7 none :: tb
abbrev b_Model_chipOf : ByteArray := prog_14_method_37_code
abbrev y_Model_chipOf : MethodName := ⟨"ChipDeskModel", "chipOf", "(I)I"⟩
abbrev w_Model_chipOf : List Cond := .code y_Model_chipOf b_Model_chipOf 4 (some ClassFile.FieldType.int) :: tb
abbrev b_Model_pinOfPart : ByteArray := prog_14_method_38_code
abbrev y_Model_pinOfPart : MethodName := ⟨"ChipDeskModel", "pinOfPart", "(II)I"⟩
abbrev w_Model_pinOfPart : List Cond := .code y_Model_pinOfPart b_Model_pinOfPart 4 (some ClassFile.FieldType.int) :: tb
abbrev b_Model_isOut : ByteArray := prog_14_method_39_code
abbrev y_Model_isOut : MethodName := ⟨"ChipDeskModel", "isOut", "(II)Z"⟩
abbrev w_Model_isOut : List Cond := .code y_Model_isOut b_Model_isOut 3 (some ClassFile.FieldType.boolean) :: tb
abbrev b_Model_widthOf : ByteArray := prog_14_method_40_code
abbrev y_Model_widthOf : MethodName := ⟨"ChipDeskModel", "widthOf", "(II)I"⟩
abbrev w_Model_widthOf : List Cond := .code y_Model_widthOf b_Model_widthOf 3 (some ClassFile.FieldType.int) :: tb
abbrev b_Model_rangeFits : ByteArray := prog_14_method_41_code
abbrev y_Model_rangeFits : MethodName := ⟨"ChipDeskModel", "rangeFits", "(IIII)Z"⟩
abbrev w_Model_rangeFits : List Cond := .code y_Model_rangeFits b_Model_rangeFits 5 (some ClassFile.FieldType.boolean) :: tb
abbrev b_Model_bitsOf : ByteArray := prog_14_method_42_code
abbrev y_Model_bitsOf : MethodName := ⟨"ChipDeskModel", "bitsOf", "(IIII)I"⟩
abbrev w_Model_bitsOf : List Cond := .code y_Model_bitsOf b_Model_bitsOf 5 (some ClassFile.FieldType.int) :: tb
abbrev b_Model_checkLinks : ByteArray := prog_14_method_46_code
abbrev y_Model_checkLinks : MethodName := ⟨"ChipDeskModel", "checkLinks", "(I)V"⟩
abbrev w_Model_checkLinks : List Cond := .code y_Model_checkLinks b_Model_checkLinks 11 none :: tb
abbrev b_Model_checkRight : ByteArray := prog_14_method_45_code
abbrev y_Model_checkRight : MethodName := ⟨"ChipDeskModel", "checkRight", "(IIZI)V"⟩
abbrev w_Model_checkRight : List Cond := .code y_Model_checkRight b_Model_checkRight 10 none :: tb
abbrev b_Model_checkRing : ByteArray := prog_14_method_47_code
abbrev y_Model_checkRing : MethodName := ⟨"ChipDeskModel", "checkRing", "()V"⟩
abbrev w_Model_checkRing : List Cond := .code y_Model_checkRing b_Model_checkRing 4 none :: tb
abbrev b_Model_countAll : ByteArray := prog_14_method_48_code
abbrev y_Model_countAll : MethodName := ⟨"ChipDeskModel", "countAll", "()V"⟩
abbrev w_Model_countAll : List Cond := .code y_Model_countAll b_Model_countAll 9 none :: tb
abbrev b_Model_build : ByteArray := prog_14_method_56_code
abbrev y_Model_build : MethodName := ⟨"ChipDeskModel", "build", "()V"⟩
abbrev w_Model_build : List Cond := .code y_Model_build b_Model_build 7 none :: tb
abbrev b_Model_newPart : ByteArray := prog_14_method_53_code
abbrev y_Model_newPart : MethodName := ⟨"ChipDeskModel", "newPart", "(I)I"⟩
abbrev w_Model_newPart : List Cond := .code y_Model_newPart b_Model_newPart 3 (some ClassFile.FieldType.int) :: tb
abbrev b_Model_ownBits : ByteArray := prog_14_method_52_code
abbrev y_Model_ownBits : MethodName := ⟨"ChipDeskModel", "ownBits", "(I)I"⟩
abbrev w_Model_ownBits : List Cond := .code y_Model_ownBits b_Model_ownBits 2 (some ClassFile.FieldType.int) :: tb
abbrev b_Model_innerPlace : ByteArray := prog_14_method_51_code
abbrev y_Model_innerPlace : MethodName := ⟨"ChipDeskModel", "innerPlace", "(II)I"⟩
abbrev w_Model_innerPlace : List Cond := .code y_Model_innerPlace b_Model_innerPlace 5 (some ClassFile.FieldType.int) :: tb
abbrev b_Model_pinPlace : ByteArray := prog_14_method_50_code
abbrev y_Model_pinPlace : MethodName := ⟨"ChipDeskModel", "pinPlace", "(II)I"⟩
abbrev w_Model_pinPlace : List Cond := .code y_Model_pinPlace b_Model_pinPlace 5 (some ClassFile.FieldType.int) :: tb
abbrev b_Model_newBits : ByteArray := prog_14_method_49_code
abbrev y_Model_newBits : MethodName := ⟨"ChipDeskModel", "newBits", "(I)I"⟩
abbrev w_Model_newBits : List Cond := .code y_Model_newBits b_Model_newBits 3 (some ClassFile.FieldType.int) :: tb
abbrev b_Model_connect : ByteArray := prog_14_method_54_code
abbrev y_Model_connect : MethodName := ⟨"ChipDeskModel", "connect", "(IIIII)V"⟩
abbrev w_Model_connect : List Cond := .code y_Model_connect b_Model_connect 14 none :: tb
abbrev b_Model_isTrue : ByteArray := prog_14_method_55_code
abbrev y_Model_isTrue : MethodName := ⟨"ChipDeskModel", "isTrue", "(I)I"⟩
abbrev w_Model_isTrue : List Cond := .code y_Model_isTrue b_Model_isTrue 2 (some ClassFile.FieldType.int) :: tb
abbrev b_Model_source : ByteArray := prog_14_method_57_code
abbrev y_Model_source : MethodName := ⟨"ChipDeskModel", "source", "(I)I"⟩
abbrev w_Model_source : List Cond := .code y_Model_source b_Model_source 3 (some ClassFile.FieldType.int) :: tb
abbrev b_Model_order : ByteArray := prog_14_method_59_code
abbrev y_Model_order : MethodName := ⟨"ChipDeskModel", "order", "()Z"⟩
abbrev w_Model_order : List Cond := .code y_Model_order b_Model_order 6 (some ClassFile.FieldType.boolean) :: tb
abbrev b_Model_levelOf : ByteArray := prog_14_method_58_code
abbrev y_Model_levelOf : MethodName := ⟨"ChipDeskModel", "levelOf", "(I)I"⟩
abbrev w_Model_levelOf : List Cond := .code y_Model_levelOf b_Model_levelOf 2 (some ClassFile.FieldType.int) :: tb
abbrev b_Model_settle : ByteArray := prog_14_method_61_code
abbrev y_Model_settle : MethodName := ⟨"ChipDeskModel", "settle", "()V"⟩
abbrev w_Model_settle : List Cond := .code y_Model_settle b_Model_settle 3 none :: tb
abbrev b_Model_valueOf : ByteArray := prog_14_method_60_code
abbrev y_Model_valueOf : MethodName := ⟨"ChipDeskModel", "valueOf", "(I)I"⟩
abbrev w_Model_valueOf : List Cond := .code y_Model_valueOf b_Model_valueOf 2 (some ClassFile.FieldType.int) :: tb
abbrev b_Model_drive : ByteArray := prog_14_method_64_code
abbrev y_Model_drive : MethodName := ⟨"ChipDeskModel", "drive", "(II)Z"⟩
abbrev w_Model_drive : List Cond := .code y_Model_drive b_Model_drive 5 (some ClassFile.FieldType.boolean) :: tb
abbrev b_Model_boardPin : ByteArray := prog_14_method_63_code
abbrev y_Model_boardPin : MethodName := ⟨"ChipDeskModel", "boardPin", "(IZ)I"⟩
abbrev w_Model_boardPin : List Cond := .code y_Model_boardPin b_Model_boardPin 5 (some ClassFile.FieldType.int) :: tb
abbrev b_Model_pin : ByteArray := prog_14_method_65_code
abbrev y_Model_pin : MethodName := ⟨"ChipDeskModel", "pin", "(I)I"⟩
abbrev w_Model_pin : List Cond := .code y_Model_pin b_Model_pin 5 (some ClassFile.FieldType.int) :: tb
abbrev b_Model_tick : ByteArray := prog_14_method_66_code
abbrev y_Model_tick : MethodName := ⟨"ChipDeskModel", "tick", "()I"⟩
abbrev w_Model_tick : List Cond := .code y_Model_tick b_Model_tick 3 (some ClassFile.FieldType.int) :: tb
abbrev b_Model_gates : ByteArray := prog_14_method_68_code
abbrev y_Model_gates : MethodName := ⟨"ChipDeskModel", "gates", "(I)I"⟩
abbrev w_Model_gates : List Cond := .code y_Model_gates b_Model_gates 6 (some ClassFile.FieldType.int) :: tb
abbrev b_Model_countPins : ByteArray := prog_14_method_67_code
abbrev y_Model_countPins : MethodName := ⟨"ChipDeskModel", "countPins", "(Z)I"⟩
abbrev w_Model_countPins : List Cond := .code y_Model_countPins b_Model_countPins 4 (some ClassFile.FieldType.int) :: tb
theorem s_List_add_1 : Cond.selects "java/util/ArrayList" y_List_add_1 y_List_add_1 ∈ tb := tb_sel (List.mem_of_getElem? (i := 0) rfl) rfl
theorem s_List_grow_0 : Cond.selects "java/util/ArrayList" y_List_grow_0 y_List_grow_0 ∈ tb := tb_sel (List.mem_of_getElem? (i := 1) rfl) rfl
theorem s_List_grow_1 : Cond.selects "java/util/ArrayList" y_List_grow_1 y_List_grow_1 ∈ tb := tb_sel (List.mem_of_getElem? (i := 2) rfl) rfl
theorem s_Chip_setOffset : Cond.selects "ChipDesk$Chip" y_Chip_setOffset y_Chip_setOffset ∈ tb := tb_sel (List.mem_of_getElem? (i := 3) rfl) rfl
theorem s_Text_skipBlanks : Cond.selects "ChipDesk$Text" y_Text_skipBlanks y_Text_skipBlanks ∈ tb := tb_sel (List.mem_of_getElem? (i := 4) rfl) rfl
theorem s_Text_behindBlank : Cond.selects "ChipDesk$Text" y_Text_behindBlank y_Text_behindBlank ∈ tb := tb_sel (List.mem_of_getElem? (i := 5) rfl) rfl
theorem s_Text_lineEnd : Cond.selects "ChipDesk$Text" y_Text_lineEnd y_Text_lineEnd ∈ tb := tb_sel (List.mem_of_getElem? (i := 6) rfl) rfl
theorem s_Text_behindComment : Cond.selects "ChipDesk$Text" y_Text_behindComment y_Text_behindComment ∈ tb := tb_sel (List.mem_of_getElem? (i := 7) rfl) rfl
theorem s_Text_scanToken : Cond.selects "ChipDesk$Text" y_Text_scanToken y_Text_scanToken ∈ tb := tb_sel (List.mem_of_getElem? (i := 8) rfl) rfl
theorem s_Text_scanNumber : Cond.selects "ChipDesk$Text" y_Text_scanNumber y_Text_scanNumber ∈ tb := tb_sel (List.mem_of_getElem? (i := 9) rfl) rfl
theorem s_Text_scanWord : Cond.selects "ChipDesk$Text" y_Text_scanWord y_Text_scanWord ∈ tb := tb_sel (List.mem_of_getElem? (i := 10) rfl) rfl
theorem s_Parser_startChip : Cond.selects "ChipDesk$Parser" y_Parser_startChip y_Parser_startChip ∈ tb := tb_sel (List.mem_of_getElem? (i := 11) rfl) rfl
theorem s_Parser_want : Cond.selects "ChipDesk$Parser" y_Parser_want y_Parser_want ∈ tb := tb_sel (List.mem_of_getElem? (i := 12) rfl) rfl
theorem s_Parser_wantNameWithRoom : Cond.selects "ChipDesk$Parser" y_Parser_wantNameWithRoom y_Parser_wantNameWithRoom ∈ tb := tb_sel (List.mem_of_getElem? (i := 13) rfl) rfl
theorem s_Parser_takeName : Cond.selects "ChipDesk$Parser" y_Parser_takeName y_Parser_takeName ∈ tb := tb_sel (List.mem_of_getElem? (i := 14) rfl) rfl
theorem s_Parser_parsePins : Cond.selects "ChipDesk$Parser" y_Parser_parsePins y_Parser_parsePins ∈ tb := tb_sel (List.mem_of_getElem? (i := 15) rfl) rfl
theorem s_Parser_parsePin : Cond.selects "ChipDesk$Parser" y_Parser_parsePin y_Parser_parsePin ∈ tb := tb_sel (List.mem_of_getElem? (i := 16) rfl) rfl
theorem s_Parser_takes : Cond.selects "ChipDesk$Parser" y_Parser_takes y_Parser_takes ∈ tb := tb_sel (List.mem_of_getElem? (i := 17) rfl) rfl
theorem s_Parser_parseParts : Cond.selects "ChipDesk$Parser" y_Parser_parseParts y_Parser_parseParts ∈ tb := tb_sel (List.mem_of_getElem? (i := 18) rfl) rfl
theorem s_Parser_parseLinks : Cond.selects "ChipDesk$Parser" y_Parser_parseLinks y_Parser_parseLinks ∈ tb := tb_sel (List.mem_of_getElem? (i := 19) rfl) rfl
theorem s_Parser_parseLink : Cond.selects "ChipDesk$Parser" y_Parser_parseLink y_Parser_parseLink ∈ tb := tb_sel (List.mem_of_getElem? (i := 20) rfl) rfl
theorem s_Parser_parseRange : Cond.selects "ChipDesk$Parser" y_Parser_parseRange y_Parser_parseRange ∈ tb := tb_sel (List.mem_of_getElem? (i := 21) rfl) rfl
theorem s_Parser_sees : Cond.selects "ChipDesk$Parser" y_Parser_sees y_Parser_sees ∈ tb := tb_sel (List.mem_of_getElem? (i := 22) rfl) rfl
theorem s_Checker_findChip : Cond.selects "ChipDesk$Checker" y_Checker_findChip y_Checker_findChip ∈ tb := tb_sel (List.mem_of_getElem? (i := 23) rfl) rfl
theorem s_Checker_resolve : Cond.selects "ChipDesk$Checker" y_Checker_resolve y_Checker_resolve ∈ tb := tb_sel (List.mem_of_getElem? (i := 24) rfl) rfl
theorem s_Checker_checkPins : Cond.selects "ChipDesk$Checker" y_Checker_checkPins y_Checker_checkPins ∈ tb := tb_sel (List.mem_of_getElem? (i := 25) rfl) rfl
theorem s_Checker_checkParts : Cond.selects "ChipDesk$Checker" y_Checker_checkParts y_Checker_checkParts ∈ tb := tb_sel (List.mem_of_getElem? (i := 26) rfl) rfl
theorem s_Checker_checkLink : Cond.selects "ChipDesk$Checker" y_Checker_checkLink y_Checker_checkLink ∈ tb := tb_sel (List.mem_of_getElem? (i := 27) rfl) rfl
theorem s_Checker_checkTarget : Cond.selects "ChipDesk$Checker" y_Checker_checkTarget y_Checker_checkTarget ∈ tb := tb_sel (List.mem_of_getElem? (i := 28) rfl) rfl
theorem s_Checker_checkSource : Cond.selects "ChipDesk$Checker" y_Checker_checkSource y_Checker_checkSource ∈ tb := tb_sel (List.mem_of_getElem? (i := 29) rfl) rfl
theorem s_Checker_checkRings : Cond.selects "ChipDesk$Checker" y_Checker_checkRings y_Checker_checkRings ∈ tb := tb_sel (List.mem_of_getElem? (i := 30) rfl) rfl
theorem s_Desk_buildBoard : Cond.selects "ChipDesk" y_Desk_buildBoard y_Desk_buildBoard ∈ tb := tb_sel (List.mem_of_getElem? (i := 31) rfl) rfl
theorem s_Board_claimBits : Cond.selects "ChipDesk$Board" y_Board_claimBits y_Board_claimBits ∈ tb := tb_sel (List.mem_of_getElem? (i := 32) rfl) rfl
theorem s_Board_startSignals : Cond.selects "ChipDesk$Board" y_Board_startSignals y_Board_startSignals ∈ tb := tb_sel (List.mem_of_getElem? (i := 33) rfl) rfl
theorem s_Board_layOut : Cond.selects "ChipDesk$Board" y_Board_layOut y_Board_layOut ∈ tb := tb_sel (List.mem_of_getElem? (i := 34) rfl) rfl
theorem s_Board_join : Cond.selects "ChipDesk$Board" y_Board_join y_Board_join ∈ tb := tb_sel (List.mem_of_getElem? (i := 35) rfl) rfl
theorem s_Board_setFrom : Cond.selects "ChipDesk$Board" y_Board_setFrom y_Board_setFrom ∈ tb := tb_sel (List.mem_of_getElem? (i := 36) rfl) rfl
theorem s_Board_addGate : Cond.selects "ChipDesk$Board" y_Board_addGate y_Board_addGate ∈ tb := tb_sel (List.mem_of_getElem? (i := 37) rfl) rfl
theorem s_Board_findSignals : Cond.selects "ChipDesk$Board" y_Board_findSignals y_Board_findSignals ∈ tb := tb_sel (List.mem_of_getElem? (i := 38) rfl) rfl
theorem s_Board_signalOf : Cond.selects "ChipDesk$Board" y_Board_signalOf y_Board_signalOf ∈ tb := tb_sel (List.mem_of_getElem? (i := 39) rfl) rfl
theorem s_Board_arrangeAll : Cond.selects "ChipDesk$Board" y_Board_arrangeAll y_Board_arrangeAll ∈ tb := tb_sel (List.mem_of_getElem? (i := 40) rfl) rfl
theorem s_Board_arrange : Cond.selects "ChipDesk$Board" y_Board_arrange y_Board_arrange ∈ tb := tb_sel (List.mem_of_getElem? (i := 41) rfl) rfl
theorem s_Board_append : Cond.selects "ChipDesk$Board" y_Board_append y_Board_append ∈ tb := tb_sel (List.mem_of_getElem? (i := 42) rfl) rfl
theorem s_Board_settle : Cond.selects "ChipDesk$Board" y_Board_settle y_Board_settle ∈ tb := tb_sel (List.mem_of_getElem? (i := 43) rfl) rfl
theorem s_Model_tokenize : Cond.selects "ChipDeskModel" y_Model_tokenize y_Model_tokenize ∈ tb := tb_sel (List.mem_of_getElem? (i := 44) rfl) rfl
theorem s_Model_skip : Cond.selects "ChipDeskModel" y_Model_skip y_Model_skip ∈ tb := tb_sel (List.mem_of_getElem? (i := 45) rfl) rfl
theorem s_Model_at : Cond.selects "ChipDeskModel" y_Model_at y_Model_at ∈ tb := tb_sel (List.mem_of_getElem? (i := 46) rfl) rfl
theorem s_Model_token : Cond.selects "ChipDeskModel" y_Model_token y_Model_token ∈ tb := tb_sel (List.mem_of_getElem? (i := 47) rfl) rfl
theorem s_Model_chipToken : Cond.selects "ChipDeskModel" y_Model_chipToken y_Model_chipToken ∈ tb := tb_sel (List.mem_of_getElem? (i := 48) rfl) rfl
theorem s_Model_wordToken : Cond.selects "ChipDeskModel" y_Model_wordToken y_Model_wordToken ∈ tb := tb_sel (List.mem_of_getElem? (i := 49) rfl) rfl
theorem s_Model_wordOf : Cond.selects "ChipDeskModel" y_Model_wordOf y_Model_wordOf ∈ tb := tb_sel (List.mem_of_getElem? (i := 50) rfl) rfl
theorem s_Model_numberToken : Cond.selects "ChipDeskModel" y_Model_numberToken y_Model_numberToken ∈ tb := tb_sel (List.mem_of_getElem? (i := 51) rfl) rfl
theorem s_Model_chipTexts : Cond.selects "ChipDeskModel" y_Model_chipTexts y_Model_chipTexts ∈ tb := tb_sel (List.mem_of_getElem? (i := 52) rfl) rfl
theorem s_Model_chip : Cond.selects "ChipDeskModel" y_Model_chip y_Model_chip ∈ tb := tb_sel (List.mem_of_getElem? (i := 53) rfl) rfl
theorem s_Model_needWord : Cond.selects "ChipDeskModel" y_Model_needWord y_Model_needWord ∈ tb := tb_sel (List.mem_of_getElem? (i := 54) rfl) rfl
theorem s_Model_isWord : Cond.selects "ChipDeskModel" y_Model_isWord y_Model_isWord ∈ tb := tb_sel (List.mem_of_getElem? (i := 55) rfl) rfl
theorem s_Model_go : Cond.selects "ChipDeskModel" y_Model_go y_Model_go ∈ tb := tb_sel (List.mem_of_getElem? (i := 56) rfl) rfl
theorem s_Model_syntax : Cond.selects "ChipDeskModel" y_Model_syntax y_Model_syntax ∈ tb := tb_sel (List.mem_of_getElem? (i := 57) rfl) rfl
theorem s_Model_wrong : Cond.selects "ChipDeskModel" y_Model_wrong y_Model_wrong ∈ tb := tb_sel (List.mem_of_getElem? (i := 58) rfl) rfl
theorem s_Model_room : Cond.selects "ChipDeskModel" y_Model_room y_Model_room ∈ tb := tb_sel (List.mem_of_getElem? (i := 59) rfl) rfl
theorem s_Model_needSign : Cond.selects "ChipDeskModel" y_Model_needSign y_Model_needSign ∈ tb := tb_sel (List.mem_of_getElem? (i := 60) rfl) rfl
theorem s_Model_isSign : Cond.selects "ChipDeskModel" y_Model_isSign y_Model_isSign ∈ tb := tb_sel (List.mem_of_getElem? (i := 61) rfl) rfl
theorem s_Model_pinList : Cond.selects "ChipDeskModel" y_Model_pinList y_Model_pinList ∈ tb := tb_sel (List.mem_of_getElem? (i := 62) rfl) rfl
theorem s_Model_needNumber : Cond.selects "ChipDeskModel" y_Model_needNumber y_Model_needNumber ∈ tb := tb_sel (List.mem_of_getElem? (i := 63) rfl) rfl
theorem s_Model_part : Cond.selects "ChipDeskModel" y_Model_part y_Model_part ∈ tb := tb_sel (List.mem_of_getElem? (i := 64) rfl) rfl
theorem s_Model_link : Cond.selects "ChipDeskModel" y_Model_link y_Model_link ∈ tb := tb_sel (List.mem_of_getElem? (i := 65) rfl) rfl
theorem s_Model_needName : Cond.selects "ChipDeskModel" y_Model_needName y_Model_needName ∈ tb := tb_sel (List.mem_of_getElem? (i := 66) rfl) rfl
theorem s_Model_range : Cond.selects "ChipDeskModel" y_Model_range y_Model_range ∈ tb := tb_sel (List.mem_of_getElem? (i := 67) rfl) rfl
theorem s_Model_pinOf : Cond.selects "ChipDeskModel" y_Model_pinOf y_Model_pinOf ∈ tb := tb_sel (List.mem_of_getElem? (i := 68) rfl) rfl
theorem s_Model_like : Cond.selects "ChipDeskModel" y_Model_like y_Model_like ∈ tb := tb_sel (List.mem_of_getElem? (i := 69) rfl) rfl
theorem s_Model_innerOf : Cond.selects "ChipDeskModel" y_Model_innerOf y_Model_innerOf ∈ tb := tb_sel (List.mem_of_getElem? (i := 70) rfl) rfl
theorem s_Model_checkPins : Cond.selects "ChipDeskModel" y_Model_checkPins y_Model_checkPins ∈ tb := tb_sel (List.mem_of_getElem? (i := 71) rfl) rfl
theorem s_Model_gateOf : Cond.selects "ChipDeskModel" y_Model_gateOf y_Model_gateOf ∈ tb := tb_sel (List.mem_of_getElem? (i := 72) rfl) rfl
theorem s_Model_note : Cond.selects "ChipDeskModel" y_Model_note y_Model_note ∈ tb := tb_sel (List.mem_of_getElem? (i := 73) rfl) rfl
theorem s_Model_findInner : Cond.selects "ChipDeskModel" y_Model_findInner y_Model_findInner ∈ tb := tb_sel (List.mem_of_getElem? (i := 74) rfl) rfl
theorem s_Model_chipOf : Cond.selects "ChipDeskModel" y_Model_chipOf y_Model_chipOf ∈ tb := tb_sel (List.mem_of_getElem? (i := 75) rfl) rfl
theorem s_Model_pinOfPart : Cond.selects "ChipDeskModel" y_Model_pinOfPart y_Model_pinOfPart ∈ tb := tb_sel (List.mem_of_getElem? (i := 76) rfl) rfl
theorem s_Model_isOut : Cond.selects "ChipDeskModel" y_Model_isOut y_Model_isOut ∈ tb := tb_sel (List.mem_of_getElem? (i := 77) rfl) rfl
theorem s_Model_widthOf : Cond.selects "ChipDeskModel" y_Model_widthOf y_Model_widthOf ∈ tb := tb_sel (List.mem_of_getElem? (i := 78) rfl) rfl
theorem s_Model_rangeFits : Cond.selects "ChipDeskModel" y_Model_rangeFits y_Model_rangeFits ∈ tb := tb_sel (List.mem_of_getElem? (i := 79) rfl) rfl
theorem s_Model_bitsOf : Cond.selects "ChipDeskModel" y_Model_bitsOf y_Model_bitsOf ∈ tb := tb_sel (List.mem_of_getElem? (i := 80) rfl) rfl
theorem s_Model_checkLinks : Cond.selects "ChipDeskModel" y_Model_checkLinks y_Model_checkLinks ∈ tb := tb_sel (List.mem_of_getElem? (i := 81) rfl) rfl
theorem s_Model_checkRight : Cond.selects "ChipDeskModel" y_Model_checkRight y_Model_checkRight ∈ tb := tb_sel (List.mem_of_getElem? (i := 82) rfl) rfl
theorem s_Model_checkRing : Cond.selects "ChipDeskModel" y_Model_checkRing y_Model_checkRing ∈ tb := tb_sel (List.mem_of_getElem? (i := 83) rfl) rfl
theorem s_Model_countAll : Cond.selects "ChipDeskModel" y_Model_countAll y_Model_countAll ∈ tb := tb_sel (List.mem_of_getElem? (i := 84) rfl) rfl
theorem s_Model_build : Cond.selects "ChipDeskModel" y_Model_build y_Model_build ∈ tb := tb_sel (List.mem_of_getElem? (i := 85) rfl) rfl
theorem s_Model_newPart : Cond.selects "ChipDeskModel" y_Model_newPart y_Model_newPart ∈ tb := tb_sel (List.mem_of_getElem? (i := 86) rfl) rfl
theorem s_Model_ownBits : Cond.selects "ChipDeskModel" y_Model_ownBits y_Model_ownBits ∈ tb := tb_sel (List.mem_of_getElem? (i := 87) rfl) rfl
theorem s_Model_innerPlace : Cond.selects "ChipDeskModel" y_Model_innerPlace y_Model_innerPlace ∈ tb := tb_sel (List.mem_of_getElem? (i := 88) rfl) rfl
theorem s_Model_pinPlace : Cond.selects "ChipDeskModel" y_Model_pinPlace y_Model_pinPlace ∈ tb := tb_sel (List.mem_of_getElem? (i := 89) rfl) rfl
theorem s_Model_newBits : Cond.selects "ChipDeskModel" y_Model_newBits y_Model_newBits ∈ tb := tb_sel (List.mem_of_getElem? (i := 90) rfl) rfl
theorem s_Model_connect : Cond.selects "ChipDeskModel" y_Model_connect y_Model_connect ∈ tb := tb_sel (List.mem_of_getElem? (i := 91) rfl) rfl
theorem s_Model_isTrue : Cond.selects "ChipDeskModel" y_Model_isTrue y_Model_isTrue ∈ tb := tb_sel (List.mem_of_getElem? (i := 92) rfl) rfl
theorem s_Model_source : Cond.selects "ChipDeskModel" y_Model_source y_Model_source ∈ tb := tb_sel (List.mem_of_getElem? (i := 93) rfl) rfl
theorem s_Model_order : Cond.selects "ChipDeskModel" y_Model_order y_Model_order ∈ tb := tb_sel (List.mem_of_getElem? (i := 94) rfl) rfl
theorem s_Model_levelOf : Cond.selects "ChipDeskModel" y_Model_levelOf y_Model_levelOf ∈ tb := tb_sel (List.mem_of_getElem? (i := 95) rfl) rfl
theorem s_Model_settle : Cond.selects "ChipDeskModel" y_Model_settle y_Model_settle ∈ tb := tb_sel (List.mem_of_getElem? (i := 96) rfl) rfl
theorem s_Model_valueOf : Cond.selects "ChipDeskModel" y_Model_valueOf y_Model_valueOf ∈ tb := tb_sel (List.mem_of_getElem? (i := 97) rfl) rfl
theorem s_Model_boardPin : Cond.selects "ChipDeskModel" y_Model_boardPin y_Model_boardPin ∈ tb := tb_sel (List.mem_of_getElem? (i := 98) rfl) rfl
theorem s_Model_countPins : Cond.selects "ChipDeskModel" y_Model_countPins y_Model_countPins ∈ tb := tb_sel (List.mem_of_getElem? (i := 99) rfl) rfl
