/-! NAMES AND WORDS, written by program: classes, fields, methods, the tables' words by their places -/
def R_C : String := "CodeGate$Code"
def F_C : u_T := fun k => match k with
  | 0 => ("CodeGate$Code", "stack", "I", false)
  | 1 => ("CodeGate$Code", "locals", "I", false)
  | 2 => ("CodeGate$Code", "size", "I", false)
  | 3 => ("CodeGate$Code", "instructions", "I", false)
  | 4 => ("CodeGate$Code", "jumps", "I", false)
  | 5 => ("CodeGate$Code", "rows", "I", false)
  | 6 => ("CodeGate$Code", "walk", "LCodeGate$Walk;", true)
  | 7 => ("CodeGate$Code", "pool", "LCodeGate$Pool;", true)
  | 8 => ("CodeGate$Code", "firsts", "[B", true)
  | 9 => ("CodeGate$Code", "origins", "[I", true)
  | 10 => ("CodeGate$Code", "aims", "[I", true)
  | 11 => ("CodeGate$Code", "base", "I", false)
  | _ => ("CodeGate$Code", "version", "I", false)
def t_C : Nat → FieldType := fun k => match k with
  | 0 => .int
  | 1 => .int
  | 2 => .int
  | 3 => .int
  | 4 => .int
  | 5 => .int
  | 6 => .object "CodeGate$Walk"
  | 7 => .object "CodeGate$Pool"
  | 8 => .array .byte
  | 9 => .array .int
  | 10 => .array .int
  | 11 => .int
  | _ => .int
theorem n_C : ∀ a, a < 13 → ∀ b, b < 13 → a ≠ b → (F_C a).2.1 ≠ (F_C b).2.1 := by decide +kernel
theorem t_C_ok : ∀ k, k < 13 → parseFieldDescriptor (F_C k).2.2.1 = some (t_C k) := by decide +kernel
theorem i_C : ∀ w ∈ u_ws R_C F_C 13, w ∈ tb := by
  intro w h
  obtain ⟨k, hk, rfl⟩ := List.mem_map.mp h
  have hk := List.mem_range.mp hk
  rcases (show k = 0 ∨ 0 < k by omega) with rfl | hk0
  · exact tb_in 132 (by decide +kernel) (by decide +kernel)
  rcases (show k = 1 ∨ 1 < k by omega) with rfl | hk1
  · exact tb_in 134 (by decide +kernel) (by decide +kernel)
  rcases (show k = 2 ∨ 2 < k by omega) with rfl | hk2
  · exact tb_in 136 (by decide +kernel) (by decide +kernel)
  rcases (show k = 3 ∨ 3 < k by omega) with rfl | hk3
  · exact tb_in 138 (by decide +kernel) (by decide +kernel)
  rcases (show k = 4 ∨ 4 < k by omega) with rfl | hk4
  · exact tb_in 140 (by decide +kernel) (by decide +kernel)
  rcases (show k = 5 ∨ 5 < k by omega) with rfl | hk5
  · exact tb_in 142 (by decide +kernel) (by decide +kernel)
  rcases (show k = 6 ∨ 6 < k by omega) with rfl | hk6
  · exact tb_in 144 (by decide +kernel) (by decide +kernel)
  rcases (show k = 7 ∨ 7 < k by omega) with rfl | hk7
  · exact tb_in 146 (by decide +kernel) (by decide +kernel)
  rcases (show k = 8 ∨ 8 < k by omega) with rfl | hk8
  · exact tb_in 148 (by decide +kernel) (by decide +kernel)
  rcases (show k = 9 ∨ 9 < k by omega) with rfl | hk9
  · exact tb_in 150 (by decide +kernel) (by decide +kernel)
  rcases (show k = 10 ∨ 10 < k by omega) with rfl | hk10
  · exact tb_in 152 (by decide +kernel) (by decide +kernel)
  rcases (show k = 11 ∨ 11 < k by omega) with rfl | hk11
  · exact tb_in 154 (by decide +kernel) (by decide +kernel)
  rcases (show k = 12 ∨ 12 < k by omega) with rfl | hk12
  · exact tb_in 156 (by decide +kernel) (by decide +kernel)
  omega
def R_G : String := "CodeGate$Gate"
def F_G : u_T := fun k => match k with
  | 0 => ("CodeGate$Gate", "pool", "LCodeGate$Pool;", true)
  | 1 => ("CodeGate$Gate", "tally", "[I", true)
  | 2 => ("CodeGate$Gate", "methodRows", "[I", true)
  | 3 => ("CodeGate$Gate", "walk", "LCodeGate$Walk;", true)
  | 4 => ("CodeGate$Gate", "code", "LCodeGate$Code;", true)
  | 5 => ("CodeGate$Gate", "names", "[I", true)
  | 6 => ("CodeGate$Gate", "types", "[I", true)
  | 7 => ("CodeGate$Gate", "version", "I", false)
  | 8 => ("CodeGate$Gate", "classFlags", "I", false)
  | 9 => ("CodeGate$Gate", "memberPlace", "I", false)
  | 10 => ("CodeGate$Gate", "memberFlags", "I", false)
  | 11 => ("CodeGate$Gate", "memberType", "I", false)
  | _ => ("CodeGate$Gate", "thrown", "I", false)
def t_G : Nat → FieldType := fun k => match k with
  | 0 => .object "CodeGate$Pool"
  | 1 => .array .int
  | 2 => .array .int
  | 3 => .object "CodeGate$Walk"
  | 4 => .object "CodeGate$Code"
  | 5 => .array .int
  | 6 => .array .int
  | 7 => .int
  | 8 => .int
  | 9 => .int
  | 10 => .int
  | 11 => .int
  | _ => .int
theorem n_G : ∀ a, a < 13 → ∀ b, b < 13 → a ≠ b → (F_G a).2.1 ≠ (F_G b).2.1 := by decide +kernel
theorem t_G_ok : ∀ k, k < 13 → parseFieldDescriptor (F_G k).2.2.1 = some (t_G k) := by decide +kernel
theorem i_G : ∀ w ∈ u_ws R_G F_G 13, w ∈ tb := by
  intro w h
  obtain ⟨k, hk, rfl⟩ := List.mem_map.mp h
  have hk := List.mem_range.mp hk
  rcases (show k = 0 ∨ 0 < k by omega) with rfl | hk0
  · exact tb_in 175 (by decide +kernel) (by decide +kernel)
  rcases (show k = 1 ∨ 1 < k by omega) with rfl | hk1
  · exact tb_in 177 (by decide +kernel) (by decide +kernel)
  rcases (show k = 2 ∨ 2 < k by omega) with rfl | hk2
  · exact tb_in 179 (by decide +kernel) (by decide +kernel)
  rcases (show k = 3 ∨ 3 < k by omega) with rfl | hk3
  · exact tb_in 181 (by decide +kernel) (by decide +kernel)
  rcases (show k = 4 ∨ 4 < k by omega) with rfl | hk4
  · exact tb_in 183 (by decide +kernel) (by decide +kernel)
  rcases (show k = 5 ∨ 5 < k by omega) with rfl | hk5
  · exact tb_in 185 (by decide +kernel) (by decide +kernel)
  rcases (show k = 6 ∨ 6 < k by omega) with rfl | hk6
  · exact tb_in 187 (by decide +kernel) (by decide +kernel)
  rcases (show k = 7 ∨ 7 < k by omega) with rfl | hk7
  · exact tb_in 189 (by decide +kernel) (by decide +kernel)
  rcases (show k = 8 ∨ 8 < k by omega) with rfl | hk8
  · exact tb_in 191 (by decide +kernel) (by decide +kernel)
  rcases (show k = 9 ∨ 9 < k by omega) with rfl | hk9
  · exact tb_in 193 (by decide +kernel) (by decide +kernel)
  rcases (show k = 10 ∨ 10 < k by omega) with rfl | hk10
  · exact tb_in 195 (by decide +kernel) (by decide +kernel)
  rcases (show k = 11 ∨ 11 < k by omega) with rfl | hk11
  · exact tb_in 197 (by decide +kernel) (by decide +kernel)
  rcases (show k = 12 ∨ 12 < k by omega) with rfl | hk12
  · exact tb_in 199 (by decide +kernel) (by decide +kernel)
  omega
def R_P : String := "CodeGate$Pool"
def F_P : u_T := fun k => match k with
  | 0 => ("CodeGate$Pool", "kinds", "[I", true)
  | 1 => ("CodeGate$Pool", "count", "I", false)
  | 2 => ("CodeGate$Pool", "walk", "LCodeGate$Walk;", true)
  | 3 => ("CodeGate$Pool", "words", "LCodeGate$Words;", true)
  | 4 => ("CodeGate$Pool", "places", "[I", true)
  | 5 => ("CodeGate$Pool", "facts", "[I", true)
  | 6 => ("CodeGate$Pool", "measures", "[I", true)
  | _ => ("CodeGate$Pool", "sums", "[I", true)
def t_P : Nat → FieldType := fun k => match k with
  | 0 => .array .int
  | 1 => .int
  | 2 => .object "CodeGate$Walk"
  | 3 => .object "CodeGate$Words"
  | 4 => .array .int
  | 5 => .array .int
  | 6 => .array .int
  | _ => .array .int
theorem n_P : ∀ a, a < 8 → ∀ b, b < 8 → a ≠ b → (F_P a).2.1 ≠ (F_P b).2.1 := by decide +kernel
theorem t_P_ok : ∀ k, k < 8 → parseFieldDescriptor (F_P k).2.2.1 = some (t_P k) := by decide +kernel
theorem i_P : ∀ w ∈ u_ws R_P F_P 8, w ∈ tb := by
  intro w h
  obtain ⟨k, hk, rfl⟩ := List.mem_map.mp h
  have hk := List.mem_range.mp hk
  rcases (show k = 0 ∨ 0 < k by omega) with rfl | hk0
  · exact tb_in 90 (by decide +kernel) (by decide +kernel)
  rcases (show k = 1 ∨ 1 < k by omega) with rfl | hk1
  · exact tb_in 92 (by decide +kernel) (by decide +kernel)
  rcases (show k = 2 ∨ 2 < k by omega) with rfl | hk2
  · exact tb_in 94 (by decide +kernel) (by decide +kernel)
  rcases (show k = 3 ∨ 3 < k by omega) with rfl | hk3
  · exact tb_in 96 (by decide +kernel) (by decide +kernel)
  rcases (show k = 4 ∨ 4 < k by omega) with rfl | hk4
  · exact tb_in 98 (by decide +kernel) (by decide +kernel)
  rcases (show k = 5 ∨ 5 < k by omega) with rfl | hk5
  · exact tb_in 100 (by decide +kernel) (by decide +kernel)
  rcases (show k = 6 ∨ 6 < k by omega) with rfl | hk6
  · exact tb_in 102 (by decide +kernel) (by decide +kernel)
  rcases (show k = 7 ∨ 7 < k by omega) with rfl | hk7
  · exact tb_in 104 (by decide +kernel) (by decide +kernel)
  omega
def R_R : String := "CodeGate$Report"
def F_R : u_T := fun k => match k with
  | 0 => ("CodeGate$Report", "tally", "[I", true)
  | 1 => ("CodeGate$Report", "methodRows", "[I", true)
  | 2 => ("CodeGate$Report", "kinds", "[I", true)
  | 3 => ("CodeGate$Report", "passed", "Z", false)
  | _ => ("CodeGate$Report", "broken", "I", false)
def t_R : Nat → FieldType := fun k => match k with
  | 0 => .array .int
  | 1 => .array .int
  | 2 => .array .int
  | 3 => .boolean
  | _ => .int
theorem n_R : ∀ a, a < 5 → ∀ b, b < 5 → a ≠ b → (F_R a).2.1 ≠ (F_R b).2.1 := by decide +kernel
theorem t_R_ok : ∀ k, k < 5 → parseFieldDescriptor (F_R k).2.2.1 = some (t_R k) := by decide +kernel
theorem i_R : ∀ w ∈ u_ws R_R F_R 5, w ∈ tb := by
  intro w h
  obtain ⟨k, hk, rfl⟩ := List.mem_map.mp h
  have hk := List.mem_range.mp hk
  rcases (show k = 0 ∨ 0 < k by omega) with rfl | hk0
  · exact tb_in 218 (by decide +kernel) (by decide +kernel)
  rcases (show k = 1 ∨ 1 < k by omega) with rfl | hk1
  · exact tb_in 220 (by decide +kernel) (by decide +kernel)
  rcases (show k = 2 ∨ 2 < k by omega) with rfl | hk2
  · exact tb_in 222 (by decide +kernel) (by decide +kernel)
  rcases (show k = 3 ∨ 3 < k by omega) with rfl | hk3
  · exact tb_in 224 (by decide +kernel) (by decide +kernel)
  rcases (show k = 4 ∨ 4 < k by omega) with rfl | hk4
  · exact tb_in 226 (by decide +kernel) (by decide +kernel)
  omega
def R_W : String := "CodeGate$Walk"
def F_W : u_T := fun k => match k with
  | 0 => ("CodeGate$Walk", "row", "[B", true)
  | 1 => ("CodeGate$Walk", "length", "I", false)
  | 2 => ("CodeGate$Walk", "at", "I", false)
  | 3 => ("CodeGate$Walk", "broken", "I", false)
  | _ => ("CodeGate$Walk", "place", "I", false)
def t_W : Nat → FieldType := fun k => match k with
  | 0 => .array .byte
  | 1 => .int
  | 2 => .int
  | 3 => .int
  | _ => .int
theorem n_W : ∀ a, a < 5 → ∀ b, b < 5 → a ≠ b → (F_W a).2.1 ≠ (F_W b).2.1 := by decide +kernel
theorem t_W_ok : ∀ k, k < 5 → parseFieldDescriptor (F_W k).2.2.1 = some (t_W k) := by decide +kernel
theorem i_W : ∀ w ∈ u_ws R_W F_W 5, w ∈ tb := by
  intro w h
  obtain ⟨k, hk, rfl⟩ := List.mem_map.mp h
  have hk := List.mem_range.mp hk
  rcases (show k = 0 ∨ 0 < k by omega) with rfl | hk0
  · exact tb_in 45 (by decide +kernel) (by decide +kernel)
  rcases (show k = 1 ∨ 1 < k by omega) with rfl | hk1
  · exact tb_in 47 (by decide +kernel) (by decide +kernel)
  rcases (show k = 2 ∨ 2 < k by omega) with rfl | hk2
  · exact tb_in 49 (by decide +kernel) (by decide +kernel)
  rcases (show k = 3 ∨ 3 < k by omega) with rfl | hk3
  · exact tb_in 51 (by decide +kernel) (by decide +kernel)
  rcases (show k = 4 ∨ 4 < k by omega) with rfl | hk4
  · exact tb_in 53 (by decide +kernel) (by decide +kernel)
  omega
def R_D : String := "CodeGate$Words"
def F_D : u_T := fun k => match k with
  | _ => ("CodeGate$Words", "row", "[B", true)
def t_D : Nat → FieldType := fun k => match k with
  | _ => .array .byte
theorem n_D : ∀ a, a < 1 → ∀ b, b < 1 → a ≠ b → (F_D a).2.1 ≠ (F_D b).2.1 := by decide +kernel
theorem t_D_ok : ∀ k, k < 1 → parseFieldDescriptor (F_D k).2.2.1 = some (t_D k) := by decide +kernel
theorem i_D : ∀ w ∈ u_ws R_D F_D 1, w ∈ tb := by
  intro w h
  obtain ⟨k, hk, rfl⟩ := List.mem_map.mp h
  have hk := List.mem_range.mp hk
  rcases (show k = 0 ∨ 0 < k by omega) with rfl | hk0
  · exact tb_in 76 (by decide +kernel) (by decide +kernel)
  omega
def R_X : String := "CodeGate"
def F_X : u_T := fun k => match k with
  | 0 => ("CodeGate", "walk", "LCodeGate$Walk;", true)
  | 1 => ("CodeGate", "gate", "LCodeGate$Gate;", true)
  | _ => ("CodeGate", "latest", "LCodeGate$Report;", true)
def t_X : Nat → FieldType := fun k => match k with
  | 0 => .object "CodeGate$Walk"
  | 1 => .object "CodeGate$Gate"
  | _ => .object "CodeGate$Report"
theorem n_X : ∀ a, a < 3 → ∀ b, b < 3 → a ≠ b → (F_X a).2.1 ≠ (F_X b).2.1 := by decide +kernel
theorem t_X_ok : ∀ k, k < 3 → parseFieldDescriptor (F_X k).2.2.1 = some (t_X k) := by decide +kernel
theorem i_X : ∀ w ∈ u_ws R_X F_X 3, w ∈ tb := by
  intro w h
  obtain ⟨k, hk, rfl⟩ := List.mem_map.mp h
  have hk := List.mem_range.mp hk
  rcases (show k = 0 ∨ 0 < k by omega) with rfl | hk0
  · exact tb_in 232 (by decide +kernel) (by decide +kernel)
  rcases (show k = 1 ∨ 1 < k by omega) with rfl | hk1
  · exact tb_in 234 (by decide +kernel) (by decide +kernel)
  rcases (show k = 2 ∨ 2 < k by omega) with rfl | hk2
  · exact tb_in 236 (by decide +kernel) (by decide +kernel)
  omega
def R_M : String := "CodeGateModel"
def F_M : u_T := fun k => match k with
  | 0 => ("CodeGateModel", "file", "[B", true)
  | 1 => ("CodeGateModel", "size", "I", false)
  | 2 => ("CodeGateModel", "limit", "I", false)
  | 3 => ("CodeGateModel", "at", "I", false)
  | 4 => ("CodeGateModel", "broken", "I", false)
  | 5 => ("CodeGateModel", "place", "I", false)
  | 6 => ("CodeGateModel", "version", "I", false)
  | 7 => ("CodeGateModel", "many", "I", false)
  | 8 => ("CodeGateModel", "kinds", "[I", true)
  | 9 => ("CodeGateModel", "begins", "[I", true)
  | 10 => ("CodeGateModel", "flags", "I", false)
  | 11 => ("CodeGateModel", "self", "I", false)
  | 12 => ("CodeGateModel", "interfaces", "I", false)
  | 13 => ("CodeGateModel", "fields", "I", false)
  | 14 => ("CodeGateModel", "methods", "I", false)
  | 15 => ("CodeGateModel", "instructions", "I", false)
  | 16 => ("CodeGateModel", "bytes", "I", false)
  | 17 => ("CodeGateModel", "jumps", "I", false)
  | 18 => ("CodeGateModel", "rows", "I", false)
  | 19 => ("CodeGateModel", "facts", "[I", true)
  | 20 => ("CodeGateModel", "names", "[I", true)
  | 21 => ("CodeGateModel", "types", "[I", true)
  | 22 => ("CodeGateModel", "tops", "[I", true)
  | 23 => ("CodeGateModel", "starts", "[Z", true)
  | 24 => ("CodeGateModel", "lastRule", "I", false)
  | 25 => ("CodeGateModel", "passed", "Z", false)
  | 26 => ("CodeGateModel", "told", "[I", true)
  | 27 => ("CodeGateModel", "kept", "[I", true)
  | 28 => ("CodeGateModel", "keptKinds", "[I", true)
  | 29 => ("CodeGateModel", "real", "Z", false)
  | 30 => ("CodeGateModel", "slots", "I", false)
  | 31 => ("CodeGateModel", "begin", "I", false)
  | 32 => ("CodeGateModel", "end", "I", false)
  | _ => ("CodeGateModel", "locals", "I", false)
def t_M : Nat → FieldType := fun k => match k with
  | 0 => .array .byte
  | 1 => .int
  | 2 => .int
  | 3 => .int
  | 4 => .int
  | 5 => .int
  | 6 => .int
  | 7 => .int
  | 8 => .array .int
  | 9 => .array .int
  | 10 => .int
  | 11 => .int
  | 12 => .int
  | 13 => .int
  | 14 => .int
  | 15 => .int
  | 16 => .int
  | 17 => .int
  | 18 => .int
  | 19 => .array .int
  | 20 => .array .int
  | 21 => .array .int
  | 22 => .array .int
  | 23 => .array .boolean
  | 24 => .int
  | 25 => .boolean
  | 26 => .array .int
  | 27 => .array .int
  | 28 => .array .int
  | 29 => .boolean
  | 30 => .int
  | 31 => .int
  | 32 => .int
  | _ => .int
theorem n_M : ∀ a, a < 34 → ∀ b, b < 34 → a ≠ b → (F_M a).2.1 ≠ (F_M b).2.1 := by decide +kernel
theorem t_M_ok : ∀ k, k < 34 → parseFieldDescriptor (F_M k).2.2.1 = some (t_M k) := by decide +kernel
theorem i_M : ∀ w ∈ u_ws R_M F_M 34, w ∈ tb := by
  intro w h
  obtain ⟨k, hk, rfl⟩ := List.mem_map.mp h
  have hk := List.mem_range.mp hk
  rcases (show k = 0 ∨ 0 < k by omega) with rfl | hk0
  · exact tb_in 728 (by decide +kernel) (by decide +kernel)
  rcases (show k = 1 ∨ 1 < k by omega) with rfl | hk1
  · exact tb_in 730 (by decide +kernel) (by decide +kernel)
  rcases (show k = 2 ∨ 2 < k by omega) with rfl | hk2
  · exact tb_in 732 (by decide +kernel) (by decide +kernel)
  rcases (show k = 3 ∨ 3 < k by omega) with rfl | hk3
  · exact tb_in 734 (by decide +kernel) (by decide +kernel)
  rcases (show k = 4 ∨ 4 < k by omega) with rfl | hk4
  · exact tb_in 736 (by decide +kernel) (by decide +kernel)
  rcases (show k = 5 ∨ 5 < k by omega) with rfl | hk5
  · exact tb_in 738 (by decide +kernel) (by decide +kernel)
  rcases (show k = 6 ∨ 6 < k by omega) with rfl | hk6
  · exact tb_in 740 (by decide +kernel) (by decide +kernel)
  rcases (show k = 7 ∨ 7 < k by omega) with rfl | hk7
  · exact tb_in 742 (by decide +kernel) (by decide +kernel)
  rcases (show k = 8 ∨ 8 < k by omega) with rfl | hk8
  · exact tb_in 744 (by decide +kernel) (by decide +kernel)
  rcases (show k = 9 ∨ 9 < k by omega) with rfl | hk9
  · exact tb_in 746 (by decide +kernel) (by decide +kernel)
  rcases (show k = 10 ∨ 10 < k by omega) with rfl | hk10
  · exact tb_in 748 (by decide +kernel) (by decide +kernel)
  rcases (show k = 11 ∨ 11 < k by omega) with rfl | hk11
  · exact tb_in 750 (by decide +kernel) (by decide +kernel)
  rcases (show k = 12 ∨ 12 < k by omega) with rfl | hk12
  · exact tb_in 752 (by decide +kernel) (by decide +kernel)
  rcases (show k = 13 ∨ 13 < k by omega) with rfl | hk13
  · exact tb_in 754 (by decide +kernel) (by decide +kernel)
  rcases (show k = 14 ∨ 14 < k by omega) with rfl | hk14
  · exact tb_in 756 (by decide +kernel) (by decide +kernel)
  rcases (show k = 15 ∨ 15 < k by omega) with rfl | hk15
  · exact tb_in 758 (by decide +kernel) (by decide +kernel)
  rcases (show k = 16 ∨ 16 < k by omega) with rfl | hk16
  · exact tb_in 760 (by decide +kernel) (by decide +kernel)
  rcases (show k = 17 ∨ 17 < k by omega) with rfl | hk17
  · exact tb_in 762 (by decide +kernel) (by decide +kernel)
  rcases (show k = 18 ∨ 18 < k by omega) with rfl | hk18
  · exact tb_in 764 (by decide +kernel) (by decide +kernel)
  rcases (show k = 19 ∨ 19 < k by omega) with rfl | hk19
  · exact tb_in 766 (by decide +kernel) (by decide +kernel)
  rcases (show k = 20 ∨ 20 < k by omega) with rfl | hk20
  · exact tb_in 768 (by decide +kernel) (by decide +kernel)
  rcases (show k = 21 ∨ 21 < k by omega) with rfl | hk21
  · exact tb_in 770 (by decide +kernel) (by decide +kernel)
  rcases (show k = 22 ∨ 22 < k by omega) with rfl | hk22
  · exact tb_in 772 (by decide +kernel) (by decide +kernel)
  rcases (show k = 23 ∨ 23 < k by omega) with rfl | hk23
  · exact tb_in 774 (by decide +kernel) (by decide +kernel)
  rcases (show k = 24 ∨ 24 < k by omega) with rfl | hk24
  · exact tb_in 776 (by decide +kernel) (by decide +kernel)
  rcases (show k = 25 ∨ 25 < k by omega) with rfl | hk25
  · exact tb_in 778 (by decide +kernel) (by decide +kernel)
  rcases (show k = 26 ∨ 26 < k by omega) with rfl | hk26
  · exact tb_in 780 (by decide +kernel) (by decide +kernel)
  rcases (show k = 27 ∨ 27 < k by omega) with rfl | hk27
  · exact tb_in 782 (by decide +kernel) (by decide +kernel)
  rcases (show k = 28 ∨ 28 < k by omega) with rfl | hk28
  · exact tb_in 784 (by decide +kernel) (by decide +kernel)
  rcases (show k = 29 ∨ 29 < k by omega) with rfl | hk29
  · exact tb_in 786 (by decide +kernel) (by decide +kernel)
  rcases (show k = 30 ∨ 30 < k by omega) with rfl | hk30
  · exact tb_in 788 (by decide +kernel) (by decide +kernel)
  rcases (show k = 31 ∨ 31 < k by omega) with rfl | hk31
  · exact tb_in 790 (by decide +kernel) (by decide +kernel)
  rcases (show k = 32 ∨ 32 < k by omega) with rfl | hk32
  · exact tb_in 792 (by decide +kernel) (by decide +kernel)
  rcases (show k = 33 ∨ 33 < k by omega) with rfl | hk33
  · exact tb_in 794 (by decide +kernel) (by decide +kernel)
  omega
abbrev clA : List vw_C := [(R_C, F_C, 13), (R_G, F_G, 13), (R_P, F_P, 8), (R_R, F_R, 5), (R_W, F_W, 5), (R_D, F_D, 1), (R_X, F_X, 3), (R_M, F_M, 34)]
def y_X_init : MethodName := ⟨R_X, "<init>", "()V"⟩
def y_W_init : MethodName := ⟨R_W, "<init>", "()V"⟩
def y_G_init : MethodName := ⟨R_G, "<init>", "(LCodeGate$Walk;)V"⟩
def y_P_init : MethodName := ⟨R_P, "<init>", "(LCodeGate$Walk;)V"⟩
def y_D_init : MethodName := ⟨R_D, "<init>", "([B)V"⟩
def y_C_init : MethodName := ⟨R_C, "<init>", "(LCodeGate$Walk;LCodeGate$Pool;)V"⟩
def y_R_init : MethodName := ⟨R_R, "<init>", "()V"⟩
def y_X_feed : MethodName := ⟨R_X, "feed", "(IIIII)I"⟩
def y_W_append : MethodName := ⟨R_W, "append", "(I)V"⟩
def y_X_cut : MethodName := ⟨R_X, "cut", "(I)I"⟩
def y_X_turn : MethodName := ⟨R_X, "turn", "(II)I"⟩
def y_W_flip : MethodName := ⟨R_W, "flip", "(II)V"⟩
def y_W_numberAt : MethodName := ⟨R_W, "numberAt", "(II)I"⟩
def y_X_byteAt : MethodName := ⟨R_X, "byteAt", "(I)I"⟩
def y_X_judge : MethodName := ⟨R_X, "judge", "()I"⟩
def y_G_passes : MethodName := ⟨R_G, "passes", "()Z"⟩
def y_W_begin : MethodName := ⟨R_W, "begin", "()V"⟩
def y_G_readHead : MethodName := ⟨R_G, "readHead", "()V"⟩
def y_W_next : MethodName := ⟨R_W, "next", "(I)I"⟩
def y_W_need : MethodName := ⟨R_W, "need", "(ZII)V"⟩
def y_P_readEntries : MethodName := ⟨R_P, "readEntries", "()V"⟩
def y_W_sound : MethodName := ⟨R_W, "sound", "()Z"⟩
def y_P_readEntry : MethodName := ⟨R_P, "readEntry", "(I)V"⟩
def y_P_clear : MethodName := ⟨R_P, "clear", "(II)V"⟩
def y_P_readText : MethodName := ⟨R_P, "readText", "(I)V"⟩
def y_P_followers : MethodName := ⟨R_P, "followers", "(I)I"⟩
def y_P_noteTexts : MethodName := ⟨R_P, "noteTexts", "()V"⟩
def y_P_noteText : MethodName := ⟨R_P, "noteText", "(I)V"⟩
def y_P_firstOf : MethodName := ⟨R_P, "firstOf", "(I)I"⟩
def y_P_within : MethodName := ⟨R_P, "within", "(I)Z"⟩
def y_D_typeFacts : MethodName := ⟨R_D, "typeFacts", "(II)I"⟩
def y_D_methodFacts : MethodName := ⟨R_D, "methodFacts", "(II)I"⟩
def y_D_typeEnd : MethodName := ⟨R_D, "typeEnd", "(II)I"⟩
def y_D_isSimple : MethodName := ⟨R_D, "isSimple", "(I)Z"⟩
def y_D_nameFacts : MethodName := ⟨R_D, "nameFacts", "(II)I"⟩
def y_D_slotsBetween : MethodName := ⟨R_D, "slotsBetween", "(II)I"⟩
def y_D_floatFacts : MethodName := ⟨R_D, "floatFacts", "(I)I"⟩
def y_P_spells : MethodName := ⟨R_P, "spells", "(ILjava/lang/String;)Z"⟩
def y_D_withoutSlots : MethodName := ⟨R_D, "withoutSlots", "(I)I"⟩
def y_D_slotsOf : MethodName := ⟨R_D, "slotsOf", "(I)I"⟩
def y_P_readLinks : MethodName := ⟨R_P, "readLinks", "()V"⟩
def y_P_linkClass : MethodName := ⟨R_P, "linkClass", "(I)V"⟩
def y_P_refer : MethodName := ⟨R_P, "refer", "(II)I"⟩
def y_P_kindOf : MethodName := ⟨R_P, "kindOf", "(I)I"⟩
def y_P_bracketsOf : MethodName := ⟨R_P, "bracketsOf", "(I)I"⟩
def y_P_factsOf : MethodName := ⟨R_P, "factsOf", "(I)I"⟩
def y_P_linkNamed : MethodName := ⟨R_P, "linkNamed", "(I)V"⟩
def y_P_needType : MethodName := ⟨R_P, "needType", "(III)V"⟩
def y_P_linkMember : MethodName := ⟨R_P, "linkMember", "(I)V"⟩
def y_P_secondOf : MethodName := ⟨R_P, "secondOf", "(I)I"⟩
def y_P_fits : MethodName := ⟨R_P, "fits", "(III)Z"⟩
def y_P_measureOf : MethodName := ⟨R_P, "measureOf", "(I)I"⟩
def y_G_readClass : MethodName := ⟨R_G, "readClass", "()V"⟩
def y_G_classFlagsHold : MethodName := ⟨R_G, "classFlagsHold", "(I)Z"⟩
def y_G_takeClassText : MethodName := ⟨R_G, "takeClassText", "()I"⟩
def y_P_take : MethodName := ⟨R_P, "take", "(I)I"⟩
def y_P_alike : MethodName := ⟨R_P, "alike", "(II)Z"⟩
def y_G_readCount : MethodName := ⟨R_G, "readCount", "(I)I"⟩
def y_G_readInterface : MethodName := ⟨R_G, "readInterface", "(I)V"⟩
def y_G_readField : MethodName := ⟨R_G, "readField", "(I)V"⟩
def y_G_fieldFlagsHold : MethodName := ⟨R_G, "fieldFlagsHold", "(I)Z"⟩
def y_G_addMember : MethodName := ⟨R_G, "addMember", "(II)V"⟩
def y_G_readAttributes : MethodName := ⟨R_G, "readAttributes", "(I)I"⟩
def y_G_attributeOf : MethodName := ⟨R_G, "attributeOf", "(I)I"⟩
def y_G_leastLocals : MethodName := ⟨R_G, "leastLocals", "()I"⟩
def y_C_readAll : MethodName := ⟨R_C, "readAll", "(II)V"⟩
def y_C_readSizes : MethodName := ⟨R_C, "readSizes", "(I)V"⟩
def y_C_step : MethodName := ⟨R_C, "step", "(I)I"⟩
def y_C_stepTable : MethodName := ⟨R_C, "stepTable", "(I)I"⟩
def y_C_pastPadding : MethodName := ⟨R_C, "pastPadding", "(I)I"⟩
def y_C_switchNumber : MethodName := ⟨R_C, "switchNumber", "(II)I"⟩
def y_C_addJump : MethodName := ⟨R_C, "addJump", "(II)V"⟩
def y_C_stepPairs : MethodName := ⟨R_C, "stepPairs", "(I)I"⟩
def y_C_stepWide : MethodName := ⟨R_C, "stepWide", "(I)I"⟩
def y_C_stepFixed : MethodName := ⟨R_C, "stepFixed", "(III)I"⟩
def y_C_localInCode : MethodName := ⟨R_C, "localInCode", "(I)I"⟩
def y_C_kindFits : MethodName := ⟨R_C, "kindFits", "(III)Z"⟩
def y_C_restFits : MethodName := ⟨R_C, "restFits", "(IIII)Z"⟩
def y_C_isFirst : MethodName := ⟨R_C, "isFirst", "(I)Z"⟩
def y_C_mayBeLast : MethodName := ⟨R_C, "mayBeLast", "(I)Z"⟩
def y_C_readRows : MethodName := ⟨R_C, "readRows", "()V"⟩
def y_G_readConstant : MethodName := ⟨R_G, "readConstant", "()V"⟩
def y_G_constantKind : MethodName := ⟨R_G, "constantKind", "()I"⟩
def y_G_readExceptions : MethodName := ⟨R_G, "readExceptions", "()V"⟩
def y_G_clearCodeTallies : MethodName := ⟨R_G, "clearCodeTallies", "()V"⟩
def y_G_readMethod : MethodName := ⟨R_G, "readMethod", "(I)V"⟩
def y_G_methodFlagsHold : MethodName := ⟨R_G, "methodFlagsHold", "(I)Z"⟩
def y_G_specialNameHolds : MethodName := ⟨R_G, "specialNameHolds", "(I)Z"⟩
def y_G_noteMethod : MethodName := ⟨R_G, "noteMethod", "(IZ)V"⟩
def y_R_keep : MethodName := ⟨R_R, "keep", "(LCodeGate$Gate;ZI)V"⟩
def y_X_rule : MethodName := ⟨R_X, "rule", "()I"⟩
def y_X_told : MethodName := ⟨R_X, "told", "(I)I"⟩
def y_X_method : MethodName := ⟨R_X, "method", "(II)I"⟩
def y_X_entry : MethodName := ⟨R_X, "entry", "(I)I"⟩
def y_X_guarded : MethodName := ⟨R_X, "guarded", "(I)I"⟩
def y_X_beginnings : MethodName := ⟨R_X, "beginnings", "()I"⟩
def y_M_init : MethodName := ⟨R_M, "<init>", "()V"⟩
def y_M_feed : MethodName := ⟨R_M, "feed", "(IIIII)I"⟩
def y_M_cut : MethodName := ⟨R_M, "cut", "(I)I"⟩
def y_M_turn : MethodName := ⟨R_M, "turn", "(II)I"⟩
def y_M_byteAt : MethodName := ⟨R_M, "byteAt", "(I)I"⟩
def y_M_judge : MethodName := ⟨R_M, "judge", "()I"⟩
def y_M_go : MethodName := ⟨R_M, "go", "(I)V"⟩
def y_M_u4 : MethodName := ⟨R_M, "u4", "()J"⟩
def y_M_u2 : MethodName := ⟨R_M, "u2", "()I"⟩
def y_M_u1 : MethodName := ⟨R_M, "u1", "()I"⟩
def y_M_ok : MethodName := ⟨R_M, "ok", "()Z"⟩
def y_M_fails : MethodName := ⟨R_M, "fails", "(II)Z"⟩
def y_M_must : MethodName := ⟨R_M, "must", "(ZII)Z"⟩
def y_M_pool : MethodName := ⟨R_M, "pool", "()V"⟩
def y_M_text : MethodName := ⟨R_M, "text", "()V"⟩
def y_M_refer : MethodName := ⟨R_M, "refer", "()V"⟩
def y_M_two : MethodName := ⟨R_M, "two", "(I)I"⟩
def y_M_isKind : MethodName := ⟨R_M, "isKind", "(II)Z"⟩
def y_M_letter : MethodName := ⟨R_M, "letter", "(II)I"⟩
def y_M_textSize : MethodName := ⟨R_M, "textSize", "(I)I"⟩
def y_M_textAt : MethodName := ⟨R_M, "textAt", "(I)I"⟩
def y_M_isField : MethodName := ⟨R_M, "isField", "(I)Z"⟩
def y_M_typeEnd : MethodName := ⟨R_M, "typeEnd", "(II)I"⟩
def y_M_classEnd : MethodName := ⟨R_M, "classEnd", "(II)I"⟩
def y_M_isPlain : MethodName := ⟨R_M, "isPlain", "(I)Z"⟩
def y_M_isClassName : MethodName := ⟨R_M, "isClassName", "(I)Z"⟩
def y_M_isPlainName : MethodName := ⟨R_M, "isPlainName", "(I)Z"⟩
def y_M_is : MethodName := ⟨R_M, "is", "(IIJJJ)Z"⟩
def y_M_isMethod : MethodName := ⟨R_M, "isMethod", "(I)Z"⟩
def y_M_typeOf : MethodName := ⟨R_M, "typeOf", "(I)I"⟩
def y_M_nameOf : MethodName := ⟨R_M, "nameOf", "(I)I"⟩
def y_M_isVoid : MethodName := ⟨R_M, "isVoid", "(I)Z"⟩
def y_M_head : MethodName := ⟨R_M, "head", "()V"⟩
def y_M_number : MethodName := ⟨R_M, "number", "(I)I"⟩
def y_M_isArray : MethodName := ⟨R_M, "isArray", "(I)Z"⟩
def y_M_textOf : MethodName := ⟨R_M, "textOf", "(I)I"⟩
def y_M_same : MethodName := ⟨R_M, "same", "(II)Z"⟩
def y_M_fields : MethodName := ⟨R_M, "fields", "()V"⟩
def y_M_oneOf : MethodName := ⟨R_M, "oneOf", "(I)Z"⟩
def y_M_attributes : MethodName := ⟨R_M, "attributes", "(IIII)V"⟩
def y_M_thrown : MethodName := ⟨R_M, "thrown", "(I)V"⟩
def y_M_value : MethodName := ⟨R_M, "value", "(I)V"⟩
def y_M_code : MethodName := ⟨R_M, "code", "(II)V"⟩
def y_M_instruction : MethodName := ⟨R_M, "instruction", "()V"⟩
def y_M_byteOf : MethodName := ⟨R_M, "byteOf", "(I)I"⟩
def y_M_isBarred : MethodName := ⟨R_M, "isBarred", "(I)Z"⟩
def y_M_branches : MethodName := ⟨R_M, "branches", "(IZ)V"⟩
def y_M_numbersOf : MethodName := ⟨R_M, "numbersOf", "(I)I"⟩
def y_M_isThere : MethodName := ⟨R_M, "isThere", "(II)Z"⟩
def y_M_four : MethodName := ⟨R_M, "four", "(I)I"⟩
def y_M_local : MethodName := ⟨R_M, "local", "(III)V"⟩
def y_M_lengthOf : MethodName := ⟨R_M, "lengthOf", "(I)I"⟩
def y_M_plain : MethodName := ⟨R_M, "plain", "(II)V"⟩
def y_M_invoke : MethodName := ⟨R_M, "invoke", "(III)V"⟩
def y_M_after : MethodName := ⟨R_M, "after", "(I)I"⟩
def y_M_targets : MethodName := ⟨R_M, "targets", "(I)V"⟩
def y_M_target : MethodName := ⟨R_M, "target", "(IJ)V"⟩
def y_M_handlers : MethodName := ⟨R_M, "handlers", "()V"⟩
def y_M_methods : MethodName := ⟨R_M, "methods", "()V"⟩
def y_M_rule : MethodName := ⟨R_M, "rule", "()I"⟩
def y_M_told : MethodName := ⟨R_M, "told", "(I)I"⟩
def y_M_method : MethodName := ⟨R_M, "method", "(II)I"⟩
def y_M_entry : MethodName := ⟨R_M, "entry", "(I)I"⟩
def y_M_guarded : MethodName := ⟨R_M, "guarded", "(I)I"⟩
def y_M_beginnings : MethodName := ⟨R_M, "beginnings", "()I"⟩
theorem k_0 : (.initialized "CodeGateLaw" : Cond) ∈ tb := tb_in 0 (by decide +kernel) (by decide +kernel)
theorem k_1 : (.initialized "CodeGate" : Cond) ∈ tb := tb_in 1 (by decide +kernel) (by decide +kernel)
theorem k_2 : (.initialized "CodeGate$Walk" : Cond) ∈ tb := tb_in 2 (by decide +kernel) (by decide +kernel)
theorem k_3 : (.initialized "CodeGate$Gate" : Cond) ∈ tb := tb_in 3 (by decide +kernel) (by decide +kernel)
theorem k_4 : (.initialized "CodeGate$Pool" : Cond) ∈ tb := tb_in 4 (by decide +kernel) (by decide +kernel)
theorem k_5 : (.initialized "CodeGate$Words" : Cond) ∈ tb := tb_in 5 (by decide +kernel) (by decide +kernel)
theorem k_6 : (.initialized "CodeGate$Code" : Cond) ∈ tb := tb_in 6 (by decide +kernel) (by decide +kernel)
theorem k_7 : (.initialized "CodeGate$Report" : Cond) ∈ tb := tb_in 7 (by decide +kernel) (by decide +kernel)
theorem k_8 : (.initialized "CodeGateModel" : Cond) ∈ tb := tb_in 8 (by decide +kernel) (by decide +kernel)
theorem k_9 : (.initialized "java/lang/Math" : Cond) ∈ tb := tb_in 9 (by decide +kernel) (by decide +kernel)
theorem k_10 : (.initialized "java/lang/String" : Cond) ∈ tb := tb_in 10 (by decide +kernel) (by decide +kernel)
theorem k_11 : (.initialized "java/lang/StringLatin1" : Cond) ∈ tb := tb_in 11 (by decide +kernel) (by decide +kernel)
theorem k_12 : (.initialized "jdk/internal/util/Preconditions" : Cond) ∈ tb := tb_in 12 (by decide +kernel) (by decide +kernel)
theorem k_13 : (.initialized "java/lang/StringUTF16" : Cond) ∈ tb := tb_in 13 (by decide +kernel) (by decide +kernel)
theorem k_14 : (.initialized "java/lang/Integer" : Cond) ∈ tb := tb_in 14 (by decide +kernel) (by decide +kernel)
theorem k_15 : (.initialized "java/lang/System" : Cond) ∈ tb := tb_in 15 (by decide +kernel) (by decide +kernel)
theorem k_16 : (.classLink "CodeGateLaw" 7 "CodeGate" : Cond) ∈ tb := tb_in 16 (by decide +kernel) (by decide +kernel)
theorem k_17 : (.instantiable "CodeGate" 3 : Cond) ∈ tb := tb_in 17 (by decide +kernel) (by decide +kernel)
theorem k_18 : (.methodLink "CodeGateLaw" 9 ⟨"CodeGate", "<init>", "()V"⟩ : Cond) ∈ tb := tb_in 18 (by decide +kernel) (by decide +kernel)
theorem k_19 : (.instanceMethod ⟨"CodeGate", "<init>", "()V"⟩ : Cond) ∈ tb := tb_in 19 (by decide +kernel) (by decide +kernel)
set_option maxRecDepth 100000 in
theorem k_20 : (.code ⟨"CodeGate", "<init>", "()V"⟩ prog_1_method_1_code 1 (Option.none : Option Jvm.ClassFile.FieldType) : Cond) ∈ tb := tb_in 20 rfl rfl
theorem k_21 : (.methodLink "CodeGate" 1 ⟨"java/lang/Object", "<init>", "()V"⟩ : Cond) ∈ tb := tb_in 21 (by decide +kernel) (by decide +kernel)
theorem k_22 : (.instanceMethod ⟨"java/lang/Object", "<init>", "()V"⟩ : Cond) ∈ tb := tb_in 22 (by decide +kernel) (by decide +kernel)
set_option maxRecDepth 100000 in
theorem k_23 : (.code ⟨"java/lang/Object", "<init>", "()V"⟩ object_method_1_code 1 (Option.none : Option Jvm.ClassFile.FieldType) : Cond) ∈ tb := tb_in 23 rfl rfl
theorem k_24 : (.classLink "CodeGate" 7 "CodeGate$Walk" : Cond) ∈ tb := tb_in 24 (by decide +kernel) (by decide +kernel)
theorem k_25 : (.instantiable "CodeGate$Walk" 5 : Cond) ∈ tb := tb_in 25 (by decide +kernel) (by decide +kernel)
theorem k_27 : (.instanceMethod ⟨"CodeGate$Walk", "<init>", "()V"⟩ : Cond) ∈ tb := tb_in 27 (by decide +kernel) (by decide +kernel)
set_option maxRecDepth 100000 in
theorem k_28 : (.code ⟨"CodeGate$Walk", "<init>", "()V"⟩ prog_6_method_1_code 1 (Option.none : Option Jvm.ClassFile.FieldType) : Cond) ∈ tb := tb_in 28 rfl rfl
theorem k_29 : (.methodLink "CodeGate$Walk" 1 ⟨"java/lang/Object", "<init>", "()V"⟩ : Cond) ∈ tb := tb_in 29 (by decide +kernel) (by decide +kernel)
theorem k_30 : (.fieldLink "CodeGate$Walk" 9 "CodeGate$Walk" "row" "[B" : Cond) ∈ tb := tb_in 30 (by decide +kernel) (by decide +kernel)
theorem k_31 : (.fieldLink "CodeGate$Pool" 31 "CodeGate$Walk" "row" "[B" : Cond) ∈ tb := tb_in 31 (by decide +kernel) (by decide +kernel)
theorem k_32 : (.fieldLink "CodeGate$Walk" 13 "CodeGate$Walk" "length" "I" : Cond) ∈ tb := tb_in 32 (by decide +kernel) (by decide +kernel)
theorem k_33 : (.fieldLink "CodeGate" 32 "CodeGate$Walk" "length" "I" : Cond) ∈ tb := tb_in 33 (by decide +kernel) (by decide +kernel)
theorem k_34 : (.fieldLink "CodeGate$Gate" 109 "CodeGate$Walk" "length" "I" : Cond) ∈ tb := tb_in 34 (by decide +kernel) (by decide +kernel)
theorem k_35 : (.fieldLink "CodeGate$Code" 93 "CodeGate$Walk" "length" "I" : Cond) ∈ tb := tb_in 35 (by decide +kernel) (by decide +kernel)
theorem k_36 : (.fieldLink "CodeGate$Pool" 87 "CodeGate$Walk" "length" "I" : Cond) ∈ tb := tb_in 36 (by decide +kernel) (by decide +kernel)
theorem k_37 : (.fieldLink "CodeGate$Pool" 44 "CodeGate$Walk" "at" "I" : Cond) ∈ tb := tb_in 37 (by decide +kernel) (by decide +kernel)
theorem k_38 : (.fieldLink "CodeGate$Code" 78 "CodeGate$Walk" "at" "I" : Cond) ∈ tb := tb_in 38 (by decide +kernel) (by decide +kernel)
theorem k_39 : (.fieldLink "CodeGate$Gate" 106 "CodeGate$Walk" "at" "I" : Cond) ∈ tb := tb_in 39 (by decide +kernel) (by decide +kernel)
theorem k_40 : (.fieldLink "CodeGate$Walk" 17 "CodeGate$Walk" "at" "I" : Cond) ∈ tb := tb_in 40 (by decide +kernel) (by decide +kernel)
theorem k_41 : (.fieldLink "CodeGate$Walk" 20 "CodeGate$Walk" "broken" "I" : Cond) ∈ tb := tb_in 41 (by decide +kernel) (by decide +kernel)
theorem k_42 : (.fieldLink "CodeGate" 52 "CodeGate$Walk" "broken" "I" : Cond) ∈ tb := tb_in 42 (by decide +kernel) (by decide +kernel)
theorem k_43 : (.fieldLink "CodeGate$Walk" 23 "CodeGate$Walk" "place" "I" : Cond) ∈ tb := tb_in 43 (by decide +kernel) (by decide +kernel)
theorem k_44 : (.fieldLink "CodeGate" 62 "CodeGate$Walk" "place" "I" : Cond) ∈ tb := tb_in 44 (by decide +kernel) (by decide +kernel)
theorem k_57 : (.classLink "CodeGate" 16 "CodeGate$Gate" : Cond) ∈ tb := tb_in 57 (by decide +kernel) (by decide +kernel)
theorem k_58 : (.instantiable "CodeGate$Gate" 13 : Cond) ∈ tb := tb_in 58 (by decide +kernel) (by decide +kernel)
theorem k_59 : (.methodLink "CodeGate" 18 ⟨"CodeGate$Gate", "<init>", "(LCodeGate$Walk;)V"⟩ : Cond) ∈ tb := tb_in 59 (by decide +kernel) (by decide +kernel)
theorem k_60 : (.instanceMethod ⟨"CodeGate$Gate", "<init>", "(LCodeGate$Walk;)V"⟩ : Cond) ∈ tb := tb_in 60 (by decide +kernel) (by decide +kernel)
set_option maxRecDepth 100000 in
theorem k_61 : (.code ⟨"CodeGate$Gate", "<init>", "(LCodeGate$Walk;)V"⟩ prog_3_method_1_code 2 (Option.none : Option Jvm.ClassFile.FieldType) : Cond) ∈ tb := tb_in 61 rfl rfl
theorem k_62 : (.methodLink "CodeGate$Gate" 1 ⟨"java/lang/Object", "<init>", "()V"⟩ : Cond) ∈ tb := tb_in 62 (by decide +kernel) (by decide +kernel)
theorem k_63 : (.classLink "CodeGate$Gate" 26 "CodeGate$Pool" : Cond) ∈ tb := tb_in 63 (by decide +kernel) (by decide +kernel)
theorem k_64 : (.instantiable "CodeGate$Pool" 8 : Cond) ∈ tb := tb_in 64 (by decide +kernel) (by decide +kernel)
theorem k_65 : (.methodLink "CodeGate$Gate" 28 ⟨"CodeGate$Pool", "<init>", "(LCodeGate$Walk;)V"⟩ : Cond) ∈ tb := tb_in 65 (by decide +kernel) (by decide +kernel)
theorem k_66 : (.instanceMethod ⟨"CodeGate$Pool", "<init>", "(LCodeGate$Walk;)V"⟩ : Cond) ∈ tb := tb_in 66 (by decide +kernel) (by decide +kernel)
set_option maxRecDepth 100000 in
theorem k_67 : (.code ⟨"CodeGate$Pool", "<init>", "(LCodeGate$Walk;)V"⟩ prog_4_method_1_code 2 (Option.none : Option Jvm.ClassFile.FieldType) : Cond) ∈ tb := tb_in 67 rfl rfl
theorem k_68 : (.methodLink "CodeGate$Pool" 1 ⟨"java/lang/Object", "<init>", "()V"⟩ : Cond) ∈ tb := tb_in 68 (by decide +kernel) (by decide +kernel)
theorem k_69 : (.classLink "CodeGate$Pool" 29 "CodeGate$Words" : Cond) ∈ tb := tb_in 69 (by decide +kernel) (by decide +kernel)
theorem k_70 : (.instantiable "CodeGate$Words" 1 : Cond) ∈ tb := tb_in 70 (by decide +kernel) (by decide +kernel)
theorem k_71 : (.methodLink "CodeGate$Pool" 37 ⟨"CodeGate$Words", "<init>", "([B)V"⟩ : Cond) ∈ tb := tb_in 71 (by decide +kernel) (by decide +kernel)
theorem k_72 : (.instanceMethod ⟨"CodeGate$Words", "<init>", "([B)V"⟩ : Cond) ∈ tb := tb_in 72 (by decide +kernel) (by decide +kernel)
set_option maxRecDepth 100000 in
theorem k_73 : (.code ⟨"CodeGate$Words", "<init>", "([B)V"⟩ prog_7_method_1_code 2 (Option.none : Option Jvm.ClassFile.FieldType) : Cond) ∈ tb := tb_in 73 rfl rfl
theorem k_74 : (.methodLink "CodeGate$Words" 3 ⟨"java/lang/Object", "<init>", "()V"⟩ : Cond) ∈ tb := tb_in 74 (by decide +kernel) (by decide +kernel)
theorem k_75 : (.fieldLink "CodeGate$Words" 9 "CodeGate$Words" "row" "[B" : Cond) ∈ tb := tb_in 75 (by decide +kernel) (by decide +kernel)
theorem k_80 : (.fieldLink "CodeGate$Pool" 9 "CodeGate$Pool" "kinds" "[I" : Cond) ∈ tb := tb_in 80 (by decide +kernel) (by decide +kernel)
theorem k_81 : (.fieldLink "CodeGate$Report" 43 "CodeGate$Pool" "kinds" "[I" : Cond) ∈ tb := tb_in 81 (by decide +kernel) (by decide +kernel)
theorem k_82 : (.fieldLink "CodeGate$Pool" 60 "CodeGate$Pool" "count" "I" : Cond) ∈ tb := tb_in 82 (by decide +kernel) (by decide +kernel)
theorem k_83 : (.fieldLink "CodeGate$Gate" 112 "CodeGate$Pool" "count" "I" : Cond) ∈ tb := tb_in 83 (by decide +kernel) (by decide +kernel)
theorem k_84 : (.fieldLink "CodeGate$Pool" 25 "CodeGate$Pool" "walk" "LCodeGate$Walk;" : Cond) ∈ tb := tb_in 84 (by decide +kernel) (by decide +kernel)
theorem k_85 : (.fieldLink "CodeGate$Pool" 40 "CodeGate$Pool" "words" "LCodeGate$Words;" : Cond) ∈ tb := tb_in 85 (by decide +kernel) (by decide +kernel)
theorem k_86 : (.fieldLink "CodeGate$Pool" 13 "CodeGate$Pool" "places" "[I" : Cond) ∈ tb := tb_in 86 (by decide +kernel) (by decide +kernel)
theorem k_87 : (.fieldLink "CodeGate$Pool" 16 "CodeGate$Pool" "facts" "[I" : Cond) ∈ tb := tb_in 87 (by decide +kernel) (by decide +kernel)
theorem k_88 : (.fieldLink "CodeGate$Pool" 19 "CodeGate$Pool" "measures" "[I" : Cond) ∈ tb := tb_in 88 (by decide +kernel) (by decide +kernel)
theorem k_89 : (.fieldLink "CodeGate$Pool" 22 "CodeGate$Pool" "sums" "[I" : Cond) ∈ tb := tb_in 89 (by decide +kernel) (by decide +kernel)
theorem k_107 : (.classLink "CodeGate$Gate" 35 "CodeGate$Code" : Cond) ∈ tb := tb_in 107 (by decide +kernel) (by decide +kernel)
theorem k_108 : (.instantiable "CodeGate$Code" 13 : Cond) ∈ tb := tb_in 108 (by decide +kernel) (by decide +kernel)
theorem k_109 : (.methodLink "CodeGate$Gate" 37 ⟨"CodeGate$Code", "<init>", "(LCodeGate$Walk;LCodeGate$Pool;)V"⟩ : Cond) ∈ tb := tb_in 109 (by decide +kernel) (by decide +kernel)
theorem k_110 : (.instanceMethod ⟨"CodeGate$Code", "<init>", "(LCodeGate$Walk;LCodeGate$Pool;)V"⟩ : Cond) ∈ tb := tb_in 110 (by decide +kernel) (by decide +kernel)
set_option maxRecDepth 100000 in
theorem k_111 : (.code ⟨"CodeGate$Code", "<init>", "(LCodeGate$Walk;LCodeGate$Pool;)V"⟩ prog_2_method_1_code 3 (Option.none : Option Jvm.ClassFile.FieldType) : Cond) ∈ tb := tb_in 111 rfl rfl
theorem k_112 : (.methodLink "CodeGate$Code" 3 ⟨"java/lang/Object", "<init>", "()V"⟩ : Cond) ∈ tb := tb_in 112 (by decide +kernel) (by decide +kernel)
theorem k_113 : (.fieldLink "CodeGate$Code" 87 "CodeGate$Code" "stack" "I" : Cond) ∈ tb := tb_in 113 (by decide +kernel) (by decide +kernel)
theorem k_114 : (.fieldLink "CodeGate$Gate" 215 "CodeGate$Code" "stack" "I" : Cond) ∈ tb := tb_in 114 (by decide +kernel) (by decide +kernel)
theorem k_115 : (.fieldLink "CodeGate$Code" 90 "CodeGate$Code" "locals" "I" : Cond) ∈ tb := tb_in 115 (by decide +kernel) (by decide +kernel)
theorem k_116 : (.fieldLink "CodeGate$Gate" 218 "CodeGate$Code" "locals" "I" : Cond) ∈ tb := tb_in 116 (by decide +kernel) (by decide +kernel)
theorem k_117 : (.fieldLink "CodeGate$Code" 36 "CodeGate$Code" "size" "I" : Cond) ∈ tb := tb_in 117 (by decide +kernel) (by decide +kernel)
theorem k_118 : (.fieldLink "CodeGate$Gate" 224 "CodeGate$Code" "size" "I" : Cond) ∈ tb := tb_in 118 (by decide +kernel) (by decide +kernel)
theorem k_119 : (.fieldLink "CodeGate$Code" 45 "CodeGate$Code" "instructions" "I" : Cond) ∈ tb := tb_in 119 (by decide +kernel) (by decide +kernel)
theorem k_120 : (.fieldLink "CodeGate$Gate" 221 "CodeGate$Code" "instructions" "I" : Cond) ∈ tb := tb_in 120 (by decide +kernel) (by decide +kernel)
theorem k_121 : (.fieldLink "CodeGate$Code" 58 "CodeGate$Code" "jumps" "I" : Cond) ∈ tb := tb_in 121 (by decide +kernel) (by decide +kernel)
theorem k_122 : (.fieldLink "CodeGate$Gate" 227 "CodeGate$Code" "jumps" "I" : Cond) ∈ tb := tb_in 122 (by decide +kernel) (by decide +kernel)
theorem k_123 : (.fieldLink "CodeGate$Code" 96 "CodeGate$Code" "rows" "I" : Cond) ∈ tb := tb_in 123 (by decide +kernel) (by decide +kernel)
theorem k_124 : (.fieldLink "CodeGate$Gate" 230 "CodeGate$Code" "rows" "I" : Cond) ∈ tb := tb_in 124 (by decide +kernel) (by decide +kernel)
theorem k_125 : (.fieldLink "CodeGate$Code" 20 "CodeGate$Code" "walk" "LCodeGate$Walk;" : Cond) ∈ tb := tb_in 125 (by decide +kernel) (by decide +kernel)
theorem k_126 : (.fieldLink "CodeGate$Code" 24 "CodeGate$Code" "pool" "LCodeGate$Pool;" : Cond) ∈ tb := tb_in 126 (by decide +kernel) (by decide +kernel)
theorem k_127 : (.fieldLink "CodeGate$Code" 9 "CodeGate$Code" "firsts" "[B" : Cond) ∈ tb := tb_in 127 (by decide +kernel) (by decide +kernel)
theorem k_128 : (.fieldLink "CodeGate$Code" 13 "CodeGate$Code" "origins" "[I" : Cond) ∈ tb := tb_in 128 (by decide +kernel) (by decide +kernel)
theorem k_129 : (.fieldLink "CodeGate$Code" 17 "CodeGate$Code" "aims" "[I" : Cond) ∈ tb := tb_in 129 (by decide +kernel) (by decide +kernel)
theorem k_130 : (.fieldLink "CodeGate$Code" 65 "CodeGate$Code" "base" "I" : Cond) ∈ tb := tb_in 130 (by decide +kernel) (by decide +kernel)
theorem k_131 : (.fieldLink "CodeGate$Code" 28 "CodeGate$Code" "version" "I" : Cond) ∈ tb := tb_in 131 (by decide +kernel) (by decide +kernel)
theorem k_159 : (.fieldLink "CodeGate$Gate" 31 "CodeGate$Gate" "pool" "LCodeGate$Pool;" : Cond) ∈ tb := tb_in 159 (by decide +kernel) (by decide +kernel)
theorem k_160 : (.fieldLink "CodeGate$Report" 39 "CodeGate$Gate" "pool" "LCodeGate$Pool;" : Cond) ∈ tb := tb_in 160 (by decide +kernel) (by decide +kernel)
theorem k_161 : (.fieldLink "CodeGate$Gate" 9 "CodeGate$Gate" "tally" "[I" : Cond) ∈ tb := tb_in 161 (by decide +kernel) (by decide +kernel)
theorem k_162 : (.fieldLink "CodeGate$Report" 31 "CodeGate$Gate" "tally" "[I" : Cond) ∈ tb := tb_in 162 (by decide +kernel) (by decide +kernel)
theorem k_163 : (.fieldLink "CodeGate$Gate" 13 "CodeGate$Gate" "methodRows" "[I" : Cond) ∈ tb := tb_in 163 (by decide +kernel) (by decide +kernel)
theorem k_164 : (.fieldLink "CodeGate$Report" 38 "CodeGate$Gate" "methodRows" "[I" : Cond) ∈ tb := tb_in 164 (by decide +kernel) (by decide +kernel)
theorem k_165 : (.fieldLink "CodeGate$Gate" 22 "CodeGate$Gate" "walk" "LCodeGate$Walk;" : Cond) ∈ tb := tb_in 165 (by decide +kernel) (by decide +kernel)
theorem k_166 : (.fieldLink "CodeGate$Gate" 40 "CodeGate$Gate" "code" "LCodeGate$Code;" : Cond) ∈ tb := tb_in 166 (by decide +kernel) (by decide +kernel)
theorem k_167 : (.fieldLink "CodeGate$Gate" 16 "CodeGate$Gate" "names" "[I" : Cond) ∈ tb := tb_in 167 (by decide +kernel) (by decide +kernel)
theorem k_168 : (.fieldLink "CodeGate$Gate" 19 "CodeGate$Gate" "types" "[I" : Cond) ∈ tb := tb_in 168 (by decide +kernel) (by decide +kernel)
theorem k_169 : (.fieldLink "CodeGate$Gate" 122 "CodeGate$Gate" "version" "I" : Cond) ∈ tb := tb_in 169 (by decide +kernel) (by decide +kernel)
theorem k_170 : (.fieldLink "CodeGate$Gate" 115 "CodeGate$Gate" "classFlags" "I" : Cond) ∈ tb := tb_in 170 (by decide +kernel) (by decide +kernel)
theorem k_171 : (.fieldLink "CodeGate$Gate" 95 "CodeGate$Gate" "memberPlace" "I" : Cond) ∈ tb := tb_in 171 (by decide +kernel) (by decide +kernel)
theorem k_172 : (.fieldLink "CodeGate$Gate" 79 "CodeGate$Gate" "memberFlags" "I" : Cond) ∈ tb := tb_in 172 (by decide +kernel) (by decide +kernel)
theorem k_173 : (.fieldLink "CodeGate$Gate" 159 "CodeGate$Gate" "memberType" "I" : Cond) ∈ tb := tb_in 173 (by decide +kernel) (by decide +kernel)
theorem k_174 : (.fieldLink "CodeGate$Gate" 92 "CodeGate$Gate" "thrown" "I" : Cond) ∈ tb := tb_in 174 (by decide +kernel) (by decide +kernel)
theorem k_202 : (.classLink "CodeGate" 25 "CodeGate$Report" : Cond) ∈ tb := tb_in 202 (by decide +kernel) (by decide +kernel)
theorem k_203 : (.instantiable "CodeGate$Report" 5 : Cond) ∈ tb := tb_in 203 (by decide +kernel) (by decide +kernel)
theorem k_205 : (.instanceMethod ⟨"CodeGate$Report", "<init>", "()V"⟩ : Cond) ∈ tb := tb_in 205 (by decide +kernel) (by decide +kernel)
set_option maxRecDepth 100000 in
theorem k_206 : (.code ⟨"CodeGate$Report", "<init>", "()V"⟩ prog_5_method_1_code 1 (Option.none : Option Jvm.ClassFile.FieldType) : Cond) ∈ tb := tb_in 206 rfl rfl
theorem k_207 : (.methodLink "CodeGate$Report" 1 ⟨"java/lang/Object", "<init>", "()V"⟩ : Cond) ∈ tb := tb_in 207 (by decide +kernel) (by decide +kernel)
theorem k_208 : (.fieldLink "CodeGate$Report" 9 "CodeGate$Report" "tally" "[I" : Cond) ∈ tb := tb_in 208 (by decide +kernel) (by decide +kernel)
theorem k_209 : (.fieldLink "CodeGate" 70 "CodeGate$Report" "tally" "[I" : Cond) ∈ tb := tb_in 209 (by decide +kernel) (by decide +kernel)
theorem k_210 : (.fieldLink "CodeGate$Report" 15 "CodeGate$Report" "methodRows" "[I" : Cond) ∈ tb := tb_in 210 (by decide +kernel) (by decide +kernel)
theorem k_211 : (.fieldLink "CodeGate" 74 "CodeGate$Report" "methodRows" "[I" : Cond) ∈ tb := tb_in 211 (by decide +kernel) (by decide +kernel)
theorem k_212 : (.fieldLink "CodeGate$Report" 20 "CodeGate$Report" "kinds" "[I" : Cond) ∈ tb := tb_in 212 (by decide +kernel) (by decide +kernel)
theorem k_213 : (.fieldLink "CodeGate" 79 "CodeGate$Report" "kinds" "[I" : Cond) ∈ tb := tb_in 213 (by decide +kernel) (by decide +kernel)
theorem k_214 : (.fieldLink "CodeGate$Report" 23 "CodeGate$Report" "passed" "Z" : Cond) ∈ tb := tb_in 214 (by decide +kernel) (by decide +kernel)
theorem k_215 : (.fieldLink "CodeGate" 66 "CodeGate$Report" "passed" "Z" : Cond) ∈ tb := tb_in 215 (by decide +kernel) (by decide +kernel)
theorem k_216 : (.fieldLink "CodeGate$Report" 27 "CodeGate$Report" "broken" "I" : Cond) ∈ tb := tb_in 216 (by decide +kernel) (by decide +kernel)
theorem k_217 : (.fieldLink "CodeGate" 65 "CodeGate$Report" "broken" "I" : Cond) ∈ tb := tb_in 217 (by decide +kernel) (by decide +kernel)
theorem k_229 : (.fieldLink "CodeGate" 10 "CodeGate" "walk" "LCodeGate$Walk;" : Cond) ∈ tb := tb_in 229 (by decide +kernel) (by decide +kernel)
theorem k_230 : (.fieldLink "CodeGate" 21 "CodeGate" "gate" "LCodeGate$Gate;" : Cond) ∈ tb := tb_in 230 (by decide +kernel) (by decide +kernel)
theorem k_231 : (.fieldLink "CodeGate" 28 "CodeGate" "latest" "LCodeGate$Report;" : Cond) ∈ tb := tb_in 231 (by decide +kernel) (by decide +kernel)
theorem k_239 : (.methodLink "CodeGateLaw" 13 ⟨"CodeGate", "feed", "(IIIII)I"⟩ : Cond) ∈ tb := tb_in 239 (by decide +kernel) (by decide +kernel)
theorem k_240 : (.instanceMethod ⟨"CodeGate", "feed", "(IIIII)I"⟩ : Cond) ∈ tb := tb_in 240 (by decide +kernel) (by decide +kernel)
theorem k_241 : (.selects "CodeGate" ⟨"CodeGate", "feed", "(IIIII)I"⟩ ⟨"CodeGate", "feed", "(IIIII)I"⟩ : Cond) ∈ tb := tb_in 241 (by decide +kernel) (by decide +kernel)
set_option maxRecDepth 100000 in
theorem k_242 : (.code ⟨"CodeGate", "feed", "(IIIII)I"⟩ prog_1_method_2_code 8 (Option.some Jvm.ClassFile.FieldType.int) : Cond) ∈ tb := tb_in 242 rfl rfl
theorem k_243 : (.methodLink "CodeGate" 36 ⟨"CodeGate$Walk", "append", "(I)V"⟩ : Cond) ∈ tb := tb_in 243 (by decide +kernel) (by decide +kernel)
theorem k_244 : (.instanceMethod ⟨"CodeGate$Walk", "append", "(I)V"⟩ : Cond) ∈ tb := tb_in 244 (by decide +kernel) (by decide +kernel)
theorem k_245 : (.selects "CodeGate$Walk" ⟨"CodeGate$Walk", "append", "(I)V"⟩ ⟨"CodeGate$Walk", "append", "(I)V"⟩ : Cond) ∈ tb := tb_in 245 (by decide +kernel) (by decide +kernel)
set_option maxRecDepth 100000 in
theorem k_246 : (.code ⟨"CodeGate$Walk", "append", "(I)V"⟩ prog_6_method_2_code 2 (Option.none : Option Jvm.ClassFile.FieldType) : Cond) ∈ tb := tb_in 246 rfl rfl
theorem k_247 : (.methodLink "CodeGateLaw" 18 ⟨"CodeGate", "cut", "(I)I"⟩ : Cond) ∈ tb := tb_in 247 (by decide +kernel) (by decide +kernel)
theorem k_248 : (.instanceMethod ⟨"CodeGate", "cut", "(I)I"⟩ : Cond) ∈ tb := tb_in 248 (by decide +kernel) (by decide +kernel)
theorem k_249 : (.selects "CodeGate" ⟨"CodeGate", "cut", "(I)I"⟩ ⟨"CodeGate", "cut", "(I)I"⟩ : Cond) ∈ tb := tb_in 249 (by decide +kernel) (by decide +kernel)
set_option maxRecDepth 100000 in
theorem k_250 : (.code ⟨"CodeGate", "cut", "(I)I"⟩ prog_1_method_3_code 2 (Option.some Jvm.ClassFile.FieldType.int) : Cond) ∈ tb := tb_in 250 rfl rfl
theorem k_251 : (.methodLink "CodeGateLaw" 23 ⟨"CodeGate", "turn", "(II)I"⟩ : Cond) ∈ tb := tb_in 251 (by decide +kernel) (by decide +kernel)
theorem k_252 : (.instanceMethod ⟨"CodeGate", "turn", "(II)I"⟩ : Cond) ∈ tb := tb_in 252 (by decide +kernel) (by decide +kernel)
theorem k_253 : (.selects "CodeGate" ⟨"CodeGate", "turn", "(II)I"⟩ ⟨"CodeGate", "turn", "(II)I"⟩ : Cond) ∈ tb := tb_in 253 (by decide +kernel) (by decide +kernel)
set_option maxRecDepth 100000 in
theorem k_254 : (.code ⟨"CodeGate", "turn", "(II)I"⟩ prog_1_method_4_code 3 (Option.some Jvm.ClassFile.FieldType.int) : Cond) ∈ tb := tb_in 254 rfl rfl
theorem k_255 : (.methodLink "CodeGate" 40 ⟨"CodeGate$Walk", "flip", "(II)V"⟩ : Cond) ∈ tb := tb_in 255 (by decide +kernel) (by decide +kernel)
theorem k_256 : (.instanceMethod ⟨"CodeGate$Walk", "flip", "(II)V"⟩ : Cond) ∈ tb := tb_in 256 (by decide +kernel) (by decide +kernel)
theorem k_257 : (.selects "CodeGate$Walk" ⟨"CodeGate$Walk", "flip", "(II)V"⟩ ⟨"CodeGate$Walk", "flip", "(II)V"⟩ : Cond) ∈ tb := tb_in 257 (by decide +kernel) (by decide +kernel)
set_option maxRecDepth 100000 in
theorem k_258 : (.code ⟨"CodeGate$Walk", "flip", "(II)V"⟩ prog_6_method_3_code 3 (Option.none : Option Jvm.ClassFile.FieldType) : Cond) ∈ tb := tb_in 258 rfl rfl
theorem k_259 : (.methodLink "CodeGate" 44 ⟨"CodeGate$Walk", "numberAt", "(II)I"⟩ : Cond) ∈ tb := tb_in 259 (by decide +kernel) (by decide +kernel)
theorem k_260 : (.instanceMethod ⟨"CodeGate$Walk", "numberAt", "(II)I"⟩ : Cond) ∈ tb := tb_in 260 (by decide +kernel) (by decide +kernel)
theorem k_261 : (.selects "CodeGate$Walk" ⟨"CodeGate$Walk", "numberAt", "(II)I"⟩ ⟨"CodeGate$Walk", "numberAt", "(II)I"⟩ : Cond) ∈ tb := tb_in 261 (by decide +kernel) (by decide +kernel)
set_option maxRecDepth 100000 in
theorem k_262 : (.code ⟨"CodeGate$Walk", "numberAt", "(II)I"⟩ prog_6_method_7_code 5 (Option.some Jvm.ClassFile.FieldType.int) : Cond) ∈ tb := tb_in 262 rfl rfl
theorem k_263 : (.methodLink "CodeGateLaw" 28 ⟨"CodeGate", "byteAt", "(I)I"⟩ : Cond) ∈ tb := tb_in 263 (by decide +kernel) (by decide +kernel)
theorem k_264 : (.instanceMethod ⟨"CodeGate", "byteAt", "(I)I"⟩ : Cond) ∈ tb := tb_in 264 (by decide +kernel) (by decide +kernel)
theorem k_265 : (.selects "CodeGate" ⟨"CodeGate", "byteAt", "(I)I"⟩ ⟨"CodeGate", "byteAt", "(I)I"⟩ : Cond) ∈ tb := tb_in 265 (by decide +kernel) (by decide +kernel)
set_option maxRecDepth 100000 in
theorem k_266 : (.code ⟨"CodeGate", "byteAt", "(I)I"⟩ prog_1_method_5_code 2 (Option.some Jvm.ClassFile.FieldType.int) : Cond) ∈ tb := tb_in 266 rfl rfl
theorem k_267 : (.methodLink "CodeGateLaw" 32 ⟨"CodeGate", "judge", "()I"⟩ : Cond) ∈ tb := tb_in 267 (by decide +kernel) (by decide +kernel)
theorem k_268 : (.instanceMethod ⟨"CodeGate", "judge", "()I"⟩ : Cond) ∈ tb := tb_in 268 (by decide +kernel) (by decide +kernel)
theorem k_269 : (.selects "CodeGate" ⟨"CodeGate", "judge", "()I"⟩ ⟨"CodeGate", "judge", "()I"⟩ : Cond) ∈ tb := tb_in 269 (by decide +kernel) (by decide +kernel)
set_option maxRecDepth 100000 in
theorem k_270 : (.code ⟨"CodeGate", "judge", "()I"⟩ prog_1_method_6_code 1 (Option.some Jvm.ClassFile.FieldType.int) : Cond) ∈ tb := tb_in 270 rfl rfl
theorem k_271 : (.methodLink "CodeGate" 48 ⟨"CodeGate$Gate", "passes", "()Z"⟩ : Cond) ∈ tb := tb_in 271 (by decide +kernel) (by decide +kernel)
theorem k_272 : (.instanceMethod ⟨"CodeGate$Gate", "passes", "()Z"⟩ : Cond) ∈ tb := tb_in 272 (by decide +kernel) (by decide +kernel)
theorem k_273 : (.selects "CodeGate$Gate" ⟨"CodeGate$Gate", "passes", "()Z"⟩ ⟨"CodeGate$Gate", "passes", "()Z"⟩ : Cond) ∈ tb := tb_in 273 (by decide +kernel) (by decide +kernel)
set_option maxRecDepth 100000 in
theorem k_274 : (.code ⟨"CodeGate$Gate", "passes", "()Z"⟩ prog_3_method_2_code 7 (Option.some Jvm.ClassFile.FieldType.boolean) : Cond) ∈ tb := tb_in 274 rfl rfl
theorem k_275 : (.methodLink "CodeGate$Gate" 44 ⟨"CodeGate$Walk", "begin", "()V"⟩ : Cond) ∈ tb := tb_in 275 (by decide +kernel) (by decide +kernel)
theorem k_276 : (.instanceMethod ⟨"CodeGate$Walk", "begin", "()V"⟩ : Cond) ∈ tb := tb_in 276 (by decide +kernel) (by decide +kernel)
theorem k_277 : (.selects "CodeGate$Walk" ⟨"CodeGate$Walk", "begin", "()V"⟩ ⟨"CodeGate$Walk", "begin", "()V"⟩ : Cond) ∈ tb := tb_in 277 (by decide +kernel) (by decide +kernel)
set_option maxRecDepth 100000 in
theorem k_278 : (.code ⟨"CodeGate$Walk", "begin", "()V"⟩ prog_6_method_4_code 1 (Option.none : Option Jvm.ClassFile.FieldType) : Cond) ∈ tb := tb_in 278 rfl rfl
theorem k_279 : (.methodLink "CodeGate$Gate" 49 ⟨"CodeGate$Gate", "readHead", "()V"⟩ : Cond) ∈ tb := tb_in 279 (by decide +kernel) (by decide +kernel)
theorem k_281 : (.instanceMethod ⟨"CodeGate$Gate", "readHead", "()V"⟩ : Cond) ∈ tb := tb_in 281 (by decide +kernel) (by decide +kernel)
set_option maxRecDepth 100000 in
theorem k_282 : (.code ⟨"CodeGate$Gate", "readHead", "()V"⟩ prog_3_method_3_code 1 (Option.none : Option Jvm.ClassFile.FieldType) : Cond) ∈ tb := tb_in 282 rfl rfl
theorem k_283 : (.methodLink "CodeGate$Gate" 118 ⟨"CodeGate$Walk", "next", "(I)I"⟩ : Cond) ∈ tb := tb_in 283 (by decide +kernel) (by decide +kernel)
theorem k_284 : (.instanceMethod ⟨"CodeGate$Walk", "next", "(I)I"⟩ : Cond) ∈ tb := tb_in 284 (by decide +kernel) (by decide +kernel)
theorem k_285 : (.selects "CodeGate$Walk" ⟨"CodeGate$Walk", "next", "(I)I"⟩ ⟨"CodeGate$Walk", "next", "(I)I"⟩ : Cond) ∈ tb := tb_in 285 (by decide +kernel) (by decide +kernel)
set_option maxRecDepth 100000 in
theorem k_286 : (.code ⟨"CodeGate$Walk", "next", "(I)I"⟩ prog_6_method_8_code 3 (Option.some Jvm.ClassFile.FieldType.int) : Cond) ∈ tb := tb_in 286 rfl rfl
theorem k_287 : (.methodLink "CodeGate$Walk" 26 ⟨"CodeGate$Walk", "numberAt", "(II)I"⟩ : Cond) ∈ tb := tb_in 287 (by decide +kernel) (by decide +kernel)
theorem k_288 : (.constant "CodeGate$Gate" 121 (-889275714) : Cond) ∈ tb := tb_in 288 (by decide +kernel) (by decide +kernel)
theorem k_289 : (.methodLink "CodeGate$Gate" 98 ⟨"CodeGate$Walk", "need", "(ZII)V"⟩ : Cond) ∈ tb := tb_in 289 (by decide +kernel) (by decide +kernel)
theorem k_290 : (.instanceMethod ⟨"CodeGate$Walk", "need", "(ZII)V"⟩ : Cond) ∈ tb := tb_in 290 (by decide +kernel) (by decide +kernel)
theorem k_291 : (.selects "CodeGate$Walk" ⟨"CodeGate$Walk", "need", "(ZII)V"⟩ ⟨"CodeGate$Walk", "need", "(ZII)V"⟩ : Cond) ∈ tb := tb_in 291 (by decide +kernel) (by decide +kernel)
set_option maxRecDepth 100000 in
theorem k_292 : (.code ⟨"CodeGate$Walk", "need", "(ZII)V"⟩ prog_6_method_6_code 4 (Option.none : Option Jvm.ClassFile.FieldType) : Cond) ∈ tb := tb_in 292 rfl rfl
theorem k_293 : (.methodLink "CodeGate$Gate" 52 ⟨"CodeGate$Pool", "readEntries", "()V"⟩ : Cond) ∈ tb := tb_in 293 (by decide +kernel) (by decide +kernel)
theorem k_294 : (.instanceMethod ⟨"CodeGate$Pool", "readEntries", "()V"⟩ : Cond) ∈ tb := tb_in 294 (by decide +kernel) (by decide +kernel)
theorem k_295 : (.selects "CodeGate$Pool" ⟨"CodeGate$Pool", "readEntries", "()V"⟩ ⟨"CodeGate$Pool", "readEntries", "()V"⟩ : Cond) ∈ tb := tb_in 295 (by decide +kernel) (by decide +kernel)
set_option maxRecDepth 100000 in
theorem k_296 : (.code ⟨"CodeGate$Pool", "readEntries", "()V"⟩ prog_4_method_2_code 4 (Option.none : Option Jvm.ClassFile.FieldType) : Cond) ∈ tb := tb_in 296 rfl rfl
theorem k_297 : (.methodLink "CodeGate$Pool" 48 ⟨"CodeGate$Walk", "next", "(I)I"⟩ : Cond) ∈ tb := tb_in 297 (by decide +kernel) (by decide +kernel)
theorem k_298 : (.methodLink "CodeGate$Pool" 52 ⟨"CodeGate$Walk", "need", "(ZII)V"⟩ : Cond) ∈ tb := tb_in 298 (by decide +kernel) (by decide +kernel)
theorem k_299 : (.methodLink "CodeGate$Pool" 56 ⟨"CodeGate$Walk", "sound", "()Z"⟩ : Cond) ∈ tb := tb_in 299 (by decide +kernel) (by decide +kernel)
theorem k_300 : (.instanceMethod ⟨"CodeGate$Walk", "sound", "()Z"⟩ : Cond) ∈ tb := tb_in 300 (by decide +kernel) (by decide +kernel)
theorem k_301 : (.selects "CodeGate$Walk" ⟨"CodeGate$Walk", "sound", "()Z"⟩ ⟨"CodeGate$Walk", "sound", "()Z"⟩ : Cond) ∈ tb := tb_in 301 (by decide +kernel) (by decide +kernel)
set_option maxRecDepth 100000 in
theorem k_302 : (.code ⟨"CodeGate$Walk", "sound", "()Z"⟩ prog_6_method_5_code 1 (Option.some Jvm.ClassFile.FieldType.boolean) : Cond) ∈ tb := tb_in 302 rfl rfl
theorem k_303 : (.methodLink "CodeGate$Pool" 63 ⟨"CodeGate$Pool", "readEntry", "(I)V"⟩ : Cond) ∈ tb := tb_in 303 (by decide +kernel) (by decide +kernel)
theorem k_305 : (.instanceMethod ⟨"CodeGate$Pool", "readEntry", "(I)V"⟩ : Cond) ∈ tb := tb_in 305 (by decide +kernel) (by decide +kernel)
set_option maxRecDepth 100000 in
theorem k_306 : (.code ⟨"CodeGate$Pool", "readEntry", "(I)V"⟩ prog_4_method_4_code 4 (Option.none : Option Jvm.ClassFile.FieldType) : Cond) ∈ tb := tb_in 306 rfl rfl
theorem k_307 : (.methodLink "CodeGate$Pool" 71 ⟨"CodeGate$Walk", "numberAt", "(II)I"⟩ : Cond) ∈ tb := tb_in 307 (by decide +kernel) (by decide +kernel)
theorem k_308 : (.methodLink "CodeGate$Pool" 67 ⟨"CodeGate$Pool", "clear", "(II)V"⟩ : Cond) ∈ tb := tb_in 308 (by decide +kernel) (by decide +kernel)
theorem k_310 : (.instanceMethod ⟨"CodeGate$Pool", "clear", "(II)V"⟩ : Cond) ∈ tb := tb_in 310 (by decide +kernel) (by decide +kernel)
set_option maxRecDepth 100000 in
theorem k_311 : (.code ⟨"CodeGate$Pool", "clear", "(II)V"⟩ prog_4_method_3_code 3 (Option.none : Option Jvm.ClassFile.FieldType) : Cond) ∈ tb := tb_in 311 rfl rfl
theorem k_312 : (.methodLink "CodeGate$Pool" 75 ⟨"CodeGate$Pool", "readText", "(I)V"⟩ : Cond) ∈ tb := tb_in 312 (by decide +kernel) (by decide +kernel)
theorem k_314 : (.instanceMethod ⟨"CodeGate$Pool", "readText", "(I)V"⟩ : Cond) ∈ tb := tb_in 314 (by decide +kernel) (by decide +kernel)
set_option maxRecDepth 100000 in
theorem k_315 : (.code ⟨"CodeGate$Pool", "readText", "(I)V"⟩ prog_4_method_5_code 11 (Option.none : Option Jvm.ClassFile.FieldType) : Cond) ∈ tb := tb_in 315 rfl rfl
theorem k_316 : (.methodLink "CodeGate$Pool" 78 ⟨"CodeGate$Pool", "followers", "(I)I"⟩ : Cond) ∈ tb := tb_in 316 (by decide +kernel) (by decide +kernel)
theorem k_317 : (.static ⟨"CodeGate$Pool", "followers", "(I)I"⟩ : Cond) ∈ tb := tb_in 317 (by decide +kernel) (by decide +kernel)
set_option maxRecDepth 100000 in
theorem k_318 : (.code ⟨"CodeGate$Pool", "followers", "(I)I"⟩ prog_4_method_6_code 1 (Option.some Jvm.ClassFile.FieldType.int) : Cond) ∈ tb := tb_in 318 rfl rfl
theorem k_319 : (.methodLink "CodeGate$Gate" 55 ⟨"CodeGate$Pool", "noteTexts", "()V"⟩ : Cond) ∈ tb := tb_in 319 (by decide +kernel) (by decide +kernel)
theorem k_320 : (.instanceMethod ⟨"CodeGate$Pool", "noteTexts", "()V"⟩ : Cond) ∈ tb := tb_in 320 (by decide +kernel) (by decide +kernel)
theorem k_321 : (.selects "CodeGate$Pool" ⟨"CodeGate$Pool", "noteTexts", "()V"⟩ ⟨"CodeGate$Pool", "noteTexts", "()V"⟩ : Cond) ∈ tb := tb_in 321 (by decide +kernel) (by decide +kernel)
set_option maxRecDepth 100000 in
theorem k_322 : (.code ⟨"CodeGate$Pool", "noteTexts", "()V"⟩ prog_4_method_7_code 2 (Option.none : Option Jvm.ClassFile.FieldType) : Cond) ∈ tb := tb_in 322 rfl rfl
theorem k_323 : (.methodLink "CodeGate$Pool" 81 ⟨"CodeGate$Pool", "noteText", "(I)V"⟩ : Cond) ∈ tb := tb_in 323 (by decide +kernel) (by decide +kernel)
theorem k_325 : (.instanceMethod ⟨"CodeGate$Pool", "noteText", "(I)V"⟩ : Cond) ∈ tb := tb_in 325 (by decide +kernel) (by decide +kernel)
set_option maxRecDepth 100000 in
theorem k_326 : (.code ⟨"CodeGate$Pool", "noteText", "(I)V"⟩ prog_4_method_8_code 6 (Option.none : Option Jvm.ClassFile.FieldType) : Cond) ∈ tb := tb_in 326 rfl rfl
theorem k_327 : (.methodLink "CodeGate$Pool" 84 ⟨"CodeGate$Pool", "firstOf", "(I)I"⟩ : Cond) ∈ tb := tb_in 327 (by decide +kernel) (by decide +kernel)
theorem k_328 : (.instanceMethod ⟨"CodeGate$Pool", "firstOf", "(I)I"⟩ : Cond) ∈ tb := tb_in 328 (by decide +kernel) (by decide +kernel)
theorem k_329 : (.selects "CodeGate$Pool" ⟨"CodeGate$Pool", "firstOf", "(I)I"⟩ ⟨"CodeGate$Pool", "firstOf", "(I)I"⟩ : Cond) ∈ tb := tb_in 329 (by decide +kernel) (by decide +kernel)
set_option maxRecDepth 100000 in
theorem k_330 : (.code ⟨"CodeGate$Pool", "firstOf", "(I)I"⟩ prog_4_method_21_code 2 (Option.some Jvm.ClassFile.FieldType.int) : Cond) ∈ tb := tb_in 330 rfl rfl
theorem k_331 : (.methodLink "CodeGate$Pool" 149 ⟨"CodeGate$Pool", "within", "(I)Z"⟩ : Cond) ∈ tb := tb_in 331 (by decide +kernel) (by decide +kernel)
theorem k_333 : (.instanceMethod ⟨"CodeGate$Pool", "within", "(I)Z"⟩ : Cond) ∈ tb := tb_in 333 (by decide +kernel) (by decide +kernel)
set_option maxRecDepth 100000 in
theorem k_334 : (.code ⟨"CodeGate$Pool", "within", "(I)Z"⟩ prog_4_method_17_code 2 (Option.some Jvm.ClassFile.FieldType.boolean) : Cond) ∈ tb := tb_in 334 rfl rfl
theorem k_335 : (.methodLink "CodeGate$Pool" 90 ⟨"java/lang/Math", "min", "(II)I"⟩ : Cond) ∈ tb := tb_in 335 (by decide +kernel) (by decide +kernel)
theorem k_336 : (.static ⟨"java/lang/Math", "min", "(II)I"⟩ : Cond) ∈ tb := tb_in 336 (by decide +kernel) (by decide +kernel)
set_option maxRecDepth 100000 in
theorem k_337 : (.code ⟨"java/lang/Math", "min", "(II)I"⟩ prog_11_method_69_code 2 (Option.some Jvm.ClassFile.FieldType.int) : Cond) ∈ tb := tb_in 337 rfl rfl
theorem k_338 : (.methodLink "CodeGate$Pool" 95 ⟨"CodeGate$Words", "typeFacts", "(II)I"⟩ : Cond) ∈ tb := tb_in 338 (by decide +kernel) (by decide +kernel)
theorem k_339 : (.instanceMethod ⟨"CodeGate$Words", "typeFacts", "(II)I"⟩ : Cond) ∈ tb := tb_in 339 (by decide +kernel) (by decide +kernel)
theorem k_340 : (.selects "CodeGate$Words" ⟨"CodeGate$Words", "typeFacts", "(II)I"⟩ ⟨"CodeGate$Words", "typeFacts", "(II)I"⟩ : Cond) ∈ tb := tb_in 340 (by decide +kernel) (by decide +kernel)
set_option maxRecDepth 100000 in
theorem k_341 : (.code ⟨"CodeGate$Words", "typeFacts", "(II)I"⟩ prog_7_method_3_code 3 (Option.some Jvm.ClassFile.FieldType.int) : Cond) ∈ tb := tb_in 341 rfl rfl
theorem k_342 : (.methodLink "CodeGate$Words" 13 ⟨"CodeGate$Words", "methodFacts", "(II)I"⟩ : Cond) ∈ tb := tb_in 342 (by decide +kernel) (by decide +kernel)
theorem k_344 : (.instanceMethod ⟨"CodeGate$Words", "methodFacts", "(II)I"⟩ : Cond) ∈ tb := tb_in 344 (by decide +kernel) (by decide +kernel)
set_option maxRecDepth 100000 in
theorem k_345 : (.code ⟨"CodeGate$Words", "methodFacts", "(II)I"⟩ prog_7_method_6_code 7 (Option.some Jvm.ClassFile.FieldType.int) : Cond) ∈ tb := tb_in 345 rfl rfl
theorem k_346 : (.methodLink "CodeGate$Words" 17 ⟨"CodeGate$Words", "typeEnd", "(II)I"⟩ : Cond) ∈ tb := tb_in 346 (by decide +kernel) (by decide +kernel)
theorem k_348 : (.instanceMethod ⟨"CodeGate$Words", "typeEnd", "(II)I"⟩ : Cond) ∈ tb := tb_in 348 (by decide +kernel) (by decide +kernel)
set_option maxRecDepth 100000 in
theorem k_349 : (.code ⟨"CodeGate$Words", "typeEnd", "(II)I"⟩ prog_7_method_7_code 5 (Option.some Jvm.ClassFile.FieldType.int) : Cond) ∈ tb := tb_in 349 rfl rfl
theorem k_350 : (.methodLink "CodeGate$Words" 27 ⟨"CodeGate$Words", "isSimple", "(I)Z"⟩ : Cond) ∈ tb := tb_in 350 (by decide +kernel) (by decide +kernel)
theorem k_351 : (.static ⟨"CodeGate$Words", "isSimple", "(I)Z"⟩ : Cond) ∈ tb := tb_in 351 (by decide +kernel) (by decide +kernel)
set_option maxRecDepth 100000 in
theorem k_352 : (.code ⟨"CodeGate$Words", "isSimple", "(I)Z"⟩ prog_7_method_8_code 1 (Option.some Jvm.ClassFile.FieldType.boolean) : Cond) ∈ tb := tb_in 352 rfl rfl
theorem k_353 : (.methodLink "CodeGate$Words" 31 ⟨"CodeGate$Words", "nameFacts", "(II)I"⟩ : Cond) ∈ tb := tb_in 353 (by decide +kernel) (by decide +kernel)
theorem k_354 : (.instanceMethod ⟨"CodeGate$Words", "nameFacts", "(II)I"⟩ : Cond) ∈ tb := tb_in 354 (by decide +kernel) (by decide +kernel)
theorem k_355 : (.selects "CodeGate$Words" ⟨"CodeGate$Words", "nameFacts", "(II)I"⟩ ⟨"CodeGate$Words", "nameFacts", "(II)I"⟩ : Cond) ∈ tb := tb_in 355 (by decide +kernel) (by decide +kernel)
set_option maxRecDepth 100000 in
theorem k_356 : (.code ⟨"CodeGate$Words", "nameFacts", "(II)I"⟩ prog_7_method_2_code 6 (Option.some Jvm.ClassFile.FieldType.int) : Cond) ∈ tb := tb_in 356 rfl rfl
theorem k_357 : (.methodLink "CodeGate$Words" 24 ⟨"CodeGate$Words", "slotsBetween", "(II)I"⟩ : Cond) ∈ tb := tb_in 357 (by decide +kernel) (by decide +kernel)
theorem k_359 : (.instanceMethod ⟨"CodeGate$Words", "slotsBetween", "(II)I"⟩ : Cond) ∈ tb := tb_in 359 (by decide +kernel) (by decide +kernel)
set_option maxRecDepth 100000 in
theorem k_360 : (.code ⟨"CodeGate$Words", "slotsBetween", "(II)I"⟩ prog_7_method_10_code 3 (Option.some Jvm.ClassFile.FieldType.int) : Cond) ∈ tb := tb_in 360 rfl rfl
theorem k_361 : (.methodLink "CodeGate$Words" 20 ⟨"CodeGate$Words", "floatFacts", "(I)I"⟩ : Cond) ∈ tb := tb_in 361 (by decide +kernel) (by decide +kernel)
theorem k_363 : (.instanceMethod ⟨"CodeGate$Words", "floatFacts", "(I)I"⟩ : Cond) ∈ tb := tb_in 363 (by decide +kernel) (by decide +kernel)
set_option maxRecDepth 100000 in
theorem k_364 : (.code ⟨"CodeGate$Words", "floatFacts", "(I)I"⟩ prog_7_method_9_code 2 (Option.some Jvm.ClassFile.FieldType.int) : Cond) ∈ tb := tb_in 364 rfl rfl
theorem k_365 : (.methodLink "CodeGate$Pool" 98 ⟨"CodeGate$Words", "nameFacts", "(II)I"⟩ : Cond) ∈ tb := tb_in 365 (by decide +kernel) (by decide +kernel)
theorem k_367 : (.methodLink "CodeGate$Pool" 102 ⟨"CodeGate$Pool", "spells", "(ILjava/lang/String;)Z"⟩ : Cond) ∈ tb := tb_in 367 (by decide +kernel) (by decide +kernel)
theorem k_368 : (.instanceMethod ⟨"CodeGate$Pool", "spells", "(ILjava/lang/String;)Z"⟩ : Cond) ∈ tb := tb_in 368 (by decide +kernel) (by decide +kernel)
theorem k_369 : (.selects "CodeGate$Pool" ⟨"CodeGate$Pool", "spells", "(ILjava/lang/String;)Z"⟩ ⟨"CodeGate$Pool", "spells", "(ILjava/lang/String;)Z"⟩ : Cond) ∈ tb := tb_in 369 (by decide +kernel) (by decide +kernel)
set_option maxRecDepth 100000 in
theorem k_370 : (.code ⟨"CodeGate$Pool", "spells", "(ILjava/lang/String;)Z"⟩ prog_4_method_24_code 4 (Option.some Jvm.ClassFile.FieldType.boolean) : Cond) ∈ tb := tb_in 370 rfl rfl
theorem k_371 : (.methodLink "CodeGate$Pool" 153 ⟨"java/lang/String", "length", "()I"⟩ : Cond) ∈ tb := tb_in 371 (by decide +kernel) (by decide +kernel)
theorem k_372 : (.instanceMethod ⟨"java/lang/String", "length", "()I"⟩ : Cond) ∈ tb := tb_in 372 (by decide +kernel) (by decide +kernel)
theorem k_373 : (.selects "java/lang/String" ⟨"java/lang/String", "length", "()I"⟩ ⟨"java/lang/String", "length", "()I"⟩ : Cond) ∈ tb := tb_in 373 (by decide +kernel) (by decide +kernel)
set_option maxRecDepth 100000 in
theorem k_374 : (.code ⟨"java/lang/String", "length", "()I"⟩ prog_12_method_54_code 1 (Option.some Jvm.ClassFile.FieldType.int) : Cond) ∈ tb := tb_in 374 rfl rfl
theorem k_375 : (.methodLink "java/lang/String" 335 ⟨"java/lang/String", "coder", "()B"⟩ : Cond) ∈ tb := tb_in 375 (by decide +kernel) (by decide +kernel)
theorem k_376 : (.instanceMethod ⟨"java/lang/String", "coder", "()B"⟩ : Cond) ∈ tb := tb_in 376 (by decide +kernel) (by decide +kernel)
theorem k_377 : (.selects "java/lang/String" ⟨"java/lang/String", "coder", "()B"⟩ ⟨"java/lang/String", "coder", "()B"⟩ : Cond) ∈ tb := tb_in 377 (by decide +kernel) (by decide +kernel)
set_option maxRecDepth 100000 in
theorem k_378 : (.code ⟨"java/lang/String", "coder", "()B"⟩ prog_12_method_152_code 1 (Option.some Jvm.ClassFile.FieldType.byte) : Cond) ∈ tb := tb_in 378 rfl rfl
theorem k_379 : (.fieldLink "java/lang/String" 38 "java/lang/String" "COMPACT_STRINGS" "Z" : Cond) ∈ tb := tb_in 379 (by decide +kernel) (by decide +kernel)
theorem k_381 : (.methodLink "CodeGate$Pool" 158 ⟨"java/lang/String", "charAt", "(I)C"⟩ : Cond) ∈ tb := tb_in 381 (by decide +kernel) (by decide +kernel)
theorem k_382 : (.instanceMethod ⟨"java/lang/String", "charAt", "(I)C"⟩ : Cond) ∈ tb := tb_in 382 (by decide +kernel) (by decide +kernel)
theorem k_383 : (.selects "java/lang/String" ⟨"java/lang/String", "charAt", "(I)C"⟩ ⟨"java/lang/String", "charAt", "(I)C"⟩ : Cond) ∈ tb := tb_in 383 (by decide +kernel) (by decide +kernel)
set_option maxRecDepth 100000 in
theorem k_384 : (.code ⟨"java/lang/String", "charAt", "(I)C"⟩ prog_12_method_56_code 2 (Option.some Jvm.ClassFile.FieldType.char) : Cond) ∈ tb := tb_in 384 rfl rfl
theorem k_385 : (.methodLink "java/lang/String" 492 ⟨"java/lang/String", "isLatin1", "()Z"⟩ : Cond) ∈ tb := tb_in 385 (by decide +kernel) (by decide +kernel)
theorem k_386 : (.instanceMethod ⟨"java/lang/String", "isLatin1", "()Z"⟩ : Cond) ∈ tb := tb_in 386 (by decide +kernel) (by decide +kernel)
theorem k_387 : (.selects "java/lang/String" ⟨"java/lang/String", "isLatin1", "()Z"⟩ ⟨"java/lang/String", "isLatin1", "()Z"⟩ : Cond) ∈ tb := tb_in 387 (by decide +kernel) (by decide +kernel)
set_option maxRecDepth 100000 in
theorem k_388 : (.code ⟨"java/lang/String", "isLatin1", "()Z"⟩ prog_12_method_154_code 1 (Option.some Jvm.ClassFile.FieldType.boolean) : Cond) ∈ tb := tb_in 388 rfl rfl
theorem k_389 : (.methodLink "java/lang/String" 495 ⟨"java/lang/StringLatin1", "charAt", "([BI)C"⟩ : Cond) ∈ tb := tb_in 389 (by decide +kernel) (by decide +kernel)
theorem k_390 : (.static ⟨"java/lang/StringLatin1", "charAt", "([BI)C"⟩ : Cond) ∈ tb := tb_in 390 (by decide +kernel) (by decide +kernel)
set_option maxRecDepth 100000 in
theorem k_391 : (.code ⟨"java/lang/StringLatin1", "charAt", "([BI)C"⟩ prog_13_method_2_code 2 (Option.some Jvm.ClassFile.FieldType.char) : Cond) ∈ tb := tb_in 391 rfl rfl
theorem k_392 : (.methodLink "java/lang/StringLatin1" 9 ⟨"java/lang/String", "checkIndex", "(II)V"⟩ : Cond) ∈ tb := tb_in 392 (by decide +kernel) (by decide +kernel)
theorem k_393 : (.static ⟨"java/lang/String", "checkIndex", "(II)V"⟩ : Cond) ∈ tb := tb_in 393 (by decide +kernel) (by decide +kernel)
set_option maxRecDepth 100000 in
theorem k_394 : (.code ⟨"java/lang/String", "checkIndex", "(II)V"⟩ prog_12_method_155_code 2 (Option.none : Option Jvm.ClassFile.FieldType) : Cond) ∈ tb := tb_in 394 rfl rfl
theorem k_395 : (.fieldLink "java/lang/String" 1053 "jdk/internal/util/Preconditions" "SIOOBE_FORMATTER" "Ljava/util/function/BiFunction;" : Cond) ∈ tb := tb_in 395 (by decide +kernel) (by decide +kernel)
theorem k_397 : (.methodLink "java/lang/String" 1059 ⟨"jdk/internal/util/Preconditions", "checkIndex", "(IILjava/util/function/BiFunction;)I"⟩ : Cond) ∈ tb := tb_in 397 (by decide +kernel) (by decide +kernel)
theorem k_398 : (.static ⟨"jdk/internal/util/Preconditions", "checkIndex", "(IILjava/util/function/BiFunction;)I"⟩ : Cond) ∈ tb := tb_in 398 (by decide +kernel) (by decide +kernel)
set_option maxRecDepth 100000 in
theorem k_399 : (.code ⟨"jdk/internal/util/Preconditions", "checkIndex", "(IILjava/util/function/BiFunction;)I"⟩ prog_16_method_11_code 3 (Option.some Jvm.ClassFile.FieldType.int) : Cond) ∈ tb := tb_in 399 rfl rfl
theorem k_400 : (.methodLink "java/lang/String" 498 ⟨"java/lang/StringUTF16", "charAt", "([BI)C"⟩ : Cond) ∈ tb := tb_in 400 (by decide +kernel) (by decide +kernel)
theorem k_401 : (.static ⟨"java/lang/StringUTF16", "charAt", "([BI)C"⟩ : Cond) ∈ tb := tb_in 401 (by decide +kernel) (by decide +kernel)
set_option maxRecDepth 100000 in
theorem k_402 : (.code ⟨"java/lang/StringUTF16", "charAt", "([BI)C"⟩ prog_14_method_83_code 2 (Option.some Jvm.ClassFile.FieldType.char) : Cond) ∈ tb := tb_in 402 rfl rfl
theorem k_403 : (.methodLink "java/lang/StringUTF16" 67 ⟨"java/lang/StringUTF16", "checkIndex", "(I[B)V"⟩ : Cond) ∈ tb := tb_in 403 (by decide +kernel) (by decide +kernel)
theorem k_404 : (.static ⟨"java/lang/StringUTF16", "checkIndex", "(I[B)V"⟩ : Cond) ∈ tb := tb_in 404 (by decide +kernel) (by decide +kernel)
set_option maxRecDepth 100000 in
theorem k_405 : (.code ⟨"java/lang/StringUTF16", "checkIndex", "(I[B)V"⟩ prog_14_method_91_code 2 (Option.none : Option Jvm.ClassFile.FieldType) : Cond) ∈ tb := tb_in 405 rfl rfl
theorem k_406 : (.methodLink "java/lang/StringUTF16" 48 ⟨"java/lang/StringUTF16", "length", "([B)I"⟩ : Cond) ∈ tb := tb_in 406 (by decide +kernel) (by decide +kernel)
theorem k_407 : (.static ⟨"java/lang/StringUTF16", "length", "([B)I"⟩ : Cond) ∈ tb := tb_in 407 (by decide +kernel) (by decide +kernel)
set_option maxRecDepth 100000 in
theorem k_408 : (.code ⟨"java/lang/StringUTF16", "length", "([B)I"⟩ prog_14_method_6_code 1 (Option.some Jvm.ClassFile.FieldType.int) : Cond) ∈ tb := tb_in 408 rfl rfl
theorem k_409 : (.methodLink "java/lang/StringUTF16" 414 ⟨"java/lang/String", "checkIndex", "(II)V"⟩ : Cond) ∈ tb := tb_in 409 (by decide +kernel) (by decide +kernel)
theorem k_410 : (.methodLink "java/lang/StringUTF16" 71 ⟨"java/lang/StringUTF16", "getChar", "([BI)C"⟩ : Cond) ∈ tb := tb_in 410 (by decide +kernel) (by decide +kernel)
theorem k_411 : (.static ⟨"java/lang/StringUTF16", "getChar", "([BI)C"⟩ : Cond) ∈ tb := tb_in 411 (by decide +kernel) (by decide +kernel)
set_option maxRecDepth 100000 in
theorem k_412 : (.code ⟨"java/lang/StringUTF16", "getChar", "([BI)C"⟩ prog_14_method_5_code 2 (Option.some Jvm.ClassFile.FieldType.char) : Cond) ∈ tb := tb_in 412 rfl rfl
theorem k_413 : (.fieldLink "java/lang/StringUTF16" 44 "java/lang/StringUTF16" "$assertionsDisabled" "Z" : Cond) ∈ tb := tb_in 413 (by decide +kernel) (by decide +kernel)
theorem k_415 : (.fieldLink "java/lang/StringUTF16" 59 "java/lang/StringUTF16" "HI_BYTE_SHIFT" "I" : Cond) ∈ tb := tb_in 415 (by decide +kernel) (by decide +kernel)
theorem k_417 : (.fieldLink "java/lang/StringUTF16" 63 "java/lang/StringUTF16" "LO_BYTE_SHIFT" "I" : Cond) ∈ tb := tb_in 417 (by decide +kernel) (by decide +kernel)
theorem k_420 : (.methodLink "CodeGate$Pool" 108 ⟨"CodeGate$Words", "withoutSlots", "(I)I"⟩ : Cond) ∈ tb := tb_in 420 (by decide +kernel) (by decide +kernel)
theorem k_421 : (.static ⟨"CodeGate$Words", "withoutSlots", "(I)I"⟩ : Cond) ∈ tb := tb_in 421 (by decide +kernel) (by decide +kernel)
set_option maxRecDepth 100000 in
theorem k_422 : (.code ⟨"CodeGate$Words", "withoutSlots", "(I)I"⟩ prog_7_method_5_code 1 (Option.some Jvm.ClassFile.FieldType.int) : Cond) ∈ tb := tb_in 422 rfl rfl
theorem k_423 : (.methodLink "CodeGate$Pool" 111 ⟨"CodeGate$Words", "slotsOf", "(I)I"⟩ : Cond) ∈ tb := tb_in 423 (by decide +kernel) (by decide +kernel)
theorem k_424 : (.static ⟨"CodeGate$Words", "slotsOf", "(I)I"⟩ : Cond) ∈ tb := tb_in 424 (by decide +kernel) (by decide +kernel)
set_option maxRecDepth 100000 in
theorem k_425 : (.code ⟨"CodeGate$Words", "slotsOf", "(I)I"⟩ prog_7_method_4_code 1 (Option.some Jvm.ClassFile.FieldType.int) : Cond) ∈ tb := tb_in 425 rfl rfl
theorem k_426 : (.methodLink "CodeGate$Gate" 58 ⟨"CodeGate$Pool", "readLinks", "()V"⟩ : Cond) ∈ tb := tb_in 426 (by decide +kernel) (by decide +kernel)
theorem k_427 : (.instanceMethod ⟨"CodeGate$Pool", "readLinks", "()V"⟩ : Cond) ∈ tb := tb_in 427 (by decide +kernel) (by decide +kernel)
theorem k_428 : (.selects "CodeGate$Pool" ⟨"CodeGate$Pool", "readLinks", "()V"⟩ ⟨"CodeGate$Pool", "readLinks", "()V"⟩ : Cond) ∈ tb := tb_in 428 (by decide +kernel) (by decide +kernel)
set_option maxRecDepth 100000 in
theorem k_429 : (.code ⟨"CodeGate$Pool", "readLinks", "()V"⟩ prog_4_method_9_code 2 (Option.none : Option Jvm.ClassFile.FieldType) : Cond) ∈ tb := tb_in 429 rfl rfl
theorem k_430 : (.methodLink "CodeGate$Pool" 114 ⟨"CodeGate$Pool", "linkClass", "(I)V"⟩ : Cond) ∈ tb := tb_in 430 (by decide +kernel) (by decide +kernel)
theorem k_432 : (.instanceMethod ⟨"CodeGate$Pool", "linkClass", "(I)V"⟩ : Cond) ∈ tb := tb_in 432 (by decide +kernel) (by decide +kernel)
set_option maxRecDepth 100000 in
theorem k_433 : (.code ⟨"CodeGate$Pool", "linkClass", "(I)V"⟩ prog_4_method_10_code 6 (Option.none : Option Jvm.ClassFile.FieldType) : Cond) ∈ tb := tb_in 433 rfl rfl
theorem k_434 : (.methodLink "CodeGate$Pool" 117 ⟨"CodeGate$Pool", "refer", "(II)I"⟩ : Cond) ∈ tb := tb_in 434 (by decide +kernel) (by decide +kernel)
theorem k_436 : (.instanceMethod ⟨"CodeGate$Pool", "refer", "(II)I"⟩ : Cond) ∈ tb := tb_in 436 (by decide +kernel) (by decide +kernel)
set_option maxRecDepth 100000 in
theorem k_437 : (.code ⟨"CodeGate$Pool", "refer", "(II)I"⟩ prog_4_method_14_code 4 (Option.some Jvm.ClassFile.FieldType.int) : Cond) ∈ tb := tb_in 437 rfl rfl
theorem k_438 : (.methodLink "CodeGate$Pool" 146 ⟨"CodeGate$Pool", "kindOf", "(I)I"⟩ : Cond) ∈ tb := tb_in 438 (by decide +kernel) (by decide +kernel)
theorem k_439 : (.instanceMethod ⟨"CodeGate$Pool", "kindOf", "(I)I"⟩ : Cond) ∈ tb := tb_in 439 (by decide +kernel) (by decide +kernel)
theorem k_440 : (.selects "CodeGate$Pool" ⟨"CodeGate$Pool", "kindOf", "(I)I"⟩ ⟨"CodeGate$Pool", "kindOf", "(I)I"⟩ : Cond) ∈ tb := tb_in 440 (by decide +kernel) (by decide +kernel)
set_option maxRecDepth 100000 in
theorem k_441 : (.code ⟨"CodeGate$Pool", "kindOf", "(I)I"⟩ prog_4_method_18_code 2 (Option.some Jvm.ClassFile.FieldType.int) : Cond) ∈ tb := tb_in 441 rfl rfl
theorem k_442 : (.methodLink "CodeGate$Pool" 126 ⟨"CodeGate$Pool", "bracketsOf", "(I)I"⟩ : Cond) ∈ tb := tb_in 442 (by decide +kernel) (by decide +kernel)
theorem k_444 : (.instanceMethod ⟨"CodeGate$Pool", "bracketsOf", "(I)I"⟩ : Cond) ∈ tb := tb_in 444 (by decide +kernel) (by decide +kernel)
set_option maxRecDepth 100000 in
theorem k_445 : (.code ⟨"CodeGate$Pool", "bracketsOf", "(I)I"⟩ prog_4_method_23_code 4 (Option.some Jvm.ClassFile.FieldType.int) : Cond) ∈ tb := tb_in 445 rfl rfl
theorem k_446 : (.methodLink "CodeGate$Pool" 129 ⟨"CodeGate$Pool", "factsOf", "(I)I"⟩ : Cond) ∈ tb := tb_in 446 (by decide +kernel) (by decide +kernel)
theorem k_447 : (.instanceMethod ⟨"CodeGate$Pool", "factsOf", "(I)I"⟩ : Cond) ∈ tb := tb_in 447 (by decide +kernel) (by decide +kernel)
theorem k_448 : (.selects "CodeGate$Pool" ⟨"CodeGate$Pool", "factsOf", "(I)I"⟩ ⟨"CodeGate$Pool", "factsOf", "(I)I"⟩ : Cond) ∈ tb := tb_in 448 (by decide +kernel) (by decide +kernel)
set_option maxRecDepth 100000 in
theorem k_449 : (.code ⟨"CodeGate$Pool", "factsOf", "(I)I"⟩ prog_4_method_19_code 2 (Option.some Jvm.ClassFile.FieldType.int) : Cond) ∈ tb := tb_in 449 rfl rfl
theorem k_450 : (.methodLink "CodeGate$Pool" 120 ⟨"CodeGate$Pool", "linkNamed", "(I)V"⟩ : Cond) ∈ tb := tb_in 450 (by decide +kernel) (by decide +kernel)
theorem k_452 : (.instanceMethod ⟨"CodeGate$Pool", "linkNamed", "(I)V"⟩ : Cond) ∈ tb := tb_in 452 (by decide +kernel) (by decide +kernel)
set_option maxRecDepth 100000 in
theorem k_453 : (.code ⟨"CodeGate$Pool", "linkNamed", "(I)V"⟩ prog_4_method_11_code 5 (Option.none : Option Jvm.ClassFile.FieldType) : Cond) ∈ tb := tb_in 453 rfl rfl
theorem k_454 : (.methodLink "CodeGate$Pool" 132 ⟨"CodeGate$Pool", "needType", "(III)V"⟩ : Cond) ∈ tb := tb_in 454 (by decide +kernel) (by decide +kernel)
theorem k_455 : (.instanceMethod ⟨"CodeGate$Pool", "needType", "(III)V"⟩ : Cond) ∈ tb := tb_in 455 (by decide +kernel) (by decide +kernel)
theorem k_456 : (.selects "CodeGate$Pool" ⟨"CodeGate$Pool", "needType", "(III)V"⟩ ⟨"CodeGate$Pool", "needType", "(III)V"⟩ : Cond) ∈ tb := tb_in 456 (by decide +kernel) (by decide +kernel)
set_option maxRecDepth 100000 in
theorem k_457 : (.code ⟨"CodeGate$Pool", "needType", "(III)V"⟩ prog_4_method_16_code 4 (Option.none : Option Jvm.ClassFile.FieldType) : Cond) ∈ tb := tb_in 457 rfl rfl
theorem k_458 : (.methodLink "CodeGate$Pool" 123 ⟨"CodeGate$Pool", "linkMember", "(I)V"⟩ : Cond) ∈ tb := tb_in 458 (by decide +kernel) (by decide +kernel)
theorem k_460 : (.instanceMethod ⟨"CodeGate$Pool", "linkMember", "(I)V"⟩ : Cond) ∈ tb := tb_in 460 (by decide +kernel) (by decide +kernel)
set_option maxRecDepth 100000 in
theorem k_461 : (.code ⟨"CodeGate$Pool", "linkMember", "(I)V"⟩ prog_4_method_12_code 6 (Option.none : Option Jvm.ClassFile.FieldType) : Cond) ∈ tb := tb_in 461 rfl rfl
theorem k_462 : (.methodLink "CodeGate$Pool" 136 ⟨"CodeGate$Pool", "secondOf", "(I)I"⟩ : Cond) ∈ tb := tb_in 462 (by decide +kernel) (by decide +kernel)
theorem k_463 : (.instanceMethod ⟨"CodeGate$Pool", "secondOf", "(I)I"⟩ : Cond) ∈ tb := tb_in 463 (by decide +kernel) (by decide +kernel)
theorem k_464 : (.selects "CodeGate$Pool" ⟨"CodeGate$Pool", "secondOf", "(I)I"⟩ ⟨"CodeGate$Pool", "secondOf", "(I)I"⟩ : Cond) ∈ tb := tb_in 464 (by decide +kernel) (by decide +kernel)
set_option maxRecDepth 100000 in
theorem k_465 : (.code ⟨"CodeGate$Pool", "secondOf", "(I)I"⟩ prog_4_method_22_code 2 (Option.some Jvm.ClassFile.FieldType.int) : Cond) ∈ tb := tb_in 465 rfl rfl
theorem k_466 : (.methodLink "CodeGate$Pool" 139 ⟨"CodeGate$Pool", "fits", "(III)Z"⟩ : Cond) ∈ tb := tb_in 466 (by decide +kernel) (by decide +kernel)
theorem k_467 : (.static ⟨"CodeGate$Pool", "fits", "(III)Z"⟩ : Cond) ∈ tb := tb_in 467 (by decide +kernel) (by decide +kernel)
set_option maxRecDepth 100000 in
theorem k_468 : (.code ⟨"CodeGate$Pool", "fits", "(III)Z"⟩ prog_4_method_13_code 5 (Option.some Jvm.ClassFile.FieldType.boolean) : Cond) ∈ tb := tb_in 468 rfl rfl
theorem k_469 : (.methodLink "CodeGate$Pool" 143 ⟨"CodeGate$Pool", "measureOf", "(I)I"⟩ : Cond) ∈ tb := tb_in 469 (by decide +kernel) (by decide +kernel)
theorem k_470 : (.instanceMethod ⟨"CodeGate$Pool", "measureOf", "(I)I"⟩ : Cond) ∈ tb := tb_in 470 (by decide +kernel) (by decide +kernel)
theorem k_471 : (.selects "CodeGate$Pool" ⟨"CodeGate$Pool", "measureOf", "(I)I"⟩ ⟨"CodeGate$Pool", "measureOf", "(I)I"⟩ : Cond) ∈ tb := tb_in 471 (by decide +kernel) (by decide +kernel)
set_option maxRecDepth 100000 in
theorem k_472 : (.code ⟨"CodeGate$Pool", "measureOf", "(I)I"⟩ prog_4_method_20_code 2 (Option.some Jvm.ClassFile.FieldType.int) : Cond) ∈ tb := tb_in 472 rfl rfl
theorem k_473 : (.methodLink "CodeGate$Gate" 61 ⟨"CodeGate$Gate", "readClass", "()V"⟩ : Cond) ∈ tb := tb_in 473 (by decide +kernel) (by decide +kernel)
theorem k_475 : (.instanceMethod ⟨"CodeGate$Gate", "readClass", "()V"⟩ : Cond) ∈ tb := tb_in 475 (by decide +kernel) (by decide +kernel)
set_option maxRecDepth 100000 in
theorem k_476 : (.code ⟨"CodeGate$Gate", "readClass", "()V"⟩ prog_3_method_5_code 5 (Option.none : Option Jvm.ClassFile.FieldType) : Cond) ∈ tb := tb_in 476 rfl rfl
theorem k_477 : (.methodLink "CodeGate$Gate" 125 ⟨"CodeGate$Gate", "classFlagsHold", "(I)Z"⟩ : Cond) ∈ tb := tb_in 477 (by decide +kernel) (by decide +kernel)
theorem k_478 : (.static ⟨"CodeGate$Gate", "classFlagsHold", "(I)Z"⟩ : Cond) ∈ tb := tb_in 478 (by decide +kernel) (by decide +kernel)
set_option maxRecDepth 100000 in
theorem k_479 : (.code ⟨"CodeGate$Gate", "classFlagsHold", "(I)Z"⟩ prog_3_method_6_code 1 (Option.some Jvm.ClassFile.FieldType.boolean) : Cond) ∈ tb := tb_in 479 rfl rfl
theorem k_480 : (.methodLink "CodeGate$Gate" 129 ⟨"CodeGate$Gate", "takeClassText", "()I"⟩ : Cond) ∈ tb := tb_in 480 (by decide +kernel) (by decide +kernel)
theorem k_482 : (.instanceMethod ⟨"CodeGate$Gate", "takeClassText", "()I"⟩ : Cond) ∈ tb := tb_in 482 (by decide +kernel) (by decide +kernel)
set_option maxRecDepth 100000 in
theorem k_483 : (.code ⟨"CodeGate$Gate", "takeClassText", "()I"⟩ prog_3_method_7_code 3 (Option.some Jvm.ClassFile.FieldType.int) : Cond) ∈ tb := tb_in 483 rfl rfl
theorem k_484 : (.methodLink "CodeGate$Gate" 142 ⟨"CodeGate$Pool", "take", "(I)I"⟩ : Cond) ∈ tb := tb_in 484 (by decide +kernel) (by decide +kernel)
theorem k_485 : (.instanceMethod ⟨"CodeGate$Pool", "take", "(I)I"⟩ : Cond) ∈ tb := tb_in 485 (by decide +kernel) (by decide +kernel)
theorem k_486 : (.selects "CodeGate$Pool" ⟨"CodeGate$Pool", "take", "(I)I"⟩ ⟨"CodeGate$Pool", "take", "(I)I"⟩ : Cond) ∈ tb := tb_in 486 (by decide +kernel) (by decide +kernel)
set_option maxRecDepth 100000 in
theorem k_487 : (.code ⟨"CodeGate$Pool", "take", "(I)I"⟩ prog_4_method_15_code 4 (Option.some Jvm.ClassFile.FieldType.int) : Cond) ∈ tb := tb_in 487 rfl rfl
theorem k_488 : (.methodLink "CodeGate$Gate" 145 ⟨"CodeGate$Pool", "measureOf", "(I)I"⟩ : Cond) ∈ tb := tb_in 488 (by decide +kernel) (by decide +kernel)
theorem k_489 : (.methodLink "CodeGate$Gate" 148 ⟨"CodeGate$Pool", "firstOf", "(I)I"⟩ : Cond) ∈ tb := tb_in 489 (by decide +kernel) (by decide +kernel)
theorem k_490 : (.methodLink "CodeGate$Gate" 133 ⟨"CodeGate$Pool", "alike", "(II)Z"⟩ : Cond) ∈ tb := tb_in 490 (by decide +kernel) (by decide +kernel)
theorem k_491 : (.instanceMethod ⟨"CodeGate$Pool", "alike", "(II)Z"⟩ : Cond) ∈ tb := tb_in 491 (by decide +kernel) (by decide +kernel)
theorem k_492 : (.selects "CodeGate$Pool" ⟨"CodeGate$Pool", "alike", "(II)Z"⟩ ⟨"CodeGate$Pool", "alike", "(II)Z"⟩ : Cond) ∈ tb := tb_in 492 (by decide +kernel) (by decide +kernel)
set_option maxRecDepth 100000 in
theorem k_493 : (.code ⟨"CodeGate$Pool", "alike", "(II)Z"⟩ prog_4_method_25_code 6 (Option.some Jvm.ClassFile.FieldType.boolean) : Cond) ∈ tb := tb_in 493 rfl rfl
theorem k_495 : (.methodLink "CodeGate$Gate" 138 ⟨"CodeGate$Pool", "spells", "(ILjava/lang/String;)Z"⟩ : Cond) ∈ tb := tb_in 495 (by decide +kernel) (by decide +kernel)
theorem k_496 : (.methodLink "CodeGate$Gate" 64 ⟨"CodeGate$Gate", "readCount", "(I)I"⟩ : Cond) ∈ tb := tb_in 496 (by decide +kernel) (by decide +kernel)
theorem k_498 : (.instanceMethod ⟨"CodeGate$Gate", "readCount", "(I)I"⟩ : Cond) ∈ tb := tb_in 498 (by decide +kernel) (by decide +kernel)
set_option maxRecDepth 100000 in
theorem k_499 : (.code ⟨"CodeGate$Gate", "readCount", "(I)I"⟩ prog_3_method_4_code 4 (Option.some Jvm.ClassFile.FieldType.int) : Cond) ∈ tb := tb_in 499 rfl rfl
theorem k_500 : (.methodLink "CodeGate$Gate" 68 ⟨"CodeGate$Walk", "sound", "()Z"⟩ : Cond) ∈ tb := tb_in 500 (by decide +kernel) (by decide +kernel)
theorem k_501 : (.methodLink "CodeGate$Gate" 72 ⟨"CodeGate$Gate", "readInterface", "(I)V"⟩ : Cond) ∈ tb := tb_in 501 (by decide +kernel) (by decide +kernel)
theorem k_503 : (.instanceMethod ⟨"CodeGate$Gate", "readInterface", "(I)V"⟩ : Cond) ∈ tb := tb_in 503 (by decide +kernel) (by decide +kernel)
set_option maxRecDepth 100000 in
theorem k_504 : (.code ⟨"CodeGate$Gate", "readInterface", "(I)V"⟩ prog_3_method_8_code 5 (Option.none : Option Jvm.ClassFile.FieldType) : Cond) ∈ tb := tb_in 504 rfl rfl
theorem k_505 : (.methodLink "CodeGate$Gate" 76 ⟨"CodeGate$Gate", "readField", "(I)V"⟩ : Cond) ∈ tb := tb_in 505 (by decide +kernel) (by decide +kernel)
theorem k_507 : (.instanceMethod ⟨"CodeGate$Gate", "readField", "(I)V"⟩ : Cond) ∈ tb := tb_in 507 (by decide +kernel) (by decide +kernel)
set_option maxRecDepth 100000 in
theorem k_508 : (.code ⟨"CodeGate$Gate", "readField", "(I)V"⟩ prog_3_method_9_code 4 (Option.none : Option Jvm.ClassFile.FieldType) : Cond) ∈ tb := tb_in 508 rfl rfl
theorem k_509 : (.methodLink "CodeGate$Gate" 151 ⟨"CodeGate$Gate", "fieldFlagsHold", "(I)Z"⟩ : Cond) ∈ tb := tb_in 509 (by decide +kernel) (by decide +kernel)
theorem k_511 : (.instanceMethod ⟨"CodeGate$Gate", "fieldFlagsHold", "(I)Z"⟩ : Cond) ∈ tb := tb_in 511 (by decide +kernel) (by decide +kernel)
set_option maxRecDepth 100000 in
theorem k_512 : (.code ⟨"CodeGate$Gate", "fieldFlagsHold", "(I)Z"⟩ prog_3_method_10_code 2 (Option.some Jvm.ClassFile.FieldType.boolean) : Cond) ∈ tb := tb_in 512 rfl rfl
theorem k_513 : (.methodLink "CodeGate$Gate" 170 ⟨"java/lang/Integer", "bitCount", "(I)I"⟩ : Cond) ∈ tb := tb_in 513 (by decide +kernel) (by decide +kernel)
theorem k_514 : (.static ⟨"java/lang/Integer", "bitCount", "(I)I"⟩ : Cond) ∈ tb := tb_in 514 (by decide +kernel) (by decide +kernel)
set_option maxRecDepth 100000 in
theorem k_515 : (.code ⟨"java/lang/Integer", "bitCount", "(I)I"⟩ prog_10_method_49_code 1 (Option.some Jvm.ClassFile.FieldType.int) : Cond) ∈ tb := tb_in 515 rfl rfl
theorem k_516 : (.constant "java/lang/Integer" 265 1431655765 : Cond) ∈ tb := tb_in 516 (by decide +kernel) (by decide +kernel)
theorem k_517 : (.constant "java/lang/Integer" 266 858993459 : Cond) ∈ tb := tb_in 517 (by decide +kernel) (by decide +kernel)
theorem k_518 : (.constant "java/lang/Integer" 267 252645135 : Cond) ∈ tb := tb_in 518 (by decide +kernel) (by decide +kernel)
theorem k_519 : (.methodLink "CodeGate$Gate" 154 ⟨"CodeGate$Pool", "factsOf", "(I)I"⟩ : Cond) ∈ tb := tb_in 519 (by decide +kernel) (by decide +kernel)
theorem k_520 : (.methodLink "CodeGate$Gate" 162 ⟨"CodeGate$Pool", "needType", "(III)V"⟩ : Cond) ∈ tb := tb_in 520 (by decide +kernel) (by decide +kernel)
theorem k_521 : (.methodLink "CodeGate$Gate" 166 ⟨"CodeGate$Gate", "addMember", "(II)V"⟩ : Cond) ∈ tb := tb_in 521 (by decide +kernel) (by decide +kernel)
theorem k_523 : (.instanceMethod ⟨"CodeGate$Gate", "addMember", "(II)V"⟩ : Cond) ∈ tb := tb_in 523 (by decide +kernel) (by decide +kernel)
set_option maxRecDepth 100000 in
theorem k_524 : (.code ⟨"CodeGate$Gate", "addMember", "(II)V"⟩ prog_3_method_14_code 5 (Option.none : Option Jvm.ClassFile.FieldType) : Cond) ∈ tb := tb_in 524 rfl rfl
theorem k_525 : (.methodLink "CodeGate$Gate" 83 ⟨"CodeGate$Gate", "readAttributes", "(I)I"⟩ : Cond) ∈ tb := tb_in 525 (by decide +kernel) (by decide +kernel)
theorem k_527 : (.instanceMethod ⟨"CodeGate$Gate", "readAttributes", "(I)I"⟩ : Cond) ∈ tb := tb_in 527 (by decide +kernel) (by decide +kernel)
set_option maxRecDepth 100000 in
theorem k_528 : (.code ⟨"CodeGate$Gate", "readAttributes", "(I)I"⟩ prog_3_method_15_code 10 (Option.some Jvm.ClassFile.FieldType.int) : Cond) ∈ tb := tb_in 528 rfl rfl
theorem k_529 : (.methodLink "CodeGate$Gate" 182 ⟨"CodeGate$Gate", "attributeOf", "(I)I"⟩ : Cond) ∈ tb := tb_in 529 (by decide +kernel) (by decide +kernel)
theorem k_531 : (.instanceMethod ⟨"CodeGate$Gate", "attributeOf", "(I)I"⟩ : Cond) ∈ tb := tb_in 531 (by decide +kernel) (by decide +kernel)
set_option maxRecDepth 100000 in
theorem k_532 : (.code ⟨"CodeGate$Gate", "attributeOf", "(I)I"⟩ prog_3_method_16_code 2 (Option.some Jvm.ClassFile.FieldType.int) : Cond) ∈ tb := tb_in 532 rfl rfl
theorem k_537 : (.methodLink "CodeGate$Gate" 185 ⟨"CodeGate$Gate", "leastLocals", "()I"⟩ : Cond) ∈ tb := tb_in 537 (by decide +kernel) (by decide +kernel)
theorem k_539 : (.instanceMethod ⟨"CodeGate$Gate", "leastLocals", "()I"⟩ : Cond) ∈ tb := tb_in 539 (by decide +kernel) (by decide +kernel)
set_option maxRecDepth 100000 in
theorem k_540 : (.code ⟨"CodeGate$Gate", "leastLocals", "()I"⟩ prog_3_method_17_code 1 (Option.some Jvm.ClassFile.FieldType.int) : Cond) ∈ tb := tb_in 540 rfl rfl
theorem k_541 : (.methodLink "CodeGate$Gate" 188 ⟨"CodeGate$Code", "readAll", "(II)V"⟩ : Cond) ∈ tb := tb_in 541 (by decide +kernel) (by decide +kernel)
theorem k_542 : (.instanceMethod ⟨"CodeGate$Code", "readAll", "(II)V"⟩ : Cond) ∈ tb := tb_in 542 (by decide +kernel) (by decide +kernel)
theorem k_543 : (.selects "CodeGate$Code" ⟨"CodeGate$Code", "readAll", "(II)V"⟩ ⟨"CodeGate$Code", "readAll", "(II)V"⟩ : Cond) ∈ tb := tb_in 543 (by decide +kernel) (by decide +kernel)
set_option maxRecDepth 100000 in
theorem k_544 : (.code ⟨"CodeGate$Code", "readAll", "(II)V"⟩ prog_2_method_2_code 6 (Option.none : Option Jvm.ClassFile.FieldType) : Cond) ∈ tb := tb_in 544 rfl rfl
theorem k_545 : (.methodLink "CodeGate$Code" 32 ⟨"CodeGate$Code", "readSizes", "(I)V"⟩ : Cond) ∈ tb := tb_in 545 (by decide +kernel) (by decide +kernel)
theorem k_547 : (.instanceMethod ⟨"CodeGate$Code", "readSizes", "(I)V"⟩ : Cond) ∈ tb := tb_in 547 (by decide +kernel) (by decide +kernel)
set_option maxRecDepth 100000 in
theorem k_548 : (.code ⟨"CodeGate$Code", "readSizes", "(I)V"⟩ prog_2_method_3_code 4 (Option.none : Option Jvm.ClassFile.FieldType) : Cond) ∈ tb := tb_in 548 rfl rfl
theorem k_549 : (.methodLink "CodeGate$Code" 84 ⟨"CodeGate$Walk", "next", "(I)I"⟩ : Cond) ∈ tb := tb_in 549 (by decide +kernel) (by decide +kernel)
theorem k_550 : (.methodLink "CodeGate$Code" 68 ⟨"CodeGate$Walk", "need", "(ZII)V"⟩ : Cond) ∈ tb := tb_in 550 (by decide +kernel) (by decide +kernel)
theorem k_551 : (.methodLink "CodeGate$Code" 39 ⟨"CodeGate$Walk", "sound", "()Z"⟩ : Cond) ∈ tb := tb_in 551 (by decide +kernel) (by decide +kernel)
theorem k_552 : (.methodLink "CodeGate$Code" 48 ⟨"CodeGate$Code", "step", "(I)I"⟩ : Cond) ∈ tb := tb_in 552 (by decide +kernel) (by decide +kernel)
theorem k_554 : (.instanceMethod ⟨"CodeGate$Code", "step", "(I)I"⟩ : Cond) ∈ tb := tb_in 554 (by decide +kernel) (by decide +kernel)
set_option maxRecDepth 100000 in
theorem k_555 : (.code ⟨"CodeGate$Code", "step", "(I)I"⟩ prog_2_method_4_code 4 (Option.some Jvm.ClassFile.FieldType.int) : Cond) ∈ tb := tb_in 555 rfl rfl
theorem k_556 : (.methodLink "CodeGate$Code" 72 ⟨"CodeGate$Walk", "numberAt", "(II)I"⟩ : Cond) ∈ tb := tb_in 556 (by decide +kernel) (by decide +kernel)
theorem k_557 : (.fieldLink "CodeGate$Code" 99 "CodeGate$Code" "FORMS" "[I" : Cond) ∈ tb := tb_in 557 (by decide +kernel) (by decide +kernel)
theorem k_559 : (.methodLink "CodeGate$Code" 102 ⟨"CodeGate$Code", "stepTable", "(I)I"⟩ : Cond) ∈ tb := tb_in 559 (by decide +kernel) (by decide +kernel)
theorem k_561 : (.instanceMethod ⟨"CodeGate$Code", "stepTable", "(I)I"⟩ : Cond) ∈ tb := tb_in 561 (by decide +kernel) (by decide +kernel)
set_option maxRecDepth 100000 in
theorem k_562 : (.code ⟨"CodeGate$Code", "stepTable", "(I)I"⟩ prog_2_method_10_code 8 (Option.some Jvm.ClassFile.FieldType.int) : Cond) ∈ tb := tb_in 562 rfl rfl
theorem k_563 : (.methodLink "CodeGate$Code" 149 ⟨"CodeGate$Code", "pastPadding", "(I)I"⟩ : Cond) ∈ tb := tb_in 563 (by decide +kernel) (by decide +kernel)
theorem k_565 : (.instanceMethod ⟨"CodeGate$Code", "pastPadding", "(I)I"⟩ : Cond) ∈ tb := tb_in 565 (by decide +kernel) (by decide +kernel)
set_option maxRecDepth 100000 in
theorem k_566 : (.code ⟨"CodeGate$Code", "pastPadding", "(I)I"⟩ prog_2_method_12_code 4 (Option.some Jvm.ClassFile.FieldType.int) : Cond) ∈ tb := tb_in 566 rfl rfl
theorem k_567 : (.methodLink "CodeGate$Code" 152 ⟨"CodeGate$Code", "switchNumber", "(II)I"⟩ : Cond) ∈ tb := tb_in 567 (by decide +kernel) (by decide +kernel)
theorem k_569 : (.instanceMethod ⟨"CodeGate$Code", "switchNumber", "(II)I"⟩ : Cond) ∈ tb := tb_in 569 (by decide +kernel) (by decide +kernel)
set_option maxRecDepth 100000 in
theorem k_570 : (.code ⟨"CodeGate$Code", "switchNumber", "(II)I"⟩ prog_2_method_13_code 3 (Option.some Jvm.ClassFile.FieldType.int) : Cond) ∈ tb := tb_in 570 rfl rfl
theorem k_571 : (.methodLink "CodeGate$Code" 124 ⟨"CodeGate$Code", "addJump", "(II)V"⟩ : Cond) ∈ tb := tb_in 571 (by decide +kernel) (by decide +kernel)
theorem k_573 : (.instanceMethod ⟨"CodeGate$Code", "addJump", "(II)V"⟩ : Cond) ∈ tb := tb_in 573 (by decide +kernel) (by decide +kernel)
set_option maxRecDepth 100000 in
theorem k_574 : (.code ⟨"CodeGate$Code", "addJump", "(II)V"⟩ prog_2_method_14_code 3 (Option.none : Option Jvm.ClassFile.FieldType) : Cond) ∈ tb := tb_in 574 rfl rfl
theorem k_575 : (.constantLong "CodeGate$Code" 155 500 : Cond) ∈ tb := tb_in 575 (by decide +kernel) (by decide +kernel)
theorem k_576 : (.methodLink "CodeGate$Code" 105 ⟨"CodeGate$Code", "stepPairs", "(I)I"⟩ : Cond) ∈ tb := tb_in 576 (by decide +kernel) (by decide +kernel)
theorem k_578 : (.instanceMethod ⟨"CodeGate$Code", "stepPairs", "(I)I"⟩ : Cond) ∈ tb := tb_in 578 (by decide +kernel) (by decide +kernel)
set_option maxRecDepth 100000 in
theorem k_579 : (.code ⟨"CodeGate$Code", "stepPairs", "(I)I"⟩ prog_2_method_11_code 7 (Option.some Jvm.ClassFile.FieldType.int) : Cond) ∈ tb := tb_in 579 rfl rfl
theorem k_580 : (.methodLink "CodeGate$Code" 108 ⟨"CodeGate$Code", "stepWide", "(I)I"⟩ : Cond) ∈ tb := tb_in 580 (by decide +kernel) (by decide +kernel)
theorem k_582 : (.instanceMethod ⟨"CodeGate$Code", "stepWide", "(I)I"⟩ : Cond) ∈ tb := tb_in 582 (by decide +kernel) (by decide +kernel)
set_option maxRecDepth 100000 in
theorem k_583 : (.code ⟨"CodeGate$Code", "stepWide", "(I)I"⟩ prog_2_method_9_code 7 (Option.some Jvm.ClassFile.FieldType.int) : Cond) ∈ tb := tb_in 583 rfl rfl
theorem k_584 : (.methodLink "CodeGate$Code" 111 ⟨"CodeGate$Code", "stepFixed", "(III)I"⟩ : Cond) ∈ tb := tb_in 584 (by decide +kernel) (by decide +kernel)
theorem k_586 : (.instanceMethod ⟨"CodeGate$Code", "stepFixed", "(III)I"⟩ : Cond) ∈ tb := tb_in 586 (by decide +kernel) (by decide +kernel)
set_option maxRecDepth 100000 in
theorem k_587 : (.code ⟨"CodeGate$Code", "stepFixed", "(III)I"⟩ prog_2_method_5_code 7 (Option.some Jvm.ClassFile.FieldType.int) : Cond) ∈ tb := tb_in 587 rfl rfl
theorem k_588 : (.fieldLink "CodeGate$Code" 115 "CodeGate$Code" "WIDTHS" "[I" : Cond) ∈ tb := tb_in 588 (by decide +kernel) (by decide +kernel)
theorem k_590 : (.fieldLink "CodeGate$Code" 118 "CodeGate$Code" "NUMBERS" "[I" : Cond) ∈ tb := tb_in 590 (by decide +kernel) (by decide +kernel)
theorem k_592 : (.methodLink "CodeGate$Code" 121 ⟨"CodeGate$Code", "localInCode", "(I)I"⟩ : Cond) ∈ tb := tb_in 592 (by decide +kernel) (by decide +kernel)
theorem k_593 : (.static ⟨"CodeGate$Code", "localInCode", "(I)I"⟩ : Cond) ∈ tb := tb_in 593 (by decide +kernel) (by decide +kernel)
set_option maxRecDepth 100000 in
theorem k_594 : (.code ⟨"CodeGate$Code", "localInCode", "(I)I"⟩ prog_2_method_6_code 1 (Option.some Jvm.ClassFile.FieldType.int) : Cond) ∈ tb := tb_in 594 rfl rfl
theorem k_595 : (.methodLink "CodeGate$Code" 128 ⟨"CodeGate$Pool", "kindOf", "(I)I"⟩ : Cond) ∈ tb := tb_in 595 (by decide +kernel) (by decide +kernel)
theorem k_596 : (.methodLink "CodeGate$Code" 133 ⟨"CodeGate$Code", "kindFits", "(III)Z"⟩ : Cond) ∈ tb := tb_in 596 (by decide +kernel) (by decide +kernel)
theorem k_598 : (.instanceMethod ⟨"CodeGate$Code", "kindFits", "(III)Z"⟩ : Cond) ∈ tb := tb_in 598 (by decide +kernel) (by decide +kernel)
set_option maxRecDepth 100000 in
theorem k_599 : (.code ⟨"CodeGate$Code", "kindFits", "(III)Z"⟩ prog_2_method_7_code 5 (Option.some Jvm.ClassFile.FieldType.boolean) : Cond) ∈ tb := tb_in 599 rfl rfl
theorem k_600 : (.methodLink "CodeGate$Code" 137 ⟨"CodeGate$Code", "restFits", "(IIII)Z"⟩ : Cond) ∈ tb := tb_in 600 (by decide +kernel) (by decide +kernel)
theorem k_602 : (.instanceMethod ⟨"CodeGate$Code", "restFits", "(IIII)Z"⟩ : Cond) ∈ tb := tb_in 602 (by decide +kernel) (by decide +kernel)
set_option maxRecDepth 100000 in
theorem k_603 : (.code ⟨"CodeGate$Code", "restFits", "(IIII)Z"⟩ prog_2_method_8_code 6 (Option.some Jvm.ClassFile.FieldType.boolean) : Cond) ∈ tb := tb_in 603 rfl rfl
theorem k_604 : (.methodLink "CodeGate$Code" 141 ⟨"CodeGate$Pool", "factsOf", "(I)I"⟩ : Cond) ∈ tb := tb_in 604 (by decide +kernel) (by decide +kernel)
theorem k_605 : (.methodLink "CodeGate$Code" 146 ⟨"CodeGate$Pool", "measureOf", "(I)I"⟩ : Cond) ∈ tb := tb_in 605 (by decide +kernel) (by decide +kernel)
theorem k_606 : (.methodLink "CodeGate$Code" 52 ⟨"java/lang/Math", "max", "(II)I"⟩ : Cond) ∈ tb := tb_in 606 (by decide +kernel) (by decide +kernel)
theorem k_607 : (.static ⟨"java/lang/Math", "max", "(II)I"⟩ : Cond) ∈ tb := tb_in 607 (by decide +kernel) (by decide +kernel)
set_option maxRecDepth 100000 in
theorem k_608 : (.code ⟨"java/lang/Math", "max", "(II)I"⟩ prog_11_method_65_code 2 (Option.some Jvm.ClassFile.FieldType.int) : Cond) ∈ tb := tb_in 608 rfl rfl
theorem k_609 : (.methodLink "CodeGate$Code" 61 ⟨"CodeGate$Code", "isFirst", "(I)Z"⟩ : Cond) ∈ tb := tb_in 609 (by decide +kernel) (by decide +kernel)
theorem k_611 : (.instanceMethod ⟨"CodeGate$Code", "isFirst", "(I)Z"⟩ : Cond) ∈ tb := tb_in 611 (by decide +kernel) (by decide +kernel)
set_option maxRecDepth 100000 in
theorem k_612 : (.code ⟨"CodeGate$Code", "isFirst", "(I)Z"⟩ prog_2_method_15_code 2 (Option.some Jvm.ClassFile.FieldType.boolean) : Cond) ∈ tb := tb_in 612 rfl rfl
theorem k_613 : (.methodLink "CodeGate$Code" 75 ⟨"CodeGate$Code", "mayBeLast", "(I)Z"⟩ : Cond) ∈ tb := tb_in 613 (by decide +kernel) (by decide +kernel)
theorem k_614 : (.static ⟨"CodeGate$Code", "mayBeLast", "(I)Z"⟩ : Cond) ∈ tb := tb_in 614 (by decide +kernel) (by decide +kernel)
set_option maxRecDepth 100000 in
theorem k_615 : (.code ⟨"CodeGate$Code", "mayBeLast", "(I)Z"⟩ prog_2_method_16_code 1 (Option.some Jvm.ClassFile.FieldType.boolean) : Cond) ∈ tb := tb_in 615 rfl rfl
theorem k_616 : (.methodLink "CodeGate$Code" 81 ⟨"CodeGate$Code", "readRows", "()V"⟩ : Cond) ∈ tb := tb_in 616 (by decide +kernel) (by decide +kernel)
theorem k_618 : (.instanceMethod ⟨"CodeGate$Code", "readRows", "()V"⟩ : Cond) ∈ tb := tb_in 618 (by decide +kernel) (by decide +kernel)
set_option maxRecDepth 100000 in
theorem k_619 : (.code ⟨"CodeGate$Code", "readRows", "()V"⟩ prog_2_method_17_code 8 (Option.none : Option Jvm.ClassFile.FieldType) : Cond) ∈ tb := tb_in 619 rfl rfl
theorem k_620 : (.methodLink "CodeGate$Gate" 191 ⟨"CodeGate$Gate", "readConstant", "()V"⟩ : Cond) ∈ tb := tb_in 620 (by decide +kernel) (by decide +kernel)
theorem k_622 : (.instanceMethod ⟨"CodeGate$Gate", "readConstant", "()V"⟩ : Cond) ∈ tb := tb_in 622 (by decide +kernel) (by decide +kernel)
set_option maxRecDepth 100000 in
theorem k_623 : (.code ⟨"CodeGate$Gate", "readConstant", "()V"⟩ prog_3_method_18_code 4 (Option.none : Option Jvm.ClassFile.FieldType) : Cond) ∈ tb := tb_in 623 rfl rfl
theorem k_624 : (.methodLink "CodeGate$Gate" 205 ⟨"CodeGate$Pool", "kindOf", "(I)I"⟩ : Cond) ∈ tb := tb_in 624 (by decide +kernel) (by decide +kernel)
theorem k_625 : (.methodLink "CodeGate$Gate" 208 ⟨"CodeGate$Gate", "constantKind", "()I"⟩ : Cond) ∈ tb := tb_in 625 (by decide +kernel) (by decide +kernel)
theorem k_627 : (.instanceMethod ⟨"CodeGate$Gate", "constantKind", "()I"⟩ : Cond) ∈ tb := tb_in 627 (by decide +kernel) (by decide +kernel)
set_option maxRecDepth 100000 in
theorem k_628 : (.code ⟨"CodeGate$Gate", "constantKind", "()I"⟩ prog_3_method_19_code 1 (Option.some Jvm.ClassFile.FieldType.int) : Cond) ∈ tb := tb_in 628 rfl rfl
theorem k_631 : (.methodLink "CodeGate$Gate" 194 ⟨"CodeGate$Gate", "readExceptions", "()V"⟩ : Cond) ∈ tb := tb_in 631 (by decide +kernel) (by decide +kernel)
theorem k_633 : (.instanceMethod ⟨"CodeGate$Gate", "readExceptions", "()V"⟩ : Cond) ∈ tb := tb_in 633 (by decide +kernel) (by decide +kernel)
set_option maxRecDepth 100000 in
theorem k_634 : (.code ⟨"CodeGate$Gate", "readExceptions", "()V"⟩ prog_3_method_20_code 2 (Option.none : Option Jvm.ClassFile.FieldType) : Cond) ∈ tb := tb_in 634 rfl rfl
theorem k_635 : (.methodLink "CodeGate$Gate" 86 ⟨"CodeGate$Gate", "clearCodeTallies", "()V"⟩ : Cond) ∈ tb := tb_in 635 (by decide +kernel) (by decide +kernel)
theorem k_637 : (.instanceMethod ⟨"CodeGate$Gate", "clearCodeTallies", "()V"⟩ : Cond) ∈ tb := tb_in 637 (by decide +kernel) (by decide +kernel)
set_option maxRecDepth 100000 in
theorem k_638 : (.code ⟨"CodeGate$Gate", "clearCodeTallies", "()V"⟩ prog_3_method_21_code 2 (Option.none : Option Jvm.ClassFile.FieldType) : Cond) ∈ tb := tb_in 638 rfl rfl
theorem k_639 : (.methodLink "CodeGate$Gate" 89 ⟨"CodeGate$Gate", "readMethod", "(I)V"⟩ : Cond) ∈ tb := tb_in 639 (by decide +kernel) (by decide +kernel)
theorem k_641 : (.instanceMethod ⟨"CodeGate$Gate", "readMethod", "(I)V"⟩ : Cond) ∈ tb := tb_in 641 (by decide +kernel) (by decide +kernel)
set_option maxRecDepth 100000 in
theorem k_642 : (.code ⟨"CodeGate$Gate", "readMethod", "(I)V"⟩ prog_3_method_11_code 5 (Option.none : Option Jvm.ClassFile.FieldType) : Cond) ∈ tb := tb_in 642 rfl rfl
theorem k_643 : (.methodLink "CodeGate$Gate" 175 ⟨"CodeGate$Gate", "methodFlagsHold", "(I)Z"⟩ : Cond) ∈ tb := tb_in 643 (by decide +kernel) (by decide +kernel)
theorem k_645 : (.instanceMethod ⟨"CodeGate$Gate", "methodFlagsHold", "(I)Z"⟩ : Cond) ∈ tb := tb_in 645 (by decide +kernel) (by decide +kernel)
set_option maxRecDepth 100000 in
theorem k_646 : (.code ⟨"CodeGate$Gate", "methodFlagsHold", "(I)Z"⟩ prog_3_method_12_code 2 (Option.some Jvm.ClassFile.FieldType.boolean) : Cond) ∈ tb := tb_in 646 rfl rfl
theorem k_647 : (.methodLink "CodeGate$Gate" 178 ⟨"CodeGate$Gate", "specialNameHolds", "(I)Z"⟩ : Cond) ∈ tb := tb_in 647 (by decide +kernel) (by decide +kernel)
theorem k_649 : (.instanceMethod ⟨"CodeGate$Gate", "specialNameHolds", "(I)Z"⟩ : Cond) ∈ tb := tb_in 649 (by decide +kernel) (by decide +kernel)
set_option maxRecDepth 100000 in
theorem k_650 : (.code ⟨"CodeGate$Gate", "specialNameHolds", "(I)Z"⟩ prog_3_method_13_code 2 (Option.some Jvm.ClassFile.FieldType.boolean) : Cond) ∈ tb := tb_in 650 rfl rfl
theorem k_652 : (.methodLink "CodeGate$Gate" 102 ⟨"CodeGate$Gate", "noteMethod", "(IZ)V"⟩ : Cond) ∈ tb := tb_in 652 (by decide +kernel) (by decide +kernel)
theorem k_654 : (.instanceMethod ⟨"CodeGate$Gate", "noteMethod", "(IZ)V"⟩ : Cond) ∈ tb := tb_in 654 (by decide +kernel) (by decide +kernel)
set_option maxRecDepth 100000 in
theorem k_655 : (.code ⟨"CodeGate$Gate", "noteMethod", "(IZ)V"⟩ prog_3_method_22_code 4 (Option.none : Option Jvm.ClassFile.FieldType) : Cond) ∈ tb := tb_in 655 rfl rfl
theorem k_656 : (.methodLink "CodeGate" 55 ⟨"CodeGate$Report", "keep", "(LCodeGate$Gate;ZI)V"⟩ : Cond) ∈ tb := tb_in 656 (by decide +kernel) (by decide +kernel)
theorem k_657 : (.instanceMethod ⟨"CodeGate$Report", "keep", "(LCodeGate$Gate;ZI)V"⟩ : Cond) ∈ tb := tb_in 657 (by decide +kernel) (by decide +kernel)
theorem k_658 : (.selects "CodeGate$Report" ⟨"CodeGate$Report", "keep", "(LCodeGate$Gate;ZI)V"⟩ ⟨"CodeGate$Report", "keep", "(LCodeGate$Gate;ZI)V"⟩ : Cond) ∈ tb := tb_in 658 (by decide +kernel) (by decide +kernel)
set_option maxRecDepth 100000 in
theorem k_659 : (.code ⟨"CodeGate$Report", "keep", "(LCodeGate$Gate;ZI)V"⟩ prog_5_method_2_code 4 (Option.none : Option Jvm.ClassFile.FieldType) : Cond) ∈ tb := tb_in 659 rfl rfl
theorem k_660 : (.methodLink "CodeGate$Report" 32 ⟨"java/lang/System", "arraycopy", "(Ljava/lang/Object;ILjava/lang/Object;II)V"⟩ : Cond) ∈ tb := tb_in 660 (by decide +kernel) (by decide +kernel)
theorem k_661 : (.static ⟨"java/lang/System", "arraycopy", "(Ljava/lang/Object;ILjava/lang/Object;II)V"⟩ : Cond) ∈ tb := tb_in 661 (by decide +kernel) (by decide +kernel)
theorem k_662 : (.native ⟨"java/lang/System", "arraycopy", "(Ljava/lang/Object;ILjava/lang/Object;II)V"⟩ : Cond) ∈ tb := tb_in 662 (by decide +kernel) (by decide +kernel)
theorem k_663 : (.methodLink "CodeGate" 59 ⟨"CodeGate$Walk", "sound", "()Z"⟩ : Cond) ∈ tb := tb_in 663 (by decide +kernel) (by decide +kernel)
theorem k_664 : (.methodLink "CodeGateLaw" 37 ⟨"CodeGate", "rule", "()I"⟩ : Cond) ∈ tb := tb_in 664 (by decide +kernel) (by decide +kernel)
theorem k_665 : (.instanceMethod ⟨"CodeGate", "rule", "()I"⟩ : Cond) ∈ tb := tb_in 665 (by decide +kernel) (by decide +kernel)
theorem k_666 : (.selects "CodeGate" ⟨"CodeGate", "rule", "()I"⟩ ⟨"CodeGate", "rule", "()I"⟩ : Cond) ∈ tb := tb_in 666 (by decide +kernel) (by decide +kernel)
set_option maxRecDepth 100000 in
theorem k_667 : (.code ⟨"CodeGate", "rule", "()I"⟩ prog_1_method_7_code 1 (Option.some Jvm.ClassFile.FieldType.int) : Cond) ∈ tb := tb_in 667 rfl rfl
theorem k_668 : (.methodLink "CodeGateLaw" 41 ⟨"CodeGate", "told", "(I)I"⟩ : Cond) ∈ tb := tb_in 668 (by decide +kernel) (by decide +kernel)
theorem k_669 : (.instanceMethod ⟨"CodeGate", "told", "(I)I"⟩ : Cond) ∈ tb := tb_in 669 (by decide +kernel) (by decide +kernel)
theorem k_670 : (.selects "CodeGate" ⟨"CodeGate", "told", "(I)I"⟩ ⟨"CodeGate", "told", "(I)I"⟩ : Cond) ∈ tb := tb_in 670 (by decide +kernel) (by decide +kernel)
set_option maxRecDepth 100000 in
theorem k_671 : (.code ⟨"CodeGate", "told", "(I)I"⟩ prog_1_method_8_code 2 (Option.some Jvm.ClassFile.FieldType.int) : Cond) ∈ tb := tb_in 671 rfl rfl
theorem k_672 : (.methodLink "CodeGateLaw" 45 ⟨"CodeGate", "method", "(II)I"⟩ : Cond) ∈ tb := tb_in 672 (by decide +kernel) (by decide +kernel)
theorem k_673 : (.instanceMethod ⟨"CodeGate", "method", "(II)I"⟩ : Cond) ∈ tb := tb_in 673 (by decide +kernel) (by decide +kernel)
theorem k_674 : (.selects "CodeGate" ⟨"CodeGate", "method", "(II)I"⟩ ⟨"CodeGate", "method", "(II)I"⟩ : Cond) ∈ tb := tb_in 674 (by decide +kernel) (by decide +kernel)
set_option maxRecDepth 100000 in
theorem k_675 : (.code ⟨"CodeGate", "method", "(II)I"⟩ prog_1_method_9_code 3 (Option.some Jvm.ClassFile.FieldType.int) : Cond) ∈ tb := tb_in 675 rfl rfl
theorem k_676 : (.methodLink "CodeGateLaw" 49 ⟨"CodeGate", "entry", "(I)I"⟩ : Cond) ∈ tb := tb_in 676 (by decide +kernel) (by decide +kernel)
theorem k_677 : (.instanceMethod ⟨"CodeGate", "entry", "(I)I"⟩ : Cond) ∈ tb := tb_in 677 (by decide +kernel) (by decide +kernel)
theorem k_678 : (.selects "CodeGate" ⟨"CodeGate", "entry", "(I)I"⟩ ⟨"CodeGate", "entry", "(I)I"⟩ : Cond) ∈ tb := tb_in 678 (by decide +kernel) (by decide +kernel)
set_option maxRecDepth 100000 in
theorem k_679 : (.code ⟨"CodeGate", "entry", "(I)I"⟩ prog_1_method_10_code 2 (Option.some Jvm.ClassFile.FieldType.int) : Cond) ∈ tb := tb_in 679 rfl rfl
theorem k_680 : (.methodLink "CodeGateLaw" 53 ⟨"CodeGate", "guarded", "(I)I"⟩ : Cond) ∈ tb := tb_in 680 (by decide +kernel) (by decide +kernel)
theorem k_681 : (.instanceMethod ⟨"CodeGate", "guarded", "(I)I"⟩ : Cond) ∈ tb := tb_in 681 (by decide +kernel) (by decide +kernel)
theorem k_682 : (.selects "CodeGate" ⟨"CodeGate", "guarded", "(I)I"⟩ ⟨"CodeGate", "guarded", "(I)I"⟩ : Cond) ∈ tb := tb_in 682 (by decide +kernel) (by decide +kernel)
set_option maxRecDepth 100000 in
theorem k_683 : (.code ⟨"CodeGate", "guarded", "(I)I"⟩ prog_1_method_11_code 4 (Option.some Jvm.ClassFile.FieldType.int) : Cond) ∈ tb := tb_in 683 rfl rfl
theorem k_684 : (.methodLink "CodeGateLaw" 57 ⟨"CodeGate", "beginnings", "()I"⟩ : Cond) ∈ tb := tb_in 684 (by decide +kernel) (by decide +kernel)
theorem k_685 : (.instanceMethod ⟨"CodeGate", "beginnings", "()I"⟩ : Cond) ∈ tb := tb_in 685 (by decide +kernel) (by decide +kernel)
theorem k_686 : (.selects "CodeGate" ⟨"CodeGate", "beginnings", "()I"⟩ ⟨"CodeGate", "beginnings", "()I"⟩ : Cond) ∈ tb := tb_in 686 (by decide +kernel) (by decide +kernel)
set_option maxRecDepth 100000 in
theorem k_687 : (.code ⟨"CodeGate", "beginnings", "()I"⟩ prog_1_method_12_code 1 (Option.some Jvm.ClassFile.FieldType.int) : Cond) ∈ tb := tb_in 687 rfl rfl
theorem k_688 : (.classLink "CodeGateLaw" 10 "CodeGateModel" : Cond) ∈ tb := tb_in 688 (by decide +kernel) (by decide +kernel)
theorem k_689 : (.instantiable "CodeGateModel" 34 : Cond) ∈ tb := tb_in 689 (by decide +kernel) (by decide +kernel)
theorem k_690 : (.methodLink "CodeGateLaw" 12 ⟨"CodeGateModel", "<init>", "()V"⟩ : Cond) ∈ tb := tb_in 690 (by decide +kernel) (by decide +kernel)
theorem k_691 : (.instanceMethod ⟨"CodeGateModel", "<init>", "()V"⟩ : Cond) ∈ tb := tb_in 691 (by decide +kernel) (by decide +kernel)
set_option maxRecDepth 100000 in
theorem k_692 : (.code ⟨"CodeGateModel", "<init>", "()V"⟩ prog_9_method_1_code 1 (Option.none : Option Jvm.ClassFile.FieldType) : Cond) ∈ tb := tb_in 692 rfl rfl
theorem k_693 : (.methodLink "CodeGateModel" 1 ⟨"java/lang/Object", "<init>", "()V"⟩ : Cond) ∈ tb := tb_in 693 (by decide +kernel) (by decide +kernel)
theorem k_694 : (.fieldLink "CodeGateModel" 7 "CodeGateModel" "file" "[B" : Cond) ∈ tb := tb_in 694 (by decide +kernel) (by decide +kernel)
theorem k_695 : (.fieldLink "CodeGateModel" 45 "CodeGateModel" "size" "I" : Cond) ∈ tb := tb_in 695 (by decide +kernel) (by decide +kernel)
theorem k_696 : (.fieldLink "CodeGateModel" 66 "CodeGateModel" "limit" "I" : Cond) ∈ tb := tb_in 696 (by decide +kernel) (by decide +kernel)
theorem k_697 : (.fieldLink "CodeGateModel" 63 "CodeGateModel" "at" "I" : Cond) ∈ tb := tb_in 697 (by decide +kernel) (by decide +kernel)
theorem k_698 : (.fieldLink "CodeGateModel" 49 "CodeGateModel" "broken" "I" : Cond) ∈ tb := tb_in 698 (by decide +kernel) (by decide +kernel)
theorem k_699 : (.fieldLink "CodeGateModel" 52 "CodeGateModel" "place" "I" : Cond) ∈ tb := tb_in 699 (by decide +kernel) (by decide +kernel)
theorem k_700 : (.fieldLink "CodeGateModel" 146 "CodeGateModel" "version" "I" : Cond) ∈ tb := tb_in 700 (by decide +kernel) (by decide +kernel)
theorem k_701 : (.fieldLink "CodeGateModel" 109 "CodeGateModel" "many" "I" : Cond) ∈ tb := tb_in 701 (by decide +kernel) (by decide +kernel)
theorem k_702 : (.fieldLink "CodeGateModel" 13 "CodeGateModel" "kinds" "[I" : Cond) ∈ tb := tb_in 702 (by decide +kernel) (by decide +kernel)
theorem k_703 : (.fieldLink "CodeGateModel" 17 "CodeGateModel" "begins" "[I" : Cond) ∈ tb := tb_in 703 (by decide +kernel) (by decide +kernel)
theorem k_704 : (.fieldLink "CodeGateModel" 198 "CodeGateModel" "flags" "I" : Cond) ∈ tb := tb_in 704 (by decide +kernel) (by decide +kernel)
theorem k_705 : (.fieldLink "CodeGateModel" 204 "CodeGateModel" "self" "I" : Cond) ∈ tb := tb_in 705 (by decide +kernel) (by decide +kernel)
theorem k_706 : (.fieldLink "CodeGateModel" 125 "CodeGateModel" "interfaces" "I" : Cond) ∈ tb := tb_in 706 (by decide +kernel) (by decide +kernel)
theorem k_707 : (.fieldLink "CodeGateModel" 119 "CodeGateModel" "fields" "I" : Cond) ∈ tb := tb_in 707 (by decide +kernel) (by decide +kernel)
theorem k_708 : (.fieldLink "CodeGateModel" 122 "CodeGateModel" "methods" "I" : Cond) ∈ tb := tb_in 708 (by decide +kernel) (by decide +kernel)
theorem k_709 : (.fieldLink "CodeGateModel" 128 "CodeGateModel" "instructions" "I" : Cond) ∈ tb := tb_in 709 (by decide +kernel) (by decide +kernel)
theorem k_710 : (.fieldLink "CodeGateModel" 131 "CodeGateModel" "bytes" "I" : Cond) ∈ tb := tb_in 710 (by decide +kernel) (by decide +kernel)
theorem k_711 : (.fieldLink "CodeGateModel" 134 "CodeGateModel" "jumps" "I" : Cond) ∈ tb := tb_in 711 (by decide +kernel) (by decide +kernel)
theorem k_712 : (.fieldLink "CodeGateModel" 137 "CodeGateModel" "rows" "I" : Cond) ∈ tb := tb_in 712 (by decide +kernel) (by decide +kernel)
theorem k_713 : (.fieldLink "CodeGateModel" 20 "CodeGateModel" "facts" "[I" : Cond) ∈ tb := tb_in 713 (by decide +kernel) (by decide +kernel)
theorem k_714 : (.fieldLink "CodeGateModel" 23 "CodeGateModel" "names" "[I" : Cond) ∈ tb := tb_in 714 (by decide +kernel) (by decide +kernel)
theorem k_715 : (.fieldLink "CodeGateModel" 26 "CodeGateModel" "types" "[I" : Cond) ∈ tb := tb_in 715 (by decide +kernel) (by decide +kernel)
theorem k_716 : (.fieldLink "CodeGateModel" 29 "CodeGateModel" "tops" "[I" : Cond) ∈ tb := tb_in 716 (by decide +kernel) (by decide +kernel)
theorem k_717 : (.fieldLink "CodeGateModel" 32 "CodeGateModel" "starts" "[Z" : Cond) ∈ tb := tb_in 717 (by decide +kernel) (by decide +kernel)
theorem k_718 : (.fieldLink "CodeGateModel" 320 "CodeGateModel" "lastRule" "I" : Cond) ∈ tb := tb_in 718 (by decide +kernel) (by decide +kernel)
theorem k_719 : (.fieldLink "CodeGateModel" 323 "CodeGateModel" "passed" "Z" : Cond) ∈ tb := tb_in 719 (by decide +kernel) (by decide +kernel)
theorem k_720 : (.fieldLink "CodeGateModel" 36 "CodeGateModel" "told" "[I" : Cond) ∈ tb := tb_in 720 (by decide +kernel) (by decide +kernel)
theorem k_721 : (.fieldLink "CodeGateModel" 39 "CodeGateModel" "kept" "[I" : Cond) ∈ tb := tb_in 721 (by decide +kernel) (by decide +kernel)
theorem k_722 : (.fieldLink "CodeGateModel" 42 "CodeGateModel" "keptKinds" "[I" : Cond) ∈ tb := tb_in 722 (by decide +kernel) (by decide +kernel)
theorem k_723 : (.fieldLink "CodeGateModel" 99 "CodeGateModel" "real" "Z" : Cond) ∈ tb := tb_in 723 (by decide +kernel) (by decide +kernel)
theorem k_724 : (.fieldLink "CodeGateModel" 106 "CodeGateModel" "slots" "I" : Cond) ∈ tb := tb_in 724 (by decide +kernel) (by decide +kernel)
theorem k_725 : (.fieldLink "CodeGateModel" 261 "CodeGateModel" "begin" "I" : Cond) ∈ tb := tb_in 725 (by decide +kernel) (by decide +kernel)
theorem k_726 : (.fieldLink "CodeGateModel" 264 "CodeGateModel" "end" "I" : Cond) ∈ tb := tb_in 726 (by decide +kernel) (by decide +kernel)
theorem k_727 : (.fieldLink "CodeGateModel" 256 "CodeGateModel" "locals" "I" : Cond) ∈ tb := tb_in 727 (by decide +kernel) (by decide +kernel)
theorem k_798 : (.methodLink "CodeGateLaw" 17 ⟨"CodeGateModel", "feed", "(IIIII)I"⟩ : Cond) ∈ tb := tb_in 798 (by decide +kernel) (by decide +kernel)
theorem k_799 : (.instanceMethod ⟨"CodeGateModel", "feed", "(IIIII)I"⟩ : Cond) ∈ tb := tb_in 799 (by decide +kernel) (by decide +kernel)
theorem k_800 : (.selects "CodeGateModel" ⟨"CodeGateModel", "feed", "(IIIII)I"⟩ ⟨"CodeGateModel", "feed", "(IIIII)I"⟩ : Cond) ∈ tb := tb_in 800 (by decide +kernel) (by decide +kernel)
set_option maxRecDepth 100000 in
theorem k_801 : (.code ⟨"CodeGateModel", "feed", "(IIIII)I"⟩ prog_9_method_3_code 8 (Option.some Jvm.ClassFile.FieldType.int) : Cond) ∈ tb := tb_in 801 rfl rfl
theorem k_802 : (.methodLink "CodeGateLaw" 22 ⟨"CodeGateModel", "cut", "(I)I"⟩ : Cond) ∈ tb := tb_in 802 (by decide +kernel) (by decide +kernel)
theorem k_803 : (.instanceMethod ⟨"CodeGateModel", "cut", "(I)I"⟩ : Cond) ∈ tb := tb_in 803 (by decide +kernel) (by decide +kernel)
theorem k_804 : (.selects "CodeGateModel" ⟨"CodeGateModel", "cut", "(I)I"⟩ ⟨"CodeGateModel", "cut", "(I)I"⟩ : Cond) ∈ tb := tb_in 804 (by decide +kernel) (by decide +kernel)
set_option maxRecDepth 100000 in
theorem k_805 : (.code ⟨"CodeGateModel", "cut", "(I)I"⟩ prog_9_method_4_code 2 (Option.some Jvm.ClassFile.FieldType.int) : Cond) ∈ tb := tb_in 805 rfl rfl
theorem k_806 : (.methodLink "CodeGateLaw" 27 ⟨"CodeGateModel", "turn", "(II)I"⟩ : Cond) ∈ tb := tb_in 806 (by decide +kernel) (by decide +kernel)
theorem k_807 : (.instanceMethod ⟨"CodeGateModel", "turn", "(II)I"⟩ : Cond) ∈ tb := tb_in 807 (by decide +kernel) (by decide +kernel)
theorem k_808 : (.selects "CodeGateModel" ⟨"CodeGateModel", "turn", "(II)I"⟩ ⟨"CodeGateModel", "turn", "(II)I"⟩ : Cond) ∈ tb := tb_in 808 (by decide +kernel) (by decide +kernel)
set_option maxRecDepth 100000 in
theorem k_809 : (.code ⟨"CodeGateModel", "turn", "(II)I"⟩ prog_9_method_5_code 3 (Option.some Jvm.ClassFile.FieldType.int) : Cond) ∈ tb := tb_in 809 rfl rfl
theorem k_810 : (.methodLink "CodeGateLaw" 31 ⟨"CodeGateModel", "byteAt", "(I)I"⟩ : Cond) ∈ tb := tb_in 810 (by decide +kernel) (by decide +kernel)
theorem k_811 : (.instanceMethod ⟨"CodeGateModel", "byteAt", "(I)I"⟩ : Cond) ∈ tb := tb_in 811 (by decide +kernel) (by decide +kernel)
theorem k_812 : (.selects "CodeGateModel" ⟨"CodeGateModel", "byteAt", "(I)I"⟩ ⟨"CodeGateModel", "byteAt", "(I)I"⟩ : Cond) ∈ tb := tb_in 812 (by decide +kernel) (by decide +kernel)
set_option maxRecDepth 100000 in
theorem k_813 : (.code ⟨"CodeGateModel", "byteAt", "(I)I"⟩ prog_9_method_6_code 2 (Option.some Jvm.ClassFile.FieldType.int) : Cond) ∈ tb := tb_in 813 rfl rfl
theorem k_814 : (.methodLink "CodeGateLaw" 36 ⟨"CodeGateModel", "judge", "()I"⟩ : Cond) ∈ tb := tb_in 814 (by decide +kernel) (by decide +kernel)
theorem k_815 : (.instanceMethod ⟨"CodeGateModel", "judge", "()I"⟩ : Cond) ∈ tb := tb_in 815 (by decide +kernel) (by decide +kernel)
theorem k_816 : (.selects "CodeGateModel" ⟨"CodeGateModel", "judge", "()I"⟩ ⟨"CodeGateModel", "judge", "()I"⟩ : Cond) ∈ tb := tb_in 816 (by decide +kernel) (by decide +kernel)
set_option maxRecDepth 100000 in
theorem k_817 : (.code ⟨"CodeGateModel", "judge", "()I"⟩ prog_9_method_60_code 3 (Option.some Jvm.ClassFile.FieldType.int) : Cond) ∈ tb := tb_in 817 rfl rfl
theorem k_818 : (.methodLink "CodeGateModel" 317 ⟨"CodeGateModel", "go", "(I)V"⟩ : Cond) ∈ tb := tb_in 818 (by decide +kernel) (by decide +kernel)
theorem k_820 : (.instanceMethod ⟨"CodeGateModel", "go", "(I)V"⟩ : Cond) ∈ tb := tb_in 820 (by decide +kernel) (by decide +kernel)
set_option maxRecDepth 100000 in
theorem k_821 : (.code ⟨"CodeGateModel", "go", "(I)V"⟩ prog_9_method_33_code 3 (Option.none : Option Jvm.ClassFile.FieldType) : Cond) ∈ tb := tb_in 821 rfl rfl
theorem k_822 : (.methodLink "CodeGateModel" 140 ⟨"CodeGateModel", "u4", "()J"⟩ : Cond) ∈ tb := tb_in 822 (by decide +kernel) (by decide +kernel)
theorem k_824 : (.instanceMethod ⟨"CodeGateModel", "u4", "()J"⟩ : Cond) ∈ tb := tb_in 824 (by decide +kernel) (by decide +kernel)
set_option maxRecDepth 100000 in
theorem k_825 : (.code ⟨"CodeGateModel", "u4", "()J"⟩ prog_9_method_12_code 3 (Option.some Jvm.ClassFile.FieldType.long) : Cond) ∈ tb := tb_in 825 rfl rfl
theorem k_826 : (.methodLink "CodeGateModel" 73 ⟨"CodeGateModel", "u2", "()I"⟩ : Cond) ∈ tb := tb_in 826 (by decide +kernel) (by decide +kernel)
theorem k_828 : (.instanceMethod ⟨"CodeGateModel", "u2", "()I"⟩ : Cond) ∈ tb := tb_in 828 (by decide +kernel) (by decide +kernel)
set_option maxRecDepth 100000 in
theorem k_829 : (.code ⟨"CodeGateModel", "u2", "()I"⟩ prog_9_method_11_code 2 (Option.some Jvm.ClassFile.FieldType.int) : Cond) ∈ tb := tb_in 829 rfl rfl
theorem k_830 : (.methodLink "CodeGateModel" 69 ⟨"CodeGateModel", "u1", "()I"⟩ : Cond) ∈ tb := tb_in 830 (by decide +kernel) (by decide +kernel)
theorem k_832 : (.instanceMethod ⟨"CodeGateModel", "u1", "()I"⟩ : Cond) ∈ tb := tb_in 832 (by decide +kernel) (by decide +kernel)
set_option maxRecDepth 100000 in
theorem k_833 : (.code ⟨"CodeGateModel", "u1", "()I"⟩ prog_9_method_10_code 1 (Option.some Jvm.ClassFile.FieldType.int) : Cond) ∈ tb := tb_in 833 rfl rfl
theorem k_834 : (.methodLink "CodeGateModel" 55 ⟨"CodeGateModel", "ok", "()Z"⟩ : Cond) ∈ tb := tb_in 834 (by decide +kernel) (by decide +kernel)
theorem k_836 : (.instanceMethod ⟨"CodeGateModel", "ok", "()Z"⟩ : Cond) ∈ tb := tb_in 836 (by decide +kernel) (by decide +kernel)
set_option maxRecDepth 100000 in
theorem k_837 : (.code ⟨"CodeGateModel", "ok", "()Z"⟩ prog_9_method_8_code 1 (Option.some Jvm.ClassFile.FieldType.boolean) : Cond) ∈ tb := tb_in 837 rfl rfl
theorem k_838 : (.methodLink "CodeGateModel" 59 ⟨"CodeGateModel", "fails", "(II)Z"⟩ : Cond) ∈ tb := tb_in 838 (by decide +kernel) (by decide +kernel)
theorem k_840 : (.instanceMethod ⟨"CodeGateModel", "fails", "(II)Z"⟩ : Cond) ∈ tb := tb_in 840 (by decide +kernel) (by decide +kernel)
set_option maxRecDepth 100000 in
theorem k_841 : (.code ⟨"CodeGateModel", "fails", "(II)Z"⟩ prog_9_method_7_code 3 (Option.some Jvm.ClassFile.FieldType.boolean) : Cond) ∈ tb := tb_in 841 rfl rfl
theorem k_842 : (.constantLong "CodeGateModel" 144 3405691582 : Cond) ∈ tb := tb_in 842 (by decide +kernel) (by decide +kernel)
theorem k_843 : (.methodLink "CodeGateModel" 115 ⟨"CodeGateModel", "must", "(ZII)Z"⟩ : Cond) ∈ tb := tb_in 843 (by decide +kernel) (by decide +kernel)
theorem k_845 : (.instanceMethod ⟨"CodeGateModel", "must", "(ZII)Z"⟩ : Cond) ∈ tb := tb_in 845 (by decide +kernel) (by decide +kernel)
set_option maxRecDepth 100000 in
theorem k_846 : (.code ⟨"CodeGateModel", "must", "(ZII)Z"⟩ prog_9_method_9_code 4 (Option.some Jvm.ClassFile.FieldType.boolean) : Cond) ∈ tb := tb_in 846 rfl rfl
theorem k_847 : (.methodLink "CodeGateModel" 149 ⟨"CodeGateModel", "pool", "()V"⟩ : Cond) ∈ tb := tb_in 847 (by decide +kernel) (by decide +kernel)
theorem k_849 : (.instanceMethod ⟨"CodeGateModel", "pool", "()V"⟩ : Cond) ∈ tb := tb_in 849 (by decide +kernel) (by decide +kernel)
set_option maxRecDepth 100000 in
theorem k_850 : (.code ⟨"CodeGateModel", "pool", "()V"⟩ prog_9_method_34_code 5 (Option.none : Option Jvm.ClassFile.FieldType) : Cond) ∈ tb := tb_in 850 rfl rfl
theorem k_851 : (.methodLink "CodeGateModel" 166 ⟨"CodeGateModel", "text", "()V"⟩ : Cond) ∈ tb := tb_in 851 (by decide +kernel) (by decide +kernel)
theorem k_853 : (.instanceMethod ⟨"CodeGateModel", "text", "()V"⟩ : Cond) ∈ tb := tb_in 853 (by decide +kernel) (by decide +kernel)
set_option maxRecDepth 100000 in
theorem k_854 : (.code ⟨"CodeGateModel", "text", "()V"⟩ prog_9_method_35_code 10 (Option.none : Option Jvm.ClassFile.FieldType) : Cond) ∈ tb := tb_in 854 rfl rfl
theorem k_855 : (.methodLink "CodeGateModel" 152 ⟨"CodeGateModel", "refer", "()V"⟩ : Cond) ∈ tb := tb_in 855 (by decide +kernel) (by decide +kernel)
theorem k_857 : (.instanceMethod ⟨"CodeGateModel", "refer", "()V"⟩ : Cond) ∈ tb := tb_in 857 (by decide +kernel) (by decide +kernel)
set_option maxRecDepth 100000 in
theorem k_858 : (.code ⟨"CodeGateModel", "refer", "()V"⟩ prog_9_method_36_code 6 (Option.none : Option Jvm.ClassFile.FieldType) : Cond) ∈ tb := tb_in 858 rfl rfl
theorem k_859 : (.methodLink "CodeGateModel" 76 ⟨"CodeGateModel", "two", "(I)I"⟩ : Cond) ∈ tb := tb_in 859 (by decide +kernel) (by decide +kernel)
theorem k_861 : (.instanceMethod ⟨"CodeGateModel", "two", "(I)I"⟩ : Cond) ∈ tb := tb_in 861 (by decide +kernel) (by decide +kernel)
set_option maxRecDepth 100000 in
theorem k_862 : (.code ⟨"CodeGateModel", "two", "(I)I"⟩ prog_9_method_13_code 2 (Option.some Jvm.ClassFile.FieldType.int) : Cond) ∈ tb := tb_in 862 rfl rfl
theorem k_863 : (.methodLink "CodeGateModel" 112 ⟨"CodeGateModel", "isKind", "(II)Z"⟩ : Cond) ∈ tb := tb_in 863 (by decide +kernel) (by decide +kernel)
theorem k_865 : (.instanceMethod ⟨"CodeGateModel", "isKind", "(II)Z"⟩ : Cond) ∈ tb := tb_in 865 (by decide +kernel) (by decide +kernel)
set_option maxRecDepth 100000 in
theorem k_866 : (.code ⟨"CodeGateModel", "isKind", "(II)Z"⟩ prog_9_method_28_code 3 (Option.some Jvm.ClassFile.FieldType.boolean) : Cond) ∈ tb := tb_in 866 rfl rfl
theorem k_867 : (.methodLink "CodeGateModel" 86 ⟨"CodeGateModel", "letter", "(II)I"⟩ : Cond) ∈ tb := tb_in 867 (by decide +kernel) (by decide +kernel)
theorem k_869 : (.instanceMethod ⟨"CodeGateModel", "letter", "(II)I"⟩ : Cond) ∈ tb := tb_in 869 (by decide +kernel) (by decide +kernel)
set_option maxRecDepth 100000 in
theorem k_870 : (.code ⟨"CodeGateModel", "letter", "(II)I"⟩ prog_9_method_16_code 3 (Option.some Jvm.ClassFile.FieldType.int) : Cond) ∈ tb := tb_in 870 rfl rfl
theorem k_871 : (.methodLink "CodeGateModel" 80 ⟨"CodeGateModel", "textSize", "(I)I"⟩ : Cond) ∈ tb := tb_in 871 (by decide +kernel) (by decide +kernel)
theorem k_873 : (.instanceMethod ⟨"CodeGateModel", "textSize", "(I)I"⟩ : Cond) ∈ tb := tb_in 873 (by decide +kernel) (by decide +kernel)
set_option maxRecDepth 100000 in
theorem k_874 : (.code ⟨"CodeGateModel", "textSize", "(I)I"⟩ prog_9_method_15_code 2 (Option.some Jvm.ClassFile.FieldType.int) : Cond) ∈ tb := tb_in 874 rfl rfl
theorem k_875 : (.methodLink "CodeGateModel" 83 ⟨"CodeGateModel", "textAt", "(I)I"⟩ : Cond) ∈ tb := tb_in 875 (by decide +kernel) (by decide +kernel)
theorem k_877 : (.instanceMethod ⟨"CodeGateModel", "textAt", "(I)I"⟩ : Cond) ∈ tb := tb_in 877 (by decide +kernel) (by decide +kernel)
set_option maxRecDepth 100000 in
theorem k_878 : (.code ⟨"CodeGateModel", "textAt", "(I)I"⟩ prog_9_method_14_code 2 (Option.some Jvm.ClassFile.FieldType.int) : Cond) ∈ tb := tb_in 878 rfl rfl
theorem k_879 : (.methodLink "CodeGateModel" 169 ⟨"CodeGateModel", "isField", "(I)Z"⟩ : Cond) ∈ tb := tb_in 879 (by decide +kernel) (by decide +kernel)
theorem k_881 : (.instanceMethod ⟨"CodeGateModel", "isField", "(I)Z"⟩ : Cond) ∈ tb := tb_in 881 (by decide +kernel) (by decide +kernel)
set_option maxRecDepth 100000 in
theorem k_882 : (.code ⟨"CodeGateModel", "isField", "(I)Z"⟩ prog_9_method_24_code 2 (Option.some Jvm.ClassFile.FieldType.boolean) : Cond) ∈ tb := tb_in 882 rfl rfl
theorem k_883 : (.methodLink "CodeGateModel" 103 ⟨"CodeGateModel", "typeEnd", "(II)I"⟩ : Cond) ∈ tb := tb_in 883 (by decide +kernel) (by decide +kernel)
theorem k_885 : (.instanceMethod ⟨"CodeGateModel", "typeEnd", "(II)I"⟩ : Cond) ∈ tb := tb_in 885 (by decide +kernel) (by decide +kernel)
set_option maxRecDepth 100000 in
theorem k_886 : (.code ⟨"CodeGateModel", "typeEnd", "(II)I"⟩ prog_9_method_23_code 6 (Option.some Jvm.ClassFile.FieldType.int) : Cond) ∈ tb := tb_in 886 rfl rfl
theorem k_887 : (.methodLink "CodeGateModel" 96 ⟨"CodeGateModel", "classEnd", "(II)I"⟩ : Cond) ∈ tb := tb_in 887 (by decide +kernel) (by decide +kernel)
theorem k_889 : (.instanceMethod ⟨"CodeGateModel", "classEnd", "(II)I"⟩ : Cond) ∈ tb := tb_in 889 (by decide +kernel) (by decide +kernel)
set_option maxRecDepth 100000 in
theorem k_890 : (.code ⟨"CodeGateModel", "classEnd", "(II)I"⟩ prog_9_method_21_code 5 (Option.some Jvm.ClassFile.FieldType.int) : Cond) ∈ tb := tb_in 890 rfl rfl
theorem k_891 : (.methodLink "CodeGateModel" 92 ⟨"CodeGateModel", "isPlain", "(I)Z"⟩ : Cond) ∈ tb := tb_in 891 (by decide +kernel) (by decide +kernel)
theorem k_892 : (.static ⟨"CodeGateModel", "isPlain", "(I)Z"⟩ : Cond) ∈ tb := tb_in 892 (by decide +kernel) (by decide +kernel)
set_option maxRecDepth 100000 in
theorem k_893 : (.code ⟨"CodeGateModel", "isPlain", "(I)Z"⟩ prog_9_method_19_code 1 (Option.some Jvm.ClassFile.FieldType.boolean) : Cond) ∈ tb := tb_in 893 rfl rfl
theorem k_894 : (.methodLink "CodeGateModel" 172 ⟨"CodeGateModel", "isClassName", "(I)Z"⟩ : Cond) ∈ tb := tb_in 894 (by decide +kernel) (by decide +kernel)
theorem k_896 : (.instanceMethod ⟨"CodeGateModel", "isClassName", "(I)Z"⟩ : Cond) ∈ tb := tb_in 896 (by decide +kernel) (by decide +kernel)
set_option maxRecDepth 100000 in
theorem k_897 : (.code ⟨"CodeGateModel", "isClassName", "(I)Z"⟩ prog_9_method_22_code 2 (Option.some Jvm.ClassFile.FieldType.boolean) : Cond) ∈ tb := tb_in 897 rfl rfl
theorem k_898 : (.methodLink "CodeGateModel" 175 ⟨"CodeGateModel", "isPlainName", "(I)Z"⟩ : Cond) ∈ tb := tb_in 898 (by decide +kernel) (by decide +kernel)
theorem k_900 : (.instanceMethod ⟨"CodeGateModel", "isPlainName", "(I)Z"⟩ : Cond) ∈ tb := tb_in 900 (by decide +kernel) (by decide +kernel)
set_option maxRecDepth 100000 in
theorem k_901 : (.code ⟨"CodeGateModel", "isPlainName", "(I)Z"⟩ prog_9_method_20_code 4 (Option.some Jvm.ClassFile.FieldType.boolean) : Cond) ∈ tb := tb_in 901 rfl rfl
theorem k_902 : (.constantLong "CodeGateModel" 178 66423521637438 : Cond) ∈ tb := tb_in 902 (by decide +kernel) (by decide +kernel)
theorem k_903 : (.methodLink "CodeGateModel" 180 ⟨"CodeGateModel", "is", "(IIJJJ)Z"⟩ : Cond) ∈ tb := tb_in 903 (by decide +kernel) (by decide +kernel)
theorem k_905 : (.instanceMethod ⟨"CodeGateModel", "is", "(IIJJJ)Z"⟩ : Cond) ∈ tb := tb_in 905 (by decide +kernel) (by decide +kernel)
set_option maxRecDepth 100000 in
theorem k_906 : (.code ⟨"CodeGateModel", "is", "(IIJJJ)Z"⟩ prog_9_method_18_code 14 (Option.some Jvm.ClassFile.FieldType.boolean) : Cond) ∈ tb := tb_in 906 rfl rfl
theorem k_907 : (.constantLong "CodeGateModel" 90 255 : Cond) ∈ tb := tb_in 907 (by decide +kernel) (by decide +kernel)
theorem k_908 : (.constantLong "CodeGateModel" 184 4351440865049801790 : Cond) ∈ tb := tb_in 908 (by decide +kernel) (by decide +kernel)
theorem k_909 : (.methodLink "CodeGateModel" 186 ⟨"CodeGateModel", "isMethod", "(I)Z"⟩ : Cond) ∈ tb := tb_in 909 (by decide +kernel) (by decide +kernel)
theorem k_911 : (.instanceMethod ⟨"CodeGateModel", "isMethod", "(I)Z"⟩ : Cond) ∈ tb := tb_in 911 (by decide +kernel) (by decide +kernel)
set_option maxRecDepth 100000 in
theorem k_912 : (.code ⟨"CodeGateModel", "isMethod", "(I)Z"⟩ prog_9_method_25_code 5 (Option.some Jvm.ClassFile.FieldType.boolean) : Cond) ∈ tb := tb_in 912 rfl rfl
theorem k_913 : (.methodLink "CodeGateModel" 189 ⟨"CodeGateModel", "typeOf", "(I)I"⟩ : Cond) ∈ tb := tb_in 913 (by decide +kernel) (by decide +kernel)
theorem k_915 : (.instanceMethod ⟨"CodeGateModel", "typeOf", "(I)I"⟩ : Cond) ∈ tb := tb_in 915 (by decide +kernel) (by decide +kernel)
set_option maxRecDepth 100000 in
theorem k_916 : (.code ⟨"CodeGateModel", "typeOf", "(I)I"⟩ prog_9_method_31_code 2 (Option.some Jvm.ClassFile.FieldType.int) : Cond) ∈ tb := tb_in 916 rfl rfl
theorem k_917 : (.methodLink "CodeGateModel" 192 ⟨"CodeGateModel", "nameOf", "(I)I"⟩ : Cond) ∈ tb := tb_in 917 (by decide +kernel) (by decide +kernel)
theorem k_919 : (.instanceMethod ⟨"CodeGateModel", "nameOf", "(I)I"⟩ : Cond) ∈ tb := tb_in 919 (by decide +kernel) (by decide +kernel)
set_option maxRecDepth 100000 in
theorem k_920 : (.code ⟨"CodeGateModel", "nameOf", "(I)I"⟩ prog_9_method_30_code 2 (Option.some Jvm.ClassFile.FieldType.int) : Cond) ∈ tb := tb_in 920 rfl rfl
theorem k_921 : (.methodLink "CodeGateModel" 195 ⟨"CodeGateModel", "isVoid", "(I)Z"⟩ : Cond) ∈ tb := tb_in 921 (by decide +kernel) (by decide +kernel)
theorem k_923 : (.instanceMethod ⟨"CodeGateModel", "isVoid", "(I)Z"⟩ : Cond) ∈ tb := tb_in 923 (by decide +kernel) (by decide +kernel)
set_option maxRecDepth 100000 in
theorem k_924 : (.code ⟨"CodeGateModel", "isVoid", "(I)Z"⟩ prog_9_method_26_code 2 (Option.some Jvm.ClassFile.FieldType.boolean) : Cond) ∈ tb := tb_in 924 rfl rfl
theorem k_925 : (.methodLink "CodeGateModel" 155 ⟨"CodeGateModel", "head", "()V"⟩ : Cond) ∈ tb := tb_in 925 (by decide +kernel) (by decide +kernel)
theorem k_927 : (.instanceMethod ⟨"CodeGateModel", "head", "()V"⟩ : Cond) ∈ tb := tb_in 927 (by decide +kernel) (by decide +kernel)
set_option maxRecDepth 100000 in
theorem k_928 : (.code ⟨"CodeGateModel", "head", "()V"⟩ prog_9_method_37_code 6 (Option.none : Option Jvm.ClassFile.FieldType) : Cond) ∈ tb := tb_in 928 rfl rfl
theorem k_929 : (.methodLink "CodeGateModel" 201 ⟨"CodeGateModel", "number", "(I)I"⟩ : Cond) ∈ tb := tb_in 929 (by decide +kernel) (by decide +kernel)
theorem k_931 : (.instanceMethod ⟨"CodeGateModel", "number", "(I)I"⟩ : Cond) ∈ tb := tb_in 931 (by decide +kernel) (by decide +kernel)
set_option maxRecDepth 100000 in
theorem k_932 : (.code ⟨"CodeGateModel", "number", "(I)I"⟩ prog_9_method_29_code 4 (Option.some Jvm.ClassFile.FieldType.int) : Cond) ∈ tb := tb_in 932 rfl rfl
theorem k_933 : (.methodLink "CodeGateModel" 207 ⟨"CodeGateModel", "isArray", "(I)Z"⟩ : Cond) ∈ tb := tb_in 933 (by decide +kernel) (by decide +kernel)
theorem k_935 : (.instanceMethod ⟨"CodeGateModel", "isArray", "(I)Z"⟩ : Cond) ∈ tb := tb_in 935 (by decide +kernel) (by decide +kernel)
set_option maxRecDepth 100000 in
theorem k_936 : (.code ⟨"CodeGateModel", "isArray", "(I)Z"⟩ prog_9_method_27_code 2 (Option.some Jvm.ClassFile.FieldType.boolean) : Cond) ∈ tb := tb_in 936 rfl rfl
theorem k_937 : (.methodLink "CodeGateModel" 210 ⟨"CodeGateModel", "textOf", "(I)I"⟩ : Cond) ∈ tb := tb_in 937 (by decide +kernel) (by decide +kernel)
theorem k_939 : (.instanceMethod ⟨"CodeGateModel", "textOf", "(I)I"⟩ : Cond) ∈ tb := tb_in 939 (by decide +kernel) (by decide +kernel)
set_option maxRecDepth 100000 in
theorem k_940 : (.code ⟨"CodeGateModel", "textOf", "(I)I"⟩ prog_9_method_32_code 2 (Option.some Jvm.ClassFile.FieldType.int) : Cond) ∈ tb := tb_in 940 rfl rfl
theorem k_941 : (.methodLink "CodeGateModel" 213 ⟨"CodeGateModel", "same", "(II)Z"⟩ : Cond) ∈ tb := tb_in 941 (by decide +kernel) (by decide +kernel)
theorem k_943 : (.instanceMethod ⟨"CodeGateModel", "same", "(II)Z"⟩ : Cond) ∈ tb := tb_in 943 (by decide +kernel) (by decide +kernel)
set_option maxRecDepth 100000 in
theorem k_944 : (.code ⟨"CodeGateModel", "same", "(II)Z"⟩ prog_9_method_17_code 5 (Option.some Jvm.ClassFile.FieldType.boolean) : Cond) ∈ tb := tb_in 944 rfl rfl
theorem k_945 : (.constantLong "CodeGateModel" 216 7665538200540832110 : Cond) ∈ tb := tb_in 945 (by decide +kernel) (by decide +kernel)
theorem k_946 : (.constantLong "CodeGateModel" 218 7435248793922397044 : Cond) ∈ tb := tb_in 946 (by decide +kernel) (by decide +kernel)
theorem k_947 : (.methodLink "CodeGateModel" 158 ⟨"CodeGateModel", "fields", "()V"⟩ : Cond) ∈ tb := tb_in 947 (by decide +kernel) (by decide +kernel)
theorem k_949 : (.instanceMethod ⟨"CodeGateModel", "fields", "()V"⟩ : Cond) ∈ tb := tb_in 949 (by decide +kernel) (by decide +kernel)
set_option maxRecDepth 100000 in
theorem k_950 : (.code ⟨"CodeGateModel", "fields", "()V"⟩ prog_9_method_39_code 7 (Option.none : Option Jvm.ClassFile.FieldType) : Cond) ∈ tb := tb_in 950 rfl rfl
theorem k_951 : (.methodLink "CodeGateModel" 220 ⟨"CodeGateModel", "oneOf", "(I)Z"⟩ : Cond) ∈ tb := tb_in 951 (by decide +kernel) (by decide +kernel)
theorem k_952 : (.static ⟨"CodeGateModel", "oneOf", "(I)Z"⟩ : Cond) ∈ tb := tb_in 952 (by decide +kernel) (by decide +kernel)
set_option maxRecDepth 100000 in
theorem k_953 : (.code ⟨"CodeGateModel", "oneOf", "(I)Z"⟩ prog_9_method_38_code 1 (Option.some Jvm.ClassFile.FieldType.boolean) : Cond) ∈ tb := tb_in 953 rfl rfl
theorem k_954 : (.methodLink "CodeGateModel" 162 ⟨"CodeGateModel", "attributes", "(IIII)V"⟩ : Cond) ∈ tb := tb_in 954 (by decide +kernel) (by decide +kernel)
theorem k_956 : (.instanceMethod ⟨"CodeGateModel", "attributes", "(IIII)V"⟩ : Cond) ∈ tb := tb_in 956 (by decide +kernel) (by decide +kernel)
set_option maxRecDepth 100000 in
theorem k_957 : (.code ⟨"CodeGateModel", "attributes", "(IIII)V"⟩ prog_9_method_41_code 17 (Option.none : Option Jvm.ClassFile.FieldType) : Cond) ∈ tb := tb_in 957 rfl rfl
theorem k_958 : (.constantLong "CodeGateModel" 225 4859223965108891252 : Cond) ∈ tb := tb_in 958 (by decide +kernel) (by decide +kernel)
theorem k_959 : (.constantLong "CodeGateModel" 227 371001685349 : Cond) ∈ tb := tb_in 959 (by decide +kernel) (by decide +kernel)
theorem k_960 : (.constantLong "CodeGateModel" 229 1131373669 : Cond) ∈ tb := tb_in 960 (by decide +kernel) (by decide +kernel)
theorem k_961 : (.constantLong "CodeGateModel" 231 6012153161717204585 : Cond) ∈ tb := tb_in 961 (by decide +kernel) (by decide +kernel)
theorem k_962 : (.constantLong "CodeGateModel" 233 27749 : Cond) ∈ tb := tb_in 962 (by decide +kernel) (by decide +kernel)
theorem k_963 : (.constantLong "CodeGateModel" 235 5005860273151830383 : Cond) ∈ tb := tb_in 963 (by decide +kernel) (by decide +kernel)
theorem k_964 : (.constantLong "CodeGateModel" 237 28275 : Cond) ∈ tb := tb_in 964 (by decide +kernel) (by decide +kernel)
theorem k_965 : (.methodLink "CodeGateModel" 239 ⟨"CodeGateModel", "thrown", "(I)V"⟩ : Cond) ∈ tb := tb_in 965 (by decide +kernel) (by decide +kernel)
theorem k_967 : (.instanceMethod ⟨"CodeGateModel", "thrown", "(I)V"⟩ : Cond) ∈ tb := tb_in 967 (by decide +kernel) (by decide +kernel)
set_option maxRecDepth 100000 in
theorem k_968 : (.code ⟨"CodeGateModel", "thrown", "(I)V"⟩ prog_9_method_42_code 4 (Option.none : Option Jvm.ClassFile.FieldType) : Cond) ∈ tb := tb_in 968 rfl rfl
theorem k_969 : (.methodLink "CodeGateModel" 243 ⟨"CodeGateModel", "value", "(I)V"⟩ : Cond) ∈ tb := tb_in 969 (by decide +kernel) (by decide +kernel)
theorem k_971 : (.instanceMethod ⟨"CodeGateModel", "value", "(I)V"⟩ : Cond) ∈ tb := tb_in 971 (by decide +kernel) (by decide +kernel)
set_option maxRecDepth 100000 in
theorem k_972 : (.code ⟨"CodeGateModel", "value", "(I)V"⟩ prog_9_method_43_code 4 (Option.none : Option Jvm.ClassFile.FieldType) : Cond) ∈ tb := tb_in 972 rfl rfl
theorem k_973 : (.constantLong "CodeGateModel" 250 5506320655478385761 : Cond) ∈ tb := tb_in 973 (by decide +kernel) (by decide +kernel)
theorem k_974 : (.constantLong "CodeGateModel" 252 7955379302255716718 : Cond) ∈ tb := tb_in 974 (by decide +kernel) (by decide +kernel)
theorem k_975 : (.constantLong "CodeGateModel" 254 26427 : Cond) ∈ tb := tb_in 975 (by decide +kernel) (by decide +kernel)
theorem k_976 : (.methodLink "CodeGateModel" 246 ⟨"CodeGateModel", "code", "(II)V"⟩ : Cond) ∈ tb := tb_in 976 (by decide +kernel) (by decide +kernel)
theorem k_978 : (.instanceMethod ⟨"CodeGateModel", "code", "(II)V"⟩ : Cond) ∈ tb := tb_in 978 (by decide +kernel) (by decide +kernel)
set_option maxRecDepth 100000 in
theorem k_979 : (.code ⟨"CodeGateModel", "code", "(II)V"⟩ prog_9_method_44_code 10 (Option.none : Option Jvm.ClassFile.FieldType) : Cond) ∈ tb := tb_in 979 rfl rfl
theorem k_980 : (.constantLong "CodeGateModel" 259 2000 : Cond) ∈ tb := tb_in 980 (by decide +kernel) (by decide +kernel)
theorem k_981 : (.methodLink "CodeGateModel" 267 ⟨"CodeGateModel", "instruction", "()V"⟩ : Cond) ∈ tb := tb_in 981 (by decide +kernel) (by decide +kernel)
theorem k_983 : (.instanceMethod ⟨"CodeGateModel", "instruction", "()V"⟩ : Cond) ∈ tb := tb_in 983 (by decide +kernel) (by decide +kernel)
set_option maxRecDepth 100000 in
theorem k_984 : (.code ⟨"CodeGateModel", "instruction", "()V"⟩ prog_9_method_53_code 5 (Option.none : Option Jvm.ClassFile.FieldType) : Cond) ∈ tb := tb_in 984 rfl rfl
theorem k_985 : (.methodLink "CodeGateModel" 279 ⟨"CodeGateModel", "byteOf", "(I)I"⟩ : Cond) ∈ tb := tb_in 985 (by decide +kernel) (by decide +kernel)
theorem k_987 : (.instanceMethod ⟨"CodeGateModel", "byteOf", "(I)I"⟩ : Cond) ∈ tb := tb_in 987 (by decide +kernel) (by decide +kernel)
set_option maxRecDepth 100000 in
theorem k_988 : (.code ⟨"CodeGateModel", "byteOf", "(I)I"⟩ prog_9_method_48_code 2 (Option.some Jvm.ClassFile.FieldType.int) : Cond) ∈ tb := tb_in 988 rfl rfl
theorem k_989 : (.methodLink "CodeGateModel" 291 ⟨"CodeGateModel", "isBarred", "(I)Z"⟩ : Cond) ∈ tb := tb_in 989 (by decide +kernel) (by decide +kernel)
theorem k_990 : (.static ⟨"CodeGateModel", "isBarred", "(I)Z"⟩ : Cond) ∈ tb := tb_in 990 (by decide +kernel) (by decide +kernel)
set_option maxRecDepth 100000 in
theorem k_991 : (.code ⟨"CodeGateModel", "isBarred", "(I)Z"⟩ prog_9_method_46_code 2 (Option.some Jvm.ClassFile.FieldType.boolean) : Cond) ∈ tb := tb_in 991 rfl rfl
theorem k_992 : (.methodLink "CodeGateModel" 294 ⟨"CodeGateModel", "branches", "(IZ)V"⟩ : Cond) ∈ tb := tb_in 992 (by decide +kernel) (by decide +kernel)
theorem k_994 : (.instanceMethod ⟨"CodeGateModel", "branches", "(IZ)V"⟩ : Cond) ∈ tb := tb_in 994 (by decide +kernel) (by decide +kernel)
set_option maxRecDepth 100000 in
theorem k_995 : (.code ⟨"CodeGateModel", "branches", "(IZ)V"⟩ prog_9_method_55_code 7 (Option.none : Option Jvm.ClassFile.FieldType) : Cond) ∈ tb := tb_in 995 rfl rfl
theorem k_996 : (.methodLink "CodeGateModel" 282 ⟨"CodeGateModel", "numbersOf", "(I)I"⟩ : Cond) ∈ tb := tb_in 996 (by decide +kernel) (by decide +kernel)
theorem k_998 : (.instanceMethod ⟨"CodeGateModel", "numbersOf", "(I)I"⟩ : Cond) ∈ tb := tb_in 998 (by decide +kernel) (by decide +kernel)
set_option maxRecDepth 100000 in
theorem k_999 : (.code ⟨"CodeGateModel", "numbersOf", "(I)I"⟩ prog_9_method_50_code 2 (Option.some Jvm.ClassFile.FieldType.int) : Cond) ∈ tb := tb_in 999 rfl rfl
theorem k_1000 : (.methodLink "CodeGateModel" 298 ⟨"CodeGateModel", "isThere", "(II)Z"⟩ : Cond) ∈ tb := tb_in 1000 (by decide +kernel) (by decide +kernel)
theorem k_1002 : (.instanceMethod ⟨"CodeGateModel", "isThere", "(II)Z"⟩ : Cond) ∈ tb := tb_in 1002 (by decide +kernel) (by decide +kernel)
set_option maxRecDepth 100000 in
theorem k_1003 : (.code ⟨"CodeGateModel", "isThere", "(II)Z"⟩ prog_9_method_52_code 3 (Option.some Jvm.ClassFile.FieldType.boolean) : Cond) ∈ tb := tb_in 1003 rfl rfl
theorem k_1004 : (.methodLink "CodeGateModel" 285 ⟨"CodeGateModel", "four", "(I)I"⟩ : Cond) ∈ tb := tb_in 1004 (by decide +kernel) (by decide +kernel)
theorem k_1006 : (.instanceMethod ⟨"CodeGateModel", "four", "(I)I"⟩ : Cond) ∈ tb := tb_in 1006 (by decide +kernel) (by decide +kernel)
set_option maxRecDepth 100000 in
theorem k_1007 : (.code ⟨"CodeGateModel", "four", "(I)I"⟩ prog_9_method_49_code 2 (Option.some Jvm.ClassFile.FieldType.int) : Cond) ∈ tb := tb_in 1007 rfl rfl
theorem k_1008 : (.constantLong "CodeGateModel" 308 500 : Cond) ∈ tb := tb_in 1008 (by decide +kernel) (by decide +kernel)
theorem k_1009 : (.methodLink "CodeGateModel" 301 ⟨"CodeGateModel", "local", "(III)V"⟩ : Cond) ∈ tb := tb_in 1009 (by decide +kernel) (by decide +kernel)
theorem k_1011 : (.instanceMethod ⟨"CodeGateModel", "local", "(III)V"⟩ : Cond) ∈ tb := tb_in 1011 (by decide +kernel) (by decide +kernel)
set_option maxRecDepth 100000 in
theorem k_1012 : (.code ⟨"CodeGateModel", "local", "(III)V"⟩ prog_9_method_54_code 4 (Option.none : Option Jvm.ClassFile.FieldType) : Cond) ∈ tb := tb_in 1012 rfl rfl
theorem k_1013 : (.methodLink "CodeGateModel" 288 ⟨"CodeGateModel", "lengthOf", "(I)I"⟩ : Cond) ∈ tb := tb_in 1013 (by decide +kernel) (by decide +kernel)
theorem k_1014 : (.static ⟨"CodeGateModel", "lengthOf", "(I)I"⟩ : Cond) ∈ tb := tb_in 1014 (by decide +kernel) (by decide +kernel)
set_option maxRecDepth 100000 in
theorem k_1015 : (.code ⟨"CodeGateModel", "lengthOf", "(I)I"⟩ prog_9_method_47_code 1 (Option.some Jvm.ClassFile.FieldType.int) : Cond) ∈ tb := tb_in 1015 rfl rfl
theorem k_1016 : (.methodLink "CodeGateModel" 305 ⟨"CodeGateModel", "plain", "(II)V"⟩ : Cond) ∈ tb := tb_in 1016 (by decide +kernel) (by decide +kernel)
theorem k_1018 : (.instanceMethod ⟨"CodeGateModel", "plain", "(II)V"⟩ : Cond) ∈ tb := tb_in 1018 (by decide +kernel) (by decide +kernel)
set_option maxRecDepth 100000 in
theorem k_1019 : (.code ⟨"CodeGateModel", "plain", "(II)V"⟩ prog_9_method_56_code 6 (Option.none : Option Jvm.ClassFile.FieldType) : Cond) ∈ tb := tb_in 1019 rfl rfl
theorem k_1020 : (.methodLink "CodeGateModel" 310 ⟨"CodeGateModel", "invoke", "(III)V"⟩ : Cond) ∈ tb := tb_in 1020 (by decide +kernel) (by decide +kernel)
theorem k_1022 : (.instanceMethod ⟨"CodeGateModel", "invoke", "(III)V"⟩ : Cond) ∈ tb := tb_in 1022 (by decide +kernel) (by decide +kernel)
set_option maxRecDepth 100000 in
theorem k_1023 : (.code ⟨"CodeGateModel", "invoke", "(III)V"⟩ prog_9_method_57_code 6 (Option.none : Option Jvm.ClassFile.FieldType) : Cond) ∈ tb := tb_in 1023 rfl rfl
theorem k_1024 : (.methodLink "CodeGateModel" 273 ⟨"CodeGateModel", "after", "(I)I"⟩ : Cond) ∈ tb := tb_in 1024 (by decide +kernel) (by decide +kernel)
theorem k_1026 : (.instanceMethod ⟨"CodeGateModel", "after", "(I)I"⟩ : Cond) ∈ tb := tb_in 1026 (by decide +kernel) (by decide +kernel)
set_option maxRecDepth 100000 in
theorem k_1027 : (.code ⟨"CodeGateModel", "after", "(I)I"⟩ prog_9_method_51_code 4 (Option.some Jvm.ClassFile.FieldType.int) : Cond) ∈ tb := tb_in 1027 rfl rfl
theorem k_1028 : (.methodLink "CodeGateModel" 270 ⟨"CodeGateModel", "targets", "(I)V"⟩ : Cond) ∈ tb := tb_in 1028 (by decide +kernel) (by decide +kernel)
theorem k_1030 : (.instanceMethod ⟨"CodeGateModel", "targets", "(I)V"⟩ : Cond) ∈ tb := tb_in 1030 (by decide +kernel) (by decide +kernel)
set_option maxRecDepth 100000 in
theorem k_1031 : (.code ⟨"CodeGateModel", "targets", "(I)V"⟩ prog_9_method_59_code 8 (Option.none : Option Jvm.ClassFile.FieldType) : Cond) ∈ tb := tb_in 1031 rfl rfl
theorem k_1032 : (.methodLink "CodeGateModel" 313 ⟨"CodeGateModel", "target", "(IJ)V"⟩ : Cond) ∈ tb := tb_in 1032 (by decide +kernel) (by decide +kernel)
theorem k_1034 : (.instanceMethod ⟨"CodeGateModel", "target", "(IJ)V"⟩ : Cond) ∈ tb := tb_in 1034 (by decide +kernel) (by decide +kernel)
set_option maxRecDepth 100000 in
theorem k_1035 : (.code ⟨"CodeGateModel", "target", "(IJ)V"⟩ prog_9_method_58_code 4 (Option.none : Option Jvm.ClassFile.FieldType) : Cond) ∈ tb := tb_in 1035 rfl rfl
theorem k_1036 : (.methodLink "CodeGateModel" 276 ⟨"CodeGateModel", "handlers", "()V"⟩ : Cond) ∈ tb := tb_in 1036 (by decide +kernel) (by decide +kernel)
theorem k_1038 : (.instanceMethod ⟨"CodeGateModel", "handlers", "()V"⟩ : Cond) ∈ tb := tb_in 1038 (by decide +kernel) (by decide +kernel)
set_option maxRecDepth 100000 in
theorem k_1039 : (.code ⟨"CodeGateModel", "handlers", "()V"⟩ prog_9_method_45_code 11 (Option.none : Option Jvm.ClassFile.FieldType) : Cond) ∈ tb := tb_in 1039 rfl rfl
theorem k_1040 : (.methodLink "CodeGateModel" 160 ⟨"CodeGateModel", "methods", "()V"⟩ : Cond) ∈ tb := tb_in 1040 (by decide +kernel) (by decide +kernel)
theorem k_1042 : (.instanceMethod ⟨"CodeGateModel", "methods", "()V"⟩ : Cond) ∈ tb := tb_in 1042 (by decide +kernel) (by decide +kernel)
set_option maxRecDepth 100000 in
theorem k_1043 : (.code ⟨"CodeGateModel", "methods", "()V"⟩ prog_9_method_40_code 12 (Option.none : Option Jvm.ClassFile.FieldType) : Cond) ∈ tb := tb_in 1043 rfl rfl
theorem k_1044 : (.constantLong "CodeGateModel" 223 2632022 : Cond) ∈ tb := tb_in 1044 (by decide +kernel) (by decide +kernel)
theorem k_1045 : (.methodLink "CodeGateLaw" 40 ⟨"CodeGateModel", "rule", "()I"⟩ : Cond) ∈ tb := tb_in 1045 (by decide +kernel) (by decide +kernel)
theorem k_1046 : (.instanceMethod ⟨"CodeGateModel", "rule", "()I"⟩ : Cond) ∈ tb := tb_in 1046 (by decide +kernel) (by decide +kernel)
theorem k_1047 : (.selects "CodeGateModel" ⟨"CodeGateModel", "rule", "()I"⟩ ⟨"CodeGateModel", "rule", "()I"⟩ : Cond) ∈ tb := tb_in 1047 (by decide +kernel) (by decide +kernel)
set_option maxRecDepth 100000 in
theorem k_1048 : (.code ⟨"CodeGateModel", "rule", "()I"⟩ prog_9_method_61_code 1 (Option.some Jvm.ClassFile.FieldType.int) : Cond) ∈ tb := tb_in 1048 rfl rfl
theorem k_1049 : (.methodLink "CodeGateLaw" 44 ⟨"CodeGateModel", "told", "(I)I"⟩ : Cond) ∈ tb := tb_in 1049 (by decide +kernel) (by decide +kernel)
theorem k_1050 : (.instanceMethod ⟨"CodeGateModel", "told", "(I)I"⟩ : Cond) ∈ tb := tb_in 1050 (by decide +kernel) (by decide +kernel)
theorem k_1051 : (.selects "CodeGateModel" ⟨"CodeGateModel", "told", "(I)I"⟩ ⟨"CodeGateModel", "told", "(I)I"⟩ : Cond) ∈ tb := tb_in 1051 (by decide +kernel) (by decide +kernel)
set_option maxRecDepth 100000 in
theorem k_1052 : (.code ⟨"CodeGateModel", "told", "(I)I"⟩ prog_9_method_62_code 2 (Option.some Jvm.ClassFile.FieldType.int) : Cond) ∈ tb := tb_in 1052 rfl rfl
theorem k_1053 : (.methodLink "CodeGateLaw" 48 ⟨"CodeGateModel", "method", "(II)I"⟩ : Cond) ∈ tb := tb_in 1053 (by decide +kernel) (by decide +kernel)
theorem k_1054 : (.instanceMethod ⟨"CodeGateModel", "method", "(II)I"⟩ : Cond) ∈ tb := tb_in 1054 (by decide +kernel) (by decide +kernel)
theorem k_1055 : (.selects "CodeGateModel" ⟨"CodeGateModel", "method", "(II)I"⟩ ⟨"CodeGateModel", "method", "(II)I"⟩ : Cond) ∈ tb := tb_in 1055 (by decide +kernel) (by decide +kernel)
set_option maxRecDepth 100000 in
theorem k_1056 : (.code ⟨"CodeGateModel", "method", "(II)I"⟩ prog_9_method_63_code 3 (Option.some Jvm.ClassFile.FieldType.int) : Cond) ∈ tb := tb_in 1056 rfl rfl
theorem k_1057 : (.methodLink "CodeGateLaw" 52 ⟨"CodeGateModel", "entry", "(I)I"⟩ : Cond) ∈ tb := tb_in 1057 (by decide +kernel) (by decide +kernel)
theorem k_1058 : (.instanceMethod ⟨"CodeGateModel", "entry", "(I)I"⟩ : Cond) ∈ tb := tb_in 1058 (by decide +kernel) (by decide +kernel)
theorem k_1059 : (.selects "CodeGateModel" ⟨"CodeGateModel", "entry", "(I)I"⟩ ⟨"CodeGateModel", "entry", "(I)I"⟩ : Cond) ∈ tb := tb_in 1059 (by decide +kernel) (by decide +kernel)
set_option maxRecDepth 100000 in
theorem k_1060 : (.code ⟨"CodeGateModel", "entry", "(I)I"⟩ prog_9_method_64_code 2 (Option.some Jvm.ClassFile.FieldType.int) : Cond) ∈ tb := tb_in 1060 rfl rfl
theorem k_1061 : (.methodLink "CodeGateLaw" 56 ⟨"CodeGateModel", "guarded", "(I)I"⟩ : Cond) ∈ tb := tb_in 1061 (by decide +kernel) (by decide +kernel)
theorem k_1062 : (.instanceMethod ⟨"CodeGateModel", "guarded", "(I)I"⟩ : Cond) ∈ tb := tb_in 1062 (by decide +kernel) (by decide +kernel)
theorem k_1063 : (.selects "CodeGateModel" ⟨"CodeGateModel", "guarded", "(I)I"⟩ ⟨"CodeGateModel", "guarded", "(I)I"⟩ : Cond) ∈ tb := tb_in 1063 (by decide +kernel) (by decide +kernel)
set_option maxRecDepth 100000 in
theorem k_1064 : (.code ⟨"CodeGateModel", "guarded", "(I)I"⟩ prog_9_method_65_code 4 (Option.some Jvm.ClassFile.FieldType.int) : Cond) ∈ tb := tb_in 1064 rfl rfl
theorem k_1065 : (.methodLink "CodeGateLaw" 60 ⟨"CodeGateModel", "beginnings", "()I"⟩ : Cond) ∈ tb := tb_in 1065 (by decide +kernel) (by decide +kernel)
theorem k_1066 : (.instanceMethod ⟨"CodeGateModel", "beginnings", "()I"⟩ : Cond) ∈ tb := tb_in 1066 (by decide +kernel) (by decide +kernel)
theorem k_1067 : (.selects "CodeGateModel" ⟨"CodeGateModel", "beginnings", "()I"⟩ ⟨"CodeGateModel", "beginnings", "()I"⟩ : Cond) ∈ tb := tb_in 1067 (by decide +kernel) (by decide +kernel)
set_option maxRecDepth 100000 in
theorem k_1068 : (.code ⟨"CodeGateModel", "beginnings", "()I"⟩ prog_9_method_66_code 3 (Option.some Jvm.ClassFile.FieldType.int) : Cond) ∈ tb := tb_in 1068 rfl rfl
theorem k_1069 : (.fieldLink "java/lang/String" 9 "java/lang/String" "value" "[B" : Cond) ∈ tb := tb_in 1069 (by decide +kernel) (by decide +kernel)
theorem k_1070 : (.fieldLink "java/lang/String" 15 "java/lang/String" "coder" "B" : Cond) ∈ tb := tb_in 1070 (by decide +kernel) (by decide +kernel)
theorem ks_0 : (.selects "CodeGate$Gate" ⟨"CodeGate$Gate", "readHead", "()V"⟩ ⟨"CodeGate$Gate", "readHead", "()V"⟩ : Cond) ∈ tb := tb_sel 0 (by decide +kernel) (by decide +kernel)
theorem ks_1 : (.selects "CodeGate$Pool" ⟨"CodeGate$Pool", "readEntry", "(I)V"⟩ ⟨"CodeGate$Pool", "readEntry", "(I)V"⟩ : Cond) ∈ tb := tb_sel 1 (by decide +kernel) (by decide +kernel)
theorem ks_2 : (.selects "CodeGate$Pool" ⟨"CodeGate$Pool", "clear", "(II)V"⟩ ⟨"CodeGate$Pool", "clear", "(II)V"⟩ : Cond) ∈ tb := tb_sel 2 (by decide +kernel) (by decide +kernel)
theorem ks_3 : (.selects "CodeGate$Pool" ⟨"CodeGate$Pool", "readText", "(I)V"⟩ ⟨"CodeGate$Pool", "readText", "(I)V"⟩ : Cond) ∈ tb := tb_sel 3 (by decide +kernel) (by decide +kernel)
theorem ks_4 : (.selects "CodeGate$Pool" ⟨"CodeGate$Pool", "noteText", "(I)V"⟩ ⟨"CodeGate$Pool", "noteText", "(I)V"⟩ : Cond) ∈ tb := tb_sel 4 (by decide +kernel) (by decide +kernel)
theorem ks_5 : (.selects "CodeGate$Pool" ⟨"CodeGate$Pool", "within", "(I)Z"⟩ ⟨"CodeGate$Pool", "within", "(I)Z"⟩ : Cond) ∈ tb := tb_sel 5 (by decide +kernel) (by decide +kernel)
theorem ks_6 : (.selects "CodeGate$Words" ⟨"CodeGate$Words", "methodFacts", "(II)I"⟩ ⟨"CodeGate$Words", "methodFacts", "(II)I"⟩ : Cond) ∈ tb := tb_sel 6 (by decide +kernel) (by decide +kernel)
theorem ks_7 : (.selects "CodeGate$Words" ⟨"CodeGate$Words", "typeEnd", "(II)I"⟩ ⟨"CodeGate$Words", "typeEnd", "(II)I"⟩ : Cond) ∈ tb := tb_sel 7 (by decide +kernel) (by decide +kernel)
theorem ks_8 : (.selects "CodeGate$Words" ⟨"CodeGate$Words", "slotsBetween", "(II)I"⟩ ⟨"CodeGate$Words", "slotsBetween", "(II)I"⟩ : Cond) ∈ tb := tb_sel 8 (by decide +kernel) (by decide +kernel)
theorem ks_9 : (.selects "CodeGate$Words" ⟨"CodeGate$Words", "floatFacts", "(I)I"⟩ ⟨"CodeGate$Words", "floatFacts", "(I)I"⟩ : Cond) ∈ tb := tb_sel 9 (by decide +kernel) (by decide +kernel)
theorem ks_10 : (.selects "CodeGate$Pool" ⟨"CodeGate$Pool", "linkClass", "(I)V"⟩ ⟨"CodeGate$Pool", "linkClass", "(I)V"⟩ : Cond) ∈ tb := tb_sel 10 (by decide +kernel) (by decide +kernel)
theorem ks_11 : (.selects "CodeGate$Pool" ⟨"CodeGate$Pool", "refer", "(II)I"⟩ ⟨"CodeGate$Pool", "refer", "(II)I"⟩ : Cond) ∈ tb := tb_sel 11 (by decide +kernel) (by decide +kernel)
theorem ks_12 : (.selects "CodeGate$Pool" ⟨"CodeGate$Pool", "bracketsOf", "(I)I"⟩ ⟨"CodeGate$Pool", "bracketsOf", "(I)I"⟩ : Cond) ∈ tb := tb_sel 12 (by decide +kernel) (by decide +kernel)
theorem ks_13 : (.selects "CodeGate$Pool" ⟨"CodeGate$Pool", "linkNamed", "(I)V"⟩ ⟨"CodeGate$Pool", "linkNamed", "(I)V"⟩ : Cond) ∈ tb := tb_sel 13 (by decide +kernel) (by decide +kernel)
theorem ks_14 : (.selects "CodeGate$Pool" ⟨"CodeGate$Pool", "linkMember", "(I)V"⟩ ⟨"CodeGate$Pool", "linkMember", "(I)V"⟩ : Cond) ∈ tb := tb_sel 14 (by decide +kernel) (by decide +kernel)
theorem ks_15 : (.selects "CodeGate$Gate" ⟨"CodeGate$Gate", "readClass", "()V"⟩ ⟨"CodeGate$Gate", "readClass", "()V"⟩ : Cond) ∈ tb := tb_sel 15 (by decide +kernel) (by decide +kernel)
theorem ks_16 : (.selects "CodeGate$Gate" ⟨"CodeGate$Gate", "takeClassText", "()I"⟩ ⟨"CodeGate$Gate", "takeClassText", "()I"⟩ : Cond) ∈ tb := tb_sel 16 (by decide +kernel) (by decide +kernel)
theorem ks_17 : (.selects "CodeGate$Gate" ⟨"CodeGate$Gate", "readCount", "(I)I"⟩ ⟨"CodeGate$Gate", "readCount", "(I)I"⟩ : Cond) ∈ tb := tb_sel 17 (by decide +kernel) (by decide +kernel)
theorem ks_18 : (.selects "CodeGate$Gate" ⟨"CodeGate$Gate", "readInterface", "(I)V"⟩ ⟨"CodeGate$Gate", "readInterface", "(I)V"⟩ : Cond) ∈ tb := tb_sel 18 (by decide +kernel) (by decide +kernel)
theorem ks_19 : (.selects "CodeGate$Gate" ⟨"CodeGate$Gate", "readField", "(I)V"⟩ ⟨"CodeGate$Gate", "readField", "(I)V"⟩ : Cond) ∈ tb := tb_sel 19 (by decide +kernel) (by decide +kernel)
theorem ks_20 : (.selects "CodeGate$Gate" ⟨"CodeGate$Gate", "fieldFlagsHold", "(I)Z"⟩ ⟨"CodeGate$Gate", "fieldFlagsHold", "(I)Z"⟩ : Cond) ∈ tb := tb_sel 20 (by decide +kernel) (by decide +kernel)
theorem ks_21 : (.selects "CodeGate$Gate" ⟨"CodeGate$Gate", "addMember", "(II)V"⟩ ⟨"CodeGate$Gate", "addMember", "(II)V"⟩ : Cond) ∈ tb := tb_sel 21 (by decide +kernel) (by decide +kernel)
theorem ks_22 : (.selects "CodeGate$Gate" ⟨"CodeGate$Gate", "readAttributes", "(I)I"⟩ ⟨"CodeGate$Gate", "readAttributes", "(I)I"⟩ : Cond) ∈ tb := tb_sel 22 (by decide +kernel) (by decide +kernel)
theorem ks_23 : (.selects "CodeGate$Gate" ⟨"CodeGate$Gate", "attributeOf", "(I)I"⟩ ⟨"CodeGate$Gate", "attributeOf", "(I)I"⟩ : Cond) ∈ tb := tb_sel 23 (by decide +kernel) (by decide +kernel)
theorem ks_24 : (.selects "CodeGate$Gate" ⟨"CodeGate$Gate", "leastLocals", "()I"⟩ ⟨"CodeGate$Gate", "leastLocals", "()I"⟩ : Cond) ∈ tb := tb_sel 24 (by decide +kernel) (by decide +kernel)
theorem ks_25 : (.selects "CodeGate$Code" ⟨"CodeGate$Code", "readSizes", "(I)V"⟩ ⟨"CodeGate$Code", "readSizes", "(I)V"⟩ : Cond) ∈ tb := tb_sel 25 (by decide +kernel) (by decide +kernel)
theorem ks_26 : (.selects "CodeGate$Code" ⟨"CodeGate$Code", "step", "(I)I"⟩ ⟨"CodeGate$Code", "step", "(I)I"⟩ : Cond) ∈ tb := tb_sel 26 (by decide +kernel) (by decide +kernel)
theorem ks_27 : (.selects "CodeGate$Code" ⟨"CodeGate$Code", "stepTable", "(I)I"⟩ ⟨"CodeGate$Code", "stepTable", "(I)I"⟩ : Cond) ∈ tb := tb_sel 27 (by decide +kernel) (by decide +kernel)
theorem ks_28 : (.selects "CodeGate$Code" ⟨"CodeGate$Code", "pastPadding", "(I)I"⟩ ⟨"CodeGate$Code", "pastPadding", "(I)I"⟩ : Cond) ∈ tb := tb_sel 28 (by decide +kernel) (by decide +kernel)
theorem ks_29 : (.selects "CodeGate$Code" ⟨"CodeGate$Code", "switchNumber", "(II)I"⟩ ⟨"CodeGate$Code", "switchNumber", "(II)I"⟩ : Cond) ∈ tb := tb_sel 29 (by decide +kernel) (by decide +kernel)
theorem ks_30 : (.selects "CodeGate$Code" ⟨"CodeGate$Code", "addJump", "(II)V"⟩ ⟨"CodeGate$Code", "addJump", "(II)V"⟩ : Cond) ∈ tb := tb_sel 30 (by decide +kernel) (by decide +kernel)
theorem ks_31 : (.selects "CodeGate$Code" ⟨"CodeGate$Code", "stepPairs", "(I)I"⟩ ⟨"CodeGate$Code", "stepPairs", "(I)I"⟩ : Cond) ∈ tb := tb_sel 31 (by decide +kernel) (by decide +kernel)
theorem ks_32 : (.selects "CodeGate$Code" ⟨"CodeGate$Code", "stepWide", "(I)I"⟩ ⟨"CodeGate$Code", "stepWide", "(I)I"⟩ : Cond) ∈ tb := tb_sel 32 (by decide +kernel) (by decide +kernel)
theorem ks_33 : (.selects "CodeGate$Code" ⟨"CodeGate$Code", "stepFixed", "(III)I"⟩ ⟨"CodeGate$Code", "stepFixed", "(III)I"⟩ : Cond) ∈ tb := tb_sel 33 (by decide +kernel) (by decide +kernel)
theorem ks_34 : (.selects "CodeGate$Code" ⟨"CodeGate$Code", "kindFits", "(III)Z"⟩ ⟨"CodeGate$Code", "kindFits", "(III)Z"⟩ : Cond) ∈ tb := tb_sel 34 (by decide +kernel) (by decide +kernel)
theorem ks_35 : (.selects "CodeGate$Code" ⟨"CodeGate$Code", "restFits", "(IIII)Z"⟩ ⟨"CodeGate$Code", "restFits", "(IIII)Z"⟩ : Cond) ∈ tb := tb_sel 35 (by decide +kernel) (by decide +kernel)
theorem ks_36 : (.selects "CodeGate$Code" ⟨"CodeGate$Code", "isFirst", "(I)Z"⟩ ⟨"CodeGate$Code", "isFirst", "(I)Z"⟩ : Cond) ∈ tb := tb_sel 36 (by decide +kernel) (by decide +kernel)
theorem ks_37 : (.selects "CodeGate$Code" ⟨"CodeGate$Code", "readRows", "()V"⟩ ⟨"CodeGate$Code", "readRows", "()V"⟩ : Cond) ∈ tb := tb_sel 37 (by decide +kernel) (by decide +kernel)
theorem ks_38 : (.selects "CodeGate$Gate" ⟨"CodeGate$Gate", "readConstant", "()V"⟩ ⟨"CodeGate$Gate", "readConstant", "()V"⟩ : Cond) ∈ tb := tb_sel 38 (by decide +kernel) (by decide +kernel)
theorem ks_39 : (.selects "CodeGate$Gate" ⟨"CodeGate$Gate", "constantKind", "()I"⟩ ⟨"CodeGate$Gate", "constantKind", "()I"⟩ : Cond) ∈ tb := tb_sel 39 (by decide +kernel) (by decide +kernel)
theorem ks_40 : (.selects "CodeGate$Gate" ⟨"CodeGate$Gate", "readExceptions", "()V"⟩ ⟨"CodeGate$Gate", "readExceptions", "()V"⟩ : Cond) ∈ tb := tb_sel 40 (by decide +kernel) (by decide +kernel)
theorem ks_41 : (.selects "CodeGate$Gate" ⟨"CodeGate$Gate", "clearCodeTallies", "()V"⟩ ⟨"CodeGate$Gate", "clearCodeTallies", "()V"⟩ : Cond) ∈ tb := tb_sel 41 (by decide +kernel) (by decide +kernel)
theorem ks_42 : (.selects "CodeGate$Gate" ⟨"CodeGate$Gate", "readMethod", "(I)V"⟩ ⟨"CodeGate$Gate", "readMethod", "(I)V"⟩ : Cond) ∈ tb := tb_sel 42 (by decide +kernel) (by decide +kernel)
theorem ks_43 : (.selects "CodeGate$Gate" ⟨"CodeGate$Gate", "methodFlagsHold", "(I)Z"⟩ ⟨"CodeGate$Gate", "methodFlagsHold", "(I)Z"⟩ : Cond) ∈ tb := tb_sel 43 (by decide +kernel) (by decide +kernel)
theorem ks_44 : (.selects "CodeGate$Gate" ⟨"CodeGate$Gate", "specialNameHolds", "(I)Z"⟩ ⟨"CodeGate$Gate", "specialNameHolds", "(I)Z"⟩ : Cond) ∈ tb := tb_sel 44 (by decide +kernel) (by decide +kernel)
theorem ks_45 : (.selects "CodeGate$Gate" ⟨"CodeGate$Gate", "noteMethod", "(IZ)V"⟩ ⟨"CodeGate$Gate", "noteMethod", "(IZ)V"⟩ : Cond) ∈ tb := tb_sel 45 (by decide +kernel) (by decide +kernel)
theorem ks_46 : (.selects "CodeGateModel" ⟨"CodeGateModel", "go", "(I)V"⟩ ⟨"CodeGateModel", "go", "(I)V"⟩ : Cond) ∈ tb := tb_sel 46 (by decide +kernel) (by decide +kernel)
theorem ks_47 : (.selects "CodeGateModel" ⟨"CodeGateModel", "u4", "()J"⟩ ⟨"CodeGateModel", "u4", "()J"⟩ : Cond) ∈ tb := tb_sel 47 (by decide +kernel) (by decide +kernel)
theorem ks_48 : (.selects "CodeGateModel" ⟨"CodeGateModel", "u2", "()I"⟩ ⟨"CodeGateModel", "u2", "()I"⟩ : Cond) ∈ tb := tb_sel 48 (by decide +kernel) (by decide +kernel)
theorem ks_49 : (.selects "CodeGateModel" ⟨"CodeGateModel", "u1", "()I"⟩ ⟨"CodeGateModel", "u1", "()I"⟩ : Cond) ∈ tb := tb_sel 49 (by decide +kernel) (by decide +kernel)
theorem ks_50 : (.selects "CodeGateModel" ⟨"CodeGateModel", "ok", "()Z"⟩ ⟨"CodeGateModel", "ok", "()Z"⟩ : Cond) ∈ tb := tb_sel 50 (by decide +kernel) (by decide +kernel)
theorem ks_51 : (.selects "CodeGateModel" ⟨"CodeGateModel", "fails", "(II)Z"⟩ ⟨"CodeGateModel", "fails", "(II)Z"⟩ : Cond) ∈ tb := tb_sel 51 (by decide +kernel) (by decide +kernel)
theorem ks_52 : (.selects "CodeGateModel" ⟨"CodeGateModel", "must", "(ZII)Z"⟩ ⟨"CodeGateModel", "must", "(ZII)Z"⟩ : Cond) ∈ tb := tb_sel 52 (by decide +kernel) (by decide +kernel)
theorem ks_53 : (.selects "CodeGateModel" ⟨"CodeGateModel", "pool", "()V"⟩ ⟨"CodeGateModel", "pool", "()V"⟩ : Cond) ∈ tb := tb_sel 53 (by decide +kernel) (by decide +kernel)
theorem ks_54 : (.selects "CodeGateModel" ⟨"CodeGateModel", "text", "()V"⟩ ⟨"CodeGateModel", "text", "()V"⟩ : Cond) ∈ tb := tb_sel 54 (by decide +kernel) (by decide +kernel)
theorem ks_55 : (.selects "CodeGateModel" ⟨"CodeGateModel", "refer", "()V"⟩ ⟨"CodeGateModel", "refer", "()V"⟩ : Cond) ∈ tb := tb_sel 55 (by decide +kernel) (by decide +kernel)
theorem ks_56 : (.selects "CodeGateModel" ⟨"CodeGateModel", "two", "(I)I"⟩ ⟨"CodeGateModel", "two", "(I)I"⟩ : Cond) ∈ tb := tb_sel 56 (by decide +kernel) (by decide +kernel)
theorem ks_57 : (.selects "CodeGateModel" ⟨"CodeGateModel", "isKind", "(II)Z"⟩ ⟨"CodeGateModel", "isKind", "(II)Z"⟩ : Cond) ∈ tb := tb_sel 57 (by decide +kernel) (by decide +kernel)
theorem ks_58 : (.selects "CodeGateModel" ⟨"CodeGateModel", "letter", "(II)I"⟩ ⟨"CodeGateModel", "letter", "(II)I"⟩ : Cond) ∈ tb := tb_sel 58 (by decide +kernel) (by decide +kernel)
theorem ks_59 : (.selects "CodeGateModel" ⟨"CodeGateModel", "textSize", "(I)I"⟩ ⟨"CodeGateModel", "textSize", "(I)I"⟩ : Cond) ∈ tb := tb_sel 59 (by decide +kernel) (by decide +kernel)
theorem ks_60 : (.selects "CodeGateModel" ⟨"CodeGateModel", "textAt", "(I)I"⟩ ⟨"CodeGateModel", "textAt", "(I)I"⟩ : Cond) ∈ tb := tb_sel 60 (by decide +kernel) (by decide +kernel)
theorem ks_61 : (.selects "CodeGateModel" ⟨"CodeGateModel", "isField", "(I)Z"⟩ ⟨"CodeGateModel", "isField", "(I)Z"⟩ : Cond) ∈ tb := tb_sel 61 (by decide +kernel) (by decide +kernel)
theorem ks_62 : (.selects "CodeGateModel" ⟨"CodeGateModel", "typeEnd", "(II)I"⟩ ⟨"CodeGateModel", "typeEnd", "(II)I"⟩ : Cond) ∈ tb := tb_sel 62 (by decide +kernel) (by decide +kernel)
theorem ks_63 : (.selects "CodeGateModel" ⟨"CodeGateModel", "classEnd", "(II)I"⟩ ⟨"CodeGateModel", "classEnd", "(II)I"⟩ : Cond) ∈ tb := tb_sel 63 (by decide +kernel) (by decide +kernel)
theorem ks_64 : (.selects "CodeGateModel" ⟨"CodeGateModel", "isClassName", "(I)Z"⟩ ⟨"CodeGateModel", "isClassName", "(I)Z"⟩ : Cond) ∈ tb := tb_sel 64 (by decide +kernel) (by decide +kernel)
theorem ks_65 : (.selects "CodeGateModel" ⟨"CodeGateModel", "isPlainName", "(I)Z"⟩ ⟨"CodeGateModel", "isPlainName", "(I)Z"⟩ : Cond) ∈ tb := tb_sel 65 (by decide +kernel) (by decide +kernel)
theorem ks_66 : (.selects "CodeGateModel" ⟨"CodeGateModel", "is", "(IIJJJ)Z"⟩ ⟨"CodeGateModel", "is", "(IIJJJ)Z"⟩ : Cond) ∈ tb := tb_sel 66 (by decide +kernel) (by decide +kernel)
theorem ks_67 : (.selects "CodeGateModel" ⟨"CodeGateModel", "isMethod", "(I)Z"⟩ ⟨"CodeGateModel", "isMethod", "(I)Z"⟩ : Cond) ∈ tb := tb_sel 67 (by decide +kernel) (by decide +kernel)
theorem ks_68 : (.selects "CodeGateModel" ⟨"CodeGateModel", "typeOf", "(I)I"⟩ ⟨"CodeGateModel", "typeOf", "(I)I"⟩ : Cond) ∈ tb := tb_sel 68 (by decide +kernel) (by decide +kernel)
theorem ks_69 : (.selects "CodeGateModel" ⟨"CodeGateModel", "nameOf", "(I)I"⟩ ⟨"CodeGateModel", "nameOf", "(I)I"⟩ : Cond) ∈ tb := tb_sel 69 (by decide +kernel) (by decide +kernel)
theorem ks_70 : (.selects "CodeGateModel" ⟨"CodeGateModel", "isVoid", "(I)Z"⟩ ⟨"CodeGateModel", "isVoid", "(I)Z"⟩ : Cond) ∈ tb := tb_sel 70 (by decide +kernel) (by decide +kernel)
theorem ks_71 : (.selects "CodeGateModel" ⟨"CodeGateModel", "head", "()V"⟩ ⟨"CodeGateModel", "head", "()V"⟩ : Cond) ∈ tb := tb_sel 71 (by decide +kernel) (by decide +kernel)
theorem ks_72 : (.selects "CodeGateModel" ⟨"CodeGateModel", "number", "(I)I"⟩ ⟨"CodeGateModel", "number", "(I)I"⟩ : Cond) ∈ tb := tb_sel 72 (by decide +kernel) (by decide +kernel)
theorem ks_73 : (.selects "CodeGateModel" ⟨"CodeGateModel", "isArray", "(I)Z"⟩ ⟨"CodeGateModel", "isArray", "(I)Z"⟩ : Cond) ∈ tb := tb_sel 73 (by decide +kernel) (by decide +kernel)
theorem ks_74 : (.selects "CodeGateModel" ⟨"CodeGateModel", "textOf", "(I)I"⟩ ⟨"CodeGateModel", "textOf", "(I)I"⟩ : Cond) ∈ tb := tb_sel 74 (by decide +kernel) (by decide +kernel)
theorem ks_75 : (.selects "CodeGateModel" ⟨"CodeGateModel", "same", "(II)Z"⟩ ⟨"CodeGateModel", "same", "(II)Z"⟩ : Cond) ∈ tb := tb_sel 75 (by decide +kernel) (by decide +kernel)
theorem ks_76 : (.selects "CodeGateModel" ⟨"CodeGateModel", "fields", "()V"⟩ ⟨"CodeGateModel", "fields", "()V"⟩ : Cond) ∈ tb := tb_sel 76 (by decide +kernel) (by decide +kernel)
theorem ks_77 : (.selects "CodeGateModel" ⟨"CodeGateModel", "attributes", "(IIII)V"⟩ ⟨"CodeGateModel", "attributes", "(IIII)V"⟩ : Cond) ∈ tb := tb_sel 77 (by decide +kernel) (by decide +kernel)
theorem ks_78 : (.selects "CodeGateModel" ⟨"CodeGateModel", "thrown", "(I)V"⟩ ⟨"CodeGateModel", "thrown", "(I)V"⟩ : Cond) ∈ tb := tb_sel 78 (by decide +kernel) (by decide +kernel)
theorem ks_79 : (.selects "CodeGateModel" ⟨"CodeGateModel", "value", "(I)V"⟩ ⟨"CodeGateModel", "value", "(I)V"⟩ : Cond) ∈ tb := tb_sel 79 (by decide +kernel) (by decide +kernel)
theorem ks_80 : (.selects "CodeGateModel" ⟨"CodeGateModel", "code", "(II)V"⟩ ⟨"CodeGateModel", "code", "(II)V"⟩ : Cond) ∈ tb := tb_sel 80 (by decide +kernel) (by decide +kernel)
theorem ks_81 : (.selects "CodeGateModel" ⟨"CodeGateModel", "instruction", "()V"⟩ ⟨"CodeGateModel", "instruction", "()V"⟩ : Cond) ∈ tb := tb_sel 81 (by decide +kernel) (by decide +kernel)
theorem ks_82 : (.selects "CodeGateModel" ⟨"CodeGateModel", "byteOf", "(I)I"⟩ ⟨"CodeGateModel", "byteOf", "(I)I"⟩ : Cond) ∈ tb := tb_sel 82 (by decide +kernel) (by decide +kernel)
theorem ks_83 : (.selects "CodeGateModel" ⟨"CodeGateModel", "branches", "(IZ)V"⟩ ⟨"CodeGateModel", "branches", "(IZ)V"⟩ : Cond) ∈ tb := tb_sel 83 (by decide +kernel) (by decide +kernel)
theorem ks_84 : (.selects "CodeGateModel" ⟨"CodeGateModel", "numbersOf", "(I)I"⟩ ⟨"CodeGateModel", "numbersOf", "(I)I"⟩ : Cond) ∈ tb := tb_sel 84 (by decide +kernel) (by decide +kernel)
theorem ks_85 : (.selects "CodeGateModel" ⟨"CodeGateModel", "isThere", "(II)Z"⟩ ⟨"CodeGateModel", "isThere", "(II)Z"⟩ : Cond) ∈ tb := tb_sel 85 (by decide +kernel) (by decide +kernel)
theorem ks_86 : (.selects "CodeGateModel" ⟨"CodeGateModel", "four", "(I)I"⟩ ⟨"CodeGateModel", "four", "(I)I"⟩ : Cond) ∈ tb := tb_sel 86 (by decide +kernel) (by decide +kernel)
theorem ks_87 : (.selects "CodeGateModel" ⟨"CodeGateModel", "local", "(III)V"⟩ ⟨"CodeGateModel", "local", "(III)V"⟩ : Cond) ∈ tb := tb_sel 87 (by decide +kernel) (by decide +kernel)
theorem ks_88 : (.selects "CodeGateModel" ⟨"CodeGateModel", "plain", "(II)V"⟩ ⟨"CodeGateModel", "plain", "(II)V"⟩ : Cond) ∈ tb := tb_sel 88 (by decide +kernel) (by decide +kernel)
theorem ks_89 : (.selects "CodeGateModel" ⟨"CodeGateModel", "invoke", "(III)V"⟩ ⟨"CodeGateModel", "invoke", "(III)V"⟩ : Cond) ∈ tb := tb_sel 89 (by decide +kernel) (by decide +kernel)
theorem ks_90 : (.selects "CodeGateModel" ⟨"CodeGateModel", "after", "(I)I"⟩ ⟨"CodeGateModel", "after", "(I)I"⟩ : Cond) ∈ tb := tb_sel 90 (by decide +kernel) (by decide +kernel)
theorem ks_91 : (.selects "CodeGateModel" ⟨"CodeGateModel", "targets", "(I)V"⟩ ⟨"CodeGateModel", "targets", "(I)V"⟩ : Cond) ∈ tb := tb_sel 91 (by decide +kernel) (by decide +kernel)
theorem ks_92 : (.selects "CodeGateModel" ⟨"CodeGateModel", "target", "(IJ)V"⟩ ⟨"CodeGateModel", "target", "(IJ)V"⟩ : Cond) ∈ tb := tb_sel 92 (by decide +kernel) (by decide +kernel)
theorem ks_93 : (.selects "CodeGateModel" ⟨"CodeGateModel", "handlers", "()V"⟩ ⟨"CodeGateModel", "handlers", "()V"⟩ : Cond) ∈ tb := tb_sel 93 (by decide +kernel) (by decide +kernel)
theorem ks_94 : (.selects "CodeGateModel" ⟨"CodeGateModel", "methods", "()V"⟩ ⟨"CodeGateModel", "methods", "()V"⟩ : Cond) ∈ tb := tb_sel 94 (by decide +kernel) (by decide +kernel)
theorem wd_X_feed : wdV y_X_feed prog_1_method_2_code 8 (Option.some Jvm.ClassFile.FieldType.int) 5 := ⟨k_242, k_240, k_241, k_1, by decide +kernel, by decide +kernel, by decide +kernel⟩
theorem wd_W_append : wdV y_W_append prog_6_method_2_code 2 (Option.none : Option Jvm.ClassFile.FieldType) 1 := ⟨k_246, k_244, k_245, k_2, by decide +kernel, by decide +kernel, by decide +kernel⟩
theorem wd_X_cut : wdV y_X_cut prog_1_method_3_code 2 (Option.some Jvm.ClassFile.FieldType.int) 1 := ⟨k_250, k_248, k_249, k_1, by decide +kernel, by decide +kernel, by decide +kernel⟩
theorem wd_X_turn : wdV y_X_turn prog_1_method_4_code 3 (Option.some Jvm.ClassFile.FieldType.int) 2 := ⟨k_254, k_252, k_253, k_1, by decide +kernel, by decide +kernel, by decide +kernel⟩
theorem wd_W_flip : wdV y_W_flip prog_6_method_3_code 3 (Option.none : Option Jvm.ClassFile.FieldType) 2 := ⟨k_258, k_256, k_257, k_2, by decide +kernel, by decide +kernel, by decide +kernel⟩
theorem wd_W_numberAt : wdV y_W_numberAt prog_6_method_7_code 5 (Option.some Jvm.ClassFile.FieldType.int) 2 := ⟨k_262, k_260, k_261, k_2, by decide +kernel, by decide +kernel, by decide +kernel⟩
theorem wd_X_byteAt : wdV y_X_byteAt prog_1_method_5_code 2 (Option.some Jvm.ClassFile.FieldType.int) 1 := ⟨k_266, k_264, k_265, k_1, by decide +kernel, by decide +kernel, by decide +kernel⟩
theorem wd_X_judge : wdV y_X_judge prog_1_method_6_code 1 (Option.some Jvm.ClassFile.FieldType.int) 0 := ⟨k_270, k_268, k_269, k_1, by decide +kernel, by decide +kernel, by decide +kernel⟩
theorem wd_G_passes : wdV y_G_passes prog_3_method_2_code 7 (Option.some Jvm.ClassFile.FieldType.boolean) 0 := ⟨k_274, k_272, k_273, k_3, by decide +kernel, by decide +kernel, by decide +kernel⟩
theorem wd_W_begin : wdV y_W_begin prog_6_method_4_code 1 (Option.none : Option Jvm.ClassFile.FieldType) 0 := ⟨k_278, k_276, k_277, k_2, by decide +kernel, by decide +kernel, by decide +kernel⟩
theorem wd_G_readHead : wdV y_G_readHead prog_3_method_3_code 1 (Option.none : Option Jvm.ClassFile.FieldType) 0 := ⟨k_282, k_281, ks_0, k_3, by decide +kernel, by decide +kernel, by decide +kernel⟩
theorem wd_W_next : wdV y_W_next prog_6_method_8_code 3 (Option.some Jvm.ClassFile.FieldType.int) 1 := ⟨k_286, k_284, k_285, k_2, by decide +kernel, by decide +kernel, by decide +kernel⟩
theorem wd_W_need : wdV y_W_need prog_6_method_6_code 4 (Option.none : Option Jvm.ClassFile.FieldType) 3 := ⟨k_292, k_290, k_291, k_2, by decide +kernel, by decide +kernel, by decide +kernel⟩
theorem wd_P_readEntries : wdV y_P_readEntries prog_4_method_2_code 4 (Option.none : Option Jvm.ClassFile.FieldType) 0 := ⟨k_296, k_294, k_295, k_4, by decide +kernel, by decide +kernel, by decide +kernel⟩
theorem wd_W_sound : wdV y_W_sound prog_6_method_5_code 1 (Option.some Jvm.ClassFile.FieldType.boolean) 0 := ⟨k_302, k_300, k_301, k_2, by decide +kernel, by decide +kernel, by decide +kernel⟩
theorem wd_P_readEntry : wdV y_P_readEntry prog_4_method_4_code 4 (Option.none : Option Jvm.ClassFile.FieldType) 1 := ⟨k_306, k_305, ks_1, k_4, by decide +kernel, by decide +kernel, by decide +kernel⟩
theorem wd_P_clear : wdV y_P_clear prog_4_method_3_code 3 (Option.none : Option Jvm.ClassFile.FieldType) 2 := ⟨k_311, k_310, ks_2, k_4, by decide +kernel, by decide +kernel, by decide +kernel⟩
theorem wd_P_readText : wdV y_P_readText prog_4_method_5_code 11 (Option.none : Option Jvm.ClassFile.FieldType) 1 := ⟨k_315, k_314, ks_3, k_4, by decide +kernel, by decide +kernel, by decide +kernel⟩
theorem wd_P_followers : wdS y_P_followers prog_4_method_6_code 1 (Option.some Jvm.ClassFile.FieldType.int) 1 := ⟨k_318, k_317, k_4, by decide +kernel, by decide +kernel, by decide +kernel⟩
theorem wd_P_noteTexts : wdV y_P_noteTexts prog_4_method_7_code 2 (Option.none : Option Jvm.ClassFile.FieldType) 0 := ⟨k_322, k_320, k_321, k_4, by decide +kernel, by decide +kernel, by decide +kernel⟩
theorem wd_P_noteText : wdV y_P_noteText prog_4_method_8_code 6 (Option.none : Option Jvm.ClassFile.FieldType) 1 := ⟨k_326, k_325, ks_4, k_4, by decide +kernel, by decide +kernel, by decide +kernel⟩
theorem wd_P_firstOf : wdV y_P_firstOf prog_4_method_21_code 2 (Option.some Jvm.ClassFile.FieldType.int) 1 := ⟨k_330, k_328, k_329, k_4, by decide +kernel, by decide +kernel, by decide +kernel⟩
theorem wd_P_within : wdV y_P_within prog_4_method_17_code 2 (Option.some Jvm.ClassFile.FieldType.boolean) 1 := ⟨k_334, k_333, ks_5, k_4, by decide +kernel, by decide +kernel, by decide +kernel⟩
theorem wd_D_typeFacts : wdV y_D_typeFacts prog_7_method_3_code 3 (Option.some Jvm.ClassFile.FieldType.int) 2 := ⟨k_341, k_339, k_340, k_5, by decide +kernel, by decide +kernel, by decide +kernel⟩
theorem wd_D_methodFacts : wdV y_D_methodFacts prog_7_method_6_code 7 (Option.some Jvm.ClassFile.FieldType.int) 2 := ⟨k_345, k_344, ks_6, k_5, by decide +kernel, by decide +kernel, by decide +kernel⟩
theorem wd_D_typeEnd : wdV y_D_typeEnd prog_7_method_7_code 5 (Option.some Jvm.ClassFile.FieldType.int) 2 := ⟨k_349, k_348, ks_7, k_5, by decide +kernel, by decide +kernel, by decide +kernel⟩
theorem wd_D_isSimple : wdS y_D_isSimple prog_7_method_8_code 1 (Option.some Jvm.ClassFile.FieldType.boolean) 1 := ⟨k_352, k_351, k_5, by decide +kernel, by decide +kernel, by decide +kernel⟩
theorem wd_D_nameFacts : wdV y_D_nameFacts prog_7_method_2_code 6 (Option.some Jvm.ClassFile.FieldType.int) 2 := ⟨k_356, k_354, k_355, k_5, by decide +kernel, by decide +kernel, by decide +kernel⟩
theorem wd_D_slotsBetween : wdV y_D_slotsBetween prog_7_method_10_code 3 (Option.some Jvm.ClassFile.FieldType.int) 2 := ⟨k_360, k_359, ks_8, k_5, by decide +kernel, by decide +kernel, by decide +kernel⟩
theorem wd_D_floatFacts : wdV y_D_floatFacts prog_7_method_9_code 2 (Option.some Jvm.ClassFile.FieldType.int) 1 := ⟨k_364, k_363, ks_9, k_5, by decide +kernel, by decide +kernel, by decide +kernel⟩
theorem wd_P_spells : wdV y_P_spells prog_4_method_24_code 4 (Option.some Jvm.ClassFile.FieldType.boolean) 2 := ⟨k_370, k_368, k_369, k_4, by decide +kernel, by decide +kernel, by decide +kernel⟩
theorem wd_D_withoutSlots : wdS y_D_withoutSlots prog_7_method_5_code 1 (Option.some Jvm.ClassFile.FieldType.int) 1 := ⟨k_422, k_421, k_5, by decide +kernel, by decide +kernel, by decide +kernel⟩
theorem wd_D_slotsOf : wdS y_D_slotsOf prog_7_method_4_code 1 (Option.some Jvm.ClassFile.FieldType.int) 1 := ⟨k_425, k_424, k_5, by decide +kernel, by decide +kernel, by decide +kernel⟩
theorem wd_P_readLinks : wdV y_P_readLinks prog_4_method_9_code 2 (Option.none : Option Jvm.ClassFile.FieldType) 0 := ⟨k_429, k_427, k_428, k_4, by decide +kernel, by decide +kernel, by decide +kernel⟩
theorem wd_P_linkClass : wdV y_P_linkClass prog_4_method_10_code 6 (Option.none : Option Jvm.ClassFile.FieldType) 1 := ⟨k_433, k_432, ks_10, k_4, by decide +kernel, by decide +kernel, by decide +kernel⟩
theorem wd_P_refer : wdV y_P_refer prog_4_method_14_code 4 (Option.some Jvm.ClassFile.FieldType.int) 2 := ⟨k_437, k_436, ks_11, k_4, by decide +kernel, by decide +kernel, by decide +kernel⟩
theorem wd_P_kindOf : wdV y_P_kindOf prog_4_method_18_code 2 (Option.some Jvm.ClassFile.FieldType.int) 1 := ⟨k_441, k_439, k_440, k_4, by decide +kernel, by decide +kernel, by decide +kernel⟩
theorem wd_P_bracketsOf : wdV y_P_bracketsOf prog_4_method_23_code 4 (Option.some Jvm.ClassFile.FieldType.int) 1 := ⟨k_445, k_444, ks_12, k_4, by decide +kernel, by decide +kernel, by decide +kernel⟩
theorem wd_P_factsOf : wdV y_P_factsOf prog_4_method_19_code 2 (Option.some Jvm.ClassFile.FieldType.int) 1 := ⟨k_449, k_447, k_448, k_4, by decide +kernel, by decide +kernel, by decide +kernel⟩
theorem wd_P_linkNamed : wdV y_P_linkNamed prog_4_method_11_code 5 (Option.none : Option Jvm.ClassFile.FieldType) 1 := ⟨k_453, k_452, ks_13, k_4, by decide +kernel, by decide +kernel, by decide +kernel⟩
theorem wd_P_needType : wdV y_P_needType prog_4_method_16_code 4 (Option.none : Option Jvm.ClassFile.FieldType) 3 := ⟨k_457, k_455, k_456, k_4, by decide +kernel, by decide +kernel, by decide +kernel⟩
theorem wd_P_linkMember : wdV y_P_linkMember prog_4_method_12_code 6 (Option.none : Option Jvm.ClassFile.FieldType) 1 := ⟨k_461, k_460, ks_14, k_4, by decide +kernel, by decide +kernel, by decide +kernel⟩
theorem wd_P_secondOf : wdV y_P_secondOf prog_4_method_22_code 2 (Option.some Jvm.ClassFile.FieldType.int) 1 := ⟨k_465, k_463, k_464, k_4, by decide +kernel, by decide +kernel, by decide +kernel⟩
theorem wd_P_fits : wdS y_P_fits prog_4_method_13_code 5 (Option.some Jvm.ClassFile.FieldType.boolean) 3 := ⟨k_468, k_467, k_4, by decide +kernel, by decide +kernel, by decide +kernel⟩
theorem wd_P_measureOf : wdV y_P_measureOf prog_4_method_20_code 2 (Option.some Jvm.ClassFile.FieldType.int) 1 := ⟨k_472, k_470, k_471, k_4, by decide +kernel, by decide +kernel, by decide +kernel⟩
theorem wd_G_readClass : wdV y_G_readClass prog_3_method_5_code 5 (Option.none : Option Jvm.ClassFile.FieldType) 0 := ⟨k_476, k_475, ks_15, k_3, by decide +kernel, by decide +kernel, by decide +kernel⟩
theorem wd_G_classFlagsHold : wdS y_G_classFlagsHold prog_3_method_6_code 1 (Option.some Jvm.ClassFile.FieldType.boolean) 1 := ⟨k_479, k_478, k_3, by decide +kernel, by decide +kernel, by decide +kernel⟩
theorem wd_G_takeClassText : wdV y_G_takeClassText prog_3_method_7_code 3 (Option.some Jvm.ClassFile.FieldType.int) 0 := ⟨k_483, k_482, ks_16, k_3, by decide +kernel, by decide +kernel, by decide +kernel⟩
theorem wd_P_take : wdV y_P_take prog_4_method_15_code 4 (Option.some Jvm.ClassFile.FieldType.int) 1 := ⟨k_487, k_485, k_486, k_4, by decide +kernel, by decide +kernel, by decide +kernel⟩
theorem wd_P_alike : wdV y_P_alike prog_4_method_25_code 6 (Option.some Jvm.ClassFile.FieldType.boolean) 2 := ⟨k_493, k_491, k_492, k_4, by decide +kernel, by decide +kernel, by decide +kernel⟩
theorem wd_G_readCount : wdV y_G_readCount prog_3_method_4_code 4 (Option.some Jvm.ClassFile.FieldType.int) 1 := ⟨k_499, k_498, ks_17, k_3, by decide +kernel, by decide +kernel, by decide +kernel⟩
theorem wd_G_readInterface : wdV y_G_readInterface prog_3_method_8_code 5 (Option.none : Option Jvm.ClassFile.FieldType) 1 := ⟨k_504, k_503, ks_18, k_3, by decide +kernel, by decide +kernel, by decide +kernel⟩
theorem wd_G_readField : wdV y_G_readField prog_3_method_9_code 4 (Option.none : Option Jvm.ClassFile.FieldType) 1 := ⟨k_508, k_507, ks_19, k_3, by decide +kernel, by decide +kernel, by decide +kernel⟩
theorem wd_G_fieldFlagsHold : wdV y_G_fieldFlagsHold prog_3_method_10_code 2 (Option.some Jvm.ClassFile.FieldType.boolean) 1 := ⟨k_512, k_511, ks_20, k_3, by decide +kernel, by decide +kernel, by decide +kernel⟩
theorem wd_G_addMember : wdV y_G_addMember prog_3_method_14_code 5 (Option.none : Option Jvm.ClassFile.FieldType) 2 := ⟨k_524, k_523, ks_21, k_3, by decide +kernel, by decide +kernel, by decide +kernel⟩
theorem wd_G_readAttributes : wdV y_G_readAttributes prog_3_method_15_code 10 (Option.some Jvm.ClassFile.FieldType.int) 1 := ⟨k_528, k_527, ks_22, k_3, by decide +kernel, by decide +kernel, by decide +kernel⟩
theorem wd_G_attributeOf : wdV y_G_attributeOf prog_3_method_16_code 2 (Option.some Jvm.ClassFile.FieldType.int) 1 := ⟨k_532, k_531, ks_23, k_3, by decide +kernel, by decide +kernel, by decide +kernel⟩
theorem wd_G_leastLocals : wdV y_G_leastLocals prog_3_method_17_code 1 (Option.some Jvm.ClassFile.FieldType.int) 0 := ⟨k_540, k_539, ks_24, k_3, by decide +kernel, by decide +kernel, by decide +kernel⟩
theorem wd_C_readAll : wdV y_C_readAll prog_2_method_2_code 6 (Option.none : Option Jvm.ClassFile.FieldType) 2 := ⟨k_544, k_542, k_543, k_6, by decide +kernel, by decide +kernel, by decide +kernel⟩
theorem wd_C_readSizes : wdV y_C_readSizes prog_2_method_3_code 4 (Option.none : Option Jvm.ClassFile.FieldType) 1 := ⟨k_548, k_547, ks_25, k_6, by decide +kernel, by decide +kernel, by decide +kernel⟩
theorem wd_C_step : wdV y_C_step prog_2_method_4_code 4 (Option.some Jvm.ClassFile.FieldType.int) 1 := ⟨k_555, k_554, ks_26, k_6, by decide +kernel, by decide +kernel, by decide +kernel⟩
theorem wd_C_stepTable : wdV y_C_stepTable prog_2_method_10_code 8 (Option.some Jvm.ClassFile.FieldType.int) 1 := ⟨k_562, k_561, ks_27, k_6, by decide +kernel, by decide +kernel, by decide +kernel⟩
theorem wd_C_pastPadding : wdV y_C_pastPadding prog_2_method_12_code 4 (Option.some Jvm.ClassFile.FieldType.int) 1 := ⟨k_566, k_565, ks_28, k_6, by decide +kernel, by decide +kernel, by decide +kernel⟩
theorem wd_C_switchNumber : wdV y_C_switchNumber prog_2_method_13_code 3 (Option.some Jvm.ClassFile.FieldType.int) 2 := ⟨k_570, k_569, ks_29, k_6, by decide +kernel, by decide +kernel, by decide +kernel⟩
theorem wd_C_addJump : wdV y_C_addJump prog_2_method_14_code 3 (Option.none : Option Jvm.ClassFile.FieldType) 2 := ⟨k_574, k_573, ks_30, k_6, by decide +kernel, by decide +kernel, by decide +kernel⟩
theorem wd_C_stepPairs : wdV y_C_stepPairs prog_2_method_11_code 7 (Option.some Jvm.ClassFile.FieldType.int) 1 := ⟨k_579, k_578, ks_31, k_6, by decide +kernel, by decide +kernel, by decide +kernel⟩
theorem wd_C_stepWide : wdV y_C_stepWide prog_2_method_9_code 7 (Option.some Jvm.ClassFile.FieldType.int) 1 := ⟨k_583, k_582, ks_32, k_6, by decide +kernel, by decide +kernel, by decide +kernel⟩
theorem wd_C_stepFixed : wdV y_C_stepFixed prog_2_method_5_code 7 (Option.some Jvm.ClassFile.FieldType.int) 3 := ⟨k_587, k_586, ks_33, k_6, by decide +kernel, by decide +kernel, by decide +kernel⟩
theorem wd_C_localInCode : wdS y_C_localInCode prog_2_method_6_code 1 (Option.some Jvm.ClassFile.FieldType.int) 1 := ⟨k_594, k_593, k_6, by decide +kernel, by decide +kernel, by decide +kernel⟩
theorem wd_C_kindFits : wdV y_C_kindFits prog_2_method_7_code 5 (Option.some Jvm.ClassFile.FieldType.boolean) 3 := ⟨k_599, k_598, ks_34, k_6, by decide +kernel, by decide +kernel, by decide +kernel⟩
theorem wd_C_restFits : wdV y_C_restFits prog_2_method_8_code 6 (Option.some Jvm.ClassFile.FieldType.boolean) 4 := ⟨k_603, k_602, ks_35, k_6, by decide +kernel, by decide +kernel, by decide +kernel⟩
theorem wd_C_isFirst : wdV y_C_isFirst prog_2_method_15_code 2 (Option.some Jvm.ClassFile.FieldType.boolean) 1 := ⟨k_612, k_611, ks_36, k_6, by decide +kernel, by decide +kernel, by decide +kernel⟩
theorem wd_C_mayBeLast : wdS y_C_mayBeLast prog_2_method_16_code 1 (Option.some Jvm.ClassFile.FieldType.boolean) 1 := ⟨k_615, k_614, k_6, by decide +kernel, by decide +kernel, by decide +kernel⟩
theorem wd_C_readRows : wdV y_C_readRows prog_2_method_17_code 8 (Option.none : Option Jvm.ClassFile.FieldType) 0 := ⟨k_619, k_618, ks_37, k_6, by decide +kernel, by decide +kernel, by decide +kernel⟩
theorem wd_G_readConstant : wdV y_G_readConstant prog_3_method_18_code 4 (Option.none : Option Jvm.ClassFile.FieldType) 0 := ⟨k_623, k_622, ks_38, k_3, by decide +kernel, by decide +kernel, by decide +kernel⟩
theorem wd_G_constantKind : wdV y_G_constantKind prog_3_method_19_code 1 (Option.some Jvm.ClassFile.FieldType.int) 0 := ⟨k_628, k_627, ks_39, k_3, by decide +kernel, by decide +kernel, by decide +kernel⟩
theorem wd_G_readExceptions : wdV y_G_readExceptions prog_3_method_20_code 2 (Option.none : Option Jvm.ClassFile.FieldType) 0 := ⟨k_634, k_633, ks_40, k_3, by decide +kernel, by decide +kernel, by decide +kernel⟩
theorem wd_G_clearCodeTallies : wdV y_G_clearCodeTallies prog_3_method_21_code 2 (Option.none : Option Jvm.ClassFile.FieldType) 0 := ⟨k_638, k_637, ks_41, k_3, by decide +kernel, by decide +kernel, by decide +kernel⟩
theorem wd_G_readMethod : wdV y_G_readMethod prog_3_method_11_code 5 (Option.none : Option Jvm.ClassFile.FieldType) 1 := ⟨k_642, k_641, ks_42, k_3, by decide +kernel, by decide +kernel, by decide +kernel⟩
theorem wd_G_methodFlagsHold : wdV y_G_methodFlagsHold prog_3_method_12_code 2 (Option.some Jvm.ClassFile.FieldType.boolean) 1 := ⟨k_646, k_645, ks_43, k_3, by decide +kernel, by decide +kernel, by decide +kernel⟩
theorem wd_G_specialNameHolds : wdV y_G_specialNameHolds prog_3_method_13_code 2 (Option.some Jvm.ClassFile.FieldType.boolean) 1 := ⟨k_650, k_649, ks_44, k_3, by decide +kernel, by decide +kernel, by decide +kernel⟩
theorem wd_G_noteMethod : wdV y_G_noteMethod prog_3_method_22_code 4 (Option.none : Option Jvm.ClassFile.FieldType) 2 := ⟨k_655, k_654, ks_45, k_3, by decide +kernel, by decide +kernel, by decide +kernel⟩
theorem wd_R_keep : wdV y_R_keep prog_5_method_2_code 4 (Option.none : Option Jvm.ClassFile.FieldType) 3 := ⟨k_659, k_657, k_658, k_7, by decide +kernel, by decide +kernel, by decide +kernel⟩
theorem wd_X_rule : wdV y_X_rule prog_1_method_7_code 1 (Option.some Jvm.ClassFile.FieldType.int) 0 := ⟨k_667, k_665, k_666, k_1, by decide +kernel, by decide +kernel, by decide +kernel⟩
theorem wd_X_told : wdV y_X_told prog_1_method_8_code 2 (Option.some Jvm.ClassFile.FieldType.int) 1 := ⟨k_671, k_669, k_670, k_1, by decide +kernel, by decide +kernel, by decide +kernel⟩
theorem wd_X_method : wdV y_X_method prog_1_method_9_code 3 (Option.some Jvm.ClassFile.FieldType.int) 2 := ⟨k_675, k_673, k_674, k_1, by decide +kernel, by decide +kernel, by decide +kernel⟩
theorem wd_X_entry : wdV y_X_entry prog_1_method_10_code 2 (Option.some Jvm.ClassFile.FieldType.int) 1 := ⟨k_679, k_677, k_678, k_1, by decide +kernel, by decide +kernel, by decide +kernel⟩
theorem wd_X_guarded : wdV y_X_guarded prog_1_method_11_code 4 (Option.some Jvm.ClassFile.FieldType.int) 1 := ⟨k_683, k_681, k_682, k_1, by decide +kernel, by decide +kernel, by decide +kernel⟩
theorem wd_X_beginnings : wdV y_X_beginnings prog_1_method_12_code 1 (Option.some Jvm.ClassFile.FieldType.int) 0 := ⟨k_687, k_685, k_686, k_1, by decide +kernel, by decide +kernel, by decide +kernel⟩
theorem wd_M_feed : wdV y_M_feed prog_9_method_3_code 8 (Option.some Jvm.ClassFile.FieldType.int) 5 := ⟨k_801, k_799, k_800, k_8, by decide +kernel, by decide +kernel, by decide +kernel⟩
theorem wd_M_cut : wdV y_M_cut prog_9_method_4_code 2 (Option.some Jvm.ClassFile.FieldType.int) 1 := ⟨k_805, k_803, k_804, k_8, by decide +kernel, by decide +kernel, by decide +kernel⟩
theorem wd_M_turn : wdV y_M_turn prog_9_method_5_code 3 (Option.some Jvm.ClassFile.FieldType.int) 2 := ⟨k_809, k_807, k_808, k_8, by decide +kernel, by decide +kernel, by decide +kernel⟩
theorem wd_M_byteAt : wdV y_M_byteAt prog_9_method_6_code 2 (Option.some Jvm.ClassFile.FieldType.int) 1 := ⟨k_813, k_811, k_812, k_8, by decide +kernel, by decide +kernel, by decide +kernel⟩
theorem wd_M_judge : wdV y_M_judge prog_9_method_60_code 3 (Option.some Jvm.ClassFile.FieldType.int) 0 := ⟨k_817, k_815, k_816, k_8, by decide +kernel, by decide +kernel, by decide +kernel⟩
theorem wd_M_go : wdV y_M_go prog_9_method_33_code 3 (Option.none : Option Jvm.ClassFile.FieldType) 1 := ⟨k_821, k_820, ks_46, k_8, by decide +kernel, by decide +kernel, by decide +kernel⟩
theorem wd_M_u4 : wdV y_M_u4 prog_9_method_12_code 3 (Option.some Jvm.ClassFile.FieldType.long) 0 := ⟨k_825, k_824, ks_47, k_8, by decide +kernel, by decide +kernel, by decide +kernel⟩
theorem wd_M_u2 : wdV y_M_u2 prog_9_method_11_code 2 (Option.some Jvm.ClassFile.FieldType.int) 0 := ⟨k_829, k_828, ks_48, k_8, by decide +kernel, by decide +kernel, by decide +kernel⟩
theorem wd_M_u1 : wdV y_M_u1 prog_9_method_10_code 1 (Option.some Jvm.ClassFile.FieldType.int) 0 := ⟨k_833, k_832, ks_49, k_8, by decide +kernel, by decide +kernel, by decide +kernel⟩
theorem wd_M_ok : wdV y_M_ok prog_9_method_8_code 1 (Option.some Jvm.ClassFile.FieldType.boolean) 0 := ⟨k_837, k_836, ks_50, k_8, by decide +kernel, by decide +kernel, by decide +kernel⟩
theorem wd_M_fails : wdV y_M_fails prog_9_method_7_code 3 (Option.some Jvm.ClassFile.FieldType.boolean) 2 := ⟨k_841, k_840, ks_51, k_8, by decide +kernel, by decide +kernel, by decide +kernel⟩
theorem wd_M_must : wdV y_M_must prog_9_method_9_code 4 (Option.some Jvm.ClassFile.FieldType.boolean) 3 := ⟨k_846, k_845, ks_52, k_8, by decide +kernel, by decide +kernel, by decide +kernel⟩
theorem wd_M_pool : wdV y_M_pool prog_9_method_34_code 5 (Option.none : Option Jvm.ClassFile.FieldType) 0 := ⟨k_850, k_849, ks_53, k_8, by decide +kernel, by decide +kernel, by decide +kernel⟩
theorem wd_M_text : wdV y_M_text prog_9_method_35_code 10 (Option.none : Option Jvm.ClassFile.FieldType) 0 := ⟨k_854, k_853, ks_54, k_8, by decide +kernel, by decide +kernel, by decide +kernel⟩
theorem wd_M_refer : wdV y_M_refer prog_9_method_36_code 6 (Option.none : Option Jvm.ClassFile.FieldType) 0 := ⟨k_858, k_857, ks_55, k_8, by decide +kernel, by decide +kernel, by decide +kernel⟩
theorem wd_M_two : wdV y_M_two prog_9_method_13_code 2 (Option.some Jvm.ClassFile.FieldType.int) 1 := ⟨k_862, k_861, ks_56, k_8, by decide +kernel, by decide +kernel, by decide +kernel⟩
theorem wd_M_isKind : wdV y_M_isKind prog_9_method_28_code 3 (Option.some Jvm.ClassFile.FieldType.boolean) 2 := ⟨k_866, k_865, ks_57, k_8, by decide +kernel, by decide +kernel, by decide +kernel⟩
theorem wd_M_letter : wdV y_M_letter prog_9_method_16_code 3 (Option.some Jvm.ClassFile.FieldType.int) 2 := ⟨k_870, k_869, ks_58, k_8, by decide +kernel, by decide +kernel, by decide +kernel⟩
theorem wd_M_textSize : wdV y_M_textSize prog_9_method_15_code 2 (Option.some Jvm.ClassFile.FieldType.int) 1 := ⟨k_874, k_873, ks_59, k_8, by decide +kernel, by decide +kernel, by decide +kernel⟩
theorem wd_M_textAt : wdV y_M_textAt prog_9_method_14_code 2 (Option.some Jvm.ClassFile.FieldType.int) 1 := ⟨k_878, k_877, ks_60, k_8, by decide +kernel, by decide +kernel, by decide +kernel⟩
theorem wd_M_isField : wdV y_M_isField prog_9_method_24_code 2 (Option.some Jvm.ClassFile.FieldType.boolean) 1 := ⟨k_882, k_881, ks_61, k_8, by decide +kernel, by decide +kernel, by decide +kernel⟩
theorem wd_M_typeEnd : wdV y_M_typeEnd prog_9_method_23_code 6 (Option.some Jvm.ClassFile.FieldType.int) 2 := ⟨k_886, k_885, ks_62, k_8, by decide +kernel, by decide +kernel, by decide +kernel⟩
theorem wd_M_classEnd : wdV y_M_classEnd prog_9_method_21_code 5 (Option.some Jvm.ClassFile.FieldType.int) 2 := ⟨k_890, k_889, ks_63, k_8, by decide +kernel, by decide +kernel, by decide +kernel⟩
theorem wd_M_isPlain : wdS y_M_isPlain prog_9_method_19_code 1 (Option.some Jvm.ClassFile.FieldType.boolean) 1 := ⟨k_893, k_892, k_8, by decide +kernel, by decide +kernel, by decide +kernel⟩
theorem wd_M_isClassName : wdV y_M_isClassName prog_9_method_22_code 2 (Option.some Jvm.ClassFile.FieldType.boolean) 1 := ⟨k_897, k_896, ks_64, k_8, by decide +kernel, by decide +kernel, by decide +kernel⟩
theorem wd_M_isPlainName : wdV y_M_isPlainName prog_9_method_20_code 4 (Option.some Jvm.ClassFile.FieldType.boolean) 1 := ⟨k_901, k_900, ks_65, k_8, by decide +kernel, by decide +kernel, by decide +kernel⟩
theorem wd_M_is : wdV y_M_is prog_9_method_18_code 14 (Option.some Jvm.ClassFile.FieldType.boolean) 5 := ⟨k_906, k_905, ks_66, k_8, by decide +kernel, by decide +kernel, by decide +kernel⟩
theorem wd_M_isMethod : wdV y_M_isMethod prog_9_method_25_code 5 (Option.some Jvm.ClassFile.FieldType.boolean) 1 := ⟨k_912, k_911, ks_67, k_8, by decide +kernel, by decide +kernel, by decide +kernel⟩
theorem wd_M_typeOf : wdV y_M_typeOf prog_9_method_31_code 2 (Option.some Jvm.ClassFile.FieldType.int) 1 := ⟨k_916, k_915, ks_68, k_8, by decide +kernel, by decide +kernel, by decide +kernel⟩
theorem wd_M_nameOf : wdV y_M_nameOf prog_9_method_30_code 2 (Option.some Jvm.ClassFile.FieldType.int) 1 := ⟨k_920, k_919, ks_69, k_8, by decide +kernel, by decide +kernel, by decide +kernel⟩
theorem wd_M_isVoid : wdV y_M_isVoid prog_9_method_26_code 2 (Option.some Jvm.ClassFile.FieldType.boolean) 1 := ⟨k_924, k_923, ks_70, k_8, by decide +kernel, by decide +kernel, by decide +kernel⟩
theorem wd_M_head : wdV y_M_head prog_9_method_37_code 6 (Option.none : Option Jvm.ClassFile.FieldType) 0 := ⟨k_928, k_927, ks_71, k_8, by decide +kernel, by decide +kernel, by decide +kernel⟩
theorem wd_M_number : wdV y_M_number prog_9_method_29_code 4 (Option.some Jvm.ClassFile.FieldType.int) 1 := ⟨k_932, k_931, ks_72, k_8, by decide +kernel, by decide +kernel, by decide +kernel⟩
theorem wd_M_isArray : wdV y_M_isArray prog_9_method_27_code 2 (Option.some Jvm.ClassFile.FieldType.boolean) 1 := ⟨k_936, k_935, ks_73, k_8, by decide +kernel, by decide +kernel, by decide +kernel⟩
theorem wd_M_textOf : wdV y_M_textOf prog_9_method_32_code 2 (Option.some Jvm.ClassFile.FieldType.int) 1 := ⟨k_940, k_939, ks_74, k_8, by decide +kernel, by decide +kernel, by decide +kernel⟩
theorem wd_M_same : wdV y_M_same prog_9_method_17_code 5 (Option.some Jvm.ClassFile.FieldType.boolean) 2 := ⟨k_944, k_943, ks_75, k_8, by decide +kernel, by decide +kernel, by decide +kernel⟩
theorem wd_M_fields : wdV y_M_fields prog_9_method_39_code 7 (Option.none : Option Jvm.ClassFile.FieldType) 0 := ⟨k_950, k_949, ks_76, k_8, by decide +kernel, by decide +kernel, by decide +kernel⟩
theorem wd_M_oneOf : wdS y_M_oneOf prog_9_method_38_code 1 (Option.some Jvm.ClassFile.FieldType.boolean) 1 := ⟨k_953, k_952, k_8, by decide +kernel, by decide +kernel, by decide +kernel⟩
theorem wd_M_attributes : wdV y_M_attributes prog_9_method_41_code 17 (Option.none : Option Jvm.ClassFile.FieldType) 4 := ⟨k_957, k_956, ks_77, k_8, by decide +kernel, by decide +kernel, by decide +kernel⟩
theorem wd_M_thrown : wdV y_M_thrown prog_9_method_42_code 4 (Option.none : Option Jvm.ClassFile.FieldType) 1 := ⟨k_968, k_967, ks_78, k_8, by decide +kernel, by decide +kernel, by decide +kernel⟩
theorem wd_M_value : wdV y_M_value prog_9_method_43_code 4 (Option.none : Option Jvm.ClassFile.FieldType) 1 := ⟨k_972, k_971, ks_79, k_8, by decide +kernel, by decide +kernel, by decide +kernel⟩
theorem wd_M_code : wdV y_M_code prog_9_method_44_code 10 (Option.none : Option Jvm.ClassFile.FieldType) 2 := ⟨k_979, k_978, ks_80, k_8, by decide +kernel, by decide +kernel, by decide +kernel⟩
theorem wd_M_instruction : wdV y_M_instruction prog_9_method_53_code 5 (Option.none : Option Jvm.ClassFile.FieldType) 0 := ⟨k_984, k_983, ks_81, k_8, by decide +kernel, by decide +kernel, by decide +kernel⟩
theorem wd_M_byteOf : wdV y_M_byteOf prog_9_method_48_code 2 (Option.some Jvm.ClassFile.FieldType.int) 1 := ⟨k_988, k_987, ks_82, k_8, by decide +kernel, by decide +kernel, by decide +kernel⟩
theorem wd_M_isBarred : wdS y_M_isBarred prog_9_method_46_code 2 (Option.some Jvm.ClassFile.FieldType.boolean) 1 := ⟨k_991, k_990, k_8, by decide +kernel, by decide +kernel, by decide +kernel⟩
theorem wd_M_branches : wdV y_M_branches prog_9_method_55_code 7 (Option.none : Option Jvm.ClassFile.FieldType) 2 := ⟨k_995, k_994, ks_83, k_8, by decide +kernel, by decide +kernel, by decide +kernel⟩
theorem wd_M_numbersOf : wdV y_M_numbersOf prog_9_method_50_code 2 (Option.some Jvm.ClassFile.FieldType.int) 1 := ⟨k_999, k_998, ks_84, k_8, by decide +kernel, by decide +kernel, by decide +kernel⟩
theorem wd_M_isThere : wdV y_M_isThere prog_9_method_52_code 3 (Option.some Jvm.ClassFile.FieldType.boolean) 2 := ⟨k_1003, k_1002, ks_85, k_8, by decide +kernel, by decide +kernel, by decide +kernel⟩
theorem wd_M_four : wdV y_M_four prog_9_method_49_code 2 (Option.some Jvm.ClassFile.FieldType.int) 1 := ⟨k_1007, k_1006, ks_86, k_8, by decide +kernel, by decide +kernel, by decide +kernel⟩
theorem wd_M_local : wdV y_M_local prog_9_method_54_code 4 (Option.none : Option Jvm.ClassFile.FieldType) 3 := ⟨k_1012, k_1011, ks_87, k_8, by decide +kernel, by decide +kernel, by decide +kernel⟩
theorem wd_M_lengthOf : wdS y_M_lengthOf prog_9_method_47_code 1 (Option.some Jvm.ClassFile.FieldType.int) 1 := ⟨k_1015, k_1014, k_8, by decide +kernel, by decide +kernel, by decide +kernel⟩
theorem wd_M_plain : wdV y_M_plain prog_9_method_56_code 6 (Option.none : Option Jvm.ClassFile.FieldType) 2 := ⟨k_1019, k_1018, ks_88, k_8, by decide +kernel, by decide +kernel, by decide +kernel⟩
theorem wd_M_invoke : wdV y_M_invoke prog_9_method_57_code 6 (Option.none : Option Jvm.ClassFile.FieldType) 3 := ⟨k_1023, k_1022, ks_89, k_8, by decide +kernel, by decide +kernel, by decide +kernel⟩
theorem wd_M_after : wdV y_M_after prog_9_method_51_code 4 (Option.some Jvm.ClassFile.FieldType.int) 1 := ⟨k_1027, k_1026, ks_90, k_8, by decide +kernel, by decide +kernel, by decide +kernel⟩
theorem wd_M_targets : wdV y_M_targets prog_9_method_59_code 8 (Option.none : Option Jvm.ClassFile.FieldType) 1 := ⟨k_1031, k_1030, ks_91, k_8, by decide +kernel, by decide +kernel, by decide +kernel⟩
theorem wd_M_target : wdV y_M_target prog_9_method_58_code 4 (Option.none : Option Jvm.ClassFile.FieldType) 2 := ⟨k_1035, k_1034, ks_92, k_8, by decide +kernel, by decide +kernel, by decide +kernel⟩
theorem wd_M_handlers : wdV y_M_handlers prog_9_method_45_code 11 (Option.none : Option Jvm.ClassFile.FieldType) 0 := ⟨k_1039, k_1038, ks_93, k_8, by decide +kernel, by decide +kernel, by decide +kernel⟩
theorem wd_M_methods : wdV y_M_methods prog_9_method_40_code 12 (Option.none : Option Jvm.ClassFile.FieldType) 0 := ⟨k_1043, k_1042, ks_94, k_8, by decide +kernel, by decide +kernel, by decide +kernel⟩
theorem wd_M_rule : wdV y_M_rule prog_9_method_61_code 1 (Option.some Jvm.ClassFile.FieldType.int) 0 := ⟨k_1048, k_1046, k_1047, k_8, by decide +kernel, by decide +kernel, by decide +kernel⟩
theorem wd_M_told : wdV y_M_told prog_9_method_62_code 2 (Option.some Jvm.ClassFile.FieldType.int) 1 := ⟨k_1052, k_1050, k_1051, k_8, by decide +kernel, by decide +kernel, by decide +kernel⟩
theorem wd_M_method : wdV y_M_method prog_9_method_63_code 3 (Option.some Jvm.ClassFile.FieldType.int) 2 := ⟨k_1056, k_1054, k_1055, k_8, by decide +kernel, by decide +kernel, by decide +kernel⟩
theorem wd_M_entry : wdV y_M_entry prog_9_method_64_code 2 (Option.some Jvm.ClassFile.FieldType.int) 1 := ⟨k_1060, k_1058, k_1059, k_8, by decide +kernel, by decide +kernel, by decide +kernel⟩
theorem wd_M_guarded : wdV y_M_guarded prog_9_method_65_code 4 (Option.some Jvm.ClassFile.FieldType.int) 1 := ⟨k_1064, k_1062, k_1063, k_8, by decide +kernel, by decide +kernel, by decide +kernel⟩
theorem wd_M_beginnings : wdV y_M_beginnings prog_9_method_66_code 3 (Option.some Jvm.ClassFile.FieldType.int) 0 := ⟨k_1068, k_1066, k_1067, k_8, by decide +kernel, by decide +kernel, by decide +kernel⟩
