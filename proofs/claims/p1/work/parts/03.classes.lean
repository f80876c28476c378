theorem kw0 : (Jvm.Cond.laysFinal "StepText" "StepText" "words" "LStepText$Words;") ∈ xq_W := xq_in tb_2 51 (by decide +kernel) rfl
theorem kw1 : (Jvm.Cond.laysFinal "StepText" "StepText" "grammar" "LStepText$Grammar;") ∈ xq_W := xq_in tb_2 53 (by decide +kernel) rfl
theorem kw2 : (Jvm.Cond.laysFinal "StepText" "StepText" "page" "LStepText$Page;") ∈ xq_W := xq_in tb_2 55 (by decide +kernel) rfl
theorem kw3 : (Jvm.Cond.lays "StepText" "StepText" "program" "LStepText$Program;") ∈ xq_W := xq_in tb_2 57 (by decide +kernel) rfl
theorem kw4 : (Jvm.Cond.lays "StepText" "StepText" "spare" "LStepText$Program;") ∈ xq_W := xq_in tb_2 59 (by decide +kernel) rfl
theorem kw5 : (Jvm.Cond.lays "StepText" "StepText" "paged" "Z") ∈ xq_W := xq_in tb_2 61 (by decide +kernel) rfl
theorem kw6 : (Jvm.Cond.lays "StepText" "StepText" "barred" "J") ∈ xq_W := xq_in tb_2 63 (by decide +kernel) rfl
theorem kw7 : (Jvm.Cond.laysFinal "StepText$Keywords" "StepText$Keywords" "packed" "[J") ∈ xq_W := xq_in tb_1 86 (by decide +kernel) rfl
theorem kw8 : (Jvm.Cond.laysFinal "StepText$Words" "StepText$Words" "keywords" "LStepText$Keywords;") ∈ xq_W := xq_in tb_1 116 (by decide +kernel) rfl
theorem kw9 : (Jvm.Cond.laysFinal "StepText$Words" "StepText$Words" "text" "[B") ∈ xq_W := xq_in tb_1 118 (by decide +kernel) rfl
theorem kw10 : (Jvm.Cond.laysFinal "StepText$Words" "StepText$Words" "codes" "[I") ∈ xq_W := xq_in tb_1 120 (by decide +kernel) rfl
theorem kw11 : (Jvm.Cond.laysFinal "StepText$Words" "StepText$Words" "places" "[I") ∈ xq_W := xq_in tb_1 122 (by decide +kernel) rfl
theorem kw12 : (Jvm.Cond.laysFinal "StepText$Words" "StepText$Words" "rows" "[I") ∈ xq_W := xq_in tb_1 124 (by decide +kernel) rfl
theorem kw13 : (Jvm.Cond.laysFinal "StepText$Words" "StepText$Words" "values" "[J") ∈ xq_W := xq_in tb_1 126 (by decide +kernel) rfl
theorem kw14 : (Jvm.Cond.lays "StepText$Words" "StepText$Words" "length" "I") ∈ xq_W := xq_in tb_1 128 (by decide +kernel) rfl
theorem kw15 : (Jvm.Cond.lays "StepText$Words" "StepText$Words" "count" "I") ∈ xq_W := xq_in tb_1 130 (by decide +kernel) rfl
theorem kw16 : (Jvm.Cond.lays "StepText$Words" "StepText$Words" "current" "I") ∈ xq_W := xq_in tb_1 132 (by decide +kernel) rfl
theorem kw17 : (Jvm.Cond.lays "StepText$Words" "StepText$Words" "scan" "I") ∈ xq_W := xq_in tb_1 134 (by decide +kernel) rfl
theorem kw18 : (Jvm.Cond.lays "StepText$Words" "StepText$Words" "scanRow" "I") ∈ xq_W := xq_in tb_1 136 (by decide +kernel) rfl
theorem kw19 : (Jvm.Cond.lays "StepText$Words" "StepText$Words" "code" "I") ∈ xq_W := xq_in tb_1 138 (by decide +kernel) rfl
theorem kw20 : (Jvm.Cond.lays "StepText$Words" "StepText$Words" "place" "I") ∈ xq_W := xq_in tb_1 140 (by decide +kernel) rfl
theorem kw21 : (Jvm.Cond.lays "StepText$Words" "StepText$Words" "row" "I") ∈ xq_W := xq_in tb_1 142 (by decide +kernel) rfl
theorem kw22 : (Jvm.Cond.lays "StepText$Words" "StepText$Words" "value" "J") ∈ xq_W := xq_in tb_1 144 (by decide +kernel) rfl
theorem kw23 : (Jvm.Cond.laysFinal "StepText$Names" "StepText$Names" "letters" "[J") ∈ xq_W := xq_in tb_1 165 (by decide +kernel) rfl
theorem kw24 : (Jvm.Cond.laysFinal "StepText$Names" "StepText$Names" "sorts" "[I") ∈ xq_W := xq_in tb_1 167 (by decide +kernel) rfl
theorem kw25 : (Jvm.Cond.laysFinal "StepText$Names" "StepText$Names" "measures" "[I") ∈ xq_W := xq_in tb_1 169 (by decide +kernel) rfl
theorem kw26 : (Jvm.Cond.laysFinal "StepText$Names" "StepText$Names" "used" "[Z") ∈ xq_W := xq_in tb_1 171 (by decide +kernel) rfl
theorem kw27 : (Jvm.Cond.lays "StepText$Names" "StepText$Names" "count" "I") ∈ xq_W := xq_in tb_1 173 (by decide +kernel) rfl
theorem kw28 : (Jvm.Cond.laysFinal "StepText$Nodes" "StepText$Nodes" "kinds" "[I") ∈ xq_W := xq_in tb_1 197 (by decide +kernel) rfl
theorem kw29 : (Jvm.Cond.laysFinal "StepText$Nodes" "StepText$Nodes" "rows" "[I") ∈ xq_W := xq_in tb_1 199 (by decide +kernel) rfl
theorem kw30 : (Jvm.Cond.laysFinal "StepText$Nodes" "StepText$Nodes" "values" "[J") ∈ xq_W := xq_in tb_1 201 (by decide +kernel) rfl
theorem kw31 : (Jvm.Cond.laysFinal "StepText$Nodes" "StepText$Nodes" "measures" "[I") ∈ xq_W := xq_in tb_1 203 (by decide +kernel) rfl
theorem kw32 : (Jvm.Cond.laysFinal "StepText$Nodes" "StepText$Nodes" "lows" "[I") ∈ xq_W := xq_in tb_1 205 (by decide +kernel) rfl
theorem kw33 : (Jvm.Cond.laysFinal "StepText$Nodes" "StepText$Nodes" "sizes" "[I") ∈ xq_W := xq_in tb_1 207 (by decide +kernel) rfl
theorem kw34 : (Jvm.Cond.laysFinal "StepText$Nodes" "StepText$Nodes" "parents" "[I") ∈ xq_W := xq_in tb_1 209 (by decide +kernel) rfl
theorem kw35 : (Jvm.Cond.laysFinal "StepText$Nodes" "StepText$Nodes" "firsts" "[I") ∈ xq_W := xq_in tb_1 211 (by decide +kernel) rfl
theorem kw36 : (Jvm.Cond.laysFinal "StepText$Nodes" "StepText$Nodes" "nexts" "[I") ∈ xq_W := xq_in tb_1 213 (by decide +kernel) rfl
theorem kw37 : (Jvm.Cond.laysFinal "StepText$Nodes" "StepText$Nodes" "late" "[Z") ∈ xq_W := xq_in tb_1 215 (by decide +kernel) rfl
theorem kw38 : (Jvm.Cond.lays "StepText$Nodes" "StepText$Nodes" "count" "I") ∈ xq_W := xq_in tb_1 217 (by decide +kernel) rfl
theorem kw39 : (Jvm.Cond.lays "StepText$Nodes" "StepText$Nodes" "outerFirst" "I") ∈ xq_W := xq_in tb_1 219 (by decide +kernel) rfl
theorem kw40 : (Jvm.Cond.lays "StepText$Nodes" "StepText$Nodes" "outerSize" "I") ∈ xq_W := xq_in tb_1 221 (by decide +kernel) rfl
theorem kw41 : (Jvm.Cond.lays "StepText$Nodes" "StepText$Nodes" "statements" "I") ∈ xq_W := xq_in tb_1 223 (by decide +kernel) rfl
theorem kw42 : (Jvm.Cond.laysFinal "StepText$Program" "StepText$Program" "names" "LStepText$Names;") ∈ xq_W := xq_in tb_1 228 (by decide +kernel) rfl
theorem kw43 : (Jvm.Cond.laysFinal "StepText$Program" "StepText$Program" "nodes" "LStepText$Nodes;") ∈ xq_W := xq_in tb_1 230 (by decide +kernel) rfl
theorem kw44 : (Jvm.Cond.laysFinal "StepText$Grammar" "StepText$Grammar" "words" "LStepText$Words;") ∈ xq_W := xq_in tb_2 11 (by decide +kernel) rfl
theorem kw45 : (Jvm.Cond.lays "StepText$Grammar" "StepText$Grammar" "names" "LStepText$Names;") ∈ xq_W := xq_in tb_2 13 (by decide +kernel) rfl
theorem kw46 : (Jvm.Cond.lays "StepText$Grammar" "StepText$Grammar" "nodes" "LStepText$Nodes;") ∈ xq_W := xq_in tb_2 15 (by decide +kernel) rfl
theorem kw47 : (Jvm.Cond.lays "StepText$Grammar" "StepText$Grammar" "wrongPlace" "I") ∈ xq_W := xq_in tb_2 17 (by decide +kernel) rfl
theorem kw48 : (Jvm.Cond.laysFinal "StepText$Page" "StepText$Page" "keywords" "LStepText$Keywords;") ∈ xq_W := xq_in tb_2 33 (by decide +kernel) rfl
theorem kw49 : (Jvm.Cond.laysFinal "StepText$Page" "StepText$Page" "bytes" "[B") ∈ xq_W := xq_in tb_2 35 (by decide +kernel) rfl
theorem kw50 : (Jvm.Cond.lays "StepText$Page" "StepText$Page" "length" "I") ∈ xq_W := xq_in tb_2 37 (by decide +kernel) rfl
theorem kw51 : (Jvm.Cond.lays "StepText$Page" "StepText$Page" "names" "LStepText$Names;") ∈ xq_W := xq_in tb_2 39 (by decide +kernel) rfl
theorem kw52 : (Jvm.Cond.lays "StepText$Page" "StepText$Page" "nodes" "LStepText$Nodes;") ∈ xq_W := xq_in tb_2 41 (by decide +kernel) rfl
def R_St : String := "StepText"
def F_St : u_T := fun k => match k with
  | 0 => ("StepText", "words", "LStepText$Words;", true)
  | 1 => ("StepText", "grammar", "LStepText$Grammar;", true)
  | 2 => ("StepText", "page", "LStepText$Page;", true)
  | 3 => ("StepText", "program", "LStepText$Program;", false)
  | 4 => ("StepText", "spare", "LStepText$Program;", false)
  | 5 => ("StepText", "paged", "Z", false)
  | _ => ("StepText", "barred", "J", false)
def t_St : Nat → FieldType := fun k => match k with
  | 0 => .object "StepText$Words"
  | 1 => .object "StepText$Grammar"
  | 2 => .object "StepText$Page"
  | 3 => .object "StepText$Program"
  | 4 => .object "StepText$Program"
  | 5 => .boolean
  | _ => .long
theorem n_St : ∀ a, a < 7 → ∀ b, b < 7 → a ≠ b → (F_St a).2.1 ≠ (F_St b).2.1 := by decide +kernel
theorem t_St_ok : ∀ k, k < 7 → parseFieldDescriptor (F_St k).2.2.1 = some (t_St k) := by decide +kernel
theorem in_St : ∀ w ∈ u_ws R_St F_St 7, w ∈ xq_W := by
  intro w hw
  obtain ⟨k, hk, rfl⟩ := List.mem_map.mp hw
  have hk := List.mem_range.mp hk
  match k, hk with
  | 0, _ => exact kw0
  | 1, _ => exact kw1
  | 2, _ => exact kw2
  | 3, _ => exact kw3
  | 4, _ => exact kw4
  | 5, _ => exact kw5
  | 6, _ => exact kw6
def R_Kw : String := "StepText$Keywords"
def F_Kw : u_T := fun k => match k with
  | _ => ("StepText$Keywords", "packed", "[J", true)
def t_Kw : Nat → FieldType := fun k => match k with
  | _ => .array .long
theorem n_Kw : ∀ a, a < 1 → ∀ b, b < 1 → a ≠ b → (F_Kw a).2.1 ≠ (F_Kw b).2.1 := by decide +kernel
theorem t_Kw_ok : ∀ k, k < 1 → parseFieldDescriptor (F_Kw k).2.2.1 = some (t_Kw k) := by decide +kernel
theorem in_Kw : ∀ w ∈ u_ws R_Kw F_Kw 1, w ∈ xq_W := by
  intro w hw
  obtain ⟨k, hk, rfl⟩ := List.mem_map.mp hw
  have hk := List.mem_range.mp hk
  match k, hk with
  | 0, _ => exact kw7
def R_Wd : String := "StepText$Words"
def F_Wd : u_T := fun k => match k with
  | 0 => ("StepText$Words", "keywords", "LStepText$Keywords;", true)
  | 1 => ("StepText$Words", "text", "[B", true)
  | 2 => ("StepText$Words", "codes", "[I", true)
  | 3 => ("StepText$Words", "places", "[I", true)
  | 4 => ("StepText$Words", "rows", "[I", true)
  | 5 => ("StepText$Words", "values", "[J", true)
  | 6 => ("StepText$Words", "length", "I", false)
  | 7 => ("StepText$Words", "count", "I", false)
  | 8 => ("StepText$Words", "current", "I", false)
  | 9 => ("StepText$Words", "scan", "I", false)
  | 10 => ("StepText$Words", "scanRow", "I", false)
  | 11 => ("StepText$Words", "code", "I", false)
  | 12 => ("StepText$Words", "place", "I", false)
  | 13 => ("StepText$Words", "row", "I", false)
  | _ => ("StepText$Words", "value", "J", false)
def t_Wd : Nat → FieldType := fun k => match k with
  | 0 => .object "StepText$Keywords"
  | 1 => .array .byte
  | 2 => .array .int
  | 3 => .array .int
  | 4 => .array .int
  | 5 => .array .long
  | 6 => .int
  | 7 => .int
  | 8 => .int
  | 9 => .int
  | 10 => .int
  | 11 => .int
  | 12 => .int
  | 13 => .int
  | _ => .long
theorem n_Wd : ∀ a, a < 15 → ∀ b, b < 15 → a ≠ b → (F_Wd a).2.1 ≠ (F_Wd b).2.1 := by decide +kernel
theorem t_Wd_ok : ∀ k, k < 15 → parseFieldDescriptor (F_Wd k).2.2.1 = some (t_Wd k) := by decide +kernel
theorem in_Wd : ∀ w ∈ u_ws R_Wd F_Wd 15, w ∈ xq_W := by
  intro w hw
  obtain ⟨k, hk, rfl⟩ := List.mem_map.mp hw
  have hk := List.mem_range.mp hk
  match k, hk with
  | 0, _ => exact kw8
  | 1, _ => exact kw9
  | 2, _ => exact kw10
  | 3, _ => exact kw11
  | 4, _ => exact kw12
  | 5, _ => exact kw13
  | 6, _ => exact kw14
  | 7, _ => exact kw15
  | 8, _ => exact kw16
  | 9, _ => exact kw17
  | 10, _ => exact kw18
  | 11, _ => exact kw19
  | 12, _ => exact kw20
  | 13, _ => exact kw21
  | 14, _ => exact kw22
def R_Nm : String := "StepText$Names"
def F_Nm : u_T := fun k => match k with
  | 0 => ("StepText$Names", "letters", "[J", true)
  | 1 => ("StepText$Names", "sorts", "[I", true)
  | 2 => ("StepText$Names", "measures", "[I", true)
  | 3 => ("StepText$Names", "used", "[Z", true)
  | _ => ("StepText$Names", "count", "I", false)
def t_Nm : Nat → FieldType := fun k => match k with
  | 0 => .array .long
  | 1 => .array .int
  | 2 => .array .int
  | 3 => .array .boolean
  | _ => .int
theorem n_Nm : ∀ a, a < 5 → ∀ b, b < 5 → a ≠ b → (F_Nm a).2.1 ≠ (F_Nm b).2.1 := by decide +kernel
theorem t_Nm_ok : ∀ k, k < 5 → parseFieldDescriptor (F_Nm k).2.2.1 = some (t_Nm k) := by decide +kernel
theorem in_Nm : ∀ w ∈ u_ws R_Nm F_Nm 5, w ∈ xq_W := by
  intro w hw
  obtain ⟨k, hk, rfl⟩ := List.mem_map.mp hw
  have hk := List.mem_range.mp hk
  match k, hk with
  | 0, _ => exact kw23
  | 1, _ => exact kw24
  | 2, _ => exact kw25
  | 3, _ => exact kw26
  | 4, _ => exact kw27
def R_Nd : String := "StepText$Nodes"
def F_Nd : u_T := fun k => match k with
  | 0 => ("StepText$Nodes", "kinds", "[I", true)
  | 1 => ("StepText$Nodes", "rows", "[I", true)
  | 2 => ("StepText$Nodes", "values", "[J", true)
  | 3 => ("StepText$Nodes", "measures", "[I", true)
  | 4 => ("StepText$Nodes", "lows", "[I", true)
  | 5 => ("StepText$Nodes", "sizes", "[I", true)
  | 6 => ("StepText$Nodes", "parents", "[I", true)
  | 7 => ("StepText$Nodes", "firsts", "[I", true)
  | 8 => ("StepText$Nodes", "nexts", "[I", true)
  | 9 => ("StepText$Nodes", "late", "[Z", true)
  | 10 => ("StepText$Nodes", "count", "I", false)
  | 11 => ("StepText$Nodes", "outerFirst", "I", false)
  | 12 => ("StepText$Nodes", "outerSize", "I", false)
  | _ => ("StepText$Nodes", "statements", "I", false)
def t_Nd : Nat → FieldType := fun k => match k with
  | 0 => .array .int
  | 1 => .array .int
  | 2 => .array .long
  | 3 => .array .int
  | 4 => .array .int
  | 5 => .array .int
  | 6 => .array .int
  | 7 => .array .int
  | 8 => .array .int
  | 9 => .array .boolean
  | 10 => .int
  | 11 => .int
  | 12 => .int
  | _ => .int
theorem n_Nd : ∀ a, a < 14 → ∀ b, b < 14 → a ≠ b → (F_Nd a).2.1 ≠ (F_Nd b).2.1 := by decide +kernel
theorem t_Nd_ok : ∀ k, k < 14 → parseFieldDescriptor (F_Nd k).2.2.1 = some (t_Nd k) := by decide +kernel
theorem in_Nd : ∀ w ∈ u_ws R_Nd F_Nd 14, w ∈ xq_W := by
  intro w hw
  obtain ⟨k, hk, rfl⟩ := List.mem_map.mp hw
  have hk := List.mem_range.mp hk
  match k, hk with
  | 0, _ => exact kw28
  | 1, _ => exact kw29
  | 2, _ => exact kw30
  | 3, _ => exact kw31
  | 4, _ => exact kw32
  | 5, _ => exact kw33
  | 6, _ => exact kw34
  | 7, _ => exact kw35
  | 8, _ => exact kw36
  | 9, _ => exact kw37
  | 10, _ => exact kw38
  | 11, _ => exact kw39
  | 12, _ => exact kw40
  | 13, _ => exact kw41
def R_Pr : String := "StepText$Program"
def F_Pr : u_T := fun k => match k with
  | 0 => ("StepText$Program", "names", "LStepText$Names;", true)
  | _ => ("StepText$Program", "nodes", "LStepText$Nodes;", true)
def t_Pr : Nat → FieldType := fun k => match k with
  | 0 => .object "StepText$Names"
  | _ => .object "StepText$Nodes"
theorem n_Pr : ∀ a, a < 2 → ∀ b, b < 2 → a ≠ b → (F_Pr a).2.1 ≠ (F_Pr b).2.1 := by decide +kernel
theorem t_Pr_ok : ∀ k, k < 2 → parseFieldDescriptor (F_Pr k).2.2.1 = some (t_Pr k) := by decide +kernel
theorem in_Pr : ∀ w ∈ u_ws R_Pr F_Pr 2, w ∈ xq_W := by
  intro w hw
  obtain ⟨k, hk, rfl⟩ := List.mem_map.mp hw
  have hk := List.mem_range.mp hk
  match k, hk with
  | 0, _ => exact kw42
  | 1, _ => exact kw43
def R_Gr : String := "StepText$Grammar"
def F_Gr : u_T := fun k => match k with
  | 0 => ("StepText$Grammar", "words", "LStepText$Words;", true)
  | 1 => ("StepText$Grammar", "names", "LStepText$Names;", false)
  | 2 => ("StepText$Grammar", "nodes", "LStepText$Nodes;", false)
  | _ => ("StepText$Grammar", "wrongPlace", "I", false)
def t_Gr : Nat → FieldType := fun k => match k with
  | 0 => .object "StepText$Words"
  | 1 => .object "StepText$Names"
  | 2 => .object "StepText$Nodes"
  | _ => .int
theorem n_Gr : ∀ a, a < 4 → ∀ b, b < 4 → a ≠ b → (F_Gr a).2.1 ≠ (F_Gr b).2.1 := by decide +kernel
theorem t_Gr_ok : ∀ k, k < 4 → parseFieldDescriptor (F_Gr k).2.2.1 = some (t_Gr k) := by decide +kernel
theorem in_Gr : ∀ w ∈ u_ws R_Gr F_Gr 4, w ∈ xq_W := by
  intro w hw
  obtain ⟨k, hk, rfl⟩ := List.mem_map.mp hw
  have hk := List.mem_range.mp hk
  match k, hk with
  | 0, _ => exact kw44
  | 1, _ => exact kw45
  | 2, _ => exact kw46
  | 3, _ => exact kw47
def R_Pg : String := "StepText$Page"
def F_Pg : u_T := fun k => match k with
  | 0 => ("StepText$Page", "keywords", "LStepText$Keywords;", true)
  | 1 => ("StepText$Page", "bytes", "[B", true)
  | 2 => ("StepText$Page", "length", "I", false)
  | 3 => ("StepText$Page", "names", "LStepText$Names;", false)
  | _ => ("StepText$Page", "nodes", "LStepText$Nodes;", false)
def t_Pg : Nat → FieldType := fun k => match k with
  | 0 => .object "StepText$Keywords"
  | 1 => .array .byte
  | 2 => .int
  | 3 => .object "StepText$Names"
  | _ => .object "StepText$Nodes"
theorem n_Pg : ∀ a, a < 5 → ∀ b, b < 5 → a ≠ b → (F_Pg a).2.1 ≠ (F_Pg b).2.1 := by decide +kernel
theorem t_Pg_ok : ∀ k, k < 5 → parseFieldDescriptor (F_Pg k).2.2.1 = some (t_Pg k) := by decide +kernel
theorem in_Pg : ∀ w ∈ u_ws R_Pg F_Pg 5, w ∈ xq_W := by
  intro w hw
  obtain ⟨k, hk, rfl⟩ := List.mem_map.mp hw
  have hk := List.mem_range.mp hk
  match k, hk with
  | 0, _ => exact kw48
  | 1, _ => exact kw49
  | 2, _ => exact kw50
  | 3, _ => exact kw51
  | 4, _ => exact kw52
abbrev vwCl : List vw_C := [(R_St, F_St, 7), (R_Kw, F_Kw, 1), (R_Wd, F_Wd, 15), (R_Nm, F_Nm, 5), (R_Nd, F_Nd, 14), (R_Pr, F_Pr, 2), (R_Gr, F_Gr, 4), (R_Pg, F_Pg, 5)]
abbrev xt (k : Nat → ClassId) : List (ClassId × FieldType) := [(k 0, .int), (k 1, .long), (k 2, .byte), (k 3, .boolean)]
abbrev T_St : Type := Int32 × Int64
abbrev St_paged (z : T_St) : Int32 := z.1
abbrev St_barred (z : T_St) : Int64 := z.2
def w_St (k : Nat → ClassId) (ad : Nat → Nat) (p_words : Nat) (p_grammar : Nat) (p_page : Nat) (p_program : Nat) (p_spare : Nat) (z : T_St) : va_W := [(ad 0, .inr (0, [.ref p_words, .ref p_grammar, .ref p_page, .ref p_program, .ref p_spare, .int z.1, .long z.2]))]
abbrev T_Kw : Type := (Nat → Int64)
abbrev Kw_packed (z : T_Kw) : Nat → Int64 := z
def w_Kw (k : Nat → ClassId) (ad : Nat → Nat) (z : T_Kw) : va_W := [(ad 0, .inr (1, [.ref (ad 1)])), (ad 1, .inl (k 1, 26, .inr (.inl z)))]
abbrev T_Wd : Type := (Nat → Int32) × (Nat → Int32) × (Nat → Int32) × (Nat → Int32) × (Nat → Int64) × Int32 × Int32 × Int32 × Int32 × Int32 × Int32 × Int32 × Int32 × Int64
abbrev Wd_text (z : T_Wd) : Nat → Int32 := z.1
abbrev Wd_codes (z : T_Wd) : Nat → Int32 := z.2.1
abbrev Wd_places (z : T_Wd) : Nat → Int32 := z.2.2.1
abbrev Wd_rows (z : T_Wd) : Nat → Int32 := z.2.2.2.1
abbrev Wd_values (z : T_Wd) : Nat → Int64 := z.2.2.2.2.1
abbrev Wd_length (z : T_Wd) : Int32 := z.2.2.2.2.2.1
abbrev Wd_count (z : T_Wd) : Int32 := z.2.2.2.2.2.2.1
abbrev Wd_current (z : T_Wd) : Int32 := z.2.2.2.2.2.2.2.1
abbrev Wd_scan (z : T_Wd) : Int32 := z.2.2.2.2.2.2.2.2.1
abbrev Wd_scanRow (z : T_Wd) : Int32 := z.2.2.2.2.2.2.2.2.2.1
abbrev Wd_code (z : T_Wd) : Int32 := z.2.2.2.2.2.2.2.2.2.2.1
abbrev Wd_place (z : T_Wd) : Int32 := z.2.2.2.2.2.2.2.2.2.2.2.1
abbrev Wd_row (z : T_Wd) : Int32 := z.2.2.2.2.2.2.2.2.2.2.2.2.1
abbrev Wd_value (z : T_Wd) : Int64 := z.2.2.2.2.2.2.2.2.2.2.2.2.2
def w_Wd (k : Nat → ClassId) (ad : Nat → Nat) (p_keywords : Nat) (z : T_Wd) : va_W := [(ad 0, .inr (2, [.ref p_keywords, .ref (ad 1), .ref (ad 2), .ref (ad 3), .ref (ad 4), .ref (ad 5), .int z.2.2.2.2.2.1, .int z.2.2.2.2.2.2.1, .int z.2.2.2.2.2.2.2.1, .int z.2.2.2.2.2.2.2.2.1, .int z.2.2.2.2.2.2.2.2.2.1, .int z.2.2.2.2.2.2.2.2.2.2.1, .int z.2.2.2.2.2.2.2.2.2.2.2.1, .int z.2.2.2.2.2.2.2.2.2.2.2.2.1, .long z.2.2.2.2.2.2.2.2.2.2.2.2.2])), (ad 1, .inl (k 2, 4000, .inl z.1)), (ad 2, .inl (k 0, 4001, .inl z.2.1)), (ad 3, .inl (k 0, 4001, .inl z.2.2.1)), (ad 4, .inl (k 0, 4001, .inl z.2.2.2.1)), (ad 5, .inl (k 1, 4001, .inr (.inl z.2.2.2.2.1)))]
abbrev T_Nm : Type := (Nat → Int64) × (Nat → Int32) × (Nat → Int32) × (Nat → Int32) × Int32
abbrev Nm_letters (z : T_Nm) : Nat → Int64 := z.1
abbrev Nm_sorts (z : T_Nm) : Nat → Int32 := z.2.1
abbrev Nm_measures (z : T_Nm) : Nat → Int32 := z.2.2.1
abbrev Nm_used (z : T_Nm) : Nat → Int32 := z.2.2.2.1
abbrev Nm_count (z : T_Nm) : Int32 := z.2.2.2.2
def w_Nm (k : Nat → ClassId) (ad : Nat → Nat) (z : T_Nm) : va_W := [(ad 0, .inr (3, [.ref (ad 1), .ref (ad 2), .ref (ad 3), .ref (ad 4), .int z.2.2.2.2])), (ad 1, .inl (k 1, 100, .inr (.inl z.1))), (ad 2, .inl (k 0, 100, .inl z.2.1)), (ad 3, .inl (k 0, 100, .inl z.2.2.1)), (ad 4, .inl (k 3, 100, .inl z.2.2.2.1))]
abbrev T_Nd : Type := (Nat → Int32) × (Nat → Int32) × (Nat → Int64) × (Nat → Int32) × (Nat → Int32) × (Nat → Int32) × (Nat → Int32) × (Nat → Int32) × (Nat → Int32) × (Nat → Int32) × Int32 × Int32 × Int32 × Int32
abbrev Nd_kinds (z : T_Nd) : Nat → Int32 := z.1
abbrev Nd_rows (z : T_Nd) : Nat → Int32 := z.2.1
abbrev Nd_values (z : T_Nd) : Nat → Int64 := z.2.2.1
abbrev Nd_measures (z : T_Nd) : Nat → Int32 := z.2.2.2.1
abbrev Nd_lows (z : T_Nd) : Nat → Int32 := z.2.2.2.2.1
abbrev Nd_sizes (z : T_Nd) : Nat → Int32 := z.2.2.2.2.2.1
abbrev Nd_parents (z : T_Nd) : Nat → Int32 := z.2.2.2.2.2.2.1
abbrev Nd_firsts (z : T_Nd) : Nat → Int32 := z.2.2.2.2.2.2.2.1
abbrev Nd_nexts (z : T_Nd) : Nat → Int32 := z.2.2.2.2.2.2.2.2.1
abbrev Nd_late (z : T_Nd) : Nat → Int32 := z.2.2.2.2.2.2.2.2.2.1
abbrev Nd_count (z : T_Nd) : Int32 := z.2.2.2.2.2.2.2.2.2.2.1
abbrev Nd_outerFirst (z : T_Nd) : Int32 := z.2.2.2.2.2.2.2.2.2.2.2.1
abbrev Nd_outerSize (z : T_Nd) : Int32 := z.2.2.2.2.2.2.2.2.2.2.2.2.1
abbrev Nd_statements (z : T_Nd) : Int32 := z.2.2.2.2.2.2.2.2.2.2.2.2.2
def w_Nd (k : Nat → ClassId) (ad : Nat → Nat) (z : T_Nd) : va_W := [(ad 0, .inr (4, [.ref (ad 1), .ref (ad 2), .ref (ad 3), .ref (ad 4), .ref (ad 5), .ref (ad 6), .ref (ad 7), .ref (ad 8), .ref (ad 9), .ref (ad 10), .int z.2.2.2.2.2.2.2.2.2.2.1, .int z.2.2.2.2.2.2.2.2.2.2.2.1, .int z.2.2.2.2.2.2.2.2.2.2.2.2.1, .int z.2.2.2.2.2.2.2.2.2.2.2.2.2])), (ad 1, .inl (k 0, 1070, .inl z.1)), (ad 2, .inl (k 0, 1070, .inl z.2.1)), (ad 3, .inl (k 1, 1070, .inr (.inl z.2.2.1))), (ad 4, .inl (k 0, 1070, .inl z.2.2.2.1)), (ad 5, .inl (k 0, 1070, .inl z.2.2.2.2.1)), (ad 6, .inl (k 0, 1070, .inl z.2.2.2.2.2.1)), (ad 7, .inl (k 0, 1070, .inl z.2.2.2.2.2.2.1)), (ad 8, .inl (k 0, 1070, .inl z.2.2.2.2.2.2.2.1)), (ad 9, .inl (k 0, 1070, .inl z.2.2.2.2.2.2.2.2.1)), (ad 10, .inl (k 3, 1070, .inl z.2.2.2.2.2.2.2.2.2.1))]
abbrev T_Pr : Type := Unit
def w_Pr (k : Nat → ClassId) (ad : Nat → Nat) (p_names : Nat) (p_nodes : Nat) (z : T_Pr) : va_W := [(ad 0, .inr (5, [.ref p_names, .ref p_nodes]))]
abbrev T_Gr : Type := Int32
abbrev Gr_wrongPlace (z : T_Gr) : Int32 := z
def w_Gr (k : Nat → ClassId) (ad : Nat → Nat) (p_words : Nat) (p_names : Nat) (p_nodes : Nat) (z : T_Gr) : va_W := [(ad 0, .inr (6, [.ref p_words, .ref p_names, .ref p_nodes, .int z]))]
abbrev T_Pg : Type := (Nat → Int32) × Int32
abbrev Pg_bytes (z : T_Pg) : Nat → Int32 := z.1
abbrev Pg_length (z : T_Pg) : Int32 := z.2
def w_Pg (k : Nat → ClassId) (ad : Nat → Nat) (p_keywords : Nat) (p_names : Nat) (p_nodes : Nat) (z : T_Pg) : va_W := [(ad 0, .inr (7, [.ref p_keywords, .ref (ad 1), .int z.2, .ref p_names, .ref p_nodes])), (ad 1, .inl (k 2, 12000, .inl z.1))]
