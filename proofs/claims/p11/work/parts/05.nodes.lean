theorem kw1_193 : (Jvm.Cond.fieldLink "StepText$Nodes" (48 : Nat) "StepText$Nodes" "count" "I") ∈ xq_W := xq_in tb_1 193 (by decide +kernel) rfl
theorem kw1_194 : (Jvm.Cond.fieldLink "StepText$Nodes" (44 : Nat) "StepText$Nodes" "outerFirst" "I") ∈ xq_W := xq_in tb_1 194 (by decide +kernel) rfl
theorem kw1_195 : (Jvm.Cond.fieldLink "StepText$Nodes" (51 : Nat) "StepText$Nodes" "outerSize" "I") ∈ xq_W := xq_in tb_1 195 (by decide +kernel) rfl
theorem kw1_196 : (Jvm.Cond.fieldLink "StepText$Nodes" (54 : Nat) "StepText$Nodes" "statements" "I") ∈ xq_W := xq_in tb_1 196 (by decide +kernel) rfl
theorem kw2_148 : (Jvm.Cond.code ({ cls := "StepText$Nodes", name := "empty", desc := "()V" } : Jvm.MethodName) prog_5_method_2_code (1 : Nat) (Option.none : Option Jvm.ClassFile.FieldType)) ∈ xq_W := xq_in tb_2 148 (by decide +kernel) rfl
theorem kw1_10 : (Jvm.Cond.initialized "StepText$Nodes") ∈ xq_W := xq_in tb_1 10 (by decide +kernel) rfl
theorem kw2_146 : (Jvm.Cond.instanceMethod ({ cls := "StepText$Nodes", name := "empty", desc := "()V" } : Jvm.MethodName)) ∈ xq_W := xq_in tb_2 146 (by decide +kernel) rfl
theorem kw2_147 : (Jvm.Cond.selects "StepText$Nodes" ({ cls := "StepText$Nodes", name := "empty", desc := "()V" } : Jvm.MethodName) ({ cls := "StepText$Nodes", name := "empty", desc := "()V" } : Jvm.MethodName)) ∈ xq_W := xq_in tb_2 147 (by decide +kernel) rfl
theorem kw3_2 : (Jvm.Cond.code ({ cls := "StepText$Nodes", name := "count", desc := "()I" } : Jvm.MethodName) prog_5_method_3_code (1 : Nat) (Option.some Jvm.ClassFile.FieldType.int)) ∈ xq_W := xq_in tb_3 2 (by decide +kernel) rfl
theorem kw3_0 : (Jvm.Cond.instanceMethod ({ cls := "StepText$Nodes", name := "count", desc := "()I" } : Jvm.MethodName)) ∈ xq_W := xq_in tb_3 0 (by decide +kernel) rfl
theorem kw3_1 : (Jvm.Cond.selects "StepText$Nodes" ({ cls := "StepText$Nodes", name := "count", desc := "()I" } : Jvm.MethodName) ({ cls := "StepText$Nodes", name := "count", desc := "()I" } : Jvm.MethodName)) ∈ xq_W := xq_in tb_3 1 (by decide +kernel) rfl
theorem kw3_181 : (Jvm.Cond.code ({ cls := "StepText$Nodes", name := "statements", desc := "()I" } : Jvm.MethodName) prog_5_method_4_code (1 : Nat) (Option.some Jvm.ClassFile.FieldType.int)) ∈ xq_W := xq_in tb_3 181 (by decide +kernel) rfl
theorem kw3_179 : (Jvm.Cond.instanceMethod ({ cls := "StepText$Nodes", name := "statements", desc := "()I" } : Jvm.MethodName)) ∈ xq_W := xq_in tb_3 179 (by decide +kernel) rfl
theorem kw3_180 : (Jvm.Cond.selects "StepText$Nodes" ({ cls := "StepText$Nodes", name := "statements", desc := "()I" } : Jvm.MethodName) ({ cls := "StepText$Nodes", name := "statements", desc := "()I" } : Jvm.MethodName)) ∈ xq_W := xq_in tb_3 180 (by decide +kernel) rfl
theorem kw2_164 : (Jvm.Cond.code ({ cls := "StepText$Nodes", name := "isTooMany", desc := "()Z" } : Jvm.MethodName) prog_5_method_5_code (1 : Nat) (Option.some Jvm.ClassFile.FieldType.boolean)) ∈ xq_W := xq_in tb_2 164 (by decide +kernel) rfl
theorem kw2_162 : (Jvm.Cond.instanceMethod ({ cls := "StepText$Nodes", name := "isTooMany", desc := "()Z" } : Jvm.MethodName)) ∈ xq_W := xq_in tb_2 162 (by decide +kernel) rfl
theorem kw2_163 : (Jvm.Cond.selects "StepText$Nodes" ({ cls := "StepText$Nodes", name := "isTooMany", desc := "()Z" } : Jvm.MethodName) ({ cls := "StepText$Nodes", name := "isTooMany", desc := "()Z" } : Jvm.MethodName)) ∈ xq_W := xq_in tb_2 163 (by decide +kernel) rfl
theorem kw3_86 : (Jvm.Cond.code ({ cls := "StepText$Nodes", name := "has", desc := "(I)Z" } : Jvm.MethodName) prog_5_method_6_code (2 : Nat) (Option.some Jvm.ClassFile.FieldType.boolean)) ∈ xq_W := xq_in tb_3 86 (by decide +kernel) rfl
theorem kw3_84 : (Jvm.Cond.instanceMethod ({ cls := "StepText$Nodes", name := "has", desc := "(I)Z" } : Jvm.MethodName)) ∈ xq_W := xq_in tb_3 84 (by decide +kernel) rfl
theorem kw3_85 : (Jvm.Cond.selects "StepText$Nodes" ({ cls := "StepText$Nodes", name := "has", desc := "(I)Z" } : Jvm.MethodName) ({ cls := "StepText$Nodes", name := "has", desc := "(I)Z" } : Jvm.MethodName)) ∈ xq_W := xq_in tb_3 85 (by decide +kernel) rfl
theorem kw1_189 : (Jvm.Cond.fieldLink "StepText$Nodes" (31 : Nat) "StepText$Nodes" "parents" "[I") ∈ xq_W := xq_in tb_1 189 (by decide +kernel) rfl
theorem kw1_191 : (Jvm.Cond.fieldLink "StepText$Nodes" (37 : Nat) "StepText$Nodes" "nexts" "[I") ∈ xq_W := xq_in tb_1 191 (by decide +kernel) rfl
theorem kw1_187 : (Jvm.Cond.fieldLink "StepText$Nodes" (25 : Nat) "StepText$Nodes" "lows" "[I") ∈ xq_W := xq_in tb_1 187 (by decide +kernel) rfl
theorem kw3_74 : (Jvm.Cond.code ({ cls := "StepText$Nodes", name := "chainFrom", desc := "(II)I" } : Jvm.MethodName) prog_5_method_9_code (6 : Nat) (Option.some Jvm.ClassFile.FieldType.int)) ∈ xq_W := xq_in tb_3 74 (by decide +kernel) rfl
theorem kw3_73 : (Jvm.Cond.instanceMethod ({ cls := "StepText$Nodes", name := "chainFrom", desc := "(II)I" } : Jvm.MethodName)) ∈ xq_W := xq_in tb_3 73 (by decide +kernel) rfl
theorem kp2_7 : Cond.selects "StepText$Nodes" (⟨"StepText$Nodes", "chainFrom", "(II)I"⟩ : MethodName) (⟨"StepText$Nodes", "chainFrom", "(II)I"⟩ : MethodName) ∈ xq_W := xq_inp tp_2 (y := (⟨"StepText$Nodes", "chainFrom", "(II)I"⟩ : MethodName)) (k := 14) 7 (by decide +kernel)
theorem kw1_192 : (Jvm.Cond.fieldLink "StepText$Nodes" (40 : Nat) "StepText$Nodes" "late" "[Z") ∈ xq_W := xq_in tb_1 192 (by decide +kernel) rfl
theorem kw1_183 : (Jvm.Cond.fieldLink "StepText$Nodes" (11 : Nat) "StepText$Nodes" "kinds" "[I") ∈ xq_W := xq_in tb_1 183 (by decide +kernel) rfl
theorem kw3_78 : (Jvm.Cond.code ({ cls := "StepText$Nodes", name := "followChain", desc := "(I)I" } : Jvm.MethodName) prog_5_method_10_code (5 : Nat) (Option.some Jvm.ClassFile.FieldType.int)) ∈ xq_W := xq_in tb_3 78 (by decide +kernel) rfl
theorem kw3_77 : (Jvm.Cond.instanceMethod ({ cls := "StepText$Nodes", name := "followChain", desc := "(I)I" } : Jvm.MethodName)) ∈ xq_W := xq_in tb_3 77 (by decide +kernel) rfl
theorem kp2_8 : Cond.selects "StepText$Nodes" (⟨"StepText$Nodes", "followChain", "(I)I"⟩ : MethodName) (⟨"StepText$Nodes", "followChain", "(I)I"⟩ : MethodName) ∈ xq_W := xq_inp tp_2 (y := (⟨"StepText$Nodes", "followChain", "(I)I"⟩ : MethodName)) (k := 14) 8 (by decide +kernel)
theorem kw1_184 : (Jvm.Cond.fieldLink "StepText$Nodes" (15 : Nat) "StepText$Nodes" "rows" "[I") ∈ xq_W := xq_in tb_1 184 (by decide +kernel) rfl
theorem kw1_185 : (Jvm.Cond.fieldLink "StepText$Nodes" (18 : Nat) "StepText$Nodes" "values" "[J") ∈ xq_W := xq_in tb_1 185 (by decide +kernel) rfl
theorem kw1_186 : (Jvm.Cond.fieldLink "StepText$Nodes" (22 : Nat) "StepText$Nodes" "measures" "[I") ∈ xq_W := xq_in tb_1 186 (by decide +kernel) rfl
theorem kw1_190 : (Jvm.Cond.fieldLink "StepText$Nodes" (34 : Nat) "StepText$Nodes" "firsts" "[I") ∈ xq_W := xq_in tb_1 190 (by decide +kernel) rfl
theorem kw3_71 : (Jvm.Cond.methodLink "StepText$Nodes" (57 : Nat) ({ cls := "StepText$Nodes", name := "chainFrom", desc := "(II)I" } : Jvm.MethodName)) ∈ xq_W := xq_in tb_3 71 (by decide +kernel) rfl
theorem kw1_188 : (Jvm.Cond.fieldLink "StepText$Nodes" (28 : Nat) "StepText$Nodes" "sizes" "[I") ∈ xq_W := xq_in tb_1 188 (by decide +kernel) rfl
theorem kw3_75 : (Jvm.Cond.methodLink "StepText$Nodes" (61 : Nat) ({ cls := "StepText$Nodes", name := "followChain", desc := "(I)I" } : Jvm.MethodName)) ∈ xq_W := xq_in tb_3 75 (by decide +kernel) rfl
theorem kw3_70 : (Jvm.Cond.code ({ cls := "StepText$Nodes", name := "add", desc := "(IIIJI)I" } : Jvm.MethodName) prog_5_method_7_code (8 : Nat) (Option.some Jvm.ClassFile.FieldType.int)) ∈ xq_W := xq_in tb_3 70 (by decide +kernel) rfl
theorem kw3_68 : (Jvm.Cond.instanceMethod ({ cls := "StepText$Nodes", name := "add", desc := "(IIIJI)I" } : Jvm.MethodName)) ∈ xq_W := xq_in tb_3 68 (by decide +kernel) rfl
theorem kw3_69 : (Jvm.Cond.selects "StepText$Nodes" ({ cls := "StepText$Nodes", name := "add", desc := "(IIIJI)I" } : Jvm.MethodName) ({ cls := "StepText$Nodes", name := "add", desc := "(IIIJI)I" } : Jvm.MethodName)) ∈ xq_W := xq_in tb_3 69 (by decide +kernel) rfl
theorem kw3_149 : (Jvm.Cond.code ({ cls := "StepText$Nodes", name := "finish", desc := "()V" } : Jvm.MethodName) prog_5_method_8_code (1 : Nat) (Option.none : Option Jvm.ClassFile.FieldType)) ∈ xq_W := xq_in tb_3 149 (by decide +kernel) rfl
theorem kw3_147 : (Jvm.Cond.instanceMethod ({ cls := "StepText$Nodes", name := "finish", desc := "()V" } : Jvm.MethodName)) ∈ xq_W := xq_in tb_3 147 (by decide +kernel) rfl
theorem kw3_148 : (Jvm.Cond.selects "StepText$Nodes" ({ cls := "StepText$Nodes", name := "finish", desc := "()V" } : Jvm.MethodName) ({ cls := "StepText$Nodes", name := "finish", desc := "()V" } : Jvm.MethodName)) ∈ xq_W := xq_in tb_3 148 (by decide +kernel) rfl
theorem kw3_129 : (Jvm.Cond.code ({ cls := "StepText$Nodes", name := "endsWithSemicolon", desc := "(I)Z" } : Jvm.MethodName) prog_5_method_11_code (1 : Nat) (Option.some Jvm.ClassFile.FieldType.boolean)) ∈ xq_W := xq_in tb_3 129 (by decide +kernel) rfl
theorem kw3_128 : (Jvm.Cond.static ({ cls := "StepText$Nodes", name := "endsWithSemicolon", desc := "(I)Z" } : Jvm.MethodName)) ∈ xq_W := xq_in tb_3 128 (by decide +kernel) rfl
theorem kw3_83 : (Jvm.Cond.methodLink "StepText$Nodes" (65 : Nat) ({ cls := "StepText$Nodes", name := "has", desc := "(I)Z" } : Jvm.MethodName)) ∈ xq_W := xq_in tb_3 83 (by decide +kernel) rfl
theorem kw3_158 : (Jvm.Cond.code ({ cls := "StepText$Nodes", name := "kindOf", desc := "(I)I" } : Jvm.MethodName) prog_5_method_12_code (2 : Nat) (Option.some Jvm.ClassFile.FieldType.int)) ∈ xq_W := xq_in tb_3 158 (by decide +kernel) rfl
theorem kw3_156 : (Jvm.Cond.instanceMethod ({ cls := "StepText$Nodes", name := "kindOf", desc := "(I)I" } : Jvm.MethodName)) ∈ xq_W := xq_in tb_3 156 (by decide +kernel) rfl
theorem kw3_157 : (Jvm.Cond.selects "StepText$Nodes" ({ cls := "StepText$Nodes", name := "kindOf", desc := "(I)I" } : Jvm.MethodName) ({ cls := "StepText$Nodes", name := "kindOf", desc := "(I)I" } : Jvm.MethodName)) ∈ xq_W := xq_in tb_3 157 (by decide +kernel) rfl
theorem kw3_108 : (Jvm.Cond.code ({ cls := "StepText$Nodes", name := "lowOf", desc := "(I)I" } : Jvm.MethodName) prog_5_method_13_code (2 : Nat) (Option.some Jvm.ClassFile.FieldType.int)) ∈ xq_W := xq_in tb_3 108 (by decide +kernel) rfl
theorem kw3_106 : (Jvm.Cond.instanceMethod ({ cls := "StepText$Nodes", name := "lowOf", desc := "(I)I" } : Jvm.MethodName)) ∈ xq_W := xq_in tb_3 106 (by decide +kernel) rfl
theorem kw3_107 : (Jvm.Cond.selects "StepText$Nodes" ({ cls := "StepText$Nodes", name := "lowOf", desc := "(I)I" } : Jvm.MethodName) ({ cls := "StepText$Nodes", name := "lowOf", desc := "(I)I" } : Jvm.MethodName)) ∈ xq_W := xq_in tb_3 107 (by decide +kernel) rfl
theorem kw3_112 : (Jvm.Cond.code ({ cls := "StepText$Nodes", name := "rowOf", desc := "(I)I" } : Jvm.MethodName) prog_5_method_14_code (2 : Nat) (Option.some Jvm.ClassFile.FieldType.int)) ∈ xq_W := xq_in tb_3 112 (by decide +kernel) rfl
theorem kw3_110 : (Jvm.Cond.instanceMethod ({ cls := "StepText$Nodes", name := "rowOf", desc := "(I)I" } : Jvm.MethodName)) ∈ xq_W := xq_in tb_3 110 (by decide +kernel) rfl
theorem kw3_111 : (Jvm.Cond.selects "StepText$Nodes" ({ cls := "StepText$Nodes", name := "rowOf", desc := "(I)I" } : Jvm.MethodName) ({ cls := "StepText$Nodes", name := "rowOf", desc := "(I)I" } : Jvm.MethodName)) ∈ xq_W := xq_in tb_3 111 (by decide +kernel) rfl
theorem kw3_167 : (Jvm.Cond.constantLong "StepText$Nodes" (69 : Nat) (-1 : Int64)) ∈ xq_W := xq_in tb_3 167 (by decide +kernel) rfl
theorem kw3_166 : (Jvm.Cond.code ({ cls := "StepText$Nodes", name := "valueOf", desc := "(I)J" } : Jvm.MethodName) prog_5_method_15_code (2 : Nat) (Option.some Jvm.ClassFile.FieldType.long)) ∈ xq_W := xq_in tb_3 166 (by decide +kernel) rfl
theorem kw3_164 : (Jvm.Cond.instanceMethod ({ cls := "StepText$Nodes", name := "valueOf", desc := "(I)J" } : Jvm.MethodName)) ∈ xq_W := xq_in tb_3 164 (by decide +kernel) rfl
theorem kw3_165 : (Jvm.Cond.selects "StepText$Nodes" ({ cls := "StepText$Nodes", name := "valueOf", desc := "(I)J" } : Jvm.MethodName) ({ cls := "StepText$Nodes", name := "valueOf", desc := "(I)J" } : Jvm.MethodName)) ∈ xq_W := xq_in tb_3 165 (by decide +kernel) rfl
theorem kw3_163 : (Jvm.Cond.methodLink "StepText$Nodes" (71 : Nat) ({ cls := "StepText$Nodes", name := "valueOf", desc := "(I)J" } : Jvm.MethodName)) ∈ xq_W := xq_in tb_3 163 (by decide +kernel) rfl
theorem kw3_162 : (Jvm.Cond.code ({ cls := "StepText$Nodes", name := "subjectOf", desc := "(I)I" } : Jvm.MethodName) prog_5_method_16_code (2 : Nat) (Option.some Jvm.ClassFile.FieldType.int)) ∈ xq_W := xq_in tb_3 162 (by decide +kernel) rfl
theorem kw3_160 : (Jvm.Cond.instanceMethod ({ cls := "StepText$Nodes", name := "subjectOf", desc := "(I)I" } : Jvm.MethodName)) ∈ xq_W := xq_in tb_3 160 (by decide +kernel) rfl
theorem kw3_161 : (Jvm.Cond.selects "StepText$Nodes" ({ cls := "StepText$Nodes", name := "subjectOf", desc := "(I)I" } : Jvm.MethodName) ({ cls := "StepText$Nodes", name := "subjectOf", desc := "(I)I" } : Jvm.MethodName)) ∈ xq_W := xq_in tb_3 161 (by decide +kernel) rfl
theorem kw3_82 : (Jvm.Cond.code ({ cls := "StepText$Nodes", name := "measureOf", desc := "(I)I" } : Jvm.MethodName) prog_5_method_17_code (2 : Nat) (Option.some Jvm.ClassFile.FieldType.int)) ∈ xq_W := xq_in tb_3 82 (by decide +kernel) rfl
theorem kw3_80 : (Jvm.Cond.instanceMethod ({ cls := "StepText$Nodes", name := "measureOf", desc := "(I)I" } : Jvm.MethodName)) ∈ xq_W := xq_in tb_3 80 (by decide +kernel) rfl
theorem kw3_81 : (Jvm.Cond.selects "StepText$Nodes" ({ cls := "StepText$Nodes", name := "measureOf", desc := "(I)I" } : Jvm.MethodName) ({ cls := "StepText$Nodes", name := "measureOf", desc := "(I)I" } : Jvm.MethodName)) ∈ xq_W := xq_in tb_3 81 (by decide +kernel) rfl
theorem kw3_198 : (Jvm.Cond.code ({ cls := "StepText$Nodes", name := "sizeOf", desc := "(I)I" } : Jvm.MethodName) prog_5_method_18_code (2 : Nat) (Option.some Jvm.ClassFile.FieldType.int)) ∈ xq_W := xq_in tb_3 198 (by decide +kernel) rfl
theorem kw3_196 : (Jvm.Cond.instanceMethod ({ cls := "StepText$Nodes", name := "sizeOf", desc := "(I)I" } : Jvm.MethodName)) ∈ xq_W := xq_in tb_3 196 (by decide +kernel) rfl
theorem kw3_197 : (Jvm.Cond.selects "StepText$Nodes" ({ cls := "StepText$Nodes", name := "sizeOf", desc := "(I)I" } : Jvm.MethodName) ({ cls := "StepText$Nodes", name := "sizeOf", desc := "(I)I" } : Jvm.MethodName)) ∈ xq_W := xq_in tb_3 197 (by decide +kernel) rfl
theorem kw4_102 : (Jvm.Cond.code ({ cls := "StepText$Nodes", name := "parentOf", desc := "(I)I" } : Jvm.MethodName) prog_5_method_19_code (2 : Nat) (Option.some Jvm.ClassFile.FieldType.int)) ∈ xq_W := xq_in tb_4 102 (by decide +kernel) rfl
theorem kw4_100 : (Jvm.Cond.instanceMethod ({ cls := "StepText$Nodes", name := "parentOf", desc := "(I)I" } : Jvm.MethodName)) ∈ xq_W := xq_in tb_4 100 (by decide +kernel) rfl
theorem kw4_101 : (Jvm.Cond.selects "StepText$Nodes" ({ cls := "StepText$Nodes", name := "parentOf", desc := "(I)I" } : Jvm.MethodName) ({ cls := "StepText$Nodes", name := "parentOf", desc := "(I)I" } : Jvm.MethodName)) ∈ xq_W := xq_in tb_4 101 (by decide +kernel) rfl
theorem kw3_206 : (Jvm.Cond.code ({ cls := "StepText$Nodes", name := "nextOf", desc := "(I)I" } : Jvm.MethodName) prog_5_method_20_code (2 : Nat) (Option.some Jvm.ClassFile.FieldType.int)) ∈ xq_W := xq_in tb_3 206 (by decide +kernel) rfl
theorem kw3_204 : (Jvm.Cond.instanceMethod ({ cls := "StepText$Nodes", name := "nextOf", desc := "(I)I" } : Jvm.MethodName)) ∈ xq_W := xq_in tb_3 204 (by decide +kernel) rfl
theorem kw3_205 : (Jvm.Cond.selects "StepText$Nodes" ({ cls := "StepText$Nodes", name := "nextOf", desc := "(I)I" } : Jvm.MethodName) ({ cls := "StepText$Nodes", name := "nextOf", desc := "(I)I" } : Jvm.MethodName)) ∈ xq_W := xq_in tb_3 205 (by decide +kernel) rfl
theorem kw4_11 : (Jvm.Cond.code ({ cls := "StepText$Nodes", name := "isLate", desc := "(I)Z" } : Jvm.MethodName) prog_5_method_21_code (2 : Nat) (Option.some Jvm.ClassFile.FieldType.boolean)) ∈ xq_W := xq_in tb_4 11 (by decide +kernel) rfl
theorem kw4_9 : (Jvm.Cond.instanceMethod ({ cls := "StepText$Nodes", name := "isLate", desc := "(I)Z" } : Jvm.MethodName)) ∈ xq_W := xq_in tb_4 9 (by decide +kernel) rfl
theorem kw4_10 : (Jvm.Cond.selects "StepText$Nodes" ({ cls := "StepText$Nodes", name := "isLate", desc := "(I)Z" } : Jvm.MethodName) ({ cls := "StepText$Nodes", name := "isLate", desc := "(I)Z" } : Jvm.MethodName)) ∈ xq_W := xq_in tb_4 10 (by decide +kernel) rfl
theorem kw3_202 : (Jvm.Cond.code ({ cls := "StepText$Nodes", name := "firstOf", desc := "(I)I" } : Jvm.MethodName) prog_5_method_22_code (2 : Nat) (Option.some Jvm.ClassFile.FieldType.int)) ∈ xq_W := xq_in tb_3 202 (by decide +kernel) rfl
theorem kw3_200 : (Jvm.Cond.instanceMethod ({ cls := "StepText$Nodes", name := "firstOf", desc := "(I)I" } : Jvm.MethodName)) ∈ xq_W := xq_in tb_3 200 (by decide +kernel) rfl
theorem kw3_201 : (Jvm.Cond.selects "StepText$Nodes" ({ cls := "StepText$Nodes", name := "firstOf", desc := "(I)I" } : Jvm.MethodName) ({ cls := "StepText$Nodes", name := "firstOf", desc := "(I)I" } : Jvm.MethodName)) ∈ xq_W := xq_in tb_3 201 (by decide +kernel) rfl
theorem kw3_195 : (Jvm.Cond.methodLink "StepText$Nodes" (75 : Nat) ({ cls := "StepText$Nodes", name := "sizeOf", desc := "(I)I" } : Jvm.MethodName)) ∈ xq_W := xq_in tb_3 195 (by decide +kernel) rfl
theorem kw3_199 : (Jvm.Cond.methodLink "StepText$Nodes" (78 : Nat) ({ cls := "StepText$Nodes", name := "firstOf", desc := "(I)I" } : Jvm.MethodName)) ∈ xq_W := xq_in tb_3 199 (by decide +kernel) rfl
theorem kw3_203 : (Jvm.Cond.methodLink "StepText$Nodes" (81 : Nat) ({ cls := "StepText$Nodes", name := "nextOf", desc := "(I)I" } : Jvm.MethodName)) ∈ xq_W := xq_in tb_3 203 (by decide +kernel) rfl
theorem kw3_194 : (Jvm.Cond.code ({ cls := "StepText$Nodes", name := "heldBy", desc := "(II)I" } : Jvm.MethodName) prog_5_method_23_code (6 : Nat) (Option.some Jvm.ClassFile.FieldType.int)) ∈ xq_W := xq_in tb_3 194 (by decide +kernel) rfl
theorem kw3_192 : (Jvm.Cond.instanceMethod ({ cls := "StepText$Nodes", name := "heldBy", desc := "(II)I" } : Jvm.MethodName)) ∈ xq_W := xq_in tb_3 192 (by decide +kernel) rfl
theorem kw3_193 : (Jvm.Cond.selects "StepText$Nodes" ({ cls := "StepText$Nodes", name := "heldBy", desc := "(II)I" } : Jvm.MethodName) ({ cls := "StepText$Nodes", name := "heldBy", desc := "(II)I" } : Jvm.MethodName)) ∈ xq_W := xq_in tb_3 193 (by decide +kernel) rfl
theorem kw4_20 : (Jvm.Cond.code ({ cls := "StepText$Nodes", name := "blockOf", desc := "(II)I" } : Jvm.MethodName) prog_5_method_24_code (6 : Nat) (Option.some Jvm.ClassFile.FieldType.int)) ∈ xq_W := xq_in tb_4 20 (by decide +kernel) rfl
theorem kw4_18 : (Jvm.Cond.instanceMethod ({ cls := "StepText$Nodes", name := "blockOf", desc := "(II)I" } : Jvm.MethodName)) ∈ xq_W := xq_in tb_4 18 (by decide +kernel) rfl
theorem kw4_19 : (Jvm.Cond.selects "StepText$Nodes" ({ cls := "StepText$Nodes", name := "blockOf", desc := "(II)I" } : Jvm.MethodName) ({ cls := "StepText$Nodes", name := "blockOf", desc := "(II)I" } : Jvm.MethodName)) ∈ xq_W := xq_in tb_4 19 (by decide +kernel) rfl
def y_Nd_empty : MethodName := ⟨"StepText$Nodes", "empty", "()V"⟩
theorem d_Nd_empty_0 : decode prog_5_method_2_code 0 = .ok (.aload_n 0, 1) := by decide +kernel
theorem d_Nd_empty_1 : decode prog_5_method_2_code 1 = .ok (.iconst 0, 1) := by decide +kernel
theorem d_Nd_empty_2 : decode prog_5_method_2_code 2 = .ok (.putfield 48, 3) := by decide +kernel
theorem d_Nd_empty_5 : decode prog_5_method_2_code 5 = .ok (.aload_n 0, 1) := by decide +kernel
theorem d_Nd_empty_6 : decode prog_5_method_2_code 6 = .ok (.iconst (-1), 1) := by decide +kernel
theorem d_Nd_empty_7 : decode prog_5_method_2_code 7 = .ok (.putfield 44, 3) := by decide +kernel
theorem d_Nd_empty_10 : decode prog_5_method_2_code 10 = .ok (.aload_n 0, 1) := by decide +kernel
theorem d_Nd_empty_11 : decode prog_5_method_2_code 11 = .ok (.iconst 0, 1) := by decide +kernel
theorem d_Nd_empty_12 : decode prog_5_method_2_code 12 = .ok (.putfield 51, 3) := by decide +kernel
theorem d_Nd_empty_15 : decode prog_5_method_2_code 15 = .ok (.aload_n 0, 1) := by decide +kernel
theorem d_Nd_empty_16 : decode prog_5_method_2_code 16 = .ok (.iconst 0, 1) := by decide +kernel
theorem d_Nd_empty_17 : decode prog_5_method_2_code 17 = .ok (.putfield 54, 3) := by decide +kernel
theorem d_Nd_empty_20 : decode prog_5_method_2_code 20 = .ok (.return_, 1) := by decide +kernel
def wp_Nd_empty (z_this : T_Nd) (post : Unit → T_Nd → Prop) : Prop := post () (z_this.1, z_this.2.1, z_this.2.2.1, z_this.2.2.2.1, z_this.2.2.2.2.1, z_this.2.2.2.2.2.1, z_this.2.2.2.2.2.2.1, z_this.2.2.2.2.2.2.2.1, z_this.2.2.2.2.2.2.2.2.1, z_this.2.2.2.2.2.2.2.2.2.1, (0 : Int32), (-1 : Int32), (0 : Int32), (0 : Int32))
def rm_Nd_empty : Room := { frames := 0, cells := 0, slots := 0, locals := 0 }
set_option maxHeartbeats 4000000 in
set_option maxRecDepth 100000 in
theorem c_Nd_empty {l : Launch} {o : State × Array Value} {D : va_G} {k : Nat → ClassId} {ad_this : Nat → Nat} {z_this : T_Nd} {post : Unit → T_Nd → Prop} (hw : wp_Nd_empty z_this post) : xq_C l o y_Nd_empty (.code y_Nd_empty prog_5_method_2_code 1 none :: xq_W) rm_Nd_empty D vwCl (xt k) [.ref (ad_this 0)] (w_Nd k ad_this z_this) (fun _ : Unit => none) post (fun _ : T_Nd => False) (fun u : T_Nd => w_Nd k ad_this u) 0 0 0 0 := by
  refine xq_ofW (cc := prog_5_method_2_code) (maxL := 1) (ret := none) (by decide) rfl (Nat.le_of_ble_eq_true rfl) ?_
  intro p e s m below meth c ls H locs A hAt hAe hA hl hK hJ hP0 hP hD hS
  obtain ⟨hx, hb, hml, hr, hlocks, hown, hts, hex, hnm⟩ := id hAt
  have hl : lv_has ls 1 [(0, .ref (ad_this 0))] := hl
  unfold wp_Nd_empty at hw
  refine lv_aload_n hx hb d_Nd_empty_0 rfl (lv_at hl 0 rfl) ?_
  refine lv_iconst (v := (0 : Int32)) hx hb d_Nd_empty_1 (by decide) ?_
  refine va_put (D := D) (ci := 4) (v := .int (0 : Int32)) (ty := .int) (C := R_Nd) (T := F_Nd) (N := 14) hx hb hts in_Nd t_Nd t_Nd_ok n_Nd hown hK hP hD hS 0 rfl rfl 10 (by decide) (hts (.fieldLink R_Nd 48 R_Nd "count" "I") kw1_193) (fun _ h9 => h9) rfl (by decide +kernel) rfl rfl (Nat.le_of_ble_eq_true rfl) d_Nd_empty_2 (fun H locs hP hD hS => ?_)
  have hP : va_P D vwCl (w_Nd k ad_this (z_this.1, z_this.2.1, z_this.2.2.1, z_this.2.2.2.1, z_this.2.2.2.2.1, z_this.2.2.2.2.2.1, z_this.2.2.2.2.2.2.1, z_this.2.2.2.2.2.2.2.1, z_this.2.2.2.2.2.2.2.2.1, z_this.2.2.2.2.2.2.2.2.2.1, (0 : Int32), z_this.2.2.2.2.2.2.2.2.2.2.2.1, z_this.2.2.2.2.2.2.2.2.2.2.2.2.1, z_this.2.2.2.2.2.2.2.2.2.2.2.2.2)) H := hP
  have hD : va_D A (w_Nd k ad_this (z_this.1, z_this.2.1, z_this.2.2.1, z_this.2.2.2.1, z_this.2.2.2.2.1, z_this.2.2.2.2.2.1, z_this.2.2.2.2.2.2.1, z_this.2.2.2.2.2.2.2.1, z_this.2.2.2.2.2.2.2.2.1, z_this.2.2.2.2.2.2.2.2.2.1, (0 : Int32), z_this.2.2.2.2.2.2.2.2.2.2.2.1, z_this.2.2.2.2.2.2.2.2.2.2.2.2.1, z_this.2.2.2.2.2.2.2.2.2.2.2.2.2)) := hD
  refine lv_aload_n hx hb d_Nd_empty_5 rfl (lv_at hl 0 rfl) ?_
  refine lv_iconst (v := (-1 : Int32)) hx hb d_Nd_empty_6 (by decide) ?_
  refine va_put (D := D) (ci := 4) (v := .int (-1 : Int32)) (ty := .int) (C := R_Nd) (T := F_Nd) (N := 14) hx hb hts in_Nd t_Nd t_Nd_ok n_Nd hown hK hP hD hS 0 rfl rfl 11 (by decide) (hts (.fieldLink R_Nd 44 R_Nd "outerFirst" "I") kw1_194) (fun _ h9 => h9) rfl (by decide +kernel) rfl rfl (Nat.le_of_ble_eq_true rfl) d_Nd_empty_7 (fun H locs hP hD hS => ?_)
  have hP : va_P D vwCl (w_Nd k ad_this (z_this.1, z_this.2.1, z_this.2.2.1, z_this.2.2.2.1, z_this.2.2.2.2.1, z_this.2.2.2.2.2.1, z_this.2.2.2.2.2.2.1, z_this.2.2.2.2.2.2.2.1, z_this.2.2.2.2.2.2.2.2.1, z_this.2.2.2.2.2.2.2.2.2.1, (0 : Int32), (-1 : Int32), z_this.2.2.2.2.2.2.2.2.2.2.2.2.1, z_this.2.2.2.2.2.2.2.2.2.2.2.2.2)) H := hP
  have hD : va_D A (w_Nd k ad_this (z_this.1, z_this.2.1, z_this.2.2.1, z_this.2.2.2.1, z_this.2.2.2.2.1, z_this.2.2.2.2.2.1, z_this.2.2.2.2.2.2.1, z_this.2.2.2.2.2.2.2.1, z_this.2.2.2.2.2.2.2.2.1, z_this.2.2.2.2.2.2.2.2.2.1, (0 : Int32), (-1 : Int32), z_this.2.2.2.2.2.2.2.2.2.2.2.2.1, z_this.2.2.2.2.2.2.2.2.2.2.2.2.2)) := hD
  refine lv_aload_n hx hb d_Nd_empty_10 rfl (lv_at hl 0 rfl) ?_
  refine lv_iconst (v := (0 : Int32)) hx hb d_Nd_empty_11 (by decide) ?_
  refine va_put (D := D) (ci := 4) (v := .int (0 : Int32)) (ty := .int) (C := R_Nd) (T := F_Nd) (N := 14) hx hb hts in_Nd t_Nd t_Nd_ok n_Nd hown hK hP hD hS 0 rfl rfl 12 (by decide) (hts (.fieldLink R_Nd 51 R_Nd "outerSize" "I") kw1_195) (fun _ h9 => h9) rfl (by decide +kernel) rfl rfl (Nat.le_of_ble_eq_true rfl) d_Nd_empty_12 (fun H locs hP hD hS => ?_)
  have hP : va_P D vwCl (w_Nd k ad_this (z_this.1, z_this.2.1, z_this.2.2.1, z_this.2.2.2.1, z_this.2.2.2.2.1, z_this.2.2.2.2.2.1, z_this.2.2.2.2.2.2.1, z_this.2.2.2.2.2.2.2.1, z_this.2.2.2.2.2.2.2.2.1, z_this.2.2.2.2.2.2.2.2.2.1, (0 : Int32), (-1 : Int32), (0 : Int32), z_this.2.2.2.2.2.2.2.2.2.2.2.2.2)) H := hP
  have hD : va_D A (w_Nd k ad_this (z_this.1, z_this.2.1, z_this.2.2.1, z_this.2.2.2.1, z_this.2.2.2.2.1, z_this.2.2.2.2.2.1, z_this.2.2.2.2.2.2.1, z_this.2.2.2.2.2.2.2.1, z_this.2.2.2.2.2.2.2.2.1, z_this.2.2.2.2.2.2.2.2.2.1, (0 : Int32), (-1 : Int32), (0 : Int32), z_this.2.2.2.2.2.2.2.2.2.2.2.2.2)) := hD
  refine lv_aload_n hx hb d_Nd_empty_15 rfl (lv_at hl 0 rfl) ?_
  refine lv_iconst (v := (0 : Int32)) hx hb d_Nd_empty_16 (by decide) ?_
  refine va_put (D := D) (ci := 4) (v := .int (0 : Int32)) (ty := .int) (C := R_Nd) (T := F_Nd) (N := 14) hx hb hts in_Nd t_Nd t_Nd_ok n_Nd hown hK hP hD hS 0 rfl rfl 13 (by decide) (hts (.fieldLink R_Nd 54 R_Nd "statements" "I") kw1_196) (fun _ h9 => h9) rfl (by decide +kernel) rfl rfl (Nat.le_of_ble_eq_true rfl) d_Nd_empty_17 (fun H locs hP hD hS => ?_)
  have hP : va_P D vwCl (w_Nd k ad_this (z_this.1, z_this.2.1, z_this.2.2.1, z_this.2.2.2.1, z_this.2.2.2.2.1, z_this.2.2.2.2.2.1, z_this.2.2.2.2.2.2.1, z_this.2.2.2.2.2.2.2.1, z_this.2.2.2.2.2.2.2.2.1, z_this.2.2.2.2.2.2.2.2.2.1, (0 : Int32), (-1 : Int32), (0 : Int32), (0 : Int32))) H := hP
  have hD : va_D A (w_Nd k ad_this (z_this.1, z_this.2.1, z_this.2.2.1, z_this.2.2.2.1, z_this.2.2.2.2.1, z_this.2.2.2.2.2.1, z_this.2.2.2.2.2.2.1, z_this.2.2.2.2.2.2.2.1, z_this.2.2.2.2.2.2.2.2.1, z_this.2.2.2.2.2.2.2.2.2.1, (0 : Int32), (-1 : Int32), (0 : Int32), (0 : Int32))) := hD
  exact xq_vret (r := ()) (u := (z_this.1, z_this.2.1, z_this.2.2.1, z_this.2.2.2.1, z_this.2.2.2.2.1, z_this.2.2.2.2.2.1, z_this.2.2.2.2.2.2.1, z_this.2.2.2.2.2.2.2.1, z_this.2.2.2.2.2.2.2.2.1, z_this.2.2.2.2.2.2.2.2.2.1, (0 : Int32), (-1 : Int32), (0 : Int32), (0 : Int32))) hx hb hr hlocks hAe hP hD hS rfl hw (Nat.le_of_ble_eq_true rfl) (Nat.le_of_ble_eq_true rfl) d_Nd_empty_20
theorem cw_Nd_empty {R : Room} {s : State} {args : Array Value} {own : String} {index : Nat} (hts : ∀ w ∈ xq_W, w.before args s = true) (hl : .methodLink own index y_Nd_empty ∈ xq_W) {rm : Room} (hR : rm.frames + 1 ≤ R.frames ∧ 8 + (1 + 11) + rm.locals ≤ R.locals) : CallW R s args own "StepText$Nodes" index y_Nd_empty prog_5_method_2_code 1 none (.code y_Nd_empty prog_5_method_2_code 1 none :: xq_W) rm rm.cells rm.slots 0 := ⟨xq_cb 0 hts kw2_148 kw1_10 hl ⟨by decide, by decide, by decide +kernel⟩ hR, hts _ kw2_146, hts _ kw2_147⟩
def y_Nd_count : MethodName := ⟨"StepText$Nodes", "count", "()I"⟩
theorem d_Nd_count_0 : decode prog_5_method_3_code 0 = .ok (.aload_n 0, 1) := by decide +kernel
theorem d_Nd_count_1 : decode prog_5_method_3_code 1 = .ok (.getfield 48, 3) := by decide +kernel
theorem d_Nd_count_4 : decode prog_5_method_3_code 4 = .ok (.ireturn, 1) := by decide +kernel
def wp_Nd_count (z_this : T_Nd) (post : Int32 → Unit → Prop) : Prop := post z_this.2.2.2.2.2.2.2.2.2.2.1 ()
def rm_Nd_count : Room := { frames := 0, cells := 0, slots := 0, locals := 0 }
set_option maxHeartbeats 4000000 in
set_option maxRecDepth 100000 in
theorem c_Nd_count {l : Launch} {o : State × Array Value} {D : va_G} {k : Nat → ClassId} {ad_this : Nat → Nat} {z_this : T_Nd} {post : Int32 → Unit → Prop} (hw : wp_Nd_count z_this post) : xq_C l o y_Nd_count (.code y_Nd_count prog_5_method_3_code 1 (some (.int)) :: xq_W) rm_Nd_count D vwCl (xt k) [.ref (ad_this 0)] (w_Nd k ad_this z_this) (fun r : Int32 => some (.int r)) post (fun _ : Unit => False) (fun u : Unit => w_Nd k ad_this z_this) 0 0 0 0 := by
  refine xq_ofW (cc := prog_5_method_3_code) (maxL := 1) (ret := (some (.int))) (by decide) rfl (Nat.le_of_ble_eq_true rfl) ?_
  intro p e s m below meth c ls H locs A hAt hAe hA hl hK hJ hP0 hP hD hS
  obtain ⟨hx, hb, hml, hr, hlocks, hown, hts, hex, hnm⟩ := id hAt
  have hl : lv_has ls 1 [(0, .ref (ad_this 0))] := hl
  unfold wp_Nd_count at hw
  refine lv_aload_n hx hb d_Nd_count_0 rfl (lv_at hl 0 rfl) ?_
  refine va_get (D := D) (ci := 4) (v := .int z_this.2.2.2.2.2.2.2.2.2.2.1) (C := R_Nd) (T := F_Nd) (N := 14) hx hb hts in_Nd hown hK hP 0 rfl rfl 10 (by decide) (hts (.fieldLink R_Nd 48 R_Nd "count" "I") kw1_193) (fun _ h9 => h9) rfl d_Nd_count_1 ?_
  exact xq_iret (r := z_this.2.2.2.2.2.2.2.2.2.2.1) (u := ()) hx hb hr hlocks hAe hP hD hS rfl hw (Nat.le_of_ble_eq_true rfl) (Nat.le_of_ble_eq_true rfl) d_Nd_count_4
theorem cw_Nd_count {R : Room} {s : State} {args : Array Value} {own : String} {index : Nat} (hts : ∀ w ∈ xq_W, w.before args s = true) (hl : .methodLink own index y_Nd_count ∈ xq_W) {rm : Room} (hR : rm.frames + 1 ≤ R.frames ∧ 8 + (1 + 11) + rm.locals ≤ R.locals) : CallW R s args own "StepText$Nodes" index y_Nd_count prog_5_method_3_code 1 (some (.int)) (.code y_Nd_count prog_5_method_3_code 1 (some (.int)) :: xq_W) rm rm.cells rm.slots 0 := ⟨xq_cb 0 hts kw3_2 kw1_10 hl ⟨by decide, by decide, by decide +kernel⟩ hR, hts _ kw3_0, hts _ kw3_1⟩
def y_Nd_statements : MethodName := ⟨"StepText$Nodes", "statements", "()I"⟩
theorem d_Nd_statements_0 : decode prog_5_method_4_code 0 = .ok (.aload_n 0, 1) := by decide +kernel
theorem d_Nd_statements_1 : decode prog_5_method_4_code 1 = .ok (.getfield 54, 3) := by decide +kernel
theorem d_Nd_statements_4 : decode prog_5_method_4_code 4 = .ok (.ireturn, 1) := by decide +kernel
def wp_Nd_statements (z_this : T_Nd) (post : Int32 → Unit → Prop) : Prop := post z_this.2.2.2.2.2.2.2.2.2.2.2.2.2 ()
def rm_Nd_statements : Room := { frames := 0, cells := 0, slots := 0, locals := 0 }
set_option maxHeartbeats 4000000 in
set_option maxRecDepth 100000 in
theorem c_Nd_statements {l : Launch} {o : State × Array Value} {D : va_G} {k : Nat → ClassId} {ad_this : Nat → Nat} {z_this : T_Nd} {post : Int32 → Unit → Prop} (hw : wp_Nd_statements z_this post) : xq_C l o y_Nd_statements (.code y_Nd_statements prog_5_method_4_code 1 (some (.int)) :: xq_W) rm_Nd_statements D vwCl (xt k) [.ref (ad_this 0)] (w_Nd k ad_this z_this) (fun r : Int32 => some (.int r)) post (fun _ : Unit => False) (fun u : Unit => w_Nd k ad_this z_this) 0 0 0 0 := by
  refine xq_ofW (cc := prog_5_method_4_code) (maxL := 1) (ret := (some (.int))) (by decide) rfl (Nat.le_of_ble_eq_true rfl) ?_
  intro p e s m below meth c ls H locs A hAt hAe hA hl hK hJ hP0 hP hD hS
  obtain ⟨hx, hb, hml, hr, hlocks, hown, hts, hex, hnm⟩ := id hAt
  have hl : lv_has ls 1 [(0, .ref (ad_this 0))] := hl
  unfold wp_Nd_statements at hw
  refine lv_aload_n hx hb d_Nd_statements_0 rfl (lv_at hl 0 rfl) ?_
  refine va_get (D := D) (ci := 4) (v := .int z_this.2.2.2.2.2.2.2.2.2.2.2.2.2) (C := R_Nd) (T := F_Nd) (N := 14) hx hb hts in_Nd hown hK hP 0 rfl rfl 13 (by decide) (hts (.fieldLink R_Nd 54 R_Nd "statements" "I") kw1_196) (fun _ h9 => h9) rfl d_Nd_statements_1 ?_
  exact xq_iret (r := z_this.2.2.2.2.2.2.2.2.2.2.2.2.2) (u := ()) hx hb hr hlocks hAe hP hD hS rfl hw (Nat.le_of_ble_eq_true rfl) (Nat.le_of_ble_eq_true rfl) d_Nd_statements_4
theorem cw_Nd_statements {R : Room} {s : State} {args : Array Value} {own : String} {index : Nat} (hts : ∀ w ∈ xq_W, w.before args s = true) (hl : .methodLink own index y_Nd_statements ∈ xq_W) {rm : Room} (hR : rm.frames + 1 ≤ R.frames ∧ 8 + (1 + 11) + rm.locals ≤ R.locals) : CallW R s args own "StepText$Nodes" index y_Nd_statements prog_5_method_4_code 1 (some (.int)) (.code y_Nd_statements prog_5_method_4_code 1 (some (.int)) :: xq_W) rm rm.cells rm.slots 0 := ⟨xq_cb 0 hts kw3_181 kw1_10 hl ⟨by decide, by decide, by decide +kernel⟩ hR, hts _ kw3_179, hts _ kw3_180⟩
def y_Nd_isTooMany : MethodName := ⟨"StepText$Nodes", "isTooMany", "()Z"⟩
theorem d_Nd_isTooMany_0 : decode prog_5_method_5_code 0 = .ok (.aload_n 0, 1) := by decide +kernel
theorem d_Nd_isTooMany_1 : decode prog_5_method_5_code 1 = .ok (.getfield 48, 3) := by decide +kernel
theorem d_Nd_isTooMany_4 : decode prog_5_method_5_code 4 = .ok (.sipush 1000, 3) := by decide +kernel
theorem d_Nd_isTooMany_7 : decode prog_5_method_5_code 7 = .ok (.if_icmp .le 7, 3) := by decide +kernel
theorem d_Nd_isTooMany_10 : decode prog_5_method_5_code 10 = .ok (.iconst 1, 1) := by decide +kernel
theorem d_Nd_isTooMany_11 : decode prog_5_method_5_code 11 = .ok (.goto 4, 3) := by decide +kernel
theorem d_Nd_isTooMany_14 : decode prog_5_method_5_code 14 = .ok (.iconst 0, 1) := by decide +kernel
theorem d_Nd_isTooMany_15 : decode prog_5_method_5_code 15 = .ok (.ireturn, 1) := by decide +kernel
def wp_Nd_isTooMany (z_this : T_Nd) (post : Int32 → Unit → Prop) : Prop := (z_this.2.2.2.2.2.2.2.2.2.2.1 ≤ (1000 : Int32) → (post (0 : Int32) ())) ∧ (¬ z_this.2.2.2.2.2.2.2.2.2.2.1 ≤ (1000 : Int32) → (post (1 : Int32) ()))
def rm_Nd_isTooMany : Room := { frames := 0, cells := 0, slots := 0, locals := 0 }
set_option maxHeartbeats 4000000 in
set_option maxRecDepth 100000 in
theorem c_Nd_isTooMany {l : Launch} {o : State × Array Value} {D : va_G} {k : Nat → ClassId} {ad_this : Nat → Nat} {z_this : T_Nd} {post : Int32 → Unit → Prop} (hw : wp_Nd_isTooMany z_this post) : xq_C l o y_Nd_isTooMany (.code y_Nd_isTooMany prog_5_method_5_code 1 (some (.boolean)) :: xq_W) rm_Nd_isTooMany D vwCl (xt k) [.ref (ad_this 0)] (w_Nd k ad_this z_this) (fun r : Int32 => some (.int r)) post (fun _ : Unit => False) (fun u : Unit => w_Nd k ad_this z_this) 0 0 0 0 := by
  refine xq_ofW (cc := prog_5_method_5_code) (maxL := 1) (ret := (some (.boolean))) (by decide) rfl (Nat.le_of_ble_eq_true rfl) ?_
  intro p e s m below meth c ls H locs A hAt hAe hA hl hK hJ hP0 hP hD hS
  obtain ⟨hx, hb, hml, hr, hlocks, hown, hts, hex, hnm⟩ := id hAt
  have hl : lv_has ls 1 [(0, .ref (ad_this 0))] := hl
  unfold wp_Nd_isTooMany at hw
  refine lv_aload_n hx hb d_Nd_isTooMany_0 rfl (lv_at hl 0 rfl) ?_
  refine va_get (D := D) (ci := 4) (v := .int z_this.2.2.2.2.2.2.2.2.2.2.1) (C := R_Nd) (T := F_Nd) (N := 14) hx hb hts in_Nd hown hK hP 0 rfl rfl 10 (by decide) (hts (.fieldLink R_Nd 48 R_Nd "count" "I") kw1_193) (fun _ h9 => h9) rfl d_Nd_isTooMany_1 ?_
  refine lv_sipush (v := (1000 : Int32)) hx hb d_Nd_isTooMany_4 (by decide) ?_
  refine lv_icmp_le (tgt := 14) hx hb d_Nd_isTooMany_7 (by decide) (fun hc => ?_) (fun hc => ?_)
  · have hw := hw.1 hc
    refine lv_iconst (v := (0 : Int32)) hx hb d_Nd_isTooMany_14 (by decide) ?_
    exact xq_zret (r := (0 : Int32)) (u := ()) hx hb hr hlocks hAe hP hD hS rfl rfl hw (Nat.le_of_ble_eq_true rfl) (Nat.le_of_ble_eq_true rfl) d_Nd_isTooMany_15
  · have hw := hw.2 hc
    refine lv_iconst (v := (1 : Int32)) hx hb d_Nd_isTooMany_10 (by decide) ?_
    refine lv_goto (tgt := 15) hx hb d_Nd_isTooMany_11 (by decide) ?_
    exact xq_zret (r := (1 : Int32)) (u := ()) hx hb hr hlocks hAe hP hD hS rfl rfl hw (Nat.le_of_ble_eq_true rfl) (Nat.le_of_ble_eq_true rfl) d_Nd_isTooMany_15
theorem cw_Nd_isTooMany {R : Room} {s : State} {args : Array Value} {own : String} {index : Nat} (hts : ∀ w ∈ xq_W, w.before args s = true) (hl : .methodLink own index y_Nd_isTooMany ∈ xq_W) {rm : Room} (hR : rm.frames + 1 ≤ R.frames ∧ 8 + (1 + 11) + rm.locals ≤ R.locals) : CallW R s args own "StepText$Nodes" index y_Nd_isTooMany prog_5_method_5_code 1 (some (.boolean)) (.code y_Nd_isTooMany prog_5_method_5_code 1 (some (.boolean)) :: xq_W) rm rm.cells rm.slots 0 := ⟨xq_cb 0 hts kw2_164 kw1_10 hl ⟨by decide, by decide, by decide +kernel⟩ hR, hts _ kw2_162, hts _ kw2_163⟩
def y_Nd_has : MethodName := ⟨"StepText$Nodes", "has", "(I)Z"⟩
theorem d_Nd_has_0 : decode prog_5_method_6_code 0 = .ok (.iload_n 1, 1) := by decide +kernel
theorem d_Nd_has_1 : decode prog_5_method_6_code 1 = .ok (.ifCond .lt 22, 3) := by decide +kernel
theorem d_Nd_has_4 : decode prog_5_method_6_code 4 = .ok (.iload_n 1, 1) := by decide +kernel
theorem d_Nd_has_5 : decode prog_5_method_6_code 5 = .ok (.aload_n 0, 1) := by decide +kernel
theorem d_Nd_has_6 : decode prog_5_method_6_code 6 = .ok (.getfield 48, 3) := by decide +kernel
theorem d_Nd_has_9 : decode prog_5_method_6_code 9 = .ok (.if_icmp .ge 14, 3) := by decide +kernel
theorem d_Nd_has_12 : decode prog_5_method_6_code 12 = .ok (.iload_n 1, 1) := by decide +kernel
theorem d_Nd_has_13 : decode prog_5_method_6_code 13 = .ok (.sipush 1070, 3) := by decide +kernel
theorem d_Nd_has_16 : decode prog_5_method_6_code 16 = .ok (.if_icmp .ge 7, 3) := by decide +kernel
theorem d_Nd_has_19 : decode prog_5_method_6_code 19 = .ok (.iconst 1, 1) := by decide +kernel
theorem d_Nd_has_20 : decode prog_5_method_6_code 20 = .ok (.goto 4, 3) := by decide +kernel
theorem d_Nd_has_23 : decode prog_5_method_6_code 23 = .ok (.iconst 0, 1) := by decide +kernel
theorem d_Nd_has_24 : decode prog_5_method_6_code 24 = .ok (.ireturn, 1) := by decide +kernel
def wp_Nd_has (z_this : T_Nd) (a1 : Int32) (post : Int32 → Unit → Prop) : Prop := (a1 < 0 → (post (0 : Int32) ())) ∧ (¬ a1 < 0 → ((z_this.2.2.2.2.2.2.2.2.2.2.1 ≤ a1 → (post (0 : Int32) ())) ∧ (¬ z_this.2.2.2.2.2.2.2.2.2.2.1 ≤ a1 → (((1070 : Int32) ≤ a1 → (post (0 : Int32) ())) ∧ (¬ (1070 : Int32) ≤ a1 → (post (1 : Int32) ()))))))
def rm_Nd_has : Room := { frames := 0, cells := 0, slots := 0, locals := 0 }
set_option maxHeartbeats 4000000 in
set_option maxRecDepth 100000 in
theorem c_Nd_has {l : Launch} {o : State × Array Value} {D : va_G} {k : Nat → ClassId} {ad_this : Nat → Nat} {z_this : T_Nd} {a1 : Int32} {post : Int32 → Unit → Prop} (hw : wp_Nd_has z_this a1 post) : xq_C l o y_Nd_has (.code y_Nd_has prog_5_method_6_code 2 (some (.boolean)) :: xq_W) rm_Nd_has D vwCl (xt k) [.ref (ad_this 0), .int a1] (w_Nd k ad_this z_this) (fun r : Int32 => some (.int r)) post (fun _ : Unit => False) (fun u : Unit => w_Nd k ad_this z_this) 0 0 0 0 := by
  refine xq_ofW (cc := prog_5_method_6_code) (maxL := 2) (ret := (some (.boolean))) (by decide) rfl (Nat.le_of_ble_eq_true rfl) ?_
  intro p e s m below meth c ls H locs A hAt hAe hA hl hK hJ hP0 hP hD hS
  obtain ⟨hx, hb, hml, hr, hlocks, hown, hts, hex, hnm⟩ := id hAt
  have hl : lv_has ls 2 [(0, .ref (ad_this 0)), (1, .int a1)] := hl
  unfold wp_Nd_has at hw
  refine lv_iload_n hx hb d_Nd_has_0 rfl (lv_at hl 1 rfl) ?_
  refine lv_if_lt (tgt := 23) hx hb d_Nd_has_1 (by decide) (fun hc => ?_) (fun hc => ?_)
  · have hw := hw.1 hc
    refine lv_iconst (v := (0 : Int32)) hx hb d_Nd_has_23 (by decide) ?_
    exact xq_zret (r := (0 : Int32)) (u := ()) hx hb hr hlocks hAe hP hD hS rfl rfl hw (Nat.le_of_ble_eq_true rfl) (Nat.le_of_ble_eq_true rfl) d_Nd_has_24
  · have hw := hw.2 hc
    refine lv_iload_n hx hb d_Nd_has_4 rfl (lv_at hl 1 rfl) ?_
    refine lv_aload_n hx hb d_Nd_has_5 rfl (lv_at hl 0 rfl) ?_
    refine va_get (D := D) (ci := 4) (v := .int z_this.2.2.2.2.2.2.2.2.2.2.1) (C := R_Nd) (T := F_Nd) (N := 14) hx hb hts in_Nd hown hK hP 0 rfl rfl 10 (by decide) (hts (.fieldLink R_Nd 48 R_Nd "count" "I") kw1_193) (fun _ h9 => h9) rfl d_Nd_has_6 ?_
    refine lv_icmp_ge (tgt := 23) hx hb d_Nd_has_9 (by decide) (fun hc => ?_) (fun hc => ?_)
    · have hw := hw.1 hc
      refine lv_iconst (v := (0 : Int32)) hx hb d_Nd_has_23 (by decide) ?_
      exact xq_zret (r := (0 : Int32)) (u := ()) hx hb hr hlocks hAe hP hD hS rfl rfl hw (Nat.le_of_ble_eq_true rfl) (Nat.le_of_ble_eq_true rfl) d_Nd_has_24
    · have hw := hw.2 hc
      refine lv_iload_n hx hb d_Nd_has_12 rfl (lv_at hl 1 rfl) ?_
      refine lv_sipush (v := (1070 : Int32)) hx hb d_Nd_has_13 (by decide) ?_
      refine lv_icmp_ge (tgt := 23) hx hb d_Nd_has_16 (by decide) (fun hc => ?_) (fun hc => ?_)
      · have hw := hw.1 hc
        refine lv_iconst (v := (0 : Int32)) hx hb d_Nd_has_23 (by decide) ?_
        exact xq_zret (r := (0 : Int32)) (u := ()) hx hb hr hlocks hAe hP hD hS rfl rfl hw (Nat.le_of_ble_eq_true rfl) (Nat.le_of_ble_eq_true rfl) d_Nd_has_24
      · have hw := hw.2 hc
        refine lv_iconst (v := (1 : Int32)) hx hb d_Nd_has_19 (by decide) ?_
        refine lv_goto (tgt := 24) hx hb d_Nd_has_20 (by decide) ?_
        exact xq_zret (r := (1 : Int32)) (u := ()) hx hb hr hlocks hAe hP hD hS rfl rfl hw (Nat.le_of_ble_eq_true rfl) (Nat.le_of_ble_eq_true rfl) d_Nd_has_24
theorem cw_Nd_has {R : Room} {s : State} {args : Array Value} {own : String} {index : Nat} (hts : ∀ w ∈ xq_W, w.before args s = true) (hl : .methodLink own index y_Nd_has ∈ xq_W) {rm : Room} (hR : rm.frames + 1 ≤ R.frames ∧ 8 + (2 + 11) + rm.locals ≤ R.locals) : CallW R s args own "StepText$Nodes" index y_Nd_has prog_5_method_6_code 2 (some (.boolean)) (.code y_Nd_has prog_5_method_6_code 2 (some (.boolean)) :: xq_W) rm rm.cells rm.slots 1 := ⟨xq_cb 1 hts kw3_86 kw1_10 hl ⟨by decide, by decide, by decide +kernel⟩ hR, hts _ kw3_84, hts _ kw3_85⟩
def y_Nd_chainFrom : MethodName := ⟨"StepText$Nodes", "chainFrom", "(II)I"⟩
theorem d_Nd_chainFrom_0 : decode prog_5_method_9_code 0 = .ok (.iconst (-1), 1) := by decide +kernel
theorem d_Nd_chainFrom_1 : decode prog_5_method_9_code 1 = .ok (.istore_n 3, 1) := by decide +kernel
theorem d_Nd_chainFrom_2 : decode prog_5_method_9_code 2 = .ok (.aload_n 0, 1) := by decide +kernel
theorem d_Nd_chainFrom_3 : decode prog_5_method_9_code 3 = .ok (.getfield 48, 3) := by decide +kernel
theorem d_Nd_chainFrom_6 : decode prog_5_method_9_code 6 = .ok (.iconst 1, 1) := by decide +kernel
theorem d_Nd_chainFrom_7 : decode prog_5_method_9_code 7 = .ok (.isub, 1) := by decide +kernel
theorem d_Nd_chainFrom_8 : decode prog_5_method_9_code 8 = .ok (.istore 4, 2) := by decide +kernel
theorem d_Nd_chainFrom_10 : decode prog_5_method_9_code 10 = .ok (.iconst 0, 1) := by decide +kernel
theorem d_Nd_chainFrom_11 : decode prog_5_method_9_code 11 = .ok (.istore 5, 2) := by decide +kernel
theorem d_Nd_chainFrom_13 : decode prog_5_method_9_code 13 = .ok (.iload 5, 2) := by decide +kernel
theorem d_Nd_chainFrom_15 : decode prog_5_method_9_code 15 = .ok (.sipush 1070, 3) := by decide +kernel
theorem d_Nd_chainFrom_18 : decode prog_5_method_9_code 18 = .ok (.if_icmp .ge 58, 3) := by decide +kernel
theorem d_Nd_chainFrom_21 : decode prog_5_method_9_code 21 = .ok (.iload 4, 2) := by decide +kernel
theorem d_Nd_chainFrom_23 : decode prog_5_method_9_code 23 = .ok (.iload_n 1, 1) := by decide +kernel
theorem d_Nd_chainFrom_24 : decode prog_5_method_9_code 24 = .ok (.if_icmp .lt 52, 3) := by decide +kernel
theorem d_Nd_chainFrom_27 : decode prog_5_method_9_code 27 = .ok (.iload 4, 2) := by decide +kernel
theorem d_Nd_chainFrom_29 : decode prog_5_method_9_code 29 = .ok (.ifCond .lt 47, 3) := by decide +kernel
theorem d_Nd_chainFrom_32 : decode prog_5_method_9_code 32 = .ok (.iload 4, 2) := by decide +kernel
theorem d_Nd_chainFrom_34 : decode prog_5_method_9_code 34 = .ok (.sipush 1070, 3) := by decide +kernel
theorem d_Nd_chainFrom_37 : decode prog_5_method_9_code 37 = .ok (.if_icmp .ge 39, 3) := by decide +kernel
theorem d_Nd_chainFrom_40 : decode prog_5_method_9_code 40 = .ok (.aload_n 0, 1) := by decide +kernel
theorem d_Nd_chainFrom_41 : decode prog_5_method_9_code 41 = .ok (.getfield 31, 3) := by decide +kernel
theorem d_Nd_chainFrom_44 : decode prog_5_method_9_code 44 = .ok (.iload 4, 2) := by decide +kernel
theorem d_Nd_chainFrom_46 : decode prog_5_method_9_code 46 = .ok (.iload_n 2, 1) := by decide +kernel
theorem d_Nd_chainFrom_47 : decode prog_5_method_9_code 47 = .ok (.iastore, 1) := by decide +kernel
theorem d_Nd_chainFrom_48 : decode prog_5_method_9_code 48 = .ok (.aload_n 0, 1) := by decide +kernel
theorem d_Nd_chainFrom_49 : decode prog_5_method_9_code 49 = .ok (.getfield 37, 3) := by decide +kernel
theorem d_Nd_chainFrom_52 : decode prog_5_method_9_code 52 = .ok (.iload 4, 2) := by decide +kernel
theorem d_Nd_chainFrom_54 : decode prog_5_method_9_code 54 = .ok (.iload_n 3, 1) := by decide +kernel
theorem d_Nd_chainFrom_55 : decode prog_5_method_9_code 55 = .ok (.iastore, 1) := by decide +kernel
theorem d_Nd_chainFrom_56 : decode prog_5_method_9_code 56 = .ok (.iload 4, 2) := by decide +kernel
theorem d_Nd_chainFrom_58 : decode prog_5_method_9_code 58 = .ok (.istore_n 3, 1) := by decide +kernel
theorem d_Nd_chainFrom_59 : decode prog_5_method_9_code 59 = .ok (.aload_n 0, 1) := by decide +kernel
theorem d_Nd_chainFrom_60 : decode prog_5_method_9_code 60 = .ok (.getfield 25, 3) := by decide +kernel
theorem d_Nd_chainFrom_63 : decode prog_5_method_9_code 63 = .ok (.iload 4, 2) := by decide +kernel
theorem d_Nd_chainFrom_65 : decode prog_5_method_9_code 65 = .ok (.iaload, 1) := by decide +kernel
theorem d_Nd_chainFrom_66 : decode prog_5_method_9_code 66 = .ok (.iconst 1, 1) := by decide +kernel
theorem d_Nd_chainFrom_67 : decode prog_5_method_9_code 67 = .ok (.isub, 1) := by decide +kernel
theorem d_Nd_chainFrom_68 : decode prog_5_method_9_code 68 = .ok (.istore 4, 2) := by decide +kernel
theorem d_Nd_chainFrom_70 : decode prog_5_method_9_code 70 = .ok (.iinc 5 1, 3) := by decide +kernel
theorem d_Nd_chainFrom_73 : decode prog_5_method_9_code 73 = .ok (.goto (-60), 3) := by decide +kernel
theorem d_Nd_chainFrom_76 : decode prog_5_method_9_code 76 = .ok (.iload_n 3, 1) := by decide +kernel
theorem d_Nd_chainFrom_77 : decode prog_5_method_9_code 77 = .ok (.ireturn, 1) := by decide +kernel
def wp_Nd_chainFrom_L13 (K : T_Nd → Int32 → Int32 → Int32 → Int32 → Int32 → Prop) (post : Int32 → T_Nd → Prop) : Nat → T_Nd → Int32 → Int32 → Int32 → Int32 → Int32 → Prop
  | 0, _, _, _, _, _, _ => False
  | n9 + 1, z_this, x1, x2, x3, x4, x5 => ((1070 : Int32) ≤ x5 → (K z_this x1 x2 x3 x4 x5)) ∧ (¬ (1070 : Int32) ≤ x5 → ((x4 < x1 → (K z_this x1 x2 x3 x4 x5)) ∧ (¬ x4 < x1 → ((x4 < 0 → (K z_this x1 x2 x3 x4 x5)) ∧ (¬ x4 < 0 → (((1070 : Int32) ≤ x4 → (K z_this x1 x2 x3 x4 x5)) ∧ (¬ (1070 : Int32) ≤ x4 → (vp_in x4 1070 ∧ (vp_in x4 1070 ∧ (vp_in x4 1070 ∧ (wp_Nd_chainFrom_L13 K post n9 (z_this.1, z_this.2.1, z_this.2.2.1, z_this.2.2.2.1, z_this.2.2.2.2.1, z_this.2.2.2.2.2.1, (upd z_this.2.2.2.2.2.2.1 (x4).toNatClampNeg x2), z_this.2.2.2.2.2.2.2.1, (upd z_this.2.2.2.2.2.2.2.2.1 (x4).toNatClampNeg x3), z_this.2.2.2.2.2.2.2.2.2.1, z_this.2.2.2.2.2.2.2.2.2.2.1, z_this.2.2.2.2.2.2.2.2.2.2.2.1, z_this.2.2.2.2.2.2.2.2.2.2.2.2.1, z_this.2.2.2.2.2.2.2.2.2.2.2.2.2) x1 x2 x4 ((z_this.2.2.2.2.1 (x4).toNatClampNeg) - (1 : Int32)) (x5 + (1 : Int32)))))))))))))
def wp_Nd_chainFrom (z_this : T_Nd) (a1 : Int32) (a2 : Int32) (post : Int32 → T_Nd → Prop) : Prop := ∃ k9 : Nat, wp_Nd_chainFrom_L13 (fun (z_this : T_Nd) (x1 : Int32) (x2 : Int32) (x3 : Int32) (x4 : Int32) (x5 : Int32) => post x3 z_this) post k9 z_this a1 a2 (-1 : Int32) (z_this.2.2.2.2.2.2.2.2.2.2.1 - (1 : Int32)) (0 : Int32)
def rm_Nd_chainFrom : Room := { frames := 0, cells := 0, slots := 0, locals := 0 }
set_option maxHeartbeats 4000000 in
set_option maxRecDepth 100000 in
theorem t_Nd_chainFrom_L13 {p : Program} {l : Launch} {o : State × Array Value} {e : Env} {s : State} {m : MethodId} {args : Array Value} {below : List Frame} {meth : Method} {c : Code} {D : va_G} {k : Nat → ClassId} {w0 : va_W} {A : Nat → Prop} {ad_this : Nat → Nat} {post : Int32 → T_Nd → Prop} (hAt : xq_At p s m args meth c prog_5_method_9_code 6 (some (.int)) y_Nd_chainFrom xq_W) (hK : va_K D vwCl (xt k) s) (hJ : xq_J l o A s s.heap) (hAe : va_A w0 s.heap.size = A) (hA : ∀ q, s.heap.size ≤ q → A q) {K : T_Nd → Int32 → Int32 → Int32 → Int32 → Int32 → Prop} (hX : ∀ (z_this : T_Nd) (x1 : Int32) (x2 : Int32) (x3 : Int32) (x4 : Int32) (x5 : Int32) (H : Heap) (locs : List Loc) (ls : Array Slot), lv_has ls 6 [(0, .ref (ad_this 0)), (1, .int x1), (2, .int x2), (3, .int x3), (4, .int x4), (5, .int x5)] → va_P D vwCl (w_Nd k ad_this z_this) H → va_D A (w_Nd k ad_this z_this) → va_S A s.heap H locs → K z_this x1 x2 x3 x4 x5 → W p l e rm_Nd_chainFrom s m args below meth c H locs 0 0 (xq_Z below D vwCl (xt k) w0 (fun r : Int32 => some (.int r)) post (fun _ : T_Nd => False) (fun u : T_Nd => w_Nd k ad_this u) 0 0 0 0 s) (F0 m 76 ls [])) :
    ∀ (n9 : Nat) (z_this : T_Nd) (x1 : Int32) (x2 : Int32) (x3 : Int32) (x4 : Int32) (x5 : Int32) (H : Heap) (locs : List Loc) (ls : Array Slot), lv_has ls 6 [(0, .ref (ad_this 0)), (1, .int x1), (2, .int x2), (3, .int x3), (4, .int x4), (5, .int x5)] → va_P D vwCl (w_Nd k ad_this z_this) H → va_D A (w_Nd k ad_this z_this) → va_S A s.heap H locs → wp_Nd_chainFrom_L13 K post n9 z_this x1 x2 x3 x4 x5 → W p l e rm_Nd_chainFrom s m args below meth c H locs 0 0 (xq_Z below D vwCl (xt k) w0 (fun r : Int32 => some (.int r)) post (fun _ : T_Nd => False) (fun u : T_Nd => w_Nd k ad_this u) 0 0 0 0 s) (F0 m 13 ls []) := by
  obtain ⟨hx, hb, hml, hr, hlocks, hown, hts, hex, hnm⟩ := id hAt
  intro n9
  induction n9 with
  | zero => intro z_this x1 x2 x3 x4 x5 H locs ls hl hP hD hS hw; exact False.elim (by rw [wp_Nd_chainFrom_L13] at hw; exact hw)
  | succ n9 ih =>
    intro z_this x1 x2 x3 x4 x5 H locs ls hl hP hD hS hw
    rw [wp_Nd_chainFrom_L13] at hw
    refine lv_iload hx hb d_Nd_chainFrom_13 (lv_at hl 5 rfl) ?_
    refine lv_sipush (v := (1070 : Int32)) hx hb d_Nd_chainFrom_15 (by decide) ?_
    refine lv_icmp_ge (tgt := 76) hx hb d_Nd_chainFrom_18 (by decide) (fun hc => ?_) (fun hc => ?_)
    · have hw := hw.1 hc
      exact hX z_this x1 x2 x3 x4 x5 H locs ls (lv_sub hl [0, 1, 2, 3, 4, 5] rfl) hP hD hS hw
    · have hw := hw.2 hc
      refine lv_iload hx hb d_Nd_chainFrom_21 (lv_at hl 4 rfl) ?_
      refine lv_iload_n hx hb d_Nd_chainFrom_23 rfl (lv_at hl 1 rfl) ?_
      refine lv_icmp_lt (tgt := 76) hx hb d_Nd_chainFrom_24 (by decide) (fun hc => ?_) (fun hc => ?_)
      · have hw := hw.1 hc
        exact hX z_this x1 x2 x3 x4 x5 H locs ls (lv_sub hl [0, 1, 2, 3, 4, 5] rfl) hP hD hS hw
      · have hw := hw.2 hc
        refine lv_iload hx hb d_Nd_chainFrom_27 (lv_at hl 4 rfl) ?_
        refine lv_if_lt (tgt := 76) hx hb d_Nd_chainFrom_29 (by decide) (fun hc => ?_) (fun hc => ?_)
        · have hw := hw.1 hc
          exact hX z_this x1 x2 x3 x4 x5 H locs ls (lv_sub hl [0, 1, 2, 3, 4, 5] rfl) hP hD hS hw
        · have hw := hw.2 hc
          refine lv_iload hx hb d_Nd_chainFrom_32 (lv_at hl 4 rfl) ?_
          refine lv_sipush (v := (1070 : Int32)) hx hb d_Nd_chainFrom_34 (by decide) ?_
          refine lv_icmp_ge (tgt := 76) hx hb d_Nd_chainFrom_37 (by decide) (fun hc => ?_) (fun hc => ?_)
          · have hw := hw.1 hc
            exact hX z_this x1 x2 x3 x4 x5 H locs ls (lv_sub hl [0, 1, 2, 3, 4, 5] rfl) hP hD hS hw
          · have hw := hw.2 hc
            refine lv_aload_n hx hb d_Nd_chainFrom_40 rfl (lv_at hl 0 rfl) ?_
            refine va_get (D := D) (ci := 4) (v := .ref (ad_this 7)) (C := R_Nd) (T := F_Nd) (N := 14) hx hb hts in_Nd hown hK hP 0 rfl rfl 6 (by decide) (hts (.fieldLink R_Nd 31 R_Nd "parents" "[I") kw1_189) (fun _ h9 => h9) rfl d_Nd_chainFrom_41 ?_
            refine lv_iload hx hb d_Nd_chainFrom_44 (lv_at hl 4 rfl) ?_
            refine lv_iload_n hx hb d_Nd_chainFrom_46 rfl (lv_at hl 2 rfl) ?_
            refine va_iast hx hb hK hP hD hS 7 0 rfl rfl hw.1 d_Nd_chainFrom_47 (fun H locs hP hD hS => ?_)
            have hw := hw.2
            have hP : va_P D vwCl (w_Nd k ad_this (z_this.1, z_this.2.1, z_this.2.2.1, z_this.2.2.2.1, z_this.2.2.2.2.1, z_this.2.2.2.2.2.1, (upd z_this.2.2.2.2.2.2.1 (x4).toNatClampNeg x2), z_this.2.2.2.2.2.2.2.1, z_this.2.2.2.2.2.2.2.2.1, z_this.2.2.2.2.2.2.2.2.2.1, z_this.2.2.2.2.2.2.2.2.2.2.1, z_this.2.2.2.2.2.2.2.2.2.2.2.1, z_this.2.2.2.2.2.2.2.2.2.2.2.2.1, z_this.2.2.2.2.2.2.2.2.2.2.2.2.2)) H := hP
            have hD : va_D A (w_Nd k ad_this (z_this.1, z_this.2.1, z_this.2.2.1, z_this.2.2.2.1, z_this.2.2.2.2.1, z_this.2.2.2.2.2.1, (upd z_this.2.2.2.2.2.2.1 (x4).toNatClampNeg x2), z_this.2.2.2.2.2.2.2.1, z_this.2.2.2.2.2.2.2.2.1, z_this.2.2.2.2.2.2.2.2.2.1, z_this.2.2.2.2.2.2.2.2.2.2.1, z_this.2.2.2.2.2.2.2.2.2.2.2.1, z_this.2.2.2.2.2.2.2.2.2.2.2.2.1, z_this.2.2.2.2.2.2.2.2.2.2.2.2.2)) := hD
            refine lv_aload_n hx hb d_Nd_chainFrom_48 rfl (lv_at hl 0 rfl) ?_
            refine va_get (D := D) (ci := 4) (v := .ref (ad_this 9)) (C := R_Nd) (T := F_Nd) (N := 14) hx hb hts in_Nd hown hK hP 0 rfl rfl 8 (by decide) (hts (.fieldLink R_Nd 37 R_Nd "nexts" "[I") kw1_191) (fun _ h9 => h9) rfl d_Nd_chainFrom_49 ?_
            refine lv_iload hx hb d_Nd_chainFrom_52 (lv_at hl 4 rfl) ?_
            refine lv_iload_n hx hb d_Nd_chainFrom_54 rfl (lv_at hl 3 rfl) ?_
            refine va_iast hx hb hK hP hD hS 9 0 rfl rfl hw.1 d_Nd_chainFrom_55 (fun H locs hP hD hS => ?_)
            have hw := hw.2
            have hP : va_P D vwCl (w_Nd k ad_this (z_this.1, z_this.2.1, z_this.2.2.1, z_this.2.2.2.1, z_this.2.2.2.2.1, z_this.2.2.2.2.2.1, (upd z_this.2.2.2.2.2.2.1 (x4).toNatClampNeg x2), z_this.2.2.2.2.2.2.2.1, (upd z_this.2.2.2.2.2.2.2.2.1 (x4).toNatClampNeg x3), z_this.2.2.2.2.2.2.2.2.2.1, z_this.2.2.2.2.2.2.2.2.2.2.1, z_this.2.2.2.2.2.2.2.2.2.2.2.1, z_this.2.2.2.2.2.2.2.2.2.2.2.2.1, z_this.2.2.2.2.2.2.2.2.2.2.2.2.2)) H := hP
            have hD : va_D A (w_Nd k ad_this (z_this.1, z_this.2.1, z_this.2.2.1, z_this.2.2.2.1, z_this.2.2.2.2.1, z_this.2.2.2.2.2.1, (upd z_this.2.2.2.2.2.2.1 (x4).toNatClampNeg x2), z_this.2.2.2.2.2.2.2.1, (upd z_this.2.2.2.2.2.2.2.2.1 (x4).toNatClampNeg x3), z_this.2.2.2.2.2.2.2.2.2.1, z_this.2.2.2.2.2.2.2.2.2.2.1, z_this.2.2.2.2.2.2.2.2.2.2.2.1, z_this.2.2.2.2.2.2.2.2.2.2.2.2.1, z_this.2.2.2.2.2.2.2.2.2.2.2.2.2)) := hD
            refine lv_iload hx hb d_Nd_chainFrom_56 (lv_at hl 4 rfl) ?_
            refine lv_istore_n (lv' := [(3, .int x4), (0, .ref (ad_this 0)), (1, .int x1), (2, .int x2), (4, .int x4), (5, .int x5)]) hx hb d_Nd_chainFrom_58 rfl hl (by decide) rfl (fun ls hl => ?_)
            refine lv_aload_n hx hb d_Nd_chainFrom_59 rfl (lv_at hl 1 rfl) ?_
            refine va_get (D := D) (ci := 4) (v := .ref (ad_this 5)) (C := R_Nd) (T := F_Nd) (N := 14) hx hb hts in_Nd hown hK hP 0 rfl rfl 4 (by decide) (hts (.fieldLink R_Nd 25 R_Nd "lows" "[I") kw1_187) (fun _ h9 => h9) rfl d_Nd_chainFrom_60 ?_
            refine lv_iload hx hb d_Nd_chainFrom_63 (lv_at hl 4 rfl) ?_
            refine va_iald hx hb hK hP 5 0 rfl rfl hw.1 d_Nd_chainFrom_65 ?_
            have hw := hw.2
            refine lv_iconst (v := (1 : Int32)) hx hb d_Nd_chainFrom_66 (by decide) ?_
            refine lv_isub hx hb d_Nd_chainFrom_67 ?_
            refine lv_istore (lv' := [(4, .int ((z_this.2.2.2.2.1 (x4).toNatClampNeg) - (1 : Int32))), (3, .int x4), (0, .ref (ad_this 0)), (1, .int x1), (2, .int x2), (5, .int x5)]) hx hb d_Nd_chainFrom_68 hl (by decide) rfl (fun ls hl => ?_)
            refine lv_iinc (v := (x5 + (1 : Int32))) (lv' := [(5, .int (x5 + (1 : Int32))), (4, .int ((z_this.2.2.2.2.1 (x4).toNatClampNeg) - (1 : Int32))), (3, .int x4), (0, .ref (ad_this 0)), (1, .int x1), (2, .int x2)]) hx hb d_Nd_chainFrom_70 hl (k := 5) rfl rfl (by decide) rfl (fun ls hl => ?_)
            refine lv_goto (tgt := 13) hx hb d_Nd_chainFrom_73 (by decide) ?_
            exact ih (z_this.1, z_this.2.1, z_this.2.2.1, z_this.2.2.2.1, z_this.2.2.2.2.1, z_this.2.2.2.2.2.1, (upd z_this.2.2.2.2.2.2.1 (x4).toNatClampNeg x2), z_this.2.2.2.2.2.2.2.1, (upd z_this.2.2.2.2.2.2.2.2.1 (x4).toNatClampNeg x3), z_this.2.2.2.2.2.2.2.2.2.1, z_this.2.2.2.2.2.2.2.2.2.2.1, z_this.2.2.2.2.2.2.2.2.2.2.2.1, z_this.2.2.2.2.2.2.2.2.2.2.2.2.1, z_this.2.2.2.2.2.2.2.2.2.2.2.2.2) x1 x2 x4 ((z_this.2.2.2.2.1 (x4).toNatClampNeg) - (1 : Int32)) (x5 + (1 : Int32)) H locs ls (lv_sub hl [3, 4, 5, 2, 1, 0] rfl) hP hD hS hw
set_option maxHeartbeats 4000000 in
set_option maxRecDepth 100000 in
theorem c_Nd_chainFrom {l : Launch} {o : State × Array Value} {D : va_G} {k : Nat → ClassId} {ad_this : Nat → Nat} {z_this : T_Nd} {a1 : Int32} {a2 : Int32} {post : Int32 → T_Nd → Prop} (hw : wp_Nd_chainFrom z_this a1 a2 post) : xq_C l o y_Nd_chainFrom (.code y_Nd_chainFrom prog_5_method_9_code 6 (some (.int)) :: xq_W) rm_Nd_chainFrom D vwCl (xt k) [.ref (ad_this 0), .int a1, .int a2] (w_Nd k ad_this z_this) (fun r : Int32 => some (.int r)) post (fun _ : T_Nd => False) (fun u : T_Nd => w_Nd k ad_this u) 0 0 0 0 := by
  refine xq_ofW (cc := prog_5_method_9_code) (maxL := 6) (ret := (some (.int))) (by decide) rfl (Nat.le_of_ble_eq_true rfl) ?_
  intro p e s m below meth c ls H locs A hAt hAe hA hl hK hJ hP0 hP hD hS
  obtain ⟨hx, hb, hml, hr, hlocks, hown, hts, hex, hnm⟩ := id hAt
  have hl : lv_has ls 6 [(0, .ref (ad_this 0)), (1, .int a1), (2, .int a2)] := hl
  unfold wp_Nd_chainFrom at hw
  refine lv_iconst (v := (-1 : Int32)) hx hb d_Nd_chainFrom_0 (by decide) ?_
  refine lv_istore_n (lv' := [(3, .int (-1 : Int32)), (0, .ref (ad_this 0)), (1, .int a1), (2, .int a2)]) hx hb d_Nd_chainFrom_1 rfl hl (by decide) rfl (fun ls hl => ?_)
  refine lv_aload_n hx hb d_Nd_chainFrom_2 rfl (lv_at hl 1 rfl) ?_
  refine va_get (D := D) (ci := 4) (v := .int z_this.2.2.2.2.2.2.2.2.2.2.1) (C := R_Nd) (T := F_Nd) (N := 14) hx hb hts in_Nd hown hK hP 0 rfl rfl 10 (by decide) (hts (.fieldLink R_Nd 48 R_Nd "count" "I") kw1_193) (fun _ h9 => h9) rfl d_Nd_chainFrom_3 ?_
  refine lv_iconst (v := (1 : Int32)) hx hb d_Nd_chainFrom_6 (by decide) ?_
  refine lv_isub hx hb d_Nd_chainFrom_7 ?_
  refine lv_istore (lv' := [(4, .int (z_this.2.2.2.2.2.2.2.2.2.2.1 - (1 : Int32))), (3, .int (-1 : Int32)), (0, .ref (ad_this 0)), (1, .int a1), (2, .int a2)]) hx hb d_Nd_chainFrom_8 hl (by decide) rfl (fun ls hl => ?_)
  refine lv_iconst (v := (0 : Int32)) hx hb d_Nd_chainFrom_10 (by decide) ?_
  refine lv_istore (lv' := [(5, .int (0 : Int32)), (4, .int (z_this.2.2.2.2.2.2.2.2.2.2.1 - (1 : Int32))), (3, .int (-1 : Int32)), (0, .ref (ad_this 0)), (1, .int a1), (2, .int a2)]) hx hb d_Nd_chainFrom_11 hl (by decide) rfl (fun ls hl => ?_)
  obtain ⟨k9, hw⟩ := hw
  refine t_Nd_chainFrom_L13 hAt hK hJ hAe hA ?_ k9 z_this a1 a2 (-1 : Int32) (z_this.2.2.2.2.2.2.2.2.2.2.1 - (1 : Int32)) (0 : Int32) H locs ls (lv_sub hl [3, 4, 5, 2, 1, 0] rfl) hP hD hS hw
  intro z_this x1 x2 x3 x4 x5 H locs ls hl hP hD hS hw
  refine lv_iload_n hx hb d_Nd_chainFrom_76 rfl (lv_at hl 3 rfl) ?_
  exact xq_iret (r := x3) (u := z_this) hx hb hr hlocks hAe hP hD hS rfl hw (Nat.le_of_ble_eq_true rfl) (Nat.le_of_ble_eq_true rfl) d_Nd_chainFrom_77
theorem cw_Nd_chainFrom {R : Room} {s : State} {args : Array Value} {own : String} {index : Nat} (hts : ∀ w ∈ xq_W, w.before args s = true) (hl : .methodLink own index y_Nd_chainFrom ∈ xq_W) {rm : Room} (hR : rm.frames + 1 ≤ R.frames ∧ 8 + (6 + 11) + rm.locals ≤ R.locals) : CallW R s args own "StepText$Nodes" index y_Nd_chainFrom prog_5_method_9_code 6 (some (.int)) (.code y_Nd_chainFrom prog_5_method_9_code 6 (some (.int)) :: xq_W) rm rm.cells rm.slots 2 := ⟨xq_cb 2 hts kw3_74 kw1_10 hl ⟨by decide, by decide, by decide +kernel⟩ hR, hts _ kw3_73, hts _ kp2_7⟩
def y_Nd_followChain : MethodName := ⟨"StepText$Nodes", "followChain", "(I)I"⟩
theorem d_Nd_followChain_0 : decode prog_5_method_10_code 0 = .ok (.iconst 0, 1) := by decide +kernel
theorem d_Nd_followChain_1 : decode prog_5_method_10_code 1 = .ok (.istore_n 2, 1) := by decide +kernel
theorem d_Nd_followChain_2 : decode prog_5_method_10_code 2 = .ok (.iconst 0, 1) := by decide +kernel
theorem d_Nd_followChain_3 : decode prog_5_method_10_code 3 = .ok (.istore_n 3, 1) := by decide +kernel
theorem d_Nd_followChain_4 : decode prog_5_method_10_code 4 = .ok (.iload_n 1, 1) := by decide +kernel
theorem d_Nd_followChain_5 : decode prog_5_method_10_code 5 = .ok (.istore 4, 2) := by decide +kernel
theorem d_Nd_followChain_7 : decode prog_5_method_10_code 7 = .ok (.iload_n 3, 1) := by decide +kernel
theorem d_Nd_followChain_8 : decode prog_5_method_10_code 8 = .ok (.sipush 1070, 3) := by decide +kernel
theorem d_Nd_followChain_11 : decode prog_5_method_10_code 11 = .ok (.if_icmp .ge 61, 3) := by decide +kernel
theorem d_Nd_followChain_14 : decode prog_5_method_10_code 14 = .ok (.iload 4, 2) := by decide +kernel
theorem d_Nd_followChain_16 : decode prog_5_method_10_code 16 = .ok (.ifCond .lt 56, 3) := by decide +kernel
theorem d_Nd_followChain_19 : decode prog_5_method_10_code 19 = .ok (.iload 4, 2) := by decide +kernel
theorem d_Nd_followChain_21 : decode prog_5_method_10_code 21 = .ok (.sipush 1070, 3) := by decide +kernel
theorem d_Nd_followChain_24 : decode prog_5_method_10_code 24 = .ok (.if_icmp .ge 48, 3) := by decide +kernel
theorem d_Nd_followChain_27 : decode prog_5_method_10_code 27 = .ok (.aload_n 0, 1) := by decide +kernel
theorem d_Nd_followChain_28 : decode prog_5_method_10_code 28 = .ok (.getfield 40, 3) := by decide +kernel
theorem d_Nd_followChain_31 : decode prog_5_method_10_code 31 = .ok (.iload 4, 2) := by decide +kernel
theorem d_Nd_followChain_33 : decode prog_5_method_10_code 33 = .ok (.iload_n 2, 1) := by decide +kernel
theorem d_Nd_followChain_34 : decode prog_5_method_10_code 34 = .ok (.bastore, 1) := by decide +kernel
theorem d_Nd_followChain_35 : decode prog_5_method_10_code 35 = .ok (.iload_n 2, 1) := by decide +kernel
theorem d_Nd_followChain_36 : decode prog_5_method_10_code 36 = .ok (.ifCond .ne 15, 3) := by decide +kernel
theorem d_Nd_followChain_39 : decode prog_5_method_10_code 39 = .ok (.aload_n 0, 1) := by decide +kernel
theorem d_Nd_followChain_40 : decode prog_5_method_10_code 40 = .ok (.getfield 11, 3) := by decide +kernel
theorem d_Nd_followChain_43 : decode prog_5_method_10_code 43 = .ok (.iload 4, 2) := by decide +kernel
theorem d_Nd_followChain_45 : decode prog_5_method_10_code 45 = .ok (.iaload, 1) := by decide +kernel
theorem d_Nd_followChain_46 : decode prog_5_method_10_code 46 = .ok (.bipush 20, 2) := by decide +kernel
theorem d_Nd_followChain_48 : decode prog_5_method_10_code 48 = .ok (.if_icmp .ne 7, 3) := by decide +kernel
theorem d_Nd_followChain_51 : decode prog_5_method_10_code 51 = .ok (.iconst 1, 1) := by decide +kernel
theorem d_Nd_followChain_52 : decode prog_5_method_10_code 52 = .ok (.goto 4, 3) := by decide +kernel
theorem d_Nd_followChain_55 : decode prog_5_method_10_code 55 = .ok (.iconst 0, 1) := by decide +kernel
theorem d_Nd_followChain_56 : decode prog_5_method_10_code 56 = .ok (.istore_n 2, 1) := by decide +kernel
theorem d_Nd_followChain_57 : decode prog_5_method_10_code 57 = .ok (.aload_n 0, 1) := by decide +kernel
theorem d_Nd_followChain_58 : decode prog_5_method_10_code 58 = .ok (.getfield 37, 3) := by decide +kernel
theorem d_Nd_followChain_61 : decode prog_5_method_10_code 61 = .ok (.iload 4, 2) := by decide +kernel
theorem d_Nd_followChain_63 : decode prog_5_method_10_code 63 = .ok (.iaload, 1) := by decide +kernel
theorem d_Nd_followChain_64 : decode prog_5_method_10_code 64 = .ok (.istore 4, 2) := by decide +kernel
theorem d_Nd_followChain_66 : decode prog_5_method_10_code 66 = .ok (.iinc 3 1, 3) := by decide +kernel
theorem d_Nd_followChain_69 : decode prog_5_method_10_code 69 = .ok (.goto (-62), 3) := by decide +kernel
theorem d_Nd_followChain_72 : decode prog_5_method_10_code 72 = .ok (.iload_n 3, 1) := by decide +kernel
theorem d_Nd_followChain_73 : decode prog_5_method_10_code 73 = .ok (.ireturn, 1) := by decide +kernel
def wp_Nd_followChain_L7 (K : T_Nd → Int32 → Int32 → Int32 → Int32 → Prop) (post : Int32 → T_Nd → Prop) : Nat → T_Nd → Int32 → Int32 → Int32 → Int32 → Prop
  | 0, _, _, _, _, _ => False
  | n9 + 1, z_this, x1, x2, x3, x4 => ((1070 : Int32) ≤ x3 → (K z_this x1 x2 x3 x4)) ∧ (¬ (1070 : Int32) ≤ x3 → ((x4 < 0 → (K z_this x1 x2 x3 x4)) ∧ (¬ x4 < 0 → (((1070 : Int32) ≤ x4 → (K z_this x1 x2 x3 x4)) ∧ (¬ (1070 : Int32) ≤ x4 → (vp_in x4 1070 ∧ ((x2 = 0 → (vp_in x4 1070 ∧ (((z_this.1 (x4).toNatClampNeg) = (20 : Int32) → (vp_in x4 1070 ∧ (wp_Nd_followChain_L7 K post n9 (z_this.1, z_this.2.1, z_this.2.2.1, z_this.2.2.2.1, z_this.2.2.2.2.1, z_this.2.2.2.2.2.1, z_this.2.2.2.2.2.2.1, z_this.2.2.2.2.2.2.2.1, z_this.2.2.2.2.2.2.2.2.1, (upd z_this.2.2.2.2.2.2.2.2.2.1 (x4).toNatClampNeg (vp_nar .boolean x2)), z_this.2.2.2.2.2.2.2.2.2.2.1, z_this.2.2.2.2.2.2.2.2.2.2.2.1, z_this.2.2.2.2.2.2.2.2.2.2.2.2.1, z_this.2.2.2.2.2.2.2.2.2.2.2.2.2) x1 (1 : Int32) (x3 + (1 : Int32)) (z_this.2.2.2.2.2.2.2.2.1 (x4).toNatClampNeg)))) ∧ (¬ (z_this.1 (x4).toNatClampNeg) = (20 : Int32) → (vp_in x4 1070 ∧ (wp_Nd_followChain_L7 K post n9 (z_this.1, z_this.2.1, z_this.2.2.1, z_this.2.2.2.1, z_this.2.2.2.2.1, z_this.2.2.2.2.2.1, z_this.2.2.2.2.2.2.1, z_this.2.2.2.2.2.2.2.1, z_this.2.2.2.2.2.2.2.2.1, (upd z_this.2.2.2.2.2.2.2.2.2.1 (x4).toNatClampNeg (vp_nar .boolean x2)), z_this.2.2.2.2.2.2.2.2.2.2.1, z_this.2.2.2.2.2.2.2.2.2.2.2.1, z_this.2.2.2.2.2.2.2.2.2.2.2.2.1, z_this.2.2.2.2.2.2.2.2.2.2.2.2.2) x1 (0 : Int32) (x3 + (1 : Int32)) (z_this.2.2.2.2.2.2.2.2.1 (x4).toNatClampNeg))))))) ∧ (¬ x2 = 0 → (vp_in x4 1070 ∧ (wp_Nd_followChain_L7 K post n9 (z_this.1, z_this.2.1, z_this.2.2.1, z_this.2.2.2.1, z_this.2.2.2.2.1, z_this.2.2.2.2.2.1, z_this.2.2.2.2.2.2.1, z_this.2.2.2.2.2.2.2.1, z_this.2.2.2.2.2.2.2.2.1, (upd z_this.2.2.2.2.2.2.2.2.2.1 (x4).toNatClampNeg (vp_nar .boolean x2)), z_this.2.2.2.2.2.2.2.2.2.2.1, z_this.2.2.2.2.2.2.2.2.2.2.2.1, z_this.2.2.2.2.2.2.2.2.2.2.2.2.1, z_this.2.2.2.2.2.2.2.2.2.2.2.2.2) x1 (1 : Int32) (x3 + (1 : Int32)) (z_this.2.2.2.2.2.2.2.2.1 (x4).toNatClampNeg)))))))))))
def wp_Nd_followChain (z_this : T_Nd) (a1 : Int32) (post : Int32 → T_Nd → Prop) : Prop := ∃ k9 : Nat, wp_Nd_followChain_L7 (fun (z_this : T_Nd) (x1 : Int32) (x2 : Int32) (x3 : Int32) (x4 : Int32) => post x3 z_this) post k9 z_this a1 (0 : Int32) (0 : Int32) a1
def rm_Nd_followChain : Room := { frames := 0, cells := 0, slots := 0, locals := 0 }
set_option maxHeartbeats 4000000 in
set_option maxRecDepth 100000 in
theorem t_Nd_followChain_L7 {p : Program} {l : Launch} {o : State × Array Value} {e : Env} {s : State} {m : MethodId} {args : Array Value} {below : List Frame} {meth : Method} {c : Code} {D : va_G} {k : Nat → ClassId} {w0 : va_W} {A : Nat → Prop} {ad_this : Nat → Nat} {post : Int32 → T_Nd → Prop} (hAt : xq_At p s m args meth c prog_5_method_10_code 5 (some (.int)) y_Nd_followChain xq_W) (hK : va_K D vwCl (xt k) s) (hJ : xq_J l o A s s.heap) (hAe : va_A w0 s.heap.size = A) (hA : ∀ q, s.heap.size ≤ q → A q) {K : T_Nd → Int32 → Int32 → Int32 → Int32 → Prop} (hX : ∀ (z_this : T_Nd) (x1 : Int32) (x2 : Int32) (x3 : Int32) (x4 : Int32) (H : Heap) (locs : List Loc) (ls : Array Slot), lv_has ls 5 [(0, .ref (ad_this 0)), (1, .int x1), (2, .int x2), (3, .int x3), (4, .int x4)] → va_P D vwCl (w_Nd k ad_this z_this) H → va_D A (w_Nd k ad_this z_this) → va_S A s.heap H locs → K z_this x1 x2 x3 x4 → W p l e rm_Nd_followChain s m args below meth c H locs 0 0 (xq_Z below D vwCl (xt k) w0 (fun r : Int32 => some (.int r)) post (fun _ : T_Nd => False) (fun u : T_Nd => w_Nd k ad_this u) 0 0 0 0 s) (F0 m 72 ls [])) :
    ∀ (n9 : Nat) (z_this : T_Nd) (x1 : Int32) (x2 : Int32) (x3 : Int32) (x4 : Int32) (H : Heap) (locs : List Loc) (ls : Array Slot), lv_has ls 5 [(0, .ref (ad_this 0)), (1, .int x1), (2, .int x2), (3, .int x3), (4, .int x4)] → va_P D vwCl (w_Nd k ad_this z_this) H → va_D A (w_Nd k ad_this z_this) → va_S A s.heap H locs → wp_Nd_followChain_L7 K post n9 z_this x1 x2 x3 x4 → W p l e rm_Nd_followChain s m args below meth c H locs 0 0 (xq_Z below D vwCl (xt k) w0 (fun r : Int32 => some (.int r)) post (fun _ : T_Nd => False) (fun u : T_Nd => w_Nd k ad_this u) 0 0 0 0 s) (F0 m 7 ls []) := by
  obtain ⟨hx, hb, hml, hr, hlocks, hown, hts, hex, hnm⟩ := id hAt
  intro n9
  induction n9 with
  | zero => intro z_this x1 x2 x3 x4 H locs ls hl hP hD hS hw; exact False.elim (by rw [wp_Nd_followChain_L7] at hw; exact hw)
  | succ n9 ih =>
    intro z_this x1 x2 x3 x4 H locs ls hl hP hD hS hw
    rw [wp_Nd_followChain_L7] at hw
    refine lv_iload_n hx hb d_Nd_followChain_7 rfl (lv_at hl 3 rfl) ?_
    refine lv_sipush (v := (1070 : Int32)) hx hb d_Nd_followChain_8 (by decide) ?_
    refine lv_icmp_ge (tgt := 72) hx hb d_Nd_followChain_11 (by decide) (fun hc => ?_) (fun hc => ?_)
    · have hw := hw.1 hc
      exact hX z_this x1 x2 x3 x4 H locs ls (lv_sub hl [0, 1, 2, 3, 4] rfl) hP hD hS hw
    · have hw := hw.2 hc
      refine lv_iload hx hb d_Nd_followChain_14 (lv_at hl 4 rfl) ?_
      refine lv_if_lt (tgt := 72) hx hb d_Nd_followChain_16 (by decide) (fun hc => ?_) (fun hc => ?_)
      · have hw := hw.1 hc
        exact hX z_this x1 x2 x3 x4 H locs ls (lv_sub hl [0, 1, 2, 3, 4] rfl) hP hD hS hw
      · have hw := hw.2 hc
        refine lv_iload hx hb d_Nd_followChain_19 (lv_at hl 4 rfl) ?_
        refine lv_sipush (v := (1070 : Int32)) hx hb d_Nd_followChain_21 (by decide) ?_
        refine lv_icmp_ge (tgt := 72) hx hb d_Nd_followChain_24 (by decide) (fun hc => ?_) (fun hc => ?_)
        · have hw := hw.1 hc
          exact hX z_this x1 x2 x3 x4 H locs ls (lv_sub hl [0, 1, 2, 3, 4] rfl) hP hD hS hw
        · have hw := hw.2 hc
          refine lv_aload_n hx hb d_Nd_followChain_27 rfl (lv_at hl 0 rfl) ?_
          refine va_get (D := D) (ci := 4) (v := .ref (ad_this 10)) (C := R_Nd) (T := F_Nd) (N := 14) hx hb hts in_Nd hown hK hP 0 rfl rfl 9 (by decide) (hts (.fieldLink R_Nd 40 R_Nd "late" "[Z") kw1_192) (fun _ h9 => h9) rfl d_Nd_followChain_28 ?_
          refine lv_iload hx hb d_Nd_followChain_31 (lv_at hl 4 rfl) ?_
          refine lv_iload_n hx hb d_Nd_followChain_33 rfl (lv_at hl 2 rfl) ?_
          refine va_zast hx hb hK hP hD hS 10 3 rfl rfl hw.1 d_Nd_followChain_34 (fun H locs hP hD hS => ?_)
          have hw := hw.2
          have hP : va_P D vwCl (w_Nd k ad_this (z_this.1, z_this.2.1, z_this.2.2.1, z_this.2.2.2.1, z_this.2.2.2.2.1, z_this.2.2.2.2.2.1, z_this.2.2.2.2.2.2.1, z_this.2.2.2.2.2.2.2.1, z_this.2.2.2.2.2.2.2.2.1, (upd z_this.2.2.2.2.2.2.2.2.2.1 (x4).toNatClampNeg (vp_nar .boolean x2)), z_this.2.2.2.2.2.2.2.2.2.2.1, z_this.2.2.2.2.2.2.2.2.2.2.2.1, z_this.2.2.2.2.2.2.2.2.2.2.2.2.1, z_this.2.2.2.2.2.2.2.2.2.2.2.2.2)) H := hP
          have hD : va_D A (w_Nd k ad_this (z_this.1, z_this.2.1, z_this.2.2.1, z_this.2.2.2.1, z_this.2.2.2.2.1, z_this.2.2.2.2.2.1, z_this.2.2.2.2.2.2.1, z_this.2.2.2.2.2.2.2.1, z_this.2.2.2.2.2.2.2.2.1, (upd z_this.2.2.2.2.2.2.2.2.2.1 (x4).toNatClampNeg (vp_nar .boolean x2)), z_this.2.2.2.2.2.2.2.2.2.2.1, z_this.2.2.2.2.2.2.2.2.2.2.2.1, z_this.2.2.2.2.2.2.2.2.2.2.2.2.1, z_this.2.2.2.2.2.2.2.2.2.2.2.2.2)) := hD
          refine lv_iload_n hx hb d_Nd_followChain_35 rfl (lv_at hl 2 rfl) ?_
          refine lv_if_ne (tgt := 51) hx hb d_Nd_followChain_36 (by decide) (fun hc => ?_) (fun hc => ?_)
          · have hw := hw.2 hc
            refine lv_iconst (v := (1 : Int32)) hx hb d_Nd_followChain_51 (by decide) ?_
            refine lv_goto (tgt := 56) hx hb d_Nd_followChain_52 (by decide) ?_
            refine lv_istore_n (lv' := [(2, .int (1 : Int32)), (0, .ref (ad_this 0)), (1, .int x1), (3, .int x3), (4, .int x4)]) hx hb d_Nd_followChain_56 rfl hl (by decide) rfl (fun ls hl => ?_)
            refine lv_aload_n hx hb d_Nd_followChain_57 rfl (lv_at hl 1 rfl) ?_
            refine va_get (D := D) (ci := 4) (v := .ref (ad_this 9)) (C := R_Nd) (T := F_Nd) (N := 14) hx hb hts in_Nd hown hK hP 0 rfl rfl 8 (by decide) (hts (.fieldLink R_Nd 37 R_Nd "nexts" "[I") kw1_191) (fun _ h9 => h9) rfl d_Nd_followChain_58 ?_
            refine lv_iload hx hb d_Nd_followChain_61 (lv_at hl 4 rfl) ?_
            refine va_iald hx hb hK hP 9 0 rfl rfl hw.1 d_Nd_followChain_63 ?_
            have hw := hw.2
            refine lv_istore (lv' := [(4, .int (z_this.2.2.2.2.2.2.2.2.1 (x4).toNatClampNeg)), (2, .int (1 : Int32)), (0, .ref (ad_this 0)), (1, .int x1), (3, .int x3)]) hx hb d_Nd_followChain_64 hl (by decide) rfl (fun ls hl => ?_)
            refine lv_iinc (v := (x3 + (1 : Int32))) (lv' := [(3, .int (x3 + (1 : Int32))), (4, .int (z_this.2.2.2.2.2.2.2.2.1 (x4).toNatClampNeg)), (2, .int (1 : Int32)), (0, .ref (ad_this 0)), (1, .int x1)]) hx hb d_Nd_followChain_66 hl (k := 4) rfl rfl (by decide) rfl (fun ls hl => ?_)
            refine lv_goto (tgt := 7) hx hb d_Nd_followChain_69 (by decide) ?_
            exact ih (z_this.1, z_this.2.1, z_this.2.2.1, z_this.2.2.2.1, z_this.2.2.2.2.1, z_this.2.2.2.2.2.1, z_this.2.2.2.2.2.2.1, z_this.2.2.2.2.2.2.2.1, z_this.2.2.2.2.2.2.2.2.1, (upd z_this.2.2.2.2.2.2.2.2.2.1 (x4).toNatClampNeg (vp_nar .boolean x2)), z_this.2.2.2.2.2.2.2.2.2.2.1, z_this.2.2.2.2.2.2.2.2.2.2.2.1, z_this.2.2.2.2.2.2.2.2.2.2.2.2.1, z_this.2.2.2.2.2.2.2.2.2.2.2.2.2) x1 (1 : Int32) (x3 + (1 : Int32)) (z_this.2.2.2.2.2.2.2.2.1 (x4).toNatClampNeg) H locs ls (lv_sub hl [3, 4, 2, 0, 1] rfl) hP hD hS hw
          · have hw := hw.1 hc
            refine lv_aload_n hx hb d_Nd_followChain_39 rfl (lv_at hl 0 rfl) ?_
            refine va_get (D := D) (ci := 4) (v := .ref (ad_this 1)) (C := R_Nd) (T := F_Nd) (N := 14) hx hb hts in_Nd hown hK hP 0 rfl rfl 0 (by decide) (hts (.fieldLink R_Nd 11 R_Nd "kinds" "[I") kw1_183) (fun _ h9 => h9) rfl d_Nd_followChain_40 ?_
            refine lv_iload hx hb d_Nd_followChain_43 (lv_at hl 4 rfl) ?_
            refine va_iald hx hb hK hP 1 0 rfl rfl hw.1 d_Nd_followChain_45 ?_
            have hw := hw.2
            refine lv_bipush (v := (20 : Int32)) hx hb d_Nd_followChain_46 (by decide) ?_
            refine lv_icmp_ne (tgt := 55) hx hb d_Nd_followChain_48 (by decide) (fun hc => ?_) (fun hc => ?_)
            · have hw := hw.2 hc
              refine lv_iconst (v := (0 : Int32)) hx hb d_Nd_followChain_55 (by decide) ?_
              refine lv_istore_n (lv' := [(2, .int (0 : Int32)), (0, .ref (ad_this 0)), (1, .int x1), (3, .int x3), (4, .int x4)]) hx hb d_Nd_followChain_56 rfl hl (by decide) rfl (fun ls hl => ?_)
              refine lv_aload_n hx hb d_Nd_followChain_57 rfl (lv_at hl 1 rfl) ?_
              refine va_get (D := D) (ci := 4) (v := .ref (ad_this 9)) (C := R_Nd) (T := F_Nd) (N := 14) hx hb hts in_Nd hown hK hP 0 rfl rfl 8 (by decide) (hts (.fieldLink R_Nd 37 R_Nd "nexts" "[I") kw1_191) (fun _ h9 => h9) rfl d_Nd_followChain_58 ?_
              refine lv_iload hx hb d_Nd_followChain_61 (lv_at hl 4 rfl) ?_
              refine va_iald hx hb hK hP 9 0 rfl rfl hw.1 d_Nd_followChain_63 ?_
              have hw := hw.2
              refine lv_istore (lv' := [(4, .int (z_this.2.2.2.2.2.2.2.2.1 (x4).toNatClampNeg)), (2, .int (0 : Int32)), (0, .ref (ad_this 0)), (1, .int x1), (3, .int x3)]) hx hb d_Nd_followChain_64 hl (by decide) rfl (fun ls hl => ?_)
              refine lv_iinc (v := (x3 + (1 : Int32))) (lv' := [(3, .int (x3 + (1 : Int32))), (4, .int (z_this.2.2.2.2.2.2.2.2.1 (x4).toNatClampNeg)), (2, .int (0 : Int32)), (0, .ref (ad_this 0)), (1, .int x1)]) hx hb d_Nd_followChain_66 hl (k := 4) rfl rfl (by decide) rfl (fun ls hl => ?_)
              refine lv_goto (tgt := 7) hx hb d_Nd_followChain_69 (by decide) ?_
              exact ih (z_this.1, z_this.2.1, z_this.2.2.1, z_this.2.2.2.1, z_this.2.2.2.2.1, z_this.2.2.2.2.2.1, z_this.2.2.2.2.2.2.1, z_this.2.2.2.2.2.2.2.1, z_this.2.2.2.2.2.2.2.2.1, (upd z_this.2.2.2.2.2.2.2.2.2.1 (x4).toNatClampNeg (vp_nar .boolean x2)), z_this.2.2.2.2.2.2.2.2.2.2.1, z_this.2.2.2.2.2.2.2.2.2.2.2.1, z_this.2.2.2.2.2.2.2.2.2.2.2.2.1, z_this.2.2.2.2.2.2.2.2.2.2.2.2.2) x1 (0 : Int32) (x3 + (1 : Int32)) (z_this.2.2.2.2.2.2.2.2.1 (x4).toNatClampNeg) H locs ls (lv_sub hl [3, 4, 2, 0, 1] rfl) hP hD hS hw
            · have hw := hw.1 hc
              refine lv_iconst (v := (1 : Int32)) hx hb d_Nd_followChain_51 (by decide) ?_
              refine lv_goto (tgt := 56) hx hb d_Nd_followChain_52 (by decide) ?_
              refine lv_istore_n (lv' := [(2, .int (1 : Int32)), (0, .ref (ad_this 0)), (1, .int x1), (3, .int x3), (4, .int x4)]) hx hb d_Nd_followChain_56 rfl hl (by decide) rfl (fun ls hl => ?_)
              refine lv_aload_n hx hb d_Nd_followChain_57 rfl (lv_at hl 1 rfl) ?_
              refine va_get (D := D) (ci := 4) (v := .ref (ad_this 9)) (C := R_Nd) (T := F_Nd) (N := 14) hx hb hts in_Nd hown hK hP 0 rfl rfl 8 (by decide) (hts (.fieldLink R_Nd 37 R_Nd "nexts" "[I") kw1_191) (fun _ h9 => h9) rfl d_Nd_followChain_58 ?_
              refine lv_iload hx hb d_Nd_followChain_61 (lv_at hl 4 rfl) ?_
              refine va_iald hx hb hK hP 9 0 rfl rfl hw.1 d_Nd_followChain_63 ?_
              have hw := hw.2
              refine lv_istore (lv' := [(4, .int (z_this.2.2.2.2.2.2.2.2.1 (x4).toNatClampNeg)), (2, .int (1 : Int32)), (0, .ref (ad_this 0)), (1, .int x1), (3, .int x3)]) hx hb d_Nd_followChain_64 hl (by decide) rfl (fun ls hl => ?_)
              refine lv_iinc (v := (x3 + (1 : Int32))) (lv' := [(3, .int (x3 + (1 : Int32))), (4, .int (z_this.2.2.2.2.2.2.2.2.1 (x4).toNatClampNeg)), (2, .int (1 : Int32)), (0, .ref (ad_this 0)), (1, .int x1)]) hx hb d_Nd_followChain_66 hl (k := 4) rfl rfl (by decide) rfl (fun ls hl => ?_)
              refine lv_goto (tgt := 7) hx hb d_Nd_followChain_69 (by decide) ?_
              exact ih (z_this.1, z_this.2.1, z_this.2.2.1, z_this.2.2.2.1, z_this.2.2.2.2.1, z_this.2.2.2.2.2.1, z_this.2.2.2.2.2.2.1, z_this.2.2.2.2.2.2.2.1, z_this.2.2.2.2.2.2.2.2.1, (upd z_this.2.2.2.2.2.2.2.2.2.1 (x4).toNatClampNeg (vp_nar .boolean x2)), z_this.2.2.2.2.2.2.2.2.2.2.1, z_this.2.2.2.2.2.2.2.2.2.2.2.1, z_this.2.2.2.2.2.2.2.2.2.2.2.2.1, z_this.2.2.2.2.2.2.2.2.2.2.2.2.2) x1 (1 : Int32) (x3 + (1 : Int32)) (z_this.2.2.2.2.2.2.2.2.1 (x4).toNatClampNeg) H locs ls (lv_sub hl [3, 4, 2, 0, 1] rfl) hP hD hS hw
set_option maxHeartbeats 4000000 in
set_option maxRecDepth 100000 in
theorem c_Nd_followChain {l : Launch} {o : State × Array Value} {D : va_G} {k : Nat → ClassId} {ad_this : Nat → Nat} {z_this : T_Nd} {a1 : Int32} {post : Int32 → T_Nd → Prop} (hw : wp_Nd_followChain z_this a1 post) : xq_C l o y_Nd_followChain (.code y_Nd_followChain prog_5_method_10_code 5 (some (.int)) :: xq_W) rm_Nd_followChain D vwCl (xt k) [.ref (ad_this 0), .int a1] (w_Nd k ad_this z_this) (fun r : Int32 => some (.int r)) post (fun _ : T_Nd => False) (fun u : T_Nd => w_Nd k ad_this u) 0 0 0 0 := by
  refine xq_ofW (cc := prog_5_method_10_code) (maxL := 5) (ret := (some (.int))) (by decide) rfl (Nat.le_of_ble_eq_true rfl) ?_
  intro p e s m below meth c ls H locs A hAt hAe hA hl hK hJ hP0 hP hD hS
  obtain ⟨hx, hb, hml, hr, hlocks, hown, hts, hex, hnm⟩ := id hAt
  have hl : lv_has ls 5 [(0, .ref (ad_this 0)), (1, .int a1)] := hl
  unfold wp_Nd_followChain at hw
  refine lv_iconst (v := (0 : Int32)) hx hb d_Nd_followChain_0 (by decide) ?_
  refine lv_istore_n (lv' := [(2, .int (0 : Int32)), (0, .ref (ad_this 0)), (1, .int a1)]) hx hb d_Nd_followChain_1 rfl hl (by decide) rfl (fun ls hl => ?_)
  refine lv_iconst (v := (0 : Int32)) hx hb d_Nd_followChain_2 (by decide) ?_
  refine lv_istore_n (lv' := [(3, .int (0 : Int32)), (2, .int (0 : Int32)), (0, .ref (ad_this 0)), (1, .int a1)]) hx hb d_Nd_followChain_3 rfl hl (by decide) rfl (fun ls hl => ?_)
  refine lv_iload_n hx hb d_Nd_followChain_4 rfl (lv_at hl 3 rfl) ?_
  refine lv_istore (lv' := [(4, .int a1), (3, .int (0 : Int32)), (2, .int (0 : Int32)), (0, .ref (ad_this 0)), (1, .int a1)]) hx hb d_Nd_followChain_5 hl (by decide) rfl (fun ls hl => ?_)
  obtain ⟨k9, hw⟩ := hw
  refine t_Nd_followChain_L7 hAt hK hJ hAe hA ?_ k9 z_this a1 (0 : Int32) (0 : Int32) a1 H locs ls (lv_sub hl [3, 4, 2, 1, 0] rfl) hP hD hS hw
  intro z_this x1 x2 x3 x4 H locs ls hl hP hD hS hw
  refine lv_iload_n hx hb d_Nd_followChain_72 rfl (lv_at hl 3 rfl) ?_
  exact xq_iret (r := x3) (u := z_this) hx hb hr hlocks hAe hP hD hS rfl hw (Nat.le_of_ble_eq_true rfl) (Nat.le_of_ble_eq_true rfl) d_Nd_followChain_73
theorem cw_Nd_followChain {R : Room} {s : State} {args : Array Value} {own : String} {index : Nat} (hts : ∀ w ∈ xq_W, w.before args s = true) (hl : .methodLink own index y_Nd_followChain ∈ xq_W) {rm : Room} (hR : rm.frames + 1 ≤ R.frames ∧ 8 + (5 + 11) + rm.locals ≤ R.locals) : CallW R s args own "StepText$Nodes" index y_Nd_followChain prog_5_method_10_code 5 (some (.int)) (.code y_Nd_followChain prog_5_method_10_code 5 (some (.int)) :: xq_W) rm rm.cells rm.slots 1 := ⟨xq_cb 1 hts kw3_78 kw1_10 hl ⟨by decide, by decide, by decide +kernel⟩ hR, hts _ kw3_77, hts _ kp2_8⟩
def y_Nd_add : MethodName := ⟨"StepText$Nodes", "add", "(IIIJI)I"⟩
theorem d_Nd_add_0 : decode prog_5_method_7_code 0 = .ok (.aload_n 0, 1) := by decide +kernel
theorem d_Nd_add_1 : decode prog_5_method_7_code 1 = .ok (.getfield 48, 3) := by decide +kernel
theorem d_Nd_add_4 : decode prog_5_method_7_code 4 = .ok (.sipush 1070, 3) := by decide +kernel
theorem d_Nd_add_7 : decode prog_5_method_7_code 7 = .ok (.if_icmp .lt 5, 3) := by decide +kernel
theorem d_Nd_add_10 : decode prog_5_method_7_code 10 = .ok (.iconst (-1), 1) := by decide +kernel
theorem d_Nd_add_11 : decode prog_5_method_7_code 11 = .ok (.ireturn, 1) := by decide +kernel
theorem d_Nd_add_12 : decode prog_5_method_7_code 12 = .ok (.aload_n 0, 1) := by decide +kernel
theorem d_Nd_add_13 : decode prog_5_method_7_code 13 = .ok (.getfield 48, 3) := by decide +kernel
theorem d_Nd_add_16 : decode prog_5_method_7_code 16 = .ok (.istore 7, 2) := by decide +kernel
theorem d_Nd_add_18 : decode prog_5_method_7_code 18 = .ok (.aload_n 0, 1) := by decide +kernel
theorem d_Nd_add_19 : decode prog_5_method_7_code 19 = .ok (.getfield 11, 3) := by decide +kernel
theorem d_Nd_add_22 : decode prog_5_method_7_code 22 = .ok (.iload 7, 2) := by decide +kernel
theorem d_Nd_add_24 : decode prog_5_method_7_code 24 = .ok (.iload_n 1, 1) := by decide +kernel
theorem d_Nd_add_25 : decode prog_5_method_7_code 25 = .ok (.iastore, 1) := by decide +kernel
theorem d_Nd_add_26 : decode prog_5_method_7_code 26 = .ok (.aload_n 0, 1) := by decide +kernel
theorem d_Nd_add_27 : decode prog_5_method_7_code 27 = .ok (.getfield 25, 3) := by decide +kernel
theorem d_Nd_add_30 : decode prog_5_method_7_code 30 = .ok (.iload 7, 2) := by decide +kernel
theorem d_Nd_add_32 : decode prog_5_method_7_code 32 = .ok (.iload_n 2, 1) := by decide +kernel
theorem d_Nd_add_33 : decode prog_5_method_7_code 33 = .ok (.iastore, 1) := by decide +kernel
theorem d_Nd_add_34 : decode prog_5_method_7_code 34 = .ok (.aload_n 0, 1) := by decide +kernel
theorem d_Nd_add_35 : decode prog_5_method_7_code 35 = .ok (.getfield 15, 3) := by decide +kernel
theorem d_Nd_add_38 : decode prog_5_method_7_code 38 = .ok (.iload 7, 2) := by decide +kernel
theorem d_Nd_add_40 : decode prog_5_method_7_code 40 = .ok (.iload_n 3, 1) := by decide +kernel
theorem d_Nd_add_41 : decode prog_5_method_7_code 41 = .ok (.iastore, 1) := by decide +kernel
theorem d_Nd_add_42 : decode prog_5_method_7_code 42 = .ok (.aload_n 0, 1) := by decide +kernel
theorem d_Nd_add_43 : decode prog_5_method_7_code 43 = .ok (.getfield 18, 3) := by decide +kernel
theorem d_Nd_add_46 : decode prog_5_method_7_code 46 = .ok (.iload 7, 2) := by decide +kernel
theorem d_Nd_add_48 : decode prog_5_method_7_code 48 = .ok (.lload 4, 2) := by decide +kernel
theorem d_Nd_add_50 : decode prog_5_method_7_code 50 = .ok (.lastore, 1) := by decide +kernel
theorem d_Nd_add_51 : decode prog_5_method_7_code 51 = .ok (.aload_n 0, 1) := by decide +kernel
theorem d_Nd_add_52 : decode prog_5_method_7_code 52 = .ok (.getfield 22, 3) := by decide +kernel
theorem d_Nd_add_55 : decode prog_5_method_7_code 55 = .ok (.iload 7, 2) := by decide +kernel
theorem d_Nd_add_57 : decode prog_5_method_7_code 57 = .ok (.iload 6, 2) := by decide +kernel
theorem d_Nd_add_59 : decode prog_5_method_7_code 59 = .ok (.iastore, 1) := by decide +kernel
theorem d_Nd_add_60 : decode prog_5_method_7_code 60 = .ok (.aload_n 0, 1) := by decide +kernel
theorem d_Nd_add_61 : decode prog_5_method_7_code 61 = .ok (.getfield 34, 3) := by decide +kernel
theorem d_Nd_add_64 : decode prog_5_method_7_code 64 = .ok (.iload 7, 2) := by decide +kernel
theorem d_Nd_add_66 : decode prog_5_method_7_code 66 = .ok (.aload_n 0, 1) := by decide +kernel
theorem d_Nd_add_67 : decode prog_5_method_7_code 67 = .ok (.iload_n 2, 1) := by decide +kernel
theorem d_Nd_add_68 : decode prog_5_method_7_code 68 = .ok (.iload 7, 2) := by decide +kernel
theorem d_Nd_add_70 : decode prog_5_method_7_code 70 = .ok (.invokevirtual 57, 3) := by decide +kernel
theorem d_Nd_add_73 : decode prog_5_method_7_code 73 = .ok (.iastore, 1) := by decide +kernel
theorem d_Nd_add_74 : decode prog_5_method_7_code 74 = .ok (.aload_n 0, 1) := by decide +kernel
theorem d_Nd_add_75 : decode prog_5_method_7_code 75 = .ok (.getfield 28, 3) := by decide +kernel
theorem d_Nd_add_78 : decode prog_5_method_7_code 78 = .ok (.iload 7, 2) := by decide +kernel
theorem d_Nd_add_80 : decode prog_5_method_7_code 80 = .ok (.aload_n 0, 1) := by decide +kernel
theorem d_Nd_add_81 : decode prog_5_method_7_code 81 = .ok (.aload_n 0, 1) := by decide +kernel
theorem d_Nd_add_82 : decode prog_5_method_7_code 82 = .ok (.getfield 34, 3) := by decide +kernel
theorem d_Nd_add_85 : decode prog_5_method_7_code 85 = .ok (.iload 7, 2) := by decide +kernel
theorem d_Nd_add_87 : decode prog_5_method_7_code 87 = .ok (.iaload, 1) := by decide +kernel
theorem d_Nd_add_88 : decode prog_5_method_7_code 88 = .ok (.invokevirtual 61, 3) := by decide +kernel
theorem d_Nd_add_91 : decode prog_5_method_7_code 91 = .ok (.iastore, 1) := by decide +kernel
theorem d_Nd_add_92 : decode prog_5_method_7_code 92 = .ok (.iload_n 1, 1) := by decide +kernel
theorem d_Nd_add_93 : decode prog_5_method_7_code 93 = .ok (.bipush 10, 2) := by decide +kernel
theorem d_Nd_add_95 : decode prog_5_method_7_code 95 = .ok (.if_icmp .lt 19, 3) := by decide +kernel
theorem d_Nd_add_98 : decode prog_5_method_7_code 98 = .ok (.iload_n 1, 1) := by decide +kernel
theorem d_Nd_add_99 : decode prog_5_method_7_code 99 = .ok (.bipush 22, 2) := by decide +kernel
theorem d_Nd_add_101 : decode prog_5_method_7_code 101 = .ok (.if_icmp .gt 13, 3) := by decide +kernel
theorem d_Nd_add_104 : decode prog_5_method_7_code 104 = .ok (.aload_n 0, 1) := by decide +kernel
theorem d_Nd_add_105 : decode prog_5_method_7_code 105 = .ok (.dup, 1) := by decide +kernel
theorem d_Nd_add_106 : decode prog_5_method_7_code 106 = .ok (.getfield 54, 3) := by decide +kernel
theorem d_Nd_add_109 : decode prog_5_method_7_code 109 = .ok (.iconst 1, 1) := by decide +kernel
theorem d_Nd_add_110 : decode prog_5_method_7_code 110 = .ok (.iadd, 1) := by decide +kernel
theorem d_Nd_add_111 : decode prog_5_method_7_code 111 = .ok (.putfield 54, 3) := by decide +kernel
theorem d_Nd_add_114 : decode prog_5_method_7_code 114 = .ok (.aload_n 0, 1) := by decide +kernel
theorem d_Nd_add_115 : decode prog_5_method_7_code 115 = .ok (.dup, 1) := by decide +kernel
theorem d_Nd_add_116 : decode prog_5_method_7_code 116 = .ok (.getfield 48, 3) := by decide +kernel
theorem d_Nd_add_119 : decode prog_5_method_7_code 119 = .ok (.iconst 1, 1) := by decide +kernel
theorem d_Nd_add_120 : decode prog_5_method_7_code 120 = .ok (.iadd, 1) := by decide +kernel
theorem d_Nd_add_121 : decode prog_5_method_7_code 121 = .ok (.putfield 48, 3) := by decide +kernel
theorem d_Nd_add_124 : decode prog_5_method_7_code 124 = .ok (.iload 7, 2) := by decide +kernel
theorem d_Nd_add_126 : decode prog_5_method_7_code 126 = .ok (.ireturn, 1) := by decide +kernel
def wp_Nd_add (z_this : T_Nd) (a1 : Int32) (a2 : Int32) (a3 : Int32) (a4 : Int64) (a6 : Int32) (post : Int32 → T_Nd → Prop) : Prop := (z_this.2.2.2.2.2.2.2.2.2.2.1 < (1070 : Int32) → (vp_in z_this.2.2.2.2.2.2.2.2.2.2.1 1070 ∧ (vp_in z_this.2.2.2.2.2.2.2.2.2.2.1 1070 ∧ (vp_in z_this.2.2.2.2.2.2.2.2.2.2.1 1070 ∧ (vp_in z_this.2.2.2.2.2.2.2.2.2.2.1 1070 ∧ (vp_in z_this.2.2.2.2.2.2.2.2.2.2.1 1070 ∧ (wp_Nd_chainFrom ((upd z_this.1 (z_this.2.2.2.2.2.2.2.2.2.2.1).toNatClampNeg a1), (upd z_this.2.1 (z_this.2.2.2.2.2.2.2.2.2.2.1).toNatClampNeg a3), (vp_updL z_this.2.2.1 (z_this.2.2.2.2.2.2.2.2.2.2.1).toNatClampNeg a4), (upd z_this.2.2.2.1 (z_this.2.2.2.2.2.2.2.2.2.2.1).toNatClampNeg a6), (upd z_this.2.2.2.2.1 (z_this.2.2.2.2.2.2.2.2.2.2.1).toNatClampNeg a2), z_this.2.2.2.2.2.1, z_this.2.2.2.2.2.2.1, z_this.2.2.2.2.2.2.2.1, z_this.2.2.2.2.2.2.2.2.1, z_this.2.2.2.2.2.2.2.2.2.1, z_this.2.2.2.2.2.2.2.2.2.2.1, z_this.2.2.2.2.2.2.2.2.2.2.2.1, z_this.2.2.2.2.2.2.2.2.2.2.2.2.1, z_this.2.2.2.2.2.2.2.2.2.2.2.2.2) a2 z_this.2.2.2.2.2.2.2.2.2.2.1 (fun (r1 : Int32) (u1 : T_Nd) => vp_in z_this.2.2.2.2.2.2.2.2.2.2.1 1070 ∧ (vp_in z_this.2.2.2.2.2.2.2.2.2.2.1 1070 ∧ (wp_Nd_followChain (u1.1, u1.2.1, u1.2.2.1, u1.2.2.2.1, u1.2.2.2.2.1, u1.2.2.2.2.2.1, u1.2.2.2.2.2.2.1, (upd u1.2.2.2.2.2.2.2.1 (z_this.2.2.2.2.2.2.2.2.2.2.1).toNatClampNeg r1), u1.2.2.2.2.2.2.2.2.1, u1.2.2.2.2.2.2.2.2.2.1, u1.2.2.2.2.2.2.2.2.2.2.1, u1.2.2.2.2.2.2.2.2.2.2.2.1, u1.2.2.2.2.2.2.2.2.2.2.2.2.1, u1.2.2.2.2.2.2.2.2.2.2.2.2.2) ((upd u1.2.2.2.2.2.2.2.1 (z_this.2.2.2.2.2.2.2.2.2.2.1).toNatClampNeg r1) (z_this.2.2.2.2.2.2.2.2.2.2.1).toNatClampNeg) (fun (r2 : Int32) (u2 : T_Nd) => vp_in z_this.2.2.2.2.2.2.2.2.2.2.1 1070 ∧ ((a1 < (10 : Int32) → (post z_this.2.2.2.2.2.2.2.2.2.2.1 (u2.1, u2.2.1, u2.2.2.1, u2.2.2.2.1, u2.2.2.2.2.1, (upd u2.2.2.2.2.2.1 (z_this.2.2.2.2.2.2.2.2.2.2.1).toNatClampNeg r2), u2.2.2.2.2.2.2.1, u2.2.2.2.2.2.2.2.1, u2.2.2.2.2.2.2.2.2.1, u2.2.2.2.2.2.2.2.2.2.1, (u2.2.2.2.2.2.2.2.2.2.2.1 + (1 : Int32)), u2.2.2.2.2.2.2.2.2.2.2.2.1, u2.2.2.2.2.2.2.2.2.2.2.2.2.1, u2.2.2.2.2.2.2.2.2.2.2.2.2.2))) ∧ (¬ a1 < (10 : Int32) → (((22 : Int32) < a1 → (post z_this.2.2.2.2.2.2.2.2.2.2.1 (u2.1, u2.2.1, u2.2.2.1, u2.2.2.2.1, u2.2.2.2.2.1, (upd u2.2.2.2.2.2.1 (z_this.2.2.2.2.2.2.2.2.2.2.1).toNatClampNeg r2), u2.2.2.2.2.2.2.1, u2.2.2.2.2.2.2.2.1, u2.2.2.2.2.2.2.2.2.1, u2.2.2.2.2.2.2.2.2.2.1, (u2.2.2.2.2.2.2.2.2.2.2.1 + (1 : Int32)), u2.2.2.2.2.2.2.2.2.2.2.2.1, u2.2.2.2.2.2.2.2.2.2.2.2.2.1, u2.2.2.2.2.2.2.2.2.2.2.2.2.2))) ∧ (¬ (22 : Int32) < a1 → (post z_this.2.2.2.2.2.2.2.2.2.2.1 (u2.1, u2.2.1, u2.2.2.1, u2.2.2.2.1, u2.2.2.2.2.1, (upd u2.2.2.2.2.2.1 (z_this.2.2.2.2.2.2.2.2.2.2.1).toNatClampNeg r2), u2.2.2.2.2.2.2.1, u2.2.2.2.2.2.2.2.1, u2.2.2.2.2.2.2.2.2.1, u2.2.2.2.2.2.2.2.2.2.1, (u2.2.2.2.2.2.2.2.2.2.2.1 + (1 : Int32)), u2.2.2.2.2.2.2.2.2.2.2.2.1, u2.2.2.2.2.2.2.2.2.2.2.2.2.1, (u2.2.2.2.2.2.2.2.2.2.2.2.2.2 + (1 : Int32))))))))))))))))))) ∧ (¬ z_this.2.2.2.2.2.2.2.2.2.2.1 < (1070 : Int32) → (post (-1 : Int32) z_this))
def rm_Nd_add : Room := { frames := 1, cells := 0, slots := 0, locals := 25 }
set_option maxHeartbeats 4000000 in
set_option maxRecDepth 100000 in
theorem c_Nd_add {l : Launch} {o : State × Array Value} {D : va_G} {k : Nat → ClassId} {ad_this : Nat → Nat} {z_this : T_Nd} {a1 : Int32} {a2 : Int32} {a3 : Int32} {a4 : Int64} {a6 : Int32} {post : Int32 → T_Nd → Prop} (hw : wp_Nd_add z_this a1 a2 a3 a4 a6 post) : xq_C l o y_Nd_add (.code y_Nd_add prog_5_method_7_code 8 (some (.int)) :: xq_W) rm_Nd_add D vwCl (xt k) [.ref (ad_this 0), .int a1, .int a2, .int a3, .long a4, .int a6] (w_Nd k ad_this z_this) (fun r : Int32 => some (.int r)) post (fun _ : T_Nd => False) (fun u : T_Nd => w_Nd k ad_this u) 0 0 0 0 := by
  refine xq_ofW (cc := prog_5_method_7_code) (maxL := 8) (ret := (some (.int))) (by decide) rfl (Nat.le_of_ble_eq_true rfl) ?_
  intro p e s m below meth c ls H locs A hAt hAe hA hl hK hJ hP0 hP hD hS
  obtain ⟨hx, hb, hml, hr, hlocks, hown, hts, hex, hnm⟩ := id hAt
  have hl : lv_has ls 8 [(0, .ref (ad_this 0)), (1, .int a1), (2, .int a2), (3, .int a3), (4, .long a4), (6, .int a6)] := hl
  unfold wp_Nd_add at hw
  refine lv_aload_n hx hb d_Nd_add_0 rfl (lv_at hl 0 rfl) ?_
  refine va_get (D := D) (ci := 4) (v := .int z_this.2.2.2.2.2.2.2.2.2.2.1) (C := R_Nd) (T := F_Nd) (N := 14) hx hb hts in_Nd hown hK hP 0 rfl rfl 10 (by decide) (hts (.fieldLink R_Nd 48 R_Nd "count" "I") kw1_193) (fun _ h9 => h9) rfl d_Nd_add_1 ?_
  refine lv_sipush (v := (1070 : Int32)) hx hb d_Nd_add_4 (by decide) ?_
  refine lv_icmp_lt (tgt := 12) hx hb d_Nd_add_7 (by decide) (fun hc => ?_) (fun hc => ?_)
  · have hw := hw.1 hc
    refine lv_aload_n hx hb d_Nd_add_12 rfl (lv_at hl 0 rfl) ?_
    refine va_get (D := D) (ci := 4) (v := .int z_this.2.2.2.2.2.2.2.2.2.2.1) (C := R_Nd) (T := F_Nd) (N := 14) hx hb hts in_Nd hown hK hP 0 rfl rfl 10 (by decide) (hts (.fieldLink R_Nd 48 R_Nd "count" "I") kw1_193) (fun _ h9 => h9) rfl d_Nd_add_13 ?_
    refine lv_istore (lv' := [(7, .int z_this.2.2.2.2.2.2.2.2.2.2.1), (0, .ref (ad_this 0)), (1, .int a1), (2, .int a2), (3, .int a3), (4, .long a4), (6, .int a6)]) hx hb d_Nd_add_16 hl (by decide) rfl (fun ls hl => ?_)
    refine lv_aload_n hx hb d_Nd_add_18 rfl (lv_at hl 1 rfl) ?_
    refine va_get (D := D) (ci := 4) (v := .ref (ad_this 1)) (C := R_Nd) (T := F_Nd) (N := 14) hx hb hts in_Nd hown hK hP 0 rfl rfl 0 (by decide) (hts (.fieldLink R_Nd 11 R_Nd "kinds" "[I") kw1_183) (fun _ h9 => h9) rfl d_Nd_add_19 ?_
    refine lv_iload hx hb d_Nd_add_22 (lv_at hl 0 rfl) ?_
    refine lv_iload_n hx hb d_Nd_add_24 rfl (lv_at hl 2 rfl) ?_
    refine va_iast hx hb hK hP hD hS 1 0 rfl rfl hw.1 d_Nd_add_25 (fun H locs hP hD hS => ?_)
    have hw := hw.2
    have hP : va_P D vwCl (w_Nd k ad_this ((upd z_this.1 (z_this.2.2.2.2.2.2.2.2.2.2.1).toNatClampNeg a1), z_this.2.1, z_this.2.2.1, z_this.2.2.2.1, z_this.2.2.2.2.1, z_this.2.2.2.2.2.1, z_this.2.2.2.2.2.2.1, z_this.2.2.2.2.2.2.2.1, z_this.2.2.2.2.2.2.2.2.1, z_this.2.2.2.2.2.2.2.2.2.1, z_this.2.2.2.2.2.2.2.2.2.2.1, z_this.2.2.2.2.2.2.2.2.2.2.2.1, z_this.2.2.2.2.2.2.2.2.2.2.2.2.1, z_this.2.2.2.2.2.2.2.2.2.2.2.2.2)) H := hP
    have hD : va_D A (w_Nd k ad_this ((upd z_this.1 (z_this.2.2.2.2.2.2.2.2.2.2.1).toNatClampNeg a1), z_this.2.1, z_this.2.2.1, z_this.2.2.2.1, z_this.2.2.2.2.1, z_this.2.2.2.2.2.1, z_this.2.2.2.2.2.2.1, z_this.2.2.2.2.2.2.2.1, z_this.2.2.2.2.2.2.2.2.1, z_this.2.2.2.2.2.2.2.2.2.1, z_this.2.2.2.2.2.2.2.2.2.2.1, z_this.2.2.2.2.2.2.2.2.2.2.2.1, z_this.2.2.2.2.2.2.2.2.2.2.2.2.1, z_this.2.2.2.2.2.2.2.2.2.2.2.2.2)) := hD
    refine lv_aload_n hx hb d_Nd_add_26 rfl (lv_at hl 1 rfl) ?_
    refine va_get (D := D) (ci := 4) (v := .ref (ad_this 5)) (C := R_Nd) (T := F_Nd) (N := 14) hx hb hts in_Nd hown hK hP 0 rfl rfl 4 (by decide) (hts (.fieldLink R_Nd 25 R_Nd "lows" "[I") kw1_187) (fun _ h9 => h9) rfl d_Nd_add_27 ?_
    refine lv_iload hx hb d_Nd_add_30 (lv_at hl 0 rfl) ?_
    refine lv_iload_n hx hb d_Nd_add_32 rfl (lv_at hl 3 rfl) ?_
    refine va_iast hx hb hK hP hD hS 5 0 rfl rfl hw.1 d_Nd_add_33 (fun H locs hP hD hS => ?_)
    have hw := hw.2
    have hP : va_P D vwCl (w_Nd k ad_this ((upd z_this.1 (z_this.2.2.2.2.2.2.2.2.2.2.1).toNatClampNeg a1), z_this.2.1, z_this.2.2.1, z_this.2.2.2.1, (upd z_this.2.2.2.2.1 (z_this.2.2.2.2.2.2.2.2.2.2.1).toNatClampNeg a2), z_this.2.2.2.2.2.1, z_this.2.2.2.2.2.2.1, z_this.2.2.2.2.2.2.2.1, z_this.2.2.2.2.2.2.2.2.1, z_this.2.2.2.2.2.2.2.2.2.1, z_this.2.2.2.2.2.2.2.2.2.2.1, z_this.2.2.2.2.2.2.2.2.2.2.2.1, z_this.2.2.2.2.2.2.2.2.2.2.2.2.1, z_this.2.2.2.2.2.2.2.2.2.2.2.2.2)) H := hP
    have hD : va_D A (w_Nd k ad_this ((upd z_this.1 (z_this.2.2.2.2.2.2.2.2.2.2.1).toNatClampNeg a1), z_this.2.1, z_this.2.2.1, z_this.2.2.2.1, (upd z_this.2.2.2.2.1 (z_this.2.2.2.2.2.2.2.2.2.2.1).toNatClampNeg a2), z_this.2.2.2.2.2.1, z_this.2.2.2.2.2.2.1, z_this.2.2.2.2.2.2.2.1, z_this.2.2.2.2.2.2.2.2.1, z_this.2.2.2.2.2.2.2.2.2.1, z_this.2.2.2.2.2.2.2.2.2.2.1, z_this.2.2.2.2.2.2.2.2.2.2.2.1, z_this.2.2.2.2.2.2.2.2.2.2.2.2.1, z_this.2.2.2.2.2.2.2.2.2.2.2.2.2)) := hD
    refine lv_aload_n hx hb d_Nd_add_34 rfl (lv_at hl 1 rfl) ?_
    refine va_get (D := D) (ci := 4) (v := .ref (ad_this 2)) (C := R_Nd) (T := F_Nd) (N := 14) hx hb hts in_Nd hown hK hP 0 rfl rfl 1 (by decide) (hts (.fieldLink R_Nd 15 R_Nd "rows" "[I") kw1_184) (fun _ h9 => h9) rfl d_Nd_add_35 ?_
    refine lv_iload hx hb d_Nd_add_38 (lv_at hl 0 rfl) ?_
    refine lv_iload_n hx hb d_Nd_add_40 rfl (lv_at hl 4 rfl) ?_
    refine va_iast hx hb hK hP hD hS 2 0 rfl rfl hw.1 d_Nd_add_41 (fun H locs hP hD hS => ?_)
    have hw := hw.2
    have hP : va_P D vwCl (w_Nd k ad_this ((upd z_this.1 (z_this.2.2.2.2.2.2.2.2.2.2.1).toNatClampNeg a1), (upd z_this.2.1 (z_this.2.2.2.2.2.2.2.2.2.2.1).toNatClampNeg a3), z_this.2.2.1, z_this.2.2.2.1, (upd z_this.2.2.2.2.1 (z_this.2.2.2.2.2.2.2.2.2.2.1).toNatClampNeg a2), z_this.2.2.2.2.2.1, z_this.2.2.2.2.2.2.1, z_this.2.2.2.2.2.2.2.1, z_this.2.2.2.2.2.2.2.2.1, z_this.2.2.2.2.2.2.2.2.2.1, z_this.2.2.2.2.2.2.2.2.2.2.1, z_this.2.2.2.2.2.2.2.2.2.2.2.1, z_this.2.2.2.2.2.2.2.2.2.2.2.2.1, z_this.2.2.2.2.2.2.2.2.2.2.2.2.2)) H := hP
    have hD : va_D A (w_Nd k ad_this ((upd z_this.1 (z_this.2.2.2.2.2.2.2.2.2.2.1).toNatClampNeg a1), (upd z_this.2.1 (z_this.2.2.2.2.2.2.2.2.2.2.1).toNatClampNeg a3), z_this.2.2.1, z_this.2.2.2.1, (upd z_this.2.2.2.2.1 (z_this.2.2.2.2.2.2.2.2.2.2.1).toNatClampNeg a2), z_this.2.2.2.2.2.1, z_this.2.2.2.2.2.2.1, z_this.2.2.2.2.2.2.2.1, z_this.2.2.2.2.2.2.2.2.1, z_this.2.2.2.2.2.2.2.2.2.1, z_this.2.2.2.2.2.2.2.2.2.2.1, z_this.2.2.2.2.2.2.2.2.2.2.2.1, z_this.2.2.2.2.2.2.2.2.2.2.2.2.1, z_this.2.2.2.2.2.2.2.2.2.2.2.2.2)) := hD
    refine lv_aload_n hx hb d_Nd_add_42 rfl (lv_at hl 1 rfl) ?_
    refine va_get (D := D) (ci := 4) (v := .ref (ad_this 3)) (C := R_Nd) (T := F_Nd) (N := 14) hx hb hts in_Nd hown hK hP 0 rfl rfl 2 (by decide) (hts (.fieldLink R_Nd 18 R_Nd "values" "[J") kw1_185) (fun _ h9 => h9) rfl d_Nd_add_43 ?_
    refine lv_iload hx hb d_Nd_add_46 (lv_at hl 0 rfl) ?_
    refine lv_lload hx hb d_Nd_add_48 (lv_at hl 5 rfl) ?_
    refine va_last hx hb hK hP hD hS 3 1 rfl rfl hw.1 d_Nd_add_50 (fun H locs hP hD hS => ?_)
    have hw := hw.2
    have hP : va_P D vwCl (w_Nd k ad_this ((upd z_this.1 (z_this.2.2.2.2.2.2.2.2.2.2.1).toNatClampNeg a1), (upd z_this.2.1 (z_this.2.2.2.2.2.2.2.2.2.2.1).toNatClampNeg a3), (vp_updL z_this.2.2.1 (z_this.2.2.2.2.2.2.2.2.2.2.1).toNatClampNeg a4), z_this.2.2.2.1, (upd z_this.2.2.2.2.1 (z_this.2.2.2.2.2.2.2.2.2.2.1).toNatClampNeg a2), z_this.2.2.2.2.2.1, z_this.2.2.2.2.2.2.1, z_this.2.2.2.2.2.2.2.1, z_this.2.2.2.2.2.2.2.2.1, z_this.2.2.2.2.2.2.2.2.2.1, z_this.2.2.2.2.2.2.2.2.2.2.1, z_this.2.2.2.2.2.2.2.2.2.2.2.1, z_this.2.2.2.2.2.2.2.2.2.2.2.2.1, z_this.2.2.2.2.2.2.2.2.2.2.2.2.2)) H := hP
    have hD : va_D A (w_Nd k ad_this ((upd z_this.1 (z_this.2.2.2.2.2.2.2.2.2.2.1).toNatClampNeg a1), (upd z_this.2.1 (z_this.2.2.2.2.2.2.2.2.2.2.1).toNatClampNeg a3), (vp_updL z_this.2.2.1 (z_this.2.2.2.2.2.2.2.2.2.2.1).toNatClampNeg a4), z_this.2.2.2.1, (upd z_this.2.2.2.2.1 (z_this.2.2.2.2.2.2.2.2.2.2.1).toNatClampNeg a2), z_this.2.2.2.2.2.1, z_this.2.2.2.2.2.2.1, z_this.2.2.2.2.2.2.2.1, z_this.2.2.2.2.2.2.2.2.1, z_this.2.2.2.2.2.2.2.2.2.1, z_this.2.2.2.2.2.2.2.2.2.2.1, z_this.2.2.2.2.2.2.2.2.2.2.2.1, z_this.2.2.2.2.2.2.2.2.2.2.2.2.1, z_this.2.2.2.2.2.2.2.2.2.2.2.2.2)) := hD
    refine lv_aload_n hx hb d_Nd_add_51 rfl (lv_at hl 1 rfl) ?_
    refine va_get (D := D) (ci := 4) (v := .ref (ad_this 4)) (C := R_Nd) (T := F_Nd) (N := 14) hx hb hts in_Nd hown hK hP 0 rfl rfl 3 (by decide) (hts (.fieldLink R_Nd 22 R_Nd "measures" "[I") kw1_186) (fun _ h9 => h9) rfl d_Nd_add_52 ?_
    refine lv_iload hx hb d_Nd_add_55 (lv_at hl 0 rfl) ?_
    refine lv_iload hx hb d_Nd_add_57 (lv_at hl 6 rfl) ?_
    refine va_iast hx hb hK hP hD hS 4 0 rfl rfl hw.1 d_Nd_add_59 (fun H locs hP hD hS => ?_)
    have hw := hw.2
    have hP : va_P D vwCl (w_Nd k ad_this ((upd z_this.1 (z_this.2.2.2.2.2.2.2.2.2.2.1).toNatClampNeg a1), (upd z_this.2.1 (z_this.2.2.2.2.2.2.2.2.2.2.1).toNatClampNeg a3), (vp_updL z_this.2.2.1 (z_this.2.2.2.2.2.2.2.2.2.2.1).toNatClampNeg a4), (upd z_this.2.2.2.1 (z_this.2.2.2.2.2.2.2.2.2.2.1).toNatClampNeg a6), (upd z_this.2.2.2.2.1 (z_this.2.2.2.2.2.2.2.2.2.2.1).toNatClampNeg a2), z_this.2.2.2.2.2.1, z_this.2.2.2.2.2.2.1, z_this.2.2.2.2.2.2.2.1, z_this.2.2.2.2.2.2.2.2.1, z_this.2.2.2.2.2.2.2.2.2.1, z_this.2.2.2.2.2.2.2.2.2.2.1, z_this.2.2.2.2.2.2.2.2.2.2.2.1, z_this.2.2.2.2.2.2.2.2.2.2.2.2.1, z_this.2.2.2.2.2.2.2.2.2.2.2.2.2)) H := hP
    have hD : va_D A (w_Nd k ad_this ((upd z_this.1 (z_this.2.2.2.2.2.2.2.2.2.2.1).toNatClampNeg a1), (upd z_this.2.1 (z_this.2.2.2.2.2.2.2.2.2.2.1).toNatClampNeg a3), (vp_updL z_this.2.2.1 (z_this.2.2.2.2.2.2.2.2.2.2.1).toNatClampNeg a4), (upd z_this.2.2.2.1 (z_this.2.2.2.2.2.2.2.2.2.2.1).toNatClampNeg a6), (upd z_this.2.2.2.2.1 (z_this.2.2.2.2.2.2.2.2.2.2.1).toNatClampNeg a2), z_this.2.2.2.2.2.1, z_this.2.2.2.2.2.2.1, z_this.2.2.2.2.2.2.2.1, z_this.2.2.2.2.2.2.2.2.1, z_this.2.2.2.2.2.2.2.2.2.1, z_this.2.2.2.2.2.2.2.2.2.2.1, z_this.2.2.2.2.2.2.2.2.2.2.2.1, z_this.2.2.2.2.2.2.2.2.2.2.2.2.1, z_this.2.2.2.2.2.2.2.2.2.2.2.2.2)) := hD
    refine lv_aload_n hx hb d_Nd_add_60 rfl (lv_at hl 1 rfl) ?_
    refine va_get (D := D) (ci := 4) (v := .ref (ad_this 8)) (C := R_Nd) (T := F_Nd) (N := 14) hx hb hts in_Nd hown hK hP 0 rfl rfl 7 (by decide) (hts (.fieldLink R_Nd 34 R_Nd "firsts" "[I") kw1_190) (fun _ h9 => h9) rfl d_Nd_add_61 ?_
    refine lv_iload hx hb d_Nd_add_64 (lv_at hl 0 rfl) ?_
    refine lv_aload_n hx hb d_Nd_add_66 rfl (lv_at hl 1 rfl) ?_
    refine lv_iload_n hx hb d_Nd_add_67 rfl (lv_at hl 3 rfl) ?_
    refine lv_iload hx hb d_Nd_add_68 (lv_at hl 0 rfl) ?_
    refine xq_go (wr := ([] : va_W)) (stk := fun r => .int r :: [.int z_this.2.2.2.2.2.2.2.2.2.2.1, .ref (ad_this 8)]) (xq_runV (As := [.int a2, .int z_this.2.2.2.2.2.2.2.2.2.2.1]) (rest := [.int z_this.2.2.2.2.2.2.2.2.2.2.1, .ref (ad_this 8)]) ⟨hx, hb, hml, hown, hts⟩ (c_Nd_chainFrom (l := l) (o := o) (D := D) (k := k) (ad_this := ad_this) hw) (cw_Nd_chainFrom hts kw3_71 ⟨Nat.le_of_ble_eq_true rfl, Nat.le_of_ble_eq_true rfl⟩) (va_recv hK hP (ci := 4) (q0 := 0) rfl rfl) (hP.sub [0, 1, 2, 3, 4, 5, 6, 7, 8, 9, 10] rfl) hK hJ hS (va_free hD hS hA [0, 1, 2, 3, 4, 5, 6, 7, 8, 9, 10] rfl) ((hD.sub [0, 1, 2, 3, 4, 5, 6, 7, 8, 9, 10] (by decide) rfl).weaken (fun _ _ _ _ => trivial)) rfl hl.1 (Nat.le_of_ble_eq_true rfl) d_Nd_add_70 ⟨Nat.le_of_ble_eq_true rfl, Nat.le_of_ble_eq_true rfl⟩) hP hD hS hA [0, 1, 2, 3, 4, 5, 6, 7, 8, 9, 10] [] rfl rfl (by decide) (by decide) (fun _ => rfl) (fun r1 u1 H locs hw hP hD hS => ?_) (fun _ _ _ _ h9 => h9.elim)
    have hP : va_P D vwCl (w_Nd k ad_this u1) H := hP.sub [0, 1, 2, 3, 4, 5, 6, 7, 8, 9, 10] rfl
    have hD : va_D A (w_Nd k ad_this u1) := hD.sub [0, 1, 2, 3, 4, 5, 6, 7, 8, 9, 10] (by decide) rfl
    refine va_iast hx hb hK hP hD hS 8 0 rfl rfl hw.1 d_Nd_add_73 (fun H locs hP hD hS => ?_)
    have hw := hw.2
    have hP : va_P D vwCl (w_Nd k ad_this (u1.1, u1.2.1, u1.2.2.1, u1.2.2.2.1, u1.2.2.2.2.1, u1.2.2.2.2.2.1, u1.2.2.2.2.2.2.1, (upd u1.2.2.2.2.2.2.2.1 (z_this.2.2.2.2.2.2.2.2.2.2.1).toNatClampNeg r1), u1.2.2.2.2.2.2.2.2.1, u1.2.2.2.2.2.2.2.2.2.1, u1.2.2.2.2.2.2.2.2.2.2.1, u1.2.2.2.2.2.2.2.2.2.2.2.1, u1.2.2.2.2.2.2.2.2.2.2.2.2.1, u1.2.2.2.2.2.2.2.2.2.2.2.2.2)) H := hP
    have hD : va_D A (w_Nd k ad_this (u1.1, u1.2.1, u1.2.2.1, u1.2.2.2.1, u1.2.2.2.2.1, u1.2.2.2.2.2.1, u1.2.2.2.2.2.2.1, (upd u1.2.2.2.2.2.2.2.1 (z_this.2.2.2.2.2.2.2.2.2.2.1).toNatClampNeg r1), u1.2.2.2.2.2.2.2.2.1, u1.2.2.2.2.2.2.2.2.2.1, u1.2.2.2.2.2.2.2.2.2.2.1, u1.2.2.2.2.2.2.2.2.2.2.2.1, u1.2.2.2.2.2.2.2.2.2.2.2.2.1, u1.2.2.2.2.2.2.2.2.2.2.2.2.2)) := hD
    refine lv_aload_n hx hb d_Nd_add_74 rfl (lv_at hl 1 rfl) ?_
    refine va_get (D := D) (ci := 4) (v := .ref (ad_this 6)) (C := R_Nd) (T := F_Nd) (N := 14) hx hb hts in_Nd hown hK hP 0 rfl rfl 5 (by decide) (hts (.fieldLink R_Nd 28 R_Nd "sizes" "[I") kw1_188) (fun _ h9 => h9) rfl d_Nd_add_75 ?_
    refine lv_iload hx hb d_Nd_add_78 (lv_at hl 0 rfl) ?_
    refine lv_aload_n hx hb d_Nd_add_80 rfl (lv_at hl 1 rfl) ?_
    refine lv_aload_n hx hb d_Nd_add_81 rfl (lv_at hl 1 rfl) ?_
    refine va_get (D := D) (ci := 4) (v := .ref (ad_this 8)) (C := R_Nd) (T := F_Nd) (N := 14) hx hb hts in_Nd hown hK hP 0 rfl rfl 7 (by decide) (hts (.fieldLink R_Nd 34 R_Nd "firsts" "[I") kw1_190) (fun _ h9 => h9) rfl d_Nd_add_82 ?_
    refine lv_iload hx hb d_Nd_add_85 (lv_at hl 0 rfl) ?_
    refine va_iald hx hb hK hP 8 0 rfl rfl hw.1 d_Nd_add_87 ?_
    have hw := hw.2
    refine xq_go (wr := ([] : va_W)) (stk := fun r => .int r :: [.int z_this.2.2.2.2.2.2.2.2.2.2.1, .ref (ad_this 6)]) (xq_runV (As := [.int ((upd u1.2.2.2.2.2.2.2.1 (z_this.2.2.2.2.2.2.2.2.2.2.1).toNatClampNeg r1) (z_this.2.2.2.2.2.2.2.2.2.2.1).toNatClampNeg)]) (rest := [.int z_this.2.2.2.2.2.2.2.2.2.2.1, .ref (ad_this 6)]) ⟨hx, hb, hml, hown, hts⟩ (c_Nd_followChain (l := l) (o := o) (D := D) (k := k) (ad_this := ad_this) hw) (cw_Nd_followChain hts kw3_75 ⟨Nat.le_of_ble_eq_true rfl, Nat.le_of_ble_eq_true rfl⟩) (va_recv hK hP (ci := 4) (q0 := 0) rfl rfl) (hP.sub [0, 1, 2, 3, 4, 5, 6, 7, 8, 9, 10] rfl) hK hJ hS (va_free hD hS hA [0, 1, 2, 3, 4, 5, 6, 7, 8, 9, 10] rfl) ((hD.sub [0, 1, 2, 3, 4, 5, 6, 7, 8, 9, 10] (by decide) rfl).weaken (fun _ _ _ _ => trivial)) rfl hl.1 (Nat.le_of_ble_eq_true rfl) d_Nd_add_88 ⟨Nat.le_of_ble_eq_true rfl, Nat.le_of_ble_eq_true rfl⟩) hP hD hS hA [0, 1, 2, 3, 4, 5, 6, 7, 8, 9, 10] [] rfl rfl (by decide) (by decide) (fun _ => rfl) (fun r2 u2 H locs hw hP hD hS => ?_) (fun _ _ _ _ h9 => h9.elim)
    have hP : va_P D vwCl (w_Nd k ad_this u2) H := hP.sub [0, 1, 2, 3, 4, 5, 6, 7, 8, 9, 10] rfl
    have hD : va_D A (w_Nd k ad_this u2) := hD.sub [0, 1, 2, 3, 4, 5, 6, 7, 8, 9, 10] (by decide) rfl
    refine va_iast hx hb hK hP hD hS 6 0 rfl rfl hw.1 d_Nd_add_91 (fun H locs hP hD hS => ?_)
    have hw := hw.2
    have hP : va_P D vwCl (w_Nd k ad_this (u2.1, u2.2.1, u2.2.2.1, u2.2.2.2.1, u2.2.2.2.2.1, (upd u2.2.2.2.2.2.1 (z_this.2.2.2.2.2.2.2.2.2.2.1).toNatClampNeg r2), u2.2.2.2.2.2.2.1, u2.2.2.2.2.2.2.2.1, u2.2.2.2.2.2.2.2.2.1, u2.2.2.2.2.2.2.2.2.2.1, u2.2.2.2.2.2.2.2.2.2.2.1, u2.2.2.2.2.2.2.2.2.2.2.2.1, u2.2.2.2.2.2.2.2.2.2.2.2.2.1, u2.2.2.2.2.2.2.2.2.2.2.2.2.2)) H := hP
    have hD : va_D A (w_Nd k ad_this (u2.1, u2.2.1, u2.2.2.1, u2.2.2.2.1, u2.2.2.2.2.1, (upd u2.2.2.2.2.2.1 (z_this.2.2.2.2.2.2.2.2.2.2.1).toNatClampNeg r2), u2.2.2.2.2.2.2.1, u2.2.2.2.2.2.2.2.1, u2.2.2.2.2.2.2.2.2.1, u2.2.2.2.2.2.2.2.2.2.1, u2.2.2.2.2.2.2.2.2.2.2.1, u2.2.2.2.2.2.2.2.2.2.2.2.1, u2.2.2.2.2.2.2.2.2.2.2.2.2.1, u2.2.2.2.2.2.2.2.2.2.2.2.2.2)) := hD
    refine lv_iload_n hx hb d_Nd_add_92 rfl (lv_at hl 2 rfl) ?_
    refine lv_bipush (v := (10 : Int32)) hx hb d_Nd_add_93 (by decide) ?_
    refine lv_icmp_lt (tgt := 114) hx hb d_Nd_add_95 (by decide) (fun hc => ?_) (fun hc => ?_)
    · have hw := hw.1 hc
      refine lv_aload_n hx hb d_Nd_add_114 rfl (lv_at hl 1 rfl) ?_
      refine lv_dup hx hb d_Nd_add_115 rfl ?_
      refine va_get (D := D) (ci := 4) (v := .int u2.2.2.2.2.2.2.2.2.2.2.1) (C := R_Nd) (T := F_Nd) (N := 14) hx hb hts in_Nd hown hK hP 0 rfl rfl 10 (by decide) (hts (.fieldLink R_Nd 48 R_Nd "count" "I") kw1_193) (fun _ h9 => h9) rfl d_Nd_add_116 ?_
      refine lv_iconst (v := (1 : Int32)) hx hb d_Nd_add_119 (by decide) ?_
      refine lv_iadd hx hb d_Nd_add_120 ?_
      refine va_put (D := D) (ci := 4) (v := .int (u2.2.2.2.2.2.2.2.2.2.2.1 + (1 : Int32))) (ty := .int) (C := R_Nd) (T := F_Nd) (N := 14) hx hb hts in_Nd t_Nd t_Nd_ok n_Nd hown hK hP hD hS 0 rfl rfl 10 (by decide) (hts (.fieldLink R_Nd 48 R_Nd "count" "I") kw1_193) (fun _ h9 => h9) rfl (by decide +kernel) rfl rfl (Nat.le_of_ble_eq_true rfl) d_Nd_add_121 (fun H locs hP hD hS => ?_)
      have hP : va_P D vwCl (w_Nd k ad_this (u2.1, u2.2.1, u2.2.2.1, u2.2.2.2.1, u2.2.2.2.2.1, (upd u2.2.2.2.2.2.1 (z_this.2.2.2.2.2.2.2.2.2.2.1).toNatClampNeg r2), u2.2.2.2.2.2.2.1, u2.2.2.2.2.2.2.2.1, u2.2.2.2.2.2.2.2.2.1, u2.2.2.2.2.2.2.2.2.2.1, (u2.2.2.2.2.2.2.2.2.2.2.1 + (1 : Int32)), u2.2.2.2.2.2.2.2.2.2.2.2.1, u2.2.2.2.2.2.2.2.2.2.2.2.2.1, u2.2.2.2.2.2.2.2.2.2.2.2.2.2)) H := hP
      have hD : va_D A (w_Nd k ad_this (u2.1, u2.2.1, u2.2.2.1, u2.2.2.2.1, u2.2.2.2.2.1, (upd u2.2.2.2.2.2.1 (z_this.2.2.2.2.2.2.2.2.2.2.1).toNatClampNeg r2), u2.2.2.2.2.2.2.1, u2.2.2.2.2.2.2.2.1, u2.2.2.2.2.2.2.2.2.1, u2.2.2.2.2.2.2.2.2.2.1, (u2.2.2.2.2.2.2.2.2.2.2.1 + (1 : Int32)), u2.2.2.2.2.2.2.2.2.2.2.2.1, u2.2.2.2.2.2.2.2.2.2.2.2.2.1, u2.2.2.2.2.2.2.2.2.2.2.2.2.2)) := hD
      refine lv_iload hx hb d_Nd_add_124 (lv_at hl 0 rfl) ?_
      exact xq_iret (r := z_this.2.2.2.2.2.2.2.2.2.2.1) (u := (u2.1, u2.2.1, u2.2.2.1, u2.2.2.2.1, u2.2.2.2.2.1, (upd u2.2.2.2.2.2.1 (z_this.2.2.2.2.2.2.2.2.2.2.1).toNatClampNeg r2), u2.2.2.2.2.2.2.1, u2.2.2.2.2.2.2.2.1, u2.2.2.2.2.2.2.2.2.1, u2.2.2.2.2.2.2.2.2.2.1, (u2.2.2.2.2.2.2.2.2.2.2.1 + (1 : Int32)), u2.2.2.2.2.2.2.2.2.2.2.2.1, u2.2.2.2.2.2.2.2.2.2.2.2.2.1, u2.2.2.2.2.2.2.2.2.2.2.2.2.2)) hx hb hr hlocks hAe hP hD hS rfl hw (Nat.le_of_ble_eq_true rfl) (Nat.le_of_ble_eq_true rfl) d_Nd_add_126
    · have hw := hw.2 hc
      refine lv_iload_n hx hb d_Nd_add_98 rfl (lv_at hl 2 rfl) ?_
      refine lv_bipush (v := (22 : Int32)) hx hb d_Nd_add_99 (by decide) ?_
      refine lv_icmp_gt (tgt := 114) hx hb d_Nd_add_101 (by decide) (fun hc => ?_) (fun hc => ?_)
      · have hw := hw.1 hc
        refine lv_aload_n hx hb d_Nd_add_114 rfl (lv_at hl 1 rfl) ?_
        refine lv_dup hx hb d_Nd_add_115 rfl ?_
        refine va_get (D := D) (ci := 4) (v := .int u2.2.2.2.2.2.2.2.2.2.2.1) (C := R_Nd) (T := F_Nd) (N := 14) hx hb hts in_Nd hown hK hP 0 rfl rfl 10 (by decide) (hts (.fieldLink R_Nd 48 R_Nd "count" "I") kw1_193) (fun _ h9 => h9) rfl d_Nd_add_116 ?_
        refine lv_iconst (v := (1 : Int32)) hx hb d_Nd_add_119 (by decide) ?_
        refine lv_iadd hx hb d_Nd_add_120 ?_
        refine va_put (D := D) (ci := 4) (v := .int (u2.2.2.2.2.2.2.2.2.2.2.1 + (1 : Int32))) (ty := .int) (C := R_Nd) (T := F_Nd) (N := 14) hx hb hts in_Nd t_Nd t_Nd_ok n_Nd hown hK hP hD hS 0 rfl rfl 10 (by decide) (hts (.fieldLink R_Nd 48 R_Nd "count" "I") kw1_193) (fun _ h9 => h9) rfl (by decide +kernel) rfl rfl (Nat.le_of_ble_eq_true rfl) d_Nd_add_121 (fun H locs hP hD hS => ?_)
        have hP : va_P D vwCl (w_Nd k ad_this (u2.1, u2.2.1, u2.2.2.1, u2.2.2.2.1, u2.2.2.2.2.1, (upd u2.2.2.2.2.2.1 (z_this.2.2.2.2.2.2.2.2.2.2.1).toNatClampNeg r2), u2.2.2.2.2.2.2.1, u2.2.2.2.2.2.2.2.1, u2.2.2.2.2.2.2.2.2.1, u2.2.2.2.2.2.2.2.2.2.1, (u2.2.2.2.2.2.2.2.2.2.2.1 + (1 : Int32)), u2.2.2.2.2.2.2.2.2.2.2.2.1, u2.2.2.2.2.2.2.2.2.2.2.2.2.1, u2.2.2.2.2.2.2.2.2.2.2.2.2.2)) H := hP
        have hD : va_D A (w_Nd k ad_this (u2.1, u2.2.1, u2.2.2.1, u2.2.2.2.1, u2.2.2.2.2.1, (upd u2.2.2.2.2.2.1 (z_this.2.2.2.2.2.2.2.2.2.2.1).toNatClampNeg r2), u2.2.2.2.2.2.2.1, u2.2.2.2.2.2.2.2.1, u2.2.2.2.2.2.2.2.2.1, u2.2.2.2.2.2.2.2.2.2.1, (u2.2.2.2.2.2.2.2.2.2.2.1 + (1 : Int32)), u2.2.2.2.2.2.2.2.2.2.2.2.1, u2.2.2.2.2.2.2.2.2.2.2.2.2.1, u2.2.2.2.2.2.2.2.2.2.2.2.2.2)) := hD
        refine lv_iload hx hb d_Nd_add_124 (lv_at hl 0 rfl) ?_
        exact xq_iret (r := z_this.2.2.2.2.2.2.2.2.2.2.1) (u := (u2.1, u2.2.1, u2.2.2.1, u2.2.2.2.1, u2.2.2.2.2.1, (upd u2.2.2.2.2.2.1 (z_this.2.2.2.2.2.2.2.2.2.2.1).toNatClampNeg r2), u2.2.2.2.2.2.2.1, u2.2.2.2.2.2.2.2.1, u2.2.2.2.2.2.2.2.2.1, u2.2.2.2.2.2.2.2.2.2.1, (u2.2.2.2.2.2.2.2.2.2.2.1 + (1 : Int32)), u2.2.2.2.2.2.2.2.2.2.2.2.1, u2.2.2.2.2.2.2.2.2.2.2.2.2.1, u2.2.2.2.2.2.2.2.2.2.2.2.2.2)) hx hb hr hlocks hAe hP hD hS rfl hw (Nat.le_of_ble_eq_true rfl) (Nat.le_of_ble_eq_true rfl) d_Nd_add_126
      · have hw := hw.2 hc
        refine lv_aload_n hx hb d_Nd_add_104 rfl (lv_at hl 1 rfl) ?_
        refine lv_dup hx hb d_Nd_add_105 rfl ?_
        refine va_get (D := D) (ci := 4) (v := .int u2.2.2.2.2.2.2.2.2.2.2.2.2.2) (C := R_Nd) (T := F_Nd) (N := 14) hx hb hts in_Nd hown hK hP 0 rfl rfl 13 (by decide) (hts (.fieldLink R_Nd 54 R_Nd "statements" "I") kw1_196) (fun _ h9 => h9) rfl d_Nd_add_106 ?_
        refine lv_iconst (v := (1 : Int32)) hx hb d_Nd_add_109 (by decide) ?_
        refine lv_iadd hx hb d_Nd_add_110 ?_
        refine va_put (D := D) (ci := 4) (v := .int (u2.2.2.2.2.2.2.2.2.2.2.2.2.2 + (1 : Int32))) (ty := .int) (C := R_Nd) (T := F_Nd) (N := 14) hx hb hts in_Nd t_Nd t_Nd_ok n_Nd hown hK hP hD hS 0 rfl rfl 13 (by decide) (hts (.fieldLink R_Nd 54 R_Nd "statements" "I") kw1_196) (fun _ h9 => h9) rfl (by decide +kernel) rfl rfl (Nat.le_of_ble_eq_true rfl) d_Nd_add_111 (fun H locs hP hD hS => ?_)
        have hP : va_P D vwCl (w_Nd k ad_this (u2.1, u2.2.1, u2.2.2.1, u2.2.2.2.1, u2.2.2.2.2.1, (upd u2.2.2.2.2.2.1 (z_this.2.2.2.2.2.2.2.2.2.2.1).toNatClampNeg r2), u2.2.2.2.2.2.2.1, u2.2.2.2.2.2.2.2.1, u2.2.2.2.2.2.2.2.2.1, u2.2.2.2.2.2.2.2.2.2.1, u2.2.2.2.2.2.2.2.2.2.2.1, u2.2.2.2.2.2.2.2.2.2.2.2.1, u2.2.2.2.2.2.2.2.2.2.2.2.2.1, (u2.2.2.2.2.2.2.2.2.2.2.2.2.2 + (1 : Int32)))) H := hP
        have hD : va_D A (w_Nd k ad_this (u2.1, u2.2.1, u2.2.2.1, u2.2.2.2.1, u2.2.2.2.2.1, (upd u2.2.2.2.2.2.1 (z_this.2.2.2.2.2.2.2.2.2.2.1).toNatClampNeg r2), u2.2.2.2.2.2.2.1, u2.2.2.2.2.2.2.2.1, u2.2.2.2.2.2.2.2.2.1, u2.2.2.2.2.2.2.2.2.2.1, u2.2.2.2.2.2.2.2.2.2.2.1, u2.2.2.2.2.2.2.2.2.2.2.2.1, u2.2.2.2.2.2.2.2.2.2.2.2.2.1, (u2.2.2.2.2.2.2.2.2.2.2.2.2.2 + (1 : Int32)))) := hD
        refine lv_aload_n hx hb d_Nd_add_114 rfl (lv_at hl 1 rfl) ?_
        refine lv_dup hx hb d_Nd_add_115 rfl ?_
        refine va_get (D := D) (ci := 4) (v := .int u2.2.2.2.2.2.2.2.2.2.2.1) (C := R_Nd) (T := F_Nd) (N := 14) hx hb hts in_Nd hown hK hP 0 rfl rfl 10 (by decide) (hts (.fieldLink R_Nd 48 R_Nd "count" "I") kw1_193) (fun _ h9 => h9) rfl d_Nd_add_116 ?_
        refine lv_iconst (v := (1 : Int32)) hx hb d_Nd_add_119 (by decide) ?_
        refine lv_iadd hx hb d_Nd_add_120 ?_
        refine va_put (D := D) (ci := 4) (v := .int (u2.2.2.2.2.2.2.2.2.2.2.1 + (1 : Int32))) (ty := .int) (C := R_Nd) (T := F_Nd) (N := 14) hx hb hts in_Nd t_Nd t_Nd_ok n_Nd hown hK hP hD hS 0 rfl rfl 10 (by decide) (hts (.fieldLink R_Nd 48 R_Nd "count" "I") kw1_193) (fun _ h9 => h9) rfl (by decide +kernel) rfl rfl (Nat.le_of_ble_eq_true rfl) d_Nd_add_121 (fun H locs hP hD hS => ?_)
        have hP : va_P D vwCl (w_Nd k ad_this (u2.1, u2.2.1, u2.2.2.1, u2.2.2.2.1, u2.2.2.2.2.1, (upd u2.2.2.2.2.2.1 (z_this.2.2.2.2.2.2.2.2.2.2.1).toNatClampNeg r2), u2.2.2.2.2.2.2.1, u2.2.2.2.2.2.2.2.1, u2.2.2.2.2.2.2.2.2.1, u2.2.2.2.2.2.2.2.2.2.1, (u2.2.2.2.2.2.2.2.2.2.2.1 + (1 : Int32)), u2.2.2.2.2.2.2.2.2.2.2.2.1, u2.2.2.2.2.2.2.2.2.2.2.2.2.1, (u2.2.2.2.2.2.2.2.2.2.2.2.2.2 + (1 : Int32)))) H := hP
        have hD : va_D A (w_Nd k ad_this (u2.1, u2.2.1, u2.2.2.1, u2.2.2.2.1, u2.2.2.2.2.1, (upd u2.2.2.2.2.2.1 (z_this.2.2.2.2.2.2.2.2.2.2.1).toNatClampNeg r2), u2.2.2.2.2.2.2.1, u2.2.2.2.2.2.2.2.1, u2.2.2.2.2.2.2.2.2.1, u2.2.2.2.2.2.2.2.2.2.1, (u2.2.2.2.2.2.2.2.2.2.2.1 + (1 : Int32)), u2.2.2.2.2.2.2.2.2.2.2.2.1, u2.2.2.2.2.2.2.2.2.2.2.2.2.1, (u2.2.2.2.2.2.2.2.2.2.2.2.2.2 + (1 : Int32)))) := hD
        refine lv_iload hx hb d_Nd_add_124 (lv_at hl 0 rfl) ?_
        exact xq_iret (r := z_this.2.2.2.2.2.2.2.2.2.2.1) (u := (u2.1, u2.2.1, u2.2.2.1, u2.2.2.2.1, u2.2.2.2.2.1, (upd u2.2.2.2.2.2.1 (z_this.2.2.2.2.2.2.2.2.2.2.1).toNatClampNeg r2), u2.2.2.2.2.2.2.1, u2.2.2.2.2.2.2.2.1, u2.2.2.2.2.2.2.2.2.1, u2.2.2.2.2.2.2.2.2.2.1, (u2.2.2.2.2.2.2.2.2.2.2.1 + (1 : Int32)), u2.2.2.2.2.2.2.2.2.2.2.2.1, u2.2.2.2.2.2.2.2.2.2.2.2.2.1, (u2.2.2.2.2.2.2.2.2.2.2.2.2.2 + (1 : Int32)))) hx hb hr hlocks hAe hP hD hS rfl hw (Nat.le_of_ble_eq_true rfl) (Nat.le_of_ble_eq_true rfl) d_Nd_add_126
  · have hw := hw.2 hc
    refine lv_iconst (v := (-1 : Int32)) hx hb d_Nd_add_10 (by decide) ?_
    exact xq_iret (r := (-1 : Int32)) (u := z_this) hx hb hr hlocks hAe hP hD hS rfl hw (Nat.le_of_ble_eq_true rfl) (Nat.le_of_ble_eq_true rfl) d_Nd_add_11
theorem cw_Nd_add {R : Room} {s : State} {args : Array Value} {own : String} {index : Nat} (hts : ∀ w ∈ xq_W, w.before args s = true) (hl : .methodLink own index y_Nd_add ∈ xq_W) {rm : Room} (hR : rm.frames + 1 ≤ R.frames ∧ 8 + (8 + 11) + rm.locals ≤ R.locals) : CallW R s args own "StepText$Nodes" index y_Nd_add prog_5_method_7_code 8 (some (.int)) (.code y_Nd_add prog_5_method_7_code 8 (some (.int)) :: xq_W) rm rm.cells rm.slots 5 := ⟨xq_cb 5 hts kw3_70 kw1_10 hl ⟨by decide, by decide, by decide +kernel⟩ hR, hts _ kw3_68, hts _ kw3_69⟩
def y_Nd_finish : MethodName := ⟨"StepText$Nodes", "finish", "()V"⟩
theorem d_Nd_finish_0 : decode prog_5_method_8_code 0 = .ok (.aload_n 0, 1) := by decide +kernel
theorem d_Nd_finish_1 : decode prog_5_method_8_code 1 = .ok (.aload_n 0, 1) := by decide +kernel
theorem d_Nd_finish_2 : decode prog_5_method_8_code 2 = .ok (.iconst 0, 1) := by decide +kernel
theorem d_Nd_finish_3 : decode prog_5_method_8_code 3 = .ok (.iconst (-1), 1) := by decide +kernel
theorem d_Nd_finish_4 : decode prog_5_method_8_code 4 = .ok (.invokevirtual 57, 3) := by decide +kernel
theorem d_Nd_finish_7 : decode prog_5_method_8_code 7 = .ok (.putfield 44, 3) := by decide +kernel
theorem d_Nd_finish_10 : decode prog_5_method_8_code 10 = .ok (.aload_n 0, 1) := by decide +kernel
theorem d_Nd_finish_11 : decode prog_5_method_8_code 11 = .ok (.aload_n 0, 1) := by decide +kernel
theorem d_Nd_finish_12 : decode prog_5_method_8_code 12 = .ok (.aload_n 0, 1) := by decide +kernel
theorem d_Nd_finish_13 : decode prog_5_method_8_code 13 = .ok (.getfield 44, 3) := by decide +kernel
theorem d_Nd_finish_16 : decode prog_5_method_8_code 16 = .ok (.invokevirtual 61, 3) := by decide +kernel
theorem d_Nd_finish_19 : decode prog_5_method_8_code 19 = .ok (.putfield 51, 3) := by decide +kernel
theorem d_Nd_finish_22 : decode prog_5_method_8_code 22 = .ok (.return_, 1) := by decide +kernel
def wp_Nd_finish (z_this : T_Nd) (post : Unit → T_Nd → Prop) : Prop := wp_Nd_chainFrom z_this (0 : Int32) (-1 : Int32) (fun (r1 : Int32) (u1 : T_Nd) => wp_Nd_followChain (u1.1, u1.2.1, u1.2.2.1, u1.2.2.2.1, u1.2.2.2.2.1, u1.2.2.2.2.2.1, u1.2.2.2.2.2.2.1, u1.2.2.2.2.2.2.2.1, u1.2.2.2.2.2.2.2.2.1, u1.2.2.2.2.2.2.2.2.2.1, u1.2.2.2.2.2.2.2.2.2.2.1, r1, u1.2.2.2.2.2.2.2.2.2.2.2.2.1, u1.2.2.2.2.2.2.2.2.2.2.2.2.2) r1 (fun (r2 : Int32) (u2 : T_Nd) => post () (u2.1, u2.2.1, u2.2.2.1, u2.2.2.2.1, u2.2.2.2.2.1, u2.2.2.2.2.2.1, u2.2.2.2.2.2.2.1, u2.2.2.2.2.2.2.2.1, u2.2.2.2.2.2.2.2.2.1, u2.2.2.2.2.2.2.2.2.2.1, u2.2.2.2.2.2.2.2.2.2.2.1, u2.2.2.2.2.2.2.2.2.2.2.2.1, r2, u2.2.2.2.2.2.2.2.2.2.2.2.2.2)))
def rm_Nd_finish : Room := { frames := 1, cells := 0, slots := 0, locals := 25 }
set_option maxHeartbeats 4000000 in
set_option maxRecDepth 100000 in
theorem c_Nd_finish {l : Launch} {o : State × Array Value} {D : va_G} {k : Nat → ClassId} {ad_this : Nat → Nat} {z_this : T_Nd} {post : Unit → T_Nd → Prop} (hw : wp_Nd_finish z_this post) : xq_C l o y_Nd_finish (.code y_Nd_finish prog_5_method_8_code 1 none :: xq_W) rm_Nd_finish D vwCl (xt k) [.ref (ad_this 0)] (w_Nd k ad_this z_this) (fun _ : Unit => none) post (fun _ : T_Nd => False) (fun u : T_Nd => w_Nd k ad_this u) 0 0 0 0 := by
  refine xq_ofW (cc := prog_5_method_8_code) (maxL := 1) (ret := none) (by decide) rfl (Nat.le_of_ble_eq_true rfl) ?_
  intro p e s m below meth c ls H locs A hAt hAe hA hl hK hJ hP0 hP hD hS
  obtain ⟨hx, hb, hml, hr, hlocks, hown, hts, hex, hnm⟩ := id hAt
  have hl : lv_has ls 1 [(0, .ref (ad_this 0))] := hl
  unfold wp_Nd_finish at hw
  refine lv_aload_n hx hb d_Nd_finish_0 rfl (lv_at hl 0 rfl) ?_
  refine lv_aload_n hx hb d_Nd_finish_1 rfl (lv_at hl 0 rfl) ?_
  refine lv_iconst (v := (0 : Int32)) hx hb d_Nd_finish_2 (by decide) ?_
  refine lv_iconst (v := (-1 : Int32)) hx hb d_Nd_finish_3 (by decide) ?_
  refine xq_go (wr := ([] : va_W)) (stk := fun r => .int r :: [.ref (ad_this 0)]) (xq_runV (As := [.int (0 : Int32), .int (-1 : Int32)]) (rest := [.ref (ad_this 0)]) ⟨hx, hb, hml, hown, hts⟩ (c_Nd_chainFrom (l := l) (o := o) (D := D) (k := k) (ad_this := ad_this) hw) (cw_Nd_chainFrom hts kw3_71 ⟨Nat.le_of_ble_eq_true rfl, Nat.le_of_ble_eq_true rfl⟩) (va_recv hK hP (ci := 4) (q0 := 0) rfl rfl) (hP.sub [0, 1, 2, 3, 4, 5, 6, 7, 8, 9, 10] rfl) hK hJ hS (va_free hD hS hA [0, 1, 2, 3, 4, 5, 6, 7, 8, 9, 10] rfl) ((hD.sub [0, 1, 2, 3, 4, 5, 6, 7, 8, 9, 10] (by decide) rfl).weaken (fun _ _ _ _ => trivial)) rfl hl.1 (Nat.le_of_ble_eq_true rfl) d_Nd_finish_4 ⟨Nat.le_of_ble_eq_true rfl, Nat.le_of_ble_eq_true rfl⟩) hP hD hS hA [0, 1, 2, 3, 4, 5, 6, 7, 8, 9, 10] [] rfl rfl (by decide) (by decide) (fun _ => rfl) (fun r1 u1 H locs hw hP hD hS => ?_) (fun _ _ _ _ h9 => h9.elim)
  have hP : va_P D vwCl (w_Nd k ad_this u1) H := hP.sub [0, 1, 2, 3, 4, 5, 6, 7, 8, 9, 10] rfl
  have hD : va_D A (w_Nd k ad_this u1) := hD.sub [0, 1, 2, 3, 4, 5, 6, 7, 8, 9, 10] (by decide) rfl
  refine va_put (D := D) (ci := 4) (v := .int r1) (ty := .int) (C := R_Nd) (T := F_Nd) (N := 14) hx hb hts in_Nd t_Nd t_Nd_ok n_Nd hown hK hP hD hS 0 rfl rfl 11 (by decide) (hts (.fieldLink R_Nd 44 R_Nd "outerFirst" "I") kw1_194) (fun _ h9 => h9) rfl (by decide +kernel) rfl rfl (Nat.le_of_ble_eq_true rfl) d_Nd_finish_7 (fun H locs hP hD hS => ?_)
  have hP : va_P D vwCl (w_Nd k ad_this (u1.1, u1.2.1, u1.2.2.1, u1.2.2.2.1, u1.2.2.2.2.1, u1.2.2.2.2.2.1, u1.2.2.2.2.2.2.1, u1.2.2.2.2.2.2.2.1, u1.2.2.2.2.2.2.2.2.1, u1.2.2.2.2.2.2.2.2.2.1, u1.2.2.2.2.2.2.2.2.2.2.1, r1, u1.2.2.2.2.2.2.2.2.2.2.2.2.1, u1.2.2.2.2.2.2.2.2.2.2.2.2.2)) H := hP
  have hD : va_D A (w_Nd k ad_this (u1.1, u1.2.1, u1.2.2.1, u1.2.2.2.1, u1.2.2.2.2.1, u1.2.2.2.2.2.1, u1.2.2.2.2.2.2.1, u1.2.2.2.2.2.2.2.1, u1.2.2.2.2.2.2.2.2.1, u1.2.2.2.2.2.2.2.2.2.1, u1.2.2.2.2.2.2.2.2.2.2.1, r1, u1.2.2.2.2.2.2.2.2.2.2.2.2.1, u1.2.2.2.2.2.2.2.2.2.2.2.2.2)) := hD
  refine lv_aload_n hx hb d_Nd_finish_10 rfl (lv_at hl 0 rfl) ?_
  refine lv_aload_n hx hb d_Nd_finish_11 rfl (lv_at hl 0 rfl) ?_
  refine lv_aload_n hx hb d_Nd_finish_12 rfl (lv_at hl 0 rfl) ?_
  refine va_get (D := D) (ci := 4) (v := .int r1) (C := R_Nd) (T := F_Nd) (N := 14) hx hb hts in_Nd hown hK hP 0 rfl rfl 11 (by decide) (hts (.fieldLink R_Nd 44 R_Nd "outerFirst" "I") kw1_194) (fun _ h9 => h9) rfl d_Nd_finish_13 ?_
  refine xq_go (wr := ([] : va_W)) (stk := fun r => .int r :: [.ref (ad_this 0)]) (xq_runV (As := [.int r1]) (rest := [.ref (ad_this 0)]) ⟨hx, hb, hml, hown, hts⟩ (c_Nd_followChain (l := l) (o := o) (D := D) (k := k) (ad_this := ad_this) hw) (cw_Nd_followChain hts kw3_75 ⟨Nat.le_of_ble_eq_true rfl, Nat.le_of_ble_eq_true rfl⟩) (va_recv hK hP (ci := 4) (q0 := 0) rfl rfl) (hP.sub [0, 1, 2, 3, 4, 5, 6, 7, 8, 9, 10] rfl) hK hJ hS (va_free hD hS hA [0, 1, 2, 3, 4, 5, 6, 7, 8, 9, 10] rfl) ((hD.sub [0, 1, 2, 3, 4, 5, 6, 7, 8, 9, 10] (by decide) rfl).weaken (fun _ _ _ _ => trivial)) rfl hl.1 (Nat.le_of_ble_eq_true rfl) d_Nd_finish_16 ⟨Nat.le_of_ble_eq_true rfl, Nat.le_of_ble_eq_true rfl⟩) hP hD hS hA [0, 1, 2, 3, 4, 5, 6, 7, 8, 9, 10] [] rfl rfl (by decide) (by decide) (fun _ => rfl) (fun r2 u2 H locs hw hP hD hS => ?_) (fun _ _ _ _ h9 => h9.elim)
  have hP : va_P D vwCl (w_Nd k ad_this u2) H := hP.sub [0, 1, 2, 3, 4, 5, 6, 7, 8, 9, 10] rfl
  have hD : va_D A (w_Nd k ad_this u2) := hD.sub [0, 1, 2, 3, 4, 5, 6, 7, 8, 9, 10] (by decide) rfl
  refine va_put (D := D) (ci := 4) (v := .int r2) (ty := .int) (C := R_Nd) (T := F_Nd) (N := 14) hx hb hts in_Nd t_Nd t_Nd_ok n_Nd hown hK hP hD hS 0 rfl rfl 12 (by decide) (hts (.fieldLink R_Nd 51 R_Nd "outerSize" "I") kw1_195) (fun _ h9 => h9) rfl (by decide +kernel) rfl rfl (Nat.le_of_ble_eq_true rfl) d_Nd_finish_19 (fun H locs hP hD hS => ?_)
  have hP : va_P D vwCl (w_Nd k ad_this (u2.1, u2.2.1, u2.2.2.1, u2.2.2.2.1, u2.2.2.2.2.1, u2.2.2.2.2.2.1, u2.2.2.2.2.2.2.1, u2.2.2.2.2.2.2.2.1, u2.2.2.2.2.2.2.2.2.1, u2.2.2.2.2.2.2.2.2.2.1, u2.2.2.2.2.2.2.2.2.2.2.1, u2.2.2.2.2.2.2.2.2.2.2.2.1, r2, u2.2.2.2.2.2.2.2.2.2.2.2.2.2)) H := hP
  have hD : va_D A (w_Nd k ad_this (u2.1, u2.2.1, u2.2.2.1, u2.2.2.2.1, u2.2.2.2.2.1, u2.2.2.2.2.2.1, u2.2.2.2.2.2.2.1, u2.2.2.2.2.2.2.2.1, u2.2.2.2.2.2.2.2.2.1, u2.2.2.2.2.2.2.2.2.2.1, u2.2.2.2.2.2.2.2.2.2.2.1, u2.2.2.2.2.2.2.2.2.2.2.2.1, r2, u2.2.2.2.2.2.2.2.2.2.2.2.2.2)) := hD
  exact xq_vret (r := ()) (u := (u2.1, u2.2.1, u2.2.2.1, u2.2.2.2.1, u2.2.2.2.2.1, u2.2.2.2.2.2.1, u2.2.2.2.2.2.2.1, u2.2.2.2.2.2.2.2.1, u2.2.2.2.2.2.2.2.2.1, u2.2.2.2.2.2.2.2.2.2.1, u2.2.2.2.2.2.2.2.2.2.2.1, u2.2.2.2.2.2.2.2.2.2.2.2.1, r2, u2.2.2.2.2.2.2.2.2.2.2.2.2.2)) hx hb hr hlocks hAe hP hD hS rfl hw (Nat.le_of_ble_eq_true rfl) (Nat.le_of_ble_eq_true rfl) d_Nd_finish_22
theorem cw_Nd_finish {R : Room} {s : State} {args : Array Value} {own : String} {index : Nat} (hts : ∀ w ∈ xq_W, w.before args s = true) (hl : .methodLink own index y_Nd_finish ∈ xq_W) {rm : Room} (hR : rm.frames + 1 ≤ R.frames ∧ 8 + (1 + 11) + rm.locals ≤ R.locals) : CallW R s args own "StepText$Nodes" index y_Nd_finish prog_5_method_8_code 1 none (.code y_Nd_finish prog_5_method_8_code 1 none :: xq_W) rm rm.cells rm.slots 0 := ⟨xq_cb 0 hts kw3_149 kw1_10 hl ⟨by decide, by decide, by decide +kernel⟩ hR, hts _ kw3_147, hts _ kw3_148⟩
def y_Nd_endsWithSemicolon : MethodName := ⟨"StepText$Nodes", "endsWithSemicolon", "(I)Z"⟩
theorem d_Nd_endsWithSemicolon_0 : decode prog_5_method_11_code 0 = .ok (.iload_n 0, 1) := by decide +kernel
theorem d_Nd_endsWithSemicolon_1 : decode prog_5_method_11_code 1 = .ok (.bipush 10, 2) := by decide +kernel
theorem d_Nd_endsWithSemicolon_3 : decode prog_5_method_11_code 3 = .ok (.if_icmp .lt 9, 3) := by decide +kernel
theorem d_Nd_endsWithSemicolon_6 : decode prog_5_method_11_code 6 = .ok (.iload_n 0, 1) := by decide +kernel
theorem d_Nd_endsWithSemicolon_7 : decode prog_5_method_11_code 7 = .ok (.bipush 14, 2) := by decide +kernel
theorem d_Nd_endsWithSemicolon_9 : decode prog_5_method_11_code 9 = .ok (.if_icmp .lt 15, 3) := by decide +kernel
theorem d_Nd_endsWithSemicolon_12 : decode prog_5_method_11_code 12 = .ok (.iload_n 0, 1) := by decide +kernel
theorem d_Nd_endsWithSemicolon_13 : decode prog_5_method_11_code 13 = .ok (.bipush 17, 2) := by decide +kernel
theorem d_Nd_endsWithSemicolon_15 : decode prog_5_method_11_code 15 = .ok (.if_icmp .le 13, 3) := by decide +kernel
theorem d_Nd_endsWithSemicolon_18 : decode prog_5_method_11_code 18 = .ok (.iload_n 0, 1) := by decide +kernel
theorem d_Nd_endsWithSemicolon_19 : decode prog_5_method_11_code 19 = .ok (.bipush 22, 2) := by decide +kernel
theorem d_Nd_endsWithSemicolon_21 : decode prog_5_method_11_code 21 = .ok (.if_icmp .gt 7, 3) := by decide +kernel
theorem d_Nd_endsWithSemicolon_24 : decode prog_5_method_11_code 24 = .ok (.iconst 1, 1) := by decide +kernel
theorem d_Nd_endsWithSemicolon_25 : decode prog_5_method_11_code 25 = .ok (.goto 4, 3) := by decide +kernel
theorem d_Nd_endsWithSemicolon_28 : decode prog_5_method_11_code 28 = .ok (.iconst 0, 1) := by decide +kernel
theorem d_Nd_endsWithSemicolon_29 : decode prog_5_method_11_code 29 = .ok (.ireturn, 1) := by decide +kernel
def wp_Nd_endsWithSemicolon (a0 : Int32) (post : Int32 → Unit → Prop) : Prop := (a0 < (10 : Int32) → ((a0 ≤ (17 : Int32) → (post (0 : Int32) ())) ∧ (¬ a0 ≤ (17 : Int32) → (((22 : Int32) < a0 → (post (0 : Int32) ())) ∧ (¬ (22 : Int32) < a0 → (post (1 : Int32) ())))))) ∧ (¬ a0 < (10 : Int32) → ((a0 < (14 : Int32) → (post (1 : Int32) ())) ∧ (¬ a0 < (14 : Int32) → ((a0 ≤ (17 : Int32) → (post (0 : Int32) ())) ∧ (¬ a0 ≤ (17 : Int32) → (((22 : Int32) < a0 → (post (0 : Int32) ())) ∧ (¬ (22 : Int32) < a0 → (post (1 : Int32) ()))))))))
def rm_Nd_endsWithSemicolon : Room := { frames := 0, cells := 0, slots := 0, locals := 0 }
set_option maxHeartbeats 4000000 in
set_option maxRecDepth 100000 in
theorem c_Nd_endsWithSemicolon {l : Launch} {o : State × Array Value} {D : va_G} {k : Nat → ClassId} {a0 : Int32} {post : Int32 → Unit → Prop} (hw : wp_Nd_endsWithSemicolon a0 post) : xq_C l o y_Nd_endsWithSemicolon (.code y_Nd_endsWithSemicolon prog_5_method_11_code 1 (some (.boolean)) :: xq_W) rm_Nd_endsWithSemicolon D vwCl (xt k) [.int a0] (([] : va_W)) (fun r : Int32 => some (.int r)) post (fun _ : Unit => False) (fun u : Unit => ([] : va_W)) 0 0 0 0 := by
  refine xq_ofW (cc := prog_5_method_11_code) (maxL := 1) (ret := (some (.boolean))) (by decide) rfl (Nat.le_of_ble_eq_true rfl) ?_
  intro p e s m below meth c ls H locs A hAt hAe hA hl hK hJ hP0 hP hD hS
  obtain ⟨hx, hb, hml, hr, hlocks, hown, hts, hex, hnm⟩ := id hAt
  have hl : lv_has ls 1 [(0, .int a0)] := hl
  unfold wp_Nd_endsWithSemicolon at hw
  refine lv_iload_n hx hb d_Nd_endsWithSemicolon_0 rfl (lv_at hl 0 rfl) ?_
  refine lv_bipush (v := (10 : Int32)) hx hb d_Nd_endsWithSemicolon_1 (by decide) ?_
  refine lv_icmp_lt (tgt := 12) hx hb d_Nd_endsWithSemicolon_3 (by decide) (fun hc => ?_) (fun hc => ?_)
  · have hw := hw.1 hc
    refine lv_iload_n hx hb d_Nd_endsWithSemicolon_12 rfl (lv_at hl 0 rfl) ?_
    refine lv_bipush (v := (17 : Int32)) hx hb d_Nd_endsWithSemicolon_13 (by decide) ?_
    refine lv_icmp_le (tgt := 28) hx hb d_Nd_endsWithSemicolon_15 (by decide) (fun hc => ?_) (fun hc => ?_)
    · have hw := hw.1 hc
      refine lv_iconst (v := (0 : Int32)) hx hb d_Nd_endsWithSemicolon_28 (by decide) ?_
      exact xq_zret (r := (0 : Int32)) (u := ()) hx hb hr hlocks hAe hP hD hS rfl rfl hw (Nat.le_of_ble_eq_true rfl) (Nat.le_of_ble_eq_true rfl) d_Nd_endsWithSemicolon_29
    · have hw := hw.2 hc
      refine lv_iload_n hx hb d_Nd_endsWithSemicolon_18 rfl (lv_at hl 0 rfl) ?_
      refine lv_bipush (v := (22 : Int32)) hx hb d_Nd_endsWithSemicolon_19 (by decide) ?_
      refine lv_icmp_gt (tgt := 28) hx hb d_Nd_endsWithSemicolon_21 (by decide) (fun hc => ?_) (fun hc => ?_)
      · have hw := hw.1 hc
        refine lv_iconst (v := (0 : Int32)) hx hb d_Nd_endsWithSemicolon_28 (by decide) ?_
        exact xq_zret (r := (0 : Int32)) (u := ()) hx hb hr hlocks hAe hP hD hS rfl rfl hw (Nat.le_of_ble_eq_true rfl) (Nat.le_of_ble_eq_true rfl) d_Nd_endsWithSemicolon_29
      · have hw := hw.2 hc
        refine lv_iconst (v := (1 : Int32)) hx hb d_Nd_endsWithSemicolon_24 (by decide) ?_
        refine lv_goto (tgt := 29) hx hb d_Nd_endsWithSemicolon_25 (by decide) ?_
        exact xq_zret (r := (1 : Int32)) (u := ()) hx hb hr hlocks hAe hP hD hS rfl rfl hw (Nat.le_of_ble_eq_true rfl) (Nat.le_of_ble_eq_true rfl) d_Nd_endsWithSemicolon_29
  · have hw := hw.2 hc
    refine lv_iload_n hx hb d_Nd_endsWithSemicolon_6 rfl (lv_at hl 0 rfl) ?_
    refine lv_bipush (v := (14 : Int32)) hx hb d_Nd_endsWithSemicolon_7 (by decide) ?_
    refine lv_icmp_lt (tgt := 24) hx hb d_Nd_endsWithSemicolon_9 (by decide) (fun hc => ?_) (fun hc => ?_)
    · have hw := hw.1 hc
      refine lv_iconst (v := (1 : Int32)) hx hb d_Nd_endsWithSemicolon_24 (by decide) ?_
      refine lv_goto (tgt := 29) hx hb d_Nd_endsWithSemicolon_25 (by decide) ?_
      exact xq_zret (r := (1 : Int32)) (u := ()) hx hb hr hlocks hAe hP hD hS rfl rfl hw (Nat.le_of_ble_eq_true rfl) (Nat.le_of_ble_eq_true rfl) d_Nd_endsWithSemicolon_29
    · have hw := hw.2 hc
      refine lv_iload_n hx hb d_Nd_endsWithSemicolon_12 rfl (lv_at hl 0 rfl) ?_
      refine lv_bipush (v := (17 : Int32)) hx hb d_Nd_endsWithSemicolon_13 (by decide) ?_
      refine lv_icmp_le (tgt := 28) hx hb d_Nd_endsWithSemicolon_15 (by decide) (fun hc => ?_) (fun hc => ?_)
      · have hw := hw.1 hc
        refine lv_iconst (v := (0 : Int32)) hx hb d_Nd_endsWithSemicolon_28 (by decide) ?_
        exact xq_zret (r := (0 : Int32)) (u := ()) hx hb hr hlocks hAe hP hD hS rfl rfl hw (Nat.le_of_ble_eq_true rfl) (Nat.le_of_ble_eq_true rfl) d_Nd_endsWithSemicolon_29
      · have hw := hw.2 hc
        refine lv_iload_n hx hb d_Nd_endsWithSemicolon_18 rfl (lv_at hl 0 rfl) ?_
        refine lv_bipush (v := (22 : Int32)) hx hb d_Nd_endsWithSemicolon_19 (by decide) ?_
        refine lv_icmp_gt (tgt := 28) hx hb d_Nd_endsWithSemicolon_21 (by decide) (fun hc => ?_) (fun hc => ?_)
        · have hw := hw.1 hc
          refine lv_iconst (v := (0 : Int32)) hx hb d_Nd_endsWithSemicolon_28 (by decide) ?_
          exact xq_zret (r := (0 : Int32)) (u := ()) hx hb hr hlocks hAe hP hD hS rfl rfl hw (Nat.le_of_ble_eq_true rfl) (Nat.le_of_ble_eq_true rfl) d_Nd_endsWithSemicolon_29
        · have hw := hw.2 hc
          refine lv_iconst (v := (1 : Int32)) hx hb d_Nd_endsWithSemicolon_24 (by decide) ?_
          refine lv_goto (tgt := 29) hx hb d_Nd_endsWithSemicolon_25 (by decide) ?_
          exact xq_zret (r := (1 : Int32)) (u := ()) hx hb hr hlocks hAe hP hD hS rfl rfl hw (Nat.le_of_ble_eq_true rfl) (Nat.le_of_ble_eq_true rfl) d_Nd_endsWithSemicolon_29
theorem cs_Nd_endsWithSemicolon {R : Room} {s : State} {args : Array Value} {own : String} {index : Nat} (hts : ∀ w ∈ xq_W, w.before args s = true) (hl : .methodLink own index y_Nd_endsWithSemicolon ∈ xq_W) {rm : Room} (hR : rm.frames + 1 ≤ R.frames ∧ 8 + (1 + 11) + rm.locals ≤ R.locals) : CallB R s args own index y_Nd_endsWithSemicolon prog_5_method_11_code 1 (some (.boolean)) (.code y_Nd_endsWithSemicolon prog_5_method_11_code 1 (some (.boolean)) :: xq_W) rm rm.cells rm.slots 1 ∧ (Cond.static y_Nd_endsWithSemicolon).before args s = true := ⟨xq_cb 1 hts kw3_129 kw1_10 hl ⟨by decide, by decide, by decide +kernel⟩ hR, hts _ kw3_128⟩
def y_Nd_kindOf : MethodName := ⟨"StepText$Nodes", "kindOf", "(I)I"⟩
theorem d_Nd_kindOf_0 : decode prog_5_method_12_code 0 = .ok (.aload_n 0, 1) := by decide +kernel
theorem d_Nd_kindOf_1 : decode prog_5_method_12_code 1 = .ok (.iload_n 1, 1) := by decide +kernel
theorem d_Nd_kindOf_2 : decode prog_5_method_12_code 2 = .ok (.invokevirtual 65, 3) := by decide +kernel
theorem d_Nd_kindOf_5 : decode prog_5_method_12_code 5 = .ok (.ifCond .eq 12, 3) := by decide +kernel
theorem d_Nd_kindOf_8 : decode prog_5_method_12_code 8 = .ok (.aload_n 0, 1) := by decide +kernel
theorem d_Nd_kindOf_9 : decode prog_5_method_12_code 9 = .ok (.getfield 11, 3) := by decide +kernel
theorem d_Nd_kindOf_12 : decode prog_5_method_12_code 12 = .ok (.iload_n 1, 1) := by decide +kernel
theorem d_Nd_kindOf_13 : decode prog_5_method_12_code 13 = .ok (.iaload, 1) := by decide +kernel
theorem d_Nd_kindOf_14 : decode prog_5_method_12_code 14 = .ok (.goto 4, 3) := by decide +kernel
theorem d_Nd_kindOf_17 : decode prog_5_method_12_code 17 = .ok (.iconst (-1), 1) := by decide +kernel
theorem d_Nd_kindOf_18 : decode prog_5_method_12_code 18 = .ok (.ireturn, 1) := by decide +kernel
def wp_Nd_kindOf (z_this : T_Nd) (a1 : Int32) (post : Int32 → Unit → Prop) : Prop := wp_Nd_has z_this a1 (fun (r1 : Int32) (u1 : Unit) => (r1 = 0 → (post (-1 : Int32) ())) ∧ (¬ r1 = 0 → (vp_in a1 1070 ∧ (post (z_this.1 (a1).toNatClampNeg) ()))))
def rm_Nd_kindOf : Room := { frames := 1, cells := 0, slots := 0, locals := 21 }
set_option maxHeartbeats 4000000 in
set_option maxRecDepth 100000 in
theorem c_Nd_kindOf {l : Launch} {o : State × Array Value} {D : va_G} {k : Nat → ClassId} {ad_this : Nat → Nat} {z_this : T_Nd} {a1 : Int32} {post : Int32 → Unit → Prop} (hw : wp_Nd_kindOf z_this a1 post) : xq_C l o y_Nd_kindOf (.code y_Nd_kindOf prog_5_method_12_code 2 (some (.int)) :: xq_W) rm_Nd_kindOf D vwCl (xt k) [.ref (ad_this 0), .int a1] (w_Nd k ad_this z_this) (fun r : Int32 => some (.int r)) post (fun _ : Unit => False) (fun u : Unit => w_Nd k ad_this z_this) 0 0 0 0 := by
  refine xq_ofW (cc := prog_5_method_12_code) (maxL := 2) (ret := (some (.int))) (by decide) rfl (Nat.le_of_ble_eq_true rfl) ?_
  intro p e s m below meth c ls H locs A hAt hAe hA hl hK hJ hP0 hP hD hS
  obtain ⟨hx, hb, hml, hr, hlocks, hown, hts, hex, hnm⟩ := id hAt
  have hl : lv_has ls 2 [(0, .ref (ad_this 0)), (1, .int a1)] := hl
  unfold wp_Nd_kindOf at hw
  refine lv_aload_n hx hb d_Nd_kindOf_0 rfl (lv_at hl 0 rfl) ?_
  refine lv_iload_n hx hb d_Nd_kindOf_1 rfl (lv_at hl 1 rfl) ?_
  refine xq_go (wr := ([] : va_W)) (stk := fun r => .int r :: []) (xq_runV (As := [.int a1]) (rest := []) ⟨hx, hb, hml, hown, hts⟩ (c_Nd_has (l := l) (o := o) (D := D) (k := k) (ad_this := ad_this) hw) (cw_Nd_has hts kw3_83 ⟨Nat.le_of_ble_eq_true rfl, Nat.le_of_ble_eq_true rfl⟩) (va_recv hK hP (ci := 4) (q0 := 0) rfl rfl) (hP.sub [0, 1, 2, 3, 4, 5, 6, 7, 8, 9, 10] rfl) hK hJ hS (va_free hD hS hA [0, 1, 2, 3, 4, 5, 6, 7, 8, 9, 10] rfl) ((hD.sub [0, 1, 2, 3, 4, 5, 6, 7, 8, 9, 10] (by decide) rfl).weaken (fun _ _ _ _ => trivial)) rfl hl.1 (Nat.le_of_ble_eq_true rfl) d_Nd_kindOf_2 ⟨Nat.le_of_ble_eq_true rfl, Nat.le_of_ble_eq_true rfl⟩) hP hD hS hA [0, 1, 2, 3, 4, 5, 6, 7, 8, 9, 10] [] rfl rfl (by decide) (by decide) (fun _ => rfl) (fun r1 u1 H locs hw hP hD hS => ?_) (fun _ _ _ _ h9 => h9.elim)
  have hP : va_P D vwCl (w_Nd k ad_this z_this) H := hP.sub [0, 1, 2, 3, 4, 5, 6, 7, 8, 9, 10] rfl
  have hD : va_D A (w_Nd k ad_this z_this) := hD.sub [0, 1, 2, 3, 4, 5, 6, 7, 8, 9, 10] (by decide) rfl
  refine lv_if_eq (tgt := 17) hx hb d_Nd_kindOf_5 (by decide) (fun hc => ?_) (fun hc => ?_)
  · have hw := hw.1 hc
    refine lv_iconst (v := (-1 : Int32)) hx hb d_Nd_kindOf_17 (by decide) ?_
    exact xq_iret (r := (-1 : Int32)) (u := ()) hx hb hr hlocks hAe hP hD hS rfl hw (Nat.le_of_ble_eq_true rfl) (Nat.le_of_ble_eq_true rfl) d_Nd_kindOf_18
  · have hw := hw.2 hc
    refine lv_aload_n hx hb d_Nd_kindOf_8 rfl (lv_at hl 0 rfl) ?_
    refine va_get (D := D) (ci := 4) (v := .ref (ad_this 1)) (C := R_Nd) (T := F_Nd) (N := 14) hx hb hts in_Nd hown hK hP 0 rfl rfl 0 (by decide) (hts (.fieldLink R_Nd 11 R_Nd "kinds" "[I") kw1_183) (fun _ h9 => h9) rfl d_Nd_kindOf_9 ?_
    refine lv_iload_n hx hb d_Nd_kindOf_12 rfl (lv_at hl 1 rfl) ?_
    refine va_iald hx hb hK hP 1 0 rfl rfl hw.1 d_Nd_kindOf_13 ?_
    have hw := hw.2
    refine lv_goto (tgt := 18) hx hb d_Nd_kindOf_14 (by decide) ?_
    exact xq_iret (r := (z_this.1 (a1).toNatClampNeg)) (u := ()) hx hb hr hlocks hAe hP hD hS rfl hw (Nat.le_of_ble_eq_true rfl) (Nat.le_of_ble_eq_true rfl) d_Nd_kindOf_18
theorem cw_Nd_kindOf {R : Room} {s : State} {args : Array Value} {own : String} {index : Nat} (hts : ∀ w ∈ xq_W, w.before args s = true) (hl : .methodLink own index y_Nd_kindOf ∈ xq_W) {rm : Room} (hR : rm.frames + 1 ≤ R.frames ∧ 8 + (2 + 11) + rm.locals ≤ R.locals) : CallW R s args own "StepText$Nodes" index y_Nd_kindOf prog_5_method_12_code 2 (some (.int)) (.code y_Nd_kindOf prog_5_method_12_code 2 (some (.int)) :: xq_W) rm rm.cells rm.slots 1 := ⟨xq_cb 1 hts kw3_158 kw1_10 hl ⟨by decide, by decide, by decide +kernel⟩ hR, hts _ kw3_156, hts _ kw3_157⟩
def y_Nd_lowOf : MethodName := ⟨"StepText$Nodes", "lowOf", "(I)I"⟩
theorem d_Nd_lowOf_0 : decode prog_5_method_13_code 0 = .ok (.aload_n 0, 1) := by decide +kernel
theorem d_Nd_lowOf_1 : decode prog_5_method_13_code 1 = .ok (.iload_n 1, 1) := by decide +kernel
theorem d_Nd_lowOf_2 : decode prog_5_method_13_code 2 = .ok (.invokevirtual 65, 3) := by decide +kernel
theorem d_Nd_lowOf_5 : decode prog_5_method_13_code 5 = .ok (.ifCond .eq 12, 3) := by decide +kernel
theorem d_Nd_lowOf_8 : decode prog_5_method_13_code 8 = .ok (.aload_n 0, 1) := by decide +kernel
theorem d_Nd_lowOf_9 : decode prog_5_method_13_code 9 = .ok (.getfield 25, 3) := by decide +kernel
theorem d_Nd_lowOf_12 : decode prog_5_method_13_code 12 = .ok (.iload_n 1, 1) := by decide +kernel
theorem d_Nd_lowOf_13 : decode prog_5_method_13_code 13 = .ok (.iaload, 1) := by decide +kernel
theorem d_Nd_lowOf_14 : decode prog_5_method_13_code 14 = .ok (.goto 7, 3) := by decide +kernel
theorem d_Nd_lowOf_17 : decode prog_5_method_13_code 17 = .ok (.aload_n 0, 1) := by decide +kernel
theorem d_Nd_lowOf_18 : decode prog_5_method_13_code 18 = .ok (.getfield 48, 3) := by decide +kernel
theorem d_Nd_lowOf_21 : decode prog_5_method_13_code 21 = .ok (.ireturn, 1) := by decide +kernel
def wp_Nd_lowOf (z_this : T_Nd) (a1 : Int32) (post : Int32 → Unit → Prop) : Prop := wp_Nd_has z_this a1 (fun (r1 : Int32) (u1 : Unit) => (r1 = 0 → (post z_this.2.2.2.2.2.2.2.2.2.2.1 ())) ∧ (¬ r1 = 0 → (vp_in a1 1070 ∧ (post (z_this.2.2.2.2.1 (a1).toNatClampNeg) ()))))
def rm_Nd_lowOf : Room := { frames := 1, cells := 0, slots := 0, locals := 21 }
set_option maxHeartbeats 4000000 in
set_option maxRecDepth 100000 in
theorem c_Nd_lowOf {l : Launch} {o : State × Array Value} {D : va_G} {k : Nat → ClassId} {ad_this : Nat → Nat} {z_this : T_Nd} {a1 : Int32} {post : Int32 → Unit → Prop} (hw : wp_Nd_lowOf z_this a1 post) : xq_C l o y_Nd_lowOf (.code y_Nd_lowOf prog_5_method_13_code 2 (some (.int)) :: xq_W) rm_Nd_lowOf D vwCl (xt k) [.ref (ad_this 0), .int a1] (w_Nd k ad_this z_this) (fun r : Int32 => some (.int r)) post (fun _ : Unit => False) (fun u : Unit => w_Nd k ad_this z_this) 0 0 0 0 := by
  refine xq_ofW (cc := prog_5_method_13_code) (maxL := 2) (ret := (some (.int))) (by decide) rfl (Nat.le_of_ble_eq_true rfl) ?_
  intro p e s m below meth c ls H locs A hAt hAe hA hl hK hJ hP0 hP hD hS
  obtain ⟨hx, hb, hml, hr, hlocks, hown, hts, hex, hnm⟩ := id hAt
  have hl : lv_has ls 2 [(0, .ref (ad_this 0)), (1, .int a1)] := hl
  unfold wp_Nd_lowOf at hw
  refine lv_aload_n hx hb d_Nd_lowOf_0 rfl (lv_at hl 0 rfl) ?_
  refine lv_iload_n hx hb d_Nd_lowOf_1 rfl (lv_at hl 1 rfl) ?_
  refine xq_go (wr := ([] : va_W)) (stk := fun r => .int r :: []) (xq_runV (As := [.int a1]) (rest := []) ⟨hx, hb, hml, hown, hts⟩ (c_Nd_has (l := l) (o := o) (D := D) (k := k) (ad_this := ad_this) hw) (cw_Nd_has hts kw3_83 ⟨Nat.le_of_ble_eq_true rfl, Nat.le_of_ble_eq_true rfl⟩) (va_recv hK hP (ci := 4) (q0 := 0) rfl rfl) (hP.sub [0, 1, 2, 3, 4, 5, 6, 7, 8, 9, 10] rfl) hK hJ hS (va_free hD hS hA [0, 1, 2, 3, 4, 5, 6, 7, 8, 9, 10] rfl) ((hD.sub [0, 1, 2, 3, 4, 5, 6, 7, 8, 9, 10] (by decide) rfl).weaken (fun _ _ _ _ => trivial)) rfl hl.1 (Nat.le_of_ble_eq_true rfl) d_Nd_lowOf_2 ⟨Nat.le_of_ble_eq_true rfl, Nat.le_of_ble_eq_true rfl⟩) hP hD hS hA [0, 1, 2, 3, 4, 5, 6, 7, 8, 9, 10] [] rfl rfl (by decide) (by decide) (fun _ => rfl) (fun r1 u1 H locs hw hP hD hS => ?_) (fun _ _ _ _ h9 => h9.elim)
  have hP : va_P D vwCl (w_Nd k ad_this z_this) H := hP.sub [0, 1, 2, 3, 4, 5, 6, 7, 8, 9, 10] rfl
  have hD : va_D A (w_Nd k ad_this z_this) := hD.sub [0, 1, 2, 3, 4, 5, 6, 7, 8, 9, 10] (by decide) rfl
  refine lv_if_eq (tgt := 17) hx hb d_Nd_lowOf_5 (by decide) (fun hc => ?_) (fun hc => ?_)
  · have hw := hw.1 hc
    refine lv_aload_n hx hb d_Nd_lowOf_17 rfl (lv_at hl 0 rfl) ?_
    refine va_get (D := D) (ci := 4) (v := .int z_this.2.2.2.2.2.2.2.2.2.2.1) (C := R_Nd) (T := F_Nd) (N := 14) hx hb hts in_Nd hown hK hP 0 rfl rfl 10 (by decide) (hts (.fieldLink R_Nd 48 R_Nd "count" "I") kw1_193) (fun _ h9 => h9) rfl d_Nd_lowOf_18 ?_
    exact xq_iret (r := z_this.2.2.2.2.2.2.2.2.2.2.1) (u := ()) hx hb hr hlocks hAe hP hD hS rfl hw (Nat.le_of_ble_eq_true rfl) (Nat.le_of_ble_eq_true rfl) d_Nd_lowOf_21
  · have hw := hw.2 hc
    refine lv_aload_n hx hb d_Nd_lowOf_8 rfl (lv_at hl 0 rfl) ?_
    refine va_get (D := D) (ci := 4) (v := .ref (ad_this 5)) (C := R_Nd) (T := F_Nd) (N := 14) hx hb hts in_Nd hown hK hP 0 rfl rfl 4 (by decide) (hts (.fieldLink R_Nd 25 R_Nd "lows" "[I") kw1_187) (fun _ h9 => h9) rfl d_Nd_lowOf_9 ?_
    refine lv_iload_n hx hb d_Nd_lowOf_12 rfl (lv_at hl 1 rfl) ?_
    refine va_iald hx hb hK hP 5 0 rfl rfl hw.1 d_Nd_lowOf_13 ?_
    have hw := hw.2
    refine lv_goto (tgt := 21) hx hb d_Nd_lowOf_14 (by decide) ?_
    exact xq_iret (r := (z_this.2.2.2.2.1 (a1).toNatClampNeg)) (u := ()) hx hb hr hlocks hAe hP hD hS rfl hw (Nat.le_of_ble_eq_true rfl) (Nat.le_of_ble_eq_true rfl) d_Nd_lowOf_21
theorem cw_Nd_lowOf {R : Room} {s : State} {args : Array Value} {own : String} {index : Nat} (hts : ∀ w ∈ xq_W, w.before args s = true) (hl : .methodLink own index y_Nd_lowOf ∈ xq_W) {rm : Room} (hR : rm.frames + 1 ≤ R.frames ∧ 8 + (2 + 11) + rm.locals ≤ R.locals) : CallW R s args own "StepText$Nodes" index y_Nd_lowOf prog_5_method_13_code 2 (some (.int)) (.code y_Nd_lowOf prog_5_method_13_code 2 (some (.int)) :: xq_W) rm rm.cells rm.slots 1 := ⟨xq_cb 1 hts kw3_108 kw1_10 hl ⟨by decide, by decide, by decide +kernel⟩ hR, hts _ kw3_106, hts _ kw3_107⟩
def y_Nd_rowOf : MethodName := ⟨"StepText$Nodes", "rowOf", "(I)I"⟩
theorem d_Nd_rowOf_0 : decode prog_5_method_14_code 0 = .ok (.aload_n 0, 1) := by decide +kernel
theorem d_Nd_rowOf_1 : decode prog_5_method_14_code 1 = .ok (.iload_n 1, 1) := by decide +kernel
theorem d_Nd_rowOf_2 : decode prog_5_method_14_code 2 = .ok (.invokevirtual 65, 3) := by decide +kernel
theorem d_Nd_rowOf_5 : decode prog_5_method_14_code 5 = .ok (.ifCond .eq 12, 3) := by decide +kernel
theorem d_Nd_rowOf_8 : decode prog_5_method_14_code 8 = .ok (.aload_n 0, 1) := by decide +kernel
theorem d_Nd_rowOf_9 : decode prog_5_method_14_code 9 = .ok (.getfield 15, 3) := by decide +kernel
theorem d_Nd_rowOf_12 : decode prog_5_method_14_code 12 = .ok (.iload_n 1, 1) := by decide +kernel
theorem d_Nd_rowOf_13 : decode prog_5_method_14_code 13 = .ok (.iaload, 1) := by decide +kernel
theorem d_Nd_rowOf_14 : decode prog_5_method_14_code 14 = .ok (.goto 4, 3) := by decide +kernel
theorem d_Nd_rowOf_17 : decode prog_5_method_14_code 17 = .ok (.iconst (-1), 1) := by decide +kernel
theorem d_Nd_rowOf_18 : decode prog_5_method_14_code 18 = .ok (.ireturn, 1) := by decide +kernel
def wp_Nd_rowOf (z_this : T_Nd) (a1 : Int32) (post : Int32 → Unit → Prop) : Prop := wp_Nd_has z_this a1 (fun (r1 : Int32) (u1 : Unit) => (r1 = 0 → (post (-1 : Int32) ())) ∧ (¬ r1 = 0 → (vp_in a1 1070 ∧ (post (z_this.2.1 (a1).toNatClampNeg) ()))))
def rm_Nd_rowOf : Room := { frames := 1, cells := 0, slots := 0, locals := 21 }
set_option maxHeartbeats 4000000 in
set_option maxRecDepth 100000 in
theorem c_Nd_rowOf {l : Launch} {o : State × Array Value} {D : va_G} {k : Nat → ClassId} {ad_this : Nat → Nat} {z_this : T_Nd} {a1 : Int32} {post : Int32 → Unit → Prop} (hw : wp_Nd_rowOf z_this a1 post) : xq_C l o y_Nd_rowOf (.code y_Nd_rowOf prog_5_method_14_code 2 (some (.int)) :: xq_W) rm_Nd_rowOf D vwCl (xt k) [.ref (ad_this 0), .int a1] (w_Nd k ad_this z_this) (fun r : Int32 => some (.int r)) post (fun _ : Unit => False) (fun u : Unit => w_Nd k ad_this z_this) 0 0 0 0 := by
  refine xq_ofW (cc := prog_5_method_14_code) (maxL := 2) (ret := (some (.int))) (by decide) rfl (Nat.le_of_ble_eq_true rfl) ?_
  intro p e s m below meth c ls H locs A hAt hAe hA hl hK hJ hP0 hP hD hS
  obtain ⟨hx, hb, hml, hr, hlocks, hown, hts, hex, hnm⟩ := id hAt
  have hl : lv_has ls 2 [(0, .ref (ad_this 0)), (1, .int a1)] := hl
  unfold wp_Nd_rowOf at hw
  refine lv_aload_n hx hb d_Nd_rowOf_0 rfl (lv_at hl 0 rfl) ?_
  refine lv_iload_n hx hb d_Nd_rowOf_1 rfl (lv_at hl 1 rfl) ?_
  refine xq_go (wr := ([] : va_W)) (stk := fun r => .int r :: []) (xq_runV (As := [.int a1]) (rest := []) ⟨hx, hb, hml, hown, hts⟩ (c_Nd_has (l := l) (o := o) (D := D) (k := k) (ad_this := ad_this) hw) (cw_Nd_has hts kw3_83 ⟨Nat.le_of_ble_eq_true rfl, Nat.le_of_ble_eq_true rfl⟩) (va_recv hK hP (ci := 4) (q0 := 0) rfl rfl) (hP.sub [0, 1, 2, 3, 4, 5, 6, 7, 8, 9, 10] rfl) hK hJ hS (va_free hD hS hA [0, 1, 2, 3, 4, 5, 6, 7, 8, 9, 10] rfl) ((hD.sub [0, 1, 2, 3, 4, 5, 6, 7, 8, 9, 10] (by decide) rfl).weaken (fun _ _ _ _ => trivial)) rfl hl.1 (Nat.le_of_ble_eq_true rfl) d_Nd_rowOf_2 ⟨Nat.le_of_ble_eq_true rfl, Nat.le_of_ble_eq_true rfl⟩) hP hD hS hA [0, 1, 2, 3, 4, 5, 6, 7, 8, 9, 10] [] rfl rfl (by decide) (by decide) (fun _ => rfl) (fun r1 u1 H locs hw hP hD hS => ?_) (fun _ _ _ _ h9 => h9.elim)
  have hP : va_P D vwCl (w_Nd k ad_this z_this) H := hP.sub [0, 1, 2, 3, 4, 5, 6, 7, 8, 9, 10] rfl
  have hD : va_D A (w_Nd k ad_this z_this) := hD.sub [0, 1, 2, 3, 4, 5, 6, 7, 8, 9, 10] (by decide) rfl
  refine lv_if_eq (tgt := 17) hx hb d_Nd_rowOf_5 (by decide) (fun hc => ?_) (fun hc => ?_)
  · have hw := hw.1 hc
    refine lv_iconst (v := (-1 : Int32)) hx hb d_Nd_rowOf_17 (by decide) ?_
    exact xq_iret (r := (-1 : Int32)) (u := ()) hx hb hr hlocks hAe hP hD hS rfl hw (Nat.le_of_ble_eq_true rfl) (Nat.le_of_ble_eq_true rfl) d_Nd_rowOf_18
  · have hw := hw.2 hc
    refine lv_aload_n hx hb d_Nd_rowOf_8 rfl (lv_at hl 0 rfl) ?_
    refine va_get (D := D) (ci := 4) (v := .ref (ad_this 2)) (C := R_Nd) (T := F_Nd) (N := 14) hx hb hts in_Nd hown hK hP 0 rfl rfl 1 (by decide) (hts (.fieldLink R_Nd 15 R_Nd "rows" "[I") kw1_184) (fun _ h9 => h9) rfl d_Nd_rowOf_9 ?_
    refine lv_iload_n hx hb d_Nd_rowOf_12 rfl (lv_at hl 1 rfl) ?_
    refine va_iald hx hb hK hP 2 0 rfl rfl hw.1 d_Nd_rowOf_13 ?_
    have hw := hw.2
    refine lv_goto (tgt := 18) hx hb d_Nd_rowOf_14 (by decide) ?_
    exact xq_iret (r := (z_this.2.1 (a1).toNatClampNeg)) (u := ()) hx hb hr hlocks hAe hP hD hS rfl hw (Nat.le_of_ble_eq_true rfl) (Nat.le_of_ble_eq_true rfl) d_Nd_rowOf_18
theorem cw_Nd_rowOf {R : Room} {s : State} {args : Array Value} {own : String} {index : Nat} (hts : ∀ w ∈ xq_W, w.before args s = true) (hl : .methodLink own index y_Nd_rowOf ∈ xq_W) {rm : Room} (hR : rm.frames + 1 ≤ R.frames ∧ 8 + (2 + 11) + rm.locals ≤ R.locals) : CallW R s args own "StepText$Nodes" index y_Nd_rowOf prog_5_method_14_code 2 (some (.int)) (.code y_Nd_rowOf prog_5_method_14_code 2 (some (.int)) :: xq_W) rm rm.cells rm.slots 1 := ⟨xq_cb 1 hts kw3_112 kw1_10 hl ⟨by decide, by decide, by decide +kernel⟩ hR, hts _ kw3_110, hts _ kw3_111⟩
def y_Nd_valueOf : MethodName := ⟨"StepText$Nodes", "valueOf", "(I)J"⟩
theorem d_Nd_valueOf_0 : decode prog_5_method_15_code 0 = .ok (.aload_n 0, 1) := by decide +kernel
theorem d_Nd_valueOf_1 : decode prog_5_method_15_code 1 = .ok (.iload_n 1, 1) := by decide +kernel
theorem d_Nd_valueOf_2 : decode prog_5_method_15_code 2 = .ok (.invokevirtual 65, 3) := by decide +kernel
theorem d_Nd_valueOf_5 : decode prog_5_method_15_code 5 = .ok (.ifCond .eq 12, 3) := by decide +kernel
theorem d_Nd_valueOf_8 : decode prog_5_method_15_code 8 = .ok (.aload_n 0, 1) := by decide +kernel
theorem d_Nd_valueOf_9 : decode prog_5_method_15_code 9 = .ok (.getfield 18, 3) := by decide +kernel
theorem d_Nd_valueOf_12 : decode prog_5_method_15_code 12 = .ok (.iload_n 1, 1) := by decide +kernel
theorem d_Nd_valueOf_13 : decode prog_5_method_15_code 13 = .ok (.laload, 1) := by decide +kernel
theorem d_Nd_valueOf_14 : decode prog_5_method_15_code 14 = .ok (.goto 6, 3) := by decide +kernel
theorem d_Nd_valueOf_17 : decode prog_5_method_15_code 17 = .ok (.ldc2_w 69, 3) := by decide +kernel
theorem d_Nd_valueOf_20 : decode prog_5_method_15_code 20 = .ok (.lreturn, 1) := by decide +kernel
def wp_Nd_valueOf (z_this : T_Nd) (a1 : Int32) (post : Int64 → Unit → Prop) : Prop := wp_Nd_has z_this a1 (fun (r1 : Int32) (u1 : Unit) => (r1 = 0 → (post (-1 : Int64) ())) ∧ (¬ r1 = 0 → (vp_in a1 1070 ∧ (post (z_this.2.2.1 (a1).toNatClampNeg) ()))))
def rm_Nd_valueOf : Room := { frames := 1, cells := 0, slots := 0, locals := 21 }
set_option maxHeartbeats 4000000 in
set_option maxRecDepth 100000 in
theorem c_Nd_valueOf {l : Launch} {o : State × Array Value} {D : va_G} {k : Nat → ClassId} {ad_this : Nat → Nat} {z_this : T_Nd} {a1 : Int32} {post : Int64 → Unit → Prop} (hw : wp_Nd_valueOf z_this a1 post) : xq_C l o y_Nd_valueOf (.code y_Nd_valueOf prog_5_method_15_code 2 (some (.long)) :: xq_W) rm_Nd_valueOf D vwCl (xt k) [.ref (ad_this 0), .int a1] (w_Nd k ad_this z_this) (fun r : Int64 => some (.long r)) post (fun _ : Unit => False) (fun u : Unit => w_Nd k ad_this z_this) 0 0 0 0 := by
  refine xq_ofW (cc := prog_5_method_15_code) (maxL := 2) (ret := (some (.long))) (by decide) rfl (Nat.le_of_ble_eq_true rfl) ?_
  intro p e s m below meth c ls H locs A hAt hAe hA hl hK hJ hP0 hP hD hS
  obtain ⟨hx, hb, hml, hr, hlocks, hown, hts, hex, hnm⟩ := id hAt
  have hl : lv_has ls 2 [(0, .ref (ad_this 0)), (1, .int a1)] := hl
  unfold wp_Nd_valueOf at hw
  refine lv_aload_n hx hb d_Nd_valueOf_0 rfl (lv_at hl 0 rfl) ?_
  refine lv_iload_n hx hb d_Nd_valueOf_1 rfl (lv_at hl 1 rfl) ?_
  refine xq_go (wr := ([] : va_W)) (stk := fun r => .int r :: []) (xq_runV (As := [.int a1]) (rest := []) ⟨hx, hb, hml, hown, hts⟩ (c_Nd_has (l := l) (o := o) (D := D) (k := k) (ad_this := ad_this) hw) (cw_Nd_has hts kw3_83 ⟨Nat.le_of_ble_eq_true rfl, Nat.le_of_ble_eq_true rfl⟩) (va_recv hK hP (ci := 4) (q0 := 0) rfl rfl) (hP.sub [0, 1, 2, 3, 4, 5, 6, 7, 8, 9, 10] rfl) hK hJ hS (va_free hD hS hA [0, 1, 2, 3, 4, 5, 6, 7, 8, 9, 10] rfl) ((hD.sub [0, 1, 2, 3, 4, 5, 6, 7, 8, 9, 10] (by decide) rfl).weaken (fun _ _ _ _ => trivial)) rfl hl.1 (Nat.le_of_ble_eq_true rfl) d_Nd_valueOf_2 ⟨Nat.le_of_ble_eq_true rfl, Nat.le_of_ble_eq_true rfl⟩) hP hD hS hA [0, 1, 2, 3, 4, 5, 6, 7, 8, 9, 10] [] rfl rfl (by decide) (by decide) (fun _ => rfl) (fun r1 u1 H locs hw hP hD hS => ?_) (fun _ _ _ _ h9 => h9.elim)
  have hP : va_P D vwCl (w_Nd k ad_this z_this) H := hP.sub [0, 1, 2, 3, 4, 5, 6, 7, 8, 9, 10] rfl
  have hD : va_D A (w_Nd k ad_this z_this) := hD.sub [0, 1, 2, 3, 4, 5, 6, 7, 8, 9, 10] (by decide) rfl
  refine lv_if_eq (tgt := 17) hx hb d_Nd_valueOf_5 (by decide) (fun hc => ?_) (fun hc => ?_)
  · have hw := hw.1 hc
    refine lv_ldc2 (v := (-1 : Int64)) hx hb hown (hts (.constantLong R_Nd 69 (-1)) kw3_167) d_Nd_valueOf_17 ?_
    exact xq_lret (r := (-1 : Int64)) (u := ()) hx hb hr hlocks hAe hP hD hS rfl hw (Nat.le_of_ble_eq_true rfl) (Nat.le_of_ble_eq_true rfl) d_Nd_valueOf_20
  · have hw := hw.2 hc
    refine lv_aload_n hx hb d_Nd_valueOf_8 rfl (lv_at hl 0 rfl) ?_
    refine va_get (D := D) (ci := 4) (v := .ref (ad_this 3)) (C := R_Nd) (T := F_Nd) (N := 14) hx hb hts in_Nd hown hK hP 0 rfl rfl 2 (by decide) (hts (.fieldLink R_Nd 18 R_Nd "values" "[J") kw1_185) (fun _ h9 => h9) rfl d_Nd_valueOf_9 ?_
    refine lv_iload_n hx hb d_Nd_valueOf_12 rfl (lv_at hl 1 rfl) ?_
    refine va_lald hx hb hK hP 3 1 rfl rfl hw.1 d_Nd_valueOf_13 ?_
    have hw := hw.2
    refine lv_goto (tgt := 20) hx hb d_Nd_valueOf_14 (by decide) ?_
    exact xq_lret (r := (z_this.2.2.1 (a1).toNatClampNeg)) (u := ()) hx hb hr hlocks hAe hP hD hS rfl hw (Nat.le_of_ble_eq_true rfl) (Nat.le_of_ble_eq_true rfl) d_Nd_valueOf_20
theorem cw_Nd_valueOf {R : Room} {s : State} {args : Array Value} {own : String} {index : Nat} (hts : ∀ w ∈ xq_W, w.before args s = true) (hl : .methodLink own index y_Nd_valueOf ∈ xq_W) {rm : Room} (hR : rm.frames + 1 ≤ R.frames ∧ 8 + (2 + 11) + rm.locals ≤ R.locals) : CallW R s args own "StepText$Nodes" index y_Nd_valueOf prog_5_method_15_code 2 (some (.long)) (.code y_Nd_valueOf prog_5_method_15_code 2 (some (.long)) :: xq_W) rm rm.cells rm.slots 1 := ⟨xq_cb 1 hts kw3_166 kw1_10 hl ⟨by decide, by decide, by decide +kernel⟩ hR, hts _ kw3_164, hts _ kw3_165⟩
def y_Nd_subjectOf : MethodName := ⟨"StepText$Nodes", "subjectOf", "(I)I"⟩
theorem d_Nd_subjectOf_0 : decode prog_5_method_16_code 0 = .ok (.aload_n 0, 1) := by decide +kernel
theorem d_Nd_subjectOf_1 : decode prog_5_method_16_code 1 = .ok (.iload_n 1, 1) := by decide +kernel
theorem d_Nd_subjectOf_2 : decode prog_5_method_16_code 2 = .ok (.invokevirtual 71, 3) := by decide +kernel
theorem d_Nd_subjectOf_5 : decode prog_5_method_16_code 5 = .ok (.l2i, 1) := by decide +kernel
theorem d_Nd_subjectOf_6 : decode prog_5_method_16_code 6 = .ok (.ireturn, 1) := by decide +kernel
def wp_Nd_subjectOf (z_this : T_Nd) (a1 : Int32) (post : Int32 → Unit → Prop) : Prop := wp_Nd_valueOf z_this a1 (fun (r1 : Int64) (u1 : Unit) => post (r1).toInt32 ())
def rm_Nd_subjectOf : Room := { frames := 2, cells := 0, slots := 0, locals := 42 }
set_option maxHeartbeats 4000000 in
set_option maxRecDepth 100000 in
theorem c_Nd_subjectOf {l : Launch} {o : State × Array Value} {D : va_G} {k : Nat → ClassId} {ad_this : Nat → Nat} {z_this : T_Nd} {a1 : Int32} {post : Int32 → Unit → Prop} (hw : wp_Nd_subjectOf z_this a1 post) : xq_C l o y_Nd_subjectOf (.code y_Nd_subjectOf prog_5_method_16_code 2 (some (.int)) :: xq_W) rm_Nd_subjectOf D vwCl (xt k) [.ref (ad_this 0), .int a1] (w_Nd k ad_this z_this) (fun r : Int32 => some (.int r)) post (fun _ : Unit => False) (fun u : Unit => w_Nd k ad_this z_this) 0 0 0 0 := by
  refine xq_ofW (cc := prog_5_method_16_code) (maxL := 2) (ret := (some (.int))) (by decide) rfl (Nat.le_of_ble_eq_true rfl) ?_
  intro p e s m below meth c ls H locs A hAt hAe hA hl hK hJ hP0 hP hD hS
  obtain ⟨hx, hb, hml, hr, hlocks, hown, hts, hex, hnm⟩ := id hAt
  have hl : lv_has ls 2 [(0, .ref (ad_this 0)), (1, .int a1)] := hl
  unfold wp_Nd_subjectOf at hw
  refine lv_aload_n hx hb d_Nd_subjectOf_0 rfl (lv_at hl 0 rfl) ?_
  refine lv_iload_n hx hb d_Nd_subjectOf_1 rfl (lv_at hl 1 rfl) ?_
  refine xq_go (wr := ([] : va_W)) (stk := fun r => .long r :: []) (xq_runV (As := [.int a1]) (rest := []) ⟨hx, hb, hml, hown, hts⟩ (c_Nd_valueOf (l := l) (o := o) (D := D) (k := k) (ad_this := ad_this) hw) (cw_Nd_valueOf hts kw3_163 ⟨Nat.le_of_ble_eq_true rfl, Nat.le_of_ble_eq_true rfl⟩) (va_recv hK hP (ci := 4) (q0 := 0) rfl rfl) (hP.sub [0, 1, 2, 3, 4, 5, 6, 7, 8, 9, 10] rfl) hK hJ hS (va_free hD hS hA [0, 1, 2, 3, 4, 5, 6, 7, 8, 9, 10] rfl) ((hD.sub [0, 1, 2, 3, 4, 5, 6, 7, 8, 9, 10] (by decide) rfl).weaken (fun _ _ _ _ => trivial)) rfl hl.1 (Nat.le_of_ble_eq_true rfl) d_Nd_subjectOf_2 ⟨Nat.le_of_ble_eq_true rfl, Nat.le_of_ble_eq_true rfl⟩) hP hD hS hA [0, 1, 2, 3, 4, 5, 6, 7, 8, 9, 10] [] rfl rfl (by decide) (by decide) (fun _ => rfl) (fun r1 u1 H locs hw hP hD hS => ?_) (fun _ _ _ _ h9 => h9.elim)
  have hP : va_P D vwCl (w_Nd k ad_this z_this) H := hP.sub [0, 1, 2, 3, 4, 5, 6, 7, 8, 9, 10] rfl
  have hD : va_D A (w_Nd k ad_this z_this) := hD.sub [0, 1, 2, 3, 4, 5, 6, 7, 8, 9, 10] (by decide) rfl
  refine lv_l2i hx hb d_Nd_subjectOf_5 rfl ?_
  exact xq_iret (r := (r1).toInt32) (u := ()) hx hb hr hlocks hAe hP hD hS rfl hw (Nat.le_of_ble_eq_true rfl) (Nat.le_of_ble_eq_true rfl) d_Nd_subjectOf_6
theorem cw_Nd_subjectOf {R : Room} {s : State} {args : Array Value} {own : String} {index : Nat} (hts : ∀ w ∈ xq_W, w.before args s = true) (hl : .methodLink own index y_Nd_subjectOf ∈ xq_W) {rm : Room} (hR : rm.frames + 1 ≤ R.frames ∧ 8 + (2 + 11) + rm.locals ≤ R.locals) : CallW R s args own "StepText$Nodes" index y_Nd_subjectOf prog_5_method_16_code 2 (some (.int)) (.code y_Nd_subjectOf prog_5_method_16_code 2 (some (.int)) :: xq_W) rm rm.cells rm.slots 1 := ⟨xq_cb 1 hts kw3_162 kw1_10 hl ⟨by decide, by decide, by decide +kernel⟩ hR, hts _ kw3_160, hts _ kw3_161⟩
def y_Nd_measureOf : MethodName := ⟨"StepText$Nodes", "measureOf", "(I)I"⟩
theorem d_Nd_measureOf_0 : decode prog_5_method_17_code 0 = .ok (.aload_n 0, 1) := by decide +kernel
theorem d_Nd_measureOf_1 : decode prog_5_method_17_code 1 = .ok (.iload_n 1, 1) := by decide +kernel
theorem d_Nd_measureOf_2 : decode prog_5_method_17_code 2 = .ok (.invokevirtual 65, 3) := by decide +kernel
theorem d_Nd_measureOf_5 : decode prog_5_method_17_code 5 = .ok (.ifCond .eq 12, 3) := by decide +kernel
theorem d_Nd_measureOf_8 : decode prog_5_method_17_code 8 = .ok (.aload_n 0, 1) := by decide +kernel
theorem d_Nd_measureOf_9 : decode prog_5_method_17_code 9 = .ok (.getfield 22, 3) := by decide +kernel
theorem d_Nd_measureOf_12 : decode prog_5_method_17_code 12 = .ok (.iload_n 1, 1) := by decide +kernel
theorem d_Nd_measureOf_13 : decode prog_5_method_17_code 13 = .ok (.iaload, 1) := by decide +kernel
theorem d_Nd_measureOf_14 : decode prog_5_method_17_code 14 = .ok (.goto 4, 3) := by decide +kernel
theorem d_Nd_measureOf_17 : decode prog_5_method_17_code 17 = .ok (.iconst (-1), 1) := by decide +kernel
theorem d_Nd_measureOf_18 : decode prog_5_method_17_code 18 = .ok (.ireturn, 1) := by decide +kernel
def wp_Nd_measureOf (z_this : T_Nd) (a1 : Int32) (post : Int32 → Unit → Prop) : Prop := wp_Nd_has z_this a1 (fun (r1 : Int32) (u1 : Unit) => (r1 = 0 → (post (-1 : Int32) ())) ∧ (¬ r1 = 0 → (vp_in a1 1070 ∧ (post (z_this.2.2.2.1 (a1).toNatClampNeg) ()))))
def rm_Nd_measureOf : Room := { frames := 1, cells := 0, slots := 0, locals := 21 }
set_option maxHeartbeats 4000000 in
set_option maxRecDepth 100000 in
theorem c_Nd_measureOf {l : Launch} {o : State × Array Value} {D : va_G} {k : Nat → ClassId} {ad_this : Nat → Nat} {z_this : T_Nd} {a1 : Int32} {post : Int32 → Unit → Prop} (hw : wp_Nd_measureOf z_this a1 post) : xq_C l o y_Nd_measureOf (.code y_Nd_measureOf prog_5_method_17_code 2 (some (.int)) :: xq_W) rm_Nd_measureOf D vwCl (xt k) [.ref (ad_this 0), .int a1] (w_Nd k ad_this z_this) (fun r : Int32 => some (.int r)) post (fun _ : Unit => False) (fun u : Unit => w_Nd k ad_this z_this) 0 0 0 0 := by
  refine xq_ofW (cc := prog_5_method_17_code) (maxL := 2) (ret := (some (.int))) (by decide) rfl (Nat.le_of_ble_eq_true rfl) ?_
  intro p e s m below meth c ls H locs A hAt hAe hA hl hK hJ hP0 hP hD hS
  obtain ⟨hx, hb, hml, hr, hlocks, hown, hts, hex, hnm⟩ := id hAt
  have hl : lv_has ls 2 [(0, .ref (ad_this 0)), (1, .int a1)] := hl
  unfold wp_Nd_measureOf at hw
  refine lv_aload_n hx hb d_Nd_measureOf_0 rfl (lv_at hl 0 rfl) ?_
  refine lv_iload_n hx hb d_Nd_measureOf_1 rfl (lv_at hl 1 rfl) ?_
  refine xq_go (wr := ([] : va_W)) (stk := fun r => .int r :: []) (xq_runV (As := [.int a1]) (rest := []) ⟨hx, hb, hml, hown, hts⟩ (c_Nd_has (l := l) (o := o) (D := D) (k := k) (ad_this := ad_this) hw) (cw_Nd_has hts kw3_83 ⟨Nat.le_of_ble_eq_true rfl, Nat.le_of_ble_eq_true rfl⟩) (va_recv hK hP (ci := 4) (q0 := 0) rfl rfl) (hP.sub [0, 1, 2, 3, 4, 5, 6, 7, 8, 9, 10] rfl) hK hJ hS (va_free hD hS hA [0, 1, 2, 3, 4, 5, 6, 7, 8, 9, 10] rfl) ((hD.sub [0, 1, 2, 3, 4, 5, 6, 7, 8, 9, 10] (by decide) rfl).weaken (fun _ _ _ _ => trivial)) rfl hl.1 (Nat.le_of_ble_eq_true rfl) d_Nd_measureOf_2 ⟨Nat.le_of_ble_eq_true rfl, Nat.le_of_ble_eq_true rfl⟩) hP hD hS hA [0, 1, 2, 3, 4, 5, 6, 7, 8, 9, 10] [] rfl rfl (by decide) (by decide) (fun _ => rfl) (fun r1 u1 H locs hw hP hD hS => ?_) (fun _ _ _ _ h9 => h9.elim)
  have hP : va_P D vwCl (w_Nd k ad_this z_this) H := hP.sub [0, 1, 2, 3, 4, 5, 6, 7, 8, 9, 10] rfl
  have hD : va_D A (w_Nd k ad_this z_this) := hD.sub [0, 1, 2, 3, 4, 5, 6, 7, 8, 9, 10] (by decide) rfl
  refine lv_if_eq (tgt := 17) hx hb d_Nd_measureOf_5 (by decide) (fun hc => ?_) (fun hc => ?_)
  · have hw := hw.1 hc
    refine lv_iconst (v := (-1 : Int32)) hx hb d_Nd_measureOf_17 (by decide) ?_
    exact xq_iret (r := (-1 : Int32)) (u := ()) hx hb hr hlocks hAe hP hD hS rfl hw (Nat.le_of_ble_eq_true rfl) (Nat.le_of_ble_eq_true rfl) d_Nd_measureOf_18
  · have hw := hw.2 hc
    refine lv_aload_n hx hb d_Nd_measureOf_8 rfl (lv_at hl 0 rfl) ?_
    refine va_get (D := D) (ci := 4) (v := .ref (ad_this 4)) (C := R_Nd) (T := F_Nd) (N := 14) hx hb hts in_Nd hown hK hP 0 rfl rfl 3 (by decide) (hts (.fieldLink R_Nd 22 R_Nd "measures" "[I") kw1_186) (fun _ h9 => h9) rfl d_Nd_measureOf_9 ?_
    refine lv_iload_n hx hb d_Nd_measureOf_12 rfl (lv_at hl 1 rfl) ?_
    refine va_iald hx hb hK hP 4 0 rfl rfl hw.1 d_Nd_measureOf_13 ?_
    have hw := hw.2
    refine lv_goto (tgt := 18) hx hb d_Nd_measureOf_14 (by decide) ?_
    exact xq_iret (r := (z_this.2.2.2.1 (a1).toNatClampNeg)) (u := ()) hx hb hr hlocks hAe hP hD hS rfl hw (Nat.le_of_ble_eq_true rfl) (Nat.le_of_ble_eq_true rfl) d_Nd_measureOf_18
theorem cw_Nd_measureOf {R : Room} {s : State} {args : Array Value} {own : String} {index : Nat} (hts : ∀ w ∈ xq_W, w.before args s = true) (hl : .methodLink own index y_Nd_measureOf ∈ xq_W) {rm : Room} (hR : rm.frames + 1 ≤ R.frames ∧ 8 + (2 + 11) + rm.locals ≤ R.locals) : CallW R s args own "StepText$Nodes" index y_Nd_measureOf prog_5_method_17_code 2 (some (.int)) (.code y_Nd_measureOf prog_5_method_17_code 2 (some (.int)) :: xq_W) rm rm.cells rm.slots 1 := ⟨xq_cb 1 hts kw3_82 kw1_10 hl ⟨by decide, by decide, by decide +kernel⟩ hR, hts _ kw3_80, hts _ kw3_81⟩
def y_Nd_sizeOf : MethodName := ⟨"StepText$Nodes", "sizeOf", "(I)I"⟩
theorem d_Nd_sizeOf_0 : decode prog_5_method_18_code 0 = .ok (.aload_n 0, 1) := by decide +kernel
theorem d_Nd_sizeOf_1 : decode prog_5_method_18_code 1 = .ok (.iload_n 1, 1) := by decide +kernel
theorem d_Nd_sizeOf_2 : decode prog_5_method_18_code 2 = .ok (.invokevirtual 65, 3) := by decide +kernel
theorem d_Nd_sizeOf_5 : decode prog_5_method_18_code 5 = .ok (.ifCond .eq 12, 3) := by decide +kernel
theorem d_Nd_sizeOf_8 : decode prog_5_method_18_code 8 = .ok (.aload_n 0, 1) := by decide +kernel
theorem d_Nd_sizeOf_9 : decode prog_5_method_18_code 9 = .ok (.getfield 28, 3) := by decide +kernel
theorem d_Nd_sizeOf_12 : decode prog_5_method_18_code 12 = .ok (.iload_n 1, 1) := by decide +kernel
theorem d_Nd_sizeOf_13 : decode prog_5_method_18_code 13 = .ok (.iaload, 1) := by decide +kernel
theorem d_Nd_sizeOf_14 : decode prog_5_method_18_code 14 = .ok (.goto 4, 3) := by decide +kernel
theorem d_Nd_sizeOf_17 : decode prog_5_method_18_code 17 = .ok (.iconst (-1), 1) := by decide +kernel
theorem d_Nd_sizeOf_18 : decode prog_5_method_18_code 18 = .ok (.ireturn, 1) := by decide +kernel
def wp_Nd_sizeOf (z_this : T_Nd) (a1 : Int32) (post : Int32 → Unit → Prop) : Prop := wp_Nd_has z_this a1 (fun (r1 : Int32) (u1 : Unit) => (r1 = 0 → (post (-1 : Int32) ())) ∧ (¬ r1 = 0 → (vp_in a1 1070 ∧ (post (z_this.2.2.2.2.2.1 (a1).toNatClampNeg) ()))))
def rm_Nd_sizeOf : Room := { frames := 1, cells := 0, slots := 0, locals := 21 }
set_option maxHeartbeats 4000000 in
set_option maxRecDepth 100000 in
theorem c_Nd_sizeOf {l : Launch} {o : State × Array Value} {D : va_G} {k : Nat → ClassId} {ad_this : Nat → Nat} {z_this : T_Nd} {a1 : Int32} {post : Int32 → Unit → Prop} (hw : wp_Nd_sizeOf z_this a1 post) : xq_C l o y_Nd_sizeOf (.code y_Nd_sizeOf prog_5_method_18_code 2 (some (.int)) :: xq_W) rm_Nd_sizeOf D vwCl (xt k) [.ref (ad_this 0), .int a1] (w_Nd k ad_this z_this) (fun r : Int32 => some (.int r)) post (fun _ : Unit => False) (fun u : Unit => w_Nd k ad_this z_this) 0 0 0 0 := by
  refine xq_ofW (cc := prog_5_method_18_code) (maxL := 2) (ret := (some (.int))) (by decide) rfl (Nat.le_of_ble_eq_true rfl) ?_
  intro p e s m below meth c ls H locs A hAt hAe hA hl hK hJ hP0 hP hD hS
  obtain ⟨hx, hb, hml, hr, hlocks, hown, hts, hex, hnm⟩ := id hAt
  have hl : lv_has ls 2 [(0, .ref (ad_this 0)), (1, .int a1)] := hl
  unfold wp_Nd_sizeOf at hw
  refine lv_aload_n hx hb d_Nd_sizeOf_0 rfl (lv_at hl 0 rfl) ?_
  refine lv_iload_n hx hb d_Nd_sizeOf_1 rfl (lv_at hl 1 rfl) ?_
  refine xq_go (wr := ([] : va_W)) (stk := fun r => .int r :: []) (xq_runV (As := [.int a1]) (rest := []) ⟨hx, hb, hml, hown, hts⟩ (c_Nd_has (l := l) (o := o) (D := D) (k := k) (ad_this := ad_this) hw) (cw_Nd_has hts kw3_83 ⟨Nat.le_of_ble_eq_true rfl, Nat.le_of_ble_eq_true rfl⟩) (va_recv hK hP (ci := 4) (q0 := 0) rfl rfl) (hP.sub [0, 1, 2, 3, 4, 5, 6, 7, 8, 9, 10] rfl) hK hJ hS (va_free hD hS hA [0, 1, 2, 3, 4, 5, 6, 7, 8, 9, 10] rfl) ((hD.sub [0, 1, 2, 3, 4, 5, 6, 7, 8, 9, 10] (by decide) rfl).weaken (fun _ _ _ _ => trivial)) rfl hl.1 (Nat.le_of_ble_eq_true rfl) d_Nd_sizeOf_2 ⟨Nat.le_of_ble_eq_true rfl, Nat.le_of_ble_eq_true rfl⟩) hP hD hS hA [0, 1, 2, 3, 4, 5, 6, 7, 8, 9, 10] [] rfl rfl (by decide) (by decide) (fun _ => rfl) (fun r1 u1 H locs hw hP hD hS => ?_) (fun _ _ _ _ h9 => h9.elim)
  have hP : va_P D vwCl (w_Nd k ad_this z_this) H := hP.sub [0, 1, 2, 3, 4, 5, 6, 7, 8, 9, 10] rfl
  have hD : va_D A (w_Nd k ad_this z_this) := hD.sub [0, 1, 2, 3, 4, 5, 6, 7, 8, 9, 10] (by decide) rfl
  refine lv_if_eq (tgt := 17) hx hb d_Nd_sizeOf_5 (by decide) (fun hc => ?_) (fun hc => ?_)
  · have hw := hw.1 hc
    refine lv_iconst (v := (-1 : Int32)) hx hb d_Nd_sizeOf_17 (by decide) ?_
    exact xq_iret (r := (-1 : Int32)) (u := ()) hx hb hr hlocks hAe hP hD hS rfl hw (Nat.le_of_ble_eq_true rfl) (Nat.le_of_ble_eq_true rfl) d_Nd_sizeOf_18
  · have hw := hw.2 hc
    refine lv_aload_n hx hb d_Nd_sizeOf_8 rfl (lv_at hl 0 rfl) ?_
    refine va_get (D := D) (ci := 4) (v := .ref (ad_this 6)) (C := R_Nd) (T := F_Nd) (N := 14) hx hb hts in_Nd hown hK hP 0 rfl rfl 5 (by decide) (hts (.fieldLink R_Nd 28 R_Nd "sizes" "[I") kw1_188) (fun _ h9 => h9) rfl d_Nd_sizeOf_9 ?_
    refine lv_iload_n hx hb d_Nd_sizeOf_12 rfl (lv_at hl 1 rfl) ?_
    refine va_iald hx hb hK hP 6 0 rfl rfl hw.1 d_Nd_sizeOf_13 ?_
    have hw := hw.2
    refine lv_goto (tgt := 18) hx hb d_Nd_sizeOf_14 (by decide) ?_
    exact xq_iret (r := (z_this.2.2.2.2.2.1 (a1).toNatClampNeg)) (u := ()) hx hb hr hlocks hAe hP hD hS rfl hw (Nat.le_of_ble_eq_true rfl) (Nat.le_of_ble_eq_true rfl) d_Nd_sizeOf_18
theorem cw_Nd_sizeOf {R : Room} {s : State} {args : Array Value} {own : String} {index : Nat} (hts : ∀ w ∈ xq_W, w.before args s = true) (hl : .methodLink own index y_Nd_sizeOf ∈ xq_W) {rm : Room} (hR : rm.frames + 1 ≤ R.frames ∧ 8 + (2 + 11) + rm.locals ≤ R.locals) : CallW R s args own "StepText$Nodes" index y_Nd_sizeOf prog_5_method_18_code 2 (some (.int)) (.code y_Nd_sizeOf prog_5_method_18_code 2 (some (.int)) :: xq_W) rm rm.cells rm.slots 1 := ⟨xq_cb 1 hts kw3_198 kw1_10 hl ⟨by decide, by decide, by decide +kernel⟩ hR, hts _ kw3_196, hts _ kw3_197⟩
def y_Nd_parentOf : MethodName := ⟨"StepText$Nodes", "parentOf", "(I)I"⟩
theorem d_Nd_parentOf_0 : decode prog_5_method_19_code 0 = .ok (.aload_n 0, 1) := by decide +kernel
theorem d_Nd_parentOf_1 : decode prog_5_method_19_code 1 = .ok (.iload_n 1, 1) := by decide +kernel
theorem d_Nd_parentOf_2 : decode prog_5_method_19_code 2 = .ok (.invokevirtual 65, 3) := by decide +kernel
theorem d_Nd_parentOf_5 : decode prog_5_method_19_code 5 = .ok (.ifCond .eq 12, 3) := by decide +kernel
theorem d_Nd_parentOf_8 : decode prog_5_method_19_code 8 = .ok (.aload_n 0, 1) := by decide +kernel
theorem d_Nd_parentOf_9 : decode prog_5_method_19_code 9 = .ok (.getfield 31, 3) := by decide +kernel
theorem d_Nd_parentOf_12 : decode prog_5_method_19_code 12 = .ok (.iload_n 1, 1) := by decide +kernel
theorem d_Nd_parentOf_13 : decode prog_5_method_19_code 13 = .ok (.iaload, 1) := by decide +kernel
theorem d_Nd_parentOf_14 : decode prog_5_method_19_code 14 = .ok (.goto 4, 3) := by decide +kernel
theorem d_Nd_parentOf_17 : decode prog_5_method_19_code 17 = .ok (.iconst (-1), 1) := by decide +kernel
theorem d_Nd_parentOf_18 : decode prog_5_method_19_code 18 = .ok (.ireturn, 1) := by decide +kernel
def wp_Nd_parentOf (z_this : T_Nd) (a1 : Int32) (post : Int32 → Unit → Prop) : Prop := wp_Nd_has z_this a1 (fun (r1 : Int32) (u1 : Unit) => (r1 = 0 → (post (-1 : Int32) ())) ∧ (¬ r1 = 0 → (vp_in a1 1070 ∧ (post (z_this.2.2.2.2.2.2.1 (a1).toNatClampNeg) ()))))
def rm_Nd_parentOf : Room := { frames := 1, cells := 0, slots := 0, locals := 21 }
set_option maxHeartbeats 4000000 in
set_option maxRecDepth 100000 in
theorem c_Nd_parentOf {l : Launch} {o : State × Array Value} {D : va_G} {k : Nat → ClassId} {ad_this : Nat → Nat} {z_this : T_Nd} {a1 : Int32} {post : Int32 → Unit → Prop} (hw : wp_Nd_parentOf z_this a1 post) : xq_C l o y_Nd_parentOf (.code y_Nd_parentOf prog_5_method_19_code 2 (some (.int)) :: xq_W) rm_Nd_parentOf D vwCl (xt k) [.ref (ad_this 0), .int a1] (w_Nd k ad_this z_this) (fun r : Int32 => some (.int r)) post (fun _ : Unit => False) (fun u : Unit => w_Nd k ad_this z_this) 0 0 0 0 := by
  refine xq_ofW (cc := prog_5_method_19_code) (maxL := 2) (ret := (some (.int))) (by decide) rfl (Nat.le_of_ble_eq_true rfl) ?_
  intro p e s m below meth c ls H locs A hAt hAe hA hl hK hJ hP0 hP hD hS
  obtain ⟨hx, hb, hml, hr, hlocks, hown, hts, hex, hnm⟩ := id hAt
  have hl : lv_has ls 2 [(0, .ref (ad_this 0)), (1, .int a1)] := hl
  unfold wp_Nd_parentOf at hw
  refine lv_aload_n hx hb d_Nd_parentOf_0 rfl (lv_at hl 0 rfl) ?_
  refine lv_iload_n hx hb d_Nd_parentOf_1 rfl (lv_at hl 1 rfl) ?_
  refine xq_go (wr := ([] : va_W)) (stk := fun r => .int r :: []) (xq_runV (As := [.int a1]) (rest := []) ⟨hx, hb, hml, hown, hts⟩ (c_Nd_has (l := l) (o := o) (D := D) (k := k) (ad_this := ad_this) hw) (cw_Nd_has hts kw3_83 ⟨Nat.le_of_ble_eq_true rfl, Nat.le_of_ble_eq_true rfl⟩) (va_recv hK hP (ci := 4) (q0 := 0) rfl rfl) (hP.sub [0, 1, 2, 3, 4, 5, 6, 7, 8, 9, 10] rfl) hK hJ hS (va_free hD hS hA [0, 1, 2, 3, 4, 5, 6, 7, 8, 9, 10] rfl) ((hD.sub [0, 1, 2, 3, 4, 5, 6, 7, 8, 9, 10] (by decide) rfl).weaken (fun _ _ _ _ => trivial)) rfl hl.1 (Nat.le_of_ble_eq_true rfl) d_Nd_parentOf_2 ⟨Nat.le_of_ble_eq_true rfl, Nat.le_of_ble_eq_true rfl⟩) hP hD hS hA [0, 1, 2, 3, 4, 5, 6, 7, 8, 9, 10] [] rfl rfl (by decide) (by decide) (fun _ => rfl) (fun r1 u1 H locs hw hP hD hS => ?_) (fun _ _ _ _ h9 => h9.elim)
  have hP : va_P D vwCl (w_Nd k ad_this z_this) H := hP.sub [0, 1, 2, 3, 4, 5, 6, 7, 8, 9, 10] rfl
  have hD : va_D A (w_Nd k ad_this z_this) := hD.sub [0, 1, 2, 3, 4, 5, 6, 7, 8, 9, 10] (by decide) rfl
  refine lv_if_eq (tgt := 17) hx hb d_Nd_parentOf_5 (by decide) (fun hc => ?_) (fun hc => ?_)
  · have hw := hw.1 hc
    refine lv_iconst (v := (-1 : Int32)) hx hb d_Nd_parentOf_17 (by decide) ?_
    exact xq_iret (r := (-1 : Int32)) (u := ()) hx hb hr hlocks hAe hP hD hS rfl hw (Nat.le_of_ble_eq_true rfl) (Nat.le_of_ble_eq_true rfl) d_Nd_parentOf_18
  · have hw := hw.2 hc
    refine lv_aload_n hx hb d_Nd_parentOf_8 rfl (lv_at hl 0 rfl) ?_
    refine va_get (D := D) (ci := 4) (v := .ref (ad_this 7)) (C := R_Nd) (T := F_Nd) (N := 14) hx hb hts in_Nd hown hK hP 0 rfl rfl 6 (by decide) (hts (.fieldLink R_Nd 31 R_Nd "parents" "[I") kw1_189) (fun _ h9 => h9) rfl d_Nd_parentOf_9 ?_
    refine lv_iload_n hx hb d_Nd_parentOf_12 rfl (lv_at hl 1 rfl) ?_
    refine va_iald hx hb hK hP 7 0 rfl rfl hw.1 d_Nd_parentOf_13 ?_
    have hw := hw.2
    refine lv_goto (tgt := 18) hx hb d_Nd_parentOf_14 (by decide) ?_
    exact xq_iret (r := (z_this.2.2.2.2.2.2.1 (a1).toNatClampNeg)) (u := ()) hx hb hr hlocks hAe hP hD hS rfl hw (Nat.le_of_ble_eq_true rfl) (Nat.le_of_ble_eq_true rfl) d_Nd_parentOf_18
theorem cw_Nd_parentOf {R : Room} {s : State} {args : Array Value} {own : String} {index : Nat} (hts : ∀ w ∈ xq_W, w.before args s = true) (hl : .methodLink own index y_Nd_parentOf ∈ xq_W) {rm : Room} (hR : rm.frames + 1 ≤ R.frames ∧ 8 + (2 + 11) + rm.locals ≤ R.locals) : CallW R s args own "StepText$Nodes" index y_Nd_parentOf prog_5_method_19_code 2 (some (.int)) (.code y_Nd_parentOf prog_5_method_19_code 2 (some (.int)) :: xq_W) rm rm.cells rm.slots 1 := ⟨xq_cb 1 hts kw4_102 kw1_10 hl ⟨by decide, by decide, by decide +kernel⟩ hR, hts _ kw4_100, hts _ kw4_101⟩
def y_Nd_nextOf : MethodName := ⟨"StepText$Nodes", "nextOf", "(I)I"⟩
theorem d_Nd_nextOf_0 : decode prog_5_method_20_code 0 = .ok (.aload_n 0, 1) := by decide +kernel
theorem d_Nd_nextOf_1 : decode prog_5_method_20_code 1 = .ok (.iload_n 1, 1) := by decide +kernel
theorem d_Nd_nextOf_2 : decode prog_5_method_20_code 2 = .ok (.invokevirtual 65, 3) := by decide +kernel
theorem d_Nd_nextOf_5 : decode prog_5_method_20_code 5 = .ok (.ifCond .eq 12, 3) := by decide +kernel
theorem d_Nd_nextOf_8 : decode prog_5_method_20_code 8 = .ok (.aload_n 0, 1) := by decide +kernel
theorem d_Nd_nextOf_9 : decode prog_5_method_20_code 9 = .ok (.getfield 37, 3) := by decide +kernel
theorem d_Nd_nextOf_12 : decode prog_5_method_20_code 12 = .ok (.iload_n 1, 1) := by decide +kernel
theorem d_Nd_nextOf_13 : decode prog_5_method_20_code 13 = .ok (.iaload, 1) := by decide +kernel
theorem d_Nd_nextOf_14 : decode prog_5_method_20_code 14 = .ok (.goto 4, 3) := by decide +kernel
theorem d_Nd_nextOf_17 : decode prog_5_method_20_code 17 = .ok (.iconst (-1), 1) := by decide +kernel
theorem d_Nd_nextOf_18 : decode prog_5_method_20_code 18 = .ok (.ireturn, 1) := by decide +kernel
def wp_Nd_nextOf (z_this : T_Nd) (a1 : Int32) (post : Int32 → Unit → Prop) : Prop := wp_Nd_has z_this a1 (fun (r1 : Int32) (u1 : Unit) => (r1 = 0 → (post (-1 : Int32) ())) ∧ (¬ r1 = 0 → (vp_in a1 1070 ∧ (post (z_this.2.2.2.2.2.2.2.2.1 (a1).toNatClampNeg) ()))))
def rm_Nd_nextOf : Room := { frames := 1, cells := 0, slots := 0, locals := 21 }
set_option maxHeartbeats 4000000 in
set_option maxRecDepth 100000 in
theorem c_Nd_nextOf {l : Launch} {o : State × Array Value} {D : va_G} {k : Nat → ClassId} {ad_this : Nat → Nat} {z_this : T_Nd} {a1 : Int32} {post : Int32 → Unit → Prop} (hw : wp_Nd_nextOf z_this a1 post) : xq_C l o y_Nd_nextOf (.code y_Nd_nextOf prog_5_method_20_code 2 (some (.int)) :: xq_W) rm_Nd_nextOf D vwCl (xt k) [.ref (ad_this 0), .int a1] (w_Nd k ad_this z_this) (fun r : Int32 => some (.int r)) post (fun _ : Unit => False) (fun u : Unit => w_Nd k ad_this z_this) 0 0 0 0 := by
  refine xq_ofW (cc := prog_5_method_20_code) (maxL := 2) (ret := (some (.int))) (by decide) rfl (Nat.le_of_ble_eq_true rfl) ?_
  intro p e s m below meth c ls H locs A hAt hAe hA hl hK hJ hP0 hP hD hS
  obtain ⟨hx, hb, hml, hr, hlocks, hown, hts, hex, hnm⟩ := id hAt
  have hl : lv_has ls 2 [(0, .ref (ad_this 0)), (1, .int a1)] := hl
  unfold wp_Nd_nextOf at hw
  refine lv_aload_n hx hb d_Nd_nextOf_0 rfl (lv_at hl 0 rfl) ?_
  refine lv_iload_n hx hb d_Nd_nextOf_1 rfl (lv_at hl 1 rfl) ?_
  refine xq_go (wr := ([] : va_W)) (stk := fun r => .int r :: []) (xq_runV (As := [.int a1]) (rest := []) ⟨hx, hb, hml, hown, hts⟩ (c_Nd_has (l := l) (o := o) (D := D) (k := k) (ad_this := ad_this) hw) (cw_Nd_has hts kw3_83 ⟨Nat.le_of_ble_eq_true rfl, Nat.le_of_ble_eq_true rfl⟩) (va_recv hK hP (ci := 4) (q0 := 0) rfl rfl) (hP.sub [0, 1, 2, 3, 4, 5, 6, 7, 8, 9, 10] rfl) hK hJ hS (va_free hD hS hA [0, 1, 2, 3, 4, 5, 6, 7, 8, 9, 10] rfl) ((hD.sub [0, 1, 2, 3, 4, 5, 6, 7, 8, 9, 10] (by decide) rfl).weaken (fun _ _ _ _ => trivial)) rfl hl.1 (Nat.le_of_ble_eq_true rfl) d_Nd_nextOf_2 ⟨Nat.le_of_ble_eq_true rfl, Nat.le_of_ble_eq_true rfl⟩) hP hD hS hA [0, 1, 2, 3, 4, 5, 6, 7, 8, 9, 10] [] rfl rfl (by decide) (by decide) (fun _ => rfl) (fun r1 u1 H locs hw hP hD hS => ?_) (fun _ _ _ _ h9 => h9.elim)
  have hP : va_P D vwCl (w_Nd k ad_this z_this) H := hP.sub [0, 1, 2, 3, 4, 5, 6, 7, 8, 9, 10] rfl
  have hD : va_D A (w_Nd k ad_this z_this) := hD.sub [0, 1, 2, 3, 4, 5, 6, 7, 8, 9, 10] (by decide) rfl
  refine lv_if_eq (tgt := 17) hx hb d_Nd_nextOf_5 (by decide) (fun hc => ?_) (fun hc => ?_)
  · have hw := hw.1 hc
    refine lv_iconst (v := (-1 : Int32)) hx hb d_Nd_nextOf_17 (by decide) ?_
    exact xq_iret (r := (-1 : Int32)) (u := ()) hx hb hr hlocks hAe hP hD hS rfl hw (Nat.le_of_ble_eq_true rfl) (Nat.le_of_ble_eq_true rfl) d_Nd_nextOf_18
  · have hw := hw.2 hc
    refine lv_aload_n hx hb d_Nd_nextOf_8 rfl (lv_at hl 0 rfl) ?_
    refine va_get (D := D) (ci := 4) (v := .ref (ad_this 9)) (C := R_Nd) (T := F_Nd) (N := 14) hx hb hts in_Nd hown hK hP 0 rfl rfl 8 (by decide) (hts (.fieldLink R_Nd 37 R_Nd "nexts" "[I") kw1_191) (fun _ h9 => h9) rfl d_Nd_nextOf_9 ?_
    refine lv_iload_n hx hb d_Nd_nextOf_12 rfl (lv_at hl 1 rfl) ?_
    refine va_iald hx hb hK hP 9 0 rfl rfl hw.1 d_Nd_nextOf_13 ?_
    have hw := hw.2
    refine lv_goto (tgt := 18) hx hb d_Nd_nextOf_14 (by decide) ?_
    exact xq_iret (r := (z_this.2.2.2.2.2.2.2.2.1 (a1).toNatClampNeg)) (u := ()) hx hb hr hlocks hAe hP hD hS rfl hw (Nat.le_of_ble_eq_true rfl) (Nat.le_of_ble_eq_true rfl) d_Nd_nextOf_18
theorem cw_Nd_nextOf {R : Room} {s : State} {args : Array Value} {own : String} {index : Nat} (hts : ∀ w ∈ xq_W, w.before args s = true) (hl : .methodLink own index y_Nd_nextOf ∈ xq_W) {rm : Room} (hR : rm.frames + 1 ≤ R.frames ∧ 8 + (2 + 11) + rm.locals ≤ R.locals) : CallW R s args own "StepText$Nodes" index y_Nd_nextOf prog_5_method_20_code 2 (some (.int)) (.code y_Nd_nextOf prog_5_method_20_code 2 (some (.int)) :: xq_W) rm rm.cells rm.slots 1 := ⟨xq_cb 1 hts kw3_206 kw1_10 hl ⟨by decide, by decide, by decide +kernel⟩ hR, hts _ kw3_204, hts _ kw3_205⟩
def y_Nd_isLate : MethodName := ⟨"StepText$Nodes", "isLate", "(I)Z"⟩
theorem d_Nd_isLate_0 : decode prog_5_method_21_code 0 = .ok (.aload_n 0, 1) := by decide +kernel
theorem d_Nd_isLate_1 : decode prog_5_method_21_code 1 = .ok (.iload_n 1, 1) := by decide +kernel
theorem d_Nd_isLate_2 : decode prog_5_method_21_code 2 = .ok (.invokevirtual 65, 3) := by decide +kernel
theorem d_Nd_isLate_5 : decode prog_5_method_21_code 5 = .ok (.ifCond .eq 16, 3) := by decide +kernel
theorem d_Nd_isLate_8 : decode prog_5_method_21_code 8 = .ok (.aload_n 0, 1) := by decide +kernel
theorem d_Nd_isLate_9 : decode prog_5_method_21_code 9 = .ok (.getfield 40, 3) := by decide +kernel
theorem d_Nd_isLate_12 : decode prog_5_method_21_code 12 = .ok (.iload_n 1, 1) := by decide +kernel
theorem d_Nd_isLate_13 : decode prog_5_method_21_code 13 = .ok (.baload, 1) := by decide +kernel
theorem d_Nd_isLate_14 : decode prog_5_method_21_code 14 = .ok (.ifCond .eq 7, 3) := by decide +kernel
theorem d_Nd_isLate_17 : decode prog_5_method_21_code 17 = .ok (.iconst 1, 1) := by decide +kernel
theorem d_Nd_isLate_18 : decode prog_5_method_21_code 18 = .ok (.goto 4, 3) := by decide +kernel
theorem d_Nd_isLate_21 : decode prog_5_method_21_code 21 = .ok (.iconst 0, 1) := by decide +kernel
theorem d_Nd_isLate_22 : decode prog_5_method_21_code 22 = .ok (.ireturn, 1) := by decide +kernel
def wp_Nd_isLate (z_this : T_Nd) (a1 : Int32) (post : Int32 → Unit → Prop) : Prop := wp_Nd_has z_this a1 (fun (r1 : Int32) (u1 : Unit) => (r1 = 0 → (post (0 : Int32) ())) ∧ (¬ r1 = 0 → (vp_in a1 1070 ∧ (((z_this.2.2.2.2.2.2.2.2.2.1 (a1).toNatClampNeg) = 0 → (post (0 : Int32) ())) ∧ (¬ (z_this.2.2.2.2.2.2.2.2.2.1 (a1).toNatClampNeg) = 0 → (post (1 : Int32) ()))))))
def rm_Nd_isLate : Room := { frames := 1, cells := 0, slots := 0, locals := 21 }
set_option maxHeartbeats 4000000 in
set_option maxRecDepth 100000 in
theorem c_Nd_isLate {l : Launch} {o : State × Array Value} {D : va_G} {k : Nat → ClassId} {ad_this : Nat → Nat} {z_this : T_Nd} {a1 : Int32} {post : Int32 → Unit → Prop} (hw : wp_Nd_isLate z_this a1 post) : xq_C l o y_Nd_isLate (.code y_Nd_isLate prog_5_method_21_code 2 (some (.boolean)) :: xq_W) rm_Nd_isLate D vwCl (xt k) [.ref (ad_this 0), .int a1] (w_Nd k ad_this z_this) (fun r : Int32 => some (.int r)) post (fun _ : Unit => False) (fun u : Unit => w_Nd k ad_this z_this) 0 0 0 0 := by
  refine xq_ofW (cc := prog_5_method_21_code) (maxL := 2) (ret := (some (.boolean))) (by decide) rfl (Nat.le_of_ble_eq_true rfl) ?_
  intro p e s m below meth c ls H locs A hAt hAe hA hl hK hJ hP0 hP hD hS
  obtain ⟨hx, hb, hml, hr, hlocks, hown, hts, hex, hnm⟩ := id hAt
  have hl : lv_has ls 2 [(0, .ref (ad_this 0)), (1, .int a1)] := hl
  unfold wp_Nd_isLate at hw
  refine lv_aload_n hx hb d_Nd_isLate_0 rfl (lv_at hl 0 rfl) ?_
  refine lv_iload_n hx hb d_Nd_isLate_1 rfl (lv_at hl 1 rfl) ?_
  refine xq_go (wr := ([] : va_W)) (stk := fun r => .int r :: []) (xq_runV (As := [.int a1]) (rest := []) ⟨hx, hb, hml, hown, hts⟩ (c_Nd_has (l := l) (o := o) (D := D) (k := k) (ad_this := ad_this) hw) (cw_Nd_has hts kw3_83 ⟨Nat.le_of_ble_eq_true rfl, Nat.le_of_ble_eq_true rfl⟩) (va_recv hK hP (ci := 4) (q0 := 0) rfl rfl) (hP.sub [0, 1, 2, 3, 4, 5, 6, 7, 8, 9, 10] rfl) hK hJ hS (va_free hD hS hA [0, 1, 2, 3, 4, 5, 6, 7, 8, 9, 10] rfl) ((hD.sub [0, 1, 2, 3, 4, 5, 6, 7, 8, 9, 10] (by decide) rfl).weaken (fun _ _ _ _ => trivial)) rfl hl.1 (Nat.le_of_ble_eq_true rfl) d_Nd_isLate_2 ⟨Nat.le_of_ble_eq_true rfl, Nat.le_of_ble_eq_true rfl⟩) hP hD hS hA [0, 1, 2, 3, 4, 5, 6, 7, 8, 9, 10] [] rfl rfl (by decide) (by decide) (fun _ => rfl) (fun r1 u1 H locs hw hP hD hS => ?_) (fun _ _ _ _ h9 => h9.elim)
  have hP : va_P D vwCl (w_Nd k ad_this z_this) H := hP.sub [0, 1, 2, 3, 4, 5, 6, 7, 8, 9, 10] rfl
  have hD : va_D A (w_Nd k ad_this z_this) := hD.sub [0, 1, 2, 3, 4, 5, 6, 7, 8, 9, 10] (by decide) rfl
  refine lv_if_eq (tgt := 21) hx hb d_Nd_isLate_5 (by decide) (fun hc => ?_) (fun hc => ?_)
  · have hw := hw.1 hc
    refine lv_iconst (v := (0 : Int32)) hx hb d_Nd_isLate_21 (by decide) ?_
    exact xq_zret (r := (0 : Int32)) (u := ()) hx hb hr hlocks hAe hP hD hS rfl rfl hw (Nat.le_of_ble_eq_true rfl) (Nat.le_of_ble_eq_true rfl) d_Nd_isLate_22
  · have hw := hw.2 hc
    refine lv_aload_n hx hb d_Nd_isLate_8 rfl (lv_at hl 0 rfl) ?_
    refine va_get (D := D) (ci := 4) (v := .ref (ad_this 10)) (C := R_Nd) (T := F_Nd) (N := 14) hx hb hts in_Nd hown hK hP 0 rfl rfl 9 (by decide) (hts (.fieldLink R_Nd 40 R_Nd "late" "[Z") kw1_192) (fun _ h9 => h9) rfl d_Nd_isLate_9 ?_
    refine lv_iload_n hx hb d_Nd_isLate_12 rfl (lv_at hl 1 rfl) ?_
    refine va_zald hx hb hK hP 10 3 rfl rfl hw.1 d_Nd_isLate_13 ?_
    have hw := hw.2
    refine lv_if_eq (tgt := 21) hx hb d_Nd_isLate_14 (by decide) (fun hc => ?_) (fun hc => ?_)
    · have hw := hw.1 hc
      refine lv_iconst (v := (0 : Int32)) hx hb d_Nd_isLate_21 (by decide) ?_
      exact xq_zret (r := (0 : Int32)) (u := ()) hx hb hr hlocks hAe hP hD hS rfl rfl hw (Nat.le_of_ble_eq_true rfl) (Nat.le_of_ble_eq_true rfl) d_Nd_isLate_22
    · have hw := hw.2 hc
      refine lv_iconst (v := (1 : Int32)) hx hb d_Nd_isLate_17 (by decide) ?_
      refine lv_goto (tgt := 22) hx hb d_Nd_isLate_18 (by decide) ?_
      exact xq_zret (r := (1 : Int32)) (u := ()) hx hb hr hlocks hAe hP hD hS rfl rfl hw (Nat.le_of_ble_eq_true rfl) (Nat.le_of_ble_eq_true rfl) d_Nd_isLate_22
theorem cw_Nd_isLate {R : Room} {s : State} {args : Array Value} {own : String} {index : Nat} (hts : ∀ w ∈ xq_W, w.before args s = true) (hl : .methodLink own index y_Nd_isLate ∈ xq_W) {rm : Room} (hR : rm.frames + 1 ≤ R.frames ∧ 8 + (2 + 11) + rm.locals ≤ R.locals) : CallW R s args own "StepText$Nodes" index y_Nd_isLate prog_5_method_21_code 2 (some (.boolean)) (.code y_Nd_isLate prog_5_method_21_code 2 (some (.boolean)) :: xq_W) rm rm.cells rm.slots 1 := ⟨xq_cb 1 hts kw4_11 kw1_10 hl ⟨by decide, by decide, by decide +kernel⟩ hR, hts _ kw4_9, hts _ kw4_10⟩
def y_Nd_firstOf : MethodName := ⟨"StepText$Nodes", "firstOf", "(I)I"⟩
theorem d_Nd_firstOf_0 : decode prog_5_method_22_code 0 = .ok (.iload_n 1, 1) := by decide +kernel
theorem d_Nd_firstOf_1 : decode prog_5_method_22_code 1 = .ok (.iconst (-1), 1) := by decide +kernel
theorem d_Nd_firstOf_2 : decode prog_5_method_22_code 2 = .ok (.if_icmp .ne 8, 3) := by decide +kernel
theorem d_Nd_firstOf_5 : decode prog_5_method_22_code 5 = .ok (.aload_n 0, 1) := by decide +kernel
theorem d_Nd_firstOf_6 : decode prog_5_method_22_code 6 = .ok (.getfield 44, 3) := by decide +kernel
theorem d_Nd_firstOf_9 : decode prog_5_method_22_code 9 = .ok (.ireturn, 1) := by decide +kernel
theorem d_Nd_firstOf_10 : decode prog_5_method_22_code 10 = .ok (.aload_n 0, 1) := by decide +kernel
theorem d_Nd_firstOf_11 : decode prog_5_method_22_code 11 = .ok (.iload_n 1, 1) := by decide +kernel
theorem d_Nd_firstOf_12 : decode prog_5_method_22_code 12 = .ok (.invokevirtual 65, 3) := by decide +kernel
theorem d_Nd_firstOf_15 : decode prog_5_method_22_code 15 = .ok (.ifCond .eq 12, 3) := by decide +kernel
theorem d_Nd_firstOf_18 : decode prog_5_method_22_code 18 = .ok (.aload_n 0, 1) := by decide +kernel
theorem d_Nd_firstOf_19 : decode prog_5_method_22_code 19 = .ok (.getfield 34, 3) := by decide +kernel
theorem d_Nd_firstOf_22 : decode prog_5_method_22_code 22 = .ok (.iload_n 1, 1) := by decide +kernel
theorem d_Nd_firstOf_23 : decode prog_5_method_22_code 23 = .ok (.iaload, 1) := by decide +kernel
theorem d_Nd_firstOf_24 : decode prog_5_method_22_code 24 = .ok (.goto 4, 3) := by decide +kernel
theorem d_Nd_firstOf_27 : decode prog_5_method_22_code 27 = .ok (.iconst (-1), 1) := by decide +kernel
theorem d_Nd_firstOf_28 : decode prog_5_method_22_code 28 = .ok (.ireturn, 1) := by decide +kernel
def wp_Nd_firstOf (z_this : T_Nd) (a1 : Int32) (post : Int32 → Unit → Prop) : Prop := (a1 = (-1 : Int32) → (post z_this.2.2.2.2.2.2.2.2.2.2.2.1 ())) ∧ (¬ a1 = (-1 : Int32) → (wp_Nd_has z_this a1 (fun (r1 : Int32) (u1 : Unit) => (r1 = 0 → (post (-1 : Int32) ())) ∧ (¬ r1 = 0 → (vp_in a1 1070 ∧ (post (z_this.2.2.2.2.2.2.2.1 (a1).toNatClampNeg) ()))))))
def rm_Nd_firstOf : Room := { frames := 1, cells := 0, slots := 0, locals := 21 }
set_option maxHeartbeats 4000000 in
set_option maxRecDepth 100000 in
theorem c_Nd_firstOf {l : Launch} {o : State × Array Value} {D : va_G} {k : Nat → ClassId} {ad_this : Nat → Nat} {z_this : T_Nd} {a1 : Int32} {post : Int32 → Unit → Prop} (hw : wp_Nd_firstOf z_this a1 post) : xq_C l o y_Nd_firstOf (.code y_Nd_firstOf prog_5_method_22_code 2 (some (.int)) :: xq_W) rm_Nd_firstOf D vwCl (xt k) [.ref (ad_this 0), .int a1] (w_Nd k ad_this z_this) (fun r : Int32 => some (.int r)) post (fun _ : Unit => False) (fun u : Unit => w_Nd k ad_this z_this) 0 0 0 0 := by
  refine xq_ofW (cc := prog_5_method_22_code) (maxL := 2) (ret := (some (.int))) (by decide) rfl (Nat.le_of_ble_eq_true rfl) ?_
  intro p e s m below meth c ls H locs A hAt hAe hA hl hK hJ hP0 hP hD hS
  obtain ⟨hx, hb, hml, hr, hlocks, hown, hts, hex, hnm⟩ := id hAt
  have hl : lv_has ls 2 [(0, .ref (ad_this 0)), (1, .int a1)] := hl
  unfold wp_Nd_firstOf at hw
  refine lv_iload_n hx hb d_Nd_firstOf_0 rfl (lv_at hl 1 rfl) ?_
  refine lv_iconst (v := (-1 : Int32)) hx hb d_Nd_firstOf_1 (by decide) ?_
  refine lv_icmp_ne (tgt := 10) hx hb d_Nd_firstOf_2 (by decide) (fun hc => ?_) (fun hc => ?_)
  · have hw := hw.2 hc
    refine lv_aload_n hx hb d_Nd_firstOf_10 rfl (lv_at hl 0 rfl) ?_
    refine lv_iload_n hx hb d_Nd_firstOf_11 rfl (lv_at hl 1 rfl) ?_
    refine xq_go (wr := ([] : va_W)) (stk := fun r => .int r :: []) (xq_runV (As := [.int a1]) (rest := []) ⟨hx, hb, hml, hown, hts⟩ (c_Nd_has (l := l) (o := o) (D := D) (k := k) (ad_this := ad_this) hw) (cw_Nd_has hts kw3_83 ⟨Nat.le_of_ble_eq_true rfl, Nat.le_of_ble_eq_true rfl⟩) (va_recv hK hP (ci := 4) (q0 := 0) rfl rfl) (hP.sub [0, 1, 2, 3, 4, 5, 6, 7, 8, 9, 10] rfl) hK hJ hS (va_free hD hS hA [0, 1, 2, 3, 4, 5, 6, 7, 8, 9, 10] rfl) ((hD.sub [0, 1, 2, 3, 4, 5, 6, 7, 8, 9, 10] (by decide) rfl).weaken (fun _ _ _ _ => trivial)) rfl hl.1 (Nat.le_of_ble_eq_true rfl) d_Nd_firstOf_12 ⟨Nat.le_of_ble_eq_true rfl, Nat.le_of_ble_eq_true rfl⟩) hP hD hS hA [0, 1, 2, 3, 4, 5, 6, 7, 8, 9, 10] [] rfl rfl (by decide) (by decide) (fun _ => rfl) (fun r1 u1 H locs hw hP hD hS => ?_) (fun _ _ _ _ h9 => h9.elim)
    have hP : va_P D vwCl (w_Nd k ad_this z_this) H := hP.sub [0, 1, 2, 3, 4, 5, 6, 7, 8, 9, 10] rfl
    have hD : va_D A (w_Nd k ad_this z_this) := hD.sub [0, 1, 2, 3, 4, 5, 6, 7, 8, 9, 10] (by decide) rfl
    refine lv_if_eq (tgt := 27) hx hb d_Nd_firstOf_15 (by decide) (fun hc => ?_) (fun hc => ?_)
    · have hw := hw.1 hc
      refine lv_iconst (v := (-1 : Int32)) hx hb d_Nd_firstOf_27 (by decide) ?_
      exact xq_iret (r := (-1 : Int32)) (u := ()) hx hb hr hlocks hAe hP hD hS rfl hw (Nat.le_of_ble_eq_true rfl) (Nat.le_of_ble_eq_true rfl) d_Nd_firstOf_28
    · have hw := hw.2 hc
      refine lv_aload_n hx hb d_Nd_firstOf_18 rfl (lv_at hl 0 rfl) ?_
      refine va_get (D := D) (ci := 4) (v := .ref (ad_this 8)) (C := R_Nd) (T := F_Nd) (N := 14) hx hb hts in_Nd hown hK hP 0 rfl rfl 7 (by decide) (hts (.fieldLink R_Nd 34 R_Nd "firsts" "[I") kw1_190) (fun _ h9 => h9) rfl d_Nd_firstOf_19 ?_
      refine lv_iload_n hx hb d_Nd_firstOf_22 rfl (lv_at hl 1 rfl) ?_
      refine va_iald hx hb hK hP 8 0 rfl rfl hw.1 d_Nd_firstOf_23 ?_
      have hw := hw.2
      refine lv_goto (tgt := 28) hx hb d_Nd_firstOf_24 (by decide) ?_
      exact xq_iret (r := (z_this.2.2.2.2.2.2.2.1 (a1).toNatClampNeg)) (u := ()) hx hb hr hlocks hAe hP hD hS rfl hw (Nat.le_of_ble_eq_true rfl) (Nat.le_of_ble_eq_true rfl) d_Nd_firstOf_28
  · have hw := hw.1 hc
    refine lv_aload_n hx hb d_Nd_firstOf_5 rfl (lv_at hl 0 rfl) ?_
    refine va_get (D := D) (ci := 4) (v := .int z_this.2.2.2.2.2.2.2.2.2.2.2.1) (C := R_Nd) (T := F_Nd) (N := 14) hx hb hts in_Nd hown hK hP 0 rfl rfl 11 (by decide) (hts (.fieldLink R_Nd 44 R_Nd "outerFirst" "I") kw1_194) (fun _ h9 => h9) rfl d_Nd_firstOf_6 ?_
    exact xq_iret (r := z_this.2.2.2.2.2.2.2.2.2.2.2.1) (u := ()) hx hb hr hlocks hAe hP hD hS rfl hw (Nat.le_of_ble_eq_true rfl) (Nat.le_of_ble_eq_true rfl) d_Nd_firstOf_9
theorem cw_Nd_firstOf {R : Room} {s : State} {args : Array Value} {own : String} {index : Nat} (hts : ∀ w ∈ xq_W, w.before args s = true) (hl : .methodLink own index y_Nd_firstOf ∈ xq_W) {rm : Room} (hR : rm.frames + 1 ≤ R.frames ∧ 8 + (2 + 11) + rm.locals ≤ R.locals) : CallW R s args own "StepText$Nodes" index y_Nd_firstOf prog_5_method_22_code 2 (some (.int)) (.code y_Nd_firstOf prog_5_method_22_code 2 (some (.int)) :: xq_W) rm rm.cells rm.slots 1 := ⟨xq_cb 1 hts kw3_202 kw1_10 hl ⟨by decide, by decide, by decide +kernel⟩ hR, hts _ kw3_200, hts _ kw3_201⟩
def y_Nd_heldBy : MethodName := ⟨"StepText$Nodes", "heldBy", "(II)I"⟩
theorem d_Nd_heldBy_0 : decode prog_5_method_23_code 0 = .ok (.iload_n 1, 1) := by decide +kernel
theorem d_Nd_heldBy_1 : decode prog_5_method_23_code 1 = .ok (.iconst (-1), 1) := by decide +kernel
theorem d_Nd_heldBy_2 : decode prog_5_method_23_code 2 = .ok (.if_icmp .ne 10, 3) := by decide +kernel
theorem d_Nd_heldBy_5 : decode prog_5_method_23_code 5 = .ok (.aload_n 0, 1) := by decide +kernel
theorem d_Nd_heldBy_6 : decode prog_5_method_23_code 6 = .ok (.getfield 51, 3) := by decide +kernel
theorem d_Nd_heldBy_9 : decode prog_5_method_23_code 9 = .ok (.goto 8, 3) := by decide +kernel
theorem d_Nd_heldBy_12 : decode prog_5_method_23_code 12 = .ok (.aload_n 0, 1) := by decide +kernel
theorem d_Nd_heldBy_13 : decode prog_5_method_23_code 13 = .ok (.iload_n 1, 1) := by decide +kernel
theorem d_Nd_heldBy_14 : decode prog_5_method_23_code 14 = .ok (.invokevirtual 75, 3) := by decide +kernel
theorem d_Nd_heldBy_17 : decode prog_5_method_23_code 17 = .ok (.istore_n 3, 1) := by decide +kernel
theorem d_Nd_heldBy_18 : decode prog_5_method_23_code 18 = .ok (.iload_n 2, 1) := by decide +kernel
theorem d_Nd_heldBy_19 : decode prog_5_method_23_code 19 = .ok (.ifCond .lt 8, 3) := by decide +kernel
theorem d_Nd_heldBy_22 : decode prog_5_method_23_code 22 = .ok (.iload_n 2, 1) := by decide +kernel
theorem d_Nd_heldBy_23 : decode prog_5_method_23_code 23 = .ok (.iload_n 3, 1) := by decide +kernel
theorem d_Nd_heldBy_24 : decode prog_5_method_23_code 24 = .ok (.if_icmp .lt 5, 3) := by decide +kernel
theorem d_Nd_heldBy_27 : decode prog_5_method_23_code 27 = .ok (.iconst (-1), 1) := by decide +kernel
theorem d_Nd_heldBy_28 : decode prog_5_method_23_code 28 = .ok (.ireturn, 1) := by decide +kernel
theorem d_Nd_heldBy_29 : decode prog_5_method_23_code 29 = .ok (.aload_n 0, 1) := by decide +kernel
theorem d_Nd_heldBy_30 : decode prog_5_method_23_code 30 = .ok (.iload_n 1, 1) := by decide +kernel
theorem d_Nd_heldBy_31 : decode prog_5_method_23_code 31 = .ok (.invokevirtual 78, 3) := by decide +kernel
theorem d_Nd_heldBy_34 : decode prog_5_method_23_code 34 = .ok (.istore 4, 2) := by decide +kernel
theorem d_Nd_heldBy_36 : decode prog_5_method_23_code 36 = .ok (.iconst 0, 1) := by decide +kernel
theorem d_Nd_heldBy_37 : decode prog_5_method_23_code 37 = .ok (.istore 5, 2) := by decide +kernel
theorem d_Nd_heldBy_39 : decode prog_5_method_23_code 39 = .ok (.iload 5, 2) := by decide +kernel
theorem d_Nd_heldBy_41 : decode prog_5_method_23_code 41 = .ok (.iload_n 2, 1) := by decide +kernel
theorem d_Nd_heldBy_42 : decode prog_5_method_23_code 42 = .ok (.if_icmp .ge 17, 3) := by decide +kernel
theorem d_Nd_heldBy_45 : decode prog_5_method_23_code 45 = .ok (.aload_n 0, 1) := by decide +kernel
theorem d_Nd_heldBy_46 : decode prog_5_method_23_code 46 = .ok (.iload 4, 2) := by decide +kernel
theorem d_Nd_heldBy_48 : decode prog_5_method_23_code 48 = .ok (.invokevirtual 81, 3) := by decide +kernel
theorem d_Nd_heldBy_51 : decode prog_5_method_23_code 51 = .ok (.istore 4, 2) := by decide +kernel
theorem d_Nd_heldBy_53 : decode prog_5_method_23_code 53 = .ok (.iinc 5 1, 3) := by decide +kernel
theorem d_Nd_heldBy_56 : decode prog_5_method_23_code 56 = .ok (.goto (-17), 3) := by decide +kernel
theorem d_Nd_heldBy_59 : decode prog_5_method_23_code 59 = .ok (.iload 4, 2) := by decide +kernel
theorem d_Nd_heldBy_61 : decode prog_5_method_23_code 61 = .ok (.ireturn, 1) := by decide +kernel
def wp_Nd_heldBy_L39 (z_this : T_Nd) (K : Int32 → Int32 → Int32 → Int32 → Int32 → Prop) (post : Int32 → Unit → Prop) : Nat → Int32 → Int32 → Int32 → Int32 → Int32 → Prop
  | 0, _, _, _, _, _ => False
  | n9 + 1, x1, x2, x3, x4, x5 => (x2 ≤ x5 → (K x1 x2 x3 x4 x5)) ∧ (¬ x2 ≤ x5 → (wp_Nd_nextOf z_this x4 (fun (r3 : Int32) (u3 : Unit) => wp_Nd_heldBy_L39 z_this K post n9 x1 x2 x3 r3 (x5 + (1 : Int32)))))
def wp_Nd_heldBy (z_this : T_Nd) (a1 : Int32) (a2 : Int32) (post : Int32 → Unit → Prop) : Prop := (a1 = (-1 : Int32) → ((a2 < 0 → (post (-1 : Int32) ())) ∧ (¬ a2 < 0 → ((a2 < z_this.2.2.2.2.2.2.2.2.2.2.2.2.1 → (wp_Nd_firstOf z_this a1 (fun (r4 : Int32) (u4 : Unit) => ∃ k9 : Nat, wp_Nd_heldBy_L39 z_this (fun (x1 : Int32) (x2 : Int32) (x3 : Int32) (x4 : Int32) (x5 : Int32) => post x4 ()) post k9 a1 a2 z_this.2.2.2.2.2.2.2.2.2.2.2.2.1 r4 (0 : Int32)))) ∧ (¬ a2 < z_this.2.2.2.2.2.2.2.2.2.2.2.2.1 → (post (-1 : Int32) ())))))) ∧ (¬ a1 = (-1 : Int32) → (wp_Nd_sizeOf z_this a1 (fun (r1 : Int32) (u1 : Unit) => (a2 < 0 → (post (-1 : Int32) ())) ∧ (¬ a2 < 0 → ((a2 < r1 → (wp_Nd_firstOf z_this a1 (fun (r2 : Int32) (u2 : Unit) => ∃ k9 : Nat, wp_Nd_heldBy_L39 z_this (fun (x1 : Int32) (x2 : Int32) (x3 : Int32) (x4 : Int32) (x5 : Int32) => post x4 ()) post k9 a1 a2 r1 r2 (0 : Int32)))) ∧ (¬ a2 < r1 → (post (-1 : Int32) ())))))))
def rm_Nd_heldBy : Room := { frames := 2, cells := 0, slots := 0, locals := 42 }
set_option maxHeartbeats 4000000 in
set_option maxRecDepth 100000 in
theorem t_Nd_heldBy_L39 {p : Program} {l : Launch} {o : State × Array Value} {e : Env} {s : State} {m : MethodId} {args : Array Value} {below : List Frame} {meth : Method} {c : Code} {D : va_G} {k : Nat → ClassId} {w0 : va_W} {A : Nat → Prop} {ad_this : Nat → Nat} {z_this : T_Nd} {post : Int32 → Unit → Prop} (hAt : xq_At p s m args meth c prog_5_method_23_code 6 (some (.int)) y_Nd_heldBy xq_W) (hK : va_K D vwCl (xt k) s) (hJ : xq_J l o A s s.heap) (hAe : va_A w0 s.heap.size = A) (hA : ∀ q, s.heap.size ≤ q → A q) {K : Int32 → Int32 → Int32 → Int32 → Int32 → Prop} (hX : ∀ (x1 : Int32) (x2 : Int32) (x3 : Int32) (x4 : Int32) (x5 : Int32) (H : Heap) (locs : List Loc) (ls : Array Slot), lv_has ls 6 [(0, .ref (ad_this 0)), (1, .int x1), (2, .int x2), (3, .int x3), (4, .int x4), (5, .int x5)] → va_P D vwCl (w_Nd k ad_this z_this) H → va_D A (w_Nd k ad_this z_this) → va_S A s.heap H locs → K x1 x2 x3 x4 x5 → W p l e rm_Nd_heldBy s m args below meth c H locs 0 0 (xq_Z below D vwCl (xt k) w0 (fun r : Int32 => some (.int r)) post (fun _ : Unit => False) (fun u : Unit => w_Nd k ad_this z_this) 0 0 0 0 s) (F0 m 59 ls [])) :
    ∀ (n9 : Nat) (x1 : Int32) (x2 : Int32) (x3 : Int32) (x4 : Int32) (x5 : Int32) (H : Heap) (locs : List Loc) (ls : Array Slot), lv_has ls 6 [(0, .ref (ad_this 0)), (1, .int x1), (2, .int x2), (3, .int x3), (4, .int x4), (5, .int x5)] → va_P D vwCl (w_Nd k ad_this z_this) H → va_D A (w_Nd k ad_this z_this) → va_S A s.heap H locs → wp_Nd_heldBy_L39 z_this K post n9 x1 x2 x3 x4 x5 → W p l e rm_Nd_heldBy s m args below meth c H locs 0 0 (xq_Z below D vwCl (xt k) w0 (fun r : Int32 => some (.int r)) post (fun _ : Unit => False) (fun u : Unit => w_Nd k ad_this z_this) 0 0 0 0 s) (F0 m 39 ls []) := by
  obtain ⟨hx, hb, hml, hr, hlocks, hown, hts, hex, hnm⟩ := id hAt
  intro n9
  induction n9 with
  | zero => intro x1 x2 x3 x4 x5 H locs ls hl hP hD hS hw; exact False.elim (by rw [wp_Nd_heldBy_L39] at hw; exact hw)
  | succ n9 ih =>
    intro x1 x2 x3 x4 x5 H locs ls hl hP hD hS hw
    rw [wp_Nd_heldBy_L39] at hw
    refine lv_iload hx hb d_Nd_heldBy_39 (lv_at hl 5 rfl) ?_
    refine lv_iload_n hx hb d_Nd_heldBy_41 rfl (lv_at hl 2 rfl) ?_
    refine lv_icmp_ge (tgt := 59) hx hb d_Nd_heldBy_42 (by decide) (fun hc => ?_) (fun hc => ?_)
    · have hw := hw.1 hc
      exact hX x1 x2 x3 x4 x5 H locs ls (lv_sub hl [0, 1, 2, 3, 4, 5] rfl) hP hD hS hw
    · have hw := hw.2 hc
      refine lv_aload_n hx hb d_Nd_heldBy_45 rfl (lv_at hl 0 rfl) ?_
      refine lv_iload hx hb d_Nd_heldBy_46 (lv_at hl 4 rfl) ?_
      refine xq_go (wr := ([] : va_W)) (stk := fun r => .int r :: []) (xq_runV (As := [.int x4]) (rest := []) ⟨hx, hb, hml, hown, hts⟩ (c_Nd_nextOf (l := l) (o := o) (D := D) (k := k) (ad_this := ad_this) hw) (cw_Nd_nextOf hts kw3_203 ⟨Nat.le_of_ble_eq_true rfl, Nat.le_of_ble_eq_true rfl⟩) (va_recv hK hP (ci := 4) (q0 := 0) rfl rfl) (hP.sub [0, 1, 2, 3, 4, 5, 6, 7, 8, 9, 10] rfl) hK hJ hS (va_free hD hS hA [0, 1, 2, 3, 4, 5, 6, 7, 8, 9, 10] rfl) ((hD.sub [0, 1, 2, 3, 4, 5, 6, 7, 8, 9, 10] (by decide) rfl).weaken (fun _ _ _ _ => trivial)) rfl hl.1 (Nat.le_of_ble_eq_true rfl) d_Nd_heldBy_48 ⟨Nat.le_of_ble_eq_true rfl, Nat.le_of_ble_eq_true rfl⟩) hP hD hS hA [0, 1, 2, 3, 4, 5, 6, 7, 8, 9, 10] [] rfl rfl (by decide) (by decide) (fun _ => rfl) (fun r3 u3 H locs hw hP hD hS => ?_) (fun _ _ _ _ h9 => h9.elim)
      have hP : va_P D vwCl (w_Nd k ad_this z_this) H := hP.sub [0, 1, 2, 3, 4, 5, 6, 7, 8, 9, 10] rfl
      have hD : va_D A (w_Nd k ad_this z_this) := hD.sub [0, 1, 2, 3, 4, 5, 6, 7, 8, 9, 10] (by decide) rfl
      refine lv_istore (lv' := [(4, .int r3), (0, .ref (ad_this 0)), (1, .int x1), (2, .int x2), (3, .int x3), (5, .int x5)]) hx hb d_Nd_heldBy_51 hl (by decide) rfl (fun ls hl => ?_)
      refine lv_iinc (v := (x5 + (1 : Int32))) (lv' := [(5, .int (x5 + (1 : Int32))), (4, .int r3), (0, .ref (ad_this 0)), (1, .int x1), (2, .int x2), (3, .int x3)]) hx hb d_Nd_heldBy_53 hl (k := 5) rfl rfl (by decide) rfl (fun ls hl => ?_)
      refine lv_goto (tgt := 39) hx hb d_Nd_heldBy_56 (by decide) ?_
      exact ih x1 x2 x3 r3 (x5 + (1 : Int32)) H locs ls (lv_sub hl [2, 3, 4, 5, 1, 0] rfl) hP hD hS hw
set_option maxHeartbeats 4000000 in
set_option maxRecDepth 100000 in
theorem c_Nd_heldBy {l : Launch} {o : State × Array Value} {D : va_G} {k : Nat → ClassId} {ad_this : Nat → Nat} {z_this : T_Nd} {a1 : Int32} {a2 : Int32} {post : Int32 → Unit → Prop} (hw : wp_Nd_heldBy z_this a1 a2 post) : xq_C l o y_Nd_heldBy (.code y_Nd_heldBy prog_5_method_23_code 6 (some (.int)) :: xq_W) rm_Nd_heldBy D vwCl (xt k) [.ref (ad_this 0), .int a1, .int a2] (w_Nd k ad_this z_this) (fun r : Int32 => some (.int r)) post (fun _ : Unit => False) (fun u : Unit => w_Nd k ad_this z_this) 0 0 0 0 := by
  refine xq_ofW (cc := prog_5_method_23_code) (maxL := 6) (ret := (some (.int))) (by decide) rfl (Nat.le_of_ble_eq_true rfl) ?_
  intro p e s m below meth c ls H locs A hAt hAe hA hl hK hJ hP0 hP hD hS
  obtain ⟨hx, hb, hml, hr, hlocks, hown, hts, hex, hnm⟩ := id hAt
  have hl : lv_has ls 6 [(0, .ref (ad_this 0)), (1, .int a1), (2, .int a2)] := hl
  unfold wp_Nd_heldBy at hw
  refine lv_iload_n hx hb d_Nd_heldBy_0 rfl (lv_at hl 1 rfl) ?_
  refine lv_iconst (v := (-1 : Int32)) hx hb d_Nd_heldBy_1 (by decide) ?_
  refine lv_icmp_ne (tgt := 12) hx hb d_Nd_heldBy_2 (by decide) (fun hc => ?_) (fun hc => ?_)
  · have hw := hw.2 hc
    refine lv_aload_n hx hb d_Nd_heldBy_12 rfl (lv_at hl 0 rfl) ?_
    refine lv_iload_n hx hb d_Nd_heldBy_13 rfl (lv_at hl 1 rfl) ?_
    refine xq_go (wr := ([] : va_W)) (stk := fun r => .int r :: []) (xq_runV (As := [.int a1]) (rest := []) ⟨hx, hb, hml, hown, hts⟩ (c_Nd_sizeOf (l := l) (o := o) (D := D) (k := k) (ad_this := ad_this) hw) (cw_Nd_sizeOf hts kw3_195 ⟨Nat.le_of_ble_eq_true rfl, Nat.le_of_ble_eq_true rfl⟩) (va_recv hK hP (ci := 4) (q0 := 0) rfl rfl) (hP.sub [0, 1, 2, 3, 4, 5, 6, 7, 8, 9, 10] rfl) hK hJ hS (va_free hD hS hA [0, 1, 2, 3, 4, 5, 6, 7, 8, 9, 10] rfl) ((hD.sub [0, 1, 2, 3, 4, 5, 6, 7, 8, 9, 10] (by decide) rfl).weaken (fun _ _ _ _ => trivial)) rfl hl.1 (Nat.le_of_ble_eq_true rfl) d_Nd_heldBy_14 ⟨Nat.le_of_ble_eq_true rfl, Nat.le_of_ble_eq_true rfl⟩) hP hD hS hA [0, 1, 2, 3, 4, 5, 6, 7, 8, 9, 10] [] rfl rfl (by decide) (by decide) (fun _ => rfl) (fun r1 u1 H locs hw hP hD hS => ?_) (fun _ _ _ _ h9 => h9.elim)
    have hP : va_P D vwCl (w_Nd k ad_this z_this) H := hP.sub [0, 1, 2, 3, 4, 5, 6, 7, 8, 9, 10] rfl
    have hD : va_D A (w_Nd k ad_this z_this) := hD.sub [0, 1, 2, 3, 4, 5, 6, 7, 8, 9, 10] (by decide) rfl
    refine lv_istore_n (lv' := [(3, .int r1), (0, .ref (ad_this 0)), (1, .int a1), (2, .int a2)]) hx hb d_Nd_heldBy_17 rfl hl (by decide) rfl (fun ls hl => ?_)
    refine lv_iload_n hx hb d_Nd_heldBy_18 rfl (lv_at hl 3 rfl) ?_
    refine lv_if_lt (tgt := 27) hx hb d_Nd_heldBy_19 (by decide) (fun hc => ?_) (fun hc => ?_)
    · have hw := hw.1 hc
      refine lv_iconst (v := (-1 : Int32)) hx hb d_Nd_heldBy_27 (by decide) ?_
      exact xq_iret (r := (-1 : Int32)) (u := ()) hx hb hr hlocks hAe hP hD hS rfl hw (Nat.le_of_ble_eq_true rfl) (Nat.le_of_ble_eq_true rfl) d_Nd_heldBy_28
    · have hw := hw.2 hc
      refine lv_iload_n hx hb d_Nd_heldBy_22 rfl (lv_at hl 3 rfl) ?_
      refine lv_iload_n hx hb d_Nd_heldBy_23 rfl (lv_at hl 0 rfl) ?_
      refine lv_icmp_lt (tgt := 29) hx hb d_Nd_heldBy_24 (by decide) (fun hc => ?_) (fun hc => ?_)
      · have hw := hw.1 hc
        refine lv_aload_n hx hb d_Nd_heldBy_29 rfl (lv_at hl 1 rfl) ?_
        refine lv_iload_n hx hb d_Nd_heldBy_30 rfl (lv_at hl 2 rfl) ?_
        refine xq_go (wr := ([] : va_W)) (stk := fun r => .int r :: []) (xq_runV (As := [.int a1]) (rest := []) ⟨hx, hb, hml, hown, hts⟩ (c_Nd_firstOf (l := l) (o := o) (D := D) (k := k) (ad_this := ad_this) hw) (cw_Nd_firstOf hts kw3_199 ⟨Nat.le_of_ble_eq_true rfl, Nat.le_of_ble_eq_true rfl⟩) (va_recv hK hP (ci := 4) (q0 := 0) rfl rfl) (hP.sub [0, 1, 2, 3, 4, 5, 6, 7, 8, 9, 10] rfl) hK hJ hS (va_free hD hS hA [0, 1, 2, 3, 4, 5, 6, 7, 8, 9, 10] rfl) ((hD.sub [0, 1, 2, 3, 4, 5, 6, 7, 8, 9, 10] (by decide) rfl).weaken (fun _ _ _ _ => trivial)) rfl hl.1 (Nat.le_of_ble_eq_true rfl) d_Nd_heldBy_31 ⟨Nat.le_of_ble_eq_true rfl, Nat.le_of_ble_eq_true rfl⟩) hP hD hS hA [0, 1, 2, 3, 4, 5, 6, 7, 8, 9, 10] [] rfl rfl (by decide) (by decide) (fun _ => rfl) (fun r2 u2 H locs hw hP hD hS => ?_) (fun _ _ _ _ h9 => h9.elim)
        have hP : va_P D vwCl (w_Nd k ad_this z_this) H := hP.sub [0, 1, 2, 3, 4, 5, 6, 7, 8, 9, 10] rfl
        have hD : va_D A (w_Nd k ad_this z_this) := hD.sub [0, 1, 2, 3, 4, 5, 6, 7, 8, 9, 10] (by decide) rfl
        refine lv_istore (lv' := [(4, .int r2), (3, .int r1), (0, .ref (ad_this 0)), (1, .int a1), (2, .int a2)]) hx hb d_Nd_heldBy_34 hl (by decide) rfl (fun ls hl => ?_)
        refine lv_iconst (v := (0 : Int32)) hx hb d_Nd_heldBy_36 (by decide) ?_
        refine lv_istore (lv' := [(5, .int (0 : Int32)), (4, .int r2), (3, .int r1), (0, .ref (ad_this 0)), (1, .int a1), (2, .int a2)]) hx hb d_Nd_heldBy_37 hl (by decide) rfl (fun ls hl => ?_)
        obtain ⟨k9, hw⟩ := hw
        refine t_Nd_heldBy_L39 hAt hK hJ hAe hA ?_ k9 a1 a2 r1 r2 (0 : Int32) H locs ls (lv_sub hl [3, 4, 5, 2, 1, 0] rfl) hP hD hS hw
        intro x1 x2 x3 x4 x5 H locs ls hl hP hD hS hw
        refine lv_iload hx hb d_Nd_heldBy_59 (lv_at hl 4 rfl) ?_
        exact xq_iret (r := x4) (u := ()) hx hb hr hlocks hAe hP hD hS rfl hw (Nat.le_of_ble_eq_true rfl) (Nat.le_of_ble_eq_true rfl) d_Nd_heldBy_61
      · have hw := hw.2 hc
        refine lv_iconst (v := (-1 : Int32)) hx hb d_Nd_heldBy_27 (by decide) ?_
        exact xq_iret (r := (-1 : Int32)) (u := ()) hx hb hr hlocks hAe hP hD hS rfl hw (Nat.le_of_ble_eq_true rfl) (Nat.le_of_ble_eq_true rfl) d_Nd_heldBy_28
  · have hw := hw.1 hc
    refine lv_aload_n hx hb d_Nd_heldBy_5 rfl (lv_at hl 0 rfl) ?_
    refine va_get (D := D) (ci := 4) (v := .int z_this.2.2.2.2.2.2.2.2.2.2.2.2.1) (C := R_Nd) (T := F_Nd) (N := 14) hx hb hts in_Nd hown hK hP 0 rfl rfl 12 (by decide) (hts (.fieldLink R_Nd 51 R_Nd "outerSize" "I") kw1_195) (fun _ h9 => h9) rfl d_Nd_heldBy_6 ?_
    refine lv_goto (tgt := 17) hx hb d_Nd_heldBy_9 (by decide) ?_
    refine lv_istore_n (lv' := [(3, .int z_this.2.2.2.2.2.2.2.2.2.2.2.2.1), (0, .ref (ad_this 0)), (1, .int a1), (2, .int a2)]) hx hb d_Nd_heldBy_17 rfl hl (by decide) rfl (fun ls hl => ?_)
    refine lv_iload_n hx hb d_Nd_heldBy_18 rfl (lv_at hl 3 rfl) ?_
    refine lv_if_lt (tgt := 27) hx hb d_Nd_heldBy_19 (by decide) (fun hc => ?_) (fun hc => ?_)
    · have hw := hw.1 hc
      refine lv_iconst (v := (-1 : Int32)) hx hb d_Nd_heldBy_27 (by decide) ?_
      exact xq_iret (r := (-1 : Int32)) (u := ()) hx hb hr hlocks hAe hP hD hS rfl hw (Nat.le_of_ble_eq_true rfl) (Nat.le_of_ble_eq_true rfl) d_Nd_heldBy_28
    · have hw := hw.2 hc
      refine lv_iload_n hx hb d_Nd_heldBy_22 rfl (lv_at hl 3 rfl) ?_
      refine lv_iload_n hx hb d_Nd_heldBy_23 rfl (lv_at hl 0 rfl) ?_
      refine lv_icmp_lt (tgt := 29) hx hb d_Nd_heldBy_24 (by decide) (fun hc => ?_) (fun hc => ?_)
      · have hw := hw.1 hc
        refine lv_aload_n hx hb d_Nd_heldBy_29 rfl (lv_at hl 1 rfl) ?_
        refine lv_iload_n hx hb d_Nd_heldBy_30 rfl (lv_at hl 2 rfl) ?_
        refine xq_go (wr := ([] : va_W)) (stk := fun r => .int r :: []) (xq_runV (As := [.int a1]) (rest := []) ⟨hx, hb, hml, hown, hts⟩ (c_Nd_firstOf (l := l) (o := o) (D := D) (k := k) (ad_this := ad_this) hw) (cw_Nd_firstOf hts kw3_199 ⟨Nat.le_of_ble_eq_true rfl, Nat.le_of_ble_eq_true rfl⟩) (va_recv hK hP (ci := 4) (q0 := 0) rfl rfl) (hP.sub [0, 1, 2, 3, 4, 5, 6, 7, 8, 9, 10] rfl) hK hJ hS (va_free hD hS hA [0, 1, 2, 3, 4, 5, 6, 7, 8, 9, 10] rfl) ((hD.sub [0, 1, 2, 3, 4, 5, 6, 7, 8, 9, 10] (by decide) rfl).weaken (fun _ _ _ _ => trivial)) rfl hl.1 (Nat.le_of_ble_eq_true rfl) d_Nd_heldBy_31 ⟨Nat.le_of_ble_eq_true rfl, Nat.le_of_ble_eq_true rfl⟩) hP hD hS hA [0, 1, 2, 3, 4, 5, 6, 7, 8, 9, 10] [] rfl rfl (by decide) (by decide) (fun _ => rfl) (fun r4 u4 H locs hw hP hD hS => ?_) (fun _ _ _ _ h9 => h9.elim)
        have hP : va_P D vwCl (w_Nd k ad_this z_this) H := hP.sub [0, 1, 2, 3, 4, 5, 6, 7, 8, 9, 10] rfl
        have hD : va_D A (w_Nd k ad_this z_this) := hD.sub [0, 1, 2, 3, 4, 5, 6, 7, 8, 9, 10] (by decide) rfl
        refine lv_istore (lv' := [(4, .int r4), (3, .int z_this.2.2.2.2.2.2.2.2.2.2.2.2.1), (0, .ref (ad_this 0)), (1, .int a1), (2, .int a2)]) hx hb d_Nd_heldBy_34 hl (by decide) rfl (fun ls hl => ?_)
        refine lv_iconst (v := (0 : Int32)) hx hb d_Nd_heldBy_36 (by decide) ?_
        refine lv_istore (lv' := [(5, .int (0 : Int32)), (4, .int r4), (3, .int z_this.2.2.2.2.2.2.2.2.2.2.2.2.1), (0, .ref (ad_this 0)), (1, .int a1), (2, .int a2)]) hx hb d_Nd_heldBy_37 hl (by decide) rfl (fun ls hl => ?_)
        obtain ⟨k9, hw⟩ := hw
        refine t_Nd_heldBy_L39 hAt hK hJ hAe hA ?_ k9 a1 a2 z_this.2.2.2.2.2.2.2.2.2.2.2.2.1 r4 (0 : Int32) H locs ls (lv_sub hl [3, 4, 5, 2, 1, 0] rfl) hP hD hS hw
        intro x1 x2 x3 x4 x5 H locs ls hl hP hD hS hw
        refine lv_iload hx hb d_Nd_heldBy_59 (lv_at hl 4 rfl) ?_
        exact xq_iret (r := x4) (u := ()) hx hb hr hlocks hAe hP hD hS rfl hw (Nat.le_of_ble_eq_true rfl) (Nat.le_of_ble_eq_true rfl) d_Nd_heldBy_61
      · have hw := hw.2 hc
        refine lv_iconst (v := (-1 : Int32)) hx hb d_Nd_heldBy_27 (by decide) ?_
        exact xq_iret (r := (-1 : Int32)) (u := ()) hx hb hr hlocks hAe hP hD hS rfl hw (Nat.le_of_ble_eq_true rfl) (Nat.le_of_ble_eq_true rfl) d_Nd_heldBy_28
theorem cw_Nd_heldBy {R : Room} {s : State} {args : Array Value} {own : String} {index : Nat} (hts : ∀ w ∈ xq_W, w.before args s = true) (hl : .methodLink own index y_Nd_heldBy ∈ xq_W) {rm : Room} (hR : rm.frames + 1 ≤ R.frames ∧ 8 + (6 + 11) + rm.locals ≤ R.locals) : CallW R s args own "StepText$Nodes" index y_Nd_heldBy prog_5_method_23_code 6 (some (.int)) (.code y_Nd_heldBy prog_5_method_23_code 6 (some (.int)) :: xq_W) rm rm.cells rm.slots 2 := ⟨xq_cb 2 hts kw3_194 kw1_10 hl ⟨by decide, by decide, by decide +kernel⟩ hR, hts _ kw3_192, hts _ kw3_193⟩
def y_Nd_blockOf : MethodName := ⟨"StepText$Nodes", "blockOf", "(II)I"⟩
theorem d_Nd_blockOf_0 : decode prog_5_method_24_code 0 = .ok (.iload_n 2, 1) := by decide +kernel
theorem d_Nd_blockOf_1 : decode prog_5_method_24_code 1 = .ok (.istore_n 3, 1) := by decide +kernel
theorem d_Nd_blockOf_2 : decode prog_5_method_24_code 2 = .ok (.aload_n 0, 1) := by decide +kernel
theorem d_Nd_blockOf_3 : decode prog_5_method_24_code 3 = .ok (.iload_n 1, 1) := by decide +kernel
theorem d_Nd_blockOf_4 : decode prog_5_method_24_code 4 = .ok (.invokevirtual 65, 3) := by decide +kernel
theorem d_Nd_blockOf_7 : decode prog_5_method_24_code 7 = .ok (.ifCond .eq 12, 3) := by decide +kernel
theorem d_Nd_blockOf_10 : decode prog_5_method_24_code 10 = .ok (.aload_n 0, 1) := by decide +kernel
theorem d_Nd_blockOf_11 : decode prog_5_method_24_code 11 = .ok (.getfield 34, 3) := by decide +kernel
theorem d_Nd_blockOf_14 : decode prog_5_method_24_code 14 = .ok (.iload_n 1, 1) := by decide +kernel
theorem d_Nd_blockOf_15 : decode prog_5_method_24_code 15 = .ok (.iaload, 1) := by decide +kernel
theorem d_Nd_blockOf_16 : decode prog_5_method_24_code 16 = .ok (.goto 4, 3) := by decide +kernel
theorem d_Nd_blockOf_19 : decode prog_5_method_24_code 19 = .ok (.iconst (-1), 1) := by decide +kernel
theorem d_Nd_blockOf_20 : decode prog_5_method_24_code 20 = .ok (.istore 4, 2) := by decide +kernel
theorem d_Nd_blockOf_22 : decode prog_5_method_24_code 22 = .ok (.iconst 0, 1) := by decide +kernel
theorem d_Nd_blockOf_23 : decode prog_5_method_24_code 23 = .ok (.istore 5, 2) := by decide +kernel
theorem d_Nd_blockOf_25 : decode prog_5_method_24_code 25 = .ok (.iload 5, 2) := by decide +kernel
theorem d_Nd_blockOf_27 : decode prog_5_method_24_code 27 = .ok (.sipush 1070, 3) := by decide +kernel
theorem d_Nd_blockOf_30 : decode prog_5_method_24_code 30 = .ok (.if_icmp .ge 49, 3) := by decide +kernel
theorem d_Nd_blockOf_33 : decode prog_5_method_24_code 33 = .ok (.aload_n 0, 1) := by decide +kernel
theorem d_Nd_blockOf_34 : decode prog_5_method_24_code 34 = .ok (.iload 4, 2) := by decide +kernel
theorem d_Nd_blockOf_36 : decode prog_5_method_24_code 36 = .ok (.invokevirtual 65, 3) := by decide +kernel
theorem d_Nd_blockOf_39 : decode prog_5_method_24_code 39 = .ok (.ifCond .eq 40, 3) := by decide +kernel
theorem d_Nd_blockOf_42 : decode prog_5_method_24_code 42 = .ok (.aload_n 0, 1) := by decide +kernel
theorem d_Nd_blockOf_43 : decode prog_5_method_24_code 43 = .ok (.getfield 11, 3) := by decide +kernel
theorem d_Nd_blockOf_46 : decode prog_5_method_24_code 46 = .ok (.iload 4, 2) := by decide +kernel
theorem d_Nd_blockOf_48 : decode prog_5_method_24_code 48 = .ok (.iaload, 1) := by decide +kernel
theorem d_Nd_blockOf_49 : decode prog_5_method_24_code 49 = .ok (.bipush 23, 2) := by decide +kernel
theorem d_Nd_blockOf_51 : decode prog_5_method_24_code 51 = .ok (.if_icmp .ne 13, 3) := by decide +kernel
theorem d_Nd_blockOf_54 : decode prog_5_method_24_code 54 = .ok (.iload_n 3, 1) := by decide +kernel
theorem d_Nd_blockOf_55 : decode prog_5_method_24_code 55 = .ok (.ifCond .ne 6, 3) := by decide +kernel
theorem d_Nd_blockOf_58 : decode prog_5_method_24_code 58 = .ok (.iload 4, 2) := by decide +kernel
theorem d_Nd_blockOf_60 : decode prog_5_method_24_code 60 = .ok (.ireturn, 1) := by decide +kernel
theorem d_Nd_blockOf_61 : decode prog_5_method_24_code 61 = .ok (.iinc 3 (-1), 3) := by decide +kernel
theorem d_Nd_blockOf_64 : decode prog_5_method_24_code 64 = .ok (.aload_n 0, 1) := by decide +kernel
theorem d_Nd_blockOf_65 : decode prog_5_method_24_code 65 = .ok (.getfield 37, 3) := by decide +kernel
theorem d_Nd_blockOf_68 : decode prog_5_method_24_code 68 = .ok (.iload 4, 2) := by decide +kernel
theorem d_Nd_blockOf_70 : decode prog_5_method_24_code 70 = .ok (.iaload, 1) := by decide +kernel
theorem d_Nd_blockOf_71 : decode prog_5_method_24_code 71 = .ok (.istore 4, 2) := by decide +kernel
theorem d_Nd_blockOf_73 : decode prog_5_method_24_code 73 = .ok (.iinc 5 1, 3) := by decide +kernel
theorem d_Nd_blockOf_76 : decode prog_5_method_24_code 76 = .ok (.goto (-51), 3) := by decide +kernel
theorem d_Nd_blockOf_79 : decode prog_5_method_24_code 79 = .ok (.iconst (-1), 1) := by decide +kernel
theorem d_Nd_blockOf_80 : decode prog_5_method_24_code 80 = .ok (.ireturn, 1) := by decide +kernel
def wp_Nd_blockOf_L25 (z_this : T_Nd) (K : Int32 → Int32 → Int32 → Int32 → Int32 → Prop) (post : Int32 → Unit → Prop) : Nat → Int32 → Int32 → Int32 → Int32 → Int32 → Prop
  | 0, _, _, _, _, _ => False
  | n9 + 1, x1, x2, x3, x4, x5 => ((1070 : Int32) ≤ x5 → (K x1 x2 x3 x4 x5)) ∧ (¬ (1070 : Int32) ≤ x5 → (wp_Nd_has z_this x4 (fun (r2 : Int32) (u2 : Unit) => (r2 = 0 → (K x1 x2 x3 x4 x5)) ∧ (¬ r2 = 0 → (vp_in x4 1070 ∧ (((z_this.1 (x4).toNatClampNeg) = (23 : Int32) → ((x3 = 0 → (post x4 ())) ∧ (¬ x3 = 0 → (vp_in x4 1070 ∧ (wp_Nd_blockOf_L25 z_this K post n9 x1 x2 (x3 + (-1 : Int32)) (z_this.2.2.2.2.2.2.2.2.1 (x4).toNatClampNeg) (x5 + (1 : Int32))))))) ∧ (¬ (z_this.1 (x4).toNatClampNeg) = (23 : Int32) → (vp_in x4 1070 ∧ (wp_Nd_blockOf_L25 z_this K post n9 x1 x2 x3 (z_this.2.2.2.2.2.2.2.2.1 (x4).toNatClampNeg) (x5 + (1 : Int32)))))))))))
def wp_Nd_blockOf (z_this : T_Nd) (a1 : Int32) (a2 : Int32) (post : Int32 → Unit → Prop) : Prop := wp_Nd_has z_this a1 (fun (r1 : Int32) (u1 : Unit) => (r1 = 0 → (∃ k9 : Nat, wp_Nd_blockOf_L25 z_this (fun (x1 : Int32) (x2 : Int32) (x3 : Int32) (x4 : Int32) (x5 : Int32) => post (-1 : Int32) ()) post k9 a1 a2 a2 (-1 : Int32) (0 : Int32))) ∧ (¬ r1 = 0 → (vp_in a1 1070 ∧ (∃ k9 : Nat, wp_Nd_blockOf_L25 z_this (fun (x1 : Int32) (x2 : Int32) (x3 : Int32) (x4 : Int32) (x5 : Int32) => post (-1 : Int32) ()) post k9 a1 a2 a2 (z_this.2.2.2.2.2.2.2.1 (a1).toNatClampNeg) (0 : Int32)))))
def rm_Nd_blockOf : Room := { frames := 1, cells := 0, slots := 0, locals := 21 }
set_option maxHeartbeats 4000000 in
set_option maxRecDepth 100000 in
theorem t_Nd_blockOf_L25 {p : Program} {l : Launch} {o : State × Array Value} {e : Env} {s : State} {m : MethodId} {args : Array Value} {below : List Frame} {meth : Method} {c : Code} {D : va_G} {k : Nat → ClassId} {w0 : va_W} {A : Nat → Prop} {ad_this : Nat → Nat} {z_this : T_Nd} {post : Int32 → Unit → Prop} (hAt : xq_At p s m args meth c prog_5_method_24_code 6 (some (.int)) y_Nd_blockOf xq_W) (hK : va_K D vwCl (xt k) s) (hJ : xq_J l o A s s.heap) (hAe : va_A w0 s.heap.size = A) (hA : ∀ q, s.heap.size ≤ q → A q) {K : Int32 → Int32 → Int32 → Int32 → Int32 → Prop} (hX : ∀ (x1 : Int32) (x2 : Int32) (x3 : Int32) (x4 : Int32) (x5 : Int32) (H : Heap) (locs : List Loc) (ls : Array Slot), lv_has ls 6 [(0, .ref (ad_this 0)), (1, .int x1), (2, .int x2), (3, .int x3), (4, .int x4), (5, .int x5)] → va_P D vwCl (w_Nd k ad_this z_this) H → va_D A (w_Nd k ad_this z_this) → va_S A s.heap H locs → K x1 x2 x3 x4 x5 → W p l e rm_Nd_blockOf s m args below meth c H locs 0 0 (xq_Z below D vwCl (xt k) w0 (fun r : Int32 => some (.int r)) post (fun _ : Unit => False) (fun u : Unit => w_Nd k ad_this z_this) 0 0 0 0 s) (F0 m 79 ls [])) :
    ∀ (n9 : Nat) (x1 : Int32) (x2 : Int32) (x3 : Int32) (x4 : Int32) (x5 : Int32) (H : Heap) (locs : List Loc) (ls : Array Slot), lv_has ls 6 [(0, .ref (ad_this 0)), (1, .int x1), (2, .int x2), (3, .int x3), (4, .int x4), (5, .int x5)] → va_P D vwCl (w_Nd k ad_this z_this) H → va_D A (w_Nd k ad_this z_this) → va_S A s.heap H locs → wp_Nd_blockOf_L25 z_this K post n9 x1 x2 x3 x4 x5 → W p l e rm_Nd_blockOf s m args below meth c H locs 0 0 (xq_Z below D vwCl (xt k) w0 (fun r : Int32 => some (.int r)) post (fun _ : Unit => False) (fun u : Unit => w_Nd k ad_this z_this) 0 0 0 0 s) (F0 m 25 ls []) := by
  obtain ⟨hx, hb, hml, hr, hlocks, hown, hts, hex, hnm⟩ := id hAt
  intro n9
  induction n9 with
  | zero => intro x1 x2 x3 x4 x5 H locs ls hl hP hD hS hw; exact False.elim (by rw [wp_Nd_blockOf_L25] at hw; exact hw)
  | succ n9 ih =>
    intro x1 x2 x3 x4 x5 H locs ls hl hP hD hS hw
    rw [wp_Nd_blockOf_L25] at hw
    refine lv_iload hx hb d_Nd_blockOf_25 (lv_at hl 5 rfl) ?_
    refine lv_sipush (v := (1070 : Int32)) hx hb d_Nd_blockOf_27 (by decide) ?_
    refine lv_icmp_ge (tgt := 79) hx hb d_Nd_blockOf_30 (by decide) (fun hc => ?_) (fun hc => ?_)
    · have hw := hw.1 hc
      exact hX x1 x2 x3 x4 x5 H locs ls (lv_sub hl [0, 1, 2, 3, 4, 5] rfl) hP hD hS hw
    · have hw := hw.2 hc
      refine lv_aload_n hx hb d_Nd_blockOf_33 rfl (lv_at hl 0 rfl) ?_
      refine lv_iload hx hb d_Nd_blockOf_34 (lv_at hl 4 rfl) ?_
      refine xq_go (wr := ([] : va_W)) (stk := fun r => .int r :: []) (xq_runV (As := [.int x4]) (rest := []) ⟨hx, hb, hml, hown, hts⟩ (c_Nd_has (l := l) (o := o) (D := D) (k := k) (ad_this := ad_this) hw) (cw_Nd_has hts kw3_83 ⟨Nat.le_of_ble_eq_true rfl, Nat.le_of_ble_eq_true rfl⟩) (va_recv hK hP (ci := 4) (q0 := 0) rfl rfl) (hP.sub [0, 1, 2, 3, 4, 5, 6, 7, 8, 9, 10] rfl) hK hJ hS (va_free hD hS hA [0, 1, 2, 3, 4, 5, 6, 7, 8, 9, 10] rfl) ((hD.sub [0, 1, 2, 3, 4, 5, 6, 7, 8, 9, 10] (by decide) rfl).weaken (fun _ _ _ _ => trivial)) rfl hl.1 (Nat.le_of_ble_eq_true rfl) d_Nd_blockOf_36 ⟨Nat.le_of_ble_eq_true rfl, Nat.le_of_ble_eq_true rfl⟩) hP hD hS hA [0, 1, 2, 3, 4, 5, 6, 7, 8, 9, 10] [] rfl rfl (by decide) (by decide) (fun _ => rfl) (fun r2 u2 H locs hw hP hD hS => ?_) (fun _ _ _ _ h9 => h9.elim)
      have hP : va_P D vwCl (w_Nd k ad_this z_this) H := hP.sub [0, 1, 2, 3, 4, 5, 6, 7, 8, 9, 10] rfl
      have hD : va_D A (w_Nd k ad_this z_this) := hD.sub [0, 1, 2, 3, 4, 5, 6, 7, 8, 9, 10] (by decide) rfl
      refine lv_if_eq (tgt := 79) hx hb d_Nd_blockOf_39 (by decide) (fun hc => ?_) (fun hc => ?_)
      · have hw := hw.1 hc
        exact hX x1 x2 x3 x4 x5 H locs ls (lv_sub hl [0, 1, 2, 3, 4, 5] rfl) hP hD hS hw
      · have hw := hw.2 hc
        refine lv_aload_n hx hb d_Nd_blockOf_42 rfl (lv_at hl 0 rfl) ?_
        refine va_get (D := D) (ci := 4) (v := .ref (ad_this 1)) (C := R_Nd) (T := F_Nd) (N := 14) hx hb hts in_Nd hown hK hP 0 rfl rfl 0 (by decide) (hts (.fieldLink R_Nd 11 R_Nd "kinds" "[I") kw1_183) (fun _ h9 => h9) rfl d_Nd_blockOf_43 ?_
        refine lv_iload hx hb d_Nd_blockOf_46 (lv_at hl 4 rfl) ?_
        refine va_iald hx hb hK hP 1 0 rfl rfl hw.1 d_Nd_blockOf_48 ?_
        have hw := hw.2
        refine lv_bipush (v := (23 : Int32)) hx hb d_Nd_blockOf_49 (by decide) ?_
        refine lv_icmp_ne (tgt := 64) hx hb d_Nd_blockOf_51 (by decide) (fun hc => ?_) (fun hc => ?_)
        · have hw := hw.2 hc
          refine lv_aload_n hx hb d_Nd_blockOf_64 rfl (lv_at hl 0 rfl) ?_
          refine va_get (D := D) (ci := 4) (v := .ref (ad_this 9)) (C := R_Nd) (T := F_Nd) (N := 14) hx hb hts in_Nd hown hK hP 0 rfl rfl 8 (by decide) (hts (.fieldLink R_Nd 37 R_Nd "nexts" "[I") kw1_191) (fun _ h9 => h9) rfl d_Nd_blockOf_65 ?_
          refine lv_iload hx hb d_Nd_blockOf_68 (lv_at hl 4 rfl) ?_
          refine va_iald hx hb hK hP 9 0 rfl rfl hw.1 d_Nd_blockOf_70 ?_
          have hw := hw.2
          refine lv_istore (lv' := [(4, .int (z_this.2.2.2.2.2.2.2.2.1 (x4).toNatClampNeg)), (0, .ref (ad_this 0)), (1, .int x1), (2, .int x2), (3, .int x3), (5, .int x5)]) hx hb d_Nd_blockOf_71 hl (by decide) rfl (fun ls hl => ?_)
          refine lv_iinc (v := (x5 + (1 : Int32))) (lv' := [(5, .int (x5 + (1 : Int32))), (4, .int (z_this.2.2.2.2.2.2.2.2.1 (x4).toNatClampNeg)), (0, .ref (ad_this 0)), (1, .int x1), (2, .int x2), (3, .int x3)]) hx hb d_Nd_blockOf_73 hl (k := 5) rfl rfl (by decide) rfl (fun ls hl => ?_)
          refine lv_goto (tgt := 25) hx hb d_Nd_blockOf_76 (by decide) ?_
          exact ih x1 x2 x3 (z_this.2.2.2.2.2.2.2.2.1 (x4).toNatClampNeg) (x5 + (1 : Int32)) H locs ls (lv_sub hl [2, 3, 4, 5, 1, 0] rfl) hP hD hS hw
        · have hw := hw.1 hc
          refine lv_iload_n hx hb d_Nd_blockOf_54 rfl (lv_at hl 3 rfl) ?_
          refine lv_if_ne (tgt := 61) hx hb d_Nd_blockOf_55 (by decide) (fun hc => ?_) (fun hc => ?_)
          · have hw := hw.2 hc
            refine lv_iinc (v := (x3 + (-1 : Int32))) (lv' := [(3, .int (x3 + (-1 : Int32))), (0, .ref (ad_this 0)), (1, .int x1), (2, .int x2), (4, .int x4), (5, .int x5)]) hx hb d_Nd_blockOf_61 hl (k := 3) rfl rfl (by decide) rfl (fun ls hl => ?_)
            refine lv_aload_n hx hb d_Nd_blockOf_64 rfl (lv_at hl 1 rfl) ?_
            refine va_get (D := D) (ci := 4) (v := .ref (ad_this 9)) (C := R_Nd) (T := F_Nd) (N := 14) hx hb hts in_Nd hown hK hP 0 rfl rfl 8 (by decide) (hts (.fieldLink R_Nd 37 R_Nd "nexts" "[I") kw1_191) (fun _ h9 => h9) rfl d_Nd_blockOf_65 ?_
            refine lv_iload hx hb d_Nd_blockOf_68 (lv_at hl 4 rfl) ?_
            refine va_iald hx hb hK hP 9 0 rfl rfl hw.1 d_Nd_blockOf_70 ?_
            have hw := hw.2
            refine lv_istore (lv' := [(4, .int (z_this.2.2.2.2.2.2.2.2.1 (x4).toNatClampNeg)), (3, .int (x3 + (-1 : Int32))), (0, .ref (ad_this 0)), (1, .int x1), (2, .int x2), (5, .int x5)]) hx hb d_Nd_blockOf_71 hl (by decide) rfl (fun ls hl => ?_)
            refine lv_iinc (v := (x5 + (1 : Int32))) (lv' := [(5, .int (x5 + (1 : Int32))), (4, .int (z_this.2.2.2.2.2.2.2.2.1 (x4).toNatClampNeg)), (3, .int (x3 + (-1 : Int32))), (0, .ref (ad_this 0)), (1, .int x1), (2, .int x2)]) hx hb d_Nd_blockOf_73 hl (k := 5) rfl rfl (by decide) rfl (fun ls hl => ?_)
            refine lv_goto (tgt := 25) hx hb d_Nd_blockOf_76 (by decide) ?_
            exact ih x1 x2 (x3 + (-1 : Int32)) (z_this.2.2.2.2.2.2.2.2.1 (x4).toNatClampNeg) (x5 + (1 : Int32)) H locs ls (lv_sub hl [3, 4, 5, 2, 1, 0] rfl) hP hD hS hw
          · have hw := hw.1 hc
            refine lv_iload hx hb d_Nd_blockOf_58 (lv_at hl 4 rfl) ?_
            exact xq_iret (r := x4) (u := ()) hx hb hr hlocks hAe hP hD hS rfl hw (Nat.le_of_ble_eq_true rfl) (Nat.le_of_ble_eq_true rfl) d_Nd_blockOf_60
set_option maxHeartbeats 4000000 in
set_option maxRecDepth 100000 in
theorem c_Nd_blockOf {l : Launch} {o : State × Array Value} {D : va_G} {k : Nat → ClassId} {ad_this : Nat → Nat} {z_this : T_Nd} {a1 : Int32} {a2 : Int32} {post : Int32 → Unit → Prop} (hw : wp_Nd_blockOf z_this a1 a2 post) : xq_C l o y_Nd_blockOf (.code y_Nd_blockOf prog_5_method_24_code 6 (some (.int)) :: xq_W) rm_Nd_blockOf D vwCl (xt k) [.ref (ad_this 0), .int a1, .int a2] (w_Nd k ad_this z_this) (fun r : Int32 => some (.int r)) post (fun _ : Unit => False) (fun u : Unit => w_Nd k ad_this z_this) 0 0 0 0 := by
  refine xq_ofW (cc := prog_5_method_24_code) (maxL := 6) (ret := (some (.int))) (by decide) rfl (Nat.le_of_ble_eq_true rfl) ?_
  intro p e s m below meth c ls H locs A hAt hAe hA hl hK hJ hP0 hP hD hS
  obtain ⟨hx, hb, hml, hr, hlocks, hown, hts, hex, hnm⟩ := id hAt
  have hl : lv_has ls 6 [(0, .ref (ad_this 0)), (1, .int a1), (2, .int a2)] := hl
  unfold wp_Nd_blockOf at hw
  refine lv_iload_n hx hb d_Nd_blockOf_0 rfl (lv_at hl 2 rfl) ?_
  refine lv_istore_n (lv' := [(3, .int a2), (0, .ref (ad_this 0)), (1, .int a1), (2, .int a2)]) hx hb d_Nd_blockOf_1 rfl hl (by decide) rfl (fun ls hl => ?_)
  refine lv_aload_n hx hb d_Nd_blockOf_2 rfl (lv_at hl 1 rfl) ?_
  refine lv_iload_n hx hb d_Nd_blockOf_3 rfl (lv_at hl 2 rfl) ?_
  refine xq_go (wr := ([] : va_W)) (stk := fun r => .int r :: []) (xq_runV (As := [.int a1]) (rest := []) ⟨hx, hb, hml, hown, hts⟩ (c_Nd_has (l := l) (o := o) (D := D) (k := k) (ad_this := ad_this) hw) (cw_Nd_has hts kw3_83 ⟨Nat.le_of_ble_eq_true rfl, Nat.le_of_ble_eq_true rfl⟩) (va_recv hK hP (ci := 4) (q0 := 0) rfl rfl) (hP.sub [0, 1, 2, 3, 4, 5, 6, 7, 8, 9, 10] rfl) hK hJ hS (va_free hD hS hA [0, 1, 2, 3, 4, 5, 6, 7, 8, 9, 10] rfl) ((hD.sub [0, 1, 2, 3, 4, 5, 6, 7, 8, 9, 10] (by decide) rfl).weaken (fun _ _ _ _ => trivial)) rfl hl.1 (Nat.le_of_ble_eq_true rfl) d_Nd_blockOf_4 ⟨Nat.le_of_ble_eq_true rfl, Nat.le_of_ble_eq_true rfl⟩) hP hD hS hA [0, 1, 2, 3, 4, 5, 6, 7, 8, 9, 10] [] rfl rfl (by decide) (by decide) (fun _ => rfl) (fun r1 u1 H locs hw hP hD hS => ?_) (fun _ _ _ _ h9 => h9.elim)
  have hP : va_P D vwCl (w_Nd k ad_this z_this) H := hP.sub [0, 1, 2, 3, 4, 5, 6, 7, 8, 9, 10] rfl
  have hD : va_D A (w_Nd k ad_this z_this) := hD.sub [0, 1, 2, 3, 4, 5, 6, 7, 8, 9, 10] (by decide) rfl
  refine lv_if_eq (tgt := 19) hx hb d_Nd_blockOf_7 (by decide) (fun hc => ?_) (fun hc => ?_)
  · have hw := hw.1 hc
    refine lv_iconst (v := (-1 : Int32)) hx hb d_Nd_blockOf_19 (by decide) ?_
    refine lv_istore (lv' := [(4, .int (-1 : Int32)), (3, .int a2), (0, .ref (ad_this 0)), (1, .int a1), (2, .int a2)]) hx hb d_Nd_blockOf_20 hl (by decide) rfl (fun ls hl => ?_)
    refine lv_iconst (v := (0 : Int32)) hx hb d_Nd_blockOf_22 (by decide) ?_
    refine lv_istore (lv' := [(5, .int (0 : Int32)), (4, .int (-1 : Int32)), (3, .int a2), (0, .ref (ad_this 0)), (1, .int a1), (2, .int a2)]) hx hb d_Nd_blockOf_23 hl (by decide) rfl (fun ls hl => ?_)
    obtain ⟨k9, hw⟩ := hw
    refine t_Nd_blockOf_L25 hAt hK hJ hAe hA ?_ k9 a1 a2 a2 (-1 : Int32) (0 : Int32) H locs ls (lv_sub hl [3, 4, 5, 2, 1, 0] rfl) hP hD hS hw
    intro x1 x2 x3 x4 x5 H locs ls hl hP hD hS hw
    refine lv_iconst (v := (-1 : Int32)) hx hb d_Nd_blockOf_79 (by decide) ?_
    exact xq_iret (r := (-1 : Int32)) (u := ()) hx hb hr hlocks hAe hP hD hS rfl hw (Nat.le_of_ble_eq_true rfl) (Nat.le_of_ble_eq_true rfl) d_Nd_blockOf_80
  · have hw := hw.2 hc
    refine lv_aload_n hx hb d_Nd_blockOf_10 rfl (lv_at hl 1 rfl) ?_
    refine va_get (D := D) (ci := 4) (v := .ref (ad_this 8)) (C := R_Nd) (T := F_Nd) (N := 14) hx hb hts in_Nd hown hK hP 0 rfl rfl 7 (by decide) (hts (.fieldLink R_Nd 34 R_Nd "firsts" "[I") kw1_190) (fun _ h9 => h9) rfl d_Nd_blockOf_11 ?_
    refine lv_iload_n hx hb d_Nd_blockOf_14 rfl (lv_at hl 2 rfl) ?_
    refine va_iald hx hb hK hP 8 0 rfl rfl hw.1 d_Nd_blockOf_15 ?_
    have hw := hw.2
    refine lv_goto (tgt := 20) hx hb d_Nd_blockOf_16 (by decide) ?_
    refine lv_istore (lv' := [(4, .int (z_this.2.2.2.2.2.2.2.1 (a1).toNatClampNeg)), (3, .int a2), (0, .ref (ad_this 0)), (1, .int a1), (2, .int a2)]) hx hb d_Nd_blockOf_20 hl (by decide) rfl (fun ls hl => ?_)
    refine lv_iconst (v := (0 : Int32)) hx hb d_Nd_blockOf_22 (by decide) ?_
    refine lv_istore (lv' := [(5, .int (0 : Int32)), (4, .int (z_this.2.2.2.2.2.2.2.1 (a1).toNatClampNeg)), (3, .int a2), (0, .ref (ad_this 0)), (1, .int a1), (2, .int a2)]) hx hb d_Nd_blockOf_23 hl (by decide) rfl (fun ls hl => ?_)
    obtain ⟨k9, hw⟩ := hw
    refine t_Nd_blockOf_L25 hAt hK hJ hAe hA ?_ k9 a1 a2 a2 (z_this.2.2.2.2.2.2.2.1 (a1).toNatClampNeg) (0 : Int32) H locs ls (lv_sub hl [3, 4, 5, 2, 1, 0] rfl) hP hD hS hw
    intro x1 x2 x3 x4 x5 H locs ls hl hP hD hS hw
    refine lv_iconst (v := (-1 : Int32)) hx hb d_Nd_blockOf_79 (by decide) ?_
    exact xq_iret (r := (-1 : Int32)) (u := ()) hx hb hr hlocks hAe hP hD hS rfl hw (Nat.le_of_ble_eq_true rfl) (Nat.le_of_ble_eq_true rfl) d_Nd_blockOf_80
theorem cw_Nd_blockOf {R : Room} {s : State} {args : Array Value} {own : String} {index : Nat} (hts : ∀ w ∈ xq_W, w.before args s = true) (hl : .methodLink own index y_Nd_blockOf ∈ xq_W) {rm : Room} (hR : rm.frames + 1 ≤ R.frames ∧ 8 + (6 + 11) + rm.locals ≤ R.locals) : CallW R s args own "StepText$Nodes" index y_Nd_blockOf prog_5_method_24_code 6 (some (.int)) (.code y_Nd_blockOf prog_5_method_24_code 6 (some (.int)) :: xq_W) rm rm.cells rm.slots 2 := ⟨xq_cb 2 hts kw4_20 kw1_10 hl ⟨by decide, by decide, by decide +kernel⟩ hR, hts _ kw4_18, hts _ kw4_19⟩
