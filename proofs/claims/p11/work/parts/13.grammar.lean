theorem kw2_10 : (Jvm.Cond.fieldLink "StepText$Grammar" (31 : Nat) "StepText$Grammar" "wrongPlace" "I") ∈ xq_W := xq_in tb_2 10 (by decide +kernel) rfl
theorem kw3_176 : (Jvm.Cond.code ({ cls := "StepText$Grammar", name := "wrongPlace", desc := "()I" } : Jvm.MethodName) prog_2_method_2_code (1 : Nat) (Option.some Jvm.ClassFile.FieldType.int)) ∈ xq_W := xq_in tb_3 176 (by decide +kernel) rfl
theorem kw3_174 : (Jvm.Cond.instanceMethod ({ cls := "StepText$Grammar", name := "wrongPlace", desc := "()I" } : Jvm.MethodName)) ∈ xq_W := xq_in tb_3 174 (by decide +kernel) rfl
theorem kw3_175 : (Jvm.Cond.selects "StepText$Grammar" ({ cls := "StepText$Grammar", name := "wrongPlace", desc := "()I" } : Jvm.MethodName) ({ cls := "StepText$Grammar", name := "wrongPlace", desc := "()I" } : Jvm.MethodName)) ∈ xq_W := xq_in tb_3 175 (by decide +kernel) rfl
theorem kw1_108 : (Jvm.Cond.fieldLink "StepText$Grammar" (44 : Nat) "StepText$Words" "code" "I") ∈ xq_W := xq_in tb_1 108 (by decide +kernel) rfl
theorem kw2_152 : (Jvm.Cond.code ({ cls := "StepText$Grammar", name := "isBetween", desc := "(II)Z" } : Jvm.MethodName) prog_2_method_5_code (3 : Nat) (Option.some Jvm.ClassFile.FieldType.boolean)) ∈ xq_W := xq_in tb_2 152 (by decide +kernel) rfl
theorem kw2_151 : (Jvm.Cond.instanceMethod ({ cls := "StepText$Grammar", name := "isBetween", desc := "(II)Z" } : Jvm.MethodName)) ∈ xq_W := xq_in tb_2 151 (by decide +kernel) rfl
theorem kp1_7 : Cond.selects "StepText$Grammar" (⟨"StepText$Grammar", "isBetween", "(II)Z"⟩ : MethodName) (⟨"StepText$Grammar", "isBetween", "(II)Z"⟩ : MethodName) ∈ xq_W := xq_inp tp_1 (y := (⟨"StepText$Grammar", "isBetween", "(II)Z"⟩ : MethodName)) (k := 4) 7 (by decide +kernel)
theorem kw2_169 : (Jvm.Cond.classLink "StepText$Grammar" (89 : Nat) "java/lang/IllegalArgumentException") ∈ xq_W := xq_in tb_2 169 (by decide +kernel) rfl
theorem kw1_17 : (Jvm.Cond.initialized "java/lang/IllegalArgumentException") ∈ xq_W := xq_in tb_1 17 (by decide +kernel) rfl
theorem kw2_168 : (Jvm.Cond.code ({ cls := "StepText$Grammar", name := "refuse", desc := "(I)V" } : Jvm.MethodName) prog_2_method_4_code (2 : Nat) (Option.none : Option Jvm.ClassFile.FieldType)) ∈ xq_W := xq_in tb_2 168 (by decide +kernel) rfl
theorem kw2_167 : (Jvm.Cond.instanceMethod ({ cls := "StepText$Grammar", name := "refuse", desc := "(I)V" } : Jvm.MethodName)) ∈ xq_W := xq_in tb_2 167 (by decide +kernel) rfl
theorem kp1_10 : Cond.selects "StepText$Grammar" (⟨"StepText$Grammar", "refuse", "(I)V"⟩ : MethodName) (⟨"StepText$Grammar", "refuse", "(I)V"⟩ : MethodName) ∈ xq_W := xq_inp tp_1 (y := (⟨"StepText$Grammar", "refuse", "(I)V"⟩ : MethodName)) (k := 4) 10 (by decide +kernel)
theorem kw2_161 : (Jvm.Cond.methodLink "StepText$Grammar" (92 : Nat) ({ cls := "StepText$Nodes", name := "isTooMany", desc := "()Z" } : Jvm.MethodName)) ∈ xq_W := xq_in tb_2 161 (by decide +kernel) rfl
theorem kw2_230 : (Jvm.Cond.methodLink "StepText$Grammar" (102 : Nat) ({ cls := "StepText$Words", name := "advance", desc := "()V" } : Jvm.MethodName)) ∈ xq_W := xq_in tb_2 230 (by decide +kernel) rfl
theorem kw1_111 : (Jvm.Cond.fieldLink "StepText$Grammar" (96 : Nat) "StepText$Words" "place" "I") ∈ xq_W := xq_in tb_1 111 (by decide +kernel) rfl
theorem kw2_165 : (Jvm.Cond.methodLink "StepText$Grammar" (99 : Nat) ({ cls := "StepText$Grammar", name := "refuse", desc := "(I)V" } : Jvm.MethodName)) ∈ xq_W := xq_in tb_2 165 (by decide +kernel) rfl
theorem kw2_160 : (Jvm.Cond.code ({ cls := "StepText$Grammar", name := "pass", desc := "()V" } : Jvm.MethodName) prog_2_method_6_code (1 : Nat) (Option.none : Option Jvm.ClassFile.FieldType)) ∈ xq_W := xq_in tb_2 160 (by decide +kernel) rfl
theorem kw2_159 : (Jvm.Cond.instanceMethod ({ cls := "StepText$Grammar", name := "pass", desc := "()V" } : Jvm.MethodName)) ∈ xq_W := xq_in tb_2 159 (by decide +kernel) rfl
theorem kp1_9 : Cond.selects "StepText$Grammar" (⟨"StepText$Grammar", "pass", "()V"⟩ : MethodName) (⟨"StepText$Grammar", "pass", "()V"⟩ : MethodName) ∈ xq_W := xq_inp tp_1 (y := (⟨"StepText$Grammar", "pass", "()V"⟩ : MethodName)) (k := 4) 9 (by decide +kernel)
theorem kw2_157 : (Jvm.Cond.methodLink "StepText$Grammar" (105 : Nat) ({ cls := "StepText$Grammar", name := "pass", desc := "()V" } : Jvm.MethodName)) ∈ xq_W := xq_in tb_2 157 (by decide +kernel) rfl
theorem kw1_115 : (Jvm.Cond.fieldLink "StepText$Grammar" (108 : Nat) "StepText$Words" "value" "J") ∈ xq_W := xq_in tb_1 115 (by decide +kernel) rfl
theorem kw2_231 : (Jvm.Cond.methodLink "StepText$Grammar" (112 : Nat) ({ cls := "StepText$Names", name := "canTell", desc := "(J)Z" } : Jvm.MethodName)) ∈ xq_W := xq_in tb_2 231 (by decide +kernel) rfl
theorem kw2_156 : (Jvm.Cond.code ({ cls := "StepText$Grammar", name := "readNewName", desc := "()J" } : Jvm.MethodName) prog_2_method_9_code (3 : Nat) (Option.some Jvm.ClassFile.FieldType.long)) ∈ xq_W := xq_in tb_2 156 (by decide +kernel) rfl
theorem kw2_155 : (Jvm.Cond.instanceMethod ({ cls := "StepText$Grammar", name := "readNewName", desc := "()J" } : Jvm.MethodName)) ∈ xq_W := xq_in tb_2 155 (by decide +kernel) rfl
theorem kp1_8 : Cond.selects "StepText$Grammar" (⟨"StepText$Grammar", "readNewName", "()J"⟩ : MethodName) (⟨"StepText$Grammar", "readNewName", "()J"⟩ : MethodName) ∈ xq_W := xq_inp tp_1 (y := (⟨"StepText$Grammar", "readNewName", "()J"⟩ : MethodName)) (k := 4) 8 (by decide +kernel)
theorem kw3_10 : (Jvm.Cond.code ({ cls := "StepText$Grammar", name := "refuseOneMore", desc := "(I)V" } : Jvm.MethodName) prog_2_method_8_code (2 : Nat) (Option.none : Option Jvm.ClassFile.FieldType)) ∈ xq_W := xq_in tb_3 10 (by decide +kernel) rfl
theorem kw3_9 : (Jvm.Cond.instanceMethod ({ cls := "StepText$Grammar", name := "refuseOneMore", desc := "(I)V" } : Jvm.MethodName)) ∈ xq_W := xq_in tb_3 9 (by decide +kernel) rfl
theorem kp1_13 : Cond.selects "StepText$Grammar" (⟨"StepText$Grammar", "refuseOneMore", "(I)V"⟩ : MethodName) (⟨"StepText$Grammar", "refuseOneMore", "(I)V"⟩ : MethodName) ∈ xq_W := xq_inp tp_1 (y := (⟨"StepText$Grammar", "refuseOneMore", "(I)V"⟩ : MethodName)) (k := 4) 13 (by decide +kernel)
theorem kw3_14 : (Jvm.Cond.code ({ cls := "StepText$Grammar", name := "take", desc := "(I)V" } : Jvm.MethodName) prog_2_method_7_code (2 : Nat) (Option.none : Option Jvm.ClassFile.FieldType)) ∈ xq_W := xq_in tb_3 14 (by decide +kernel) rfl
theorem kw3_13 : (Jvm.Cond.instanceMethod ({ cls := "StepText$Grammar", name := "take", desc := "(I)V" } : Jvm.MethodName)) ∈ xq_W := xq_in tb_3 13 (by decide +kernel) rfl
theorem kp1_14 : Cond.selects "StepText$Grammar" (⟨"StepText$Grammar", "take", "(I)V"⟩ : MethodName) (⟨"StepText$Grammar", "take", "(I)V"⟩ : MethodName) ∈ xq_W := xq_inp tp_1 (y := (⟨"StepText$Grammar", "take", "(I)V"⟩ : MethodName)) (k := 4) 14 (by decide +kernel)
theorem kw3_24 : (Jvm.Cond.methodLink "StepText$Grammar" (153 : Nat) ({ cls := "StepText$Names", name := "sortOf", desc := "(I)I" } : Jvm.MethodName)) ∈ xq_W := xq_in tb_3 24 (by decide +kernel) rfl
theorem kw3_23 : (Jvm.Cond.methodLink "StepText$Grammar" (149 : Nat) ({ cls := "StepText$Names", name := "find", desc := "(J)I" } : Jvm.MethodName)) ∈ xq_W := xq_in tb_3 23 (by decide +kernel) rfl
theorem kw3_22 : (Jvm.Cond.code ({ cls := "StepText$Grammar", name := "readName", desc := "(I)I" } : Jvm.MethodName) prog_2_method_15_code (3 : Nat) (Option.some Jvm.ClassFile.FieldType.int)) ∈ xq_W := xq_in tb_3 22 (by decide +kernel) rfl
theorem kw3_21 : (Jvm.Cond.instanceMethod ({ cls := "StepText$Grammar", name := "readName", desc := "(I)I" } : Jvm.MethodName)) ∈ xq_W := xq_in tb_3 21 (by decide +kernel) rfl
theorem kp2_0 : Cond.selects "StepText$Grammar" (⟨"StepText$Grammar", "readName", "(I)I"⟩ : MethodName) (⟨"StepText$Grammar", "readName", "(I)I"⟩ : MethodName) ∈ xq_W := xq_inp tp_2 (y := (⟨"StepText$Grammar", "readName", "(I)I"⟩ : MethodName)) (k := 4) 0 (by decide +kernel)
theorem kw2_149 : (Jvm.Cond.methodLink "StepText$Grammar" (40 : Nat) ({ cls := "StepText$Grammar", name := "isBetween", desc := "(II)Z" } : Jvm.MethodName)) ∈ xq_W := xq_in tb_2 149 (by decide +kernel) rfl
theorem kw3_63 : (Jvm.Cond.code ({ cls := "StepText$Grammar", name := "measureHere", desc := "()I" } : Jvm.MethodName) prog_2_method_11_code (1 : Nat) (Option.some Jvm.ClassFile.FieldType.int)) ∈ xq_W := xq_in tb_3 63 (by decide +kernel) rfl
theorem kw3_62 : (Jvm.Cond.instanceMethod ({ cls := "StepText$Grammar", name := "measureHere", desc := "()I" } : Jvm.MethodName)) ∈ xq_W := xq_in tb_3 62 (by decide +kernel) rfl
theorem kp2_6 : Cond.selects "StepText$Grammar" (⟨"StepText$Grammar", "measureHere", "()I"⟩ : MethodName) (⟨"StepText$Grammar", "measureHere", "()I"⟩ : MethodName) ∈ xq_W := xq_inp tp_2 (y := (⟨"StepText$Grammar", "measureHere", "()I"⟩ : MethodName)) (k := 4) 6 (by decide +kernel)
theorem kw1_112 : (Jvm.Cond.fieldLink "StepText$Grammar" (49 : Nat) "StepText$Words" "row" "I") ∈ xq_W := xq_in tb_1 112 (by decide +kernel) rfl
theorem kw3_60 : (Jvm.Cond.methodLink "StepText$Grammar" (116 : Nat) ({ cls := "StepText$Grammar", name := "measureHere", desc := "()I" } : Jvm.MethodName)) ∈ xq_W := xq_in tb_3 60 (by decide +kernel) rfl
theorem kw3_66 : (Jvm.Cond.constantLong "StepText$Grammar" (209 : Nat) (999999999999 : Int64)) ∈ xq_W := xq_in tb_3 66 (by decide +kernel) rfl
theorem kw2_239 : (Jvm.Cond.methodLink "StepText$Grammar" (56 : Nat) ({ cls := "StepText$Nodes", name := "count", desc := "()I" } : Jvm.MethodName)) ∈ xq_W := xq_in tb_2 239 (by decide +kernel) rfl
theorem kw3_67 : (Jvm.Cond.methodLink "StepText$Grammar" (69 : Nat) ({ cls := "StepText$Nodes", name := "add", desc := "(IIIJI)I" } : Jvm.MethodName)) ∈ xq_W := xq_in tb_3 67 (by decide +kernel) rfl
theorem kw3_65 : (Jvm.Cond.constantLong "StepText$Grammar" (207 : Nat) (3600 : Int64)) ∈ xq_W := xq_in tb_3 65 (by decide +kernel) rfl
theorem kw3_64 : (Jvm.Cond.constantLong "StepText$Grammar" (205 : Nat) (60 : Int64)) ∈ xq_W := xq_in tb_3 64 (by decide +kernel) rfl
theorem kw3_59 : (Jvm.Cond.code ({ cls := "StepText$Grammar", name := "readAmount", desc := "()I" } : Jvm.MethodName) prog_2_method_25_code (5 : Nat) (Option.some Jvm.ClassFile.FieldType.int)) ∈ xq_W := xq_in tb_3 59 (by decide +kernel) rfl
theorem kw3_58 : (Jvm.Cond.instanceMethod ({ cls := "StepText$Grammar", name := "readAmount", desc := "()I" } : Jvm.MethodName)) ∈ xq_W := xq_in tb_3 58 (by decide +kernel) rfl
theorem kp2_5 : Cond.selects "StepText$Grammar" (⟨"StepText$Grammar", "readAmount", "()I"⟩ : MethodName) (⟨"StepText$Grammar", "readAmount", "()I"⟩ : MethodName) ∈ xq_W := xq_inp tp_2 (y := (⟨"StepText$Grammar", "readAmount", "()I"⟩ : MethodName)) (k := 4) 5 (by decide +kernel)
theorem kw3_36 : (Jvm.Cond.methodLink "StepText$Grammar" (129 : Nat) ({ cls := "StepText$Names", name := "measureOf", desc := "(I)I" } : Jvm.MethodName)) ∈ xq_W := xq_in tb_3 36 (by decide +kernel) rfl
theorem kw3_32 : (Jvm.Cond.methodLink "StepText$Grammar" (126 : Nat) ({ cls := "StepText$Names", name := "use", desc := "(I)V" } : Jvm.MethodName)) ∈ xq_W := xq_in tb_3 32 (by decide +kernel) rfl
theorem kw3_90 : (Jvm.Cond.code ({ cls := "StepText$Grammar", name := "readMeasured", desc := "()I" } : Jvm.MethodName) prog_2_method_26_code (3 : Nat) (Option.some Jvm.ClassFile.FieldType.int)) ∈ xq_W := xq_in tb_3 90 (by decide +kernel) rfl
theorem kw3_89 : (Jvm.Cond.instanceMethod ({ cls := "StepText$Grammar", name := "readMeasured", desc := "()I" } : Jvm.MethodName)) ∈ xq_W := xq_in tb_3 89 (by decide +kernel) rfl
theorem kp2_9 : Cond.selects "StepText$Grammar" (⟨"StepText$Grammar", "readMeasured", "()I"⟩ : MethodName) (⟨"StepText$Grammar", "readMeasured", "()I"⟩ : MethodName) ∈ xq_W := xq_inp tp_2 (y := (⟨"StepText$Grammar", "readMeasured", "()I"⟩ : MethodName)) (k := 4) 9 (by decide +kernel)
theorem kw3_96 : (Jvm.Cond.methodLink "StepText$Grammar" (180 : Nat) ({ cls := "java/lang/String", name := "length", desc := "()I" } : Jvm.MethodName)) ∈ xq_W := xq_in tb_3 96 (by decide +kernel) rfl
theorem kw3_97 : (Jvm.Cond.methodLink "StepText$Grammar" (185 : Nat) ({ cls := "java/lang/String", name := "charAt", desc := "(I)C" } : Jvm.MethodName)) ∈ xq_W := xq_in tb_3 97 (by decide +kernel) rfl
theorem kw3_94 : (Jvm.Cond.code ({ cls := "StepText$Grammar", name := "operator", desc := "(II)I" } : Jvm.MethodName) prog_2_method_21_code (4 : Nat) (Option.some Jvm.ClassFile.FieldType.int)) ∈ xq_W := xq_in tb_3 94 (by decide +kernel) rfl
theorem kw3_93 : (Jvm.Cond.instanceMethod ({ cls := "StepText$Grammar", name := "operator", desc := "(II)I" } : Jvm.MethodName)) ∈ xq_W := xq_in tb_3 93 (by decide +kernel) rfl
theorem kp2_10 : Cond.selects "StepText$Grammar" (⟨"StepText$Grammar", "operator", "(II)I"⟩ : MethodName) (⟨"StepText$Grammar", "operator", "(II)I"⟩ : MethodName) ∈ xq_W := xq_inp tp_2 (y := (⟨"StepText$Grammar", "operator", "(II)I"⟩ : MethodName)) (k := 4) 10 (by decide +kernel)
theorem kw3_104 : (Jvm.Cond.code ({ cls := "StepText$Grammar", name := "joined", desc := "(III)I" } : Jvm.MethodName) prog_2_method_23_code (3 : Nat) (Option.some Jvm.ClassFile.FieldType.int)) ∈ xq_W := xq_in tb_3 104 (by decide +kernel) rfl
theorem kw3_103 : (Jvm.Cond.static ({ cls := "StepText$Grammar", name := "joined", desc := "(III)I" } : Jvm.MethodName)) ∈ xq_W := xq_in tb_3 103 (by decide +kernel) rfl
theorem kw3_79 : (Jvm.Cond.methodLink "StepText$Grammar" (163 : Nat) ({ cls := "StepText$Nodes", name := "measureOf", desc := "(I)I" } : Jvm.MethodName)) ∈ xq_W := xq_in tb_3 79 (by decide +kernel) rfl
theorem kw3_102 : (Jvm.Cond.methodLink "StepText$Grammar" (189 : Nat) ({ cls := "StepText$Grammar", name := "joined", desc := "(III)I" } : Jvm.MethodName)) ∈ xq_W := xq_in tb_3 102 (by decide +kernel) rfl
theorem kw3_105 : (Jvm.Cond.methodLink "StepText$Grammar" (193 : Nat) ({ cls := "StepText$Nodes", name := "lowOf", desc := "(I)I" } : Jvm.MethodName)) ∈ xq_W := xq_in tb_3 105 (by decide +kernel) rfl
theorem kw3_109 : (Jvm.Cond.methodLink "StepText$Grammar" (196 : Nat) ({ cls := "StepText$Nodes", name := "rowOf", desc := "(I)I" } : Jvm.MethodName)) ∈ xq_W := xq_in tb_3 109 (by decide +kernel) rfl
theorem kw3_101 : (Jvm.Cond.code ({ cls := "StepText$Grammar", name := "join", desc := "(IIII)I" } : Jvm.MethodName) prog_2_method_22_code (6 : Nat) (Option.some Jvm.ClassFile.FieldType.int)) ∈ xq_W := xq_in tb_3 101 (by decide +kernel) rfl
theorem kw3_100 : (Jvm.Cond.instanceMethod ({ cls := "StepText$Grammar", name := "join", desc := "(IIII)I" } : Jvm.MethodName)) ∈ xq_W := xq_in tb_3 100 (by decide +kernel) rfl
theorem kp2_11 : Cond.selects "StepText$Grammar" (⟨"StepText$Grammar", "join", "(IIII)I"⟩ : MethodName) (⟨"StepText$Grammar", "join", "(IIII)I"⟩ : MethodName) ∈ xq_W := xq_inp tp_2 (y := (⟨"StepText$Grammar", "join", "(IIII)I"⟩ : MethodName)) (k := 4) 11 (by decide +kernel)
theorem kw3_121 : (Jvm.Cond.constantLong "StepText$Grammar" (156 : Nat) (1000 : Int64)) ∈ xq_W := xq_in tb_3 121 (by decide +kernel) rfl
theorem kw3_122 : (Jvm.Cond.constantLong "StepText$Grammar" (158 : Nat) (64 : Int64)) ∈ xq_W := xq_in tb_3 122 (by decide +kernel) rfl
theorem kw3_120 : (Jvm.Cond.code ({ cls := "StepText$Grammar", name := "readAct", desc := "()I" } : Jvm.MethodName) prog_2_method_16_code (3 : Nat) (Option.some Jvm.ClassFile.FieldType.int)) ∈ xq_W := xq_in tb_3 120 (by decide +kernel) rfl
theorem kw3_119 : (Jvm.Cond.instanceMethod ({ cls := "StepText$Grammar", name := "readAct", desc := "()I" } : Jvm.MethodName)) ∈ xq_W := xq_in tb_3 119 (by decide +kernel) rfl
theorem kp2_13 : Cond.selects "StepText$Grammar" (⟨"StepText$Grammar", "readAct", "()I"⟩ : MethodName) (⟨"StepText$Grammar", "readAct", "()I"⟩ : MethodName) ∈ xq_W := xq_inp tp_2 (y := (⟨"StepText$Grammar", "readAct", "()I"⟩ : MethodName)) (k := 4) 13 (by decide +kernel)
theorem kw3_137 : (Jvm.Cond.code ({ cls := "StepText$Grammar", name := "readUnit", desc := "()I" } : Jvm.MethodName) prog_2_method_10_code (2 : Nat) (Option.some Jvm.ClassFile.FieldType.int)) ∈ xq_W := xq_in tb_3 137 (by decide +kernel) rfl
theorem kw3_136 : (Jvm.Cond.instanceMethod ({ cls := "StepText$Grammar", name := "readUnit", desc := "()I" } : Jvm.MethodName)) ∈ xq_W := xq_in tb_3 136 (by decide +kernel) rfl
theorem kp2_15 : Cond.selects "StepText$Grammar" (⟨"StepText$Grammar", "readUnit", "()I"⟩ : MethodName) (⟨"StepText$Grammar", "readUnit", "()I"⟩ : MethodName) ∈ xq_W := xq_inp tp_2 (y := (⟨"StepText$Grammar", "readUnit", "()I"⟩ : MethodName)) (k := 4) 15 (by decide +kernel)
def y_Gr_wrongPlace : MethodName := ⟨"StepText$Grammar", "wrongPlace", "()I"⟩
theorem d_Gr_wrongPlace_0 : decode prog_2_method_2_code 0 = .ok (.aload_n 0, 1) := by decide +kernel
theorem d_Gr_wrongPlace_1 : decode prog_2_method_2_code 1 = .ok (.getfield 31, 3) := by decide +kernel
theorem d_Gr_wrongPlace_4 : decode prog_2_method_2_code 4 = .ok (.ireturn, 1) := by decide +kernel
def wp_Gr_wrongPlace (z_this : T_Gr) (post : Int32 → Unit → Prop) : Prop := post z_this ()
def rm_Gr_wrongPlace : Room := { frames := 0, cells := 0, slots := 0, locals := 0 }
set_option maxHeartbeats 4000000 in
set_option maxRecDepth 100000 in
theorem c_Gr_wrongPlace {l : Launch} {o : State × Array Value} {D : va_G} {k : Nat → ClassId} {ad_this : Nat → Nat} {q_this_words : Nat} {q_this_names : Nat} {q_this_nodes : Nat} {z_this : T_Gr} {post : Int32 → Unit → Prop} (hw : wp_Gr_wrongPlace z_this post) : xq_C l o y_Gr_wrongPlace (.code y_Gr_wrongPlace prog_2_method_2_code 1 (some (.int)) :: xq_W) rm_Gr_wrongPlace D vwCl (xt k) [.ref (ad_this 0)] (w_Gr k ad_this q_this_words q_this_names q_this_nodes z_this) (fun r : Int32 => some (.int r)) post (fun _ : Unit => False) (fun u : Unit => w_Gr k ad_this q_this_words q_this_names q_this_nodes z_this) 0 0 0 0 := by
  refine xq_ofW (cc := prog_2_method_2_code) (maxL := 1) (ret := (some (.int))) (by decide) rfl (Nat.le_of_ble_eq_true rfl) ?_
  intro p e s m below meth c ls H locs A hAt hAe hA hl hK hJ hP0 hP hD hS
  obtain ⟨hx, hb, hml, hr, hlocks, hown, hts, hex, hnm⟩ := id hAt
  have hl : lv_has ls 1 [(0, .ref (ad_this 0))] := hl
  unfold wp_Gr_wrongPlace at hw
  refine lv_aload_n hx hb d_Gr_wrongPlace_0 rfl (lv_at hl 0 rfl) ?_
  refine va_get (D := D) (ci := 6) (v := .int z_this) (C := R_Gr) (T := F_Gr) (N := 4) hx hb hts in_Gr hown hK hP 0 rfl rfl 3 (by decide) (hts (.fieldLink R_Gr 31 R_Gr "wrongPlace" "I") kw2_10) (fun _ h9 => h9) rfl d_Gr_wrongPlace_1 ?_
  exact xq_iret (r := z_this) (u := ()) hx hb hr hlocks hAe hP hD hS rfl hw (Nat.le_of_ble_eq_true rfl) (Nat.le_of_ble_eq_true rfl) d_Gr_wrongPlace_4
theorem cw_Gr_wrongPlace {R : Room} {s : State} {args : Array Value} {own : String} {index : Nat} (hts : ∀ w ∈ xq_W, w.before args s = true) (hl : .methodLink own index y_Gr_wrongPlace ∈ xq_W) {rm : Room} (hR : rm.frames + 1 ≤ R.frames ∧ 8 + (1 + 11) + rm.locals ≤ R.locals) : CallW R s args own "StepText$Grammar" index y_Gr_wrongPlace prog_2_method_2_code 1 (some (.int)) (.code y_Gr_wrongPlace prog_2_method_2_code 1 (some (.int)) :: xq_W) rm rm.cells rm.slots 0 := ⟨xq_cb 0 hts kw3_176 kw1_11 hl ⟨by decide, by decide, by decide +kernel⟩ hR, hts _ kw3_174, hts _ kw3_175⟩
def y_Gr_isBetween : MethodName := ⟨"StepText$Grammar", "isBetween", "(II)Z"⟩
theorem d_Gr_isBetween_0 : decode prog_2_method_5_code 0 = .ok (.aload_n 0, 1) := by decide +kernel
theorem d_Gr_isBetween_1 : decode prog_2_method_5_code 1 = .ok (.getfield 9, 3) := by decide +kernel
theorem d_Gr_isBetween_4 : decode prog_2_method_5_code 4 = .ok (.getfield 44, 3) := by decide +kernel
theorem d_Gr_isBetween_7 : decode prog_2_method_5_code 7 = .ok (.iload_n 1, 1) := by decide +kernel
theorem d_Gr_isBetween_8 : decode prog_2_method_5_code 8 = .ok (.if_icmp .lt 18, 3) := by decide +kernel
theorem d_Gr_isBetween_11 : decode prog_2_method_5_code 11 = .ok (.aload_n 0, 1) := by decide +kernel
theorem d_Gr_isBetween_12 : decode prog_2_method_5_code 12 = .ok (.getfield 9, 3) := by decide +kernel
theorem d_Gr_isBetween_15 : decode prog_2_method_5_code 15 = .ok (.getfield 44, 3) := by decide +kernel
theorem d_Gr_isBetween_18 : decode prog_2_method_5_code 18 = .ok (.iload_n 2, 1) := by decide +kernel
theorem d_Gr_isBetween_19 : decode prog_2_method_5_code 19 = .ok (.if_icmp .gt 7, 3) := by decide +kernel
theorem d_Gr_isBetween_22 : decode prog_2_method_5_code 22 = .ok (.iconst 1, 1) := by decide +kernel
theorem d_Gr_isBetween_23 : decode prog_2_method_5_code 23 = .ok (.goto 4, 3) := by decide +kernel
theorem d_Gr_isBetween_26 : decode prog_2_method_5_code 26 = .ok (.iconst 0, 1) := by decide +kernel
theorem d_Gr_isBetween_27 : decode prog_2_method_5_code 27 = .ok (.ireturn, 1) := by decide +kernel
def wp_Gr_isBetween (z_this : T_Gr) (z_this_words : T_Wd) (a1 : Int32) (a2 : Int32) (post : Int32 → Unit → Prop) : Prop := (z_this_words.2.2.2.2.2.2.2.2.2.2.1 < a1 → (post (0 : Int32) ())) ∧ (¬ z_this_words.2.2.2.2.2.2.2.2.2.2.1 < a1 → ((a2 < z_this_words.2.2.2.2.2.2.2.2.2.2.1 → (post (0 : Int32) ())) ∧ (¬ a2 < z_this_words.2.2.2.2.2.2.2.2.2.2.1 → (post (1 : Int32) ()))))
def rm_Gr_isBetween : Room := { frames := 0, cells := 0, slots := 0, locals := 0 }
set_option maxHeartbeats 4000000 in
set_option maxRecDepth 100000 in
theorem c_Gr_isBetween {l : Launch} {o : State × Array Value} {D : va_G} {k : Nat → ClassId} {ad_this : Nat → Nat} {ad_this_words : Nat → Nat} {q_this_names : Nat} {q_this_nodes : Nat} {q_this_words_keywords : Nat} {z_this : T_Gr} {z_this_words : T_Wd} {a1 : Int32} {a2 : Int32} {post : Int32 → Unit → Prop} (hw : wp_Gr_isBetween z_this z_this_words a1 a2 post) : xq_C l o y_Gr_isBetween (.code y_Gr_isBetween prog_2_method_5_code 3 (some (.boolean)) :: xq_W) rm_Gr_isBetween D vwCl (xt k) [.ref (ad_this 0), .int a1, .int a2] (w_Gr k ad_this (ad_this_words 0) q_this_names q_this_nodes z_this ++ w_Wd k ad_this_words q_this_words_keywords z_this_words) (fun r : Int32 => some (.int r)) post (fun _ : Unit => False) (fun u : Unit => w_Gr k ad_this (ad_this_words 0) q_this_names q_this_nodes z_this ++ w_Wd k ad_this_words q_this_words_keywords z_this_words) 0 0 0 0 := by
  refine xq_ofW (cc := prog_2_method_5_code) (maxL := 3) (ret := (some (.boolean))) (by decide) rfl (Nat.le_of_ble_eq_true rfl) ?_
  intro p e s m below meth c ls H locs A hAt hAe hA hl hK hJ hP0 hP hD hS
  obtain ⟨hx, hb, hml, hr, hlocks, hown, hts, hex, hnm⟩ := id hAt
  have hl : lv_has ls 3 [(0, .ref (ad_this 0)), (1, .int a1), (2, .int a2)] := hl
  unfold wp_Gr_isBetween at hw
  refine lv_aload_n hx hb d_Gr_isBetween_0 rfl (lv_at hl 0 rfl) ?_
  refine va_get (D := D) (ci := 6) (v := .ref (ad_this_words 0)) (C := R_Gr) (T := F_Gr) (N := 4) hx hb hts in_Gr hown hK hP 0 rfl rfl 0 (by decide) (hts (.fieldLink R_Gr 9 R_Gr "words" "LStepText$Words;") kw2_7) (fun _ h9 => h9) rfl d_Gr_isBetween_1 ?_
  refine va_get (D := D) (ci := 2) (v := .int z_this_words.2.2.2.2.2.2.2.2.2.2.1) (C := R_Wd) (T := F_Wd) (N := 15) hx hb hts in_Wd hown hK hP 1 rfl rfl 11 (by decide) (hts (.fieldLink R_Gr 44 R_Wd "code" "I") kw1_108) (fun _ h9 => h9) rfl d_Gr_isBetween_4 ?_
  refine lv_iload_n hx hb d_Gr_isBetween_7 rfl (lv_at hl 1 rfl) ?_
  refine lv_icmp_lt (tgt := 26) hx hb d_Gr_isBetween_8 (by decide) (fun hc => ?_) (fun hc => ?_)
  · have hw := hw.1 hc
    refine lv_iconst (v := (0 : Int32)) hx hb d_Gr_isBetween_26 (by decide) ?_
    exact xq_zret (r := (0 : Int32)) (u := ()) hx hb hr hlocks hAe hP hD hS rfl rfl hw (Nat.le_of_ble_eq_true rfl) (Nat.le_of_ble_eq_true rfl) d_Gr_isBetween_27
  · have hw := hw.2 hc
    refine lv_aload_n hx hb d_Gr_isBetween_11 rfl (lv_at hl 0 rfl) ?_
    refine va_get (D := D) (ci := 6) (v := .ref (ad_this_words 0)) (C := R_Gr) (T := F_Gr) (N := 4) hx hb hts in_Gr hown hK hP 0 rfl rfl 0 (by decide) (hts (.fieldLink R_Gr 9 R_Gr "words" "LStepText$Words;") kw2_7) (fun _ h9 => h9) rfl d_Gr_isBetween_12 ?_
    refine va_get (D := D) (ci := 2) (v := .int z_this_words.2.2.2.2.2.2.2.2.2.2.1) (C := R_Wd) (T := F_Wd) (N := 15) hx hb hts in_Wd hown hK hP 1 rfl rfl 11 (by decide) (hts (.fieldLink R_Gr 44 R_Wd "code" "I") kw1_108) (fun _ h9 => h9) rfl d_Gr_isBetween_15 ?_
    refine lv_iload_n hx hb d_Gr_isBetween_18 rfl (lv_at hl 2 rfl) ?_
    refine lv_icmp_gt (tgt := 26) hx hb d_Gr_isBetween_19 (by decide) (fun hc => ?_) (fun hc => ?_)
    · have hw := hw.1 hc
      refine lv_iconst (v := (0 : Int32)) hx hb d_Gr_isBetween_26 (by decide) ?_
      exact xq_zret (r := (0 : Int32)) (u := ()) hx hb hr hlocks hAe hP hD hS rfl rfl hw (Nat.le_of_ble_eq_true rfl) (Nat.le_of_ble_eq_true rfl) d_Gr_isBetween_27
    · have hw := hw.2 hc
      refine lv_iconst (v := (1 : Int32)) hx hb d_Gr_isBetween_22 (by decide) ?_
      refine lv_goto (tgt := 27) hx hb d_Gr_isBetween_23 (by decide) ?_
      exact xq_zret (r := (1 : Int32)) (u := ()) hx hb hr hlocks hAe hP hD hS rfl rfl hw (Nat.le_of_ble_eq_true rfl) (Nat.le_of_ble_eq_true rfl) d_Gr_isBetween_27
theorem cw_Gr_isBetween {R : Room} {s : State} {args : Array Value} {own : String} {index : Nat} (hts : ∀ w ∈ xq_W, w.before args s = true) (hl : .methodLink own index y_Gr_isBetween ∈ xq_W) {rm : Room} (hR : rm.frames + 1 ≤ R.frames ∧ 8 + (3 + 11) + rm.locals ≤ R.locals) : CallW R s args own "StepText$Grammar" index y_Gr_isBetween prog_2_method_5_code 3 (some (.boolean)) (.code y_Gr_isBetween prog_2_method_5_code 3 (some (.boolean)) :: xq_W) rm rm.cells rm.slots 2 := ⟨xq_cb 2 hts kw2_152 kw1_11 hl ⟨by decide, by decide, by decide +kernel⟩ hR, hts _ kw2_151, hts _ kp1_7⟩
def y_Gr_refuse : MethodName := ⟨"StepText$Grammar", "refuse", "(I)V"⟩
theorem d_Gr_refuse_0 : decode prog_2_method_4_code 0 = .ok (.aload_n 0, 1) := by decide +kernel
theorem d_Gr_refuse_1 : decode prog_2_method_4_code 1 = .ok (.iload_n 1, 1) := by decide +kernel
theorem d_Gr_refuse_2 : decode prog_2_method_4_code 2 = .ok (.putfield 31, 3) := by decide +kernel
theorem d_Gr_refuse_5 : decode prog_2_method_4_code 5 = .ok (.new 89, 3) := by decide +kernel
theorem d_Gr_refuse_8 : decode prog_2_method_4_code 8 = .ok (.dup, 1) := by decide +kernel
theorem d_Gr_refuse_9 : decode prog_2_method_4_code 9 = .ok (.invokespecial 91, 3) := by decide +kernel
theorem d_Gr_refuse_12 : decode prog_2_method_4_code 12 = .ok (.athrow, 1) := by decide +kernel
def wp_Gr_refuse (z_this : T_Gr) (a1 : Int32)  (postT : T_Gr → Prop) : Prop := postT a1
def rm_Gr_refuse : Room := { frames := 6, cells := 1, slots := 6, locals := 100 }
set_option maxHeartbeats 4000000 in
set_option maxRecDepth 100000 in
theorem c_Gr_refuse {l : Launch} {o : State × Array Value} {D : va_G} {k : Nat → ClassId} {ad_this : Nat → Nat} {q_this_words : Nat} {q_this_names : Nat} {q_this_nodes : Nat} {z_this : T_Gr} {a1 : Int32} {postT : T_Gr → Prop} (hw : wp_Gr_refuse z_this a1 postT) : xq_C l o y_Gr_refuse (.code y_Gr_refuse prog_2_method_4_code 2 none :: xq_W) rm_Gr_refuse D vwCl (xt k) [.ref (ad_this 0), .int a1] (w_Gr k ad_this q_this_words q_this_names q_this_nodes z_this) (fun _ : Unit => none) (fun (_ : Unit) (_ : T_Gr) => False) postT (fun u : T_Gr => w_Gr k ad_this q_this_words q_this_names q_this_nodes u) 0 0 1 6 := by
  refine xq_ofW (cc := prog_2_method_4_code) (maxL := 2) (ret := none) (by decide) rfl (Nat.le_of_ble_eq_true rfl) ?_
  intro p e s m below meth c ls H locs A hAt hAe hA hl hK hJ hP0 hP hD hS
  obtain ⟨hx, hb, hml, hr, hlocks, hown, hts, hex, hnm⟩ := id hAt
  have hl : lv_has ls 2 [(0, .ref (ad_this 0)), (1, .int a1)] := hl
  unfold wp_Gr_refuse at hw
  refine lv_aload_n hx hb d_Gr_refuse_0 rfl (lv_at hl 0 rfl) ?_
  refine lv_iload_n hx hb d_Gr_refuse_1 rfl (lv_at hl 1 rfl) ?_
  refine va_put (D := D) (ci := 6) (v := .int a1) (ty := .int) (C := R_Gr) (T := F_Gr) (N := 4) hx hb hts in_Gr t_Gr t_Gr_ok n_Gr hown hK hP hD hS 0 rfl rfl 3 (by decide) (hts (.fieldLink R_Gr 31 R_Gr "wrongPlace" "I") kw2_10) (fun _ h9 => h9) rfl (by decide +kernel) rfl rfl (Nat.le_of_ble_eq_true rfl) d_Gr_refuse_2 (fun H locs hP hD hS => ?_)
  have hP : va_P D vwCl (w_Gr k ad_this q_this_words q_this_names q_this_nodes a1) H := hP
  have hD : va_D A (w_Gr k ad_this q_this_words q_this_names q_this_nodes a1) := hD
  exact xq_throw (u := a1) hx hb (hml.trans hl.1.symm) hex hlocks hown hJ hAe (xq_nst hAe hP0 hS) (xq_oaS hts hJ) (hts _ kw2_169) (hts _ kw1_17) hP hD hS hw (Nat.le_of_ble_eq_true rfl) (Nat.le_of_ble_eq_true rfl) (Nat.le_of_ble_eq_true rfl) (Nat.le_of_ble_eq_true rfl) (Nat.le_of_ble_eq_true rfl) (Nat.le_of_ble_eq_true rfl) d_Gr_refuse_5 d_Gr_refuse_8 d_Gr_refuse_9 d_Gr_refuse_12
theorem cw_Gr_refuse {R : Room} {s : State} {args : Array Value} {own : String} {index : Nat} (hts : ∀ w ∈ xq_W, w.before args s = true) (hl : .methodLink own index y_Gr_refuse ∈ xq_W) {rm : Room} (hR : rm.frames + 1 ≤ R.frames ∧ 8 + (2 + 11) + rm.locals ≤ R.locals) : CallW R s args own "StepText$Grammar" index y_Gr_refuse prog_2_method_4_code 2 none (.code y_Gr_refuse prog_2_method_4_code 2 none :: xq_W) rm rm.cells rm.slots 1 := ⟨xq_cb 1 hts kw2_168 kw1_11 hl ⟨by decide, by decide, by decide +kernel⟩ hR, hts _ kw2_167, hts _ kp1_10⟩
def y_Gr_pass : MethodName := ⟨"StepText$Grammar", "pass", "()V"⟩
theorem d_Gr_pass_0 : decode prog_2_method_6_code 0 = .ok (.aload_n 0, 1) := by decide +kernel
theorem d_Gr_pass_1 : decode prog_2_method_6_code 1 = .ok (.getfield 28, 3) := by decide +kernel
theorem d_Gr_pass_4 : decode prog_2_method_6_code 4 = .ok (.invokevirtual 92, 3) := by decide +kernel
theorem d_Gr_pass_7 : decode prog_2_method_6_code 7 = .ok (.ifCond .eq 14, 3) := by decide +kernel
theorem d_Gr_pass_10 : decode prog_2_method_6_code 10 = .ok (.aload_n 0, 1) := by decide +kernel
theorem d_Gr_pass_11 : decode prog_2_method_6_code 11 = .ok (.aload_n 0, 1) := by decide +kernel
theorem d_Gr_pass_12 : decode prog_2_method_6_code 12 = .ok (.getfield 9, 3) := by decide +kernel
theorem d_Gr_pass_15 : decode prog_2_method_6_code 15 = .ok (.getfield 96, 3) := by decide +kernel
theorem d_Gr_pass_18 : decode prog_2_method_6_code 18 = .ok (.invokevirtual 99, 3) := by decide +kernel
theorem d_Gr_pass_21 : decode prog_2_method_6_code 21 = .ok (.aload_n 0, 1) := by decide +kernel
theorem d_Gr_pass_22 : decode prog_2_method_6_code 22 = .ok (.getfield 9, 3) := by decide +kernel
theorem d_Gr_pass_25 : decode prog_2_method_6_code 25 = .ok (.invokevirtual 102, 3) := by decide +kernel
theorem d_Gr_pass_28 : decode prog_2_method_6_code 28 = .ok (.aload_n 0, 1) := by decide +kernel
theorem d_Gr_pass_29 : decode prog_2_method_6_code 29 = .ok (.getfield 9, 3) := by decide +kernel
theorem d_Gr_pass_32 : decode prog_2_method_6_code 32 = .ok (.getfield 44, 3) := by decide +kernel
theorem d_Gr_pass_35 : decode prog_2_method_6_code 35 = .ok (.sipush 131, 3) := by decide +kernel
theorem d_Gr_pass_38 : decode prog_2_method_6_code 38 = .ok (.if_icmp .ne 14, 3) := by decide +kernel
theorem d_Gr_pass_41 : decode prog_2_method_6_code 41 = .ok (.aload_n 0, 1) := by decide +kernel
theorem d_Gr_pass_42 : decode prog_2_method_6_code 42 = .ok (.aload_n 0, 1) := by decide +kernel
theorem d_Gr_pass_43 : decode prog_2_method_6_code 43 = .ok (.getfield 9, 3) := by decide +kernel
theorem d_Gr_pass_46 : decode prog_2_method_6_code 46 = .ok (.getfield 96, 3) := by decide +kernel
theorem d_Gr_pass_49 : decode prog_2_method_6_code 49 = .ok (.invokevirtual 99, 3) := by decide +kernel
theorem d_Gr_pass_52 : decode prog_2_method_6_code 52 = .ok (.return_, 1) := by decide +kernel
def wp_Gr_pass (z_this : T_Gr) (z_this_nodes : T_Nd) (z_this_words : T_Wd) (post : Unit → T_Gr × T_Wd → Prop) (postT : T_Gr × T_Wd → Prop) : Prop := wp_Nd_isTooMany z_this_nodes (fun (r1 : Int32) (u1 : Unit) => (r1 = 0 → (wp_Wd_advance z_this_words (fun (r2 : Unit) (u2 : T_Wd) => (u2.2.2.2.2.2.2.2.2.2.2.1 = (131 : Int32) → (wp_Gr_refuse z_this u2.2.2.2.2.2.2.2.2.2.2.2.1 (fun (u : T_Gr) => postT (u, u2)))) ∧ (¬ u2.2.2.2.2.2.2.2.2.2.2.1 = (131 : Int32) → (post () (z_this, u2)))))) ∧ (¬ r1 = 0 → (wp_Gr_refuse z_this z_this_words.2.2.2.2.2.2.2.2.2.2.2.1 (fun (u : T_Gr) => postT (u, z_this_words)))))
def rm_Gr_pass : Room := { frames := 7, cells := 1, slots := 6, locals := 121 }
set_option maxHeartbeats 4000000 in
set_option maxRecDepth 100000 in
theorem c_Gr_pass {l : Launch} {o : State × Array Value} {D : va_G} {k : Nat → ClassId} {ad_this : Nat → Nat} {ad_this_nodes : Nat → Nat} {ad_this_words : Nat → Nat} {q_this_names : Nat} {q_this_words_keywords : Nat} {z_this : T_Gr} {z_this_nodes : T_Nd} {z_this_words : T_Wd} {post : Unit → T_Gr × T_Wd → Prop} {postT : T_Gr × T_Wd → Prop} (hw : wp_Gr_pass z_this z_this_nodes z_this_words post postT) : xq_C l o y_Gr_pass (.code y_Gr_pass prog_2_method_6_code 1 none :: xq_W) rm_Gr_pass D vwCl (xt k) [.ref (ad_this 0)] (w_Gr k ad_this (ad_this_words 0) q_this_names (ad_this_nodes 0) z_this ++ w_Nd k ad_this_nodes z_this_nodes ++ w_Wd k ad_this_words q_this_words_keywords z_this_words) (fun _ : Unit => none) post postT (fun u : T_Gr × T_Wd => w_Gr k ad_this (ad_this_words 0) q_this_names (ad_this_nodes 0) u.1 ++ w_Nd k ad_this_nodes z_this_nodes ++ w_Wd k ad_this_words q_this_words_keywords u.2) 0 0 1 6 := by
  refine xq_ofW (cc := prog_2_method_6_code) (maxL := 1) (ret := none) (by decide) rfl (Nat.le_of_ble_eq_true rfl) ?_
  intro p e s m below meth c ls H locs A hAt hAe hA hl hK hJ hP0 hP hD hS
  obtain ⟨hx, hb, hml, hr, hlocks, hown, hts, hex, hnm⟩ := id hAt
  have hl : lv_has ls 1 [(0, .ref (ad_this 0))] := hl
  unfold wp_Gr_pass at hw
  refine lv_aload_n hx hb d_Gr_pass_0 rfl (lv_at hl 0 rfl) ?_
  refine va_get (D := D) (ci := 6) (v := .ref (ad_this_nodes 0)) (C := R_Gr) (T := F_Gr) (N := 4) hx hb hts in_Gr hown hK hP 0 rfl rfl 2 (by decide) (hts (.fieldLink R_Gr 28 R_Gr "nodes" "LStepText$Nodes;") kw2_9) (fun _ h9 => h9) rfl d_Gr_pass_1 ?_
  refine xq_go (wr := w_Gr k ad_this (ad_this_words 0) q_this_names (ad_this_nodes 0) z_this ++ w_Wd k ad_this_words q_this_words_keywords z_this_words) (stk := fun r => .int r :: []) (xq_runV (As := []) (rest := []) ⟨hx, hb, hml, hown, hts⟩ (c_Nd_isTooMany (l := l) (o := o) (D := D) (k := k) (ad_this := ad_this_nodes) hw) (cw_Nd_isTooMany hts kw2_161 ⟨Nat.le_of_ble_eq_true rfl, Nat.le_of_ble_eq_true rfl⟩) (va_recv hK hP (ci := 4) (q0 := 1) rfl rfl) (hP.sub [1, 2, 3, 4, 5, 6, 7, 8, 9, 10, 11] rfl) hK hJ hS (va_free hD hS hA [1, 2, 3, 4, 5, 6, 7, 8, 9, 10, 11] rfl) ((hD.sub [1, 2, 3, 4, 5, 6, 7, 8, 9, 10, 11] (by decide) rfl).weaken (fun _ _ _ _ => trivial)) rfl hl.1 (Nat.le_of_ble_eq_true rfl) d_Gr_pass_4 ⟨Nat.le_of_ble_eq_true rfl, Nat.le_of_ble_eq_true rfl⟩) hP hD hS hA [1, 2, 3, 4, 5, 6, 7, 8, 9, 10, 11] [0, 12, 13, 14, 15, 16, 17] rfl rfl (by decide) (by decide) (fun _ => rfl) (fun r1 u1 H locs hw hP hD hS => ?_) (fun _ _ _ _ h9 => h9.elim)
  have hP : va_P D vwCl (w_Gr k ad_this (ad_this_words 0) q_this_names (ad_this_nodes 0) z_this ++ w_Nd k ad_this_nodes z_this_nodes ++ w_Wd k ad_this_words q_this_words_keywords z_this_words) H := hP.sub [0, 7, 8, 9, 10, 11, 12, 13, 14, 15, 16, 17, 1, 2, 3, 4, 5, 6] rfl
  have hD : va_D A (w_Gr k ad_this (ad_this_words 0) q_this_names (ad_this_nodes 0) z_this ++ w_Nd k ad_this_nodes z_this_nodes ++ w_Wd k ad_this_words q_this_words_keywords z_this_words) := hD.sub [0, 7, 8, 9, 10, 11, 12, 13, 14, 15, 16, 17, 1, 2, 3, 4, 5, 6] (by decide) rfl
  refine lv_if_eq (tgt := 21) hx hb d_Gr_pass_7 (by decide) (fun hc => ?_) (fun hc => ?_)
  · have hw := hw.1 hc
    refine lv_aload_n hx hb d_Gr_pass_21 rfl (lv_at hl 0 rfl) ?_
    refine va_get (D := D) (ci := 6) (v := .ref (ad_this_words 0)) (C := R_Gr) (T := F_Gr) (N := 4) hx hb hts in_Gr hown hK hP 0 rfl rfl 0 (by decide) (hts (.fieldLink R_Gr 9 R_Gr "words" "LStepText$Words;") kw2_7) (fun _ h9 => h9) rfl d_Gr_pass_22 ?_
    refine xq_go (wr := w_Gr k ad_this (ad_this_words 0) q_this_names (ad_this_nodes 0) z_this ++ w_Nd k ad_this_nodes z_this_nodes) (stk := fun _ => []) (xq_runV (As := []) (rest := []) ⟨hx, hb, hml, hown, hts⟩ (c_Wd_advance (l := l) (o := o) (D := D) (k := k) (ad_this := ad_this_words) (q_this_keywords := q_this_words_keywords) hw) (cw_Wd_advance hts kw2_230 ⟨Nat.le_of_ble_eq_true rfl, Nat.le_of_ble_eq_true rfl⟩) (va_recv hK hP (ci := 2) (q0 := 12) rfl rfl) (hP.sub [12, 13, 14, 15, 16, 17] rfl) hK hJ hS (va_free hD hS hA [12, 13, 14, 15, 16, 17] rfl) ((hD.sub [12, 13, 14, 15, 16, 17] (by decide) rfl).weaken (fun _ _ _ _ => trivial)) rfl hl.1 (Nat.le_of_ble_eq_true rfl) d_Gr_pass_25 ⟨Nat.le_of_ble_eq_true rfl, Nat.le_of_ble_eq_true rfl⟩) hP hD hS hA [12, 13, 14, 15, 16, 17] [0, 1, 2, 3, 4, 5, 6, 7, 8, 9, 10, 11] rfl rfl (by decide) (by decide) (fun _ => rfl) (fun r2 u2 H locs hw hP hD hS => ?_) (fun _ _ _ _ h9 => h9.elim)
    have hP : va_P D vwCl (w_Gr k ad_this (ad_this_words 0) q_this_names (ad_this_nodes 0) z_this ++ w_Nd k ad_this_nodes z_this_nodes ++ w_Wd k ad_this_words q_this_words_keywords u2) H := hP.sub [0, 1, 2, 3, 4, 5, 6, 7, 8, 9, 10, 11, 12, 13, 14, 15, 16, 17] rfl
    have hD : va_D A (w_Gr k ad_this (ad_this_words 0) q_this_names (ad_this_nodes 0) z_this ++ w_Nd k ad_this_nodes z_this_nodes ++ w_Wd k ad_this_words q_this_words_keywords u2) := hD.sub [0, 1, 2, 3, 4, 5, 6, 7, 8, 9, 10, 11, 12, 13, 14, 15, 16, 17] (by decide) rfl
    refine lv_aload_n hx hb d_Gr_pass_28 rfl (lv_at hl 0 rfl) ?_
    refine va_get (D := D) (ci := 6) (v := .ref (ad_this_words 0)) (C := R_Gr) (T := F_Gr) (N := 4) hx hb hts in_Gr hown hK hP 0 rfl rfl 0 (by decide) (hts (.fieldLink R_Gr 9 R_Gr "words" "LStepText$Words;") kw2_7) (fun _ h9 => h9) rfl d_Gr_pass_29 ?_
    refine va_get (D := D) (ci := 2) (v := .int u2.2.2.2.2.2.2.2.2.2.2.1) (C := R_Wd) (T := F_Wd) (N := 15) hx hb hts in_Wd hown hK hP 12 rfl rfl 11 (by decide) (hts (.fieldLink R_Gr 44 R_Wd "code" "I") kw1_108) (fun _ h9 => h9) rfl d_Gr_pass_32 ?_
    refine lv_sipush (v := (131 : Int32)) hx hb d_Gr_pass_35 (by decide) ?_
    refine lv_icmp_ne (tgt := 52) hx hb d_Gr_pass_38 (by decide) (fun hc => ?_) (fun hc => ?_)
    · have hw := hw.2 hc
      exact xq_vret (r := ()) (u := (z_this, u2)) hx hb hr hlocks hAe hP hD hS rfl hw (Nat.le_of_ble_eq_true rfl) (Nat.le_of_ble_eq_true rfl) d_Gr_pass_52
    · have hw := hw.1 hc
      refine lv_aload_n hx hb d_Gr_pass_41 rfl (lv_at hl 0 rfl) ?_
      refine lv_aload_n hx hb d_Gr_pass_42 rfl (lv_at hl 0 rfl) ?_
      refine va_get (D := D) (ci := 6) (v := .ref (ad_this_words 0)) (C := R_Gr) (T := F_Gr) (N := 4) hx hb hts in_Gr hown hK hP 0 rfl rfl 0 (by decide) (hts (.fieldLink R_Gr 9 R_Gr "words" "LStepText$Words;") kw2_7) (fun _ h9 => h9) rfl d_Gr_pass_43 ?_
      refine va_get (D := D) (ci := 2) (v := .int u2.2.2.2.2.2.2.2.2.2.2.2.1) (C := R_Wd) (T := F_Wd) (N := 15) hx hb hts in_Wd hown hK hP 12 rfl rfl 12 (by decide) (hts (.fieldLink R_Gr 96 R_Wd "place" "I") kw1_111) (fun _ h9 => h9) rfl d_Gr_pass_46 ?_
      refine xq_go (wr := w_Nd k ad_this_nodes z_this_nodes ++ w_Wd k ad_this_words q_this_words_keywords u2) (stk := fun _ => []) (xq_runV (As := [.int u2.2.2.2.2.2.2.2.2.2.2.2.1]) (rest := []) ⟨hx, hb, hml, hown, hts⟩ (c_Gr_refuse (l := l) (o := o) (D := D) (k := k) (ad_this := ad_this) (q_this_words := (ad_this_words 0)) (q_this_names := q_this_names) (q_this_nodes := (ad_this_nodes 0)) hw) (cw_Gr_refuse hts kw2_165 ⟨Nat.le_of_ble_eq_true rfl, Nat.le_of_ble_eq_true rfl⟩) (va_recv hK hP (ci := 6) (q0 := 0) rfl rfl) (hP.sub [0] rfl) hK hJ hS (va_free hD hS hA [0] rfl) ((hD.sub [0] (by decide) rfl).weaken (fun _ _ _ _ => trivial)) rfl hl.1 (Nat.le_of_ble_eq_true rfl) d_Gr_pass_49 ⟨Nat.le_of_ble_eq_true rfl, Nat.le_of_ble_eq_true rfl⟩) hP hD hS hA [0] [1, 2, 3, 4, 5, 6, 7, 8, 9, 10, 11, 12, 13, 14, 15, 16, 17] rfl rfl (by decide) (by decide) (fun _ => rfl) (fun _ _ _ _ h9 => h9.elim) (fun x u H locs hw hP hD hS hE => ?_)
      have hP : va_P D vwCl (w_Gr k ad_this (ad_this_words 0) q_this_names (ad_this_nodes 0) u ++ w_Nd k ad_this_nodes z_this_nodes ++ w_Wd k ad_this_words q_this_words_keywords u2) H := hP.sub [17, 0, 1, 2, 3, 4, 5, 6, 7, 8, 9, 10, 11, 12, 13, 14, 15, 16] rfl
      have hD : va_D A (w_Gr k ad_this (ad_this_words 0) q_this_names (ad_this_nodes 0) u ++ w_Nd k ad_this_nodes z_this_nodes ++ w_Wd k ad_this_words q_this_words_keywords u2) := hD.sub [17, 0, 1, 2, 3, 4, 5, 6, 7, 8, 9, 10, 11, 12, 13, 14, 15, 16] (by decide) rfl
      exact xq_out (u := (u, u2)) hex hlocks hAe hP hD hS hw hE (Nat.le_of_ble_eq_true rfl) (Nat.le_of_ble_eq_true rfl)
  · have hw := hw.2 hc
    refine lv_aload_n hx hb d_Gr_pass_10 rfl (lv_at hl 0 rfl) ?_
    refine lv_aload_n hx hb d_Gr_pass_11 rfl (lv_at hl 0 rfl) ?_
    refine va_get (D := D) (ci := 6) (v := .ref (ad_this_words 0)) (C := R_Gr) (T := F_Gr) (N := 4) hx hb hts in_Gr hown hK hP 0 rfl rfl 0 (by decide) (hts (.fieldLink R_Gr 9 R_Gr "words" "LStepText$Words;") kw2_7) (fun _ h9 => h9) rfl d_Gr_pass_12 ?_
    refine va_get (D := D) (ci := 2) (v := .int z_this_words.2.2.2.2.2.2.2.2.2.2.2.1) (C := R_Wd) (T := F_Wd) (N := 15) hx hb hts in_Wd hown hK hP 12 rfl rfl 12 (by decide) (hts (.fieldLink R_Gr 96 R_Wd "place" "I") kw1_111) (fun _ h9 => h9) rfl d_Gr_pass_15 ?_
    refine xq_go (wr := w_Nd k ad_this_nodes z_this_nodes ++ w_Wd k ad_this_words q_this_words_keywords z_this_words) (stk := fun _ => []) (xq_runV (As := [.int z_this_words.2.2.2.2.2.2.2.2.2.2.2.1]) (rest := []) ⟨hx, hb, hml, hown, hts⟩ (c_Gr_refuse (l := l) (o := o) (D := D) (k := k) (ad_this := ad_this) (q_this_words := (ad_this_words 0)) (q_this_names := q_this_names) (q_this_nodes := (ad_this_nodes 0)) hw) (cw_Gr_refuse hts kw2_165 ⟨Nat.le_of_ble_eq_true rfl, Nat.le_of_ble_eq_true rfl⟩) (va_recv hK hP (ci := 6) (q0 := 0) rfl rfl) (hP.sub [0] rfl) hK hJ hS (va_free hD hS hA [0] rfl) ((hD.sub [0] (by decide) rfl).weaken (fun _ _ _ _ => trivial)) rfl hl.1 (Nat.le_of_ble_eq_true rfl) d_Gr_pass_18 ⟨Nat.le_of_ble_eq_true rfl, Nat.le_of_ble_eq_true rfl⟩) hP hD hS hA [0] [1, 2, 3, 4, 5, 6, 7, 8, 9, 10, 11, 12, 13, 14, 15, 16, 17] rfl rfl (by decide) (by decide) (fun _ => rfl) (fun _ _ _ _ h9 => h9.elim) (fun x u H locs hw hP hD hS hE => ?_)
    have hP : va_P D vwCl (w_Gr k ad_this (ad_this_words 0) q_this_names (ad_this_nodes 0) u ++ w_Nd k ad_this_nodes z_this_nodes ++ w_Wd k ad_this_words q_this_words_keywords z_this_words) H := hP.sub [17, 0, 1, 2, 3, 4, 5, 6, 7, 8, 9, 10, 11, 12, 13, 14, 15, 16] rfl
    have hD : va_D A (w_Gr k ad_this (ad_this_words 0) q_this_names (ad_this_nodes 0) u ++ w_Nd k ad_this_nodes z_this_nodes ++ w_Wd k ad_this_words q_this_words_keywords z_this_words) := hD.sub [17, 0, 1, 2, 3, 4, 5, 6, 7, 8, 9, 10, 11, 12, 13, 14, 15, 16] (by decide) rfl
    exact xq_out (u := (u, z_this_words)) hex hlocks hAe hP hD hS hw hE (Nat.le_of_ble_eq_true rfl) (Nat.le_of_ble_eq_true rfl)
theorem cw_Gr_pass {R : Room} {s : State} {args : Array Value} {own : String} {index : Nat} (hts : ∀ w ∈ xq_W, w.before args s = true) (hl : .methodLink own index y_Gr_pass ∈ xq_W) {rm : Room} (hR : rm.frames + 1 ≤ R.frames ∧ 8 + (1 + 11) + rm.locals ≤ R.locals) : CallW R s args own "StepText$Grammar" index y_Gr_pass prog_2_method_6_code 1 none (.code y_Gr_pass prog_2_method_6_code 1 none :: xq_W) rm rm.cells rm.slots 0 := ⟨xq_cb 0 hts kw2_160 kw1_11 hl ⟨by decide, by decide, by decide +kernel⟩ hR, hts _ kw2_159, hts _ kp1_9⟩
def y_Gr_readNewName : MethodName := ⟨"StepText$Grammar", "readNewName", "()J"⟩
theorem d_Gr_readNewName_0 : decode prog_2_method_9_code 0 = .ok (.aload_n 0, 1) := by decide +kernel
theorem d_Gr_readNewName_1 : decode prog_2_method_9_code 1 = .ok (.invokevirtual 105, 3) := by decide +kernel
theorem d_Gr_readNewName_4 : decode prog_2_method_9_code 4 = .ok (.aload_n 0, 1) := by decide +kernel
theorem d_Gr_readNewName_5 : decode prog_2_method_9_code 5 = .ok (.getfield 9, 3) := by decide +kernel
theorem d_Gr_readNewName_8 : decode prog_2_method_9_code 8 = .ok (.getfield 108, 3) := by decide +kernel
theorem d_Gr_readNewName_11 : decode prog_2_method_9_code 11 = .ok (.lstore_n 1, 1) := by decide +kernel
theorem d_Gr_readNewName_12 : decode prog_2_method_9_code 12 = .ok (.aload_n 0, 1) := by decide +kernel
theorem d_Gr_readNewName_13 : decode prog_2_method_9_code 13 = .ok (.getfield 9, 3) := by decide +kernel
theorem d_Gr_readNewName_16 : decode prog_2_method_9_code 16 = .ok (.getfield 44, 3) := by decide +kernel
theorem d_Gr_readNewName_19 : decode prog_2_method_9_code 19 = .ok (.sipush 128, 3) := by decide +kernel
theorem d_Gr_readNewName_22 : decode prog_2_method_9_code 22 = .ok (.if_icmp .ne 14, 3) := by decide +kernel
theorem d_Gr_readNewName_25 : decode prog_2_method_9_code 25 = .ok (.aload_n 0, 1) := by decide +kernel
theorem d_Gr_readNewName_26 : decode prog_2_method_9_code 26 = .ok (.getfield 21, 3) := by decide +kernel
theorem d_Gr_readNewName_29 : decode prog_2_method_9_code 29 = .ok (.lload_n 1, 1) := by decide +kernel
theorem d_Gr_readNewName_30 : decode prog_2_method_9_code 30 = .ok (.invokevirtual 112, 3) := by decide +kernel
theorem d_Gr_readNewName_33 : decode prog_2_method_9_code 33 = .ok (.ifCond .ne 14, 3) := by decide +kernel
theorem d_Gr_readNewName_36 : decode prog_2_method_9_code 36 = .ok (.aload_n 0, 1) := by decide +kernel
theorem d_Gr_readNewName_37 : decode prog_2_method_9_code 37 = .ok (.aload_n 0, 1) := by decide +kernel
theorem d_Gr_readNewName_38 : decode prog_2_method_9_code 38 = .ok (.getfield 9, 3) := by decide +kernel
theorem d_Gr_readNewName_41 : decode prog_2_method_9_code 41 = .ok (.getfield 96, 3) := by decide +kernel
theorem d_Gr_readNewName_44 : decode prog_2_method_9_code 44 = .ok (.invokevirtual 99, 3) := by decide +kernel
theorem d_Gr_readNewName_47 : decode prog_2_method_9_code 47 = .ok (.aload_n 0, 1) := by decide +kernel
theorem d_Gr_readNewName_48 : decode prog_2_method_9_code 48 = .ok (.invokevirtual 105, 3) := by decide +kernel
theorem d_Gr_readNewName_51 : decode prog_2_method_9_code 51 = .ok (.lload_n 1, 1) := by decide +kernel
theorem d_Gr_readNewName_52 : decode prog_2_method_9_code 52 = .ok (.lreturn, 1) := by decide +kernel
def wp_Gr_readNewName (z_this : T_Gr) (z_this_names : T_Nm) (z_this_nodes : T_Nd) (z_this_words : T_Wd) (post : Int64 → T_Gr × T_Wd → Prop) (postT : T_Gr × T_Wd → Prop) : Prop := wp_Gr_pass z_this z_this_nodes z_this_words (fun (r1 : Unit) (u1 : T_Gr × T_Wd) => (u1.2.2.2.2.2.2.2.2.2.2.2.1 = (128 : Int32) → (wp_Nm_canTell z_this_names u1.2.2.2.2.2.2.2.2.2.2.2.2.2.2 (fun (r3 : Int32) (u3 : Unit) => (r3 = 0 → (wp_Gr_refuse u1.1 u1.2.2.2.2.2.2.2.2.2.2.2.2.1 (fun (u : T_Gr) => postT (u, u1.2)))) ∧ (¬ r3 = 0 → (wp_Gr_pass u1.1 z_this_nodes u1.2 (fun (r4 : Unit) (u4 : T_Gr × T_Wd) => post u1.2.2.2.2.2.2.2.2.2.2.2.2.2.2 (u4.1, u4.2)) (fun (u : T_Gr × T_Wd) => postT (u.1, u.2))))))) ∧ (¬ u1.2.2.2.2.2.2.2.2.2.2.2.1 = (128 : Int32) → (wp_Gr_refuse u1.1 u1.2.2.2.2.2.2.2.2.2.2.2.2.1 (fun (u : T_Gr) => postT (u, u1.2))))) (fun (u : T_Gr × T_Wd) => postT (u.1, u.2))
def rm_Gr_readNewName : Room := { frames := 8, cells := 1, slots := 6, locals := 141 }
set_option maxHeartbeats 4000000 in
set_option maxRecDepth 100000 in
theorem c_Gr_readNewName {l : Launch} {o : State × Array Value} {D : va_G} {k : Nat → ClassId} {ad_this : Nat → Nat} {ad_this_names : Nat → Nat} {ad_this_nodes : Nat → Nat} {ad_this_words : Nat → Nat} {q_this_words_keywords : Nat} {z_this : T_Gr} {z_this_names : T_Nm} {z_this_nodes : T_Nd} {z_this_words : T_Wd} {post : Int64 → T_Gr × T_Wd → Prop} {postT : T_Gr × T_Wd → Prop} (hw : wp_Gr_readNewName z_this z_this_names z_this_nodes z_this_words post postT) : xq_C l o y_Gr_readNewName (.code y_Gr_readNewName prog_2_method_9_code 3 (some (.long)) :: xq_W) rm_Gr_readNewName D vwCl (xt k) [.ref (ad_this 0)] (w_Gr k ad_this (ad_this_words 0) (ad_this_names 0) (ad_this_nodes 0) z_this ++ w_Nm k ad_this_names z_this_names ++ w_Nd k ad_this_nodes z_this_nodes ++ w_Wd k ad_this_words q_this_words_keywords z_this_words) (fun r : Int64 => some (.long r)) post postT (fun u : T_Gr × T_Wd => w_Gr k ad_this (ad_this_words 0) (ad_this_names 0) (ad_this_nodes 0) u.1 ++ w_Nm k ad_this_names z_this_names ++ w_Nd k ad_this_nodes z_this_nodes ++ w_Wd k ad_this_words q_this_words_keywords u.2) 0 0 1 6 := by
  refine xq_ofW (cc := prog_2_method_9_code) (maxL := 3) (ret := (some (.long))) (by decide) rfl (Nat.le_of_ble_eq_true rfl) ?_
  intro p e s m below meth c ls H locs A hAt hAe hA hl hK hJ hP0 hP hD hS
  obtain ⟨hx, hb, hml, hr, hlocks, hown, hts, hex, hnm⟩ := id hAt
  have hl : lv_has ls 3 [(0, .ref (ad_this 0))] := hl
  unfold wp_Gr_readNewName at hw
  refine lv_aload_n hx hb d_Gr_readNewName_0 rfl (lv_at hl 0 rfl) ?_
  refine xq_go (wr := w_Nm k ad_this_names z_this_names) (stk := fun _ => []) (xq_runV (As := []) (rest := []) ⟨hx, hb, hml, hown, hts⟩ (c_Gr_pass (l := l) (o := o) (D := D) (k := k) (ad_this := ad_this) (ad_this_nodes := ad_this_nodes) (ad_this_words := ad_this_words) (q_this_names := (ad_this_names 0)) (q_this_words_keywords := q_this_words_keywords) hw) (cw_Gr_pass hts kw2_157 ⟨Nat.le_of_ble_eq_true rfl, Nat.le_of_ble_eq_true rfl⟩) (va_recv hK hP (ci := 6) (q0 := 0) rfl rfl) (hP.sub [0, 6, 7, 8, 9, 10, 11, 12, 13, 14, 15, 16, 17, 18, 19, 20, 21, 22] rfl) hK hJ hS (va_free hD hS hA [0, 6, 7, 8, 9, 10, 11, 12, 13, 14, 15, 16, 17, 18, 19, 20, 21, 22] rfl) ((hD.sub [0, 6, 7, 8, 9, 10, 11, 12, 13, 14, 15, 16, 17, 18, 19, 20, 21, 22] (by decide) rfl).weaken (fun _ _ _ _ => trivial)) rfl hl.1 (Nat.le_of_ble_eq_true rfl) d_Gr_readNewName_1 ⟨Nat.le_of_ble_eq_true rfl, Nat.le_of_ble_eq_true rfl⟩) hP hD hS hA [0, 6, 7, 8, 9, 10, 11, 12, 13, 14, 15, 16, 17, 18, 19, 20, 21, 22] [1, 2, 3, 4, 5] rfl rfl (by decide) (by decide) (fun _ => rfl) (fun r1 u1 H locs hw hP hD hS => ?_) (fun x u H locs hw hP hD hS hE => ?_)
  · have hP : va_P D vwCl (w_Gr k ad_this (ad_this_words 0) (ad_this_names 0) (ad_this_nodes 0) u1.1 ++ w_Nm k ad_this_names z_this_names ++ w_Nd k ad_this_nodes z_this_nodes ++ w_Wd k ad_this_words q_this_words_keywords u1.2) H := hP.sub [5, 0, 1, 2, 3, 4, 6, 7, 8, 9, 10, 11, 12, 13, 14, 15, 16, 17, 18, 19, 20, 21, 22] rfl
    have hD : va_D A (w_Gr k ad_this (ad_this_words 0) (ad_this_names 0) (ad_this_nodes 0) u1.1 ++ w_Nm k ad_this_names z_this_names ++ w_Nd k ad_this_nodes z_this_nodes ++ w_Wd k ad_this_words q_this_words_keywords u1.2) := hD.sub [5, 0, 1, 2, 3, 4, 6, 7, 8, 9, 10, 11, 12, 13, 14, 15, 16, 17, 18, 19, 20, 21, 22] (by decide) rfl
    refine lv_aload_n hx hb d_Gr_readNewName_4 rfl (lv_at hl 0 rfl) ?_
    refine va_get (D := D) (ci := 6) (v := .ref (ad_this_words 0)) (C := R_Gr) (T := F_Gr) (N := 4) hx hb hts in_Gr hown hK hP 0 rfl rfl 0 (by decide) (hts (.fieldLink R_Gr 9 R_Gr "words" "LStepText$Words;") kw2_7) (fun _ h9 => h9) rfl d_Gr_readNewName_5 ?_
    refine va_get (D := D) (ci := 2) (v := .long u1.2.2.2.2.2.2.2.2.2.2.2.2.2.2) (C := R_Wd) (T := F_Wd) (N := 15) hx hb hts in_Wd hown hK hP 17 rfl rfl 14 (by decide) (hts (.fieldLink R_Gr 108 R_Wd "value" "J") kw1_115) (fun _ h9 => h9) rfl d_Gr_readNewName_8 ?_
    refine lv_lstore_n (lv' := [(1, .long u1.2.2.2.2.2.2.2.2.2.2.2.2.2.2), (0, .ref (ad_this 0))]) hx hb d_Gr_readNewName_11 rfl hl (by decide) rfl (fun ls hl => ?_)
    refine lv_aload_n hx hb d_Gr_readNewName_12 rfl (lv_at hl 1 rfl) ?_
    refine va_get (D := D) (ci := 6) (v := .ref (ad_this_words 0)) (C := R_Gr) (T := F_Gr) (N := 4) hx hb hts in_Gr hown hK hP 0 rfl rfl 0 (by decide) (hts (.fieldLink R_Gr 9 R_Gr "words" "LStepText$Words;") kw2_7) (fun _ h9 => h9) rfl d_Gr_readNewName_13 ?_
    refine va_get (D := D) (ci := 2) (v := .int u1.2.2.2.2.2.2.2.2.2.2.2.1) (C := R_Wd) (T := F_Wd) (N := 15) hx hb hts in_Wd hown hK hP 17 rfl rfl 11 (by decide) (hts (.fieldLink R_Gr 44 R_Wd "code" "I") kw1_108) (fun _ h9 => h9) rfl d_Gr_readNewName_16 ?_
    refine lv_sipush (v := (128 : Int32)) hx hb d_Gr_readNewName_19 (by decide) ?_
    refine lv_icmp_ne (tgt := 36) hx hb d_Gr_readNewName_22 (by decide) (fun hc => ?_) (fun hc => ?_)
    · have hw := hw.2 hc
      refine lv_aload_n hx hb d_Gr_readNewName_36 rfl (lv_at hl 1 rfl) ?_
      refine lv_aload_n hx hb d_Gr_readNewName_37 rfl (lv_at hl 1 rfl) ?_
      refine va_get (D := D) (ci := 6) (v := .ref (ad_this_words 0)) (C := R_Gr) (T := F_Gr) (N := 4) hx hb hts in_Gr hown hK hP 0 rfl rfl 0 (by decide) (hts (.fieldLink R_Gr 9 R_Gr "words" "LStepText$Words;") kw2_7) (fun _ h9 => h9) rfl d_Gr_readNewName_38 ?_
      refine va_get (D := D) (ci := 2) (v := .int u1.2.2.2.2.2.2.2.2.2.2.2.2.1) (C := R_Wd) (T := F_Wd) (N := 15) hx hb hts in_Wd hown hK hP 17 rfl rfl 12 (by decide) (hts (.fieldLink R_Gr 96 R_Wd "place" "I") kw1_111) (fun _ h9 => h9) rfl d_Gr_readNewName_41 ?_
      refine xq_go (wr := w_Nm k ad_this_names z_this_names ++ w_Nd k ad_this_nodes z_this_nodes ++ w_Wd k ad_this_words q_this_words_keywords u1.2) (stk := fun _ => []) (xq_runV (As := [.int u1.2.2.2.2.2.2.2.2.2.2.2.2.1]) (rest := []) ⟨hx, hb, hml, hown, hts⟩ (c_Gr_refuse (l := l) (o := o) (D := D) (k := k) (ad_this := ad_this) (q_this_words := (ad_this_words 0)) (q_this_names := (ad_this_names 0)) (q_this_nodes := (ad_this_nodes 0)) hw) (cw_Gr_refuse hts kw2_165 ⟨Nat.le_of_ble_eq_true rfl, Nat.le_of_ble_eq_true rfl⟩) (va_recv hK hP (ci := 6) (q0 := 0) rfl rfl) (hP.sub [0] rfl) hK hJ hS (va_free hD hS hA [0] rfl) ((hD.sub [0] (by decide) rfl).weaken (fun _ _ _ _ => trivial)) rfl hl.1 (Nat.le_of_ble_eq_true rfl) d_Gr_readNewName_44 ⟨Nat.le_of_ble_eq_true rfl, Nat.le_of_ble_eq_true rfl⟩) hP hD hS hA [0] [1, 2, 3, 4, 5, 6, 7, 8, 9, 10, 11, 12, 13, 14, 15, 16, 17, 18, 19, 20, 21, 22] rfl rfl (by decide) (by decide) (fun _ => rfl) (fun _ _ _ _ h9 => h9.elim) (fun x u H locs hw hP hD hS hE => ?_)
      have hP : va_P D vwCl (w_Gr k ad_this (ad_this_words 0) (ad_this_names 0) (ad_this_nodes 0) u ++ w_Nm k ad_this_names z_this_names ++ w_Nd k ad_this_nodes z_this_nodes ++ w_Wd k ad_this_words q_this_words_keywords u1.2) H := hP.sub [22, 0, 1, 2, 3, 4, 5, 6, 7, 8, 9, 10, 11, 12, 13, 14, 15, 16, 17, 18, 19, 20, 21] rfl
      have hD : va_D A (w_Gr k ad_this (ad_this_words 0) (ad_this_names 0) (ad_this_nodes 0) u ++ w_Nm k ad_this_names z_this_names ++ w_Nd k ad_this_nodes z_this_nodes ++ w_Wd k ad_this_words q_this_words_keywords u1.2) := hD.sub [22, 0, 1, 2, 3, 4, 5, 6, 7, 8, 9, 10, 11, 12, 13, 14, 15, 16, 17, 18, 19, 20, 21] (by decide) rfl
      exact xq_out (u := (u, u1.2)) hex hlocks hAe hP hD hS hw hE (Nat.le_of_ble_eq_true rfl) (Nat.le_of_ble_eq_true rfl)
    · have hw := hw.1 hc
      refine lv_aload_n hx hb d_Gr_readNewName_25 rfl (lv_at hl 1 rfl) ?_
      refine va_get (D := D) (ci := 6) (v := .ref (ad_this_names 0)) (C := R_Gr) (T := F_Gr) (N := 4) hx hb hts in_Gr hown hK hP 0 rfl rfl 1 (by decide) (hts (.fieldLink R_Gr 21 R_Gr "names" "LStepText$Names;") kw2_8) (fun _ h9 => h9) rfl d_Gr_readNewName_26 ?_
      refine lv_lload_n hx hb d_Gr_readNewName_29 rfl (lv_at hl 0 rfl) ?_
      refine xq_go (wr := w_Gr k ad_this (ad_this_words 0) (ad_this_names 0) (ad_this_nodes 0) u1.1 ++ w_Nd k ad_this_nodes z_this_nodes ++ w_Wd k ad_this_words q_this_words_keywords u1.2) (stk := fun r => .int r :: []) (xq_runV (As := [.long u1.2.2.2.2.2.2.2.2.2.2.2.2.2.2]) (rest := []) ⟨hx, hb, hml, hown, hts⟩ (c_Nm_canTell (l := l) (o := o) (D := D) (k := k) (ad_this := ad_this_names) hw) (cw_Nm_canTell hts kw2_231 ⟨Nat.le_of_ble_eq_true rfl, Nat.le_of_ble_eq_true rfl⟩) (va_recv hK hP (ci := 3) (q0 := 1) rfl rfl) (hP.sub [1, 2, 3, 4, 5] rfl) hK hJ hS (va_free hD hS hA [1, 2, 3, 4, 5] rfl) ((hD.sub [1, 2, 3, 4, 5] (by decide) rfl).weaken (fun _ _ _ _ => trivial)) rfl hl.1 (Nat.le_of_ble_eq_true rfl) d_Gr_readNewName_30 ⟨Nat.le_of_ble_eq_true rfl, Nat.le_of_ble_eq_true rfl⟩) hP hD hS hA [1, 2, 3, 4, 5] [0, 6, 7, 8, 9, 10, 11, 12, 13, 14, 15, 16, 17, 18, 19, 20, 21, 22] rfl rfl (by decide) (by decide) (fun _ => rfl) (fun r3 u3 H locs hw hP hD hS => ?_) (fun _ _ _ _ h9 => h9.elim)
      have hP : va_P D vwCl (w_Gr k ad_this (ad_this_words 0) (ad_this_names 0) (ad_this_nodes 0) u1.1 ++ w_Nm k ad_this_names z_this_names ++ w_Nd k ad_this_nodes z_this_nodes ++ w_Wd k ad_this_words q_this_words_keywords u1.2) H := hP.sub [0, 18, 19, 20, 21, 22, 1, 2, 3, 4, 5, 6, 7, 8, 9, 10, 11, 12, 13, 14, 15, 16, 17] rfl
      have hD : va_D A (w_Gr k ad_this (ad_this_words 0) (ad_this_names 0) (ad_this_nodes 0) u1.1 ++ w_Nm k ad_this_names z_this_names ++ w_Nd k ad_this_nodes z_this_nodes ++ w_Wd k ad_this_words q_this_words_keywords u1.2) := hD.sub [0, 18, 19, 20, 21, 22, 1, 2, 3, 4, 5, 6, 7, 8, 9, 10, 11, 12, 13, 14, 15, 16, 17] (by decide) rfl
      refine lv_if_ne (tgt := 47) hx hb d_Gr_readNewName_33 (by decide) (fun hc => ?_) (fun hc => ?_)
      · have hw := hw.2 hc
        refine lv_aload_n hx hb d_Gr_readNewName_47 rfl (lv_at hl 1 rfl) ?_
        refine xq_go (wr := w_Nm k ad_this_names z_this_names) (stk := fun _ => []) (xq_runV (As := []) (rest := []) ⟨hx, hb, hml, hown, hts⟩ (c_Gr_pass (l := l) (o := o) (D := D) (k := k) (ad_this := ad_this) (ad_this_nodes := ad_this_nodes) (ad_this_words := ad_this_words) (q_this_names := (ad_this_names 0)) (q_this_words_keywords := q_this_words_keywords) hw) (cw_Gr_pass hts kw2_157 ⟨Nat.le_of_ble_eq_true rfl, Nat.le_of_ble_eq_true rfl⟩) (va_recv hK hP (ci := 6) (q0 := 0) rfl rfl) (hP.sub [0, 6, 7, 8, 9, 10, 11, 12, 13, 14, 15, 16, 17, 18, 19, 20, 21, 22] rfl) hK hJ hS (va_free hD hS hA [0, 6, 7, 8, 9, 10, 11, 12, 13, 14, 15, 16, 17, 18, 19, 20, 21, 22] rfl) ((hD.sub [0, 6, 7, 8, 9, 10, 11, 12, 13, 14, 15, 16, 17, 18, 19, 20, 21, 22] (by decide) rfl).weaken (fun _ _ _ _ => trivial)) rfl hl.1 (Nat.le_of_ble_eq_true rfl) d_Gr_readNewName_48 ⟨Nat.le_of_ble_eq_true rfl, Nat.le_of_ble_eq_true rfl⟩) hP hD hS hA [0, 6, 7, 8, 9, 10, 11, 12, 13, 14, 15, 16, 17, 18, 19, 20, 21, 22] [1, 2, 3, 4, 5] rfl rfl (by decide) (by decide) (fun _ => rfl) (fun r4 u4 H locs hw hP hD hS => ?_) (fun x u H locs hw hP hD hS hE => ?_)
        · have hP : va_P D vwCl (w_Gr k ad_this (ad_this_words 0) (ad_this_names 0) (ad_this_nodes 0) u4.1 ++ w_Nm k ad_this_names z_this_names ++ w_Nd k ad_this_nodes z_this_nodes ++ w_Wd k ad_this_words q_this_words_keywords u4.2) H := hP.sub [5, 0, 1, 2, 3, 4, 6, 7, 8, 9, 10, 11, 12, 13, 14, 15, 16, 17, 18, 19, 20, 21, 22] rfl
          have hD : va_D A (w_Gr k ad_this (ad_this_words 0) (ad_this_names 0) (ad_this_nodes 0) u4.1 ++ w_Nm k ad_this_names z_this_names ++ w_Nd k ad_this_nodes z_this_nodes ++ w_Wd k ad_this_words q_this_words_keywords u4.2) := hD.sub [5, 0, 1, 2, 3, 4, 6, 7, 8, 9, 10, 11, 12, 13, 14, 15, 16, 17, 18, 19, 20, 21, 22] (by decide) rfl
          refine lv_lload_n hx hb d_Gr_readNewName_51 rfl (lv_at hl 0 rfl) ?_
          exact xq_lret (r := u1.2.2.2.2.2.2.2.2.2.2.2.2.2.2) (u := (u4.1, u4.2)) hx hb hr hlocks hAe hP hD hS rfl hw (Nat.le_of_ble_eq_true rfl) (Nat.le_of_ble_eq_true rfl) d_Gr_readNewName_52
        · have hP : va_P D vwCl (w_Gr k ad_this (ad_this_words 0) (ad_this_names 0) (ad_this_nodes 0) u.1 ++ w_Nm k ad_this_names z_this_names ++ w_Nd k ad_this_nodes z_this_nodes ++ w_Wd k ad_this_words q_this_words_keywords u.2) H := hP.sub [5, 0, 1, 2, 3, 4, 6, 7, 8, 9, 10, 11, 12, 13, 14, 15, 16, 17, 18, 19, 20, 21, 22] rfl
          have hD : va_D A (w_Gr k ad_this (ad_this_words 0) (ad_this_names 0) (ad_this_nodes 0) u.1 ++ w_Nm k ad_this_names z_this_names ++ w_Nd k ad_this_nodes z_this_nodes ++ w_Wd k ad_this_words q_this_words_keywords u.2) := hD.sub [5, 0, 1, 2, 3, 4, 6, 7, 8, 9, 10, 11, 12, 13, 14, 15, 16, 17, 18, 19, 20, 21, 22] (by decide) rfl
          exact xq_out (u := (u.1, u.2)) hex hlocks hAe hP hD hS hw hE (Nat.le_of_ble_eq_true rfl) (Nat.le_of_ble_eq_true rfl)
      · have hw := hw.1 hc
        refine lv_aload_n hx hb d_Gr_readNewName_36 rfl (lv_at hl 1 rfl) ?_
        refine lv_aload_n hx hb d_Gr_readNewName_37 rfl (lv_at hl 1 rfl) ?_
        refine va_get (D := D) (ci := 6) (v := .ref (ad_this_words 0)) (C := R_Gr) (T := F_Gr) (N := 4) hx hb hts in_Gr hown hK hP 0 rfl rfl 0 (by decide) (hts (.fieldLink R_Gr 9 R_Gr "words" "LStepText$Words;") kw2_7) (fun _ h9 => h9) rfl d_Gr_readNewName_38 ?_
        refine va_get (D := D) (ci := 2) (v := .int u1.2.2.2.2.2.2.2.2.2.2.2.2.1) (C := R_Wd) (T := F_Wd) (N := 15) hx hb hts in_Wd hown hK hP 17 rfl rfl 12 (by decide) (hts (.fieldLink R_Gr 96 R_Wd "place" "I") kw1_111) (fun _ h9 => h9) rfl d_Gr_readNewName_41 ?_
        refine xq_go (wr := w_Nm k ad_this_names z_this_names ++ w_Nd k ad_this_nodes z_this_nodes ++ w_Wd k ad_this_words q_this_words_keywords u1.2) (stk := fun _ => []) (xq_runV (As := [.int u1.2.2.2.2.2.2.2.2.2.2.2.2.1]) (rest := []) ⟨hx, hb, hml, hown, hts⟩ (c_Gr_refuse (l := l) (o := o) (D := D) (k := k) (ad_this := ad_this) (q_this_words := (ad_this_words 0)) (q_this_names := (ad_this_names 0)) (q_this_nodes := (ad_this_nodes 0)) hw) (cw_Gr_refuse hts kw2_165 ⟨Nat.le_of_ble_eq_true rfl, Nat.le_of_ble_eq_true rfl⟩) (va_recv hK hP (ci := 6) (q0 := 0) rfl rfl) (hP.sub [0] rfl) hK hJ hS (va_free hD hS hA [0] rfl) ((hD.sub [0] (by decide) rfl).weaken (fun _ _ _ _ => trivial)) rfl hl.1 (Nat.le_of_ble_eq_true rfl) d_Gr_readNewName_44 ⟨Nat.le_of_ble_eq_true rfl, Nat.le_of_ble_eq_true rfl⟩) hP hD hS hA [0] [1, 2, 3, 4, 5, 6, 7, 8, 9, 10, 11, 12, 13, 14, 15, 16, 17, 18, 19, 20, 21, 22] rfl rfl (by decide) (by decide) (fun _ => rfl) (fun _ _ _ _ h9 => h9.elim) (fun x u H locs hw hP hD hS hE => ?_)
        have hP : va_P D vwCl (w_Gr k ad_this (ad_this_words 0) (ad_this_names 0) (ad_this_nodes 0) u ++ w_Nm k ad_this_names z_this_names ++ w_Nd k ad_this_nodes z_this_nodes ++ w_Wd k ad_this_words q_this_words_keywords u1.2) H := hP.sub [22, 0, 1, 2, 3, 4, 5, 6, 7, 8, 9, 10, 11, 12, 13, 14, 15, 16, 17, 18, 19, 20, 21] rfl
        have hD : va_D A (w_Gr k ad_this (ad_this_words 0) (ad_this_names 0) (ad_this_nodes 0) u ++ w_Nm k ad_this_names z_this_names ++ w_Nd k ad_this_nodes z_this_nodes ++ w_Wd k ad_this_words q_this_words_keywords u1.2) := hD.sub [22, 0, 1, 2, 3, 4, 5, 6, 7, 8, 9, 10, 11, 12, 13, 14, 15, 16, 17, 18, 19, 20, 21] (by decide) rfl
        exact xq_out (u := (u, u1.2)) hex hlocks hAe hP hD hS hw hE (Nat.le_of_ble_eq_true rfl) (Nat.le_of_ble_eq_true rfl)
  · have hP : va_P D vwCl (w_Gr k ad_this (ad_this_words 0) (ad_this_names 0) (ad_this_nodes 0) u.1 ++ w_Nm k ad_this_names z_this_names ++ w_Nd k ad_this_nodes z_this_nodes ++ w_Wd k ad_this_words q_this_words_keywords u.2) H := hP.sub [5, 0, 1, 2, 3, 4, 6, 7, 8, 9, 10, 11, 12, 13, 14, 15, 16, 17, 18, 19, 20, 21, 22] rfl
    have hD : va_D A (w_Gr k ad_this (ad_this_words 0) (ad_this_names 0) (ad_this_nodes 0) u.1 ++ w_Nm k ad_this_names z_this_names ++ w_Nd k ad_this_nodes z_this_nodes ++ w_Wd k ad_this_words q_this_words_keywords u.2) := hD.sub [5, 0, 1, 2, 3, 4, 6, 7, 8, 9, 10, 11, 12, 13, 14, 15, 16, 17, 18, 19, 20, 21, 22] (by decide) rfl
    exact xq_out (u := (u.1, u.2)) hex hlocks hAe hP hD hS hw hE (Nat.le_of_ble_eq_true rfl) (Nat.le_of_ble_eq_true rfl)
theorem cw_Gr_readNewName {R : Room} {s : State} {args : Array Value} {own : String} {index : Nat} (hts : ∀ w ∈ xq_W, w.before args s = true) (hl : .methodLink own index y_Gr_readNewName ∈ xq_W) {rm : Room} (hR : rm.frames + 1 ≤ R.frames ∧ 8 + (3 + 11) + rm.locals ≤ R.locals) : CallW R s args own "StepText$Grammar" index y_Gr_readNewName prog_2_method_9_code 3 (some (.long)) (.code y_Gr_readNewName prog_2_method_9_code 3 (some (.long)) :: xq_W) rm rm.cells rm.slots 0 := ⟨xq_cb 0 hts kw2_156 kw1_11 hl ⟨by decide, by decide, by decide +kernel⟩ hR, hts _ kw2_155, hts _ kp1_8⟩
def y_Gr_refuseOneMore : MethodName := ⟨"StepText$Grammar", "refuseOneMore", "(I)V"⟩
theorem d_Gr_refuseOneMore_0 : decode prog_2_method_8_code 0 = .ok (.iload_n 1, 1) := by decide +kernel
theorem d_Gr_refuseOneMore_1 : decode prog_2_method_8_code 1 = .ok (.bipush 60, 2) := by decide +kernel
theorem d_Gr_refuseOneMore_3 : decode prog_2_method_8_code 3 = .ok (.if_icmp .lt 14, 3) := by decide +kernel
theorem d_Gr_refuseOneMore_6 : decode prog_2_method_8_code 6 = .ok (.aload_n 0, 1) := by decide +kernel
theorem d_Gr_refuseOneMore_7 : decode prog_2_method_8_code 7 = .ok (.aload_n 0, 1) := by decide +kernel
theorem d_Gr_refuseOneMore_8 : decode prog_2_method_8_code 8 = .ok (.getfield 9, 3) := by decide +kernel
theorem d_Gr_refuseOneMore_11 : decode prog_2_method_8_code 11 = .ok (.getfield 96, 3) := by decide +kernel
theorem d_Gr_refuseOneMore_14 : decode prog_2_method_8_code 14 = .ok (.invokevirtual 99, 3) := by decide +kernel
theorem d_Gr_refuseOneMore_17 : decode prog_2_method_8_code 17 = .ok (.return_, 1) := by decide +kernel
def wp_Gr_refuseOneMore (z_this : T_Gr) (z_this_words : T_Wd) (a1 : Int32) (post : Unit → T_Gr → Prop) (postT : T_Gr → Prop) : Prop := (a1 < (60 : Int32) → (post () z_this)) ∧ (¬ a1 < (60 : Int32) → (wp_Gr_refuse z_this z_this_words.2.2.2.2.2.2.2.2.2.2.2.1 (fun (u : T_Gr) => postT u)))
def rm_Gr_refuseOneMore : Room := { frames := 7, cells := 1, slots := 6, locals := 121 }
set_option maxHeartbeats 4000000 in
set_option maxRecDepth 100000 in
theorem c_Gr_refuseOneMore {l : Launch} {o : State × Array Value} {D : va_G} {k : Nat → ClassId} {ad_this : Nat → Nat} {ad_this_words : Nat → Nat} {q_this_names : Nat} {q_this_nodes : Nat} {q_this_words_keywords : Nat} {z_this : T_Gr} {z_this_words : T_Wd} {a1 : Int32} {post : Unit → T_Gr → Prop} {postT : T_Gr → Prop} (hw : wp_Gr_refuseOneMore z_this z_this_words a1 post postT) : xq_C l o y_Gr_refuseOneMore (.code y_Gr_refuseOneMore prog_2_method_8_code 2 none :: xq_W) rm_Gr_refuseOneMore D vwCl (xt k) [.ref (ad_this 0), .int a1] (w_Gr k ad_this (ad_this_words 0) q_this_names q_this_nodes z_this ++ w_Wd k ad_this_words q_this_words_keywords z_this_words) (fun _ : Unit => none) post postT (fun u : T_Gr => w_Gr k ad_this (ad_this_words 0) q_this_names q_this_nodes u ++ w_Wd k ad_this_words q_this_words_keywords z_this_words) 0 0 1 6 := by
  refine xq_ofW (cc := prog_2_method_8_code) (maxL := 2) (ret := none) (by decide) rfl (Nat.le_of_ble_eq_true rfl) ?_
  intro p e s m below meth c ls H locs A hAt hAe hA hl hK hJ hP0 hP hD hS
  obtain ⟨hx, hb, hml, hr, hlocks, hown, hts, hex, hnm⟩ := id hAt
  have hl : lv_has ls 2 [(0, .ref (ad_this 0)), (1, .int a1)] := hl
  unfold wp_Gr_refuseOneMore at hw
  refine lv_iload_n hx hb d_Gr_refuseOneMore_0 rfl (lv_at hl 1 rfl) ?_
  refine lv_bipush (v := (60 : Int32)) hx hb d_Gr_refuseOneMore_1 (by decide) ?_
  refine lv_icmp_lt (tgt := 17) hx hb d_Gr_refuseOneMore_3 (by decide) (fun hc => ?_) (fun hc => ?_)
  · have hw := hw.1 hc
    exact xq_vret (r := ()) (u := z_this) hx hb hr hlocks hAe hP hD hS rfl hw (Nat.le_of_ble_eq_true rfl) (Nat.le_of_ble_eq_true rfl) d_Gr_refuseOneMore_17
  · have hw := hw.2 hc
    refine lv_aload_n hx hb d_Gr_refuseOneMore_6 rfl (lv_at hl 0 rfl) ?_
    refine lv_aload_n hx hb d_Gr_refuseOneMore_7 rfl (lv_at hl 0 rfl) ?_
    refine va_get (D := D) (ci := 6) (v := .ref (ad_this_words 0)) (C := R_Gr) (T := F_Gr) (N := 4) hx hb hts in_Gr hown hK hP 0 rfl rfl 0 (by decide) (hts (.fieldLink R_Gr 9 R_Gr "words" "LStepText$Words;") kw2_7) (fun _ h9 => h9) rfl d_Gr_refuseOneMore_8 ?_
    refine va_get (D := D) (ci := 2) (v := .int z_this_words.2.2.2.2.2.2.2.2.2.2.2.1) (C := R_Wd) (T := F_Wd) (N := 15) hx hb hts in_Wd hown hK hP 1 rfl rfl 12 (by decide) (hts (.fieldLink R_Gr 96 R_Wd "place" "I") kw1_111) (fun _ h9 => h9) rfl d_Gr_refuseOneMore_11 ?_
    refine xq_go (wr := w_Wd k ad_this_words q_this_words_keywords z_this_words) (stk := fun _ => []) (xq_runV (As := [.int z_this_words.2.2.2.2.2.2.2.2.2.2.2.1]) (rest := []) ⟨hx, hb, hml, hown, hts⟩ (c_Gr_refuse (l := l) (o := o) (D := D) (k := k) (ad_this := ad_this) (q_this_words := (ad_this_words 0)) (q_this_names := q_this_names) (q_this_nodes := q_this_nodes) hw) (cw_Gr_refuse hts kw2_165 ⟨Nat.le_of_ble_eq_true rfl, Nat.le_of_ble_eq_true rfl⟩) (va_recv hK hP (ci := 6) (q0 := 0) rfl rfl) (hP.sub [0] rfl) hK hJ hS (va_free hD hS hA [0] rfl) ((hD.sub [0] (by decide) rfl).weaken (fun _ _ _ _ => trivial)) rfl hl.1 (Nat.le_of_ble_eq_true rfl) d_Gr_refuseOneMore_14 ⟨Nat.le_of_ble_eq_true rfl, Nat.le_of_ble_eq_true rfl⟩) hP hD hS hA [0] [1, 2, 3, 4, 5, 6] rfl rfl (by decide) (by decide) (fun _ => rfl) (fun _ _ _ _ h9 => h9.elim) (fun x u H locs hw hP hD hS hE => ?_)
    have hP : va_P D vwCl (w_Gr k ad_this (ad_this_words 0) q_this_names q_this_nodes u ++ w_Wd k ad_this_words q_this_words_keywords z_this_words) H := hP.sub [6, 0, 1, 2, 3, 4, 5] rfl
    have hD : va_D A (w_Gr k ad_this (ad_this_words 0) q_this_names q_this_nodes u ++ w_Wd k ad_this_words q_this_words_keywords z_this_words) := hD.sub [6, 0, 1, 2, 3, 4, 5] (by decide) rfl
    exact xq_out (u := u) hex hlocks hAe hP hD hS hw hE (Nat.le_of_ble_eq_true rfl) (Nat.le_of_ble_eq_true rfl)
theorem cw_Gr_refuseOneMore {R : Room} {s : State} {args : Array Value} {own : String} {index : Nat} (hts : ∀ w ∈ xq_W, w.before args s = true) (hl : .methodLink own index y_Gr_refuseOneMore ∈ xq_W) {rm : Room} (hR : rm.frames + 1 ≤ R.frames ∧ 8 + (2 + 11) + rm.locals ≤ R.locals) : CallW R s args own "StepText$Grammar" index y_Gr_refuseOneMore prog_2_method_8_code 2 none (.code y_Gr_refuseOneMore prog_2_method_8_code 2 none :: xq_W) rm rm.cells rm.slots 1 := ⟨xq_cb 1 hts kw3_10 kw1_11 hl ⟨by decide, by decide, by decide +kernel⟩ hR, hts _ kw3_9, hts _ kp1_13⟩
def y_Gr_take : MethodName := ⟨"StepText$Grammar", "take", "(I)V"⟩
theorem d_Gr_take_0 : decode prog_2_method_7_code 0 = .ok (.aload_n 0, 1) := by decide +kernel
theorem d_Gr_take_1 : decode prog_2_method_7_code 1 = .ok (.getfield 9, 3) := by decide +kernel
theorem d_Gr_take_4 : decode prog_2_method_7_code 4 = .ok (.getfield 44, 3) := by decide +kernel
theorem d_Gr_take_7 : decode prog_2_method_7_code 7 = .ok (.iload_n 1, 1) := by decide +kernel
theorem d_Gr_take_8 : decode prog_2_method_7_code 8 = .ok (.if_icmp .eq 14, 3) := by decide +kernel
theorem d_Gr_take_11 : decode prog_2_method_7_code 11 = .ok (.aload_n 0, 1) := by decide +kernel
theorem d_Gr_take_12 : decode prog_2_method_7_code 12 = .ok (.aload_n 0, 1) := by decide +kernel
theorem d_Gr_take_13 : decode prog_2_method_7_code 13 = .ok (.getfield 9, 3) := by decide +kernel
theorem d_Gr_take_16 : decode prog_2_method_7_code 16 = .ok (.getfield 96, 3) := by decide +kernel
theorem d_Gr_take_19 : decode prog_2_method_7_code 19 = .ok (.invokevirtual 99, 3) := by decide +kernel
theorem d_Gr_take_22 : decode prog_2_method_7_code 22 = .ok (.aload_n 0, 1) := by decide +kernel
theorem d_Gr_take_23 : decode prog_2_method_7_code 23 = .ok (.invokevirtual 105, 3) := by decide +kernel
theorem d_Gr_take_26 : decode prog_2_method_7_code 26 = .ok (.return_, 1) := by decide +kernel
def wp_Gr_take (z_this : T_Gr) (z_this_nodes : T_Nd) (z_this_words : T_Wd) (a1 : Int32) (post : Unit → T_Gr × T_Wd → Prop) (postT : T_Gr × T_Wd → Prop) : Prop := (z_this_words.2.2.2.2.2.2.2.2.2.2.1 = a1 → (wp_Gr_pass z_this z_this_nodes z_this_words (fun (r1 : Unit) (u1 : T_Gr × T_Wd) => post () (u1.1, u1.2)) (fun (u : T_Gr × T_Wd) => postT (u.1, u.2)))) ∧ (¬ z_this_words.2.2.2.2.2.2.2.2.2.2.1 = a1 → (wp_Gr_refuse z_this z_this_words.2.2.2.2.2.2.2.2.2.2.2.1 (fun (u : T_Gr) => postT (u, z_this_words))))
def rm_Gr_take : Room := { frames := 8, cells := 1, slots := 6, locals := 141 }
set_option maxHeartbeats 4000000 in
set_option maxRecDepth 100000 in
theorem c_Gr_take {l : Launch} {o : State × Array Value} {D : va_G} {k : Nat → ClassId} {ad_this : Nat → Nat} {ad_this_nodes : Nat → Nat} {ad_this_words : Nat → Nat} {q_this_names : Nat} {q_this_words_keywords : Nat} {z_this : T_Gr} {z_this_nodes : T_Nd} {z_this_words : T_Wd} {a1 : Int32} {post : Unit → T_Gr × T_Wd → Prop} {postT : T_Gr × T_Wd → Prop} (hw : wp_Gr_take z_this z_this_nodes z_this_words a1 post postT) : xq_C l o y_Gr_take (.code y_Gr_take prog_2_method_7_code 2 none :: xq_W) rm_Gr_take D vwCl (xt k) [.ref (ad_this 0), .int a1] (w_Gr k ad_this (ad_this_words 0) q_this_names (ad_this_nodes 0) z_this ++ w_Nd k ad_this_nodes z_this_nodes ++ w_Wd k ad_this_words q_this_words_keywords z_this_words) (fun _ : Unit => none) post postT (fun u : T_Gr × T_Wd => w_Gr k ad_this (ad_this_words 0) q_this_names (ad_this_nodes 0) u.1 ++ w_Nd k ad_this_nodes z_this_nodes ++ w_Wd k ad_this_words q_this_words_keywords u.2) 0 0 1 6 := by
  refine xq_ofW (cc := prog_2_method_7_code) (maxL := 2) (ret := none) (by decide) rfl (Nat.le_of_ble_eq_true rfl) ?_
  intro p e s m below meth c ls H locs A hAt hAe hA hl hK hJ hP0 hP hD hS
  obtain ⟨hx, hb, hml, hr, hlocks, hown, hts, hex, hnm⟩ := id hAt
  have hl : lv_has ls 2 [(0, .ref (ad_this 0)), (1, .int a1)] := hl
  unfold wp_Gr_take at hw
  refine lv_aload_n hx hb d_Gr_take_0 rfl (lv_at hl 0 rfl) ?_
  refine va_get (D := D) (ci := 6) (v := .ref (ad_this_words 0)) (C := R_Gr) (T := F_Gr) (N := 4) hx hb hts in_Gr hown hK hP 0 rfl rfl 0 (by decide) (hts (.fieldLink R_Gr 9 R_Gr "words" "LStepText$Words;") kw2_7) (fun _ h9 => h9) rfl d_Gr_take_1 ?_
  refine va_get (D := D) (ci := 2) (v := .int z_this_words.2.2.2.2.2.2.2.2.2.2.1) (C := R_Wd) (T := F_Wd) (N := 15) hx hb hts in_Wd hown hK hP 12 rfl rfl 11 (by decide) (hts (.fieldLink R_Gr 44 R_Wd "code" "I") kw1_108) (fun _ h9 => h9) rfl d_Gr_take_4 ?_
  refine lv_iload_n hx hb d_Gr_take_7 rfl (lv_at hl 1 rfl) ?_
  refine lv_icmp_eq (tgt := 22) hx hb d_Gr_take_8 (by decide) (fun hc => ?_) (fun hc => ?_)
  · have hw := hw.1 hc
    refine lv_aload_n hx hb d_Gr_take_22 rfl (lv_at hl 0 rfl) ?_
    refine xq_go (wr := ([] : va_W)) (stk := fun _ => []) (xq_runV (As := []) (rest := []) ⟨hx, hb, hml, hown, hts⟩ (c_Gr_pass (l := l) (o := o) (D := D) (k := k) (ad_this := ad_this) (ad_this_nodes := ad_this_nodes) (ad_this_words := ad_this_words) (q_this_names := q_this_names) (q_this_words_keywords := q_this_words_keywords) hw) (cw_Gr_pass hts kw2_157 ⟨Nat.le_of_ble_eq_true rfl, Nat.le_of_ble_eq_true rfl⟩) (va_recv hK hP (ci := 6) (q0 := 0) rfl rfl) (hP.sub [0, 1, 2, 3, 4, 5, 6, 7, 8, 9, 10, 11, 12, 13, 14, 15, 16, 17] rfl) hK hJ hS (va_free hD hS hA [0, 1, 2, 3, 4, 5, 6, 7, 8, 9, 10, 11, 12, 13, 14, 15, 16, 17] rfl) ((hD.sub [0, 1, 2, 3, 4, 5, 6, 7, 8, 9, 10, 11, 12, 13, 14, 15, 16, 17] (by decide) rfl).weaken (fun _ _ _ _ => trivial)) rfl hl.1 (Nat.le_of_ble_eq_true rfl) d_Gr_take_23 ⟨Nat.le_of_ble_eq_true rfl, Nat.le_of_ble_eq_true rfl⟩) hP hD hS hA [0, 1, 2, 3, 4, 5, 6, 7, 8, 9, 10, 11, 12, 13, 14, 15, 16, 17] [] rfl rfl (by decide) (by decide) (fun _ => rfl) (fun r1 u1 H locs hw hP hD hS => ?_) (fun x u H locs hw hP hD hS hE => ?_)
    · have hP : va_P D vwCl (w_Gr k ad_this (ad_this_words 0) q_this_names (ad_this_nodes 0) u1.1 ++ w_Nd k ad_this_nodes z_this_nodes ++ w_Wd k ad_this_words q_this_words_keywords u1.2) H := hP.sub [0, 1, 2, 3, 4, 5, 6, 7, 8, 9, 10, 11, 12, 13, 14, 15, 16, 17] rfl
      have hD : va_D A (w_Gr k ad_this (ad_this_words 0) q_this_names (ad_this_nodes 0) u1.1 ++ w_Nd k ad_this_nodes z_this_nodes ++ w_Wd k ad_this_words q_this_words_keywords u1.2) := hD.sub [0, 1, 2, 3, 4, 5, 6, 7, 8, 9, 10, 11, 12, 13, 14, 15, 16, 17] (by decide) rfl
      exact xq_vret (r := ()) (u := (u1.1, u1.2)) hx hb hr hlocks hAe hP hD hS rfl hw (Nat.le_of_ble_eq_true rfl) (Nat.le_of_ble_eq_true rfl) d_Gr_take_26
    · have hP : va_P D vwCl (w_Gr k ad_this (ad_this_words 0) q_this_names (ad_this_nodes 0) u.1 ++ w_Nd k ad_this_nodes z_this_nodes ++ w_Wd k ad_this_words q_this_words_keywords u.2) H := hP.sub [0, 1, 2, 3, 4, 5, 6, 7, 8, 9, 10, 11, 12, 13, 14, 15, 16, 17] rfl
      have hD : va_D A (w_Gr k ad_this (ad_this_words 0) q_this_names (ad_this_nodes 0) u.1 ++ w_Nd k ad_this_nodes z_this_nodes ++ w_Wd k ad_this_words q_this_words_keywords u.2) := hD.sub [0, 1, 2, 3, 4, 5, 6, 7, 8, 9, 10, 11, 12, 13, 14, 15, 16, 17] (by decide) rfl
      exact xq_out (u := (u.1, u.2)) hex hlocks hAe hP hD hS hw hE (Nat.le_of_ble_eq_true rfl) (Nat.le_of_ble_eq_true rfl)
  · have hw := hw.2 hc
    refine lv_aload_n hx hb d_Gr_take_11 rfl (lv_at hl 0 rfl) ?_
    refine lv_aload_n hx hb d_Gr_take_12 rfl (lv_at hl 0 rfl) ?_
    refine va_get (D := D) (ci := 6) (v := .ref (ad_this_words 0)) (C := R_Gr) (T := F_Gr) (N := 4) hx hb hts in_Gr hown hK hP 0 rfl rfl 0 (by decide) (hts (.fieldLink R_Gr 9 R_Gr "words" "LStepText$Words;") kw2_7) (fun _ h9 => h9) rfl d_Gr_take_13 ?_
    refine va_get (D := D) (ci := 2) (v := .int z_this_words.2.2.2.2.2.2.2.2.2.2.2.1) (C := R_Wd) (T := F_Wd) (N := 15) hx hb hts in_Wd hown hK hP 12 rfl rfl 12 (by decide) (hts (.fieldLink R_Gr 96 R_Wd "place" "I") kw1_111) (fun _ h9 => h9) rfl d_Gr_take_16 ?_
    refine xq_go (wr := w_Nd k ad_this_nodes z_this_nodes ++ w_Wd k ad_this_words q_this_words_keywords z_this_words) (stk := fun _ => []) (xq_runV (As := [.int z_this_words.2.2.2.2.2.2.2.2.2.2.2.1]) (rest := []) ⟨hx, hb, hml, hown, hts⟩ (c_Gr_refuse (l := l) (o := o) (D := D) (k := k) (ad_this := ad_this) (q_this_words := (ad_this_words 0)) (q_this_names := q_this_names) (q_this_nodes := (ad_this_nodes 0)) hw) (cw_Gr_refuse hts kw2_165 ⟨Nat.le_of_ble_eq_true rfl, Nat.le_of_ble_eq_true rfl⟩) (va_recv hK hP (ci := 6) (q0 := 0) rfl rfl) (hP.sub [0] rfl) hK hJ hS (va_free hD hS hA [0] rfl) ((hD.sub [0] (by decide) rfl).weaken (fun _ _ _ _ => trivial)) rfl hl.1 (Nat.le_of_ble_eq_true rfl) d_Gr_take_19 ⟨Nat.le_of_ble_eq_true rfl, Nat.le_of_ble_eq_true rfl⟩) hP hD hS hA [0] [1, 2, 3, 4, 5, 6, 7, 8, 9, 10, 11, 12, 13, 14, 15, 16, 17] rfl rfl (by decide) (by decide) (fun _ => rfl) (fun _ _ _ _ h9 => h9.elim) (fun x u H locs hw hP hD hS hE => ?_)
    have hP : va_P D vwCl (w_Gr k ad_this (ad_this_words 0) q_this_names (ad_this_nodes 0) u ++ w_Nd k ad_this_nodes z_this_nodes ++ w_Wd k ad_this_words q_this_words_keywords z_this_words) H := hP.sub [17, 0, 1, 2, 3, 4, 5, 6, 7, 8, 9, 10, 11, 12, 13, 14, 15, 16] rfl
    have hD : va_D A (w_Gr k ad_this (ad_this_words 0) q_this_names (ad_this_nodes 0) u ++ w_Nd k ad_this_nodes z_this_nodes ++ w_Wd k ad_this_words q_this_words_keywords z_this_words) := hD.sub [17, 0, 1, 2, 3, 4, 5, 6, 7, 8, 9, 10, 11, 12, 13, 14, 15, 16] (by decide) rfl
    exact xq_out (u := (u, z_this_words)) hex hlocks hAe hP hD hS hw hE (Nat.le_of_ble_eq_true rfl) (Nat.le_of_ble_eq_true rfl)
theorem cw_Gr_take {R : Room} {s : State} {args : Array Value} {own : String} {index : Nat} (hts : ∀ w ∈ xq_W, w.before args s = true) (hl : .methodLink own index y_Gr_take ∈ xq_W) {rm : Room} (hR : rm.frames + 1 ≤ R.frames ∧ 8 + (2 + 11) + rm.locals ≤ R.locals) : CallW R s args own "StepText$Grammar" index y_Gr_take prog_2_method_7_code 2 none (.code y_Gr_take prog_2_method_7_code 2 none :: xq_W) rm rm.cells rm.slots 1 := ⟨xq_cb 1 hts kw3_14 kw1_11 hl ⟨by decide, by decide, by decide +kernel⟩ hR, hts _ kw3_13, hts _ kp1_14⟩
def y_Gr_readName : MethodName := ⟨"StepText$Grammar", "readName", "(I)I"⟩
theorem d_Gr_readName_0 : decode prog_2_method_15_code 0 = .ok (.aload_n 0, 1) := by decide +kernel
theorem d_Gr_readName_1 : decode prog_2_method_15_code 1 = .ok (.getfield 9, 3) := by decide +kernel
theorem d_Gr_readName_4 : decode prog_2_method_15_code 4 = .ok (.getfield 44, 3) := by decide +kernel
theorem d_Gr_readName_7 : decode prog_2_method_15_code 7 = .ok (.sipush 128, 3) := by decide +kernel
theorem d_Gr_readName_10 : decode prog_2_method_15_code 10 = .ok (.if_icmp .ne 20, 3) := by decide +kernel
theorem d_Gr_readName_13 : decode prog_2_method_15_code 13 = .ok (.aload_n 0, 1) := by decide +kernel
theorem d_Gr_readName_14 : decode prog_2_method_15_code 14 = .ok (.getfield 21, 3) := by decide +kernel
theorem d_Gr_readName_17 : decode prog_2_method_15_code 17 = .ok (.aload_n 0, 1) := by decide +kernel
theorem d_Gr_readName_18 : decode prog_2_method_15_code 18 = .ok (.getfield 9, 3) := by decide +kernel
theorem d_Gr_readName_21 : decode prog_2_method_15_code 21 = .ok (.getfield 108, 3) := by decide +kernel
theorem d_Gr_readName_24 : decode prog_2_method_15_code 24 = .ok (.invokevirtual 149, 3) := by decide +kernel
theorem d_Gr_readName_27 : decode prog_2_method_15_code 27 = .ok (.goto 4, 3) := by decide +kernel
theorem d_Gr_readName_30 : decode prog_2_method_15_code 30 = .ok (.iconst (-1), 1) := by decide +kernel
theorem d_Gr_readName_31 : decode prog_2_method_15_code 31 = .ok (.istore_n 2, 1) := by decide +kernel
theorem d_Gr_readName_32 : decode prog_2_method_15_code 32 = .ok (.iload_n 2, 1) := by decide +kernel
theorem d_Gr_readName_33 : decode prog_2_method_15_code 33 = .ok (.iconst (-1), 1) := by decide +kernel
theorem d_Gr_readName_34 : decode prog_2_method_15_code 34 = .ok (.if_icmp .eq 15, 3) := by decide +kernel
theorem d_Gr_readName_37 : decode prog_2_method_15_code 37 = .ok (.aload_n 0, 1) := by decide +kernel
theorem d_Gr_readName_38 : decode prog_2_method_15_code 38 = .ok (.getfield 21, 3) := by decide +kernel
theorem d_Gr_readName_41 : decode prog_2_method_15_code 41 = .ok (.iload_n 2, 1) := by decide +kernel
theorem d_Gr_readName_42 : decode prog_2_method_15_code 42 = .ok (.invokevirtual 153, 3) := by decide +kernel
theorem d_Gr_readName_45 : decode prog_2_method_15_code 45 = .ok (.iload_n 1, 1) := by decide +kernel
theorem d_Gr_readName_46 : decode prog_2_method_15_code 46 = .ok (.if_icmp .eq 14, 3) := by decide +kernel
theorem d_Gr_readName_49 : decode prog_2_method_15_code 49 = .ok (.aload_n 0, 1) := by decide +kernel
theorem d_Gr_readName_50 : decode prog_2_method_15_code 50 = .ok (.aload_n 0, 1) := by decide +kernel
theorem d_Gr_readName_51 : decode prog_2_method_15_code 51 = .ok (.getfield 9, 3) := by decide +kernel
theorem d_Gr_readName_54 : decode prog_2_method_15_code 54 = .ok (.getfield 96, 3) := by decide +kernel
theorem d_Gr_readName_57 : decode prog_2_method_15_code 57 = .ok (.invokevirtual 99, 3) := by decide +kernel
theorem d_Gr_readName_60 : decode prog_2_method_15_code 60 = .ok (.aload_n 0, 1) := by decide +kernel
theorem d_Gr_readName_61 : decode prog_2_method_15_code 61 = .ok (.invokevirtual 105, 3) := by decide +kernel
theorem d_Gr_readName_64 : decode prog_2_method_15_code 64 = .ok (.iload_n 2, 1) := by decide +kernel
theorem d_Gr_readName_65 : decode prog_2_method_15_code 65 = .ok (.ireturn, 1) := by decide +kernel
def wp_Gr_readName (z_this : T_Gr) (z_this_names : T_Nm) (z_this_nodes : T_Nd) (z_this_words : T_Wd) (a1 : Int32) (post : Int32 → T_Gr × T_Wd → Prop) (postT : T_Gr × T_Wd → Prop) : Prop := (z_this_words.2.2.2.2.2.2.2.2.2.2.1 = (128 : Int32) → (wp_Nm_find z_this_names z_this_words.2.2.2.2.2.2.2.2.2.2.2.2.2 (fun (r5 : Int32) (u5 : Unit) => (r5 = (-1 : Int32) → (wp_Gr_refuse z_this z_this_words.2.2.2.2.2.2.2.2.2.2.2.1 (fun (u : T_Gr) => postT (u, z_this_words)))) ∧ (¬ r5 = (-1 : Int32) → (wp_Nm_sortOf z_this_names r5 (fun (r7 : Int32) (u7 : Unit) => (r7 = a1 → (wp_Gr_pass z_this z_this_nodes z_this_words (fun (r8 : Unit) (u8 : T_Gr × T_Wd) => post r5 (u8.1, u8.2)) (fun (u : T_Gr × T_Wd) => postT (u.1, u.2)))) ∧ (¬ r7 = a1 → (wp_Gr_refuse z_this z_this_words.2.2.2.2.2.2.2.2.2.2.2.1 (fun (u : T_Gr) => postT (u, z_this_words)))))))))) ∧ (¬ z_this_words.2.2.2.2.2.2.2.2.2.2.1 = (128 : Int32) → (((-1 : Int32) = (-1 : Int32) → (wp_Gr_refuse z_this z_this_words.2.2.2.2.2.2.2.2.2.2.2.1 (fun (u : T_Gr) => postT (u, z_this_words)))) ∧ (¬ (-1 : Int32) = (-1 : Int32) → (wp_Nm_sortOf z_this_names (-1 : Int32) (fun (r2 : Int32) (u2 : Unit) => (r2 = a1 → (wp_Gr_pass z_this z_this_nodes z_this_words (fun (r3 : Unit) (u3 : T_Gr × T_Wd) => post (-1 : Int32) (u3.1, u3.2)) (fun (u : T_Gr × T_Wd) => postT (u.1, u.2)))) ∧ (¬ r2 = a1 → (wp_Gr_refuse z_this z_this_words.2.2.2.2.2.2.2.2.2.2.2.1 (fun (u : T_Gr) => postT (u, z_this_words)))))))))
def rm_Gr_readName : Room := { frames := 8, cells := 1, slots := 6, locals := 141 }
set_option maxHeartbeats 4000000 in
set_option maxRecDepth 100000 in
theorem c_Gr_readName {l : Launch} {o : State × Array Value} {D : va_G} {k : Nat → ClassId} {ad_this : Nat → Nat} {ad_this_names : Nat → Nat} {ad_this_nodes : Nat → Nat} {ad_this_words : Nat → Nat} {q_this_words_keywords : Nat} {z_this : T_Gr} {z_this_names : T_Nm} {z_this_nodes : T_Nd} {z_this_words : T_Wd} {a1 : Int32} {post : Int32 → T_Gr × T_Wd → Prop} {postT : T_Gr × T_Wd → Prop} (hw : wp_Gr_readName z_this z_this_names z_this_nodes z_this_words a1 post postT) : xq_C l o y_Gr_readName (.code y_Gr_readName prog_2_method_15_code 3 (some (.int)) :: xq_W) rm_Gr_readName D vwCl (xt k) [.ref (ad_this 0), .int a1] (w_Gr k ad_this (ad_this_words 0) (ad_this_names 0) (ad_this_nodes 0) z_this ++ w_Nm k ad_this_names z_this_names ++ w_Nd k ad_this_nodes z_this_nodes ++ w_Wd k ad_this_words q_this_words_keywords z_this_words) (fun r : Int32 => some (.int r)) post postT (fun u : T_Gr × T_Wd => w_Gr k ad_this (ad_this_words 0) (ad_this_names 0) (ad_this_nodes 0) u.1 ++ w_Nm k ad_this_names z_this_names ++ w_Nd k ad_this_nodes z_this_nodes ++ w_Wd k ad_this_words q_this_words_keywords u.2) 0 0 1 6 := by
  refine xq_ofW (cc := prog_2_method_15_code) (maxL := 3) (ret := (some (.int))) (by decide) rfl (Nat.le_of_ble_eq_true rfl) ?_
  intro p e s m below meth c ls H locs A hAt hAe hA hl hK hJ hP0 hP hD hS
  obtain ⟨hx, hb, hml, hr, hlocks, hown, hts, hex, hnm⟩ := id hAt
  have hl : lv_has ls 3 [(0, .ref (ad_this 0)), (1, .int a1)] := hl
  unfold wp_Gr_readName at hw
  refine lv_aload_n hx hb d_Gr_readName_0 rfl (lv_at hl 0 rfl) ?_
  refine va_get (D := D) (ci := 6) (v := .ref (ad_this_words 0)) (C := R_Gr) (T := F_Gr) (N := 4) hx hb hts in_Gr hown hK hP 0 rfl rfl 0 (by decide) (hts (.fieldLink R_Gr 9 R_Gr "words" "LStepText$Words;") kw2_7) (fun _ h9 => h9) rfl d_Gr_readName_1 ?_
  refine va_get (D := D) (ci := 2) (v := .int z_this_words.2.2.2.2.2.2.2.2.2.2.1) (C := R_Wd) (T := F_Wd) (N := 15) hx hb hts in_Wd hown hK hP 17 rfl rfl 11 (by decide) (hts (.fieldLink R_Gr 44 R_Wd "code" "I") kw1_108) (fun _ h9 => h9) rfl d_Gr_readName_4 ?_
  refine lv_sipush (v := (128 : Int32)) hx hb d_Gr_readName_7 (by decide) ?_
  refine lv_icmp_ne (tgt := 30) hx hb d_Gr_readName_10 (by decide) (fun hc => ?_) (fun hc => ?_)
  · have hw := hw.2 hc
    refine lv_iconst (v := (-1 : Int32)) hx hb d_Gr_readName_30 (by decide) ?_
    refine lv_istore_n (lv' := [(2, .int (-1 : Int32)), (0, .ref (ad_this 0)), (1, .int a1)]) hx hb d_Gr_readName_31 rfl hl (by decide) rfl (fun ls hl => ?_)
    refine lv_iload_n hx hb d_Gr_readName_32 rfl (lv_at hl 0 rfl) ?_
    refine lv_iconst (v := (-1 : Int32)) hx hb d_Gr_readName_33 (by decide) ?_
    refine lv_icmp_eq (tgt := 49) hx hb d_Gr_readName_34 (by decide) (fun hc => ?_) (fun hc => ?_)
    · have hw := hw.1 hc
      refine lv_aload_n hx hb d_Gr_readName_49 rfl (lv_at hl 1 rfl) ?_
      refine lv_aload_n hx hb d_Gr_readName_50 rfl (lv_at hl 1 rfl) ?_
      refine va_get (D := D) (ci := 6) (v := .ref (ad_this_words 0)) (C := R_Gr) (T := F_Gr) (N := 4) hx hb hts in_Gr hown hK hP 0 rfl rfl 0 (by decide) (hts (.fieldLink R_Gr 9 R_Gr "words" "LStepText$Words;") kw2_7) (fun _ h9 => h9) rfl d_Gr_readName_51 ?_
      refine va_get (D := D) (ci := 2) (v := .int z_this_words.2.2.2.2.2.2.2.2.2.2.2.1) (C := R_Wd) (T := F_Wd) (N := 15) hx hb hts in_Wd hown hK hP 17 rfl rfl 12 (by decide) (hts (.fieldLink R_Gr 96 R_Wd "place" "I") kw1_111) (fun _ h9 => h9) rfl d_Gr_readName_54 ?_
      refine xq_go (wr := w_Nm k ad_this_names z_this_names ++ w_Nd k ad_this_nodes z_this_nodes ++ w_Wd k ad_this_words q_this_words_keywords z_this_words) (stk := fun _ => []) (xq_runV (As := [.int z_this_words.2.2.2.2.2.2.2.2.2.2.2.1]) (rest := []) ⟨hx, hb, hml, hown, hts⟩ (c_Gr_refuse (l := l) (o := o) (D := D) (k := k) (ad_this := ad_this) (q_this_words := (ad_this_words 0)) (q_this_names := (ad_this_names 0)) (q_this_nodes := (ad_this_nodes 0)) hw) (cw_Gr_refuse hts kw2_165 ⟨Nat.le_of_ble_eq_true rfl, Nat.le_of_ble_eq_true rfl⟩) (va_recv hK hP (ci := 6) (q0 := 0) rfl rfl) (hP.sub [0] rfl) hK hJ hS (va_free hD hS hA [0] rfl) ((hD.sub [0] (by decide) rfl).weaken (fun _ _ _ _ => trivial)) rfl hl.1 (Nat.le_of_ble_eq_true rfl) d_Gr_readName_57 ⟨Nat.le_of_ble_eq_true rfl, Nat.le_of_ble_eq_true rfl⟩) hP hD hS hA [0] [1, 2, 3, 4, 5, 6, 7, 8, 9, 10, 11, 12, 13, 14, 15, 16, 17, 18, 19, 20, 21, 22] rfl rfl (by decide) (by decide) (fun _ => rfl) (fun _ _ _ _ h9 => h9.elim) (fun x u H locs hw hP hD hS hE => ?_)
      have hP : va_P D vwCl (w_Gr k ad_this (ad_this_words 0) (ad_this_names 0) (ad_this_nodes 0) u ++ w_Nm k ad_this_names z_this_names ++ w_Nd k ad_this_nodes z_this_nodes ++ w_Wd k ad_this_words q_this_words_keywords z_this_words) H := hP.sub [22, 0, 1, 2, 3, 4, 5, 6, 7, 8, 9, 10, 11, 12, 13, 14, 15, 16, 17, 18, 19, 20, 21] rfl
      have hD : va_D A (w_Gr k ad_this (ad_this_words 0) (ad_this_names 0) (ad_this_nodes 0) u ++ w_Nm k ad_this_names z_this_names ++ w_Nd k ad_this_nodes z_this_nodes ++ w_Wd k ad_this_words q_this_words_keywords z_this_words) := hD.sub [22, 0, 1, 2, 3, 4, 5, 6, 7, 8, 9, 10, 11, 12, 13, 14, 15, 16, 17, 18, 19, 20, 21] (by decide) rfl
      exact xq_out (u := (u, z_this_words)) hex hlocks hAe hP hD hS hw hE (Nat.le_of_ble_eq_true rfl) (Nat.le_of_ble_eq_true rfl)
    · have hw := hw.2 hc
      refine lv_aload_n hx hb d_Gr_readName_37 rfl (lv_at hl 1 rfl) ?_
      refine va_get (D := D) (ci := 6) (v := .ref (ad_this_names 0)) (C := R_Gr) (T := F_Gr) (N := 4) hx hb hts in_Gr hown hK hP 0 rfl rfl 1 (by decide) (hts (.fieldLink R_Gr 21 R_Gr "names" "LStepText$Names;") kw2_8) (fun _ h9 => h9) rfl d_Gr_readName_38 ?_
      refine lv_iload_n hx hb d_Gr_readName_41 rfl (lv_at hl 0 rfl) ?_
      refine xq_go (wr := w_Gr k ad_this (ad_this_words 0) (ad_this_names 0) (ad_this_nodes 0) z_this ++ w_Nd k ad_this_nodes z_this_nodes ++ w_Wd k ad_this_words q_this_words_keywords z_this_words) (stk := fun r => .int r :: []) (xq_runV (As := [.int (-1 : Int32)]) (rest := []) ⟨hx, hb, hml, hown, hts⟩ (c_Nm_sortOf (l := l) (o := o) (D := D) (k := k) (ad_this := ad_this_names) hw) (cw_Nm_sortOf hts kw3_24 ⟨Nat.le_of_ble_eq_true rfl, Nat.le_of_ble_eq_true rfl⟩) (va_recv hK hP (ci := 3) (q0 := 1) rfl rfl) (hP.sub [1, 2, 3, 4, 5] rfl) hK hJ hS (va_free hD hS hA [1, 2, 3, 4, 5] rfl) ((hD.sub [1, 2, 3, 4, 5] (by decide) rfl).weaken (fun _ _ _ _ => trivial)) rfl hl.1 (Nat.le_of_ble_eq_true rfl) d_Gr_readName_42 ⟨Nat.le_of_ble_eq_true rfl, Nat.le_of_ble_eq_true rfl⟩) hP hD hS hA [1, 2, 3, 4, 5] [0, 6, 7, 8, 9, 10, 11, 12, 13, 14, 15, 16, 17, 18, 19, 20, 21, 22] rfl rfl (by decide) (by decide) (fun _ => rfl) (fun r2 u2 H locs hw hP hD hS => ?_) (fun _ _ _ _ h9 => h9.elim)
      have hP : va_P D vwCl (w_Gr k ad_this (ad_this_words 0) (ad_this_names 0) (ad_this_nodes 0) z_this ++ w_Nm k ad_this_names z_this_names ++ w_Nd k ad_this_nodes z_this_nodes ++ w_Wd k ad_this_words q_this_words_keywords z_this_words) H := hP.sub [0, 18, 19, 20, 21, 22, 1, 2, 3, 4, 5, 6, 7, 8, 9, 10, 11, 12, 13, 14, 15, 16, 17] rfl
      have hD : va_D A (w_Gr k ad_this (ad_this_words 0) (ad_this_names 0) (ad_this_nodes 0) z_this ++ w_Nm k ad_this_names z_this_names ++ w_Nd k ad_this_nodes z_this_nodes ++ w_Wd k ad_this_words q_this_words_keywords z_this_words) := hD.sub [0, 18, 19, 20, 21, 22, 1, 2, 3, 4, 5, 6, 7, 8, 9, 10, 11, 12, 13, 14, 15, 16, 17] (by decide) rfl
      refine lv_iload_n hx hb d_Gr_readName_45 rfl (lv_at hl 2 rfl) ?_
      refine lv_icmp_eq (tgt := 60) hx hb d_Gr_readName_46 (by decide) (fun hc => ?_) (fun hc => ?_)
      · have hw := hw.1 hc
        refine lv_aload_n hx hb d_Gr_readName_60 rfl (lv_at hl 1 rfl) ?_
        refine xq_go (wr := w_Nm k ad_this_names z_this_names) (stk := fun _ => []) (xq_runV (As := []) (rest := []) ⟨hx, hb, hml, hown, hts⟩ (c_Gr_pass (l := l) (o := o) (D := D) (k := k) (ad_this := ad_this) (ad_this_nodes := ad_this_nodes) (ad_this_words := ad_this_words) (q_this_names := (ad_this_names 0)) (q_this_words_keywords := q_this_words_keywords) hw) (cw_Gr_pass hts kw2_157 ⟨Nat.le_of_ble_eq_true rfl, Nat.le_of_ble_eq_true rfl⟩) (va_recv hK hP (ci := 6) (q0 := 0) rfl rfl) (hP.sub [0, 6, 7, 8, 9, 10, 11, 12, 13, 14, 15, 16, 17, 18, 19, 20, 21, 22] rfl) hK hJ hS (va_free hD hS hA [0, 6, 7, 8, 9, 10, 11, 12, 13, 14, 15, 16, 17, 18, 19, 20, 21, 22] rfl) ((hD.sub [0, 6, 7, 8, 9, 10, 11, 12, 13, 14, 15, 16, 17, 18, 19, 20, 21, 22] (by decide) rfl).weaken (fun _ _ _ _ => trivial)) rfl hl.1 (Nat.le_of_ble_eq_true rfl) d_Gr_readName_61 ⟨Nat.le_of_ble_eq_true rfl, Nat.le_of_ble_eq_true rfl⟩) hP hD hS hA [0, 6, 7, 8, 9, 10, 11, 12, 13, 14, 15, 16, 17, 18, 19, 20, 21, 22] [1, 2, 3, 4, 5] rfl rfl (by decide) (by decide) (fun _ => rfl) (fun r3 u3 H locs hw hP hD hS => ?_) (fun x u H locs hw hP hD hS hE => ?_)
        · have hP : va_P D vwCl (w_Gr k ad_this (ad_this_words 0) (ad_this_names 0) (ad_this_nodes 0) u3.1 ++ w_Nm k ad_this_names z_this_names ++ w_Nd k ad_this_nodes z_this_nodes ++ w_Wd k ad_this_words q_this_words_keywords u3.2) H := hP.sub [5, 0, 1, 2, 3, 4, 6, 7, 8, 9, 10, 11, 12, 13, 14, 15, 16, 17, 18, 19, 20, 21, 22] rfl
          have hD : va_D A (w_Gr k ad_this (ad_this_words 0) (ad_this_names 0) (ad_this_nodes 0) u3.1 ++ w_Nm k ad_this_names z_this_names ++ w_Nd k ad_this_nodes z_this_nodes ++ w_Wd k ad_this_words q_this_words_keywords u3.2) := hD.sub [5, 0, 1, 2, 3, 4, 6, 7, 8, 9, 10, 11, 12, 13, 14, 15, 16, 17, 18, 19, 20, 21, 22] (by decide) rfl
          refine lv_iload_n hx hb d_Gr_readName_64 rfl (lv_at hl 0 rfl) ?_
          exact xq_iret (r := (-1 : Int32)) (u := (u3.1, u3.2)) hx hb hr hlocks hAe hP hD hS rfl hw (Nat.le_of_ble_eq_true rfl) (Nat.le_of_ble_eq_true rfl) d_Gr_readName_65
        · have hP : va_P D vwCl (w_Gr k ad_this (ad_this_words 0) (ad_this_names 0) (ad_this_nodes 0) u.1 ++ w_Nm k ad_this_names z_this_names ++ w_Nd k ad_this_nodes z_this_nodes ++ w_Wd k ad_this_words q_this_words_keywords u.2) H := hP.sub [5, 0, 1, 2, 3, 4, 6, 7, 8, 9, 10, 11, 12, 13, 14, 15, 16, 17, 18, 19, 20, 21, 22] rfl
          have hD : va_D A (w_Gr k ad_this (ad_this_words 0) (ad_this_names 0) (ad_this_nodes 0) u.1 ++ w_Nm k ad_this_names z_this_names ++ w_Nd k ad_this_nodes z_this_nodes ++ w_Wd k ad_this_words q_this_words_keywords u.2) := hD.sub [5, 0, 1, 2, 3, 4, 6, 7, 8, 9, 10, 11, 12, 13, 14, 15, 16, 17, 18, 19, 20, 21, 22] (by decide) rfl
          exact xq_out (u := (u.1, u.2)) hex hlocks hAe hP hD hS hw hE (Nat.le_of_ble_eq_true rfl) (Nat.le_of_ble_eq_true rfl)
      · have hw := hw.2 hc
        refine lv_aload_n hx hb d_Gr_readName_49 rfl (lv_at hl 1 rfl) ?_
        refine lv_aload_n hx hb d_Gr_readName_50 rfl (lv_at hl 1 rfl) ?_
        refine va_get (D := D) (ci := 6) (v := .ref (ad_this_words 0)) (C := R_Gr) (T := F_Gr) (N := 4) hx hb hts in_Gr hown hK hP 0 rfl rfl 0 (by decide) (hts (.fieldLink R_Gr 9 R_Gr "words" "LStepText$Words;") kw2_7) (fun _ h9 => h9) rfl d_Gr_readName_51 ?_
        refine va_get (D := D) (ci := 2) (v := .int z_this_words.2.2.2.2.2.2.2.2.2.2.2.1) (C := R_Wd) (T := F_Wd) (N := 15) hx hb hts in_Wd hown hK hP 17 rfl rfl 12 (by decide) (hts (.fieldLink R_Gr 96 R_Wd "place" "I") kw1_111) (fun _ h9 => h9) rfl d_Gr_readName_54 ?_
        refine xq_go (wr := w_Nm k ad_this_names z_this_names ++ w_Nd k ad_this_nodes z_this_nodes ++ w_Wd k ad_this_words q_this_words_keywords z_this_words) (stk := fun _ => []) (xq_runV (As := [.int z_this_words.2.2.2.2.2.2.2.2.2.2.2.1]) (rest := []) ⟨hx, hb, hml, hown, hts⟩ (c_Gr_refuse (l := l) (o := o) (D := D) (k := k) (ad_this := ad_this) (q_this_words := (ad_this_words 0)) (q_this_names := (ad_this_names 0)) (q_this_nodes := (ad_this_nodes 0)) hw) (cw_Gr_refuse hts kw2_165 ⟨Nat.le_of_ble_eq_true rfl, Nat.le_of_ble_eq_true rfl⟩) (va_recv hK hP (ci := 6) (q0 := 0) rfl rfl) (hP.sub [0] rfl) hK hJ hS (va_free hD hS hA [0] rfl) ((hD.sub [0] (by decide) rfl).weaken (fun _ _ _ _ => trivial)) rfl hl.1 (Nat.le_of_ble_eq_true rfl) d_Gr_readName_57 ⟨Nat.le_of_ble_eq_true rfl, Nat.le_of_ble_eq_true rfl⟩) hP hD hS hA [0] [1, 2, 3, 4, 5, 6, 7, 8, 9, 10, 11, 12, 13, 14, 15, 16, 17, 18, 19, 20, 21, 22] rfl rfl (by decide) (by decide) (fun _ => rfl) (fun _ _ _ _ h9 => h9.elim) (fun x u H locs hw hP hD hS hE => ?_)
        have hP : va_P D vwCl (w_Gr k ad_this (ad_this_words 0) (ad_this_names 0) (ad_this_nodes 0) u ++ w_Nm k ad_this_names z_this_names ++ w_Nd k ad_this_nodes z_this_nodes ++ w_Wd k ad_this_words q_this_words_keywords z_this_words) H := hP.sub [22, 0, 1, 2, 3, 4, 5, 6, 7, 8, 9, 10, 11, 12, 13, 14, 15, 16, 17, 18, 19, 20, 21] rfl
        have hD : va_D A (w_Gr k ad_this (ad_this_words 0) (ad_this_names 0) (ad_this_nodes 0) u ++ w_Nm k ad_this_names z_this_names ++ w_Nd k ad_this_nodes z_this_nodes ++ w_Wd k ad_this_words q_this_words_keywords z_this_words) := hD.sub [22, 0, 1, 2, 3, 4, 5, 6, 7, 8, 9, 10, 11, 12, 13, 14, 15, 16, 17, 18, 19, 20, 21] (by decide) rfl
        exact xq_out (u := (u, z_this_words)) hex hlocks hAe hP hD hS hw hE (Nat.le_of_ble_eq_true rfl) (Nat.le_of_ble_eq_true rfl)
  · have hw := hw.1 hc
    refine lv_aload_n hx hb d_Gr_readName_13 rfl (lv_at hl 0 rfl) ?_
    refine va_get (D := D) (ci := 6) (v := .ref (ad_this_names 0)) (C := R_Gr) (T := F_Gr) (N := 4) hx hb hts in_Gr hown hK hP 0 rfl rfl 1 (by decide) (hts (.fieldLink R_Gr 21 R_Gr "names" "LStepText$Names;") kw2_8) (fun _ h9 => h9) rfl d_Gr_readName_14 ?_
    refine lv_aload_n hx hb d_Gr_readName_17 rfl (lv_at hl 0 rfl) ?_
    refine va_get (D := D) (ci := 6) (v := .ref (ad_this_words 0)) (C := R_Gr) (T := F_Gr) (N := 4) hx hb hts in_Gr hown hK hP 0 rfl rfl 0 (by decide) (hts (.fieldLink R_Gr 9 R_Gr "words" "LStepText$Words;") kw2_7) (fun _ h9 => h9) rfl d_Gr_readName_18 ?_
    refine va_get (D := D) (ci := 2) (v := .long z_this_words.2.2.2.2.2.2.2.2.2.2.2.2.2) (C := R_Wd) (T := F_Wd) (N := 15) hx hb hts in_Wd hown hK hP 17 rfl rfl 14 (by decide) (hts (.fieldLink R_Gr 108 R_Wd "value" "J") kw1_115) (fun _ h9 => h9) rfl d_Gr_readName_21 ?_
    refine xq_go (wr := w_Gr k ad_this (ad_this_words 0) (ad_this_names 0) (ad_this_nodes 0) z_this ++ w_Nd k ad_this_nodes z_this_nodes ++ w_Wd k ad_this_words q_this_words_keywords z_this_words) (stk := fun r => .int r :: []) (xq_runV (As := [.long z_this_words.2.2.2.2.2.2.2.2.2.2.2.2.2]) (rest := []) ⟨hx, hb, hml, hown, hts⟩ (c_Nm_find (l := l) (o := o) (D := D) (k := k) (ad_this := ad_this_names) hw) (cw_Nm_find hts kw3_23 ⟨Nat.le_of_ble_eq_true rfl, Nat.le_of_ble_eq_true rfl⟩) (va_recv hK hP (ci := 3) (q0 := 1) rfl rfl) (hP.sub [1, 2, 3, 4, 5] rfl) hK hJ hS (va_free hD hS hA [1, 2, 3, 4, 5] rfl) ((hD.sub [1, 2, 3, 4, 5] (by decide) rfl).weaken (fun _ _ _ _ => trivial)) rfl hl.1 (Nat.le_of_ble_eq_true rfl) d_Gr_readName_24 ⟨Nat.le_of_ble_eq_true rfl, Nat.le_of_ble_eq_true rfl⟩) hP hD hS hA [1, 2, 3, 4, 5] [0, 6, 7, 8, 9, 10, 11, 12, 13, 14, 15, 16, 17, 18, 19, 20, 21, 22] rfl rfl (by decide) (by decide) (fun _ => rfl) (fun r5 u5 H locs hw hP hD hS => ?_) (fun _ _ _ _ h9 => h9.elim)
    have hP : va_P D vwCl (w_Gr k ad_this (ad_this_words 0) (ad_this_names 0) (ad_this_nodes 0) z_this ++ w_Nm k ad_this_names z_this_names ++ w_Nd k ad_this_nodes z_this_nodes ++ w_Wd k ad_this_words q_this_words_keywords z_this_words) H := hP.sub [0, 18, 19, 20, 21, 22, 1, 2, 3, 4, 5, 6, 7, 8, 9, 10, 11, 12, 13, 14, 15, 16, 17] rfl
    have hD : va_D A (w_Gr k ad_this (ad_this_words 0) (ad_this_names 0) (ad_this_nodes 0) z_this ++ w_Nm k ad_this_names z_this_names ++ w_Nd k ad_this_nodes z_this_nodes ++ w_Wd k ad_this_words q_this_words_keywords z_this_words) := hD.sub [0, 18, 19, 20, 21, 22, 1, 2, 3, 4, 5, 6, 7, 8, 9, 10, 11, 12, 13, 14, 15, 16, 17] (by decide) rfl
    refine lv_goto (tgt := 31) hx hb d_Gr_readName_27 (by decide) ?_
    refine lv_istore_n (lv' := [(2, .int r5), (0, .ref (ad_this 0)), (1, .int a1)]) hx hb d_Gr_readName_31 rfl hl (by decide) rfl (fun ls hl => ?_)
    refine lv_iload_n hx hb d_Gr_readName_32 rfl (lv_at hl 0 rfl) ?_
    refine lv_iconst (v := (-1 : Int32)) hx hb d_Gr_readName_33 (by decide) ?_
    refine lv_icmp_eq (tgt := 49) hx hb d_Gr_readName_34 (by decide) (fun hc => ?_) (fun hc => ?_)
    · have hw := hw.1 hc
      refine lv_aload_n hx hb d_Gr_readName_49 rfl (lv_at hl 1 rfl) ?_
      refine lv_aload_n hx hb d_Gr_readName_50 rfl (lv_at hl 1 rfl) ?_
      refine va_get (D := D) (ci := 6) (v := .ref (ad_this_words 0)) (C := R_Gr) (T := F_Gr) (N := 4) hx hb hts in_Gr hown hK hP 0 rfl rfl 0 (by decide) (hts (.fieldLink R_Gr 9 R_Gr "words" "LStepText$Words;") kw2_7) (fun _ h9 => h9) rfl d_Gr_readName_51 ?_
      refine va_get (D := D) (ci := 2) (v := .int z_this_words.2.2.2.2.2.2.2.2.2.2.2.1) (C := R_Wd) (T := F_Wd) (N := 15) hx hb hts in_Wd hown hK hP 17 rfl rfl 12 (by decide) (hts (.fieldLink R_Gr 96 R_Wd "place" "I") kw1_111) (fun _ h9 => h9) rfl d_Gr_readName_54 ?_
      refine xq_go (wr := w_Nm k ad_this_names z_this_names ++ w_Nd k ad_this_nodes z_this_nodes ++ w_Wd k ad_this_words q_this_words_keywords z_this_words) (stk := fun _ => []) (xq_runV (As := [.int z_this_words.2.2.2.2.2.2.2.2.2.2.2.1]) (rest := []) ⟨hx, hb, hml, hown, hts⟩ (c_Gr_refuse (l := l) (o := o) (D := D) (k := k) (ad_this := ad_this) (q_this_words := (ad_this_words 0)) (q_this_names := (ad_this_names 0)) (q_this_nodes := (ad_this_nodes 0)) hw) (cw_Gr_refuse hts kw2_165 ⟨Nat.le_of_ble_eq_true rfl, Nat.le_of_ble_eq_true rfl⟩) (va_recv hK hP (ci := 6) (q0 := 0) rfl rfl) (hP.sub [0] rfl) hK hJ hS (va_free hD hS hA [0] rfl) ((hD.sub [0] (by decide) rfl).weaken (fun _ _ _ _ => trivial)) rfl hl.1 (Nat.le_of_ble_eq_true rfl) d_Gr_readName_57 ⟨Nat.le_of_ble_eq_true rfl, Nat.le_of_ble_eq_true rfl⟩) hP hD hS hA [0] [1, 2, 3, 4, 5, 6, 7, 8, 9, 10, 11, 12, 13, 14, 15, 16, 17, 18, 19, 20, 21, 22] rfl rfl (by decide) (by decide) (fun _ => rfl) (fun _ _ _ _ h9 => h9.elim) (fun x u H locs hw hP hD hS hE => ?_)
      have hP : va_P D vwCl (w_Gr k ad_this (ad_this_words 0) (ad_this_names 0) (ad_this_nodes 0) u ++ w_Nm k ad_this_names z_this_names ++ w_Nd k ad_this_nodes z_this_nodes ++ w_Wd k ad_this_words q_this_words_keywords z_this_words) H := hP.sub [22, 0, 1, 2, 3, 4, 5, 6, 7, 8, 9, 10, 11, 12, 13, 14, 15, 16, 17, 18, 19, 20, 21] rfl
      have hD : va_D A (w_Gr k ad_this (ad_this_words 0) (ad_this_names 0) (ad_this_nodes 0) u ++ w_Nm k ad_this_names z_this_names ++ w_Nd k ad_this_nodes z_this_nodes ++ w_Wd k ad_this_words q_this_words_keywords z_this_words) := hD.sub [22, 0, 1, 2, 3, 4, 5, 6, 7, 8, 9, 10, 11, 12, 13, 14, 15, 16, 17, 18, 19, 20, 21] (by decide) rfl
      exact xq_out (u := (u, z_this_words)) hex hlocks hAe hP hD hS hw hE (Nat.le_of_ble_eq_true rfl) (Nat.le_of_ble_eq_true rfl)
    · have hw := hw.2 hc
      refine lv_aload_n hx hb d_Gr_readName_37 rfl (lv_at hl 1 rfl) ?_
      refine va_get (D := D) (ci := 6) (v := .ref (ad_this_names 0)) (C := R_Gr) (T := F_Gr) (N := 4) hx hb hts in_Gr hown hK hP 0 rfl rfl 1 (by decide) (hts (.fieldLink R_Gr 21 R_Gr "names" "LStepText$Names;") kw2_8) (fun _ h9 => h9) rfl d_Gr_readName_38 ?_
      refine lv_iload_n hx hb d_Gr_readName_41 rfl (lv_at hl 0 rfl) ?_
      refine xq_go (wr := w_Gr k ad_this (ad_this_words 0) (ad_this_names 0) (ad_this_nodes 0) z_this ++ w_Nd k ad_this_nodes z_this_nodes ++ w_Wd k ad_this_words q_this_words_keywords z_this_words) (stk := fun r => .int r :: []) (xq_runV (As := [.int r5]) (rest := []) ⟨hx, hb, hml, hown, hts⟩ (c_Nm_sortOf (l := l) (o := o) (D := D) (k := k) (ad_this := ad_this_names) hw) (cw_Nm_sortOf hts kw3_24 ⟨Nat.le_of_ble_eq_true rfl, Nat.le_of_ble_eq_true rfl⟩) (va_recv hK hP (ci := 3) (q0 := 1) rfl rfl) (hP.sub [1, 2, 3, 4, 5] rfl) hK hJ hS (va_free hD hS hA [1, 2, 3, 4, 5] rfl) ((hD.sub [1, 2, 3, 4, 5] (by decide) rfl).weaken (fun _ _ _ _ => trivial)) rfl hl.1 (Nat.le_of_ble_eq_true rfl) d_Gr_readName_42 ⟨Nat.le_of_ble_eq_true rfl, Nat.le_of_ble_eq_true rfl⟩) hP hD hS hA [1, 2, 3, 4, 5] [0, 6, 7, 8, 9, 10, 11, 12, 13, 14, 15, 16, 17, 18, 19, 20, 21, 22] rfl rfl (by decide) (by decide) (fun _ => rfl) (fun r7 u7 H locs hw hP hD hS => ?_) (fun _ _ _ _ h9 => h9.elim)
      have hP : va_P D vwCl (w_Gr k ad_this (ad_this_words 0) (ad_this_names 0) (ad_this_nodes 0) z_this ++ w_Nm k ad_this_names z_this_names ++ w_Nd k ad_this_nodes z_this_nodes ++ w_Wd k ad_this_words q_this_words_keywords z_this_words) H := hP.sub [0, 18, 19, 20, 21, 22, 1, 2, 3, 4, 5, 6, 7, 8, 9, 10, 11, 12, 13, 14, 15, 16, 17] rfl
      have hD : va_D A (w_Gr k ad_this (ad_this_words 0) (ad_this_names 0) (ad_this_nodes 0) z_this ++ w_Nm k ad_this_names z_this_names ++ w_Nd k ad_this_nodes z_this_nodes ++ w_Wd k ad_this_words q_this_words_keywords z_this_words) := hD.sub [0, 18, 19, 20, 21, 22, 1, 2, 3, 4, 5, 6, 7, 8, 9, 10, 11, 12, 13, 14, 15, 16, 17] (by decide) rfl
      refine lv_iload_n hx hb d_Gr_readName_45 rfl (lv_at hl 2 rfl) ?_
      refine lv_icmp_eq (tgt := 60) hx hb d_Gr_readName_46 (by decide) (fun hc => ?_) (fun hc => ?_)
      · have hw := hw.1 hc
        refine lv_aload_n hx hb d_Gr_readName_60 rfl (lv_at hl 1 rfl) ?_
        refine xq_go (wr := w_Nm k ad_this_names z_this_names) (stk := fun _ => []) (xq_runV (As := []) (rest := []) ⟨hx, hb, hml, hown, hts⟩ (c_Gr_pass (l := l) (o := o) (D := D) (k := k) (ad_this := ad_this) (ad_this_nodes := ad_this_nodes) (ad_this_words := ad_this_words) (q_this_names := (ad_this_names 0)) (q_this_words_keywords := q_this_words_keywords) hw) (cw_Gr_pass hts kw2_157 ⟨Nat.le_of_ble_eq_true rfl, Nat.le_of_ble_eq_true rfl⟩) (va_recv hK hP (ci := 6) (q0 := 0) rfl rfl) (hP.sub [0, 6, 7, 8, 9, 10, 11, 12, 13, 14, 15, 16, 17, 18, 19, 20, 21, 22] rfl) hK hJ hS (va_free hD hS hA [0, 6, 7, 8, 9, 10, 11, 12, 13, 14, 15, 16, 17, 18, 19, 20, 21, 22] rfl) ((hD.sub [0, 6, 7, 8, 9, 10, 11, 12, 13, 14, 15, 16, 17, 18, 19, 20, 21, 22] (by decide) rfl).weaken (fun _ _ _ _ => trivial)) rfl hl.1 (Nat.le_of_ble_eq_true rfl) d_Gr_readName_61 ⟨Nat.le_of_ble_eq_true rfl, Nat.le_of_ble_eq_true rfl⟩) hP hD hS hA [0, 6, 7, 8, 9, 10, 11, 12, 13, 14, 15, 16, 17, 18, 19, 20, 21, 22] [1, 2, 3, 4, 5] rfl rfl (by decide) (by decide) (fun _ => rfl) (fun r8 u8 H locs hw hP hD hS => ?_) (fun x u H locs hw hP hD hS hE => ?_)
        · have hP : va_P D vwCl (w_Gr k ad_this (ad_this_words 0) (ad_this_names 0) (ad_this_nodes 0) u8.1 ++ w_Nm k ad_this_names z_this_names ++ w_Nd k ad_this_nodes z_this_nodes ++ w_Wd k ad_this_words q_this_words_keywords u8.2) H := hP.sub [5, 0, 1, 2, 3, 4, 6, 7, 8, 9, 10, 11, 12, 13, 14, 15, 16, 17, 18, 19, 20, 21, 22] rfl
          have hD : va_D A (w_Gr k ad_this (ad_this_words 0) (ad_this_names 0) (ad_this_nodes 0) u8.1 ++ w_Nm k ad_this_names z_this_names ++ w_Nd k ad_this_nodes z_this_nodes ++ w_Wd k ad_this_words q_this_words_keywords u8.2) := hD.sub [5, 0, 1, 2, 3, 4, 6, 7, 8, 9, 10, 11, 12, 13, 14, 15, 16, 17, 18, 19, 20, 21, 22] (by decide) rfl
          refine lv_iload_n hx hb d_Gr_readName_64 rfl (lv_at hl 0 rfl) ?_
          exact xq_iret (r := r5) (u := (u8.1, u8.2)) hx hb hr hlocks hAe hP hD hS rfl hw (Nat.le_of_ble_eq_true rfl) (Nat.le_of_ble_eq_true rfl) d_Gr_readName_65
        · have hP : va_P D vwCl (w_Gr k ad_this (ad_this_words 0) (ad_this_names 0) (ad_this_nodes 0) u.1 ++ w_Nm k ad_this_names z_this_names ++ w_Nd k ad_this_nodes z_this_nodes ++ w_Wd k ad_this_words q_this_words_keywords u.2) H := hP.sub [5, 0, 1, 2, 3, 4, 6, 7, 8, 9, 10, 11, 12, 13, 14, 15, 16, 17, 18, 19, 20, 21, 22] rfl
          have hD : va_D A (w_Gr k ad_this (ad_this_words 0) (ad_this_names 0) (ad_this_nodes 0) u.1 ++ w_Nm k ad_this_names z_this_names ++ w_Nd k ad_this_nodes z_this_nodes ++ w_Wd k ad_this_words q_this_words_keywords u.2) := hD.sub [5, 0, 1, 2, 3, 4, 6, 7, 8, 9, 10, 11, 12, 13, 14, 15, 16, 17, 18, 19, 20, 21, 22] (by decide) rfl
          exact xq_out (u := (u.1, u.2)) hex hlocks hAe hP hD hS hw hE (Nat.le_of_ble_eq_true rfl) (Nat.le_of_ble_eq_true rfl)
      · have hw := hw.2 hc
        refine lv_aload_n hx hb d_Gr_readName_49 rfl (lv_at hl 1 rfl) ?_
        refine lv_aload_n hx hb d_Gr_readName_50 rfl (lv_at hl 1 rfl) ?_
        refine va_get (D := D) (ci := 6) (v := .ref (ad_this_words 0)) (C := R_Gr) (T := F_Gr) (N := 4) hx hb hts in_Gr hown hK hP 0 rfl rfl 0 (by decide) (hts (.fieldLink R_Gr 9 R_Gr "words" "LStepText$Words;") kw2_7) (fun _ h9 => h9) rfl d_Gr_readName_51 ?_
        refine va_get (D := D) (ci := 2) (v := .int z_this_words.2.2.2.2.2.2.2.2.2.2.2.1) (C := R_Wd) (T := F_Wd) (N := 15) hx hb hts in_Wd hown hK hP 17 rfl rfl 12 (by decide) (hts (.fieldLink R_Gr 96 R_Wd "place" "I") kw1_111) (fun _ h9 => h9) rfl d_Gr_readName_54 ?_
        refine xq_go (wr := w_Nm k ad_this_names z_this_names ++ w_Nd k ad_this_nodes z_this_nodes ++ w_Wd k ad_this_words q_this_words_keywords z_this_words) (stk := fun _ => []) (xq_runV (As := [.int z_this_words.2.2.2.2.2.2.2.2.2.2.2.1]) (rest := []) ⟨hx, hb, hml, hown, hts⟩ (c_Gr_refuse (l := l) (o := o) (D := D) (k := k) (ad_this := ad_this) (q_this_words := (ad_this_words 0)) (q_this_names := (ad_this_names 0)) (q_this_nodes := (ad_this_nodes 0)) hw) (cw_Gr_refuse hts kw2_165 ⟨Nat.le_of_ble_eq_true rfl, Nat.le_of_ble_eq_true rfl⟩) (va_recv hK hP (ci := 6) (q0 := 0) rfl rfl) (hP.sub [0] rfl) hK hJ hS (va_free hD hS hA [0] rfl) ((hD.sub [0] (by decide) rfl).weaken (fun _ _ _ _ => trivial)) rfl hl.1 (Nat.le_of_ble_eq_true rfl) d_Gr_readName_57 ⟨Nat.le_of_ble_eq_true rfl, Nat.le_of_ble_eq_true rfl⟩) hP hD hS hA [0] [1, 2, 3, 4, 5, 6, 7, 8, 9, 10, 11, 12, 13, 14, 15, 16, 17, 18, 19, 20, 21, 22] rfl rfl (by decide) (by decide) (fun _ => rfl) (fun _ _ _ _ h9 => h9.elim) (fun x u H locs hw hP hD hS hE => ?_)
        have hP : va_P D vwCl (w_Gr k ad_this (ad_this_words 0) (ad_this_names 0) (ad_this_nodes 0) u ++ w_Nm k ad_this_names z_this_names ++ w_Nd k ad_this_nodes z_this_nodes ++ w_Wd k ad_this_words q_this_words_keywords z_this_words) H := hP.sub [22, 0, 1, 2, 3, 4, 5, 6, 7, 8, 9, 10, 11, 12, 13, 14, 15, 16, 17, 18, 19, 20, 21] rfl
        have hD : va_D A (w_Gr k ad_this (ad_this_words 0) (ad_this_names 0) (ad_this_nodes 0) u ++ w_Nm k ad_this_names z_this_names ++ w_Nd k ad_this_nodes z_this_nodes ++ w_Wd k ad_this_words q_this_words_keywords z_this_words) := hD.sub [22, 0, 1, 2, 3, 4, 5, 6, 7, 8, 9, 10, 11, 12, 13, 14, 15, 16, 17, 18, 19, 20, 21] (by decide) rfl
        exact xq_out (u := (u, z_this_words)) hex hlocks hAe hP hD hS hw hE (Nat.le_of_ble_eq_true rfl) (Nat.le_of_ble_eq_true rfl)
theorem cw_Gr_readName {R : Room} {s : State} {args : Array Value} {own : String} {index : Nat} (hts : ∀ w ∈ xq_W, w.before args s = true) (hl : .methodLink own index y_Gr_readName ∈ xq_W) {rm : Room} (hR : rm.frames + 1 ≤ R.frames ∧ 8 + (3 + 11) + rm.locals ≤ R.locals) : CallW R s args own "StepText$Grammar" index y_Gr_readName prog_2_method_15_code 3 (some (.int)) (.code y_Gr_readName prog_2_method_15_code 3 (some (.int)) :: xq_W) rm rm.cells rm.slots 1 := ⟨xq_cb 1 hts kw3_22 kw1_11 hl ⟨by decide, by decide, by decide +kernel⟩ hR, hts _ kw3_21, hts _ kp2_0⟩
def y_Gr_measureHere : MethodName := ⟨"StepText$Grammar", "measureHere", "()I"⟩
theorem d_Gr_measureHere_0 : decode prog_2_method_11_code 0 = .ok (.aload_n 0, 1) := by decide +kernel
theorem d_Gr_measureHere_1 : decode prog_2_method_11_code 1 = .ok (.sipush 219, 3) := by decide +kernel
theorem d_Gr_measureHere_4 : decode prog_2_method_11_code 4 = .ok (.sipush 223, 3) := by decide +kernel
theorem d_Gr_measureHere_7 : decode prog_2_method_11_code 7 = .ok (.invokevirtual 40, 3) := by decide +kernel
theorem d_Gr_measureHere_10 : decode prog_2_method_11_code 10 = .ok (.ifCond .eq 19, 3) := by decide +kernel
theorem d_Gr_measureHere_13 : decode prog_2_method_11_code 13 = .ok (.aload_n 0, 1) := by decide +kernel
theorem d_Gr_measureHere_14 : decode prog_2_method_11_code 14 = .ok (.getfield 9, 3) := by decide +kernel
theorem d_Gr_measureHere_17 : decode prog_2_method_11_code 17 = .ok (.getfield 44, 3) := by decide +kernel
theorem d_Gr_measureHere_20 : decode prog_2_method_11_code 20 = .ok (.sipush 219, 3) := by decide +kernel
theorem d_Gr_measureHere_23 : decode prog_2_method_11_code 23 = .ok (.isub, 1) := by decide +kernel
theorem d_Gr_measureHere_24 : decode prog_2_method_11_code 24 = .ok (.iconst 1, 1) := by decide +kernel
theorem d_Gr_measureHere_25 : decode prog_2_method_11_code 25 = .ok (.iadd, 1) := by decide +kernel
theorem d_Gr_measureHere_26 : decode prog_2_method_11_code 26 = .ok (.goto 4, 3) := by decide +kernel
theorem d_Gr_measureHere_29 : decode prog_2_method_11_code 29 = .ok (.iconst 0, 1) := by decide +kernel
theorem d_Gr_measureHere_30 : decode prog_2_method_11_code 30 = .ok (.ireturn, 1) := by decide +kernel
def wp_Gr_measureHere (z_this : T_Gr) (z_this_words : T_Wd) (post : Int32 → Unit → Prop) : Prop := wp_Gr_isBetween z_this z_this_words (219 : Int32) (223 : Int32) (fun (r1 : Int32) (u1 : Unit) => (r1 = 0 → (post (0 : Int32) ())) ∧ (¬ r1 = 0 → (post ((z_this_words.2.2.2.2.2.2.2.2.2.2.1 - (219 : Int32)) + (1 : Int32)) ())))
def rm_Gr_measureHere : Room := { frames := 1, cells := 0, slots := 0, locals := 22 }
set_option maxHeartbeats 4000000 in
set_option maxRecDepth 100000 in
theorem c_Gr_measureHere {l : Launch} {o : State × Array Value} {D : va_G} {k : Nat → ClassId} {ad_this : Nat → Nat} {ad_this_words : Nat → Nat} {q_this_names : Nat} {q_this_nodes : Nat} {q_this_words_keywords : Nat} {z_this : T_Gr} {z_this_words : T_Wd} {post : Int32 → Unit → Prop} (hw : wp_Gr_measureHere z_this z_this_words post) : xq_C l o y_Gr_measureHere (.code y_Gr_measureHere prog_2_method_11_code 1 (some (.int)) :: xq_W) rm_Gr_measureHere D vwCl (xt k) [.ref (ad_this 0)] (w_Gr k ad_this (ad_this_words 0) q_this_names q_this_nodes z_this ++ w_Wd k ad_this_words q_this_words_keywords z_this_words) (fun r : Int32 => some (.int r)) post (fun _ : Unit => False) (fun u : Unit => w_Gr k ad_this (ad_this_words 0) q_this_names q_this_nodes z_this ++ w_Wd k ad_this_words q_this_words_keywords z_this_words) 0 0 0 0 := by
  refine xq_ofW (cc := prog_2_method_11_code) (maxL := 1) (ret := (some (.int))) (by decide) rfl (Nat.le_of_ble_eq_true rfl) ?_
  intro p e s m below meth c ls H locs A hAt hAe hA hl hK hJ hP0 hP hD hS
  obtain ⟨hx, hb, hml, hr, hlocks, hown, hts, hex, hnm⟩ := id hAt
  have hl : lv_has ls 1 [(0, .ref (ad_this 0))] := hl
  unfold wp_Gr_measureHere at hw
  refine lv_aload_n hx hb d_Gr_measureHere_0 rfl (lv_at hl 0 rfl) ?_
  refine lv_sipush (v := (219 : Int32)) hx hb d_Gr_measureHere_1 (by decide) ?_
  refine lv_sipush (v := (223 : Int32)) hx hb d_Gr_measureHere_4 (by decide) ?_
  refine xq_go (wr := ([] : va_W)) (stk := fun r => .int r :: []) (xq_runV (As := [.int (219 : Int32), .int (223 : Int32)]) (rest := []) ⟨hx, hb, hml, hown, hts⟩ (c_Gr_isBetween (l := l) (o := o) (D := D) (k := k) (ad_this := ad_this) (ad_this_words := ad_this_words) (q_this_names := q_this_names) (q_this_nodes := q_this_nodes) (q_this_words_keywords := q_this_words_keywords) hw) (cw_Gr_isBetween hts kw2_149 ⟨Nat.le_of_ble_eq_true rfl, Nat.le_of_ble_eq_true rfl⟩) (va_recv hK hP (ci := 6) (q0 := 0) rfl rfl) (hP.sub [0, 1, 2, 3, 4, 5, 6] rfl) hK hJ hS (va_free hD hS hA [0, 1, 2, 3, 4, 5, 6] rfl) ((hD.sub [0, 1, 2, 3, 4, 5, 6] (by decide) rfl).weaken (fun _ _ _ _ => trivial)) rfl hl.1 (Nat.le_of_ble_eq_true rfl) d_Gr_measureHere_7 ⟨Nat.le_of_ble_eq_true rfl, Nat.le_of_ble_eq_true rfl⟩) hP hD hS hA [0, 1, 2, 3, 4, 5, 6] [] rfl rfl (by decide) (by decide) (fun _ => rfl) (fun r1 u1 H locs hw hP hD hS => ?_) (fun _ _ _ _ h9 => h9.elim)
  have hP : va_P D vwCl (w_Gr k ad_this (ad_this_words 0) q_this_names q_this_nodes z_this ++ w_Wd k ad_this_words q_this_words_keywords z_this_words) H := hP.sub [0, 1, 2, 3, 4, 5, 6] rfl
  have hD : va_D A (w_Gr k ad_this (ad_this_words 0) q_this_names q_this_nodes z_this ++ w_Wd k ad_this_words q_this_words_keywords z_this_words) := hD.sub [0, 1, 2, 3, 4, 5, 6] (by decide) rfl
  refine lv_if_eq (tgt := 29) hx hb d_Gr_measureHere_10 (by decide) (fun hc => ?_) (fun hc => ?_)
  · have hw := hw.1 hc
    refine lv_iconst (v := (0 : Int32)) hx hb d_Gr_measureHere_29 (by decide) ?_
    exact xq_iret (r := (0 : Int32)) (u := ()) hx hb hr hlocks hAe hP hD hS rfl hw (Nat.le_of_ble_eq_true rfl) (Nat.le_of_ble_eq_true rfl) d_Gr_measureHere_30
  · have hw := hw.2 hc
    refine lv_aload_n hx hb d_Gr_measureHere_13 rfl (lv_at hl 0 rfl) ?_
    refine va_get (D := D) (ci := 6) (v := .ref (ad_this_words 0)) (C := R_Gr) (T := F_Gr) (N := 4) hx hb hts in_Gr hown hK hP 0 rfl rfl 0 (by decide) (hts (.fieldLink R_Gr 9 R_Gr "words" "LStepText$Words;") kw2_7) (fun _ h9 => h9) rfl d_Gr_measureHere_14 ?_
    refine va_get (D := D) (ci := 2) (v := .int z_this_words.2.2.2.2.2.2.2.2.2.2.1) (C := R_Wd) (T := F_Wd) (N := 15) hx hb hts in_Wd hown hK hP 1 rfl rfl 11 (by decide) (hts (.fieldLink R_Gr 44 R_Wd "code" "I") kw1_108) (fun _ h9 => h9) rfl d_Gr_measureHere_17 ?_
    refine lv_sipush (v := (219 : Int32)) hx hb d_Gr_measureHere_20 (by decide) ?_
    refine lv_isub hx hb d_Gr_measureHere_23 ?_
    refine lv_iconst (v := (1 : Int32)) hx hb d_Gr_measureHere_24 (by decide) ?_
    refine lv_iadd hx hb d_Gr_measureHere_25 ?_
    refine lv_goto (tgt := 30) hx hb d_Gr_measureHere_26 (by decide) ?_
    exact xq_iret (r := ((z_this_words.2.2.2.2.2.2.2.2.2.2.1 - (219 : Int32)) + (1 : Int32))) (u := ()) hx hb hr hlocks hAe hP hD hS rfl hw (Nat.le_of_ble_eq_true rfl) (Nat.le_of_ble_eq_true rfl) d_Gr_measureHere_30
theorem cw_Gr_measureHere {R : Room} {s : State} {args : Array Value} {own : String} {index : Nat} (hts : ∀ w ∈ xq_W, w.before args s = true) (hl : .methodLink own index y_Gr_measureHere ∈ xq_W) {rm : Room} (hR : rm.frames + 1 ≤ R.frames ∧ 8 + (1 + 11) + rm.locals ≤ R.locals) : CallW R s args own "StepText$Grammar" index y_Gr_measureHere prog_2_method_11_code 1 (some (.int)) (.code y_Gr_measureHere prog_2_method_11_code 1 (some (.int)) :: xq_W) rm rm.cells rm.slots 0 := ⟨xq_cb 0 hts kw3_63 kw1_11 hl ⟨by decide, by decide, by decide +kernel⟩ hR, hts _ kw3_62, hts _ kp2_6⟩
def y_Gr_readAmount : MethodName := ⟨"StepText$Grammar", "readAmount", "()I"⟩
theorem d_Gr_readAmount_0 : decode prog_2_method_25_code 0 = .ok (.aload_n 0, 1) := by decide +kernel
theorem d_Gr_readAmount_1 : decode prog_2_method_25_code 1 = .ok (.getfield 9, 3) := by decide +kernel
theorem d_Gr_readAmount_4 : decode prog_2_method_25_code 4 = .ok (.getfield 49, 3) := by decide +kernel
theorem d_Gr_readAmount_7 : decode prog_2_method_25_code 7 = .ok (.istore_n 1, 1) := by decide +kernel
theorem d_Gr_readAmount_8 : decode prog_2_method_25_code 8 = .ok (.aload_n 0, 1) := by decide +kernel
theorem d_Gr_readAmount_9 : decode prog_2_method_25_code 9 = .ok (.getfield 9, 3) := by decide +kernel
theorem d_Gr_readAmount_12 : decode prog_2_method_25_code 12 = .ok (.getfield 108, 3) := by decide +kernel
theorem d_Gr_readAmount_15 : decode prog_2_method_25_code 15 = .ok (.lstore_n 2, 1) := by decide +kernel
theorem d_Gr_readAmount_16 : decode prog_2_method_25_code 16 = .ok (.aload_n 0, 1) := by decide +kernel
theorem d_Gr_readAmount_17 : decode prog_2_method_25_code 17 = .ok (.invokevirtual 105, 3) := by decide +kernel
theorem d_Gr_readAmount_20 : decode prog_2_method_25_code 20 = .ok (.aload_n 0, 1) := by decide +kernel
theorem d_Gr_readAmount_21 : decode prog_2_method_25_code 21 = .ok (.invokevirtual 116, 3) := by decide +kernel
theorem d_Gr_readAmount_24 : decode prog_2_method_25_code 24 = .ok (.istore 4, 2) := by decide +kernel
theorem d_Gr_readAmount_26 : decode prog_2_method_25_code 26 = .ok (.aload_n 0, 1) := by decide +kernel
theorem d_Gr_readAmount_27 : decode prog_2_method_25_code 27 = .ok (.sipush 224, 3) := by decide +kernel
theorem d_Gr_readAmount_30 : decode prog_2_method_25_code 30 = .ok (.sipush 225, 3) := by decide +kernel
theorem d_Gr_readAmount_33 : decode prog_2_method_25_code 33 = .ok (.invokevirtual 40, 3) := by decide +kernel
theorem d_Gr_readAmount_36 : decode prog_2_method_25_code 36 = .ok (.ifCond .eq 31, 3) := by decide +kernel
theorem d_Gr_readAmount_39 : decode prog_2_method_25_code 39 = .ok (.iconst 3, 1) := by decide +kernel
theorem d_Gr_readAmount_40 : decode prog_2_method_25_code 40 = .ok (.istore 4, 2) := by decide +kernel
theorem d_Gr_readAmount_42 : decode prog_2_method_25_code 42 = .ok (.lload_n 2, 1) := by decide +kernel
theorem d_Gr_readAmount_43 : decode prog_2_method_25_code 43 = .ok (.aload_n 0, 1) := by decide +kernel
theorem d_Gr_readAmount_44 : decode prog_2_method_25_code 44 = .ok (.getfield 9, 3) := by decide +kernel
theorem d_Gr_readAmount_47 : decode prog_2_method_25_code 47 = .ok (.getfield 44, 3) := by decide +kernel
theorem d_Gr_readAmount_50 : decode prog_2_method_25_code 50 = .ok (.sipush 224, 3) := by decide +kernel
theorem d_Gr_readAmount_53 : decode prog_2_method_25_code 53 = .ok (.if_icmp .ne 9, 3) := by decide +kernel
theorem d_Gr_readAmount_56 : decode prog_2_method_25_code 56 = .ok (.ldc2_w 205, 3) := by decide +kernel
theorem d_Gr_readAmount_59 : decode prog_2_method_25_code 59 = .ok (.goto 6, 3) := by decide +kernel
theorem d_Gr_readAmount_62 : decode prog_2_method_25_code 62 = .ok (.ldc2_w 207, 3) := by decide +kernel
theorem d_Gr_readAmount_65 : decode prog_2_method_25_code 65 = .ok (.lmul, 1) := by decide +kernel
theorem d_Gr_readAmount_66 : decode prog_2_method_25_code 66 = .ok (.lstore_n 2, 1) := by decide +kernel
theorem d_Gr_readAmount_67 : decode prog_2_method_25_code 67 = .ok (.lload_n 2, 1) := by decide +kernel
theorem d_Gr_readAmount_68 : decode prog_2_method_25_code 68 = .ok (.ldc2_w 209, 3) := by decide +kernel
theorem d_Gr_readAmount_71 : decode prog_2_method_25_code 71 = .ok (.lcmp, 1) := by decide +kernel
theorem d_Gr_readAmount_72 : decode prog_2_method_25_code 72 = .ok (.ifCond .le 14, 3) := by decide +kernel
theorem d_Gr_readAmount_75 : decode prog_2_method_25_code 75 = .ok (.aload_n 0, 1) := by decide +kernel
theorem d_Gr_readAmount_76 : decode prog_2_method_25_code 76 = .ok (.aload_n 0, 1) := by decide +kernel
theorem d_Gr_readAmount_77 : decode prog_2_method_25_code 77 = .ok (.getfield 9, 3) := by decide +kernel
theorem d_Gr_readAmount_80 : decode prog_2_method_25_code 80 = .ok (.getfield 96, 3) := by decide +kernel
theorem d_Gr_readAmount_83 : decode prog_2_method_25_code 83 = .ok (.invokevirtual 99, 3) := by decide +kernel
theorem d_Gr_readAmount_86 : decode prog_2_method_25_code 86 = .ok (.iload 4, 2) := by decide +kernel
theorem d_Gr_readAmount_88 : decode prog_2_method_25_code 88 = .ok (.ifCond .le 7, 3) := by decide +kernel
theorem d_Gr_readAmount_91 : decode prog_2_method_25_code 91 = .ok (.aload_n 0, 1) := by decide +kernel
theorem d_Gr_readAmount_92 : decode prog_2_method_25_code 92 = .ok (.invokevirtual 105, 3) := by decide +kernel
theorem d_Gr_readAmount_95 : decode prog_2_method_25_code 95 = .ok (.aload_n 0, 1) := by decide +kernel
theorem d_Gr_readAmount_96 : decode prog_2_method_25_code 96 = .ok (.getfield 28, 3) := by decide +kernel
theorem d_Gr_readAmount_99 : decode prog_2_method_25_code 99 = .ok (.iconst 0, 1) := by decide +kernel
theorem d_Gr_readAmount_100 : decode prog_2_method_25_code 100 = .ok (.aload_n 0, 1) := by decide +kernel
theorem d_Gr_readAmount_101 : decode prog_2_method_25_code 101 = .ok (.getfield 28, 3) := by decide +kernel
theorem d_Gr_readAmount_104 : decode prog_2_method_25_code 104 = .ok (.invokevirtual 56, 3) := by decide +kernel
theorem d_Gr_readAmount_107 : decode prog_2_method_25_code 107 = .ok (.iload_n 1, 1) := by decide +kernel
theorem d_Gr_readAmount_108 : decode prog_2_method_25_code 108 = .ok (.lload_n 2, 1) := by decide +kernel
theorem d_Gr_readAmount_109 : decode prog_2_method_25_code 109 = .ok (.iload 4, 2) := by decide +kernel
theorem d_Gr_readAmount_111 : decode prog_2_method_25_code 111 = .ok (.invokevirtual 69, 3) := by decide +kernel
theorem d_Gr_readAmount_114 : decode prog_2_method_25_code 114 = .ok (.ireturn, 1) := by decide +kernel
def wp_Gr_readAmount (z_this : T_Gr) (z_this_nodes : T_Nd) (z_this_words : T_Wd) (post : Int32 → T_Gr × T_Nd × T_Wd → Prop) (postT : T_Gr × T_Nd × T_Wd → Prop) : Prop := wp_Gr_pass z_this z_this_nodes z_this_words (fun (r1 : Unit) (u1 : T_Gr × T_Wd) => wp_Gr_measureHere u1.1 u1.2 (fun (r2 : Int32) (u2 : Unit) => wp_Gr_isBetween u1.1 u1.2 (224 : Int32) (225 : Int32) (fun (r3 : Int32) (u3 : Unit) => (r3 = 0 → (((lg_cmp z_this_words.2.2.2.2.2.2.2.2.2.2.2.2.2 (999999999999 : Int64)) ≤ 0 → ((r2 ≤ 0 → (wp_Nd_count z_this_nodes (fun (r4 : Int32) (u4 : Unit) => wp_Nd_add z_this_nodes (0 : Int32) r4 z_this_words.2.2.2.2.2.2.2.2.2.2.2.2.1 z_this_words.2.2.2.2.2.2.2.2.2.2.2.2.2 r2 (fun (r5 : Int32) (u5 : T_Nd) => post r5 (u1.1, u5, u1.2))))) ∧ (¬ r2 ≤ 0 → (wp_Gr_pass u1.1 z_this_nodes u1.2 (fun (r6 : Unit) (u6 : T_Gr × T_Wd) => wp_Nd_count z_this_nodes (fun (r7 : Int32) (u7 : Unit) => wp_Nd_add z_this_nodes (0 : Int32) r7 z_this_words.2.2.2.2.2.2.2.2.2.2.2.2.1 z_this_words.2.2.2.2.2.2.2.2.2.2.2.2.2 r2 (fun (r8 : Int32) (u8 : T_Nd) => post r8 (u6.1, u8, u6.2)))) (fun (u : T_Gr × T_Wd) => postT (u.1, z_this_nodes, u.2)))))) ∧ (¬ (lg_cmp z_this_words.2.2.2.2.2.2.2.2.2.2.2.2.2 (999999999999 : Int64)) ≤ 0 → (wp_Gr_refuse u1.1 u1.2.2.2.2.2.2.2.2.2.2.2.2.1 (fun (u : T_Gr) => postT (u, z_this_nodes, u1.2)))))) ∧ (¬ r3 = 0 → ((u1.2.2.2.2.2.2.2.2.2.2.2.1 = (224 : Int32) → (((lg_cmp (z_this_words.2.2.2.2.2.2.2.2.2.2.2.2.2 * (60 : Int64)) (999999999999 : Int64)) ≤ 0 → (((3 : Int32) ≤ 0 → (wp_Nd_count z_this_nodes (fun (r16 : Int32) (u16 : Unit) => wp_Nd_add z_this_nodes (0 : Int32) r16 z_this_words.2.2.2.2.2.2.2.2.2.2.2.2.1 (z_this_words.2.2.2.2.2.2.2.2.2.2.2.2.2 * (60 : Int64)) (3 : Int32) (fun (r17 : Int32) (u17 : T_Nd) => post r17 (u1.1, u17, u1.2))))) ∧ (¬ (3 : Int32) ≤ 0 → (wp_Gr_pass u1.1 z_this_nodes u1.2 (fun (r18 : Unit) (u18 : T_Gr × T_Wd) => wp_Nd_count z_this_nodes (fun (r19 : Int32) (u19 : Unit) => wp_Nd_add z_this_nodes (0 : Int32) r19 z_this_words.2.2.2.2.2.2.2.2.2.2.2.2.1 (z_this_words.2.2.2.2.2.2.2.2.2.2.2.2.2 * (60 : Int64)) (3 : Int32) (fun (r20 : Int32) (u20 : T_Nd) => post r20 (u18.1, u20, u18.2)))) (fun (u : T_Gr × T_Wd) => postT (u.1, z_this_nodes, u.2)))))) ∧ (¬ (lg_cmp (z_this_words.2.2.2.2.2.2.2.2.2.2.2.2.2 * (60 : Int64)) (999999999999 : Int64)) ≤ 0 → (wp_Gr_refuse u1.1 u1.2.2.2.2.2.2.2.2.2.2.2.2.1 (fun (u : T_Gr) => postT (u, z_this_nodes, u1.2)))))) ∧ (¬ u1.2.2.2.2.2.2.2.2.2.2.2.1 = (224 : Int32) → (((lg_cmp (z_this_words.2.2.2.2.2.2.2.2.2.2.2.2.2 * (3600 : Int64)) (999999999999 : Int64)) ≤ 0 → (((3 : Int32) ≤ 0 → (wp_Nd_count z_this_nodes (fun (r10 : Int32) (u10 : Unit) => wp_Nd_add z_this_nodes (0 : Int32) r10 z_this_words.2.2.2.2.2.2.2.2.2.2.2.2.1 (z_this_words.2.2.2.2.2.2.2.2.2.2.2.2.2 * (3600 : Int64)) (3 : Int32) (fun (r11 : Int32) (u11 : T_Nd) => post r11 (u1.1, u11, u1.2))))) ∧ (¬ (3 : Int32) ≤ 0 → (wp_Gr_pass u1.1 z_this_nodes u1.2 (fun (r12 : Unit) (u12 : T_Gr × T_Wd) => wp_Nd_count z_this_nodes (fun (r13 : Int32) (u13 : Unit) => wp_Nd_add z_this_nodes (0 : Int32) r13 z_this_words.2.2.2.2.2.2.2.2.2.2.2.2.1 (z_this_words.2.2.2.2.2.2.2.2.2.2.2.2.2 * (3600 : Int64)) (3 : Int32) (fun (r14 : Int32) (u14 : T_Nd) => post r14 (u12.1, u14, u12.2)))) (fun (u : T_Gr × T_Wd) => postT (u.1, z_this_nodes, u.2)))))) ∧ (¬ (lg_cmp (z_this_words.2.2.2.2.2.2.2.2.2.2.2.2.2 * (3600 : Int64)) (999999999999 : Int64)) ≤ 0 → (wp_Gr_refuse u1.1 u1.2.2.2.2.2.2.2.2.2.2.2.2.1 (fun (u : T_Gr) => postT (u, z_this_nodes, u1.2))))))))))) (fun (u : T_Gr × T_Wd) => postT (u.1, z_this_nodes, u.2))
def rm_Gr_readAmount : Room := { frames := 8, cells := 1, slots := 6, locals := 141 }
set_option maxHeartbeats 4000000 in
set_option maxRecDepth 100000 in
theorem c_Gr_readAmount {l : Launch} {o : State × Array Value} {D : va_G} {k : Nat → ClassId} {ad_this : Nat → Nat} {ad_this_nodes : Nat → Nat} {ad_this_words : Nat → Nat} {q_this_names : Nat} {q_this_words_keywords : Nat} {z_this : T_Gr} {z_this_nodes : T_Nd} {z_this_words : T_Wd} {post : Int32 → T_Gr × T_Nd × T_Wd → Prop} {postT : T_Gr × T_Nd × T_Wd → Prop} (hw : wp_Gr_readAmount z_this z_this_nodes z_this_words post postT) : xq_C l o y_Gr_readAmount (.code y_Gr_readAmount prog_2_method_25_code 5 (some (.int)) :: xq_W) rm_Gr_readAmount D vwCl (xt k) [.ref (ad_this 0)] (w_Gr k ad_this (ad_this_words 0) q_this_names (ad_this_nodes 0) z_this ++ w_Nd k ad_this_nodes z_this_nodes ++ w_Wd k ad_this_words q_this_words_keywords z_this_words) (fun r : Int32 => some (.int r)) post postT (fun u : T_Gr × T_Nd × T_Wd => w_Gr k ad_this (ad_this_words 0) q_this_names (ad_this_nodes 0) u.1 ++ w_Nd k ad_this_nodes u.2.1 ++ w_Wd k ad_this_words q_this_words_keywords u.2.2) 0 0 1 6 := by
  refine xq_ofW (cc := prog_2_method_25_code) (maxL := 5) (ret := (some (.int))) (by decide) rfl (Nat.le_of_ble_eq_true rfl) ?_
  intro p e s m below meth c ls H locs A hAt hAe hA hl hK hJ hP0 hP hD hS
  obtain ⟨hx, hb, hml, hr, hlocks, hown, hts, hex, hnm⟩ := id hAt
  have hl : lv_has ls 5 [(0, .ref (ad_this 0))] := hl
  unfold wp_Gr_readAmount at hw
  refine lv_aload_n hx hb d_Gr_readAmount_0 rfl (lv_at hl 0 rfl) ?_
  refine va_get (D := D) (ci := 6) (v := .ref (ad_this_words 0)) (C := R_Gr) (T := F_Gr) (N := 4) hx hb hts in_Gr hown hK hP 0 rfl rfl 0 (by decide) (hts (.fieldLink R_Gr 9 R_Gr "words" "LStepText$Words;") kw2_7) (fun _ h9 => h9) rfl d_Gr_readAmount_1 ?_
  refine va_get (D := D) (ci := 2) (v := .int z_this_words.2.2.2.2.2.2.2.2.2.2.2.2.1) (C := R_Wd) (T := F_Wd) (N := 15) hx hb hts in_Wd hown hK hP 12 rfl rfl 13 (by decide) (hts (.fieldLink R_Gr 49 R_Wd "row" "I") kw1_112) (fun _ h9 => h9) rfl d_Gr_readAmount_4 ?_
  refine lv_istore_n (lv' := [(1, .int z_this_words.2.2.2.2.2.2.2.2.2.2.2.2.1), (0, .ref (ad_this 0))]) hx hb d_Gr_readAmount_7 rfl hl (by decide) rfl (fun ls hl => ?_)
  refine lv_aload_n hx hb d_Gr_readAmount_8 rfl (lv_at hl 1 rfl) ?_
  refine va_get (D := D) (ci := 6) (v := .ref (ad_this_words 0)) (C := R_Gr) (T := F_Gr) (N := 4) hx hb hts in_Gr hown hK hP 0 rfl rfl 0 (by decide) (hts (.fieldLink R_Gr 9 R_Gr "words" "LStepText$Words;") kw2_7) (fun _ h9 => h9) rfl d_Gr_readAmount_9 ?_
  refine va_get (D := D) (ci := 2) (v := .long z_this_words.2.2.2.2.2.2.2.2.2.2.2.2.2) (C := R_Wd) (T := F_Wd) (N := 15) hx hb hts in_Wd hown hK hP 12 rfl rfl 14 (by decide) (hts (.fieldLink R_Gr 108 R_Wd "value" "J") kw1_115) (fun _ h9 => h9) rfl d_Gr_readAmount_12 ?_
  refine lv_lstore_n (lv' := [(2, .long z_this_words.2.2.2.2.2.2.2.2.2.2.2.2.2), (1, .int z_this_words.2.2.2.2.2.2.2.2.2.2.2.2.1), (0, .ref (ad_this 0))]) hx hb d_Gr_readAmount_15 rfl hl (by decide) rfl (fun ls hl => ?_)
  refine lv_aload_n hx hb d_Gr_readAmount_16 rfl (lv_at hl 2 rfl) ?_
  refine xq_go (wr := ([] : va_W)) (stk := fun _ => []) (xq_runV (As := []) (rest := []) ⟨hx, hb, hml, hown, hts⟩ (c_Gr_pass (l := l) (o := o) (D := D) (k := k) (ad_this := ad_this) (ad_this_nodes := ad_this_nodes) (ad_this_words := ad_this_words) (q_this_names := q_this_names) (q_this_words_keywords := q_this_words_keywords) hw) (cw_Gr_pass hts kw2_157 ⟨Nat.le_of_ble_eq_true rfl, Nat.le_of_ble_eq_true rfl⟩) (va_recv hK hP (ci := 6) (q0 := 0) rfl rfl) (hP.sub [0, 1, 2, 3, 4, 5, 6, 7, 8, 9, 10, 11, 12, 13, 14, 15, 16, 17] rfl) hK hJ hS (va_free hD hS hA [0, 1, 2, 3, 4, 5, 6, 7, 8, 9, 10, 11, 12, 13, 14, 15, 16, 17] rfl) ((hD.sub [0, 1, 2, 3, 4, 5, 6, 7, 8, 9, 10, 11, 12, 13, 14, 15, 16, 17] (by decide) rfl).weaken (fun _ _ _ _ => trivial)) rfl hl.1 (Nat.le_of_ble_eq_true rfl) d_Gr_readAmount_17 ⟨Nat.le_of_ble_eq_true rfl, Nat.le_of_ble_eq_true rfl⟩) hP hD hS hA [0, 1, 2, 3, 4, 5, 6, 7, 8, 9, 10, 11, 12, 13, 14, 15, 16, 17] [] rfl rfl (by decide) (by decide) (fun _ => rfl) (fun r1 u1 H locs hw hP hD hS => ?_) (fun x u H locs hw hP hD hS hE => ?_)
  · have hP : va_P D vwCl (w_Gr k ad_this (ad_this_words 0) q_this_names (ad_this_nodes 0) u1.1 ++ w_Nd k ad_this_nodes z_this_nodes ++ w_Wd k ad_this_words q_this_words_keywords u1.2) H := hP.sub [0, 1, 2, 3, 4, 5, 6, 7, 8, 9, 10, 11, 12, 13, 14, 15, 16, 17] rfl
    have hD : va_D A (w_Gr k ad_this (ad_this_words 0) q_this_names (ad_this_nodes 0) u1.1 ++ w_Nd k ad_this_nodes z_this_nodes ++ w_Wd k ad_this_words q_this_words_keywords u1.2) := hD.sub [0, 1, 2, 3, 4, 5, 6, 7, 8, 9, 10, 11, 12, 13, 14, 15, 16, 17] (by decide) rfl
    refine lv_aload_n hx hb d_Gr_readAmount_20 rfl (lv_at hl 2 rfl) ?_
    refine xq_go (wr := w_Nd k ad_this_nodes z_this_nodes) (stk := fun r => .int r :: []) (xq_runV (As := []) (rest := []) ⟨hx, hb, hml, hown, hts⟩ (c_Gr_measureHere (l := l) (o := o) (D := D) (k := k) (ad_this := ad_this) (ad_this_words := ad_this_words) (q_this_names := q_this_names) (q_this_nodes := (ad_this_nodes 0)) (q_this_words_keywords := q_this_words_keywords) hw) (cw_Gr_measureHere hts kw3_60 ⟨Nat.le_of_ble_eq_true rfl, Nat.le_of_ble_eq_true rfl⟩) (va_recv hK hP (ci := 6) (q0 := 0) rfl rfl) (hP.sub [0, 12, 13, 14, 15, 16, 17] rfl) hK hJ hS (va_free hD hS hA [0, 12, 13, 14, 15, 16, 17] rfl) ((hD.sub [0, 12, 13, 14, 15, 16, 17] (by decide) rfl).weaken (fun _ _ _ _ => trivial)) rfl hl.1 (Nat.le_of_ble_eq_true rfl) d_Gr_readAmount_21 ⟨Nat.le_of_ble_eq_true rfl, Nat.le_of_ble_eq_true rfl⟩) hP hD hS hA [0, 12, 13, 14, 15, 16, 17] [1, 2, 3, 4, 5, 6, 7, 8, 9, 10, 11] rfl rfl (by decide) (by decide) (fun _ => rfl) (fun r2 u2 H locs hw hP hD hS => ?_) (fun _ _ _ _ h9 => h9.elim)
    have hP : va_P D vwCl (w_Gr k ad_this (ad_this_words 0) q_this_names (ad_this_nodes 0) u1.1 ++ w_Nd k ad_this_nodes z_this_nodes ++ w_Wd k ad_this_words q_this_words_keywords u1.2) H := hP.sub [11, 0, 1, 2, 3, 4, 5, 6, 7, 8, 9, 10, 12, 13, 14, 15, 16, 17] rfl
    have hD : va_D A (w_Gr k ad_this (ad_this_words 0) q_this_names (ad_this_nodes 0) u1.1 ++ w_Nd k ad_this_nodes z_this_nodes ++ w_Wd k ad_this_words q_this_words_keywords u1.2) := hD.sub [11, 0, 1, 2, 3, 4, 5, 6, 7, 8, 9, 10, 12, 13, 14, 15, 16, 17] (by decide) rfl
    refine lv_istore (lv' := [(4, .int r2), (2, .long z_this_words.2.2.2.2.2.2.2.2.2.2.2.2.2), (1, .int z_this_words.2.2.2.2.2.2.2.2.2.2.2.2.1), (0, .ref (ad_this 0))]) hx hb d_Gr_readAmount_24 hl (by decide) rfl (fun ls hl => ?_)
    refine lv_aload_n hx hb d_Gr_readAmount_26 rfl (lv_at hl 3 rfl) ?_
    refine lv_sipush (v := (224 : Int32)) hx hb d_Gr_readAmount_27 (by decide) ?_
    refine lv_sipush (v := (225 : Int32)) hx hb d_Gr_readAmount_30 (by decide) ?_
    refine xq_go (wr := w_Nd k ad_this_nodes z_this_nodes) (stk := fun r => .int r :: []) (xq_runV (As := [.int (224 : Int32), .int (225 : Int32)]) (rest := []) ⟨hx, hb, hml, hown, hts⟩ (c_Gr_isBetween (l := l) (o := o) (D := D) (k := k) (ad_this := ad_this) (ad_this_words := ad_this_words) (q_this_names := q_this_names) (q_this_nodes := (ad_this_nodes 0)) (q_this_words_keywords := q_this_words_keywords) hw) (cw_Gr_isBetween hts kw2_149 ⟨Nat.le_of_ble_eq_true rfl, Nat.le_of_ble_eq_true rfl⟩) (va_recv hK hP (ci := 6) (q0 := 0) rfl rfl) (hP.sub [0, 12, 13, 14, 15, 16, 17] rfl) hK hJ hS (va_free hD hS hA [0, 12, 13, 14, 15, 16, 17] rfl) ((hD.sub [0, 12, 13, 14, 15, 16, 17] (by decide) rfl).weaken (fun _ _ _ _ => trivial)) rfl hl.1 (Nat.le_of_ble_eq_true rfl) d_Gr_readAmount_33 ⟨Nat.le_of_ble_eq_true rfl, Nat.le_of_ble_eq_true rfl⟩) hP hD hS hA [0, 12, 13, 14, 15, 16, 17] [1, 2, 3, 4, 5, 6, 7, 8, 9, 10, 11] rfl rfl (by decide) (by decide) (fun _ => rfl) (fun r3 u3 H locs hw hP hD hS => ?_) (fun _ _ _ _ h9 => h9.elim)
    have hP : va_P D vwCl (w_Gr k ad_this (ad_this_words 0) q_this_names (ad_this_nodes 0) u1.1 ++ w_Nd k ad_this_nodes z_this_nodes ++ w_Wd k ad_this_words q_this_words_keywords u1.2) H := hP.sub [11, 0, 1, 2, 3, 4, 5, 6, 7, 8, 9, 10, 12, 13, 14, 15, 16, 17] rfl
    have hD : va_D A (w_Gr k ad_this (ad_this_words 0) q_this_names (ad_this_nodes 0) u1.1 ++ w_Nd k ad_this_nodes z_this_nodes ++ w_Wd k ad_this_words q_this_words_keywords u1.2) := hD.sub [11, 0, 1, 2, 3, 4, 5, 6, 7, 8, 9, 10, 12, 13, 14, 15, 16, 17] (by decide) rfl
    refine lv_if_eq (tgt := 67) hx hb d_Gr_readAmount_36 (by decide) (fun hc => ?_) (fun hc => ?_)
    · have hw := hw.1 hc
      refine lv_lload_n hx hb d_Gr_readAmount_67 rfl (lv_at hl 1 rfl) ?_
      refine lv_ldc2 (v := (999999999999 : Int64)) hx hb hown (hts (.constantLong R_Gr 209 (999999999999)) kw3_66) d_Gr_readAmount_68 ?_
      refine W.lcmp hx hb d_Gr_readAmount_71 ?_
      refine lv_if_le (tgt := 86) hx hb d_Gr_readAmount_72 (by decide) (fun hc => ?_) (fun hc => ?_)
      · have hw := hw.1 hc
        refine lv_iload hx hb d_Gr_readAmount_86 (lv_at hl 0 rfl) ?_
        refine lv_if_le (tgt := 95) hx hb d_Gr_readAmount_88 (by decide) (fun hc => ?_) (fun hc => ?_)
        · have hw := hw.1 hc
          refine lv_aload_n hx hb d_Gr_readAmount_95 rfl (lv_at hl 3 rfl) ?_
          refine va_get (D := D) (ci := 6) (v := .ref (ad_this_nodes 0)) (C := R_Gr) (T := F_Gr) (N := 4) hx hb hts in_Gr hown hK hP 0 rfl rfl 2 (by decide) (hts (.fieldLink R_Gr 28 R_Gr "nodes" "LStepText$Nodes;") kw2_9) (fun _ h9 => h9) rfl d_Gr_readAmount_96 ?_
          refine lv_iconst (v := (0 : Int32)) hx hb d_Gr_readAmount_99 (by decide) ?_
          refine lv_aload_n hx hb d_Gr_readAmount_100 rfl (lv_at hl 3 rfl) ?_
          refine va_get (D := D) (ci := 6) (v := .ref (ad_this_nodes 0)) (C := R_Gr) (T := F_Gr) (N := 4) hx hb hts in_Gr hown hK hP 0 rfl rfl 2 (by decide) (hts (.fieldLink R_Gr 28 R_Gr "nodes" "LStepText$Nodes;") kw2_9) (fun _ h9 => h9) rfl d_Gr_readAmount_101 ?_
          refine xq_go (wr := w_Gr k ad_this (ad_this_words 0) q_this_names (ad_this_nodes 0) u1.1 ++ w_Wd k ad_this_words q_this_words_keywords u1.2) (stk := fun r => .int r :: [.int (0 : Int32), .ref (ad_this_nodes 0)]) (xq_runV (As := []) (rest := [.int (0 : Int32), .ref (ad_this_nodes 0)]) ⟨hx, hb, hml, hown, hts⟩ (c_Nd_count (l := l) (o := o) (D := D) (k := k) (ad_this := ad_this_nodes) hw) (cw_Nd_count hts kw2_239 ⟨Nat.le_of_ble_eq_true rfl, Nat.le_of_ble_eq_true rfl⟩) (va_recv hK hP (ci := 4) (q0 := 1) rfl rfl) (hP.sub [1, 2, 3, 4, 5, 6, 7, 8, 9, 10, 11] rfl) hK hJ hS (va_free hD hS hA [1, 2, 3, 4, 5, 6, 7, 8, 9, 10, 11] rfl) ((hD.sub [1, 2, 3, 4, 5, 6, 7, 8, 9, 10, 11] (by decide) rfl).weaken (fun _ _ _ _ => trivial)) rfl hl.1 (Nat.le_of_ble_eq_true rfl) d_Gr_readAmount_104 ⟨Nat.le_of_ble_eq_true rfl, Nat.le_of_ble_eq_true rfl⟩) hP hD hS hA [1, 2, 3, 4, 5, 6, 7, 8, 9, 10, 11] [0, 12, 13, 14, 15, 16, 17] rfl rfl (by decide) (by decide) (fun _ => rfl) (fun r4 u4 H locs hw hP hD hS => ?_) (fun _ _ _ _ h9 => h9.elim)
          have hP : va_P D vwCl (w_Gr k ad_this (ad_this_words 0) q_this_names (ad_this_nodes 0) u1.1 ++ w_Nd k ad_this_nodes z_this_nodes ++ w_Wd k ad_this_words q_this_words_keywords u1.2) H := hP.sub [0, 7, 8, 9, 10, 11, 12, 13, 14, 15, 16, 17, 1, 2, 3, 4, 5, 6] rfl
          have hD : va_D A (w_Gr k ad_this (ad_this_words 0) q_this_names (ad_this_nodes 0) u1.1 ++ w_Nd k ad_this_nodes z_this_nodes ++ w_Wd k ad_this_words q_this_words_keywords u1.2) := hD.sub [0, 7, 8, 9, 10, 11, 12, 13, 14, 15, 16, 17, 1, 2, 3, 4, 5, 6] (by decide) rfl
          refine lv_iload_n hx hb d_Gr_readAmount_107 rfl (lv_at hl 2 rfl) ?_
          refine lv_lload_n hx hb d_Gr_readAmount_108 rfl (lv_at hl 1 rfl) ?_
          refine lv_iload hx hb d_Gr_readAmount_109 (lv_at hl 0 rfl) ?_
          refine xq_go (wr := w_Gr k ad_this (ad_this_words 0) q_this_names (ad_this_nodes 0) u1.1 ++ w_Wd k ad_this_words q_this_words_keywords u1.2) (stk := fun r => .int r :: []) (xq_runV (As := [.int (0 : Int32), .int r4, .int z_this_words.2.2.2.2.2.2.2.2.2.2.2.2.1, .long z_this_words.2.2.2.2.2.2.2.2.2.2.2.2.2, .int r2]) (rest := []) ⟨hx, hb, hml, hown, hts⟩ (c_Nd_add (l := l) (o := o) (D := D) (k := k) (ad_this := ad_this_nodes) hw) (cw_Nd_add hts kw3_67 ⟨Nat.le_of_ble_eq_true rfl, Nat.le_of_ble_eq_true rfl⟩) (va_recv hK hP (ci := 4) (q0 := 1) rfl rfl) (hP.sub [1, 2, 3, 4, 5, 6, 7, 8, 9, 10, 11] rfl) hK hJ hS (va_free hD hS hA [1, 2, 3, 4, 5, 6, 7, 8, 9, 10, 11] rfl) ((hD.sub [1, 2, 3, 4, 5, 6, 7, 8, 9, 10, 11] (by decide) rfl).weaken (fun _ _ _ _ => trivial)) rfl hl.1 (Nat.le_of_ble_eq_true rfl) d_Gr_readAmount_111 ⟨Nat.le_of_ble_eq_true rfl, Nat.le_of_ble_eq_true rfl⟩) hP hD hS hA [1, 2, 3, 4, 5, 6, 7, 8, 9, 10, 11] [0, 12, 13, 14, 15, 16, 17] rfl rfl (by decide) (by decide) (fun _ => rfl) (fun r5 u5 H locs hw hP hD hS => ?_) (fun _ _ _ _ h9 => h9.elim)
          have hP : va_P D vwCl (w_Gr k ad_this (ad_this_words 0) q_this_names (ad_this_nodes 0) u1.1 ++ w_Nd k ad_this_nodes u5 ++ w_Wd k ad_this_words q_this_words_keywords u1.2) H := hP.sub [0, 7, 8, 9, 10, 11, 12, 13, 14, 15, 16, 17, 1, 2, 3, 4, 5, 6] rfl
          have hD : va_D A (w_Gr k ad_this (ad_this_words 0) q_this_names (ad_this_nodes 0) u1.1 ++ w_Nd k ad_this_nodes u5 ++ w_Wd k ad_this_words q_this_words_keywords u1.2) := hD.sub [0, 7, 8, 9, 10, 11, 12, 13, 14, 15, 16, 17, 1, 2, 3, 4, 5, 6] (by decide) rfl
          exact xq_iret (r := r5) (u := (u1.1, u5, u1.2)) hx hb hr hlocks hAe hP hD hS rfl hw (Nat.le_of_ble_eq_true rfl) (Nat.le_of_ble_eq_true rfl) d_Gr_readAmount_114
        · have hw := hw.2 hc
          refine lv_aload_n hx hb d_Gr_readAmount_91 rfl (lv_at hl 3 rfl) ?_
          refine xq_go (wr := ([] : va_W)) (stk := fun _ => []) (xq_runV (As := []) (rest := []) ⟨hx, hb, hml, hown, hts⟩ (c_Gr_pass (l := l) (o := o) (D := D) (k := k) (ad_this := ad_this) (ad_this_nodes := ad_this_nodes) (ad_this_words := ad_this_words) (q_this_names := q_this_names) (q_this_words_keywords := q_this_words_keywords) hw) (cw_Gr_pass hts kw2_157 ⟨Nat.le_of_ble_eq_true rfl, Nat.le_of_ble_eq_true rfl⟩) (va_recv hK hP (ci := 6) (q0 := 0) rfl rfl) (hP.sub [0, 1, 2, 3, 4, 5, 6, 7, 8, 9, 10, 11, 12, 13, 14, 15, 16, 17] rfl) hK hJ hS (va_free hD hS hA [0, 1, 2, 3, 4, 5, 6, 7, 8, 9, 10, 11, 12, 13, 14, 15, 16, 17] rfl) ((hD.sub [0, 1, 2, 3, 4, 5, 6, 7, 8, 9, 10, 11, 12, 13, 14, 15, 16, 17] (by decide) rfl).weaken (fun _ _ _ _ => trivial)) rfl hl.1 (Nat.le_of_ble_eq_true rfl) d_Gr_readAmount_92 ⟨Nat.le_of_ble_eq_true rfl, Nat.le_of_ble_eq_true rfl⟩) hP hD hS hA [0, 1, 2, 3, 4, 5, 6, 7, 8, 9, 10, 11, 12, 13, 14, 15, 16, 17] [] rfl rfl (by decide) (by decide) (fun _ => rfl) (fun r6 u6 H locs hw hP hD hS => ?_) (fun x u H locs hw hP hD hS hE => ?_)
          · have hP : va_P D vwCl (w_Gr k ad_this (ad_this_words 0) q_this_names (ad_this_nodes 0) u6.1 ++ w_Nd k ad_this_nodes z_this_nodes ++ w_Wd k ad_this_words q_this_words_keywords u6.2) H := hP.sub [0, 1, 2, 3, 4, 5, 6, 7, 8, 9, 10, 11, 12, 13, 14, 15, 16, 17] rfl
            have hD : va_D A (w_Gr k ad_this (ad_this_words 0) q_this_names (ad_this_nodes 0) u6.1 ++ w_Nd k ad_this_nodes z_this_nodes ++ w_Wd k ad_this_words q_this_words_keywords u6.2) := hD.sub [0, 1, 2, 3, 4, 5, 6, 7, 8, 9, 10, 11, 12, 13, 14, 15, 16, 17] (by decide) rfl
            refine lv_aload_n hx hb d_Gr_readAmount_95 rfl (lv_at hl 3 rfl) ?_
            refine va_get (D := D) (ci := 6) (v := .ref (ad_this_nodes 0)) (C := R_Gr) (T := F_Gr) (N := 4) hx hb hts in_Gr hown hK hP 0 rfl rfl 2 (by decide) (hts (.fieldLink R_Gr 28 R_Gr "nodes" "LStepText$Nodes;") kw2_9) (fun _ h9 => h9) rfl d_Gr_readAmount_96 ?_
            refine lv_iconst (v := (0 : Int32)) hx hb d_Gr_readAmount_99 (by decide) ?_
            refine lv_aload_n hx hb d_Gr_readAmount_100 rfl (lv_at hl 3 rfl) ?_
            refine va_get (D := D) (ci := 6) (v := .ref (ad_this_nodes 0)) (C := R_Gr) (T := F_Gr) (N := 4) hx hb hts in_Gr hown hK hP 0 rfl rfl 2 (by decide) (hts (.fieldLink R_Gr 28 R_Gr "nodes" "LStepText$Nodes;") kw2_9) (fun _ h9 => h9) rfl d_Gr_readAmount_101 ?_
            refine xq_go (wr := w_Gr k ad_this (ad_this_words 0) q_this_names (ad_this_nodes 0) u6.1 ++ w_Wd k ad_this_words q_this_words_keywords u6.2) (stk := fun r => .int r :: [.int (0 : Int32), .ref (ad_this_nodes 0)]) (xq_runV (As := []) (rest := [.int (0 : Int32), .ref (ad_this_nodes 0)]) ⟨hx, hb, hml, hown, hts⟩ (c_Nd_count (l := l) (o := o) (D := D) (k := k) (ad_this := ad_this_nodes) hw) (cw_Nd_count hts kw2_239 ⟨Nat.le_of_ble_eq_true rfl, Nat.le_of_ble_eq_true rfl⟩) (va_recv hK hP (ci := 4) (q0 := 1) rfl rfl) (hP.sub [1, 2, 3, 4, 5, 6, 7, 8, 9, 10, 11] rfl) hK hJ hS (va_free hD hS hA [1, 2, 3, 4, 5, 6, 7, 8, 9, 10, 11] rfl) ((hD.sub [1, 2, 3, 4, 5, 6, 7, 8, 9, 10, 11] (by decide) rfl).weaken (fun _ _ _ _ => trivial)) rfl hl.1 (Nat.le_of_ble_eq_true rfl) d_Gr_readAmount_104 ⟨Nat.le_of_ble_eq_true rfl, Nat.le_of_ble_eq_true rfl⟩) hP hD hS hA [1, 2, 3, 4, 5, 6, 7, 8, 9, 10, 11] [0, 12, 13, 14, 15, 16, 17] rfl rfl (by decide) (by decide) (fun _ => rfl) (fun r7 u7 H locs hw hP hD hS => ?_) (fun _ _ _ _ h9 => h9.elim)
            have hP : va_P D vwCl (w_Gr k ad_this (ad_this_words 0) q_this_names (ad_this_nodes 0) u6.1 ++ w_Nd k ad_this_nodes z_this_nodes ++ w_Wd k ad_this_words q_this_words_keywords u6.2) H := hP.sub [0, 7, 8, 9, 10, 11, 12, 13, 14, 15, 16, 17, 1, 2, 3, 4, 5, 6] rfl
            have hD : va_D A (w_Gr k ad_this (ad_this_words 0) q_this_names (ad_this_nodes 0) u6.1 ++ w_Nd k ad_this_nodes z_this_nodes ++ w_Wd k ad_this_words q_this_words_keywords u6.2) := hD.sub [0, 7, 8, 9, 10, 11, 12, 13, 14, 15, 16, 17, 1, 2, 3, 4, 5, 6] (by decide) rfl
            refine lv_iload_n hx hb d_Gr_readAmount_107 rfl (lv_at hl 2 rfl) ?_
            refine lv_lload_n hx hb d_Gr_readAmount_108 rfl (lv_at hl 1 rfl) ?_
            refine lv_iload hx hb d_Gr_readAmount_109 (lv_at hl 0 rfl) ?_
            refine xq_go (wr := w_Gr k ad_this (ad_this_words 0) q_this_names (ad_this_nodes 0) u6.1 ++ w_Wd k ad_this_words q_this_words_keywords u6.2) (stk := fun r => .int r :: []) (xq_runV (As := [.int (0 : Int32), .int r7, .int z_this_words.2.2.2.2.2.2.2.2.2.2.2.2.1, .long z_this_words.2.2.2.2.2.2.2.2.2.2.2.2.2, .int r2]) (rest := []) ⟨hx, hb, hml, hown, hts⟩ (c_Nd_add (l := l) (o := o) (D := D) (k := k) (ad_this := ad_this_nodes) hw) (cw_Nd_add hts kw3_67 ⟨Nat.le_of_ble_eq_true rfl, Nat.le_of_ble_eq_true rfl⟩) (va_recv hK hP (ci := 4) (q0 := 1) rfl rfl) (hP.sub [1, 2, 3, 4, 5, 6, 7, 8, 9, 10, 11] rfl) hK hJ hS (va_free hD hS hA [1, 2, 3, 4, 5, 6, 7, 8, 9, 10, 11] rfl) ((hD.sub [1, 2, 3, 4, 5, 6, 7, 8, 9, 10, 11] (by decide) rfl).weaken (fun _ _ _ _ => trivial)) rfl hl.1 (Nat.le_of_ble_eq_true rfl) d_Gr_readAmount_111 ⟨Nat.le_of_ble_eq_true rfl, Nat.le_of_ble_eq_true rfl⟩) hP hD hS hA [1, 2, 3, 4, 5, 6, 7, 8, 9, 10, 11] [0, 12, 13, 14, 15, 16, 17] rfl rfl (by decide) (by decide) (fun _ => rfl) (fun r8 u8 H locs hw hP hD hS => ?_) (fun _ _ _ _ h9 => h9.elim)
            have hP : va_P D vwCl (w_Gr k ad_this (ad_this_words 0) q_this_names (ad_this_nodes 0) u6.1 ++ w_Nd k ad_this_nodes u8 ++ w_Wd k ad_this_words q_this_words_keywords u6.2) H := hP.sub [0, 7, 8, 9, 10, 11, 12, 13, 14, 15, 16, 17, 1, 2, 3, 4, 5, 6] rfl
            have hD : va_D A (w_Gr k ad_this (ad_this_words 0) q_this_names (ad_this_nodes 0) u6.1 ++ w_Nd k ad_this_nodes u8 ++ w_Wd k ad_this_words q_this_words_keywords u6.2) := hD.sub [0, 7, 8, 9, 10, 11, 12, 13, 14, 15, 16, 17, 1, 2, 3, 4, 5, 6] (by decide) rfl
            exact xq_iret (r := r8) (u := (u6.1, u8, u6.2)) hx hb hr hlocks hAe hP hD hS rfl hw (Nat.le_of_ble_eq_true rfl) (Nat.le_of_ble_eq_true rfl) d_Gr_readAmount_114
          · have hP : va_P D vwCl (w_Gr k ad_this (ad_this_words 0) q_this_names (ad_this_nodes 0) u.1 ++ w_Nd k ad_this_nodes z_this_nodes ++ w_Wd k ad_this_words q_this_words_keywords u.2) H := hP.sub [0, 1, 2, 3, 4, 5, 6, 7, 8, 9, 10, 11, 12, 13, 14, 15, 16, 17] rfl
            have hD : va_D A (w_Gr k ad_this (ad_this_words 0) q_this_names (ad_this_nodes 0) u.1 ++ w_Nd k ad_this_nodes z_this_nodes ++ w_Wd k ad_this_words q_this_words_keywords u.2) := hD.sub [0, 1, 2, 3, 4, 5, 6, 7, 8, 9, 10, 11, 12, 13, 14, 15, 16, 17] (by decide) rfl
            exact xq_out (u := (u.1, z_this_nodes, u.2)) hex hlocks hAe hP hD hS hw hE (Nat.le_of_ble_eq_true rfl) (Nat.le_of_ble_eq_true rfl)
      · have hw := hw.2 hc
        refine lv_aload_n hx hb d_Gr_readAmount_75 rfl (lv_at hl 3 rfl) ?_
        refine lv_aload_n hx hb d_Gr_readAmount_76 rfl (lv_at hl 3 rfl) ?_
        refine va_get (D := D) (ci := 6) (v := .ref (ad_this_words 0)) (C := R_Gr) (T := F_Gr) (N := 4) hx hb hts in_Gr hown hK hP 0 rfl rfl 0 (by decide) (hts (.fieldLink R_Gr 9 R_Gr "words" "LStepText$Words;") kw2_7) (fun _ h9 => h9) rfl d_Gr_readAmount_77 ?_
        refine va_get (D := D) (ci := 2) (v := .int u1.2.2.2.2.2.2.2.2.2.2.2.2.1) (C := R_Wd) (T := F_Wd) (N := 15) hx hb hts in_Wd hown hK hP 12 rfl rfl 12 (by decide) (hts (.fieldLink R_Gr 96 R_Wd "place" "I") kw1_111) (fun _ h9 => h9) rfl d_Gr_readAmount_80 ?_
        refine xq_go (wr := w_Nd k ad_this_nodes z_this_nodes ++ w_Wd k ad_this_words q_this_words_keywords u1.2) (stk := fun _ => []) (xq_runV (As := [.int u1.2.2.2.2.2.2.2.2.2.2.2.2.1]) (rest := []) ⟨hx, hb, hml, hown, hts⟩ (c_Gr_refuse (l := l) (o := o) (D := D) (k := k) (ad_this := ad_this) (q_this_words := (ad_this_words 0)) (q_this_names := q_this_names) (q_this_nodes := (ad_this_nodes 0)) hw) (cw_Gr_refuse hts kw2_165 ⟨Nat.le_of_ble_eq_true rfl, Nat.le_of_ble_eq_true rfl⟩) (va_recv hK hP (ci := 6) (q0 := 0) rfl rfl) (hP.sub [0] rfl) hK hJ hS (va_free hD hS hA [0] rfl) ((hD.sub [0] (by decide) rfl).weaken (fun _ _ _ _ => trivial)) rfl hl.1 (Nat.le_of_ble_eq_true rfl) d_Gr_readAmount_83 ⟨Nat.le_of_ble_eq_true rfl, Nat.le_of_ble_eq_true rfl⟩) hP hD hS hA [0] [1, 2, 3, 4, 5, 6, 7, 8, 9, 10, 11, 12, 13, 14, 15, 16, 17] rfl rfl (by decide) (by decide) (fun _ => rfl) (fun _ _ _ _ h9 => h9.elim) (fun x u H locs hw hP hD hS hE => ?_)
        have hP : va_P D vwCl (w_Gr k ad_this (ad_this_words 0) q_this_names (ad_this_nodes 0) u ++ w_Nd k ad_this_nodes z_this_nodes ++ w_Wd k ad_this_words q_this_words_keywords u1.2) H := hP.sub [17, 0, 1, 2, 3, 4, 5, 6, 7, 8, 9, 10, 11, 12, 13, 14, 15, 16] rfl
        have hD : va_D A (w_Gr k ad_this (ad_this_words 0) q_this_names (ad_this_nodes 0) u ++ w_Nd k ad_this_nodes z_this_nodes ++ w_Wd k ad_this_words q_this_words_keywords u1.2) := hD.sub [17, 0, 1, 2, 3, 4, 5, 6, 7, 8, 9, 10, 11, 12, 13, 14, 15, 16] (by decide) rfl
        exact xq_out (u := (u, z_this_nodes, u1.2)) hex hlocks hAe hP hD hS hw hE (Nat.le_of_ble_eq_true rfl) (Nat.le_of_ble_eq_true rfl)
    · have hw := hw.2 hc
      refine lv_iconst (v := (3 : Int32)) hx hb d_Gr_readAmount_39 (by decide) ?_
      refine lv_istore (lv' := [(4, .int (3 : Int32)), (2, .long z_this_words.2.2.2.2.2.2.2.2.2.2.2.2.2), (1, .int z_this_words.2.2.2.2.2.2.2.2.2.2.2.2.1), (0, .ref (ad_this 0))]) hx hb d_Gr_readAmount_40 hl (by decide) rfl (fun ls hl => ?_)
      refine lv_lload_n hx hb d_Gr_readAmount_42 rfl (lv_at hl 1 rfl) ?_
      refine lv_aload_n hx hb d_Gr_readAmount_43 rfl (lv_at hl 3 rfl) ?_
      refine va_get (D := D) (ci := 6) (v := .ref (ad_this_words 0)) (C := R_Gr) (T := F_Gr) (N := 4) hx hb hts in_Gr hown hK hP 0 rfl rfl 0 (by decide) (hts (.fieldLink R_Gr 9 R_Gr "words" "LStepText$Words;") kw2_7) (fun _ h9 => h9) rfl d_Gr_readAmount_44 ?_
      refine va_get (D := D) (ci := 2) (v := .int u1.2.2.2.2.2.2.2.2.2.2.2.1) (C := R_Wd) (T := F_Wd) (N := 15) hx hb hts in_Wd hown hK hP 12 rfl rfl 11 (by decide) (hts (.fieldLink R_Gr 44 R_Wd "code" "I") kw1_108) (fun _ h9 => h9) rfl d_Gr_readAmount_47 ?_
      refine lv_sipush (v := (224 : Int32)) hx hb d_Gr_readAmount_50 (by decide) ?_
      refine lv_icmp_ne (tgt := 62) hx hb d_Gr_readAmount_53 (by decide) (fun hc => ?_) (fun hc => ?_)
      · have hw := hw.2 hc
        refine lv_ldc2 (v := (3600 : Int64)) hx hb hown (hts (.constantLong R_Gr 207 (3600)) kw3_65) d_Gr_readAmount_62 ?_
        refine lv_lmul hx hb d_Gr_readAmount_65 ?_
        refine lv_lstore_n (lv' := [(2, .long (z_this_words.2.2.2.2.2.2.2.2.2.2.2.2.2 * (3600 : Int64))), (4, .int (3 : Int32)), (1, .int z_this_words.2.2.2.2.2.2.2.2.2.2.2.2.1), (0, .ref (ad_this 0))]) hx hb d_Gr_readAmount_66 rfl hl (by decide) rfl (fun ls hl => ?_)
        refine lv_lload_n hx hb d_Gr_readAmount_67 rfl (lv_at hl 0 rfl) ?_
        refine lv_ldc2 (v := (999999999999 : Int64)) hx hb hown (hts (.constantLong R_Gr 209 (999999999999)) kw3_66) d_Gr_readAmount_68 ?_
        refine W.lcmp hx hb d_Gr_readAmount_71 ?_
        refine lv_if_le (tgt := 86) hx hb d_Gr_readAmount_72 (by decide) (fun hc => ?_) (fun hc => ?_)
        · have hw := hw.1 hc
          refine lv_iload hx hb d_Gr_readAmount_86 (lv_at hl 1 rfl) ?_
          refine lv_if_le (tgt := 95) hx hb d_Gr_readAmount_88 (by decide) (fun hc => ?_) (fun hc => ?_)
          · have hw := hw.1 hc
            refine lv_aload_n hx hb d_Gr_readAmount_95 rfl (lv_at hl 3 rfl) ?_
            refine va_get (D := D) (ci := 6) (v := .ref (ad_this_nodes 0)) (C := R_Gr) (T := F_Gr) (N := 4) hx hb hts in_Gr hown hK hP 0 rfl rfl 2 (by decide) (hts (.fieldLink R_Gr 28 R_Gr "nodes" "LStepText$Nodes;") kw2_9) (fun _ h9 => h9) rfl d_Gr_readAmount_96 ?_
            refine lv_iconst (v := (0 : Int32)) hx hb d_Gr_readAmount_99 (by decide) ?_
            refine lv_aload_n hx hb d_Gr_readAmount_100 rfl (lv_at hl 3 rfl) ?_
            refine va_get (D := D) (ci := 6) (v := .ref (ad_this_nodes 0)) (C := R_Gr) (T := F_Gr) (N := 4) hx hb hts in_Gr hown hK hP 0 rfl rfl 2 (by decide) (hts (.fieldLink R_Gr 28 R_Gr "nodes" "LStepText$Nodes;") kw2_9) (fun _ h9 => h9) rfl d_Gr_readAmount_101 ?_
            refine xq_go (wr := w_Gr k ad_this (ad_this_words 0) q_this_names (ad_this_nodes 0) u1.1 ++ w_Wd k ad_this_words q_this_words_keywords u1.2) (stk := fun r => .int r :: [.int (0 : Int32), .ref (ad_this_nodes 0)]) (xq_runV (As := []) (rest := [.int (0 : Int32), .ref (ad_this_nodes 0)]) ⟨hx, hb, hml, hown, hts⟩ (c_Nd_count (l := l) (o := o) (D := D) (k := k) (ad_this := ad_this_nodes) hw) (cw_Nd_count hts kw2_239 ⟨Nat.le_of_ble_eq_true rfl, Nat.le_of_ble_eq_true rfl⟩) (va_recv hK hP (ci := 4) (q0 := 1) rfl rfl) (hP.sub [1, 2, 3, 4, 5, 6, 7, 8, 9, 10, 11] rfl) hK hJ hS (va_free hD hS hA [1, 2, 3, 4, 5, 6, 7, 8, 9, 10, 11] rfl) ((hD.sub [1, 2, 3, 4, 5, 6, 7, 8, 9, 10, 11] (by decide) rfl).weaken (fun _ _ _ _ => trivial)) rfl hl.1 (Nat.le_of_ble_eq_true rfl) d_Gr_readAmount_104 ⟨Nat.le_of_ble_eq_true rfl, Nat.le_of_ble_eq_true rfl⟩) hP hD hS hA [1, 2, 3, 4, 5, 6, 7, 8, 9, 10, 11] [0, 12, 13, 14, 15, 16, 17] rfl rfl (by decide) (by decide) (fun _ => rfl) (fun r10 u10 H locs hw hP hD hS => ?_) (fun _ _ _ _ h9 => h9.elim)
            have hP : va_P D vwCl (w_Gr k ad_this (ad_this_words 0) q_this_names (ad_this_nodes 0) u1.1 ++ w_Nd k ad_this_nodes z_this_nodes ++ w_Wd k ad_this_words q_this_words_keywords u1.2) H := hP.sub [0, 7, 8, 9, 10, 11, 12, 13, 14, 15, 16, 17, 1, 2, 3, 4, 5, 6] rfl
            have hD : va_D A (w_Gr k ad_this (ad_this_words 0) q_this_names (ad_this_nodes 0) u1.1 ++ w_Nd k ad_this_nodes z_this_nodes ++ w_Wd k ad_this_words q_this_words_keywords u1.2) := hD.sub [0, 7, 8, 9, 10, 11, 12, 13, 14, 15, 16, 17, 1, 2, 3, 4, 5, 6] (by decide) rfl
            refine lv_iload_n hx hb d_Gr_readAmount_107 rfl (lv_at hl 2 rfl) ?_
            refine lv_lload_n hx hb d_Gr_readAmount_108 rfl (lv_at hl 0 rfl) ?_
            refine lv_iload hx hb d_Gr_readAmount_109 (lv_at hl 1 rfl) ?_
            refine xq_go (wr := w_Gr k ad_this (ad_this_words 0) q_this_names (ad_this_nodes 0) u1.1 ++ w_Wd k ad_this_words q_this_words_keywords u1.2) (stk := fun r => .int r :: []) (xq_runV (As := [.int (0 : Int32), .int r10, .int z_this_words.2.2.2.2.2.2.2.2.2.2.2.2.1, .long (z_this_words.2.2.2.2.2.2.2.2.2.2.2.2.2 * (3600 : Int64)), .int (3 : Int32)]) (rest := []) ⟨hx, hb, hml, hown, hts⟩ (c_Nd_add (l := l) (o := o) (D := D) (k := k) (ad_this := ad_this_nodes) hw) (cw_Nd_add hts kw3_67 ⟨Nat.le_of_ble_eq_true rfl, Nat.le_of_ble_eq_true rfl⟩) (va_recv hK hP (ci := 4) (q0 := 1) rfl rfl) (hP.sub [1, 2, 3, 4, 5, 6, 7, 8, 9, 10, 11] rfl) hK hJ hS (va_free hD hS hA [1, 2, 3, 4, 5, 6, 7, 8, 9, 10, 11] rfl) ((hD.sub [1, 2, 3, 4, 5, 6, 7, 8, 9, 10, 11] (by decide) rfl).weaken (fun _ _ _ _ => trivial)) rfl hl.1 (Nat.le_of_ble_eq_true rfl) d_Gr_readAmount_111 ⟨Nat.le_of_ble_eq_true rfl, Nat.le_of_ble_eq_true rfl⟩) hP hD hS hA [1, 2, 3, 4, 5, 6, 7, 8, 9, 10, 11] [0, 12, 13, 14, 15, 16, 17] rfl rfl (by decide) (by decide) (fun _ => rfl) (fun r11 u11 H locs hw hP hD hS => ?_) (fun _ _ _ _ h9 => h9.elim)
            have hP : va_P D vwCl (w_Gr k ad_this (ad_this_words 0) q_this_names (ad_this_nodes 0) u1.1 ++ w_Nd k ad_this_nodes u11 ++ w_Wd k ad_this_words q_this_words_keywords u1.2) H := hP.sub [0, 7, 8, 9, 10, 11, 12, 13, 14, 15, 16, 17, 1, 2, 3, 4, 5, 6] rfl
            have hD : va_D A (w_Gr k ad_this (ad_this_words 0) q_this_names (ad_this_nodes 0) u1.1 ++ w_Nd k ad_this_nodes u11 ++ w_Wd k ad_this_words q_this_words_keywords u1.2) := hD.sub [0, 7, 8, 9, 10, 11, 12, 13, 14, 15, 16, 17, 1, 2, 3, 4, 5, 6] (by decide) rfl
            exact xq_iret (r := r11) (u := (u1.1, u11, u1.2)) hx hb hr hlocks hAe hP hD hS rfl hw (Nat.le_of_ble_eq_true rfl) (Nat.le_of_ble_eq_true rfl) d_Gr_readAmount_114
          · have hw := hw.2 hc
            refine lv_aload_n hx hb d_Gr_readAmount_91 rfl (lv_at hl 3 rfl) ?_
            refine xq_go (wr := ([] : va_W)) (stk := fun _ => []) (xq_runV (As := []) (rest := []) ⟨hx, hb, hml, hown, hts⟩ (c_Gr_pass (l := l) (o := o) (D := D) (k := k) (ad_this := ad_this) (ad_this_nodes := ad_this_nodes) (ad_this_words := ad_this_words) (q_this_names := q_this_names) (q_this_words_keywords := q_this_words_keywords) hw) (cw_Gr_pass hts kw2_157 ⟨Nat.le_of_ble_eq_true rfl, Nat.le_of_ble_eq_true rfl⟩) (va_recv hK hP (ci := 6) (q0 := 0) rfl rfl) (hP.sub [0, 1, 2, 3, 4, 5, 6, 7, 8, 9, 10, 11, 12, 13, 14, 15, 16, 17] rfl) hK hJ hS (va_free hD hS hA [0, 1, 2, 3, 4, 5, 6, 7, 8, 9, 10, 11, 12, 13, 14, 15, 16, 17] rfl) ((hD.sub [0, 1, 2, 3, 4, 5, 6, 7, 8, 9, 10, 11, 12, 13, 14, 15, 16, 17] (by decide) rfl).weaken (fun _ _ _ _ => trivial)) rfl hl.1 (Nat.le_of_ble_eq_true rfl) d_Gr_readAmount_92 ⟨Nat.le_of_ble_eq_true rfl, Nat.le_of_ble_eq_true rfl⟩) hP hD hS hA [0, 1, 2, 3, 4, 5, 6, 7, 8, 9, 10, 11, 12, 13, 14, 15, 16, 17] [] rfl rfl (by decide) (by decide) (fun _ => rfl) (fun r12 u12 H locs hw hP hD hS => ?_) (fun x u H locs hw hP hD hS hE => ?_)
            · have hP : va_P D vwCl (w_Gr k ad_this (ad_this_words 0) q_this_names (ad_this_nodes 0) u12.1 ++ w_Nd k ad_this_nodes z_this_nodes ++ w_Wd k ad_this_words q_this_words_keywords u12.2) H := hP.sub [0, 1, 2, 3, 4, 5, 6, 7, 8, 9, 10, 11, 12, 13, 14, 15, 16, 17] rfl
              have hD : va_D A (w_Gr k ad_this (ad_this_words 0) q_this_names (ad_this_nodes 0) u12.1 ++ w_Nd k ad_this_nodes z_this_nodes ++ w_Wd k ad_this_words q_this_words_keywords u12.2) := hD.sub [0, 1, 2, 3, 4, 5, 6, 7, 8, 9, 10, 11, 12, 13, 14, 15, 16, 17] (by decide) rfl
              refine lv_aload_n hx hb d_Gr_readAmount_95 rfl (lv_at hl 3 rfl) ?_
              refine va_get (D := D) (ci := 6) (v := .ref (ad_this_nodes 0)) (C := R_Gr) (T := F_Gr) (N := 4) hx hb hts in_Gr hown hK hP 0 rfl rfl 2 (by decide) (hts (.fieldLink R_Gr 28 R_Gr "nodes" "LStepText$Nodes;") kw2_9) (fun _ h9 => h9) rfl d_Gr_readAmount_96 ?_
              refine lv_iconst (v := (0 : Int32)) hx hb d_Gr_readAmount_99 (by decide) ?_
              refine lv_aload_n hx hb d_Gr_readAmount_100 rfl (lv_at hl 3 rfl) ?_
              refine va_get (D := D) (ci := 6) (v := .ref (ad_this_nodes 0)) (C := R_Gr) (T := F_Gr) (N := 4) hx hb hts in_Gr hown hK hP 0 rfl rfl 2 (by decide) (hts (.fieldLink R_Gr 28 R_Gr "nodes" "LStepText$Nodes;") kw2_9) (fun _ h9 => h9) rfl d_Gr_readAmount_101 ?_
              refine xq_go (wr := w_Gr k ad_this (ad_this_words 0) q_this_names (ad_this_nodes 0) u12.1 ++ w_Wd k ad_this_words q_this_words_keywords u12.2) (stk := fun r => .int r :: [.int (0 : Int32), .ref (ad_this_nodes 0)]) (xq_runV (As := []) (rest := [.int (0 : Int32), .ref (ad_this_nodes 0)]) ⟨hx, hb, hml, hown, hts⟩ (c_Nd_count (l := l) (o := o) (D := D) (k := k) (ad_this := ad_this_nodes) hw) (cw_Nd_count hts kw2_239 ⟨Nat.le_of_ble_eq_true rfl, Nat.le_of_ble_eq_true rfl⟩) (va_recv hK hP (ci := 4) (q0 := 1) rfl rfl) (hP.sub [1, 2, 3, 4, 5, 6, 7, 8, 9, 10, 11] rfl) hK hJ hS (va_free hD hS hA [1, 2, 3, 4, 5, 6, 7, 8, 9, 10, 11] rfl) ((hD.sub [1, 2, 3, 4, 5, 6, 7, 8, 9, 10, 11] (by decide) rfl).weaken (fun _ _ _ _ => trivial)) rfl hl.1 (Nat.le_of_ble_eq_true rfl) d_Gr_readAmount_104 ⟨Nat.le_of_ble_eq_true rfl, Nat.le_of_ble_eq_true rfl⟩) hP hD hS hA [1, 2, 3, 4, 5, 6, 7, 8, 9, 10, 11] [0, 12, 13, 14, 15, 16, 17] rfl rfl (by decide) (by decide) (fun _ => rfl) (fun r13 u13 H locs hw hP hD hS => ?_) (fun _ _ _ _ h9 => h9.elim)
              have hP : va_P D vwCl (w_Gr k ad_this (ad_this_words 0) q_this_names (ad_this_nodes 0) u12.1 ++ w_Nd k ad_this_nodes z_this_nodes ++ w_Wd k ad_this_words q_this_words_keywords u12.2) H := hP.sub [0, 7, 8, 9, 10, 11, 12, 13, 14, 15, 16, 17, 1, 2, 3, 4, 5, 6] rfl
              have hD : va_D A (w_Gr k ad_this (ad_this_words 0) q_this_names (ad_this_nodes 0) u12.1 ++ w_Nd k ad_this_nodes z_this_nodes ++ w_Wd k ad_this_words q_this_words_keywords u12.2) := hD.sub [0, 7, 8, 9, 10, 11, 12, 13, 14, 15, 16, 17, 1, 2, 3, 4, 5, 6] (by decide) rfl
              refine lv_iload_n hx hb d_Gr_readAmount_107 rfl (lv_at hl 2 rfl) ?_
              refine lv_lload_n hx hb d_Gr_readAmount_108 rfl (lv_at hl 0 rfl) ?_
              refine lv_iload hx hb d_Gr_readAmount_109 (lv_at hl 1 rfl) ?_
              refine xq_go (wr := w_Gr k ad_this (ad_this_words 0) q_this_names (ad_this_nodes 0) u12.1 ++ w_Wd k ad_this_words q_this_words_keywords u12.2) (stk := fun r => .int r :: []) (xq_runV (As := [.int (0 : Int32), .int r13, .int z_this_words.2.2.2.2.2.2.2.2.2.2.2.2.1, .long (z_this_words.2.2.2.2.2.2.2.2.2.2.2.2.2 * (3600 : Int64)), .int (3 : Int32)]) (rest := []) ⟨hx, hb, hml, hown, hts⟩ (c_Nd_add (l := l) (o := o) (D := D) (k := k) (ad_this := ad_this_nodes) hw) (cw_Nd_add hts kw3_67 ⟨Nat.le_of_ble_eq_true rfl, Nat.le_of_ble_eq_true rfl⟩) (va_recv hK hP (ci := 4) (q0 := 1) rfl rfl) (hP.sub [1, 2, 3, 4, 5, 6, 7, 8, 9, 10, 11] rfl) hK hJ hS (va_free hD hS hA [1, 2, 3, 4, 5, 6, 7, 8, 9, 10, 11] rfl) ((hD.sub [1, 2, 3, 4, 5, 6, 7, 8, 9, 10, 11] (by decide) rfl).weaken (fun _ _ _ _ => trivial)) rfl hl.1 (Nat.le_of_ble_eq_true rfl) d_Gr_readAmount_111 ⟨Nat.le_of_ble_eq_true rfl, Nat.le_of_ble_eq_true rfl⟩) hP hD hS hA [1, 2, 3, 4, 5, 6, 7, 8, 9, 10, 11] [0, 12, 13, 14, 15, 16, 17] rfl rfl (by decide) (by decide) (fun _ => rfl) (fun r14 u14 H locs hw hP hD hS => ?_) (fun _ _ _ _ h9 => h9.elim)
              have hP : va_P D vwCl (w_Gr k ad_this (ad_this_words 0) q_this_names (ad_this_nodes 0) u12.1 ++ w_Nd k ad_this_nodes u14 ++ w_Wd k ad_this_words q_this_words_keywords u12.2) H := hP.sub [0, 7, 8, 9, 10, 11, 12, 13, 14, 15, 16, 17, 1, 2, 3, 4, 5, 6] rfl
              have hD : va_D A (w_Gr k ad_this (ad_this_words 0) q_this_names (ad_this_nodes 0) u12.1 ++ w_Nd k ad_this_nodes u14 ++ w_Wd k ad_this_words q_this_words_keywords u12.2) := hD.sub [0, 7, 8, 9, 10, 11, 12, 13, 14, 15, 16, 17, 1, 2, 3, 4, 5, 6] (by decide) rfl
              exact xq_iret (r := r14) (u := (u12.1, u14, u12.2)) hx hb hr hlocks hAe hP hD hS rfl hw (Nat.le_of_ble_eq_true rfl) (Nat.le_of_ble_eq_true rfl) d_Gr_readAmount_114
            · have hP : va_P D vwCl (w_Gr k ad_this (ad_this_words 0) q_this_names (ad_this_nodes 0) u.1 ++ w_Nd k ad_this_nodes z_this_nodes ++ w_Wd k ad_this_words q_this_words_keywords u.2) H := hP.sub [0, 1, 2, 3, 4, 5, 6, 7, 8, 9, 10, 11, 12, 13, 14, 15, 16, 17] rfl
              have hD : va_D A (w_Gr k ad_this (ad_this_words 0) q_this_names (ad_this_nodes 0) u.1 ++ w_Nd k ad_this_nodes z_this_nodes ++ w_Wd k ad_this_words q_this_words_keywords u.2) := hD.sub [0, 1, 2, 3, 4, 5, 6, 7, 8, 9, 10, 11, 12, 13, 14, 15, 16, 17] (by decide) rfl
              exact xq_out (u := (u.1, z_this_nodes, u.2)) hex hlocks hAe hP hD hS hw hE (Nat.le_of_ble_eq_true rfl) (Nat.le_of_ble_eq_true rfl)
        · have hw := hw.2 hc
          refine lv_aload_n hx hb d_Gr_readAmount_75 rfl (lv_at hl 3 rfl) ?_
          refine lv_aload_n hx hb d_Gr_readAmount_76 rfl (lv_at hl 3 rfl) ?_
          refine va_get (D := D) (ci := 6) (v := .ref (ad_this_words 0)) (C := R_Gr) (T := F_Gr) (N := 4) hx hb hts in_Gr hown hK hP 0 rfl rfl 0 (by decide) (hts (.fieldLink R_Gr 9 R_Gr "words" "LStepText$Words;") kw2_7) (fun _ h9 => h9) rfl d_Gr_readAmount_77 ?_
          refine va_get (D := D) (ci := 2) (v := .int u1.2.2.2.2.2.2.2.2.2.2.2.2.1) (C := R_Wd) (T := F_Wd) (N := 15) hx hb hts in_Wd hown hK hP 12 rfl rfl 12 (by decide) (hts (.fieldLink R_Gr 96 R_Wd "place" "I") kw1_111) (fun _ h9 => h9) rfl d_Gr_readAmount_80 ?_
          refine xq_go (wr := w_Nd k ad_this_nodes z_this_nodes ++ w_Wd k ad_this_words q_this_words_keywords u1.2) (stk := fun _ => []) (xq_runV (As := [.int u1.2.2.2.2.2.2.2.2.2.2.2.2.1]) (rest := []) ⟨hx, hb, hml, hown, hts⟩ (c_Gr_refuse (l := l) (o := o) (D := D) (k := k) (ad_this := ad_this) (q_this_words := (ad_this_words 0)) (q_this_names := q_this_names) (q_this_nodes := (ad_this_nodes 0)) hw) (cw_Gr_refuse hts kw2_165 ⟨Nat.le_of_ble_eq_true rfl, Nat.le_of_ble_eq_true rfl⟩) (va_recv hK hP (ci := 6) (q0 := 0) rfl rfl) (hP.sub [0] rfl) hK hJ hS (va_free hD hS hA [0] rfl) ((hD.sub [0] (by decide) rfl).weaken (fun _ _ _ _ => trivial)) rfl hl.1 (Nat.le_of_ble_eq_true rfl) d_Gr_readAmount_83 ⟨Nat.le_of_ble_eq_true rfl, Nat.le_of_ble_eq_true rfl⟩) hP hD hS hA [0] [1, 2, 3, 4, 5, 6, 7, 8, 9, 10, 11, 12, 13, 14, 15, 16, 17] rfl rfl (by decide) (by decide) (fun _ => rfl) (fun _ _ _ _ h9 => h9.elim) (fun x u H locs hw hP hD hS hE => ?_)
          have hP : va_P D vwCl (w_Gr k ad_this (ad_this_words 0) q_this_names (ad_this_nodes 0) u ++ w_Nd k ad_this_nodes z_this_nodes ++ w_Wd k ad_this_words q_this_words_keywords u1.2) H := hP.sub [17, 0, 1, 2, 3, 4, 5, 6, 7, 8, 9, 10, 11, 12, 13, 14, 15, 16] rfl
          have hD : va_D A (w_Gr k ad_this (ad_this_words 0) q_this_names (ad_this_nodes 0) u ++ w_Nd k ad_this_nodes z_this_nodes ++ w_Wd k ad_this_words q_this_words_keywords u1.2) := hD.sub [17, 0, 1, 2, 3, 4, 5, 6, 7, 8, 9, 10, 11, 12, 13, 14, 15, 16] (by decide) rfl
          exact xq_out (u := (u, z_this_nodes, u1.2)) hex hlocks hAe hP hD hS hw hE (Nat.le_of_ble_eq_true rfl) (Nat.le_of_ble_eq_true rfl)
      · have hw := hw.1 hc
        refine lv_ldc2 (v := (60 : Int64)) hx hb hown (hts (.constantLong R_Gr 205 (60)) kw3_64) d_Gr_readAmount_56 ?_
        refine lv_goto (tgt := 65) hx hb d_Gr_readAmount_59 (by decide) ?_
        refine lv_lmul hx hb d_Gr_readAmount_65 ?_
        refine lv_lstore_n (lv' := [(2, .long (z_this_words.2.2.2.2.2.2.2.2.2.2.2.2.2 * (60 : Int64))), (4, .int (3 : Int32)), (1, .int z_this_words.2.2.2.2.2.2.2.2.2.2.2.2.1), (0, .ref (ad_this 0))]) hx hb d_Gr_readAmount_66 rfl hl (by decide) rfl (fun ls hl => ?_)
        refine lv_lload_n hx hb d_Gr_readAmount_67 rfl (lv_at hl 0 rfl) ?_
        refine lv_ldc2 (v := (999999999999 : Int64)) hx hb hown (hts (.constantLong R_Gr 209 (999999999999)) kw3_66) d_Gr_readAmount_68 ?_
        refine W.lcmp hx hb d_Gr_readAmount_71 ?_
        refine lv_if_le (tgt := 86) hx hb d_Gr_readAmount_72 (by decide) (fun hc => ?_) (fun hc => ?_)
        · have hw := hw.1 hc
          refine lv_iload hx hb d_Gr_readAmount_86 (lv_at hl 1 rfl) ?_
          refine lv_if_le (tgt := 95) hx hb d_Gr_readAmount_88 (by decide) (fun hc => ?_) (fun hc => ?_)
          · have hw := hw.1 hc
            refine lv_aload_n hx hb d_Gr_readAmount_95 rfl (lv_at hl 3 rfl) ?_
            refine va_get (D := D) (ci := 6) (v := .ref (ad_this_nodes 0)) (C := R_Gr) (T := F_Gr) (N := 4) hx hb hts in_Gr hown hK hP 0 rfl rfl 2 (by decide) (hts (.fieldLink R_Gr 28 R_Gr "nodes" "LStepText$Nodes;") kw2_9) (fun _ h9 => h9) rfl d_Gr_readAmount_96 ?_
            refine lv_iconst (v := (0 : Int32)) hx hb d_Gr_readAmount_99 (by decide) ?_
            refine lv_aload_n hx hb d_Gr_readAmount_100 rfl (lv_at hl 3 rfl) ?_
            refine va_get (D := D) (ci := 6) (v := .ref (ad_this_nodes 0)) (C := R_Gr) (T := F_Gr) (N := 4) hx hb hts in_Gr hown hK hP 0 rfl rfl 2 (by decide) (hts (.fieldLink R_Gr 28 R_Gr "nodes" "LStepText$Nodes;") kw2_9) (fun _ h9 => h9) rfl d_Gr_readAmount_101 ?_
            refine xq_go (wr := w_Gr k ad_this (ad_this_words 0) q_this_names (ad_this_nodes 0) u1.1 ++ w_Wd k ad_this_words q_this_words_keywords u1.2) (stk := fun r => .int r :: [.int (0 : Int32), .ref (ad_this_nodes 0)]) (xq_runV (As := []) (rest := [.int (0 : Int32), .ref (ad_this_nodes 0)]) ⟨hx, hb, hml, hown, hts⟩ (c_Nd_count (l := l) (o := o) (D := D) (k := k) (ad_this := ad_this_nodes) hw) (cw_Nd_count hts kw2_239 ⟨Nat.le_of_ble_eq_true rfl, Nat.le_of_ble_eq_true rfl⟩) (va_recv hK hP (ci := 4) (q0 := 1) rfl rfl) (hP.sub [1, 2, 3, 4, 5, 6, 7, 8, 9, 10, 11] rfl) hK hJ hS (va_free hD hS hA [1, 2, 3, 4, 5, 6, 7, 8, 9, 10, 11] rfl) ((hD.sub [1, 2, 3, 4, 5, 6, 7, 8, 9, 10, 11] (by decide) rfl).weaken (fun _ _ _ _ => trivial)) rfl hl.1 (Nat.le_of_ble_eq_true rfl) d_Gr_readAmount_104 ⟨Nat.le_of_ble_eq_true rfl, Nat.le_of_ble_eq_true rfl⟩) hP hD hS hA [1, 2, 3, 4, 5, 6, 7, 8, 9, 10, 11] [0, 12, 13, 14, 15, 16, 17] rfl rfl (by decide) (by decide) (fun _ => rfl) (fun r16 u16 H locs hw hP hD hS => ?_) (fun _ _ _ _ h9 => h9.elim)
            have hP : va_P D vwCl (w_Gr k ad_this (ad_this_words 0) q_this_names (ad_this_nodes 0) u1.1 ++ w_Nd k ad_this_nodes z_this_nodes ++ w_Wd k ad_this_words q_this_words_keywords u1.2) H := hP.sub [0, 7, 8, 9, 10, 11, 12, 13, 14, 15, 16, 17, 1, 2, 3, 4, 5, 6] rfl
            have hD : va_D A (w_Gr k ad_this (ad_this_words 0) q_this_names (ad_this_nodes 0) u1.1 ++ w_Nd k ad_this_nodes z_this_nodes ++ w_Wd k ad_this_words q_this_words_keywords u1.2) := hD.sub [0, 7, 8, 9, 10, 11, 12, 13, 14, 15, 16, 17, 1, 2, 3, 4, 5, 6] (by decide) rfl
            refine lv_iload_n hx hb d_Gr_readAmount_107 rfl (lv_at hl 2 rfl) ?_
            refine lv_lload_n hx hb d_Gr_readAmount_108 rfl (lv_at hl 0 rfl) ?_
            refine lv_iload hx hb d_Gr_readAmount_109 (lv_at hl 1 rfl) ?_
            refine xq_go (wr := w_Gr k ad_this (ad_this_words 0) q_this_names (ad_this_nodes 0) u1.1 ++ w_Wd k ad_this_words q_this_words_keywords u1.2) (stk := fun r => .int r :: []) (xq_runV (As := [.int (0 : Int32), .int r16, .int z_this_words.2.2.2.2.2.2.2.2.2.2.2.2.1, .long (z_this_words.2.2.2.2.2.2.2.2.2.2.2.2.2 * (60 : Int64)), .int (3 : Int32)]) (rest := []) ⟨hx, hb, hml, hown, hts⟩ (c_Nd_add (l := l) (o := o) (D := D) (k := k) (ad_this := ad_this_nodes) hw) (cw_Nd_add hts kw3_67 ⟨Nat.le_of_ble_eq_true rfl, Nat.le_of_ble_eq_true rfl⟩) (va_recv hK hP (ci := 4) (q0 := 1) rfl rfl) (hP.sub [1, 2, 3, 4, 5, 6, 7, 8, 9, 10, 11] rfl) hK hJ hS (va_free hD hS hA [1, 2, 3, 4, 5, 6, 7, 8, 9, 10, 11] rfl) ((hD.sub [1, 2, 3, 4, 5, 6, 7, 8, 9, 10, 11] (by decide) rfl).weaken (fun _ _ _ _ => trivial)) rfl hl.1 (Nat.le_of_ble_eq_true rfl) d_Gr_readAmount_111 ⟨Nat.le_of_ble_eq_true rfl, Nat.le_of_ble_eq_true rfl⟩) hP hD hS hA [1, 2, 3, 4, 5, 6, 7, 8, 9, 10, 11] [0, 12, 13, 14, 15, 16, 17] rfl rfl (by decide) (by decide) (fun _ => rfl) (fun r17 u17 H locs hw hP hD hS => ?_) (fun _ _ _ _ h9 => h9.elim)
            have hP : va_P D vwCl (w_Gr k ad_this (ad_this_words 0) q_this_names (ad_this_nodes 0) u1.1 ++ w_Nd k ad_this_nodes u17 ++ w_Wd k ad_this_words q_this_words_keywords u1.2) H := hP.sub [0, 7, 8, 9, 10, 11, 12, 13, 14, 15, 16, 17, 1, 2, 3, 4, 5, 6] rfl
            have hD : va_D A (w_Gr k ad_this (ad_this_words 0) q_this_names (ad_this_nodes 0) u1.1 ++ w_Nd k ad_this_nodes u17 ++ w_Wd k ad_this_words q_this_words_keywords u1.2) := hD.sub [0, 7, 8, 9, 10, 11, 12, 13, 14, 15, 16, 17, 1, 2, 3, 4, 5, 6] (by decide) rfl
            exact xq_iret (r := r17) (u := (u1.1, u17, u1.2)) hx hb hr hlocks hAe hP hD hS rfl hw (Nat.le_of_ble_eq_true rfl) (Nat.le_of_ble_eq_true rfl) d_Gr_readAmount_114
          · have hw := hw.2 hc
            refine lv_aload_n hx hb d_Gr_readAmount_91 rfl (lv_at hl 3 rfl) ?_
            refine xq_go (wr := ([] : va_W)) (stk := fun _ => []) (xq_runV (As := []) (rest := []) ⟨hx, hb, hml, hown, hts⟩ (c_Gr_pass (l := l) (o := o) (D := D) (k := k) (ad_this := ad_this) (ad_this_nodes := ad_this_nodes) (ad_this_words := ad_this_words) (q_this_names := q_this_names) (q_this_words_keywords := q_this_words_keywords) hw) (cw_Gr_pass hts kw2_157 ⟨Nat.le_of_ble_eq_true rfl, Nat.le_of_ble_eq_true rfl⟩) (va_recv hK hP (ci := 6) (q0 := 0) rfl rfl) (hP.sub [0, 1, 2, 3, 4, 5, 6, 7, 8, 9, 10, 11, 12, 13, 14, 15, 16, 17] rfl) hK hJ hS (va_free hD hS hA [0, 1, 2, 3, 4, 5, 6, 7, 8, 9, 10, 11, 12, 13, 14, 15, 16, 17] rfl) ((hD.sub [0, 1, 2, 3, 4, 5, 6, 7, 8, 9, 10, 11, 12, 13, 14, 15, 16, 17] (by decide) rfl).weaken (fun _ _ _ _ => trivial)) rfl hl.1 (Nat.le_of_ble_eq_true rfl) d_Gr_readAmount_92 ⟨Nat.le_of_ble_eq_true rfl, Nat.le_of_ble_eq_true rfl⟩) hP hD hS hA [0, 1, 2, 3, 4, 5, 6, 7, 8, 9, 10, 11, 12, 13, 14, 15, 16, 17] [] rfl rfl (by decide) (by decide) (fun _ => rfl) (fun r18 u18 H locs hw hP hD hS => ?_) (fun x u H locs hw hP hD hS hE => ?_)
            · have hP : va_P D vwCl (w_Gr k ad_this (ad_this_words 0) q_this_names (ad_this_nodes 0) u18.1 ++ w_Nd k ad_this_nodes z_this_nodes ++ w_Wd k ad_this_words q_this_words_keywords u18.2) H := hP.sub [0, 1, 2, 3, 4, 5, 6, 7, 8, 9, 10, 11, 12, 13, 14, 15, 16, 17] rfl
              have hD : va_D A (w_Gr k ad_this (ad_this_words 0) q_this_names (ad_this_nodes 0) u18.1 ++ w_Nd k ad_this_nodes z_this_nodes ++ w_Wd k ad_this_words q_this_words_keywords u18.2) := hD.sub [0, 1, 2, 3, 4, 5, 6, 7, 8, 9, 10, 11, 12, 13, 14, 15, 16, 17] (by decide) rfl
              refine lv_aload_n hx hb d_Gr_readAmount_95 rfl (lv_at hl 3 rfl) ?_
              refine va_get (D := D) (ci := 6) (v := .ref (ad_this_nodes 0)) (C := R_Gr) (T := F_Gr) (N := 4) hx hb hts in_Gr hown hK hP 0 rfl rfl 2 (by decide) (hts (.fieldLink R_Gr 28 R_Gr "nodes" "LStepText$Nodes;") kw2_9) (fun _ h9 => h9) rfl d_Gr_readAmount_96 ?_
              refine lv_iconst (v := (0 : Int32)) hx hb d_Gr_readAmount_99 (by decide) ?_
              refine lv_aload_n hx hb d_Gr_readAmount_100 rfl (lv_at hl 3 rfl) ?_
              refine va_get (D := D) (ci := 6) (v := .ref (ad_this_nodes 0)) (C := R_Gr) (T := F_Gr) (N := 4) hx hb hts in_Gr hown hK hP 0 rfl rfl 2 (by decide) (hts (.fieldLink R_Gr 28 R_Gr "nodes" "LStepText$Nodes;") kw2_9) (fun _ h9 => h9) rfl d_Gr_readAmount_101 ?_
              refine xq_go (wr := w_Gr k ad_this (ad_this_words 0) q_this_names (ad_this_nodes 0) u18.1 ++ w_Wd k ad_this_words q_this_words_keywords u18.2) (stk := fun r => .int r :: [.int (0 : Int32), .ref (ad_this_nodes 0)]) (xq_runV (As := []) (rest := [.int (0 : Int32), .ref (ad_this_nodes 0)]) ⟨hx, hb, hml, hown, hts⟩ (c_Nd_count (l := l) (o := o) (D := D) (k := k) (ad_this := ad_this_nodes) hw) (cw_Nd_count hts kw2_239 ⟨Nat.le_of_ble_eq_true rfl, Nat.le_of_ble_eq_true rfl⟩) (va_recv hK hP (ci := 4) (q0 := 1) rfl rfl) (hP.sub [1, 2, 3, 4, 5, 6, 7, 8, 9, 10, 11] rfl) hK hJ hS (va_free hD hS hA [1, 2, 3, 4, 5, 6, 7, 8, 9, 10, 11] rfl) ((hD.sub [1, 2, 3, 4, 5, 6, 7, 8, 9, 10, 11] (by decide) rfl).weaken (fun _ _ _ _ => trivial)) rfl hl.1 (Nat.le_of_ble_eq_true rfl) d_Gr_readAmount_104 ⟨Nat.le_of_ble_eq_true rfl, Nat.le_of_ble_eq_true rfl⟩) hP hD hS hA [1, 2, 3, 4, 5, 6, 7, 8, 9, 10, 11] [0, 12, 13, 14, 15, 16, 17] rfl rfl (by decide) (by decide) (fun _ => rfl) (fun r19 u19 H locs hw hP hD hS => ?_) (fun _ _ _ _ h9 => h9.elim)
              have hP : va_P D vwCl (w_Gr k ad_this (ad_this_words 0) q_this_names (ad_this_nodes 0) u18.1 ++ w_Nd k ad_this_nodes z_this_nodes ++ w_Wd k ad_this_words q_this_words_keywords u18.2) H := hP.sub [0, 7, 8, 9, 10, 11, 12, 13, 14, 15, 16, 17, 1, 2, 3, 4, 5, 6] rfl
              have hD : va_D A (w_Gr k ad_this (ad_this_words 0) q_this_names (ad_this_nodes 0) u18.1 ++ w_Nd k ad_this_nodes z_this_nodes ++ w_Wd k ad_this_words q_this_words_keywords u18.2) := hD.sub [0, 7, 8, 9, 10, 11, 12, 13, 14, 15, 16, 17, 1, 2, 3, 4, 5, 6] (by decide) rfl
              refine lv_iload_n hx hb d_Gr_readAmount_107 rfl (lv_at hl 2 rfl) ?_
              refine lv_lload_n hx hb d_Gr_readAmount_108 rfl (lv_at hl 0 rfl) ?_
              refine lv_iload hx hb d_Gr_readAmount_109 (lv_at hl 1 rfl) ?_
              refine xq_go (wr := w_Gr k ad_this (ad_this_words 0) q_this_names (ad_this_nodes 0) u18.1 ++ w_Wd k ad_this_words q_this_words_keywords u18.2) (stk := fun r => .int r :: []) (xq_runV (As := [.int (0 : Int32), .int r19, .int z_this_words.2.2.2.2.2.2.2.2.2.2.2.2.1, .long (z_this_words.2.2.2.2.2.2.2.2.2.2.2.2.2 * (60 : Int64)), .int (3 : Int32)]) (rest := []) ⟨hx, hb, hml, hown, hts⟩ (c_Nd_add (l := l) (o := o) (D := D) (k := k) (ad_this := ad_this_nodes) hw) (cw_Nd_add hts kw3_67 ⟨Nat.le_of_ble_eq_true rfl, Nat.le_of_ble_eq_true rfl⟩) (va_recv hK hP (ci := 4) (q0 := 1) rfl rfl) (hP.sub [1, 2, 3, 4, 5, 6, 7, 8, 9, 10, 11] rfl) hK hJ hS (va_free hD hS hA [1, 2, 3, 4, 5, 6, 7, 8, 9, 10, 11] rfl) ((hD.sub [1, 2, 3, 4, 5, 6, 7, 8, 9, 10, 11] (by decide) rfl).weaken (fun _ _ _ _ => trivial)) rfl hl.1 (Nat.le_of_ble_eq_true rfl) d_Gr_readAmount_111 ⟨Nat.le_of_ble_eq_true rfl, Nat.le_of_ble_eq_true rfl⟩) hP hD hS hA [1, 2, 3, 4, 5, 6, 7, 8, 9, 10, 11] [0, 12, 13, 14, 15, 16, 17] rfl rfl (by decide) (by decide) (fun _ => rfl) (fun r20 u20 H locs hw hP hD hS => ?_) (fun _ _ _ _ h9 => h9.elim)
              have hP : va_P D vwCl (w_Gr k ad_this (ad_this_words 0) q_this_names (ad_this_nodes 0) u18.1 ++ w_Nd k ad_this_nodes u20 ++ w_Wd k ad_this_words q_this_words_keywords u18.2) H := hP.sub [0, 7, 8, 9, 10, 11, 12, 13, 14, 15, 16, 17, 1, 2, 3, 4, 5, 6] rfl
              have hD : va_D A (w_Gr k ad_this (ad_this_words 0) q_this_names (ad_this_nodes 0) u18.1 ++ w_Nd k ad_this_nodes u20 ++ w_Wd k ad_this_words q_this_words_keywords u18.2) := hD.sub [0, 7, 8, 9, 10, 11, 12, 13, 14, 15, 16, 17, 1, 2, 3, 4, 5, 6] (by decide) rfl
              exact xq_iret (r := r20) (u := (u18.1, u20, u18.2)) hx hb hr hlocks hAe hP hD hS rfl hw (Nat.le_of_ble_eq_true rfl) (Nat.le_of_ble_eq_true rfl) d_Gr_readAmount_114
            · have hP : va_P D vwCl (w_Gr k ad_this (ad_this_words 0) q_this_names (ad_this_nodes 0) u.1 ++ w_Nd k ad_this_nodes z_this_nodes ++ w_Wd k ad_this_words q_this_words_keywords u.2) H := hP.sub [0, 1, 2, 3, 4, 5, 6, 7, 8, 9, 10, 11, 12, 13, 14, 15, 16, 17] rfl
              have hD : va_D A (w_Gr k ad_this (ad_this_words 0) q_this_names (ad_this_nodes 0) u.1 ++ w_Nd k ad_this_nodes z_this_nodes ++ w_Wd k ad_this_words q_this_words_keywords u.2) := hD.sub [0, 1, 2, 3, 4, 5, 6, 7, 8, 9, 10, 11, 12, 13, 14, 15, 16, 17] (by decide) rfl
              exact xq_out (u := (u.1, z_this_nodes, u.2)) hex hlocks hAe hP hD hS hw hE (Nat.le_of_ble_eq_true rfl) (Nat.le_of_ble_eq_true rfl)
        · have hw := hw.2 hc
          refine lv_aload_n hx hb d_Gr_readAmount_75 rfl (lv_at hl 3 rfl) ?_
          refine lv_aload_n hx hb d_Gr_readAmount_76 rfl (lv_at hl 3 rfl) ?_
          refine va_get (D := D) (ci := 6) (v := .ref (ad_this_words 0)) (C := R_Gr) (T := F_Gr) (N := 4) hx hb hts in_Gr hown hK hP 0 rfl rfl 0 (by decide) (hts (.fieldLink R_Gr 9 R_Gr "words" "LStepText$Words;") kw2_7) (fun _ h9 => h9) rfl d_Gr_readAmount_77 ?_
          refine va_get (D := D) (ci := 2) (v := .int u1.2.2.2.2.2.2.2.2.2.2.2.2.1) (C := R_Wd) (T := F_Wd) (N := 15) hx hb hts in_Wd hown hK hP 12 rfl rfl 12 (by decide) (hts (.fieldLink R_Gr 96 R_Wd "place" "I") kw1_111) (fun _ h9 => h9) rfl d_Gr_readAmount_80 ?_
          refine xq_go (wr := w_Nd k ad_this_nodes z_this_nodes ++ w_Wd k ad_this_words q_this_words_keywords u1.2) (stk := fun _ => []) (xq_runV (As := [.int u1.2.2.2.2.2.2.2.2.2.2.2.2.1]) (rest := []) ⟨hx, hb, hml, hown, hts⟩ (c_Gr_refuse (l := l) (o := o) (D := D) (k := k) (ad_this := ad_this) (q_this_words := (ad_this_words 0)) (q_this_names := q_this_names) (q_this_nodes := (ad_this_nodes 0)) hw) (cw_Gr_refuse hts kw2_165 ⟨Nat.le_of_ble_eq_true rfl, Nat.le_of_ble_eq_true rfl⟩) (va_recv hK hP (ci := 6) (q0 := 0) rfl rfl) (hP.sub [0] rfl) hK hJ hS (va_free hD hS hA [0] rfl) ((hD.sub [0] (by decide) rfl).weaken (fun _ _ _ _ => trivial)) rfl hl.1 (Nat.le_of_ble_eq_true rfl) d_Gr_readAmount_83 ⟨Nat.le_of_ble_eq_true rfl, Nat.le_of_ble_eq_true rfl⟩) hP hD hS hA [0] [1, 2, 3, 4, 5, 6, 7, 8, 9, 10, 11, 12, 13, 14, 15, 16, 17] rfl rfl (by decide) (by decide) (fun _ => rfl) (fun _ _ _ _ h9 => h9.elim) (fun x u H locs hw hP hD hS hE => ?_)
          have hP : va_P D vwCl (w_Gr k ad_this (ad_this_words 0) q_this_names (ad_this_nodes 0) u ++ w_Nd k ad_this_nodes z_this_nodes ++ w_Wd k ad_this_words q_this_words_keywords u1.2) H := hP.sub [17, 0, 1, 2, 3, 4, 5, 6, 7, 8, 9, 10, 11, 12, 13, 14, 15, 16] rfl
          have hD : va_D A (w_Gr k ad_this (ad_this_words 0) q_this_names (ad_this_nodes 0) u ++ w_Nd k ad_this_nodes z_this_nodes ++ w_Wd k ad_this_words q_this_words_keywords u1.2) := hD.sub [17, 0, 1, 2, 3, 4, 5, 6, 7, 8, 9, 10, 11, 12, 13, 14, 15, 16] (by decide) rfl
          exact xq_out (u := (u, z_this_nodes, u1.2)) hex hlocks hAe hP hD hS hw hE (Nat.le_of_ble_eq_true rfl) (Nat.le_of_ble_eq_true rfl)
  · have hP : va_P D vwCl (w_Gr k ad_this (ad_this_words 0) q_this_names (ad_this_nodes 0) u.1 ++ w_Nd k ad_this_nodes z_this_nodes ++ w_Wd k ad_this_words q_this_words_keywords u.2) H := hP.sub [0, 1, 2, 3, 4, 5, 6, 7, 8, 9, 10, 11, 12, 13, 14, 15, 16, 17] rfl
    have hD : va_D A (w_Gr k ad_this (ad_this_words 0) q_this_names (ad_this_nodes 0) u.1 ++ w_Nd k ad_this_nodes z_this_nodes ++ w_Wd k ad_this_words q_this_words_keywords u.2) := hD.sub [0, 1, 2, 3, 4, 5, 6, 7, 8, 9, 10, 11, 12, 13, 14, 15, 16, 17] (by decide) rfl
    exact xq_out (u := (u.1, z_this_nodes, u.2)) hex hlocks hAe hP hD hS hw hE (Nat.le_of_ble_eq_true rfl) (Nat.le_of_ble_eq_true rfl)
theorem cw_Gr_readAmount {R : Room} {s : State} {args : Array Value} {own : String} {index : Nat} (hts : ∀ w ∈ xq_W, w.before args s = true) (hl : .methodLink own index y_Gr_readAmount ∈ xq_W) {rm : Room} (hR : rm.frames + 1 ≤ R.frames ∧ 8 + (5 + 11) + rm.locals ≤ R.locals) : CallW R s args own "StepText$Grammar" index y_Gr_readAmount prog_2_method_25_code 5 (some (.int)) (.code y_Gr_readAmount prog_2_method_25_code 5 (some (.int)) :: xq_W) rm rm.cells rm.slots 0 := ⟨xq_cb 0 hts kw3_59 kw1_11 hl ⟨by decide, by decide, by decide +kernel⟩ hR, hts _ kw3_58, hts _ kp2_5⟩
def y_Gr_readMeasured : MethodName := ⟨"StepText$Grammar", "readMeasured", "()I"⟩
theorem d_Gr_readMeasured_0 : decode prog_2_method_26_code 0 = .ok (.aload_n 0, 1) := by decide +kernel
theorem d_Gr_readMeasured_1 : decode prog_2_method_26_code 1 = .ok (.getfield 9, 3) := by decide +kernel
theorem d_Gr_readMeasured_4 : decode prog_2_method_26_code 4 = .ok (.getfield 49, 3) := by decide +kernel
theorem d_Gr_readMeasured_7 : decode prog_2_method_26_code 7 = .ok (.istore_n 1, 1) := by decide +kernel
theorem d_Gr_readMeasured_8 : decode prog_2_method_26_code 8 = .ok (.aload_n 0, 1) := by decide +kernel
theorem d_Gr_readMeasured_9 : decode prog_2_method_26_code 9 = .ok (.getfield 9, 3) := by decide +kernel
theorem d_Gr_readMeasured_12 : decode prog_2_method_26_code 12 = .ok (.getfield 44, 3) := by decide +kernel
theorem d_Gr_readMeasured_15 : decode prog_2_method_26_code 15 = .ok (.sipush 128, 3) := by decide +kernel
theorem d_Gr_readMeasured_18 : decode prog_2_method_26_code 18 = .ok (.if_icmp .ne 20, 3) := by decide +kernel
theorem d_Gr_readMeasured_21 : decode prog_2_method_26_code 21 = .ok (.aload_n 0, 1) := by decide +kernel
theorem d_Gr_readMeasured_22 : decode prog_2_method_26_code 22 = .ok (.getfield 21, 3) := by decide +kernel
theorem d_Gr_readMeasured_25 : decode prog_2_method_26_code 25 = .ok (.aload_n 0, 1) := by decide +kernel
theorem d_Gr_readMeasured_26 : decode prog_2_method_26_code 26 = .ok (.getfield 9, 3) := by decide +kernel
theorem d_Gr_readMeasured_29 : decode prog_2_method_26_code 29 = .ok (.getfield 108, 3) := by decide +kernel
theorem d_Gr_readMeasured_32 : decode prog_2_method_26_code 32 = .ok (.invokevirtual 149, 3) := by decide +kernel
theorem d_Gr_readMeasured_35 : decode prog_2_method_26_code 35 = .ok (.goto 4, 3) := by decide +kernel
theorem d_Gr_readMeasured_38 : decode prog_2_method_26_code 38 = .ok (.iconst (-1), 1) := by decide +kernel
theorem d_Gr_readMeasured_39 : decode prog_2_method_26_code 39 = .ok (.istore_n 2, 1) := by decide +kernel
theorem d_Gr_readMeasured_40 : decode prog_2_method_26_code 40 = .ok (.iload_n 2, 1) := by decide +kernel
theorem d_Gr_readMeasured_41 : decode prog_2_method_26_code 41 = .ok (.iconst (-1), 1) := by decide +kernel
theorem d_Gr_readMeasured_42 : decode prog_2_method_26_code 42 = .ok (.if_icmp .eq 17, 3) := by decide +kernel
theorem d_Gr_readMeasured_45 : decode prog_2_method_26_code 45 = .ok (.aload_n 0, 1) := by decide +kernel
theorem d_Gr_readMeasured_46 : decode prog_2_method_26_code 46 = .ok (.getfield 21, 3) := by decide +kernel
theorem d_Gr_readMeasured_49 : decode prog_2_method_26_code 49 = .ok (.iload_n 2, 1) := by decide +kernel
theorem d_Gr_readMeasured_50 : decode prog_2_method_26_code 50 = .ok (.invokevirtual 153, 3) := by decide +kernel
theorem d_Gr_readMeasured_53 : decode prog_2_method_26_code 53 = .ok (.sipush 215, 3) := by decide +kernel
theorem d_Gr_readMeasured_56 : decode prog_2_method_26_code 56 = .ok (.if_icmp .ne 14, 3) := by decide +kernel
theorem d_Gr_readMeasured_59 : decode prog_2_method_26_code 59 = .ok (.aload_n 0, 1) := by decide +kernel
theorem d_Gr_readMeasured_60 : decode prog_2_method_26_code 60 = .ok (.aload_n 0, 1) := by decide +kernel
theorem d_Gr_readMeasured_61 : decode prog_2_method_26_code 61 = .ok (.getfield 9, 3) := by decide +kernel
theorem d_Gr_readMeasured_64 : decode prog_2_method_26_code 64 = .ok (.getfield 96, 3) := by decide +kernel
theorem d_Gr_readMeasured_67 : decode prog_2_method_26_code 67 = .ok (.invokevirtual 99, 3) := by decide +kernel
theorem d_Gr_readMeasured_70 : decode prog_2_method_26_code 70 = .ok (.aload_n 0, 1) := by decide +kernel
theorem d_Gr_readMeasured_71 : decode prog_2_method_26_code 71 = .ok (.getfield 21, 3) := by decide +kernel
theorem d_Gr_readMeasured_74 : decode prog_2_method_26_code 74 = .ok (.iload_n 2, 1) := by decide +kernel
theorem d_Gr_readMeasured_75 : decode prog_2_method_26_code 75 = .ok (.invokevirtual 153, 3) := by decide +kernel
theorem d_Gr_readMeasured_78 : decode prog_2_method_26_code 78 = .ok (.sipush 213, 3) := by decide +kernel
theorem d_Gr_readMeasured_81 : decode prog_2_method_26_code 81 = .ok (.if_icmp .ne 11, 3) := by decide +kernel
theorem d_Gr_readMeasured_84 : decode prog_2_method_26_code 84 = .ok (.aload_n 0, 1) := by decide +kernel
theorem d_Gr_readMeasured_85 : decode prog_2_method_26_code 85 = .ok (.getfield 21, 3) := by decide +kernel
theorem d_Gr_readMeasured_88 : decode prog_2_method_26_code 88 = .ok (.iload_n 2, 1) := by decide +kernel
theorem d_Gr_readMeasured_89 : decode prog_2_method_26_code 89 = .ok (.invokevirtual 126, 3) := by decide +kernel
theorem d_Gr_readMeasured_92 : decode prog_2_method_26_code 92 = .ok (.aload_n 0, 1) := by decide +kernel
theorem d_Gr_readMeasured_93 : decode prog_2_method_26_code 93 = .ok (.invokevirtual 105, 3) := by decide +kernel
theorem d_Gr_readMeasured_96 : decode prog_2_method_26_code 96 = .ok (.aload_n 0, 1) := by decide +kernel
theorem d_Gr_readMeasured_97 : decode prog_2_method_26_code 97 = .ok (.getfield 28, 3) := by decide +kernel
theorem d_Gr_readMeasured_100 : decode prog_2_method_26_code 100 = .ok (.iconst 1, 1) := by decide +kernel
theorem d_Gr_readMeasured_101 : decode prog_2_method_26_code 101 = .ok (.aload_n 0, 1) := by decide +kernel
theorem d_Gr_readMeasured_102 : decode prog_2_method_26_code 102 = .ok (.getfield 28, 3) := by decide +kernel
theorem d_Gr_readMeasured_105 : decode prog_2_method_26_code 105 = .ok (.invokevirtual 56, 3) := by decide +kernel
theorem d_Gr_readMeasured_108 : decode prog_2_method_26_code 108 = .ok (.iload_n 1, 1) := by decide +kernel
theorem d_Gr_readMeasured_109 : decode prog_2_method_26_code 109 = .ok (.iload_n 2, 1) := by decide +kernel
theorem d_Gr_readMeasured_110 : decode prog_2_method_26_code 110 = .ok (.i2l, 1) := by decide +kernel
theorem d_Gr_readMeasured_111 : decode prog_2_method_26_code 111 = .ok (.aload_n 0, 1) := by decide +kernel
theorem d_Gr_readMeasured_112 : decode prog_2_method_26_code 112 = .ok (.getfield 21, 3) := by decide +kernel
theorem d_Gr_readMeasured_115 : decode prog_2_method_26_code 115 = .ok (.iload_n 2, 1) := by decide +kernel
theorem d_Gr_readMeasured_116 : decode prog_2_method_26_code 116 = .ok (.invokevirtual 129, 3) := by decide +kernel
theorem d_Gr_readMeasured_119 : decode prog_2_method_26_code 119 = .ok (.invokevirtual 69, 3) := by decide +kernel
theorem d_Gr_readMeasured_122 : decode prog_2_method_26_code 122 = .ok (.ireturn, 1) := by decide +kernel
def wp_Gr_readMeasured (z_this : T_Gr) (z_this_names : T_Nm) (z_this_nodes : T_Nd) (z_this_words : T_Wd) (post : Int32 → T_Gr × T_Nm × T_Nd × T_Wd → Prop) (postT : T_Gr × T_Nm × T_Nd × T_Wd → Prop) : Prop := (z_this_words.2.2.2.2.2.2.2.2.2.2.1 = (128 : Int32) → (wp_Nm_find z_this_names z_this_words.2.2.2.2.2.2.2.2.2.2.2.2.2 (fun (r14 : Int32) (u14 : Unit) => (r14 = (-1 : Int32) → (wp_Gr_refuse z_this z_this_words.2.2.2.2.2.2.2.2.2.2.2.1 (fun (u : T_Gr) => postT (u, z_this_names, z_this_nodes, z_this_words)))) ∧ (¬ r14 = (-1 : Int32) → (wp_Nm_sortOf z_this_names r14 (fun (r16 : Int32) (u16 : Unit) => (r16 = (215 : Int32) → (wp_Gr_refuse z_this z_this_words.2.2.2.2.2.2.2.2.2.2.2.1 (fun (u : T_Gr) => postT (u, z_this_names, z_this_nodes, z_this_words)))) ∧ (¬ r16 = (215 : Int32) → (wp_Nm_sortOf z_this_names r14 (fun (r17 : Int32) (u17 : Unit) => (r17 = (213 : Int32) → (wp_Nm_use z_this_names r14 (fun (r22 : Unit) (u22 : T_Nm) => wp_Gr_pass z_this z_this_nodes z_this_words (fun (r23 : Unit) (u23 : T_Gr × T_Wd) => wp_Nd_count z_this_nodes (fun (r24 : Int32) (u24 : Unit) => wp_Nm_measureOf u22 r14 (fun (r25 : Int32) (u25 : Unit) => wp_Nd_add z_this_nodes (1 : Int32) r24 z_this_words.2.2.2.2.2.2.2.2.2.2.2.2.1 ((r14).toInt64) r25 (fun (r26 : Int32) (u26 : T_Nd) => post r26 (u23.1, u22, u26, u23.2))))) (fun (u : T_Gr × T_Wd) => postT (u.1, u22, z_this_nodes, u.2))))) ∧ (¬ r17 = (213 : Int32) → (wp_Gr_pass z_this z_this_nodes z_this_words (fun (r18 : Unit) (u18 : T_Gr × T_Wd) => wp_Nd_count z_this_nodes (fun (r19 : Int32) (u19 : Unit) => wp_Nm_measureOf z_this_names r14 (fun (r20 : Int32) (u20 : Unit) => wp_Nd_add z_this_nodes (1 : Int32) r19 z_this_words.2.2.2.2.2.2.2.2.2.2.2.2.1 ((r14).toInt64) r20 (fun (r21 : Int32) (u21 : T_Nd) => post r21 (u18.1, z_this_names, u21, u18.2))))) (fun (u : T_Gr × T_Wd) => postT (u.1, z_this_names, z_this_nodes, u.2))))))))))))) ∧ (¬ z_this_words.2.2.2.2.2.2.2.2.2.2.1 = (128 : Int32) → (((-1 : Int32) = (-1 : Int32) → (wp_Gr_refuse z_this z_this_words.2.2.2.2.2.2.2.2.2.2.2.1 (fun (u : T_Gr) => postT (u, z_this_names, z_this_nodes, z_this_words)))) ∧ (¬ (-1 : Int32) = (-1 : Int32) → (wp_Nm_sortOf z_this_names (-1 : Int32) (fun (r2 : Int32) (u2 : Unit) => (r2 = (215 : Int32) → (wp_Gr_refuse z_this z_this_words.2.2.2.2.2.2.2.2.2.2.2.1 (fun (u : T_Gr) => postT (u, z_this_names, z_this_nodes, z_this_words)))) ∧ (¬ r2 = (215 : Int32) → (wp_Nm_sortOf z_this_names (-1 : Int32) (fun (r3 : Int32) (u3 : Unit) => (r3 = (213 : Int32) → (wp_Nm_use z_this_names (-1 : Int32) (fun (r8 : Unit) (u8 : T_Nm) => wp_Gr_pass z_this z_this_nodes z_this_words (fun (r9 : Unit) (u9 : T_Gr × T_Wd) => wp_Nd_count z_this_nodes (fun (r10 : Int32) (u10 : Unit) => wp_Nm_measureOf u8 (-1 : Int32) (fun (r11 : Int32) (u11 : Unit) => wp_Nd_add z_this_nodes (1 : Int32) r10 z_this_words.2.2.2.2.2.2.2.2.2.2.2.2.1 (((-1 : Int32)).toInt64) r11 (fun (r12 : Int32) (u12 : T_Nd) => post r12 (u9.1, u8, u12, u9.2))))) (fun (u : T_Gr × T_Wd) => postT (u.1, u8, z_this_nodes, u.2))))) ∧ (¬ r3 = (213 : Int32) → (wp_Gr_pass z_this z_this_nodes z_this_words (fun (r4 : Unit) (u4 : T_Gr × T_Wd) => wp_Nd_count z_this_nodes (fun (r5 : Int32) (u5 : Unit) => wp_Nm_measureOf z_this_names (-1 : Int32) (fun (r6 : Int32) (u6 : Unit) => wp_Nd_add z_this_nodes (1 : Int32) r5 z_this_words.2.2.2.2.2.2.2.2.2.2.2.2.1 (((-1 : Int32)).toInt64) r6 (fun (r7 : Int32) (u7 : T_Nd) => post r7 (u4.1, z_this_names, u7, u4.2))))) (fun (u : T_Gr × T_Wd) => postT (u.1, z_this_names, z_this_nodes, u.2))))))))))))
def rm_Gr_readMeasured : Room := { frames := 8, cells := 1, slots := 6, locals := 141 }
set_option maxHeartbeats 4000000 in
set_option maxRecDepth 100000 in
theorem c_Gr_readMeasured {l : Launch} {o : State × Array Value} {D : va_G} {k : Nat → ClassId} {ad_this : Nat → Nat} {ad_this_names : Nat → Nat} {ad_this_nodes : Nat → Nat} {ad_this_words : Nat → Nat} {q_this_words_keywords : Nat} {z_this : T_Gr} {z_this_names : T_Nm} {z_this_nodes : T_Nd} {z_this_words : T_Wd} {post : Int32 → T_Gr × T_Nm × T_Nd × T_Wd → Prop} {postT : T_Gr × T_Nm × T_Nd × T_Wd → Prop} (hw : wp_Gr_readMeasured z_this z_this_names z_this_nodes z_this_words post postT) : xq_C l o y_Gr_readMeasured (.code y_Gr_readMeasured prog_2_method_26_code 3 (some (.int)) :: xq_W) rm_Gr_readMeasured D vwCl (xt k) [.ref (ad_this 0)] (w_Gr k ad_this (ad_this_words 0) (ad_this_names 0) (ad_this_nodes 0) z_this ++ w_Nm k ad_this_names z_this_names ++ w_Nd k ad_this_nodes z_this_nodes ++ w_Wd k ad_this_words q_this_words_keywords z_this_words) (fun r : Int32 => some (.int r)) post postT (fun u : T_Gr × T_Nm × T_Nd × T_Wd => w_Gr k ad_this (ad_this_words 0) (ad_this_names 0) (ad_this_nodes 0) u.1 ++ w_Nm k ad_this_names u.2.1 ++ w_Nd k ad_this_nodes u.2.2.1 ++ w_Wd k ad_this_words q_this_words_keywords u.2.2.2) 0 0 1 6 := by
  refine xq_ofW (cc := prog_2_method_26_code) (maxL := 3) (ret := (some (.int))) (by decide) rfl (Nat.le_of_ble_eq_true rfl) ?_
  intro p e s m below meth c ls H locs A hAt hAe hA hl hK hJ hP0 hP hD hS
  obtain ⟨hx, hb, hml, hr, hlocks, hown, hts, hex, hnm⟩ := id hAt
  have hl : lv_has ls 3 [(0, .ref (ad_this 0))] := hl
  unfold wp_Gr_readMeasured at hw
  refine lv_aload_n hx hb d_Gr_readMeasured_0 rfl (lv_at hl 0 rfl) ?_
  refine va_get (D := D) (ci := 6) (v := .ref (ad_this_words 0)) (C := R_Gr) (T := F_Gr) (N := 4) hx hb hts in_Gr hown hK hP 0 rfl rfl 0 (by decide) (hts (.fieldLink R_Gr 9 R_Gr "words" "LStepText$Words;") kw2_7) (fun _ h9 => h9) rfl d_Gr_readMeasured_1 ?_
  refine va_get (D := D) (ci := 2) (v := .int z_this_words.2.2.2.2.2.2.2.2.2.2.2.2.1) (C := R_Wd) (T := F_Wd) (N := 15) hx hb hts in_Wd hown hK hP 17 rfl rfl 13 (by decide) (hts (.fieldLink R_Gr 49 R_Wd "row" "I") kw1_112) (fun _ h9 => h9) rfl d_Gr_readMeasured_4 ?_
  refine lv_istore_n (lv' := [(1, .int z_this_words.2.2.2.2.2.2.2.2.2.2.2.2.1), (0, .ref (ad_this 0))]) hx hb d_Gr_readMeasured_7 rfl hl (by decide) rfl (fun ls hl => ?_)
  refine lv_aload_n hx hb d_Gr_readMeasured_8 rfl (lv_at hl 1 rfl) ?_
  refine va_get (D := D) (ci := 6) (v := .ref (ad_this_words 0)) (C := R_Gr) (T := F_Gr) (N := 4) hx hb hts in_Gr hown hK hP 0 rfl rfl 0 (by decide) (hts (.fieldLink R_Gr 9 R_Gr "words" "LStepText$Words;") kw2_7) (fun _ h9 => h9) rfl d_Gr_readMeasured_9 ?_
  refine va_get (D := D) (ci := 2) (v := .int z_this_words.2.2.2.2.2.2.2.2.2.2.1) (C := R_Wd) (T := F_Wd) (N := 15) hx hb hts in_Wd hown hK hP 17 rfl rfl 11 (by decide) (hts (.fieldLink R_Gr 44 R_Wd "code" "I") kw1_108) (fun _ h9 => h9) rfl d_Gr_readMeasured_12 ?_
  refine lv_sipush (v := (128 : Int32)) hx hb d_Gr_readMeasured_15 (by decide) ?_
  refine lv_icmp_ne (tgt := 38) hx hb d_Gr_readMeasured_18 (by decide) (fun hc => ?_) (fun hc => ?_)
  · have hw := hw.2 hc
    refine lv_iconst (v := (-1 : Int32)) hx hb d_Gr_readMeasured_38 (by decide) ?_
    refine lv_istore_n (lv' := [(2, .int (-1 : Int32)), (1, .int z_this_words.2.2.2.2.2.2.2.2.2.2.2.2.1), (0, .ref (ad_this 0))]) hx hb d_Gr_readMeasured_39 rfl hl (by decide) rfl (fun ls hl => ?_)
    refine lv_iload_n hx hb d_Gr_readMeasured_40 rfl (lv_at hl 0 rfl) ?_
    refine lv_iconst (v := (-1 : Int32)) hx hb d_Gr_readMeasured_41 (by decide) ?_
    refine lv_icmp_eq (tgt := 59) hx hb d_Gr_readMeasured_42 (by decide) (fun hc => ?_) (fun hc => ?_)
    · have hw := hw.1 hc
      refine lv_aload_n hx hb d_Gr_readMeasured_59 rfl (lv_at hl 2 rfl) ?_
      refine lv_aload_n hx hb d_Gr_readMeasured_60 rfl (lv_at hl 2 rfl) ?_
      refine va_get (D := D) (ci := 6) (v := .ref (ad_this_words 0)) (C := R_Gr) (T := F_Gr) (N := 4) hx hb hts in_Gr hown hK hP 0 rfl rfl 0 (by decide) (hts (.fieldLink R_Gr 9 R_Gr "words" "LStepText$Words;") kw2_7) (fun _ h9 => h9) rfl d_Gr_readMeasured_61 ?_
      refine va_get (D := D) (ci := 2) (v := .int z_this_words.2.2.2.2.2.2.2.2.2.2.2.1) (C := R_Wd) (T := F_Wd) (N := 15) hx hb hts in_Wd hown hK hP 17 rfl rfl 12 (by decide) (hts (.fieldLink R_Gr 96 R_Wd "place" "I") kw1_111) (fun _ h9 => h9) rfl d_Gr_readMeasured_64 ?_
      refine xq_go (wr := w_Nm k ad_this_names z_this_names ++ w_Nd k ad_this_nodes z_this_nodes ++ w_Wd k ad_this_words q_this_words_keywords z_this_words) (stk := fun _ => []) (xq_runV (As := [.int z_this_words.2.2.2.2.2.2.2.2.2.2.2.1]) (rest := []) ⟨hx, hb, hml, hown, hts⟩ (c_Gr_refuse (l := l) (o := o) (D := D) (k := k) (ad_this := ad_this) (q_this_words := (ad_this_words 0)) (q_this_names := (ad_this_names 0)) (q_this_nodes := (ad_this_nodes 0)) hw) (cw_Gr_refuse hts kw2_165 ⟨Nat.le_of_ble_eq_true rfl, Nat.le_of_ble_eq_true rfl⟩) (va_recv hK hP (ci := 6) (q0 := 0) rfl rfl) (hP.sub [0] rfl) hK hJ hS (va_free hD hS hA [0] rfl) ((hD.sub [0] (by decide) rfl).weaken (fun _ _ _ _ => trivial)) rfl hl.1 (Nat.le_of_ble_eq_true rfl) d_Gr_readMeasured_67 ⟨Nat.le_of_ble_eq_true rfl, Nat.le_of_ble_eq_true rfl⟩) hP hD hS hA [0] [1, 2, 3, 4, 5, 6, 7, 8, 9, 10, 11, 12, 13, 14, 15, 16, 17, 18, 19, 20, 21, 22] rfl rfl (by decide) (by decide) (fun _ => rfl) (fun _ _ _ _ h9 => h9.elim) (fun x u H locs hw hP hD hS hE => ?_)
      have hP : va_P D vwCl (w_Gr k ad_this (ad_this_words 0) (ad_this_names 0) (ad_this_nodes 0) u ++ w_Nm k ad_this_names z_this_names ++ w_Nd k ad_this_nodes z_this_nodes ++ w_Wd k ad_this_words q_this_words_keywords z_this_words) H := hP.sub [22, 0, 1, 2, 3, 4, 5, 6, 7, 8, 9, 10, 11, 12, 13, 14, 15, 16, 17, 18, 19, 20, 21] rfl
      have hD : va_D A (w_Gr k ad_this (ad_this_words 0) (ad_this_names 0) (ad_this_nodes 0) u ++ w_Nm k ad_this_names z_this_names ++ w_Nd k ad_this_nodes z_this_nodes ++ w_Wd k ad_this_words q_this_words_keywords z_this_words) := hD.sub [22, 0, 1, 2, 3, 4, 5, 6, 7, 8, 9, 10, 11, 12, 13, 14, 15, 16, 17, 18, 19, 20, 21] (by decide) rfl
      exact xq_out (u := (u, z_this_names, z_this_nodes, z_this_words)) hex hlocks hAe hP hD hS hw hE (Nat.le_of_ble_eq_true rfl) (Nat.le_of_ble_eq_true rfl)
    · have hw := hw.2 hc
      refine lv_aload_n hx hb d_Gr_readMeasured_45 rfl (lv_at hl 2 rfl) ?_
      refine va_get (D := D) (ci := 6) (v := .ref (ad_this_names 0)) (C := R_Gr) (T := F_Gr) (N := 4) hx hb hts in_Gr hown hK hP 0 rfl rfl 1 (by decide) (hts (.fieldLink R_Gr 21 R_Gr "names" "LStepText$Names;") kw2_8) (fun _ h9 => h9) rfl d_Gr_readMeasured_46 ?_
      refine lv_iload_n hx hb d_Gr_readMeasured_49 rfl (lv_at hl 0 rfl) ?_
      refine xq_go (wr := w_Gr k ad_this (ad_this_words 0) (ad_this_names 0) (ad_this_nodes 0) z_this ++ w_Nd k ad_this_nodes z_this_nodes ++ w_Wd k ad_this_words q_this_words_keywords z_this_words) (stk := fun r => .int r :: []) (xq_runV (As := [.int (-1 : Int32)]) (rest := []) ⟨hx, hb, hml, hown, hts⟩ (c_Nm_sortOf (l := l) (o := o) (D := D) (k := k) (ad_this := ad_this_names) hw) (cw_Nm_sortOf hts kw3_24 ⟨Nat.le_of_ble_eq_true rfl, Nat.le_of_ble_eq_true rfl⟩) (va_recv hK hP (ci := 3) (q0 := 1) rfl rfl) (hP.sub [1, 2, 3, 4, 5] rfl) hK hJ hS (va_free hD hS hA [1, 2, 3, 4, 5] rfl) ((hD.sub [1, 2, 3, 4, 5] (by decide) rfl).weaken (fun _ _ _ _ => trivial)) rfl hl.1 (Nat.le_of_ble_eq_true rfl) d_Gr_readMeasured_50 ⟨Nat.le_of_ble_eq_true rfl, Nat.le_of_ble_eq_true rfl⟩) hP hD hS hA [1, 2, 3, 4, 5] [0, 6, 7, 8, 9, 10, 11, 12, 13, 14, 15, 16, 17, 18, 19, 20, 21, 22] rfl rfl (by decide) (by decide) (fun _ => rfl) (fun r2 u2 H locs hw hP hD hS => ?_) (fun _ _ _ _ h9 => h9.elim)
      have hP : va_P D vwCl (w_Gr k ad_this (ad_this_words 0) (ad_this_names 0) (ad_this_nodes 0) z_this ++ w_Nm k ad_this_names z_this_names ++ w_Nd k ad_this_nodes z_this_nodes ++ w_Wd k ad_this_words q_this_words_keywords z_this_words) H := hP.sub [0, 18, 19, 20, 21, 22, 1, 2, 3, 4, 5, 6, 7, 8, 9, 10, 11, 12, 13, 14, 15, 16, 17] rfl
      have hD : va_D A (w_Gr k ad_this (ad_this_words 0) (ad_this_names 0) (ad_this_nodes 0) z_this ++ w_Nm k ad_this_names z_this_names ++ w_Nd k ad_this_nodes z_this_nodes ++ w_Wd k ad_this_words q_this_words_keywords z_this_words) := hD.sub [0, 18, 19, 20, 21, 22, 1, 2, 3, 4, 5, 6, 7, 8, 9, 10, 11, 12, 13, 14, 15, 16, 17] (by decide) rfl
      refine lv_sipush (v := (215 : Int32)) hx hb d_Gr_readMeasured_53 (by decide) ?_
      refine lv_icmp_ne (tgt := 70) hx hb d_Gr_readMeasured_56 (by decide) (fun hc => ?_) (fun hc => ?_)
      · have hw := hw.2 hc
        refine lv_aload_n hx hb d_Gr_readMeasured_70 rfl (lv_at hl 2 rfl) ?_
        refine va_get (D := D) (ci := 6) (v := .ref (ad_this_names 0)) (C := R_Gr) (T := F_Gr) (N := 4) hx hb hts in_Gr hown hK hP 0 rfl rfl 1 (by decide) (hts (.fieldLink R_Gr 21 R_Gr "names" "LStepText$Names;") kw2_8) (fun _ h9 => h9) rfl d_Gr_readMeasured_71 ?_
        refine lv_iload_n hx hb d_Gr_readMeasured_74 rfl (lv_at hl 0 rfl) ?_
        refine xq_go (wr := w_Gr k ad_this (ad_this_words 0) (ad_this_names 0) (ad_this_nodes 0) z_this ++ w_Nd k ad_this_nodes z_this_nodes ++ w_Wd k ad_this_words q_this_words_keywords z_this_words) (stk := fun r => .int r :: []) (xq_runV (As := [.int (-1 : Int32)]) (rest := []) ⟨hx, hb, hml, hown, hts⟩ (c_Nm_sortOf (l := l) (o := o) (D := D) (k := k) (ad_this := ad_this_names) hw) (cw_Nm_sortOf hts kw3_24 ⟨Nat.le_of_ble_eq_true rfl, Nat.le_of_ble_eq_true rfl⟩) (va_recv hK hP (ci := 3) (q0 := 1) rfl rfl) (hP.sub [1, 2, 3, 4, 5] rfl) hK hJ hS (va_free hD hS hA [1, 2, 3, 4, 5] rfl) ((hD.sub [1, 2, 3, 4, 5] (by decide) rfl).weaken (fun _ _ _ _ => trivial)) rfl hl.1 (Nat.le_of_ble_eq_true rfl) d_Gr_readMeasured_75 ⟨Nat.le_of_ble_eq_true rfl, Nat.le_of_ble_eq_true rfl⟩) hP hD hS hA [1, 2, 3, 4, 5] [0, 6, 7, 8, 9, 10, 11, 12, 13, 14, 15, 16, 17, 18, 19, 20, 21, 22] rfl rfl (by decide) (by decide) (fun _ => rfl) (fun r3 u3 H locs hw hP hD hS => ?_) (fun _ _ _ _ h9 => h9.elim)
        have hP : va_P D vwCl (w_Gr k ad_this (ad_this_words 0) (ad_this_names 0) (ad_this_nodes 0) z_this ++ w_Nm k ad_this_names z_this_names ++ w_Nd k ad_this_nodes z_this_nodes ++ w_Wd k ad_this_words q_this_words_keywords z_this_words) H := hP.sub [0, 18, 19, 20, 21, 22, 1, 2, 3, 4, 5, 6, 7, 8, 9, 10, 11, 12, 13, 14, 15, 16, 17] rfl
        have hD : va_D A (w_Gr k ad_this (ad_this_words 0) (ad_this_names 0) (ad_this_nodes 0) z_this ++ w_Nm k ad_this_names z_this_names ++ w_Nd k ad_this_nodes z_this_nodes ++ w_Wd k ad_this_words q_this_words_keywords z_this_words) := hD.sub [0, 18, 19, 20, 21, 22, 1, 2, 3, 4, 5, 6, 7, 8, 9, 10, 11, 12, 13, 14, 15, 16, 17] (by decide) rfl
        refine lv_sipush (v := (213 : Int32)) hx hb d_Gr_readMeasured_78 (by decide) ?_
        refine lv_icmp_ne (tgt := 92) hx hb d_Gr_readMeasured_81 (by decide) (fun hc => ?_) (fun hc => ?_)
        · have hw := hw.2 hc
          refine lv_aload_n hx hb d_Gr_readMeasured_92 rfl (lv_at hl 2 rfl) ?_
          refine xq_go (wr := w_Nm k ad_this_names z_this_names) (stk := fun _ => []) (xq_runV (As := []) (rest := []) ⟨hx, hb, hml, hown, hts⟩ (c_Gr_pass (l := l) (o := o) (D := D) (k := k) (ad_this := ad_this) (ad_this_nodes := ad_this_nodes) (ad_this_words := ad_this_words) (q_this_names := (ad_this_names 0)) (q_this_words_keywords := q_this_words_keywords) hw) (cw_Gr_pass hts kw2_157 ⟨Nat.le_of_ble_eq_true rfl, Nat.le_of_ble_eq_true rfl⟩) (va_recv hK hP (ci := 6) (q0 := 0) rfl rfl) (hP.sub [0, 6, 7, 8, 9, 10, 11, 12, 13, 14, 15, 16, 17, 18, 19, 20, 21, 22] rfl) hK hJ hS (va_free hD hS hA [0, 6, 7, 8, 9, 10, 11, 12, 13, 14, 15, 16, 17, 18, 19, 20, 21, 22] rfl) ((hD.sub [0, 6, 7, 8, 9, 10, 11, 12, 13, 14, 15, 16, 17, 18, 19, 20, 21, 22] (by decide) rfl).weaken (fun _ _ _ _ => trivial)) rfl hl.1 (Nat.le_of_ble_eq_true rfl) d_Gr_readMeasured_93 ⟨Nat.le_of_ble_eq_true rfl, Nat.le_of_ble_eq_true rfl⟩) hP hD hS hA [0, 6, 7, 8, 9, 10, 11, 12, 13, 14, 15, 16, 17, 18, 19, 20, 21, 22] [1, 2, 3, 4, 5] rfl rfl (by decide) (by decide) (fun _ => rfl) (fun r4 u4 H locs hw hP hD hS => ?_) (fun x u H locs hw hP hD hS hE => ?_)
          · have hP : va_P D vwCl (w_Gr k ad_this (ad_this_words 0) (ad_this_names 0) (ad_this_nodes 0) u4.1 ++ w_Nm k ad_this_names z_this_names ++ w_Nd k ad_this_nodes z_this_nodes ++ w_Wd k ad_this_words q_this_words_keywords u4.2) H := hP.sub [5, 0, 1, 2, 3, 4, 6, 7, 8, 9, 10, 11, 12, 13, 14, 15, 16, 17, 18, 19, 20, 21, 22] rfl
            have hD : va_D A (w_Gr k ad_this (ad_this_words 0) (ad_this_names 0) (ad_this_nodes 0) u4.1 ++ w_Nm k ad_this_names z_this_names ++ w_Nd k ad_this_nodes z_this_nodes ++ w_Wd k ad_this_words q_this_words_keywords u4.2) := hD.sub [5, 0, 1, 2, 3, 4, 6, 7, 8, 9, 10, 11, 12, 13, 14, 15, 16, 17, 18, 19, 20, 21, 22] (by decide) rfl
            refine lv_aload_n hx hb d_Gr_readMeasured_96 rfl (lv_at hl 2 rfl) ?_
            refine va_get (D := D) (ci := 6) (v := .ref (ad_this_nodes 0)) (C := R_Gr) (T := F_Gr) (N := 4) hx hb hts in_Gr hown hK hP 0 rfl rfl 2 (by decide) (hts (.fieldLink R_Gr 28 R_Gr "nodes" "LStepText$Nodes;") kw2_9) (fun _ h9 => h9) rfl d_Gr_readMeasured_97 ?_
            refine lv_iconst (v := (1 : Int32)) hx hb d_Gr_readMeasured_100 (by decide) ?_
            refine lv_aload_n hx hb d_Gr_readMeasured_101 rfl (lv_at hl 2 rfl) ?_
            refine va_get (D := D) (ci := 6) (v := .ref (ad_this_nodes 0)) (C := R_Gr) (T := F_Gr) (N := 4) hx hb hts in_Gr hown hK hP 0 rfl rfl 2 (by decide) (hts (.fieldLink R_Gr 28 R_Gr "nodes" "LStepText$Nodes;") kw2_9) (fun _ h9 => h9) rfl d_Gr_readMeasured_102 ?_
            refine xq_go (wr := w_Gr k ad_this (ad_this_words 0) (ad_this_names 0) (ad_this_nodes 0) u4.1 ++ w_Nm k ad_this_names z_this_names ++ w_Wd k ad_this_words q_this_words_keywords u4.2) (stk := fun r => .int r :: [.int (1 : Int32), .ref (ad_this_nodes 0)]) (xq_runV (As := []) (rest := [.int (1 : Int32), .ref (ad_this_nodes 0)]) ⟨hx, hb, hml, hown, hts⟩ (c_Nd_count (l := l) (o := o) (D := D) (k := k) (ad_this := ad_this_nodes) hw) (cw_Nd_count hts kw2_239 ⟨Nat.le_of_ble_eq_true rfl, Nat.le_of_ble_eq_true rfl⟩) (va_recv hK hP (ci := 4) (q0 := 6) rfl rfl) (hP.sub [6, 7, 8, 9, 10, 11, 12, 13, 14, 15, 16] rfl) hK hJ hS (va_free hD hS hA [6, 7, 8, 9, 10, 11, 12, 13, 14, 15, 16] rfl) ((hD.sub [6, 7, 8, 9, 10, 11, 12, 13, 14, 15, 16] (by decide) rfl).weaken (fun _ _ _ _ => trivial)) rfl hl.1 (Nat.le_of_ble_eq_true rfl) d_Gr_readMeasured_105 ⟨Nat.le_of_ble_eq_true rfl, Nat.le_of_ble_eq_true rfl⟩) hP hD hS hA [6, 7, 8, 9, 10, 11, 12, 13, 14, 15, 16] [0, 1, 2, 3, 4, 5, 17, 18, 19, 20, 21, 22] rfl rfl (by decide) (by decide) (fun _ => rfl) (fun r5 u5 H locs hw hP hD hS => ?_) (fun _ _ _ _ h9 => h9.elim)
            have hP : va_P D vwCl (w_Gr k ad_this (ad_this_words 0) (ad_this_names 0) (ad_this_nodes 0) u4.1 ++ w_Nm k ad_this_names z_this_names ++ w_Nd k ad_this_nodes z_this_nodes ++ w_Wd k ad_this_words q_this_words_keywords u4.2) H := hP.sub [0, 1, 2, 3, 4, 5, 12, 13, 14, 15, 16, 17, 18, 19, 20, 21, 22, 6, 7, 8, 9, 10, 11] rfl
            have hD : va_D A (w_Gr k ad_this (ad_this_words 0) (ad_this_names 0) (ad_this_nodes 0) u4.1 ++ w_Nm k ad_this_names z_this_names ++ w_Nd k ad_this_nodes z_this_nodes ++ w_Wd k ad_this_words q_this_words_keywords u4.2) := hD.sub [0, 1, 2, 3, 4, 5, 12, 13, 14, 15, 16, 17, 18, 19, 20, 21, 22, 6, 7, 8, 9, 10, 11] (by decide) rfl
            refine lv_iload_n hx hb d_Gr_readMeasured_108 rfl (lv_at hl 1 rfl) ?_
            refine lv_iload_n hx hb d_Gr_readMeasured_109 rfl (lv_at hl 0 rfl) ?_
            refine lv_i2l hx hb d_Gr_readMeasured_110 rfl ?_
            refine lv_aload_n hx hb d_Gr_readMeasured_111 rfl (lv_at hl 2 rfl) ?_
            refine va_get (D := D) (ci := 6) (v := .ref (ad_this_names 0)) (C := R_Gr) (T := F_Gr) (N := 4) hx hb hts in_Gr hown hK hP 0 rfl rfl 1 (by decide) (hts (.fieldLink R_Gr 21 R_Gr "names" "LStepText$Names;") kw2_8) (fun _ h9 => h9) rfl d_Gr_readMeasured_112 ?_
            refine lv_iload_n hx hb d_Gr_readMeasured_115 rfl (lv_at hl 0 rfl) ?_
            refine xq_go (wr := w_Gr k ad_this (ad_this_words 0) (ad_this_names 0) (ad_this_nodes 0) u4.1 ++ w_Nd k ad_this_nodes z_this_nodes ++ w_Wd k ad_this_words q_this_words_keywords u4.2) (stk := fun r => .int r :: [.long ((-1 : Int32)).toInt64, .int z_this_words.2.2.2.2.2.2.2.2.2.2.2.2.1, .int r5, .int (1 : Int32), .ref (ad_this_nodes 0)]) (xq_runV (As := [.int (-1 : Int32)]) (rest := [.long ((-1 : Int32)).toInt64, .int z_this_words.2.2.2.2.2.2.2.2.2.2.2.2.1, .int r5, .int (1 : Int32), .ref (ad_this_nodes 0)]) ⟨hx, hb, hml, hown, hts⟩ (c_Nm_measureOf (l := l) (o := o) (D := D) (k := k) (ad_this := ad_this_names) hw) (cw_Nm_measureOf hts kw3_36 ⟨Nat.le_of_ble_eq_true rfl, Nat.le_of_ble_eq_true rfl⟩) (va_recv hK hP (ci := 3) (q0 := 1) rfl rfl) (hP.sub [1, 2, 3, 4, 5] rfl) hK hJ hS (va_free hD hS hA [1, 2, 3, 4, 5] rfl) ((hD.sub [1, 2, 3, 4, 5] (by decide) rfl).weaken (fun _ _ _ _ => trivial)) rfl hl.1 (Nat.le_of_ble_eq_true rfl) d_Gr_readMeasured_116 ⟨Nat.le_of_ble_eq_true rfl, Nat.le_of_ble_eq_true rfl⟩) hP hD hS hA [1, 2, 3, 4, 5] [0, 6, 7, 8, 9, 10, 11, 12, 13, 14, 15, 16, 17, 18, 19, 20, 21, 22] rfl rfl (by decide) (by decide) (fun _ => rfl) (fun r6 u6 H locs hw hP hD hS => ?_) (fun _ _ _ _ h9 => h9.elim)
            have hP : va_P D vwCl (w_Gr k ad_this (ad_this_words 0) (ad_this_names 0) (ad_this_nodes 0) u4.1 ++ w_Nm k ad_this_names z_this_names ++ w_Nd k ad_this_nodes z_this_nodes ++ w_Wd k ad_this_words q_this_words_keywords u4.2) H := hP.sub [0, 18, 19, 20, 21, 22, 1, 2, 3, 4, 5, 6, 7, 8, 9, 10, 11, 12, 13, 14, 15, 16, 17] rfl
            have hD : va_D A (w_Gr k ad_this (ad_this_words 0) (ad_this_names 0) (ad_this_nodes 0) u4.1 ++ w_Nm k ad_this_names z_this_names ++ w_Nd k ad_this_nodes z_this_nodes ++ w_Wd k ad_this_words q_this_words_keywords u4.2) := hD.sub [0, 18, 19, 20, 21, 22, 1, 2, 3, 4, 5, 6, 7, 8, 9, 10, 11, 12, 13, 14, 15, 16, 17] (by decide) rfl
            refine xq_go (wr := w_Gr k ad_this (ad_this_words 0) (ad_this_names 0) (ad_this_nodes 0) u4.1 ++ w_Nm k ad_this_names z_this_names ++ w_Wd k ad_this_words q_this_words_keywords u4.2) (stk := fun r => .int r :: []) (xq_runV (As := [.int (1 : Int32), .int r5, .int z_this_words.2.2.2.2.2.2.2.2.2.2.2.2.1, .long ((-1 : Int32)).toInt64, .int r6]) (rest := []) ⟨hx, hb, hml, hown, hts⟩ (c_Nd_add (l := l) (o := o) (D := D) (k := k) (ad_this := ad_this_nodes) hw) (cw_Nd_add hts kw3_67 ⟨Nat.le_of_ble_eq_true rfl, Nat.le_of_ble_eq_true rfl⟩) (va_recv hK hP (ci := 4) (q0 := 6) rfl rfl) (hP.sub [6, 7, 8, 9, 10, 11, 12, 13, 14, 15, 16] rfl) hK hJ hS (va_free hD hS hA [6, 7, 8, 9, 10, 11, 12, 13, 14, 15, 16] rfl) ((hD.sub [6, 7, 8, 9, 10, 11, 12, 13, 14, 15, 16] (by decide) rfl).weaken (fun _ _ _ _ => trivial)) rfl hl.1 (Nat.le_of_ble_eq_true rfl) d_Gr_readMeasured_119 ⟨Nat.le_of_ble_eq_true rfl, Nat.le_of_ble_eq_true rfl⟩) hP hD hS hA [6, 7, 8, 9, 10, 11, 12, 13, 14, 15, 16] [0, 1, 2, 3, 4, 5, 17, 18, 19, 20, 21, 22] rfl rfl (by decide) (by decide) (fun _ => rfl) (fun r7 u7 H locs hw hP hD hS => ?_) (fun _ _ _ _ h9 => h9.elim)
            have hP : va_P D vwCl (w_Gr k ad_this (ad_this_words 0) (ad_this_names 0) (ad_this_nodes 0) u4.1 ++ w_Nm k ad_this_names z_this_names ++ w_Nd k ad_this_nodes u7 ++ w_Wd k ad_this_words q_this_words_keywords u4.2) H := hP.sub [0, 1, 2, 3, 4, 5, 12, 13, 14, 15, 16, 17, 18, 19, 20, 21, 22, 6, 7, 8, 9, 10, 11] rfl
            have hD : va_D A (w_Gr k ad_this (ad_this_words 0) (ad_this_names 0) (ad_this_nodes 0) u4.1 ++ w_Nm k ad_this_names z_this_names ++ w_Nd k ad_this_nodes u7 ++ w_Wd k ad_this_words q_this_words_keywords u4.2) := hD.sub [0, 1, 2, 3, 4, 5, 12, 13, 14, 15, 16, 17, 18, 19, 20, 21, 22, 6, 7, 8, 9, 10, 11] (by decide) rfl
            exact xq_iret (r := r7) (u := (u4.1, z_this_names, u7, u4.2)) hx hb hr hlocks hAe hP hD hS rfl hw (Nat.le_of_ble_eq_true rfl) (Nat.le_of_ble_eq_true rfl) d_Gr_readMeasured_122
          · have hP : va_P D vwCl (w_Gr k ad_this (ad_this_words 0) (ad_this_names 0) (ad_this_nodes 0) u.1 ++ w_Nm k ad_this_names z_this_names ++ w_Nd k ad_this_nodes z_this_nodes ++ w_Wd k ad_this_words q_this_words_keywords u.2) H := hP.sub [5, 0, 1, 2, 3, 4, 6, 7, 8, 9, 10, 11, 12, 13, 14, 15, 16, 17, 18, 19, 20, 21, 22] rfl
            have hD : va_D A (w_Gr k ad_this (ad_this_words 0) (ad_this_names 0) (ad_this_nodes 0) u.1 ++ w_Nm k ad_this_names z_this_names ++ w_Nd k ad_this_nodes z_this_nodes ++ w_Wd k ad_this_words q_this_words_keywords u.2) := hD.sub [5, 0, 1, 2, 3, 4, 6, 7, 8, 9, 10, 11, 12, 13, 14, 15, 16, 17, 18, 19, 20, 21, 22] (by decide) rfl
            exact xq_out (u := (u.1, z_this_names, z_this_nodes, u.2)) hex hlocks hAe hP hD hS hw hE (Nat.le_of_ble_eq_true rfl) (Nat.le_of_ble_eq_true rfl)
        · have hw := hw.1 hc
          refine lv_aload_n hx hb d_Gr_readMeasured_84 rfl (lv_at hl 2 rfl) ?_
          refine va_get (D := D) (ci := 6) (v := .ref (ad_this_names 0)) (C := R_Gr) (T := F_Gr) (N := 4) hx hb hts in_Gr hown hK hP 0 rfl rfl 1 (by decide) (hts (.fieldLink R_Gr 21 R_Gr "names" "LStepText$Names;") kw2_8) (fun _ h9 => h9) rfl d_Gr_readMeasured_85 ?_
          refine lv_iload_n hx hb d_Gr_readMeasured_88 rfl (lv_at hl 0 rfl) ?_
          refine xq_go (wr := w_Gr k ad_this (ad_this_words 0) (ad_this_names 0) (ad_this_nodes 0) z_this ++ w_Nd k ad_this_nodes z_this_nodes ++ w_Wd k ad_this_words q_this_words_keywords z_this_words) (stk := fun _ => []) (xq_runV (As := [.int (-1 : Int32)]) (rest := []) ⟨hx, hb, hml, hown, hts⟩ (c_Nm_use (l := l) (o := o) (D := D) (k := k) (ad_this := ad_this_names) hw) (cw_Nm_use hts kw3_32 ⟨Nat.le_of_ble_eq_true rfl, Nat.le_of_ble_eq_true rfl⟩) (va_recv hK hP (ci := 3) (q0 := 1) rfl rfl) (hP.sub [1, 2, 3, 4, 5] rfl) hK hJ hS (va_free hD hS hA [1, 2, 3, 4, 5] rfl) ((hD.sub [1, 2, 3, 4, 5] (by decide) rfl).weaken (fun _ _ _ _ => trivial)) rfl hl.1 (Nat.le_of_ble_eq_true rfl) d_Gr_readMeasured_89 ⟨Nat.le_of_ble_eq_true rfl, Nat.le_of_ble_eq_true rfl⟩) hP hD hS hA [1, 2, 3, 4, 5] [0, 6, 7, 8, 9, 10, 11, 12, 13, 14, 15, 16, 17, 18, 19, 20, 21, 22] rfl rfl (by decide) (by decide) (fun _ => rfl) (fun r8 u8 H locs hw hP hD hS => ?_) (fun _ _ _ _ h9 => h9.elim)
          have hP : va_P D vwCl (w_Gr k ad_this (ad_this_words 0) (ad_this_names 0) (ad_this_nodes 0) z_this ++ w_Nm k ad_this_names u8 ++ w_Nd k ad_this_nodes z_this_nodes ++ w_Wd k ad_this_words q_this_words_keywords z_this_words) H := hP.sub [0, 18, 19, 20, 21, 22, 1, 2, 3, 4, 5, 6, 7, 8, 9, 10, 11, 12, 13, 14, 15, 16, 17] rfl
          have hD : va_D A (w_Gr k ad_this (ad_this_words 0) (ad_this_names 0) (ad_this_nodes 0) z_this ++ w_Nm k ad_this_names u8 ++ w_Nd k ad_this_nodes z_this_nodes ++ w_Wd k ad_this_words q_this_words_keywords z_this_words) := hD.sub [0, 18, 19, 20, 21, 22, 1, 2, 3, 4, 5, 6, 7, 8, 9, 10, 11, 12, 13, 14, 15, 16, 17] (by decide) rfl
          refine lv_aload_n hx hb d_Gr_readMeasured_92 rfl (lv_at hl 2 rfl) ?_
          refine xq_go (wr := w_Nm k ad_this_names u8) (stk := fun _ => []) (xq_runV (As := []) (rest := []) ⟨hx, hb, hml, hown, hts⟩ (c_Gr_pass (l := l) (o := o) (D := D) (k := k) (ad_this := ad_this) (ad_this_nodes := ad_this_nodes) (ad_this_words := ad_this_words) (q_this_names := (ad_this_names 0)) (q_this_words_keywords := q_this_words_keywords) hw) (cw_Gr_pass hts kw2_157 ⟨Nat.le_of_ble_eq_true rfl, Nat.le_of_ble_eq_true rfl⟩) (va_recv hK hP (ci := 6) (q0 := 0) rfl rfl) (hP.sub [0, 6, 7, 8, 9, 10, 11, 12, 13, 14, 15, 16, 17, 18, 19, 20, 21, 22] rfl) hK hJ hS (va_free hD hS hA [0, 6, 7, 8, 9, 10, 11, 12, 13, 14, 15, 16, 17, 18, 19, 20, 21, 22] rfl) ((hD.sub [0, 6, 7, 8, 9, 10, 11, 12, 13, 14, 15, 16, 17, 18, 19, 20, 21, 22] (by decide) rfl).weaken (fun _ _ _ _ => trivial)) rfl hl.1 (Nat.le_of_ble_eq_true rfl) d_Gr_readMeasured_93 ⟨Nat.le_of_ble_eq_true rfl, Nat.le_of_ble_eq_true rfl⟩) hP hD hS hA [0, 6, 7, 8, 9, 10, 11, 12, 13, 14, 15, 16, 17, 18, 19, 20, 21, 22] [1, 2, 3, 4, 5] rfl rfl (by decide) (by decide) (fun _ => rfl) (fun r9 u9 H locs hw hP hD hS => ?_) (fun x u H locs hw hP hD hS hE => ?_)
          · have hP : va_P D vwCl (w_Gr k ad_this (ad_this_words 0) (ad_this_names 0) (ad_this_nodes 0) u9.1 ++ w_Nm k ad_this_names u8 ++ w_Nd k ad_this_nodes z_this_nodes ++ w_Wd k ad_this_words q_this_words_keywords u9.2) H := hP.sub [5, 0, 1, 2, 3, 4, 6, 7, 8, 9, 10, 11, 12, 13, 14, 15, 16, 17, 18, 19, 20, 21, 22] rfl
            have hD : va_D A (w_Gr k ad_this (ad_this_words 0) (ad_this_names 0) (ad_this_nodes 0) u9.1 ++ w_Nm k ad_this_names u8 ++ w_Nd k ad_this_nodes z_this_nodes ++ w_Wd k ad_this_words q_this_words_keywords u9.2) := hD.sub [5, 0, 1, 2, 3, 4, 6, 7, 8, 9, 10, 11, 12, 13, 14, 15, 16, 17, 18, 19, 20, 21, 22] (by decide) rfl
            refine lv_aload_n hx hb d_Gr_readMeasured_96 rfl (lv_at hl 2 rfl) ?_
            refine va_get (D := D) (ci := 6) (v := .ref (ad_this_nodes 0)) (C := R_Gr) (T := F_Gr) (N := 4) hx hb hts in_Gr hown hK hP 0 rfl rfl 2 (by decide) (hts (.fieldLink R_Gr 28 R_Gr "nodes" "LStepText$Nodes;") kw2_9) (fun _ h9 => h9) rfl d_Gr_readMeasured_97 ?_
            refine lv_iconst (v := (1 : Int32)) hx hb d_Gr_readMeasured_100 (by decide) ?_
            refine lv_aload_n hx hb d_Gr_readMeasured_101 rfl (lv_at hl 2 rfl) ?_
            refine va_get (D := D) (ci := 6) (v := .ref (ad_this_nodes 0)) (C := R_Gr) (T := F_Gr) (N := 4) hx hb hts in_Gr hown hK hP 0 rfl rfl 2 (by decide) (hts (.fieldLink R_Gr 28 R_Gr "nodes" "LStepText$Nodes;") kw2_9) (fun _ h9 => h9) rfl d_Gr_readMeasured_102 ?_
            refine xq_go (wr := w_Gr k ad_this (ad_this_words 0) (ad_this_names 0) (ad_this_nodes 0) u9.1 ++ w_Nm k ad_this_names u8 ++ w_Wd k ad_this_words q_this_words_keywords u9.2) (stk := fun r => .int r :: [.int (1 : Int32), .ref (ad_this_nodes 0)]) (xq_runV (As := []) (rest := [.int (1 : Int32), .ref (ad_this_nodes 0)]) ⟨hx, hb, hml, hown, hts⟩ (c_Nd_count (l := l) (o := o) (D := D) (k := k) (ad_this := ad_this_nodes) hw) (cw_Nd_count hts kw2_239 ⟨Nat.le_of_ble_eq_true rfl, Nat.le_of_ble_eq_true rfl⟩) (va_recv hK hP (ci := 4) (q0 := 6) rfl rfl) (hP.sub [6, 7, 8, 9, 10, 11, 12, 13, 14, 15, 16] rfl) hK hJ hS (va_free hD hS hA [6, 7, 8, 9, 10, 11, 12, 13, 14, 15, 16] rfl) ((hD.sub [6, 7, 8, 9, 10, 11, 12, 13, 14, 15, 16] (by decide) rfl).weaken (fun _ _ _ _ => trivial)) rfl hl.1 (Nat.le_of_ble_eq_true rfl) d_Gr_readMeasured_105 ⟨Nat.le_of_ble_eq_true rfl, Nat.le_of_ble_eq_true rfl⟩) hP hD hS hA [6, 7, 8, 9, 10, 11, 12, 13, 14, 15, 16] [0, 1, 2, 3, 4, 5, 17, 18, 19, 20, 21, 22] rfl rfl (by decide) (by decide) (fun _ => rfl) (fun r10 u10 H locs hw hP hD hS => ?_) (fun _ _ _ _ h9 => h9.elim)
            have hP : va_P D vwCl (w_Gr k ad_this (ad_this_words 0) (ad_this_names 0) (ad_this_nodes 0) u9.1 ++ w_Nm k ad_this_names u8 ++ w_Nd k ad_this_nodes z_this_nodes ++ w_Wd k ad_this_words q_this_words_keywords u9.2) H := hP.sub [0, 1, 2, 3, 4, 5, 12, 13, 14, 15, 16, 17, 18, 19, 20, 21, 22, 6, 7, 8, 9, 10, 11] rfl
            have hD : va_D A (w_Gr k ad_this (ad_this_words 0) (ad_this_names 0) (ad_this_nodes 0) u9.1 ++ w_Nm k ad_this_names u8 ++ w_Nd k ad_this_nodes z_this_nodes ++ w_Wd k ad_this_words q_this_words_keywords u9.2) := hD.sub [0, 1, 2, 3, 4, 5, 12, 13, 14, 15, 16, 17, 18, 19, 20, 21, 22, 6, 7, 8, 9, 10, 11] (by decide) rfl
            refine lv_iload_n hx hb d_Gr_readMeasured_108 rfl (lv_at hl 1 rfl) ?_
            refine lv_iload_n hx hb d_Gr_readMeasured_109 rfl (lv_at hl 0 rfl) ?_
            refine lv_i2l hx hb d_Gr_readMeasured_110 rfl ?_
            refine lv_aload_n hx hb d_Gr_readMeasured_111 rfl (lv_at hl 2 rfl) ?_
            refine va_get (D := D) (ci := 6) (v := .ref (ad_this_names 0)) (C := R_Gr) (T := F_Gr) (N := 4) hx hb hts in_Gr hown hK hP 0 rfl rfl 1 (by decide) (hts (.fieldLink R_Gr 21 R_Gr "names" "LStepText$Names;") kw2_8) (fun _ h9 => h9) rfl d_Gr_readMeasured_112 ?_
            refine lv_iload_n hx hb d_Gr_readMeasured_115 rfl (lv_at hl 0 rfl) ?_
            refine xq_go (wr := w_Gr k ad_this (ad_this_words 0) (ad_this_names 0) (ad_this_nodes 0) u9.1 ++ w_Nd k ad_this_nodes z_this_nodes ++ w_Wd k ad_this_words q_this_words_keywords u9.2) (stk := fun r => .int r :: [.long ((-1 : Int32)).toInt64, .int z_this_words.2.2.2.2.2.2.2.2.2.2.2.2.1, .int r10, .int (1 : Int32), .ref (ad_this_nodes 0)]) (xq_runV (As := [.int (-1 : Int32)]) (rest := [.long ((-1 : Int32)).toInt64, .int z_this_words.2.2.2.2.2.2.2.2.2.2.2.2.1, .int r10, .int (1 : Int32), .ref (ad_this_nodes 0)]) ⟨hx, hb, hml, hown, hts⟩ (c_Nm_measureOf (l := l) (o := o) (D := D) (k := k) (ad_this := ad_this_names) hw) (cw_Nm_measureOf hts kw3_36 ⟨Nat.le_of_ble_eq_true rfl, Nat.le_of_ble_eq_true rfl⟩) (va_recv hK hP (ci := 3) (q0 := 1) rfl rfl) (hP.sub [1, 2, 3, 4, 5] rfl) hK hJ hS (va_free hD hS hA [1, 2, 3, 4, 5] rfl) ((hD.sub [1, 2, 3, 4, 5] (by decide) rfl).weaken (fun _ _ _ _ => trivial)) rfl hl.1 (Nat.le_of_ble_eq_true rfl) d_Gr_readMeasured_116 ⟨Nat.le_of_ble_eq_true rfl, Nat.le_of_ble_eq_true rfl⟩) hP hD hS hA [1, 2, 3, 4, 5] [0, 6, 7, 8, 9, 10, 11, 12, 13, 14, 15, 16, 17, 18, 19, 20, 21, 22] rfl rfl (by decide) (by decide) (fun _ => rfl) (fun r11 u11 H locs hw hP hD hS => ?_) (fun _ _ _ _ h9 => h9.elim)
            have hP : va_P D vwCl (w_Gr k ad_this (ad_this_words 0) (ad_this_names 0) (ad_this_nodes 0) u9.1 ++ w_Nm k ad_this_names u8 ++ w_Nd k ad_this_nodes z_this_nodes ++ w_Wd k ad_this_words q_this_words_keywords u9.2) H := hP.sub [0, 18, 19, 20, 21, 22, 1, 2, 3, 4, 5, 6, 7, 8, 9, 10, 11, 12, 13, 14, 15, 16, 17] rfl
            have hD : va_D A (w_Gr k ad_this (ad_this_words 0) (ad_this_names 0) (ad_this_nodes 0) u9.1 ++ w_Nm k ad_this_names u8 ++ w_Nd k ad_this_nodes z_this_nodes ++ w_Wd k ad_this_words q_this_words_keywords u9.2) := hD.sub [0, 18, 19, 20, 21, 22, 1, 2, 3, 4, 5, 6, 7, 8, 9, 10, 11, 12, 13, 14, 15, 16, 17] (by decide) rfl
            refine xq_go (wr := w_Gr k ad_this (ad_this_words 0) (ad_this_names 0) (ad_this_nodes 0) u9.1 ++ w_Nm k ad_this_names u8 ++ w_Wd k ad_this_words q_this_words_keywords u9.2) (stk := fun r => .int r :: []) (xq_runV (As := [.int (1 : Int32), .int r10, .int z_this_words.2.2.2.2.2.2.2.2.2.2.2.2.1, .long ((-1 : Int32)).toInt64, .int r11]) (rest := []) ⟨hx, hb, hml, hown, hts⟩ (c_Nd_add (l := l) (o := o) (D := D) (k := k) (ad_this := ad_this_nodes) hw) (cw_Nd_add hts kw3_67 ⟨Nat.le_of_ble_eq_true rfl, Nat.le_of_ble_eq_true rfl⟩) (va_recv hK hP (ci := 4) (q0 := 6) rfl rfl) (hP.sub [6, 7, 8, 9, 10, 11, 12, 13, 14, 15, 16] rfl) hK hJ hS (va_free hD hS hA [6, 7, 8, 9, 10, 11, 12, 13, 14, 15, 16] rfl) ((hD.sub [6, 7, 8, 9, 10, 11, 12, 13, 14, 15, 16] (by decide) rfl).weaken (fun _ _ _ _ => trivial)) rfl hl.1 (Nat.le_of_ble_eq_true rfl) d_Gr_readMeasured_119 ⟨Nat.le_of_ble_eq_true rfl, Nat.le_of_ble_eq_true rfl⟩) hP hD hS hA [6, 7, 8, 9, 10, 11, 12, 13, 14, 15, 16] [0, 1, 2, 3, 4, 5, 17, 18, 19, 20, 21, 22] rfl rfl (by decide) (by decide) (fun _ => rfl) (fun r12 u12 H locs hw hP hD hS => ?_) (fun _ _ _ _ h9 => h9.elim)
            have hP : va_P D vwCl (w_Gr k ad_this (ad_this_words 0) (ad_this_names 0) (ad_this_nodes 0) u9.1 ++ w_Nm k ad_this_names u8 ++ w_Nd k ad_this_nodes u12 ++ w_Wd k ad_this_words q_this_words_keywords u9.2) H := hP.sub [0, 1, 2, 3, 4, 5, 12, 13, 14, 15, 16, 17, 18, 19, 20, 21, 22, 6, 7, 8, 9, 10, 11] rfl
            have hD : va_D A (w_Gr k ad_this (ad_this_words 0) (ad_this_names 0) (ad_this_nodes 0) u9.1 ++ w_Nm k ad_this_names u8 ++ w_Nd k ad_this_nodes u12 ++ w_Wd k ad_this_words q_this_words_keywords u9.2) := hD.sub [0, 1, 2, 3, 4, 5, 12, 13, 14, 15, 16, 17, 18, 19, 20, 21, 22, 6, 7, 8, 9, 10, 11] (by decide) rfl
            exact xq_iret (r := r12) (u := (u9.1, u8, u12, u9.2)) hx hb hr hlocks hAe hP hD hS rfl hw (Nat.le_of_ble_eq_true rfl) (Nat.le_of_ble_eq_true rfl) d_Gr_readMeasured_122
          · have hP : va_P D vwCl (w_Gr k ad_this (ad_this_words 0) (ad_this_names 0) (ad_this_nodes 0) u.1 ++ w_Nm k ad_this_names u8 ++ w_Nd k ad_this_nodes z_this_nodes ++ w_Wd k ad_this_words q_this_words_keywords u.2) H := hP.sub [5, 0, 1, 2, 3, 4, 6, 7, 8, 9, 10, 11, 12, 13, 14, 15, 16, 17, 18, 19, 20, 21, 22] rfl
            have hD : va_D A (w_Gr k ad_this (ad_this_words 0) (ad_this_names 0) (ad_this_nodes 0) u.1 ++ w_Nm k ad_this_names u8 ++ w_Nd k ad_this_nodes z_this_nodes ++ w_Wd k ad_this_words q_this_words_keywords u.2) := hD.sub [5, 0, 1, 2, 3, 4, 6, 7, 8, 9, 10, 11, 12, 13, 14, 15, 16, 17, 18, 19, 20, 21, 22] (by decide) rfl
            exact xq_out (u := (u.1, u8, z_this_nodes, u.2)) hex hlocks hAe hP hD hS hw hE (Nat.le_of_ble_eq_true rfl) (Nat.le_of_ble_eq_true rfl)
      · have hw := hw.1 hc
        refine lv_aload_n hx hb d_Gr_readMeasured_59 rfl (lv_at hl 2 rfl) ?_
        refine lv_aload_n hx hb d_Gr_readMeasured_60 rfl (lv_at hl 2 rfl) ?_
        refine va_get (D := D) (ci := 6) (v := .ref (ad_this_words 0)) (C := R_Gr) (T := F_Gr) (N := 4) hx hb hts in_Gr hown hK hP 0 rfl rfl 0 (by decide) (hts (.fieldLink R_Gr 9 R_Gr "words" "LStepText$Words;") kw2_7) (fun _ h9 => h9) rfl d_Gr_readMeasured_61 ?_
        refine va_get (D := D) (ci := 2) (v := .int z_this_words.2.2.2.2.2.2.2.2.2.2.2.1) (C := R_Wd) (T := F_Wd) (N := 15) hx hb hts in_Wd hown hK hP 17 rfl rfl 12 (by decide) (hts (.fieldLink R_Gr 96 R_Wd "place" "I") kw1_111) (fun _ h9 => h9) rfl d_Gr_readMeasured_64 ?_
        refine xq_go (wr := w_Nm k ad_this_names z_this_names ++ w_Nd k ad_this_nodes z_this_nodes ++ w_Wd k ad_this_words q_this_words_keywords z_this_words) (stk := fun _ => []) (xq_runV (As := [.int z_this_words.2.2.2.2.2.2.2.2.2.2.2.1]) (rest := []) ⟨hx, hb, hml, hown, hts⟩ (c_Gr_refuse (l := l) (o := o) (D := D) (k := k) (ad_this := ad_this) (q_this_words := (ad_this_words 0)) (q_this_names := (ad_this_names 0)) (q_this_nodes := (ad_this_nodes 0)) hw) (cw_Gr_refuse hts kw2_165 ⟨Nat.le_of_ble_eq_true rfl, Nat.le_of_ble_eq_true rfl⟩) (va_recv hK hP (ci := 6) (q0 := 0) rfl rfl) (hP.sub [0] rfl) hK hJ hS (va_free hD hS hA [0] rfl) ((hD.sub [0] (by decide) rfl).weaken (fun _ _ _ _ => trivial)) rfl hl.1 (Nat.le_of_ble_eq_true rfl) d_Gr_readMeasured_67 ⟨Nat.le_of_ble_eq_true rfl, Nat.le_of_ble_eq_true rfl⟩) hP hD hS hA [0] [1, 2, 3, 4, 5, 6, 7, 8, 9, 10, 11, 12, 13, 14, 15, 16, 17, 18, 19, 20, 21, 22] rfl rfl (by decide) (by decide) (fun _ => rfl) (fun _ _ _ _ h9 => h9.elim) (fun x u H locs hw hP hD hS hE => ?_)
        have hP : va_P D vwCl (w_Gr k ad_this (ad_this_words 0) (ad_this_names 0) (ad_this_nodes 0) u ++ w_Nm k ad_this_names z_this_names ++ w_Nd k ad_this_nodes z_this_nodes ++ w_Wd k ad_this_words q_this_words_keywords z_this_words) H := hP.sub [22, 0, 1, 2, 3, 4, 5, 6, 7, 8, 9, 10, 11, 12, 13, 14, 15, 16, 17, 18, 19, 20, 21] rfl
        have hD : va_D A (w_Gr k ad_this (ad_this_words 0) (ad_this_names 0) (ad_this_nodes 0) u ++ w_Nm k ad_this_names z_this_names ++ w_Nd k ad_this_nodes z_this_nodes ++ w_Wd k ad_this_words q_this_words_keywords z_this_words) := hD.sub [22, 0, 1, 2, 3, 4, 5, 6, 7, 8, 9, 10, 11, 12, 13, 14, 15, 16, 17, 18, 19, 20, 21] (by decide) rfl
        exact xq_out (u := (u, z_this_names, z_this_nodes, z_this_words)) hex hlocks hAe hP hD hS hw hE (Nat.le_of_ble_eq_true rfl) (Nat.le_of_ble_eq_true rfl)
  · have hw := hw.1 hc
    refine lv_aload_n hx hb d_Gr_readMeasured_21 rfl (lv_at hl 1 rfl) ?_
    refine va_get (D := D) (ci := 6) (v := .ref (ad_this_names 0)) (C := R_Gr) (T := F_Gr) (N := 4) hx hb hts in_Gr hown hK hP 0 rfl rfl 1 (by decide) (hts (.fieldLink R_Gr 21 R_Gr "names" "LStepText$Names;") kw2_8) (fun _ h9 => h9) rfl d_Gr_readMeasured_22 ?_
    refine lv_aload_n hx hb d_Gr_readMeasured_25 rfl (lv_at hl 1 rfl) ?_
    refine va_get (D := D) (ci := 6) (v := .ref (ad_this_words 0)) (C := R_Gr) (T := F_Gr) (N := 4) hx hb hts in_Gr hown hK hP 0 rfl rfl 0 (by decide) (hts (.fieldLink R_Gr 9 R_Gr "words" "LStepText$Words;") kw2_7) (fun _ h9 => h9) rfl d_Gr_readMeasured_26 ?_
    refine va_get (D := D) (ci := 2) (v := .long z_this_words.2.2.2.2.2.2.2.2.2.2.2.2.2) (C := R_Wd) (T := F_Wd) (N := 15) hx hb hts in_Wd hown hK hP 17 rfl rfl 14 (by decide) (hts (.fieldLink R_Gr 108 R_Wd "value" "J") kw1_115) (fun _ h9 => h9) rfl d_Gr_readMeasured_29 ?_
    refine xq_go (wr := w_Gr k ad_this (ad_this_words 0) (ad_this_names 0) (ad_this_nodes 0) z_this ++ w_Nd k ad_this_nodes z_this_nodes ++ w_Wd k ad_this_words q_this_words_keywords z_this_words) (stk := fun r => .int r :: []) (xq_runV (As := [.long z_this_words.2.2.2.2.2.2.2.2.2.2.2.2.2]) (rest := []) ⟨hx, hb, hml, hown, hts⟩ (c_Nm_find (l := l) (o := o) (D := D) (k := k) (ad_this := ad_this_names) hw) (cw_Nm_find hts kw3_23 ⟨Nat.le_of_ble_eq_true rfl, Nat.le_of_ble_eq_true rfl⟩) (va_recv hK hP (ci := 3) (q0 := 1) rfl rfl) (hP.sub [1, 2, 3, 4, 5] rfl) hK hJ hS (va_free hD hS hA [1, 2, 3, 4, 5] rfl) ((hD.sub [1, 2, 3, 4, 5] (by decide) rfl).weaken (fun _ _ _ _ => trivial)) rfl hl.1 (Nat.le_of_ble_eq_true rfl) d_Gr_readMeasured_32 ⟨Nat.le_of_ble_eq_true rfl, Nat.le_of_ble_eq_true rfl⟩) hP hD hS hA [1, 2, 3, 4, 5] [0, 6, 7, 8, 9, 10, 11, 12, 13, 14, 15, 16, 17, 18, 19, 20, 21, 22] rfl rfl (by decide) (by decide) (fun _ => rfl) (fun r14 u14 H locs hw hP hD hS => ?_) (fun _ _ _ _ h9 => h9.elim)
    have hP : va_P D vwCl (w_Gr k ad_this (ad_this_words 0) (ad_this_names 0) (ad_this_nodes 0) z_this ++ w_Nm k ad_this_names z_this_names ++ w_Nd k ad_this_nodes z_this_nodes ++ w_Wd k ad_this_words q_this_words_keywords z_this_words) H := hP.sub [0, 18, 19, 20, 21, 22, 1, 2, 3, 4, 5, 6, 7, 8, 9, 10, 11, 12, 13, 14, 15, 16, 17] rfl
    have hD : va_D A (w_Gr k ad_this (ad_this_words 0) (ad_this_names 0) (ad_this_nodes 0) z_this ++ w_Nm k ad_this_names z_this_names ++ w_Nd k ad_this_nodes z_this_nodes ++ w_Wd k ad_this_words q_this_words_keywords z_this_words) := hD.sub [0, 18, 19, 20, 21, 22, 1, 2, 3, 4, 5, 6, 7, 8, 9, 10, 11, 12, 13, 14, 15, 16, 17] (by decide) rfl
    refine lv_goto (tgt := 39) hx hb d_Gr_readMeasured_35 (by decide) ?_
    refine lv_istore_n (lv' := [(2, .int r14), (1, .int z_this_words.2.2.2.2.2.2.2.2.2.2.2.2.1), (0, .ref (ad_this 0))]) hx hb d_Gr_readMeasured_39 rfl hl (by decide) rfl (fun ls hl => ?_)
    refine lv_iload_n hx hb d_Gr_readMeasured_40 rfl (lv_at hl 0 rfl) ?_
    refine lv_iconst (v := (-1 : Int32)) hx hb d_Gr_readMeasured_41 (by decide) ?_
    refine lv_icmp_eq (tgt := 59) hx hb d_Gr_readMeasured_42 (by decide) (fun hc => ?_) (fun hc => ?_)
    · have hw := hw.1 hc
      refine lv_aload_n hx hb d_Gr_readMeasured_59 rfl (lv_at hl 2 rfl) ?_
      refine lv_aload_n hx hb d_Gr_readMeasured_60 rfl (lv_at hl 2 rfl) ?_
      refine va_get (D := D) (ci := 6) (v := .ref (ad_this_words 0)) (C := R_Gr) (T := F_Gr) (N := 4) hx hb hts in_Gr hown hK hP 0 rfl rfl 0 (by decide) (hts (.fieldLink R_Gr 9 R_Gr "words" "LStepText$Words;") kw2_7) (fun _ h9 => h9) rfl d_Gr_readMeasured_61 ?_
      refine va_get (D := D) (ci := 2) (v := .int z_this_words.2.2.2.2.2.2.2.2.2.2.2.1) (C := R_Wd) (T := F_Wd) (N := 15) hx hb hts in_Wd hown hK hP 17 rfl rfl 12 (by decide) (hts (.fieldLink R_Gr 96 R_Wd "place" "I") kw1_111) (fun _ h9 => h9) rfl d_Gr_readMeasured_64 ?_
      refine xq_go (wr := w_Nm k ad_this_names z_this_names ++ w_Nd k ad_this_nodes z_this_nodes ++ w_Wd k ad_this_words q_this_words_keywords z_this_words) (stk := fun _ => []) (xq_runV (As := [.int z_this_words.2.2.2.2.2.2.2.2.2.2.2.1]) (rest := []) ⟨hx, hb, hml, hown, hts⟩ (c_Gr_refuse (l := l) (o := o) (D := D) (k := k) (ad_this := ad_this) (q_this_words := (ad_this_words 0)) (q_this_names := (ad_this_names 0)) (q_this_nodes := (ad_this_nodes 0)) hw) (cw_Gr_refuse hts kw2_165 ⟨Nat.le_of_ble_eq_true rfl, Nat.le_of_ble_eq_true rfl⟩) (va_recv hK hP (ci := 6) (q0 := 0) rfl rfl) (hP.sub [0] rfl) hK hJ hS (va_free hD hS hA [0] rfl) ((hD.sub [0] (by decide) rfl).weaken (fun _ _ _ _ => trivial)) rfl hl.1 (Nat.le_of_ble_eq_true rfl) d_Gr_readMeasured_67 ⟨Nat.le_of_ble_eq_true rfl, Nat.le_of_ble_eq_true rfl⟩) hP hD hS hA [0] [1, 2, 3, 4, 5, 6, 7, 8, 9, 10, 11, 12, 13, 14, 15, 16, 17, 18, 19, 20, 21, 22] rfl rfl (by decide) (by decide) (fun _ => rfl) (fun _ _ _ _ h9 => h9.elim) (fun x u H locs hw hP hD hS hE => ?_)
      have hP : va_P D vwCl (w_Gr k ad_this (ad_this_words 0) (ad_this_names 0) (ad_this_nodes 0) u ++ w_Nm k ad_this_names z_this_names ++ w_Nd k ad_this_nodes z_this_nodes ++ w_Wd k ad_this_words q_this_words_keywords z_this_words) H := hP.sub [22, 0, 1, 2, 3, 4, 5, 6, 7, 8, 9, 10, 11, 12, 13, 14, 15, 16, 17, 18, 19, 20, 21] rfl
      have hD : va_D A (w_Gr k ad_this (ad_this_words 0) (ad_this_names 0) (ad_this_nodes 0) u ++ w_Nm k ad_this_names z_this_names ++ w_Nd k ad_this_nodes z_this_nodes ++ w_Wd k ad_this_words q_this_words_keywords z_this_words) := hD.sub [22, 0, 1, 2, 3, 4, 5, 6, 7, 8, 9, 10, 11, 12, 13, 14, 15, 16, 17, 18, 19, 20, 21] (by decide) rfl
      exact xq_out (u := (u, z_this_names, z_this_nodes, z_this_words)) hex hlocks hAe hP hD hS hw hE (Nat.le_of_ble_eq_true rfl) (Nat.le_of_ble_eq_true rfl)
    · have hw := hw.2 hc
      refine lv_aload_n hx hb d_Gr_readMeasured_45 rfl (lv_at hl 2 rfl) ?_
      refine va_get (D := D) (ci := 6) (v := .ref (ad_this_names 0)) (C := R_Gr) (T := F_Gr) (N := 4) hx hb hts in_Gr hown hK hP 0 rfl rfl 1 (by decide) (hts (.fieldLink R_Gr 21 R_Gr "names" "LStepText$Names;") kw2_8) (fun _ h9 => h9) rfl d_Gr_readMeasured_46 ?_
      refine lv_iload_n hx hb d_Gr_readMeasured_49 rfl (lv_at hl 0 rfl) ?_
      refine xq_go (wr := w_Gr k ad_this (ad_this_words 0) (ad_this_names 0) (ad_this_nodes 0) z_this ++ w_Nd k ad_this_nodes z_this_nodes ++ w_Wd k ad_this_words q_this_words_keywords z_this_words) (stk := fun r => .int r :: []) (xq_runV (As := [.int r14]) (rest := []) ⟨hx, hb, hml, hown, hts⟩ (c_Nm_sortOf (l := l) (o := o) (D := D) (k := k) (ad_this := ad_this_names) hw) (cw_Nm_sortOf hts kw3_24 ⟨Nat.le_of_ble_eq_true rfl, Nat.le_of_ble_eq_true rfl⟩) (va_recv hK hP (ci := 3) (q0 := 1) rfl rfl) (hP.sub [1, 2, 3, 4, 5] rfl) hK hJ hS (va_free hD hS hA [1, 2, 3, 4, 5] rfl) ((hD.sub [1, 2, 3, 4, 5] (by decide) rfl).weaken (fun _ _ _ _ => trivial)) rfl hl.1 (Nat.le_of_ble_eq_true rfl) d_Gr_readMeasured_50 ⟨Nat.le_of_ble_eq_true rfl, Nat.le_of_ble_eq_true rfl⟩) hP hD hS hA [1, 2, 3, 4, 5] [0, 6, 7, 8, 9, 10, 11, 12, 13, 14, 15, 16, 17, 18, 19, 20, 21, 22] rfl rfl (by decide) (by decide) (fun _ => rfl) (fun r16 u16 H locs hw hP hD hS => ?_) (fun _ _ _ _ h9 => h9.elim)
      have hP : va_P D vwCl (w_Gr k ad_this (ad_this_words 0) (ad_this_names 0) (ad_this_nodes 0) z_this ++ w_Nm k ad_this_names z_this_names ++ w_Nd k ad_this_nodes z_this_nodes ++ w_Wd k ad_this_words q_this_words_keywords z_this_words) H := hP.sub [0, 18, 19, 20, 21, 22, 1, 2, 3, 4, 5, 6, 7, 8, 9, 10, 11, 12, 13, 14, 15, 16, 17] rfl
      have hD : va_D A (w_Gr k ad_this (ad_this_words 0) (ad_this_names 0) (ad_this_nodes 0) z_this ++ w_Nm k ad_this_names z_this_names ++ w_Nd k ad_this_nodes z_this_nodes ++ w_Wd k ad_this_words q_this_words_keywords z_this_words) := hD.sub [0, 18, 19, 20, 21, 22, 1, 2, 3, 4, 5, 6, 7, 8, 9, 10, 11, 12, 13, 14, 15, 16, 17] (by decide) rfl
      refine lv_sipush (v := (215 : Int32)) hx hb d_Gr_readMeasured_53 (by decide) ?_
      refine lv_icmp_ne (tgt := 70) hx hb d_Gr_readMeasured_56 (by decide) (fun hc => ?_) (fun hc => ?_)
      · have hw := hw.2 hc
        refine lv_aload_n hx hb d_Gr_readMeasured_70 rfl (lv_at hl 2 rfl) ?_
        refine va_get (D := D) (ci := 6) (v := .ref (ad_this_names 0)) (C := R_Gr) (T := F_Gr) (N := 4) hx hb hts in_Gr hown hK hP 0 rfl rfl 1 (by decide) (hts (.fieldLink R_Gr 21 R_Gr "names" "LStepText$Names;") kw2_8) (fun _ h9 => h9) rfl d_Gr_readMeasured_71 ?_
        refine lv_iload_n hx hb d_Gr_readMeasured_74 rfl (lv_at hl 0 rfl) ?_
        refine xq_go (wr := w_Gr k ad_this (ad_this_words 0) (ad_this_names 0) (ad_this_nodes 0) z_this ++ w_Nd k ad_this_nodes z_this_nodes ++ w_Wd k ad_this_words q_this_words_keywords z_this_words) (stk := fun r => .int r :: []) (xq_runV (As := [.int r14]) (rest := []) ⟨hx, hb, hml, hown, hts⟩ (c_Nm_sortOf (l := l) (o := o) (D := D) (k := k) (ad_this := ad_this_names) hw) (cw_Nm_sortOf hts kw3_24 ⟨Nat.le_of_ble_eq_true rfl, Nat.le_of_ble_eq_true rfl⟩) (va_recv hK hP (ci := 3) (q0 := 1) rfl rfl) (hP.sub [1, 2, 3, 4, 5] rfl) hK hJ hS (va_free hD hS hA [1, 2, 3, 4, 5] rfl) ((hD.sub [1, 2, 3, 4, 5] (by decide) rfl).weaken (fun _ _ _ _ => trivial)) rfl hl.1 (Nat.le_of_ble_eq_true rfl) d_Gr_readMeasured_75 ⟨Nat.le_of_ble_eq_true rfl, Nat.le_of_ble_eq_true rfl⟩) hP hD hS hA [1, 2, 3, 4, 5] [0, 6, 7, 8, 9, 10, 11, 12, 13, 14, 15, 16, 17, 18, 19, 20, 21, 22] rfl rfl (by decide) (by decide) (fun _ => rfl) (fun r17 u17 H locs hw hP hD hS => ?_) (fun _ _ _ _ h9 => h9.elim)
        have hP : va_P D vwCl (w_Gr k ad_this (ad_this_words 0) (ad_this_names 0) (ad_this_nodes 0) z_this ++ w_Nm k ad_this_names z_this_names ++ w_Nd k ad_this_nodes z_this_nodes ++ w_Wd k ad_this_words q_this_words_keywords z_this_words) H := hP.sub [0, 18, 19, 20, 21, 22, 1, 2, 3, 4, 5, 6, 7, 8, 9, 10, 11, 12, 13, 14, 15, 16, 17] rfl
        have hD : va_D A (w_Gr k ad_this (ad_this_words 0) (ad_this_names 0) (ad_this_nodes 0) z_this ++ w_Nm k ad_this_names z_this_names ++ w_Nd k ad_this_nodes z_this_nodes ++ w_Wd k ad_this_words q_this_words_keywords z_this_words) := hD.sub [0, 18, 19, 20, 21, 22, 1, 2, 3, 4, 5, 6, 7, 8, 9, 10, 11, 12, 13, 14, 15, 16, 17] (by decide) rfl
        refine lv_sipush (v := (213 : Int32)) hx hb d_Gr_readMeasured_78 (by decide) ?_
        refine lv_icmp_ne (tgt := 92) hx hb d_Gr_readMeasured_81 (by decide) (fun hc => ?_) (fun hc => ?_)
        · have hw := hw.2 hc
          refine lv_aload_n hx hb d_Gr_readMeasured_92 rfl (lv_at hl 2 rfl) ?_
          refine xq_go (wr := w_Nm k ad_this_names z_this_names) (stk := fun _ => []) (xq_runV (As := []) (rest := []) ⟨hx, hb, hml, hown, hts⟩ (c_Gr_pass (l := l) (o := o) (D := D) (k := k) (ad_this := ad_this) (ad_this_nodes := ad_this_nodes) (ad_this_words := ad_this_words) (q_this_names := (ad_this_names 0)) (q_this_words_keywords := q_this_words_keywords) hw) (cw_Gr_pass hts kw2_157 ⟨Nat.le_of_ble_eq_true rfl, Nat.le_of_ble_eq_true rfl⟩) (va_recv hK hP (ci := 6) (q0 := 0) rfl rfl) (hP.sub [0, 6, 7, 8, 9, 10, 11, 12, 13, 14, 15, 16, 17, 18, 19, 20, 21, 22] rfl) hK hJ hS (va_free hD hS hA [0, 6, 7, 8, 9, 10, 11, 12, 13, 14, 15, 16, 17, 18, 19, 20, 21, 22] rfl) ((hD.sub [0, 6, 7, 8, 9, 10, 11, 12, 13, 14, 15, 16, 17, 18, 19, 20, 21, 22] (by decide) rfl).weaken (fun _ _ _ _ => trivial)) rfl hl.1 (Nat.le_of_ble_eq_true rfl) d_Gr_readMeasured_93 ⟨Nat.le_of_ble_eq_true rfl, Nat.le_of_ble_eq_true rfl⟩) hP hD hS hA [0, 6, 7, 8, 9, 10, 11, 12, 13, 14, 15, 16, 17, 18, 19, 20, 21, 22] [1, 2, 3, 4, 5] rfl rfl (by decide) (by decide) (fun _ => rfl) (fun r18 u18 H locs hw hP hD hS => ?_) (fun x u H locs hw hP hD hS hE => ?_)
          · have hP : va_P D vwCl (w_Gr k ad_this (ad_this_words 0) (ad_this_names 0) (ad_this_nodes 0) u18.1 ++ w_Nm k ad_this_names z_this_names ++ w_Nd k ad_this_nodes z_this_nodes ++ w_Wd k ad_this_words q_this_words_keywords u18.2) H := hP.sub [5, 0, 1, 2, 3, 4, 6, 7, 8, 9, 10, 11, 12, 13, 14, 15, 16, 17, 18, 19, 20, 21, 22] rfl
            have hD : va_D A (w_Gr k ad_this (ad_this_words 0) (ad_this_names 0) (ad_this_nodes 0) u18.1 ++ w_Nm k ad_this_names z_this_names ++ w_Nd k ad_this_nodes z_this_nodes ++ w_Wd k ad_this_words q_this_words_keywords u18.2) := hD.sub [5, 0, 1, 2, 3, 4, 6, 7, 8, 9, 10, 11, 12, 13, 14, 15, 16, 17, 18, 19, 20, 21, 22] (by decide) rfl
            refine lv_aload_n hx hb d_Gr_readMeasured_96 rfl (lv_at hl 2 rfl) ?_
            refine va_get (D := D) (ci := 6) (v := .ref (ad_this_nodes 0)) (C := R_Gr) (T := F_Gr) (N := 4) hx hb hts in_Gr hown hK hP 0 rfl rfl 2 (by decide) (hts (.fieldLink R_Gr 28 R_Gr "nodes" "LStepText$Nodes;") kw2_9) (fun _ h9 => h9) rfl d_Gr_readMeasured_97 ?_
            refine lv_iconst (v := (1 : Int32)) hx hb d_Gr_readMeasured_100 (by decide) ?_
            refine lv_aload_n hx hb d_Gr_readMeasured_101 rfl (lv_at hl 2 rfl) ?_
            refine va_get (D := D) (ci := 6) (v := .ref (ad_this_nodes 0)) (C := R_Gr) (T := F_Gr) (N := 4) hx hb hts in_Gr hown hK hP 0 rfl rfl 2 (by decide) (hts (.fieldLink R_Gr 28 R_Gr "nodes" "LStepText$Nodes;") kw2_9) (fun _ h9 => h9) rfl d_Gr_readMeasured_102 ?_
            refine xq_go (wr := w_Gr k ad_this (ad_this_words 0) (ad_this_names 0) (ad_this_nodes 0) u18.1 ++ w_Nm k ad_this_names z_this_names ++ w_Wd k ad_this_words q_this_words_keywords u18.2) (stk := fun r => .int r :: [.int (1 : Int32), .ref (ad_this_nodes 0)]) (xq_runV (As := []) (rest := [.int (1 : Int32), .ref (ad_this_nodes 0)]) ⟨hx, hb, hml, hown, hts⟩ (c_Nd_count (l := l) (o := o) (D := D) (k := k) (ad_this := ad_this_nodes) hw) (cw_Nd_count hts kw2_239 ⟨Nat.le_of_ble_eq_true rfl, Nat.le_of_ble_eq_true rfl⟩) (va_recv hK hP (ci := 4) (q0 := 6) rfl rfl) (hP.sub [6, 7, 8, 9, 10, 11, 12, 13, 14, 15, 16] rfl) hK hJ hS (va_free hD hS hA [6, 7, 8, 9, 10, 11, 12, 13, 14, 15, 16] rfl) ((hD.sub [6, 7, 8, 9, 10, 11, 12, 13, 14, 15, 16] (by decide) rfl).weaken (fun _ _ _ _ => trivial)) rfl hl.1 (Nat.le_of_ble_eq_true rfl) d_Gr_readMeasured_105 ⟨Nat.le_of_ble_eq_true rfl, Nat.le_of_ble_eq_true rfl⟩) hP hD hS hA [6, 7, 8, 9, 10, 11, 12, 13, 14, 15, 16] [0, 1, 2, 3, 4, 5, 17, 18, 19, 20, 21, 22] rfl rfl (by decide) (by decide) (fun _ => rfl) (fun r19 u19 H locs hw hP hD hS => ?_) (fun _ _ _ _ h9 => h9.elim)
            have hP : va_P D vwCl (w_Gr k ad_this (ad_this_words 0) (ad_this_names 0) (ad_this_nodes 0) u18.1 ++ w_Nm k ad_this_names z_this_names ++ w_Nd k ad_this_nodes z_this_nodes ++ w_Wd k ad_this_words q_this_words_keywords u18.2) H := hP.sub [0, 1, 2, 3, 4, 5, 12, 13, 14, 15, 16, 17, 18, 19, 20, 21, 22, 6, 7, 8, 9, 10, 11] rfl
            have hD : va_D A (w_Gr k ad_this (ad_this_words 0) (ad_this_names 0) (ad_this_nodes 0) u18.1 ++ w_Nm k ad_this_names z_this_names ++ w_Nd k ad_this_nodes z_this_nodes ++ w_Wd k ad_this_words q_this_words_keywords u18.2) := hD.sub [0, 1, 2, 3, 4, 5, 12, 13, 14, 15, 16, 17, 18, 19, 20, 21, 22, 6, 7, 8, 9, 10, 11] (by decide) rfl
            refine lv_iload_n hx hb d_Gr_readMeasured_108 rfl (lv_at hl 1 rfl) ?_
            refine lv_iload_n hx hb d_Gr_readMeasured_109 rfl (lv_at hl 0 rfl) ?_
            refine lv_i2l hx hb d_Gr_readMeasured_110 rfl ?_
            refine lv_aload_n hx hb d_Gr_readMeasured_111 rfl (lv_at hl 2 rfl) ?_
            refine va_get (D := D) (ci := 6) (v := .ref (ad_this_names 0)) (C := R_Gr) (T := F_Gr) (N := 4) hx hb hts in_Gr hown hK hP 0 rfl rfl 1 (by decide) (hts (.fieldLink R_Gr 21 R_Gr "names" "LStepText$Names;") kw2_8) (fun _ h9 => h9) rfl d_Gr_readMeasured_112 ?_
            refine lv_iload_n hx hb d_Gr_readMeasured_115 rfl (lv_at hl 0 rfl) ?_
            refine xq_go (wr := w_Gr k ad_this (ad_this_words 0) (ad_this_names 0) (ad_this_nodes 0) u18.1 ++ w_Nd k ad_this_nodes z_this_nodes ++ w_Wd k ad_this_words q_this_words_keywords u18.2) (stk := fun r => .int r :: [.long (r14).toInt64, .int z_this_words.2.2.2.2.2.2.2.2.2.2.2.2.1, .int r19, .int (1 : Int32), .ref (ad_this_nodes 0)]) (xq_runV (As := [.int r14]) (rest := [.long (r14).toInt64, .int z_this_words.2.2.2.2.2.2.2.2.2.2.2.2.1, .int r19, .int (1 : Int32), .ref (ad_this_nodes 0)]) ⟨hx, hb, hml, hown, hts⟩ (c_Nm_measureOf (l := l) (o := o) (D := D) (k := k) (ad_this := ad_this_names) hw) (cw_Nm_measureOf hts kw3_36 ⟨Nat.le_of_ble_eq_true rfl, Nat.le_of_ble_eq_true rfl⟩) (va_recv hK hP (ci := 3) (q0 := 1) rfl rfl) (hP.sub [1, 2, 3, 4, 5] rfl) hK hJ hS (va_free hD hS hA [1, 2, 3, 4, 5] rfl) ((hD.sub [1, 2, 3, 4, 5] (by decide) rfl).weaken (fun _ _ _ _ => trivial)) rfl hl.1 (Nat.le_of_ble_eq_true rfl) d_Gr_readMeasured_116 ⟨Nat.le_of_ble_eq_true rfl, Nat.le_of_ble_eq_true rfl⟩) hP hD hS hA [1, 2, 3, 4, 5] [0, 6, 7, 8, 9, 10, 11, 12, 13, 14, 15, 16, 17, 18, 19, 20, 21, 22] rfl rfl (by decide) (by decide) (fun _ => rfl) (fun r20 u20 H locs hw hP hD hS => ?_) (fun _ _ _ _ h9 => h9.elim)
            have hP : va_P D vwCl (w_Gr k ad_this (ad_this_words 0) (ad_this_names 0) (ad_this_nodes 0) u18.1 ++ w_Nm k ad_this_names z_this_names ++ w_Nd k ad_this_nodes z_this_nodes ++ w_Wd k ad_this_words q_this_words_keywords u18.2) H := hP.sub [0, 18, 19, 20, 21, 22, 1, 2, 3, 4, 5, 6, 7, 8, 9, 10, 11, 12, 13, 14, 15, 16, 17] rfl
            have hD : va_D A (w_Gr k ad_this (ad_this_words 0) (ad_this_names 0) (ad_this_nodes 0) u18.1 ++ w_Nm k ad_this_names z_this_names ++ w_Nd k ad_this_nodes z_this_nodes ++ w_Wd k ad_this_words q_this_words_keywords u18.2) := hD.sub [0, 18, 19, 20, 21, 22, 1, 2, 3, 4, 5, 6, 7, 8, 9, 10, 11, 12, 13, 14, 15, 16, 17] (by decide) rfl
            refine xq_go (wr := w_Gr k ad_this (ad_this_words 0) (ad_this_names 0) (ad_this_nodes 0) u18.1 ++ w_Nm k ad_this_names z_this_names ++ w_Wd k ad_this_words q_this_words_keywords u18.2) (stk := fun r => .int r :: []) (xq_runV (As := [.int (1 : Int32), .int r19, .int z_this_words.2.2.2.2.2.2.2.2.2.2.2.2.1, .long (r14).toInt64, .int r20]) (rest := []) ⟨hx, hb, hml, hown, hts⟩ (c_Nd_add (l := l) (o := o) (D := D) (k := k) (ad_this := ad_this_nodes) hw) (cw_Nd_add hts kw3_67 ⟨Nat.le_of_ble_eq_true rfl, Nat.le_of_ble_eq_true rfl⟩) (va_recv hK hP (ci := 4) (q0 := 6) rfl rfl) (hP.sub [6, 7, 8, 9, 10, 11, 12, 13, 14, 15, 16] rfl) hK hJ hS (va_free hD hS hA [6, 7, 8, 9, 10, 11, 12, 13, 14, 15, 16] rfl) ((hD.sub [6, 7, 8, 9, 10, 11, 12, 13, 14, 15, 16] (by decide) rfl).weaken (fun _ _ _ _ => trivial)) rfl hl.1 (Nat.le_of_ble_eq_true rfl) d_Gr_readMeasured_119 ⟨Nat.le_of_ble_eq_true rfl, Nat.le_of_ble_eq_true rfl⟩) hP hD hS hA [6, 7, 8, 9, 10, 11, 12, 13, 14, 15, 16] [0, 1, 2, 3, 4, 5, 17, 18, 19, 20, 21, 22] rfl rfl (by decide) (by decide) (fun _ => rfl) (fun r21 u21 H locs hw hP hD hS => ?_) (fun _ _ _ _ h9 => h9.elim)
            have hP : va_P D vwCl (w_Gr k ad_this (ad_this_words 0) (ad_this_names 0) (ad_this_nodes 0) u18.1 ++ w_Nm k ad_this_names z_this_names ++ w_Nd k ad_this_nodes u21 ++ w_Wd k ad_this_words q_this_words_keywords u18.2) H := hP.sub [0, 1, 2, 3, 4, 5, 12, 13, 14, 15, 16, 17, 18, 19, 20, 21, 22, 6, 7, 8, 9, 10, 11] rfl
            have hD : va_D A (w_Gr k ad_this (ad_this_words 0) (ad_this_names 0) (ad_this_nodes 0) u18.1 ++ w_Nm k ad_this_names z_this_names ++ w_Nd k ad_this_nodes u21 ++ w_Wd k ad_this_words q_this_words_keywords u18.2) := hD.sub [0, 1, 2, 3, 4, 5, 12, 13, 14, 15, 16, 17, 18, 19, 20, 21, 22, 6, 7, 8, 9, 10, 11] (by decide) rfl
            exact xq_iret (r := r21) (u := (u18.1, z_this_names, u21, u18.2)) hx hb hr hlocks hAe hP hD hS rfl hw (Nat.le_of_ble_eq_true rfl) (Nat.le_of_ble_eq_true rfl) d_Gr_readMeasured_122
          · have hP : va_P D vwCl (w_Gr k ad_this (ad_this_words 0) (ad_this_names 0) (ad_this_nodes 0) u.1 ++ w_Nm k ad_this_names z_this_names ++ w_Nd k ad_this_nodes z_this_nodes ++ w_Wd k ad_this_words q_this_words_keywords u.2) H := hP.sub [5, 0, 1, 2, 3, 4, 6, 7, 8, 9, 10, 11, 12, 13, 14, 15, 16, 17, 18, 19, 20, 21, 22] rfl
            have hD : va_D A (w_Gr k ad_this (ad_this_words 0) (ad_this_names 0) (ad_this_nodes 0) u.1 ++ w_Nm k ad_this_names z_this_names ++ w_Nd k ad_this_nodes z_this_nodes ++ w_Wd k ad_this_words q_this_words_keywords u.2) := hD.sub [5, 0, 1, 2, 3, 4, 6, 7, 8, 9, 10, 11, 12, 13, 14, 15, 16, 17, 18, 19, 20, 21, 22] (by decide) rfl
            exact xq_out (u := (u.1, z_this_names, z_this_nodes, u.2)) hex hlocks hAe hP hD hS hw hE (Nat.le_of_ble_eq_true rfl) (Nat.le_of_ble_eq_true rfl)
        · have hw := hw.1 hc
          refine lv_aload_n hx hb d_Gr_readMeasured_84 rfl (lv_at hl 2 rfl) ?_
          refine va_get (D := D) (ci := 6) (v := .ref (ad_this_names 0)) (C := R_Gr) (T := F_Gr) (N := 4) hx hb hts in_Gr hown hK hP 0 rfl rfl 1 (by decide) (hts (.fieldLink R_Gr 21 R_Gr "names" "LStepText$Names;") kw2_8) (fun _ h9 => h9) rfl d_Gr_readMeasured_85 ?_
          refine lv_iload_n hx hb d_Gr_readMeasured_88 rfl (lv_at hl 0 rfl) ?_
          refine xq_go (wr := w_Gr k ad_this (ad_this_words 0) (ad_this_names 0) (ad_this_nodes 0) z_this ++ w_Nd k ad_this_nodes z_this_nodes ++ w_Wd k ad_this_words q_this_words_keywords z_this_words) (stk := fun _ => []) (xq_runV (As := [.int r14]) (rest := []) ⟨hx, hb, hml, hown, hts⟩ (c_Nm_use (l := l) (o := o) (D := D) (k := k) (ad_this := ad_this_names) hw) (cw_Nm_use hts kw3_32 ⟨Nat.le_of_ble_eq_true rfl, Nat.le_of_ble_eq_true rfl⟩) (va_recv hK hP (ci := 3) (q0 := 1) rfl rfl) (hP.sub [1, 2, 3, 4, 5] rfl) hK hJ hS (va_free hD hS hA [1, 2, 3, 4, 5] rfl) ((hD.sub [1, 2, 3, 4, 5] (by decide) rfl).weaken (fun _ _ _ _ => trivial)) rfl hl.1 (Nat.le_of_ble_eq_true rfl) d_Gr_readMeasured_89 ⟨Nat.le_of_ble_eq_true rfl, Nat.le_of_ble_eq_true rfl⟩) hP hD hS hA [1, 2, 3, 4, 5] [0, 6, 7, 8, 9, 10, 11, 12, 13, 14, 15, 16, 17, 18, 19, 20, 21, 22] rfl rfl (by decide) (by decide) (fun _ => rfl) (fun r22 u22 H locs hw hP hD hS => ?_) (fun _ _ _ _ h9 => h9.elim)
          have hP : va_P D vwCl (w_Gr k ad_this (ad_this_words 0) (ad_this_names 0) (ad_this_nodes 0) z_this ++ w_Nm k ad_this_names u22 ++ w_Nd k ad_this_nodes z_this_nodes ++ w_Wd k ad_this_words q_this_words_keywords z_this_words) H := hP.sub [0, 18, 19, 20, 21, 22, 1, 2, 3, 4, 5, 6, 7, 8, 9, 10, 11, 12, 13, 14, 15, 16, 17] rfl
          have hD : va_D A (w_Gr k ad_this (ad_this_words 0) (ad_this_names 0) (ad_this_nodes 0) z_this ++ w_Nm k ad_this_names u22 ++ w_Nd k ad_this_nodes z_this_nodes ++ w_Wd k ad_this_words q_this_words_keywords z_this_words) := hD.sub [0, 18, 19, 20, 21, 22, 1, 2, 3, 4, 5, 6, 7, 8, 9, 10, 11, 12, 13, 14, 15, 16, 17] (by decide) rfl
          refine lv_aload_n hx hb d_Gr_readMeasured_92 rfl (lv_at hl 2 rfl) ?_
          refine xq_go (wr := w_Nm k ad_this_names u22) (stk := fun _ => []) (xq_runV (As := []) (rest := []) ⟨hx, hb, hml, hown, hts⟩ (c_Gr_pass (l := l) (o := o) (D := D) (k := k) (ad_this := ad_this) (ad_this_nodes := ad_this_nodes) (ad_this_words := ad_this_words) (q_this_names := (ad_this_names 0)) (q_this_words_keywords := q_this_words_keywords) hw) (cw_Gr_pass hts kw2_157 ⟨Nat.le_of_ble_eq_true rfl, Nat.le_of_ble_eq_true rfl⟩) (va_recv hK hP (ci := 6) (q0 := 0) rfl rfl) (hP.sub [0, 6, 7, 8, 9, 10, 11, 12, 13, 14, 15, 16, 17, 18, 19, 20, 21, 22] rfl) hK hJ hS (va_free hD hS hA [0, 6, 7, 8, 9, 10, 11, 12, 13, 14, 15, 16, 17, 18, 19, 20, 21, 22] rfl) ((hD.sub [0, 6, 7, 8, 9, 10, 11, 12, 13, 14, 15, 16, 17, 18, 19, 20, 21, 22] (by decide) rfl).weaken (fun _ _ _ _ => trivial)) rfl hl.1 (Nat.le_of_ble_eq_true rfl) d_Gr_readMeasured_93 ⟨Nat.le_of_ble_eq_true rfl, Nat.le_of_ble_eq_true rfl⟩) hP hD hS hA [0, 6, 7, 8, 9, 10, 11, 12, 13, 14, 15, 16, 17, 18, 19, 20, 21, 22] [1, 2, 3, 4, 5] rfl rfl (by decide) (by decide) (fun _ => rfl) (fun r23 u23 H locs hw hP hD hS => ?_) (fun x u H locs hw hP hD hS hE => ?_)
          · have hP : va_P D vwCl (w_Gr k ad_this (ad_this_words 0) (ad_this_names 0) (ad_this_nodes 0) u23.1 ++ w_Nm k ad_this_names u22 ++ w_Nd k ad_this_nodes z_this_nodes ++ w_Wd k ad_this_words q_this_words_keywords u23.2) H := hP.sub [5, 0, 1, 2, 3, 4, 6, 7, 8, 9, 10, 11, 12, 13, 14, 15, 16, 17, 18, 19, 20, 21, 22] rfl
            have hD : va_D A (w_Gr k ad_this (ad_this_words 0) (ad_this_names 0) (ad_this_nodes 0) u23.1 ++ w_Nm k ad_this_names u22 ++ w_Nd k ad_this_nodes z_this_nodes ++ w_Wd k ad_this_words q_this_words_keywords u23.2) := hD.sub [5, 0, 1, 2, 3, 4, 6, 7, 8, 9, 10, 11, 12, 13, 14, 15, 16, 17, 18, 19, 20, 21, 22] (by decide) rfl
            refine lv_aload_n hx hb d_Gr_readMeasured_96 rfl (lv_at hl 2 rfl) ?_
            refine va_get (D := D) (ci := 6) (v := .ref (ad_this_nodes 0)) (C := R_Gr) (T := F_Gr) (N := 4) hx hb hts in_Gr hown hK hP 0 rfl rfl 2 (by decide) (hts (.fieldLink R_Gr 28 R_Gr "nodes" "LStepText$Nodes;") kw2_9) (fun _ h9 => h9) rfl d_Gr_readMeasured_97 ?_
            refine lv_iconst (v := (1 : Int32)) hx hb d_Gr_readMeasured_100 (by decide) ?_
            refine lv_aload_n hx hb d_Gr_readMeasured_101 rfl (lv_at hl 2 rfl) ?_
            refine va_get (D := D) (ci := 6) (v := .ref (ad_this_nodes 0)) (C := R_Gr) (T := F_Gr) (N := 4) hx hb hts in_Gr hown hK hP 0 rfl rfl 2 (by decide) (hts (.fieldLink R_Gr 28 R_Gr "nodes" "LStepText$Nodes;") kw2_9) (fun _ h9 => h9) rfl d_Gr_readMeasured_102 ?_
            refine xq_go (wr := w_Gr k ad_this (ad_this_words 0) (ad_this_names 0) (ad_this_nodes 0) u23.1 ++ w_Nm k ad_this_names u22 ++ w_Wd k ad_this_words q_this_words_keywords u23.2) (stk := fun r => .int r :: [.int (1 : Int32), .ref (ad_this_nodes 0)]) (xq_runV (As := []) (rest := [.int (1 : Int32), .ref (ad_this_nodes 0)]) ⟨hx, hb, hml, hown, hts⟩ (c_Nd_count (l := l) (o := o) (D := D) (k := k) (ad_this := ad_this_nodes) hw) (cw_Nd_count hts kw2_239 ⟨Nat.le_of_ble_eq_true rfl, Nat.le_of_ble_eq_true rfl⟩) (va_recv hK hP (ci := 4) (q0 := 6) rfl rfl) (hP.sub [6, 7, 8, 9, 10, 11, 12, 13, 14, 15, 16] rfl) hK hJ hS (va_free hD hS hA [6, 7, 8, 9, 10, 11, 12, 13, 14, 15, 16] rfl) ((hD.sub [6, 7, 8, 9, 10, 11, 12, 13, 14, 15, 16] (by decide) rfl).weaken (fun _ _ _ _ => trivial)) rfl hl.1 (Nat.le_of_ble_eq_true rfl) d_Gr_readMeasured_105 ⟨Nat.le_of_ble_eq_true rfl, Nat.le_of_ble_eq_true rfl⟩) hP hD hS hA [6, 7, 8, 9, 10, 11, 12, 13, 14, 15, 16] [0, 1, 2, 3, 4, 5, 17, 18, 19, 20, 21, 22] rfl rfl (by decide) (by decide) (fun _ => rfl) (fun r24 u24 H locs hw hP hD hS => ?_) (fun _ _ _ _ h9 => h9.elim)
            have hP : va_P D vwCl (w_Gr k ad_this (ad_this_words 0) (ad_this_names 0) (ad_this_nodes 0) u23.1 ++ w_Nm k ad_this_names u22 ++ w_Nd k ad_this_nodes z_this_nodes ++ w_Wd k ad_this_words q_this_words_keywords u23.2) H := hP.sub [0, 1, 2, 3, 4, 5, 12, 13, 14, 15, 16, 17, 18, 19, 20, 21, 22, 6, 7, 8, 9, 10, 11] rfl
            have hD : va_D A (w_Gr k ad_this (ad_this_words 0) (ad_this_names 0) (ad_this_nodes 0) u23.1 ++ w_Nm k ad_this_names u22 ++ w_Nd k ad_this_nodes z_this_nodes ++ w_Wd k ad_this_words q_this_words_keywords u23.2) := hD.sub [0, 1, 2, 3, 4, 5, 12, 13, 14, 15, 16, 17, 18, 19, 20, 21, 22, 6, 7, 8, 9, 10, 11] (by decide) rfl
            refine lv_iload_n hx hb d_Gr_readMeasured_108 rfl (lv_at hl 1 rfl) ?_
            refine lv_iload_n hx hb d_Gr_readMeasured_109 rfl (lv_at hl 0 rfl) ?_
            refine lv_i2l hx hb d_Gr_readMeasured_110 rfl ?_
            refine lv_aload_n hx hb d_Gr_readMeasured_111 rfl (lv_at hl 2 rfl) ?_
            refine va_get (D := D) (ci := 6) (v := .ref (ad_this_names 0)) (C := R_Gr) (T := F_Gr) (N := 4) hx hb hts in_Gr hown hK hP 0 rfl rfl 1 (by decide) (hts (.fieldLink R_Gr 21 R_Gr "names" "LStepText$Names;") kw2_8) (fun _ h9 => h9) rfl d_Gr_readMeasured_112 ?_
            refine lv_iload_n hx hb d_Gr_readMeasured_115 rfl (lv_at hl 0 rfl) ?_
            refine xq_go (wr := w_Gr k ad_this (ad_this_words 0) (ad_this_names 0) (ad_this_nodes 0) u23.1 ++ w_Nd k ad_this_nodes z_this_nodes ++ w_Wd k ad_this_words q_this_words_keywords u23.2) (stk := fun r => .int r :: [.long (r14).toInt64, .int z_this_words.2.2.2.2.2.2.2.2.2.2.2.2.1, .int r24, .int (1 : Int32), .ref (ad_this_nodes 0)]) (xq_runV (As := [.int r14]) (rest := [.long (r14).toInt64, .int z_this_words.2.2.2.2.2.2.2.2.2.2.2.2.1, .int r24, .int (1 : Int32), .ref (ad_this_nodes 0)]) ⟨hx, hb, hml, hown, hts⟩ (c_Nm_measureOf (l := l) (o := o) (D := D) (k := k) (ad_this := ad_this_names) hw) (cw_Nm_measureOf hts kw3_36 ⟨Nat.le_of_ble_eq_true rfl, Nat.le_of_ble_eq_true rfl⟩) (va_recv hK hP (ci := 3) (q0 := 1) rfl rfl) (hP.sub [1, 2, 3, 4, 5] rfl) hK hJ hS (va_free hD hS hA [1, 2, 3, 4, 5] rfl) ((hD.sub [1, 2, 3, 4, 5] (by decide) rfl).weaken (fun _ _ _ _ => trivial)) rfl hl.1 (Nat.le_of_ble_eq_true rfl) d_Gr_readMeasured_116 ⟨Nat.le_of_ble_eq_true rfl, Nat.le_of_ble_eq_true rfl⟩) hP hD hS hA [1, 2, 3, 4, 5] [0, 6, 7, 8, 9, 10, 11, 12, 13, 14, 15, 16, 17, 18, 19, 20, 21, 22] rfl rfl (by decide) (by decide) (fun _ => rfl) (fun r25 u25 H locs hw hP hD hS => ?_) (fun _ _ _ _ h9 => h9.elim)
            have hP : va_P D vwCl (w_Gr k ad_this (ad_this_words 0) (ad_this_names 0) (ad_this_nodes 0) u23.1 ++ w_Nm k ad_this_names u22 ++ w_Nd k ad_this_nodes z_this_nodes ++ w_Wd k ad_this_words q_this_words_keywords u23.2) H := hP.sub [0, 18, 19, 20, 21, 22, 1, 2, 3, 4, 5, 6, 7, 8, 9, 10, 11, 12, 13, 14, 15, 16, 17] rfl
            have hD : va_D A (w_Gr k ad_this (ad_this_words 0) (ad_this_names 0) (ad_this_nodes 0) u23.1 ++ w_Nm k ad_this_names u22 ++ w_Nd k ad_this_nodes z_this_nodes ++ w_Wd k ad_this_words q_this_words_keywords u23.2) := hD.sub [0, 18, 19, 20, 21, 22, 1, 2, 3, 4, 5, 6, 7, 8, 9, 10, 11, 12, 13, 14, 15, 16, 17] (by decide) rfl
            refine xq_go (wr := w_Gr k ad_this (ad_this_words 0) (ad_this_names 0) (ad_this_nodes 0) u23.1 ++ w_Nm k ad_this_names u22 ++ w_Wd k ad_this_words q_this_words_keywords u23.2) (stk := fun r => .int r :: []) (xq_runV (As := [.int (1 : Int32), .int r24, .int z_this_words.2.2.2.2.2.2.2.2.2.2.2.2.1, .long (r14).toInt64, .int r25]) (rest := []) ⟨hx, hb, hml, hown, hts⟩ (c_Nd_add (l := l) (o := o) (D := D) (k := k) (ad_this := ad_this_nodes) hw) (cw_Nd_add hts kw3_67 ⟨Nat.le_of_ble_eq_true rfl, Nat.le_of_ble_eq_true rfl⟩) (va_recv hK hP (ci := 4) (q0 := 6) rfl rfl) (hP.sub [6, 7, 8, 9, 10, 11, 12, 13, 14, 15, 16] rfl) hK hJ hS (va_free hD hS hA [6, 7, 8, 9, 10, 11, 12, 13, 14, 15, 16] rfl) ((hD.sub [6, 7, 8, 9, 10, 11, 12, 13, 14, 15, 16] (by decide) rfl).weaken (fun _ _ _ _ => trivial)) rfl hl.1 (Nat.le_of_ble_eq_true rfl) d_Gr_readMeasured_119 ⟨Nat.le_of_ble_eq_true rfl, Nat.le_of_ble_eq_true rfl⟩) hP hD hS hA [6, 7, 8, 9, 10, 11, 12, 13, 14, 15, 16] [0, 1, 2, 3, 4, 5, 17, 18, 19, 20, 21, 22] rfl rfl (by decide) (by decide) (fun _ => rfl) (fun r26 u26 H locs hw hP hD hS => ?_) (fun _ _ _ _ h9 => h9.elim)
            have hP : va_P D vwCl (w_Gr k ad_this (ad_this_words 0) (ad_this_names 0) (ad_this_nodes 0) u23.1 ++ w_Nm k ad_this_names u22 ++ w_Nd k ad_this_nodes u26 ++ w_Wd k ad_this_words q_this_words_keywords u23.2) H := hP.sub [0, 1, 2, 3, 4, 5, 12, 13, 14, 15, 16, 17, 18, 19, 20, 21, 22, 6, 7, 8, 9, 10, 11] rfl
            have hD : va_D A (w_Gr k ad_this (ad_this_words 0) (ad_this_names 0) (ad_this_nodes 0) u23.1 ++ w_Nm k ad_this_names u22 ++ w_Nd k ad_this_nodes u26 ++ w_Wd k ad_this_words q_this_words_keywords u23.2) := hD.sub [0, 1, 2, 3, 4, 5, 12, 13, 14, 15, 16, 17, 18, 19, 20, 21, 22, 6, 7, 8, 9, 10, 11] (by decide) rfl
            exact xq_iret (r := r26) (u := (u23.1, u22, u26, u23.2)) hx hb hr hlocks hAe hP hD hS rfl hw (Nat.le_of_ble_eq_true rfl) (Nat.le_of_ble_eq_true rfl) d_Gr_readMeasured_122
          · have hP : va_P D vwCl (w_Gr k ad_this (ad_this_words 0) (ad_this_names 0) (ad_this_nodes 0) u.1 ++ w_Nm k ad_this_names u22 ++ w_Nd k ad_this_nodes z_this_nodes ++ w_Wd k ad_this_words q_this_words_keywords u.2) H := hP.sub [5, 0, 1, 2, 3, 4, 6, 7, 8, 9, 10, 11, 12, 13, 14, 15, 16, 17, 18, 19, 20, 21, 22] rfl
            have hD : va_D A (w_Gr k ad_this (ad_this_words 0) (ad_this_names 0) (ad_this_nodes 0) u.1 ++ w_Nm k ad_this_names u22 ++ w_Nd k ad_this_nodes z_this_nodes ++ w_Wd k ad_this_words q_this_words_keywords u.2) := hD.sub [5, 0, 1, 2, 3, 4, 6, 7, 8, 9, 10, 11, 12, 13, 14, 15, 16, 17, 18, 19, 20, 21, 22] (by decide) rfl
            exact xq_out (u := (u.1, u22, z_this_nodes, u.2)) hex hlocks hAe hP hD hS hw hE (Nat.le_of_ble_eq_true rfl) (Nat.le_of_ble_eq_true rfl)
      · have hw := hw.1 hc
        refine lv_aload_n hx hb d_Gr_readMeasured_59 rfl (lv_at hl 2 rfl) ?_
        refine lv_aload_n hx hb d_Gr_readMeasured_60 rfl (lv_at hl 2 rfl) ?_
        refine va_get (D := D) (ci := 6) (v := .ref (ad_this_words 0)) (C := R_Gr) (T := F_Gr) (N := 4) hx hb hts in_Gr hown hK hP 0 rfl rfl 0 (by decide) (hts (.fieldLink R_Gr 9 R_Gr "words" "LStepText$Words;") kw2_7) (fun _ h9 => h9) rfl d_Gr_readMeasured_61 ?_
        refine va_get (D := D) (ci := 2) (v := .int z_this_words.2.2.2.2.2.2.2.2.2.2.2.1) (C := R_Wd) (T := F_Wd) (N := 15) hx hb hts in_Wd hown hK hP 17 rfl rfl 12 (by decide) (hts (.fieldLink R_Gr 96 R_Wd "place" "I") kw1_111) (fun _ h9 => h9) rfl d_Gr_readMeasured_64 ?_
        refine xq_go (wr := w_Nm k ad_this_names z_this_names ++ w_Nd k ad_this_nodes z_this_nodes ++ w_Wd k ad_this_words q_this_words_keywords z_this_words) (stk := fun _ => []) (xq_runV (As := [.int z_this_words.2.2.2.2.2.2.2.2.2.2.2.1]) (rest := []) ⟨hx, hb, hml, hown, hts⟩ (c_Gr_refuse (l := l) (o := o) (D := D) (k := k) (ad_this := ad_this) (q_this_words := (ad_this_words 0)) (q_this_names := (ad_this_names 0)) (q_this_nodes := (ad_this_nodes 0)) hw) (cw_Gr_refuse hts kw2_165 ⟨Nat.le_of_ble_eq_true rfl, Nat.le_of_ble_eq_true rfl⟩) (va_recv hK hP (ci := 6) (q0 := 0) rfl rfl) (hP.sub [0] rfl) hK hJ hS (va_free hD hS hA [0] rfl) ((hD.sub [0] (by decide) rfl).weaken (fun _ _ _ _ => trivial)) rfl hl.1 (Nat.le_of_ble_eq_true rfl) d_Gr_readMeasured_67 ⟨Nat.le_of_ble_eq_true rfl, Nat.le_of_ble_eq_true rfl⟩) hP hD hS hA [0] [1, 2, 3, 4, 5, 6, 7, 8, 9, 10, 11, 12, 13, 14, 15, 16, 17, 18, 19, 20, 21, 22] rfl rfl (by decide) (by decide) (fun _ => rfl) (fun _ _ _ _ h9 => h9.elim) (fun x u H locs hw hP hD hS hE => ?_)
        have hP : va_P D vwCl (w_Gr k ad_this (ad_this_words 0) (ad_this_names 0) (ad_this_nodes 0) u ++ w_Nm k ad_this_names z_this_names ++ w_Nd k ad_this_nodes z_this_nodes ++ w_Wd k ad_this_words q_this_words_keywords z_this_words) H := hP.sub [22, 0, 1, 2, 3, 4, 5, 6, 7, 8, 9, 10, 11, 12, 13, 14, 15, 16, 17, 18, 19, 20, 21] rfl
        have hD : va_D A (w_Gr k ad_this (ad_this_words 0) (ad_this_names 0) (ad_this_nodes 0) u ++ w_Nm k ad_this_names z_this_names ++ w_Nd k ad_this_nodes z_this_nodes ++ w_Wd k ad_this_words q_this_words_keywords z_this_words) := hD.sub [22, 0, 1, 2, 3, 4, 5, 6, 7, 8, 9, 10, 11, 12, 13, 14, 15, 16, 17, 18, 19, 20, 21] (by decide) rfl
        exact xq_out (u := (u, z_this_names, z_this_nodes, z_this_words)) hex hlocks hAe hP hD hS hw hE (Nat.le_of_ble_eq_true rfl) (Nat.le_of_ble_eq_true rfl)
theorem cw_Gr_readMeasured {R : Room} {s : State} {args : Array Value} {own : String} {index : Nat} (hts : ∀ w ∈ xq_W, w.before args s = true) (hl : .methodLink own index y_Gr_readMeasured ∈ xq_W) {rm : Room} (hR : rm.frames + 1 ≤ R.frames ∧ 8 + (3 + 11) + rm.locals ≤ R.locals) : CallW R s args own "StepText$Grammar" index y_Gr_readMeasured prog_2_method_26_code 3 (some (.int)) (.code y_Gr_readMeasured prog_2_method_26_code 3 (some (.int)) :: xq_W) rm rm.cells rm.slots 0 := ⟨xq_cb 0 hts kw3_90 kw1_11 hl ⟨by decide, by decide, by decide +kernel⟩ hR, hts _ kw3_89, hts _ kp2_9⟩
def y_Gr_operator : MethodName := ⟨"StepText$Grammar", "operator", "(II)I"⟩
theorem d_Gr_operator_0 : decode prog_2_method_21_code 0 = .ok (.iload_n 1, 1) := by decide +kernel
theorem d_Gr_operator_1 : decode prog_2_method_21_code 1 = .ok (.istore_n 3, 1) := by decide +kernel
theorem d_Gr_operator_2 : decode prog_2_method_21_code 2 = .ok (.iload_n 3, 1) := by decide +kernel
theorem d_Gr_operator_3 : decode prog_2_method_21_code 3 = .ok (.iload_n 2, 1) := by decide +kernel
theorem d_Gr_operator_4 : decode prog_2_method_21_code 4 = .ok (.if_icmp .gt 36, 3) := by decide +kernel
theorem d_Gr_operator_7 : decode prog_2_method_21_code 7 = .ok (.iload_n 3, 1) := by decide +kernel
theorem d_Gr_operator_8 : decode prog_2_method_21_code 8 = .ok (.ldc 178, 2) := by decide +kernel
theorem d_Gr_operator_10 : decode prog_2_method_21_code 10 = .ok (.invokevirtual 180, 3) := by decide +kernel
theorem d_Gr_operator_13 : decode prog_2_method_21_code 13 = .ok (.if_icmp .ge 27, 3) := by decide +kernel
theorem d_Gr_operator_16 : decode prog_2_method_21_code 16 = .ok (.ldc 178, 2) := by decide +kernel
theorem d_Gr_operator_18 : decode prog_2_method_21_code 18 = .ok (.iload_n 3, 1) := by decide +kernel
theorem d_Gr_operator_19 : decode prog_2_method_21_code 19 = .ok (.invokevirtual 185, 3) := by decide +kernel
theorem d_Gr_operator_22 : decode prog_2_method_21_code 22 = .ok (.aload_n 0, 1) := by decide +kernel
theorem d_Gr_operator_23 : decode prog_2_method_21_code 23 = .ok (.getfield 9, 3) := by decide +kernel
theorem d_Gr_operator_26 : decode prog_2_method_21_code 26 = .ok (.getfield 44, 3) := by decide +kernel
theorem d_Gr_operator_29 : decode prog_2_method_21_code 29 = .ok (.if_icmp .ne 5, 3) := by decide +kernel
theorem d_Gr_operator_32 : decode prog_2_method_21_code 32 = .ok (.iload_n 3, 1) := by decide +kernel
theorem d_Gr_operator_33 : decode prog_2_method_21_code 33 = .ok (.ireturn, 1) := by decide +kernel
theorem d_Gr_operator_34 : decode prog_2_method_21_code 34 = .ok (.iinc 3 1, 3) := by decide +kernel
theorem d_Gr_operator_37 : decode prog_2_method_21_code 37 = .ok (.goto (-35), 3) := by decide +kernel
theorem d_Gr_operator_40 : decode prog_2_method_21_code 40 = .ok (.iconst (-1), 1) := by decide +kernel
theorem d_Gr_operator_41 : decode prog_2_method_21_code 41 = .ok (.ireturn, 1) := by decide +kernel
def wp_Gr_operator_L2 (z_this : T_Gr) (z_this_words : T_Wd) (K : Int32 → Int32 → Int32 → Prop) (post : Int32 → Unit → Prop) : Nat → Int32 → Int32 → Int32 → Prop
  | 0, _, _, _ => False
  | n9 + 1, x1, x2, x3 => (x2 < x3 → (K x1 x2 x3)) ∧ (¬ x2 < x3 → (((10 : Int32) ≤ x3 → (K x1 x2 x3)) ∧ (¬ (10 : Int32) ≤ x3 → (vp_in x3 10 ∧ (((xq_ch 1 x3) = z_this_words.2.2.2.2.2.2.2.2.2.2.1 → (post x3 ())) ∧ (¬ (xq_ch 1 x3) = z_this_words.2.2.2.2.2.2.2.2.2.2.1 → (wp_Gr_operator_L2 z_this z_this_words K post n9 x1 x2 (x3 + (1 : Int32)))))))))
def wp_Gr_operator (z_this : T_Gr) (z_this_words : T_Wd) (a1 : Int32) (a2 : Int32) (post : Int32 → Unit → Prop) : Prop := ∃ k9 : Nat, wp_Gr_operator_L2 z_this z_this_words (fun (x1 : Int32) (x2 : Int32) (x3 : Int32) => post (-1 : Int32) ()) post k9 a1 a2 a1
def rm_Gr_operator : Room := { frames := 5, cells := 0, slots := 0, locals := 130 }
set_option maxHeartbeats 4000000 in
set_option maxRecDepth 100000 in
theorem t_Gr_operator_L2 {p : Program} {l : Launch} {o : State × Array Value} {e : Env} {s : State} {m : MethodId} {args : Array Value} {below : List Frame} {meth : Method} {c : Code} {D : va_G} {k : Nat → ClassId} {w0 : va_W} {A : Nat → Prop} {ad_this : Nat → Nat} {ad_this_words : Nat → Nat} {q_this_names : Nat} {q_this_nodes : Nat} {q_this_words_keywords : Nat} {z_this : T_Gr} {z_this_words : T_Wd} {post : Int32 → Unit → Prop} (hAt : xq_At p s m args meth c prog_2_method_21_code 4 (some (.int)) y_Gr_operator xq_W) (hK : va_K D vwCl (xt k) s) (hJ : xq_J l o A s s.heap) (hAe : va_A w0 s.heap.size = A) (hA : ∀ q, s.heap.size ≤ q → A q) {K : Int32 → Int32 → Int32 → Prop} (hX : ∀ (x1 : Int32) (x2 : Int32) (x3 : Int32) (H : Heap) (locs : List Loc) (ls : Array Slot), lv_has ls 4 [(0, .ref (ad_this 0)), (1, .int x1), (2, .int x2), (3, .int x3)] → va_P D vwCl (w_Gr k ad_this (ad_this_words 0) q_this_names q_this_nodes z_this ++ w_Wd k ad_this_words q_this_words_keywords z_this_words) H → va_D A (w_Gr k ad_this (ad_this_words 0) q_this_names q_this_nodes z_this ++ w_Wd k ad_this_words q_this_words_keywords z_this_words) → va_S A s.heap H locs → K x1 x2 x3 → W p l e rm_Gr_operator s m args below meth c H locs 0 0 (xq_Z below D vwCl (xt k) w0 (fun r : Int32 => some (.int r)) post (fun _ : Unit => False) (fun u : Unit => w_Gr k ad_this (ad_this_words 0) q_this_names q_this_nodes z_this ++ w_Wd k ad_this_words q_this_words_keywords z_this_words) 0 0 0 0 s) (F0 m 40 ls [])) :
    ∀ (n9 : Nat) (x1 : Int32) (x2 : Int32) (x3 : Int32) (H : Heap) (locs : List Loc) (ls : Array Slot), lv_has ls 4 [(0, .ref (ad_this 0)), (1, .int x1), (2, .int x2), (3, .int x3)] → va_P D vwCl (w_Gr k ad_this (ad_this_words 0) q_this_names q_this_nodes z_this ++ w_Wd k ad_this_words q_this_words_keywords z_this_words) H → va_D A (w_Gr k ad_this (ad_this_words 0) q_this_names q_this_nodes z_this ++ w_Wd k ad_this_words q_this_words_keywords z_this_words) → va_S A s.heap H locs → wp_Gr_operator_L2 z_this z_this_words K post n9 x1 x2 x3 → W p l e rm_Gr_operator s m args below meth c H locs 0 0 (xq_Z below D vwCl (xt k) w0 (fun r : Int32 => some (.int r)) post (fun _ : Unit => False) (fun u : Unit => w_Gr k ad_this (ad_this_words 0) q_this_names q_this_nodes z_this ++ w_Wd k ad_this_words q_this_words_keywords z_this_words) 0 0 0 0 s) (F0 m 2 ls []) := by
  obtain ⟨hx, hb, hml, hr, hlocks, hown, hts, hex, hnm⟩ := id hAt
  intro n9
  induction n9 with
  | zero => intro x1 x2 x3 H locs ls hl hP hD hS hw; exact False.elim (by rw [wp_Gr_operator_L2] at hw; exact hw)
  | succ n9 ih =>
    intro x1 x2 x3 H locs ls hl hP hD hS hw
    rw [wp_Gr_operator_L2] at hw
    refine lv_iload_n hx hb d_Gr_operator_2 rfl (lv_at hl 3 rfl) ?_
    refine lv_iload_n hx hb d_Gr_operator_3 rfl (lv_at hl 2 rfl) ?_
    refine lv_icmp_gt (tgt := 40) hx hb d_Gr_operator_4 (by decide) (fun hc => ?_) (fun hc => ?_)
    · have hw := hw.1 hc
      exact hX x1 x2 x3 H locs ls (lv_sub hl [0, 1, 2, 3] rfl) hP hD hS hw
    · have hw := hw.2 hc
      refine lv_iload_n hx hb d_Gr_operator_7 rfl (lv_at hl 3 rfl) ?_
      refine va_ldcS hx hb hown (xq_sR1 hJ) d_Gr_operator_8 ?_
      refine xq_go (wr := w_Gr k ad_this (ad_this_words 0) q_this_names q_this_nodes z_this ++ w_Wd k ad_this_words q_this_words_keywords z_this_words) (stk := fun r => .int r :: [.int x3]) (xq_runV (As := []) (rest := [.int x3]) ⟨hx, hb, hml, hown, hts⟩ (c_Jlen (l := l) (o := o) (D := D) (k := k) (i := 1) (post := fun r _ => r = (10 : Int32)) (by decide) (by decide)) (cw_Jlen hts kw3_96 ⟨Nat.le_of_ble_eq_true rfl, Nat.le_of_ble_eq_true rfl⟩) (xq_srec hJ (by decide) hS) (hP.sub [] rfl) hK hJ hS (va_free hD hS hA [] rfl) ((hD.sub [] (by decide) rfl).weaken (fun _ _ _ _ => trivial)) rfl hl.1 (Nat.le_of_ble_eq_true rfl) d_Gr_operator_10 ⟨Nat.le_of_ble_eq_true rfl, Nat.le_of_ble_eq_true rfl⟩) hP hD hS hA [] [0, 1, 2, 3, 4, 5, 6] rfl rfl (by decide) (by decide) (fun _ => rfl) (fun r1 u1 H locs hr1 hP hD hS => ?_) (fun _ _ _ _ h9 => h9.elim)
      subst hr1
      have hP : va_P D vwCl (w_Gr k ad_this (ad_this_words 0) q_this_names q_this_nodes z_this ++ w_Wd k ad_this_words q_this_words_keywords z_this_words) H := hP.sub [0, 1, 2, 3, 4, 5, 6] rfl
      have hD : va_D A (w_Gr k ad_this (ad_this_words 0) q_this_names q_this_nodes z_this ++ w_Wd k ad_this_words q_this_words_keywords z_this_words) := hD.sub [0, 1, 2, 3, 4, 5, 6] (by decide) rfl
      refine lv_icmp_ge (tgt := 40) hx hb d_Gr_operator_13 (by decide) (fun hc => ?_) (fun hc => ?_)
      · have hw := hw.1 hc
        exact hX x1 x2 x3 H locs ls (lv_sub hl [0, 1, 2, 3] rfl) hP hD hS hw
      · have hw := hw.2 hc
        refine va_ldcS hx hb hown (xq_sR1 hJ) d_Gr_operator_16 ?_
        refine lv_iload_n hx hb d_Gr_operator_18 rfl (lv_at hl 3 rfl) ?_
        refine xq_go (wr := w_Gr k ad_this (ad_this_words 0) q_this_names q_this_nodes z_this ++ w_Wd k ad_this_words q_this_words_keywords z_this_words) (stk := fun r => .int r :: []) (xq_runV (As := [.int x3]) (rest := []) ⟨hx, hb, hml, hown, hts⟩ (c_Jchar (l := l) (o := o) (D := D) (k := k) (i := 1) (j := x3) (post := fun r _ => r = (xq_ch 1 x3)) (by decide) hw.1 rfl) (cw_Jchar hts kw3_97 ⟨Nat.le_of_ble_eq_true rfl, Nat.le_of_ble_eq_true rfl⟩) (xq_srec hJ (by decide) hS) (hP.sub [] rfl) hK hJ hS (va_free hD hS hA [] rfl) ((hD.sub [] (by decide) rfl).weaken (fun _ _ _ _ => trivial)) rfl hl.1 (Nat.le_of_ble_eq_true rfl) d_Gr_operator_19 ⟨Nat.le_of_ble_eq_true rfl, Nat.le_of_ble_eq_true rfl⟩) hP hD hS hA [] [0, 1, 2, 3, 4, 5, 6] rfl rfl (by decide) (by decide) (fun _ => rfl) (fun r2 u2 H locs hr2 hP hD hS => ?_) (fun _ _ _ _ h9 => h9.elim)
        subst hr2
        have hP : va_P D vwCl (w_Gr k ad_this (ad_this_words 0) q_this_names q_this_nodes z_this ++ w_Wd k ad_this_words q_this_words_keywords z_this_words) H := hP.sub [0, 1, 2, 3, 4, 5, 6] rfl
        have hD : va_D A (w_Gr k ad_this (ad_this_words 0) q_this_names q_this_nodes z_this ++ w_Wd k ad_this_words q_this_words_keywords z_this_words) := hD.sub [0, 1, 2, 3, 4, 5, 6] (by decide) rfl
        have hw := hw.2
        refine lv_aload_n hx hb d_Gr_operator_22 rfl (lv_at hl 0 rfl) ?_
        refine va_get (D := D) (ci := 6) (v := .ref (ad_this_words 0)) (C := R_Gr) (T := F_Gr) (N := 4) hx hb hts in_Gr hown hK hP 0 rfl rfl 0 (by decide) (hts (.fieldLink R_Gr 9 R_Gr "words" "LStepText$Words;") kw2_7) (fun _ h9 => h9) rfl d_Gr_operator_23 ?_
        refine va_get (D := D) (ci := 2) (v := .int z_this_words.2.2.2.2.2.2.2.2.2.2.1) (C := R_Wd) (T := F_Wd) (N := 15) hx hb hts in_Wd hown hK hP 1 rfl rfl 11 (by decide) (hts (.fieldLink R_Gr 44 R_Wd "code" "I") kw1_108) (fun _ h9 => h9) rfl d_Gr_operator_26 ?_
        refine lv_icmp_ne (tgt := 34) hx hb d_Gr_operator_29 (by decide) (fun hc => ?_) (fun hc => ?_)
        · have hw := hw.2 hc
          refine lv_iinc (v := (x3 + (1 : Int32))) (lv' := [(3, .int (x3 + (1 : Int32))), (0, .ref (ad_this 0)), (1, .int x1), (2, .int x2)]) hx hb d_Gr_operator_34 hl (k := 3) rfl rfl (by decide) rfl (fun ls hl => ?_)
          refine lv_goto (tgt := 2) hx hb d_Gr_operator_37 (by decide) ?_
          exact ih x1 x2 (x3 + (1 : Int32)) H locs ls (lv_sub hl [1, 2, 3, 0] rfl) hP hD hS hw
        · have hw := hw.1 hc
          refine lv_iload_n hx hb d_Gr_operator_32 rfl (lv_at hl 3 rfl) ?_
          exact xq_iret (r := x3) (u := ()) hx hb hr hlocks hAe hP hD hS rfl hw (Nat.le_of_ble_eq_true rfl) (Nat.le_of_ble_eq_true rfl) d_Gr_operator_33
set_option maxHeartbeats 4000000 in
set_option maxRecDepth 100000 in
theorem c_Gr_operator {l : Launch} {o : State × Array Value} {D : va_G} {k : Nat → ClassId} {ad_this : Nat → Nat} {ad_this_words : Nat → Nat} {q_this_names : Nat} {q_this_nodes : Nat} {q_this_words_keywords : Nat} {z_this : T_Gr} {z_this_words : T_Wd} {a1 : Int32} {a2 : Int32} {post : Int32 → Unit → Prop} (hw : wp_Gr_operator z_this z_this_words a1 a2 post) : xq_C l o y_Gr_operator (.code y_Gr_operator prog_2_method_21_code 4 (some (.int)) :: xq_W) rm_Gr_operator D vwCl (xt k) [.ref (ad_this 0), .int a1, .int a2] (w_Gr k ad_this (ad_this_words 0) q_this_names q_this_nodes z_this ++ w_Wd k ad_this_words q_this_words_keywords z_this_words) (fun r : Int32 => some (.int r)) post (fun _ : Unit => False) (fun u : Unit => w_Gr k ad_this (ad_this_words 0) q_this_names q_this_nodes z_this ++ w_Wd k ad_this_words q_this_words_keywords z_this_words) 0 0 0 0 := by
  refine xq_ofW (cc := prog_2_method_21_code) (maxL := 4) (ret := (some (.int))) (by decide) rfl (Nat.le_of_ble_eq_true rfl) ?_
  intro p e s m below meth c ls H locs A hAt hAe hA hl hK hJ hP0 hP hD hS
  obtain ⟨hx, hb, hml, hr, hlocks, hown, hts, hex, hnm⟩ := id hAt
  have hl : lv_has ls 4 [(0, .ref (ad_this 0)), (1, .int a1), (2, .int a2)] := hl
  unfold wp_Gr_operator at hw
  refine lv_iload_n hx hb d_Gr_operator_0 rfl (lv_at hl 1 rfl) ?_
  refine lv_istore_n (lv' := [(3, .int a1), (0, .ref (ad_this 0)), (1, .int a1), (2, .int a2)]) hx hb d_Gr_operator_1 rfl hl (by decide) rfl (fun ls hl => ?_)
  obtain ⟨k9, hw⟩ := hw
  refine t_Gr_operator_L2 hAt hK hJ hAe hA ?_ k9 a1 a2 a1 H locs ls (lv_sub hl [1, 2, 3, 0] rfl) hP hD hS hw
  intro x1 x2 x3 H locs ls hl hP hD hS hw
  refine lv_iconst (v := (-1 : Int32)) hx hb d_Gr_operator_40 (by decide) ?_
  exact xq_iret (r := (-1 : Int32)) (u := ()) hx hb hr hlocks hAe hP hD hS rfl hw (Nat.le_of_ble_eq_true rfl) (Nat.le_of_ble_eq_true rfl) d_Gr_operator_41
theorem cw_Gr_operator {R : Room} {s : State} {args : Array Value} {own : String} {index : Nat} (hts : ∀ w ∈ xq_W, w.before args s = true) (hl : .methodLink own index y_Gr_operator ∈ xq_W) {rm : Room} (hR : rm.frames + 1 ≤ R.frames ∧ 8 + (4 + 11) + rm.locals ≤ R.locals) : CallW R s args own "StepText$Grammar" index y_Gr_operator prog_2_method_21_code 4 (some (.int)) (.code y_Gr_operator prog_2_method_21_code 4 (some (.int)) :: xq_W) rm rm.cells rm.slots 2 := ⟨xq_cb 2 hts kw3_94 kw1_11 hl ⟨by decide, by decide, by decide +kernel⟩ hR, hts _ kw3_93, hts _ kp2_10⟩
def y_Gr_joined : MethodName := ⟨"StepText$Grammar", "joined", "(III)I"⟩
theorem d_Gr_joined_0 : decode prog_2_method_23_code 0 = .ok (.iload_n 0, 1) := by decide +kernel
theorem d_Gr_joined_1 : decode prog_2_method_23_code 1 = .ok (.iconst 4, 1) := by decide +kernel
theorem d_Gr_joined_2 : decode prog_2_method_23_code 2 = .ok (.if_icmp .ne 9, 3) := by decide +kernel
theorem d_Gr_joined_5 : decode prog_2_method_23_code 5 = .ok (.iload_n 1, 1) := by decide +kernel
theorem d_Gr_joined_6 : decode prog_2_method_23_code 6 = .ok (.ifCond .ne 5, 3) := by decide +kernel
theorem d_Gr_joined_9 : decode prog_2_method_23_code 9 = .ok (.iload_n 2, 1) := by decide +kernel
theorem d_Gr_joined_10 : decode prog_2_method_23_code 10 = .ok (.ireturn, 1) := by decide +kernel
theorem d_Gr_joined_11 : decode prog_2_method_23_code 11 = .ok (.iload_n 0, 1) := by decide +kernel
theorem d_Gr_joined_12 : decode prog_2_method_23_code 12 = .ok (.iconst 4, 1) := by decide +kernel
theorem d_Gr_joined_13 : decode prog_2_method_23_code 13 = .ok (.if_icmp .eq 8, 3) := by decide +kernel
theorem d_Gr_joined_16 : decode prog_2_method_23_code 16 = .ok (.iload_n 0, 1) := by decide +kernel
theorem d_Gr_joined_17 : decode prog_2_method_23_code 17 = .ok (.iconst 5, 1) := by decide +kernel
theorem d_Gr_joined_18 : decode prog_2_method_23_code 18 = .ok (.if_icmp .ne 9, 3) := by decide +kernel
theorem d_Gr_joined_21 : decode prog_2_method_23_code 21 = .ok (.iload_n 2, 1) := by decide +kernel
theorem d_Gr_joined_22 : decode prog_2_method_23_code 22 = .ok (.ifCond .ne 5, 3) := by decide +kernel
theorem d_Gr_joined_25 : decode prog_2_method_23_code 25 = .ok (.iload_n 1, 1) := by decide +kernel
theorem d_Gr_joined_26 : decode prog_2_method_23_code 26 = .ok (.ireturn, 1) := by decide +kernel
theorem d_Gr_joined_27 : decode prog_2_method_23_code 27 = .ok (.iload_n 0, 1) := by decide +kernel
theorem d_Gr_joined_28 : decode prog_2_method_23_code 28 = .ok (.iconst 4, 1) := by decide +kernel
theorem d_Gr_joined_29 : decode prog_2_method_23_code 29 = .ok (.if_icmp .eq 8, 3) := by decide +kernel
theorem d_Gr_joined_32 : decode prog_2_method_23_code 32 = .ok (.iload_n 1, 1) := by decide +kernel
theorem d_Gr_joined_33 : decode prog_2_method_23_code 33 = .ok (.iload_n 2, 1) := by decide +kernel
theorem d_Gr_joined_34 : decode prog_2_method_23_code 34 = .ok (.if_icmp .eq 5, 3) := by decide +kernel
theorem d_Gr_joined_37 : decode prog_2_method_23_code 37 = .ok (.iconst (-1), 1) := by decide +kernel
theorem d_Gr_joined_38 : decode prog_2_method_23_code 38 = .ok (.ireturn, 1) := by decide +kernel
theorem d_Gr_joined_39 : decode prog_2_method_23_code 39 = .ok (.iload_n 0, 1) := by decide +kernel
theorem d_Gr_joined_40 : decode prog_2_method_23_code 40 = .ok (.iconst 5, 1) := by decide +kernel
theorem d_Gr_joined_41 : decode prog_2_method_23_code 41 = .ok (.if_icmp .ne 7, 3) := by decide +kernel
theorem d_Gr_joined_44 : decode prog_2_method_23_code 44 = .ok (.iconst 0, 1) := by decide +kernel
theorem d_Gr_joined_45 : decode prog_2_method_23_code 45 = .ok (.goto 4, 3) := by decide +kernel
theorem d_Gr_joined_48 : decode prog_2_method_23_code 48 = .ok (.iload_n 1, 1) := by decide +kernel
theorem d_Gr_joined_49 : decode prog_2_method_23_code 49 = .ok (.ireturn, 1) := by decide +kernel
def wp_Gr_joined (a0 : Int32) (a1 : Int32) (a2 : Int32) (post : Int32 → Unit → Prop) : Prop := (a0 = (4 : Int32) → ((a1 = 0 → (post a2 ())) ∧ (¬ a1 = 0 → ((a0 = (4 : Int32) → ((a2 = 0 → (post a1 ())) ∧ (¬ a2 = 0 → ((a0 = (4 : Int32) → (post (-1 : Int32) ())) ∧ (¬ a0 = (4 : Int32) → ((a1 = a2 → ((a0 = (5 : Int32) → (post (0 : Int32) ())) ∧ (¬ a0 = (5 : Int32) → (post a1 ())))) ∧ (¬ a1 = a2 → (post (-1 : Int32) ())))))))) ∧ (¬ a0 = (4 : Int32) → ((a0 = (5 : Int32) → ((a2 = 0 → (post a1 ())) ∧ (¬ a2 = 0 → ((a0 = (4 : Int32) → (post (-1 : Int32) ())) ∧ (¬ a0 = (4 : Int32) → ((a1 = a2 → ((a0 = (5 : Int32) → (post (0 : Int32) ())) ∧ (¬ a0 = (5 : Int32) → (post a1 ())))) ∧ (¬ a1 = a2 → (post (-1 : Int32) ())))))))) ∧ (¬ a0 = (5 : Int32) → ((a0 = (4 : Int32) → (post (-1 : Int32) ())) ∧ (¬ a0 = (4 : Int32) → ((a1 = a2 → ((a0 = (5 : Int32) → (post (0 : Int32) ())) ∧ (¬ a0 = (5 : Int32) → (post a1 ())))) ∧ (¬ a1 = a2 → (post (-1 : Int32) ())))))))))))) ∧ (¬ a0 = (4 : Int32) → ((a0 = (4 : Int32) → ((a2 = 0 → (post a1 ())) ∧ (¬ a2 = 0 → ((a0 = (4 : Int32) → (post (-1 : Int32) ())) ∧ (¬ a0 = (4 : Int32) → ((a1 = a2 → ((a0 = (5 : Int32) → (post (0 : Int32) ())) ∧ (¬ a0 = (5 : Int32) → (post a1 ())))) ∧ (¬ a1 = a2 → (post (-1 : Int32) ())))))))) ∧ (¬ a0 = (4 : Int32) → ((a0 = (5 : Int32) → ((a2 = 0 → (post a1 ())) ∧ (¬ a2 = 0 → ((a0 = (4 : Int32) → (post (-1 : Int32) ())) ∧ (¬ a0 = (4 : Int32) → ((a1 = a2 → ((a0 = (5 : Int32) → (post (0 : Int32) ())) ∧ (¬ a0 = (5 : Int32) → (post a1 ())))) ∧ (¬ a1 = a2 → (post (-1 : Int32) ())))))))) ∧ (¬ a0 = (5 : Int32) → ((a0 = (4 : Int32) → (post (-1 : Int32) ())) ∧ (¬ a0 = (4 : Int32) → ((a1 = a2 → ((a0 = (5 : Int32) → (post (0 : Int32) ())) ∧ (¬ a0 = (5 : Int32) → (post a1 ())))) ∧ (¬ a1 = a2 → (post (-1 : Int32) ()))))))))))
def rm_Gr_joined : Room := { frames := 0, cells := 0, slots := 0, locals := 0 }
set_option maxHeartbeats 4000000 in
set_option maxRecDepth 100000 in
theorem c_Gr_joined {l : Launch} {o : State × Array Value} {D : va_G} {k : Nat → ClassId} {a0 : Int32} {a1 : Int32} {a2 : Int32} {post : Int32 → Unit → Prop} (hw : wp_Gr_joined a0 a1 a2 post) : xq_C l o y_Gr_joined (.code y_Gr_joined prog_2_method_23_code 3 (some (.int)) :: xq_W) rm_Gr_joined D vwCl (xt k) [.int a0, .int a1, .int a2] (([] : va_W)) (fun r : Int32 => some (.int r)) post (fun _ : Unit => False) (fun u : Unit => ([] : va_W)) 0 0 0 0 := by
  refine xq_ofW (cc := prog_2_method_23_code) (maxL := 3) (ret := (some (.int))) (by decide) rfl (Nat.le_of_ble_eq_true rfl) ?_
  intro p e s m below meth c ls H locs A hAt hAe hA hl hK hJ hP0 hP hD hS
  obtain ⟨hx, hb, hml, hr, hlocks, hown, hts, hex, hnm⟩ := id hAt
  have hl : lv_has ls 3 [(0, .int a0), (1, .int a1), (2, .int a2)] := hl
  unfold wp_Gr_joined at hw
  refine lv_iload_n hx hb d_Gr_joined_0 rfl (lv_at hl 0 rfl) ?_
  refine lv_iconst (v := (4 : Int32)) hx hb d_Gr_joined_1 (by decide) ?_
  refine lv_icmp_ne (tgt := 11) hx hb d_Gr_joined_2 (by decide) (fun hc => ?_) (fun hc => ?_)
  · have hw := hw.2 hc
    refine lv_iload_n hx hb d_Gr_joined_11 rfl (lv_at hl 0 rfl) ?_
    refine lv_iconst (v := (4 : Int32)) hx hb d_Gr_joined_12 (by decide) ?_
    refine lv_icmp_eq (tgt := 21) hx hb d_Gr_joined_13 (by decide) (fun hc => ?_) (fun hc => ?_)
    · have hw := hw.1 hc
      refine lv_iload_n hx hb d_Gr_joined_21 rfl (lv_at hl 2 rfl) ?_
      refine lv_if_ne (tgt := 27) hx hb d_Gr_joined_22 (by decide) (fun hc => ?_) (fun hc => ?_)
      · have hw := hw.2 hc
        refine lv_iload_n hx hb d_Gr_joined_27 rfl (lv_at hl 0 rfl) ?_
        refine lv_iconst (v := (4 : Int32)) hx hb d_Gr_joined_28 (by decide) ?_
        refine lv_icmp_eq (tgt := 37) hx hb d_Gr_joined_29 (by decide) (fun hc => ?_) (fun hc => ?_)
        · have hw := hw.1 hc
          refine lv_iconst (v := (-1 : Int32)) hx hb d_Gr_joined_37 (by decide) ?_
          exact xq_iret (r := (-1 : Int32)) (u := ()) hx hb hr hlocks hAe hP hD hS rfl hw (Nat.le_of_ble_eq_true rfl) (Nat.le_of_ble_eq_true rfl) d_Gr_joined_38
        · have hw := hw.2 hc
          refine lv_iload_n hx hb d_Gr_joined_32 rfl (lv_at hl 1 rfl) ?_
          refine lv_iload_n hx hb d_Gr_joined_33 rfl (lv_at hl 2 rfl) ?_
          refine lv_icmp_eq (tgt := 39) hx hb d_Gr_joined_34 (by decide) (fun hc => ?_) (fun hc => ?_)
          · have hw := hw.1 hc
            refine lv_iload_n hx hb d_Gr_joined_39 rfl (lv_at hl 0 rfl) ?_
            refine lv_iconst (v := (5 : Int32)) hx hb d_Gr_joined_40 (by decide) ?_
            refine lv_icmp_ne (tgt := 48) hx hb d_Gr_joined_41 (by decide) (fun hc => ?_) (fun hc => ?_)
            · have hw := hw.2 hc
              refine lv_iload_n hx hb d_Gr_joined_48 rfl (lv_at hl 1 rfl) ?_
              exact xq_iret (r := a1) (u := ()) hx hb hr hlocks hAe hP hD hS rfl hw (Nat.le_of_ble_eq_true rfl) (Nat.le_of_ble_eq_true rfl) d_Gr_joined_49
            · have hw := hw.1 hc
              refine lv_iconst (v := (0 : Int32)) hx hb d_Gr_joined_44 (by decide) ?_
              refine lv_goto (tgt := 49) hx hb d_Gr_joined_45 (by decide) ?_
              exact xq_iret (r := (0 : Int32)) (u := ()) hx hb hr hlocks hAe hP hD hS rfl hw (Nat.le_of_ble_eq_true rfl) (Nat.le_of_ble_eq_true rfl) d_Gr_joined_49
          · have hw := hw.2 hc
            refine lv_iconst (v := (-1 : Int32)) hx hb d_Gr_joined_37 (by decide) ?_
            exact xq_iret (r := (-1 : Int32)) (u := ()) hx hb hr hlocks hAe hP hD hS rfl hw (Nat.le_of_ble_eq_true rfl) (Nat.le_of_ble_eq_true rfl) d_Gr_joined_38
      · have hw := hw.1 hc
        refine lv_iload_n hx hb d_Gr_joined_25 rfl (lv_at hl 1 rfl) ?_
        exact xq_iret (r := a1) (u := ()) hx hb hr hlocks hAe hP hD hS rfl hw (Nat.le_of_ble_eq_true rfl) (Nat.le_of_ble_eq_true rfl) d_Gr_joined_26
    · have hw := hw.2 hc
      refine lv_iload_n hx hb d_Gr_joined_16 rfl (lv_at hl 0 rfl) ?_
      refine lv_iconst (v := (5 : Int32)) hx hb d_Gr_joined_17 (by decide) ?_
      refine lv_icmp_ne (tgt := 27) hx hb d_Gr_joined_18 (by decide) (fun hc => ?_) (fun hc => ?_)
      · have hw := hw.2 hc
        refine lv_iload_n hx hb d_Gr_joined_27 rfl (lv_at hl 0 rfl) ?_
        refine lv_iconst (v := (4 : Int32)) hx hb d_Gr_joined_28 (by decide) ?_
        refine lv_icmp_eq (tgt := 37) hx hb d_Gr_joined_29 (by decide) (fun hc => ?_) (fun hc => ?_)
        · have hw := hw.1 hc
          refine lv_iconst (v := (-1 : Int32)) hx hb d_Gr_joined_37 (by decide) ?_
          exact xq_iret (r := (-1 : Int32)) (u := ()) hx hb hr hlocks hAe hP hD hS rfl hw (Nat.le_of_ble_eq_true rfl) (Nat.le_of_ble_eq_true rfl) d_Gr_joined_38
        · have hw := hw.2 hc
          refine lv_iload_n hx hb d_Gr_joined_32 rfl (lv_at hl 1 rfl) ?_
          refine lv_iload_n hx hb d_Gr_joined_33 rfl (lv_at hl 2 rfl) ?_
          refine lv_icmp_eq (tgt := 39) hx hb d_Gr_joined_34 (by decide) (fun hc => ?_) (fun hc => ?_)
          · have hw := hw.1 hc
            refine lv_iload_n hx hb d_Gr_joined_39 rfl (lv_at hl 0 rfl) ?_
            refine lv_iconst (v := (5 : Int32)) hx hb d_Gr_joined_40 (by decide) ?_
            refine lv_icmp_ne (tgt := 48) hx hb d_Gr_joined_41 (by decide) (fun hc => ?_) (fun hc => ?_)
            · have hw := hw.2 hc
              refine lv_iload_n hx hb d_Gr_joined_48 rfl (lv_at hl 1 rfl) ?_
              exact xq_iret (r := a1) (u := ()) hx hb hr hlocks hAe hP hD hS rfl hw (Nat.le_of_ble_eq_true rfl) (Nat.le_of_ble_eq_true rfl) d_Gr_joined_49
            · have hw := hw.1 hc
              refine lv_iconst (v := (0 : Int32)) hx hb d_Gr_joined_44 (by decide) ?_
              refine lv_goto (tgt := 49) hx hb d_Gr_joined_45 (by decide) ?_
              exact xq_iret (r := (0 : Int32)) (u := ()) hx hb hr hlocks hAe hP hD hS rfl hw (Nat.le_of_ble_eq_true rfl) (Nat.le_of_ble_eq_true rfl) d_Gr_joined_49
          · have hw := hw.2 hc
            refine lv_iconst (v := (-1 : Int32)) hx hb d_Gr_joined_37 (by decide) ?_
            exact xq_iret (r := (-1 : Int32)) (u := ()) hx hb hr hlocks hAe hP hD hS rfl hw (Nat.le_of_ble_eq_true rfl) (Nat.le_of_ble_eq_true rfl) d_Gr_joined_38
      · have hw := hw.1 hc
        refine lv_iload_n hx hb d_Gr_joined_21 rfl (lv_at hl 2 rfl) ?_
        refine lv_if_ne (tgt := 27) hx hb d_Gr_joined_22 (by decide) (fun hc => ?_) (fun hc => ?_)
        · have hw := hw.2 hc
          refine lv_iload_n hx hb d_Gr_joined_27 rfl (lv_at hl 0 rfl) ?_
          refine lv_iconst (v := (4 : Int32)) hx hb d_Gr_joined_28 (by decide) ?_
          refine lv_icmp_eq (tgt := 37) hx hb d_Gr_joined_29 (by decide) (fun hc => ?_) (fun hc => ?_)
          · have hw := hw.1 hc
            refine lv_iconst (v := (-1 : Int32)) hx hb d_Gr_joined_37 (by decide) ?_
            exact xq_iret (r := (-1 : Int32)) (u := ()) hx hb hr hlocks hAe hP hD hS rfl hw (Nat.le_of_ble_eq_true rfl) (Nat.le_of_ble_eq_true rfl) d_Gr_joined_38
          · have hw := hw.2 hc
            refine lv_iload_n hx hb d_Gr_joined_32 rfl (lv_at hl 1 rfl) ?_
            refine lv_iload_n hx hb d_Gr_joined_33 rfl (lv_at hl 2 rfl) ?_
            refine lv_icmp_eq (tgt := 39) hx hb d_Gr_joined_34 (by decide) (fun hc => ?_) (fun hc => ?_)
            · have hw := hw.1 hc
              refine lv_iload_n hx hb d_Gr_joined_39 rfl (lv_at hl 0 rfl) ?_
              refine lv_iconst (v := (5 : Int32)) hx hb d_Gr_joined_40 (by decide) ?_
              refine lv_icmp_ne (tgt := 48) hx hb d_Gr_joined_41 (by decide) (fun hc => ?_) (fun hc => ?_)
              · have hw := hw.2 hc
                refine lv_iload_n hx hb d_Gr_joined_48 rfl (lv_at hl 1 rfl) ?_
                exact xq_iret (r := a1) (u := ()) hx hb hr hlocks hAe hP hD hS rfl hw (Nat.le_of_ble_eq_true rfl) (Nat.le_of_ble_eq_true rfl) d_Gr_joined_49
              · have hw := hw.1 hc
                refine lv_iconst (v := (0 : Int32)) hx hb d_Gr_joined_44 (by decide) ?_
                refine lv_goto (tgt := 49) hx hb d_Gr_joined_45 (by decide) ?_
                exact xq_iret (r := (0 : Int32)) (u := ()) hx hb hr hlocks hAe hP hD hS rfl hw (Nat.le_of_ble_eq_true rfl) (Nat.le_of_ble_eq_true rfl) d_Gr_joined_49
            · have hw := hw.2 hc
              refine lv_iconst (v := (-1 : Int32)) hx hb d_Gr_joined_37 (by decide) ?_
              exact xq_iret (r := (-1 : Int32)) (u := ()) hx hb hr hlocks hAe hP hD hS rfl hw (Nat.le_of_ble_eq_true rfl) (Nat.le_of_ble_eq_true rfl) d_Gr_joined_38
        · have hw := hw.1 hc
          refine lv_iload_n hx hb d_Gr_joined_25 rfl (lv_at hl 1 rfl) ?_
          exact xq_iret (r := a1) (u := ()) hx hb hr hlocks hAe hP hD hS rfl hw (Nat.le_of_ble_eq_true rfl) (Nat.le_of_ble_eq_true rfl) d_Gr_joined_26
  · have hw := hw.1 hc
    refine lv_iload_n hx hb d_Gr_joined_5 rfl (lv_at hl 1 rfl) ?_
    refine lv_if_ne (tgt := 11) hx hb d_Gr_joined_6 (by decide) (fun hc => ?_) (fun hc => ?_)
    · have hw := hw.2 hc
      refine lv_iload_n hx hb d_Gr_joined_11 rfl (lv_at hl 0 rfl) ?_
      refine lv_iconst (v := (4 : Int32)) hx hb d_Gr_joined_12 (by decide) ?_
      refine lv_icmp_eq (tgt := 21) hx hb d_Gr_joined_13 (by decide) (fun hc => ?_) (fun hc => ?_)
      · have hw := hw.1 hc
        refine lv_iload_n hx hb d_Gr_joined_21 rfl (lv_at hl 2 rfl) ?_
        refine lv_if_ne (tgt := 27) hx hb d_Gr_joined_22 (by decide) (fun hc => ?_) (fun hc => ?_)
        · have hw := hw.2 hc
          refine lv_iload_n hx hb d_Gr_joined_27 rfl (lv_at hl 0 rfl) ?_
          refine lv_iconst (v := (4 : Int32)) hx hb d_Gr_joined_28 (by decide) ?_
          refine lv_icmp_eq (tgt := 37) hx hb d_Gr_joined_29 (by decide) (fun hc => ?_) (fun hc => ?_)
          · have hw := hw.1 hc
            refine lv_iconst (v := (-1 : Int32)) hx hb d_Gr_joined_37 (by decide) ?_
            exact xq_iret (r := (-1 : Int32)) (u := ()) hx hb hr hlocks hAe hP hD hS rfl hw (Nat.le_of_ble_eq_true rfl) (Nat.le_of_ble_eq_true rfl) d_Gr_joined_38
          · have hw := hw.2 hc
            refine lv_iload_n hx hb d_Gr_joined_32 rfl (lv_at hl 1 rfl) ?_
            refine lv_iload_n hx hb d_Gr_joined_33 rfl (lv_at hl 2 rfl) ?_
            refine lv_icmp_eq (tgt := 39) hx hb d_Gr_joined_34 (by decide) (fun hc => ?_) (fun hc => ?_)
            · have hw := hw.1 hc
              refine lv_iload_n hx hb d_Gr_joined_39 rfl (lv_at hl 0 rfl) ?_
              refine lv_iconst (v := (5 : Int32)) hx hb d_Gr_joined_40 (by decide) ?_
              refine lv_icmp_ne (tgt := 48) hx hb d_Gr_joined_41 (by decide) (fun hc => ?_) (fun hc => ?_)
              · have hw := hw.2 hc
                refine lv_iload_n hx hb d_Gr_joined_48 rfl (lv_at hl 1 rfl) ?_
                exact xq_iret (r := a1) (u := ()) hx hb hr hlocks hAe hP hD hS rfl hw (Nat.le_of_ble_eq_true rfl) (Nat.le_of_ble_eq_true rfl) d_Gr_joined_49
              · have hw := hw.1 hc
                refine lv_iconst (v := (0 : Int32)) hx hb d_Gr_joined_44 (by decide) ?_
                refine lv_goto (tgt := 49) hx hb d_Gr_joined_45 (by decide) ?_
                exact xq_iret (r := (0 : Int32)) (u := ()) hx hb hr hlocks hAe hP hD hS rfl hw (Nat.le_of_ble_eq_true rfl) (Nat.le_of_ble_eq_true rfl) d_Gr_joined_49
            · have hw := hw.2 hc
              refine lv_iconst (v := (-1 : Int32)) hx hb d_Gr_joined_37 (by decide) ?_
              exact xq_iret (r := (-1 : Int32)) (u := ()) hx hb hr hlocks hAe hP hD hS rfl hw (Nat.le_of_ble_eq_true rfl) (Nat.le_of_ble_eq_true rfl) d_Gr_joined_38
        · have hw := hw.1 hc
          refine lv_iload_n hx hb d_Gr_joined_25 rfl (lv_at hl 1 rfl) ?_
          exact xq_iret (r := a1) (u := ()) hx hb hr hlocks hAe hP hD hS rfl hw (Nat.le_of_ble_eq_true rfl) (Nat.le_of_ble_eq_true rfl) d_Gr_joined_26
      · have hw := hw.2 hc
        refine lv_iload_n hx hb d_Gr_joined_16 rfl (lv_at hl 0 rfl) ?_
        refine lv_iconst (v := (5 : Int32)) hx hb d_Gr_joined_17 (by decide) ?_
        refine lv_icmp_ne (tgt := 27) hx hb d_Gr_joined_18 (by decide) (fun hc => ?_) (fun hc => ?_)
        · have hw := hw.2 hc
          refine lv_iload_n hx hb d_Gr_joined_27 rfl (lv_at hl 0 rfl) ?_
          refine lv_iconst (v := (4 : Int32)) hx hb d_Gr_joined_28 (by decide) ?_
          refine lv_icmp_eq (tgt := 37) hx hb d_Gr_joined_29 (by decide) (fun hc => ?_) (fun hc => ?_)
          · have hw := hw.1 hc
            refine lv_iconst (v := (-1 : Int32)) hx hb d_Gr_joined_37 (by decide) ?_
            exact xq_iret (r := (-1 : Int32)) (u := ()) hx hb hr hlocks hAe hP hD hS rfl hw (Nat.le_of_ble_eq_true rfl) (Nat.le_of_ble_eq_true rfl) d_Gr_joined_38
          · have hw := hw.2 hc
            refine lv_iload_n hx hb d_Gr_joined_32 rfl (lv_at hl 1 rfl) ?_
            refine lv_iload_n hx hb d_Gr_joined_33 rfl (lv_at hl 2 rfl) ?_
            refine lv_icmp_eq (tgt := 39) hx hb d_Gr_joined_34 (by decide) (fun hc => ?_) (fun hc => ?_)
            · have hw := hw.1 hc
              refine lv_iload_n hx hb d_Gr_joined_39 rfl (lv_at hl 0 rfl) ?_
              refine lv_iconst (v := (5 : Int32)) hx hb d_Gr_joined_40 (by decide) ?_
              refine lv_icmp_ne (tgt := 48) hx hb d_Gr_joined_41 (by decide) (fun hc => ?_) (fun hc => ?_)
              · have hw := hw.2 hc
                refine lv_iload_n hx hb d_Gr_joined_48 rfl (lv_at hl 1 rfl) ?_
                exact xq_iret (r := a1) (u := ()) hx hb hr hlocks hAe hP hD hS rfl hw (Nat.le_of_ble_eq_true rfl) (Nat.le_of_ble_eq_true rfl) d_Gr_joined_49
              · have hw := hw.1 hc
                refine lv_iconst (v := (0 : Int32)) hx hb d_Gr_joined_44 (by decide) ?_
                refine lv_goto (tgt := 49) hx hb d_Gr_joined_45 (by decide) ?_
                exact xq_iret (r := (0 : Int32)) (u := ()) hx hb hr hlocks hAe hP hD hS rfl hw (Nat.le_of_ble_eq_true rfl) (Nat.le_of_ble_eq_true rfl) d_Gr_joined_49
            · have hw := hw.2 hc
              refine lv_iconst (v := (-1 : Int32)) hx hb d_Gr_joined_37 (by decide) ?_
              exact xq_iret (r := (-1 : Int32)) (u := ()) hx hb hr hlocks hAe hP hD hS rfl hw (Nat.le_of_ble_eq_true rfl) (Nat.le_of_ble_eq_true rfl) d_Gr_joined_38
        · have hw := hw.1 hc
          refine lv_iload_n hx hb d_Gr_joined_21 rfl (lv_at hl 2 rfl) ?_
          refine lv_if_ne (tgt := 27) hx hb d_Gr_joined_22 (by decide) (fun hc => ?_) (fun hc => ?_)
          · have hw := hw.2 hc
            refine lv_iload_n hx hb d_Gr_joined_27 rfl (lv_at hl 0 rfl) ?_
            refine lv_iconst (v := (4 : Int32)) hx hb d_Gr_joined_28 (by decide) ?_
            refine lv_icmp_eq (tgt := 37) hx hb d_Gr_joined_29 (by decide) (fun hc => ?_) (fun hc => ?_)
            · have hw := hw.1 hc
              refine lv_iconst (v := (-1 : Int32)) hx hb d_Gr_joined_37 (by decide) ?_
              exact xq_iret (r := (-1 : Int32)) (u := ()) hx hb hr hlocks hAe hP hD hS rfl hw (Nat.le_of_ble_eq_true rfl) (Nat.le_of_ble_eq_true rfl) d_Gr_joined_38
            · have hw := hw.2 hc
              refine lv_iload_n hx hb d_Gr_joined_32 rfl (lv_at hl 1 rfl) ?_
              refine lv_iload_n hx hb d_Gr_joined_33 rfl (lv_at hl 2 rfl) ?_
              refine lv_icmp_eq (tgt := 39) hx hb d_Gr_joined_34 (by decide) (fun hc => ?_) (fun hc => ?_)
              · have hw := hw.1 hc
                refine lv_iload_n hx hb d_Gr_joined_39 rfl (lv_at hl 0 rfl) ?_
                refine lv_iconst (v := (5 : Int32)) hx hb d_Gr_joined_40 (by decide) ?_
                refine lv_icmp_ne (tgt := 48) hx hb d_Gr_joined_41 (by decide) (fun hc => ?_) (fun hc => ?_)
                · have hw := hw.2 hc
                  refine lv_iload_n hx hb d_Gr_joined_48 rfl (lv_at hl 1 rfl) ?_
                  exact xq_iret (r := a1) (u := ()) hx hb hr hlocks hAe hP hD hS rfl hw (Nat.le_of_ble_eq_true rfl) (Nat.le_of_ble_eq_true rfl) d_Gr_joined_49
                · have hw := hw.1 hc
                  refine lv_iconst (v := (0 : Int32)) hx hb d_Gr_joined_44 (by decide) ?_
                  refine lv_goto (tgt := 49) hx hb d_Gr_joined_45 (by decide) ?_
                  exact xq_iret (r := (0 : Int32)) (u := ()) hx hb hr hlocks hAe hP hD hS rfl hw (Nat.le_of_ble_eq_true rfl) (Nat.le_of_ble_eq_true rfl) d_Gr_joined_49
              · have hw := hw.2 hc
                refine lv_iconst (v := (-1 : Int32)) hx hb d_Gr_joined_37 (by decide) ?_
                exact xq_iret (r := (-1 : Int32)) (u := ()) hx hb hr hlocks hAe hP hD hS rfl hw (Nat.le_of_ble_eq_true rfl) (Nat.le_of_ble_eq_true rfl) d_Gr_joined_38
          · have hw := hw.1 hc
            refine lv_iload_n hx hb d_Gr_joined_25 rfl (lv_at hl 1 rfl) ?_
            exact xq_iret (r := a1) (u := ()) hx hb hr hlocks hAe hP hD hS rfl hw (Nat.le_of_ble_eq_true rfl) (Nat.le_of_ble_eq_true rfl) d_Gr_joined_26
    · have hw := hw.1 hc
      refine lv_iload_n hx hb d_Gr_joined_9 rfl (lv_at hl 2 rfl) ?_
      exact xq_iret (r := a2) (u := ()) hx hb hr hlocks hAe hP hD hS rfl hw (Nat.le_of_ble_eq_true rfl) (Nat.le_of_ble_eq_true rfl) d_Gr_joined_10
theorem cs_Gr_joined {R : Room} {s : State} {args : Array Value} {own : String} {index : Nat} (hts : ∀ w ∈ xq_W, w.before args s = true) (hl : .methodLink own index y_Gr_joined ∈ xq_W) {rm : Room} (hR : rm.frames + 1 ≤ R.frames ∧ 8 + (3 + 11) + rm.locals ≤ R.locals) : CallB R s args own index y_Gr_joined prog_2_method_23_code 3 (some (.int)) (.code y_Gr_joined prog_2_method_23_code 3 (some (.int)) :: xq_W) rm rm.cells rm.slots 3 ∧ (Cond.static y_Gr_joined).before args s = true := ⟨xq_cb 3 hts kw3_104 kw1_11 hl ⟨by decide, by decide, by decide +kernel⟩ hR, hts _ kw3_103⟩
def y_Gr_join : MethodName := ⟨"StepText$Grammar", "join", "(IIII)I"⟩
theorem d_Gr_join_0 : decode prog_2_method_22_code 0 = .ok (.iload_n 1, 1) := by decide +kernel
theorem d_Gr_join_1 : decode prog_2_method_22_code 1 = .ok (.aload_n 0, 1) := by decide +kernel
theorem d_Gr_join_2 : decode prog_2_method_22_code 2 = .ok (.getfield 28, 3) := by decide +kernel
theorem d_Gr_join_5 : decode prog_2_method_22_code 5 = .ok (.iload_n 2, 1) := by decide +kernel
theorem d_Gr_join_6 : decode prog_2_method_22_code 6 = .ok (.invokevirtual 163, 3) := by decide +kernel
theorem d_Gr_join_9 : decode prog_2_method_22_code 9 = .ok (.aload_n 0, 1) := by decide +kernel
theorem d_Gr_join_10 : decode prog_2_method_22_code 10 = .ok (.getfield 28, 3) := by decide +kernel
theorem d_Gr_join_13 : decode prog_2_method_22_code 13 = .ok (.iload_n 3, 1) := by decide +kernel
theorem d_Gr_join_14 : decode prog_2_method_22_code 14 = .ok (.invokevirtual 163, 3) := by decide +kernel
theorem d_Gr_join_17 : decode prog_2_method_22_code 17 = .ok (.invokestatic 189, 3) := by decide +kernel
theorem d_Gr_join_20 : decode prog_2_method_22_code 20 = .ok (.istore 5, 2) := by decide +kernel
theorem d_Gr_join_22 : decode prog_2_method_22_code 22 = .ok (.iload 5, 2) := by decide +kernel
theorem d_Gr_join_24 : decode prog_2_method_22_code 24 = .ok (.iconst (-1), 1) := by decide +kernel
theorem d_Gr_join_25 : decode prog_2_method_22_code 25 = .ok (.if_icmp .ne 9, 3) := by decide +kernel
theorem d_Gr_join_28 : decode prog_2_method_22_code 28 = .ok (.aload_n 0, 1) := by decide +kernel
theorem d_Gr_join_29 : decode prog_2_method_22_code 29 = .ok (.iload 4, 2) := by decide +kernel
theorem d_Gr_join_31 : decode prog_2_method_22_code 31 = .ok (.invokevirtual 99, 3) := by decide +kernel
theorem d_Gr_join_34 : decode prog_2_method_22_code 34 = .ok (.aload_n 0, 1) := by decide +kernel
theorem d_Gr_join_35 : decode prog_2_method_22_code 35 = .ok (.getfield 28, 3) := by decide +kernel
theorem d_Gr_join_38 : decode prog_2_method_22_code 38 = .ok (.iload_n 1, 1) := by decide +kernel
theorem d_Gr_join_39 : decode prog_2_method_22_code 39 = .ok (.aload_n 0, 1) := by decide +kernel
theorem d_Gr_join_40 : decode prog_2_method_22_code 40 = .ok (.getfield 28, 3) := by decide +kernel
theorem d_Gr_join_43 : decode prog_2_method_22_code 43 = .ok (.iload_n 2, 1) := by decide +kernel
theorem d_Gr_join_44 : decode prog_2_method_22_code 44 = .ok (.invokevirtual 193, 3) := by decide +kernel
theorem d_Gr_join_47 : decode prog_2_method_22_code 47 = .ok (.aload_n 0, 1) := by decide +kernel
theorem d_Gr_join_48 : decode prog_2_method_22_code 48 = .ok (.getfield 28, 3) := by decide +kernel
theorem d_Gr_join_51 : decode prog_2_method_22_code 51 = .ok (.iload_n 2, 1) := by decide +kernel
theorem d_Gr_join_52 : decode prog_2_method_22_code 52 = .ok (.invokevirtual 196, 3) := by decide +kernel
theorem d_Gr_join_55 : decode prog_2_method_22_code 55 = .ok (.lconst 0, 1) := by decide +kernel
theorem d_Gr_join_56 : decode prog_2_method_22_code 56 = .ok (.iload 5, 2) := by decide +kernel
theorem d_Gr_join_58 : decode prog_2_method_22_code 58 = .ok (.invokevirtual 69, 3) := by decide +kernel
theorem d_Gr_join_61 : decode prog_2_method_22_code 61 = .ok (.ireturn, 1) := by decide +kernel
def wp_Gr_join (z_this : T_Gr) (z_this_nodes : T_Nd) (a1 : Int32) (a2 : Int32) (a3 : Int32) (a4 : Int32) (post : Int32 → T_Gr × T_Nd → Prop) (postT : T_Gr × T_Nd → Prop) : Prop := wp_Nd_measureOf z_this_nodes a2 (fun (r1 : Int32) (u1 : Unit) => wp_Nd_measureOf z_this_nodes a3 (fun (r2 : Int32) (u2 : Unit) => wp_Gr_joined a1 r1 r2 (fun (r3 : Int32) (u3 : Unit) => (r3 = (-1 : Int32) → (wp_Gr_refuse z_this a4 (fun (u : T_Gr) => postT (u, z_this_nodes)))) ∧ (¬ r3 = (-1 : Int32) → (wp_Nd_lowOf z_this_nodes a2 (fun (r4 : Int32) (u4 : Unit) => wp_Nd_rowOf z_this_nodes a2 (fun (r5 : Int32) (u5 : Unit) => wp_Nd_add z_this_nodes a1 r4 r5 (0 : Int64) r3 (fun (r6 : Int32) (u6 : T_Nd) => post r6 (z_this, u6)))))))))
def rm_Gr_join : Room := { frames := 7, cells := 1, slots := 6, locals := 121 }
set_option maxHeartbeats 4000000 in
set_option maxRecDepth 100000 in
theorem c_Gr_join {l : Launch} {o : State × Array Value} {D : va_G} {k : Nat → ClassId} {ad_this : Nat → Nat} {ad_this_nodes : Nat → Nat} {q_this_words : Nat} {q_this_names : Nat} {z_this : T_Gr} {z_this_nodes : T_Nd} {a1 : Int32} {a2 : Int32} {a3 : Int32} {a4 : Int32} {post : Int32 → T_Gr × T_Nd → Prop} {postT : T_Gr × T_Nd → Prop} (hw : wp_Gr_join z_this z_this_nodes a1 a2 a3 a4 post postT) : xq_C l o y_Gr_join (.code y_Gr_join prog_2_method_22_code 6 (some (.int)) :: xq_W) rm_Gr_join D vwCl (xt k) [.ref (ad_this 0), .int a1, .int a2, .int a3, .int a4] (w_Gr k ad_this q_this_words q_this_names (ad_this_nodes 0) z_this ++ w_Nd k ad_this_nodes z_this_nodes) (fun r : Int32 => some (.int r)) post postT (fun u : T_Gr × T_Nd => w_Gr k ad_this q_this_words q_this_names (ad_this_nodes 0) u.1 ++ w_Nd k ad_this_nodes u.2) 0 0 1 6 := by
  refine xq_ofW (cc := prog_2_method_22_code) (maxL := 6) (ret := (some (.int))) (by decide) rfl (Nat.le_of_ble_eq_true rfl) ?_
  intro p e s m below meth c ls H locs A hAt hAe hA hl hK hJ hP0 hP hD hS
  obtain ⟨hx, hb, hml, hr, hlocks, hown, hts, hex, hnm⟩ := id hAt
  have hl : lv_has ls 6 [(0, .ref (ad_this 0)), (1, .int a1), (2, .int a2), (3, .int a3), (4, .int a4)] := hl
  unfold wp_Gr_join at hw
  refine lv_iload_n hx hb d_Gr_join_0 rfl (lv_at hl 1 rfl) ?_
  refine lv_aload_n hx hb d_Gr_join_1 rfl (lv_at hl 0 rfl) ?_
  refine va_get (D := D) (ci := 6) (v := .ref (ad_this_nodes 0)) (C := R_Gr) (T := F_Gr) (N := 4) hx hb hts in_Gr hown hK hP 0 rfl rfl 2 (by decide) (hts (.fieldLink R_Gr 28 R_Gr "nodes" "LStepText$Nodes;") kw2_9) (fun _ h9 => h9) rfl d_Gr_join_2 ?_
  refine lv_iload_n hx hb d_Gr_join_5 rfl (lv_at hl 2 rfl) ?_
  refine xq_go (wr := w_Gr k ad_this q_this_words q_this_names (ad_this_nodes 0) z_this) (stk := fun r => .int r :: [.int a1]) (xq_runV (As := [.int a2]) (rest := [.int a1]) ⟨hx, hb, hml, hown, hts⟩ (c_Nd_measureOf (l := l) (o := o) (D := D) (k := k) (ad_this := ad_this_nodes) hw) (cw_Nd_measureOf hts kw3_79 ⟨Nat.le_of_ble_eq_true rfl, Nat.le_of_ble_eq_true rfl⟩) (va_recv hK hP (ci := 4) (q0 := 1) rfl rfl) (hP.sub [1, 2, 3, 4, 5, 6, 7, 8, 9, 10, 11] rfl) hK hJ hS (va_free hD hS hA [1, 2, 3, 4, 5, 6, 7, 8, 9, 10, 11] rfl) ((hD.sub [1, 2, 3, 4, 5, 6, 7, 8, 9, 10, 11] (by decide) rfl).weaken (fun _ _ _ _ => trivial)) rfl hl.1 (Nat.le_of_ble_eq_true rfl) d_Gr_join_6 ⟨Nat.le_of_ble_eq_true rfl, Nat.le_of_ble_eq_true rfl⟩) hP hD hS hA [1, 2, 3, 4, 5, 6, 7, 8, 9, 10, 11] [0] rfl rfl (by decide) (by decide) (fun _ => rfl) (fun r1 u1 H locs hw hP hD hS => ?_) (fun _ _ _ _ h9 => h9.elim)
  have hP : va_P D vwCl (w_Gr k ad_this q_this_words q_this_names (ad_this_nodes 0) z_this ++ w_Nd k ad_this_nodes z_this_nodes) H := hP.sub [0, 1, 2, 3, 4, 5, 6, 7, 8, 9, 10, 11] rfl
  have hD : va_D A (w_Gr k ad_this q_this_words q_this_names (ad_this_nodes 0) z_this ++ w_Nd k ad_this_nodes z_this_nodes) := hD.sub [0, 1, 2, 3, 4, 5, 6, 7, 8, 9, 10, 11] (by decide) rfl
  refine lv_aload_n hx hb d_Gr_join_9 rfl (lv_at hl 0 rfl) ?_
  refine va_get (D := D) (ci := 6) (v := .ref (ad_this_nodes 0)) (C := R_Gr) (T := F_Gr) (N := 4) hx hb hts in_Gr hown hK hP 0 rfl rfl 2 (by decide) (hts (.fieldLink R_Gr 28 R_Gr "nodes" "LStepText$Nodes;") kw2_9) (fun _ h9 => h9) rfl d_Gr_join_10 ?_
  refine lv_iload_n hx hb d_Gr_join_13 rfl (lv_at hl 3 rfl) ?_
  refine xq_go (wr := w_Gr k ad_this q_this_words q_this_names (ad_this_nodes 0) z_this) (stk := fun r => .int r :: [.int r1, .int a1]) (xq_runV (As := [.int a3]) (rest := [.int r1, .int a1]) ⟨hx, hb, hml, hown, hts⟩ (c_Nd_measureOf (l := l) (o := o) (D := D) (k := k) (ad_this := ad_this_nodes) hw) (cw_Nd_measureOf hts kw3_79 ⟨Nat.le_of_ble_eq_true rfl, Nat.le_of_ble_eq_true rfl⟩) (va_recv hK hP (ci := 4) (q0 := 1) rfl rfl) (hP.sub [1, 2, 3, 4, 5, 6, 7, 8, 9, 10, 11] rfl) hK hJ hS (va_free hD hS hA [1, 2, 3, 4, 5, 6, 7, 8, 9, 10, 11] rfl) ((hD.sub [1, 2, 3, 4, 5, 6, 7, 8, 9, 10, 11] (by decide) rfl).weaken (fun _ _ _ _ => trivial)) rfl hl.1 (Nat.le_of_ble_eq_true rfl) d_Gr_join_14 ⟨Nat.le_of_ble_eq_true rfl, Nat.le_of_ble_eq_true rfl⟩) hP hD hS hA [1, 2, 3, 4, 5, 6, 7, 8, 9, 10, 11] [0] rfl rfl (by decide) (by decide) (fun _ => rfl) (fun r2 u2 H locs hw hP hD hS => ?_) (fun _ _ _ _ h9 => h9.elim)
  have hP : va_P D vwCl (w_Gr k ad_this q_this_words q_this_names (ad_this_nodes 0) z_this ++ w_Nd k ad_this_nodes z_this_nodes) H := hP.sub [0, 1, 2, 3, 4, 5, 6, 7, 8, 9, 10, 11] rfl
  have hD : va_D A (w_Gr k ad_this q_this_words q_this_names (ad_this_nodes 0) z_this ++ w_Nd k ad_this_nodes z_this_nodes) := hD.sub [0, 1, 2, 3, 4, 5, 6, 7, 8, 9, 10, 11] (by decide) rfl
  refine xq_go (wr := w_Gr k ad_this q_this_words q_this_names (ad_this_nodes 0) z_this ++ w_Nd k ad_this_nodes z_this_nodes) (stk := fun r => .int r :: []) (xq_runS (As := [.int a1, .int r1, .int r2]) (rest := []) ⟨hx, hb, hml, hown, hts⟩ (c_Gr_joined (l := l) (o := o) (D := D) (k := k) hw) (cs_Gr_joined hts kw3_102 ⟨Nat.le_of_ble_eq_true rfl, Nat.le_of_ble_eq_true rfl⟩) (hP.sub [] rfl) hK hJ hS (va_free hD hS hA [] rfl) ((hD.sub [] (by decide) rfl).weaken (fun _ _ _ _ => trivial)) rfl hl.1 (Nat.le_of_ble_eq_true rfl) d_Gr_join_17 ⟨Nat.le_of_ble_eq_true rfl, Nat.le_of_ble_eq_true rfl⟩) hP hD hS hA [] [0, 1, 2, 3, 4, 5, 6, 7, 8, 9, 10, 11] rfl rfl (by decide) (by decide) (fun _ => rfl) (fun r3 u3 H locs hw hP hD hS => ?_) (fun _ _ _ _ h9 => h9.elim)
  have hP : va_P D vwCl (w_Gr k ad_this q_this_words q_this_names (ad_this_nodes 0) z_this ++ w_Nd k ad_this_nodes z_this_nodes) H := hP.sub [0, 1, 2, 3, 4, 5, 6, 7, 8, 9, 10, 11] rfl
  have hD : va_D A (w_Gr k ad_this q_this_words q_this_names (ad_this_nodes 0) z_this ++ w_Nd k ad_this_nodes z_this_nodes) := hD.sub [0, 1, 2, 3, 4, 5, 6, 7, 8, 9, 10, 11] (by decide) rfl
  refine lv_istore (lv' := [(5, .int r3), (0, .ref (ad_this 0)), (1, .int a1), (2, .int a2), (3, .int a3), (4, .int a4)]) hx hb d_Gr_join_20 hl (by decide) rfl (fun ls hl => ?_)
  refine lv_iload hx hb d_Gr_join_22 (lv_at hl 0 rfl) ?_
  refine lv_iconst (v := (-1 : Int32)) hx hb d_Gr_join_24 (by decide) ?_
  refine lv_icmp_ne (tgt := 34) hx hb d_Gr_join_25 (by decide) (fun hc => ?_) (fun hc => ?_)
  · have hw := hw.2 hc
    refine lv_aload_n hx hb d_Gr_join_34 rfl (lv_at hl 1 rfl) ?_
    refine va_get (D := D) (ci := 6) (v := .ref (ad_this_nodes 0)) (C := R_Gr) (T := F_Gr) (N := 4) hx hb hts in_Gr hown hK hP 0 rfl rfl 2 (by decide) (hts (.fieldLink R_Gr 28 R_Gr "nodes" "LStepText$Nodes;") kw2_9) (fun _ h9 => h9) rfl d_Gr_join_35 ?_
    refine lv_iload_n hx hb d_Gr_join_38 rfl (lv_at hl 2 rfl) ?_
    refine lv_aload_n hx hb d_Gr_join_39 rfl (lv_at hl 1 rfl) ?_
    refine va_get (D := D) (ci := 6) (v := .ref (ad_this_nodes 0)) (C := R_Gr) (T := F_Gr) (N := 4) hx hb hts in_Gr hown hK hP 0 rfl rfl 2 (by decide) (hts (.fieldLink R_Gr 28 R_Gr "nodes" "LStepText$Nodes;") kw2_9) (fun _ h9 => h9) rfl d_Gr_join_40 ?_
    refine lv_iload_n hx hb d_Gr_join_43 rfl (lv_at hl 3 rfl) ?_
    refine xq_go (wr := w_Gr k ad_this q_this_words q_this_names (ad_this_nodes 0) z_this) (stk := fun r => .int r :: [.int a1, .ref (ad_this_nodes 0)]) (xq_runV (As := [.int a2]) (rest := [.int a1, .ref (ad_this_nodes 0)]) ⟨hx, hb, hml, hown, hts⟩ (c_Nd_lowOf (l := l) (o := o) (D := D) (k := k) (ad_this := ad_this_nodes) hw) (cw_Nd_lowOf hts kw3_105 ⟨Nat.le_of_ble_eq_true rfl, Nat.le_of_ble_eq_true rfl⟩) (va_recv hK hP (ci := 4) (q0 := 1) rfl rfl) (hP.sub [1, 2, 3, 4, 5, 6, 7, 8, 9, 10, 11] rfl) hK hJ hS (va_free hD hS hA [1, 2, 3, 4, 5, 6, 7, 8, 9, 10, 11] rfl) ((hD.sub [1, 2, 3, 4, 5, 6, 7, 8, 9, 10, 11] (by decide) rfl).weaken (fun _ _ _ _ => trivial)) rfl hl.1 (Nat.le_of_ble_eq_true rfl) d_Gr_join_44 ⟨Nat.le_of_ble_eq_true rfl, Nat.le_of_ble_eq_true rfl⟩) hP hD hS hA [1, 2, 3, 4, 5, 6, 7, 8, 9, 10, 11] [0] rfl rfl (by decide) (by decide) (fun _ => rfl) (fun r4 u4 H locs hw hP hD hS => ?_) (fun _ _ _ _ h9 => h9.elim)
    have hP : va_P D vwCl (w_Gr k ad_this q_this_words q_this_names (ad_this_nodes 0) z_this ++ w_Nd k ad_this_nodes z_this_nodes) H := hP.sub [0, 1, 2, 3, 4, 5, 6, 7, 8, 9, 10, 11] rfl
    have hD : va_D A (w_Gr k ad_this q_this_words q_this_names (ad_this_nodes 0) z_this ++ w_Nd k ad_this_nodes z_this_nodes) := hD.sub [0, 1, 2, 3, 4, 5, 6, 7, 8, 9, 10, 11] (by decide) rfl
    refine lv_aload_n hx hb d_Gr_join_47 rfl (lv_at hl 1 rfl) ?_
    refine va_get (D := D) (ci := 6) (v := .ref (ad_this_nodes 0)) (C := R_Gr) (T := F_Gr) (N := 4) hx hb hts in_Gr hown hK hP 0 rfl rfl 2 (by decide) (hts (.fieldLink R_Gr 28 R_Gr "nodes" "LStepText$Nodes;") kw2_9) (fun _ h9 => h9) rfl d_Gr_join_48 ?_
    refine lv_iload_n hx hb d_Gr_join_51 rfl (lv_at hl 3 rfl) ?_
    refine xq_go (wr := w_Gr k ad_this q_this_words q_this_names (ad_this_nodes 0) z_this) (stk := fun r => .int r :: [.int r4, .int a1, .ref (ad_this_nodes 0)]) (xq_runV (As := [.int a2]) (rest := [.int r4, .int a1, .ref (ad_this_nodes 0)]) ⟨hx, hb, hml, hown, hts⟩ (c_Nd_rowOf (l := l) (o := o) (D := D) (k := k) (ad_this := ad_this_nodes) hw) (cw_Nd_rowOf hts kw3_109 ⟨Nat.le_of_ble_eq_true rfl, Nat.le_of_ble_eq_true rfl⟩) (va_recv hK hP (ci := 4) (q0 := 1) rfl rfl) (hP.sub [1, 2, 3, 4, 5, 6, 7, 8, 9, 10, 11] rfl) hK hJ hS (va_free hD hS hA [1, 2, 3, 4, 5, 6, 7, 8, 9, 10, 11] rfl) ((hD.sub [1, 2, 3, 4, 5, 6, 7, 8, 9, 10, 11] (by decide) rfl).weaken (fun _ _ _ _ => trivial)) rfl hl.1 (Nat.le_of_ble_eq_true rfl) d_Gr_join_52 ⟨Nat.le_of_ble_eq_true rfl, Nat.le_of_ble_eq_true rfl⟩) hP hD hS hA [1, 2, 3, 4, 5, 6, 7, 8, 9, 10, 11] [0] rfl rfl (by decide) (by decide) (fun _ => rfl) (fun r5 u5 H locs hw hP hD hS => ?_) (fun _ _ _ _ h9 => h9.elim)
    have hP : va_P D vwCl (w_Gr k ad_this q_this_words q_this_names (ad_this_nodes 0) z_this ++ w_Nd k ad_this_nodes z_this_nodes) H := hP.sub [0, 1, 2, 3, 4, 5, 6, 7, 8, 9, 10, 11] rfl
    have hD : va_D A (w_Gr k ad_this q_this_words q_this_names (ad_this_nodes 0) z_this ++ w_Nd k ad_this_nodes z_this_nodes) := hD.sub [0, 1, 2, 3, 4, 5, 6, 7, 8, 9, 10, 11] (by decide) rfl
    refine lv_lconst (v := (0 : Int64)) hx hb d_Gr_join_55 (by decide) ?_
    refine lv_iload hx hb d_Gr_join_56 (lv_at hl 0 rfl) ?_
    refine xq_go (wr := w_Gr k ad_this q_this_words q_this_names (ad_this_nodes 0) z_this) (stk := fun r => .int r :: []) (xq_runV (As := [.int a1, .int r4, .int r5, .long (0 : Int64), .int r3]) (rest := []) ⟨hx, hb, hml, hown, hts⟩ (c_Nd_add (l := l) (o := o) (D := D) (k := k) (ad_this := ad_this_nodes) hw) (cw_Nd_add hts kw3_67 ⟨Nat.le_of_ble_eq_true rfl, Nat.le_of_ble_eq_true rfl⟩) (va_recv hK hP (ci := 4) (q0 := 1) rfl rfl) (hP.sub [1, 2, 3, 4, 5, 6, 7, 8, 9, 10, 11] rfl) hK hJ hS (va_free hD hS hA [1, 2, 3, 4, 5, 6, 7, 8, 9, 10, 11] rfl) ((hD.sub [1, 2, 3, 4, 5, 6, 7, 8, 9, 10, 11] (by decide) rfl).weaken (fun _ _ _ _ => trivial)) rfl hl.1 (Nat.le_of_ble_eq_true rfl) d_Gr_join_58 ⟨Nat.le_of_ble_eq_true rfl, Nat.le_of_ble_eq_true rfl⟩) hP hD hS hA [1, 2, 3, 4, 5, 6, 7, 8, 9, 10, 11] [0] rfl rfl (by decide) (by decide) (fun _ => rfl) (fun r6 u6 H locs hw hP hD hS => ?_) (fun _ _ _ _ h9 => h9.elim)
    have hP : va_P D vwCl (w_Gr k ad_this q_this_words q_this_names (ad_this_nodes 0) z_this ++ w_Nd k ad_this_nodes u6) H := hP.sub [0, 1, 2, 3, 4, 5, 6, 7, 8, 9, 10, 11] rfl
    have hD : va_D A (w_Gr k ad_this q_this_words q_this_names (ad_this_nodes 0) z_this ++ w_Nd k ad_this_nodes u6) := hD.sub [0, 1, 2, 3, 4, 5, 6, 7, 8, 9, 10, 11] (by decide) rfl
    exact xq_iret (r := r6) (u := (z_this, u6)) hx hb hr hlocks hAe hP hD hS rfl hw (Nat.le_of_ble_eq_true rfl) (Nat.le_of_ble_eq_true rfl) d_Gr_join_61
  · have hw := hw.1 hc
    refine lv_aload_n hx hb d_Gr_join_28 rfl (lv_at hl 1 rfl) ?_
    refine lv_iload hx hb d_Gr_join_29 (lv_at hl 5 rfl) ?_
    refine xq_go (wr := w_Nd k ad_this_nodes z_this_nodes) (stk := fun _ => []) (xq_runV (As := [.int a4]) (rest := []) ⟨hx, hb, hml, hown, hts⟩ (c_Gr_refuse (l := l) (o := o) (D := D) (k := k) (ad_this := ad_this) (q_this_words := q_this_words) (q_this_names := q_this_names) (q_this_nodes := (ad_this_nodes 0)) hw) (cw_Gr_refuse hts kw2_165 ⟨Nat.le_of_ble_eq_true rfl, Nat.le_of_ble_eq_true rfl⟩) (va_recv hK hP (ci := 6) (q0 := 0) rfl rfl) (hP.sub [0] rfl) hK hJ hS (va_free hD hS hA [0] rfl) ((hD.sub [0] (by decide) rfl).weaken (fun _ _ _ _ => trivial)) rfl hl.1 (Nat.le_of_ble_eq_true rfl) d_Gr_join_31 ⟨Nat.le_of_ble_eq_true rfl, Nat.le_of_ble_eq_true rfl⟩) hP hD hS hA [0] [1, 2, 3, 4, 5, 6, 7, 8, 9, 10, 11] rfl rfl (by decide) (by decide) (fun _ => rfl) (fun _ _ _ _ h9 => h9.elim) (fun x u H locs hw hP hD hS hE => ?_)
    have hP : va_P D vwCl (w_Gr k ad_this q_this_words q_this_names (ad_this_nodes 0) u ++ w_Nd k ad_this_nodes z_this_nodes) H := hP.sub [11, 0, 1, 2, 3, 4, 5, 6, 7, 8, 9, 10] rfl
    have hD : va_D A (w_Gr k ad_this q_this_words q_this_names (ad_this_nodes 0) u ++ w_Nd k ad_this_nodes z_this_nodes) := hD.sub [11, 0, 1, 2, 3, 4, 5, 6, 7, 8, 9, 10] (by decide) rfl
    exact xq_out (u := (u, z_this_nodes)) hex hlocks hAe hP hD hS hw hE (Nat.le_of_ble_eq_true rfl) (Nat.le_of_ble_eq_true rfl)
theorem cw_Gr_join {R : Room} {s : State} {args : Array Value} {own : String} {index : Nat} (hts : ∀ w ∈ xq_W, w.before args s = true) (hl : .methodLink own index y_Gr_join ∈ xq_W) {rm : Room} (hR : rm.frames + 1 ≤ R.frames ∧ 8 + (6 + 11) + rm.locals ≤ R.locals) : CallW R s args own "StepText$Grammar" index y_Gr_join prog_2_method_22_code 6 (some (.int)) (.code y_Gr_join prog_2_method_22_code 6 (some (.int)) :: xq_W) rm rm.cells rm.slots 4 := ⟨xq_cb 4 hts kw3_101 kw1_11 hl ⟨by decide, by decide, by decide +kernel⟩ hR, hts _ kw3_100, hts _ kp2_11⟩
def y_Gr_readAct : MethodName := ⟨"StepText$Grammar", "readAct", "()I"⟩
theorem d_Gr_readAct_0 : decode prog_2_method_16_code 0 = .ok (.aload_n 0, 1) := by decide +kernel
theorem d_Gr_readAct_1 : decode prog_2_method_16_code 1 = .ok (.getfield 9, 3) := by decide +kernel
theorem d_Gr_readAct_4 : decode prog_2_method_16_code 4 = .ok (.getfield 108, 3) := by decide +kernel
theorem d_Gr_readAct_7 : decode prog_2_method_16_code 7 = .ok (.ldc2_w 156, 3) := by decide +kernel
theorem d_Gr_readAct_10 : decode prog_2_method_16_code 10 = .ok (.ldiv, 1) := by decide +kernel
theorem d_Gr_readAct_11 : decode prog_2_method_16_code 11 = .ok (.lstore_n 1, 1) := by decide +kernel
theorem d_Gr_readAct_12 : decode prog_2_method_16_code 12 = .ok (.aload_n 0, 1) := by decide +kernel
theorem d_Gr_readAct_13 : decode prog_2_method_16_code 13 = .ok (.getfield 9, 3) := by decide +kernel
theorem d_Gr_readAct_16 : decode prog_2_method_16_code 16 = .ok (.getfield 44, 3) := by decide +kernel
theorem d_Gr_readAct_19 : decode prog_2_method_16_code 19 = .ok (.sipush 129, 3) := by decide +kernel
theorem d_Gr_readAct_22 : decode prog_2_method_16_code 22 = .ok (.if_icmp .ne 11, 3) := by decide +kernel
theorem d_Gr_readAct_25 : decode prog_2_method_16_code 25 = .ok (.lload_n 1, 1) := by decide +kernel
theorem d_Gr_readAct_26 : decode prog_2_method_16_code 26 = .ok (.ldc2_w 158, 3) := by decide +kernel
theorem d_Gr_readAct_29 : decode prog_2_method_16_code 29 = .ok (.lcmp, 1) := by decide +kernel
theorem d_Gr_readAct_30 : decode prog_2_method_16_code 30 = .ok (.ifCond .lt 14, 3) := by decide +kernel
theorem d_Gr_readAct_33 : decode prog_2_method_16_code 33 = .ok (.aload_n 0, 1) := by decide +kernel
theorem d_Gr_readAct_34 : decode prog_2_method_16_code 34 = .ok (.aload_n 0, 1) := by decide +kernel
theorem d_Gr_readAct_35 : decode prog_2_method_16_code 35 = .ok (.getfield 9, 3) := by decide +kernel
theorem d_Gr_readAct_38 : decode prog_2_method_16_code 38 = .ok (.getfield 96, 3) := by decide +kernel
theorem d_Gr_readAct_41 : decode prog_2_method_16_code 41 = .ok (.invokevirtual 99, 3) := by decide +kernel
theorem d_Gr_readAct_44 : decode prog_2_method_16_code 44 = .ok (.aload_n 0, 1) := by decide +kernel
theorem d_Gr_readAct_45 : decode prog_2_method_16_code 45 = .ok (.invokevirtual 105, 3) := by decide +kernel
theorem d_Gr_readAct_48 : decode prog_2_method_16_code 48 = .ok (.lload_n 1, 1) := by decide +kernel
theorem d_Gr_readAct_49 : decode prog_2_method_16_code 49 = .ok (.l2i, 1) := by decide +kernel
theorem d_Gr_readAct_50 : decode prog_2_method_16_code 50 = .ok (.ireturn, 1) := by decide +kernel
def wp_Gr_readAct (z_this : T_Gr) (z_this_nodes : T_Nd) (z_this_words : T_Wd) (post : Int32 → T_Gr × T_Wd → Prop) (postT : T_Gr × T_Wd → Prop) : Prop := (z_this_words.2.2.2.2.2.2.2.2.2.2.1 = (129 : Int32) → (((lg_cmp (z_this_words.2.2.2.2.2.2.2.2.2.2.2.2.2 / (1000 : Int64)) (64 : Int64)) < 0 → (wp_Gr_pass z_this z_this_nodes z_this_words (fun (r2 : Unit) (u2 : T_Gr × T_Wd) => post ((z_this_words.2.2.2.2.2.2.2.2.2.2.2.2.2 / (1000 : Int64))).toInt32 (u2.1, u2.2)) (fun (u : T_Gr × T_Wd) => postT (u.1, u.2)))) ∧ (¬ (lg_cmp (z_this_words.2.2.2.2.2.2.2.2.2.2.2.2.2 / (1000 : Int64)) (64 : Int64)) < 0 → (wp_Gr_refuse z_this z_this_words.2.2.2.2.2.2.2.2.2.2.2.1 (fun (u : T_Gr) => postT (u, z_this_words)))))) ∧ (¬ z_this_words.2.2.2.2.2.2.2.2.2.2.1 = (129 : Int32) → (wp_Gr_refuse z_this z_this_words.2.2.2.2.2.2.2.2.2.2.2.1 (fun (u : T_Gr) => postT (u, z_this_words))))
def rm_Gr_readAct : Room := { frames := 8, cells := 1, slots := 6, locals := 141 }
set_option maxHeartbeats 4000000 in
set_option maxRecDepth 100000 in
theorem c_Gr_readAct {l : Launch} {o : State × Array Value} {D : va_G} {k : Nat → ClassId} {ad_this : Nat → Nat} {ad_this_nodes : Nat → Nat} {ad_this_words : Nat → Nat} {q_this_names : Nat} {q_this_words_keywords : Nat} {z_this : T_Gr} {z_this_nodes : T_Nd} {z_this_words : T_Wd} {post : Int32 → T_Gr × T_Wd → Prop} {postT : T_Gr × T_Wd → Prop} (hw : wp_Gr_readAct z_this z_this_nodes z_this_words post postT) : xq_C l o y_Gr_readAct (.code y_Gr_readAct prog_2_method_16_code 3 (some (.int)) :: xq_W) rm_Gr_readAct D vwCl (xt k) [.ref (ad_this 0)] (w_Gr k ad_this (ad_this_words 0) q_this_names (ad_this_nodes 0) z_this ++ w_Nd k ad_this_nodes z_this_nodes ++ w_Wd k ad_this_words q_this_words_keywords z_this_words) (fun r : Int32 => some (.int r)) post postT (fun u : T_Gr × T_Wd => w_Gr k ad_this (ad_this_words 0) q_this_names (ad_this_nodes 0) u.1 ++ w_Nd k ad_this_nodes z_this_nodes ++ w_Wd k ad_this_words q_this_words_keywords u.2) 0 0 1 6 := by
  refine xq_ofW (cc := prog_2_method_16_code) (maxL := 3) (ret := (some (.int))) (by decide) rfl (Nat.le_of_ble_eq_true rfl) ?_
  intro p e s m below meth c ls H locs A hAt hAe hA hl hK hJ hP0 hP hD hS
  obtain ⟨hx, hb, hml, hr, hlocks, hown, hts, hex, hnm⟩ := id hAt
  have hl : lv_has ls 3 [(0, .ref (ad_this 0))] := hl
  unfold wp_Gr_readAct at hw
  refine lv_aload_n hx hb d_Gr_readAct_0 rfl (lv_at hl 0 rfl) ?_
  refine va_get (D := D) (ci := 6) (v := .ref (ad_this_words 0)) (C := R_Gr) (T := F_Gr) (N := 4) hx hb hts in_Gr hown hK hP 0 rfl rfl 0 (by decide) (hts (.fieldLink R_Gr 9 R_Gr "words" "LStepText$Words;") kw2_7) (fun _ h9 => h9) rfl d_Gr_readAct_1 ?_
  refine va_get (D := D) (ci := 2) (v := .long z_this_words.2.2.2.2.2.2.2.2.2.2.2.2.2) (C := R_Wd) (T := F_Wd) (N := 15) hx hb hts in_Wd hown hK hP 12 rfl rfl 14 (by decide) (hts (.fieldLink R_Gr 108 R_Wd "value" "J") kw1_115) (fun _ h9 => h9) rfl d_Gr_readAct_4 ?_
  refine lv_ldc2 (v := (1000 : Int64)) hx hb hown (hts (.constantLong R_Gr 156 (1000)) kw3_121) d_Gr_readAct_7 ?_
  refine lv_ldiv hx hb d_Gr_readAct_10 (by decide) ?_
  refine lv_lstore_n (lv' := [(1, .long (z_this_words.2.2.2.2.2.2.2.2.2.2.2.2.2 / (1000 : Int64))), (0, .ref (ad_this 0))]) hx hb d_Gr_readAct_11 rfl hl (by decide) rfl (fun ls hl => ?_)
  refine lv_aload_n hx hb d_Gr_readAct_12 rfl (lv_at hl 1 rfl) ?_
  refine va_get (D := D) (ci := 6) (v := .ref (ad_this_words 0)) (C := R_Gr) (T := F_Gr) (N := 4) hx hb hts in_Gr hown hK hP 0 rfl rfl 0 (by decide) (hts (.fieldLink R_Gr 9 R_Gr "words" "LStepText$Words;") kw2_7) (fun _ h9 => h9) rfl d_Gr_readAct_13 ?_
  refine va_get (D := D) (ci := 2) (v := .int z_this_words.2.2.2.2.2.2.2.2.2.2.1) (C := R_Wd) (T := F_Wd) (N := 15) hx hb hts in_Wd hown hK hP 12 rfl rfl 11 (by decide) (hts (.fieldLink R_Gr 44 R_Wd "code" "I") kw1_108) (fun _ h9 => h9) rfl d_Gr_readAct_16 ?_
  refine lv_sipush (v := (129 : Int32)) hx hb d_Gr_readAct_19 (by decide) ?_
  refine lv_icmp_ne (tgt := 33) hx hb d_Gr_readAct_22 (by decide) (fun hc => ?_) (fun hc => ?_)
  · have hw := hw.2 hc
    refine lv_aload_n hx hb d_Gr_readAct_33 rfl (lv_at hl 1 rfl) ?_
    refine lv_aload_n hx hb d_Gr_readAct_34 rfl (lv_at hl 1 rfl) ?_
    refine va_get (D := D) (ci := 6) (v := .ref (ad_this_words 0)) (C := R_Gr) (T := F_Gr) (N := 4) hx hb hts in_Gr hown hK hP 0 rfl rfl 0 (by decide) (hts (.fieldLink R_Gr 9 R_Gr "words" "LStepText$Words;") kw2_7) (fun _ h9 => h9) rfl d_Gr_readAct_35 ?_
    refine va_get (D := D) (ci := 2) (v := .int z_this_words.2.2.2.2.2.2.2.2.2.2.2.1) (C := R_Wd) (T := F_Wd) (N := 15) hx hb hts in_Wd hown hK hP 12 rfl rfl 12 (by decide) (hts (.fieldLink R_Gr 96 R_Wd "place" "I") kw1_111) (fun _ h9 => h9) rfl d_Gr_readAct_38 ?_
    refine xq_go (wr := w_Nd k ad_this_nodes z_this_nodes ++ w_Wd k ad_this_words q_this_words_keywords z_this_words) (stk := fun _ => []) (xq_runV (As := [.int z_this_words.2.2.2.2.2.2.2.2.2.2.2.1]) (rest := []) ⟨hx, hb, hml, hown, hts⟩ (c_Gr_refuse (l := l) (o := o) (D := D) (k := k) (ad_this := ad_this) (q_this_words := (ad_this_words 0)) (q_this_names := q_this_names) (q_this_nodes := (ad_this_nodes 0)) hw) (cw_Gr_refuse hts kw2_165 ⟨Nat.le_of_ble_eq_true rfl, Nat.le_of_ble_eq_true rfl⟩) (va_recv hK hP (ci := 6) (q0 := 0) rfl rfl) (hP.sub [0] rfl) hK hJ hS (va_free hD hS hA [0] rfl) ((hD.sub [0] (by decide) rfl).weaken (fun _ _ _ _ => trivial)) rfl hl.1 (Nat.le_of_ble_eq_true rfl) d_Gr_readAct_41 ⟨Nat.le_of_ble_eq_true rfl, Nat.le_of_ble_eq_true rfl⟩) hP hD hS hA [0] [1, 2, 3, 4, 5, 6, 7, 8, 9, 10, 11, 12, 13, 14, 15, 16, 17] rfl rfl (by decide) (by decide) (fun _ => rfl) (fun _ _ _ _ h9 => h9.elim) (fun x u H locs hw hP hD hS hE => ?_)
    have hP : va_P D vwCl (w_Gr k ad_this (ad_this_words 0) q_this_names (ad_this_nodes 0) u ++ w_Nd k ad_this_nodes z_this_nodes ++ w_Wd k ad_this_words q_this_words_keywords z_this_words) H := hP.sub [17, 0, 1, 2, 3, 4, 5, 6, 7, 8, 9, 10, 11, 12, 13, 14, 15, 16] rfl
    have hD : va_D A (w_Gr k ad_this (ad_this_words 0) q_this_names (ad_this_nodes 0) u ++ w_Nd k ad_this_nodes z_this_nodes ++ w_Wd k ad_this_words q_this_words_keywords z_this_words) := hD.sub [17, 0, 1, 2, 3, 4, 5, 6, 7, 8, 9, 10, 11, 12, 13, 14, 15, 16] (by decide) rfl
    exact xq_out (u := (u, z_this_words)) hex hlocks hAe hP hD hS hw hE (Nat.le_of_ble_eq_true rfl) (Nat.le_of_ble_eq_true rfl)
  · have hw := hw.1 hc
    refine lv_lload_n hx hb d_Gr_readAct_25 rfl (lv_at hl 0 rfl) ?_
    refine lv_ldc2 (v := (64 : Int64)) hx hb hown (hts (.constantLong R_Gr 158 (64)) kw3_122) d_Gr_readAct_26 ?_
    refine W.lcmp hx hb d_Gr_readAct_29 ?_
    refine lv_if_lt (tgt := 44) hx hb d_Gr_readAct_30 (by decide) (fun hc => ?_) (fun hc => ?_)
    · have hw := hw.1 hc
      refine lv_aload_n hx hb d_Gr_readAct_44 rfl (lv_at hl 1 rfl) ?_
      refine xq_go (wr := ([] : va_W)) (stk := fun _ => []) (xq_runV (As := []) (rest := []) ⟨hx, hb, hml, hown, hts⟩ (c_Gr_pass (l := l) (o := o) (D := D) (k := k) (ad_this := ad_this) (ad_this_nodes := ad_this_nodes) (ad_this_words := ad_this_words) (q_this_names := q_this_names) (q_this_words_keywords := q_this_words_keywords) hw) (cw_Gr_pass hts kw2_157 ⟨Nat.le_of_ble_eq_true rfl, Nat.le_of_ble_eq_true rfl⟩) (va_recv hK hP (ci := 6) (q0 := 0) rfl rfl) (hP.sub [0, 1, 2, 3, 4, 5, 6, 7, 8, 9, 10, 11, 12, 13, 14, 15, 16, 17] rfl) hK hJ hS (va_free hD hS hA [0, 1, 2, 3, 4, 5, 6, 7, 8, 9, 10, 11, 12, 13, 14, 15, 16, 17] rfl) ((hD.sub [0, 1, 2, 3, 4, 5, 6, 7, 8, 9, 10, 11, 12, 13, 14, 15, 16, 17] (by decide) rfl).weaken (fun _ _ _ _ => trivial)) rfl hl.1 (Nat.le_of_ble_eq_true rfl) d_Gr_readAct_45 ⟨Nat.le_of_ble_eq_true rfl, Nat.le_of_ble_eq_true rfl⟩) hP hD hS hA [0, 1, 2, 3, 4, 5, 6, 7, 8, 9, 10, 11, 12, 13, 14, 15, 16, 17] [] rfl rfl (by decide) (by decide) (fun _ => rfl) (fun r2 u2 H locs hw hP hD hS => ?_) (fun x u H locs hw hP hD hS hE => ?_)
      · have hP : va_P D vwCl (w_Gr k ad_this (ad_this_words 0) q_this_names (ad_this_nodes 0) u2.1 ++ w_Nd k ad_this_nodes z_this_nodes ++ w_Wd k ad_this_words q_this_words_keywords u2.2) H := hP.sub [0, 1, 2, 3, 4, 5, 6, 7, 8, 9, 10, 11, 12, 13, 14, 15, 16, 17] rfl
        have hD : va_D A (w_Gr k ad_this (ad_this_words 0) q_this_names (ad_this_nodes 0) u2.1 ++ w_Nd k ad_this_nodes z_this_nodes ++ w_Wd k ad_this_words q_this_words_keywords u2.2) := hD.sub [0, 1, 2, 3, 4, 5, 6, 7, 8, 9, 10, 11, 12, 13, 14, 15, 16, 17] (by decide) rfl
        refine lv_lload_n hx hb d_Gr_readAct_48 rfl (lv_at hl 0 rfl) ?_
        refine lv_l2i hx hb d_Gr_readAct_49 rfl ?_
        exact xq_iret (r := ((z_this_words.2.2.2.2.2.2.2.2.2.2.2.2.2 / (1000 : Int64))).toInt32) (u := (u2.1, u2.2)) hx hb hr hlocks hAe hP hD hS rfl hw (Nat.le_of_ble_eq_true rfl) (Nat.le_of_ble_eq_true rfl) d_Gr_readAct_50
      · have hP : va_P D vwCl (w_Gr k ad_this (ad_this_words 0) q_this_names (ad_this_nodes 0) u.1 ++ w_Nd k ad_this_nodes z_this_nodes ++ w_Wd k ad_this_words q_this_words_keywords u.2) H := hP.sub [0, 1, 2, 3, 4, 5, 6, 7, 8, 9, 10, 11, 12, 13, 14, 15, 16, 17] rfl
        have hD : va_D A (w_Gr k ad_this (ad_this_words 0) q_this_names (ad_this_nodes 0) u.1 ++ w_Nd k ad_this_nodes z_this_nodes ++ w_Wd k ad_this_words q_this_words_keywords u.2) := hD.sub [0, 1, 2, 3, 4, 5, 6, 7, 8, 9, 10, 11, 12, 13, 14, 15, 16, 17] (by decide) rfl
        exact xq_out (u := (u.1, u.2)) hex hlocks hAe hP hD hS hw hE (Nat.le_of_ble_eq_true rfl) (Nat.le_of_ble_eq_true rfl)
    · have hw := hw.2 hc
      refine lv_aload_n hx hb d_Gr_readAct_33 rfl (lv_at hl 1 rfl) ?_
      refine lv_aload_n hx hb d_Gr_readAct_34 rfl (lv_at hl 1 rfl) ?_
      refine va_get (D := D) (ci := 6) (v := .ref (ad_this_words 0)) (C := R_Gr) (T := F_Gr) (N := 4) hx hb hts in_Gr hown hK hP 0 rfl rfl 0 (by decide) (hts (.fieldLink R_Gr 9 R_Gr "words" "LStepText$Words;") kw2_7) (fun _ h9 => h9) rfl d_Gr_readAct_35 ?_
      refine va_get (D := D) (ci := 2) (v := .int z_this_words.2.2.2.2.2.2.2.2.2.2.2.1) (C := R_Wd) (T := F_Wd) (N := 15) hx hb hts in_Wd hown hK hP 12 rfl rfl 12 (by decide) (hts (.fieldLink R_Gr 96 R_Wd "place" "I") kw1_111) (fun _ h9 => h9) rfl d_Gr_readAct_38 ?_
      refine xq_go (wr := w_Nd k ad_this_nodes z_this_nodes ++ w_Wd k ad_this_words q_this_words_keywords z_this_words) (stk := fun _ => []) (xq_runV (As := [.int z_this_words.2.2.2.2.2.2.2.2.2.2.2.1]) (rest := []) ⟨hx, hb, hml, hown, hts⟩ (c_Gr_refuse (l := l) (o := o) (D := D) (k := k) (ad_this := ad_this) (q_this_words := (ad_this_words 0)) (q_this_names := q_this_names) (q_this_nodes := (ad_this_nodes 0)) hw) (cw_Gr_refuse hts kw2_165 ⟨Nat.le_of_ble_eq_true rfl, Nat.le_of_ble_eq_true rfl⟩) (va_recv hK hP (ci := 6) (q0 := 0) rfl rfl) (hP.sub [0] rfl) hK hJ hS (va_free hD hS hA [0] rfl) ((hD.sub [0] (by decide) rfl).weaken (fun _ _ _ _ => trivial)) rfl hl.1 (Nat.le_of_ble_eq_true rfl) d_Gr_readAct_41 ⟨Nat.le_of_ble_eq_true rfl, Nat.le_of_ble_eq_true rfl⟩) hP hD hS hA [0] [1, 2, 3, 4, 5, 6, 7, 8, 9, 10, 11, 12, 13, 14, 15, 16, 17] rfl rfl (by decide) (by decide) (fun _ => rfl) (fun _ _ _ _ h9 => h9.elim) (fun x u H locs hw hP hD hS hE => ?_)
      have hP : va_P D vwCl (w_Gr k ad_this (ad_this_words 0) q_this_names (ad_this_nodes 0) u ++ w_Nd k ad_this_nodes z_this_nodes ++ w_Wd k ad_this_words q_this_words_keywords z_this_words) H := hP.sub [17, 0, 1, 2, 3, 4, 5, 6, 7, 8, 9, 10, 11, 12, 13, 14, 15, 16] rfl
      have hD : va_D A (w_Gr k ad_this (ad_this_words 0) q_this_names (ad_this_nodes 0) u ++ w_Nd k ad_this_nodes z_this_nodes ++ w_Wd k ad_this_words q_this_words_keywords z_this_words) := hD.sub [17, 0, 1, 2, 3, 4, 5, 6, 7, 8, 9, 10, 11, 12, 13, 14, 15, 16] (by decide) rfl
      exact xq_out (u := (u, z_this_words)) hex hlocks hAe hP hD hS hw hE (Nat.le_of_ble_eq_true rfl) (Nat.le_of_ble_eq_true rfl)
theorem cw_Gr_readAct {R : Room} {s : State} {args : Array Value} {own : String} {index : Nat} (hts : ∀ w ∈ xq_W, w.before args s = true) (hl : .methodLink own index y_Gr_readAct ∈ xq_W) {rm : Room} (hR : rm.frames + 1 ≤ R.frames ∧ 8 + (3 + 11) + rm.locals ≤ R.locals) : CallW R s args own "StepText$Grammar" index y_Gr_readAct prog_2_method_16_code 3 (some (.int)) (.code y_Gr_readAct prog_2_method_16_code 3 (some (.int)) :: xq_W) rm rm.cells rm.slots 0 := ⟨xq_cb 0 hts kw3_120 kw1_11 hl ⟨by decide, by decide, by decide +kernel⟩ hR, hts _ kw3_119, hts _ kp2_13⟩
def y_Gr_readUnit : MethodName := ⟨"StepText$Grammar", "readUnit", "()I"⟩
theorem d_Gr_readUnit_0 : decode prog_2_method_10_code 0 = .ok (.aload_n 0, 1) := by decide +kernel
theorem d_Gr_readUnit_1 : decode prog_2_method_10_code 1 = .ok (.invokevirtual 116, 3) := by decide +kernel
theorem d_Gr_readUnit_4 : decode prog_2_method_10_code 4 = .ok (.istore_n 1, 1) := by decide +kernel
theorem d_Gr_readUnit_5 : decode prog_2_method_10_code 5 = .ok (.iload_n 1, 1) := by decide +kernel
theorem d_Gr_readUnit_6 : decode prog_2_method_10_code 6 = .ok (.ifCond .le 7, 3) := by decide +kernel
theorem d_Gr_readUnit_9 : decode prog_2_method_10_code 9 = .ok (.aload_n 0, 1) := by decide +kernel
theorem d_Gr_readUnit_10 : decode prog_2_method_10_code 10 = .ok (.invokevirtual 105, 3) := by decide +kernel
theorem d_Gr_readUnit_13 : decode prog_2_method_10_code 13 = .ok (.iload_n 1, 1) := by decide +kernel
theorem d_Gr_readUnit_14 : decode prog_2_method_10_code 14 = .ok (.ireturn, 1) := by decide +kernel
def wp_Gr_readUnit (z_this : T_Gr) (z_this_nodes : T_Nd) (z_this_words : T_Wd) (post : Int32 → T_Gr × T_Wd → Prop) (postT : T_Gr × T_Wd → Prop) : Prop := wp_Gr_measureHere z_this z_this_words (fun (r1 : Int32) (u1 : Unit) => (r1 ≤ 0 → (post r1 (z_this, z_this_words))) ∧ (¬ r1 ≤ 0 → (wp_Gr_pass z_this z_this_nodes z_this_words (fun (r2 : Unit) (u2 : T_Gr × T_Wd) => post r1 (u2.1, u2.2)) (fun (u : T_Gr × T_Wd) => postT (u.1, u.2)))))
def rm_Gr_readUnit : Room := { frames := 8, cells := 1, slots := 6, locals := 141 }
set_option maxHeartbeats 4000000 in
set_option maxRecDepth 100000 in
theorem c_Gr_readUnit {l : Launch} {o : State × Array Value} {D : va_G} {k : Nat → ClassId} {ad_this : Nat → Nat} {ad_this_nodes : Nat → Nat} {ad_this_words : Nat → Nat} {q_this_names : Nat} {q_this_words_keywords : Nat} {z_this : T_Gr} {z_this_nodes : T_Nd} {z_this_words : T_Wd} {post : Int32 → T_Gr × T_Wd → Prop} {postT : T_Gr × T_Wd → Prop} (hw : wp_Gr_readUnit z_this z_this_nodes z_this_words post postT) : xq_C l o y_Gr_readUnit (.code y_Gr_readUnit prog_2_method_10_code 2 (some (.int)) :: xq_W) rm_Gr_readUnit D vwCl (xt k) [.ref (ad_this 0)] (w_Gr k ad_this (ad_this_words 0) q_this_names (ad_this_nodes 0) z_this ++ w_Nd k ad_this_nodes z_this_nodes ++ w_Wd k ad_this_words q_this_words_keywords z_this_words) (fun r : Int32 => some (.int r)) post postT (fun u : T_Gr × T_Wd => w_Gr k ad_this (ad_this_words 0) q_this_names (ad_this_nodes 0) u.1 ++ w_Nd k ad_this_nodes z_this_nodes ++ w_Wd k ad_this_words q_this_words_keywords u.2) 0 0 1 6 := by
  refine xq_ofW (cc := prog_2_method_10_code) (maxL := 2) (ret := (some (.int))) (by decide) rfl (Nat.le_of_ble_eq_true rfl) ?_
  intro p e s m below meth c ls H locs A hAt hAe hA hl hK hJ hP0 hP hD hS
  obtain ⟨hx, hb, hml, hr, hlocks, hown, hts, hex, hnm⟩ := id hAt
  have hl : lv_has ls 2 [(0, .ref (ad_this 0))] := hl
  unfold wp_Gr_readUnit at hw
  refine lv_aload_n hx hb d_Gr_readUnit_0 rfl (lv_at hl 0 rfl) ?_
  refine xq_go (wr := w_Nd k ad_this_nodes z_this_nodes) (stk := fun r => .int r :: []) (xq_runV (As := []) (rest := []) ⟨hx, hb, hml, hown, hts⟩ (c_Gr_measureHere (l := l) (o := o) (D := D) (k := k) (ad_this := ad_this) (ad_this_words := ad_this_words) (q_this_names := q_this_names) (q_this_nodes := (ad_this_nodes 0)) (q_this_words_keywords := q_this_words_keywords) hw) (cw_Gr_measureHere hts kw3_60 ⟨Nat.le_of_ble_eq_true rfl, Nat.le_of_ble_eq_true rfl⟩) (va_recv hK hP (ci := 6) (q0 := 0) rfl rfl) (hP.sub [0, 12, 13, 14, 15, 16, 17] rfl) hK hJ hS (va_free hD hS hA [0, 12, 13, 14, 15, 16, 17] rfl) ((hD.sub [0, 12, 13, 14, 15, 16, 17] (by decide) rfl).weaken (fun _ _ _ _ => trivial)) rfl hl.1 (Nat.le_of_ble_eq_true rfl) d_Gr_readUnit_1 ⟨Nat.le_of_ble_eq_true rfl, Nat.le_of_ble_eq_true rfl⟩) hP hD hS hA [0, 12, 13, 14, 15, 16, 17] [1, 2, 3, 4, 5, 6, 7, 8, 9, 10, 11] rfl rfl (by decide) (by decide) (fun _ => rfl) (fun r1 u1 H locs hw hP hD hS => ?_) (fun _ _ _ _ h9 => h9.elim)
  have hP : va_P D vwCl (w_Gr k ad_this (ad_this_words 0) q_this_names (ad_this_nodes 0) z_this ++ w_Nd k ad_this_nodes z_this_nodes ++ w_Wd k ad_this_words q_this_words_keywords z_this_words) H := hP.sub [11, 0, 1, 2, 3, 4, 5, 6, 7, 8, 9, 10, 12, 13, 14, 15, 16, 17] rfl
  have hD : va_D A (w_Gr k ad_this (ad_this_words 0) q_this_names (ad_this_nodes 0) z_this ++ w_Nd k ad_this_nodes z_this_nodes ++ w_Wd k ad_this_words q_this_words_keywords z_this_words) := hD.sub [11, 0, 1, 2, 3, 4, 5, 6, 7, 8, 9, 10, 12, 13, 14, 15, 16, 17] (by decide) rfl
  refine lv_istore_n (lv' := [(1, .int r1), (0, .ref (ad_this 0))]) hx hb d_Gr_readUnit_4 rfl hl (by decide) rfl (fun ls hl => ?_)
  refine lv_iload_n hx hb d_Gr_readUnit_5 rfl (lv_at hl 0 rfl) ?_
  refine lv_if_le (tgt := 13) hx hb d_Gr_readUnit_6 (by decide) (fun hc => ?_) (fun hc => ?_)
  · have hw := hw.1 hc
    refine lv_iload_n hx hb d_Gr_readUnit_13 rfl (lv_at hl 0 rfl) ?_
    exact xq_iret (r := r1) (u := (z_this, z_this_words)) hx hb hr hlocks hAe hP hD hS rfl hw (Nat.le_of_ble_eq_true rfl) (Nat.le_of_ble_eq_true rfl) d_Gr_readUnit_14
  · have hw := hw.2 hc
    refine lv_aload_n hx hb d_Gr_readUnit_9 rfl (lv_at hl 1 rfl) ?_
    refine xq_go (wr := ([] : va_W)) (stk := fun _ => []) (xq_runV (As := []) (rest := []) ⟨hx, hb, hml, hown, hts⟩ (c_Gr_pass (l := l) (o := o) (D := D) (k := k) (ad_this := ad_this) (ad_this_nodes := ad_this_nodes) (ad_this_words := ad_this_words) (q_this_names := q_this_names) (q_this_words_keywords := q_this_words_keywords) hw) (cw_Gr_pass hts kw2_157 ⟨Nat.le_of_ble_eq_true rfl, Nat.le_of_ble_eq_true rfl⟩) (va_recv hK hP (ci := 6) (q0 := 0) rfl rfl) (hP.sub [0, 1, 2, 3, 4, 5, 6, 7, 8, 9, 10, 11, 12, 13, 14, 15, 16, 17] rfl) hK hJ hS (va_free hD hS hA [0, 1, 2, 3, 4, 5, 6, 7, 8, 9, 10, 11, 12, 13, 14, 15, 16, 17] rfl) ((hD.sub [0, 1, 2, 3, 4, 5, 6, 7, 8, 9, 10, 11, 12, 13, 14, 15, 16, 17] (by decide) rfl).weaken (fun _ _ _ _ => trivial)) rfl hl.1 (Nat.le_of_ble_eq_true rfl) d_Gr_readUnit_10 ⟨Nat.le_of_ble_eq_true rfl, Nat.le_of_ble_eq_true rfl⟩) hP hD hS hA [0, 1, 2, 3, 4, 5, 6, 7, 8, 9, 10, 11, 12, 13, 14, 15, 16, 17] [] rfl rfl (by decide) (by decide) (fun _ => rfl) (fun r2 u2 H locs hw hP hD hS => ?_) (fun x u H locs hw hP hD hS hE => ?_)
    · have hP : va_P D vwCl (w_Gr k ad_this (ad_this_words 0) q_this_names (ad_this_nodes 0) u2.1 ++ w_Nd k ad_this_nodes z_this_nodes ++ w_Wd k ad_this_words q_this_words_keywords u2.2) H := hP.sub [0, 1, 2, 3, 4, 5, 6, 7, 8, 9, 10, 11, 12, 13, 14, 15, 16, 17] rfl
      have hD : va_D A (w_Gr k ad_this (ad_this_words 0) q_this_names (ad_this_nodes 0) u2.1 ++ w_Nd k ad_this_nodes z_this_nodes ++ w_Wd k ad_this_words q_this_words_keywords u2.2) := hD.sub [0, 1, 2, 3, 4, 5, 6, 7, 8, 9, 10, 11, 12, 13, 14, 15, 16, 17] (by decide) rfl
      refine lv_iload_n hx hb d_Gr_readUnit_13 rfl (lv_at hl 0 rfl) ?_
      exact xq_iret (r := r1) (u := (u2.1, u2.2)) hx hb hr hlocks hAe hP hD hS rfl hw (Nat.le_of_ble_eq_true rfl) (Nat.le_of_ble_eq_true rfl) d_Gr_readUnit_14
    · have hP : va_P D vwCl (w_Gr k ad_this (ad_this_words 0) q_this_names (ad_this_nodes 0) u.1 ++ w_Nd k ad_this_nodes z_this_nodes ++ w_Wd k ad_this_words q_this_words_keywords u.2) H := hP.sub [0, 1, 2, 3, 4, 5, 6, 7, 8, 9, 10, 11, 12, 13, 14, 15, 16, 17] rfl
      have hD : va_D A (w_Gr k ad_this (ad_this_words 0) q_this_names (ad_this_nodes 0) u.1 ++ w_Nd k ad_this_nodes z_this_nodes ++ w_Wd k ad_this_words q_this_words_keywords u.2) := hD.sub [0, 1, 2, 3, 4, 5, 6, 7, 8, 9, 10, 11, 12, 13, 14, 15, 16, 17] (by decide) rfl
      exact xq_out (u := (u.1, u.2)) hex hlocks hAe hP hD hS hw hE (Nat.le_of_ble_eq_true rfl) (Nat.le_of_ble_eq_true rfl)
theorem cw_Gr_readUnit {R : Room} {s : State} {args : Array Value} {own : String} {index : Nat} (hts : ∀ w ∈ xq_W, w.before args s = true) (hl : .methodLink own index y_Gr_readUnit ∈ xq_W) {rm : Room} (hR : rm.frames + 1 ≤ R.frames ∧ 8 + (2 + 11) + rm.locals ≤ R.locals) : CallW R s args own "StepText$Grammar" index y_Gr_readUnit prog_2_method_10_code 2 (some (.int)) (.code y_Gr_readUnit prog_2_method_10_code 2 (some (.int)) :: xq_W) rm rm.cells rm.slots 0 := ⟨xq_cb 0 hts kw3_137 kw1_11 hl ⟨by decide, by decide, by decide +kernel⟩ hR, hts _ kw3_136, hts _ kp2_15⟩
