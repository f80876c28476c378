theorem kw1_103 : (Jvm.Cond.fieldLink "StepText$Words" (33 : Nat) "StepText$Words" "length" "I") ∈ xq_W := xq_in tb_1 103 (by decide +kernel) rfl
theorem kw1_98 : (Jvm.Cond.fieldLink "StepText$Words" (9 : Nat) "StepText$Words" "text" "[B") ∈ xq_W := xq_in tb_1 98 (by decide +kernel) rfl
theorem kw2_73 : (Jvm.Cond.code ({ cls := "StepText$Words", name := "append", desc := "(I)Z" } : Jvm.MethodName) prog_8_method_2_code (2 : Nat) (Option.some Jvm.ClassFile.FieldType.boolean)) ∈ xq_W := xq_in tb_2 73 (by decide +kernel) rfl
theorem kw1_7 : (Jvm.Cond.initialized "StepText$Words") ∈ xq_W := xq_in tb_1 7 (by decide +kernel) rfl
theorem kw2_71 : (Jvm.Cond.instanceMethod ({ cls := "StepText$Words", name := "append", desc := "(I)Z" } : Jvm.MethodName)) ∈ xq_W := xq_in tb_2 71 (by decide +kernel) rfl
theorem kw2_72 : (Jvm.Cond.selects "StepText$Words" ({ cls := "StepText$Words", name := "append", desc := "(I)Z" } : Jvm.MethodName) ({ cls := "StepText$Words", name := "append", desc := "(I)Z" } : Jvm.MethodName)) ∈ xq_W := xq_in tb_2 72 (by decide +kernel) rfl
theorem kw2_128 : (Jvm.Cond.code ({ cls := "StepText$Words", name := "forget", desc := "()V" } : Jvm.MethodName) prog_8_method_3_code (1 : Nat) (Option.none : Option Jvm.ClassFile.FieldType)) ∈ xq_W := xq_in tb_2 128 (by decide +kernel) rfl
theorem kw2_126 : (Jvm.Cond.instanceMethod ({ cls := "StepText$Words", name := "forget", desc := "()V" } : Jvm.MethodName)) ∈ xq_W := xq_in tb_2 126 (by decide +kernel) rfl
theorem kw2_127 : (Jvm.Cond.selects "StepText$Words" ({ cls := "StepText$Words", name := "forget", desc := "()V" } : Jvm.MethodName) ({ cls := "StepText$Words", name := "forget", desc := "()V" } : Jvm.MethodName)) ∈ xq_W := xq_in tb_2 127 (by decide +kernel) rfl
theorem kw2_90 : (Jvm.Cond.code ({ cls := "StepText$Words", name := "byteAt", desc := "(I)I" } : Jvm.MethodName) prog_8_method_12_code (2 : Nat) (Option.some Jvm.ClassFile.FieldType.int)) ∈ xq_W := xq_in tb_2 90 (by decide +kernel) rfl
theorem kw2_89 : (Jvm.Cond.instanceMethod ({ cls := "StepText$Words", name := "byteAt", desc := "(I)I" } : Jvm.MethodName)) ∈ xq_W := xq_in tb_2 89 (by decide +kernel) rfl
theorem kp1_1 : Cond.selects "StepText$Words" (⟨"StepText$Words", "byteAt", "(I)I"⟩ : MethodName) (⟨"StepText$Words", "byteAt", "(I)I"⟩ : MethodName) ∈ xq_W := xq_inp tp_1 (y := (⟨"StepText$Words", "byteAt", "(I)I"⟩ : MethodName)) (k := 15) 1 (by decide +kernel)
theorem kw2_93 : (Jvm.Cond.code ({ cls := "StepText$Words", name := "isBlank", desc := "(I)Z" } : Jvm.MethodName) prog_8_method_13_code (1 : Nat) (Option.some Jvm.ClassFile.FieldType.boolean)) ∈ xq_W := xq_in tb_2 93 (by decide +kernel) rfl
theorem kw2_92 : (Jvm.Cond.static ({ cls := "StepText$Words", name := "isBlank", desc := "(I)Z" } : Jvm.MethodName)) ∈ xq_W := xq_in tb_2 92 (by decide +kernel) rfl
theorem kw1_106 : (Jvm.Cond.fieldLink "StepText$Words" (37 : Nat) "StepText$Words" "scan" "I") ∈ xq_W := xq_in tb_1 106 (by decide +kernel) rfl
theorem kw2_87 : (Jvm.Cond.methodLink "StepText$Words" (75 : Nat) ({ cls := "StepText$Words", name := "byteAt", desc := "(I)I" } : Jvm.MethodName)) ∈ xq_W := xq_in tb_2 87 (by decide +kernel) rfl
theorem kw2_91 : (Jvm.Cond.methodLink "StepText$Words" (79 : Nat) ({ cls := "StepText$Words", name := "isBlank", desc := "(I)Z" } : Jvm.MethodName)) ∈ xq_W := xq_in tb_2 91 (by decide +kernel) rfl
theorem kw1_107 : (Jvm.Cond.fieldLink "StepText$Words" (40 : Nat) "StepText$Words" "scanRow" "I") ∈ xq_W := xq_in tb_1 107 (by decide +kernel) rfl
theorem kw2_86 : (Jvm.Cond.code ({ cls := "StepText$Words", name := "skipBlanks", desc := "()V" } : Jvm.MethodName) prog_8_method_6_code (2 : Nat) (Option.none : Option Jvm.ClassFile.FieldType)) ∈ xq_W := xq_in tb_2 86 (by decide +kernel) rfl
theorem kw2_85 : (Jvm.Cond.instanceMethod ({ cls := "StepText$Words", name := "skipBlanks", desc := "()V" } : Jvm.MethodName)) ∈ xq_W := xq_in tb_2 85 (by decide +kernel) rfl
theorem kp1_0 : Cond.selects "StepText$Words" (⟨"StepText$Words", "skipBlanks", "()V"⟩ : MethodName) (⟨"StepText$Words", "skipBlanks", "()V"⟩ : MethodName) ∈ xq_W := xq_inp tp_1 (y := (⟨"StepText$Words", "skipBlanks", "()V"⟩ : MethodName)) (k := 15) 0 (by decide +kernel)
theorem kw2_100 : (Jvm.Cond.code ({ cls := "StepText$Words", name := "isDigit", desc := "(I)Z" } : Jvm.MethodName) prog_8_method_14_code (1 : Nat) (Option.some Jvm.ClassFile.FieldType.boolean)) ∈ xq_W := xq_in tb_2 100 (by decide +kernel) rfl
theorem kw2_99 : (Jvm.Cond.static ({ cls := "StepText$Words", name := "isDigit", desc := "(I)Z" } : Jvm.MethodName)) ∈ xq_W := xq_in tb_2 99 (by decide +kernel) rfl
theorem kw1_104 : (Jvm.Cond.fieldLink "StepText$Words" (43 : Nat) "StepText$Words" "count" "I") ∈ xq_W := xq_in tb_1 104 (by decide +kernel) rfl
theorem kw1_99 : (Jvm.Cond.fieldLink "StepText$Words" (15 : Nat) "StepText$Words" "codes" "[I") ∈ xq_W := xq_in tb_1 99 (by decide +kernel) rfl
theorem kw1_100 : (Jvm.Cond.fieldLink "StepText$Words" (19 : Nat) "StepText$Words" "places" "[I") ∈ xq_W := xq_in tb_1 100 (by decide +kernel) rfl
theorem kw1_101 : (Jvm.Cond.fieldLink "StepText$Words" (22 : Nat) "StepText$Words" "rows" "[I") ∈ xq_W := xq_in tb_1 101 (by decide +kernel) rfl
theorem kw1_102 : (Jvm.Cond.fieldLink "StepText$Words" (25 : Nat) "StepText$Words" "values" "[J") ∈ xq_W := xq_in tb_1 102 (by decide +kernel) rfl
theorem kw2_115 : (Jvm.Cond.code ({ cls := "StepText$Words", name := "keep", desc := "(IIJ)V" } : Jvm.MethodName) prog_8_method_11_code (5 : Nat) (Option.none : Option Jvm.ClassFile.FieldType)) ∈ xq_W := xq_in tb_2 115 (by decide +kernel) rfl
theorem kw2_114 : (Jvm.Cond.instanceMethod ({ cls := "StepText$Words", name := "keep", desc := "(IIJ)V" } : Jvm.MethodName)) ∈ xq_W := xq_in tb_2 114 (by decide +kernel) rfl
theorem kp1_5 : Cond.selects "StepText$Words" (⟨"StepText$Words", "keep", "(IIJ)V"⟩ : MethodName) (⟨"StepText$Words", "keep", "(IIJ)V"⟩ : MethodName) ∈ xq_W := xq_inp tp_1 (y := (⟨"StepText$Words", "keep", "(IIJ)V"⟩ : MethodName)) (k := 15) 5 (by decide +kernel)
theorem kw2_112 : (Jvm.Cond.methodLink "StepText$Words" (97 : Nat) ({ cls := "StepText$Words", name := "keep", desc := "(IIJ)V" } : Jvm.MethodName)) ∈ xq_W := xq_in tb_2 112 (by decide +kernel) rfl
theorem kw2_111 : (Jvm.Cond.methodLink "StepText$Words" (89 : Nat) ({ cls := "StepText$Keywords", name := "rank", desc := "(I)I" } : Jvm.MethodName)) ∈ xq_W := xq_in tb_2 111 (by decide +kernel) rfl
theorem kw2_110 : (Jvm.Cond.code ({ cls := "StepText$Words", name := "keepJoined", desc := "(IIJ)Z" } : Jvm.MethodName) prog_8_method_10_code (6 : Nat) (Option.some Jvm.ClassFile.FieldType.boolean)) ∈ xq_W := xq_in tb_2 110 (by decide +kernel) rfl
theorem kw2_109 : (Jvm.Cond.instanceMethod ({ cls := "StepText$Words", name := "keepJoined", desc := "(IIJ)Z" } : Jvm.MethodName)) ∈ xq_W := xq_in tb_2 109 (by decide +kernel) rfl
theorem kp1_4 : Cond.selects "StepText$Words" (⟨"StepText$Words", "keepJoined", "(IIJ)Z"⟩ : MethodName) (⟨"StepText$Words", "keepJoined", "(IIJ)Z"⟩ : MethodName) ∈ xq_W := xq_inp tp_1 (y := (⟨"StepText$Words", "keepJoined", "(IIJ)Z"⟩ : MethodName)) (k := 15) 4 (by decide +kernel)
theorem kw2_98 : (Jvm.Cond.methodLink "StepText$Words" (83 : Nat) ({ cls := "StepText$Words", name := "isDigit", desc := "(I)Z" } : Jvm.MethodName)) ∈ xq_W := xq_in tb_2 98 (by decide +kernel) rfl
theorem kw2_105 : (Jvm.Cond.constantLong "StepText$Words" (111 : Nat) (10 : Int64)) ∈ xq_W := xq_in tb_2 105 (by decide +kernel) rfl
theorem kw2_106 : (Jvm.Cond.constantLong "StepText$Words" (113 : Nat) (48 : Int64)) ∈ xq_W := xq_in tb_2 106 (by decide +kernel) rfl
theorem kw2_107 : (Jvm.Cond.methodLink "StepText$Words" (107 : Nat) ({ cls := "StepText$Words", name := "keepJoined", desc := "(IIJ)Z" } : Jvm.MethodName)) ∈ xq_W := xq_in tb_2 107 (by decide +kernel) rfl
theorem kw2_104 : (Jvm.Cond.code ({ cls := "StepText$Words", name := "splitNumber", desc := "()Z" } : Jvm.MethodName) prog_8_method_9_code (7 : Nat) (Option.some Jvm.ClassFile.FieldType.boolean)) ∈ xq_W := xq_in tb_2 104 (by decide +kernel) rfl
theorem kw2_103 : (Jvm.Cond.instanceMethod ({ cls := "StepText$Words", name := "splitNumber", desc := "()Z" } : Jvm.MethodName)) ∈ xq_W := xq_in tb_2 103 (by decide +kernel) rfl
theorem kp1_3 : Cond.selects "StepText$Words" (⟨"StepText$Words", "splitNumber", "()Z"⟩ : MethodName) (⟨"StepText$Words", "splitNumber", "()Z"⟩ : MethodName) ∈ xq_W := xq_inp tp_1 (y := (⟨"StepText$Words", "splitNumber", "()Z"⟩ : MethodName)) (k := 15) 3 (by decide +kernel)
theorem kw2_120 : (Jvm.Cond.constantLong "StepText$Words" (101 : Nat) (37 : Int64)) ∈ xq_W := xq_in tb_2 120 (by decide +kernel) rfl
theorem kw1_97 : (Jvm.Cond.fieldLink "StepText$Words" (29 : Nat) "StepText$Words" "keywords" "LStepText$Keywords;") ∈ xq_W := xq_in tb_1 97 (by decide +kernel) rfl
theorem kw2_121 : (Jvm.Cond.methodLink "StepText$Words" (103 : Nat) ({ cls := "StepText$Keywords", name := "codeOf", desc := "(J)I" } : Jvm.MethodName)) ∈ xq_W := xq_in tb_2 121 (by decide +kernel) rfl
theorem kw2_119 : (Jvm.Cond.code ({ cls := "StepText$Words", name := "splitLetters", desc := "()Z" } : Jvm.MethodName) prog_8_method_8_code (5 : Nat) (Option.some Jvm.ClassFile.FieldType.boolean)) ∈ xq_W := xq_in tb_2 119 (by decide +kernel) rfl
theorem kw2_118 : (Jvm.Cond.instanceMethod ({ cls := "StepText$Words", name := "splitLetters", desc := "()Z" } : Jvm.MethodName)) ∈ xq_W := xq_in tb_2 118 (by decide +kernel) rfl
theorem kp1_6 : Cond.selects "StepText$Words" (⟨"StepText$Words", "splitLetters", "()Z"⟩ : MethodName) (⟨"StepText$Words", "splitLetters", "()Z"⟩ : MethodName) ∈ xq_W := xq_inp tp_1 (y := (⟨"StepText$Words", "splitLetters", "()Z"⟩ : MethodName)) (k := 15) 6 (by decide +kernel)
theorem kw2_116 : (Jvm.Cond.methodLink "StepText$Words" (94 : Nat) ({ cls := "StepText$Words", name := "splitLetters", desc := "()Z" } : Jvm.MethodName)) ∈ xq_W := xq_in tb_2 116 (by decide +kernel) rfl
theorem kw2_101 : (Jvm.Cond.methodLink "StepText$Words" (86 : Nat) ({ cls := "StepText$Words", name := "splitNumber", desc := "()Z" } : Jvm.MethodName)) ∈ xq_W := xq_in tb_2 101 (by decide +kernel) rfl
theorem kw2_97 : (Jvm.Cond.code ({ cls := "StepText$Words", name := "splitWord", desc := "()Z" } : Jvm.MethodName) prog_8_method_7_code (2 : Nat) (Option.some Jvm.ClassFile.FieldType.boolean)) ∈ xq_W := xq_in tb_2 97 (by decide +kernel) rfl
theorem kw2_96 : (Jvm.Cond.instanceMethod ({ cls := "StepText$Words", name := "splitWord", desc := "()Z" } : Jvm.MethodName)) ∈ xq_W := xq_in tb_2 96 (by decide +kernel) rfl
theorem kp1_2 : Cond.selects "StepText$Words" (⟨"StepText$Words", "splitWord", "()Z"⟩ : MethodName) (⟨"StepText$Words", "splitWord", "()Z"⟩ : MethodName) ∈ xq_W := xq_inp tp_1 (y := (⟨"StepText$Words", "splitWord", "()Z"⟩ : MethodName)) (k := 15) 2 (by decide +kernel)
theorem kw1_105 : (Jvm.Cond.fieldLink "StepText$Words" (56 : Nat) "StepText$Words" "current" "I") ∈ xq_W := xq_in tb_1 105 (by decide +kernel) rfl
theorem kw1_109 : (Jvm.Cond.fieldLink "StepText$Words" (62 : Nat) "StepText$Words" "code" "I") ∈ xq_W := xq_in tb_1 109 (by decide +kernel) rfl
theorem kw1_110 : (Jvm.Cond.fieldLink "StepText$Words" (65 : Nat) "StepText$Words" "place" "I") ∈ xq_W := xq_in tb_1 110 (by decide +kernel) rfl
theorem kw1_113 : (Jvm.Cond.fieldLink "StepText$Words" (68 : Nat) "StepText$Words" "row" "I") ∈ xq_W := xq_in tb_1 113 (by decide +kernel) rfl
theorem kw1_114 : (Jvm.Cond.fieldLink "StepText$Words" (71 : Nat) "StepText$Words" "value" "J") ∈ xq_W := xq_in tb_1 114 (by decide +kernel) rfl
theorem kw2_132 : (Jvm.Cond.code ({ cls := "StepText$Words", name := "advance", desc := "()V" } : Jvm.MethodName) prog_8_method_5_code (1 : Nat) (Option.none : Option Jvm.ClassFile.FieldType)) ∈ xq_W := xq_in tb_2 132 (by decide +kernel) rfl
theorem kw2_130 : (Jvm.Cond.instanceMethod ({ cls := "StepText$Words", name := "advance", desc := "()V" } : Jvm.MethodName)) ∈ xq_W := xq_in tb_2 130 (by decide +kernel) rfl
theorem kw2_131 : (Jvm.Cond.selects "StepText$Words" ({ cls := "StepText$Words", name := "advance", desc := "()V" } : Jvm.MethodName) ({ cls := "StepText$Words", name := "advance", desc := "()V" } : Jvm.MethodName)) ∈ xq_W := xq_in tb_2 131 (by decide +kernel) rfl
theorem kw2_83 : (Jvm.Cond.methodLink "StepText$Words" (46 : Nat) ({ cls := "StepText$Words", name := "skipBlanks", desc := "()V" } : Jvm.MethodName)) ∈ xq_W := xq_in tb_2 83 (by decide +kernel) rfl
theorem kw2_94 : (Jvm.Cond.methodLink "StepText$Words" (49 : Nat) ({ cls := "StepText$Words", name := "splitWord", desc := "()Z" } : Jvm.MethodName)) ∈ xq_W := xq_in tb_2 94 (by decide +kernel) rfl
theorem kw2_125 : (Jvm.Cond.methodLink "StepText$Words" (53 : Nat) ({ cls := "StepText$Words", name := "forget", desc := "()V" } : Jvm.MethodName)) ∈ xq_W := xq_in tb_2 125 (by decide +kernel) rfl
theorem kw2_129 : (Jvm.Cond.methodLink "StepText$Words" (59 : Nat) ({ cls := "StepText$Words", name := "advance", desc := "()V" } : Jvm.MethodName)) ∈ xq_W := xq_in tb_2 129 (by decide +kernel) rfl
theorem kw2_82 : (Jvm.Cond.code ({ cls := "StepText$Words", name := "split", desc := "()V" } : Jvm.MethodName) prog_8_method_4_code (3 : Nat) (Option.none : Option Jvm.ClassFile.FieldType)) ∈ xq_W := xq_in tb_2 82 (by decide +kernel) rfl
theorem kw2_80 : (Jvm.Cond.instanceMethod ({ cls := "StepText$Words", name := "split", desc := "()V" } : Jvm.MethodName)) ∈ xq_W := xq_in tb_2 80 (by decide +kernel) rfl
theorem kw2_81 : (Jvm.Cond.selects "StepText$Words" ({ cls := "StepText$Words", name := "split", desc := "()V" } : Jvm.MethodName) ({ cls := "StepText$Words", name := "split", desc := "()V" } : Jvm.MethodName)) ∈ xq_W := xq_in tb_2 81 (by decide +kernel) rfl
def y_Wd_append : MethodName := ⟨"StepText$Words", "append", "(I)Z"⟩
theorem d_Wd_append_0 : decode prog_8_method_2_code 0 = .ok (.iload_n 1, 1) := by decide +kernel
theorem d_Wd_append_1 : decode prog_8_method_2_code 1 = .ok (.iconst 1, 1) := by decide +kernel
theorem d_Wd_append_2 : decode prog_8_method_2_code 2 = .ok (.if_icmp .lt 19, 3) := by decide +kernel
theorem d_Wd_append_5 : decode prog_8_method_2_code 5 = .ok (.iload_n 1, 1) := by decide +kernel
theorem d_Wd_append_6 : decode prog_8_method_2_code 6 = .ok (.bipush 127, 2) := by decide +kernel
theorem d_Wd_append_8 : decode prog_8_method_2_code 8 = .ok (.if_icmp .gt 13, 3) := by decide +kernel
theorem d_Wd_append_11 : decode prog_8_method_2_code 11 = .ok (.aload_n 0, 1) := by decide +kernel
theorem d_Wd_append_12 : decode prog_8_method_2_code 12 = .ok (.getfield 33, 3) := by decide +kernel
theorem d_Wd_append_15 : decode prog_8_method_2_code 15 = .ok (.sipush 4000, 3) := by decide +kernel
theorem d_Wd_append_18 : decode prog_8_method_2_code 18 = .ok (.if_icmp .lt 5, 3) := by decide +kernel
theorem d_Wd_append_21 : decode prog_8_method_2_code 21 = .ok (.iconst 0, 1) := by decide +kernel
theorem d_Wd_append_22 : decode prog_8_method_2_code 22 = .ok (.ireturn, 1) := by decide +kernel
theorem d_Wd_append_23 : decode prog_8_method_2_code 23 = .ok (.aload_n 0, 1) := by decide +kernel
theorem d_Wd_append_24 : decode prog_8_method_2_code 24 = .ok (.getfield 9, 3) := by decide +kernel
theorem d_Wd_append_27 : decode prog_8_method_2_code 27 = .ok (.aload_n 0, 1) := by decide +kernel
theorem d_Wd_append_28 : decode prog_8_method_2_code 28 = .ok (.getfield 33, 3) := by decide +kernel
theorem d_Wd_append_31 : decode prog_8_method_2_code 31 = .ok (.iload_n 1, 1) := by decide +kernel
theorem d_Wd_append_32 : decode prog_8_method_2_code 32 = .ok (.i2b, 1) := by decide +kernel
theorem d_Wd_append_33 : decode prog_8_method_2_code 33 = .ok (.bastore, 1) := by decide +kernel
theorem d_Wd_append_34 : decode prog_8_method_2_code 34 = .ok (.aload_n 0, 1) := by decide +kernel
theorem d_Wd_append_35 : decode prog_8_method_2_code 35 = .ok (.dup, 1) := by decide +kernel
theorem d_Wd_append_36 : decode prog_8_method_2_code 36 = .ok (.getfield 33, 3) := by decide +kernel
theorem d_Wd_append_39 : decode prog_8_method_2_code 39 = .ok (.iconst 1, 1) := by decide +kernel
theorem d_Wd_append_40 : decode prog_8_method_2_code 40 = .ok (.iadd, 1) := by decide +kernel
theorem d_Wd_append_41 : decode prog_8_method_2_code 41 = .ok (.putfield 33, 3) := by decide +kernel
theorem d_Wd_append_44 : decode prog_8_method_2_code 44 = .ok (.iconst 1, 1) := by decide +kernel
theorem d_Wd_append_45 : decode prog_8_method_2_code 45 = .ok (.ireturn, 1) := by decide +kernel
def wp_Wd_append (z_this : T_Wd) (a1 : Int32) (post : Int32 → T_Wd → Prop) : Prop := (a1 < (1 : Int32) → (post (0 : Int32) z_this)) ∧ (¬ a1 < (1 : Int32) → (((127 : Int32) < a1 → (post (0 : Int32) z_this)) ∧ (¬ (127 : Int32) < a1 → ((z_this.2.2.2.2.2.1 < (4000 : Int32) → (vp_in z_this.2.2.2.2.2.1 4000 ∧ (post (1 : Int32) ((upd z_this.1 (z_this.2.2.2.2.2.1).toNatClampNeg (vp_nar .byte (a1).toInt8.toInt32)), z_this.2.1, z_this.2.2.1, z_this.2.2.2.1, z_this.2.2.2.2.1, (z_this.2.2.2.2.2.1 + (1 : Int32)), z_this.2.2.2.2.2.2.1, z_this.2.2.2.2.2.2.2.1, z_this.2.2.2.2.2.2.2.2.1, z_this.2.2.2.2.2.2.2.2.2.1, z_this.2.2.2.2.2.2.2.2.2.2.1, z_this.2.2.2.2.2.2.2.2.2.2.2.1, z_this.2.2.2.2.2.2.2.2.2.2.2.2.1, z_this.2.2.2.2.2.2.2.2.2.2.2.2.2)))) ∧ (¬ z_this.2.2.2.2.2.1 < (4000 : Int32) → (post (0 : Int32) z_this))))))
def rm_Wd_append : Room := { frames := 0, cells := 0, slots := 0, locals := 0 }
set_option maxHeartbeats 4000000 in
set_option maxRecDepth 100000 in
theorem c_Wd_append {l : Launch} {o : State × Array Value} {D : va_G} {k : Nat → ClassId} {ad_this : Nat → Nat} {q_this_keywords : Nat} {z_this : T_Wd} {a1 : Int32} {post : Int32 → T_Wd → Prop} (hw : wp_Wd_append z_this a1 post) : xq_C l o y_Wd_append (.code y_Wd_append prog_8_method_2_code 2 (some (.boolean)) :: xq_W) rm_Wd_append D vwCl (xt k) [.ref (ad_this 0), .int a1] (w_Wd k ad_this q_this_keywords z_this) (fun r : Int32 => some (.int r)) post (fun _ : T_Wd => False) (fun u : T_Wd => w_Wd k ad_this q_this_keywords u) 0 0 0 0 := by
  refine xq_ofW (cc := prog_8_method_2_code) (maxL := 2) (ret := (some (.boolean))) (by decide) rfl (Nat.le_of_ble_eq_true rfl) ?_
  intro p e s m below meth c ls H locs A hAt hAe hA hl hK hJ hP0 hP hD hS
  obtain ⟨hx, hb, hml, hr, hlocks, hown, hts, hex, hnm⟩ := id hAt
  have hl : lv_has ls 2 [(0, .ref (ad_this 0)), (1, .int a1)] := hl
  unfold wp_Wd_append at hw
  refine lv_iload_n hx hb d_Wd_append_0 rfl (lv_at hl 1 rfl) ?_
  refine lv_iconst (v := (1 : Int32)) hx hb d_Wd_append_1 (by decide) ?_
  refine lv_icmp_lt (tgt := 21) hx hb d_Wd_append_2 (by decide) (fun hc => ?_) (fun hc => ?_)
  · have hw := hw.1 hc
    refine lv_iconst (v := (0 : Int32)) hx hb d_Wd_append_21 (by decide) ?_
    exact xq_zret (r := (0 : Int32)) (u := z_this) hx hb hr hlocks hAe hP hD hS rfl rfl hw (Nat.le_of_ble_eq_true rfl) (Nat.le_of_ble_eq_true rfl) d_Wd_append_22
  · have hw := hw.2 hc
    refine lv_iload_n hx hb d_Wd_append_5 rfl (lv_at hl 1 rfl) ?_
    refine lv_bipush (v := (127 : Int32)) hx hb d_Wd_append_6 (by decide) ?_
    refine lv_icmp_gt (tgt := 21) hx hb d_Wd_append_8 (by decide) (fun hc => ?_) (fun hc => ?_)
    · have hw := hw.1 hc
      refine lv_iconst (v := (0 : Int32)) hx hb d_Wd_append_21 (by decide) ?_
      exact xq_zret (r := (0 : Int32)) (u := z_this) hx hb hr hlocks hAe hP hD hS rfl rfl hw (Nat.le_of_ble_eq_true rfl) (Nat.le_of_ble_eq_true rfl) d_Wd_append_22
    · have hw := hw.2 hc
      refine lv_aload_n hx hb d_Wd_append_11 rfl (lv_at hl 0 rfl) ?_
      refine va_get (D := D) (ci := 2) (v := .int z_this.2.2.2.2.2.1) (C := R_Wd) (T := F_Wd) (N := 15) hx hb hts in_Wd hown hK hP 0 rfl rfl 6 (by decide) (hts (.fieldLink R_Wd 33 R_Wd "length" "I") kw1_103) (fun _ h9 => h9) rfl d_Wd_append_12 ?_
      refine lv_sipush (v := (4000 : Int32)) hx hb d_Wd_append_15 (by decide) ?_
      refine lv_icmp_lt (tgt := 23) hx hb d_Wd_append_18 (by decide) (fun hc => ?_) (fun hc => ?_)
      · have hw := hw.1 hc
        refine lv_aload_n hx hb d_Wd_append_23 rfl (lv_at hl 0 rfl) ?_
        refine va_get (D := D) (ci := 2) (v := .ref (ad_this 1)) (C := R_Wd) (T := F_Wd) (N := 15) hx hb hts in_Wd hown hK hP 0 rfl rfl 1 (by decide) (hts (.fieldLink R_Wd 9 R_Wd "text" "[B") kw1_98) (fun _ h9 => h9) rfl d_Wd_append_24 ?_
        refine lv_aload_n hx hb d_Wd_append_27 rfl (lv_at hl 0 rfl) ?_
        refine va_get (D := D) (ci := 2) (v := .int z_this.2.2.2.2.2.1) (C := R_Wd) (T := F_Wd) (N := 15) hx hb hts in_Wd hown hK hP 0 rfl rfl 6 (by decide) (hts (.fieldLink R_Wd 33 R_Wd "length" "I") kw1_103) (fun _ h9 => h9) rfl d_Wd_append_28 ?_
        refine lv_iload_n hx hb d_Wd_append_31 rfl (lv_at hl 1 rfl) ?_
        refine lv_i2b hx hb d_Wd_append_32 rfl ?_
        refine va_bast hx hb hK hP hD hS 1 2 rfl rfl hw.1 d_Wd_append_33 (fun H locs hP hD hS => ?_)
        have hw := hw.2
        have hP : va_P D vwCl (w_Wd k ad_this q_this_keywords ((upd z_this.1 (z_this.2.2.2.2.2.1).toNatClampNeg (vp_nar .byte (a1).toInt8.toInt32)), z_this.2.1, z_this.2.2.1, z_this.2.2.2.1, z_this.2.2.2.2.1, z_this.2.2.2.2.2.1, z_this.2.2.2.2.2.2.1, z_this.2.2.2.2.2.2.2.1, z_this.2.2.2.2.2.2.2.2.1, z_this.2.2.2.2.2.2.2.2.2.1, z_this.2.2.2.2.2.2.2.2.2.2.1, z_this.2.2.2.2.2.2.2.2.2.2.2.1, z_this.2.2.2.2.2.2.2.2.2.2.2.2.1, z_this.2.2.2.2.2.2.2.2.2.2.2.2.2)) H := hP
        have hD : va_D A (w_Wd k ad_this q_this_keywords ((upd z_this.1 (z_this.2.2.2.2.2.1).toNatClampNeg (vp_nar .byte (a1).toInt8.toInt32)), z_this.2.1, z_this.2.2.1, z_this.2.2.2.1, z_this.2.2.2.2.1, z_this.2.2.2.2.2.1, z_this.2.2.2.2.2.2.1, z_this.2.2.2.2.2.2.2.1, z_this.2.2.2.2.2.2.2.2.1, z_this.2.2.2.2.2.2.2.2.2.1, z_this.2.2.2.2.2.2.2.2.2.2.1, z_this.2.2.2.2.2.2.2.2.2.2.2.1, z_this.2.2.2.2.2.2.2.2.2.2.2.2.1, z_this.2.2.2.2.2.2.2.2.2.2.2.2.2)) := hD
        refine lv_aload_n hx hb d_Wd_append_34 rfl (lv_at hl 0 rfl) ?_
        refine lv_dup hx hb d_Wd_append_35 rfl ?_
        refine va_get (D := D) (ci := 2) (v := .int z_this.2.2.2.2.2.1) (C := R_Wd) (T := F_Wd) (N := 15) hx hb hts in_Wd hown hK hP 0 rfl rfl 6 (by decide) (hts (.fieldLink R_Wd 33 R_Wd "length" "I") kw1_103) (fun _ h9 => h9) rfl d_Wd_append_36 ?_
        refine lv_iconst (v := (1 : Int32)) hx hb d_Wd_append_39 (by decide) ?_
        refine lv_iadd hx hb d_Wd_append_40 ?_
        refine va_put (D := D) (ci := 2) (v := .int (z_this.2.2.2.2.2.1 + (1 : Int32))) (ty := .int) (C := R_Wd) (T := F_Wd) (N := 15) hx hb hts in_Wd t_Wd t_Wd_ok n_Wd hown hK hP hD hS 0 rfl rfl 6 (by decide) (hts (.fieldLink R_Wd 33 R_Wd "length" "I") kw1_103) (fun _ h9 => h9) rfl (by decide +kernel) rfl rfl (Nat.le_of_ble_eq_true rfl) d_Wd_append_41 (fun H locs hP hD hS => ?_)
        have hP : va_P D vwCl (w_Wd k ad_this q_this_keywords ((upd z_this.1 (z_this.2.2.2.2.2.1).toNatClampNeg (vp_nar .byte (a1).toInt8.toInt32)), z_this.2.1, z_this.2.2.1, z_this.2.2.2.1, z_this.2.2.2.2.1, (z_this.2.2.2.2.2.1 + (1 : Int32)), z_this.2.2.2.2.2.2.1, z_this.2.2.2.2.2.2.2.1, z_this.2.2.2.2.2.2.2.2.1, z_this.2.2.2.2.2.2.2.2.2.1, z_this.2.2.2.2.2.2.2.2.2.2.1, z_this.2.2.2.2.2.2.2.2.2.2.2.1, z_this.2.2.2.2.2.2.2.2.2.2.2.2.1, z_this.2.2.2.2.2.2.2.2.2.2.2.2.2)) H := hP
        have hD : va_D A (w_Wd k ad_this q_this_keywords ((upd z_this.1 (z_this.2.2.2.2.2.1).toNatClampNeg (vp_nar .byte (a1).toInt8.toInt32)), z_this.2.1, z_this.2.2.1, z_this.2.2.2.1, z_this.2.2.2.2.1, (z_this.2.2.2.2.2.1 + (1 : Int32)), z_this.2.2.2.2.2.2.1, z_this.2.2.2.2.2.2.2.1, z_this.2.2.2.2.2.2.2.2.1, z_this.2.2.2.2.2.2.2.2.2.1, z_this.2.2.2.2.2.2.2.2.2.2.1, z_this.2.2.2.2.2.2.2.2.2.2.2.1, z_this.2.2.2.2.2.2.2.2.2.2.2.2.1, z_this.2.2.2.2.2.2.2.2.2.2.2.2.2)) := hD
        refine lv_iconst (v := (1 : Int32)) hx hb d_Wd_append_44 (by decide) ?_
        exact xq_zret (r := (1 : Int32)) (u := ((upd z_this.1 (z_this.2.2.2.2.2.1).toNatClampNeg (vp_nar .byte (a1).toInt8.toInt32)), z_this.2.1, z_this.2.2.1, z_this.2.2.2.1, z_this.2.2.2.2.1, (z_this.2.2.2.2.2.1 + (1 : Int32)), z_this.2.2.2.2.2.2.1, z_this.2.2.2.2.2.2.2.1, z_this.2.2.2.2.2.2.2.2.1, z_this.2.2.2.2.2.2.2.2.2.1, z_this.2.2.2.2.2.2.2.2.2.2.1, z_this.2.2.2.2.2.2.2.2.2.2.2.1, z_this.2.2.2.2.2.2.2.2.2.2.2.2.1, z_this.2.2.2.2.2.2.2.2.2.2.2.2.2)) hx hb hr hlocks hAe hP hD hS rfl rfl hw (Nat.le_of_ble_eq_true rfl) (Nat.le_of_ble_eq_true rfl) d_Wd_append_45
      · have hw := hw.2 hc
        refine lv_iconst (v := (0 : Int32)) hx hb d_Wd_append_21 (by decide) ?_
        exact xq_zret (r := (0 : Int32)) (u := z_this) hx hb hr hlocks hAe hP hD hS rfl rfl hw (Nat.le_of_ble_eq_true rfl) (Nat.le_of_ble_eq_true rfl) d_Wd_append_22
theorem cw_Wd_append {R : Room} {s : State} {args : Array Value} {own : String} {index : Nat} (hts : ∀ w ∈ xq_W, w.before args s = true) (hl : .methodLink own index y_Wd_append ∈ xq_W) {rm : Room} (hR : rm.frames + 1 ≤ R.frames ∧ 8 + (2 + 11) + rm.locals ≤ R.locals) : CallW R s args own "StepText$Words" index y_Wd_append prog_8_method_2_code 2 (some (.boolean)) (.code y_Wd_append prog_8_method_2_code 2 (some (.boolean)) :: xq_W) rm rm.cells rm.slots 1 := ⟨xq_cb 1 hts kw2_73 kw1_7 hl ⟨by decide, by decide, by decide +kernel⟩ hR, hts _ kw2_71, hts _ kw2_72⟩
def y_Wd_forget : MethodName := ⟨"StepText$Words", "forget", "()V"⟩
theorem d_Wd_forget_0 : decode prog_8_method_3_code 0 = .ok (.aload_n 0, 1) := by decide +kernel
theorem d_Wd_forget_1 : decode prog_8_method_3_code 1 = .ok (.iconst 0, 1) := by decide +kernel
theorem d_Wd_forget_2 : decode prog_8_method_3_code 2 = .ok (.putfield 33, 3) := by decide +kernel
theorem d_Wd_forget_5 : decode prog_8_method_3_code 5 = .ok (.return_, 1) := by decide +kernel
def wp_Wd_forget (z_this : T_Wd) (post : Unit → T_Wd → Prop) : Prop := post () (z_this.1, z_this.2.1, z_this.2.2.1, z_this.2.2.2.1, z_this.2.2.2.2.1, (0 : Int32), z_this.2.2.2.2.2.2.1, z_this.2.2.2.2.2.2.2.1, z_this.2.2.2.2.2.2.2.2.1, z_this.2.2.2.2.2.2.2.2.2.1, z_this.2.2.2.2.2.2.2.2.2.2.1, z_this.2.2.2.2.2.2.2.2.2.2.2.1, z_this.2.2.2.2.2.2.2.2.2.2.2.2.1, z_this.2.2.2.2.2.2.2.2.2.2.2.2.2)
def rm_Wd_forget : Room := { frames := 0, cells := 0, slots := 0, locals := 0 }
set_option maxHeartbeats 4000000 in
set_option maxRecDepth 100000 in
theorem c_Wd_forget {l : Launch} {o : State × Array Value} {D : va_G} {k : Nat → ClassId} {ad_this : Nat → Nat} {q_this_keywords : Nat} {z_this : T_Wd} {post : Unit → T_Wd → Prop} (hw : wp_Wd_forget z_this post) : xq_C l o y_Wd_forget (.code y_Wd_forget prog_8_method_3_code 1 none :: xq_W) rm_Wd_forget D vwCl (xt k) [.ref (ad_this 0)] (w_Wd k ad_this q_this_keywords z_this) (fun _ : Unit => none) post (fun _ : T_Wd => False) (fun u : T_Wd => w_Wd k ad_this q_this_keywords u) 0 0 0 0 := by
  refine xq_ofW (cc := prog_8_method_3_code) (maxL := 1) (ret := none) (by decide) rfl (Nat.le_of_ble_eq_true rfl) ?_
  intro p e s m below meth c ls H locs A hAt hAe hA hl hK hJ hP0 hP hD hS
  obtain ⟨hx, hb, hml, hr, hlocks, hown, hts, hex, hnm⟩ := id hAt
  have hl : lv_has ls 1 [(0, .ref (ad_this 0))] := hl
  unfold wp_Wd_forget at hw
  refine lv_aload_n hx hb d_Wd_forget_0 rfl (lv_at hl 0 rfl) ?_
  refine lv_iconst (v := (0 : Int32)) hx hb d_Wd_forget_1 (by decide) ?_
  refine va_put (D := D) (ci := 2) (v := .int (0 : Int32)) (ty := .int) (C := R_Wd) (T := F_Wd) (N := 15) hx hb hts in_Wd t_Wd t_Wd_ok n_Wd hown hK hP hD hS 0 rfl rfl 6 (by decide) (hts (.fieldLink R_Wd 33 R_Wd "length" "I") kw1_103) (fun _ h9 => h9) rfl (by decide +kernel) rfl rfl (Nat.le_of_ble_eq_true rfl) d_Wd_forget_2 (fun H locs hP hD hS => ?_)
  have hP : va_P D vwCl (w_Wd k ad_this q_this_keywords (z_this.1, z_this.2.1, z_this.2.2.1, z_this.2.2.2.1, z_this.2.2.2.2.1, (0 : Int32), z_this.2.2.2.2.2.2.1, z_this.2.2.2.2.2.2.2.1, z_this.2.2.2.2.2.2.2.2.1, z_this.2.2.2.2.2.2.2.2.2.1, z_this.2.2.2.2.2.2.2.2.2.2.1, z_this.2.2.2.2.2.2.2.2.2.2.2.1, z_this.2.2.2.2.2.2.2.2.2.2.2.2.1, z_this.2.2.2.2.2.2.2.2.2.2.2.2.2)) H := hP
  have hD : va_D A (w_Wd k ad_this q_this_keywords (z_this.1, z_this.2.1, z_this.2.2.1, z_this.2.2.2.1, z_this.2.2.2.2.1, (0 : Int32), z_this.2.2.2.2.2.2.1, z_this.2.2.2.2.2.2.2.1, z_this.2.2.2.2.2.2.2.2.1, z_this.2.2.2.2.2.2.2.2.2.1, z_this.2.2.2.2.2.2.2.2.2.2.1, z_this.2.2.2.2.2.2.2.2.2.2.2.1, z_this.2.2.2.2.2.2.2.2.2.2.2.2.1, z_this.2.2.2.2.2.2.2.2.2.2.2.2.2)) := hD
  exact xq_vret (r := ()) (u := (z_this.1, z_this.2.1, z_this.2.2.1, z_this.2.2.2.1, z_this.2.2.2.2.1, (0 : Int32), z_this.2.2.2.2.2.2.1, z_this.2.2.2.2.2.2.2.1, z_this.2.2.2.2.2.2.2.2.1, z_this.2.2.2.2.2.2.2.2.2.1, z_this.2.2.2.2.2.2.2.2.2.2.1, z_this.2.2.2.2.2.2.2.2.2.2.2.1, z_this.2.2.2.2.2.2.2.2.2.2.2.2.1, z_this.2.2.2.2.2.2.2.2.2.2.2.2.2)) hx hb hr hlocks hAe hP hD hS rfl hw (Nat.le_of_ble_eq_true rfl) (Nat.le_of_ble_eq_true rfl) d_Wd_forget_5
theorem cw_Wd_forget {R : Room} {s : State} {args : Array Value} {own : String} {index : Nat} (hts : ∀ w ∈ xq_W, w.before args s = true) (hl : .methodLink own index y_Wd_forget ∈ xq_W) {rm : Room} (hR : rm.frames + 1 ≤ R.frames ∧ 8 + (1 + 11) + rm.locals ≤ R.locals) : CallW R s args own "StepText$Words" index y_Wd_forget prog_8_method_3_code 1 none (.code y_Wd_forget prog_8_method_3_code 1 none :: xq_W) rm rm.cells rm.slots 0 := ⟨xq_cb 0 hts kw2_128 kw1_7 hl ⟨by decide, by decide, by decide +kernel⟩ hR, hts _ kw2_126, hts _ kw2_127⟩
def y_Wd_byteAt : MethodName := ⟨"StepText$Words", "byteAt", "(I)I"⟩
theorem d_Wd_byteAt_0 : decode prog_8_method_12_code 0 = .ok (.iload_n 1, 1) := by decide +kernel
theorem d_Wd_byteAt_1 : decode prog_8_method_12_code 1 = .ok (.ifCond .lt 27, 3) := by decide +kernel
theorem d_Wd_byteAt_4 : decode prog_8_method_12_code 4 = .ok (.iload_n 1, 1) := by decide +kernel
theorem d_Wd_byteAt_5 : decode prog_8_method_12_code 5 = .ok (.aload_n 0, 1) := by decide +kernel
theorem d_Wd_byteAt_6 : decode prog_8_method_12_code 6 = .ok (.getfield 33, 3) := by decide +kernel
theorem d_Wd_byteAt_9 : decode prog_8_method_12_code 9 = .ok (.if_icmp .ge 19, 3) := by decide +kernel
theorem d_Wd_byteAt_12 : decode prog_8_method_12_code 12 = .ok (.iload_n 1, 1) := by decide +kernel
theorem d_Wd_byteAt_13 : decode prog_8_method_12_code 13 = .ok (.sipush 4000, 3) := by decide +kernel
theorem d_Wd_byteAt_16 : decode prog_8_method_12_code 16 = .ok (.if_icmp .ge 12, 3) := by decide +kernel
theorem d_Wd_byteAt_19 : decode prog_8_method_12_code 19 = .ok (.aload_n 0, 1) := by decide +kernel
theorem d_Wd_byteAt_20 : decode prog_8_method_12_code 20 = .ok (.getfield 9, 3) := by decide +kernel
theorem d_Wd_byteAt_23 : decode prog_8_method_12_code 23 = .ok (.iload_n 1, 1) := by decide +kernel
theorem d_Wd_byteAt_24 : decode prog_8_method_12_code 24 = .ok (.baload, 1) := by decide +kernel
theorem d_Wd_byteAt_25 : decode prog_8_method_12_code 25 = .ok (.goto 4, 3) := by decide +kernel
theorem d_Wd_byteAt_28 : decode prog_8_method_12_code 28 = .ok (.iconst 0, 1) := by decide +kernel
theorem d_Wd_byteAt_29 : decode prog_8_method_12_code 29 = .ok (.ireturn, 1) := by decide +kernel
def wp_Wd_byteAt (z_this : T_Wd) (a1 : Int32) (post : Int32 → Unit → Prop) : Prop := (a1 < 0 → (post (0 : Int32) ())) ∧ (¬ a1 < 0 → ((z_this.2.2.2.2.2.1 ≤ a1 → (post (0 : Int32) ())) ∧ (¬ z_this.2.2.2.2.2.1 ≤ a1 → (((4000 : Int32) ≤ a1 → (post (0 : Int32) ())) ∧ (¬ (4000 : Int32) ≤ a1 → (vp_in a1 4000 ∧ (post (z_this.1 (a1).toNatClampNeg) ())))))))
def rm_Wd_byteAt : Room := { frames := 0, cells := 0, slots := 0, locals := 0 }
set_option maxHeartbeats 4000000 in
set_option maxRecDepth 100000 in
theorem c_Wd_byteAt {l : Launch} {o : State × Array Value} {D : va_G} {k : Nat → ClassId} {ad_this : Nat → Nat} {q_this_keywords : Nat} {z_this : T_Wd} {a1 : Int32} {post : Int32 → Unit → Prop} (hw : wp_Wd_byteAt z_this a1 post) : xq_C l o y_Wd_byteAt (.code y_Wd_byteAt prog_8_method_12_code 2 (some (.int)) :: xq_W) rm_Wd_byteAt D vwCl (xt k) [.ref (ad_this 0), .int a1] (w_Wd k ad_this q_this_keywords z_this) (fun r : Int32 => some (.int r)) post (fun _ : Unit => False) (fun u : Unit => w_Wd k ad_this q_this_keywords z_this) 0 0 0 0 := by
  refine xq_ofW (cc := prog_8_method_12_code) (maxL := 2) (ret := (some (.int))) (by decide) rfl (Nat.le_of_ble_eq_true rfl) ?_
  intro p e s m below meth c ls H locs A hAt hAe hA hl hK hJ hP0 hP hD hS
  obtain ⟨hx, hb, hml, hr, hlocks, hown, hts, hex, hnm⟩ := id hAt
  have hl : lv_has ls 2 [(0, .ref (ad_this 0)), (1, .int a1)] := hl
  unfold wp_Wd_byteAt at hw
  refine lv_iload_n hx hb d_Wd_byteAt_0 rfl (lv_at hl 1 rfl) ?_
  refine lv_if_lt (tgt := 28) hx hb d_Wd_byteAt_1 (by decide) (fun hc => ?_) (fun hc => ?_)
  · have hw := hw.1 hc
    refine lv_iconst (v := (0 : Int32)) hx hb d_Wd_byteAt_28 (by decide) ?_
    exact xq_iret (r := (0 : Int32)) (u := ()) hx hb hr hlocks hAe hP hD hS rfl hw (Nat.le_of_ble_eq_true rfl) (Nat.le_of_ble_eq_true rfl) d_Wd_byteAt_29
  · have hw := hw.2 hc
    refine lv_iload_n hx hb d_Wd_byteAt_4 rfl (lv_at hl 1 rfl) ?_
    refine lv_aload_n hx hb d_Wd_byteAt_5 rfl (lv_at hl 0 rfl) ?_
    refine va_get (D := D) (ci := 2) (v := .int z_this.2.2.2.2.2.1) (C := R_Wd) (T := F_Wd) (N := 15) hx hb hts in_Wd hown hK hP 0 rfl rfl 6 (by decide) (hts (.fieldLink R_Wd 33 R_Wd "length" "I") kw1_103) (fun _ h9 => h9) rfl d_Wd_byteAt_6 ?_
    refine lv_icmp_ge (tgt := 28) hx hb d_Wd_byteAt_9 (by decide) (fun hc => ?_) (fun hc => ?_)
    · have hw := hw.1 hc
      refine lv_iconst (v := (0 : Int32)) hx hb d_Wd_byteAt_28 (by decide) ?_
      exact xq_iret (r := (0 : Int32)) (u := ()) hx hb hr hlocks hAe hP hD hS rfl hw (Nat.le_of_ble_eq_true rfl) (Nat.le_of_ble_eq_true rfl) d_Wd_byteAt_29
    · have hw := hw.2 hc
      refine lv_iload_n hx hb d_Wd_byteAt_12 rfl (lv_at hl 1 rfl) ?_
      refine lv_sipush (v := (4000 : Int32)) hx hb d_Wd_byteAt_13 (by decide) ?_
      refine lv_icmp_ge (tgt := 28) hx hb d_Wd_byteAt_16 (by decide) (fun hc => ?_) (fun hc => ?_)
      · have hw := hw.1 hc
        refine lv_iconst (v := (0 : Int32)) hx hb d_Wd_byteAt_28 (by decide) ?_
        exact xq_iret (r := (0 : Int32)) (u := ()) hx hb hr hlocks hAe hP hD hS rfl hw (Nat.le_of_ble_eq_true rfl) (Nat.le_of_ble_eq_true rfl) d_Wd_byteAt_29
      · have hw := hw.2 hc
        refine lv_aload_n hx hb d_Wd_byteAt_19 rfl (lv_at hl 0 rfl) ?_
        refine va_get (D := D) (ci := 2) (v := .ref (ad_this 1)) (C := R_Wd) (T := F_Wd) (N := 15) hx hb hts in_Wd hown hK hP 0 rfl rfl 1 (by decide) (hts (.fieldLink R_Wd 9 R_Wd "text" "[B") kw1_98) (fun _ h9 => h9) rfl d_Wd_byteAt_20 ?_
        refine lv_iload_n hx hb d_Wd_byteAt_23 rfl (lv_at hl 1 rfl) ?_
        refine va_bald hx hb hK hP 1 2 rfl rfl hw.1 d_Wd_byteAt_24 ?_
        have hw := hw.2
        refine lv_goto (tgt := 29) hx hb d_Wd_byteAt_25 (by decide) ?_
        exact xq_iret (r := (z_this.1 (a1).toNatClampNeg)) (u := ()) hx hb hr hlocks hAe hP hD hS rfl hw (Nat.le_of_ble_eq_true rfl) (Nat.le_of_ble_eq_true rfl) d_Wd_byteAt_29
theorem cw_Wd_byteAt {R : Room} {s : State} {args : Array Value} {own : String} {index : Nat} (hts : ∀ w ∈ xq_W, w.before args s = true) (hl : .methodLink own index y_Wd_byteAt ∈ xq_W) {rm : Room} (hR : rm.frames + 1 ≤ R.frames ∧ 8 + (2 + 11) + rm.locals ≤ R.locals) : CallW R s args own "StepText$Words" index y_Wd_byteAt prog_8_method_12_code 2 (some (.int)) (.code y_Wd_byteAt prog_8_method_12_code 2 (some (.int)) :: xq_W) rm rm.cells rm.slots 1 := ⟨xq_cb 1 hts kw2_90 kw1_7 hl ⟨by decide, by decide, by decide +kernel⟩ hR, hts _ kw2_89, hts _ kp1_1⟩
def y_Wd_isBlank : MethodName := ⟨"StepText$Words", "isBlank", "(I)Z"⟩
theorem d_Wd_isBlank_0 : decode prog_8_method_13_code 0 = .ok (.iload_n 0, 1) := by decide +kernel
theorem d_Wd_isBlank_1 : decode prog_8_method_13_code 1 = .ok (.bipush 32, 2) := by decide +kernel
theorem d_Wd_isBlank_3 : decode prog_8_method_13_code 3 = .ok (.if_icmp .eq 9, 3) := by decide +kernel
theorem d_Wd_isBlank_6 : decode prog_8_method_13_code 6 = .ok (.iload_n 0, 1) := by decide +kernel
theorem d_Wd_isBlank_7 : decode prog_8_method_13_code 7 = .ok (.bipush 10, 2) := by decide +kernel
theorem d_Wd_isBlank_9 : decode prog_8_method_13_code 9 = .ok (.if_icmp .ne 7, 3) := by decide +kernel
theorem d_Wd_isBlank_12 : decode prog_8_method_13_code 12 = .ok (.iconst 1, 1) := by decide +kernel
theorem d_Wd_isBlank_13 : decode prog_8_method_13_code 13 = .ok (.goto 4, 3) := by decide +kernel
theorem d_Wd_isBlank_16 : decode prog_8_method_13_code 16 = .ok (.iconst 0, 1) := by decide +kernel
theorem d_Wd_isBlank_17 : decode prog_8_method_13_code 17 = .ok (.ireturn, 1) := by decide +kernel
def wp_Wd_isBlank (a0 : Int32) (post : Int32 → Unit → Prop) : Prop := (a0 = (32 : Int32) → (post (1 : Int32) ())) ∧ (¬ a0 = (32 : Int32) → ((a0 = (10 : Int32) → (post (1 : Int32) ())) ∧ (¬ a0 = (10 : Int32) → (post (0 : Int32) ()))))
def rm_Wd_isBlank : Room := { frames := 0, cells := 0, slots := 0, locals := 0 }
set_option maxHeartbeats 4000000 in
set_option maxRecDepth 100000 in
theorem c_Wd_isBlank {l : Launch} {o : State × Array Value} {D : va_G} {k : Nat → ClassId} {a0 : Int32} {post : Int32 → Unit → Prop} (hw : wp_Wd_isBlank a0 post) : xq_C l o y_Wd_isBlank (.code y_Wd_isBlank prog_8_method_13_code 1 (some (.boolean)) :: xq_W) rm_Wd_isBlank D vwCl (xt k) [.int a0] (([] : va_W)) (fun r : Int32 => some (.int r)) post (fun _ : Unit => False) (fun u : Unit => ([] : va_W)) 0 0 0 0 := by
  refine xq_ofW (cc := prog_8_method_13_code) (maxL := 1) (ret := (some (.boolean))) (by decide) rfl (Nat.le_of_ble_eq_true rfl) ?_
  intro p e s m below meth c ls H locs A hAt hAe hA hl hK hJ hP0 hP hD hS
  obtain ⟨hx, hb, hml, hr, hlocks, hown, hts, hex, hnm⟩ := id hAt
  have hl : lv_has ls 1 [(0, .int a0)] := hl
  unfold wp_Wd_isBlank at hw
  refine lv_iload_n hx hb d_Wd_isBlank_0 rfl (lv_at hl 0 rfl) ?_
  refine lv_bipush (v := (32 : Int32)) hx hb d_Wd_isBlank_1 (by decide) ?_
  refine lv_icmp_eq (tgt := 12) hx hb d_Wd_isBlank_3 (by decide) (fun hc => ?_) (fun hc => ?_)
  · have hw := hw.1 hc
    refine lv_iconst (v := (1 : Int32)) hx hb d_Wd_isBlank_12 (by decide) ?_
    refine lv_goto (tgt := 17) hx hb d_Wd_isBlank_13 (by decide) ?_
    exact xq_zret (r := (1 : Int32)) (u := ()) hx hb hr hlocks hAe hP hD hS rfl rfl hw (Nat.le_of_ble_eq_true rfl) (Nat.le_of_ble_eq_true rfl) d_Wd_isBlank_17
  · have hw := hw.2 hc
    refine lv_iload_n hx hb d_Wd_isBlank_6 rfl (lv_at hl 0 rfl) ?_
    refine lv_bipush (v := (10 : Int32)) hx hb d_Wd_isBlank_7 (by decide) ?_
    refine lv_icmp_ne (tgt := 16) hx hb d_Wd_isBlank_9 (by decide) (fun hc => ?_) (fun hc => ?_)
    · have hw := hw.2 hc
      refine lv_iconst (v := (0 : Int32)) hx hb d_Wd_isBlank_16 (by decide) ?_
      exact xq_zret (r := (0 : Int32)) (u := ()) hx hb hr hlocks hAe hP hD hS rfl rfl hw (Nat.le_of_ble_eq_true rfl) (Nat.le_of_ble_eq_true rfl) d_Wd_isBlank_17
    · have hw := hw.1 hc
      refine lv_iconst (v := (1 : Int32)) hx hb d_Wd_isBlank_12 (by decide) ?_
      refine lv_goto (tgt := 17) hx hb d_Wd_isBlank_13 (by decide) ?_
      exact xq_zret (r := (1 : Int32)) (u := ()) hx hb hr hlocks hAe hP hD hS rfl rfl hw (Nat.le_of_ble_eq_true rfl) (Nat.le_of_ble_eq_true rfl) d_Wd_isBlank_17
theorem cs_Wd_isBlank {R : Room} {s : State} {args : Array Value} {own : String} {index : Nat} (hts : ∀ w ∈ xq_W, w.before args s = true) (hl : .methodLink own index y_Wd_isBlank ∈ xq_W) {rm : Room} (hR : rm.frames + 1 ≤ R.frames ∧ 8 + (1 + 11) + rm.locals ≤ R.locals) : CallB R s args own index y_Wd_isBlank prog_8_method_13_code 1 (some (.boolean)) (.code y_Wd_isBlank prog_8_method_13_code 1 (some (.boolean)) :: xq_W) rm rm.cells rm.slots 1 ∧ (Cond.static y_Wd_isBlank).before args s = true := ⟨xq_cb 1 hts kw2_93 kw1_7 hl ⟨by decide, by decide, by decide +kernel⟩ hR, hts _ kw2_92⟩
def y_Wd_skipBlanks : MethodName := ⟨"StepText$Words", "skipBlanks", "()V"⟩
theorem d_Wd_skipBlanks_0 : decode prog_8_method_6_code 0 = .ok (.iconst 0, 1) := by decide +kernel
theorem d_Wd_skipBlanks_1 : decode prog_8_method_6_code 1 = .ok (.istore_n 1, 1) := by decide +kernel
theorem d_Wd_skipBlanks_2 : decode prog_8_method_6_code 2 = .ok (.iload_n 1, 1) := by decide +kernel
theorem d_Wd_skipBlanks_3 : decode prog_8_method_6_code 3 = .ok (.sipush 4000, 3) := by decide +kernel
theorem d_Wd_skipBlanks_6 : decode prog_8_method_6_code 6 = .ok (.if_icmp .ge 56, 3) := by decide +kernel
theorem d_Wd_skipBlanks_9 : decode prog_8_method_6_code 9 = .ok (.aload_n 0, 1) := by decide +kernel
theorem d_Wd_skipBlanks_10 : decode prog_8_method_6_code 10 = .ok (.aload_n 0, 1) := by decide +kernel
theorem d_Wd_skipBlanks_11 : decode prog_8_method_6_code 11 = .ok (.getfield 37, 3) := by decide +kernel
theorem d_Wd_skipBlanks_14 : decode prog_8_method_6_code 14 = .ok (.invokevirtual 75, 3) := by decide +kernel
theorem d_Wd_skipBlanks_17 : decode prog_8_method_6_code 17 = .ok (.invokestatic 79, 3) := by decide +kernel
theorem d_Wd_skipBlanks_20 : decode prog_8_method_6_code 20 = .ok (.ifCond .eq 42, 3) := by decide +kernel
theorem d_Wd_skipBlanks_23 : decode prog_8_method_6_code 23 = .ok (.aload_n 0, 1) := by decide +kernel
theorem d_Wd_skipBlanks_24 : decode prog_8_method_6_code 24 = .ok (.aload_n 0, 1) := by decide +kernel
theorem d_Wd_skipBlanks_25 : decode prog_8_method_6_code 25 = .ok (.getfield 37, 3) := by decide +kernel
theorem d_Wd_skipBlanks_28 : decode prog_8_method_6_code 28 = .ok (.invokevirtual 75, 3) := by decide +kernel
theorem d_Wd_skipBlanks_31 : decode prog_8_method_6_code 31 = .ok (.bipush 10, 2) := by decide +kernel
theorem d_Wd_skipBlanks_33 : decode prog_8_method_6_code 33 = .ok (.if_icmp .ne 13, 3) := by decide +kernel
theorem d_Wd_skipBlanks_36 : decode prog_8_method_6_code 36 = .ok (.aload_n 0, 1) := by decide +kernel
theorem d_Wd_skipBlanks_37 : decode prog_8_method_6_code 37 = .ok (.dup, 1) := by decide +kernel
theorem d_Wd_skipBlanks_38 : decode prog_8_method_6_code 38 = .ok (.getfield 40, 3) := by decide +kernel
theorem d_Wd_skipBlanks_41 : decode prog_8_method_6_code 41 = .ok (.iconst 1, 1) := by decide +kernel
theorem d_Wd_skipBlanks_42 : decode prog_8_method_6_code 42 = .ok (.iadd, 1) := by decide +kernel
theorem d_Wd_skipBlanks_43 : decode prog_8_method_6_code 43 = .ok (.putfield 40, 3) := by decide +kernel
theorem d_Wd_skipBlanks_46 : decode prog_8_method_6_code 46 = .ok (.aload_n 0, 1) := by decide +kernel
theorem d_Wd_skipBlanks_47 : decode prog_8_method_6_code 47 = .ok (.dup, 1) := by decide +kernel
theorem d_Wd_skipBlanks_48 : decode prog_8_method_6_code 48 = .ok (.getfield 37, 3) := by decide +kernel
theorem d_Wd_skipBlanks_51 : decode prog_8_method_6_code 51 = .ok (.iconst 1, 1) := by decide +kernel
theorem d_Wd_skipBlanks_52 : decode prog_8_method_6_code 52 = .ok (.iadd, 1) := by decide +kernel
theorem d_Wd_skipBlanks_53 : decode prog_8_method_6_code 53 = .ok (.putfield 37, 3) := by decide +kernel
theorem d_Wd_skipBlanks_56 : decode prog_8_method_6_code 56 = .ok (.iinc 1 1, 3) := by decide +kernel
theorem d_Wd_skipBlanks_59 : decode prog_8_method_6_code 59 = .ok (.goto (-57), 3) := by decide +kernel
theorem d_Wd_skipBlanks_62 : decode prog_8_method_6_code 62 = .ok (.return_, 1) := by decide +kernel
def wp_Wd_skipBlanks_L2 (K : T_Wd → Int32 → Prop) (post : Unit → T_Wd → Prop) : Nat → T_Wd → Int32 → Prop
  | 0, _, _ => False
  | n9 + 1, z_this, x1 => ((4000 : Int32) ≤ x1 → (K z_this x1)) ∧ (¬ (4000 : Int32) ≤ x1 → (wp_Wd_byteAt z_this z_this.2.2.2.2.2.2.2.2.1 (fun (r1 : Int32) (u1 : Unit) => wp_Wd_isBlank r1 (fun (r2 : Int32) (u2 : Unit) => (r2 = 0 → (K z_this x1)) ∧ (¬ r2 = 0 → (wp_Wd_byteAt z_this z_this.2.2.2.2.2.2.2.2.1 (fun (r3 : Int32) (u3 : Unit) => (r3 = (10 : Int32) → (wp_Wd_skipBlanks_L2 K post n9 (z_this.1, z_this.2.1, z_this.2.2.1, z_this.2.2.2.1, z_this.2.2.2.2.1, z_this.2.2.2.2.2.1, z_this.2.2.2.2.2.2.1, z_this.2.2.2.2.2.2.2.1, (z_this.2.2.2.2.2.2.2.2.1 + (1 : Int32)), (z_this.2.2.2.2.2.2.2.2.2.1 + (1 : Int32)), z_this.2.2.2.2.2.2.2.2.2.2.1, z_this.2.2.2.2.2.2.2.2.2.2.2.1, z_this.2.2.2.2.2.2.2.2.2.2.2.2.1, z_this.2.2.2.2.2.2.2.2.2.2.2.2.2) (x1 + (1 : Int32)))) ∧ (¬ r3 = (10 : Int32) → (wp_Wd_skipBlanks_L2 K post n9 (z_this.1, z_this.2.1, z_this.2.2.1, z_this.2.2.2.1, z_this.2.2.2.2.1, z_this.2.2.2.2.2.1, z_this.2.2.2.2.2.2.1, z_this.2.2.2.2.2.2.2.1, (z_this.2.2.2.2.2.2.2.2.1 + (1 : Int32)), z_this.2.2.2.2.2.2.2.2.2.1, z_this.2.2.2.2.2.2.2.2.2.2.1, z_this.2.2.2.2.2.2.2.2.2.2.2.1, z_this.2.2.2.2.2.2.2.2.2.2.2.2.1, z_this.2.2.2.2.2.2.2.2.2.2.2.2.2) (x1 + (1 : Int32)))))))))))
def wp_Wd_skipBlanks (z_this : T_Wd) (post : Unit → T_Wd → Prop) : Prop := ∃ k9 : Nat, wp_Wd_skipBlanks_L2 (fun (z_this : T_Wd) (x1 : Int32) => post () z_this) post k9 z_this (0 : Int32)
def rm_Wd_skipBlanks : Room := { frames := 1, cells := 0, slots := 0, locals := 21 }
set_option maxHeartbeats 4000000 in
set_option maxRecDepth 100000 in
theorem t_Wd_skipBlanks_L2 {p : Program} {l : Launch} {o : State × Array Value} {e : Env} {s : State} {m : MethodId} {args : Array Value} {below : List Frame} {meth : Method} {c : Code} {D : va_G} {k : Nat → ClassId} {w0 : va_W} {A : Nat → Prop} {ad_this : Nat → Nat} {q_this_keywords : Nat} {post : Unit → T_Wd → Prop} (hAt : xq_At p s m args meth c prog_8_method_6_code 2 none y_Wd_skipBlanks xq_W) (hK : va_K D vwCl (xt k) s) (hJ : xq_J l o A s s.heap) (hAe : va_A w0 s.heap.size = A) (hA : ∀ q, s.heap.size ≤ q → A q) {K : T_Wd → Int32 → Prop} (hX : ∀ (z_this : T_Wd) (x1 : Int32) (H : Heap) (locs : List Loc) (ls : Array Slot), lv_has ls 2 [(0, .ref (ad_this 0)), (1, .int x1)] → va_P D vwCl (w_Wd k ad_this q_this_keywords z_this) H → va_D A (w_Wd k ad_this q_this_keywords z_this) → va_S A s.heap H locs → K z_this x1 → W p l e rm_Wd_skipBlanks s m args below meth c H locs 0 0 (xq_Z below D vwCl (xt k) w0 (fun _ : Unit => none) post (fun _ : T_Wd => False) (fun u : T_Wd => w_Wd k ad_this q_this_keywords u) 0 0 0 0 s) (F0 m 62 ls [])) :
    ∀ (n9 : Nat) (z_this : T_Wd) (x1 : Int32) (H : Heap) (locs : List Loc) (ls : Array Slot), lv_has ls 2 [(0, .ref (ad_this 0)), (1, .int x1)] → va_P D vwCl (w_Wd k ad_this q_this_keywords z_this) H → va_D A (w_Wd k ad_this q_this_keywords z_this) → va_S A s.heap H locs → wp_Wd_skipBlanks_L2 K post n9 z_this x1 → W p l e rm_Wd_skipBlanks s m args below meth c H locs 0 0 (xq_Z below D vwCl (xt k) w0 (fun _ : Unit => none) post (fun _ : T_Wd => False) (fun u : T_Wd => w_Wd k ad_this q_this_keywords u) 0 0 0 0 s) (F0 m 2 ls []) := by
  obtain ⟨hx, hb, hml, hr, hlocks, hown, hts, hex, hnm⟩ := id hAt
  intro n9
  induction n9 with
  | zero => intro z_this x1 H locs ls hl hP hD hS hw; exact False.elim (by rw [wp_Wd_skipBlanks_L2] at hw; exact hw)
  | succ n9 ih =>
    intro z_this x1 H locs ls hl hP hD hS hw
    rw [wp_Wd_skipBlanks_L2] at hw
    refine lv_iload_n hx hb d_Wd_skipBlanks_2 rfl (lv_at hl 1 rfl) ?_
    refine lv_sipush (v := (4000 : Int32)) hx hb d_Wd_skipBlanks_3 (by decide) ?_
    refine lv_icmp_ge (tgt := 62) hx hb d_Wd_skipBlanks_6 (by decide) (fun hc => ?_) (fun hc => ?_)
    · have hw := hw.1 hc
      exact hX z_this x1 H locs ls (lv_sub hl [0, 1] rfl) hP hD hS hw
    · have hw := hw.2 hc
      refine lv_aload_n hx hb d_Wd_skipBlanks_9 rfl (lv_at hl 0 rfl) ?_
      refine lv_aload_n hx hb d_Wd_skipBlanks_10 rfl (lv_at hl 0 rfl) ?_
      refine va_get (D := D) (ci := 2) (v := .int z_this.2.2.2.2.2.2.2.2.1) (C := R_Wd) (T := F_Wd) (N := 15) hx hb hts in_Wd hown hK hP 0 rfl rfl 9 (by decide) (hts (.fieldLink R_Wd 37 R_Wd "scan" "I") kw1_106) (fun _ h9 => h9) rfl d_Wd_skipBlanks_11 ?_
      refine xq_go (wr := ([] : va_W)) (stk := fun r => .int r :: []) (xq_runV (As := [.int z_this.2.2.2.2.2.2.2.2.1]) (rest := []) ⟨hx, hb, hml, hown, hts⟩ (c_Wd_byteAt (l := l) (o := o) (D := D) (k := k) (ad_this := ad_this) (q_this_keywords := q_this_keywords) hw) (cw_Wd_byteAt hts kw2_87 ⟨Nat.le_of_ble_eq_true rfl, Nat.le_of_ble_eq_true rfl⟩) (va_recv hK hP (ci := 2) (q0 := 0) rfl rfl) (hP.sub [0, 1, 2, 3, 4, 5] rfl) hK hJ hS (va_free hD hS hA [0, 1, 2, 3, 4, 5] rfl) ((hD.sub [0, 1, 2, 3, 4, 5] (by decide) rfl).weaken (fun _ _ _ _ => trivial)) rfl hl.1 (Nat.le_of_ble_eq_true rfl) d_Wd_skipBlanks_14 ⟨Nat.le_of_ble_eq_true rfl, Nat.le_of_ble_eq_true rfl⟩) hP hD hS hA [0, 1, 2, 3, 4, 5] [] rfl rfl (by decide) (by decide) (fun _ => rfl) (fun r1 u1 H locs hw hP hD hS => ?_) (fun _ _ _ _ h9 => h9.elim)
      have hP : va_P D vwCl (w_Wd k ad_this q_this_keywords z_this) H := hP.sub [0, 1, 2, 3, 4, 5] rfl
      have hD : va_D A (w_Wd k ad_this q_this_keywords z_this) := hD.sub [0, 1, 2, 3, 4, 5] (by decide) rfl
      refine xq_go (wr := w_Wd k ad_this q_this_keywords z_this) (stk := fun r => .int r :: []) (xq_runS (As := [.int r1]) (rest := []) ⟨hx, hb, hml, hown, hts⟩ (c_Wd_isBlank (l := l) (o := o) (D := D) (k := k) hw) (cs_Wd_isBlank hts kw2_91 ⟨Nat.le_of_ble_eq_true rfl, Nat.le_of_ble_eq_true rfl⟩) (hP.sub [] rfl) hK hJ hS (va_free hD hS hA [] rfl) ((hD.sub [] (by decide) rfl).weaken (fun _ _ _ _ => trivial)) rfl hl.1 (Nat.le_of_ble_eq_true rfl) d_Wd_skipBlanks_17 ⟨Nat.le_of_ble_eq_true rfl, Nat.le_of_ble_eq_true rfl⟩) hP hD hS hA [] [0, 1, 2, 3, 4, 5] rfl rfl (by decide) (by decide) (fun _ => rfl) (fun r2 u2 H locs hw hP hD hS => ?_) (fun _ _ _ _ h9 => h9.elim)
      have hP : va_P D vwCl (w_Wd k ad_this q_this_keywords z_this) H := hP.sub [0, 1, 2, 3, 4, 5] rfl
      have hD : va_D A (w_Wd k ad_this q_this_keywords z_this) := hD.sub [0, 1, 2, 3, 4, 5] (by decide) rfl
      refine lv_if_eq (tgt := 62) hx hb d_Wd_skipBlanks_20 (by decide) (fun hc => ?_) (fun hc => ?_)
      · have hw := hw.1 hc
        exact hX z_this x1 H locs ls (lv_sub hl [0, 1] rfl) hP hD hS hw
      · have hw := hw.2 hc
        refine lv_aload_n hx hb d_Wd_skipBlanks_23 rfl (lv_at hl 0 rfl) ?_
        refine lv_aload_n hx hb d_Wd_skipBlanks_24 rfl (lv_at hl 0 rfl) ?_
        refine va_get (D := D) (ci := 2) (v := .int z_this.2.2.2.2.2.2.2.2.1) (C := R_Wd) (T := F_Wd) (N := 15) hx hb hts in_Wd hown hK hP 0 rfl rfl 9 (by decide) (hts (.fieldLink R_Wd 37 R_Wd "scan" "I") kw1_106) (fun _ h9 => h9) rfl d_Wd_skipBlanks_25 ?_
        refine xq_go (wr := ([] : va_W)) (stk := fun r => .int r :: []) (xq_runV (As := [.int z_this.2.2.2.2.2.2.2.2.1]) (rest := []) ⟨hx, hb, hml, hown, hts⟩ (c_Wd_byteAt (l := l) (o := o) (D := D) (k := k) (ad_this := ad_this) (q_this_keywords := q_this_keywords) hw) (cw_Wd_byteAt hts kw2_87 ⟨Nat.le_of_ble_eq_true rfl, Nat.le_of_ble_eq_true rfl⟩) (va_recv hK hP (ci := 2) (q0 := 0) rfl rfl) (hP.sub [0, 1, 2, 3, 4, 5] rfl) hK hJ hS (va_free hD hS hA [0, 1, 2, 3, 4, 5] rfl) ((hD.sub [0, 1, 2, 3, 4, 5] (by decide) rfl).weaken (fun _ _ _ _ => trivial)) rfl hl.1 (Nat.le_of_ble_eq_true rfl) d_Wd_skipBlanks_28 ⟨Nat.le_of_ble_eq_true rfl, Nat.le_of_ble_eq_true rfl⟩) hP hD hS hA [0, 1, 2, 3, 4, 5] [] rfl rfl (by decide) (by decide) (fun _ => rfl) (fun r3 u3 H locs hw hP hD hS => ?_) (fun _ _ _ _ h9 => h9.elim)
        have hP : va_P D vwCl (w_Wd k ad_this q_this_keywords z_this) H := hP.sub [0, 1, 2, 3, 4, 5] rfl
        have hD : va_D A (w_Wd k ad_this q_this_keywords z_this) := hD.sub [0, 1, 2, 3, 4, 5] (by decide) rfl
        refine lv_bipush (v := (10 : Int32)) hx hb d_Wd_skipBlanks_31 (by decide) ?_
        refine lv_icmp_ne (tgt := 46) hx hb d_Wd_skipBlanks_33 (by decide) (fun hc => ?_) (fun hc => ?_)
        · have hw := hw.2 hc
          refine lv_aload_n hx hb d_Wd_skipBlanks_46 rfl (lv_at hl 0 rfl) ?_
          refine lv_dup hx hb d_Wd_skipBlanks_47 rfl ?_
          refine va_get (D := D) (ci := 2) (v := .int z_this.2.2.2.2.2.2.2.2.1) (C := R_Wd) (T := F_Wd) (N := 15) hx hb hts in_Wd hown hK hP 0 rfl rfl 9 (by decide) (hts (.fieldLink R_Wd 37 R_Wd "scan" "I") kw1_106) (fun _ h9 => h9) rfl d_Wd_skipBlanks_48 ?_
          refine lv_iconst (v := (1 : Int32)) hx hb d_Wd_skipBlanks_51 (by decide) ?_
          refine lv_iadd hx hb d_Wd_skipBlanks_52 ?_
          refine va_put (D := D) (ci := 2) (v := .int (z_this.2.2.2.2.2.2.2.2.1 + (1 : Int32))) (ty := .int) (C := R_Wd) (T := F_Wd) (N := 15) hx hb hts in_Wd t_Wd t_Wd_ok n_Wd hown hK hP hD hS 0 rfl rfl 9 (by decide) (hts (.fieldLink R_Wd 37 R_Wd "scan" "I") kw1_106) (fun _ h9 => h9) rfl (by decide +kernel) rfl rfl (Nat.le_of_ble_eq_true rfl) d_Wd_skipBlanks_53 (fun H locs hP hD hS => ?_)
          have hP : va_P D vwCl (w_Wd k ad_this q_this_keywords (z_this.1, z_this.2.1, z_this.2.2.1, z_this.2.2.2.1, z_this.2.2.2.2.1, z_this.2.2.2.2.2.1, z_this.2.2.2.2.2.2.1, z_this.2.2.2.2.2.2.2.1, (z_this.2.2.2.2.2.2.2.2.1 + (1 : Int32)), z_this.2.2.2.2.2.2.2.2.2.1, z_this.2.2.2.2.2.2.2.2.2.2.1, z_this.2.2.2.2.2.2.2.2.2.2.2.1, z_this.2.2.2.2.2.2.2.2.2.2.2.2.1, z_this.2.2.2.2.2.2.2.2.2.2.2.2.2)) H := hP
          have hD : va_D A (w_Wd k ad_this q_this_keywords (z_this.1, z_this.2.1, z_this.2.2.1, z_this.2.2.2.1, z_this.2.2.2.2.1, z_this.2.2.2.2.2.1, z_this.2.2.2.2.2.2.1, z_this.2.2.2.2.2.2.2.1, (z_this.2.2.2.2.2.2.2.2.1 + (1 : Int32)), z_this.2.2.2.2.2.2.2.2.2.1, z_this.2.2.2.2.2.2.2.2.2.2.1, z_this.2.2.2.2.2.2.2.2.2.2.2.1, z_this.2.2.2.2.2.2.2.2.2.2.2.2.1, z_this.2.2.2.2.2.2.2.2.2.2.2.2.2)) := hD
          refine lv_iinc (v := (x1 + (1 : Int32))) (lv' := [(1, .int (x1 + (1 : Int32))), (0, .ref (ad_this 0))]) hx hb d_Wd_skipBlanks_56 hl (k := 1) rfl rfl (by decide) rfl (fun ls hl => ?_)
          refine lv_goto (tgt := 2) hx hb d_Wd_skipBlanks_59 (by decide) ?_
          exact ih (z_this.1, z_this.2.1, z_this.2.2.1, z_this.2.2.2.1, z_this.2.2.2.2.1, z_this.2.2.2.2.2.1, z_this.2.2.2.2.2.2.1, z_this.2.2.2.2.2.2.2.1, (z_this.2.2.2.2.2.2.2.2.1 + (1 : Int32)), z_this.2.2.2.2.2.2.2.2.2.1, z_this.2.2.2.2.2.2.2.2.2.2.1, z_this.2.2.2.2.2.2.2.2.2.2.2.1, z_this.2.2.2.2.2.2.2.2.2.2.2.2.1, z_this.2.2.2.2.2.2.2.2.2.2.2.2.2) (x1 + (1 : Int32)) H locs ls (lv_sub hl [1, 0] rfl) hP hD hS hw
        · have hw := hw.1 hc
          refine lv_aload_n hx hb d_Wd_skipBlanks_36 rfl (lv_at hl 0 rfl) ?_
          refine lv_dup hx hb d_Wd_skipBlanks_37 rfl ?_
          refine va_get (D := D) (ci := 2) (v := .int z_this.2.2.2.2.2.2.2.2.2.1) (C := R_Wd) (T := F_Wd) (N := 15) hx hb hts in_Wd hown hK hP 0 rfl rfl 10 (by decide) (hts (.fieldLink R_Wd 40 R_Wd "scanRow" "I") kw1_107) (fun _ h9 => h9) rfl d_Wd_skipBlanks_38 ?_
          refine lv_iconst (v := (1 : Int32)) hx hb d_Wd_skipBlanks_41 (by decide) ?_
          refine lv_iadd hx hb d_Wd_skipBlanks_42 ?_
          refine va_put (D := D) (ci := 2) (v := .int (z_this.2.2.2.2.2.2.2.2.2.1 + (1 : Int32))) (ty := .int) (C := R_Wd) (T := F_Wd) (N := 15) hx hb hts in_Wd t_Wd t_Wd_ok n_Wd hown hK hP hD hS 0 rfl rfl 10 (by decide) (hts (.fieldLink R_Wd 40 R_Wd "scanRow" "I") kw1_107) (fun _ h9 => h9) rfl (by decide +kernel) rfl rfl (Nat.le_of_ble_eq_true rfl) d_Wd_skipBlanks_43 (fun H locs hP hD hS => ?_)
          have hP : va_P D vwCl (w_Wd k ad_this q_this_keywords (z_this.1, z_this.2.1, z_this.2.2.1, z_this.2.2.2.1, z_this.2.2.2.2.1, z_this.2.2.2.2.2.1, z_this.2.2.2.2.2.2.1, z_this.2.2.2.2.2.2.2.1, z_this.2.2.2.2.2.2.2.2.1, (z_this.2.2.2.2.2.2.2.2.2.1 + (1 : Int32)), z_this.2.2.2.2.2.2.2.2.2.2.1, z_this.2.2.2.2.2.2.2.2.2.2.2.1, z_this.2.2.2.2.2.2.2.2.2.2.2.2.1, z_this.2.2.2.2.2.2.2.2.2.2.2.2.2)) H := hP
          have hD : va_D A (w_Wd k ad_this q_this_keywords (z_this.1, z_this.2.1, z_this.2.2.1, z_this.2.2.2.1, z_this.2.2.2.2.1, z_this.2.2.2.2.2.1, z_this.2.2.2.2.2.2.1, z_this.2.2.2.2.2.2.2.1, z_this.2.2.2.2.2.2.2.2.1, (z_this.2.2.2.2.2.2.2.2.2.1 + (1 : Int32)), z_this.2.2.2.2.2.2.2.2.2.2.1, z_this.2.2.2.2.2.2.2.2.2.2.2.1, z_this.2.2.2.2.2.2.2.2.2.2.2.2.1, z_this.2.2.2.2.2.2.2.2.2.2.2.2.2)) := hD
          refine lv_aload_n hx hb d_Wd_skipBlanks_46 rfl (lv_at hl 0 rfl) ?_
          refine lv_dup hx hb d_Wd_skipBlanks_47 rfl ?_
          refine va_get (D := D) (ci := 2) (v := .int z_this.2.2.2.2.2.2.2.2.1) (C := R_Wd) (T := F_Wd) (N := 15) hx hb hts in_Wd hown hK hP 0 rfl rfl 9 (by decide) (hts (.fieldLink R_Wd 37 R_Wd "scan" "I") kw1_106) (fun _ h9 => h9) rfl d_Wd_skipBlanks_48 ?_
          refine lv_iconst (v := (1 : Int32)) hx hb d_Wd_skipBlanks_51 (by decide) ?_
          refine lv_iadd hx hb d_Wd_skipBlanks_52 ?_
          refine va_put (D := D) (ci := 2) (v := .int (z_this.2.2.2.2.2.2.2.2.1 + (1 : Int32))) (ty := .int) (C := R_Wd) (T := F_Wd) (N := 15) hx hb hts in_Wd t_Wd t_Wd_ok n_Wd hown hK hP hD hS 0 rfl rfl 9 (by decide) (hts (.fieldLink R_Wd 37 R_Wd "scan" "I") kw1_106) (fun _ h9 => h9) rfl (by decide +kernel) rfl rfl (Nat.le_of_ble_eq_true rfl) d_Wd_skipBlanks_53 (fun H locs hP hD hS => ?_)
          have hP : va_P D vwCl (w_Wd k ad_this q_this_keywords (z_this.1, z_this.2.1, z_this.2.2.1, z_this.2.2.2.1, z_this.2.2.2.2.1, z_this.2.2.2.2.2.1, z_this.2.2.2.2.2.2.1, z_this.2.2.2.2.2.2.2.1, (z_this.2.2.2.2.2.2.2.2.1 + (1 : Int32)), (z_this.2.2.2.2.2.2.2.2.2.1 + (1 : Int32)), z_this.2.2.2.2.2.2.2.2.2.2.1, z_this.2.2.2.2.2.2.2.2.2.2.2.1, z_this.2.2.2.2.2.2.2.2.2.2.2.2.1, z_this.2.2.2.2.2.2.2.2.2.2.2.2.2)) H := hP
          have hD : va_D A (w_Wd k ad_this q_this_keywords (z_this.1, z_this.2.1, z_this.2.2.1, z_this.2.2.2.1, z_this.2.2.2.2.1, z_this.2.2.2.2.2.1, z_this.2.2.2.2.2.2.1, z_this.2.2.2.2.2.2.2.1, (z_this.2.2.2.2.2.2.2.2.1 + (1 : Int32)), (z_this.2.2.2.2.2.2.2.2.2.1 + (1 : Int32)), z_this.2.2.2.2.2.2.2.2.2.2.1, z_this.2.2.2.2.2.2.2.2.2.2.2.1, z_this.2.2.2.2.2.2.2.2.2.2.2.2.1, z_this.2.2.2.2.2.2.2.2.2.2.2.2.2)) := hD
          refine lv_iinc (v := (x1 + (1 : Int32))) (lv' := [(1, .int (x1 + (1 : Int32))), (0, .ref (ad_this 0))]) hx hb d_Wd_skipBlanks_56 hl (k := 1) rfl rfl (by decide) rfl (fun ls hl => ?_)
          refine lv_goto (tgt := 2) hx hb d_Wd_skipBlanks_59 (by decide) ?_
          exact ih (z_this.1, z_this.2.1, z_this.2.2.1, z_this.2.2.2.1, z_this.2.2.2.2.1, z_this.2.2.2.2.2.1, z_this.2.2.2.2.2.2.1, z_this.2.2.2.2.2.2.2.1, (z_this.2.2.2.2.2.2.2.2.1 + (1 : Int32)), (z_this.2.2.2.2.2.2.2.2.2.1 + (1 : Int32)), z_this.2.2.2.2.2.2.2.2.2.2.1, z_this.2.2.2.2.2.2.2.2.2.2.2.1, z_this.2.2.2.2.2.2.2.2.2.2.2.2.1, z_this.2.2.2.2.2.2.2.2.2.2.2.2.2) (x1 + (1 : Int32)) H locs ls (lv_sub hl [1, 0] rfl) hP hD hS hw
set_option maxHeartbeats 4000000 in
set_option maxRecDepth 100000 in
theorem c_Wd_skipBlanks {l : Launch} {o : State × Array Value} {D : va_G} {k : Nat → ClassId} {ad_this : Nat → Nat} {q_this_keywords : Nat} {z_this : T_Wd} {post : Unit → T_Wd → Prop} (hw : wp_Wd_skipBlanks z_this post) : xq_C l o y_Wd_skipBlanks (.code y_Wd_skipBlanks prog_8_method_6_code 2 none :: xq_W) rm_Wd_skipBlanks D vwCl (xt k) [.ref (ad_this 0)] (w_Wd k ad_this q_this_keywords z_this) (fun _ : Unit => none) post (fun _ : T_Wd => False) (fun u : T_Wd => w_Wd k ad_this q_this_keywords u) 0 0 0 0 := by
  refine xq_ofW (cc := prog_8_method_6_code) (maxL := 2) (ret := none) (by decide) rfl (Nat.le_of_ble_eq_true rfl) ?_
  intro p e s m below meth c ls H locs A hAt hAe hA hl hK hJ hP0 hP hD hS
  obtain ⟨hx, hb, hml, hr, hlocks, hown, hts, hex, hnm⟩ := id hAt
  have hl : lv_has ls 2 [(0, .ref (ad_this 0))] := hl
  unfold wp_Wd_skipBlanks at hw
  refine lv_iconst (v := (0 : Int32)) hx hb d_Wd_skipBlanks_0 (by decide) ?_
  refine lv_istore_n (lv' := [(1, .int (0 : Int32)), (0, .ref (ad_this 0))]) hx hb d_Wd_skipBlanks_1 rfl hl (by decide) rfl (fun ls hl => ?_)
  obtain ⟨k9, hw⟩ := hw
  refine t_Wd_skipBlanks_L2 hAt hK hJ hAe hA ?_ k9 z_this (0 : Int32) H locs ls (lv_sub hl [1, 0] rfl) hP hD hS hw
  intro z_this x1 H locs ls hl hP hD hS hw
  exact xq_vret (r := ()) (u := z_this) hx hb hr hlocks hAe hP hD hS rfl hw (Nat.le_of_ble_eq_true rfl) (Nat.le_of_ble_eq_true rfl) d_Wd_skipBlanks_62
theorem cw_Wd_skipBlanks {R : Room} {s : State} {args : Array Value} {own : String} {index : Nat} (hts : ∀ w ∈ xq_W, w.before args s = true) (hl : .methodLink own index y_Wd_skipBlanks ∈ xq_W) {rm : Room} (hR : rm.frames + 1 ≤ R.frames ∧ 8 + (2 + 11) + rm.locals ≤ R.locals) : CallW R s args own "StepText$Words" index y_Wd_skipBlanks prog_8_method_6_code 2 none (.code y_Wd_skipBlanks prog_8_method_6_code 2 none :: xq_W) rm rm.cells rm.slots 0 := ⟨xq_cb 0 hts kw2_86 kw1_7 hl ⟨by decide, by decide, by decide +kernel⟩ hR, hts _ kw2_85, hts _ kp1_0⟩
def y_Wd_isDigit : MethodName := ⟨"StepText$Words", "isDigit", "(I)Z"⟩
theorem d_Wd_isDigit_0 : decode prog_8_method_14_code 0 = .ok (.iload_n 0, 1) := by decide +kernel
theorem d_Wd_isDigit_1 : decode prog_8_method_14_code 1 = .ok (.bipush 48, 2) := by decide +kernel
theorem d_Wd_isDigit_3 : decode prog_8_method_14_code 3 = .ok (.if_icmp .lt 13, 3) := by decide +kernel
theorem d_Wd_isDigit_6 : decode prog_8_method_14_code 6 = .ok (.iload_n 0, 1) := by decide +kernel
theorem d_Wd_isDigit_7 : decode prog_8_method_14_code 7 = .ok (.bipush 57, 2) := by decide +kernel
theorem d_Wd_isDigit_9 : decode prog_8_method_14_code 9 = .ok (.if_icmp .gt 7, 3) := by decide +kernel
theorem d_Wd_isDigit_12 : decode prog_8_method_14_code 12 = .ok (.iconst 1, 1) := by decide +kernel
theorem d_Wd_isDigit_13 : decode prog_8_method_14_code 13 = .ok (.goto 4, 3) := by decide +kernel
theorem d_Wd_isDigit_16 : decode prog_8_method_14_code 16 = .ok (.iconst 0, 1) := by decide +kernel
theorem d_Wd_isDigit_17 : decode prog_8_method_14_code 17 = .ok (.ireturn, 1) := by decide +kernel
def wp_Wd_isDigit (a0 : Int32) (post : Int32 → Unit → Prop) : Prop := (a0 < (48 : Int32) → (post (0 : Int32) ())) ∧ (¬ a0 < (48 : Int32) → (((57 : Int32) < a0 → (post (0 : Int32) ())) ∧ (¬ (57 : Int32) < a0 → (post (1 : Int32) ()))))
def rm_Wd_isDigit : Room := { frames := 0, cells := 0, slots := 0, locals := 0 }
set_option maxHeartbeats 4000000 in
set_option maxRecDepth 100000 in
theorem c_Wd_isDigit {l : Launch} {o : State × Array Value} {D : va_G} {k : Nat → ClassId} {a0 : Int32} {post : Int32 → Unit → Prop} (hw : wp_Wd_isDigit a0 post) : xq_C l o y_Wd_isDigit (.code y_Wd_isDigit prog_8_method_14_code 1 (some (.boolean)) :: xq_W) rm_Wd_isDigit D vwCl (xt k) [.int a0] (([] : va_W)) (fun r : Int32 => some (.int r)) post (fun _ : Unit => False) (fun u : Unit => ([] : va_W)) 0 0 0 0 := by
  refine xq_ofW (cc := prog_8_method_14_code) (maxL := 1) (ret := (some (.boolean))) (by decide) rfl (Nat.le_of_ble_eq_true rfl) ?_
  intro p e s m below meth c ls H locs A hAt hAe hA hl hK hJ hP0 hP hD hS
  obtain ⟨hx, hb, hml, hr, hlocks, hown, hts, hex, hnm⟩ := id hAt
  have hl : lv_has ls 1 [(0, .int a0)] := hl
  unfold wp_Wd_isDigit at hw
  refine lv_iload_n hx hb d_Wd_isDigit_0 rfl (lv_at hl 0 rfl) ?_
  refine lv_bipush (v := (48 : Int32)) hx hb d_Wd_isDigit_1 (by decide) ?_
  refine lv_icmp_lt (tgt := 16) hx hb d_Wd_isDigit_3 (by decide) (fun hc => ?_) (fun hc => ?_)
  · have hw := hw.1 hc
    refine lv_iconst (v := (0 : Int32)) hx hb d_Wd_isDigit_16 (by decide) ?_
    exact xq_zret (r := (0 : Int32)) (u := ()) hx hb hr hlocks hAe hP hD hS rfl rfl hw (Nat.le_of_ble_eq_true rfl) (Nat.le_of_ble_eq_true rfl) d_Wd_isDigit_17
  · have hw := hw.2 hc
    refine lv_iload_n hx hb d_Wd_isDigit_6 rfl (lv_at hl 0 rfl) ?_
    refine lv_bipush (v := (57 : Int32)) hx hb d_Wd_isDigit_7 (by decide) ?_
    refine lv_icmp_gt (tgt := 16) hx hb d_Wd_isDigit_9 (by decide) (fun hc => ?_) (fun hc => ?_)
    · have hw := hw.1 hc
      refine lv_iconst (v := (0 : Int32)) hx hb d_Wd_isDigit_16 (by decide) ?_
      exact xq_zret (r := (0 : Int32)) (u := ()) hx hb hr hlocks hAe hP hD hS rfl rfl hw (Nat.le_of_ble_eq_true rfl) (Nat.le_of_ble_eq_true rfl) d_Wd_isDigit_17
    · have hw := hw.2 hc
      refine lv_iconst (v := (1 : Int32)) hx hb d_Wd_isDigit_12 (by decide) ?_
      refine lv_goto (tgt := 17) hx hb d_Wd_isDigit_13 (by decide) ?_
      exact xq_zret (r := (1 : Int32)) (u := ()) hx hb hr hlocks hAe hP hD hS rfl rfl hw (Nat.le_of_ble_eq_true rfl) (Nat.le_of_ble_eq_true rfl) d_Wd_isDigit_17
theorem cs_Wd_isDigit {R : Room} {s : State} {args : Array Value} {own : String} {index : Nat} (hts : ∀ w ∈ xq_W, w.before args s = true) (hl : .methodLink own index y_Wd_isDigit ∈ xq_W) {rm : Room} (hR : rm.frames + 1 ≤ R.frames ∧ 8 + (1 + 11) + rm.locals ≤ R.locals) : CallB R s args own index y_Wd_isDigit prog_8_method_14_code 1 (some (.boolean)) (.code y_Wd_isDigit prog_8_method_14_code 1 (some (.boolean)) :: xq_W) rm rm.cells rm.slots 1 ∧ (Cond.static y_Wd_isDigit).before args s = true := ⟨xq_cb 1 hts kw2_100 kw1_7 hl ⟨by decide, by decide, by decide +kernel⟩ hR, hts _ kw2_99⟩
def y_Wd_keep : MethodName := ⟨"StepText$Words", "keep", "(IIJ)V"⟩
theorem d_Wd_keep_0 : decode prog_8_method_11_code 0 = .ok (.aload_n 0, 1) := by decide +kernel
theorem d_Wd_keep_1 : decode prog_8_method_11_code 1 = .ok (.getfield 43, 3) := by decide +kernel
theorem d_Wd_keep_4 : decode prog_8_method_11_code 4 = .ok (.sipush 4000, 3) := by decide +kernel
theorem d_Wd_keep_7 : decode prog_8_method_11_code 7 = .ok (.if_icmp .gt 56, 3) := by decide +kernel
theorem d_Wd_keep_10 : decode prog_8_method_11_code 10 = .ok (.aload_n 0, 1) := by decide +kernel
theorem d_Wd_keep_11 : decode prog_8_method_11_code 11 = .ok (.getfield 15, 3) := by decide +kernel
theorem d_Wd_keep_14 : decode prog_8_method_11_code 14 = .ok (.aload_n 0, 1) := by decide +kernel
theorem d_Wd_keep_15 : decode prog_8_method_11_code 15 = .ok (.getfield 43, 3) := by decide +kernel
theorem d_Wd_keep_18 : decode prog_8_method_11_code 18 = .ok (.iload_n 1, 1) := by decide +kernel
theorem d_Wd_keep_19 : decode prog_8_method_11_code 19 = .ok (.iastore, 1) := by decide +kernel
theorem d_Wd_keep_20 : decode prog_8_method_11_code 20 = .ok (.aload_n 0, 1) := by decide +kernel
theorem d_Wd_keep_21 : decode prog_8_method_11_code 21 = .ok (.getfield 19, 3) := by decide +kernel
theorem d_Wd_keep_24 : decode prog_8_method_11_code 24 = .ok (.aload_n 0, 1) := by decide +kernel
theorem d_Wd_keep_25 : decode prog_8_method_11_code 25 = .ok (.getfield 43, 3) := by decide +kernel
theorem d_Wd_keep_28 : decode prog_8_method_11_code 28 = .ok (.iload_n 2, 1) := by decide +kernel
theorem d_Wd_keep_29 : decode prog_8_method_11_code 29 = .ok (.iastore, 1) := by decide +kernel
theorem d_Wd_keep_30 : decode prog_8_method_11_code 30 = .ok (.aload_n 0, 1) := by decide +kernel
theorem d_Wd_keep_31 : decode prog_8_method_11_code 31 = .ok (.getfield 22, 3) := by decide +kernel
theorem d_Wd_keep_34 : decode prog_8_method_11_code 34 = .ok (.aload_n 0, 1) := by decide +kernel
theorem d_Wd_keep_35 : decode prog_8_method_11_code 35 = .ok (.getfield 43, 3) := by decide +kernel
theorem d_Wd_keep_38 : decode prog_8_method_11_code 38 = .ok (.aload_n 0, 1) := by decide +kernel
theorem d_Wd_keep_39 : decode prog_8_method_11_code 39 = .ok (.getfield 40, 3) := by decide +kernel
theorem d_Wd_keep_42 : decode prog_8_method_11_code 42 = .ok (.iastore, 1) := by decide +kernel
theorem d_Wd_keep_43 : decode prog_8_method_11_code 43 = .ok (.aload_n 0, 1) := by decide +kernel
theorem d_Wd_keep_44 : decode prog_8_method_11_code 44 = .ok (.getfield 25, 3) := by decide +kernel
theorem d_Wd_keep_47 : decode prog_8_method_11_code 47 = .ok (.aload_n 0, 1) := by decide +kernel
theorem d_Wd_keep_48 : decode prog_8_method_11_code 48 = .ok (.getfield 43, 3) := by decide +kernel
theorem d_Wd_keep_51 : decode prog_8_method_11_code 51 = .ok (.lload_n 3, 1) := by decide +kernel
theorem d_Wd_keep_52 : decode prog_8_method_11_code 52 = .ok (.lastore, 1) := by decide +kernel
theorem d_Wd_keep_53 : decode prog_8_method_11_code 53 = .ok (.aload_n 0, 1) := by decide +kernel
theorem d_Wd_keep_54 : decode prog_8_method_11_code 54 = .ok (.dup, 1) := by decide +kernel
theorem d_Wd_keep_55 : decode prog_8_method_11_code 55 = .ok (.getfield 43, 3) := by decide +kernel
theorem d_Wd_keep_58 : decode prog_8_method_11_code 58 = .ok (.iconst 1, 1) := by decide +kernel
theorem d_Wd_keep_59 : decode prog_8_method_11_code 59 = .ok (.iadd, 1) := by decide +kernel
theorem d_Wd_keep_60 : decode prog_8_method_11_code 60 = .ok (.putfield 43, 3) := by decide +kernel
theorem d_Wd_keep_63 : decode prog_8_method_11_code 63 = .ok (.return_, 1) := by decide +kernel
def wp_Wd_keep (z_this : T_Wd) (a1 : Int32) (a2 : Int32) (a3 : Int64) (post : Unit → T_Wd → Prop) : Prop := ((4000 : Int32) < z_this.2.2.2.2.2.2.1 → (post () z_this)) ∧ (¬ (4000 : Int32) < z_this.2.2.2.2.2.2.1 → (vp_in z_this.2.2.2.2.2.2.1 4001 ∧ (vp_in z_this.2.2.2.2.2.2.1 4001 ∧ (vp_in z_this.2.2.2.2.2.2.1 4001 ∧ (vp_in z_this.2.2.2.2.2.2.1 4001 ∧ (post () (z_this.1, (upd z_this.2.1 (z_this.2.2.2.2.2.2.1).toNatClampNeg a1), (upd z_this.2.2.1 (z_this.2.2.2.2.2.2.1).toNatClampNeg a2), (upd z_this.2.2.2.1 (z_this.2.2.2.2.2.2.1).toNatClampNeg z_this.2.2.2.2.2.2.2.2.2.1), (vp_updL z_this.2.2.2.2.1 (z_this.2.2.2.2.2.2.1).toNatClampNeg a3), z_this.2.2.2.2.2.1, (z_this.2.2.2.2.2.2.1 + (1 : Int32)), z_this.2.2.2.2.2.2.2.1, z_this.2.2.2.2.2.2.2.2.1, z_this.2.2.2.2.2.2.2.2.2.1, z_this.2.2.2.2.2.2.2.2.2.2.1, z_this.2.2.2.2.2.2.2.2.2.2.2.1, z_this.2.2.2.2.2.2.2.2.2.2.2.2.1, z_this.2.2.2.2.2.2.2.2.2.2.2.2.2)))))))
def rm_Wd_keep : Room := { frames := 0, cells := 0, slots := 0, locals := 0 }
set_option maxHeartbeats 4000000 in
set_option maxRecDepth 100000 in
theorem c_Wd_keep {l : Launch} {o : State × Array Value} {D : va_G} {k : Nat → ClassId} {ad_this : Nat → Nat} {q_this_keywords : Nat} {z_this : T_Wd} {a1 : Int32} {a2 : Int32} {a3 : Int64} {post : Unit → T_Wd → Prop} (hw : wp_Wd_keep z_this a1 a2 a3 post) : xq_C l o y_Wd_keep (.code y_Wd_keep prog_8_method_11_code 5 none :: xq_W) rm_Wd_keep D vwCl (xt k) [.ref (ad_this 0), .int a1, .int a2, .long a3] (w_Wd k ad_this q_this_keywords z_this) (fun _ : Unit => none) post (fun _ : T_Wd => False) (fun u : T_Wd => w_Wd k ad_this q_this_keywords u) 0 0 0 0 := by
  refine xq_ofW (cc := prog_8_method_11_code) (maxL := 5) (ret := none) (by decide) rfl (Nat.le_of_ble_eq_true rfl) ?_
  intro p e s m below meth c ls H locs A hAt hAe hA hl hK hJ hP0 hP hD hS
  obtain ⟨hx, hb, hml, hr, hlocks, hown, hts, hex, hnm⟩ := id hAt
  have hl : lv_has ls 5 [(0, .ref (ad_this 0)), (1, .int a1), (2, .int a2), (3, .long a3)] := hl
  unfold wp_Wd_keep at hw
  refine lv_aload_n hx hb d_Wd_keep_0 rfl (lv_at hl 0 rfl) ?_
  refine va_get (D := D) (ci := 2) (v := .int z_this.2.2.2.2.2.2.1) (C := R_Wd) (T := F_Wd) (N := 15) hx hb hts in_Wd hown hK hP 0 rfl rfl 7 (by decide) (hts (.fieldLink R_Wd 43 R_Wd "count" "I") kw1_104) (fun _ h9 => h9) rfl d_Wd_keep_1 ?_
  refine lv_sipush (v := (4000 : Int32)) hx hb d_Wd_keep_4 (by decide) ?_
  refine lv_icmp_gt (tgt := 63) hx hb d_Wd_keep_7 (by decide) (fun hc => ?_) (fun hc => ?_)
  · have hw := hw.1 hc
    exact xq_vret (r := ()) (u := z_this) hx hb hr hlocks hAe hP hD hS rfl hw (Nat.le_of_ble_eq_true rfl) (Nat.le_of_ble_eq_true rfl) d_Wd_keep_63
  · have hw := hw.2 hc
    refine lv_aload_n hx hb d_Wd_keep_10 rfl (lv_at hl 0 rfl) ?_
    refine va_get (D := D) (ci := 2) (v := .ref (ad_this 2)) (C := R_Wd) (T := F_Wd) (N := 15) hx hb hts in_Wd hown hK hP 0 rfl rfl 2 (by decide) (hts (.fieldLink R_Wd 15 R_Wd "codes" "[I") kw1_99) (fun _ h9 => h9) rfl d_Wd_keep_11 ?_
    refine lv_aload_n hx hb d_Wd_keep_14 rfl (lv_at hl 0 rfl) ?_
    refine va_get (D := D) (ci := 2) (v := .int z_this.2.2.2.2.2.2.1) (C := R_Wd) (T := F_Wd) (N := 15) hx hb hts in_Wd hown hK hP 0 rfl rfl 7 (by decide) (hts (.fieldLink R_Wd 43 R_Wd "count" "I") kw1_104) (fun _ h9 => h9) rfl d_Wd_keep_15 ?_
    refine lv_iload_n hx hb d_Wd_keep_18 rfl (lv_at hl 1 rfl) ?_
    refine va_iast hx hb hK hP hD hS 2 0 rfl rfl hw.1 d_Wd_keep_19 (fun H locs hP hD hS => ?_)
    have hw := hw.2
    have hP : va_P D vwCl (w_Wd k ad_this q_this_keywords (z_this.1, (upd z_this.2.1 (z_this.2.2.2.2.2.2.1).toNatClampNeg a1), z_this.2.2.1, z_this.2.2.2.1, z_this.2.2.2.2.1, z_this.2.2.2.2.2.1, z_this.2.2.2.2.2.2.1, z_this.2.2.2.2.2.2.2.1, z_this.2.2.2.2.2.2.2.2.1, z_this.2.2.2.2.2.2.2.2.2.1, z_this.2.2.2.2.2.2.2.2.2.2.1, z_this.2.2.2.2.2.2.2.2.2.2.2.1, z_this.2.2.2.2.2.2.2.2.2.2.2.2.1, z_this.2.2.2.2.2.2.2.2.2.2.2.2.2)) H := hP
    have hD : va_D A (w_Wd k ad_this q_this_keywords (z_this.1, (upd z_this.2.1 (z_this.2.2.2.2.2.2.1).toNatClampNeg a1), z_this.2.2.1, z_this.2.2.2.1, z_this.2.2.2.2.1, z_this.2.2.2.2.2.1, z_this.2.2.2.2.2.2.1, z_this.2.2.2.2.2.2.2.1, z_this.2.2.2.2.2.2.2.2.1, z_this.2.2.2.2.2.2.2.2.2.1, z_this.2.2.2.2.2.2.2.2.2.2.1, z_this.2.2.2.2.2.2.2.2.2.2.2.1, z_this.2.2.2.2.2.2.2.2.2.2.2.2.1, z_this.2.2.2.2.2.2.2.2.2.2.2.2.2)) := hD
    refine lv_aload_n hx hb d_Wd_keep_20 rfl (lv_at hl 0 rfl) ?_
    refine va_get (D := D) (ci := 2) (v := .ref (ad_this 3)) (C := R_Wd) (T := F_Wd) (N := 15) hx hb hts in_Wd hown hK hP 0 rfl rfl 3 (by decide) (hts (.fieldLink R_Wd 19 R_Wd "places" "[I") kw1_100) (fun _ h9 => h9) rfl d_Wd_keep_21 ?_
    refine lv_aload_n hx hb d_Wd_keep_24 rfl (lv_at hl 0 rfl) ?_
    refine va_get (D := D) (ci := 2) (v := .int z_this.2.2.2.2.2.2.1) (C := R_Wd) (T := F_Wd) (N := 15) hx hb hts in_Wd hown hK hP 0 rfl rfl 7 (by decide) (hts (.fieldLink R_Wd 43 R_Wd "count" "I") kw1_104) (fun _ h9 => h9) rfl d_Wd_keep_25 ?_
    refine lv_iload_n hx hb d_Wd_keep_28 rfl (lv_at hl 2 rfl) ?_
    refine va_iast hx hb hK hP hD hS 3 0 rfl rfl hw.1 d_Wd_keep_29 (fun H locs hP hD hS => ?_)
    have hw := hw.2
    have hP : va_P D vwCl (w_Wd k ad_this q_this_keywords (z_this.1, (upd z_this.2.1 (z_this.2.2.2.2.2.2.1).toNatClampNeg a1), (upd z_this.2.2.1 (z_this.2.2.2.2.2.2.1).toNatClampNeg a2), z_this.2.2.2.1, z_this.2.2.2.2.1, z_this.2.2.2.2.2.1, z_this.2.2.2.2.2.2.1, z_this.2.2.2.2.2.2.2.1, z_this.2.2.2.2.2.2.2.2.1, z_this.2.2.2.2.2.2.2.2.2.1, z_this.2.2.2.2.2.2.2.2.2.2.1, z_this.2.2.2.2.2.2.2.2.2.2.2.1, z_this.2.2.2.2.2.2.2.2.2.2.2.2.1, z_this.2.2.2.2.2.2.2.2.2.2.2.2.2)) H := hP
    have hD : va_D A (w_Wd k ad_this q_this_keywords (z_this.1, (upd z_this.2.1 (z_this.2.2.2.2.2.2.1).toNatClampNeg a1), (upd z_this.2.2.1 (z_this.2.2.2.2.2.2.1).toNatClampNeg a2), z_this.2.2.2.1, z_this.2.2.2.2.1, z_this.2.2.2.2.2.1, z_this.2.2.2.2.2.2.1, z_this.2.2.2.2.2.2.2.1, z_this.2.2.2.2.2.2.2.2.1, z_this.2.2.2.2.2.2.2.2.2.1, z_this.2.2.2.2.2.2.2.2.2.2.1, z_this.2.2.2.2.2.2.2.2.2.2.2.1, z_this.2.2.2.2.2.2.2.2.2.2.2.2.1, z_this.2.2.2.2.2.2.2.2.2.2.2.2.2)) := hD
    refine lv_aload_n hx hb d_Wd_keep_30 rfl (lv_at hl 0 rfl) ?_
    refine va_get (D := D) (ci := 2) (v := .ref (ad_this 4)) (C := R_Wd) (T := F_Wd) (N := 15) hx hb hts in_Wd hown hK hP 0 rfl rfl 4 (by decide) (hts (.fieldLink R_Wd 22 R_Wd "rows" "[I") kw1_101) (fun _ h9 => h9) rfl d_Wd_keep_31 ?_
    refine lv_aload_n hx hb d_Wd_keep_34 rfl (lv_at hl 0 rfl) ?_
    refine va_get (D := D) (ci := 2) (v := .int z_this.2.2.2.2.2.2.1) (C := R_Wd) (T := F_Wd) (N := 15) hx hb hts in_Wd hown hK hP 0 rfl rfl 7 (by decide) (hts (.fieldLink R_Wd 43 R_Wd "count" "I") kw1_104) (fun _ h9 => h9) rfl d_Wd_keep_35 ?_
    refine lv_aload_n hx hb d_Wd_keep_38 rfl (lv_at hl 0 rfl) ?_
    refine va_get (D := D) (ci := 2) (v := .int z_this.2.2.2.2.2.2.2.2.2.1) (C := R_Wd) (T := F_Wd) (N := 15) hx hb hts in_Wd hown hK hP 0 rfl rfl 10 (by decide) (hts (.fieldLink R_Wd 40 R_Wd "scanRow" "I") kw1_107) (fun _ h9 => h9) rfl d_Wd_keep_39 ?_
    refine va_iast hx hb hK hP hD hS 4 0 rfl rfl hw.1 d_Wd_keep_42 (fun H locs hP hD hS => ?_)
    have hw := hw.2
    have hP : va_P D vwCl (w_Wd k ad_this q_this_keywords (z_this.1, (upd z_this.2.1 (z_this.2.2.2.2.2.2.1).toNatClampNeg a1), (upd z_this.2.2.1 (z_this.2.2.2.2.2.2.1).toNatClampNeg a2), (upd z_this.2.2.2.1 (z_this.2.2.2.2.2.2.1).toNatClampNeg z_this.2.2.2.2.2.2.2.2.2.1), z_this.2.2.2.2.1, z_this.2.2.2.2.2.1, z_this.2.2.2.2.2.2.1, z_this.2.2.2.2.2.2.2.1, z_this.2.2.2.2.2.2.2.2.1, z_this.2.2.2.2.2.2.2.2.2.1, z_this.2.2.2.2.2.2.2.2.2.2.1, z_this.2.2.2.2.2.2.2.2.2.2.2.1, z_this.2.2.2.2.2.2.2.2.2.2.2.2.1, z_this.2.2.2.2.2.2.2.2.2.2.2.2.2)) H := hP
    have hD : va_D A (w_Wd k ad_this q_this_keywords (z_this.1, (upd z_this.2.1 (z_this.2.2.2.2.2.2.1).toNatClampNeg a1), (upd z_this.2.2.1 (z_this.2.2.2.2.2.2.1).toNatClampNeg a2), (upd z_this.2.2.2.1 (z_this.2.2.2.2.2.2.1).toNatClampNeg z_this.2.2.2.2.2.2.2.2.2.1), z_this.2.2.2.2.1, z_this.2.2.2.2.2.1, z_this.2.2.2.2.2.2.1, z_this.2.2.2.2.2.2.2.1, z_this.2.2.2.2.2.2.2.2.1, z_this.2.2.2.2.2.2.2.2.2.1, z_this.2.2.2.2.2.2.2.2.2.2.1, z_this.2.2.2.2.2.2.2.2.2.2.2.1, z_this.2.2.2.2.2.2.2.2.2.2.2.2.1, z_this.2.2.2.2.2.2.2.2.2.2.2.2.2)) := hD
    refine lv_aload_n hx hb d_Wd_keep_43 rfl (lv_at hl 0 rfl) ?_
    refine va_get (D := D) (ci := 2) (v := .ref (ad_this 5)) (C := R_Wd) (T := F_Wd) (N := 15) hx hb hts in_Wd hown hK hP 0 rfl rfl 5 (by decide) (hts (.fieldLink R_Wd 25 R_Wd "values" "[J") kw1_102) (fun _ h9 => h9) rfl d_Wd_keep_44 ?_
    refine lv_aload_n hx hb d_Wd_keep_47 rfl (lv_at hl 0 rfl) ?_
    refine va_get (D := D) (ci := 2) (v := .int z_this.2.2.2.2.2.2.1) (C := R_Wd) (T := F_Wd) (N := 15) hx hb hts in_Wd hown hK hP 0 rfl rfl 7 (by decide) (hts (.fieldLink R_Wd 43 R_Wd "count" "I") kw1_104) (fun _ h9 => h9) rfl d_Wd_keep_48 ?_
    refine lv_lload_n hx hb d_Wd_keep_51 rfl (lv_at hl 3 rfl) ?_
    refine va_last hx hb hK hP hD hS 5 1 rfl rfl hw.1 d_Wd_keep_52 (fun H locs hP hD hS => ?_)
    have hw := hw.2
    have hP : va_P D vwCl (w_Wd k ad_this q_this_keywords (z_this.1, (upd z_this.2.1 (z_this.2.2.2.2.2.2.1).toNatClampNeg a1), (upd z_this.2.2.1 (z_this.2.2.2.2.2.2.1).toNatClampNeg a2), (upd z_this.2.2.2.1 (z_this.2.2.2.2.2.2.1).toNatClampNeg z_this.2.2.2.2.2.2.2.2.2.1), (vp_updL z_this.2.2.2.2.1 (z_this.2.2.2.2.2.2.1).toNatClampNeg a3), z_this.2.2.2.2.2.1, z_this.2.2.2.2.2.2.1, z_this.2.2.2.2.2.2.2.1, z_this.2.2.2.2.2.2.2.2.1, z_this.2.2.2.2.2.2.2.2.2.1, z_this.2.2.2.2.2.2.2.2.2.2.1, z_this.2.2.2.2.2.2.2.2.2.2.2.1, z_this.2.2.2.2.2.2.2.2.2.2.2.2.1, z_this.2.2.2.2.2.2.2.2.2.2.2.2.2)) H := hP
    have hD : va_D A (w_Wd k ad_this q_this_keywords (z_this.1, (upd z_this.2.1 (z_this.2.2.2.2.2.2.1).toNatClampNeg a1), (upd z_this.2.2.1 (z_this.2.2.2.2.2.2.1).toNatClampNeg a2), (upd z_this.2.2.2.1 (z_this.2.2.2.2.2.2.1).toNatClampNeg z_this.2.2.2.2.2.2.2.2.2.1), (vp_updL z_this.2.2.2.2.1 (z_this.2.2.2.2.2.2.1).toNatClampNeg a3), z_this.2.2.2.2.2.1, z_this.2.2.2.2.2.2.1, z_this.2.2.2.2.2.2.2.1, z_this.2.2.2.2.2.2.2.2.1, z_this.2.2.2.2.2.2.2.2.2.1, z_this.2.2.2.2.2.2.2.2.2.2.1, z_this.2.2.2.2.2.2.2.2.2.2.2.1, z_this.2.2.2.2.2.2.2.2.2.2.2.2.1, z_this.2.2.2.2.2.2.2.2.2.2.2.2.2)) := hD
    refine lv_aload_n hx hb d_Wd_keep_53 rfl (lv_at hl 0 rfl) ?_
    refine lv_dup hx hb d_Wd_keep_54 rfl ?_
    refine va_get (D := D) (ci := 2) (v := .int z_this.2.2.2.2.2.2.1) (C := R_Wd) (T := F_Wd) (N := 15) hx hb hts in_Wd hown hK hP 0 rfl rfl 7 (by decide) (hts (.fieldLink R_Wd 43 R_Wd "count" "I") kw1_104) (fun _ h9 => h9) rfl d_Wd_keep_55 ?_
    refine lv_iconst (v := (1 : Int32)) hx hb d_Wd_keep_58 (by decide) ?_
    refine lv_iadd hx hb d_Wd_keep_59 ?_
    refine va_put (D := D) (ci := 2) (v := .int (z_this.2.2.2.2.2.2.1 + (1 : Int32))) (ty := .int) (C := R_Wd) (T := F_Wd) (N := 15) hx hb hts in_Wd t_Wd t_Wd_ok n_Wd hown hK hP hD hS 0 rfl rfl 7 (by decide) (hts (.fieldLink R_Wd 43 R_Wd "count" "I") kw1_104) (fun _ h9 => h9) rfl (by decide +kernel) rfl rfl (Nat.le_of_ble_eq_true rfl) d_Wd_keep_60 (fun H locs hP hD hS => ?_)
    have hP : va_P D vwCl (w_Wd k ad_this q_this_keywords (z_this.1, (upd z_this.2.1 (z_this.2.2.2.2.2.2.1).toNatClampNeg a1), (upd z_this.2.2.1 (z_this.2.2.2.2.2.2.1).toNatClampNeg a2), (upd z_this.2.2.2.1 (z_this.2.2.2.2.2.2.1).toNatClampNeg z_this.2.2.2.2.2.2.2.2.2.1), (vp_updL z_this.2.2.2.2.1 (z_this.2.2.2.2.2.2.1).toNatClampNeg a3), z_this.2.2.2.2.2.1, (z_this.2.2.2.2.2.2.1 + (1 : Int32)), z_this.2.2.2.2.2.2.2.1, z_this.2.2.2.2.2.2.2.2.1, z_this.2.2.2.2.2.2.2.2.2.1, z_this.2.2.2.2.2.2.2.2.2.2.1, z_this.2.2.2.2.2.2.2.2.2.2.2.1, z_this.2.2.2.2.2.2.2.2.2.2.2.2.1, z_this.2.2.2.2.2.2.2.2.2.2.2.2.2)) H := hP
    have hD : va_D A (w_Wd k ad_this q_this_keywords (z_this.1, (upd z_this.2.1 (z_this.2.2.2.2.2.2.1).toNatClampNeg a1), (upd z_this.2.2.1 (z_this.2.2.2.2.2.2.1).toNatClampNeg a2), (upd z_this.2.2.2.1 (z_this.2.2.2.2.2.2.1).toNatClampNeg z_this.2.2.2.2.2.2.2.2.2.1), (vp_updL z_this.2.2.2.2.1 (z_this.2.2.2.2.2.2.1).toNatClampNeg a3), z_this.2.2.2.2.2.1, (z_this.2.2.2.2.2.2.1 + (1 : Int32)), z_this.2.2.2.2.2.2.2.1, z_this.2.2.2.2.2.2.2.2.1, z_this.2.2.2.2.2.2.2.2.2.1, z_this.2.2.2.2.2.2.2.2.2.2.1, z_this.2.2.2.2.2.2.2.2.2.2.2.1, z_this.2.2.2.2.2.2.2.2.2.2.2.2.1, z_this.2.2.2.2.2.2.2.2.2.2.2.2.2)) := hD
    exact xq_vret (r := ()) (u := (z_this.1, (upd z_this.2.1 (z_this.2.2.2.2.2.2.1).toNatClampNeg a1), (upd z_this.2.2.1 (z_this.2.2.2.2.2.2.1).toNatClampNeg a2), (upd z_this.2.2.2.1 (z_this.2.2.2.2.2.2.1).toNatClampNeg z_this.2.2.2.2.2.2.2.2.2.1), (vp_updL z_this.2.2.2.2.1 (z_this.2.2.2.2.2.2.1).toNatClampNeg a3), z_this.2.2.2.2.2.1, (z_this.2.2.2.2.2.2.1 + (1 : Int32)), z_this.2.2.2.2.2.2.2.1, z_this.2.2.2.2.2.2.2.2.1, z_this.2.2.2.2.2.2.2.2.2.1, z_this.2.2.2.2.2.2.2.2.2.2.1, z_this.2.2.2.2.2.2.2.2.2.2.2.1, z_this.2.2.2.2.2.2.2.2.2.2.2.2.1, z_this.2.2.2.2.2.2.2.2.2.2.2.2.2)) hx hb hr hlocks hAe hP hD hS rfl hw (Nat.le_of_ble_eq_true rfl) (Nat.le_of_ble_eq_true rfl) d_Wd_keep_63
theorem cw_Wd_keep {R : Room} {s : State} {args : Array Value} {own : String} {index : Nat} (hts : ∀ w ∈ xq_W, w.before args s = true) (hl : .methodLink own index y_Wd_keep ∈ xq_W) {rm : Room} (hR : rm.frames + 1 ≤ R.frames ∧ 8 + (5 + 11) + rm.locals ≤ R.locals) : CallW R s args own "StepText$Words" index y_Wd_keep prog_8_method_11_code 5 none (.code y_Wd_keep prog_8_method_11_code 5 none :: xq_W) rm rm.cells rm.slots 3 := ⟨xq_cb 3 hts kw2_115 kw1_7 hl ⟨by decide, by decide, by decide +kernel⟩ hR, hts _ kw2_114, hts _ kp1_5⟩
def y_Wd_keepJoined : MethodName := ⟨"StepText$Words", "keepJoined", "(IIJ)Z"⟩
theorem d_Wd_keepJoined_0 : decode prog_8_method_10_code 0 = .ok (.aload_n 0, 1) := by decide +kernel
theorem d_Wd_keepJoined_1 : decode prog_8_method_10_code 1 = .ok (.aload_n 0, 1) := by decide +kernel
theorem d_Wd_keepJoined_2 : decode prog_8_method_10_code 2 = .ok (.getfield 37, 3) := by decide +kernel
theorem d_Wd_keepJoined_5 : decode prog_8_method_10_code 5 = .ok (.invokevirtual 75, 3) := by decide +kernel
theorem d_Wd_keepJoined_8 : decode prog_8_method_10_code 8 = .ok (.istore 5, 2) := by decide +kernel
theorem d_Wd_keepJoined_10 : decode prog_8_method_10_code 10 = .ok (.iload 5, 2) := by decide +kernel
theorem d_Wd_keepJoined_12 : decode prog_8_method_10_code 12 = .ok (.bipush 46, 2) := by decide +kernel
theorem d_Wd_keepJoined_14 : decode prog_8_method_10_code 14 = .ok (.if_icmp .eq 11, 3) := by decide +kernel
theorem d_Wd_keepJoined_17 : decode prog_8_method_10_code 17 = .ok (.iload 5, 2) := by decide +kernel
theorem d_Wd_keepJoined_19 : decode prog_8_method_10_code 19 = .ok (.invokestatic 89, 3) := by decide +kernel
theorem d_Wd_keepJoined_22 : decode prog_8_method_10_code 22 = .ok (.ifCond .le 17, 3) := by decide +kernel
theorem d_Wd_keepJoined_25 : decode prog_8_method_10_code 25 = .ok (.aload_n 0, 1) := by decide +kernel
theorem d_Wd_keepJoined_26 : decode prog_8_method_10_code 26 = .ok (.sipush 131, 3) := by decide +kernel
theorem d_Wd_keepJoined_29 : decode prog_8_method_10_code 29 = .ok (.aload_n 0, 1) := by decide +kernel
theorem d_Wd_keepJoined_30 : decode prog_8_method_10_code 30 = .ok (.getfield 37, 3) := by decide +kernel
theorem d_Wd_keepJoined_33 : decode prog_8_method_10_code 33 = .ok (.lconst 0, 1) := by decide +kernel
theorem d_Wd_keepJoined_34 : decode prog_8_method_10_code 34 = .ok (.invokevirtual 97, 3) := by decide +kernel
theorem d_Wd_keepJoined_37 : decode prog_8_method_10_code 37 = .ok (.iconst 0, 1) := by decide +kernel
theorem d_Wd_keepJoined_38 : decode prog_8_method_10_code 38 = .ok (.ireturn, 1) := by decide +kernel
theorem d_Wd_keepJoined_39 : decode prog_8_method_10_code 39 = .ok (.aload_n 0, 1) := by decide +kernel
theorem d_Wd_keepJoined_40 : decode prog_8_method_10_code 40 = .ok (.iload_n 1, 1) := by decide +kernel
theorem d_Wd_keepJoined_41 : decode prog_8_method_10_code 41 = .ok (.iload_n 2, 1) := by decide +kernel
theorem d_Wd_keepJoined_42 : decode prog_8_method_10_code 42 = .ok (.lload_n 3, 1) := by decide +kernel
theorem d_Wd_keepJoined_43 : decode prog_8_method_10_code 43 = .ok (.invokevirtual 97, 3) := by decide +kernel
theorem d_Wd_keepJoined_46 : decode prog_8_method_10_code 46 = .ok (.iconst 1, 1) := by decide +kernel
theorem d_Wd_keepJoined_47 : decode prog_8_method_10_code 47 = .ok (.ireturn, 1) := by decide +kernel
def wp_Wd_keepJoined (z_this : T_Wd) (a1 : Int32) (a2 : Int32) (a3 : Int64) (post : Int32 → T_Wd → Prop) : Prop := wp_Wd_byteAt z_this z_this.2.2.2.2.2.2.2.2.1 (fun (r1 : Int32) (u1 : Unit) => (r1 = (46 : Int32) → (wp_Wd_keep z_this (131 : Int32) z_this.2.2.2.2.2.2.2.2.1 (0 : Int64) (fun (r2 : Unit) (u2 : T_Wd) => post (0 : Int32) u2))) ∧ (¬ r1 = (46 : Int32) → (wp_Kw_rank r1 (fun (r3 : Int32) (u3 : Unit) => (r3 ≤ 0 → (wp_Wd_keep z_this a1 a2 a3 (fun (r4 : Unit) (u4 : T_Wd) => post (1 : Int32) u4))) ∧ (¬ r3 ≤ 0 → (wp_Wd_keep z_this (131 : Int32) z_this.2.2.2.2.2.2.2.2.1 (0 : Int64) (fun (r5 : Unit) (u5 : T_Wd) => post (0 : Int32) u5)))))))
def rm_Wd_keepJoined : Room := { frames := 1, cells := 0, slots := 0, locals := 24 }
set_option maxHeartbeats 4000000 in
set_option maxRecDepth 100000 in
theorem c_Wd_keepJoined {l : Launch} {o : State × Array Value} {D : va_G} {k : Nat → ClassId} {ad_this : Nat → Nat} {q_this_keywords : Nat} {z_this : T_Wd} {a1 : Int32} {a2 : Int32} {a3 : Int64} {post : Int32 → T_Wd → Prop} (hw : wp_Wd_keepJoined z_this a1 a2 a3 post) : xq_C l o y_Wd_keepJoined (.code y_Wd_keepJoined prog_8_method_10_code 6 (some (.boolean)) :: xq_W) rm_Wd_keepJoined D vwCl (xt k) [.ref (ad_this 0), .int a1, .int a2, .long a3] (w_Wd k ad_this q_this_keywords z_this) (fun r : Int32 => some (.int r)) post (fun _ : T_Wd => False) (fun u : T_Wd => w_Wd k ad_this q_this_keywords u) 0 0 0 0 := by
  refine xq_ofW (cc := prog_8_method_10_code) (maxL := 6) (ret := (some (.boolean))) (by decide) rfl (Nat.le_of_ble_eq_true rfl) ?_
  intro p e s m below meth c ls H locs A hAt hAe hA hl hK hJ hP0 hP hD hS
  obtain ⟨hx, hb, hml, hr, hlocks, hown, hts, hex, hnm⟩ := id hAt
  have hl : lv_has ls 6 [(0, .ref (ad_this 0)), (1, .int a1), (2, .int a2), (3, .long a3)] := hl
  unfold wp_Wd_keepJoined at hw
  refine lv_aload_n hx hb d_Wd_keepJoined_0 rfl (lv_at hl 0 rfl) ?_
  refine lv_aload_n hx hb d_Wd_keepJoined_1 rfl (lv_at hl 0 rfl) ?_
  refine va_get (D := D) (ci := 2) (v := .int z_this.2.2.2.2.2.2.2.2.1) (C := R_Wd) (T := F_Wd) (N := 15) hx hb hts in_Wd hown hK hP 0 rfl rfl 9 (by decide) (hts (.fieldLink R_Wd 37 R_Wd "scan" "I") kw1_106) (fun _ h9 => h9) rfl d_Wd_keepJoined_2 ?_
  refine xq_go (wr := ([] : va_W)) (stk := fun r => .int r :: []) (xq_runV (As := [.int z_this.2.2.2.2.2.2.2.2.1]) (rest := []) ⟨hx, hb, hml, hown, hts⟩ (c_Wd_byteAt (l := l) (o := o) (D := D) (k := k) (ad_this := ad_this) (q_this_keywords := q_this_keywords) hw) (cw_Wd_byteAt hts kw2_87 ⟨Nat.le_of_ble_eq_true rfl, Nat.le_of_ble_eq_true rfl⟩) (va_recv hK hP (ci := 2) (q0 := 0) rfl rfl) (hP.sub [0, 1, 2, 3, 4, 5] rfl) hK hJ hS (va_free hD hS hA [0, 1, 2, 3, 4, 5] rfl) ((hD.sub [0, 1, 2, 3, 4, 5] (by decide) rfl).weaken (fun _ _ _ _ => trivial)) rfl hl.1 (Nat.le_of_ble_eq_true rfl) d_Wd_keepJoined_5 ⟨Nat.le_of_ble_eq_true rfl, Nat.le_of_ble_eq_true rfl⟩) hP hD hS hA [0, 1, 2, 3, 4, 5] [] rfl rfl (by decide) (by decide) (fun _ => rfl) (fun r1 u1 H locs hw hP hD hS => ?_) (fun _ _ _ _ h9 => h9.elim)
  have hP : va_P D vwCl (w_Wd k ad_this q_this_keywords z_this) H := hP.sub [0, 1, 2, 3, 4, 5] rfl
  have hD : va_D A (w_Wd k ad_this q_this_keywords z_this) := hD.sub [0, 1, 2, 3, 4, 5] (by decide) rfl
  refine lv_istore (lv' := [(5, .int r1), (0, .ref (ad_this 0)), (1, .int a1), (2, .int a2), (3, .long a3)]) hx hb d_Wd_keepJoined_8 hl (by decide) rfl (fun ls hl => ?_)
  refine lv_iload hx hb d_Wd_keepJoined_10 (lv_at hl 0 rfl) ?_
  refine lv_bipush (v := (46 : Int32)) hx hb d_Wd_keepJoined_12 (by decide) ?_
  refine lv_icmp_eq (tgt := 25) hx hb d_Wd_keepJoined_14 (by decide) (fun hc => ?_) (fun hc => ?_)
  · have hw := hw.1 hc
    refine lv_aload_n hx hb d_Wd_keepJoined_25 rfl (lv_at hl 1 rfl) ?_
    refine lv_sipush (v := (131 : Int32)) hx hb d_Wd_keepJoined_26 (by decide) ?_
    refine lv_aload_n hx hb d_Wd_keepJoined_29 rfl (lv_at hl 1 rfl) ?_
    refine va_get (D := D) (ci := 2) (v := .int z_this.2.2.2.2.2.2.2.2.1) (C := R_Wd) (T := F_Wd) (N := 15) hx hb hts in_Wd hown hK hP 0 rfl rfl 9 (by decide) (hts (.fieldLink R_Wd 37 R_Wd "scan" "I") kw1_106) (fun _ h9 => h9) rfl d_Wd_keepJoined_30 ?_
    refine lv_lconst (v := (0 : Int64)) hx hb d_Wd_keepJoined_33 (by decide) ?_
    refine xq_go (wr := ([] : va_W)) (stk := fun _ => []) (xq_runV (As := [.int (131 : Int32), .int z_this.2.2.2.2.2.2.2.2.1, .long (0 : Int64)]) (rest := []) ⟨hx, hb, hml, hown, hts⟩ (c_Wd_keep (l := l) (o := o) (D := D) (k := k) (ad_this := ad_this) (q_this_keywords := q_this_keywords) hw) (cw_Wd_keep hts kw2_112 ⟨Nat.le_of_ble_eq_true rfl, Nat.le_of_ble_eq_true rfl⟩) (va_recv hK hP (ci := 2) (q0 := 0) rfl rfl) (hP.sub [0, 1, 2, 3, 4, 5] rfl) hK hJ hS (va_free hD hS hA [0, 1, 2, 3, 4, 5] rfl) ((hD.sub [0, 1, 2, 3, 4, 5] (by decide) rfl).weaken (fun _ _ _ _ => trivial)) rfl hl.1 (Nat.le_of_ble_eq_true rfl) d_Wd_keepJoined_34 ⟨Nat.le_of_ble_eq_true rfl, Nat.le_of_ble_eq_true rfl⟩) hP hD hS hA [0, 1, 2, 3, 4, 5] [] rfl rfl (by decide) (by decide) (fun _ => rfl) (fun r2 u2 H locs hw hP hD hS => ?_) (fun _ _ _ _ h9 => h9.elim)
    have hP : va_P D vwCl (w_Wd k ad_this q_this_keywords u2) H := hP.sub [0, 1, 2, 3, 4, 5] rfl
    have hD : va_D A (w_Wd k ad_this q_this_keywords u2) := hD.sub [0, 1, 2, 3, 4, 5] (by decide) rfl
    refine lv_iconst (v := (0 : Int32)) hx hb d_Wd_keepJoined_37 (by decide) ?_
    exact xq_zret (r := (0 : Int32)) (u := u2) hx hb hr hlocks hAe hP hD hS rfl rfl hw (Nat.le_of_ble_eq_true rfl) (Nat.le_of_ble_eq_true rfl) d_Wd_keepJoined_38
  · have hw := hw.2 hc
    refine lv_iload hx hb d_Wd_keepJoined_17 (lv_at hl 0 rfl) ?_
    refine xq_go (wr := w_Wd k ad_this q_this_keywords z_this) (stk := fun r => .int r :: []) (xq_runS (As := [.int r1]) (rest := []) ⟨hx, hb, hml, hown, hts⟩ (c_Kw_rank (l := l) (o := o) (D := D) (k := k) hw) (cs_Kw_rank hts kw2_111 ⟨Nat.le_of_ble_eq_true rfl, Nat.le_of_ble_eq_true rfl⟩) (hP.sub [] rfl) hK hJ hS (va_free hD hS hA [] rfl) ((hD.sub [] (by decide) rfl).weaken (fun _ _ _ _ => trivial)) rfl hl.1 (Nat.le_of_ble_eq_true rfl) d_Wd_keepJoined_19 ⟨Nat.le_of_ble_eq_true rfl, Nat.le_of_ble_eq_true rfl⟩) hP hD hS hA [] [0, 1, 2, 3, 4, 5] rfl rfl (by decide) (by decide) (fun _ => rfl) (fun r3 u3 H locs hw hP hD hS => ?_) (fun _ _ _ _ h9 => h9.elim)
    have hP : va_P D vwCl (w_Wd k ad_this q_this_keywords z_this) H := hP.sub [0, 1, 2, 3, 4, 5] rfl
    have hD : va_D A (w_Wd k ad_this q_this_keywords z_this) := hD.sub [0, 1, 2, 3, 4, 5] (by decide) rfl
    refine lv_if_le (tgt := 39) hx hb d_Wd_keepJoined_22 (by decide) (fun hc => ?_) (fun hc => ?_)
    · have hw := hw.1 hc
      refine lv_aload_n hx hb d_Wd_keepJoined_39 rfl (lv_at hl 1 rfl) ?_
      refine lv_iload_n hx hb d_Wd_keepJoined_40 rfl (lv_at hl 2 rfl) ?_
      refine lv_iload_n hx hb d_Wd_keepJoined_41 rfl (lv_at hl 3 rfl) ?_
      refine lv_lload_n hx hb d_Wd_keepJoined_42 rfl (lv_at hl 4 rfl) ?_
      refine xq_go (wr := ([] : va_W)) (stk := fun _ => []) (xq_runV (As := [.int a1, .int a2, .long a3]) (rest := []) ⟨hx, hb, hml, hown, hts⟩ (c_Wd_keep (l := l) (o := o) (D := D) (k := k) (ad_this := ad_this) (q_this_keywords := q_this_keywords) hw) (cw_Wd_keep hts kw2_112 ⟨Nat.le_of_ble_eq_true rfl, Nat.le_of_ble_eq_true rfl⟩) (va_recv hK hP (ci := 2) (q0 := 0) rfl rfl) (hP.sub [0, 1, 2, 3, 4, 5] rfl) hK hJ hS (va_free hD hS hA [0, 1, 2, 3, 4, 5] rfl) ((hD.sub [0, 1, 2, 3, 4, 5] (by decide) rfl).weaken (fun _ _ _ _ => trivial)) rfl hl.1 (Nat.le_of_ble_eq_true rfl) d_Wd_keepJoined_43 ⟨Nat.le_of_ble_eq_true rfl, Nat.le_of_ble_eq_true rfl⟩) hP hD hS hA [0, 1, 2, 3, 4, 5] [] rfl rfl (by decide) (by decide) (fun _ => rfl) (fun r4 u4 H locs hw hP hD hS => ?_) (fun _ _ _ _ h9 => h9.elim)
      have hP : va_P D vwCl (w_Wd k ad_this q_this_keywords u4) H := hP.sub [0, 1, 2, 3, 4, 5] rfl
      have hD : va_D A (w_Wd k ad_this q_this_keywords u4) := hD.sub [0, 1, 2, 3, 4, 5] (by decide) rfl
      refine lv_iconst (v := (1 : Int32)) hx hb d_Wd_keepJoined_46 (by decide) ?_
      exact xq_zret (r := (1 : Int32)) (u := u4) hx hb hr hlocks hAe hP hD hS rfl rfl hw (Nat.le_of_ble_eq_true rfl) (Nat.le_of_ble_eq_true rfl) d_Wd_keepJoined_47
    · have hw := hw.2 hc
      refine lv_aload_n hx hb d_Wd_keepJoined_25 rfl (lv_at hl 1 rfl) ?_
      refine lv_sipush (v := (131 : Int32)) hx hb d_Wd_keepJoined_26 (by decide) ?_
      refine lv_aload_n hx hb d_Wd_keepJoined_29 rfl (lv_at hl 1 rfl) ?_
      refine va_get (D := D) (ci := 2) (v := .int z_this.2.2.2.2.2.2.2.2.1) (C := R_Wd) (T := F_Wd) (N := 15) hx hb hts in_Wd hown hK hP 0 rfl rfl 9 (by decide) (hts (.fieldLink R_Wd 37 R_Wd "scan" "I") kw1_106) (fun _ h9 => h9) rfl d_Wd_keepJoined_30 ?_
      refine lv_lconst (v := (0 : Int64)) hx hb d_Wd_keepJoined_33 (by decide) ?_
      refine xq_go (wr := ([] : va_W)) (stk := fun _ => []) (xq_runV (As := [.int (131 : Int32), .int z_this.2.2.2.2.2.2.2.2.1, .long (0 : Int64)]) (rest := []) ⟨hx, hb, hml, hown, hts⟩ (c_Wd_keep (l := l) (o := o) (D := D) (k := k) (ad_this := ad_this) (q_this_keywords := q_this_keywords) hw) (cw_Wd_keep hts kw2_112 ⟨Nat.le_of_ble_eq_true rfl, Nat.le_of_ble_eq_true rfl⟩) (va_recv hK hP (ci := 2) (q0 := 0) rfl rfl) (hP.sub [0, 1, 2, 3, 4, 5] rfl) hK hJ hS (va_free hD hS hA [0, 1, 2, 3, 4, 5] rfl) ((hD.sub [0, 1, 2, 3, 4, 5] (by decide) rfl).weaken (fun _ _ _ _ => trivial)) rfl hl.1 (Nat.le_of_ble_eq_true rfl) d_Wd_keepJoined_34 ⟨Nat.le_of_ble_eq_true rfl, Nat.le_of_ble_eq_true rfl⟩) hP hD hS hA [0, 1, 2, 3, 4, 5] [] rfl rfl (by decide) (by decide) (fun _ => rfl) (fun r5 u5 H locs hw hP hD hS => ?_) (fun _ _ _ _ h9 => h9.elim)
      have hP : va_P D vwCl (w_Wd k ad_this q_this_keywords u5) H := hP.sub [0, 1, 2, 3, 4, 5] rfl
      have hD : va_D A (w_Wd k ad_this q_this_keywords u5) := hD.sub [0, 1, 2, 3, 4, 5] (by decide) rfl
      refine lv_iconst (v := (0 : Int32)) hx hb d_Wd_keepJoined_37 (by decide) ?_
      exact xq_zret (r := (0 : Int32)) (u := u5) hx hb hr hlocks hAe hP hD hS rfl rfl hw (Nat.le_of_ble_eq_true rfl) (Nat.le_of_ble_eq_true rfl) d_Wd_keepJoined_38
theorem cw_Wd_keepJoined {R : Room} {s : State} {args : Array Value} {own : String} {index : Nat} (hts : ∀ w ∈ xq_W, w.before args s = true) (hl : .methodLink own index y_Wd_keepJoined ∈ xq_W) {rm : Room} (hR : rm.frames + 1 ≤ R.frames ∧ 8 + (6 + 11) + rm.locals ≤ R.locals) : CallW R s args own "StepText$Words" index y_Wd_keepJoined prog_8_method_10_code 6 (some (.boolean)) (.code y_Wd_keepJoined prog_8_method_10_code 6 (some (.boolean)) :: xq_W) rm rm.cells rm.slots 3 := ⟨xq_cb 3 hts kw2_110 kw1_7 hl ⟨by decide, by decide, by decide +kernel⟩ hR, hts _ kw2_109, hts _ kp1_4⟩
def y_Wd_splitNumber : MethodName := ⟨"StepText$Words", "splitNumber", "()Z"⟩
theorem d_Wd_splitNumber_0 : decode prog_8_method_9_code 0 = .ok (.aload_n 0, 1) := by decide +kernel
theorem d_Wd_splitNumber_1 : decode prog_8_method_9_code 1 = .ok (.getfield 37, 3) := by decide +kernel
theorem d_Wd_splitNumber_4 : decode prog_8_method_9_code 4 = .ok (.istore_n 1, 1) := by decide +kernel
theorem d_Wd_splitNumber_5 : decode prog_8_method_9_code 5 = .ok (.lconst 0, 1) := by decide +kernel
theorem d_Wd_splitNumber_6 : decode prog_8_method_9_code 6 = .ok (.lstore_n 2, 1) := by decide +kernel
theorem d_Wd_splitNumber_7 : decode prog_8_method_9_code 7 = .ok (.iconst 0, 1) := by decide +kernel
theorem d_Wd_splitNumber_8 : decode prog_8_method_9_code 8 = .ok (.istore 4, 2) := by decide +kernel
theorem d_Wd_splitNumber_10 : decode prog_8_method_9_code 10 = .ok (.iload 4, 2) := by decide +kernel
theorem d_Wd_splitNumber_12 : decode prog_8_method_9_code 12 = .ok (.bipush 9, 2) := by decide +kernel
theorem d_Wd_splitNumber_14 : decode prog_8_method_9_code 14 = .ok (.if_icmp .ge 53, 3) := by decide +kernel
theorem d_Wd_splitNumber_17 : decode prog_8_method_9_code 17 = .ok (.aload_n 0, 1) := by decide +kernel
theorem d_Wd_splitNumber_18 : decode prog_8_method_9_code 18 = .ok (.aload_n 0, 1) := by decide +kernel
theorem d_Wd_splitNumber_19 : decode prog_8_method_9_code 19 = .ok (.getfield 37, 3) := by decide +kernel
theorem d_Wd_splitNumber_22 : decode prog_8_method_9_code 22 = .ok (.invokevirtual 75, 3) := by decide +kernel
theorem d_Wd_splitNumber_25 : decode prog_8_method_9_code 25 = .ok (.invokestatic 83, 3) := by decide +kernel
theorem d_Wd_splitNumber_28 : decode prog_8_method_9_code 28 = .ok (.ifCond .eq 39, 3) := by decide +kernel
theorem d_Wd_splitNumber_31 : decode prog_8_method_9_code 31 = .ok (.lload_n 2, 1) := by decide +kernel
theorem d_Wd_splitNumber_32 : decode prog_8_method_9_code 32 = .ok (.ldc2_w 111, 3) := by decide +kernel
theorem d_Wd_splitNumber_35 : decode prog_8_method_9_code 35 = .ok (.lmul, 1) := by decide +kernel
theorem d_Wd_splitNumber_36 : decode prog_8_method_9_code 36 = .ok (.aload_n 0, 1) := by decide +kernel
theorem d_Wd_splitNumber_37 : decode prog_8_method_9_code 37 = .ok (.aload_n 0, 1) := by decide +kernel
theorem d_Wd_splitNumber_38 : decode prog_8_method_9_code 38 = .ok (.getfield 37, 3) := by decide +kernel
theorem d_Wd_splitNumber_41 : decode prog_8_method_9_code 41 = .ok (.invokevirtual 75, 3) := by decide +kernel
theorem d_Wd_splitNumber_44 : decode prog_8_method_9_code 44 = .ok (.i2l, 1) := by decide +kernel
theorem d_Wd_splitNumber_45 : decode prog_8_method_9_code 45 = .ok (.ladd, 1) := by decide +kernel
theorem d_Wd_splitNumber_46 : decode prog_8_method_9_code 46 = .ok (.ldc2_w 113, 3) := by decide +kernel
theorem d_Wd_splitNumber_49 : decode prog_8_method_9_code 49 = .ok (.lsub, 1) := by decide +kernel
theorem d_Wd_splitNumber_50 : decode prog_8_method_9_code 50 = .ok (.lstore_n 2, 1) := by decide +kernel
theorem d_Wd_splitNumber_51 : decode prog_8_method_9_code 51 = .ok (.aload_n 0, 1) := by decide +kernel
theorem d_Wd_splitNumber_52 : decode prog_8_method_9_code 52 = .ok (.dup, 1) := by decide +kernel
theorem d_Wd_splitNumber_53 : decode prog_8_method_9_code 53 = .ok (.getfield 37, 3) := by decide +kernel
theorem d_Wd_splitNumber_56 : decode prog_8_method_9_code 56 = .ok (.iconst 1, 1) := by decide +kernel
theorem d_Wd_splitNumber_57 : decode prog_8_method_9_code 57 = .ok (.iadd, 1) := by decide +kernel
theorem d_Wd_splitNumber_58 : decode prog_8_method_9_code 58 = .ok (.putfield 37, 3) := by decide +kernel
theorem d_Wd_splitNumber_61 : decode prog_8_method_9_code 61 = .ok (.iinc 4 1, 3) := by decide +kernel
theorem d_Wd_splitNumber_64 : decode prog_8_method_9_code 64 = .ok (.goto (-54), 3) := by decide +kernel
theorem d_Wd_splitNumber_67 : decode prog_8_method_9_code 67 = .ok (.aload_n 0, 1) := by decide +kernel
theorem d_Wd_splitNumber_68 : decode prog_8_method_9_code 68 = .ok (.aload_n 0, 1) := by decide +kernel
theorem d_Wd_splitNumber_69 : decode prog_8_method_9_code 69 = .ok (.getfield 37, 3) := by decide +kernel
theorem d_Wd_splitNumber_72 : decode prog_8_method_9_code 72 = .ok (.invokevirtual 75, 3) := by decide +kernel
theorem d_Wd_splitNumber_75 : decode prog_8_method_9_code 75 = .ok (.bipush 46, 2) := by decide +kernel
theorem d_Wd_splitNumber_77 : decode prog_8_method_9_code 77 = .ok (.if_icmp .ne 23, 3) := by decide +kernel
theorem d_Wd_splitNumber_80 : decode prog_8_method_9_code 80 = .ok (.aload_n 0, 1) := by decide +kernel
theorem d_Wd_splitNumber_81 : decode prog_8_method_9_code 81 = .ok (.aload_n 0, 1) := by decide +kernel
theorem d_Wd_splitNumber_82 : decode prog_8_method_9_code 82 = .ok (.getfield 37, 3) := by decide +kernel
theorem d_Wd_splitNumber_85 : decode prog_8_method_9_code 85 = .ok (.iconst 1, 1) := by decide +kernel
theorem d_Wd_splitNumber_86 : decode prog_8_method_9_code 86 = .ok (.iadd, 1) := by decide +kernel
theorem d_Wd_splitNumber_87 : decode prog_8_method_9_code 87 = .ok (.invokevirtual 75, 3) := by decide +kernel
theorem d_Wd_splitNumber_90 : decode prog_8_method_9_code 90 = .ok (.invokestatic 83, 3) := by decide +kernel
theorem d_Wd_splitNumber_93 : decode prog_8_method_9_code 93 = .ok (.ifCond .eq 7, 3) := by decide +kernel
theorem d_Wd_splitNumber_96 : decode prog_8_method_9_code 96 = .ok (.iconst 1, 1) := by decide +kernel
theorem d_Wd_splitNumber_97 : decode prog_8_method_9_code 97 = .ok (.goto 4, 3) := by decide +kernel
theorem d_Wd_splitNumber_100 : decode prog_8_method_9_code 100 = .ok (.iconst 0, 1) := by decide +kernel
theorem d_Wd_splitNumber_101 : decode prog_8_method_9_code 101 = .ok (.istore 4, 2) := by decide +kernel
theorem d_Wd_splitNumber_103 : decode prog_8_method_9_code 103 = .ok (.iload 4, 2) := by decide +kernel
theorem d_Wd_splitNumber_105 : decode prog_8_method_9_code 105 = .ok (.ifCond .eq 13, 3) := by decide +kernel
theorem d_Wd_splitNumber_108 : decode prog_8_method_9_code 108 = .ok (.aload_n 0, 1) := by decide +kernel
theorem d_Wd_splitNumber_109 : decode prog_8_method_9_code 109 = .ok (.dup, 1) := by decide +kernel
theorem d_Wd_splitNumber_110 : decode prog_8_method_9_code 110 = .ok (.getfield 37, 3) := by decide +kernel
theorem d_Wd_splitNumber_113 : decode prog_8_method_9_code 113 = .ok (.iconst 1, 1) := by decide +kernel
theorem d_Wd_splitNumber_114 : decode prog_8_method_9_code 114 = .ok (.iadd, 1) := by decide +kernel
theorem d_Wd_splitNumber_115 : decode prog_8_method_9_code 115 = .ok (.putfield 37, 3) := by decide +kernel
theorem d_Wd_splitNumber_118 : decode prog_8_method_9_code 118 = .ok (.iload 4, 2) := by decide +kernel
theorem d_Wd_splitNumber_120 : decode prog_8_method_9_code 120 = .ok (.istore 5, 2) := by decide +kernel
theorem d_Wd_splitNumber_122 : decode prog_8_method_9_code 122 = .ok (.iconst 0, 1) := by decide +kernel
theorem d_Wd_splitNumber_123 : decode prog_8_method_9_code 123 = .ok (.istore 6, 2) := by decide +kernel
theorem d_Wd_splitNumber_125 : decode prog_8_method_9_code 125 = .ok (.iload 6, 2) := by decide +kernel
theorem d_Wd_splitNumber_127 : decode prog_8_method_9_code 127 = .ok (.iconst 3, 1) := by decide +kernel
theorem d_Wd_splitNumber_128 : decode prog_8_method_9_code 128 = .ok (.if_icmp .ge 82, 3) := by decide +kernel
theorem d_Wd_splitNumber_131 : decode prog_8_method_9_code 131 = .ok (.iload 5, 2) := by decide +kernel
theorem d_Wd_splitNumber_133 : decode prog_8_method_9_code 133 = .ok (.ifCond .eq 21, 3) := by decide +kernel
theorem d_Wd_splitNumber_136 : decode prog_8_method_9_code 136 = .ok (.aload_n 0, 1) := by decide +kernel
theorem d_Wd_splitNumber_137 : decode prog_8_method_9_code 137 = .ok (.aload_n 0, 1) := by decide +kernel
theorem d_Wd_splitNumber_138 : decode prog_8_method_9_code 138 = .ok (.getfield 37, 3) := by decide +kernel
theorem d_Wd_splitNumber_141 : decode prog_8_method_9_code 141 = .ok (.invokevirtual 75, 3) := by decide +kernel
theorem d_Wd_splitNumber_144 : decode prog_8_method_9_code 144 = .ok (.invokestatic 83, 3) := by decide +kernel
theorem d_Wd_splitNumber_147 : decode prog_8_method_9_code 147 = .ok (.ifCond .eq 7, 3) := by decide +kernel
theorem d_Wd_splitNumber_150 : decode prog_8_method_9_code 150 = .ok (.iconst 1, 1) := by decide +kernel
theorem d_Wd_splitNumber_151 : decode prog_8_method_9_code 151 = .ok (.goto 4, 3) := by decide +kernel
theorem d_Wd_splitNumber_154 : decode prog_8_method_9_code 154 = .ok (.iconst 0, 1) := by decide +kernel
theorem d_Wd_splitNumber_155 : decode prog_8_method_9_code 155 = .ok (.istore 5, 2) := by decide +kernel
theorem d_Wd_splitNumber_157 : decode prog_8_method_9_code 157 = .ok (.lload_n 2, 1) := by decide +kernel
theorem d_Wd_splitNumber_158 : decode prog_8_method_9_code 158 = .ok (.ldc2_w 111, 3) := by decide +kernel
theorem d_Wd_splitNumber_161 : decode prog_8_method_9_code 161 = .ok (.lmul, 1) := by decide +kernel
theorem d_Wd_splitNumber_162 : decode prog_8_method_9_code 162 = .ok (.iload 5, 2) := by decide +kernel
theorem d_Wd_splitNumber_164 : decode prog_8_method_9_code 164 = .ok (.ifCond .eq 17, 3) := by decide +kernel
theorem d_Wd_splitNumber_167 : decode prog_8_method_9_code 167 = .ok (.aload_n 0, 1) := by decide +kernel
theorem d_Wd_splitNumber_168 : decode prog_8_method_9_code 168 = .ok (.aload_n 0, 1) := by decide +kernel
theorem d_Wd_splitNumber_169 : decode prog_8_method_9_code 169 = .ok (.getfield 37, 3) := by decide +kernel
theorem d_Wd_splitNumber_172 : decode prog_8_method_9_code 172 = .ok (.invokevirtual 75, 3) := by decide +kernel
theorem d_Wd_splitNumber_175 : decode prog_8_method_9_code 175 = .ok (.bipush 48, 2) := by decide +kernel
theorem d_Wd_splitNumber_177 : decode prog_8_method_9_code 177 = .ok (.isub, 1) := by decide +kernel
theorem d_Wd_splitNumber_178 : decode prog_8_method_9_code 178 = .ok (.goto 4, 3) := by decide +kernel
theorem d_Wd_splitNumber_181 : decode prog_8_method_9_code 181 = .ok (.iconst 0, 1) := by decide +kernel
theorem d_Wd_splitNumber_182 : decode prog_8_method_9_code 182 = .ok (.i2l, 1) := by decide +kernel
theorem d_Wd_splitNumber_183 : decode prog_8_method_9_code 183 = .ok (.ladd, 1) := by decide +kernel
theorem d_Wd_splitNumber_184 : decode prog_8_method_9_code 184 = .ok (.lstore_n 2, 1) := by decide +kernel
theorem d_Wd_splitNumber_185 : decode prog_8_method_9_code 185 = .ok (.aload_n 0, 1) := by decide +kernel
theorem d_Wd_splitNumber_186 : decode prog_8_method_9_code 186 = .ok (.dup, 1) := by decide +kernel
theorem d_Wd_splitNumber_187 : decode prog_8_method_9_code 187 = .ok (.getfield 37, 3) := by decide +kernel
theorem d_Wd_splitNumber_190 : decode prog_8_method_9_code 190 = .ok (.iload 5, 2) := by decide +kernel
theorem d_Wd_splitNumber_192 : decode prog_8_method_9_code 192 = .ok (.ifCond .eq 7, 3) := by decide +kernel
theorem d_Wd_splitNumber_195 : decode prog_8_method_9_code 195 = .ok (.iconst 1, 1) := by decide +kernel
theorem d_Wd_splitNumber_196 : decode prog_8_method_9_code 196 = .ok (.goto 4, 3) := by decide +kernel
theorem d_Wd_splitNumber_199 : decode prog_8_method_9_code 199 = .ok (.iconst 0, 1) := by decide +kernel
theorem d_Wd_splitNumber_200 : decode prog_8_method_9_code 200 = .ok (.iadd, 1) := by decide +kernel
theorem d_Wd_splitNumber_201 : decode prog_8_method_9_code 201 = .ok (.putfield 37, 3) := by decide +kernel
theorem d_Wd_splitNumber_204 : decode prog_8_method_9_code 204 = .ok (.iinc 6 1, 3) := by decide +kernel
theorem d_Wd_splitNumber_207 : decode prog_8_method_9_code 207 = .ok (.goto (-82), 3) := by decide +kernel
theorem d_Wd_splitNumber_210 : decode prog_8_method_9_code 210 = .ok (.aload_n 0, 1) := by decide +kernel
theorem d_Wd_splitNumber_211 : decode prog_8_method_9_code 211 = .ok (.iload 4, 2) := by decide +kernel
theorem d_Wd_splitNumber_213 : decode prog_8_method_9_code 213 = .ok (.ifCond .eq 9, 3) := by decide +kernel
theorem d_Wd_splitNumber_216 : decode prog_8_method_9_code 216 = .ok (.sipush 130, 3) := by decide +kernel
theorem d_Wd_splitNumber_219 : decode prog_8_method_9_code 219 = .ok (.goto 6, 3) := by decide +kernel
theorem d_Wd_splitNumber_222 : decode prog_8_method_9_code 222 = .ok (.sipush 129, 3) := by decide +kernel
theorem d_Wd_splitNumber_225 : decode prog_8_method_9_code 225 = .ok (.iload_n 1, 1) := by decide +kernel
theorem d_Wd_splitNumber_226 : decode prog_8_method_9_code 226 = .ok (.lload_n 2, 1) := by decide +kernel
theorem d_Wd_splitNumber_227 : decode prog_8_method_9_code 227 = .ok (.invokevirtual 107, 3) := by decide +kernel
theorem d_Wd_splitNumber_230 : decode prog_8_method_9_code 230 = .ok (.ireturn, 1) := by decide +kernel
def wp_Wd_splitNumber_L10 (K : T_Wd → Int32 → Int64 → Int32 → Prop) (post : Int32 → T_Wd → Prop) : Nat → T_Wd → Int32 → Int64 → Int32 → Prop
  | 0, _, _, _, _ => False
  | n9 + 1, z_this, x1, x2, x4 => ((9 : Int32) ≤ x4 → (K z_this x1 x2 x4)) ∧ (¬ (9 : Int32) ≤ x4 → (wp_Wd_byteAt z_this z_this.2.2.2.2.2.2.2.2.1 (fun (r1 : Int32) (u1 : Unit) => wp_Wd_isDigit r1 (fun (r2 : Int32) (u2 : Unit) => (r2 = 0 → (K z_this x1 x2 x4)) ∧ (¬ r2 = 0 → (wp_Wd_byteAt z_this z_this.2.2.2.2.2.2.2.2.1 (fun (r3 : Int32) (u3 : Unit) => wp_Wd_splitNumber_L10 K post n9 (z_this.1, z_this.2.1, z_this.2.2.1, z_this.2.2.2.1, z_this.2.2.2.2.1, z_this.2.2.2.2.2.1, z_this.2.2.2.2.2.2.1, z_this.2.2.2.2.2.2.2.1, (z_this.2.2.2.2.2.2.2.2.1 + (1 : Int32)), z_this.2.2.2.2.2.2.2.2.2.1, z_this.2.2.2.2.2.2.2.2.2.2.1, z_this.2.2.2.2.2.2.2.2.2.2.2.1, z_this.2.2.2.2.2.2.2.2.2.2.2.2.1, z_this.2.2.2.2.2.2.2.2.2.2.2.2.2) x1 (((x2 * (10 : Int64)) + (r3).toInt64) - (48 : Int64)) (x4 + (1 : Int32)))))))))
def wp_Wd_splitNumber_L125 (K : T_Wd → Int32 → Int64 → Int32 → Int32 → Int32 → Prop) (post : Int32 → T_Wd → Prop) : Nat → T_Wd → Int32 → Int64 → Int32 → Int32 → Int32 → Prop
  | 0, _, _, _, _, _, _ => False
  | n9 + 1, z_this, x1, x2, x4, x5, x6 => ((3 : Int32) ≤ x6 → (K z_this x1 x2 x4 x5 x6)) ∧ (¬ (3 : Int32) ≤ x6 → ((x5 = 0 → (((0 : Int32) = 0 → (((0 : Int32) = 0 → (wp_Wd_splitNumber_L125 K post n9 (z_this.1, z_this.2.1, z_this.2.2.1, z_this.2.2.2.1, z_this.2.2.2.2.1, z_this.2.2.2.2.2.1, z_this.2.2.2.2.2.2.1, z_this.2.2.2.2.2.2.2.1, (z_this.2.2.2.2.2.2.2.2.1 + (0 : Int32)), z_this.2.2.2.2.2.2.2.2.2.1, z_this.2.2.2.2.2.2.2.2.2.2.1, z_this.2.2.2.2.2.2.2.2.2.2.2.1, z_this.2.2.2.2.2.2.2.2.2.2.2.2.1, z_this.2.2.2.2.2.2.2.2.2.2.2.2.2) x1 ((x2 * (10 : Int64)) + ((0 : Int32)).toInt64) x4 (0 : Int32) (x6 + (1 : Int32)))) ∧ (¬ (0 : Int32) = 0 → (wp_Wd_splitNumber_L125 K post n9 (z_this.1, z_this.2.1, z_this.2.2.1, z_this.2.2.2.1, z_this.2.2.2.2.1, z_this.2.2.2.2.2.1, z_this.2.2.2.2.2.2.1, z_this.2.2.2.2.2.2.2.1, (z_this.2.2.2.2.2.2.2.2.1 + (1 : Int32)), z_this.2.2.2.2.2.2.2.2.2.1, z_this.2.2.2.2.2.2.2.2.2.2.1, z_this.2.2.2.2.2.2.2.2.2.2.2.1, z_this.2.2.2.2.2.2.2.2.2.2.2.2.1, z_this.2.2.2.2.2.2.2.2.2.2.2.2.2) x1 ((x2 * (10 : Int64)) + ((0 : Int32)).toInt64) x4 (0 : Int32) (x6 + (1 : Int32)))))) ∧ (¬ (0 : Int32) = 0 → (wp_Wd_byteAt z_this z_this.2.2.2.2.2.2.2.2.1 (fun (r5 : Int32) (u5 : Unit) => ((0 : Int32) = 0 → (wp_Wd_splitNumber_L125 K post n9 (z_this.1, z_this.2.1, z_this.2.2.1, z_this.2.2.2.1, z_this.2.2.2.2.1, z_this.2.2.2.2.2.1, z_this.2.2.2.2.2.2.1, z_this.2.2.2.2.2.2.2.1, (z_this.2.2.2.2.2.2.2.2.1 + (0 : Int32)), z_this.2.2.2.2.2.2.2.2.2.1, z_this.2.2.2.2.2.2.2.2.2.2.1, z_this.2.2.2.2.2.2.2.2.2.2.2.1, z_this.2.2.2.2.2.2.2.2.2.2.2.2.1, z_this.2.2.2.2.2.2.2.2.2.2.2.2.2) x1 ((x2 * (10 : Int64)) + ((r5 - (48 : Int32))).toInt64) x4 (0 : Int32) (x6 + (1 : Int32)))) ∧ (¬ (0 : Int32) = 0 → (wp_Wd_splitNumber_L125 K post n9 (z_this.1, z_this.2.1, z_this.2.2.1, z_this.2.2.2.1, z_this.2.2.2.2.1, z_this.2.2.2.2.2.1, z_this.2.2.2.2.2.2.1, z_this.2.2.2.2.2.2.2.1, (z_this.2.2.2.2.2.2.2.2.1 + (1 : Int32)), z_this.2.2.2.2.2.2.2.2.2.1, z_this.2.2.2.2.2.2.2.2.2.2.1, z_this.2.2.2.2.2.2.2.2.2.2.2.1, z_this.2.2.2.2.2.2.2.2.2.2.2.2.1, z_this.2.2.2.2.2.2.2.2.2.2.2.2.2) x1 ((x2 * (10 : Int64)) + ((r5 - (48 : Int32))).toInt64) x4 (0 : Int32) (x6 + (1 : Int32))))))))) ∧ (¬ x5 = 0 → (wp_Wd_byteAt z_this z_this.2.2.2.2.2.2.2.2.1 (fun (r6 : Int32) (u6 : Unit) => wp_Wd_isDigit r6 (fun (r7 : Int32) (u7 : Unit) => (r7 = 0 → (((0 : Int32) = 0 → (((0 : Int32) = 0 → (wp_Wd_splitNumber_L125 K post n9 (z_this.1, z_this.2.1, z_this.2.2.1, z_this.2.2.2.1, z_this.2.2.2.2.1, z_this.2.2.2.2.2.1, z_this.2.2.2.2.2.2.1, z_this.2.2.2.2.2.2.2.1, (z_this.2.2.2.2.2.2.2.2.1 + (0 : Int32)), z_this.2.2.2.2.2.2.2.2.2.1, z_this.2.2.2.2.2.2.2.2.2.2.1, z_this.2.2.2.2.2.2.2.2.2.2.2.1, z_this.2.2.2.2.2.2.2.2.2.2.2.2.1, z_this.2.2.2.2.2.2.2.2.2.2.2.2.2) x1 ((x2 * (10 : Int64)) + ((0 : Int32)).toInt64) x4 (0 : Int32) (x6 + (1 : Int32)))) ∧ (¬ (0 : Int32) = 0 → (wp_Wd_splitNumber_L125 K post n9 (z_this.1, z_this.2.1, z_this.2.2.1, z_this.2.2.2.1, z_this.2.2.2.2.1, z_this.2.2.2.2.2.1, z_this.2.2.2.2.2.2.1, z_this.2.2.2.2.2.2.2.1, (z_this.2.2.2.2.2.2.2.2.1 + (1 : Int32)), z_this.2.2.2.2.2.2.2.2.2.1, z_this.2.2.2.2.2.2.2.2.2.2.1, z_this.2.2.2.2.2.2.2.2.2.2.2.1, z_this.2.2.2.2.2.2.2.2.2.2.2.2.1, z_this.2.2.2.2.2.2.2.2.2.2.2.2.2) x1 ((x2 * (10 : Int64)) + ((0 : Int32)).toInt64) x4 (0 : Int32) (x6 + (1 : Int32)))))) ∧ (¬ (0 : Int32) = 0 → (wp_Wd_byteAt z_this z_this.2.2.2.2.2.2.2.2.1 (fun (r8 : Int32) (u8 : Unit) => ((0 : Int32) = 0 → (wp_Wd_splitNumber_L125 K post n9 (z_this.1, z_this.2.1, z_this.2.2.1, z_this.2.2.2.1, z_this.2.2.2.2.1, z_this.2.2.2.2.2.1, z_this.2.2.2.2.2.2.1, z_this.2.2.2.2.2.2.2.1, (z_this.2.2.2.2.2.2.2.2.1 + (0 : Int32)), z_this.2.2.2.2.2.2.2.2.2.1, z_this.2.2.2.2.2.2.2.2.2.2.1, z_this.2.2.2.2.2.2.2.2.2.2.2.1, z_this.2.2.2.2.2.2.2.2.2.2.2.2.1, z_this.2.2.2.2.2.2.2.2.2.2.2.2.2) x1 ((x2 * (10 : Int64)) + ((r8 - (48 : Int32))).toInt64) x4 (0 : Int32) (x6 + (1 : Int32)))) ∧ (¬ (0 : Int32) = 0 → (wp_Wd_splitNumber_L125 K post n9 (z_this.1, z_this.2.1, z_this.2.2.1, z_this.2.2.2.1, z_this.2.2.2.2.1, z_this.2.2.2.2.2.1, z_this.2.2.2.2.2.2.1, z_this.2.2.2.2.2.2.2.1, (z_this.2.2.2.2.2.2.2.2.1 + (1 : Int32)), z_this.2.2.2.2.2.2.2.2.2.1, z_this.2.2.2.2.2.2.2.2.2.2.1, z_this.2.2.2.2.2.2.2.2.2.2.2.1, z_this.2.2.2.2.2.2.2.2.2.2.2.2.1, z_this.2.2.2.2.2.2.2.2.2.2.2.2.2) x1 ((x2 * (10 : Int64)) + ((r8 - (48 : Int32))).toInt64) x4 (0 : Int32) (x6 + (1 : Int32))))))))) ∧ (¬ r7 = 0 → (((1 : Int32) = 0 → (((1 : Int32) = 0 → (wp_Wd_splitNumber_L125 K post n9 (z_this.1, z_this.2.1, z_this.2.2.1, z_this.2.2.2.1, z_this.2.2.2.2.1, z_this.2.2.2.2.2.1, z_this.2.2.2.2.2.2.1, z_this.2.2.2.2.2.2.2.1, (z_this.2.2.2.2.2.2.2.2.1 + (0 : Int32)), z_this.2.2.2.2.2.2.2.2.2.1, z_this.2.2.2.2.2.2.2.2.2.2.1, z_this.2.2.2.2.2.2.2.2.2.2.2.1, z_this.2.2.2.2.2.2.2.2.2.2.2.2.1, z_this.2.2.2.2.2.2.2.2.2.2.2.2.2) x1 ((x2 * (10 : Int64)) + ((0 : Int32)).toInt64) x4 (1 : Int32) (x6 + (1 : Int32)))) ∧ (¬ (1 : Int32) = 0 → (wp_Wd_splitNumber_L125 K post n9 (z_this.1, z_this.2.1, z_this.2.2.1, z_this.2.2.2.1, z_this.2.2.2.2.1, z_this.2.2.2.2.2.1, z_this.2.2.2.2.2.2.1, z_this.2.2.2.2.2.2.2.1, (z_this.2.2.2.2.2.2.2.2.1 + (1 : Int32)), z_this.2.2.2.2.2.2.2.2.2.1, z_this.2.2.2.2.2.2.2.2.2.2.1, z_this.2.2.2.2.2.2.2.2.2.2.2.1, z_this.2.2.2.2.2.2.2.2.2.2.2.2.1, z_this.2.2.2.2.2.2.2.2.2.2.2.2.2) x1 ((x2 * (10 : Int64)) + ((0 : Int32)).toInt64) x4 (1 : Int32) (x6 + (1 : Int32)))))) ∧ (¬ (1 : Int32) = 0 → (wp_Wd_byteAt z_this z_this.2.2.2.2.2.2.2.2.1 (fun (r9 : Int32) (u9 : Unit) => ((1 : Int32) = 0 → (wp_Wd_splitNumber_L125 K post n9 (z_this.1, z_this.2.1, z_this.2.2.1, z_this.2.2.2.1, z_this.2.2.2.2.1, z_this.2.2.2.2.2.1, z_this.2.2.2.2.2.2.1, z_this.2.2.2.2.2.2.2.1, (z_this.2.2.2.2.2.2.2.2.1 + (0 : Int32)), z_this.2.2.2.2.2.2.2.2.2.1, z_this.2.2.2.2.2.2.2.2.2.2.1, z_this.2.2.2.2.2.2.2.2.2.2.2.1, z_this.2.2.2.2.2.2.2.2.2.2.2.2.1, z_this.2.2.2.2.2.2.2.2.2.2.2.2.2) x1 ((x2 * (10 : Int64)) + ((r9 - (48 : Int32))).toInt64) x4 (1 : Int32) (x6 + (1 : Int32)))) ∧ (¬ (1 : Int32) = 0 → (wp_Wd_splitNumber_L125 K post n9 (z_this.1, z_this.2.1, z_this.2.2.1, z_this.2.2.2.1, z_this.2.2.2.2.1, z_this.2.2.2.2.2.1, z_this.2.2.2.2.2.2.1, z_this.2.2.2.2.2.2.2.1, (z_this.2.2.2.2.2.2.2.2.1 + (1 : Int32)), z_this.2.2.2.2.2.2.2.2.2.1, z_this.2.2.2.2.2.2.2.2.2.2.1, z_this.2.2.2.2.2.2.2.2.2.2.2.1, z_this.2.2.2.2.2.2.2.2.2.2.2.2.1, z_this.2.2.2.2.2.2.2.2.2.2.2.2.2) x1 ((x2 * (10 : Int64)) + ((r9 - (48 : Int32))).toInt64) x4 (1 : Int32) (x6 + (1 : Int32)))))))))))))))
def wp_Wd_splitNumber (z_this : T_Wd) (post : Int32 → T_Wd → Prop) : Prop := ∃ k9 : Nat, wp_Wd_splitNumber_L10 (fun (z_this : T_Wd) (x1 : Int32) (x2 : Int64) (x4 : Int32) => wp_Wd_byteAt z_this z_this.2.2.2.2.2.2.2.2.1 (fun (r4 : Int32) (u4 : Unit) => (r4 = (46 : Int32) → (wp_Wd_byteAt z_this (z_this.2.2.2.2.2.2.2.2.1 + (1 : Int32)) (fun (r14 : Int32) (u14 : Unit) => wp_Wd_isDigit r14 (fun (r15 : Int32) (u15 : Unit) => (r15 = 0 → (((0 : Int32) = 0 → (∃ k9 : Nat, wp_Wd_splitNumber_L125 (fun (z_this : T_Wd) (x1 : Int32) (x2 : Int64) (x4 : Int32) (x5 : Int32) (x6 : Int32) => (x4 = 0 → (wp_Wd_keepJoined z_this (129 : Int32) x1 x2 (fun (r16 : Int32) (u16 : T_Wd) => narrow .boolean (.int r16) = .int r16 ∧ post r16 u16))) ∧ (¬ x4 = 0 → (wp_Wd_keepJoined z_this (130 : Int32) x1 x2 (fun (r17 : Int32) (u17 : T_Wd) => narrow .boolean (.int r17) = .int r17 ∧ post r17 u17)))) post k9 z_this x1 x2 (0 : Int32) (0 : Int32) (0 : Int32))) ∧ (¬ (0 : Int32) = 0 → (∃ k9 : Nat, wp_Wd_splitNumber_L125 (fun (z_this : T_Wd) (x1 : Int32) (x2 : Int64) (x4 : Int32) (x5 : Int32) (x6 : Int32) => (x4 = 0 → (wp_Wd_keepJoined z_this (129 : Int32) x1 x2 (fun (r18 : Int32) (u18 : T_Wd) => narrow .boolean (.int r18) = .int r18 ∧ post r18 u18))) ∧ (¬ x4 = 0 → (wp_Wd_keepJoined z_this (130 : Int32) x1 x2 (fun (r19 : Int32) (u19 : T_Wd) => narrow .boolean (.int r19) = .int r19 ∧ post r19 u19)))) post k9 (z_this.1, z_this.2.1, z_this.2.2.1, z_this.2.2.2.1, z_this.2.2.2.2.1, z_this.2.2.2.2.2.1, z_this.2.2.2.2.2.2.1, z_this.2.2.2.2.2.2.2.1, (z_this.2.2.2.2.2.2.2.2.1 + (1 : Int32)), z_this.2.2.2.2.2.2.2.2.2.1, z_this.2.2.2.2.2.2.2.2.2.2.1, z_this.2.2.2.2.2.2.2.2.2.2.2.1, z_this.2.2.2.2.2.2.2.2.2.2.2.2.1, z_this.2.2.2.2.2.2.2.2.2.2.2.2.2) x1 x2 (0 : Int32) (0 : Int32) (0 : Int32))))) ∧ (¬ r15 = 0 → (((1 : Int32) = 0 → (∃ k9 : Nat, wp_Wd_splitNumber_L125 (fun (z_this : T_Wd) (x1 : Int32) (x2 : Int64) (x4 : Int32) (x5 : Int32) (x6 : Int32) => (x4 = 0 → (wp_Wd_keepJoined z_this (129 : Int32) x1 x2 (fun (r20 : Int32) (u20 : T_Wd) => narrow .boolean (.int r20) = .int r20 ∧ post r20 u20))) ∧ (¬ x4 = 0 → (wp_Wd_keepJoined z_this (130 : Int32) x1 x2 (fun (r21 : Int32) (u21 : T_Wd) => narrow .boolean (.int r21) = .int r21 ∧ post r21 u21)))) post k9 z_this x1 x2 (1 : Int32) (1 : Int32) (0 : Int32))) ∧ (¬ (1 : Int32) = 0 → (∃ k9 : Nat, wp_Wd_splitNumber_L125 (fun (z_this : T_Wd) (x1 : Int32) (x2 : Int64) (x4 : Int32) (x5 : Int32) (x6 : Int32) => (x4 = 0 → (wp_Wd_keepJoined z_this (129 : Int32) x1 x2 (fun (r22 : Int32) (u22 : T_Wd) => narrow .boolean (.int r22) = .int r22 ∧ post r22 u22))) ∧ (¬ x4 = 0 → (wp_Wd_keepJoined z_this (130 : Int32) x1 x2 (fun (r23 : Int32) (u23 : T_Wd) => narrow .boolean (.int r23) = .int r23 ∧ post r23 u23)))) post k9 (z_this.1, z_this.2.1, z_this.2.2.1, z_this.2.2.2.1, z_this.2.2.2.2.1, z_this.2.2.2.2.2.1, z_this.2.2.2.2.2.2.1, z_this.2.2.2.2.2.2.2.1, (z_this.2.2.2.2.2.2.2.2.1 + (1 : Int32)), z_this.2.2.2.2.2.2.2.2.2.1, z_this.2.2.2.2.2.2.2.2.2.2.1, z_this.2.2.2.2.2.2.2.2.2.2.2.1, z_this.2.2.2.2.2.2.2.2.2.2.2.2.1, z_this.2.2.2.2.2.2.2.2.2.2.2.2.2) x1 x2 (1 : Int32) (1 : Int32) (0 : Int32))))))))) ∧ (¬ r4 = (46 : Int32) → (((0 : Int32) = 0 → (∃ k9 : Nat, wp_Wd_splitNumber_L125 (fun (z_this : T_Wd) (x1 : Int32) (x2 : Int64) (x4 : Int32) (x5 : Int32) (x6 : Int32) => (x4 = 0 → (wp_Wd_keepJoined z_this (129 : Int32) x1 x2 (fun (r10 : Int32) (u10 : T_Wd) => narrow .boolean (.int r10) = .int r10 ∧ post r10 u10))) ∧ (¬ x4 = 0 → (wp_Wd_keepJoined z_this (130 : Int32) x1 x2 (fun (r11 : Int32) (u11 : T_Wd) => narrow .boolean (.int r11) = .int r11 ∧ post r11 u11)))) post k9 z_this x1 x2 (0 : Int32) (0 : Int32) (0 : Int32))) ∧ (¬ (0 : Int32) = 0 → (∃ k9 : Nat, wp_Wd_splitNumber_L125 (fun (z_this : T_Wd) (x1 : Int32) (x2 : Int64) (x4 : Int32) (x5 : Int32) (x6 : Int32) => (x4 = 0 → (wp_Wd_keepJoined z_this (129 : Int32) x1 x2 (fun (r12 : Int32) (u12 : T_Wd) => narrow .boolean (.int r12) = .int r12 ∧ post r12 u12))) ∧ (¬ x4 = 0 → (wp_Wd_keepJoined z_this (130 : Int32) x1 x2 (fun (r13 : Int32) (u13 : T_Wd) => narrow .boolean (.int r13) = .int r13 ∧ post r13 u13)))) post k9 (z_this.1, z_this.2.1, z_this.2.2.1, z_this.2.2.2.1, z_this.2.2.2.2.1, z_this.2.2.2.2.2.1, z_this.2.2.2.2.2.2.1, z_this.2.2.2.2.2.2.2.1, (z_this.2.2.2.2.2.2.2.2.1 + (1 : Int32)), z_this.2.2.2.2.2.2.2.2.2.1, z_this.2.2.2.2.2.2.2.2.2.2.1, z_this.2.2.2.2.2.2.2.2.2.2.2.1, z_this.2.2.2.2.2.2.2.2.2.2.2.2.1, z_this.2.2.2.2.2.2.2.2.2.2.2.2.2) x1 x2 (0 : Int32) (0 : Int32) (0 : Int32))))))) post k9 z_this z_this.2.2.2.2.2.2.2.2.1 (0 : Int64) (0 : Int32)
def rm_Wd_splitNumber : Room := { frames := 2, cells := 0, slots := 0, locals := 49 }
set_option maxHeartbeats 4000000 in
set_option maxRecDepth 100000 in
theorem t_Wd_splitNumber_L10 {p : Program} {l : Launch} {o : State × Array Value} {e : Env} {s : State} {m : MethodId} {args : Array Value} {below : List Frame} {meth : Method} {c : Code} {D : va_G} {k : Nat → ClassId} {w0 : va_W} {A : Nat → Prop} {ad_this : Nat → Nat} {q_this_keywords : Nat} {post : Int32 → T_Wd → Prop} (hAt : xq_At p s m args meth c prog_8_method_9_code 7 (some (.boolean)) y_Wd_splitNumber xq_W) (hK : va_K D vwCl (xt k) s) (hJ : xq_J l o A s s.heap) (hAe : va_A w0 s.heap.size = A) (hA : ∀ q, s.heap.size ≤ q → A q) {K : T_Wd → Int32 → Int64 → Int32 → Prop} (hX : ∀ (z_this : T_Wd) (x1 : Int32) (x2 : Int64) (x4 : Int32) (H : Heap) (locs : List Loc) (ls : Array Slot), lv_has ls 7 [(0, .ref (ad_this 0)), (1, .int x1), (2, .long x2), (4, .int x4)] → va_P D vwCl (w_Wd k ad_this q_this_keywords z_this) H → va_D A (w_Wd k ad_this q_this_keywords z_this) → va_S A s.heap H locs → K z_this x1 x2 x4 → W p l e rm_Wd_splitNumber s m args below meth c H locs 0 0 (xq_Z below D vwCl (xt k) w0 (fun r : Int32 => some (.int r)) post (fun _ : T_Wd => False) (fun u : T_Wd => w_Wd k ad_this q_this_keywords u) 0 0 0 0 s) (F0 m 67 ls [])) :
    ∀ (n9 : Nat) (z_this : T_Wd) (x1 : Int32) (x2 : Int64) (x4 : Int32) (H : Heap) (locs : List Loc) (ls : Array Slot), lv_has ls 7 [(0, .ref (ad_this 0)), (1, .int x1), (2, .long x2), (4, .int x4)] → va_P D vwCl (w_Wd k ad_this q_this_keywords z_this) H → va_D A (w_Wd k ad_this q_this_keywords z_this) → va_S A s.heap H locs → wp_Wd_splitNumber_L10 K post n9 z_this x1 x2 x4 → W p l e rm_Wd_splitNumber s m args below meth c H locs 0 0 (xq_Z below D vwCl (xt k) w0 (fun r : Int32 => some (.int r)) post (fun _ : T_Wd => False) (fun u : T_Wd => w_Wd k ad_this q_this_keywords u) 0 0 0 0 s) (F0 m 10 ls []) := by
  obtain ⟨hx, hb, hml, hr, hlocks, hown, hts, hex, hnm⟩ := id hAt
  intro n9
  induction n9 with
  | zero => intro z_this x1 x2 x4 H locs ls hl hP hD hS hw; exact False.elim (by rw [wp_Wd_splitNumber_L10] at hw; exact hw)
  | succ n9 ih =>
    intro z_this x1 x2 x4 H locs ls hl hP hD hS hw
    rw [wp_Wd_splitNumber_L10] at hw
    refine lv_iload hx hb d_Wd_splitNumber_10 (lv_at hl 3 rfl) ?_
    refine lv_bipush (v := (9 : Int32)) hx hb d_Wd_splitNumber_12 (by decide) ?_
    refine lv_icmp_ge (tgt := 67) hx hb d_Wd_splitNumber_14 (by decide) (fun hc => ?_) (fun hc => ?_)
    · have hw := hw.1 hc
      exact hX z_this x1 x2 x4 H locs ls (lv_sub hl [0, 1, 2, 3] rfl) hP hD hS hw
    · have hw := hw.2 hc
      refine lv_aload_n hx hb d_Wd_splitNumber_17 rfl (lv_at hl 0 rfl) ?_
      refine lv_aload_n hx hb d_Wd_splitNumber_18 rfl (lv_at hl 0 rfl) ?_
      refine va_get (D := D) (ci := 2) (v := .int z_this.2.2.2.2.2.2.2.2.1) (C := R_Wd) (T := F_Wd) (N := 15) hx hb hts in_Wd hown hK hP 0 rfl rfl 9 (by decide) (hts (.fieldLink R_Wd 37 R_Wd "scan" "I") kw1_106) (fun _ h9 => h9) rfl d_Wd_splitNumber_19 ?_
      refine xq_go (wr := ([] : va_W)) (stk := fun r => .int r :: []) (xq_runV (As := [.int z_this.2.2.2.2.2.2.2.2.1]) (rest := []) ⟨hx, hb, hml, hown, hts⟩ (c_Wd_byteAt (l := l) (o := o) (D := D) (k := k) (ad_this := ad_this) (q_this_keywords := q_this_keywords) hw) (cw_Wd_byteAt hts kw2_87 ⟨Nat.le_of_ble_eq_true rfl, Nat.le_of_ble_eq_true rfl⟩) (va_recv hK hP (ci := 2) (q0 := 0) rfl rfl) (hP.sub [0, 1, 2, 3, 4, 5] rfl) hK hJ hS (va_free hD hS hA [0, 1, 2, 3, 4, 5] rfl) ((hD.sub [0, 1, 2, 3, 4, 5] (by decide) rfl).weaken (fun _ _ _ _ => trivial)) rfl hl.1 (Nat.le_of_ble_eq_true rfl) d_Wd_splitNumber_22 ⟨Nat.le_of_ble_eq_true rfl, Nat.le_of_ble_eq_true rfl⟩) hP hD hS hA [0, 1, 2, 3, 4, 5] [] rfl rfl (by decide) (by decide) (fun _ => rfl) (fun r1 u1 H locs hw hP hD hS => ?_) (fun _ _ _ _ h9 => h9.elim)
      have hP : va_P D vwCl (w_Wd k ad_this q_this_keywords z_this) H := hP.sub [0, 1, 2, 3, 4, 5] rfl
      have hD : va_D A (w_Wd k ad_this q_this_keywords z_this) := hD.sub [0, 1, 2, 3, 4, 5] (by decide) rfl
      refine xq_go (wr := w_Wd k ad_this q_this_keywords z_this) (stk := fun r => .int r :: []) (xq_runS (As := [.int r1]) (rest := []) ⟨hx, hb, hml, hown, hts⟩ (c_Wd_isDigit (l := l) (o := o) (D := D) (k := k) hw) (cs_Wd_isDigit hts kw2_98 ⟨Nat.le_of_ble_eq_true rfl, Nat.le_of_ble_eq_true rfl⟩) (hP.sub [] rfl) hK hJ hS (va_free hD hS hA [] rfl) ((hD.sub [] (by decide) rfl).weaken (fun _ _ _ _ => trivial)) rfl hl.1 (Nat.le_of_ble_eq_true rfl) d_Wd_splitNumber_25 ⟨Nat.le_of_ble_eq_true rfl, Nat.le_of_ble_eq_true rfl⟩) hP hD hS hA [] [0, 1, 2, 3, 4, 5] rfl rfl (by decide) (by decide) (fun _ => rfl) (fun r2 u2 H locs hw hP hD hS => ?_) (fun _ _ _ _ h9 => h9.elim)
      have hP : va_P D vwCl (w_Wd k ad_this q_this_keywords z_this) H := hP.sub [0, 1, 2, 3, 4, 5] rfl
      have hD : va_D A (w_Wd k ad_this q_this_keywords z_this) := hD.sub [0, 1, 2, 3, 4, 5] (by decide) rfl
      refine lv_if_eq (tgt := 67) hx hb d_Wd_splitNumber_28 (by decide) (fun hc => ?_) (fun hc => ?_)
      · have hw := hw.1 hc
        exact hX z_this x1 x2 x4 H locs ls (lv_sub hl [0, 1, 2, 3] rfl) hP hD hS hw
      · have hw := hw.2 hc
        refine lv_lload_n hx hb d_Wd_splitNumber_31 rfl (lv_at hl 2 rfl) ?_
        refine lv_ldc2 (v := (10 : Int64)) hx hb hown (hts (.constantLong R_Wd 111 (10)) kw2_105) d_Wd_splitNumber_32 ?_
        refine lv_lmul hx hb d_Wd_splitNumber_35 ?_
        refine lv_aload_n hx hb d_Wd_splitNumber_36 rfl (lv_at hl 0 rfl) ?_
        refine lv_aload_n hx hb d_Wd_splitNumber_37 rfl (lv_at hl 0 rfl) ?_
        refine va_get (D := D) (ci := 2) (v := .int z_this.2.2.2.2.2.2.2.2.1) (C := R_Wd) (T := F_Wd) (N := 15) hx hb hts in_Wd hown hK hP 0 rfl rfl 9 (by decide) (hts (.fieldLink R_Wd 37 R_Wd "scan" "I") kw1_106) (fun _ h9 => h9) rfl d_Wd_splitNumber_38 ?_
        refine xq_go (wr := ([] : va_W)) (stk := fun r => .int r :: [.long (x2 * (10 : Int64))]) (xq_runV (As := [.int z_this.2.2.2.2.2.2.2.2.1]) (rest := [.long (x2 * (10 : Int64))]) ⟨hx, hb, hml, hown, hts⟩ (c_Wd_byteAt (l := l) (o := o) (D := D) (k := k) (ad_this := ad_this) (q_this_keywords := q_this_keywords) hw) (cw_Wd_byteAt hts kw2_87 ⟨Nat.le_of_ble_eq_true rfl, Nat.le_of_ble_eq_true rfl⟩) (va_recv hK hP (ci := 2) (q0 := 0) rfl rfl) (hP.sub [0, 1, 2, 3, 4, 5] rfl) hK hJ hS (va_free hD hS hA [0, 1, 2, 3, 4, 5] rfl) ((hD.sub [0, 1, 2, 3, 4, 5] (by decide) rfl).weaken (fun _ _ _ _ => trivial)) rfl hl.1 (Nat.le_of_ble_eq_true rfl) d_Wd_splitNumber_41 ⟨Nat.le_of_ble_eq_true rfl, Nat.le_of_ble_eq_true rfl⟩) hP hD hS hA [0, 1, 2, 3, 4, 5] [] rfl rfl (by decide) (by decide) (fun _ => rfl) (fun r3 u3 H locs hw hP hD hS => ?_) (fun _ _ _ _ h9 => h9.elim)
        have hP : va_P D vwCl (w_Wd k ad_this q_this_keywords z_this) H := hP.sub [0, 1, 2, 3, 4, 5] rfl
        have hD : va_D A (w_Wd k ad_this q_this_keywords z_this) := hD.sub [0, 1, 2, 3, 4, 5] (by decide) rfl
        refine lv_i2l hx hb d_Wd_splitNumber_44 rfl ?_
        refine lv_ladd hx hb d_Wd_splitNumber_45 ?_
        refine lv_ldc2 (v := (48 : Int64)) hx hb hown (hts (.constantLong R_Wd 113 (48)) kw2_106) d_Wd_splitNumber_46 ?_
        refine lv_lsub hx hb d_Wd_splitNumber_49 ?_
        refine lv_lstore_n (lv' := [(2, .long (((x2 * (10 : Int64)) + (r3).toInt64) - (48 : Int64))), (0, .ref (ad_this 0)), (1, .int x1), (4, .int x4)]) hx hb d_Wd_splitNumber_50 rfl hl (by decide) rfl (fun ls hl => ?_)
        refine lv_aload_n hx hb d_Wd_splitNumber_51 rfl (lv_at hl 1 rfl) ?_
        refine lv_dup hx hb d_Wd_splitNumber_52 rfl ?_
        refine va_get (D := D) (ci := 2) (v := .int z_this.2.2.2.2.2.2.2.2.1) (C := R_Wd) (T := F_Wd) (N := 15) hx hb hts in_Wd hown hK hP 0 rfl rfl 9 (by decide) (hts (.fieldLink R_Wd 37 R_Wd "scan" "I") kw1_106) (fun _ h9 => h9) rfl d_Wd_splitNumber_53 ?_
        refine lv_iconst (v := (1 : Int32)) hx hb d_Wd_splitNumber_56 (by decide) ?_
        refine lv_iadd hx hb d_Wd_splitNumber_57 ?_
        refine va_put (D := D) (ci := 2) (v := .int (z_this.2.2.2.2.2.2.2.2.1 + (1 : Int32))) (ty := .int) (C := R_Wd) (T := F_Wd) (N := 15) hx hb hts in_Wd t_Wd t_Wd_ok n_Wd hown hK hP hD hS 0 rfl rfl 9 (by decide) (hts (.fieldLink R_Wd 37 R_Wd "scan" "I") kw1_106) (fun _ h9 => h9) rfl (by decide +kernel) rfl rfl (Nat.le_of_ble_eq_true rfl) d_Wd_splitNumber_58 (fun H locs hP hD hS => ?_)
        have hP : va_P D vwCl (w_Wd k ad_this q_this_keywords (z_this.1, z_this.2.1, z_this.2.2.1, z_this.2.2.2.1, z_this.2.2.2.2.1, z_this.2.2.2.2.2.1, z_this.2.2.2.2.2.2.1, z_this.2.2.2.2.2.2.2.1, (z_this.2.2.2.2.2.2.2.2.1 + (1 : Int32)), z_this.2.2.2.2.2.2.2.2.2.1, z_this.2.2.2.2.2.2.2.2.2.2.1, z_this.2.2.2.2.2.2.2.2.2.2.2.1, z_this.2.2.2.2.2.2.2.2.2.2.2.2.1, z_this.2.2.2.2.2.2.2.2.2.2.2.2.2)) H := hP
        have hD : va_D A (w_Wd k ad_this q_this_keywords (z_this.1, z_this.2.1, z_this.2.2.1, z_this.2.2.2.1, z_this.2.2.2.2.1, z_this.2.2.2.2.2.1, z_this.2.2.2.2.2.2.1, z_this.2.2.2.2.2.2.2.1, (z_this.2.2.2.2.2.2.2.2.1 + (1 : Int32)), z_this.2.2.2.2.2.2.2.2.2.1, z_this.2.2.2.2.2.2.2.2.2.2.1, z_this.2.2.2.2.2.2.2.2.2.2.2.1, z_this.2.2.2.2.2.2.2.2.2.2.2.2.1, z_this.2.2.2.2.2.2.2.2.2.2.2.2.2)) := hD
        refine lv_iinc (v := (x4 + (1 : Int32))) (lv' := [(4, .int (x4 + (1 : Int32))), (2, .long (((x2 * (10 : Int64)) + (r3).toInt64) - (48 : Int64))), (0, .ref (ad_this 0)), (1, .int x1)]) hx hb d_Wd_splitNumber_61 hl (k := 3) rfl rfl (by decide) rfl (fun ls hl => ?_)
        refine lv_goto (tgt := 10) hx hb d_Wd_splitNumber_64 (by decide) ?_
        exact ih (z_this.1, z_this.2.1, z_this.2.2.1, z_this.2.2.2.1, z_this.2.2.2.2.1, z_this.2.2.2.2.2.1, z_this.2.2.2.2.2.2.1, z_this.2.2.2.2.2.2.2.1, (z_this.2.2.2.2.2.2.2.2.1 + (1 : Int32)), z_this.2.2.2.2.2.2.2.2.2.1, z_this.2.2.2.2.2.2.2.2.2.2.1, z_this.2.2.2.2.2.2.2.2.2.2.2.1, z_this.2.2.2.2.2.2.2.2.2.2.2.2.1, z_this.2.2.2.2.2.2.2.2.2.2.2.2.2) x1 (((x2 * (10 : Int64)) + (r3).toInt64) - (48 : Int64)) (x4 + (1 : Int32)) H locs ls (lv_sub hl [2, 3, 1, 0] rfl) hP hD hS hw
set_option maxHeartbeats 4000000 in
set_option maxRecDepth 100000 in
theorem t_Wd_splitNumber_L125 {p : Program} {l : Launch} {o : State × Array Value} {e : Env} {s : State} {m : MethodId} {args : Array Value} {below : List Frame} {meth : Method} {c : Code} {D : va_G} {k : Nat → ClassId} {w0 : va_W} {A : Nat → Prop} {ad_this : Nat → Nat} {q_this_keywords : Nat} {post : Int32 → T_Wd → Prop} (hAt : xq_At p s m args meth c prog_8_method_9_code 7 (some (.boolean)) y_Wd_splitNumber xq_W) (hK : va_K D vwCl (xt k) s) (hJ : xq_J l o A s s.heap) (hAe : va_A w0 s.heap.size = A) (hA : ∀ q, s.heap.size ≤ q → A q) {K : T_Wd → Int32 → Int64 → Int32 → Int32 → Int32 → Prop} (hX : ∀ (z_this : T_Wd) (x1 : Int32) (x2 : Int64) (x4 : Int32) (x5 : Int32) (x6 : Int32) (H : Heap) (locs : List Loc) (ls : Array Slot), lv_has ls 7 [(0, .ref (ad_this 0)), (1, .int x1), (2, .long x2), (4, .int x4), (5, .int x5), (6, .int x6)] → va_P D vwCl (w_Wd k ad_this q_this_keywords z_this) H → va_D A (w_Wd k ad_this q_this_keywords z_this) → va_S A s.heap H locs → K z_this x1 x2 x4 x5 x6 → W p l e rm_Wd_splitNumber s m args below meth c H locs 0 0 (xq_Z below D vwCl (xt k) w0 (fun r : Int32 => some (.int r)) post (fun _ : T_Wd => False) (fun u : T_Wd => w_Wd k ad_this q_this_keywords u) 0 0 0 0 s) (F0 m 210 ls [])) :
    ∀ (n9 : Nat) (z_this : T_Wd) (x1 : Int32) (x2 : Int64) (x4 : Int32) (x5 : Int32) (x6 : Int32) (H : Heap) (locs : List Loc) (ls : Array Slot), lv_has ls 7 [(0, .ref (ad_this 0)), (1, .int x1), (2, .long x2), (4, .int x4), (5, .int x5), (6, .int x6)] → va_P D vwCl (w_Wd k ad_this q_this_keywords z_this) H → va_D A (w_Wd k ad_this q_this_keywords z_this) → va_S A s.heap H locs → wp_Wd_splitNumber_L125 K post n9 z_this x1 x2 x4 x5 x6 → W p l e rm_Wd_splitNumber s m args below meth c H locs 0 0 (xq_Z below D vwCl (xt k) w0 (fun r : Int32 => some (.int r)) post (fun _ : T_Wd => False) (fun u : T_Wd => w_Wd k ad_this q_this_keywords u) 0 0 0 0 s) (F0 m 125 ls []) := by
  obtain ⟨hx, hb, hml, hr, hlocks, hown, hts, hex, hnm⟩ := id hAt
  intro n9
  induction n9 with
  | zero => intro z_this x1 x2 x4 x5 x6 H locs ls hl hP hD hS hw; exact False.elim (by rw [wp_Wd_splitNumber_L125] at hw; exact hw)
  | succ n9 ih =>
    intro z_this x1 x2 x4 x5 x6 H locs ls hl hP hD hS hw
    rw [wp_Wd_splitNumber_L125] at hw
    refine lv_iload hx hb d_Wd_splitNumber_125 (lv_at hl 5 rfl) ?_
    refine lv_iconst (v := (3 : Int32)) hx hb d_Wd_splitNumber_127 (by decide) ?_
    refine lv_icmp_ge (tgt := 210) hx hb d_Wd_splitNumber_128 (by decide) (fun hc => ?_) (fun hc => ?_)
    · have hw := hw.1 hc
      exact hX z_this x1 x2 x4 x5 x6 H locs ls (lv_sub hl [0, 1, 2, 3, 4, 5] rfl) hP hD hS hw
    · have hw := hw.2 hc
      refine lv_iload hx hb d_Wd_splitNumber_131 (lv_at hl 4 rfl) ?_
      refine lv_if_eq (tgt := 154) hx hb d_Wd_splitNumber_133 (by decide) (fun hc => ?_) (fun hc => ?_)
      · have hw := hw.1 hc
        refine lv_iconst (v := (0 : Int32)) hx hb d_Wd_splitNumber_154 (by decide) ?_
        refine lv_istore (lv' := [(5, .int (0 : Int32)), (0, .ref (ad_this 0)), (1, .int x1), (2, .long x2), (4, .int x4), (6, .int x6)]) hx hb d_Wd_splitNumber_155 hl (by decide) rfl (fun ls hl => ?_)
        refine lv_lload_n hx hb d_Wd_splitNumber_157 rfl (lv_at hl 3 rfl) ?_
        refine lv_ldc2 (v := (10 : Int64)) hx hb hown (hts (.constantLong R_Wd 111 (10)) kw2_105) d_Wd_splitNumber_158 ?_
        refine lv_lmul hx hb d_Wd_splitNumber_161 ?_
        refine lv_iload hx hb d_Wd_splitNumber_162 (lv_at hl 0 rfl) ?_
        refine lv_if_eq (tgt := 181) hx hb d_Wd_splitNumber_164 (by decide) (fun hc => ?_) (fun hc => ?_)
        · have hw := hw.1 hc
          refine lv_iconst (v := (0 : Int32)) hx hb d_Wd_splitNumber_181 (by decide) ?_
          refine lv_i2l hx hb d_Wd_splitNumber_182 rfl ?_
          refine lv_ladd hx hb d_Wd_splitNumber_183 ?_
          refine lv_lstore_n (lv' := [(2, .long ((x2 * (10 : Int64)) + ((0 : Int32)).toInt64)), (5, .int (0 : Int32)), (0, .ref (ad_this 0)), (1, .int x1), (4, .int x4), (6, .int x6)]) hx hb d_Wd_splitNumber_184 rfl hl (by decide) rfl (fun ls hl => ?_)
          refine lv_aload_n hx hb d_Wd_splitNumber_185 rfl (lv_at hl 2 rfl) ?_
          refine lv_dup hx hb d_Wd_splitNumber_186 rfl ?_
          refine va_get (D := D) (ci := 2) (v := .int z_this.2.2.2.2.2.2.2.2.1) (C := R_Wd) (T := F_Wd) (N := 15) hx hb hts in_Wd hown hK hP 0 rfl rfl 9 (by decide) (hts (.fieldLink R_Wd 37 R_Wd "scan" "I") kw1_106) (fun _ h9 => h9) rfl d_Wd_splitNumber_187 ?_
          refine lv_iload hx hb d_Wd_splitNumber_190 (lv_at hl 1 rfl) ?_
          refine lv_if_eq (tgt := 199) hx hb d_Wd_splitNumber_192 (by decide) (fun hc => ?_) (fun hc => ?_)
          · have hw := hw.1 hc
            refine lv_iconst (v := (0 : Int32)) hx hb d_Wd_splitNumber_199 (by decide) ?_
            refine lv_iadd hx hb d_Wd_splitNumber_200 ?_
            refine va_put (D := D) (ci := 2) (v := .int (z_this.2.2.2.2.2.2.2.2.1 + (0 : Int32))) (ty := .int) (C := R_Wd) (T := F_Wd) (N := 15) hx hb hts in_Wd t_Wd t_Wd_ok n_Wd hown hK hP hD hS 0 rfl rfl 9 (by decide) (hts (.fieldLink R_Wd 37 R_Wd "scan" "I") kw1_106) (fun _ h9 => h9) rfl (by decide +kernel) rfl rfl (Nat.le_of_ble_eq_true rfl) d_Wd_splitNumber_201 (fun H locs hP hD hS => ?_)
            have hP : va_P D vwCl (w_Wd k ad_this q_this_keywords (z_this.1, z_this.2.1, z_this.2.2.1, z_this.2.2.2.1, z_this.2.2.2.2.1, z_this.2.2.2.2.2.1, z_this.2.2.2.2.2.2.1, z_this.2.2.2.2.2.2.2.1, (z_this.2.2.2.2.2.2.2.2.1 + (0 : Int32)), z_this.2.2.2.2.2.2.2.2.2.1, z_this.2.2.2.2.2.2.2.2.2.2.1, z_this.2.2.2.2.2.2.2.2.2.2.2.1, z_this.2.2.2.2.2.2.2.2.2.2.2.2.1, z_this.2.2.2.2.2.2.2.2.2.2.2.2.2)) H := hP
            have hD : va_D A (w_Wd k ad_this q_this_keywords (z_this.1, z_this.2.1, z_this.2.2.1, z_this.2.2.2.1, z_this.2.2.2.2.1, z_this.2.2.2.2.2.1, z_this.2.2.2.2.2.2.1, z_this.2.2.2.2.2.2.2.1, (z_this.2.2.2.2.2.2.2.2.1 + (0 : Int32)), z_this.2.2.2.2.2.2.2.2.2.1, z_this.2.2.2.2.2.2.2.2.2.2.1, z_this.2.2.2.2.2.2.2.2.2.2.2.1, z_this.2.2.2.2.2.2.2.2.2.2.2.2.1, z_this.2.2.2.2.2.2.2.2.2.2.2.2.2)) := hD
            refine lv_iinc (v := (x6 + (1 : Int32))) (lv' := [(6, .int (x6 + (1 : Int32))), (2, .long ((x2 * (10 : Int64)) + ((0 : Int32)).toInt64)), (5, .int (0 : Int32)), (0, .ref (ad_this 0)), (1, .int x1), (4, .int x4)]) hx hb d_Wd_splitNumber_204 hl (k := 5) rfl rfl (by decide) rfl (fun ls hl => ?_)
            refine lv_goto (tgt := 125) hx hb d_Wd_splitNumber_207 (by decide) ?_
            exact ih (z_this.1, z_this.2.1, z_this.2.2.1, z_this.2.2.2.1, z_this.2.2.2.2.1, z_this.2.2.2.2.2.1, z_this.2.2.2.2.2.2.1, z_this.2.2.2.2.2.2.2.1, (z_this.2.2.2.2.2.2.2.2.1 + (0 : Int32)), z_this.2.2.2.2.2.2.2.2.2.1, z_this.2.2.2.2.2.2.2.2.2.2.1, z_this.2.2.2.2.2.2.2.2.2.2.2.1, z_this.2.2.2.2.2.2.2.2.2.2.2.2.1, z_this.2.2.2.2.2.2.2.2.2.2.2.2.2) x1 ((x2 * (10 : Int64)) + ((0 : Int32)).toInt64) x4 (0 : Int32) (x6 + (1 : Int32)) H locs ls (lv_sub hl [3, 4, 1, 5, 2, 0] rfl) hP hD hS hw
          · have hw := hw.2 hc
            refine lv_iconst (v := (1 : Int32)) hx hb d_Wd_splitNumber_195 (by decide) ?_
            refine lv_goto (tgt := 200) hx hb d_Wd_splitNumber_196 (by decide) ?_
            refine lv_iadd hx hb d_Wd_splitNumber_200 ?_
            refine va_put (D := D) (ci := 2) (v := .int (z_this.2.2.2.2.2.2.2.2.1 + (1 : Int32))) (ty := .int) (C := R_Wd) (T := F_Wd) (N := 15) hx hb hts in_Wd t_Wd t_Wd_ok n_Wd hown hK hP hD hS 0 rfl rfl 9 (by decide) (hts (.fieldLink R_Wd 37 R_Wd "scan" "I") kw1_106) (fun _ h9 => h9) rfl (by decide +kernel) rfl rfl (Nat.le_of_ble_eq_true rfl) d_Wd_splitNumber_201 (fun H locs hP hD hS => ?_)
            have hP : va_P D vwCl (w_Wd k ad_this q_this_keywords (z_this.1, z_this.2.1, z_this.2.2.1, z_this.2.2.2.1, z_this.2.2.2.2.1, z_this.2.2.2.2.2.1, z_this.2.2.2.2.2.2.1, z_this.2.2.2.2.2.2.2.1, (z_this.2.2.2.2.2.2.2.2.1 + (1 : Int32)), z_this.2.2.2.2.2.2.2.2.2.1, z_this.2.2.2.2.2.2.2.2.2.2.1, z_this.2.2.2.2.2.2.2.2.2.2.2.1, z_this.2.2.2.2.2.2.2.2.2.2.2.2.1, z_this.2.2.2.2.2.2.2.2.2.2.2.2.2)) H := hP
            have hD : va_D A (w_Wd k ad_this q_this_keywords (z_this.1, z_this.2.1, z_this.2.2.1, z_this.2.2.2.1, z_this.2.2.2.2.1, z_this.2.2.2.2.2.1, z_this.2.2.2.2.2.2.1, z_this.2.2.2.2.2.2.2.1, (z_this.2.2.2.2.2.2.2.2.1 + (1 : Int32)), z_this.2.2.2.2.2.2.2.2.2.1, z_this.2.2.2.2.2.2.2.2.2.2.1, z_this.2.2.2.2.2.2.2.2.2.2.2.1, z_this.2.2.2.2.2.2.2.2.2.2.2.2.1, z_this.2.2.2.2.2.2.2.2.2.2.2.2.2)) := hD
            refine lv_iinc (v := (x6 + (1 : Int32))) (lv' := [(6, .int (x6 + (1 : Int32))), (2, .long ((x2 * (10 : Int64)) + ((0 : Int32)).toInt64)), (5, .int (0 : Int32)), (0, .ref (ad_this 0)), (1, .int x1), (4, .int x4)]) hx hb d_Wd_splitNumber_204 hl (k := 5) rfl rfl (by decide) rfl (fun ls hl => ?_)
            refine lv_goto (tgt := 125) hx hb d_Wd_splitNumber_207 (by decide) ?_
            exact ih (z_this.1, z_this.2.1, z_this.2.2.1, z_this.2.2.2.1, z_this.2.2.2.2.1, z_this.2.2.2.2.2.1, z_this.2.2.2.2.2.2.1, z_this.2.2.2.2.2.2.2.1, (z_this.2.2.2.2.2.2.2.2.1 + (1 : Int32)), z_this.2.2.2.2.2.2.2.2.2.1, z_this.2.2.2.2.2.2.2.2.2.2.1, z_this.2.2.2.2.2.2.2.2.2.2.2.1, z_this.2.2.2.2.2.2.2.2.2.2.2.2.1, z_this.2.2.2.2.2.2.2.2.2.2.2.2.2) x1 ((x2 * (10 : Int64)) + ((0 : Int32)).toInt64) x4 (0 : Int32) (x6 + (1 : Int32)) H locs ls (lv_sub hl [3, 4, 1, 5, 2, 0] rfl) hP hD hS hw
        · have hw := hw.2 hc
          refine lv_aload_n hx hb d_Wd_splitNumber_167 rfl (lv_at hl 1 rfl) ?_
          refine lv_aload_n hx hb d_Wd_splitNumber_168 rfl (lv_at hl 1 rfl) ?_
          refine va_get (D := D) (ci := 2) (v := .int z_this.2.2.2.2.2.2.2.2.1) (C := R_Wd) (T := F_Wd) (N := 15) hx hb hts in_Wd hown hK hP 0 rfl rfl 9 (by decide) (hts (.fieldLink R_Wd 37 R_Wd "scan" "I") kw1_106) (fun _ h9 => h9) rfl d_Wd_splitNumber_169 ?_
          refine xq_go (wr := ([] : va_W)) (stk := fun r => .int r :: [.long (x2 * (10 : Int64))]) (xq_runV (As := [.int z_this.2.2.2.2.2.2.2.2.1]) (rest := [.long (x2 * (10 : Int64))]) ⟨hx, hb, hml, hown, hts⟩ (c_Wd_byteAt (l := l) (o := o) (D := D) (k := k) (ad_this := ad_this) (q_this_keywords := q_this_keywords) hw) (cw_Wd_byteAt hts kw2_87 ⟨Nat.le_of_ble_eq_true rfl, Nat.le_of_ble_eq_true rfl⟩) (va_recv hK hP (ci := 2) (q0 := 0) rfl rfl) (hP.sub [0, 1, 2, 3, 4, 5] rfl) hK hJ hS (va_free hD hS hA [0, 1, 2, 3, 4, 5] rfl) ((hD.sub [0, 1, 2, 3, 4, 5] (by decide) rfl).weaken (fun _ _ _ _ => trivial)) rfl hl.1 (Nat.le_of_ble_eq_true rfl) d_Wd_splitNumber_172 ⟨Nat.le_of_ble_eq_true rfl, Nat.le_of_ble_eq_true rfl⟩) hP hD hS hA [0, 1, 2, 3, 4, 5] [] rfl rfl (by decide) (by decide) (fun _ => rfl) (fun r5 u5 H locs hw hP hD hS => ?_) (fun _ _ _ _ h9 => h9.elim)
          have hP : va_P D vwCl (w_Wd k ad_this q_this_keywords z_this) H := hP.sub [0, 1, 2, 3, 4, 5] rfl
          have hD : va_D A (w_Wd k ad_this q_this_keywords z_this) := hD.sub [0, 1, 2, 3, 4, 5] (by decide) rfl
          refine lv_bipush (v := (48 : Int32)) hx hb d_Wd_splitNumber_175 (by decide) ?_
          refine lv_isub hx hb d_Wd_splitNumber_177 ?_
          refine lv_goto (tgt := 182) hx hb d_Wd_splitNumber_178 (by decide) ?_
          refine lv_i2l hx hb d_Wd_splitNumber_182 rfl ?_
          refine lv_ladd hx hb d_Wd_splitNumber_183 ?_
          refine lv_lstore_n (lv' := [(2, .long ((x2 * (10 : Int64)) + ((r5 - (48 : Int32))).toInt64)), (5, .int (0 : Int32)), (0, .ref (ad_this 0)), (1, .int x1), (4, .int x4), (6, .int x6)]) hx hb d_Wd_splitNumber_184 rfl hl (by decide) rfl (fun ls hl => ?_)
          refine lv_aload_n hx hb d_Wd_splitNumber_185 rfl (lv_at hl 2 rfl) ?_
          refine lv_dup hx hb d_Wd_splitNumber_186 rfl ?_
          refine va_get (D := D) (ci := 2) (v := .int z_this.2.2.2.2.2.2.2.2.1) (C := R_Wd) (T := F_Wd) (N := 15) hx hb hts in_Wd hown hK hP 0 rfl rfl 9 (by decide) (hts (.fieldLink R_Wd 37 R_Wd "scan" "I") kw1_106) (fun _ h9 => h9) rfl d_Wd_splitNumber_187 ?_
          refine lv_iload hx hb d_Wd_splitNumber_190 (lv_at hl 1 rfl) ?_
          refine lv_if_eq (tgt := 199) hx hb d_Wd_splitNumber_192 (by decide) (fun hc => ?_) (fun hc => ?_)
          · have hw := hw.1 hc
            refine lv_iconst (v := (0 : Int32)) hx hb d_Wd_splitNumber_199 (by decide) ?_
            refine lv_iadd hx hb d_Wd_splitNumber_200 ?_
            refine va_put (D := D) (ci := 2) (v := .int (z_this.2.2.2.2.2.2.2.2.1 + (0 : Int32))) (ty := .int) (C := R_Wd) (T := F_Wd) (N := 15) hx hb hts in_Wd t_Wd t_Wd_ok n_Wd hown hK hP hD hS 0 rfl rfl 9 (by decide) (hts (.fieldLink R_Wd 37 R_Wd "scan" "I") kw1_106) (fun _ h9 => h9) rfl (by decide +kernel) rfl rfl (Nat.le_of_ble_eq_true rfl) d_Wd_splitNumber_201 (fun H locs hP hD hS => ?_)
            have hP : va_P D vwCl (w_Wd k ad_this q_this_keywords (z_this.1, z_this.2.1, z_this.2.2.1, z_this.2.2.2.1, z_this.2.2.2.2.1, z_this.2.2.2.2.2.1, z_this.2.2.2.2.2.2.1, z_this.2.2.2.2.2.2.2.1, (z_this.2.2.2.2.2.2.2.2.1 + (0 : Int32)), z_this.2.2.2.2.2.2.2.2.2.1, z_this.2.2.2.2.2.2.2.2.2.2.1, z_this.2.2.2.2.2.2.2.2.2.2.2.1, z_this.2.2.2.2.2.2.2.2.2.2.2.2.1, z_this.2.2.2.2.2.2.2.2.2.2.2.2.2)) H := hP
            have hD : va_D A (w_Wd k ad_this q_this_keywords (z_this.1, z_this.2.1, z_this.2.2.1, z_this.2.2.2.1, z_this.2.2.2.2.1, z_this.2.2.2.2.2.1, z_this.2.2.2.2.2.2.1, z_this.2.2.2.2.2.2.2.1, (z_this.2.2.2.2.2.2.2.2.1 + (0 : Int32)), z_this.2.2.2.2.2.2.2.2.2.1, z_this.2.2.2.2.2.2.2.2.2.2.1, z_this.2.2.2.2.2.2.2.2.2.2.2.1, z_this.2.2.2.2.2.2.2.2.2.2.2.2.1, z_this.2.2.2.2.2.2.2.2.2.2.2.2.2)) := hD
            refine lv_iinc (v := (x6 + (1 : Int32))) (lv' := [(6, .int (x6 + (1 : Int32))), (2, .long ((x2 * (10 : Int64)) + ((r5 - (48 : Int32))).toInt64)), (5, .int (0 : Int32)), (0, .ref (ad_this 0)), (1, .int x1), (4, .int x4)]) hx hb d_Wd_splitNumber_204 hl (k := 5) rfl rfl (by decide) rfl (fun ls hl => ?_)
            refine lv_goto (tgt := 125) hx hb d_Wd_splitNumber_207 (by decide) ?_
            exact ih (z_this.1, z_this.2.1, z_this.2.2.1, z_this.2.2.2.1, z_this.2.2.2.2.1, z_this.2.2.2.2.2.1, z_this.2.2.2.2.2.2.1, z_this.2.2.2.2.2.2.2.1, (z_this.2.2.2.2.2.2.2.2.1 + (0 : Int32)), z_this.2.2.2.2.2.2.2.2.2.1, z_this.2.2.2.2.2.2.2.2.2.2.1, z_this.2.2.2.2.2.2.2.2.2.2.2.1, z_this.2.2.2.2.2.2.2.2.2.2.2.2.1, z_this.2.2.2.2.2.2.2.2.2.2.2.2.2) x1 ((x2 * (10 : Int64)) + ((r5 - (48 : Int32))).toInt64) x4 (0 : Int32) (x6 + (1 : Int32)) H locs ls (lv_sub hl [3, 4, 1, 5, 2, 0] rfl) hP hD hS hw
          · have hw := hw.2 hc
            refine lv_iconst (v := (1 : Int32)) hx hb d_Wd_splitNumber_195 (by decide) ?_
            refine lv_goto (tgt := 200) hx hb d_Wd_splitNumber_196 (by decide) ?_
            refine lv_iadd hx hb d_Wd_splitNumber_200 ?_
            refine va_put (D := D) (ci := 2) (v := .int (z_this.2.2.2.2.2.2.2.2.1 + (1 : Int32))) (ty := .int) (C := R_Wd) (T := F_Wd) (N := 15) hx hb hts in_Wd t_Wd t_Wd_ok n_Wd hown hK hP hD hS 0 rfl rfl 9 (by decide) (hts (.fieldLink R_Wd 37 R_Wd "scan" "I") kw1_106) (fun _ h9 => h9) rfl (by decide +kernel) rfl rfl (Nat.le_of_ble_eq_true rfl) d_Wd_splitNumber_201 (fun H locs hP hD hS => ?_)
            have hP : va_P D vwCl (w_Wd k ad_this q_this_keywords (z_this.1, z_this.2.1, z_this.2.2.1, z_this.2.2.2.1, z_this.2.2.2.2.1, z_this.2.2.2.2.2.1, z_this.2.2.2.2.2.2.1, z_this.2.2.2.2.2.2.2.1, (z_this.2.2.2.2.2.2.2.2.1 + (1 : Int32)), z_this.2.2.2.2.2.2.2.2.2.1, z_this.2.2.2.2.2.2.2.2.2.2.1, z_this.2.2.2.2.2.2.2.2.2.2.2.1, z_this.2.2.2.2.2.2.2.2.2.2.2.2.1, z_this.2.2.2.2.2.2.2.2.2.2.2.2.2)) H := hP
            have hD : va_D A (w_Wd k ad_this q_this_keywords (z_this.1, z_this.2.1, z_this.2.2.1, z_this.2.2.2.1, z_this.2.2.2.2.1, z_this.2.2.2.2.2.1, z_this.2.2.2.2.2.2.1, z_this.2.2.2.2.2.2.2.1, (z_this.2.2.2.2.2.2.2.2.1 + (1 : Int32)), z_this.2.2.2.2.2.2.2.2.2.1, z_this.2.2.2.2.2.2.2.2.2.2.1, z_this.2.2.2.2.2.2.2.2.2.2.2.1, z_this.2.2.2.2.2.2.2.2.2.2.2.2.1, z_this.2.2.2.2.2.2.2.2.2.2.2.2.2)) := hD
            refine lv_iinc (v := (x6 + (1 : Int32))) (lv' := [(6, .int (x6 + (1 : Int32))), (2, .long ((x2 * (10 : Int64)) + ((r5 - (48 : Int32))).toInt64)), (5, .int (0 : Int32)), (0, .ref (ad_this 0)), (1, .int x1), (4, .int x4)]) hx hb d_Wd_splitNumber_204 hl (k := 5) rfl rfl (by decide) rfl (fun ls hl => ?_)
            refine lv_goto (tgt := 125) hx hb d_Wd_splitNumber_207 (by decide) ?_
            exact ih (z_this.1, z_this.2.1, z_this.2.2.1, z_this.2.2.2.1, z_this.2.2.2.2.1, z_this.2.2.2.2.2.1, z_this.2.2.2.2.2.2.1, z_this.2.2.2.2.2.2.2.1, (z_this.2.2.2.2.2.2.2.2.1 + (1 : Int32)), z_this.2.2.2.2.2.2.2.2.2.1, z_this.2.2.2.2.2.2.2.2.2.2.1, z_this.2.2.2.2.2.2.2.2.2.2.2.1, z_this.2.2.2.2.2.2.2.2.2.2.2.2.1, z_this.2.2.2.2.2.2.2.2.2.2.2.2.2) x1 ((x2 * (10 : Int64)) + ((r5 - (48 : Int32))).toInt64) x4 (0 : Int32) (x6 + (1 : Int32)) H locs ls (lv_sub hl [3, 4, 1, 5, 2, 0] rfl) hP hD hS hw
      · have hw := hw.2 hc
        refine lv_aload_n hx hb d_Wd_splitNumber_136 rfl (lv_at hl 0 rfl) ?_
        refine lv_aload_n hx hb d_Wd_splitNumber_137 rfl (lv_at hl 0 rfl) ?_
        refine va_get (D := D) (ci := 2) (v := .int z_this.2.2.2.2.2.2.2.2.1) (C := R_Wd) (T := F_Wd) (N := 15) hx hb hts in_Wd hown hK hP 0 rfl rfl 9 (by decide) (hts (.fieldLink R_Wd 37 R_Wd "scan" "I") kw1_106) (fun _ h9 => h9) rfl d_Wd_splitNumber_138 ?_
        refine xq_go (wr := ([] : va_W)) (stk := fun r => .int r :: []) (xq_runV (As := [.int z_this.2.2.2.2.2.2.2.2.1]) (rest := []) ⟨hx, hb, hml, hown, hts⟩ (c_Wd_byteAt (l := l) (o := o) (D := D) (k := k) (ad_this := ad_this) (q_this_keywords := q_this_keywords) hw) (cw_Wd_byteAt hts kw2_87 ⟨Nat.le_of_ble_eq_true rfl, Nat.le_of_ble_eq_true rfl⟩) (va_recv hK hP (ci := 2) (q0 := 0) rfl rfl) (hP.sub [0, 1, 2, 3, 4, 5] rfl) hK hJ hS (va_free hD hS hA [0, 1, 2, 3, 4, 5] rfl) ((hD.sub [0, 1, 2, 3, 4, 5] (by decide) rfl).weaken (fun _ _ _ _ => trivial)) rfl hl.1 (Nat.le_of_ble_eq_true rfl) d_Wd_splitNumber_141 ⟨Nat.le_of_ble_eq_true rfl, Nat.le_of_ble_eq_true rfl⟩) hP hD hS hA [0, 1, 2, 3, 4, 5] [] rfl rfl (by decide) (by decide) (fun _ => rfl) (fun r6 u6 H locs hw hP hD hS => ?_) (fun _ _ _ _ h9 => h9.elim)
        have hP : va_P D vwCl (w_Wd k ad_this q_this_keywords z_this) H := hP.sub [0, 1, 2, 3, 4, 5] rfl
        have hD : va_D A (w_Wd k ad_this q_this_keywords z_this) := hD.sub [0, 1, 2, 3, 4, 5] (by decide) rfl
        refine xq_go (wr := w_Wd k ad_this q_this_keywords z_this) (stk := fun r => .int r :: []) (xq_runS (As := [.int r6]) (rest := []) ⟨hx, hb, hml, hown, hts⟩ (c_Wd_isDigit (l := l) (o := o) (D := D) (k := k) hw) (cs_Wd_isDigit hts kw2_98 ⟨Nat.le_of_ble_eq_true rfl, Nat.le_of_ble_eq_true rfl⟩) (hP.sub [] rfl) hK hJ hS (va_free hD hS hA [] rfl) ((hD.sub [] (by decide) rfl).weaken (fun _ _ _ _ => trivial)) rfl hl.1 (Nat.le_of_ble_eq_true rfl) d_Wd_splitNumber_144 ⟨Nat.le_of_ble_eq_true rfl, Nat.le_of_ble_eq_true rfl⟩) hP hD hS hA [] [0, 1, 2, 3, 4, 5] rfl rfl (by decide) (by decide) (fun _ => rfl) (fun r7 u7 H locs hw hP hD hS => ?_) (fun _ _ _ _ h9 => h9.elim)
        have hP : va_P D vwCl (w_Wd k ad_this q_this_keywords z_this) H := hP.sub [0, 1, 2, 3, 4, 5] rfl
        have hD : va_D A (w_Wd k ad_this q_this_keywords z_this) := hD.sub [0, 1, 2, 3, 4, 5] (by decide) rfl
        refine lv_if_eq (tgt := 154) hx hb d_Wd_splitNumber_147 (by decide) (fun hc => ?_) (fun hc => ?_)
        · have hw := hw.1 hc
          refine lv_iconst (v := (0 : Int32)) hx hb d_Wd_splitNumber_154 (by decide) ?_
          refine lv_istore (lv' := [(5, .int (0 : Int32)), (0, .ref (ad_this 0)), (1, .int x1), (2, .long x2), (4, .int x4), (6, .int x6)]) hx hb d_Wd_splitNumber_155 hl (by decide) rfl (fun ls hl => ?_)
          refine lv_lload_n hx hb d_Wd_splitNumber_157 rfl (lv_at hl 3 rfl) ?_
          refine lv_ldc2 (v := (10 : Int64)) hx hb hown (hts (.constantLong R_Wd 111 (10)) kw2_105) d_Wd_splitNumber_158 ?_
          refine lv_lmul hx hb d_Wd_splitNumber_161 ?_
          refine lv_iload hx hb d_Wd_splitNumber_162 (lv_at hl 0 rfl) ?_
          refine lv_if_eq (tgt := 181) hx hb d_Wd_splitNumber_164 (by decide) (fun hc => ?_) (fun hc => ?_)
          · have hw := hw.1 hc
            refine lv_iconst (v := (0 : Int32)) hx hb d_Wd_splitNumber_181 (by decide) ?_
            refine lv_i2l hx hb d_Wd_splitNumber_182 rfl ?_
            refine lv_ladd hx hb d_Wd_splitNumber_183 ?_
            refine lv_lstore_n (lv' := [(2, .long ((x2 * (10 : Int64)) + ((0 : Int32)).toInt64)), (5, .int (0 : Int32)), (0, .ref (ad_this 0)), (1, .int x1), (4, .int x4), (6, .int x6)]) hx hb d_Wd_splitNumber_184 rfl hl (by decide) rfl (fun ls hl => ?_)
            refine lv_aload_n hx hb d_Wd_splitNumber_185 rfl (lv_at hl 2 rfl) ?_
            refine lv_dup hx hb d_Wd_splitNumber_186 rfl ?_
            refine va_get (D := D) (ci := 2) (v := .int z_this.2.2.2.2.2.2.2.2.1) (C := R_Wd) (T := F_Wd) (N := 15) hx hb hts in_Wd hown hK hP 0 rfl rfl 9 (by decide) (hts (.fieldLink R_Wd 37 R_Wd "scan" "I") kw1_106) (fun _ h9 => h9) rfl d_Wd_splitNumber_187 ?_
            refine lv_iload hx hb d_Wd_splitNumber_190 (lv_at hl 1 rfl) ?_
            refine lv_if_eq (tgt := 199) hx hb d_Wd_splitNumber_192 (by decide) (fun hc => ?_) (fun hc => ?_)
            · have hw := hw.1 hc
              refine lv_iconst (v := (0 : Int32)) hx hb d_Wd_splitNumber_199 (by decide) ?_
              refine lv_iadd hx hb d_Wd_splitNumber_200 ?_
              refine va_put (D := D) (ci := 2) (v := .int (z_this.2.2.2.2.2.2.2.2.1 + (0 : Int32))) (ty := .int) (C := R_Wd) (T := F_Wd) (N := 15) hx hb hts in_Wd t_Wd t_Wd_ok n_Wd hown hK hP hD hS 0 rfl rfl 9 (by decide) (hts (.fieldLink R_Wd 37 R_Wd "scan" "I") kw1_106) (fun _ h9 => h9) rfl (by decide +kernel) rfl rfl (Nat.le_of_ble_eq_true rfl) d_Wd_splitNumber_201 (fun H locs hP hD hS => ?_)
              have hP : va_P D vwCl (w_Wd k ad_this q_this_keywords (z_this.1, z_this.2.1, z_this.2.2.1, z_this.2.2.2.1, z_this.2.2.2.2.1, z_this.2.2.2.2.2.1, z_this.2.2.2.2.2.2.1, z_this.2.2.2.2.2.2.2.1, (z_this.2.2.2.2.2.2.2.2.1 + (0 : Int32)), z_this.2.2.2.2.2.2.2.2.2.1, z_this.2.2.2.2.2.2.2.2.2.2.1, z_this.2.2.2.2.2.2.2.2.2.2.2.1, z_this.2.2.2.2.2.2.2.2.2.2.2.2.1, z_this.2.2.2.2.2.2.2.2.2.2.2.2.2)) H := hP
              have hD : va_D A (w_Wd k ad_this q_this_keywords (z_this.1, z_this.2.1, z_this.2.2.1, z_this.2.2.2.1, z_this.2.2.2.2.1, z_this.2.2.2.2.2.1, z_this.2.2.2.2.2.2.1, z_this.2.2.2.2.2.2.2.1, (z_this.2.2.2.2.2.2.2.2.1 + (0 : Int32)), z_this.2.2.2.2.2.2.2.2.2.1, z_this.2.2.2.2.2.2.2.2.2.2.1, z_this.2.2.2.2.2.2.2.2.2.2.2.1, z_this.2.2.2.2.2.2.2.2.2.2.2.2.1, z_this.2.2.2.2.2.2.2.2.2.2.2.2.2)) := hD
              refine lv_iinc (v := (x6 + (1 : Int32))) (lv' := [(6, .int (x6 + (1 : Int32))), (2, .long ((x2 * (10 : Int64)) + ((0 : Int32)).toInt64)), (5, .int (0 : Int32)), (0, .ref (ad_this 0)), (1, .int x1), (4, .int x4)]) hx hb d_Wd_splitNumber_204 hl (k := 5) rfl rfl (by decide) rfl (fun ls hl => ?_)
              refine lv_goto (tgt := 125) hx hb d_Wd_splitNumber_207 (by decide) ?_
              exact ih (z_this.1, z_this.2.1, z_this.2.2.1, z_this.2.2.2.1, z_this.2.2.2.2.1, z_this.2.2.2.2.2.1, z_this.2.2.2.2.2.2.1, z_this.2.2.2.2.2.2.2.1, (z_this.2.2.2.2.2.2.2.2.1 + (0 : Int32)), z_this.2.2.2.2.2.2.2.2.2.1, z_this.2.2.2.2.2.2.2.2.2.2.1, z_this.2.2.2.2.2.2.2.2.2.2.2.1, z_this.2.2.2.2.2.2.2.2.2.2.2.2.1, z_this.2.2.2.2.2.2.2.2.2.2.2.2.2) x1 ((x2 * (10 : Int64)) + ((0 : Int32)).toInt64) x4 (0 : Int32) (x6 + (1 : Int32)) H locs ls (lv_sub hl [3, 4, 1, 5, 2, 0] rfl) hP hD hS hw
            · have hw := hw.2 hc
              refine lv_iconst (v := (1 : Int32)) hx hb d_Wd_splitNumber_195 (by decide) ?_
              refine lv_goto (tgt := 200) hx hb d_Wd_splitNumber_196 (by decide) ?_
              refine lv_iadd hx hb d_Wd_splitNumber_200 ?_
              refine va_put (D := D) (ci := 2) (v := .int (z_this.2.2.2.2.2.2.2.2.1 + (1 : Int32))) (ty := .int) (C := R_Wd) (T := F_Wd) (N := 15) hx hb hts in_Wd t_Wd t_Wd_ok n_Wd hown hK hP hD hS 0 rfl rfl 9 (by decide) (hts (.fieldLink R_Wd 37 R_Wd "scan" "I") kw1_106) (fun _ h9 => h9) rfl (by decide +kernel) rfl rfl (Nat.le_of_ble_eq_true rfl) d_Wd_splitNumber_201 (fun H locs hP hD hS => ?_)
              have hP : va_P D vwCl (w_Wd k ad_this q_this_keywords (z_this.1, z_this.2.1, z_this.2.2.1, z_this.2.2.2.1, z_this.2.2.2.2.1, z_this.2.2.2.2.2.1, z_this.2.2.2.2.2.2.1, z_this.2.2.2.2.2.2.2.1, (z_this.2.2.2.2.2.2.2.2.1 + (1 : Int32)), z_this.2.2.2.2.2.2.2.2.2.1, z_this.2.2.2.2.2.2.2.2.2.2.1, z_this.2.2.2.2.2.2.2.2.2.2.2.1, z_this.2.2.2.2.2.2.2.2.2.2.2.2.1, z_this.2.2.2.2.2.2.2.2.2.2.2.2.2)) H := hP
              have hD : va_D A (w_Wd k ad_this q_this_keywords (z_this.1, z_this.2.1, z_this.2.2.1, z_this.2.2.2.1, z_this.2.2.2.2.1, z_this.2.2.2.2.2.1, z_this.2.2.2.2.2.2.1, z_this.2.2.2.2.2.2.2.1, (z_this.2.2.2.2.2.2.2.2.1 + (1 : Int32)), z_this.2.2.2.2.2.2.2.2.2.1, z_this.2.2.2.2.2.2.2.2.2.2.1, z_this.2.2.2.2.2.2.2.2.2.2.2.1, z_this.2.2.2.2.2.2.2.2.2.2.2.2.1, z_this.2.2.2.2.2.2.2.2.2.2.2.2.2)) := hD
              refine lv_iinc (v := (x6 + (1 : Int32))) (lv' := [(6, .int (x6 + (1 : Int32))), (2, .long ((x2 * (10 : Int64)) + ((0 : Int32)).toInt64)), (5, .int (0 : Int32)), (0, .ref (ad_this 0)), (1, .int x1), (4, .int x4)]) hx hb d_Wd_splitNumber_204 hl (k := 5) rfl rfl (by decide) rfl (fun ls hl => ?_)
              refine lv_goto (tgt := 125) hx hb d_Wd_splitNumber_207 (by decide) ?_
              exact ih (z_this.1, z_this.2.1, z_this.2.2.1, z_this.2.2.2.1, z_this.2.2.2.2.1, z_this.2.2.2.2.2.1, z_this.2.2.2.2.2.2.1, z_this.2.2.2.2.2.2.2.1, (z_this.2.2.2.2.2.2.2.2.1 + (1 : Int32)), z_this.2.2.2.2.2.2.2.2.2.1, z_this.2.2.2.2.2.2.2.2.2.2.1, z_this.2.2.2.2.2.2.2.2.2.2.2.1, z_this.2.2.2.2.2.2.2.2.2.2.2.2.1, z_this.2.2.2.2.2.2.2.2.2.2.2.2.2) x1 ((x2 * (10 : Int64)) + ((0 : Int32)).toInt64) x4 (0 : Int32) (x6 + (1 : Int32)) H locs ls (lv_sub hl [3, 4, 1, 5, 2, 0] rfl) hP hD hS hw
          · have hw := hw.2 hc
            refine lv_aload_n hx hb d_Wd_splitNumber_167 rfl (lv_at hl 1 rfl) ?_
            refine lv_aload_n hx hb d_Wd_splitNumber_168 rfl (lv_at hl 1 rfl) ?_
            refine va_get (D := D) (ci := 2) (v := .int z_this.2.2.2.2.2.2.2.2.1) (C := R_Wd) (T := F_Wd) (N := 15) hx hb hts in_Wd hown hK hP 0 rfl rfl 9 (by decide) (hts (.fieldLink R_Wd 37 R_Wd "scan" "I") kw1_106) (fun _ h9 => h9) rfl d_Wd_splitNumber_169 ?_
            refine xq_go (wr := ([] : va_W)) (stk := fun r => .int r :: [.long (x2 * (10 : Int64))]) (xq_runV (As := [.int z_this.2.2.2.2.2.2.2.2.1]) (rest := [.long (x2 * (10 : Int64))]) ⟨hx, hb, hml, hown, hts⟩ (c_Wd_byteAt (l := l) (o := o) (D := D) (k := k) (ad_this := ad_this) (q_this_keywords := q_this_keywords) hw) (cw_Wd_byteAt hts kw2_87 ⟨Nat.le_of_ble_eq_true rfl, Nat.le_of_ble_eq_true rfl⟩) (va_recv hK hP (ci := 2) (q0 := 0) rfl rfl) (hP.sub [0, 1, 2, 3, 4, 5] rfl) hK hJ hS (va_free hD hS hA [0, 1, 2, 3, 4, 5] rfl) ((hD.sub [0, 1, 2, 3, 4, 5] (by decide) rfl).weaken (fun _ _ _ _ => trivial)) rfl hl.1 (Nat.le_of_ble_eq_true rfl) d_Wd_splitNumber_172 ⟨Nat.le_of_ble_eq_true rfl, Nat.le_of_ble_eq_true rfl⟩) hP hD hS hA [0, 1, 2, 3, 4, 5] [] rfl rfl (by decide) (by decide) (fun _ => rfl) (fun r8 u8 H locs hw hP hD hS => ?_) (fun _ _ _ _ h9 => h9.elim)
            have hP : va_P D vwCl (w_Wd k ad_this q_this_keywords z_this) H := hP.sub [0, 1, 2, 3, 4, 5] rfl
            have hD : va_D A (w_Wd k ad_this q_this_keywords z_this) := hD.sub [0, 1, 2, 3, 4, 5] (by decide) rfl
            refine lv_bipush (v := (48 : Int32)) hx hb d_Wd_splitNumber_175 (by decide) ?_
            refine lv_isub hx hb d_Wd_splitNumber_177 ?_
            refine lv_goto (tgt := 182) hx hb d_Wd_splitNumber_178 (by decide) ?_
            refine lv_i2l hx hb d_Wd_splitNumber_182 rfl ?_
            refine lv_ladd hx hb d_Wd_splitNumber_183 ?_
            refine lv_lstore_n (lv' := [(2, .long ((x2 * (10 : Int64)) + ((r8 - (48 : Int32))).toInt64)), (5, .int (0 : Int32)), (0, .ref (ad_this 0)), (1, .int x1), (4, .int x4), (6, .int x6)]) hx hb d_Wd_splitNumber_184 rfl hl (by decide) rfl (fun ls hl => ?_)
            refine lv_aload_n hx hb d_Wd_splitNumber_185 rfl (lv_at hl 2 rfl) ?_
            refine lv_dup hx hb d_Wd_splitNumber_186 rfl ?_
            refine va_get (D := D) (ci := 2) (v := .int z_this.2.2.2.2.2.2.2.2.1) (C := R_Wd) (T := F_Wd) (N := 15) hx hb hts in_Wd hown hK hP 0 rfl rfl 9 (by decide) (hts (.fieldLink R_Wd 37 R_Wd "scan" "I") kw1_106) (fun _ h9 => h9) rfl d_Wd_splitNumber_187 ?_
            refine lv_iload hx hb d_Wd_splitNumber_190 (lv_at hl 1 rfl) ?_
            refine lv_if_eq (tgt := 199) hx hb d_Wd_splitNumber_192 (by decide) (fun hc => ?_) (fun hc => ?_)
            · have hw := hw.1 hc
              refine lv_iconst (v := (0 : Int32)) hx hb d_Wd_splitNumber_199 (by decide) ?_
              refine lv_iadd hx hb d_Wd_splitNumber_200 ?_
              refine va_put (D := D) (ci := 2) (v := .int (z_this.2.2.2.2.2.2.2.2.1 + (0 : Int32))) (ty := .int) (C := R_Wd) (T := F_Wd) (N := 15) hx hb hts in_Wd t_Wd t_Wd_ok n_Wd hown hK hP hD hS 0 rfl rfl 9 (by decide) (hts (.fieldLink R_Wd 37 R_Wd "scan" "I") kw1_106) (fun _ h9 => h9) rfl (by decide +kernel) rfl rfl (Nat.le_of_ble_eq_true rfl) d_Wd_splitNumber_201 (fun H locs hP hD hS => ?_)
              have hP : va_P D vwCl (w_Wd k ad_this q_this_keywords (z_this.1, z_this.2.1, z_this.2.2.1, z_this.2.2.2.1, z_this.2.2.2.2.1, z_this.2.2.2.2.2.1, z_this.2.2.2.2.2.2.1, z_this.2.2.2.2.2.2.2.1, (z_this.2.2.2.2.2.2.2.2.1 + (0 : Int32)), z_this.2.2.2.2.2.2.2.2.2.1, z_this.2.2.2.2.2.2.2.2.2.2.1, z_this.2.2.2.2.2.2.2.2.2.2.2.1, z_this.2.2.2.2.2.2.2.2.2.2.2.2.1, z_this.2.2.2.2.2.2.2.2.2.2.2.2.2)) H := hP
              have hD : va_D A (w_Wd k ad_this q_this_keywords (z_this.1, z_this.2.1, z_this.2.2.1, z_this.2.2.2.1, z_this.2.2.2.2.1, z_this.2.2.2.2.2.1, z_this.2.2.2.2.2.2.1, z_this.2.2.2.2.2.2.2.1, (z_this.2.2.2.2.2.2.2.2.1 + (0 : Int32)), z_this.2.2.2.2.2.2.2.2.2.1, z_this.2.2.2.2.2.2.2.2.2.2.1, z_this.2.2.2.2.2.2.2.2.2.2.2.1, z_this.2.2.2.2.2.2.2.2.2.2.2.2.1, z_this.2.2.2.2.2.2.2.2.2.2.2.2.2)) := hD
              refine lv_iinc (v := (x6 + (1 : Int32))) (lv' := [(6, .int (x6 + (1 : Int32))), (2, .long ((x2 * (10 : Int64)) + ((r8 - (48 : Int32))).toInt64)), (5, .int (0 : Int32)), (0, .ref (ad_this 0)), (1, .int x1), (4, .int x4)]) hx hb d_Wd_splitNumber_204 hl (k := 5) rfl rfl (by decide) rfl (fun ls hl => ?_)
              refine lv_goto (tgt := 125) hx hb d_Wd_splitNumber_207 (by decide) ?_
              exact ih (z_this.1, z_this.2.1, z_this.2.2.1, z_this.2.2.2.1, z_this.2.2.2.2.1, z_this.2.2.2.2.2.1, z_this.2.2.2.2.2.2.1, z_this.2.2.2.2.2.2.2.1, (z_this.2.2.2.2.2.2.2.2.1 + (0 : Int32)), z_this.2.2.2.2.2.2.2.2.2.1, z_this.2.2.2.2.2.2.2.2.2.2.1, z_this.2.2.2.2.2.2.2.2.2.2.2.1, z_this.2.2.2.2.2.2.2.2.2.2.2.2.1, z_this.2.2.2.2.2.2.2.2.2.2.2.2.2) x1 ((x2 * (10 : Int64)) + ((r8 - (48 : Int32))).toInt64) x4 (0 : Int32) (x6 + (1 : Int32)) H locs ls (lv_sub hl [3, 4, 1, 5, 2, 0] rfl) hP hD hS hw
            · have hw := hw.2 hc
              refine lv_iconst (v := (1 : Int32)) hx hb d_Wd_splitNumber_195 (by decide) ?_
              refine lv_goto (tgt := 200) hx hb d_Wd_splitNumber_196 (by decide) ?_
              refine lv_iadd hx hb d_Wd_splitNumber_200 ?_
              refine va_put (D := D) (ci := 2) (v := .int (z_this.2.2.2.2.2.2.2.2.1 + (1 : Int32))) (ty := .int) (C := R_Wd) (T := F_Wd) (N := 15) hx hb hts in_Wd t_Wd t_Wd_ok n_Wd hown hK hP hD hS 0 rfl rfl 9 (by decide) (hts (.fieldLink R_Wd 37 R_Wd "scan" "I") kw1_106) (fun _ h9 => h9) rfl (by decide +kernel) rfl rfl (Nat.le_of_ble_eq_true rfl) d_Wd_splitNumber_201 (fun H locs hP hD hS => ?_)
              have hP : va_P D vwCl (w_Wd k ad_this q_this_keywords (z_this.1, z_this.2.1, z_this.2.2.1, z_this.2.2.2.1, z_this.2.2.2.2.1, z_this.2.2.2.2.2.1, z_this.2.2.2.2.2.2.1, z_this.2.2.2.2.2.2.2.1, (z_this.2.2.2.2.2.2.2.2.1 + (1 : Int32)), z_this.2.2.2.2.2.2.2.2.2.1, z_this.2.2.2.2.2.2.2.2.2.2.1, z_this.2.2.2.2.2.2.2.2.2.2.2.1, z_this.2.2.2.2.2.2.2.2.2.2.2.2.1, z_this.2.2.2.2.2.2.2.2.2.2.2.2.2)) H := hP
              have hD : va_D A (w_Wd k ad_this q_this_keywords (z_this.1, z_this.2.1, z_this.2.2.1, z_this.2.2.2.1, z_this.2.2.2.2.1, z_this.2.2.2.2.2.1, z_this.2.2.2.2.2.2.1, z_this.2.2.2.2.2.2.2.1, (z_this.2.2.2.2.2.2.2.2.1 + (1 : Int32)), z_this.2.2.2.2.2.2.2.2.2.1, z_this.2.2.2.2.2.2.2.2.2.2.1, z_this.2.2.2.2.2.2.2.2.2.2.2.1, z_this.2.2.2.2.2.2.2.2.2.2.2.2.1, z_this.2.2.2.2.2.2.2.2.2.2.2.2.2)) := hD
              refine lv_iinc (v := (x6 + (1 : Int32))) (lv' := [(6, .int (x6 + (1 : Int32))), (2, .long ((x2 * (10 : Int64)) + ((r8 - (48 : Int32))).toInt64)), (5, .int (0 : Int32)), (0, .ref (ad_this 0)), (1, .int x1), (4, .int x4)]) hx hb d_Wd_splitNumber_204 hl (k := 5) rfl rfl (by decide) rfl (fun ls hl => ?_)
              refine lv_goto (tgt := 125) hx hb d_Wd_splitNumber_207 (by decide) ?_
              exact ih (z_this.1, z_this.2.1, z_this.2.2.1, z_this.2.2.2.1, z_this.2.2.2.2.1, z_this.2.2.2.2.2.1, z_this.2.2.2.2.2.2.1, z_this.2.2.2.2.2.2.2.1, (z_this.2.2.2.2.2.2.2.2.1 + (1 : Int32)), z_this.2.2.2.2.2.2.2.2.2.1, z_this.2.2.2.2.2.2.2.2.2.2.1, z_this.2.2.2.2.2.2.2.2.2.2.2.1, z_this.2.2.2.2.2.2.2.2.2.2.2.2.1, z_this.2.2.2.2.2.2.2.2.2.2.2.2.2) x1 ((x2 * (10 : Int64)) + ((r8 - (48 : Int32))).toInt64) x4 (0 : Int32) (x6 + (1 : Int32)) H locs ls (lv_sub hl [3, 4, 1, 5, 2, 0] rfl) hP hD hS hw
        · have hw := hw.2 hc
          refine lv_iconst (v := (1 : Int32)) hx hb d_Wd_splitNumber_150 (by decide) ?_
          refine lv_goto (tgt := 155) hx hb d_Wd_splitNumber_151 (by decide) ?_
          refine lv_istore (lv' := [(5, .int (1 : Int32)), (0, .ref (ad_this 0)), (1, .int x1), (2, .long x2), (4, .int x4), (6, .int x6)]) hx hb d_Wd_splitNumber_155 hl (by decide) rfl (fun ls hl => ?_)
          refine lv_lload_n hx hb d_Wd_splitNumber_157 rfl (lv_at hl 3 rfl) ?_
          refine lv_ldc2 (v := (10 : Int64)) hx hb hown (hts (.constantLong R_Wd 111 (10)) kw2_105) d_Wd_splitNumber_158 ?_
          refine lv_lmul hx hb d_Wd_splitNumber_161 ?_
          refine lv_iload hx hb d_Wd_splitNumber_162 (lv_at hl 0 rfl) ?_
          refine lv_if_eq (tgt := 181) hx hb d_Wd_splitNumber_164 (by decide) (fun hc => ?_) (fun hc => ?_)
          · have hw := hw.1 hc
            refine lv_iconst (v := (0 : Int32)) hx hb d_Wd_splitNumber_181 (by decide) ?_
            refine lv_i2l hx hb d_Wd_splitNumber_182 rfl ?_
            refine lv_ladd hx hb d_Wd_splitNumber_183 ?_
            refine lv_lstore_n (lv' := [(2, .long ((x2 * (10 : Int64)) + ((0 : Int32)).toInt64)), (5, .int (1 : Int32)), (0, .ref (ad_this 0)), (1, .int x1), (4, .int x4), (6, .int x6)]) hx hb d_Wd_splitNumber_184 rfl hl (by decide) rfl (fun ls hl => ?_)
            refine lv_aload_n hx hb d_Wd_splitNumber_185 rfl (lv_at hl 2 rfl) ?_
            refine lv_dup hx hb d_Wd_splitNumber_186 rfl ?_
            refine va_get (D := D) (ci := 2) (v := .int z_this.2.2.2.2.2.2.2.2.1) (C := R_Wd) (T := F_Wd) (N := 15) hx hb hts in_Wd hown hK hP 0 rfl rfl 9 (by decide) (hts (.fieldLink R_Wd 37 R_Wd "scan" "I") kw1_106) (fun _ h9 => h9) rfl d_Wd_splitNumber_187 ?_
            refine lv_iload hx hb d_Wd_splitNumber_190 (lv_at hl 1 rfl) ?_
            refine lv_if_eq (tgt := 199) hx hb d_Wd_splitNumber_192 (by decide) (fun hc => ?_) (fun hc => ?_)
            · have hw := hw.1 hc
              refine lv_iconst (v := (0 : Int32)) hx hb d_Wd_splitNumber_199 (by decide) ?_
              refine lv_iadd hx hb d_Wd_splitNumber_200 ?_
              refine va_put (D := D) (ci := 2) (v := .int (z_this.2.2.2.2.2.2.2.2.1 + (0 : Int32))) (ty := .int) (C := R_Wd) (T := F_Wd) (N := 15) hx hb hts in_Wd t_Wd t_Wd_ok n_Wd hown hK hP hD hS 0 rfl rfl 9 (by decide) (hts (.fieldLink R_Wd 37 R_Wd "scan" "I") kw1_106) (fun _ h9 => h9) rfl (by decide +kernel) rfl rfl (Nat.le_of_ble_eq_true rfl) d_Wd_splitNumber_201 (fun H locs hP hD hS => ?_)
              have hP : va_P D vwCl (w_Wd k ad_this q_this_keywords (z_this.1, z_this.2.1, z_this.2.2.1, z_this.2.2.2.1, z_this.2.2.2.2.1, z_this.2.2.2.2.2.1, z_this.2.2.2.2.2.2.1, z_this.2.2.2.2.2.2.2.1, (z_this.2.2.2.2.2.2.2.2.1 + (0 : Int32)), z_this.2.2.2.2.2.2.2.2.2.1, z_this.2.2.2.2.2.2.2.2.2.2.1, z_this.2.2.2.2.2.2.2.2.2.2.2.1, z_this.2.2.2.2.2.2.2.2.2.2.2.2.1, z_this.2.2.2.2.2.2.2.2.2.2.2.2.2)) H := hP
              have hD : va_D A (w_Wd k ad_this q_this_keywords (z_this.1, z_this.2.1, z_this.2.2.1, z_this.2.2.2.1, z_this.2.2.2.2.1, z_this.2.2.2.2.2.1, z_this.2.2.2.2.2.2.1, z_this.2.2.2.2.2.2.2.1, (z_this.2.2.2.2.2.2.2.2.1 + (0 : Int32)), z_this.2.2.2.2.2.2.2.2.2.1, z_this.2.2.2.2.2.2.2.2.2.2.1, z_this.2.2.2.2.2.2.2.2.2.2.2.1, z_this.2.2.2.2.2.2.2.2.2.2.2.2.1, z_this.2.2.2.2.2.2.2.2.2.2.2.2.2)) := hD
              refine lv_iinc (v := (x6 + (1 : Int32))) (lv' := [(6, .int (x6 + (1 : Int32))), (2, .long ((x2 * (10 : Int64)) + ((0 : Int32)).toInt64)), (5, .int (1 : Int32)), (0, .ref (ad_this 0)), (1, .int x1), (4, .int x4)]) hx hb d_Wd_splitNumber_204 hl (k := 5) rfl rfl (by decide) rfl (fun ls hl => ?_)
              refine lv_goto (tgt := 125) hx hb d_Wd_splitNumber_207 (by decide) ?_
              exact ih (z_this.1, z_this.2.1, z_this.2.2.1, z_this.2.2.2.1, z_this.2.2.2.2.1, z_this.2.2.2.2.2.1, z_this.2.2.2.2.2.2.1, z_this.2.2.2.2.2.2.2.1, (z_this.2.2.2.2.2.2.2.2.1 + (0 : Int32)), z_this.2.2.2.2.2.2.2.2.2.1, z_this.2.2.2.2.2.2.2.2.2.2.1, z_this.2.2.2.2.2.2.2.2.2.2.2.1, z_this.2.2.2.2.2.2.2.2.2.2.2.2.1, z_this.2.2.2.2.2.2.2.2.2.2.2.2.2) x1 ((x2 * (10 : Int64)) + ((0 : Int32)).toInt64) x4 (1 : Int32) (x6 + (1 : Int32)) H locs ls (lv_sub hl [3, 4, 1, 5, 2, 0] rfl) hP hD hS hw
            · have hw := hw.2 hc
              refine lv_iconst (v := (1 : Int32)) hx hb d_Wd_splitNumber_195 (by decide) ?_
              refine lv_goto (tgt := 200) hx hb d_Wd_splitNumber_196 (by decide) ?_
              refine lv_iadd hx hb d_Wd_splitNumber_200 ?_
              refine va_put (D := D) (ci := 2) (v := .int (z_this.2.2.2.2.2.2.2.2.1 + (1 : Int32))) (ty := .int) (C := R_Wd) (T := F_Wd) (N := 15) hx hb hts in_Wd t_Wd t_Wd_ok n_Wd hown hK hP hD hS 0 rfl rfl 9 (by decide) (hts (.fieldLink R_Wd 37 R_Wd "scan" "I") kw1_106) (fun _ h9 => h9) rfl (by decide +kernel) rfl rfl (Nat.le_of_ble_eq_true rfl) d_Wd_splitNumber_201 (fun H locs hP hD hS => ?_)
              have hP : va_P D vwCl (w_Wd k ad_this q_this_keywords (z_this.1, z_this.2.1, z_this.2.2.1, z_this.2.2.2.1, z_this.2.2.2.2.1, z_this.2.2.2.2.2.1, z_this.2.2.2.2.2.2.1, z_this.2.2.2.2.2.2.2.1, (z_this.2.2.2.2.2.2.2.2.1 + (1 : Int32)), z_this.2.2.2.2.2.2.2.2.2.1, z_this.2.2.2.2.2.2.2.2.2.2.1, z_this.2.2.2.2.2.2.2.2.2.2.2.1, z_this.2.2.2.2.2.2.2.2.2.2.2.2.1, z_this.2.2.2.2.2.2.2.2.2.2.2.2.2)) H := hP
              have hD : va_D A (w_Wd k ad_this q_this_keywords (z_this.1, z_this.2.1, z_this.2.2.1, z_this.2.2.2.1, z_this.2.2.2.2.1, z_this.2.2.2.2.2.1, z_this.2.2.2.2.2.2.1, z_this.2.2.2.2.2.2.2.1, (z_this.2.2.2.2.2.2.2.2.1 + (1 : Int32)), z_this.2.2.2.2.2.2.2.2.2.1, z_this.2.2.2.2.2.2.2.2.2.2.1, z_this.2.2.2.2.2.2.2.2.2.2.2.1, z_this.2.2.2.2.2.2.2.2.2.2.2.2.1, z_this.2.2.2.2.2.2.2.2.2.2.2.2.2)) := hD
              refine lv_iinc (v := (x6 + (1 : Int32))) (lv' := [(6, .int (x6 + (1 : Int32))), (2, .long ((x2 * (10 : Int64)) + ((0 : Int32)).toInt64)), (5, .int (1 : Int32)), (0, .ref (ad_this 0)), (1, .int x1), (4, .int x4)]) hx hb d_Wd_splitNumber_204 hl (k := 5) rfl rfl (by decide) rfl (fun ls hl => ?_)
              refine lv_goto (tgt := 125) hx hb d_Wd_splitNumber_207 (by decide) ?_
              exact ih (z_this.1, z_this.2.1, z_this.2.2.1, z_this.2.2.2.1, z_this.2.2.2.2.1, z_this.2.2.2.2.2.1, z_this.2.2.2.2.2.2.1, z_this.2.2.2.2.2.2.2.1, (z_this.2.2.2.2.2.2.2.2.1 + (1 : Int32)), z_this.2.2.2.2.2.2.2.2.2.1, z_this.2.2.2.2.2.2.2.2.2.2.1, z_this.2.2.2.2.2.2.2.2.2.2.2.1, z_this.2.2.2.2.2.2.2.2.2.2.2.2.1, z_this.2.2.2.2.2.2.2.2.2.2.2.2.2) x1 ((x2 * (10 : Int64)) + ((0 : Int32)).toInt64) x4 (1 : Int32) (x6 + (1 : Int32)) H locs ls (lv_sub hl [3, 4, 1, 5, 2, 0] rfl) hP hD hS hw
          · have hw := hw.2 hc
            refine lv_aload_n hx hb d_Wd_splitNumber_167 rfl (lv_at hl 1 rfl) ?_
            refine lv_aload_n hx hb d_Wd_splitNumber_168 rfl (lv_at hl 1 rfl) ?_
            refine va_get (D := D) (ci := 2) (v := .int z_this.2.2.2.2.2.2.2.2.1) (C := R_Wd) (T := F_Wd) (N := 15) hx hb hts in_Wd hown hK hP 0 rfl rfl 9 (by decide) (hts (.fieldLink R_Wd 37 R_Wd "scan" "I") kw1_106) (fun _ h9 => h9) rfl d_Wd_splitNumber_169 ?_
            refine xq_go (wr := ([] : va_W)) (stk := fun r => .int r :: [.long (x2 * (10 : Int64))]) (xq_runV (As := [.int z_this.2.2.2.2.2.2.2.2.1]) (rest := [.long (x2 * (10 : Int64))]) ⟨hx, hb, hml, hown, hts⟩ (c_Wd_byteAt (l := l) (o := o) (D := D) (k := k) (ad_this := ad_this) (q_this_keywords := q_this_keywords) hw) (cw_Wd_byteAt hts kw2_87 ⟨Nat.le_of_ble_eq_true rfl, Nat.le_of_ble_eq_true rfl⟩) (va_recv hK hP (ci := 2) (q0 := 0) rfl rfl) (hP.sub [0, 1, 2, 3, 4, 5] rfl) hK hJ hS (va_free hD hS hA [0, 1, 2, 3, 4, 5] rfl) ((hD.sub [0, 1, 2, 3, 4, 5] (by decide) rfl).weaken (fun _ _ _ _ => trivial)) rfl hl.1 (Nat.le_of_ble_eq_true rfl) d_Wd_splitNumber_172 ⟨Nat.le_of_ble_eq_true rfl, Nat.le_of_ble_eq_true rfl⟩) hP hD hS hA [0, 1, 2, 3, 4, 5] [] rfl rfl (by decide) (by decide) (fun _ => rfl) (fun r9 u9 H locs hw hP hD hS => ?_) (fun _ _ _ _ h9 => h9.elim)
            have hP : va_P D vwCl (w_Wd k ad_this q_this_keywords z_this) H := hP.sub [0, 1, 2, 3, 4, 5] rfl
            have hD : va_D A (w_Wd k ad_this q_this_keywords z_this) := hD.sub [0, 1, 2, 3, 4, 5] (by decide) rfl
            refine lv_bipush (v := (48 : Int32)) hx hb d_Wd_splitNumber_175 (by decide) ?_
            refine lv_isub hx hb d_Wd_splitNumber_177 ?_
            refine lv_goto (tgt := 182) hx hb d_Wd_splitNumber_178 (by decide) ?_
            refine lv_i2l hx hb d_Wd_splitNumber_182 rfl ?_
            refine lv_ladd hx hb d_Wd_splitNumber_183 ?_
            refine lv_lstore_n (lv' := [(2, .long ((x2 * (10 : Int64)) + ((r9 - (48 : Int32))).toInt64)), (5, .int (1 : Int32)), (0, .ref (ad_this 0)), (1, .int x1), (4, .int x4), (6, .int x6)]) hx hb d_Wd_splitNumber_184 rfl hl (by decide) rfl (fun ls hl => ?_)
            refine lv_aload_n hx hb d_Wd_splitNumber_185 rfl (lv_at hl 2 rfl) ?_
            refine lv_dup hx hb d_Wd_splitNumber_186 rfl ?_
            refine va_get (D := D) (ci := 2) (v := .int z_this.2.2.2.2.2.2.2.2.1) (C := R_Wd) (T := F_Wd) (N := 15) hx hb hts in_Wd hown hK hP 0 rfl rfl 9 (by decide) (hts (.fieldLink R_Wd 37 R_Wd "scan" "I") kw1_106) (fun _ h9 => h9) rfl d_Wd_splitNumber_187 ?_
            refine lv_iload hx hb d_Wd_splitNumber_190 (lv_at hl 1 rfl) ?_
            refine lv_if_eq (tgt := 199) hx hb d_Wd_splitNumber_192 (by decide) (fun hc => ?_) (fun hc => ?_)
            · have hw := hw.1 hc
              refine lv_iconst (v := (0 : Int32)) hx hb d_Wd_splitNumber_199 (by decide) ?_
              refine lv_iadd hx hb d_Wd_splitNumber_200 ?_
              refine va_put (D := D) (ci := 2) (v := .int (z_this.2.2.2.2.2.2.2.2.1 + (0 : Int32))) (ty := .int) (C := R_Wd) (T := F_Wd) (N := 15) hx hb hts in_Wd t_Wd t_Wd_ok n_Wd hown hK hP hD hS 0 rfl rfl 9 (by decide) (hts (.fieldLink R_Wd 37 R_Wd "scan" "I") kw1_106) (fun _ h9 => h9) rfl (by decide +kernel) rfl rfl (Nat.le_of_ble_eq_true rfl) d_Wd_splitNumber_201 (fun H locs hP hD hS => ?_)
              have hP : va_P D vwCl (w_Wd k ad_this q_this_keywords (z_this.1, z_this.2.1, z_this.2.2.1, z_this.2.2.2.1, z_this.2.2.2.2.1, z_this.2.2.2.2.2.1, z_this.2.2.2.2.2.2.1, z_this.2.2.2.2.2.2.2.1, (z_this.2.2.2.2.2.2.2.2.1 + (0 : Int32)), z_this.2.2.2.2.2.2.2.2.2.1, z_this.2.2.2.2.2.2.2.2.2.2.1, z_this.2.2.2.2.2.2.2.2.2.2.2.1, z_this.2.2.2.2.2.2.2.2.2.2.2.2.1, z_this.2.2.2.2.2.2.2.2.2.2.2.2.2)) H := hP
              have hD : va_D A (w_Wd k ad_this q_this_keywords (z_this.1, z_this.2.1, z_this.2.2.1, z_this.2.2.2.1, z_this.2.2.2.2.1, z_this.2.2.2.2.2.1, z_this.2.2.2.2.2.2.1, z_this.2.2.2.2.2.2.2.1, (z_this.2.2.2.2.2.2.2.2.1 + (0 : Int32)), z_this.2.2.2.2.2.2.2.2.2.1, z_this.2.2.2.2.2.2.2.2.2.2.1, z_this.2.2.2.2.2.2.2.2.2.2.2.1, z_this.2.2.2.2.2.2.2.2.2.2.2.2.1, z_this.2.2.2.2.2.2.2.2.2.2.2.2.2)) := hD
              refine lv_iinc (v := (x6 + (1 : Int32))) (lv' := [(6, .int (x6 + (1 : Int32))), (2, .long ((x2 * (10 : Int64)) + ((r9 - (48 : Int32))).toInt64)), (5, .int (1 : Int32)), (0, .ref (ad_this 0)), (1, .int x1), (4, .int x4)]) hx hb d_Wd_splitNumber_204 hl (k := 5) rfl rfl (by decide) rfl (fun ls hl => ?_)
              refine lv_goto (tgt := 125) hx hb d_Wd_splitNumber_207 (by decide) ?_
              exact ih (z_this.1, z_this.2.1, z_this.2.2.1, z_this.2.2.2.1, z_this.2.2.2.2.1, z_this.2.2.2.2.2.1, z_this.2.2.2.2.2.2.1, z_this.2.2.2.2.2.2.2.1, (z_this.2.2.2.2.2.2.2.2.1 + (0 : Int32)), z_this.2.2.2.2.2.2.2.2.2.1, z_this.2.2.2.2.2.2.2.2.2.2.1, z_this.2.2.2.2.2.2.2.2.2.2.2.1, z_this.2.2.2.2.2.2.2.2.2.2.2.2.1, z_this.2.2.2.2.2.2.2.2.2.2.2.2.2) x1 ((x2 * (10 : Int64)) + ((r9 - (48 : Int32))).toInt64) x4 (1 : Int32) (x6 + (1 : Int32)) H locs ls (lv_sub hl [3, 4, 1, 5, 2, 0] rfl) hP hD hS hw
            · have hw := hw.2 hc
              refine lv_iconst (v := (1 : Int32)) hx hb d_Wd_splitNumber_195 (by decide) ?_
              refine lv_goto (tgt := 200) hx hb d_Wd_splitNumber_196 (by decide) ?_
              refine lv_iadd hx hb d_Wd_splitNumber_200 ?_
              refine va_put (D := D) (ci := 2) (v := .int (z_this.2.2.2.2.2.2.2.2.1 + (1 : Int32))) (ty := .int) (C := R_Wd) (T := F_Wd) (N := 15) hx hb hts in_Wd t_Wd t_Wd_ok n_Wd hown hK hP hD hS 0 rfl rfl 9 (by decide) (hts (.fieldLink R_Wd 37 R_Wd "scan" "I") kw1_106) (fun _ h9 => h9) rfl (by decide +kernel) rfl rfl (Nat.le_of_ble_eq_true rfl) d_Wd_splitNumber_201 (fun H locs hP hD hS => ?_)
              have hP : va_P D vwCl (w_Wd k ad_this q_this_keywords (z_this.1, z_this.2.1, z_this.2.2.1, z_this.2.2.2.1, z_this.2.2.2.2.1, z_this.2.2.2.2.2.1, z_this.2.2.2.2.2.2.1, z_this.2.2.2.2.2.2.2.1, (z_this.2.2.2.2.2.2.2.2.1 + (1 : Int32)), z_this.2.2.2.2.2.2.2.2.2.1, z_this.2.2.2.2.2.2.2.2.2.2.1, z_this.2.2.2.2.2.2.2.2.2.2.2.1, z_this.2.2.2.2.2.2.2.2.2.2.2.2.1, z_this.2.2.2.2.2.2.2.2.2.2.2.2.2)) H := hP
              have hD : va_D A (w_Wd k ad_this q_this_keywords (z_this.1, z_this.2.1, z_this.2.2.1, z_this.2.2.2.1, z_this.2.2.2.2.1, z_this.2.2.2.2.2.1, z_this.2.2.2.2.2.2.1, z_this.2.2.2.2.2.2.2.1, (z_this.2.2.2.2.2.2.2.2.1 + (1 : Int32)), z_this.2.2.2.2.2.2.2.2.2.1, z_this.2.2.2.2.2.2.2.2.2.2.1, z_this.2.2.2.2.2.2.2.2.2.2.2.1, z_this.2.2.2.2.2.2.2.2.2.2.2.2.1, z_this.2.2.2.2.2.2.2.2.2.2.2.2.2)) := hD
              refine lv_iinc (v := (x6 + (1 : Int32))) (lv' := [(6, .int (x6 + (1 : Int32))), (2, .long ((x2 * (10 : Int64)) + ((r9 - (48 : Int32))).toInt64)), (5, .int (1 : Int32)), (0, .ref (ad_this 0)), (1, .int x1), (4, .int x4)]) hx hb d_Wd_splitNumber_204 hl (k := 5) rfl rfl (by decide) rfl (fun ls hl => ?_)
              refine lv_goto (tgt := 125) hx hb d_Wd_splitNumber_207 (by decide) ?_
              exact ih (z_this.1, z_this.2.1, z_this.2.2.1, z_this.2.2.2.1, z_this.2.2.2.2.1, z_this.2.2.2.2.2.1, z_this.2.2.2.2.2.2.1, z_this.2.2.2.2.2.2.2.1, (z_this.2.2.2.2.2.2.2.2.1 + (1 : Int32)), z_this.2.2.2.2.2.2.2.2.2.1, z_this.2.2.2.2.2.2.2.2.2.2.1, z_this.2.2.2.2.2.2.2.2.2.2.2.1, z_this.2.2.2.2.2.2.2.2.2.2.2.2.1, z_this.2.2.2.2.2.2.2.2.2.2.2.2.2) x1 ((x2 * (10 : Int64)) + ((r9 - (48 : Int32))).toInt64) x4 (1 : Int32) (x6 + (1 : Int32)) H locs ls (lv_sub hl [3, 4, 1, 5, 2, 0] rfl) hP hD hS hw
set_option maxHeartbeats 4000000 in
set_option maxRecDepth 100000 in
theorem c_Wd_splitNumber {l : Launch} {o : State × Array Value} {D : va_G} {k : Nat → ClassId} {ad_this : Nat → Nat} {q_this_keywords : Nat} {z_this : T_Wd} {post : Int32 → T_Wd → Prop} (hw : wp_Wd_splitNumber z_this post) : xq_C l o y_Wd_splitNumber (.code y_Wd_splitNumber prog_8_method_9_code 7 (some (.boolean)) :: xq_W) rm_Wd_splitNumber D vwCl (xt k) [.ref (ad_this 0)] (w_Wd k ad_this q_this_keywords z_this) (fun r : Int32 => some (.int r)) post (fun _ : T_Wd => False) (fun u : T_Wd => w_Wd k ad_this q_this_keywords u) 0 0 0 0 := by
  refine xq_ofW (cc := prog_8_method_9_code) (maxL := 7) (ret := (some (.boolean))) (by decide) rfl (Nat.le_of_ble_eq_true rfl) ?_
  intro p e s m below meth c ls H locs A hAt hAe hA hl hK hJ hP0 hP hD hS
  obtain ⟨hx, hb, hml, hr, hlocks, hown, hts, hex, hnm⟩ := id hAt
  have hl : lv_has ls 7 [(0, .ref (ad_this 0))] := hl
  unfold wp_Wd_splitNumber at hw
  refine lv_aload_n hx hb d_Wd_splitNumber_0 rfl (lv_at hl 0 rfl) ?_
  refine va_get (D := D) (ci := 2) (v := .int z_this.2.2.2.2.2.2.2.2.1) (C := R_Wd) (T := F_Wd) (N := 15) hx hb hts in_Wd hown hK hP 0 rfl rfl 9 (by decide) (hts (.fieldLink R_Wd 37 R_Wd "scan" "I") kw1_106) (fun _ h9 => h9) rfl d_Wd_splitNumber_1 ?_
  refine lv_istore_n (lv' := [(1, .int z_this.2.2.2.2.2.2.2.2.1), (0, .ref (ad_this 0))]) hx hb d_Wd_splitNumber_4 rfl hl (by decide) rfl (fun ls hl => ?_)
  refine lv_lconst (v := (0 : Int64)) hx hb d_Wd_splitNumber_5 (by decide) ?_
  refine lv_lstore_n (lv' := [(2, .long (0 : Int64)), (1, .int z_this.2.2.2.2.2.2.2.2.1), (0, .ref (ad_this 0))]) hx hb d_Wd_splitNumber_6 rfl hl (by decide) rfl (fun ls hl => ?_)
  refine lv_iconst (v := (0 : Int32)) hx hb d_Wd_splitNumber_7 (by decide) ?_
  refine lv_istore (lv' := [(4, .int (0 : Int32)), (2, .long (0 : Int64)), (1, .int z_this.2.2.2.2.2.2.2.2.1), (0, .ref (ad_this 0))]) hx hb d_Wd_splitNumber_8 hl (by decide) rfl (fun ls hl => ?_)
  obtain ⟨k9, hw⟩ := hw
  refine t_Wd_splitNumber_L10 hAt hK hJ hAe hA ?_ k9 z_this z_this.2.2.2.2.2.2.2.2.1 (0 : Int64) (0 : Int32) H locs ls (lv_sub hl [3, 2, 1, 0] rfl) hP hD hS hw
  intro z_this x1 x2 x4 H locs ls hl hP hD hS hw
  refine lv_aload_n hx hb d_Wd_splitNumber_67 rfl (lv_at hl 0 rfl) ?_
  refine lv_aload_n hx hb d_Wd_splitNumber_68 rfl (lv_at hl 0 rfl) ?_
  refine va_get (D := D) (ci := 2) (v := .int z_this.2.2.2.2.2.2.2.2.1) (C := R_Wd) (T := F_Wd) (N := 15) hx hb hts in_Wd hown hK hP 0 rfl rfl 9 (by decide) (hts (.fieldLink R_Wd 37 R_Wd "scan" "I") kw1_106) (fun _ h9 => h9) rfl d_Wd_splitNumber_69 ?_
  refine xq_go (wr := ([] : va_W)) (stk := fun r => .int r :: []) (xq_runV (As := [.int z_this.2.2.2.2.2.2.2.2.1]) (rest := []) ⟨hx, hb, hml, hown, hts⟩ (c_Wd_byteAt (l := l) (o := o) (D := D) (k := k) (ad_this := ad_this) (q_this_keywords := q_this_keywords) hw) (cw_Wd_byteAt hts kw2_87 ⟨Nat.le_of_ble_eq_true rfl, Nat.le_of_ble_eq_true rfl⟩) (va_recv hK hP (ci := 2) (q0 := 0) rfl rfl) (hP.sub [0, 1, 2, 3, 4, 5] rfl) hK hJ hS (va_free hD hS hA [0, 1, 2, 3, 4, 5] rfl) ((hD.sub [0, 1, 2, 3, 4, 5] (by decide) rfl).weaken (fun _ _ _ _ => trivial)) rfl hl.1 (Nat.le_of_ble_eq_true rfl) d_Wd_splitNumber_72 ⟨Nat.le_of_ble_eq_true rfl, Nat.le_of_ble_eq_true rfl⟩) hP hD hS hA [0, 1, 2, 3, 4, 5] [] rfl rfl (by decide) (by decide) (fun _ => rfl) (fun r4 u4 H locs hw hP hD hS => ?_) (fun _ _ _ _ h9 => h9.elim)
  have hP : va_P D vwCl (w_Wd k ad_this q_this_keywords z_this) H := hP.sub [0, 1, 2, 3, 4, 5] rfl
  have hD : va_D A (w_Wd k ad_this q_this_keywords z_this) := hD.sub [0, 1, 2, 3, 4, 5] (by decide) rfl
  refine lv_bipush (v := (46 : Int32)) hx hb d_Wd_splitNumber_75 (by decide) ?_
  refine lv_icmp_ne (tgt := 100) hx hb d_Wd_splitNumber_77 (by decide) (fun hc => ?_) (fun hc => ?_)
  · have hw := hw.2 hc
    refine lv_iconst (v := (0 : Int32)) hx hb d_Wd_splitNumber_100 (by decide) ?_
    refine lv_istore (lv' := [(4, .int (0 : Int32)), (0, .ref (ad_this 0)), (1, .int x1), (2, .long x2)]) hx hb d_Wd_splitNumber_101 hl (by decide) rfl (fun ls hl => ?_)
    refine lv_iload hx hb d_Wd_splitNumber_103 (lv_at hl 0 rfl) ?_
    refine lv_if_eq (tgt := 118) hx hb d_Wd_splitNumber_105 (by decide) (fun hc => ?_) (fun hc => ?_)
    · have hw := hw.1 hc
      refine lv_iload hx hb d_Wd_splitNumber_118 (lv_at hl 0 rfl) ?_
      refine lv_istore (lv' := [(5, .int (0 : Int32)), (4, .int (0 : Int32)), (0, .ref (ad_this 0)), (1, .int x1), (2, .long x2)]) hx hb d_Wd_splitNumber_120 hl (by decide) rfl (fun ls hl => ?_)
      refine lv_iconst (v := (0 : Int32)) hx hb d_Wd_splitNumber_122 (by decide) ?_
      refine lv_istore (lv' := [(6, .int (0 : Int32)), (5, .int (0 : Int32)), (4, .int (0 : Int32)), (0, .ref (ad_this 0)), (1, .int x1), (2, .long x2)]) hx hb d_Wd_splitNumber_123 hl (by decide) rfl (fun ls hl => ?_)
      obtain ⟨k9, hw⟩ := hw
      refine t_Wd_splitNumber_L125 hAt hK hJ hAe hA ?_ k9 z_this x1 x2 (0 : Int32) (0 : Int32) (0 : Int32) H locs ls (lv_sub hl [3, 4, 5, 2, 1, 0] rfl) hP hD hS hw
      intro z_this x1 x2 x4 x5 x6 H locs ls hl hP hD hS hw
      refine lv_aload_n hx hb d_Wd_splitNumber_210 rfl (lv_at hl 0 rfl) ?_
      refine lv_iload hx hb d_Wd_splitNumber_211 (lv_at hl 3 rfl) ?_
      refine lv_if_eq (tgt := 222) hx hb d_Wd_splitNumber_213 (by decide) (fun hc => ?_) (fun hc => ?_)
      · have hw := hw.1 hc
        refine lv_sipush (v := (129 : Int32)) hx hb d_Wd_splitNumber_222 (by decide) ?_
        refine lv_iload_n hx hb d_Wd_splitNumber_225 rfl (lv_at hl 1 rfl) ?_
        refine lv_lload_n hx hb d_Wd_splitNumber_226 rfl (lv_at hl 2 rfl) ?_
        refine xq_go (wr := ([] : va_W)) (stk := fun r => .int r :: []) (xq_runV (As := [.int (129 : Int32), .int x1, .long x2]) (rest := []) ⟨hx, hb, hml, hown, hts⟩ (c_Wd_keepJoined (l := l) (o := o) (D := D) (k := k) (ad_this := ad_this) (q_this_keywords := q_this_keywords) hw) (cw_Wd_keepJoined hts kw2_107 ⟨Nat.le_of_ble_eq_true rfl, Nat.le_of_ble_eq_true rfl⟩) (va_recv hK hP (ci := 2) (q0 := 0) rfl rfl) (hP.sub [0, 1, 2, 3, 4, 5] rfl) hK hJ hS (va_free hD hS hA [0, 1, 2, 3, 4, 5] rfl) ((hD.sub [0, 1, 2, 3, 4, 5] (by decide) rfl).weaken (fun _ _ _ _ => trivial)) rfl hl.1 (Nat.le_of_ble_eq_true rfl) d_Wd_splitNumber_227 ⟨Nat.le_of_ble_eq_true rfl, Nat.le_of_ble_eq_true rfl⟩) hP hD hS hA [0, 1, 2, 3, 4, 5] [] rfl rfl (by decide) (by decide) (fun _ => rfl) (fun r10 u10 H locs hw hP hD hS => ?_) (fun _ _ _ _ h9 => h9.elim)
        have hP : va_P D vwCl (w_Wd k ad_this q_this_keywords u10) H := hP.sub [0, 1, 2, 3, 4, 5] rfl
        have hD : va_D A (w_Wd k ad_this q_this_keywords u10) := hD.sub [0, 1, 2, 3, 4, 5] (by decide) rfl
        exact xq_zret (r := r10) (u := u10) hx hb hr hlocks hAe hP hD hS rfl hw.1 hw.2 (Nat.le_of_ble_eq_true rfl) (Nat.le_of_ble_eq_true rfl) d_Wd_splitNumber_230
      · have hw := hw.2 hc
        refine lv_sipush (v := (130 : Int32)) hx hb d_Wd_splitNumber_216 (by decide) ?_
        refine lv_goto (tgt := 225) hx hb d_Wd_splitNumber_219 (by decide) ?_
        refine lv_iload_n hx hb d_Wd_splitNumber_225 rfl (lv_at hl 1 rfl) ?_
        refine lv_lload_n hx hb d_Wd_splitNumber_226 rfl (lv_at hl 2 rfl) ?_
        refine xq_go (wr := ([] : va_W)) (stk := fun r => .int r :: []) (xq_runV (As := [.int (130 : Int32), .int x1, .long x2]) (rest := []) ⟨hx, hb, hml, hown, hts⟩ (c_Wd_keepJoined (l := l) (o := o) (D := D) (k := k) (ad_this := ad_this) (q_this_keywords := q_this_keywords) hw) (cw_Wd_keepJoined hts kw2_107 ⟨Nat.le_of_ble_eq_true rfl, Nat.le_of_ble_eq_true rfl⟩) (va_recv hK hP (ci := 2) (q0 := 0) rfl rfl) (hP.sub [0, 1, 2, 3, 4, 5] rfl) hK hJ hS (va_free hD hS hA [0, 1, 2, 3, 4, 5] rfl) ((hD.sub [0, 1, 2, 3, 4, 5] (by decide) rfl).weaken (fun _ _ _ _ => trivial)) rfl hl.1 (Nat.le_of_ble_eq_true rfl) d_Wd_splitNumber_227 ⟨Nat.le_of_ble_eq_true rfl, Nat.le_of_ble_eq_true rfl⟩) hP hD hS hA [0, 1, 2, 3, 4, 5] [] rfl rfl (by decide) (by decide) (fun _ => rfl) (fun r11 u11 H locs hw hP hD hS => ?_) (fun _ _ _ _ h9 => h9.elim)
        have hP : va_P D vwCl (w_Wd k ad_this q_this_keywords u11) H := hP.sub [0, 1, 2, 3, 4, 5] rfl
        have hD : va_D A (w_Wd k ad_this q_this_keywords u11) := hD.sub [0, 1, 2, 3, 4, 5] (by decide) rfl
        exact xq_zret (r := r11) (u := u11) hx hb hr hlocks hAe hP hD hS rfl hw.1 hw.2 (Nat.le_of_ble_eq_true rfl) (Nat.le_of_ble_eq_true rfl) d_Wd_splitNumber_230
    · have hw := hw.2 hc
      refine lv_aload_n hx hb d_Wd_splitNumber_108 rfl (lv_at hl 1 rfl) ?_
      refine lv_dup hx hb d_Wd_splitNumber_109 rfl ?_
      refine va_get (D := D) (ci := 2) (v := .int z_this.2.2.2.2.2.2.2.2.1) (C := R_Wd) (T := F_Wd) (N := 15) hx hb hts in_Wd hown hK hP 0 rfl rfl 9 (by decide) (hts (.fieldLink R_Wd 37 R_Wd "scan" "I") kw1_106) (fun _ h9 => h9) rfl d_Wd_splitNumber_110 ?_
      refine lv_iconst (v := (1 : Int32)) hx hb d_Wd_splitNumber_113 (by decide) ?_
      refine lv_iadd hx hb d_Wd_splitNumber_114 ?_
      refine va_put (D := D) (ci := 2) (v := .int (z_this.2.2.2.2.2.2.2.2.1 + (1 : Int32))) (ty := .int) (C := R_Wd) (T := F_Wd) (N := 15) hx hb hts in_Wd t_Wd t_Wd_ok n_Wd hown hK hP hD hS 0 rfl rfl 9 (by decide) (hts (.fieldLink R_Wd 37 R_Wd "scan" "I") kw1_106) (fun _ h9 => h9) rfl (by decide +kernel) rfl rfl (Nat.le_of_ble_eq_true rfl) d_Wd_splitNumber_115 (fun H locs hP hD hS => ?_)
      have hP : va_P D vwCl (w_Wd k ad_this q_this_keywords (z_this.1, z_this.2.1, z_this.2.2.1, z_this.2.2.2.1, z_this.2.2.2.2.1, z_this.2.2.2.2.2.1, z_this.2.2.2.2.2.2.1, z_this.2.2.2.2.2.2.2.1, (z_this.2.2.2.2.2.2.2.2.1 + (1 : Int32)), z_this.2.2.2.2.2.2.2.2.2.1, z_this.2.2.2.2.2.2.2.2.2.2.1, z_this.2.2.2.2.2.2.2.2.2.2.2.1, z_this.2.2.2.2.2.2.2.2.2.2.2.2.1, z_this.2.2.2.2.2.2.2.2.2.2.2.2.2)) H := hP
      have hD : va_D A (w_Wd k ad_this q_this_keywords (z_this.1, z_this.2.1, z_this.2.2.1, z_this.2.2.2.1, z_this.2.2.2.2.1, z_this.2.2.2.2.2.1, z_this.2.2.2.2.2.2.1, z_this.2.2.2.2.2.2.2.1, (z_this.2.2.2.2.2.2.2.2.1 + (1 : Int32)), z_this.2.2.2.2.2.2.2.2.2.1, z_this.2.2.2.2.2.2.2.2.2.2.1, z_this.2.2.2.2.2.2.2.2.2.2.2.1, z_this.2.2.2.2.2.2.2.2.2.2.2.2.1, z_this.2.2.2.2.2.2.2.2.2.2.2.2.2)) := hD
      refine lv_iload hx hb d_Wd_splitNumber_118 (lv_at hl 0 rfl) ?_
      refine lv_istore (lv' := [(5, .int (0 : Int32)), (4, .int (0 : Int32)), (0, .ref (ad_this 0)), (1, .int x1), (2, .long x2)]) hx hb d_Wd_splitNumber_120 hl (by decide) rfl (fun ls hl => ?_)
      refine lv_iconst (v := (0 : Int32)) hx hb d_Wd_splitNumber_122 (by decide) ?_
      refine lv_istore (lv' := [(6, .int (0 : Int32)), (5, .int (0 : Int32)), (4, .int (0 : Int32)), (0, .ref (ad_this 0)), (1, .int x1), (2, .long x2)]) hx hb d_Wd_splitNumber_123 hl (by decide) rfl (fun ls hl => ?_)
      obtain ⟨k9, hw⟩ := hw
      refine t_Wd_splitNumber_L125 hAt hK hJ hAe hA ?_ k9 (z_this.1, z_this.2.1, z_this.2.2.1, z_this.2.2.2.1, z_this.2.2.2.2.1, z_this.2.2.2.2.2.1, z_this.2.2.2.2.2.2.1, z_this.2.2.2.2.2.2.2.1, (z_this.2.2.2.2.2.2.2.2.1 + (1 : Int32)), z_this.2.2.2.2.2.2.2.2.2.1, z_this.2.2.2.2.2.2.2.2.2.2.1, z_this.2.2.2.2.2.2.2.2.2.2.2.1, z_this.2.2.2.2.2.2.2.2.2.2.2.2.1, z_this.2.2.2.2.2.2.2.2.2.2.2.2.2) x1 x2 (0 : Int32) (0 : Int32) (0 : Int32) H locs ls (lv_sub hl [3, 4, 5, 2, 1, 0] rfl) hP hD hS hw
      intro z_this x1 x2 x4 x5 x6 H locs ls hl hP hD hS hw
      refine lv_aload_n hx hb d_Wd_splitNumber_210 rfl (lv_at hl 0 rfl) ?_
      refine lv_iload hx hb d_Wd_splitNumber_211 (lv_at hl 3 rfl) ?_
      refine lv_if_eq (tgt := 222) hx hb d_Wd_splitNumber_213 (by decide) (fun hc => ?_) (fun hc => ?_)
      · have hw := hw.1 hc
        refine lv_sipush (v := (129 : Int32)) hx hb d_Wd_splitNumber_222 (by decide) ?_
        refine lv_iload_n hx hb d_Wd_splitNumber_225 rfl (lv_at hl 1 rfl) ?_
        refine lv_lload_n hx hb d_Wd_splitNumber_226 rfl (lv_at hl 2 rfl) ?_
        refine xq_go (wr := ([] : va_W)) (stk := fun r => .int r :: []) (xq_runV (As := [.int (129 : Int32), .int x1, .long x2]) (rest := []) ⟨hx, hb, hml, hown, hts⟩ (c_Wd_keepJoined (l := l) (o := o) (D := D) (k := k) (ad_this := ad_this) (q_this_keywords := q_this_keywords) hw) (cw_Wd_keepJoined hts kw2_107 ⟨Nat.le_of_ble_eq_true rfl, Nat.le_of_ble_eq_true rfl⟩) (va_recv hK hP (ci := 2) (q0 := 0) rfl rfl) (hP.sub [0, 1, 2, 3, 4, 5] rfl) hK hJ hS (va_free hD hS hA [0, 1, 2, 3, 4, 5] rfl) ((hD.sub [0, 1, 2, 3, 4, 5] (by decide) rfl).weaken (fun _ _ _ _ => trivial)) rfl hl.1 (Nat.le_of_ble_eq_true rfl) d_Wd_splitNumber_227 ⟨Nat.le_of_ble_eq_true rfl, Nat.le_of_ble_eq_true rfl⟩) hP hD hS hA [0, 1, 2, 3, 4, 5] [] rfl rfl (by decide) (by decide) (fun _ => rfl) (fun r12 u12 H locs hw hP hD hS => ?_) (fun _ _ _ _ h9 => h9.elim)
        have hP : va_P D vwCl (w_Wd k ad_this q_this_keywords u12) H := hP.sub [0, 1, 2, 3, 4, 5] rfl
        have hD : va_D A (w_Wd k ad_this q_this_keywords u12) := hD.sub [0, 1, 2, 3, 4, 5] (by decide) rfl
        exact xq_zret (r := r12) (u := u12) hx hb hr hlocks hAe hP hD hS rfl hw.1 hw.2 (Nat.le_of_ble_eq_true rfl) (Nat.le_of_ble_eq_true rfl) d_Wd_splitNumber_230
      · have hw := hw.2 hc
        refine lv_sipush (v := (130 : Int32)) hx hb d_Wd_splitNumber_216 (by decide) ?_
        refine lv_goto (tgt := 225) hx hb d_Wd_splitNumber_219 (by decide) ?_
        refine lv_iload_n hx hb d_Wd_splitNumber_225 rfl (lv_at hl 1 rfl) ?_
        refine lv_lload_n hx hb d_Wd_splitNumber_226 rfl (lv_at hl 2 rfl) ?_
        refine xq_go (wr := ([] : va_W)) (stk := fun r => .int r :: []) (xq_runV (As := [.int (130 : Int32), .int x1, .long x2]) (rest := []) ⟨hx, hb, hml, hown, hts⟩ (c_Wd_keepJoined (l := l) (o := o) (D := D) (k := k) (ad_this := ad_this) (q_this_keywords := q_this_keywords) hw) (cw_Wd_keepJoined hts kw2_107 ⟨Nat.le_of_ble_eq_true rfl, Nat.le_of_ble_eq_true rfl⟩) (va_recv hK hP (ci := 2) (q0 := 0) rfl rfl) (hP.sub [0, 1, 2, 3, 4, 5] rfl) hK hJ hS (va_free hD hS hA [0, 1, 2, 3, 4, 5] rfl) ((hD.sub [0, 1, 2, 3, 4, 5] (by decide) rfl).weaken (fun _ _ _ _ => trivial)) rfl hl.1 (Nat.le_of_ble_eq_true rfl) d_Wd_splitNumber_227 ⟨Nat.le_of_ble_eq_true rfl, Nat.le_of_ble_eq_true rfl⟩) hP hD hS hA [0, 1, 2, 3, 4, 5] [] rfl rfl (by decide) (by decide) (fun _ => rfl) (fun r13 u13 H locs hw hP hD hS => ?_) (fun _ _ _ _ h9 => h9.elim)
        have hP : va_P D vwCl (w_Wd k ad_this q_this_keywords u13) H := hP.sub [0, 1, 2, 3, 4, 5] rfl
        have hD : va_D A (w_Wd k ad_this q_this_keywords u13) := hD.sub [0, 1, 2, 3, 4, 5] (by decide) rfl
        exact xq_zret (r := r13) (u := u13) hx hb hr hlocks hAe hP hD hS rfl hw.1 hw.2 (Nat.le_of_ble_eq_true rfl) (Nat.le_of_ble_eq_true rfl) d_Wd_splitNumber_230
  · have hw := hw.1 hc
    refine lv_aload_n hx hb d_Wd_splitNumber_80 rfl (lv_at hl 0 rfl) ?_
    refine lv_aload_n hx hb d_Wd_splitNumber_81 rfl (lv_at hl 0 rfl) ?_
    refine va_get (D := D) (ci := 2) (v := .int z_this.2.2.2.2.2.2.2.2.1) (C := R_Wd) (T := F_Wd) (N := 15) hx hb hts in_Wd hown hK hP 0 rfl rfl 9 (by decide) (hts (.fieldLink R_Wd 37 R_Wd "scan" "I") kw1_106) (fun _ h9 => h9) rfl d_Wd_splitNumber_82 ?_
    refine lv_iconst (v := (1 : Int32)) hx hb d_Wd_splitNumber_85 (by decide) ?_
    refine lv_iadd hx hb d_Wd_splitNumber_86 ?_
    refine xq_go (wr := ([] : va_W)) (stk := fun r => .int r :: []) (xq_runV (As := [.int (z_this.2.2.2.2.2.2.2.2.1 + (1 : Int32))]) (rest := []) ⟨hx, hb, hml, hown, hts⟩ (c_Wd_byteAt (l := l) (o := o) (D := D) (k := k) (ad_this := ad_this) (q_this_keywords := q_this_keywords) hw) (cw_Wd_byteAt hts kw2_87 ⟨Nat.le_of_ble_eq_true rfl, Nat.le_of_ble_eq_true rfl⟩) (va_recv hK hP (ci := 2) (q0 := 0) rfl rfl) (hP.sub [0, 1, 2, 3, 4, 5] rfl) hK hJ hS (va_free hD hS hA [0, 1, 2, 3, 4, 5] rfl) ((hD.sub [0, 1, 2, 3, 4, 5] (by decide) rfl).weaken (fun _ _ _ _ => trivial)) rfl hl.1 (Nat.le_of_ble_eq_true rfl) d_Wd_splitNumber_87 ⟨Nat.le_of_ble_eq_true rfl, Nat.le_of_ble_eq_true rfl⟩) hP hD hS hA [0, 1, 2, 3, 4, 5] [] rfl rfl (by decide) (by decide) (fun _ => rfl) (fun r14 u14 H locs hw hP hD hS => ?_) (fun _ _ _ _ h9 => h9.elim)
    have hP : va_P D vwCl (w_Wd k ad_this q_this_keywords z_this) H := hP.sub [0, 1, 2, 3, 4, 5] rfl
    have hD : va_D A (w_Wd k ad_this q_this_keywords z_this) := hD.sub [0, 1, 2, 3, 4, 5] (by decide) rfl
    refine xq_go (wr := w_Wd k ad_this q_this_keywords z_this) (stk := fun r => .int r :: []) (xq_runS (As := [.int r14]) (rest := []) ⟨hx, hb, hml, hown, hts⟩ (c_Wd_isDigit (l := l) (o := o) (D := D) (k := k) hw) (cs_Wd_isDigit hts kw2_98 ⟨Nat.le_of_ble_eq_true rfl, Nat.le_of_ble_eq_true rfl⟩) (hP.sub [] rfl) hK hJ hS (va_free hD hS hA [] rfl) ((hD.sub [] (by decide) rfl).weaken (fun _ _ _ _ => trivial)) rfl hl.1 (Nat.le_of_ble_eq_true rfl) d_Wd_splitNumber_90 ⟨Nat.le_of_ble_eq_true rfl, Nat.le_of_ble_eq_true rfl⟩) hP hD hS hA [] [0, 1, 2, 3, 4, 5] rfl rfl (by decide) (by decide) (fun _ => rfl) (fun r15 u15 H locs hw hP hD hS => ?_) (fun _ _ _ _ h9 => h9.elim)
    have hP : va_P D vwCl (w_Wd k ad_this q_this_keywords z_this) H := hP.sub [0, 1, 2, 3, 4, 5] rfl
    have hD : va_D A (w_Wd k ad_this q_this_keywords z_this) := hD.sub [0, 1, 2, 3, 4, 5] (by decide) rfl
    refine lv_if_eq (tgt := 100) hx hb d_Wd_splitNumber_93 (by decide) (fun hc => ?_) (fun hc => ?_)
    · have hw := hw.1 hc
      refine lv_iconst (v := (0 : Int32)) hx hb d_Wd_splitNumber_100 (by decide) ?_
      refine lv_istore (lv' := [(4, .int (0 : Int32)), (0, .ref (ad_this 0)), (1, .int x1), (2, .long x2)]) hx hb d_Wd_splitNumber_101 hl (by decide) rfl (fun ls hl => ?_)
      refine lv_iload hx hb d_Wd_splitNumber_103 (lv_at hl 0 rfl) ?_
      refine lv_if_eq (tgt := 118) hx hb d_Wd_splitNumber_105 (by decide) (fun hc => ?_) (fun hc => ?_)
      · have hw := hw.1 hc
        refine lv_iload hx hb d_Wd_splitNumber_118 (lv_at hl 0 rfl) ?_
        refine lv_istore (lv' := [(5, .int (0 : Int32)), (4, .int (0 : Int32)), (0, .ref (ad_this 0)), (1, .int x1), (2, .long x2)]) hx hb d_Wd_splitNumber_120 hl (by decide) rfl (fun ls hl => ?_)
        refine lv_iconst (v := (0 : Int32)) hx hb d_Wd_splitNumber_122 (by decide) ?_
        refine lv_istore (lv' := [(6, .int (0 : Int32)), (5, .int (0 : Int32)), (4, .int (0 : Int32)), (0, .ref (ad_this 0)), (1, .int x1), (2, .long x2)]) hx hb d_Wd_splitNumber_123 hl (by decide) rfl (fun ls hl => ?_)
        obtain ⟨k9, hw⟩ := hw
        refine t_Wd_splitNumber_L125 hAt hK hJ hAe hA ?_ k9 z_this x1 x2 (0 : Int32) (0 : Int32) (0 : Int32) H locs ls (lv_sub hl [3, 4, 5, 2, 1, 0] rfl) hP hD hS hw
        intro z_this x1 x2 x4 x5 x6 H locs ls hl hP hD hS hw
        refine lv_aload_n hx hb d_Wd_splitNumber_210 rfl (lv_at hl 0 rfl) ?_
        refine lv_iload hx hb d_Wd_splitNumber_211 (lv_at hl 3 rfl) ?_
        refine lv_if_eq (tgt := 222) hx hb d_Wd_splitNumber_213 (by decide) (fun hc => ?_) (fun hc => ?_)
        · have hw := hw.1 hc
          refine lv_sipush (v := (129 : Int32)) hx hb d_Wd_splitNumber_222 (by decide) ?_
          refine lv_iload_n hx hb d_Wd_splitNumber_225 rfl (lv_at hl 1 rfl) ?_
          refine lv_lload_n hx hb d_Wd_splitNumber_226 rfl (lv_at hl 2 rfl) ?_
          refine xq_go (wr := ([] : va_W)) (stk := fun r => .int r :: []) (xq_runV (As := [.int (129 : Int32), .int x1, .long x2]) (rest := []) ⟨hx, hb, hml, hown, hts⟩ (c_Wd_keepJoined (l := l) (o := o) (D := D) (k := k) (ad_this := ad_this) (q_this_keywords := q_this_keywords) hw) (cw_Wd_keepJoined hts kw2_107 ⟨Nat.le_of_ble_eq_true rfl, Nat.le_of_ble_eq_true rfl⟩) (va_recv hK hP (ci := 2) (q0 := 0) rfl rfl) (hP.sub [0, 1, 2, 3, 4, 5] rfl) hK hJ hS (va_free hD hS hA [0, 1, 2, 3, 4, 5] rfl) ((hD.sub [0, 1, 2, 3, 4, 5] (by decide) rfl).weaken (fun _ _ _ _ => trivial)) rfl hl.1 (Nat.le_of_ble_eq_true rfl) d_Wd_splitNumber_227 ⟨Nat.le_of_ble_eq_true rfl, Nat.le_of_ble_eq_true rfl⟩) hP hD hS hA [0, 1, 2, 3, 4, 5] [] rfl rfl (by decide) (by decide) (fun _ => rfl) (fun r16 u16 H locs hw hP hD hS => ?_) (fun _ _ _ _ h9 => h9.elim)
          have hP : va_P D vwCl (w_Wd k ad_this q_this_keywords u16) H := hP.sub [0, 1, 2, 3, 4, 5] rfl
          have hD : va_D A (w_Wd k ad_this q_this_keywords u16) := hD.sub [0, 1, 2, 3, 4, 5] (by decide) rfl
          exact xq_zret (r := r16) (u := u16) hx hb hr hlocks hAe hP hD hS rfl hw.1 hw.2 (Nat.le_of_ble_eq_true rfl) (Nat.le_of_ble_eq_true rfl) d_Wd_splitNumber_230
        · have hw := hw.2 hc
          refine lv_sipush (v := (130 : Int32)) hx hb d_Wd_splitNumber_216 (by decide) ?_
          refine lv_goto (tgt := 225) hx hb d_Wd_splitNumber_219 (by decide) ?_
          refine lv_iload_n hx hb d_Wd_splitNumber_225 rfl (lv_at hl 1 rfl) ?_
          refine lv_lload_n hx hb d_Wd_splitNumber_226 rfl (lv_at hl 2 rfl) ?_
          refine xq_go (wr := ([] : va_W)) (stk := fun r => .int r :: []) (xq_runV (As := [.int (130 : Int32), .int x1, .long x2]) (rest := []) ⟨hx, hb, hml, hown, hts⟩ (c_Wd_keepJoined (l := l) (o := o) (D := D) (k := k) (ad_this := ad_this) (q_this_keywords := q_this_keywords) hw) (cw_Wd_keepJoined hts kw2_107 ⟨Nat.le_of_ble_eq_true rfl, Nat.le_of_ble_eq_true rfl⟩) (va_recv hK hP (ci := 2) (q0 := 0) rfl rfl) (hP.sub [0, 1, 2, 3, 4, 5] rfl) hK hJ hS (va_free hD hS hA [0, 1, 2, 3, 4, 5] rfl) ((hD.sub [0, 1, 2, 3, 4, 5] (by decide) rfl).weaken (fun _ _ _ _ => trivial)) rfl hl.1 (Nat.le_of_ble_eq_true rfl) d_Wd_splitNumber_227 ⟨Nat.le_of_ble_eq_true rfl, Nat.le_of_ble_eq_true rfl⟩) hP hD hS hA [0, 1, 2, 3, 4, 5] [] rfl rfl (by decide) (by decide) (fun _ => rfl) (fun r17 u17 H locs hw hP hD hS => ?_) (fun _ _ _ _ h9 => h9.elim)
          have hP : va_P D vwCl (w_Wd k ad_this q_this_keywords u17) H := hP.sub [0, 1, 2, 3, 4, 5] rfl
          have hD : va_D A (w_Wd k ad_this q_this_keywords u17) := hD.sub [0, 1, 2, 3, 4, 5] (by decide) rfl
          exact xq_zret (r := r17) (u := u17) hx hb hr hlocks hAe hP hD hS rfl hw.1 hw.2 (Nat.le_of_ble_eq_true rfl) (Nat.le_of_ble_eq_true rfl) d_Wd_splitNumber_230
      · have hw := hw.2 hc
        refine lv_aload_n hx hb d_Wd_splitNumber_108 rfl (lv_at hl 1 rfl) ?_
        refine lv_dup hx hb d_Wd_splitNumber_109 rfl ?_
        refine va_get (D := D) (ci := 2) (v := .int z_this.2.2.2.2.2.2.2.2.1) (C := R_Wd) (T := F_Wd) (N := 15) hx hb hts in_Wd hown hK hP 0 rfl rfl 9 (by decide) (hts (.fieldLink R_Wd 37 R_Wd "scan" "I") kw1_106) (fun _ h9 => h9) rfl d_Wd_splitNumber_110 ?_
        refine lv_iconst (v := (1 : Int32)) hx hb d_Wd_splitNumber_113 (by decide) ?_
        refine lv_iadd hx hb d_Wd_splitNumber_114 ?_
        refine va_put (D := D) (ci := 2) (v := .int (z_this.2.2.2.2.2.2.2.2.1 + (1 : Int32))) (ty := .int) (C := R_Wd) (T := F_Wd) (N := 15) hx hb hts in_Wd t_Wd t_Wd_ok n_Wd hown hK hP hD hS 0 rfl rfl 9 (by decide) (hts (.fieldLink R_Wd 37 R_Wd "scan" "I") kw1_106) (fun _ h9 => h9) rfl (by decide +kernel) rfl rfl (Nat.le_of_ble_eq_true rfl) d_Wd_splitNumber_115 (fun H locs hP hD hS => ?_)
        have hP : va_P D vwCl (w_Wd k ad_this q_this_keywords (z_this.1, z_this.2.1, z_this.2.2.1, z_this.2.2.2.1, z_this.2.2.2.2.1, z_this.2.2.2.2.2.1, z_this.2.2.2.2.2.2.1, z_this.2.2.2.2.2.2.2.1, (z_this.2.2.2.2.2.2.2.2.1 + (1 : Int32)), z_this.2.2.2.2.2.2.2.2.2.1, z_this.2.2.2.2.2.2.2.2.2.2.1, z_this.2.2.2.2.2.2.2.2.2.2.2.1, z_this.2.2.2.2.2.2.2.2.2.2.2.2.1, z_this.2.2.2.2.2.2.2.2.2.2.2.2.2)) H := hP
        have hD : va_D A (w_Wd k ad_this q_this_keywords (z_this.1, z_this.2.1, z_this.2.2.1, z_this.2.2.2.1, z_this.2.2.2.2.1, z_this.2.2.2.2.2.1, z_this.2.2.2.2.2.2.1, z_this.2.2.2.2.2.2.2.1, (z_this.2.2.2.2.2.2.2.2.1 + (1 : Int32)), z_this.2.2.2.2.2.2.2.2.2.1, z_this.2.2.2.2.2.2.2.2.2.2.1, z_this.2.2.2.2.2.2.2.2.2.2.2.1, z_this.2.2.2.2.2.2.2.2.2.2.2.2.1, z_this.2.2.2.2.2.2.2.2.2.2.2.2.2)) := hD
        refine lv_iload hx hb d_Wd_splitNumber_118 (lv_at hl 0 rfl) ?_
        refine lv_istore (lv' := [(5, .int (0 : Int32)), (4, .int (0 : Int32)), (0, .ref (ad_this 0)), (1, .int x1), (2, .long x2)]) hx hb d_Wd_splitNumber_120 hl (by decide) rfl (fun ls hl => ?_)
        refine lv_iconst (v := (0 : Int32)) hx hb d_Wd_splitNumber_122 (by decide) ?_
        refine lv_istore (lv' := [(6, .int (0 : Int32)), (5, .int (0 : Int32)), (4, .int (0 : Int32)), (0, .ref (ad_this 0)), (1, .int x1), (2, .long x2)]) hx hb d_Wd_splitNumber_123 hl (by decide) rfl (fun ls hl => ?_)
        obtain ⟨k9, hw⟩ := hw
        refine t_Wd_splitNumber_L125 hAt hK hJ hAe hA ?_ k9 (z_this.1, z_this.2.1, z_this.2.2.1, z_this.2.2.2.1, z_this.2.2.2.2.1, z_this.2.2.2.2.2.1, z_this.2.2.2.2.2.2.1, z_this.2.2.2.2.2.2.2.1, (z_this.2.2.2.2.2.2.2.2.1 + (1 : Int32)), z_this.2.2.2.2.2.2.2.2.2.1, z_this.2.2.2.2.2.2.2.2.2.2.1, z_this.2.2.2.2.2.2.2.2.2.2.2.1, z_this.2.2.2.2.2.2.2.2.2.2.2.2.1, z_this.2.2.2.2.2.2.2.2.2.2.2.2.2) x1 x2 (0 : Int32) (0 : Int32) (0 : Int32) H locs ls (lv_sub hl [3, 4, 5, 2, 1, 0] rfl) hP hD hS hw
        intro z_this x1 x2 x4 x5 x6 H locs ls hl hP hD hS hw
        refine lv_aload_n hx hb d_Wd_splitNumber_210 rfl (lv_at hl 0 rfl) ?_
        refine lv_iload hx hb d_Wd_splitNumber_211 (lv_at hl 3 rfl) ?_
        refine lv_if_eq (tgt := 222) hx hb d_Wd_splitNumber_213 (by decide) (fun hc => ?_) (fun hc => ?_)
        · have hw := hw.1 hc
          refine lv_sipush (v := (129 : Int32)) hx hb d_Wd_splitNumber_222 (by decide) ?_
          refine lv_iload_n hx hb d_Wd_splitNumber_225 rfl (lv_at hl 1 rfl) ?_
          refine lv_lload_n hx hb d_Wd_splitNumber_226 rfl (lv_at hl 2 rfl) ?_
          refine xq_go (wr := ([] : va_W)) (stk := fun r => .int r :: []) (xq_runV (As := [.int (129 : Int32), .int x1, .long x2]) (rest := []) ⟨hx, hb, hml, hown, hts⟩ (c_Wd_keepJoined (l := l) (o := o) (D := D) (k := k) (ad_this := ad_this) (q_this_keywords := q_this_keywords) hw) (cw_Wd_keepJoined hts kw2_107 ⟨Nat.le_of_ble_eq_true rfl, Nat.le_of_ble_eq_true rfl⟩) (va_recv hK hP (ci := 2) (q0 := 0) rfl rfl) (hP.sub [0, 1, 2, 3, 4, 5] rfl) hK hJ hS (va_free hD hS hA [0, 1, 2, 3, 4, 5] rfl) ((hD.sub [0, 1, 2, 3, 4, 5] (by decide) rfl).weaken (fun _ _ _ _ => trivial)) rfl hl.1 (Nat.le_of_ble_eq_true rfl) d_Wd_splitNumber_227 ⟨Nat.le_of_ble_eq_true rfl, Nat.le_of_ble_eq_true rfl⟩) hP hD hS hA [0, 1, 2, 3, 4, 5] [] rfl rfl (by decide) (by decide) (fun _ => rfl) (fun r18 u18 H locs hw hP hD hS => ?_) (fun _ _ _ _ h9 => h9.elim)
          have hP : va_P D vwCl (w_Wd k ad_this q_this_keywords u18) H := hP.sub [0, 1, 2, 3, 4, 5] rfl
          have hD : va_D A (w_Wd k ad_this q_this_keywords u18) := hD.sub [0, 1, 2, 3, 4, 5] (by decide) rfl
          exact xq_zret (r := r18) (u := u18) hx hb hr hlocks hAe hP hD hS rfl hw.1 hw.2 (Nat.le_of_ble_eq_true rfl) (Nat.le_of_ble_eq_true rfl) d_Wd_splitNumber_230
        · have hw := hw.2 hc
          refine lv_sipush (v := (130 : Int32)) hx hb d_Wd_splitNumber_216 (by decide) ?_
          refine lv_goto (tgt := 225) hx hb d_Wd_splitNumber_219 (by decide) ?_
          refine lv_iload_n hx hb d_Wd_splitNumber_225 rfl (lv_at hl 1 rfl) ?_
          refine lv_lload_n hx hb d_Wd_splitNumber_226 rfl (lv_at hl 2 rfl) ?_
          refine xq_go (wr := ([] : va_W)) (stk := fun r => .int r :: []) (xq_runV (As := [.int (130 : Int32), .int x1, .long x2]) (rest := []) ⟨hx, hb, hml, hown, hts⟩ (c_Wd_keepJoined (l := l) (o := o) (D := D) (k := k) (ad_this := ad_this) (q_this_keywords := q_this_keywords) hw) (cw_Wd_keepJoined hts kw2_107 ⟨Nat.le_of_ble_eq_true rfl, Nat.le_of_ble_eq_true rfl⟩) (va_recv hK hP (ci := 2) (q0 := 0) rfl rfl) (hP.sub [0, 1, 2, 3, 4, 5] rfl) hK hJ hS (va_free hD hS hA [0, 1, 2, 3, 4, 5] rfl) ((hD.sub [0, 1, 2, 3, 4, 5] (by decide) rfl).weaken (fun _ _ _ _ => trivial)) rfl hl.1 (Nat.le_of_ble_eq_true rfl) d_Wd_splitNumber_227 ⟨Nat.le_of_ble_eq_true rfl, Nat.le_of_ble_eq_true rfl⟩) hP hD hS hA [0, 1, 2, 3, 4, 5] [] rfl rfl (by decide) (by decide) (fun _ => rfl) (fun r19 u19 H locs hw hP hD hS => ?_) (fun _ _ _ _ h9 => h9.elim)
          have hP : va_P D vwCl (w_Wd k ad_this q_this_keywords u19) H := hP.sub [0, 1, 2, 3, 4, 5] rfl
          have hD : va_D A (w_Wd k ad_this q_this_keywords u19) := hD.sub [0, 1, 2, 3, 4, 5] (by decide) rfl
          exact xq_zret (r := r19) (u := u19) hx hb hr hlocks hAe hP hD hS rfl hw.1 hw.2 (Nat.le_of_ble_eq_true rfl) (Nat.le_of_ble_eq_true rfl) d_Wd_splitNumber_230
    · have hw := hw.2 hc
      refine lv_iconst (v := (1 : Int32)) hx hb d_Wd_splitNumber_96 (by decide) ?_
      refine lv_goto (tgt := 101) hx hb d_Wd_splitNumber_97 (by decide) ?_
      refine lv_istore (lv' := [(4, .int (1 : Int32)), (0, .ref (ad_this 0)), (1, .int x1), (2, .long x2)]) hx hb d_Wd_splitNumber_101 hl (by decide) rfl (fun ls hl => ?_)
      refine lv_iload hx hb d_Wd_splitNumber_103 (lv_at hl 0 rfl) ?_
      refine lv_if_eq (tgt := 118) hx hb d_Wd_splitNumber_105 (by decide) (fun hc => ?_) (fun hc => ?_)
      · have hw := hw.1 hc
        refine lv_iload hx hb d_Wd_splitNumber_118 (lv_at hl 0 rfl) ?_
        refine lv_istore (lv' := [(5, .int (1 : Int32)), (4, .int (1 : Int32)), (0, .ref (ad_this 0)), (1, .int x1), (2, .long x2)]) hx hb d_Wd_splitNumber_120 hl (by decide) rfl (fun ls hl => ?_)
        refine lv_iconst (v := (0 : Int32)) hx hb d_Wd_splitNumber_122 (by decide) ?_
        refine lv_istore (lv' := [(6, .int (0 : Int32)), (5, .int (1 : Int32)), (4, .int (1 : Int32)), (0, .ref (ad_this 0)), (1, .int x1), (2, .long x2)]) hx hb d_Wd_splitNumber_123 hl (by decide) rfl (fun ls hl => ?_)
        obtain ⟨k9, hw⟩ := hw
        refine t_Wd_splitNumber_L125 hAt hK hJ hAe hA ?_ k9 z_this x1 x2 (1 : Int32) (1 : Int32) (0 : Int32) H locs ls (lv_sub hl [3, 4, 5, 2, 1, 0] rfl) hP hD hS hw
        intro z_this x1 x2 x4 x5 x6 H locs ls hl hP hD hS hw
        refine lv_aload_n hx hb d_Wd_splitNumber_210 rfl (lv_at hl 0 rfl) ?_
        refine lv_iload hx hb d_Wd_splitNumber_211 (lv_at hl 3 rfl) ?_
        refine lv_if_eq (tgt := 222) hx hb d_Wd_splitNumber_213 (by decide) (fun hc => ?_) (fun hc => ?_)
        · have hw := hw.1 hc
          refine lv_sipush (v := (129 : Int32)) hx hb d_Wd_splitNumber_222 (by decide) ?_
          refine lv_iload_n hx hb d_Wd_splitNumber_225 rfl (lv_at hl 1 rfl) ?_
          refine lv_lload_n hx hb d_Wd_splitNumber_226 rfl (lv_at hl 2 rfl) ?_
          refine xq_go (wr := ([] : va_W)) (stk := fun r => .int r :: []) (xq_runV (As := [.int (129 : Int32), .int x1, .long x2]) (rest := []) ⟨hx, hb, hml, hown, hts⟩ (c_Wd_keepJoined (l := l) (o := o) (D := D) (k := k) (ad_this := ad_this) (q_this_keywords := q_this_keywords) hw) (cw_Wd_keepJoined hts kw2_107 ⟨Nat.le_of_ble_eq_true rfl, Nat.le_of_ble_eq_true rfl⟩) (va_recv hK hP (ci := 2) (q0 := 0) rfl rfl) (hP.sub [0, 1, 2, 3, 4, 5] rfl) hK hJ hS (va_free hD hS hA [0, 1, 2, 3, 4, 5] rfl) ((hD.sub [0, 1, 2, 3, 4, 5] (by decide) rfl).weaken (fun _ _ _ _ => trivial)) rfl hl.1 (Nat.le_of_ble_eq_true rfl) d_Wd_splitNumber_227 ⟨Nat.le_of_ble_eq_true rfl, Nat.le_of_ble_eq_true rfl⟩) hP hD hS hA [0, 1, 2, 3, 4, 5] [] rfl rfl (by decide) (by decide) (fun _ => rfl) (fun r20 u20 H locs hw hP hD hS => ?_) (fun _ _ _ _ h9 => h9.elim)
          have hP : va_P D vwCl (w_Wd k ad_this q_this_keywords u20) H := hP.sub [0, 1, 2, 3, 4, 5] rfl
          have hD : va_D A (w_Wd k ad_this q_this_keywords u20) := hD.sub [0, 1, 2, 3, 4, 5] (by decide) rfl
          exact xq_zret (r := r20) (u := u20) hx hb hr hlocks hAe hP hD hS rfl hw.1 hw.2 (Nat.le_of_ble_eq_true rfl) (Nat.le_of_ble_eq_true rfl) d_Wd_splitNumber_230
        · have hw := hw.2 hc
          refine lv_sipush (v := (130 : Int32)) hx hb d_Wd_splitNumber_216 (by decide) ?_
          refine lv_goto (tgt := 225) hx hb d_Wd_splitNumber_219 (by decide) ?_
          refine lv_iload_n hx hb d_Wd_splitNumber_225 rfl (lv_at hl 1 rfl) ?_
          refine lv_lload_n hx hb d_Wd_splitNumber_226 rfl (lv_at hl 2 rfl) ?_
          refine xq_go (wr := ([] : va_W)) (stk := fun r => .int r :: []) (xq_runV (As := [.int (130 : Int32), .int x1, .long x2]) (rest := []) ⟨hx, hb, hml, hown, hts⟩ (c_Wd_keepJoined (l := l) (o := o) (D := D) (k := k) (ad_this := ad_this) (q_this_keywords := q_this_keywords) hw) (cw_Wd_keepJoined hts kw2_107 ⟨Nat.le_of_ble_eq_true rfl, Nat.le_of_ble_eq_true rfl⟩) (va_recv hK hP (ci := 2) (q0 := 0) rfl rfl) (hP.sub [0, 1, 2, 3, 4, 5] rfl) hK hJ hS (va_free hD hS hA [0, 1, 2, 3, 4, 5] rfl) ((hD.sub [0, 1, 2, 3, 4, 5] (by decide) rfl).weaken (fun _ _ _ _ => trivial)) rfl hl.1 (Nat.le_of_ble_eq_true rfl) d_Wd_splitNumber_227 ⟨Nat.le_of_ble_eq_true rfl, Nat.le_of_ble_eq_true rfl⟩) hP hD hS hA [0, 1, 2, 3, 4, 5] [] rfl rfl (by decide) (by decide) (fun _ => rfl) (fun r21 u21 H locs hw hP hD hS => ?_) (fun _ _ _ _ h9 => h9.elim)
          have hP : va_P D vwCl (w_Wd k ad_this q_this_keywords u21) H := hP.sub [0, 1, 2, 3, 4, 5] rfl
          have hD : va_D A (w_Wd k ad_this q_this_keywords u21) := hD.sub [0, 1, 2, 3, 4, 5] (by decide) rfl
          exact xq_zret (r := r21) (u := u21) hx hb hr hlocks hAe hP hD hS rfl hw.1 hw.2 (Nat.le_of_ble_eq_true rfl) (Nat.le_of_ble_eq_true rfl) d_Wd_splitNumber_230
      · have hw := hw.2 hc
        refine lv_aload_n hx hb d_Wd_splitNumber_108 rfl (lv_at hl 1 rfl) ?_
        refine lv_dup hx hb d_Wd_splitNumber_109 rfl ?_
        refine va_get (D := D) (ci := 2) (v := .int z_this.2.2.2.2.2.2.2.2.1) (C := R_Wd) (T := F_Wd) (N := 15) hx hb hts in_Wd hown hK hP 0 rfl rfl 9 (by decide) (hts (.fieldLink R_Wd 37 R_Wd "scan" "I") kw1_106) (fun _ h9 => h9) rfl d_Wd_splitNumber_110 ?_
        refine lv_iconst (v := (1 : Int32)) hx hb d_Wd_splitNumber_113 (by decide) ?_
        refine lv_iadd hx hb d_Wd_splitNumber_114 ?_
        refine va_put (D := D) (ci := 2) (v := .int (z_this.2.2.2.2.2.2.2.2.1 + (1 : Int32))) (ty := .int) (C := R_Wd) (T := F_Wd) (N := 15) hx hb hts in_Wd t_Wd t_Wd_ok n_Wd hown hK hP hD hS 0 rfl rfl 9 (by decide) (hts (.fieldLink R_Wd 37 R_Wd "scan" "I") kw1_106) (fun _ h9 => h9) rfl (by decide +kernel) rfl rfl (Nat.le_of_ble_eq_true rfl) d_Wd_splitNumber_115 (fun H locs hP hD hS => ?_)
        have hP : va_P D vwCl (w_Wd k ad_this q_this_keywords (z_this.1, z_this.2.1, z_this.2.2.1, z_this.2.2.2.1, z_this.2.2.2.2.1, z_this.2.2.2.2.2.1, z_this.2.2.2.2.2.2.1, z_this.2.2.2.2.2.2.2.1, (z_this.2.2.2.2.2.2.2.2.1 + (1 : Int32)), z_this.2.2.2.2.2.2.2.2.2.1, z_this.2.2.2.2.2.2.2.2.2.2.1, z_this.2.2.2.2.2.2.2.2.2.2.2.1, z_this.2.2.2.2.2.2.2.2.2.2.2.2.1, z_this.2.2.2.2.2.2.2.2.2.2.2.2.2)) H := hP
        have hD : va_D A (w_Wd k ad_this q_this_keywords (z_this.1, z_this.2.1, z_this.2.2.1, z_this.2.2.2.1, z_this.2.2.2.2.1, z_this.2.2.2.2.2.1, z_this.2.2.2.2.2.2.1, z_this.2.2.2.2.2.2.2.1, (z_this.2.2.2.2.2.2.2.2.1 + (1 : Int32)), z_this.2.2.2.2.2.2.2.2.2.1, z_this.2.2.2.2.2.2.2.2.2.2.1, z_this.2.2.2.2.2.2.2.2.2.2.2.1, z_this.2.2.2.2.2.2.2.2.2.2.2.2.1, z_this.2.2.2.2.2.2.2.2.2.2.2.2.2)) := hD
        refine lv_iload hx hb d_Wd_splitNumber_118 (lv_at hl 0 rfl) ?_
        refine lv_istore (lv' := [(5, .int (1 : Int32)), (4, .int (1 : Int32)), (0, .ref (ad_this 0)), (1, .int x1), (2, .long x2)]) hx hb d_Wd_splitNumber_120 hl (by decide) rfl (fun ls hl => ?_)
        refine lv_iconst (v := (0 : Int32)) hx hb d_Wd_splitNumber_122 (by decide) ?_
        refine lv_istore (lv' := [(6, .int (0 : Int32)), (5, .int (1 : Int32)), (4, .int (1 : Int32)), (0, .ref (ad_this 0)), (1, .int x1), (2, .long x2)]) hx hb d_Wd_splitNumber_123 hl (by decide) rfl (fun ls hl => ?_)
        obtain ⟨k9, hw⟩ := hw
        refine t_Wd_splitNumber_L125 hAt hK hJ hAe hA ?_ k9 (z_this.1, z_this.2.1, z_this.2.2.1, z_this.2.2.2.1, z_this.2.2.2.2.1, z_this.2.2.2.2.2.1, z_this.2.2.2.2.2.2.1, z_this.2.2.2.2.2.2.2.1, (z_this.2.2.2.2.2.2.2.2.1 + (1 : Int32)), z_this.2.2.2.2.2.2.2.2.2.1, z_this.2.2.2.2.2.2.2.2.2.2.1, z_this.2.2.2.2.2.2.2.2.2.2.2.1, z_this.2.2.2.2.2.2.2.2.2.2.2.2.1, z_this.2.2.2.2.2.2.2.2.2.2.2.2.2) x1 x2 (1 : Int32) (1 : Int32) (0 : Int32) H locs ls (lv_sub hl [3, 4, 5, 2, 1, 0] rfl) hP hD hS hw
        intro z_this x1 x2 x4 x5 x6 H locs ls hl hP hD hS hw
        refine lv_aload_n hx hb d_Wd_splitNumber_210 rfl (lv_at hl 0 rfl) ?_
        refine lv_iload hx hb d_Wd_splitNumber_211 (lv_at hl 3 rfl) ?_
        refine lv_if_eq (tgt := 222) hx hb d_Wd_splitNumber_213 (by decide) (fun hc => ?_) (fun hc => ?_)
        · have hw := hw.1 hc
          refine lv_sipush (v := (129 : Int32)) hx hb d_Wd_splitNumber_222 (by decide) ?_
          refine lv_iload_n hx hb d_Wd_splitNumber_225 rfl (lv_at hl 1 rfl) ?_
          refine lv_lload_n hx hb d_Wd_splitNumber_226 rfl (lv_at hl 2 rfl) ?_
          refine xq_go (wr := ([] : va_W)) (stk := fun r => .int r :: []) (xq_runV (As := [.int (129 : Int32), .int x1, .long x2]) (rest := []) ⟨hx, hb, hml, hown, hts⟩ (c_Wd_keepJoined (l := l) (o := o) (D := D) (k := k) (ad_this := ad_this) (q_this_keywords := q_this_keywords) hw) (cw_Wd_keepJoined hts kw2_107 ⟨Nat.le_of_ble_eq_true rfl, Nat.le_of_ble_eq_true rfl⟩) (va_recv hK hP (ci := 2) (q0 := 0) rfl rfl) (hP.sub [0, 1, 2, 3, 4, 5] rfl) hK hJ hS (va_free hD hS hA [0, 1, 2, 3, 4, 5] rfl) ((hD.sub [0, 1, 2, 3, 4, 5] (by decide) rfl).weaken (fun _ _ _ _ => trivial)) rfl hl.1 (Nat.le_of_ble_eq_true rfl) d_Wd_splitNumber_227 ⟨Nat.le_of_ble_eq_true rfl, Nat.le_of_ble_eq_true rfl⟩) hP hD hS hA [0, 1, 2, 3, 4, 5] [] rfl rfl (by decide) (by decide) (fun _ => rfl) (fun r22 u22 H locs hw hP hD hS => ?_) (fun _ _ _ _ h9 => h9.elim)
          have hP : va_P D vwCl (w_Wd k ad_this q_this_keywords u22) H := hP.sub [0, 1, 2, 3, 4, 5] rfl
          have hD : va_D A (w_Wd k ad_this q_this_keywords u22) := hD.sub [0, 1, 2, 3, 4, 5] (by decide) rfl
          exact xq_zret (r := r22) (u := u22) hx hb hr hlocks hAe hP hD hS rfl hw.1 hw.2 (Nat.le_of_ble_eq_true rfl) (Nat.le_of_ble_eq_true rfl) d_Wd_splitNumber_230
        · have hw := hw.2 hc
          refine lv_sipush (v := (130 : Int32)) hx hb d_Wd_splitNumber_216 (by decide) ?_
          refine lv_goto (tgt := 225) hx hb d_Wd_splitNumber_219 (by decide) ?_
          refine lv_iload_n hx hb d_Wd_splitNumber_225 rfl (lv_at hl 1 rfl) ?_
          refine lv_lload_n hx hb d_Wd_splitNumber_226 rfl (lv_at hl 2 rfl) ?_
          refine xq_go (wr := ([] : va_W)) (stk := fun r => .int r :: []) (xq_runV (As := [.int (130 : Int32), .int x1, .long x2]) (rest := []) ⟨hx, hb, hml, hown, hts⟩ (c_Wd_keepJoined (l := l) (o := o) (D := D) (k := k) (ad_this := ad_this) (q_this_keywords := q_this_keywords) hw) (cw_Wd_keepJoined hts kw2_107 ⟨Nat.le_of_ble_eq_true rfl, Nat.le_of_ble_eq_true rfl⟩) (va_recv hK hP (ci := 2) (q0 := 0) rfl rfl) (hP.sub [0, 1, 2, 3, 4, 5] rfl) hK hJ hS (va_free hD hS hA [0, 1, 2, 3, 4, 5] rfl) ((hD.sub [0, 1, 2, 3, 4, 5] (by decide) rfl).weaken (fun _ _ _ _ => trivial)) rfl hl.1 (Nat.le_of_ble_eq_true rfl) d_Wd_splitNumber_227 ⟨Nat.le_of_ble_eq_true rfl, Nat.le_of_ble_eq_true rfl⟩) hP hD hS hA [0, 1, 2, 3, 4, 5] [] rfl rfl (by decide) (by decide) (fun _ => rfl) (fun r23 u23 H locs hw hP hD hS => ?_) (fun _ _ _ _ h9 => h9.elim)
          have hP : va_P D vwCl (w_Wd k ad_this q_this_keywords u23) H := hP.sub [0, 1, 2, 3, 4, 5] rfl
          have hD : va_D A (w_Wd k ad_this q_this_keywords u23) := hD.sub [0, 1, 2, 3, 4, 5] (by decide) rfl
          exact xq_zret (r := r23) (u := u23) hx hb hr hlocks hAe hP hD hS rfl hw.1 hw.2 (Nat.le_of_ble_eq_true rfl) (Nat.le_of_ble_eq_true rfl) d_Wd_splitNumber_230
theorem cw_Wd_splitNumber {R : Room} {s : State} {args : Array Value} {own : String} {index : Nat} (hts : ∀ w ∈ xq_W, w.before args s = true) (hl : .methodLink own index y_Wd_splitNumber ∈ xq_W) {rm : Room} (hR : rm.frames + 1 ≤ R.frames ∧ 8 + (7 + 11) + rm.locals ≤ R.locals) : CallW R s args own "StepText$Words" index y_Wd_splitNumber prog_8_method_9_code 7 (some (.boolean)) (.code y_Wd_splitNumber prog_8_method_9_code 7 (some (.boolean)) :: xq_W) rm rm.cells rm.slots 0 := ⟨xq_cb 0 hts kw2_104 kw1_7 hl ⟨by decide, by decide, by decide +kernel⟩ hR, hts _ kw2_103, hts _ kp1_3⟩
def y_Wd_splitLetters : MethodName := ⟨"StepText$Words", "splitLetters", "()Z"⟩
theorem d_Wd_splitLetters_0 : decode prog_8_method_8_code 0 = .ok (.aload_n 0, 1) := by decide +kernel
theorem d_Wd_splitLetters_1 : decode prog_8_method_8_code 1 = .ok (.getfield 37, 3) := by decide +kernel
theorem d_Wd_splitLetters_4 : decode prog_8_method_8_code 4 = .ok (.istore_n 1, 1) := by decide +kernel
theorem d_Wd_splitLetters_5 : decode prog_8_method_8_code 5 = .ok (.lconst 0, 1) := by decide +kernel
theorem d_Wd_splitLetters_6 : decode prog_8_method_8_code 6 = .ok (.lstore_n 2, 1) := by decide +kernel
theorem d_Wd_splitLetters_7 : decode prog_8_method_8_code 7 = .ok (.iconst 0, 1) := by decide +kernel
theorem d_Wd_splitLetters_8 : decode prog_8_method_8_code 8 = .ok (.istore 4, 2) := by decide +kernel
theorem d_Wd_splitLetters_10 : decode prog_8_method_8_code 10 = .ok (.iload 4, 2) := by decide +kernel
theorem d_Wd_splitLetters_12 : decode prog_8_method_8_code 12 = .ok (.bipush 12, 2) := by decide +kernel
theorem d_Wd_splitLetters_14 : decode prog_8_method_8_code 14 = .ok (.if_icmp .ge 52, 3) := by decide +kernel
theorem d_Wd_splitLetters_17 : decode prog_8_method_8_code 17 = .ok (.aload_n 0, 1) := by decide +kernel
theorem d_Wd_splitLetters_18 : decode prog_8_method_8_code 18 = .ok (.aload_n 0, 1) := by decide +kernel
theorem d_Wd_splitLetters_19 : decode prog_8_method_8_code 19 = .ok (.getfield 37, 3) := by decide +kernel
theorem d_Wd_splitLetters_22 : decode prog_8_method_8_code 22 = .ok (.invokevirtual 75, 3) := by decide +kernel
theorem d_Wd_splitLetters_25 : decode prog_8_method_8_code 25 = .ok (.invokestatic 89, 3) := by decide +kernel
theorem d_Wd_splitLetters_28 : decode prog_8_method_8_code 28 = .ok (.ifCond .le 38, 3) := by decide +kernel
theorem d_Wd_splitLetters_31 : decode prog_8_method_8_code 31 = .ok (.lload_n 2, 1) := by decide +kernel
theorem d_Wd_splitLetters_32 : decode prog_8_method_8_code 32 = .ok (.ldc2_w 101, 3) := by decide +kernel
theorem d_Wd_splitLetters_35 : decode prog_8_method_8_code 35 = .ok (.lmul, 1) := by decide +kernel
theorem d_Wd_splitLetters_36 : decode prog_8_method_8_code 36 = .ok (.aload_n 0, 1) := by decide +kernel
theorem d_Wd_splitLetters_37 : decode prog_8_method_8_code 37 = .ok (.aload_n 0, 1) := by decide +kernel
theorem d_Wd_splitLetters_38 : decode prog_8_method_8_code 38 = .ok (.getfield 37, 3) := by decide +kernel
theorem d_Wd_splitLetters_41 : decode prog_8_method_8_code 41 = .ok (.invokevirtual 75, 3) := by decide +kernel
theorem d_Wd_splitLetters_44 : decode prog_8_method_8_code 44 = .ok (.invokestatic 89, 3) := by decide +kernel
theorem d_Wd_splitLetters_47 : decode prog_8_method_8_code 47 = .ok (.i2l, 1) := by decide +kernel
theorem d_Wd_splitLetters_48 : decode prog_8_method_8_code 48 = .ok (.ladd, 1) := by decide +kernel
theorem d_Wd_splitLetters_49 : decode prog_8_method_8_code 49 = .ok (.lstore_n 2, 1) := by decide +kernel
theorem d_Wd_splitLetters_50 : decode prog_8_method_8_code 50 = .ok (.aload_n 0, 1) := by decide +kernel
theorem d_Wd_splitLetters_51 : decode prog_8_method_8_code 51 = .ok (.dup, 1) := by decide +kernel
theorem d_Wd_splitLetters_52 : decode prog_8_method_8_code 52 = .ok (.getfield 37, 3) := by decide +kernel
theorem d_Wd_splitLetters_55 : decode prog_8_method_8_code 55 = .ok (.iconst 1, 1) := by decide +kernel
theorem d_Wd_splitLetters_56 : decode prog_8_method_8_code 56 = .ok (.iadd, 1) := by decide +kernel
theorem d_Wd_splitLetters_57 : decode prog_8_method_8_code 57 = .ok (.putfield 37, 3) := by decide +kernel
theorem d_Wd_splitLetters_60 : decode prog_8_method_8_code 60 = .ok (.iinc 4 1, 3) := by decide +kernel
theorem d_Wd_splitLetters_63 : decode prog_8_method_8_code 63 = .ok (.goto (-53), 3) := by decide +kernel
theorem d_Wd_splitLetters_66 : decode prog_8_method_8_code 66 = .ok (.aload_n 0, 1) := by decide +kernel
theorem d_Wd_splitLetters_67 : decode prog_8_method_8_code 67 = .ok (.aload_n 0, 1) := by decide +kernel
theorem d_Wd_splitLetters_68 : decode prog_8_method_8_code 68 = .ok (.getfield 29, 3) := by decide +kernel
theorem d_Wd_splitLetters_71 : decode prog_8_method_8_code 71 = .ok (.lload_n 2, 1) := by decide +kernel
theorem d_Wd_splitLetters_72 : decode prog_8_method_8_code 72 = .ok (.invokevirtual 103, 3) := by decide +kernel
theorem d_Wd_splitLetters_75 : decode prog_8_method_8_code 75 = .ok (.iload_n 1, 1) := by decide +kernel
theorem d_Wd_splitLetters_76 : decode prog_8_method_8_code 76 = .ok (.lload_n 2, 1) := by decide +kernel
theorem d_Wd_splitLetters_77 : decode prog_8_method_8_code 77 = .ok (.invokevirtual 107, 3) := by decide +kernel
theorem d_Wd_splitLetters_80 : decode prog_8_method_8_code 80 = .ok (.ireturn, 1) := by decide +kernel
def wp_Wd_splitLetters_L10 (z_this_keywords : T_Kw) (K : T_Wd → Int32 → Int64 → Int32 → Prop) (post : Int32 → T_Wd → Prop) : Nat → T_Wd → Int32 → Int64 → Int32 → Prop
  | 0, _, _, _, _ => False
  | n9 + 1, z_this, x1, x2, x4 => ((12 : Int32) ≤ x4 → (K z_this x1 x2 x4)) ∧ (¬ (12 : Int32) ≤ x4 → (wp_Wd_byteAt z_this z_this.2.2.2.2.2.2.2.2.1 (fun (r1 : Int32) (u1 : Unit) => wp_Kw_rank r1 (fun (r2 : Int32) (u2 : Unit) => (r2 ≤ 0 → (K z_this x1 x2 x4)) ∧ (¬ r2 ≤ 0 → (wp_Wd_byteAt z_this z_this.2.2.2.2.2.2.2.2.1 (fun (r3 : Int32) (u3 : Unit) => wp_Kw_rank r3 (fun (r4 : Int32) (u4 : Unit) => wp_Wd_splitLetters_L10 z_this_keywords K post n9 (z_this.1, z_this.2.1, z_this.2.2.1, z_this.2.2.2.1, z_this.2.2.2.2.1, z_this.2.2.2.2.2.1, z_this.2.2.2.2.2.2.1, z_this.2.2.2.2.2.2.2.1, (z_this.2.2.2.2.2.2.2.2.1 + (1 : Int32)), z_this.2.2.2.2.2.2.2.2.2.1, z_this.2.2.2.2.2.2.2.2.2.2.1, z_this.2.2.2.2.2.2.2.2.2.2.2.1, z_this.2.2.2.2.2.2.2.2.2.2.2.2.1, z_this.2.2.2.2.2.2.2.2.2.2.2.2.2) x1 ((x2 * (37 : Int64)) + (r4).toInt64) (x4 + (1 : Int32))))))))))
def wp_Wd_splitLetters (z_this : T_Wd) (z_this_keywords : T_Kw) (post : Int32 → T_Wd → Prop) : Prop := ∃ k9 : Nat, wp_Wd_splitLetters_L10 z_this_keywords (fun (z_this : T_Wd) (x1 : Int32) (x2 : Int64) (x4 : Int32) => wp_Kw_codeOf z_this_keywords x2 (fun (r5 : Int32) (u5 : Unit) => wp_Wd_keepJoined z_this r5 x1 x2 (fun (r6 : Int32) (u6 : T_Wd) => narrow .boolean (.int r6) = .int r6 ∧ post r6 u6))) post k9 z_this z_this.2.2.2.2.2.2.2.2.1 (0 : Int64) (0 : Int32)
def rm_Wd_splitLetters : Room := { frames := 2, cells := 0, slots := 0, locals := 49 }
set_option maxHeartbeats 4000000 in
set_option maxRecDepth 100000 in
theorem t_Wd_splitLetters_L10 {p : Program} {l : Launch} {o : State × Array Value} {e : Env} {s : State} {m : MethodId} {args : Array Value} {below : List Frame} {meth : Method} {c : Code} {D : va_G} {k : Nat → ClassId} {w0 : va_W} {A : Nat → Prop} {ad_this : Nat → Nat} {ad_this_keywords : Nat → Nat} {z_this_keywords : T_Kw} {post : Int32 → T_Wd → Prop} (hAt : xq_At p s m args meth c prog_8_method_8_code 5 (some (.boolean)) y_Wd_splitLetters xq_W) (hK : va_K D vwCl (xt k) s) (hJ : xq_J l o A s s.heap) (hAe : va_A w0 s.heap.size = A) (hA : ∀ q, s.heap.size ≤ q → A q) {K : T_Wd → Int32 → Int64 → Int32 → Prop} (hX : ∀ (z_this : T_Wd) (x1 : Int32) (x2 : Int64) (x4 : Int32) (H : Heap) (locs : List Loc) (ls : Array Slot), lv_has ls 5 [(0, .ref (ad_this 0)), (1, .int x1), (2, .long x2), (4, .int x4)] → va_P D vwCl (w_Wd k ad_this (ad_this_keywords 0) z_this ++ w_Kw k ad_this_keywords z_this_keywords) H → va_D A (w_Wd k ad_this (ad_this_keywords 0) z_this ++ w_Kw k ad_this_keywords z_this_keywords) → va_S A s.heap H locs → K z_this x1 x2 x4 → W p l e rm_Wd_splitLetters s m args below meth c H locs 0 0 (xq_Z below D vwCl (xt k) w0 (fun r : Int32 => some (.int r)) post (fun _ : T_Wd => False) (fun u : T_Wd => w_Wd k ad_this (ad_this_keywords 0) u ++ w_Kw k ad_this_keywords z_this_keywords) 0 0 0 0 s) (F0 m 66 ls [])) :
    ∀ (n9 : Nat) (z_this : T_Wd) (x1 : Int32) (x2 : Int64) (x4 : Int32) (H : Heap) (locs : List Loc) (ls : Array Slot), lv_has ls 5 [(0, .ref (ad_this 0)), (1, .int x1), (2, .long x2), (4, .int x4)] → va_P D vwCl (w_Wd k ad_this (ad_this_keywords 0) z_this ++ w_Kw k ad_this_keywords z_this_keywords) H → va_D A (w_Wd k ad_this (ad_this_keywords 0) z_this ++ w_Kw k ad_this_keywords z_this_keywords) → va_S A s.heap H locs → wp_Wd_splitLetters_L10 z_this_keywords K post n9 z_this x1 x2 x4 → W p l e rm_Wd_splitLetters s m args below meth c H locs 0 0 (xq_Z below D vwCl (xt k) w0 (fun r : Int32 => some (.int r)) post (fun _ : T_Wd => False) (fun u : T_Wd => w_Wd k ad_this (ad_this_keywords 0) u ++ w_Kw k ad_this_keywords z_this_keywords) 0 0 0 0 s) (F0 m 10 ls []) := by
  obtain ⟨hx, hb, hml, hr, hlocks, hown, hts, hex, hnm⟩ := id hAt
  intro n9
  induction n9 with
  | zero => intro z_this x1 x2 x4 H locs ls hl hP hD hS hw; exact False.elim (by rw [wp_Wd_splitLetters_L10] at hw; exact hw)
  | succ n9 ih =>
    intro z_this x1 x2 x4 H locs ls hl hP hD hS hw
    rw [wp_Wd_splitLetters_L10] at hw
    refine lv_iload hx hb d_Wd_splitLetters_10 (lv_at hl 3 rfl) ?_
    refine lv_bipush (v := (12 : Int32)) hx hb d_Wd_splitLetters_12 (by decide) ?_
    refine lv_icmp_ge (tgt := 66) hx hb d_Wd_splitLetters_14 (by decide) (fun hc => ?_) (fun hc => ?_)
    · have hw := hw.1 hc
      exact hX z_this x1 x2 x4 H locs ls (lv_sub hl [0, 1, 2, 3] rfl) hP hD hS hw
    · have hw := hw.2 hc
      refine lv_aload_n hx hb d_Wd_splitLetters_17 rfl (lv_at hl 0 rfl) ?_
      refine lv_aload_n hx hb d_Wd_splitLetters_18 rfl (lv_at hl 0 rfl) ?_
      refine va_get (D := D) (ci := 2) (v := .int z_this.2.2.2.2.2.2.2.2.1) (C := R_Wd) (T := F_Wd) (N := 15) hx hb hts in_Wd hown hK hP 0 rfl rfl 9 (by decide) (hts (.fieldLink R_Wd 37 R_Wd "scan" "I") kw1_106) (fun _ h9 => h9) rfl d_Wd_splitLetters_19 ?_
      refine xq_go (wr := w_Kw k ad_this_keywords z_this_keywords) (stk := fun r => .int r :: []) (xq_runV (As := [.int z_this.2.2.2.2.2.2.2.2.1]) (rest := []) ⟨hx, hb, hml, hown, hts⟩ (c_Wd_byteAt (l := l) (o := o) (D := D) (k := k) (ad_this := ad_this) (q_this_keywords := (ad_this_keywords 0)) hw) (cw_Wd_byteAt hts kw2_87 ⟨Nat.le_of_ble_eq_true rfl, Nat.le_of_ble_eq_true rfl⟩) (va_recv hK hP (ci := 2) (q0 := 0) rfl rfl) (hP.sub [0, 1, 2, 3, 4, 5] rfl) hK hJ hS (va_free hD hS hA [0, 1, 2, 3, 4, 5] rfl) ((hD.sub [0, 1, 2, 3, 4, 5] (by decide) rfl).weaken (fun _ _ _ _ => trivial)) rfl hl.1 (Nat.le_of_ble_eq_true rfl) d_Wd_splitLetters_22 ⟨Nat.le_of_ble_eq_true rfl, Nat.le_of_ble_eq_true rfl⟩) hP hD hS hA [0, 1, 2, 3, 4, 5] [6, 7] rfl rfl (by decide) (by decide) (fun _ => rfl) (fun r1 u1 H locs hw hP hD hS => ?_) (fun _ _ _ _ h9 => h9.elim)
      have hP : va_P D vwCl (w_Wd k ad_this (ad_this_keywords 0) z_this ++ w_Kw k ad_this_keywords z_this_keywords) H := hP.sub [2, 3, 4, 5, 6, 7, 0, 1] rfl
      have hD : va_D A (w_Wd k ad_this (ad_this_keywords 0) z_this ++ w_Kw k ad_this_keywords z_this_keywords) := hD.sub [2, 3, 4, 5, 6, 7, 0, 1] (by decide) rfl
      refine xq_go (wr := w_Wd k ad_this (ad_this_keywords 0) z_this ++ w_Kw k ad_this_keywords z_this_keywords) (stk := fun r => .int r :: []) (xq_runS (As := [.int r1]) (rest := []) ⟨hx, hb, hml, hown, hts⟩ (c_Kw_rank (l := l) (o := o) (D := D) (k := k) hw) (cs_Kw_rank hts kw2_111 ⟨Nat.le_of_ble_eq_true rfl, Nat.le_of_ble_eq_true rfl⟩) (hP.sub [] rfl) hK hJ hS (va_free hD hS hA [] rfl) ((hD.sub [] (by decide) rfl).weaken (fun _ _ _ _ => trivial)) rfl hl.1 (Nat.le_of_ble_eq_true rfl) d_Wd_splitLetters_25 ⟨Nat.le_of_ble_eq_true rfl, Nat.le_of_ble_eq_true rfl⟩) hP hD hS hA [] [0, 1, 2, 3, 4, 5, 6, 7] rfl rfl (by decide) (by decide) (fun _ => rfl) (fun r2 u2 H locs hw hP hD hS => ?_) (fun _ _ _ _ h9 => h9.elim)
      have hP : va_P D vwCl (w_Wd k ad_this (ad_this_keywords 0) z_this ++ w_Kw k ad_this_keywords z_this_keywords) H := hP.sub [0, 1, 2, 3, 4, 5, 6, 7] rfl
      have hD : va_D A (w_Wd k ad_this (ad_this_keywords 0) z_this ++ w_Kw k ad_this_keywords z_this_keywords) := hD.sub [0, 1, 2, 3, 4, 5, 6, 7] (by decide) rfl
      refine lv_if_le (tgt := 66) hx hb d_Wd_splitLetters_28 (by decide) (fun hc => ?_) (fun hc => ?_)
      · have hw := hw.1 hc
        exact hX z_this x1 x2 x4 H locs ls (lv_sub hl [0, 1, 2, 3] rfl) hP hD hS hw
      · have hw := hw.2 hc
        refine lv_lload_n hx hb d_Wd_splitLetters_31 rfl (lv_at hl 2 rfl) ?_
        refine lv_ldc2 (v := (37 : Int64)) hx hb hown (hts (.constantLong R_Wd 101 (37)) kw2_120) d_Wd_splitLetters_32 ?_
        refine lv_lmul hx hb d_Wd_splitLetters_35 ?_
        refine lv_aload_n hx hb d_Wd_splitLetters_36 rfl (lv_at hl 0 rfl) ?_
        refine lv_aload_n hx hb d_Wd_splitLetters_37 rfl (lv_at hl 0 rfl) ?_
        refine va_get (D := D) (ci := 2) (v := .int z_this.2.2.2.2.2.2.2.2.1) (C := R_Wd) (T := F_Wd) (N := 15) hx hb hts in_Wd hown hK hP 0 rfl rfl 9 (by decide) (hts (.fieldLink R_Wd 37 R_Wd "scan" "I") kw1_106) (fun _ h9 => h9) rfl d_Wd_splitLetters_38 ?_
        refine xq_go (wr := w_Kw k ad_this_keywords z_this_keywords) (stk := fun r => .int r :: [.long (x2 * (37 : Int64))]) (xq_runV (As := [.int z_this.2.2.2.2.2.2.2.2.1]) (rest := [.long (x2 * (37 : Int64))]) ⟨hx, hb, hml, hown, hts⟩ (c_Wd_byteAt (l := l) (o := o) (D := D) (k := k) (ad_this := ad_this) (q_this_keywords := (ad_this_keywords 0)) hw) (cw_Wd_byteAt hts kw2_87 ⟨Nat.le_of_ble_eq_true rfl, Nat.le_of_ble_eq_true rfl⟩) (va_recv hK hP (ci := 2) (q0 := 0) rfl rfl) (hP.sub [0, 1, 2, 3, 4, 5] rfl) hK hJ hS (va_free hD hS hA [0, 1, 2, 3, 4, 5] rfl) ((hD.sub [0, 1, 2, 3, 4, 5] (by decide) rfl).weaken (fun _ _ _ _ => trivial)) rfl hl.1 (Nat.le_of_ble_eq_true rfl) d_Wd_splitLetters_41 ⟨Nat.le_of_ble_eq_true rfl, Nat.le_of_ble_eq_true rfl⟩) hP hD hS hA [0, 1, 2, 3, 4, 5] [6, 7] rfl rfl (by decide) (by decide) (fun _ => rfl) (fun r3 u3 H locs hw hP hD hS => ?_) (fun _ _ _ _ h9 => h9.elim)
        have hP : va_P D vwCl (w_Wd k ad_this (ad_this_keywords 0) z_this ++ w_Kw k ad_this_keywords z_this_keywords) H := hP.sub [2, 3, 4, 5, 6, 7, 0, 1] rfl
        have hD : va_D A (w_Wd k ad_this (ad_this_keywords 0) z_this ++ w_Kw k ad_this_keywords z_this_keywords) := hD.sub [2, 3, 4, 5, 6, 7, 0, 1] (by decide) rfl
        refine xq_go (wr := w_Wd k ad_this (ad_this_keywords 0) z_this ++ w_Kw k ad_this_keywords z_this_keywords) (stk := fun r => .int r :: [.long (x2 * (37 : Int64))]) (xq_runS (As := [.int r3]) (rest := [.long (x2 * (37 : Int64))]) ⟨hx, hb, hml, hown, hts⟩ (c_Kw_rank (l := l) (o := o) (D := D) (k := k) hw) (cs_Kw_rank hts kw2_111 ⟨Nat.le_of_ble_eq_true rfl, Nat.le_of_ble_eq_true rfl⟩) (hP.sub [] rfl) hK hJ hS (va_free hD hS hA [] rfl) ((hD.sub [] (by decide) rfl).weaken (fun _ _ _ _ => trivial)) rfl hl.1 (Nat.le_of_ble_eq_true rfl) d_Wd_splitLetters_44 ⟨Nat.le_of_ble_eq_true rfl, Nat.le_of_ble_eq_true rfl⟩) hP hD hS hA [] [0, 1, 2, 3, 4, 5, 6, 7] rfl rfl (by decide) (by decide) (fun _ => rfl) (fun r4 u4 H locs hw hP hD hS => ?_) (fun _ _ _ _ h9 => h9.elim)
        have hP : va_P D vwCl (w_Wd k ad_this (ad_this_keywords 0) z_this ++ w_Kw k ad_this_keywords z_this_keywords) H := hP.sub [0, 1, 2, 3, 4, 5, 6, 7] rfl
        have hD : va_D A (w_Wd k ad_this (ad_this_keywords 0) z_this ++ w_Kw k ad_this_keywords z_this_keywords) := hD.sub [0, 1, 2, 3, 4, 5, 6, 7] (by decide) rfl
        refine lv_i2l hx hb d_Wd_splitLetters_47 rfl ?_
        refine lv_ladd hx hb d_Wd_splitLetters_48 ?_
        refine lv_lstore_n (lv' := [(2, .long ((x2 * (37 : Int64)) + (r4).toInt64)), (0, .ref (ad_this 0)), (1, .int x1), (4, .int x4)]) hx hb d_Wd_splitLetters_49 rfl hl (by decide) rfl (fun ls hl => ?_)
        refine lv_aload_n hx hb d_Wd_splitLetters_50 rfl (lv_at hl 1 rfl) ?_
        refine lv_dup hx hb d_Wd_splitLetters_51 rfl ?_
        refine va_get (D := D) (ci := 2) (v := .int z_this.2.2.2.2.2.2.2.2.1) (C := R_Wd) (T := F_Wd) (N := 15) hx hb hts in_Wd hown hK hP 0 rfl rfl 9 (by decide) (hts (.fieldLink R_Wd 37 R_Wd "scan" "I") kw1_106) (fun _ h9 => h9) rfl d_Wd_splitLetters_52 ?_
        refine lv_iconst (v := (1 : Int32)) hx hb d_Wd_splitLetters_55 (by decide) ?_
        refine lv_iadd hx hb d_Wd_splitLetters_56 ?_
        refine va_put (D := D) (ci := 2) (v := .int (z_this.2.2.2.2.2.2.2.2.1 + (1 : Int32))) (ty := .int) (C := R_Wd) (T := F_Wd) (N := 15) hx hb hts in_Wd t_Wd t_Wd_ok n_Wd hown hK hP hD hS 0 rfl rfl 9 (by decide) (hts (.fieldLink R_Wd 37 R_Wd "scan" "I") kw1_106) (fun _ h9 => h9) rfl (by decide +kernel) rfl rfl (Nat.le_of_ble_eq_true rfl) d_Wd_splitLetters_57 (fun H locs hP hD hS => ?_)
        have hP : va_P D vwCl (w_Wd k ad_this (ad_this_keywords 0) (z_this.1, z_this.2.1, z_this.2.2.1, z_this.2.2.2.1, z_this.2.2.2.2.1, z_this.2.2.2.2.2.1, z_this.2.2.2.2.2.2.1, z_this.2.2.2.2.2.2.2.1, (z_this.2.2.2.2.2.2.2.2.1 + (1 : Int32)), z_this.2.2.2.2.2.2.2.2.2.1, z_this.2.2.2.2.2.2.2.2.2.2.1, z_this.2.2.2.2.2.2.2.2.2.2.2.1, z_this.2.2.2.2.2.2.2.2.2.2.2.2.1, z_this.2.2.2.2.2.2.2.2.2.2.2.2.2) ++ w_Kw k ad_this_keywords z_this_keywords) H := hP
        have hD : va_D A (w_Wd k ad_this (ad_this_keywords 0) (z_this.1, z_this.2.1, z_this.2.2.1, z_this.2.2.2.1, z_this.2.2.2.2.1, z_this.2.2.2.2.2.1, z_this.2.2.2.2.2.2.1, z_this.2.2.2.2.2.2.2.1, (z_this.2.2.2.2.2.2.2.2.1 + (1 : Int32)), z_this.2.2.2.2.2.2.2.2.2.1, z_this.2.2.2.2.2.2.2.2.2.2.1, z_this.2.2.2.2.2.2.2.2.2.2.2.1, z_this.2.2.2.2.2.2.2.2.2.2.2.2.1, z_this.2.2.2.2.2.2.2.2.2.2.2.2.2) ++ w_Kw k ad_this_keywords z_this_keywords) := hD
        refine lv_iinc (v := (x4 + (1 : Int32))) (lv' := [(4, .int (x4 + (1 : Int32))), (2, .long ((x2 * (37 : Int64)) + (r4).toInt64)), (0, .ref (ad_this 0)), (1, .int x1)]) hx hb d_Wd_splitLetters_60 hl (k := 3) rfl rfl (by decide) rfl (fun ls hl => ?_)
        refine lv_goto (tgt := 10) hx hb d_Wd_splitLetters_63 (by decide) ?_
        exact ih (z_this.1, z_this.2.1, z_this.2.2.1, z_this.2.2.2.1, z_this.2.2.2.2.1, z_this.2.2.2.2.2.1, z_this.2.2.2.2.2.2.1, z_this.2.2.2.2.2.2.2.1, (z_this.2.2.2.2.2.2.2.2.1 + (1 : Int32)), z_this.2.2.2.2.2.2.2.2.2.1, z_this.2.2.2.2.2.2.2.2.2.2.1, z_this.2.2.2.2.2.2.2.2.2.2.2.1, z_this.2.2.2.2.2.2.2.2.2.2.2.2.1, z_this.2.2.2.2.2.2.2.2.2.2.2.2.2) x1 ((x2 * (37 : Int64)) + (r4).toInt64) (x4 + (1 : Int32)) H locs ls (lv_sub hl [2, 3, 1, 0] rfl) hP hD hS hw
set_option maxHeartbeats 4000000 in
set_option maxRecDepth 100000 in
theorem c_Wd_splitLetters {l : Launch} {o : State × Array Value} {D : va_G} {k : Nat → ClassId} {ad_this : Nat → Nat} {ad_this_keywords : Nat → Nat} {z_this : T_Wd} {z_this_keywords : T_Kw} {post : Int32 → T_Wd → Prop} (hw : wp_Wd_splitLetters z_this z_this_keywords post) : xq_C l o y_Wd_splitLetters (.code y_Wd_splitLetters prog_8_method_8_code 5 (some (.boolean)) :: xq_W) rm_Wd_splitLetters D vwCl (xt k) [.ref (ad_this 0)] (w_Wd k ad_this (ad_this_keywords 0) z_this ++ w_Kw k ad_this_keywords z_this_keywords) (fun r : Int32 => some (.int r)) post (fun _ : T_Wd => False) (fun u : T_Wd => w_Wd k ad_this (ad_this_keywords 0) u ++ w_Kw k ad_this_keywords z_this_keywords) 0 0 0 0 := by
  refine xq_ofW (cc := prog_8_method_8_code) (maxL := 5) (ret := (some (.boolean))) (by decide) rfl (Nat.le_of_ble_eq_true rfl) ?_
  intro p e s m below meth c ls H locs A hAt hAe hA hl hK hJ hP0 hP hD hS
  obtain ⟨hx, hb, hml, hr, hlocks, hown, hts, hex, hnm⟩ := id hAt
  have hl : lv_has ls 5 [(0, .ref (ad_this 0))] := hl
  unfold wp_Wd_splitLetters at hw
  refine lv_aload_n hx hb d_Wd_splitLetters_0 rfl (lv_at hl 0 rfl) ?_
  refine va_get (D := D) (ci := 2) (v := .int z_this.2.2.2.2.2.2.2.2.1) (C := R_Wd) (T := F_Wd) (N := 15) hx hb hts in_Wd hown hK hP 0 rfl rfl 9 (by decide) (hts (.fieldLink R_Wd 37 R_Wd "scan" "I") kw1_106) (fun _ h9 => h9) rfl d_Wd_splitLetters_1 ?_
  refine lv_istore_n (lv' := [(1, .int z_this.2.2.2.2.2.2.2.2.1), (0, .ref (ad_this 0))]) hx hb d_Wd_splitLetters_4 rfl hl (by decide) rfl (fun ls hl => ?_)
  refine lv_lconst (v := (0 : Int64)) hx hb d_Wd_splitLetters_5 (by decide) ?_
  refine lv_lstore_n (lv' := [(2, .long (0 : Int64)), (1, .int z_this.2.2.2.2.2.2.2.2.1), (0, .ref (ad_this 0))]) hx hb d_Wd_splitLetters_6 rfl hl (by decide) rfl (fun ls hl => ?_)
  refine lv_iconst (v := (0 : Int32)) hx hb d_Wd_splitLetters_7 (by decide) ?_
  refine lv_istore (lv' := [(4, .int (0 : Int32)), (2, .long (0 : Int64)), (1, .int z_this.2.2.2.2.2.2.2.2.1), (0, .ref (ad_this 0))]) hx hb d_Wd_splitLetters_8 hl (by decide) rfl (fun ls hl => ?_)
  obtain ⟨k9, hw⟩ := hw
  refine t_Wd_splitLetters_L10 hAt hK hJ hAe hA ?_ k9 z_this z_this.2.2.2.2.2.2.2.2.1 (0 : Int64) (0 : Int32) H locs ls (lv_sub hl [3, 2, 1, 0] rfl) hP hD hS hw
  intro z_this x1 x2 x4 H locs ls hl hP hD hS hw
  refine lv_aload_n hx hb d_Wd_splitLetters_66 rfl (lv_at hl 0 rfl) ?_
  refine lv_aload_n hx hb d_Wd_splitLetters_67 rfl (lv_at hl 0 rfl) ?_
  refine va_get (D := D) (ci := 2) (v := .ref (ad_this_keywords 0)) (C := R_Wd) (T := F_Wd) (N := 15) hx hb hts in_Wd hown hK hP 0 rfl rfl 0 (by decide) (hts (.fieldLink R_Wd 29 R_Wd "keywords" "LStepText$Keywords;") kw1_97) (fun _ h9 => h9) rfl d_Wd_splitLetters_68 ?_
  refine lv_lload_n hx hb d_Wd_splitLetters_71 rfl (lv_at hl 2 rfl) ?_
  refine xq_go (wr := w_Wd k ad_this (ad_this_keywords 0) z_this) (stk := fun r => .int r :: [.ref (ad_this 0)]) (xq_runV (As := [.long x2]) (rest := [.ref (ad_this 0)]) ⟨hx, hb, hml, hown, hts⟩ (c_Kw_codeOf (l := l) (o := o) (D := D) (k := k) (ad_this := ad_this_keywords) hw) (cw_Kw_codeOf hts kw2_121 ⟨Nat.le_of_ble_eq_true rfl, Nat.le_of_ble_eq_true rfl⟩) (va_recv hK hP (ci := 1) (q0 := 6) rfl rfl) (hP.sub [6, 7] rfl) hK hJ hS (va_free hD hS hA [6, 7] rfl) ((hD.sub [6, 7] (by decide) rfl).weaken (fun _ _ _ _ => trivial)) rfl hl.1 (Nat.le_of_ble_eq_true rfl) d_Wd_splitLetters_72 ⟨Nat.le_of_ble_eq_true rfl, Nat.le_of_ble_eq_true rfl⟩) hP hD hS hA [6, 7] [0, 1, 2, 3, 4, 5] rfl rfl (by decide) (by decide) (fun _ => rfl) (fun r5 u5 H locs hw hP hD hS => ?_) (fun _ _ _ _ h9 => h9.elim)
  have hP : va_P D vwCl (w_Wd k ad_this (ad_this_keywords 0) z_this ++ w_Kw k ad_this_keywords z_this_keywords) H := hP.sub [0, 1, 2, 3, 4, 5, 6, 7] rfl
  have hD : va_D A (w_Wd k ad_this (ad_this_keywords 0) z_this ++ w_Kw k ad_this_keywords z_this_keywords) := hD.sub [0, 1, 2, 3, 4, 5, 6, 7] (by decide) rfl
  refine lv_iload_n hx hb d_Wd_splitLetters_75 rfl (lv_at hl 1 rfl) ?_
  refine lv_lload_n hx hb d_Wd_splitLetters_76 rfl (lv_at hl 2 rfl) ?_
  refine xq_go (wr := w_Kw k ad_this_keywords z_this_keywords) (stk := fun r => .int r :: []) (xq_runV (As := [.int r5, .int x1, .long x2]) (rest := []) ⟨hx, hb, hml, hown, hts⟩ (c_Wd_keepJoined (l := l) (o := o) (D := D) (k := k) (ad_this := ad_this) (q_this_keywords := (ad_this_keywords 0)) hw) (cw_Wd_keepJoined hts kw2_107 ⟨Nat.le_of_ble_eq_true rfl, Nat.le_of_ble_eq_true rfl⟩) (va_recv hK hP (ci := 2) (q0 := 0) rfl rfl) (hP.sub [0, 1, 2, 3, 4, 5] rfl) hK hJ hS (va_free hD hS hA [0, 1, 2, 3, 4, 5] rfl) ((hD.sub [0, 1, 2, 3, 4, 5] (by decide) rfl).weaken (fun _ _ _ _ => trivial)) rfl hl.1 (Nat.le_of_ble_eq_true rfl) d_Wd_splitLetters_77 ⟨Nat.le_of_ble_eq_true rfl, Nat.le_of_ble_eq_true rfl⟩) hP hD hS hA [0, 1, 2, 3, 4, 5] [6, 7] rfl rfl (by decide) (by decide) (fun _ => rfl) (fun r6 u6 H locs hw hP hD hS => ?_) (fun _ _ _ _ h9 => h9.elim)
  have hP : va_P D vwCl (w_Wd k ad_this (ad_this_keywords 0) u6 ++ w_Kw k ad_this_keywords z_this_keywords) H := hP.sub [2, 3, 4, 5, 6, 7, 0, 1] rfl
  have hD : va_D A (w_Wd k ad_this (ad_this_keywords 0) u6 ++ w_Kw k ad_this_keywords z_this_keywords) := hD.sub [2, 3, 4, 5, 6, 7, 0, 1] (by decide) rfl
  exact xq_zret (r := r6) (u := u6) hx hb hr hlocks hAe hP hD hS rfl hw.1 hw.2 (Nat.le_of_ble_eq_true rfl) (Nat.le_of_ble_eq_true rfl) d_Wd_splitLetters_80
theorem cw_Wd_splitLetters {R : Room} {s : State} {args : Array Value} {own : String} {index : Nat} (hts : ∀ w ∈ xq_W, w.before args s = true) (hl : .methodLink own index y_Wd_splitLetters ∈ xq_W) {rm : Room} (hR : rm.frames + 1 ≤ R.frames ∧ 8 + (5 + 11) + rm.locals ≤ R.locals) : CallW R s args own "StepText$Words" index y_Wd_splitLetters prog_8_method_8_code 5 (some (.boolean)) (.code y_Wd_splitLetters prog_8_method_8_code 5 (some (.boolean)) :: xq_W) rm rm.cells rm.slots 0 := ⟨xq_cb 0 hts kw2_119 kw1_7 hl ⟨by decide, by decide, by decide +kernel⟩ hR, hts _ kw2_118, hts _ kp1_6⟩
def y_Wd_splitWord : MethodName := ⟨"StepText$Words", "splitWord", "()Z"⟩
theorem d_Wd_splitWord_0 : decode prog_8_method_7_code 0 = .ok (.aload_n 0, 1) := by decide +kernel
theorem d_Wd_splitWord_1 : decode prog_8_method_7_code 1 = .ok (.aload_n 0, 1) := by decide +kernel
theorem d_Wd_splitWord_2 : decode prog_8_method_7_code 2 = .ok (.getfield 37, 3) := by decide +kernel
theorem d_Wd_splitWord_5 : decode prog_8_method_7_code 5 = .ok (.invokevirtual 75, 3) := by decide +kernel
theorem d_Wd_splitWord_8 : decode prog_8_method_7_code 8 = .ok (.istore_n 1, 1) := by decide +kernel
theorem d_Wd_splitWord_9 : decode prog_8_method_7_code 9 = .ok (.iload_n 1, 1) := by decide +kernel
theorem d_Wd_splitWord_10 : decode prog_8_method_7_code 10 = .ok (.invokestatic 83, 3) := by decide +kernel
theorem d_Wd_splitWord_13 : decode prog_8_method_7_code 13 = .ok (.ifCond .eq 8, 3) := by decide +kernel
theorem d_Wd_splitWord_16 : decode prog_8_method_7_code 16 = .ok (.aload_n 0, 1) := by decide +kernel
theorem d_Wd_splitWord_17 : decode prog_8_method_7_code 17 = .ok (.invokevirtual 86, 3) := by decide +kernel
theorem d_Wd_splitWord_20 : decode prog_8_method_7_code 20 = .ok (.ireturn, 1) := by decide +kernel
theorem d_Wd_splitWord_21 : decode prog_8_method_7_code 21 = .ok (.iload_n 1, 1) := by decide +kernel
theorem d_Wd_splitWord_22 : decode prog_8_method_7_code 22 = .ok (.invokestatic 89, 3) := by decide +kernel
theorem d_Wd_splitWord_25 : decode prog_8_method_7_code 25 = .ok (.ifCond .le 8, 3) := by decide +kernel
theorem d_Wd_splitWord_28 : decode prog_8_method_7_code 28 = .ok (.aload_n 0, 1) := by decide +kernel
theorem d_Wd_splitWord_29 : decode prog_8_method_7_code 29 = .ok (.invokevirtual 94, 3) := by decide +kernel
theorem d_Wd_splitWord_32 : decode prog_8_method_7_code 32 = .ok (.ireturn, 1) := by decide +kernel
theorem d_Wd_splitWord_33 : decode prog_8_method_7_code 33 = .ok (.aload_n 0, 1) := by decide +kernel
theorem d_Wd_splitWord_34 : decode prog_8_method_7_code 34 = .ok (.iload_n 1, 1) := by decide +kernel
theorem d_Wd_splitWord_35 : decode prog_8_method_7_code 35 = .ok (.aload_n 0, 1) := by decide +kernel
theorem d_Wd_splitWord_36 : decode prog_8_method_7_code 36 = .ok (.getfield 37, 3) := by decide +kernel
theorem d_Wd_splitWord_39 : decode prog_8_method_7_code 39 = .ok (.lconst 0, 1) := by decide +kernel
theorem d_Wd_splitWord_40 : decode prog_8_method_7_code 40 = .ok (.invokevirtual 97, 3) := by decide +kernel
theorem d_Wd_splitWord_43 : decode prog_8_method_7_code 43 = .ok (.aload_n 0, 1) := by decide +kernel
theorem d_Wd_splitWord_44 : decode prog_8_method_7_code 44 = .ok (.dup, 1) := by decide +kernel
theorem d_Wd_splitWord_45 : decode prog_8_method_7_code 45 = .ok (.getfield 37, 3) := by decide +kernel
theorem d_Wd_splitWord_48 : decode prog_8_method_7_code 48 = .ok (.iconst 1, 1) := by decide +kernel
theorem d_Wd_splitWord_49 : decode prog_8_method_7_code 49 = .ok (.iadd, 1) := by decide +kernel
theorem d_Wd_splitWord_50 : decode prog_8_method_7_code 50 = .ok (.putfield 37, 3) := by decide +kernel
theorem d_Wd_splitWord_53 : decode prog_8_method_7_code 53 = .ok (.iload_n 1, 1) := by decide +kernel
theorem d_Wd_splitWord_54 : decode prog_8_method_7_code 54 = .ok (.ifCond .eq 7, 3) := by decide +kernel
theorem d_Wd_splitWord_57 : decode prog_8_method_7_code 57 = .ok (.iconst 1, 1) := by decide +kernel
theorem d_Wd_splitWord_58 : decode prog_8_method_7_code 58 = .ok (.goto 4, 3) := by decide +kernel
theorem d_Wd_splitWord_61 : decode prog_8_method_7_code 61 = .ok (.iconst 0, 1) := by decide +kernel
theorem d_Wd_splitWord_62 : decode prog_8_method_7_code 62 = .ok (.ireturn, 1) := by decide +kernel
def wp_Wd_splitWord (z_this : T_Wd) (z_this_keywords : T_Kw) (post : Int32 → T_Wd → Prop) : Prop := wp_Wd_byteAt z_this z_this.2.2.2.2.2.2.2.2.1 (fun (r1 : Int32) (u1 : Unit) => wp_Wd_isDigit r1 (fun (r2 : Int32) (u2 : Unit) => (r2 = 0 → (wp_Kw_rank r1 (fun (r3 : Int32) (u3 : Unit) => (r3 ≤ 0 → (wp_Wd_keep z_this r1 z_this.2.2.2.2.2.2.2.2.1 (0 : Int64) (fun (r4 : Unit) (u4 : T_Wd) => (r1 = 0 → (post (0 : Int32) (u4.1, u4.2.1, u4.2.2.1, u4.2.2.2.1, u4.2.2.2.2.1, u4.2.2.2.2.2.1, u4.2.2.2.2.2.2.1, u4.2.2.2.2.2.2.2.1, (u4.2.2.2.2.2.2.2.2.1 + (1 : Int32)), u4.2.2.2.2.2.2.2.2.2.1, u4.2.2.2.2.2.2.2.2.2.2.1, u4.2.2.2.2.2.2.2.2.2.2.2.1, u4.2.2.2.2.2.2.2.2.2.2.2.2.1, u4.2.2.2.2.2.2.2.2.2.2.2.2.2))) ∧ (¬ r1 = 0 → (post (1 : Int32) (u4.1, u4.2.1, u4.2.2.1, u4.2.2.2.1, u4.2.2.2.2.1, u4.2.2.2.2.2.1, u4.2.2.2.2.2.2.1, u4.2.2.2.2.2.2.2.1, (u4.2.2.2.2.2.2.2.2.1 + (1 : Int32)), u4.2.2.2.2.2.2.2.2.2.1, u4.2.2.2.2.2.2.2.2.2.2.1, u4.2.2.2.2.2.2.2.2.2.2.2.1, u4.2.2.2.2.2.2.2.2.2.2.2.2.1, u4.2.2.2.2.2.2.2.2.2.2.2.2.2)))))) ∧ (¬ r3 ≤ 0 → (wp_Wd_splitLetters z_this z_this_keywords (fun (r5 : Int32) (u5 : T_Wd) => narrow .boolean (.int r5) = .int r5 ∧ post r5 u5)))))) ∧ (¬ r2 = 0 → (wp_Wd_splitNumber z_this (fun (r6 : Int32) (u6 : T_Wd) => narrow .boolean (.int r6) = .int r6 ∧ post r6 u6)))))
def rm_Wd_splitWord : Room := { frames := 3, cells := 0, slots := 0, locals := 75 }
set_option maxHeartbeats 4000000 in
set_option maxRecDepth 100000 in
theorem c_Wd_splitWord {l : Launch} {o : State × Array Value} {D : va_G} {k : Nat → ClassId} {ad_this : Nat → Nat} {ad_this_keywords : Nat → Nat} {z_this : T_Wd} {z_this_keywords : T_Kw} {post : Int32 → T_Wd → Prop} (hw : wp_Wd_splitWord z_this z_this_keywords post) : xq_C l o y_Wd_splitWord (.code y_Wd_splitWord prog_8_method_7_code 2 (some (.boolean)) :: xq_W) rm_Wd_splitWord D vwCl (xt k) [.ref (ad_this 0)] (w_Wd k ad_this (ad_this_keywords 0) z_this ++ w_Kw k ad_this_keywords z_this_keywords) (fun r : Int32 => some (.int r)) post (fun _ : T_Wd => False) (fun u : T_Wd => w_Wd k ad_this (ad_this_keywords 0) u ++ w_Kw k ad_this_keywords z_this_keywords) 0 0 0 0 := by
  refine xq_ofW (cc := prog_8_method_7_code) (maxL := 2) (ret := (some (.boolean))) (by decide) rfl (Nat.le_of_ble_eq_true rfl) ?_
  intro p e s m below meth c ls H locs A hAt hAe hA hl hK hJ hP0 hP hD hS
  obtain ⟨hx, hb, hml, hr, hlocks, hown, hts, hex, hnm⟩ := id hAt
  have hl : lv_has ls 2 [(0, .ref (ad_this 0))] := hl
  unfold wp_Wd_splitWord at hw
  refine lv_aload_n hx hb d_Wd_splitWord_0 rfl (lv_at hl 0 rfl) ?_
  refine lv_aload_n hx hb d_Wd_splitWord_1 rfl (lv_at hl 0 rfl) ?_
  refine va_get (D := D) (ci := 2) (v := .int z_this.2.2.2.2.2.2.2.2.1) (C := R_Wd) (T := F_Wd) (N := 15) hx hb hts in_Wd hown hK hP 0 rfl rfl 9 (by decide) (hts (.fieldLink R_Wd 37 R_Wd "scan" "I") kw1_106) (fun _ h9 => h9) rfl d_Wd_splitWord_2 ?_
  refine xq_go (wr := w_Kw k ad_this_keywords z_this_keywords) (stk := fun r => .int r :: []) (xq_runV (As := [.int z_this.2.2.2.2.2.2.2.2.1]) (rest := []) ⟨hx, hb, hml, hown, hts⟩ (c_Wd_byteAt (l := l) (o := o) (D := D) (k := k) (ad_this := ad_this) (q_this_keywords := (ad_this_keywords 0)) hw) (cw_Wd_byteAt hts kw2_87 ⟨Nat.le_of_ble_eq_true rfl, Nat.le_of_ble_eq_true rfl⟩) (va_recv hK hP (ci := 2) (q0 := 0) rfl rfl) (hP.sub [0, 1, 2, 3, 4, 5] rfl) hK hJ hS (va_free hD hS hA [0, 1, 2, 3, 4, 5] rfl) ((hD.sub [0, 1, 2, 3, 4, 5] (by decide) rfl).weaken (fun _ _ _ _ => trivial)) rfl hl.1 (Nat.le_of_ble_eq_true rfl) d_Wd_splitWord_5 ⟨Nat.le_of_ble_eq_true rfl, Nat.le_of_ble_eq_true rfl⟩) hP hD hS hA [0, 1, 2, 3, 4, 5] [6, 7] rfl rfl (by decide) (by decide) (fun _ => rfl) (fun r1 u1 H locs hw hP hD hS => ?_) (fun _ _ _ _ h9 => h9.elim)
  have hP : va_P D vwCl (w_Wd k ad_this (ad_this_keywords 0) z_this ++ w_Kw k ad_this_keywords z_this_keywords) H := hP.sub [2, 3, 4, 5, 6, 7, 0, 1] rfl
  have hD : va_D A (w_Wd k ad_this (ad_this_keywords 0) z_this ++ w_Kw k ad_this_keywords z_this_keywords) := hD.sub [2, 3, 4, 5, 6, 7, 0, 1] (by decide) rfl
  refine lv_istore_n (lv' := [(1, .int r1), (0, .ref (ad_this 0))]) hx hb d_Wd_splitWord_8 rfl hl (by decide) rfl (fun ls hl => ?_)
  refine lv_iload_n hx hb d_Wd_splitWord_9 rfl (lv_at hl 0 rfl) ?_
  refine xq_go (wr := w_Wd k ad_this (ad_this_keywords 0) z_this ++ w_Kw k ad_this_keywords z_this_keywords) (stk := fun r => .int r :: []) (xq_runS (As := [.int r1]) (rest := []) ⟨hx, hb, hml, hown, hts⟩ (c_Wd_isDigit (l := l) (o := o) (D := D) (k := k) hw) (cs_Wd_isDigit hts kw2_98 ⟨Nat.le_of_ble_eq_true rfl, Nat.le_of_ble_eq_true rfl⟩) (hP.sub [] rfl) hK hJ hS (va_free hD hS hA [] rfl) ((hD.sub [] (by decide) rfl).weaken (fun _ _ _ _ => trivial)) rfl hl.1 (Nat.le_of_ble_eq_true rfl) d_Wd_splitWord_10 ⟨Nat.le_of_ble_eq_true rfl, Nat.le_of_ble_eq_true rfl⟩) hP hD hS hA [] [0, 1, 2, 3, 4, 5, 6, 7] rfl rfl (by decide) (by decide) (fun _ => rfl) (fun r2 u2 H locs hw hP hD hS => ?_) (fun _ _ _ _ h9 => h9.elim)
  have hP : va_P D vwCl (w_Wd k ad_this (ad_this_keywords 0) z_this ++ w_Kw k ad_this_keywords z_this_keywords) H := hP.sub [0, 1, 2, 3, 4, 5, 6, 7] rfl
  have hD : va_D A (w_Wd k ad_this (ad_this_keywords 0) z_this ++ w_Kw k ad_this_keywords z_this_keywords) := hD.sub [0, 1, 2, 3, 4, 5, 6, 7] (by decide) rfl
  refine lv_if_eq (tgt := 21) hx hb d_Wd_splitWord_13 (by decide) (fun hc => ?_) (fun hc => ?_)
  · have hw := hw.1 hc
    refine lv_iload_n hx hb d_Wd_splitWord_21 rfl (lv_at hl 0 rfl) ?_
    refine xq_go (wr := w_Wd k ad_this (ad_this_keywords 0) z_this ++ w_Kw k ad_this_keywords z_this_keywords) (stk := fun r => .int r :: []) (xq_runS (As := [.int r1]) (rest := []) ⟨hx, hb, hml, hown, hts⟩ (c_Kw_rank (l := l) (o := o) (D := D) (k := k) hw) (cs_Kw_rank hts kw2_111 ⟨Nat.le_of_ble_eq_true rfl, Nat.le_of_ble_eq_true rfl⟩) (hP.sub [] rfl) hK hJ hS (va_free hD hS hA [] rfl) ((hD.sub [] (by decide) rfl).weaken (fun _ _ _ _ => trivial)) rfl hl.1 (Nat.le_of_ble_eq_true rfl) d_Wd_splitWord_22 ⟨Nat.le_of_ble_eq_true rfl, Nat.le_of_ble_eq_true rfl⟩) hP hD hS hA [] [0, 1, 2, 3, 4, 5, 6, 7] rfl rfl (by decide) (by decide) (fun _ => rfl) (fun r3 u3 H locs hw hP hD hS => ?_) (fun _ _ _ _ h9 => h9.elim)
    have hP : va_P D vwCl (w_Wd k ad_this (ad_this_keywords 0) z_this ++ w_Kw k ad_this_keywords z_this_keywords) H := hP.sub [0, 1, 2, 3, 4, 5, 6, 7] rfl
    have hD : va_D A (w_Wd k ad_this (ad_this_keywords 0) z_this ++ w_Kw k ad_this_keywords z_this_keywords) := hD.sub [0, 1, 2, 3, 4, 5, 6, 7] (by decide) rfl
    refine lv_if_le (tgt := 33) hx hb d_Wd_splitWord_25 (by decide) (fun hc => ?_) (fun hc => ?_)
    · have hw := hw.1 hc
      refine lv_aload_n hx hb d_Wd_splitWord_33 rfl (lv_at hl 1 rfl) ?_
      refine lv_iload_n hx hb d_Wd_splitWord_34 rfl (lv_at hl 0 rfl) ?_
      refine lv_aload_n hx hb d_Wd_splitWord_35 rfl (lv_at hl 1 rfl) ?_
      refine va_get (D := D) (ci := 2) (v := .int z_this.2.2.2.2.2.2.2.2.1) (C := R_Wd) (T := F_Wd) (N := 15) hx hb hts in_Wd hown hK hP 0 rfl rfl 9 (by decide) (hts (.fieldLink R_Wd 37 R_Wd "scan" "I") kw1_106) (fun _ h9 => h9) rfl d_Wd_splitWord_36 ?_
      refine lv_lconst (v := (0 : Int64)) hx hb d_Wd_splitWord_39 (by decide) ?_
      refine xq_go (wr := w_Kw k ad_this_keywords z_this_keywords) (stk := fun _ => []) (xq_runV (As := [.int r1, .int z_this.2.2.2.2.2.2.2.2.1, .long (0 : Int64)]) (rest := []) ⟨hx, hb, hml, hown, hts⟩ (c_Wd_keep (l := l) (o := o) (D := D) (k := k) (ad_this := ad_this) (q_this_keywords := (ad_this_keywords 0)) hw) (cw_Wd_keep hts kw2_112 ⟨Nat.le_of_ble_eq_true rfl, Nat.le_of_ble_eq_true rfl⟩) (va_recv hK hP (ci := 2) (q0 := 0) rfl rfl) (hP.sub [0, 1, 2, 3, 4, 5] rfl) hK hJ hS (va_free hD hS hA [0, 1, 2, 3, 4, 5] rfl) ((hD.sub [0, 1, 2, 3, 4, 5] (by decide) rfl).weaken (fun _ _ _ _ => trivial)) rfl hl.1 (Nat.le_of_ble_eq_true rfl) d_Wd_splitWord_40 ⟨Nat.le_of_ble_eq_true rfl, Nat.le_of_ble_eq_true rfl⟩) hP hD hS hA [0, 1, 2, 3, 4, 5] [6, 7] rfl rfl (by decide) (by decide) (fun _ => rfl) (fun r4 u4 H locs hw hP hD hS => ?_) (fun _ _ _ _ h9 => h9.elim)
      have hP : va_P D vwCl (w_Wd k ad_this (ad_this_keywords 0) u4 ++ w_Kw k ad_this_keywords z_this_keywords) H := hP.sub [2, 3, 4, 5, 6, 7, 0, 1] rfl
      have hD : va_D A (w_Wd k ad_this (ad_this_keywords 0) u4 ++ w_Kw k ad_this_keywords z_this_keywords) := hD.sub [2, 3, 4, 5, 6, 7, 0, 1] (by decide) rfl
      refine lv_aload_n hx hb d_Wd_splitWord_43 rfl (lv_at hl 1 rfl) ?_
      refine lv_dup hx hb d_Wd_splitWord_44 rfl ?_
      refine va_get (D := D) (ci := 2) (v := .int u4.2.2.2.2.2.2.2.2.1) (C := R_Wd) (T := F_Wd) (N := 15) hx hb hts in_Wd hown hK hP 0 rfl rfl 9 (by decide) (hts (.fieldLink R_Wd 37 R_Wd "scan" "I") kw1_106) (fun _ h9 => h9) rfl d_Wd_splitWord_45 ?_
      refine lv_iconst (v := (1 : Int32)) hx hb d_Wd_splitWord_48 (by decide) ?_
      refine lv_iadd hx hb d_Wd_splitWord_49 ?_
      refine va_put (D := D) (ci := 2) (v := .int (u4.2.2.2.2.2.2.2.2.1 + (1 : Int32))) (ty := .int) (C := R_Wd) (T := F_Wd) (N := 15) hx hb hts in_Wd t_Wd t_Wd_ok n_Wd hown hK hP hD hS 0 rfl rfl 9 (by decide) (hts (.fieldLink R_Wd 37 R_Wd "scan" "I") kw1_106) (fun _ h9 => h9) rfl (by decide +kernel) rfl rfl (Nat.le_of_ble_eq_true rfl) d_Wd_splitWord_50 (fun H locs hP hD hS => ?_)
      have hP : va_P D vwCl (w_Wd k ad_this (ad_this_keywords 0) (u4.1, u4.2.1, u4.2.2.1, u4.2.2.2.1, u4.2.2.2.2.1, u4.2.2.2.2.2.1, u4.2.2.2.2.2.2.1, u4.2.2.2.2.2.2.2.1, (u4.2.2.2.2.2.2.2.2.1 + (1 : Int32)), u4.2.2.2.2.2.2.2.2.2.1, u4.2.2.2.2.2.2.2.2.2.2.1, u4.2.2.2.2.2.2.2.2.2.2.2.1, u4.2.2.2.2.2.2.2.2.2.2.2.2.1, u4.2.2.2.2.2.2.2.2.2.2.2.2.2) ++ w_Kw k ad_this_keywords z_this_keywords) H := hP
      have hD : va_D A (w_Wd k ad_this (ad_this_keywords 0) (u4.1, u4.2.1, u4.2.2.1, u4.2.2.2.1, u4.2.2.2.2.1, u4.2.2.2.2.2.1, u4.2.2.2.2.2.2.1, u4.2.2.2.2.2.2.2.1, (u4.2.2.2.2.2.2.2.2.1 + (1 : Int32)), u4.2.2.2.2.2.2.2.2.2.1, u4.2.2.2.2.2.2.2.2.2.2.1, u4.2.2.2.2.2.2.2.2.2.2.2.1, u4.2.2.2.2.2.2.2.2.2.2.2.2.1, u4.2.2.2.2.2.2.2.2.2.2.2.2.2) ++ w_Kw k ad_this_keywords z_this_keywords) := hD
      refine lv_iload_n hx hb d_Wd_splitWord_53 rfl (lv_at hl 0 rfl) ?_
      refine lv_if_eq (tgt := 61) hx hb d_Wd_splitWord_54 (by decide) (fun hc => ?_) (fun hc => ?_)
      · have hw := hw.1 hc
        refine lv_iconst (v := (0 : Int32)) hx hb d_Wd_splitWord_61 (by decide) ?_
        exact xq_zret (r := (0 : Int32)) (u := (u4.1, u4.2.1, u4.2.2.1, u4.2.2.2.1, u4.2.2.2.2.1, u4.2.2.2.2.2.1, u4.2.2.2.2.2.2.1, u4.2.2.2.2.2.2.2.1, (u4.2.2.2.2.2.2.2.2.1 + (1 : Int32)), u4.2.2.2.2.2.2.2.2.2.1, u4.2.2.2.2.2.2.2.2.2.2.1, u4.2.2.2.2.2.2.2.2.2.2.2.1, u4.2.2.2.2.2.2.2.2.2.2.2.2.1, u4.2.2.2.2.2.2.2.2.2.2.2.2.2)) hx hb hr hlocks hAe hP hD hS rfl rfl hw (Nat.le_of_ble_eq_true rfl) (Nat.le_of_ble_eq_true rfl) d_Wd_splitWord_62
      · have hw := hw.2 hc
        refine lv_iconst (v := (1 : Int32)) hx hb d_Wd_splitWord_57 (by decide) ?_
        refine lv_goto (tgt := 62) hx hb d_Wd_splitWord_58 (by decide) ?_
        exact xq_zret (r := (1 : Int32)) (u := (u4.1, u4.2.1, u4.2.2.1, u4.2.2.2.1, u4.2.2.2.2.1, u4.2.2.2.2.2.1, u4.2.2.2.2.2.2.1, u4.2.2.2.2.2.2.2.1, (u4.2.2.2.2.2.2.2.2.1 + (1 : Int32)), u4.2.2.2.2.2.2.2.2.2.1, u4.2.2.2.2.2.2.2.2.2.2.1, u4.2.2.2.2.2.2.2.2.2.2.2.1, u4.2.2.2.2.2.2.2.2.2.2.2.2.1, u4.2.2.2.2.2.2.2.2.2.2.2.2.2)) hx hb hr hlocks hAe hP hD hS rfl rfl hw (Nat.le_of_ble_eq_true rfl) (Nat.le_of_ble_eq_true rfl) d_Wd_splitWord_62
    · have hw := hw.2 hc
      refine lv_aload_n hx hb d_Wd_splitWord_28 rfl (lv_at hl 1 rfl) ?_
      refine xq_go (wr := ([] : va_W)) (stk := fun r => .int r :: []) (xq_runV (As := []) (rest := []) ⟨hx, hb, hml, hown, hts⟩ (c_Wd_splitLetters (l := l) (o := o) (D := D) (k := k) (ad_this := ad_this) (ad_this_keywords := ad_this_keywords) hw) (cw_Wd_splitLetters hts kw2_116 ⟨Nat.le_of_ble_eq_true rfl, Nat.le_of_ble_eq_true rfl⟩) (va_recv hK hP (ci := 2) (q0 := 0) rfl rfl) (hP.sub [0, 1, 2, 3, 4, 5, 6, 7] rfl) hK hJ hS (va_free hD hS hA [0, 1, 2, 3, 4, 5, 6, 7] rfl) ((hD.sub [0, 1, 2, 3, 4, 5, 6, 7] (by decide) rfl).weaken (fun _ _ _ _ => trivial)) rfl hl.1 (Nat.le_of_ble_eq_true rfl) d_Wd_splitWord_29 ⟨Nat.le_of_ble_eq_true rfl, Nat.le_of_ble_eq_true rfl⟩) hP hD hS hA [0, 1, 2, 3, 4, 5, 6, 7] [] rfl rfl (by decide) (by decide) (fun _ => rfl) (fun r5 u5 H locs hw hP hD hS => ?_) (fun _ _ _ _ h9 => h9.elim)
      have hP : va_P D vwCl (w_Wd k ad_this (ad_this_keywords 0) u5 ++ w_Kw k ad_this_keywords z_this_keywords) H := hP.sub [0, 1, 2, 3, 4, 5, 6, 7] rfl
      have hD : va_D A (w_Wd k ad_this (ad_this_keywords 0) u5 ++ w_Kw k ad_this_keywords z_this_keywords) := hD.sub [0, 1, 2, 3, 4, 5, 6, 7] (by decide) rfl
      exact xq_zret (r := r5) (u := u5) hx hb hr hlocks hAe hP hD hS rfl hw.1 hw.2 (Nat.le_of_ble_eq_true rfl) (Nat.le_of_ble_eq_true rfl) d_Wd_splitWord_32
  · have hw := hw.2 hc
    refine lv_aload_n hx hb d_Wd_splitWord_16 rfl (lv_at hl 1 rfl) ?_
    refine xq_go (wr := w_Kw k ad_this_keywords z_this_keywords) (stk := fun r => .int r :: []) (xq_runV (As := []) (rest := []) ⟨hx, hb, hml, hown, hts⟩ (c_Wd_splitNumber (l := l) (o := o) (D := D) (k := k) (ad_this := ad_this) (q_this_keywords := (ad_this_keywords 0)) hw) (cw_Wd_splitNumber hts kw2_101 ⟨Nat.le_of_ble_eq_true rfl, Nat.le_of_ble_eq_true rfl⟩) (va_recv hK hP (ci := 2) (q0 := 0) rfl rfl) (hP.sub [0, 1, 2, 3, 4, 5] rfl) hK hJ hS (va_free hD hS hA [0, 1, 2, 3, 4, 5] rfl) ((hD.sub [0, 1, 2, 3, 4, 5] (by decide) rfl).weaken (fun _ _ _ _ => trivial)) rfl hl.1 (Nat.le_of_ble_eq_true rfl) d_Wd_splitWord_17 ⟨Nat.le_of_ble_eq_true rfl, Nat.le_of_ble_eq_true rfl⟩) hP hD hS hA [0, 1, 2, 3, 4, 5] [6, 7] rfl rfl (by decide) (by decide) (fun _ => rfl) (fun r6 u6 H locs hw hP hD hS => ?_) (fun _ _ _ _ h9 => h9.elim)
    have hP : va_P D vwCl (w_Wd k ad_this (ad_this_keywords 0) u6 ++ w_Kw k ad_this_keywords z_this_keywords) H := hP.sub [2, 3, 4, 5, 6, 7, 0, 1] rfl
    have hD : va_D A (w_Wd k ad_this (ad_this_keywords 0) u6 ++ w_Kw k ad_this_keywords z_this_keywords) := hD.sub [2, 3, 4, 5, 6, 7, 0, 1] (by decide) rfl
    exact xq_zret (r := r6) (u := u6) hx hb hr hlocks hAe hP hD hS rfl hw.1 hw.2 (Nat.le_of_ble_eq_true rfl) (Nat.le_of_ble_eq_true rfl) d_Wd_splitWord_20
theorem cw_Wd_splitWord {R : Room} {s : State} {args : Array Value} {own : String} {index : Nat} (hts : ∀ w ∈ xq_W, w.before args s = true) (hl : .methodLink own index y_Wd_splitWord ∈ xq_W) {rm : Room} (hR : rm.frames + 1 ≤ R.frames ∧ 8 + (2 + 11) + rm.locals ≤ R.locals) : CallW R s args own "StepText$Words" index y_Wd_splitWord prog_8_method_7_code 2 (some (.boolean)) (.code y_Wd_splitWord prog_8_method_7_code 2 (some (.boolean)) :: xq_W) rm rm.cells rm.slots 0 := ⟨xq_cb 0 hts kw2_97 kw1_7 hl ⟨by decide, by decide, by decide +kernel⟩ hR, hts _ kw2_96, hts _ kp1_2⟩
def y_Wd_advance : MethodName := ⟨"StepText$Words", "advance", "()V"⟩
theorem d_Wd_advance_0 : decode prog_8_method_5_code 0 = .ok (.aload_n 0, 1) := by decide +kernel
theorem d_Wd_advance_1 : decode prog_8_method_5_code 1 = .ok (.getfield 56, 3) := by decide +kernel
theorem d_Wd_advance_4 : decode prog_8_method_5_code 4 = .ok (.aload_n 0, 1) := by decide +kernel
theorem d_Wd_advance_5 : decode prog_8_method_5_code 5 = .ok (.getfield 43, 3) := by decide +kernel
theorem d_Wd_advance_8 : decode prog_8_method_5_code 8 = .ok (.iconst 1, 1) := by decide +kernel
theorem d_Wd_advance_9 : decode prog_8_method_5_code 9 = .ok (.isub, 1) := by decide +kernel
theorem d_Wd_advance_10 : decode prog_8_method_5_code 10 = .ok (.if_icmp .ge 23, 3) := by decide +kernel
theorem d_Wd_advance_13 : decode prog_8_method_5_code 13 = .ok (.aload_n 0, 1) := by decide +kernel
theorem d_Wd_advance_14 : decode prog_8_method_5_code 14 = .ok (.getfield 56, 3) := by decide +kernel
theorem d_Wd_advance_17 : decode prog_8_method_5_code 17 = .ok (.sipush 4000, 3) := by decide +kernel
theorem d_Wd_advance_20 : decode prog_8_method_5_code 20 = .ok (.if_icmp .ge 13, 3) := by decide +kernel
theorem d_Wd_advance_23 : decode prog_8_method_5_code 23 = .ok (.aload_n 0, 1) := by decide +kernel
theorem d_Wd_advance_24 : decode prog_8_method_5_code 24 = .ok (.dup, 1) := by decide +kernel
theorem d_Wd_advance_25 : decode prog_8_method_5_code 25 = .ok (.getfield 56, 3) := by decide +kernel
theorem d_Wd_advance_28 : decode prog_8_method_5_code 28 = .ok (.iconst 1, 1) := by decide +kernel
theorem d_Wd_advance_29 : decode prog_8_method_5_code 29 = .ok (.iadd, 1) := by decide +kernel
theorem d_Wd_advance_30 : decode prog_8_method_5_code 30 = .ok (.putfield 56, 3) := by decide +kernel
theorem d_Wd_advance_33 : decode prog_8_method_5_code 33 = .ok (.aload_n 0, 1) := by decide +kernel
theorem d_Wd_advance_34 : decode prog_8_method_5_code 34 = .ok (.getfield 56, 3) := by decide +kernel
theorem d_Wd_advance_37 : decode prog_8_method_5_code 37 = .ok (.ifCond .lt 55, 3) := by decide +kernel
theorem d_Wd_advance_40 : decode prog_8_method_5_code 40 = .ok (.aload_n 0, 1) := by decide +kernel
theorem d_Wd_advance_41 : decode prog_8_method_5_code 41 = .ok (.aload_n 0, 1) := by decide +kernel
theorem d_Wd_advance_42 : decode prog_8_method_5_code 42 = .ok (.getfield 15, 3) := by decide +kernel
theorem d_Wd_advance_45 : decode prog_8_method_5_code 45 = .ok (.aload_n 0, 1) := by decide +kernel
theorem d_Wd_advance_46 : decode prog_8_method_5_code 46 = .ok (.getfield 56, 3) := by decide +kernel
theorem d_Wd_advance_49 : decode prog_8_method_5_code 49 = .ok (.iaload, 1) := by decide +kernel
theorem d_Wd_advance_50 : decode prog_8_method_5_code 50 = .ok (.putfield 62, 3) := by decide +kernel
theorem d_Wd_advance_53 : decode prog_8_method_5_code 53 = .ok (.aload_n 0, 1) := by decide +kernel
theorem d_Wd_advance_54 : decode prog_8_method_5_code 54 = .ok (.aload_n 0, 1) := by decide +kernel
theorem d_Wd_advance_55 : decode prog_8_method_5_code 55 = .ok (.getfield 19, 3) := by decide +kernel
theorem d_Wd_advance_58 : decode prog_8_method_5_code 58 = .ok (.aload_n 0, 1) := by decide +kernel
theorem d_Wd_advance_59 : decode prog_8_method_5_code 59 = .ok (.getfield 56, 3) := by decide +kernel
theorem d_Wd_advance_62 : decode prog_8_method_5_code 62 = .ok (.iaload, 1) := by decide +kernel
theorem d_Wd_advance_63 : decode prog_8_method_5_code 63 = .ok (.putfield 65, 3) := by decide +kernel
theorem d_Wd_advance_66 : decode prog_8_method_5_code 66 = .ok (.aload_n 0, 1) := by decide +kernel
theorem d_Wd_advance_67 : decode prog_8_method_5_code 67 = .ok (.aload_n 0, 1) := by decide +kernel
theorem d_Wd_advance_68 : decode prog_8_method_5_code 68 = .ok (.getfield 22, 3) := by decide +kernel
theorem d_Wd_advance_71 : decode prog_8_method_5_code 71 = .ok (.aload_n 0, 1) := by decide +kernel
theorem d_Wd_advance_72 : decode prog_8_method_5_code 72 = .ok (.getfield 56, 3) := by decide +kernel
theorem d_Wd_advance_75 : decode prog_8_method_5_code 75 = .ok (.iaload, 1) := by decide +kernel
theorem d_Wd_advance_76 : decode prog_8_method_5_code 76 = .ok (.putfield 68, 3) := by decide +kernel
theorem d_Wd_advance_79 : decode prog_8_method_5_code 79 = .ok (.aload_n 0, 1) := by decide +kernel
theorem d_Wd_advance_80 : decode prog_8_method_5_code 80 = .ok (.aload_n 0, 1) := by decide +kernel
theorem d_Wd_advance_81 : decode prog_8_method_5_code 81 = .ok (.getfield 25, 3) := by decide +kernel
theorem d_Wd_advance_84 : decode prog_8_method_5_code 84 = .ok (.aload_n 0, 1) := by decide +kernel
theorem d_Wd_advance_85 : decode prog_8_method_5_code 85 = .ok (.getfield 56, 3) := by decide +kernel
theorem d_Wd_advance_88 : decode prog_8_method_5_code 88 = .ok (.laload, 1) := by decide +kernel
theorem d_Wd_advance_89 : decode prog_8_method_5_code 89 = .ok (.putfield 71, 3) := by decide +kernel
theorem d_Wd_advance_92 : decode prog_8_method_5_code 92 = .ok (.return_, 1) := by decide +kernel
def wp_Wd_advance (z_this : T_Wd) (post : Unit → T_Wd → Prop) : Prop := ((z_this.2.2.2.2.2.2.1 - (1 : Int32)) ≤ z_this.2.2.2.2.2.2.2.1 → ((z_this.2.2.2.2.2.2.2.1 < 0 → (post () z_this)) ∧ (¬ z_this.2.2.2.2.2.2.2.1 < 0 → (vp_in z_this.2.2.2.2.2.2.2.1 4001 ∧ (vp_in z_this.2.2.2.2.2.2.2.1 4001 ∧ (vp_in z_this.2.2.2.2.2.2.2.1 4001 ∧ (vp_in z_this.2.2.2.2.2.2.2.1 4001 ∧ (post () (z_this.1, z_this.2.1, z_this.2.2.1, z_this.2.2.2.1, z_this.2.2.2.2.1, z_this.2.2.2.2.2.1, z_this.2.2.2.2.2.2.1, z_this.2.2.2.2.2.2.2.1, z_this.2.2.2.2.2.2.2.2.1, z_this.2.2.2.2.2.2.2.2.2.1, (z_this.2.1 (z_this.2.2.2.2.2.2.2.1).toNatClampNeg), (z_this.2.2.1 (z_this.2.2.2.2.2.2.2.1).toNatClampNeg), (z_this.2.2.2.1 (z_this.2.2.2.2.2.2.2.1).toNatClampNeg), (z_this.2.2.2.2.1 (z_this.2.2.2.2.2.2.2.1).toNatClampNeg)))))))))) ∧ (¬ (z_this.2.2.2.2.2.2.1 - (1 : Int32)) ≤ z_this.2.2.2.2.2.2.2.1 → (((4000 : Int32) ≤ z_this.2.2.2.2.2.2.2.1 → ((z_this.2.2.2.2.2.2.2.1 < 0 → (post () z_this)) ∧ (¬ z_this.2.2.2.2.2.2.2.1 < 0 → (vp_in z_this.2.2.2.2.2.2.2.1 4001 ∧ (vp_in z_this.2.2.2.2.2.2.2.1 4001 ∧ (vp_in z_this.2.2.2.2.2.2.2.1 4001 ∧ (vp_in z_this.2.2.2.2.2.2.2.1 4001 ∧ (post () (z_this.1, z_this.2.1, z_this.2.2.1, z_this.2.2.2.1, z_this.2.2.2.2.1, z_this.2.2.2.2.2.1, z_this.2.2.2.2.2.2.1, z_this.2.2.2.2.2.2.2.1, z_this.2.2.2.2.2.2.2.2.1, z_this.2.2.2.2.2.2.2.2.2.1, (z_this.2.1 (z_this.2.2.2.2.2.2.2.1).toNatClampNeg), (z_this.2.2.1 (z_this.2.2.2.2.2.2.2.1).toNatClampNeg), (z_this.2.2.2.1 (z_this.2.2.2.2.2.2.2.1).toNatClampNeg), (z_this.2.2.2.2.1 (z_this.2.2.2.2.2.2.2.1).toNatClampNeg)))))))))) ∧ (¬ (4000 : Int32) ≤ z_this.2.2.2.2.2.2.2.1 → (((z_this.2.2.2.2.2.2.2.1 + (1 : Int32)) < 0 → (post () (z_this.1, z_this.2.1, z_this.2.2.1, z_this.2.2.2.1, z_this.2.2.2.2.1, z_this.2.2.2.2.2.1, z_this.2.2.2.2.2.2.1, (z_this.2.2.2.2.2.2.2.1 + (1 : Int32)), z_this.2.2.2.2.2.2.2.2.1, z_this.2.2.2.2.2.2.2.2.2.1, z_this.2.2.2.2.2.2.2.2.2.2.1, z_this.2.2.2.2.2.2.2.2.2.2.2.1, z_this.2.2.2.2.2.2.2.2.2.2.2.2.1, z_this.2.2.2.2.2.2.2.2.2.2.2.2.2))) ∧ (¬ (z_this.2.2.2.2.2.2.2.1 + (1 : Int32)) < 0 → (vp_in (z_this.2.2.2.2.2.2.2.1 + (1 : Int32)) 4001 ∧ (vp_in (z_this.2.2.2.2.2.2.2.1 + (1 : Int32)) 4001 ∧ (vp_in (z_this.2.2.2.2.2.2.2.1 + (1 : Int32)) 4001 ∧ (vp_in (z_this.2.2.2.2.2.2.2.1 + (1 : Int32)) 4001 ∧ (post () (z_this.1, z_this.2.1, z_this.2.2.1, z_this.2.2.2.1, z_this.2.2.2.2.1, z_this.2.2.2.2.2.1, z_this.2.2.2.2.2.2.1, (z_this.2.2.2.2.2.2.2.1 + (1 : Int32)), z_this.2.2.2.2.2.2.2.2.1, z_this.2.2.2.2.2.2.2.2.2.1, (z_this.2.1 ((z_this.2.2.2.2.2.2.2.1 + (1 : Int32))).toNatClampNeg), (z_this.2.2.1 ((z_this.2.2.2.2.2.2.2.1 + (1 : Int32))).toNatClampNeg), (z_this.2.2.2.1 ((z_this.2.2.2.2.2.2.2.1 + (1 : Int32))).toNatClampNeg), (z_this.2.2.2.2.1 ((z_this.2.2.2.2.2.2.2.1 + (1 : Int32))).toNatClampNeg))))))))))))
def rm_Wd_advance : Room := { frames := 0, cells := 0, slots := 0, locals := 0 }
set_option maxHeartbeats 4000000 in
set_option maxRecDepth 100000 in
theorem c_Wd_advance {l : Launch} {o : State × Array Value} {D : va_G} {k : Nat → ClassId} {ad_this : Nat → Nat} {q_this_keywords : Nat} {z_this : T_Wd} {post : Unit → T_Wd → Prop} (hw : wp_Wd_advance z_this post) : xq_C l o y_Wd_advance (.code y_Wd_advance prog_8_method_5_code 1 none :: xq_W) rm_Wd_advance D vwCl (xt k) [.ref (ad_this 0)] (w_Wd k ad_this q_this_keywords z_this) (fun _ : Unit => none) post (fun _ : T_Wd => False) (fun u : T_Wd => w_Wd k ad_this q_this_keywords u) 0 0 0 0 := by
  refine xq_ofW (cc := prog_8_method_5_code) (maxL := 1) (ret := none) (by decide) rfl (Nat.le_of_ble_eq_true rfl) ?_
  intro p e s m below meth c ls H locs A hAt hAe hA hl hK hJ hP0 hP hD hS
  obtain ⟨hx, hb, hml, hr, hlocks, hown, hts, hex, hnm⟩ := id hAt
  have hl : lv_has ls 1 [(0, .ref (ad_this 0))] := hl
  unfold wp_Wd_advance at hw
  refine lv_aload_n hx hb d_Wd_advance_0 rfl (lv_at hl 0 rfl) ?_
  refine va_get (D := D) (ci := 2) (v := .int z_this.2.2.2.2.2.2.2.1) (C := R_Wd) (T := F_Wd) (N := 15) hx hb hts in_Wd hown hK hP 0 rfl rfl 8 (by decide) (hts (.fieldLink R_Wd 56 R_Wd "current" "I") kw1_105) (fun _ h9 => h9) rfl d_Wd_advance_1 ?_
  refine lv_aload_n hx hb d_Wd_advance_4 rfl (lv_at hl 0 rfl) ?_
  refine va_get (D := D) (ci := 2) (v := .int z_this.2.2.2.2.2.2.1) (C := R_Wd) (T := F_Wd) (N := 15) hx hb hts in_Wd hown hK hP 0 rfl rfl 7 (by decide) (hts (.fieldLink R_Wd 43 R_Wd "count" "I") kw1_104) (fun _ h9 => h9) rfl d_Wd_advance_5 ?_
  refine lv_iconst (v := (1 : Int32)) hx hb d_Wd_advance_8 (by decide) ?_
  refine lv_isub hx hb d_Wd_advance_9 ?_
  refine lv_icmp_ge (tgt := 33) hx hb d_Wd_advance_10 (by decide) (fun hc => ?_) (fun hc => ?_)
  · have hw := hw.1 hc
    refine lv_aload_n hx hb d_Wd_advance_33 rfl (lv_at hl 0 rfl) ?_
    refine va_get (D := D) (ci := 2) (v := .int z_this.2.2.2.2.2.2.2.1) (C := R_Wd) (T := F_Wd) (N := 15) hx hb hts in_Wd hown hK hP 0 rfl rfl 8 (by decide) (hts (.fieldLink R_Wd 56 R_Wd "current" "I") kw1_105) (fun _ h9 => h9) rfl d_Wd_advance_34 ?_
    refine lv_if_lt (tgt := 92) hx hb d_Wd_advance_37 (by decide) (fun hc => ?_) (fun hc => ?_)
    · have hw := hw.1 hc
      exact xq_vret (r := ()) (u := z_this) hx hb hr hlocks hAe hP hD hS rfl hw (Nat.le_of_ble_eq_true rfl) (Nat.le_of_ble_eq_true rfl) d_Wd_advance_92
    · have hw := hw.2 hc
      refine lv_aload_n hx hb d_Wd_advance_40 rfl (lv_at hl 0 rfl) ?_
      refine lv_aload_n hx hb d_Wd_advance_41 rfl (lv_at hl 0 rfl) ?_
      refine va_get (D := D) (ci := 2) (v := .ref (ad_this 2)) (C := R_Wd) (T := F_Wd) (N := 15) hx hb hts in_Wd hown hK hP 0 rfl rfl 2 (by decide) (hts (.fieldLink R_Wd 15 R_Wd "codes" "[I") kw1_99) (fun _ h9 => h9) rfl d_Wd_advance_42 ?_
      refine lv_aload_n hx hb d_Wd_advance_45 rfl (lv_at hl 0 rfl) ?_
      refine va_get (D := D) (ci := 2) (v := .int z_this.2.2.2.2.2.2.2.1) (C := R_Wd) (T := F_Wd) (N := 15) hx hb hts in_Wd hown hK hP 0 rfl rfl 8 (by decide) (hts (.fieldLink R_Wd 56 R_Wd "current" "I") kw1_105) (fun _ h9 => h9) rfl d_Wd_advance_46 ?_
      refine va_iald hx hb hK hP 2 0 rfl rfl hw.1 d_Wd_advance_49 ?_
      have hw := hw.2
      refine va_put (D := D) (ci := 2) (v := .int (z_this.2.1 (z_this.2.2.2.2.2.2.2.1).toNatClampNeg)) (ty := .int) (C := R_Wd) (T := F_Wd) (N := 15) hx hb hts in_Wd t_Wd t_Wd_ok n_Wd hown hK hP hD hS 0 rfl rfl 11 (by decide) (hts (.fieldLink R_Wd 62 R_Wd "code" "I") kw1_109) (fun _ h9 => h9) rfl (by decide +kernel) rfl rfl (Nat.le_of_ble_eq_true rfl) d_Wd_advance_50 (fun H locs hP hD hS => ?_)
      have hP : va_P D vwCl (w_Wd k ad_this q_this_keywords (z_this.1, z_this.2.1, z_this.2.2.1, z_this.2.2.2.1, z_this.2.2.2.2.1, z_this.2.2.2.2.2.1, z_this.2.2.2.2.2.2.1, z_this.2.2.2.2.2.2.2.1, z_this.2.2.2.2.2.2.2.2.1, z_this.2.2.2.2.2.2.2.2.2.1, (z_this.2.1 (z_this.2.2.2.2.2.2.2.1).toNatClampNeg), z_this.2.2.2.2.2.2.2.2.2.2.2.1, z_this.2.2.2.2.2.2.2.2.2.2.2.2.1, z_this.2.2.2.2.2.2.2.2.2.2.2.2.2)) H := hP
      have hD : va_D A (w_Wd k ad_this q_this_keywords (z_this.1, z_this.2.1, z_this.2.2.1, z_this.2.2.2.1, z_this.2.2.2.2.1, z_this.2.2.2.2.2.1, z_this.2.2.2.2.2.2.1, z_this.2.2.2.2.2.2.2.1, z_this.2.2.2.2.2.2.2.2.1, z_this.2.2.2.2.2.2.2.2.2.1, (z_this.2.1 (z_this.2.2.2.2.2.2.2.1).toNatClampNeg), z_this.2.2.2.2.2.2.2.2.2.2.2.1, z_this.2.2.2.2.2.2.2.2.2.2.2.2.1, z_this.2.2.2.2.2.2.2.2.2.2.2.2.2)) := hD
      refine lv_aload_n hx hb d_Wd_advance_53 rfl (lv_at hl 0 rfl) ?_
      refine lv_aload_n hx hb d_Wd_advance_54 rfl (lv_at hl 0 rfl) ?_
      refine va_get (D := D) (ci := 2) (v := .ref (ad_this 3)) (C := R_Wd) (T := F_Wd) (N := 15) hx hb hts in_Wd hown hK hP 0 rfl rfl 3 (by decide) (hts (.fieldLink R_Wd 19 R_Wd "places" "[I") kw1_100) (fun _ h9 => h9) rfl d_Wd_advance_55 ?_
      refine lv_aload_n hx hb d_Wd_advance_58 rfl (lv_at hl 0 rfl) ?_
      refine va_get (D := D) (ci := 2) (v := .int z_this.2.2.2.2.2.2.2.1) (C := R_Wd) (T := F_Wd) (N := 15) hx hb hts in_Wd hown hK hP 0 rfl rfl 8 (by decide) (hts (.fieldLink R_Wd 56 R_Wd "current" "I") kw1_105) (fun _ h9 => h9) rfl d_Wd_advance_59 ?_
      refine va_iald hx hb hK hP 3 0 rfl rfl hw.1 d_Wd_advance_62 ?_
      have hw := hw.2
      refine va_put (D := D) (ci := 2) (v := .int (z_this.2.2.1 (z_this.2.2.2.2.2.2.2.1).toNatClampNeg)) (ty := .int) (C := R_Wd) (T := F_Wd) (N := 15) hx hb hts in_Wd t_Wd t_Wd_ok n_Wd hown hK hP hD hS 0 rfl rfl 12 (by decide) (hts (.fieldLink R_Wd 65 R_Wd "place" "I") kw1_110) (fun _ h9 => h9) rfl (by decide +kernel) rfl rfl (Nat.le_of_ble_eq_true rfl) d_Wd_advance_63 (fun H locs hP hD hS => ?_)
      have hP : va_P D vwCl (w_Wd k ad_this q_this_keywords (z_this.1, z_this.2.1, z_this.2.2.1, z_this.2.2.2.1, z_this.2.2.2.2.1, z_this.2.2.2.2.2.1, z_this.2.2.2.2.2.2.1, z_this.2.2.2.2.2.2.2.1, z_this.2.2.2.2.2.2.2.2.1, z_this.2.2.2.2.2.2.2.2.2.1, (z_this.2.1 (z_this.2.2.2.2.2.2.2.1).toNatClampNeg), (z_this.2.2.1 (z_this.2.2.2.2.2.2.2.1).toNatClampNeg), z_this.2.2.2.2.2.2.2.2.2.2.2.2.1, z_this.2.2.2.2.2.2.2.2.2.2.2.2.2)) H := hP
      have hD : va_D A (w_Wd k ad_this q_this_keywords (z_this.1, z_this.2.1, z_this.2.2.1, z_this.2.2.2.1, z_this.2.2.2.2.1, z_this.2.2.2.2.2.1, z_this.2.2.2.2.2.2.1, z_this.2.2.2.2.2.2.2.1, z_this.2.2.2.2.2.2.2.2.1, z_this.2.2.2.2.2.2.2.2.2.1, (z_this.2.1 (z_this.2.2.2.2.2.2.2.1).toNatClampNeg), (z_this.2.2.1 (z_this.2.2.2.2.2.2.2.1).toNatClampNeg), z_this.2.2.2.2.2.2.2.2.2.2.2.2.1, z_this.2.2.2.2.2.2.2.2.2.2.2.2.2)) := hD
      refine lv_aload_n hx hb d_Wd_advance_66 rfl (lv_at hl 0 rfl) ?_
      refine lv_aload_n hx hb d_Wd_advance_67 rfl (lv_at hl 0 rfl) ?_
      refine va_get (D := D) (ci := 2) (v := .ref (ad_this 4)) (C := R_Wd) (T := F_Wd) (N := 15) hx hb hts in_Wd hown hK hP 0 rfl rfl 4 (by decide) (hts (.fieldLink R_Wd 22 R_Wd "rows" "[I") kw1_101) (fun _ h9 => h9) rfl d_Wd_advance_68 ?_
      refine lv_aload_n hx hb d_Wd_advance_71 rfl (lv_at hl 0 rfl) ?_
      refine va_get (D := D) (ci := 2) (v := .int z_this.2.2.2.2.2.2.2.1) (C := R_Wd) (T := F_Wd) (N := 15) hx hb hts in_Wd hown hK hP 0 rfl rfl 8 (by decide) (hts (.fieldLink R_Wd 56 R_Wd "current" "I") kw1_105) (fun _ h9 => h9) rfl d_Wd_advance_72 ?_
      refine va_iald hx hb hK hP 4 0 rfl rfl hw.1 d_Wd_advance_75 ?_
      have hw := hw.2
      refine va_put (D := D) (ci := 2) (v := .int (z_this.2.2.2.1 (z_this.2.2.2.2.2.2.2.1).toNatClampNeg)) (ty := .int) (C := R_Wd) (T := F_Wd) (N := 15) hx hb hts in_Wd t_Wd t_Wd_ok n_Wd hown hK hP hD hS 0 rfl rfl 13 (by decide) (hts (.fieldLink R_Wd 68 R_Wd "row" "I") kw1_113) (fun _ h9 => h9) rfl (by decide +kernel) rfl rfl (Nat.le_of_ble_eq_true rfl) d_Wd_advance_76 (fun H locs hP hD hS => ?_)
      have hP : va_P D vwCl (w_Wd k ad_this q_this_keywords (z_this.1, z_this.2.1, z_this.2.2.1, z_this.2.2.2.1, z_this.2.2.2.2.1, z_this.2.2.2.2.2.1, z_this.2.2.2.2.2.2.1, z_this.2.2.2.2.2.2.2.1, z_this.2.2.2.2.2.2.2.2.1, z_this.2.2.2.2.2.2.2.2.2.1, (z_this.2.1 (z_this.2.2.2.2.2.2.2.1).toNatClampNeg), (z_this.2.2.1 (z_this.2.2.2.2.2.2.2.1).toNatClampNeg), (z_this.2.2.2.1 (z_this.2.2.2.2.2.2.2.1).toNatClampNeg), z_this.2.2.2.2.2.2.2.2.2.2.2.2.2)) H := hP
      have hD : va_D A (w_Wd k ad_this q_this_keywords (z_this.1, z_this.2.1, z_this.2.2.1, z_this.2.2.2.1, z_this.2.2.2.2.1, z_this.2.2.2.2.2.1, z_this.2.2.2.2.2.2.1, z_this.2.2.2.2.2.2.2.1, z_this.2.2.2.2.2.2.2.2.1, z_this.2.2.2.2.2.2.2.2.2.1, (z_this.2.1 (z_this.2.2.2.2.2.2.2.1).toNatClampNeg), (z_this.2.2.1 (z_this.2.2.2.2.2.2.2.1).toNatClampNeg), (z_this.2.2.2.1 (z_this.2.2.2.2.2.2.2.1).toNatClampNeg), z_this.2.2.2.2.2.2.2.2.2.2.2.2.2)) := hD
      refine lv_aload_n hx hb d_Wd_advance_79 rfl (lv_at hl 0 rfl) ?_
      refine lv_aload_n hx hb d_Wd_advance_80 rfl (lv_at hl 0 rfl) ?_
      refine va_get (D := D) (ci := 2) (v := .ref (ad_this 5)) (C := R_Wd) (T := F_Wd) (N := 15) hx hb hts in_Wd hown hK hP 0 rfl rfl 5 (by decide) (hts (.fieldLink R_Wd 25 R_Wd "values" "[J") kw1_102) (fun _ h9 => h9) rfl d_Wd_advance_81 ?_
      refine lv_aload_n hx hb d_Wd_advance_84 rfl (lv_at hl 0 rfl) ?_
      refine va_get (D := D) (ci := 2) (v := .int z_this.2.2.2.2.2.2.2.1) (C := R_Wd) (T := F_Wd) (N := 15) hx hb hts in_Wd hown hK hP 0 rfl rfl 8 (by decide) (hts (.fieldLink R_Wd 56 R_Wd "current" "I") kw1_105) (fun _ h9 => h9) rfl d_Wd_advance_85 ?_
      refine va_lald hx hb hK hP 5 1 rfl rfl hw.1 d_Wd_advance_88 ?_
      have hw := hw.2
      refine va_put (D := D) (ci := 2) (v := .long (z_this.2.2.2.2.1 (z_this.2.2.2.2.2.2.2.1).toNatClampNeg)) (ty := .long) (C := R_Wd) (T := F_Wd) (N := 15) hx hb hts in_Wd t_Wd t_Wd_ok n_Wd hown hK hP hD hS 0 rfl rfl 14 (by decide) (hts (.fieldLink R_Wd 71 R_Wd "value" "J") kw1_114) (fun _ h9 => h9) rfl (by decide +kernel) rfl rfl (Nat.le_of_ble_eq_true rfl) d_Wd_advance_89 (fun H locs hP hD hS => ?_)
      have hP : va_P D vwCl (w_Wd k ad_this q_this_keywords (z_this.1, z_this.2.1, z_this.2.2.1, z_this.2.2.2.1, z_this.2.2.2.2.1, z_this.2.2.2.2.2.1, z_this.2.2.2.2.2.2.1, z_this.2.2.2.2.2.2.2.1, z_this.2.2.2.2.2.2.2.2.1, z_this.2.2.2.2.2.2.2.2.2.1, (z_this.2.1 (z_this.2.2.2.2.2.2.2.1).toNatClampNeg), (z_this.2.2.1 (z_this.2.2.2.2.2.2.2.1).toNatClampNeg), (z_this.2.2.2.1 (z_this.2.2.2.2.2.2.2.1).toNatClampNeg), (z_this.2.2.2.2.1 (z_this.2.2.2.2.2.2.2.1).toNatClampNeg))) H := hP
      have hD : va_D A (w_Wd k ad_this q_this_keywords (z_this.1, z_this.2.1, z_this.2.2.1, z_this.2.2.2.1, z_this.2.2.2.2.1, z_this.2.2.2.2.2.1, z_this.2.2.2.2.2.2.1, z_this.2.2.2.2.2.2.2.1, z_this.2.2.2.2.2.2.2.2.1, z_this.2.2.2.2.2.2.2.2.2.1, (z_this.2.1 (z_this.2.2.2.2.2.2.2.1).toNatClampNeg), (z_this.2.2.1 (z_this.2.2.2.2.2.2.2.1).toNatClampNeg), (z_this.2.2.2.1 (z_this.2.2.2.2.2.2.2.1).toNatClampNeg), (z_this.2.2.2.2.1 (z_this.2.2.2.2.2.2.2.1).toNatClampNeg))) := hD
      exact xq_vret (r := ()) (u := (z_this.1, z_this.2.1, z_this.2.2.1, z_this.2.2.2.1, z_this.2.2.2.2.1, z_this.2.2.2.2.2.1, z_this.2.2.2.2.2.2.1, z_this.2.2.2.2.2.2.2.1, z_this.2.2.2.2.2.2.2.2.1, z_this.2.2.2.2.2.2.2.2.2.1, (z_this.2.1 (z_this.2.2.2.2.2.2.2.1).toNatClampNeg), (z_this.2.2.1 (z_this.2.2.2.2.2.2.2.1).toNatClampNeg), (z_this.2.2.2.1 (z_this.2.2.2.2.2.2.2.1).toNatClampNeg), (z_this.2.2.2.2.1 (z_this.2.2.2.2.2.2.2.1).toNatClampNeg))) hx hb hr hlocks hAe hP hD hS rfl hw (Nat.le_of_ble_eq_true rfl) (Nat.le_of_ble_eq_true rfl) d_Wd_advance_92
  · have hw := hw.2 hc
    refine lv_aload_n hx hb d_Wd_advance_13 rfl (lv_at hl 0 rfl) ?_
    refine va_get (D := D) (ci := 2) (v := .int z_this.2.2.2.2.2.2.2.1) (C := R_Wd) (T := F_Wd) (N := 15) hx hb hts in_Wd hown hK hP 0 rfl rfl 8 (by decide) (hts (.fieldLink R_Wd 56 R_Wd "current" "I") kw1_105) (fun _ h9 => h9) rfl d_Wd_advance_14 ?_
    refine lv_sipush (v := (4000 : Int32)) hx hb d_Wd_advance_17 (by decide) ?_
    refine lv_icmp_ge (tgt := 33) hx hb d_Wd_advance_20 (by decide) (fun hc => ?_) (fun hc => ?_)
    · have hw := hw.1 hc
      refine lv_aload_n hx hb d_Wd_advance_33 rfl (lv_at hl 0 rfl) ?_
      refine va_get (D := D) (ci := 2) (v := .int z_this.2.2.2.2.2.2.2.1) (C := R_Wd) (T := F_Wd) (N := 15) hx hb hts in_Wd hown hK hP 0 rfl rfl 8 (by decide) (hts (.fieldLink R_Wd 56 R_Wd "current" "I") kw1_105) (fun _ h9 => h9) rfl d_Wd_advance_34 ?_
      refine lv_if_lt (tgt := 92) hx hb d_Wd_advance_37 (by decide) (fun hc => ?_) (fun hc => ?_)
      · have hw := hw.1 hc
        exact xq_vret (r := ()) (u := z_this) hx hb hr hlocks hAe hP hD hS rfl hw (Nat.le_of_ble_eq_true rfl) (Nat.le_of_ble_eq_true rfl) d_Wd_advance_92
      · have hw := hw.2 hc
        refine lv_aload_n hx hb d_Wd_advance_40 rfl (lv_at hl 0 rfl) ?_
        refine lv_aload_n hx hb d_Wd_advance_41 rfl (lv_at hl 0 rfl) ?_
        refine va_get (D := D) (ci := 2) (v := .ref (ad_this 2)) (C := R_Wd) (T := F_Wd) (N := 15) hx hb hts in_Wd hown hK hP 0 rfl rfl 2 (by decide) (hts (.fieldLink R_Wd 15 R_Wd "codes" "[I") kw1_99) (fun _ h9 => h9) rfl d_Wd_advance_42 ?_
        refine lv_aload_n hx hb d_Wd_advance_45 rfl (lv_at hl 0 rfl) ?_
        refine va_get (D := D) (ci := 2) (v := .int z_this.2.2.2.2.2.2.2.1) (C := R_Wd) (T := F_Wd) (N := 15) hx hb hts in_Wd hown hK hP 0 rfl rfl 8 (by decide) (hts (.fieldLink R_Wd 56 R_Wd "current" "I") kw1_105) (fun _ h9 => h9) rfl d_Wd_advance_46 ?_
        refine va_iald hx hb hK hP 2 0 rfl rfl hw.1 d_Wd_advance_49 ?_
        have hw := hw.2
        refine va_put (D := D) (ci := 2) (v := .int (z_this.2.1 (z_this.2.2.2.2.2.2.2.1).toNatClampNeg)) (ty := .int) (C := R_Wd) (T := F_Wd) (N := 15) hx hb hts in_Wd t_Wd t_Wd_ok n_Wd hown hK hP hD hS 0 rfl rfl 11 (by decide) (hts (.fieldLink R_Wd 62 R_Wd "code" "I") kw1_109) (fun _ h9 => h9) rfl (by decide +kernel) rfl rfl (Nat.le_of_ble_eq_true rfl) d_Wd_advance_50 (fun H locs hP hD hS => ?_)
        have hP : va_P D vwCl (w_Wd k ad_this q_this_keywords (z_this.1, z_this.2.1, z_this.2.2.1, z_this.2.2.2.1, z_this.2.2.2.2.1, z_this.2.2.2.2.2.1, z_this.2.2.2.2.2.2.1, z_this.2.2.2.2.2.2.2.1, z_this.2.2.2.2.2.2.2.2.1, z_this.2.2.2.2.2.2.2.2.2.1, (z_this.2.1 (z_this.2.2.2.2.2.2.2.1).toNatClampNeg), z_this.2.2.2.2.2.2.2.2.2.2.2.1, z_this.2.2.2.2.2.2.2.2.2.2.2.2.1, z_this.2.2.2.2.2.2.2.2.2.2.2.2.2)) H := hP
        have hD : va_D A (w_Wd k ad_this q_this_keywords (z_this.1, z_this.2.1, z_this.2.2.1, z_this.2.2.2.1, z_this.2.2.2.2.1, z_this.2.2.2.2.2.1, z_this.2.2.2.2.2.2.1, z_this.2.2.2.2.2.2.2.1, z_this.2.2.2.2.2.2.2.2.1, z_this.2.2.2.2.2.2.2.2.2.1, (z_this.2.1 (z_this.2.2.2.2.2.2.2.1).toNatClampNeg), z_this.2.2.2.2.2.2.2.2.2.2.2.1, z_this.2.2.2.2.2.2.2.2.2.2.2.2.1, z_this.2.2.2.2.2.2.2.2.2.2.2.2.2)) := hD
        refine lv_aload_n hx hb d_Wd_advance_53 rfl (lv_at hl 0 rfl) ?_
        refine lv_aload_n hx hb d_Wd_advance_54 rfl (lv_at hl 0 rfl) ?_
        refine va_get (D := D) (ci := 2) (v := .ref (ad_this 3)) (C := R_Wd) (T := F_Wd) (N := 15) hx hb hts in_Wd hown hK hP 0 rfl rfl 3 (by decide) (hts (.fieldLink R_Wd 19 R_Wd "places" "[I") kw1_100) (fun _ h9 => h9) rfl d_Wd_advance_55 ?_
        refine lv_aload_n hx hb d_Wd_advance_58 rfl (lv_at hl 0 rfl) ?_
        refine va_get (D := D) (ci := 2) (v := .int z_this.2.2.2.2.2.2.2.1) (C := R_Wd) (T := F_Wd) (N := 15) hx hb hts in_Wd hown hK hP 0 rfl rfl 8 (by decide) (hts (.fieldLink R_Wd 56 R_Wd "current" "I") kw1_105) (fun _ h9 => h9) rfl d_Wd_advance_59 ?_
        refine va_iald hx hb hK hP 3 0 rfl rfl hw.1 d_Wd_advance_62 ?_
        have hw := hw.2
        refine va_put (D := D) (ci := 2) (v := .int (z_this.2.2.1 (z_this.2.2.2.2.2.2.2.1).toNatClampNeg)) (ty := .int) (C := R_Wd) (T := F_Wd) (N := 15) hx hb hts in_Wd t_Wd t_Wd_ok n_Wd hown hK hP hD hS 0 rfl rfl 12 (by decide) (hts (.fieldLink R_Wd 65 R_Wd "place" "I") kw1_110) (fun _ h9 => h9) rfl (by decide +kernel) rfl rfl (Nat.le_of_ble_eq_true rfl) d_Wd_advance_63 (fun H locs hP hD hS => ?_)
        have hP : va_P D vwCl (w_Wd k ad_this q_this_keywords (z_this.1, z_this.2.1, z_this.2.2.1, z_this.2.2.2.1, z_this.2.2.2.2.1, z_this.2.2.2.2.2.1, z_this.2.2.2.2.2.2.1, z_this.2.2.2.2.2.2.2.1, z_this.2.2.2.2.2.2.2.2.1, z_this.2.2.2.2.2.2.2.2.2.1, (z_this.2.1 (z_this.2.2.2.2.2.2.2.1).toNatClampNeg), (z_this.2.2.1 (z_this.2.2.2.2.2.2.2.1).toNatClampNeg), z_this.2.2.2.2.2.2.2.2.2.2.2.2.1, z_this.2.2.2.2.2.2.2.2.2.2.2.2.2)) H := hP
        have hD : va_D A (w_Wd k ad_this q_this_keywords (z_this.1, z_this.2.1, z_this.2.2.1, z_this.2.2.2.1, z_this.2.2.2.2.1, z_this.2.2.2.2.2.1, z_this.2.2.2.2.2.2.1, z_this.2.2.2.2.2.2.2.1, z_this.2.2.2.2.2.2.2.2.1, z_this.2.2.2.2.2.2.2.2.2.1, (z_this.2.1 (z_this.2.2.2.2.2.2.2.1).toNatClampNeg), (z_this.2.2.1 (z_this.2.2.2.2.2.2.2.1).toNatClampNeg), z_this.2.2.2.2.2.2.2.2.2.2.2.2.1, z_this.2.2.2.2.2.2.2.2.2.2.2.2.2)) := hD
        refine lv_aload_n hx hb d_Wd_advance_66 rfl (lv_at hl 0 rfl) ?_
        refine lv_aload_n hx hb d_Wd_advance_67 rfl (lv_at hl 0 rfl) ?_
        refine va_get (D := D) (ci := 2) (v := .ref (ad_this 4)) (C := R_Wd) (T := F_Wd) (N := 15) hx hb hts in_Wd hown hK hP 0 rfl rfl 4 (by decide) (hts (.fieldLink R_Wd 22 R_Wd "rows" "[I") kw1_101) (fun _ h9 => h9) rfl d_Wd_advance_68 ?_
        refine lv_aload_n hx hb d_Wd_advance_71 rfl (lv_at hl 0 rfl) ?_
        refine va_get (D := D) (ci := 2) (v := .int z_this.2.2.2.2.2.2.2.1) (C := R_Wd) (T := F_Wd) (N := 15) hx hb hts in_Wd hown hK hP 0 rfl rfl 8 (by decide) (hts (.fieldLink R_Wd 56 R_Wd "current" "I") kw1_105) (fun _ h9 => h9) rfl d_Wd_advance_72 ?_
        refine va_iald hx hb hK hP 4 0 rfl rfl hw.1 d_Wd_advance_75 ?_
        have hw := hw.2
        refine va_put (D := D) (ci := 2) (v := .int (z_this.2.2.2.1 (z_this.2.2.2.2.2.2.2.1).toNatClampNeg)) (ty := .int) (C := R_Wd) (T := F_Wd) (N := 15) hx hb hts in_Wd t_Wd t_Wd_ok n_Wd hown hK hP hD hS 0 rfl rfl 13 (by decide) (hts (.fieldLink R_Wd 68 R_Wd "row" "I") kw1_113) (fun _ h9 => h9) rfl (by decide +kernel) rfl rfl (Nat.le_of_ble_eq_true rfl) d_Wd_advance_76 (fun H locs hP hD hS => ?_)
        have hP : va_P D vwCl (w_Wd k ad_this q_this_keywords (z_this.1, z_this.2.1, z_this.2.2.1, z_this.2.2.2.1, z_this.2.2.2.2.1, z_this.2.2.2.2.2.1, z_this.2.2.2.2.2.2.1, z_this.2.2.2.2.2.2.2.1, z_this.2.2.2.2.2.2.2.2.1, z_this.2.2.2.2.2.2.2.2.2.1, (z_this.2.1 (z_this.2.2.2.2.2.2.2.1).toNatClampNeg), (z_this.2.2.1 (z_this.2.2.2.2.2.2.2.1).toNatClampNeg), (z_this.2.2.2.1 (z_this.2.2.2.2.2.2.2.1).toNatClampNeg), z_this.2.2.2.2.2.2.2.2.2.2.2.2.2)) H := hP
        have hD : va_D A (w_Wd k ad_this q_this_keywords (z_this.1, z_this.2.1, z_this.2.2.1, z_this.2.2.2.1, z_this.2.2.2.2.1, z_this.2.2.2.2.2.1, z_this.2.2.2.2.2.2.1, z_this.2.2.2.2.2.2.2.1, z_this.2.2.2.2.2.2.2.2.1, z_this.2.2.2.2.2.2.2.2.2.1, (z_this.2.1 (z_this.2.2.2.2.2.2.2.1).toNatClampNeg), (z_this.2.2.1 (z_this.2.2.2.2.2.2.2.1).toNatClampNeg), (z_this.2.2.2.1 (z_this.2.2.2.2.2.2.2.1).toNatClampNeg), z_this.2.2.2.2.2.2.2.2.2.2.2.2.2)) := hD
        refine lv_aload_n hx hb d_Wd_advance_79 rfl (lv_at hl 0 rfl) ?_
        refine lv_aload_n hx hb d_Wd_advance_80 rfl (lv_at hl 0 rfl) ?_
        refine va_get (D := D) (ci := 2) (v := .ref (ad_this 5)) (C := R_Wd) (T := F_Wd) (N := 15) hx hb hts in_Wd hown hK hP 0 rfl rfl 5 (by decide) (hts (.fieldLink R_Wd 25 R_Wd "values" "[J") kw1_102) (fun _ h9 => h9) rfl d_Wd_advance_81 ?_
        refine lv_aload_n hx hb d_Wd_advance_84 rfl (lv_at hl 0 rfl) ?_
        refine va_get (D := D) (ci := 2) (v := .int z_this.2.2.2.2.2.2.2.1) (C := R_Wd) (T := F_Wd) (N := 15) hx hb hts in_Wd hown hK hP 0 rfl rfl 8 (by decide) (hts (.fieldLink R_Wd 56 R_Wd "current" "I") kw1_105) (fun _ h9 => h9) rfl d_Wd_advance_85 ?_
        refine va_lald hx hb hK hP 5 1 rfl rfl hw.1 d_Wd_advance_88 ?_
        have hw := hw.2
        refine va_put (D := D) (ci := 2) (v := .long (z_this.2.2.2.2.1 (z_this.2.2.2.2.2.2.2.1).toNatClampNeg)) (ty := .long) (C := R_Wd) (T := F_Wd) (N := 15) hx hb hts in_Wd t_Wd t_Wd_ok n_Wd hown hK hP hD hS 0 rfl rfl 14 (by decide) (hts (.fieldLink R_Wd 71 R_Wd "value" "J") kw1_114) (fun _ h9 => h9) rfl (by decide +kernel) rfl rfl (Nat.le_of_ble_eq_true rfl) d_Wd_advance_89 (fun H locs hP hD hS => ?_)
        have hP : va_P D vwCl (w_Wd k ad_this q_this_keywords (z_this.1, z_this.2.1, z_this.2.2.1, z_this.2.2.2.1, z_this.2.2.2.2.1, z_this.2.2.2.2.2.1, z_this.2.2.2.2.2.2.1, z_this.2.2.2.2.2.2.2.1, z_this.2.2.2.2.2.2.2.2.1, z_this.2.2.2.2.2.2.2.2.2.1, (z_this.2.1 (z_this.2.2.2.2.2.2.2.1).toNatClampNeg), (z_this.2.2.1 (z_this.2.2.2.2.2.2.2.1).toNatClampNeg), (z_this.2.2.2.1 (z_this.2.2.2.2.2.2.2.1).toNatClampNeg), (z_this.2.2.2.2.1 (z_this.2.2.2.2.2.2.2.1).toNatClampNeg))) H := hP
        have hD : va_D A (w_Wd k ad_this q_this_keywords (z_this.1, z_this.2.1, z_this.2.2.1, z_this.2.2.2.1, z_this.2.2.2.2.1, z_this.2.2.2.2.2.1, z_this.2.2.2.2.2.2.1, z_this.2.2.2.2.2.2.2.1, z_this.2.2.2.2.2.2.2.2.1, z_this.2.2.2.2.2.2.2.2.2.1, (z_this.2.1 (z_this.2.2.2.2.2.2.2.1).toNatClampNeg), (z_this.2.2.1 (z_this.2.2.2.2.2.2.2.1).toNatClampNeg), (z_this.2.2.2.1 (z_this.2.2.2.2.2.2.2.1).toNatClampNeg), (z_this.2.2.2.2.1 (z_this.2.2.2.2.2.2.2.1).toNatClampNeg))) := hD
        exact xq_vret (r := ()) (u := (z_this.1, z_this.2.1, z_this.2.2.1, z_this.2.2.2.1, z_this.2.2.2.2.1, z_this.2.2.2.2.2.1, z_this.2.2.2.2.2.2.1, z_this.2.2.2.2.2.2.2.1, z_this.2.2.2.2.2.2.2.2.1, z_this.2.2.2.2.2.2.2.2.2.1, (z_this.2.1 (z_this.2.2.2.2.2.2.2.1).toNatClampNeg), (z_this.2.2.1 (z_this.2.2.2.2.2.2.2.1).toNatClampNeg), (z_this.2.2.2.1 (z_this.2.2.2.2.2.2.2.1).toNatClampNeg), (z_this.2.2.2.2.1 (z_this.2.2.2.2.2.2.2.1).toNatClampNeg))) hx hb hr hlocks hAe hP hD hS rfl hw (Nat.le_of_ble_eq_true rfl) (Nat.le_of_ble_eq_true rfl) d_Wd_advance_92
    · have hw := hw.2 hc
      refine lv_aload_n hx hb d_Wd_advance_23 rfl (lv_at hl 0 rfl) ?_
      refine lv_dup hx hb d_Wd_advance_24 rfl ?_
      refine va_get (D := D) (ci := 2) (v := .int z_this.2.2.2.2.2.2.2.1) (C := R_Wd) (T := F_Wd) (N := 15) hx hb hts in_Wd hown hK hP 0 rfl rfl 8 (by decide) (hts (.fieldLink R_Wd 56 R_Wd "current" "I") kw1_105) (fun _ h9 => h9) rfl d_Wd_advance_25 ?_
      refine lv_iconst (v := (1 : Int32)) hx hb d_Wd_advance_28 (by decide) ?_
      refine lv_iadd hx hb d_Wd_advance_29 ?_
      refine va_put (D := D) (ci := 2) (v := .int (z_this.2.2.2.2.2.2.2.1 + (1 : Int32))) (ty := .int) (C := R_Wd) (T := F_Wd) (N := 15) hx hb hts in_Wd t_Wd t_Wd_ok n_Wd hown hK hP hD hS 0 rfl rfl 8 (by decide) (hts (.fieldLink R_Wd 56 R_Wd "current" "I") kw1_105) (fun _ h9 => h9) rfl (by decide +kernel) rfl rfl (Nat.le_of_ble_eq_true rfl) d_Wd_advance_30 (fun H locs hP hD hS => ?_)
      have hP : va_P D vwCl (w_Wd k ad_this q_this_keywords (z_this.1, z_this.2.1, z_this.2.2.1, z_this.2.2.2.1, z_this.2.2.2.2.1, z_this.2.2.2.2.2.1, z_this.2.2.2.2.2.2.1, (z_this.2.2.2.2.2.2.2.1 + (1 : Int32)), z_this.2.2.2.2.2.2.2.2.1, z_this.2.2.2.2.2.2.2.2.2.1, z_this.2.2.2.2.2.2.2.2.2.2.1, z_this.2.2.2.2.2.2.2.2.2.2.2.1, z_this.2.2.2.2.2.2.2.2.2.2.2.2.1, z_this.2.2.2.2.2.2.2.2.2.2.2.2.2)) H := hP
      have hD : va_D A (w_Wd k ad_this q_this_keywords (z_this.1, z_this.2.1, z_this.2.2.1, z_this.2.2.2.1, z_this.2.2.2.2.1, z_this.2.2.2.2.2.1, z_this.2.2.2.2.2.2.1, (z_this.2.2.2.2.2.2.2.1 + (1 : Int32)), z_this.2.2.2.2.2.2.2.2.1, z_this.2.2.2.2.2.2.2.2.2.1, z_this.2.2.2.2.2.2.2.2.2.2.1, z_this.2.2.2.2.2.2.2.2.2.2.2.1, z_this.2.2.2.2.2.2.2.2.2.2.2.2.1, z_this.2.2.2.2.2.2.2.2.2.2.2.2.2)) := hD
      refine lv_aload_n hx hb d_Wd_advance_33 rfl (lv_at hl 0 rfl) ?_
      refine va_get (D := D) (ci := 2) (v := .int (z_this.2.2.2.2.2.2.2.1 + (1 : Int32))) (C := R_Wd) (T := F_Wd) (N := 15) hx hb hts in_Wd hown hK hP 0 rfl rfl 8 (by decide) (hts (.fieldLink R_Wd 56 R_Wd "current" "I") kw1_105) (fun _ h9 => h9) rfl d_Wd_advance_34 ?_
      refine lv_if_lt (tgt := 92) hx hb d_Wd_advance_37 (by decide) (fun hc => ?_) (fun hc => ?_)
      · have hw := hw.1 hc
        exact xq_vret (r := ()) (u := (z_this.1, z_this.2.1, z_this.2.2.1, z_this.2.2.2.1, z_this.2.2.2.2.1, z_this.2.2.2.2.2.1, z_this.2.2.2.2.2.2.1, (z_this.2.2.2.2.2.2.2.1 + (1 : Int32)), z_this.2.2.2.2.2.2.2.2.1, z_this.2.2.2.2.2.2.2.2.2.1, z_this.2.2.2.2.2.2.2.2.2.2.1, z_this.2.2.2.2.2.2.2.2.2.2.2.1, z_this.2.2.2.2.2.2.2.2.2.2.2.2.1, z_this.2.2.2.2.2.2.2.2.2.2.2.2.2)) hx hb hr hlocks hAe hP hD hS rfl hw (Nat.le_of_ble_eq_true rfl) (Nat.le_of_ble_eq_true rfl) d_Wd_advance_92
      · have hw := hw.2 hc
        refine lv_aload_n hx hb d_Wd_advance_40 rfl (lv_at hl 0 rfl) ?_
        refine lv_aload_n hx hb d_Wd_advance_41 rfl (lv_at hl 0 rfl) ?_
        refine va_get (D := D) (ci := 2) (v := .ref (ad_this 2)) (C := R_Wd) (T := F_Wd) (N := 15) hx hb hts in_Wd hown hK hP 0 rfl rfl 2 (by decide) (hts (.fieldLink R_Wd 15 R_Wd "codes" "[I") kw1_99) (fun _ h9 => h9) rfl d_Wd_advance_42 ?_
        refine lv_aload_n hx hb d_Wd_advance_45 rfl (lv_at hl 0 rfl) ?_
        refine va_get (D := D) (ci := 2) (v := .int (z_this.2.2.2.2.2.2.2.1 + (1 : Int32))) (C := R_Wd) (T := F_Wd) (N := 15) hx hb hts in_Wd hown hK hP 0 rfl rfl 8 (by decide) (hts (.fieldLink R_Wd 56 R_Wd "current" "I") kw1_105) (fun _ h9 => h9) rfl d_Wd_advance_46 ?_
        refine va_iald hx hb hK hP 2 0 rfl rfl hw.1 d_Wd_advance_49 ?_
        have hw := hw.2
        refine va_put (D := D) (ci := 2) (v := .int (z_this.2.1 ((z_this.2.2.2.2.2.2.2.1 + (1 : Int32))).toNatClampNeg)) (ty := .int) (C := R_Wd) (T := F_Wd) (N := 15) hx hb hts in_Wd t_Wd t_Wd_ok n_Wd hown hK hP hD hS 0 rfl rfl 11 (by decide) (hts (.fieldLink R_Wd 62 R_Wd "code" "I") kw1_109) (fun _ h9 => h9) rfl (by decide +kernel) rfl rfl (Nat.le_of_ble_eq_true rfl) d_Wd_advance_50 (fun H locs hP hD hS => ?_)
        have hP : va_P D vwCl (w_Wd k ad_this q_this_keywords (z_this.1, z_this.2.1, z_this.2.2.1, z_this.2.2.2.1, z_this.2.2.2.2.1, z_this.2.2.2.2.2.1, z_this.2.2.2.2.2.2.1, (z_this.2.2.2.2.2.2.2.1 + (1 : Int32)), z_this.2.2.2.2.2.2.2.2.1, z_this.2.2.2.2.2.2.2.2.2.1, (z_this.2.1 ((z_this.2.2.2.2.2.2.2.1 + (1 : Int32))).toNatClampNeg), z_this.2.2.2.2.2.2.2.2.2.2.2.1, z_this.2.2.2.2.2.2.2.2.2.2.2.2.1, z_this.2.2.2.2.2.2.2.2.2.2.2.2.2)) H := hP
        have hD : va_D A (w_Wd k ad_this q_this_keywords (z_this.1, z_this.2.1, z_this.2.2.1, z_this.2.2.2.1, z_this.2.2.2.2.1, z_this.2.2.2.2.2.1, z_this.2.2.2.2.2.2.1, (z_this.2.2.2.2.2.2.2.1 + (1 : Int32)), z_this.2.2.2.2.2.2.2.2.1, z_this.2.2.2.2.2.2.2.2.2.1, (z_this.2.1 ((z_this.2.2.2.2.2.2.2.1 + (1 : Int32))).toNatClampNeg), z_this.2.2.2.2.2.2.2.2.2.2.2.1, z_this.2.2.2.2.2.2.2.2.2.2.2.2.1, z_this.2.2.2.2.2.2.2.2.2.2.2.2.2)) := hD
        refine lv_aload_n hx hb d_Wd_advance_53 rfl (lv_at hl 0 rfl) ?_
        refine lv_aload_n hx hb d_Wd_advance_54 rfl (lv_at hl 0 rfl) ?_
        refine va_get (D := D) (ci := 2) (v := .ref (ad_this 3)) (C := R_Wd) (T := F_Wd) (N := 15) hx hb hts in_Wd hown hK hP 0 rfl rfl 3 (by decide) (hts (.fieldLink R_Wd 19 R_Wd "places" "[I") kw1_100) (fun _ h9 => h9) rfl d_Wd_advance_55 ?_
        refine lv_aload_n hx hb d_Wd_advance_58 rfl (lv_at hl 0 rfl) ?_
        refine va_get (D := D) (ci := 2) (v := .int (z_this.2.2.2.2.2.2.2.1 + (1 : Int32))) (C := R_Wd) (T := F_Wd) (N := 15) hx hb hts in_Wd hown hK hP 0 rfl rfl 8 (by decide) (hts (.fieldLink R_Wd 56 R_Wd "current" "I") kw1_105) (fun _ h9 => h9) rfl d_Wd_advance_59 ?_
        refine va_iald hx hb hK hP 3 0 rfl rfl hw.1 d_Wd_advance_62 ?_
        have hw := hw.2
        refine va_put (D := D) (ci := 2) (v := .int (z_this.2.2.1 ((z_this.2.2.2.2.2.2.2.1 + (1 : Int32))).toNatClampNeg)) (ty := .int) (C := R_Wd) (T := F_Wd) (N := 15) hx hb hts in_Wd t_Wd t_Wd_ok n_Wd hown hK hP hD hS 0 rfl rfl 12 (by decide) (hts (.fieldLink R_Wd 65 R_Wd "place" "I") kw1_110) (fun _ h9 => h9) rfl (by decide +kernel) rfl rfl (Nat.le_of_ble_eq_true rfl) d_Wd_advance_63 (fun H locs hP hD hS => ?_)
        have hP : va_P D vwCl (w_Wd k ad_this q_this_keywords (z_this.1, z_this.2.1, z_this.2.2.1, z_this.2.2.2.1, z_this.2.2.2.2.1, z_this.2.2.2.2.2.1, z_this.2.2.2.2.2.2.1, (z_this.2.2.2.2.2.2.2.1 + (1 : Int32)), z_this.2.2.2.2.2.2.2.2.1, z_this.2.2.2.2.2.2.2.2.2.1, (z_this.2.1 ((z_this.2.2.2.2.2.2.2.1 + (1 : Int32))).toNatClampNeg), (z_this.2.2.1 ((z_this.2.2.2.2.2.2.2.1 + (1 : Int32))).toNatClampNeg), z_this.2.2.2.2.2.2.2.2.2.2.2.2.1, z_this.2.2.2.2.2.2.2.2.2.2.2.2.2)) H := hP
        have hD : va_D A (w_Wd k ad_this q_this_keywords (z_this.1, z_this.2.1, z_this.2.2.1, z_this.2.2.2.1, z_this.2.2.2.2.1, z_this.2.2.2.2.2.1, z_this.2.2.2.2.2.2.1, (z_this.2.2.2.2.2.2.2.1 + (1 : Int32)), z_this.2.2.2.2.2.2.2.2.1, z_this.2.2.2.2.2.2.2.2.2.1, (z_this.2.1 ((z_this.2.2.2.2.2.2.2.1 + (1 : Int32))).toNatClampNeg), (z_this.2.2.1 ((z_this.2.2.2.2.2.2.2.1 + (1 : Int32))).toNatClampNeg), z_this.2.2.2.2.2.2.2.2.2.2.2.2.1, z_this.2.2.2.2.2.2.2.2.2.2.2.2.2)) := hD
        refine lv_aload_n hx hb d_Wd_advance_66 rfl (lv_at hl 0 rfl) ?_
        refine lv_aload_n hx hb d_Wd_advance_67 rfl (lv_at hl 0 rfl) ?_
        refine va_get (D := D) (ci := 2) (v := .ref (ad_this 4)) (C := R_Wd) (T := F_Wd) (N := 15) hx hb hts in_Wd hown hK hP 0 rfl rfl 4 (by decide) (hts (.fieldLink R_Wd 22 R_Wd "rows" "[I") kw1_101) (fun _ h9 => h9) rfl d_Wd_advance_68 ?_
        refine lv_aload_n hx hb d_Wd_advance_71 rfl (lv_at hl 0 rfl) ?_
        refine va_get (D := D) (ci := 2) (v := .int (z_this.2.2.2.2.2.2.2.1 + (1 : Int32))) (C := R_Wd) (T := F_Wd) (N := 15) hx hb hts in_Wd hown hK hP 0 rfl rfl 8 (by decide) (hts (.fieldLink R_Wd 56 R_Wd "current" "I") kw1_105) (fun _ h9 => h9) rfl d_Wd_advance_72 ?_
        refine va_iald hx hb hK hP 4 0 rfl rfl hw.1 d_Wd_advance_75 ?_
        have hw := hw.2
        refine va_put (D := D) (ci := 2) (v := .int (z_this.2.2.2.1 ((z_this.2.2.2.2.2.2.2.1 + (1 : Int32))).toNatClampNeg)) (ty := .int) (C := R_Wd) (T := F_Wd) (N := 15) hx hb hts in_Wd t_Wd t_Wd_ok n_Wd hown hK hP hD hS 0 rfl rfl 13 (by decide) (hts (.fieldLink R_Wd 68 R_Wd "row" "I") kw1_113) (fun _ h9 => h9) rfl (by decide +kernel) rfl rfl (Nat.le_of_ble_eq_true rfl) d_Wd_advance_76 (fun H locs hP hD hS => ?_)
        have hP : va_P D vwCl (w_Wd k ad_this q_this_keywords (z_this.1, z_this.2.1, z_this.2.2.1, z_this.2.2.2.1, z_this.2.2.2.2.1, z_this.2.2.2.2.2.1, z_this.2.2.2.2.2.2.1, (z_this.2.2.2.2.2.2.2.1 + (1 : Int32)), z_this.2.2.2.2.2.2.2.2.1, z_this.2.2.2.2.2.2.2.2.2.1, (z_this.2.1 ((z_this.2.2.2.2.2.2.2.1 + (1 : Int32))).toNatClampNeg), (z_this.2.2.1 ((z_this.2.2.2.2.2.2.2.1 + (1 : Int32))).toNatClampNeg), (z_this.2.2.2.1 ((z_this.2.2.2.2.2.2.2.1 + (1 : Int32))).toNatClampNeg), z_this.2.2.2.2.2.2.2.2.2.2.2.2.2)) H := hP
        have hD : va_D A (w_Wd k ad_this q_this_keywords (z_this.1, z_this.2.1, z_this.2.2.1, z_this.2.2.2.1, z_this.2.2.2.2.1, z_this.2.2.2.2.2.1, z_this.2.2.2.2.2.2.1, (z_this.2.2.2.2.2.2.2.1 + (1 : Int32)), z_this.2.2.2.2.2.2.2.2.1, z_this.2.2.2.2.2.2.2.2.2.1, (z_this.2.1 ((z_this.2.2.2.2.2.2.2.1 + (1 : Int32))).toNatClampNeg), (z_this.2.2.1 ((z_this.2.2.2.2.2.2.2.1 + (1 : Int32))).toNatClampNeg), (z_this.2.2.2.1 ((z_this.2.2.2.2.2.2.2.1 + (1 : Int32))).toNatClampNeg), z_this.2.2.2.2.2.2.2.2.2.2.2.2.2)) := hD
        refine lv_aload_n hx hb d_Wd_advance_79 rfl (lv_at hl 0 rfl) ?_
        refine lv_aload_n hx hb d_Wd_advance_80 rfl (lv_at hl 0 rfl) ?_
        refine va_get (D := D) (ci := 2) (v := .ref (ad_this 5)) (C := R_Wd) (T := F_Wd) (N := 15) hx hb hts in_Wd hown hK hP 0 rfl rfl 5 (by decide) (hts (.fieldLink R_Wd 25 R_Wd "values" "[J") kw1_102) (fun _ h9 => h9) rfl d_Wd_advance_81 ?_
        refine lv_aload_n hx hb d_Wd_advance_84 rfl (lv_at hl 0 rfl) ?_
        refine va_get (D := D) (ci := 2) (v := .int (z_this.2.2.2.2.2.2.2.1 + (1 : Int32))) (C := R_Wd) (T := F_Wd) (N := 15) hx hb hts in_Wd hown hK hP 0 rfl rfl 8 (by decide) (hts (.fieldLink R_Wd 56 R_Wd "current" "I") kw1_105) (fun _ h9 => h9) rfl d_Wd_advance_85 ?_
        refine va_lald hx hb hK hP 5 1 rfl rfl hw.1 d_Wd_advance_88 ?_
        have hw := hw.2
        refine va_put (D := D) (ci := 2) (v := .long (z_this.2.2.2.2.1 ((z_this.2.2.2.2.2.2.2.1 + (1 : Int32))).toNatClampNeg)) (ty := .long) (C := R_Wd) (T := F_Wd) (N := 15) hx hb hts in_Wd t_Wd t_Wd_ok n_Wd hown hK hP hD hS 0 rfl rfl 14 (by decide) (hts (.fieldLink R_Wd 71 R_Wd "value" "J") kw1_114) (fun _ h9 => h9) rfl (by decide +kernel) rfl rfl (Nat.le_of_ble_eq_true rfl) d_Wd_advance_89 (fun H locs hP hD hS => ?_)
        have hP : va_P D vwCl (w_Wd k ad_this q_this_keywords (z_this.1, z_this.2.1, z_this.2.2.1, z_this.2.2.2.1, z_this.2.2.2.2.1, z_this.2.2.2.2.2.1, z_this.2.2.2.2.2.2.1, (z_this.2.2.2.2.2.2.2.1 + (1 : Int32)), z_this.2.2.2.2.2.2.2.2.1, z_this.2.2.2.2.2.2.2.2.2.1, (z_this.2.1 ((z_this.2.2.2.2.2.2.2.1 + (1 : Int32))).toNatClampNeg), (z_this.2.2.1 ((z_this.2.2.2.2.2.2.2.1 + (1 : Int32))).toNatClampNeg), (z_this.2.2.2.1 ((z_this.2.2.2.2.2.2.2.1 + (1 : Int32))).toNatClampNeg), (z_this.2.2.2.2.1 ((z_this.2.2.2.2.2.2.2.1 + (1 : Int32))).toNatClampNeg))) H := hP
        have hD : va_D A (w_Wd k ad_this q_this_keywords (z_this.1, z_this.2.1, z_this.2.2.1, z_this.2.2.2.1, z_this.2.2.2.2.1, z_this.2.2.2.2.2.1, z_this.2.2.2.2.2.2.1, (z_this.2.2.2.2.2.2.2.1 + (1 : Int32)), z_this.2.2.2.2.2.2.2.2.1, z_this.2.2.2.2.2.2.2.2.2.1, (z_this.2.1 ((z_this.2.2.2.2.2.2.2.1 + (1 : Int32))).toNatClampNeg), (z_this.2.2.1 ((z_this.2.2.2.2.2.2.2.1 + (1 : Int32))).toNatClampNeg), (z_this.2.2.2.1 ((z_this.2.2.2.2.2.2.2.1 + (1 : Int32))).toNatClampNeg), (z_this.2.2.2.2.1 ((z_this.2.2.2.2.2.2.2.1 + (1 : Int32))).toNatClampNeg))) := hD
        exact xq_vret (r := ()) (u := (z_this.1, z_this.2.1, z_this.2.2.1, z_this.2.2.2.1, z_this.2.2.2.2.1, z_this.2.2.2.2.2.1, z_this.2.2.2.2.2.2.1, (z_this.2.2.2.2.2.2.2.1 + (1 : Int32)), z_this.2.2.2.2.2.2.2.2.1, z_this.2.2.2.2.2.2.2.2.2.1, (z_this.2.1 ((z_this.2.2.2.2.2.2.2.1 + (1 : Int32))).toNatClampNeg), (z_this.2.2.1 ((z_this.2.2.2.2.2.2.2.1 + (1 : Int32))).toNatClampNeg), (z_this.2.2.2.1 ((z_this.2.2.2.2.2.2.2.1 + (1 : Int32))).toNatClampNeg), (z_this.2.2.2.2.1 ((z_this.2.2.2.2.2.2.2.1 + (1 : Int32))).toNatClampNeg))) hx hb hr hlocks hAe hP hD hS rfl hw (Nat.le_of_ble_eq_true rfl) (Nat.le_of_ble_eq_true rfl) d_Wd_advance_92
theorem cw_Wd_advance {R : Room} {s : State} {args : Array Value} {own : String} {index : Nat} (hts : ∀ w ∈ xq_W, w.before args s = true) (hl : .methodLink own index y_Wd_advance ∈ xq_W) {rm : Room} (hR : rm.frames + 1 ≤ R.frames ∧ 8 + (1 + 11) + rm.locals ≤ R.locals) : CallW R s args own "StepText$Words" index y_Wd_advance prog_8_method_5_code 1 none (.code y_Wd_advance prog_8_method_5_code 1 none :: xq_W) rm rm.cells rm.slots 0 := ⟨xq_cb 0 hts kw2_132 kw1_7 hl ⟨by decide, by decide, by decide +kernel⟩ hR, hts _ kw2_130, hts _ kw2_131⟩
def y_Wd_split : MethodName := ⟨"StepText$Words", "split", "()V"⟩
theorem d_Wd_split_0 : decode prog_8_method_4_code 0 = .ok (.aload_n 0, 1) := by decide +kernel
theorem d_Wd_split_1 : decode prog_8_method_4_code 1 = .ok (.iconst 0, 1) := by decide +kernel
theorem d_Wd_split_2 : decode prog_8_method_4_code 2 = .ok (.putfield 37, 3) := by decide +kernel
theorem d_Wd_split_5 : decode prog_8_method_4_code 5 = .ok (.aload_n 0, 1) := by decide +kernel
theorem d_Wd_split_6 : decode prog_8_method_4_code 6 = .ok (.iconst 1, 1) := by decide +kernel
theorem d_Wd_split_7 : decode prog_8_method_4_code 7 = .ok (.putfield 40, 3) := by decide +kernel
theorem d_Wd_split_10 : decode prog_8_method_4_code 10 = .ok (.aload_n 0, 1) := by decide +kernel
theorem d_Wd_split_11 : decode prog_8_method_4_code 11 = .ok (.iconst 0, 1) := by decide +kernel
theorem d_Wd_split_12 : decode prog_8_method_4_code 12 = .ok (.putfield 43, 3) := by decide +kernel
theorem d_Wd_split_15 : decode prog_8_method_4_code 15 = .ok (.iconst 1, 1) := by decide +kernel
theorem d_Wd_split_16 : decode prog_8_method_4_code 16 = .ok (.istore_n 1, 1) := by decide +kernel
theorem d_Wd_split_17 : decode prog_8_method_4_code 17 = .ok (.iconst 0, 1) := by decide +kernel
theorem d_Wd_split_18 : decode prog_8_method_4_code 18 = .ok (.istore_n 2, 1) := by decide +kernel
theorem d_Wd_split_19 : decode prog_8_method_4_code 19 = .ok (.iload_n 2, 1) := by decide +kernel
theorem d_Wd_split_20 : decode prog_8_method_4_code 20 = .ok (.sipush 4000, 3) := by decide +kernel
theorem d_Wd_split_23 : decode prog_8_method_4_code 23 = .ok (.if_icmp .gt 22, 3) := by decide +kernel
theorem d_Wd_split_26 : decode prog_8_method_4_code 26 = .ok (.iload_n 1, 1) := by decide +kernel
theorem d_Wd_split_27 : decode prog_8_method_4_code 27 = .ok (.ifCond .eq 18, 3) := by decide +kernel
theorem d_Wd_split_30 : decode prog_8_method_4_code 30 = .ok (.aload_n 0, 1) := by decide +kernel
theorem d_Wd_split_31 : decode prog_8_method_4_code 31 = .ok (.invokevirtual 46, 3) := by decide +kernel
theorem d_Wd_split_34 : decode prog_8_method_4_code 34 = .ok (.aload_n 0, 1) := by decide +kernel
theorem d_Wd_split_35 : decode prog_8_method_4_code 35 = .ok (.invokevirtual 49, 3) := by decide +kernel
theorem d_Wd_split_38 : decode prog_8_method_4_code 38 = .ok (.istore_n 1, 1) := by decide +kernel
theorem d_Wd_split_39 : decode prog_8_method_4_code 39 = .ok (.iinc 2 1, 3) := by decide +kernel
theorem d_Wd_split_42 : decode prog_8_method_4_code 42 = .ok (.goto (-23), 3) := by decide +kernel
theorem d_Wd_split_45 : decode prog_8_method_4_code 45 = .ok (.aload_n 0, 1) := by decide +kernel
theorem d_Wd_split_46 : decode prog_8_method_4_code 46 = .ok (.invokevirtual 53, 3) := by decide +kernel
theorem d_Wd_split_49 : decode prog_8_method_4_code 49 = .ok (.aload_n 0, 1) := by decide +kernel
theorem d_Wd_split_50 : decode prog_8_method_4_code 50 = .ok (.iconst (-1), 1) := by decide +kernel
theorem d_Wd_split_51 : decode prog_8_method_4_code 51 = .ok (.putfield 56, 3) := by decide +kernel
theorem d_Wd_split_54 : decode prog_8_method_4_code 54 = .ok (.aload_n 0, 1) := by decide +kernel
theorem d_Wd_split_55 : decode prog_8_method_4_code 55 = .ok (.invokevirtual 59, 3) := by decide +kernel
theorem d_Wd_split_58 : decode prog_8_method_4_code 58 = .ok (.return_, 1) := by decide +kernel
def wp_Wd_split_L19 (z_this_keywords : T_Kw) (K : T_Wd → Int32 → Int32 → Prop) (post : Unit → T_Wd → Prop) : Nat → T_Wd → Int32 → Int32 → Prop
  | 0, _, _, _ => False
  | n9 + 1, z_this, x1, x2 => ((4000 : Int32) < x2 → (K z_this x1 x2)) ∧ (¬ (4000 : Int32) < x2 → ((x1 = 0 → (K z_this x1 x2)) ∧ (¬ x1 = 0 → (wp_Wd_skipBlanks z_this (fun (r1 : Unit) (u1 : T_Wd) => wp_Wd_splitWord u1 z_this_keywords (fun (r2 : Int32) (u2 : T_Wd) => wp_Wd_split_L19 z_this_keywords K post n9 u2 r2 (x2 + (1 : Int32))))))))
def wp_Wd_split (z_this : T_Wd) (z_this_keywords : T_Kw) (post : Unit → T_Wd → Prop) : Prop := ∃ k9 : Nat, wp_Wd_split_L19 z_this_keywords (fun (z_this : T_Wd) (x1 : Int32) (x2 : Int32) => wp_Wd_forget z_this (fun (r3 : Unit) (u3 : T_Wd) => wp_Wd_advance (u3.1, u3.2.1, u3.2.2.1, u3.2.2.2.1, u3.2.2.2.2.1, u3.2.2.2.2.2.1, u3.2.2.2.2.2.2.1, (-1 : Int32), u3.2.2.2.2.2.2.2.2.1, u3.2.2.2.2.2.2.2.2.2.1, u3.2.2.2.2.2.2.2.2.2.2.1, u3.2.2.2.2.2.2.2.2.2.2.2.1, u3.2.2.2.2.2.2.2.2.2.2.2.2.1, u3.2.2.2.2.2.2.2.2.2.2.2.2.2) (fun (r4 : Unit) (u4 : T_Wd) => post () u4))) post k9 (z_this.1, z_this.2.1, z_this.2.2.1, z_this.2.2.2.1, z_this.2.2.2.2.1, z_this.2.2.2.2.2.1, (0 : Int32), z_this.2.2.2.2.2.2.2.1, (0 : Int32), (1 : Int32), z_this.2.2.2.2.2.2.2.2.2.2.1, z_this.2.2.2.2.2.2.2.2.2.2.2.1, z_this.2.2.2.2.2.2.2.2.2.2.2.2.1, z_this.2.2.2.2.2.2.2.2.2.2.2.2.2) (1 : Int32) (0 : Int32)
def rm_Wd_split : Room := { frames := 4, cells := 0, slots := 0, locals := 96 }
set_option maxHeartbeats 4000000 in
set_option maxRecDepth 100000 in
theorem t_Wd_split_L19 {p : Program} {l : Launch} {o : State × Array Value} {e : Env} {s : State} {m : MethodId} {args : Array Value} {below : List Frame} {meth : Method} {c : Code} {D : va_G} {k : Nat → ClassId} {w0 : va_W} {A : Nat → Prop} {ad_this : Nat → Nat} {ad_this_keywords : Nat → Nat} {z_this_keywords : T_Kw} {post : Unit → T_Wd → Prop} (hAt : xq_At p s m args meth c prog_8_method_4_code 3 none y_Wd_split xq_W) (hK : va_K D vwCl (xt k) s) (hJ : xq_J l o A s s.heap) (hAe : va_A w0 s.heap.size = A) (hA : ∀ q, s.heap.size ≤ q → A q) {K : T_Wd → Int32 → Int32 → Prop} (hX : ∀ (z_this : T_Wd) (x1 : Int32) (x2 : Int32) (H : Heap) (locs : List Loc) (ls : Array Slot), lv_has ls 3 [(0, .ref (ad_this 0)), (1, .int x1), (2, .int x2)] → va_P D vwCl (w_Wd k ad_this (ad_this_keywords 0) z_this ++ w_Kw k ad_this_keywords z_this_keywords) H → va_D A (w_Wd k ad_this (ad_this_keywords 0) z_this ++ w_Kw k ad_this_keywords z_this_keywords) → va_S A s.heap H locs → K z_this x1 x2 → W p l e rm_Wd_split s m args below meth c H locs 0 0 (xq_Z below D vwCl (xt k) w0 (fun _ : Unit => none) post (fun _ : T_Wd => False) (fun u : T_Wd => w_Wd k ad_this (ad_this_keywords 0) u ++ w_Kw k ad_this_keywords z_this_keywords) 0 0 0 0 s) (F0 m 45 ls [])) :
    ∀ (n9 : Nat) (z_this : T_Wd) (x1 : Int32) (x2 : Int32) (H : Heap) (locs : List Loc) (ls : Array Slot), lv_has ls 3 [(0, .ref (ad_this 0)), (1, .int x1), (2, .int x2)] → va_P D vwCl (w_Wd k ad_this (ad_this_keywords 0) z_this ++ w_Kw k ad_this_keywords z_this_keywords) H → va_D A (w_Wd k ad_this (ad_this_keywords 0) z_this ++ w_Kw k ad_this_keywords z_this_keywords) → va_S A s.heap H locs → wp_Wd_split_L19 z_this_keywords K post n9 z_this x1 x2 → W p l e rm_Wd_split s m args below meth c H locs 0 0 (xq_Z below D vwCl (xt k) w0 (fun _ : Unit => none) post (fun _ : T_Wd => False) (fun u : T_Wd => w_Wd k ad_this (ad_this_keywords 0) u ++ w_Kw k ad_this_keywords z_this_keywords) 0 0 0 0 s) (F0 m 19 ls []) := by
  obtain ⟨hx, hb, hml, hr, hlocks, hown, hts, hex, hnm⟩ := id hAt
  intro n9
  induction n9 with
  | zero => intro z_this x1 x2 H locs ls hl hP hD hS hw; exact False.elim (by rw [wp_Wd_split_L19] at hw; exact hw)
  | succ n9 ih =>
    intro z_this x1 x2 H locs ls hl hP hD hS hw
    rw [wp_Wd_split_L19] at hw
    refine lv_iload_n hx hb d_Wd_split_19 rfl (lv_at hl 2 rfl) ?_
    refine lv_sipush (v := (4000 : Int32)) hx hb d_Wd_split_20 (by decide) ?_
    refine lv_icmp_gt (tgt := 45) hx hb d_Wd_split_23 (by decide) (fun hc => ?_) (fun hc => ?_)
    · have hw := hw.1 hc
      exact hX z_this x1 x2 H locs ls (lv_sub hl [0, 1, 2] rfl) hP hD hS hw
    · have hw := hw.2 hc
      refine lv_iload_n hx hb d_Wd_split_26 rfl (lv_at hl 1 rfl) ?_
      refine lv_if_eq (tgt := 45) hx hb d_Wd_split_27 (by decide) (fun hc => ?_) (fun hc => ?_)
      · have hw := hw.1 hc
        exact hX z_this x1 x2 H locs ls (lv_sub hl [0, 1, 2] rfl) hP hD hS hw
      · have hw := hw.2 hc
        refine lv_aload_n hx hb d_Wd_split_30 rfl (lv_at hl 0 rfl) ?_
        refine xq_go (wr := w_Kw k ad_this_keywords z_this_keywords) (stk := fun _ => []) (xq_runV (As := []) (rest := []) ⟨hx, hb, hml, hown, hts⟩ (c_Wd_skipBlanks (l := l) (o := o) (D := D) (k := k) (ad_this := ad_this) (q_this_keywords := (ad_this_keywords 0)) hw) (cw_Wd_skipBlanks hts kw2_83 ⟨Nat.le_of_ble_eq_true rfl, Nat.le_of_ble_eq_true rfl⟩) (va_recv hK hP (ci := 2) (q0 := 0) rfl rfl) (hP.sub [0, 1, 2, 3, 4, 5] rfl) hK hJ hS (va_free hD hS hA [0, 1, 2, 3, 4, 5] rfl) ((hD.sub [0, 1, 2, 3, 4, 5] (by decide) rfl).weaken (fun _ _ _ _ => trivial)) rfl hl.1 (Nat.le_of_ble_eq_true rfl) d_Wd_split_31 ⟨Nat.le_of_ble_eq_true rfl, Nat.le_of_ble_eq_true rfl⟩) hP hD hS hA [0, 1, 2, 3, 4, 5] [6, 7] rfl rfl (by decide) (by decide) (fun _ => rfl) (fun r1 u1 H locs hw hP hD hS => ?_) (fun _ _ _ _ h9 => h9.elim)
        have hP : va_P D vwCl (w_Wd k ad_this (ad_this_keywords 0) u1 ++ w_Kw k ad_this_keywords z_this_keywords) H := hP.sub [2, 3, 4, 5, 6, 7, 0, 1] rfl
        have hD : va_D A (w_Wd k ad_this (ad_this_keywords 0) u1 ++ w_Kw k ad_this_keywords z_this_keywords) := hD.sub [2, 3, 4, 5, 6, 7, 0, 1] (by decide) rfl
        refine lv_aload_n hx hb d_Wd_split_34 rfl (lv_at hl 0 rfl) ?_
        refine xq_go (wr := ([] : va_W)) (stk := fun r => .int r :: []) (xq_runV (As := []) (rest := []) ⟨hx, hb, hml, hown, hts⟩ (c_Wd_splitWord (l := l) (o := o) (D := D) (k := k) (ad_this := ad_this) (ad_this_keywords := ad_this_keywords) hw) (cw_Wd_splitWord hts kw2_94 ⟨Nat.le_of_ble_eq_true rfl, Nat.le_of_ble_eq_true rfl⟩) (va_recv hK hP (ci := 2) (q0 := 0) rfl rfl) (hP.sub [0, 1, 2, 3, 4, 5, 6, 7] rfl) hK hJ hS (va_free hD hS hA [0, 1, 2, 3, 4, 5, 6, 7] rfl) ((hD.sub [0, 1, 2, 3, 4, 5, 6, 7] (by decide) rfl).weaken (fun _ _ _ _ => trivial)) rfl hl.1 (Nat.le_of_ble_eq_true rfl) d_Wd_split_35 ⟨Nat.le_of_ble_eq_true rfl, Nat.le_of_ble_eq_true rfl⟩) hP hD hS hA [0, 1, 2, 3, 4, 5, 6, 7] [] rfl rfl (by decide) (by decide) (fun _ => rfl) (fun r2 u2 H locs hw hP hD hS => ?_) (fun _ _ _ _ h9 => h9.elim)
        have hP : va_P D vwCl (w_Wd k ad_this (ad_this_keywords 0) u2 ++ w_Kw k ad_this_keywords z_this_keywords) H := hP.sub [0, 1, 2, 3, 4, 5, 6, 7] rfl
        have hD : va_D A (w_Wd k ad_this (ad_this_keywords 0) u2 ++ w_Kw k ad_this_keywords z_this_keywords) := hD.sub [0, 1, 2, 3, 4, 5, 6, 7] (by decide) rfl
        refine lv_istore_n (lv' := [(1, .int r2), (0, .ref (ad_this 0)), (2, .int x2)]) hx hb d_Wd_split_38 rfl hl (by decide) rfl (fun ls hl => ?_)
        refine lv_iinc (v := (x2 + (1 : Int32))) (lv' := [(2, .int (x2 + (1 : Int32))), (1, .int r2), (0, .ref (ad_this 0))]) hx hb d_Wd_split_39 hl (k := 2) rfl rfl (by decide) rfl (fun ls hl => ?_)
        refine lv_goto (tgt := 19) hx hb d_Wd_split_42 (by decide) ?_
        exact ih u2 r2 (x2 + (1 : Int32)) H locs ls (lv_sub hl [2, 1, 0] rfl) hP hD hS hw
set_option maxHeartbeats 4000000 in
set_option maxRecDepth 100000 in
theorem c_Wd_split {l : Launch} {o : State × Array Value} {D : va_G} {k : Nat → ClassId} {ad_this : Nat → Nat} {ad_this_keywords : Nat → Nat} {z_this : T_Wd} {z_this_keywords : T_Kw} {post : Unit → T_Wd → Prop} (hw : wp_Wd_split z_this z_this_keywords post) : xq_C l o y_Wd_split (.code y_Wd_split prog_8_method_4_code 3 none :: xq_W) rm_Wd_split D vwCl (xt k) [.ref (ad_this 0)] (w_Wd k ad_this (ad_this_keywords 0) z_this ++ w_Kw k ad_this_keywords z_this_keywords) (fun _ : Unit => none) post (fun _ : T_Wd => False) (fun u : T_Wd => w_Wd k ad_this (ad_this_keywords 0) u ++ w_Kw k ad_this_keywords z_this_keywords) 0 0 0 0 := by
  refine xq_ofW (cc := prog_8_method_4_code) (maxL := 3) (ret := none) (by decide) rfl (Nat.le_of_ble_eq_true rfl) ?_
  intro p e s m below meth c ls H locs A hAt hAe hA hl hK hJ hP0 hP hD hS
  obtain ⟨hx, hb, hml, hr, hlocks, hown, hts, hex, hnm⟩ := id hAt
  have hl : lv_has ls 3 [(0, .ref (ad_this 0))] := hl
  unfold wp_Wd_split at hw
  refine lv_aload_n hx hb d_Wd_split_0 rfl (lv_at hl 0 rfl) ?_
  refine lv_iconst (v := (0 : Int32)) hx hb d_Wd_split_1 (by decide) ?_
  refine va_put (D := D) (ci := 2) (v := .int (0 : Int32)) (ty := .int) (C := R_Wd) (T := F_Wd) (N := 15) hx hb hts in_Wd t_Wd t_Wd_ok n_Wd hown hK hP hD hS 0 rfl rfl 9 (by decide) (hts (.fieldLink R_Wd 37 R_Wd "scan" "I") kw1_106) (fun _ h9 => h9) rfl (by decide +kernel) rfl rfl (Nat.le_of_ble_eq_true rfl) d_Wd_split_2 (fun H locs hP hD hS => ?_)
  have hP : va_P D vwCl (w_Wd k ad_this (ad_this_keywords 0) (z_this.1, z_this.2.1, z_this.2.2.1, z_this.2.2.2.1, z_this.2.2.2.2.1, z_this.2.2.2.2.2.1, z_this.2.2.2.2.2.2.1, z_this.2.2.2.2.2.2.2.1, (0 : Int32), z_this.2.2.2.2.2.2.2.2.2.1, z_this.2.2.2.2.2.2.2.2.2.2.1, z_this.2.2.2.2.2.2.2.2.2.2.2.1, z_this.2.2.2.2.2.2.2.2.2.2.2.2.1, z_this.2.2.2.2.2.2.2.2.2.2.2.2.2) ++ w_Kw k ad_this_keywords z_this_keywords) H := hP
  have hD : va_D A (w_Wd k ad_this (ad_this_keywords 0) (z_this.1, z_this.2.1, z_this.2.2.1, z_this.2.2.2.1, z_this.2.2.2.2.1, z_this.2.2.2.2.2.1, z_this.2.2.2.2.2.2.1, z_this.2.2.2.2.2.2.2.1, (0 : Int32), z_this.2.2.2.2.2.2.2.2.2.1, z_this.2.2.2.2.2.2.2.2.2.2.1, z_this.2.2.2.2.2.2.2.2.2.2.2.1, z_this.2.2.2.2.2.2.2.2.2.2.2.2.1, z_this.2.2.2.2.2.2.2.2.2.2.2.2.2) ++ w_Kw k ad_this_keywords z_this_keywords) := hD
  refine lv_aload_n hx hb d_Wd_split_5 rfl (lv_at hl 0 rfl) ?_
  refine lv_iconst (v := (1 : Int32)) hx hb d_Wd_split_6 (by decide) ?_
  refine va_put (D := D) (ci := 2) (v := .int (1 : Int32)) (ty := .int) (C := R_Wd) (T := F_Wd) (N := 15) hx hb hts in_Wd t_Wd t_Wd_ok n_Wd hown hK hP hD hS 0 rfl rfl 10 (by decide) (hts (.fieldLink R_Wd 40 R_Wd "scanRow" "I") kw1_107) (fun _ h9 => h9) rfl (by decide +kernel) rfl rfl (Nat.le_of_ble_eq_true rfl) d_Wd_split_7 (fun H locs hP hD hS => ?_)
  have hP : va_P D vwCl (w_Wd k ad_this (ad_this_keywords 0) (z_this.1, z_this.2.1, z_this.2.2.1, z_this.2.2.2.1, z_this.2.2.2.2.1, z_this.2.2.2.2.2.1, z_this.2.2.2.2.2.2.1, z_this.2.2.2.2.2.2.2.1, (0 : Int32), (1 : Int32), z_this.2.2.2.2.2.2.2.2.2.2.1, z_this.2.2.2.2.2.2.2.2.2.2.2.1, z_this.2.2.2.2.2.2.2.2.2.2.2.2.1, z_this.2.2.2.2.2.2.2.2.2.2.2.2.2) ++ w_Kw k ad_this_keywords z_this_keywords) H := hP
  have hD : va_D A (w_Wd k ad_this (ad_this_keywords 0) (z_this.1, z_this.2.1, z_this.2.2.1, z_this.2.2.2.1, z_this.2.2.2.2.1, z_this.2.2.2.2.2.1, z_this.2.2.2.2.2.2.1, z_this.2.2.2.2.2.2.2.1, (0 : Int32), (1 : Int32), z_this.2.2.2.2.2.2.2.2.2.2.1, z_this.2.2.2.2.2.2.2.2.2.2.2.1, z_this.2.2.2.2.2.2.2.2.2.2.2.2.1, z_this.2.2.2.2.2.2.2.2.2.2.2.2.2) ++ w_Kw k ad_this_keywords z_this_keywords) := hD
  refine lv_aload_n hx hb d_Wd_split_10 rfl (lv_at hl 0 rfl) ?_
  refine lv_iconst (v := (0 : Int32)) hx hb d_Wd_split_11 (by decide) ?_
  refine va_put (D := D) (ci := 2) (v := .int (0 : Int32)) (ty := .int) (C := R_Wd) (T := F_Wd) (N := 15) hx hb hts in_Wd t_Wd t_Wd_ok n_Wd hown hK hP hD hS 0 rfl rfl 7 (by decide) (hts (.fieldLink R_Wd 43 R_Wd "count" "I") kw1_104) (fun _ h9 => h9) rfl (by decide +kernel) rfl rfl (Nat.le_of_ble_eq_true rfl) d_Wd_split_12 (fun H locs hP hD hS => ?_)
  have hP : va_P D vwCl (w_Wd k ad_this (ad_this_keywords 0) (z_this.1, z_this.2.1, z_this.2.2.1, z_this.2.2.2.1, z_this.2.2.2.2.1, z_this.2.2.2.2.2.1, (0 : Int32), z_this.2.2.2.2.2.2.2.1, (0 : Int32), (1 : Int32), z_this.2.2.2.2.2.2.2.2.2.2.1, z_this.2.2.2.2.2.2.2.2.2.2.2.1, z_this.2.2.2.2.2.2.2.2.2.2.2.2.1, z_this.2.2.2.2.2.2.2.2.2.2.2.2.2) ++ w_Kw k ad_this_keywords z_this_keywords) H := hP
  have hD : va_D A (w_Wd k ad_this (ad_this_keywords 0) (z_this.1, z_this.2.1, z_this.2.2.1, z_this.2.2.2.1, z_this.2.2.2.2.1, z_this.2.2.2.2.2.1, (0 : Int32), z_this.2.2.2.2.2.2.2.1, (0 : Int32), (1 : Int32), z_this.2.2.2.2.2.2.2.2.2.2.1, z_this.2.2.2.2.2.2.2.2.2.2.2.1, z_this.2.2.2.2.2.2.2.2.2.2.2.2.1, z_this.2.2.2.2.2.2.2.2.2.2.2.2.2) ++ w_Kw k ad_this_keywords z_this_keywords) := hD
  refine lv_iconst (v := (1 : Int32)) hx hb d_Wd_split_15 (by decide) ?_
  refine lv_istore_n (lv' := [(1, .int (1 : Int32)), (0, .ref (ad_this 0))]) hx hb d_Wd_split_16 rfl hl (by decide) rfl (fun ls hl => ?_)
  refine lv_iconst (v := (0 : Int32)) hx hb d_Wd_split_17 (by decide) ?_
  refine lv_istore_n (lv' := [(2, .int (0 : Int32)), (1, .int (1 : Int32)), (0, .ref (ad_this 0))]) hx hb d_Wd_split_18 rfl hl (by decide) rfl (fun ls hl => ?_)
  obtain ⟨k9, hw⟩ := hw
  refine t_Wd_split_L19 hAt hK hJ hAe hA ?_ k9 (z_this.1, z_this.2.1, z_this.2.2.1, z_this.2.2.2.1, z_this.2.2.2.2.1, z_this.2.2.2.2.2.1, (0 : Int32), z_this.2.2.2.2.2.2.2.1, (0 : Int32), (1 : Int32), z_this.2.2.2.2.2.2.2.2.2.2.1, z_this.2.2.2.2.2.2.2.2.2.2.2.1, z_this.2.2.2.2.2.2.2.2.2.2.2.2.1, z_this.2.2.2.2.2.2.2.2.2.2.2.2.2) (1 : Int32) (0 : Int32) H locs ls (lv_sub hl [2, 1, 0] rfl) hP hD hS hw
  intro z_this x1 x2 H locs ls hl hP hD hS hw
  refine lv_aload_n hx hb d_Wd_split_45 rfl (lv_at hl 0 rfl) ?_
  refine xq_go (wr := w_Kw k ad_this_keywords z_this_keywords) (stk := fun _ => []) (xq_runV (As := []) (rest := []) ⟨hx, hb, hml, hown, hts⟩ (c_Wd_forget (l := l) (o := o) (D := D) (k := k) (ad_this := ad_this) (q_this_keywords := (ad_this_keywords 0)) hw) (cw_Wd_forget hts kw2_125 ⟨Nat.le_of_ble_eq_true rfl, Nat.le_of_ble_eq_true rfl⟩) (va_recv hK hP (ci := 2) (q0 := 0) rfl rfl) (hP.sub [0, 1, 2, 3, 4, 5] rfl) hK hJ hS (va_free hD hS hA [0, 1, 2, 3, 4, 5] rfl) ((hD.sub [0, 1, 2, 3, 4, 5] (by decide) rfl).weaken (fun _ _ _ _ => trivial)) rfl hl.1 (Nat.le_of_ble_eq_true rfl) d_Wd_split_46 ⟨Nat.le_of_ble_eq_true rfl, Nat.le_of_ble_eq_true rfl⟩) hP hD hS hA [0, 1, 2, 3, 4, 5] [6, 7] rfl rfl (by decide) (by decide) (fun _ => rfl) (fun r3 u3 H locs hw hP hD hS => ?_) (fun _ _ _ _ h9 => h9.elim)
  have hP : va_P D vwCl (w_Wd k ad_this (ad_this_keywords 0) u3 ++ w_Kw k ad_this_keywords z_this_keywords) H := hP.sub [2, 3, 4, 5, 6, 7, 0, 1] rfl
  have hD : va_D A (w_Wd k ad_this (ad_this_keywords 0) u3 ++ w_Kw k ad_this_keywords z_this_keywords) := hD.sub [2, 3, 4, 5, 6, 7, 0, 1] (by decide) rfl
  refine lv_aload_n hx hb d_Wd_split_49 rfl (lv_at hl 0 rfl) ?_
  refine lv_iconst (v := (-1 : Int32)) hx hb d_Wd_split_50 (by decide) ?_
  refine va_put (D := D) (ci := 2) (v := .int (-1 : Int32)) (ty := .int) (C := R_Wd) (T := F_Wd) (N := 15) hx hb hts in_Wd t_Wd t_Wd_ok n_Wd hown hK hP hD hS 0 rfl rfl 8 (by decide) (hts (.fieldLink R_Wd 56 R_Wd "current" "I") kw1_105) (fun _ h9 => h9) rfl (by decide +kernel) rfl rfl (Nat.le_of_ble_eq_true rfl) d_Wd_split_51 (fun H locs hP hD hS => ?_)
  have hP : va_P D vwCl (w_Wd k ad_this (ad_this_keywords 0) (u3.1, u3.2.1, u3.2.2.1, u3.2.2.2.1, u3.2.2.2.2.1, u3.2.2.2.2.2.1, u3.2.2.2.2.2.2.1, (-1 : Int32), u3.2.2.2.2.2.2.2.2.1, u3.2.2.2.2.2.2.2.2.2.1, u3.2.2.2.2.2.2.2.2.2.2.1, u3.2.2.2.2.2.2.2.2.2.2.2.1, u3.2.2.2.2.2.2.2.2.2.2.2.2.1, u3.2.2.2.2.2.2.2.2.2.2.2.2.2) ++ w_Kw k ad_this_keywords z_this_keywords) H := hP
  have hD : va_D A (w_Wd k ad_this (ad_this_keywords 0) (u3.1, u3.2.1, u3.2.2.1, u3.2.2.2.1, u3.2.2.2.2.1, u3.2.2.2.2.2.1, u3.2.2.2.2.2.2.1, (-1 : Int32), u3.2.2.2.2.2.2.2.2.1, u3.2.2.2.2.2.2.2.2.2.1, u3.2.2.2.2.2.2.2.2.2.2.1, u3.2.2.2.2.2.2.2.2.2.2.2.1, u3.2.2.2.2.2.2.2.2.2.2.2.2.1, u3.2.2.2.2.2.2.2.2.2.2.2.2.2) ++ w_Kw k ad_this_keywords z_this_keywords) := hD
  refine lv_aload_n hx hb d_Wd_split_54 rfl (lv_at hl 0 rfl) ?_
  refine xq_go (wr := w_Kw k ad_this_keywords z_this_keywords) (stk := fun _ => []) (xq_runV (As := []) (rest := []) ⟨hx, hb, hml, hown, hts⟩ (c_Wd_advance (l := l) (o := o) (D := D) (k := k) (ad_this := ad_this) (q_this_keywords := (ad_this_keywords 0)) hw) (cw_Wd_advance hts kw2_129 ⟨Nat.le_of_ble_eq_true rfl, Nat.le_of_ble_eq_true rfl⟩) (va_recv hK hP (ci := 2) (q0 := 0) rfl rfl) (hP.sub [0, 1, 2, 3, 4, 5] rfl) hK hJ hS (va_free hD hS hA [0, 1, 2, 3, 4, 5] rfl) ((hD.sub [0, 1, 2, 3, 4, 5] (by decide) rfl).weaken (fun _ _ _ _ => trivial)) rfl hl.1 (Nat.le_of_ble_eq_true rfl) d_Wd_split_55 ⟨Nat.le_of_ble_eq_true rfl, Nat.le_of_ble_eq_true rfl⟩) hP hD hS hA [0, 1, 2, 3, 4, 5] [6, 7] rfl rfl (by decide) (by decide) (fun _ => rfl) (fun r4 u4 H locs hw hP hD hS => ?_) (fun _ _ _ _ h9 => h9.elim)
  have hP : va_P D vwCl (w_Wd k ad_this (ad_this_keywords 0) u4 ++ w_Kw k ad_this_keywords z_this_keywords) H := hP.sub [2, 3, 4, 5, 6, 7, 0, 1] rfl
  have hD : va_D A (w_Wd k ad_this (ad_this_keywords 0) u4 ++ w_Kw k ad_this_keywords z_this_keywords) := hD.sub [2, 3, 4, 5, 6, 7, 0, 1] (by decide) rfl
  exact xq_vret (r := ()) (u := u4) hx hb hr hlocks hAe hP hD hS rfl hw (Nat.le_of_ble_eq_true rfl) (Nat.le_of_ble_eq_true rfl) d_Wd_split_58
theorem cw_Wd_split {R : Room} {s : State} {args : Array Value} {own : String} {index : Nat} (hts : ∀ w ∈ xq_W, w.before args s = true) (hl : .methodLink own index y_Wd_split ∈ xq_W) {rm : Room} (hR : rm.frames + 1 ≤ R.frames ∧ 8 + (3 + 11) + rm.locals ≤ R.locals) : CallW R s args own "StepText$Words" index y_Wd_split prog_8_method_4_code 3 none (.code y_Wd_split prog_8_method_4_code 3 none :: xq_W) rm rm.cells rm.slots 0 := ⟨xq_cb 0 hts kw2_82 kw1_7 hl ⟨by decide, by decide, by decide +kernel⟩ hR, hts _ kw2_80, hts _ kw2_81⟩
