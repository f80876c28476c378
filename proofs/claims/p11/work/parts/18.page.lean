theorem kw2_30 : (Jvm.Cond.fieldLink "StepText$Page" (35 : Nat) "StepText$Page" "length" "I") ∈ xq_W := xq_in tb_2 30 (by decide +kernel) rfl
theorem kw4_130 : (Jvm.Cond.code ({ cls := "StepText$Page", name := "byteAt", desc := "(I)I" } : Jvm.MethodName) prog_6_method_2_code (2 : Nat) (Option.some Jvm.ClassFile.FieldType.int)) ∈ xq_W := xq_in tb_4 130 (by decide +kernel) rfl
theorem kw4_128 : (Jvm.Cond.instanceMethod ({ cls := "StepText$Page", name := "byteAt", desc := "(I)I" } : Jvm.MethodName)) ∈ xq_W := xq_in tb_4 128 (by decide +kernel) rfl
theorem kw4_129 : (Jvm.Cond.selects "StepText$Page" ({ cls := "StepText$Page", name := "byteAt", desc := "(I)I" } : Jvm.MethodName) ({ cls := "StepText$Page", name := "byteAt", desc := "(I)I" } : Jvm.MethodName)) ∈ xq_W := xq_in tb_4 129 (by decide +kernel) rfl
theorem kw4_53 : (Jvm.Cond.code ({ cls := "StepText$Page", name := "isInLine", desc := "()Z" } : Jvm.MethodName) prog_6_method_13_code (1 : Nat) (Option.some Jvm.ClassFile.FieldType.boolean)) ∈ xq_W := xq_in tb_4 53 (by decide +kernel) rfl
theorem kw4_52 : (Jvm.Cond.instanceMethod ({ cls := "StepText$Page", name := "isInLine", desc := "()Z" } : Jvm.MethodName)) ∈ xq_W := xq_in tb_4 52 (by decide +kernel) rfl
theorem kp3_7 : Cond.selects "StepText$Page" (⟨"StepText$Page", "isInLine", "()Z"⟩ : MethodName) (⟨"StepText$Page", "isInLine", "()Z"⟩ : MethodName) ∈ xq_W := xq_inp tp_3 (y := (⟨"StepText$Page", "isInLine", "()Z"⟩ : MethodName)) (k := 5) 7 (by decide +kernel)
theorem kw4_57 : (Jvm.Cond.code ({ cls := "StepText$Page", name := "put", desc := "(I)V" } : Jvm.MethodName) prog_6_method_16_code (2 : Nat) (Option.none : Option Jvm.ClassFile.FieldType)) ∈ xq_W := xq_in tb_4 57 (by decide +kernel) rfl
theorem kw4_56 : (Jvm.Cond.instanceMethod ({ cls := "StepText$Page", name := "put", desc := "(I)V" } : Jvm.MethodName)) ∈ xq_W := xq_in tb_4 56 (by decide +kernel) rfl
theorem kp3_8 : Cond.selects "StepText$Page" (⟨"StepText$Page", "put", "(I)V"⟩ : MethodName) (⟨"StepText$Page", "put", "(I)V"⟩ : MethodName) ∈ xq_W := xq_inp tp_3 (y := (⟨"StepText$Page", "put", "(I)V"⟩ : MethodName)) (k := 5) 8 (by decide +kernel)
theorem kw4_50 : (Jvm.Cond.methodLink "StepText$Page" (140 : Nat) ({ cls := "StepText$Page", name := "isInLine", desc := "()Z" } : Jvm.MethodName)) ∈ xq_W := xq_in tb_4 50 (by decide +kernel) rfl
theorem kw4_54 : (Jvm.Cond.methodLink "StepText$Page" (144 : Nat) ({ cls := "StepText$Page", name := "put", desc := "(I)V" } : Jvm.MethodName)) ∈ xq_W := xq_in tb_4 54 (by decide +kernel) rfl
theorem kw4_49 : (Jvm.Cond.code ({ cls := "StepText$Page", name := "beginWord", desc := "()V" } : Jvm.MethodName) prog_6_method_15_code (1 : Nat) (Option.none : Option Jvm.ClassFile.FieldType)) ∈ xq_W := xq_in tb_4 49 (by decide +kernel) rfl
theorem kw4_48 : (Jvm.Cond.instanceMethod ({ cls := "StepText$Page", name := "beginWord", desc := "()V" } : Jvm.MethodName)) ∈ xq_W := xq_in tb_4 48 (by decide +kernel) rfl
theorem kp3_6 : Cond.selects "StepText$Page" (⟨"StepText$Page", "beginWord", "()V"⟩ : MethodName) (⟨"StepText$Page", "beginWord", "()V"⟩ : MethodName) ∈ xq_W := xq_inp tp_3 (y := (⟨"StepText$Page", "beginWord", "()V"⟩ : MethodName)) (k := 5) 6 (by decide +kernel)
theorem kw4_46 : (Jvm.Cond.methodLink "StepText$Page" (147 : Nat) ({ cls := "StepText$Page", name := "beginWord", desc := "()V" } : Jvm.MethodName)) ∈ xq_W := xq_in tb_4 46 (by decide +kernel) rfl
theorem kw4_58 : (Jvm.Cond.constantLong "StepText$Page" (124 : Nat) (1000 : Int64)) ∈ xq_W := xq_in tb_4 58 (by decide +kernel) rfl
theorem kw4_59 : (Jvm.Cond.constant "StepText$Page" (155 : Nat) (100000000 : Int32)) ∈ xq_W := xq_in tb_4 59 (by decide +kernel) rfl
theorem kw4_60 : (Jvm.Cond.constantLong "StepText$Page" (156 : Nat) (10 : Int64)) ∈ xq_W := xq_in tb_4 60 (by decide +kernel) rfl
theorem kw4_45 : (Jvm.Cond.code ({ cls := "StepText$Page", name := "putAmount", desc := "(J)V" } : Jvm.MethodName) prog_6_method_20_code (7 : Nat) (Option.none : Option Jvm.ClassFile.FieldType)) ∈ xq_W := xq_in tb_4 45 (by decide +kernel) rfl
theorem kw4_44 : (Jvm.Cond.instanceMethod ({ cls := "StepText$Page", name := "putAmount", desc := "(J)V" } : Jvm.MethodName)) ∈ xq_W := xq_in tb_4 44 (by decide +kernel) rfl
theorem kp3_5 : Cond.selects "StepText$Page" (⟨"StepText$Page", "putAmount", "(J)V"⟩ : MethodName) (⟨"StepText$Page", "putAmount", "(J)V"⟩ : MethodName) ∈ xq_W := xq_inp tp_3 (y := (⟨"StepText$Page", "putAmount", "(J)V"⟩ : MethodName)) (k := 5) 5 (by decide +kernel)
theorem kw4_74 : (Jvm.Cond.constantLong "StepText$Page" (150 : Nat) (37 : Int64)) ∈ xq_W := xq_in tb_4 74 (by decide +kernel) rfl
theorem kw4_75 : (Jvm.Cond.methodLink "StepText$Page" (152 : Nat) ({ cls := "StepText$Keywords", name := "unranked", desc := "(I)I" } : Jvm.MethodName)) ∈ xq_W := xq_in tb_4 75 (by decide +kernel) rfl
theorem kw4_73 : (Jvm.Cond.code ({ cls := "StepText$Page", name := "putLetters", desc := "(J)V" } : Jvm.MethodName) prog_6_method_19_code (6 : Nat) (Option.none : Option Jvm.ClassFile.FieldType)) ∈ xq_W := xq_in tb_4 73 (by decide +kernel) rfl
theorem kw4_72 : (Jvm.Cond.instanceMethod ({ cls := "StepText$Page", name := "putLetters", desc := "(J)V" } : Jvm.MethodName)) ∈ xq_W := xq_in tb_4 72 (by decide +kernel) rfl
theorem kp3_10 : Cond.selects "StepText$Page" (⟨"StepText$Page", "putLetters", "(J)V"⟩ : MethodName) (⟨"StepText$Page", "putLetters", "(J)V"⟩ : MethodName) ∈ xq_W := xq_inp tp_3 (y := (⟨"StepText$Page", "putLetters", "(J)V"⟩ : MethodName)) (k := 5) 10 (by decide +kernel)
theorem kw4_66 : (Jvm.Cond.methodLink "StepText$Page" (69 : Nat) ({ cls := "StepText$Keywords", name := "lettersOf", desc := "(I)J" } : Jvm.MethodName)) ∈ xq_W := xq_in tb_4 66 (by decide +kernel) rfl
theorem kw4_70 : (Jvm.Cond.methodLink "StepText$Page" (73 : Nat) ({ cls := "StepText$Page", name := "putLetters", desc := "(J)V" } : Jvm.MethodName)) ∈ xq_W := xq_in tb_4 70 (by decide +kernel) rfl
theorem kw4_65 : (Jvm.Cond.code ({ cls := "StepText$Page", name := "putUnit", desc := "(I)V" } : Jvm.MethodName) prog_6_method_18_code (2 : Nat) (Option.none : Option Jvm.ClassFile.FieldType)) ∈ xq_W := xq_in tb_4 65 (by decide +kernel) rfl
theorem kw4_64 : (Jvm.Cond.instanceMethod ({ cls := "StepText$Page", name := "putUnit", desc := "(I)V" } : Jvm.MethodName)) ∈ xq_W := xq_in tb_4 64 (by decide +kernel) rfl
theorem kp3_9 : Cond.selects "StepText$Page" (⟨"StepText$Page", "putUnit", "(I)V"⟩ : MethodName) (⟨"StepText$Page", "putUnit", "(I)V"⟩ : MethodName) ∈ xq_W := xq_inp tp_3 (y := (⟨"StepText$Page", "putUnit", "(I)V"⟩ : MethodName)) (k := 5) 9 (by decide +kernel)
theorem kw4_86 : (Jvm.Cond.code ({ cls := "StepText$Page", name := "putSign", desc := "(C)V" } : Jvm.MethodName) prog_6_method_17_code (2 : Nat) (Option.none : Option Jvm.ClassFile.FieldType)) ∈ xq_W := xq_in tb_4 86 (by decide +kernel) rfl
theorem kw4_85 : (Jvm.Cond.instanceMethod ({ cls := "StepText$Page", name := "putSign", desc := "(C)V" } : Jvm.MethodName)) ∈ xq_W := xq_in tb_4 85 (by decide +kernel) rfl
theorem kp3_11 : Cond.selects "StepText$Page" (⟨"StepText$Page", "putSign", "(C)V"⟩ : MethodName) (⟨"StepText$Page", "putSign", "(C)V"⟩ : MethodName) ∈ xq_W := xq_inp tp_3 (y := (⟨"StepText$Page", "putSign", "(C)V"⟩ : MethodName)) (k := 5) 11 (by decide +kernel)
theorem kw4_94 : (Jvm.Cond.code ({ cls := "StepText$Page", name := "beginLine", desc := "()V" } : Jvm.MethodName) prog_6_method_14_code (1 : Nat) (Option.none : Option Jvm.ClassFile.FieldType)) ∈ xq_W := xq_in tb_4 94 (by decide +kernel) rfl
theorem kw4_93 : (Jvm.Cond.instanceMethod ({ cls := "StepText$Page", name := "beginLine", desc := "()V" } : Jvm.MethodName)) ∈ xq_W := xq_in tb_4 93 (by decide +kernel) rfl
theorem kp3_13 : Cond.selects "StepText$Page" (⟨"StepText$Page", "beginLine", "()V"⟩ : MethodName) (⟨"StepText$Page", "beginLine", "()V"⟩ : MethodName) ∈ xq_W := xq_inp tp_3 (y := (⟨"StepText$Page", "beginLine", "()V"⟩ : MethodName)) (k := 5) 13 (by decide +kernel)
theorem kw4_40 : (Jvm.Cond.methodLink "StepText$Page" (104 : Nat) ({ cls := "StepText$Nodes", name := "kindOf", desc := "(I)I" } : Jvm.MethodName)) ∈ xq_W := xq_in tb_4 40 (by decide +kernel) rfl
theorem kw4_91 : (Jvm.Cond.methodLink "StepText$Page" (66 : Nat) ({ cls := "StepText$Page", name := "beginLine", desc := "()V" } : Jvm.MethodName)) ∈ xq_W := xq_in tb_4 91 (by decide +kernel) rfl
theorem kw4_78 : (Jvm.Cond.methodLink "StepText$Page" (114 : Nat) ({ cls := "StepText$Nodes", name := "subjectOf", desc := "(I)I" } : Jvm.MethodName)) ∈ xq_W := xq_in tb_4 78 (by decide +kernel) rfl
theorem kw4_79 : (Jvm.Cond.methodLink "StepText$Page" (77 : Nat) ({ cls := "StepText$Names", name := "lettersOf", desc := "(I)J" } : Jvm.MethodName)) ∈ xq_W := xq_in tb_4 79 (by decide +kernel) rfl
theorem kw4_41 : (Jvm.Cond.methodLink "StepText$Page" (107 : Nat) ({ cls := "StepText$Nodes", name := "valueOf", desc := "(I)J" } : Jvm.MethodName)) ∈ xq_W := xq_in tb_4 41 (by decide +kernel) rfl
theorem kw4_42 : (Jvm.Cond.methodLink "StepText$Page" (110 : Nat) ({ cls := "StepText$Page", name := "putAmount", desc := "(J)V" } : Jvm.MethodName)) ∈ xq_W := xq_in tb_4 42 (by decide +kernel) rfl
theorem kw4_90 : (Jvm.Cond.code ({ cls := "StepText$Page", name := "beginStatement", desc := "(I)V" } : Jvm.MethodName) prog_6_method_8_code (3 : Nat) (Option.none : Option Jvm.ClassFile.FieldType)) ∈ xq_W := xq_in tb_4 90 (by decide +kernel) rfl
theorem kw4_89 : (Jvm.Cond.instanceMethod ({ cls := "StepText$Page", name := "beginStatement", desc := "(I)V" } : Jvm.MethodName)) ∈ xq_W := xq_in tb_4 89 (by decide +kernel) rfl
theorem kp3_12 : Cond.selects "StepText$Page" (⟨"StepText$Page", "beginStatement", "(I)V"⟩ : MethodName) (⟨"StepText$Page", "beginStatement", "(I)V"⟩ : MethodName) ∈ xq_W := xq_inp tp_3 (y := (⟨"StepText$Page", "beginStatement", "(I)V"⟩ : MethodName)) (k := 5) 12 (by decide +kernel)
theorem kw4_105 : (Jvm.Cond.code ({ cls := "StepText$Page", name := "binding", desc := "(I)I" } : Jvm.MethodName) prog_6_method_12_code (1 : Nat) (Option.some Jvm.ClassFile.FieldType.int)) ∈ xq_W := xq_in tb_4 105 (by decide +kernel) rfl
theorem kw4_104 : (Jvm.Cond.static ({ cls := "StepText$Page", name := "binding", desc := "(I)I" } : Jvm.MethodName)) ∈ xq_W := xq_in tb_4 104 (by decide +kernel) rfl
theorem kw4_99 : (Jvm.Cond.methodLink "StepText$Page" (101 : Nat) ({ cls := "StepText$Nodes", name := "parentOf", desc := "(I)I" } : Jvm.MethodName)) ∈ xq_W := xq_in tb_4 99 (by decide +kernel) rfl
theorem kw4_103 : (Jvm.Cond.methodLink "StepText$Page" (137 : Nat) ({ cls := "StepText$Page", name := "binding", desc := "(I)I" } : Jvm.MethodName)) ∈ xq_W := xq_in tb_4 103 (by decide +kernel) rfl
theorem kw4_29 : (Jvm.Cond.methodLink "StepText$Page" (39 : Nat) ({ cls := "StepText$Nodes", name := "firstOf", desc := "(I)I" } : Jvm.MethodName)) ∈ xq_W := xq_in tb_4 29 (by decide +kernel) rfl
theorem kw4_98 : (Jvm.Cond.code ({ cls := "StepText$Page", name := "isBracketed", desc := "(I)Z" } : Jvm.MethodName) prog_6_method_11_code (5 : Nat) (Option.some Jvm.ClassFile.FieldType.boolean)) ∈ xq_W := xq_in tb_4 98 (by decide +kernel) rfl
theorem kw4_97 : (Jvm.Cond.instanceMethod ({ cls := "StepText$Page", name := "isBracketed", desc := "(I)Z" } : Jvm.MethodName)) ∈ xq_W := xq_in tb_4 97 (by decide +kernel) rfl
theorem kp3_14 : Cond.selects "StepText$Page" (⟨"StepText$Page", "isBracketed", "(I)Z"⟩ : MethodName) (⟨"StepText$Page", "isBracketed", "(I)Z"⟩ : MethodName) ∈ xq_W := xq_inp tp_3 (y := (⟨"StepText$Page", "isBracketed", "(I)Z"⟩ : MethodName)) (k := 5) 14 (by decide +kernel)
theorem kw4_61 : (Jvm.Cond.methodLink "StepText$Page" (113 : Nat) ({ cls := "StepText$Nodes", name := "measureOf", desc := "(I)I" } : Jvm.MethodName)) ∈ xq_W := xq_in tb_4 61 (by decide +kernel) rfl
theorem kw4_62 : (Jvm.Cond.methodLink "StepText$Page" (81 : Nat) ({ cls := "StepText$Page", name := "putUnit", desc := "(I)V" } : Jvm.MethodName)) ∈ xq_W := xq_in tb_4 62 (by decide +kernel) rfl
theorem kw4_83 : (Jvm.Cond.methodLink "StepText$Page" (84 : Nat) ({ cls := "StepText$Page", name := "putSign", desc := "(C)V" } : Jvm.MethodName)) ∈ xq_W := xq_in tb_4 83 (by decide +kernel) rfl
theorem kw4_95 : (Jvm.Cond.methodLink "StepText$Page" (120 : Nat) ({ cls := "StepText$Page", name := "isBracketed", desc := "(I)Z" } : Jvm.MethodName)) ∈ xq_W := xq_in tb_4 95 (by decide +kernel) rfl
theorem kw4_87 : (Jvm.Cond.methodLink "StepText$Page" (117 : Nat) ({ cls := "StepText$Page", name := "beginStatement", desc := "(I)V" } : Jvm.MethodName)) ∈ xq_W := xq_in tb_4 87 (by decide +kernel) rfl
theorem kw4_39 : (Jvm.Cond.code ({ cls := "StepText$Page", name := "enter", desc := "(I)V" } : Jvm.MethodName) prog_6_method_7_code (2 : Nat) (Option.none : Option Jvm.ClassFile.FieldType)) ∈ xq_W := xq_in tb_4 39 (by decide +kernel) rfl
theorem kw4_38 : (Jvm.Cond.instanceMethod ({ cls := "StepText$Page", name := "enter", desc := "(I)V" } : Jvm.MethodName)) ∈ xq_W := xq_in tb_4 38 (by decide +kernel) rfl
theorem kp3_4 : Cond.selects "StepText$Page" (⟨"StepText$Page", "enter", "(I)V"⟩ : MethodName) (⟨"StepText$Page", "enter", "(I)V"⟩ : MethodName) ∈ xq_W := xq_inp tp_3 (y := (⟨"StepText$Page", "enter", "(I)V"⟩ : MethodName)) (k := 5) 4 (by decide +kernel)
theorem kw4_114 : (Jvm.Cond.methodLink "StepText$Page" (126 : Nat) ({ cls := "StepText$Nodes", name := "endsWithSemicolon", desc := "(I)Z" } : Jvm.MethodName)) ∈ xq_W := xq_in tb_4 114 (by decide +kernel) rfl
theorem kw4_113 : (Jvm.Cond.code ({ cls := "StepText$Page", name := "leave", desc := "(I)V" } : Jvm.MethodName) prog_6_method_9_code (3 : Nat) (Option.none : Option Jvm.ClassFile.FieldType)) ∈ xq_W := xq_in tb_4 113 (by decide +kernel) rfl
theorem kw4_112 : (Jvm.Cond.instanceMethod ({ cls := "StepText$Page", name := "leave", desc := "(I)V" } : Jvm.MethodName)) ∈ xq_W := xq_in tb_4 112 (by decide +kernel) rfl
theorem kp4_0 : Cond.selects "StepText$Page" (⟨"StepText$Page", "leave", "(I)V"⟩ : MethodName) (⟨"StepText$Page", "leave", "(I)V"⟩ : MethodName) ∈ xq_W := xq_inp tp_4 (y := (⟨"StepText$Page", "leave", "(I)V"⟩ : MethodName)) (k := 5) 0 (by decide +kernel)
theorem kw4_121 : (Jvm.Cond.methodLink "StepText$Page" (131 : Nat) ({ cls := "java/lang/String", name := "charAt", desc := "(I)C" } : Jvm.MethodName)) ∈ xq_W := xq_in tb_4 121 (by decide +kernel) rfl
theorem kw4_119 : (Jvm.Cond.code ({ cls := "StepText$Page", name := "putBehind", desc := "(I)V" } : Jvm.MethodName) prog_6_method_10_code (4 : Nat) (Option.none : Option Jvm.ClassFile.FieldType)) ∈ xq_W := xq_in tb_4 119 (by decide +kernel) rfl
theorem kw4_118 : (Jvm.Cond.instanceMethod ({ cls := "StepText$Page", name := "putBehind", desc := "(I)V" } : Jvm.MethodName)) ∈ xq_W := xq_in tb_4 118 (by decide +kernel) rfl
theorem kp4_1 : Cond.selects "StepText$Page" (⟨"StepText$Page", "putBehind", "(I)V"⟩ : MethodName) (⟨"StepText$Page", "putBehind", "(I)V"⟩ : MethodName) ∈ xq_W := xq_inp tp_4 (y := (⟨"StepText$Page", "putBehind", "(I)V"⟩ : MethodName)) (k := 5) 1 (by decide +kernel)
theorem kw4_110 : (Jvm.Cond.methodLink "StepText$Page" (95 : Nat) ({ cls := "StepText$Page", name := "leave", desc := "(I)V" } : Jvm.MethodName)) ∈ xq_W := xq_in tb_4 110 (by decide +kernel) rfl
theorem kw4_115 : (Jvm.Cond.methodLink "StepText$Page" (60 : Nat) ({ cls := "StepText$Nodes", name := "nextOf", desc := "(I)I" } : Jvm.MethodName)) ∈ xq_W := xq_in tb_4 115 (by decide +kernel) rfl
theorem kw4_116 : (Jvm.Cond.methodLink "StepText$Page" (98 : Nat) ({ cls := "StepText$Page", name := "putBehind", desc := "(I)V" } : Jvm.MethodName)) ∈ xq_W := xq_in tb_4 116 (by decide +kernel) rfl
theorem kw4_109 : (Jvm.Cond.code ({ cls := "StepText$Page", name := "leaveUpTo", desc := "(II)I" } : Jvm.MethodName) prog_6_method_6_code (5 : Nat) (Option.some Jvm.ClassFile.FieldType.int)) ∈ xq_W := xq_in tb_4 109 (by decide +kernel) rfl
theorem kw4_108 : (Jvm.Cond.instanceMethod ({ cls := "StepText$Page", name := "leaveUpTo", desc := "(II)I" } : Jvm.MethodName)) ∈ xq_W := xq_in tb_4 108 (by decide +kernel) rfl
theorem kp3_15 : Cond.selects "StepText$Page" (⟨"StepText$Page", "leaveUpTo", "(II)I"⟩ : MethodName) (⟨"StepText$Page", "leaveUpTo", "(II)I"⟩ : MethodName) ∈ xq_W := xq_inp tp_3 (y := (⟨"StepText$Page", "leaveUpTo", "(II)I"⟩ : MethodName)) (k := 5) 15 (by decide +kernel)
theorem kw4_36 : (Jvm.Cond.methodLink "StepText$Page" (88 : Nat) ({ cls := "StepText$Page", name := "enter", desc := "(I)V" } : Jvm.MethodName)) ∈ xq_W := xq_in tb_4 36 (by decide +kernel) rfl
theorem kw4_106 : (Jvm.Cond.methodLink "StepText$Page" (91 : Nat) ({ cls := "StepText$Page", name := "leaveUpTo", desc := "(II)I" } : Jvm.MethodName)) ∈ xq_W := xq_in tb_4 106 (by decide +kernel) rfl
theorem kw4_35 : (Jvm.Cond.code ({ cls := "StepText$Page", name := "layNode", desc := "(I)V" } : Jvm.MethodName) prog_6_method_5_code (5 : Nat) (Option.none : Option Jvm.ClassFile.FieldType)) ∈ xq_W := xq_in tb_4 35 (by decide +kernel) rfl
theorem kw4_34 : (Jvm.Cond.instanceMethod ({ cls := "StepText$Page", name := "layNode", desc := "(I)V" } : Jvm.MethodName)) ∈ xq_W := xq_in tb_4 34 (by decide +kernel) rfl
theorem kp3_3 : Cond.selects "StepText$Page" (⟨"StepText$Page", "layNode", "(I)V"⟩ : MethodName) (⟨"StepText$Page", "layNode", "(I)V"⟩ : MethodName) ∈ xq_W := xq_inp tp_3 (y := (⟨"StepText$Page", "layNode", "(I)V"⟩ : MethodName)) (k := 5) 3 (by decide +kernel)
theorem kw4_31 : (Jvm.Cond.methodLink "StepText$Page" (51 : Nat) ({ cls := "StepText$Names", name := "sortOf", desc := "(I)I" } : Jvm.MethodName)) ∈ xq_W := xq_in tb_4 31 (by decide +kernel) rfl
theorem kw4_126 : (Jvm.Cond.methodLink "StepText$Page" (78 : Nat) ({ cls := "StepText$Names", name := "measureOf", desc := "(I)I" } : Jvm.MethodName)) ∈ xq_W := xq_in tb_4 126 (by decide +kernel) rfl
theorem kw4_125 : (Jvm.Cond.code ({ cls := "StepText$Page", name := "layDeclaration", desc := "(I)V" } : Jvm.MethodName) prog_6_method_4_code (2 : Nat) (Option.none : Option Jvm.ClassFile.FieldType)) ∈ xq_W := xq_in tb_4 125 (by decide +kernel) rfl
theorem kw4_124 : (Jvm.Cond.instanceMethod ({ cls := "StepText$Page", name := "layDeclaration", desc := "(I)V" } : Jvm.MethodName)) ∈ xq_W := xq_in tb_4 124 (by decide +kernel) rfl
theorem kp4_2 : Cond.selects "StepText$Page" (⟨"StepText$Page", "layDeclaration", "(I)V"⟩ : MethodName) (⟨"StepText$Page", "layDeclaration", "(I)V"⟩ : MethodName) ∈ xq_W := xq_inp tp_4 (y := (⟨"StepText$Page", "layDeclaration", "(I)V"⟩ : MethodName)) (k := 5) 2 (by decide +kernel)
theorem kw4_30 : (Jvm.Cond.methodLink "StepText$Page" (45 : Nat) ({ cls := "StepText$Names", name := "count", desc := "()I" } : Jvm.MethodName)) ∈ xq_W := xq_in tb_4 30 (by decide +kernel) rfl
theorem kw4_122 : (Jvm.Cond.methodLink "StepText$Page" (63 : Nat) ({ cls := "StepText$Page", name := "layDeclaration", desc := "(I)V" } : Jvm.MethodName)) ∈ xq_W := xq_in tb_4 122 (by decide +kernel) rfl
theorem kw4_32 : (Jvm.Cond.methodLink "StepText$Page" (56 : Nat) ({ cls := "StepText$Page", name := "layNode", desc := "(I)V" } : Jvm.MethodName)) ∈ xq_W := xq_in tb_4 32 (by decide +kernel) rfl
theorem kw4_28 : (Jvm.Cond.code ({ cls := "StepText$Page", name := "lay", desc := "(LStepText$Program;)V" } : Jvm.MethodName) prog_6_method_3_code (4 : Nat) (Option.none : Option Jvm.ClassFile.FieldType)) ∈ xq_W := xq_in tb_4 28 (by decide +kernel) rfl
theorem kw4_26 : (Jvm.Cond.instanceMethod ({ cls := "StepText$Page", name := "lay", desc := "(LStepText$Program;)V" } : Jvm.MethodName)) ∈ xq_W := xq_in tb_4 26 (by decide +kernel) rfl
theorem kw4_27 : (Jvm.Cond.selects "StepText$Page" ({ cls := "StepText$Page", name := "lay", desc := "(LStepText$Program;)V" } : Jvm.MethodName) ({ cls := "StepText$Page", name := "lay", desc := "(LStepText$Program;)V" } : Jvm.MethodName)) ∈ xq_W := xq_in tb_4 27 (by decide +kernel) rfl
def y_Pg_byteAt : MethodName := ⟨"StepText$Page", "byteAt", "(I)I"⟩
theorem d_Pg_byteAt_0 : decode prog_6_method_2_code 0 = .ok (.iload_n 1, 1) := by decide +kernel
theorem d_Pg_byteAt_1 : decode prog_6_method_2_code 1 = .ok (.ifCond .lt 27, 3) := by decide +kernel
theorem d_Pg_byteAt_4 : decode prog_6_method_2_code 4 = .ok (.iload_n 1, 1) := by decide +kernel
theorem d_Pg_byteAt_5 : decode prog_6_method_2_code 5 = .ok (.aload_n 0, 1) := by decide +kernel
theorem d_Pg_byteAt_6 : decode prog_6_method_2_code 6 = .ok (.getfield 35, 3) := by decide +kernel
theorem d_Pg_byteAt_9 : decode prog_6_method_2_code 9 = .ok (.if_icmp .ge 19, 3) := by decide +kernel
theorem d_Pg_byteAt_12 : decode prog_6_method_2_code 12 = .ok (.iload_n 1, 1) := by decide +kernel
theorem d_Pg_byteAt_13 : decode prog_6_method_2_code 13 = .ok (.sipush 12000, 3) := by decide +kernel
theorem d_Pg_byteAt_16 : decode prog_6_method_2_code 16 = .ok (.if_icmp .ge 12, 3) := by decide +kernel
theorem d_Pg_byteAt_19 : decode prog_6_method_2_code 19 = .ok (.aload_n 0, 1) := by decide +kernel
theorem d_Pg_byteAt_20 : decode prog_6_method_2_code 20 = .ok (.getfield 11, 3) := by decide +kernel
theorem d_Pg_byteAt_23 : decode prog_6_method_2_code 23 = .ok (.iload_n 1, 1) := by decide +kernel
theorem d_Pg_byteAt_24 : decode prog_6_method_2_code 24 = .ok (.baload, 1) := by decide +kernel
theorem d_Pg_byteAt_25 : decode prog_6_method_2_code 25 = .ok (.goto 4, 3) := by decide +kernel
theorem d_Pg_byteAt_28 : decode prog_6_method_2_code 28 = .ok (.iconst (-1), 1) := by decide +kernel
theorem d_Pg_byteAt_29 : decode prog_6_method_2_code 29 = .ok (.ireturn, 1) := by decide +kernel
def wp_Pg_byteAt (z_this : T_Pg) (a1 : Int32) (post : Int32 → Unit → Prop) : Prop := (a1 < 0 → (post (-1 : Int32) ())) ∧ (¬ a1 < 0 → ((z_this.2 ≤ a1 → (post (-1 : Int32) ())) ∧ (¬ z_this.2 ≤ a1 → (((12000 : Int32) ≤ a1 → (post (-1 : Int32) ())) ∧ (¬ (12000 : Int32) ≤ a1 → (vp_in a1 12000 ∧ (post (z_this.1 (a1).toNatClampNeg) ())))))))
def rm_Pg_byteAt : Room := { frames := 0, cells := 0, slots := 0, locals := 0 }
set_option maxHeartbeats 4000000 in
set_option maxRecDepth 100000 in
theorem c_Pg_byteAt {l : Launch} {o : State × Array Value} {D : va_G} {k : Nat → ClassId} {ad_this : Nat → Nat} {q_this_keywords : Nat} {q_this_names : Nat} {q_this_nodes : Nat} {z_this : T_Pg} {a1 : Int32} {post : Int32 → Unit → Prop} (hw : wp_Pg_byteAt z_this a1 post) : xq_C l o y_Pg_byteAt (.code y_Pg_byteAt prog_6_method_2_code 2 (some (.int)) :: xq_W) rm_Pg_byteAt D vwCl (xt k) [.ref (ad_this 0), .int a1] (w_Pg k ad_this q_this_keywords q_this_names q_this_nodes z_this) (fun r : Int32 => some (.int r)) post (fun _ : Unit => False) (fun u : Unit => w_Pg k ad_this q_this_keywords q_this_names q_this_nodes z_this) 0 0 0 0 := by
  refine xq_ofW (cc := prog_6_method_2_code) (maxL := 2) (ret := (some (.int))) (by decide) rfl (Nat.le_of_ble_eq_true rfl) ?_
  intro p e s m below meth c ls H locs A hAt hAe hA hl hK hJ hP0 hP hD hS
  obtain ⟨hx, hb, hml, hr, hlocks, hown, hts, hex, hnm⟩ := id hAt
  have hl : lv_has ls 2 [(0, .ref (ad_this 0)), (1, .int a1)] := hl
  unfold wp_Pg_byteAt at hw
  refine lv_iload_n hx hb d_Pg_byteAt_0 rfl (lv_at hl 1 rfl) ?_
  refine lv_if_lt (tgt := 28) hx hb d_Pg_byteAt_1 (by decide) (fun hc => ?_) (fun hc => ?_)
  · have hw := hw.1 hc
    refine lv_iconst (v := (-1 : Int32)) hx hb d_Pg_byteAt_28 (by decide) ?_
    exact xq_iret (r := (-1 : Int32)) (u := ()) hx hb hr hlocks hAe hP hD hS rfl hw (Nat.le_of_ble_eq_true rfl) (Nat.le_of_ble_eq_true rfl) d_Pg_byteAt_29
  · have hw := hw.2 hc
    refine lv_iload_n hx hb d_Pg_byteAt_4 rfl (lv_at hl 1 rfl) ?_
    refine lv_aload_n hx hb d_Pg_byteAt_5 rfl (lv_at hl 0 rfl) ?_
    refine va_get (D := D) (ci := 7) (v := .int z_this.2) (C := R_Pg) (T := F_Pg) (N := 5) hx hb hts in_Pg hown hK hP 0 rfl rfl 2 (by decide) (hts (.fieldLink R_Pg 35 R_Pg "length" "I") kw2_30) (fun _ h9 => h9) rfl d_Pg_byteAt_6 ?_
    refine lv_icmp_ge (tgt := 28) hx hb d_Pg_byteAt_9 (by decide) (fun hc => ?_) (fun hc => ?_)
    · have hw := hw.1 hc
      refine lv_iconst (v := (-1 : Int32)) hx hb d_Pg_byteAt_28 (by decide) ?_
      exact xq_iret (r := (-1 : Int32)) (u := ()) hx hb hr hlocks hAe hP hD hS rfl hw (Nat.le_of_ble_eq_true rfl) (Nat.le_of_ble_eq_true rfl) d_Pg_byteAt_29
    · have hw := hw.2 hc
      refine lv_iload_n hx hb d_Pg_byteAt_12 rfl (lv_at hl 1 rfl) ?_
      refine lv_sipush (v := (12000 : Int32)) hx hb d_Pg_byteAt_13 (by decide) ?_
      refine lv_icmp_ge (tgt := 28) hx hb d_Pg_byteAt_16 (by decide) (fun hc => ?_) (fun hc => ?_)
      · have hw := hw.1 hc
        refine lv_iconst (v := (-1 : Int32)) hx hb d_Pg_byteAt_28 (by decide) ?_
        exact xq_iret (r := (-1 : Int32)) (u := ()) hx hb hr hlocks hAe hP hD hS rfl hw (Nat.le_of_ble_eq_true rfl) (Nat.le_of_ble_eq_true rfl) d_Pg_byteAt_29
      · have hw := hw.2 hc
        refine lv_aload_n hx hb d_Pg_byteAt_19 rfl (lv_at hl 0 rfl) ?_
        refine va_get (D := D) (ci := 7) (v := .ref (ad_this 1)) (C := R_Pg) (T := F_Pg) (N := 5) hx hb hts in_Pg hown hK hP 0 rfl rfl 1 (by decide) (hts (.fieldLink R_Pg 11 R_Pg "bytes" "[B") kw2_29) (fun _ h9 => h9) rfl d_Pg_byteAt_20 ?_
        refine lv_iload_n hx hb d_Pg_byteAt_23 rfl (lv_at hl 1 rfl) ?_
        refine va_bald hx hb hK hP 1 2 rfl rfl hw.1 d_Pg_byteAt_24 ?_
        have hw := hw.2
        refine lv_goto (tgt := 29) hx hb d_Pg_byteAt_25 (by decide) ?_
        exact xq_iret (r := (z_this.1 (a1).toNatClampNeg)) (u := ()) hx hb hr hlocks hAe hP hD hS rfl hw (Nat.le_of_ble_eq_true rfl) (Nat.le_of_ble_eq_true rfl) d_Pg_byteAt_29
theorem cw_Pg_byteAt {R : Room} {s : State} {args : Array Value} {own : String} {index : Nat} (hts : ∀ w ∈ xq_W, w.before args s = true) (hl : .methodLink own index y_Pg_byteAt ∈ xq_W) {rm : Room} (hR : rm.frames + 1 ≤ R.frames ∧ 8 + (2 + 11) + rm.locals ≤ R.locals) : CallW R s args own "StepText$Page" index y_Pg_byteAt prog_6_method_2_code 2 (some (.int)) (.code y_Pg_byteAt prog_6_method_2_code 2 (some (.int)) :: xq_W) rm rm.cells rm.slots 1 := ⟨xq_cb 1 hts kw4_130 kw1_12 hl ⟨by decide, by decide, by decide +kernel⟩ hR, hts _ kw4_128, hts _ kw4_129⟩
def y_Pg_isInLine : MethodName := ⟨"StepText$Page", "isInLine", "()Z"⟩
theorem d_Pg_isInLine_0 : decode prog_6_method_13_code 0 = .ok (.aload_n 0, 1) := by decide +kernel
theorem d_Pg_isInLine_1 : decode prog_6_method_13_code 1 = .ok (.getfield 35, 3) := by decide +kernel
theorem d_Pg_isInLine_4 : decode prog_6_method_13_code 4 = .ok (.ifCond .le 33, 3) := by decide +kernel
theorem d_Pg_isInLine_7 : decode prog_6_method_13_code 7 = .ok (.aload_n 0, 1) := by decide +kernel
theorem d_Pg_isInLine_8 : decode prog_6_method_13_code 8 = .ok (.getfield 35, 3) := by decide +kernel
theorem d_Pg_isInLine_11 : decode prog_6_method_13_code 11 = .ok (.sipush 12000, 3) := by decide +kernel
theorem d_Pg_isInLine_14 : decode prog_6_method_13_code 14 = .ok (.if_icmp .gt 23, 3) := by decide +kernel
theorem d_Pg_isInLine_17 : decode prog_6_method_13_code 17 = .ok (.aload_n 0, 1) := by decide +kernel
theorem d_Pg_isInLine_18 : decode prog_6_method_13_code 18 = .ok (.getfield 11, 3) := by decide +kernel
theorem d_Pg_isInLine_21 : decode prog_6_method_13_code 21 = .ok (.aload_n 0, 1) := by decide +kernel
theorem d_Pg_isInLine_22 : decode prog_6_method_13_code 22 = .ok (.getfield 35, 3) := by decide +kernel
theorem d_Pg_isInLine_25 : decode prog_6_method_13_code 25 = .ok (.iconst 1, 1) := by decide +kernel
theorem d_Pg_isInLine_26 : decode prog_6_method_13_code 26 = .ok (.isub, 1) := by decide +kernel
theorem d_Pg_isInLine_27 : decode prog_6_method_13_code 27 = .ok (.baload, 1) := by decide +kernel
theorem d_Pg_isInLine_28 : decode prog_6_method_13_code 28 = .ok (.bipush 10, 2) := by decide +kernel
theorem d_Pg_isInLine_30 : decode prog_6_method_13_code 30 = .ok (.if_icmp .eq 7, 3) := by decide +kernel
theorem d_Pg_isInLine_33 : decode prog_6_method_13_code 33 = .ok (.iconst 1, 1) := by decide +kernel
theorem d_Pg_isInLine_34 : decode prog_6_method_13_code 34 = .ok (.goto 4, 3) := by decide +kernel
theorem d_Pg_isInLine_37 : decode prog_6_method_13_code 37 = .ok (.iconst 0, 1) := by decide +kernel
theorem d_Pg_isInLine_38 : decode prog_6_method_13_code 38 = .ok (.ireturn, 1) := by decide +kernel
def wp_Pg_isInLine (z_this : T_Pg) (post : Int32 → Unit → Prop) : Prop := (z_this.2 ≤ 0 → (post (0 : Int32) ())) ∧ (¬ z_this.2 ≤ 0 → (((12000 : Int32) < z_this.2 → (post (0 : Int32) ())) ∧ (¬ (12000 : Int32) < z_this.2 → (vp_in (z_this.2 - (1 : Int32)) 12000 ∧ (((z_this.1 ((z_this.2 - (1 : Int32))).toNatClampNeg) = (10 : Int32) → (post (0 : Int32) ())) ∧ (¬ (z_this.1 ((z_this.2 - (1 : Int32))).toNatClampNeg) = (10 : Int32) → (post (1 : Int32) ())))))))
def rm_Pg_isInLine : Room := { frames := 0, cells := 0, slots := 0, locals := 0 }
set_option maxHeartbeats 4000000 in
set_option maxRecDepth 100000 in
theorem c_Pg_isInLine {l : Launch} {o : State × Array Value} {D : va_G} {k : Nat → ClassId} {ad_this : Nat → Nat} {q_this_keywords : Nat} {q_this_names : Nat} {q_this_nodes : Nat} {z_this : T_Pg} {post : Int32 → Unit → Prop} (hw : wp_Pg_isInLine z_this post) : xq_C l o y_Pg_isInLine (.code y_Pg_isInLine prog_6_method_13_code 1 (some (.boolean)) :: xq_W) rm_Pg_isInLine D vwCl (xt k) [.ref (ad_this 0)] (w_Pg k ad_this q_this_keywords q_this_names q_this_nodes z_this) (fun r : Int32 => some (.int r)) post (fun _ : Unit => False) (fun u : Unit => w_Pg k ad_this q_this_keywords q_this_names q_this_nodes z_this) 0 0 0 0 := by
  refine xq_ofW (cc := prog_6_method_13_code) (maxL := 1) (ret := (some (.boolean))) (by decide) rfl (Nat.le_of_ble_eq_true rfl) ?_
  intro p e s m below meth c ls H locs A hAt hAe hA hl hK hJ hP0 hP hD hS
  obtain ⟨hx, hb, hml, hr, hlocks, hown, hts, hex, hnm⟩ := id hAt
  have hl : lv_has ls 1 [(0, .ref (ad_this 0))] := hl
  unfold wp_Pg_isInLine at hw
  refine lv_aload_n hx hb d_Pg_isInLine_0 rfl (lv_at hl 0 rfl) ?_
  refine va_get (D := D) (ci := 7) (v := .int z_this.2) (C := R_Pg) (T := F_Pg) (N := 5) hx hb hts in_Pg hown hK hP 0 rfl rfl 2 (by decide) (hts (.fieldLink R_Pg 35 R_Pg "length" "I") kw2_30) (fun _ h9 => h9) rfl d_Pg_isInLine_1 ?_
  refine lv_if_le (tgt := 37) hx hb d_Pg_isInLine_4 (by decide) (fun hc => ?_) (fun hc => ?_)
  · have hw := hw.1 hc
    refine lv_iconst (v := (0 : Int32)) hx hb d_Pg_isInLine_37 (by decide) ?_
    exact xq_zret (r := (0 : Int32)) (u := ()) hx hb hr hlocks hAe hP hD hS rfl rfl hw (Nat.le_of_ble_eq_true rfl) (Nat.le_of_ble_eq_true rfl) d_Pg_isInLine_38
  · have hw := hw.2 hc
    refine lv_aload_n hx hb d_Pg_isInLine_7 rfl (lv_at hl 0 rfl) ?_
    refine va_get (D := D) (ci := 7) (v := .int z_this.2) (C := R_Pg) (T := F_Pg) (N := 5) hx hb hts in_Pg hown hK hP 0 rfl rfl 2 (by decide) (hts (.fieldLink R_Pg 35 R_Pg "length" "I") kw2_30) (fun _ h9 => h9) rfl d_Pg_isInLine_8 ?_
    refine lv_sipush (v := (12000 : Int32)) hx hb d_Pg_isInLine_11 (by decide) ?_
    refine lv_icmp_gt (tgt := 37) hx hb d_Pg_isInLine_14 (by decide) (fun hc => ?_) (fun hc => ?_)
    · have hw := hw.1 hc
      refine lv_iconst (v := (0 : Int32)) hx hb d_Pg_isInLine_37 (by decide) ?_
      exact xq_zret (r := (0 : Int32)) (u := ()) hx hb hr hlocks hAe hP hD hS rfl rfl hw (Nat.le_of_ble_eq_true rfl) (Nat.le_of_ble_eq_true rfl) d_Pg_isInLine_38
    · have hw := hw.2 hc
      refine lv_aload_n hx hb d_Pg_isInLine_17 rfl (lv_at hl 0 rfl) ?_
      refine va_get (D := D) (ci := 7) (v := .ref (ad_this 1)) (C := R_Pg) (T := F_Pg) (N := 5) hx hb hts in_Pg hown hK hP 0 rfl rfl 1 (by decide) (hts (.fieldLink R_Pg 11 R_Pg "bytes" "[B") kw2_29) (fun _ h9 => h9) rfl d_Pg_isInLine_18 ?_
      refine lv_aload_n hx hb d_Pg_isInLine_21 rfl (lv_at hl 0 rfl) ?_
      refine va_get (D := D) (ci := 7) (v := .int z_this.2) (C := R_Pg) (T := F_Pg) (N := 5) hx hb hts in_Pg hown hK hP 0 rfl rfl 2 (by decide) (hts (.fieldLink R_Pg 35 R_Pg "length" "I") kw2_30) (fun _ h9 => h9) rfl d_Pg_isInLine_22 ?_
      refine lv_iconst (v := (1 : Int32)) hx hb d_Pg_isInLine_25 (by decide) ?_
      refine lv_isub hx hb d_Pg_isInLine_26 ?_
      refine va_bald hx hb hK hP 1 2 rfl rfl hw.1 d_Pg_isInLine_27 ?_
      have hw := hw.2
      refine lv_bipush (v := (10 : Int32)) hx hb d_Pg_isInLine_28 (by decide) ?_
      refine lv_icmp_eq (tgt := 37) hx hb d_Pg_isInLine_30 (by decide) (fun hc => ?_) (fun hc => ?_)
      · have hw := hw.1 hc
        refine lv_iconst (v := (0 : Int32)) hx hb d_Pg_isInLine_37 (by decide) ?_
        exact xq_zret (r := (0 : Int32)) (u := ()) hx hb hr hlocks hAe hP hD hS rfl rfl hw (Nat.le_of_ble_eq_true rfl) (Nat.le_of_ble_eq_true rfl) d_Pg_isInLine_38
      · have hw := hw.2 hc
        refine lv_iconst (v := (1 : Int32)) hx hb d_Pg_isInLine_33 (by decide) ?_
        refine lv_goto (tgt := 38) hx hb d_Pg_isInLine_34 (by decide) ?_
        exact xq_zret (r := (1 : Int32)) (u := ()) hx hb hr hlocks hAe hP hD hS rfl rfl hw (Nat.le_of_ble_eq_true rfl) (Nat.le_of_ble_eq_true rfl) d_Pg_isInLine_38
theorem cw_Pg_isInLine {R : Room} {s : State} {args : Array Value} {own : String} {index : Nat} (hts : ∀ w ∈ xq_W, w.before args s = true) (hl : .methodLink own index y_Pg_isInLine ∈ xq_W) {rm : Room} (hR : rm.frames + 1 ≤ R.frames ∧ 8 + (1 + 11) + rm.locals ≤ R.locals) : CallW R s args own "StepText$Page" index y_Pg_isInLine prog_6_method_13_code 1 (some (.boolean)) (.code y_Pg_isInLine prog_6_method_13_code 1 (some (.boolean)) :: xq_W) rm rm.cells rm.slots 0 := ⟨xq_cb 0 hts kw4_53 kw1_12 hl ⟨by decide, by decide, by decide +kernel⟩ hR, hts _ kw4_52, hts _ kp3_7⟩
def y_Pg_put : MethodName := ⟨"StepText$Page", "put", "(I)V"⟩
theorem d_Pg_put_0 : decode prog_6_method_16_code 0 = .ok (.aload_n 0, 1) := by decide +kernel
theorem d_Pg_put_1 : decode prog_6_method_16_code 1 = .ok (.getfield 35, 3) := by decide +kernel
theorem d_Pg_put_4 : decode prog_6_method_16_code 4 = .ok (.sipush 12000, 3) := by decide +kernel
theorem d_Pg_put_7 : decode prog_6_method_16_code 7 = .ok (.if_icmp .ge 24, 3) := by decide +kernel
theorem d_Pg_put_10 : decode prog_6_method_16_code 10 = .ok (.aload_n 0, 1) := by decide +kernel
theorem d_Pg_put_11 : decode prog_6_method_16_code 11 = .ok (.getfield 11, 3) := by decide +kernel
theorem d_Pg_put_14 : decode prog_6_method_16_code 14 = .ok (.aload_n 0, 1) := by decide +kernel
theorem d_Pg_put_15 : decode prog_6_method_16_code 15 = .ok (.getfield 35, 3) := by decide +kernel
theorem d_Pg_put_18 : decode prog_6_method_16_code 18 = .ok (.iload_n 1, 1) := by decide +kernel
theorem d_Pg_put_19 : decode prog_6_method_16_code 19 = .ok (.i2b, 1) := by decide +kernel
theorem d_Pg_put_20 : decode prog_6_method_16_code 20 = .ok (.bastore, 1) := by decide +kernel
theorem d_Pg_put_21 : decode prog_6_method_16_code 21 = .ok (.aload_n 0, 1) := by decide +kernel
theorem d_Pg_put_22 : decode prog_6_method_16_code 22 = .ok (.dup, 1) := by decide +kernel
theorem d_Pg_put_23 : decode prog_6_method_16_code 23 = .ok (.getfield 35, 3) := by decide +kernel
theorem d_Pg_put_26 : decode prog_6_method_16_code 26 = .ok (.iconst 1, 1) := by decide +kernel
theorem d_Pg_put_27 : decode prog_6_method_16_code 27 = .ok (.iadd, 1) := by decide +kernel
theorem d_Pg_put_28 : decode prog_6_method_16_code 28 = .ok (.putfield 35, 3) := by decide +kernel
theorem d_Pg_put_31 : decode prog_6_method_16_code 31 = .ok (.return_, 1) := by decide +kernel
def wp_Pg_put (z_this : T_Pg) (a1 : Int32) (post : Unit → T_Pg → Prop) : Prop := ((12000 : Int32) ≤ z_this.2 → (post () z_this)) ∧ (¬ (12000 : Int32) ≤ z_this.2 → (vp_in z_this.2 12000 ∧ (post () ((upd z_this.1 (z_this.2).toNatClampNeg (vp_nar .byte (a1).toInt8.toInt32)), (z_this.2 + (1 : Int32))))))
def rm_Pg_put : Room := { frames := 0, cells := 0, slots := 0, locals := 0 }
set_option maxHeartbeats 4000000 in
set_option maxRecDepth 100000 in
theorem c_Pg_put {l : Launch} {o : State × Array Value} {D : va_G} {k : Nat → ClassId} {ad_this : Nat → Nat} {q_this_keywords : Nat} {q_this_names : Nat} {q_this_nodes : Nat} {z_this : T_Pg} {a1 : Int32} {post : Unit → T_Pg → Prop} (hw : wp_Pg_put z_this a1 post) : xq_C l o y_Pg_put (.code y_Pg_put prog_6_method_16_code 2 none :: xq_W) rm_Pg_put D vwCl (xt k) [.ref (ad_this 0), .int a1] (w_Pg k ad_this q_this_keywords q_this_names q_this_nodes z_this) (fun _ : Unit => none) post (fun _ : T_Pg => False) (fun u : T_Pg => w_Pg k ad_this q_this_keywords q_this_names q_this_nodes u) 0 0 0 0 := by
  refine xq_ofW (cc := prog_6_method_16_code) (maxL := 2) (ret := none) (by decide) rfl (Nat.le_of_ble_eq_true rfl) ?_
  intro p e s m below meth c ls H locs A hAt hAe hA hl hK hJ hP0 hP hD hS
  obtain ⟨hx, hb, hml, hr, hlocks, hown, hts, hex, hnm⟩ := id hAt
  have hl : lv_has ls 2 [(0, .ref (ad_this 0)), (1, .int a1)] := hl
  unfold wp_Pg_put at hw
  refine lv_aload_n hx hb d_Pg_put_0 rfl (lv_at hl 0 rfl) ?_
  refine va_get (D := D) (ci := 7) (v := .int z_this.2) (C := R_Pg) (T := F_Pg) (N := 5) hx hb hts in_Pg hown hK hP 0 rfl rfl 2 (by decide) (hts (.fieldLink R_Pg 35 R_Pg "length" "I") kw2_30) (fun _ h9 => h9) rfl d_Pg_put_1 ?_
  refine lv_sipush (v := (12000 : Int32)) hx hb d_Pg_put_4 (by decide) ?_
  refine lv_icmp_ge (tgt := 31) hx hb d_Pg_put_7 (by decide) (fun hc => ?_) (fun hc => ?_)
  · have hw := hw.1 hc
    exact xq_vret (r := ()) (u := z_this) hx hb hr hlocks hAe hP hD hS rfl hw (Nat.le_of_ble_eq_true rfl) (Nat.le_of_ble_eq_true rfl) d_Pg_put_31
  · have hw := hw.2 hc
    refine lv_aload_n hx hb d_Pg_put_10 rfl (lv_at hl 0 rfl) ?_
    refine va_get (D := D) (ci := 7) (v := .ref (ad_this 1)) (C := R_Pg) (T := F_Pg) (N := 5) hx hb hts in_Pg hown hK hP 0 rfl rfl 1 (by decide) (hts (.fieldLink R_Pg 11 R_Pg "bytes" "[B") kw2_29) (fun _ h9 => h9) rfl d_Pg_put_11 ?_
    refine lv_aload_n hx hb d_Pg_put_14 rfl (lv_at hl 0 rfl) ?_
    refine va_get (D := D) (ci := 7) (v := .int z_this.2) (C := R_Pg) (T := F_Pg) (N := 5) hx hb hts in_Pg hown hK hP 0 rfl rfl 2 (by decide) (hts (.fieldLink R_Pg 35 R_Pg "length" "I") kw2_30) (fun _ h9 => h9) rfl d_Pg_put_15 ?_
    refine lv_iload_n hx hb d_Pg_put_18 rfl (lv_at hl 1 rfl) ?_
    refine lv_i2b hx hb d_Pg_put_19 rfl ?_
    refine va_bast hx hb hK hP hD hS 1 2 rfl rfl hw.1 d_Pg_put_20 (fun H locs hP hD hS => ?_)
    have hw := hw.2
    have hP : va_P D vwCl (w_Pg k ad_this q_this_keywords q_this_names q_this_nodes ((upd z_this.1 (z_this.2).toNatClampNeg (vp_nar .byte (a1).toInt8.toInt32)), z_this.2)) H := hP
    have hD : va_D A (w_Pg k ad_this q_this_keywords q_this_names q_this_nodes ((upd z_this.1 (z_this.2).toNatClampNeg (vp_nar .byte (a1).toInt8.toInt32)), z_this.2)) := hD
    refine lv_aload_n hx hb d_Pg_put_21 rfl (lv_at hl 0 rfl) ?_
    refine lv_dup hx hb d_Pg_put_22 rfl ?_
    refine va_get (D := D) (ci := 7) (v := .int z_this.2) (C := R_Pg) (T := F_Pg) (N := 5) hx hb hts in_Pg hown hK hP 0 rfl rfl 2 (by decide) (hts (.fieldLink R_Pg 35 R_Pg "length" "I") kw2_30) (fun _ h9 => h9) rfl d_Pg_put_23 ?_
    refine lv_iconst (v := (1 : Int32)) hx hb d_Pg_put_26 (by decide) ?_
    refine lv_iadd hx hb d_Pg_put_27 ?_
    refine va_put (D := D) (ci := 7) (v := .int (z_this.2 + (1 : Int32))) (ty := .int) (C := R_Pg) (T := F_Pg) (N := 5) hx hb hts in_Pg t_Pg t_Pg_ok n_Pg hown hK hP hD hS 0 rfl rfl 2 (by decide) (hts (.fieldLink R_Pg 35 R_Pg "length" "I") kw2_30) (fun _ h9 => h9) rfl (by decide +kernel) rfl rfl (Nat.le_of_ble_eq_true rfl) d_Pg_put_28 (fun H locs hP hD hS => ?_)
    have hP : va_P D vwCl (w_Pg k ad_this q_this_keywords q_this_names q_this_nodes ((upd z_this.1 (z_this.2).toNatClampNeg (vp_nar .byte (a1).toInt8.toInt32)), (z_this.2 + (1 : Int32)))) H := hP
    have hD : va_D A (w_Pg k ad_this q_this_keywords q_this_names q_this_nodes ((upd z_this.1 (z_this.2).toNatClampNeg (vp_nar .byte (a1).toInt8.toInt32)), (z_this.2 + (1 : Int32)))) := hD
    exact xq_vret (r := ()) (u := ((upd z_this.1 (z_this.2).toNatClampNeg (vp_nar .byte (a1).toInt8.toInt32)), (z_this.2 + (1 : Int32)))) hx hb hr hlocks hAe hP hD hS rfl hw (Nat.le_of_ble_eq_true rfl) (Nat.le_of_ble_eq_true rfl) d_Pg_put_31
theorem cw_Pg_put {R : Room} {s : State} {args : Array Value} {own : String} {index : Nat} (hts : ∀ w ∈ xq_W, w.before args s = true) (hl : .methodLink own index y_Pg_put ∈ xq_W) {rm : Room} (hR : rm.frames + 1 ≤ R.frames ∧ 8 + (2 + 11) + rm.locals ≤ R.locals) : CallW R s args own "StepText$Page" index y_Pg_put prog_6_method_16_code 2 none (.code y_Pg_put prog_6_method_16_code 2 none :: xq_W) rm rm.cells rm.slots 1 := ⟨xq_cb 1 hts kw4_57 kw1_12 hl ⟨by decide, by decide, by decide +kernel⟩ hR, hts _ kw4_56, hts _ kp3_8⟩
def y_Pg_beginWord : MethodName := ⟨"StepText$Page", "beginWord", "()V"⟩
theorem d_Pg_beginWord_0 : decode prog_6_method_15_code 0 = .ok (.aload_n 0, 1) := by decide +kernel
theorem d_Pg_beginWord_1 : decode prog_6_method_15_code 1 = .ok (.invokevirtual 140, 3) := by decide +kernel
theorem d_Pg_beginWord_4 : decode prog_6_method_15_code 4 = .ok (.ifCond .eq 9, 3) := by decide +kernel
theorem d_Pg_beginWord_7 : decode prog_6_method_15_code 7 = .ok (.aload_n 0, 1) := by decide +kernel
theorem d_Pg_beginWord_8 : decode prog_6_method_15_code 8 = .ok (.bipush 32, 2) := by decide +kernel
theorem d_Pg_beginWord_10 : decode prog_6_method_15_code 10 = .ok (.invokevirtual 144, 3) := by decide +kernel
theorem d_Pg_beginWord_13 : decode prog_6_method_15_code 13 = .ok (.return_, 1) := by decide +kernel
def wp_Pg_beginWord (z_this : T_Pg) (post : Unit → T_Pg → Prop) : Prop := wp_Pg_isInLine z_this (fun (r1 : Int32) (u1 : Unit) => (r1 = 0 → (post () z_this)) ∧ (¬ r1 = 0 → (wp_Pg_put z_this (32 : Int32) (fun (r2 : Unit) (u2 : T_Pg) => post () u2))))
def rm_Pg_beginWord : Room := { frames := 1, cells := 0, slots := 0, locals := 21 }
set_option maxHeartbeats 4000000 in
set_option maxRecDepth 100000 in
theorem c_Pg_beginWord {l : Launch} {o : State × Array Value} {D : va_G} {k : Nat → ClassId} {ad_this : Nat → Nat} {q_this_keywords : Nat} {q_this_names : Nat} {q_this_nodes : Nat} {z_this : T_Pg} {post : Unit → T_Pg → Prop} (hw : wp_Pg_beginWord z_this post) : xq_C l o y_Pg_beginWord (.code y_Pg_beginWord prog_6_method_15_code 1 none :: xq_W) rm_Pg_beginWord D vwCl (xt k) [.ref (ad_this 0)] (w_Pg k ad_this q_this_keywords q_this_names q_this_nodes z_this) (fun _ : Unit => none) post (fun _ : T_Pg => False) (fun u : T_Pg => w_Pg k ad_this q_this_keywords q_this_names q_this_nodes u) 0 0 0 0 := by
  refine xq_ofW (cc := prog_6_method_15_code) (maxL := 1) (ret := none) (by decide) rfl (Nat.le_of_ble_eq_true rfl) ?_
  intro p e s m below meth c ls H locs A hAt hAe hA hl hK hJ hP0 hP hD hS
  obtain ⟨hx, hb, hml, hr, hlocks, hown, hts, hex, hnm⟩ := id hAt
  have hl : lv_has ls 1 [(0, .ref (ad_this 0))] := hl
  unfold wp_Pg_beginWord at hw
  refine lv_aload_n hx hb d_Pg_beginWord_0 rfl (lv_at hl 0 rfl) ?_
  refine xq_go (wr := ([] : va_W)) (stk := fun r => .int r :: []) (xq_runV (As := []) (rest := []) ⟨hx, hb, hml, hown, hts⟩ (c_Pg_isInLine (l := l) (o := o) (D := D) (k := k) (ad_this := ad_this) (q_this_keywords := q_this_keywords) (q_this_names := q_this_names) (q_this_nodes := q_this_nodes) hw) (cw_Pg_isInLine hts kw4_50 ⟨Nat.le_of_ble_eq_true rfl, Nat.le_of_ble_eq_true rfl⟩) (va_recv hK hP (ci := 7) (q0 := 0) rfl rfl) (hP.sub [0, 1] rfl) hK hJ hS (va_free hD hS hA [0, 1] rfl) ((hD.sub [0, 1] (by decide) rfl).weaken (fun _ _ _ _ => trivial)) rfl hl.1 (Nat.le_of_ble_eq_true rfl) d_Pg_beginWord_1 ⟨Nat.le_of_ble_eq_true rfl, Nat.le_of_ble_eq_true rfl⟩) hP hD hS hA [0, 1] [] rfl rfl (by decide) (by decide) (fun _ => rfl) (fun r1 u1 H locs hw hP hD hS => ?_) (fun _ _ _ _ h9 => h9.elim)
  have hP : va_P D vwCl (w_Pg k ad_this q_this_keywords q_this_names q_this_nodes z_this) H := hP.sub [0, 1] rfl
  have hD : va_D A (w_Pg k ad_this q_this_keywords q_this_names q_this_nodes z_this) := hD.sub [0, 1] (by decide) rfl
  refine lv_if_eq (tgt := 13) hx hb d_Pg_beginWord_4 (by decide) (fun hc => ?_) (fun hc => ?_)
  · have hw := hw.1 hc
    exact xq_vret (r := ()) (u := z_this) hx hb hr hlocks hAe hP hD hS rfl hw (Nat.le_of_ble_eq_true rfl) (Nat.le_of_ble_eq_true rfl) d_Pg_beginWord_13
  · have hw := hw.2 hc
    refine lv_aload_n hx hb d_Pg_beginWord_7 rfl (lv_at hl 0 rfl) ?_
    refine lv_bipush (v := (32 : Int32)) hx hb d_Pg_beginWord_8 (by decide) ?_
    refine xq_go (wr := ([] : va_W)) (stk := fun _ => []) (xq_runV (As := [.int (32 : Int32)]) (rest := []) ⟨hx, hb, hml, hown, hts⟩ (c_Pg_put (l := l) (o := o) (D := D) (k := k) (ad_this := ad_this) (q_this_keywords := q_this_keywords) (q_this_names := q_this_names) (q_this_nodes := q_this_nodes) hw) (cw_Pg_put hts kw4_54 ⟨Nat.le_of_ble_eq_true rfl, Nat.le_of_ble_eq_true rfl⟩) (va_recv hK hP (ci := 7) (q0 := 0) rfl rfl) (hP.sub [0, 1] rfl) hK hJ hS (va_free hD hS hA [0, 1] rfl) ((hD.sub [0, 1] (by decide) rfl).weaken (fun _ _ _ _ => trivial)) rfl hl.1 (Nat.le_of_ble_eq_true rfl) d_Pg_beginWord_10 ⟨Nat.le_of_ble_eq_true rfl, Nat.le_of_ble_eq_true rfl⟩) hP hD hS hA [0, 1] [] rfl rfl (by decide) (by decide) (fun _ => rfl) (fun r2 u2 H locs hw hP hD hS => ?_) (fun _ _ _ _ h9 => h9.elim)
    have hP : va_P D vwCl (w_Pg k ad_this q_this_keywords q_this_names q_this_nodes u2) H := hP.sub [0, 1] rfl
    have hD : va_D A (w_Pg k ad_this q_this_keywords q_this_names q_this_nodes u2) := hD.sub [0, 1] (by decide) rfl
    exact xq_vret (r := ()) (u := u2) hx hb hr hlocks hAe hP hD hS rfl hw (Nat.le_of_ble_eq_true rfl) (Nat.le_of_ble_eq_true rfl) d_Pg_beginWord_13
theorem cw_Pg_beginWord {R : Room} {s : State} {args : Array Value} {own : String} {index : Nat} (hts : ∀ w ∈ xq_W, w.before args s = true) (hl : .methodLink own index y_Pg_beginWord ∈ xq_W) {rm : Room} (hR : rm.frames + 1 ≤ R.frames ∧ 8 + (1 + 11) + rm.locals ≤ R.locals) : CallW R s args own "StepText$Page" index y_Pg_beginWord prog_6_method_15_code 1 none (.code y_Pg_beginWord prog_6_method_15_code 1 none :: xq_W) rm rm.cells rm.slots 0 := ⟨xq_cb 0 hts kw4_49 kw1_12 hl ⟨by decide, by decide, by decide +kernel⟩ hR, hts _ kw4_48, hts _ kp3_6⟩
def y_Pg_putAmount : MethodName := ⟨"StepText$Page", "putAmount", "(J)V"⟩
theorem d_Pg_putAmount_0 : decode prog_6_method_20_code 0 = .ok (.aload_n 0, 1) := by decide +kernel
theorem d_Pg_putAmount_1 : decode prog_6_method_20_code 1 = .ok (.invokevirtual 147, 3) := by decide +kernel
theorem d_Pg_putAmount_4 : decode prog_6_method_20_code 4 = .ok (.lload_n 1, 1) := by decide +kernel
theorem d_Pg_putAmount_5 : decode prog_6_method_20_code 5 = .ok (.ldc2_w 124, 3) := by decide +kernel
theorem d_Pg_putAmount_8 : decode prog_6_method_20_code 8 = .ok (.ldiv, 1) := by decide +kernel
theorem d_Pg_putAmount_9 : decode prog_6_method_20_code 9 = .ok (.lstore_n 3, 1) := by decide +kernel
theorem d_Pg_putAmount_10 : decode prog_6_method_20_code 10 = .ok (.ldc 155, 2) := by decide +kernel
theorem d_Pg_putAmount_12 : decode prog_6_method_20_code 12 = .ok (.istore 5, 2) := by decide +kernel
theorem d_Pg_putAmount_14 : decode prog_6_method_20_code 14 = .ok (.iload 5, 2) := by decide +kernel
theorem d_Pg_putAmount_16 : decode prog_6_method_20_code 16 = .ok (.ifCond .le 44, 3) := by decide +kernel
theorem d_Pg_putAmount_19 : decode prog_6_method_20_code 19 = .ok (.lload_n 3, 1) := by decide +kernel
theorem d_Pg_putAmount_20 : decode prog_6_method_20_code 20 = .ok (.iload 5, 2) := by decide +kernel
theorem d_Pg_putAmount_22 : decode prog_6_method_20_code 22 = .ok (.i2l, 1) := by decide +kernel
theorem d_Pg_putAmount_23 : decode prog_6_method_20_code 23 = .ok (.lcmp, 1) := by decide +kernel
theorem d_Pg_putAmount_24 : decode prog_6_method_20_code 24 = .ok (.ifCond .ge 9, 3) := by decide +kernel
theorem d_Pg_putAmount_27 : decode prog_6_method_20_code 27 = .ok (.iload 5, 2) := by decide +kernel
theorem d_Pg_putAmount_29 : decode prog_6_method_20_code 29 = .ok (.iconst 1, 1) := by decide +kernel
theorem d_Pg_putAmount_30 : decode prog_6_method_20_code 30 = .ok (.if_icmp .ne 20, 3) := by decide +kernel
theorem d_Pg_putAmount_33 : decode prog_6_method_20_code 33 = .ok (.aload_n 0, 1) := by decide +kernel
theorem d_Pg_putAmount_34 : decode prog_6_method_20_code 34 = .ok (.bipush 48, 2) := by decide +kernel
theorem d_Pg_putAmount_36 : decode prog_6_method_20_code 36 = .ok (.lload_n 3, 1) := by decide +kernel
theorem d_Pg_putAmount_37 : decode prog_6_method_20_code 37 = .ok (.iload 5, 2) := by decide +kernel
theorem d_Pg_putAmount_39 : decode prog_6_method_20_code 39 = .ok (.i2l, 1) := by decide +kernel
theorem d_Pg_putAmount_40 : decode prog_6_method_20_code 40 = .ok (.ldiv, 1) := by decide +kernel
theorem d_Pg_putAmount_41 : decode prog_6_method_20_code 41 = .ok (.ldc2_w 156, 3) := by decide +kernel
theorem d_Pg_putAmount_44 : decode prog_6_method_20_code 44 = .ok (.lrem, 1) := by decide +kernel
theorem d_Pg_putAmount_45 : decode prog_6_method_20_code 45 = .ok (.l2i, 1) := by decide +kernel
theorem d_Pg_putAmount_46 : decode prog_6_method_20_code 46 = .ok (.iadd, 1) := by decide +kernel
theorem d_Pg_putAmount_47 : decode prog_6_method_20_code 47 = .ok (.invokevirtual 144, 3) := by decide +kernel
theorem d_Pg_putAmount_50 : decode prog_6_method_20_code 50 = .ok (.iload 5, 2) := by decide +kernel
theorem d_Pg_putAmount_52 : decode prog_6_method_20_code 52 = .ok (.bipush 10, 2) := by decide +kernel
theorem d_Pg_putAmount_54 : decode prog_6_method_20_code 54 = .ok (.idiv, 1) := by decide +kernel
theorem d_Pg_putAmount_55 : decode prog_6_method_20_code 55 = .ok (.istore 5, 2) := by decide +kernel
theorem d_Pg_putAmount_57 : decode prog_6_method_20_code 57 = .ok (.goto (-43), 3) := by decide +kernel
theorem d_Pg_putAmount_60 : decode prog_6_method_20_code 60 = .ok (.lload_n 1, 1) := by decide +kernel
theorem d_Pg_putAmount_61 : decode prog_6_method_20_code 61 = .ok (.ldc2_w 124, 3) := by decide +kernel
theorem d_Pg_putAmount_64 : decode prog_6_method_20_code 64 = .ok (.lrem, 1) := by decide +kernel
theorem d_Pg_putAmount_65 : decode prog_6_method_20_code 65 = .ok (.l2i, 1) := by decide +kernel
theorem d_Pg_putAmount_66 : decode prog_6_method_20_code 66 = .ok (.istore 5, 2) := by decide +kernel
theorem d_Pg_putAmount_68 : decode prog_6_method_20_code 68 = .ok (.iload 5, 2) := by decide +kernel
theorem d_Pg_putAmount_70 : decode prog_6_method_20_code 70 = .ok (.ifCond .le 9, 3) := by decide +kernel
theorem d_Pg_putAmount_73 : decode prog_6_method_20_code 73 = .ok (.aload_n 0, 1) := by decide +kernel
theorem d_Pg_putAmount_74 : decode prog_6_method_20_code 74 = .ok (.bipush 46, 2) := by decide +kernel
theorem d_Pg_putAmount_76 : decode prog_6_method_20_code 76 = .ok (.invokevirtual 144, 3) := by decide +kernel
theorem d_Pg_putAmount_79 : decode prog_6_method_20_code 79 = .ok (.bipush 100, 2) := by decide +kernel
theorem d_Pg_putAmount_81 : decode prog_6_method_20_code 81 = .ok (.istore 6, 2) := by decide +kernel
theorem d_Pg_putAmount_83 : decode prog_6_method_20_code 83 = .ok (.iload 6, 2) := by decide +kernel
theorem d_Pg_putAmount_85 : decode prog_6_method_20_code 85 = .ok (.ifCond .le 37, 3) := by decide +kernel
theorem d_Pg_putAmount_88 : decode prog_6_method_20_code 88 = .ok (.iload 5, 2) := by decide +kernel
theorem d_Pg_putAmount_90 : decode prog_6_method_20_code 90 = .ok (.ifCond .le 32, 3) := by decide +kernel
theorem d_Pg_putAmount_93 : decode prog_6_method_20_code 93 = .ok (.aload_n 0, 1) := by decide +kernel
theorem d_Pg_putAmount_94 : decode prog_6_method_20_code 94 = .ok (.bipush 48, 2) := by decide +kernel
theorem d_Pg_putAmount_96 : decode prog_6_method_20_code 96 = .ok (.iload 5, 2) := by decide +kernel
theorem d_Pg_putAmount_98 : decode prog_6_method_20_code 98 = .ok (.iload 6, 2) := by decide +kernel
theorem d_Pg_putAmount_100 : decode prog_6_method_20_code 100 = .ok (.idiv, 1) := by decide +kernel
theorem d_Pg_putAmount_101 : decode prog_6_method_20_code 101 = .ok (.iadd, 1) := by decide +kernel
theorem d_Pg_putAmount_102 : decode prog_6_method_20_code 102 = .ok (.invokevirtual 144, 3) := by decide +kernel
theorem d_Pg_putAmount_105 : decode prog_6_method_20_code 105 = .ok (.iload 5, 2) := by decide +kernel
theorem d_Pg_putAmount_107 : decode prog_6_method_20_code 107 = .ok (.iload 6, 2) := by decide +kernel
theorem d_Pg_putAmount_109 : decode prog_6_method_20_code 109 = .ok (.irem, 1) := by decide +kernel
theorem d_Pg_putAmount_110 : decode prog_6_method_20_code 110 = .ok (.istore 5, 2) := by decide +kernel
theorem d_Pg_putAmount_112 : decode prog_6_method_20_code 112 = .ok (.iload 6, 2) := by decide +kernel
theorem d_Pg_putAmount_114 : decode prog_6_method_20_code 114 = .ok (.bipush 10, 2) := by decide +kernel
theorem d_Pg_putAmount_116 : decode prog_6_method_20_code 116 = .ok (.idiv, 1) := by decide +kernel
theorem d_Pg_putAmount_117 : decode prog_6_method_20_code 117 = .ok (.istore 6, 2) := by decide +kernel
theorem d_Pg_putAmount_119 : decode prog_6_method_20_code 119 = .ok (.goto (-36), 3) := by decide +kernel
theorem d_Pg_putAmount_122 : decode prog_6_method_20_code 122 = .ok (.return_, 1) := by decide +kernel
def wp_Pg_putAmount_L14 (K : T_Pg → Int64 → Int64 → Int32 → Prop) (post : Unit → T_Pg → Prop) : Nat → T_Pg → Int64 → Int64 → Int32 → Prop
  | 0, _, _, _, _ => False
  | n9 + 1, z_this, x1, x3, x5 => (x5 ≤ 0 → (K z_this x1 x3 x5)) ∧ (¬ x5 ≤ 0 → ((0 ≤ (lg_cmp x3 (x5).toInt64) → (¬ (x5).toInt64 = 0 ∧ (wp_Pg_put z_this ((48 : Int32) + (((x3 / (x5).toInt64) - (x3 / (x5).toInt64) / (10 : Int64) * (10 : Int64))).toInt32) (fun (r2 : Unit) (u2 : T_Pg) => wp_Pg_putAmount_L14 K post n9 u2 x1 x3 (x5 / (10 : Int32)))))) ∧ (¬ 0 ≤ (lg_cmp x3 (x5).toInt64) → ((x5 = (1 : Int32) → (¬ (x5).toInt64 = 0 ∧ (wp_Pg_put z_this ((48 : Int32) + (((x3 / (x5).toInt64) - (x3 / (x5).toInt64) / (10 : Int64) * (10 : Int64))).toInt32) (fun (r3 : Unit) (u3 : T_Pg) => wp_Pg_putAmount_L14 K post n9 u3 x1 x3 (x5 / (10 : Int32)))))) ∧ (¬ x5 = (1 : Int32) → (wp_Pg_putAmount_L14 K post n9 z_this x1 x3 (x5 / (10 : Int32))))))))
def wp_Pg_putAmount_L83 (K : T_Pg → Int64 → Int64 → Int32 → Int32 → Prop) (post : Unit → T_Pg → Prop) : Nat → T_Pg → Int64 → Int64 → Int32 → Int32 → Prop
  | 0, _, _, _, _, _ => False
  | n9 + 1, z_this, x1, x3, x5, x6 => (x6 ≤ 0 → (K z_this x1 x3 x5 x6)) ∧ (¬ x6 ≤ 0 → ((x5 ≤ 0 → (K z_this x1 x3 x5 x6)) ∧ (¬ x5 ≤ 0 → (¬ x6 = 0 ∧ (wp_Pg_put z_this ((48 : Int32) + (x5 / x6)) (fun (r4 : Unit) (u4 : T_Pg) => ¬ x6 = 0 ∧ (wp_Pg_putAmount_L83 K post n9 u4 x1 x3 (x5 - x5 / x6 * x6) (x6 / (10 : Int32)))))))))
def wp_Pg_putAmount (z_this : T_Pg) (a1 : Int64) (post : Unit → T_Pg → Prop) : Prop := wp_Pg_beginWord z_this (fun (r1 : Unit) (u1 : T_Pg) => ∃ k9 : Nat, wp_Pg_putAmount_L14 (fun (z_this : T_Pg) (x1 : Int64) (x3 : Int64) (x5 : Int32) => (((x1 - x1 / (1000 : Int64) * (1000 : Int64))).toInt32 ≤ 0 → (∃ k9 : Nat, wp_Pg_putAmount_L83 (fun (z_this : T_Pg) (x1 : Int64) (x3 : Int64) (x5 : Int32) (x6 : Int32) => post () z_this) post k9 z_this x1 x3 (((x1 - x1 / (1000 : Int64) * (1000 : Int64))).toInt32) (100 : Int32))) ∧ (¬ ((x1 - x1 / (1000 : Int64) * (1000 : Int64))).toInt32 ≤ 0 → (wp_Pg_put z_this (46 : Int32) (fun (r5 : Unit) (u5 : T_Pg) => ∃ k9 : Nat, wp_Pg_putAmount_L83 (fun (z_this : T_Pg) (x1 : Int64) (x3 : Int64) (x5 : Int32) (x6 : Int32) => post () z_this) post k9 u5 x1 x3 (((x1 - x1 / (1000 : Int64) * (1000 : Int64))).toInt32) (100 : Int32))))) post k9 u1 a1 (a1 / (1000 : Int64)) (100000000 : Int32))
def rm_Pg_putAmount : Room := { frames := 2, cells := 0, slots := 0, locals := 41 }
set_option maxHeartbeats 4000000 in
set_option maxRecDepth 100000 in
theorem t_Pg_putAmount_L14 {p : Program} {l : Launch} {o : State × Array Value} {e : Env} {s : State} {m : MethodId} {args : Array Value} {below : List Frame} {meth : Method} {c : Code} {D : va_G} {k : Nat → ClassId} {w0 : va_W} {A : Nat → Prop} {ad_this : Nat → Nat} {q_this_keywords : Nat} {q_this_names : Nat} {q_this_nodes : Nat} {post : Unit → T_Pg → Prop} (hAt : xq_At p s m args meth c prog_6_method_20_code 7 none y_Pg_putAmount xq_W) (hK : va_K D vwCl (xt k) s) (hJ : xq_J l o A s s.heap) (hAe : va_A w0 s.heap.size = A) (hA : ∀ q, s.heap.size ≤ q → A q) {K : T_Pg → Int64 → Int64 → Int32 → Prop} (hX : ∀ (z_this : T_Pg) (x1 : Int64) (x3 : Int64) (x5 : Int32) (H : Heap) (locs : List Loc) (ls : Array Slot), lv_has ls 7 [(0, .ref (ad_this 0)), (1, .long x1), (3, .long x3), (5, .int x5)] → va_P D vwCl (w_Pg k ad_this q_this_keywords q_this_names q_this_nodes z_this) H → va_D A (w_Pg k ad_this q_this_keywords q_this_names q_this_nodes z_this) → va_S A s.heap H locs → K z_this x1 x3 x5 → W p l e rm_Pg_putAmount s m args below meth c H locs 0 0 (xq_Z below D vwCl (xt k) w0 (fun _ : Unit => none) post (fun _ : T_Pg => False) (fun u : T_Pg => w_Pg k ad_this q_this_keywords q_this_names q_this_nodes u) 0 0 0 0 s) (F0 m 60 ls [])) :
    ∀ (n9 : Nat) (z_this : T_Pg) (x1 : Int64) (x3 : Int64) (x5 : Int32) (H : Heap) (locs : List Loc) (ls : Array Slot), lv_has ls 7 [(0, .ref (ad_this 0)), (1, .long x1), (3, .long x3), (5, .int x5)] → va_P D vwCl (w_Pg k ad_this q_this_keywords q_this_names q_this_nodes z_this) H → va_D A (w_Pg k ad_this q_this_keywords q_this_names q_this_nodes z_this) → va_S A s.heap H locs → wp_Pg_putAmount_L14 K post n9 z_this x1 x3 x5 → W p l e rm_Pg_putAmount s m args below meth c H locs 0 0 (xq_Z below D vwCl (xt k) w0 (fun _ : Unit => none) post (fun _ : T_Pg => False) (fun u : T_Pg => w_Pg k ad_this q_this_keywords q_this_names q_this_nodes u) 0 0 0 0 s) (F0 m 14 ls []) := by
  obtain ⟨hx, hb, hml, hr, hlocks, hown, hts, hex, hnm⟩ := id hAt
  intro n9
  induction n9 with
  | zero => intro z_this x1 x3 x5 H locs ls hl hP hD hS hw; exact False.elim (by rw [wp_Pg_putAmount_L14] at hw; exact hw)
  | succ n9 ih =>
    intro z_this x1 x3 x5 H locs ls hl hP hD hS hw
    rw [wp_Pg_putAmount_L14] at hw
    refine lv_iload hx hb d_Pg_putAmount_14 (lv_at hl 3 rfl) ?_
    refine lv_if_le (tgt := 60) hx hb d_Pg_putAmount_16 (by decide) (fun hc => ?_) (fun hc => ?_)
    · have hw := hw.1 hc
      exact hX z_this x1 x3 x5 H locs ls (lv_sub hl [0, 1, 2, 3] rfl) hP hD hS hw
    · have hw := hw.2 hc
      refine lv_lload_n hx hb d_Pg_putAmount_19 rfl (lv_at hl 2 rfl) ?_
      refine lv_iload hx hb d_Pg_putAmount_20 (lv_at hl 3 rfl) ?_
      refine lv_i2l hx hb d_Pg_putAmount_22 rfl ?_
      refine W.lcmp hx hb d_Pg_putAmount_23 ?_
      refine lv_if_ge (tgt := 33) hx hb d_Pg_putAmount_24 (by decide) (fun hc => ?_) (fun hc => ?_)
      · have hw := hw.1 hc
        refine lv_aload_n hx hb d_Pg_putAmount_33 rfl (lv_at hl 0 rfl) ?_
        refine lv_bipush (v := (48 : Int32)) hx hb d_Pg_putAmount_34 (by decide) ?_
        refine lv_lload_n hx hb d_Pg_putAmount_36 rfl (lv_at hl 2 rfl) ?_
        refine lv_iload hx hb d_Pg_putAmount_37 (lv_at hl 3 rfl) ?_
        refine lv_i2l hx hb d_Pg_putAmount_39 rfl ?_
        refine lv_ldiv hx hb d_Pg_putAmount_40 hw.1 ?_
        have hw := hw.2
        refine lv_ldc2 (v := (10 : Int64)) hx hb hown (hts (.constantLong R_Pg 156 (10)) kw4_60) d_Pg_putAmount_41 ?_
        refine lv_lrem hx hb d_Pg_putAmount_44 (by decide) ?_
        refine lv_l2i hx hb d_Pg_putAmount_45 rfl ?_
        refine lv_iadd hx hb d_Pg_putAmount_46 ?_
        refine xq_go (wr := ([] : va_W)) (stk := fun _ => []) (xq_runV (As := [.int ((48 : Int32) + (((x3 / (x5).toInt64) - (x3 / (x5).toInt64) / (10 : Int64) * (10 : Int64))).toInt32)]) (rest := []) ⟨hx, hb, hml, hown, hts⟩ (c_Pg_put (l := l) (o := o) (D := D) (k := k) (ad_this := ad_this) (q_this_keywords := q_this_keywords) (q_this_names := q_this_names) (q_this_nodes := q_this_nodes) hw) (cw_Pg_put hts kw4_54 ⟨Nat.le_of_ble_eq_true rfl, Nat.le_of_ble_eq_true rfl⟩) (va_recv hK hP (ci := 7) (q0 := 0) rfl rfl) (hP.sub [0, 1] rfl) hK hJ hS (va_free hD hS hA [0, 1] rfl) ((hD.sub [0, 1] (by decide) rfl).weaken (fun _ _ _ _ => trivial)) rfl hl.1 (Nat.le_of_ble_eq_true rfl) d_Pg_putAmount_47 ⟨Nat.le_of_ble_eq_true rfl, Nat.le_of_ble_eq_true rfl⟩) hP hD hS hA [0, 1] [] rfl rfl (by decide) (by decide) (fun _ => rfl) (fun r2 u2 H locs hw hP hD hS => ?_) (fun _ _ _ _ h9 => h9.elim)
        have hP : va_P D vwCl (w_Pg k ad_this q_this_keywords q_this_names q_this_nodes u2) H := hP.sub [0, 1] rfl
        have hD : va_D A (w_Pg k ad_this q_this_keywords q_this_names q_this_nodes u2) := hD.sub [0, 1] (by decide) rfl
        refine lv_iload hx hb d_Pg_putAmount_50 (lv_at hl 3 rfl) ?_
        refine lv_bipush (v := (10 : Int32)) hx hb d_Pg_putAmount_52 (by decide) ?_
        refine lv_idiv hx hb d_Pg_putAmount_54 (by decide) ?_
        refine lv_istore (lv' := [(5, .int (x5 / (10 : Int32))), (0, .ref (ad_this 0)), (1, .long x1), (3, .long x3)]) hx hb d_Pg_putAmount_55 hl (by decide) rfl (fun ls hl => ?_)
        refine lv_goto (tgt := 14) hx hb d_Pg_putAmount_57 (by decide) ?_
        exact ih u2 x1 x3 (x5 / (10 : Int32)) H locs ls (lv_sub hl [1, 2, 3, 0] rfl) hP hD hS hw
      · have hw := hw.2 hc
        refine lv_iload hx hb d_Pg_putAmount_27 (lv_at hl 3 rfl) ?_
        refine lv_iconst (v := (1 : Int32)) hx hb d_Pg_putAmount_29 (by decide) ?_
        refine lv_icmp_ne (tgt := 50) hx hb d_Pg_putAmount_30 (by decide) (fun hc => ?_) (fun hc => ?_)
        · have hw := hw.2 hc
          refine lv_iload hx hb d_Pg_putAmount_50 (lv_at hl 3 rfl) ?_
          refine lv_bipush (v := (10 : Int32)) hx hb d_Pg_putAmount_52 (by decide) ?_
          refine lv_idiv hx hb d_Pg_putAmount_54 (by decide) ?_
          refine lv_istore (lv' := [(5, .int (x5 / (10 : Int32))), (0, .ref (ad_this 0)), (1, .long x1), (3, .long x3)]) hx hb d_Pg_putAmount_55 hl (by decide) rfl (fun ls hl => ?_)
          refine lv_goto (tgt := 14) hx hb d_Pg_putAmount_57 (by decide) ?_
          exact ih z_this x1 x3 (x5 / (10 : Int32)) H locs ls (lv_sub hl [1, 2, 3, 0] rfl) hP hD hS hw
        · have hw := hw.1 hc
          refine lv_aload_n hx hb d_Pg_putAmount_33 rfl (lv_at hl 0 rfl) ?_
          refine lv_bipush (v := (48 : Int32)) hx hb d_Pg_putAmount_34 (by decide) ?_
          refine lv_lload_n hx hb d_Pg_putAmount_36 rfl (lv_at hl 2 rfl) ?_
          refine lv_iload hx hb d_Pg_putAmount_37 (lv_at hl 3 rfl) ?_
          refine lv_i2l hx hb d_Pg_putAmount_39 rfl ?_
          refine lv_ldiv hx hb d_Pg_putAmount_40 hw.1 ?_
          have hw := hw.2
          refine lv_ldc2 (v := (10 : Int64)) hx hb hown (hts (.constantLong R_Pg 156 (10)) kw4_60) d_Pg_putAmount_41 ?_
          refine lv_lrem hx hb d_Pg_putAmount_44 (by decide) ?_
          refine lv_l2i hx hb d_Pg_putAmount_45 rfl ?_
          refine lv_iadd hx hb d_Pg_putAmount_46 ?_
          refine xq_go (wr := ([] : va_W)) (stk := fun _ => []) (xq_runV (As := [.int ((48 : Int32) + (((x3 / (x5).toInt64) - (x3 / (x5).toInt64) / (10 : Int64) * (10 : Int64))).toInt32)]) (rest := []) ⟨hx, hb, hml, hown, hts⟩ (c_Pg_put (l := l) (o := o) (D := D) (k := k) (ad_this := ad_this) (q_this_keywords := q_this_keywords) (q_this_names := q_this_names) (q_this_nodes := q_this_nodes) hw) (cw_Pg_put hts kw4_54 ⟨Nat.le_of_ble_eq_true rfl, Nat.le_of_ble_eq_true rfl⟩) (va_recv hK hP (ci := 7) (q0 := 0) rfl rfl) (hP.sub [0, 1] rfl) hK hJ hS (va_free hD hS hA [0, 1] rfl) ((hD.sub [0, 1] (by decide) rfl).weaken (fun _ _ _ _ => trivial)) rfl hl.1 (Nat.le_of_ble_eq_true rfl) d_Pg_putAmount_47 ⟨Nat.le_of_ble_eq_true rfl, Nat.le_of_ble_eq_true rfl⟩) hP hD hS hA [0, 1] [] rfl rfl (by decide) (by decide) (fun _ => rfl) (fun r3 u3 H locs hw hP hD hS => ?_) (fun _ _ _ _ h9 => h9.elim)
          have hP : va_P D vwCl (w_Pg k ad_this q_this_keywords q_this_names q_this_nodes u3) H := hP.sub [0, 1] rfl
          have hD : va_D A (w_Pg k ad_this q_this_keywords q_this_names q_this_nodes u3) := hD.sub [0, 1] (by decide) rfl
          refine lv_iload hx hb d_Pg_putAmount_50 (lv_at hl 3 rfl) ?_
          refine lv_bipush (v := (10 : Int32)) hx hb d_Pg_putAmount_52 (by decide) ?_
          refine lv_idiv hx hb d_Pg_putAmount_54 (by decide) ?_
          refine lv_istore (lv' := [(5, .int (x5 / (10 : Int32))), (0, .ref (ad_this 0)), (1, .long x1), (3, .long x3)]) hx hb d_Pg_putAmount_55 hl (by decide) rfl (fun ls hl => ?_)
          refine lv_goto (tgt := 14) hx hb d_Pg_putAmount_57 (by decide) ?_
          exact ih u3 x1 x3 (x5 / (10 : Int32)) H locs ls (lv_sub hl [1, 2, 3, 0] rfl) hP hD hS hw
set_option maxHeartbeats 4000000 in
set_option maxRecDepth 100000 in
theorem t_Pg_putAmount_L83 {p : Program} {l : Launch} {o : State × Array Value} {e : Env} {s : State} {m : MethodId} {args : Array Value} {below : List Frame} {meth : Method} {c : Code} {D : va_G} {k : Nat → ClassId} {w0 : va_W} {A : Nat → Prop} {ad_this : Nat → Nat} {q_this_keywords : Nat} {q_this_names : Nat} {q_this_nodes : Nat} {post : Unit → T_Pg → Prop} (hAt : xq_At p s m args meth c prog_6_method_20_code 7 none y_Pg_putAmount xq_W) (hK : va_K D vwCl (xt k) s) (hJ : xq_J l o A s s.heap) (hAe : va_A w0 s.heap.size = A) (hA : ∀ q, s.heap.size ≤ q → A q) {K : T_Pg → Int64 → Int64 → Int32 → Int32 → Prop} (hX : ∀ (z_this : T_Pg) (x1 : Int64) (x3 : Int64) (x5 : Int32) (x6 : Int32) (H : Heap) (locs : List Loc) (ls : Array Slot), lv_has ls 7 [(0, .ref (ad_this 0)), (1, .long x1), (3, .long x3), (5, .int x5), (6, .int x6)] → va_P D vwCl (w_Pg k ad_this q_this_keywords q_this_names q_this_nodes z_this) H → va_D A (w_Pg k ad_this q_this_keywords q_this_names q_this_nodes z_this) → va_S A s.heap H locs → K z_this x1 x3 x5 x6 → W p l e rm_Pg_putAmount s m args below meth c H locs 0 0 (xq_Z below D vwCl (xt k) w0 (fun _ : Unit => none) post (fun _ : T_Pg => False) (fun u : T_Pg => w_Pg k ad_this q_this_keywords q_this_names q_this_nodes u) 0 0 0 0 s) (F0 m 122 ls [])) :
    ∀ (n9 : Nat) (z_this : T_Pg) (x1 : Int64) (x3 : Int64) (x5 : Int32) (x6 : Int32) (H : Heap) (locs : List Loc) (ls : Array Slot), lv_has ls 7 [(0, .ref (ad_this 0)), (1, .long x1), (3, .long x3), (5, .int x5), (6, .int x6)] → va_P D vwCl (w_Pg k ad_this q_this_keywords q_this_names q_this_nodes z_this) H → va_D A (w_Pg k ad_this q_this_keywords q_this_names q_this_nodes z_this) → va_S A s.heap H locs → wp_Pg_putAmount_L83 K post n9 z_this x1 x3 x5 x6 → W p l e rm_Pg_putAmount s m args below meth c H locs 0 0 (xq_Z below D vwCl (xt k) w0 (fun _ : Unit => none) post (fun _ : T_Pg => False) (fun u : T_Pg => w_Pg k ad_this q_this_keywords q_this_names q_this_nodes u) 0 0 0 0 s) (F0 m 83 ls []) := by
  obtain ⟨hx, hb, hml, hr, hlocks, hown, hts, hex, hnm⟩ := id hAt
  intro n9
  induction n9 with
  | zero => intro z_this x1 x3 x5 x6 H locs ls hl hP hD hS hw; exact False.elim (by rw [wp_Pg_putAmount_L83] at hw; exact hw)
  | succ n9 ih =>
    intro z_this x1 x3 x5 x6 H locs ls hl hP hD hS hw
    rw [wp_Pg_putAmount_L83] at hw
    refine lv_iload hx hb d_Pg_putAmount_83 (lv_at hl 4 rfl) ?_
    refine lv_if_le (tgt := 122) hx hb d_Pg_putAmount_85 (by decide) (fun hc => ?_) (fun hc => ?_)
    · have hw := hw.1 hc
      exact hX z_this x1 x3 x5 x6 H locs ls (lv_sub hl [0, 1, 2, 3, 4] rfl) hP hD hS hw
    · have hw := hw.2 hc
      refine lv_iload hx hb d_Pg_putAmount_88 (lv_at hl 3 rfl) ?_
      refine lv_if_le (tgt := 122) hx hb d_Pg_putAmount_90 (by decide) (fun hc => ?_) (fun hc => ?_)
      · have hw := hw.1 hc
        exact hX z_this x1 x3 x5 x6 H locs ls (lv_sub hl [0, 1, 2, 3, 4] rfl) hP hD hS hw
      · have hw := hw.2 hc
        refine lv_aload_n hx hb d_Pg_putAmount_93 rfl (lv_at hl 0 rfl) ?_
        refine lv_bipush (v := (48 : Int32)) hx hb d_Pg_putAmount_94 (by decide) ?_
        refine lv_iload hx hb d_Pg_putAmount_96 (lv_at hl 3 rfl) ?_
        refine lv_iload hx hb d_Pg_putAmount_98 (lv_at hl 4 rfl) ?_
        refine lv_idiv hx hb d_Pg_putAmount_100 hw.1 ?_
        have hw := hw.2
        refine lv_iadd hx hb d_Pg_putAmount_101 ?_
        refine xq_go (wr := ([] : va_W)) (stk := fun _ => []) (xq_runV (As := [.int ((48 : Int32) + (x5 / x6))]) (rest := []) ⟨hx, hb, hml, hown, hts⟩ (c_Pg_put (l := l) (o := o) (D := D) (k := k) (ad_this := ad_this) (q_this_keywords := q_this_keywords) (q_this_names := q_this_names) (q_this_nodes := q_this_nodes) hw) (cw_Pg_put hts kw4_54 ⟨Nat.le_of_ble_eq_true rfl, Nat.le_of_ble_eq_true rfl⟩) (va_recv hK hP (ci := 7) (q0 := 0) rfl rfl) (hP.sub [0, 1] rfl) hK hJ hS (va_free hD hS hA [0, 1] rfl) ((hD.sub [0, 1] (by decide) rfl).weaken (fun _ _ _ _ => trivial)) rfl hl.1 (Nat.le_of_ble_eq_true rfl) d_Pg_putAmount_102 ⟨Nat.le_of_ble_eq_true rfl, Nat.le_of_ble_eq_true rfl⟩) hP hD hS hA [0, 1] [] rfl rfl (by decide) (by decide) (fun _ => rfl) (fun r4 u4 H locs hw hP hD hS => ?_) (fun _ _ _ _ h9 => h9.elim)
        have hP : va_P D vwCl (w_Pg k ad_this q_this_keywords q_this_names q_this_nodes u4) H := hP.sub [0, 1] rfl
        have hD : va_D A (w_Pg k ad_this q_this_keywords q_this_names q_this_nodes u4) := hD.sub [0, 1] (by decide) rfl
        refine lv_iload hx hb d_Pg_putAmount_105 (lv_at hl 3 rfl) ?_
        refine lv_iload hx hb d_Pg_putAmount_107 (lv_at hl 4 rfl) ?_
        refine lv_irem hx hb d_Pg_putAmount_109 hw.1 ?_
        have hw := hw.2
        refine lv_istore (lv' := [(5, .int (x5 - x5 / x6 * x6)), (0, .ref (ad_this 0)), (1, .long x1), (3, .long x3), (6, .int x6)]) hx hb d_Pg_putAmount_110 hl (by decide) rfl (fun ls hl => ?_)
        refine lv_iload hx hb d_Pg_putAmount_112 (lv_at hl 4 rfl) ?_
        refine lv_bipush (v := (10 : Int32)) hx hb d_Pg_putAmount_114 (by decide) ?_
        refine lv_idiv hx hb d_Pg_putAmount_116 (by decide) ?_
        refine lv_istore (lv' := [(6, .int (x6 / (10 : Int32))), (5, .int (x5 - x5 / x6 * x6)), (0, .ref (ad_this 0)), (1, .long x1), (3, .long x3)]) hx hb d_Pg_putAmount_117 hl (by decide) rfl (fun ls hl => ?_)
        refine lv_goto (tgt := 83) hx hb d_Pg_putAmount_119 (by decide) ?_
        exact ih u4 x1 x3 (x5 - x5 / x6 * x6) (x6 / (10 : Int32)) H locs ls (lv_sub hl [2, 3, 4, 1, 0] rfl) hP hD hS hw
set_option maxHeartbeats 4000000 in
set_option maxRecDepth 100000 in
theorem c_Pg_putAmount {l : Launch} {o : State × Array Value} {D : va_G} {k : Nat → ClassId} {ad_this : Nat → Nat} {q_this_keywords : Nat} {q_this_names : Nat} {q_this_nodes : Nat} {z_this : T_Pg} {a1 : Int64} {post : Unit → T_Pg → Prop} (hw : wp_Pg_putAmount z_this a1 post) : xq_C l o y_Pg_putAmount (.code y_Pg_putAmount prog_6_method_20_code 7 none :: xq_W) rm_Pg_putAmount D vwCl (xt k) [.ref (ad_this 0), .long a1] (w_Pg k ad_this q_this_keywords q_this_names q_this_nodes z_this) (fun _ : Unit => none) post (fun _ : T_Pg => False) (fun u : T_Pg => w_Pg k ad_this q_this_keywords q_this_names q_this_nodes u) 0 0 0 0 := by
  refine xq_ofW (cc := prog_6_method_20_code) (maxL := 7) (ret := none) (by decide) rfl (Nat.le_of_ble_eq_true rfl) ?_
  intro p e s m below meth c ls H locs A hAt hAe hA hl hK hJ hP0 hP hD hS
  obtain ⟨hx, hb, hml, hr, hlocks, hown, hts, hex, hnm⟩ := id hAt
  have hl : lv_has ls 7 [(0, .ref (ad_this 0)), (1, .long a1)] := hl
  unfold wp_Pg_putAmount at hw
  refine lv_aload_n hx hb d_Pg_putAmount_0 rfl (lv_at hl 0 rfl) ?_
  refine xq_go (wr := ([] : va_W)) (stk := fun _ => []) (xq_runV (As := []) (rest := []) ⟨hx, hb, hml, hown, hts⟩ (c_Pg_beginWord (l := l) (o := o) (D := D) (k := k) (ad_this := ad_this) (q_this_keywords := q_this_keywords) (q_this_names := q_this_names) (q_this_nodes := q_this_nodes) hw) (cw_Pg_beginWord hts kw4_46 ⟨Nat.le_of_ble_eq_true rfl, Nat.le_of_ble_eq_true rfl⟩) (va_recv hK hP (ci := 7) (q0 := 0) rfl rfl) (hP.sub [0, 1] rfl) hK hJ hS (va_free hD hS hA [0, 1] rfl) ((hD.sub [0, 1] (by decide) rfl).weaken (fun _ _ _ _ => trivial)) rfl hl.1 (Nat.le_of_ble_eq_true rfl) d_Pg_putAmount_1 ⟨Nat.le_of_ble_eq_true rfl, Nat.le_of_ble_eq_true rfl⟩) hP hD hS hA [0, 1] [] rfl rfl (by decide) (by decide) (fun _ => rfl) (fun r1 u1 H locs hw hP hD hS => ?_) (fun _ _ _ _ h9 => h9.elim)
  have hP : va_P D vwCl (w_Pg k ad_this q_this_keywords q_this_names q_this_nodes u1) H := hP.sub [0, 1] rfl
  have hD : va_D A (w_Pg k ad_this q_this_keywords q_this_names q_this_nodes u1) := hD.sub [0, 1] (by decide) rfl
  refine lv_lload_n hx hb d_Pg_putAmount_4 rfl (lv_at hl 1 rfl) ?_
  refine lv_ldc2 (v := (1000 : Int64)) hx hb hown (hts (.constantLong R_Pg 124 (1000)) kw4_58) d_Pg_putAmount_5 ?_
  refine lv_ldiv hx hb d_Pg_putAmount_8 (by decide) ?_
  refine lv_lstore_n (lv' := [(3, .long (a1 / (1000 : Int64))), (0, .ref (ad_this 0)), (1, .long a1)]) hx hb d_Pg_putAmount_9 rfl hl (by decide) rfl (fun ls hl => ?_)
  refine lv_ldc (v := (100000000 : Int32)) hx hb hown (hts (.constant R_Pg 155 (100000000)) kw4_59) d_Pg_putAmount_10 ?_
  refine lv_istore (lv' := [(5, .int (100000000 : Int32)), (3, .long (a1 / (1000 : Int64))), (0, .ref (ad_this 0)), (1, .long a1)]) hx hb d_Pg_putAmount_12 hl (by decide) rfl (fun ls hl => ?_)
  obtain ⟨k9, hw⟩ := hw
  refine t_Pg_putAmount_L14 hAt hK hJ hAe hA ?_ k9 u1 a1 (a1 / (1000 : Int64)) (100000000 : Int32) H locs ls (lv_sub hl [2, 3, 1, 0] rfl) hP hD hS hw
  intro z_this x1 x3 x5 H locs ls hl hP hD hS hw
  refine lv_lload_n hx hb d_Pg_putAmount_60 rfl (lv_at hl 1 rfl) ?_
  refine lv_ldc2 (v := (1000 : Int64)) hx hb hown (hts (.constantLong R_Pg 124 (1000)) kw4_58) d_Pg_putAmount_61 ?_
  refine lv_lrem hx hb d_Pg_putAmount_64 (by decide) ?_
  refine lv_l2i hx hb d_Pg_putAmount_65 rfl ?_
  refine lv_istore (lv' := [(5, .int ((x1 - x1 / (1000 : Int64) * (1000 : Int64))).toInt32), (0, .ref (ad_this 0)), (1, .long x1), (3, .long x3)]) hx hb d_Pg_putAmount_66 hl (by decide) rfl (fun ls hl => ?_)
  refine lv_iload hx hb d_Pg_putAmount_68 (lv_at hl 0 rfl) ?_
  refine lv_if_le (tgt := 79) hx hb d_Pg_putAmount_70 (by decide) (fun hc => ?_) (fun hc => ?_)
  · have hw := hw.1 hc
    refine lv_bipush (v := (100 : Int32)) hx hb d_Pg_putAmount_79 (by decide) ?_
    refine lv_istore (lv' := [(6, .int (100 : Int32)), (5, .int ((x1 - x1 / (1000 : Int64) * (1000 : Int64))).toInt32), (0, .ref (ad_this 0)), (1, .long x1), (3, .long x3)]) hx hb d_Pg_putAmount_81 hl (by decide) rfl (fun ls hl => ?_)
    obtain ⟨k9, hw⟩ := hw
    refine t_Pg_putAmount_L83 hAt hK hJ hAe hA ?_ k9 z_this x1 x3 (((x1 - x1 / (1000 : Int64) * (1000 : Int64))).toInt32) (100 : Int32) H locs ls (lv_sub hl [2, 3, 4, 1, 0] rfl) hP hD hS hw
    intro z_this x1 x3 x5 x6 H locs ls hl hP hD hS hw
    exact xq_vret (r := ()) (u := z_this) hx hb hr hlocks hAe hP hD hS rfl hw (Nat.le_of_ble_eq_true rfl) (Nat.le_of_ble_eq_true rfl) d_Pg_putAmount_122
  · have hw := hw.2 hc
    refine lv_aload_n hx hb d_Pg_putAmount_73 rfl (lv_at hl 1 rfl) ?_
    refine lv_bipush (v := (46 : Int32)) hx hb d_Pg_putAmount_74 (by decide) ?_
    refine xq_go (wr := ([] : va_W)) (stk := fun _ => []) (xq_runV (As := [.int (46 : Int32)]) (rest := []) ⟨hx, hb, hml, hown, hts⟩ (c_Pg_put (l := l) (o := o) (D := D) (k := k) (ad_this := ad_this) (q_this_keywords := q_this_keywords) (q_this_names := q_this_names) (q_this_nodes := q_this_nodes) hw) (cw_Pg_put hts kw4_54 ⟨Nat.le_of_ble_eq_true rfl, Nat.le_of_ble_eq_true rfl⟩) (va_recv hK hP (ci := 7) (q0 := 0) rfl rfl) (hP.sub [0, 1] rfl) hK hJ hS (va_free hD hS hA [0, 1] rfl) ((hD.sub [0, 1] (by decide) rfl).weaken (fun _ _ _ _ => trivial)) rfl hl.1 (Nat.le_of_ble_eq_true rfl) d_Pg_putAmount_76 ⟨Nat.le_of_ble_eq_true rfl, Nat.le_of_ble_eq_true rfl⟩) hP hD hS hA [0, 1] [] rfl rfl (by decide) (by decide) (fun _ => rfl) (fun r5 u5 H locs hw hP hD hS => ?_) (fun _ _ _ _ h9 => h9.elim)
    have hP : va_P D vwCl (w_Pg k ad_this q_this_keywords q_this_names q_this_nodes u5) H := hP.sub [0, 1] rfl
    have hD : va_D A (w_Pg k ad_this q_this_keywords q_this_names q_this_nodes u5) := hD.sub [0, 1] (by decide) rfl
    refine lv_bipush (v := (100 : Int32)) hx hb d_Pg_putAmount_79 (by decide) ?_
    refine lv_istore (lv' := [(6, .int (100 : Int32)), (5, .int ((x1 - x1 / (1000 : Int64) * (1000 : Int64))).toInt32), (0, .ref (ad_this 0)), (1, .long x1), (3, .long x3)]) hx hb d_Pg_putAmount_81 hl (by decide) rfl (fun ls hl => ?_)
    obtain ⟨k9, hw⟩ := hw
    refine t_Pg_putAmount_L83 hAt hK hJ hAe hA ?_ k9 u5 x1 x3 (((x1 - x1 / (1000 : Int64) * (1000 : Int64))).toInt32) (100 : Int32) H locs ls (lv_sub hl [2, 3, 4, 1, 0] rfl) hP hD hS hw
    intro z_this x1 x3 x5 x6 H locs ls hl hP hD hS hw
    exact xq_vret (r := ()) (u := z_this) hx hb hr hlocks hAe hP hD hS rfl hw (Nat.le_of_ble_eq_true rfl) (Nat.le_of_ble_eq_true rfl) d_Pg_putAmount_122
theorem cw_Pg_putAmount {R : Room} {s : State} {args : Array Value} {own : String} {index : Nat} (hts : ∀ w ∈ xq_W, w.before args s = true) (hl : .methodLink own index y_Pg_putAmount ∈ xq_W) {rm : Room} (hR : rm.frames + 1 ≤ R.frames ∧ 8 + (7 + 11) + rm.locals ≤ R.locals) : CallW R s args own "StepText$Page" index y_Pg_putAmount prog_6_method_20_code 7 none (.code y_Pg_putAmount prog_6_method_20_code 7 none :: xq_W) rm rm.cells rm.slots 1 := ⟨xq_cb 1 hts kw4_45 kw1_12 hl ⟨by decide, by decide, by decide +kernel⟩ hR, hts _ kw4_44, hts _ kp3_5⟩
def y_Pg_putLetters : MethodName := ⟨"StepText$Page", "putLetters", "(J)V"⟩
theorem d_Pg_putLetters_0 : decode prog_6_method_19_code 0 = .ok (.aload_n 0, 1) := by decide +kernel
theorem d_Pg_putLetters_1 : decode prog_6_method_19_code 1 = .ok (.invokevirtual 147, 3) := by decide +kernel
theorem d_Pg_putLetters_4 : decode prog_6_method_19_code 4 = .ok (.lconst 1, 1) := by decide +kernel
theorem d_Pg_putLetters_5 : decode prog_6_method_19_code 5 = .ok (.lstore_n 3, 1) := by decide +kernel
theorem d_Pg_putLetters_6 : decode prog_6_method_19_code 6 = .ok (.iconst 1, 1) := by decide +kernel
theorem d_Pg_putLetters_7 : decode prog_6_method_19_code 7 = .ok (.istore 5, 2) := by decide +kernel
theorem d_Pg_putLetters_9 : decode prog_6_method_19_code 9 = .ok (.iload 5, 2) := by decide +kernel
theorem d_Pg_putLetters_11 : decode prog_6_method_19_code 11 = .ok (.bipush 12, 2) := by decide +kernel
theorem d_Pg_putLetters_13 : decode prog_6_method_19_code 13 = .ok (.if_icmp .ge 25, 3) := by decide +kernel
theorem d_Pg_putLetters_16 : decode prog_6_method_19_code 16 = .ok (.lload_n 1, 1) := by decide +kernel
theorem d_Pg_putLetters_17 : decode prog_6_method_19_code 17 = .ok (.lload_n 3, 1) := by decide +kernel
theorem d_Pg_putLetters_18 : decode prog_6_method_19_code 18 = .ok (.ldiv, 1) := by decide +kernel
theorem d_Pg_putLetters_19 : decode prog_6_method_19_code 19 = .ok (.ldc2_w 150, 3) := by decide +kernel
theorem d_Pg_putLetters_22 : decode prog_6_method_19_code 22 = .ok (.lcmp, 1) := by decide +kernel
theorem d_Pg_putLetters_23 : decode prog_6_method_19_code 23 = .ok (.ifCond .lt 15, 3) := by decide +kernel
theorem d_Pg_putLetters_26 : decode prog_6_method_19_code 26 = .ok (.lload_n 3, 1) := by decide +kernel
theorem d_Pg_putLetters_27 : decode prog_6_method_19_code 27 = .ok (.ldc2_w 150, 3) := by decide +kernel
theorem d_Pg_putLetters_30 : decode prog_6_method_19_code 30 = .ok (.lmul, 1) := by decide +kernel
theorem d_Pg_putLetters_31 : decode prog_6_method_19_code 31 = .ok (.lstore_n 3, 1) := by decide +kernel
theorem d_Pg_putLetters_32 : decode prog_6_method_19_code 32 = .ok (.iinc 5 1, 3) := by decide +kernel
theorem d_Pg_putLetters_35 : decode prog_6_method_19_code 35 = .ok (.goto (-26), 3) := by decide +kernel
theorem d_Pg_putLetters_38 : decode prog_6_method_19_code 38 = .ok (.lload_n 3, 1) := by decide +kernel
theorem d_Pg_putLetters_39 : decode prog_6_method_19_code 39 = .ok (.lconst 0, 1) := by decide +kernel
theorem d_Pg_putLetters_40 : decode prog_6_method_19_code 40 = .ok (.lcmp, 1) := by decide +kernel
theorem d_Pg_putLetters_41 : decode prog_6_method_19_code 41 = .ok (.ifCond .le 27, 3) := by decide +kernel
theorem d_Pg_putLetters_44 : decode prog_6_method_19_code 44 = .ok (.aload_n 0, 1) := by decide +kernel
theorem d_Pg_putLetters_45 : decode prog_6_method_19_code 45 = .ok (.lload_n 1, 1) := by decide +kernel
theorem d_Pg_putLetters_46 : decode prog_6_method_19_code 46 = .ok (.lload_n 3, 1) := by decide +kernel
theorem d_Pg_putLetters_47 : decode prog_6_method_19_code 47 = .ok (.ldiv, 1) := by decide +kernel
theorem d_Pg_putLetters_48 : decode prog_6_method_19_code 48 = .ok (.ldc2_w 150, 3) := by decide +kernel
theorem d_Pg_putLetters_51 : decode prog_6_method_19_code 51 = .ok (.lrem, 1) := by decide +kernel
theorem d_Pg_putLetters_52 : decode prog_6_method_19_code 52 = .ok (.l2i, 1) := by decide +kernel
theorem d_Pg_putLetters_53 : decode prog_6_method_19_code 53 = .ok (.invokestatic 152, 3) := by decide +kernel
theorem d_Pg_putLetters_56 : decode prog_6_method_19_code 56 = .ok (.invokevirtual 144, 3) := by decide +kernel
theorem d_Pg_putLetters_59 : decode prog_6_method_19_code 59 = .ok (.lload_n 3, 1) := by decide +kernel
theorem d_Pg_putLetters_60 : decode prog_6_method_19_code 60 = .ok (.ldc2_w 150, 3) := by decide +kernel
theorem d_Pg_putLetters_63 : decode prog_6_method_19_code 63 = .ok (.ldiv, 1) := by decide +kernel
theorem d_Pg_putLetters_64 : decode prog_6_method_19_code 64 = .ok (.lstore_n 3, 1) := by decide +kernel
theorem d_Pg_putLetters_65 : decode prog_6_method_19_code 65 = .ok (.goto (-27), 3) := by decide +kernel
theorem d_Pg_putLetters_68 : decode prog_6_method_19_code 68 = .ok (.return_, 1) := by decide +kernel
def wp_Pg_putLetters_L9 (K : T_Pg → Int64 → Int64 → Int32 → Prop) (post : Unit → T_Pg → Prop) : Nat → T_Pg → Int64 → Int64 → Int32 → Prop
  | 0, _, _, _, _ => False
  | n9 + 1, z_this, x1, x3, x5 => ((12 : Int32) ≤ x5 → (K z_this x1 x3 x5)) ∧ (¬ (12 : Int32) ≤ x5 → (¬ x3 = 0 ∧ (((lg_cmp (x1 / x3) (37 : Int64)) < 0 → (K z_this x1 x3 x5)) ∧ (¬ (lg_cmp (x1 / x3) (37 : Int64)) < 0 → (wp_Pg_putLetters_L9 K post n9 z_this x1 (x3 * (37 : Int64)) (x5 + (1 : Int32)))))))
def wp_Pg_putLetters_L38 (K : T_Pg → Int64 → Int64 → Int32 → Prop) (post : Unit → T_Pg → Prop) : Nat → T_Pg → Int64 → Int64 → Int32 → Prop
  | 0, _, _, _, _ => False
  | n9 + 1, z_this, x1, x3, x5 => ((lg_cmp x3 (0 : Int64)) ≤ 0 → (K z_this x1 x3 x5)) ∧ (¬ (lg_cmp x3 (0 : Int64)) ≤ 0 → (¬ x3 = 0 ∧ (wp_Kw_unranked ((((x1 / x3) - (x1 / x3) / (37 : Int64) * (37 : Int64))).toInt32) (fun (r2 : Int32) (u2 : Unit) => wp_Pg_put z_this r2 (fun (r3 : Unit) (u3 : T_Pg) => wp_Pg_putLetters_L38 K post n9 u3 x1 (x3 / (37 : Int64)) x5)))))
def wp_Pg_putLetters (z_this : T_Pg) (a1 : Int64) (post : Unit → T_Pg → Prop) : Prop := wp_Pg_beginWord z_this (fun (r1 : Unit) (u1 : T_Pg) => ∃ k9 : Nat, wp_Pg_putLetters_L9 (fun (z_this : T_Pg) (x1 : Int64) (x3 : Int64) (x5 : Int32) => ∃ k9 : Nat, wp_Pg_putLetters_L38 (fun (z_this : T_Pg) (x1 : Int64) (x3 : Int64) (x5 : Int32) => post () z_this) post k9 z_this x1 x3 x5) post k9 u1 a1 (1 : Int64) (1 : Int32))
def rm_Pg_putLetters : Room := { frames := 2, cells := 0, slots := 0, locals := 41 }
set_option maxHeartbeats 4000000 in
set_option maxRecDepth 100000 in
theorem t_Pg_putLetters_L9 {p : Program} {l : Launch} {o : State × Array Value} {e : Env} {s : State} {m : MethodId} {args : Array Value} {below : List Frame} {meth : Method} {c : Code} {D : va_G} {k : Nat → ClassId} {w0 : va_W} {A : Nat → Prop} {ad_this : Nat → Nat} {q_this_keywords : Nat} {q_this_names : Nat} {q_this_nodes : Nat} {post : Unit → T_Pg → Prop} (hAt : xq_At p s m args meth c prog_6_method_19_code 6 none y_Pg_putLetters xq_W) (hK : va_K D vwCl (xt k) s) (hJ : xq_J l o A s s.heap) (hAe : va_A w0 s.heap.size = A) (hA : ∀ q, s.heap.size ≤ q → A q) {K : T_Pg → Int64 → Int64 → Int32 → Prop} (hX : ∀ (z_this : T_Pg) (x1 : Int64) (x3 : Int64) (x5 : Int32) (H : Heap) (locs : List Loc) (ls : Array Slot), lv_has ls 6 [(0, .ref (ad_this 0)), (1, .long x1), (3, .long x3), (5, .int x5)] → va_P D vwCl (w_Pg k ad_this q_this_keywords q_this_names q_this_nodes z_this) H → va_D A (w_Pg k ad_this q_this_keywords q_this_names q_this_nodes z_this) → va_S A s.heap H locs → K z_this x1 x3 x5 → W p l e rm_Pg_putLetters s m args below meth c H locs 0 0 (xq_Z below D vwCl (xt k) w0 (fun _ : Unit => none) post (fun _ : T_Pg => False) (fun u : T_Pg => w_Pg k ad_this q_this_keywords q_this_names q_this_nodes u) 0 0 0 0 s) (F0 m 38 ls [])) :
    ∀ (n9 : Nat) (z_this : T_Pg) (x1 : Int64) (x3 : Int64) (x5 : Int32) (H : Heap) (locs : List Loc) (ls : Array Slot), lv_has ls 6 [(0, .ref (ad_this 0)), (1, .long x1), (3, .long x3), (5, .int x5)] → va_P D vwCl (w_Pg k ad_this q_this_keywords q_this_names q_this_nodes z_this) H → va_D A (w_Pg k ad_this q_this_keywords q_this_names q_this_nodes z_this) → va_S A s.heap H locs → wp_Pg_putLetters_L9 K post n9 z_this x1 x3 x5 → W p l e rm_Pg_putLetters s m args below meth c H locs 0 0 (xq_Z below D vwCl (xt k) w0 (fun _ : Unit => none) post (fun _ : T_Pg => False) (fun u : T_Pg => w_Pg k ad_this q_this_keywords q_this_names q_this_nodes u) 0 0 0 0 s) (F0 m 9 ls []) := by
  obtain ⟨hx, hb, hml, hr, hlocks, hown, hts, hex, hnm⟩ := id hAt
  intro n9
  induction n9 with
  | zero => intro z_this x1 x3 x5 H locs ls hl hP hD hS hw; exact False.elim (by rw [wp_Pg_putLetters_L9] at hw; exact hw)
  | succ n9 ih =>
    intro z_this x1 x3 x5 H locs ls hl hP hD hS hw
    rw [wp_Pg_putLetters_L9] at hw
    refine lv_iload hx hb d_Pg_putLetters_9 (lv_at hl 3 rfl) ?_
    refine lv_bipush (v := (12 : Int32)) hx hb d_Pg_putLetters_11 (by decide) ?_
    refine lv_icmp_ge (tgt := 38) hx hb d_Pg_putLetters_13 (by decide) (fun hc => ?_) (fun hc => ?_)
    · have hw := hw.1 hc
      exact hX z_this x1 x3 x5 H locs ls (lv_sub hl [0, 1, 2, 3] rfl) hP hD hS hw
    · have hw := hw.2 hc
      refine lv_lload_n hx hb d_Pg_putLetters_16 rfl (lv_at hl 1 rfl) ?_
      refine lv_lload_n hx hb d_Pg_putLetters_17 rfl (lv_at hl 2 rfl) ?_
      refine lv_ldiv hx hb d_Pg_putLetters_18 hw.1 ?_
      have hw := hw.2
      refine lv_ldc2 (v := (37 : Int64)) hx hb hown (hts (.constantLong R_Pg 150 (37)) kw4_74) d_Pg_putLetters_19 ?_
      refine W.lcmp hx hb d_Pg_putLetters_22 ?_
      refine lv_if_lt (tgt := 38) hx hb d_Pg_putLetters_23 (by decide) (fun hc => ?_) (fun hc => ?_)
      · have hw := hw.1 hc
        exact hX z_this x1 x3 x5 H locs ls (lv_sub hl [0, 1, 2, 3] rfl) hP hD hS hw
      · have hw := hw.2 hc
        refine lv_lload_n hx hb d_Pg_putLetters_26 rfl (lv_at hl 2 rfl) ?_
        refine lv_ldc2 (v := (37 : Int64)) hx hb hown (hts (.constantLong R_Pg 150 (37)) kw4_74) d_Pg_putLetters_27 ?_
        refine lv_lmul hx hb d_Pg_putLetters_30 ?_
        refine lv_lstore_n (lv' := [(3, .long (x3 * (37 : Int64))), (0, .ref (ad_this 0)), (1, .long x1), (5, .int x5)]) hx hb d_Pg_putLetters_31 rfl hl (by decide) rfl (fun ls hl => ?_)
        refine lv_iinc (v := (x5 + (1 : Int32))) (lv' := [(5, .int (x5 + (1 : Int32))), (3, .long (x3 * (37 : Int64))), (0, .ref (ad_this 0)), (1, .long x1)]) hx hb d_Pg_putLetters_32 hl (k := 3) rfl rfl (by decide) rfl (fun ls hl => ?_)
        refine lv_goto (tgt := 9) hx hb d_Pg_putLetters_35 (by decide) ?_
        exact ih z_this x1 (x3 * (37 : Int64)) (x5 + (1 : Int32)) H locs ls (lv_sub hl [2, 3, 1, 0] rfl) hP hD hS hw
set_option maxHeartbeats 4000000 in
set_option maxRecDepth 100000 in
theorem t_Pg_putLetters_L38 {p : Program} {l : Launch} {o : State × Array Value} {e : Env} {s : State} {m : MethodId} {args : Array Value} {below : List Frame} {meth : Method} {c : Code} {D : va_G} {k : Nat → ClassId} {w0 : va_W} {A : Nat → Prop} {ad_this : Nat → Nat} {q_this_keywords : Nat} {q_this_names : Nat} {q_this_nodes : Nat} {post : Unit → T_Pg → Prop} (hAt : xq_At p s m args meth c prog_6_method_19_code 6 none y_Pg_putLetters xq_W) (hK : va_K D vwCl (xt k) s) (hJ : xq_J l o A s s.heap) (hAe : va_A w0 s.heap.size = A) (hA : ∀ q, s.heap.size ≤ q → A q) {K : T_Pg → Int64 → Int64 → Int32 → Prop} (hX : ∀ (z_this : T_Pg) (x1 : Int64) (x3 : Int64) (x5 : Int32) (H : Heap) (locs : List Loc) (ls : Array Slot), lv_has ls 6 [(0, .ref (ad_this 0)), (1, .long x1), (3, .long x3), (5, .int x5)] → va_P D vwCl (w_Pg k ad_this q_this_keywords q_this_names q_this_nodes z_this) H → va_D A (w_Pg k ad_this q_this_keywords q_this_names q_this_nodes z_this) → va_S A s.heap H locs → K z_this x1 x3 x5 → W p l e rm_Pg_putLetters s m args below meth c H locs 0 0 (xq_Z below D vwCl (xt k) w0 (fun _ : Unit => none) post (fun _ : T_Pg => False) (fun u : T_Pg => w_Pg k ad_this q_this_keywords q_this_names q_this_nodes u) 0 0 0 0 s) (F0 m 68 ls [])) :
    ∀ (n9 : Nat) (z_this : T_Pg) (x1 : Int64) (x3 : Int64) (x5 : Int32) (H : Heap) (locs : List Loc) (ls : Array Slot), lv_has ls 6 [(0, .ref (ad_this 0)), (1, .long x1), (3, .long x3), (5, .int x5)] → va_P D vwCl (w_Pg k ad_this q_this_keywords q_this_names q_this_nodes z_this) H → va_D A (w_Pg k ad_this q_this_keywords q_this_names q_this_nodes z_this) → va_S A s.heap H locs → wp_Pg_putLetters_L38 K post n9 z_this x1 x3 x5 → W p l e rm_Pg_putLetters s m args below meth c H locs 0 0 (xq_Z below D vwCl (xt k) w0 (fun _ : Unit => none) post (fun _ : T_Pg => False) (fun u : T_Pg => w_Pg k ad_this q_this_keywords q_this_names q_this_nodes u) 0 0 0 0 s) (F0 m 38 ls []) := by
  obtain ⟨hx, hb, hml, hr, hlocks, hown, hts, hex, hnm⟩ := id hAt
  intro n9
  induction n9 with
  | zero => intro z_this x1 x3 x5 H locs ls hl hP hD hS hw; exact False.elim (by rw [wp_Pg_putLetters_L38] at hw; exact hw)
  | succ n9 ih =>
    intro z_this x1 x3 x5 H locs ls hl hP hD hS hw
    rw [wp_Pg_putLetters_L38] at hw
    refine lv_lload_n hx hb d_Pg_putLetters_38 rfl (lv_at hl 2 rfl) ?_
    refine lv_lconst (v := (0 : Int64)) hx hb d_Pg_putLetters_39 (by decide) ?_
    refine W.lcmp hx hb d_Pg_putLetters_40 ?_
    refine lv_if_le (tgt := 68) hx hb d_Pg_putLetters_41 (by decide) (fun hc => ?_) (fun hc => ?_)
    · have hw := hw.1 hc
      exact hX z_this x1 x3 x5 H locs ls (lv_sub hl [0, 1, 2, 3] rfl) hP hD hS hw
    · have hw := hw.2 hc
      refine lv_aload_n hx hb d_Pg_putLetters_44 rfl (lv_at hl 0 rfl) ?_
      refine lv_lload_n hx hb d_Pg_putLetters_45 rfl (lv_at hl 1 rfl) ?_
      refine lv_lload_n hx hb d_Pg_putLetters_46 rfl (lv_at hl 2 rfl) ?_
      refine lv_ldiv hx hb d_Pg_putLetters_47 hw.1 ?_
      have hw := hw.2
      refine lv_ldc2 (v := (37 : Int64)) hx hb hown (hts (.constantLong R_Pg 150 (37)) kw4_74) d_Pg_putLetters_48 ?_
      refine lv_lrem hx hb d_Pg_putLetters_51 (by decide) ?_
      refine lv_l2i hx hb d_Pg_putLetters_52 rfl ?_
      refine xq_go (wr := w_Pg k ad_this q_this_keywords q_this_names q_this_nodes z_this) (stk := fun r => .int r :: [.ref (ad_this 0)]) (xq_runS (As := [.int (((x1 / x3) - (x1 / x3) / (37 : Int64) * (37 : Int64))).toInt32]) (rest := [.ref (ad_this 0)]) ⟨hx, hb, hml, hown, hts⟩ (c_Kw_unranked (l := l) (o := o) (D := D) (k := k) hw) (cs_Kw_unranked hts kw4_75 ⟨Nat.le_of_ble_eq_true rfl, Nat.le_of_ble_eq_true rfl⟩) (hP.sub [] rfl) hK hJ hS (va_free hD hS hA [] rfl) ((hD.sub [] (by decide) rfl).weaken (fun _ _ _ _ => trivial)) rfl hl.1 (Nat.le_of_ble_eq_true rfl) d_Pg_putLetters_53 ⟨Nat.le_of_ble_eq_true rfl, Nat.le_of_ble_eq_true rfl⟩) hP hD hS hA [] [0, 1] rfl rfl (by decide) (by decide) (fun _ => rfl) (fun r2 u2 H locs hw hP hD hS => ?_) (fun _ _ _ _ h9 => h9.elim)
      have hP : va_P D vwCl (w_Pg k ad_this q_this_keywords q_this_names q_this_nodes z_this) H := hP.sub [0, 1] rfl
      have hD : va_D A (w_Pg k ad_this q_this_keywords q_this_names q_this_nodes z_this) := hD.sub [0, 1] (by decide) rfl
      refine xq_go (wr := ([] : va_W)) (stk := fun _ => []) (xq_runV (As := [.int r2]) (rest := []) ⟨hx, hb, hml, hown, hts⟩ (c_Pg_put (l := l) (o := o) (D := D) (k := k) (ad_this := ad_this) (q_this_keywords := q_this_keywords) (q_this_names := q_this_names) (q_this_nodes := q_this_nodes) hw) (cw_Pg_put hts kw4_54 ⟨Nat.le_of_ble_eq_true rfl, Nat.le_of_ble_eq_true rfl⟩) (va_recv hK hP (ci := 7) (q0 := 0) rfl rfl) (hP.sub [0, 1] rfl) hK hJ hS (va_free hD hS hA [0, 1] rfl) ((hD.sub [0, 1] (by decide) rfl).weaken (fun _ _ _ _ => trivial)) rfl hl.1 (Nat.le_of_ble_eq_true rfl) d_Pg_putLetters_56 ⟨Nat.le_of_ble_eq_true rfl, Nat.le_of_ble_eq_true rfl⟩) hP hD hS hA [0, 1] [] rfl rfl (by decide) (by decide) (fun _ => rfl) (fun r3 u3 H locs hw hP hD hS => ?_) (fun _ _ _ _ h9 => h9.elim)
      have hP : va_P D vwCl (w_Pg k ad_this q_this_keywords q_this_names q_this_nodes u3) H := hP.sub [0, 1] rfl
      have hD : va_D A (w_Pg k ad_this q_this_keywords q_this_names q_this_nodes u3) := hD.sub [0, 1] (by decide) rfl
      refine lv_lload_n hx hb d_Pg_putLetters_59 rfl (lv_at hl 2 rfl) ?_
      refine lv_ldc2 (v := (37 : Int64)) hx hb hown (hts (.constantLong R_Pg 150 (37)) kw4_74) d_Pg_putLetters_60 ?_
      refine lv_ldiv hx hb d_Pg_putLetters_63 (by decide) ?_
      refine lv_lstore_n (lv' := [(3, .long (x3 / (37 : Int64))), (0, .ref (ad_this 0)), (1, .long x1), (5, .int x5)]) hx hb d_Pg_putLetters_64 rfl hl (by decide) rfl (fun ls hl => ?_)
      refine lv_goto (tgt := 38) hx hb d_Pg_putLetters_65 (by decide) ?_
      exact ih u3 x1 (x3 / (37 : Int64)) x5 H locs ls (lv_sub hl [1, 2, 0, 3] rfl) hP hD hS hw
set_option maxHeartbeats 4000000 in
set_option maxRecDepth 100000 in
theorem c_Pg_putLetters {l : Launch} {o : State × Array Value} {D : va_G} {k : Nat → ClassId} {ad_this : Nat → Nat} {q_this_keywords : Nat} {q_this_names : Nat} {q_this_nodes : Nat} {z_this : T_Pg} {a1 : Int64} {post : Unit → T_Pg → Prop} (hw : wp_Pg_putLetters z_this a1 post) : xq_C l o y_Pg_putLetters (.code y_Pg_putLetters prog_6_method_19_code 6 none :: xq_W) rm_Pg_putLetters D vwCl (xt k) [.ref (ad_this 0), .long a1] (w_Pg k ad_this q_this_keywords q_this_names q_this_nodes z_this) (fun _ : Unit => none) post (fun _ : T_Pg => False) (fun u : T_Pg => w_Pg k ad_this q_this_keywords q_this_names q_this_nodes u) 0 0 0 0 := by
  refine xq_ofW (cc := prog_6_method_19_code) (maxL := 6) (ret := none) (by decide) rfl (Nat.le_of_ble_eq_true rfl) ?_
  intro p e s m below meth c ls H locs A hAt hAe hA hl hK hJ hP0 hP hD hS
  obtain ⟨hx, hb, hml, hr, hlocks, hown, hts, hex, hnm⟩ := id hAt
  have hl : lv_has ls 6 [(0, .ref (ad_this 0)), (1, .long a1)] := hl
  unfold wp_Pg_putLetters at hw
  refine lv_aload_n hx hb d_Pg_putLetters_0 rfl (lv_at hl 0 rfl) ?_
  refine xq_go (wr := ([] : va_W)) (stk := fun _ => []) (xq_runV (As := []) (rest := []) ⟨hx, hb, hml, hown, hts⟩ (c_Pg_beginWord (l := l) (o := o) (D := D) (k := k) (ad_this := ad_this) (q_this_keywords := q_this_keywords) (q_this_names := q_this_names) (q_this_nodes := q_this_nodes) hw) (cw_Pg_beginWord hts kw4_46 ⟨Nat.le_of_ble_eq_true rfl, Nat.le_of_ble_eq_true rfl⟩) (va_recv hK hP (ci := 7) (q0 := 0) rfl rfl) (hP.sub [0, 1] rfl) hK hJ hS (va_free hD hS hA [0, 1] rfl) ((hD.sub [0, 1] (by decide) rfl).weaken (fun _ _ _ _ => trivial)) rfl hl.1 (Nat.le_of_ble_eq_true rfl) d_Pg_putLetters_1 ⟨Nat.le_of_ble_eq_true rfl, Nat.le_of_ble_eq_true rfl⟩) hP hD hS hA [0, 1] [] rfl rfl (by decide) (by decide) (fun _ => rfl) (fun r1 u1 H locs hw hP hD hS => ?_) (fun _ _ _ _ h9 => h9.elim)
  have hP : va_P D vwCl (w_Pg k ad_this q_this_keywords q_this_names q_this_nodes u1) H := hP.sub [0, 1] rfl
  have hD : va_D A (w_Pg k ad_this q_this_keywords q_this_names q_this_nodes u1) := hD.sub [0, 1] (by decide) rfl
  refine lv_lconst (v := (1 : Int64)) hx hb d_Pg_putLetters_4 (by decide) ?_
  refine lv_lstore_n (lv' := [(3, .long (1 : Int64)), (0, .ref (ad_this 0)), (1, .long a1)]) hx hb d_Pg_putLetters_5 rfl hl (by decide) rfl (fun ls hl => ?_)
  refine lv_iconst (v := (1 : Int32)) hx hb d_Pg_putLetters_6 (by decide) ?_
  refine lv_istore (lv' := [(5, .int (1 : Int32)), (3, .long (1 : Int64)), (0, .ref (ad_this 0)), (1, .long a1)]) hx hb d_Pg_putLetters_7 hl (by decide) rfl (fun ls hl => ?_)
  obtain ⟨k9, hw⟩ := hw
  refine t_Pg_putLetters_L9 hAt hK hJ hAe hA ?_ k9 u1 a1 (1 : Int64) (1 : Int32) H locs ls (lv_sub hl [2, 3, 1, 0] rfl) hP hD hS hw
  intro z_this x1 x3 x5 H locs ls hl hP hD hS hw
  obtain ⟨k9, hw⟩ := hw
  refine t_Pg_putLetters_L38 hAt hK hJ hAe hA ?_ k9 z_this x1 x3 x5 H locs ls (lv_sub hl [0, 1, 2, 3] rfl) hP hD hS hw
  intro z_this x1 x3 x5 H locs ls hl hP hD hS hw
  exact xq_vret (r := ()) (u := z_this) hx hb hr hlocks hAe hP hD hS rfl hw (Nat.le_of_ble_eq_true rfl) (Nat.le_of_ble_eq_true rfl) d_Pg_putLetters_68
theorem cw_Pg_putLetters {R : Room} {s : State} {args : Array Value} {own : String} {index : Nat} (hts : ∀ w ∈ xq_W, w.before args s = true) (hl : .methodLink own index y_Pg_putLetters ∈ xq_W) {rm : Room} (hR : rm.frames + 1 ≤ R.frames ∧ 8 + (6 + 11) + rm.locals ≤ R.locals) : CallW R s args own "StepText$Page" index y_Pg_putLetters prog_6_method_19_code 6 none (.code y_Pg_putLetters prog_6_method_19_code 6 none :: xq_W) rm rm.cells rm.slots 1 := ⟨xq_cb 1 hts kw4_73 kw1_12 hl ⟨by decide, by decide, by decide +kernel⟩ hR, hts _ kw4_72, hts _ kp3_10⟩
def y_Pg_putUnit : MethodName := ⟨"StepText$Page", "putUnit", "(I)V"⟩
theorem d_Pg_putUnit_0 : decode prog_6_method_18_code 0 = .ok (.iload_n 1, 1) := by decide +kernel
theorem d_Pg_putUnit_1 : decode prog_6_method_18_code 1 = .ok (.ifCond .le 21, 3) := by decide +kernel
theorem d_Pg_putUnit_4 : decode prog_6_method_18_code 4 = .ok (.aload_n 0, 1) := by decide +kernel
theorem d_Pg_putUnit_5 : decode prog_6_method_18_code 5 = .ok (.aload_n 0, 1) := by decide +kernel
theorem d_Pg_putUnit_6 : decode prog_6_method_18_code 6 = .ok (.getfield 15, 3) := by decide +kernel
theorem d_Pg_putUnit_9 : decode prog_6_method_18_code 9 = .ok (.sipush 219, 3) := by decide +kernel
theorem d_Pg_putUnit_12 : decode prog_6_method_18_code 12 = .ok (.iload_n 1, 1) := by decide +kernel
theorem d_Pg_putUnit_13 : decode prog_6_method_18_code 13 = .ok (.iadd, 1) := by decide +kernel
theorem d_Pg_putUnit_14 : decode prog_6_method_18_code 14 = .ok (.iconst 1, 1) := by decide +kernel
theorem d_Pg_putUnit_15 : decode prog_6_method_18_code 15 = .ok (.isub, 1) := by decide +kernel
theorem d_Pg_putUnit_16 : decode prog_6_method_18_code 16 = .ok (.invokevirtual 69, 3) := by decide +kernel
theorem d_Pg_putUnit_19 : decode prog_6_method_18_code 19 = .ok (.invokevirtual 73, 3) := by decide +kernel
theorem d_Pg_putUnit_22 : decode prog_6_method_18_code 22 = .ok (.return_, 1) := by decide +kernel
def wp_Pg_putUnit (z_this : T_Pg) (z_this_keywords : T_Kw) (a1 : Int32) (post : Unit → T_Pg → Prop) : Prop := (a1 ≤ 0 → (post () z_this)) ∧ (¬ a1 ≤ 0 → (wp_Kw_lettersOf z_this_keywords (((219 : Int32) + a1) - (1 : Int32)) (fun (r1 : Int64) (u1 : Unit) => wp_Pg_putLetters z_this r1 (fun (r2 : Unit) (u2 : T_Pg) => post () u2))))
def rm_Pg_putUnit : Room := { frames := 3, cells := 0, slots := 0, locals := 66 }
set_option maxHeartbeats 4000000 in
set_option maxRecDepth 100000 in
theorem c_Pg_putUnit {l : Launch} {o : State × Array Value} {D : va_G} {k : Nat → ClassId} {ad_this : Nat → Nat} {ad_this_keywords : Nat → Nat} {q_this_names : Nat} {q_this_nodes : Nat} {z_this : T_Pg} {z_this_keywords : T_Kw} {a1 : Int32} {post : Unit → T_Pg → Prop} (hw : wp_Pg_putUnit z_this z_this_keywords a1 post) : xq_C l o y_Pg_putUnit (.code y_Pg_putUnit prog_6_method_18_code 2 none :: xq_W) rm_Pg_putUnit D vwCl (xt k) [.ref (ad_this 0), .int a1] (w_Pg k ad_this (ad_this_keywords 0) q_this_names q_this_nodes z_this ++ w_Kw k ad_this_keywords z_this_keywords) (fun _ : Unit => none) post (fun _ : T_Pg => False) (fun u : T_Pg => w_Pg k ad_this (ad_this_keywords 0) q_this_names q_this_nodes u ++ w_Kw k ad_this_keywords z_this_keywords) 0 0 0 0 := by
  refine xq_ofW (cc := prog_6_method_18_code) (maxL := 2) (ret := none) (by decide) rfl (Nat.le_of_ble_eq_true rfl) ?_
  intro p e s m below meth c ls H locs A hAt hAe hA hl hK hJ hP0 hP hD hS
  obtain ⟨hx, hb, hml, hr, hlocks, hown, hts, hex, hnm⟩ := id hAt
  have hl : lv_has ls 2 [(0, .ref (ad_this 0)), (1, .int a1)] := hl
  unfold wp_Pg_putUnit at hw
  refine lv_iload_n hx hb d_Pg_putUnit_0 rfl (lv_at hl 1 rfl) ?_
  refine lv_if_le (tgt := 22) hx hb d_Pg_putUnit_1 (by decide) (fun hc => ?_) (fun hc => ?_)
  · have hw := hw.1 hc
    exact xq_vret (r := ()) (u := z_this) hx hb hr hlocks hAe hP hD hS rfl hw (Nat.le_of_ble_eq_true rfl) (Nat.le_of_ble_eq_true rfl) d_Pg_putUnit_22
  · have hw := hw.2 hc
    refine lv_aload_n hx hb d_Pg_putUnit_4 rfl (lv_at hl 0 rfl) ?_
    refine lv_aload_n hx hb d_Pg_putUnit_5 rfl (lv_at hl 0 rfl) ?_
    refine va_get (D := D) (ci := 7) (v := .ref (ad_this_keywords 0)) (C := R_Pg) (T := F_Pg) (N := 5) hx hb hts in_Pg hown hK hP 0 rfl rfl 0 (by decide) (hts (.fieldLink R_Pg 15 R_Pg "keywords" "LStepText$Keywords;") kw2_28) (fun _ h9 => h9) rfl d_Pg_putUnit_6 ?_
    refine lv_sipush (v := (219 : Int32)) hx hb d_Pg_putUnit_9 (by decide) ?_
    refine lv_iload_n hx hb d_Pg_putUnit_12 rfl (lv_at hl 1 rfl) ?_
    refine lv_iadd hx hb d_Pg_putUnit_13 ?_
    refine lv_iconst (v := (1 : Int32)) hx hb d_Pg_putUnit_14 (by decide) ?_
    refine lv_isub hx hb d_Pg_putUnit_15 ?_
    refine xq_go (wr := w_Pg k ad_this (ad_this_keywords 0) q_this_names q_this_nodes z_this) (stk := fun r => .long r :: [.ref (ad_this 0)]) (xq_runV (As := [.int (((219 : Int32) + a1) - (1 : Int32))]) (rest := [.ref (ad_this 0)]) ⟨hx, hb, hml, hown, hts⟩ (c_Kw_lettersOf (l := l) (o := o) (D := D) (k := k) (ad_this := ad_this_keywords) hw) (cw_Kw_lettersOf hts kw4_66 ⟨Nat.le_of_ble_eq_true rfl, Nat.le_of_ble_eq_true rfl⟩) (va_recv hK hP (ci := 1) (q0 := 2) rfl rfl) (hP.sub [2, 3] rfl) hK hJ hS (va_free hD hS hA [2, 3] rfl) ((hD.sub [2, 3] (by decide) rfl).weaken (fun _ _ _ _ => trivial)) rfl hl.1 (Nat.le_of_ble_eq_true rfl) d_Pg_putUnit_16 ⟨Nat.le_of_ble_eq_true rfl, Nat.le_of_ble_eq_true rfl⟩) hP hD hS hA [2, 3] [0, 1] rfl rfl (by decide) (by decide) (fun _ => rfl) (fun r1 u1 H locs hw hP hD hS => ?_) (fun _ _ _ _ h9 => h9.elim)
    have hP : va_P D vwCl (w_Pg k ad_this (ad_this_keywords 0) q_this_names q_this_nodes z_this ++ w_Kw k ad_this_keywords z_this_keywords) H := hP.sub [0, 1, 2, 3] rfl
    have hD : va_D A (w_Pg k ad_this (ad_this_keywords 0) q_this_names q_this_nodes z_this ++ w_Kw k ad_this_keywords z_this_keywords) := hD.sub [0, 1, 2, 3] (by decide) rfl
    refine xq_go (wr := w_Kw k ad_this_keywords z_this_keywords) (stk := fun _ => []) (xq_runV (As := [.long r1]) (rest := []) ⟨hx, hb, hml, hown, hts⟩ (c_Pg_putLetters (l := l) (o := o) (D := D) (k := k) (ad_this := ad_this) (q_this_keywords := (ad_this_keywords 0)) (q_this_names := q_this_names) (q_this_nodes := q_this_nodes) hw) (cw_Pg_putLetters hts kw4_70 ⟨Nat.le_of_ble_eq_true rfl, Nat.le_of_ble_eq_true rfl⟩) (va_recv hK hP (ci := 7) (q0 := 0) rfl rfl) (hP.sub [0, 1] rfl) hK hJ hS (va_free hD hS hA [0, 1] rfl) ((hD.sub [0, 1] (by decide) rfl).weaken (fun _ _ _ _ => trivial)) rfl hl.1 (Nat.le_of_ble_eq_true rfl) d_Pg_putUnit_19 ⟨Nat.le_of_ble_eq_true rfl, Nat.le_of_ble_eq_true rfl⟩) hP hD hS hA [0, 1] [2, 3] rfl rfl (by decide) (by decide) (fun _ => rfl) (fun r2 u2 H locs hw hP hD hS => ?_) (fun _ _ _ _ h9 => h9.elim)
    have hP : va_P D vwCl (w_Pg k ad_this (ad_this_keywords 0) q_this_names q_this_nodes u2 ++ w_Kw k ad_this_keywords z_this_keywords) H := hP.sub [2, 3, 0, 1] rfl
    have hD : va_D A (w_Pg k ad_this (ad_this_keywords 0) q_this_names q_this_nodes u2 ++ w_Kw k ad_this_keywords z_this_keywords) := hD.sub [2, 3, 0, 1] (by decide) rfl
    exact xq_vret (r := ()) (u := u2) hx hb hr hlocks hAe hP hD hS rfl hw (Nat.le_of_ble_eq_true rfl) (Nat.le_of_ble_eq_true rfl) d_Pg_putUnit_22
theorem cw_Pg_putUnit {R : Room} {s : State} {args : Array Value} {own : String} {index : Nat} (hts : ∀ w ∈ xq_W, w.before args s = true) (hl : .methodLink own index y_Pg_putUnit ∈ xq_W) {rm : Room} (hR : rm.frames + 1 ≤ R.frames ∧ 8 + (2 + 11) + rm.locals ≤ R.locals) : CallW R s args own "StepText$Page" index y_Pg_putUnit prog_6_method_18_code 2 none (.code y_Pg_putUnit prog_6_method_18_code 2 none :: xq_W) rm rm.cells rm.slots 1 := ⟨xq_cb 1 hts kw4_65 kw1_12 hl ⟨by decide, by decide, by decide +kernel⟩ hR, hts _ kw4_64, hts _ kp3_9⟩
def y_Pg_putSign : MethodName := ⟨"StepText$Page", "putSign", "(C)V"⟩
theorem d_Pg_putSign_0 : decode prog_6_method_17_code 0 = .ok (.aload_n 0, 1) := by decide +kernel
theorem d_Pg_putSign_1 : decode prog_6_method_17_code 1 = .ok (.invokevirtual 147, 3) := by decide +kernel
theorem d_Pg_putSign_4 : decode prog_6_method_17_code 4 = .ok (.aload_n 0, 1) := by decide +kernel
theorem d_Pg_putSign_5 : decode prog_6_method_17_code 5 = .ok (.iload_n 1, 1) := by decide +kernel
theorem d_Pg_putSign_6 : decode prog_6_method_17_code 6 = .ok (.invokevirtual 144, 3) := by decide +kernel
theorem d_Pg_putSign_9 : decode prog_6_method_17_code 9 = .ok (.return_, 1) := by decide +kernel
def wp_Pg_putSign (z_this : T_Pg) (a1 : Int32) (post : Unit → T_Pg → Prop) : Prop := wp_Pg_beginWord z_this (fun (r1 : Unit) (u1 : T_Pg) => wp_Pg_put u1 a1 (fun (r2 : Unit) (u2 : T_Pg) => post () u2))
def rm_Pg_putSign : Room := { frames := 2, cells := 0, slots := 0, locals := 41 }
set_option maxHeartbeats 4000000 in
set_option maxRecDepth 100000 in
theorem c_Pg_putSign {l : Launch} {o : State × Array Value} {D : va_G} {k : Nat → ClassId} {ad_this : Nat → Nat} {q_this_keywords : Nat} {q_this_names : Nat} {q_this_nodes : Nat} {z_this : T_Pg} {a1 : Int32} {post : Unit → T_Pg → Prop} (hw : wp_Pg_putSign z_this a1 post) : xq_C l o y_Pg_putSign (.code y_Pg_putSign prog_6_method_17_code 2 none :: xq_W) rm_Pg_putSign D vwCl (xt k) [.ref (ad_this 0), .int a1] (w_Pg k ad_this q_this_keywords q_this_names q_this_nodes z_this) (fun _ : Unit => none) post (fun _ : T_Pg => False) (fun u : T_Pg => w_Pg k ad_this q_this_keywords q_this_names q_this_nodes u) 0 0 0 0 := by
  refine xq_ofW (cc := prog_6_method_17_code) (maxL := 2) (ret := none) (by decide) rfl (Nat.le_of_ble_eq_true rfl) ?_
  intro p e s m below meth c ls H locs A hAt hAe hA hl hK hJ hP0 hP hD hS
  obtain ⟨hx, hb, hml, hr, hlocks, hown, hts, hex, hnm⟩ := id hAt
  have hl : lv_has ls 2 [(0, .ref (ad_this 0)), (1, .int a1)] := hl
  unfold wp_Pg_putSign at hw
  refine lv_aload_n hx hb d_Pg_putSign_0 rfl (lv_at hl 0 rfl) ?_
  refine xq_go (wr := ([] : va_W)) (stk := fun _ => []) (xq_runV (As := []) (rest := []) ⟨hx, hb, hml, hown, hts⟩ (c_Pg_beginWord (l := l) (o := o) (D := D) (k := k) (ad_this := ad_this) (q_this_keywords := q_this_keywords) (q_this_names := q_this_names) (q_this_nodes := q_this_nodes) hw) (cw_Pg_beginWord hts kw4_46 ⟨Nat.le_of_ble_eq_true rfl, Nat.le_of_ble_eq_true rfl⟩) (va_recv hK hP (ci := 7) (q0 := 0) rfl rfl) (hP.sub [0, 1] rfl) hK hJ hS (va_free hD hS hA [0, 1] rfl) ((hD.sub [0, 1] (by decide) rfl).weaken (fun _ _ _ _ => trivial)) rfl hl.1 (Nat.le_of_ble_eq_true rfl) d_Pg_putSign_1 ⟨Nat.le_of_ble_eq_true rfl, Nat.le_of_ble_eq_true rfl⟩) hP hD hS hA [0, 1] [] rfl rfl (by decide) (by decide) (fun _ => rfl) (fun r1 u1 H locs hw hP hD hS => ?_) (fun _ _ _ _ h9 => h9.elim)
  have hP : va_P D vwCl (w_Pg k ad_this q_this_keywords q_this_names q_this_nodes u1) H := hP.sub [0, 1] rfl
  have hD : va_D A (w_Pg k ad_this q_this_keywords q_this_names q_this_nodes u1) := hD.sub [0, 1] (by decide) rfl
  refine lv_aload_n hx hb d_Pg_putSign_4 rfl (lv_at hl 0 rfl) ?_
  refine lv_iload_n hx hb d_Pg_putSign_5 rfl (lv_at hl 1 rfl) ?_
  refine xq_go (wr := ([] : va_W)) (stk := fun _ => []) (xq_runV (As := [.int a1]) (rest := []) ⟨hx, hb, hml, hown, hts⟩ (c_Pg_put (l := l) (o := o) (D := D) (k := k) (ad_this := ad_this) (q_this_keywords := q_this_keywords) (q_this_names := q_this_names) (q_this_nodes := q_this_nodes) hw) (cw_Pg_put hts kw4_54 ⟨Nat.le_of_ble_eq_true rfl, Nat.le_of_ble_eq_true rfl⟩) (va_recv hK hP (ci := 7) (q0 := 0) rfl rfl) (hP.sub [0, 1] rfl) hK hJ hS (va_free hD hS hA [0, 1] rfl) ((hD.sub [0, 1] (by decide) rfl).weaken (fun _ _ _ _ => trivial)) rfl hl.1 (Nat.le_of_ble_eq_true rfl) d_Pg_putSign_6 ⟨Nat.le_of_ble_eq_true rfl, Nat.le_of_ble_eq_true rfl⟩) hP hD hS hA [0, 1] [] rfl rfl (by decide) (by decide) (fun _ => rfl) (fun r2 u2 H locs hw hP hD hS => ?_) (fun _ _ _ _ h9 => h9.elim)
  have hP : va_P D vwCl (w_Pg k ad_this q_this_keywords q_this_names q_this_nodes u2) H := hP.sub [0, 1] rfl
  have hD : va_D A (w_Pg k ad_this q_this_keywords q_this_names q_this_nodes u2) := hD.sub [0, 1] (by decide) rfl
  exact xq_vret (r := ()) (u := u2) hx hb hr hlocks hAe hP hD hS rfl hw (Nat.le_of_ble_eq_true rfl) (Nat.le_of_ble_eq_true rfl) d_Pg_putSign_9
theorem cw_Pg_putSign {R : Room} {s : State} {args : Array Value} {own : String} {index : Nat} (hts : ∀ w ∈ xq_W, w.before args s = true) (hl : .methodLink own index y_Pg_putSign ∈ xq_W) {rm : Room} (hR : rm.frames + 1 ≤ R.frames ∧ 8 + (2 + 11) + rm.locals ≤ R.locals) : CallW R s args own "StepText$Page" index y_Pg_putSign prog_6_method_17_code 2 none (.code y_Pg_putSign prog_6_method_17_code 2 none :: xq_W) rm rm.cells rm.slots 1 := ⟨xq_cb 1 hts kw4_86 kw1_12 hl ⟨by decide, by decide, by decide +kernel⟩ hR, hts _ kw4_85, hts _ kp3_11⟩
def y_Pg_beginLine : MethodName := ⟨"StepText$Page", "beginLine", "()V"⟩
theorem d_Pg_beginLine_0 : decode prog_6_method_14_code 0 = .ok (.aload_n 0, 1) := by decide +kernel
theorem d_Pg_beginLine_1 : decode prog_6_method_14_code 1 = .ok (.invokevirtual 140, 3) := by decide +kernel
theorem d_Pg_beginLine_4 : decode prog_6_method_14_code 4 = .ok (.ifCond .eq 9, 3) := by decide +kernel
theorem d_Pg_beginLine_7 : decode prog_6_method_14_code 7 = .ok (.aload_n 0, 1) := by decide +kernel
theorem d_Pg_beginLine_8 : decode prog_6_method_14_code 8 = .ok (.bipush 10, 2) := by decide +kernel
theorem d_Pg_beginLine_10 : decode prog_6_method_14_code 10 = .ok (.invokevirtual 144, 3) := by decide +kernel
theorem d_Pg_beginLine_13 : decode prog_6_method_14_code 13 = .ok (.return_, 1) := by decide +kernel
def wp_Pg_beginLine (z_this : T_Pg) (post : Unit → T_Pg → Prop) : Prop := wp_Pg_isInLine z_this (fun (r1 : Int32) (u1 : Unit) => (r1 = 0 → (post () z_this)) ∧ (¬ r1 = 0 → (wp_Pg_put z_this (10 : Int32) (fun (r2 : Unit) (u2 : T_Pg) => post () u2))))
def rm_Pg_beginLine : Room := { frames := 1, cells := 0, slots := 0, locals := 21 }
set_option maxHeartbeats 4000000 in
set_option maxRecDepth 100000 in
theorem c_Pg_beginLine {l : Launch} {o : State × Array Value} {D : va_G} {k : Nat → ClassId} {ad_this : Nat → Nat} {q_this_keywords : Nat} {q_this_names : Nat} {q_this_nodes : Nat} {z_this : T_Pg} {post : Unit → T_Pg → Prop} (hw : wp_Pg_beginLine z_this post) : xq_C l o y_Pg_beginLine (.code y_Pg_beginLine prog_6_method_14_code 1 none :: xq_W) rm_Pg_beginLine D vwCl (xt k) [.ref (ad_this 0)] (w_Pg k ad_this q_this_keywords q_this_names q_this_nodes z_this) (fun _ : Unit => none) post (fun _ : T_Pg => False) (fun u : T_Pg => w_Pg k ad_this q_this_keywords q_this_names q_this_nodes u) 0 0 0 0 := by
  refine xq_ofW (cc := prog_6_method_14_code) (maxL := 1) (ret := none) (by decide) rfl (Nat.le_of_ble_eq_true rfl) ?_
  intro p e s m below meth c ls H locs A hAt hAe hA hl hK hJ hP0 hP hD hS
  obtain ⟨hx, hb, hml, hr, hlocks, hown, hts, hex, hnm⟩ := id hAt
  have hl : lv_has ls 1 [(0, .ref (ad_this 0))] := hl
  unfold wp_Pg_beginLine at hw
  refine lv_aload_n hx hb d_Pg_beginLine_0 rfl (lv_at hl 0 rfl) ?_
  refine xq_go (wr := ([] : va_W)) (stk := fun r => .int r :: []) (xq_runV (As := []) (rest := []) ⟨hx, hb, hml, hown, hts⟩ (c_Pg_isInLine (l := l) (o := o) (D := D) (k := k) (ad_this := ad_this) (q_this_keywords := q_this_keywords) (q_this_names := q_this_names) (q_this_nodes := q_this_nodes) hw) (cw_Pg_isInLine hts kw4_50 ⟨Nat.le_of_ble_eq_true rfl, Nat.le_of_ble_eq_true rfl⟩) (va_recv hK hP (ci := 7) (q0 := 0) rfl rfl) (hP.sub [0, 1] rfl) hK hJ hS (va_free hD hS hA [0, 1] rfl) ((hD.sub [0, 1] (by decide) rfl).weaken (fun _ _ _ _ => trivial)) rfl hl.1 (Nat.le_of_ble_eq_true rfl) d_Pg_beginLine_1 ⟨Nat.le_of_ble_eq_true rfl, Nat.le_of_ble_eq_true rfl⟩) hP hD hS hA [0, 1] [] rfl rfl (by decide) (by decide) (fun _ => rfl) (fun r1 u1 H locs hw hP hD hS => ?_) (fun _ _ _ _ h9 => h9.elim)
  have hP : va_P D vwCl (w_Pg k ad_this q_this_keywords q_this_names q_this_nodes z_this) H := hP.sub [0, 1] rfl
  have hD : va_D A (w_Pg k ad_this q_this_keywords q_this_names q_this_nodes z_this) := hD.sub [0, 1] (by decide) rfl
  refine lv_if_eq (tgt := 13) hx hb d_Pg_beginLine_4 (by decide) (fun hc => ?_) (fun hc => ?_)
  · have hw := hw.1 hc
    exact xq_vret (r := ()) (u := z_this) hx hb hr hlocks hAe hP hD hS rfl hw (Nat.le_of_ble_eq_true rfl) (Nat.le_of_ble_eq_true rfl) d_Pg_beginLine_13
  · have hw := hw.2 hc
    refine lv_aload_n hx hb d_Pg_beginLine_7 rfl (lv_at hl 0 rfl) ?_
    refine lv_bipush (v := (10 : Int32)) hx hb d_Pg_beginLine_8 (by decide) ?_
    refine xq_go (wr := ([] : va_W)) (stk := fun _ => []) (xq_runV (As := [.int (10 : Int32)]) (rest := []) ⟨hx, hb, hml, hown, hts⟩ (c_Pg_put (l := l) (o := o) (D := D) (k := k) (ad_this := ad_this) (q_this_keywords := q_this_keywords) (q_this_names := q_this_names) (q_this_nodes := q_this_nodes) hw) (cw_Pg_put hts kw4_54 ⟨Nat.le_of_ble_eq_true rfl, Nat.le_of_ble_eq_true rfl⟩) (va_recv hK hP (ci := 7) (q0 := 0) rfl rfl) (hP.sub [0, 1] rfl) hK hJ hS (va_free hD hS hA [0, 1] rfl) ((hD.sub [0, 1] (by decide) rfl).weaken (fun _ _ _ _ => trivial)) rfl hl.1 (Nat.le_of_ble_eq_true rfl) d_Pg_beginLine_10 ⟨Nat.le_of_ble_eq_true rfl, Nat.le_of_ble_eq_true rfl⟩) hP hD hS hA [0, 1] [] rfl rfl (by decide) (by decide) (fun _ => rfl) (fun r2 u2 H locs hw hP hD hS => ?_) (fun _ _ _ _ h9 => h9.elim)
    have hP : va_P D vwCl (w_Pg k ad_this q_this_keywords q_this_names q_this_nodes u2) H := hP.sub [0, 1] rfl
    have hD : va_D A (w_Pg k ad_this q_this_keywords q_this_names q_this_nodes u2) := hD.sub [0, 1] (by decide) rfl
    exact xq_vret (r := ()) (u := u2) hx hb hr hlocks hAe hP hD hS rfl hw (Nat.le_of_ble_eq_true rfl) (Nat.le_of_ble_eq_true rfl) d_Pg_beginLine_13
theorem cw_Pg_beginLine {R : Room} {s : State} {args : Array Value} {own : String} {index : Nat} (hts : ∀ w ∈ xq_W, w.before args s = true) (hl : .methodLink own index y_Pg_beginLine ∈ xq_W) {rm : Room} (hR : rm.frames + 1 ≤ R.frames ∧ 8 + (1 + 11) + rm.locals ≤ R.locals) : CallW R s args own "StepText$Page" index y_Pg_beginLine prog_6_method_14_code 1 none (.code y_Pg_beginLine prog_6_method_14_code 1 none :: xq_W) rm rm.cells rm.slots 0 := ⟨xq_cb 0 hts kw4_94 kw1_12 hl ⟨by decide, by decide, by decide +kernel⟩ hR, hts _ kw4_93, hts _ kp3_13⟩
def y_Pg_beginStatement : MethodName := ⟨"StepText$Page", "beginStatement", "(I)V"⟩
theorem d_Pg_beginStatement_0 : decode prog_6_method_8_code 0 = .ok (.aload_n 0, 1) := by decide +kernel
theorem d_Pg_beginStatement_1 : decode prog_6_method_8_code 1 = .ok (.getfield 32, 3) := by decide +kernel
theorem d_Pg_beginStatement_4 : decode prog_6_method_8_code 4 = .ok (.iload_n 1, 1) := by decide +kernel
theorem d_Pg_beginStatement_5 : decode prog_6_method_8_code 5 = .ok (.invokevirtual 104, 3) := by decide +kernel
theorem d_Pg_beginStatement_8 : decode prog_6_method_8_code 8 = .ok (.istore_n 2, 1) := by decide +kernel
theorem d_Pg_beginStatement_9 : decode prog_6_method_8_code 9 = .ok (.aload_n 0, 1) := by decide +kernel
theorem d_Pg_beginStatement_10 : decode prog_6_method_8_code 10 = .ok (.invokevirtual 66, 3) := by decide +kernel
theorem d_Pg_beginStatement_13 : decode prog_6_method_8_code 13 = .ok (.aload_n 0, 1) := by decide +kernel
theorem d_Pg_beginStatement_14 : decode prog_6_method_8_code 14 = .ok (.aload_n 0, 1) := by decide +kernel
theorem d_Pg_beginStatement_15 : decode prog_6_method_8_code 15 = .ok (.getfield 15, 3) := by decide +kernel
theorem d_Pg_beginStatement_18 : decode prog_6_method_8_code 18 = .ok (.iload_n 2, 1) := by decide +kernel
theorem d_Pg_beginStatement_19 : decode prog_6_method_8_code 19 = .ok (.bipush 24, 2) := by decide +kernel
theorem d_Pg_beginStatement_21 : decode prog_6_method_8_code 21 = .ok (.if_icmp .ne 9, 3) := by decide +kernel
theorem d_Pg_beginStatement_24 : decode prog_6_method_8_code 24 = .ok (.sipush 215, 3) := by decide +kernel
theorem d_Pg_beginStatement_27 : decode prog_6_method_8_code 27 = .ok (.goto 11, 3) := by decide +kernel
theorem d_Pg_beginStatement_30 : decode prog_6_method_8_code 30 = .ok (.iload_n 2, 1) := by decide +kernel
theorem d_Pg_beginStatement_31 : decode prog_6_method_8_code 31 = .ok (.bipush 10, 2) := by decide +kernel
theorem d_Pg_beginStatement_33 : decode prog_6_method_8_code 33 = .ok (.isub, 1) := by decide +kernel
theorem d_Pg_beginStatement_34 : decode prog_6_method_8_code 34 = .ok (.sipush 200, 3) := by decide +kernel
theorem d_Pg_beginStatement_37 : decode prog_6_method_8_code 37 = .ok (.iadd, 1) := by decide +kernel
theorem d_Pg_beginStatement_38 : decode prog_6_method_8_code 38 = .ok (.invokevirtual 69, 3) := by decide +kernel
theorem d_Pg_beginStatement_41 : decode prog_6_method_8_code 41 = .ok (.invokevirtual 73, 3) := by decide +kernel
theorem d_Pg_beginStatement_44 : decode prog_6_method_8_code 44 = .ok (.iload_n 2, 1) := by decide +kernel
theorem d_Pg_beginStatement_45 : decode prog_6_method_8_code 45 = .ok (.tableswitch 116 10 24 #[75, 116, 116, 75, 116, 116, 116, 116, 75, 75, 116, 116, 97, 116, 75], 75) := by decide +kernel
theorem d_Pg_beginStatement_120 : decode prog_6_method_8_code 120 = .ok (.aload_n 0, 1) := by decide +kernel
theorem d_Pg_beginStatement_121 : decode prog_6_method_8_code 121 = .ok (.aload_n 0, 1) := by decide +kernel
theorem d_Pg_beginStatement_122 : decode prog_6_method_8_code 122 = .ok (.getfield 25, 3) := by decide +kernel
theorem d_Pg_beginStatement_125 : decode prog_6_method_8_code 125 = .ok (.aload_n 0, 1) := by decide +kernel
theorem d_Pg_beginStatement_126 : decode prog_6_method_8_code 126 = .ok (.getfield 32, 3) := by decide +kernel
theorem d_Pg_beginStatement_129 : decode prog_6_method_8_code 129 = .ok (.iload_n 1, 1) := by decide +kernel
theorem d_Pg_beginStatement_130 : decode prog_6_method_8_code 130 = .ok (.invokevirtual 114, 3) := by decide +kernel
theorem d_Pg_beginStatement_133 : decode prog_6_method_8_code 133 = .ok (.invokevirtual 77, 3) := by decide +kernel
theorem d_Pg_beginStatement_136 : decode prog_6_method_8_code 136 = .ok (.invokevirtual 73, 3) := by decide +kernel
theorem d_Pg_beginStatement_139 : decode prog_6_method_8_code 139 = .ok (.goto 22, 3) := by decide +kernel
theorem d_Pg_beginStatement_142 : decode prog_6_method_8_code 142 = .ok (.aload_n 0, 1) := by decide +kernel
theorem d_Pg_beginStatement_143 : decode prog_6_method_8_code 143 = .ok (.aload_n 0, 1) := by decide +kernel
theorem d_Pg_beginStatement_144 : decode prog_6_method_8_code 144 = .ok (.getfield 32, 3) := by decide +kernel
theorem d_Pg_beginStatement_147 : decode prog_6_method_8_code 147 = .ok (.iload_n 1, 1) := by decide +kernel
theorem d_Pg_beginStatement_148 : decode prog_6_method_8_code 148 = .ok (.invokevirtual 107, 3) := by decide +kernel
theorem d_Pg_beginStatement_151 : decode prog_6_method_8_code 151 = .ok (.ldc2_w 124, 3) := by decide +kernel
theorem d_Pg_beginStatement_154 : decode prog_6_method_8_code 154 = .ok (.lmul, 1) := by decide +kernel
theorem d_Pg_beginStatement_155 : decode prog_6_method_8_code 155 = .ok (.invokevirtual 110, 3) := by decide +kernel
theorem d_Pg_beginStatement_158 : decode prog_6_method_8_code 158 = .ok (.goto 3, 3) := by decide +kernel
theorem d_Pg_beginStatement_161 : decode prog_6_method_8_code 161 = .ok (.return_, 1) := by decide +kernel
def wp_Pg_beginStatement (z_this : T_Pg) (z_this_keywords : T_Kw) (z_this_names : T_Nm) (z_this_nodes : T_Nd) (a1 : Int32) (post : Unit → T_Pg → Prop) : Prop := wp_Nd_kindOf z_this_nodes a1 (fun (r1 : Int32) (u1 : Unit) => wp_Pg_beginLine z_this (fun (r2 : Unit) (u2 : T_Pg) => (r1 = (24 : Int32) → (wp_Kw_lettersOf z_this_keywords (215 : Int32) (fun (r22 : Int64) (u22 : Unit) => wp_Pg_putLetters u2 r22 (fun (r23 : Unit) (u23 : T_Pg) => (r1 = (10 : Int32) → (wp_Nd_subjectOf z_this_nodes a1 (fun (r24 : Int32) (u24 : Unit) => wp_Nm_lettersOf z_this_names r24 (fun (r25 : Int64) (u25 : Unit) => wp_Pg_putLetters u23 r25 (fun (r26 : Unit) (u26 : T_Pg) => post () u26))))) ∧ (r1 = (13 : Int32) → (wp_Nd_subjectOf z_this_nodes a1 (fun (r27 : Int32) (u27 : Unit) => wp_Nm_lettersOf z_this_names r27 (fun (r28 : Int64) (u28 : Unit) => wp_Pg_putLetters u23 r28 (fun (r29 : Unit) (u29 : T_Pg) => post () u29))))) ∧ (r1 = (18 : Int32) → (wp_Nd_subjectOf z_this_nodes a1 (fun (r30 : Int32) (u30 : Unit) => wp_Nm_lettersOf z_this_names r30 (fun (r31 : Int64) (u31 : Unit) => wp_Pg_putLetters u23 r31 (fun (r32 : Unit) (u32 : T_Pg) => post () u32))))) ∧ (r1 = (19 : Int32) → (wp_Nd_subjectOf z_this_nodes a1 (fun (r33 : Int32) (u33 : Unit) => wp_Nm_lettersOf z_this_names r33 (fun (r34 : Int64) (u34 : Unit) => wp_Pg_putLetters u23 r34 (fun (r35 : Unit) (u35 : T_Pg) => post () u35))))) ∧ (r1 = (22 : Int32) → (wp_Nd_valueOf z_this_nodes a1 (fun (r36 : Int64) (u36 : Unit) => wp_Pg_putAmount u23 (r36 * (1000 : Int64)) (fun (r37 : Unit) (u37 : T_Pg) => post () u37)))) ∧ (r1 = (24 : Int32) → (wp_Nd_subjectOf z_this_nodes a1 (fun (r38 : Int32) (u38 : Unit) => wp_Nm_lettersOf z_this_names r38 (fun (r39 : Int64) (u39 : Unit) => wp_Pg_putLetters u23 r39 (fun (r40 : Unit) (u40 : T_Pg) => post () u40))))) ∧ (¬ r1 = (10 : Int32) ∧ ¬ r1 = (13 : Int32) ∧ ¬ r1 = (18 : Int32) ∧ ¬ r1 = (19 : Int32) ∧ ¬ r1 = (22 : Int32) ∧ ¬ r1 = (24 : Int32) → (post () u23)))))) ∧ (¬ r1 = (24 : Int32) → (wp_Kw_lettersOf z_this_keywords ((r1 - (10 : Int32)) + (200 : Int32)) (fun (r3 : Int64) (u3 : Unit) => wp_Pg_putLetters u2 r3 (fun (r4 : Unit) (u4 : T_Pg) => (r1 = (10 : Int32) → (wp_Nd_subjectOf z_this_nodes a1 (fun (r5 : Int32) (u5 : Unit) => wp_Nm_lettersOf z_this_names r5 (fun (r6 : Int64) (u6 : Unit) => wp_Pg_putLetters u4 r6 (fun (r7 : Unit) (u7 : T_Pg) => post () u7))))) ∧ (r1 = (13 : Int32) → (wp_Nd_subjectOf z_this_nodes a1 (fun (r8 : Int32) (u8 : Unit) => wp_Nm_lettersOf z_this_names r8 (fun (r9 : Int64) (u9 : Unit) => wp_Pg_putLetters u4 r9 (fun (r10 : Unit) (u10 : T_Pg) => post () u10))))) ∧ (r1 = (18 : Int32) → (wp_Nd_subjectOf z_this_nodes a1 (fun (r11 : Int32) (u11 : Unit) => wp_Nm_lettersOf z_this_names r11 (fun (r12 : Int64) (u12 : Unit) => wp_Pg_putLetters u4 r12 (fun (r13 : Unit) (u13 : T_Pg) => post () u13))))) ∧ (r1 = (19 : Int32) → (wp_Nd_subjectOf z_this_nodes a1 (fun (r14 : Int32) (u14 : Unit) => wp_Nm_lettersOf z_this_names r14 (fun (r15 : Int64) (u15 : Unit) => wp_Pg_putLetters u4 r15 (fun (r16 : Unit) (u16 : T_Pg) => post () u16))))) ∧ (r1 = (22 : Int32) → (wp_Nd_valueOf z_this_nodes a1 (fun (r17 : Int64) (u17 : Unit) => wp_Pg_putAmount u4 (r17 * (1000 : Int64)) (fun (r18 : Unit) (u18 : T_Pg) => post () u18)))) ∧ (r1 = (24 : Int32) → (wp_Nd_subjectOf z_this_nodes a1 (fun (r19 : Int32) (u19 : Unit) => wp_Nm_lettersOf z_this_names r19 (fun (r20 : Int64) (u20 : Unit) => wp_Pg_putLetters u4 r20 (fun (r21 : Unit) (u21 : T_Pg) => post () u21))))) ∧ (¬ r1 = (10 : Int32) ∧ ¬ r1 = (13 : Int32) ∧ ¬ r1 = (18 : Int32) ∧ ¬ r1 = (19 : Int32) ∧ ¬ r1 = (22 : Int32) ∧ ¬ r1 = (24 : Int32) → (post () u4))))))))
def rm_Pg_beginStatement : Room := { frames := 3, cells := 0, slots := 0, locals := 67 }
set_option maxHeartbeats 4000000 in
set_option maxRecDepth 100000 in
theorem c_Pg_beginStatement {l : Launch} {o : State × Array Value} {D : va_G} {k : Nat → ClassId} {ad_this : Nat → Nat} {ad_this_keywords : Nat → Nat} {ad_this_names : Nat → Nat} {ad_this_nodes : Nat → Nat} {z_this : T_Pg} {z_this_keywords : T_Kw} {z_this_names : T_Nm} {z_this_nodes : T_Nd} {a1 : Int32} {post : Unit → T_Pg → Prop} (hw : wp_Pg_beginStatement z_this z_this_keywords z_this_names z_this_nodes a1 post) : xq_C l o y_Pg_beginStatement (.code y_Pg_beginStatement prog_6_method_8_code 3 none :: xq_W) rm_Pg_beginStatement D vwCl (xt k) [.ref (ad_this 0), .int a1] (w_Pg k ad_this (ad_this_keywords 0) (ad_this_names 0) (ad_this_nodes 0) z_this ++ w_Kw k ad_this_keywords z_this_keywords ++ w_Nm k ad_this_names z_this_names ++ w_Nd k ad_this_nodes z_this_nodes) (fun _ : Unit => none) post (fun _ : T_Pg => False) (fun u : T_Pg => w_Pg k ad_this (ad_this_keywords 0) (ad_this_names 0) (ad_this_nodes 0) u ++ w_Kw k ad_this_keywords z_this_keywords ++ w_Nm k ad_this_names z_this_names ++ w_Nd k ad_this_nodes z_this_nodes) 0 0 0 0 := by
  refine xq_ofW (cc := prog_6_method_8_code) (maxL := 3) (ret := none) (by decide) rfl (Nat.le_of_ble_eq_true rfl) ?_
  intro p e s m below meth c ls H locs A hAt hAe hA hl hK hJ hP0 hP hD hS
  obtain ⟨hx, hb, hml, hr, hlocks, hown, hts, hex, hnm⟩ := id hAt
  have hl : lv_has ls 3 [(0, .ref (ad_this 0)), (1, .int a1)] := hl
  unfold wp_Pg_beginStatement at hw
  refine lv_aload_n hx hb d_Pg_beginStatement_0 rfl (lv_at hl 0 rfl) ?_
  refine va_get (D := D) (ci := 7) (v := .ref (ad_this_nodes 0)) (C := R_Pg) (T := F_Pg) (N := 5) hx hb hts in_Pg hown hK hP 0 rfl rfl 4 (by decide) (hts (.fieldLink R_Pg 32 R_Pg "nodes" "LStepText$Nodes;") kw2_32) (fun _ h9 => h9) rfl d_Pg_beginStatement_1 ?_
  refine lv_iload_n hx hb d_Pg_beginStatement_4 rfl (lv_at hl 1 rfl) ?_
  refine xq_go (wr := w_Pg k ad_this (ad_this_keywords 0) (ad_this_names 0) (ad_this_nodes 0) z_this ++ w_Kw k ad_this_keywords z_this_keywords ++ w_Nm k ad_this_names z_this_names) (stk := fun r => .int r :: []) (xq_runV (As := [.int a1]) (rest := []) ⟨hx, hb, hml, hown, hts⟩ (c_Nd_kindOf (l := l) (o := o) (D := D) (k := k) (ad_this := ad_this_nodes) hw) (cw_Nd_kindOf hts kw4_40 ⟨Nat.le_of_ble_eq_true rfl, Nat.le_of_ble_eq_true rfl⟩) (va_recv hK hP (ci := 4) (q0 := 9) rfl rfl) (hP.sub [9, 10, 11, 12, 13, 14, 15, 16, 17, 18, 19] rfl) hK hJ hS (va_free hD hS hA [9, 10, 11, 12, 13, 14, 15, 16, 17, 18, 19] rfl) ((hD.sub [9, 10, 11, 12, 13, 14, 15, 16, 17, 18, 19] (by decide) rfl).weaken (fun _ _ _ _ => trivial)) rfl hl.1 (Nat.le_of_ble_eq_true rfl) d_Pg_beginStatement_5 ⟨Nat.le_of_ble_eq_true rfl, Nat.le_of_ble_eq_true rfl⟩) hP hD hS hA [9, 10, 11, 12, 13, 14, 15, 16, 17, 18, 19] [0, 1, 2, 3, 4, 5, 6, 7, 8] rfl rfl (by decide) (by decide) (fun _ => rfl) (fun r1 u1 H locs hw hP hD hS => ?_) (fun _ _ _ _ h9 => h9.elim)
  have hP : va_P D vwCl (w_Pg k ad_this (ad_this_keywords 0) (ad_this_names 0) (ad_this_nodes 0) z_this ++ w_Kw k ad_this_keywords z_this_keywords ++ w_Nm k ad_this_names z_this_names ++ w_Nd k ad_this_nodes z_this_nodes) H := hP.sub [0, 1, 2, 3, 4, 5, 6, 7, 8, 9, 10, 11, 12, 13, 14, 15, 16, 17, 18, 19] rfl
  have hD : va_D A (w_Pg k ad_this (ad_this_keywords 0) (ad_this_names 0) (ad_this_nodes 0) z_this ++ w_Kw k ad_this_keywords z_this_keywords ++ w_Nm k ad_this_names z_this_names ++ w_Nd k ad_this_nodes z_this_nodes) := hD.sub [0, 1, 2, 3, 4, 5, 6, 7, 8, 9, 10, 11, 12, 13, 14, 15, 16, 17, 18, 19] (by decide) rfl
  refine lv_istore_n (lv' := [(2, .int r1), (0, .ref (ad_this 0)), (1, .int a1)]) hx hb d_Pg_beginStatement_8 rfl hl (by decide) rfl (fun ls hl => ?_)
  refine lv_aload_n hx hb d_Pg_beginStatement_9 rfl (lv_at hl 1 rfl) ?_
  refine xq_go (wr := w_Kw k ad_this_keywords z_this_keywords ++ w_Nm k ad_this_names z_this_names ++ w_Nd k ad_this_nodes z_this_nodes) (stk := fun _ => []) (xq_runV (As := []) (rest := []) ⟨hx, hb, hml, hown, hts⟩ (c_Pg_beginLine (l := l) (o := o) (D := D) (k := k) (ad_this := ad_this) (q_this_keywords := (ad_this_keywords 0)) (q_this_names := (ad_this_names 0)) (q_this_nodes := (ad_this_nodes 0)) hw) (cw_Pg_beginLine hts kw4_91 ⟨Nat.le_of_ble_eq_true rfl, Nat.le_of_ble_eq_true rfl⟩) (va_recv hK hP (ci := 7) (q0 := 0) rfl rfl) (hP.sub [0, 1] rfl) hK hJ hS (va_free hD hS hA [0, 1] rfl) ((hD.sub [0, 1] (by decide) rfl).weaken (fun _ _ _ _ => trivial)) rfl hl.1 (Nat.le_of_ble_eq_true rfl) d_Pg_beginStatement_10 ⟨Nat.le_of_ble_eq_true rfl, Nat.le_of_ble_eq_true rfl⟩) hP hD hS hA [0, 1] [2, 3, 4, 5, 6, 7, 8, 9, 10, 11, 12, 13, 14, 15, 16, 17, 18, 19] rfl rfl (by decide) (by decide) (fun _ => rfl) (fun r2 u2 H locs hw hP hD hS => ?_) (fun _ _ _ _ h9 => h9.elim)
  have hP : va_P D vwCl (w_Pg k ad_this (ad_this_keywords 0) (ad_this_names 0) (ad_this_nodes 0) u2 ++ w_Kw k ad_this_keywords z_this_keywords ++ w_Nm k ad_this_names z_this_names ++ w_Nd k ad_this_nodes z_this_nodes) H := hP.sub [18, 19, 0, 1, 2, 3, 4, 5, 6, 7, 8, 9, 10, 11, 12, 13, 14, 15, 16, 17] rfl
  have hD : va_D A (w_Pg k ad_this (ad_this_keywords 0) (ad_this_names 0) (ad_this_nodes 0) u2 ++ w_Kw k ad_this_keywords z_this_keywords ++ w_Nm k ad_this_names z_this_names ++ w_Nd k ad_this_nodes z_this_nodes) := hD.sub [18, 19, 0, 1, 2, 3, 4, 5, 6, 7, 8, 9, 10, 11, 12, 13, 14, 15, 16, 17] (by decide) rfl
  refine lv_aload_n hx hb d_Pg_beginStatement_13 rfl (lv_at hl 1 rfl) ?_
  refine lv_aload_n hx hb d_Pg_beginStatement_14 rfl (lv_at hl 1 rfl) ?_
  refine va_get (D := D) (ci := 7) (v := .ref (ad_this_keywords 0)) (C := R_Pg) (T := F_Pg) (N := 5) hx hb hts in_Pg hown hK hP 0 rfl rfl 0 (by decide) (hts (.fieldLink R_Pg 15 R_Pg "keywords" "LStepText$Keywords;") kw2_28) (fun _ h9 => h9) rfl d_Pg_beginStatement_15 ?_
  refine lv_iload_n hx hb d_Pg_beginStatement_18 rfl (lv_at hl 0 rfl) ?_
  refine lv_bipush (v := (24 : Int32)) hx hb d_Pg_beginStatement_19 (by decide) ?_
  refine lv_icmp_ne (tgt := 30) hx hb d_Pg_beginStatement_21 (by decide) (fun hc => ?_) (fun hc => ?_)
  · have hw := hw.2 hc
    refine lv_iload_n hx hb d_Pg_beginStatement_30 rfl (lv_at hl 0 rfl) ?_
    refine lv_bipush (v := (10 : Int32)) hx hb d_Pg_beginStatement_31 (by decide) ?_
    refine lv_isub hx hb d_Pg_beginStatement_33 ?_
    refine lv_sipush (v := (200 : Int32)) hx hb d_Pg_beginStatement_34 (by decide) ?_
    refine lv_iadd hx hb d_Pg_beginStatement_37 ?_
    refine xq_go (wr := w_Pg k ad_this (ad_this_keywords 0) (ad_this_names 0) (ad_this_nodes 0) u2 ++ w_Nm k ad_this_names z_this_names ++ w_Nd k ad_this_nodes z_this_nodes) (stk := fun r => .long r :: [.ref (ad_this 0)]) (xq_runV (As := [.int ((r1 - (10 : Int32)) + (200 : Int32))]) (rest := [.ref (ad_this 0)]) ⟨hx, hb, hml, hown, hts⟩ (c_Kw_lettersOf (l := l) (o := o) (D := D) (k := k) (ad_this := ad_this_keywords) hw) (cw_Kw_lettersOf hts kw4_66 ⟨Nat.le_of_ble_eq_true rfl, Nat.le_of_ble_eq_true rfl⟩) (va_recv hK hP (ci := 1) (q0 := 2) rfl rfl) (hP.sub [2, 3] rfl) hK hJ hS (va_free hD hS hA [2, 3] rfl) ((hD.sub [2, 3] (by decide) rfl).weaken (fun _ _ _ _ => trivial)) rfl hl.1 (Nat.le_of_ble_eq_true rfl) d_Pg_beginStatement_38 ⟨Nat.le_of_ble_eq_true rfl, Nat.le_of_ble_eq_true rfl⟩) hP hD hS hA [2, 3] [0, 1, 4, 5, 6, 7, 8, 9, 10, 11, 12, 13, 14, 15, 16, 17, 18, 19] rfl rfl (by decide) (by decide) (fun _ => rfl) (fun r3 u3 H locs hw hP hD hS => ?_) (fun _ _ _ _ h9 => h9.elim)
    have hP : va_P D vwCl (w_Pg k ad_this (ad_this_keywords 0) (ad_this_names 0) (ad_this_nodes 0) u2 ++ w_Kw k ad_this_keywords z_this_keywords ++ w_Nm k ad_this_names z_this_names ++ w_Nd k ad_this_nodes z_this_nodes) H := hP.sub [0, 1, 18, 19, 2, 3, 4, 5, 6, 7, 8, 9, 10, 11, 12, 13, 14, 15, 16, 17] rfl
    have hD : va_D A (w_Pg k ad_this (ad_this_keywords 0) (ad_this_names 0) (ad_this_nodes 0) u2 ++ w_Kw k ad_this_keywords z_this_keywords ++ w_Nm k ad_this_names z_this_names ++ w_Nd k ad_this_nodes z_this_nodes) := hD.sub [0, 1, 18, 19, 2, 3, 4, 5, 6, 7, 8, 9, 10, 11, 12, 13, 14, 15, 16, 17] (by decide) rfl
    refine xq_go (wr := w_Kw k ad_this_keywords z_this_keywords ++ w_Nm k ad_this_names z_this_names ++ w_Nd k ad_this_nodes z_this_nodes) (stk := fun _ => []) (xq_runV (As := [.long r3]) (rest := []) ⟨hx, hb, hml, hown, hts⟩ (c_Pg_putLetters (l := l) (o := o) (D := D) (k := k) (ad_this := ad_this) (q_this_keywords := (ad_this_keywords 0)) (q_this_names := (ad_this_names 0)) (q_this_nodes := (ad_this_nodes 0)) hw) (cw_Pg_putLetters hts kw4_70 ⟨Nat.le_of_ble_eq_true rfl, Nat.le_of_ble_eq_true rfl⟩) (va_recv hK hP (ci := 7) (q0 := 0) rfl rfl) (hP.sub [0, 1] rfl) hK hJ hS (va_free hD hS hA [0, 1] rfl) ((hD.sub [0, 1] (by decide) rfl).weaken (fun _ _ _ _ => trivial)) rfl hl.1 (Nat.le_of_ble_eq_true rfl) d_Pg_beginStatement_41 ⟨Nat.le_of_ble_eq_true rfl, Nat.le_of_ble_eq_true rfl⟩) hP hD hS hA [0, 1] [2, 3, 4, 5, 6, 7, 8, 9, 10, 11, 12, 13, 14, 15, 16, 17, 18, 19] rfl rfl (by decide) (by decide) (fun _ => rfl) (fun r4 u4 H locs hw hP hD hS => ?_) (fun _ _ _ _ h9 => h9.elim)
    have hP : va_P D vwCl (w_Pg k ad_this (ad_this_keywords 0) (ad_this_names 0) (ad_this_nodes 0) u4 ++ w_Kw k ad_this_keywords z_this_keywords ++ w_Nm k ad_this_names z_this_names ++ w_Nd k ad_this_nodes z_this_nodes) H := hP.sub [18, 19, 0, 1, 2, 3, 4, 5, 6, 7, 8, 9, 10, 11, 12, 13, 14, 15, 16, 17] rfl
    have hD : va_D A (w_Pg k ad_this (ad_this_keywords 0) (ad_this_names 0) (ad_this_nodes 0) u4 ++ w_Kw k ad_this_keywords z_this_keywords ++ w_Nm k ad_this_names z_this_names ++ w_Nd k ad_this_nodes z_this_nodes) := hD.sub [18, 19, 0, 1, 2, 3, 4, 5, 6, 7, 8, 9, 10, 11, 12, 13, 14, 15, 16, 17] (by decide) rfl
    refine lv_iload_n hx hb d_Pg_beginStatement_44 rfl (lv_at hl 0 rfl) ?_
    by_cases hc0 : r1 = (10 : Int32)
    · have hw := hw.1 hc0
      refine W.eq (g2 := F0 m 45 ls ([.int (10 : Int32)])) (by rw [hc0]) ?_
      refine lv_tableIn (tgt := 120) hx hb d_Pg_beginStatement_45 (by decide) (by decide) rfl (by decide) ?_
      refine lv_aload_n hx hb d_Pg_beginStatement_120 rfl (lv_at hl 1 rfl) ?_
      refine lv_aload_n hx hb d_Pg_beginStatement_121 rfl (lv_at hl 1 rfl) ?_
      refine va_get (D := D) (ci := 7) (v := .ref (ad_this_names 0)) (C := R_Pg) (T := F_Pg) (N := 5) hx hb hts in_Pg hown hK hP 0 rfl rfl 3 (by decide) (hts (.fieldLink R_Pg 25 R_Pg "names" "LStepText$Names;") kw2_31) (fun _ h9 => h9) rfl d_Pg_beginStatement_122 ?_
      refine lv_aload_n hx hb d_Pg_beginStatement_125 rfl (lv_at hl 1 rfl) ?_
      refine va_get (D := D) (ci := 7) (v := .ref (ad_this_nodes 0)) (C := R_Pg) (T := F_Pg) (N := 5) hx hb hts in_Pg hown hK hP 0 rfl rfl 4 (by decide) (hts (.fieldLink R_Pg 32 R_Pg "nodes" "LStepText$Nodes;") kw2_32) (fun _ h9 => h9) rfl d_Pg_beginStatement_126 ?_
      refine lv_iload_n hx hb d_Pg_beginStatement_129 rfl (lv_at hl 2 rfl) ?_
      refine xq_go (wr := w_Pg k ad_this (ad_this_keywords 0) (ad_this_names 0) (ad_this_nodes 0) u4 ++ w_Kw k ad_this_keywords z_this_keywords ++ w_Nm k ad_this_names z_this_names) (stk := fun r => .int r :: [.ref (ad_this_names 0), .ref (ad_this 0)]) (xq_runV (As := [.int a1]) (rest := [.ref (ad_this_names 0), .ref (ad_this 0)]) ⟨hx, hb, hml, hown, hts⟩ (c_Nd_subjectOf (l := l) (o := o) (D := D) (k := k) (ad_this := ad_this_nodes) hw) (cw_Nd_subjectOf hts kw4_78 ⟨Nat.le_of_ble_eq_true rfl, Nat.le_of_ble_eq_true rfl⟩) (va_recv hK hP (ci := 4) (q0 := 9) rfl rfl) (hP.sub [9, 10, 11, 12, 13, 14, 15, 16, 17, 18, 19] rfl) hK hJ hS (va_free hD hS hA [9, 10, 11, 12, 13, 14, 15, 16, 17, 18, 19] rfl) ((hD.sub [9, 10, 11, 12, 13, 14, 15, 16, 17, 18, 19] (by decide) rfl).weaken (fun _ _ _ _ => trivial)) rfl hl.1 (Nat.le_of_ble_eq_true rfl) d_Pg_beginStatement_130 ⟨Nat.le_of_ble_eq_true rfl, Nat.le_of_ble_eq_true rfl⟩) hP hD hS hA [9, 10, 11, 12, 13, 14, 15, 16, 17, 18, 19] [0, 1, 2, 3, 4, 5, 6, 7, 8] rfl rfl (by decide) (by decide) (fun _ => rfl) (fun r5 u5 H locs hw hP hD hS => ?_) (fun _ _ _ _ h9 => h9.elim)
      have hP : va_P D vwCl (w_Pg k ad_this (ad_this_keywords 0) (ad_this_names 0) (ad_this_nodes 0) u4 ++ w_Kw k ad_this_keywords z_this_keywords ++ w_Nm k ad_this_names z_this_names ++ w_Nd k ad_this_nodes z_this_nodes) H := hP.sub [0, 1, 2, 3, 4, 5, 6, 7, 8, 9, 10, 11, 12, 13, 14, 15, 16, 17, 18, 19] rfl
      have hD : va_D A (w_Pg k ad_this (ad_this_keywords 0) (ad_this_names 0) (ad_this_nodes 0) u4 ++ w_Kw k ad_this_keywords z_this_keywords ++ w_Nm k ad_this_names z_this_names ++ w_Nd k ad_this_nodes z_this_nodes) := hD.sub [0, 1, 2, 3, 4, 5, 6, 7, 8, 9, 10, 11, 12, 13, 14, 15, 16, 17, 18, 19] (by decide) rfl
      refine xq_go (wr := w_Pg k ad_this (ad_this_keywords 0) (ad_this_names 0) (ad_this_nodes 0) u4 ++ w_Kw k ad_this_keywords z_this_keywords ++ w_Nd k ad_this_nodes z_this_nodes) (stk := fun r => .long r :: [.ref (ad_this 0)]) (xq_runV (As := [.int r5]) (rest := [.ref (ad_this 0)]) ⟨hx, hb, hml, hown, hts⟩ (c_Nm_lettersOf (l := l) (o := o) (D := D) (k := k) (ad_this := ad_this_names) hw) (cw_Nm_lettersOf hts kw4_79 ⟨Nat.le_of_ble_eq_true rfl, Nat.le_of_ble_eq_true rfl⟩) (va_recv hK hP (ci := 3) (q0 := 4) rfl rfl) (hP.sub [4, 5, 6, 7, 8] rfl) hK hJ hS (va_free hD hS hA [4, 5, 6, 7, 8] rfl) ((hD.sub [4, 5, 6, 7, 8] (by decide) rfl).weaken (fun _ _ _ _ => trivial)) rfl hl.1 (Nat.le_of_ble_eq_true rfl) d_Pg_beginStatement_133 ⟨Nat.le_of_ble_eq_true rfl, Nat.le_of_ble_eq_true rfl⟩) hP hD hS hA [4, 5, 6, 7, 8] [0, 1, 2, 3, 9, 10, 11, 12, 13, 14, 15, 16, 17, 18, 19] rfl rfl (by decide) (by decide) (fun _ => rfl) (fun r6 u6 H locs hw hP hD hS => ?_) (fun _ _ _ _ h9 => h9.elim)
      have hP : va_P D vwCl (w_Pg k ad_this (ad_this_keywords 0) (ad_this_names 0) (ad_this_nodes 0) u4 ++ w_Kw k ad_this_keywords z_this_keywords ++ w_Nm k ad_this_names z_this_names ++ w_Nd k ad_this_nodes z_this_nodes) H := hP.sub [0, 1, 2, 3, 15, 16, 17, 18, 19, 4, 5, 6, 7, 8, 9, 10, 11, 12, 13, 14] rfl
      have hD : va_D A (w_Pg k ad_this (ad_this_keywords 0) (ad_this_names 0) (ad_this_nodes 0) u4 ++ w_Kw k ad_this_keywords z_this_keywords ++ w_Nm k ad_this_names z_this_names ++ w_Nd k ad_this_nodes z_this_nodes) := hD.sub [0, 1, 2, 3, 15, 16, 17, 18, 19, 4, 5, 6, 7, 8, 9, 10, 11, 12, 13, 14] (by decide) rfl
      refine xq_go (wr := w_Kw k ad_this_keywords z_this_keywords ++ w_Nm k ad_this_names z_this_names ++ w_Nd k ad_this_nodes z_this_nodes) (stk := fun _ => []) (xq_runV (As := [.long r6]) (rest := []) ⟨hx, hb, hml, hown, hts⟩ (c_Pg_putLetters (l := l) (o := o) (D := D) (k := k) (ad_this := ad_this) (q_this_keywords := (ad_this_keywords 0)) (q_this_names := (ad_this_names 0)) (q_this_nodes := (ad_this_nodes 0)) hw) (cw_Pg_putLetters hts kw4_70 ⟨Nat.le_of_ble_eq_true rfl, Nat.le_of_ble_eq_true rfl⟩) (va_recv hK hP (ci := 7) (q0 := 0) rfl rfl) (hP.sub [0, 1] rfl) hK hJ hS (va_free hD hS hA [0, 1] rfl) ((hD.sub [0, 1] (by decide) rfl).weaken (fun _ _ _ _ => trivial)) rfl hl.1 (Nat.le_of_ble_eq_true rfl) d_Pg_beginStatement_136 ⟨Nat.le_of_ble_eq_true rfl, Nat.le_of_ble_eq_true rfl⟩) hP hD hS hA [0, 1] [2, 3, 4, 5, 6, 7, 8, 9, 10, 11, 12, 13, 14, 15, 16, 17, 18, 19] rfl rfl (by decide) (by decide) (fun _ => rfl) (fun r7 u7 H locs hw hP hD hS => ?_) (fun _ _ _ _ h9 => h9.elim)
      have hP : va_P D vwCl (w_Pg k ad_this (ad_this_keywords 0) (ad_this_names 0) (ad_this_nodes 0) u7 ++ w_Kw k ad_this_keywords z_this_keywords ++ w_Nm k ad_this_names z_this_names ++ w_Nd k ad_this_nodes z_this_nodes) H := hP.sub [18, 19, 0, 1, 2, 3, 4, 5, 6, 7, 8, 9, 10, 11, 12, 13, 14, 15, 16, 17] rfl
      have hD : va_D A (w_Pg k ad_this (ad_this_keywords 0) (ad_this_names 0) (ad_this_nodes 0) u7 ++ w_Kw k ad_this_keywords z_this_keywords ++ w_Nm k ad_this_names z_this_names ++ w_Nd k ad_this_nodes z_this_nodes) := hD.sub [18, 19, 0, 1, 2, 3, 4, 5, 6, 7, 8, 9, 10, 11, 12, 13, 14, 15, 16, 17] (by decide) rfl
      refine lv_goto (tgt := 161) hx hb d_Pg_beginStatement_139 (by decide) ?_
      exact xq_vret (r := ()) (u := u7) hx hb hr hlocks hAe hP hD hS rfl hw (Nat.le_of_ble_eq_true rfl) (Nat.le_of_ble_eq_true rfl) d_Pg_beginStatement_161
    by_cases hc1 : r1 = (13 : Int32)
    · have hw := hw.2.1 hc1
      refine W.eq (g2 := F0 m 45 ls ([.int (13 : Int32)])) (by rw [hc1]) ?_
      refine lv_tableIn (tgt := 120) hx hb d_Pg_beginStatement_45 (by decide) (by decide) rfl (by decide) ?_
      refine lv_aload_n hx hb d_Pg_beginStatement_120 rfl (lv_at hl 1 rfl) ?_
      refine lv_aload_n hx hb d_Pg_beginStatement_121 rfl (lv_at hl 1 rfl) ?_
      refine va_get (D := D) (ci := 7) (v := .ref (ad_this_names 0)) (C := R_Pg) (T := F_Pg) (N := 5) hx hb hts in_Pg hown hK hP 0 rfl rfl 3 (by decide) (hts (.fieldLink R_Pg 25 R_Pg "names" "LStepText$Names;") kw2_31) (fun _ h9 => h9) rfl d_Pg_beginStatement_122 ?_
      refine lv_aload_n hx hb d_Pg_beginStatement_125 rfl (lv_at hl 1 rfl) ?_
      refine va_get (D := D) (ci := 7) (v := .ref (ad_this_nodes 0)) (C := R_Pg) (T := F_Pg) (N := 5) hx hb hts in_Pg hown hK hP 0 rfl rfl 4 (by decide) (hts (.fieldLink R_Pg 32 R_Pg "nodes" "LStepText$Nodes;") kw2_32) (fun _ h9 => h9) rfl d_Pg_beginStatement_126 ?_
      refine lv_iload_n hx hb d_Pg_beginStatement_129 rfl (lv_at hl 2 rfl) ?_
      refine xq_go (wr := w_Pg k ad_this (ad_this_keywords 0) (ad_this_names 0) (ad_this_nodes 0) u4 ++ w_Kw k ad_this_keywords z_this_keywords ++ w_Nm k ad_this_names z_this_names) (stk := fun r => .int r :: [.ref (ad_this_names 0), .ref (ad_this 0)]) (xq_runV (As := [.int a1]) (rest := [.ref (ad_this_names 0), .ref (ad_this 0)]) ⟨hx, hb, hml, hown, hts⟩ (c_Nd_subjectOf (l := l) (o := o) (D := D) (k := k) (ad_this := ad_this_nodes) hw) (cw_Nd_subjectOf hts kw4_78 ⟨Nat.le_of_ble_eq_true rfl, Nat.le_of_ble_eq_true rfl⟩) (va_recv hK hP (ci := 4) (q0 := 9) rfl rfl) (hP.sub [9, 10, 11, 12, 13, 14, 15, 16, 17, 18, 19] rfl) hK hJ hS (va_free hD hS hA [9, 10, 11, 12, 13, 14, 15, 16, 17, 18, 19] rfl) ((hD.sub [9, 10, 11, 12, 13, 14, 15, 16, 17, 18, 19] (by decide) rfl).weaken (fun _ _ _ _ => trivial)) rfl hl.1 (Nat.le_of_ble_eq_true rfl) d_Pg_beginStatement_130 ⟨Nat.le_of_ble_eq_true rfl, Nat.le_of_ble_eq_true rfl⟩) hP hD hS hA [9, 10, 11, 12, 13, 14, 15, 16, 17, 18, 19] [0, 1, 2, 3, 4, 5, 6, 7, 8] rfl rfl (by decide) (by decide) (fun _ => rfl) (fun r8 u8 H locs hw hP hD hS => ?_) (fun _ _ _ _ h9 => h9.elim)
      have hP : va_P D vwCl (w_Pg k ad_this (ad_this_keywords 0) (ad_this_names 0) (ad_this_nodes 0) u4 ++ w_Kw k ad_this_keywords z_this_keywords ++ w_Nm k ad_this_names z_this_names ++ w_Nd k ad_this_nodes z_this_nodes) H := hP.sub [0, 1, 2, 3, 4, 5, 6, 7, 8, 9, 10, 11, 12, 13, 14, 15, 16, 17, 18, 19] rfl
      have hD : va_D A (w_Pg k ad_this (ad_this_keywords 0) (ad_this_names 0) (ad_this_nodes 0) u4 ++ w_Kw k ad_this_keywords z_this_keywords ++ w_Nm k ad_this_names z_this_names ++ w_Nd k ad_this_nodes z_this_nodes) := hD.sub [0, 1, 2, 3, 4, 5, 6, 7, 8, 9, 10, 11, 12, 13, 14, 15, 16, 17, 18, 19] (by decide) rfl
      refine xq_go (wr := w_Pg k ad_this (ad_this_keywords 0) (ad_this_names 0) (ad_this_nodes 0) u4 ++ w_Kw k ad_this_keywords z_this_keywords ++ w_Nd k ad_this_nodes z_this_nodes) (stk := fun r => .long r :: [.ref (ad_this 0)]) (xq_runV (As := [.int r8]) (rest := [.ref (ad_this 0)]) ⟨hx, hb, hml, hown, hts⟩ (c_Nm_lettersOf (l := l) (o := o) (D := D) (k := k) (ad_this := ad_this_names) hw) (cw_Nm_lettersOf hts kw4_79 ⟨Nat.le_of_ble_eq_true rfl, Nat.le_of_ble_eq_true rfl⟩) (va_recv hK hP (ci := 3) (q0 := 4) rfl rfl) (hP.sub [4, 5, 6, 7, 8] rfl) hK hJ hS (va_free hD hS hA [4, 5, 6, 7, 8] rfl) ((hD.sub [4, 5, 6, 7, 8] (by decide) rfl).weaken (fun _ _ _ _ => trivial)) rfl hl.1 (Nat.le_of_ble_eq_true rfl) d_Pg_beginStatement_133 ⟨Nat.le_of_ble_eq_true rfl, Nat.le_of_ble_eq_true rfl⟩) hP hD hS hA [4, 5, 6, 7, 8] [0, 1, 2, 3, 9, 10, 11, 12, 13, 14, 15, 16, 17, 18, 19] rfl rfl (by decide) (by decide) (fun _ => rfl) (fun r9 u9 H locs hw hP hD hS => ?_) (fun _ _ _ _ h9 => h9.elim)
      have hP : va_P D vwCl (w_Pg k ad_this (ad_this_keywords 0) (ad_this_names 0) (ad_this_nodes 0) u4 ++ w_Kw k ad_this_keywords z_this_keywords ++ w_Nm k ad_this_names z_this_names ++ w_Nd k ad_this_nodes z_this_nodes) H := hP.sub [0, 1, 2, 3, 15, 16, 17, 18, 19, 4, 5, 6, 7, 8, 9, 10, 11, 12, 13, 14] rfl
      have hD : va_D A (w_Pg k ad_this (ad_this_keywords 0) (ad_this_names 0) (ad_this_nodes 0) u4 ++ w_Kw k ad_this_keywords z_this_keywords ++ w_Nm k ad_this_names z_this_names ++ w_Nd k ad_this_nodes z_this_nodes) := hD.sub [0, 1, 2, 3, 15, 16, 17, 18, 19, 4, 5, 6, 7, 8, 9, 10, 11, 12, 13, 14] (by decide) rfl
      refine xq_go (wr := w_Kw k ad_this_keywords z_this_keywords ++ w_Nm k ad_this_names z_this_names ++ w_Nd k ad_this_nodes z_this_nodes) (stk := fun _ => []) (xq_runV (As := [.long r9]) (rest := []) ⟨hx, hb, hml, hown, hts⟩ (c_Pg_putLetters (l := l) (o := o) (D := D) (k := k) (ad_this := ad_this) (q_this_keywords := (ad_this_keywords 0)) (q_this_names := (ad_this_names 0)) (q_this_nodes := (ad_this_nodes 0)) hw) (cw_Pg_putLetters hts kw4_70 ⟨Nat.le_of_ble_eq_true rfl, Nat.le_of_ble_eq_true rfl⟩) (va_recv hK hP (ci := 7) (q0 := 0) rfl rfl) (hP.sub [0, 1] rfl) hK hJ hS (va_free hD hS hA [0, 1] rfl) ((hD.sub [0, 1] (by decide) rfl).weaken (fun _ _ _ _ => trivial)) rfl hl.1 (Nat.le_of_ble_eq_true rfl) d_Pg_beginStatement_136 ⟨Nat.le_of_ble_eq_true rfl, Nat.le_of_ble_eq_true rfl⟩) hP hD hS hA [0, 1] [2, 3, 4, 5, 6, 7, 8, 9, 10, 11, 12, 13, 14, 15, 16, 17, 18, 19] rfl rfl (by decide) (by decide) (fun _ => rfl) (fun r10 u10 H locs hw hP hD hS => ?_) (fun _ _ _ _ h9 => h9.elim)
      have hP : va_P D vwCl (w_Pg k ad_this (ad_this_keywords 0) (ad_this_names 0) (ad_this_nodes 0) u10 ++ w_Kw k ad_this_keywords z_this_keywords ++ w_Nm k ad_this_names z_this_names ++ w_Nd k ad_this_nodes z_this_nodes) H := hP.sub [18, 19, 0, 1, 2, 3, 4, 5, 6, 7, 8, 9, 10, 11, 12, 13, 14, 15, 16, 17] rfl
      have hD : va_D A (w_Pg k ad_this (ad_this_keywords 0) (ad_this_names 0) (ad_this_nodes 0) u10 ++ w_Kw k ad_this_keywords z_this_keywords ++ w_Nm k ad_this_names z_this_names ++ w_Nd k ad_this_nodes z_this_nodes) := hD.sub [18, 19, 0, 1, 2, 3, 4, 5, 6, 7, 8, 9, 10, 11, 12, 13, 14, 15, 16, 17] (by decide) rfl
      refine lv_goto (tgt := 161) hx hb d_Pg_beginStatement_139 (by decide) ?_
      exact xq_vret (r := ()) (u := u10) hx hb hr hlocks hAe hP hD hS rfl hw (Nat.le_of_ble_eq_true rfl) (Nat.le_of_ble_eq_true rfl) d_Pg_beginStatement_161
    by_cases hc2 : r1 = (18 : Int32)
    · have hw := hw.2.2.1 hc2
      refine W.eq (g2 := F0 m 45 ls ([.int (18 : Int32)])) (by rw [hc2]) ?_
      refine lv_tableIn (tgt := 120) hx hb d_Pg_beginStatement_45 (by decide) (by decide) rfl (by decide) ?_
      refine lv_aload_n hx hb d_Pg_beginStatement_120 rfl (lv_at hl 1 rfl) ?_
      refine lv_aload_n hx hb d_Pg_beginStatement_121 rfl (lv_at hl 1 rfl) ?_
      refine va_get (D := D) (ci := 7) (v := .ref (ad_this_names 0)) (C := R_Pg) (T := F_Pg) (N := 5) hx hb hts in_Pg hown hK hP 0 rfl rfl 3 (by decide) (hts (.fieldLink R_Pg 25 R_Pg "names" "LStepText$Names;") kw2_31) (fun _ h9 => h9) rfl d_Pg_beginStatement_122 ?_
      refine lv_aload_n hx hb d_Pg_beginStatement_125 rfl (lv_at hl 1 rfl) ?_
      refine va_get (D := D) (ci := 7) (v := .ref (ad_this_nodes 0)) (C := R_Pg) (T := F_Pg) (N := 5) hx hb hts in_Pg hown hK hP 0 rfl rfl 4 (by decide) (hts (.fieldLink R_Pg 32 R_Pg "nodes" "LStepText$Nodes;") kw2_32) (fun _ h9 => h9) rfl d_Pg_beginStatement_126 ?_
      refine lv_iload_n hx hb d_Pg_beginStatement_129 rfl (lv_at hl 2 rfl) ?_
      refine xq_go (wr := w_Pg k ad_this (ad_this_keywords 0) (ad_this_names 0) (ad_this_nodes 0) u4 ++ w_Kw k ad_this_keywords z_this_keywords ++ w_Nm k ad_this_names z_this_names) (stk := fun r => .int r :: [.ref (ad_this_names 0), .ref (ad_this 0)]) (xq_runV (As := [.int a1]) (rest := [.ref (ad_this_names 0), .ref (ad_this 0)]) ⟨hx, hb, hml, hown, hts⟩ (c_Nd_subjectOf (l := l) (o := o) (D := D) (k := k) (ad_this := ad_this_nodes) hw) (cw_Nd_subjectOf hts kw4_78 ⟨Nat.le_of_ble_eq_true rfl, Nat.le_of_ble_eq_true rfl⟩) (va_recv hK hP (ci := 4) (q0 := 9) rfl rfl) (hP.sub [9, 10, 11, 12, 13, 14, 15, 16, 17, 18, 19] rfl) hK hJ hS (va_free hD hS hA [9, 10, 11, 12, 13, 14, 15, 16, 17, 18, 19] rfl) ((hD.sub [9, 10, 11, 12, 13, 14, 15, 16, 17, 18, 19] (by decide) rfl).weaken (fun _ _ _ _ => trivial)) rfl hl.1 (Nat.le_of_ble_eq_true rfl) d_Pg_beginStatement_130 ⟨Nat.le_of_ble_eq_true rfl, Nat.le_of_ble_eq_true rfl⟩) hP hD hS hA [9, 10, 11, 12, 13, 14, 15, 16, 17, 18, 19] [0, 1, 2, 3, 4, 5, 6, 7, 8] rfl rfl (by decide) (by decide) (fun _ => rfl) (fun r11 u11 H locs hw hP hD hS => ?_) (fun _ _ _ _ h9 => h9.elim)
      have hP : va_P D vwCl (w_Pg k ad_this (ad_this_keywords 0) (ad_this_names 0) (ad_this_nodes 0) u4 ++ w_Kw k ad_this_keywords z_this_keywords ++ w_Nm k ad_this_names z_this_names ++ w_Nd k ad_this_nodes z_this_nodes) H := hP.sub [0, 1, 2, 3, 4, 5, 6, 7, 8, 9, 10, 11, 12, 13, 14, 15, 16, 17, 18, 19] rfl
      have hD : va_D A (w_Pg k ad_this (ad_this_keywords 0) (ad_this_names 0) (ad_this_nodes 0) u4 ++ w_Kw k ad_this_keywords z_this_keywords ++ w_Nm k ad_this_names z_this_names ++ w_Nd k ad_this_nodes z_this_nodes) := hD.sub [0, 1, 2, 3, 4, 5, 6, 7, 8, 9, 10, 11, 12, 13, 14, 15, 16, 17, 18, 19] (by decide) rfl
      refine xq_go (wr := w_Pg k ad_this (ad_this_keywords 0) (ad_this_names 0) (ad_this_nodes 0) u4 ++ w_Kw k ad_this_keywords z_this_keywords ++ w_Nd k ad_this_nodes z_this_nodes) (stk := fun r => .long r :: [.ref (ad_this 0)]) (xq_runV (As := [.int r11]) (rest := [.ref (ad_this 0)]) ⟨hx, hb, hml, hown, hts⟩ (c_Nm_lettersOf (l := l) (o := o) (D := D) (k := k) (ad_this := ad_this_names) hw) (cw_Nm_lettersOf hts kw4_79 ⟨Nat.le_of_ble_eq_true rfl, Nat.le_of_ble_eq_true rfl⟩) (va_recv hK hP (ci := 3) (q0 := 4) rfl rfl) (hP.sub [4, 5, 6, 7, 8] rfl) hK hJ hS (va_free hD hS hA [4, 5, 6, 7, 8] rfl) ((hD.sub [4, 5, 6, 7, 8] (by decide) rfl).weaken (fun _ _ _ _ => trivial)) rfl hl.1 (Nat.le_of_ble_eq_true rfl) d_Pg_beginStatement_133 ⟨Nat.le_of_ble_eq_true rfl, Nat.le_of_ble_eq_true rfl⟩) hP hD hS hA [4, 5, 6, 7, 8] [0, 1, 2, 3, 9, 10, 11, 12, 13, 14, 15, 16, 17, 18, 19] rfl rfl (by decide) (by decide) (fun _ => rfl) (fun r12 u12 H locs hw hP hD hS => ?_) (fun _ _ _ _ h9 => h9.elim)
      have hP : va_P D vwCl (w_Pg k ad_this (ad_this_keywords 0) (ad_this_names 0) (ad_this_nodes 0) u4 ++ w_Kw k ad_this_keywords z_this_keywords ++ w_Nm k ad_this_names z_this_names ++ w_Nd k ad_this_nodes z_this_nodes) H := hP.sub [0, 1, 2, 3, 15, 16, 17, 18, 19, 4, 5, 6, 7, 8, 9, 10, 11, 12, 13, 14] rfl
      have hD : va_D A (w_Pg k ad_this (ad_this_keywords 0) (ad_this_names 0) (ad_this_nodes 0) u4 ++ w_Kw k ad_this_keywords z_this_keywords ++ w_Nm k ad_this_names z_this_names ++ w_Nd k ad_this_nodes z_this_nodes) := hD.sub [0, 1, 2, 3, 15, 16, 17, 18, 19, 4, 5, 6, 7, 8, 9, 10, 11, 12, 13, 14] (by decide) rfl
      refine xq_go (wr := w_Kw k ad_this_keywords z_this_keywords ++ w_Nm k ad_this_names z_this_names ++ w_Nd k ad_this_nodes z_this_nodes) (stk := fun _ => []) (xq_runV (As := [.long r12]) (rest := []) ⟨hx, hb, hml, hown, hts⟩ (c_Pg_putLetters (l := l) (o := o) (D := D) (k := k) (ad_this := ad_this) (q_this_keywords := (ad_this_keywords 0)) (q_this_names := (ad_this_names 0)) (q_this_nodes := (ad_this_nodes 0)) hw) (cw_Pg_putLetters hts kw4_70 ⟨Nat.le_of_ble_eq_true rfl, Nat.le_of_ble_eq_true rfl⟩) (va_recv hK hP (ci := 7) (q0 := 0) rfl rfl) (hP.sub [0, 1] rfl) hK hJ hS (va_free hD hS hA [0, 1] rfl) ((hD.sub [0, 1] (by decide) rfl).weaken (fun _ _ _ _ => trivial)) rfl hl.1 (Nat.le_of_ble_eq_true rfl) d_Pg_beginStatement_136 ⟨Nat.le_of_ble_eq_true rfl, Nat.le_of_ble_eq_true rfl⟩) hP hD hS hA [0, 1] [2, 3, 4, 5, 6, 7, 8, 9, 10, 11, 12, 13, 14, 15, 16, 17, 18, 19] rfl rfl (by decide) (by decide) (fun _ => rfl) (fun r13 u13 H locs hw hP hD hS => ?_) (fun _ _ _ _ h9 => h9.elim)
      have hP : va_P D vwCl (w_Pg k ad_this (ad_this_keywords 0) (ad_this_names 0) (ad_this_nodes 0) u13 ++ w_Kw k ad_this_keywords z_this_keywords ++ w_Nm k ad_this_names z_this_names ++ w_Nd k ad_this_nodes z_this_nodes) H := hP.sub [18, 19, 0, 1, 2, 3, 4, 5, 6, 7, 8, 9, 10, 11, 12, 13, 14, 15, 16, 17] rfl
      have hD : va_D A (w_Pg k ad_this (ad_this_keywords 0) (ad_this_names 0) (ad_this_nodes 0) u13 ++ w_Kw k ad_this_keywords z_this_keywords ++ w_Nm k ad_this_names z_this_names ++ w_Nd k ad_this_nodes z_this_nodes) := hD.sub [18, 19, 0, 1, 2, 3, 4, 5, 6, 7, 8, 9, 10, 11, 12, 13, 14, 15, 16, 17] (by decide) rfl
      refine lv_goto (tgt := 161) hx hb d_Pg_beginStatement_139 (by decide) ?_
      exact xq_vret (r := ()) (u := u13) hx hb hr hlocks hAe hP hD hS rfl hw (Nat.le_of_ble_eq_true rfl) (Nat.le_of_ble_eq_true rfl) d_Pg_beginStatement_161
    by_cases hc3 : r1 = (19 : Int32)
    · have hw := hw.2.2.2.1 hc3
      refine W.eq (g2 := F0 m 45 ls ([.int (19 : Int32)])) (by rw [hc3]) ?_
      refine lv_tableIn (tgt := 120) hx hb d_Pg_beginStatement_45 (by decide) (by decide) rfl (by decide) ?_
      refine lv_aload_n hx hb d_Pg_beginStatement_120 rfl (lv_at hl 1 rfl) ?_
      refine lv_aload_n hx hb d_Pg_beginStatement_121 rfl (lv_at hl 1 rfl) ?_
      refine va_get (D := D) (ci := 7) (v := .ref (ad_this_names 0)) (C := R_Pg) (T := F_Pg) (N := 5) hx hb hts in_Pg hown hK hP 0 rfl rfl 3 (by decide) (hts (.fieldLink R_Pg 25 R_Pg "names" "LStepText$Names;") kw2_31) (fun _ h9 => h9) rfl d_Pg_beginStatement_122 ?_
      refine lv_aload_n hx hb d_Pg_beginStatement_125 rfl (lv_at hl 1 rfl) ?_
      refine va_get (D := D) (ci := 7) (v := .ref (ad_this_nodes 0)) (C := R_Pg) (T := F_Pg) (N := 5) hx hb hts in_Pg hown hK hP 0 rfl rfl 4 (by decide) (hts (.fieldLink R_Pg 32 R_Pg "nodes" "LStepText$Nodes;") kw2_32) (fun _ h9 => h9) rfl d_Pg_beginStatement_126 ?_
      refine lv_iload_n hx hb d_Pg_beginStatement_129 rfl (lv_at hl 2 rfl) ?_
      refine xq_go (wr := w_Pg k ad_this (ad_this_keywords 0) (ad_this_names 0) (ad_this_nodes 0) u4 ++ w_Kw k ad_this_keywords z_this_keywords ++ w_Nm k ad_this_names z_this_names) (stk := fun r => .int r :: [.ref (ad_this_names 0), .ref (ad_this 0)]) (xq_runV (As := [.int a1]) (rest := [.ref (ad_this_names 0), .ref (ad_this 0)]) ⟨hx, hb, hml, hown, hts⟩ (c_Nd_subjectOf (l := l) (o := o) (D := D) (k := k) (ad_this := ad_this_nodes) hw) (cw_Nd_subjectOf hts kw4_78 ⟨Nat.le_of_ble_eq_true rfl, Nat.le_of_ble_eq_true rfl⟩) (va_recv hK hP (ci := 4) (q0 := 9) rfl rfl) (hP.sub [9, 10, 11, 12, 13, 14, 15, 16, 17, 18, 19] rfl) hK hJ hS (va_free hD hS hA [9, 10, 11, 12, 13, 14, 15, 16, 17, 18, 19] rfl) ((hD.sub [9, 10, 11, 12, 13, 14, 15, 16, 17, 18, 19] (by decide) rfl).weaken (fun _ _ _ _ => trivial)) rfl hl.1 (Nat.le_of_ble_eq_true rfl) d_Pg_beginStatement_130 ⟨Nat.le_of_ble_eq_true rfl, Nat.le_of_ble_eq_true rfl⟩) hP hD hS hA [9, 10, 11, 12, 13, 14, 15, 16, 17, 18, 19] [0, 1, 2, 3, 4, 5, 6, 7, 8] rfl rfl (by decide) (by decide) (fun _ => rfl) (fun r14 u14 H locs hw hP hD hS => ?_) (fun _ _ _ _ h9 => h9.elim)
      have hP : va_P D vwCl (w_Pg k ad_this (ad_this_keywords 0) (ad_this_names 0) (ad_this_nodes 0) u4 ++ w_Kw k ad_this_keywords z_this_keywords ++ w_Nm k ad_this_names z_this_names ++ w_Nd k ad_this_nodes z_this_nodes) H := hP.sub [0, 1, 2, 3, 4, 5, 6, 7, 8, 9, 10, 11, 12, 13, 14, 15, 16, 17, 18, 19] rfl
      have hD : va_D A (w_Pg k ad_this (ad_this_keywords 0) (ad_this_names 0) (ad_this_nodes 0) u4 ++ w_Kw k ad_this_keywords z_this_keywords ++ w_Nm k ad_this_names z_this_names ++ w_Nd k ad_this_nodes z_this_nodes) := hD.sub [0, 1, 2, 3, 4, 5, 6, 7, 8, 9, 10, 11, 12, 13, 14, 15, 16, 17, 18, 19] (by decide) rfl
      refine xq_go (wr := w_Pg k ad_this (ad_this_keywords 0) (ad_this_names 0) (ad_this_nodes 0) u4 ++ w_Kw k ad_this_keywords z_this_keywords ++ w_Nd k ad_this_nodes z_this_nodes) (stk := fun r => .long r :: [.ref (ad_this 0)]) (xq_runV (As := [.int r14]) (rest := [.ref (ad_this 0)]) ⟨hx, hb, hml, hown, hts⟩ (c_Nm_lettersOf (l := l) (o := o) (D := D) (k := k) (ad_this := ad_this_names) hw) (cw_Nm_lettersOf hts kw4_79 ⟨Nat.le_of_ble_eq_true rfl, Nat.le_of_ble_eq_true rfl⟩) (va_recv hK hP (ci := 3) (q0 := 4) rfl rfl) (hP.sub [4, 5, 6, 7, 8] rfl) hK hJ hS (va_free hD hS hA [4, 5, 6, 7, 8] rfl) ((hD.sub [4, 5, 6, 7, 8] (by decide) rfl).weaken (fun _ _ _ _ => trivial)) rfl hl.1 (Nat.le_of_ble_eq_true rfl) d_Pg_beginStatement_133 ⟨Nat.le_of_ble_eq_true rfl, Nat.le_of_ble_eq_true rfl⟩) hP hD hS hA [4, 5, 6, 7, 8] [0, 1, 2, 3, 9, 10, 11, 12, 13, 14, 15, 16, 17, 18, 19] rfl rfl (by decide) (by decide) (fun _ => rfl) (fun r15 u15 H locs hw hP hD hS => ?_) (fun _ _ _ _ h9 => h9.elim)
      have hP : va_P D vwCl (w_Pg k ad_this (ad_this_keywords 0) (ad_this_names 0) (ad_this_nodes 0) u4 ++ w_Kw k ad_this_keywords z_this_keywords ++ w_Nm k ad_this_names z_this_names ++ w_Nd k ad_this_nodes z_this_nodes) H := hP.sub [0, 1, 2, 3, 15, 16, 17, 18, 19, 4, 5, 6, 7, 8, 9, 10, 11, 12, 13, 14] rfl
      have hD : va_D A (w_Pg k ad_this (ad_this_keywords 0) (ad_this_names 0) (ad_this_nodes 0) u4 ++ w_Kw k ad_this_keywords z_this_keywords ++ w_Nm k ad_this_names z_this_names ++ w_Nd k ad_this_nodes z_this_nodes) := hD.sub [0, 1, 2, 3, 15, 16, 17, 18, 19, 4, 5, 6, 7, 8, 9, 10, 11, 12, 13, 14] (by decide) rfl
      refine xq_go (wr := w_Kw k ad_this_keywords z_this_keywords ++ w_Nm k ad_this_names z_this_names ++ w_Nd k ad_this_nodes z_this_nodes) (stk := fun _ => []) (xq_runV (As := [.long r15]) (rest := []) ⟨hx, hb, hml, hown, hts⟩ (c_Pg_putLetters (l := l) (o := o) (D := D) (k := k) (ad_this := ad_this) (q_this_keywords := (ad_this_keywords 0)) (q_this_names := (ad_this_names 0)) (q_this_nodes := (ad_this_nodes 0)) hw) (cw_Pg_putLetters hts kw4_70 ⟨Nat.le_of_ble_eq_true rfl, Nat.le_of_ble_eq_true rfl⟩) (va_recv hK hP (ci := 7) (q0 := 0) rfl rfl) (hP.sub [0, 1] rfl) hK hJ hS (va_free hD hS hA [0, 1] rfl) ((hD.sub [0, 1] (by decide) rfl).weaken (fun _ _ _ _ => trivial)) rfl hl.1 (Nat.le_of_ble_eq_true rfl) d_Pg_beginStatement_136 ⟨Nat.le_of_ble_eq_true rfl, Nat.le_of_ble_eq_true rfl⟩) hP hD hS hA [0, 1] [2, 3, 4, 5, 6, 7, 8, 9, 10, 11, 12, 13, 14, 15, 16, 17, 18, 19] rfl rfl (by decide) (by decide) (fun _ => rfl) (fun r16 u16 H locs hw hP hD hS => ?_) (fun _ _ _ _ h9 => h9.elim)
      have hP : va_P D vwCl (w_Pg k ad_this (ad_this_keywords 0) (ad_this_names 0) (ad_this_nodes 0) u16 ++ w_Kw k ad_this_keywords z_this_keywords ++ w_Nm k ad_this_names z_this_names ++ w_Nd k ad_this_nodes z_this_nodes) H := hP.sub [18, 19, 0, 1, 2, 3, 4, 5, 6, 7, 8, 9, 10, 11, 12, 13, 14, 15, 16, 17] rfl
      have hD : va_D A (w_Pg k ad_this (ad_this_keywords 0) (ad_this_names 0) (ad_this_nodes 0) u16 ++ w_Kw k ad_this_keywords z_this_keywords ++ w_Nm k ad_this_names z_this_names ++ w_Nd k ad_this_nodes z_this_nodes) := hD.sub [18, 19, 0, 1, 2, 3, 4, 5, 6, 7, 8, 9, 10, 11, 12, 13, 14, 15, 16, 17] (by decide) rfl
      refine lv_goto (tgt := 161) hx hb d_Pg_beginStatement_139 (by decide) ?_
      exact xq_vret (r := ()) (u := u16) hx hb hr hlocks hAe hP hD hS rfl hw (Nat.le_of_ble_eq_true rfl) (Nat.le_of_ble_eq_true rfl) d_Pg_beginStatement_161
    by_cases hc4 : r1 = (22 : Int32)
    · have hw := hw.2.2.2.2.1 hc4
      refine W.eq (g2 := F0 m 45 ls ([.int (22 : Int32)])) (by rw [hc4]) ?_
      refine lv_tableIn (tgt := 142) hx hb d_Pg_beginStatement_45 (by decide) (by decide) rfl (by decide) ?_
      refine lv_aload_n hx hb d_Pg_beginStatement_142 rfl (lv_at hl 1 rfl) ?_
      refine lv_aload_n hx hb d_Pg_beginStatement_143 rfl (lv_at hl 1 rfl) ?_
      refine va_get (D := D) (ci := 7) (v := .ref (ad_this_nodes 0)) (C := R_Pg) (T := F_Pg) (N := 5) hx hb hts in_Pg hown hK hP 0 rfl rfl 4 (by decide) (hts (.fieldLink R_Pg 32 R_Pg "nodes" "LStepText$Nodes;") kw2_32) (fun _ h9 => h9) rfl d_Pg_beginStatement_144 ?_
      refine lv_iload_n hx hb d_Pg_beginStatement_147 rfl (lv_at hl 2 rfl) ?_
      refine xq_go (wr := w_Pg k ad_this (ad_this_keywords 0) (ad_this_names 0) (ad_this_nodes 0) u4 ++ w_Kw k ad_this_keywords z_this_keywords ++ w_Nm k ad_this_names z_this_names) (stk := fun r => .long r :: [.ref (ad_this 0)]) (xq_runV (As := [.int a1]) (rest := [.ref (ad_this 0)]) ⟨hx, hb, hml, hown, hts⟩ (c_Nd_valueOf (l := l) (o := o) (D := D) (k := k) (ad_this := ad_this_nodes) hw) (cw_Nd_valueOf hts kw4_41 ⟨Nat.le_of_ble_eq_true rfl, Nat.le_of_ble_eq_true rfl⟩) (va_recv hK hP (ci := 4) (q0 := 9) rfl rfl) (hP.sub [9, 10, 11, 12, 13, 14, 15, 16, 17, 18, 19] rfl) hK hJ hS (va_free hD hS hA [9, 10, 11, 12, 13, 14, 15, 16, 17, 18, 19] rfl) ((hD.sub [9, 10, 11, 12, 13, 14, 15, 16, 17, 18, 19] (by decide) rfl).weaken (fun _ _ _ _ => trivial)) rfl hl.1 (Nat.le_of_ble_eq_true rfl) d_Pg_beginStatement_148 ⟨Nat.le_of_ble_eq_true rfl, Nat.le_of_ble_eq_true rfl⟩) hP hD hS hA [9, 10, 11, 12, 13, 14, 15, 16, 17, 18, 19] [0, 1, 2, 3, 4, 5, 6, 7, 8] rfl rfl (by decide) (by decide) (fun _ => rfl) (fun r17 u17 H locs hw hP hD hS => ?_) (fun _ _ _ _ h9 => h9.elim)
      have hP : va_P D vwCl (w_Pg k ad_this (ad_this_keywords 0) (ad_this_names 0) (ad_this_nodes 0) u4 ++ w_Kw k ad_this_keywords z_this_keywords ++ w_Nm k ad_this_names z_this_names ++ w_Nd k ad_this_nodes z_this_nodes) H := hP.sub [0, 1, 2, 3, 4, 5, 6, 7, 8, 9, 10, 11, 12, 13, 14, 15, 16, 17, 18, 19] rfl
      have hD : va_D A (w_Pg k ad_this (ad_this_keywords 0) (ad_this_names 0) (ad_this_nodes 0) u4 ++ w_Kw k ad_this_keywords z_this_keywords ++ w_Nm k ad_this_names z_this_names ++ w_Nd k ad_this_nodes z_this_nodes) := hD.sub [0, 1, 2, 3, 4, 5, 6, 7, 8, 9, 10, 11, 12, 13, 14, 15, 16, 17, 18, 19] (by decide) rfl
      refine lv_ldc2 (v := (1000 : Int64)) hx hb hown (hts (.constantLong R_Pg 124 (1000)) kw4_58) d_Pg_beginStatement_151 ?_
      refine lv_lmul hx hb d_Pg_beginStatement_154 ?_
      refine xq_go (wr := w_Kw k ad_this_keywords z_this_keywords ++ w_Nm k ad_this_names z_this_names ++ w_Nd k ad_this_nodes z_this_nodes) (stk := fun _ => []) (xq_runV (As := [.long (r17 * (1000 : Int64))]) (rest := []) ⟨hx, hb, hml, hown, hts⟩ (c_Pg_putAmount (l := l) (o := o) (D := D) (k := k) (ad_this := ad_this) (q_this_keywords := (ad_this_keywords 0)) (q_this_names := (ad_this_names 0)) (q_this_nodes := (ad_this_nodes 0)) hw) (cw_Pg_putAmount hts kw4_42 ⟨Nat.le_of_ble_eq_true rfl, Nat.le_of_ble_eq_true rfl⟩) (va_recv hK hP (ci := 7) (q0 := 0) rfl rfl) (hP.sub [0, 1] rfl) hK hJ hS (va_free hD hS hA [0, 1] rfl) ((hD.sub [0, 1] (by decide) rfl).weaken (fun _ _ _ _ => trivial)) rfl hl.1 (Nat.le_of_ble_eq_true rfl) d_Pg_beginStatement_155 ⟨Nat.le_of_ble_eq_true rfl, Nat.le_of_ble_eq_true rfl⟩) hP hD hS hA [0, 1] [2, 3, 4, 5, 6, 7, 8, 9, 10, 11, 12, 13, 14, 15, 16, 17, 18, 19] rfl rfl (by decide) (by decide) (fun _ => rfl) (fun r18 u18 H locs hw hP hD hS => ?_) (fun _ _ _ _ h9 => h9.elim)
      have hP : va_P D vwCl (w_Pg k ad_this (ad_this_keywords 0) (ad_this_names 0) (ad_this_nodes 0) u18 ++ w_Kw k ad_this_keywords z_this_keywords ++ w_Nm k ad_this_names z_this_names ++ w_Nd k ad_this_nodes z_this_nodes) H := hP.sub [18, 19, 0, 1, 2, 3, 4, 5, 6, 7, 8, 9, 10, 11, 12, 13, 14, 15, 16, 17] rfl
      have hD : va_D A (w_Pg k ad_this (ad_this_keywords 0) (ad_this_names 0) (ad_this_nodes 0) u18 ++ w_Kw k ad_this_keywords z_this_keywords ++ w_Nm k ad_this_names z_this_names ++ w_Nd k ad_this_nodes z_this_nodes) := hD.sub [18, 19, 0, 1, 2, 3, 4, 5, 6, 7, 8, 9, 10, 11, 12, 13, 14, 15, 16, 17] (by decide) rfl
      refine lv_goto (tgt := 161) hx hb d_Pg_beginStatement_158 (by decide) ?_
      exact xq_vret (r := ()) (u := u18) hx hb hr hlocks hAe hP hD hS rfl hw (Nat.le_of_ble_eq_true rfl) (Nat.le_of_ble_eq_true rfl) d_Pg_beginStatement_161
    by_cases hc5 : r1 = (24 : Int32)
    · have hw := hw.2.2.2.2.2.1 hc5
      refine W.eq (g2 := F0 m 45 ls ([.int (24 : Int32)])) (by rw [hc5]) ?_
      refine lv_tableIn (tgt := 120) hx hb d_Pg_beginStatement_45 (by decide) (by decide) rfl (by decide) ?_
      refine lv_aload_n hx hb d_Pg_beginStatement_120 rfl (lv_at hl 1 rfl) ?_
      refine lv_aload_n hx hb d_Pg_beginStatement_121 rfl (lv_at hl 1 rfl) ?_
      refine va_get (D := D) (ci := 7) (v := .ref (ad_this_names 0)) (C := R_Pg) (T := F_Pg) (N := 5) hx hb hts in_Pg hown hK hP 0 rfl rfl 3 (by decide) (hts (.fieldLink R_Pg 25 R_Pg "names" "LStepText$Names;") kw2_31) (fun _ h9 => h9) rfl d_Pg_beginStatement_122 ?_
      refine lv_aload_n hx hb d_Pg_beginStatement_125 rfl (lv_at hl 1 rfl) ?_
      refine va_get (D := D) (ci := 7) (v := .ref (ad_this_nodes 0)) (C := R_Pg) (T := F_Pg) (N := 5) hx hb hts in_Pg hown hK hP 0 rfl rfl 4 (by decide) (hts (.fieldLink R_Pg 32 R_Pg "nodes" "LStepText$Nodes;") kw2_32) (fun _ h9 => h9) rfl d_Pg_beginStatement_126 ?_
      refine lv_iload_n hx hb d_Pg_beginStatement_129 rfl (lv_at hl 2 rfl) ?_
      refine xq_go (wr := w_Pg k ad_this (ad_this_keywords 0) (ad_this_names 0) (ad_this_nodes 0) u4 ++ w_Kw k ad_this_keywords z_this_keywords ++ w_Nm k ad_this_names z_this_names) (stk := fun r => .int r :: [.ref (ad_this_names 0), .ref (ad_this 0)]) (xq_runV (As := [.int a1]) (rest := [.ref (ad_this_names 0), .ref (ad_this 0)]) ⟨hx, hb, hml, hown, hts⟩ (c_Nd_subjectOf (l := l) (o := o) (D := D) (k := k) (ad_this := ad_this_nodes) hw) (cw_Nd_subjectOf hts kw4_78 ⟨Nat.le_of_ble_eq_true rfl, Nat.le_of_ble_eq_true rfl⟩) (va_recv hK hP (ci := 4) (q0 := 9) rfl rfl) (hP.sub [9, 10, 11, 12, 13, 14, 15, 16, 17, 18, 19] rfl) hK hJ hS (va_free hD hS hA [9, 10, 11, 12, 13, 14, 15, 16, 17, 18, 19] rfl) ((hD.sub [9, 10, 11, 12, 13, 14, 15, 16, 17, 18, 19] (by decide) rfl).weaken (fun _ _ _ _ => trivial)) rfl hl.1 (Nat.le_of_ble_eq_true rfl) d_Pg_beginStatement_130 ⟨Nat.le_of_ble_eq_true rfl, Nat.le_of_ble_eq_true rfl⟩) hP hD hS hA [9, 10, 11, 12, 13, 14, 15, 16, 17, 18, 19] [0, 1, 2, 3, 4, 5, 6, 7, 8] rfl rfl (by decide) (by decide) (fun _ => rfl) (fun r19 u19 H locs hw hP hD hS => ?_) (fun _ _ _ _ h9 => h9.elim)
      have hP : va_P D vwCl (w_Pg k ad_this (ad_this_keywords 0) (ad_this_names 0) (ad_this_nodes 0) u4 ++ w_Kw k ad_this_keywords z_this_keywords ++ w_Nm k ad_this_names z_this_names ++ w_Nd k ad_this_nodes z_this_nodes) H := hP.sub [0, 1, 2, 3, 4, 5, 6, 7, 8, 9, 10, 11, 12, 13, 14, 15, 16, 17, 18, 19] rfl
      have hD : va_D A (w_Pg k ad_this (ad_this_keywords 0) (ad_this_names 0) (ad_this_nodes 0) u4 ++ w_Kw k ad_this_keywords z_this_keywords ++ w_Nm k ad_this_names z_this_names ++ w_Nd k ad_this_nodes z_this_nodes) := hD.sub [0, 1, 2, 3, 4, 5, 6, 7, 8, 9, 10, 11, 12, 13, 14, 15, 16, 17, 18, 19] (by decide) rfl
      refine xq_go (wr := w_Pg k ad_this (ad_this_keywords 0) (ad_this_names 0) (ad_this_nodes 0) u4 ++ w_Kw k ad_this_keywords z_this_keywords ++ w_Nd k ad_this_nodes z_this_nodes) (stk := fun r => .long r :: [.ref (ad_this 0)]) (xq_runV (As := [.int r19]) (rest := [.ref (ad_this 0)]) ⟨hx, hb, hml, hown, hts⟩ (c_Nm_lettersOf (l := l) (o := o) (D := D) (k := k) (ad_this := ad_this_names) hw) (cw_Nm_lettersOf hts kw4_79 ⟨Nat.le_of_ble_eq_true rfl, Nat.le_of_ble_eq_true rfl⟩) (va_recv hK hP (ci := 3) (q0 := 4) rfl rfl) (hP.sub [4, 5, 6, 7, 8] rfl) hK hJ hS (va_free hD hS hA [4, 5, 6, 7, 8] rfl) ((hD.sub [4, 5, 6, 7, 8] (by decide) rfl).weaken (fun _ _ _ _ => trivial)) rfl hl.1 (Nat.le_of_ble_eq_true rfl) d_Pg_beginStatement_133 ⟨Nat.le_of_ble_eq_true rfl, Nat.le_of_ble_eq_true rfl⟩) hP hD hS hA [4, 5, 6, 7, 8] [0, 1, 2, 3, 9, 10, 11, 12, 13, 14, 15, 16, 17, 18, 19] rfl rfl (by decide) (by decide) (fun _ => rfl) (fun r20 u20 H locs hw hP hD hS => ?_) (fun _ _ _ _ h9 => h9.elim)
      have hP : va_P D vwCl (w_Pg k ad_this (ad_this_keywords 0) (ad_this_names 0) (ad_this_nodes 0) u4 ++ w_Kw k ad_this_keywords z_this_keywords ++ w_Nm k ad_this_names z_this_names ++ w_Nd k ad_this_nodes z_this_nodes) H := hP.sub [0, 1, 2, 3, 15, 16, 17, 18, 19, 4, 5, 6, 7, 8, 9, 10, 11, 12, 13, 14] rfl
      have hD : va_D A (w_Pg k ad_this (ad_this_keywords 0) (ad_this_names 0) (ad_this_nodes 0) u4 ++ w_Kw k ad_this_keywords z_this_keywords ++ w_Nm k ad_this_names z_this_names ++ w_Nd k ad_this_nodes z_this_nodes) := hD.sub [0, 1, 2, 3, 15, 16, 17, 18, 19, 4, 5, 6, 7, 8, 9, 10, 11, 12, 13, 14] (by decide) rfl
      refine xq_go (wr := w_Kw k ad_this_keywords z_this_keywords ++ w_Nm k ad_this_names z_this_names ++ w_Nd k ad_this_nodes z_this_nodes) (stk := fun _ => []) (xq_runV (As := [.long r20]) (rest := []) ⟨hx, hb, hml, hown, hts⟩ (c_Pg_putLetters (l := l) (o := o) (D := D) (k := k) (ad_this := ad_this) (q_this_keywords := (ad_this_keywords 0)) (q_this_names := (ad_this_names 0)) (q_this_nodes := (ad_this_nodes 0)) hw) (cw_Pg_putLetters hts kw4_70 ⟨Nat.le_of_ble_eq_true rfl, Nat.le_of_ble_eq_true rfl⟩) (va_recv hK hP (ci := 7) (q0 := 0) rfl rfl) (hP.sub [0, 1] rfl) hK hJ hS (va_free hD hS hA [0, 1] rfl) ((hD.sub [0, 1] (by decide) rfl).weaken (fun _ _ _ _ => trivial)) rfl hl.1 (Nat.le_of_ble_eq_true rfl) d_Pg_beginStatement_136 ⟨Nat.le_of_ble_eq_true rfl, Nat.le_of_ble_eq_true rfl⟩) hP hD hS hA [0, 1] [2, 3, 4, 5, 6, 7, 8, 9, 10, 11, 12, 13, 14, 15, 16, 17, 18, 19] rfl rfl (by decide) (by decide) (fun _ => rfl) (fun r21 u21 H locs hw hP hD hS => ?_) (fun _ _ _ _ h9 => h9.elim)
      have hP : va_P D vwCl (w_Pg k ad_this (ad_this_keywords 0) (ad_this_names 0) (ad_this_nodes 0) u21 ++ w_Kw k ad_this_keywords z_this_keywords ++ w_Nm k ad_this_names z_this_names ++ w_Nd k ad_this_nodes z_this_nodes) H := hP.sub [18, 19, 0, 1, 2, 3, 4, 5, 6, 7, 8, 9, 10, 11, 12, 13, 14, 15, 16, 17] rfl
      have hD : va_D A (w_Pg k ad_this (ad_this_keywords 0) (ad_this_names 0) (ad_this_nodes 0) u21 ++ w_Kw k ad_this_keywords z_this_keywords ++ w_Nm k ad_this_names z_this_names ++ w_Nd k ad_this_nodes z_this_nodes) := hD.sub [18, 19, 0, 1, 2, 3, 4, 5, 6, 7, 8, 9, 10, 11, 12, 13, 14, 15, 16, 17] (by decide) rfl
      refine lv_goto (tgt := 161) hx hb d_Pg_beginStatement_139 (by decide) ?_
      exact xq_vret (r := ()) (u := u21) hx hb hr hlocks hAe hP hD hS rfl hw (Nat.le_of_ble_eq_true rfl) (Nat.le_of_ble_eq_true rfl) d_Pg_beginStatement_161
    have hw := hw.2.2.2.2.2.2 ⟨hc0, hc1, hc2, hc3, hc4, hc5⟩
    by_cases hd0 : r1 = (11 : Int32)
    · refine W.eq (g2 := F0 m 45 ls ([.int (11 : Int32)])) (by rw [hd0]) ?_
      refine lv_tableIn (tgt := 161) hx hb d_Pg_beginStatement_45 (by decide) (by decide) rfl (by decide) ?_
      exact xq_vret (r := ()) (u := u4) hx hb hr hlocks hAe hP hD hS rfl hw (Nat.le_of_ble_eq_true rfl) (Nat.le_of_ble_eq_true rfl) d_Pg_beginStatement_161
    by_cases hd1 : r1 = (12 : Int32)
    · refine W.eq (g2 := F0 m 45 ls ([.int (12 : Int32)])) (by rw [hd1]) ?_
      refine lv_tableIn (tgt := 161) hx hb d_Pg_beginStatement_45 (by decide) (by decide) rfl (by decide) ?_
      exact xq_vret (r := ()) (u := u4) hx hb hr hlocks hAe hP hD hS rfl hw (Nat.le_of_ble_eq_true rfl) (Nat.le_of_ble_eq_true rfl) d_Pg_beginStatement_161
    by_cases hd2 : r1 = (14 : Int32)
    · refine W.eq (g2 := F0 m 45 ls ([.int (14 : Int32)])) (by rw [hd2]) ?_
      refine lv_tableIn (tgt := 161) hx hb d_Pg_beginStatement_45 (by decide) (by decide) rfl (by decide) ?_
      exact xq_vret (r := ()) (u := u4) hx hb hr hlocks hAe hP hD hS rfl hw (Nat.le_of_ble_eq_true rfl) (Nat.le_of_ble_eq_true rfl) d_Pg_beginStatement_161
    by_cases hd3 : r1 = (15 : Int32)
    · refine W.eq (g2 := F0 m 45 ls ([.int (15 : Int32)])) (by rw [hd3]) ?_
      refine lv_tableIn (tgt := 161) hx hb d_Pg_beginStatement_45 (by decide) (by decide) rfl (by decide) ?_
      exact xq_vret (r := ()) (u := u4) hx hb hr hlocks hAe hP hD hS rfl hw (Nat.le_of_ble_eq_true rfl) (Nat.le_of_ble_eq_true rfl) d_Pg_beginStatement_161
    by_cases hd4 : r1 = (16 : Int32)
    · refine W.eq (g2 := F0 m 45 ls ([.int (16 : Int32)])) (by rw [hd4]) ?_
      refine lv_tableIn (tgt := 161) hx hb d_Pg_beginStatement_45 (by decide) (by decide) rfl (by decide) ?_
      exact xq_vret (r := ()) (u := u4) hx hb hr hlocks hAe hP hD hS rfl hw (Nat.le_of_ble_eq_true rfl) (Nat.le_of_ble_eq_true rfl) d_Pg_beginStatement_161
    by_cases hd5 : r1 = (17 : Int32)
    · refine W.eq (g2 := F0 m 45 ls ([.int (17 : Int32)])) (by rw [hd5]) ?_
      refine lv_tableIn (tgt := 161) hx hb d_Pg_beginStatement_45 (by decide) (by decide) rfl (by decide) ?_
      exact xq_vret (r := ()) (u := u4) hx hb hr hlocks hAe hP hD hS rfl hw (Nat.le_of_ble_eq_true rfl) (Nat.le_of_ble_eq_true rfl) d_Pg_beginStatement_161
    by_cases hd6 : r1 = (20 : Int32)
    · refine W.eq (g2 := F0 m 45 ls ([.int (20 : Int32)])) (by rw [hd6]) ?_
      refine lv_tableIn (tgt := 161) hx hb d_Pg_beginStatement_45 (by decide) (by decide) rfl (by decide) ?_
      exact xq_vret (r := ()) (u := u4) hx hb hr hlocks hAe hP hD hS rfl hw (Nat.le_of_ble_eq_true rfl) (Nat.le_of_ble_eq_true rfl) d_Pg_beginStatement_161
    by_cases hd7 : r1 = (21 : Int32)
    · refine W.eq (g2 := F0 m 45 ls ([.int (21 : Int32)])) (by rw [hd7]) ?_
      refine lv_tableIn (tgt := 161) hx hb d_Pg_beginStatement_45 (by decide) (by decide) rfl (by decide) ?_
      exact xq_vret (r := ()) (u := u4) hx hb hr hlocks hAe hP hD hS rfl hw (Nat.le_of_ble_eq_true rfl) (Nat.le_of_ble_eq_true rfl) d_Pg_beginStatement_161
    by_cases hd8 : r1 = (23 : Int32)
    · refine W.eq (g2 := F0 m 45 ls ([.int (23 : Int32)])) (by rw [hd8]) ?_
      refine lv_tableIn (tgt := 161) hx hb d_Pg_beginStatement_45 (by decide) (by decide) rfl (by decide) ?_
      exact xq_vret (r := ()) (u := u4) hx hb hr hlocks hAe hP hD hS rfl hw (Nat.le_of_ble_eq_true rfl) (Nat.le_of_ble_eq_true rfl) d_Pg_beginStatement_161
    refine lv_tableOut (tgt := 161) hx hb d_Pg_beginStatement_45 (by have e10 : (r1).toInt ≠ 10 := xq_ne hc0 (by decide); have e11 : (r1).toInt ≠ 11 := xq_ne hd0 (by decide); have e12 : (r1).toInt ≠ 12 := xq_ne hd1 (by decide); have e13 : (r1).toInt ≠ 13 := xq_ne hc1 (by decide); have e14 : (r1).toInt ≠ 14 := xq_ne hd2 (by decide); have e15 : (r1).toInt ≠ 15 := xq_ne hd3 (by decide); have e16 : (r1).toInt ≠ 16 := xq_ne hd4 (by decide); have e17 : (r1).toInt ≠ 17 := xq_ne hd5 (by decide); have e18 : (r1).toInt ≠ 18 := xq_ne hc2 (by decide); have e19 : (r1).toInt ≠ 19 := xq_ne hc3 (by decide); have e20 : (r1).toInt ≠ 20 := xq_ne hd6 (by decide); have e21 : (r1).toInt ≠ 21 := xq_ne hd7 (by decide); have e22 : (r1).toInt ≠ 22 := xq_ne hc4 (by decide); have e23 : (r1).toInt ≠ 23 := xq_ne hd8 (by decide); have e24 : (r1).toInt ≠ 24 := xq_ne hc5 (by decide); omega) (by decide) ?_
    exact xq_vret (r := ()) (u := u4) hx hb hr hlocks hAe hP hD hS rfl hw (Nat.le_of_ble_eq_true rfl) (Nat.le_of_ble_eq_true rfl) d_Pg_beginStatement_161
  · have hw := hw.1 hc
    refine lv_sipush (v := (215 : Int32)) hx hb d_Pg_beginStatement_24 (by decide) ?_
    refine lv_goto (tgt := 38) hx hb d_Pg_beginStatement_27 (by decide) ?_
    refine xq_go (wr := w_Pg k ad_this (ad_this_keywords 0) (ad_this_names 0) (ad_this_nodes 0) u2 ++ w_Nm k ad_this_names z_this_names ++ w_Nd k ad_this_nodes z_this_nodes) (stk := fun r => .long r :: [.ref (ad_this 0)]) (xq_runV (As := [.int (215 : Int32)]) (rest := [.ref (ad_this 0)]) ⟨hx, hb, hml, hown, hts⟩ (c_Kw_lettersOf (l := l) (o := o) (D := D) (k := k) (ad_this := ad_this_keywords) hw) (cw_Kw_lettersOf hts kw4_66 ⟨Nat.le_of_ble_eq_true rfl, Nat.le_of_ble_eq_true rfl⟩) (va_recv hK hP (ci := 1) (q0 := 2) rfl rfl) (hP.sub [2, 3] rfl) hK hJ hS (va_free hD hS hA [2, 3] rfl) ((hD.sub [2, 3] (by decide) rfl).weaken (fun _ _ _ _ => trivial)) rfl hl.1 (Nat.le_of_ble_eq_true rfl) d_Pg_beginStatement_38 ⟨Nat.le_of_ble_eq_true rfl, Nat.le_of_ble_eq_true rfl⟩) hP hD hS hA [2, 3] [0, 1, 4, 5, 6, 7, 8, 9, 10, 11, 12, 13, 14, 15, 16, 17, 18, 19] rfl rfl (by decide) (by decide) (fun _ => rfl) (fun r22 u22 H locs hw hP hD hS => ?_) (fun _ _ _ _ h9 => h9.elim)
    have hP : va_P D vwCl (w_Pg k ad_this (ad_this_keywords 0) (ad_this_names 0) (ad_this_nodes 0) u2 ++ w_Kw k ad_this_keywords z_this_keywords ++ w_Nm k ad_this_names z_this_names ++ w_Nd k ad_this_nodes z_this_nodes) H := hP.sub [0, 1, 18, 19, 2, 3, 4, 5, 6, 7, 8, 9, 10, 11, 12, 13, 14, 15, 16, 17] rfl
    have hD : va_D A (w_Pg k ad_this (ad_this_keywords 0) (ad_this_names 0) (ad_this_nodes 0) u2 ++ w_Kw k ad_this_keywords z_this_keywords ++ w_Nm k ad_this_names z_this_names ++ w_Nd k ad_this_nodes z_this_nodes) := hD.sub [0, 1, 18, 19, 2, 3, 4, 5, 6, 7, 8, 9, 10, 11, 12, 13, 14, 15, 16, 17] (by decide) rfl
    refine xq_go (wr := w_Kw k ad_this_keywords z_this_keywords ++ w_Nm k ad_this_names z_this_names ++ w_Nd k ad_this_nodes z_this_nodes) (stk := fun _ => []) (xq_runV (As := [.long r22]) (rest := []) ⟨hx, hb, hml, hown, hts⟩ (c_Pg_putLetters (l := l) (o := o) (D := D) (k := k) (ad_this := ad_this) (q_this_keywords := (ad_this_keywords 0)) (q_this_names := (ad_this_names 0)) (q_this_nodes := (ad_this_nodes 0)) hw) (cw_Pg_putLetters hts kw4_70 ⟨Nat.le_of_ble_eq_true rfl, Nat.le_of_ble_eq_true rfl⟩) (va_recv hK hP (ci := 7) (q0 := 0) rfl rfl) (hP.sub [0, 1] rfl) hK hJ hS (va_free hD hS hA [0, 1] rfl) ((hD.sub [0, 1] (by decide) rfl).weaken (fun _ _ _ _ => trivial)) rfl hl.1 (Nat.le_of_ble_eq_true rfl) d_Pg_beginStatement_41 ⟨Nat.le_of_ble_eq_true rfl, Nat.le_of_ble_eq_true rfl⟩) hP hD hS hA [0, 1] [2, 3, 4, 5, 6, 7, 8, 9, 10, 11, 12, 13, 14, 15, 16, 17, 18, 19] rfl rfl (by decide) (by decide) (fun _ => rfl) (fun r23 u23 H locs hw hP hD hS => ?_) (fun _ _ _ _ h9 => h9.elim)
    have hP : va_P D vwCl (w_Pg k ad_this (ad_this_keywords 0) (ad_this_names 0) (ad_this_nodes 0) u23 ++ w_Kw k ad_this_keywords z_this_keywords ++ w_Nm k ad_this_names z_this_names ++ w_Nd k ad_this_nodes z_this_nodes) H := hP.sub [18, 19, 0, 1, 2, 3, 4, 5, 6, 7, 8, 9, 10, 11, 12, 13, 14, 15, 16, 17] rfl
    have hD : va_D A (w_Pg k ad_this (ad_this_keywords 0) (ad_this_names 0) (ad_this_nodes 0) u23 ++ w_Kw k ad_this_keywords z_this_keywords ++ w_Nm k ad_this_names z_this_names ++ w_Nd k ad_this_nodes z_this_nodes) := hD.sub [18, 19, 0, 1, 2, 3, 4, 5, 6, 7, 8, 9, 10, 11, 12, 13, 14, 15, 16, 17] (by decide) rfl
    refine lv_iload_n hx hb d_Pg_beginStatement_44 rfl (lv_at hl 0 rfl) ?_
    by_cases hc0 : r1 = (10 : Int32)
    · have hw := hw.1 hc0
      refine W.eq (g2 := F0 m 45 ls ([.int (10 : Int32)])) (by rw [hc0]) ?_
      refine lv_tableIn (tgt := 120) hx hb d_Pg_beginStatement_45 (by decide) (by decide) rfl (by decide) ?_
      refine lv_aload_n hx hb d_Pg_beginStatement_120 rfl (lv_at hl 1 rfl) ?_
      refine lv_aload_n hx hb d_Pg_beginStatement_121 rfl (lv_at hl 1 rfl) ?_
      refine va_get (D := D) (ci := 7) (v := .ref (ad_this_names 0)) (C := R_Pg) (T := F_Pg) (N := 5) hx hb hts in_Pg hown hK hP 0 rfl rfl 3 (by decide) (hts (.fieldLink R_Pg 25 R_Pg "names" "LStepText$Names;") kw2_31) (fun _ h9 => h9) rfl d_Pg_beginStatement_122 ?_
      refine lv_aload_n hx hb d_Pg_beginStatement_125 rfl (lv_at hl 1 rfl) ?_
      refine va_get (D := D) (ci := 7) (v := .ref (ad_this_nodes 0)) (C := R_Pg) (T := F_Pg) (N := 5) hx hb hts in_Pg hown hK hP 0 rfl rfl 4 (by decide) (hts (.fieldLink R_Pg 32 R_Pg "nodes" "LStepText$Nodes;") kw2_32) (fun _ h9 => h9) rfl d_Pg_beginStatement_126 ?_
      refine lv_iload_n hx hb d_Pg_beginStatement_129 rfl (lv_at hl 2 rfl) ?_
      refine xq_go (wr := w_Pg k ad_this (ad_this_keywords 0) (ad_this_names 0) (ad_this_nodes 0) u23 ++ w_Kw k ad_this_keywords z_this_keywords ++ w_Nm k ad_this_names z_this_names) (stk := fun r => .int r :: [.ref (ad_this_names 0), .ref (ad_this 0)]) (xq_runV (As := [.int a1]) (rest := [.ref (ad_this_names 0), .ref (ad_this 0)]) ⟨hx, hb, hml, hown, hts⟩ (c_Nd_subjectOf (l := l) (o := o) (D := D) (k := k) (ad_this := ad_this_nodes) hw) (cw_Nd_subjectOf hts kw4_78 ⟨Nat.le_of_ble_eq_true rfl, Nat.le_of_ble_eq_true rfl⟩) (va_recv hK hP (ci := 4) (q0 := 9) rfl rfl) (hP.sub [9, 10, 11, 12, 13, 14, 15, 16, 17, 18, 19] rfl) hK hJ hS (va_free hD hS hA [9, 10, 11, 12, 13, 14, 15, 16, 17, 18, 19] rfl) ((hD.sub [9, 10, 11, 12, 13, 14, 15, 16, 17, 18, 19] (by decide) rfl).weaken (fun _ _ _ _ => trivial)) rfl hl.1 (Nat.le_of_ble_eq_true rfl) d_Pg_beginStatement_130 ⟨Nat.le_of_ble_eq_true rfl, Nat.le_of_ble_eq_true rfl⟩) hP hD hS hA [9, 10, 11, 12, 13, 14, 15, 16, 17, 18, 19] [0, 1, 2, 3, 4, 5, 6, 7, 8] rfl rfl (by decide) (by decide) (fun _ => rfl) (fun r24 u24 H locs hw hP hD hS => ?_) (fun _ _ _ _ h9 => h9.elim)
      have hP : va_P D vwCl (w_Pg k ad_this (ad_this_keywords 0) (ad_this_names 0) (ad_this_nodes 0) u23 ++ w_Kw k ad_this_keywords z_this_keywords ++ w_Nm k ad_this_names z_this_names ++ w_Nd k ad_this_nodes z_this_nodes) H := hP.sub [0, 1, 2, 3, 4, 5, 6, 7, 8, 9, 10, 11, 12, 13, 14, 15, 16, 17, 18, 19] rfl
      have hD : va_D A (w_Pg k ad_this (ad_this_keywords 0) (ad_this_names 0) (ad_this_nodes 0) u23 ++ w_Kw k ad_this_keywords z_this_keywords ++ w_Nm k ad_this_names z_this_names ++ w_Nd k ad_this_nodes z_this_nodes) := hD.sub [0, 1, 2, 3, 4, 5, 6, 7, 8, 9, 10, 11, 12, 13, 14, 15, 16, 17, 18, 19] (by decide) rfl
      refine xq_go (wr := w_Pg k ad_this (ad_this_keywords 0) (ad_this_names 0) (ad_this_nodes 0) u23 ++ w_Kw k ad_this_keywords z_this_keywords ++ w_Nd k ad_this_nodes z_this_nodes) (stk := fun r => .long r :: [.ref (ad_this 0)]) (xq_runV (As := [.int r24]) (rest := [.ref (ad_this 0)]) ⟨hx, hb, hml, hown, hts⟩ (c_Nm_lettersOf (l := l) (o := o) (D := D) (k := k) (ad_this := ad_this_names) hw) (cw_Nm_lettersOf hts kw4_79 ⟨Nat.le_of_ble_eq_true rfl, Nat.le_of_ble_eq_true rfl⟩) (va_recv hK hP (ci := 3) (q0 := 4) rfl rfl) (hP.sub [4, 5, 6, 7, 8] rfl) hK hJ hS (va_free hD hS hA [4, 5, 6, 7, 8] rfl) ((hD.sub [4, 5, 6, 7, 8] (by decide) rfl).weaken (fun _ _ _ _ => trivial)) rfl hl.1 (Nat.le_of_ble_eq_true rfl) d_Pg_beginStatement_133 ⟨Nat.le_of_ble_eq_true rfl, Nat.le_of_ble_eq_true rfl⟩) hP hD hS hA [4, 5, 6, 7, 8] [0, 1, 2, 3, 9, 10, 11, 12, 13, 14, 15, 16, 17, 18, 19] rfl rfl (by decide) (by decide) (fun _ => rfl) (fun r25 u25 H locs hw hP hD hS => ?_) (fun _ _ _ _ h9 => h9.elim)
      have hP : va_P D vwCl (w_Pg k ad_this (ad_this_keywords 0) (ad_this_names 0) (ad_this_nodes 0) u23 ++ w_Kw k ad_this_keywords z_this_keywords ++ w_Nm k ad_this_names z_this_names ++ w_Nd k ad_this_nodes z_this_nodes) H := hP.sub [0, 1, 2, 3, 15, 16, 17, 18, 19, 4, 5, 6, 7, 8, 9, 10, 11, 12, 13, 14] rfl
      have hD : va_D A (w_Pg k ad_this (ad_this_keywords 0) (ad_this_names 0) (ad_this_nodes 0) u23 ++ w_Kw k ad_this_keywords z_this_keywords ++ w_Nm k ad_this_names z_this_names ++ w_Nd k ad_this_nodes z_this_nodes) := hD.sub [0, 1, 2, 3, 15, 16, 17, 18, 19, 4, 5, 6, 7, 8, 9, 10, 11, 12, 13, 14] (by decide) rfl
      refine xq_go (wr := w_Kw k ad_this_keywords z_this_keywords ++ w_Nm k ad_this_names z_this_names ++ w_Nd k ad_this_nodes z_this_nodes) (stk := fun _ => []) (xq_runV (As := [.long r25]) (rest := []) ⟨hx, hb, hml, hown, hts⟩ (c_Pg_putLetters (l := l) (o := o) (D := D) (k := k) (ad_this := ad_this) (q_this_keywords := (ad_this_keywords 0)) (q_this_names := (ad_this_names 0)) (q_this_nodes := (ad_this_nodes 0)) hw) (cw_Pg_putLetters hts kw4_70 ⟨Nat.le_of_ble_eq_true rfl, Nat.le_of_ble_eq_true rfl⟩) (va_recv hK hP (ci := 7) (q0 := 0) rfl rfl) (hP.sub [0, 1] rfl) hK hJ hS (va_free hD hS hA [0, 1] rfl) ((hD.sub [0, 1] (by decide) rfl).weaken (fun _ _ _ _ => trivial)) rfl hl.1 (Nat.le_of_ble_eq_true rfl) d_Pg_beginStatement_136 ⟨Nat.le_of_ble_eq_true rfl, Nat.le_of_ble_eq_true rfl⟩) hP hD hS hA [0, 1] [2, 3, 4, 5, 6, 7, 8, 9, 10, 11, 12, 13, 14, 15, 16, 17, 18, 19] rfl rfl (by decide) (by decide) (fun _ => rfl) (fun r26 u26 H locs hw hP hD hS => ?_) (fun _ _ _ _ h9 => h9.elim)
      have hP : va_P D vwCl (w_Pg k ad_this (ad_this_keywords 0) (ad_this_names 0) (ad_this_nodes 0) u26 ++ w_Kw k ad_this_keywords z_this_keywords ++ w_Nm k ad_this_names z_this_names ++ w_Nd k ad_this_nodes z_this_nodes) H := hP.sub [18, 19, 0, 1, 2, 3, 4, 5, 6, 7, 8, 9, 10, 11, 12, 13, 14, 15, 16, 17] rfl
      have hD : va_D A (w_Pg k ad_this (ad_this_keywords 0) (ad_this_names 0) (ad_this_nodes 0) u26 ++ w_Kw k ad_this_keywords z_this_keywords ++ w_Nm k ad_this_names z_this_names ++ w_Nd k ad_this_nodes z_this_nodes) := hD.sub [18, 19, 0, 1, 2, 3, 4, 5, 6, 7, 8, 9, 10, 11, 12, 13, 14, 15, 16, 17] (by decide) rfl
      refine lv_goto (tgt := 161) hx hb d_Pg_beginStatement_139 (by decide) ?_
      exact xq_vret (r := ()) (u := u26) hx hb hr hlocks hAe hP hD hS rfl hw (Nat.le_of_ble_eq_true rfl) (Nat.le_of_ble_eq_true rfl) d_Pg_beginStatement_161
    by_cases hc1 : r1 = (13 : Int32)
    · have hw := hw.2.1 hc1
      refine W.eq (g2 := F0 m 45 ls ([.int (13 : Int32)])) (by rw [hc1]) ?_
      refine lv_tableIn (tgt := 120) hx hb d_Pg_beginStatement_45 (by decide) (by decide) rfl (by decide) ?_
      refine lv_aload_n hx hb d_Pg_beginStatement_120 rfl (lv_at hl 1 rfl) ?_
      refine lv_aload_n hx hb d_Pg_beginStatement_121 rfl (lv_at hl 1 rfl) ?_
      refine va_get (D := D) (ci := 7) (v := .ref (ad_this_names 0)) (C := R_Pg) (T := F_Pg) (N := 5) hx hb hts in_Pg hown hK hP 0 rfl rfl 3 (by decide) (hts (.fieldLink R_Pg 25 R_Pg "names" "LStepText$Names;") kw2_31) (fun _ h9 => h9) rfl d_Pg_beginStatement_122 ?_
      refine lv_aload_n hx hb d_Pg_beginStatement_125 rfl (lv_at hl 1 rfl) ?_
      refine va_get (D := D) (ci := 7) (v := .ref (ad_this_nodes 0)) (C := R_Pg) (T := F_Pg) (N := 5) hx hb hts in_Pg hown hK hP 0 rfl rfl 4 (by decide) (hts (.fieldLink R_Pg 32 R_Pg "nodes" "LStepText$Nodes;") kw2_32) (fun _ h9 => h9) rfl d_Pg_beginStatement_126 ?_
      refine lv_iload_n hx hb d_Pg_beginStatement_129 rfl (lv_at hl 2 rfl) ?_
      refine xq_go (wr := w_Pg k ad_this (ad_this_keywords 0) (ad_this_names 0) (ad_this_nodes 0) u23 ++ w_Kw k ad_this_keywords z_this_keywords ++ w_Nm k ad_this_names z_this_names) (stk := fun r => .int r :: [.ref (ad_this_names 0), .ref (ad_this 0)]) (xq_runV (As := [.int a1]) (rest := [.ref (ad_this_names 0), .ref (ad_this 0)]) ⟨hx, hb, hml, hown, hts⟩ (c_Nd_subjectOf (l := l) (o := o) (D := D) (k := k) (ad_this := ad_this_nodes) hw) (cw_Nd_subjectOf hts kw4_78 ⟨Nat.le_of_ble_eq_true rfl, Nat.le_of_ble_eq_true rfl⟩) (va_recv hK hP (ci := 4) (q0 := 9) rfl rfl) (hP.sub [9, 10, 11, 12, 13, 14, 15, 16, 17, 18, 19] rfl) hK hJ hS (va_free hD hS hA [9, 10, 11, 12, 13, 14, 15, 16, 17, 18, 19] rfl) ((hD.sub [9, 10, 11, 12, 13, 14, 15, 16, 17, 18, 19] (by decide) rfl).weaken (fun _ _ _ _ => trivial)) rfl hl.1 (Nat.le_of_ble_eq_true rfl) d_Pg_beginStatement_130 ⟨Nat.le_of_ble_eq_true rfl, Nat.le_of_ble_eq_true rfl⟩) hP hD hS hA [9, 10, 11, 12, 13, 14, 15, 16, 17, 18, 19] [0, 1, 2, 3, 4, 5, 6, 7, 8] rfl rfl (by decide) (by decide) (fun _ => rfl) (fun r27 u27 H locs hw hP hD hS => ?_) (fun _ _ _ _ h9 => h9.elim)
      have hP : va_P D vwCl (w_Pg k ad_this (ad_this_keywords 0) (ad_this_names 0) (ad_this_nodes 0) u23 ++ w_Kw k ad_this_keywords z_this_keywords ++ w_Nm k ad_this_names z_this_names ++ w_Nd k ad_this_nodes z_this_nodes) H := hP.sub [0, 1, 2, 3, 4, 5, 6, 7, 8, 9, 10, 11, 12, 13, 14, 15, 16, 17, 18, 19] rfl
      have hD : va_D A (w_Pg k ad_this (ad_this_keywords 0) (ad_this_names 0) (ad_this_nodes 0) u23 ++ w_Kw k ad_this_keywords z_this_keywords ++ w_Nm k ad_this_names z_this_names ++ w_Nd k ad_this_nodes z_this_nodes) := hD.sub [0, 1, 2, 3, 4, 5, 6, 7, 8, 9, 10, 11, 12, 13, 14, 15, 16, 17, 18, 19] (by decide) rfl
      refine xq_go (wr := w_Pg k ad_this (ad_this_keywords 0) (ad_this_names 0) (ad_this_nodes 0) u23 ++ w_Kw k ad_this_keywords z_this_keywords ++ w_Nd k ad_this_nodes z_this_nodes) (stk := fun r => .long r :: [.ref (ad_this 0)]) (xq_runV (As := [.int r27]) (rest := [.ref (ad_this 0)]) ⟨hx, hb, hml, hown, hts⟩ (c_Nm_lettersOf (l := l) (o := o) (D := D) (k := k) (ad_this := ad_this_names) hw) (cw_Nm_lettersOf hts kw4_79 ⟨Nat.le_of_ble_eq_true rfl, Nat.le_of_ble_eq_true rfl⟩) (va_recv hK hP (ci := 3) (q0 := 4) rfl rfl) (hP.sub [4, 5, 6, 7, 8] rfl) hK hJ hS (va_free hD hS hA [4, 5, 6, 7, 8] rfl) ((hD.sub [4, 5, 6, 7, 8] (by decide) rfl).weaken (fun _ _ _ _ => trivial)) rfl hl.1 (Nat.le_of_ble_eq_true rfl) d_Pg_beginStatement_133 ⟨Nat.le_of_ble_eq_true rfl, Nat.le_of_ble_eq_true rfl⟩) hP hD hS hA [4, 5, 6, 7, 8] [0, 1, 2, 3, 9, 10, 11, 12, 13, 14, 15, 16, 17, 18, 19] rfl rfl (by decide) (by decide) (fun _ => rfl) (fun r28 u28 H locs hw hP hD hS => ?_) (fun _ _ _ _ h9 => h9.elim)
      have hP : va_P D vwCl (w_Pg k ad_this (ad_this_keywords 0) (ad_this_names 0) (ad_this_nodes 0) u23 ++ w_Kw k ad_this_keywords z_this_keywords ++ w_Nm k ad_this_names z_this_names ++ w_Nd k ad_this_nodes z_this_nodes) H := hP.sub [0, 1, 2, 3, 15, 16, 17, 18, 19, 4, 5, 6, 7, 8, 9, 10, 11, 12, 13, 14] rfl
      have hD : va_D A (w_Pg k ad_this (ad_this_keywords 0) (ad_this_names 0) (ad_this_nodes 0) u23 ++ w_Kw k ad_this_keywords z_this_keywords ++ w_Nm k ad_this_names z_this_names ++ w_Nd k ad_this_nodes z_this_nodes) := hD.sub [0, 1, 2, 3, 15, 16, 17, 18, 19, 4, 5, 6, 7, 8, 9, 10, 11, 12, 13, 14] (by decide) rfl
      refine xq_go (wr := w_Kw k ad_this_keywords z_this_keywords ++ w_Nm k ad_this_names z_this_names ++ w_Nd k ad_this_nodes z_this_nodes) (stk := fun _ => []) (xq_runV (As := [.long r28]) (rest := []) ⟨hx, hb, hml, hown, hts⟩ (c_Pg_putLetters (l := l) (o := o) (D := D) (k := k) (ad_this := ad_this) (q_this_keywords := (ad_this_keywords 0)) (q_this_names := (ad_this_names 0)) (q_this_nodes := (ad_this_nodes 0)) hw) (cw_Pg_putLetters hts kw4_70 ⟨Nat.le_of_ble_eq_true rfl, Nat.le_of_ble_eq_true rfl⟩) (va_recv hK hP (ci := 7) (q0 := 0) rfl rfl) (hP.sub [0, 1] rfl) hK hJ hS (va_free hD hS hA [0, 1] rfl) ((hD.sub [0, 1] (by decide) rfl).weaken (fun _ _ _ _ => trivial)) rfl hl.1 (Nat.le_of_ble_eq_true rfl) d_Pg_beginStatement_136 ⟨Nat.le_of_ble_eq_true rfl, Nat.le_of_ble_eq_true rfl⟩) hP hD hS hA [0, 1] [2, 3, 4, 5, 6, 7, 8, 9, 10, 11, 12, 13, 14, 15, 16, 17, 18, 19] rfl rfl (by decide) (by decide) (fun _ => rfl) (fun r29 u29 H locs hw hP hD hS => ?_) (fun _ _ _ _ h9 => h9.elim)
      have hP : va_P D vwCl (w_Pg k ad_this (ad_this_keywords 0) (ad_this_names 0) (ad_this_nodes 0) u29 ++ w_Kw k ad_this_keywords z_this_keywords ++ w_Nm k ad_this_names z_this_names ++ w_Nd k ad_this_nodes z_this_nodes) H := hP.sub [18, 19, 0, 1, 2, 3, 4, 5, 6, 7, 8, 9, 10, 11, 12, 13, 14, 15, 16, 17] rfl
      have hD : va_D A (w_Pg k ad_this (ad_this_keywords 0) (ad_this_names 0) (ad_this_nodes 0) u29 ++ w_Kw k ad_this_keywords z_this_keywords ++ w_Nm k ad_this_names z_this_names ++ w_Nd k ad_this_nodes z_this_nodes) := hD.sub [18, 19, 0, 1, 2, 3, 4, 5, 6, 7, 8, 9, 10, 11, 12, 13, 14, 15, 16, 17] (by decide) rfl
      refine lv_goto (tgt := 161) hx hb d_Pg_beginStatement_139 (by decide) ?_
      exact xq_vret (r := ()) (u := u29) hx hb hr hlocks hAe hP hD hS rfl hw (Nat.le_of_ble_eq_true rfl) (Nat.le_of_ble_eq_true rfl) d_Pg_beginStatement_161
    by_cases hc2 : r1 = (18 : Int32)
    · have hw := hw.2.2.1 hc2
      refine W.eq (g2 := F0 m 45 ls ([.int (18 : Int32)])) (by rw [hc2]) ?_
      refine lv_tableIn (tgt := 120) hx hb d_Pg_beginStatement_45 (by decide) (by decide) rfl (by decide) ?_
      refine lv_aload_n hx hb d_Pg_beginStatement_120 rfl (lv_at hl 1 rfl) ?_
      refine lv_aload_n hx hb d_Pg_beginStatement_121 rfl (lv_at hl 1 rfl) ?_
      refine va_get (D := D) (ci := 7) (v := .ref (ad_this_names 0)) (C := R_Pg) (T := F_Pg) (N := 5) hx hb hts in_Pg hown hK hP 0 rfl rfl 3 (by decide) (hts (.fieldLink R_Pg 25 R_Pg "names" "LStepText$Names;") kw2_31) (fun _ h9 => h9) rfl d_Pg_beginStatement_122 ?_
      refine lv_aload_n hx hb d_Pg_beginStatement_125 rfl (lv_at hl 1 rfl) ?_
      refine va_get (D := D) (ci := 7) (v := .ref (ad_this_nodes 0)) (C := R_Pg) (T := F_Pg) (N := 5) hx hb hts in_Pg hown hK hP 0 rfl rfl 4 (by decide) (hts (.fieldLink R_Pg 32 R_Pg "nodes" "LStepText$Nodes;") kw2_32) (fun _ h9 => h9) rfl d_Pg_beginStatement_126 ?_
      refine lv_iload_n hx hb d_Pg_beginStatement_129 rfl (lv_at hl 2 rfl) ?_
      refine xq_go (wr := w_Pg k ad_this (ad_this_keywords 0) (ad_this_names 0) (ad_this_nodes 0) u23 ++ w_Kw k ad_this_keywords z_this_keywords ++ w_Nm k ad_this_names z_this_names) (stk := fun r => .int r :: [.ref (ad_this_names 0), .ref (ad_this 0)]) (xq_runV (As := [.int a1]) (rest := [.ref (ad_this_names 0), .ref (ad_this 0)]) ⟨hx, hb, hml, hown, hts⟩ (c_Nd_subjectOf (l := l) (o := o) (D := D) (k := k) (ad_this := ad_this_nodes) hw) (cw_Nd_subjectOf hts kw4_78 ⟨Nat.le_of_ble_eq_true rfl, Nat.le_of_ble_eq_true rfl⟩) (va_recv hK hP (ci := 4) (q0 := 9) rfl rfl) (hP.sub [9, 10, 11, 12, 13, 14, 15, 16, 17, 18, 19] rfl) hK hJ hS (va_free hD hS hA [9, 10, 11, 12, 13, 14, 15, 16, 17, 18, 19] rfl) ((hD.sub [9, 10, 11, 12, 13, 14, 15, 16, 17, 18, 19] (by decide) rfl).weaken (fun _ _ _ _ => trivial)) rfl hl.1 (Nat.le_of_ble_eq_true rfl) d_Pg_beginStatement_130 ⟨Nat.le_of_ble_eq_true rfl, Nat.le_of_ble_eq_true rfl⟩) hP hD hS hA [9, 10, 11, 12, 13, 14, 15, 16, 17, 18, 19] [0, 1, 2, 3, 4, 5, 6, 7, 8] rfl rfl (by decide) (by decide) (fun _ => rfl) (fun r30 u30 H locs hw hP hD hS => ?_) (fun _ _ _ _ h9 => h9.elim)
      have hP : va_P D vwCl (w_Pg k ad_this (ad_this_keywords 0) (ad_this_names 0) (ad_this_nodes 0) u23 ++ w_Kw k ad_this_keywords z_this_keywords ++ w_Nm k ad_this_names z_this_names ++ w_Nd k ad_this_nodes z_this_nodes) H := hP.sub [0, 1, 2, 3, 4, 5, 6, 7, 8, 9, 10, 11, 12, 13, 14, 15, 16, 17, 18, 19] rfl
      have hD : va_D A (w_Pg k ad_this (ad_this_keywords 0) (ad_this_names 0) (ad_this_nodes 0) u23 ++ w_Kw k ad_this_keywords z_this_keywords ++ w_Nm k ad_this_names z_this_names ++ w_Nd k ad_this_nodes z_this_nodes) := hD.sub [0, 1, 2, 3, 4, 5, 6, 7, 8, 9, 10, 11, 12, 13, 14, 15, 16, 17, 18, 19] (by decide) rfl
      refine xq_go (wr := w_Pg k ad_this (ad_this_keywords 0) (ad_this_names 0) (ad_this_nodes 0) u23 ++ w_Kw k ad_this_keywords z_this_keywords ++ w_Nd k ad_this_nodes z_this_nodes) (stk := fun r => .long r :: [.ref (ad_this 0)]) (xq_runV (As := [.int r30]) (rest := [.ref (ad_this 0)]) ⟨hx, hb, hml, hown, hts⟩ (c_Nm_lettersOf (l := l) (o := o) (D := D) (k := k) (ad_this := ad_this_names) hw) (cw_Nm_lettersOf hts kw4_79 ⟨Nat.le_of_ble_eq_true rfl, Nat.le_of_ble_eq_true rfl⟩) (va_recv hK hP (ci := 3) (q0 := 4) rfl rfl) (hP.sub [4, 5, 6, 7, 8] rfl) hK hJ hS (va_free hD hS hA [4, 5, 6, 7, 8] rfl) ((hD.sub [4, 5, 6, 7, 8] (by decide) rfl).weaken (fun _ _ _ _ => trivial)) rfl hl.1 (Nat.le_of_ble_eq_true rfl) d_Pg_beginStatement_133 ⟨Nat.le_of_ble_eq_true rfl, Nat.le_of_ble_eq_true rfl⟩) hP hD hS hA [4, 5, 6, 7, 8] [0, 1, 2, 3, 9, 10, 11, 12, 13, 14, 15, 16, 17, 18, 19] rfl rfl (by decide) (by decide) (fun _ => rfl) (fun r31 u31 H locs hw hP hD hS => ?_) (fun _ _ _ _ h9 => h9.elim)
      have hP : va_P D vwCl (w_Pg k ad_this (ad_this_keywords 0) (ad_this_names 0) (ad_this_nodes 0) u23 ++ w_Kw k ad_this_keywords z_this_keywords ++ w_Nm k ad_this_names z_this_names ++ w_Nd k ad_this_nodes z_this_nodes) H := hP.sub [0, 1, 2, 3, 15, 16, 17, 18, 19, 4, 5, 6, 7, 8, 9, 10, 11, 12, 13, 14] rfl
      have hD : va_D A (w_Pg k ad_this (ad_this_keywords 0) (ad_this_names 0) (ad_this_nodes 0) u23 ++ w_Kw k ad_this_keywords z_this_keywords ++ w_Nm k ad_this_names z_this_names ++ w_Nd k ad_this_nodes z_this_nodes) := hD.sub [0, 1, 2, 3, 15, 16, 17, 18, 19, 4, 5, 6, 7, 8, 9, 10, 11, 12, 13, 14] (by decide) rfl
      refine xq_go (wr := w_Kw k ad_this_keywords z_this_keywords ++ w_Nm k ad_this_names z_this_names ++ w_Nd k ad_this_nodes z_this_nodes) (stk := fun _ => []) (xq_runV (As := [.long r31]) (rest := []) ⟨hx, hb, hml, hown, hts⟩ (c_Pg_putLetters (l := l) (o := o) (D := D) (k := k) (ad_this := ad_this) (q_this_keywords := (ad_this_keywords 0)) (q_this_names := (ad_this_names 0)) (q_this_nodes := (ad_this_nodes 0)) hw) (cw_Pg_putLetters hts kw4_70 ⟨Nat.le_of_ble_eq_true rfl, Nat.le_of_ble_eq_true rfl⟩) (va_recv hK hP (ci := 7) (q0 := 0) rfl rfl) (hP.sub [0, 1] rfl) hK hJ hS (va_free hD hS hA [0, 1] rfl) ((hD.sub [0, 1] (by decide) rfl).weaken (fun _ _ _ _ => trivial)) rfl hl.1 (Nat.le_of_ble_eq_true rfl) d_Pg_beginStatement_136 ⟨Nat.le_of_ble_eq_true rfl, Nat.le_of_ble_eq_true rfl⟩) hP hD hS hA [0, 1] [2, 3, 4, 5, 6, 7, 8, 9, 10, 11, 12, 13, 14, 15, 16, 17, 18, 19] rfl rfl (by decide) (by decide) (fun _ => rfl) (fun r32 u32 H locs hw hP hD hS => ?_) (fun _ _ _ _ h9 => h9.elim)
      have hP : va_P D vwCl (w_Pg k ad_this (ad_this_keywords 0) (ad_this_names 0) (ad_this_nodes 0) u32 ++ w_Kw k ad_this_keywords z_this_keywords ++ w_Nm k ad_this_names z_this_names ++ w_Nd k ad_this_nodes z_this_nodes) H := hP.sub [18, 19, 0, 1, 2, 3, 4, 5, 6, 7, 8, 9, 10, 11, 12, 13, 14, 15, 16, 17] rfl
      have hD : va_D A (w_Pg k ad_this (ad_this_keywords 0) (ad_this_names 0) (ad_this_nodes 0) u32 ++ w_Kw k ad_this_keywords z_this_keywords ++ w_Nm k ad_this_names z_this_names ++ w_Nd k ad_this_nodes z_this_nodes) := hD.sub [18, 19, 0, 1, 2, 3, 4, 5, 6, 7, 8, 9, 10, 11, 12, 13, 14, 15, 16, 17] (by decide) rfl
      refine lv_goto (tgt := 161) hx hb d_Pg_beginStatement_139 (by decide) ?_
      exact xq_vret (r := ()) (u := u32) hx hb hr hlocks hAe hP hD hS rfl hw (Nat.le_of_ble_eq_true rfl) (Nat.le_of_ble_eq_true rfl) d_Pg_beginStatement_161
    by_cases hc3 : r1 = (19 : Int32)
    · have hw := hw.2.2.2.1 hc3
      refine W.eq (g2 := F0 m 45 ls ([.int (19 : Int32)])) (by rw [hc3]) ?_
      refine lv_tableIn (tgt := 120) hx hb d_Pg_beginStatement_45 (by decide) (by decide) rfl (by decide) ?_
      refine lv_aload_n hx hb d_Pg_beginStatement_120 rfl (lv_at hl 1 rfl) ?_
      refine lv_aload_n hx hb d_Pg_beginStatement_121 rfl (lv_at hl 1 rfl) ?_
      refine va_get (D := D) (ci := 7) (v := .ref (ad_this_names 0)) (C := R_Pg) (T := F_Pg) (N := 5) hx hb hts in_Pg hown hK hP 0 rfl rfl 3 (by decide) (hts (.fieldLink R_Pg 25 R_Pg "names" "LStepText$Names;") kw2_31) (fun _ h9 => h9) rfl d_Pg_beginStatement_122 ?_
      refine lv_aload_n hx hb d_Pg_beginStatement_125 rfl (lv_at hl 1 rfl) ?_
      refine va_get (D := D) (ci := 7) (v := .ref (ad_this_nodes 0)) (C := R_Pg) (T := F_Pg) (N := 5) hx hb hts in_Pg hown hK hP 0 rfl rfl 4 (by decide) (hts (.fieldLink R_Pg 32 R_Pg "nodes" "LStepText$Nodes;") kw2_32) (fun _ h9 => h9) rfl d_Pg_beginStatement_126 ?_
      refine lv_iload_n hx hb d_Pg_beginStatement_129 rfl (lv_at hl 2 rfl) ?_
      refine xq_go (wr := w_Pg k ad_this (ad_this_keywords 0) (ad_this_names 0) (ad_this_nodes 0) u23 ++ w_Kw k ad_this_keywords z_this_keywords ++ w_Nm k ad_this_names z_this_names) (stk := fun r => .int r :: [.ref (ad_this_names 0), .ref (ad_this 0)]) (xq_runV (As := [.int a1]) (rest := [.ref (ad_this_names 0), .ref (ad_this 0)]) ⟨hx, hb, hml, hown, hts⟩ (c_Nd_subjectOf (l := l) (o := o) (D := D) (k := k) (ad_this := ad_this_nodes) hw) (cw_Nd_subjectOf hts kw4_78 ⟨Nat.le_of_ble_eq_true rfl, Nat.le_of_ble_eq_true rfl⟩) (va_recv hK hP (ci := 4) (q0 := 9) rfl rfl) (hP.sub [9, 10, 11, 12, 13, 14, 15, 16, 17, 18, 19] rfl) hK hJ hS (va_free hD hS hA [9, 10, 11, 12, 13, 14, 15, 16, 17, 18, 19] rfl) ((hD.sub [9, 10, 11, 12, 13, 14, 15, 16, 17, 18, 19] (by decide) rfl).weaken (fun _ _ _ _ => trivial)) rfl hl.1 (Nat.le_of_ble_eq_true rfl) d_Pg_beginStatement_130 ⟨Nat.le_of_ble_eq_true rfl, Nat.le_of_ble_eq_true rfl⟩) hP hD hS hA [9, 10, 11, 12, 13, 14, 15, 16, 17, 18, 19] [0, 1, 2, 3, 4, 5, 6, 7, 8] rfl rfl (by decide) (by decide) (fun _ => rfl) (fun r33 u33 H locs hw hP hD hS => ?_) (fun _ _ _ _ h9 => h9.elim)
      have hP : va_P D vwCl (w_Pg k ad_this (ad_this_keywords 0) (ad_this_names 0) (ad_this_nodes 0) u23 ++ w_Kw k ad_this_keywords z_this_keywords ++ w_Nm k ad_this_names z_this_names ++ w_Nd k ad_this_nodes z_this_nodes) H := hP.sub [0, 1, 2, 3, 4, 5, 6, 7, 8, 9, 10, 11, 12, 13, 14, 15, 16, 17, 18, 19] rfl
      have hD : va_D A (w_Pg k ad_this (ad_this_keywords 0) (ad_this_names 0) (ad_this_nodes 0) u23 ++ w_Kw k ad_this_keywords z_this_keywords ++ w_Nm k ad_this_names z_this_names ++ w_Nd k ad_this_nodes z_this_nodes) := hD.sub [0, 1, 2, 3, 4, 5, 6, 7, 8, 9, 10, 11, 12, 13, 14, 15, 16, 17, 18, 19] (by decide) rfl
      refine xq_go (wr := w_Pg k ad_this (ad_this_keywords 0) (ad_this_names 0) (ad_this_nodes 0) u23 ++ w_Kw k ad_this_keywords z_this_keywords ++ w_Nd k ad_this_nodes z_this_nodes) (stk := fun r => .long r :: [.ref (ad_this 0)]) (xq_runV (As := [.int r33]) (rest := [.ref (ad_this 0)]) ⟨hx, hb, hml, hown, hts⟩ (c_Nm_lettersOf (l := l) (o := o) (D := D) (k := k) (ad_this := ad_this_names) hw) (cw_Nm_lettersOf hts kw4_79 ⟨Nat.le_of_ble_eq_true rfl, Nat.le_of_ble_eq_true rfl⟩) (va_recv hK hP (ci := 3) (q0 := 4) rfl rfl) (hP.sub [4, 5, 6, 7, 8] rfl) hK hJ hS (va_free hD hS hA [4, 5, 6, 7, 8] rfl) ((hD.sub [4, 5, 6, 7, 8] (by decide) rfl).weaken (fun _ _ _ _ => trivial)) rfl hl.1 (Nat.le_of_ble_eq_true rfl) d_Pg_beginStatement_133 ⟨Nat.le_of_ble_eq_true rfl, Nat.le_of_ble_eq_true rfl⟩) hP hD hS hA [4, 5, 6, 7, 8] [0, 1, 2, 3, 9, 10, 11, 12, 13, 14, 15, 16, 17, 18, 19] rfl rfl (by decide) (by decide) (fun _ => rfl) (fun r34 u34 H locs hw hP hD hS => ?_) (fun _ _ _ _ h9 => h9.elim)
      have hP : va_P D vwCl (w_Pg k ad_this (ad_this_keywords 0) (ad_this_names 0) (ad_this_nodes 0) u23 ++ w_Kw k ad_this_keywords z_this_keywords ++ w_Nm k ad_this_names z_this_names ++ w_Nd k ad_this_nodes z_this_nodes) H := hP.sub [0, 1, 2, 3, 15, 16, 17, 18, 19, 4, 5, 6, 7, 8, 9, 10, 11, 12, 13, 14] rfl
      have hD : va_D A (w_Pg k ad_this (ad_this_keywords 0) (ad_this_names 0) (ad_this_nodes 0) u23 ++ w_Kw k ad_this_keywords z_this_keywords ++ w_Nm k ad_this_names z_this_names ++ w_Nd k ad_this_nodes z_this_nodes) := hD.sub [0, 1, 2, 3, 15, 16, 17, 18, 19, 4, 5, 6, 7, 8, 9, 10, 11, 12, 13, 14] (by decide) rfl
      refine xq_go (wr := w_Kw k ad_this_keywords z_this_keywords ++ w_Nm k ad_this_names z_this_names ++ w_Nd k ad_this_nodes z_this_nodes) (stk := fun _ => []) (xq_runV (As := [.long r34]) (rest := []) ⟨hx, hb, hml, hown, hts⟩ (c_Pg_putLetters (l := l) (o := o) (D := D) (k := k) (ad_this := ad_this) (q_this_keywords := (ad_this_keywords 0)) (q_this_names := (ad_this_names 0)) (q_this_nodes := (ad_this_nodes 0)) hw) (cw_Pg_putLetters hts kw4_70 ⟨Nat.le_of_ble_eq_true rfl, Nat.le_of_ble_eq_true rfl⟩) (va_recv hK hP (ci := 7) (q0 := 0) rfl rfl) (hP.sub [0, 1] rfl) hK hJ hS (va_free hD hS hA [0, 1] rfl) ((hD.sub [0, 1] (by decide) rfl).weaken (fun _ _ _ _ => trivial)) rfl hl.1 (Nat.le_of_ble_eq_true rfl) d_Pg_beginStatement_136 ⟨Nat.le_of_ble_eq_true rfl, Nat.le_of_ble_eq_true rfl⟩) hP hD hS hA [0, 1] [2, 3, 4, 5, 6, 7, 8, 9, 10, 11, 12, 13, 14, 15, 16, 17, 18, 19] rfl rfl (by decide) (by decide) (fun _ => rfl) (fun r35 u35 H locs hw hP hD hS => ?_) (fun _ _ _ _ h9 => h9.elim)
      have hP : va_P D vwCl (w_Pg k ad_this (ad_this_keywords 0) (ad_this_names 0) (ad_this_nodes 0) u35 ++ w_Kw k ad_this_keywords z_this_keywords ++ w_Nm k ad_this_names z_this_names ++ w_Nd k ad_this_nodes z_this_nodes) H := hP.sub [18, 19, 0, 1, 2, 3, 4, 5, 6, 7, 8, 9, 10, 11, 12, 13, 14, 15, 16, 17] rfl
      have hD : va_D A (w_Pg k ad_this (ad_this_keywords 0) (ad_this_names 0) (ad_this_nodes 0) u35 ++ w_Kw k ad_this_keywords z_this_keywords ++ w_Nm k ad_this_names z_this_names ++ w_Nd k ad_this_nodes z_this_nodes) := hD.sub [18, 19, 0, 1, 2, 3, 4, 5, 6, 7, 8, 9, 10, 11, 12, 13, 14, 15, 16, 17] (by decide) rfl
      refine lv_goto (tgt := 161) hx hb d_Pg_beginStatement_139 (by decide) ?_
      exact xq_vret (r := ()) (u := u35) hx hb hr hlocks hAe hP hD hS rfl hw (Nat.le_of_ble_eq_true rfl) (Nat.le_of_ble_eq_true rfl) d_Pg_beginStatement_161
    by_cases hc4 : r1 = (22 : Int32)
    · have hw := hw.2.2.2.2.1 hc4
      refine W.eq (g2 := F0 m 45 ls ([.int (22 : Int32)])) (by rw [hc4]) ?_
      refine lv_tableIn (tgt := 142) hx hb d_Pg_beginStatement_45 (by decide) (by decide) rfl (by decide) ?_
      refine lv_aload_n hx hb d_Pg_beginStatement_142 rfl (lv_at hl 1 rfl) ?_
      refine lv_aload_n hx hb d_Pg_beginStatement_143 rfl (lv_at hl 1 rfl) ?_
      refine va_get (D := D) (ci := 7) (v := .ref (ad_this_nodes 0)) (C := R_Pg) (T := F_Pg) (N := 5) hx hb hts in_Pg hown hK hP 0 rfl rfl 4 (by decide) (hts (.fieldLink R_Pg 32 R_Pg "nodes" "LStepText$Nodes;") kw2_32) (fun _ h9 => h9) rfl d_Pg_beginStatement_144 ?_
      refine lv_iload_n hx hb d_Pg_beginStatement_147 rfl (lv_at hl 2 rfl) ?_
      refine xq_go (wr := w_Pg k ad_this (ad_this_keywords 0) (ad_this_names 0) (ad_this_nodes 0) u23 ++ w_Kw k ad_this_keywords z_this_keywords ++ w_Nm k ad_this_names z_this_names) (stk := fun r => .long r :: [.ref (ad_this 0)]) (xq_runV (As := [.int a1]) (rest := [.ref (ad_this 0)]) ⟨hx, hb, hml, hown, hts⟩ (c_Nd_valueOf (l := l) (o := o) (D := D) (k := k) (ad_this := ad_this_nodes) hw) (cw_Nd_valueOf hts kw4_41 ⟨Nat.le_of_ble_eq_true rfl, Nat.le_of_ble_eq_true rfl⟩) (va_recv hK hP (ci := 4) (q0 := 9) rfl rfl) (hP.sub [9, 10, 11, 12, 13, 14, 15, 16, 17, 18, 19] rfl) hK hJ hS (va_free hD hS hA [9, 10, 11, 12, 13, 14, 15, 16, 17, 18, 19] rfl) ((hD.sub [9, 10, 11, 12, 13, 14, 15, 16, 17, 18, 19] (by decide) rfl).weaken (fun _ _ _ _ => trivial)) rfl hl.1 (Nat.le_of_ble_eq_true rfl) d_Pg_beginStatement_148 ⟨Nat.le_of_ble_eq_true rfl, Nat.le_of_ble_eq_true rfl⟩) hP hD hS hA [9, 10, 11, 12, 13, 14, 15, 16, 17, 18, 19] [0, 1, 2, 3, 4, 5, 6, 7, 8] rfl rfl (by decide) (by decide) (fun _ => rfl) (fun r36 u36 H locs hw hP hD hS => ?_) (fun _ _ _ _ h9 => h9.elim)
      have hP : va_P D vwCl (w_Pg k ad_this (ad_this_keywords 0) (ad_this_names 0) (ad_this_nodes 0) u23 ++ w_Kw k ad_this_keywords z_this_keywords ++ w_Nm k ad_this_names z_this_names ++ w_Nd k ad_this_nodes z_this_nodes) H := hP.sub [0, 1, 2, 3, 4, 5, 6, 7, 8, 9, 10, 11, 12, 13, 14, 15, 16, 17, 18, 19] rfl
      have hD : va_D A (w_Pg k ad_this (ad_this_keywords 0) (ad_this_names 0) (ad_this_nodes 0) u23 ++ w_Kw k ad_this_keywords z_this_keywords ++ w_Nm k ad_this_names z_this_names ++ w_Nd k ad_this_nodes z_this_nodes) := hD.sub [0, 1, 2, 3, 4, 5, 6, 7, 8, 9, 10, 11, 12, 13, 14, 15, 16, 17, 18, 19] (by decide) rfl
      refine lv_ldc2 (v := (1000 : Int64)) hx hb hown (hts (.constantLong R_Pg 124 (1000)) kw4_58) d_Pg_beginStatement_151 ?_
      refine lv_lmul hx hb d_Pg_beginStatement_154 ?_
      refine xq_go (wr := w_Kw k ad_this_keywords z_this_keywords ++ w_Nm k ad_this_names z_this_names ++ w_Nd k ad_this_nodes z_this_nodes) (stk := fun _ => []) (xq_runV (As := [.long (r36 * (1000 : Int64))]) (rest := []) ⟨hx, hb, hml, hown, hts⟩ (c_Pg_putAmount (l := l) (o := o) (D := D) (k := k) (ad_this := ad_this) (q_this_keywords := (ad_this_keywords 0)) (q_this_names := (ad_this_names 0)) (q_this_nodes := (ad_this_nodes 0)) hw) (cw_Pg_putAmount hts kw4_42 ⟨Nat.le_of_ble_eq_true rfl, Nat.le_of_ble_eq_true rfl⟩) (va_recv hK hP (ci := 7) (q0 := 0) rfl rfl) (hP.sub [0, 1] rfl) hK hJ hS (va_free hD hS hA [0, 1] rfl) ((hD.sub [0, 1] (by decide) rfl).weaken (fun _ _ _ _ => trivial)) rfl hl.1 (Nat.le_of_ble_eq_true rfl) d_Pg_beginStatement_155 ⟨Nat.le_of_ble_eq_true rfl, Nat.le_of_ble_eq_true rfl⟩) hP hD hS hA [0, 1] [2, 3, 4, 5, 6, 7, 8, 9, 10, 11, 12, 13, 14, 15, 16, 17, 18, 19] rfl rfl (by decide) (by decide) (fun _ => rfl) (fun r37 u37 H locs hw hP hD hS => ?_) (fun _ _ _ _ h9 => h9.elim)
      have hP : va_P D vwCl (w_Pg k ad_this (ad_this_keywords 0) (ad_this_names 0) (ad_this_nodes 0) u37 ++ w_Kw k ad_this_keywords z_this_keywords ++ w_Nm k ad_this_names z_this_names ++ w_Nd k ad_this_nodes z_this_nodes) H := hP.sub [18, 19, 0, 1, 2, 3, 4, 5, 6, 7, 8, 9, 10, 11, 12, 13, 14, 15, 16, 17] rfl
      have hD : va_D A (w_Pg k ad_this (ad_this_keywords 0) (ad_this_names 0) (ad_this_nodes 0) u37 ++ w_Kw k ad_this_keywords z_this_keywords ++ w_Nm k ad_this_names z_this_names ++ w_Nd k ad_this_nodes z_this_nodes) := hD.sub [18, 19, 0, 1, 2, 3, 4, 5, 6, 7, 8, 9, 10, 11, 12, 13, 14, 15, 16, 17] (by decide) rfl
      refine lv_goto (tgt := 161) hx hb d_Pg_beginStatement_158 (by decide) ?_
      exact xq_vret (r := ()) (u := u37) hx hb hr hlocks hAe hP hD hS rfl hw (Nat.le_of_ble_eq_true rfl) (Nat.le_of_ble_eq_true rfl) d_Pg_beginStatement_161
    by_cases hc5 : r1 = (24 : Int32)
    · have hw := hw.2.2.2.2.2.1 hc5
      refine W.eq (g2 := F0 m 45 ls ([.int (24 : Int32)])) (by rw [hc5]) ?_
      refine lv_tableIn (tgt := 120) hx hb d_Pg_beginStatement_45 (by decide) (by decide) rfl (by decide) ?_
      refine lv_aload_n hx hb d_Pg_beginStatement_120 rfl (lv_at hl 1 rfl) ?_
      refine lv_aload_n hx hb d_Pg_beginStatement_121 rfl (lv_at hl 1 rfl) ?_
      refine va_get (D := D) (ci := 7) (v := .ref (ad_this_names 0)) (C := R_Pg) (T := F_Pg) (N := 5) hx hb hts in_Pg hown hK hP 0 rfl rfl 3 (by decide) (hts (.fieldLink R_Pg 25 R_Pg "names" "LStepText$Names;") kw2_31) (fun _ h9 => h9) rfl d_Pg_beginStatement_122 ?_
      refine lv_aload_n hx hb d_Pg_beginStatement_125 rfl (lv_at hl 1 rfl) ?_
      refine va_get (D := D) (ci := 7) (v := .ref (ad_this_nodes 0)) (C := R_Pg) (T := F_Pg) (N := 5) hx hb hts in_Pg hown hK hP 0 rfl rfl 4 (by decide) (hts (.fieldLink R_Pg 32 R_Pg "nodes" "LStepText$Nodes;") kw2_32) (fun _ h9 => h9) rfl d_Pg_beginStatement_126 ?_
      refine lv_iload_n hx hb d_Pg_beginStatement_129 rfl (lv_at hl 2 rfl) ?_
      refine xq_go (wr := w_Pg k ad_this (ad_this_keywords 0) (ad_this_names 0) (ad_this_nodes 0) u23 ++ w_Kw k ad_this_keywords z_this_keywords ++ w_Nm k ad_this_names z_this_names) (stk := fun r => .int r :: [.ref (ad_this_names 0), .ref (ad_this 0)]) (xq_runV (As := [.int a1]) (rest := [.ref (ad_this_names 0), .ref (ad_this 0)]) ⟨hx, hb, hml, hown, hts⟩ (c_Nd_subjectOf (l := l) (o := o) (D := D) (k := k) (ad_this := ad_this_nodes) hw) (cw_Nd_subjectOf hts kw4_78 ⟨Nat.le_of_ble_eq_true rfl, Nat.le_of_ble_eq_true rfl⟩) (va_recv hK hP (ci := 4) (q0 := 9) rfl rfl) (hP.sub [9, 10, 11, 12, 13, 14, 15, 16, 17, 18, 19] rfl) hK hJ hS (va_free hD hS hA [9, 10, 11, 12, 13, 14, 15, 16, 17, 18, 19] rfl) ((hD.sub [9, 10, 11, 12, 13, 14, 15, 16, 17, 18, 19] (by decide) rfl).weaken (fun _ _ _ _ => trivial)) rfl hl.1 (Nat.le_of_ble_eq_true rfl) d_Pg_beginStatement_130 ⟨Nat.le_of_ble_eq_true rfl, Nat.le_of_ble_eq_true rfl⟩) hP hD hS hA [9, 10, 11, 12, 13, 14, 15, 16, 17, 18, 19] [0, 1, 2, 3, 4, 5, 6, 7, 8] rfl rfl (by decide) (by decide) (fun _ => rfl) (fun r38 u38 H locs hw hP hD hS => ?_) (fun _ _ _ _ h9 => h9.elim)
      have hP : va_P D vwCl (w_Pg k ad_this (ad_this_keywords 0) (ad_this_names 0) (ad_this_nodes 0) u23 ++ w_Kw k ad_this_keywords z_this_keywords ++ w_Nm k ad_this_names z_this_names ++ w_Nd k ad_this_nodes z_this_nodes) H := hP.sub [0, 1, 2, 3, 4, 5, 6, 7, 8, 9, 10, 11, 12, 13, 14, 15, 16, 17, 18, 19] rfl
      have hD : va_D A (w_Pg k ad_this (ad_this_keywords 0) (ad_this_names 0) (ad_this_nodes 0) u23 ++ w_Kw k ad_this_keywords z_this_keywords ++ w_Nm k ad_this_names z_this_names ++ w_Nd k ad_this_nodes z_this_nodes) := hD.sub [0, 1, 2, 3, 4, 5, 6, 7, 8, 9, 10, 11, 12, 13, 14, 15, 16, 17, 18, 19] (by decide) rfl
      refine xq_go (wr := w_Pg k ad_this (ad_this_keywords 0) (ad_this_names 0) (ad_this_nodes 0) u23 ++ w_Kw k ad_this_keywords z_this_keywords ++ w_Nd k ad_this_nodes z_this_nodes) (stk := fun r => .long r :: [.ref (ad_this 0)]) (xq_runV (As := [.int r38]) (rest := [.ref (ad_this 0)]) ⟨hx, hb, hml, hown, hts⟩ (c_Nm_lettersOf (l := l) (o := o) (D := D) (k := k) (ad_this := ad_this_names) hw) (cw_Nm_lettersOf hts kw4_79 ⟨Nat.le_of_ble_eq_true rfl, Nat.le_of_ble_eq_true rfl⟩) (va_recv hK hP (ci := 3) (q0 := 4) rfl rfl) (hP.sub [4, 5, 6, 7, 8] rfl) hK hJ hS (va_free hD hS hA [4, 5, 6, 7, 8] rfl) ((hD.sub [4, 5, 6, 7, 8] (by decide) rfl).weaken (fun _ _ _ _ => trivial)) rfl hl.1 (Nat.le_of_ble_eq_true rfl) d_Pg_beginStatement_133 ⟨Nat.le_of_ble_eq_true rfl, Nat.le_of_ble_eq_true rfl⟩) hP hD hS hA [4, 5, 6, 7, 8] [0, 1, 2, 3, 9, 10, 11, 12, 13, 14, 15, 16, 17, 18, 19] rfl rfl (by decide) (by decide) (fun _ => rfl) (fun r39 u39 H locs hw hP hD hS => ?_) (fun _ _ _ _ h9 => h9.elim)
      have hP : va_P D vwCl (w_Pg k ad_this (ad_this_keywords 0) (ad_this_names 0) (ad_this_nodes 0) u23 ++ w_Kw k ad_this_keywords z_this_keywords ++ w_Nm k ad_this_names z_this_names ++ w_Nd k ad_this_nodes z_this_nodes) H := hP.sub [0, 1, 2, 3, 15, 16, 17, 18, 19, 4, 5, 6, 7, 8, 9, 10, 11, 12, 13, 14] rfl
      have hD : va_D A (w_Pg k ad_this (ad_this_keywords 0) (ad_this_names 0) (ad_this_nodes 0) u23 ++ w_Kw k ad_this_keywords z_this_keywords ++ w_Nm k ad_this_names z_this_names ++ w_Nd k ad_this_nodes z_this_nodes) := hD.sub [0, 1, 2, 3, 15, 16, 17, 18, 19, 4, 5, 6, 7, 8, 9, 10, 11, 12, 13, 14] (by decide) rfl
      refine xq_go (wr := w_Kw k ad_this_keywords z_this_keywords ++ w_Nm k ad_this_names z_this_names ++ w_Nd k ad_this_nodes z_this_nodes) (stk := fun _ => []) (xq_runV (As := [.long r39]) (rest := []) ⟨hx, hb, hml, hown, hts⟩ (c_Pg_putLetters (l := l) (o := o) (D := D) (k := k) (ad_this := ad_this) (q_this_keywords := (ad_this_keywords 0)) (q_this_names := (ad_this_names 0)) (q_this_nodes := (ad_this_nodes 0)) hw) (cw_Pg_putLetters hts kw4_70 ⟨Nat.le_of_ble_eq_true rfl, Nat.le_of_ble_eq_true rfl⟩) (va_recv hK hP (ci := 7) (q0 := 0) rfl rfl) (hP.sub [0, 1] rfl) hK hJ hS (va_free hD hS hA [0, 1] rfl) ((hD.sub [0, 1] (by decide) rfl).weaken (fun _ _ _ _ => trivial)) rfl hl.1 (Nat.le_of_ble_eq_true rfl) d_Pg_beginStatement_136 ⟨Nat.le_of_ble_eq_true rfl, Nat.le_of_ble_eq_true rfl⟩) hP hD hS hA [0, 1] [2, 3, 4, 5, 6, 7, 8, 9, 10, 11, 12, 13, 14, 15, 16, 17, 18, 19] rfl rfl (by decide) (by decide) (fun _ => rfl) (fun r40 u40 H locs hw hP hD hS => ?_) (fun _ _ _ _ h9 => h9.elim)
      have hP : va_P D vwCl (w_Pg k ad_this (ad_this_keywords 0) (ad_this_names 0) (ad_this_nodes 0) u40 ++ w_Kw k ad_this_keywords z_this_keywords ++ w_Nm k ad_this_names z_this_names ++ w_Nd k ad_this_nodes z_this_nodes) H := hP.sub [18, 19, 0, 1, 2, 3, 4, 5, 6, 7, 8, 9, 10, 11, 12, 13, 14, 15, 16, 17] rfl
      have hD : va_D A (w_Pg k ad_this (ad_this_keywords 0) (ad_this_names 0) (ad_this_nodes 0) u40 ++ w_Kw k ad_this_keywords z_this_keywords ++ w_Nm k ad_this_names z_this_names ++ w_Nd k ad_this_nodes z_this_nodes) := hD.sub [18, 19, 0, 1, 2, 3, 4, 5, 6, 7, 8, 9, 10, 11, 12, 13, 14, 15, 16, 17] (by decide) rfl
      refine lv_goto (tgt := 161) hx hb d_Pg_beginStatement_139 (by decide) ?_
      exact xq_vret (r := ()) (u := u40) hx hb hr hlocks hAe hP hD hS rfl hw (Nat.le_of_ble_eq_true rfl) (Nat.le_of_ble_eq_true rfl) d_Pg_beginStatement_161
    have hw := hw.2.2.2.2.2.2 ⟨hc0, hc1, hc2, hc3, hc4, hc5⟩
    by_cases hd0 : r1 = (11 : Int32)
    · refine W.eq (g2 := F0 m 45 ls ([.int (11 : Int32)])) (by rw [hd0]) ?_
      refine lv_tableIn (tgt := 161) hx hb d_Pg_beginStatement_45 (by decide) (by decide) rfl (by decide) ?_
      exact xq_vret (r := ()) (u := u23) hx hb hr hlocks hAe hP hD hS rfl hw (Nat.le_of_ble_eq_true rfl) (Nat.le_of_ble_eq_true rfl) d_Pg_beginStatement_161
    by_cases hd1 : r1 = (12 : Int32)
    · refine W.eq (g2 := F0 m 45 ls ([.int (12 : Int32)])) (by rw [hd1]) ?_
      refine lv_tableIn (tgt := 161) hx hb d_Pg_beginStatement_45 (by decide) (by decide) rfl (by decide) ?_
      exact xq_vret (r := ()) (u := u23) hx hb hr hlocks hAe hP hD hS rfl hw (Nat.le_of_ble_eq_true rfl) (Nat.le_of_ble_eq_true rfl) d_Pg_beginStatement_161
    by_cases hd2 : r1 = (14 : Int32)
    · refine W.eq (g2 := F0 m 45 ls ([.int (14 : Int32)])) (by rw [hd2]) ?_
      refine lv_tableIn (tgt := 161) hx hb d_Pg_beginStatement_45 (by decide) (by decide) rfl (by decide) ?_
      exact xq_vret (r := ()) (u := u23) hx hb hr hlocks hAe hP hD hS rfl hw (Nat.le_of_ble_eq_true rfl) (Nat.le_of_ble_eq_true rfl) d_Pg_beginStatement_161
    by_cases hd3 : r1 = (15 : Int32)
    · refine W.eq (g2 := F0 m 45 ls ([.int (15 : Int32)])) (by rw [hd3]) ?_
      refine lv_tableIn (tgt := 161) hx hb d_Pg_beginStatement_45 (by decide) (by decide) rfl (by decide) ?_
      exact xq_vret (r := ()) (u := u23) hx hb hr hlocks hAe hP hD hS rfl hw (Nat.le_of_ble_eq_true rfl) (Nat.le_of_ble_eq_true rfl) d_Pg_beginStatement_161
    by_cases hd4 : r1 = (16 : Int32)
    · refine W.eq (g2 := F0 m 45 ls ([.int (16 : Int32)])) (by rw [hd4]) ?_
      refine lv_tableIn (tgt := 161) hx hb d_Pg_beginStatement_45 (by decide) (by decide) rfl (by decide) ?_
      exact xq_vret (r := ()) (u := u23) hx hb hr hlocks hAe hP hD hS rfl hw (Nat.le_of_ble_eq_true rfl) (Nat.le_of_ble_eq_true rfl) d_Pg_beginStatement_161
    by_cases hd5 : r1 = (17 : Int32)
    · refine W.eq (g2 := F0 m 45 ls ([.int (17 : Int32)])) (by rw [hd5]) ?_
      refine lv_tableIn (tgt := 161) hx hb d_Pg_beginStatement_45 (by decide) (by decide) rfl (by decide) ?_
      exact xq_vret (r := ()) (u := u23) hx hb hr hlocks hAe hP hD hS rfl hw (Nat.le_of_ble_eq_true rfl) (Nat.le_of_ble_eq_true rfl) d_Pg_beginStatement_161
    by_cases hd6 : r1 = (20 : Int32)
    · refine W.eq (g2 := F0 m 45 ls ([.int (20 : Int32)])) (by rw [hd6]) ?_
      refine lv_tableIn (tgt := 161) hx hb d_Pg_beginStatement_45 (by decide) (by decide) rfl (by decide) ?_
      exact xq_vret (r := ()) (u := u23) hx hb hr hlocks hAe hP hD hS rfl hw (Nat.le_of_ble_eq_true rfl) (Nat.le_of_ble_eq_true rfl) d_Pg_beginStatement_161
    by_cases hd7 : r1 = (21 : Int32)
    · refine W.eq (g2 := F0 m 45 ls ([.int (21 : Int32)])) (by rw [hd7]) ?_
      refine lv_tableIn (tgt := 161) hx hb d_Pg_beginStatement_45 (by decide) (by decide) rfl (by decide) ?_
      exact xq_vret (r := ()) (u := u23) hx hb hr hlocks hAe hP hD hS rfl hw (Nat.le_of_ble_eq_true rfl) (Nat.le_of_ble_eq_true rfl) d_Pg_beginStatement_161
    by_cases hd8 : r1 = (23 : Int32)
    · refine W.eq (g2 := F0 m 45 ls ([.int (23 : Int32)])) (by rw [hd8]) ?_
      refine lv_tableIn (tgt := 161) hx hb d_Pg_beginStatement_45 (by decide) (by decide) rfl (by decide) ?_
      exact xq_vret (r := ()) (u := u23) hx hb hr hlocks hAe hP hD hS rfl hw (Nat.le_of_ble_eq_true rfl) (Nat.le_of_ble_eq_true rfl) d_Pg_beginStatement_161
    refine lv_tableOut (tgt := 161) hx hb d_Pg_beginStatement_45 (by have e10 : (r1).toInt ≠ 10 := xq_ne hc0 (by decide); have e11 : (r1).toInt ≠ 11 := xq_ne hd0 (by decide); have e12 : (r1).toInt ≠ 12 := xq_ne hd1 (by decide); have e13 : (r1).toInt ≠ 13 := xq_ne hc1 (by decide); have e14 : (r1).toInt ≠ 14 := xq_ne hd2 (by decide); have e15 : (r1).toInt ≠ 15 := xq_ne hd3 (by decide); have e16 : (r1).toInt ≠ 16 := xq_ne hd4 (by decide); have e17 : (r1).toInt ≠ 17 := xq_ne hd5 (by decide); have e18 : (r1).toInt ≠ 18 := xq_ne hc2 (by decide); have e19 : (r1).toInt ≠ 19 := xq_ne hc3 (by decide); have e20 : (r1).toInt ≠ 20 := xq_ne hd6 (by decide); have e21 : (r1).toInt ≠ 21 := xq_ne hd7 (by decide); have e22 : (r1).toInt ≠ 22 := xq_ne hc4 (by decide); have e23 : (r1).toInt ≠ 23 := xq_ne hd8 (by decide); have e24 : (r1).toInt ≠ 24 := xq_ne hc5 (by decide); omega) (by decide) ?_
    exact xq_vret (r := ()) (u := u23) hx hb hr hlocks hAe hP hD hS rfl hw (Nat.le_of_ble_eq_true rfl) (Nat.le_of_ble_eq_true rfl) d_Pg_beginStatement_161
theorem cw_Pg_beginStatement {R : Room} {s : State} {args : Array Value} {own : String} {index : Nat} (hts : ∀ w ∈ xq_W, w.before args s = true) (hl : .methodLink own index y_Pg_beginStatement ∈ xq_W) {rm : Room} (hR : rm.frames + 1 ≤ R.frames ∧ 8 + (3 + 11) + rm.locals ≤ R.locals) : CallW R s args own "StepText$Page" index y_Pg_beginStatement prog_6_method_8_code 3 none (.code y_Pg_beginStatement prog_6_method_8_code 3 none :: xq_W) rm rm.cells rm.slots 1 := ⟨xq_cb 1 hts kw4_90 kw1_12 hl ⟨by decide, by decide, by decide +kernel⟩ hR, hts _ kw4_89, hts _ kp3_12⟩
def y_Pg_binding : MethodName := ⟨"StepText$Page", "binding", "(I)I"⟩
theorem d_Pg_binding_0 : decode prog_6_method_12_code 0 = .ok (.iload_n 0, 1) := by decide +kernel
theorem d_Pg_binding_1 : decode prog_6_method_12_code 1 = .ok (.tableswitch 41 2 6 #[35, 35, 37, 37, 39], 35) := by decide +kernel
theorem d_Pg_binding_36 : decode prog_6_method_12_code 36 = .ok (.iconst 1, 1) := by decide +kernel
theorem d_Pg_binding_37 : decode prog_6_method_12_code 37 = .ok (.ireturn, 1) := by decide +kernel
theorem d_Pg_binding_38 : decode prog_6_method_12_code 38 = .ok (.iconst 2, 1) := by decide +kernel
theorem d_Pg_binding_39 : decode prog_6_method_12_code 39 = .ok (.ireturn, 1) := by decide +kernel
theorem d_Pg_binding_40 : decode prog_6_method_12_code 40 = .ok (.iconst 3, 1) := by decide +kernel
theorem d_Pg_binding_41 : decode prog_6_method_12_code 41 = .ok (.ireturn, 1) := by decide +kernel
theorem d_Pg_binding_42 : decode prog_6_method_12_code 42 = .ok (.iconst 0, 1) := by decide +kernel
theorem d_Pg_binding_43 : decode prog_6_method_12_code 43 = .ok (.ireturn, 1) := by decide +kernel
def wp_Pg_binding (a0 : Int32) (post : Int32 → Unit → Prop) : Prop := (a0 = (2 : Int32) → (post (1 : Int32) ())) ∧ (a0 = (3 : Int32) → (post (1 : Int32) ())) ∧ (a0 = (4 : Int32) → (post (2 : Int32) ())) ∧ (a0 = (5 : Int32) → (post (2 : Int32) ())) ∧ (a0 = (6 : Int32) → (post (3 : Int32) ())) ∧ (¬ a0 = (2 : Int32) ∧ ¬ a0 = (3 : Int32) ∧ ¬ a0 = (4 : Int32) ∧ ¬ a0 = (5 : Int32) ∧ ¬ a0 = (6 : Int32) → (post (0 : Int32) ()))
def rm_Pg_binding : Room := { frames := 0, cells := 0, slots := 0, locals := 0 }
set_option maxHeartbeats 4000000 in
set_option maxRecDepth 100000 in
theorem c_Pg_binding {l : Launch} {o : State × Array Value} {D : va_G} {k : Nat → ClassId} {a0 : Int32} {post : Int32 → Unit → Prop} (hw : wp_Pg_binding a0 post) : xq_C l o y_Pg_binding (.code y_Pg_binding prog_6_method_12_code 1 (some (.int)) :: xq_W) rm_Pg_binding D vwCl (xt k) [.int a0] (([] : va_W)) (fun r : Int32 => some (.int r)) post (fun _ : Unit => False) (fun u : Unit => ([] : va_W)) 0 0 0 0 := by
  refine xq_ofW (cc := prog_6_method_12_code) (maxL := 1) (ret := (some (.int))) (by decide) rfl (Nat.le_of_ble_eq_true rfl) ?_
  intro p e s m below meth c ls H locs A hAt hAe hA hl hK hJ hP0 hP hD hS
  obtain ⟨hx, hb, hml, hr, hlocks, hown, hts, hex, hnm⟩ := id hAt
  have hl : lv_has ls 1 [(0, .int a0)] := hl
  unfold wp_Pg_binding at hw
  refine lv_iload_n hx hb d_Pg_binding_0 rfl (lv_at hl 0 rfl) ?_
  by_cases hc0 : a0 = (2 : Int32)
  · have hw := hw.1 hc0
    refine W.eq (g2 := F0 m 1 ls ([.int (2 : Int32)])) (by rw [hc0]) ?_
    refine lv_tableIn (tgt := 36) hx hb d_Pg_binding_1 (by decide) (by decide) rfl (by decide) ?_
    refine lv_iconst (v := (1 : Int32)) hx hb d_Pg_binding_36 (by decide) ?_
    exact xq_iret (r := (1 : Int32)) (u := ()) hx hb hr hlocks hAe hP hD hS rfl hw (Nat.le_of_ble_eq_true rfl) (Nat.le_of_ble_eq_true rfl) d_Pg_binding_37
  by_cases hc1 : a0 = (3 : Int32)
  · have hw := hw.2.1 hc1
    refine W.eq (g2 := F0 m 1 ls ([.int (3 : Int32)])) (by rw [hc1]) ?_
    refine lv_tableIn (tgt := 36) hx hb d_Pg_binding_1 (by decide) (by decide) rfl (by decide) ?_
    refine lv_iconst (v := (1 : Int32)) hx hb d_Pg_binding_36 (by decide) ?_
    exact xq_iret (r := (1 : Int32)) (u := ()) hx hb hr hlocks hAe hP hD hS rfl hw (Nat.le_of_ble_eq_true rfl) (Nat.le_of_ble_eq_true rfl) d_Pg_binding_37
  by_cases hc2 : a0 = (4 : Int32)
  · have hw := hw.2.2.1 hc2
    refine W.eq (g2 := F0 m 1 ls ([.int (4 : Int32)])) (by rw [hc2]) ?_
    refine lv_tableIn (tgt := 38) hx hb d_Pg_binding_1 (by decide) (by decide) rfl (by decide) ?_
    refine lv_iconst (v := (2 : Int32)) hx hb d_Pg_binding_38 (by decide) ?_
    exact xq_iret (r := (2 : Int32)) (u := ()) hx hb hr hlocks hAe hP hD hS rfl hw (Nat.le_of_ble_eq_true rfl) (Nat.le_of_ble_eq_true rfl) d_Pg_binding_39
  by_cases hc3 : a0 = (5 : Int32)
  · have hw := hw.2.2.2.1 hc3
    refine W.eq (g2 := F0 m 1 ls ([.int (5 : Int32)])) (by rw [hc3]) ?_
    refine lv_tableIn (tgt := 38) hx hb d_Pg_binding_1 (by decide) (by decide) rfl (by decide) ?_
    refine lv_iconst (v := (2 : Int32)) hx hb d_Pg_binding_38 (by decide) ?_
    exact xq_iret (r := (2 : Int32)) (u := ()) hx hb hr hlocks hAe hP hD hS rfl hw (Nat.le_of_ble_eq_true rfl) (Nat.le_of_ble_eq_true rfl) d_Pg_binding_39
  by_cases hc4 : a0 = (6 : Int32)
  · have hw := hw.2.2.2.2.1 hc4
    refine W.eq (g2 := F0 m 1 ls ([.int (6 : Int32)])) (by rw [hc4]) ?_
    refine lv_tableIn (tgt := 40) hx hb d_Pg_binding_1 (by decide) (by decide) rfl (by decide) ?_
    refine lv_iconst (v := (3 : Int32)) hx hb d_Pg_binding_40 (by decide) ?_
    exact xq_iret (r := (3 : Int32)) (u := ()) hx hb hr hlocks hAe hP hD hS rfl hw (Nat.le_of_ble_eq_true rfl) (Nat.le_of_ble_eq_true rfl) d_Pg_binding_41
  have hw := hw.2.2.2.2.2 ⟨hc0, hc1, hc2, hc3, hc4⟩
  refine lv_tableOut (tgt := 42) hx hb d_Pg_binding_1 (by have e2 : (a0).toInt ≠ 2 := xq_ne hc0 (by decide); have e3 : (a0).toInt ≠ 3 := xq_ne hc1 (by decide); have e4 : (a0).toInt ≠ 4 := xq_ne hc2 (by decide); have e5 : (a0).toInt ≠ 5 := xq_ne hc3 (by decide); have e6 : (a0).toInt ≠ 6 := xq_ne hc4 (by decide); omega) (by decide) ?_
  refine lv_iconst (v := (0 : Int32)) hx hb d_Pg_binding_42 (by decide) ?_
  exact xq_iret (r := (0 : Int32)) (u := ()) hx hb hr hlocks hAe hP hD hS rfl hw (Nat.le_of_ble_eq_true rfl) (Nat.le_of_ble_eq_true rfl) d_Pg_binding_43
theorem cs_Pg_binding {R : Room} {s : State} {args : Array Value} {own : String} {index : Nat} (hts : ∀ w ∈ xq_W, w.before args s = true) (hl : .methodLink own index y_Pg_binding ∈ xq_W) {rm : Room} (hR : rm.frames + 1 ≤ R.frames ∧ 8 + (1 + 11) + rm.locals ≤ R.locals) : CallB R s args own index y_Pg_binding prog_6_method_12_code 1 (some (.int)) (.code y_Pg_binding prog_6_method_12_code 1 (some (.int)) :: xq_W) rm rm.cells rm.slots 1 ∧ (Cond.static y_Pg_binding).before args s = true := ⟨xq_cb 1 hts kw4_105 kw1_12 hl ⟨by decide, by decide, by decide +kernel⟩ hR, hts _ kw4_104⟩
def y_Pg_isBracketed : MethodName := ⟨"StepText$Page", "isBracketed", "(I)Z"⟩
theorem d_Pg_isBracketed_0 : decode prog_6_method_11_code 0 = .ok (.aload_n 0, 1) := by decide +kernel
theorem d_Pg_isBracketed_1 : decode prog_6_method_11_code 1 = .ok (.getfield 32, 3) := by decide +kernel
theorem d_Pg_isBracketed_4 : decode prog_6_method_11_code 4 = .ok (.iload_n 1, 1) := by decide +kernel
theorem d_Pg_isBracketed_5 : decode prog_6_method_11_code 5 = .ok (.invokevirtual 101, 3) := by decide +kernel
theorem d_Pg_isBracketed_8 : decode prog_6_method_11_code 8 = .ok (.istore_n 2, 1) := by decide +kernel
theorem d_Pg_isBracketed_9 : decode prog_6_method_11_code 9 = .ok (.aload_n 0, 1) := by decide +kernel
theorem d_Pg_isBracketed_10 : decode prog_6_method_11_code 10 = .ok (.getfield 32, 3) := by decide +kernel
theorem d_Pg_isBracketed_13 : decode prog_6_method_11_code 13 = .ok (.iload_n 1, 1) := by decide +kernel
theorem d_Pg_isBracketed_14 : decode prog_6_method_11_code 14 = .ok (.invokevirtual 104, 3) := by decide +kernel
theorem d_Pg_isBracketed_17 : decode prog_6_method_11_code 17 = .ok (.invokestatic 137, 3) := by decide +kernel
theorem d_Pg_isBracketed_20 : decode prog_6_method_11_code 20 = .ok (.istore_n 3, 1) := by decide +kernel
theorem d_Pg_isBracketed_21 : decode prog_6_method_11_code 21 = .ok (.aload_n 0, 1) := by decide +kernel
theorem d_Pg_isBracketed_22 : decode prog_6_method_11_code 22 = .ok (.getfield 32, 3) := by decide +kernel
theorem d_Pg_isBracketed_25 : decode prog_6_method_11_code 25 = .ok (.iload_n 2, 1) := by decide +kernel
theorem d_Pg_isBracketed_26 : decode prog_6_method_11_code 26 = .ok (.invokevirtual 104, 3) := by decide +kernel
theorem d_Pg_isBracketed_29 : decode prog_6_method_11_code 29 = .ok (.invokestatic 137, 3) := by decide +kernel
theorem d_Pg_isBracketed_32 : decode prog_6_method_11_code 32 = .ok (.istore 4, 2) := by decide +kernel
theorem d_Pg_isBracketed_34 : decode prog_6_method_11_code 34 = .ok (.iload_n 3, 1) := by decide +kernel
theorem d_Pg_isBracketed_35 : decode prog_6_method_11_code 35 = .ok (.ifCond .eq 12, 3) := by decide +kernel
theorem d_Pg_isBracketed_38 : decode prog_6_method_11_code 38 = .ok (.iload_n 3, 1) := by decide +kernel
theorem d_Pg_isBracketed_39 : decode prog_6_method_11_code 39 = .ok (.bipush 6, 2) := by decide +kernel
theorem d_Pg_isBracketed_41 : decode prog_6_method_11_code 41 = .ok (.invokestatic 137, 3) := by decide +kernel
theorem d_Pg_isBracketed_44 : decode prog_6_method_11_code 44 = .ok (.if_icmp .ne 5, 3) := by decide +kernel
theorem d_Pg_isBracketed_47 : decode prog_6_method_11_code 47 = .ok (.iconst 0, 1) := by decide +kernel
theorem d_Pg_isBracketed_48 : decode prog_6_method_11_code 48 = .ok (.ireturn, 1) := by decide +kernel
theorem d_Pg_isBracketed_49 : decode prog_6_method_11_code 49 = .ok (.iload 4, 2) := by decide +kernel
theorem d_Pg_isBracketed_51 : decode prog_6_method_11_code 51 = .ok (.iload_n 3, 1) := by decide +kernel
theorem d_Pg_isBracketed_52 : decode prog_6_method_11_code 52 = .ok (.if_icmp .gt 21, 3) := by decide +kernel
theorem d_Pg_isBracketed_55 : decode prog_6_method_11_code 55 = .ok (.iload 4, 2) := by decide +kernel
theorem d_Pg_isBracketed_57 : decode prog_6_method_11_code 57 = .ok (.iload_n 3, 1) := by decide +kernel
theorem d_Pg_isBracketed_58 : decode prog_6_method_11_code 58 = .ok (.if_icmp .ne 19, 3) := by decide +kernel
theorem d_Pg_isBracketed_61 : decode prog_6_method_11_code 61 = .ok (.aload_n 0, 1) := by decide +kernel
theorem d_Pg_isBracketed_62 : decode prog_6_method_11_code 62 = .ok (.getfield 32, 3) := by decide +kernel
theorem d_Pg_isBracketed_65 : decode prog_6_method_11_code 65 = .ok (.iload_n 2, 1) := by decide +kernel
theorem d_Pg_isBracketed_66 : decode prog_6_method_11_code 66 = .ok (.invokevirtual 39, 3) := by decide +kernel
theorem d_Pg_isBracketed_69 : decode prog_6_method_11_code 69 = .ok (.iload_n 1, 1) := by decide +kernel
theorem d_Pg_isBracketed_70 : decode prog_6_method_11_code 70 = .ok (.if_icmp .eq 7, 3) := by decide +kernel
theorem d_Pg_isBracketed_73 : decode prog_6_method_11_code 73 = .ok (.iconst 1, 1) := by decide +kernel
theorem d_Pg_isBracketed_74 : decode prog_6_method_11_code 74 = .ok (.goto 4, 3) := by decide +kernel
theorem d_Pg_isBracketed_77 : decode prog_6_method_11_code 77 = .ok (.iconst 0, 1) := by decide +kernel
theorem d_Pg_isBracketed_78 : decode prog_6_method_11_code 78 = .ok (.ireturn, 1) := by decide +kernel
def wp_Pg_isBracketed (z_this : T_Pg) (z_this_nodes : T_Nd) (a1 : Int32) (post : Int32 → Unit → Prop) : Prop := wp_Nd_parentOf z_this_nodes a1 (fun (r1 : Int32) (u1 : Unit) => wp_Nd_kindOf z_this_nodes a1 (fun (r2 : Int32) (u2 : Unit) => wp_Pg_binding r2 (fun (r3 : Int32) (u3 : Unit) => wp_Nd_kindOf z_this_nodes r1 (fun (r4 : Int32) (u4 : Unit) => wp_Pg_binding r4 (fun (r5 : Int32) (u5 : Unit) => (r3 = 0 → (post (0 : Int32) ())) ∧ (¬ r3 = 0 → (wp_Pg_binding (6 : Int32) (fun (r6 : Int32) (u6 : Unit) => (r3 = r6 → (post (0 : Int32) ())) ∧ (¬ r3 = r6 → ((r3 < r5 → (post (1 : Int32) ())) ∧ (¬ r3 < r5 → ((r5 = r3 → (wp_Nd_firstOf z_this_nodes r1 (fun (r7 : Int32) (u7 : Unit) => (r7 = a1 → (post (0 : Int32) ())) ∧ (¬ r7 = a1 → (post (1 : Int32) ()))))) ∧ (¬ r5 = r3 → (post (0 : Int32) ()))))))))))))))
def rm_Pg_isBracketed : Room := { frames := 2, cells := 0, slots := 0, locals := 42 }
set_option maxHeartbeats 4000000 in
set_option maxRecDepth 100000 in
theorem c_Pg_isBracketed {l : Launch} {o : State × Array Value} {D : va_G} {k : Nat → ClassId} {ad_this : Nat → Nat} {ad_this_nodes : Nat → Nat} {q_this_keywords : Nat} {q_this_names : Nat} {z_this : T_Pg} {z_this_nodes : T_Nd} {a1 : Int32} {post : Int32 → Unit → Prop} (hw : wp_Pg_isBracketed z_this z_this_nodes a1 post) : xq_C l o y_Pg_isBracketed (.code y_Pg_isBracketed prog_6_method_11_code 5 (some (.boolean)) :: xq_W) rm_Pg_isBracketed D vwCl (xt k) [.ref (ad_this 0), .int a1] (w_Pg k ad_this q_this_keywords q_this_names (ad_this_nodes 0) z_this ++ w_Nd k ad_this_nodes z_this_nodes) (fun r : Int32 => some (.int r)) post (fun _ : Unit => False) (fun u : Unit => w_Pg k ad_this q_this_keywords q_this_names (ad_this_nodes 0) z_this ++ w_Nd k ad_this_nodes z_this_nodes) 0 0 0 0 := by
  refine xq_ofW (cc := prog_6_method_11_code) (maxL := 5) (ret := (some (.boolean))) (by decide) rfl (Nat.le_of_ble_eq_true rfl) ?_
  intro p e s m below meth c ls H locs A hAt hAe hA hl hK hJ hP0 hP hD hS
  obtain ⟨hx, hb, hml, hr, hlocks, hown, hts, hex, hnm⟩ := id hAt
  have hl : lv_has ls 5 [(0, .ref (ad_this 0)), (1, .int a1)] := hl
  unfold wp_Pg_isBracketed at hw
  refine lv_aload_n hx hb d_Pg_isBracketed_0 rfl (lv_at hl 0 rfl) ?_
  refine va_get (D := D) (ci := 7) (v := .ref (ad_this_nodes 0)) (C := R_Pg) (T := F_Pg) (N := 5) hx hb hts in_Pg hown hK hP 0 rfl rfl 4 (by decide) (hts (.fieldLink R_Pg 32 R_Pg "nodes" "LStepText$Nodes;") kw2_32) (fun _ h9 => h9) rfl d_Pg_isBracketed_1 ?_
  refine lv_iload_n hx hb d_Pg_isBracketed_4 rfl (lv_at hl 1 rfl) ?_
  refine xq_go (wr := w_Pg k ad_this q_this_keywords q_this_names (ad_this_nodes 0) z_this) (stk := fun r => .int r :: []) (xq_runV (As := [.int a1]) (rest := []) ⟨hx, hb, hml, hown, hts⟩ (c_Nd_parentOf (l := l) (o := o) (D := D) (k := k) (ad_this := ad_this_nodes) hw) (cw_Nd_parentOf hts kw4_99 ⟨Nat.le_of_ble_eq_true rfl, Nat.le_of_ble_eq_true rfl⟩) (va_recv hK hP (ci := 4) (q0 := 2) rfl rfl) (hP.sub [2, 3, 4, 5, 6, 7, 8, 9, 10, 11, 12] rfl) hK hJ hS (va_free hD hS hA [2, 3, 4, 5, 6, 7, 8, 9, 10, 11, 12] rfl) ((hD.sub [2, 3, 4, 5, 6, 7, 8, 9, 10, 11, 12] (by decide) rfl).weaken (fun _ _ _ _ => trivial)) rfl hl.1 (Nat.le_of_ble_eq_true rfl) d_Pg_isBracketed_5 ⟨Nat.le_of_ble_eq_true rfl, Nat.le_of_ble_eq_true rfl⟩) hP hD hS hA [2, 3, 4, 5, 6, 7, 8, 9, 10, 11, 12] [0, 1] rfl rfl (by decide) (by decide) (fun _ => rfl) (fun r1 u1 H locs hw hP hD hS => ?_) (fun _ _ _ _ h9 => h9.elim)
  have hP : va_P D vwCl (w_Pg k ad_this q_this_keywords q_this_names (ad_this_nodes 0) z_this ++ w_Nd k ad_this_nodes z_this_nodes) H := hP.sub [0, 1, 2, 3, 4, 5, 6, 7, 8, 9, 10, 11, 12] rfl
  have hD : va_D A (w_Pg k ad_this q_this_keywords q_this_names (ad_this_nodes 0) z_this ++ w_Nd k ad_this_nodes z_this_nodes) := hD.sub [0, 1, 2, 3, 4, 5, 6, 7, 8, 9, 10, 11, 12] (by decide) rfl
  refine lv_istore_n (lv' := [(2, .int r1), (0, .ref (ad_this 0)), (1, .int a1)]) hx hb d_Pg_isBracketed_8 rfl hl (by decide) rfl (fun ls hl => ?_)
  refine lv_aload_n hx hb d_Pg_isBracketed_9 rfl (lv_at hl 1 rfl) ?_
  refine va_get (D := D) (ci := 7) (v := .ref (ad_this_nodes 0)) (C := R_Pg) (T := F_Pg) (N := 5) hx hb hts in_Pg hown hK hP 0 rfl rfl 4 (by decide) (hts (.fieldLink R_Pg 32 R_Pg "nodes" "LStepText$Nodes;") kw2_32) (fun _ h9 => h9) rfl d_Pg_isBracketed_10 ?_
  refine lv_iload_n hx hb d_Pg_isBracketed_13 rfl (lv_at hl 2 rfl) ?_
  refine xq_go (wr := w_Pg k ad_this q_this_keywords q_this_names (ad_this_nodes 0) z_this) (stk := fun r => .int r :: []) (xq_runV (As := [.int a1]) (rest := []) ⟨hx, hb, hml, hown, hts⟩ (c_Nd_kindOf (l := l) (o := o) (D := D) (k := k) (ad_this := ad_this_nodes) hw) (cw_Nd_kindOf hts kw4_40 ⟨Nat.le_of_ble_eq_true rfl, Nat.le_of_ble_eq_true rfl⟩) (va_recv hK hP (ci := 4) (q0 := 2) rfl rfl) (hP.sub [2, 3, 4, 5, 6, 7, 8, 9, 10, 11, 12] rfl) hK hJ hS (va_free hD hS hA [2, 3, 4, 5, 6, 7, 8, 9, 10, 11, 12] rfl) ((hD.sub [2, 3, 4, 5, 6, 7, 8, 9, 10, 11, 12] (by decide) rfl).weaken (fun _ _ _ _ => trivial)) rfl hl.1 (Nat.le_of_ble_eq_true rfl) d_Pg_isBracketed_14 ⟨Nat.le_of_ble_eq_true rfl, Nat.le_of_ble_eq_true rfl⟩) hP hD hS hA [2, 3, 4, 5, 6, 7, 8, 9, 10, 11, 12] [0, 1] rfl rfl (by decide) (by decide) (fun _ => rfl) (fun r2 u2 H locs hw hP hD hS => ?_) (fun _ _ _ _ h9 => h9.elim)
  have hP : va_P D vwCl (w_Pg k ad_this q_this_keywords q_this_names (ad_this_nodes 0) z_this ++ w_Nd k ad_this_nodes z_this_nodes) H := hP.sub [0, 1, 2, 3, 4, 5, 6, 7, 8, 9, 10, 11, 12] rfl
  have hD : va_D A (w_Pg k ad_this q_this_keywords q_this_names (ad_this_nodes 0) z_this ++ w_Nd k ad_this_nodes z_this_nodes) := hD.sub [0, 1, 2, 3, 4, 5, 6, 7, 8, 9, 10, 11, 12] (by decide) rfl
  refine xq_go (wr := w_Pg k ad_this q_this_keywords q_this_names (ad_this_nodes 0) z_this ++ w_Nd k ad_this_nodes z_this_nodes) (stk := fun r => .int r :: []) (xq_runS (As := [.int r2]) (rest := []) ⟨hx, hb, hml, hown, hts⟩ (c_Pg_binding (l := l) (o := o) (D := D) (k := k) hw) (cs_Pg_binding hts kw4_103 ⟨Nat.le_of_ble_eq_true rfl, Nat.le_of_ble_eq_true rfl⟩) (hP.sub [] rfl) hK hJ hS (va_free hD hS hA [] rfl) ((hD.sub [] (by decide) rfl).weaken (fun _ _ _ _ => trivial)) rfl hl.1 (Nat.le_of_ble_eq_true rfl) d_Pg_isBracketed_17 ⟨Nat.le_of_ble_eq_true rfl, Nat.le_of_ble_eq_true rfl⟩) hP hD hS hA [] [0, 1, 2, 3, 4, 5, 6, 7, 8, 9, 10, 11, 12] rfl rfl (by decide) (by decide) (fun _ => rfl) (fun r3 u3 H locs hw hP hD hS => ?_) (fun _ _ _ _ h9 => h9.elim)
  have hP : va_P D vwCl (w_Pg k ad_this q_this_keywords q_this_names (ad_this_nodes 0) z_this ++ w_Nd k ad_this_nodes z_this_nodes) H := hP.sub [0, 1, 2, 3, 4, 5, 6, 7, 8, 9, 10, 11, 12] rfl
  have hD : va_D A (w_Pg k ad_this q_this_keywords q_this_names (ad_this_nodes 0) z_this ++ w_Nd k ad_this_nodes z_this_nodes) := hD.sub [0, 1, 2, 3, 4, 5, 6, 7, 8, 9, 10, 11, 12] (by decide) rfl
  refine lv_istore_n (lv' := [(3, .int r3), (2, .int r1), (0, .ref (ad_this 0)), (1, .int a1)]) hx hb d_Pg_isBracketed_20 rfl hl (by decide) rfl (fun ls hl => ?_)
  refine lv_aload_n hx hb d_Pg_isBracketed_21 rfl (lv_at hl 2 rfl) ?_
  refine va_get (D := D) (ci := 7) (v := .ref (ad_this_nodes 0)) (C := R_Pg) (T := F_Pg) (N := 5) hx hb hts in_Pg hown hK hP 0 rfl rfl 4 (by decide) (hts (.fieldLink R_Pg 32 R_Pg "nodes" "LStepText$Nodes;") kw2_32) (fun _ h9 => h9) rfl d_Pg_isBracketed_22 ?_
  refine lv_iload_n hx hb d_Pg_isBracketed_25 rfl (lv_at hl 1 rfl) ?_
  refine xq_go (wr := w_Pg k ad_this q_this_keywords q_this_names (ad_this_nodes 0) z_this) (stk := fun r => .int r :: []) (xq_runV (As := [.int r1]) (rest := []) ⟨hx, hb, hml, hown, hts⟩ (c_Nd_kindOf (l := l) (o := o) (D := D) (k := k) (ad_this := ad_this_nodes) hw) (cw_Nd_kindOf hts kw4_40 ⟨Nat.le_of_ble_eq_true rfl, Nat.le_of_ble_eq_true rfl⟩) (va_recv hK hP (ci := 4) (q0 := 2) rfl rfl) (hP.sub [2, 3, 4, 5, 6, 7, 8, 9, 10, 11, 12] rfl) hK hJ hS (va_free hD hS hA [2, 3, 4, 5, 6, 7, 8, 9, 10, 11, 12] rfl) ((hD.sub [2, 3, 4, 5, 6, 7, 8, 9, 10, 11, 12] (by decide) rfl).weaken (fun _ _ _ _ => trivial)) rfl hl.1 (Nat.le_of_ble_eq_true rfl) d_Pg_isBracketed_26 ⟨Nat.le_of_ble_eq_true rfl, Nat.le_of_ble_eq_true rfl⟩) hP hD hS hA [2, 3, 4, 5, 6, 7, 8, 9, 10, 11, 12] [0, 1] rfl rfl (by decide) (by decide) (fun _ => rfl) (fun r4 u4 H locs hw hP hD hS => ?_) (fun _ _ _ _ h9 => h9.elim)
  have hP : va_P D vwCl (w_Pg k ad_this q_this_keywords q_this_names (ad_this_nodes 0) z_this ++ w_Nd k ad_this_nodes z_this_nodes) H := hP.sub [0, 1, 2, 3, 4, 5, 6, 7, 8, 9, 10, 11, 12] rfl
  have hD : va_D A (w_Pg k ad_this q_this_keywords q_this_names (ad_this_nodes 0) z_this ++ w_Nd k ad_this_nodes z_this_nodes) := hD.sub [0, 1, 2, 3, 4, 5, 6, 7, 8, 9, 10, 11, 12] (by decide) rfl
  refine xq_go (wr := w_Pg k ad_this q_this_keywords q_this_names (ad_this_nodes 0) z_this ++ w_Nd k ad_this_nodes z_this_nodes) (stk := fun r => .int r :: []) (xq_runS (As := [.int r4]) (rest := []) ⟨hx, hb, hml, hown, hts⟩ (c_Pg_binding (l := l) (o := o) (D := D) (k := k) hw) (cs_Pg_binding hts kw4_103 ⟨Nat.le_of_ble_eq_true rfl, Nat.le_of_ble_eq_true rfl⟩) (hP.sub [] rfl) hK hJ hS (va_free hD hS hA [] rfl) ((hD.sub [] (by decide) rfl).weaken (fun _ _ _ _ => trivial)) rfl hl.1 (Nat.le_of_ble_eq_true rfl) d_Pg_isBracketed_29 ⟨Nat.le_of_ble_eq_true rfl, Nat.le_of_ble_eq_true rfl⟩) hP hD hS hA [] [0, 1, 2, 3, 4, 5, 6, 7, 8, 9, 10, 11, 12] rfl rfl (by decide) (by decide) (fun _ => rfl) (fun r5 u5 H locs hw hP hD hS => ?_) (fun _ _ _ _ h9 => h9.elim)
  have hP : va_P D vwCl (w_Pg k ad_this q_this_keywords q_this_names (ad_this_nodes 0) z_this ++ w_Nd k ad_this_nodes z_this_nodes) H := hP.sub [0, 1, 2, 3, 4, 5, 6, 7, 8, 9, 10, 11, 12] rfl
  have hD : va_D A (w_Pg k ad_this q_this_keywords q_this_names (ad_this_nodes 0) z_this ++ w_Nd k ad_this_nodes z_this_nodes) := hD.sub [0, 1, 2, 3, 4, 5, 6, 7, 8, 9, 10, 11, 12] (by decide) rfl
  refine lv_istore (lv' := [(4, .int r5), (3, .int r3), (2, .int r1), (0, .ref (ad_this 0)), (1, .int a1)]) hx hb d_Pg_isBracketed_32 hl (by decide) rfl (fun ls hl => ?_)
  refine lv_iload_n hx hb d_Pg_isBracketed_34 rfl (lv_at hl 1 rfl) ?_
  refine lv_if_eq (tgt := 47) hx hb d_Pg_isBracketed_35 (by decide) (fun hc => ?_) (fun hc => ?_)
  · have hw := hw.1 hc
    refine lv_iconst (v := (0 : Int32)) hx hb d_Pg_isBracketed_47 (by decide) ?_
    exact xq_zret (r := (0 : Int32)) (u := ()) hx hb hr hlocks hAe hP hD hS rfl rfl hw (Nat.le_of_ble_eq_true rfl) (Nat.le_of_ble_eq_true rfl) d_Pg_isBracketed_48
  · have hw := hw.2 hc
    refine lv_iload_n hx hb d_Pg_isBracketed_38 rfl (lv_at hl 1 rfl) ?_
    refine lv_bipush (v := (6 : Int32)) hx hb d_Pg_isBracketed_39 (by decide) ?_
    refine xq_go (wr := w_Pg k ad_this q_this_keywords q_this_names (ad_this_nodes 0) z_this ++ w_Nd k ad_this_nodes z_this_nodes) (stk := fun r => .int r :: [.int r3]) (xq_runS (As := [.int (6 : Int32)]) (rest := [.int r3]) ⟨hx, hb, hml, hown, hts⟩ (c_Pg_binding (l := l) (o := o) (D := D) (k := k) hw) (cs_Pg_binding hts kw4_103 ⟨Nat.le_of_ble_eq_true rfl, Nat.le_of_ble_eq_true rfl⟩) (hP.sub [] rfl) hK hJ hS (va_free hD hS hA [] rfl) ((hD.sub [] (by decide) rfl).weaken (fun _ _ _ _ => trivial)) rfl hl.1 (Nat.le_of_ble_eq_true rfl) d_Pg_isBracketed_41 ⟨Nat.le_of_ble_eq_true rfl, Nat.le_of_ble_eq_true rfl⟩) hP hD hS hA [] [0, 1, 2, 3, 4, 5, 6, 7, 8, 9, 10, 11, 12] rfl rfl (by decide) (by decide) (fun _ => rfl) (fun r6 u6 H locs hw hP hD hS => ?_) (fun _ _ _ _ h9 => h9.elim)
    have hP : va_P D vwCl (w_Pg k ad_this q_this_keywords q_this_names (ad_this_nodes 0) z_this ++ w_Nd k ad_this_nodes z_this_nodes) H := hP.sub [0, 1, 2, 3, 4, 5, 6, 7, 8, 9, 10, 11, 12] rfl
    have hD : va_D A (w_Pg k ad_this q_this_keywords q_this_names (ad_this_nodes 0) z_this ++ w_Nd k ad_this_nodes z_this_nodes) := hD.sub [0, 1, 2, 3, 4, 5, 6, 7, 8, 9, 10, 11, 12] (by decide) rfl
    refine lv_icmp_ne (tgt := 49) hx hb d_Pg_isBracketed_44 (by decide) (fun hc => ?_) (fun hc => ?_)
    · have hw := hw.2 hc
      refine lv_iload hx hb d_Pg_isBracketed_49 (lv_at hl 0 rfl) ?_
      refine lv_iload_n hx hb d_Pg_isBracketed_51 rfl (lv_at hl 1 rfl) ?_
      refine lv_icmp_gt (tgt := 73) hx hb d_Pg_isBracketed_52 (by decide) (fun hc => ?_) (fun hc => ?_)
      · have hw := hw.1 hc
        refine lv_iconst (v := (1 : Int32)) hx hb d_Pg_isBracketed_73 (by decide) ?_
        refine lv_goto (tgt := 78) hx hb d_Pg_isBracketed_74 (by decide) ?_
        exact xq_zret (r := (1 : Int32)) (u := ()) hx hb hr hlocks hAe hP hD hS rfl rfl hw (Nat.le_of_ble_eq_true rfl) (Nat.le_of_ble_eq_true rfl) d_Pg_isBracketed_78
      · have hw := hw.2 hc
        refine lv_iload hx hb d_Pg_isBracketed_55 (lv_at hl 0 rfl) ?_
        refine lv_iload_n hx hb d_Pg_isBracketed_57 rfl (lv_at hl 1 rfl) ?_
        refine lv_icmp_ne (tgt := 77) hx hb d_Pg_isBracketed_58 (by decide) (fun hc => ?_) (fun hc => ?_)
        · have hw := hw.2 hc
          refine lv_iconst (v := (0 : Int32)) hx hb d_Pg_isBracketed_77 (by decide) ?_
          exact xq_zret (r := (0 : Int32)) (u := ()) hx hb hr hlocks hAe hP hD hS rfl rfl hw (Nat.le_of_ble_eq_true rfl) (Nat.le_of_ble_eq_true rfl) d_Pg_isBracketed_78
        · have hw := hw.1 hc
          refine lv_aload_n hx hb d_Pg_isBracketed_61 rfl (lv_at hl 3 rfl) ?_
          refine va_get (D := D) (ci := 7) (v := .ref (ad_this_nodes 0)) (C := R_Pg) (T := F_Pg) (N := 5) hx hb hts in_Pg hown hK hP 0 rfl rfl 4 (by decide) (hts (.fieldLink R_Pg 32 R_Pg "nodes" "LStepText$Nodes;") kw2_32) (fun _ h9 => h9) rfl d_Pg_isBracketed_62 ?_
          refine lv_iload_n hx hb d_Pg_isBracketed_65 rfl (lv_at hl 2 rfl) ?_
          refine xq_go (wr := w_Pg k ad_this q_this_keywords q_this_names (ad_this_nodes 0) z_this) (stk := fun r => .int r :: []) (xq_runV (As := [.int r1]) (rest := []) ⟨hx, hb, hml, hown, hts⟩ (c_Nd_firstOf (l := l) (o := o) (D := D) (k := k) (ad_this := ad_this_nodes) hw) (cw_Nd_firstOf hts kw4_29 ⟨Nat.le_of_ble_eq_true rfl, Nat.le_of_ble_eq_true rfl⟩) (va_recv hK hP (ci := 4) (q0 := 2) rfl rfl) (hP.sub [2, 3, 4, 5, 6, 7, 8, 9, 10, 11, 12] rfl) hK hJ hS (va_free hD hS hA [2, 3, 4, 5, 6, 7, 8, 9, 10, 11, 12] rfl) ((hD.sub [2, 3, 4, 5, 6, 7, 8, 9, 10, 11, 12] (by decide) rfl).weaken (fun _ _ _ _ => trivial)) rfl hl.1 (Nat.le_of_ble_eq_true rfl) d_Pg_isBracketed_66 ⟨Nat.le_of_ble_eq_true rfl, Nat.le_of_ble_eq_true rfl⟩) hP hD hS hA [2, 3, 4, 5, 6, 7, 8, 9, 10, 11, 12] [0, 1] rfl rfl (by decide) (by decide) (fun _ => rfl) (fun r7 u7 H locs hw hP hD hS => ?_) (fun _ _ _ _ h9 => h9.elim)
          have hP : va_P D vwCl (w_Pg k ad_this q_this_keywords q_this_names (ad_this_nodes 0) z_this ++ w_Nd k ad_this_nodes z_this_nodes) H := hP.sub [0, 1, 2, 3, 4, 5, 6, 7, 8, 9, 10, 11, 12] rfl
          have hD : va_D A (w_Pg k ad_this q_this_keywords q_this_names (ad_this_nodes 0) z_this ++ w_Nd k ad_this_nodes z_this_nodes) := hD.sub [0, 1, 2, 3, 4, 5, 6, 7, 8, 9, 10, 11, 12] (by decide) rfl
          refine lv_iload_n hx hb d_Pg_isBracketed_69 rfl (lv_at hl 4 rfl) ?_
          refine lv_icmp_eq (tgt := 77) hx hb d_Pg_isBracketed_70 (by decide) (fun hc => ?_) (fun hc => ?_)
          · have hw := hw.1 hc
            refine lv_iconst (v := (0 : Int32)) hx hb d_Pg_isBracketed_77 (by decide) ?_
            exact xq_zret (r := (0 : Int32)) (u := ()) hx hb hr hlocks hAe hP hD hS rfl rfl hw (Nat.le_of_ble_eq_true rfl) (Nat.le_of_ble_eq_true rfl) d_Pg_isBracketed_78
          · have hw := hw.2 hc
            refine lv_iconst (v := (1 : Int32)) hx hb d_Pg_isBracketed_73 (by decide) ?_
            refine lv_goto (tgt := 78) hx hb d_Pg_isBracketed_74 (by decide) ?_
            exact xq_zret (r := (1 : Int32)) (u := ()) hx hb hr hlocks hAe hP hD hS rfl rfl hw (Nat.le_of_ble_eq_true rfl) (Nat.le_of_ble_eq_true rfl) d_Pg_isBracketed_78
    · have hw := hw.1 hc
      refine lv_iconst (v := (0 : Int32)) hx hb d_Pg_isBracketed_47 (by decide) ?_
      exact xq_zret (r := (0 : Int32)) (u := ()) hx hb hr hlocks hAe hP hD hS rfl rfl hw (Nat.le_of_ble_eq_true rfl) (Nat.le_of_ble_eq_true rfl) d_Pg_isBracketed_48
theorem cw_Pg_isBracketed {R : Room} {s : State} {args : Array Value} {own : String} {index : Nat} (hts : ∀ w ∈ xq_W, w.before args s = true) (hl : .methodLink own index y_Pg_isBracketed ∈ xq_W) {rm : Room} (hR : rm.frames + 1 ≤ R.frames ∧ 8 + (5 + 11) + rm.locals ≤ R.locals) : CallW R s args own "StepText$Page" index y_Pg_isBracketed prog_6_method_11_code 5 (some (.boolean)) (.code y_Pg_isBracketed prog_6_method_11_code 5 (some (.boolean)) :: xq_W) rm rm.cells rm.slots 1 := ⟨xq_cb 1 hts kw4_98 kw1_12 hl ⟨by decide, by decide, by decide +kernel⟩ hR, hts _ kw4_97, hts _ kp3_14⟩
def y_Pg_enter : MethodName := ⟨"StepText$Page", "enter", "(I)V"⟩
theorem d_Pg_enter_0 : decode prog_6_method_7_code 0 = .ok (.aload_n 0, 1) := by decide +kernel
theorem d_Pg_enter_1 : decode prog_6_method_7_code 1 = .ok (.getfield 32, 3) := by decide +kernel
theorem d_Pg_enter_4 : decode prog_6_method_7_code 4 = .ok (.iload_n 1, 1) := by decide +kernel
theorem d_Pg_enter_5 : decode prog_6_method_7_code 5 = .ok (.invokevirtual 104, 3) := by decide +kernel
theorem d_Pg_enter_8 : decode prog_6_method_7_code 8 = .ok (.lookupswitch 111 #[(0, 44), (1, 71), (6, 93), (23, 102)], 44) := by decide +kernel
theorem d_Pg_enter_52 : decode prog_6_method_7_code 52 = .ok (.aload_n 0, 1) := by decide +kernel
theorem d_Pg_enter_53 : decode prog_6_method_7_code 53 = .ok (.aload_n 0, 1) := by decide +kernel
theorem d_Pg_enter_54 : decode prog_6_method_7_code 54 = .ok (.getfield 32, 3) := by decide +kernel
theorem d_Pg_enter_57 : decode prog_6_method_7_code 57 = .ok (.iload_n 1, 1) := by decide +kernel
theorem d_Pg_enter_58 : decode prog_6_method_7_code 58 = .ok (.invokevirtual 107, 3) := by decide +kernel
theorem d_Pg_enter_61 : decode prog_6_method_7_code 61 = .ok (.invokevirtual 110, 3) := by decide +kernel
theorem d_Pg_enter_64 : decode prog_6_method_7_code 64 = .ok (.aload_n 0, 1) := by decide +kernel
theorem d_Pg_enter_65 : decode prog_6_method_7_code 65 = .ok (.aload_n 0, 1) := by decide +kernel
theorem d_Pg_enter_66 : decode prog_6_method_7_code 66 = .ok (.getfield 32, 3) := by decide +kernel
theorem d_Pg_enter_69 : decode prog_6_method_7_code 69 = .ok (.iload_n 1, 1) := by decide +kernel
theorem d_Pg_enter_70 : decode prog_6_method_7_code 70 = .ok (.invokevirtual 113, 3) := by decide +kernel
theorem d_Pg_enter_73 : decode prog_6_method_7_code 73 = .ok (.invokevirtual 81, 3) := by decide +kernel
theorem d_Pg_enter_76 : decode prog_6_method_7_code 76 = .ok (.goto 78, 3) := by decide +kernel
theorem d_Pg_enter_79 : decode prog_6_method_7_code 79 = .ok (.aload_n 0, 1) := by decide +kernel
theorem d_Pg_enter_80 : decode prog_6_method_7_code 80 = .ok (.aload_n 0, 1) := by decide +kernel
theorem d_Pg_enter_81 : decode prog_6_method_7_code 81 = .ok (.getfield 25, 3) := by decide +kernel
theorem d_Pg_enter_84 : decode prog_6_method_7_code 84 = .ok (.aload_n 0, 1) := by decide +kernel
theorem d_Pg_enter_85 : decode prog_6_method_7_code 85 = .ok (.getfield 32, 3) := by decide +kernel
theorem d_Pg_enter_88 : decode prog_6_method_7_code 88 = .ok (.iload_n 1, 1) := by decide +kernel
theorem d_Pg_enter_89 : decode prog_6_method_7_code 89 = .ok (.invokevirtual 114, 3) := by decide +kernel
theorem d_Pg_enter_92 : decode prog_6_method_7_code 92 = .ok (.invokevirtual 77, 3) := by decide +kernel
theorem d_Pg_enter_95 : decode prog_6_method_7_code 95 = .ok (.invokevirtual 73, 3) := by decide +kernel
theorem d_Pg_enter_98 : decode prog_6_method_7_code 98 = .ok (.goto 56, 3) := by decide +kernel
theorem d_Pg_enter_101 : decode prog_6_method_7_code 101 = .ok (.aload_n 0, 1) := by decide +kernel
theorem d_Pg_enter_102 : decode prog_6_method_7_code 102 = .ok (.bipush 45, 2) := by decide +kernel
theorem d_Pg_enter_104 : decode prog_6_method_7_code 104 = .ok (.invokevirtual 84, 3) := by decide +kernel
theorem d_Pg_enter_107 : decode prog_6_method_7_code 107 = .ok (.goto 47, 3) := by decide +kernel
theorem d_Pg_enter_110 : decode prog_6_method_7_code 110 = .ok (.aload_n 0, 1) := by decide +kernel
theorem d_Pg_enter_111 : decode prog_6_method_7_code 111 = .ok (.bipush 123, 2) := by decide +kernel
theorem d_Pg_enter_113 : decode prog_6_method_7_code 113 = .ok (.invokevirtual 84, 3) := by decide +kernel
theorem d_Pg_enter_116 : decode prog_6_method_7_code 116 = .ok (.goto 38, 3) := by decide +kernel
theorem d_Pg_enter_119 : decode prog_6_method_7_code 119 = .ok (.aload_n 0, 1) := by decide +kernel
theorem d_Pg_enter_120 : decode prog_6_method_7_code 120 = .ok (.getfield 32, 3) := by decide +kernel
theorem d_Pg_enter_123 : decode prog_6_method_7_code 123 = .ok (.iload_n 1, 1) := by decide +kernel
theorem d_Pg_enter_124 : decode prog_6_method_7_code 124 = .ok (.invokevirtual 104, 3) := by decide +kernel
theorem d_Pg_enter_127 : decode prog_6_method_7_code 127 = .ok (.bipush 10, 2) := by decide +kernel
theorem d_Pg_enter_129 : decode prog_6_method_7_code 129 = .ok (.if_icmp .lt 11, 3) := by decide +kernel
theorem d_Pg_enter_132 : decode prog_6_method_7_code 132 = .ok (.aload_n 0, 1) := by decide +kernel
theorem d_Pg_enter_133 : decode prog_6_method_7_code 133 = .ok (.iload_n 1, 1) := by decide +kernel
theorem d_Pg_enter_134 : decode prog_6_method_7_code 134 = .ok (.invokevirtual 117, 3) := by decide +kernel
theorem d_Pg_enter_137 : decode prog_6_method_7_code 137 = .ok (.goto 17, 3) := by decide +kernel
theorem d_Pg_enter_140 : decode prog_6_method_7_code 140 = .ok (.aload_n 0, 1) := by decide +kernel
theorem d_Pg_enter_141 : decode prog_6_method_7_code 141 = .ok (.iload_n 1, 1) := by decide +kernel
theorem d_Pg_enter_142 : decode prog_6_method_7_code 142 = .ok (.invokevirtual 120, 3) := by decide +kernel
theorem d_Pg_enter_145 : decode prog_6_method_7_code 145 = .ok (.ifCond .eq 9, 3) := by decide +kernel
theorem d_Pg_enter_148 : decode prog_6_method_7_code 148 = .ok (.aload_n 0, 1) := by decide +kernel
theorem d_Pg_enter_149 : decode prog_6_method_7_code 149 = .ok (.bipush 40, 2) := by decide +kernel
theorem d_Pg_enter_151 : decode prog_6_method_7_code 151 = .ok (.invokevirtual 84, 3) := by decide +kernel
theorem d_Pg_enter_154 : decode prog_6_method_7_code 154 = .ok (.return_, 1) := by decide +kernel
def wp_Pg_enter (z_this : T_Pg) (z_this_keywords : T_Kw) (z_this_names : T_Nm) (z_this_nodes : T_Nd) (a1 : Int32) (post : Unit → T_Pg → Prop) : Prop := wp_Nd_kindOf z_this_nodes a1 (fun (r1 : Int32) (u1 : Unit) => (r1 = (0 : Int32) → (wp_Nd_valueOf z_this_nodes a1 (fun (r2 : Int64) (u2 : Unit) => wp_Pg_putAmount z_this r2 (fun (r3 : Unit) (u3 : T_Pg) => wp_Nd_measureOf z_this_nodes a1 (fun (r4 : Int32) (u4 : Unit) => wp_Pg_putUnit u3 z_this_keywords r4 (fun (r5 : Unit) (u5 : T_Pg) => post () u5)))))) ∧ (r1 = (1 : Int32) → (wp_Nd_subjectOf z_this_nodes a1 (fun (r6 : Int32) (u6 : Unit) => wp_Nm_lettersOf z_this_names r6 (fun (r7 : Int64) (u7 : Unit) => wp_Pg_putLetters z_this r7 (fun (r8 : Unit) (u8 : T_Pg) => post () u8))))) ∧ (r1 = (6 : Int32) → (wp_Pg_putSign z_this (45 : Int32) (fun (r9 : Unit) (u9 : T_Pg) => post () u9))) ∧ (r1 = (23 : Int32) → (wp_Pg_putSign z_this (123 : Int32) (fun (r10 : Unit) (u10 : T_Pg) => post () u10))) ∧ (¬ r1 = (0 : Int32) ∧ ¬ r1 = (1 : Int32) ∧ ¬ r1 = (6 : Int32) ∧ ¬ r1 = (23 : Int32) → (wp_Nd_kindOf z_this_nodes a1 (fun (r11 : Int32) (u11 : Unit) => (r11 < (10 : Int32) → (wp_Pg_isBracketed z_this z_this_nodes a1 (fun (r12 : Int32) (u12 : Unit) => (r12 = 0 → (post () z_this)) ∧ (¬ r12 = 0 → (wp_Pg_putSign z_this (40 : Int32) (fun (r13 : Unit) (u13 : T_Pg) => post () u13)))))) ∧ (¬ r11 < (10 : Int32) → (wp_Pg_beginStatement z_this z_this_keywords z_this_names z_this_nodes a1 (fun (r14 : Unit) (u14 : T_Pg) => post () u14)))))))
def rm_Pg_enter : Room := { frames := 4, cells := 0, slots := 0, locals := 89 }
set_option maxHeartbeats 4000000 in
set_option maxRecDepth 100000 in
theorem c_Pg_enter {l : Launch} {o : State × Array Value} {D : va_G} {k : Nat → ClassId} {ad_this : Nat → Nat} {ad_this_keywords : Nat → Nat} {ad_this_names : Nat → Nat} {ad_this_nodes : Nat → Nat} {z_this : T_Pg} {z_this_keywords : T_Kw} {z_this_names : T_Nm} {z_this_nodes : T_Nd} {a1 : Int32} {post : Unit → T_Pg → Prop} (hw : wp_Pg_enter z_this z_this_keywords z_this_names z_this_nodes a1 post) : xq_C l o y_Pg_enter (.code y_Pg_enter prog_6_method_7_code 2 none :: xq_W) rm_Pg_enter D vwCl (xt k) [.ref (ad_this 0), .int a1] (w_Pg k ad_this (ad_this_keywords 0) (ad_this_names 0) (ad_this_nodes 0) z_this ++ w_Kw k ad_this_keywords z_this_keywords ++ w_Nm k ad_this_names z_this_names ++ w_Nd k ad_this_nodes z_this_nodes) (fun _ : Unit => none) post (fun _ : T_Pg => False) (fun u : T_Pg => w_Pg k ad_this (ad_this_keywords 0) (ad_this_names 0) (ad_this_nodes 0) u ++ w_Kw k ad_this_keywords z_this_keywords ++ w_Nm k ad_this_names z_this_names ++ w_Nd k ad_this_nodes z_this_nodes) 0 0 0 0 := by
  refine xq_ofW (cc := prog_6_method_7_code) (maxL := 2) (ret := none) (by decide) rfl (Nat.le_of_ble_eq_true rfl) ?_
  intro p e s m below meth c ls H locs A hAt hAe hA hl hK hJ hP0 hP hD hS
  obtain ⟨hx, hb, hml, hr, hlocks, hown, hts, hex, hnm⟩ := id hAt
  have hl : lv_has ls 2 [(0, .ref (ad_this 0)), (1, .int a1)] := hl
  unfold wp_Pg_enter at hw
  refine lv_aload_n hx hb d_Pg_enter_0 rfl (lv_at hl 0 rfl) ?_
  refine va_get (D := D) (ci := 7) (v := .ref (ad_this_nodes 0)) (C := R_Pg) (T := F_Pg) (N := 5) hx hb hts in_Pg hown hK hP 0 rfl rfl 4 (by decide) (hts (.fieldLink R_Pg 32 R_Pg "nodes" "LStepText$Nodes;") kw2_32) (fun _ h9 => h9) rfl d_Pg_enter_1 ?_
  refine lv_iload_n hx hb d_Pg_enter_4 rfl (lv_at hl 1 rfl) ?_
  refine xq_go (wr := w_Pg k ad_this (ad_this_keywords 0) (ad_this_names 0) (ad_this_nodes 0) z_this ++ w_Kw k ad_this_keywords z_this_keywords ++ w_Nm k ad_this_names z_this_names) (stk := fun r => .int r :: []) (xq_runV (As := [.int a1]) (rest := []) ⟨hx, hb, hml, hown, hts⟩ (c_Nd_kindOf (l := l) (o := o) (D := D) (k := k) (ad_this := ad_this_nodes) hw) (cw_Nd_kindOf hts kw4_40 ⟨Nat.le_of_ble_eq_true rfl, Nat.le_of_ble_eq_true rfl⟩) (va_recv hK hP (ci := 4) (q0 := 9) rfl rfl) (hP.sub [9, 10, 11, 12, 13, 14, 15, 16, 17, 18, 19] rfl) hK hJ hS (va_free hD hS hA [9, 10, 11, 12, 13, 14, 15, 16, 17, 18, 19] rfl) ((hD.sub [9, 10, 11, 12, 13, 14, 15, 16, 17, 18, 19] (by decide) rfl).weaken (fun _ _ _ _ => trivial)) rfl hl.1 (Nat.le_of_ble_eq_true rfl) d_Pg_enter_5 ⟨Nat.le_of_ble_eq_true rfl, Nat.le_of_ble_eq_true rfl⟩) hP hD hS hA [9, 10, 11, 12, 13, 14, 15, 16, 17, 18, 19] [0, 1, 2, 3, 4, 5, 6, 7, 8] rfl rfl (by decide) (by decide) (fun _ => rfl) (fun r1 u1 H locs hw hP hD hS => ?_) (fun _ _ _ _ h9 => h9.elim)
  have hP : va_P D vwCl (w_Pg k ad_this (ad_this_keywords 0) (ad_this_names 0) (ad_this_nodes 0) z_this ++ w_Kw k ad_this_keywords z_this_keywords ++ w_Nm k ad_this_names z_this_names ++ w_Nd k ad_this_nodes z_this_nodes) H := hP.sub [0, 1, 2, 3, 4, 5, 6, 7, 8, 9, 10, 11, 12, 13, 14, 15, 16, 17, 18, 19] rfl
  have hD : va_D A (w_Pg k ad_this (ad_this_keywords 0) (ad_this_names 0) (ad_this_nodes 0) z_this ++ w_Kw k ad_this_keywords z_this_keywords ++ w_Nm k ad_this_names z_this_names ++ w_Nd k ad_this_nodes z_this_nodes) := hD.sub [0, 1, 2, 3, 4, 5, 6, 7, 8, 9, 10, 11, 12, 13, 14, 15, 16, 17, 18, 19] (by decide) rfl
  by_cases hc0 : r1 = (0 : Int32)
  · have hw := hw.1 hc0
    refine W.eq (g2 := F0 m 8 ls ([.int (0 : Int32)])) (by rw [hc0]) ?_
    refine lv_lookup (tgt := 52) hx hb d_Pg_enter_8 (by decide) rfl (by decide) ?_
    refine lv_aload_n hx hb d_Pg_enter_52 rfl (lv_at hl 0 rfl) ?_
    refine lv_aload_n hx hb d_Pg_enter_53 rfl (lv_at hl 0 rfl) ?_
    refine va_get (D := D) (ci := 7) (v := .ref (ad_this_nodes 0)) (C := R_Pg) (T := F_Pg) (N := 5) hx hb hts in_Pg hown hK hP 0 rfl rfl 4 (by decide) (hts (.fieldLink R_Pg 32 R_Pg "nodes" "LStepText$Nodes;") kw2_32) (fun _ h9 => h9) rfl d_Pg_enter_54 ?_
    refine lv_iload_n hx hb d_Pg_enter_57 rfl (lv_at hl 1 rfl) ?_
    refine xq_go (wr := w_Pg k ad_this (ad_this_keywords 0) (ad_this_names 0) (ad_this_nodes 0) z_this ++ w_Kw k ad_this_keywords z_this_keywords ++ w_Nm k ad_this_names z_this_names) (stk := fun r => .long r :: [.ref (ad_this 0)]) (xq_runV (As := [.int a1]) (rest := [.ref (ad_this 0)]) ⟨hx, hb, hml, hown, hts⟩ (c_Nd_valueOf (l := l) (o := o) (D := D) (k := k) (ad_this := ad_this_nodes) hw) (cw_Nd_valueOf hts kw4_41 ⟨Nat.le_of_ble_eq_true rfl, Nat.le_of_ble_eq_true rfl⟩) (va_recv hK hP (ci := 4) (q0 := 9) rfl rfl) (hP.sub [9, 10, 11, 12, 13, 14, 15, 16, 17, 18, 19] rfl) hK hJ hS (va_free hD hS hA [9, 10, 11, 12, 13, 14, 15, 16, 17, 18, 19] rfl) ((hD.sub [9, 10, 11, 12, 13, 14, 15, 16, 17, 18, 19] (by decide) rfl).weaken (fun _ _ _ _ => trivial)) rfl hl.1 (Nat.le_of_ble_eq_true rfl) d_Pg_enter_58 ⟨Nat.le_of_ble_eq_true rfl, Nat.le_of_ble_eq_true rfl⟩) hP hD hS hA [9, 10, 11, 12, 13, 14, 15, 16, 17, 18, 19] [0, 1, 2, 3, 4, 5, 6, 7, 8] rfl rfl (by decide) (by decide) (fun _ => rfl) (fun r2 u2 H locs hw hP hD hS => ?_) (fun _ _ _ _ h9 => h9.elim)
    have hP : va_P D vwCl (w_Pg k ad_this (ad_this_keywords 0) (ad_this_names 0) (ad_this_nodes 0) z_this ++ w_Kw k ad_this_keywords z_this_keywords ++ w_Nm k ad_this_names z_this_names ++ w_Nd k ad_this_nodes z_this_nodes) H := hP.sub [0, 1, 2, 3, 4, 5, 6, 7, 8, 9, 10, 11, 12, 13, 14, 15, 16, 17, 18, 19] rfl
    have hD : va_D A (w_Pg k ad_this (ad_this_keywords 0) (ad_this_names 0) (ad_this_nodes 0) z_this ++ w_Kw k ad_this_keywords z_this_keywords ++ w_Nm k ad_this_names z_this_names ++ w_Nd k ad_this_nodes z_this_nodes) := hD.sub [0, 1, 2, 3, 4, 5, 6, 7, 8, 9, 10, 11, 12, 13, 14, 15, 16, 17, 18, 19] (by decide) rfl
    refine xq_go (wr := w_Kw k ad_this_keywords z_this_keywords ++ w_Nm k ad_this_names z_this_names ++ w_Nd k ad_this_nodes z_this_nodes) (stk := fun _ => []) (xq_runV (As := [.long r2]) (rest := []) ⟨hx, hb, hml, hown, hts⟩ (c_Pg_putAmount (l := l) (o := o) (D := D) (k := k) (ad_this := ad_this) (q_this_keywords := (ad_this_keywords 0)) (q_this_names := (ad_this_names 0)) (q_this_nodes := (ad_this_nodes 0)) hw) (cw_Pg_putAmount hts kw4_42 ⟨Nat.le_of_ble_eq_true rfl, Nat.le_of_ble_eq_true rfl⟩) (va_recv hK hP (ci := 7) (q0 := 0) rfl rfl) (hP.sub [0, 1] rfl) hK hJ hS (va_free hD hS hA [0, 1] rfl) ((hD.sub [0, 1] (by decide) rfl).weaken (fun _ _ _ _ => trivial)) rfl hl.1 (Nat.le_of_ble_eq_true rfl) d_Pg_enter_61 ⟨Nat.le_of_ble_eq_true rfl, Nat.le_of_ble_eq_true rfl⟩) hP hD hS hA [0, 1] [2, 3, 4, 5, 6, 7, 8, 9, 10, 11, 12, 13, 14, 15, 16, 17, 18, 19] rfl rfl (by decide) (by decide) (fun _ => rfl) (fun r3 u3 H locs hw hP hD hS => ?_) (fun _ _ _ _ h9 => h9.elim)
    have hP : va_P D vwCl (w_Pg k ad_this (ad_this_keywords 0) (ad_this_names 0) (ad_this_nodes 0) u3 ++ w_Kw k ad_this_keywords z_this_keywords ++ w_Nm k ad_this_names z_this_names ++ w_Nd k ad_this_nodes z_this_nodes) H := hP.sub [18, 19, 0, 1, 2, 3, 4, 5, 6, 7, 8, 9, 10, 11, 12, 13, 14, 15, 16, 17] rfl
    have hD : va_D A (w_Pg k ad_this (ad_this_keywords 0) (ad_this_names 0) (ad_this_nodes 0) u3 ++ w_Kw k ad_this_keywords z_this_keywords ++ w_Nm k ad_this_names z_this_names ++ w_Nd k ad_this_nodes z_this_nodes) := hD.sub [18, 19, 0, 1, 2, 3, 4, 5, 6, 7, 8, 9, 10, 11, 12, 13, 14, 15, 16, 17] (by decide) rfl
    refine lv_aload_n hx hb d_Pg_enter_64 rfl (lv_at hl 0 rfl) ?_
    refine lv_aload_n hx hb d_Pg_enter_65 rfl (lv_at hl 0 rfl) ?_
    refine va_get (D := D) (ci := 7) (v := .ref (ad_this_nodes 0)) (C := R_Pg) (T := F_Pg) (N := 5) hx hb hts in_Pg hown hK hP 0 rfl rfl 4 (by decide) (hts (.fieldLink R_Pg 32 R_Pg "nodes" "LStepText$Nodes;") kw2_32) (fun _ h9 => h9) rfl d_Pg_enter_66 ?_
    refine lv_iload_n hx hb d_Pg_enter_69 rfl (lv_at hl 1 rfl) ?_
    refine xq_go (wr := w_Pg k ad_this (ad_this_keywords 0) (ad_this_names 0) (ad_this_nodes 0) u3 ++ w_Kw k ad_this_keywords z_this_keywords ++ w_Nm k ad_this_names z_this_names) (stk := fun r => .int r :: [.ref (ad_this 0)]) (xq_runV (As := [.int a1]) (rest := [.ref (ad_this 0)]) ⟨hx, hb, hml, hown, hts⟩ (c_Nd_measureOf (l := l) (o := o) (D := D) (k := k) (ad_this := ad_this_nodes) hw) (cw_Nd_measureOf hts kw4_61 ⟨Nat.le_of_ble_eq_true rfl, Nat.le_of_ble_eq_true rfl⟩) (va_recv hK hP (ci := 4) (q0 := 9) rfl rfl) (hP.sub [9, 10, 11, 12, 13, 14, 15, 16, 17, 18, 19] rfl) hK hJ hS (va_free hD hS hA [9, 10, 11, 12, 13, 14, 15, 16, 17, 18, 19] rfl) ((hD.sub [9, 10, 11, 12, 13, 14, 15, 16, 17, 18, 19] (by decide) rfl).weaken (fun _ _ _ _ => trivial)) rfl hl.1 (Nat.le_of_ble_eq_true rfl) d_Pg_enter_70 ⟨Nat.le_of_ble_eq_true rfl, Nat.le_of_ble_eq_true rfl⟩) hP hD hS hA [9, 10, 11, 12, 13, 14, 15, 16, 17, 18, 19] [0, 1, 2, 3, 4, 5, 6, 7, 8] rfl rfl (by decide) (by decide) (fun _ => rfl) (fun r4 u4 H locs hw hP hD hS => ?_) (fun _ _ _ _ h9 => h9.elim)
    have hP : va_P D vwCl (w_Pg k ad_this (ad_this_keywords 0) (ad_this_names 0) (ad_this_nodes 0) u3 ++ w_Kw k ad_this_keywords z_this_keywords ++ w_Nm k ad_this_names z_this_names ++ w_Nd k ad_this_nodes z_this_nodes) H := hP.sub [0, 1, 2, 3, 4, 5, 6, 7, 8, 9, 10, 11, 12, 13, 14, 15, 16, 17, 18, 19] rfl
    have hD : va_D A (w_Pg k ad_this (ad_this_keywords 0) (ad_this_names 0) (ad_this_nodes 0) u3 ++ w_Kw k ad_this_keywords z_this_keywords ++ w_Nm k ad_this_names z_this_names ++ w_Nd k ad_this_nodes z_this_nodes) := hD.sub [0, 1, 2, 3, 4, 5, 6, 7, 8, 9, 10, 11, 12, 13, 14, 15, 16, 17, 18, 19] (by decide) rfl
    refine xq_go (wr := w_Nm k ad_this_names z_this_names ++ w_Nd k ad_this_nodes z_this_nodes) (stk := fun _ => []) (xq_runV (As := [.int r4]) (rest := []) ⟨hx, hb, hml, hown, hts⟩ (c_Pg_putUnit (l := l) (o := o) (D := D) (k := k) (ad_this := ad_this) (ad_this_keywords := ad_this_keywords) (q_this_names := (ad_this_names 0)) (q_this_nodes := (ad_this_nodes 0)) hw) (cw_Pg_putUnit hts kw4_62 ⟨Nat.le_of_ble_eq_true rfl, Nat.le_of_ble_eq_true rfl⟩) (va_recv hK hP (ci := 7) (q0 := 0) rfl rfl) (hP.sub [0, 1, 2, 3] rfl) hK hJ hS (va_free hD hS hA [0, 1, 2, 3] rfl) ((hD.sub [0, 1, 2, 3] (by decide) rfl).weaken (fun _ _ _ _ => trivial)) rfl hl.1 (Nat.le_of_ble_eq_true rfl) d_Pg_enter_73 ⟨Nat.le_of_ble_eq_true rfl, Nat.le_of_ble_eq_true rfl⟩) hP hD hS hA [0, 1, 2, 3] [4, 5, 6, 7, 8, 9, 10, 11, 12, 13, 14, 15, 16, 17, 18, 19] rfl rfl (by decide) (by decide) (fun _ => rfl) (fun r5 u5 H locs hw hP hD hS => ?_) (fun _ _ _ _ h9 => h9.elim)
    have hP : va_P D vwCl (w_Pg k ad_this (ad_this_keywords 0) (ad_this_names 0) (ad_this_nodes 0) u5 ++ w_Kw k ad_this_keywords z_this_keywords ++ w_Nm k ad_this_names z_this_names ++ w_Nd k ad_this_nodes z_this_nodes) H := hP.sub [16, 17, 18, 19, 0, 1, 2, 3, 4, 5, 6, 7, 8, 9, 10, 11, 12, 13, 14, 15] rfl
    have hD : va_D A (w_Pg k ad_this (ad_this_keywords 0) (ad_this_names 0) (ad_this_nodes 0) u5 ++ w_Kw k ad_this_keywords z_this_keywords ++ w_Nm k ad_this_names z_this_names ++ w_Nd k ad_this_nodes z_this_nodes) := hD.sub [16, 17, 18, 19, 0, 1, 2, 3, 4, 5, 6, 7, 8, 9, 10, 11, 12, 13, 14, 15] (by decide) rfl
    refine lv_goto (tgt := 154) hx hb d_Pg_enter_76 (by decide) ?_
    exact xq_vret (r := ()) (u := u5) hx hb hr hlocks hAe hP hD hS rfl hw (Nat.le_of_ble_eq_true rfl) (Nat.le_of_ble_eq_true rfl) d_Pg_enter_154
  by_cases hc1 : r1 = (1 : Int32)
  · have hw := hw.2.1 hc1
    refine W.eq (g2 := F0 m 8 ls ([.int (1 : Int32)])) (by rw [hc1]) ?_
    refine lv_lookup (tgt := 79) hx hb d_Pg_enter_8 (by decide) rfl (by decide) ?_
    refine lv_aload_n hx hb d_Pg_enter_79 rfl (lv_at hl 0 rfl) ?_
    refine lv_aload_n hx hb d_Pg_enter_80 rfl (lv_at hl 0 rfl) ?_
    refine va_get (D := D) (ci := 7) (v := .ref (ad_this_names 0)) (C := R_Pg) (T := F_Pg) (N := 5) hx hb hts in_Pg hown hK hP 0 rfl rfl 3 (by decide) (hts (.fieldLink R_Pg 25 R_Pg "names" "LStepText$Names;") kw2_31) (fun _ h9 => h9) rfl d_Pg_enter_81 ?_
    refine lv_aload_n hx hb d_Pg_enter_84 rfl (lv_at hl 0 rfl) ?_
    refine va_get (D := D) (ci := 7) (v := .ref (ad_this_nodes 0)) (C := R_Pg) (T := F_Pg) (N := 5) hx hb hts in_Pg hown hK hP 0 rfl rfl 4 (by decide) (hts (.fieldLink R_Pg 32 R_Pg "nodes" "LStepText$Nodes;") kw2_32) (fun _ h9 => h9) rfl d_Pg_enter_85 ?_
    refine lv_iload_n hx hb d_Pg_enter_88 rfl (lv_at hl 1 rfl) ?_
    refine xq_go (wr := w_Pg k ad_this (ad_this_keywords 0) (ad_this_names 0) (ad_this_nodes 0) z_this ++ w_Kw k ad_this_keywords z_this_keywords ++ w_Nm k ad_this_names z_this_names) (stk := fun r => .int r :: [.ref (ad_this_names 0), .ref (ad_this 0)]) (xq_runV (As := [.int a1]) (rest := [.ref (ad_this_names 0), .ref (ad_this 0)]) ⟨hx, hb, hml, hown, hts⟩ (c_Nd_subjectOf (l := l) (o := o) (D := D) (k := k) (ad_this := ad_this_nodes) hw) (cw_Nd_subjectOf hts kw4_78 ⟨Nat.le_of_ble_eq_true rfl, Nat.le_of_ble_eq_true rfl⟩) (va_recv hK hP (ci := 4) (q0 := 9) rfl rfl) (hP.sub [9, 10, 11, 12, 13, 14, 15, 16, 17, 18, 19] rfl) hK hJ hS (va_free hD hS hA [9, 10, 11, 12, 13, 14, 15, 16, 17, 18, 19] rfl) ((hD.sub [9, 10, 11, 12, 13, 14, 15, 16, 17, 18, 19] (by decide) rfl).weaken (fun _ _ _ _ => trivial)) rfl hl.1 (Nat.le_of_ble_eq_true rfl) d_Pg_enter_89 ⟨Nat.le_of_ble_eq_true rfl, Nat.le_of_ble_eq_true rfl⟩) hP hD hS hA [9, 10, 11, 12, 13, 14, 15, 16, 17, 18, 19] [0, 1, 2, 3, 4, 5, 6, 7, 8] rfl rfl (by decide) (by decide) (fun _ => rfl) (fun r6 u6 H locs hw hP hD hS => ?_) (fun _ _ _ _ h9 => h9.elim)
    have hP : va_P D vwCl (w_Pg k ad_this (ad_this_keywords 0) (ad_this_names 0) (ad_this_nodes 0) z_this ++ w_Kw k ad_this_keywords z_this_keywords ++ w_Nm k ad_this_names z_this_names ++ w_Nd k ad_this_nodes z_this_nodes) H := hP.sub [0, 1, 2, 3, 4, 5, 6, 7, 8, 9, 10, 11, 12, 13, 14, 15, 16, 17, 18, 19] rfl
    have hD : va_D A (w_Pg k ad_this (ad_this_keywords 0) (ad_this_names 0) (ad_this_nodes 0) z_this ++ w_Kw k ad_this_keywords z_this_keywords ++ w_Nm k ad_this_names z_this_names ++ w_Nd k ad_this_nodes z_this_nodes) := hD.sub [0, 1, 2, 3, 4, 5, 6, 7, 8, 9, 10, 11, 12, 13, 14, 15, 16, 17, 18, 19] (by decide) rfl
    refine xq_go (wr := w_Pg k ad_this (ad_this_keywords 0) (ad_this_names 0) (ad_this_nodes 0) z_this ++ w_Kw k ad_this_keywords z_this_keywords ++ w_Nd k ad_this_nodes z_this_nodes) (stk := fun r => .long r :: [.ref (ad_this 0)]) (xq_runV (As := [.int r6]) (rest := [.ref (ad_this 0)]) ⟨hx, hb, hml, hown, hts⟩ (c_Nm_lettersOf (l := l) (o := o) (D := D) (k := k) (ad_this := ad_this_names) hw) (cw_Nm_lettersOf hts kw4_79 ⟨Nat.le_of_ble_eq_true rfl, Nat.le_of_ble_eq_true rfl⟩) (va_recv hK hP (ci := 3) (q0 := 4) rfl rfl) (hP.sub [4, 5, 6, 7, 8] rfl) hK hJ hS (va_free hD hS hA [4, 5, 6, 7, 8] rfl) ((hD.sub [4, 5, 6, 7, 8] (by decide) rfl).weaken (fun _ _ _ _ => trivial)) rfl hl.1 (Nat.le_of_ble_eq_true rfl) d_Pg_enter_92 ⟨Nat.le_of_ble_eq_true rfl, Nat.le_of_ble_eq_true rfl⟩) hP hD hS hA [4, 5, 6, 7, 8] [0, 1, 2, 3, 9, 10, 11, 12, 13, 14, 15, 16, 17, 18, 19] rfl rfl (by decide) (by decide) (fun _ => rfl) (fun r7 u7 H locs hw hP hD hS => ?_) (fun _ _ _ _ h9 => h9.elim)
    have hP : va_P D vwCl (w_Pg k ad_this (ad_this_keywords 0) (ad_this_names 0) (ad_this_nodes 0) z_this ++ w_Kw k ad_this_keywords z_this_keywords ++ w_Nm k ad_this_names z_this_names ++ w_Nd k ad_this_nodes z_this_nodes) H := hP.sub [0, 1, 2, 3, 15, 16, 17, 18, 19, 4, 5, 6, 7, 8, 9, 10, 11, 12, 13, 14] rfl
    have hD : va_D A (w_Pg k ad_this (ad_this_keywords 0) (ad_this_names 0) (ad_this_nodes 0) z_this ++ w_Kw k ad_this_keywords z_this_keywords ++ w_Nm k ad_this_names z_this_names ++ w_Nd k ad_this_nodes z_this_nodes) := hD.sub [0, 1, 2, 3, 15, 16, 17, 18, 19, 4, 5, 6, 7, 8, 9, 10, 11, 12, 13, 14] (by decide) rfl
    refine xq_go (wr := w_Kw k ad_this_keywords z_this_keywords ++ w_Nm k ad_this_names z_this_names ++ w_Nd k ad_this_nodes z_this_nodes) (stk := fun _ => []) (xq_runV (As := [.long r7]) (rest := []) ⟨hx, hb, hml, hown, hts⟩ (c_Pg_putLetters (l := l) (o := o) (D := D) (k := k) (ad_this := ad_this) (q_this_keywords := (ad_this_keywords 0)) (q_this_names := (ad_this_names 0)) (q_this_nodes := (ad_this_nodes 0)) hw) (cw_Pg_putLetters hts kw4_70 ⟨Nat.le_of_ble_eq_true rfl, Nat.le_of_ble_eq_true rfl⟩) (va_recv hK hP (ci := 7) (q0 := 0) rfl rfl) (hP.sub [0, 1] rfl) hK hJ hS (va_free hD hS hA [0, 1] rfl) ((hD.sub [0, 1] (by decide) rfl).weaken (fun _ _ _ _ => trivial)) rfl hl.1 (Nat.le_of_ble_eq_true rfl) d_Pg_enter_95 ⟨Nat.le_of_ble_eq_true rfl, Nat.le_of_ble_eq_true rfl⟩) hP hD hS hA [0, 1] [2, 3, 4, 5, 6, 7, 8, 9, 10, 11, 12, 13, 14, 15, 16, 17, 18, 19] rfl rfl (by decide) (by decide) (fun _ => rfl) (fun r8 u8 H locs hw hP hD hS => ?_) (fun _ _ _ _ h9 => h9.elim)
    have hP : va_P D vwCl (w_Pg k ad_this (ad_this_keywords 0) (ad_this_names 0) (ad_this_nodes 0) u8 ++ w_Kw k ad_this_keywords z_this_keywords ++ w_Nm k ad_this_names z_this_names ++ w_Nd k ad_this_nodes z_this_nodes) H := hP.sub [18, 19, 0, 1, 2, 3, 4, 5, 6, 7, 8, 9, 10, 11, 12, 13, 14, 15, 16, 17] rfl
    have hD : va_D A (w_Pg k ad_this (ad_this_keywords 0) (ad_this_names 0) (ad_this_nodes 0) u8 ++ w_Kw k ad_this_keywords z_this_keywords ++ w_Nm k ad_this_names z_this_names ++ w_Nd k ad_this_nodes z_this_nodes) := hD.sub [18, 19, 0, 1, 2, 3, 4, 5, 6, 7, 8, 9, 10, 11, 12, 13, 14, 15, 16, 17] (by decide) rfl
    refine lv_goto (tgt := 154) hx hb d_Pg_enter_98 (by decide) ?_
    exact xq_vret (r := ()) (u := u8) hx hb hr hlocks hAe hP hD hS rfl hw (Nat.le_of_ble_eq_true rfl) (Nat.le_of_ble_eq_true rfl) d_Pg_enter_154
  by_cases hc2 : r1 = (6 : Int32)
  · have hw := hw.2.2.1 hc2
    refine W.eq (g2 := F0 m 8 ls ([.int (6 : Int32)])) (by rw [hc2]) ?_
    refine lv_lookup (tgt := 101) hx hb d_Pg_enter_8 (by decide) rfl (by decide) ?_
    refine lv_aload_n hx hb d_Pg_enter_101 rfl (lv_at hl 0 rfl) ?_
    refine lv_bipush (v := (45 : Int32)) hx hb d_Pg_enter_102 (by decide) ?_
    refine xq_go (wr := w_Kw k ad_this_keywords z_this_keywords ++ w_Nm k ad_this_names z_this_names ++ w_Nd k ad_this_nodes z_this_nodes) (stk := fun _ => []) (xq_runV (As := [.int (45 : Int32)]) (rest := []) ⟨hx, hb, hml, hown, hts⟩ (c_Pg_putSign (l := l) (o := o) (D := D) (k := k) (ad_this := ad_this) (q_this_keywords := (ad_this_keywords 0)) (q_this_names := (ad_this_names 0)) (q_this_nodes := (ad_this_nodes 0)) hw) (cw_Pg_putSign hts kw4_83 ⟨Nat.le_of_ble_eq_true rfl, Nat.le_of_ble_eq_true rfl⟩) (va_recv hK hP (ci := 7) (q0 := 0) rfl rfl) (hP.sub [0, 1] rfl) hK hJ hS (va_free hD hS hA [0, 1] rfl) ((hD.sub [0, 1] (by decide) rfl).weaken (fun _ _ _ _ => trivial)) rfl hl.1 (Nat.le_of_ble_eq_true rfl) d_Pg_enter_104 ⟨Nat.le_of_ble_eq_true rfl, Nat.le_of_ble_eq_true rfl⟩) hP hD hS hA [0, 1] [2, 3, 4, 5, 6, 7, 8, 9, 10, 11, 12, 13, 14, 15, 16, 17, 18, 19] rfl rfl (by decide) (by decide) (fun _ => rfl) (fun r9 u9 H locs hw hP hD hS => ?_) (fun _ _ _ _ h9 => h9.elim)
    have hP : va_P D vwCl (w_Pg k ad_this (ad_this_keywords 0) (ad_this_names 0) (ad_this_nodes 0) u9 ++ w_Kw k ad_this_keywords z_this_keywords ++ w_Nm k ad_this_names z_this_names ++ w_Nd k ad_this_nodes z_this_nodes) H := hP.sub [18, 19, 0, 1, 2, 3, 4, 5, 6, 7, 8, 9, 10, 11, 12, 13, 14, 15, 16, 17] rfl
    have hD : va_D A (w_Pg k ad_this (ad_this_keywords 0) (ad_this_names 0) (ad_this_nodes 0) u9 ++ w_Kw k ad_this_keywords z_this_keywords ++ w_Nm k ad_this_names z_this_names ++ w_Nd k ad_this_nodes z_this_nodes) := hD.sub [18, 19, 0, 1, 2, 3, 4, 5, 6, 7, 8, 9, 10, 11, 12, 13, 14, 15, 16, 17] (by decide) rfl
    refine lv_goto (tgt := 154) hx hb d_Pg_enter_107 (by decide) ?_
    exact xq_vret (r := ()) (u := u9) hx hb hr hlocks hAe hP hD hS rfl hw (Nat.le_of_ble_eq_true rfl) (Nat.le_of_ble_eq_true rfl) d_Pg_enter_154
  by_cases hc3 : r1 = (23 : Int32)
  · have hw := hw.2.2.2.1 hc3
    refine W.eq (g2 := F0 m 8 ls ([.int (23 : Int32)])) (by rw [hc3]) ?_
    refine lv_lookup (tgt := 110) hx hb d_Pg_enter_8 (by decide) rfl (by decide) ?_
    refine lv_aload_n hx hb d_Pg_enter_110 rfl (lv_at hl 0 rfl) ?_
    refine lv_bipush (v := (123 : Int32)) hx hb d_Pg_enter_111 (by decide) ?_
    refine xq_go (wr := w_Kw k ad_this_keywords z_this_keywords ++ w_Nm k ad_this_names z_this_names ++ w_Nd k ad_this_nodes z_this_nodes) (stk := fun _ => []) (xq_runV (As := [.int (123 : Int32)]) (rest := []) ⟨hx, hb, hml, hown, hts⟩ (c_Pg_putSign (l := l) (o := o) (D := D) (k := k) (ad_this := ad_this) (q_this_keywords := (ad_this_keywords 0)) (q_this_names := (ad_this_names 0)) (q_this_nodes := (ad_this_nodes 0)) hw) (cw_Pg_putSign hts kw4_83 ⟨Nat.le_of_ble_eq_true rfl, Nat.le_of_ble_eq_true rfl⟩) (va_recv hK hP (ci := 7) (q0 := 0) rfl rfl) (hP.sub [0, 1] rfl) hK hJ hS (va_free hD hS hA [0, 1] rfl) ((hD.sub [0, 1] (by decide) rfl).weaken (fun _ _ _ _ => trivial)) rfl hl.1 (Nat.le_of_ble_eq_true rfl) d_Pg_enter_113 ⟨Nat.le_of_ble_eq_true rfl, Nat.le_of_ble_eq_true rfl⟩) hP hD hS hA [0, 1] [2, 3, 4, 5, 6, 7, 8, 9, 10, 11, 12, 13, 14, 15, 16, 17, 18, 19] rfl rfl (by decide) (by decide) (fun _ => rfl) (fun r10 u10 H locs hw hP hD hS => ?_) (fun _ _ _ _ h9 => h9.elim)
    have hP : va_P D vwCl (w_Pg k ad_this (ad_this_keywords 0) (ad_this_names 0) (ad_this_nodes 0) u10 ++ w_Kw k ad_this_keywords z_this_keywords ++ w_Nm k ad_this_names z_this_names ++ w_Nd k ad_this_nodes z_this_nodes) H := hP.sub [18, 19, 0, 1, 2, 3, 4, 5, 6, 7, 8, 9, 10, 11, 12, 13, 14, 15, 16, 17] rfl
    have hD : va_D A (w_Pg k ad_this (ad_this_keywords 0) (ad_this_names 0) (ad_this_nodes 0) u10 ++ w_Kw k ad_this_keywords z_this_keywords ++ w_Nm k ad_this_names z_this_names ++ w_Nd k ad_this_nodes z_this_nodes) := hD.sub [18, 19, 0, 1, 2, 3, 4, 5, 6, 7, 8, 9, 10, 11, 12, 13, 14, 15, 16, 17] (by decide) rfl
    refine lv_goto (tgt := 154) hx hb d_Pg_enter_116 (by decide) ?_
    exact xq_vret (r := ()) (u := u10) hx hb hr hlocks hAe hP hD hS rfl hw (Nat.le_of_ble_eq_true rfl) (Nat.le_of_ble_eq_true rfl) d_Pg_enter_154
  have hw := hw.2.2.2.2 ⟨hc0, hc1, hc2, hc3⟩
  refine lv_lookup (tgt := 119) (off := 111) hx hb d_Pg_enter_8 (by decide) ((lv_osw (a := 0) (o := 44) (d := 111) (r := [(1, 71), (6, 93), (23, 102)]) hc0 (by decide)).trans ((lv_osw (a := 1) (o := 71) (d := 111) (r := [(6, 93), (23, 102)]) hc1 (by decide)).trans ((lv_osw (a := 6) (o := 93) (d := 111) (r := [(23, 102)]) hc2 (by decide)).trans ((lv_osw (a := 23) (o := 102) (d := 111) (r := []) hc3 (by decide)).trans rfl)))) (by decide) ?_
  refine lv_aload_n hx hb d_Pg_enter_119 rfl (lv_at hl 0 rfl) ?_
  refine va_get (D := D) (ci := 7) (v := .ref (ad_this_nodes 0)) (C := R_Pg) (T := F_Pg) (N := 5) hx hb hts in_Pg hown hK hP 0 rfl rfl 4 (by decide) (hts (.fieldLink R_Pg 32 R_Pg "nodes" "LStepText$Nodes;") kw2_32) (fun _ h9 => h9) rfl d_Pg_enter_120 ?_
  refine lv_iload_n hx hb d_Pg_enter_123 rfl (lv_at hl 1 rfl) ?_
  refine xq_go (wr := w_Pg k ad_this (ad_this_keywords 0) (ad_this_names 0) (ad_this_nodes 0) z_this ++ w_Kw k ad_this_keywords z_this_keywords ++ w_Nm k ad_this_names z_this_names) (stk := fun r => .int r :: []) (xq_runV (As := [.int a1]) (rest := []) ⟨hx, hb, hml, hown, hts⟩ (c_Nd_kindOf (l := l) (o := o) (D := D) (k := k) (ad_this := ad_this_nodes) hw) (cw_Nd_kindOf hts kw4_40 ⟨Nat.le_of_ble_eq_true rfl, Nat.le_of_ble_eq_true rfl⟩) (va_recv hK hP (ci := 4) (q0 := 9) rfl rfl) (hP.sub [9, 10, 11, 12, 13, 14, 15, 16, 17, 18, 19] rfl) hK hJ hS (va_free hD hS hA [9, 10, 11, 12, 13, 14, 15, 16, 17, 18, 19] rfl) ((hD.sub [9, 10, 11, 12, 13, 14, 15, 16, 17, 18, 19] (by decide) rfl).weaken (fun _ _ _ _ => trivial)) rfl hl.1 (Nat.le_of_ble_eq_true rfl) d_Pg_enter_124 ⟨Nat.le_of_ble_eq_true rfl, Nat.le_of_ble_eq_true rfl⟩) hP hD hS hA [9, 10, 11, 12, 13, 14, 15, 16, 17, 18, 19] [0, 1, 2, 3, 4, 5, 6, 7, 8] rfl rfl (by decide) (by decide) (fun _ => rfl) (fun r11 u11 H locs hw hP hD hS => ?_) (fun _ _ _ _ h9 => h9.elim)
  have hP : va_P D vwCl (w_Pg k ad_this (ad_this_keywords 0) (ad_this_names 0) (ad_this_nodes 0) z_this ++ w_Kw k ad_this_keywords z_this_keywords ++ w_Nm k ad_this_names z_this_names ++ w_Nd k ad_this_nodes z_this_nodes) H := hP.sub [0, 1, 2, 3, 4, 5, 6, 7, 8, 9, 10, 11, 12, 13, 14, 15, 16, 17, 18, 19] rfl
  have hD : va_D A (w_Pg k ad_this (ad_this_keywords 0) (ad_this_names 0) (ad_this_nodes 0) z_this ++ w_Kw k ad_this_keywords z_this_keywords ++ w_Nm k ad_this_names z_this_names ++ w_Nd k ad_this_nodes z_this_nodes) := hD.sub [0, 1, 2, 3, 4, 5, 6, 7, 8, 9, 10, 11, 12, 13, 14, 15, 16, 17, 18, 19] (by decide) rfl
  refine lv_bipush (v := (10 : Int32)) hx hb d_Pg_enter_127 (by decide) ?_
  refine lv_icmp_lt (tgt := 140) hx hb d_Pg_enter_129 (by decide) (fun hc => ?_) (fun hc => ?_)
  · have hw := hw.1 hc
    refine lv_aload_n hx hb d_Pg_enter_140 rfl (lv_at hl 0 rfl) ?_
    refine lv_iload_n hx hb d_Pg_enter_141 rfl (lv_at hl 1 rfl) ?_
    refine xq_go (wr := w_Kw k ad_this_keywords z_this_keywords ++ w_Nm k ad_this_names z_this_names) (stk := fun r => .int r :: []) (xq_runV (As := [.int a1]) (rest := []) ⟨hx, hb, hml, hown, hts⟩ (c_Pg_isBracketed (l := l) (o := o) (D := D) (k := k) (ad_this := ad_this) (ad_this_nodes := ad_this_nodes) (q_this_keywords := (ad_this_keywords 0)) (q_this_names := (ad_this_names 0)) hw) (cw_Pg_isBracketed hts kw4_95 ⟨Nat.le_of_ble_eq_true rfl, Nat.le_of_ble_eq_true rfl⟩) (va_recv hK hP (ci := 7) (q0 := 0) rfl rfl) (hP.sub [0, 1, 9, 10, 11, 12, 13, 14, 15, 16, 17, 18, 19] rfl) hK hJ hS (va_free hD hS hA [0, 1, 9, 10, 11, 12, 13, 14, 15, 16, 17, 18, 19] rfl) ((hD.sub [0, 1, 9, 10, 11, 12, 13, 14, 15, 16, 17, 18, 19] (by decide) rfl).weaken (fun _ _ _ _ => trivial)) rfl hl.1 (Nat.le_of_ble_eq_true rfl) d_Pg_enter_142 ⟨Nat.le_of_ble_eq_true rfl, Nat.le_of_ble_eq_true rfl⟩) hP hD hS hA [0, 1, 9, 10, 11, 12, 13, 14, 15, 16, 17, 18, 19] [2, 3, 4, 5, 6, 7, 8] rfl rfl (by decide) (by decide) (fun _ => rfl) (fun r12 u12 H locs hw hP hD hS => ?_) (fun _ _ _ _ h9 => h9.elim)
    have hP : va_P D vwCl (w_Pg k ad_this (ad_this_keywords 0) (ad_this_names 0) (ad_this_nodes 0) z_this ++ w_Kw k ad_this_keywords z_this_keywords ++ w_Nm k ad_this_names z_this_names ++ w_Nd k ad_this_nodes z_this_nodes) H := hP.sub [7, 8, 0, 1, 2, 3, 4, 5, 6, 9, 10, 11, 12, 13, 14, 15, 16, 17, 18, 19] rfl
    have hD : va_D A (w_Pg k ad_this (ad_this_keywords 0) (ad_this_names 0) (ad_this_nodes 0) z_this ++ w_Kw k ad_this_keywords z_this_keywords ++ w_Nm k ad_this_names z_this_names ++ w_Nd k ad_this_nodes z_this_nodes) := hD.sub [7, 8, 0, 1, 2, 3, 4, 5, 6, 9, 10, 11, 12, 13, 14, 15, 16, 17, 18, 19] (by decide) rfl
    refine lv_if_eq (tgt := 154) hx hb d_Pg_enter_145 (by decide) (fun hc => ?_) (fun hc => ?_)
    · have hw := hw.1 hc
      exact xq_vret (r := ()) (u := z_this) hx hb hr hlocks hAe hP hD hS rfl hw (Nat.le_of_ble_eq_true rfl) (Nat.le_of_ble_eq_true rfl) d_Pg_enter_154
    · have hw := hw.2 hc
      refine lv_aload_n hx hb d_Pg_enter_148 rfl (lv_at hl 0 rfl) ?_
      refine lv_bipush (v := (40 : Int32)) hx hb d_Pg_enter_149 (by decide) ?_
      refine xq_go (wr := w_Kw k ad_this_keywords z_this_keywords ++ w_Nm k ad_this_names z_this_names ++ w_Nd k ad_this_nodes z_this_nodes) (stk := fun _ => []) (xq_runV (As := [.int (40 : Int32)]) (rest := []) ⟨hx, hb, hml, hown, hts⟩ (c_Pg_putSign (l := l) (o := o) (D := D) (k := k) (ad_this := ad_this) (q_this_keywords := (ad_this_keywords 0)) (q_this_names := (ad_this_names 0)) (q_this_nodes := (ad_this_nodes 0)) hw) (cw_Pg_putSign hts kw4_83 ⟨Nat.le_of_ble_eq_true rfl, Nat.le_of_ble_eq_true rfl⟩) (va_recv hK hP (ci := 7) (q0 := 0) rfl rfl) (hP.sub [0, 1] rfl) hK hJ hS (va_free hD hS hA [0, 1] rfl) ((hD.sub [0, 1] (by decide) rfl).weaken (fun _ _ _ _ => trivial)) rfl hl.1 (Nat.le_of_ble_eq_true rfl) d_Pg_enter_151 ⟨Nat.le_of_ble_eq_true rfl, Nat.le_of_ble_eq_true rfl⟩) hP hD hS hA [0, 1] [2, 3, 4, 5, 6, 7, 8, 9, 10, 11, 12, 13, 14, 15, 16, 17, 18, 19] rfl rfl (by decide) (by decide) (fun _ => rfl) (fun r13 u13 H locs hw hP hD hS => ?_) (fun _ _ _ _ h9 => h9.elim)
      have hP : va_P D vwCl (w_Pg k ad_this (ad_this_keywords 0) (ad_this_names 0) (ad_this_nodes 0) u13 ++ w_Kw k ad_this_keywords z_this_keywords ++ w_Nm k ad_this_names z_this_names ++ w_Nd k ad_this_nodes z_this_nodes) H := hP.sub [18, 19, 0, 1, 2, 3, 4, 5, 6, 7, 8, 9, 10, 11, 12, 13, 14, 15, 16, 17] rfl
      have hD : va_D A (w_Pg k ad_this (ad_this_keywords 0) (ad_this_names 0) (ad_this_nodes 0) u13 ++ w_Kw k ad_this_keywords z_this_keywords ++ w_Nm k ad_this_names z_this_names ++ w_Nd k ad_this_nodes z_this_nodes) := hD.sub [18, 19, 0, 1, 2, 3, 4, 5, 6, 7, 8, 9, 10, 11, 12, 13, 14, 15, 16, 17] (by decide) rfl
      exact xq_vret (r := ()) (u := u13) hx hb hr hlocks hAe hP hD hS rfl hw (Nat.le_of_ble_eq_true rfl) (Nat.le_of_ble_eq_true rfl) d_Pg_enter_154
  · have hw := hw.2 hc
    refine lv_aload_n hx hb d_Pg_enter_132 rfl (lv_at hl 0 rfl) ?_
    refine lv_iload_n hx hb d_Pg_enter_133 rfl (lv_at hl 1 rfl) ?_
    refine xq_go (wr := ([] : va_W)) (stk := fun _ => []) (xq_runV (As := [.int a1]) (rest := []) ⟨hx, hb, hml, hown, hts⟩ (c_Pg_beginStatement (l := l) (o := o) (D := D) (k := k) (ad_this := ad_this) (ad_this_keywords := ad_this_keywords) (ad_this_names := ad_this_names) (ad_this_nodes := ad_this_nodes) hw) (cw_Pg_beginStatement hts kw4_87 ⟨Nat.le_of_ble_eq_true rfl, Nat.le_of_ble_eq_true rfl⟩) (va_recv hK hP (ci := 7) (q0 := 0) rfl rfl) (hP.sub [0, 1, 2, 3, 4, 5, 6, 7, 8, 9, 10, 11, 12, 13, 14, 15, 16, 17, 18, 19] rfl) hK hJ hS (va_free hD hS hA [0, 1, 2, 3, 4, 5, 6, 7, 8, 9, 10, 11, 12, 13, 14, 15, 16, 17, 18, 19] rfl) ((hD.sub [0, 1, 2, 3, 4, 5, 6, 7, 8, 9, 10, 11, 12, 13, 14, 15, 16, 17, 18, 19] (by decide) rfl).weaken (fun _ _ _ _ => trivial)) rfl hl.1 (Nat.le_of_ble_eq_true rfl) d_Pg_enter_134 ⟨Nat.le_of_ble_eq_true rfl, Nat.le_of_ble_eq_true rfl⟩) hP hD hS hA [0, 1, 2, 3, 4, 5, 6, 7, 8, 9, 10, 11, 12, 13, 14, 15, 16, 17, 18, 19] [] rfl rfl (by decide) (by decide) (fun _ => rfl) (fun r14 u14 H locs hw hP hD hS => ?_) (fun _ _ _ _ h9 => h9.elim)
    have hP : va_P D vwCl (w_Pg k ad_this (ad_this_keywords 0) (ad_this_names 0) (ad_this_nodes 0) u14 ++ w_Kw k ad_this_keywords z_this_keywords ++ w_Nm k ad_this_names z_this_names ++ w_Nd k ad_this_nodes z_this_nodes) H := hP.sub [0, 1, 2, 3, 4, 5, 6, 7, 8, 9, 10, 11, 12, 13, 14, 15, 16, 17, 18, 19] rfl
    have hD : va_D A (w_Pg k ad_this (ad_this_keywords 0) (ad_this_names 0) (ad_this_nodes 0) u14 ++ w_Kw k ad_this_keywords z_this_keywords ++ w_Nm k ad_this_names z_this_names ++ w_Nd k ad_this_nodes z_this_nodes) := hD.sub [0, 1, 2, 3, 4, 5, 6, 7, 8, 9, 10, 11, 12, 13, 14, 15, 16, 17, 18, 19] (by decide) rfl
    refine lv_goto (tgt := 154) hx hb d_Pg_enter_137 (by decide) ?_
    exact xq_vret (r := ()) (u := u14) hx hb hr hlocks hAe hP hD hS rfl hw (Nat.le_of_ble_eq_true rfl) (Nat.le_of_ble_eq_true rfl) d_Pg_enter_154
theorem cw_Pg_enter {R : Room} {s : State} {args : Array Value} {own : String} {index : Nat} (hts : ∀ w ∈ xq_W, w.before args s = true) (hl : .methodLink own index y_Pg_enter ∈ xq_W) {rm : Room} (hR : rm.frames + 1 ≤ R.frames ∧ 8 + (2 + 11) + rm.locals ≤ R.locals) : CallW R s args own "StepText$Page" index y_Pg_enter prog_6_method_7_code 2 none (.code y_Pg_enter prog_6_method_7_code 2 none :: xq_W) rm rm.cells rm.slots 1 := ⟨xq_cb 1 hts kw4_39 kw1_12 hl ⟨by decide, by decide, by decide +kernel⟩ hR, hts _ kw4_38, hts _ kp3_4⟩
def y_Pg_leave : MethodName := ⟨"StepText$Page", "leave", "(I)V"⟩
theorem d_Pg_leave_0 : decode prog_6_method_9_code 0 = .ok (.aload_n 0, 1) := by decide +kernel
theorem d_Pg_leave_1 : decode prog_6_method_9_code 1 = .ok (.getfield 32, 3) := by decide +kernel
theorem d_Pg_leave_4 : decode prog_6_method_9_code 4 = .ok (.iload_n 1, 1) := by decide +kernel
theorem d_Pg_leave_5 : decode prog_6_method_9_code 5 = .ok (.invokevirtual 104, 3) := by decide +kernel
theorem d_Pg_leave_8 : decode prog_6_method_9_code 8 = .ok (.istore_n 2, 1) := by decide +kernel
theorem d_Pg_leave_9 : decode prog_6_method_9_code 9 = .ok (.iload_n 2, 1) := by decide +kernel
theorem d_Pg_leave_10 : decode prog_6_method_9_code 10 = .ok (.bipush 23, 2) := by decide +kernel
theorem d_Pg_leave_12 : decode prog_6_method_9_code 12 = .ok (.if_icmp .ne 16, 3) := by decide +kernel
theorem d_Pg_leave_15 : decode prog_6_method_9_code 15 = .ok (.aload_n 0, 1) := by decide +kernel
theorem d_Pg_leave_16 : decode prog_6_method_9_code 16 = .ok (.invokevirtual 66, 3) := by decide +kernel
theorem d_Pg_leave_19 : decode prog_6_method_9_code 19 = .ok (.aload_n 0, 1) := by decide +kernel
theorem d_Pg_leave_20 : decode prog_6_method_9_code 20 = .ok (.bipush 125, 2) := by decide +kernel
theorem d_Pg_leave_22 : decode prog_6_method_9_code 22 = .ok (.invokevirtual 84, 3) := by decide +kernel
theorem d_Pg_leave_25 : decode prog_6_method_9_code 25 = .ok (.goto 33, 3) := by decide +kernel
theorem d_Pg_leave_28 : decode prog_6_method_9_code 28 = .ok (.iload_n 2, 1) := by decide +kernel
theorem d_Pg_leave_29 : decode prog_6_method_9_code 29 = .ok (.invokestatic 126, 3) := by decide +kernel
theorem d_Pg_leave_32 : decode prog_6_method_9_code 32 = .ok (.ifCond .eq 12, 3) := by decide +kernel
theorem d_Pg_leave_35 : decode prog_6_method_9_code 35 = .ok (.aload_n 0, 1) := by decide +kernel
theorem d_Pg_leave_36 : decode prog_6_method_9_code 36 = .ok (.bipush 59, 2) := by decide +kernel
theorem d_Pg_leave_38 : decode prog_6_method_9_code 38 = .ok (.invokevirtual 84, 3) := by decide +kernel
theorem d_Pg_leave_41 : decode prog_6_method_9_code 41 = .ok (.goto 17, 3) := by decide +kernel
theorem d_Pg_leave_44 : decode prog_6_method_9_code 44 = .ok (.aload_n 0, 1) := by decide +kernel
theorem d_Pg_leave_45 : decode prog_6_method_9_code 45 = .ok (.iload_n 1, 1) := by decide +kernel
theorem d_Pg_leave_46 : decode prog_6_method_9_code 46 = .ok (.invokevirtual 120, 3) := by decide +kernel
theorem d_Pg_leave_49 : decode prog_6_method_9_code 49 = .ok (.ifCond .eq 9, 3) := by decide +kernel
theorem d_Pg_leave_52 : decode prog_6_method_9_code 52 = .ok (.aload_n 0, 1) := by decide +kernel
theorem d_Pg_leave_53 : decode prog_6_method_9_code 53 = .ok (.bipush 41, 2) := by decide +kernel
theorem d_Pg_leave_55 : decode prog_6_method_9_code 55 = .ok (.invokevirtual 84, 3) := by decide +kernel
theorem d_Pg_leave_58 : decode prog_6_method_9_code 58 = .ok (.return_, 1) := by decide +kernel
def wp_Pg_leave (z_this : T_Pg) (z_this_nodes : T_Nd) (a1 : Int32) (post : Unit → T_Pg → Prop) : Prop := wp_Nd_kindOf z_this_nodes a1 (fun (r1 : Int32) (u1 : Unit) => (r1 = (23 : Int32) → (wp_Pg_beginLine z_this (fun (r6 : Unit) (u6 : T_Pg) => wp_Pg_putSign u6 (125 : Int32) (fun (r7 : Unit) (u7 : T_Pg) => post () u7)))) ∧ (¬ r1 = (23 : Int32) → (wp_Nd_endsWithSemicolon r1 (fun (r2 : Int32) (u2 : Unit) => (r2 = 0 → (wp_Pg_isBracketed z_this z_this_nodes a1 (fun (r3 : Int32) (u3 : Unit) => (r3 = 0 → (post () z_this)) ∧ (¬ r3 = 0 → (wp_Pg_putSign z_this (41 : Int32) (fun (r4 : Unit) (u4 : T_Pg) => post () u4)))))) ∧ (¬ r2 = 0 → (wp_Pg_putSign z_this (59 : Int32) (fun (r5 : Unit) (u5 : T_Pg) => post () u5)))))))
def rm_Pg_leave : Room := { frames := 3, cells := 0, slots := 0, locals := 66 }
set_option maxHeartbeats 4000000 in
set_option maxRecDepth 100000 in
theorem c_Pg_leave {l : Launch} {o : State × Array Value} {D : va_G} {k : Nat → ClassId} {ad_this : Nat → Nat} {ad_this_nodes : Nat → Nat} {q_this_keywords : Nat} {q_this_names : Nat} {z_this : T_Pg} {z_this_nodes : T_Nd} {a1 : Int32} {post : Unit → T_Pg → Prop} (hw : wp_Pg_leave z_this z_this_nodes a1 post) : xq_C l o y_Pg_leave (.code y_Pg_leave prog_6_method_9_code 3 none :: xq_W) rm_Pg_leave D vwCl (xt k) [.ref (ad_this 0), .int a1] (w_Pg k ad_this q_this_keywords q_this_names (ad_this_nodes 0) z_this ++ w_Nd k ad_this_nodes z_this_nodes) (fun _ : Unit => none) post (fun _ : T_Pg => False) (fun u : T_Pg => w_Pg k ad_this q_this_keywords q_this_names (ad_this_nodes 0) u ++ w_Nd k ad_this_nodes z_this_nodes) 0 0 0 0 := by
  refine xq_ofW (cc := prog_6_method_9_code) (maxL := 3) (ret := none) (by decide) rfl (Nat.le_of_ble_eq_true rfl) ?_
  intro p e s m below meth c ls H locs A hAt hAe hA hl hK hJ hP0 hP hD hS
  obtain ⟨hx, hb, hml, hr, hlocks, hown, hts, hex, hnm⟩ := id hAt
  have hl : lv_has ls 3 [(0, .ref (ad_this 0)), (1, .int a1)] := hl
  unfold wp_Pg_leave at hw
  refine lv_aload_n hx hb d_Pg_leave_0 rfl (lv_at hl 0 rfl) ?_
  refine va_get (D := D) (ci := 7) (v := .ref (ad_this_nodes 0)) (C := R_Pg) (T := F_Pg) (N := 5) hx hb hts in_Pg hown hK hP 0 rfl rfl 4 (by decide) (hts (.fieldLink R_Pg 32 R_Pg "nodes" "LStepText$Nodes;") kw2_32) (fun _ h9 => h9) rfl d_Pg_leave_1 ?_
  refine lv_iload_n hx hb d_Pg_leave_4 rfl (lv_at hl 1 rfl) ?_
  refine xq_go (wr := w_Pg k ad_this q_this_keywords q_this_names (ad_this_nodes 0) z_this) (stk := fun r => .int r :: []) (xq_runV (As := [.int a1]) (rest := []) ⟨hx, hb, hml, hown, hts⟩ (c_Nd_kindOf (l := l) (o := o) (D := D) (k := k) (ad_this := ad_this_nodes) hw) (cw_Nd_kindOf hts kw4_40 ⟨Nat.le_of_ble_eq_true rfl, Nat.le_of_ble_eq_true rfl⟩) (va_recv hK hP (ci := 4) (q0 := 2) rfl rfl) (hP.sub [2, 3, 4, 5, 6, 7, 8, 9, 10, 11, 12] rfl) hK hJ hS (va_free hD hS hA [2, 3, 4, 5, 6, 7, 8, 9, 10, 11, 12] rfl) ((hD.sub [2, 3, 4, 5, 6, 7, 8, 9, 10, 11, 12] (by decide) rfl).weaken (fun _ _ _ _ => trivial)) rfl hl.1 (Nat.le_of_ble_eq_true rfl) d_Pg_leave_5 ⟨Nat.le_of_ble_eq_true rfl, Nat.le_of_ble_eq_true rfl⟩) hP hD hS hA [2, 3, 4, 5, 6, 7, 8, 9, 10, 11, 12] [0, 1] rfl rfl (by decide) (by decide) (fun _ => rfl) (fun r1 u1 H locs hw hP hD hS => ?_) (fun _ _ _ _ h9 => h9.elim)
  have hP : va_P D vwCl (w_Pg k ad_this q_this_keywords q_this_names (ad_this_nodes 0) z_this ++ w_Nd k ad_this_nodes z_this_nodes) H := hP.sub [0, 1, 2, 3, 4, 5, 6, 7, 8, 9, 10, 11, 12] rfl
  have hD : va_D A (w_Pg k ad_this q_this_keywords q_this_names (ad_this_nodes 0) z_this ++ w_Nd k ad_this_nodes z_this_nodes) := hD.sub [0, 1, 2, 3, 4, 5, 6, 7, 8, 9, 10, 11, 12] (by decide) rfl
  refine lv_istore_n (lv' := [(2, .int r1), (0, .ref (ad_this 0)), (1, .int a1)]) hx hb d_Pg_leave_8 rfl hl (by decide) rfl (fun ls hl => ?_)
  refine lv_iload_n hx hb d_Pg_leave_9 rfl (lv_at hl 0 rfl) ?_
  refine lv_bipush (v := (23 : Int32)) hx hb d_Pg_leave_10 (by decide) ?_
  refine lv_icmp_ne (tgt := 28) hx hb d_Pg_leave_12 (by decide) (fun hc => ?_) (fun hc => ?_)
  · have hw := hw.2 hc
    refine lv_iload_n hx hb d_Pg_leave_28 rfl (lv_at hl 0 rfl) ?_
    refine xq_go (wr := w_Pg k ad_this q_this_keywords q_this_names (ad_this_nodes 0) z_this ++ w_Nd k ad_this_nodes z_this_nodes) (stk := fun r => .int r :: []) (xq_runS (As := [.int r1]) (rest := []) ⟨hx, hb, hml, hown, hts⟩ (c_Nd_endsWithSemicolon (l := l) (o := o) (D := D) (k := k) hw) (cs_Nd_endsWithSemicolon hts kw4_114 ⟨Nat.le_of_ble_eq_true rfl, Nat.le_of_ble_eq_true rfl⟩) (hP.sub [] rfl) hK hJ hS (va_free hD hS hA [] rfl) ((hD.sub [] (by decide) rfl).weaken (fun _ _ _ _ => trivial)) rfl hl.1 (Nat.le_of_ble_eq_true rfl) d_Pg_leave_29 ⟨Nat.le_of_ble_eq_true rfl, Nat.le_of_ble_eq_true rfl⟩) hP hD hS hA [] [0, 1, 2, 3, 4, 5, 6, 7, 8, 9, 10, 11, 12] rfl rfl (by decide) (by decide) (fun _ => rfl) (fun r2 u2 H locs hw hP hD hS => ?_) (fun _ _ _ _ h9 => h9.elim)
    have hP : va_P D vwCl (w_Pg k ad_this q_this_keywords q_this_names (ad_this_nodes 0) z_this ++ w_Nd k ad_this_nodes z_this_nodes) H := hP.sub [0, 1, 2, 3, 4, 5, 6, 7, 8, 9, 10, 11, 12] rfl
    have hD : va_D A (w_Pg k ad_this q_this_keywords q_this_names (ad_this_nodes 0) z_this ++ w_Nd k ad_this_nodes z_this_nodes) := hD.sub [0, 1, 2, 3, 4, 5, 6, 7, 8, 9, 10, 11, 12] (by decide) rfl
    refine lv_if_eq (tgt := 44) hx hb d_Pg_leave_32 (by decide) (fun hc => ?_) (fun hc => ?_)
    · have hw := hw.1 hc
      refine lv_aload_n hx hb d_Pg_leave_44 rfl (lv_at hl 1 rfl) ?_
      refine lv_iload_n hx hb d_Pg_leave_45 rfl (lv_at hl 2 rfl) ?_
      refine xq_go (wr := ([] : va_W)) (stk := fun r => .int r :: []) (xq_runV (As := [.int a1]) (rest := []) ⟨hx, hb, hml, hown, hts⟩ (c_Pg_isBracketed (l := l) (o := o) (D := D) (k := k) (ad_this := ad_this) (ad_this_nodes := ad_this_nodes) (q_this_keywords := q_this_keywords) (q_this_names := q_this_names) hw) (cw_Pg_isBracketed hts kw4_95 ⟨Nat.le_of_ble_eq_true rfl, Nat.le_of_ble_eq_true rfl⟩) (va_recv hK hP (ci := 7) (q0 := 0) rfl rfl) (hP.sub [0, 1, 2, 3, 4, 5, 6, 7, 8, 9, 10, 11, 12] rfl) hK hJ hS (va_free hD hS hA [0, 1, 2, 3, 4, 5, 6, 7, 8, 9, 10, 11, 12] rfl) ((hD.sub [0, 1, 2, 3, 4, 5, 6, 7, 8, 9, 10, 11, 12] (by decide) rfl).weaken (fun _ _ _ _ => trivial)) rfl hl.1 (Nat.le_of_ble_eq_true rfl) d_Pg_leave_46 ⟨Nat.le_of_ble_eq_true rfl, Nat.le_of_ble_eq_true rfl⟩) hP hD hS hA [0, 1, 2, 3, 4, 5, 6, 7, 8, 9, 10, 11, 12] [] rfl rfl (by decide) (by decide) (fun _ => rfl) (fun r3 u3 H locs hw hP hD hS => ?_) (fun _ _ _ _ h9 => h9.elim)
      have hP : va_P D vwCl (w_Pg k ad_this q_this_keywords q_this_names (ad_this_nodes 0) z_this ++ w_Nd k ad_this_nodes z_this_nodes) H := hP.sub [0, 1, 2, 3, 4, 5, 6, 7, 8, 9, 10, 11, 12] rfl
      have hD : va_D A (w_Pg k ad_this q_this_keywords q_this_names (ad_this_nodes 0) z_this ++ w_Nd k ad_this_nodes z_this_nodes) := hD.sub [0, 1, 2, 3, 4, 5, 6, 7, 8, 9, 10, 11, 12] (by decide) rfl
      refine lv_if_eq (tgt := 58) hx hb d_Pg_leave_49 (by decide) (fun hc => ?_) (fun hc => ?_)
      · have hw := hw.1 hc
        exact xq_vret (r := ()) (u := z_this) hx hb hr hlocks hAe hP hD hS rfl hw (Nat.le_of_ble_eq_true rfl) (Nat.le_of_ble_eq_true rfl) d_Pg_leave_58
      · have hw := hw.2 hc
        refine lv_aload_n hx hb d_Pg_leave_52 rfl (lv_at hl 1 rfl) ?_
        refine lv_bipush (v := (41 : Int32)) hx hb d_Pg_leave_53 (by decide) ?_
        refine xq_go (wr := w_Nd k ad_this_nodes z_this_nodes) (stk := fun _ => []) (xq_runV (As := [.int (41 : Int32)]) (rest := []) ⟨hx, hb, hml, hown, hts⟩ (c_Pg_putSign (l := l) (o := o) (D := D) (k := k) (ad_this := ad_this) (q_this_keywords := q_this_keywords) (q_this_names := q_this_names) (q_this_nodes := (ad_this_nodes 0)) hw) (cw_Pg_putSign hts kw4_83 ⟨Nat.le_of_ble_eq_true rfl, Nat.le_of_ble_eq_true rfl⟩) (va_recv hK hP (ci := 7) (q0 := 0) rfl rfl) (hP.sub [0, 1] rfl) hK hJ hS (va_free hD hS hA [0, 1] rfl) ((hD.sub [0, 1] (by decide) rfl).weaken (fun _ _ _ _ => trivial)) rfl hl.1 (Nat.le_of_ble_eq_true rfl) d_Pg_leave_55 ⟨Nat.le_of_ble_eq_true rfl, Nat.le_of_ble_eq_true rfl⟩) hP hD hS hA [0, 1] [2, 3, 4, 5, 6, 7, 8, 9, 10, 11, 12] rfl rfl (by decide) (by decide) (fun _ => rfl) (fun r4 u4 H locs hw hP hD hS => ?_) (fun _ _ _ _ h9 => h9.elim)
        have hP : va_P D vwCl (w_Pg k ad_this q_this_keywords q_this_names (ad_this_nodes 0) u4 ++ w_Nd k ad_this_nodes z_this_nodes) H := hP.sub [11, 12, 0, 1, 2, 3, 4, 5, 6, 7, 8, 9, 10] rfl
        have hD : va_D A (w_Pg k ad_this q_this_keywords q_this_names (ad_this_nodes 0) u4 ++ w_Nd k ad_this_nodes z_this_nodes) := hD.sub [11, 12, 0, 1, 2, 3, 4, 5, 6, 7, 8, 9, 10] (by decide) rfl
        exact xq_vret (r := ()) (u := u4) hx hb hr hlocks hAe hP hD hS rfl hw (Nat.le_of_ble_eq_true rfl) (Nat.le_of_ble_eq_true rfl) d_Pg_leave_58
    · have hw := hw.2 hc
      refine lv_aload_n hx hb d_Pg_leave_35 rfl (lv_at hl 1 rfl) ?_
      refine lv_bipush (v := (59 : Int32)) hx hb d_Pg_leave_36 (by decide) ?_
      refine xq_go (wr := w_Nd k ad_this_nodes z_this_nodes) (stk := fun _ => []) (xq_runV (As := [.int (59 : Int32)]) (rest := []) ⟨hx, hb, hml, hown, hts⟩ (c_Pg_putSign (l := l) (o := o) (D := D) (k := k) (ad_this := ad_this) (q_this_keywords := q_this_keywords) (q_this_names := q_this_names) (q_this_nodes := (ad_this_nodes 0)) hw) (cw_Pg_putSign hts kw4_83 ⟨Nat.le_of_ble_eq_true rfl, Nat.le_of_ble_eq_true rfl⟩) (va_recv hK hP (ci := 7) (q0 := 0) rfl rfl) (hP.sub [0, 1] rfl) hK hJ hS (va_free hD hS hA [0, 1] rfl) ((hD.sub [0, 1] (by decide) rfl).weaken (fun _ _ _ _ => trivial)) rfl hl.1 (Nat.le_of_ble_eq_true rfl) d_Pg_leave_38 ⟨Nat.le_of_ble_eq_true rfl, Nat.le_of_ble_eq_true rfl⟩) hP hD hS hA [0, 1] [2, 3, 4, 5, 6, 7, 8, 9, 10, 11, 12] rfl rfl (by decide) (by decide) (fun _ => rfl) (fun r5 u5 H locs hw hP hD hS => ?_) (fun _ _ _ _ h9 => h9.elim)
      have hP : va_P D vwCl (w_Pg k ad_this q_this_keywords q_this_names (ad_this_nodes 0) u5 ++ w_Nd k ad_this_nodes z_this_nodes) H := hP.sub [11, 12, 0, 1, 2, 3, 4, 5, 6, 7, 8, 9, 10] rfl
      have hD : va_D A (w_Pg k ad_this q_this_keywords q_this_names (ad_this_nodes 0) u5 ++ w_Nd k ad_this_nodes z_this_nodes) := hD.sub [11, 12, 0, 1, 2, 3, 4, 5, 6, 7, 8, 9, 10] (by decide) rfl
      refine lv_goto (tgt := 58) hx hb d_Pg_leave_41 (by decide) ?_
      exact xq_vret (r := ()) (u := u5) hx hb hr hlocks hAe hP hD hS rfl hw (Nat.le_of_ble_eq_true rfl) (Nat.le_of_ble_eq_true rfl) d_Pg_leave_58
  · have hw := hw.1 hc
    refine lv_aload_n hx hb d_Pg_leave_15 rfl (lv_at hl 1 rfl) ?_
    refine xq_go (wr := w_Nd k ad_this_nodes z_this_nodes) (stk := fun _ => []) (xq_runV (As := []) (rest := []) ⟨hx, hb, hml, hown, hts⟩ (c_Pg_beginLine (l := l) (o := o) (D := D) (k := k) (ad_this := ad_this) (q_this_keywords := q_this_keywords) (q_this_names := q_this_names) (q_this_nodes := (ad_this_nodes 0)) hw) (cw_Pg_beginLine hts kw4_91 ⟨Nat.le_of_ble_eq_true rfl, Nat.le_of_ble_eq_true rfl⟩) (va_recv hK hP (ci := 7) (q0 := 0) rfl rfl) (hP.sub [0, 1] rfl) hK hJ hS (va_free hD hS hA [0, 1] rfl) ((hD.sub [0, 1] (by decide) rfl).weaken (fun _ _ _ _ => trivial)) rfl hl.1 (Nat.le_of_ble_eq_true rfl) d_Pg_leave_16 ⟨Nat.le_of_ble_eq_true rfl, Nat.le_of_ble_eq_true rfl⟩) hP hD hS hA [0, 1] [2, 3, 4, 5, 6, 7, 8, 9, 10, 11, 12] rfl rfl (by decide) (by decide) (fun _ => rfl) (fun r6 u6 H locs hw hP hD hS => ?_) (fun _ _ _ _ h9 => h9.elim)
    have hP : va_P D vwCl (w_Pg k ad_this q_this_keywords q_this_names (ad_this_nodes 0) u6 ++ w_Nd k ad_this_nodes z_this_nodes) H := hP.sub [11, 12, 0, 1, 2, 3, 4, 5, 6, 7, 8, 9, 10] rfl
    have hD : va_D A (w_Pg k ad_this q_this_keywords q_this_names (ad_this_nodes 0) u6 ++ w_Nd k ad_this_nodes z_this_nodes) := hD.sub [11, 12, 0, 1, 2, 3, 4, 5, 6, 7, 8, 9, 10] (by decide) rfl
    refine lv_aload_n hx hb d_Pg_leave_19 rfl (lv_at hl 1 rfl) ?_
    refine lv_bipush (v := (125 : Int32)) hx hb d_Pg_leave_20 (by decide) ?_
    refine xq_go (wr := w_Nd k ad_this_nodes z_this_nodes) (stk := fun _ => []) (xq_runV (As := [.int (125 : Int32)]) (rest := []) ⟨hx, hb, hml, hown, hts⟩ (c_Pg_putSign (l := l) (o := o) (D := D) (k := k) (ad_this := ad_this) (q_this_keywords := q_this_keywords) (q_this_names := q_this_names) (q_this_nodes := (ad_this_nodes 0)) hw) (cw_Pg_putSign hts kw4_83 ⟨Nat.le_of_ble_eq_true rfl, Nat.le_of_ble_eq_true rfl⟩) (va_recv hK hP (ci := 7) (q0 := 0) rfl rfl) (hP.sub [0, 1] rfl) hK hJ hS (va_free hD hS hA [0, 1] rfl) ((hD.sub [0, 1] (by decide) rfl).weaken (fun _ _ _ _ => trivial)) rfl hl.1 (Nat.le_of_ble_eq_true rfl) d_Pg_leave_22 ⟨Nat.le_of_ble_eq_true rfl, Nat.le_of_ble_eq_true rfl⟩) hP hD hS hA [0, 1] [2, 3, 4, 5, 6, 7, 8, 9, 10, 11, 12] rfl rfl (by decide) (by decide) (fun _ => rfl) (fun r7 u7 H locs hw hP hD hS => ?_) (fun _ _ _ _ h9 => h9.elim)
    have hP : va_P D vwCl (w_Pg k ad_this q_this_keywords q_this_names (ad_this_nodes 0) u7 ++ w_Nd k ad_this_nodes z_this_nodes) H := hP.sub [11, 12, 0, 1, 2, 3, 4, 5, 6, 7, 8, 9, 10] rfl
    have hD : va_D A (w_Pg k ad_this q_this_keywords q_this_names (ad_this_nodes 0) u7 ++ w_Nd k ad_this_nodes z_this_nodes) := hD.sub [11, 12, 0, 1, 2, 3, 4, 5, 6, 7, 8, 9, 10] (by decide) rfl
    refine lv_goto (tgt := 58) hx hb d_Pg_leave_25 (by decide) ?_
    exact xq_vret (r := ()) (u := u7) hx hb hr hlocks hAe hP hD hS rfl hw (Nat.le_of_ble_eq_true rfl) (Nat.le_of_ble_eq_true rfl) d_Pg_leave_58
theorem cw_Pg_leave {R : Room} {s : State} {args : Array Value} {own : String} {index : Nat} (hts : ∀ w ∈ xq_W, w.before args s = true) (hl : .methodLink own index y_Pg_leave ∈ xq_W) {rm : Room} (hR : rm.frames + 1 ≤ R.frames ∧ 8 + (3 + 11) + rm.locals ≤ R.locals) : CallW R s args own "StepText$Page" index y_Pg_leave prog_6_method_9_code 3 none (.code y_Pg_leave prog_6_method_9_code 3 none :: xq_W) rm rm.cells rm.slots 1 := ⟨xq_cb 1 hts kw4_113 kw1_12 hl ⟨by decide, by decide, by decide +kernel⟩ hR, hts _ kw4_112, hts _ kp4_0⟩
def y_Pg_putBehind : MethodName := ⟨"StepText$Page", "putBehind", "(I)V"⟩
theorem d_Pg_putBehind_0 : decode prog_6_method_10_code 0 = .ok (.aload_n 0, 1) := by decide +kernel
theorem d_Pg_putBehind_1 : decode prog_6_method_10_code 1 = .ok (.getfield 32, 3) := by decide +kernel
theorem d_Pg_putBehind_4 : decode prog_6_method_10_code 4 = .ok (.aload_n 0, 1) := by decide +kernel
theorem d_Pg_putBehind_5 : decode prog_6_method_10_code 5 = .ok (.getfield 32, 3) := by decide +kernel
theorem d_Pg_putBehind_8 : decode prog_6_method_10_code 8 = .ok (.iload_n 1, 1) := by decide +kernel
theorem d_Pg_putBehind_9 : decode prog_6_method_10_code 9 = .ok (.invokevirtual 101, 3) := by decide +kernel
theorem d_Pg_putBehind_12 : decode prog_6_method_10_code 12 = .ok (.invokevirtual 104, 3) := by decide +kernel
theorem d_Pg_putBehind_15 : decode prog_6_method_10_code 15 = .ok (.istore_n 2, 1) := by decide +kernel
theorem d_Pg_putBehind_16 : decode prog_6_method_10_code 16 = .ok (.aload_n 0, 1) := by decide +kernel
theorem d_Pg_putBehind_17 : decode prog_6_method_10_code 17 = .ok (.getfield 32, 3) := by decide +kernel
theorem d_Pg_putBehind_20 : decode prog_6_method_10_code 20 = .ok (.iload_n 1, 1) := by decide +kernel
theorem d_Pg_putBehind_21 : decode prog_6_method_10_code 21 = .ok (.invokevirtual 104, 3) := by decide +kernel
theorem d_Pg_putBehind_24 : decode prog_6_method_10_code 24 = .ok (.bipush 23, 2) := by decide +kernel
theorem d_Pg_putBehind_26 : decode prog_6_method_10_code 26 = .ok (.if_icmp .ne 7, 3) := by decide +kernel
theorem d_Pg_putBehind_29 : decode prog_6_method_10_code 29 = .ok (.iconst 1, 1) := by decide +kernel
theorem d_Pg_putBehind_30 : decode prog_6_method_10_code 30 = .ok (.goto 4, 3) := by decide +kernel
theorem d_Pg_putBehind_33 : decode prog_6_method_10_code 33 = .ok (.iconst 0, 1) := by decide +kernel
theorem d_Pg_putBehind_34 : decode prog_6_method_10_code 34 = .ok (.istore_n 3, 1) := by decide +kernel
theorem d_Pg_putBehind_35 : decode prog_6_method_10_code 35 = .ok (.iload_n 2, 1) := by decide +kernel
theorem d_Pg_putBehind_36 : decode prog_6_method_10_code 36 = .ok (.ifCond .lt 22, 3) := by decide +kernel
theorem d_Pg_putBehind_39 : decode prog_6_method_10_code 39 = .ok (.iload_n 2, 1) := by decide +kernel
theorem d_Pg_putBehind_40 : decode prog_6_method_10_code 40 = .ok (.bipush 9, 2) := by decide +kernel
theorem d_Pg_putBehind_42 : decode prog_6_method_10_code 42 = .ok (.if_icmp .gt 16, 3) := by decide +kernel
theorem d_Pg_putBehind_45 : decode prog_6_method_10_code 45 = .ok (.aload_n 0, 1) := by decide +kernel
theorem d_Pg_putBehind_46 : decode prog_6_method_10_code 46 = .ok (.ldc 129, 2) := by decide +kernel
theorem d_Pg_putBehind_48 : decode prog_6_method_10_code 48 = .ok (.iload_n 2, 1) := by decide +kernel
theorem d_Pg_putBehind_49 : decode prog_6_method_10_code 49 = .ok (.invokevirtual 131, 3) := by decide +kernel
theorem d_Pg_putBehind_52 : decode prog_6_method_10_code 52 = .ok (.invokevirtual 84, 3) := by decide +kernel
theorem d_Pg_putBehind_55 : decode prog_6_method_10_code 55 = .ok (.goto 77, 3) := by decide +kernel
theorem d_Pg_putBehind_58 : decode prog_6_method_10_code 58 = .ok (.iload_n 2, 1) := by decide +kernel
theorem d_Pg_putBehind_59 : decode prog_6_method_10_code 59 = .ok (.bipush 13, 2) := by decide +kernel
theorem d_Pg_putBehind_61 : decode prog_6_method_10_code 61 = .ok (.if_icmp .ne 20, 3) := by decide +kernel
theorem d_Pg_putBehind_64 : decode prog_6_method_10_code 64 = .ok (.aload_n 0, 1) := by decide +kernel
theorem d_Pg_putBehind_65 : decode prog_6_method_10_code 65 = .ok (.aload_n 0, 1) := by decide +kernel
theorem d_Pg_putBehind_66 : decode prog_6_method_10_code 66 = .ok (.getfield 15, 3) := by decide +kernel
theorem d_Pg_putBehind_69 : decode prog_6_method_10_code 69 = .ok (.sipush 216, 3) := by decide +kernel
theorem d_Pg_putBehind_72 : decode prog_6_method_10_code 72 = .ok (.invokevirtual 69, 3) := by decide +kernel
theorem d_Pg_putBehind_75 : decode prog_6_method_10_code 75 = .ok (.invokevirtual 73, 3) := by decide +kernel
theorem d_Pg_putBehind_78 : decode prog_6_method_10_code 78 = .ok (.goto 54, 3) := by decide +kernel
theorem d_Pg_putBehind_81 : decode prog_6_method_10_code 81 = .ok (.iload_n 2, 1) := by decide +kernel
theorem d_Pg_putBehind_82 : decode prog_6_method_10_code 82 = .ok (.bipush 15, 2) := by decide +kernel
theorem d_Pg_putBehind_84 : decode prog_6_method_10_code 84 = .ok (.if_icmp .ne 24, 3) := by decide +kernel
theorem d_Pg_putBehind_87 : decode prog_6_method_10_code 87 = .ok (.iload_n 3, 1) := by decide +kernel
theorem d_Pg_putBehind_88 : decode prog_6_method_10_code 88 = .ok (.ifCond .eq 20, 3) := by decide +kernel
theorem d_Pg_putBehind_91 : decode prog_6_method_10_code 91 = .ok (.aload_n 0, 1) := by decide +kernel
theorem d_Pg_putBehind_92 : decode prog_6_method_10_code 92 = .ok (.aload_n 0, 1) := by decide +kernel
theorem d_Pg_putBehind_93 : decode prog_6_method_10_code 93 = .ok (.getfield 15, 3) := by decide +kernel
theorem d_Pg_putBehind_96 : decode prog_6_method_10_code 96 = .ok (.sipush 217, 3) := by decide +kernel
theorem d_Pg_putBehind_99 : decode prog_6_method_10_code 99 = .ok (.invokevirtual 69, 3) := by decide +kernel
theorem d_Pg_putBehind_102 : decode prog_6_method_10_code 102 = .ok (.invokevirtual 73, 3) := by decide +kernel
theorem d_Pg_putBehind_105 : decode prog_6_method_10_code 105 = .ok (.goto 27, 3) := by decide +kernel
theorem d_Pg_putBehind_108 : decode prog_6_method_10_code 108 = .ok (.iload_n 2, 1) := by decide +kernel
theorem d_Pg_putBehind_109 : decode prog_6_method_10_code 109 = .ok (.bipush 17, 2) := by decide +kernel
theorem d_Pg_putBehind_111 : decode prog_6_method_10_code 111 = .ok (.if_icmp .ne 21, 3) := by decide +kernel
theorem d_Pg_putBehind_114 : decode prog_6_method_10_code 114 = .ok (.iload_n 3, 1) := by decide +kernel
theorem d_Pg_putBehind_115 : decode prog_6_method_10_code 115 = .ok (.ifCond .eq 17, 3) := by decide +kernel
theorem d_Pg_putBehind_118 : decode prog_6_method_10_code 118 = .ok (.aload_n 0, 1) := by decide +kernel
theorem d_Pg_putBehind_119 : decode prog_6_method_10_code 119 = .ok (.aload_n 0, 1) := by decide +kernel
theorem d_Pg_putBehind_120 : decode prog_6_method_10_code 120 = .ok (.getfield 15, 3) := by decide +kernel
theorem d_Pg_putBehind_123 : decode prog_6_method_10_code 123 = .ok (.sipush 218, 3) := by decide +kernel
theorem d_Pg_putBehind_126 : decode prog_6_method_10_code 126 = .ok (.invokevirtual 69, 3) := by decide +kernel
theorem d_Pg_putBehind_129 : decode prog_6_method_10_code 129 = .ok (.invokevirtual 73, 3) := by decide +kernel
theorem d_Pg_putBehind_132 : decode prog_6_method_10_code 132 = .ok (.return_, 1) := by decide +kernel
def wp_Pg_putBehind (z_this : T_Pg) (z_this_keywords : T_Kw) (z_this_nodes : T_Nd) (a1 : Int32) (post : Unit → T_Pg → Prop) : Prop := wp_Nd_parentOf z_this_nodes a1 (fun (r1 : Int32) (u1 : Unit) => wp_Nd_kindOf z_this_nodes r1 (fun (r2 : Int32) (u2 : Unit) => wp_Nd_kindOf z_this_nodes a1 (fun (r3 : Int32) (u3 : Unit) => (r3 = (23 : Int32) → ((r2 < 0 → ((r2 = (13 : Int32) → (wp_Kw_lettersOf z_this_keywords (216 : Int32) (fun (r28 : Int64) (u28 : Unit) => wp_Pg_putLetters z_this r28 (fun (r29 : Unit) (u29 : T_Pg) => post () u29)))) ∧ (¬ r2 = (13 : Int32) → ((r2 = (15 : Int32) → (((1 : Int32) = 0 → ((r2 = (17 : Int32) → (((1 : Int32) = 0 → (post () z_this)) ∧ (¬ (1 : Int32) = 0 → (wp_Kw_lettersOf z_this_keywords (218 : Int32) (fun (r24 : Int64) (u24 : Unit) => wp_Pg_putLetters z_this r24 (fun (r25 : Unit) (u25 : T_Pg) => post () u25)))))) ∧ (¬ r2 = (17 : Int32) → (post () z_this)))) ∧ (¬ (1 : Int32) = 0 → (wp_Kw_lettersOf z_this_keywords (217 : Int32) (fun (r26 : Int64) (u26 : Unit) => wp_Pg_putLetters z_this r26 (fun (r27 : Unit) (u27 : T_Pg) => post () u27)))))) ∧ (¬ r2 = (15 : Int32) → ((r2 = (17 : Int32) → (((1 : Int32) = 0 → (post () z_this)) ∧ (¬ (1 : Int32) = 0 → (wp_Kw_lettersOf z_this_keywords (218 : Int32) (fun (r22 : Int64) (u22 : Unit) => wp_Pg_putLetters z_this r22 (fun (r23 : Unit) (u23 : T_Pg) => post () u23)))))) ∧ (¬ r2 = (17 : Int32) → (post () z_this)))))))) ∧ (¬ r2 < 0 → (((9 : Int32) < r2 → ((r2 = (13 : Int32) → (wp_Kw_lettersOf z_this_keywords (216 : Int32) (fun (r36 : Int64) (u36 : Unit) => wp_Pg_putLetters z_this r36 (fun (r37 : Unit) (u37 : T_Pg) => post () u37)))) ∧ (¬ r2 = (13 : Int32) → ((r2 = (15 : Int32) → (((1 : Int32) = 0 → ((r2 = (17 : Int32) → (((1 : Int32) = 0 → (post () z_this)) ∧ (¬ (1 : Int32) = 0 → (wp_Kw_lettersOf z_this_keywords (218 : Int32) (fun (r32 : Int64) (u32 : Unit) => wp_Pg_putLetters z_this r32 (fun (r33 : Unit) (u33 : T_Pg) => post () u33)))))) ∧ (¬ r2 = (17 : Int32) → (post () z_this)))) ∧ (¬ (1 : Int32) = 0 → (wp_Kw_lettersOf z_this_keywords (217 : Int32) (fun (r34 : Int64) (u34 : Unit) => wp_Pg_putLetters z_this r34 (fun (r35 : Unit) (u35 : T_Pg) => post () u35)))))) ∧ (¬ r2 = (15 : Int32) → ((r2 = (17 : Int32) → (((1 : Int32) = 0 → (post () z_this)) ∧ (¬ (1 : Int32) = 0 → (wp_Kw_lettersOf z_this_keywords (218 : Int32) (fun (r30 : Int64) (u30 : Unit) => wp_Pg_putLetters z_this r30 (fun (r31 : Unit) (u31 : T_Pg) => post () u31)))))) ∧ (¬ r2 = (17 : Int32) → (post () z_this)))))))) ∧ (¬ (9 : Int32) < r2 → (vp_in r2 10 ∧ (wp_Pg_putSign z_this (xq_ch 2 r2) (fun (r39 : Unit) (u39 : T_Pg) => post () u39)))))))) ∧ (¬ r3 = (23 : Int32) → ((r2 < 0 → ((r2 = (13 : Int32) → (wp_Kw_lettersOf z_this_keywords (216 : Int32) (fun (r10 : Int64) (u10 : Unit) => wp_Pg_putLetters z_this r10 (fun (r11 : Unit) (u11 : T_Pg) => post () u11)))) ∧ (¬ r2 = (13 : Int32) → ((r2 = (15 : Int32) → (((0 : Int32) = 0 → ((r2 = (17 : Int32) → (((0 : Int32) = 0 → (post () z_this)) ∧ (¬ (0 : Int32) = 0 → (wp_Kw_lettersOf z_this_keywords (218 : Int32) (fun (r6 : Int64) (u6 : Unit) => wp_Pg_putLetters z_this r6 (fun (r7 : Unit) (u7 : T_Pg) => post () u7)))))) ∧ (¬ r2 = (17 : Int32) → (post () z_this)))) ∧ (¬ (0 : Int32) = 0 → (wp_Kw_lettersOf z_this_keywords (217 : Int32) (fun (r8 : Int64) (u8 : Unit) => wp_Pg_putLetters z_this r8 (fun (r9 : Unit) (u9 : T_Pg) => post () u9)))))) ∧ (¬ r2 = (15 : Int32) → ((r2 = (17 : Int32) → (((0 : Int32) = 0 → (post () z_this)) ∧ (¬ (0 : Int32) = 0 → (wp_Kw_lettersOf z_this_keywords (218 : Int32) (fun (r4 : Int64) (u4 : Unit) => wp_Pg_putLetters z_this r4 (fun (r5 : Unit) (u5 : T_Pg) => post () u5)))))) ∧ (¬ r2 = (17 : Int32) → (post () z_this)))))))) ∧ (¬ r2 < 0 → (((9 : Int32) < r2 → ((r2 = (13 : Int32) → (wp_Kw_lettersOf z_this_keywords (216 : Int32) (fun (r18 : Int64) (u18 : Unit) => wp_Pg_putLetters z_this r18 (fun (r19 : Unit) (u19 : T_Pg) => post () u19)))) ∧ (¬ r2 = (13 : Int32) → ((r2 = (15 : Int32) → (((0 : Int32) = 0 → ((r2 = (17 : Int32) → (((0 : Int32) = 0 → (post () z_this)) ∧ (¬ (0 : Int32) = 0 → (wp_Kw_lettersOf z_this_keywords (218 : Int32) (fun (r14 : Int64) (u14 : Unit) => wp_Pg_putLetters z_this r14 (fun (r15 : Unit) (u15 : T_Pg) => post () u15)))))) ∧ (¬ r2 = (17 : Int32) → (post () z_this)))) ∧ (¬ (0 : Int32) = 0 → (wp_Kw_lettersOf z_this_keywords (217 : Int32) (fun (r16 : Int64) (u16 : Unit) => wp_Pg_putLetters z_this r16 (fun (r17 : Unit) (u17 : T_Pg) => post () u17)))))) ∧ (¬ r2 = (15 : Int32) → ((r2 = (17 : Int32) → (((0 : Int32) = 0 → (post () z_this)) ∧ (¬ (0 : Int32) = 0 → (wp_Kw_lettersOf z_this_keywords (218 : Int32) (fun (r12 : Int64) (u12 : Unit) => wp_Pg_putLetters z_this r12 (fun (r13 : Unit) (u13 : T_Pg) => post () u13)))))) ∧ (¬ r2 = (17 : Int32) → (post () z_this)))))))) ∧ (¬ (9 : Int32) < r2 → (vp_in r2 10 ∧ (wp_Pg_putSign z_this (xq_ch 2 r2) (fun (r21 : Unit) (u21 : T_Pg) => post () u21)))))))))))
def rm_Pg_putBehind : Room := { frames := 5, cells := 0, slots := 0, locals := 130 }
set_option maxHeartbeats 4000000 in
set_option maxRecDepth 100000 in
theorem c_Pg_putBehind {l : Launch} {o : State × Array Value} {D : va_G} {k : Nat → ClassId} {ad_this : Nat → Nat} {ad_this_keywords : Nat → Nat} {ad_this_nodes : Nat → Nat} {q_this_names : Nat} {z_this : T_Pg} {z_this_keywords : T_Kw} {z_this_nodes : T_Nd} {a1 : Int32} {post : Unit → T_Pg → Prop} (hw : wp_Pg_putBehind z_this z_this_keywords z_this_nodes a1 post) : xq_C l o y_Pg_putBehind (.code y_Pg_putBehind prog_6_method_10_code 4 none :: xq_W) rm_Pg_putBehind D vwCl (xt k) [.ref (ad_this 0), .int a1] (w_Pg k ad_this (ad_this_keywords 0) q_this_names (ad_this_nodes 0) z_this ++ w_Kw k ad_this_keywords z_this_keywords ++ w_Nd k ad_this_nodes z_this_nodes) (fun _ : Unit => none) post (fun _ : T_Pg => False) (fun u : T_Pg => w_Pg k ad_this (ad_this_keywords 0) q_this_names (ad_this_nodes 0) u ++ w_Kw k ad_this_keywords z_this_keywords ++ w_Nd k ad_this_nodes z_this_nodes) 0 0 0 0 := by
  refine xq_ofW (cc := prog_6_method_10_code) (maxL := 4) (ret := none) (by decide) rfl (Nat.le_of_ble_eq_true rfl) ?_
  intro p e s m below meth c ls H locs A hAt hAe hA hl hK hJ hP0 hP hD hS
  obtain ⟨hx, hb, hml, hr, hlocks, hown, hts, hex, hnm⟩ := id hAt
  have hl : lv_has ls 4 [(0, .ref (ad_this 0)), (1, .int a1)] := hl
  unfold wp_Pg_putBehind at hw
  refine lv_aload_n hx hb d_Pg_putBehind_0 rfl (lv_at hl 0 rfl) ?_
  refine va_get (D := D) (ci := 7) (v := .ref (ad_this_nodes 0)) (C := R_Pg) (T := F_Pg) (N := 5) hx hb hts in_Pg hown hK hP 0 rfl rfl 4 (by decide) (hts (.fieldLink R_Pg 32 R_Pg "nodes" "LStepText$Nodes;") kw2_32) (fun _ h9 => h9) rfl d_Pg_putBehind_1 ?_
  refine lv_aload_n hx hb d_Pg_putBehind_4 rfl (lv_at hl 0 rfl) ?_
  refine va_get (D := D) (ci := 7) (v := .ref (ad_this_nodes 0)) (C := R_Pg) (T := F_Pg) (N := 5) hx hb hts in_Pg hown hK hP 0 rfl rfl 4 (by decide) (hts (.fieldLink R_Pg 32 R_Pg "nodes" "LStepText$Nodes;") kw2_32) (fun _ h9 => h9) rfl d_Pg_putBehind_5 ?_
  refine lv_iload_n hx hb d_Pg_putBehind_8 rfl (lv_at hl 1 rfl) ?_
  refine xq_go (wr := w_Pg k ad_this (ad_this_keywords 0) q_this_names (ad_this_nodes 0) z_this ++ w_Kw k ad_this_keywords z_this_keywords) (stk := fun r => .int r :: [.ref (ad_this_nodes 0)]) (xq_runV (As := [.int a1]) (rest := [.ref (ad_this_nodes 0)]) ⟨hx, hb, hml, hown, hts⟩ (c_Nd_parentOf (l := l) (o := o) (D := D) (k := k) (ad_this := ad_this_nodes) hw) (cw_Nd_parentOf hts kw4_99 ⟨Nat.le_of_ble_eq_true rfl, Nat.le_of_ble_eq_true rfl⟩) (va_recv hK hP (ci := 4) (q0 := 4) rfl rfl) (hP.sub [4, 5, 6, 7, 8, 9, 10, 11, 12, 13, 14] rfl) hK hJ hS (va_free hD hS hA [4, 5, 6, 7, 8, 9, 10, 11, 12, 13, 14] rfl) ((hD.sub [4, 5, 6, 7, 8, 9, 10, 11, 12, 13, 14] (by decide) rfl).weaken (fun _ _ _ _ => trivial)) rfl hl.1 (Nat.le_of_ble_eq_true rfl) d_Pg_putBehind_9 ⟨Nat.le_of_ble_eq_true rfl, Nat.le_of_ble_eq_true rfl⟩) hP hD hS hA [4, 5, 6, 7, 8, 9, 10, 11, 12, 13, 14] [0, 1, 2, 3] rfl rfl (by decide) (by decide) (fun _ => rfl) (fun r1 u1 H locs hw hP hD hS => ?_) (fun _ _ _ _ h9 => h9.elim)
  have hP : va_P D vwCl (w_Pg k ad_this (ad_this_keywords 0) q_this_names (ad_this_nodes 0) z_this ++ w_Kw k ad_this_keywords z_this_keywords ++ w_Nd k ad_this_nodes z_this_nodes) H := hP.sub [0, 1, 2, 3, 4, 5, 6, 7, 8, 9, 10, 11, 12, 13, 14] rfl
  have hD : va_D A (w_Pg k ad_this (ad_this_keywords 0) q_this_names (ad_this_nodes 0) z_this ++ w_Kw k ad_this_keywords z_this_keywords ++ w_Nd k ad_this_nodes z_this_nodes) := hD.sub [0, 1, 2, 3, 4, 5, 6, 7, 8, 9, 10, 11, 12, 13, 14] (by decide) rfl
  refine xq_go (wr := w_Pg k ad_this (ad_this_keywords 0) q_this_names (ad_this_nodes 0) z_this ++ w_Kw k ad_this_keywords z_this_keywords) (stk := fun r => .int r :: []) (xq_runV (As := [.int r1]) (rest := []) ⟨hx, hb, hml, hown, hts⟩ (c_Nd_kindOf (l := l) (o := o) (D := D) (k := k) (ad_this := ad_this_nodes) hw) (cw_Nd_kindOf hts kw4_40 ⟨Nat.le_of_ble_eq_true rfl, Nat.le_of_ble_eq_true rfl⟩) (va_recv hK hP (ci := 4) (q0 := 4) rfl rfl) (hP.sub [4, 5, 6, 7, 8, 9, 10, 11, 12, 13, 14] rfl) hK hJ hS (va_free hD hS hA [4, 5, 6, 7, 8, 9, 10, 11, 12, 13, 14] rfl) ((hD.sub [4, 5, 6, 7, 8, 9, 10, 11, 12, 13, 14] (by decide) rfl).weaken (fun _ _ _ _ => trivial)) rfl hl.1 (Nat.le_of_ble_eq_true rfl) d_Pg_putBehind_12 ⟨Nat.le_of_ble_eq_true rfl, Nat.le_of_ble_eq_true rfl⟩) hP hD hS hA [4, 5, 6, 7, 8, 9, 10, 11, 12, 13, 14] [0, 1, 2, 3] rfl rfl (by decide) (by decide) (fun _ => rfl) (fun r2 u2 H locs hw hP hD hS => ?_) (fun _ _ _ _ h9 => h9.elim)
  have hP : va_P D vwCl (w_Pg k ad_this (ad_this_keywords 0) q_this_names (ad_this_nodes 0) z_this ++ w_Kw k ad_this_keywords z_this_keywords ++ w_Nd k ad_this_nodes z_this_nodes) H := hP.sub [0, 1, 2, 3, 4, 5, 6, 7, 8, 9, 10, 11, 12, 13, 14] rfl
  have hD : va_D A (w_Pg k ad_this (ad_this_keywords 0) q_this_names (ad_this_nodes 0) z_this ++ w_Kw k ad_this_keywords z_this_keywords ++ w_Nd k ad_this_nodes z_this_nodes) := hD.sub [0, 1, 2, 3, 4, 5, 6, 7, 8, 9, 10, 11, 12, 13, 14] (by decide) rfl
  refine lv_istore_n (lv' := [(2, .int r2), (0, .ref (ad_this 0)), (1, .int a1)]) hx hb d_Pg_putBehind_15 rfl hl (by decide) rfl (fun ls hl => ?_)
  refine lv_aload_n hx hb d_Pg_putBehind_16 rfl (lv_at hl 1 rfl) ?_
  refine va_get (D := D) (ci := 7) (v := .ref (ad_this_nodes 0)) (C := R_Pg) (T := F_Pg) (N := 5) hx hb hts in_Pg hown hK hP 0 rfl rfl 4 (by decide) (hts (.fieldLink R_Pg 32 R_Pg "nodes" "LStepText$Nodes;") kw2_32) (fun _ h9 => h9) rfl d_Pg_putBehind_17 ?_
  refine lv_iload_n hx hb d_Pg_putBehind_20 rfl (lv_at hl 2 rfl) ?_
  refine xq_go (wr := w_Pg k ad_this (ad_this_keywords 0) q_this_names (ad_this_nodes 0) z_this ++ w_Kw k ad_this_keywords z_this_keywords) (stk := fun r => .int r :: []) (xq_runV (As := [.int a1]) (rest := []) ⟨hx, hb, hml, hown, hts⟩ (c_Nd_kindOf (l := l) (o := o) (D := D) (k := k) (ad_this := ad_this_nodes) hw) (cw_Nd_kindOf hts kw4_40 ⟨Nat.le_of_ble_eq_true rfl, Nat.le_of_ble_eq_true rfl⟩) (va_recv hK hP (ci := 4) (q0 := 4) rfl rfl) (hP.sub [4, 5, 6, 7, 8, 9, 10, 11, 12, 13, 14] rfl) hK hJ hS (va_free hD hS hA [4, 5, 6, 7, 8, 9, 10, 11, 12, 13, 14] rfl) ((hD.sub [4, 5, 6, 7, 8, 9, 10, 11, 12, 13, 14] (by decide) rfl).weaken (fun _ _ _ _ => trivial)) rfl hl.1 (Nat.le_of_ble_eq_true rfl) d_Pg_putBehind_21 ⟨Nat.le_of_ble_eq_true rfl, Nat.le_of_ble_eq_true rfl⟩) hP hD hS hA [4, 5, 6, 7, 8, 9, 10, 11, 12, 13, 14] [0, 1, 2, 3] rfl rfl (by decide) (by decide) (fun _ => rfl) (fun r3 u3 H locs hw hP hD hS => ?_) (fun _ _ _ _ h9 => h9.elim)
  have hP : va_P D vwCl (w_Pg k ad_this (ad_this_keywords 0) q_this_names (ad_this_nodes 0) z_this ++ w_Kw k ad_this_keywords z_this_keywords ++ w_Nd k ad_this_nodes z_this_nodes) H := hP.sub [0, 1, 2, 3, 4, 5, 6, 7, 8, 9, 10, 11, 12, 13, 14] rfl
  have hD : va_D A (w_Pg k ad_this (ad_this_keywords 0) q_this_names (ad_this_nodes 0) z_this ++ w_Kw k ad_this_keywords z_this_keywords ++ w_Nd k ad_this_nodes z_this_nodes) := hD.sub [0, 1, 2, 3, 4, 5, 6, 7, 8, 9, 10, 11, 12, 13, 14] (by decide) rfl
  refine lv_bipush (v := (23 : Int32)) hx hb d_Pg_putBehind_24 (by decide) ?_
  refine lv_icmp_ne (tgt := 33) hx hb d_Pg_putBehind_26 (by decide) (fun hc => ?_) (fun hc => ?_)
  · have hw := hw.2 hc
    refine lv_iconst (v := (0 : Int32)) hx hb d_Pg_putBehind_33 (by decide) ?_
    refine lv_istore_n (lv' := [(3, .int (0 : Int32)), (2, .int r2), (0, .ref (ad_this 0)), (1, .int a1)]) hx hb d_Pg_putBehind_34 rfl hl (by decide) rfl (fun ls hl => ?_)
    refine lv_iload_n hx hb d_Pg_putBehind_35 rfl (lv_at hl 1 rfl) ?_
    refine lv_if_lt (tgt := 58) hx hb d_Pg_putBehind_36 (by decide) (fun hc => ?_) (fun hc => ?_)
    · have hw := hw.1 hc
      refine lv_iload_n hx hb d_Pg_putBehind_58 rfl (lv_at hl 1 rfl) ?_
      refine lv_bipush (v := (13 : Int32)) hx hb d_Pg_putBehind_59 (by decide) ?_
      refine lv_icmp_ne (tgt := 81) hx hb d_Pg_putBehind_61 (by decide) (fun hc => ?_) (fun hc => ?_)
      · have hw := hw.2 hc
        refine lv_iload_n hx hb d_Pg_putBehind_81 rfl (lv_at hl 1 rfl) ?_
        refine lv_bipush (v := (15 : Int32)) hx hb d_Pg_putBehind_82 (by decide) ?_
        refine lv_icmp_ne (tgt := 108) hx hb d_Pg_putBehind_84 (by decide) (fun hc => ?_) (fun hc => ?_)
        · have hw := hw.2 hc
          refine lv_iload_n hx hb d_Pg_putBehind_108 rfl (lv_at hl 1 rfl) ?_
          refine lv_bipush (v := (17 : Int32)) hx hb d_Pg_putBehind_109 (by decide) ?_
          refine lv_icmp_ne (tgt := 132) hx hb d_Pg_putBehind_111 (by decide) (fun hc => ?_) (fun hc => ?_)
          · have hw := hw.2 hc
            exact xq_vret (r := ()) (u := z_this) hx hb hr hlocks hAe hP hD hS rfl hw (Nat.le_of_ble_eq_true rfl) (Nat.le_of_ble_eq_true rfl) d_Pg_putBehind_132
          · have hw := hw.1 hc
            refine lv_iload_n hx hb d_Pg_putBehind_114 rfl (lv_at hl 0 rfl) ?_
            refine lv_if_eq (tgt := 132) hx hb d_Pg_putBehind_115 (by decide) (fun hc => ?_) (fun hc => ?_)
            · have hw := hw.1 hc
              exact xq_vret (r := ()) (u := z_this) hx hb hr hlocks hAe hP hD hS rfl hw (Nat.le_of_ble_eq_true rfl) (Nat.le_of_ble_eq_true rfl) d_Pg_putBehind_132
            · have hw := hw.2 hc
              refine lv_aload_n hx hb d_Pg_putBehind_118 rfl (lv_at hl 2 rfl) ?_
              refine lv_aload_n hx hb d_Pg_putBehind_119 rfl (lv_at hl 2 rfl) ?_
              refine va_get (D := D) (ci := 7) (v := .ref (ad_this_keywords 0)) (C := R_Pg) (T := F_Pg) (N := 5) hx hb hts in_Pg hown hK hP 0 rfl rfl 0 (by decide) (hts (.fieldLink R_Pg 15 R_Pg "keywords" "LStepText$Keywords;") kw2_28) (fun _ h9 => h9) rfl d_Pg_putBehind_120 ?_
              refine lv_sipush (v := (218 : Int32)) hx hb d_Pg_putBehind_123 (by decide) ?_
              refine xq_go (wr := w_Pg k ad_this (ad_this_keywords 0) q_this_names (ad_this_nodes 0) z_this ++ w_Nd k ad_this_nodes z_this_nodes) (stk := fun r => .long r :: [.ref (ad_this 0)]) (xq_runV (As := [.int (218 : Int32)]) (rest := [.ref (ad_this 0)]) ⟨hx, hb, hml, hown, hts⟩ (c_Kw_lettersOf (l := l) (o := o) (D := D) (k := k) (ad_this := ad_this_keywords) hw) (cw_Kw_lettersOf hts kw4_66 ⟨Nat.le_of_ble_eq_true rfl, Nat.le_of_ble_eq_true rfl⟩) (va_recv hK hP (ci := 1) (q0 := 2) rfl rfl) (hP.sub [2, 3] rfl) hK hJ hS (va_free hD hS hA [2, 3] rfl) ((hD.sub [2, 3] (by decide) rfl).weaken (fun _ _ _ _ => trivial)) rfl hl.1 (Nat.le_of_ble_eq_true rfl) d_Pg_putBehind_126 ⟨Nat.le_of_ble_eq_true rfl, Nat.le_of_ble_eq_true rfl⟩) hP hD hS hA [2, 3] [0, 1, 4, 5, 6, 7, 8, 9, 10, 11, 12, 13, 14] rfl rfl (by decide) (by decide) (fun _ => rfl) (fun r4 u4 H locs hw hP hD hS => ?_) (fun _ _ _ _ h9 => h9.elim)
              have hP : va_P D vwCl (w_Pg k ad_this (ad_this_keywords 0) q_this_names (ad_this_nodes 0) z_this ++ w_Kw k ad_this_keywords z_this_keywords ++ w_Nd k ad_this_nodes z_this_nodes) H := hP.sub [0, 1, 13, 14, 2, 3, 4, 5, 6, 7, 8, 9, 10, 11, 12] rfl
              have hD : va_D A (w_Pg k ad_this (ad_this_keywords 0) q_this_names (ad_this_nodes 0) z_this ++ w_Kw k ad_this_keywords z_this_keywords ++ w_Nd k ad_this_nodes z_this_nodes) := hD.sub [0, 1, 13, 14, 2, 3, 4, 5, 6, 7, 8, 9, 10, 11, 12] (by decide) rfl
              refine xq_go (wr := w_Kw k ad_this_keywords z_this_keywords ++ w_Nd k ad_this_nodes z_this_nodes) (stk := fun _ => []) (xq_runV (As := [.long r4]) (rest := []) ⟨hx, hb, hml, hown, hts⟩ (c_Pg_putLetters (l := l) (o := o) (D := D) (k := k) (ad_this := ad_this) (q_this_keywords := (ad_this_keywords 0)) (q_this_names := q_this_names) (q_this_nodes := (ad_this_nodes 0)) hw) (cw_Pg_putLetters hts kw4_70 ⟨Nat.le_of_ble_eq_true rfl, Nat.le_of_ble_eq_true rfl⟩) (va_recv hK hP (ci := 7) (q0 := 0) rfl rfl) (hP.sub [0, 1] rfl) hK hJ hS (va_free hD hS hA [0, 1] rfl) ((hD.sub [0, 1] (by decide) rfl).weaken (fun _ _ _ _ => trivial)) rfl hl.1 (Nat.le_of_ble_eq_true rfl) d_Pg_putBehind_129 ⟨Nat.le_of_ble_eq_true rfl, Nat.le_of_ble_eq_true rfl⟩) hP hD hS hA [0, 1] [2, 3, 4, 5, 6, 7, 8, 9, 10, 11, 12, 13, 14] rfl rfl (by decide) (by decide) (fun _ => rfl) (fun r5 u5 H locs hw hP hD hS => ?_) (fun _ _ _ _ h9 => h9.elim)
              have hP : va_P D vwCl (w_Pg k ad_this (ad_this_keywords 0) q_this_names (ad_this_nodes 0) u5 ++ w_Kw k ad_this_keywords z_this_keywords ++ w_Nd k ad_this_nodes z_this_nodes) H := hP.sub [13, 14, 0, 1, 2, 3, 4, 5, 6, 7, 8, 9, 10, 11, 12] rfl
              have hD : va_D A (w_Pg k ad_this (ad_this_keywords 0) q_this_names (ad_this_nodes 0) u5 ++ w_Kw k ad_this_keywords z_this_keywords ++ w_Nd k ad_this_nodes z_this_nodes) := hD.sub [13, 14, 0, 1, 2, 3, 4, 5, 6, 7, 8, 9, 10, 11, 12] (by decide) rfl
              exact xq_vret (r := ()) (u := u5) hx hb hr hlocks hAe hP hD hS rfl hw (Nat.le_of_ble_eq_true rfl) (Nat.le_of_ble_eq_true rfl) d_Pg_putBehind_132
        · have hw := hw.1 hc
          refine lv_iload_n hx hb d_Pg_putBehind_87 rfl (lv_at hl 0 rfl) ?_
          refine lv_if_eq (tgt := 108) hx hb d_Pg_putBehind_88 (by decide) (fun hc => ?_) (fun hc => ?_)
          · have hw := hw.1 hc
            refine lv_iload_n hx hb d_Pg_putBehind_108 rfl (lv_at hl 1 rfl) ?_
            refine lv_bipush (v := (17 : Int32)) hx hb d_Pg_putBehind_109 (by decide) ?_
            refine lv_icmp_ne (tgt := 132) hx hb d_Pg_putBehind_111 (by decide) (fun hc => ?_) (fun hc => ?_)
            · have hw := hw.2 hc
              exact xq_vret (r := ()) (u := z_this) hx hb hr hlocks hAe hP hD hS rfl hw (Nat.le_of_ble_eq_true rfl) (Nat.le_of_ble_eq_true rfl) d_Pg_putBehind_132
            · have hw := hw.1 hc
              refine lv_iload_n hx hb d_Pg_putBehind_114 rfl (lv_at hl 0 rfl) ?_
              refine lv_if_eq (tgt := 132) hx hb d_Pg_putBehind_115 (by decide) (fun hc => ?_) (fun hc => ?_)
              · have hw := hw.1 hc
                exact xq_vret (r := ()) (u := z_this) hx hb hr hlocks hAe hP hD hS rfl hw (Nat.le_of_ble_eq_true rfl) (Nat.le_of_ble_eq_true rfl) d_Pg_putBehind_132
              · have hw := hw.2 hc
                refine lv_aload_n hx hb d_Pg_putBehind_118 rfl (lv_at hl 2 rfl) ?_
                refine lv_aload_n hx hb d_Pg_putBehind_119 rfl (lv_at hl 2 rfl) ?_
                refine va_get (D := D) (ci := 7) (v := .ref (ad_this_keywords 0)) (C := R_Pg) (T := F_Pg) (N := 5) hx hb hts in_Pg hown hK hP 0 rfl rfl 0 (by decide) (hts (.fieldLink R_Pg 15 R_Pg "keywords" "LStepText$Keywords;") kw2_28) (fun _ h9 => h9) rfl d_Pg_putBehind_120 ?_
                refine lv_sipush (v := (218 : Int32)) hx hb d_Pg_putBehind_123 (by decide) ?_
                refine xq_go (wr := w_Pg k ad_this (ad_this_keywords 0) q_this_names (ad_this_nodes 0) z_this ++ w_Nd k ad_this_nodes z_this_nodes) (stk := fun r => .long r :: [.ref (ad_this 0)]) (xq_runV (As := [.int (218 : Int32)]) (rest := [.ref (ad_this 0)]) ⟨hx, hb, hml, hown, hts⟩ (c_Kw_lettersOf (l := l) (o := o) (D := D) (k := k) (ad_this := ad_this_keywords) hw) (cw_Kw_lettersOf hts kw4_66 ⟨Nat.le_of_ble_eq_true rfl, Nat.le_of_ble_eq_true rfl⟩) (va_recv hK hP (ci := 1) (q0 := 2) rfl rfl) (hP.sub [2, 3] rfl) hK hJ hS (va_free hD hS hA [2, 3] rfl) ((hD.sub [2, 3] (by decide) rfl).weaken (fun _ _ _ _ => trivial)) rfl hl.1 (Nat.le_of_ble_eq_true rfl) d_Pg_putBehind_126 ⟨Nat.le_of_ble_eq_true rfl, Nat.le_of_ble_eq_true rfl⟩) hP hD hS hA [2, 3] [0, 1, 4, 5, 6, 7, 8, 9, 10, 11, 12, 13, 14] rfl rfl (by decide) (by decide) (fun _ => rfl) (fun r6 u6 H locs hw hP hD hS => ?_) (fun _ _ _ _ h9 => h9.elim)
                have hP : va_P D vwCl (w_Pg k ad_this (ad_this_keywords 0) q_this_names (ad_this_nodes 0) z_this ++ w_Kw k ad_this_keywords z_this_keywords ++ w_Nd k ad_this_nodes z_this_nodes) H := hP.sub [0, 1, 13, 14, 2, 3, 4, 5, 6, 7, 8, 9, 10, 11, 12] rfl
                have hD : va_D A (w_Pg k ad_this (ad_this_keywords 0) q_this_names (ad_this_nodes 0) z_this ++ w_Kw k ad_this_keywords z_this_keywords ++ w_Nd k ad_this_nodes z_this_nodes) := hD.sub [0, 1, 13, 14, 2, 3, 4, 5, 6, 7, 8, 9, 10, 11, 12] (by decide) rfl
                refine xq_go (wr := w_Kw k ad_this_keywords z_this_keywords ++ w_Nd k ad_this_nodes z_this_nodes) (stk := fun _ => []) (xq_runV (As := [.long r6]) (rest := []) ⟨hx, hb, hml, hown, hts⟩ (c_Pg_putLetters (l := l) (o := o) (D := D) (k := k) (ad_this := ad_this) (q_this_keywords := (ad_this_keywords 0)) (q_this_names := q_this_names) (q_this_nodes := (ad_this_nodes 0)) hw) (cw_Pg_putLetters hts kw4_70 ⟨Nat.le_of_ble_eq_true rfl, Nat.le_of_ble_eq_true rfl⟩) (va_recv hK hP (ci := 7) (q0 := 0) rfl rfl) (hP.sub [0, 1] rfl) hK hJ hS (va_free hD hS hA [0, 1] rfl) ((hD.sub [0, 1] (by decide) rfl).weaken (fun _ _ _ _ => trivial)) rfl hl.1 (Nat.le_of_ble_eq_true rfl) d_Pg_putBehind_129 ⟨Nat.le_of_ble_eq_true rfl, Nat.le_of_ble_eq_true rfl⟩) hP hD hS hA [0, 1] [2, 3, 4, 5, 6, 7, 8, 9, 10, 11, 12, 13, 14] rfl rfl (by decide) (by decide) (fun _ => rfl) (fun r7 u7 H locs hw hP hD hS => ?_) (fun _ _ _ _ h9 => h9.elim)
                have hP : va_P D vwCl (w_Pg k ad_this (ad_this_keywords 0) q_this_names (ad_this_nodes 0) u7 ++ w_Kw k ad_this_keywords z_this_keywords ++ w_Nd k ad_this_nodes z_this_nodes) H := hP.sub [13, 14, 0, 1, 2, 3, 4, 5, 6, 7, 8, 9, 10, 11, 12] rfl
                have hD : va_D A (w_Pg k ad_this (ad_this_keywords 0) q_this_names (ad_this_nodes 0) u7 ++ w_Kw k ad_this_keywords z_this_keywords ++ w_Nd k ad_this_nodes z_this_nodes) := hD.sub [13, 14, 0, 1, 2, 3, 4, 5, 6, 7, 8, 9, 10, 11, 12] (by decide) rfl
                exact xq_vret (r := ()) (u := u7) hx hb hr hlocks hAe hP hD hS rfl hw (Nat.le_of_ble_eq_true rfl) (Nat.le_of_ble_eq_true rfl) d_Pg_putBehind_132
          · have hw := hw.2 hc
            refine lv_aload_n hx hb d_Pg_putBehind_91 rfl (lv_at hl 2 rfl) ?_
            refine lv_aload_n hx hb d_Pg_putBehind_92 rfl (lv_at hl 2 rfl) ?_
            refine va_get (D := D) (ci := 7) (v := .ref (ad_this_keywords 0)) (C := R_Pg) (T := F_Pg) (N := 5) hx hb hts in_Pg hown hK hP 0 rfl rfl 0 (by decide) (hts (.fieldLink R_Pg 15 R_Pg "keywords" "LStepText$Keywords;") kw2_28) (fun _ h9 => h9) rfl d_Pg_putBehind_93 ?_
            refine lv_sipush (v := (217 : Int32)) hx hb d_Pg_putBehind_96 (by decide) ?_
            refine xq_go (wr := w_Pg k ad_this (ad_this_keywords 0) q_this_names (ad_this_nodes 0) z_this ++ w_Nd k ad_this_nodes z_this_nodes) (stk := fun r => .long r :: [.ref (ad_this 0)]) (xq_runV (As := [.int (217 : Int32)]) (rest := [.ref (ad_this 0)]) ⟨hx, hb, hml, hown, hts⟩ (c_Kw_lettersOf (l := l) (o := o) (D := D) (k := k) (ad_this := ad_this_keywords) hw) (cw_Kw_lettersOf hts kw4_66 ⟨Nat.le_of_ble_eq_true rfl, Nat.le_of_ble_eq_true rfl⟩) (va_recv hK hP (ci := 1) (q0 := 2) rfl rfl) (hP.sub [2, 3] rfl) hK hJ hS (va_free hD hS hA [2, 3] rfl) ((hD.sub [2, 3] (by decide) rfl).weaken (fun _ _ _ _ => trivial)) rfl hl.1 (Nat.le_of_ble_eq_true rfl) d_Pg_putBehind_99 ⟨Nat.le_of_ble_eq_true rfl, Nat.le_of_ble_eq_true rfl⟩) hP hD hS hA [2, 3] [0, 1, 4, 5, 6, 7, 8, 9, 10, 11, 12, 13, 14] rfl rfl (by decide) (by decide) (fun _ => rfl) (fun r8 u8 H locs hw hP hD hS => ?_) (fun _ _ _ _ h9 => h9.elim)
            have hP : va_P D vwCl (w_Pg k ad_this (ad_this_keywords 0) q_this_names (ad_this_nodes 0) z_this ++ w_Kw k ad_this_keywords z_this_keywords ++ w_Nd k ad_this_nodes z_this_nodes) H := hP.sub [0, 1, 13, 14, 2, 3, 4, 5, 6, 7, 8, 9, 10, 11, 12] rfl
            have hD : va_D A (w_Pg k ad_this (ad_this_keywords 0) q_this_names (ad_this_nodes 0) z_this ++ w_Kw k ad_this_keywords z_this_keywords ++ w_Nd k ad_this_nodes z_this_nodes) := hD.sub [0, 1, 13, 14, 2, 3, 4, 5, 6, 7, 8, 9, 10, 11, 12] (by decide) rfl
            refine xq_go (wr := w_Kw k ad_this_keywords z_this_keywords ++ w_Nd k ad_this_nodes z_this_nodes) (stk := fun _ => []) (xq_runV (As := [.long r8]) (rest := []) ⟨hx, hb, hml, hown, hts⟩ (c_Pg_putLetters (l := l) (o := o) (D := D) (k := k) (ad_this := ad_this) (q_this_keywords := (ad_this_keywords 0)) (q_this_names := q_this_names) (q_this_nodes := (ad_this_nodes 0)) hw) (cw_Pg_putLetters hts kw4_70 ⟨Nat.le_of_ble_eq_true rfl, Nat.le_of_ble_eq_true rfl⟩) (va_recv hK hP (ci := 7) (q0 := 0) rfl rfl) (hP.sub [0, 1] rfl) hK hJ hS (va_free hD hS hA [0, 1] rfl) ((hD.sub [0, 1] (by decide) rfl).weaken (fun _ _ _ _ => trivial)) rfl hl.1 (Nat.le_of_ble_eq_true rfl) d_Pg_putBehind_102 ⟨Nat.le_of_ble_eq_true rfl, Nat.le_of_ble_eq_true rfl⟩) hP hD hS hA [0, 1] [2, 3, 4, 5, 6, 7, 8, 9, 10, 11, 12, 13, 14] rfl rfl (by decide) (by decide) (fun _ => rfl) (fun r9 u9 H locs hw hP hD hS => ?_) (fun _ _ _ _ h9 => h9.elim)
            have hP : va_P D vwCl (w_Pg k ad_this (ad_this_keywords 0) q_this_names (ad_this_nodes 0) u9 ++ w_Kw k ad_this_keywords z_this_keywords ++ w_Nd k ad_this_nodes z_this_nodes) H := hP.sub [13, 14, 0, 1, 2, 3, 4, 5, 6, 7, 8, 9, 10, 11, 12] rfl
            have hD : va_D A (w_Pg k ad_this (ad_this_keywords 0) q_this_names (ad_this_nodes 0) u9 ++ w_Kw k ad_this_keywords z_this_keywords ++ w_Nd k ad_this_nodes z_this_nodes) := hD.sub [13, 14, 0, 1, 2, 3, 4, 5, 6, 7, 8, 9, 10, 11, 12] (by decide) rfl
            refine lv_goto (tgt := 132) hx hb d_Pg_putBehind_105 (by decide) ?_
            exact xq_vret (r := ()) (u := u9) hx hb hr hlocks hAe hP hD hS rfl hw (Nat.le_of_ble_eq_true rfl) (Nat.le_of_ble_eq_true rfl) d_Pg_putBehind_132
      · have hw := hw.1 hc
        refine lv_aload_n hx hb d_Pg_putBehind_64 rfl (lv_at hl 2 rfl) ?_
        refine lv_aload_n hx hb d_Pg_putBehind_65 rfl (lv_at hl 2 rfl) ?_
        refine va_get (D := D) (ci := 7) (v := .ref (ad_this_keywords 0)) (C := R_Pg) (T := F_Pg) (N := 5) hx hb hts in_Pg hown hK hP 0 rfl rfl 0 (by decide) (hts (.fieldLink R_Pg 15 R_Pg "keywords" "LStepText$Keywords;") kw2_28) (fun _ h9 => h9) rfl d_Pg_putBehind_66 ?_
        refine lv_sipush (v := (216 : Int32)) hx hb d_Pg_putBehind_69 (by decide) ?_
        refine xq_go (wr := w_Pg k ad_this (ad_this_keywords 0) q_this_names (ad_this_nodes 0) z_this ++ w_Nd k ad_this_nodes z_this_nodes) (stk := fun r => .long r :: [.ref (ad_this 0)]) (xq_runV (As := [.int (216 : Int32)]) (rest := [.ref (ad_this 0)]) ⟨hx, hb, hml, hown, hts⟩ (c_Kw_lettersOf (l := l) (o := o) (D := D) (k := k) (ad_this := ad_this_keywords) hw) (cw_Kw_lettersOf hts kw4_66 ⟨Nat.le_of_ble_eq_true rfl, Nat.le_of_ble_eq_true rfl⟩) (va_recv hK hP (ci := 1) (q0 := 2) rfl rfl) (hP.sub [2, 3] rfl) hK hJ hS (va_free hD hS hA [2, 3] rfl) ((hD.sub [2, 3] (by decide) rfl).weaken (fun _ _ _ _ => trivial)) rfl hl.1 (Nat.le_of_ble_eq_true rfl) d_Pg_putBehind_72 ⟨Nat.le_of_ble_eq_true rfl, Nat.le_of_ble_eq_true rfl⟩) hP hD hS hA [2, 3] [0, 1, 4, 5, 6, 7, 8, 9, 10, 11, 12, 13, 14] rfl rfl (by decide) (by decide) (fun _ => rfl) (fun r10 u10 H locs hw hP hD hS => ?_) (fun _ _ _ _ h9 => h9.elim)
        have hP : va_P D vwCl (w_Pg k ad_this (ad_this_keywords 0) q_this_names (ad_this_nodes 0) z_this ++ w_Kw k ad_this_keywords z_this_keywords ++ w_Nd k ad_this_nodes z_this_nodes) H := hP.sub [0, 1, 13, 14, 2, 3, 4, 5, 6, 7, 8, 9, 10, 11, 12] rfl
        have hD : va_D A (w_Pg k ad_this (ad_this_keywords 0) q_this_names (ad_this_nodes 0) z_this ++ w_Kw k ad_this_keywords z_this_keywords ++ w_Nd k ad_this_nodes z_this_nodes) := hD.sub [0, 1, 13, 14, 2, 3, 4, 5, 6, 7, 8, 9, 10, 11, 12] (by decide) rfl
        refine xq_go (wr := w_Kw k ad_this_keywords z_this_keywords ++ w_Nd k ad_this_nodes z_this_nodes) (stk := fun _ => []) (xq_runV (As := [.long r10]) (rest := []) ⟨hx, hb, hml, hown, hts⟩ (c_Pg_putLetters (l := l) (o := o) (D := D) (k := k) (ad_this := ad_this) (q_this_keywords := (ad_this_keywords 0)) (q_this_names := q_this_names) (q_this_nodes := (ad_this_nodes 0)) hw) (cw_Pg_putLetters hts kw4_70 ⟨Nat.le_of_ble_eq_true rfl, Nat.le_of_ble_eq_true rfl⟩) (va_recv hK hP (ci := 7) (q0 := 0) rfl rfl) (hP.sub [0, 1] rfl) hK hJ hS (va_free hD hS hA [0, 1] rfl) ((hD.sub [0, 1] (by decide) rfl).weaken (fun _ _ _ _ => trivial)) rfl hl.1 (Nat.le_of_ble_eq_true rfl) d_Pg_putBehind_75 ⟨Nat.le_of_ble_eq_true rfl, Nat.le_of_ble_eq_true rfl⟩) hP hD hS hA [0, 1] [2, 3, 4, 5, 6, 7, 8, 9, 10, 11, 12, 13, 14] rfl rfl (by decide) (by decide) (fun _ => rfl) (fun r11 u11 H locs hw hP hD hS => ?_) (fun _ _ _ _ h9 => h9.elim)
        have hP : va_P D vwCl (w_Pg k ad_this (ad_this_keywords 0) q_this_names (ad_this_nodes 0) u11 ++ w_Kw k ad_this_keywords z_this_keywords ++ w_Nd k ad_this_nodes z_this_nodes) H := hP.sub [13, 14, 0, 1, 2, 3, 4, 5, 6, 7, 8, 9, 10, 11, 12] rfl
        have hD : va_D A (w_Pg k ad_this (ad_this_keywords 0) q_this_names (ad_this_nodes 0) u11 ++ w_Kw k ad_this_keywords z_this_keywords ++ w_Nd k ad_this_nodes z_this_nodes) := hD.sub [13, 14, 0, 1, 2, 3, 4, 5, 6, 7, 8, 9, 10, 11, 12] (by decide) rfl
        refine lv_goto (tgt := 132) hx hb d_Pg_putBehind_78 (by decide) ?_
        exact xq_vret (r := ()) (u := u11) hx hb hr hlocks hAe hP hD hS rfl hw (Nat.le_of_ble_eq_true rfl) (Nat.le_of_ble_eq_true rfl) d_Pg_putBehind_132
    · have hw := hw.2 hc
      refine lv_iload_n hx hb d_Pg_putBehind_39 rfl (lv_at hl 1 rfl) ?_
      refine lv_bipush (v := (9 : Int32)) hx hb d_Pg_putBehind_40 (by decide) ?_
      refine lv_icmp_gt (tgt := 58) hx hb d_Pg_putBehind_42 (by decide) (fun hc => ?_) (fun hc => ?_)
      · have hw := hw.1 hc
        refine lv_iload_n hx hb d_Pg_putBehind_58 rfl (lv_at hl 1 rfl) ?_
        refine lv_bipush (v := (13 : Int32)) hx hb d_Pg_putBehind_59 (by decide) ?_
        refine lv_icmp_ne (tgt := 81) hx hb d_Pg_putBehind_61 (by decide) (fun hc => ?_) (fun hc => ?_)
        · have hw := hw.2 hc
          refine lv_iload_n hx hb d_Pg_putBehind_81 rfl (lv_at hl 1 rfl) ?_
          refine lv_bipush (v := (15 : Int32)) hx hb d_Pg_putBehind_82 (by decide) ?_
          refine lv_icmp_ne (tgt := 108) hx hb d_Pg_putBehind_84 (by decide) (fun hc => ?_) (fun hc => ?_)
          · have hw := hw.2 hc
            refine lv_iload_n hx hb d_Pg_putBehind_108 rfl (lv_at hl 1 rfl) ?_
            refine lv_bipush (v := (17 : Int32)) hx hb d_Pg_putBehind_109 (by decide) ?_
            refine lv_icmp_ne (tgt := 132) hx hb d_Pg_putBehind_111 (by decide) (fun hc => ?_) (fun hc => ?_)
            · have hw := hw.2 hc
              exact xq_vret (r := ()) (u := z_this) hx hb hr hlocks hAe hP hD hS rfl hw (Nat.le_of_ble_eq_true rfl) (Nat.le_of_ble_eq_true rfl) d_Pg_putBehind_132
            · have hw := hw.1 hc
              refine lv_iload_n hx hb d_Pg_putBehind_114 rfl (lv_at hl 0 rfl) ?_
              refine lv_if_eq (tgt := 132) hx hb d_Pg_putBehind_115 (by decide) (fun hc => ?_) (fun hc => ?_)
              · have hw := hw.1 hc
                exact xq_vret (r := ()) (u := z_this) hx hb hr hlocks hAe hP hD hS rfl hw (Nat.le_of_ble_eq_true rfl) (Nat.le_of_ble_eq_true rfl) d_Pg_putBehind_132
              · have hw := hw.2 hc
                refine lv_aload_n hx hb d_Pg_putBehind_118 rfl (lv_at hl 2 rfl) ?_
                refine lv_aload_n hx hb d_Pg_putBehind_119 rfl (lv_at hl 2 rfl) ?_
                refine va_get (D := D) (ci := 7) (v := .ref (ad_this_keywords 0)) (C := R_Pg) (T := F_Pg) (N := 5) hx hb hts in_Pg hown hK hP 0 rfl rfl 0 (by decide) (hts (.fieldLink R_Pg 15 R_Pg "keywords" "LStepText$Keywords;") kw2_28) (fun _ h9 => h9) rfl d_Pg_putBehind_120 ?_
                refine lv_sipush (v := (218 : Int32)) hx hb d_Pg_putBehind_123 (by decide) ?_
                refine xq_go (wr := w_Pg k ad_this (ad_this_keywords 0) q_this_names (ad_this_nodes 0) z_this ++ w_Nd k ad_this_nodes z_this_nodes) (stk := fun r => .long r :: [.ref (ad_this 0)]) (xq_runV (As := [.int (218 : Int32)]) (rest := [.ref (ad_this 0)]) ⟨hx, hb, hml, hown, hts⟩ (c_Kw_lettersOf (l := l) (o := o) (D := D) (k := k) (ad_this := ad_this_keywords) hw) (cw_Kw_lettersOf hts kw4_66 ⟨Nat.le_of_ble_eq_true rfl, Nat.le_of_ble_eq_true rfl⟩) (va_recv hK hP (ci := 1) (q0 := 2) rfl rfl) (hP.sub [2, 3] rfl) hK hJ hS (va_free hD hS hA [2, 3] rfl) ((hD.sub [2, 3] (by decide) rfl).weaken (fun _ _ _ _ => trivial)) rfl hl.1 (Nat.le_of_ble_eq_true rfl) d_Pg_putBehind_126 ⟨Nat.le_of_ble_eq_true rfl, Nat.le_of_ble_eq_true rfl⟩) hP hD hS hA [2, 3] [0, 1, 4, 5, 6, 7, 8, 9, 10, 11, 12, 13, 14] rfl rfl (by decide) (by decide) (fun _ => rfl) (fun r12 u12 H locs hw hP hD hS => ?_) (fun _ _ _ _ h9 => h9.elim)
                have hP : va_P D vwCl (w_Pg k ad_this (ad_this_keywords 0) q_this_names (ad_this_nodes 0) z_this ++ w_Kw k ad_this_keywords z_this_keywords ++ w_Nd k ad_this_nodes z_this_nodes) H := hP.sub [0, 1, 13, 14, 2, 3, 4, 5, 6, 7, 8, 9, 10, 11, 12] rfl
                have hD : va_D A (w_Pg k ad_this (ad_this_keywords 0) q_this_names (ad_this_nodes 0) z_this ++ w_Kw k ad_this_keywords z_this_keywords ++ w_Nd k ad_this_nodes z_this_nodes) := hD.sub [0, 1, 13, 14, 2, 3, 4, 5, 6, 7, 8, 9, 10, 11, 12] (by decide) rfl
                refine xq_go (wr := w_Kw k ad_this_keywords z_this_keywords ++ w_Nd k ad_this_nodes z_this_nodes) (stk := fun _ => []) (xq_runV (As := [.long r12]) (rest := []) ⟨hx, hb, hml, hown, hts⟩ (c_Pg_putLetters (l := l) (o := o) (D := D) (k := k) (ad_this := ad_this) (q_this_keywords := (ad_this_keywords 0)) (q_this_names := q_this_names) (q_this_nodes := (ad_this_nodes 0)) hw) (cw_Pg_putLetters hts kw4_70 ⟨Nat.le_of_ble_eq_true rfl, Nat.le_of_ble_eq_true rfl⟩) (va_recv hK hP (ci := 7) (q0 := 0) rfl rfl) (hP.sub [0, 1] rfl) hK hJ hS (va_free hD hS hA [0, 1] rfl) ((hD.sub [0, 1] (by decide) rfl).weaken (fun _ _ _ _ => trivial)) rfl hl.1 (Nat.le_of_ble_eq_true rfl) d_Pg_putBehind_129 ⟨Nat.le_of_ble_eq_true rfl, Nat.le_of_ble_eq_true rfl⟩) hP hD hS hA [0, 1] [2, 3, 4, 5, 6, 7, 8, 9, 10, 11, 12, 13, 14] rfl rfl (by decide) (by decide) (fun _ => rfl) (fun r13 u13 H locs hw hP hD hS => ?_) (fun _ _ _ _ h9 => h9.elim)
                have hP : va_P D vwCl (w_Pg k ad_this (ad_this_keywords 0) q_this_names (ad_this_nodes 0) u13 ++ w_Kw k ad_this_keywords z_this_keywords ++ w_Nd k ad_this_nodes z_this_nodes) H := hP.sub [13, 14, 0, 1, 2, 3, 4, 5, 6, 7, 8, 9, 10, 11, 12] rfl
                have hD : va_D A (w_Pg k ad_this (ad_this_keywords 0) q_this_names (ad_this_nodes 0) u13 ++ w_Kw k ad_this_keywords z_this_keywords ++ w_Nd k ad_this_nodes z_this_nodes) := hD.sub [13, 14, 0, 1, 2, 3, 4, 5, 6, 7, 8, 9, 10, 11, 12] (by decide) rfl
                exact xq_vret (r := ()) (u := u13) hx hb hr hlocks hAe hP hD hS rfl hw (Nat.le_of_ble_eq_true rfl) (Nat.le_of_ble_eq_true rfl) d_Pg_putBehind_132
          · have hw := hw.1 hc
            refine lv_iload_n hx hb d_Pg_putBehind_87 rfl (lv_at hl 0 rfl) ?_
            refine lv_if_eq (tgt := 108) hx hb d_Pg_putBehind_88 (by decide) (fun hc => ?_) (fun hc => ?_)
            · have hw := hw.1 hc
              refine lv_iload_n hx hb d_Pg_putBehind_108 rfl (lv_at hl 1 rfl) ?_
              refine lv_bipush (v := (17 : Int32)) hx hb d_Pg_putBehind_109 (by decide) ?_
              refine lv_icmp_ne (tgt := 132) hx hb d_Pg_putBehind_111 (by decide) (fun hc => ?_) (fun hc => ?_)
              · have hw := hw.2 hc
                exact xq_vret (r := ()) (u := z_this) hx hb hr hlocks hAe hP hD hS rfl hw (Nat.le_of_ble_eq_true rfl) (Nat.le_of_ble_eq_true rfl) d_Pg_putBehind_132
              · have hw := hw.1 hc
                refine lv_iload_n hx hb d_Pg_putBehind_114 rfl (lv_at hl 0 rfl) ?_
                refine lv_if_eq (tgt := 132) hx hb d_Pg_putBehind_115 (by decide) (fun hc => ?_) (fun hc => ?_)
                · have hw := hw.1 hc
                  exact xq_vret (r := ()) (u := z_this) hx hb hr hlocks hAe hP hD hS rfl hw (Nat.le_of_ble_eq_true rfl) (Nat.le_of_ble_eq_true rfl) d_Pg_putBehind_132
                · have hw := hw.2 hc
                  refine lv_aload_n hx hb d_Pg_putBehind_118 rfl (lv_at hl 2 rfl) ?_
                  refine lv_aload_n hx hb d_Pg_putBehind_119 rfl (lv_at hl 2 rfl) ?_
                  refine va_get (D := D) (ci := 7) (v := .ref (ad_this_keywords 0)) (C := R_Pg) (T := F_Pg) (N := 5) hx hb hts in_Pg hown hK hP 0 rfl rfl 0 (by decide) (hts (.fieldLink R_Pg 15 R_Pg "keywords" "LStepText$Keywords;") kw2_28) (fun _ h9 => h9) rfl d_Pg_putBehind_120 ?_
                  refine lv_sipush (v := (218 : Int32)) hx hb d_Pg_putBehind_123 (by decide) ?_
                  refine xq_go (wr := w_Pg k ad_this (ad_this_keywords 0) q_this_names (ad_this_nodes 0) z_this ++ w_Nd k ad_this_nodes z_this_nodes) (stk := fun r => .long r :: [.ref (ad_this 0)]) (xq_runV (As := [.int (218 : Int32)]) (rest := [.ref (ad_this 0)]) ⟨hx, hb, hml, hown, hts⟩ (c_Kw_lettersOf (l := l) (o := o) (D := D) (k := k) (ad_this := ad_this_keywords) hw) (cw_Kw_lettersOf hts kw4_66 ⟨Nat.le_of_ble_eq_true rfl, Nat.le_of_ble_eq_true rfl⟩) (va_recv hK hP (ci := 1) (q0 := 2) rfl rfl) (hP.sub [2, 3] rfl) hK hJ hS (va_free hD hS hA [2, 3] rfl) ((hD.sub [2, 3] (by decide) rfl).weaken (fun _ _ _ _ => trivial)) rfl hl.1 (Nat.le_of_ble_eq_true rfl) d_Pg_putBehind_126 ⟨Nat.le_of_ble_eq_true rfl, Nat.le_of_ble_eq_true rfl⟩) hP hD hS hA [2, 3] [0, 1, 4, 5, 6, 7, 8, 9, 10, 11, 12, 13, 14] rfl rfl (by decide) (by decide) (fun _ => rfl) (fun r14 u14 H locs hw hP hD hS => ?_) (fun _ _ _ _ h9 => h9.elim)
                  have hP : va_P D vwCl (w_Pg k ad_this (ad_this_keywords 0) q_this_names (ad_this_nodes 0) z_this ++ w_Kw k ad_this_keywords z_this_keywords ++ w_Nd k ad_this_nodes z_this_nodes) H := hP.sub [0, 1, 13, 14, 2, 3, 4, 5, 6, 7, 8, 9, 10, 11, 12] rfl
                  have hD : va_D A (w_Pg k ad_this (ad_this_keywords 0) q_this_names (ad_this_nodes 0) z_this ++ w_Kw k ad_this_keywords z_this_keywords ++ w_Nd k ad_this_nodes z_this_nodes) := hD.sub [0, 1, 13, 14, 2, 3, 4, 5, 6, 7, 8, 9, 10, 11, 12] (by decide) rfl
                  refine xq_go (wr := w_Kw k ad_this_keywords z_this_keywords ++ w_Nd k ad_this_nodes z_this_nodes) (stk := fun _ => []) (xq_runV (As := [.long r14]) (rest := []) ⟨hx, hb, hml, hown, hts⟩ (c_Pg_putLetters (l := l) (o := o) (D := D) (k := k) (ad_this := ad_this) (q_this_keywords := (ad_this_keywords 0)) (q_this_names := q_this_names) (q_this_nodes := (ad_this_nodes 0)) hw) (cw_Pg_putLetters hts kw4_70 ⟨Nat.le_of_ble_eq_true rfl, Nat.le_of_ble_eq_true rfl⟩) (va_recv hK hP (ci := 7) (q0 := 0) rfl rfl) (hP.sub [0, 1] rfl) hK hJ hS (va_free hD hS hA [0, 1] rfl) ((hD.sub [0, 1] (by decide) rfl).weaken (fun _ _ _ _ => trivial)) rfl hl.1 (Nat.le_of_ble_eq_true rfl) d_Pg_putBehind_129 ⟨Nat.le_of_ble_eq_true rfl, Nat.le_of_ble_eq_true rfl⟩) hP hD hS hA [0, 1] [2, 3, 4, 5, 6, 7, 8, 9, 10, 11, 12, 13, 14] rfl rfl (by decide) (by decide) (fun _ => rfl) (fun r15 u15 H locs hw hP hD hS => ?_) (fun _ _ _ _ h9 => h9.elim)
                  have hP : va_P D vwCl (w_Pg k ad_this (ad_this_keywords 0) q_this_names (ad_this_nodes 0) u15 ++ w_Kw k ad_this_keywords z_this_keywords ++ w_Nd k ad_this_nodes z_this_nodes) H := hP.sub [13, 14, 0, 1, 2, 3, 4, 5, 6, 7, 8, 9, 10, 11, 12] rfl
                  have hD : va_D A (w_Pg k ad_this (ad_this_keywords 0) q_this_names (ad_this_nodes 0) u15 ++ w_Kw k ad_this_keywords z_this_keywords ++ w_Nd k ad_this_nodes z_this_nodes) := hD.sub [13, 14, 0, 1, 2, 3, 4, 5, 6, 7, 8, 9, 10, 11, 12] (by decide) rfl
                  exact xq_vret (r := ()) (u := u15) hx hb hr hlocks hAe hP hD hS rfl hw (Nat.le_of_ble_eq_true rfl) (Nat.le_of_ble_eq_true rfl) d_Pg_putBehind_132
            · have hw := hw.2 hc
              refine lv_aload_n hx hb d_Pg_putBehind_91 rfl (lv_at hl 2 rfl) ?_
              refine lv_aload_n hx hb d_Pg_putBehind_92 rfl (lv_at hl 2 rfl) ?_
              refine va_get (D := D) (ci := 7) (v := .ref (ad_this_keywords 0)) (C := R_Pg) (T := F_Pg) (N := 5) hx hb hts in_Pg hown hK hP 0 rfl rfl 0 (by decide) (hts (.fieldLink R_Pg 15 R_Pg "keywords" "LStepText$Keywords;") kw2_28) (fun _ h9 => h9) rfl d_Pg_putBehind_93 ?_
              refine lv_sipush (v := (217 : Int32)) hx hb d_Pg_putBehind_96 (by decide) ?_
              refine xq_go (wr := w_Pg k ad_this (ad_this_keywords 0) q_this_names (ad_this_nodes 0) z_this ++ w_Nd k ad_this_nodes z_this_nodes) (stk := fun r => .long r :: [.ref (ad_this 0)]) (xq_runV (As := [.int (217 : Int32)]) (rest := [.ref (ad_this 0)]) ⟨hx, hb, hml, hown, hts⟩ (c_Kw_lettersOf (l := l) (o := o) (D := D) (k := k) (ad_this := ad_this_keywords) hw) (cw_Kw_lettersOf hts kw4_66 ⟨Nat.le_of_ble_eq_true rfl, Nat.le_of_ble_eq_true rfl⟩) (va_recv hK hP (ci := 1) (q0 := 2) rfl rfl) (hP.sub [2, 3] rfl) hK hJ hS (va_free hD hS hA [2, 3] rfl) ((hD.sub [2, 3] (by decide) rfl).weaken (fun _ _ _ _ => trivial)) rfl hl.1 (Nat.le_of_ble_eq_true rfl) d_Pg_putBehind_99 ⟨Nat.le_of_ble_eq_true rfl, Nat.le_of_ble_eq_true rfl⟩) hP hD hS hA [2, 3] [0, 1, 4, 5, 6, 7, 8, 9, 10, 11, 12, 13, 14] rfl rfl (by decide) (by decide) (fun _ => rfl) (fun r16 u16 H locs hw hP hD hS => ?_) (fun _ _ _ _ h9 => h9.elim)
              have hP : va_P D vwCl (w_Pg k ad_this (ad_this_keywords 0) q_this_names (ad_this_nodes 0) z_this ++ w_Kw k ad_this_keywords z_this_keywords ++ w_Nd k ad_this_nodes z_this_nodes) H := hP.sub [0, 1, 13, 14, 2, 3, 4, 5, 6, 7, 8, 9, 10, 11, 12] rfl
              have hD : va_D A (w_Pg k ad_this (ad_this_keywords 0) q_this_names (ad_this_nodes 0) z_this ++ w_Kw k ad_this_keywords z_this_keywords ++ w_Nd k ad_this_nodes z_this_nodes) := hD.sub [0, 1, 13, 14, 2, 3, 4, 5, 6, 7, 8, 9, 10, 11, 12] (by decide) rfl
              refine xq_go (wr := w_Kw k ad_this_keywords z_this_keywords ++ w_Nd k ad_this_nodes z_this_nodes) (stk := fun _ => []) (xq_runV (As := [.long r16]) (rest := []) ⟨hx, hb, hml, hown, hts⟩ (c_Pg_putLetters (l := l) (o := o) (D := D) (k := k) (ad_this := ad_this) (q_this_keywords := (ad_this_keywords 0)) (q_this_names := q_this_names) (q_this_nodes := (ad_this_nodes 0)) hw) (cw_Pg_putLetters hts kw4_70 ⟨Nat.le_of_ble_eq_true rfl, Nat.le_of_ble_eq_true rfl⟩) (va_recv hK hP (ci := 7) (q0 := 0) rfl rfl) (hP.sub [0, 1] rfl) hK hJ hS (va_free hD hS hA [0, 1] rfl) ((hD.sub [0, 1] (by decide) rfl).weaken (fun _ _ _ _ => trivial)) rfl hl.1 (Nat.le_of_ble_eq_true rfl) d_Pg_putBehind_102 ⟨Nat.le_of_ble_eq_true rfl, Nat.le_of_ble_eq_true rfl⟩) hP hD hS hA [0, 1] [2, 3, 4, 5, 6, 7, 8, 9, 10, 11, 12, 13, 14] rfl rfl (by decide) (by decide) (fun _ => rfl) (fun r17 u17 H locs hw hP hD hS => ?_) (fun _ _ _ _ h9 => h9.elim)
              have hP : va_P D vwCl (w_Pg k ad_this (ad_this_keywords 0) q_this_names (ad_this_nodes 0) u17 ++ w_Kw k ad_this_keywords z_this_keywords ++ w_Nd k ad_this_nodes z_this_nodes) H := hP.sub [13, 14, 0, 1, 2, 3, 4, 5, 6, 7, 8, 9, 10, 11, 12] rfl
              have hD : va_D A (w_Pg k ad_this (ad_this_keywords 0) q_this_names (ad_this_nodes 0) u17 ++ w_Kw k ad_this_keywords z_this_keywords ++ w_Nd k ad_this_nodes z_this_nodes) := hD.sub [13, 14, 0, 1, 2, 3, 4, 5, 6, 7, 8, 9, 10, 11, 12] (by decide) rfl
              refine lv_goto (tgt := 132) hx hb d_Pg_putBehind_105 (by decide) ?_
              exact xq_vret (r := ()) (u := u17) hx hb hr hlocks hAe hP hD hS rfl hw (Nat.le_of_ble_eq_true rfl) (Nat.le_of_ble_eq_true rfl) d_Pg_putBehind_132
        · have hw := hw.1 hc
          refine lv_aload_n hx hb d_Pg_putBehind_64 rfl (lv_at hl 2 rfl) ?_
          refine lv_aload_n hx hb d_Pg_putBehind_65 rfl (lv_at hl 2 rfl) ?_
          refine va_get (D := D) (ci := 7) (v := .ref (ad_this_keywords 0)) (C := R_Pg) (T := F_Pg) (N := 5) hx hb hts in_Pg hown hK hP 0 rfl rfl 0 (by decide) (hts (.fieldLink R_Pg 15 R_Pg "keywords" "LStepText$Keywords;") kw2_28) (fun _ h9 => h9) rfl d_Pg_putBehind_66 ?_
          refine lv_sipush (v := (216 : Int32)) hx hb d_Pg_putBehind_69 (by decide) ?_
          refine xq_go (wr := w_Pg k ad_this (ad_this_keywords 0) q_this_names (ad_this_nodes 0) z_this ++ w_Nd k ad_this_nodes z_this_nodes) (stk := fun r => .long r :: [.ref (ad_this 0)]) (xq_runV (As := [.int (216 : Int32)]) (rest := [.ref (ad_this 0)]) ⟨hx, hb, hml, hown, hts⟩ (c_Kw_lettersOf (l := l) (o := o) (D := D) (k := k) (ad_this := ad_this_keywords) hw) (cw_Kw_lettersOf hts kw4_66 ⟨Nat.le_of_ble_eq_true rfl, Nat.le_of_ble_eq_true rfl⟩) (va_recv hK hP (ci := 1) (q0 := 2) rfl rfl) (hP.sub [2, 3] rfl) hK hJ hS (va_free hD hS hA [2, 3] rfl) ((hD.sub [2, 3] (by decide) rfl).weaken (fun _ _ _ _ => trivial)) rfl hl.1 (Nat.le_of_ble_eq_true rfl) d_Pg_putBehind_72 ⟨Nat.le_of_ble_eq_true rfl, Nat.le_of_ble_eq_true rfl⟩) hP hD hS hA [2, 3] [0, 1, 4, 5, 6, 7, 8, 9, 10, 11, 12, 13, 14] rfl rfl (by decide) (by decide) (fun _ => rfl) (fun r18 u18 H locs hw hP hD hS => ?_) (fun _ _ _ _ h9 => h9.elim)
          have hP : va_P D vwCl (w_Pg k ad_this (ad_this_keywords 0) q_this_names (ad_this_nodes 0) z_this ++ w_Kw k ad_this_keywords z_this_keywords ++ w_Nd k ad_this_nodes z_this_nodes) H := hP.sub [0, 1, 13, 14, 2, 3, 4, 5, 6, 7, 8, 9, 10, 11, 12] rfl
          have hD : va_D A (w_Pg k ad_this (ad_this_keywords 0) q_this_names (ad_this_nodes 0) z_this ++ w_Kw k ad_this_keywords z_this_keywords ++ w_Nd k ad_this_nodes z_this_nodes) := hD.sub [0, 1, 13, 14, 2, 3, 4, 5, 6, 7, 8, 9, 10, 11, 12] (by decide) rfl
          refine xq_go (wr := w_Kw k ad_this_keywords z_this_keywords ++ w_Nd k ad_this_nodes z_this_nodes) (stk := fun _ => []) (xq_runV (As := [.long r18]) (rest := []) ⟨hx, hb, hml, hown, hts⟩ (c_Pg_putLetters (l := l) (o := o) (D := D) (k := k) (ad_this := ad_this) (q_this_keywords := (ad_this_keywords 0)) (q_this_names := q_this_names) (q_this_nodes := (ad_this_nodes 0)) hw) (cw_Pg_putLetters hts kw4_70 ⟨Nat.le_of_ble_eq_true rfl, Nat.le_of_ble_eq_true rfl⟩) (va_recv hK hP (ci := 7) (q0 := 0) rfl rfl) (hP.sub [0, 1] rfl) hK hJ hS (va_free hD hS hA [0, 1] rfl) ((hD.sub [0, 1] (by decide) rfl).weaken (fun _ _ _ _ => trivial)) rfl hl.1 (Nat.le_of_ble_eq_true rfl) d_Pg_putBehind_75 ⟨Nat.le_of_ble_eq_true rfl, Nat.le_of_ble_eq_true rfl⟩) hP hD hS hA [0, 1] [2, 3, 4, 5, 6, 7, 8, 9, 10, 11, 12, 13, 14] rfl rfl (by decide) (by decide) (fun _ => rfl) (fun r19 u19 H locs hw hP hD hS => ?_) (fun _ _ _ _ h9 => h9.elim)
          have hP : va_P D vwCl (w_Pg k ad_this (ad_this_keywords 0) q_this_names (ad_this_nodes 0) u19 ++ w_Kw k ad_this_keywords z_this_keywords ++ w_Nd k ad_this_nodes z_this_nodes) H := hP.sub [13, 14, 0, 1, 2, 3, 4, 5, 6, 7, 8, 9, 10, 11, 12] rfl
          have hD : va_D A (w_Pg k ad_this (ad_this_keywords 0) q_this_names (ad_this_nodes 0) u19 ++ w_Kw k ad_this_keywords z_this_keywords ++ w_Nd k ad_this_nodes z_this_nodes) := hD.sub [13, 14, 0, 1, 2, 3, 4, 5, 6, 7, 8, 9, 10, 11, 12] (by decide) rfl
          refine lv_goto (tgt := 132) hx hb d_Pg_putBehind_78 (by decide) ?_
          exact xq_vret (r := ()) (u := u19) hx hb hr hlocks hAe hP hD hS rfl hw (Nat.le_of_ble_eq_true rfl) (Nat.le_of_ble_eq_true rfl) d_Pg_putBehind_132
      · have hw := hw.2 hc
        refine lv_aload_n hx hb d_Pg_putBehind_45 rfl (lv_at hl 2 rfl) ?_
        refine va_ldcS hx hb hown (xq_sR2 hJ) d_Pg_putBehind_46 ?_
        refine lv_iload_n hx hb d_Pg_putBehind_48 rfl (lv_at hl 1 rfl) ?_
        refine xq_go (wr := w_Pg k ad_this (ad_this_keywords 0) q_this_names (ad_this_nodes 0) z_this ++ w_Kw k ad_this_keywords z_this_keywords ++ w_Nd k ad_this_nodes z_this_nodes) (stk := fun r => .int r :: [.ref (ad_this 0)]) (xq_runV (As := [.int r2]) (rest := [.ref (ad_this 0)]) ⟨hx, hb, hml, hown, hts⟩ (c_Jchar (l := l) (o := o) (D := D) (k := k) (i := 2) (j := r2) (post := fun r _ => r = (xq_ch 2 r2)) (by decide) hw.1 rfl) (cw_Jchar hts kw4_121 ⟨Nat.le_of_ble_eq_true rfl, Nat.le_of_ble_eq_true rfl⟩) (xq_srec hJ (by decide) hS) (hP.sub [] rfl) hK hJ hS (va_free hD hS hA [] rfl) ((hD.sub [] (by decide) rfl).weaken (fun _ _ _ _ => trivial)) rfl hl.1 (Nat.le_of_ble_eq_true rfl) d_Pg_putBehind_49 ⟨Nat.le_of_ble_eq_true rfl, Nat.le_of_ble_eq_true rfl⟩) hP hD hS hA [] [0, 1, 2, 3, 4, 5, 6, 7, 8, 9, 10, 11, 12, 13, 14] rfl rfl (by decide) (by decide) (fun _ => rfl) (fun r20 u20 H locs hr20 hP hD hS => ?_) (fun _ _ _ _ h9 => h9.elim)
        subst hr20
        have hP : va_P D vwCl (w_Pg k ad_this (ad_this_keywords 0) q_this_names (ad_this_nodes 0) z_this ++ w_Kw k ad_this_keywords z_this_keywords ++ w_Nd k ad_this_nodes z_this_nodes) H := hP.sub [0, 1, 2, 3, 4, 5, 6, 7, 8, 9, 10, 11, 12, 13, 14] rfl
        have hD : va_D A (w_Pg k ad_this (ad_this_keywords 0) q_this_names (ad_this_nodes 0) z_this ++ w_Kw k ad_this_keywords z_this_keywords ++ w_Nd k ad_this_nodes z_this_nodes) := hD.sub [0, 1, 2, 3, 4, 5, 6, 7, 8, 9, 10, 11, 12, 13, 14] (by decide) rfl
        have hw := hw.2
        refine xq_go (wr := w_Kw k ad_this_keywords z_this_keywords ++ w_Nd k ad_this_nodes z_this_nodes) (stk := fun _ => []) (xq_runV (As := [.int (xq_ch 2 r2)]) (rest := []) ⟨hx, hb, hml, hown, hts⟩ (c_Pg_putSign (l := l) (o := o) (D := D) (k := k) (ad_this := ad_this) (q_this_keywords := (ad_this_keywords 0)) (q_this_names := q_this_names) (q_this_nodes := (ad_this_nodes 0)) hw) (cw_Pg_putSign hts kw4_83 ⟨Nat.le_of_ble_eq_true rfl, Nat.le_of_ble_eq_true rfl⟩) (va_recv hK hP (ci := 7) (q0 := 0) rfl rfl) (hP.sub [0, 1] rfl) hK hJ hS (va_free hD hS hA [0, 1] rfl) ((hD.sub [0, 1] (by decide) rfl).weaken (fun _ _ _ _ => trivial)) rfl hl.1 (Nat.le_of_ble_eq_true rfl) d_Pg_putBehind_52 ⟨Nat.le_of_ble_eq_true rfl, Nat.le_of_ble_eq_true rfl⟩) hP hD hS hA [0, 1] [2, 3, 4, 5, 6, 7, 8, 9, 10, 11, 12, 13, 14] rfl rfl (by decide) (by decide) (fun _ => rfl) (fun r21 u21 H locs hw hP hD hS => ?_) (fun _ _ _ _ h9 => h9.elim)
        have hP : va_P D vwCl (w_Pg k ad_this (ad_this_keywords 0) q_this_names (ad_this_nodes 0) u21 ++ w_Kw k ad_this_keywords z_this_keywords ++ w_Nd k ad_this_nodes z_this_nodes) H := hP.sub [13, 14, 0, 1, 2, 3, 4, 5, 6, 7, 8, 9, 10, 11, 12] rfl
        have hD : va_D A (w_Pg k ad_this (ad_this_keywords 0) q_this_names (ad_this_nodes 0) u21 ++ w_Kw k ad_this_keywords z_this_keywords ++ w_Nd k ad_this_nodes z_this_nodes) := hD.sub [13, 14, 0, 1, 2, 3, 4, 5, 6, 7, 8, 9, 10, 11, 12] (by decide) rfl
        refine lv_goto (tgt := 132) hx hb d_Pg_putBehind_55 (by decide) ?_
        exact xq_vret (r := ()) (u := u21) hx hb hr hlocks hAe hP hD hS rfl hw (Nat.le_of_ble_eq_true rfl) (Nat.le_of_ble_eq_true rfl) d_Pg_putBehind_132
  · have hw := hw.1 hc
    refine lv_iconst (v := (1 : Int32)) hx hb d_Pg_putBehind_29 (by decide) ?_
    refine lv_goto (tgt := 34) hx hb d_Pg_putBehind_30 (by decide) ?_
    refine lv_istore_n (lv' := [(3, .int (1 : Int32)), (2, .int r2), (0, .ref (ad_this 0)), (1, .int a1)]) hx hb d_Pg_putBehind_34 rfl hl (by decide) rfl (fun ls hl => ?_)
    refine lv_iload_n hx hb d_Pg_putBehind_35 rfl (lv_at hl 1 rfl) ?_
    refine lv_if_lt (tgt := 58) hx hb d_Pg_putBehind_36 (by decide) (fun hc => ?_) (fun hc => ?_)
    · have hw := hw.1 hc
      refine lv_iload_n hx hb d_Pg_putBehind_58 rfl (lv_at hl 1 rfl) ?_
      refine lv_bipush (v := (13 : Int32)) hx hb d_Pg_putBehind_59 (by decide) ?_
      refine lv_icmp_ne (tgt := 81) hx hb d_Pg_putBehind_61 (by decide) (fun hc => ?_) (fun hc => ?_)
      · have hw := hw.2 hc
        refine lv_iload_n hx hb d_Pg_putBehind_81 rfl (lv_at hl 1 rfl) ?_
        refine lv_bipush (v := (15 : Int32)) hx hb d_Pg_putBehind_82 (by decide) ?_
        refine lv_icmp_ne (tgt := 108) hx hb d_Pg_putBehind_84 (by decide) (fun hc => ?_) (fun hc => ?_)
        · have hw := hw.2 hc
          refine lv_iload_n hx hb d_Pg_putBehind_108 rfl (lv_at hl 1 rfl) ?_
          refine lv_bipush (v := (17 : Int32)) hx hb d_Pg_putBehind_109 (by decide) ?_
          refine lv_icmp_ne (tgt := 132) hx hb d_Pg_putBehind_111 (by decide) (fun hc => ?_) (fun hc => ?_)
          · have hw := hw.2 hc
            exact xq_vret (r := ()) (u := z_this) hx hb hr hlocks hAe hP hD hS rfl hw (Nat.le_of_ble_eq_true rfl) (Nat.le_of_ble_eq_true rfl) d_Pg_putBehind_132
          · have hw := hw.1 hc
            refine lv_iload_n hx hb d_Pg_putBehind_114 rfl (lv_at hl 0 rfl) ?_
            refine lv_if_eq (tgt := 132) hx hb d_Pg_putBehind_115 (by decide) (fun hc => ?_) (fun hc => ?_)
            · have hw := hw.1 hc
              exact xq_vret (r := ()) (u := z_this) hx hb hr hlocks hAe hP hD hS rfl hw (Nat.le_of_ble_eq_true rfl) (Nat.le_of_ble_eq_true rfl) d_Pg_putBehind_132
            · have hw := hw.2 hc
              refine lv_aload_n hx hb d_Pg_putBehind_118 rfl (lv_at hl 2 rfl) ?_
              refine lv_aload_n hx hb d_Pg_putBehind_119 rfl (lv_at hl 2 rfl) ?_
              refine va_get (D := D) (ci := 7) (v := .ref (ad_this_keywords 0)) (C := R_Pg) (T := F_Pg) (N := 5) hx hb hts in_Pg hown hK hP 0 rfl rfl 0 (by decide) (hts (.fieldLink R_Pg 15 R_Pg "keywords" "LStepText$Keywords;") kw2_28) (fun _ h9 => h9) rfl d_Pg_putBehind_120 ?_
              refine lv_sipush (v := (218 : Int32)) hx hb d_Pg_putBehind_123 (by decide) ?_
              refine xq_go (wr := w_Pg k ad_this (ad_this_keywords 0) q_this_names (ad_this_nodes 0) z_this ++ w_Nd k ad_this_nodes z_this_nodes) (stk := fun r => .long r :: [.ref (ad_this 0)]) (xq_runV (As := [.int (218 : Int32)]) (rest := [.ref (ad_this 0)]) ⟨hx, hb, hml, hown, hts⟩ (c_Kw_lettersOf (l := l) (o := o) (D := D) (k := k) (ad_this := ad_this_keywords) hw) (cw_Kw_lettersOf hts kw4_66 ⟨Nat.le_of_ble_eq_true rfl, Nat.le_of_ble_eq_true rfl⟩) (va_recv hK hP (ci := 1) (q0 := 2) rfl rfl) (hP.sub [2, 3] rfl) hK hJ hS (va_free hD hS hA [2, 3] rfl) ((hD.sub [2, 3] (by decide) rfl).weaken (fun _ _ _ _ => trivial)) rfl hl.1 (Nat.le_of_ble_eq_true rfl) d_Pg_putBehind_126 ⟨Nat.le_of_ble_eq_true rfl, Nat.le_of_ble_eq_true rfl⟩) hP hD hS hA [2, 3] [0, 1, 4, 5, 6, 7, 8, 9, 10, 11, 12, 13, 14] rfl rfl (by decide) (by decide) (fun _ => rfl) (fun r22 u22 H locs hw hP hD hS => ?_) (fun _ _ _ _ h9 => h9.elim)
              have hP : va_P D vwCl (w_Pg k ad_this (ad_this_keywords 0) q_this_names (ad_this_nodes 0) z_this ++ w_Kw k ad_this_keywords z_this_keywords ++ w_Nd k ad_this_nodes z_this_nodes) H := hP.sub [0, 1, 13, 14, 2, 3, 4, 5, 6, 7, 8, 9, 10, 11, 12] rfl
              have hD : va_D A (w_Pg k ad_this (ad_this_keywords 0) q_this_names (ad_this_nodes 0) z_this ++ w_Kw k ad_this_keywords z_this_keywords ++ w_Nd k ad_this_nodes z_this_nodes) := hD.sub [0, 1, 13, 14, 2, 3, 4, 5, 6, 7, 8, 9, 10, 11, 12] (by decide) rfl
              refine xq_go (wr := w_Kw k ad_this_keywords z_this_keywords ++ w_Nd k ad_this_nodes z_this_nodes) (stk := fun _ => []) (xq_runV (As := [.long r22]) (rest := []) ⟨hx, hb, hml, hown, hts⟩ (c_Pg_putLetters (l := l) (o := o) (D := D) (k := k) (ad_this := ad_this) (q_this_keywords := (ad_this_keywords 0)) (q_this_names := q_this_names) (q_this_nodes := (ad_this_nodes 0)) hw) (cw_Pg_putLetters hts kw4_70 ⟨Nat.le_of_ble_eq_true rfl, Nat.le_of_ble_eq_true rfl⟩) (va_recv hK hP (ci := 7) (q0 := 0) rfl rfl) (hP.sub [0, 1] rfl) hK hJ hS (va_free hD hS hA [0, 1] rfl) ((hD.sub [0, 1] (by decide) rfl).weaken (fun _ _ _ _ => trivial)) rfl hl.1 (Nat.le_of_ble_eq_true rfl) d_Pg_putBehind_129 ⟨Nat.le_of_ble_eq_true rfl, Nat.le_of_ble_eq_true rfl⟩) hP hD hS hA [0, 1] [2, 3, 4, 5, 6, 7, 8, 9, 10, 11, 12, 13, 14] rfl rfl (by decide) (by decide) (fun _ => rfl) (fun r23 u23 H locs hw hP hD hS => ?_) (fun _ _ _ _ h9 => h9.elim)
              have hP : va_P D vwCl (w_Pg k ad_this (ad_this_keywords 0) q_this_names (ad_this_nodes 0) u23 ++ w_Kw k ad_this_keywords z_this_keywords ++ w_Nd k ad_this_nodes z_this_nodes) H := hP.sub [13, 14, 0, 1, 2, 3, 4, 5, 6, 7, 8, 9, 10, 11, 12] rfl
              have hD : va_D A (w_Pg k ad_this (ad_this_keywords 0) q_this_names (ad_this_nodes 0) u23 ++ w_Kw k ad_this_keywords z_this_keywords ++ w_Nd k ad_this_nodes z_this_nodes) := hD.sub [13, 14, 0, 1, 2, 3, 4, 5, 6, 7, 8, 9, 10, 11, 12] (by decide) rfl
              exact xq_vret (r := ()) (u := u23) hx hb hr hlocks hAe hP hD hS rfl hw (Nat.le_of_ble_eq_true rfl) (Nat.le_of_ble_eq_true rfl) d_Pg_putBehind_132
        · have hw := hw.1 hc
          refine lv_iload_n hx hb d_Pg_putBehind_87 rfl (lv_at hl 0 rfl) ?_
          refine lv_if_eq (tgt := 108) hx hb d_Pg_putBehind_88 (by decide) (fun hc => ?_) (fun hc => ?_)
          · have hw := hw.1 hc
            refine lv_iload_n hx hb d_Pg_putBehind_108 rfl (lv_at hl 1 rfl) ?_
            refine lv_bipush (v := (17 : Int32)) hx hb d_Pg_putBehind_109 (by decide) ?_
            refine lv_icmp_ne (tgt := 132) hx hb d_Pg_putBehind_111 (by decide) (fun hc => ?_) (fun hc => ?_)
            · have hw := hw.2 hc
              exact xq_vret (r := ()) (u := z_this) hx hb hr hlocks hAe hP hD hS rfl hw (Nat.le_of_ble_eq_true rfl) (Nat.le_of_ble_eq_true rfl) d_Pg_putBehind_132
            · have hw := hw.1 hc
              refine lv_iload_n hx hb d_Pg_putBehind_114 rfl (lv_at hl 0 rfl) ?_
              refine lv_if_eq (tgt := 132) hx hb d_Pg_putBehind_115 (by decide) (fun hc => ?_) (fun hc => ?_)
              · have hw := hw.1 hc
                exact xq_vret (r := ()) (u := z_this) hx hb hr hlocks hAe hP hD hS rfl hw (Nat.le_of_ble_eq_true rfl) (Nat.le_of_ble_eq_true rfl) d_Pg_putBehind_132
              · have hw := hw.2 hc
                refine lv_aload_n hx hb d_Pg_putBehind_118 rfl (lv_at hl 2 rfl) ?_
                refine lv_aload_n hx hb d_Pg_putBehind_119 rfl (lv_at hl 2 rfl) ?_
                refine va_get (D := D) (ci := 7) (v := .ref (ad_this_keywords 0)) (C := R_Pg) (T := F_Pg) (N := 5) hx hb hts in_Pg hown hK hP 0 rfl rfl 0 (by decide) (hts (.fieldLink R_Pg 15 R_Pg "keywords" "LStepText$Keywords;") kw2_28) (fun _ h9 => h9) rfl d_Pg_putBehind_120 ?_
                refine lv_sipush (v := (218 : Int32)) hx hb d_Pg_putBehind_123 (by decide) ?_
                refine xq_go (wr := w_Pg k ad_this (ad_this_keywords 0) q_this_names (ad_this_nodes 0) z_this ++ w_Nd k ad_this_nodes z_this_nodes) (stk := fun r => .long r :: [.ref (ad_this 0)]) (xq_runV (As := [.int (218 : Int32)]) (rest := [.ref (ad_this 0)]) ⟨hx, hb, hml, hown, hts⟩ (c_Kw_lettersOf (l := l) (o := o) (D := D) (k := k) (ad_this := ad_this_keywords) hw) (cw_Kw_lettersOf hts kw4_66 ⟨Nat.le_of_ble_eq_true rfl, Nat.le_of_ble_eq_true rfl⟩) (va_recv hK hP (ci := 1) (q0 := 2) rfl rfl) (hP.sub [2, 3] rfl) hK hJ hS (va_free hD hS hA [2, 3] rfl) ((hD.sub [2, 3] (by decide) rfl).weaken (fun _ _ _ _ => trivial)) rfl hl.1 (Nat.le_of_ble_eq_true rfl) d_Pg_putBehind_126 ⟨Nat.le_of_ble_eq_true rfl, Nat.le_of_ble_eq_true rfl⟩) hP hD hS hA [2, 3] [0, 1, 4, 5, 6, 7, 8, 9, 10, 11, 12, 13, 14] rfl rfl (by decide) (by decide) (fun _ => rfl) (fun r24 u24 H locs hw hP hD hS => ?_) (fun _ _ _ _ h9 => h9.elim)
                have hP : va_P D vwCl (w_Pg k ad_this (ad_this_keywords 0) q_this_names (ad_this_nodes 0) z_this ++ w_Kw k ad_this_keywords z_this_keywords ++ w_Nd k ad_this_nodes z_this_nodes) H := hP.sub [0, 1, 13, 14, 2, 3, 4, 5, 6, 7, 8, 9, 10, 11, 12] rfl
                have hD : va_D A (w_Pg k ad_this (ad_this_keywords 0) q_this_names (ad_this_nodes 0) z_this ++ w_Kw k ad_this_keywords z_this_keywords ++ w_Nd k ad_this_nodes z_this_nodes) := hD.sub [0, 1, 13, 14, 2, 3, 4, 5, 6, 7, 8, 9, 10, 11, 12] (by decide) rfl
                refine xq_go (wr := w_Kw k ad_this_keywords z_this_keywords ++ w_Nd k ad_this_nodes z_this_nodes) (stk := fun _ => []) (xq_runV (As := [.long r24]) (rest := []) ⟨hx, hb, hml, hown, hts⟩ (c_Pg_putLetters (l := l) (o := o) (D := D) (k := k) (ad_this := ad_this) (q_this_keywords := (ad_this_keywords 0)) (q_this_names := q_this_names) (q_this_nodes := (ad_this_nodes 0)) hw) (cw_Pg_putLetters hts kw4_70 ⟨Nat.le_of_ble_eq_true rfl, Nat.le_of_ble_eq_true rfl⟩) (va_recv hK hP (ci := 7) (q0 := 0) rfl rfl) (hP.sub [0, 1] rfl) hK hJ hS (va_free hD hS hA [0, 1] rfl) ((hD.sub [0, 1] (by decide) rfl).weaken (fun _ _ _ _ => trivial)) rfl hl.1 (Nat.le_of_ble_eq_true rfl) d_Pg_putBehind_129 ⟨Nat.le_of_ble_eq_true rfl, Nat.le_of_ble_eq_true rfl⟩) hP hD hS hA [0, 1] [2, 3, 4, 5, 6, 7, 8, 9, 10, 11, 12, 13, 14] rfl rfl (by decide) (by decide) (fun _ => rfl) (fun r25 u25 H locs hw hP hD hS => ?_) (fun _ _ _ _ h9 => h9.elim)
                have hP : va_P D vwCl (w_Pg k ad_this (ad_this_keywords 0) q_this_names (ad_this_nodes 0) u25 ++ w_Kw k ad_this_keywords z_this_keywords ++ w_Nd k ad_this_nodes z_this_nodes) H := hP.sub [13, 14, 0, 1, 2, 3, 4, 5, 6, 7, 8, 9, 10, 11, 12] rfl
                have hD : va_D A (w_Pg k ad_this (ad_this_keywords 0) q_this_names (ad_this_nodes 0) u25 ++ w_Kw k ad_this_keywords z_this_keywords ++ w_Nd k ad_this_nodes z_this_nodes) := hD.sub [13, 14, 0, 1, 2, 3, 4, 5, 6, 7, 8, 9, 10, 11, 12] (by decide) rfl
                exact xq_vret (r := ()) (u := u25) hx hb hr hlocks hAe hP hD hS rfl hw (Nat.le_of_ble_eq_true rfl) (Nat.le_of_ble_eq_true rfl) d_Pg_putBehind_132
          · have hw := hw.2 hc
            refine lv_aload_n hx hb d_Pg_putBehind_91 rfl (lv_at hl 2 rfl) ?_
            refine lv_aload_n hx hb d_Pg_putBehind_92 rfl (lv_at hl 2 rfl) ?_
            refine va_get (D := D) (ci := 7) (v := .ref (ad_this_keywords 0)) (C := R_Pg) (T := F_Pg) (N := 5) hx hb hts in_Pg hown hK hP 0 rfl rfl 0 (by decide) (hts (.fieldLink R_Pg 15 R_Pg "keywords" "LStepText$Keywords;") kw2_28) (fun _ h9 => h9) rfl d_Pg_putBehind_93 ?_
            refine lv_sipush (v := (217 : Int32)) hx hb d_Pg_putBehind_96 (by decide) ?_
            refine xq_go (wr := w_Pg k ad_this (ad_this_keywords 0) q_this_names (ad_this_nodes 0) z_this ++ w_Nd k ad_this_nodes z_this_nodes) (stk := fun r => .long r :: [.ref (ad_this 0)]) (xq_runV (As := [.int (217 : Int32)]) (rest := [.ref (ad_this 0)]) ⟨hx, hb, hml, hown, hts⟩ (c_Kw_lettersOf (l := l) (o := o) (D := D) (k := k) (ad_this := ad_this_keywords) hw) (cw_Kw_lettersOf hts kw4_66 ⟨Nat.le_of_ble_eq_true rfl, Nat.le_of_ble_eq_true rfl⟩) (va_recv hK hP (ci := 1) (q0 := 2) rfl rfl) (hP.sub [2, 3] rfl) hK hJ hS (va_free hD hS hA [2, 3] rfl) ((hD.sub [2, 3] (by decide) rfl).weaken (fun _ _ _ _ => trivial)) rfl hl.1 (Nat.le_of_ble_eq_true rfl) d_Pg_putBehind_99 ⟨Nat.le_of_ble_eq_true rfl, Nat.le_of_ble_eq_true rfl⟩) hP hD hS hA [2, 3] [0, 1, 4, 5, 6, 7, 8, 9, 10, 11, 12, 13, 14] rfl rfl (by decide) (by decide) (fun _ => rfl) (fun r26 u26 H locs hw hP hD hS => ?_) (fun _ _ _ _ h9 => h9.elim)
            have hP : va_P D vwCl (w_Pg k ad_this (ad_this_keywords 0) q_this_names (ad_this_nodes 0) z_this ++ w_Kw k ad_this_keywords z_this_keywords ++ w_Nd k ad_this_nodes z_this_nodes) H := hP.sub [0, 1, 13, 14, 2, 3, 4, 5, 6, 7, 8, 9, 10, 11, 12] rfl
            have hD : va_D A (w_Pg k ad_this (ad_this_keywords 0) q_this_names (ad_this_nodes 0) z_this ++ w_Kw k ad_this_keywords z_this_keywords ++ w_Nd k ad_this_nodes z_this_nodes) := hD.sub [0, 1, 13, 14, 2, 3, 4, 5, 6, 7, 8, 9, 10, 11, 12] (by decide) rfl
            refine xq_go (wr := w_Kw k ad_this_keywords z_this_keywords ++ w_Nd k ad_this_nodes z_this_nodes) (stk := fun _ => []) (xq_runV (As := [.long r26]) (rest := []) ⟨hx, hb, hml, hown, hts⟩ (c_Pg_putLetters (l := l) (o := o) (D := D) (k := k) (ad_this := ad_this) (q_this_keywords := (ad_this_keywords 0)) (q_this_names := q_this_names) (q_this_nodes := (ad_this_nodes 0)) hw) (cw_Pg_putLetters hts kw4_70 ⟨Nat.le_of_ble_eq_true rfl, Nat.le_of_ble_eq_true rfl⟩) (va_recv hK hP (ci := 7) (q0 := 0) rfl rfl) (hP.sub [0, 1] rfl) hK hJ hS (va_free hD hS hA [0, 1] rfl) ((hD.sub [0, 1] (by decide) rfl).weaken (fun _ _ _ _ => trivial)) rfl hl.1 (Nat.le_of_ble_eq_true rfl) d_Pg_putBehind_102 ⟨Nat.le_of_ble_eq_true rfl, Nat.le_of_ble_eq_true rfl⟩) hP hD hS hA [0, 1] [2, 3, 4, 5, 6, 7, 8, 9, 10, 11, 12, 13, 14] rfl rfl (by decide) (by decide) (fun _ => rfl) (fun r27 u27 H locs hw hP hD hS => ?_) (fun _ _ _ _ h9 => h9.elim)
            have hP : va_P D vwCl (w_Pg k ad_this (ad_this_keywords 0) q_this_names (ad_this_nodes 0) u27 ++ w_Kw k ad_this_keywords z_this_keywords ++ w_Nd k ad_this_nodes z_this_nodes) H := hP.sub [13, 14, 0, 1, 2, 3, 4, 5, 6, 7, 8, 9, 10, 11, 12] rfl
            have hD : va_D A (w_Pg k ad_this (ad_this_keywords 0) q_this_names (ad_this_nodes 0) u27 ++ w_Kw k ad_this_keywords z_this_keywords ++ w_Nd k ad_this_nodes z_this_nodes) := hD.sub [13, 14, 0, 1, 2, 3, 4, 5, 6, 7, 8, 9, 10, 11, 12] (by decide) rfl
            refine lv_goto (tgt := 132) hx hb d_Pg_putBehind_105 (by decide) ?_
            exact xq_vret (r := ()) (u := u27) hx hb hr hlocks hAe hP hD hS rfl hw (Nat.le_of_ble_eq_true rfl) (Nat.le_of_ble_eq_true rfl) d_Pg_putBehind_132
      · have hw := hw.1 hc
        refine lv_aload_n hx hb d_Pg_putBehind_64 rfl (lv_at hl 2 rfl) ?_
        refine lv_aload_n hx hb d_Pg_putBehind_65 rfl (lv_at hl 2 rfl) ?_
        refine va_get (D := D) (ci := 7) (v := .ref (ad_this_keywords 0)) (C := R_Pg) (T := F_Pg) (N := 5) hx hb hts in_Pg hown hK hP 0 rfl rfl 0 (by decide) (hts (.fieldLink R_Pg 15 R_Pg "keywords" "LStepText$Keywords;") kw2_28) (fun _ h9 => h9) rfl d_Pg_putBehind_66 ?_
        refine lv_sipush (v := (216 : Int32)) hx hb d_Pg_putBehind_69 (by decide) ?_
        refine xq_go (wr := w_Pg k ad_this (ad_this_keywords 0) q_this_names (ad_this_nodes 0) z_this ++ w_Nd k ad_this_nodes z_this_nodes) (stk := fun r => .long r :: [.ref (ad_this 0)]) (xq_runV (As := [.int (216 : Int32)]) (rest := [.ref (ad_this 0)]) ⟨hx, hb, hml, hown, hts⟩ (c_Kw_lettersOf (l := l) (o := o) (D := D) (k := k) (ad_this := ad_this_keywords) hw) (cw_Kw_lettersOf hts kw4_66 ⟨Nat.le_of_ble_eq_true rfl, Nat.le_of_ble_eq_true rfl⟩) (va_recv hK hP (ci := 1) (q0 := 2) rfl rfl) (hP.sub [2, 3] rfl) hK hJ hS (va_free hD hS hA [2, 3] rfl) ((hD.sub [2, 3] (by decide) rfl).weaken (fun _ _ _ _ => trivial)) rfl hl.1 (Nat.le_of_ble_eq_true rfl) d_Pg_putBehind_72 ⟨Nat.le_of_ble_eq_true rfl, Nat.le_of_ble_eq_true rfl⟩) hP hD hS hA [2, 3] [0, 1, 4, 5, 6, 7, 8, 9, 10, 11, 12, 13, 14] rfl rfl (by decide) (by decide) (fun _ => rfl) (fun r28 u28 H locs hw hP hD hS => ?_) (fun _ _ _ _ h9 => h9.elim)
        have hP : va_P D vwCl (w_Pg k ad_this (ad_this_keywords 0) q_this_names (ad_this_nodes 0) z_this ++ w_Kw k ad_this_keywords z_this_keywords ++ w_Nd k ad_this_nodes z_this_nodes) H := hP.sub [0, 1, 13, 14, 2, 3, 4, 5, 6, 7, 8, 9, 10, 11, 12] rfl
        have hD : va_D A (w_Pg k ad_this (ad_this_keywords 0) q_this_names (ad_this_nodes 0) z_this ++ w_Kw k ad_this_keywords z_this_keywords ++ w_Nd k ad_this_nodes z_this_nodes) := hD.sub [0, 1, 13, 14, 2, 3, 4, 5, 6, 7, 8, 9, 10, 11, 12] (by decide) rfl
        refine xq_go (wr := w_Kw k ad_this_keywords z_this_keywords ++ w_Nd k ad_this_nodes z_this_nodes) (stk := fun _ => []) (xq_runV (As := [.long r28]) (rest := []) ⟨hx, hb, hml, hown, hts⟩ (c_Pg_putLetters (l := l) (o := o) (D := D) (k := k) (ad_this := ad_this) (q_this_keywords := (ad_this_keywords 0)) (q_this_names := q_this_names) (q_this_nodes := (ad_this_nodes 0)) hw) (cw_Pg_putLetters hts kw4_70 ⟨Nat.le_of_ble_eq_true rfl, Nat.le_of_ble_eq_true rfl⟩) (va_recv hK hP (ci := 7) (q0 := 0) rfl rfl) (hP.sub [0, 1] rfl) hK hJ hS (va_free hD hS hA [0, 1] rfl) ((hD.sub [0, 1] (by decide) rfl).weaken (fun _ _ _ _ => trivial)) rfl hl.1 (Nat.le_of_ble_eq_true rfl) d_Pg_putBehind_75 ⟨Nat.le_of_ble_eq_true rfl, Nat.le_of_ble_eq_true rfl⟩) hP hD hS hA [0, 1] [2, 3, 4, 5, 6, 7, 8, 9, 10, 11, 12, 13, 14] rfl rfl (by decide) (by decide) (fun _ => rfl) (fun r29 u29 H locs hw hP hD hS => ?_) (fun _ _ _ _ h9 => h9.elim)
        have hP : va_P D vwCl (w_Pg k ad_this (ad_this_keywords 0) q_this_names (ad_this_nodes 0) u29 ++ w_Kw k ad_this_keywords z_this_keywords ++ w_Nd k ad_this_nodes z_this_nodes) H := hP.sub [13, 14, 0, 1, 2, 3, 4, 5, 6, 7, 8, 9, 10, 11, 12] rfl
        have hD : va_D A (w_Pg k ad_this (ad_this_keywords 0) q_this_names (ad_this_nodes 0) u29 ++ w_Kw k ad_this_keywords z_this_keywords ++ w_Nd k ad_this_nodes z_this_nodes) := hD.sub [13, 14, 0, 1, 2, 3, 4, 5, 6, 7, 8, 9, 10, 11, 12] (by decide) rfl
        refine lv_goto (tgt := 132) hx hb d_Pg_putBehind_78 (by decide) ?_
        exact xq_vret (r := ()) (u := u29) hx hb hr hlocks hAe hP hD hS rfl hw (Nat.le_of_ble_eq_true rfl) (Nat.le_of_ble_eq_true rfl) d_Pg_putBehind_132
    · have hw := hw.2 hc
      refine lv_iload_n hx hb d_Pg_putBehind_39 rfl (lv_at hl 1 rfl) ?_
      refine lv_bipush (v := (9 : Int32)) hx hb d_Pg_putBehind_40 (by decide) ?_
      refine lv_icmp_gt (tgt := 58) hx hb d_Pg_putBehind_42 (by decide) (fun hc => ?_) (fun hc => ?_)
      · have hw := hw.1 hc
        refine lv_iload_n hx hb d_Pg_putBehind_58 rfl (lv_at hl 1 rfl) ?_
        refine lv_bipush (v := (13 : Int32)) hx hb d_Pg_putBehind_59 (by decide) ?_
        refine lv_icmp_ne (tgt := 81) hx hb d_Pg_putBehind_61 (by decide) (fun hc => ?_) (fun hc => ?_)
        · have hw := hw.2 hc
          refine lv_iload_n hx hb d_Pg_putBehind_81 rfl (lv_at hl 1 rfl) ?_
          refine lv_bipush (v := (15 : Int32)) hx hb d_Pg_putBehind_82 (by decide) ?_
          refine lv_icmp_ne (tgt := 108) hx hb d_Pg_putBehind_84 (by decide) (fun hc => ?_) (fun hc => ?_)
          · have hw := hw.2 hc
            refine lv_iload_n hx hb d_Pg_putBehind_108 rfl (lv_at hl 1 rfl) ?_
            refine lv_bipush (v := (17 : Int32)) hx hb d_Pg_putBehind_109 (by decide) ?_
            refine lv_icmp_ne (tgt := 132) hx hb d_Pg_putBehind_111 (by decide) (fun hc => ?_) (fun hc => ?_)
            · have hw := hw.2 hc
              exact xq_vret (r := ()) (u := z_this) hx hb hr hlocks hAe hP hD hS rfl hw (Nat.le_of_ble_eq_true rfl) (Nat.le_of_ble_eq_true rfl) d_Pg_putBehind_132
            · have hw := hw.1 hc
              refine lv_iload_n hx hb d_Pg_putBehind_114 rfl (lv_at hl 0 rfl) ?_
              refine lv_if_eq (tgt := 132) hx hb d_Pg_putBehind_115 (by decide) (fun hc => ?_) (fun hc => ?_)
              · have hw := hw.1 hc
                exact xq_vret (r := ()) (u := z_this) hx hb hr hlocks hAe hP hD hS rfl hw (Nat.le_of_ble_eq_true rfl) (Nat.le_of_ble_eq_true rfl) d_Pg_putBehind_132
              · have hw := hw.2 hc
                refine lv_aload_n hx hb d_Pg_putBehind_118 rfl (lv_at hl 2 rfl) ?_
                refine lv_aload_n hx hb d_Pg_putBehind_119 rfl (lv_at hl 2 rfl) ?_
                refine va_get (D := D) (ci := 7) (v := .ref (ad_this_keywords 0)) (C := R_Pg) (T := F_Pg) (N := 5) hx hb hts in_Pg hown hK hP 0 rfl rfl 0 (by decide) (hts (.fieldLink R_Pg 15 R_Pg "keywords" "LStepText$Keywords;") kw2_28) (fun _ h9 => h9) rfl d_Pg_putBehind_120 ?_
                refine lv_sipush (v := (218 : Int32)) hx hb d_Pg_putBehind_123 (by decide) ?_
                refine xq_go (wr := w_Pg k ad_this (ad_this_keywords 0) q_this_names (ad_this_nodes 0) z_this ++ w_Nd k ad_this_nodes z_this_nodes) (stk := fun r => .long r :: [.ref (ad_this 0)]) (xq_runV (As := [.int (218 : Int32)]) (rest := [.ref (ad_this 0)]) ⟨hx, hb, hml, hown, hts⟩ (c_Kw_lettersOf (l := l) (o := o) (D := D) (k := k) (ad_this := ad_this_keywords) hw) (cw_Kw_lettersOf hts kw4_66 ⟨Nat.le_of_ble_eq_true rfl, Nat.le_of_ble_eq_true rfl⟩) (va_recv hK hP (ci := 1) (q0 := 2) rfl rfl) (hP.sub [2, 3] rfl) hK hJ hS (va_free hD hS hA [2, 3] rfl) ((hD.sub [2, 3] (by decide) rfl).weaken (fun _ _ _ _ => trivial)) rfl hl.1 (Nat.le_of_ble_eq_true rfl) d_Pg_putBehind_126 ⟨Nat.le_of_ble_eq_true rfl, Nat.le_of_ble_eq_true rfl⟩) hP hD hS hA [2, 3] [0, 1, 4, 5, 6, 7, 8, 9, 10, 11, 12, 13, 14] rfl rfl (by decide) (by decide) (fun _ => rfl) (fun r30 u30 H locs hw hP hD hS => ?_) (fun _ _ _ _ h9 => h9.elim)
                have hP : va_P D vwCl (w_Pg k ad_this (ad_this_keywords 0) q_this_names (ad_this_nodes 0) z_this ++ w_Kw k ad_this_keywords z_this_keywords ++ w_Nd k ad_this_nodes z_this_nodes) H := hP.sub [0, 1, 13, 14, 2, 3, 4, 5, 6, 7, 8, 9, 10, 11, 12] rfl
                have hD : va_D A (w_Pg k ad_this (ad_this_keywords 0) q_this_names (ad_this_nodes 0) z_this ++ w_Kw k ad_this_keywords z_this_keywords ++ w_Nd k ad_this_nodes z_this_nodes) := hD.sub [0, 1, 13, 14, 2, 3, 4, 5, 6, 7, 8, 9, 10, 11, 12] (by decide) rfl
                refine xq_go (wr := w_Kw k ad_this_keywords z_this_keywords ++ w_Nd k ad_this_nodes z_this_nodes) (stk := fun _ => []) (xq_runV (As := [.long r30]) (rest := []) ⟨hx, hb, hml, hown, hts⟩ (c_Pg_putLetters (l := l) (o := o) (D := D) (k := k) (ad_this := ad_this) (q_this_keywords := (ad_this_keywords 0)) (q_this_names := q_this_names) (q_this_nodes := (ad_this_nodes 0)) hw) (cw_Pg_putLetters hts kw4_70 ⟨Nat.le_of_ble_eq_true rfl, Nat.le_of_ble_eq_true rfl⟩) (va_recv hK hP (ci := 7) (q0 := 0) rfl rfl) (hP.sub [0, 1] rfl) hK hJ hS (va_free hD hS hA [0, 1] rfl) ((hD.sub [0, 1] (by decide) rfl).weaken (fun _ _ _ _ => trivial)) rfl hl.1 (Nat.le_of_ble_eq_true rfl) d_Pg_putBehind_129 ⟨Nat.le_of_ble_eq_true rfl, Nat.le_of_ble_eq_true rfl⟩) hP hD hS hA [0, 1] [2, 3, 4, 5, 6, 7, 8, 9, 10, 11, 12, 13, 14] rfl rfl (by decide) (by decide) (fun _ => rfl) (fun r31 u31 H locs hw hP hD hS => ?_) (fun _ _ _ _ h9 => h9.elim)
                have hP : va_P D vwCl (w_Pg k ad_this (ad_this_keywords 0) q_this_names (ad_this_nodes 0) u31 ++ w_Kw k ad_this_keywords z_this_keywords ++ w_Nd k ad_this_nodes z_this_nodes) H := hP.sub [13, 14, 0, 1, 2, 3, 4, 5, 6, 7, 8, 9, 10, 11, 12] rfl
                have hD : va_D A (w_Pg k ad_this (ad_this_keywords 0) q_this_names (ad_this_nodes 0) u31 ++ w_Kw k ad_this_keywords z_this_keywords ++ w_Nd k ad_this_nodes z_this_nodes) := hD.sub [13, 14, 0, 1, 2, 3, 4, 5, 6, 7, 8, 9, 10, 11, 12] (by decide) rfl
                exact xq_vret (r := ()) (u := u31) hx hb hr hlocks hAe hP hD hS rfl hw (Nat.le_of_ble_eq_true rfl) (Nat.le_of_ble_eq_true rfl) d_Pg_putBehind_132
          · have hw := hw.1 hc
            refine lv_iload_n hx hb d_Pg_putBehind_87 rfl (lv_at hl 0 rfl) ?_
            refine lv_if_eq (tgt := 108) hx hb d_Pg_putBehind_88 (by decide) (fun hc => ?_) (fun hc => ?_)
            · have hw := hw.1 hc
              refine lv_iload_n hx hb d_Pg_putBehind_108 rfl (lv_at hl 1 rfl) ?_
              refine lv_bipush (v := (17 : Int32)) hx hb d_Pg_putBehind_109 (by decide) ?_
              refine lv_icmp_ne (tgt := 132) hx hb d_Pg_putBehind_111 (by decide) (fun hc => ?_) (fun hc => ?_)
              · have hw := hw.2 hc
                exact xq_vret (r := ()) (u := z_this) hx hb hr hlocks hAe hP hD hS rfl hw (Nat.le_of_ble_eq_true rfl) (Nat.le_of_ble_eq_true rfl) d_Pg_putBehind_132
              · have hw := hw.1 hc
                refine lv_iload_n hx hb d_Pg_putBehind_114 rfl (lv_at hl 0 rfl) ?_
                refine lv_if_eq (tgt := 132) hx hb d_Pg_putBehind_115 (by decide) (fun hc => ?_) (fun hc => ?_)
                · have hw := hw.1 hc
                  exact xq_vret (r := ()) (u := z_this) hx hb hr hlocks hAe hP hD hS rfl hw (Nat.le_of_ble_eq_true rfl) (Nat.le_of_ble_eq_true rfl) d_Pg_putBehind_132
                · have hw := hw.2 hc
                  refine lv_aload_n hx hb d_Pg_putBehind_118 rfl (lv_at hl 2 rfl) ?_
                  refine lv_aload_n hx hb d_Pg_putBehind_119 rfl (lv_at hl 2 rfl) ?_
                  refine va_get (D := D) (ci := 7) (v := .ref (ad_this_keywords 0)) (C := R_Pg) (T := F_Pg) (N := 5) hx hb hts in_Pg hown hK hP 0 rfl rfl 0 (by decide) (hts (.fieldLink R_Pg 15 R_Pg "keywords" "LStepText$Keywords;") kw2_28) (fun _ h9 => h9) rfl d_Pg_putBehind_120 ?_
                  refine lv_sipush (v := (218 : Int32)) hx hb d_Pg_putBehind_123 (by decide) ?_
                  refine xq_go (wr := w_Pg k ad_this (ad_this_keywords 0) q_this_names (ad_this_nodes 0) z_this ++ w_Nd k ad_this_nodes z_this_nodes) (stk := fun r => .long r :: [.ref (ad_this 0)]) (xq_runV (As := [.int (218 : Int32)]) (rest := [.ref (ad_this 0)]) ⟨hx, hb, hml, hown, hts⟩ (c_Kw_lettersOf (l := l) (o := o) (D := D) (k := k) (ad_this := ad_this_keywords) hw) (cw_Kw_lettersOf hts kw4_66 ⟨Nat.le_of_ble_eq_true rfl, Nat.le_of_ble_eq_true rfl⟩) (va_recv hK hP (ci := 1) (q0 := 2) rfl rfl) (hP.sub [2, 3] rfl) hK hJ hS (va_free hD hS hA [2, 3] rfl) ((hD.sub [2, 3] (by decide) rfl).weaken (fun _ _ _ _ => trivial)) rfl hl.1 (Nat.le_of_ble_eq_true rfl) d_Pg_putBehind_126 ⟨Nat.le_of_ble_eq_true rfl, Nat.le_of_ble_eq_true rfl⟩) hP hD hS hA [2, 3] [0, 1, 4, 5, 6, 7, 8, 9, 10, 11, 12, 13, 14] rfl rfl (by decide) (by decide) (fun _ => rfl) (fun r32 u32 H locs hw hP hD hS => ?_) (fun _ _ _ _ h9 => h9.elim)
                  have hP : va_P D vwCl (w_Pg k ad_this (ad_this_keywords 0) q_this_names (ad_this_nodes 0) z_this ++ w_Kw k ad_this_keywords z_this_keywords ++ w_Nd k ad_this_nodes z_this_nodes) H := hP.sub [0, 1, 13, 14, 2, 3, 4, 5, 6, 7, 8, 9, 10, 11, 12] rfl
                  have hD : va_D A (w_Pg k ad_this (ad_this_keywords 0) q_this_names (ad_this_nodes 0) z_this ++ w_Kw k ad_this_keywords z_this_keywords ++ w_Nd k ad_this_nodes z_this_nodes) := hD.sub [0, 1, 13, 14, 2, 3, 4, 5, 6, 7, 8, 9, 10, 11, 12] (by decide) rfl
                  refine xq_go (wr := w_Kw k ad_this_keywords z_this_keywords ++ w_Nd k ad_this_nodes z_this_nodes) (stk := fun _ => []) (xq_runV (As := [.long r32]) (rest := []) ⟨hx, hb, hml, hown, hts⟩ (c_Pg_putLetters (l := l) (o := o) (D := D) (k := k) (ad_this := ad_this) (q_this_keywords := (ad_this_keywords 0)) (q_this_names := q_this_names) (q_this_nodes := (ad_this_nodes 0)) hw) (cw_Pg_putLetters hts kw4_70 ⟨Nat.le_of_ble_eq_true rfl, Nat.le_of_ble_eq_true rfl⟩) (va_recv hK hP (ci := 7) (q0 := 0) rfl rfl) (hP.sub [0, 1] rfl) hK hJ hS (va_free hD hS hA [0, 1] rfl) ((hD.sub [0, 1] (by decide) rfl).weaken (fun _ _ _ _ => trivial)) rfl hl.1 (Nat.le_of_ble_eq_true rfl) d_Pg_putBehind_129 ⟨Nat.le_of_ble_eq_true rfl, Nat.le_of_ble_eq_true rfl⟩) hP hD hS hA [0, 1] [2, 3, 4, 5, 6, 7, 8, 9, 10, 11, 12, 13, 14] rfl rfl (by decide) (by decide) (fun _ => rfl) (fun r33 u33 H locs hw hP hD hS => ?_) (fun _ _ _ _ h9 => h9.elim)
                  have hP : va_P D vwCl (w_Pg k ad_this (ad_this_keywords 0) q_this_names (ad_this_nodes 0) u33 ++ w_Kw k ad_this_keywords z_this_keywords ++ w_Nd k ad_this_nodes z_this_nodes) H := hP.sub [13, 14, 0, 1, 2, 3, 4, 5, 6, 7, 8, 9, 10, 11, 12] rfl
                  have hD : va_D A (w_Pg k ad_this (ad_this_keywords 0) q_this_names (ad_this_nodes 0) u33 ++ w_Kw k ad_this_keywords z_this_keywords ++ w_Nd k ad_this_nodes z_this_nodes) := hD.sub [13, 14, 0, 1, 2, 3, 4, 5, 6, 7, 8, 9, 10, 11, 12] (by decide) rfl
                  exact xq_vret (r := ()) (u := u33) hx hb hr hlocks hAe hP hD hS rfl hw (Nat.le_of_ble_eq_true rfl) (Nat.le_of_ble_eq_true rfl) d_Pg_putBehind_132
            · have hw := hw.2 hc
              refine lv_aload_n hx hb d_Pg_putBehind_91 rfl (lv_at hl 2 rfl) ?_
              refine lv_aload_n hx hb d_Pg_putBehind_92 rfl (lv_at hl 2 rfl) ?_
              refine va_get (D := D) (ci := 7) (v := .ref (ad_this_keywords 0)) (C := R_Pg) (T := F_Pg) (N := 5) hx hb hts in_Pg hown hK hP 0 rfl rfl 0 (by decide) (hts (.fieldLink R_Pg 15 R_Pg "keywords" "LStepText$Keywords;") kw2_28) (fun _ h9 => h9) rfl d_Pg_putBehind_93 ?_
              refine lv_sipush (v := (217 : Int32)) hx hb d_Pg_putBehind_96 (by decide) ?_
              refine xq_go (wr := w_Pg k ad_this (ad_this_keywords 0) q_this_names (ad_this_nodes 0) z_this ++ w_Nd k ad_this_nodes z_this_nodes) (stk := fun r => .long r :: [.ref (ad_this 0)]) (xq_runV (As := [.int (217 : Int32)]) (rest := [.ref (ad_this 0)]) ⟨hx, hb, hml, hown, hts⟩ (c_Kw_lettersOf (l := l) (o := o) (D := D) (k := k) (ad_this := ad_this_keywords) hw) (cw_Kw_lettersOf hts kw4_66 ⟨Nat.le_of_ble_eq_true rfl, Nat.le_of_ble_eq_true rfl⟩) (va_recv hK hP (ci := 1) (q0 := 2) rfl rfl) (hP.sub [2, 3] rfl) hK hJ hS (va_free hD hS hA [2, 3] rfl) ((hD.sub [2, 3] (by decide) rfl).weaken (fun _ _ _ _ => trivial)) rfl hl.1 (Nat.le_of_ble_eq_true rfl) d_Pg_putBehind_99 ⟨Nat.le_of_ble_eq_true rfl, Nat.le_of_ble_eq_true rfl⟩) hP hD hS hA [2, 3] [0, 1, 4, 5, 6, 7, 8, 9, 10, 11, 12, 13, 14] rfl rfl (by decide) (by decide) (fun _ => rfl) (fun r34 u34 H locs hw hP hD hS => ?_) (fun _ _ _ _ h9 => h9.elim)
              have hP : va_P D vwCl (w_Pg k ad_this (ad_this_keywords 0) q_this_names (ad_this_nodes 0) z_this ++ w_Kw k ad_this_keywords z_this_keywords ++ w_Nd k ad_this_nodes z_this_nodes) H := hP.sub [0, 1, 13, 14, 2, 3, 4, 5, 6, 7, 8, 9, 10, 11, 12] rfl
              have hD : va_D A (w_Pg k ad_this (ad_this_keywords 0) q_this_names (ad_this_nodes 0) z_this ++ w_Kw k ad_this_keywords z_this_keywords ++ w_Nd k ad_this_nodes z_this_nodes) := hD.sub [0, 1, 13, 14, 2, 3, 4, 5, 6, 7, 8, 9, 10, 11, 12] (by decide) rfl
              refine xq_go (wr := w_Kw k ad_this_keywords z_this_keywords ++ w_Nd k ad_this_nodes z_this_nodes) (stk := fun _ => []) (xq_runV (As := [.long r34]) (rest := []) ⟨hx, hb, hml, hown, hts⟩ (c_Pg_putLetters (l := l) (o := o) (D := D) (k := k) (ad_this := ad_this) (q_this_keywords := (ad_this_keywords 0)) (q_this_names := q_this_names) (q_this_nodes := (ad_this_nodes 0)) hw) (cw_Pg_putLetters hts kw4_70 ⟨Nat.le_of_ble_eq_true rfl, Nat.le_of_ble_eq_true rfl⟩) (va_recv hK hP (ci := 7) (q0 := 0) rfl rfl) (hP.sub [0, 1] rfl) hK hJ hS (va_free hD hS hA [0, 1] rfl) ((hD.sub [0, 1] (by decide) rfl).weaken (fun _ _ _ _ => trivial)) rfl hl.1 (Nat.le_of_ble_eq_true rfl) d_Pg_putBehind_102 ⟨Nat.le_of_ble_eq_true rfl, Nat.le_of_ble_eq_true rfl⟩) hP hD hS hA [0, 1] [2, 3, 4, 5, 6, 7, 8, 9, 10, 11, 12, 13, 14] rfl rfl (by decide) (by decide) (fun _ => rfl) (fun r35 u35 H locs hw hP hD hS => ?_) (fun _ _ _ _ h9 => h9.elim)
              have hP : va_P D vwCl (w_Pg k ad_this (ad_this_keywords 0) q_this_names (ad_this_nodes 0) u35 ++ w_Kw k ad_this_keywords z_this_keywords ++ w_Nd k ad_this_nodes z_this_nodes) H := hP.sub [13, 14, 0, 1, 2, 3, 4, 5, 6, 7, 8, 9, 10, 11, 12] rfl
              have hD : va_D A (w_Pg k ad_this (ad_this_keywords 0) q_this_names (ad_this_nodes 0) u35 ++ w_Kw k ad_this_keywords z_this_keywords ++ w_Nd k ad_this_nodes z_this_nodes) := hD.sub [13, 14, 0, 1, 2, 3, 4, 5, 6, 7, 8, 9, 10, 11, 12] (by decide) rfl
              refine lv_goto (tgt := 132) hx hb d_Pg_putBehind_105 (by decide) ?_
              exact xq_vret (r := ()) (u := u35) hx hb hr hlocks hAe hP hD hS rfl hw (Nat.le_of_ble_eq_true rfl) (Nat.le_of_ble_eq_true rfl) d_Pg_putBehind_132
        · have hw := hw.1 hc
          refine lv_aload_n hx hb d_Pg_putBehind_64 rfl (lv_at hl 2 rfl) ?_
          refine lv_aload_n hx hb d_Pg_putBehind_65 rfl (lv_at hl 2 rfl) ?_
          refine va_get (D := D) (ci := 7) (v := .ref (ad_this_keywords 0)) (C := R_Pg) (T := F_Pg) (N := 5) hx hb hts in_Pg hown hK hP 0 rfl rfl 0 (by decide) (hts (.fieldLink R_Pg 15 R_Pg "keywords" "LStepText$Keywords;") kw2_28) (fun _ h9 => h9) rfl d_Pg_putBehind_66 ?_
          refine lv_sipush (v := (216 : Int32)) hx hb d_Pg_putBehind_69 (by decide) ?_
          refine xq_go (wr := w_Pg k ad_this (ad_this_keywords 0) q_this_names (ad_this_nodes 0) z_this ++ w_Nd k ad_this_nodes z_this_nodes) (stk := fun r => .long r :: [.ref (ad_this 0)]) (xq_runV (As := [.int (216 : Int32)]) (rest := [.ref (ad_this 0)]) ⟨hx, hb, hml, hown, hts⟩ (c_Kw_lettersOf (l := l) (o := o) (D := D) (k := k) (ad_this := ad_this_keywords) hw) (cw_Kw_lettersOf hts kw4_66 ⟨Nat.le_of_ble_eq_true rfl, Nat.le_of_ble_eq_true rfl⟩) (va_recv hK hP (ci := 1) (q0 := 2) rfl rfl) (hP.sub [2, 3] rfl) hK hJ hS (va_free hD hS hA [2, 3] rfl) ((hD.sub [2, 3] (by decide) rfl).weaken (fun _ _ _ _ => trivial)) rfl hl.1 (Nat.le_of_ble_eq_true rfl) d_Pg_putBehind_72 ⟨Nat.le_of_ble_eq_true rfl, Nat.le_of_ble_eq_true rfl⟩) hP hD hS hA [2, 3] [0, 1, 4, 5, 6, 7, 8, 9, 10, 11, 12, 13, 14] rfl rfl (by decide) (by decide) (fun _ => rfl) (fun r36 u36 H locs hw hP hD hS => ?_) (fun _ _ _ _ h9 => h9.elim)
          have hP : va_P D vwCl (w_Pg k ad_this (ad_this_keywords 0) q_this_names (ad_this_nodes 0) z_this ++ w_Kw k ad_this_keywords z_this_keywords ++ w_Nd k ad_this_nodes z_this_nodes) H := hP.sub [0, 1, 13, 14, 2, 3, 4, 5, 6, 7, 8, 9, 10, 11, 12] rfl
          have hD : va_D A (w_Pg k ad_this (ad_this_keywords 0) q_this_names (ad_this_nodes 0) z_this ++ w_Kw k ad_this_keywords z_this_keywords ++ w_Nd k ad_this_nodes z_this_nodes) := hD.sub [0, 1, 13, 14, 2, 3, 4, 5, 6, 7, 8, 9, 10, 11, 12] (by decide) rfl
          refine xq_go (wr := w_Kw k ad_this_keywords z_this_keywords ++ w_Nd k ad_this_nodes z_this_nodes) (stk := fun _ => []) (xq_runV (As := [.long r36]) (rest := []) ⟨hx, hb, hml, hown, hts⟩ (c_Pg_putLetters (l := l) (o := o) (D := D) (k := k) (ad_this := ad_this) (q_this_keywords := (ad_this_keywords 0)) (q_this_names := q_this_names) (q_this_nodes := (ad_this_nodes 0)) hw) (cw_Pg_putLetters hts kw4_70 ⟨Nat.le_of_ble_eq_true rfl, Nat.le_of_ble_eq_true rfl⟩) (va_recv hK hP (ci := 7) (q0 := 0) rfl rfl) (hP.sub [0, 1] rfl) hK hJ hS (va_free hD hS hA [0, 1] rfl) ((hD.sub [0, 1] (by decide) rfl).weaken (fun _ _ _ _ => trivial)) rfl hl.1 (Nat.le_of_ble_eq_true rfl) d_Pg_putBehind_75 ⟨Nat.le_of_ble_eq_true rfl, Nat.le_of_ble_eq_true rfl⟩) hP hD hS hA [0, 1] [2, 3, 4, 5, 6, 7, 8, 9, 10, 11, 12, 13, 14] rfl rfl (by decide) (by decide) (fun _ => rfl) (fun r37 u37 H locs hw hP hD hS => ?_) (fun _ _ _ _ h9 => h9.elim)
          have hP : va_P D vwCl (w_Pg k ad_this (ad_this_keywords 0) q_this_names (ad_this_nodes 0) u37 ++ w_Kw k ad_this_keywords z_this_keywords ++ w_Nd k ad_this_nodes z_this_nodes) H := hP.sub [13, 14, 0, 1, 2, 3, 4, 5, 6, 7, 8, 9, 10, 11, 12] rfl
          have hD : va_D A (w_Pg k ad_this (ad_this_keywords 0) q_this_names (ad_this_nodes 0) u37 ++ w_Kw k ad_this_keywords z_this_keywords ++ w_Nd k ad_this_nodes z_this_nodes) := hD.sub [13, 14, 0, 1, 2, 3, 4, 5, 6, 7, 8, 9, 10, 11, 12] (by decide) rfl
          refine lv_goto (tgt := 132) hx hb d_Pg_putBehind_78 (by decide) ?_
          exact xq_vret (r := ()) (u := u37) hx hb hr hlocks hAe hP hD hS rfl hw (Nat.le_of_ble_eq_true rfl) (Nat.le_of_ble_eq_true rfl) d_Pg_putBehind_132
      · have hw := hw.2 hc
        refine lv_aload_n hx hb d_Pg_putBehind_45 rfl (lv_at hl 2 rfl) ?_
        refine va_ldcS hx hb hown (xq_sR2 hJ) d_Pg_putBehind_46 ?_
        refine lv_iload_n hx hb d_Pg_putBehind_48 rfl (lv_at hl 1 rfl) ?_
        refine xq_go (wr := w_Pg k ad_this (ad_this_keywords 0) q_this_names (ad_this_nodes 0) z_this ++ w_Kw k ad_this_keywords z_this_keywords ++ w_Nd k ad_this_nodes z_this_nodes) (stk := fun r => .int r :: [.ref (ad_this 0)]) (xq_runV (As := [.int r2]) (rest := [.ref (ad_this 0)]) ⟨hx, hb, hml, hown, hts⟩ (c_Jchar (l := l) (o := o) (D := D) (k := k) (i := 2) (j := r2) (post := fun r _ => r = (xq_ch 2 r2)) (by decide) hw.1 rfl) (cw_Jchar hts kw4_121 ⟨Nat.le_of_ble_eq_true rfl, Nat.le_of_ble_eq_true rfl⟩) (xq_srec hJ (by decide) hS) (hP.sub [] rfl) hK hJ hS (va_free hD hS hA [] rfl) ((hD.sub [] (by decide) rfl).weaken (fun _ _ _ _ => trivial)) rfl hl.1 (Nat.le_of_ble_eq_true rfl) d_Pg_putBehind_49 ⟨Nat.le_of_ble_eq_true rfl, Nat.le_of_ble_eq_true rfl⟩) hP hD hS hA [] [0, 1, 2, 3, 4, 5, 6, 7, 8, 9, 10, 11, 12, 13, 14] rfl rfl (by decide) (by decide) (fun _ => rfl) (fun r38 u38 H locs hr38 hP hD hS => ?_) (fun _ _ _ _ h9 => h9.elim)
        subst hr38
        have hP : va_P D vwCl (w_Pg k ad_this (ad_this_keywords 0) q_this_names (ad_this_nodes 0) z_this ++ w_Kw k ad_this_keywords z_this_keywords ++ w_Nd k ad_this_nodes z_this_nodes) H := hP.sub [0, 1, 2, 3, 4, 5, 6, 7, 8, 9, 10, 11, 12, 13, 14] rfl
        have hD : va_D A (w_Pg k ad_this (ad_this_keywords 0) q_this_names (ad_this_nodes 0) z_this ++ w_Kw k ad_this_keywords z_this_keywords ++ w_Nd k ad_this_nodes z_this_nodes) := hD.sub [0, 1, 2, 3, 4, 5, 6, 7, 8, 9, 10, 11, 12, 13, 14] (by decide) rfl
        have hw := hw.2
        refine xq_go (wr := w_Kw k ad_this_keywords z_this_keywords ++ w_Nd k ad_this_nodes z_this_nodes) (stk := fun _ => []) (xq_runV (As := [.int (xq_ch 2 r2)]) (rest := []) ⟨hx, hb, hml, hown, hts⟩ (c_Pg_putSign (l := l) (o := o) (D := D) (k := k) (ad_this := ad_this) (q_this_keywords := (ad_this_keywords 0)) (q_this_names := q_this_names) (q_this_nodes := (ad_this_nodes 0)) hw) (cw_Pg_putSign hts kw4_83 ⟨Nat.le_of_ble_eq_true rfl, Nat.le_of_ble_eq_true rfl⟩) (va_recv hK hP (ci := 7) (q0 := 0) rfl rfl) (hP.sub [0, 1] rfl) hK hJ hS (va_free hD hS hA [0, 1] rfl) ((hD.sub [0, 1] (by decide) rfl).weaken (fun _ _ _ _ => trivial)) rfl hl.1 (Nat.le_of_ble_eq_true rfl) d_Pg_putBehind_52 ⟨Nat.le_of_ble_eq_true rfl, Nat.le_of_ble_eq_true rfl⟩) hP hD hS hA [0, 1] [2, 3, 4, 5, 6, 7, 8, 9, 10, 11, 12, 13, 14] rfl rfl (by decide) (by decide) (fun _ => rfl) (fun r39 u39 H locs hw hP hD hS => ?_) (fun _ _ _ _ h9 => h9.elim)
        have hP : va_P D vwCl (w_Pg k ad_this (ad_this_keywords 0) q_this_names (ad_this_nodes 0) u39 ++ w_Kw k ad_this_keywords z_this_keywords ++ w_Nd k ad_this_nodes z_this_nodes) H := hP.sub [13, 14, 0, 1, 2, 3, 4, 5, 6, 7, 8, 9, 10, 11, 12] rfl
        have hD : va_D A (w_Pg k ad_this (ad_this_keywords 0) q_this_names (ad_this_nodes 0) u39 ++ w_Kw k ad_this_keywords z_this_keywords ++ w_Nd k ad_this_nodes z_this_nodes) := hD.sub [13, 14, 0, 1, 2, 3, 4, 5, 6, 7, 8, 9, 10, 11, 12] (by decide) rfl
        refine lv_goto (tgt := 132) hx hb d_Pg_putBehind_55 (by decide) ?_
        exact xq_vret (r := ()) (u := u39) hx hb hr hlocks hAe hP hD hS rfl hw (Nat.le_of_ble_eq_true rfl) (Nat.le_of_ble_eq_true rfl) d_Pg_putBehind_132
theorem cw_Pg_putBehind {R : Room} {s : State} {args : Array Value} {own : String} {index : Nat} (hts : ∀ w ∈ xq_W, w.before args s = true) (hl : .methodLink own index y_Pg_putBehind ∈ xq_W) {rm : Room} (hR : rm.frames + 1 ≤ R.frames ∧ 8 + (4 + 11) + rm.locals ≤ R.locals) : CallW R s args own "StepText$Page" index y_Pg_putBehind prog_6_method_10_code 4 none (.code y_Pg_putBehind prog_6_method_10_code 4 none :: xq_W) rm rm.cells rm.slots 1 := ⟨xq_cb 1 hts kw4_119 kw1_12 hl ⟨by decide, by decide, by decide +kernel⟩ hR, hts _ kw4_118, hts _ kp4_1⟩
def y_Pg_leaveUpTo : MethodName := ⟨"StepText$Page", "leaveUpTo", "(II)I"⟩
theorem d_Pg_leaveUpTo_0 : decode prog_6_method_6_code 0 = .ok (.iload_n 2, 1) := by decide +kernel
theorem d_Pg_leaveUpTo_1 : decode prog_6_method_6_code 1 = .ok (.istore_n 3, 1) := by decide +kernel
theorem d_Pg_leaveUpTo_2 : decode prog_6_method_6_code 2 = .ok (.iconst 0, 1) := by decide +kernel
theorem d_Pg_leaveUpTo_3 : decode prog_6_method_6_code 3 = .ok (.istore 4, 2) := by decide +kernel
theorem d_Pg_leaveUpTo_5 : decode prog_6_method_6_code 5 = .ok (.iload 4, 2) := by decide +kernel
theorem d_Pg_leaveUpTo_7 : decode prog_6_method_6_code 7 = .ok (.sipush 1000, 3) := by decide +kernel
theorem d_Pg_leaveUpTo_10 : decode prog_6_method_6_code 10 = .ok (.if_icmp .ge 61, 3) := by decide +kernel
theorem d_Pg_leaveUpTo_13 : decode prog_6_method_6_code 13 = .ok (.iload_n 3, 1) := by decide +kernel
theorem d_Pg_leaveUpTo_14 : decode prog_6_method_6_code 14 = .ok (.iconst (-1), 1) := by decide +kernel
theorem d_Pg_leaveUpTo_15 : decode prog_6_method_6_code 15 = .ok (.if_icmp .eq 56, 3) := by decide +kernel
theorem d_Pg_leaveUpTo_18 : decode prog_6_method_6_code 18 = .ok (.aload_n 0, 1) := by decide +kernel
theorem d_Pg_leaveUpTo_19 : decode prog_6_method_6_code 19 = .ok (.iload_n 3, 1) := by decide +kernel
theorem d_Pg_leaveUpTo_20 : decode prog_6_method_6_code 20 = .ok (.invokevirtual 95, 3) := by decide +kernel
theorem d_Pg_leaveUpTo_23 : decode prog_6_method_6_code 23 = .ok (.iload_n 3, 1) := by decide +kernel
theorem d_Pg_leaveUpTo_24 : decode prog_6_method_6_code 24 = .ok (.iload_n 1, 1) := by decide +kernel
theorem d_Pg_leaveUpTo_25 : decode prog_6_method_6_code 25 = .ok (.if_icmp .ne 5, 3) := by decide +kernel
theorem d_Pg_leaveUpTo_28 : decode prog_6_method_6_code 28 = .ok (.iconst (-1), 1) := by decide +kernel
theorem d_Pg_leaveUpTo_29 : decode prog_6_method_6_code 29 = .ok (.ireturn, 1) := by decide +kernel
theorem d_Pg_leaveUpTo_30 : decode prog_6_method_6_code 30 = .ok (.aload_n 0, 1) := by decide +kernel
theorem d_Pg_leaveUpTo_31 : decode prog_6_method_6_code 31 = .ok (.getfield 32, 3) := by decide +kernel
theorem d_Pg_leaveUpTo_34 : decode prog_6_method_6_code 34 = .ok (.iload_n 3, 1) := by decide +kernel
theorem d_Pg_leaveUpTo_35 : decode prog_6_method_6_code 35 = .ok (.invokevirtual 60, 3) := by decide +kernel
theorem d_Pg_leaveUpTo_38 : decode prog_6_method_6_code 38 = .ok (.iconst (-1), 1) := by decide +kernel
theorem d_Pg_leaveUpTo_39 : decode prog_6_method_6_code 39 = .ok (.if_icmp .eq 17, 3) := by decide +kernel
theorem d_Pg_leaveUpTo_42 : decode prog_6_method_6_code 42 = .ok (.aload_n 0, 1) := by decide +kernel
theorem d_Pg_leaveUpTo_43 : decode prog_6_method_6_code 43 = .ok (.iload_n 3, 1) := by decide +kernel
theorem d_Pg_leaveUpTo_44 : decode prog_6_method_6_code 44 = .ok (.invokevirtual 98, 3) := by decide +kernel
theorem d_Pg_leaveUpTo_47 : decode prog_6_method_6_code 47 = .ok (.aload_n 0, 1) := by decide +kernel
theorem d_Pg_leaveUpTo_48 : decode prog_6_method_6_code 48 = .ok (.getfield 32, 3) := by decide +kernel
theorem d_Pg_leaveUpTo_51 : decode prog_6_method_6_code 51 = .ok (.iload_n 3, 1) := by decide +kernel
theorem d_Pg_leaveUpTo_52 : decode prog_6_method_6_code 52 = .ok (.invokevirtual 60, 3) := by decide +kernel
theorem d_Pg_leaveUpTo_55 : decode prog_6_method_6_code 55 = .ok (.ireturn, 1) := by decide +kernel
theorem d_Pg_leaveUpTo_56 : decode prog_6_method_6_code 56 = .ok (.aload_n 0, 1) := by decide +kernel
theorem d_Pg_leaveUpTo_57 : decode prog_6_method_6_code 57 = .ok (.getfield 32, 3) := by decide +kernel
theorem d_Pg_leaveUpTo_60 : decode prog_6_method_6_code 60 = .ok (.iload_n 3, 1) := by decide +kernel
theorem d_Pg_leaveUpTo_61 : decode prog_6_method_6_code 61 = .ok (.invokevirtual 101, 3) := by decide +kernel
theorem d_Pg_leaveUpTo_64 : decode prog_6_method_6_code 64 = .ok (.istore_n 3, 1) := by decide +kernel
theorem d_Pg_leaveUpTo_65 : decode prog_6_method_6_code 65 = .ok (.iinc 4 1, 3) := by decide +kernel
theorem d_Pg_leaveUpTo_68 : decode prog_6_method_6_code 68 = .ok (.goto (-63), 3) := by decide +kernel
theorem d_Pg_leaveUpTo_71 : decode prog_6_method_6_code 71 = .ok (.iconst (-1), 1) := by decide +kernel
theorem d_Pg_leaveUpTo_72 : decode prog_6_method_6_code 72 = .ok (.ireturn, 1) := by decide +kernel
def wp_Pg_leaveUpTo_L5 (z_this_keywords : T_Kw) (z_this_nodes : T_Nd) (K : T_Pg → Int32 → Int32 → Int32 → Int32 → Prop) (post : Int32 → T_Pg → Prop) : Nat → T_Pg → Int32 → Int32 → Int32 → Int32 → Prop
  | 0, _, _, _, _, _ => False
  | n9 + 1, z_this, x1, x2, x3, x4 => ((1000 : Int32) ≤ x4 → (K z_this x1 x2 x3 x4)) ∧ (¬ (1000 : Int32) ≤ x4 → ((x3 = (-1 : Int32) → (K z_this x1 x2 x3 x4)) ∧ (¬ x3 = (-1 : Int32) → (wp_Pg_leave z_this z_this_nodes x3 (fun (r1 : Unit) (u1 : T_Pg) => (x3 = x1 → (post (-1 : Int32) u1)) ∧ (¬ x3 = x1 → (wp_Nd_nextOf z_this_nodes x3 (fun (r2 : Int32) (u2 : Unit) => (r2 = (-1 : Int32) → (wp_Nd_parentOf z_this_nodes x3 (fun (r3 : Int32) (u3 : Unit) => wp_Pg_leaveUpTo_L5 z_this_keywords z_this_nodes K post n9 u1 x1 x2 r3 (x4 + (1 : Int32))))) ∧ (¬ r2 = (-1 : Int32) → (wp_Pg_putBehind u1 z_this_keywords z_this_nodes x3 (fun (r4 : Unit) (u4 : T_Pg) => wp_Nd_nextOf z_this_nodes x3 (fun (r5 : Int32) (u5 : Unit) => post r5 u4))))))))))))
def wp_Pg_leaveUpTo (z_this : T_Pg) (z_this_keywords : T_Kw) (z_this_nodes : T_Nd) (a1 : Int32) (a2 : Int32) (post : Int32 → T_Pg → Prop) : Prop := ∃ k9 : Nat, wp_Pg_leaveUpTo_L5 z_this_keywords z_this_nodes (fun (z_this : T_Pg) (x1 : Int32) (x2 : Int32) (x3 : Int32) (x4 : Int32) => post (-1 : Int32) z_this) post k9 z_this a1 a2 a2 (0 : Int32)
def rm_Pg_leaveUpTo : Room := { frames := 6, cells := 0, slots := 0, locals := 153 }
set_option maxHeartbeats 4000000 in
set_option maxRecDepth 100000 in
theorem t_Pg_leaveUpTo_L5 {p : Program} {l : Launch} {o : State × Array Value} {e : Env} {s : State} {m : MethodId} {args : Array Value} {below : List Frame} {meth : Method} {c : Code} {D : va_G} {k : Nat → ClassId} {w0 : va_W} {A : Nat → Prop} {ad_this : Nat → Nat} {ad_this_keywords : Nat → Nat} {ad_this_nodes : Nat → Nat} {q_this_names : Nat} {z_this_keywords : T_Kw} {z_this_nodes : T_Nd} {post : Int32 → T_Pg → Prop} (hAt : xq_At p s m args meth c prog_6_method_6_code 5 (some (.int)) y_Pg_leaveUpTo xq_W) (hK : va_K D vwCl (xt k) s) (hJ : xq_J l o A s s.heap) (hAe : va_A w0 s.heap.size = A) (hA : ∀ q, s.heap.size ≤ q → A q) {K : T_Pg → Int32 → Int32 → Int32 → Int32 → Prop} (hX : ∀ (z_this : T_Pg) (x1 : Int32) (x2 : Int32) (x3 : Int32) (x4 : Int32) (H : Heap) (locs : List Loc) (ls : Array Slot), lv_has ls 5 [(0, .ref (ad_this 0)), (1, .int x1), (2, .int x2), (3, .int x3), (4, .int x4)] → va_P D vwCl (w_Pg k ad_this (ad_this_keywords 0) q_this_names (ad_this_nodes 0) z_this ++ w_Kw k ad_this_keywords z_this_keywords ++ w_Nd k ad_this_nodes z_this_nodes) H → va_D A (w_Pg k ad_this (ad_this_keywords 0) q_this_names (ad_this_nodes 0) z_this ++ w_Kw k ad_this_keywords z_this_keywords ++ w_Nd k ad_this_nodes z_this_nodes) → va_S A s.heap H locs → K z_this x1 x2 x3 x4 → W p l e rm_Pg_leaveUpTo s m args below meth c H locs 0 0 (xq_Z below D vwCl (xt k) w0 (fun r : Int32 => some (.int r)) post (fun _ : T_Pg => False) (fun u : T_Pg => w_Pg k ad_this (ad_this_keywords 0) q_this_names (ad_this_nodes 0) u ++ w_Kw k ad_this_keywords z_this_keywords ++ w_Nd k ad_this_nodes z_this_nodes) 0 0 0 0 s) (F0 m 71 ls [])) :
    ∀ (n9 : Nat) (z_this : T_Pg) (x1 : Int32) (x2 : Int32) (x3 : Int32) (x4 : Int32) (H : Heap) (locs : List Loc) (ls : Array Slot), lv_has ls 5 [(0, .ref (ad_this 0)), (1, .int x1), (2, .int x2), (3, .int x3), (4, .int x4)] → va_P D vwCl (w_Pg k ad_this (ad_this_keywords 0) q_this_names (ad_this_nodes 0) z_this ++ w_Kw k ad_this_keywords z_this_keywords ++ w_Nd k ad_this_nodes z_this_nodes) H → va_D A (w_Pg k ad_this (ad_this_keywords 0) q_this_names (ad_this_nodes 0) z_this ++ w_Kw k ad_this_keywords z_this_keywords ++ w_Nd k ad_this_nodes z_this_nodes) → va_S A s.heap H locs → wp_Pg_leaveUpTo_L5 z_this_keywords z_this_nodes K post n9 z_this x1 x2 x3 x4 → W p l e rm_Pg_leaveUpTo s m args below meth c H locs 0 0 (xq_Z below D vwCl (xt k) w0 (fun r : Int32 => some (.int r)) post (fun _ : T_Pg => False) (fun u : T_Pg => w_Pg k ad_this (ad_this_keywords 0) q_this_names (ad_this_nodes 0) u ++ w_Kw k ad_this_keywords z_this_keywords ++ w_Nd k ad_this_nodes z_this_nodes) 0 0 0 0 s) (F0 m 5 ls []) := by
  obtain ⟨hx, hb, hml, hr, hlocks, hown, hts, hex, hnm⟩ := id hAt
  intro n9
  induction n9 with
  | zero => intro z_this x1 x2 x3 x4 H locs ls hl hP hD hS hw; exact False.elim (by rw [wp_Pg_leaveUpTo_L5] at hw; exact hw)
  | succ n9 ih =>
    intro z_this x1 x2 x3 x4 H locs ls hl hP hD hS hw
    rw [wp_Pg_leaveUpTo_L5] at hw
    refine lv_iload hx hb d_Pg_leaveUpTo_5 (lv_at hl 4 rfl) ?_
    refine lv_sipush (v := (1000 : Int32)) hx hb d_Pg_leaveUpTo_7 (by decide) ?_
    refine lv_icmp_ge (tgt := 71) hx hb d_Pg_leaveUpTo_10 (by decide) (fun hc => ?_) (fun hc => ?_)
    · have hw := hw.1 hc
      exact hX z_this x1 x2 x3 x4 H locs ls (lv_sub hl [0, 1, 2, 3, 4] rfl) hP hD hS hw
    · have hw := hw.2 hc
      refine lv_iload_n hx hb d_Pg_leaveUpTo_13 rfl (lv_at hl 3 rfl) ?_
      refine lv_iconst (v := (-1 : Int32)) hx hb d_Pg_leaveUpTo_14 (by decide) ?_
      refine lv_icmp_eq (tgt := 71) hx hb d_Pg_leaveUpTo_15 (by decide) (fun hc => ?_) (fun hc => ?_)
      · have hw := hw.1 hc
        exact hX z_this x1 x2 x3 x4 H locs ls (lv_sub hl [0, 1, 2, 3, 4] rfl) hP hD hS hw
      · have hw := hw.2 hc
        refine lv_aload_n hx hb d_Pg_leaveUpTo_18 rfl (lv_at hl 0 rfl) ?_
        refine lv_iload_n hx hb d_Pg_leaveUpTo_19 rfl (lv_at hl 3 rfl) ?_
        refine xq_go (wr := w_Kw k ad_this_keywords z_this_keywords) (stk := fun _ => []) (xq_runV (As := [.int x3]) (rest := []) ⟨hx, hb, hml, hown, hts⟩ (c_Pg_leave (l := l) (o := o) (D := D) (k := k) (ad_this := ad_this) (ad_this_nodes := ad_this_nodes) (q_this_keywords := (ad_this_keywords 0)) (q_this_names := q_this_names) hw) (cw_Pg_leave hts kw4_110 ⟨Nat.le_of_ble_eq_true rfl, Nat.le_of_ble_eq_true rfl⟩) (va_recv hK hP (ci := 7) (q0 := 0) rfl rfl) (hP.sub [0, 1, 4, 5, 6, 7, 8, 9, 10, 11, 12, 13, 14] rfl) hK hJ hS (va_free hD hS hA [0, 1, 4, 5, 6, 7, 8, 9, 10, 11, 12, 13, 14] rfl) ((hD.sub [0, 1, 4, 5, 6, 7, 8, 9, 10, 11, 12, 13, 14] (by decide) rfl).weaken (fun _ _ _ _ => trivial)) rfl hl.1 (Nat.le_of_ble_eq_true rfl) d_Pg_leaveUpTo_20 ⟨Nat.le_of_ble_eq_true rfl, Nat.le_of_ble_eq_true rfl⟩) hP hD hS hA [0, 1, 4, 5, 6, 7, 8, 9, 10, 11, 12, 13, 14] [2, 3] rfl rfl (by decide) (by decide) (fun _ => rfl) (fun r1 u1 H locs hw hP hD hS => ?_) (fun _ _ _ _ h9 => h9.elim)
        have hP : va_P D vwCl (w_Pg k ad_this (ad_this_keywords 0) q_this_names (ad_this_nodes 0) u1 ++ w_Kw k ad_this_keywords z_this_keywords ++ w_Nd k ad_this_nodes z_this_nodes) H := hP.sub [2, 3, 0, 1, 4, 5, 6, 7, 8, 9, 10, 11, 12, 13, 14] rfl
        have hD : va_D A (w_Pg k ad_this (ad_this_keywords 0) q_this_names (ad_this_nodes 0) u1 ++ w_Kw k ad_this_keywords z_this_keywords ++ w_Nd k ad_this_nodes z_this_nodes) := hD.sub [2, 3, 0, 1, 4, 5, 6, 7, 8, 9, 10, 11, 12, 13, 14] (by decide) rfl
        refine lv_iload_n hx hb d_Pg_leaveUpTo_23 rfl (lv_at hl 3 rfl) ?_
        refine lv_iload_n hx hb d_Pg_leaveUpTo_24 rfl (lv_at hl 1 rfl) ?_
        refine lv_icmp_ne (tgt := 30) hx hb d_Pg_leaveUpTo_25 (by decide) (fun hc => ?_) (fun hc => ?_)
        · have hw := hw.2 hc
          refine lv_aload_n hx hb d_Pg_leaveUpTo_30 rfl (lv_at hl 0 rfl) ?_
          refine va_get (D := D) (ci := 7) (v := .ref (ad_this_nodes 0)) (C := R_Pg) (T := F_Pg) (N := 5) hx hb hts in_Pg hown hK hP 0 rfl rfl 4 (by decide) (hts (.fieldLink R_Pg 32 R_Pg "nodes" "LStepText$Nodes;") kw2_32) (fun _ h9 => h9) rfl d_Pg_leaveUpTo_31 ?_
          refine lv_iload_n hx hb d_Pg_leaveUpTo_34 rfl (lv_at hl 3 rfl) ?_
          refine xq_go (wr := w_Pg k ad_this (ad_this_keywords 0) q_this_names (ad_this_nodes 0) u1 ++ w_Kw k ad_this_keywords z_this_keywords) (stk := fun r => .int r :: []) (xq_runV (As := [.int x3]) (rest := []) ⟨hx, hb, hml, hown, hts⟩ (c_Nd_nextOf (l := l) (o := o) (D := D) (k := k) (ad_this := ad_this_nodes) hw) (cw_Nd_nextOf hts kw4_115 ⟨Nat.le_of_ble_eq_true rfl, Nat.le_of_ble_eq_true rfl⟩) (va_recv hK hP (ci := 4) (q0 := 4) rfl rfl) (hP.sub [4, 5, 6, 7, 8, 9, 10, 11, 12, 13, 14] rfl) hK hJ hS (va_free hD hS hA [4, 5, 6, 7, 8, 9, 10, 11, 12, 13, 14] rfl) ((hD.sub [4, 5, 6, 7, 8, 9, 10, 11, 12, 13, 14] (by decide) rfl).weaken (fun _ _ _ _ => trivial)) rfl hl.1 (Nat.le_of_ble_eq_true rfl) d_Pg_leaveUpTo_35 ⟨Nat.le_of_ble_eq_true rfl, Nat.le_of_ble_eq_true rfl⟩) hP hD hS hA [4, 5, 6, 7, 8, 9, 10, 11, 12, 13, 14] [0, 1, 2, 3] rfl rfl (by decide) (by decide) (fun _ => rfl) (fun r2 u2 H locs hw hP hD hS => ?_) (fun _ _ _ _ h9 => h9.elim)
          have hP : va_P D vwCl (w_Pg k ad_this (ad_this_keywords 0) q_this_names (ad_this_nodes 0) u1 ++ w_Kw k ad_this_keywords z_this_keywords ++ w_Nd k ad_this_nodes z_this_nodes) H := hP.sub [0, 1, 2, 3, 4, 5, 6, 7, 8, 9, 10, 11, 12, 13, 14] rfl
          have hD : va_D A (w_Pg k ad_this (ad_this_keywords 0) q_this_names (ad_this_nodes 0) u1 ++ w_Kw k ad_this_keywords z_this_keywords ++ w_Nd k ad_this_nodes z_this_nodes) := hD.sub [0, 1, 2, 3, 4, 5, 6, 7, 8, 9, 10, 11, 12, 13, 14] (by decide) rfl
          refine lv_iconst (v := (-1 : Int32)) hx hb d_Pg_leaveUpTo_38 (by decide) ?_
          refine lv_icmp_eq (tgt := 56) hx hb d_Pg_leaveUpTo_39 (by decide) (fun hc => ?_) (fun hc => ?_)
          · have hw := hw.1 hc
            refine lv_aload_n hx hb d_Pg_leaveUpTo_56 rfl (lv_at hl 0 rfl) ?_
            refine va_get (D := D) (ci := 7) (v := .ref (ad_this_nodes 0)) (C := R_Pg) (T := F_Pg) (N := 5) hx hb hts in_Pg hown hK hP 0 rfl rfl 4 (by decide) (hts (.fieldLink R_Pg 32 R_Pg "nodes" "LStepText$Nodes;") kw2_32) (fun _ h9 => h9) rfl d_Pg_leaveUpTo_57 ?_
            refine lv_iload_n hx hb d_Pg_leaveUpTo_60 rfl (lv_at hl 3 rfl) ?_
            refine xq_go (wr := w_Pg k ad_this (ad_this_keywords 0) q_this_names (ad_this_nodes 0) u1 ++ w_Kw k ad_this_keywords z_this_keywords) (stk := fun r => .int r :: []) (xq_runV (As := [.int x3]) (rest := []) ⟨hx, hb, hml, hown, hts⟩ (c_Nd_parentOf (l := l) (o := o) (D := D) (k := k) (ad_this := ad_this_nodes) hw) (cw_Nd_parentOf hts kw4_99 ⟨Nat.le_of_ble_eq_true rfl, Nat.le_of_ble_eq_true rfl⟩) (va_recv hK hP (ci := 4) (q0 := 4) rfl rfl) (hP.sub [4, 5, 6, 7, 8, 9, 10, 11, 12, 13, 14] rfl) hK hJ hS (va_free hD hS hA [4, 5, 6, 7, 8, 9, 10, 11, 12, 13, 14] rfl) ((hD.sub [4, 5, 6, 7, 8, 9, 10, 11, 12, 13, 14] (by decide) rfl).weaken (fun _ _ _ _ => trivial)) rfl hl.1 (Nat.le_of_ble_eq_true rfl) d_Pg_leaveUpTo_61 ⟨Nat.le_of_ble_eq_true rfl, Nat.le_of_ble_eq_true rfl⟩) hP hD hS hA [4, 5, 6, 7, 8, 9, 10, 11, 12, 13, 14] [0, 1, 2, 3] rfl rfl (by decide) (by decide) (fun _ => rfl) (fun r3 u3 H locs hw hP hD hS => ?_) (fun _ _ _ _ h9 => h9.elim)
            have hP : va_P D vwCl (w_Pg k ad_this (ad_this_keywords 0) q_this_names (ad_this_nodes 0) u1 ++ w_Kw k ad_this_keywords z_this_keywords ++ w_Nd k ad_this_nodes z_this_nodes) H := hP.sub [0, 1, 2, 3, 4, 5, 6, 7, 8, 9, 10, 11, 12, 13, 14] rfl
            have hD : va_D A (w_Pg k ad_this (ad_this_keywords 0) q_this_names (ad_this_nodes 0) u1 ++ w_Kw k ad_this_keywords z_this_keywords ++ w_Nd k ad_this_nodes z_this_nodes) := hD.sub [0, 1, 2, 3, 4, 5, 6, 7, 8, 9, 10, 11, 12, 13, 14] (by decide) rfl
            refine lv_istore_n (lv' := [(3, .int r3), (0, .ref (ad_this 0)), (1, .int x1), (2, .int x2), (4, .int x4)]) hx hb d_Pg_leaveUpTo_64 rfl hl (by decide) rfl (fun ls hl => ?_)
            refine lv_iinc (v := (x4 + (1 : Int32))) (lv' := [(4, .int (x4 + (1 : Int32))), (3, .int r3), (0, .ref (ad_this 0)), (1, .int x1), (2, .int x2)]) hx hb d_Pg_leaveUpTo_65 hl (k := 4) rfl rfl (by decide) rfl (fun ls hl => ?_)
            refine lv_goto (tgt := 5) hx hb d_Pg_leaveUpTo_68 (by decide) ?_
            exact ih u1 x1 x2 r3 (x4 + (1 : Int32)) H locs ls (lv_sub hl [2, 3, 4, 1, 0] rfl) hP hD hS hw
          · have hw := hw.2 hc
            refine lv_aload_n hx hb d_Pg_leaveUpTo_42 rfl (lv_at hl 0 rfl) ?_
            refine lv_iload_n hx hb d_Pg_leaveUpTo_43 rfl (lv_at hl 3 rfl) ?_
            refine xq_go (wr := ([] : va_W)) (stk := fun _ => []) (xq_runV (As := [.int x3]) (rest := []) ⟨hx, hb, hml, hown, hts⟩ (c_Pg_putBehind (l := l) (o := o) (D := D) (k := k) (ad_this := ad_this) (ad_this_keywords := ad_this_keywords) (ad_this_nodes := ad_this_nodes) (q_this_names := q_this_names) hw) (cw_Pg_putBehind hts kw4_116 ⟨Nat.le_of_ble_eq_true rfl, Nat.le_of_ble_eq_true rfl⟩) (va_recv hK hP (ci := 7) (q0 := 0) rfl rfl) (hP.sub [0, 1, 2, 3, 4, 5, 6, 7, 8, 9, 10, 11, 12, 13, 14] rfl) hK hJ hS (va_free hD hS hA [0, 1, 2, 3, 4, 5, 6, 7, 8, 9, 10, 11, 12, 13, 14] rfl) ((hD.sub [0, 1, 2, 3, 4, 5, 6, 7, 8, 9, 10, 11, 12, 13, 14] (by decide) rfl).weaken (fun _ _ _ _ => trivial)) rfl hl.1 (Nat.le_of_ble_eq_true rfl) d_Pg_leaveUpTo_44 ⟨Nat.le_of_ble_eq_true rfl, Nat.le_of_ble_eq_true rfl⟩) hP hD hS hA [0, 1, 2, 3, 4, 5, 6, 7, 8, 9, 10, 11, 12, 13, 14] [] rfl rfl (by decide) (by decide) (fun _ => rfl) (fun r4 u4 H locs hw hP hD hS => ?_) (fun _ _ _ _ h9 => h9.elim)
            have hP : va_P D vwCl (w_Pg k ad_this (ad_this_keywords 0) q_this_names (ad_this_nodes 0) u4 ++ w_Kw k ad_this_keywords z_this_keywords ++ w_Nd k ad_this_nodes z_this_nodes) H := hP.sub [0, 1, 2, 3, 4, 5, 6, 7, 8, 9, 10, 11, 12, 13, 14] rfl
            have hD : va_D A (w_Pg k ad_this (ad_this_keywords 0) q_this_names (ad_this_nodes 0) u4 ++ w_Kw k ad_this_keywords z_this_keywords ++ w_Nd k ad_this_nodes z_this_nodes) := hD.sub [0, 1, 2, 3, 4, 5, 6, 7, 8, 9, 10, 11, 12, 13, 14] (by decide) rfl
            refine lv_aload_n hx hb d_Pg_leaveUpTo_47 rfl (lv_at hl 0 rfl) ?_
            refine va_get (D := D) (ci := 7) (v := .ref (ad_this_nodes 0)) (C := R_Pg) (T := F_Pg) (N := 5) hx hb hts in_Pg hown hK hP 0 rfl rfl 4 (by decide) (hts (.fieldLink R_Pg 32 R_Pg "nodes" "LStepText$Nodes;") kw2_32) (fun _ h9 => h9) rfl d_Pg_leaveUpTo_48 ?_
            refine lv_iload_n hx hb d_Pg_leaveUpTo_51 rfl (lv_at hl 3 rfl) ?_
            refine xq_go (wr := w_Pg k ad_this (ad_this_keywords 0) q_this_names (ad_this_nodes 0) u4 ++ w_Kw k ad_this_keywords z_this_keywords) (stk := fun r => .int r :: []) (xq_runV (As := [.int x3]) (rest := []) ⟨hx, hb, hml, hown, hts⟩ (c_Nd_nextOf (l := l) (o := o) (D := D) (k := k) (ad_this := ad_this_nodes) hw) (cw_Nd_nextOf hts kw4_115 ⟨Nat.le_of_ble_eq_true rfl, Nat.le_of_ble_eq_true rfl⟩) (va_recv hK hP (ci := 4) (q0 := 4) rfl rfl) (hP.sub [4, 5, 6, 7, 8, 9, 10, 11, 12, 13, 14] rfl) hK hJ hS (va_free hD hS hA [4, 5, 6, 7, 8, 9, 10, 11, 12, 13, 14] rfl) ((hD.sub [4, 5, 6, 7, 8, 9, 10, 11, 12, 13, 14] (by decide) rfl).weaken (fun _ _ _ _ => trivial)) rfl hl.1 (Nat.le_of_ble_eq_true rfl) d_Pg_leaveUpTo_52 ⟨Nat.le_of_ble_eq_true rfl, Nat.le_of_ble_eq_true rfl⟩) hP hD hS hA [4, 5, 6, 7, 8, 9, 10, 11, 12, 13, 14] [0, 1, 2, 3] rfl rfl (by decide) (by decide) (fun _ => rfl) (fun r5 u5 H locs hw hP hD hS => ?_) (fun _ _ _ _ h9 => h9.elim)
            have hP : va_P D vwCl (w_Pg k ad_this (ad_this_keywords 0) q_this_names (ad_this_nodes 0) u4 ++ w_Kw k ad_this_keywords z_this_keywords ++ w_Nd k ad_this_nodes z_this_nodes) H := hP.sub [0, 1, 2, 3, 4, 5, 6, 7, 8, 9, 10, 11, 12, 13, 14] rfl
            have hD : va_D A (w_Pg k ad_this (ad_this_keywords 0) q_this_names (ad_this_nodes 0) u4 ++ w_Kw k ad_this_keywords z_this_keywords ++ w_Nd k ad_this_nodes z_this_nodes) := hD.sub [0, 1, 2, 3, 4, 5, 6, 7, 8, 9, 10, 11, 12, 13, 14] (by decide) rfl
            exact xq_iret (r := r5) (u := u4) hx hb hr hlocks hAe hP hD hS rfl hw (Nat.le_of_ble_eq_true rfl) (Nat.le_of_ble_eq_true rfl) d_Pg_leaveUpTo_55
        · have hw := hw.1 hc
          refine lv_iconst (v := (-1 : Int32)) hx hb d_Pg_leaveUpTo_28 (by decide) ?_
          exact xq_iret (r := (-1 : Int32)) (u := u1) hx hb hr hlocks hAe hP hD hS rfl hw (Nat.le_of_ble_eq_true rfl) (Nat.le_of_ble_eq_true rfl) d_Pg_leaveUpTo_29
set_option maxHeartbeats 4000000 in
set_option maxRecDepth 100000 in
theorem c_Pg_leaveUpTo {l : Launch} {o : State × Array Value} {D : va_G} {k : Nat → ClassId} {ad_this : Nat → Nat} {ad_this_keywords : Nat → Nat} {ad_this_nodes : Nat → Nat} {q_this_names : Nat} {z_this : T_Pg} {z_this_keywords : T_Kw} {z_this_nodes : T_Nd} {a1 : Int32} {a2 : Int32} {post : Int32 → T_Pg → Prop} (hw : wp_Pg_leaveUpTo z_this z_this_keywords z_this_nodes a1 a2 post) : xq_C l o y_Pg_leaveUpTo (.code y_Pg_leaveUpTo prog_6_method_6_code 5 (some (.int)) :: xq_W) rm_Pg_leaveUpTo D vwCl (xt k) [.ref (ad_this 0), .int a1, .int a2] (w_Pg k ad_this (ad_this_keywords 0) q_this_names (ad_this_nodes 0) z_this ++ w_Kw k ad_this_keywords z_this_keywords ++ w_Nd k ad_this_nodes z_this_nodes) (fun r : Int32 => some (.int r)) post (fun _ : T_Pg => False) (fun u : T_Pg => w_Pg k ad_this (ad_this_keywords 0) q_this_names (ad_this_nodes 0) u ++ w_Kw k ad_this_keywords z_this_keywords ++ w_Nd k ad_this_nodes z_this_nodes) 0 0 0 0 := by
  refine xq_ofW (cc := prog_6_method_6_code) (maxL := 5) (ret := (some (.int))) (by decide) rfl (Nat.le_of_ble_eq_true rfl) ?_
  intro p e s m below meth c ls H locs A hAt hAe hA hl hK hJ hP0 hP hD hS
  obtain ⟨hx, hb, hml, hr, hlocks, hown, hts, hex, hnm⟩ := id hAt
  have hl : lv_has ls 5 [(0, .ref (ad_this 0)), (1, .int a1), (2, .int a2)] := hl
  unfold wp_Pg_leaveUpTo at hw
  refine lv_iload_n hx hb d_Pg_leaveUpTo_0 rfl (lv_at hl 2 rfl) ?_
  refine lv_istore_n (lv' := [(3, .int a2), (0, .ref (ad_this 0)), (1, .int a1), (2, .int a2)]) hx hb d_Pg_leaveUpTo_1 rfl hl (by decide) rfl (fun ls hl => ?_)
  refine lv_iconst (v := (0 : Int32)) hx hb d_Pg_leaveUpTo_2 (by decide) ?_
  refine lv_istore (lv' := [(4, .int (0 : Int32)), (3, .int a2), (0, .ref (ad_this 0)), (1, .int a1), (2, .int a2)]) hx hb d_Pg_leaveUpTo_3 hl (by decide) rfl (fun ls hl => ?_)
  obtain ⟨k9, hw⟩ := hw
  refine t_Pg_leaveUpTo_L5 hAt hK hJ hAe hA ?_ k9 z_this a1 a2 a2 (0 : Int32) H locs ls (lv_sub hl [2, 3, 4, 1, 0] rfl) hP hD hS hw
  intro z_this x1 x2 x3 x4 H locs ls hl hP hD hS hw
  refine lv_iconst (v := (-1 : Int32)) hx hb d_Pg_leaveUpTo_71 (by decide) ?_
  exact xq_iret (r := (-1 : Int32)) (u := z_this) hx hb hr hlocks hAe hP hD hS rfl hw (Nat.le_of_ble_eq_true rfl) (Nat.le_of_ble_eq_true rfl) d_Pg_leaveUpTo_72
theorem cw_Pg_leaveUpTo {R : Room} {s : State} {args : Array Value} {own : String} {index : Nat} (hts : ∀ w ∈ xq_W, w.before args s = true) (hl : .methodLink own index y_Pg_leaveUpTo ∈ xq_W) {rm : Room} (hR : rm.frames + 1 ≤ R.frames ∧ 8 + (5 + 11) + rm.locals ≤ R.locals) : CallW R s args own "StepText$Page" index y_Pg_leaveUpTo prog_6_method_6_code 5 (some (.int)) (.code y_Pg_leaveUpTo prog_6_method_6_code 5 (some (.int)) :: xq_W) rm rm.cells rm.slots 2 := ⟨xq_cb 2 hts kw4_109 kw1_12 hl ⟨by decide, by decide, by decide +kernel⟩ hR, hts _ kw4_108, hts _ kp3_15⟩
def y_Pg_layNode : MethodName := ⟨"StepText$Page", "layNode", "(I)V"⟩
theorem d_Pg_layNode_0 : decode prog_6_method_5_code 0 = .ok (.iload_n 1, 1) := by decide +kernel
theorem d_Pg_layNode_1 : decode prog_6_method_5_code 1 = .ok (.istore_n 2, 1) := by decide +kernel
theorem d_Pg_layNode_2 : decode prog_6_method_5_code 2 = .ok (.iconst 0, 1) := by decide +kernel
theorem d_Pg_layNode_3 : decode prog_6_method_5_code 3 = .ok (.istore_n 3, 1) := by decide +kernel
theorem d_Pg_layNode_4 : decode prog_6_method_5_code 4 = .ok (.iload_n 3, 1) := by decide +kernel
theorem d_Pg_layNode_5 : decode prog_6_method_5_code 5 = .ok (.sipush 1000, 3) := by decide +kernel
theorem d_Pg_layNode_8 : decode prog_6_method_5_code 8 = .ok (.if_icmp .ge 47, 3) := by decide +kernel
theorem d_Pg_layNode_11 : decode prog_6_method_5_code 11 = .ok (.iload_n 2, 1) := by decide +kernel
theorem d_Pg_layNode_12 : decode prog_6_method_5_code 12 = .ok (.iconst (-1), 1) := by decide +kernel
theorem d_Pg_layNode_13 : decode prog_6_method_5_code 13 = .ok (.if_icmp .eq 42, 3) := by decide +kernel
theorem d_Pg_layNode_16 : decode prog_6_method_5_code 16 = .ok (.aload_n 0, 1) := by decide +kernel
theorem d_Pg_layNode_17 : decode prog_6_method_5_code 17 = .ok (.iload_n 2, 1) := by decide +kernel
theorem d_Pg_layNode_18 : decode prog_6_method_5_code 18 = .ok (.invokevirtual 88, 3) := by decide +kernel
theorem d_Pg_layNode_21 : decode prog_6_method_5_code 21 = .ok (.aload_n 0, 1) := by decide +kernel
theorem d_Pg_layNode_22 : decode prog_6_method_5_code 22 = .ok (.getfield 32, 3) := by decide +kernel
theorem d_Pg_layNode_25 : decode prog_6_method_5_code 25 = .ok (.iload_n 2, 1) := by decide +kernel
theorem d_Pg_layNode_26 : decode prog_6_method_5_code 26 = .ok (.invokevirtual 39, 3) := by decide +kernel
theorem d_Pg_layNode_29 : decode prog_6_method_5_code 29 = .ok (.istore 4, 2) := by decide +kernel
theorem d_Pg_layNode_31 : decode prog_6_method_5_code 31 = .ok (.iload 4, 2) := by decide +kernel
theorem d_Pg_layNode_33 : decode prog_6_method_5_code 33 = .ok (.iconst (-1), 1) := by decide +kernel
theorem d_Pg_layNode_34 : decode prog_6_method_5_code 34 = .ok (.if_icmp .eq 8, 3) := by decide +kernel
theorem d_Pg_layNode_37 : decode prog_6_method_5_code 37 = .ok (.iload 4, 2) := by decide +kernel
theorem d_Pg_layNode_39 : decode prog_6_method_5_code 39 = .ok (.goto 9, 3) := by decide +kernel
theorem d_Pg_layNode_42 : decode prog_6_method_5_code 42 = .ok (.aload_n 0, 1) := by decide +kernel
theorem d_Pg_layNode_43 : decode prog_6_method_5_code 43 = .ok (.iload_n 1, 1) := by decide +kernel
theorem d_Pg_layNode_44 : decode prog_6_method_5_code 44 = .ok (.iload_n 2, 1) := by decide +kernel
theorem d_Pg_layNode_45 : decode prog_6_method_5_code 45 = .ok (.invokevirtual 91, 3) := by decide +kernel
theorem d_Pg_layNode_48 : decode prog_6_method_5_code 48 = .ok (.istore_n 2, 1) := by decide +kernel
theorem d_Pg_layNode_49 : decode prog_6_method_5_code 49 = .ok (.iinc 3 1, 3) := by decide +kernel
theorem d_Pg_layNode_52 : decode prog_6_method_5_code 52 = .ok (.goto (-48), 3) := by decide +kernel
theorem d_Pg_layNode_55 : decode prog_6_method_5_code 55 = .ok (.return_, 1) := by decide +kernel
def wp_Pg_layNode_L4 (z_this_keywords : T_Kw) (z_this_names : T_Nm) (z_this_nodes : T_Nd) (K : T_Pg → Int32 → Int32 → Int32 → Prop) (post : Unit → T_Pg → Prop) : Nat → T_Pg → Int32 → Int32 → Int32 → Prop
  | 0, _, _, _, _ => False
  | n9 + 1, z_this, x1, x2, x3 => ((1000 : Int32) ≤ x3 → (K z_this x1 x2 x3)) ∧ (¬ (1000 : Int32) ≤ x3 → ((x2 = (-1 : Int32) → (K z_this x1 x2 x3)) ∧ (¬ x2 = (-1 : Int32) → (wp_Pg_enter z_this z_this_keywords z_this_names z_this_nodes x2 (fun (r1 : Unit) (u1 : T_Pg) => wp_Nd_firstOf z_this_nodes x2 (fun (r2 : Int32) (u2 : Unit) => (r2 = (-1 : Int32) → (wp_Pg_leaveUpTo u1 z_this_keywords z_this_nodes x1 x2 (fun (r3 : Int32) (u3 : T_Pg) => wp_Pg_layNode_L4 z_this_keywords z_this_names z_this_nodes K post n9 u3 x1 r3 (x3 + (1 : Int32))))) ∧ (¬ r2 = (-1 : Int32) → (wp_Pg_layNode_L4 z_this_keywords z_this_names z_this_nodes K post n9 u1 x1 r2 (x3 + (1 : Int32))))))))))
def wp_Pg_layNode (z_this : T_Pg) (z_this_keywords : T_Kw) (z_this_names : T_Nm) (z_this_nodes : T_Nd) (a1 : Int32) (post : Unit → T_Pg → Prop) : Prop := ∃ k9 : Nat, wp_Pg_layNode_L4 z_this_keywords z_this_names z_this_nodes (fun (z_this : T_Pg) (x1 : Int32) (x2 : Int32) (x3 : Int32) => post () z_this) post k9 z_this a1 a1 (0 : Int32)
def rm_Pg_layNode : Room := { frames := 7, cells := 0, slots := 0, locals := 177 }
set_option maxHeartbeats 4000000 in
set_option maxRecDepth 100000 in
theorem t_Pg_layNode_L4 {p : Program} {l : Launch} {o : State × Array Value} {e : Env} {s : State} {m : MethodId} {args : Array Value} {below : List Frame} {meth : Method} {c : Code} {D : va_G} {k : Nat → ClassId} {w0 : va_W} {A : Nat → Prop} {ad_this : Nat → Nat} {ad_this_keywords : Nat → Nat} {ad_this_names : Nat → Nat} {ad_this_nodes : Nat → Nat} {z_this_keywords : T_Kw} {z_this_names : T_Nm} {z_this_nodes : T_Nd} {post : Unit → T_Pg → Prop} (hAt : xq_At p s m args meth c prog_6_method_5_code 5 none y_Pg_layNode xq_W) (hK : va_K D vwCl (xt k) s) (hJ : xq_J l o A s s.heap) (hAe : va_A w0 s.heap.size = A) (hA : ∀ q, s.heap.size ≤ q → A q) {K : T_Pg → Int32 → Int32 → Int32 → Prop} (hX : ∀ (z_this : T_Pg) (x1 : Int32) (x2 : Int32) (x3 : Int32) (H : Heap) (locs : List Loc) (ls : Array Slot), lv_has ls 5 [(0, .ref (ad_this 0)), (1, .int x1), (2, .int x2), (3, .int x3)] → va_P D vwCl (w_Pg k ad_this (ad_this_keywords 0) (ad_this_names 0) (ad_this_nodes 0) z_this ++ w_Kw k ad_this_keywords z_this_keywords ++ w_Nm k ad_this_names z_this_names ++ w_Nd k ad_this_nodes z_this_nodes) H → va_D A (w_Pg k ad_this (ad_this_keywords 0) (ad_this_names 0) (ad_this_nodes 0) z_this ++ w_Kw k ad_this_keywords z_this_keywords ++ w_Nm k ad_this_names z_this_names ++ w_Nd k ad_this_nodes z_this_nodes) → va_S A s.heap H locs → K z_this x1 x2 x3 → W p l e rm_Pg_layNode s m args below meth c H locs 0 0 (xq_Z below D vwCl (xt k) w0 (fun _ : Unit => none) post (fun _ : T_Pg => False) (fun u : T_Pg => w_Pg k ad_this (ad_this_keywords 0) (ad_this_names 0) (ad_this_nodes 0) u ++ w_Kw k ad_this_keywords z_this_keywords ++ w_Nm k ad_this_names z_this_names ++ w_Nd k ad_this_nodes z_this_nodes) 0 0 0 0 s) (F0 m 55 ls [])) :
    ∀ (n9 : Nat) (z_this : T_Pg) (x1 : Int32) (x2 : Int32) (x3 : Int32) (H : Heap) (locs : List Loc) (ls : Array Slot), lv_has ls 5 [(0, .ref (ad_this 0)), (1, .int x1), (2, .int x2), (3, .int x3)] → va_P D vwCl (w_Pg k ad_this (ad_this_keywords 0) (ad_this_names 0) (ad_this_nodes 0) z_this ++ w_Kw k ad_this_keywords z_this_keywords ++ w_Nm k ad_this_names z_this_names ++ w_Nd k ad_this_nodes z_this_nodes) H → va_D A (w_Pg k ad_this (ad_this_keywords 0) (ad_this_names 0) (ad_this_nodes 0) z_this ++ w_Kw k ad_this_keywords z_this_keywords ++ w_Nm k ad_this_names z_this_names ++ w_Nd k ad_this_nodes z_this_nodes) → va_S A s.heap H locs → wp_Pg_layNode_L4 z_this_keywords z_this_names z_this_nodes K post n9 z_this x1 x2 x3 → W p l e rm_Pg_layNode s m args below meth c H locs 0 0 (xq_Z below D vwCl (xt k) w0 (fun _ : Unit => none) post (fun _ : T_Pg => False) (fun u : T_Pg => w_Pg k ad_this (ad_this_keywords 0) (ad_this_names 0) (ad_this_nodes 0) u ++ w_Kw k ad_this_keywords z_this_keywords ++ w_Nm k ad_this_names z_this_names ++ w_Nd k ad_this_nodes z_this_nodes) 0 0 0 0 s) (F0 m 4 ls []) := by
  obtain ⟨hx, hb, hml, hr, hlocks, hown, hts, hex, hnm⟩ := id hAt
  intro n9
  induction n9 with
  | zero => intro z_this x1 x2 x3 H locs ls hl hP hD hS hw; exact False.elim (by rw [wp_Pg_layNode_L4] at hw; exact hw)
  | succ n9 ih =>
    intro z_this x1 x2 x3 H locs ls hl hP hD hS hw
    rw [wp_Pg_layNode_L4] at hw
    refine lv_iload_n hx hb d_Pg_layNode_4 rfl (lv_at hl 3 rfl) ?_
    refine lv_sipush (v := (1000 : Int32)) hx hb d_Pg_layNode_5 (by decide) ?_
    refine lv_icmp_ge (tgt := 55) hx hb d_Pg_layNode_8 (by decide) (fun hc => ?_) (fun hc => ?_)
    · have hw := hw.1 hc
      exact hX z_this x1 x2 x3 H locs ls (lv_sub hl [0, 1, 2, 3] rfl) hP hD hS hw
    · have hw := hw.2 hc
      refine lv_iload_n hx hb d_Pg_layNode_11 rfl (lv_at hl 2 rfl) ?_
      refine lv_iconst (v := (-1 : Int32)) hx hb d_Pg_layNode_12 (by decide) ?_
      refine lv_icmp_eq (tgt := 55) hx hb d_Pg_layNode_13 (by decide) (fun hc => ?_) (fun hc => ?_)
      · have hw := hw.1 hc
        exact hX z_this x1 x2 x3 H locs ls (lv_sub hl [0, 1, 2, 3] rfl) hP hD hS hw
      · have hw := hw.2 hc
        refine lv_aload_n hx hb d_Pg_layNode_16 rfl (lv_at hl 0 rfl) ?_
        refine lv_iload_n hx hb d_Pg_layNode_17 rfl (lv_at hl 2 rfl) ?_
        refine xq_go (wr := ([] : va_W)) (stk := fun _ => []) (xq_runV (As := [.int x2]) (rest := []) ⟨hx, hb, hml, hown, hts⟩ (c_Pg_enter (l := l) (o := o) (D := D) (k := k) (ad_this := ad_this) (ad_this_keywords := ad_this_keywords) (ad_this_names := ad_this_names) (ad_this_nodes := ad_this_nodes) hw) (cw_Pg_enter hts kw4_36 ⟨Nat.le_of_ble_eq_true rfl, Nat.le_of_ble_eq_true rfl⟩) (va_recv hK hP (ci := 7) (q0 := 0) rfl rfl) (hP.sub [0, 1, 2, 3, 4, 5, 6, 7, 8, 9, 10, 11, 12, 13, 14, 15, 16, 17, 18, 19] rfl) hK hJ hS (va_free hD hS hA [0, 1, 2, 3, 4, 5, 6, 7, 8, 9, 10, 11, 12, 13, 14, 15, 16, 17, 18, 19] rfl) ((hD.sub [0, 1, 2, 3, 4, 5, 6, 7, 8, 9, 10, 11, 12, 13, 14, 15, 16, 17, 18, 19] (by decide) rfl).weaken (fun _ _ _ _ => trivial)) rfl hl.1 (Nat.le_of_ble_eq_true rfl) d_Pg_layNode_18 ⟨Nat.le_of_ble_eq_true rfl, Nat.le_of_ble_eq_true rfl⟩) hP hD hS hA [0, 1, 2, 3, 4, 5, 6, 7, 8, 9, 10, 11, 12, 13, 14, 15, 16, 17, 18, 19] [] rfl rfl (by decide) (by decide) (fun _ => rfl) (fun r1 u1 H locs hw hP hD hS => ?_) (fun _ _ _ _ h9 => h9.elim)
        have hP : va_P D vwCl (w_Pg k ad_this (ad_this_keywords 0) (ad_this_names 0) (ad_this_nodes 0) u1 ++ w_Kw k ad_this_keywords z_this_keywords ++ w_Nm k ad_this_names z_this_names ++ w_Nd k ad_this_nodes z_this_nodes) H := hP.sub [0, 1, 2, 3, 4, 5, 6, 7, 8, 9, 10, 11, 12, 13, 14, 15, 16, 17, 18, 19] rfl
        have hD : va_D A (w_Pg k ad_this (ad_this_keywords 0) (ad_this_names 0) (ad_this_nodes 0) u1 ++ w_Kw k ad_this_keywords z_this_keywords ++ w_Nm k ad_this_names z_this_names ++ w_Nd k ad_this_nodes z_this_nodes) := hD.sub [0, 1, 2, 3, 4, 5, 6, 7, 8, 9, 10, 11, 12, 13, 14, 15, 16, 17, 18, 19] (by decide) rfl
        refine lv_aload_n hx hb d_Pg_layNode_21 rfl (lv_at hl 0 rfl) ?_
        refine va_get (D := D) (ci := 7) (v := .ref (ad_this_nodes 0)) (C := R_Pg) (T := F_Pg) (N := 5) hx hb hts in_Pg hown hK hP 0 rfl rfl 4 (by decide) (hts (.fieldLink R_Pg 32 R_Pg "nodes" "LStepText$Nodes;") kw2_32) (fun _ h9 => h9) rfl d_Pg_layNode_22 ?_
        refine lv_iload_n hx hb d_Pg_layNode_25 rfl (lv_at hl 2 rfl) ?_
        refine xq_go (wr := w_Pg k ad_this (ad_this_keywords 0) (ad_this_names 0) (ad_this_nodes 0) u1 ++ w_Kw k ad_this_keywords z_this_keywords ++ w_Nm k ad_this_names z_this_names) (stk := fun r => .int r :: []) (xq_runV (As := [.int x2]) (rest := []) ⟨hx, hb, hml, hown, hts⟩ (c_Nd_firstOf (l := l) (o := o) (D := D) (k := k) (ad_this := ad_this_nodes) hw) (cw_Nd_firstOf hts kw4_29 ⟨Nat.le_of_ble_eq_true rfl, Nat.le_of_ble_eq_true rfl⟩) (va_recv hK hP (ci := 4) (q0 := 9) rfl rfl) (hP.sub [9, 10, 11, 12, 13, 14, 15, 16, 17, 18, 19] rfl) hK hJ hS (va_free hD hS hA [9, 10, 11, 12, 13, 14, 15, 16, 17, 18, 19] rfl) ((hD.sub [9, 10, 11, 12, 13, 14, 15, 16, 17, 18, 19] (by decide) rfl).weaken (fun _ _ _ _ => trivial)) rfl hl.1 (Nat.le_of_ble_eq_true rfl) d_Pg_layNode_26 ⟨Nat.le_of_ble_eq_true rfl, Nat.le_of_ble_eq_true rfl⟩) hP hD hS hA [9, 10, 11, 12, 13, 14, 15, 16, 17, 18, 19] [0, 1, 2, 3, 4, 5, 6, 7, 8] rfl rfl (by decide) (by decide) (fun _ => rfl) (fun r2 u2 H locs hw hP hD hS => ?_) (fun _ _ _ _ h9 => h9.elim)
        have hP : va_P D vwCl (w_Pg k ad_this (ad_this_keywords 0) (ad_this_names 0) (ad_this_nodes 0) u1 ++ w_Kw k ad_this_keywords z_this_keywords ++ w_Nm k ad_this_names z_this_names ++ w_Nd k ad_this_nodes z_this_nodes) H := hP.sub [0, 1, 2, 3, 4, 5, 6, 7, 8, 9, 10, 11, 12, 13, 14, 15, 16, 17, 18, 19] rfl
        have hD : va_D A (w_Pg k ad_this (ad_this_keywords 0) (ad_this_names 0) (ad_this_nodes 0) u1 ++ w_Kw k ad_this_keywords z_this_keywords ++ w_Nm k ad_this_names z_this_names ++ w_Nd k ad_this_nodes z_this_nodes) := hD.sub [0, 1, 2, 3, 4, 5, 6, 7, 8, 9, 10, 11, 12, 13, 14, 15, 16, 17, 18, 19] (by decide) rfl
        refine lv_istore (lv' := [(4, .int r2), (0, .ref (ad_this 0)), (1, .int x1), (2, .int x2), (3, .int x3)]) hx hb d_Pg_layNode_29 hl (by decide) rfl (fun ls hl => ?_)
        refine lv_iload hx hb d_Pg_layNode_31 (lv_at hl 0 rfl) ?_
        refine lv_iconst (v := (-1 : Int32)) hx hb d_Pg_layNode_33 (by decide) ?_
        refine lv_icmp_eq (tgt := 42) hx hb d_Pg_layNode_34 (by decide) (fun hc => ?_) (fun hc => ?_)
        · have hw := hw.1 hc
          refine lv_aload_n hx hb d_Pg_layNode_42 rfl (lv_at hl 1 rfl) ?_
          refine lv_iload_n hx hb d_Pg_layNode_43 rfl (lv_at hl 2 rfl) ?_
          refine lv_iload_n hx hb d_Pg_layNode_44 rfl (lv_at hl 3 rfl) ?_
          refine xq_go (wr := w_Nm k ad_this_names z_this_names) (stk := fun r => .int r :: []) (xq_runV (As := [.int x1, .int x2]) (rest := []) ⟨hx, hb, hml, hown, hts⟩ (c_Pg_leaveUpTo (l := l) (o := o) (D := D) (k := k) (ad_this := ad_this) (ad_this_keywords := ad_this_keywords) (ad_this_nodes := ad_this_nodes) (q_this_names := (ad_this_names 0)) hw) (cw_Pg_leaveUpTo hts kw4_106 ⟨Nat.le_of_ble_eq_true rfl, Nat.le_of_ble_eq_true rfl⟩) (va_recv hK hP (ci := 7) (q0 := 0) rfl rfl) (hP.sub [0, 1, 2, 3, 9, 10, 11, 12, 13, 14, 15, 16, 17, 18, 19] rfl) hK hJ hS (va_free hD hS hA [0, 1, 2, 3, 9, 10, 11, 12, 13, 14, 15, 16, 17, 18, 19] rfl) ((hD.sub [0, 1, 2, 3, 9, 10, 11, 12, 13, 14, 15, 16, 17, 18, 19] (by decide) rfl).weaken (fun _ _ _ _ => trivial)) rfl hl.1 (Nat.le_of_ble_eq_true rfl) d_Pg_layNode_45 ⟨Nat.le_of_ble_eq_true rfl, Nat.le_of_ble_eq_true rfl⟩) hP hD hS hA [0, 1, 2, 3, 9, 10, 11, 12, 13, 14, 15, 16, 17, 18, 19] [4, 5, 6, 7, 8] rfl rfl (by decide) (by decide) (fun _ => rfl) (fun r3 u3 H locs hw hP hD hS => ?_) (fun _ _ _ _ h9 => h9.elim)
          have hP : va_P D vwCl (w_Pg k ad_this (ad_this_keywords 0) (ad_this_names 0) (ad_this_nodes 0) u3 ++ w_Kw k ad_this_keywords z_this_keywords ++ w_Nm k ad_this_names z_this_names ++ w_Nd k ad_this_nodes z_this_nodes) H := hP.sub [5, 6, 7, 8, 0, 1, 2, 3, 4, 9, 10, 11, 12, 13, 14, 15, 16, 17, 18, 19] rfl
          have hD : va_D A (w_Pg k ad_this (ad_this_keywords 0) (ad_this_names 0) (ad_this_nodes 0) u3 ++ w_Kw k ad_this_keywords z_this_keywords ++ w_Nm k ad_this_names z_this_names ++ w_Nd k ad_this_nodes z_this_nodes) := hD.sub [5, 6, 7, 8, 0, 1, 2, 3, 4, 9, 10, 11, 12, 13, 14, 15, 16, 17, 18, 19] (by decide) rfl
          refine lv_istore_n (lv' := [(2, .int r3), (4, .int r2), (0, .ref (ad_this 0)), (1, .int x1), (3, .int x3)]) hx hb d_Pg_layNode_48 rfl hl (by decide) rfl (fun ls hl => ?_)
          refine lv_iinc (v := (x3 + (1 : Int32))) (lv' := [(3, .int (x3 + (1 : Int32))), (2, .int r3), (4, .int r2), (0, .ref (ad_this 0)), (1, .int x1)]) hx hb d_Pg_layNode_49 hl (k := 4) rfl rfl (by decide) rfl (fun ls hl => ?_)
          refine lv_goto (tgt := 4) hx hb d_Pg_layNode_52 (by decide) ?_
          exact ih u3 x1 r3 (x3 + (1 : Int32)) H locs ls (lv_sub hl [3, 4, 1, 0] rfl) hP hD hS hw
        · have hw := hw.2 hc
          refine lv_iload hx hb d_Pg_layNode_37 (lv_at hl 0 rfl) ?_
          refine lv_goto (tgt := 48) hx hb d_Pg_layNode_39 (by decide) ?_
          refine lv_istore_n (lv' := [(2, .int r2), (4, .int r2), (0, .ref (ad_this 0)), (1, .int x1), (3, .int x3)]) hx hb d_Pg_layNode_48 rfl hl (by decide) rfl (fun ls hl => ?_)
          refine lv_iinc (v := (x3 + (1 : Int32))) (lv' := [(3, .int (x3 + (1 : Int32))), (2, .int r2), (4, .int r2), (0, .ref (ad_this 0)), (1, .int x1)]) hx hb d_Pg_layNode_49 hl (k := 4) rfl rfl (by decide) rfl (fun ls hl => ?_)
          refine lv_goto (tgt := 4) hx hb d_Pg_layNode_52 (by decide) ?_
          exact ih u1 x1 r2 (x3 + (1 : Int32)) H locs ls (lv_sub hl [3, 4, 1, 0] rfl) hP hD hS hw
set_option maxHeartbeats 4000000 in
set_option maxRecDepth 100000 in
theorem c_Pg_layNode {l : Launch} {o : State × Array Value} {D : va_G} {k : Nat → ClassId} {ad_this : Nat → Nat} {ad_this_keywords : Nat → Nat} {ad_this_names : Nat → Nat} {ad_this_nodes : Nat → Nat} {z_this : T_Pg} {z_this_keywords : T_Kw} {z_this_names : T_Nm} {z_this_nodes : T_Nd} {a1 : Int32} {post : Unit → T_Pg → Prop} (hw : wp_Pg_layNode z_this z_this_keywords z_this_names z_this_nodes a1 post) : xq_C l o y_Pg_layNode (.code y_Pg_layNode prog_6_method_5_code 5 none :: xq_W) rm_Pg_layNode D vwCl (xt k) [.ref (ad_this 0), .int a1] (w_Pg k ad_this (ad_this_keywords 0) (ad_this_names 0) (ad_this_nodes 0) z_this ++ w_Kw k ad_this_keywords z_this_keywords ++ w_Nm k ad_this_names z_this_names ++ w_Nd k ad_this_nodes z_this_nodes) (fun _ : Unit => none) post (fun _ : T_Pg => False) (fun u : T_Pg => w_Pg k ad_this (ad_this_keywords 0) (ad_this_names 0) (ad_this_nodes 0) u ++ w_Kw k ad_this_keywords z_this_keywords ++ w_Nm k ad_this_names z_this_names ++ w_Nd k ad_this_nodes z_this_nodes) 0 0 0 0 := by
  refine xq_ofW (cc := prog_6_method_5_code) (maxL := 5) (ret := none) (by decide) rfl (Nat.le_of_ble_eq_true rfl) ?_
  intro p e s m below meth c ls H locs A hAt hAe hA hl hK hJ hP0 hP hD hS
  obtain ⟨hx, hb, hml, hr, hlocks, hown, hts, hex, hnm⟩ := id hAt
  have hl : lv_has ls 5 [(0, .ref (ad_this 0)), (1, .int a1)] := hl
  unfold wp_Pg_layNode at hw
  refine lv_iload_n hx hb d_Pg_layNode_0 rfl (lv_at hl 1 rfl) ?_
  refine lv_istore_n (lv' := [(2, .int a1), (0, .ref (ad_this 0)), (1, .int a1)]) hx hb d_Pg_layNode_1 rfl hl (by decide) rfl (fun ls hl => ?_)
  refine lv_iconst (v := (0 : Int32)) hx hb d_Pg_layNode_2 (by decide) ?_
  refine lv_istore_n (lv' := [(3, .int (0 : Int32)), (2, .int a1), (0, .ref (ad_this 0)), (1, .int a1)]) hx hb d_Pg_layNode_3 rfl hl (by decide) rfl (fun ls hl => ?_)
  obtain ⟨k9, hw⟩ := hw
  refine t_Pg_layNode_L4 hAt hK hJ hAe hA ?_ k9 z_this a1 a1 (0 : Int32) H locs ls (lv_sub hl [2, 3, 1, 0] rfl) hP hD hS hw
  intro z_this x1 x2 x3 H locs ls hl hP hD hS hw
  exact xq_vret (r := ()) (u := z_this) hx hb hr hlocks hAe hP hD hS rfl hw (Nat.le_of_ble_eq_true rfl) (Nat.le_of_ble_eq_true rfl) d_Pg_layNode_55
theorem cw_Pg_layNode {R : Room} {s : State} {args : Array Value} {own : String} {index : Nat} (hts : ∀ w ∈ xq_W, w.before args s = true) (hl : .methodLink own index y_Pg_layNode ∈ xq_W) {rm : Room} (hR : rm.frames + 1 ≤ R.frames ∧ 8 + (5 + 11) + rm.locals ≤ R.locals) : CallW R s args own "StepText$Page" index y_Pg_layNode prog_6_method_5_code 5 none (.code y_Pg_layNode prog_6_method_5_code 5 none :: xq_W) rm rm.cells rm.slots 1 := ⟨xq_cb 1 hts kw4_35 kw1_12 hl ⟨by decide, by decide, by decide +kernel⟩ hR, hts _ kw4_34, hts _ kp3_3⟩
def y_Pg_layDeclaration : MethodName := ⟨"StepText$Page", "layDeclaration", "(I)V"⟩
theorem d_Pg_layDeclaration_0 : decode prog_6_method_4_code 0 = .ok (.aload_n 0, 1) := by decide +kernel
theorem d_Pg_layDeclaration_1 : decode prog_6_method_4_code 1 = .ok (.invokevirtual 66, 3) := by decide +kernel
theorem d_Pg_layDeclaration_4 : decode prog_6_method_4_code 4 = .ok (.aload_n 0, 1) := by decide +kernel
theorem d_Pg_layDeclaration_5 : decode prog_6_method_4_code 5 = .ok (.aload_n 0, 1) := by decide +kernel
theorem d_Pg_layDeclaration_6 : decode prog_6_method_4_code 6 = .ok (.getfield 15, 3) := by decide +kernel
theorem d_Pg_layDeclaration_9 : decode prog_6_method_4_code 9 = .ok (.aload_n 0, 1) := by decide +kernel
theorem d_Pg_layDeclaration_10 : decode prog_6_method_4_code 10 = .ok (.getfield 25, 3) := by decide +kernel
theorem d_Pg_layDeclaration_13 : decode prog_6_method_4_code 13 = .ok (.iload_n 1, 1) := by decide +kernel
theorem d_Pg_layDeclaration_14 : decode prog_6_method_4_code 14 = .ok (.invokevirtual 51, 3) := by decide +kernel
theorem d_Pg_layDeclaration_17 : decode prog_6_method_4_code 17 = .ok (.invokevirtual 69, 3) := by decide +kernel
theorem d_Pg_layDeclaration_20 : decode prog_6_method_4_code 20 = .ok (.invokevirtual 73, 3) := by decide +kernel
theorem d_Pg_layDeclaration_23 : decode prog_6_method_4_code 23 = .ok (.aload_n 0, 1) := by decide +kernel
theorem d_Pg_layDeclaration_24 : decode prog_6_method_4_code 24 = .ok (.aload_n 0, 1) := by decide +kernel
theorem d_Pg_layDeclaration_25 : decode prog_6_method_4_code 25 = .ok (.getfield 25, 3) := by decide +kernel
theorem d_Pg_layDeclaration_28 : decode prog_6_method_4_code 28 = .ok (.iload_n 1, 1) := by decide +kernel
theorem d_Pg_layDeclaration_29 : decode prog_6_method_4_code 29 = .ok (.invokevirtual 77, 3) := by decide +kernel
theorem d_Pg_layDeclaration_32 : decode prog_6_method_4_code 32 = .ok (.invokevirtual 73, 3) := by decide +kernel
theorem d_Pg_layDeclaration_35 : decode prog_6_method_4_code 35 = .ok (.aload_n 0, 1) := by decide +kernel
theorem d_Pg_layDeclaration_36 : decode prog_6_method_4_code 36 = .ok (.aload_n 0, 1) := by decide +kernel
theorem d_Pg_layDeclaration_37 : decode prog_6_method_4_code 37 = .ok (.getfield 25, 3) := by decide +kernel
theorem d_Pg_layDeclaration_40 : decode prog_6_method_4_code 40 = .ok (.iload_n 1, 1) := by decide +kernel
theorem d_Pg_layDeclaration_41 : decode prog_6_method_4_code 41 = .ok (.invokevirtual 78, 3) := by decide +kernel
theorem d_Pg_layDeclaration_44 : decode prog_6_method_4_code 44 = .ok (.invokevirtual 81, 3) := by decide +kernel
theorem d_Pg_layDeclaration_47 : decode prog_6_method_4_code 47 = .ok (.aload_n 0, 1) := by decide +kernel
theorem d_Pg_layDeclaration_48 : decode prog_6_method_4_code 48 = .ok (.bipush 59, 2) := by decide +kernel
theorem d_Pg_layDeclaration_50 : decode prog_6_method_4_code 50 = .ok (.invokevirtual 84, 3) := by decide +kernel
theorem d_Pg_layDeclaration_53 : decode prog_6_method_4_code 53 = .ok (.return_, 1) := by decide +kernel
def wp_Pg_layDeclaration (z_this : T_Pg) (z_this_keywords : T_Kw) (z_this_names : T_Nm) (a1 : Int32) (post : Unit → T_Pg → Prop) : Prop := wp_Pg_beginLine z_this (fun (r1 : Unit) (u1 : T_Pg) => wp_Nm_sortOf z_this_names a1 (fun (r2 : Int32) (u2 : Unit) => wp_Kw_lettersOf z_this_keywords r2 (fun (r3 : Int64) (u3 : Unit) => wp_Pg_putLetters u1 r3 (fun (r4 : Unit) (u4 : T_Pg) => wp_Nm_lettersOf z_this_names a1 (fun (r5 : Int64) (u5 : Unit) => wp_Pg_putLetters u4 r5 (fun (r6 : Unit) (u6 : T_Pg) => wp_Nm_measureOf z_this_names a1 (fun (r7 : Int32) (u7 : Unit) => wp_Pg_putUnit u6 z_this_keywords r7 (fun (r8 : Unit) (u8 : T_Pg) => wp_Pg_putSign u8 (59 : Int32) (fun (r9 : Unit) (u9 : T_Pg) => post () u9)))))))))
def rm_Pg_layDeclaration : Room := { frames := 4, cells := 0, slots := 0, locals := 87 }
set_option maxHeartbeats 4000000 in
set_option maxRecDepth 100000 in
theorem c_Pg_layDeclaration {l : Launch} {o : State × Array Value} {D : va_G} {k : Nat → ClassId} {ad_this : Nat → Nat} {ad_this_keywords : Nat → Nat} {ad_this_names : Nat → Nat} {q_this_nodes : Nat} {z_this : T_Pg} {z_this_keywords : T_Kw} {z_this_names : T_Nm} {a1 : Int32} {post : Unit → T_Pg → Prop} (hw : wp_Pg_layDeclaration z_this z_this_keywords z_this_names a1 post) : xq_C l o y_Pg_layDeclaration (.code y_Pg_layDeclaration prog_6_method_4_code 2 none :: xq_W) rm_Pg_layDeclaration D vwCl (xt k) [.ref (ad_this 0), .int a1] (w_Pg k ad_this (ad_this_keywords 0) (ad_this_names 0) q_this_nodes z_this ++ w_Kw k ad_this_keywords z_this_keywords ++ w_Nm k ad_this_names z_this_names) (fun _ : Unit => none) post (fun _ : T_Pg => False) (fun u : T_Pg => w_Pg k ad_this (ad_this_keywords 0) (ad_this_names 0) q_this_nodes u ++ w_Kw k ad_this_keywords z_this_keywords ++ w_Nm k ad_this_names z_this_names) 0 0 0 0 := by
  refine xq_ofW (cc := prog_6_method_4_code) (maxL := 2) (ret := none) (by decide) rfl (Nat.le_of_ble_eq_true rfl) ?_
  intro p e s m below meth c ls H locs A hAt hAe hA hl hK hJ hP0 hP hD hS
  obtain ⟨hx, hb, hml, hr, hlocks, hown, hts, hex, hnm⟩ := id hAt
  have hl : lv_has ls 2 [(0, .ref (ad_this 0)), (1, .int a1)] := hl
  unfold wp_Pg_layDeclaration at hw
  refine lv_aload_n hx hb d_Pg_layDeclaration_0 rfl (lv_at hl 0 rfl) ?_
  refine xq_go (wr := w_Kw k ad_this_keywords z_this_keywords ++ w_Nm k ad_this_names z_this_names) (stk := fun _ => []) (xq_runV (As := []) (rest := []) ⟨hx, hb, hml, hown, hts⟩ (c_Pg_beginLine (l := l) (o := o) (D := D) (k := k) (ad_this := ad_this) (q_this_keywords := (ad_this_keywords 0)) (q_this_names := (ad_this_names 0)) (q_this_nodes := q_this_nodes) hw) (cw_Pg_beginLine hts kw4_91 ⟨Nat.le_of_ble_eq_true rfl, Nat.le_of_ble_eq_true rfl⟩) (va_recv hK hP (ci := 7) (q0 := 0) rfl rfl) (hP.sub [0, 1] rfl) hK hJ hS (va_free hD hS hA [0, 1] rfl) ((hD.sub [0, 1] (by decide) rfl).weaken (fun _ _ _ _ => trivial)) rfl hl.1 (Nat.le_of_ble_eq_true rfl) d_Pg_layDeclaration_1 ⟨Nat.le_of_ble_eq_true rfl, Nat.le_of_ble_eq_true rfl⟩) hP hD hS hA [0, 1] [2, 3, 4, 5, 6, 7, 8] rfl rfl (by decide) (by decide) (fun _ => rfl) (fun r1 u1 H locs hw hP hD hS => ?_) (fun _ _ _ _ h9 => h9.elim)
  have hP : va_P D vwCl (w_Pg k ad_this (ad_this_keywords 0) (ad_this_names 0) q_this_nodes u1 ++ w_Kw k ad_this_keywords z_this_keywords ++ w_Nm k ad_this_names z_this_names) H := hP.sub [7, 8, 0, 1, 2, 3, 4, 5, 6] rfl
  have hD : va_D A (w_Pg k ad_this (ad_this_keywords 0) (ad_this_names 0) q_this_nodes u1 ++ w_Kw k ad_this_keywords z_this_keywords ++ w_Nm k ad_this_names z_this_names) := hD.sub [7, 8, 0, 1, 2, 3, 4, 5, 6] (by decide) rfl
  refine lv_aload_n hx hb d_Pg_layDeclaration_4 rfl (lv_at hl 0 rfl) ?_
  refine lv_aload_n hx hb d_Pg_layDeclaration_5 rfl (lv_at hl 0 rfl) ?_
  refine va_get (D := D) (ci := 7) (v := .ref (ad_this_keywords 0)) (C := R_Pg) (T := F_Pg) (N := 5) hx hb hts in_Pg hown hK hP 0 rfl rfl 0 (by decide) (hts (.fieldLink R_Pg 15 R_Pg "keywords" "LStepText$Keywords;") kw2_28) (fun _ h9 => h9) rfl d_Pg_layDeclaration_6 ?_
  refine lv_aload_n hx hb d_Pg_layDeclaration_9 rfl (lv_at hl 0 rfl) ?_
  refine va_get (D := D) (ci := 7) (v := .ref (ad_this_names 0)) (C := R_Pg) (T := F_Pg) (N := 5) hx hb hts in_Pg hown hK hP 0 rfl rfl 3 (by decide) (hts (.fieldLink R_Pg 25 R_Pg "names" "LStepText$Names;") kw2_31) (fun _ h9 => h9) rfl d_Pg_layDeclaration_10 ?_
  refine lv_iload_n hx hb d_Pg_layDeclaration_13 rfl (lv_at hl 1 rfl) ?_
  refine xq_go (wr := w_Pg k ad_this (ad_this_keywords 0) (ad_this_names 0) q_this_nodes u1 ++ w_Kw k ad_this_keywords z_this_keywords) (stk := fun r => .int r :: [.ref (ad_this_keywords 0), .ref (ad_this 0)]) (xq_runV (As := [.int a1]) (rest := [.ref (ad_this_keywords 0), .ref (ad_this 0)]) ⟨hx, hb, hml, hown, hts⟩ (c_Nm_sortOf (l := l) (o := o) (D := D) (k := k) (ad_this := ad_this_names) hw) (cw_Nm_sortOf hts kw4_31 ⟨Nat.le_of_ble_eq_true rfl, Nat.le_of_ble_eq_true rfl⟩) (va_recv hK hP (ci := 3) (q0 := 4) rfl rfl) (hP.sub [4, 5, 6, 7, 8] rfl) hK hJ hS (va_free hD hS hA [4, 5, 6, 7, 8] rfl) ((hD.sub [4, 5, 6, 7, 8] (by decide) rfl).weaken (fun _ _ _ _ => trivial)) rfl hl.1 (Nat.le_of_ble_eq_true rfl) d_Pg_layDeclaration_14 ⟨Nat.le_of_ble_eq_true rfl, Nat.le_of_ble_eq_true rfl⟩) hP hD hS hA [4, 5, 6, 7, 8] [0, 1, 2, 3] rfl rfl (by decide) (by decide) (fun _ => rfl) (fun r2 u2 H locs hw hP hD hS => ?_) (fun _ _ _ _ h9 => h9.elim)
  have hP : va_P D vwCl (w_Pg k ad_this (ad_this_keywords 0) (ad_this_names 0) q_this_nodes u1 ++ w_Kw k ad_this_keywords z_this_keywords ++ w_Nm k ad_this_names z_this_names) H := hP.sub [0, 1, 2, 3, 4, 5, 6, 7, 8] rfl
  have hD : va_D A (w_Pg k ad_this (ad_this_keywords 0) (ad_this_names 0) q_this_nodes u1 ++ w_Kw k ad_this_keywords z_this_keywords ++ w_Nm k ad_this_names z_this_names) := hD.sub [0, 1, 2, 3, 4, 5, 6, 7, 8] (by decide) rfl
  refine xq_go (wr := w_Pg k ad_this (ad_this_keywords 0) (ad_this_names 0) q_this_nodes u1 ++ w_Nm k ad_this_names z_this_names) (stk := fun r => .long r :: [.ref (ad_this 0)]) (xq_runV (As := [.int r2]) (rest := [.ref (ad_this 0)]) ⟨hx, hb, hml, hown, hts⟩ (c_Kw_lettersOf (l := l) (o := o) (D := D) (k := k) (ad_this := ad_this_keywords) hw) (cw_Kw_lettersOf hts kw4_66 ⟨Nat.le_of_ble_eq_true rfl, Nat.le_of_ble_eq_true rfl⟩) (va_recv hK hP (ci := 1) (q0 := 2) rfl rfl) (hP.sub [2, 3] rfl) hK hJ hS (va_free hD hS hA [2, 3] rfl) ((hD.sub [2, 3] (by decide) rfl).weaken (fun _ _ _ _ => trivial)) rfl hl.1 (Nat.le_of_ble_eq_true rfl) d_Pg_layDeclaration_17 ⟨Nat.le_of_ble_eq_true rfl, Nat.le_of_ble_eq_true rfl⟩) hP hD hS hA [2, 3] [0, 1, 4, 5, 6, 7, 8] rfl rfl (by decide) (by decide) (fun _ => rfl) (fun r3 u3 H locs hw hP hD hS => ?_) (fun _ _ _ _ h9 => h9.elim)
  have hP : va_P D vwCl (w_Pg k ad_this (ad_this_keywords 0) (ad_this_names 0) q_this_nodes u1 ++ w_Kw k ad_this_keywords z_this_keywords ++ w_Nm k ad_this_names z_this_names) H := hP.sub [0, 1, 7, 8, 2, 3, 4, 5, 6] rfl
  have hD : va_D A (w_Pg k ad_this (ad_this_keywords 0) (ad_this_names 0) q_this_nodes u1 ++ w_Kw k ad_this_keywords z_this_keywords ++ w_Nm k ad_this_names z_this_names) := hD.sub [0, 1, 7, 8, 2, 3, 4, 5, 6] (by decide) rfl
  refine xq_go (wr := w_Kw k ad_this_keywords z_this_keywords ++ w_Nm k ad_this_names z_this_names) (stk := fun _ => []) (xq_runV (As := [.long r3]) (rest := []) ⟨hx, hb, hml, hown, hts⟩ (c_Pg_putLetters (l := l) (o := o) (D := D) (k := k) (ad_this := ad_this) (q_this_keywords := (ad_this_keywords 0)) (q_this_names := (ad_this_names 0)) (q_this_nodes := q_this_nodes) hw) (cw_Pg_putLetters hts kw4_70 ⟨Nat.le_of_ble_eq_true rfl, Nat.le_of_ble_eq_true rfl⟩) (va_recv hK hP (ci := 7) (q0 := 0) rfl rfl) (hP.sub [0, 1] rfl) hK hJ hS (va_free hD hS hA [0, 1] rfl) ((hD.sub [0, 1] (by decide) rfl).weaken (fun _ _ _ _ => trivial)) rfl hl.1 (Nat.le_of_ble_eq_true rfl) d_Pg_layDeclaration_20 ⟨Nat.le_of_ble_eq_true rfl, Nat.le_of_ble_eq_true rfl⟩) hP hD hS hA [0, 1] [2, 3, 4, 5, 6, 7, 8] rfl rfl (by decide) (by decide) (fun _ => rfl) (fun r4 u4 H locs hw hP hD hS => ?_) (fun _ _ _ _ h9 => h9.elim)
  have hP : va_P D vwCl (w_Pg k ad_this (ad_this_keywords 0) (ad_this_names 0) q_this_nodes u4 ++ w_Kw k ad_this_keywords z_this_keywords ++ w_Nm k ad_this_names z_this_names) H := hP.sub [7, 8, 0, 1, 2, 3, 4, 5, 6] rfl
  have hD : va_D A (w_Pg k ad_this (ad_this_keywords 0) (ad_this_names 0) q_this_nodes u4 ++ w_Kw k ad_this_keywords z_this_keywords ++ w_Nm k ad_this_names z_this_names) := hD.sub [7, 8, 0, 1, 2, 3, 4, 5, 6] (by decide) rfl
  refine lv_aload_n hx hb d_Pg_layDeclaration_23 rfl (lv_at hl 0 rfl) ?_
  refine lv_aload_n hx hb d_Pg_layDeclaration_24 rfl (lv_at hl 0 rfl) ?_
  refine va_get (D := D) (ci := 7) (v := .ref (ad_this_names 0)) (C := R_Pg) (T := F_Pg) (N := 5) hx hb hts in_Pg hown hK hP 0 rfl rfl 3 (by decide) (hts (.fieldLink R_Pg 25 R_Pg "names" "LStepText$Names;") kw2_31) (fun _ h9 => h9) rfl d_Pg_layDeclaration_25 ?_
  refine lv_iload_n hx hb d_Pg_layDeclaration_28 rfl (lv_at hl 1 rfl) ?_
  refine xq_go (wr := w_Pg k ad_this (ad_this_keywords 0) (ad_this_names 0) q_this_nodes u4 ++ w_Kw k ad_this_keywords z_this_keywords) (stk := fun r => .long r :: [.ref (ad_this 0)]) (xq_runV (As := [.int a1]) (rest := [.ref (ad_this 0)]) ⟨hx, hb, hml, hown, hts⟩ (c_Nm_lettersOf (l := l) (o := o) (D := D) (k := k) (ad_this := ad_this_names) hw) (cw_Nm_lettersOf hts kw4_79 ⟨Nat.le_of_ble_eq_true rfl, Nat.le_of_ble_eq_true rfl⟩) (va_recv hK hP (ci := 3) (q0 := 4) rfl rfl) (hP.sub [4, 5, 6, 7, 8] rfl) hK hJ hS (va_free hD hS hA [4, 5, 6, 7, 8] rfl) ((hD.sub [4, 5, 6, 7, 8] (by decide) rfl).weaken (fun _ _ _ _ => trivial)) rfl hl.1 (Nat.le_of_ble_eq_true rfl) d_Pg_layDeclaration_29 ⟨Nat.le_of_ble_eq_true rfl, Nat.le_of_ble_eq_true rfl⟩) hP hD hS hA [4, 5, 6, 7, 8] [0, 1, 2, 3] rfl rfl (by decide) (by decide) (fun _ => rfl) (fun r5 u5 H locs hw hP hD hS => ?_) (fun _ _ _ _ h9 => h9.elim)
  have hP : va_P D vwCl (w_Pg k ad_this (ad_this_keywords 0) (ad_this_names 0) q_this_nodes u4 ++ w_Kw k ad_this_keywords z_this_keywords ++ w_Nm k ad_this_names z_this_names) H := hP.sub [0, 1, 2, 3, 4, 5, 6, 7, 8] rfl
  have hD : va_D A (w_Pg k ad_this (ad_this_keywords 0) (ad_this_names 0) q_this_nodes u4 ++ w_Kw k ad_this_keywords z_this_keywords ++ w_Nm k ad_this_names z_this_names) := hD.sub [0, 1, 2, 3, 4, 5, 6, 7, 8] (by decide) rfl
  refine xq_go (wr := w_Kw k ad_this_keywords z_this_keywords ++ w_Nm k ad_this_names z_this_names) (stk := fun _ => []) (xq_runV (As := [.long r5]) (rest := []) ⟨hx, hb, hml, hown, hts⟩ (c_Pg_putLetters (l := l) (o := o) (D := D) (k := k) (ad_this := ad_this) (q_this_keywords := (ad_this_keywords 0)) (q_this_names := (ad_this_names 0)) (q_this_nodes := q_this_nodes) hw) (cw_Pg_putLetters hts kw4_70 ⟨Nat.le_of_ble_eq_true rfl, Nat.le_of_ble_eq_true rfl⟩) (va_recv hK hP (ci := 7) (q0 := 0) rfl rfl) (hP.sub [0, 1] rfl) hK hJ hS (va_free hD hS hA [0, 1] rfl) ((hD.sub [0, 1] (by decide) rfl).weaken (fun _ _ _ _ => trivial)) rfl hl.1 (Nat.le_of_ble_eq_true rfl) d_Pg_layDeclaration_32 ⟨Nat.le_of_ble_eq_true rfl, Nat.le_of_ble_eq_true rfl⟩) hP hD hS hA [0, 1] [2, 3, 4, 5, 6, 7, 8] rfl rfl (by decide) (by decide) (fun _ => rfl) (fun r6 u6 H locs hw hP hD hS => ?_) (fun _ _ _ _ h9 => h9.elim)
  have hP : va_P D vwCl (w_Pg k ad_this (ad_this_keywords 0) (ad_this_names 0) q_this_nodes u6 ++ w_Kw k ad_this_keywords z_this_keywords ++ w_Nm k ad_this_names z_this_names) H := hP.sub [7, 8, 0, 1, 2, 3, 4, 5, 6] rfl
  have hD : va_D A (w_Pg k ad_this (ad_this_keywords 0) (ad_this_names 0) q_this_nodes u6 ++ w_Kw k ad_this_keywords z_this_keywords ++ w_Nm k ad_this_names z_this_names) := hD.sub [7, 8, 0, 1, 2, 3, 4, 5, 6] (by decide) rfl
  refine lv_aload_n hx hb d_Pg_layDeclaration_35 rfl (lv_at hl 0 rfl) ?_
  refine lv_aload_n hx hb d_Pg_layDeclaration_36 rfl (lv_at hl 0 rfl) ?_
  refine va_get (D := D) (ci := 7) (v := .ref (ad_this_names 0)) (C := R_Pg) (T := F_Pg) (N := 5) hx hb hts in_Pg hown hK hP 0 rfl rfl 3 (by decide) (hts (.fieldLink R_Pg 25 R_Pg "names" "LStepText$Names;") kw2_31) (fun _ h9 => h9) rfl d_Pg_layDeclaration_37 ?_
  refine lv_iload_n hx hb d_Pg_layDeclaration_40 rfl (lv_at hl 1 rfl) ?_
  refine xq_go (wr := w_Pg k ad_this (ad_this_keywords 0) (ad_this_names 0) q_this_nodes u6 ++ w_Kw k ad_this_keywords z_this_keywords) (stk := fun r => .int r :: [.ref (ad_this 0)]) (xq_runV (As := [.int a1]) (rest := [.ref (ad_this 0)]) ⟨hx, hb, hml, hown, hts⟩ (c_Nm_measureOf (l := l) (o := o) (D := D) (k := k) (ad_this := ad_this_names) hw) (cw_Nm_measureOf hts kw4_126 ⟨Nat.le_of_ble_eq_true rfl, Nat.le_of_ble_eq_true rfl⟩) (va_recv hK hP (ci := 3) (q0 := 4) rfl rfl) (hP.sub [4, 5, 6, 7, 8] rfl) hK hJ hS (va_free hD hS hA [4, 5, 6, 7, 8] rfl) ((hD.sub [4, 5, 6, 7, 8] (by decide) rfl).weaken (fun _ _ _ _ => trivial)) rfl hl.1 (Nat.le_of_ble_eq_true rfl) d_Pg_layDeclaration_41 ⟨Nat.le_of_ble_eq_true rfl, Nat.le_of_ble_eq_true rfl⟩) hP hD hS hA [4, 5, 6, 7, 8] [0, 1, 2, 3] rfl rfl (by decide) (by decide) (fun _ => rfl) (fun r7 u7 H locs hw hP hD hS => ?_) (fun _ _ _ _ h9 => h9.elim)
  have hP : va_P D vwCl (w_Pg k ad_this (ad_this_keywords 0) (ad_this_names 0) q_this_nodes u6 ++ w_Kw k ad_this_keywords z_this_keywords ++ w_Nm k ad_this_names z_this_names) H := hP.sub [0, 1, 2, 3, 4, 5, 6, 7, 8] rfl
  have hD : va_D A (w_Pg k ad_this (ad_this_keywords 0) (ad_this_names 0) q_this_nodes u6 ++ w_Kw k ad_this_keywords z_this_keywords ++ w_Nm k ad_this_names z_this_names) := hD.sub [0, 1, 2, 3, 4, 5, 6, 7, 8] (by decide) rfl
  refine xq_go (wr := w_Nm k ad_this_names z_this_names) (stk := fun _ => []) (xq_runV (As := [.int r7]) (rest := []) ⟨hx, hb, hml, hown, hts⟩ (c_Pg_putUnit (l := l) (o := o) (D := D) (k := k) (ad_this := ad_this) (ad_this_keywords := ad_this_keywords) (q_this_names := (ad_this_names 0)) (q_this_nodes := q_this_nodes) hw) (cw_Pg_putUnit hts kw4_62 ⟨Nat.le_of_ble_eq_true rfl, Nat.le_of_ble_eq_true rfl⟩) (va_recv hK hP (ci := 7) (q0 := 0) rfl rfl) (hP.sub [0, 1, 2, 3] rfl) hK hJ hS (va_free hD hS hA [0, 1, 2, 3] rfl) ((hD.sub [0, 1, 2, 3] (by decide) rfl).weaken (fun _ _ _ _ => trivial)) rfl hl.1 (Nat.le_of_ble_eq_true rfl) d_Pg_layDeclaration_44 ⟨Nat.le_of_ble_eq_true rfl, Nat.le_of_ble_eq_true rfl⟩) hP hD hS hA [0, 1, 2, 3] [4, 5, 6, 7, 8] rfl rfl (by decide) (by decide) (fun _ => rfl) (fun r8 u8 H locs hw hP hD hS => ?_) (fun _ _ _ _ h9 => h9.elim)
  have hP : va_P D vwCl (w_Pg k ad_this (ad_this_keywords 0) (ad_this_names 0) q_this_nodes u8 ++ w_Kw k ad_this_keywords z_this_keywords ++ w_Nm k ad_this_names z_this_names) H := hP.sub [5, 6, 7, 8, 0, 1, 2, 3, 4] rfl
  have hD : va_D A (w_Pg k ad_this (ad_this_keywords 0) (ad_this_names 0) q_this_nodes u8 ++ w_Kw k ad_this_keywords z_this_keywords ++ w_Nm k ad_this_names z_this_names) := hD.sub [5, 6, 7, 8, 0, 1, 2, 3, 4] (by decide) rfl
  refine lv_aload_n hx hb d_Pg_layDeclaration_47 rfl (lv_at hl 0 rfl) ?_
  refine lv_bipush (v := (59 : Int32)) hx hb d_Pg_layDeclaration_48 (by decide) ?_
  refine xq_go (wr := w_Kw k ad_this_keywords z_this_keywords ++ w_Nm k ad_this_names z_this_names) (stk := fun _ => []) (xq_runV (As := [.int (59 : Int32)]) (rest := []) ⟨hx, hb, hml, hown, hts⟩ (c_Pg_putSign (l := l) (o := o) (D := D) (k := k) (ad_this := ad_this) (q_this_keywords := (ad_this_keywords 0)) (q_this_names := (ad_this_names 0)) (q_this_nodes := q_this_nodes) hw) (cw_Pg_putSign hts kw4_83 ⟨Nat.le_of_ble_eq_true rfl, Nat.le_of_ble_eq_true rfl⟩) (va_recv hK hP (ci := 7) (q0 := 0) rfl rfl) (hP.sub [0, 1] rfl) hK hJ hS (va_free hD hS hA [0, 1] rfl) ((hD.sub [0, 1] (by decide) rfl).weaken (fun _ _ _ _ => trivial)) rfl hl.1 (Nat.le_of_ble_eq_true rfl) d_Pg_layDeclaration_50 ⟨Nat.le_of_ble_eq_true rfl, Nat.le_of_ble_eq_true rfl⟩) hP hD hS hA [0, 1] [2, 3, 4, 5, 6, 7, 8] rfl rfl (by decide) (by decide) (fun _ => rfl) (fun r9 u9 H locs hw hP hD hS => ?_) (fun _ _ _ _ h9 => h9.elim)
  have hP : va_P D vwCl (w_Pg k ad_this (ad_this_keywords 0) (ad_this_names 0) q_this_nodes u9 ++ w_Kw k ad_this_keywords z_this_keywords ++ w_Nm k ad_this_names z_this_names) H := hP.sub [7, 8, 0, 1, 2, 3, 4, 5, 6] rfl
  have hD : va_D A (w_Pg k ad_this (ad_this_keywords 0) (ad_this_names 0) q_this_nodes u9 ++ w_Kw k ad_this_keywords z_this_keywords ++ w_Nm k ad_this_names z_this_names) := hD.sub [7, 8, 0, 1, 2, 3, 4, 5, 6] (by decide) rfl
  exact xq_vret (r := ()) (u := u9) hx hb hr hlocks hAe hP hD hS rfl hw (Nat.le_of_ble_eq_true rfl) (Nat.le_of_ble_eq_true rfl) d_Pg_layDeclaration_53
theorem cw_Pg_layDeclaration {R : Room} {s : State} {args : Array Value} {own : String} {index : Nat} (hts : ∀ w ∈ xq_W, w.before args s = true) (hl : .methodLink own index y_Pg_layDeclaration ∈ xq_W) {rm : Room} (hR : rm.frames + 1 ≤ R.frames ∧ 8 + (2 + 11) + rm.locals ≤ R.locals) : CallW R s args own "StepText$Page" index y_Pg_layDeclaration prog_6_method_4_code 2 none (.code y_Pg_layDeclaration prog_6_method_4_code 2 none :: xq_W) rm rm.cells rm.slots 1 := ⟨xq_cb 1 hts kw4_125 kw1_12 hl ⟨by decide, by decide, by decide +kernel⟩ hR, hts _ kw4_124, hts _ kp4_2⟩
def y_Pg_lay : MethodName := ⟨"StepText$Page", "lay", "(LStepText$Program;)V"⟩
theorem d_Pg_lay_0 : decode prog_6_method_3_code 0 = .ok (.aload_n 0, 1) := by decide +kernel
theorem d_Pg_lay_1 : decode prog_6_method_3_code 1 = .ok (.aload_n 1, 1) := by decide +kernel
theorem d_Pg_lay_2 : decode prog_6_method_3_code 2 = .ok (.invokevirtual 19, 3) := by decide +kernel
theorem d_Pg_lay_5 : decode prog_6_method_3_code 5 = .ok (.putfield 25, 3) := by decide +kernel
theorem d_Pg_lay_8 : decode prog_6_method_3_code 8 = .ok (.aload_n 0, 1) := by decide +kernel
theorem d_Pg_lay_9 : decode prog_6_method_3_code 9 = .ok (.aload_n 1, 1) := by decide +kernel
theorem d_Pg_lay_10 : decode prog_6_method_3_code 10 = .ok (.invokevirtual 28, 3) := by decide +kernel
theorem d_Pg_lay_13 : decode prog_6_method_3_code 13 = .ok (.putfield 32, 3) := by decide +kernel
theorem d_Pg_lay_16 : decode prog_6_method_3_code 16 = .ok (.aload_n 0, 1) := by decide +kernel
theorem d_Pg_lay_17 : decode prog_6_method_3_code 17 = .ok (.iconst 0, 1) := by decide +kernel
theorem d_Pg_lay_18 : decode prog_6_method_3_code 18 = .ok (.putfield 35, 3) := by decide +kernel
theorem d_Pg_lay_21 : decode prog_6_method_3_code 21 = .ok (.aload_n 0, 1) := by decide +kernel
theorem d_Pg_lay_22 : decode prog_6_method_3_code 22 = .ok (.getfield 32, 3) := by decide +kernel
theorem d_Pg_lay_25 : decode prog_6_method_3_code 25 = .ok (.iconst (-1), 1) := by decide +kernel
theorem d_Pg_lay_26 : decode prog_6_method_3_code 26 = .ok (.invokevirtual 39, 3) := by decide +kernel
theorem d_Pg_lay_29 : decode prog_6_method_3_code 29 = .ok (.istore_n 2, 1) := by decide +kernel
theorem d_Pg_lay_30 : decode prog_6_method_3_code 30 = .ok (.iconst 0, 1) := by decide +kernel
theorem d_Pg_lay_31 : decode prog_6_method_3_code 31 = .ok (.istore_n 3, 1) := by decide +kernel
theorem d_Pg_lay_32 : decode prog_6_method_3_code 32 = .ok (.iload_n 3, 1) := by decide +kernel
theorem d_Pg_lay_33 : decode prog_6_method_3_code 33 = .ok (.aload_n 0, 1) := by decide +kernel
theorem d_Pg_lay_34 : decode prog_6_method_3_code 34 = .ok (.getfield 25, 3) := by decide +kernel
theorem d_Pg_lay_37 : decode prog_6_method_3_code 37 = .ok (.invokevirtual 45, 3) := by decide +kernel
theorem d_Pg_lay_40 : decode prog_6_method_3_code 40 = .ok (.if_icmp .ge 45, 3) := by decide +kernel
theorem d_Pg_lay_43 : decode prog_6_method_3_code 43 = .ok (.aload_n 0, 1) := by decide +kernel
theorem d_Pg_lay_44 : decode prog_6_method_3_code 44 = .ok (.getfield 25, 3) := by decide +kernel
theorem d_Pg_lay_47 : decode prog_6_method_3_code 47 = .ok (.iload_n 3, 1) := by decide +kernel
theorem d_Pg_lay_48 : decode prog_6_method_3_code 48 = .ok (.invokevirtual 51, 3) := by decide +kernel
theorem d_Pg_lay_51 : decode prog_6_method_3_code 51 = .ok (.sipush 215, 3) := by decide +kernel
theorem d_Pg_lay_54 : decode prog_6_method_3_code 54 = .ok (.if_icmp .ne 20, 3) := by decide +kernel
theorem d_Pg_lay_57 : decode prog_6_method_3_code 57 = .ok (.aload_n 0, 1) := by decide +kernel
theorem d_Pg_lay_58 : decode prog_6_method_3_code 58 = .ok (.iload_n 2, 1) := by decide +kernel
theorem d_Pg_lay_59 : decode prog_6_method_3_code 59 = .ok (.invokevirtual 56, 3) := by decide +kernel
theorem d_Pg_lay_62 : decode prog_6_method_3_code 62 = .ok (.aload_n 0, 1) := by decide +kernel
theorem d_Pg_lay_63 : decode prog_6_method_3_code 63 = .ok (.getfield 32, 3) := by decide +kernel
theorem d_Pg_lay_66 : decode prog_6_method_3_code 66 = .ok (.iload_n 2, 1) := by decide +kernel
theorem d_Pg_lay_67 : decode prog_6_method_3_code 67 = .ok (.invokevirtual 60, 3) := by decide +kernel
theorem d_Pg_lay_70 : decode prog_6_method_3_code 70 = .ok (.istore_n 2, 1) := by decide +kernel
theorem d_Pg_lay_71 : decode prog_6_method_3_code 71 = .ok (.goto 8, 3) := by decide +kernel
theorem d_Pg_lay_74 : decode prog_6_method_3_code 74 = .ok (.aload_n 0, 1) := by decide +kernel
theorem d_Pg_lay_75 : decode prog_6_method_3_code 75 = .ok (.iload_n 3, 1) := by decide +kernel
theorem d_Pg_lay_76 : decode prog_6_method_3_code 76 = .ok (.invokevirtual 63, 3) := by decide +kernel
theorem d_Pg_lay_79 : decode prog_6_method_3_code 79 = .ok (.iinc 3 1, 3) := by decide +kernel
theorem d_Pg_lay_82 : decode prog_6_method_3_code 82 = .ok (.goto (-50), 3) := by decide +kernel
theorem d_Pg_lay_85 : decode prog_6_method_3_code 85 = .ok (.iconst 0, 1) := by decide +kernel
theorem d_Pg_lay_86 : decode prog_6_method_3_code 86 = .ok (.istore_n 3, 1) := by decide +kernel
theorem d_Pg_lay_87 : decode prog_6_method_3_code 87 = .ok (.iload_n 3, 1) := by decide +kernel
theorem d_Pg_lay_88 : decode prog_6_method_3_code 88 = .ok (.sipush 1000, 3) := by decide +kernel
theorem d_Pg_lay_91 : decode prog_6_method_3_code 91 = .ok (.if_icmp .ge 28, 3) := by decide +kernel
theorem d_Pg_lay_94 : decode prog_6_method_3_code 94 = .ok (.iload_n 2, 1) := by decide +kernel
theorem d_Pg_lay_95 : decode prog_6_method_3_code 95 = .ok (.iconst (-1), 1) := by decide +kernel
theorem d_Pg_lay_96 : decode prog_6_method_3_code 96 = .ok (.if_icmp .eq 23, 3) := by decide +kernel
theorem d_Pg_lay_99 : decode prog_6_method_3_code 99 = .ok (.aload_n 0, 1) := by decide +kernel
theorem d_Pg_lay_100 : decode prog_6_method_3_code 100 = .ok (.iload_n 2, 1) := by decide +kernel
theorem d_Pg_lay_101 : decode prog_6_method_3_code 101 = .ok (.invokevirtual 56, 3) := by decide +kernel
theorem d_Pg_lay_104 : decode prog_6_method_3_code 104 = .ok (.aload_n 0, 1) := by decide +kernel
theorem d_Pg_lay_105 : decode prog_6_method_3_code 105 = .ok (.getfield 32, 3) := by decide +kernel
theorem d_Pg_lay_108 : decode prog_6_method_3_code 108 = .ok (.iload_n 2, 1) := by decide +kernel
theorem d_Pg_lay_109 : decode prog_6_method_3_code 109 = .ok (.invokevirtual 60, 3) := by decide +kernel
theorem d_Pg_lay_112 : decode prog_6_method_3_code 112 = .ok (.istore_n 2, 1) := by decide +kernel
theorem d_Pg_lay_113 : decode prog_6_method_3_code 113 = .ok (.iinc 3 1, 3) := by decide +kernel
theorem d_Pg_lay_116 : decode prog_6_method_3_code 116 = .ok (.goto (-29), 3) := by decide +kernel
theorem d_Pg_lay_119 : decode prog_6_method_3_code 119 = .ok (.aload_n 0, 1) := by decide +kernel
theorem d_Pg_lay_120 : decode prog_6_method_3_code 120 = .ok (.invokevirtual 66, 3) := by decide +kernel
theorem d_Pg_lay_123 : decode prog_6_method_3_code 123 = .ok (.return_, 1) := by decide +kernel
def wp_Pg_lay_L32 (z_a1 : T_Pr) (z_a1_names : T_Nm) (z_a1_nodes : T_Nd) (z_this_keywords : T_Kw) (K : T_Pg → Int32 → Int32 → Prop) (post : Unit → T_Pg → Prop) : Nat → T_Pg → Int32 → Int32 → Prop
  | 0, _, _, _ => False
  | n9 + 1, z_this, x2, x3 => wp_Nm_count z_a1_names (fun (r4 : Int32) (u4 : Unit) => (r4 ≤ x3 → (K z_this x2 x3)) ∧ (¬ r4 ≤ x3 → (wp_Nm_sortOf z_a1_names x3 (fun (r5 : Int32) (u5 : Unit) => (r5 = (215 : Int32) → (wp_Pg_layNode z_this z_this_keywords z_a1_names z_a1_nodes x2 (fun (r7 : Unit) (u7 : T_Pg) => wp_Nd_nextOf z_a1_nodes x2 (fun (r8 : Int32) (u8 : Unit) => wp_Pg_lay_L32 z_a1 z_a1_names z_a1_nodes z_this_keywords K post n9 u7 r8 (x3 + (1 : Int32)))))) ∧ (¬ r5 = (215 : Int32) → (wp_Pg_layDeclaration z_this z_this_keywords z_a1_names x3 (fun (r6 : Unit) (u6 : T_Pg) => wp_Pg_lay_L32 z_a1 z_a1_names z_a1_nodes z_this_keywords K post n9 u6 x2 (x3 + (1 : Int32)))))))))
def wp_Pg_lay_L87 (z_a1 : T_Pr) (z_a1_names : T_Nm) (z_a1_nodes : T_Nd) (z_this_keywords : T_Kw) (K : T_Pg → Int32 → Int32 → Prop) (post : Unit → T_Pg → Prop) : Nat → T_Pg → Int32 → Int32 → Prop
  | 0, _, _, _ => False
  | n9 + 1, z_this, x2, x3 => ((1000 : Int32) ≤ x3 → (K z_this x2 x3)) ∧ (¬ (1000 : Int32) ≤ x3 → ((x2 = (-1 : Int32) → (K z_this x2 x3)) ∧ (¬ x2 = (-1 : Int32) → (wp_Pg_layNode z_this z_this_keywords z_a1_names z_a1_nodes x2 (fun (r9 : Unit) (u9 : T_Pg) => wp_Nd_nextOf z_a1_nodes x2 (fun (r10 : Int32) (u10 : Unit) => wp_Pg_lay_L87 z_a1 z_a1_names z_a1_nodes z_this_keywords K post n9 u9 r10 (x3 + (1 : Int32))))))))
def wp_Pg_lay (z_a1 : T_Pr) (z_a1_names : T_Nm) (z_a1_nodes : T_Nd) (z_this : T_Pg) (z_this_keywords : T_Kw) (post : Unit → T_Pg → Prop) : Prop := wp_Pr_names z_a1 (fun (r1 : Unit) (u1 : Unit) => wp_Pr_nodes z_a1 (fun (r2 : Unit) (u2 : Unit) => wp_Nd_firstOf z_a1_nodes (-1 : Int32) (fun (r3 : Int32) (u3 : Unit) => ∃ k9 : Nat, wp_Pg_lay_L32 z_a1 z_a1_names z_a1_nodes z_this_keywords (fun (z_this : T_Pg) (x2 : Int32) (x3 : Int32) => ∃ k9 : Nat, wp_Pg_lay_L87 z_a1 z_a1_names z_a1_nodes z_this_keywords (fun (z_this : T_Pg) (x2 : Int32) (x3 : Int32) => wp_Pg_beginLine z_this (fun (r11 : Unit) (u11 : T_Pg) => post () u11)) post k9 z_this x2 (0 : Int32)) post k9 (z_this.1, (0 : Int32)) r3 (0 : Int32))))
def rm_Pg_lay : Room := { frames := 8, cells := 0, slots := 0, locals := 201 }
set_option maxHeartbeats 4000000 in
set_option maxRecDepth 100000 in
theorem t_Pg_lay_L32 {p : Program} {l : Launch} {o : State × Array Value} {e : Env} {s : State} {m : MethodId} {args : Array Value} {below : List Frame} {meth : Method} {c : Code} {D : va_G} {k : Nat → ClassId} {w0 : va_W} {A : Nat → Prop} {ad_a1 : Nat → Nat} {ad_a1_names : Nat → Nat} {ad_a1_nodes : Nat → Nat} {ad_this : Nat → Nat} {ad_this_keywords : Nat → Nat} {z_a1 : T_Pr} {z_a1_names : T_Nm} {z_a1_nodes : T_Nd} {z_this_keywords : T_Kw} {post : Unit → T_Pg → Prop} (hAt : xq_At p s m args meth c prog_6_method_3_code 4 none y_Pg_lay xq_W) (hK : va_K D vwCl (xt k) s) (hJ : xq_J l o A s s.heap) (hAe : va_A w0 s.heap.size = A) (hA : ∀ q, s.heap.size ≤ q → A q) {K : T_Pg → Int32 → Int32 → Prop} (hX : ∀ (z_this : T_Pg) (x2 : Int32) (x3 : Int32) (H : Heap) (locs : List Loc) (ls : Array Slot), lv_has ls 4 [(0, .ref (ad_this 0)), (1, .ref (ad_a1 0)), (2, .int x2), (3, .int x3)] → va_P D vwCl (w_Pr k ad_a1 (ad_a1_names 0) (ad_a1_nodes 0) z_a1 ++ w_Nm k ad_a1_names z_a1_names ++ w_Nd k ad_a1_nodes z_a1_nodes ++ w_Pg k ad_this (ad_this_keywords 0) (ad_a1_names 0) (ad_a1_nodes 0) z_this ++ w_Kw k ad_this_keywords z_this_keywords) H → va_D A (w_Pr k ad_a1 (ad_a1_names 0) (ad_a1_nodes 0) z_a1 ++ w_Nm k ad_a1_names z_a1_names ++ w_Nd k ad_a1_nodes z_a1_nodes ++ w_Pg k ad_this (ad_this_keywords 0) (ad_a1_names 0) (ad_a1_nodes 0) z_this ++ w_Kw k ad_this_keywords z_this_keywords) → va_S A s.heap H locs → K z_this x2 x3 → W p l e rm_Pg_lay s m args below meth c H locs 0 0 (xq_Z below D vwCl (xt k) w0 (fun _ : Unit => none) post (fun _ : T_Pg => False) (fun u : T_Pg => w_Pr k ad_a1 (ad_a1_names 0) (ad_a1_nodes 0) z_a1 ++ w_Nm k ad_a1_names z_a1_names ++ w_Nd k ad_a1_nodes z_a1_nodes ++ w_Pg k ad_this (ad_this_keywords 0) (ad_a1_names 0) (ad_a1_nodes 0) u ++ w_Kw k ad_this_keywords z_this_keywords) 0 0 0 0 s) (F0 m 85 ls [])) :
    ∀ (n9 : Nat) (z_this : T_Pg) (x2 : Int32) (x3 : Int32) (H : Heap) (locs : List Loc) (ls : Array Slot), lv_has ls 4 [(0, .ref (ad_this 0)), (1, .ref (ad_a1 0)), (2, .int x2), (3, .int x3)] → va_P D vwCl (w_Pr k ad_a1 (ad_a1_names 0) (ad_a1_nodes 0) z_a1 ++ w_Nm k ad_a1_names z_a1_names ++ w_Nd k ad_a1_nodes z_a1_nodes ++ w_Pg k ad_this (ad_this_keywords 0) (ad_a1_names 0) (ad_a1_nodes 0) z_this ++ w_Kw k ad_this_keywords z_this_keywords) H → va_D A (w_Pr k ad_a1 (ad_a1_names 0) (ad_a1_nodes 0) z_a1 ++ w_Nm k ad_a1_names z_a1_names ++ w_Nd k ad_a1_nodes z_a1_nodes ++ w_Pg k ad_this (ad_this_keywords 0) (ad_a1_names 0) (ad_a1_nodes 0) z_this ++ w_Kw k ad_this_keywords z_this_keywords) → va_S A s.heap H locs → wp_Pg_lay_L32 z_a1 z_a1_names z_a1_nodes z_this_keywords K post n9 z_this x2 x3 → W p l e rm_Pg_lay s m args below meth c H locs 0 0 (xq_Z below D vwCl (xt k) w0 (fun _ : Unit => none) post (fun _ : T_Pg => False) (fun u : T_Pg => w_Pr k ad_a1 (ad_a1_names 0) (ad_a1_nodes 0) z_a1 ++ w_Nm k ad_a1_names z_a1_names ++ w_Nd k ad_a1_nodes z_a1_nodes ++ w_Pg k ad_this (ad_this_keywords 0) (ad_a1_names 0) (ad_a1_nodes 0) u ++ w_Kw k ad_this_keywords z_this_keywords) 0 0 0 0 s) (F0 m 32 ls []) := by
  obtain ⟨hx, hb, hml, hr, hlocks, hown, hts, hex, hnm⟩ := id hAt
  intro n9
  induction n9 with
  | zero => intro z_this x2 x3 H locs ls hl hP hD hS hw; exact False.elim (by rw [wp_Pg_lay_L32] at hw; exact hw)
  | succ n9 ih =>
    intro z_this x2 x3 H locs ls hl hP hD hS hw
    rw [wp_Pg_lay_L32] at hw
    refine lv_iload_n hx hb d_Pg_lay_32 rfl (lv_at hl 3 rfl) ?_
    refine lv_aload_n hx hb d_Pg_lay_33 rfl (lv_at hl 0 rfl) ?_
    refine va_get (D := D) (ci := 7) (v := .ref (ad_a1_names 0)) (C := R_Pg) (T := F_Pg) (N := 5) hx hb hts in_Pg hown hK hP 17 rfl rfl 3 (by decide) (hts (.fieldLink R_Pg 25 R_Pg "names" "LStepText$Names;") kw2_31) (fun _ h9 => h9) rfl d_Pg_lay_34 ?_
    refine xq_go (wr := w_Pr k ad_a1 (ad_a1_names 0) (ad_a1_nodes 0) z_a1 ++ w_Nd k ad_a1_nodes z_a1_nodes ++ w_Pg k ad_this (ad_this_keywords 0) (ad_a1_names 0) (ad_a1_nodes 0) z_this ++ w_Kw k ad_this_keywords z_this_keywords) (stk := fun r => .int r :: [.int x3]) (xq_runV (As := []) (rest := [.int x3]) ⟨hx, hb, hml, hown, hts⟩ (c_Nm_count (l := l) (o := o) (D := D) (k := k) (ad_this := ad_a1_names) hw) (cw_Nm_count hts kw4_30 ⟨Nat.le_of_ble_eq_true rfl, Nat.le_of_ble_eq_true rfl⟩) (va_recv hK hP (ci := 3) (q0 := 1) rfl rfl) (hP.sub [1, 2, 3, 4, 5] rfl) hK hJ hS (va_free hD hS hA [1, 2, 3, 4, 5] rfl) ((hD.sub [1, 2, 3, 4, 5] (by decide) rfl).weaken (fun _ _ _ _ => trivial)) rfl hl.1 (Nat.le_of_ble_eq_true rfl) d_Pg_lay_37 ⟨Nat.le_of_ble_eq_true rfl, Nat.le_of_ble_eq_true rfl⟩) hP hD hS hA [1, 2, 3, 4, 5] [0, 6, 7, 8, 9, 10, 11, 12, 13, 14, 15, 16, 17, 18, 19, 20] rfl rfl (by decide) (by decide) (fun _ => rfl) (fun r4 u4 H locs hw hP hD hS => ?_) (fun _ _ _ _ h9 => h9.elim)
    have hP : va_P D vwCl (w_Pr k ad_a1 (ad_a1_names 0) (ad_a1_nodes 0) z_a1 ++ w_Nm k ad_a1_names z_a1_names ++ w_Nd k ad_a1_nodes z_a1_nodes ++ w_Pg k ad_this (ad_this_keywords 0) (ad_a1_names 0) (ad_a1_nodes 0) z_this ++ w_Kw k ad_this_keywords z_this_keywords) H := hP.sub [0, 16, 17, 18, 19, 20, 1, 2, 3, 4, 5, 6, 7, 8, 9, 10, 11, 12, 13, 14, 15] rfl
    have hD : va_D A (w_Pr k ad_a1 (ad_a1_names 0) (ad_a1_nodes 0) z_a1 ++ w_Nm k ad_a1_names z_a1_names ++ w_Nd k ad_a1_nodes z_a1_nodes ++ w_Pg k ad_this (ad_this_keywords 0) (ad_a1_names 0) (ad_a1_nodes 0) z_this ++ w_Kw k ad_this_keywords z_this_keywords) := hD.sub [0, 16, 17, 18, 19, 20, 1, 2, 3, 4, 5, 6, 7, 8, 9, 10, 11, 12, 13, 14, 15] (by decide) rfl
    refine lv_icmp_ge (tgt := 85) hx hb d_Pg_lay_40 (by decide) (fun hc => ?_) (fun hc => ?_)
    · have hw := hw.1 hc
      exact hX z_this x2 x3 H locs ls (lv_sub hl [0, 1, 2, 3] rfl) hP hD hS hw
    · have hw := hw.2 hc
      refine lv_aload_n hx hb d_Pg_lay_43 rfl (lv_at hl 0 rfl) ?_
      refine va_get (D := D) (ci := 7) (v := .ref (ad_a1_names 0)) (C := R_Pg) (T := F_Pg) (N := 5) hx hb hts in_Pg hown hK hP 17 rfl rfl 3 (by decide) (hts (.fieldLink R_Pg 25 R_Pg "names" "LStepText$Names;") kw2_31) (fun _ h9 => h9) rfl d_Pg_lay_44 ?_
      refine lv_iload_n hx hb d_Pg_lay_47 rfl (lv_at hl 3 rfl) ?_
      refine xq_go (wr := w_Pr k ad_a1 (ad_a1_names 0) (ad_a1_nodes 0) z_a1 ++ w_Nd k ad_a1_nodes z_a1_nodes ++ w_Pg k ad_this (ad_this_keywords 0) (ad_a1_names 0) (ad_a1_nodes 0) z_this ++ w_Kw k ad_this_keywords z_this_keywords) (stk := fun r => .int r :: []) (xq_runV (As := [.int x3]) (rest := []) ⟨hx, hb, hml, hown, hts⟩ (c_Nm_sortOf (l := l) (o := o) (D := D) (k := k) (ad_this := ad_a1_names) hw) (cw_Nm_sortOf hts kw4_31 ⟨Nat.le_of_ble_eq_true rfl, Nat.le_of_ble_eq_true rfl⟩) (va_recv hK hP (ci := 3) (q0 := 1) rfl rfl) (hP.sub [1, 2, 3, 4, 5] rfl) hK hJ hS (va_free hD hS hA [1, 2, 3, 4, 5] rfl) ((hD.sub [1, 2, 3, 4, 5] (by decide) rfl).weaken (fun _ _ _ _ => trivial)) rfl hl.1 (Nat.le_of_ble_eq_true rfl) d_Pg_lay_48 ⟨Nat.le_of_ble_eq_true rfl, Nat.le_of_ble_eq_true rfl⟩) hP hD hS hA [1, 2, 3, 4, 5] [0, 6, 7, 8, 9, 10, 11, 12, 13, 14, 15, 16, 17, 18, 19, 20] rfl rfl (by decide) (by decide) (fun _ => rfl) (fun r5 u5 H locs hw hP hD hS => ?_) (fun _ _ _ _ h9 => h9.elim)
      have hP : va_P D vwCl (w_Pr k ad_a1 (ad_a1_names 0) (ad_a1_nodes 0) z_a1 ++ w_Nm k ad_a1_names z_a1_names ++ w_Nd k ad_a1_nodes z_a1_nodes ++ w_Pg k ad_this (ad_this_keywords 0) (ad_a1_names 0) (ad_a1_nodes 0) z_this ++ w_Kw k ad_this_keywords z_this_keywords) H := hP.sub [0, 16, 17, 18, 19, 20, 1, 2, 3, 4, 5, 6, 7, 8, 9, 10, 11, 12, 13, 14, 15] rfl
      have hD : va_D A (w_Pr k ad_a1 (ad_a1_names 0) (ad_a1_nodes 0) z_a1 ++ w_Nm k ad_a1_names z_a1_names ++ w_Nd k ad_a1_nodes z_a1_nodes ++ w_Pg k ad_this (ad_this_keywords 0) (ad_a1_names 0) (ad_a1_nodes 0) z_this ++ w_Kw k ad_this_keywords z_this_keywords) := hD.sub [0, 16, 17, 18, 19, 20, 1, 2, 3, 4, 5, 6, 7, 8, 9, 10, 11, 12, 13, 14, 15] (by decide) rfl
      refine lv_sipush (v := (215 : Int32)) hx hb d_Pg_lay_51 (by decide) ?_
      refine lv_icmp_ne (tgt := 74) hx hb d_Pg_lay_54 (by decide) (fun hc => ?_) (fun hc => ?_)
      · have hw := hw.2 hc
        refine lv_aload_n hx hb d_Pg_lay_74 rfl (lv_at hl 0 rfl) ?_
        refine lv_iload_n hx hb d_Pg_lay_75 rfl (lv_at hl 3 rfl) ?_
        refine xq_go (wr := w_Pr k ad_a1 (ad_a1_names 0) (ad_a1_nodes 0) z_a1 ++ w_Nd k ad_a1_nodes z_a1_nodes) (stk := fun _ => []) (xq_runV (As := [.int x3]) (rest := []) ⟨hx, hb, hml, hown, hts⟩ (c_Pg_layDeclaration (l := l) (o := o) (D := D) (k := k) (ad_this := ad_this) (ad_this_keywords := ad_this_keywords) (ad_this_names := ad_a1_names) (q_this_nodes := (ad_a1_nodes 0)) hw) (cw_Pg_layDeclaration hts kw4_122 ⟨Nat.le_of_ble_eq_true rfl, Nat.le_of_ble_eq_true rfl⟩) (va_recv hK hP (ci := 7) (q0 := 17) rfl rfl) (hP.sub [17, 18, 19, 20, 1, 2, 3, 4, 5] rfl) hK hJ hS (va_free hD hS hA [17, 18, 19, 20, 1, 2, 3, 4, 5] rfl) ((hD.sub [17, 18, 19, 20, 1, 2, 3, 4, 5] (by decide) rfl).weaken (fun _ _ _ _ => trivial)) rfl hl.1 (Nat.le_of_ble_eq_true rfl) d_Pg_lay_76 ⟨Nat.le_of_ble_eq_true rfl, Nat.le_of_ble_eq_true rfl⟩) hP hD hS hA [17, 18, 19, 20, 1, 2, 3, 4, 5] [0, 6, 7, 8, 9, 10, 11, 12, 13, 14, 15, 16] rfl rfl (by decide) (by decide) (fun _ => rfl) (fun r6 u6 H locs hw hP hD hS => ?_) (fun _ _ _ _ h9 => h9.elim)
        have hP : va_P D vwCl (w_Pr k ad_a1 (ad_a1_names 0) (ad_a1_nodes 0) z_a1 ++ w_Nm k ad_a1_names z_a1_names ++ w_Nd k ad_a1_nodes z_a1_nodes ++ w_Pg k ad_this (ad_this_keywords 0) (ad_a1_names 0) (ad_a1_nodes 0) u6 ++ w_Kw k ad_this_keywords z_this_keywords) H := hP.sub [0, 16, 17, 18, 19, 20, 1, 2, 3, 4, 5, 6, 7, 8, 9, 10, 11, 12, 13, 14, 15] rfl
        have hD : va_D A (w_Pr k ad_a1 (ad_a1_names 0) (ad_a1_nodes 0) z_a1 ++ w_Nm k ad_a1_names z_a1_names ++ w_Nd k ad_a1_nodes z_a1_nodes ++ w_Pg k ad_this (ad_this_keywords 0) (ad_a1_names 0) (ad_a1_nodes 0) u6 ++ w_Kw k ad_this_keywords z_this_keywords) := hD.sub [0, 16, 17, 18, 19, 20, 1, 2, 3, 4, 5, 6, 7, 8, 9, 10, 11, 12, 13, 14, 15] (by decide) rfl
        refine lv_iinc (v := (x3 + (1 : Int32))) (lv' := [(3, .int (x3 + (1 : Int32))), (0, .ref (ad_this 0)), (1, .ref (ad_a1 0)), (2, .int x2)]) hx hb d_Pg_lay_79 hl (k := 3) rfl rfl (by decide) rfl (fun ls hl => ?_)
        refine lv_goto (tgt := 32) hx hb d_Pg_lay_82 (by decide) ?_
        exact ih u6 x2 (x3 + (1 : Int32)) H locs ls (lv_sub hl [1, 2, 3, 0] rfl) hP hD hS hw
      · have hw := hw.1 hc
        refine lv_aload_n hx hb d_Pg_lay_57 rfl (lv_at hl 0 rfl) ?_
        refine lv_iload_n hx hb d_Pg_lay_58 rfl (lv_at hl 2 rfl) ?_
        refine xq_go (wr := w_Pr k ad_a1 (ad_a1_names 0) (ad_a1_nodes 0) z_a1) (stk := fun _ => []) (xq_runV (As := [.int x2]) (rest := []) ⟨hx, hb, hml, hown, hts⟩ (c_Pg_layNode (l := l) (o := o) (D := D) (k := k) (ad_this := ad_this) (ad_this_keywords := ad_this_keywords) (ad_this_names := ad_a1_names) (ad_this_nodes := ad_a1_nodes) hw) (cw_Pg_layNode hts kw4_32 ⟨Nat.le_of_ble_eq_true rfl, Nat.le_of_ble_eq_true rfl⟩) (va_recv hK hP (ci := 7) (q0 := 17) rfl rfl) (hP.sub [17, 18, 19, 20, 1, 2, 3, 4, 5, 6, 7, 8, 9, 10, 11, 12, 13, 14, 15, 16] rfl) hK hJ hS (va_free hD hS hA [17, 18, 19, 20, 1, 2, 3, 4, 5, 6, 7, 8, 9, 10, 11, 12, 13, 14, 15, 16] rfl) ((hD.sub [17, 18, 19, 20, 1, 2, 3, 4, 5, 6, 7, 8, 9, 10, 11, 12, 13, 14, 15, 16] (by decide) rfl).weaken (fun _ _ _ _ => trivial)) rfl hl.1 (Nat.le_of_ble_eq_true rfl) d_Pg_lay_59 ⟨Nat.le_of_ble_eq_true rfl, Nat.le_of_ble_eq_true rfl⟩) hP hD hS hA [17, 18, 19, 20, 1, 2, 3, 4, 5, 6, 7, 8, 9, 10, 11, 12, 13, 14, 15, 16] [0] rfl rfl (by decide) (by decide) (fun _ => rfl) (fun r7 u7 H locs hw hP hD hS => ?_) (fun _ _ _ _ h9 => h9.elim)
        have hP : va_P D vwCl (w_Pr k ad_a1 (ad_a1_names 0) (ad_a1_nodes 0) z_a1 ++ w_Nm k ad_a1_names z_a1_names ++ w_Nd k ad_a1_nodes z_a1_nodes ++ w_Pg k ad_this (ad_this_keywords 0) (ad_a1_names 0) (ad_a1_nodes 0) u7 ++ w_Kw k ad_this_keywords z_this_keywords) H := hP.sub [0, 5, 6, 7, 8, 9, 10, 11, 12, 13, 14, 15, 16, 17, 18, 19, 20, 1, 2, 3, 4] rfl
        have hD : va_D A (w_Pr k ad_a1 (ad_a1_names 0) (ad_a1_nodes 0) z_a1 ++ w_Nm k ad_a1_names z_a1_names ++ w_Nd k ad_a1_nodes z_a1_nodes ++ w_Pg k ad_this (ad_this_keywords 0) (ad_a1_names 0) (ad_a1_nodes 0) u7 ++ w_Kw k ad_this_keywords z_this_keywords) := hD.sub [0, 5, 6, 7, 8, 9, 10, 11, 12, 13, 14, 15, 16, 17, 18, 19, 20, 1, 2, 3, 4] (by decide) rfl
        refine lv_aload_n hx hb d_Pg_lay_62 rfl (lv_at hl 0 rfl) ?_
        refine va_get (D := D) (ci := 7) (v := .ref (ad_a1_nodes 0)) (C := R_Pg) (T := F_Pg) (N := 5) hx hb hts in_Pg hown hK hP 17 rfl rfl 4 (by decide) (hts (.fieldLink R_Pg 32 R_Pg "nodes" "LStepText$Nodes;") kw2_32) (fun _ h9 => h9) rfl d_Pg_lay_63 ?_
        refine lv_iload_n hx hb d_Pg_lay_66 rfl (lv_at hl 2 rfl) ?_
        refine xq_go (wr := w_Pr k ad_a1 (ad_a1_names 0) (ad_a1_nodes 0) z_a1 ++ w_Nm k ad_a1_names z_a1_names ++ w_Pg k ad_this (ad_this_keywords 0) (ad_a1_names 0) (ad_a1_nodes 0) u7 ++ w_Kw k ad_this_keywords z_this_keywords) (stk := fun r => .int r :: []) (xq_runV (As := [.int x2]) (rest := []) ⟨hx, hb, hml, hown, hts⟩ (c_Nd_nextOf (l := l) (o := o) (D := D) (k := k) (ad_this := ad_a1_nodes) hw) (cw_Nd_nextOf hts kw4_115 ⟨Nat.le_of_ble_eq_true rfl, Nat.le_of_ble_eq_true rfl⟩) (va_recv hK hP (ci := 4) (q0 := 6) rfl rfl) (hP.sub [6, 7, 8, 9, 10, 11, 12, 13, 14, 15, 16] rfl) hK hJ hS (va_free hD hS hA [6, 7, 8, 9, 10, 11, 12, 13, 14, 15, 16] rfl) ((hD.sub [6, 7, 8, 9, 10, 11, 12, 13, 14, 15, 16] (by decide) rfl).weaken (fun _ _ _ _ => trivial)) rfl hl.1 (Nat.le_of_ble_eq_true rfl) d_Pg_lay_67 ⟨Nat.le_of_ble_eq_true rfl, Nat.le_of_ble_eq_true rfl⟩) hP hD hS hA [6, 7, 8, 9, 10, 11, 12, 13, 14, 15, 16] [0, 1, 2, 3, 4, 5, 17, 18, 19, 20] rfl rfl (by decide) (by decide) (fun _ => rfl) (fun r8 u8 H locs hw hP hD hS => ?_) (fun _ _ _ _ h9 => h9.elim)
        have hP : va_P D vwCl (w_Pr k ad_a1 (ad_a1_names 0) (ad_a1_nodes 0) z_a1 ++ w_Nm k ad_a1_names z_a1_names ++ w_Nd k ad_a1_nodes z_a1_nodes ++ w_Pg k ad_this (ad_this_keywords 0) (ad_a1_names 0) (ad_a1_nodes 0) u7 ++ w_Kw k ad_this_keywords z_this_keywords) H := hP.sub [0, 1, 2, 3, 4, 5, 10, 11, 12, 13, 14, 15, 16, 17, 18, 19, 20, 6, 7, 8, 9] rfl
        have hD : va_D A (w_Pr k ad_a1 (ad_a1_names 0) (ad_a1_nodes 0) z_a1 ++ w_Nm k ad_a1_names z_a1_names ++ w_Nd k ad_a1_nodes z_a1_nodes ++ w_Pg k ad_this (ad_this_keywords 0) (ad_a1_names 0) (ad_a1_nodes 0) u7 ++ w_Kw k ad_this_keywords z_this_keywords) := hD.sub [0, 1, 2, 3, 4, 5, 10, 11, 12, 13, 14, 15, 16, 17, 18, 19, 20, 6, 7, 8, 9] (by decide) rfl
        refine lv_istore_n (lv' := [(2, .int r8), (0, .ref (ad_this 0)), (1, .ref (ad_a1 0)), (3, .int x3)]) hx hb d_Pg_lay_70 rfl hl (by decide) rfl (fun ls hl => ?_)
        refine lv_goto (tgt := 79) hx hb d_Pg_lay_71 (by decide) ?_
        refine lv_iinc (v := (x3 + (1 : Int32))) (lv' := [(3, .int (x3 + (1 : Int32))), (2, .int r8), (0, .ref (ad_this 0)), (1, .ref (ad_a1 0))]) hx hb d_Pg_lay_79 hl (k := 3) rfl rfl (by decide) rfl (fun ls hl => ?_)
        refine lv_goto (tgt := 32) hx hb d_Pg_lay_82 (by decide) ?_
        exact ih u7 r8 (x3 + (1 : Int32)) H locs ls (lv_sub hl [2, 3, 1, 0] rfl) hP hD hS hw
set_option maxHeartbeats 4000000 in
set_option maxRecDepth 100000 in
theorem t_Pg_lay_L87 {p : Program} {l : Launch} {o : State × Array Value} {e : Env} {s : State} {m : MethodId} {args : Array Value} {below : List Frame} {meth : Method} {c : Code} {D : va_G} {k : Nat → ClassId} {w0 : va_W} {A : Nat → Prop} {ad_a1 : Nat → Nat} {ad_a1_names : Nat → Nat} {ad_a1_nodes : Nat → Nat} {ad_this : Nat → Nat} {ad_this_keywords : Nat → Nat} {z_a1 : T_Pr} {z_a1_names : T_Nm} {z_a1_nodes : T_Nd} {z_this_keywords : T_Kw} {post : Unit → T_Pg → Prop} (hAt : xq_At p s m args meth c prog_6_method_3_code 4 none y_Pg_lay xq_W) (hK : va_K D vwCl (xt k) s) (hJ : xq_J l o A s s.heap) (hAe : va_A w0 s.heap.size = A) (hA : ∀ q, s.heap.size ≤ q → A q) {K : T_Pg → Int32 → Int32 → Prop} (hX : ∀ (z_this : T_Pg) (x2 : Int32) (x3 : Int32) (H : Heap) (locs : List Loc) (ls : Array Slot), lv_has ls 4 [(0, .ref (ad_this 0)), (1, .ref (ad_a1 0)), (2, .int x2), (3, .int x3)] → va_P D vwCl (w_Pr k ad_a1 (ad_a1_names 0) (ad_a1_nodes 0) z_a1 ++ w_Nm k ad_a1_names z_a1_names ++ w_Nd k ad_a1_nodes z_a1_nodes ++ w_Pg k ad_this (ad_this_keywords 0) (ad_a1_names 0) (ad_a1_nodes 0) z_this ++ w_Kw k ad_this_keywords z_this_keywords) H → va_D A (w_Pr k ad_a1 (ad_a1_names 0) (ad_a1_nodes 0) z_a1 ++ w_Nm k ad_a1_names z_a1_names ++ w_Nd k ad_a1_nodes z_a1_nodes ++ w_Pg k ad_this (ad_this_keywords 0) (ad_a1_names 0) (ad_a1_nodes 0) z_this ++ w_Kw k ad_this_keywords z_this_keywords) → va_S A s.heap H locs → K z_this x2 x3 → W p l e rm_Pg_lay s m args below meth c H locs 0 0 (xq_Z below D vwCl (xt k) w0 (fun _ : Unit => none) post (fun _ : T_Pg => False) (fun u : T_Pg => w_Pr k ad_a1 (ad_a1_names 0) (ad_a1_nodes 0) z_a1 ++ w_Nm k ad_a1_names z_a1_names ++ w_Nd k ad_a1_nodes z_a1_nodes ++ w_Pg k ad_this (ad_this_keywords 0) (ad_a1_names 0) (ad_a1_nodes 0) u ++ w_Kw k ad_this_keywords z_this_keywords) 0 0 0 0 s) (F0 m 119 ls [])) :
    ∀ (n9 : Nat) (z_this : T_Pg) (x2 : Int32) (x3 : Int32) (H : Heap) (locs : List Loc) (ls : Array Slot), lv_has ls 4 [(0, .ref (ad_this 0)), (1, .ref (ad_a1 0)), (2, .int x2), (3, .int x3)] → va_P D vwCl (w_Pr k ad_a1 (ad_a1_names 0) (ad_a1_nodes 0) z_a1 ++ w_Nm k ad_a1_names z_a1_names ++ w_Nd k ad_a1_nodes z_a1_nodes ++ w_Pg k ad_this (ad_this_keywords 0) (ad_a1_names 0) (ad_a1_nodes 0) z_this ++ w_Kw k ad_this_keywords z_this_keywords) H → va_D A (w_Pr k ad_a1 (ad_a1_names 0) (ad_a1_nodes 0) z_a1 ++ w_Nm k ad_a1_names z_a1_names ++ w_Nd k ad_a1_nodes z_a1_nodes ++ w_Pg k ad_this (ad_this_keywords 0) (ad_a1_names 0) (ad_a1_nodes 0) z_this ++ w_Kw k ad_this_keywords z_this_keywords) → va_S A s.heap H locs → wp_Pg_lay_L87 z_a1 z_a1_names z_a1_nodes z_this_keywords K post n9 z_this x2 x3 → W p l e rm_Pg_lay s m args below meth c H locs 0 0 (xq_Z below D vwCl (xt k) w0 (fun _ : Unit => none) post (fun _ : T_Pg => False) (fun u : T_Pg => w_Pr k ad_a1 (ad_a1_names 0) (ad_a1_nodes 0) z_a1 ++ w_Nm k ad_a1_names z_a1_names ++ w_Nd k ad_a1_nodes z_a1_nodes ++ w_Pg k ad_this (ad_this_keywords 0) (ad_a1_names 0) (ad_a1_nodes 0) u ++ w_Kw k ad_this_keywords z_this_keywords) 0 0 0 0 s) (F0 m 87 ls []) := by
  obtain ⟨hx, hb, hml, hr, hlocks, hown, hts, hex, hnm⟩ := id hAt
  intro n9
  induction n9 with
  | zero => intro z_this x2 x3 H locs ls hl hP hD hS hw; exact False.elim (by rw [wp_Pg_lay_L87] at hw; exact hw)
  | succ n9 ih =>
    intro z_this x2 x3 H locs ls hl hP hD hS hw
    rw [wp_Pg_lay_L87] at hw
    refine lv_iload_n hx hb d_Pg_lay_87 rfl (lv_at hl 3 rfl) ?_
    refine lv_sipush (v := (1000 : Int32)) hx hb d_Pg_lay_88 (by decide) ?_
    refine lv_icmp_ge (tgt := 119) hx hb d_Pg_lay_91 (by decide) (fun hc => ?_) (fun hc => ?_)
    · have hw := hw.1 hc
      exact hX z_this x2 x3 H locs ls (lv_sub hl [0, 1, 2, 3] rfl) hP hD hS hw
    · have hw := hw.2 hc
      refine lv_iload_n hx hb d_Pg_lay_94 rfl (lv_at hl 2 rfl) ?_
      refine lv_iconst (v := (-1 : Int32)) hx hb d_Pg_lay_95 (by decide) ?_
      refine lv_icmp_eq (tgt := 119) hx hb d_Pg_lay_96 (by decide) (fun hc => ?_) (fun hc => ?_)
      · have hw := hw.1 hc
        exact hX z_this x2 x3 H locs ls (lv_sub hl [0, 1, 2, 3] rfl) hP hD hS hw
      · have hw := hw.2 hc
        refine lv_aload_n hx hb d_Pg_lay_99 rfl (lv_at hl 0 rfl) ?_
        refine lv_iload_n hx hb d_Pg_lay_100 rfl (lv_at hl 2 rfl) ?_
        refine xq_go (wr := w_Pr k ad_a1 (ad_a1_names 0) (ad_a1_nodes 0) z_a1) (stk := fun _ => []) (xq_runV (As := [.int x2]) (rest := []) ⟨hx, hb, hml, hown, hts⟩ (c_Pg_layNode (l := l) (o := o) (D := D) (k := k) (ad_this := ad_this) (ad_this_keywords := ad_this_keywords) (ad_this_names := ad_a1_names) (ad_this_nodes := ad_a1_nodes) hw) (cw_Pg_layNode hts kw4_32 ⟨Nat.le_of_ble_eq_true rfl, Nat.le_of_ble_eq_true rfl⟩) (va_recv hK hP (ci := 7) (q0 := 17) rfl rfl) (hP.sub [17, 18, 19, 20, 1, 2, 3, 4, 5, 6, 7, 8, 9, 10, 11, 12, 13, 14, 15, 16] rfl) hK hJ hS (va_free hD hS hA [17, 18, 19, 20, 1, 2, 3, 4, 5, 6, 7, 8, 9, 10, 11, 12, 13, 14, 15, 16] rfl) ((hD.sub [17, 18, 19, 20, 1, 2, 3, 4, 5, 6, 7, 8, 9, 10, 11, 12, 13, 14, 15, 16] (by decide) rfl).weaken (fun _ _ _ _ => trivial)) rfl hl.1 (Nat.le_of_ble_eq_true rfl) d_Pg_lay_101 ⟨Nat.le_of_ble_eq_true rfl, Nat.le_of_ble_eq_true rfl⟩) hP hD hS hA [17, 18, 19, 20, 1, 2, 3, 4, 5, 6, 7, 8, 9, 10, 11, 12, 13, 14, 15, 16] [0] rfl rfl (by decide) (by decide) (fun _ => rfl) (fun r9 u9 H locs hw hP hD hS => ?_) (fun _ _ _ _ h9 => h9.elim)
        have hP : va_P D vwCl (w_Pr k ad_a1 (ad_a1_names 0) (ad_a1_nodes 0) z_a1 ++ w_Nm k ad_a1_names z_a1_names ++ w_Nd k ad_a1_nodes z_a1_nodes ++ w_Pg k ad_this (ad_this_keywords 0) (ad_a1_names 0) (ad_a1_nodes 0) u9 ++ w_Kw k ad_this_keywords z_this_keywords) H := hP.sub [0, 5, 6, 7, 8, 9, 10, 11, 12, 13, 14, 15, 16, 17, 18, 19, 20, 1, 2, 3, 4] rfl
        have hD : va_D A (w_Pr k ad_a1 (ad_a1_names 0) (ad_a1_nodes 0) z_a1 ++ w_Nm k ad_a1_names z_a1_names ++ w_Nd k ad_a1_nodes z_a1_nodes ++ w_Pg k ad_this (ad_this_keywords 0) (ad_a1_names 0) (ad_a1_nodes 0) u9 ++ w_Kw k ad_this_keywords z_this_keywords) := hD.sub [0, 5, 6, 7, 8, 9, 10, 11, 12, 13, 14, 15, 16, 17, 18, 19, 20, 1, 2, 3, 4] (by decide) rfl
        refine lv_aload_n hx hb d_Pg_lay_104 rfl (lv_at hl 0 rfl) ?_
        refine va_get (D := D) (ci := 7) (v := .ref (ad_a1_nodes 0)) (C := R_Pg) (T := F_Pg) (N := 5) hx hb hts in_Pg hown hK hP 17 rfl rfl 4 (by decide) (hts (.fieldLink R_Pg 32 R_Pg "nodes" "LStepText$Nodes;") kw2_32) (fun _ h9 => h9) rfl d_Pg_lay_105 ?_
        refine lv_iload_n hx hb d_Pg_lay_108 rfl (lv_at hl 2 rfl) ?_
        refine xq_go (wr := w_Pr k ad_a1 (ad_a1_names 0) (ad_a1_nodes 0) z_a1 ++ w_Nm k ad_a1_names z_a1_names ++ w_Pg k ad_this (ad_this_keywords 0) (ad_a1_names 0) (ad_a1_nodes 0) u9 ++ w_Kw k ad_this_keywords z_this_keywords) (stk := fun r => .int r :: []) (xq_runV (As := [.int x2]) (rest := []) ⟨hx, hb, hml, hown, hts⟩ (c_Nd_nextOf (l := l) (o := o) (D := D) (k := k) (ad_this := ad_a1_nodes) hw) (cw_Nd_nextOf hts kw4_115 ⟨Nat.le_of_ble_eq_true rfl, Nat.le_of_ble_eq_true rfl⟩) (va_recv hK hP (ci := 4) (q0 := 6) rfl rfl) (hP.sub [6, 7, 8, 9, 10, 11, 12, 13, 14, 15, 16] rfl) hK hJ hS (va_free hD hS hA [6, 7, 8, 9, 10, 11, 12, 13, 14, 15, 16] rfl) ((hD.sub [6, 7, 8, 9, 10, 11, 12, 13, 14, 15, 16] (by decide) rfl).weaken (fun _ _ _ _ => trivial)) rfl hl.1 (Nat.le_of_ble_eq_true rfl) d_Pg_lay_109 ⟨Nat.le_of_ble_eq_true rfl, Nat.le_of_ble_eq_true rfl⟩) hP hD hS hA [6, 7, 8, 9, 10, 11, 12, 13, 14, 15, 16] [0, 1, 2, 3, 4, 5, 17, 18, 19, 20] rfl rfl (by decide) (by decide) (fun _ => rfl) (fun r10 u10 H locs hw hP hD hS => ?_) (fun _ _ _ _ h9 => h9.elim)
        have hP : va_P D vwCl (w_Pr k ad_a1 (ad_a1_names 0) (ad_a1_nodes 0) z_a1 ++ w_Nm k ad_a1_names z_a1_names ++ w_Nd k ad_a1_nodes z_a1_nodes ++ w_Pg k ad_this (ad_this_keywords 0) (ad_a1_names 0) (ad_a1_nodes 0) u9 ++ w_Kw k ad_this_keywords z_this_keywords) H := hP.sub [0, 1, 2, 3, 4, 5, 10, 11, 12, 13, 14, 15, 16, 17, 18, 19, 20, 6, 7, 8, 9] rfl
        have hD : va_D A (w_Pr k ad_a1 (ad_a1_names 0) (ad_a1_nodes 0) z_a1 ++ w_Nm k ad_a1_names z_a1_names ++ w_Nd k ad_a1_nodes z_a1_nodes ++ w_Pg k ad_this (ad_this_keywords 0) (ad_a1_names 0) (ad_a1_nodes 0) u9 ++ w_Kw k ad_this_keywords z_this_keywords) := hD.sub [0, 1, 2, 3, 4, 5, 10, 11, 12, 13, 14, 15, 16, 17, 18, 19, 20, 6, 7, 8, 9] (by decide) rfl
        refine lv_istore_n (lv' := [(2, .int r10), (0, .ref (ad_this 0)), (1, .ref (ad_a1 0)), (3, .int x3)]) hx hb d_Pg_lay_112 rfl hl (by decide) rfl (fun ls hl => ?_)
        refine lv_iinc (v := (x3 + (1 : Int32))) (lv' := [(3, .int (x3 + (1 : Int32))), (2, .int r10), (0, .ref (ad_this 0)), (1, .ref (ad_a1 0))]) hx hb d_Pg_lay_113 hl (k := 3) rfl rfl (by decide) rfl (fun ls hl => ?_)
        refine lv_goto (tgt := 87) hx hb d_Pg_lay_116 (by decide) ?_
        exact ih u9 r10 (x3 + (1 : Int32)) H locs ls (lv_sub hl [2, 3, 1, 0] rfl) hP hD hS hw
set_option maxHeartbeats 4000000 in
set_option maxRecDepth 100000 in
theorem c_Pg_lay {l : Launch} {o : State × Array Value} {D : va_G} {k : Nat → ClassId} {ad_a1 : Nat → Nat} {ad_a1_names : Nat → Nat} {ad_a1_nodes : Nat → Nat} {ad_this : Nat → Nat} {ad_this_keywords : Nat → Nat} {q_this_names : Nat} {q_this_nodes : Nat} {z_a1 : T_Pr} {z_a1_names : T_Nm} {z_a1_nodes : T_Nd} {z_this : T_Pg} {z_this_keywords : T_Kw} {post : Unit → T_Pg → Prop} (hw : wp_Pg_lay z_a1 z_a1_names z_a1_nodes z_this z_this_keywords post) : xq_C l o y_Pg_lay (.code y_Pg_lay prog_6_method_3_code 4 none :: xq_W) rm_Pg_lay D vwCl (xt k) [.ref (ad_this 0), .ref (ad_a1 0)] (w_Pr k ad_a1 (ad_a1_names 0) (ad_a1_nodes 0) z_a1 ++ w_Nm k ad_a1_names z_a1_names ++ w_Nd k ad_a1_nodes z_a1_nodes ++ w_Pg k ad_this (ad_this_keywords 0) q_this_names q_this_nodes z_this ++ w_Kw k ad_this_keywords z_this_keywords) (fun _ : Unit => none) post (fun _ : T_Pg => False) (fun u : T_Pg => w_Pr k ad_a1 (ad_a1_names 0) (ad_a1_nodes 0) z_a1 ++ w_Nm k ad_a1_names z_a1_names ++ w_Nd k ad_a1_nodes z_a1_nodes ++ w_Pg k ad_this (ad_this_keywords 0) (ad_a1_names 0) (ad_a1_nodes 0) u ++ w_Kw k ad_this_keywords z_this_keywords) 0 0 0 0 := by
  refine xq_ofW (cc := prog_6_method_3_code) (maxL := 4) (ret := none) (by decide) rfl (Nat.le_of_ble_eq_true rfl) ?_
  intro p e s m below meth c ls H locs A hAt hAe hA hl hK hJ hP0 hP hD hS
  obtain ⟨hx, hb, hml, hr, hlocks, hown, hts, hex, hnm⟩ := id hAt
  have hl : lv_has ls 4 [(0, .ref (ad_this 0)), (1, .ref (ad_a1 0))] := hl
  unfold wp_Pg_lay at hw
  refine lv_aload_n hx hb d_Pg_lay_0 rfl (lv_at hl 0 rfl) ?_
  refine lv_aload_n hx hb d_Pg_lay_1 rfl (lv_at hl 1 rfl) ?_
  refine xq_go (wr := w_Nm k ad_a1_names z_a1_names ++ w_Nd k ad_a1_nodes z_a1_nodes ++ w_Pg k ad_this (ad_this_keywords 0) q_this_names q_this_nodes z_this ++ w_Kw k ad_this_keywords z_this_keywords) (stk := fun _ => .ref (ad_a1_names 0) :: [.ref (ad_this 0)]) (xq_runV (As := []) (rest := [.ref (ad_this 0)]) ⟨hx, hb, hml, hown, hts⟩ (c_Pr_names (l := l) (o := o) (D := D) (k := k) (ad_this := ad_a1) (q_this_names := (ad_a1_names 0)) (q_this_nodes := (ad_a1_nodes 0)) hw) (cw_Pr_names hts kw2_26 ⟨Nat.le_of_ble_eq_true rfl, Nat.le_of_ble_eq_true rfl⟩) (va_recv hK hP (ci := 5) (q0 := 0) rfl rfl) (hP.sub [0] rfl) hK hJ hS (va_free hD hS hA [0] rfl) ((hD.sub [0] (by decide) rfl).weaken (fun _ _ _ _ => trivial)) rfl hl.1 (Nat.le_of_ble_eq_true rfl) d_Pg_lay_2 ⟨Nat.le_of_ble_eq_true rfl, Nat.le_of_ble_eq_true rfl⟩) hP hD hS hA [0] [1, 2, 3, 4, 5, 6, 7, 8, 9, 10, 11, 12, 13, 14, 15, 16, 17, 18, 19, 20] rfl rfl (by decide) (by decide) (fun _ => rfl) (fun r1 u1 H locs hw hP hD hS => ?_) (fun _ _ _ _ h9 => h9.elim)
  have hP : va_P D vwCl (w_Pr k ad_a1 (ad_a1_names 0) (ad_a1_nodes 0) z_a1 ++ w_Nm k ad_a1_names z_a1_names ++ w_Nd k ad_a1_nodes z_a1_nodes ++ w_Pg k ad_this (ad_this_keywords 0) q_this_names q_this_nodes z_this ++ w_Kw k ad_this_keywords z_this_keywords) H := hP.sub [20, 0, 1, 2, 3, 4, 5, 6, 7, 8, 9, 10, 11, 12, 13, 14, 15, 16, 17, 18, 19] rfl
  have hD : va_D A (w_Pr k ad_a1 (ad_a1_names 0) (ad_a1_nodes 0) z_a1 ++ w_Nm k ad_a1_names z_a1_names ++ w_Nd k ad_a1_nodes z_a1_nodes ++ w_Pg k ad_this (ad_this_keywords 0) q_this_names q_this_nodes z_this ++ w_Kw k ad_this_keywords z_this_keywords) := hD.sub [20, 0, 1, 2, 3, 4, 5, 6, 7, 8, 9, 10, 11, 12, 13, 14, 15, 16, 17, 18, 19] (by decide) rfl
  refine va_put (D := D) (ci := 7) (v := .ref (ad_a1_names 0)) (ty := (.object "StepText$Names")) (C := R_Pg) (T := F_Pg) (N := 5) hx hb hts in_Pg t_Pg t_Pg_ok n_Pg hown hK hP hD hS 17 rfl rfl 3 (by decide) (hts (.fieldLink R_Pg 25 R_Pg "names" "LStepText$Names;") kw2_31) (fun _ h9 => h9) rfl (by decide +kernel) rfl rfl (Nat.le_of_ble_eq_true rfl) d_Pg_lay_5 (fun H locs hP hD hS => ?_)
  have hP : va_P D vwCl (w_Pr k ad_a1 (ad_a1_names 0) (ad_a1_nodes 0) z_a1 ++ w_Nm k ad_a1_names z_a1_names ++ w_Nd k ad_a1_nodes z_a1_nodes ++ w_Pg k ad_this (ad_this_keywords 0) (ad_a1_names 0) q_this_nodes z_this ++ w_Kw k ad_this_keywords z_this_keywords) H := hP
  have hD : va_D A (w_Pr k ad_a1 (ad_a1_names 0) (ad_a1_nodes 0) z_a1 ++ w_Nm k ad_a1_names z_a1_names ++ w_Nd k ad_a1_nodes z_a1_nodes ++ w_Pg k ad_this (ad_this_keywords 0) (ad_a1_names 0) q_this_nodes z_this ++ w_Kw k ad_this_keywords z_this_keywords) := hD
  refine lv_aload_n hx hb d_Pg_lay_8 rfl (lv_at hl 0 rfl) ?_
  refine lv_aload_n hx hb d_Pg_lay_9 rfl (lv_at hl 1 rfl) ?_
  refine xq_go (wr := w_Nm k ad_a1_names z_a1_names ++ w_Nd k ad_a1_nodes z_a1_nodes ++ w_Pg k ad_this (ad_this_keywords 0) (ad_a1_names 0) q_this_nodes z_this ++ w_Kw k ad_this_keywords z_this_keywords) (stk := fun _ => .ref (ad_a1_nodes 0) :: [.ref (ad_this 0)]) (xq_runV (As := []) (rest := [.ref (ad_this 0)]) ⟨hx, hb, hml, hown, hts⟩ (c_Pr_nodes (l := l) (o := o) (D := D) (k := k) (ad_this := ad_a1) (q_this_names := (ad_a1_names 0)) (q_this_nodes := (ad_a1_nodes 0)) hw) (cw_Pr_nodes hts kw2_27 ⟨Nat.le_of_ble_eq_true rfl, Nat.le_of_ble_eq_true rfl⟩) (va_recv hK hP (ci := 5) (q0 := 0) rfl rfl) (hP.sub [0] rfl) hK hJ hS (va_free hD hS hA [0] rfl) ((hD.sub [0] (by decide) rfl).weaken (fun _ _ _ _ => trivial)) rfl hl.1 (Nat.le_of_ble_eq_true rfl) d_Pg_lay_10 ⟨Nat.le_of_ble_eq_true rfl, Nat.le_of_ble_eq_true rfl⟩) hP hD hS hA [0] [1, 2, 3, 4, 5, 6, 7, 8, 9, 10, 11, 12, 13, 14, 15, 16, 17, 18, 19, 20] rfl rfl (by decide) (by decide) (fun _ => rfl) (fun r2 u2 H locs hw hP hD hS => ?_) (fun _ _ _ _ h9 => h9.elim)
  have hP : va_P D vwCl (w_Pr k ad_a1 (ad_a1_names 0) (ad_a1_nodes 0) z_a1 ++ w_Nm k ad_a1_names z_a1_names ++ w_Nd k ad_a1_nodes z_a1_nodes ++ w_Pg k ad_this (ad_this_keywords 0) (ad_a1_names 0) q_this_nodes z_this ++ w_Kw k ad_this_keywords z_this_keywords) H := hP.sub [20, 0, 1, 2, 3, 4, 5, 6, 7, 8, 9, 10, 11, 12, 13, 14, 15, 16, 17, 18, 19] rfl
  have hD : va_D A (w_Pr k ad_a1 (ad_a1_names 0) (ad_a1_nodes 0) z_a1 ++ w_Nm k ad_a1_names z_a1_names ++ w_Nd k ad_a1_nodes z_a1_nodes ++ w_Pg k ad_this (ad_this_keywords 0) (ad_a1_names 0) q_this_nodes z_this ++ w_Kw k ad_this_keywords z_this_keywords) := hD.sub [20, 0, 1, 2, 3, 4, 5, 6, 7, 8, 9, 10, 11, 12, 13, 14, 15, 16, 17, 18, 19] (by decide) rfl
  refine va_put (D := D) (ci := 7) (v := .ref (ad_a1_nodes 0)) (ty := (.object "StepText$Nodes")) (C := R_Pg) (T := F_Pg) (N := 5) hx hb hts in_Pg t_Pg t_Pg_ok n_Pg hown hK hP hD hS 17 rfl rfl 4 (by decide) (hts (.fieldLink R_Pg 32 R_Pg "nodes" "LStepText$Nodes;") kw2_32) (fun _ h9 => h9) rfl (by decide +kernel) rfl rfl (Nat.le_of_ble_eq_true rfl) d_Pg_lay_13 (fun H locs hP hD hS => ?_)
  have hP : va_P D vwCl (w_Pr k ad_a1 (ad_a1_names 0) (ad_a1_nodes 0) z_a1 ++ w_Nm k ad_a1_names z_a1_names ++ w_Nd k ad_a1_nodes z_a1_nodes ++ w_Pg k ad_this (ad_this_keywords 0) (ad_a1_names 0) (ad_a1_nodes 0) z_this ++ w_Kw k ad_this_keywords z_this_keywords) H := hP
  have hD : va_D A (w_Pr k ad_a1 (ad_a1_names 0) (ad_a1_nodes 0) z_a1 ++ w_Nm k ad_a1_names z_a1_names ++ w_Nd k ad_a1_nodes z_a1_nodes ++ w_Pg k ad_this (ad_this_keywords 0) (ad_a1_names 0) (ad_a1_nodes 0) z_this ++ w_Kw k ad_this_keywords z_this_keywords) := hD
  refine lv_aload_n hx hb d_Pg_lay_16 rfl (lv_at hl 0 rfl) ?_
  refine lv_iconst (v := (0 : Int32)) hx hb d_Pg_lay_17 (by decide) ?_
  refine va_put (D := D) (ci := 7) (v := .int (0 : Int32)) (ty := .int) (C := R_Pg) (T := F_Pg) (N := 5) hx hb hts in_Pg t_Pg t_Pg_ok n_Pg hown hK hP hD hS 17 rfl rfl 2 (by decide) (hts (.fieldLink R_Pg 35 R_Pg "length" "I") kw2_30) (fun _ h9 => h9) rfl (by decide +kernel) rfl rfl (Nat.le_of_ble_eq_true rfl) d_Pg_lay_18 (fun H locs hP hD hS => ?_)
  have hP : va_P D vwCl (w_Pr k ad_a1 (ad_a1_names 0) (ad_a1_nodes 0) z_a1 ++ w_Nm k ad_a1_names z_a1_names ++ w_Nd k ad_a1_nodes z_a1_nodes ++ w_Pg k ad_this (ad_this_keywords 0) (ad_a1_names 0) (ad_a1_nodes 0) (z_this.1, (0 : Int32)) ++ w_Kw k ad_this_keywords z_this_keywords) H := hP
  have hD : va_D A (w_Pr k ad_a1 (ad_a1_names 0) (ad_a1_nodes 0) z_a1 ++ w_Nm k ad_a1_names z_a1_names ++ w_Nd k ad_a1_nodes z_a1_nodes ++ w_Pg k ad_this (ad_this_keywords 0) (ad_a1_names 0) (ad_a1_nodes 0) (z_this.1, (0 : Int32)) ++ w_Kw k ad_this_keywords z_this_keywords) := hD
  refine lv_aload_n hx hb d_Pg_lay_21 rfl (lv_at hl 0 rfl) ?_
  refine va_get (D := D) (ci := 7) (v := .ref (ad_a1_nodes 0)) (C := R_Pg) (T := F_Pg) (N := 5) hx hb hts in_Pg hown hK hP 17 rfl rfl 4 (by decide) (hts (.fieldLink R_Pg 32 R_Pg "nodes" "LStepText$Nodes;") kw2_32) (fun _ h9 => h9) rfl d_Pg_lay_22 ?_
  refine lv_iconst (v := (-1 : Int32)) hx hb d_Pg_lay_25 (by decide) ?_
  refine xq_go (wr := w_Pr k ad_a1 (ad_a1_names 0) (ad_a1_nodes 0) z_a1 ++ w_Nm k ad_a1_names z_a1_names ++ w_Pg k ad_this (ad_this_keywords 0) (ad_a1_names 0) (ad_a1_nodes 0) (z_this.1, (0 : Int32)) ++ w_Kw k ad_this_keywords z_this_keywords) (stk := fun r => .int r :: []) (xq_runV (As := [.int (-1 : Int32)]) (rest := []) ⟨hx, hb, hml, hown, hts⟩ (c_Nd_firstOf (l := l) (o := o) (D := D) (k := k) (ad_this := ad_a1_nodes) hw) (cw_Nd_firstOf hts kw4_29 ⟨Nat.le_of_ble_eq_true rfl, Nat.le_of_ble_eq_true rfl⟩) (va_recv hK hP (ci := 4) (q0 := 6) rfl rfl) (hP.sub [6, 7, 8, 9, 10, 11, 12, 13, 14, 15, 16] rfl) hK hJ hS (va_free hD hS hA [6, 7, 8, 9, 10, 11, 12, 13, 14, 15, 16] rfl) ((hD.sub [6, 7, 8, 9, 10, 11, 12, 13, 14, 15, 16] (by decide) rfl).weaken (fun _ _ _ _ => trivial)) rfl hl.1 (Nat.le_of_ble_eq_true rfl) d_Pg_lay_26 ⟨Nat.le_of_ble_eq_true rfl, Nat.le_of_ble_eq_true rfl⟩) hP hD hS hA [6, 7, 8, 9, 10, 11, 12, 13, 14, 15, 16] [0, 1, 2, 3, 4, 5, 17, 18, 19, 20] rfl rfl (by decide) (by decide) (fun _ => rfl) (fun r3 u3 H locs hw hP hD hS => ?_) (fun _ _ _ _ h9 => h9.elim)
  have hP : va_P D vwCl (w_Pr k ad_a1 (ad_a1_names 0) (ad_a1_nodes 0) z_a1 ++ w_Nm k ad_a1_names z_a1_names ++ w_Nd k ad_a1_nodes z_a1_nodes ++ w_Pg k ad_this (ad_this_keywords 0) (ad_a1_names 0) (ad_a1_nodes 0) (z_this.1, (0 : Int32)) ++ w_Kw k ad_this_keywords z_this_keywords) H := hP.sub [0, 1, 2, 3, 4, 5, 10, 11, 12, 13, 14, 15, 16, 17, 18, 19, 20, 6, 7, 8, 9] rfl
  have hD : va_D A (w_Pr k ad_a1 (ad_a1_names 0) (ad_a1_nodes 0) z_a1 ++ w_Nm k ad_a1_names z_a1_names ++ w_Nd k ad_a1_nodes z_a1_nodes ++ w_Pg k ad_this (ad_this_keywords 0) (ad_a1_names 0) (ad_a1_nodes 0) (z_this.1, (0 : Int32)) ++ w_Kw k ad_this_keywords z_this_keywords) := hD.sub [0, 1, 2, 3, 4, 5, 10, 11, 12, 13, 14, 15, 16, 17, 18, 19, 20, 6, 7, 8, 9] (by decide) rfl
  refine lv_istore_n (lv' := [(2, .int r3), (0, .ref (ad_this 0)), (1, .ref (ad_a1 0))]) hx hb d_Pg_lay_29 rfl hl (by decide) rfl (fun ls hl => ?_)
  refine lv_iconst (v := (0 : Int32)) hx hb d_Pg_lay_30 (by decide) ?_
  refine lv_istore_n (lv' := [(3, .int (0 : Int32)), (2, .int r3), (0, .ref (ad_this 0)), (1, .ref (ad_a1 0))]) hx hb d_Pg_lay_31 rfl hl (by decide) rfl (fun ls hl => ?_)
  obtain ⟨k9, hw⟩ := hw
  refine t_Pg_lay_L32 hAt hK hJ hAe hA ?_ k9 (z_this.1, (0 : Int32)) r3 (0 : Int32) H locs ls (lv_sub hl [2, 3, 1, 0] rfl) hP hD hS hw
  intro z_this x2 x3 H locs ls hl hP hD hS hw
  refine lv_iconst (v := (0 : Int32)) hx hb d_Pg_lay_85 (by decide) ?_
  refine lv_istore_n (lv' := [(3, .int (0 : Int32)), (0, .ref (ad_this 0)), (1, .ref (ad_a1 0)), (2, .int x2)]) hx hb d_Pg_lay_86 rfl hl (by decide) rfl (fun ls hl => ?_)
  obtain ⟨k9, hw⟩ := hw
  refine t_Pg_lay_L87 hAt hK hJ hAe hA ?_ k9 z_this x2 (0 : Int32) H locs ls (lv_sub hl [1, 2, 3, 0] rfl) hP hD hS hw
  intro z_this x2 x3 H locs ls hl hP hD hS hw
  refine lv_aload_n hx hb d_Pg_lay_119 rfl (lv_at hl 0 rfl) ?_
  refine xq_go (wr := w_Pr k ad_a1 (ad_a1_names 0) (ad_a1_nodes 0) z_a1 ++ w_Nm k ad_a1_names z_a1_names ++ w_Nd k ad_a1_nodes z_a1_nodes ++ w_Kw k ad_this_keywords z_this_keywords) (stk := fun _ => []) (xq_runV (As := []) (rest := []) ⟨hx, hb, hml, hown, hts⟩ (c_Pg_beginLine (l := l) (o := o) (D := D) (k := k) (ad_this := ad_this) (q_this_keywords := (ad_this_keywords 0)) (q_this_names := (ad_a1_names 0)) (q_this_nodes := (ad_a1_nodes 0)) hw) (cw_Pg_beginLine hts kw4_91 ⟨Nat.le_of_ble_eq_true rfl, Nat.le_of_ble_eq_true rfl⟩) (va_recv hK hP (ci := 7) (q0 := 17) rfl rfl) (hP.sub [17, 18] rfl) hK hJ hS (va_free hD hS hA [17, 18] rfl) ((hD.sub [17, 18] (by decide) rfl).weaken (fun _ _ _ _ => trivial)) rfl hl.1 (Nat.le_of_ble_eq_true rfl) d_Pg_lay_120 ⟨Nat.le_of_ble_eq_true rfl, Nat.le_of_ble_eq_true rfl⟩) hP hD hS hA [17, 18] [0, 1, 2, 3, 4, 5, 6, 7, 8, 9, 10, 11, 12, 13, 14, 15, 16, 19, 20] rfl rfl (by decide) (by decide) (fun _ => rfl) (fun r11 u11 H locs hw hP hD hS => ?_) (fun _ _ _ _ h9 => h9.elim)
  have hP : va_P D vwCl (w_Pr k ad_a1 (ad_a1_names 0) (ad_a1_nodes 0) z_a1 ++ w_Nm k ad_a1_names z_a1_names ++ w_Nd k ad_a1_nodes z_a1_nodes ++ w_Pg k ad_this (ad_this_keywords 0) (ad_a1_names 0) (ad_a1_nodes 0) u11 ++ w_Kw k ad_this_keywords z_this_keywords) H := hP.sub [0, 1, 2, 3, 4, 5, 6, 7, 8, 9, 10, 11, 12, 13, 14, 15, 16, 19, 20, 17, 18] rfl
  have hD : va_D A (w_Pr k ad_a1 (ad_a1_names 0) (ad_a1_nodes 0) z_a1 ++ w_Nm k ad_a1_names z_a1_names ++ w_Nd k ad_a1_nodes z_a1_nodes ++ w_Pg k ad_this (ad_this_keywords 0) (ad_a1_names 0) (ad_a1_nodes 0) u11 ++ w_Kw k ad_this_keywords z_this_keywords) := hD.sub [0, 1, 2, 3, 4, 5, 6, 7, 8, 9, 10, 11, 12, 13, 14, 15, 16, 19, 20, 17, 18] (by decide) rfl
  exact xq_vret (r := ()) (u := u11) hx hb hr hlocks hAe hP hD hS rfl hw (Nat.le_of_ble_eq_true rfl) (Nat.le_of_ble_eq_true rfl) d_Pg_lay_123
theorem cw_Pg_lay {R : Room} {s : State} {args : Array Value} {own : String} {index : Nat} (hts : ∀ w ∈ xq_W, w.before args s = true) (hl : .methodLink own index y_Pg_lay ∈ xq_W) {rm : Room} (hR : rm.frames + 1 ≤ R.frames ∧ 8 + (4 + 11) + rm.locals ≤ R.locals) : CallW R s args own "StepText$Page" index y_Pg_lay prog_6_method_3_code 4 none (.code y_Pg_lay prog_6_method_3_code 4 none :: xq_W) rm rm.cells rm.slots 1 := ⟨xq_cb 1 hts kw4_28 kw1_12 hl ⟨by decide, by decide, by decide +kernel⟩ hR, hts _ kw4_26, hts _ kw4_27⟩
