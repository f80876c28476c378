theorem kw6_51 : (Jvm.Cond.code ({ cls := "StepTextModel", name := "sumOut", desc := "(IIZ)V" } : Jvm.MethodName) prog_10_method_59_code (6 : Nat) (Option.none : Option Jvm.ClassFile.FieldType)) ∈ xq_W := xq_in tb_6 51 rfl rfl
theorem kw6_50 : (Jvm.Cond.instanceMethod ({ cls := "StepTextModel", name := "sumOut", desc := "(IIZ)V" } : Jvm.MethodName)) ∈ xq_W := xq_in tb_6 50 (by decide +kernel) rfl
theorem kp6_14 : Cond.selects "StepTextModel" (⟨"StepTextModel", "sumOut", "(IIZ)V"⟩ : MethodName) (⟨"StepTextModel", "sumOut", "(IIZ)V"⟩ : MethodName) ∈ xq_W := xq_inp tp_6 (y := (⟨"StepTextModel", "sumOut", "(IIZ)V"⟩ : MethodName)) (k := 42) 14 (by decide +kernel)
theorem kw6_52 : (Jvm.Cond.methodLink "StepTextModel" (350 : Nat) ({ cls := "StepTextModel", name := "isSum", desc := "(I)Z" } : Jvm.MethodName)) ∈ xq_W := xq_in tb_6 52 (by decide +kernel) rfl
theorem kw6_55 : (Jvm.Cond.methodLink "StepTextModel" (353 : Nat) ({ cls := "StepTextModel", name := "isProduct", desc := "(I)Z" } : Jvm.MethodName)) ∈ xq_W := xq_in tb_6 55 (by decide +kernel) rfl
theorem kw6_48 : (Jvm.Cond.methodLink "StepTextModel" (366 : Nat) ({ cls := "StepTextModel", name := "sumOut", desc := "(IIZ)V" } : Jvm.MethodName)) ∈ xq_W := xq_in tb_6 48 (by decide +kernel) rfl
theorem kw6_72 : (Jvm.Cond.constantLong "StepTextModel" (378 : Nat) (62 : Int64)) ∈ xq_W := xq_in tb_6 72 (by decide +kernel) rfl
theorem kw6_73 : (Jvm.Cond.constantLong "StepTextModel" (380 : Nat) (41 : Int64)) ∈ xq_W := xq_in tb_6 73 (by decide +kernel) rfl
theorem kw6_71 : (Jvm.Cond.constantLong "StepTextModel" (376 : Nat) (61 : Int64)) ∈ xq_W := xq_in tb_6 71 (by decide +kernel) rfl
theorem kw6_70 : (Jvm.Cond.constantLong "StepTextModel" (374 : Nat) (47 : Int64)) ∈ xq_W := xq_in tb_6 70 (by decide +kernel) rfl
theorem kw6_69 : (Jvm.Cond.constantLong "StepTextModel" (372 : Nat) (42 : Int64)) ∈ xq_W := xq_in tb_6 69 (by decide +kernel) rfl
theorem kw6_67 : (Jvm.Cond.constantLong "StepTextModel" (364 : Nat) (45 : Int64)) ∈ xq_W := xq_in tb_6 67 (by decide +kernel) rfl
theorem kw6_68 : (Jvm.Cond.constantLong "StepTextModel" (370 : Nat) (43 : Int64)) ∈ xq_W := xq_in tb_6 68 (by decide +kernel) rfl
theorem kw6_28 : (Jvm.Cond.methodLink "StepTextModel" (361 : Nat) ({ cls := "StepTextModel", name := "name", desc := "(J)V" } : Jvm.MethodName)) ∈ xq_W := xq_in tb_6 28 (by decide +kernel) rfl
theorem kw6_59 : (Jvm.Cond.methodLink "StepTextModel" (358 : Nat) ({ cls := "StepTextModel", name := "numberOut", desc := "(I)V" } : Jvm.MethodName)) ∈ xq_W := xq_in tb_6 59 (by decide +kernel) rfl
theorem kw6_58 : (Jvm.Cond.constantLong "StepTextModel" (356 : Nat) (40 : Int64)) ∈ xq_W := xq_in tb_6 58 (by decide +kernel) rfl
def y_Mo_sumOut : MethodName := ⟨"StepTextModel", "sumOut", "(IIZ)V"⟩
theorem cw_Mo_sumOut {R : Room} {s : State} {args : Array Value} {own : String} {index : Nat} (hts : ∀ w ∈ xq_W, w.before args s = true) (hl : .methodLink own index y_Mo_sumOut ∈ xq_W) {rm : Room} (hR : rm.frames + 1 ≤ R.frames ∧ 8 + (6 + 11) + rm.locals ≤ R.locals) : CallW R s args own "StepTextModel" index y_Mo_sumOut prog_10_method_59_code 6 none (.code y_Mo_sumOut prog_10_method_59_code 6 none :: xq_W) rm rm.cells rm.slots 3 := ⟨xq_cb 3 hts kw6_51 kw1_13 hl ⟨by decide, by decide, by decide +kernel⟩ hR, hts _ kw6_50, hts _ kp6_14⟩
theorem d_Mo_sumOut_0 : decode prog_10_method_59_code 0 = .ok (.aload_n 0, 1) := by decide +kernel
theorem d_Mo_sumOut_1 : decode prog_10_method_59_code 1 = .ok (.getfield 13, 3) := by decide +kernel
theorem d_Mo_sumOut_4 : decode prog_10_method_59_code 4 = .ok (.aload_n 0, 1) := by decide +kernel
theorem d_Mo_sumOut_5 : decode prog_10_method_59_code 5 = .ok (.iload_n 1, 1) := by decide +kernel
theorem d_Mo_sumOut_6 : decode prog_10_method_59_code 6 = .ok (.invokevirtual 301, 3) := by decide +kernel
theorem d_Mo_sumOut_9 : decode prog_10_method_59_code 9 = .ok (.iaload, 1) := by decide +kernel
theorem d_Mo_sumOut_10 : decode prog_10_method_59_code 10 = .ok (.istore 4, 2) := by decide +kernel
theorem d_Mo_sumOut_12 : decode prog_10_method_59_code 12 = .ok (.iload 4, 2) := by decide +kernel
theorem d_Mo_sumOut_14 : decode prog_10_method_59_code 14 = .ok (.invokestatic 350, 3) := by decide +kernel
theorem d_Mo_sumOut_17 : decode prog_10_method_59_code 17 = .ok (.ifCond .eq 27, 3) := by decide +kernel
theorem d_Mo_sumOut_20 : decode prog_10_method_59_code 20 = .ok (.iload_n 2, 1) := by decide +kernel
theorem d_Mo_sumOut_21 : decode prog_10_method_59_code 21 = .ok (.invokestatic 353, 3) := by decide +kernel
theorem d_Mo_sumOut_24 : decode prog_10_method_59_code 24 = .ok (.ifCond .ne 45, 3) := by decide +kernel
theorem d_Mo_sumOut_27 : decode prog_10_method_59_code 27 = .ok (.iload_n 2, 1) := by decide +kernel
theorem d_Mo_sumOut_28 : decode prog_10_method_59_code 28 = .ok (.bipush 6, 2) := by decide +kernel
theorem d_Mo_sumOut_30 : decode prog_10_method_59_code 30 = .ok (.if_icmp .eq 39, 3) := by decide +kernel
theorem d_Mo_sumOut_33 : decode prog_10_method_59_code 33 = .ok (.iload_n 2, 1) := by decide +kernel
theorem d_Mo_sumOut_34 : decode prog_10_method_59_code 34 = .ok (.invokestatic 350, 3) := by decide +kernel
theorem d_Mo_sumOut_37 : decode prog_10_method_59_code 37 = .ok (.ifCond .eq 7, 3) := by decide +kernel
theorem d_Mo_sumOut_40 : decode prog_10_method_59_code 40 = .ok (.iload_n 3, 1) := by decide +kernel
theorem d_Mo_sumOut_41 : decode prog_10_method_59_code 41 = .ok (.ifCond .eq 28, 3) := by decide +kernel
theorem d_Mo_sumOut_44 : decode prog_10_method_59_code 44 = .ok (.iload 4, 2) := by decide +kernel
theorem d_Mo_sumOut_46 : decode prog_10_method_59_code 46 = .ok (.invokestatic 353, 3) := by decide +kernel
theorem d_Mo_sumOut_49 : decode prog_10_method_59_code 49 = .ok (.ifCond .eq 24, 3) := by decide +kernel
theorem d_Mo_sumOut_52 : decode prog_10_method_59_code 52 = .ok (.iload_n 2, 1) := by decide +kernel
theorem d_Mo_sumOut_53 : decode prog_10_method_59_code 53 = .ok (.bipush 6, 2) := by decide +kernel
theorem d_Mo_sumOut_55 : decode prog_10_method_59_code 55 = .ok (.if_icmp .eq 14, 3) := by decide +kernel
theorem d_Mo_sumOut_58 : decode prog_10_method_59_code 58 = .ok (.iload_n 2, 1) := by decide +kernel
theorem d_Mo_sumOut_59 : decode prog_10_method_59_code 59 = .ok (.invokestatic 353, 3) := by decide +kernel
theorem d_Mo_sumOut_62 : decode prog_10_method_59_code 62 = .ok (.ifCond .eq 11, 3) := by decide +kernel
theorem d_Mo_sumOut_65 : decode prog_10_method_59_code 65 = .ok (.iload_n 3, 1) := by decide +kernel
theorem d_Mo_sumOut_66 : decode prog_10_method_59_code 66 = .ok (.ifCond .ne 7, 3) := by decide +kernel
theorem d_Mo_sumOut_69 : decode prog_10_method_59_code 69 = .ok (.iconst 1, 1) := by decide +kernel
theorem d_Mo_sumOut_70 : decode prog_10_method_59_code 70 = .ok (.goto 4, 3) := by decide +kernel
theorem d_Mo_sumOut_73 : decode prog_10_method_59_code 73 = .ok (.iconst 0, 1) := by decide +kernel
theorem d_Mo_sumOut_74 : decode prog_10_method_59_code 74 = .ok (.istore 5, 2) := by decide +kernel
theorem d_Mo_sumOut_76 : decode prog_10_method_59_code 76 = .ok (.iload 5, 2) := by decide +kernel
theorem d_Mo_sumOut_78 : decode prog_10_method_59_code 78 = .ok (.ifCond .eq 10, 3) := by decide +kernel
theorem d_Mo_sumOut_81 : decode prog_10_method_59_code 81 = .ok (.aload_n 0, 1) := by decide +kernel
theorem d_Mo_sumOut_82 : decode prog_10_method_59_code 82 = .ok (.ldc2_w 356, 3) := by decide +kernel
theorem d_Mo_sumOut_85 : decode prog_10_method_59_code 85 = .ok (.invokevirtual 341, 3) := by decide +kernel
theorem d_Mo_sumOut_88 : decode prog_10_method_59_code 88 = .ok (.iload 4, 2) := by decide +kernel
theorem d_Mo_sumOut_90 : decode prog_10_method_59_code 90 = .ok (.ifCond .ne 11, 3) := by decide +kernel
theorem d_Mo_sumOut_93 : decode prog_10_method_59_code 93 = .ok (.aload_n 0, 1) := by decide +kernel
theorem d_Mo_sumOut_94 : decode prog_10_method_59_code 94 = .ok (.iload_n 1, 1) := by decide +kernel
theorem d_Mo_sumOut_95 : decode prog_10_method_59_code 95 = .ok (.invokevirtual 358, 3) := by decide +kernel
theorem d_Mo_sumOut_98 : decode prog_10_method_59_code 98 = .ok (.goto 163, 3) := by decide +kernel
theorem d_Mo_sumOut_101 : decode prog_10_method_59_code 101 = .ok (.iload 4, 2) := by decide +kernel
theorem d_Mo_sumOut_103 : decode prog_10_method_59_code 103 = .ok (.iconst 1, 1) := by decide +kernel
theorem d_Mo_sumOut_104 : decode prog_10_method_59_code 104 = .ok (.if_icmp .ne 20, 3) := by decide +kernel
theorem d_Mo_sumOut_107 : decode prog_10_method_59_code 107 = .ok (.aload_n 0, 1) := by decide +kernel
theorem d_Mo_sumOut_108 : decode prog_10_method_59_code 108 = .ok (.aload_n 0, 1) := by decide +kernel
theorem d_Mo_sumOut_109 : decode prog_10_method_59_code 109 = .ok (.getfield 17, 3) := by decide +kernel
theorem d_Mo_sumOut_112 : decode prog_10_method_59_code 112 = .ok (.aload_n 0, 1) := by decide +kernel
theorem d_Mo_sumOut_113 : decode prog_10_method_59_code 113 = .ok (.iload_n 1, 1) := by decide +kernel
theorem d_Mo_sumOut_114 : decode prog_10_method_59_code 114 = .ok (.invokevirtual 301, 3) := by decide +kernel
theorem d_Mo_sumOut_117 : decode prog_10_method_59_code 117 = .ok (.laload, 1) := by decide +kernel
theorem d_Mo_sumOut_118 : decode prog_10_method_59_code 118 = .ok (.invokevirtual 361, 3) := by decide +kernel
theorem d_Mo_sumOut_121 : decode prog_10_method_59_code 121 = .ok (.goto 140, 3) := by decide +kernel
theorem d_Mo_sumOut_124 : decode prog_10_method_59_code 124 = .ok (.iload 4, 2) := by decide +kernel
theorem d_Mo_sumOut_126 : decode prog_10_method_59_code 126 = .ok (.bipush 6, 2) := by decide +kernel
theorem d_Mo_sumOut_128 : decode prog_10_method_59_code 128 = .ok (.if_icmp .ne 26, 3) := by decide +kernel
theorem d_Mo_sumOut_131 : decode prog_10_method_59_code 131 = .ok (.aload_n 0, 1) := by decide +kernel
theorem d_Mo_sumOut_132 : decode prog_10_method_59_code 132 = .ok (.ldc2_w 364, 3) := by decide +kernel
theorem d_Mo_sumOut_135 : decode prog_10_method_59_code 135 = .ok (.invokevirtual 341, 3) := by decide +kernel
theorem d_Mo_sumOut_138 : decode prog_10_method_59_code 138 = .ok (.aload_n 0, 1) := by decide +kernel
theorem d_Mo_sumOut_139 : decode prog_10_method_59_code 139 = .ok (.aload_n 0, 1) := by decide +kernel
theorem d_Mo_sumOut_140 : decode prog_10_method_59_code 140 = .ok (.iload_n 1, 1) := by decide +kernel
theorem d_Mo_sumOut_141 : decode prog_10_method_59_code 141 = .ok (.iconst 0, 1) := by decide +kernel
theorem d_Mo_sumOut_142 : decode prog_10_method_59_code 142 = .ok (.invokevirtual 306, 3) := by decide +kernel
theorem d_Mo_sumOut_145 : decode prog_10_method_59_code 145 = .ok (.bipush 6, 2) := by decide +kernel
theorem d_Mo_sumOut_147 : decode prog_10_method_59_code 147 = .ok (.iconst 1, 1) := by decide +kernel
theorem d_Mo_sumOut_148 : decode prog_10_method_59_code 148 = .ok (.invokevirtual 366, 3) := by decide +kernel
theorem d_Mo_sumOut_151 : decode prog_10_method_59_code 151 = .ok (.goto 110, 3) := by decide +kernel
theorem d_Mo_sumOut_154 : decode prog_10_method_59_code 154 = .ok (.aload_n 0, 1) := by decide +kernel
theorem d_Mo_sumOut_155 : decode prog_10_method_59_code 155 = .ok (.aload_n 0, 1) := by decide +kernel
theorem d_Mo_sumOut_156 : decode prog_10_method_59_code 156 = .ok (.iload_n 1, 1) := by decide +kernel
theorem d_Mo_sumOut_157 : decode prog_10_method_59_code 157 = .ok (.iconst 0, 1) := by decide +kernel
theorem d_Mo_sumOut_158 : decode prog_10_method_59_code 158 = .ok (.invokevirtual 306, 3) := by decide +kernel
theorem d_Mo_sumOut_161 : decode prog_10_method_59_code 161 = .ok (.iload 4, 2) := by decide +kernel
theorem d_Mo_sumOut_163 : decode prog_10_method_59_code 163 = .ok (.iconst 1, 1) := by decide +kernel
theorem d_Mo_sumOut_164 : decode prog_10_method_59_code 164 = .ok (.invokevirtual 366, 3) := by decide +kernel
theorem d_Mo_sumOut_167 : decode prog_10_method_59_code 167 = .ok (.aload_n 0, 1) := by decide +kernel
theorem d_Mo_sumOut_168 : decode prog_10_method_59_code 168 = .ok (.iload 4, 2) := by decide +kernel
theorem d_Mo_sumOut_170 : decode prog_10_method_59_code 170 = .ok (.iconst 2, 1) := by decide +kernel
theorem d_Mo_sumOut_171 : decode prog_10_method_59_code 171 = .ok (.if_icmp .ne 9, 3) := by decide +kernel
theorem d_Mo_sumOut_174 : decode prog_10_method_59_code 174 = .ok (.ldc2_w 370, 3) := by decide +kernel
theorem d_Mo_sumOut_177 : decode prog_10_method_59_code 177 = .ok (.goto 68, 3) := by decide +kernel
theorem d_Mo_sumOut_180 : decode prog_10_method_59_code 180 = .ok (.iload 4, 2) := by decide +kernel
theorem d_Mo_sumOut_182 : decode prog_10_method_59_code 182 = .ok (.iconst 3, 1) := by decide +kernel
theorem d_Mo_sumOut_183 : decode prog_10_method_59_code 183 = .ok (.if_icmp .ne 9, 3) := by decide +kernel
theorem d_Mo_sumOut_186 : decode prog_10_method_59_code 186 = .ok (.ldc2_w 364, 3) := by decide +kernel
theorem d_Mo_sumOut_189 : decode prog_10_method_59_code 189 = .ok (.goto 56, 3) := by decide +kernel
theorem d_Mo_sumOut_192 : decode prog_10_method_59_code 192 = .ok (.iload 4, 2) := by decide +kernel
theorem d_Mo_sumOut_194 : decode prog_10_method_59_code 194 = .ok (.iconst 4, 1) := by decide +kernel
theorem d_Mo_sumOut_195 : decode prog_10_method_59_code 195 = .ok (.if_icmp .ne 9, 3) := by decide +kernel
theorem d_Mo_sumOut_198 : decode prog_10_method_59_code 198 = .ok (.ldc2_w 372, 3) := by decide +kernel
theorem d_Mo_sumOut_201 : decode prog_10_method_59_code 201 = .ok (.goto 44, 3) := by decide +kernel
theorem d_Mo_sumOut_204 : decode prog_10_method_59_code 204 = .ok (.iload 4, 2) := by decide +kernel
theorem d_Mo_sumOut_206 : decode prog_10_method_59_code 206 = .ok (.iconst 5, 1) := by decide +kernel
theorem d_Mo_sumOut_207 : decode prog_10_method_59_code 207 = .ok (.if_icmp .ne 9, 3) := by decide +kernel
theorem d_Mo_sumOut_210 : decode prog_10_method_59_code 210 = .ok (.ldc2_w 374, 3) := by decide +kernel
theorem d_Mo_sumOut_213 : decode prog_10_method_59_code 213 = .ok (.goto 32, 3) := by decide +kernel
theorem d_Mo_sumOut_216 : decode prog_10_method_59_code 216 = .ok (.iload 4, 2) := by decide +kernel
theorem d_Mo_sumOut_218 : decode prog_10_method_59_code 218 = .ok (.bipush 7, 2) := by decide +kernel
theorem d_Mo_sumOut_220 : decode prog_10_method_59_code 220 = .ok (.if_icmp .ne 9, 3) := by decide +kernel
theorem d_Mo_sumOut_223 : decode prog_10_method_59_code 223 = .ok (.ldc2_w 245, 3) := by decide +kernel
theorem d_Mo_sumOut_226 : decode prog_10_method_59_code 226 = .ok (.goto 19, 3) := by decide +kernel
theorem d_Mo_sumOut_229 : decode prog_10_method_59_code 229 = .ok (.iload 4, 2) := by decide +kernel
theorem d_Mo_sumOut_231 : decode prog_10_method_59_code 231 = .ok (.bipush 8, 2) := by decide +kernel
theorem d_Mo_sumOut_233 : decode prog_10_method_59_code 233 = .ok (.if_icmp .ne 9, 3) := by decide +kernel
theorem d_Mo_sumOut_236 : decode prog_10_method_59_code 236 = .ok (.ldc2_w 376, 3) := by decide +kernel
theorem d_Mo_sumOut_239 : decode prog_10_method_59_code 239 = .ok (.goto 6, 3) := by decide +kernel
theorem d_Mo_sumOut_242 : decode prog_10_method_59_code 242 = .ok (.ldc2_w 378, 3) := by decide +kernel
theorem d_Mo_sumOut_245 : decode prog_10_method_59_code 245 = .ok (.invokevirtual 341, 3) := by decide +kernel
theorem d_Mo_sumOut_248 : decode prog_10_method_59_code 248 = .ok (.aload_n 0, 1) := by decide +kernel
theorem d_Mo_sumOut_249 : decode prog_10_method_59_code 249 = .ok (.aload_n 0, 1) := by decide +kernel
theorem d_Mo_sumOut_250 : decode prog_10_method_59_code 250 = .ok (.iload_n 1, 1) := by decide +kernel
theorem d_Mo_sumOut_251 : decode prog_10_method_59_code 251 = .ok (.iconst 1, 1) := by decide +kernel
theorem d_Mo_sumOut_252 : decode prog_10_method_59_code 252 = .ok (.invokevirtual 306, 3) := by decide +kernel
theorem d_Mo_sumOut_255 : decode prog_10_method_59_code 255 = .ok (.iload 4, 2) := by decide +kernel
theorem d_Mo_sumOut_257 : decode prog_10_method_59_code 257 = .ok (.iconst 0, 1) := by decide +kernel
theorem d_Mo_sumOut_258 : decode prog_10_method_59_code 258 = .ok (.invokevirtual 366, 3) := by decide +kernel
theorem d_Mo_sumOut_261 : decode prog_10_method_59_code 261 = .ok (.iload 5, 2) := by decide +kernel
theorem d_Mo_sumOut_263 : decode prog_10_method_59_code 263 = .ok (.ifCond .eq 10, 3) := by decide +kernel
theorem d_Mo_sumOut_266 : decode prog_10_method_59_code 266 = .ok (.aload_n 0, 1) := by decide +kernel
theorem d_Mo_sumOut_267 : decode prog_10_method_59_code 267 = .ok (.ldc2_w 380, 3) := by decide +kernel
theorem d_Mo_sumOut_270 : decode prog_10_method_59_code 270 = .ok (.invokevirtual 341, 3) := by decide +kernel
theorem d_Mo_sumOut_273 : decode prog_10_method_59_code 273 = .ok (.return_, 1) := by decide +kernel
def wp_Mo_sumOut_J273 (rf : T_Mo → Int32 → Int32 → Int32 → (Unit → T_Mo → Prop) → Prop) (post : Unit → T_Mo → Prop) (z_this : T_Mo) (x1 : Int32) (x2 : Int32) (x3 : Int32) (x4 : Int32) (x5 : Int32) : Prop := post () z_this
def wp_Mo_sumOut_J261 (rf : T_Mo → Int32 → Int32 → Int32 → (Unit → T_Mo → Prop) → Prop) (post : Unit → T_Mo → Prop) (z_this : T_Mo) (x1 : Int32) (x2 : Int32) (x3 : Int32) (x4 : Int32) (x5 : Int32) : Prop := (x5 = 0 → (wp_Mo_sumOut_J273 rf post z_this x1 x2 x3 x4 x5)) ∧ (¬ x5 = 0 → (wp_Mo_word z_this (41 : Int64) (fun (r9 : Unit) (u9 : T_Mo) => wp_Mo_sumOut_J273 rf post u9 x1 x2 x3 x4 x5)))
def wp_Mo_sumOut_J245 (rf : T_Mo → Int32 → Int32 → Int32 → (Unit → T_Mo → Prop) → Prop) (post : Unit → T_Mo → Prop) (z_this : T_Mo) (x1 : Int32) (x2 : Int32) (x3 : Int32) (x4 : Int32) (x5 : Int32) (y0 : Int64) : Prop := wp_Mo_word z_this y0 (fun (r6 : Unit) (u6 : T_Mo) => wp_Mo_kid u6 x1 (1 : Int32) (fun (r7 : Int32) (u7 : Unit) => rf u6 r7 x4 (0 : Int32) (fun (r8 : Unit) (u8 : T_Mo) => wp_Mo_sumOut_J261 rf post u8 x1 x2 x3 x4 x5)))
def wp_Mo_sumOut_J88 (rf : T_Mo → Int32 → Int32 → Int32 → (Unit → T_Mo → Prop) → Prop) (post : Unit → T_Mo → Prop) (z_this : T_Mo) (x1 : Int32) (x2 : Int32) (x3 : Int32) (x4 : Int32) (x5 : Int32) : Prop := (x4 = 0 → (wp_Mo_numberOut z_this x1 (fun (r15 : Unit) (u15 : T_Mo) => wp_Mo_sumOut_J261 rf post u15 x1 x2 x3 x4 x5))) ∧ (¬ x4 = 0 → ((x4 = (1 : Int32) → (wp_Mo_node1 z_this x1 (fun (r13 : Int32) (u13 : Unit) => vp_in r13 2000 ∧ (wp_Mo_name z_this (z_this.1.2.2.1.1 (r13).toNatClampNeg) (fun (r14 : Unit) (u14 : T_Mo) => wp_Mo_sumOut_J261 rf post u14 x1 x2 x3 x4 x5))))) ∧ (¬ x4 = (1 : Int32) → ((x4 = (6 : Int32) → (wp_Mo_word z_this (45 : Int64) (fun (r10 : Unit) (u10 : T_Mo) => wp_Mo_kid u10 x1 (0 : Int32) (fun (r11 : Int32) (u11 : Unit) => rf u10 r11 (6 : Int32) (1 : Int32) (fun (r12 : Unit) (u12 : T_Mo) => wp_Mo_sumOut_J261 rf post u12 x1 x2 x3 x4 x5))))) ∧ (¬ x4 = (6 : Int32) → (wp_Mo_kid z_this x1 (0 : Int32) (fun (r4 : Int32) (u4 : Unit) => rf z_this r4 x4 (1 : Int32) (fun (r5 : Unit) (u5 : T_Mo) => (x4 = (2 : Int32) → (wp_Mo_sumOut_J245 rf post u5 x1 x2 x3 x4 x5 (43 : Int64))) ∧ (¬ x4 = (2 : Int32) → ((x4 = (3 : Int32) → (wp_Mo_sumOut_J245 rf post u5 x1 x2 x3 x4 x5 (45 : Int64))) ∧ (¬ x4 = (3 : Int32) → ((x4 = (4 : Int32) → (wp_Mo_sumOut_J245 rf post u5 x1 x2 x3 x4 x5 (42 : Int64))) ∧ (¬ x4 = (4 : Int32) → ((x4 = (5 : Int32) → (wp_Mo_sumOut_J245 rf post u5 x1 x2 x3 x4 x5 (47 : Int64))) ∧ (¬ x4 = (5 : Int32) → ((x4 = (7 : Int32) → (wp_Mo_sumOut_J245 rf post u5 x1 x2 x3 x4 x5 (60 : Int64))) ∧ (¬ x4 = (7 : Int32) → ((x4 = (8 : Int32) → (wp_Mo_sumOut_J245 rf post u5 x1 x2 x3 x4 x5 (61 : Int64))) ∧ (¬ x4 = (8 : Int32) → (wp_Mo_sumOut_J245 rf post u5 x1 x2 x3 x4 x5 (62 : Int64)))))))))))))))))))))
def wp_Mo_sumOut_J74 (rf : T_Mo → Int32 → Int32 → Int32 → (Unit → T_Mo → Prop) → Prop) (post : Unit → T_Mo → Prop) (z_this : T_Mo) (x1 : Int32) (x2 : Int32) (x3 : Int32) (x4 : Int32) (y0 : Int32) : Prop := (y0 = 0 → (wp_Mo_sumOut_J88 rf post z_this x1 x2 x3 x4 y0)) ∧ (¬ y0 = 0 → (wp_Mo_word z_this (40 : Int64) (fun (r16 : Unit) (u16 : T_Mo) => wp_Mo_sumOut_J88 rf post u16 x1 x2 x3 x4 y0)))
def wp_Mo_sumOut_J73 (rf : T_Mo → Int32 → Int32 → Int32 → (Unit → T_Mo → Prop) → Prop) (post : Unit → T_Mo → Prop) (z_this : T_Mo) (x1 : Int32) (x2 : Int32) (x3 : Int32) (x4 : Int32) : Prop := wp_Mo_sumOut_J74 rf post z_this x1 x2 x3 x4 (0 : Int32)
def wp_Mo_sumOut_J69 (rf : T_Mo → Int32 → Int32 → Int32 → (Unit → T_Mo → Prop) → Prop) (post : Unit → T_Mo → Prop) (z_this : T_Mo) (x1 : Int32) (x2 : Int32) (x3 : Int32) (x4 : Int32) : Prop := wp_Mo_sumOut_J74 rf post z_this x1 x2 x3 x4 (1 : Int32)
def wp_Mo_sumOut_J44 (rf : T_Mo → Int32 → Int32 → Int32 → (Unit → T_Mo → Prop) → Prop) (post : Unit → T_Mo → Prop) (z_this : T_Mo) (x1 : Int32) (x2 : Int32) (x3 : Int32) (x4 : Int32) : Prop := wp_Mo_isProduct x4 (fun (r3 : Int32) (u3 : Unit) => (r3 = 0 → (wp_Mo_sumOut_J73 rf post z_this x1 x2 x3 x4)) ∧ (¬ r3 = 0 → ((x2 = (6 : Int32) → (wp_Mo_sumOut_J69 rf post z_this x1 x2 x3 x4)) ∧ (¬ x2 = (6 : Int32) → (wp_Mo_isProduct x2 (fun (r17 : Int32) (u17 : Unit) => (r17 = 0 → (wp_Mo_sumOut_J73 rf post z_this x1 x2 x3 x4)) ∧ (¬ r17 = 0 → ((x3 = 0 → (wp_Mo_sumOut_J69 rf post z_this x1 x2 x3 x4)) ∧ (¬ x3 = 0 → (wp_Mo_sumOut_J73 rf post z_this x1 x2 x3 x4))))))))))
def wp_Mo_sumOut_F (rf : T_Mo → Int32 → Int32 → Int32 → (Unit → T_Mo → Prop) → Prop) (z_this : T_Mo) (a1 : Int32) (a2 : Int32) (a3 : Int32) (post : Unit → T_Mo → Prop) : Prop := wp_Mo_node1 z_this a1 (fun (r1 : Int32) (u1 : Unit) => vp_in r1 2000 ∧ (wp_Mo_isSum (z_this.1.2.1.2.2.2 (r1).toNatClampNeg) (fun (r2 : Int32) (u2 : Unit) => (r2 = 0 → (wp_Mo_sumOut_J44 rf post z_this a1 a2 a3 (z_this.1.2.1.2.2.2 (r1).toNatClampNeg))) ∧ (¬ r2 = 0 → (wp_Mo_isProduct a2 (fun (r18 : Int32) (u18 : Unit) => (r18 = 0 → ((a2 = (6 : Int32) → (wp_Mo_sumOut_J69 rf post z_this a1 a2 a3 (z_this.1.2.1.2.2.2 (r1).toNatClampNeg))) ∧ (¬ a2 = (6 : Int32) → (wp_Mo_isSum a2 (fun (r19 : Int32) (u19 : Unit) => (r19 = 0 → (wp_Mo_sumOut_J44 rf post z_this a1 a2 a3 (z_this.1.2.1.2.2.2 (r1).toNatClampNeg))) ∧ (¬ r19 = 0 → ((a3 = 0 → (wp_Mo_sumOut_J69 rf post z_this a1 a2 a3 (z_this.1.2.1.2.2.2 (r1).toNatClampNeg))) ∧ (¬ a3 = 0 → (wp_Mo_sumOut_J44 rf post z_this a1 a2 a3 (z_this.1.2.1.2.2.2 (r1).toNatClampNeg)))))))))) ∧ (¬ r18 = 0 → (wp_Mo_sumOut_J69 rf post z_this a1 a2 a3 (z_this.1.2.1.2.2.2 (r1).toNatClampNeg)))))))))
def rm_Mo_sumOut (F L : Nat) : Room := { frames := max (F + 1) 5, cells := 0, slots := 0, locals := max (L + 25) 114 }
set_option maxHeartbeats 4000000 in
set_option maxRecDepth 100000 in
theorem t_Mo_sumOut_J273 {p : Program} {l : Launch} {o : State × Array Value} {e : Env} {s : State} {m : MethodId} {args : Array Value} {below : List Frame} {meth : Method} {c : Code} {D : va_G} {k : Nat → ClassId} {w0 : va_W} {A : Nat → Prop} {ad_this : Nat → Nat} {post : Unit → T_Mo → Prop} {rf : T_Mo → Int32 → Int32 → Int32 → (Unit → T_Mo → Prop) → Prop} {F L : Nat} (hrf : ∀ {ad_this : Nat → Nat} {z_this : T_Mo} {a1 : Int32} {a2 : Int32} {a3 : Int32} {post : Unit → T_Mo → Prop}, rf z_this a1 a2 a3 post → xq_C l o y_Mo_sumOut (.code y_Mo_sumOut prog_10_method_59_code 6 none :: xq_W) { frames := F, cells := 0, slots := 0, locals := L } D vwCl (xt k) [.ref (ad_this 0), .int a1, .int a2, .int a3] (w_Mo k ad_this z_this) (fun _ : Unit => none) post (fun _ : T_Mo => False) (fun u : T_Mo => w_Mo k ad_this u) 0 0 0 0) (hAt : xq_At p s m args meth c prog_10_method_59_code 6 none y_Mo_sumOut xq_W) (hK : va_K D vwCl (xt k) s) (hJ : xq_J l o A s s.heap) (hAe : va_A w0 s.heap.size = A) (hA : ∀ q, s.heap.size ≤ q → A q) :
    ∀ (z_this : T_Mo) (x1 : Int32) (x2 : Int32) (x3 : Int32) (x4 : Int32) (x5 : Int32) (H : Heap) (locs : List Loc) (ls : Array Slot), lv_has ls 6 [(0, .ref (ad_this 0)), (1, .int x1), (2, .int x2), (3, .int x3), (4, .int x4), (5, .int x5)] → va_P D vwCl (w_Mo k ad_this z_this) H → va_D A (w_Mo k ad_this z_this) → va_S A s.heap H locs → wp_Mo_sumOut_J273 rf post z_this x1 x2 x3 x4 x5 → W p l e (rm_Mo_sumOut F L) s m args below meth c H locs 0 0 (xq_Z below D vwCl (xt k) w0 (fun _ : Unit => none) post (fun _ : T_Mo => False) (fun u : T_Mo => w_Mo k ad_this u) 0 0 0 0 s) (F0 m 273 ls []) := by
  obtain ⟨hx, hb, hml, hr, hlocks, hown, hts, hex, hnm⟩ := id hAt
  intro z_this x1 x2 x3 x4 x5 H locs ls hl hP hD hS hw
  unfold wp_Mo_sumOut_J273 at hw
  exact xq_vret (r := ()) (u := z_this) hx hb hr hlocks hAe hP hD hS rfl hw (Nat.le_of_ble_eq_true rfl) (Nat.le_of_ble_eq_true rfl) d_Mo_sumOut_273
set_option maxHeartbeats 4000000 in
set_option maxRecDepth 100000 in
theorem t_Mo_sumOut_J261 {p : Program} {l : Launch} {o : State × Array Value} {e : Env} {s : State} {m : MethodId} {args : Array Value} {below : List Frame} {meth : Method} {c : Code} {D : va_G} {k : Nat → ClassId} {w0 : va_W} {A : Nat → Prop} {ad_this : Nat → Nat} {post : Unit → T_Mo → Prop} {rf : T_Mo → Int32 → Int32 → Int32 → (Unit → T_Mo → Prop) → Prop} {F L : Nat} (hrf : ∀ {ad_this : Nat → Nat} {z_this : T_Mo} {a1 : Int32} {a2 : Int32} {a3 : Int32} {post : Unit → T_Mo → Prop}, rf z_this a1 a2 a3 post → xq_C l o y_Mo_sumOut (.code y_Mo_sumOut prog_10_method_59_code 6 none :: xq_W) { frames := F, cells := 0, slots := 0, locals := L } D vwCl (xt k) [.ref (ad_this 0), .int a1, .int a2, .int a3] (w_Mo k ad_this z_this) (fun _ : Unit => none) post (fun _ : T_Mo => False) (fun u : T_Mo => w_Mo k ad_this u) 0 0 0 0) (hAt : xq_At p s m args meth c prog_10_method_59_code 6 none y_Mo_sumOut xq_W) (hK : va_K D vwCl (xt k) s) (hJ : xq_J l o A s s.heap) (hAe : va_A w0 s.heap.size = A) (hA : ∀ q, s.heap.size ≤ q → A q) :
    ∀ (z_this : T_Mo) (x1 : Int32) (x2 : Int32) (x3 : Int32) (x4 : Int32) (x5 : Int32) (H : Heap) (locs : List Loc) (ls : Array Slot), lv_has ls 6 [(0, .ref (ad_this 0)), (1, .int x1), (2, .int x2), (3, .int x3), (4, .int x4), (5, .int x5)] → va_P D vwCl (w_Mo k ad_this z_this) H → va_D A (w_Mo k ad_this z_this) → va_S A s.heap H locs → wp_Mo_sumOut_J261 rf post z_this x1 x2 x3 x4 x5 → W p l e (rm_Mo_sumOut F L) s m args below meth c H locs 0 0 (xq_Z below D vwCl (xt k) w0 (fun _ : Unit => none) post (fun _ : T_Mo => False) (fun u : T_Mo => w_Mo k ad_this u) 0 0 0 0 s) (F0 m 261 ls []) := by
  obtain ⟨hx, hb, hml, hr, hlocks, hown, hts, hex, hnm⟩ := id hAt
  intro z_this x1 x2 x3 x4 x5 H locs ls hl hP hD hS hw
  unfold wp_Mo_sumOut_J261 at hw
  refine lv_iload hx hb d_Mo_sumOut_261 (lv_at hl 5 rfl) ?_
  refine lv_if_eq (tgt := 273) hx hb d_Mo_sumOut_263 (by decide) (fun hc => ?_) (fun hc => ?_)
  · have hw := hw.1 hc
    exact t_Mo_sumOut_J273 (hrf := @hrf) hAt hK hJ hAe hA z_this x1 x2 x3 x4 x5 H locs ls (lv_sub hl [0, 1, 2, 3, 4, 5] rfl) hP hD hS hw
  · have hw := hw.2 hc
    refine lv_aload_n hx hb d_Mo_sumOut_266 rfl (lv_at hl 0 rfl) ?_
    refine lv_ldc2 (v := (41 : Int64)) hx hb hown (hts (.constantLong R_Mo 380 (41)) kw6_73) d_Mo_sumOut_267 ?_
    refine xq_go (wr := ([] : va_W)) (stk := fun _ => []) (xq_runV (As := [.long (41 : Int64)]) (rest := []) ⟨hx, hb, hml, hown, hts⟩ (c_Mo_word (l := l) (o := o) (D := D) (k := k) (ad_this := ad_this) hw) (cw_Mo_word hts kw6_16 ⟨by simp only [rm_Mo_sumOut, rm_Mo_word]; omega, by simp only [rm_Mo_sumOut, rm_Mo_word]; omega⟩) (va_recv hK hP (ci := 8) (q0 := 0) rfl rfl) (hP.sub [0, 1, 2, 3, 4, 5, 6, 7, 8, 9, 10, 11, 12, 13, 14, 15, 16, 17] rfl) hK hJ hS (va_free hD hS hA [0, 1, 2, 3, 4, 5, 6, 7, 8, 9, 10, 11, 12, 13, 14, 15, 16, 17] rfl) ((hD.sub [0, 1, 2, 3, 4, 5, 6, 7, 8, 9, 10, 11, 12, 13, 14, 15, 16, 17] (by decide) rfl).weaken (fun _ _ _ _ => trivial)) rfl hl.1 (Nat.le_of_ble_eq_true rfl) d_Mo_sumOut_270 ⟨Nat.le_of_ble_eq_true rfl, Nat.le_of_ble_eq_true rfl⟩) hP hD hS hA [0, 1, 2, 3, 4, 5, 6, 7, 8, 9, 10, 11, 12, 13, 14, 15, 16, 17] [] rfl rfl (by decide) (by decide) (fun _ => rfl) (fun r9 u9 H locs hw hP hD hS => ?_) (fun _ _ _ _ h9 => h9.elim)
    have hP : va_P D vwCl (w_Mo k ad_this u9) H := hP.sub [0, 1, 2, 3, 4, 5, 6, 7, 8, 9, 10, 11, 12, 13, 14, 15, 16, 17] rfl
    have hD : va_D A (w_Mo k ad_this u9) := hD.sub [0, 1, 2, 3, 4, 5, 6, 7, 8, 9, 10, 11, 12, 13, 14, 15, 16, 17] (by decide) rfl
    exact t_Mo_sumOut_J273 (hrf := @hrf) hAt hK hJ hAe hA u9 x1 x2 x3 x4 x5 H locs ls (lv_sub hl [0, 1, 2, 3, 4, 5] rfl) hP hD hS hw
set_option maxHeartbeats 4000000 in
set_option maxRecDepth 100000 in
theorem t_Mo_sumOut_J245 {p : Program} {l : Launch} {o : State × Array Value} {e : Env} {s : State} {m : MethodId} {args : Array Value} {below : List Frame} {meth : Method} {c : Code} {D : va_G} {k : Nat → ClassId} {w0 : va_W} {A : Nat → Prop} {ad_this : Nat → Nat} {post : Unit → T_Mo → Prop} {rf : T_Mo → Int32 → Int32 → Int32 → (Unit → T_Mo → Prop) → Prop} {F L : Nat} (hrf : ∀ {ad_this : Nat → Nat} {z_this : T_Mo} {a1 : Int32} {a2 : Int32} {a3 : Int32} {post : Unit → T_Mo → Prop}, rf z_this a1 a2 a3 post → xq_C l o y_Mo_sumOut (.code y_Mo_sumOut prog_10_method_59_code 6 none :: xq_W) { frames := F, cells := 0, slots := 0, locals := L } D vwCl (xt k) [.ref (ad_this 0), .int a1, .int a2, .int a3] (w_Mo k ad_this z_this) (fun _ : Unit => none) post (fun _ : T_Mo => False) (fun u : T_Mo => w_Mo k ad_this u) 0 0 0 0) (hAt : xq_At p s m args meth c prog_10_method_59_code 6 none y_Mo_sumOut xq_W) (hK : va_K D vwCl (xt k) s) (hJ : xq_J l o A s s.heap) (hAe : va_A w0 s.heap.size = A) (hA : ∀ q, s.heap.size ≤ q → A q) :
    ∀ (z_this : T_Mo) (x1 : Int32) (x2 : Int32) (x3 : Int32) (x4 : Int32) (x5 : Int32) (y0 : Int64) (H : Heap) (locs : List Loc) (ls : Array Slot), lv_has ls 6 [(0, .ref (ad_this 0)), (1, .int x1), (2, .int x2), (3, .int x3), (4, .int x4), (5, .int x5)] → va_P D vwCl (w_Mo k ad_this z_this) H → va_D A (w_Mo k ad_this z_this) → va_S A s.heap H locs → wp_Mo_sumOut_J245 rf post z_this x1 x2 x3 x4 x5 y0 → W p l e (rm_Mo_sumOut F L) s m args below meth c H locs 0 0 (xq_Z below D vwCl (xt k) w0 (fun _ : Unit => none) post (fun _ : T_Mo => False) (fun u : T_Mo => w_Mo k ad_this u) 0 0 0 0 s) (F0 m 245 ls [.long y0, .ref (ad_this 0)]) := by
  obtain ⟨hx, hb, hml, hr, hlocks, hown, hts, hex, hnm⟩ := id hAt
  intro z_this x1 x2 x3 x4 x5 y0 H locs ls hl hP hD hS hw
  unfold wp_Mo_sumOut_J245 at hw
  refine xq_go (wr := ([] : va_W)) (stk := fun _ => []) (xq_runV (As := [.long y0]) (rest := []) ⟨hx, hb, hml, hown, hts⟩ (c_Mo_word (l := l) (o := o) (D := D) (k := k) (ad_this := ad_this) hw) (cw_Mo_word hts kw6_16 ⟨by simp only [rm_Mo_sumOut, rm_Mo_word]; omega, by simp only [rm_Mo_sumOut, rm_Mo_word]; omega⟩) (va_recv hK hP (ci := 8) (q0 := 0) rfl rfl) (hP.sub [0, 1, 2, 3, 4, 5, 6, 7, 8, 9, 10, 11, 12, 13, 14, 15, 16, 17] rfl) hK hJ hS (va_free hD hS hA [0, 1, 2, 3, 4, 5, 6, 7, 8, 9, 10, 11, 12, 13, 14, 15, 16, 17] rfl) ((hD.sub [0, 1, 2, 3, 4, 5, 6, 7, 8, 9, 10, 11, 12, 13, 14, 15, 16, 17] (by decide) rfl).weaken (fun _ _ _ _ => trivial)) rfl hl.1 (Nat.le_of_ble_eq_true rfl) d_Mo_sumOut_245 ⟨Nat.le_of_ble_eq_true rfl, Nat.le_of_ble_eq_true rfl⟩) hP hD hS hA [0, 1, 2, 3, 4, 5, 6, 7, 8, 9, 10, 11, 12, 13, 14, 15, 16, 17] [] rfl rfl (by decide) (by decide) (fun _ => rfl) (fun r6 u6 H locs hw hP hD hS => ?_) (fun _ _ _ _ h9 => h9.elim)
  have hP : va_P D vwCl (w_Mo k ad_this u6) H := hP.sub [0, 1, 2, 3, 4, 5, 6, 7, 8, 9, 10, 11, 12, 13, 14, 15, 16, 17] rfl
  have hD : va_D A (w_Mo k ad_this u6) := hD.sub [0, 1, 2, 3, 4, 5, 6, 7, 8, 9, 10, 11, 12, 13, 14, 15, 16, 17] (by decide) rfl
  refine lv_aload_n hx hb d_Mo_sumOut_248 rfl (lv_at hl 0 rfl) ?_
  refine lv_aload_n hx hb d_Mo_sumOut_249 rfl (lv_at hl 0 rfl) ?_
  refine lv_iload_n hx hb d_Mo_sumOut_250 rfl (lv_at hl 1 rfl) ?_
  refine lv_iconst (v := (1 : Int32)) hx hb d_Mo_sumOut_251 (by decide) ?_
  refine xq_go (wr := ([] : va_W)) (stk := fun r => .int r :: [.ref (ad_this 0)]) (xq_runV (As := [.int x1, .int (1 : Int32)]) (rest := [.ref (ad_this 0)]) ⟨hx, hb, hml, hown, hts⟩ (c_Mo_kid (l := l) (o := o) (D := D) (k := k) (ad_this := ad_this) hw) (cw_Mo_kid hts kw5_207 ⟨by simp only [rm_Mo_sumOut, rm_Mo_kid]; omega, by simp only [rm_Mo_sumOut, rm_Mo_kid]; omega⟩) (va_recv hK hP (ci := 8) (q0 := 0) rfl rfl) (hP.sub [0, 1, 2, 3, 4, 5, 6, 7, 8, 9, 10, 11, 12, 13, 14, 15, 16, 17] rfl) hK hJ hS (va_free hD hS hA [0, 1, 2, 3, 4, 5, 6, 7, 8, 9, 10, 11, 12, 13, 14, 15, 16, 17] rfl) ((hD.sub [0, 1, 2, 3, 4, 5, 6, 7, 8, 9, 10, 11, 12, 13, 14, 15, 16, 17] (by decide) rfl).weaken (fun _ _ _ _ => trivial)) rfl hl.1 (Nat.le_of_ble_eq_true rfl) d_Mo_sumOut_252 ⟨Nat.le_of_ble_eq_true rfl, Nat.le_of_ble_eq_true rfl⟩) hP hD hS hA [0, 1, 2, 3, 4, 5, 6, 7, 8, 9, 10, 11, 12, 13, 14, 15, 16, 17] [] rfl rfl (by decide) (by decide) (fun _ => rfl) (fun r7 u7 H locs hw hP hD hS => ?_) (fun _ _ _ _ h9 => h9.elim)
  have hP : va_P D vwCl (w_Mo k ad_this u6) H := hP.sub [0, 1, 2, 3, 4, 5, 6, 7, 8, 9, 10, 11, 12, 13, 14, 15, 16, 17] rfl
  have hD : va_D A (w_Mo k ad_this u6) := hD.sub [0, 1, 2, 3, 4, 5, 6, 7, 8, 9, 10, 11, 12, 13, 14, 15, 16, 17] (by decide) rfl
  refine lv_iload hx hb d_Mo_sumOut_255 (lv_at hl 4 rfl) ?_
  refine lv_iconst (v := (0 : Int32)) hx hb d_Mo_sumOut_257 (by decide) ?_
  refine xq_go (wr := ([] : va_W)) (stk := fun _ => []) (xq_runV (As := [.int r7, .int x4, .int (0 : Int32)]) (rest := []) ⟨hx, hb, hml, hown, hts⟩ (hrf (ad_this := ad_this) hw) (cw_Mo_sumOut hts kw6_48 ⟨by simp only [rm_Mo_sumOut]; omega, by simp only [rm_Mo_sumOut]; omega⟩) (va_recv hK hP (ci := 8) (q0 := 0) rfl rfl) (hP.sub [0, 1, 2, 3, 4, 5, 6, 7, 8, 9, 10, 11, 12, 13, 14, 15, 16, 17] rfl) hK hJ hS (va_free hD hS hA [0, 1, 2, 3, 4, 5, 6, 7, 8, 9, 10, 11, 12, 13, 14, 15, 16, 17] rfl) ((hD.sub [0, 1, 2, 3, 4, 5, 6, 7, 8, 9, 10, 11, 12, 13, 14, 15, 16, 17] (by decide) rfl).weaken (fun _ _ _ _ => trivial)) rfl hl.1 (Nat.le_of_ble_eq_true rfl) d_Mo_sumOut_258 ⟨Nat.le_of_ble_eq_true rfl, Nat.le_of_ble_eq_true rfl⟩) hP hD hS hA [0, 1, 2, 3, 4, 5, 6, 7, 8, 9, 10, 11, 12, 13, 14, 15, 16, 17] [] rfl rfl (by decide) (by decide) (fun _ => rfl) (fun r8 u8 H locs hw hP hD hS => ?_) (fun _ _ _ _ h9 => h9.elim)
  have hP : va_P D vwCl (w_Mo k ad_this u8) H := hP.sub [0, 1, 2, 3, 4, 5, 6, 7, 8, 9, 10, 11, 12, 13, 14, 15, 16, 17] rfl
  have hD : va_D A (w_Mo k ad_this u8) := hD.sub [0, 1, 2, 3, 4, 5, 6, 7, 8, 9, 10, 11, 12, 13, 14, 15, 16, 17] (by decide) rfl
  exact t_Mo_sumOut_J261 (hrf := @hrf) hAt hK hJ hAe hA u8 x1 x2 x3 x4 x5 H locs ls (lv_sub hl [0, 1, 2, 3, 4, 5] rfl) hP hD hS hw
set_option maxHeartbeats 4000000 in
set_option maxRecDepth 100000 in
theorem t_Mo_sumOut_J88 {p : Program} {l : Launch} {o : State × Array Value} {e : Env} {s : State} {m : MethodId} {args : Array Value} {below : List Frame} {meth : Method} {c : Code} {D : va_G} {k : Nat → ClassId} {w0 : va_W} {A : Nat → Prop} {ad_this : Nat → Nat} {post : Unit → T_Mo → Prop} {rf : T_Mo → Int32 → Int32 → Int32 → (Unit → T_Mo → Prop) → Prop} {F L : Nat} (hrf : ∀ {ad_this : Nat → Nat} {z_this : T_Mo} {a1 : Int32} {a2 : Int32} {a3 : Int32} {post : Unit → T_Mo → Prop}, rf z_this a1 a2 a3 post → xq_C l o y_Mo_sumOut (.code y_Mo_sumOut prog_10_method_59_code 6 none :: xq_W) { frames := F, cells := 0, slots := 0, locals := L } D vwCl (xt k) [.ref (ad_this 0), .int a1, .int a2, .int a3] (w_Mo k ad_this z_this) (fun _ : Unit => none) post (fun _ : T_Mo => False) (fun u : T_Mo => w_Mo k ad_this u) 0 0 0 0) (hAt : xq_At p s m args meth c prog_10_method_59_code 6 none y_Mo_sumOut xq_W) (hK : va_K D vwCl (xt k) s) (hJ : xq_J l o A s s.heap) (hAe : va_A w0 s.heap.size = A) (hA : ∀ q, s.heap.size ≤ q → A q) :
    ∀ (z_this : T_Mo) (x1 : Int32) (x2 : Int32) (x3 : Int32) (x4 : Int32) (x5 : Int32) (H : Heap) (locs : List Loc) (ls : Array Slot), lv_has ls 6 [(0, .ref (ad_this 0)), (1, .int x1), (2, .int x2), (3, .int x3), (4, .int x4), (5, .int x5)] → va_P D vwCl (w_Mo k ad_this z_this) H → va_D A (w_Mo k ad_this z_this) → va_S A s.heap H locs → wp_Mo_sumOut_J88 rf post z_this x1 x2 x3 x4 x5 → W p l e (rm_Mo_sumOut F L) s m args below meth c H locs 0 0 (xq_Z below D vwCl (xt k) w0 (fun _ : Unit => none) post (fun _ : T_Mo => False) (fun u : T_Mo => w_Mo k ad_this u) 0 0 0 0 s) (F0 m 88 ls []) := by
  obtain ⟨hx, hb, hml, hr, hlocks, hown, hts, hex, hnm⟩ := id hAt
  intro z_this x1 x2 x3 x4 x5 H locs ls hl hP hD hS hw
  unfold wp_Mo_sumOut_J88 at hw
  refine lv_iload hx hb d_Mo_sumOut_88 (lv_at hl 4 rfl) ?_
  refine lv_if_ne (tgt := 101) hx hb d_Mo_sumOut_90 (by decide) (fun hc => ?_) (fun hc => ?_)
  · have hw := hw.2 hc
    refine lv_iload hx hb d_Mo_sumOut_101 (lv_at hl 4 rfl) ?_
    refine lv_iconst (v := (1 : Int32)) hx hb d_Mo_sumOut_103 (by decide) ?_
    refine lv_icmp_ne (tgt := 124) hx hb d_Mo_sumOut_104 (by decide) (fun hc => ?_) (fun hc => ?_)
    · have hw := hw.2 hc
      refine lv_iload hx hb d_Mo_sumOut_124 (lv_at hl 4 rfl) ?_
      refine lv_bipush (v := (6 : Int32)) hx hb d_Mo_sumOut_126 (by decide) ?_
      refine lv_icmp_ne (tgt := 154) hx hb d_Mo_sumOut_128 (by decide) (fun hc => ?_) (fun hc => ?_)
      · have hw := hw.2 hc
        refine lv_aload_n hx hb d_Mo_sumOut_154 rfl (lv_at hl 0 rfl) ?_
        refine lv_aload_n hx hb d_Mo_sumOut_155 rfl (lv_at hl 0 rfl) ?_
        refine lv_iload_n hx hb d_Mo_sumOut_156 rfl (lv_at hl 1 rfl) ?_
        refine lv_iconst (v := (0 : Int32)) hx hb d_Mo_sumOut_157 (by decide) ?_
        refine xq_go (wr := ([] : va_W)) (stk := fun r => .int r :: [.ref (ad_this 0)]) (xq_runV (As := [.int x1, .int (0 : Int32)]) (rest := [.ref (ad_this 0)]) ⟨hx, hb, hml, hown, hts⟩ (c_Mo_kid (l := l) (o := o) (D := D) (k := k) (ad_this := ad_this) hw) (cw_Mo_kid hts kw5_207 ⟨by simp only [rm_Mo_sumOut, rm_Mo_kid]; omega, by simp only [rm_Mo_sumOut, rm_Mo_kid]; omega⟩) (va_recv hK hP (ci := 8) (q0 := 0) rfl rfl) (hP.sub [0, 1, 2, 3, 4, 5, 6, 7, 8, 9, 10, 11, 12, 13, 14, 15, 16, 17] rfl) hK hJ hS (va_free hD hS hA [0, 1, 2, 3, 4, 5, 6, 7, 8, 9, 10, 11, 12, 13, 14, 15, 16, 17] rfl) ((hD.sub [0, 1, 2, 3, 4, 5, 6, 7, 8, 9, 10, 11, 12, 13, 14, 15, 16, 17] (by decide) rfl).weaken (fun _ _ _ _ => trivial)) rfl hl.1 (Nat.le_of_ble_eq_true rfl) d_Mo_sumOut_158 ⟨Nat.le_of_ble_eq_true rfl, Nat.le_of_ble_eq_true rfl⟩) hP hD hS hA [0, 1, 2, 3, 4, 5, 6, 7, 8, 9, 10, 11, 12, 13, 14, 15, 16, 17] [] rfl rfl (by decide) (by decide) (fun _ => rfl) (fun r4 u4 H locs hw hP hD hS => ?_) (fun _ _ _ _ h9 => h9.elim)
        have hP : va_P D vwCl (w_Mo k ad_this z_this) H := hP.sub [0, 1, 2, 3, 4, 5, 6, 7, 8, 9, 10, 11, 12, 13, 14, 15, 16, 17] rfl
        have hD : va_D A (w_Mo k ad_this z_this) := hD.sub [0, 1, 2, 3, 4, 5, 6, 7, 8, 9, 10, 11, 12, 13, 14, 15, 16, 17] (by decide) rfl
        refine lv_iload hx hb d_Mo_sumOut_161 (lv_at hl 4 rfl) ?_
        refine lv_iconst (v := (1 : Int32)) hx hb d_Mo_sumOut_163 (by decide) ?_
        refine xq_go (wr := ([] : va_W)) (stk := fun _ => []) (xq_runV (As := [.int r4, .int x4, .int (1 : Int32)]) (rest := []) ⟨hx, hb, hml, hown, hts⟩ (hrf (ad_this := ad_this) hw) (cw_Mo_sumOut hts kw6_48 ⟨by simp only [rm_Mo_sumOut]; omega, by simp only [rm_Mo_sumOut]; omega⟩) (va_recv hK hP (ci := 8) (q0 := 0) rfl rfl) (hP.sub [0, 1, 2, 3, 4, 5, 6, 7, 8, 9, 10, 11, 12, 13, 14, 15, 16, 17] rfl) hK hJ hS (va_free hD hS hA [0, 1, 2, 3, 4, 5, 6, 7, 8, 9, 10, 11, 12, 13, 14, 15, 16, 17] rfl) ((hD.sub [0, 1, 2, 3, 4, 5, 6, 7, 8, 9, 10, 11, 12, 13, 14, 15, 16, 17] (by decide) rfl).weaken (fun _ _ _ _ => trivial)) rfl hl.1 (Nat.le_of_ble_eq_true rfl) d_Mo_sumOut_164 ⟨Nat.le_of_ble_eq_true rfl, Nat.le_of_ble_eq_true rfl⟩) hP hD hS hA [0, 1, 2, 3, 4, 5, 6, 7, 8, 9, 10, 11, 12, 13, 14, 15, 16, 17] [] rfl rfl (by decide) (by decide) (fun _ => rfl) (fun r5 u5 H locs hw hP hD hS => ?_) (fun _ _ _ _ h9 => h9.elim)
        have hP : va_P D vwCl (w_Mo k ad_this u5) H := hP.sub [0, 1, 2, 3, 4, 5, 6, 7, 8, 9, 10, 11, 12, 13, 14, 15, 16, 17] rfl
        have hD : va_D A (w_Mo k ad_this u5) := hD.sub [0, 1, 2, 3, 4, 5, 6, 7, 8, 9, 10, 11, 12, 13, 14, 15, 16, 17] (by decide) rfl
        refine lv_aload_n hx hb d_Mo_sumOut_167 rfl (lv_at hl 0 rfl) ?_
        refine lv_iload hx hb d_Mo_sumOut_168 (lv_at hl 4 rfl) ?_
        refine lv_iconst (v := (2 : Int32)) hx hb d_Mo_sumOut_170 (by decide) ?_
        refine lv_icmp_ne (tgt := 180) hx hb d_Mo_sumOut_171 (by decide) (fun hc => ?_) (fun hc => ?_)
        · have hw := hw.2 hc
          refine lv_iload hx hb d_Mo_sumOut_180 (lv_at hl 4 rfl) ?_
          refine lv_iconst (v := (3 : Int32)) hx hb d_Mo_sumOut_182 (by decide) ?_
          refine lv_icmp_ne (tgt := 192) hx hb d_Mo_sumOut_183 (by decide) (fun hc => ?_) (fun hc => ?_)
          · have hw := hw.2 hc
            refine lv_iload hx hb d_Mo_sumOut_192 (lv_at hl 4 rfl) ?_
            refine lv_iconst (v := (4 : Int32)) hx hb d_Mo_sumOut_194 (by decide) ?_
            refine lv_icmp_ne (tgt := 204) hx hb d_Mo_sumOut_195 (by decide) (fun hc => ?_) (fun hc => ?_)
            · have hw := hw.2 hc
              refine lv_iload hx hb d_Mo_sumOut_204 (lv_at hl 4 rfl) ?_
              refine lv_iconst (v := (5 : Int32)) hx hb d_Mo_sumOut_206 (by decide) ?_
              refine lv_icmp_ne (tgt := 216) hx hb d_Mo_sumOut_207 (by decide) (fun hc => ?_) (fun hc => ?_)
              · have hw := hw.2 hc
                refine lv_iload hx hb d_Mo_sumOut_216 (lv_at hl 4 rfl) ?_
                refine lv_bipush (v := (7 : Int32)) hx hb d_Mo_sumOut_218 (by decide) ?_
                refine lv_icmp_ne (tgt := 229) hx hb d_Mo_sumOut_220 (by decide) (fun hc => ?_) (fun hc => ?_)
                · have hw := hw.2 hc
                  refine lv_iload hx hb d_Mo_sumOut_229 (lv_at hl 4 rfl) ?_
                  refine lv_bipush (v := (8 : Int32)) hx hb d_Mo_sumOut_231 (by decide) ?_
                  refine lv_icmp_ne (tgt := 242) hx hb d_Mo_sumOut_233 (by decide) (fun hc => ?_) (fun hc => ?_)
                  · have hw := hw.2 hc
                    refine lv_ldc2 (v := (62 : Int64)) hx hb hown (hts (.constantLong R_Mo 378 (62)) kw6_72) d_Mo_sumOut_242 ?_
                    exact t_Mo_sumOut_J245 (hrf := @hrf) hAt hK hJ hAe hA u5 x1 x2 x3 x4 x5 (62 : Int64) H locs ls (lv_sub hl [0, 1, 2, 3, 4, 5] rfl) hP hD hS hw
                  · have hw := hw.1 hc
                    refine lv_ldc2 (v := (61 : Int64)) hx hb hown (hts (.constantLong R_Mo 376 (61)) kw6_71) d_Mo_sumOut_236 ?_
                    refine lv_goto (tgt := 245) hx hb d_Mo_sumOut_239 (by decide) ?_
                    exact t_Mo_sumOut_J245 (hrf := @hrf) hAt hK hJ hAe hA u5 x1 x2 x3 x4 x5 (61 : Int64) H locs ls (lv_sub hl [0, 1, 2, 3, 4, 5] rfl) hP hD hS hw
                · have hw := hw.1 hc
                  refine lv_ldc2 (v := (60 : Int64)) hx hb hown (hts (.constantLong R_Mo 245 (60)) kw5_159) d_Mo_sumOut_223 ?_
                  refine lv_goto (tgt := 245) hx hb d_Mo_sumOut_226 (by decide) ?_
                  exact t_Mo_sumOut_J245 (hrf := @hrf) hAt hK hJ hAe hA u5 x1 x2 x3 x4 x5 (60 : Int64) H locs ls (lv_sub hl [0, 1, 2, 3, 4, 5] rfl) hP hD hS hw
              · have hw := hw.1 hc
                refine lv_ldc2 (v := (47 : Int64)) hx hb hown (hts (.constantLong R_Mo 374 (47)) kw6_70) d_Mo_sumOut_210 ?_
                refine lv_goto (tgt := 245) hx hb d_Mo_sumOut_213 (by decide) ?_
                exact t_Mo_sumOut_J245 (hrf := @hrf) hAt hK hJ hAe hA u5 x1 x2 x3 x4 x5 (47 : Int64) H locs ls (lv_sub hl [0, 1, 2, 3, 4, 5] rfl) hP hD hS hw
            · have hw := hw.1 hc
              refine lv_ldc2 (v := (42 : Int64)) hx hb hown (hts (.constantLong R_Mo 372 (42)) kw6_69) d_Mo_sumOut_198 ?_
              refine lv_goto (tgt := 245) hx hb d_Mo_sumOut_201 (by decide) ?_
              exact t_Mo_sumOut_J245 (hrf := @hrf) hAt hK hJ hAe hA u5 x1 x2 x3 x4 x5 (42 : Int64) H locs ls (lv_sub hl [0, 1, 2, 3, 4, 5] rfl) hP hD hS hw
          · have hw := hw.1 hc
            refine lv_ldc2 (v := (45 : Int64)) hx hb hown (hts (.constantLong R_Mo 364 (45)) kw6_67) d_Mo_sumOut_186 ?_
            refine lv_goto (tgt := 245) hx hb d_Mo_sumOut_189 (by decide) ?_
            exact t_Mo_sumOut_J245 (hrf := @hrf) hAt hK hJ hAe hA u5 x1 x2 x3 x4 x5 (45 : Int64) H locs ls (lv_sub hl [0, 1, 2, 3, 4, 5] rfl) hP hD hS hw
        · have hw := hw.1 hc
          refine lv_ldc2 (v := (43 : Int64)) hx hb hown (hts (.constantLong R_Mo 370 (43)) kw6_68) d_Mo_sumOut_174 ?_
          refine lv_goto (tgt := 245) hx hb d_Mo_sumOut_177 (by decide) ?_
          exact t_Mo_sumOut_J245 (hrf := @hrf) hAt hK hJ hAe hA u5 x1 x2 x3 x4 x5 (43 : Int64) H locs ls (lv_sub hl [0, 1, 2, 3, 4, 5] rfl) hP hD hS hw
      · have hw := hw.1 hc
        refine lv_aload_n hx hb d_Mo_sumOut_131 rfl (lv_at hl 0 rfl) ?_
        refine lv_ldc2 (v := (45 : Int64)) hx hb hown (hts (.constantLong R_Mo 364 (45)) kw6_67) d_Mo_sumOut_132 ?_
        refine xq_go (wr := ([] : va_W)) (stk := fun _ => []) (xq_runV (As := [.long (45 : Int64)]) (rest := []) ⟨hx, hb, hml, hown, hts⟩ (c_Mo_word (l := l) (o := o) (D := D) (k := k) (ad_this := ad_this) hw) (cw_Mo_word hts kw6_16 ⟨by simp only [rm_Mo_sumOut, rm_Mo_word]; omega, by simp only [rm_Mo_sumOut, rm_Mo_word]; omega⟩) (va_recv hK hP (ci := 8) (q0 := 0) rfl rfl) (hP.sub [0, 1, 2, 3, 4, 5, 6, 7, 8, 9, 10, 11, 12, 13, 14, 15, 16, 17] rfl) hK hJ hS (va_free hD hS hA [0, 1, 2, 3, 4, 5, 6, 7, 8, 9, 10, 11, 12, 13, 14, 15, 16, 17] rfl) ((hD.sub [0, 1, 2, 3, 4, 5, 6, 7, 8, 9, 10, 11, 12, 13, 14, 15, 16, 17] (by decide) rfl).weaken (fun _ _ _ _ => trivial)) rfl hl.1 (Nat.le_of_ble_eq_true rfl) d_Mo_sumOut_135 ⟨Nat.le_of_ble_eq_true rfl, Nat.le_of_ble_eq_true rfl⟩) hP hD hS hA [0, 1, 2, 3, 4, 5, 6, 7, 8, 9, 10, 11, 12, 13, 14, 15, 16, 17] [] rfl rfl (by decide) (by decide) (fun _ => rfl) (fun r10 u10 H locs hw hP hD hS => ?_) (fun _ _ _ _ h9 => h9.elim)
        have hP : va_P D vwCl (w_Mo k ad_this u10) H := hP.sub [0, 1, 2, 3, 4, 5, 6, 7, 8, 9, 10, 11, 12, 13, 14, 15, 16, 17] rfl
        have hD : va_D A (w_Mo k ad_this u10) := hD.sub [0, 1, 2, 3, 4, 5, 6, 7, 8, 9, 10, 11, 12, 13, 14, 15, 16, 17] (by decide) rfl
        refine lv_aload_n hx hb d_Mo_sumOut_138 rfl (lv_at hl 0 rfl) ?_
        refine lv_aload_n hx hb d_Mo_sumOut_139 rfl (lv_at hl 0 rfl) ?_
        refine lv_iload_n hx hb d_Mo_sumOut_140 rfl (lv_at hl 1 rfl) ?_
        refine lv_iconst (v := (0 : Int32)) hx hb d_Mo_sumOut_141 (by decide) ?_
        refine xq_go (wr := ([] : va_W)) (stk := fun r => .int r :: [.ref (ad_this 0)]) (xq_runV (As := [.int x1, .int (0 : Int32)]) (rest := [.ref (ad_this 0)]) ⟨hx, hb, hml, hown, hts⟩ (c_Mo_kid (l := l) (o := o) (D := D) (k := k) (ad_this := ad_this) hw) (cw_Mo_kid hts kw5_207 ⟨by simp only [rm_Mo_sumOut, rm_Mo_kid]; omega, by simp only [rm_Mo_sumOut, rm_Mo_kid]; omega⟩) (va_recv hK hP (ci := 8) (q0 := 0) rfl rfl) (hP.sub [0, 1, 2, 3, 4, 5, 6, 7, 8, 9, 10, 11, 12, 13, 14, 15, 16, 17] rfl) hK hJ hS (va_free hD hS hA [0, 1, 2, 3, 4, 5, 6, 7, 8, 9, 10, 11, 12, 13, 14, 15, 16, 17] rfl) ((hD.sub [0, 1, 2, 3, 4, 5, 6, 7, 8, 9, 10, 11, 12, 13, 14, 15, 16, 17] (by decide) rfl).weaken (fun _ _ _ _ => trivial)) rfl hl.1 (Nat.le_of_ble_eq_true rfl) d_Mo_sumOut_142 ⟨Nat.le_of_ble_eq_true rfl, Nat.le_of_ble_eq_true rfl⟩) hP hD hS hA [0, 1, 2, 3, 4, 5, 6, 7, 8, 9, 10, 11, 12, 13, 14, 15, 16, 17] [] rfl rfl (by decide) (by decide) (fun _ => rfl) (fun r11 u11 H locs hw hP hD hS => ?_) (fun _ _ _ _ h9 => h9.elim)
        have hP : va_P D vwCl (w_Mo k ad_this u10) H := hP.sub [0, 1, 2, 3, 4, 5, 6, 7, 8, 9, 10, 11, 12, 13, 14, 15, 16, 17] rfl
        have hD : va_D A (w_Mo k ad_this u10) := hD.sub [0, 1, 2, 3, 4, 5, 6, 7, 8, 9, 10, 11, 12, 13, 14, 15, 16, 17] (by decide) rfl
        refine lv_bipush (v := (6 : Int32)) hx hb d_Mo_sumOut_145 (by decide) ?_
        refine lv_iconst (v := (1 : Int32)) hx hb d_Mo_sumOut_147 (by decide) ?_
        refine xq_go (wr := ([] : va_W)) (stk := fun _ => []) (xq_runV (As := [.int r11, .int (6 : Int32), .int (1 : Int32)]) (rest := []) ⟨hx, hb, hml, hown, hts⟩ (hrf (ad_this := ad_this) hw) (cw_Mo_sumOut hts kw6_48 ⟨by simp only [rm_Mo_sumOut]; omega, by simp only [rm_Mo_sumOut]; omega⟩) (va_recv hK hP (ci := 8) (q0 := 0) rfl rfl) (hP.sub [0, 1, 2, 3, 4, 5, 6, 7, 8, 9, 10, 11, 12, 13, 14, 15, 16, 17] rfl) hK hJ hS (va_free hD hS hA [0, 1, 2, 3, 4, 5, 6, 7, 8, 9, 10, 11, 12, 13, 14, 15, 16, 17] rfl) ((hD.sub [0, 1, 2, 3, 4, 5, 6, 7, 8, 9, 10, 11, 12, 13, 14, 15, 16, 17] (by decide) rfl).weaken (fun _ _ _ _ => trivial)) rfl hl.1 (Nat.le_of_ble_eq_true rfl) d_Mo_sumOut_148 ⟨Nat.le_of_ble_eq_true rfl, Nat.le_of_ble_eq_true rfl⟩) hP hD hS hA [0, 1, 2, 3, 4, 5, 6, 7, 8, 9, 10, 11, 12, 13, 14, 15, 16, 17] [] rfl rfl (by decide) (by decide) (fun _ => rfl) (fun r12 u12 H locs hw hP hD hS => ?_) (fun _ _ _ _ h9 => h9.elim)
        have hP : va_P D vwCl (w_Mo k ad_this u12) H := hP.sub [0, 1, 2, 3, 4, 5, 6, 7, 8, 9, 10, 11, 12, 13, 14, 15, 16, 17] rfl
        have hD : va_D A (w_Mo k ad_this u12) := hD.sub [0, 1, 2, 3, 4, 5, 6, 7, 8, 9, 10, 11, 12, 13, 14, 15, 16, 17] (by decide) rfl
        refine lv_goto (tgt := 261) hx hb d_Mo_sumOut_151 (by decide) ?_
        exact t_Mo_sumOut_J261 (hrf := @hrf) hAt hK hJ hAe hA u12 x1 x2 x3 x4 x5 H locs ls (lv_sub hl [0, 1, 2, 3, 4, 5] rfl) hP hD hS hw
    · have hw := hw.1 hc
      refine lv_aload_n hx hb d_Mo_sumOut_107 rfl (lv_at hl 0 rfl) ?_
      refine lv_aload_n hx hb d_Mo_sumOut_108 rfl (lv_at hl 0 rfl) ?_
      refine va_get (D := D) (ci := 8) (v := .ref (ad_this 3)) (C := R_Mo) (T := F_Mo) (N := 42) hx hb hts in_Mo hown hK hP 0 rfl rfl 15 (by decide) (hts (.fieldLink R_Mo 17 R_Mo "numbers" "[J") kw4_158) (fun _ h9 => h9) rfl d_Mo_sumOut_109 ?_
      refine lv_aload_n hx hb d_Mo_sumOut_112 rfl (lv_at hl 0 rfl) ?_
      refine lv_iload_n hx hb d_Mo_sumOut_113 rfl (lv_at hl 1 rfl) ?_
      refine xq_go (wr := ([] : va_W)) (stk := fun r => .int r :: [.ref (ad_this 3), .ref (ad_this 0)]) (xq_runV (As := [.int x1]) (rest := [.ref (ad_this 3), .ref (ad_this 0)]) ⟨hx, hb, hml, hown, hts⟩ (c_Mo_node1 (l := l) (o := o) (D := D) (k := k) (ad_this := ad_this) hw) (cw_Mo_node1 hts kw5_199 ⟨by simp only [rm_Mo_sumOut, rm_Mo_node1]; omega, by simp only [rm_Mo_sumOut, rm_Mo_node1]; omega⟩) (va_recv hK hP (ci := 8) (q0 := 0) rfl rfl) (hP.sub [0, 1, 2, 3, 4, 5, 6, 7, 8, 9, 10, 11, 12, 13, 14, 15, 16, 17] rfl) hK hJ hS (va_free hD hS hA [0, 1, 2, 3, 4, 5, 6, 7, 8, 9, 10, 11, 12, 13, 14, 15, 16, 17] rfl) ((hD.sub [0, 1, 2, 3, 4, 5, 6, 7, 8, 9, 10, 11, 12, 13, 14, 15, 16, 17] (by decide) rfl).weaken (fun _ _ _ _ => trivial)) rfl hl.1 (Nat.le_of_ble_eq_true rfl) d_Mo_sumOut_114 ⟨Nat.le_of_ble_eq_true rfl, Nat.le_of_ble_eq_true rfl⟩) hP hD hS hA [0, 1, 2, 3, 4, 5, 6, 7, 8, 9, 10, 11, 12, 13, 14, 15, 16, 17] [] rfl rfl (by decide) (by decide) (fun _ => rfl) (fun r13 u13 H locs hw hP hD hS => ?_) (fun _ _ _ _ h9 => h9.elim)
      have hP : va_P D vwCl (w_Mo k ad_this z_this) H := hP.sub [0, 1, 2, 3, 4, 5, 6, 7, 8, 9, 10, 11, 12, 13, 14, 15, 16, 17] rfl
      have hD : va_D A (w_Mo k ad_this z_this) := hD.sub [0, 1, 2, 3, 4, 5, 6, 7, 8, 9, 10, 11, 12, 13, 14, 15, 16, 17] (by decide) rfl
      refine va_lald hx hb hK hP 3 1 rfl rfl hw.1 d_Mo_sumOut_117 ?_
      have hw := hw.2
      refine xq_go (wr := ([] : va_W)) (stk := fun _ => []) (xq_runV (As := [.long (z_this.1.2.2.1.1 (r13).toNatClampNeg)]) (rest := []) ⟨hx, hb, hml, hown, hts⟩ (c_Mo_name (l := l) (o := o) (D := D) (k := k) (ad_this := ad_this) hw) (cw_Mo_name hts kw6_28 ⟨by simp only [rm_Mo_sumOut, rm_Mo_name]; omega, by simp only [rm_Mo_sumOut, rm_Mo_name]; omega⟩) (va_recv hK hP (ci := 8) (q0 := 0) rfl rfl) (hP.sub [0, 1, 2, 3, 4, 5, 6, 7, 8, 9, 10, 11, 12, 13, 14, 15, 16, 17] rfl) hK hJ hS (va_free hD hS hA [0, 1, 2, 3, 4, 5, 6, 7, 8, 9, 10, 11, 12, 13, 14, 15, 16, 17] rfl) ((hD.sub [0, 1, 2, 3, 4, 5, 6, 7, 8, 9, 10, 11, 12, 13, 14, 15, 16, 17] (by decide) rfl).weaken (fun _ _ _ _ => trivial)) rfl hl.1 (Nat.le_of_ble_eq_true rfl) d_Mo_sumOut_118 ⟨Nat.le_of_ble_eq_true rfl, Nat.le_of_ble_eq_true rfl⟩) hP hD hS hA [0, 1, 2, 3, 4, 5, 6, 7, 8, 9, 10, 11, 12, 13, 14, 15, 16, 17] [] rfl rfl (by decide) (by decide) (fun _ => rfl) (fun r14 u14 H locs hw hP hD hS => ?_) (fun _ _ _ _ h9 => h9.elim)
      have hP : va_P D vwCl (w_Mo k ad_this u14) H := hP.sub [0, 1, 2, 3, 4, 5, 6, 7, 8, 9, 10, 11, 12, 13, 14, 15, 16, 17] rfl
      have hD : va_D A (w_Mo k ad_this u14) := hD.sub [0, 1, 2, 3, 4, 5, 6, 7, 8, 9, 10, 11, 12, 13, 14, 15, 16, 17] (by decide) rfl
      refine lv_goto (tgt := 261) hx hb d_Mo_sumOut_121 (by decide) ?_
      exact t_Mo_sumOut_J261 (hrf := @hrf) hAt hK hJ hAe hA u14 x1 x2 x3 x4 x5 H locs ls (lv_sub hl [0, 1, 2, 3, 4, 5] rfl) hP hD hS hw
  · have hw := hw.1 hc
    refine lv_aload_n hx hb d_Mo_sumOut_93 rfl (lv_at hl 0 rfl) ?_
    refine lv_iload_n hx hb d_Mo_sumOut_94 rfl (lv_at hl 1 rfl) ?_
    refine xq_go (wr := ([] : va_W)) (stk := fun _ => []) (xq_runV (As := [.int x1]) (rest := []) ⟨hx, hb, hml, hown, hts⟩ (c_Mo_numberOut (l := l) (o := o) (D := D) (k := k) (ad_this := ad_this) hw) (cw_Mo_numberOut hts kw6_59 ⟨by simp only [rm_Mo_sumOut, rm_Mo_numberOut]; omega, by simp only [rm_Mo_sumOut, rm_Mo_numberOut]; omega⟩) (va_recv hK hP (ci := 8) (q0 := 0) rfl rfl) (hP.sub [0, 1, 2, 3, 4, 5, 6, 7, 8, 9, 10, 11, 12, 13, 14, 15, 16, 17] rfl) hK hJ hS (va_free hD hS hA [0, 1, 2, 3, 4, 5, 6, 7, 8, 9, 10, 11, 12, 13, 14, 15, 16, 17] rfl) ((hD.sub [0, 1, 2, 3, 4, 5, 6, 7, 8, 9, 10, 11, 12, 13, 14, 15, 16, 17] (by decide) rfl).weaken (fun _ _ _ _ => trivial)) rfl hl.1 (Nat.le_of_ble_eq_true rfl) d_Mo_sumOut_95 ⟨Nat.le_of_ble_eq_true rfl, Nat.le_of_ble_eq_true rfl⟩) hP hD hS hA [0, 1, 2, 3, 4, 5, 6, 7, 8, 9, 10, 11, 12, 13, 14, 15, 16, 17] [] rfl rfl (by decide) (by decide) (fun _ => rfl) (fun r15 u15 H locs hw hP hD hS => ?_) (fun _ _ _ _ h9 => h9.elim)
    have hP : va_P D vwCl (w_Mo k ad_this u15) H := hP.sub [0, 1, 2, 3, 4, 5, 6, 7, 8, 9, 10, 11, 12, 13, 14, 15, 16, 17] rfl
    have hD : va_D A (w_Mo k ad_this u15) := hD.sub [0, 1, 2, 3, 4, 5, 6, 7, 8, 9, 10, 11, 12, 13, 14, 15, 16, 17] (by decide) rfl
    refine lv_goto (tgt := 261) hx hb d_Mo_sumOut_98 (by decide) ?_
    exact t_Mo_sumOut_J261 (hrf := @hrf) hAt hK hJ hAe hA u15 x1 x2 x3 x4 x5 H locs ls (lv_sub hl [0, 1, 2, 3, 4, 5] rfl) hP hD hS hw
set_option maxHeartbeats 4000000 in
set_option maxRecDepth 100000 in
theorem t_Mo_sumOut_J74 {p : Program} {l : Launch} {o : State × Array Value} {e : Env} {s : State} {m : MethodId} {args : Array Value} {below : List Frame} {meth : Method} {c : Code} {D : va_G} {k : Nat → ClassId} {w0 : va_W} {A : Nat → Prop} {ad_this : Nat → Nat} {post : Unit → T_Mo → Prop} {rf : T_Mo → Int32 → Int32 → Int32 → (Unit → T_Mo → Prop) → Prop} {F L : Nat} (hrf : ∀ {ad_this : Nat → Nat} {z_this : T_Mo} {a1 : Int32} {a2 : Int32} {a3 : Int32} {post : Unit → T_Mo → Prop}, rf z_this a1 a2 a3 post → xq_C l o y_Mo_sumOut (.code y_Mo_sumOut prog_10_method_59_code 6 none :: xq_W) { frames := F, cells := 0, slots := 0, locals := L } D vwCl (xt k) [.ref (ad_this 0), .int a1, .int a2, .int a3] (w_Mo k ad_this z_this) (fun _ : Unit => none) post (fun _ : T_Mo => False) (fun u : T_Mo => w_Mo k ad_this u) 0 0 0 0) (hAt : xq_At p s m args meth c prog_10_method_59_code 6 none y_Mo_sumOut xq_W) (hK : va_K D vwCl (xt k) s) (hJ : xq_J l o A s s.heap) (hAe : va_A w0 s.heap.size = A) (hA : ∀ q, s.heap.size ≤ q → A q) :
    ∀ (z_this : T_Mo) (x1 : Int32) (x2 : Int32) (x3 : Int32) (x4 : Int32) (y0 : Int32) (H : Heap) (locs : List Loc) (ls : Array Slot), lv_has ls 6 [(0, .ref (ad_this 0)), (1, .int x1), (2, .int x2), (3, .int x3), (4, .int x4)] → va_P D vwCl (w_Mo k ad_this z_this) H → va_D A (w_Mo k ad_this z_this) → va_S A s.heap H locs → wp_Mo_sumOut_J74 rf post z_this x1 x2 x3 x4 y0 → W p l e (rm_Mo_sumOut F L) s m args below meth c H locs 0 0 (xq_Z below D vwCl (xt k) w0 (fun _ : Unit => none) post (fun _ : T_Mo => False) (fun u : T_Mo => w_Mo k ad_this u) 0 0 0 0 s) (F0 m 74 ls [.int y0]) := by
  obtain ⟨hx, hb, hml, hr, hlocks, hown, hts, hex, hnm⟩ := id hAt
  intro z_this x1 x2 x3 x4 y0 H locs ls hl hP hD hS hw
  unfold wp_Mo_sumOut_J74 at hw
  refine lv_istore (lv' := [(5, .int y0), (0, .ref (ad_this 0)), (1, .int x1), (2, .int x2), (3, .int x3), (4, .int x4)]) hx hb d_Mo_sumOut_74 hl (by decide) rfl (fun ls hl => ?_)
  refine lv_iload hx hb d_Mo_sumOut_76 (lv_at hl 0 rfl) ?_
  refine lv_if_eq (tgt := 88) hx hb d_Mo_sumOut_78 (by decide) (fun hc => ?_) (fun hc => ?_)
  · have hw := hw.1 hc
    exact t_Mo_sumOut_J88 (hrf := @hrf) hAt hK hJ hAe hA z_this x1 x2 x3 x4 y0 H locs ls (lv_sub hl [1, 2, 3, 4, 5, 0] rfl) hP hD hS hw
  · have hw := hw.2 hc
    refine lv_aload_n hx hb d_Mo_sumOut_81 rfl (lv_at hl 1 rfl) ?_
    refine lv_ldc2 (v := (40 : Int64)) hx hb hown (hts (.constantLong R_Mo 356 (40)) kw6_58) d_Mo_sumOut_82 ?_
    refine xq_go (wr := ([] : va_W)) (stk := fun _ => []) (xq_runV (As := [.long (40 : Int64)]) (rest := []) ⟨hx, hb, hml, hown, hts⟩ (c_Mo_word (l := l) (o := o) (D := D) (k := k) (ad_this := ad_this) hw) (cw_Mo_word hts kw6_16 ⟨by simp only [rm_Mo_sumOut, rm_Mo_word]; omega, by simp only [rm_Mo_sumOut, rm_Mo_word]; omega⟩) (va_recv hK hP (ci := 8) (q0 := 0) rfl rfl) (hP.sub [0, 1, 2, 3, 4, 5, 6, 7, 8, 9, 10, 11, 12, 13, 14, 15, 16, 17] rfl) hK hJ hS (va_free hD hS hA [0, 1, 2, 3, 4, 5, 6, 7, 8, 9, 10, 11, 12, 13, 14, 15, 16, 17] rfl) ((hD.sub [0, 1, 2, 3, 4, 5, 6, 7, 8, 9, 10, 11, 12, 13, 14, 15, 16, 17] (by decide) rfl).weaken (fun _ _ _ _ => trivial)) rfl hl.1 (Nat.le_of_ble_eq_true rfl) d_Mo_sumOut_85 ⟨Nat.le_of_ble_eq_true rfl, Nat.le_of_ble_eq_true rfl⟩) hP hD hS hA [0, 1, 2, 3, 4, 5, 6, 7, 8, 9, 10, 11, 12, 13, 14, 15, 16, 17] [] rfl rfl (by decide) (by decide) (fun _ => rfl) (fun r16 u16 H locs hw hP hD hS => ?_) (fun _ _ _ _ h9 => h9.elim)
    have hP : va_P D vwCl (w_Mo k ad_this u16) H := hP.sub [0, 1, 2, 3, 4, 5, 6, 7, 8, 9, 10, 11, 12, 13, 14, 15, 16, 17] rfl
    have hD : va_D A (w_Mo k ad_this u16) := hD.sub [0, 1, 2, 3, 4, 5, 6, 7, 8, 9, 10, 11, 12, 13, 14, 15, 16, 17] (by decide) rfl
    exact t_Mo_sumOut_J88 (hrf := @hrf) hAt hK hJ hAe hA u16 x1 x2 x3 x4 y0 H locs ls (lv_sub hl [1, 2, 3, 4, 5, 0] rfl) hP hD hS hw
set_option maxHeartbeats 4000000 in
set_option maxRecDepth 100000 in
theorem t_Mo_sumOut_J73 {p : Program} {l : Launch} {o : State × Array Value} {e : Env} {s : State} {m : MethodId} {args : Array Value} {below : List Frame} {meth : Method} {c : Code} {D : va_G} {k : Nat → ClassId} {w0 : va_W} {A : Nat → Prop} {ad_this : Nat → Nat} {post : Unit → T_Mo → Prop} {rf : T_Mo → Int32 → Int32 → Int32 → (Unit → T_Mo → Prop) → Prop} {F L : Nat} (hrf : ∀ {ad_this : Nat → Nat} {z_this : T_Mo} {a1 : Int32} {a2 : Int32} {a3 : Int32} {post : Unit → T_Mo → Prop}, rf z_this a1 a2 a3 post → xq_C l o y_Mo_sumOut (.code y_Mo_sumOut prog_10_method_59_code 6 none :: xq_W) { frames := F, cells := 0, slots := 0, locals := L } D vwCl (xt k) [.ref (ad_this 0), .int a1, .int a2, .int a3] (w_Mo k ad_this z_this) (fun _ : Unit => none) post (fun _ : T_Mo => False) (fun u : T_Mo => w_Mo k ad_this u) 0 0 0 0) (hAt : xq_At p s m args meth c prog_10_method_59_code 6 none y_Mo_sumOut xq_W) (hK : va_K D vwCl (xt k) s) (hJ : xq_J l o A s s.heap) (hAe : va_A w0 s.heap.size = A) (hA : ∀ q, s.heap.size ≤ q → A q) :
    ∀ (z_this : T_Mo) (x1 : Int32) (x2 : Int32) (x3 : Int32) (x4 : Int32) (H : Heap) (locs : List Loc) (ls : Array Slot), lv_has ls 6 [(0, .ref (ad_this 0)), (1, .int x1), (2, .int x2), (3, .int x3), (4, .int x4)] → va_P D vwCl (w_Mo k ad_this z_this) H → va_D A (w_Mo k ad_this z_this) → va_S A s.heap H locs → wp_Mo_sumOut_J73 rf post z_this x1 x2 x3 x4 → W p l e (rm_Mo_sumOut F L) s m args below meth c H locs 0 0 (xq_Z below D vwCl (xt k) w0 (fun _ : Unit => none) post (fun _ : T_Mo => False) (fun u : T_Mo => w_Mo k ad_this u) 0 0 0 0 s) (F0 m 73 ls []) := by
  obtain ⟨hx, hb, hml, hr, hlocks, hown, hts, hex, hnm⟩ := id hAt
  intro z_this x1 x2 x3 x4 H locs ls hl hP hD hS hw
  unfold wp_Mo_sumOut_J73 at hw
  refine lv_iconst (v := (0 : Int32)) hx hb d_Mo_sumOut_73 (by decide) ?_
  exact t_Mo_sumOut_J74 (hrf := @hrf) hAt hK hJ hAe hA z_this x1 x2 x3 x4 (0 : Int32) H locs ls (lv_sub hl [0, 1, 2, 3, 4] rfl) hP hD hS hw
set_option maxHeartbeats 4000000 in
set_option maxRecDepth 100000 in
theorem t_Mo_sumOut_J69 {p : Program} {l : Launch} {o : State × Array Value} {e : Env} {s : State} {m : MethodId} {args : Array Value} {below : List Frame} {meth : Method} {c : Code} {D : va_G} {k : Nat → ClassId} {w0 : va_W} {A : Nat → Prop} {ad_this : Nat → Nat} {post : Unit → T_Mo → Prop} {rf : T_Mo → Int32 → Int32 → Int32 → (Unit → T_Mo → Prop) → Prop} {F L : Nat} (hrf : ∀ {ad_this : Nat → Nat} {z_this : T_Mo} {a1 : Int32} {a2 : Int32} {a3 : Int32} {post : Unit → T_Mo → Prop}, rf z_this a1 a2 a3 post → xq_C l o y_Mo_sumOut (.code y_Mo_sumOut prog_10_method_59_code 6 none :: xq_W) { frames := F, cells := 0, slots := 0, locals := L } D vwCl (xt k) [.ref (ad_this 0), .int a1, .int a2, .int a3] (w_Mo k ad_this z_this) (fun _ : Unit => none) post (fun _ : T_Mo => False) (fun u : T_Mo => w_Mo k ad_this u) 0 0 0 0) (hAt : xq_At p s m args meth c prog_10_method_59_code 6 none y_Mo_sumOut xq_W) (hK : va_K D vwCl (xt k) s) (hJ : xq_J l o A s s.heap) (hAe : va_A w0 s.heap.size = A) (hA : ∀ q, s.heap.size ≤ q → A q) :
    ∀ (z_this : T_Mo) (x1 : Int32) (x2 : Int32) (x3 : Int32) (x4 : Int32) (H : Heap) (locs : List Loc) (ls : Array Slot), lv_has ls 6 [(0, .ref (ad_this 0)), (1, .int x1), (2, .int x2), (3, .int x3), (4, .int x4)] → va_P D vwCl (w_Mo k ad_this z_this) H → va_D A (w_Mo k ad_this z_this) → va_S A s.heap H locs → wp_Mo_sumOut_J69 rf post z_this x1 x2 x3 x4 → W p l e (rm_Mo_sumOut F L) s m args below meth c H locs 0 0 (xq_Z below D vwCl (xt k) w0 (fun _ : Unit => none) post (fun _ : T_Mo => False) (fun u : T_Mo => w_Mo k ad_this u) 0 0 0 0 s) (F0 m 69 ls []) := by
  obtain ⟨hx, hb, hml, hr, hlocks, hown, hts, hex, hnm⟩ := id hAt
  intro z_this x1 x2 x3 x4 H locs ls hl hP hD hS hw
  unfold wp_Mo_sumOut_J69 at hw
  refine lv_iconst (v := (1 : Int32)) hx hb d_Mo_sumOut_69 (by decide) ?_
  refine lv_goto (tgt := 74) hx hb d_Mo_sumOut_70 (by decide) ?_
  exact t_Mo_sumOut_J74 (hrf := @hrf) hAt hK hJ hAe hA z_this x1 x2 x3 x4 (1 : Int32) H locs ls (lv_sub hl [0, 1, 2, 3, 4] rfl) hP hD hS hw
set_option maxHeartbeats 4000000 in
set_option maxRecDepth 100000 in
theorem t_Mo_sumOut_J44 {p : Program} {l : Launch} {o : State × Array Value} {e : Env} {s : State} {m : MethodId} {args : Array Value} {below : List Frame} {meth : Method} {c : Code} {D : va_G} {k : Nat → ClassId} {w0 : va_W} {A : Nat → Prop} {ad_this : Nat → Nat} {post : Unit → T_Mo → Prop} {rf : T_Mo → Int32 → Int32 → Int32 → (Unit → T_Mo → Prop) → Prop} {F L : Nat} (hrf : ∀ {ad_this : Nat → Nat} {z_this : T_Mo} {a1 : Int32} {a2 : Int32} {a3 : Int32} {post : Unit → T_Mo → Prop}, rf z_this a1 a2 a3 post → xq_C l o y_Mo_sumOut (.code y_Mo_sumOut prog_10_method_59_code 6 none :: xq_W) { frames := F, cells := 0, slots := 0, locals := L } D vwCl (xt k) [.ref (ad_this 0), .int a1, .int a2, .int a3] (w_Mo k ad_this z_this) (fun _ : Unit => none) post (fun _ : T_Mo => False) (fun u : T_Mo => w_Mo k ad_this u) 0 0 0 0) (hAt : xq_At p s m args meth c prog_10_method_59_code 6 none y_Mo_sumOut xq_W) (hK : va_K D vwCl (xt k) s) (hJ : xq_J l o A s s.heap) (hAe : va_A w0 s.heap.size = A) (hA : ∀ q, s.heap.size ≤ q → A q) :
    ∀ (z_this : T_Mo) (x1 : Int32) (x2 : Int32) (x3 : Int32) (x4 : Int32) (H : Heap) (locs : List Loc) (ls : Array Slot), lv_has ls 6 [(0, .ref (ad_this 0)), (1, .int x1), (2, .int x2), (3, .int x3), (4, .int x4)] → va_P D vwCl (w_Mo k ad_this z_this) H → va_D A (w_Mo k ad_this z_this) → va_S A s.heap H locs → wp_Mo_sumOut_J44 rf post z_this x1 x2 x3 x4 → W p l e (rm_Mo_sumOut F L) s m args below meth c H locs 0 0 (xq_Z below D vwCl (xt k) w0 (fun _ : Unit => none) post (fun _ : T_Mo => False) (fun u : T_Mo => w_Mo k ad_this u) 0 0 0 0 s) (F0 m 44 ls []) := by
  obtain ⟨hx, hb, hml, hr, hlocks, hown, hts, hex, hnm⟩ := id hAt
  intro z_this x1 x2 x3 x4 H locs ls hl hP hD hS hw
  unfold wp_Mo_sumOut_J44 at hw
  refine lv_iload hx hb d_Mo_sumOut_44 (lv_at hl 4 rfl) ?_
  refine xq_go (wr := w_Mo k ad_this z_this) (stk := fun r => .int r :: []) (xq_runS (As := [.int x4]) (rest := []) ⟨hx, hb, hml, hown, hts⟩ (c_Mo_isProduct (l := l) (o := o) (D := D) (k := k) hw) (cs_Mo_isProduct hts kw6_55 ⟨by simp only [rm_Mo_sumOut, rm_Mo_isProduct]; omega, by simp only [rm_Mo_sumOut, rm_Mo_isProduct]; omega⟩) (hP.sub [] rfl) hK hJ hS (va_free hD hS hA [] rfl) ((hD.sub [] (by decide) rfl).weaken (fun _ _ _ _ => trivial)) rfl hl.1 (Nat.le_of_ble_eq_true rfl) d_Mo_sumOut_46 ⟨Nat.le_of_ble_eq_true rfl, Nat.le_of_ble_eq_true rfl⟩) hP hD hS hA [] [0, 1, 2, 3, 4, 5, 6, 7, 8, 9, 10, 11, 12, 13, 14, 15, 16, 17] rfl rfl (by decide) (by decide) (fun _ => rfl) (fun r3 u3 H locs hw hP hD hS => ?_) (fun _ _ _ _ h9 => h9.elim)
  have hP : va_P D vwCl (w_Mo k ad_this z_this) H := hP.sub [0, 1, 2, 3, 4, 5, 6, 7, 8, 9, 10, 11, 12, 13, 14, 15, 16, 17] rfl
  have hD : va_D A (w_Mo k ad_this z_this) := hD.sub [0, 1, 2, 3, 4, 5, 6, 7, 8, 9, 10, 11, 12, 13, 14, 15, 16, 17] (by decide) rfl
  refine lv_if_eq (tgt := 73) hx hb d_Mo_sumOut_49 (by decide) (fun hc => ?_) (fun hc => ?_)
  · have hw := hw.1 hc
    exact t_Mo_sumOut_J73 (hrf := @hrf) hAt hK hJ hAe hA z_this x1 x2 x3 x4 H locs ls (lv_sub hl [0, 1, 2, 3, 4] rfl) hP hD hS hw
  · have hw := hw.2 hc
    refine lv_iload_n hx hb d_Mo_sumOut_52 rfl (lv_at hl 2 rfl) ?_
    refine lv_bipush (v := (6 : Int32)) hx hb d_Mo_sumOut_53 (by decide) ?_
    refine lv_icmp_eq (tgt := 69) hx hb d_Mo_sumOut_55 (by decide) (fun hc => ?_) (fun hc => ?_)
    · have hw := hw.1 hc
      exact t_Mo_sumOut_J69 (hrf := @hrf) hAt hK hJ hAe hA z_this x1 x2 x3 x4 H locs ls (lv_sub hl [0, 1, 2, 3, 4] rfl) hP hD hS hw
    · have hw := hw.2 hc
      refine lv_iload_n hx hb d_Mo_sumOut_58 rfl (lv_at hl 2 rfl) ?_
      refine xq_go (wr := w_Mo k ad_this z_this) (stk := fun r => .int r :: []) (xq_runS (As := [.int x2]) (rest := []) ⟨hx, hb, hml, hown, hts⟩ (c_Mo_isProduct (l := l) (o := o) (D := D) (k := k) hw) (cs_Mo_isProduct hts kw6_55 ⟨by simp only [rm_Mo_sumOut, rm_Mo_isProduct]; omega, by simp only [rm_Mo_sumOut, rm_Mo_isProduct]; omega⟩) (hP.sub [] rfl) hK hJ hS (va_free hD hS hA [] rfl) ((hD.sub [] (by decide) rfl).weaken (fun _ _ _ _ => trivial)) rfl hl.1 (Nat.le_of_ble_eq_true rfl) d_Mo_sumOut_59 ⟨Nat.le_of_ble_eq_true rfl, Nat.le_of_ble_eq_true rfl⟩) hP hD hS hA [] [0, 1, 2, 3, 4, 5, 6, 7, 8, 9, 10, 11, 12, 13, 14, 15, 16, 17] rfl rfl (by decide) (by decide) (fun _ => rfl) (fun r17 u17 H locs hw hP hD hS => ?_) (fun _ _ _ _ h9 => h9.elim)
      have hP : va_P D vwCl (w_Mo k ad_this z_this) H := hP.sub [0, 1, 2, 3, 4, 5, 6, 7, 8, 9, 10, 11, 12, 13, 14, 15, 16, 17] rfl
      have hD : va_D A (w_Mo k ad_this z_this) := hD.sub [0, 1, 2, 3, 4, 5, 6, 7, 8, 9, 10, 11, 12, 13, 14, 15, 16, 17] (by decide) rfl
      refine lv_if_eq (tgt := 73) hx hb d_Mo_sumOut_62 (by decide) (fun hc => ?_) (fun hc => ?_)
      · have hw := hw.1 hc
        exact t_Mo_sumOut_J73 (hrf := @hrf) hAt hK hJ hAe hA z_this x1 x2 x3 x4 H locs ls (lv_sub hl [0, 1, 2, 3, 4] rfl) hP hD hS hw
      · have hw := hw.2 hc
        refine lv_iload_n hx hb d_Mo_sumOut_65 rfl (lv_at hl 3 rfl) ?_
        refine lv_if_ne (tgt := 73) hx hb d_Mo_sumOut_66 (by decide) (fun hc => ?_) (fun hc => ?_)
        · have hw := hw.2 hc
          exact t_Mo_sumOut_J73 (hrf := @hrf) hAt hK hJ hAe hA z_this x1 x2 x3 x4 H locs ls (lv_sub hl [0, 1, 2, 3, 4] rfl) hP hD hS hw
        · have hw := hw.1 hc
          exact t_Mo_sumOut_J69 (hrf := @hrf) hAt hK hJ hAe hA z_this x1 x2 x3 x4 H locs ls (lv_sub hl [0, 1, 2, 3, 4] rfl) hP hD hS hw
set_option maxHeartbeats 4000000 in
set_option maxRecDepth 100000 in
theorem c_Mo_sumOut_F {l : Launch} {o : State × Array Value} {D : va_G} {k : Nat → ClassId} {rf : T_Mo → Int32 → Int32 → Int32 → (Unit → T_Mo → Prop) → Prop} {F L : Nat} (hrf : ∀ {ad_this : Nat → Nat} {z_this : T_Mo} {a1 : Int32} {a2 : Int32} {a3 : Int32} {post : Unit → T_Mo → Prop}, rf z_this a1 a2 a3 post → xq_C l o y_Mo_sumOut (.code y_Mo_sumOut prog_10_method_59_code 6 none :: xq_W) { frames := F, cells := 0, slots := 0, locals := L } D vwCl (xt k) [.ref (ad_this 0), .int a1, .int a2, .int a3] (w_Mo k ad_this z_this) (fun _ : Unit => none) post (fun _ : T_Mo => False) (fun u : T_Mo => w_Mo k ad_this u) 0 0 0 0) {ad_this : Nat → Nat} {z_this : T_Mo} {a1 : Int32} {a2 : Int32} {a3 : Int32} {post : Unit → T_Mo → Prop} (hw : wp_Mo_sumOut_F rf z_this a1 a2 a3 post) : xq_C l o y_Mo_sumOut (.code y_Mo_sumOut prog_10_method_59_code 6 none :: xq_W) (rm_Mo_sumOut F L) D vwCl (xt k) [.ref (ad_this 0), .int a1, .int a2, .int a3] (w_Mo k ad_this z_this) (fun _ : Unit => none) post (fun _ : T_Mo => False) (fun u : T_Mo => w_Mo k ad_this u) 0 0 0 0 := by
  refine xq_ofW (cc := prog_10_method_59_code) (maxL := 6) (ret := none) (by decide) rfl (Nat.le_of_ble_eq_true rfl) ?_
  intro p e s m below meth c ls H locs A hAt hAe hA hl hK hJ hP0 hP hD hS
  obtain ⟨hx, hb, hml, hr, hlocks, hown, hts, hex, hnm⟩ := id hAt
  have hl : lv_has ls 6 [(0, .ref (ad_this 0)), (1, .int a1), (2, .int a2), (3, .int a3)] := hl
  unfold wp_Mo_sumOut_F at hw
  refine lv_aload_n hx hb d_Mo_sumOut_0 rfl (lv_at hl 0 rfl) ?_
  refine va_get (D := D) (ci := 8) (v := .ref (ad_this 2)) (C := R_Mo) (T := F_Mo) (N := 42) hx hb hts in_Mo hown hK hP 0 rfl rfl 14 (by decide) (hts (.fieldLink R_Mo 13 R_Mo "whats" "[I") kw4_157) (fun _ h9 => h9) rfl d_Mo_sumOut_1 ?_
  refine lv_aload_n hx hb d_Mo_sumOut_4 rfl (lv_at hl 0 rfl) ?_
  refine lv_iload_n hx hb d_Mo_sumOut_5 rfl (lv_at hl 1 rfl) ?_
  refine xq_go (wr := ([] : va_W)) (stk := fun r => .int r :: [.ref (ad_this 2)]) (xq_runV (As := [.int a1]) (rest := [.ref (ad_this 2)]) ⟨hx, hb, hml, hown, hts⟩ (c_Mo_node1 (l := l) (o := o) (D := D) (k := k) (ad_this := ad_this) hw) (cw_Mo_node1 hts kw5_199 ⟨by simp only [rm_Mo_sumOut, rm_Mo_node1]; omega, by simp only [rm_Mo_sumOut, rm_Mo_node1]; omega⟩) (va_recv hK hP (ci := 8) (q0 := 0) rfl rfl) (hP.sub [0, 1, 2, 3, 4, 5, 6, 7, 8, 9, 10, 11, 12, 13, 14, 15, 16, 17] rfl) hK hJ hS (va_free hD hS hA [0, 1, 2, 3, 4, 5, 6, 7, 8, 9, 10, 11, 12, 13, 14, 15, 16, 17] rfl) ((hD.sub [0, 1, 2, 3, 4, 5, 6, 7, 8, 9, 10, 11, 12, 13, 14, 15, 16, 17] (by decide) rfl).weaken (fun _ _ _ _ => trivial)) rfl hl.1 (Nat.le_of_ble_eq_true rfl) d_Mo_sumOut_6 ⟨Nat.le_of_ble_eq_true rfl, Nat.le_of_ble_eq_true rfl⟩) hP hD hS hA [0, 1, 2, 3, 4, 5, 6, 7, 8, 9, 10, 11, 12, 13, 14, 15, 16, 17] [] rfl rfl (by decide) (by decide) (fun _ => rfl) (fun r1 u1 H locs hw hP hD hS => ?_) (fun _ _ _ _ h9 => h9.elim)
  have hP : va_P D vwCl (w_Mo k ad_this z_this) H := hP.sub [0, 1, 2, 3, 4, 5, 6, 7, 8, 9, 10, 11, 12, 13, 14, 15, 16, 17] rfl
  have hD : va_D A (w_Mo k ad_this z_this) := hD.sub [0, 1, 2, 3, 4, 5, 6, 7, 8, 9, 10, 11, 12, 13, 14, 15, 16, 17] (by decide) rfl
  refine va_iald hx hb hK hP 2 0 rfl rfl hw.1 d_Mo_sumOut_9 ?_
  have hw := hw.2
  refine lv_istore (lv' := [(4, .int (z_this.1.2.1.2.2.2 (r1).toNatClampNeg)), (0, .ref (ad_this 0)), (1, .int a1), (2, .int a2), (3, .int a3)]) hx hb d_Mo_sumOut_10 hl (by decide) rfl (fun ls hl => ?_)
  refine lv_iload hx hb d_Mo_sumOut_12 (lv_at hl 0 rfl) ?_
  refine xq_go (wr := w_Mo k ad_this z_this) (stk := fun r => .int r :: []) (xq_runS (As := [.int (z_this.1.2.1.2.2.2 (r1).toNatClampNeg)]) (rest := []) ⟨hx, hb, hml, hown, hts⟩ (c_Mo_isSum (l := l) (o := o) (D := D) (k := k) hw) (cs_Mo_isSum hts kw6_52 ⟨by simp only [rm_Mo_sumOut, rm_Mo_isSum]; omega, by simp only [rm_Mo_sumOut, rm_Mo_isSum]; omega⟩) (hP.sub [] rfl) hK hJ hS (va_free hD hS hA [] rfl) ((hD.sub [] (by decide) rfl).weaken (fun _ _ _ _ => trivial)) rfl hl.1 (Nat.le_of_ble_eq_true rfl) d_Mo_sumOut_14 ⟨Nat.le_of_ble_eq_true rfl, Nat.le_of_ble_eq_true rfl⟩) hP hD hS hA [] [0, 1, 2, 3, 4, 5, 6, 7, 8, 9, 10, 11, 12, 13, 14, 15, 16, 17] rfl rfl (by decide) (by decide) (fun _ => rfl) (fun r2 u2 H locs hw hP hD hS => ?_) (fun _ _ _ _ h9 => h9.elim)
  have hP : va_P D vwCl (w_Mo k ad_this z_this) H := hP.sub [0, 1, 2, 3, 4, 5, 6, 7, 8, 9, 10, 11, 12, 13, 14, 15, 16, 17] rfl
  have hD : va_D A (w_Mo k ad_this z_this) := hD.sub [0, 1, 2, 3, 4, 5, 6, 7, 8, 9, 10, 11, 12, 13, 14, 15, 16, 17] (by decide) rfl
  refine lv_if_eq (tgt := 44) hx hb d_Mo_sumOut_17 (by decide) (fun hc => ?_) (fun hc => ?_)
  · have hw := hw.1 hc
    exact t_Mo_sumOut_J44 (hrf := @hrf) hAt hK hJ hAe hA z_this a1 a2 a3 (z_this.1.2.1.2.2.2 (r1).toNatClampNeg) H locs ls (lv_sub hl [1, 2, 3, 4, 0] rfl) hP hD hS hw
  · have hw := hw.2 hc
    refine lv_iload_n hx hb d_Mo_sumOut_20 rfl (lv_at hl 3 rfl) ?_
    refine xq_go (wr := w_Mo k ad_this z_this) (stk := fun r => .int r :: []) (xq_runS (As := [.int a2]) (rest := []) ⟨hx, hb, hml, hown, hts⟩ (c_Mo_isProduct (l := l) (o := o) (D := D) (k := k) hw) (cs_Mo_isProduct hts kw6_55 ⟨by simp only [rm_Mo_sumOut, rm_Mo_isProduct]; omega, by simp only [rm_Mo_sumOut, rm_Mo_isProduct]; omega⟩) (hP.sub [] rfl) hK hJ hS (va_free hD hS hA [] rfl) ((hD.sub [] (by decide) rfl).weaken (fun _ _ _ _ => trivial)) rfl hl.1 (Nat.le_of_ble_eq_true rfl) d_Mo_sumOut_21 ⟨Nat.le_of_ble_eq_true rfl, Nat.le_of_ble_eq_true rfl⟩) hP hD hS hA [] [0, 1, 2, 3, 4, 5, 6, 7, 8, 9, 10, 11, 12, 13, 14, 15, 16, 17] rfl rfl (by decide) (by decide) (fun _ => rfl) (fun r18 u18 H locs hw hP hD hS => ?_) (fun _ _ _ _ h9 => h9.elim)
    have hP : va_P D vwCl (w_Mo k ad_this z_this) H := hP.sub [0, 1, 2, 3, 4, 5, 6, 7, 8, 9, 10, 11, 12, 13, 14, 15, 16, 17] rfl
    have hD : va_D A (w_Mo k ad_this z_this) := hD.sub [0, 1, 2, 3, 4, 5, 6, 7, 8, 9, 10, 11, 12, 13, 14, 15, 16, 17] (by decide) rfl
    refine lv_if_ne (tgt := 69) hx hb d_Mo_sumOut_24 (by decide) (fun hc => ?_) (fun hc => ?_)
    · have hw := hw.2 hc
      exact t_Mo_sumOut_J69 (hrf := @hrf) hAt hK hJ hAe hA z_this a1 a2 a3 (z_this.1.2.1.2.2.2 (r1).toNatClampNeg) H locs ls (lv_sub hl [1, 2, 3, 4, 0] rfl) hP hD hS hw
    · have hw := hw.1 hc
      refine lv_iload_n hx hb d_Mo_sumOut_27 rfl (lv_at hl 3 rfl) ?_
      refine lv_bipush (v := (6 : Int32)) hx hb d_Mo_sumOut_28 (by decide) ?_
      refine lv_icmp_eq (tgt := 69) hx hb d_Mo_sumOut_30 (by decide) (fun hc => ?_) (fun hc => ?_)
      · have hw := hw.1 hc
        exact t_Mo_sumOut_J69 (hrf := @hrf) hAt hK hJ hAe hA z_this a1 a2 a3 (z_this.1.2.1.2.2.2 (r1).toNatClampNeg) H locs ls (lv_sub hl [1, 2, 3, 4, 0] rfl) hP hD hS hw
      · have hw := hw.2 hc
        refine lv_iload_n hx hb d_Mo_sumOut_33 rfl (lv_at hl 3 rfl) ?_
        refine xq_go (wr := w_Mo k ad_this z_this) (stk := fun r => .int r :: []) (xq_runS (As := [.int a2]) (rest := []) ⟨hx, hb, hml, hown, hts⟩ (c_Mo_isSum (l := l) (o := o) (D := D) (k := k) hw) (cs_Mo_isSum hts kw6_52 ⟨by simp only [rm_Mo_sumOut, rm_Mo_isSum]; omega, by simp only [rm_Mo_sumOut, rm_Mo_isSum]; omega⟩) (hP.sub [] rfl) hK hJ hS (va_free hD hS hA [] rfl) ((hD.sub [] (by decide) rfl).weaken (fun _ _ _ _ => trivial)) rfl hl.1 (Nat.le_of_ble_eq_true rfl) d_Mo_sumOut_34 ⟨Nat.le_of_ble_eq_true rfl, Nat.le_of_ble_eq_true rfl⟩) hP hD hS hA [] [0, 1, 2, 3, 4, 5, 6, 7, 8, 9, 10, 11, 12, 13, 14, 15, 16, 17] rfl rfl (by decide) (by decide) (fun _ => rfl) (fun r19 u19 H locs hw hP hD hS => ?_) (fun _ _ _ _ h9 => h9.elim)
        have hP : va_P D vwCl (w_Mo k ad_this z_this) H := hP.sub [0, 1, 2, 3, 4, 5, 6, 7, 8, 9, 10, 11, 12, 13, 14, 15, 16, 17] rfl
        have hD : va_D A (w_Mo k ad_this z_this) := hD.sub [0, 1, 2, 3, 4, 5, 6, 7, 8, 9, 10, 11, 12, 13, 14, 15, 16, 17] (by decide) rfl
        refine lv_if_eq (tgt := 44) hx hb d_Mo_sumOut_37 (by decide) (fun hc => ?_) (fun hc => ?_)
        · have hw := hw.1 hc
          exact t_Mo_sumOut_J44 (hrf := @hrf) hAt hK hJ hAe hA z_this a1 a2 a3 (z_this.1.2.1.2.2.2 (r1).toNatClampNeg) H locs ls (lv_sub hl [1, 2, 3, 4, 0] rfl) hP hD hS hw
        · have hw := hw.2 hc
          refine lv_iload_n hx hb d_Mo_sumOut_40 rfl (lv_at hl 4 rfl) ?_
          refine lv_if_eq (tgt := 69) hx hb d_Mo_sumOut_41 (by decide) (fun hc => ?_) (fun hc => ?_)
          · have hw := hw.1 hc
            exact t_Mo_sumOut_J69 (hrf := @hrf) hAt hK hJ hAe hA z_this a1 a2 a3 (z_this.1.2.1.2.2.2 (r1).toNatClampNeg) H locs ls (lv_sub hl [1, 2, 3, 4, 0] rfl) hP hD hS hw
          · have hw := hw.2 hc
            exact t_Mo_sumOut_J44 (hrf := @hrf) hAt hK hJ hAe hA z_this a1 a2 a3 (z_this.1.2.1.2.2.2 (r1).toNatClampNeg) H locs ls (lv_sub hl [1, 2, 3, 4, 0] rfl) hP hD hS hw
def wp_Mo_sumOut : Nat → T_Mo → Int32 → Int32 → Int32 → (Unit → T_Mo → Prop) → Prop
  | 0 => fun _ _ _ _ _ => False
  | d + 1 => wp_Mo_sumOut_F (wp_Mo_sumOut d)
def fFc : Nat → Nat
  | 0 => 0
  | d + 1 => max (fFc d + 1) 5
def fLc : Nat → Nat
  | 0 => 0
  | d + 1 => max (fLc d + 25) 114
theorem c_Mo_sumOut (d : Nat) {l : Launch} {o : State × Array Value} {D : va_G} {k : Nat → ClassId} : ∀ {ad_this : Nat → Nat} {z_this : T_Mo} {a1 : Int32} {a2 : Int32} {a3 : Int32} {post : Unit → T_Mo → Prop}, wp_Mo_sumOut d z_this a1 a2 a3 post → xq_C l o y_Mo_sumOut (.code y_Mo_sumOut prog_10_method_59_code 6 none :: xq_W) { frames := fFc d, cells := 0, slots := 0, locals := fLc d } D vwCl (xt k) [.ref (ad_this 0), .int a1, .int a2, .int a3] (w_Mo k ad_this z_this) (fun _ : Unit => none) post (fun _ : T_Mo => False) (fun u : T_Mo => w_Mo k ad_this u) 0 0 0 0 := by
  induction d with
  | zero => intro ad_this z_this a1 a2 a3 post hw; exact False.elim hw
  | succ d ih => intro ad_this z_this a1 a2 a3 post hw; exact c_Mo_sumOut_F (F := fFc d) (L := fLc d) (hrf := @ih) hw
