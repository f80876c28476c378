theorem kw5_130 : (Jvm.Cond.code ({ cls := "StepTextModel", name := "block", desc := "()I" } : Jvm.MethodName) prog_10_method_27_code (4 : Nat) (Option.some Jvm.ClassFile.FieldType.int)) ∈ xq_W := xq_in tb_5 130 rfl rfl
theorem kw5_129 : (Jvm.Cond.instanceMethod ({ cls := "StepTextModel", name := "block", desc := "()I" } : Jvm.MethodName)) ∈ xq_W := xq_in tb_5 129 (by decide +kernel) rfl
theorem kp5_0 : Cond.selects "StepTextModel" (⟨"StepTextModel", "block", "()I"⟩ : MethodName) (⟨"StepTextModel", "block", "()I"⟩ : MethodName) ∈ xq_W := xq_inp tp_5 (y := (⟨"StepTextModel", "block", "()I"⟩ : MethodName)) (k := 42) 0 (by decide +kernel)
theorem kw5_135 : (Jvm.Cond.methodLink "StepTextModel" (257 : Nat) ({ cls := "StepTextModel", name := "known", desc := "(I)I" } : Jvm.MethodName)) ∈ xq_W := xq_in tb_5 135 (by decide +kernel) rfl
theorem kw4_184 : (Jvm.Cond.fieldLink "StepTextModel" (274 : Nat) "StepTextModel" "made" "I") ∈ xq_W := xq_in tb_4 184 (by decide +kernel) rfl
theorem kw5_139 : (Jvm.Cond.methodLink "StepTextModel" (260 : Nat) ({ cls := "StepTextModel", name := "sumOf", desc := "(I)Z" } : Jvm.MethodName)) ∈ xq_W := xq_in tb_5 139 (by decide +kernel) rfl
theorem kw5_182 : (Jvm.Cond.methodLink "StepTextModel" (263 : Nat) ({ cls := "StepTextModel", name := "test", desc := "()I" } : Jvm.MethodName)) ∈ xq_W := xq_in tb_5 182 (by decide +kernel) rfl
theorem kw5_186 : (Jvm.Cond.methodLink "StepTextModel" (266 : Nat) ({ cls := "StepTextModel", name := "pushed", desc := "(I)Z" } : Jvm.MethodName)) ∈ xq_W := xq_in tb_5 186 (by decide +kernel) rfl
theorem kw5_127 : (Jvm.Cond.methodLink "StepTextModel" (269 : Nat) ({ cls := "StepTextModel", name := "block", desc := "()I" } : Jvm.MethodName)) ∈ xq_W := xq_in tb_5 127 (by decide +kernel) rfl
theorem kw5_190 : (Jvm.Cond.constantLong "StepTextModel" (272 : Nat) (64000 : Int64)) ∈ xq_W := xq_in tb_5 190 (by decide +kernel) rfl
theorem kw5_134 : (Jvm.Cond.code ({ cls := "StepTextModel", name := "statement", desc := "()I" } : Jvm.MethodName) prog_10_method_30_code (6 : Nat) (Option.some Jvm.ClassFile.FieldType.int)) ∈ xq_W := xq_in tb_5 134 rfl rfl
theorem kw5_133 : (Jvm.Cond.instanceMethod ({ cls := "StepTextModel", name := "statement", desc := "()I" } : Jvm.MethodName)) ∈ xq_W := xq_in tb_5 133 (by decide +kernel) rfl
theorem kp5_1 : Cond.selects "StepTextModel" (⟨"StepTextModel", "statement", "()I"⟩ : MethodName) (⟨"StepTextModel", "statement", "()I"⟩ : MethodName) ∈ xq_W := xq_inp tp_5 (y := (⟨"StepTextModel", "statement", "()I"⟩ : MethodName)) (k := 42) 1 (by decide +kernel)
theorem kw5_131 : (Jvm.Cond.methodLink "StepTextModel" (254 : Nat) ({ cls := "StepTextModel", name := "statement", desc := "()I" } : Jvm.MethodName)) ∈ xq_W := xq_in tb_5 131 (by decide +kernel) rfl
def y_Mo_block : MethodName := ⟨"StepTextModel", "block", "()I"⟩
theorem cw_Mo_block {R : Room} {s : State} {args : Array Value} {own : String} {index : Nat} (hts : ∀ w ∈ xq_W, w.before args s = true) (hl : .methodLink own index y_Mo_block ∈ xq_W) {rm : Room} (hR : rm.frames + 1 ≤ R.frames ∧ 8 + (4 + 11) + rm.locals ≤ R.locals) : CallW R s args own "StepTextModel" index y_Mo_block prog_10_method_27_code 4 (some (.int)) (.code y_Mo_block prog_10_method_27_code 4 (some (.int)) :: xq_W) rm rm.cells rm.slots 0 := ⟨xq_cb 0 hts kw5_130 kw1_13 hl ⟨by decide, by decide, by decide +kernel⟩ hR, hts _ kw5_129, hts _ kp5_0⟩
def y_Mo_statement : MethodName := ⟨"StepTextModel", "statement", "()I"⟩
theorem d_Mo_statement_0 : decode prog_10_method_30_code 0 = .ok (.aload_n 0, 1) := by decide +kernel
theorem d_Mo_statement_1 : decode prog_10_method_30_code 1 = .ok (.getfield 145, 3) := by decide +kernel
theorem d_Mo_statement_4 : decode prog_10_method_30_code 4 = .ok (.sipush 1000, 3) := by decide +kernel
theorem d_Mo_statement_7 : decode prog_10_method_30_code 7 = .ok (.isub, 1) := by decide +kernel
theorem d_Mo_statement_8 : decode prog_10_method_30_code 8 = .ok (.istore_n 1, 1) := by decide +kernel
theorem d_Mo_statement_9 : decode prog_10_method_30_code 9 = .ok (.aload_n 0, 1) := by decide +kernel
theorem d_Mo_statement_10 : decode prog_10_method_30_code 10 = .ok (.getfield 142, 3) := by decide +kernel
theorem d_Mo_statement_13 : decode prog_10_method_30_code 13 = .ok (.istore_n 2, 1) := by decide +kernel
theorem d_Mo_statement_14 : decode prog_10_method_30_code 14 = .ok (.iload_n 1, 1) := by decide +kernel
theorem d_Mo_statement_15 : decode prog_10_method_30_code 15 = .ok (.bipush 10, 2) := by decide +kernel
theorem d_Mo_statement_17 : decode prog_10_method_30_code 17 = .ok (.if_icmp .lt 9, 3) := by decide +kernel
theorem d_Mo_statement_20 : decode prog_10_method_30_code 20 = .ok (.iload_n 1, 1) := by decide +kernel
theorem d_Mo_statement_21 : decode prog_10_method_30_code 21 = .ok (.bipush 22, 2) := by decide +kernel
theorem d_Mo_statement_23 : decode prog_10_method_30_code 23 = .ok (.if_icmp .le 8, 3) := by decide +kernel
theorem d_Mo_statement_26 : decode prog_10_method_30_code 26 = .ok (.aload_n 0, 1) := by decide +kernel
theorem d_Mo_statement_27 : decode prog_10_method_30_code 27 = .ok (.invokevirtual 191, 3) := by decide +kernel
theorem d_Mo_statement_30 : decode prog_10_method_30_code 30 = .ok (.ireturn, 1) := by decide +kernel
theorem d_Mo_statement_31 : decode prog_10_method_30_code 31 = .ok (.aload_n 0, 1) := by decide +kernel
theorem d_Mo_statement_32 : decode prog_10_method_30_code 32 = .ok (.invokevirtual 181, 3) := by decide +kernel
theorem d_Mo_statement_35 : decode prog_10_method_30_code 35 = .ok (.ifCond .ne 5, 3) := by decide +kernel
theorem d_Mo_statement_38 : decode prog_10_method_30_code 38 = .ok (.iconst (-1), 1) := by decide +kernel
theorem d_Mo_statement_39 : decode prog_10_method_30_code 39 = .ok (.ireturn, 1) := by decide +kernel
theorem d_Mo_statement_40 : decode prog_10_method_30_code 40 = .ok (.aload_n 0, 1) := by decide +kernel
theorem d_Mo_statement_41 : decode prog_10_method_30_code 41 = .ok (.getfield 200, 3) := by decide +kernel
theorem d_Mo_statement_44 : decode prog_10_method_30_code 44 = .ok (.istore_n 3, 1) := by decide +kernel
theorem d_Mo_statement_45 : decode prog_10_method_30_code 45 = .ok (.iconst 0, 1) := by decide +kernel
theorem d_Mo_statement_46 : decode prog_10_method_30_code 46 = .ok (.istore 4, 2) := by decide +kernel
theorem d_Mo_statement_48 : decode prog_10_method_30_code 48 = .ok (.iconst 1, 1) := by decide +kernel
theorem d_Mo_statement_49 : decode prog_10_method_30_code 49 = .ok (.istore 5, 2) := by decide +kernel
theorem d_Mo_statement_51 : decode prog_10_method_30_code 51 = .ok (.iload_n 1, 1) := by decide +kernel
theorem d_Mo_statement_52 : decode prog_10_method_30_code 52 = .ok (.tableswitch 527 10 22 #[68, 148, 175, 68, 205, 261, 332, 361, 414, 414, 527, 527, 457], 68) := by decide +kernel
theorem d_Mo_statement_120 : decode prog_10_method_30_code 120 = .ok (.aload_n 0, 1) := by decide +kernel
theorem d_Mo_statement_121 : decode prog_10_method_30_code 121 = .ok (.bipush 31, 2) := by decide +kernel
theorem d_Mo_statement_123 : decode prog_10_method_30_code 123 = .ok (.invokevirtual 257, 3) := by decide +kernel
theorem d_Mo_statement_126 : decode prog_10_method_30_code 126 = .ok (.istore 4, 2) := by decide +kernel
theorem d_Mo_statement_128 : decode prog_10_method_30_code 128 = .ok (.iload 4, 2) := by decide +kernel
theorem d_Mo_statement_130 : decode prog_10_method_30_code 130 = .ok (.ifCond .lt 64, 3) := by decide +kernel
theorem d_Mo_statement_133 : decode prog_10_method_30_code 133 = .ok (.aload_n 0, 1) := by decide +kernel
theorem d_Mo_statement_134 : decode prog_10_method_30_code 134 = .ok (.aload_n 0, 1) := by decide +kernel
theorem d_Mo_statement_135 : decode prog_10_method_30_code 135 = .ok (.getfield 48, 3) := by decide +kernel
theorem d_Mo_statement_138 : decode prog_10_method_30_code 138 = .ok (.bipush 100, 2) := by decide +kernel
theorem d_Mo_statement_140 : decode prog_10_method_30_code 140 = .ok (.iconst 1, 1) := by decide +kernel
theorem d_Mo_statement_141 : decode prog_10_method_30_code 141 = .ok (.aload_n 0, 1) := by decide +kernel
theorem d_Mo_statement_142 : decode prog_10_method_30_code 142 = .ok (.getfield 185, 3) := by decide +kernel
theorem d_Mo_statement_145 : decode prog_10_method_30_code 145 = .ok (.isub, 1) := by decide +kernel
theorem d_Mo_statement_146 : decode prog_10_method_30_code 146 = .ok (.imul, 1) := by decide +kernel
theorem d_Mo_statement_147 : decode prog_10_method_30_code 147 = .ok (.iload 4, 2) := by decide +kernel
theorem d_Mo_statement_149 : decode prog_10_method_30_code 149 = .ok (.iadd, 1) := by decide +kernel
theorem d_Mo_statement_150 : decode prog_10_method_30_code 150 = .ok (.iaload, 1) := by decide +kernel
theorem d_Mo_statement_151 : decode prog_10_method_30_code 151 = .ok (.invokevirtual 260, 3) := by decide +kernel
theorem d_Mo_statement_154 : decode prog_10_method_30_code 154 = .ok (.ifCond .eq 40, 3) := by decide +kernel
theorem d_Mo_statement_157 : decode prog_10_method_30_code 157 = .ok (.iload_n 1, 1) := by decide +kernel
theorem d_Mo_statement_158 : decode prog_10_method_30_code 158 = .ok (.bipush 10, 2) := by decide +kernel
theorem d_Mo_statement_160 : decode prog_10_method_30_code 160 = .ok (.if_icmp .eq 21, 3) := by decide +kernel
theorem d_Mo_statement_163 : decode prog_10_method_30_code 163 = .ok (.aload_n 0, 1) := by decide +kernel
theorem d_Mo_statement_164 : decode prog_10_method_30_code 164 = .ok (.sipush 1032, 3) := by decide +kernel
theorem d_Mo_statement_167 : decode prog_10_method_30_code 167 = .ok (.invokevirtual 233, 3) := by decide +kernel
theorem d_Mo_statement_170 : decode prog_10_method_30_code 170 = .ok (.ifCond .eq 24, 3) := by decide +kernel
theorem d_Mo_statement_173 : decode prog_10_method_30_code 173 = .ok (.aload_n 0, 1) := by decide +kernel
theorem d_Mo_statement_174 : decode prog_10_method_30_code 174 = .ok (.iconst 3, 1) := by decide +kernel
theorem d_Mo_statement_175 : decode prog_10_method_30_code 175 = .ok (.invokevirtual 260, 3) := by decide +kernel
theorem d_Mo_statement_178 : decode prog_10_method_30_code 178 = .ok (.ifCond .eq 16, 3) := by decide +kernel
theorem d_Mo_statement_181 : decode prog_10_method_30_code 181 = .ok (.aload_n 0, 1) := by decide +kernel
theorem d_Mo_statement_182 : decode prog_10_method_30_code 182 = .ok (.bipush 59, 2) := by decide +kernel
theorem d_Mo_statement_184 : decode prog_10_method_30_code 184 = .ok (.invokevirtual 233, 3) := by decide +kernel
theorem d_Mo_statement_187 : decode prog_10_method_30_code 187 = .ok (.ifCond .eq 7, 3) := by decide +kernel
theorem d_Mo_statement_190 : decode prog_10_method_30_code 190 = .ok (.iconst 1, 1) := by decide +kernel
theorem d_Mo_statement_191 : decode prog_10_method_30_code 191 = .ok (.goto 4, 3) := by decide +kernel
theorem d_Mo_statement_194 : decode prog_10_method_30_code 194 = .ok (.iconst 0, 1) := by decide +kernel
theorem d_Mo_statement_195 : decode prog_10_method_30_code 195 = .ok (.istore 5, 2) := by decide +kernel
theorem d_Mo_statement_197 : decode prog_10_method_30_code 197 = .ok (.goto 390, 3) := by decide +kernel
theorem d_Mo_statement_200 : decode prog_10_method_30_code 200 = .ok (.aload_n 0, 1) := by decide +kernel
theorem d_Mo_statement_201 : decode prog_10_method_30_code 201 = .ok (.iconst 3, 1) := by decide +kernel
theorem d_Mo_statement_202 : decode prog_10_method_30_code 202 = .ok (.invokevirtual 260, 3) := by decide +kernel
theorem d_Mo_statement_205 : decode prog_10_method_30_code 205 = .ok (.ifCond .eq 16, 3) := by decide +kernel
theorem d_Mo_statement_208 : decode prog_10_method_30_code 208 = .ok (.aload_n 0, 1) := by decide +kernel
theorem d_Mo_statement_209 : decode prog_10_method_30_code 209 = .ok (.bipush 59, 2) := by decide +kernel
theorem d_Mo_statement_211 : decode prog_10_method_30_code 211 = .ok (.invokevirtual 233, 3) := by decide +kernel
theorem d_Mo_statement_214 : decode prog_10_method_30_code 214 = .ok (.ifCond .eq 7, 3) := by decide +kernel
theorem d_Mo_statement_217 : decode prog_10_method_30_code 217 = .ok (.iconst 1, 1) := by decide +kernel
theorem d_Mo_statement_218 : decode prog_10_method_30_code 218 = .ok (.goto 4, 3) := by decide +kernel
theorem d_Mo_statement_221 : decode prog_10_method_30_code 221 = .ok (.iconst 0, 1) := by decide +kernel
theorem d_Mo_statement_222 : decode prog_10_method_30_code 222 = .ok (.istore 5, 2) := by decide +kernel
theorem d_Mo_statement_224 : decode prog_10_method_30_code 224 = .ok (.goto 363, 3) := by decide +kernel
theorem d_Mo_statement_227 : decode prog_10_method_30_code 227 = .ok (.aload_n 0, 1) := by decide +kernel
theorem d_Mo_statement_228 : decode prog_10_method_30_code 228 = .ok (.aload_n 0, 1) := by decide +kernel
theorem d_Mo_statement_229 : decode prog_10_method_30_code 229 = .ok (.invokevirtual 263, 3) := by decide +kernel
theorem d_Mo_statement_232 : decode prog_10_method_30_code 232 = .ok (.invokevirtual 266, 3) := by decide +kernel
theorem d_Mo_statement_235 : decode prog_10_method_30_code 235 = .ok (.ifCond .eq 16, 3) := by decide +kernel
theorem d_Mo_statement_238 : decode prog_10_method_30_code 238 = .ok (.aload_n 0, 1) := by decide +kernel
theorem d_Mo_statement_239 : decode prog_10_method_30_code 239 = .ok (.bipush 59, 2) := by decide +kernel
theorem d_Mo_statement_241 : decode prog_10_method_30_code 241 = .ok (.invokevirtual 233, 3) := by decide +kernel
theorem d_Mo_statement_244 : decode prog_10_method_30_code 244 = .ok (.ifCond .eq 7, 3) := by decide +kernel
theorem d_Mo_statement_247 : decode prog_10_method_30_code 247 = .ok (.iconst 1, 1) := by decide +kernel
theorem d_Mo_statement_248 : decode prog_10_method_30_code 248 = .ok (.goto 4, 3) := by decide +kernel
theorem d_Mo_statement_251 : decode prog_10_method_30_code 251 = .ok (.iconst 0, 1) := by decide +kernel
theorem d_Mo_statement_252 : decode prog_10_method_30_code 252 = .ok (.istore 5, 2) := by decide +kernel
theorem d_Mo_statement_254 : decode prog_10_method_30_code 254 = .ok (.goto 333, 3) := by decide +kernel
theorem d_Mo_statement_257 : decode prog_10_method_30_code 257 = .ok (.aload_n 0, 1) := by decide +kernel
theorem d_Mo_statement_258 : decode prog_10_method_30_code 258 = .ok (.aload_n 0, 1) := by decide +kernel
theorem d_Mo_statement_259 : decode prog_10_method_30_code 259 = .ok (.invokevirtual 269, 3) := by decide +kernel
theorem d_Mo_statement_262 : decode prog_10_method_30_code 262 = .ok (.invokevirtual 266, 3) := by decide +kernel
theorem d_Mo_statement_265 : decode prog_10_method_30_code 265 = .ok (.ifCond .eq 18, 3) := by decide +kernel
theorem d_Mo_statement_268 : decode prog_10_method_30_code 268 = .ok (.aload_n 0, 1) := by decide +kernel
theorem d_Mo_statement_269 : decode prog_10_method_30_code 269 = .ok (.aload_n 0, 1) := by decide +kernel
theorem d_Mo_statement_270 : decode prog_10_method_30_code 270 = .ok (.invokevirtual 269, 3) := by decide +kernel
theorem d_Mo_statement_273 : decode prog_10_method_30_code 273 = .ok (.invokevirtual 266, 3) := by decide +kernel
theorem d_Mo_statement_276 : decode prog_10_method_30_code 276 = .ok (.ifCond .eq 7, 3) := by decide +kernel
theorem d_Mo_statement_279 : decode prog_10_method_30_code 279 = .ok (.iconst 1, 1) := by decide +kernel
theorem d_Mo_statement_280 : decode prog_10_method_30_code 280 = .ok (.goto 4, 3) := by decide +kernel
theorem d_Mo_statement_283 : decode prog_10_method_30_code 283 = .ok (.iconst 0, 1) := by decide +kernel
theorem d_Mo_statement_284 : decode prog_10_method_30_code 284 = .ok (.istore 5, 2) := by decide +kernel
theorem d_Mo_statement_286 : decode prog_10_method_30_code 286 = .ok (.iload 5, 2) := by decide +kernel
theorem d_Mo_statement_288 : decode prog_10_method_30_code 288 = .ok (.ifCond .eq 299, 3) := by decide +kernel
theorem d_Mo_statement_291 : decode prog_10_method_30_code 291 = .ok (.aload_n 0, 1) := by decide +kernel
theorem d_Mo_statement_292 : decode prog_10_method_30_code 292 = .ok (.getfield 145, 3) := by decide +kernel
theorem d_Mo_statement_295 : decode prog_10_method_30_code 295 = .ok (.bipush 123, 2) := by decide +kernel
theorem d_Mo_statement_297 : decode prog_10_method_30_code 297 = .ok (.if_icmp .ne 290, 3) := by decide +kernel
theorem d_Mo_statement_300 : decode prog_10_method_30_code 300 = .ok (.aload_n 0, 1) := by decide +kernel
theorem d_Mo_statement_301 : decode prog_10_method_30_code 301 = .ok (.aload_n 0, 1) := by decide +kernel
theorem d_Mo_statement_302 : decode prog_10_method_30_code 302 = .ok (.invokevirtual 269, 3) := by decide +kernel
theorem d_Mo_statement_305 : decode prog_10_method_30_code 305 = .ok (.invokevirtual 266, 3) := by decide +kernel
theorem d_Mo_statement_308 : decode prog_10_method_30_code 308 = .ok (.istore 5, 2) := by decide +kernel
theorem d_Mo_statement_310 : decode prog_10_method_30_code 310 = .ok (.goto (-24), 3) := by decide +kernel
theorem d_Mo_statement_313 : decode prog_10_method_30_code 313 = .ok (.aload_n 0, 1) := by decide +kernel
theorem d_Mo_statement_314 : decode prog_10_method_30_code 314 = .ok (.aload_n 0, 1) := by decide +kernel
theorem d_Mo_statement_315 : decode prog_10_method_30_code 315 = .ok (.invokevirtual 263, 3) := by decide +kernel
theorem d_Mo_statement_318 : decode prog_10_method_30_code 318 = .ok (.invokevirtual 266, 3) := by decide +kernel
theorem d_Mo_statement_321 : decode prog_10_method_30_code 321 = .ok (.ifCond .eq 18, 3) := by decide +kernel
theorem d_Mo_statement_324 : decode prog_10_method_30_code 324 = .ok (.aload_n 0, 1) := by decide +kernel
theorem d_Mo_statement_325 : decode prog_10_method_30_code 325 = .ok (.aload_n 0, 1) := by decide +kernel
theorem d_Mo_statement_326 : decode prog_10_method_30_code 326 = .ok (.invokevirtual 269, 3) := by decide +kernel
theorem d_Mo_statement_329 : decode prog_10_method_30_code 329 = .ok (.invokevirtual 266, 3) := by decide +kernel
theorem d_Mo_statement_332 : decode prog_10_method_30_code 332 = .ok (.ifCond .eq 7, 3) := by decide +kernel
theorem d_Mo_statement_335 : decode prog_10_method_30_code 335 = .ok (.iconst 1, 1) := by decide +kernel
theorem d_Mo_statement_336 : decode prog_10_method_30_code 336 = .ok (.goto 4, 3) := by decide +kernel
theorem d_Mo_statement_339 : decode prog_10_method_30_code 339 = .ok (.iconst 0, 1) := by decide +kernel
theorem d_Mo_statement_340 : decode prog_10_method_30_code 340 = .ok (.istore 5, 2) := by decide +kernel
theorem d_Mo_statement_342 : decode prog_10_method_30_code 342 = .ok (.iload 5, 2) := by decide +kernel
theorem d_Mo_statement_344 : decode prog_10_method_30_code 344 = .ok (.ifCond .eq 243, 3) := by decide +kernel
theorem d_Mo_statement_347 : decode prog_10_method_30_code 347 = .ok (.aload_n 0, 1) := by decide +kernel
theorem d_Mo_statement_348 : decode prog_10_method_30_code 348 = .ok (.bipush 33, 2) := by decide +kernel
theorem d_Mo_statement_350 : decode prog_10_method_30_code 350 = .ok (.invokevirtual 236, 3) := by decide +kernel
theorem d_Mo_statement_353 : decode prog_10_method_30_code 353 = .ok (.ifCond .eq 234, 3) := by decide +kernel
theorem d_Mo_statement_356 : decode prog_10_method_30_code 356 = .ok (.aload_n 0, 1) := by decide +kernel
theorem d_Mo_statement_357 : decode prog_10_method_30_code 357 = .ok (.invokevirtual 181, 3) := by decide +kernel
theorem d_Mo_statement_360 : decode prog_10_method_30_code 360 = .ok (.ifCond .eq 18, 3) := by decide +kernel
theorem d_Mo_statement_363 : decode prog_10_method_30_code 363 = .ok (.aload_n 0, 1) := by decide +kernel
theorem d_Mo_statement_364 : decode prog_10_method_30_code 364 = .ok (.aload_n 0, 1) := by decide +kernel
theorem d_Mo_statement_365 : decode prog_10_method_30_code 365 = .ok (.invokevirtual 269, 3) := by decide +kernel
theorem d_Mo_statement_368 : decode prog_10_method_30_code 368 = .ok (.invokevirtual 266, 3) := by decide +kernel
theorem d_Mo_statement_371 : decode prog_10_method_30_code 371 = .ok (.ifCond .eq 7, 3) := by decide +kernel
theorem d_Mo_statement_374 : decode prog_10_method_30_code 374 = .ok (.iconst 1, 1) := by decide +kernel
theorem d_Mo_statement_375 : decode prog_10_method_30_code 375 = .ok (.goto 4, 3) := by decide +kernel
theorem d_Mo_statement_378 : decode prog_10_method_30_code 378 = .ok (.iconst 0, 1) := by decide +kernel
theorem d_Mo_statement_379 : decode prog_10_method_30_code 379 = .ok (.istore 5, 2) := by decide +kernel
theorem d_Mo_statement_381 : decode prog_10_method_30_code 381 = .ok (.goto 206, 3) := by decide +kernel
theorem d_Mo_statement_384 : decode prog_10_method_30_code 384 = .ok (.aload_n 0, 1) := by decide +kernel
theorem d_Mo_statement_385 : decode prog_10_method_30_code 385 = .ok (.iconst 0, 1) := by decide +kernel
theorem d_Mo_statement_386 : decode prog_10_method_30_code 386 = .ok (.invokevirtual 260, 3) := by decide +kernel
theorem d_Mo_statement_389 : decode prog_10_method_30_code 389 = .ok (.ifCond .eq 18, 3) := by decide +kernel
theorem d_Mo_statement_392 : decode prog_10_method_30_code 392 = .ok (.aload_n 0, 1) := by decide +kernel
theorem d_Mo_statement_393 : decode prog_10_method_30_code 393 = .ok (.aload_n 0, 1) := by decide +kernel
theorem d_Mo_statement_394 : decode prog_10_method_30_code 394 = .ok (.invokevirtual 269, 3) := by decide +kernel
theorem d_Mo_statement_397 : decode prog_10_method_30_code 397 = .ok (.invokevirtual 266, 3) := by decide +kernel
theorem d_Mo_statement_400 : decode prog_10_method_30_code 400 = .ok (.ifCond .eq 7, 3) := by decide +kernel
theorem d_Mo_statement_403 : decode prog_10_method_30_code 403 = .ok (.iconst 1, 1) := by decide +kernel
theorem d_Mo_statement_404 : decode prog_10_method_30_code 404 = .ok (.goto 4, 3) := by decide +kernel
theorem d_Mo_statement_407 : decode prog_10_method_30_code 407 = .ok (.iconst 0, 1) := by decide +kernel
theorem d_Mo_statement_408 : decode prog_10_method_30_code 408 = .ok (.istore 5, 2) := by decide +kernel
theorem d_Mo_statement_410 : decode prog_10_method_30_code 410 = .ok (.goto 177, 3) := by decide +kernel
theorem d_Mo_statement_413 : decode prog_10_method_30_code 413 = .ok (.aload_n 0, 1) := by decide +kernel
theorem d_Mo_statement_414 : decode prog_10_method_30_code 414 = .ok (.aload_n 0, 1) := by decide +kernel
theorem d_Mo_statement_415 : decode prog_10_method_30_code 415 = .ok (.invokevirtual 263, 3) := by decide +kernel
theorem d_Mo_statement_418 : decode prog_10_method_30_code 418 = .ok (.invokevirtual 266, 3) := by decide +kernel
theorem d_Mo_statement_421 : decode prog_10_method_30_code 421 = .ok (.ifCond .eq 39, 3) := by decide +kernel
theorem d_Mo_statement_424 : decode prog_10_method_30_code 424 = .ok (.aload_n 0, 1) := by decide +kernel
theorem d_Mo_statement_425 : decode prog_10_method_30_code 425 = .ok (.aload_n 0, 1) := by decide +kernel
theorem d_Mo_statement_426 : decode prog_10_method_30_code 426 = .ok (.invokevirtual 269, 3) := by decide +kernel
theorem d_Mo_statement_429 : decode prog_10_method_30_code 429 = .ok (.invokevirtual 266, 3) := by decide +kernel
theorem d_Mo_statement_432 : decode prog_10_method_30_code 432 = .ok (.ifCond .eq 28, 3) := by decide +kernel
theorem d_Mo_statement_435 : decode prog_10_method_30_code 435 = .ok (.aload_n 0, 1) := by decide +kernel
theorem d_Mo_statement_436 : decode prog_10_method_30_code 436 = .ok (.sipush 1034, 3) := by decide +kernel
theorem d_Mo_statement_439 : decode prog_10_method_30_code 439 = .ok (.invokevirtual 233, 3) := by decide +kernel
theorem d_Mo_statement_442 : decode prog_10_method_30_code 442 = .ok (.ifCond .eq 18, 3) := by decide +kernel
theorem d_Mo_statement_445 : decode prog_10_method_30_code 445 = .ok (.aload_n 0, 1) := by decide +kernel
theorem d_Mo_statement_446 : decode prog_10_method_30_code 446 = .ok (.aload_n 0, 1) := by decide +kernel
theorem d_Mo_statement_447 : decode prog_10_method_30_code 447 = .ok (.invokevirtual 269, 3) := by decide +kernel
theorem d_Mo_statement_450 : decode prog_10_method_30_code 450 = .ok (.invokevirtual 266, 3) := by decide +kernel
theorem d_Mo_statement_453 : decode prog_10_method_30_code 453 = .ok (.ifCond .eq 7, 3) := by decide +kernel
theorem d_Mo_statement_456 : decode prog_10_method_30_code 456 = .ok (.iconst 1, 1) := by decide +kernel
theorem d_Mo_statement_457 : decode prog_10_method_30_code 457 = .ok (.goto 4, 3) := by decide +kernel
theorem d_Mo_statement_460 : decode prog_10_method_30_code 460 = .ok (.iconst 0, 1) := by decide +kernel
theorem d_Mo_statement_461 : decode prog_10_method_30_code 461 = .ok (.istore 5, 2) := by decide +kernel
theorem d_Mo_statement_463 : decode prog_10_method_30_code 463 = .ok (.goto 124, 3) := by decide +kernel
theorem d_Mo_statement_466 : decode prog_10_method_30_code 466 = .ok (.aload_n 0, 1) := by decide +kernel
theorem d_Mo_statement_467 : decode prog_10_method_30_code 467 = .ok (.iload_n 1, 1) := by decide +kernel
theorem d_Mo_statement_468 : decode prog_10_method_30_code 468 = .ok (.bipush 18, 2) := by decide +kernel
theorem d_Mo_statement_470 : decode prog_10_method_30_code 470 = .ok (.if_icmp .ne 8, 3) := by decide +kernel
theorem d_Mo_statement_473 : decode prog_10_method_30_code 473 = .ok (.bipush 30, 2) := by decide +kernel
theorem d_Mo_statement_475 : decode prog_10_method_30_code 475 = .ok (.goto 5, 3) := by decide +kernel
theorem d_Mo_statement_478 : decode prog_10_method_30_code 478 = .ok (.bipush 24, 2) := by decide +kernel
theorem d_Mo_statement_480 : decode prog_10_method_30_code 480 = .ok (.invokevirtual 257, 3) := by decide +kernel
theorem d_Mo_statement_483 : decode prog_10_method_30_code 483 = .ok (.istore 4, 2) := by decide +kernel
theorem d_Mo_statement_485 : decode prog_10_method_30_code 485 = .ok (.iload 4, 2) := by decide +kernel
theorem d_Mo_statement_487 : decode prog_10_method_30_code 487 = .ok (.ifCond .lt 16, 3) := by decide +kernel
theorem d_Mo_statement_490 : decode prog_10_method_30_code 490 = .ok (.aload_n 0, 1) := by decide +kernel
theorem d_Mo_statement_491 : decode prog_10_method_30_code 491 = .ok (.bipush 59, 2) := by decide +kernel
theorem d_Mo_statement_493 : decode prog_10_method_30_code 493 = .ok (.invokevirtual 233, 3) := by decide +kernel
theorem d_Mo_statement_496 : decode prog_10_method_30_code 496 = .ok (.ifCond .eq 7, 3) := by decide +kernel
theorem d_Mo_statement_499 : decode prog_10_method_30_code 499 = .ok (.iconst 1, 1) := by decide +kernel
theorem d_Mo_statement_500 : decode prog_10_method_30_code 500 = .ok (.goto 4, 3) := by decide +kernel
theorem d_Mo_statement_503 : decode prog_10_method_30_code 503 = .ok (.iconst 0, 1) := by decide +kernel
theorem d_Mo_statement_504 : decode prog_10_method_30_code 504 = .ok (.istore 5, 2) := by decide +kernel
theorem d_Mo_statement_506 : decode prog_10_method_30_code 506 = .ok (.goto 81, 3) := by decide +kernel
theorem d_Mo_statement_509 : decode prog_10_method_30_code 509 = .ok (.aload_n 0, 1) := by decide +kernel
theorem d_Mo_statement_510 : decode prog_10_method_30_code 510 = .ok (.getfield 145, 3) := by decide +kernel
theorem d_Mo_statement_513 : decode prog_10_method_30_code 513 = .ok (.sipush 2000, 3) := by decide +kernel
theorem d_Mo_statement_516 : decode prog_10_method_30_code 516 = .ok (.if_icmp .ne 21, 3) := by decide +kernel
theorem d_Mo_statement_519 : decode prog_10_method_30_code 519 = .ok (.aload_n 0, 1) := by decide +kernel
theorem d_Mo_statement_520 : decode prog_10_method_30_code 520 = .ok (.getfield 175, 3) := by decide +kernel
theorem d_Mo_statement_523 : decode prog_10_method_30_code 523 = .ok (.ifCond .ne 14, 3) := by decide +kernel
theorem d_Mo_statement_526 : decode prog_10_method_30_code 526 = .ok (.aload_n 0, 1) := by decide +kernel
theorem d_Mo_statement_527 : decode prog_10_method_30_code 527 = .ok (.getfield 165, 3) := by decide +kernel
theorem d_Mo_statement_530 : decode prog_10_method_30_code 530 = .ok (.ldc2_w 272, 3) := by decide +kernel
theorem d_Mo_statement_533 : decode prog_10_method_30_code 533 = .ok (.lcmp, 1) := by decide +kernel
theorem d_Mo_statement_534 : decode prog_10_method_30_code 534 = .ok (.ifCond .lt 8, 3) := by decide +kernel
theorem d_Mo_statement_537 : decode prog_10_method_30_code 537 = .ok (.aload_n 0, 1) := by decide +kernel
theorem d_Mo_statement_538 : decode prog_10_method_30_code 538 = .ok (.invokevirtual 191, 3) := by decide +kernel
theorem d_Mo_statement_541 : decode prog_10_method_30_code 541 = .ok (.ireturn, 1) := by decide +kernel
theorem d_Mo_statement_542 : decode prog_10_method_30_code 542 = .ok (.aload_n 0, 1) := by decide +kernel
theorem d_Mo_statement_543 : decode prog_10_method_30_code 543 = .ok (.getfield 165, 3) := by decide +kernel
theorem d_Mo_statement_546 : decode prog_10_method_30_code 546 = .ok (.ldc2_w 173, 3) := by decide +kernel
theorem d_Mo_statement_549 : decode prog_10_method_30_code 549 = .ok (.ldiv, 1) := by decide +kernel
theorem d_Mo_statement_550 : decode prog_10_method_30_code 550 = .ok (.l2i, 1) := by decide +kernel
theorem d_Mo_statement_551 : decode prog_10_method_30_code 551 = .ok (.istore 4, 2) := by decide +kernel
theorem d_Mo_statement_553 : decode prog_10_method_30_code 553 = .ok (.aload_n 0, 1) := by decide +kernel
theorem d_Mo_statement_554 : decode prog_10_method_30_code 554 = .ok (.invokevirtual 181, 3) := by decide +kernel
theorem d_Mo_statement_557 : decode prog_10_method_30_code 557 = .ok (.ifCond .eq 16, 3) := by decide +kernel
theorem d_Mo_statement_560 : decode prog_10_method_30_code 560 = .ok (.aload_n 0, 1) := by decide +kernel
theorem d_Mo_statement_561 : decode prog_10_method_30_code 561 = .ok (.bipush 59, 2) := by decide +kernel
theorem d_Mo_statement_563 : decode prog_10_method_30_code 563 = .ok (.invokevirtual 233, 3) := by decide +kernel
theorem d_Mo_statement_566 : decode prog_10_method_30_code 566 = .ok (.ifCond .eq 7, 3) := by decide +kernel
theorem d_Mo_statement_569 : decode prog_10_method_30_code 569 = .ok (.iconst 1, 1) := by decide +kernel
theorem d_Mo_statement_570 : decode prog_10_method_30_code 570 = .ok (.goto 4, 3) := by decide +kernel
theorem d_Mo_statement_573 : decode prog_10_method_30_code 573 = .ok (.iconst 0, 1) := by decide +kernel
theorem d_Mo_statement_574 : decode prog_10_method_30_code 574 = .ok (.istore 5, 2) := by decide +kernel
theorem d_Mo_statement_576 : decode prog_10_method_30_code 576 = .ok (.goto 11, 3) := by decide +kernel
theorem d_Mo_statement_579 : decode prog_10_method_30_code 579 = .ok (.aload_n 0, 1) := by decide +kernel
theorem d_Mo_statement_580 : decode prog_10_method_30_code 580 = .ok (.bipush 59, 2) := by decide +kernel
theorem d_Mo_statement_582 : decode prog_10_method_30_code 582 = .ok (.invokevirtual 233, 3) := by decide +kernel
theorem d_Mo_statement_585 : decode prog_10_method_30_code 585 = .ok (.istore 5, 2) := by decide +kernel
theorem d_Mo_statement_587 : decode prog_10_method_30_code 587 = .ok (.iload 5, 2) := by decide +kernel
theorem d_Mo_statement_589 : decode prog_10_method_30_code 589 = .ok (.ifCond .ne 5, 3) := by decide +kernel
theorem d_Mo_statement_592 : decode prog_10_method_30_code 592 = .ok (.iconst (-1), 1) := by decide +kernel
theorem d_Mo_statement_593 : decode prog_10_method_30_code 593 = .ok (.ireturn, 1) := by decide +kernel
theorem d_Mo_statement_594 : decode prog_10_method_30_code 594 = .ok (.aload_n 0, 1) := by decide +kernel
theorem d_Mo_statement_595 : decode prog_10_method_30_code 595 = .ok (.dup, 1) := by decide +kernel
theorem d_Mo_statement_596 : decode prog_10_method_30_code 596 = .ok (.getfield 274, 3) := by decide +kernel
theorem d_Mo_statement_599 : decode prog_10_method_30_code 599 = .ok (.iconst 1, 1) := by decide +kernel
theorem d_Mo_statement_600 : decode prog_10_method_30_code 600 = .ok (.iadd, 1) := by decide +kernel
theorem d_Mo_statement_601 : decode prog_10_method_30_code 601 = .ok (.putfield 274, 3) := by decide +kernel
theorem d_Mo_statement_604 : decode prog_10_method_30_code 604 = .ok (.aload_n 0, 1) := by decide +kernel
theorem d_Mo_statement_605 : decode prog_10_method_30_code 605 = .ok (.iload_n 1, 1) := by decide +kernel
theorem d_Mo_statement_606 : decode prog_10_method_30_code 606 = .ok (.iload 4, 2) := by decide +kernel
theorem d_Mo_statement_608 : decode prog_10_method_30_code 608 = .ok (.i2l, 1) := by decide +kernel
theorem d_Mo_statement_609 : decode prog_10_method_30_code 609 = .ok (.iload_n 2, 1) := by decide +kernel
theorem d_Mo_statement_610 : decode prog_10_method_30_code 610 = .ok (.iconst (-1), 1) := by decide +kernel
theorem d_Mo_statement_611 : decode prog_10_method_30_code 611 = .ok (.iload_n 3, 1) := by decide +kernel
theorem d_Mo_statement_612 : decode prog_10_method_30_code 612 = .ok (.invokevirtual 207, 3) := by decide +kernel
theorem d_Mo_statement_615 : decode prog_10_method_30_code 615 = .ok (.ireturn, 1) := by decide +kernel
def wp_Mo_statement_J26 (d : Nat) (rf : T_Mo → (Int32 → T_Mo → Prop) → Prop) (post : Int32 → T_Mo → Prop) (z_this : T_Mo) (x1 : Int32) (x2 : Int32) : Prop := wp_Mo_bad z_this (fun (r1 : Int32) (u1 : T_Mo) => post r1 u1)
def wp_Mo_statement_J587 (d : Nat) (rf : T_Mo → (Int32 → T_Mo → Prop) → Prop) (post : Int32 → T_Mo → Prop) (z_this : T_Mo) (x1 : Int32) (x2 : Int32) (x3 : Int32) (x4 : Int32) (x5 : Int32) : Prop := (x5 = 0 → (post (-1 : Int32) z_this)) ∧ (¬ x5 = 0 → (wp_Mo_node0 (((((z_this.1.1.1.1.1, z_this.1.1.1.1.2), (z_this.1.1.1.2.1, (z_this.1.1.1.2.2.1, z_this.1.1.1.2.2.2))), ((z_this.1.1.2.1.1, z_this.1.1.2.1.2), (z_this.1.1.2.2.1, (z_this.1.1.2.2.2.1, z_this.1.1.2.2.2.2)))), (((z_this.1.2.1.1.1, z_this.1.2.1.1.2), (z_this.1.2.1.2.1, (z_this.1.2.1.2.2.1, z_this.1.2.1.2.2.2))), ((z_this.1.2.2.1.1, (z_this.1.2.2.1.2.1, z_this.1.2.2.1.2.2)), (z_this.1.2.2.2.1, (z_this.1.2.2.2.2.1, z_this.1.2.2.2.2.2))))), ((((z_this.2.1.1.1.1, z_this.2.1.1.1.2), (z_this.2.1.1.2.1, (z_this.2.1.1.2.2.1, z_this.2.1.1.2.2.2))), ((z_this.2.1.2.1.1, z_this.2.1.2.1.2), (z_this.2.1.2.2.1, (z_this.2.1.2.2.2.1, z_this.2.1.2.2.2.2)))), (((z_this.2.2.1.1.1, z_this.2.2.1.1.2), (z_this.2.2.1.2.1, (z_this.2.2.1.2.2.1, z_this.2.2.1.2.2.2))), ((z_this.2.2.2.1.1, (z_this.2.2.2.1.2.1, z_this.2.2.2.1.2.2)), (z_this.2.2.2.2.1, (z_this.2.2.2.2.2.1, (z_this.2.2.2.2.2.2 + (1 : Int32)))))))) x1 ((x4).toInt64) x2 (-1 : Int32) x3 (fun (r4 : Int32) (u4 : T_Mo) => post r4 u4)))
def wp_Mo_statement_J195 (d : Nat) (rf : T_Mo → (Int32 → T_Mo → Prop) → Prop) (post : Int32 → T_Mo → Prop) (z_this : T_Mo) (x1 : Int32) (x2 : Int32) (x3 : Int32) (x4 : Int32) (x5 : Int32) (y0 : Int32) : Prop := wp_Mo_statement_J587 d rf post z_this x1 x2 x3 x4 y0
def wp_Mo_statement_J194 (d : Nat) (rf : T_Mo → (Int32 → T_Mo → Prop) → Prop) (post : Int32 → T_Mo → Prop) (z_this : T_Mo) (x1 : Int32) (x2 : Int32) (x3 : Int32) (x4 : Int32) (x5 : Int32) : Prop := wp_Mo_statement_J195 d rf post z_this x1 x2 x3 x4 x5 (0 : Int32)
def wp_Mo_statement_J181 (d : Nat) (rf : T_Mo → (Int32 → T_Mo → Prop) → Prop) (post : Int32 → T_Mo → Prop) (z_this : T_Mo) (x1 : Int32) (x2 : Int32) (x3 : Int32) (x4 : Int32) (x5 : Int32) : Prop := wp_Mo_over z_this (59 : Int32) (fun (r6 : Int32) (u6 : T_Mo) => (r6 = 0 → (wp_Mo_statement_J194 d rf post u6 x1 x2 x3 x4 x5)) ∧ (¬ r6 = 0 → (wp_Mo_statement_J195 d rf post u6 x1 x2 x3 x4 x5 (1 : Int32))))
def wp_Mo_statement_J120 (d : Nat) (rf : T_Mo → (Int32 → T_Mo → Prop) → Prop) (post : Int32 → T_Mo → Prop) (z_this : T_Mo) (x1 : Int32) (x2 : Int32) (x3 : Int32) (x4 : Int32) (x5 : Int32) : Prop := wp_Mo_known z_this (31 : Int32) (fun (r3 : Int32) (u3 : T_Mo) => (r3 < 0 → (wp_Mo_statement_J194 d rf post u3 x1 x2 x3 r3 x5)) ∧ (¬ r3 < 0 → (vp_in (((100 : Int32) * ((1 : Int32) - u3.1.2.1.2.1)) + r3) 200 ∧ (wp_Mo_sumOf (wp_Mo_factor d) u3 (u3.2.1.2.2.1 ((((100 : Int32) * ((1 : Int32) - u3.1.2.1.2.1)) + r3)).toNatClampNeg) (fun (r5 : Int32) (u5 : T_Mo) => (r5 = 0 → (wp_Mo_statement_J194 d rf post u5 x1 x2 x3 r3 x5)) ∧ (¬ r5 = 0 → ((x1 = (10 : Int32) → (wp_Mo_statement_J181 d rf post u5 x1 x2 x3 r3 x5)) ∧ (¬ x1 = (10 : Int32) → (wp_Mo_over u5 (1032 : Int32) (fun (r7 : Int32) (u7 : T_Mo) => (r7 = 0 → (wp_Mo_statement_J194 d rf post u7 x1 x2 x3 r3 x5)) ∧ (¬ r7 = 0 → (wp_Mo_sumOf (wp_Mo_factor d) u7 (3 : Int32) (fun (r8 : Int32) (u8 : T_Mo) => (r8 = 0 → (wp_Mo_statement_J194 d rf post u8 x1 x2 x3 r3 x5)) ∧ (¬ r8 = 0 → (wp_Mo_statement_J181 d rf post u8 x1 x2 x3 r3 x5)))))))))))))))
def wp_Mo_statement_J222 (d : Nat) (rf : T_Mo → (Int32 → T_Mo → Prop) → Prop) (post : Int32 → T_Mo → Prop) (z_this : T_Mo) (x1 : Int32) (x2 : Int32) (x3 : Int32) (x4 : Int32) (x5 : Int32) (y0 : Int32) : Prop := wp_Mo_statement_J587 d rf post z_this x1 x2 x3 x4 y0
def wp_Mo_statement_J221 (d : Nat) (rf : T_Mo → (Int32 → T_Mo → Prop) → Prop) (post : Int32 → T_Mo → Prop) (z_this : T_Mo) (x1 : Int32) (x2 : Int32) (x3 : Int32) (x4 : Int32) (x5 : Int32) : Prop := wp_Mo_statement_J222 d rf post z_this x1 x2 x3 x4 x5 (0 : Int32)
def wp_Mo_statement_J252 (d : Nat) (rf : T_Mo → (Int32 → T_Mo → Prop) → Prop) (post : Int32 → T_Mo → Prop) (z_this : T_Mo) (x1 : Int32) (x2 : Int32) (x3 : Int32) (x4 : Int32) (x5 : Int32) (y0 : Int32) : Prop := wp_Mo_statement_J587 d rf post z_this x1 x2 x3 x4 y0
def wp_Mo_statement_J251 (d : Nat) (rf : T_Mo → (Int32 → T_Mo → Prop) → Prop) (post : Int32 → T_Mo → Prop) (z_this : T_Mo) (x1 : Int32) (x2 : Int32) (x3 : Int32) (x4 : Int32) (x5 : Int32) : Prop := wp_Mo_statement_J252 d rf post z_this x1 x2 x3 x4 x5 (0 : Int32)
def wp_Mo_statement_L286 (d : Nat) (rf : T_Mo → (Int32 → T_Mo → Prop) → Prop) (K : T_Mo → Int32 → Int32 → Int32 → Int32 → Int32 → Prop) (post : Int32 → T_Mo → Prop) : Nat → T_Mo → Int32 → Int32 → Int32 → Int32 → Int32 → Prop
  | 0, _, _, _, _, _, _ => False
  | n9 + 1, z_this, x1, x2, x3, x4, x5 => (x5 = 0 → (K z_this x1 x2 x3 x4 x5)) ∧ (¬ x5 = 0 → ((z_this.1.1.1.2.2.2 = (123 : Int32) → (rf z_this (fun (r16 : Int32) (u16 : T_Mo) => wp_Mo_pushed u16 r16 (fun (r17 : Int32) (u17 : T_Mo) => wp_Mo_statement_L286 d rf K post n9 u17 x1 x2 x3 x4 r17)))) ∧ (¬ z_this.1.1.1.2.2.2 = (123 : Int32) → (K z_this x1 x2 x3 x4 x5))))
def wp_Mo_statement_J284 (d : Nat) (rf : T_Mo → (Int32 → T_Mo → Prop) → Prop) (post : Int32 → T_Mo → Prop) (z_this : T_Mo) (x1 : Int32) (x2 : Int32) (x3 : Int32) (x4 : Int32) (x5 : Int32) (y0 : Int32) : Prop := ∃ k9 : Nat, wp_Mo_statement_L286 d rf (fun (z_this : T_Mo) (x1 : Int32) (x2 : Int32) (x3 : Int32) (x4 : Int32) (x5 : Int32) => wp_Mo_statement_J587 d rf post z_this x1 x2 x3 x4 x5) post k9 z_this x1 x2 x3 x4 y0
def wp_Mo_statement_J283 (d : Nat) (rf : T_Mo → (Int32 → T_Mo → Prop) → Prop) (post : Int32 → T_Mo → Prop) (z_this : T_Mo) (x1 : Int32) (x2 : Int32) (x3 : Int32) (x4 : Int32) (x5 : Int32) : Prop := wp_Mo_statement_J284 d rf post z_this x1 x2 x3 x4 x5 (0 : Int32)
def wp_Mo_statement_J379 (d : Nat) (rf : T_Mo → (Int32 → T_Mo → Prop) → Prop) (post : Int32 → T_Mo → Prop) (z_this : T_Mo) (x1 : Int32) (x2 : Int32) (x3 : Int32) (x4 : Int32) (x5 : Int32) (y0 : Int32) : Prop := wp_Mo_statement_J587 d rf post z_this x1 x2 x3 x4 y0
def wp_Mo_statement_J378 (d : Nat) (rf : T_Mo → (Int32 → T_Mo → Prop) → Prop) (post : Int32 → T_Mo → Prop) (z_this : T_Mo) (x1 : Int32) (x2 : Int32) (x3 : Int32) (x4 : Int32) (x5 : Int32) : Prop := wp_Mo_statement_J379 d rf post z_this x1 x2 x3 x4 x5 (0 : Int32)
def wp_Mo_statement_J340 (d : Nat) (rf : T_Mo → (Int32 → T_Mo → Prop) → Prop) (post : Int32 → T_Mo → Prop) (z_this : T_Mo) (x1 : Int32) (x2 : Int32) (x3 : Int32) (x4 : Int32) (x5 : Int32) (y0 : Int32) : Prop := (y0 = 0 → (wp_Mo_statement_J587 d rf post z_this x1 x2 x3 x4 y0)) ∧ (¬ y0 = 0 → (wp_Mo_isWord z_this (33 : Int32) (fun (r22 : Int32) (u22 : Unit) => (r22 = 0 → (wp_Mo_statement_J587 d rf post z_this x1 x2 x3 x4 y0)) ∧ (¬ r22 = 0 → (wp_Mo_go z_this (fun (r23 : Int32) (u23 : T_Mo) => (r23 = 0 → (wp_Mo_statement_J378 d rf post u23 x1 x2 x3 x4 y0)) ∧ (¬ r23 = 0 → (rf u23 (fun (r24 : Int32) (u24 : T_Mo) => wp_Mo_pushed u24 r24 (fun (r25 : Int32) (u25 : T_Mo) => (r25 = 0 → (wp_Mo_statement_J378 d rf post u25 x1 x2 x3 x4 y0)) ∧ (¬ r25 = 0 → (wp_Mo_statement_J379 d rf post u25 x1 x2 x3 x4 y0 (1 : Int32)))))))))))))
def wp_Mo_statement_J339 (d : Nat) (rf : T_Mo → (Int32 → T_Mo → Prop) → Prop) (post : Int32 → T_Mo → Prop) (z_this : T_Mo) (x1 : Int32) (x2 : Int32) (x3 : Int32) (x4 : Int32) (x5 : Int32) : Prop := wp_Mo_statement_J340 d rf post z_this x1 x2 x3 x4 x5 (0 : Int32)
def wp_Mo_statement_J408 (d : Nat) (rf : T_Mo → (Int32 → T_Mo → Prop) → Prop) (post : Int32 → T_Mo → Prop) (z_this : T_Mo) (x1 : Int32) (x2 : Int32) (x3 : Int32) (x4 : Int32) (x5 : Int32) (y0 : Int32) : Prop := wp_Mo_statement_J587 d rf post z_this x1 x2 x3 x4 y0
def wp_Mo_statement_J407 (d : Nat) (rf : T_Mo → (Int32 → T_Mo → Prop) → Prop) (post : Int32 → T_Mo → Prop) (z_this : T_Mo) (x1 : Int32) (x2 : Int32) (x3 : Int32) (x4 : Int32) (x5 : Int32) : Prop := wp_Mo_statement_J408 d rf post z_this x1 x2 x3 x4 x5 (0 : Int32)
def wp_Mo_statement_J461 (d : Nat) (rf : T_Mo → (Int32 → T_Mo → Prop) → Prop) (post : Int32 → T_Mo → Prop) (z_this : T_Mo) (x1 : Int32) (x2 : Int32) (x3 : Int32) (x4 : Int32) (x5 : Int32) (y0 : Int32) : Prop := wp_Mo_statement_J587 d rf post z_this x1 x2 x3 x4 y0
def wp_Mo_statement_J460 (d : Nat) (rf : T_Mo → (Int32 → T_Mo → Prop) → Prop) (post : Int32 → T_Mo → Prop) (z_this : T_Mo) (x1 : Int32) (x2 : Int32) (x3 : Int32) (x4 : Int32) (x5 : Int32) : Prop := wp_Mo_statement_J461 d rf post z_this x1 x2 x3 x4 x5 (0 : Int32)
def wp_Mo_statement_J504 (d : Nat) (rf : T_Mo → (Int32 → T_Mo → Prop) → Prop) (post : Int32 → T_Mo → Prop) (z_this : T_Mo) (x1 : Int32) (x2 : Int32) (x3 : Int32) (x4 : Int32) (x5 : Int32) (y0 : Int32) : Prop := wp_Mo_statement_J587 d rf post z_this x1 x2 x3 x4 y0
def wp_Mo_statement_J503 (d : Nat) (rf : T_Mo → (Int32 → T_Mo → Prop) → Prop) (post : Int32 → T_Mo → Prop) (z_this : T_Mo) (x1 : Int32) (x2 : Int32) (x3 : Int32) (x4 : Int32) (x5 : Int32) : Prop := wp_Mo_statement_J504 d rf post z_this x1 x2 x3 x4 x5 (0 : Int32)
def wp_Mo_statement_J480 (d : Nat) (rf : T_Mo → (Int32 → T_Mo → Prop) → Prop) (post : Int32 → T_Mo → Prop) (z_this : T_Mo) (x1 : Int32) (x2 : Int32) (x3 : Int32) (x4 : Int32) (x5 : Int32) (y0 : Int32) : Prop := wp_Mo_known z_this y0 (fun (r38 : Int32) (u38 : T_Mo) => (r38 < 0 → (wp_Mo_statement_J503 d rf post u38 x1 x2 x3 r38 x5)) ∧ (¬ r38 < 0 → (wp_Mo_over u38 (59 : Int32) (fun (r39 : Int32) (u39 : T_Mo) => (r39 = 0 → (wp_Mo_statement_J503 d rf post u39 x1 x2 x3 r38 x5)) ∧ (¬ r39 = 0 → (wp_Mo_statement_J504 d rf post u39 x1 x2 x3 r38 x5 (1 : Int32)))))))
def wp_Mo_statement_J466 (d : Nat) (rf : T_Mo → (Int32 → T_Mo → Prop) → Prop) (post : Int32 → T_Mo → Prop) (z_this : T_Mo) (x1 : Int32) (x2 : Int32) (x3 : Int32) (x4 : Int32) (x5 : Int32) : Prop := (x1 = (18 : Int32) → (wp_Mo_statement_J480 d rf post z_this x1 x2 x3 x4 x5 (30 : Int32))) ∧ (¬ x1 = (18 : Int32) → (wp_Mo_statement_J480 d rf post z_this x1 x2 x3 x4 x5 (24 : Int32)))
def wp_Mo_statement_J537 (d : Nat) (rf : T_Mo → (Int32 → T_Mo → Prop) → Prop) (post : Int32 → T_Mo → Prop) (z_this : T_Mo) (x1 : Int32) (x2 : Int32) (x3 : Int32) (x4 : Int32) (x5 : Int32) : Prop := wp_Mo_bad z_this (fun (r40 : Int32) (u40 : T_Mo) => post r40 u40)
def wp_Mo_statement_J574 (d : Nat) (rf : T_Mo → (Int32 → T_Mo → Prop) → Prop) (post : Int32 → T_Mo → Prop) (z_this : T_Mo) (x1 : Int32) (x2 : Int32) (x3 : Int32) (x4 : Int32) (x5 : Int32) (y0 : Int32) : Prop := wp_Mo_statement_J587 d rf post z_this x1 x2 x3 x4 y0
def wp_Mo_statement_J573 (d : Nat) (rf : T_Mo → (Int32 → T_Mo → Prop) → Prop) (post : Int32 → T_Mo → Prop) (z_this : T_Mo) (x1 : Int32) (x2 : Int32) (x3 : Int32) (x4 : Int32) (x5 : Int32) : Prop := wp_Mo_statement_J574 d rf post z_this x1 x2 x3 x4 x5 (0 : Int32)
def wp_Mo_statement_J579 (d : Nat) (rf : T_Mo → (Int32 → T_Mo → Prop) → Prop) (post : Int32 → T_Mo → Prop) (z_this : T_Mo) (x1 : Int32) (x2 : Int32) (x3 : Int32) (x4 : Int32) (x5 : Int32) : Prop := wp_Mo_over z_this (59 : Int32) (fun (r43 : Int32) (u43 : T_Mo) => wp_Mo_statement_J587 d rf post u43 x1 x2 x3 x4 r43)
def wp_Mo_statement (d : Nat) (rf : T_Mo → (Int32 → T_Mo → Prop) → Prop) (z_this : T_Mo) (post : Int32 → T_Mo → Prop) : Prop := ((z_this.1.1.1.2.2.2 - (1000 : Int32)) < (10 : Int32) → (wp_Mo_statement_J26 d rf post z_this (z_this.1.1.1.2.2.2 - (1000 : Int32)) z_this.1.1.2.2.1)) ∧ (¬ (z_this.1.1.1.2.2.2 - (1000 : Int32)) < (10 : Int32) → (((z_this.1.1.1.2.2.2 - (1000 : Int32)) ≤ (22 : Int32) → (wp_Mo_go z_this (fun (r2 : Int32) (u2 : T_Mo) => (r2 = 0 → (post (-1 : Int32) u2)) ∧ (¬ r2 = 0 → (((z_this.1.1.1.2.2.2 - (1000 : Int32)) = (10 : Int32) → (wp_Mo_statement_J120 d rf post u2 (z_this.1.1.1.2.2.2 - (1000 : Int32)) z_this.1.1.2.2.1 u2.2.2.1.2.2.2 (0 : Int32) (1 : Int32))) ∧ ((z_this.1.1.1.2.2.2 - (1000 : Int32)) = (11 : Int32) → (wp_Mo_sumOf (wp_Mo_factor d) u2 (3 : Int32) (fun (r9 : Int32) (u9 : T_Mo) => (r9 = 0 → (wp_Mo_statement_J221 d rf post u9 (z_this.1.1.1.2.2.2 - (1000 : Int32)) z_this.1.1.2.2.1 u2.2.2.1.2.2.2 (0 : Int32) (1 : Int32))) ∧ (¬ r9 = 0 → (wp_Mo_over u9 (59 : Int32) (fun (r10 : Int32) (u10 : T_Mo) => (r10 = 0 → (wp_Mo_statement_J221 d rf post u10 (z_this.1.1.1.2.2.2 - (1000 : Int32)) z_this.1.1.2.2.1 u2.2.2.1.2.2.2 (0 : Int32) (1 : Int32))) ∧ (¬ r10 = 0 → (wp_Mo_statement_J222 d rf post u10 (z_this.1.1.1.2.2.2 - (1000 : Int32)) z_this.1.1.2.2.1 u2.2.2.1.2.2.2 (0 : Int32) (1 : Int32) (1 : Int32))))))))) ∧ ((z_this.1.1.1.2.2.2 - (1000 : Int32)) = (12 : Int32) → (wp_Mo_test (wp_Mo_factor d) u2 (fun (r11 : Int32) (u11 : T_Mo) => wp_Mo_pushed u11 r11 (fun (r12 : Int32) (u12 : T_Mo) => (r12 = 0 → (wp_Mo_statement_J251 d rf post u12 (z_this.1.1.1.2.2.2 - (1000 : Int32)) z_this.1.1.2.2.1 u2.2.2.1.2.2.2 (0 : Int32) (1 : Int32))) ∧ (¬ r12 = 0 → (wp_Mo_over u12 (59 : Int32) (fun (r13 : Int32) (u13 : T_Mo) => (r13 = 0 → (wp_Mo_statement_J251 d rf post u13 (z_this.1.1.1.2.2.2 - (1000 : Int32)) z_this.1.1.2.2.1 u2.2.2.1.2.2.2 (0 : Int32) (1 : Int32))) ∧ (¬ r13 = 0 → (wp_Mo_statement_J252 d rf post u13 (z_this.1.1.1.2.2.2 - (1000 : Int32)) z_this.1.1.2.2.1 u2.2.2.1.2.2.2 (0 : Int32) (1 : Int32) (1 : Int32)))))))))) ∧ ((z_this.1.1.1.2.2.2 - (1000 : Int32)) = (13 : Int32) → (wp_Mo_statement_J120 d rf post u2 (z_this.1.1.1.2.2.2 - (1000 : Int32)) z_this.1.1.2.2.1 u2.2.2.1.2.2.2 (0 : Int32) (1 : Int32))) ∧ ((z_this.1.1.1.2.2.2 - (1000 : Int32)) = (14 : Int32) → (rf u2 (fun (r14 : Int32) (u14 : T_Mo) => wp_Mo_pushed u14 r14 (fun (r15 : Int32) (u15 : T_Mo) => (r15 = 0 → (wp_Mo_statement_J283 d rf post u15 (z_this.1.1.1.2.2.2 - (1000 : Int32)) z_this.1.1.2.2.1 u2.2.2.1.2.2.2 (0 : Int32) (1 : Int32))) ∧ (¬ r15 = 0 → (rf u15 (fun (r18 : Int32) (u18 : T_Mo) => wp_Mo_pushed u18 r18 (fun (r19 : Int32) (u19 : T_Mo) => (r19 = 0 → (wp_Mo_statement_J283 d rf post u19 (z_this.1.1.1.2.2.2 - (1000 : Int32)) z_this.1.1.2.2.1 u2.2.2.1.2.2.2 (0 : Int32) (1 : Int32))) ∧ (¬ r19 = 0 → (wp_Mo_statement_J284 d rf post u19 (z_this.1.1.1.2.2.2 - (1000 : Int32)) z_this.1.1.2.2.1 u2.2.2.1.2.2.2 (0 : Int32) (1 : Int32) (1 : Int32))))))))))) ∧ ((z_this.1.1.1.2.2.2 - (1000 : Int32)) = (15 : Int32) → (wp_Mo_test (wp_Mo_factor d) u2 (fun (r20 : Int32) (u20 : T_Mo) => wp_Mo_pushed u20 r20 (fun (r21 : Int32) (u21 : T_Mo) => (r21 = 0 → (wp_Mo_statement_J339 d rf post u21 (z_this.1.1.1.2.2.2 - (1000 : Int32)) z_this.1.1.2.2.1 u2.2.2.1.2.2.2 (0 : Int32) (1 : Int32))) ∧ (¬ r21 = 0 → (rf u21 (fun (r26 : Int32) (u26 : T_Mo) => wp_Mo_pushed u26 r26 (fun (r27 : Int32) (u27 : T_Mo) => (r27 = 0 → (wp_Mo_statement_J339 d rf post u27 (z_this.1.1.1.2.2.2 - (1000 : Int32)) z_this.1.1.2.2.1 u2.2.2.1.2.2.2 (0 : Int32) (1 : Int32))) ∧ (¬ r27 = 0 → (wp_Mo_statement_J340 d rf post u27 (z_this.1.1.1.2.2.2 - (1000 : Int32)) z_this.1.1.2.2.1 u2.2.2.1.2.2.2 (0 : Int32) (1 : Int32) (1 : Int32))))))))))) ∧ ((z_this.1.1.1.2.2.2 - (1000 : Int32)) = (16 : Int32) → (wp_Mo_sumOf (wp_Mo_factor d) u2 (0 : Int32) (fun (r28 : Int32) (u28 : T_Mo) => (r28 = 0 → (wp_Mo_statement_J407 d rf post u28 (z_this.1.1.1.2.2.2 - (1000 : Int32)) z_this.1.1.2.2.1 u2.2.2.1.2.2.2 (0 : Int32) (1 : Int32))) ∧ (¬ r28 = 0 → (rf u28 (fun (r29 : Int32) (u29 : T_Mo) => wp_Mo_pushed u29 r29 (fun (r30 : Int32) (u30 : T_Mo) => (r30 = 0 → (wp_Mo_statement_J407 d rf post u30 (z_this.1.1.1.2.2.2 - (1000 : Int32)) z_this.1.1.2.2.1 u2.2.2.1.2.2.2 (0 : Int32) (1 : Int32))) ∧ (¬ r30 = 0 → (wp_Mo_statement_J408 d rf post u30 (z_this.1.1.1.2.2.2 - (1000 : Int32)) z_this.1.1.2.2.1 u2.2.2.1.2.2.2 (0 : Int32) (1 : Int32) (1 : Int32)))))))))) ∧ ((z_this.1.1.1.2.2.2 - (1000 : Int32)) = (17 : Int32) → (wp_Mo_test (wp_Mo_factor d) u2 (fun (r31 : Int32) (u31 : T_Mo) => wp_Mo_pushed u31 r31 (fun (r32 : Int32) (u32 : T_Mo) => (r32 = 0 → (wp_Mo_statement_J460 d rf post u32 (z_this.1.1.1.2.2.2 - (1000 : Int32)) z_this.1.1.2.2.1 u2.2.2.1.2.2.2 (0 : Int32) (1 : Int32))) ∧ (¬ r32 = 0 → (rf u32 (fun (r33 : Int32) (u33 : T_Mo) => wp_Mo_pushed u33 r33 (fun (r34 : Int32) (u34 : T_Mo) => (r34 = 0 → (wp_Mo_statement_J460 d rf post u34 (z_this.1.1.1.2.2.2 - (1000 : Int32)) z_this.1.1.2.2.1 u2.2.2.1.2.2.2 (0 : Int32) (1 : Int32))) ∧ (¬ r34 = 0 → (wp_Mo_over u34 (1034 : Int32) (fun (r35 : Int32) (u35 : T_Mo) => (r35 = 0 → (wp_Mo_statement_J460 d rf post u35 (z_this.1.1.1.2.2.2 - (1000 : Int32)) z_this.1.1.2.2.1 u2.2.2.1.2.2.2 (0 : Int32) (1 : Int32))) ∧ (¬ r35 = 0 → (rf u35 (fun (r36 : Int32) (u36 : T_Mo) => wp_Mo_pushed u36 r36 (fun (r37 : Int32) (u37 : T_Mo) => (r37 = 0 → (wp_Mo_statement_J460 d rf post u37 (z_this.1.1.1.2.2.2 - (1000 : Int32)) z_this.1.1.2.2.1 u2.2.2.1.2.2.2 (0 : Int32) (1 : Int32))) ∧ (¬ r37 = 0 → (wp_Mo_statement_J461 d rf post u37 (z_this.1.1.1.2.2.2 - (1000 : Int32)) z_this.1.1.2.2.1 u2.2.2.1.2.2.2 (0 : Int32) (1 : Int32) (1 : Int32)))))))))))))))))) ∧ ((z_this.1.1.1.2.2.2 - (1000 : Int32)) = (18 : Int32) → (wp_Mo_statement_J466 d rf post u2 (z_this.1.1.1.2.2.2 - (1000 : Int32)) z_this.1.1.2.2.1 u2.2.2.1.2.2.2 (0 : Int32) (1 : Int32))) ∧ ((z_this.1.1.1.2.2.2 - (1000 : Int32)) = (19 : Int32) → (wp_Mo_statement_J466 d rf post u2 (z_this.1.1.1.2.2.2 - (1000 : Int32)) z_this.1.1.2.2.1 u2.2.2.1.2.2.2 (0 : Int32) (1 : Int32))) ∧ ((z_this.1.1.1.2.2.2 - (1000 : Int32)) = (22 : Int32) → ((u2.1.1.1.2.2.2 = (2000 : Int32) → ((u2.1.1.2.2.2.2 = 0 → (((lg_cmp u2.1.1.2.2.2.1 (64000 : Int64)) < 0 → (wp_Mo_go u2 (fun (r41 : Int32) (u41 : T_Mo) => (r41 = 0 → (wp_Mo_statement_J573 d rf post u41 (z_this.1.1.1.2.2.2 - (1000 : Int32)) z_this.1.1.2.2.1 u2.2.2.1.2.2.2 (((u2.1.1.2.2.2.1 / (1000 : Int64))).toInt32) (1 : Int32))) ∧ (¬ r41 = 0 → (wp_Mo_over u41 (59 : Int32) (fun (r42 : Int32) (u42 : T_Mo) => (r42 = 0 → (wp_Mo_statement_J573 d rf post u42 (z_this.1.1.1.2.2.2 - (1000 : Int32)) z_this.1.1.2.2.1 u2.2.2.1.2.2.2 (((u2.1.1.2.2.2.1 / (1000 : Int64))).toInt32) (1 : Int32))) ∧ (¬ r42 = 0 → (wp_Mo_statement_J574 d rf post u42 (z_this.1.1.1.2.2.2 - (1000 : Int32)) z_this.1.1.2.2.1 u2.2.2.1.2.2.2 (((u2.1.1.2.2.2.1 / (1000 : Int64))).toInt32) (1 : Int32) (1 : Int32))))))))) ∧ (¬ (lg_cmp u2.1.1.2.2.2.1 (64000 : Int64)) < 0 → (wp_Mo_statement_J537 d rf post u2 (z_this.1.1.1.2.2.2 - (1000 : Int32)) z_this.1.1.2.2.1 u2.2.2.1.2.2.2 (0 : Int32) (1 : Int32))))) ∧ (¬ u2.1.1.2.2.2.2 = 0 → (wp_Mo_statement_J537 d rf post u2 (z_this.1.1.1.2.2.2 - (1000 : Int32)) z_this.1.1.2.2.1 u2.2.2.1.2.2.2 (0 : Int32) (1 : Int32))))) ∧ (¬ u2.1.1.1.2.2.2 = (2000 : Int32) → (wp_Mo_statement_J537 d rf post u2 (z_this.1.1.1.2.2.2 - (1000 : Int32)) z_this.1.1.2.2.1 u2.2.2.1.2.2.2 (0 : Int32) (1 : Int32))))) ∧ (¬ (z_this.1.1.1.2.2.2 - (1000 : Int32)) = (10 : Int32) ∧ ¬ (z_this.1.1.1.2.2.2 - (1000 : Int32)) = (11 : Int32) ∧ ¬ (z_this.1.1.1.2.2.2 - (1000 : Int32)) = (12 : Int32) ∧ ¬ (z_this.1.1.1.2.2.2 - (1000 : Int32)) = (13 : Int32) ∧ ¬ (z_this.1.1.1.2.2.2 - (1000 : Int32)) = (14 : Int32) ∧ ¬ (z_this.1.1.1.2.2.2 - (1000 : Int32)) = (15 : Int32) ∧ ¬ (z_this.1.1.1.2.2.2 - (1000 : Int32)) = (16 : Int32) ∧ ¬ (z_this.1.1.1.2.2.2 - (1000 : Int32)) = (17 : Int32) ∧ ¬ (z_this.1.1.1.2.2.2 - (1000 : Int32)) = (18 : Int32) ∧ ¬ (z_this.1.1.1.2.2.2 - (1000 : Int32)) = (19 : Int32) ∧ ¬ (z_this.1.1.1.2.2.2 - (1000 : Int32)) = (22 : Int32) → (wp_Mo_statement_J579 d rf post u2 (z_this.1.1.1.2.2.2 - (1000 : Int32)) z_this.1.1.2.2.1 u2.2.2.1.2.2.2 (0 : Int32) (1 : Int32)))))))) ∧ (¬ (z_this.1.1.1.2.2.2 - (1000 : Int32)) ≤ (22 : Int32) → (wp_Mo_statement_J26 d rf post z_this (z_this.1.1.1.2.2.2 - (1000 : Int32)) z_this.1.1.2.2.1))))
def rm_Mo_statement (d F L : Nat) : Room := { frames := max (F + 1) (fFa d + 6), cells := 0, slots := 0, locals := max (L + 23) (fLa d + 148) }
set_option maxHeartbeats 4000000 in
set_option maxRecDepth 100000 in
theorem t_Mo_statement_J26 {p : Program} {l : Launch} {o : State × Array Value} {e : Env} {s : State} {m : MethodId} {args : Array Value} {below : List Frame} {meth : Method} {c : Code} {D : va_G} {k : Nat → ClassId} {w0 : va_W} {A : Nat → Prop} {ad_this : Nat → Nat} {post : Int32 → T_Mo → Prop} {d : Nat} {rf : T_Mo → (Int32 → T_Mo → Prop) → Prop} {F L : Nat} (hrf : ∀ {ad_this : Nat → Nat} {z_this : T_Mo} {post : Int32 → T_Mo → Prop}, rf z_this post → xq_C l o y_Mo_block (.code y_Mo_block prog_10_method_27_code 4 (some (.int)) :: xq_W) { frames := F, cells := 0, slots := 0, locals := L } D vwCl (xt k) [.ref (ad_this 0)] (w_Mo k ad_this z_this) (fun r : Int32 => some (.int r)) post (fun _ : T_Mo => False) (fun u : T_Mo => w_Mo k ad_this u) 0 0 0 0) (hAt : xq_At p s m args meth c prog_10_method_30_code 6 (some (.int)) y_Mo_statement xq_W) (hK : va_K D vwCl (xt k) s) (hJ : xq_J l o A s s.heap) (hAe : va_A w0 s.heap.size = A) (hA : ∀ q, s.heap.size ≤ q → A q) :
    ∀ (z_this : T_Mo) (x1 : Int32) (x2 : Int32) (H : Heap) (locs : List Loc) (ls : Array Slot), lv_has ls 6 [(0, .ref (ad_this 0)), (1, .int x1), (2, .int x2)] → va_P D vwCl (w_Mo k ad_this z_this) H → va_D A (w_Mo k ad_this z_this) → va_S A s.heap H locs → wp_Mo_statement_J26 d rf post z_this x1 x2 → W p l e (rm_Mo_statement d F L) s m args below meth c H locs 0 0 (xq_Z below D vwCl (xt k) w0 (fun r : Int32 => some (.int r)) post (fun _ : T_Mo => False) (fun u : T_Mo => w_Mo k ad_this u) 0 0 0 0 s) (F0 m 26 ls []) := by
  obtain ⟨hx, hb, hml, hr, hlocks, hown, hts, hex, hnm⟩ := id hAt
  intro z_this x1 x2 H locs ls hl hP hD hS hw
  unfold wp_Mo_statement_J26 at hw
  refine lv_aload_n hx hb d_Mo_statement_26 rfl (lv_at hl 0 rfl) ?_
  refine xq_go (wr := ([] : va_W)) (stk := fun r => .int r :: []) (xq_runV (As := []) (rest := []) ⟨hx, hb, hml, hown, hts⟩ (c_Mo_bad (l := l) (o := o) (D := D) (k := k) (ad_this := ad_this) hw) (cw_Mo_bad hts kw5_115 ⟨by simp only [rm_Mo_statement, rm_Mo_bad]; omega, by simp only [rm_Mo_statement, rm_Mo_bad]; omega⟩) (va_recv hK hP (ci := 8) (q0 := 0) rfl rfl) (hP.sub [0, 1, 2, 3, 4, 5, 6, 7, 8, 9, 10, 11, 12, 13, 14, 15, 16, 17] rfl) hK hJ hS (va_free hD hS hA [0, 1, 2, 3, 4, 5, 6, 7, 8, 9, 10, 11, 12, 13, 14, 15, 16, 17] rfl) ((hD.sub [0, 1, 2, 3, 4, 5, 6, 7, 8, 9, 10, 11, 12, 13, 14, 15, 16, 17] (by decide) rfl).weaken (fun _ _ _ _ => trivial)) rfl hl.1 (Nat.le_of_ble_eq_true rfl) d_Mo_statement_27 ⟨Nat.le_of_ble_eq_true rfl, Nat.le_of_ble_eq_true rfl⟩) hP hD hS hA [0, 1, 2, 3, 4, 5, 6, 7, 8, 9, 10, 11, 12, 13, 14, 15, 16, 17] [] rfl rfl (by decide) (by decide) (fun _ => rfl) (fun r1 u1 H locs hw hP hD hS => ?_) (fun _ _ _ _ h9 => h9.elim)
  have hP : va_P D vwCl (w_Mo k ad_this u1) H := hP.sub [0, 1, 2, 3, 4, 5, 6, 7, 8, 9, 10, 11, 12, 13, 14, 15, 16, 17] rfl
  have hD : va_D A (w_Mo k ad_this u1) := hD.sub [0, 1, 2, 3, 4, 5, 6, 7, 8, 9, 10, 11, 12, 13, 14, 15, 16, 17] (by decide) rfl
  exact xq_iret (r := r1) (u := u1) hx hb hr hlocks hAe hP hD hS rfl hw (Nat.le_of_ble_eq_true rfl) (Nat.le_of_ble_eq_true rfl) d_Mo_statement_30
set_option maxHeartbeats 4000000 in
set_option maxRecDepth 100000 in
theorem t_Mo_statement_J587 {p : Program} {l : Launch} {o : State × Array Value} {e : Env} {s : State} {m : MethodId} {args : Array Value} {below : List Frame} {meth : Method} {c : Code} {D : va_G} {k : Nat → ClassId} {w0 : va_W} {A : Nat → Prop} {ad_this : Nat → Nat} {post : Int32 → T_Mo → Prop} {d : Nat} {rf : T_Mo → (Int32 → T_Mo → Prop) → Prop} {F L : Nat} (hrf : ∀ {ad_this : Nat → Nat} {z_this : T_Mo} {post : Int32 → T_Mo → Prop}, rf z_this post → xq_C l o y_Mo_block (.code y_Mo_block prog_10_method_27_code 4 (some (.int)) :: xq_W) { frames := F, cells := 0, slots := 0, locals := L } D vwCl (xt k) [.ref (ad_this 0)] (w_Mo k ad_this z_this) (fun r : Int32 => some (.int r)) post (fun _ : T_Mo => False) (fun u : T_Mo => w_Mo k ad_this u) 0 0 0 0) (hAt : xq_At p s m args meth c prog_10_method_30_code 6 (some (.int)) y_Mo_statement xq_W) (hK : va_K D vwCl (xt k) s) (hJ : xq_J l o A s s.heap) (hAe : va_A w0 s.heap.size = A) (hA : ∀ q, s.heap.size ≤ q → A q) :
    ∀ (z_this : T_Mo) (x1 : Int32) (x2 : Int32) (x3 : Int32) (x4 : Int32) (x5 : Int32) (H : Heap) (locs : List Loc) (ls : Array Slot), lv_has ls 6 [(0, .ref (ad_this 0)), (1, .int x1), (2, .int x2), (3, .int x3), (4, .int x4), (5, .int x5)] → va_P D vwCl (w_Mo k ad_this z_this) H → va_D A (w_Mo k ad_this z_this) → va_S A s.heap H locs → wp_Mo_statement_J587 d rf post z_this x1 x2 x3 x4 x5 → W p l e (rm_Mo_statement d F L) s m args below meth c H locs 0 0 (xq_Z below D vwCl (xt k) w0 (fun r : Int32 => some (.int r)) post (fun _ : T_Mo => False) (fun u : T_Mo => w_Mo k ad_this u) 0 0 0 0 s) (F0 m 587 ls []) := by
  obtain ⟨hx, hb, hml, hr, hlocks, hown, hts, hex, hnm⟩ := id hAt
  intro z_this x1 x2 x3 x4 x5 H locs ls hl hP hD hS hw
  unfold wp_Mo_statement_J587 at hw
  refine lv_iload hx hb d_Mo_statement_587 (lv_at hl 5 rfl) ?_
  refine lv_if_ne (tgt := 594) hx hb d_Mo_statement_589 (by decide) (fun hc => ?_) (fun hc => ?_)
  · have hw := hw.2 hc
    refine lv_aload_n hx hb d_Mo_statement_594 rfl (lv_at hl 0 rfl) ?_
    refine lv_dup hx hb d_Mo_statement_595 rfl ?_
    refine va_get (D := D) (ci := 8) (v := .int z_this.2.2.2.2.2.2) (C := R_Mo) (T := F_Mo) (N := 42) hx hb hts in_Mo hown hK hP 0 rfl rfl 41 (by decide) (hts (.fieldLink R_Mo 274 R_Mo "made" "I") kw4_184) (fun _ h9 => h9) rfl d_Mo_statement_596 ?_
    refine lv_iconst (v := (1 : Int32)) hx hb d_Mo_statement_599 (by decide) ?_
    refine lv_iadd hx hb d_Mo_statement_600 ?_
    refine va_put (D := D) (ci := 8) (v := .int (z_this.2.2.2.2.2.2 + (1 : Int32))) (ty := .int) (C := R_Mo) (T := F_Mo) (N := 42) hx hb hts in_Mo t_Mo t_Mo_ok n_Mo hown hK hP hD hS 0 rfl rfl 41 (by decide) (hts (.fieldLink R_Mo 274 R_Mo "made" "I") kw4_184) (fun _ h9 => h9) rfl (by decide +kernel) rfl rfl (Nat.le_of_ble_eq_true rfl) d_Mo_statement_601 (fun H locs hP hD hS => ?_)
    have hP : va_P D vwCl (w_Mo k ad_this (((((z_this.1.1.1.1.1, z_this.1.1.1.1.2), (z_this.1.1.1.2.1, (z_this.1.1.1.2.2.1, z_this.1.1.1.2.2.2))), ((z_this.1.1.2.1.1, z_this.1.1.2.1.2), (z_this.1.1.2.2.1, (z_this.1.1.2.2.2.1, z_this.1.1.2.2.2.2)))), (((z_this.1.2.1.1.1, z_this.1.2.1.1.2), (z_this.1.2.1.2.1, (z_this.1.2.1.2.2.1, z_this.1.2.1.2.2.2))), ((z_this.1.2.2.1.1, (z_this.1.2.2.1.2.1, z_this.1.2.2.1.2.2)), (z_this.1.2.2.2.1, (z_this.1.2.2.2.2.1, z_this.1.2.2.2.2.2))))), ((((z_this.2.1.1.1.1, z_this.2.1.1.1.2), (z_this.2.1.1.2.1, (z_this.2.1.1.2.2.1, z_this.2.1.1.2.2.2))), ((z_this.2.1.2.1.1, z_this.2.1.2.1.2), (z_this.2.1.2.2.1, (z_this.2.1.2.2.2.1, z_this.2.1.2.2.2.2)))), (((z_this.2.2.1.1.1, z_this.2.2.1.1.2), (z_this.2.2.1.2.1, (z_this.2.2.1.2.2.1, z_this.2.2.1.2.2.2))), ((z_this.2.2.2.1.1, (z_this.2.2.2.1.2.1, z_this.2.2.2.1.2.2)), (z_this.2.2.2.2.1, (z_this.2.2.2.2.2.1, (z_this.2.2.2.2.2.2 + (1 : Int32))))))))) H := hP
    have hD : va_D A (w_Mo k ad_this (((((z_this.1.1.1.1.1, z_this.1.1.1.1.2), (z_this.1.1.1.2.1, (z_this.1.1.1.2.2.1, z_this.1.1.1.2.2.2))), ((z_this.1.1.2.1.1, z_this.1.1.2.1.2), (z_this.1.1.2.2.1, (z_this.1.1.2.2.2.1, z_this.1.1.2.2.2.2)))), (((z_this.1.2.1.1.1, z_this.1.2.1.1.2), (z_this.1.2.1.2.1, (z_this.1.2.1.2.2.1, z_this.1.2.1.2.2.2))), ((z_this.1.2.2.1.1, (z_this.1.2.2.1.2.1, z_this.1.2.2.1.2.2)), (z_this.1.2.2.2.1, (z_this.1.2.2.2.2.1, z_this.1.2.2.2.2.2))))), ((((z_this.2.1.1.1.1, z_this.2.1.1.1.2), (z_this.2.1.1.2.1, (z_this.2.1.1.2.2.1, z_this.2.1.1.2.2.2))), ((z_this.2.1.2.1.1, z_this.2.1.2.1.2), (z_this.2.1.2.2.1, (z_this.2.1.2.2.2.1, z_this.2.1.2.2.2.2)))), (((z_this.2.2.1.1.1, z_this.2.2.1.1.2), (z_this.2.2.1.2.1, (z_this.2.2.1.2.2.1, z_this.2.2.1.2.2.2))), ((z_this.2.2.2.1.1, (z_this.2.2.2.1.2.1, z_this.2.2.2.1.2.2)), (z_this.2.2.2.2.1, (z_this.2.2.2.2.2.1, (z_this.2.2.2.2.2.2 + (1 : Int32))))))))) := hD
    refine lv_aload_n hx hb d_Mo_statement_604 rfl (lv_at hl 0 rfl) ?_
    refine lv_iload_n hx hb d_Mo_statement_605 rfl (lv_at hl 1 rfl) ?_
    refine lv_iload hx hb d_Mo_statement_606 (lv_at hl 4 rfl) ?_
    refine lv_i2l hx hb d_Mo_statement_608 rfl ?_
    refine lv_iload_n hx hb d_Mo_statement_609 rfl (lv_at hl 2 rfl) ?_
    refine lv_iconst (v := (-1 : Int32)) hx hb d_Mo_statement_610 (by decide) ?_
    refine lv_iload_n hx hb d_Mo_statement_611 rfl (lv_at hl 3 rfl) ?_
    refine xq_go (wr := ([] : va_W)) (stk := fun r => .int r :: []) (xq_runV (As := [.int x1, .long (x4).toInt64, .int x2, .int (-1 : Int32), .int x3]) (rest := []) ⟨hx, hb, hml, hown, hts⟩ (c_Mo_node0 (l := l) (o := o) (D := D) (k := k) (ad_this := ad_this) hw) (cw_Mo_node0 hts kw5_162 ⟨by simp only [rm_Mo_statement, rm_Mo_node0]; omega, by simp only [rm_Mo_statement, rm_Mo_node0]; omega⟩) (va_recv hK hP (ci := 8) (q0 := 0) rfl rfl) (hP.sub [0, 1, 2, 3, 4, 5, 6, 7, 8, 9, 10, 11, 12, 13, 14, 15, 16, 17] rfl) hK hJ hS (va_free hD hS hA [0, 1, 2, 3, 4, 5, 6, 7, 8, 9, 10, 11, 12, 13, 14, 15, 16, 17] rfl) ((hD.sub [0, 1, 2, 3, 4, 5, 6, 7, 8, 9, 10, 11, 12, 13, 14, 15, 16, 17] (by decide) rfl).weaken (fun _ _ _ _ => trivial)) rfl hl.1 (Nat.le_of_ble_eq_true rfl) d_Mo_statement_612 ⟨Nat.le_of_ble_eq_true rfl, Nat.le_of_ble_eq_true rfl⟩) hP hD hS hA [0, 1, 2, 3, 4, 5, 6, 7, 8, 9, 10, 11, 12, 13, 14, 15, 16, 17] [] rfl rfl (by decide) (by decide) (fun _ => rfl) (fun r4 u4 H locs hw hP hD hS => ?_) (fun _ _ _ _ h9 => h9.elim)
    have hP : va_P D vwCl (w_Mo k ad_this u4) H := hP.sub [0, 1, 2, 3, 4, 5, 6, 7, 8, 9, 10, 11, 12, 13, 14, 15, 16, 17] rfl
    have hD : va_D A (w_Mo k ad_this u4) := hD.sub [0, 1, 2, 3, 4, 5, 6, 7, 8, 9, 10, 11, 12, 13, 14, 15, 16, 17] (by decide) rfl
    exact xq_iret (r := r4) (u := u4) hx hb hr hlocks hAe hP hD hS rfl hw (Nat.le_of_ble_eq_true rfl) (Nat.le_of_ble_eq_true rfl) d_Mo_statement_615
  · have hw := hw.1 hc
    refine lv_iconst (v := (-1 : Int32)) hx hb d_Mo_statement_592 (by decide) ?_
    exact xq_iret (r := (-1 : Int32)) (u := z_this) hx hb hr hlocks hAe hP hD hS rfl hw (Nat.le_of_ble_eq_true rfl) (Nat.le_of_ble_eq_true rfl) d_Mo_statement_593
set_option maxHeartbeats 4000000 in
set_option maxRecDepth 100000 in
theorem t_Mo_statement_J195 {p : Program} {l : Launch} {o : State × Array Value} {e : Env} {s : State} {m : MethodId} {args : Array Value} {below : List Frame} {meth : Method} {c : Code} {D : va_G} {k : Nat → ClassId} {w0 : va_W} {A : Nat → Prop} {ad_this : Nat → Nat} {post : Int32 → T_Mo → Prop} {d : Nat} {rf : T_Mo → (Int32 → T_Mo → Prop) → Prop} {F L : Nat} (hrf : ∀ {ad_this : Nat → Nat} {z_this : T_Mo} {post : Int32 → T_Mo → Prop}, rf z_this post → xq_C l o y_Mo_block (.code y_Mo_block prog_10_method_27_code 4 (some (.int)) :: xq_W) { frames := F, cells := 0, slots := 0, locals := L } D vwCl (xt k) [.ref (ad_this 0)] (w_Mo k ad_this z_this) (fun r : Int32 => some (.int r)) post (fun _ : T_Mo => False) (fun u : T_Mo => w_Mo k ad_this u) 0 0 0 0) (hAt : xq_At p s m args meth c prog_10_method_30_code 6 (some (.int)) y_Mo_statement xq_W) (hK : va_K D vwCl (xt k) s) (hJ : xq_J l o A s s.heap) (hAe : va_A w0 s.heap.size = A) (hA : ∀ q, s.heap.size ≤ q → A q) :
    ∀ (z_this : T_Mo) (x1 : Int32) (x2 : Int32) (x3 : Int32) (x4 : Int32) (x5 : Int32) (y0 : Int32) (H : Heap) (locs : List Loc) (ls : Array Slot), lv_has ls 6 [(0, .ref (ad_this 0)), (1, .int x1), (2, .int x2), (3, .int x3), (4, .int x4), (5, .int x5)] → va_P D vwCl (w_Mo k ad_this z_this) H → va_D A (w_Mo k ad_this z_this) → va_S A s.heap H locs → wp_Mo_statement_J195 d rf post z_this x1 x2 x3 x4 x5 y0 → W p l e (rm_Mo_statement d F L) s m args below meth c H locs 0 0 (xq_Z below D vwCl (xt k) w0 (fun r : Int32 => some (.int r)) post (fun _ : T_Mo => False) (fun u : T_Mo => w_Mo k ad_this u) 0 0 0 0 s) (F0 m 195 ls [.int y0]) := by
  obtain ⟨hx, hb, hml, hr, hlocks, hown, hts, hex, hnm⟩ := id hAt
  intro z_this x1 x2 x3 x4 x5 y0 H locs ls hl hP hD hS hw
  unfold wp_Mo_statement_J195 at hw
  refine lv_istore (lv' := [(5, .int y0), (0, .ref (ad_this 0)), (1, .int x1), (2, .int x2), (3, .int x3), (4, .int x4)]) hx hb d_Mo_statement_195 hl (by decide) rfl (fun ls hl => ?_)
  refine lv_goto (tgt := 587) hx hb d_Mo_statement_197 (by decide) ?_
  exact t_Mo_statement_J587 (hrf := @hrf) hAt hK hJ hAe hA z_this x1 x2 x3 x4 y0 H locs ls (lv_sub hl [1, 2, 3, 4, 5, 0] rfl) hP hD hS hw
set_option maxHeartbeats 4000000 in
set_option maxRecDepth 100000 in
theorem t_Mo_statement_J194 {p : Program} {l : Launch} {o : State × Array Value} {e : Env} {s : State} {m : MethodId} {args : Array Value} {below : List Frame} {meth : Method} {c : Code} {D : va_G} {k : Nat → ClassId} {w0 : va_W} {A : Nat → Prop} {ad_this : Nat → Nat} {post : Int32 → T_Mo → Prop} {d : Nat} {rf : T_Mo → (Int32 → T_Mo → Prop) → Prop} {F L : Nat} (hrf : ∀ {ad_this : Nat → Nat} {z_this : T_Mo} {post : Int32 → T_Mo → Prop}, rf z_this post → xq_C l o y_Mo_block (.code y_Mo_block prog_10_method_27_code 4 (some (.int)) :: xq_W) { frames := F, cells := 0, slots := 0, locals := L } D vwCl (xt k) [.ref (ad_this 0)] (w_Mo k ad_this z_this) (fun r : Int32 => some (.int r)) post (fun _ : T_Mo => False) (fun u : T_Mo => w_Mo k ad_this u) 0 0 0 0) (hAt : xq_At p s m args meth c prog_10_method_30_code 6 (some (.int)) y_Mo_statement xq_W) (hK : va_K D vwCl (xt k) s) (hJ : xq_J l o A s s.heap) (hAe : va_A w0 s.heap.size = A) (hA : ∀ q, s.heap.size ≤ q → A q) :
    ∀ (z_this : T_Mo) (x1 : Int32) (x2 : Int32) (x3 : Int32) (x4 : Int32) (x5 : Int32) (H : Heap) (locs : List Loc) (ls : Array Slot), lv_has ls 6 [(0, .ref (ad_this 0)), (1, .int x1), (2, .int x2), (3, .int x3), (4, .int x4), (5, .int x5)] → va_P D vwCl (w_Mo k ad_this z_this) H → va_D A (w_Mo k ad_this z_this) → va_S A s.heap H locs → wp_Mo_statement_J194 d rf post z_this x1 x2 x3 x4 x5 → W p l e (rm_Mo_statement d F L) s m args below meth c H locs 0 0 (xq_Z below D vwCl (xt k) w0 (fun r : Int32 => some (.int r)) post (fun _ : T_Mo => False) (fun u : T_Mo => w_Mo k ad_this u) 0 0 0 0 s) (F0 m 194 ls []) := by
  obtain ⟨hx, hb, hml, hr, hlocks, hown, hts, hex, hnm⟩ := id hAt
  intro z_this x1 x2 x3 x4 x5 H locs ls hl hP hD hS hw
  unfold wp_Mo_statement_J194 at hw
  refine lv_iconst (v := (0 : Int32)) hx hb d_Mo_statement_194 (by decide) ?_
  exact t_Mo_statement_J195 (hrf := @hrf) hAt hK hJ hAe hA z_this x1 x2 x3 x4 x5 (0 : Int32) H locs ls (lv_sub hl [0, 1, 2, 3, 4, 5] rfl) hP hD hS hw
set_option maxHeartbeats 4000000 in
set_option maxRecDepth 100000 in
theorem t_Mo_statement_J181 {p : Program} {l : Launch} {o : State × Array Value} {e : Env} {s : State} {m : MethodId} {args : Array Value} {below : List Frame} {meth : Method} {c : Code} {D : va_G} {k : Nat → ClassId} {w0 : va_W} {A : Nat → Prop} {ad_this : Nat → Nat} {post : Int32 → T_Mo → Prop} {d : Nat} {rf : T_Mo → (Int32 → T_Mo → Prop) → Prop} {F L : Nat} (hrf : ∀ {ad_this : Nat → Nat} {z_this : T_Mo} {post : Int32 → T_Mo → Prop}, rf z_this post → xq_C l o y_Mo_block (.code y_Mo_block prog_10_method_27_code 4 (some (.int)) :: xq_W) { frames := F, cells := 0, slots := 0, locals := L } D vwCl (xt k) [.ref (ad_this 0)] (w_Mo k ad_this z_this) (fun r : Int32 => some (.int r)) post (fun _ : T_Mo => False) (fun u : T_Mo => w_Mo k ad_this u) 0 0 0 0) (hAt : xq_At p s m args meth c prog_10_method_30_code 6 (some (.int)) y_Mo_statement xq_W) (hK : va_K D vwCl (xt k) s) (hJ : xq_J l o A s s.heap) (hAe : va_A w0 s.heap.size = A) (hA : ∀ q, s.heap.size ≤ q → A q) :
    ∀ (z_this : T_Mo) (x1 : Int32) (x2 : Int32) (x3 : Int32) (x4 : Int32) (x5 : Int32) (H : Heap) (locs : List Loc) (ls : Array Slot), lv_has ls 6 [(0, .ref (ad_this 0)), (1, .int x1), (2, .int x2), (3, .int x3), (4, .int x4), (5, .int x5)] → va_P D vwCl (w_Mo k ad_this z_this) H → va_D A (w_Mo k ad_this z_this) → va_S A s.heap H locs → wp_Mo_statement_J181 d rf post z_this x1 x2 x3 x4 x5 → W p l e (rm_Mo_statement d F L) s m args below meth c H locs 0 0 (xq_Z below D vwCl (xt k) w0 (fun r : Int32 => some (.int r)) post (fun _ : T_Mo => False) (fun u : T_Mo => w_Mo k ad_this u) 0 0 0 0 s) (F0 m 181 ls []) := by
  obtain ⟨hx, hb, hml, hr, hlocks, hown, hts, hex, hnm⟩ := id hAt
  intro z_this x1 x2 x3 x4 x5 H locs ls hl hP hD hS hw
  unfold wp_Mo_statement_J181 at hw
  refine lv_aload_n hx hb d_Mo_statement_181 rfl (lv_at hl 0 rfl) ?_
  refine lv_bipush (v := (59 : Int32)) hx hb d_Mo_statement_182 (by decide) ?_
  refine xq_go (wr := ([] : va_W)) (stk := fun r => .int r :: []) (xq_runV (As := [.int (59 : Int32)]) (rest := []) ⟨hx, hb, hml, hown, hts⟩ (c_Mo_over (l := l) (o := o) (D := D) (k := k) (ad_this := ad_this) hw) (cw_Mo_over hts kw5_123 ⟨by simp only [rm_Mo_statement, rm_Mo_over]; omega, by simp only [rm_Mo_statement, rm_Mo_over]; omega⟩) (va_recv hK hP (ci := 8) (q0 := 0) rfl rfl) (hP.sub [0, 1, 2, 3, 4, 5, 6, 7, 8, 9, 10, 11, 12, 13, 14, 15, 16, 17] rfl) hK hJ hS (va_free hD hS hA [0, 1, 2, 3, 4, 5, 6, 7, 8, 9, 10, 11, 12, 13, 14, 15, 16, 17] rfl) ((hD.sub [0, 1, 2, 3, 4, 5, 6, 7, 8, 9, 10, 11, 12, 13, 14, 15, 16, 17] (by decide) rfl).weaken (fun _ _ _ _ => trivial)) rfl hl.1 (Nat.le_of_ble_eq_true rfl) d_Mo_statement_184 ⟨Nat.le_of_ble_eq_true rfl, Nat.le_of_ble_eq_true rfl⟩) hP hD hS hA [0, 1, 2, 3, 4, 5, 6, 7, 8, 9, 10, 11, 12, 13, 14, 15, 16, 17] [] rfl rfl (by decide) (by decide) (fun _ => rfl) (fun r6 u6 H locs hw hP hD hS => ?_) (fun _ _ _ _ h9 => h9.elim)
  have hP : va_P D vwCl (w_Mo k ad_this u6) H := hP.sub [0, 1, 2, 3, 4, 5, 6, 7, 8, 9, 10, 11, 12, 13, 14, 15, 16, 17] rfl
  have hD : va_D A (w_Mo k ad_this u6) := hD.sub [0, 1, 2, 3, 4, 5, 6, 7, 8, 9, 10, 11, 12, 13, 14, 15, 16, 17] (by decide) rfl
  refine lv_if_eq (tgt := 194) hx hb d_Mo_statement_187 (by decide) (fun hc => ?_) (fun hc => ?_)
  · have hw := hw.1 hc
    exact t_Mo_statement_J194 (hrf := @hrf) hAt hK hJ hAe hA u6 x1 x2 x3 x4 x5 H locs ls (lv_sub hl [0, 1, 2, 3, 4, 5] rfl) hP hD hS hw
  · have hw := hw.2 hc
    refine lv_iconst (v := (1 : Int32)) hx hb d_Mo_statement_190 (by decide) ?_
    refine lv_goto (tgt := 195) hx hb d_Mo_statement_191 (by decide) ?_
    exact t_Mo_statement_J195 (hrf := @hrf) hAt hK hJ hAe hA u6 x1 x2 x3 x4 x5 (1 : Int32) H locs ls (lv_sub hl [0, 1, 2, 3, 4, 5] rfl) hP hD hS hw
set_option maxHeartbeats 4000000 in
set_option maxRecDepth 100000 in
theorem t_Mo_statement_J120 {p : Program} {l : Launch} {o : State × Array Value} {e : Env} {s : State} {m : MethodId} {args : Array Value} {below : List Frame} {meth : Method} {c : Code} {D : va_G} {k : Nat → ClassId} {w0 : va_W} {A : Nat → Prop} {ad_this : Nat → Nat} {post : Int32 → T_Mo → Prop} {d : Nat} {rf : T_Mo → (Int32 → T_Mo → Prop) → Prop} {F L : Nat} (hrf : ∀ {ad_this : Nat → Nat} {z_this : T_Mo} {post : Int32 → T_Mo → Prop}, rf z_this post → xq_C l o y_Mo_block (.code y_Mo_block prog_10_method_27_code 4 (some (.int)) :: xq_W) { frames := F, cells := 0, slots := 0, locals := L } D vwCl (xt k) [.ref (ad_this 0)] (w_Mo k ad_this z_this) (fun r : Int32 => some (.int r)) post (fun _ : T_Mo => False) (fun u : T_Mo => w_Mo k ad_this u) 0 0 0 0) (hAt : xq_At p s m args meth c prog_10_method_30_code 6 (some (.int)) y_Mo_statement xq_W) (hK : va_K D vwCl (xt k) s) (hJ : xq_J l o A s s.heap) (hAe : va_A w0 s.heap.size = A) (hA : ∀ q, s.heap.size ≤ q → A q) :
    ∀ (z_this : T_Mo) (x1 : Int32) (x2 : Int32) (x3 : Int32) (x4 : Int32) (x5 : Int32) (H : Heap) (locs : List Loc) (ls : Array Slot), lv_has ls 6 [(0, .ref (ad_this 0)), (1, .int x1), (2, .int x2), (3, .int x3), (4, .int x4), (5, .int x5)] → va_P D vwCl (w_Mo k ad_this z_this) H → va_D A (w_Mo k ad_this z_this) → va_S A s.heap H locs → wp_Mo_statement_J120 d rf post z_this x1 x2 x3 x4 x5 → W p l e (rm_Mo_statement d F L) s m args below meth c H locs 0 0 (xq_Z below D vwCl (xt k) w0 (fun r : Int32 => some (.int r)) post (fun _ : T_Mo => False) (fun u : T_Mo => w_Mo k ad_this u) 0 0 0 0 s) (F0 m 120 ls []) := by
  obtain ⟨hx, hb, hml, hr, hlocks, hown, hts, hex, hnm⟩ := id hAt
  intro z_this x1 x2 x3 x4 x5 H locs ls hl hP hD hS hw
  unfold wp_Mo_statement_J120 at hw
  refine lv_aload_n hx hb d_Mo_statement_120 rfl (lv_at hl 0 rfl) ?_
  refine lv_bipush (v := (31 : Int32)) hx hb d_Mo_statement_121 (by decide) ?_
  refine xq_go (wr := ([] : va_W)) (stk := fun r => .int r :: []) (xq_runV (As := [.int (31 : Int32)]) (rest := []) ⟨hx, hb, hml, hown, hts⟩ (c_Mo_known (l := l) (o := o) (D := D) (k := k) (ad_this := ad_this) hw) (cw_Mo_known hts kw5_135 ⟨by simp only [rm_Mo_statement, rm_Mo_known]; omega, by simp only [rm_Mo_statement, rm_Mo_known]; omega⟩) (va_recv hK hP (ci := 8) (q0 := 0) rfl rfl) (hP.sub [0, 1, 2, 3, 4, 5, 6, 7, 8, 9, 10, 11, 12, 13, 14, 15, 16, 17] rfl) hK hJ hS (va_free hD hS hA [0, 1, 2, 3, 4, 5, 6, 7, 8, 9, 10, 11, 12, 13, 14, 15, 16, 17] rfl) ((hD.sub [0, 1, 2, 3, 4, 5, 6, 7, 8, 9, 10, 11, 12, 13, 14, 15, 16, 17] (by decide) rfl).weaken (fun _ _ _ _ => trivial)) rfl hl.1 (Nat.le_of_ble_eq_true rfl) d_Mo_statement_123 ⟨Nat.le_of_ble_eq_true rfl, Nat.le_of_ble_eq_true rfl⟩) hP hD hS hA [0, 1, 2, 3, 4, 5, 6, 7, 8, 9, 10, 11, 12, 13, 14, 15, 16, 17] [] rfl rfl (by decide) (by decide) (fun _ => rfl) (fun r3 u3 H locs hw hP hD hS => ?_) (fun _ _ _ _ h9 => h9.elim)
  have hP : va_P D vwCl (w_Mo k ad_this u3) H := hP.sub [0, 1, 2, 3, 4, 5, 6, 7, 8, 9, 10, 11, 12, 13, 14, 15, 16, 17] rfl
  have hD : va_D A (w_Mo k ad_this u3) := hD.sub [0, 1, 2, 3, 4, 5, 6, 7, 8, 9, 10, 11, 12, 13, 14, 15, 16, 17] (by decide) rfl
  refine lv_istore (lv' := [(4, .int r3), (0, .ref (ad_this 0)), (1, .int x1), (2, .int x2), (3, .int x3), (5, .int x5)]) hx hb d_Mo_statement_126 hl (by decide) rfl (fun ls hl => ?_)
  refine lv_iload hx hb d_Mo_statement_128 (lv_at hl 0 rfl) ?_
  refine lv_if_lt (tgt := 194) hx hb d_Mo_statement_130 (by decide) (fun hc => ?_) (fun hc => ?_)
  · have hw := hw.1 hc
    exact t_Mo_statement_J194 (hrf := @hrf) hAt hK hJ hAe hA u3 x1 x2 x3 r3 x5 H locs ls (lv_sub hl [1, 2, 3, 4, 0, 5] rfl) hP hD hS hw
  · have hw := hw.2 hc
    refine lv_aload_n hx hb d_Mo_statement_133 rfl (lv_at hl 1 rfl) ?_
    refine lv_aload_n hx hb d_Mo_statement_134 rfl (lv_at hl 1 rfl) ?_
    refine va_get (D := D) (ci := 8) (v := .ref (ad_this 13)) (C := R_Mo) (T := F_Mo) (N := 42) hx hb hts in_Mo hown hK hP 0 rfl rfl 28 (by decide) (hts (.fieldLink R_Mo 48 R_Mo "nameUnits" "[I") kw4_171) (fun _ h9 => h9) rfl d_Mo_statement_135 ?_
    refine lv_bipush (v := (100 : Int32)) hx hb d_Mo_statement_138 (by decide) ?_
    refine lv_iconst (v := (1 : Int32)) hx hb d_Mo_statement_140 (by decide) ?_
    refine lv_aload_n hx hb d_Mo_statement_141 rfl (lv_at hl 1 rfl) ?_
    refine va_get (D := D) (ci := 8) (v := .int u3.1.2.1.2.1) (C := R_Mo) (T := F_Mo) (N := 42) hx hb hts in_Mo hown hK hP 0 rfl rfl 12 (by decide) (hts (.fieldLink R_Mo 185 R_Mo "half" "I") kw4_155) (fun _ h9 => h9) rfl d_Mo_statement_142 ?_
    refine lv_isub hx hb d_Mo_statement_145 ?_
    refine lv_imul hx hb d_Mo_statement_146 ?_
    refine lv_iload hx hb d_Mo_statement_147 (lv_at hl 0 rfl) ?_
    refine lv_iadd hx hb d_Mo_statement_149 ?_
    refine va_iald hx hb hK hP 13 0 rfl rfl hw.1 d_Mo_statement_150 ?_
    have hw := hw.2
    refine xq_go (wr := ([] : va_W)) (stk := fun r => .int r :: []) (xq_runV (As := [.int (u3.2.1.2.2.1 ((((100 : Int32) * ((1 : Int32) - u3.1.2.1.2.1)) + r3)).toNatClampNeg)]) (rest := []) ⟨hx, hb, hml, hown, hts⟩ (c_Mo_sumOf (l := l) (o := o) (D := D) (k := k) (F := fFa d) (L := fLa d) (hrf := c_Mo_factor d) (ad_this := ad_this) hw) (cw_Mo_sumOf hts kw5_139 ⟨by simp only [rm_Mo_statement, rm_Mo_sumOf]; omega, by simp only [rm_Mo_statement, rm_Mo_sumOf]; omega⟩) (va_recv hK hP (ci := 8) (q0 := 0) rfl rfl) (hP.sub [0, 1, 2, 3, 4, 5, 6, 7, 8, 9, 10, 11, 12, 13, 14, 15, 16, 17] rfl) hK hJ hS (va_free hD hS hA [0, 1, 2, 3, 4, 5, 6, 7, 8, 9, 10, 11, 12, 13, 14, 15, 16, 17] rfl) ((hD.sub [0, 1, 2, 3, 4, 5, 6, 7, 8, 9, 10, 11, 12, 13, 14, 15, 16, 17] (by decide) rfl).weaken (fun _ _ _ _ => trivial)) rfl hl.1 (Nat.le_of_ble_eq_true rfl) d_Mo_statement_151 ⟨Nat.le_of_ble_eq_true rfl, Nat.le_of_ble_eq_true rfl⟩) hP hD hS hA [0, 1, 2, 3, 4, 5, 6, 7, 8, 9, 10, 11, 12, 13, 14, 15, 16, 17] [] rfl rfl (by decide) (by decide) (fun _ => rfl) (fun r5 u5 H locs hw hP hD hS => ?_) (fun _ _ _ _ h9 => h9.elim)
    have hP : va_P D vwCl (w_Mo k ad_this u5) H := hP.sub [0, 1, 2, 3, 4, 5, 6, 7, 8, 9, 10, 11, 12, 13, 14, 15, 16, 17] rfl
    have hD : va_D A (w_Mo k ad_this u5) := hD.sub [0, 1, 2, 3, 4, 5, 6, 7, 8, 9, 10, 11, 12, 13, 14, 15, 16, 17] (by decide) rfl
    refine lv_if_eq (tgt := 194) hx hb d_Mo_statement_154 (by decide) (fun hc => ?_) (fun hc => ?_)
    · have hw := hw.1 hc
      exact t_Mo_statement_J194 (hrf := @hrf) hAt hK hJ hAe hA u5 x1 x2 x3 r3 x5 H locs ls (lv_sub hl [1, 2, 3, 4, 0, 5] rfl) hP hD hS hw
    · have hw := hw.2 hc
      refine lv_iload_n hx hb d_Mo_statement_157 rfl (lv_at hl 2 rfl) ?_
      refine lv_bipush (v := (10 : Int32)) hx hb d_Mo_statement_158 (by decide) ?_
      refine lv_icmp_eq (tgt := 181) hx hb d_Mo_statement_160 (by decide) (fun hc => ?_) (fun hc => ?_)
      · have hw := hw.1 hc
        exact t_Mo_statement_J181 (hrf := @hrf) hAt hK hJ hAe hA u5 x1 x2 x3 r3 x5 H locs ls (lv_sub hl [1, 2, 3, 4, 0, 5] rfl) hP hD hS hw
      · have hw := hw.2 hc
        refine lv_aload_n hx hb d_Mo_statement_163 rfl (lv_at hl 1 rfl) ?_
        refine lv_sipush (v := (1032 : Int32)) hx hb d_Mo_statement_164 (by decide) ?_
        refine xq_go (wr := ([] : va_W)) (stk := fun r => .int r :: []) (xq_runV (As := [.int (1032 : Int32)]) (rest := []) ⟨hx, hb, hml, hown, hts⟩ (c_Mo_over (l := l) (o := o) (D := D) (k := k) (ad_this := ad_this) hw) (cw_Mo_over hts kw5_123 ⟨by simp only [rm_Mo_statement, rm_Mo_over]; omega, by simp only [rm_Mo_statement, rm_Mo_over]; omega⟩) (va_recv hK hP (ci := 8) (q0 := 0) rfl rfl) (hP.sub [0, 1, 2, 3, 4, 5, 6, 7, 8, 9, 10, 11, 12, 13, 14, 15, 16, 17] rfl) hK hJ hS (va_free hD hS hA [0, 1, 2, 3, 4, 5, 6, 7, 8, 9, 10, 11, 12, 13, 14, 15, 16, 17] rfl) ((hD.sub [0, 1, 2, 3, 4, 5, 6, 7, 8, 9, 10, 11, 12, 13, 14, 15, 16, 17] (by decide) rfl).weaken (fun _ _ _ _ => trivial)) rfl hl.1 (Nat.le_of_ble_eq_true rfl) d_Mo_statement_167 ⟨Nat.le_of_ble_eq_true rfl, Nat.le_of_ble_eq_true rfl⟩) hP hD hS hA [0, 1, 2, 3, 4, 5, 6, 7, 8, 9, 10, 11, 12, 13, 14, 15, 16, 17] [] rfl rfl (by decide) (by decide) (fun _ => rfl) (fun r7 u7 H locs hw hP hD hS => ?_) (fun _ _ _ _ h9 => h9.elim)
        have hP : va_P D vwCl (w_Mo k ad_this u7) H := hP.sub [0, 1, 2, 3, 4, 5, 6, 7, 8, 9, 10, 11, 12, 13, 14, 15, 16, 17] rfl
        have hD : va_D A (w_Mo k ad_this u7) := hD.sub [0, 1, 2, 3, 4, 5, 6, 7, 8, 9, 10, 11, 12, 13, 14, 15, 16, 17] (by decide) rfl
        refine lv_if_eq (tgt := 194) hx hb d_Mo_statement_170 (by decide) (fun hc => ?_) (fun hc => ?_)
        · have hw := hw.1 hc
          exact t_Mo_statement_J194 (hrf := @hrf) hAt hK hJ hAe hA u7 x1 x2 x3 r3 x5 H locs ls (lv_sub hl [1, 2, 3, 4, 0, 5] rfl) hP hD hS hw
        · have hw := hw.2 hc
          refine lv_aload_n hx hb d_Mo_statement_173 rfl (lv_at hl 1 rfl) ?_
          refine lv_iconst (v := (3 : Int32)) hx hb d_Mo_statement_174 (by decide) ?_
          refine xq_go (wr := ([] : va_W)) (stk := fun r => .int r :: []) (xq_runV (As := [.int (3 : Int32)]) (rest := []) ⟨hx, hb, hml, hown, hts⟩ (c_Mo_sumOf (l := l) (o := o) (D := D) (k := k) (F := fFa d) (L := fLa d) (hrf := c_Mo_factor d) (ad_this := ad_this) hw) (cw_Mo_sumOf hts kw5_139 ⟨by simp only [rm_Mo_statement, rm_Mo_sumOf]; omega, by simp only [rm_Mo_statement, rm_Mo_sumOf]; omega⟩) (va_recv hK hP (ci := 8) (q0 := 0) rfl rfl) (hP.sub [0, 1, 2, 3, 4, 5, 6, 7, 8, 9, 10, 11, 12, 13, 14, 15, 16, 17] rfl) hK hJ hS (va_free hD hS hA [0, 1, 2, 3, 4, 5, 6, 7, 8, 9, 10, 11, 12, 13, 14, 15, 16, 17] rfl) ((hD.sub [0, 1, 2, 3, 4, 5, 6, 7, 8, 9, 10, 11, 12, 13, 14, 15, 16, 17] (by decide) rfl).weaken (fun _ _ _ _ => trivial)) rfl hl.1 (Nat.le_of_ble_eq_true rfl) d_Mo_statement_175 ⟨Nat.le_of_ble_eq_true rfl, Nat.le_of_ble_eq_true rfl⟩) hP hD hS hA [0, 1, 2, 3, 4, 5, 6, 7, 8, 9, 10, 11, 12, 13, 14, 15, 16, 17] [] rfl rfl (by decide) (by decide) (fun _ => rfl) (fun r8 u8 H locs hw hP hD hS => ?_) (fun _ _ _ _ h9 => h9.elim)
          have hP : va_P D vwCl (w_Mo k ad_this u8) H := hP.sub [0, 1, 2, 3, 4, 5, 6, 7, 8, 9, 10, 11, 12, 13, 14, 15, 16, 17] rfl
          have hD : va_D A (w_Mo k ad_this u8) := hD.sub [0, 1, 2, 3, 4, 5, 6, 7, 8, 9, 10, 11, 12, 13, 14, 15, 16, 17] (by decide) rfl
          refine lv_if_eq (tgt := 194) hx hb d_Mo_statement_178 (by decide) (fun hc => ?_) (fun hc => ?_)
          · have hw := hw.1 hc
            exact t_Mo_statement_J194 (hrf := @hrf) hAt hK hJ hAe hA u8 x1 x2 x3 r3 x5 H locs ls (lv_sub hl [1, 2, 3, 4, 0, 5] rfl) hP hD hS hw
          · have hw := hw.2 hc
            exact t_Mo_statement_J181 (hrf := @hrf) hAt hK hJ hAe hA u8 x1 x2 x3 r3 x5 H locs ls (lv_sub hl [1, 2, 3, 4, 0, 5] rfl) hP hD hS hw
set_option maxHeartbeats 4000000 in
set_option maxRecDepth 100000 in
theorem t_Mo_statement_J222 {p : Program} {l : Launch} {o : State × Array Value} {e : Env} {s : State} {m : MethodId} {args : Array Value} {below : List Frame} {meth : Method} {c : Code} {D : va_G} {k : Nat → ClassId} {w0 : va_W} {A : Nat → Prop} {ad_this : Nat → Nat} {post : Int32 → T_Mo → Prop} {d : Nat} {rf : T_Mo → (Int32 → T_Mo → Prop) → Prop} {F L : Nat} (hrf : ∀ {ad_this : Nat → Nat} {z_this : T_Mo} {post : Int32 → T_Mo → Prop}, rf z_this post → xq_C l o y_Mo_block (.code y_Mo_block prog_10_method_27_code 4 (some (.int)) :: xq_W) { frames := F, cells := 0, slots := 0, locals := L } D vwCl (xt k) [.ref (ad_this 0)] (w_Mo k ad_this z_this) (fun r : Int32 => some (.int r)) post (fun _ : T_Mo => False) (fun u : T_Mo => w_Mo k ad_this u) 0 0 0 0) (hAt : xq_At p s m args meth c prog_10_method_30_code 6 (some (.int)) y_Mo_statement xq_W) (hK : va_K D vwCl (xt k) s) (hJ : xq_J l o A s s.heap) (hAe : va_A w0 s.heap.size = A) (hA : ∀ q, s.heap.size ≤ q → A q) :
    ∀ (z_this : T_Mo) (x1 : Int32) (x2 : Int32) (x3 : Int32) (x4 : Int32) (x5 : Int32) (y0 : Int32) (H : Heap) (locs : List Loc) (ls : Array Slot), lv_has ls 6 [(0, .ref (ad_this 0)), (1, .int x1), (2, .int x2), (3, .int x3), (4, .int x4), (5, .int x5)] → va_P D vwCl (w_Mo k ad_this z_this) H → va_D A (w_Mo k ad_this z_this) → va_S A s.heap H locs → wp_Mo_statement_J222 d rf post z_this x1 x2 x3 x4 x5 y0 → W p l e (rm_Mo_statement d F L) s m args below meth c H locs 0 0 (xq_Z below D vwCl (xt k) w0 (fun r : Int32 => some (.int r)) post (fun _ : T_Mo => False) (fun u : T_Mo => w_Mo k ad_this u) 0 0 0 0 s) (F0 m 222 ls [.int y0]) := by
  obtain ⟨hx, hb, hml, hr, hlocks, hown, hts, hex, hnm⟩ := id hAt
  intro z_this x1 x2 x3 x4 x5 y0 H locs ls hl hP hD hS hw
  unfold wp_Mo_statement_J222 at hw
  refine lv_istore (lv' := [(5, .int y0), (0, .ref (ad_this 0)), (1, .int x1), (2, .int x2), (3, .int x3), (4, .int x4)]) hx hb d_Mo_statement_222 hl (by decide) rfl (fun ls hl => ?_)
  refine lv_goto (tgt := 587) hx hb d_Mo_statement_224 (by decide) ?_
  exact t_Mo_statement_J587 (hrf := @hrf) hAt hK hJ hAe hA z_this x1 x2 x3 x4 y0 H locs ls (lv_sub hl [1, 2, 3, 4, 5, 0] rfl) hP hD hS hw
set_option maxHeartbeats 4000000 in
set_option maxRecDepth 100000 in
theorem t_Mo_statement_J221 {p : Program} {l : Launch} {o : State × Array Value} {e : Env} {s : State} {m : MethodId} {args : Array Value} {below : List Frame} {meth : Method} {c : Code} {D : va_G} {k : Nat → ClassId} {w0 : va_W} {A : Nat → Prop} {ad_this : Nat → Nat} {post : Int32 → T_Mo → Prop} {d : Nat} {rf : T_Mo → (Int32 → T_Mo → Prop) → Prop} {F L : Nat} (hrf : ∀ {ad_this : Nat → Nat} {z_this : T_Mo} {post : Int32 → T_Mo → Prop}, rf z_this post → xq_C l o y_Mo_block (.code y_Mo_block prog_10_method_27_code 4 (some (.int)) :: xq_W) { frames := F, cells := 0, slots := 0, locals := L } D vwCl (xt k) [.ref (ad_this 0)] (w_Mo k ad_this z_this) (fun r : Int32 => some (.int r)) post (fun _ : T_Mo => False) (fun u : T_Mo => w_Mo k ad_this u) 0 0 0 0) (hAt : xq_At p s m args meth c prog_10_method_30_code 6 (some (.int)) y_Mo_statement xq_W) (hK : va_K D vwCl (xt k) s) (hJ : xq_J l o A s s.heap) (hAe : va_A w0 s.heap.size = A) (hA : ∀ q, s.heap.size ≤ q → A q) :
    ∀ (z_this : T_Mo) (x1 : Int32) (x2 : Int32) (x3 : Int32) (x4 : Int32) (x5 : Int32) (H : Heap) (locs : List Loc) (ls : Array Slot), lv_has ls 6 [(0, .ref (ad_this 0)), (1, .int x1), (2, .int x2), (3, .int x3), (4, .int x4), (5, .int x5)] → va_P D vwCl (w_Mo k ad_this z_this) H → va_D A (w_Mo k ad_this z_this) → va_S A s.heap H locs → wp_Mo_statement_J221 d rf post z_this x1 x2 x3 x4 x5 → W p l e (rm_Mo_statement d F L) s m args below meth c H locs 0 0 (xq_Z below D vwCl (xt k) w0 (fun r : Int32 => some (.int r)) post (fun _ : T_Mo => False) (fun u : T_Mo => w_Mo k ad_this u) 0 0 0 0 s) (F0 m 221 ls []) := by
  obtain ⟨hx, hb, hml, hr, hlocks, hown, hts, hex, hnm⟩ := id hAt
  intro z_this x1 x2 x3 x4 x5 H locs ls hl hP hD hS hw
  unfold wp_Mo_statement_J221 at hw
  refine lv_iconst (v := (0 : Int32)) hx hb d_Mo_statement_221 (by decide) ?_
  exact t_Mo_statement_J222 (hrf := @hrf) hAt hK hJ hAe hA z_this x1 x2 x3 x4 x5 (0 : Int32) H locs ls (lv_sub hl [0, 1, 2, 3, 4, 5] rfl) hP hD hS hw
set_option maxHeartbeats 4000000 in
set_option maxRecDepth 100000 in
theorem t_Mo_statement_J252 {p : Program} {l : Launch} {o : State × Array Value} {e : Env} {s : State} {m : MethodId} {args : Array Value} {below : List Frame} {meth : Method} {c : Code} {D : va_G} {k : Nat → ClassId} {w0 : va_W} {A : Nat → Prop} {ad_this : Nat → Nat} {post : Int32 → T_Mo → Prop} {d : Nat} {rf : T_Mo → (Int32 → T_Mo → Prop) → Prop} {F L : Nat} (hrf : ∀ {ad_this : Nat → Nat} {z_this : T_Mo} {post : Int32 → T_Mo → Prop}, rf z_this post → xq_C l o y_Mo_block (.code y_Mo_block prog_10_method_27_code 4 (some (.int)) :: xq_W) { frames := F, cells := 0, slots := 0, locals := L } D vwCl (xt k) [.ref (ad_this 0)] (w_Mo k ad_this z_this) (fun r : Int32 => some (.int r)) post (fun _ : T_Mo => False) (fun u : T_Mo => w_Mo k ad_this u) 0 0 0 0) (hAt : xq_At p s m args meth c prog_10_method_30_code 6 (some (.int)) y_Mo_statement xq_W) (hK : va_K D vwCl (xt k) s) (hJ : xq_J l o A s s.heap) (hAe : va_A w0 s.heap.size = A) (hA : ∀ q, s.heap.size ≤ q → A q) :
    ∀ (z_this : T_Mo) (x1 : Int32) (x2 : Int32) (x3 : Int32) (x4 : Int32) (x5 : Int32) (y0 : Int32) (H : Heap) (locs : List Loc) (ls : Array Slot), lv_has ls 6 [(0, .ref (ad_this 0)), (1, .int x1), (2, .int x2), (3, .int x3), (4, .int x4), (5, .int x5)] → va_P D vwCl (w_Mo k ad_this z_this) H → va_D A (w_Mo k ad_this z_this) → va_S A s.heap H locs → wp_Mo_statement_J252 d rf post z_this x1 x2 x3 x4 x5 y0 → W p l e (rm_Mo_statement d F L) s m args below meth c H locs 0 0 (xq_Z below D vwCl (xt k) w0 (fun r : Int32 => some (.int r)) post (fun _ : T_Mo => False) (fun u : T_Mo => w_Mo k ad_this u) 0 0 0 0 s) (F0 m 252 ls [.int y0]) := by
  obtain ⟨hx, hb, hml, hr, hlocks, hown, hts, hex, hnm⟩ := id hAt
  intro z_this x1 x2 x3 x4 x5 y0 H locs ls hl hP hD hS hw
  unfold wp_Mo_statement_J252 at hw
  refine lv_istore (lv' := [(5, .int y0), (0, .ref (ad_this 0)), (1, .int x1), (2, .int x2), (3, .int x3), (4, .int x4)]) hx hb d_Mo_statement_252 hl (by decide) rfl (fun ls hl => ?_)
  refine lv_goto (tgt := 587) hx hb d_Mo_statement_254 (by decide) ?_
  exact t_Mo_statement_J587 (hrf := @hrf) hAt hK hJ hAe hA z_this x1 x2 x3 x4 y0 H locs ls (lv_sub hl [1, 2, 3, 4, 5, 0] rfl) hP hD hS hw
set_option maxHeartbeats 4000000 in
set_option maxRecDepth 100000 in
theorem t_Mo_statement_J251 {p : Program} {l : Launch} {o : State × Array Value} {e : Env} {s : State} {m : MethodId} {args : Array Value} {below : List Frame} {meth : Method} {c : Code} {D : va_G} {k : Nat → ClassId} {w0 : va_W} {A : Nat → Prop} {ad_this : Nat → Nat} {post : Int32 → T_Mo → Prop} {d : Nat} {rf : T_Mo → (Int32 → T_Mo → Prop) → Prop} {F L : Nat} (hrf : ∀ {ad_this : Nat → Nat} {z_this : T_Mo} {post : Int32 → T_Mo → Prop}, rf z_this post → xq_C l o y_Mo_block (.code y_Mo_block prog_10_method_27_code 4 (some (.int)) :: xq_W) { frames := F, cells := 0, slots := 0, locals := L } D vwCl (xt k) [.ref (ad_this 0)] (w_Mo k ad_this z_this) (fun r : Int32 => some (.int r)) post (fun _ : T_Mo => False) (fun u : T_Mo => w_Mo k ad_this u) 0 0 0 0) (hAt : xq_At p s m args meth c prog_10_method_30_code 6 (some (.int)) y_Mo_statement xq_W) (hK : va_K D vwCl (xt k) s) (hJ : xq_J l o A s s.heap) (hAe : va_A w0 s.heap.size = A) (hA : ∀ q, s.heap.size ≤ q → A q) :
    ∀ (z_this : T_Mo) (x1 : Int32) (x2 : Int32) (x3 : Int32) (x4 : Int32) (x5 : Int32) (H : Heap) (locs : List Loc) (ls : Array Slot), lv_has ls 6 [(0, .ref (ad_this 0)), (1, .int x1), (2, .int x2), (3, .int x3), (4, .int x4), (5, .int x5)] → va_P D vwCl (w_Mo k ad_this z_this) H → va_D A (w_Mo k ad_this z_this) → va_S A s.heap H locs → wp_Mo_statement_J251 d rf post z_this x1 x2 x3 x4 x5 → W p l e (rm_Mo_statement d F L) s m args below meth c H locs 0 0 (xq_Z below D vwCl (xt k) w0 (fun r : Int32 => some (.int r)) post (fun _ : T_Mo => False) (fun u : T_Mo => w_Mo k ad_this u) 0 0 0 0 s) (F0 m 251 ls []) := by
  obtain ⟨hx, hb, hml, hr, hlocks, hown, hts, hex, hnm⟩ := id hAt
  intro z_this x1 x2 x3 x4 x5 H locs ls hl hP hD hS hw
  unfold wp_Mo_statement_J251 at hw
  refine lv_iconst (v := (0 : Int32)) hx hb d_Mo_statement_251 (by decide) ?_
  exact t_Mo_statement_J252 (hrf := @hrf) hAt hK hJ hAe hA z_this x1 x2 x3 x4 x5 (0 : Int32) H locs ls (lv_sub hl [0, 1, 2, 3, 4, 5] rfl) hP hD hS hw
set_option maxHeartbeats 4000000 in
set_option maxRecDepth 100000 in
theorem t_Mo_statement_L286 {p : Program} {l : Launch} {o : State × Array Value} {e : Env} {s : State} {m : MethodId} {args : Array Value} {below : List Frame} {meth : Method} {c : Code} {D : va_G} {k : Nat → ClassId} {w0 : va_W} {A : Nat → Prop} {ad_this : Nat → Nat} {post : Int32 → T_Mo → Prop} {d : Nat} {rf : T_Mo → (Int32 → T_Mo → Prop) → Prop} {F L : Nat} (hrf : ∀ {ad_this : Nat → Nat} {z_this : T_Mo} {post : Int32 → T_Mo → Prop}, rf z_this post → xq_C l o y_Mo_block (.code y_Mo_block prog_10_method_27_code 4 (some (.int)) :: xq_W) { frames := F, cells := 0, slots := 0, locals := L } D vwCl (xt k) [.ref (ad_this 0)] (w_Mo k ad_this z_this) (fun r : Int32 => some (.int r)) post (fun _ : T_Mo => False) (fun u : T_Mo => w_Mo k ad_this u) 0 0 0 0) (hAt : xq_At p s m args meth c prog_10_method_30_code 6 (some (.int)) y_Mo_statement xq_W) (hK : va_K D vwCl (xt k) s) (hJ : xq_J l o A s s.heap) (hAe : va_A w0 s.heap.size = A) (hA : ∀ q, s.heap.size ≤ q → A q) {K : T_Mo → Int32 → Int32 → Int32 → Int32 → Int32 → Prop} (hX : ∀ (z_this : T_Mo) (x1 : Int32) (x2 : Int32) (x3 : Int32) (x4 : Int32) (x5 : Int32) (H : Heap) (locs : List Loc) (ls : Array Slot), lv_has ls 6 [(0, .ref (ad_this 0)), (1, .int x1), (2, .int x2), (3, .int x3), (4, .int x4), (5, .int x5)] → va_P D vwCl (w_Mo k ad_this z_this) H → va_D A (w_Mo k ad_this z_this) → va_S A s.heap H locs → K z_this x1 x2 x3 x4 x5 → W p l e (rm_Mo_statement d F L) s m args below meth c H locs 0 0 (xq_Z below D vwCl (xt k) w0 (fun r : Int32 => some (.int r)) post (fun _ : T_Mo => False) (fun u : T_Mo => w_Mo k ad_this u) 0 0 0 0 s) (F0 m 587 ls [])) :
    ∀ (n9 : Nat) (z_this : T_Mo) (x1 : Int32) (x2 : Int32) (x3 : Int32) (x4 : Int32) (x5 : Int32) (H : Heap) (locs : List Loc) (ls : Array Slot), lv_has ls 6 [(0, .ref (ad_this 0)), (1, .int x1), (2, .int x2), (3, .int x3), (4, .int x4), (5, .int x5)] → va_P D vwCl (w_Mo k ad_this z_this) H → va_D A (w_Mo k ad_this z_this) → va_S A s.heap H locs → wp_Mo_statement_L286 d rf K post n9 z_this x1 x2 x3 x4 x5 → W p l e (rm_Mo_statement d F L) s m args below meth c H locs 0 0 (xq_Z below D vwCl (xt k) w0 (fun r : Int32 => some (.int r)) post (fun _ : T_Mo => False) (fun u : T_Mo => w_Mo k ad_this u) 0 0 0 0 s) (F0 m 286 ls []) := by
  obtain ⟨hx, hb, hml, hr, hlocks, hown, hts, hex, hnm⟩ := id hAt
  intro n9
  induction n9 with
  | zero => intro z_this x1 x2 x3 x4 x5 H locs ls hl hP hD hS hw; exact False.elim (by rw [wp_Mo_statement_L286] at hw; exact hw)
  | succ n9 ih =>
    intro z_this x1 x2 x3 x4 x5 H locs ls hl hP hD hS hw
    rw [wp_Mo_statement_L286] at hw
    refine lv_iload hx hb d_Mo_statement_286 (lv_at hl 5 rfl) ?_
    refine lv_if_eq (tgt := 587) hx hb d_Mo_statement_288 (by decide) (fun hc => ?_) (fun hc => ?_)
    · have hw := hw.1 hc
      exact hX z_this x1 x2 x3 x4 x5 H locs ls (lv_sub hl [0, 1, 2, 3, 4, 5] rfl) hP hD hS hw
    · have hw := hw.2 hc
      refine lv_aload_n hx hb d_Mo_statement_291 rfl (lv_at hl 0 rfl) ?_
      refine va_get (D := D) (ci := 8) (v := .int z_this.1.1.1.2.2.2) (C := R_Mo) (T := F_Mo) (N := 42) hx hb hts in_Mo hown hK hP 0 rfl rfl 4 (by decide) (hts (.fieldLink R_Mo 145 R_Mo "token" "I") kw4_147) (fun _ h9 => h9) rfl d_Mo_statement_292 ?_
      refine lv_bipush (v := (123 : Int32)) hx hb d_Mo_statement_295 (by decide) ?_
      refine lv_icmp_ne (tgt := 587) hx hb d_Mo_statement_297 (by decide) (fun hc => ?_) (fun hc => ?_)
      · have hw := hw.2 hc
        exact hX z_this x1 x2 x3 x4 x5 H locs ls (lv_sub hl [0, 1, 2, 3, 4, 5] rfl) hP hD hS hw
      · have hw := hw.1 hc
        refine lv_aload_n hx hb d_Mo_statement_300 rfl (lv_at hl 0 rfl) ?_
        refine lv_aload_n hx hb d_Mo_statement_301 rfl (lv_at hl 0 rfl) ?_
        refine xq_go (wr := ([] : va_W)) (stk := fun r => .int r :: [.ref (ad_this 0)]) (xq_runV (As := []) (rest := [.ref (ad_this 0)]) ⟨hx, hb, hml, hown, hts⟩ (hrf (ad_this := ad_this) hw) (cw_Mo_block hts kw5_127 ⟨by simp only [rm_Mo_statement]; omega, by simp only [rm_Mo_statement]; omega⟩) (va_recv hK hP (ci := 8) (q0 := 0) rfl rfl) (hP.sub [0, 1, 2, 3, 4, 5, 6, 7, 8, 9, 10, 11, 12, 13, 14, 15, 16, 17] rfl) hK hJ hS (va_free hD hS hA [0, 1, 2, 3, 4, 5, 6, 7, 8, 9, 10, 11, 12, 13, 14, 15, 16, 17] rfl) ((hD.sub [0, 1, 2, 3, 4, 5, 6, 7, 8, 9, 10, 11, 12, 13, 14, 15, 16, 17] (by decide) rfl).weaken (fun _ _ _ _ => trivial)) rfl hl.1 (Nat.le_of_ble_eq_true rfl) d_Mo_statement_302 ⟨Nat.le_of_ble_eq_true rfl, Nat.le_of_ble_eq_true rfl⟩) hP hD hS hA [0, 1, 2, 3, 4, 5, 6, 7, 8, 9, 10, 11, 12, 13, 14, 15, 16, 17] [] rfl rfl (by decide) (by decide) (fun _ => rfl) (fun r16 u16 H locs hw hP hD hS => ?_) (fun _ _ _ _ h9 => h9.elim)
        have hP : va_P D vwCl (w_Mo k ad_this u16) H := hP.sub [0, 1, 2, 3, 4, 5, 6, 7, 8, 9, 10, 11, 12, 13, 14, 15, 16, 17] rfl
        have hD : va_D A (w_Mo k ad_this u16) := hD.sub [0, 1, 2, 3, 4, 5, 6, 7, 8, 9, 10, 11, 12, 13, 14, 15, 16, 17] (by decide) rfl
        refine xq_go (wr := ([] : va_W)) (stk := fun r => .int r :: []) (xq_runV (As := [.int r16]) (rest := []) ⟨hx, hb, hml, hown, hts⟩ (c_Mo_pushed (l := l) (o := o) (D := D) (k := k) (ad_this := ad_this) hw) (cw_Mo_pushed hts kw5_186 ⟨by simp only [rm_Mo_statement, rm_Mo_pushed]; omega, by simp only [rm_Mo_statement, rm_Mo_pushed]; omega⟩) (va_recv hK hP (ci := 8) (q0 := 0) rfl rfl) (hP.sub [0, 1, 2, 3, 4, 5, 6, 7, 8, 9, 10, 11, 12, 13, 14, 15, 16, 17] rfl) hK hJ hS (va_free hD hS hA [0, 1, 2, 3, 4, 5, 6, 7, 8, 9, 10, 11, 12, 13, 14, 15, 16, 17] rfl) ((hD.sub [0, 1, 2, 3, 4, 5, 6, 7, 8, 9, 10, 11, 12, 13, 14, 15, 16, 17] (by decide) rfl).weaken (fun _ _ _ _ => trivial)) rfl hl.1 (Nat.le_of_ble_eq_true rfl) d_Mo_statement_305 ⟨Nat.le_of_ble_eq_true rfl, Nat.le_of_ble_eq_true rfl⟩) hP hD hS hA [0, 1, 2, 3, 4, 5, 6, 7, 8, 9, 10, 11, 12, 13, 14, 15, 16, 17] [] rfl rfl (by decide) (by decide) (fun _ => rfl) (fun r17 u17 H locs hw hP hD hS => ?_) (fun _ _ _ _ h9 => h9.elim)
        have hP : va_P D vwCl (w_Mo k ad_this u17) H := hP.sub [0, 1, 2, 3, 4, 5, 6, 7, 8, 9, 10, 11, 12, 13, 14, 15, 16, 17] rfl
        have hD : va_D A (w_Mo k ad_this u17) := hD.sub [0, 1, 2, 3, 4, 5, 6, 7, 8, 9, 10, 11, 12, 13, 14, 15, 16, 17] (by decide) rfl
        refine lv_istore (lv' := [(5, .int r17), (0, .ref (ad_this 0)), (1, .int x1), (2, .int x2), (3, .int x3), (4, .int x4)]) hx hb d_Mo_statement_308 hl (by decide) rfl (fun ls hl => ?_)
        refine lv_goto (tgt := 286) hx hb d_Mo_statement_310 (by decide) ?_
        exact ih u17 x1 x2 x3 x4 r17 H locs ls (lv_sub hl [1, 2, 3, 4, 5, 0] rfl) hP hD hS hw
set_option maxHeartbeats 4000000 in
set_option maxRecDepth 100000 in
theorem t_Mo_statement_J284 {p : Program} {l : Launch} {o : State × Array Value} {e : Env} {s : State} {m : MethodId} {args : Array Value} {below : List Frame} {meth : Method} {c : Code} {D : va_G} {k : Nat → ClassId} {w0 : va_W} {A : Nat → Prop} {ad_this : Nat → Nat} {post : Int32 → T_Mo → Prop} {d : Nat} {rf : T_Mo → (Int32 → T_Mo → Prop) → Prop} {F L : Nat} (hrf : ∀ {ad_this : Nat → Nat} {z_this : T_Mo} {post : Int32 → T_Mo → Prop}, rf z_this post → xq_C l o y_Mo_block (.code y_Mo_block prog_10_method_27_code 4 (some (.int)) :: xq_W) { frames := F, cells := 0, slots := 0, locals := L } D vwCl (xt k) [.ref (ad_this 0)] (w_Mo k ad_this z_this) (fun r : Int32 => some (.int r)) post (fun _ : T_Mo => False) (fun u : T_Mo => w_Mo k ad_this u) 0 0 0 0) (hAt : xq_At p s m args meth c prog_10_method_30_code 6 (some (.int)) y_Mo_statement xq_W) (hK : va_K D vwCl (xt k) s) (hJ : xq_J l o A s s.heap) (hAe : va_A w0 s.heap.size = A) (hA : ∀ q, s.heap.size ≤ q → A q) :
    ∀ (z_this : T_Mo) (x1 : Int32) (x2 : Int32) (x3 : Int32) (x4 : Int32) (x5 : Int32) (y0 : Int32) (H : Heap) (locs : List Loc) (ls : Array Slot), lv_has ls 6 [(0, .ref (ad_this 0)), (1, .int x1), (2, .int x2), (3, .int x3), (4, .int x4), (5, .int x5)] → va_P D vwCl (w_Mo k ad_this z_this) H → va_D A (w_Mo k ad_this z_this) → va_S A s.heap H locs → wp_Mo_statement_J284 d rf post z_this x1 x2 x3 x4 x5 y0 → W p l e (rm_Mo_statement d F L) s m args below meth c H locs 0 0 (xq_Z below D vwCl (xt k) w0 (fun r : Int32 => some (.int r)) post (fun _ : T_Mo => False) (fun u : T_Mo => w_Mo k ad_this u) 0 0 0 0 s) (F0 m 284 ls [.int y0]) := by
  obtain ⟨hx, hb, hml, hr, hlocks, hown, hts, hex, hnm⟩ := id hAt
  intro z_this x1 x2 x3 x4 x5 y0 H locs ls hl hP hD hS hw
  unfold wp_Mo_statement_J284 at hw
  refine lv_istore (lv' := [(5, .int y0), (0, .ref (ad_this 0)), (1, .int x1), (2, .int x2), (3, .int x3), (4, .int x4)]) hx hb d_Mo_statement_284 hl (by decide) rfl (fun ls hl => ?_)
  obtain ⟨k9, hw⟩ := hw
  refine t_Mo_statement_L286 (hrf := @hrf) hAt hK hJ hAe hA ?_ k9 z_this x1 x2 x3 x4 y0 H locs ls (lv_sub hl [1, 2, 3, 4, 5, 0] rfl) hP hD hS hw
  intro z_this x1 x2 x3 x4 x5 H locs ls hl hP hD hS hw
  exact t_Mo_statement_J587 (hrf := @hrf) hAt hK hJ hAe hA z_this x1 x2 x3 x4 x5 H locs ls (lv_sub hl [0, 1, 2, 3, 4, 5] rfl) hP hD hS hw
set_option maxHeartbeats 4000000 in
set_option maxRecDepth 100000 in
theorem t_Mo_statement_J283 {p : Program} {l : Launch} {o : State × Array Value} {e : Env} {s : State} {m : MethodId} {args : Array Value} {below : List Frame} {meth : Method} {c : Code} {D : va_G} {k : Nat → ClassId} {w0 : va_W} {A : Nat → Prop} {ad_this : Nat → Nat} {post : Int32 → T_Mo → Prop} {d : Nat} {rf : T_Mo → (Int32 → T_Mo → Prop) → Prop} {F L : Nat} (hrf : ∀ {ad_this : Nat → Nat} {z_this : T_Mo} {post : Int32 → T_Mo → Prop}, rf z_this post → xq_C l o y_Mo_block (.code y_Mo_block prog_10_method_27_code 4 (some (.int)) :: xq_W) { frames := F, cells := 0, slots := 0, locals := L } D vwCl (xt k) [.ref (ad_this 0)] (w_Mo k ad_this z_this) (fun r : Int32 => some (.int r)) post (fun _ : T_Mo => False) (fun u : T_Mo => w_Mo k ad_this u) 0 0 0 0) (hAt : xq_At p s m args meth c prog_10_method_30_code 6 (some (.int)) y_Mo_statement xq_W) (hK : va_K D vwCl (xt k) s) (hJ : xq_J l o A s s.heap) (hAe : va_A w0 s.heap.size = A) (hA : ∀ q, s.heap.size ≤ q → A q) :
    ∀ (z_this : T_Mo) (x1 : Int32) (x2 : Int32) (x3 : Int32) (x4 : Int32) (x5 : Int32) (H : Heap) (locs : List Loc) (ls : Array Slot), lv_has ls 6 [(0, .ref (ad_this 0)), (1, .int x1), (2, .int x2), (3, .int x3), (4, .int x4), (5, .int x5)] → va_P D vwCl (w_Mo k ad_this z_this) H → va_D A (w_Mo k ad_this z_this) → va_S A s.heap H locs → wp_Mo_statement_J283 d rf post z_this x1 x2 x3 x4 x5 → W p l e (rm_Mo_statement d F L) s m args below meth c H locs 0 0 (xq_Z below D vwCl (xt k) w0 (fun r : Int32 => some (.int r)) post (fun _ : T_Mo => False) (fun u : T_Mo => w_Mo k ad_this u) 0 0 0 0 s) (F0 m 283 ls []) := by
  obtain ⟨hx, hb, hml, hr, hlocks, hown, hts, hex, hnm⟩ := id hAt
  intro z_this x1 x2 x3 x4 x5 H locs ls hl hP hD hS hw
  unfold wp_Mo_statement_J283 at hw
  refine lv_iconst (v := (0 : Int32)) hx hb d_Mo_statement_283 (by decide) ?_
  exact t_Mo_statement_J284 (hrf := @hrf) hAt hK hJ hAe hA z_this x1 x2 x3 x4 x5 (0 : Int32) H locs ls (lv_sub hl [0, 1, 2, 3, 4, 5] rfl) hP hD hS hw
set_option maxHeartbeats 4000000 in
set_option maxRecDepth 100000 in
theorem t_Mo_statement_J379 {p : Program} {l : Launch} {o : State × Array Value} {e : Env} {s : State} {m : MethodId} {args : Array Value} {below : List Frame} {meth : Method} {c : Code} {D : va_G} {k : Nat → ClassId} {w0 : va_W} {A : Nat → Prop} {ad_this : Nat → Nat} {post : Int32 → T_Mo → Prop} {d : Nat} {rf : T_Mo → (Int32 → T_Mo → Prop) → Prop} {F L : Nat} (hrf : ∀ {ad_this : Nat → Nat} {z_this : T_Mo} {post : Int32 → T_Mo → Prop}, rf z_this post → xq_C l o y_Mo_block (.code y_Mo_block prog_10_method_27_code 4 (some (.int)) :: xq_W) { frames := F, cells := 0, slots := 0, locals := L } D vwCl (xt k) [.ref (ad_this 0)] (w_Mo k ad_this z_this) (fun r : Int32 => some (.int r)) post (fun _ : T_Mo => False) (fun u : T_Mo => w_Mo k ad_this u) 0 0 0 0) (hAt : xq_At p s m args meth c prog_10_method_30_code 6 (some (.int)) y_Mo_statement xq_W) (hK : va_K D vwCl (xt k) s) (hJ : xq_J l o A s s.heap) (hAe : va_A w0 s.heap.size = A) (hA : ∀ q, s.heap.size ≤ q → A q) :
    ∀ (z_this : T_Mo) (x1 : Int32) (x2 : Int32) (x3 : Int32) (x4 : Int32) (x5 : Int32) (y0 : Int32) (H : Heap) (locs : List Loc) (ls : Array Slot), lv_has ls 6 [(0, .ref (ad_this 0)), (1, .int x1), (2, .int x2), (3, .int x3), (4, .int x4), (5, .int x5)] → va_P D vwCl (w_Mo k ad_this z_this) H → va_D A (w_Mo k ad_this z_this) → va_S A s.heap H locs → wp_Mo_statement_J379 d rf post z_this x1 x2 x3 x4 x5 y0 → W p l e (rm_Mo_statement d F L) s m args below meth c H locs 0 0 (xq_Z below D vwCl (xt k) w0 (fun r : Int32 => some (.int r)) post (fun _ : T_Mo => False) (fun u : T_Mo => w_Mo k ad_this u) 0 0 0 0 s) (F0 m 379 ls [.int y0]) := by
  obtain ⟨hx, hb, hml, hr, hlocks, hown, hts, hex, hnm⟩ := id hAt
  intro z_this x1 x2 x3 x4 x5 y0 H locs ls hl hP hD hS hw
  unfold wp_Mo_statement_J379 at hw
  refine lv_istore (lv' := [(5, .int y0), (0, .ref (ad_this 0)), (1, .int x1), (2, .int x2), (3, .int x3), (4, .int x4)]) hx hb d_Mo_statement_379 hl (by decide) rfl (fun ls hl => ?_)
  refine lv_goto (tgt := 587) hx hb d_Mo_statement_381 (by decide) ?_
  exact t_Mo_statement_J587 (hrf := @hrf) hAt hK hJ hAe hA z_this x1 x2 x3 x4 y0 H locs ls (lv_sub hl [1, 2, 3, 4, 5, 0] rfl) hP hD hS hw
set_option maxHeartbeats 4000000 in
set_option maxRecDepth 100000 in
theorem t_Mo_statement_J378 {p : Program} {l : Launch} {o : State × Array Value} {e : Env} {s : State} {m : MethodId} {args : Array Value} {below : List Frame} {meth : Method} {c : Code} {D : va_G} {k : Nat → ClassId} {w0 : va_W} {A : Nat → Prop} {ad_this : Nat → Nat} {post : Int32 → T_Mo → Prop} {d : Nat} {rf : T_Mo → (Int32 → T_Mo → Prop) → Prop} {F L : Nat} (hrf : ∀ {ad_this : Nat → Nat} {z_this : T_Mo} {post : Int32 → T_Mo → Prop}, rf z_this post → xq_C l o y_Mo_block (.code y_Mo_block prog_10_method_27_code 4 (some (.int)) :: xq_W) { frames := F, cells := 0, slots := 0, locals := L } D vwCl (xt k) [.ref (ad_this 0)] (w_Mo k ad_this z_this) (fun r : Int32 => some (.int r)) post (fun _ : T_Mo => False) (fun u : T_Mo => w_Mo k ad_this u) 0 0 0 0) (hAt : xq_At p s m args meth c prog_10_method_30_code 6 (some (.int)) y_Mo_statement xq_W) (hK : va_K D vwCl (xt k) s) (hJ : xq_J l o A s s.heap) (hAe : va_A w0 s.heap.size = A) (hA : ∀ q, s.heap.size ≤ q → A q) :
    ∀ (z_this : T_Mo) (x1 : Int32) (x2 : Int32) (x3 : Int32) (x4 : Int32) (x5 : Int32) (H : Heap) (locs : List Loc) (ls : Array Slot), lv_has ls 6 [(0, .ref (ad_this 0)), (1, .int x1), (2, .int x2), (3, .int x3), (4, .int x4), (5, .int x5)] → va_P D vwCl (w_Mo k ad_this z_this) H → va_D A (w_Mo k ad_this z_this) → va_S A s.heap H locs → wp_Mo_statement_J378 d rf post z_this x1 x2 x3 x4 x5 → W p l e (rm_Mo_statement d F L) s m args below meth c H locs 0 0 (xq_Z below D vwCl (xt k) w0 (fun r : Int32 => some (.int r)) post (fun _ : T_Mo => False) (fun u : T_Mo => w_Mo k ad_this u) 0 0 0 0 s) (F0 m 378 ls []) := by
  obtain ⟨hx, hb, hml, hr, hlocks, hown, hts, hex, hnm⟩ := id hAt
  intro z_this x1 x2 x3 x4 x5 H locs ls hl hP hD hS hw
  unfold wp_Mo_statement_J378 at hw
  refine lv_iconst (v := (0 : Int32)) hx hb d_Mo_statement_378 (by decide) ?_
  exact t_Mo_statement_J379 (hrf := @hrf) hAt hK hJ hAe hA z_this x1 x2 x3 x4 x5 (0 : Int32) H locs ls (lv_sub hl [0, 1, 2, 3, 4, 5] rfl) hP hD hS hw
set_option maxHeartbeats 4000000 in
set_option maxRecDepth 100000 in
theorem t_Mo_statement_J340 {p : Program} {l : Launch} {o : State × Array Value} {e : Env} {s : State} {m : MethodId} {args : Array Value} {below : List Frame} {meth : Method} {c : Code} {D : va_G} {k : Nat → ClassId} {w0 : va_W} {A : Nat → Prop} {ad_this : Nat → Nat} {post : Int32 → T_Mo → Prop} {d : Nat} {rf : T_Mo → (Int32 → T_Mo → Prop) → Prop} {F L : Nat} (hrf : ∀ {ad_this : Nat → Nat} {z_this : T_Mo} {post : Int32 → T_Mo → Prop}, rf z_this post → xq_C l o y_Mo_block (.code y_Mo_block prog_10_method_27_code 4 (some (.int)) :: xq_W) { frames := F, cells := 0, slots := 0, locals := L } D vwCl (xt k) [.ref (ad_this 0)] (w_Mo k ad_this z_this) (fun r : Int32 => some (.int r)) post (fun _ : T_Mo => False) (fun u : T_Mo => w_Mo k ad_this u) 0 0 0 0) (hAt : xq_At p s m args meth c prog_10_method_30_code 6 (some (.int)) y_Mo_statement xq_W) (hK : va_K D vwCl (xt k) s) (hJ : xq_J l o A s s.heap) (hAe : va_A w0 s.heap.size = A) (hA : ∀ q, s.heap.size ≤ q → A q) :
    ∀ (z_this : T_Mo) (x1 : Int32) (x2 : Int32) (x3 : Int32) (x4 : Int32) (x5 : Int32) (y0 : Int32) (H : Heap) (locs : List Loc) (ls : Array Slot), lv_has ls 6 [(0, .ref (ad_this 0)), (1, .int x1), (2, .int x2), (3, .int x3), (4, .int x4), (5, .int x5)] → va_P D vwCl (w_Mo k ad_this z_this) H → va_D A (w_Mo k ad_this z_this) → va_S A s.heap H locs → wp_Mo_statement_J340 d rf post z_this x1 x2 x3 x4 x5 y0 → W p l e (rm_Mo_statement d F L) s m args below meth c H locs 0 0 (xq_Z below D vwCl (xt k) w0 (fun r : Int32 => some (.int r)) post (fun _ : T_Mo => False) (fun u : T_Mo => w_Mo k ad_this u) 0 0 0 0 s) (F0 m 340 ls [.int y0]) := by
  obtain ⟨hx, hb, hml, hr, hlocks, hown, hts, hex, hnm⟩ := id hAt
  intro z_this x1 x2 x3 x4 x5 y0 H locs ls hl hP hD hS hw
  unfold wp_Mo_statement_J340 at hw
  refine lv_istore (lv' := [(5, .int y0), (0, .ref (ad_this 0)), (1, .int x1), (2, .int x2), (3, .int x3), (4, .int x4)]) hx hb d_Mo_statement_340 hl (by decide) rfl (fun ls hl => ?_)
  refine lv_iload hx hb d_Mo_statement_342 (lv_at hl 0 rfl) ?_
  refine lv_if_eq (tgt := 587) hx hb d_Mo_statement_344 (by decide) (fun hc => ?_) (fun hc => ?_)
  · have hw := hw.1 hc
    exact t_Mo_statement_J587 (hrf := @hrf) hAt hK hJ hAe hA z_this x1 x2 x3 x4 y0 H locs ls (lv_sub hl [1, 2, 3, 4, 5, 0] rfl) hP hD hS hw
  · have hw := hw.2 hc
    refine lv_aload_n hx hb d_Mo_statement_347 rfl (lv_at hl 1 rfl) ?_
    refine lv_bipush (v := (33 : Int32)) hx hb d_Mo_statement_348 (by decide) ?_
    refine xq_go (wr := ([] : va_W)) (stk := fun r => .int r :: []) (xq_runV (As := [.int (33 : Int32)]) (rest := []) ⟨hx, hb, hml, hown, hts⟩ (c_Mo_isWord (l := l) (o := o) (D := D) (k := k) (ad_this := ad_this) hw) (cw_Mo_isWord hts kw5_99 ⟨by simp only [rm_Mo_statement, rm_Mo_isWord]; omega, by simp only [rm_Mo_statement, rm_Mo_isWord]; omega⟩) (va_recv hK hP (ci := 8) (q0 := 0) rfl rfl) (hP.sub [0, 1, 2, 3, 4, 5, 6, 7, 8, 9, 10, 11, 12, 13, 14, 15, 16, 17] rfl) hK hJ hS (va_free hD hS hA [0, 1, 2, 3, 4, 5, 6, 7, 8, 9, 10, 11, 12, 13, 14, 15, 16, 17] rfl) ((hD.sub [0, 1, 2, 3, 4, 5, 6, 7, 8, 9, 10, 11, 12, 13, 14, 15, 16, 17] (by decide) rfl).weaken (fun _ _ _ _ => trivial)) rfl hl.1 (Nat.le_of_ble_eq_true rfl) d_Mo_statement_350 ⟨Nat.le_of_ble_eq_true rfl, Nat.le_of_ble_eq_true rfl⟩) hP hD hS hA [0, 1, 2, 3, 4, 5, 6, 7, 8, 9, 10, 11, 12, 13, 14, 15, 16, 17] [] rfl rfl (by decide) (by decide) (fun _ => rfl) (fun r22 u22 H locs hw hP hD hS => ?_) (fun _ _ _ _ h9 => h9.elim)
    have hP : va_P D vwCl (w_Mo k ad_this z_this) H := hP.sub [0, 1, 2, 3, 4, 5, 6, 7, 8, 9, 10, 11, 12, 13, 14, 15, 16, 17] rfl
    have hD : va_D A (w_Mo k ad_this z_this) := hD.sub [0, 1, 2, 3, 4, 5, 6, 7, 8, 9, 10, 11, 12, 13, 14, 15, 16, 17] (by decide) rfl
    refine lv_if_eq (tgt := 587) hx hb d_Mo_statement_353 (by decide) (fun hc => ?_) (fun hc => ?_)
    · have hw := hw.1 hc
      exact t_Mo_statement_J587 (hrf := @hrf) hAt hK hJ hAe hA z_this x1 x2 x3 x4 y0 H locs ls (lv_sub hl [1, 2, 3, 4, 5, 0] rfl) hP hD hS hw
    · have hw := hw.2 hc
      refine lv_aload_n hx hb d_Mo_statement_356 rfl (lv_at hl 1 rfl) ?_
      refine xq_go (wr := ([] : va_W)) (stk := fun r => .int r :: []) (xq_runV (As := []) (rest := []) ⟨hx, hb, hml, hown, hts⟩ (c_Mo_go (l := l) (o := o) (D := D) (k := k) (ad_this := ad_this) hw) (cw_Mo_go hts kw5_42 ⟨by simp only [rm_Mo_statement, rm_Mo_go]; omega, by simp only [rm_Mo_statement, rm_Mo_go]; omega⟩) (va_recv hK hP (ci := 8) (q0 := 0) rfl rfl) (hP.sub [0, 1, 2, 3, 4, 5, 6, 7, 8, 9, 10, 11, 12, 13, 14, 15, 16, 17] rfl) hK hJ hS (va_free hD hS hA [0, 1, 2, 3, 4, 5, 6, 7, 8, 9, 10, 11, 12, 13, 14, 15, 16, 17] rfl) ((hD.sub [0, 1, 2, 3, 4, 5, 6, 7, 8, 9, 10, 11, 12, 13, 14, 15, 16, 17] (by decide) rfl).weaken (fun _ _ _ _ => trivial)) rfl hl.1 (Nat.le_of_ble_eq_true rfl) d_Mo_statement_357 ⟨Nat.le_of_ble_eq_true rfl, Nat.le_of_ble_eq_true rfl⟩) hP hD hS hA [0, 1, 2, 3, 4, 5, 6, 7, 8, 9, 10, 11, 12, 13, 14, 15, 16, 17] [] rfl rfl (by decide) (by decide) (fun _ => rfl) (fun r23 u23 H locs hw hP hD hS => ?_) (fun _ _ _ _ h9 => h9.elim)
      have hP : va_P D vwCl (w_Mo k ad_this u23) H := hP.sub [0, 1, 2, 3, 4, 5, 6, 7, 8, 9, 10, 11, 12, 13, 14, 15, 16, 17] rfl
      have hD : va_D A (w_Mo k ad_this u23) := hD.sub [0, 1, 2, 3, 4, 5, 6, 7, 8, 9, 10, 11, 12, 13, 14, 15, 16, 17] (by decide) rfl
      refine lv_if_eq (tgt := 378) hx hb d_Mo_statement_360 (by decide) (fun hc => ?_) (fun hc => ?_)
      · have hw := hw.1 hc
        exact t_Mo_statement_J378 (hrf := @hrf) hAt hK hJ hAe hA u23 x1 x2 x3 x4 y0 H locs ls (lv_sub hl [1, 2, 3, 4, 5, 0] rfl) hP hD hS hw
      · have hw := hw.2 hc
        refine lv_aload_n hx hb d_Mo_statement_363 rfl (lv_at hl 1 rfl) ?_
        refine lv_aload_n hx hb d_Mo_statement_364 rfl (lv_at hl 1 rfl) ?_
        refine xq_go (wr := ([] : va_W)) (stk := fun r => .int r :: [.ref (ad_this 0)]) (xq_runV (As := []) (rest := [.ref (ad_this 0)]) ⟨hx, hb, hml, hown, hts⟩ (hrf (ad_this := ad_this) hw) (cw_Mo_block hts kw5_127 ⟨by simp only [rm_Mo_statement]; omega, by simp only [rm_Mo_statement]; omega⟩) (va_recv hK hP (ci := 8) (q0 := 0) rfl rfl) (hP.sub [0, 1, 2, 3, 4, 5, 6, 7, 8, 9, 10, 11, 12, 13, 14, 15, 16, 17] rfl) hK hJ hS (va_free hD hS hA [0, 1, 2, 3, 4, 5, 6, 7, 8, 9, 10, 11, 12, 13, 14, 15, 16, 17] rfl) ((hD.sub [0, 1, 2, 3, 4, 5, 6, 7, 8, 9, 10, 11, 12, 13, 14, 15, 16, 17] (by decide) rfl).weaken (fun _ _ _ _ => trivial)) rfl hl.1 (Nat.le_of_ble_eq_true rfl) d_Mo_statement_365 ⟨Nat.le_of_ble_eq_true rfl, Nat.le_of_ble_eq_true rfl⟩) hP hD hS hA [0, 1, 2, 3, 4, 5, 6, 7, 8, 9, 10, 11, 12, 13, 14, 15, 16, 17] [] rfl rfl (by decide) (by decide) (fun _ => rfl) (fun r24 u24 H locs hw hP hD hS => ?_) (fun _ _ _ _ h9 => h9.elim)
        have hP : va_P D vwCl (w_Mo k ad_this u24) H := hP.sub [0, 1, 2, 3, 4, 5, 6, 7, 8, 9, 10, 11, 12, 13, 14, 15, 16, 17] rfl
        have hD : va_D A (w_Mo k ad_this u24) := hD.sub [0, 1, 2, 3, 4, 5, 6, 7, 8, 9, 10, 11, 12, 13, 14, 15, 16, 17] (by decide) rfl
        refine xq_go (wr := ([] : va_W)) (stk := fun r => .int r :: []) (xq_runV (As := [.int r24]) (rest := []) ⟨hx, hb, hml, hown, hts⟩ (c_Mo_pushed (l := l) (o := o) (D := D) (k := k) (ad_this := ad_this) hw) (cw_Mo_pushed hts kw5_186 ⟨by simp only [rm_Mo_statement, rm_Mo_pushed]; omega, by simp only [rm_Mo_statement, rm_Mo_pushed]; omega⟩) (va_recv hK hP (ci := 8) (q0 := 0) rfl rfl) (hP.sub [0, 1, 2, 3, 4, 5, 6, 7, 8, 9, 10, 11, 12, 13, 14, 15, 16, 17] rfl) hK hJ hS (va_free hD hS hA [0, 1, 2, 3, 4, 5, 6, 7, 8, 9, 10, 11, 12, 13, 14, 15, 16, 17] rfl) ((hD.sub [0, 1, 2, 3, 4, 5, 6, 7, 8, 9, 10, 11, 12, 13, 14, 15, 16, 17] (by decide) rfl).weaken (fun _ _ _ _ => trivial)) rfl hl.1 (Nat.le_of_ble_eq_true rfl) d_Mo_statement_368 ⟨Nat.le_of_ble_eq_true rfl, Nat.le_of_ble_eq_true rfl⟩) hP hD hS hA [0, 1, 2, 3, 4, 5, 6, 7, 8, 9, 10, 11, 12, 13, 14, 15, 16, 17] [] rfl rfl (by decide) (by decide) (fun _ => rfl) (fun r25 u25 H locs hw hP hD hS => ?_) (fun _ _ _ _ h9 => h9.elim)
        have hP : va_P D vwCl (w_Mo k ad_this u25) H := hP.sub [0, 1, 2, 3, 4, 5, 6, 7, 8, 9, 10, 11, 12, 13, 14, 15, 16, 17] rfl
        have hD : va_D A (w_Mo k ad_this u25) := hD.sub [0, 1, 2, 3, 4, 5, 6, 7, 8, 9, 10, 11, 12, 13, 14, 15, 16, 17] (by decide) rfl
        refine lv_if_eq (tgt := 378) hx hb d_Mo_statement_371 (by decide) (fun hc => ?_) (fun hc => ?_)
        · have hw := hw.1 hc
          exact t_Mo_statement_J378 (hrf := @hrf) hAt hK hJ hAe hA u25 x1 x2 x3 x4 y0 H locs ls (lv_sub hl [1, 2, 3, 4, 5, 0] rfl) hP hD hS hw
        · have hw := hw.2 hc
          refine lv_iconst (v := (1 : Int32)) hx hb d_Mo_statement_374 (by decide) ?_
          refine lv_goto (tgt := 379) hx hb d_Mo_statement_375 (by decide) ?_
          exact t_Mo_statement_J379 (hrf := @hrf) hAt hK hJ hAe hA u25 x1 x2 x3 x4 y0 (1 : Int32) H locs ls (lv_sub hl [1, 2, 3, 4, 5, 0] rfl) hP hD hS hw
set_option maxHeartbeats 4000000 in
set_option maxRecDepth 100000 in
theorem t_Mo_statement_J339 {p : Program} {l : Launch} {o : State × Array Value} {e : Env} {s : State} {m : MethodId} {args : Array Value} {below : List Frame} {meth : Method} {c : Code} {D : va_G} {k : Nat → ClassId} {w0 : va_W} {A : Nat → Prop} {ad_this : Nat → Nat} {post : Int32 → T_Mo → Prop} {d : Nat} {rf : T_Mo → (Int32 → T_Mo → Prop) → Prop} {F L : Nat} (hrf : ∀ {ad_this : Nat → Nat} {z_this : T_Mo} {post : Int32 → T_Mo → Prop}, rf z_this post → xq_C l o y_Mo_block (.code y_Mo_block prog_10_method_27_code 4 (some (.int)) :: xq_W) { frames := F, cells := 0, slots := 0, locals := L } D vwCl (xt k) [.ref (ad_this 0)] (w_Mo k ad_this z_this) (fun r : Int32 => some (.int r)) post (fun _ : T_Mo => False) (fun u : T_Mo => w_Mo k ad_this u) 0 0 0 0) (hAt : xq_At p s m args meth c prog_10_method_30_code 6 (some (.int)) y_Mo_statement xq_W) (hK : va_K D vwCl (xt k) s) (hJ : xq_J l o A s s.heap) (hAe : va_A w0 s.heap.size = A) (hA : ∀ q, s.heap.size ≤ q → A q) :
    ∀ (z_this : T_Mo) (x1 : Int32) (x2 : Int32) (x3 : Int32) (x4 : Int32) (x5 : Int32) (H : Heap) (locs : List Loc) (ls : Array Slot), lv_has ls 6 [(0, .ref (ad_this 0)), (1, .int x1), (2, .int x2), (3, .int x3), (4, .int x4), (5, .int x5)] → va_P D vwCl (w_Mo k ad_this z_this) H → va_D A (w_Mo k ad_this z_this) → va_S A s.heap H locs → wp_Mo_statement_J339 d rf post z_this x1 x2 x3 x4 x5 → W p l e (rm_Mo_statement d F L) s m args below meth c H locs 0 0 (xq_Z below D vwCl (xt k) w0 (fun r : Int32 => some (.int r)) post (fun _ : T_Mo => False) (fun u : T_Mo => w_Mo k ad_this u) 0 0 0 0 s) (F0 m 339 ls []) := by
  obtain ⟨hx, hb, hml, hr, hlocks, hown, hts, hex, hnm⟩ := id hAt
  intro z_this x1 x2 x3 x4 x5 H locs ls hl hP hD hS hw
  unfold wp_Mo_statement_J339 at hw
  refine lv_iconst (v := (0 : Int32)) hx hb d_Mo_statement_339 (by decide) ?_
  exact t_Mo_statement_J340 (hrf := @hrf) hAt hK hJ hAe hA z_this x1 x2 x3 x4 x5 (0 : Int32) H locs ls (lv_sub hl [0, 1, 2, 3, 4, 5] rfl) hP hD hS hw
set_option maxHeartbeats 4000000 in
set_option maxRecDepth 100000 in
theorem t_Mo_statement_J408 {p : Program} {l : Launch} {o : State × Array Value} {e : Env} {s : State} {m : MethodId} {args : Array Value} {below : List Frame} {meth : Method} {c : Code} {D : va_G} {k : Nat → ClassId} {w0 : va_W} {A : Nat → Prop} {ad_this : Nat → Nat} {post : Int32 → T_Mo → Prop} {d : Nat} {rf : T_Mo → (Int32 → T_Mo → Prop) → Prop} {F L : Nat} (hrf : ∀ {ad_this : Nat → Nat} {z_this : T_Mo} {post : Int32 → T_Mo → Prop}, rf z_this post → xq_C l o y_Mo_block (.code y_Mo_block prog_10_method_27_code 4 (some (.int)) :: xq_W) { frames := F, cells := 0, slots := 0, locals := L } D vwCl (xt k) [.ref (ad_this 0)] (w_Mo k ad_this z_this) (fun r : Int32 => some (.int r)) post (fun _ : T_Mo => False) (fun u : T_Mo => w_Mo k ad_this u) 0 0 0 0) (hAt : xq_At p s m args meth c prog_10_method_30_code 6 (some (.int)) y_Mo_statement xq_W) (hK : va_K D vwCl (xt k) s) (hJ : xq_J l o A s s.heap) (hAe : va_A w0 s.heap.size = A) (hA : ∀ q, s.heap.size ≤ q → A q) :
    ∀ (z_this : T_Mo) (x1 : Int32) (x2 : Int32) (x3 : Int32) (x4 : Int32) (x5 : Int32) (y0 : Int32) (H : Heap) (locs : List Loc) (ls : Array Slot), lv_has ls 6 [(0, .ref (ad_this 0)), (1, .int x1), (2, .int x2), (3, .int x3), (4, .int x4), (5, .int x5)] → va_P D vwCl (w_Mo k ad_this z_this) H → va_D A (w_Mo k ad_this z_this) → va_S A s.heap H locs → wp_Mo_statement_J408 d rf post z_this x1 x2 x3 x4 x5 y0 → W p l e (rm_Mo_statement d F L) s m args below meth c H locs 0 0 (xq_Z below D vwCl (xt k) w0 (fun r : Int32 => some (.int r)) post (fun _ : T_Mo => False) (fun u : T_Mo => w_Mo k ad_this u) 0 0 0 0 s) (F0 m 408 ls [.int y0]) := by
  obtain ⟨hx, hb, hml, hr, hlocks, hown, hts, hex, hnm⟩ := id hAt
  intro z_this x1 x2 x3 x4 x5 y0 H locs ls hl hP hD hS hw
  unfold wp_Mo_statement_J408 at hw
  refine lv_istore (lv' := [(5, .int y0), (0, .ref (ad_this 0)), (1, .int x1), (2, .int x2), (3, .int x3), (4, .int x4)]) hx hb d_Mo_statement_408 hl (by decide) rfl (fun ls hl => ?_)
  refine lv_goto (tgt := 587) hx hb d_Mo_statement_410 (by decide) ?_
  exact t_Mo_statement_J587 (hrf := @hrf) hAt hK hJ hAe hA z_this x1 x2 x3 x4 y0 H locs ls (lv_sub hl [1, 2, 3, 4, 5, 0] rfl) hP hD hS hw
set_option maxHeartbeats 4000000 in
set_option maxRecDepth 100000 in
theorem t_Mo_statement_J407 {p : Program} {l : Launch} {o : State × Array Value} {e : Env} {s : State} {m : MethodId} {args : Array Value} {below : List Frame} {meth : Method} {c : Code} {D : va_G} {k : Nat → ClassId} {w0 : va_W} {A : Nat → Prop} {ad_this : Nat → Nat} {post : Int32 → T_Mo → Prop} {d : Nat} {rf : T_Mo → (Int32 → T_Mo → Prop) → Prop} {F L : Nat} (hrf : ∀ {ad_this : Nat → Nat} {z_this : T_Mo} {post : Int32 → T_Mo → Prop}, rf z_this post → xq_C l o y_Mo_block (.code y_Mo_block prog_10_method_27_code 4 (some (.int)) :: xq_W) { frames := F, cells := 0, slots := 0, locals := L } D vwCl (xt k) [.ref (ad_this 0)] (w_Mo k ad_this z_this) (fun r : Int32 => some (.int r)) post (fun _ : T_Mo => False) (fun u : T_Mo => w_Mo k ad_this u) 0 0 0 0) (hAt : xq_At p s m args meth c prog_10_method_30_code 6 (some (.int)) y_Mo_statement xq_W) (hK : va_K D vwCl (xt k) s) (hJ : xq_J l o A s s.heap) (hAe : va_A w0 s.heap.size = A) (hA : ∀ q, s.heap.size ≤ q → A q) :
    ∀ (z_this : T_Mo) (x1 : Int32) (x2 : Int32) (x3 : Int32) (x4 : Int32) (x5 : Int32) (H : Heap) (locs : List Loc) (ls : Array Slot), lv_has ls 6 [(0, .ref (ad_this 0)), (1, .int x1), (2, .int x2), (3, .int x3), (4, .int x4), (5, .int x5)] → va_P D vwCl (w_Mo k ad_this z_this) H → va_D A (w_Mo k ad_this z_this) → va_S A s.heap H locs → wp_Mo_statement_J407 d rf post z_this x1 x2 x3 x4 x5 → W p l e (rm_Mo_statement d F L) s m args below meth c H locs 0 0 (xq_Z below D vwCl (xt k) w0 (fun r : Int32 => some (.int r)) post (fun _ : T_Mo => False) (fun u : T_Mo => w_Mo k ad_this u) 0 0 0 0 s) (F0 m 407 ls []) := by
  obtain ⟨hx, hb, hml, hr, hlocks, hown, hts, hex, hnm⟩ := id hAt
  intro z_this x1 x2 x3 x4 x5 H locs ls hl hP hD hS hw
  unfold wp_Mo_statement_J407 at hw
  refine lv_iconst (v := (0 : Int32)) hx hb d_Mo_statement_407 (by decide) ?_
  exact t_Mo_statement_J408 (hrf := @hrf) hAt hK hJ hAe hA z_this x1 x2 x3 x4 x5 (0 : Int32) H locs ls (lv_sub hl [0, 1, 2, 3, 4, 5] rfl) hP hD hS hw
set_option maxHeartbeats 4000000 in
set_option maxRecDepth 100000 in
theorem t_Mo_statement_J461 {p : Program} {l : Launch} {o : State × Array Value} {e : Env} {s : State} {m : MethodId} {args : Array Value} {below : List Frame} {meth : Method} {c : Code} {D : va_G} {k : Nat → ClassId} {w0 : va_W} {A : Nat → Prop} {ad_this : Nat → Nat} {post : Int32 → T_Mo → Prop} {d : Nat} {rf : T_Mo → (Int32 → T_Mo → Prop) → Prop} {F L : Nat} (hrf : ∀ {ad_this : Nat → Nat} {z_this : T_Mo} {post : Int32 → T_Mo → Prop}, rf z_this post → xq_C l o y_Mo_block (.code y_Mo_block prog_10_method_27_code 4 (some (.int)) :: xq_W) { frames := F, cells := 0, slots := 0, locals := L } D vwCl (xt k) [.ref (ad_this 0)] (w_Mo k ad_this z_this) (fun r : Int32 => some (.int r)) post (fun _ : T_Mo => False) (fun u : T_Mo => w_Mo k ad_this u) 0 0 0 0) (hAt : xq_At p s m args meth c prog_10_method_30_code 6 (some (.int)) y_Mo_statement xq_W) (hK : va_K D vwCl (xt k) s) (hJ : xq_J l o A s s.heap) (hAe : va_A w0 s.heap.size = A) (hA : ∀ q, s.heap.size ≤ q → A q) :
    ∀ (z_this : T_Mo) (x1 : Int32) (x2 : Int32) (x3 : Int32) (x4 : Int32) (x5 : Int32) (y0 : Int32) (H : Heap) (locs : List Loc) (ls : Array Slot), lv_has ls 6 [(0, .ref (ad_this 0)), (1, .int x1), (2, .int x2), (3, .int x3), (4, .int x4), (5, .int x5)] → va_P D vwCl (w_Mo k ad_this z_this) H → va_D A (w_Mo k ad_this z_this) → va_S A s.heap H locs → wp_Mo_statement_J461 d rf post z_this x1 x2 x3 x4 x5 y0 → W p l e (rm_Mo_statement d F L) s m args below meth c H locs 0 0 (xq_Z below D vwCl (xt k) w0 (fun r : Int32 => some (.int r)) post (fun _ : T_Mo => False) (fun u : T_Mo => w_Mo k ad_this u) 0 0 0 0 s) (F0 m 461 ls [.int y0]) := by
  obtain ⟨hx, hb, hml, hr, hlocks, hown, hts, hex, hnm⟩ := id hAt
  intro z_this x1 x2 x3 x4 x5 y0 H locs ls hl hP hD hS hw
  unfold wp_Mo_statement_J461 at hw
  refine lv_istore (lv' := [(5, .int y0), (0, .ref (ad_this 0)), (1, .int x1), (2, .int x2), (3, .int x3), (4, .int x4)]) hx hb d_Mo_statement_461 hl (by decide) rfl (fun ls hl => ?_)
  refine lv_goto (tgt := 587) hx hb d_Mo_statement_463 (by decide) ?_
  exact t_Mo_statement_J587 (hrf := @hrf) hAt hK hJ hAe hA z_this x1 x2 x3 x4 y0 H locs ls (lv_sub hl [1, 2, 3, 4, 5, 0] rfl) hP hD hS hw
set_option maxHeartbeats 4000000 in
set_option maxRecDepth 100000 in
theorem t_Mo_statement_J460 {p : Program} {l : Launch} {o : State × Array Value} {e : Env} {s : State} {m : MethodId} {args : Array Value} {below : List Frame} {meth : Method} {c : Code} {D : va_G} {k : Nat → ClassId} {w0 : va_W} {A : Nat → Prop} {ad_this : Nat → Nat} {post : Int32 → T_Mo → Prop} {d : Nat} {rf : T_Mo → (Int32 → T_Mo → Prop) → Prop} {F L : Nat} (hrf : ∀ {ad_this : Nat → Nat} {z_this : T_Mo} {post : Int32 → T_Mo → Prop}, rf z_this post → xq_C l o y_Mo_block (.code y_Mo_block prog_10_method_27_code 4 (some (.int)) :: xq_W) { frames := F, cells := 0, slots := 0, locals := L } D vwCl (xt k) [.ref (ad_this 0)] (w_Mo k ad_this z_this) (fun r : Int32 => some (.int r)) post (fun _ : T_Mo => False) (fun u : T_Mo => w_Mo k ad_this u) 0 0 0 0) (hAt : xq_At p s m args meth c prog_10_method_30_code 6 (some (.int)) y_Mo_statement xq_W) (hK : va_K D vwCl (xt k) s) (hJ : xq_J l o A s s.heap) (hAe : va_A w0 s.heap.size = A) (hA : ∀ q, s.heap.size ≤ q → A q) :
    ∀ (z_this : T_Mo) (x1 : Int32) (x2 : Int32) (x3 : Int32) (x4 : Int32) (x5 : Int32) (H : Heap) (locs : List Loc) (ls : Array Slot), lv_has ls 6 [(0, .ref (ad_this 0)), (1, .int x1), (2, .int x2), (3, .int x3), (4, .int x4), (5, .int x5)] → va_P D vwCl (w_Mo k ad_this z_this) H → va_D A (w_Mo k ad_this z_this) → va_S A s.heap H locs → wp_Mo_statement_J460 d rf post z_this x1 x2 x3 x4 x5 → W p l e (rm_Mo_statement d F L) s m args below meth c H locs 0 0 (xq_Z below D vwCl (xt k) w0 (fun r : Int32 => some (.int r)) post (fun _ : T_Mo => False) (fun u : T_Mo => w_Mo k ad_this u) 0 0 0 0 s) (F0 m 460 ls []) := by
  obtain ⟨hx, hb, hml, hr, hlocks, hown, hts, hex, hnm⟩ := id hAt
  intro z_this x1 x2 x3 x4 x5 H locs ls hl hP hD hS hw
  unfold wp_Mo_statement_J460 at hw
  refine lv_iconst (v := (0 : Int32)) hx hb d_Mo_statement_460 (by decide) ?_
  exact t_Mo_statement_J461 (hrf := @hrf) hAt hK hJ hAe hA z_this x1 x2 x3 x4 x5 (0 : Int32) H locs ls (lv_sub hl [0, 1, 2, 3, 4, 5] rfl) hP hD hS hw
set_option maxHeartbeats 4000000 in
set_option maxRecDepth 100000 in
theorem t_Mo_statement_J504 {p : Program} {l : Launch} {o : State × Array Value} {e : Env} {s : State} {m : MethodId} {args : Array Value} {below : List Frame} {meth : Method} {c : Code} {D : va_G} {k : Nat → ClassId} {w0 : va_W} {A : Nat → Prop} {ad_this : Nat → Nat} {post : Int32 → T_Mo → Prop} {d : Nat} {rf : T_Mo → (Int32 → T_Mo → Prop) → Prop} {F L : Nat} (hrf : ∀ {ad_this : Nat → Nat} {z_this : T_Mo} {post : Int32 → T_Mo → Prop}, rf z_this post → xq_C l o y_Mo_block (.code y_Mo_block prog_10_method_27_code 4 (some (.int)) :: xq_W) { frames := F, cells := 0, slots := 0, locals := L } D vwCl (xt k) [.ref (ad_this 0)] (w_Mo k ad_this z_this) (fun r : Int32 => some (.int r)) post (fun _ : T_Mo => False) (fun u : T_Mo => w_Mo k ad_this u) 0 0 0 0) (hAt : xq_At p s m args meth c prog_10_method_30_code 6 (some (.int)) y_Mo_statement xq_W) (hK : va_K D vwCl (xt k) s) (hJ : xq_J l o A s s.heap) (hAe : va_A w0 s.heap.size = A) (hA : ∀ q, s.heap.size ≤ q → A q) :
    ∀ (z_this : T_Mo) (x1 : Int32) (x2 : Int32) (x3 : Int32) (x4 : Int32) (x5 : Int32) (y0 : Int32) (H : Heap) (locs : List Loc) (ls : Array Slot), lv_has ls 6 [(0, .ref (ad_this 0)), (1, .int x1), (2, .int x2), (3, .int x3), (4, .int x4), (5, .int x5)] → va_P D vwCl (w_Mo k ad_this z_this) H → va_D A (w_Mo k ad_this z_this) → va_S A s.heap H locs → wp_Mo_statement_J504 d rf post z_this x1 x2 x3 x4 x5 y0 → W p l e (rm_Mo_statement d F L) s m args below meth c H locs 0 0 (xq_Z below D vwCl (xt k) w0 (fun r : Int32 => some (.int r)) post (fun _ : T_Mo => False) (fun u : T_Mo => w_Mo k ad_this u) 0 0 0 0 s) (F0 m 504 ls [.int y0]) := by
  obtain ⟨hx, hb, hml, hr, hlocks, hown, hts, hex, hnm⟩ := id hAt
  intro z_this x1 x2 x3 x4 x5 y0 H locs ls hl hP hD hS hw
  unfold wp_Mo_statement_J504 at hw
  refine lv_istore (lv' := [(5, .int y0), (0, .ref (ad_this 0)), (1, .int x1), (2, .int x2), (3, .int x3), (4, .int x4)]) hx hb d_Mo_statement_504 hl (by decide) rfl (fun ls hl => ?_)
  refine lv_goto (tgt := 587) hx hb d_Mo_statement_506 (by decide) ?_
  exact t_Mo_statement_J587 (hrf := @hrf) hAt hK hJ hAe hA z_this x1 x2 x3 x4 y0 H locs ls (lv_sub hl [1, 2, 3, 4, 5, 0] rfl) hP hD hS hw
set_option maxHeartbeats 4000000 in
set_option maxRecDepth 100000 in
theorem t_Mo_statement_J503 {p : Program} {l : Launch} {o : State × Array Value} {e : Env} {s : State} {m : MethodId} {args : Array Value} {below : List Frame} {meth : Method} {c : Code} {D : va_G} {k : Nat → ClassId} {w0 : va_W} {A : Nat → Prop} {ad_this : Nat → Nat} {post : Int32 → T_Mo → Prop} {d : Nat} {rf : T_Mo → (Int32 → T_Mo → Prop) → Prop} {F L : Nat} (hrf : ∀ {ad_this : Nat → Nat} {z_this : T_Mo} {post : Int32 → T_Mo → Prop}, rf z_this post → xq_C l o y_Mo_block (.code y_Mo_block prog_10_method_27_code 4 (some (.int)) :: xq_W) { frames := F, cells := 0, slots := 0, locals := L } D vwCl (xt k) [.ref (ad_this 0)] (w_Mo k ad_this z_this) (fun r : Int32 => some (.int r)) post (fun _ : T_Mo => False) (fun u : T_Mo => w_Mo k ad_this u) 0 0 0 0) (hAt : xq_At p s m args meth c prog_10_method_30_code 6 (some (.int)) y_Mo_statement xq_W) (hK : va_K D vwCl (xt k) s) (hJ : xq_J l o A s s.heap) (hAe : va_A w0 s.heap.size = A) (hA : ∀ q, s.heap.size ≤ q → A q) :
    ∀ (z_this : T_Mo) (x1 : Int32) (x2 : Int32) (x3 : Int32) (x4 : Int32) (x5 : Int32) (H : Heap) (locs : List Loc) (ls : Array Slot), lv_has ls 6 [(0, .ref (ad_this 0)), (1, .int x1), (2, .int x2), (3, .int x3), (4, .int x4), (5, .int x5)] → va_P D vwCl (w_Mo k ad_this z_this) H → va_D A (w_Mo k ad_this z_this) → va_S A s.heap H locs → wp_Mo_statement_J503 d rf post z_this x1 x2 x3 x4 x5 → W p l e (rm_Mo_statement d F L) s m args below meth c H locs 0 0 (xq_Z below D vwCl (xt k) w0 (fun r : Int32 => some (.int r)) post (fun _ : T_Mo => False) (fun u : T_Mo => w_Mo k ad_this u) 0 0 0 0 s) (F0 m 503 ls []) := by
  obtain ⟨hx, hb, hml, hr, hlocks, hown, hts, hex, hnm⟩ := id hAt
  intro z_this x1 x2 x3 x4 x5 H locs ls hl hP hD hS hw
  unfold wp_Mo_statement_J503 at hw
  refine lv_iconst (v := (0 : Int32)) hx hb d_Mo_statement_503 (by decide) ?_
  exact t_Mo_statement_J504 (hrf := @hrf) hAt hK hJ hAe hA z_this x1 x2 x3 x4 x5 (0 : Int32) H locs ls (lv_sub hl [0, 1, 2, 3, 4, 5] rfl) hP hD hS hw
set_option maxHeartbeats 4000000 in
set_option maxRecDepth 100000 in
theorem t_Mo_statement_J480 {p : Program} {l : Launch} {o : State × Array Value} {e : Env} {s : State} {m : MethodId} {args : Array Value} {below : List Frame} {meth : Method} {c : Code} {D : va_G} {k : Nat → ClassId} {w0 : va_W} {A : Nat → Prop} {ad_this : Nat → Nat} {post : Int32 → T_Mo → Prop} {d : Nat} {rf : T_Mo → (Int32 → T_Mo → Prop) → Prop} {F L : Nat} (hrf : ∀ {ad_this : Nat → Nat} {z_this : T_Mo} {post : Int32 → T_Mo → Prop}, rf z_this post → xq_C l o y_Mo_block (.code y_Mo_block prog_10_method_27_code 4 (some (.int)) :: xq_W) { frames := F, cells := 0, slots := 0, locals := L } D vwCl (xt k) [.ref (ad_this 0)] (w_Mo k ad_this z_this) (fun r : Int32 => some (.int r)) post (fun _ : T_Mo => False) (fun u : T_Mo => w_Mo k ad_this u) 0 0 0 0) (hAt : xq_At p s m args meth c prog_10_method_30_code 6 (some (.int)) y_Mo_statement xq_W) (hK : va_K D vwCl (xt k) s) (hJ : xq_J l o A s s.heap) (hAe : va_A w0 s.heap.size = A) (hA : ∀ q, s.heap.size ≤ q → A q) :
    ∀ (z_this : T_Mo) (x1 : Int32) (x2 : Int32) (x3 : Int32) (x4 : Int32) (x5 : Int32) (y0 : Int32) (H : Heap) (locs : List Loc) (ls : Array Slot), lv_has ls 6 [(0, .ref (ad_this 0)), (1, .int x1), (2, .int x2), (3, .int x3), (4, .int x4), (5, .int x5)] → va_P D vwCl (w_Mo k ad_this z_this) H → va_D A (w_Mo k ad_this z_this) → va_S A s.heap H locs → wp_Mo_statement_J480 d rf post z_this x1 x2 x3 x4 x5 y0 → W p l e (rm_Mo_statement d F L) s m args below meth c H locs 0 0 (xq_Z below D vwCl (xt k) w0 (fun r : Int32 => some (.int r)) post (fun _ : T_Mo => False) (fun u : T_Mo => w_Mo k ad_this u) 0 0 0 0 s) (F0 m 480 ls [.int y0, .ref (ad_this 0)]) := by
  obtain ⟨hx, hb, hml, hr, hlocks, hown, hts, hex, hnm⟩ := id hAt
  intro z_this x1 x2 x3 x4 x5 y0 H locs ls hl hP hD hS hw
  unfold wp_Mo_statement_J480 at hw
  refine xq_go (wr := ([] : va_W)) (stk := fun r => .int r :: []) (xq_runV (As := [.int y0]) (rest := []) ⟨hx, hb, hml, hown, hts⟩ (c_Mo_known (l := l) (o := o) (D := D) (k := k) (ad_this := ad_this) hw) (cw_Mo_known hts kw5_135 ⟨by simp only [rm_Mo_statement, rm_Mo_known]; omega, by simp only [rm_Mo_statement, rm_Mo_known]; omega⟩) (va_recv hK hP (ci := 8) (q0 := 0) rfl rfl) (hP.sub [0, 1, 2, 3, 4, 5, 6, 7, 8, 9, 10, 11, 12, 13, 14, 15, 16, 17] rfl) hK hJ hS (va_free hD hS hA [0, 1, 2, 3, 4, 5, 6, 7, 8, 9, 10, 11, 12, 13, 14, 15, 16, 17] rfl) ((hD.sub [0, 1, 2, 3, 4, 5, 6, 7, 8, 9, 10, 11, 12, 13, 14, 15, 16, 17] (by decide) rfl).weaken (fun _ _ _ _ => trivial)) rfl hl.1 (Nat.le_of_ble_eq_true rfl) d_Mo_statement_480 ⟨Nat.le_of_ble_eq_true rfl, Nat.le_of_ble_eq_true rfl⟩) hP hD hS hA [0, 1, 2, 3, 4, 5, 6, 7, 8, 9, 10, 11, 12, 13, 14, 15, 16, 17] [] rfl rfl (by decide) (by decide) (fun _ => rfl) (fun r38 u38 H locs hw hP hD hS => ?_) (fun _ _ _ _ h9 => h9.elim)
  have hP : va_P D vwCl (w_Mo k ad_this u38) H := hP.sub [0, 1, 2, 3, 4, 5, 6, 7, 8, 9, 10, 11, 12, 13, 14, 15, 16, 17] rfl
  have hD : va_D A (w_Mo k ad_this u38) := hD.sub [0, 1, 2, 3, 4, 5, 6, 7, 8, 9, 10, 11, 12, 13, 14, 15, 16, 17] (by decide) rfl
  refine lv_istore (lv' := [(4, .int r38), (0, .ref (ad_this 0)), (1, .int x1), (2, .int x2), (3, .int x3), (5, .int x5)]) hx hb d_Mo_statement_483 hl (by decide) rfl (fun ls hl => ?_)
  refine lv_iload hx hb d_Mo_statement_485 (lv_at hl 0 rfl) ?_
  refine lv_if_lt (tgt := 503) hx hb d_Mo_statement_487 (by decide) (fun hc => ?_) (fun hc => ?_)
  · have hw := hw.1 hc
    exact t_Mo_statement_J503 (hrf := @hrf) hAt hK hJ hAe hA u38 x1 x2 x3 r38 x5 H locs ls (lv_sub hl [1, 2, 3, 4, 0, 5] rfl) hP hD hS hw
  · have hw := hw.2 hc
    refine lv_aload_n hx hb d_Mo_statement_490 rfl (lv_at hl 1 rfl) ?_
    refine lv_bipush (v := (59 : Int32)) hx hb d_Mo_statement_491 (by decide) ?_
    refine xq_go (wr := ([] : va_W)) (stk := fun r => .int r :: []) (xq_runV (As := [.int (59 : Int32)]) (rest := []) ⟨hx, hb, hml, hown, hts⟩ (c_Mo_over (l := l) (o := o) (D := D) (k := k) (ad_this := ad_this) hw) (cw_Mo_over hts kw5_123 ⟨by simp only [rm_Mo_statement, rm_Mo_over]; omega, by simp only [rm_Mo_statement, rm_Mo_over]; omega⟩) (va_recv hK hP (ci := 8) (q0 := 0) rfl rfl) (hP.sub [0, 1, 2, 3, 4, 5, 6, 7, 8, 9, 10, 11, 12, 13, 14, 15, 16, 17] rfl) hK hJ hS (va_free hD hS hA [0, 1, 2, 3, 4, 5, 6, 7, 8, 9, 10, 11, 12, 13, 14, 15, 16, 17] rfl) ((hD.sub [0, 1, 2, 3, 4, 5, 6, 7, 8, 9, 10, 11, 12, 13, 14, 15, 16, 17] (by decide) rfl).weaken (fun _ _ _ _ => trivial)) rfl hl.1 (Nat.le_of_ble_eq_true rfl) d_Mo_statement_493 ⟨Nat.le_of_ble_eq_true rfl, Nat.le_of_ble_eq_true rfl⟩) hP hD hS hA [0, 1, 2, 3, 4, 5, 6, 7, 8, 9, 10, 11, 12, 13, 14, 15, 16, 17] [] rfl rfl (by decide) (by decide) (fun _ => rfl) (fun r39 u39 H locs hw hP hD hS => ?_) (fun _ _ _ _ h9 => h9.elim)
    have hP : va_P D vwCl (w_Mo k ad_this u39) H := hP.sub [0, 1, 2, 3, 4, 5, 6, 7, 8, 9, 10, 11, 12, 13, 14, 15, 16, 17] rfl
    have hD : va_D A (w_Mo k ad_this u39) := hD.sub [0, 1, 2, 3, 4, 5, 6, 7, 8, 9, 10, 11, 12, 13, 14, 15, 16, 17] (by decide) rfl
    refine lv_if_eq (tgt := 503) hx hb d_Mo_statement_496 (by decide) (fun hc => ?_) (fun hc => ?_)
    · have hw := hw.1 hc
      exact t_Mo_statement_J503 (hrf := @hrf) hAt hK hJ hAe hA u39 x1 x2 x3 r38 x5 H locs ls (lv_sub hl [1, 2, 3, 4, 0, 5] rfl) hP hD hS hw
    · have hw := hw.2 hc
      refine lv_iconst (v := (1 : Int32)) hx hb d_Mo_statement_499 (by decide) ?_
      refine lv_goto (tgt := 504) hx hb d_Mo_statement_500 (by decide) ?_
      exact t_Mo_statement_J504 (hrf := @hrf) hAt hK hJ hAe hA u39 x1 x2 x3 r38 x5 (1 : Int32) H locs ls (lv_sub hl [1, 2, 3, 4, 0, 5] rfl) hP hD hS hw
set_option maxHeartbeats 4000000 in
set_option maxRecDepth 100000 in
theorem t_Mo_statement_J466 {p : Program} {l : Launch} {o : State × Array Value} {e : Env} {s : State} {m : MethodId} {args : Array Value} {below : List Frame} {meth : Method} {c : Code} {D : va_G} {k : Nat → ClassId} {w0 : va_W} {A : Nat → Prop} {ad_this : Nat → Nat} {post : Int32 → T_Mo → Prop} {d : Nat} {rf : T_Mo → (Int32 → T_Mo → Prop) → Prop} {F L : Nat} (hrf : ∀ {ad_this : Nat → Nat} {z_this : T_Mo} {post : Int32 → T_Mo → Prop}, rf z_this post → xq_C l o y_Mo_block (.code y_Mo_block prog_10_method_27_code 4 (some (.int)) :: xq_W) { frames := F, cells := 0, slots := 0, locals := L } D vwCl (xt k) [.ref (ad_this 0)] (w_Mo k ad_this z_this) (fun r : Int32 => some (.int r)) post (fun _ : T_Mo => False) (fun u : T_Mo => w_Mo k ad_this u) 0 0 0 0) (hAt : xq_At p s m args meth c prog_10_method_30_code 6 (some (.int)) y_Mo_statement xq_W) (hK : va_K D vwCl (xt k) s) (hJ : xq_J l o A s s.heap) (hAe : va_A w0 s.heap.size = A) (hA : ∀ q, s.heap.size ≤ q → A q) :
    ∀ (z_this : T_Mo) (x1 : Int32) (x2 : Int32) (x3 : Int32) (x4 : Int32) (x5 : Int32) (H : Heap) (locs : List Loc) (ls : Array Slot), lv_has ls 6 [(0, .ref (ad_this 0)), (1, .int x1), (2, .int x2), (3, .int x3), (4, .int x4), (5, .int x5)] → va_P D vwCl (w_Mo k ad_this z_this) H → va_D A (w_Mo k ad_this z_this) → va_S A s.heap H locs → wp_Mo_statement_J466 d rf post z_this x1 x2 x3 x4 x5 → W p l e (rm_Mo_statement d F L) s m args below meth c H locs 0 0 (xq_Z below D vwCl (xt k) w0 (fun r : Int32 => some (.int r)) post (fun _ : T_Mo => False) (fun u : T_Mo => w_Mo k ad_this u) 0 0 0 0 s) (F0 m 466 ls []) := by
  obtain ⟨hx, hb, hml, hr, hlocks, hown, hts, hex, hnm⟩ := id hAt
  intro z_this x1 x2 x3 x4 x5 H locs ls hl hP hD hS hw
  unfold wp_Mo_statement_J466 at hw
  refine lv_aload_n hx hb d_Mo_statement_466 rfl (lv_at hl 0 rfl) ?_
  refine lv_iload_n hx hb d_Mo_statement_467 rfl (lv_at hl 1 rfl) ?_
  refine lv_bipush (v := (18 : Int32)) hx hb d_Mo_statement_468 (by decide) ?_
  refine lv_icmp_ne (tgt := 478) hx hb d_Mo_statement_470 (by decide) (fun hc => ?_) (fun hc => ?_)
  · have hw := hw.2 hc
    refine lv_bipush (v := (24 : Int32)) hx hb d_Mo_statement_478 (by decide) ?_
    exact t_Mo_statement_J480 (hrf := @hrf) hAt hK hJ hAe hA z_this x1 x2 x3 x4 x5 (24 : Int32) H locs ls (lv_sub hl [0, 1, 2, 3, 4, 5] rfl) hP hD hS hw
  · have hw := hw.1 hc
    refine lv_bipush (v := (30 : Int32)) hx hb d_Mo_statement_473 (by decide) ?_
    refine lv_goto (tgt := 480) hx hb d_Mo_statement_475 (by decide) ?_
    exact t_Mo_statement_J480 (hrf := @hrf) hAt hK hJ hAe hA z_this x1 x2 x3 x4 x5 (30 : Int32) H locs ls (lv_sub hl [0, 1, 2, 3, 4, 5] rfl) hP hD hS hw
set_option maxHeartbeats 4000000 in
set_option maxRecDepth 100000 in
theorem t_Mo_statement_J537 {p : Program} {l : Launch} {o : State × Array Value} {e : Env} {s : State} {m : MethodId} {args : Array Value} {below : List Frame} {meth : Method} {c : Code} {D : va_G} {k : Nat → ClassId} {w0 : va_W} {A : Nat → Prop} {ad_this : Nat → Nat} {post : Int32 → T_Mo → Prop} {d : Nat} {rf : T_Mo → (Int32 → T_Mo → Prop) → Prop} {F L : Nat} (hrf : ∀ {ad_this : Nat → Nat} {z_this : T_Mo} {post : Int32 → T_Mo → Prop}, rf z_this post → xq_C l o y_Mo_block (.code y_Mo_block prog_10_method_27_code 4 (some (.int)) :: xq_W) { frames := F, cells := 0, slots := 0, locals := L } D vwCl (xt k) [.ref (ad_this 0)] (w_Mo k ad_this z_this) (fun r : Int32 => some (.int r)) post (fun _ : T_Mo => False) (fun u : T_Mo => w_Mo k ad_this u) 0 0 0 0) (hAt : xq_At p s m args meth c prog_10_method_30_code 6 (some (.int)) y_Mo_statement xq_W) (hK : va_K D vwCl (xt k) s) (hJ : xq_J l o A s s.heap) (hAe : va_A w0 s.heap.size = A) (hA : ∀ q, s.heap.size ≤ q → A q) :
    ∀ (z_this : T_Mo) (x1 : Int32) (x2 : Int32) (x3 : Int32) (x4 : Int32) (x5 : Int32) (H : Heap) (locs : List Loc) (ls : Array Slot), lv_has ls 6 [(0, .ref (ad_this 0)), (1, .int x1), (2, .int x2), (3, .int x3), (4, .int x4), (5, .int x5)] → va_P D vwCl (w_Mo k ad_this z_this) H → va_D A (w_Mo k ad_this z_this) → va_S A s.heap H locs → wp_Mo_statement_J537 d rf post z_this x1 x2 x3 x4 x5 → W p l e (rm_Mo_statement d F L) s m args below meth c H locs 0 0 (xq_Z below D vwCl (xt k) w0 (fun r : Int32 => some (.int r)) post (fun _ : T_Mo => False) (fun u : T_Mo => w_Mo k ad_this u) 0 0 0 0 s) (F0 m 537 ls []) := by
  obtain ⟨hx, hb, hml, hr, hlocks, hown, hts, hex, hnm⟩ := id hAt
  intro z_this x1 x2 x3 x4 x5 H locs ls hl hP hD hS hw
  unfold wp_Mo_statement_J537 at hw
  refine lv_aload_n hx hb d_Mo_statement_537 rfl (lv_at hl 0 rfl) ?_
  refine xq_go (wr := ([] : va_W)) (stk := fun r => .int r :: []) (xq_runV (As := []) (rest := []) ⟨hx, hb, hml, hown, hts⟩ (c_Mo_bad (l := l) (o := o) (D := D) (k := k) (ad_this := ad_this) hw) (cw_Mo_bad hts kw5_115 ⟨by simp only [rm_Mo_statement, rm_Mo_bad]; omega, by simp only [rm_Mo_statement, rm_Mo_bad]; omega⟩) (va_recv hK hP (ci := 8) (q0 := 0) rfl rfl) (hP.sub [0, 1, 2, 3, 4, 5, 6, 7, 8, 9, 10, 11, 12, 13, 14, 15, 16, 17] rfl) hK hJ hS (va_free hD hS hA [0, 1, 2, 3, 4, 5, 6, 7, 8, 9, 10, 11, 12, 13, 14, 15, 16, 17] rfl) ((hD.sub [0, 1, 2, 3, 4, 5, 6, 7, 8, 9, 10, 11, 12, 13, 14, 15, 16, 17] (by decide) rfl).weaken (fun _ _ _ _ => trivial)) rfl hl.1 (Nat.le_of_ble_eq_true rfl) d_Mo_statement_538 ⟨Nat.le_of_ble_eq_true rfl, Nat.le_of_ble_eq_true rfl⟩) hP hD hS hA [0, 1, 2, 3, 4, 5, 6, 7, 8, 9, 10, 11, 12, 13, 14, 15, 16, 17] [] rfl rfl (by decide) (by decide) (fun _ => rfl) (fun r40 u40 H locs hw hP hD hS => ?_) (fun _ _ _ _ h9 => h9.elim)
  have hP : va_P D vwCl (w_Mo k ad_this u40) H := hP.sub [0, 1, 2, 3, 4, 5, 6, 7, 8, 9, 10, 11, 12, 13, 14, 15, 16, 17] rfl
  have hD : va_D A (w_Mo k ad_this u40) := hD.sub [0, 1, 2, 3, 4, 5, 6, 7, 8, 9, 10, 11, 12, 13, 14, 15, 16, 17] (by decide) rfl
  exact xq_iret (r := r40) (u := u40) hx hb hr hlocks hAe hP hD hS rfl hw (Nat.le_of_ble_eq_true rfl) (Nat.le_of_ble_eq_true rfl) d_Mo_statement_541
set_option maxHeartbeats 4000000 in
set_option maxRecDepth 100000 in
theorem t_Mo_statement_J574 {p : Program} {l : Launch} {o : State × Array Value} {e : Env} {s : State} {m : MethodId} {args : Array Value} {below : List Frame} {meth : Method} {c : Code} {D : va_G} {k : Nat → ClassId} {w0 : va_W} {A : Nat → Prop} {ad_this : Nat → Nat} {post : Int32 → T_Mo → Prop} {d : Nat} {rf : T_Mo → (Int32 → T_Mo → Prop) → Prop} {F L : Nat} (hrf : ∀ {ad_this : Nat → Nat} {z_this : T_Mo} {post : Int32 → T_Mo → Prop}, rf z_this post → xq_C l o y_Mo_block (.code y_Mo_block prog_10_method_27_code 4 (some (.int)) :: xq_W) { frames := F, cells := 0, slots := 0, locals := L } D vwCl (xt k) [.ref (ad_this 0)] (w_Mo k ad_this z_this) (fun r : Int32 => some (.int r)) post (fun _ : T_Mo => False) (fun u : T_Mo => w_Mo k ad_this u) 0 0 0 0) (hAt : xq_At p s m args meth c prog_10_method_30_code 6 (some (.int)) y_Mo_statement xq_W) (hK : va_K D vwCl (xt k) s) (hJ : xq_J l o A s s.heap) (hAe : va_A w0 s.heap.size = A) (hA : ∀ q, s.heap.size ≤ q → A q) :
    ∀ (z_this : T_Mo) (x1 : Int32) (x2 : Int32) (x3 : Int32) (x4 : Int32) (x5 : Int32) (y0 : Int32) (H : Heap) (locs : List Loc) (ls : Array Slot), lv_has ls 6 [(0, .ref (ad_this 0)), (1, .int x1), (2, .int x2), (3, .int x3), (4, .int x4), (5, .int x5)] → va_P D vwCl (w_Mo k ad_this z_this) H → va_D A (w_Mo k ad_this z_this) → va_S A s.heap H locs → wp_Mo_statement_J574 d rf post z_this x1 x2 x3 x4 x5 y0 → W p l e (rm_Mo_statement d F L) s m args below meth c H locs 0 0 (xq_Z below D vwCl (xt k) w0 (fun r : Int32 => some (.int r)) post (fun _ : T_Mo => False) (fun u : T_Mo => w_Mo k ad_this u) 0 0 0 0 s) (F0 m 574 ls [.int y0]) := by
  obtain ⟨hx, hb, hml, hr, hlocks, hown, hts, hex, hnm⟩ := id hAt
  intro z_this x1 x2 x3 x4 x5 y0 H locs ls hl hP hD hS hw
  unfold wp_Mo_statement_J574 at hw
  refine lv_istore (lv' := [(5, .int y0), (0, .ref (ad_this 0)), (1, .int x1), (2, .int x2), (3, .int x3), (4, .int x4)]) hx hb d_Mo_statement_574 hl (by decide) rfl (fun ls hl => ?_)
  refine lv_goto (tgt := 587) hx hb d_Mo_statement_576 (by decide) ?_
  exact t_Mo_statement_J587 (hrf := @hrf) hAt hK hJ hAe hA z_this x1 x2 x3 x4 y0 H locs ls (lv_sub hl [1, 2, 3, 4, 5, 0] rfl) hP hD hS hw
set_option maxHeartbeats 4000000 in
set_option maxRecDepth 100000 in
theorem t_Mo_statement_J573 {p : Program} {l : Launch} {o : State × Array Value} {e : Env} {s : State} {m : MethodId} {args : Array Value} {below : List Frame} {meth : Method} {c : Code} {D : va_G} {k : Nat → ClassId} {w0 : va_W} {A : Nat → Prop} {ad_this : Nat → Nat} {post : Int32 → T_Mo → Prop} {d : Nat} {rf : T_Mo → (Int32 → T_Mo → Prop) → Prop} {F L : Nat} (hrf : ∀ {ad_this : Nat → Nat} {z_this : T_Mo} {post : Int32 → T_Mo → Prop}, rf z_this post → xq_C l o y_Mo_block (.code y_Mo_block prog_10_method_27_code 4 (some (.int)) :: xq_W) { frames := F, cells := 0, slots := 0, locals := L } D vwCl (xt k) [.ref (ad_this 0)] (w_Mo k ad_this z_this) (fun r : Int32 => some (.int r)) post (fun _ : T_Mo => False) (fun u : T_Mo => w_Mo k ad_this u) 0 0 0 0) (hAt : xq_At p s m args meth c prog_10_method_30_code 6 (some (.int)) y_Mo_statement xq_W) (hK : va_K D vwCl (xt k) s) (hJ : xq_J l o A s s.heap) (hAe : va_A w0 s.heap.size = A) (hA : ∀ q, s.heap.size ≤ q → A q) :
    ∀ (z_this : T_Mo) (x1 : Int32) (x2 : Int32) (x3 : Int32) (x4 : Int32) (x5 : Int32) (H : Heap) (locs : List Loc) (ls : Array Slot), lv_has ls 6 [(0, .ref (ad_this 0)), (1, .int x1), (2, .int x2), (3, .int x3), (4, .int x4), (5, .int x5)] → va_P D vwCl (w_Mo k ad_this z_this) H → va_D A (w_Mo k ad_this z_this) → va_S A s.heap H locs → wp_Mo_statement_J573 d rf post z_this x1 x2 x3 x4 x5 → W p l e (rm_Mo_statement d F L) s m args below meth c H locs 0 0 (xq_Z below D vwCl (xt k) w0 (fun r : Int32 => some (.int r)) post (fun _ : T_Mo => False) (fun u : T_Mo => w_Mo k ad_this u) 0 0 0 0 s) (F0 m 573 ls []) := by
  obtain ⟨hx, hb, hml, hr, hlocks, hown, hts, hex, hnm⟩ := id hAt
  intro z_this x1 x2 x3 x4 x5 H locs ls hl hP hD hS hw
  unfold wp_Mo_statement_J573 at hw
  refine lv_iconst (v := (0 : Int32)) hx hb d_Mo_statement_573 (by decide) ?_
  exact t_Mo_statement_J574 (hrf := @hrf) hAt hK hJ hAe hA z_this x1 x2 x3 x4 x5 (0 : Int32) H locs ls (lv_sub hl [0, 1, 2, 3, 4, 5] rfl) hP hD hS hw
set_option maxHeartbeats 4000000 in
set_option maxRecDepth 100000 in
theorem t_Mo_statement_J579 {p : Program} {l : Launch} {o : State × Array Value} {e : Env} {s : State} {m : MethodId} {args : Array Value} {below : List Frame} {meth : Method} {c : Code} {D : va_G} {k : Nat → ClassId} {w0 : va_W} {A : Nat → Prop} {ad_this : Nat → Nat} {post : Int32 → T_Mo → Prop} {d : Nat} {rf : T_Mo → (Int32 → T_Mo → Prop) → Prop} {F L : Nat} (hrf : ∀ {ad_this : Nat → Nat} {z_this : T_Mo} {post : Int32 → T_Mo → Prop}, rf z_this post → xq_C l o y_Mo_block (.code y_Mo_block prog_10_method_27_code 4 (some (.int)) :: xq_W) { frames := F, cells := 0, slots := 0, locals := L } D vwCl (xt k) [.ref (ad_this 0)] (w_Mo k ad_this z_this) (fun r : Int32 => some (.int r)) post (fun _ : T_Mo => False) (fun u : T_Mo => w_Mo k ad_this u) 0 0 0 0) (hAt : xq_At p s m args meth c prog_10_method_30_code 6 (some (.int)) y_Mo_statement xq_W) (hK : va_K D vwCl (xt k) s) (hJ : xq_J l o A s s.heap) (hAe : va_A w0 s.heap.size = A) (hA : ∀ q, s.heap.size ≤ q → A q) :
    ∀ (z_this : T_Mo) (x1 : Int32) (x2 : Int32) (x3 : Int32) (x4 : Int32) (x5 : Int32) (H : Heap) (locs : List Loc) (ls : Array Slot), lv_has ls 6 [(0, .ref (ad_this 0)), (1, .int x1), (2, .int x2), (3, .int x3), (4, .int x4), (5, .int x5)] → va_P D vwCl (w_Mo k ad_this z_this) H → va_D A (w_Mo k ad_this z_this) → va_S A s.heap H locs → wp_Mo_statement_J579 d rf post z_this x1 x2 x3 x4 x5 → W p l e (rm_Mo_statement d F L) s m args below meth c H locs 0 0 (xq_Z below D vwCl (xt k) w0 (fun r : Int32 => some (.int r)) post (fun _ : T_Mo => False) (fun u : T_Mo => w_Mo k ad_this u) 0 0 0 0 s) (F0 m 579 ls []) := by
  obtain ⟨hx, hb, hml, hr, hlocks, hown, hts, hex, hnm⟩ := id hAt
  intro z_this x1 x2 x3 x4 x5 H locs ls hl hP hD hS hw
  unfold wp_Mo_statement_J579 at hw
  refine lv_aload_n hx hb d_Mo_statement_579 rfl (lv_at hl 0 rfl) ?_
  refine lv_bipush (v := (59 : Int32)) hx hb d_Mo_statement_580 (by decide) ?_
  refine xq_go (wr := ([] : va_W)) (stk := fun r => .int r :: []) (xq_runV (As := [.int (59 : Int32)]) (rest := []) ⟨hx, hb, hml, hown, hts⟩ (c_Mo_over (l := l) (o := o) (D := D) (k := k) (ad_this := ad_this) hw) (cw_Mo_over hts kw5_123 ⟨by simp only [rm_Mo_statement, rm_Mo_over]; omega, by simp only [rm_Mo_statement, rm_Mo_over]; omega⟩) (va_recv hK hP (ci := 8) (q0 := 0) rfl rfl) (hP.sub [0, 1, 2, 3, 4, 5, 6, 7, 8, 9, 10, 11, 12, 13, 14, 15, 16, 17] rfl) hK hJ hS (va_free hD hS hA [0, 1, 2, 3, 4, 5, 6, 7, 8, 9, 10, 11, 12, 13, 14, 15, 16, 17] rfl) ((hD.sub [0, 1, 2, 3, 4, 5, 6, 7, 8, 9, 10, 11, 12, 13, 14, 15, 16, 17] (by decide) rfl).weaken (fun _ _ _ _ => trivial)) rfl hl.1 (Nat.le_of_ble_eq_true rfl) d_Mo_statement_582 ⟨Nat.le_of_ble_eq_true rfl, Nat.le_of_ble_eq_true rfl⟩) hP hD hS hA [0, 1, 2, 3, 4, 5, 6, 7, 8, 9, 10, 11, 12, 13, 14, 15, 16, 17] [] rfl rfl (by decide) (by decide) (fun _ => rfl) (fun r43 u43 H locs hw hP hD hS => ?_) (fun _ _ _ _ h9 => h9.elim)
  have hP : va_P D vwCl (w_Mo k ad_this u43) H := hP.sub [0, 1, 2, 3, 4, 5, 6, 7, 8, 9, 10, 11, 12, 13, 14, 15, 16, 17] rfl
  have hD : va_D A (w_Mo k ad_this u43) := hD.sub [0, 1, 2, 3, 4, 5, 6, 7, 8, 9, 10, 11, 12, 13, 14, 15, 16, 17] (by decide) rfl
  refine lv_istore (lv' := [(5, .int r43), (0, .ref (ad_this 0)), (1, .int x1), (2, .int x2), (3, .int x3), (4, .int x4)]) hx hb d_Mo_statement_585 hl (by decide) rfl (fun ls hl => ?_)
  exact t_Mo_statement_J587 (hrf := @hrf) hAt hK hJ hAe hA u43 x1 x2 x3 x4 r43 H locs ls (lv_sub hl [1, 2, 3, 4, 5, 0] rfl) hP hD hS hw
set_option maxHeartbeats 4000000 in
set_option maxRecDepth 100000 in
theorem c_Mo_statement {l : Launch} {o : State × Array Value} {D : va_G} {k : Nat → ClassId} {d : Nat} {rf : T_Mo → (Int32 → T_Mo → Prop) → Prop} {F L : Nat} (hrf : ∀ {ad_this : Nat → Nat} {z_this : T_Mo} {post : Int32 → T_Mo → Prop}, rf z_this post → xq_C l o y_Mo_block (.code y_Mo_block prog_10_method_27_code 4 (some (.int)) :: xq_W) { frames := F, cells := 0, slots := 0, locals := L } D vwCl (xt k) [.ref (ad_this 0)] (w_Mo k ad_this z_this) (fun r : Int32 => some (.int r)) post (fun _ : T_Mo => False) (fun u : T_Mo => w_Mo k ad_this u) 0 0 0 0) {ad_this : Nat → Nat} {z_this : T_Mo} {post : Int32 → T_Mo → Prop} (hw : wp_Mo_statement d rf z_this post) : xq_C l o y_Mo_statement (.code y_Mo_statement prog_10_method_30_code 6 (some (.int)) :: xq_W) (rm_Mo_statement d F L) D vwCl (xt k) [.ref (ad_this 0)] (w_Mo k ad_this z_this) (fun r : Int32 => some (.int r)) post (fun _ : T_Mo => False) (fun u : T_Mo => w_Mo k ad_this u) 0 0 0 0 := by
  refine xq_ofW (cc := prog_10_method_30_code) (maxL := 6) (ret := (some (.int))) (by decide) rfl (Nat.le_of_ble_eq_true rfl) ?_
  intro p e s m below meth c ls H locs A hAt hAe hA hl hK hJ hP0 hP hD hS
  obtain ⟨hx, hb, hml, hr, hlocks, hown, hts, hex, hnm⟩ := id hAt
  have hl : lv_has ls 6 [(0, .ref (ad_this 0))] := hl
  unfold wp_Mo_statement at hw
  refine lv_aload_n hx hb d_Mo_statement_0 rfl (lv_at hl 0 rfl) ?_
  refine va_get (D := D) (ci := 8) (v := .int z_this.1.1.1.2.2.2) (C := R_Mo) (T := F_Mo) (N := 42) hx hb hts in_Mo hown hK hP 0 rfl rfl 4 (by decide) (hts (.fieldLink R_Mo 145 R_Mo "token" "I") kw4_147) (fun _ h9 => h9) rfl d_Mo_statement_1 ?_
  refine lv_sipush (v := (1000 : Int32)) hx hb d_Mo_statement_4 (by decide) ?_
  refine lv_isub hx hb d_Mo_statement_7 ?_
  refine lv_istore_n (lv' := [(1, .int (z_this.1.1.1.2.2.2 - (1000 : Int32))), (0, .ref (ad_this 0))]) hx hb d_Mo_statement_8 rfl hl (by decide) rfl (fun ls hl => ?_)
  refine lv_aload_n hx hb d_Mo_statement_9 rfl (lv_at hl 1 rfl) ?_
  refine va_get (D := D) (ci := 8) (v := .int z_this.1.1.2.2.1) (C := R_Mo) (T := F_Mo) (N := 42) hx hb hts in_Mo hown hK hP 0 rfl rfl 7 (by decide) (hts (.fieldLink R_Mo 142 R_Mo "tokenLine" "I") kw4_150) (fun _ h9 => h9) rfl d_Mo_statement_10 ?_
  refine lv_istore_n (lv' := [(2, .int z_this.1.1.2.2.1), (1, .int (z_this.1.1.1.2.2.2 - (1000 : Int32))), (0, .ref (ad_this 0))]) hx hb d_Mo_statement_13 rfl hl (by decide) rfl (fun ls hl => ?_)
  refine lv_iload_n hx hb d_Mo_statement_14 rfl (lv_at hl 1 rfl) ?_
  refine lv_bipush (v := (10 : Int32)) hx hb d_Mo_statement_15 (by decide) ?_
  refine lv_icmp_lt (tgt := 26) hx hb d_Mo_statement_17 (by decide) (fun hc => ?_) (fun hc => ?_)
  · have hw := hw.1 hc
    exact t_Mo_statement_J26 (hrf := @hrf) hAt hK hJ hAe hA z_this (z_this.1.1.1.2.2.2 - (1000 : Int32)) z_this.1.1.2.2.1 H locs ls (lv_sub hl [2, 1, 0] rfl) hP hD hS hw
  · have hw := hw.2 hc
    refine lv_iload_n hx hb d_Mo_statement_20 rfl (lv_at hl 1 rfl) ?_
    refine lv_bipush (v := (22 : Int32)) hx hb d_Mo_statement_21 (by decide) ?_
    refine lv_icmp_le (tgt := 31) hx hb d_Mo_statement_23 (by decide) (fun hc => ?_) (fun hc => ?_)
    · have hw := hw.1 hc
      refine lv_aload_n hx hb d_Mo_statement_31 rfl (lv_at hl 2 rfl) ?_
      refine xq_go (wr := ([] : va_W)) (stk := fun r => .int r :: []) (xq_runV (As := []) (rest := []) ⟨hx, hb, hml, hown, hts⟩ (c_Mo_go (l := l) (o := o) (D := D) (k := k) (ad_this := ad_this) hw) (cw_Mo_go hts kw5_42 ⟨by simp only [rm_Mo_statement, rm_Mo_go]; omega, by simp only [rm_Mo_statement, rm_Mo_go]; omega⟩) (va_recv hK hP (ci := 8) (q0 := 0) rfl rfl) (hP.sub [0, 1, 2, 3, 4, 5, 6, 7, 8, 9, 10, 11, 12, 13, 14, 15, 16, 17] rfl) hK hJ hS (va_free hD hS hA [0, 1, 2, 3, 4, 5, 6, 7, 8, 9, 10, 11, 12, 13, 14, 15, 16, 17] rfl) ((hD.sub [0, 1, 2, 3, 4, 5, 6, 7, 8, 9, 10, 11, 12, 13, 14, 15, 16, 17] (by decide) rfl).weaken (fun _ _ _ _ => trivial)) rfl hl.1 (Nat.le_of_ble_eq_true rfl) d_Mo_statement_32 ⟨Nat.le_of_ble_eq_true rfl, Nat.le_of_ble_eq_true rfl⟩) hP hD hS hA [0, 1, 2, 3, 4, 5, 6, 7, 8, 9, 10, 11, 12, 13, 14, 15, 16, 17] [] rfl rfl (by decide) (by decide) (fun _ => rfl) (fun r2 u2 H locs hw hP hD hS => ?_) (fun _ _ _ _ h9 => h9.elim)
      have hP : va_P D vwCl (w_Mo k ad_this u2) H := hP.sub [0, 1, 2, 3, 4, 5, 6, 7, 8, 9, 10, 11, 12, 13, 14, 15, 16, 17] rfl
      have hD : va_D A (w_Mo k ad_this u2) := hD.sub [0, 1, 2, 3, 4, 5, 6, 7, 8, 9, 10, 11, 12, 13, 14, 15, 16, 17] (by decide) rfl
      refine lv_if_ne (tgt := 40) hx hb d_Mo_statement_35 (by decide) (fun hc => ?_) (fun hc => ?_)
      · have hw := hw.2 hc
        refine lv_aload_n hx hb d_Mo_statement_40 rfl (lv_at hl 2 rfl) ?_
        refine va_get (D := D) (ci := 8) (v := .int u2.2.2.1.2.2.2) (C := R_Mo) (T := F_Mo) (N := 42) hx hb hts in_Mo hown hK hP 0 rfl rfl 35 (by decide) (hts (.fieldLink R_Mo 200 R_Mo "high" "I") kw4_178) (fun _ h9 => h9) rfl d_Mo_statement_41 ?_
        refine lv_istore_n (lv' := [(3, .int u2.2.2.1.2.2.2), (2, .int z_this.1.1.2.2.1), (1, .int (z_this.1.1.1.2.2.2 - (1000 : Int32))), (0, .ref (ad_this 0))]) hx hb d_Mo_statement_44 rfl hl (by decide) rfl (fun ls hl => ?_)
        refine lv_iconst (v := (0 : Int32)) hx hb d_Mo_statement_45 (by decide) ?_
        refine lv_istore (lv' := [(4, .int (0 : Int32)), (3, .int u2.2.2.1.2.2.2), (2, .int z_this.1.1.2.2.1), (1, .int (z_this.1.1.1.2.2.2 - (1000 : Int32))), (0, .ref (ad_this 0))]) hx hb d_Mo_statement_46 hl (by decide) rfl (fun ls hl => ?_)
        refine lv_iconst (v := (1 : Int32)) hx hb d_Mo_statement_48 (by decide) ?_
        refine lv_istore (lv' := [(5, .int (1 : Int32)), (4, .int (0 : Int32)), (3, .int u2.2.2.1.2.2.2), (2, .int z_this.1.1.2.2.1), (1, .int (z_this.1.1.1.2.2.2 - (1000 : Int32))), (0, .ref (ad_this 0))]) hx hb d_Mo_statement_49 hl (by decide) rfl (fun ls hl => ?_)
        refine lv_iload_n hx hb d_Mo_statement_51 rfl (lv_at hl 4 rfl) ?_
        by_cases hc0 : (z_this.1.1.1.2.2.2 - (1000 : Int32)) = (10 : Int32)
        · have hw := hw.1 hc0
          refine W.eq (g2 := F0 m 52 ls ([.int (10 : Int32)])) (by rw [hc0]) ?_
          refine lv_tableIn (tgt := 120) hx hb d_Mo_statement_52 (by decide) (by decide) rfl (by decide) ?_
          exact t_Mo_statement_J120 (hrf := @hrf) hAt hK hJ hAe hA u2 (z_this.1.1.1.2.2.2 - (1000 : Int32)) z_this.1.1.2.2.1 u2.2.2.1.2.2.2 (0 : Int32) (1 : Int32) H locs ls (lv_sub hl [5, 4, 3, 2, 1, 0] rfl) hP hD hS hw
        by_cases hc1 : (z_this.1.1.1.2.2.2 - (1000 : Int32)) = (11 : Int32)
        · have hw := hw.2.1 hc1
          refine W.eq (g2 := F0 m 52 ls ([.int (11 : Int32)])) (by rw [hc1]) ?_
          refine lv_tableIn (tgt := 200) hx hb d_Mo_statement_52 (by decide) (by decide) rfl (by decide) ?_
          refine lv_aload_n hx hb d_Mo_statement_200 rfl (lv_at hl 5 rfl) ?_
          refine lv_iconst (v := (3 : Int32)) hx hb d_Mo_statement_201 (by decide) ?_
          refine xq_go (wr := ([] : va_W)) (stk := fun r => .int r :: []) (xq_runV (As := [.int (3 : Int32)]) (rest := []) ⟨hx, hb, hml, hown, hts⟩ (c_Mo_sumOf (l := l) (o := o) (D := D) (k := k) (F := fFa d) (L := fLa d) (hrf := c_Mo_factor d) (ad_this := ad_this) hw) (cw_Mo_sumOf hts kw5_139 ⟨by simp only [rm_Mo_statement, rm_Mo_sumOf]; omega, by simp only [rm_Mo_statement, rm_Mo_sumOf]; omega⟩) (va_recv hK hP (ci := 8) (q0 := 0) rfl rfl) (hP.sub [0, 1, 2, 3, 4, 5, 6, 7, 8, 9, 10, 11, 12, 13, 14, 15, 16, 17] rfl) hK hJ hS (va_free hD hS hA [0, 1, 2, 3, 4, 5, 6, 7, 8, 9, 10, 11, 12, 13, 14, 15, 16, 17] rfl) ((hD.sub [0, 1, 2, 3, 4, 5, 6, 7, 8, 9, 10, 11, 12, 13, 14, 15, 16, 17] (by decide) rfl).weaken (fun _ _ _ _ => trivial)) rfl hl.1 (Nat.le_of_ble_eq_true rfl) d_Mo_statement_202 ⟨Nat.le_of_ble_eq_true rfl, Nat.le_of_ble_eq_true rfl⟩) hP hD hS hA [0, 1, 2, 3, 4, 5, 6, 7, 8, 9, 10, 11, 12, 13, 14, 15, 16, 17] [] rfl rfl (by decide) (by decide) (fun _ => rfl) (fun r9 u9 H locs hw hP hD hS => ?_) (fun _ _ _ _ h9 => h9.elim)
          have hP : va_P D vwCl (w_Mo k ad_this u9) H := hP.sub [0, 1, 2, 3, 4, 5, 6, 7, 8, 9, 10, 11, 12, 13, 14, 15, 16, 17] rfl
          have hD : va_D A (w_Mo k ad_this u9) := hD.sub [0, 1, 2, 3, 4, 5, 6, 7, 8, 9, 10, 11, 12, 13, 14, 15, 16, 17] (by decide) rfl
          refine lv_if_eq (tgt := 221) hx hb d_Mo_statement_205 (by decide) (fun hc => ?_) (fun hc => ?_)
          · have hw := hw.1 hc
            exact t_Mo_statement_J221 (hrf := @hrf) hAt hK hJ hAe hA u9 (z_this.1.1.1.2.2.2 - (1000 : Int32)) z_this.1.1.2.2.1 u2.2.2.1.2.2.2 (0 : Int32) (1 : Int32) H locs ls (lv_sub hl [5, 4, 3, 2, 1, 0] rfl) hP hD hS hw
          · have hw := hw.2 hc
            refine lv_aload_n hx hb d_Mo_statement_208 rfl (lv_at hl 5 rfl) ?_
            refine lv_bipush (v := (59 : Int32)) hx hb d_Mo_statement_209 (by decide) ?_
            refine xq_go (wr := ([] : va_W)) (stk := fun r => .int r :: []) (xq_runV (As := [.int (59 : Int32)]) (rest := []) ⟨hx, hb, hml, hown, hts⟩ (c_Mo_over (l := l) (o := o) (D := D) (k := k) (ad_this := ad_this) hw) (cw_Mo_over hts kw5_123 ⟨by simp only [rm_Mo_statement, rm_Mo_over]; omega, by simp only [rm_Mo_statement, rm_Mo_over]; omega⟩) (va_recv hK hP (ci := 8) (q0 := 0) rfl rfl) (hP.sub [0, 1, 2, 3, 4, 5, 6, 7, 8, 9, 10, 11, 12, 13, 14, 15, 16, 17] rfl) hK hJ hS (va_free hD hS hA [0, 1, 2, 3, 4, 5, 6, 7, 8, 9, 10, 11, 12, 13, 14, 15, 16, 17] rfl) ((hD.sub [0, 1, 2, 3, 4, 5, 6, 7, 8, 9, 10, 11, 12, 13, 14, 15, 16, 17] (by decide) rfl).weaken (fun _ _ _ _ => trivial)) rfl hl.1 (Nat.le_of_ble_eq_true rfl) d_Mo_statement_211 ⟨Nat.le_of_ble_eq_true rfl, Nat.le_of_ble_eq_true rfl⟩) hP hD hS hA [0, 1, 2, 3, 4, 5, 6, 7, 8, 9, 10, 11, 12, 13, 14, 15, 16, 17] [] rfl rfl (by decide) (by decide) (fun _ => rfl) (fun r10 u10 H locs hw hP hD hS => ?_) (fun _ _ _ _ h9 => h9.elim)
            have hP : va_P D vwCl (w_Mo k ad_this u10) H := hP.sub [0, 1, 2, 3, 4, 5, 6, 7, 8, 9, 10, 11, 12, 13, 14, 15, 16, 17] rfl
            have hD : va_D A (w_Mo k ad_this u10) := hD.sub [0, 1, 2, 3, 4, 5, 6, 7, 8, 9, 10, 11, 12, 13, 14, 15, 16, 17] (by decide) rfl
            refine lv_if_eq (tgt := 221) hx hb d_Mo_statement_214 (by decide) (fun hc => ?_) (fun hc => ?_)
            · have hw := hw.1 hc
              exact t_Mo_statement_J221 (hrf := @hrf) hAt hK hJ hAe hA u10 (z_this.1.1.1.2.2.2 - (1000 : Int32)) z_this.1.1.2.2.1 u2.2.2.1.2.2.2 (0 : Int32) (1 : Int32) H locs ls (lv_sub hl [5, 4, 3, 2, 1, 0] rfl) hP hD hS hw
            · have hw := hw.2 hc
              refine lv_iconst (v := (1 : Int32)) hx hb d_Mo_statement_217 (by decide) ?_
              refine lv_goto (tgt := 222) hx hb d_Mo_statement_218 (by decide) ?_
              exact t_Mo_statement_J222 (hrf := @hrf) hAt hK hJ hAe hA u10 (z_this.1.1.1.2.2.2 - (1000 : Int32)) z_this.1.1.2.2.1 u2.2.2.1.2.2.2 (0 : Int32) (1 : Int32) (1 : Int32) H locs ls (lv_sub hl [5, 4, 3, 2, 1, 0] rfl) hP hD hS hw
        by_cases hc2 : (z_this.1.1.1.2.2.2 - (1000 : Int32)) = (12 : Int32)
        · have hw := hw.2.2.1 hc2
          refine W.eq (g2 := F0 m 52 ls ([.int (12 : Int32)])) (by rw [hc2]) ?_
          refine lv_tableIn (tgt := 227) hx hb d_Mo_statement_52 (by decide) (by decide) rfl (by decide) ?_
          refine lv_aload_n hx hb d_Mo_statement_227 rfl (lv_at hl 5 rfl) ?_
          refine lv_aload_n hx hb d_Mo_statement_228 rfl (lv_at hl 5 rfl) ?_
          refine xq_go (wr := ([] : va_W)) (stk := fun r => .int r :: [.ref (ad_this 0)]) (xq_runV (As := []) (rest := [.ref (ad_this 0)]) ⟨hx, hb, hml, hown, hts⟩ (c_Mo_test (l := l) (o := o) (D := D) (k := k) (F := fFa d) (L := fLa d) (hrf := c_Mo_factor d) (ad_this := ad_this) hw) (cw_Mo_test hts kw5_182 ⟨by simp only [rm_Mo_statement, rm_Mo_test]; omega, by simp only [rm_Mo_statement, rm_Mo_test]; omega⟩) (va_recv hK hP (ci := 8) (q0 := 0) rfl rfl) (hP.sub [0, 1, 2, 3, 4, 5, 6, 7, 8, 9, 10, 11, 12, 13, 14, 15, 16, 17] rfl) hK hJ hS (va_free hD hS hA [0, 1, 2, 3, 4, 5, 6, 7, 8, 9, 10, 11, 12, 13, 14, 15, 16, 17] rfl) ((hD.sub [0, 1, 2, 3, 4, 5, 6, 7, 8, 9, 10, 11, 12, 13, 14, 15, 16, 17] (by decide) rfl).weaken (fun _ _ _ _ => trivial)) rfl hl.1 (Nat.le_of_ble_eq_true rfl) d_Mo_statement_229 ⟨Nat.le_of_ble_eq_true rfl, Nat.le_of_ble_eq_true rfl⟩) hP hD hS hA [0, 1, 2, 3, 4, 5, 6, 7, 8, 9, 10, 11, 12, 13, 14, 15, 16, 17] [] rfl rfl (by decide) (by decide) (fun _ => rfl) (fun r11 u11 H locs hw hP hD hS => ?_) (fun _ _ _ _ h9 => h9.elim)
          have hP : va_P D vwCl (w_Mo k ad_this u11) H := hP.sub [0, 1, 2, 3, 4, 5, 6, 7, 8, 9, 10, 11, 12, 13, 14, 15, 16, 17] rfl
          have hD : va_D A (w_Mo k ad_this u11) := hD.sub [0, 1, 2, 3, 4, 5, 6, 7, 8, 9, 10, 11, 12, 13, 14, 15, 16, 17] (by decide) rfl
          refine xq_go (wr := ([] : va_W)) (stk := fun r => .int r :: []) (xq_runV (As := [.int r11]) (rest := []) ⟨hx, hb, hml, hown, hts⟩ (c_Mo_pushed (l := l) (o := o) (D := D) (k := k) (ad_this := ad_this) hw) (cw_Mo_pushed hts kw5_186 ⟨by simp only [rm_Mo_statement, rm_Mo_pushed]; omega, by simp only [rm_Mo_statement, rm_Mo_pushed]; omega⟩) (va_recv hK hP (ci := 8) (q0 := 0) rfl rfl) (hP.sub [0, 1, 2, 3, 4, 5, 6, 7, 8, 9, 10, 11, 12, 13, 14, 15, 16, 17] rfl) hK hJ hS (va_free hD hS hA [0, 1, 2, 3, 4, 5, 6, 7, 8, 9, 10, 11, 12, 13, 14, 15, 16, 17] rfl) ((hD.sub [0, 1, 2, 3, 4, 5, 6, 7, 8, 9, 10, 11, 12, 13, 14, 15, 16, 17] (by decide) rfl).weaken (fun _ _ _ _ => trivial)) rfl hl.1 (Nat.le_of_ble_eq_true rfl) d_Mo_statement_232 ⟨Nat.le_of_ble_eq_true rfl, Nat.le_of_ble_eq_true rfl⟩) hP hD hS hA [0, 1, 2, 3, 4, 5, 6, 7, 8, 9, 10, 11, 12, 13, 14, 15, 16, 17] [] rfl rfl (by decide) (by decide) (fun _ => rfl) (fun r12 u12 H locs hw hP hD hS => ?_) (fun _ _ _ _ h9 => h9.elim)
          have hP : va_P D vwCl (w_Mo k ad_this u12) H := hP.sub [0, 1, 2, 3, 4, 5, 6, 7, 8, 9, 10, 11, 12, 13, 14, 15, 16, 17] rfl
          have hD : va_D A (w_Mo k ad_this u12) := hD.sub [0, 1, 2, 3, 4, 5, 6, 7, 8, 9, 10, 11, 12, 13, 14, 15, 16, 17] (by decide) rfl
          refine lv_if_eq (tgt := 251) hx hb d_Mo_statement_235 (by decide) (fun hc => ?_) (fun hc => ?_)
          · have hw := hw.1 hc
            exact t_Mo_statement_J251 (hrf := @hrf) hAt hK hJ hAe hA u12 (z_this.1.1.1.2.2.2 - (1000 : Int32)) z_this.1.1.2.2.1 u2.2.2.1.2.2.2 (0 : Int32) (1 : Int32) H locs ls (lv_sub hl [5, 4, 3, 2, 1, 0] rfl) hP hD hS hw
          · have hw := hw.2 hc
            refine lv_aload_n hx hb d_Mo_statement_238 rfl (lv_at hl 5 rfl) ?_
            refine lv_bipush (v := (59 : Int32)) hx hb d_Mo_statement_239 (by decide) ?_
            refine xq_go (wr := ([] : va_W)) (stk := fun r => .int r :: []) (xq_runV (As := [.int (59 : Int32)]) (rest := []) ⟨hx, hb, hml, hown, hts⟩ (c_Mo_over (l := l) (o := o) (D := D) (k := k) (ad_this := ad_this) hw) (cw_Mo_over hts kw5_123 ⟨by simp only [rm_Mo_statement, rm_Mo_over]; omega, by simp only [rm_Mo_statement, rm_Mo_over]; omega⟩) (va_recv hK hP (ci := 8) (q0 := 0) rfl rfl) (hP.sub [0, 1, 2, 3, 4, 5, 6, 7, 8, 9, 10, 11, 12, 13, 14, 15, 16, 17] rfl) hK hJ hS (va_free hD hS hA [0, 1, 2, 3, 4, 5, 6, 7, 8, 9, 10, 11, 12, 13, 14, 15, 16, 17] rfl) ((hD.sub [0, 1, 2, 3, 4, 5, 6, 7, 8, 9, 10, 11, 12, 13, 14, 15, 16, 17] (by decide) rfl).weaken (fun _ _ _ _ => trivial)) rfl hl.1 (Nat.le_of_ble_eq_true rfl) d_Mo_statement_241 ⟨Nat.le_of_ble_eq_true rfl, Nat.le_of_ble_eq_true rfl⟩) hP hD hS hA [0, 1, 2, 3, 4, 5, 6, 7, 8, 9, 10, 11, 12, 13, 14, 15, 16, 17] [] rfl rfl (by decide) (by decide) (fun _ => rfl) (fun r13 u13 H locs hw hP hD hS => ?_) (fun _ _ _ _ h9 => h9.elim)
            have hP : va_P D vwCl (w_Mo k ad_this u13) H := hP.sub [0, 1, 2, 3, 4, 5, 6, 7, 8, 9, 10, 11, 12, 13, 14, 15, 16, 17] rfl
            have hD : va_D A (w_Mo k ad_this u13) := hD.sub [0, 1, 2, 3, 4, 5, 6, 7, 8, 9, 10, 11, 12, 13, 14, 15, 16, 17] (by decide) rfl
            refine lv_if_eq (tgt := 251) hx hb d_Mo_statement_244 (by decide) (fun hc => ?_) (fun hc => ?_)
            · have hw := hw.1 hc
              exact t_Mo_statement_J251 (hrf := @hrf) hAt hK hJ hAe hA u13 (z_this.1.1.1.2.2.2 - (1000 : Int32)) z_this.1.1.2.2.1 u2.2.2.1.2.2.2 (0 : Int32) (1 : Int32) H locs ls (lv_sub hl [5, 4, 3, 2, 1, 0] rfl) hP hD hS hw
            · have hw := hw.2 hc
              refine lv_iconst (v := (1 : Int32)) hx hb d_Mo_statement_247 (by decide) ?_
              refine lv_goto (tgt := 252) hx hb d_Mo_statement_248 (by decide) ?_
              exact t_Mo_statement_J252 (hrf := @hrf) hAt hK hJ hAe hA u13 (z_this.1.1.1.2.2.2 - (1000 : Int32)) z_this.1.1.2.2.1 u2.2.2.1.2.2.2 (0 : Int32) (1 : Int32) (1 : Int32) H locs ls (lv_sub hl [5, 4, 3, 2, 1, 0] rfl) hP hD hS hw
        by_cases hc3 : (z_this.1.1.1.2.2.2 - (1000 : Int32)) = (13 : Int32)
        · have hw := hw.2.2.2.1 hc3
          refine W.eq (g2 := F0 m 52 ls ([.int (13 : Int32)])) (by rw [hc3]) ?_
          refine lv_tableIn (tgt := 120) hx hb d_Mo_statement_52 (by decide) (by decide) rfl (by decide) ?_
          exact t_Mo_statement_J120 (hrf := @hrf) hAt hK hJ hAe hA u2 (z_this.1.1.1.2.2.2 - (1000 : Int32)) z_this.1.1.2.2.1 u2.2.2.1.2.2.2 (0 : Int32) (1 : Int32) H locs ls (lv_sub hl [5, 4, 3, 2, 1, 0] rfl) hP hD hS hw
        by_cases hc4 : (z_this.1.1.1.2.2.2 - (1000 : Int32)) = (14 : Int32)
        · have hw := hw.2.2.2.2.1 hc4
          refine W.eq (g2 := F0 m 52 ls ([.int (14 : Int32)])) (by rw [hc4]) ?_
          refine lv_tableIn (tgt := 257) hx hb d_Mo_statement_52 (by decide) (by decide) rfl (by decide) ?_
          refine lv_aload_n hx hb d_Mo_statement_257 rfl (lv_at hl 5 rfl) ?_
          refine lv_aload_n hx hb d_Mo_statement_258 rfl (lv_at hl 5 rfl) ?_
          refine xq_go (wr := ([] : va_W)) (stk := fun r => .int r :: [.ref (ad_this 0)]) (xq_runV (As := []) (rest := [.ref (ad_this 0)]) ⟨hx, hb, hml, hown, hts⟩ (hrf (ad_this := ad_this) hw) (cw_Mo_block hts kw5_127 ⟨by simp only [rm_Mo_statement]; omega, by simp only [rm_Mo_statement]; omega⟩) (va_recv hK hP (ci := 8) (q0 := 0) rfl rfl) (hP.sub [0, 1, 2, 3, 4, 5, 6, 7, 8, 9, 10, 11, 12, 13, 14, 15, 16, 17] rfl) hK hJ hS (va_free hD hS hA [0, 1, 2, 3, 4, 5, 6, 7, 8, 9, 10, 11, 12, 13, 14, 15, 16, 17] rfl) ((hD.sub [0, 1, 2, 3, 4, 5, 6, 7, 8, 9, 10, 11, 12, 13, 14, 15, 16, 17] (by decide) rfl).weaken (fun _ _ _ _ => trivial)) rfl hl.1 (Nat.le_of_ble_eq_true rfl) d_Mo_statement_259 ⟨Nat.le_of_ble_eq_true rfl, Nat.le_of_ble_eq_true rfl⟩) hP hD hS hA [0, 1, 2, 3, 4, 5, 6, 7, 8, 9, 10, 11, 12, 13, 14, 15, 16, 17] [] rfl rfl (by decide) (by decide) (fun _ => rfl) (fun r14 u14 H locs hw hP hD hS => ?_) (fun _ _ _ _ h9 => h9.elim)
          have hP : va_P D vwCl (w_Mo k ad_this u14) H := hP.sub [0, 1, 2, 3, 4, 5, 6, 7, 8, 9, 10, 11, 12, 13, 14, 15, 16, 17] rfl
          have hD : va_D A (w_Mo k ad_this u14) := hD.sub [0, 1, 2, 3, 4, 5, 6, 7, 8, 9, 10, 11, 12, 13, 14, 15, 16, 17] (by decide) rfl
          refine xq_go (wr := ([] : va_W)) (stk := fun r => .int r :: []) (xq_runV (As := [.int r14]) (rest := []) ⟨hx, hb, hml, hown, hts⟩ (c_Mo_pushed (l := l) (o := o) (D := D) (k := k) (ad_this := ad_this) hw) (cw_Mo_pushed hts kw5_186 ⟨by simp only [rm_Mo_statement, rm_Mo_pushed]; omega, by simp only [rm_Mo_statement, rm_Mo_pushed]; omega⟩) (va_recv hK hP (ci := 8) (q0 := 0) rfl rfl) (hP.sub [0, 1, 2, 3, 4, 5, 6, 7, 8, 9, 10, 11, 12, 13, 14, 15, 16, 17] rfl) hK hJ hS (va_free hD hS hA [0, 1, 2, 3, 4, 5, 6, 7, 8, 9, 10, 11, 12, 13, 14, 15, 16, 17] rfl) ((hD.sub [0, 1, 2, 3, 4, 5, 6, 7, 8, 9, 10, 11, 12, 13, 14, 15, 16, 17] (by decide) rfl).weaken (fun _ _ _ _ => trivial)) rfl hl.1 (Nat.le_of_ble_eq_true rfl) d_Mo_statement_262 ⟨Nat.le_of_ble_eq_true rfl, Nat.le_of_ble_eq_true rfl⟩) hP hD hS hA [0, 1, 2, 3, 4, 5, 6, 7, 8, 9, 10, 11, 12, 13, 14, 15, 16, 17] [] rfl rfl (by decide) (by decide) (fun _ => rfl) (fun r15 u15 H locs hw hP hD hS => ?_) (fun _ _ _ _ h9 => h9.elim)
          have hP : va_P D vwCl (w_Mo k ad_this u15) H := hP.sub [0, 1, 2, 3, 4, 5, 6, 7, 8, 9, 10, 11, 12, 13, 14, 15, 16, 17] rfl
          have hD : va_D A (w_Mo k ad_this u15) := hD.sub [0, 1, 2, 3, 4, 5, 6, 7, 8, 9, 10, 11, 12, 13, 14, 15, 16, 17] (by decide) rfl
          refine lv_if_eq (tgt := 283) hx hb d_Mo_statement_265 (by decide) (fun hc => ?_) (fun hc => ?_)
          · have hw := hw.1 hc
            exact t_Mo_statement_J283 (hrf := @hrf) hAt hK hJ hAe hA u15 (z_this.1.1.1.2.2.2 - (1000 : Int32)) z_this.1.1.2.2.1 u2.2.2.1.2.2.2 (0 : Int32) (1 : Int32) H locs ls (lv_sub hl [5, 4, 3, 2, 1, 0] rfl) hP hD hS hw
          · have hw := hw.2 hc
            refine lv_aload_n hx hb d_Mo_statement_268 rfl (lv_at hl 5 rfl) ?_
            refine lv_aload_n hx hb d_Mo_statement_269 rfl (lv_at hl 5 rfl) ?_
            refine xq_go (wr := ([] : va_W)) (stk := fun r => .int r :: [.ref (ad_this 0)]) (xq_runV (As := []) (rest := [.ref (ad_this 0)]) ⟨hx, hb, hml, hown, hts⟩ (hrf (ad_this := ad_this) hw) (cw_Mo_block hts kw5_127 ⟨by simp only [rm_Mo_statement]; omega, by simp only [rm_Mo_statement]; omega⟩) (va_recv hK hP (ci := 8) (q0 := 0) rfl rfl) (hP.sub [0, 1, 2, 3, 4, 5, 6, 7, 8, 9, 10, 11, 12, 13, 14, 15, 16, 17] rfl) hK hJ hS (va_free hD hS hA [0, 1, 2, 3, 4, 5, 6, 7, 8, 9, 10, 11, 12, 13, 14, 15, 16, 17] rfl) ((hD.sub [0, 1, 2, 3, 4, 5, 6, 7, 8, 9, 10, 11, 12, 13, 14, 15, 16, 17] (by decide) rfl).weaken (fun _ _ _ _ => trivial)) rfl hl.1 (Nat.le_of_ble_eq_true rfl) d_Mo_statement_270 ⟨Nat.le_of_ble_eq_true rfl, Nat.le_of_ble_eq_true rfl⟩) hP hD hS hA [0, 1, 2, 3, 4, 5, 6, 7, 8, 9, 10, 11, 12, 13, 14, 15, 16, 17] [] rfl rfl (by decide) (by decide) (fun _ => rfl) (fun r18 u18 H locs hw hP hD hS => ?_) (fun _ _ _ _ h9 => h9.elim)
            have hP : va_P D vwCl (w_Mo k ad_this u18) H := hP.sub [0, 1, 2, 3, 4, 5, 6, 7, 8, 9, 10, 11, 12, 13, 14, 15, 16, 17] rfl
            have hD : va_D A (w_Mo k ad_this u18) := hD.sub [0, 1, 2, 3, 4, 5, 6, 7, 8, 9, 10, 11, 12, 13, 14, 15, 16, 17] (by decide) rfl
            refine xq_go (wr := ([] : va_W)) (stk := fun r => .int r :: []) (xq_runV (As := [.int r18]) (rest := []) ⟨hx, hb, hml, hown, hts⟩ (c_Mo_pushed (l := l) (o := o) (D := D) (k := k) (ad_this := ad_this) hw) (cw_Mo_pushed hts kw5_186 ⟨by simp only [rm_Mo_statement, rm_Mo_pushed]; omega, by simp only [rm_Mo_statement, rm_Mo_pushed]; omega⟩) (va_recv hK hP (ci := 8) (q0 := 0) rfl rfl) (hP.sub [0, 1, 2, 3, 4, 5, 6, 7, 8, 9, 10, 11, 12, 13, 14, 15, 16, 17] rfl) hK hJ hS (va_free hD hS hA [0, 1, 2, 3, 4, 5, 6, 7, 8, 9, 10, 11, 12, 13, 14, 15, 16, 17] rfl) ((hD.sub [0, 1, 2, 3, 4, 5, 6, 7, 8, 9, 10, 11, 12, 13, 14, 15, 16, 17] (by decide) rfl).weaken (fun _ _ _ _ => trivial)) rfl hl.1 (Nat.le_of_ble_eq_true rfl) d_Mo_statement_273 ⟨Nat.le_of_ble_eq_true rfl, Nat.le_of_ble_eq_true rfl⟩) hP hD hS hA [0, 1, 2, 3, 4, 5, 6, 7, 8, 9, 10, 11, 12, 13, 14, 15, 16, 17] [] rfl rfl (by decide) (by decide) (fun _ => rfl) (fun r19 u19 H locs hw hP hD hS => ?_) (fun _ _ _ _ h9 => h9.elim)
            have hP : va_P D vwCl (w_Mo k ad_this u19) H := hP.sub [0, 1, 2, 3, 4, 5, 6, 7, 8, 9, 10, 11, 12, 13, 14, 15, 16, 17] rfl
            have hD : va_D A (w_Mo k ad_this u19) := hD.sub [0, 1, 2, 3, 4, 5, 6, 7, 8, 9, 10, 11, 12, 13, 14, 15, 16, 17] (by decide) rfl
            refine lv_if_eq (tgt := 283) hx hb d_Mo_statement_276 (by decide) (fun hc => ?_) (fun hc => ?_)
            · have hw := hw.1 hc
              exact t_Mo_statement_J283 (hrf := @hrf) hAt hK hJ hAe hA u19 (z_this.1.1.1.2.2.2 - (1000 : Int32)) z_this.1.1.2.2.1 u2.2.2.1.2.2.2 (0 : Int32) (1 : Int32) H locs ls (lv_sub hl [5, 4, 3, 2, 1, 0] rfl) hP hD hS hw
            · have hw := hw.2 hc
              refine lv_iconst (v := (1 : Int32)) hx hb d_Mo_statement_279 (by decide) ?_
              refine lv_goto (tgt := 284) hx hb d_Mo_statement_280 (by decide) ?_
              exact t_Mo_statement_J284 (hrf := @hrf) hAt hK hJ hAe hA u19 (z_this.1.1.1.2.2.2 - (1000 : Int32)) z_this.1.1.2.2.1 u2.2.2.1.2.2.2 (0 : Int32) (1 : Int32) (1 : Int32) H locs ls (lv_sub hl [5, 4, 3, 2, 1, 0] rfl) hP hD hS hw
        by_cases hc5 : (z_this.1.1.1.2.2.2 - (1000 : Int32)) = (15 : Int32)
        · have hw := hw.2.2.2.2.2.1 hc5
          refine W.eq (g2 := F0 m 52 ls ([.int (15 : Int32)])) (by rw [hc5]) ?_
          refine lv_tableIn (tgt := 313) hx hb d_Mo_statement_52 (by decide) (by decide) rfl (by decide) ?_
          refine lv_aload_n hx hb d_Mo_statement_313 rfl (lv_at hl 5 rfl) ?_
          refine lv_aload_n hx hb d_Mo_statement_314 rfl (lv_at hl 5 rfl) ?_
          refine xq_go (wr := ([] : va_W)) (stk := fun r => .int r :: [.ref (ad_this 0)]) (xq_runV (As := []) (rest := [.ref (ad_this 0)]) ⟨hx, hb, hml, hown, hts⟩ (c_Mo_test (l := l) (o := o) (D := D) (k := k) (F := fFa d) (L := fLa d) (hrf := c_Mo_factor d) (ad_this := ad_this) hw) (cw_Mo_test hts kw5_182 ⟨by simp only [rm_Mo_statement, rm_Mo_test]; omega, by simp only [rm_Mo_statement, rm_Mo_test]; omega⟩) (va_recv hK hP (ci := 8) (q0 := 0) rfl rfl) (hP.sub [0, 1, 2, 3, 4, 5, 6, 7, 8, 9, 10, 11, 12, 13, 14, 15, 16, 17] rfl) hK hJ hS (va_free hD hS hA [0, 1, 2, 3, 4, 5, 6, 7, 8, 9, 10, 11, 12, 13, 14, 15, 16, 17] rfl) ((hD.sub [0, 1, 2, 3, 4, 5, 6, 7, 8, 9, 10, 11, 12, 13, 14, 15, 16, 17] (by decide) rfl).weaken (fun _ _ _ _ => trivial)) rfl hl.1 (Nat.le_of_ble_eq_true rfl) d_Mo_statement_315 ⟨Nat.le_of_ble_eq_true rfl, Nat.le_of_ble_eq_true rfl⟩) hP hD hS hA [0, 1, 2, 3, 4, 5, 6, 7, 8, 9, 10, 11, 12, 13, 14, 15, 16, 17] [] rfl rfl (by decide) (by decide) (fun _ => rfl) (fun r20 u20 H locs hw hP hD hS => ?_) (fun _ _ _ _ h9 => h9.elim)
          have hP : va_P D vwCl (w_Mo k ad_this u20) H := hP.sub [0, 1, 2, 3, 4, 5, 6, 7, 8, 9, 10, 11, 12, 13, 14, 15, 16, 17] rfl
          have hD : va_D A (w_Mo k ad_this u20) := hD.sub [0, 1, 2, 3, 4, 5, 6, 7, 8, 9, 10, 11, 12, 13, 14, 15, 16, 17] (by decide) rfl
          refine xq_go (wr := ([] : va_W)) (stk := fun r => .int r :: []) (xq_runV (As := [.int r20]) (rest := []) ⟨hx, hb, hml, hown, hts⟩ (c_Mo_pushed (l := l) (o := o) (D := D) (k := k) (ad_this := ad_this) hw) (cw_Mo_pushed hts kw5_186 ⟨by simp only [rm_Mo_statement, rm_Mo_pushed]; omega, by simp only [rm_Mo_statement, rm_Mo_pushed]; omega⟩) (va_recv hK hP (ci := 8) (q0 := 0) rfl rfl) (hP.sub [0, 1, 2, 3, 4, 5, 6, 7, 8, 9, 10, 11, 12, 13, 14, 15, 16, 17] rfl) hK hJ hS (va_free hD hS hA [0, 1, 2, 3, 4, 5, 6, 7, 8, 9, 10, 11, 12, 13, 14, 15, 16, 17] rfl) ((hD.sub [0, 1, 2, 3, 4, 5, 6, 7, 8, 9, 10, 11, 12, 13, 14, 15, 16, 17] (by decide) rfl).weaken (fun _ _ _ _ => trivial)) rfl hl.1 (Nat.le_of_ble_eq_true rfl) d_Mo_statement_318 ⟨Nat.le_of_ble_eq_true rfl, Nat.le_of_ble_eq_true rfl⟩) hP hD hS hA [0, 1, 2, 3, 4, 5, 6, 7, 8, 9, 10, 11, 12, 13, 14, 15, 16, 17] [] rfl rfl (by decide) (by decide) (fun _ => rfl) (fun r21 u21 H locs hw hP hD hS => ?_) (fun _ _ _ _ h9 => h9.elim)
          have hP : va_P D vwCl (w_Mo k ad_this u21) H := hP.sub [0, 1, 2, 3, 4, 5, 6, 7, 8, 9, 10, 11, 12, 13, 14, 15, 16, 17] rfl
          have hD : va_D A (w_Mo k ad_this u21) := hD.sub [0, 1, 2, 3, 4, 5, 6, 7, 8, 9, 10, 11, 12, 13, 14, 15, 16, 17] (by decide) rfl
          refine lv_if_eq (tgt := 339) hx hb d_Mo_statement_321 (by decide) (fun hc => ?_) (fun hc => ?_)
          · have hw := hw.1 hc
            exact t_Mo_statement_J339 (hrf := @hrf) hAt hK hJ hAe hA u21 (z_this.1.1.1.2.2.2 - (1000 : Int32)) z_this.1.1.2.2.1 u2.2.2.1.2.2.2 (0 : Int32) (1 : Int32) H locs ls (lv_sub hl [5, 4, 3, 2, 1, 0] rfl) hP hD hS hw
          · have hw := hw.2 hc
            refine lv_aload_n hx hb d_Mo_statement_324 rfl (lv_at hl 5 rfl) ?_
            refine lv_aload_n hx hb d_Mo_statement_325 rfl (lv_at hl 5 rfl) ?_
            refine xq_go (wr := ([] : va_W)) (stk := fun r => .int r :: [.ref (ad_this 0)]) (xq_runV (As := []) (rest := [.ref (ad_this 0)]) ⟨hx, hb, hml, hown, hts⟩ (hrf (ad_this := ad_this) hw) (cw_Mo_block hts kw5_127 ⟨by simp only [rm_Mo_statement]; omega, by simp only [rm_Mo_statement]; omega⟩) (va_recv hK hP (ci := 8) (q0 := 0) rfl rfl) (hP.sub [0, 1, 2, 3, 4, 5, 6, 7, 8, 9, 10, 11, 12, 13, 14, 15, 16, 17] rfl) hK hJ hS (va_free hD hS hA [0, 1, 2, 3, 4, 5, 6, 7, 8, 9, 10, 11, 12, 13, 14, 15, 16, 17] rfl) ((hD.sub [0, 1, 2, 3, 4, 5, 6, 7, 8, 9, 10, 11, 12, 13, 14, 15, 16, 17] (by decide) rfl).weaken (fun _ _ _ _ => trivial)) rfl hl.1 (Nat.le_of_ble_eq_true rfl) d_Mo_statement_326 ⟨Nat.le_of_ble_eq_true rfl, Nat.le_of_ble_eq_true rfl⟩) hP hD hS hA [0, 1, 2, 3, 4, 5, 6, 7, 8, 9, 10, 11, 12, 13, 14, 15, 16, 17] [] rfl rfl (by decide) (by decide) (fun _ => rfl) (fun r26 u26 H locs hw hP hD hS => ?_) (fun _ _ _ _ h9 => h9.elim)
            have hP : va_P D vwCl (w_Mo k ad_this u26) H := hP.sub [0, 1, 2, 3, 4, 5, 6, 7, 8, 9, 10, 11, 12, 13, 14, 15, 16, 17] rfl
            have hD : va_D A (w_Mo k ad_this u26) := hD.sub [0, 1, 2, 3, 4, 5, 6, 7, 8, 9, 10, 11, 12, 13, 14, 15, 16, 17] (by decide) rfl
            refine xq_go (wr := ([] : va_W)) (stk := fun r => .int r :: []) (xq_runV (As := [.int r26]) (rest := []) ⟨hx, hb, hml, hown, hts⟩ (c_Mo_pushed (l := l) (o := o) (D := D) (k := k) (ad_this := ad_this) hw) (cw_Mo_pushed hts kw5_186 ⟨by simp only [rm_Mo_statement, rm_Mo_pushed]; omega, by simp only [rm_Mo_statement, rm_Mo_pushed]; omega⟩) (va_recv hK hP (ci := 8) (q0 := 0) rfl rfl) (hP.sub [0, 1, 2, 3, 4, 5, 6, 7, 8, 9, 10, 11, 12, 13, 14, 15, 16, 17] rfl) hK hJ hS (va_free hD hS hA [0, 1, 2, 3, 4, 5, 6, 7, 8, 9, 10, 11, 12, 13, 14, 15, 16, 17] rfl) ((hD.sub [0, 1, 2, 3, 4, 5, 6, 7, 8, 9, 10, 11, 12, 13, 14, 15, 16, 17] (by decide) rfl).weaken (fun _ _ _ _ => trivial)) rfl hl.1 (Nat.le_of_ble_eq_true rfl) d_Mo_statement_329 ⟨Nat.le_of_ble_eq_true rfl, Nat.le_of_ble_eq_true rfl⟩) hP hD hS hA [0, 1, 2, 3, 4, 5, 6, 7, 8, 9, 10, 11, 12, 13, 14, 15, 16, 17] [] rfl rfl (by decide) (by decide) (fun _ => rfl) (fun r27 u27 H locs hw hP hD hS => ?_) (fun _ _ _ _ h9 => h9.elim)
            have hP : va_P D vwCl (w_Mo k ad_this u27) H := hP.sub [0, 1, 2, 3, 4, 5, 6, 7, 8, 9, 10, 11, 12, 13, 14, 15, 16, 17] rfl
            have hD : va_D A (w_Mo k ad_this u27) := hD.sub [0, 1, 2, 3, 4, 5, 6, 7, 8, 9, 10, 11, 12, 13, 14, 15, 16, 17] (by decide) rfl
            refine lv_if_eq (tgt := 339) hx hb d_Mo_statement_332 (by decide) (fun hc => ?_) (fun hc => ?_)
            · have hw := hw.1 hc
              exact t_Mo_statement_J339 (hrf := @hrf) hAt hK hJ hAe hA u27 (z_this.1.1.1.2.2.2 - (1000 : Int32)) z_this.1.1.2.2.1 u2.2.2.1.2.2.2 (0 : Int32) (1 : Int32) H locs ls (lv_sub hl [5, 4, 3, 2, 1, 0] rfl) hP hD hS hw
            · have hw := hw.2 hc
              refine lv_iconst (v := (1 : Int32)) hx hb d_Mo_statement_335 (by decide) ?_
              refine lv_goto (tgt := 340) hx hb d_Mo_statement_336 (by decide) ?_
              exact t_Mo_statement_J340 (hrf := @hrf) hAt hK hJ hAe hA u27 (z_this.1.1.1.2.2.2 - (1000 : Int32)) z_this.1.1.2.2.1 u2.2.2.1.2.2.2 (0 : Int32) (1 : Int32) (1 : Int32) H locs ls (lv_sub hl [5, 4, 3, 2, 1, 0] rfl) hP hD hS hw
        by_cases hc6 : (z_this.1.1.1.2.2.2 - (1000 : Int32)) = (16 : Int32)
        · have hw := hw.2.2.2.2.2.2.1 hc6
          refine W.eq (g2 := F0 m 52 ls ([.int (16 : Int32)])) (by rw [hc6]) ?_
          refine lv_tableIn (tgt := 384) hx hb d_Mo_statement_52 (by decide) (by decide) rfl (by decide) ?_
          refine lv_aload_n hx hb d_Mo_statement_384 rfl (lv_at hl 5 rfl) ?_
          refine lv_iconst (v := (0 : Int32)) hx hb d_Mo_statement_385 (by decide) ?_
          refine xq_go (wr := ([] : va_W)) (stk := fun r => .int r :: []) (xq_runV (As := [.int (0 : Int32)]) (rest := []) ⟨hx, hb, hml, hown, hts⟩ (c_Mo_sumOf (l := l) (o := o) (D := D) (k := k) (F := fFa d) (L := fLa d) (hrf := c_Mo_factor d) (ad_this := ad_this) hw) (cw_Mo_sumOf hts kw5_139 ⟨by simp only [rm_Mo_statement, rm_Mo_sumOf]; omega, by simp only [rm_Mo_statement, rm_Mo_sumOf]; omega⟩) (va_recv hK hP (ci := 8) (q0 := 0) rfl rfl) (hP.sub [0, 1, 2, 3, 4, 5, 6, 7, 8, 9, 10, 11, 12, 13, 14, 15, 16, 17] rfl) hK hJ hS (va_free hD hS hA [0, 1, 2, 3, 4, 5, 6, 7, 8, 9, 10, 11, 12, 13, 14, 15, 16, 17] rfl) ((hD.sub [0, 1, 2, 3, 4, 5, 6, 7, 8, 9, 10, 11, 12, 13, 14, 15, 16, 17] (by decide) rfl).weaken (fun _ _ _ _ => trivial)) rfl hl.1 (Nat.le_of_ble_eq_true rfl) d_Mo_statement_386 ⟨Nat.le_of_ble_eq_true rfl, Nat.le_of_ble_eq_true rfl⟩) hP hD hS hA [0, 1, 2, 3, 4, 5, 6, 7, 8, 9, 10, 11, 12, 13, 14, 15, 16, 17] [] rfl rfl (by decide) (by decide) (fun _ => rfl) (fun r28 u28 H locs hw hP hD hS => ?_) (fun _ _ _ _ h9 => h9.elim)
          have hP : va_P D vwCl (w_Mo k ad_this u28) H := hP.sub [0, 1, 2, 3, 4, 5, 6, 7, 8, 9, 10, 11, 12, 13, 14, 15, 16, 17] rfl
          have hD : va_D A (w_Mo k ad_this u28) := hD.sub [0, 1, 2, 3, 4, 5, 6, 7, 8, 9, 10, 11, 12, 13, 14, 15, 16, 17] (by decide) rfl
          refine lv_if_eq (tgt := 407) hx hb d_Mo_statement_389 (by decide) (fun hc => ?_) (fun hc => ?_)
          · have hw := hw.1 hc
            exact t_Mo_statement_J407 (hrf := @hrf) hAt hK hJ hAe hA u28 (z_this.1.1.1.2.2.2 - (1000 : Int32)) z_this.1.1.2.2.1 u2.2.2.1.2.2.2 (0 : Int32) (1 : Int32) H locs ls (lv_sub hl [5, 4, 3, 2, 1, 0] rfl) hP hD hS hw
          · have hw := hw.2 hc
            refine lv_aload_n hx hb d_Mo_statement_392 rfl (lv_at hl 5 rfl) ?_
            refine lv_aload_n hx hb d_Mo_statement_393 rfl (lv_at hl 5 rfl) ?_
            refine xq_go (wr := ([] : va_W)) (stk := fun r => .int r :: [.ref (ad_this 0)]) (xq_runV (As := []) (rest := [.ref (ad_this 0)]) ⟨hx, hb, hml, hown, hts⟩ (hrf (ad_this := ad_this) hw) (cw_Mo_block hts kw5_127 ⟨by simp only [rm_Mo_statement]; omega, by simp only [rm_Mo_statement]; omega⟩) (va_recv hK hP (ci := 8) (q0 := 0) rfl rfl) (hP.sub [0, 1, 2, 3, 4, 5, 6, 7, 8, 9, 10, 11, 12, 13, 14, 15, 16, 17] rfl) hK hJ hS (va_free hD hS hA [0, 1, 2, 3, 4, 5, 6, 7, 8, 9, 10, 11, 12, 13, 14, 15, 16, 17] rfl) ((hD.sub [0, 1, 2, 3, 4, 5, 6, 7, 8, 9, 10, 11, 12, 13, 14, 15, 16, 17] (by decide) rfl).weaken (fun _ _ _ _ => trivial)) rfl hl.1 (Nat.le_of_ble_eq_true rfl) d_Mo_statement_394 ⟨Nat.le_of_ble_eq_true rfl, Nat.le_of_ble_eq_true rfl⟩) hP hD hS hA [0, 1, 2, 3, 4, 5, 6, 7, 8, 9, 10, 11, 12, 13, 14, 15, 16, 17] [] rfl rfl (by decide) (by decide) (fun _ => rfl) (fun r29 u29 H locs hw hP hD hS => ?_) (fun _ _ _ _ h9 => h9.elim)
            have hP : va_P D vwCl (w_Mo k ad_this u29) H := hP.sub [0, 1, 2, 3, 4, 5, 6, 7, 8, 9, 10, 11, 12, 13, 14, 15, 16, 17] rfl
            have hD : va_D A (w_Mo k ad_this u29) := hD.sub [0, 1, 2, 3, 4, 5, 6, 7, 8, 9, 10, 11, 12, 13, 14, 15, 16, 17] (by decide) rfl
            refine xq_go (wr := ([] : va_W)) (stk := fun r => .int r :: []) (xq_runV (As := [.int r29]) (rest := []) ⟨hx, hb, hml, hown, hts⟩ (c_Mo_pushed (l := l) (o := o) (D := D) (k := k) (ad_this := ad_this) hw) (cw_Mo_pushed hts kw5_186 ⟨by simp only [rm_Mo_statement, rm_Mo_pushed]; omega, by simp only [rm_Mo_statement, rm_Mo_pushed]; omega⟩) (va_recv hK hP (ci := 8) (q0 := 0) rfl rfl) (hP.sub [0, 1, 2, 3, 4, 5, 6, 7, 8, 9, 10, 11, 12, 13, 14, 15, 16, 17] rfl) hK hJ hS (va_free hD hS hA [0, 1, 2, 3, 4, 5, 6, 7, 8, 9, 10, 11, 12, 13, 14, 15, 16, 17] rfl) ((hD.sub [0, 1, 2, 3, 4, 5, 6, 7, 8, 9, 10, 11, 12, 13, 14, 15, 16, 17] (by decide) rfl).weaken (fun _ _ _ _ => trivial)) rfl hl.1 (Nat.le_of_ble_eq_true rfl) d_Mo_statement_397 ⟨Nat.le_of_ble_eq_true rfl, Nat.le_of_ble_eq_true rfl⟩) hP hD hS hA [0, 1, 2, 3, 4, 5, 6, 7, 8, 9, 10, 11, 12, 13, 14, 15, 16, 17] [] rfl rfl (by decide) (by decide) (fun _ => rfl) (fun r30 u30 H locs hw hP hD hS => ?_) (fun _ _ _ _ h9 => h9.elim)
            have hP : va_P D vwCl (w_Mo k ad_this u30) H := hP.sub [0, 1, 2, 3, 4, 5, 6, 7, 8, 9, 10, 11, 12, 13, 14, 15, 16, 17] rfl
            have hD : va_D A (w_Mo k ad_this u30) := hD.sub [0, 1, 2, 3, 4, 5, 6, 7, 8, 9, 10, 11, 12, 13, 14, 15, 16, 17] (by decide) rfl
            refine lv_if_eq (tgt := 407) hx hb d_Mo_statement_400 (by decide) (fun hc => ?_) (fun hc => ?_)
            · have hw := hw.1 hc
              exact t_Mo_statement_J407 (hrf := @hrf) hAt hK hJ hAe hA u30 (z_this.1.1.1.2.2.2 - (1000 : Int32)) z_this.1.1.2.2.1 u2.2.2.1.2.2.2 (0 : Int32) (1 : Int32) H locs ls (lv_sub hl [5, 4, 3, 2, 1, 0] rfl) hP hD hS hw
            · have hw := hw.2 hc
              refine lv_iconst (v := (1 : Int32)) hx hb d_Mo_statement_403 (by decide) ?_
              refine lv_goto (tgt := 408) hx hb d_Mo_statement_404 (by decide) ?_
              exact t_Mo_statement_J408 (hrf := @hrf) hAt hK hJ hAe hA u30 (z_this.1.1.1.2.2.2 - (1000 : Int32)) z_this.1.1.2.2.1 u2.2.2.1.2.2.2 (0 : Int32) (1 : Int32) (1 : Int32) H locs ls (lv_sub hl [5, 4, 3, 2, 1, 0] rfl) hP hD hS hw
        by_cases hc7 : (z_this.1.1.1.2.2.2 - (1000 : Int32)) = (17 : Int32)
        · have hw := hw.2.2.2.2.2.2.2.1 hc7
          refine W.eq (g2 := F0 m 52 ls ([.int (17 : Int32)])) (by rw [hc7]) ?_
          refine lv_tableIn (tgt := 413) hx hb d_Mo_statement_52 (by decide) (by decide) rfl (by decide) ?_
          refine lv_aload_n hx hb d_Mo_statement_413 rfl (lv_at hl 5 rfl) ?_
          refine lv_aload_n hx hb d_Mo_statement_414 rfl (lv_at hl 5 rfl) ?_
          refine xq_go (wr := ([] : va_W)) (stk := fun r => .int r :: [.ref (ad_this 0)]) (xq_runV (As := []) (rest := [.ref (ad_this 0)]) ⟨hx, hb, hml, hown, hts⟩ (c_Mo_test (l := l) (o := o) (D := D) (k := k) (F := fFa d) (L := fLa d) (hrf := c_Mo_factor d) (ad_this := ad_this) hw) (cw_Mo_test hts kw5_182 ⟨by simp only [rm_Mo_statement, rm_Mo_test]; omega, by simp only [rm_Mo_statement, rm_Mo_test]; omega⟩) (va_recv hK hP (ci := 8) (q0 := 0) rfl rfl) (hP.sub [0, 1, 2, 3, 4, 5, 6, 7, 8, 9, 10, 11, 12, 13, 14, 15, 16, 17] rfl) hK hJ hS (va_free hD hS hA [0, 1, 2, 3, 4, 5, 6, 7, 8, 9, 10, 11, 12, 13, 14, 15, 16, 17] rfl) ((hD.sub [0, 1, 2, 3, 4, 5, 6, 7, 8, 9, 10, 11, 12, 13, 14, 15, 16, 17] (by decide) rfl).weaken (fun _ _ _ _ => trivial)) rfl hl.1 (Nat.le_of_ble_eq_true rfl) d_Mo_statement_415 ⟨Nat.le_of_ble_eq_true rfl, Nat.le_of_ble_eq_true rfl⟩) hP hD hS hA [0, 1, 2, 3, 4, 5, 6, 7, 8, 9, 10, 11, 12, 13, 14, 15, 16, 17] [] rfl rfl (by decide) (by decide) (fun _ => rfl) (fun r31 u31 H locs hw hP hD hS => ?_) (fun _ _ _ _ h9 => h9.elim)
          have hP : va_P D vwCl (w_Mo k ad_this u31) H := hP.sub [0, 1, 2, 3, 4, 5, 6, 7, 8, 9, 10, 11, 12, 13, 14, 15, 16, 17] rfl
          have hD : va_D A (w_Mo k ad_this u31) := hD.sub [0, 1, 2, 3, 4, 5, 6, 7, 8, 9, 10, 11, 12, 13, 14, 15, 16, 17] (by decide) rfl
          refine xq_go (wr := ([] : va_W)) (stk := fun r => .int r :: []) (xq_runV (As := [.int r31]) (rest := []) ⟨hx, hb, hml, hown, hts⟩ (c_Mo_pushed (l := l) (o := o) (D := D) (k := k) (ad_this := ad_this) hw) (cw_Mo_pushed hts kw5_186 ⟨by simp only [rm_Mo_statement, rm_Mo_pushed]; omega, by simp only [rm_Mo_statement, rm_Mo_pushed]; omega⟩) (va_recv hK hP (ci := 8) (q0 := 0) rfl rfl) (hP.sub [0, 1, 2, 3, 4, 5, 6, 7, 8, 9, 10, 11, 12, 13, 14, 15, 16, 17] rfl) hK hJ hS (va_free hD hS hA [0, 1, 2, 3, 4, 5, 6, 7, 8, 9, 10, 11, 12, 13, 14, 15, 16, 17] rfl) ((hD.sub [0, 1, 2, 3, 4, 5, 6, 7, 8, 9, 10, 11, 12, 13, 14, 15, 16, 17] (by decide) rfl).weaken (fun _ _ _ _ => trivial)) rfl hl.1 (Nat.le_of_ble_eq_true rfl) d_Mo_statement_418 ⟨Nat.le_of_ble_eq_true rfl, Nat.le_of_ble_eq_true rfl⟩) hP hD hS hA [0, 1, 2, 3, 4, 5, 6, 7, 8, 9, 10, 11, 12, 13, 14, 15, 16, 17] [] rfl rfl (by decide) (by decide) (fun _ => rfl) (fun r32 u32 H locs hw hP hD hS => ?_) (fun _ _ _ _ h9 => h9.elim)
          have hP : va_P D vwCl (w_Mo k ad_this u32) H := hP.sub [0, 1, 2, 3, 4, 5, 6, 7, 8, 9, 10, 11, 12, 13, 14, 15, 16, 17] rfl
          have hD : va_D A (w_Mo k ad_this u32) := hD.sub [0, 1, 2, 3, 4, 5, 6, 7, 8, 9, 10, 11, 12, 13, 14, 15, 16, 17] (by decide) rfl
          refine lv_if_eq (tgt := 460) hx hb d_Mo_statement_421 (by decide) (fun hc => ?_) (fun hc => ?_)
          · have hw := hw.1 hc
            exact t_Mo_statement_J460 (hrf := @hrf) hAt hK hJ hAe hA u32 (z_this.1.1.1.2.2.2 - (1000 : Int32)) z_this.1.1.2.2.1 u2.2.2.1.2.2.2 (0 : Int32) (1 : Int32) H locs ls (lv_sub hl [5, 4, 3, 2, 1, 0] rfl) hP hD hS hw
          · have hw := hw.2 hc
            refine lv_aload_n hx hb d_Mo_statement_424 rfl (lv_at hl 5 rfl) ?_
            refine lv_aload_n hx hb d_Mo_statement_425 rfl (lv_at hl 5 rfl) ?_
            refine xq_go (wr := ([] : va_W)) (stk := fun r => .int r :: [.ref (ad_this 0)]) (xq_runV (As := []) (rest := [.ref (ad_this 0)]) ⟨hx, hb, hml, hown, hts⟩ (hrf (ad_this := ad_this) hw) (cw_Mo_block hts kw5_127 ⟨by simp only [rm_Mo_statement]; omega, by simp only [rm_Mo_statement]; omega⟩) (va_recv hK hP (ci := 8) (q0 := 0) rfl rfl) (hP.sub [0, 1, 2, 3, 4, 5, 6, 7, 8, 9, 10, 11, 12, 13, 14, 15, 16, 17] rfl) hK hJ hS (va_free hD hS hA [0, 1, 2, 3, 4, 5, 6, 7, 8, 9, 10, 11, 12, 13, 14, 15, 16, 17] rfl) ((hD.sub [0, 1, 2, 3, 4, 5, 6, 7, 8, 9, 10, 11, 12, 13, 14, 15, 16, 17] (by decide) rfl).weaken (fun _ _ _ _ => trivial)) rfl hl.1 (Nat.le_of_ble_eq_true rfl) d_Mo_statement_426 ⟨Nat.le_of_ble_eq_true rfl, Nat.le_of_ble_eq_true rfl⟩) hP hD hS hA [0, 1, 2, 3, 4, 5, 6, 7, 8, 9, 10, 11, 12, 13, 14, 15, 16, 17] [] rfl rfl (by decide) (by decide) (fun _ => rfl) (fun r33 u33 H locs hw hP hD hS => ?_) (fun _ _ _ _ h9 => h9.elim)
            have hP : va_P D vwCl (w_Mo k ad_this u33) H := hP.sub [0, 1, 2, 3, 4, 5, 6, 7, 8, 9, 10, 11, 12, 13, 14, 15, 16, 17] rfl
            have hD : va_D A (w_Mo k ad_this u33) := hD.sub [0, 1, 2, 3, 4, 5, 6, 7, 8, 9, 10, 11, 12, 13, 14, 15, 16, 17] (by decide) rfl
            refine xq_go (wr := ([] : va_W)) (stk := fun r => .int r :: []) (xq_runV (As := [.int r33]) (rest := []) ⟨hx, hb, hml, hown, hts⟩ (c_Mo_pushed (l := l) (o := o) (D := D) (k := k) (ad_this := ad_this) hw) (cw_Mo_pushed hts kw5_186 ⟨by simp only [rm_Mo_statement, rm_Mo_pushed]; omega, by simp only [rm_Mo_statement, rm_Mo_pushed]; omega⟩) (va_recv hK hP (ci := 8) (q0 := 0) rfl rfl) (hP.sub [0, 1, 2, 3, 4, 5, 6, 7, 8, 9, 10, 11, 12, 13, 14, 15, 16, 17] rfl) hK hJ hS (va_free hD hS hA [0, 1, 2, 3, 4, 5, 6, 7, 8, 9, 10, 11, 12, 13, 14, 15, 16, 17] rfl) ((hD.sub [0, 1, 2, 3, 4, 5, 6, 7, 8, 9, 10, 11, 12, 13, 14, 15, 16, 17] (by decide) rfl).weaken (fun _ _ _ _ => trivial)) rfl hl.1 (Nat.le_of_ble_eq_true rfl) d_Mo_statement_429 ⟨Nat.le_of_ble_eq_true rfl, Nat.le_of_ble_eq_true rfl⟩) hP hD hS hA [0, 1, 2, 3, 4, 5, 6, 7, 8, 9, 10, 11, 12, 13, 14, 15, 16, 17] [] rfl rfl (by decide) (by decide) (fun _ => rfl) (fun r34 u34 H locs hw hP hD hS => ?_) (fun _ _ _ _ h9 => h9.elim)
            have hP : va_P D vwCl (w_Mo k ad_this u34) H := hP.sub [0, 1, 2, 3, 4, 5, 6, 7, 8, 9, 10, 11, 12, 13, 14, 15, 16, 17] rfl
            have hD : va_D A (w_Mo k ad_this u34) := hD.sub [0, 1, 2, 3, 4, 5, 6, 7, 8, 9, 10, 11, 12, 13, 14, 15, 16, 17] (by decide) rfl
            refine lv_if_eq (tgt := 460) hx hb d_Mo_statement_432 (by decide) (fun hc => ?_) (fun hc => ?_)
            · have hw := hw.1 hc
              exact t_Mo_statement_J460 (hrf := @hrf) hAt hK hJ hAe hA u34 (z_this.1.1.1.2.2.2 - (1000 : Int32)) z_this.1.1.2.2.1 u2.2.2.1.2.2.2 (0 : Int32) (1 : Int32) H locs ls (lv_sub hl [5, 4, 3, 2, 1, 0] rfl) hP hD hS hw
            · have hw := hw.2 hc
              refine lv_aload_n hx hb d_Mo_statement_435 rfl (lv_at hl 5 rfl) ?_
              refine lv_sipush (v := (1034 : Int32)) hx hb d_Mo_statement_436 (by decide) ?_
              refine xq_go (wr := ([] : va_W)) (stk := fun r => .int r :: []) (xq_runV (As := [.int (1034 : Int32)]) (rest := []) ⟨hx, hb, hml, hown, hts⟩ (c_Mo_over (l := l) (o := o) (D := D) (k := k) (ad_this := ad_this) hw) (cw_Mo_over hts kw5_123 ⟨by simp only [rm_Mo_statement, rm_Mo_over]; omega, by simp only [rm_Mo_statement, rm_Mo_over]; omega⟩) (va_recv hK hP (ci := 8) (q0 := 0) rfl rfl) (hP.sub [0, 1, 2, 3, 4, 5, 6, 7, 8, 9, 10, 11, 12, 13, 14, 15, 16, 17] rfl) hK hJ hS (va_free hD hS hA [0, 1, 2, 3, 4, 5, 6, 7, 8, 9, 10, 11, 12, 13, 14, 15, 16, 17] rfl) ((hD.sub [0, 1, 2, 3, 4, 5, 6, 7, 8, 9, 10, 11, 12, 13, 14, 15, 16, 17] (by decide) rfl).weaken (fun _ _ _ _ => trivial)) rfl hl.1 (Nat.le_of_ble_eq_true rfl) d_Mo_statement_439 ⟨Nat.le_of_ble_eq_true rfl, Nat.le_of_ble_eq_true rfl⟩) hP hD hS hA [0, 1, 2, 3, 4, 5, 6, 7, 8, 9, 10, 11, 12, 13, 14, 15, 16, 17] [] rfl rfl (by decide) (by decide) (fun _ => rfl) (fun r35 u35 H locs hw hP hD hS => ?_) (fun _ _ _ _ h9 => h9.elim)
              have hP : va_P D vwCl (w_Mo k ad_this u35) H := hP.sub [0, 1, 2, 3, 4, 5, 6, 7, 8, 9, 10, 11, 12, 13, 14, 15, 16, 17] rfl
              have hD : va_D A (w_Mo k ad_this u35) := hD.sub [0, 1, 2, 3, 4, 5, 6, 7, 8, 9, 10, 11, 12, 13, 14, 15, 16, 17] (by decide) rfl
              refine lv_if_eq (tgt := 460) hx hb d_Mo_statement_442 (by decide) (fun hc => ?_) (fun hc => ?_)
              · have hw := hw.1 hc
                exact t_Mo_statement_J460 (hrf := @hrf) hAt hK hJ hAe hA u35 (z_this.1.1.1.2.2.2 - (1000 : Int32)) z_this.1.1.2.2.1 u2.2.2.1.2.2.2 (0 : Int32) (1 : Int32) H locs ls (lv_sub hl [5, 4, 3, 2, 1, 0] rfl) hP hD hS hw
              · have hw := hw.2 hc
                refine lv_aload_n hx hb d_Mo_statement_445 rfl (lv_at hl 5 rfl) ?_
                refine lv_aload_n hx hb d_Mo_statement_446 rfl (lv_at hl 5 rfl) ?_
                refine xq_go (wr := ([] : va_W)) (stk := fun r => .int r :: [.ref (ad_this 0)]) (xq_runV (As := []) (rest := [.ref (ad_this 0)]) ⟨hx, hb, hml, hown, hts⟩ (hrf (ad_this := ad_this) hw) (cw_Mo_block hts kw5_127 ⟨by simp only [rm_Mo_statement]; omega, by simp only [rm_Mo_statement]; omega⟩) (va_recv hK hP (ci := 8) (q0 := 0) rfl rfl) (hP.sub [0, 1, 2, 3, 4, 5, 6, 7, 8, 9, 10, 11, 12, 13, 14, 15, 16, 17] rfl) hK hJ hS (va_free hD hS hA [0, 1, 2, 3, 4, 5, 6, 7, 8, 9, 10, 11, 12, 13, 14, 15, 16, 17] rfl) ((hD.sub [0, 1, 2, 3, 4, 5, 6, 7, 8, 9, 10, 11, 12, 13, 14, 15, 16, 17] (by decide) rfl).weaken (fun _ _ _ _ => trivial)) rfl hl.1 (Nat.le_of_ble_eq_true rfl) d_Mo_statement_447 ⟨Nat.le_of_ble_eq_true rfl, Nat.le_of_ble_eq_true rfl⟩) hP hD hS hA [0, 1, 2, 3, 4, 5, 6, 7, 8, 9, 10, 11, 12, 13, 14, 15, 16, 17] [] rfl rfl (by decide) (by decide) (fun _ => rfl) (fun r36 u36 H locs hw hP hD hS => ?_) (fun _ _ _ _ h9 => h9.elim)
                have hP : va_P D vwCl (w_Mo k ad_this u36) H := hP.sub [0, 1, 2, 3, 4, 5, 6, 7, 8, 9, 10, 11, 12, 13, 14, 15, 16, 17] rfl
                have hD : va_D A (w_Mo k ad_this u36) := hD.sub [0, 1, 2, 3, 4, 5, 6, 7, 8, 9, 10, 11, 12, 13, 14, 15, 16, 17] (by decide) rfl
                refine xq_go (wr := ([] : va_W)) (stk := fun r => .int r :: []) (xq_runV (As := [.int r36]) (rest := []) ⟨hx, hb, hml, hown, hts⟩ (c_Mo_pushed (l := l) (o := o) (D := D) (k := k) (ad_this := ad_this) hw) (cw_Mo_pushed hts kw5_186 ⟨by simp only [rm_Mo_statement, rm_Mo_pushed]; omega, by simp only [rm_Mo_statement, rm_Mo_pushed]; omega⟩) (va_recv hK hP (ci := 8) (q0 := 0) rfl rfl) (hP.sub [0, 1, 2, 3, 4, 5, 6, 7, 8, 9, 10, 11, 12, 13, 14, 15, 16, 17] rfl) hK hJ hS (va_free hD hS hA [0, 1, 2, 3, 4, 5, 6, 7, 8, 9, 10, 11, 12, 13, 14, 15, 16, 17] rfl) ((hD.sub [0, 1, 2, 3, 4, 5, 6, 7, 8, 9, 10, 11, 12, 13, 14, 15, 16, 17] (by decide) rfl).weaken (fun _ _ _ _ => trivial)) rfl hl.1 (Nat.le_of_ble_eq_true rfl) d_Mo_statement_450 ⟨Nat.le_of_ble_eq_true rfl, Nat.le_of_ble_eq_true rfl⟩) hP hD hS hA [0, 1, 2, 3, 4, 5, 6, 7, 8, 9, 10, 11, 12, 13, 14, 15, 16, 17] [] rfl rfl (by decide) (by decide) (fun _ => rfl) (fun r37 u37 H locs hw hP hD hS => ?_) (fun _ _ _ _ h9 => h9.elim)
                have hP : va_P D vwCl (w_Mo k ad_this u37) H := hP.sub [0, 1, 2, 3, 4, 5, 6, 7, 8, 9, 10, 11, 12, 13, 14, 15, 16, 17] rfl
                have hD : va_D A (w_Mo k ad_this u37) := hD.sub [0, 1, 2, 3, 4, 5, 6, 7, 8, 9, 10, 11, 12, 13, 14, 15, 16, 17] (by decide) rfl
                refine lv_if_eq (tgt := 460) hx hb d_Mo_statement_453 (by decide) (fun hc => ?_) (fun hc => ?_)
                · have hw := hw.1 hc
                  exact t_Mo_statement_J460 (hrf := @hrf) hAt hK hJ hAe hA u37 (z_this.1.1.1.2.2.2 - (1000 : Int32)) z_this.1.1.2.2.1 u2.2.2.1.2.2.2 (0 : Int32) (1 : Int32) H locs ls (lv_sub hl [5, 4, 3, 2, 1, 0] rfl) hP hD hS hw
                · have hw := hw.2 hc
                  refine lv_iconst (v := (1 : Int32)) hx hb d_Mo_statement_456 (by decide) ?_
                  refine lv_goto (tgt := 461) hx hb d_Mo_statement_457 (by decide) ?_
                  exact t_Mo_statement_J461 (hrf := @hrf) hAt hK hJ hAe hA u37 (z_this.1.1.1.2.2.2 - (1000 : Int32)) z_this.1.1.2.2.1 u2.2.2.1.2.2.2 (0 : Int32) (1 : Int32) (1 : Int32) H locs ls (lv_sub hl [5, 4, 3, 2, 1, 0] rfl) hP hD hS hw
        by_cases hc8 : (z_this.1.1.1.2.2.2 - (1000 : Int32)) = (18 : Int32)
        · have hw := hw.2.2.2.2.2.2.2.2.1 hc8
          refine W.eq (g2 := F0 m 52 ls ([.int (18 : Int32)])) (by rw [hc8]) ?_
          refine lv_tableIn (tgt := 466) hx hb d_Mo_statement_52 (by decide) (by decide) rfl (by decide) ?_
          exact t_Mo_statement_J466 (hrf := @hrf) hAt hK hJ hAe hA u2 (z_this.1.1.1.2.2.2 - (1000 : Int32)) z_this.1.1.2.2.1 u2.2.2.1.2.2.2 (0 : Int32) (1 : Int32) H locs ls (lv_sub hl [5, 4, 3, 2, 1, 0] rfl) hP hD hS hw
        by_cases hc9 : (z_this.1.1.1.2.2.2 - (1000 : Int32)) = (19 : Int32)
        · have hw := hw.2.2.2.2.2.2.2.2.2.1 hc9
          refine W.eq (g2 := F0 m 52 ls ([.int (19 : Int32)])) (by rw [hc9]) ?_
          refine lv_tableIn (tgt := 466) hx hb d_Mo_statement_52 (by decide) (by decide) rfl (by decide) ?_
          exact t_Mo_statement_J466 (hrf := @hrf) hAt hK hJ hAe hA u2 (z_this.1.1.1.2.2.2 - (1000 : Int32)) z_this.1.1.2.2.1 u2.2.2.1.2.2.2 (0 : Int32) (1 : Int32) H locs ls (lv_sub hl [5, 4, 3, 2, 1, 0] rfl) hP hD hS hw
        by_cases hc10 : (z_this.1.1.1.2.2.2 - (1000 : Int32)) = (22 : Int32)
        · have hw := hw.2.2.2.2.2.2.2.2.2.2.1 hc10
          refine W.eq (g2 := F0 m 52 ls ([.int (22 : Int32)])) (by rw [hc10]) ?_
          refine lv_tableIn (tgt := 509) hx hb d_Mo_statement_52 (by decide) (by decide) rfl (by decide) ?_
          refine lv_aload_n hx hb d_Mo_statement_509 rfl (lv_at hl 5 rfl) ?_
          refine va_get (D := D) (ci := 8) (v := .int u2.1.1.1.2.2.2) (C := R_Mo) (T := F_Mo) (N := 42) hx hb hts in_Mo hown hK hP 0 rfl rfl 4 (by decide) (hts (.fieldLink R_Mo 145 R_Mo "token" "I") kw4_147) (fun _ h9 => h9) rfl d_Mo_statement_510 ?_
          refine lv_sipush (v := (2000 : Int32)) hx hb d_Mo_statement_513 (by decide) ?_
          refine lv_icmp_ne (tgt := 537) hx hb d_Mo_statement_516 (by decide) (fun hc => ?_) (fun hc => ?_)
          · have hw := hw.2 hc
            exact t_Mo_statement_J537 (hrf := @hrf) hAt hK hJ hAe hA u2 (z_this.1.1.1.2.2.2 - (1000 : Int32)) z_this.1.1.2.2.1 u2.2.2.1.2.2.2 (0 : Int32) (1 : Int32) H locs ls (lv_sub hl [5, 4, 3, 2, 1, 0] rfl) hP hD hS hw
          · have hw := hw.1 hc
            refine lv_aload_n hx hb d_Mo_statement_519 rfl (lv_at hl 5 rfl) ?_
            refine va_get (D := D) (ci := 8) (v := .int u2.1.1.2.2.2.2) (C := R_Mo) (T := F_Mo) (N := 42) hx hb hts in_Mo hown hK hP 0 rfl rfl 9 (by decide) (hts (.fieldLink R_Mo 175 R_Mo "pointed" "Z") kw4_152) (fun _ h9 => h9) rfl d_Mo_statement_520 ?_
            refine lv_if_ne (tgt := 537) hx hb d_Mo_statement_523 (by decide) (fun hc => ?_) (fun hc => ?_)
            · have hw := hw.2 hc
              exact t_Mo_statement_J537 (hrf := @hrf) hAt hK hJ hAe hA u2 (z_this.1.1.1.2.2.2 - (1000 : Int32)) z_this.1.1.2.2.1 u2.2.2.1.2.2.2 (0 : Int32) (1 : Int32) H locs ls (lv_sub hl [5, 4, 3, 2, 1, 0] rfl) hP hD hS hw
            · have hw := hw.1 hc
              refine lv_aload_n hx hb d_Mo_statement_526 rfl (lv_at hl 5 rfl) ?_
              refine va_get (D := D) (ci := 8) (v := .long u2.1.1.2.2.2.1) (C := R_Mo) (T := F_Mo) (N := 42) hx hb hts in_Mo hown hK hP 0 rfl rfl 8 (by decide) (hts (.fieldLink R_Mo 165 R_Mo "value" "J") kw4_151) (fun _ h9 => h9) rfl d_Mo_statement_527 ?_
              refine lv_ldc2 (v := (64000 : Int64)) hx hb hown (hts (.constantLong R_Mo 272 (64000)) kw5_190) d_Mo_statement_530 ?_
              refine W.lcmp hx hb d_Mo_statement_533 ?_
              refine lv_if_lt (tgt := 542) hx hb d_Mo_statement_534 (by decide) (fun hc => ?_) (fun hc => ?_)
              · have hw := hw.1 hc
                refine lv_aload_n hx hb d_Mo_statement_542 rfl (lv_at hl 5 rfl) ?_
                refine va_get (D := D) (ci := 8) (v := .long u2.1.1.2.2.2.1) (C := R_Mo) (T := F_Mo) (N := 42) hx hb hts in_Mo hown hK hP 0 rfl rfl 8 (by decide) (hts (.fieldLink R_Mo 165 R_Mo "value" "J") kw4_151) (fun _ h9 => h9) rfl d_Mo_statement_543 ?_
                refine lv_ldc2 (v := (1000 : Int64)) hx hb hown (hts (.constantLong R_Mo 173 (1000)) kw5_62) d_Mo_statement_546 ?_
                refine lv_ldiv hx hb d_Mo_statement_549 (by decide) ?_
                refine lv_l2i hx hb d_Mo_statement_550 rfl ?_
                refine lv_istore (lv' := [(4, .int ((u2.1.1.2.2.2.1 / (1000 : Int64))).toInt32), (5, .int (1 : Int32)), (3, .int u2.2.2.1.2.2.2), (2, .int z_this.1.1.2.2.1), (1, .int (z_this.1.1.1.2.2.2 - (1000 : Int32))), (0, .ref (ad_this 0))]) hx hb d_Mo_statement_551 hl (by decide) rfl (fun ls hl => ?_)
                refine lv_aload_n hx hb d_Mo_statement_553 rfl (lv_at hl 5 rfl) ?_
                refine xq_go (wr := ([] : va_W)) (stk := fun r => .int r :: []) (xq_runV (As := []) (rest := []) ⟨hx, hb, hml, hown, hts⟩ (c_Mo_go (l := l) (o := o) (D := D) (k := k) (ad_this := ad_this) hw) (cw_Mo_go hts kw5_42 ⟨by simp only [rm_Mo_statement, rm_Mo_go]; omega, by simp only [rm_Mo_statement, rm_Mo_go]; omega⟩) (va_recv hK hP (ci := 8) (q0 := 0) rfl rfl) (hP.sub [0, 1, 2, 3, 4, 5, 6, 7, 8, 9, 10, 11, 12, 13, 14, 15, 16, 17] rfl) hK hJ hS (va_free hD hS hA [0, 1, 2, 3, 4, 5, 6, 7, 8, 9, 10, 11, 12, 13, 14, 15, 16, 17] rfl) ((hD.sub [0, 1, 2, 3, 4, 5, 6, 7, 8, 9, 10, 11, 12, 13, 14, 15, 16, 17] (by decide) rfl).weaken (fun _ _ _ _ => trivial)) rfl hl.1 (Nat.le_of_ble_eq_true rfl) d_Mo_statement_554 ⟨Nat.le_of_ble_eq_true rfl, Nat.le_of_ble_eq_true rfl⟩) hP hD hS hA [0, 1, 2, 3, 4, 5, 6, 7, 8, 9, 10, 11, 12, 13, 14, 15, 16, 17] [] rfl rfl (by decide) (by decide) (fun _ => rfl) (fun r41 u41 H locs hw hP hD hS => ?_) (fun _ _ _ _ h9 => h9.elim)
                have hP : va_P D vwCl (w_Mo k ad_this u41) H := hP.sub [0, 1, 2, 3, 4, 5, 6, 7, 8, 9, 10, 11, 12, 13, 14, 15, 16, 17] rfl
                have hD : va_D A (w_Mo k ad_this u41) := hD.sub [0, 1, 2, 3, 4, 5, 6, 7, 8, 9, 10, 11, 12, 13, 14, 15, 16, 17] (by decide) rfl
                refine lv_if_eq (tgt := 573) hx hb d_Mo_statement_557 (by decide) (fun hc => ?_) (fun hc => ?_)
                · have hw := hw.1 hc
                  exact t_Mo_statement_J573 (hrf := @hrf) hAt hK hJ hAe hA u41 (z_this.1.1.1.2.2.2 - (1000 : Int32)) z_this.1.1.2.2.1 u2.2.2.1.2.2.2 (((u2.1.1.2.2.2.1 / (1000 : Int64))).toInt32) (1 : Int32) H locs ls (lv_sub hl [5, 4, 3, 2, 0, 1] rfl) hP hD hS hw
                · have hw := hw.2 hc
                  refine lv_aload_n hx hb d_Mo_statement_560 rfl (lv_at hl 5 rfl) ?_
                  refine lv_bipush (v := (59 : Int32)) hx hb d_Mo_statement_561 (by decide) ?_
                  refine xq_go (wr := ([] : va_W)) (stk := fun r => .int r :: []) (xq_runV (As := [.int (59 : Int32)]) (rest := []) ⟨hx, hb, hml, hown, hts⟩ (c_Mo_over (l := l) (o := o) (D := D) (k := k) (ad_this := ad_this) hw) (cw_Mo_over hts kw5_123 ⟨by simp only [rm_Mo_statement, rm_Mo_over]; omega, by simp only [rm_Mo_statement, rm_Mo_over]; omega⟩) (va_recv hK hP (ci := 8) (q0 := 0) rfl rfl) (hP.sub [0, 1, 2, 3, 4, 5, 6, 7, 8, 9, 10, 11, 12, 13, 14, 15, 16, 17] rfl) hK hJ hS (va_free hD hS hA [0, 1, 2, 3, 4, 5, 6, 7, 8, 9, 10, 11, 12, 13, 14, 15, 16, 17] rfl) ((hD.sub [0, 1, 2, 3, 4, 5, 6, 7, 8, 9, 10, 11, 12, 13, 14, 15, 16, 17] (by decide) rfl).weaken (fun _ _ _ _ => trivial)) rfl hl.1 (Nat.le_of_ble_eq_true rfl) d_Mo_statement_563 ⟨Nat.le_of_ble_eq_true rfl, Nat.le_of_ble_eq_true rfl⟩) hP hD hS hA [0, 1, 2, 3, 4, 5, 6, 7, 8, 9, 10, 11, 12, 13, 14, 15, 16, 17] [] rfl rfl (by decide) (by decide) (fun _ => rfl) (fun r42 u42 H locs hw hP hD hS => ?_) (fun _ _ _ _ h9 => h9.elim)
                  have hP : va_P D vwCl (w_Mo k ad_this u42) H := hP.sub [0, 1, 2, 3, 4, 5, 6, 7, 8, 9, 10, 11, 12, 13, 14, 15, 16, 17] rfl
                  have hD : va_D A (w_Mo k ad_this u42) := hD.sub [0, 1, 2, 3, 4, 5, 6, 7, 8, 9, 10, 11, 12, 13, 14, 15, 16, 17] (by decide) rfl
                  refine lv_if_eq (tgt := 573) hx hb d_Mo_statement_566 (by decide) (fun hc => ?_) (fun hc => ?_)
                  · have hw := hw.1 hc
                    exact t_Mo_statement_J573 (hrf := @hrf) hAt hK hJ hAe hA u42 (z_this.1.1.1.2.2.2 - (1000 : Int32)) z_this.1.1.2.2.1 u2.2.2.1.2.2.2 (((u2.1.1.2.2.2.1 / (1000 : Int64))).toInt32) (1 : Int32) H locs ls (lv_sub hl [5, 4, 3, 2, 0, 1] rfl) hP hD hS hw
                  · have hw := hw.2 hc
                    refine lv_iconst (v := (1 : Int32)) hx hb d_Mo_statement_569 (by decide) ?_
                    refine lv_goto (tgt := 574) hx hb d_Mo_statement_570 (by decide) ?_
                    exact t_Mo_statement_J574 (hrf := @hrf) hAt hK hJ hAe hA u42 (z_this.1.1.1.2.2.2 - (1000 : Int32)) z_this.1.1.2.2.1 u2.2.2.1.2.2.2 (((u2.1.1.2.2.2.1 / (1000 : Int64))).toInt32) (1 : Int32) (1 : Int32) H locs ls (lv_sub hl [5, 4, 3, 2, 0, 1] rfl) hP hD hS hw
              · have hw := hw.2 hc
                exact t_Mo_statement_J537 (hrf := @hrf) hAt hK hJ hAe hA u2 (z_this.1.1.1.2.2.2 - (1000 : Int32)) z_this.1.1.2.2.1 u2.2.2.1.2.2.2 (0 : Int32) (1 : Int32) H locs ls (lv_sub hl [5, 4, 3, 2, 1, 0] rfl) hP hD hS hw
        have hw := hw.2.2.2.2.2.2.2.2.2.2.2 ⟨hc0, hc1, hc2, hc3, hc4, hc5, hc6, hc7, hc8, hc9, hc10⟩
        by_cases hd0 : (z_this.1.1.1.2.2.2 - (1000 : Int32)) = (20 : Int32)
        · refine W.eq (g2 := F0 m 52 ls ([.int (20 : Int32)])) (by rw [hd0]) ?_
          refine lv_tableIn (tgt := 579) hx hb d_Mo_statement_52 (by decide) (by decide) rfl (by decide) ?_
          exact t_Mo_statement_J579 (hrf := @hrf) hAt hK hJ hAe hA u2 (z_this.1.1.1.2.2.2 - (1000 : Int32)) z_this.1.1.2.2.1 u2.2.2.1.2.2.2 (0 : Int32) (1 : Int32) H locs ls (lv_sub hl [5, 4, 3, 2, 1, 0] rfl) hP hD hS hw
        by_cases hd1 : (z_this.1.1.1.2.2.2 - (1000 : Int32)) = (21 : Int32)
        · refine W.eq (g2 := F0 m 52 ls ([.int (21 : Int32)])) (by rw [hd1]) ?_
          refine lv_tableIn (tgt := 579) hx hb d_Mo_statement_52 (by decide) (by decide) rfl (by decide) ?_
          exact t_Mo_statement_J579 (hrf := @hrf) hAt hK hJ hAe hA u2 (z_this.1.1.1.2.2.2 - (1000 : Int32)) z_this.1.1.2.2.1 u2.2.2.1.2.2.2 (0 : Int32) (1 : Int32) H locs ls (lv_sub hl [5, 4, 3, 2, 1, 0] rfl) hP hD hS hw
        refine lv_tableOut (tgt := 579) hx hb d_Mo_statement_52 (by have e10 : ((z_this.1.1.1.2.2.2 - (1000 : Int32))).toInt ≠ 10 := xq_ne hc0 (by decide); have e11 : ((z_this.1.1.1.2.2.2 - (1000 : Int32))).toInt ≠ 11 := xq_ne hc1 (by decide); have e12 : ((z_this.1.1.1.2.2.2 - (1000 : Int32))).toInt ≠ 12 := xq_ne hc2 (by decide); have e13 : ((z_this.1.1.1.2.2.2 - (1000 : Int32))).toInt ≠ 13 := xq_ne hc3 (by decide); have e14 : ((z_this.1.1.1.2.2.2 - (1000 : Int32))).toInt ≠ 14 := xq_ne hc4 (by decide); have e15 : ((z_this.1.1.1.2.2.2 - (1000 : Int32))).toInt ≠ 15 := xq_ne hc5 (by decide); have e16 : ((z_this.1.1.1.2.2.2 - (1000 : Int32))).toInt ≠ 16 := xq_ne hc6 (by decide); have e17 : ((z_this.1.1.1.2.2.2 - (1000 : Int32))).toInt ≠ 17 := xq_ne hc7 (by decide); have e18 : ((z_this.1.1.1.2.2.2 - (1000 : Int32))).toInt ≠ 18 := xq_ne hc8 (by decide); have e19 : ((z_this.1.1.1.2.2.2 - (1000 : Int32))).toInt ≠ 19 := xq_ne hc9 (by decide); have e20 : ((z_this.1.1.1.2.2.2 - (1000 : Int32))).toInt ≠ 20 := xq_ne hd0 (by decide); have e21 : ((z_this.1.1.1.2.2.2 - (1000 : Int32))).toInt ≠ 21 := xq_ne hd1 (by decide); have e22 : ((z_this.1.1.1.2.2.2 - (1000 : Int32))).toInt ≠ 22 := xq_ne hc10 (by decide); omega) (by decide) ?_
        exact t_Mo_statement_J579 (hrf := @hrf) hAt hK hJ hAe hA u2 (z_this.1.1.1.2.2.2 - (1000 : Int32)) z_this.1.1.2.2.1 u2.2.2.1.2.2.2 (0 : Int32) (1 : Int32) H locs ls (lv_sub hl [5, 4, 3, 2, 1, 0] rfl) hP hD hS hw
      · have hw := hw.1 hc
        refine lv_iconst (v := (-1 : Int32)) hx hb d_Mo_statement_38 (by decide) ?_
        exact xq_iret (r := (-1 : Int32)) (u := u2) hx hb hr hlocks hAe hP hD hS rfl hw (Nat.le_of_ble_eq_true rfl) (Nat.le_of_ble_eq_true rfl) d_Mo_statement_39
    · have hw := hw.2 hc
      exact t_Mo_statement_J26 (hrf := @hrf) hAt hK hJ hAe hA z_this (z_this.1.1.1.2.2.2 - (1000 : Int32)) z_this.1.1.2.2.1 H locs ls (lv_sub hl [2, 1, 0] rfl) hP hD hS hw
theorem cw_Mo_statement {R : Room} {s : State} {args : Array Value} {own : String} {index : Nat} (hts : ∀ w ∈ xq_W, w.before args s = true) (hl : .methodLink own index y_Mo_statement ∈ xq_W) {rm : Room} (hR : rm.frames + 1 ≤ R.frames ∧ 8 + (6 + 11) + rm.locals ≤ R.locals) : CallW R s args own "StepTextModel" index y_Mo_statement prog_10_method_30_code 6 (some (.int)) (.code y_Mo_statement prog_10_method_30_code 6 (some (.int)) :: xq_W) rm rm.cells rm.slots 0 := ⟨xq_cb 0 hts kw5_134 kw1_13 hl ⟨by decide, by decide, by decide +kernel⟩ hR, hts _ kw5_133, hts _ kp5_1⟩
theorem d_Mo_block_0 : decode prog_10_method_27_code 0 = .ok (.aload_n 0, 1) := by decide +kernel
theorem d_Mo_block_1 : decode prog_10_method_27_code 1 = .ok (.getfield 142, 3) := by decide +kernel
theorem d_Mo_block_4 : decode prog_10_method_27_code 4 = .ok (.istore_n 1, 1) := by decide +kernel
theorem d_Mo_block_5 : decode prog_10_method_27_code 5 = .ok (.aload_n 0, 1) := by decide +kernel
theorem d_Mo_block_6 : decode prog_10_method_27_code 6 = .ok (.getfield 145, 3) := by decide +kernel
theorem d_Mo_block_9 : decode prog_10_method_27_code 9 = .ok (.bipush 123, 2) := by decide +kernel
theorem d_Mo_block_11 : decode prog_10_method_27_code 11 = .ok (.if_icmp .ne 12, 3) := by decide +kernel
theorem d_Mo_block_14 : decode prog_10_method_27_code 14 = .ok (.aload_n 0, 1) := by decide +kernel
theorem d_Mo_block_15 : decode prog_10_method_27_code 15 = .ok (.getfield 227, 3) := by decide +kernel
theorem d_Mo_block_18 : decode prog_10_method_27_code 18 = .ok (.bipush 60, 2) := by decide +kernel
theorem d_Mo_block_20 : decode prog_10_method_27_code 20 = .ok (.if_icmp .ne 8, 3) := by decide +kernel
theorem d_Mo_block_23 : decode prog_10_method_27_code 23 = .ok (.aload_n 0, 1) := by decide +kernel
theorem d_Mo_block_24 : decode prog_10_method_27_code 24 = .ok (.invokevirtual 191, 3) := by decide +kernel
theorem d_Mo_block_27 : decode prog_10_method_27_code 27 = .ok (.ireturn, 1) := by decide +kernel
theorem d_Mo_block_28 : decode prog_10_method_27_code 28 = .ok (.aload_n 0, 1) := by decide +kernel
theorem d_Mo_block_29 : decode prog_10_method_27_code 29 = .ok (.dup, 1) := by decide +kernel
theorem d_Mo_block_30 : decode prog_10_method_27_code 30 = .ok (.getfield 227, 3) := by decide +kernel
theorem d_Mo_block_33 : decode prog_10_method_27_code 33 = .ok (.iconst 1, 1) := by decide +kernel
theorem d_Mo_block_34 : decode prog_10_method_27_code 34 = .ok (.iadd, 1) := by decide +kernel
theorem d_Mo_block_35 : decode prog_10_method_27_code 35 = .ok (.putfield 227, 3) := by decide +kernel
theorem d_Mo_block_38 : decode prog_10_method_27_code 38 = .ok (.aload_n 0, 1) := by decide +kernel
theorem d_Mo_block_39 : decode prog_10_method_27_code 39 = .ok (.getfield 200, 3) := by decide +kernel
theorem d_Mo_block_42 : decode prog_10_method_27_code 42 = .ok (.istore_n 2, 1) := by decide +kernel
theorem d_Mo_block_43 : decode prog_10_method_27_code 43 = .ok (.aload_n 0, 1) := by decide +kernel
theorem d_Mo_block_44 : decode prog_10_method_27_code 44 = .ok (.invokevirtual 181, 3) := by decide +kernel
theorem d_Mo_block_47 : decode prog_10_method_27_code 47 = .ok (.ifCond .ne 5, 3) := by decide +kernel
theorem d_Mo_block_50 : decode prog_10_method_27_code 50 = .ok (.iconst (-1), 1) := by decide +kernel
theorem d_Mo_block_51 : decode prog_10_method_27_code 51 = .ok (.ireturn, 1) := by decide +kernel
theorem d_Mo_block_52 : decode prog_10_method_27_code 52 = .ok (.aload_n 0, 1) := by decide +kernel
theorem d_Mo_block_53 : decode prog_10_method_27_code 53 = .ok (.getfield 145, 3) := by decide +kernel
theorem d_Mo_block_56 : decode prog_10_method_27_code 56 = .ok (.bipush 125, 2) := by decide +kernel
theorem d_Mo_block_58 : decode prog_10_method_27_code 58 = .ok (.if_icmp .eq 22, 3) := by decide +kernel
theorem d_Mo_block_61 : decode prog_10_method_27_code 61 = .ok (.aload_n 0, 1) := by decide +kernel
theorem d_Mo_block_62 : decode prog_10_method_27_code 62 = .ok (.invokevirtual 254, 3) := by decide +kernel
theorem d_Mo_block_65 : decode prog_10_method_27_code 65 = .ok (.istore_n 3, 1) := by decide +kernel
theorem d_Mo_block_66 : decode prog_10_method_27_code 66 = .ok (.iload_n 3, 1) := by decide +kernel
theorem d_Mo_block_67 : decode prog_10_method_27_code 67 = .ok (.ifCond .ge 5, 3) := by decide +kernel
theorem d_Mo_block_70 : decode prog_10_method_27_code 70 = .ok (.iconst (-1), 1) := by decide +kernel
theorem d_Mo_block_71 : decode prog_10_method_27_code 71 = .ok (.ireturn, 1) := by decide +kernel
theorem d_Mo_block_72 : decode prog_10_method_27_code 72 = .ok (.aload_n 0, 1) := by decide +kernel
theorem d_Mo_block_73 : decode prog_10_method_27_code 73 = .ok (.iload_n 3, 1) := by decide +kernel
theorem d_Mo_block_74 : decode prog_10_method_27_code 74 = .ok (.invokevirtual 203, 3) := by decide +kernel
theorem d_Mo_block_77 : decode prog_10_method_27_code 77 = .ok (.goto (-25), 3) := by decide +kernel
theorem d_Mo_block_80 : decode prog_10_method_27_code 80 = .ok (.aload_n 0, 1) := by decide +kernel
theorem d_Mo_block_81 : decode prog_10_method_27_code 81 = .ok (.dup, 1) := by decide +kernel
theorem d_Mo_block_82 : decode prog_10_method_27_code 82 = .ok (.getfield 227, 3) := by decide +kernel
theorem d_Mo_block_85 : decode prog_10_method_27_code 85 = .ok (.iconst 1, 1) := by decide +kernel
theorem d_Mo_block_86 : decode prog_10_method_27_code 86 = .ok (.isub, 1) := by decide +kernel
theorem d_Mo_block_87 : decode prog_10_method_27_code 87 = .ok (.putfield 227, 3) := by decide +kernel
theorem d_Mo_block_90 : decode prog_10_method_27_code 90 = .ok (.aload_n 0, 1) := by decide +kernel
theorem d_Mo_block_91 : decode prog_10_method_27_code 91 = .ok (.invokevirtual 181, 3) := by decide +kernel
theorem d_Mo_block_94 : decode prog_10_method_27_code 94 = .ok (.ifCond .eq 16, 3) := by decide +kernel
theorem d_Mo_block_97 : decode prog_10_method_27_code 97 = .ok (.aload_n 0, 1) := by decide +kernel
theorem d_Mo_block_98 : decode prog_10_method_27_code 98 = .ok (.bipush 23, 2) := by decide +kernel
theorem d_Mo_block_100 : decode prog_10_method_27_code 100 = .ok (.lconst 0, 1) := by decide +kernel
theorem d_Mo_block_101 : decode prog_10_method_27_code 101 = .ok (.iload_n 1, 1) := by decide +kernel
theorem d_Mo_block_102 : decode prog_10_method_27_code 102 = .ok (.iconst (-1), 1) := by decide +kernel
theorem d_Mo_block_103 : decode prog_10_method_27_code 103 = .ok (.iload_n 2, 1) := by decide +kernel
theorem d_Mo_block_104 : decode prog_10_method_27_code 104 = .ok (.invokevirtual 207, 3) := by decide +kernel
theorem d_Mo_block_107 : decode prog_10_method_27_code 107 = .ok (.goto 4, 3) := by decide +kernel
theorem d_Mo_block_110 : decode prog_10_method_27_code 110 = .ok (.iconst (-1), 1) := by decide +kernel
theorem d_Mo_block_111 : decode prog_10_method_27_code 111 = .ok (.ireturn, 1) := by decide +kernel
def wp_Mo_block_L52 (d : Nat) (rf : T_Mo → (Int32 → T_Mo → Prop) → Prop) (K : T_Mo → Int32 → Int32 → Prop) (post : Int32 → T_Mo → Prop) : Nat → T_Mo → Int32 → Int32 → Prop
  | 0, _, _, _ => False
  | n9 + 1, z_this, x1, x2 => (z_this.1.1.1.2.2.2 = (125 : Int32) → (K z_this x1 x2)) ∧ (¬ z_this.1.1.1.2.2.2 = (125 : Int32) → (wp_Mo_statement d rf z_this (fun (r3 : Int32) (u3 : T_Mo) => (0 ≤ r3 → (wp_Mo_push u3 r3 (fun (r4 : Unit) (u4 : T_Mo) => wp_Mo_block_L52 d rf K post n9 u4 x1 x2))) ∧ (¬ 0 ≤ r3 → (post (-1 : Int32) u3)))))
def wp_Mo_block_F (d : Nat) (rf : T_Mo → (Int32 → T_Mo → Prop) → Prop) (z_this : T_Mo) (post : Int32 → T_Mo → Prop) : Prop := (z_this.1.1.1.2.2.2 = (123 : Int32) → ((z_this.1.2.1.1.2 = (60 : Int32) → (wp_Mo_bad z_this (fun (r7 : Int32) (u7 : T_Mo) => post r7 u7))) ∧ (¬ z_this.1.2.1.1.2 = (60 : Int32) → (wp_Mo_go (((((z_this.1.1.1.1.1, z_this.1.1.1.1.2), (z_this.1.1.1.2.1, (z_this.1.1.1.2.2.1, z_this.1.1.1.2.2.2))), ((z_this.1.1.2.1.1, z_this.1.1.2.1.2), (z_this.1.1.2.2.1, (z_this.1.1.2.2.2.1, z_this.1.1.2.2.2.2)))), (((z_this.1.2.1.1.1, (z_this.1.2.1.1.2 + (1 : Int32))), (z_this.1.2.1.2.1, (z_this.1.2.1.2.2.1, z_this.1.2.1.2.2.2))), ((z_this.1.2.2.1.1, (z_this.1.2.2.1.2.1, z_this.1.2.2.1.2.2)), (z_this.1.2.2.2.1, (z_this.1.2.2.2.2.1, z_this.1.2.2.2.2.2))))), ((((z_this.2.1.1.1.1, z_this.2.1.1.1.2), (z_this.2.1.1.2.1, (z_this.2.1.1.2.2.1, z_this.2.1.1.2.2.2))), ((z_this.2.1.2.1.1, z_this.2.1.2.1.2), (z_this.2.1.2.2.1, (z_this.2.1.2.2.2.1, z_this.2.1.2.2.2.2)))), (((z_this.2.2.1.1.1, z_this.2.2.1.1.2), (z_this.2.2.1.2.1, (z_this.2.2.1.2.2.1, z_this.2.2.1.2.2.2))), ((z_this.2.2.2.1.1, (z_this.2.2.2.1.2.1, z_this.2.2.2.1.2.2)), (z_this.2.2.2.2.1, (z_this.2.2.2.2.2.1, z_this.2.2.2.2.2.2)))))) (fun (r2 : Int32) (u2 : T_Mo) => (r2 = 0 → (post (-1 : Int32) u2)) ∧ (¬ r2 = 0 → (∃ k9 : Nat, wp_Mo_block_L52 d rf (fun (z_this : T_Mo) (x1 : Int32) (x2 : Int32) => wp_Mo_go (((((z_this.1.1.1.1.1, z_this.1.1.1.1.2), (z_this.1.1.1.2.1, (z_this.1.1.1.2.2.1, z_this.1.1.1.2.2.2))), ((z_this.1.1.2.1.1, z_this.1.1.2.1.2), (z_this.1.1.2.2.1, (z_this.1.1.2.2.2.1, z_this.1.1.2.2.2.2)))), (((z_this.1.2.1.1.1, (z_this.1.2.1.1.2 - (1 : Int32))), (z_this.1.2.1.2.1, (z_this.1.2.1.2.2.1, z_this.1.2.1.2.2.2))), ((z_this.1.2.2.1.1, (z_this.1.2.2.1.2.1, z_this.1.2.2.1.2.2)), (z_this.1.2.2.2.1, (z_this.1.2.2.2.2.1, z_this.1.2.2.2.2.2))))), ((((z_this.2.1.1.1.1, z_this.2.1.1.1.2), (z_this.2.1.1.2.1, (z_this.2.1.1.2.2.1, z_this.2.1.1.2.2.2))), ((z_this.2.1.2.1.1, z_this.2.1.2.1.2), (z_this.2.1.2.2.1, (z_this.2.1.2.2.2.1, z_this.2.1.2.2.2.2)))), (((z_this.2.2.1.1.1, z_this.2.2.1.1.2), (z_this.2.2.1.2.1, (z_this.2.2.1.2.2.1, z_this.2.2.1.2.2.2))), ((z_this.2.2.2.1.1, (z_this.2.2.2.1.2.1, z_this.2.2.2.1.2.2)), (z_this.2.2.2.2.1, (z_this.2.2.2.2.2.1, z_this.2.2.2.2.2.2)))))) (fun (r5 : Int32) (u5 : T_Mo) => (r5 = 0 → (post (-1 : Int32) u5)) ∧ (¬ r5 = 0 → (wp_Mo_node0 u5 (23 : Int32) (0 : Int64) x1 (-1 : Int32) x2 (fun (r6 : Int32) (u6 : T_Mo) => post r6 u6))))) post k9 u2 z_this.1.1.2.2.1 z_this.2.2.1.2.2.2))))))) ∧ (¬ z_this.1.1.1.2.2.2 = (123 : Int32) → (wp_Mo_bad z_this (fun (r1 : Int32) (u1 : T_Mo) => post r1 u1)))
def rm_Mo_block (d F L : Nat) : Room := { frames := max (F + 2) (fFa d + 7), cells := 0, slots := 0, locals := max (L + 48) (fLa d + 173) }
set_option maxHeartbeats 4000000 in
set_option maxRecDepth 100000 in
theorem t_Mo_block_L52 {p : Program} {l : Launch} {o : State × Array Value} {e : Env} {s : State} {m : MethodId} {args : Array Value} {below : List Frame} {meth : Method} {c : Code} {D : va_G} {k : Nat → ClassId} {w0 : va_W} {A : Nat → Prop} {ad_this : Nat → Nat} {post : Int32 → T_Mo → Prop} {d : Nat} {rf : T_Mo → (Int32 → T_Mo → Prop) → Prop} {F L : Nat} (hrf : ∀ {ad_this : Nat → Nat} {z_this : T_Mo} {post : Int32 → T_Mo → Prop}, rf z_this post → xq_C l o y_Mo_block (.code y_Mo_block prog_10_method_27_code 4 (some (.int)) :: xq_W) { frames := F, cells := 0, slots := 0, locals := L } D vwCl (xt k) [.ref (ad_this 0)] (w_Mo k ad_this z_this) (fun r : Int32 => some (.int r)) post (fun _ : T_Mo => False) (fun u : T_Mo => w_Mo k ad_this u) 0 0 0 0) (hAt : xq_At p s m args meth c prog_10_method_27_code 4 (some (.int)) y_Mo_block xq_W) (hK : va_K D vwCl (xt k) s) (hJ : xq_J l o A s s.heap) (hAe : va_A w0 s.heap.size = A) (hA : ∀ q, s.heap.size ≤ q → A q) {K : T_Mo → Int32 → Int32 → Prop} (hX : ∀ (z_this : T_Mo) (x1 : Int32) (x2 : Int32) (H : Heap) (locs : List Loc) (ls : Array Slot), lv_has ls 4 [(0, .ref (ad_this 0)), (1, .int x1), (2, .int x2)] → va_P D vwCl (w_Mo k ad_this z_this) H → va_D A (w_Mo k ad_this z_this) → va_S A s.heap H locs → K z_this x1 x2 → W p l e (rm_Mo_block d F L) s m args below meth c H locs 0 0 (xq_Z below D vwCl (xt k) w0 (fun r : Int32 => some (.int r)) post (fun _ : T_Mo => False) (fun u : T_Mo => w_Mo k ad_this u) 0 0 0 0 s) (F0 m 80 ls [])) :
    ∀ (n9 : Nat) (z_this : T_Mo) (x1 : Int32) (x2 : Int32) (H : Heap) (locs : List Loc) (ls : Array Slot), lv_has ls 4 [(0, .ref (ad_this 0)), (1, .int x1), (2, .int x2)] → va_P D vwCl (w_Mo k ad_this z_this) H → va_D A (w_Mo k ad_this z_this) → va_S A s.heap H locs → wp_Mo_block_L52 d rf K post n9 z_this x1 x2 → W p l e (rm_Mo_block d F L) s m args below meth c H locs 0 0 (xq_Z below D vwCl (xt k) w0 (fun r : Int32 => some (.int r)) post (fun _ : T_Mo => False) (fun u : T_Mo => w_Mo k ad_this u) 0 0 0 0 s) (F0 m 52 ls []) := by
  obtain ⟨hx, hb, hml, hr, hlocks, hown, hts, hex, hnm⟩ := id hAt
  intro n9
  induction n9 with
  | zero => intro z_this x1 x2 H locs ls hl hP hD hS hw; exact False.elim (by rw [wp_Mo_block_L52] at hw; exact hw)
  | succ n9 ih =>
    intro z_this x1 x2 H locs ls hl hP hD hS hw
    rw [wp_Mo_block_L52] at hw
    refine lv_aload_n hx hb d_Mo_block_52 rfl (lv_at hl 0 rfl) ?_
    refine va_get (D := D) (ci := 8) (v := .int z_this.1.1.1.2.2.2) (C := R_Mo) (T := F_Mo) (N := 42) hx hb hts in_Mo hown hK hP 0 rfl rfl 4 (by decide) (hts (.fieldLink R_Mo 145 R_Mo "token" "I") kw4_147) (fun _ h9 => h9) rfl d_Mo_block_53 ?_
    refine lv_bipush (v := (125 : Int32)) hx hb d_Mo_block_56 (by decide) ?_
    refine lv_icmp_eq (tgt := 80) hx hb d_Mo_block_58 (by decide) (fun hc => ?_) (fun hc => ?_)
    · have hw := hw.1 hc
      exact hX z_this x1 x2 H locs ls (lv_sub hl [0, 1, 2] rfl) hP hD hS hw
    · have hw := hw.2 hc
      refine lv_aload_n hx hb d_Mo_block_61 rfl (lv_at hl 0 rfl) ?_
      refine xq_go (wr := ([] : va_W)) (stk := fun r => .int r :: []) (xq_runV (As := []) (rest := []) ⟨hx, hb, hml, hown, hts⟩ (c_Mo_statement (l := l) (o := o) (D := D) (k := k) (hrf := @hrf) (ad_this := ad_this) hw) (cw_Mo_statement hts kw5_131 ⟨by simp only [rm_Mo_block, rm_Mo_statement]; omega, by simp only [rm_Mo_block, rm_Mo_statement]; omega⟩) (va_recv hK hP (ci := 8) (q0 := 0) rfl rfl) (hP.sub [0, 1, 2, 3, 4, 5, 6, 7, 8, 9, 10, 11, 12, 13, 14, 15, 16, 17] rfl) hK hJ hS (va_free hD hS hA [0, 1, 2, 3, 4, 5, 6, 7, 8, 9, 10, 11, 12, 13, 14, 15, 16, 17] rfl) ((hD.sub [0, 1, 2, 3, 4, 5, 6, 7, 8, 9, 10, 11, 12, 13, 14, 15, 16, 17] (by decide) rfl).weaken (fun _ _ _ _ => trivial)) rfl hl.1 (Nat.le_of_ble_eq_true rfl) d_Mo_block_62 ⟨Nat.le_of_ble_eq_true rfl, Nat.le_of_ble_eq_true rfl⟩) hP hD hS hA [0, 1, 2, 3, 4, 5, 6, 7, 8, 9, 10, 11, 12, 13, 14, 15, 16, 17] [] rfl rfl (by decide) (by decide) (fun _ => rfl) (fun r3 u3 H locs hw hP hD hS => ?_) (fun _ _ _ _ h9 => h9.elim)
      have hP : va_P D vwCl (w_Mo k ad_this u3) H := hP.sub [0, 1, 2, 3, 4, 5, 6, 7, 8, 9, 10, 11, 12, 13, 14, 15, 16, 17] rfl
      have hD : va_D A (w_Mo k ad_this u3) := hD.sub [0, 1, 2, 3, 4, 5, 6, 7, 8, 9, 10, 11, 12, 13, 14, 15, 16, 17] (by decide) rfl
      refine lv_istore_n (lv' := [(3, .int r3), (0, .ref (ad_this 0)), (1, .int x1), (2, .int x2)]) hx hb d_Mo_block_65 rfl hl (by decide) rfl (fun ls hl => ?_)
      refine lv_iload_n hx hb d_Mo_block_66 rfl (lv_at hl 0 rfl) ?_
      refine lv_if_ge (tgt := 72) hx hb d_Mo_block_67 (by decide) (fun hc => ?_) (fun hc => ?_)
      · have hw := hw.1 hc
        refine lv_aload_n hx hb d_Mo_block_72 rfl (lv_at hl 1 rfl) ?_
        refine lv_iload_n hx hb d_Mo_block_73 rfl (lv_at hl 0 rfl) ?_
        refine xq_go (wr := ([] : va_W)) (stk := fun _ => []) (xq_runV (As := [.int r3]) (rest := []) ⟨hx, hb, hml, hown, hts⟩ (c_Mo_push (l := l) (o := o) (D := D) (k := k) (ad_this := ad_this) hw) (cw_Mo_push hts kw5_170 ⟨by simp only [rm_Mo_block, rm_Mo_push]; omega, by simp only [rm_Mo_block, rm_Mo_push]; omega⟩) (va_recv hK hP (ci := 8) (q0 := 0) rfl rfl) (hP.sub [0, 1, 2, 3, 4, 5, 6, 7, 8, 9, 10, 11, 12, 13, 14, 15, 16, 17] rfl) hK hJ hS (va_free hD hS hA [0, 1, 2, 3, 4, 5, 6, 7, 8, 9, 10, 11, 12, 13, 14, 15, 16, 17] rfl) ((hD.sub [0, 1, 2, 3, 4, 5, 6, 7, 8, 9, 10, 11, 12, 13, 14, 15, 16, 17] (by decide) rfl).weaken (fun _ _ _ _ => trivial)) rfl hl.1 (Nat.le_of_ble_eq_true rfl) d_Mo_block_74 ⟨Nat.le_of_ble_eq_true rfl, Nat.le_of_ble_eq_true rfl⟩) hP hD hS hA [0, 1, 2, 3, 4, 5, 6, 7, 8, 9, 10, 11, 12, 13, 14, 15, 16, 17] [] rfl rfl (by decide) (by decide) (fun _ => rfl) (fun r4 u4 H locs hw hP hD hS => ?_) (fun _ _ _ _ h9 => h9.elim)
        have hP : va_P D vwCl (w_Mo k ad_this u4) H := hP.sub [0, 1, 2, 3, 4, 5, 6, 7, 8, 9, 10, 11, 12, 13, 14, 15, 16, 17] rfl
        have hD : va_D A (w_Mo k ad_this u4) := hD.sub [0, 1, 2, 3, 4, 5, 6, 7, 8, 9, 10, 11, 12, 13, 14, 15, 16, 17] (by decide) rfl
        refine lv_goto (tgt := 52) hx hb d_Mo_block_77 (by decide) ?_
        exact ih u4 x1 x2 H locs ls (lv_sub hl [1, 2, 3] rfl) hP hD hS hw
      · have hw := hw.2 hc
        refine lv_iconst (v := (-1 : Int32)) hx hb d_Mo_block_70 (by decide) ?_
        exact xq_iret (r := (-1 : Int32)) (u := u3) hx hb hr hlocks hAe hP hD hS rfl hw (Nat.le_of_ble_eq_true rfl) (Nat.le_of_ble_eq_true rfl) d_Mo_block_71
set_option maxHeartbeats 4000000 in
set_option maxRecDepth 100000 in
theorem c_Mo_block_F {l : Launch} {o : State × Array Value} {D : va_G} {k : Nat → ClassId} {d : Nat} {rf : T_Mo → (Int32 → T_Mo → Prop) → Prop} {F L : Nat} (hrf : ∀ {ad_this : Nat → Nat} {z_this : T_Mo} {post : Int32 → T_Mo → Prop}, rf z_this post → xq_C l o y_Mo_block (.code y_Mo_block prog_10_method_27_code 4 (some (.int)) :: xq_W) { frames := F, cells := 0, slots := 0, locals := L } D vwCl (xt k) [.ref (ad_this 0)] (w_Mo k ad_this z_this) (fun r : Int32 => some (.int r)) post (fun _ : T_Mo => False) (fun u : T_Mo => w_Mo k ad_this u) 0 0 0 0) {ad_this : Nat → Nat} {z_this : T_Mo} {post : Int32 → T_Mo → Prop} (hw : wp_Mo_block_F d rf z_this post) : xq_C l o y_Mo_block (.code y_Mo_block prog_10_method_27_code 4 (some (.int)) :: xq_W) (rm_Mo_block d F L) D vwCl (xt k) [.ref (ad_this 0)] (w_Mo k ad_this z_this) (fun r : Int32 => some (.int r)) post (fun _ : T_Mo => False) (fun u : T_Mo => w_Mo k ad_this u) 0 0 0 0 := by
  refine xq_ofW (cc := prog_10_method_27_code) (maxL := 4) (ret := (some (.int))) (by decide) rfl (Nat.le_of_ble_eq_true rfl) ?_
  intro p e s m below meth c ls H locs A hAt hAe hA hl hK hJ hP0 hP hD hS
  obtain ⟨hx, hb, hml, hr, hlocks, hown, hts, hex, hnm⟩ := id hAt
  have hl : lv_has ls 4 [(0, .ref (ad_this 0))] := hl
  unfold wp_Mo_block_F at hw
  refine lv_aload_n hx hb d_Mo_block_0 rfl (lv_at hl 0 rfl) ?_
  refine va_get (D := D) (ci := 8) (v := .int z_this.1.1.2.2.1) (C := R_Mo) (T := F_Mo) (N := 42) hx hb hts in_Mo hown hK hP 0 rfl rfl 7 (by decide) (hts (.fieldLink R_Mo 142 R_Mo "tokenLine" "I") kw4_150) (fun _ h9 => h9) rfl d_Mo_block_1 ?_
  refine lv_istore_n (lv' := [(1, .int z_this.1.1.2.2.1), (0, .ref (ad_this 0))]) hx hb d_Mo_block_4 rfl hl (by decide) rfl (fun ls hl => ?_)
  refine lv_aload_n hx hb d_Mo_block_5 rfl (lv_at hl 1 rfl) ?_
  refine va_get (D := D) (ci := 8) (v := .int z_this.1.1.1.2.2.2) (C := R_Mo) (T := F_Mo) (N := 42) hx hb hts in_Mo hown hK hP 0 rfl rfl 4 (by decide) (hts (.fieldLink R_Mo 145 R_Mo "token" "I") kw4_147) (fun _ h9 => h9) rfl d_Mo_block_6 ?_
  refine lv_bipush (v := (123 : Int32)) hx hb d_Mo_block_9 (by decide) ?_
  refine lv_icmp_ne (tgt := 23) hx hb d_Mo_block_11 (by decide) (fun hc => ?_) (fun hc => ?_)
  · have hw := hw.2 hc
    refine lv_aload_n hx hb d_Mo_block_23 rfl (lv_at hl 1 rfl) ?_
    refine xq_go (wr := ([] : va_W)) (stk := fun r => .int r :: []) (xq_runV (As := []) (rest := []) ⟨hx, hb, hml, hown, hts⟩ (c_Mo_bad (l := l) (o := o) (D := D) (k := k) (ad_this := ad_this) hw) (cw_Mo_bad hts kw5_115 ⟨by simp only [rm_Mo_block, rm_Mo_bad]; omega, by simp only [rm_Mo_block, rm_Mo_bad]; omega⟩) (va_recv hK hP (ci := 8) (q0 := 0) rfl rfl) (hP.sub [0, 1, 2, 3, 4, 5, 6, 7, 8, 9, 10, 11, 12, 13, 14, 15, 16, 17] rfl) hK hJ hS (va_free hD hS hA [0, 1, 2, 3, 4, 5, 6, 7, 8, 9, 10, 11, 12, 13, 14, 15, 16, 17] rfl) ((hD.sub [0, 1, 2, 3, 4, 5, 6, 7, 8, 9, 10, 11, 12, 13, 14, 15, 16, 17] (by decide) rfl).weaken (fun _ _ _ _ => trivial)) rfl hl.1 (Nat.le_of_ble_eq_true rfl) d_Mo_block_24 ⟨Nat.le_of_ble_eq_true rfl, Nat.le_of_ble_eq_true rfl⟩) hP hD hS hA [0, 1, 2, 3, 4, 5, 6, 7, 8, 9, 10, 11, 12, 13, 14, 15, 16, 17] [] rfl rfl (by decide) (by decide) (fun _ => rfl) (fun r1 u1 H locs hw hP hD hS => ?_) (fun _ _ _ _ h9 => h9.elim)
    have hP : va_P D vwCl (w_Mo k ad_this u1) H := hP.sub [0, 1, 2, 3, 4, 5, 6, 7, 8, 9, 10, 11, 12, 13, 14, 15, 16, 17] rfl
    have hD : va_D A (w_Mo k ad_this u1) := hD.sub [0, 1, 2, 3, 4, 5, 6, 7, 8, 9, 10, 11, 12, 13, 14, 15, 16, 17] (by decide) rfl
    exact xq_iret (r := r1) (u := u1) hx hb hr hlocks hAe hP hD hS rfl hw (Nat.le_of_ble_eq_true rfl) (Nat.le_of_ble_eq_true rfl) d_Mo_block_27
  · have hw := hw.1 hc
    refine lv_aload_n hx hb d_Mo_block_14 rfl (lv_at hl 1 rfl) ?_
    refine va_get (D := D) (ci := 8) (v := .int z_this.1.2.1.1.2) (C := R_Mo) (T := F_Mo) (N := 42) hx hb hts in_Mo hown hK hP 0 rfl rfl 11 (by decide) (hts (.fieldLink R_Mo 227 R_Mo "open" "I") kw4_154) (fun _ h9 => h9) rfl d_Mo_block_15 ?_
    refine lv_bipush (v := (60 : Int32)) hx hb d_Mo_block_18 (by decide) ?_
    refine lv_icmp_ne (tgt := 28) hx hb d_Mo_block_20 (by decide) (fun hc => ?_) (fun hc => ?_)
    · have hw := hw.2 hc
      refine lv_aload_n hx hb d_Mo_block_28 rfl (lv_at hl 1 rfl) ?_
      refine lv_dup hx hb d_Mo_block_29 rfl ?_
      refine va_get (D := D) (ci := 8) (v := .int z_this.1.2.1.1.2) (C := R_Mo) (T := F_Mo) (N := 42) hx hb hts in_Mo hown hK hP 0 rfl rfl 11 (by decide) (hts (.fieldLink R_Mo 227 R_Mo "open" "I") kw4_154) (fun _ h9 => h9) rfl d_Mo_block_30 ?_
      refine lv_iconst (v := (1 : Int32)) hx hb d_Mo_block_33 (by decide) ?_
      refine lv_iadd hx hb d_Mo_block_34 ?_
      refine va_put (D := D) (ci := 8) (v := .int (z_this.1.2.1.1.2 + (1 : Int32))) (ty := .int) (C := R_Mo) (T := F_Mo) (N := 42) hx hb hts in_Mo t_Mo t_Mo_ok n_Mo hown hK hP hD hS 0 rfl rfl 11 (by decide) (hts (.fieldLink R_Mo 227 R_Mo "open" "I") kw4_154) (fun _ h9 => h9) rfl (by decide +kernel) rfl rfl (Nat.le_of_ble_eq_true rfl) d_Mo_block_35 (fun H locs hP hD hS => ?_)
      have hP : va_P D vwCl (w_Mo k ad_this (((((z_this.1.1.1.1.1, z_this.1.1.1.1.2), (z_this.1.1.1.2.1, (z_this.1.1.1.2.2.1, z_this.1.1.1.2.2.2))), ((z_this.1.1.2.1.1, z_this.1.1.2.1.2), (z_this.1.1.2.2.1, (z_this.1.1.2.2.2.1, z_this.1.1.2.2.2.2)))), (((z_this.1.2.1.1.1, (z_this.1.2.1.1.2 + (1 : Int32))), (z_this.1.2.1.2.1, (z_this.1.2.1.2.2.1, z_this.1.2.1.2.2.2))), ((z_this.1.2.2.1.1, (z_this.1.2.2.1.2.1, z_this.1.2.2.1.2.2)), (z_this.1.2.2.2.1, (z_this.1.2.2.2.2.1, z_this.1.2.2.2.2.2))))), ((((z_this.2.1.1.1.1, z_this.2.1.1.1.2), (z_this.2.1.1.2.1, (z_this.2.1.1.2.2.1, z_this.2.1.1.2.2.2))), ((z_this.2.1.2.1.1, z_this.2.1.2.1.2), (z_this.2.1.2.2.1, (z_this.2.1.2.2.2.1, z_this.2.1.2.2.2.2)))), (((z_this.2.2.1.1.1, z_this.2.2.1.1.2), (z_this.2.2.1.2.1, (z_this.2.2.1.2.2.1, z_this.2.2.1.2.2.2))), ((z_this.2.2.2.1.1, (z_this.2.2.2.1.2.1, z_this.2.2.2.1.2.2)), (z_this.2.2.2.2.1, (z_this.2.2.2.2.2.1, z_this.2.2.2.2.2.2))))))) H := hP
      have hD : va_D A (w_Mo k ad_this (((((z_this.1.1.1.1.1, z_this.1.1.1.1.2), (z_this.1.1.1.2.1, (z_this.1.1.1.2.2.1, z_this.1.1.1.2.2.2))), ((z_this.1.1.2.1.1, z_this.1.1.2.1.2), (z_this.1.1.2.2.1, (z_this.1.1.2.2.2.1, z_this.1.1.2.2.2.2)))), (((z_this.1.2.1.1.1, (z_this.1.2.1.1.2 + (1 : Int32))), (z_this.1.2.1.2.1, (z_this.1.2.1.2.2.1, z_this.1.2.1.2.2.2))), ((z_this.1.2.2.1.1, (z_this.1.2.2.1.2.1, z_this.1.2.2.1.2.2)), (z_this.1.2.2.2.1, (z_this.1.2.2.2.2.1, z_this.1.2.2.2.2.2))))), ((((z_this.2.1.1.1.1, z_this.2.1.1.1.2), (z_this.2.1.1.2.1, (z_this.2.1.1.2.2.1, z_this.2.1.1.2.2.2))), ((z_this.2.1.2.1.1, z_this.2.1.2.1.2), (z_this.2.1.2.2.1, (z_this.2.1.2.2.2.1, z_this.2.1.2.2.2.2)))), (((z_this.2.2.1.1.1, z_this.2.2.1.1.2), (z_this.2.2.1.2.1, (z_this.2.2.1.2.2.1, z_this.2.2.1.2.2.2))), ((z_this.2.2.2.1.1, (z_this.2.2.2.1.2.1, z_this.2.2.2.1.2.2)), (z_this.2.2.2.2.1, (z_this.2.2.2.2.2.1, z_this.2.2.2.2.2.2))))))) := hD
      refine lv_aload_n hx hb d_Mo_block_38 rfl (lv_at hl 1 rfl) ?_
      refine va_get (D := D) (ci := 8) (v := .int z_this.2.2.1.2.2.2) (C := R_Mo) (T := F_Mo) (N := 42) hx hb hts in_Mo hown hK hP 0 rfl rfl 35 (by decide) (hts (.fieldLink R_Mo 200 R_Mo "high" "I") kw4_178) (fun _ h9 => h9) rfl d_Mo_block_39 ?_
      refine lv_istore_n (lv' := [(2, .int z_this.2.2.1.2.2.2), (1, .int z_this.1.1.2.2.1), (0, .ref (ad_this 0))]) hx hb d_Mo_block_42 rfl hl (by decide) rfl (fun ls hl => ?_)
      refine lv_aload_n hx hb d_Mo_block_43 rfl (lv_at hl 2 rfl) ?_
      refine xq_go (wr := ([] : va_W)) (stk := fun r => .int r :: []) (xq_runV (As := []) (rest := []) ⟨hx, hb, hml, hown, hts⟩ (c_Mo_go (l := l) (o := o) (D := D) (k := k) (ad_this := ad_this) hw) (cw_Mo_go hts kw5_42 ⟨by simp only [rm_Mo_block, rm_Mo_go]; omega, by simp only [rm_Mo_block, rm_Mo_go]; omega⟩) (va_recv hK hP (ci := 8) (q0 := 0) rfl rfl) (hP.sub [0, 1, 2, 3, 4, 5, 6, 7, 8, 9, 10, 11, 12, 13, 14, 15, 16, 17] rfl) hK hJ hS (va_free hD hS hA [0, 1, 2, 3, 4, 5, 6, 7, 8, 9, 10, 11, 12, 13, 14, 15, 16, 17] rfl) ((hD.sub [0, 1, 2, 3, 4, 5, 6, 7, 8, 9, 10, 11, 12, 13, 14, 15, 16, 17] (by decide) rfl).weaken (fun _ _ _ _ => trivial)) rfl hl.1 (Nat.le_of_ble_eq_true rfl) d_Mo_block_44 ⟨Nat.le_of_ble_eq_true rfl, Nat.le_of_ble_eq_true rfl⟩) hP hD hS hA [0, 1, 2, 3, 4, 5, 6, 7, 8, 9, 10, 11, 12, 13, 14, 15, 16, 17] [] rfl rfl (by decide) (by decide) (fun _ => rfl) (fun r2 u2 H locs hw hP hD hS => ?_) (fun _ _ _ _ h9 => h9.elim)
      have hP : va_P D vwCl (w_Mo k ad_this u2) H := hP.sub [0, 1, 2, 3, 4, 5, 6, 7, 8, 9, 10, 11, 12, 13, 14, 15, 16, 17] rfl
      have hD : va_D A (w_Mo k ad_this u2) := hD.sub [0, 1, 2, 3, 4, 5, 6, 7, 8, 9, 10, 11, 12, 13, 14, 15, 16, 17] (by decide) rfl
      refine lv_if_ne (tgt := 52) hx hb d_Mo_block_47 (by decide) (fun hc => ?_) (fun hc => ?_)
      · have hw := hw.2 hc
        obtain ⟨k9, hw⟩ := hw
        refine t_Mo_block_L52 (hrf := @hrf) hAt hK hJ hAe hA ?_ k9 u2 z_this.1.1.2.2.1 z_this.2.2.1.2.2.2 H locs ls (lv_sub hl [2, 1, 0] rfl) hP hD hS hw
        intro z_this x1 x2 H locs ls hl hP hD hS hw
        refine lv_aload_n hx hb d_Mo_block_80 rfl (lv_at hl 0 rfl) ?_
        refine lv_dup hx hb d_Mo_block_81 rfl ?_
        refine va_get (D := D) (ci := 8) (v := .int z_this.1.2.1.1.2) (C := R_Mo) (T := F_Mo) (N := 42) hx hb hts in_Mo hown hK hP 0 rfl rfl 11 (by decide) (hts (.fieldLink R_Mo 227 R_Mo "open" "I") kw4_154) (fun _ h9 => h9) rfl d_Mo_block_82 ?_
        refine lv_iconst (v := (1 : Int32)) hx hb d_Mo_block_85 (by decide) ?_
        refine lv_isub hx hb d_Mo_block_86 ?_
        refine va_put (D := D) (ci := 8) (v := .int (z_this.1.2.1.1.2 - (1 : Int32))) (ty := .int) (C := R_Mo) (T := F_Mo) (N := 42) hx hb hts in_Mo t_Mo t_Mo_ok n_Mo hown hK hP hD hS 0 rfl rfl 11 (by decide) (hts (.fieldLink R_Mo 227 R_Mo "open" "I") kw4_154) (fun _ h9 => h9) rfl (by decide +kernel) rfl rfl (Nat.le_of_ble_eq_true rfl) d_Mo_block_87 (fun H locs hP hD hS => ?_)
        have hP : va_P D vwCl (w_Mo k ad_this (((((z_this.1.1.1.1.1, z_this.1.1.1.1.2), (z_this.1.1.1.2.1, (z_this.1.1.1.2.2.1, z_this.1.1.1.2.2.2))), ((z_this.1.1.2.1.1, z_this.1.1.2.1.2), (z_this.1.1.2.2.1, (z_this.1.1.2.2.2.1, z_this.1.1.2.2.2.2)))), (((z_this.1.2.1.1.1, (z_this.1.2.1.1.2 - (1 : Int32))), (z_this.1.2.1.2.1, (z_this.1.2.1.2.2.1, z_this.1.2.1.2.2.2))), ((z_this.1.2.2.1.1, (z_this.1.2.2.1.2.1, z_this.1.2.2.1.2.2)), (z_this.1.2.2.2.1, (z_this.1.2.2.2.2.1, z_this.1.2.2.2.2.2))))), ((((z_this.2.1.1.1.1, z_this.2.1.1.1.2), (z_this.2.1.1.2.1, (z_this.2.1.1.2.2.1, z_this.2.1.1.2.2.2))), ((z_this.2.1.2.1.1, z_this.2.1.2.1.2), (z_this.2.1.2.2.1, (z_this.2.1.2.2.2.1, z_this.2.1.2.2.2.2)))), (((z_this.2.2.1.1.1, z_this.2.2.1.1.2), (z_this.2.2.1.2.1, (z_this.2.2.1.2.2.1, z_this.2.2.1.2.2.2))), ((z_this.2.2.2.1.1, (z_this.2.2.2.1.2.1, z_this.2.2.2.1.2.2)), (z_this.2.2.2.2.1, (z_this.2.2.2.2.2.1, z_this.2.2.2.2.2.2))))))) H := hP
        have hD : va_D A (w_Mo k ad_this (((((z_this.1.1.1.1.1, z_this.1.1.1.1.2), (z_this.1.1.1.2.1, (z_this.1.1.1.2.2.1, z_this.1.1.1.2.2.2))), ((z_this.1.1.2.1.1, z_this.1.1.2.1.2), (z_this.1.1.2.2.1, (z_this.1.1.2.2.2.1, z_this.1.1.2.2.2.2)))), (((z_this.1.2.1.1.1, (z_this.1.2.1.1.2 - (1 : Int32))), (z_this.1.2.1.2.1, (z_this.1.2.1.2.2.1, z_this.1.2.1.2.2.2))), ((z_this.1.2.2.1.1, (z_this.1.2.2.1.2.1, z_this.1.2.2.1.2.2)), (z_this.1.2.2.2.1, (z_this.1.2.2.2.2.1, z_this.1.2.2.2.2.2))))), ((((z_this.2.1.1.1.1, z_this.2.1.1.1.2), (z_this.2.1.1.2.1, (z_this.2.1.1.2.2.1, z_this.2.1.1.2.2.2))), ((z_this.2.1.2.1.1, z_this.2.1.2.1.2), (z_this.2.1.2.2.1, (z_this.2.1.2.2.2.1, z_this.2.1.2.2.2.2)))), (((z_this.2.2.1.1.1, z_this.2.2.1.1.2), (z_this.2.2.1.2.1, (z_this.2.2.1.2.2.1, z_this.2.2.1.2.2.2))), ((z_this.2.2.2.1.1, (z_this.2.2.2.1.2.1, z_this.2.2.2.1.2.2)), (z_this.2.2.2.2.1, (z_this.2.2.2.2.2.1, z_this.2.2.2.2.2.2))))))) := hD
        refine lv_aload_n hx hb d_Mo_block_90 rfl (lv_at hl 0 rfl) ?_
        refine xq_go (wr := ([] : va_W)) (stk := fun r => .int r :: []) (xq_runV (As := []) (rest := []) ⟨hx, hb, hml, hown, hts⟩ (c_Mo_go (l := l) (o := o) (D := D) (k := k) (ad_this := ad_this) hw) (cw_Mo_go hts kw5_42 ⟨by simp only [rm_Mo_block, rm_Mo_go]; omega, by simp only [rm_Mo_block, rm_Mo_go]; omega⟩) (va_recv hK hP (ci := 8) (q0 := 0) rfl rfl) (hP.sub [0, 1, 2, 3, 4, 5, 6, 7, 8, 9, 10, 11, 12, 13, 14, 15, 16, 17] rfl) hK hJ hS (va_free hD hS hA [0, 1, 2, 3, 4, 5, 6, 7, 8, 9, 10, 11, 12, 13, 14, 15, 16, 17] rfl) ((hD.sub [0, 1, 2, 3, 4, 5, 6, 7, 8, 9, 10, 11, 12, 13, 14, 15, 16, 17] (by decide) rfl).weaken (fun _ _ _ _ => trivial)) rfl hl.1 (Nat.le_of_ble_eq_true rfl) d_Mo_block_91 ⟨Nat.le_of_ble_eq_true rfl, Nat.le_of_ble_eq_true rfl⟩) hP hD hS hA [0, 1, 2, 3, 4, 5, 6, 7, 8, 9, 10, 11, 12, 13, 14, 15, 16, 17] [] rfl rfl (by decide) (by decide) (fun _ => rfl) (fun r5 u5 H locs hw hP hD hS => ?_) (fun _ _ _ _ h9 => h9.elim)
        have hP : va_P D vwCl (w_Mo k ad_this u5) H := hP.sub [0, 1, 2, 3, 4, 5, 6, 7, 8, 9, 10, 11, 12, 13, 14, 15, 16, 17] rfl
        have hD : va_D A (w_Mo k ad_this u5) := hD.sub [0, 1, 2, 3, 4, 5, 6, 7, 8, 9, 10, 11, 12, 13, 14, 15, 16, 17] (by decide) rfl
        refine lv_if_eq (tgt := 110) hx hb d_Mo_block_94 (by decide) (fun hc => ?_) (fun hc => ?_)
        · have hw := hw.1 hc
          refine lv_iconst (v := (-1 : Int32)) hx hb d_Mo_block_110 (by decide) ?_
          exact xq_iret (r := (-1 : Int32)) (u := u5) hx hb hr hlocks hAe hP hD hS rfl hw (Nat.le_of_ble_eq_true rfl) (Nat.le_of_ble_eq_true rfl) d_Mo_block_111
        · have hw := hw.2 hc
          refine lv_aload_n hx hb d_Mo_block_97 rfl (lv_at hl 0 rfl) ?_
          refine lv_bipush (v := (23 : Int32)) hx hb d_Mo_block_98 (by decide) ?_
          refine lv_lconst (v := (0 : Int64)) hx hb d_Mo_block_100 (by decide) ?_
          refine lv_iload_n hx hb d_Mo_block_101 rfl (lv_at hl 1 rfl) ?_
          refine lv_iconst (v := (-1 : Int32)) hx hb d_Mo_block_102 (by decide) ?_
          refine lv_iload_n hx hb d_Mo_block_103 rfl (lv_at hl 2 rfl) ?_
          refine xq_go (wr := ([] : va_W)) (stk := fun r => .int r :: []) (xq_runV (As := [.int (23 : Int32), .long (0 : Int64), .int x1, .int (-1 : Int32), .int x2]) (rest := []) ⟨hx, hb, hml, hown, hts⟩ (c_Mo_node0 (l := l) (o := o) (D := D) (k := k) (ad_this := ad_this) hw) (cw_Mo_node0 hts kw5_162 ⟨by simp only [rm_Mo_block, rm_Mo_node0]; omega, by simp only [rm_Mo_block, rm_Mo_node0]; omega⟩) (va_recv hK hP (ci := 8) (q0 := 0) rfl rfl) (hP.sub [0, 1, 2, 3, 4, 5, 6, 7, 8, 9, 10, 11, 12, 13, 14, 15, 16, 17] rfl) hK hJ hS (va_free hD hS hA [0, 1, 2, 3, 4, 5, 6, 7, 8, 9, 10, 11, 12, 13, 14, 15, 16, 17] rfl) ((hD.sub [0, 1, 2, 3, 4, 5, 6, 7, 8, 9, 10, 11, 12, 13, 14, 15, 16, 17] (by decide) rfl).weaken (fun _ _ _ _ => trivial)) rfl hl.1 (Nat.le_of_ble_eq_true rfl) d_Mo_block_104 ⟨Nat.le_of_ble_eq_true rfl, Nat.le_of_ble_eq_true rfl⟩) hP hD hS hA [0, 1, 2, 3, 4, 5, 6, 7, 8, 9, 10, 11, 12, 13, 14, 15, 16, 17] [] rfl rfl (by decide) (by decide) (fun _ => rfl) (fun r6 u6 H locs hw hP hD hS => ?_) (fun _ _ _ _ h9 => h9.elim)
          have hP : va_P D vwCl (w_Mo k ad_this u6) H := hP.sub [0, 1, 2, 3, 4, 5, 6, 7, 8, 9, 10, 11, 12, 13, 14, 15, 16, 17] rfl
          have hD : va_D A (w_Mo k ad_this u6) := hD.sub [0, 1, 2, 3, 4, 5, 6, 7, 8, 9, 10, 11, 12, 13, 14, 15, 16, 17] (by decide) rfl
          refine lv_goto (tgt := 111) hx hb d_Mo_block_107 (by decide) ?_
          exact xq_iret (r := r6) (u := u6) hx hb hr hlocks hAe hP hD hS rfl hw (Nat.le_of_ble_eq_true rfl) (Nat.le_of_ble_eq_true rfl) d_Mo_block_111
      · have hw := hw.1 hc
        refine lv_iconst (v := (-1 : Int32)) hx hb d_Mo_block_50 (by decide) ?_
        exact xq_iret (r := (-1 : Int32)) (u := u2) hx hb hr hlocks hAe hP hD hS rfl hw (Nat.le_of_ble_eq_true rfl) (Nat.le_of_ble_eq_true rfl) d_Mo_block_51
    · have hw := hw.1 hc
      refine lv_aload_n hx hb d_Mo_block_23 rfl (lv_at hl 1 rfl) ?_
      refine xq_go (wr := ([] : va_W)) (stk := fun r => .int r :: []) (xq_runV (As := []) (rest := []) ⟨hx, hb, hml, hown, hts⟩ (c_Mo_bad (l := l) (o := o) (D := D) (k := k) (ad_this := ad_this) hw) (cw_Mo_bad hts kw5_115 ⟨by simp only [rm_Mo_block, rm_Mo_bad]; omega, by simp only [rm_Mo_block, rm_Mo_bad]; omega⟩) (va_recv hK hP (ci := 8) (q0 := 0) rfl rfl) (hP.sub [0, 1, 2, 3, 4, 5, 6, 7, 8, 9, 10, 11, 12, 13, 14, 15, 16, 17] rfl) hK hJ hS (va_free hD hS hA [0, 1, 2, 3, 4, 5, 6, 7, 8, 9, 10, 11, 12, 13, 14, 15, 16, 17] rfl) ((hD.sub [0, 1, 2, 3, 4, 5, 6, 7, 8, 9, 10, 11, 12, 13, 14, 15, 16, 17] (by decide) rfl).weaken (fun _ _ _ _ => trivial)) rfl hl.1 (Nat.le_of_ble_eq_true rfl) d_Mo_block_24 ⟨Nat.le_of_ble_eq_true rfl, Nat.le_of_ble_eq_true rfl⟩) hP hD hS hA [0, 1, 2, 3, 4, 5, 6, 7, 8, 9, 10, 11, 12, 13, 14, 15, 16, 17] [] rfl rfl (by decide) (by decide) (fun _ => rfl) (fun r7 u7 H locs hw hP hD hS => ?_) (fun _ _ _ _ h9 => h9.elim)
      have hP : va_P D vwCl (w_Mo k ad_this u7) H := hP.sub [0, 1, 2, 3, 4, 5, 6, 7, 8, 9, 10, 11, 12, 13, 14, 15, 16, 17] rfl
      have hD : va_D A (w_Mo k ad_this u7) := hD.sub [0, 1, 2, 3, 4, 5, 6, 7, 8, 9, 10, 11, 12, 13, 14, 15, 16, 17] (by decide) rfl
      exact xq_iret (r := r7) (u := u7) hx hb hr hlocks hAe hP hD hS rfl hw (Nat.le_of_ble_eq_true rfl) (Nat.le_of_ble_eq_true rfl) d_Mo_block_27
def wp_Mo_block (d : Nat) : Nat → T_Mo → (Int32 → T_Mo → Prop) → Prop
  | 0 => fun _ _ => False
  | e + 1 => wp_Mo_block_F d (wp_Mo_block d e)
def fBa (d : Nat) : Nat → Nat
  | 0 => 0
  | e + 1 => max (fBa d e + 2) (fFa d + 7)
def fMa (d : Nat) : Nat → Nat
  | 0 => 0
  | e + 1 => max (fMa d e + 48) (fLa d + 173)
theorem c_Mo_block (d e : Nat) {l : Launch} {o : State × Array Value} {D : va_G} {k : Nat → ClassId} : ∀ {ad_this : Nat → Nat} {z_this : T_Mo} {post : Int32 → T_Mo → Prop}, wp_Mo_block d e z_this post → xq_C l o y_Mo_block (.code y_Mo_block prog_10_method_27_code 4 (some (.int)) :: xq_W) { frames := fBa d e, cells := 0, slots := 0, locals := fMa d e } D vwCl (xt k) [.ref (ad_this 0)] (w_Mo k ad_this z_this) (fun r : Int32 => some (.int r)) post (fun _ : T_Mo => False) (fun u : T_Mo => w_Mo k ad_this u) 0 0 0 0 := by
  induction e with
  | zero => intro ad_this z_this post hw; exact False.elim hw
  | succ e ih => intro ad_this z_this post hw; exact c_Mo_block_F (F := fBa d e) (L := fMa d e) (hrf := @ih) hw
