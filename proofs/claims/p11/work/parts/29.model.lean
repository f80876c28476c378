theorem kw6_35 : (Jvm.Cond.code ({ cls := "StepTextModel", name := "blockOut", desc := "(I)V" } : Jvm.MethodName) prog_10_method_60_code (3 : Nat) (Option.none : Option Jvm.ClassFile.FieldType)) ∈ xq_W := xq_in tb_6 35 rfl rfl
theorem kw6_34 : (Jvm.Cond.instanceMethod ({ cls := "StepTextModel", name := "blockOut", desc := "(I)V" } : Jvm.MethodName)) ∈ xq_W := xq_in tb_6 34 (by decide +kernel) rfl
theorem kp6_10 : Cond.selects "StepTextModel" (⟨"StepTextModel", "blockOut", "(I)V"⟩ : MethodName) (⟨"StepTextModel", "blockOut", "(I)V"⟩ : MethodName) ∈ xq_W := xq_inp tp_6 (y := (⟨"StepTextModel", "blockOut", "(I)V"⟩ : MethodName)) (k := 42) 10 (by decide +kernel)
theorem kw6_32 : (Jvm.Cond.methodLink "StepTextModel" (388 : Nat) ({ cls := "StepTextModel", name := "blockOut", desc := "(I)V" } : Jvm.MethodName)) ∈ xq_W := xq_in tb_6 32 (by decide +kernel) rfl
theorem kw6_36 : (Jvm.Cond.methodLink "StepTextModel" (382 : Nat) ({ cls := "StepTextModel", name := "newLine", desc := "()V" } : Jvm.MethodName)) ∈ xq_W := xq_in tb_6 36 (by decide +kernel) rfl
theorem kw6_74 : (Jvm.Cond.constantLong "StepTextModel" (391 : Nat) (59 : Int64)) ∈ xq_W := xq_in tb_6 74 (by decide +kernel) rfl
theorem kw6_43 : (Jvm.Cond.code ({ cls := "StepTextModel", name := "statementOut", desc := "(I)V" } : Jvm.MethodName) prog_10_method_61_code (6 : Nat) (Option.none : Option Jvm.ClassFile.FieldType)) ∈ xq_W := xq_in tb_6 43 rfl rfl
theorem kw6_42 : (Jvm.Cond.instanceMethod ({ cls := "StepTextModel", name := "statementOut", desc := "(I)V" } : Jvm.MethodName)) ∈ xq_W := xq_in tb_6 42 (by decide +kernel) rfl
theorem kp6_12 : Cond.selects "StepTextModel" (⟨"StepTextModel", "statementOut", "(I)V"⟩ : MethodName) (⟨"StepTextModel", "statementOut", "(I)V"⟩ : MethodName) ∈ xq_W := xq_inp tp_6 (y := (⟨"StepTextModel", "statementOut", "(I)V"⟩ : MethodName)) (k := 42) 12 (by decide +kernel)
theorem kw6_40 : (Jvm.Cond.methodLink "StepTextModel" (385 : Nat) ({ cls := "StepTextModel", name := "statementOut", desc := "(I)V" } : Jvm.MethodName)) ∈ xq_W := xq_in tb_6 40 (by decide +kernel) rfl
def y_Mo_blockOut : MethodName := ⟨"StepTextModel", "blockOut", "(I)V"⟩
theorem cw_Mo_blockOut {R : Room} {s : State} {args : Array Value} {own : String} {index : Nat} (hts : ∀ w ∈ xq_W, w.before args s = true) (hl : .methodLink own index y_Mo_blockOut ∈ xq_W) {rm : Room} (hR : rm.frames + 1 ≤ R.frames ∧ 8 + (3 + 11) + rm.locals ≤ R.locals) : CallW R s args own "StepTextModel" index y_Mo_blockOut prog_10_method_60_code 3 none (.code y_Mo_blockOut prog_10_method_60_code 3 none :: xq_W) rm rm.cells rm.slots 1 := ⟨xq_cb 1 hts kw6_35 kw1_13 hl ⟨by decide, by decide, by decide +kernel⟩ hR, hts _ kw6_34, hts _ kp6_10⟩
def y_Mo_statementOut : MethodName := ⟨"StepTextModel", "statementOut", "(I)V"⟩
theorem d_Mo_statementOut_0 : decode prog_10_method_61_code 0 = .ok (.aload_n 0, 1) := by decide +kernel
theorem d_Mo_statementOut_1 : decode prog_10_method_61_code 1 = .ok (.getfield 13, 3) := by decide +kernel
theorem d_Mo_statementOut_4 : decode prog_10_method_61_code 4 = .ok (.aload_n 0, 1) := by decide +kernel
theorem d_Mo_statementOut_5 : decode prog_10_method_61_code 5 = .ok (.iload_n 1, 1) := by decide +kernel
theorem d_Mo_statementOut_6 : decode prog_10_method_61_code 6 = .ok (.invokevirtual 301, 3) := by decide +kernel
theorem d_Mo_statementOut_9 : decode prog_10_method_61_code 9 = .ok (.iaload, 1) := by decide +kernel
theorem d_Mo_statementOut_10 : decode prog_10_method_61_code 10 = .ok (.istore_n 2, 1) := by decide +kernel
theorem d_Mo_statementOut_11 : decode prog_10_method_61_code 11 = .ok (.aload_n 0, 1) := by decide +kernel
theorem d_Mo_statementOut_12 : decode prog_10_method_61_code 12 = .ok (.getfield 30, 3) := by decide +kernel
theorem d_Mo_statementOut_15 : decode prog_10_method_61_code 15 = .ok (.aload_n 0, 1) := by decide +kernel
theorem d_Mo_statementOut_16 : decode prog_10_method_61_code 16 = .ok (.iload_n 1, 1) := by decide +kernel
theorem d_Mo_statementOut_17 : decode prog_10_method_61_code 17 = .ok (.invokevirtual 301, 3) := by decide +kernel
theorem d_Mo_statementOut_20 : decode prog_10_method_61_code 20 = .ok (.iaload, 1) := by decide +kernel
theorem d_Mo_statementOut_21 : decode prog_10_method_61_code 21 = .ok (.istore_n 3, 1) := by decide +kernel
theorem d_Mo_statementOut_22 : decode prog_10_method_61_code 22 = .ok (.iload_n 2, 1) := by decide +kernel
theorem d_Mo_statementOut_23 : decode prog_10_method_61_code 23 = .ok (.tableswitch 237 10 21 #[61, 85, 95, 105, 129, 139, 149, 159, 169, 193, 217, 227], 61) := by decide +kernel
theorem d_Mo_statementOut_84 : decode prog_10_method_61_code 84 = .ok (.aload_n 0, 1) := by decide +kernel
theorem d_Mo_statementOut_85 : decode prog_10_method_61_code 85 = .ok (.ldc2_w 76, 3) := by decide +kernel
theorem d_Mo_statementOut_88 : decode prog_10_method_61_code 88 = .ok (.invokevirtual 341, 3) := by decide +kernel
theorem d_Mo_statementOut_91 : decode prog_10_method_61_code 91 = .ok (.aload_n 0, 1) := by decide +kernel
theorem d_Mo_statementOut_92 : decode prog_10_method_61_code 92 = .ok (.aload_n 0, 1) := by decide +kernel
theorem d_Mo_statementOut_93 : decode prog_10_method_61_code 93 = .ok (.getfield 17, 3) := by decide +kernel
theorem d_Mo_statementOut_96 : decode prog_10_method_61_code 96 = .ok (.aload_n 0, 1) := by decide +kernel
theorem d_Mo_statementOut_97 : decode prog_10_method_61_code 97 = .ok (.iload_n 1, 1) := by decide +kernel
theorem d_Mo_statementOut_98 : decode prog_10_method_61_code 98 = .ok (.invokevirtual 301, 3) := by decide +kernel
theorem d_Mo_statementOut_101 : decode prog_10_method_61_code 101 = .ok (.laload, 1) := by decide +kernel
theorem d_Mo_statementOut_102 : decode prog_10_method_61_code 102 = .ok (.invokevirtual 361, 3) := by decide +kernel
theorem d_Mo_statementOut_105 : decode prog_10_method_61_code 105 = .ok (.goto 181, 3) := by decide +kernel
theorem d_Mo_statementOut_108 : decode prog_10_method_61_code 108 = .ok (.aload_n 0, 1) := by decide +kernel
theorem d_Mo_statementOut_109 : decode prog_10_method_61_code 109 = .ok (.ldc2_w 82, 3) := by decide +kernel
theorem d_Mo_statementOut_112 : decode prog_10_method_61_code 112 = .ok (.invokevirtual 341, 3) := by decide +kernel
theorem d_Mo_statementOut_115 : decode prog_10_method_61_code 115 = .ok (.goto 171, 3) := by decide +kernel
theorem d_Mo_statementOut_118 : decode prog_10_method_61_code 118 = .ok (.aload_n 0, 1) := by decide +kernel
theorem d_Mo_statementOut_119 : decode prog_10_method_61_code 119 = .ok (.ldc2_w 84, 3) := by decide +kernel
theorem d_Mo_statementOut_122 : decode prog_10_method_61_code 122 = .ok (.invokevirtual 341, 3) := by decide +kernel
theorem d_Mo_statementOut_125 : decode prog_10_method_61_code 125 = .ok (.goto 161, 3) := by decide +kernel
theorem d_Mo_statementOut_128 : decode prog_10_method_61_code 128 = .ok (.aload_n 0, 1) := by decide +kernel
theorem d_Mo_statementOut_129 : decode prog_10_method_61_code 129 = .ok (.ldc2_w 86, 3) := by decide +kernel
theorem d_Mo_statementOut_132 : decode prog_10_method_61_code 132 = .ok (.invokevirtual 341, 3) := by decide +kernel
theorem d_Mo_statementOut_135 : decode prog_10_method_61_code 135 = .ok (.aload_n 0, 1) := by decide +kernel
theorem d_Mo_statementOut_136 : decode prog_10_method_61_code 136 = .ok (.aload_n 0, 1) := by decide +kernel
theorem d_Mo_statementOut_137 : decode prog_10_method_61_code 137 = .ok (.getfield 17, 3) := by decide +kernel
theorem d_Mo_statementOut_140 : decode prog_10_method_61_code 140 = .ok (.aload_n 0, 1) := by decide +kernel
theorem d_Mo_statementOut_141 : decode prog_10_method_61_code 141 = .ok (.iload_n 1, 1) := by decide +kernel
theorem d_Mo_statementOut_142 : decode prog_10_method_61_code 142 = .ok (.invokevirtual 301, 3) := by decide +kernel
theorem d_Mo_statementOut_145 : decode prog_10_method_61_code 145 = .ok (.laload, 1) := by decide +kernel
theorem d_Mo_statementOut_146 : decode prog_10_method_61_code 146 = .ok (.invokevirtual 361, 3) := by decide +kernel
theorem d_Mo_statementOut_149 : decode prog_10_method_61_code 149 = .ok (.goto 137, 3) := by decide +kernel
theorem d_Mo_statementOut_152 : decode prog_10_method_61_code 152 = .ok (.aload_n 0, 1) := by decide +kernel
theorem d_Mo_statementOut_153 : decode prog_10_method_61_code 153 = .ok (.ldc2_w 88, 3) := by decide +kernel
theorem d_Mo_statementOut_156 : decode prog_10_method_61_code 156 = .ok (.invokevirtual 341, 3) := by decide +kernel
theorem d_Mo_statementOut_159 : decode prog_10_method_61_code 159 = .ok (.goto 127, 3) := by decide +kernel
theorem d_Mo_statementOut_162 : decode prog_10_method_61_code 162 = .ok (.aload_n 0, 1) := by decide +kernel
theorem d_Mo_statementOut_163 : decode prog_10_method_61_code 163 = .ok (.ldc2_w 90, 3) := by decide +kernel
theorem d_Mo_statementOut_166 : decode prog_10_method_61_code 166 = .ok (.invokevirtual 341, 3) := by decide +kernel
theorem d_Mo_statementOut_169 : decode prog_10_method_61_code 169 = .ok (.goto 117, 3) := by decide +kernel
theorem d_Mo_statementOut_172 : decode prog_10_method_61_code 172 = .ok (.aload_n 0, 1) := by decide +kernel
theorem d_Mo_statementOut_173 : decode prog_10_method_61_code 173 = .ok (.ldc2_w 92, 3) := by decide +kernel
theorem d_Mo_statementOut_176 : decode prog_10_method_61_code 176 = .ok (.invokevirtual 341, 3) := by decide +kernel
theorem d_Mo_statementOut_179 : decode prog_10_method_61_code 179 = .ok (.goto 107, 3) := by decide +kernel
theorem d_Mo_statementOut_182 : decode prog_10_method_61_code 182 = .ok (.aload_n 0, 1) := by decide +kernel
theorem d_Mo_statementOut_183 : decode prog_10_method_61_code 183 = .ok (.ldc2_w 94, 3) := by decide +kernel
theorem d_Mo_statementOut_186 : decode prog_10_method_61_code 186 = .ok (.invokevirtual 341, 3) := by decide +kernel
theorem d_Mo_statementOut_189 : decode prog_10_method_61_code 189 = .ok (.goto 97, 3) := by decide +kernel
theorem d_Mo_statementOut_192 : decode prog_10_method_61_code 192 = .ok (.aload_n 0, 1) := by decide +kernel
theorem d_Mo_statementOut_193 : decode prog_10_method_61_code 193 = .ok (.ldc2_w 96, 3) := by decide +kernel
theorem d_Mo_statementOut_196 : decode prog_10_method_61_code 196 = .ok (.invokevirtual 341, 3) := by decide +kernel
theorem d_Mo_statementOut_199 : decode prog_10_method_61_code 199 = .ok (.aload_n 0, 1) := by decide +kernel
theorem d_Mo_statementOut_200 : decode prog_10_method_61_code 200 = .ok (.aload_n 0, 1) := by decide +kernel
theorem d_Mo_statementOut_201 : decode prog_10_method_61_code 201 = .ok (.getfield 17, 3) := by decide +kernel
theorem d_Mo_statementOut_204 : decode prog_10_method_61_code 204 = .ok (.aload_n 0, 1) := by decide +kernel
theorem d_Mo_statementOut_205 : decode prog_10_method_61_code 205 = .ok (.iload_n 1, 1) := by decide +kernel
theorem d_Mo_statementOut_206 : decode prog_10_method_61_code 206 = .ok (.invokevirtual 301, 3) := by decide +kernel
theorem d_Mo_statementOut_209 : decode prog_10_method_61_code 209 = .ok (.laload, 1) := by decide +kernel
theorem d_Mo_statementOut_210 : decode prog_10_method_61_code 210 = .ok (.invokevirtual 361, 3) := by decide +kernel
theorem d_Mo_statementOut_213 : decode prog_10_method_61_code 213 = .ok (.goto 73, 3) := by decide +kernel
theorem d_Mo_statementOut_216 : decode prog_10_method_61_code 216 = .ok (.aload_n 0, 1) := by decide +kernel
theorem d_Mo_statementOut_217 : decode prog_10_method_61_code 217 = .ok (.ldc2_w 98, 3) := by decide +kernel
theorem d_Mo_statementOut_220 : decode prog_10_method_61_code 220 = .ok (.invokevirtual 341, 3) := by decide +kernel
theorem d_Mo_statementOut_223 : decode prog_10_method_61_code 223 = .ok (.aload_n 0, 1) := by decide +kernel
theorem d_Mo_statementOut_224 : decode prog_10_method_61_code 224 = .ok (.aload_n 0, 1) := by decide +kernel
theorem d_Mo_statementOut_225 : decode prog_10_method_61_code 225 = .ok (.getfield 17, 3) := by decide +kernel
theorem d_Mo_statementOut_228 : decode prog_10_method_61_code 228 = .ok (.aload_n 0, 1) := by decide +kernel
theorem d_Mo_statementOut_229 : decode prog_10_method_61_code 229 = .ok (.iload_n 1, 1) := by decide +kernel
theorem d_Mo_statementOut_230 : decode prog_10_method_61_code 230 = .ok (.invokevirtual 301, 3) := by decide +kernel
theorem d_Mo_statementOut_233 : decode prog_10_method_61_code 233 = .ok (.laload, 1) := by decide +kernel
theorem d_Mo_statementOut_234 : decode prog_10_method_61_code 234 = .ok (.invokevirtual 361, 3) := by decide +kernel
theorem d_Mo_statementOut_237 : decode prog_10_method_61_code 237 = .ok (.goto 49, 3) := by decide +kernel
theorem d_Mo_statementOut_240 : decode prog_10_method_61_code 240 = .ok (.aload_n 0, 1) := by decide +kernel
theorem d_Mo_statementOut_241 : decode prog_10_method_61_code 241 = .ok (.ldc2_w 100, 3) := by decide +kernel
theorem d_Mo_statementOut_244 : decode prog_10_method_61_code 244 = .ok (.invokevirtual 341, 3) := by decide +kernel
theorem d_Mo_statementOut_247 : decode prog_10_method_61_code 247 = .ok (.goto 39, 3) := by decide +kernel
theorem d_Mo_statementOut_250 : decode prog_10_method_61_code 250 = .ok (.aload_n 0, 1) := by decide +kernel
theorem d_Mo_statementOut_251 : decode prog_10_method_61_code 251 = .ok (.ldc2_w 102, 3) := by decide +kernel
theorem d_Mo_statementOut_254 : decode prog_10_method_61_code 254 = .ok (.invokevirtual 341, 3) := by decide +kernel
theorem d_Mo_statementOut_257 : decode prog_10_method_61_code 257 = .ok (.goto 29, 3) := by decide +kernel
theorem d_Mo_statementOut_260 : decode prog_10_method_61_code 260 = .ok (.aload_n 0, 1) := by decide +kernel
theorem d_Mo_statementOut_261 : decode prog_10_method_61_code 261 = .ok (.ldc2_w 104, 3) := by decide +kernel
theorem d_Mo_statementOut_264 : decode prog_10_method_61_code 264 = .ok (.invokevirtual 341, 3) := by decide +kernel
theorem d_Mo_statementOut_267 : decode prog_10_method_61_code 267 = .ok (.aload_n 0, 1) := by decide +kernel
theorem d_Mo_statementOut_268 : decode prog_10_method_61_code 268 = .ok (.aload_n 0, 1) := by decide +kernel
theorem d_Mo_statementOut_269 : decode prog_10_method_61_code 269 = .ok (.getfield 17, 3) := by decide +kernel
theorem d_Mo_statementOut_272 : decode prog_10_method_61_code 272 = .ok (.aload_n 0, 1) := by decide +kernel
theorem d_Mo_statementOut_273 : decode prog_10_method_61_code 273 = .ok (.iload_n 1, 1) := by decide +kernel
theorem d_Mo_statementOut_274 : decode prog_10_method_61_code 274 = .ok (.invokevirtual 301, 3) := by decide +kernel
theorem d_Mo_statementOut_277 : decode prog_10_method_61_code 277 = .ok (.laload, 1) := by decide +kernel
theorem d_Mo_statementOut_278 : decode prog_10_method_61_code 278 = .ok (.invokevirtual 345, 3) := by decide +kernel
theorem d_Mo_statementOut_281 : decode prog_10_method_61_code 281 = .ok (.aload_n 0, 1) := by decide +kernel
theorem d_Mo_statementOut_282 : decode prog_10_method_61_code 282 = .ok (.iconst 1, 1) := by decide +kernel
theorem d_Mo_statementOut_283 : decode prog_10_method_61_code 283 = .ok (.putfield 332, 3) := by decide +kernel
theorem d_Mo_statementOut_286 : decode prog_10_method_61_code 286 = .ok (.iload_n 2, 1) := by decide +kernel
theorem d_Mo_statementOut_287 : decode prog_10_method_61_code 287 = .ok (.bipush 14, 2) := by decide +kernel
theorem d_Mo_statementOut_289 : decode prog_10_method_61_code 289 = .ok (.if_icmp .lt 13, 3) := by decide +kernel
theorem d_Mo_statementOut_292 : decode prog_10_method_61_code 292 = .ok (.iload_n 2, 1) := by decide +kernel
theorem d_Mo_statementOut_293 : decode prog_10_method_61_code 293 = .ok (.bipush 17, 2) := by decide +kernel
theorem d_Mo_statementOut_295 : decode prog_10_method_61_code 295 = .ok (.if_icmp .gt 7, 3) := by decide +kernel
theorem d_Mo_statementOut_298 : decode prog_10_method_61_code 298 = .ok (.iconst 1, 1) := by decide +kernel
theorem d_Mo_statementOut_299 : decode prog_10_method_61_code 299 = .ok (.goto 4, 3) := by decide +kernel
theorem d_Mo_statementOut_302 : decode prog_10_method_61_code 302 = .ok (.iconst 0, 1) := by decide +kernel
theorem d_Mo_statementOut_303 : decode prog_10_method_61_code 303 = .ok (.istore 4, 2) := by decide +kernel
theorem d_Mo_statementOut_305 : decode prog_10_method_61_code 305 = .ok (.iconst 0, 1) := by decide +kernel
theorem d_Mo_statementOut_306 : decode prog_10_method_61_code 306 = .ok (.istore 5, 2) := by decide +kernel
theorem d_Mo_statementOut_308 : decode prog_10_method_61_code 308 = .ok (.iload 5, 2) := by decide +kernel
theorem d_Mo_statementOut_310 : decode prog_10_method_61_code 310 = .ok (.iload_n 3, 1) := by decide +kernel
theorem d_Mo_statementOut_311 : decode prog_10_method_61_code 311 = .ok (.if_icmp .ge 116, 3) := by decide +kernel
theorem d_Mo_statementOut_314 : decode prog_10_method_61_code 314 = .ok (.aload_n 0, 1) := by decide +kernel
theorem d_Mo_statementOut_315 : decode prog_10_method_61_code 315 = .ok (.getfield 13, 3) := by decide +kernel
theorem d_Mo_statementOut_318 : decode prog_10_method_61_code 318 = .ok (.aload_n 0, 1) := by decide +kernel
theorem d_Mo_statementOut_319 : decode prog_10_method_61_code 319 = .ok (.aload_n 0, 1) := by decide +kernel
theorem d_Mo_statementOut_320 : decode prog_10_method_61_code 320 = .ok (.iload_n 1, 1) := by decide +kernel
theorem d_Mo_statementOut_321 : decode prog_10_method_61_code 321 = .ok (.iload 5, 2) := by decide +kernel
theorem d_Mo_statementOut_323 : decode prog_10_method_61_code 323 = .ok (.invokevirtual 306, 3) := by decide +kernel
theorem d_Mo_statementOut_326 : decode prog_10_method_61_code 326 = .ok (.invokevirtual 301, 3) := by decide +kernel
theorem d_Mo_statementOut_329 : decode prog_10_method_61_code 329 = .ok (.iaload, 1) := by decide +kernel
theorem d_Mo_statementOut_330 : decode prog_10_method_61_code 330 = .ok (.bipush 23, 2) := by decide +kernel
theorem d_Mo_statementOut_332 : decode prog_10_method_61_code 332 = .ok (.if_icmp .ne 58, 3) := by decide +kernel
theorem d_Mo_statementOut_335 : decode prog_10_method_61_code 335 = .ok (.iload 5, 2) := by decide +kernel
theorem d_Mo_statementOut_337 : decode prog_10_method_61_code 337 = .ok (.iconst 2, 1) := by decide +kernel
theorem d_Mo_statementOut_338 : decode prog_10_method_61_code 338 = .ok (.if_icmp .ne 19, 3) := by decide +kernel
theorem d_Mo_statementOut_341 : decode prog_10_method_61_code 341 = .ok (.iload_n 2, 1) := by decide +kernel
theorem d_Mo_statementOut_342 : decode prog_10_method_61_code 342 = .ok (.bipush 15, 2) := by decide +kernel
theorem d_Mo_statementOut_344 : decode prog_10_method_61_code 344 = .ok (.if_icmp .ne 13, 3) := by decide +kernel
theorem d_Mo_statementOut_347 : decode prog_10_method_61_code 347 = .ok (.aload_n 0, 1) := by decide +kernel
theorem d_Mo_statementOut_348 : decode prog_10_method_61_code 348 = .ok (.ldc2_w 114, 3) := by decide +kernel
theorem d_Mo_statementOut_351 : decode prog_10_method_61_code 351 = .ok (.invokevirtual 341, 3) := by decide +kernel
theorem d_Mo_statementOut_354 : decode prog_10_method_61_code 354 = .ok (.goto 22, 3) := by decide +kernel
theorem d_Mo_statementOut_357 : decode prog_10_method_61_code 357 = .ok (.iload 5, 2) := by decide +kernel
theorem d_Mo_statementOut_359 : decode prog_10_method_61_code 359 = .ok (.iconst 2, 1) := by decide +kernel
theorem d_Mo_statementOut_360 : decode prog_10_method_61_code 360 = .ok (.if_icmp .ne 16, 3) := by decide +kernel
theorem d_Mo_statementOut_363 : decode prog_10_method_61_code 363 = .ok (.iload_n 2, 1) := by decide +kernel
theorem d_Mo_statementOut_364 : decode prog_10_method_61_code 364 = .ok (.bipush 17, 2) := by decide +kernel
theorem d_Mo_statementOut_366 : decode prog_10_method_61_code 366 = .ok (.if_icmp .ne 10, 3) := by decide +kernel
theorem d_Mo_statementOut_369 : decode prog_10_method_61_code 369 = .ok (.aload_n 0, 1) := by decide +kernel
theorem d_Mo_statementOut_370 : decode prog_10_method_61_code 370 = .ok (.ldc2_w 116, 3) := by decide +kernel
theorem d_Mo_statementOut_373 : decode prog_10_method_61_code 373 = .ok (.invokevirtual 341, 3) := by decide +kernel
theorem d_Mo_statementOut_376 : decode prog_10_method_61_code 376 = .ok (.aload_n 0, 1) := by decide +kernel
theorem d_Mo_statementOut_377 : decode prog_10_method_61_code 377 = .ok (.aload_n 0, 1) := by decide +kernel
theorem d_Mo_statementOut_378 : decode prog_10_method_61_code 378 = .ok (.iload_n 1, 1) := by decide +kernel
theorem d_Mo_statementOut_379 : decode prog_10_method_61_code 379 = .ok (.iload 5, 2) := by decide +kernel
theorem d_Mo_statementOut_381 : decode prog_10_method_61_code 381 = .ok (.invokevirtual 306, 3) := by decide +kernel
theorem d_Mo_statementOut_384 : decode prog_10_method_61_code 384 = .ok (.invokevirtual 388, 3) := by decide +kernel
theorem d_Mo_statementOut_387 : decode prog_10_method_61_code 387 = .ok (.goto 34, 3) := by decide +kernel
theorem d_Mo_statementOut_390 : decode prog_10_method_61_code 390 = .ok (.aload_n 0, 1) := by decide +kernel
theorem d_Mo_statementOut_391 : decode prog_10_method_61_code 391 = .ok (.aload_n 0, 1) := by decide +kernel
theorem d_Mo_statementOut_392 : decode prog_10_method_61_code 392 = .ok (.iload_n 1, 1) := by decide +kernel
theorem d_Mo_statementOut_393 : decode prog_10_method_61_code 393 = .ok (.iload 5, 2) := by decide +kernel
theorem d_Mo_statementOut_395 : decode prog_10_method_61_code 395 = .ok (.invokevirtual 306, 3) := by decide +kernel
theorem d_Mo_statementOut_398 : decode prog_10_method_61_code 398 = .ok (.iconst (-1), 1) := by decide +kernel
theorem d_Mo_statementOut_399 : decode prog_10_method_61_code 399 = .ok (.iconst 1, 1) := by decide +kernel
theorem d_Mo_statementOut_400 : decode prog_10_method_61_code 400 = .ok (.invokevirtual 366, 3) := by decide +kernel
theorem d_Mo_statementOut_403 : decode prog_10_method_61_code 403 = .ok (.iload 5, 2) := by decide +kernel
theorem d_Mo_statementOut_405 : decode prog_10_method_61_code 405 = .ok (.ifCond .ne 16, 3) := by decide +kernel
theorem d_Mo_statementOut_408 : decode prog_10_method_61_code 408 = .ok (.iload_n 2, 1) := by decide +kernel
theorem d_Mo_statementOut_409 : decode prog_10_method_61_code 409 = .ok (.bipush 13, 2) := by decide +kernel
theorem d_Mo_statementOut_411 : decode prog_10_method_61_code 411 = .ok (.if_icmp .ne 10, 3) := by decide +kernel
theorem d_Mo_statementOut_414 : decode prog_10_method_61_code 414 = .ok (.aload_n 0, 1) := by decide +kernel
theorem d_Mo_statementOut_415 : decode prog_10_method_61_code 415 = .ok (.ldc2_w 112, 3) := by decide +kernel
theorem d_Mo_statementOut_418 : decode prog_10_method_61_code 418 = .ok (.invokevirtual 341, 3) := by decide +kernel
theorem d_Mo_statementOut_421 : decode prog_10_method_61_code 421 = .ok (.iinc 5 1, 3) := by decide +kernel
theorem d_Mo_statementOut_424 : decode prog_10_method_61_code 424 = .ok (.goto (-116), 3) := by decide +kernel
theorem d_Mo_statementOut_427 : decode prog_10_method_61_code 427 = .ok (.iload 4, 2) := by decide +kernel
theorem d_Mo_statementOut_429 : decode prog_10_method_61_code 429 = .ok (.ifCond .ne 10, 3) := by decide +kernel
theorem d_Mo_statementOut_432 : decode prog_10_method_61_code 432 = .ok (.aload_n 0, 1) := by decide +kernel
theorem d_Mo_statementOut_433 : decode prog_10_method_61_code 433 = .ok (.ldc2_w 391, 3) := by decide +kernel
theorem d_Mo_statementOut_436 : decode prog_10_method_61_code 436 = .ok (.invokevirtual 341, 3) := by decide +kernel
theorem d_Mo_statementOut_439 : decode prog_10_method_61_code 439 = .ok (.aload_n 0, 1) := by decide +kernel
theorem d_Mo_statementOut_440 : decode prog_10_method_61_code 440 = .ok (.invokevirtual 382, 3) := by decide +kernel
theorem d_Mo_statementOut_443 : decode prog_10_method_61_code 443 = .ok (.return_, 1) := by decide +kernel
def wp_Mo_statementOut_L308 (d : Nat) (rf : T_Mo → Int32 → (Unit → T_Mo → Prop) → Prop) (K : T_Mo → Int32 → Int32 → Int32 → Int32 → Int32 → Prop) (post : Unit → T_Mo → Prop) : Nat → T_Mo → Int32 → Int32 → Int32 → Int32 → Int32 → Prop
  | 0, _, _, _, _, _, _ => False
  | n9 + 1, z_this, x1, x2, x3, x4, x5 => (x3 ≤ x5 → (K z_this x1 x2 x3 x4 x5)) ∧ (¬ x3 ≤ x5 → (wp_Mo_kid z_this x1 x5 (fun (r6 : Int32) (u6 : Unit) => wp_Mo_node1 z_this r6 (fun (r7 : Int32) (u7 : Unit) => vp_in r7 2000 ∧ (((z_this.1.2.1.2.2.2 (r7).toNatClampNeg) = (23 : Int32) → ((x5 = (2 : Int32) → ((x2 = (15 : Int32) → (wp_Mo_word z_this (1702063205 : Int64) (fun (r25 : Unit) (u25 : T_Mo) => wp_Mo_kid u25 x1 x5 (fun (r26 : Int32) (u26 : Unit) => rf u25 r26 (fun (r27 : Unit) (u27 : T_Mo) => wp_Mo_statementOut_L308 d rf K post n9 u27 x1 x2 x3 x4 (x5 + (1 : Int32))))))) ∧ (¬ x2 = (15 : Int32) → ((x5 = (2 : Int32) → ((x2 = (17 : Int32) → (wp_Mo_word z_this (1852139636 : Int64) (fun (r22 : Unit) (u22 : T_Mo) => wp_Mo_kid u22 x1 x5 (fun (r23 : Int32) (u23 : Unit) => rf u22 r23 (fun (r24 : Unit) (u24 : T_Mo) => wp_Mo_statementOut_L308 d rf K post n9 u24 x1 x2 x3 x4 (x5 + (1 : Int32))))))) ∧ (¬ x2 = (17 : Int32) → (wp_Mo_kid z_this x1 x5 (fun (r20 : Int32) (u20 : Unit) => rf z_this r20 (fun (r21 : Unit) (u21 : T_Mo) => wp_Mo_statementOut_L308 d rf K post n9 u21 x1 x2 x3 x4 (x5 + (1 : Int32)))))))) ∧ (¬ x5 = (2 : Int32) → (wp_Mo_kid z_this x1 x5 (fun (r18 : Int32) (u18 : Unit) => rf z_this r18 (fun (r19 : Unit) (u19 : T_Mo) => wp_Mo_statementOut_L308 d rf K post n9 u19 x1 x2 x3 x4 (x5 + (1 : Int32)))))))))) ∧ (¬ x5 = (2 : Int32) → ((x5 = (2 : Int32) → ((x2 = (17 : Int32) → (wp_Mo_word z_this (1852139636 : Int64) (fun (r15 : Unit) (u15 : T_Mo) => wp_Mo_kid u15 x1 x5 (fun (r16 : Int32) (u16 : Unit) => rf u15 r16 (fun (r17 : Unit) (u17 : T_Mo) => wp_Mo_statementOut_L308 d rf K post n9 u17 x1 x2 x3 x4 (x5 + (1 : Int32))))))) ∧ (¬ x2 = (17 : Int32) → (wp_Mo_kid z_this x1 x5 (fun (r13 : Int32) (u13 : Unit) => rf z_this r13 (fun (r14 : Unit) (u14 : T_Mo) => wp_Mo_statementOut_L308 d rf K post n9 u14 x1 x2 x3 x4 (x5 + (1 : Int32)))))))) ∧ (¬ x5 = (2 : Int32) → (wp_Mo_kid z_this x1 x5 (fun (r11 : Int32) (u11 : Unit) => rf z_this r11 (fun (r12 : Unit) (u12 : T_Mo) => wp_Mo_statementOut_L308 d rf K post n9 u12 x1 x2 x3 x4 (x5 + (1 : Int32)))))))))) ∧ (¬ (z_this.1.2.1.2.2.2 (r7).toNatClampNeg) = (23 : Int32) → (wp_Mo_kid z_this x1 x5 (fun (r8 : Int32) (u8 : Unit) => wp_Mo_sumOut d z_this r8 (-1 : Int32) (1 : Int32) (fun (r9 : Unit) (u9 : T_Mo) => (x5 = 0 → ((x2 = (13 : Int32) → (wp_Mo_word u9 (28265 : Int64) (fun (r10 : Unit) (u10 : T_Mo) => wp_Mo_statementOut_L308 d rf K post n9 u10 x1 x2 x3 x4 (x5 + (1 : Int32))))) ∧ (¬ x2 = (13 : Int32) → (wp_Mo_statementOut_L308 d rf K post n9 u9 x1 x2 x3 x4 (x5 + (1 : Int32)))))) ∧ (¬ x5 = 0 → (wp_Mo_statementOut_L308 d rf K post n9 u9 x1 x2 x3 x4 (x5 + (1 : Int32)))))))))))))
def wp_Mo_statementOut_J439 (d : Nat) (rf : T_Mo → Int32 → (Unit → T_Mo → Prop) → Prop) (post : Unit → T_Mo → Prop) (z_this : T_Mo) (x1 : Int32) (x2 : Int32) (x3 : Int32) (x4 : Int32) (x5 : Int32) : Prop := wp_Mo_newLine z_this (fun (r28 : Unit) (u28 : T_Mo) => post () u28)
def wp_Mo_statementOut_J303 (d : Nat) (rf : T_Mo → Int32 → (Unit → T_Mo → Prop) → Prop) (post : Unit → T_Mo → Prop) (z_this : T_Mo) (x1 : Int32) (x2 : Int32) (x3 : Int32) (y0 : Int32) : Prop := ∃ k9 : Nat, wp_Mo_statementOut_L308 d rf (fun (z_this : T_Mo) (x1 : Int32) (x2 : Int32) (x3 : Int32) (x4 : Int32) (x5 : Int32) => (x4 = 0 → (wp_Mo_word z_this (59 : Int64) (fun (r29 : Unit) (u29 : T_Mo) => wp_Mo_statementOut_J439 d rf post u29 x1 x2 x3 x4 x5))) ∧ (¬ x4 = 0 → (wp_Mo_statementOut_J439 d rf post z_this x1 x2 x3 x4 x5))) post k9 z_this x1 x2 x3 y0 (0 : Int32)
def wp_Mo_statementOut_J302 (d : Nat) (rf : T_Mo → Int32 → (Unit → T_Mo → Prop) → Prop) (post : Unit → T_Mo → Prop) (z_this : T_Mo) (x1 : Int32) (x2 : Int32) (x3 : Int32) : Prop := wp_Mo_statementOut_J303 d rf post z_this x1 x2 x3 (0 : Int32)
def wp_Mo_statementOut_J286 (d : Nat) (rf : T_Mo → Int32 → (Unit → T_Mo → Prop) → Prop) (post : Unit → T_Mo → Prop) (z_this : T_Mo) (x1 : Int32) (x2 : Int32) (x3 : Int32) : Prop := (x2 < (14 : Int32) → (wp_Mo_statementOut_J302 d rf post z_this x1 x2 x3)) ∧ (¬ x2 < (14 : Int32) → (((17 : Int32) < x2 → (wp_Mo_statementOut_J302 d rf post z_this x1 x2 x3)) ∧ (¬ (17 : Int32) < x2 → (wp_Mo_statementOut_J303 d rf post z_this x1 x2 x3 (1 : Int32)))))
def wp_Mo_statementOut (d : Nat) (rf : T_Mo → Int32 → (Unit → T_Mo → Prop) → Prop) (z_this : T_Mo) (a1 : Int32) (post : Unit → T_Mo → Prop) : Prop := wp_Mo_node1 z_this a1 (fun (r1 : Int32) (u1 : Unit) => vp_in r1 2000 ∧ (wp_Mo_node1 z_this a1 (fun (r2 : Int32) (u2 : Unit) => vp_in r2 2000 ∧ (((z_this.1.2.1.2.2.2 (r1).toNatClampNeg) = (10 : Int32) → (wp_Mo_word z_this (7628147 : Int64) (fun (r3 : Unit) (u3 : T_Mo) => wp_Mo_node1 u3 a1 (fun (r4 : Int32) (u4 : Unit) => vp_in r4 2000 ∧ (wp_Mo_name u3 (u3.1.2.2.1.1 (r4).toNatClampNeg) (fun (r5 : Unit) (u5 : T_Mo) => wp_Mo_statementOut_J286 d rf post u5 a1 (z_this.1.2.1.2.2.2 (r1).toNatClampNeg) (z_this.1.2.2.2.2.1 (r2).toNatClampNeg))))))) ∧ ((z_this.1.2.1.2.2.2 (r1).toNatClampNeg) = (11 : Int32) → (wp_Mo_word z_this (1953063287 : Int64) (fun (r30 : Unit) (u30 : T_Mo) => wp_Mo_statementOut_J286 d rf post u30 a1 (z_this.1.2.1.2.2.2 (r1).toNatClampNeg) (z_this.1.2.2.2.2.1 (r2).toNatClampNeg)))) ∧ ((z_this.1.2.1.2.2.2 (r1).toNatClampNeg) = (12 : Int32) → (wp_Mo_word z_this (465625706101 : Int64) (fun (r31 : Unit) (u31 : T_Mo) => wp_Mo_statementOut_J286 d rf post u31 a1 (z_this.1.2.1.2.2.2 (r1).toNatClampNeg) (z_this.1.2.2.2.2.1 (r2).toNatClampNeg)))) ∧ ((z_this.1.2.1.2.2.2 (r1).toNatClampNeg) = (13 : Int32) → (wp_Mo_word z_this (1886216562 : Int64) (fun (r32 : Unit) (u32 : T_Mo) => wp_Mo_node1 u32 a1 (fun (r33 : Int32) (u33 : Unit) => vp_in r33 2000 ∧ (wp_Mo_name u32 (u32.1.2.2.1.1 (r33).toNatClampNeg) (fun (r34 : Unit) (u34 : T_Mo) => wp_Mo_statementOut_J286 d rf post u34 a1 (z_this.1.2.1.2.2.2 (r1).toNatClampNeg) (z_this.1.2.2.2.2.1 (r2).toNatClampNeg))))))) ∧ ((z_this.1.2.1.2.2.2 (r1).toNatClampNeg) = (14 : Int32) → (wp_Mo_word z_this (7496048 : Int64) (fun (r35 : Unit) (u35 : T_Mo) => wp_Mo_statementOut_J286 d rf post u35 a1 (z_this.1.2.1.2.2.2 (r1).toNatClampNeg) (z_this.1.2.2.2.2.1 (r2).toNatClampNeg)))) ∧ ((z_this.1.2.1.2.2.2 (r1).toNatClampNeg) = (15 : Int32) → (wp_Mo_word z_this (26217 : Int64) (fun (r36 : Unit) (u36 : T_Mo) => wp_Mo_statementOut_J286 d rf post u36 a1 (z_this.1.2.1.2.2.2 (r1).toNatClampNeg) (z_this.1.2.2.2.2.1 (r2).toNatClampNeg)))) ∧ ((z_this.1.2.1.2.2.2 (r1).toNatClampNeg) = (16 : Int32) → (wp_Mo_word z_this (127961662514546 : Int64) (fun (r37 : Unit) (u37 : T_Mo) => wp_Mo_statementOut_J286 d rf post u37 a1 (z_this.1.2.1.2.2.2 (r1).toNatClampNeg) (z_this.1.2.2.2.2.1 (r2).toNatClampNeg)))) ∧ ((z_this.1.2.1.2.2.2 (r1).toNatClampNeg) = (17 : Int32) → (wp_Mo_word z_this (499984984428 : Int64) (fun (r38 : Unit) (u38 : T_Mo) => wp_Mo_statementOut_J286 d rf post u38 a1 (z_this.1.2.1.2.2.2 (r1).toNatClampNeg) (z_this.1.2.2.2.2.1 (r2).toNatClampNeg)))) ∧ ((z_this.1.2.1.2.2.2 (r1).toNatClampNeg) = (18 : Int32) → (wp_Mo_word z_this (7041889 : Int64) (fun (r39 : Unit) (u39 : T_Mo) => wp_Mo_node1 u39 a1 (fun (r40 : Int32) (u40 : Unit) => vp_in r40 2000 ∧ (wp_Mo_name u39 (u39.1.2.2.1.1 (r40).toNatClampNeg) (fun (r41 : Unit) (u41 : T_Mo) => wp_Mo_statementOut_J286 d rf post u41 a1 (z_this.1.2.1.2.2.2 (r1).toNatClampNeg) (z_this.1.2.2.2.2.1 (r2).toNatClampNeg))))))) ∧ ((z_this.1.2.1.2.2.2 (r1).toNatClampNeg) = (19 : Int32) → (wp_Mo_word z_this (28516 : Int64) (fun (r42 : Unit) (u42 : T_Mo) => wp_Mo_node1 u42 a1 (fun (r43 : Int32) (u43 : Unit) => vp_in r43 2000 ∧ (wp_Mo_name u42 (u42.1.2.2.1.1 (r43).toNatClampNeg) (fun (r44 : Unit) (u44 : T_Mo) => wp_Mo_statementOut_J286 d rf post u44 a1 (z_this.1.2.1.2.2.2 (r1).toNatClampNeg) (z_this.1.2.2.2.2.1 (r2).toNatClampNeg))))))) ∧ ((z_this.1.2.1.2.2.2 (r1).toNatClampNeg) = (20 : Int32) → (wp_Mo_word z_this (1886352499 : Int64) (fun (r45 : Unit) (u45 : T_Mo) => wp_Mo_statementOut_J286 d rf post u45 a1 (z_this.1.2.1.2.2.2 (r1).toNatClampNeg) (z_this.1.2.2.2.2.1 (r2).toNatClampNeg)))) ∧ ((z_this.1.2.1.2.2.2 (r1).toNatClampNeg) = (21 : Int32) → (wp_Mo_word z_this (1684828008 : Int64) (fun (r46 : Unit) (u46 : T_Mo) => wp_Mo_statementOut_J286 d rf post u46 a1 (z_this.1.2.1.2.2.2 (r1).toNatClampNeg) (z_this.1.2.2.2.2.1 (r2).toNatClampNeg)))) ∧ (¬ (z_this.1.2.1.2.2.2 (r1).toNatClampNeg) = (10 : Int32) ∧ ¬ (z_this.1.2.1.2.2.2 (r1).toNatClampNeg) = (11 : Int32) ∧ ¬ (z_this.1.2.1.2.2.2 (r1).toNatClampNeg) = (12 : Int32) ∧ ¬ (z_this.1.2.1.2.2.2 (r1).toNatClampNeg) = (13 : Int32) ∧ ¬ (z_this.1.2.1.2.2.2 (r1).toNatClampNeg) = (14 : Int32) ∧ ¬ (z_this.1.2.1.2.2.2 (r1).toNatClampNeg) = (15 : Int32) ∧ ¬ (z_this.1.2.1.2.2.2 (r1).toNatClampNeg) = (16 : Int32) ∧ ¬ (z_this.1.2.1.2.2.2 (r1).toNatClampNeg) = (17 : Int32) ∧ ¬ (z_this.1.2.1.2.2.2 (r1).toNatClampNeg) = (18 : Int32) ∧ ¬ (z_this.1.2.1.2.2.2 (r1).toNatClampNeg) = (19 : Int32) ∧ ¬ (z_this.1.2.1.2.2.2 (r1).toNatClampNeg) = (20 : Int32) ∧ ¬ (z_this.1.2.1.2.2.2 (r1).toNatClampNeg) = (21 : Int32) → (wp_Mo_word z_this (7627617 : Int64) (fun (r47 : Unit) (u47 : T_Mo) => wp_Mo_node1 u47 a1 (fun (r48 : Int32) (u48 : Unit) => vp_in r48 2000 ∧ (wp_Mo_digitsOf u47 (u47.1.2.2.1.1 (r48).toNatClampNeg) (fun (r49 : Unit) (u49 : T_Mo) => wp_Mo_statementOut_J286 d rf post (((((u49.1.1.1.1.1, u49.1.1.1.1.2), (u49.1.1.1.2.1, (u49.1.1.1.2.2.1, u49.1.1.1.2.2.2))), ((u49.1.1.2.1.1, u49.1.1.2.1.2), (u49.1.1.2.2.1, (u49.1.1.2.2.2.1, u49.1.1.2.2.2.2)))), (((u49.1.2.1.1.1, u49.1.2.1.1.2), (u49.1.2.1.2.1, (u49.1.2.1.2.2.1, u49.1.2.1.2.2.2))), ((u49.1.2.2.1.1, (u49.1.2.2.1.2.1, u49.1.2.2.1.2.2)), (u49.1.2.2.2.1, (u49.1.2.2.2.2.1, u49.1.2.2.2.2.2))))), ((((u49.2.1.1.1.1, u49.2.1.1.1.2), (u49.2.1.1.2.1, (u49.2.1.1.2.2.1, u49.2.1.1.2.2.2))), ((u49.2.1.2.1.1, u49.2.1.2.1.2), (u49.2.1.2.2.1, (u49.2.1.2.2.2.1, u49.2.1.2.2.2.2)))), (((u49.2.2.1.1.1, u49.2.2.1.1.2), (u49.2.2.1.2.1, (u49.2.2.1.2.2.1, u49.2.2.1.2.2.2))), ((u49.2.2.2.1.1, (u49.2.2.2.1.2.1, u49.2.2.2.1.2.2)), (u49.2.2.2.2.1, ((1 : Int32), u49.2.2.2.2.2.2)))))) a1 (z_this.1.2.1.2.2.2 (r1).toNatClampNeg) (z_this.1.2.2.2.2.1 (r2).toNatClampNeg)))))))))))
def rm_Mo_statementOut (d F L : Nat) : Room := { frames := max (F + 1) (fFc d + 6), cells := 0, slots := 0, locals := max (L + 22) (fLc d + 139) }
set_option maxHeartbeats 4000000 in
set_option maxRecDepth 100000 in
theorem t_Mo_statementOut_L308 {p : Program} {l : Launch} {o : State × Array Value} {e : Env} {s : State} {m : MethodId} {args : Array Value} {below : List Frame} {meth : Method} {c : Code} {D : va_G} {k : Nat → ClassId} {w0 : va_W} {A : Nat → Prop} {ad_this : Nat → Nat} {post : Unit → T_Mo → Prop} {d : Nat} {rf : T_Mo → Int32 → (Unit → T_Mo → Prop) → Prop} {F L : Nat} (hrf : ∀ {ad_this : Nat → Nat} {z_this : T_Mo} {a1 : Int32} {post : Unit → T_Mo → Prop}, rf z_this a1 post → xq_C l o y_Mo_blockOut (.code y_Mo_blockOut prog_10_method_60_code 3 none :: xq_W) { frames := F, cells := 0, slots := 0, locals := L } D vwCl (xt k) [.ref (ad_this 0), .int a1] (w_Mo k ad_this z_this) (fun _ : Unit => none) post (fun _ : T_Mo => False) (fun u : T_Mo => w_Mo k ad_this u) 0 0 0 0) (hAt : xq_At p s m args meth c prog_10_method_61_code 6 none y_Mo_statementOut xq_W) (hK : va_K D vwCl (xt k) s) (hJ : xq_J l o A s s.heap) (hAe : va_A w0 s.heap.size = A) (hA : ∀ q, s.heap.size ≤ q → A q) {K : T_Mo → Int32 → Int32 → Int32 → Int32 → Int32 → Prop} (hX : ∀ (z_this : T_Mo) (x1 : Int32) (x2 : Int32) (x3 : Int32) (x4 : Int32) (x5 : Int32) (H : Heap) (locs : List Loc) (ls : Array Slot), lv_has ls 6 [(0, .ref (ad_this 0)), (1, .int x1), (2, .int x2), (3, .int x3), (4, .int x4), (5, .int x5)] → va_P D vwCl (w_Mo k ad_this z_this) H → va_D A (w_Mo k ad_this z_this) → va_S A s.heap H locs → K z_this x1 x2 x3 x4 x5 → W p l e (rm_Mo_statementOut d F L) s m args below meth c H locs 0 0 (xq_Z below D vwCl (xt k) w0 (fun _ : Unit => none) post (fun _ : T_Mo => False) (fun u : T_Mo => w_Mo k ad_this u) 0 0 0 0 s) (F0 m 427 ls [])) :
    ∀ (n9 : Nat) (z_this : T_Mo) (x1 : Int32) (x2 : Int32) (x3 : Int32) (x4 : Int32) (x5 : Int32) (H : Heap) (locs : List Loc) (ls : Array Slot), lv_has ls 6 [(0, .ref (ad_this 0)), (1, .int x1), (2, .int x2), (3, .int x3), (4, .int x4), (5, .int x5)] → va_P D vwCl (w_Mo k ad_this z_this) H → va_D A (w_Mo k ad_this z_this) → va_S A s.heap H locs → wp_Mo_statementOut_L308 d rf K post n9 z_this x1 x2 x3 x4 x5 → W p l e (rm_Mo_statementOut d F L) s m args below meth c H locs 0 0 (xq_Z below D vwCl (xt k) w0 (fun _ : Unit => none) post (fun _ : T_Mo => False) (fun u : T_Mo => w_Mo k ad_this u) 0 0 0 0 s) (F0 m 308 ls []) := by
  obtain ⟨hx, hb, hml, hr, hlocks, hown, hts, hex, hnm⟩ := id hAt
  intro n9
  induction n9 with
  | zero => intro z_this x1 x2 x3 x4 x5 H locs ls hl hP hD hS hw; exact False.elim (by rw [wp_Mo_statementOut_L308] at hw; exact hw)
  | succ n9 ih =>
    intro z_this x1 x2 x3 x4 x5 H locs ls hl hP hD hS hw
    rw [wp_Mo_statementOut_L308] at hw
    refine lv_iload hx hb d_Mo_statementOut_308 (lv_at hl 5 rfl) ?_
    refine lv_iload_n hx hb d_Mo_statementOut_310 rfl (lv_at hl 3 rfl) ?_
    refine lv_icmp_ge (tgt := 427) hx hb d_Mo_statementOut_311 (by decide) (fun hc => ?_) (fun hc => ?_)
    · have hw := hw.1 hc
      exact hX z_this x1 x2 x3 x4 x5 H locs ls (lv_sub hl [0, 1, 2, 3, 4, 5] rfl) hP hD hS hw
    · have hw := hw.2 hc
      refine lv_aload_n hx hb d_Mo_statementOut_314 rfl (lv_at hl 0 rfl) ?_
      refine va_get (D := D) (ci := 8) (v := .ref (ad_this 2)) (C := R_Mo) (T := F_Mo) (N := 42) hx hb hts in_Mo hown hK hP 0 rfl rfl 14 (by decide) (hts (.fieldLink R_Mo 13 R_Mo "whats" "[I") kw4_157) (fun _ h9 => h9) rfl d_Mo_statementOut_315 ?_
      refine lv_aload_n hx hb d_Mo_statementOut_318 rfl (lv_at hl 0 rfl) ?_
      refine lv_aload_n hx hb d_Mo_statementOut_319 rfl (lv_at hl 0 rfl) ?_
      refine lv_iload_n hx hb d_Mo_statementOut_320 rfl (lv_at hl 1 rfl) ?_
      refine lv_iload hx hb d_Mo_statementOut_321 (lv_at hl 5 rfl) ?_
      refine xq_go (wr := ([] : va_W)) (stk := fun r => .int r :: [.ref (ad_this 0), .ref (ad_this 2)]) (xq_runV (As := [.int x1, .int x5]) (rest := [.ref (ad_this 0), .ref (ad_this 2)]) ⟨hx, hb, hml, hown, hts⟩ (c_Mo_kid (l := l) (o := o) (D := D) (k := k) (ad_this := ad_this) hw) (cw_Mo_kid hts kw5_207 ⟨by simp only [rm_Mo_statementOut, rm_Mo_kid]; omega, by simp only [rm_Mo_statementOut, rm_Mo_kid]; omega⟩) (va_recv hK hP (ci := 8) (q0 := 0) rfl rfl) (hP.sub [0, 1, 2, 3, 4, 5, 6, 7, 8, 9, 10, 11, 12, 13, 14, 15, 16, 17] rfl) hK hJ hS (va_free hD hS hA [0, 1, 2, 3, 4, 5, 6, 7, 8, 9, 10, 11, 12, 13, 14, 15, 16, 17] rfl) ((hD.sub [0, 1, 2, 3, 4, 5, 6, 7, 8, 9, 10, 11, 12, 13, 14, 15, 16, 17] (by decide) rfl).weaken (fun _ _ _ _ => trivial)) rfl hl.1 (Nat.le_of_ble_eq_true rfl) d_Mo_statementOut_323 ⟨Nat.le_of_ble_eq_true rfl, Nat.le_of_ble_eq_true rfl⟩) hP hD hS hA [0, 1, 2, 3, 4, 5, 6, 7, 8, 9, 10, 11, 12, 13, 14, 15, 16, 17] [] rfl rfl (by decide) (by decide) (fun _ => rfl) (fun r6 u6 H locs hw hP hD hS => ?_) (fun _ _ _ _ h9 => h9.elim)
      have hP : va_P D vwCl (w_Mo k ad_this z_this) H := hP.sub [0, 1, 2, 3, 4, 5, 6, 7, 8, 9, 10, 11, 12, 13, 14, 15, 16, 17] rfl
      have hD : va_D A (w_Mo k ad_this z_this) := hD.sub [0, 1, 2, 3, 4, 5, 6, 7, 8, 9, 10, 11, 12, 13, 14, 15, 16, 17] (by decide) rfl
      refine xq_go (wr := ([] : va_W)) (stk := fun r => .int r :: [.ref (ad_this 2)]) (xq_runV (As := [.int r6]) (rest := [.ref (ad_this 2)]) ⟨hx, hb, hml, hown, hts⟩ (c_Mo_node1 (l := l) (o := o) (D := D) (k := k) (ad_this := ad_this) hw) (cw_Mo_node1 hts kw5_199 ⟨by simp only [rm_Mo_statementOut, rm_Mo_node1]; omega, by simp only [rm_Mo_statementOut, rm_Mo_node1]; omega⟩) (va_recv hK hP (ci := 8) (q0 := 0) rfl rfl) (hP.sub [0, 1, 2, 3, 4, 5, 6, 7, 8, 9, 10, 11, 12, 13, 14, 15, 16, 17] rfl) hK hJ hS (va_free hD hS hA [0, 1, 2, 3, 4, 5, 6, 7, 8, 9, 10, 11, 12, 13, 14, 15, 16, 17] rfl) ((hD.sub [0, 1, 2, 3, 4, 5, 6, 7, 8, 9, 10, 11, 12, 13, 14, 15, 16, 17] (by decide) rfl).weaken (fun _ _ _ _ => trivial)) rfl hl.1 (Nat.le_of_ble_eq_true rfl) d_Mo_statementOut_326 ⟨Nat.le_of_ble_eq_true rfl, Nat.le_of_ble_eq_true rfl⟩) hP hD hS hA [0, 1, 2, 3, 4, 5, 6, 7, 8, 9, 10, 11, 12, 13, 14, 15, 16, 17] [] rfl rfl (by decide) (by decide) (fun _ => rfl) (fun r7 u7 H locs hw hP hD hS => ?_) (fun _ _ _ _ h9 => h9.elim)
      have hP : va_P D vwCl (w_Mo k ad_this z_this) H := hP.sub [0, 1, 2, 3, 4, 5, 6, 7, 8, 9, 10, 11, 12, 13, 14, 15, 16, 17] rfl
      have hD : va_D A (w_Mo k ad_this z_this) := hD.sub [0, 1, 2, 3, 4, 5, 6, 7, 8, 9, 10, 11, 12, 13, 14, 15, 16, 17] (by decide) rfl
      refine va_iald hx hb hK hP 2 0 rfl rfl hw.1 d_Mo_statementOut_329 ?_
      have hw := hw.2
      refine lv_bipush (v := (23 : Int32)) hx hb d_Mo_statementOut_330 (by decide) ?_
      refine lv_icmp_ne (tgt := 390) hx hb d_Mo_statementOut_332 (by decide) (fun hc => ?_) (fun hc => ?_)
      · have hw := hw.2 hc
        refine lv_aload_n hx hb d_Mo_statementOut_390 rfl (lv_at hl 0 rfl) ?_
        refine lv_aload_n hx hb d_Mo_statementOut_391 rfl (lv_at hl 0 rfl) ?_
        refine lv_iload_n hx hb d_Mo_statementOut_392 rfl (lv_at hl 1 rfl) ?_
        refine lv_iload hx hb d_Mo_statementOut_393 (lv_at hl 5 rfl) ?_
        refine xq_go (wr := ([] : va_W)) (stk := fun r => .int r :: [.ref (ad_this 0)]) (xq_runV (As := [.int x1, .int x5]) (rest := [.ref (ad_this 0)]) ⟨hx, hb, hml, hown, hts⟩ (c_Mo_kid (l := l) (o := o) (D := D) (k := k) (ad_this := ad_this) hw) (cw_Mo_kid hts kw5_207 ⟨by simp only [rm_Mo_statementOut, rm_Mo_kid]; omega, by simp only [rm_Mo_statementOut, rm_Mo_kid]; omega⟩) (va_recv hK hP (ci := 8) (q0 := 0) rfl rfl) (hP.sub [0, 1, 2, 3, 4, 5, 6, 7, 8, 9, 10, 11, 12, 13, 14, 15, 16, 17] rfl) hK hJ hS (va_free hD hS hA [0, 1, 2, 3, 4, 5, 6, 7, 8, 9, 10, 11, 12, 13, 14, 15, 16, 17] rfl) ((hD.sub [0, 1, 2, 3, 4, 5, 6, 7, 8, 9, 10, 11, 12, 13, 14, 15, 16, 17] (by decide) rfl).weaken (fun _ _ _ _ => trivial)) rfl hl.1 (Nat.le_of_ble_eq_true rfl) d_Mo_statementOut_395 ⟨Nat.le_of_ble_eq_true rfl, Nat.le_of_ble_eq_true rfl⟩) hP hD hS hA [0, 1, 2, 3, 4, 5, 6, 7, 8, 9, 10, 11, 12, 13, 14, 15, 16, 17] [] rfl rfl (by decide) (by decide) (fun _ => rfl) (fun r8 u8 H locs hw hP hD hS => ?_) (fun _ _ _ _ h9 => h9.elim)
        have hP : va_P D vwCl (w_Mo k ad_this z_this) H := hP.sub [0, 1, 2, 3, 4, 5, 6, 7, 8, 9, 10, 11, 12, 13, 14, 15, 16, 17] rfl
        have hD : va_D A (w_Mo k ad_this z_this) := hD.sub [0, 1, 2, 3, 4, 5, 6, 7, 8, 9, 10, 11, 12, 13, 14, 15, 16, 17] (by decide) rfl
        refine lv_iconst (v := (-1 : Int32)) hx hb d_Mo_statementOut_398 (by decide) ?_
        refine lv_iconst (v := (1 : Int32)) hx hb d_Mo_statementOut_399 (by decide) ?_
        refine xq_go (wr := ([] : va_W)) (stk := fun _ => []) (xq_runV (As := [.int r8, .int (-1 : Int32), .int (1 : Int32)]) (rest := []) ⟨hx, hb, hml, hown, hts⟩ (c_Mo_sumOut d (l := l) (o := o) (D := D) (k := k) (ad_this := ad_this) hw) (cw_Mo_sumOut hts kw6_48 ⟨by simp only [rm_Mo_statementOut]; omega, by simp only [rm_Mo_statementOut]; omega⟩) (va_recv hK hP (ci := 8) (q0 := 0) rfl rfl) (hP.sub [0, 1, 2, 3, 4, 5, 6, 7, 8, 9, 10, 11, 12, 13, 14, 15, 16, 17] rfl) hK hJ hS (va_free hD hS hA [0, 1, 2, 3, 4, 5, 6, 7, 8, 9, 10, 11, 12, 13, 14, 15, 16, 17] rfl) ((hD.sub [0, 1, 2, 3, 4, 5, 6, 7, 8, 9, 10, 11, 12, 13, 14, 15, 16, 17] (by decide) rfl).weaken (fun _ _ _ _ => trivial)) rfl hl.1 (Nat.le_of_ble_eq_true rfl) d_Mo_statementOut_400 ⟨Nat.le_of_ble_eq_true rfl, Nat.le_of_ble_eq_true rfl⟩) hP hD hS hA [0, 1, 2, 3, 4, 5, 6, 7, 8, 9, 10, 11, 12, 13, 14, 15, 16, 17] [] rfl rfl (by decide) (by decide) (fun _ => rfl) (fun r9 u9 H locs hw hP hD hS => ?_) (fun _ _ _ _ h9 => h9.elim)
        have hP : va_P D vwCl (w_Mo k ad_this u9) H := hP.sub [0, 1, 2, 3, 4, 5, 6, 7, 8, 9, 10, 11, 12, 13, 14, 15, 16, 17] rfl
        have hD : va_D A (w_Mo k ad_this u9) := hD.sub [0, 1, 2, 3, 4, 5, 6, 7, 8, 9, 10, 11, 12, 13, 14, 15, 16, 17] (by decide) rfl
        refine lv_iload hx hb d_Mo_statementOut_403 (lv_at hl 5 rfl) ?_
        refine lv_if_ne (tgt := 421) hx hb d_Mo_statementOut_405 (by decide) (fun hc => ?_) (fun hc => ?_)
        · have hw := hw.2 hc
          refine lv_iinc (v := (x5 + (1 : Int32))) (lv' := [(5, .int (x5 + (1 : Int32))), (0, .ref (ad_this 0)), (1, .int x1), (2, .int x2), (3, .int x3), (4, .int x4)]) hx hb d_Mo_statementOut_421 hl (k := 5) rfl rfl (by decide) rfl (fun ls hl => ?_)
          refine lv_goto (tgt := 308) hx hb d_Mo_statementOut_424 (by decide) ?_
          exact ih u9 x1 x2 x3 x4 (x5 + (1 : Int32)) H locs ls (lv_sub hl [1, 2, 3, 4, 5, 0] rfl) hP hD hS hw
        · have hw := hw.1 hc
          refine lv_iload_n hx hb d_Mo_statementOut_408 rfl (lv_at hl 2 rfl) ?_
          refine lv_bipush (v := (13 : Int32)) hx hb d_Mo_statementOut_409 (by decide) ?_
          refine lv_icmp_ne (tgt := 421) hx hb d_Mo_statementOut_411 (by decide) (fun hc => ?_) (fun hc => ?_)
          · have hw := hw.2 hc
            refine lv_iinc (v := (x5 + (1 : Int32))) (lv' := [(5, .int (x5 + (1 : Int32))), (0, .ref (ad_this 0)), (1, .int x1), (2, .int x2), (3, .int x3), (4, .int x4)]) hx hb d_Mo_statementOut_421 hl (k := 5) rfl rfl (by decide) rfl (fun ls hl => ?_)
            refine lv_goto (tgt := 308) hx hb d_Mo_statementOut_424 (by decide) ?_
            exact ih u9 x1 x2 x3 x4 (x5 + (1 : Int32)) H locs ls (lv_sub hl [1, 2, 3, 4, 5, 0] rfl) hP hD hS hw
          · have hw := hw.1 hc
            refine lv_aload_n hx hb d_Mo_statementOut_414 rfl (lv_at hl 0 rfl) ?_
            refine lv_ldc2 (v := (28265 : Int64)) hx hb hown (hts (.constantLong R_Mo 112 (28265)) kw5_89) d_Mo_statementOut_415 ?_
            refine xq_go (wr := ([] : va_W)) (stk := fun _ => []) (xq_runV (As := [.long (28265 : Int64)]) (rest := []) ⟨hx, hb, hml, hown, hts⟩ (c_Mo_word (l := l) (o := o) (D := D) (k := k) (ad_this := ad_this) hw) (cw_Mo_word hts kw6_16 ⟨by simp only [rm_Mo_statementOut, rm_Mo_word]; omega, by simp only [rm_Mo_statementOut, rm_Mo_word]; omega⟩) (va_recv hK hP (ci := 8) (q0 := 0) rfl rfl) (hP.sub [0, 1, 2, 3, 4, 5, 6, 7, 8, 9, 10, 11, 12, 13, 14, 15, 16, 17] rfl) hK hJ hS (va_free hD hS hA [0, 1, 2, 3, 4, 5, 6, 7, 8, 9, 10, 11, 12, 13, 14, 15, 16, 17] rfl) ((hD.sub [0, 1, 2, 3, 4, 5, 6, 7, 8, 9, 10, 11, 12, 13, 14, 15, 16, 17] (by decide) rfl).weaken (fun _ _ _ _ => trivial)) rfl hl.1 (Nat.le_of_ble_eq_true rfl) d_Mo_statementOut_418 ⟨Nat.le_of_ble_eq_true rfl, Nat.le_of_ble_eq_true rfl⟩) hP hD hS hA [0, 1, 2, 3, 4, 5, 6, 7, 8, 9, 10, 11, 12, 13, 14, 15, 16, 17] [] rfl rfl (by decide) (by decide) (fun _ => rfl) (fun r10 u10 H locs hw hP hD hS => ?_) (fun _ _ _ _ h9 => h9.elim)
            have hP : va_P D vwCl (w_Mo k ad_this u10) H := hP.sub [0, 1, 2, 3, 4, 5, 6, 7, 8, 9, 10, 11, 12, 13, 14, 15, 16, 17] rfl
            have hD : va_D A (w_Mo k ad_this u10) := hD.sub [0, 1, 2, 3, 4, 5, 6, 7, 8, 9, 10, 11, 12, 13, 14, 15, 16, 17] (by decide) rfl
            refine lv_iinc (v := (x5 + (1 : Int32))) (lv' := [(5, .int (x5 + (1 : Int32))), (0, .ref (ad_this 0)), (1, .int x1), (2, .int x2), (3, .int x3), (4, .int x4)]) hx hb d_Mo_statementOut_421 hl (k := 5) rfl rfl (by decide) rfl (fun ls hl => ?_)
            refine lv_goto (tgt := 308) hx hb d_Mo_statementOut_424 (by decide) ?_
            exact ih u10 x1 x2 x3 x4 (x5 + (1 : Int32)) H locs ls (lv_sub hl [1, 2, 3, 4, 5, 0] rfl) hP hD hS hw
      · have hw := hw.1 hc
        refine lv_iload hx hb d_Mo_statementOut_335 (lv_at hl 5 rfl) ?_
        refine lv_iconst (v := (2 : Int32)) hx hb d_Mo_statementOut_337 (by decide) ?_
        refine lv_icmp_ne (tgt := 357) hx hb d_Mo_statementOut_338 (by decide) (fun hc => ?_) (fun hc => ?_)
        · have hw := hw.2 hc
          refine lv_iload hx hb d_Mo_statementOut_357 (lv_at hl 5 rfl) ?_
          refine lv_iconst (v := (2 : Int32)) hx hb d_Mo_statementOut_359 (by decide) ?_
          refine lv_icmp_ne (tgt := 376) hx hb d_Mo_statementOut_360 (by decide) (fun hc => ?_) (fun hc => ?_)
          · have hw := hw.2 hc
            refine lv_aload_n hx hb d_Mo_statementOut_376 rfl (lv_at hl 0 rfl) ?_
            refine lv_aload_n hx hb d_Mo_statementOut_377 rfl (lv_at hl 0 rfl) ?_
            refine lv_iload_n hx hb d_Mo_statementOut_378 rfl (lv_at hl 1 rfl) ?_
            refine lv_iload hx hb d_Mo_statementOut_379 (lv_at hl 5 rfl) ?_
            refine xq_go (wr := ([] : va_W)) (stk := fun r => .int r :: [.ref (ad_this 0)]) (xq_runV (As := [.int x1, .int x5]) (rest := [.ref (ad_this 0)]) ⟨hx, hb, hml, hown, hts⟩ (c_Mo_kid (l := l) (o := o) (D := D) (k := k) (ad_this := ad_this) hw) (cw_Mo_kid hts kw5_207 ⟨by simp only [rm_Mo_statementOut, rm_Mo_kid]; omega, by simp only [rm_Mo_statementOut, rm_Mo_kid]; omega⟩) (va_recv hK hP (ci := 8) (q0 := 0) rfl rfl) (hP.sub [0, 1, 2, 3, 4, 5, 6, 7, 8, 9, 10, 11, 12, 13, 14, 15, 16, 17] rfl) hK hJ hS (va_free hD hS hA [0, 1, 2, 3, 4, 5, 6, 7, 8, 9, 10, 11, 12, 13, 14, 15, 16, 17] rfl) ((hD.sub [0, 1, 2, 3, 4, 5, 6, 7, 8, 9, 10, 11, 12, 13, 14, 15, 16, 17] (by decide) rfl).weaken (fun _ _ _ _ => trivial)) rfl hl.1 (Nat.le_of_ble_eq_true rfl) d_Mo_statementOut_381 ⟨Nat.le_of_ble_eq_true rfl, Nat.le_of_ble_eq_true rfl⟩) hP hD hS hA [0, 1, 2, 3, 4, 5, 6, 7, 8, 9, 10, 11, 12, 13, 14, 15, 16, 17] [] rfl rfl (by decide) (by decide) (fun _ => rfl) (fun r11 u11 H locs hw hP hD hS => ?_) (fun _ _ _ _ h9 => h9.elim)
            have hP : va_P D vwCl (w_Mo k ad_this z_this) H := hP.sub [0, 1, 2, 3, 4, 5, 6, 7, 8, 9, 10, 11, 12, 13, 14, 15, 16, 17] rfl
            have hD : va_D A (w_Mo k ad_this z_this) := hD.sub [0, 1, 2, 3, 4, 5, 6, 7, 8, 9, 10, 11, 12, 13, 14, 15, 16, 17] (by decide) rfl
            refine xq_go (wr := ([] : va_W)) (stk := fun _ => []) (xq_runV (As := [.int r11]) (rest := []) ⟨hx, hb, hml, hown, hts⟩ (hrf (ad_this := ad_this) hw) (cw_Mo_blockOut hts kw6_32 ⟨by simp only [rm_Mo_statementOut]; omega, by simp only [rm_Mo_statementOut]; omega⟩) (va_recv hK hP (ci := 8) (q0 := 0) rfl rfl) (hP.sub [0, 1, 2, 3, 4, 5, 6, 7, 8, 9, 10, 11, 12, 13, 14, 15, 16, 17] rfl) hK hJ hS (va_free hD hS hA [0, 1, 2, 3, 4, 5, 6, 7, 8, 9, 10, 11, 12, 13, 14, 15, 16, 17] rfl) ((hD.sub [0, 1, 2, 3, 4, 5, 6, 7, 8, 9, 10, 11, 12, 13, 14, 15, 16, 17] (by decide) rfl).weaken (fun _ _ _ _ => trivial)) rfl hl.1 (Nat.le_of_ble_eq_true rfl) d_Mo_statementOut_384 ⟨Nat.le_of_ble_eq_true rfl, Nat.le_of_ble_eq_true rfl⟩) hP hD hS hA [0, 1, 2, 3, 4, 5, 6, 7, 8, 9, 10, 11, 12, 13, 14, 15, 16, 17] [] rfl rfl (by decide) (by decide) (fun _ => rfl) (fun r12 u12 H locs hw hP hD hS => ?_) (fun _ _ _ _ h9 => h9.elim)
            have hP : va_P D vwCl (w_Mo k ad_this u12) H := hP.sub [0, 1, 2, 3, 4, 5, 6, 7, 8, 9, 10, 11, 12, 13, 14, 15, 16, 17] rfl
            have hD : va_D A (w_Mo k ad_this u12) := hD.sub [0, 1, 2, 3, 4, 5, 6, 7, 8, 9, 10, 11, 12, 13, 14, 15, 16, 17] (by decide) rfl
            refine lv_goto (tgt := 421) hx hb d_Mo_statementOut_387 (by decide) ?_
            refine lv_iinc (v := (x5 + (1 : Int32))) (lv' := [(5, .int (x5 + (1 : Int32))), (0, .ref (ad_this 0)), (1, .int x1), (2, .int x2), (3, .int x3), (4, .int x4)]) hx hb d_Mo_statementOut_421 hl (k := 5) rfl rfl (by decide) rfl (fun ls hl => ?_)
            refine lv_goto (tgt := 308) hx hb d_Mo_statementOut_424 (by decide) ?_
            exact ih u12 x1 x2 x3 x4 (x5 + (1 : Int32)) H locs ls (lv_sub hl [1, 2, 3, 4, 5, 0] rfl) hP hD hS hw
          · have hw := hw.1 hc
            refine lv_iload_n hx hb d_Mo_statementOut_363 rfl (lv_at hl 2 rfl) ?_
            refine lv_bipush (v := (17 : Int32)) hx hb d_Mo_statementOut_364 (by decide) ?_
            refine lv_icmp_ne (tgt := 376) hx hb d_Mo_statementOut_366 (by decide) (fun hc => ?_) (fun hc => ?_)
            · have hw := hw.2 hc
              refine lv_aload_n hx hb d_Mo_statementOut_376 rfl (lv_at hl 0 rfl) ?_
              refine lv_aload_n hx hb d_Mo_statementOut_377 rfl (lv_at hl 0 rfl) ?_
              refine lv_iload_n hx hb d_Mo_statementOut_378 rfl (lv_at hl 1 rfl) ?_
              refine lv_iload hx hb d_Mo_statementOut_379 (lv_at hl 5 rfl) ?_
              refine xq_go (wr := ([] : va_W)) (stk := fun r => .int r :: [.ref (ad_this 0)]) (xq_runV (As := [.int x1, .int x5]) (rest := [.ref (ad_this 0)]) ⟨hx, hb, hml, hown, hts⟩ (c_Mo_kid (l := l) (o := o) (D := D) (k := k) (ad_this := ad_this) hw) (cw_Mo_kid hts kw5_207 ⟨by simp only [rm_Mo_statementOut, rm_Mo_kid]; omega, by simp only [rm_Mo_statementOut, rm_Mo_kid]; omega⟩) (va_recv hK hP (ci := 8) (q0 := 0) rfl rfl) (hP.sub [0, 1, 2, 3, 4, 5, 6, 7, 8, 9, 10, 11, 12, 13, 14, 15, 16, 17] rfl) hK hJ hS (va_free hD hS hA [0, 1, 2, 3, 4, 5, 6, 7, 8, 9, 10, 11, 12, 13, 14, 15, 16, 17] rfl) ((hD.sub [0, 1, 2, 3, 4, 5, 6, 7, 8, 9, 10, 11, 12, 13, 14, 15, 16, 17] (by decide) rfl).weaken (fun _ _ _ _ => trivial)) rfl hl.1 (Nat.le_of_ble_eq_true rfl) d_Mo_statementOut_381 ⟨Nat.le_of_ble_eq_true rfl, Nat.le_of_ble_eq_true rfl⟩) hP hD hS hA [0, 1, 2, 3, 4, 5, 6, 7, 8, 9, 10, 11, 12, 13, 14, 15, 16, 17] [] rfl rfl (by decide) (by decide) (fun _ => rfl) (fun r13 u13 H locs hw hP hD hS => ?_) (fun _ _ _ _ h9 => h9.elim)
              have hP : va_P D vwCl (w_Mo k ad_this z_this) H := hP.sub [0, 1, 2, 3, 4, 5, 6, 7, 8, 9, 10, 11, 12, 13, 14, 15, 16, 17] rfl
              have hD : va_D A (w_Mo k ad_this z_this) := hD.sub [0, 1, 2, 3, 4, 5, 6, 7, 8, 9, 10, 11, 12, 13, 14, 15, 16, 17] (by decide) rfl
              refine xq_go (wr := ([] : va_W)) (stk := fun _ => []) (xq_runV (As := [.int r13]) (rest := []) ⟨hx, hb, hml, hown, hts⟩ (hrf (ad_this := ad_this) hw) (cw_Mo_blockOut hts kw6_32 ⟨by simp only [rm_Mo_statementOut]; omega, by simp only [rm_Mo_statementOut]; omega⟩) (va_recv hK hP (ci := 8) (q0 := 0) rfl rfl) (hP.sub [0, 1, 2, 3, 4, 5, 6, 7, 8, 9, 10, 11, 12, 13, 14, 15, 16, 17] rfl) hK hJ hS (va_free hD hS hA [0, 1, 2, 3, 4, 5, 6, 7, 8, 9, 10, 11, 12, 13, 14, 15, 16, 17] rfl) ((hD.sub [0, 1, 2, 3, 4, 5, 6, 7, 8, 9, 10, 11, 12, 13, 14, 15, 16, 17] (by decide) rfl).weaken (fun _ _ _ _ => trivial)) rfl hl.1 (Nat.le_of_ble_eq_true rfl) d_Mo_statementOut_384 ⟨Nat.le_of_ble_eq_true rfl, Nat.le_of_ble_eq_true rfl⟩) hP hD hS hA [0, 1, 2, 3, 4, 5, 6, 7, 8, 9, 10, 11, 12, 13, 14, 15, 16, 17] [] rfl rfl (by decide) (by decide) (fun _ => rfl) (fun r14 u14 H locs hw hP hD hS => ?_) (fun _ _ _ _ h9 => h9.elim)
              have hP : va_P D vwCl (w_Mo k ad_this u14) H := hP.sub [0, 1, 2, 3, 4, 5, 6, 7, 8, 9, 10, 11, 12, 13, 14, 15, 16, 17] rfl
              have hD : va_D A (w_Mo k ad_this u14) := hD.sub [0, 1, 2, 3, 4, 5, 6, 7, 8, 9, 10, 11, 12, 13, 14, 15, 16, 17] (by decide) rfl
              refine lv_goto (tgt := 421) hx hb d_Mo_statementOut_387 (by decide) ?_
              refine lv_iinc (v := (x5 + (1 : Int32))) (lv' := [(5, .int (x5 + (1 : Int32))), (0, .ref (ad_this 0)), (1, .int x1), (2, .int x2), (3, .int x3), (4, .int x4)]) hx hb d_Mo_statementOut_421 hl (k := 5) rfl rfl (by decide) rfl (fun ls hl => ?_)
              refine lv_goto (tgt := 308) hx hb d_Mo_statementOut_424 (by decide) ?_
              exact ih u14 x1 x2 x3 x4 (x5 + (1 : Int32)) H locs ls (lv_sub hl [1, 2, 3, 4, 5, 0] rfl) hP hD hS hw
            · have hw := hw.1 hc
              refine lv_aload_n hx hb d_Mo_statementOut_369 rfl (lv_at hl 0 rfl) ?_
              refine lv_ldc2 (v := (1852139636 : Int64)) hx hb hown (hts (.constantLong R_Mo 116 (1852139636)) kw5_91) d_Mo_statementOut_370 ?_
              refine xq_go (wr := ([] : va_W)) (stk := fun _ => []) (xq_runV (As := [.long (1852139636 : Int64)]) (rest := []) ⟨hx, hb, hml, hown, hts⟩ (c_Mo_word (l := l) (o := o) (D := D) (k := k) (ad_this := ad_this) hw) (cw_Mo_word hts kw6_16 ⟨by simp only [rm_Mo_statementOut, rm_Mo_word]; omega, by simp only [rm_Mo_statementOut, rm_Mo_word]; omega⟩) (va_recv hK hP (ci := 8) (q0 := 0) rfl rfl) (hP.sub [0, 1, 2, 3, 4, 5, 6, 7, 8, 9, 10, 11, 12, 13, 14, 15, 16, 17] rfl) hK hJ hS (va_free hD hS hA [0, 1, 2, 3, 4, 5, 6, 7, 8, 9, 10, 11, 12, 13, 14, 15, 16, 17] rfl) ((hD.sub [0, 1, 2, 3, 4, 5, 6, 7, 8, 9, 10, 11, 12, 13, 14, 15, 16, 17] (by decide) rfl).weaken (fun _ _ _ _ => trivial)) rfl hl.1 (Nat.le_of_ble_eq_true rfl) d_Mo_statementOut_373 ⟨Nat.le_of_ble_eq_true rfl, Nat.le_of_ble_eq_true rfl⟩) hP hD hS hA [0, 1, 2, 3, 4, 5, 6, 7, 8, 9, 10, 11, 12, 13, 14, 15, 16, 17] [] rfl rfl (by decide) (by decide) (fun _ => rfl) (fun r15 u15 H locs hw hP hD hS => ?_) (fun _ _ _ _ h9 => h9.elim)
              have hP : va_P D vwCl (w_Mo k ad_this u15) H := hP.sub [0, 1, 2, 3, 4, 5, 6, 7, 8, 9, 10, 11, 12, 13, 14, 15, 16, 17] rfl
              have hD : va_D A (w_Mo k ad_this u15) := hD.sub [0, 1, 2, 3, 4, 5, 6, 7, 8, 9, 10, 11, 12, 13, 14, 15, 16, 17] (by decide) rfl
              refine lv_aload_n hx hb d_Mo_statementOut_376 rfl (lv_at hl 0 rfl) ?_
              refine lv_aload_n hx hb d_Mo_statementOut_377 rfl (lv_at hl 0 rfl) ?_
              refine lv_iload_n hx hb d_Mo_statementOut_378 rfl (lv_at hl 1 rfl) ?_
              refine lv_iload hx hb d_Mo_statementOut_379 (lv_at hl 5 rfl) ?_
              refine xq_go (wr := ([] : va_W)) (stk := fun r => .int r :: [.ref (ad_this 0)]) (xq_runV (As := [.int x1, .int x5]) (rest := [.ref (ad_this 0)]) ⟨hx, hb, hml, hown, hts⟩ (c_Mo_kid (l := l) (o := o) (D := D) (k := k) (ad_this := ad_this) hw) (cw_Mo_kid hts kw5_207 ⟨by simp only [rm_Mo_statementOut, rm_Mo_kid]; omega, by simp only [rm_Mo_statementOut, rm_Mo_kid]; omega⟩) (va_recv hK hP (ci := 8) (q0 := 0) rfl rfl) (hP.sub [0, 1, 2, 3, 4, 5, 6, 7, 8, 9, 10, 11, 12, 13, 14, 15, 16, 17] rfl) hK hJ hS (va_free hD hS hA [0, 1, 2, 3, 4, 5, 6, 7, 8, 9, 10, 11, 12, 13, 14, 15, 16, 17] rfl) ((hD.sub [0, 1, 2, 3, 4, 5, 6, 7, 8, 9, 10, 11, 12, 13, 14, 15, 16, 17] (by decide) rfl).weaken (fun _ _ _ _ => trivial)) rfl hl.1 (Nat.le_of_ble_eq_true rfl) d_Mo_statementOut_381 ⟨Nat.le_of_ble_eq_true rfl, Nat.le_of_ble_eq_true rfl⟩) hP hD hS hA [0, 1, 2, 3, 4, 5, 6, 7, 8, 9, 10, 11, 12, 13, 14, 15, 16, 17] [] rfl rfl (by decide) (by decide) (fun _ => rfl) (fun r16 u16 H locs hw hP hD hS => ?_) (fun _ _ _ _ h9 => h9.elim)
              have hP : va_P D vwCl (w_Mo k ad_this u15) H := hP.sub [0, 1, 2, 3, 4, 5, 6, 7, 8, 9, 10, 11, 12, 13, 14, 15, 16, 17] rfl
              have hD : va_D A (w_Mo k ad_this u15) := hD.sub [0, 1, 2, 3, 4, 5, 6, 7, 8, 9, 10, 11, 12, 13, 14, 15, 16, 17] (by decide) rfl
              refine xq_go (wr := ([] : va_W)) (stk := fun _ => []) (xq_runV (As := [.int r16]) (rest := []) ⟨hx, hb, hml, hown, hts⟩ (hrf (ad_this := ad_this) hw) (cw_Mo_blockOut hts kw6_32 ⟨by simp only [rm_Mo_statementOut]; omega, by simp only [rm_Mo_statementOut]; omega⟩) (va_recv hK hP (ci := 8) (q0 := 0) rfl rfl) (hP.sub [0, 1, 2, 3, 4, 5, 6, 7, 8, 9, 10, 11, 12, 13, 14, 15, 16, 17] rfl) hK hJ hS (va_free hD hS hA [0, 1, 2, 3, 4, 5, 6, 7, 8, 9, 10, 11, 12, 13, 14, 15, 16, 17] rfl) ((hD.sub [0, 1, 2, 3, 4, 5, 6, 7, 8, 9, 10, 11, 12, 13, 14, 15, 16, 17] (by decide) rfl).weaken (fun _ _ _ _ => trivial)) rfl hl.1 (Nat.le_of_ble_eq_true rfl) d_Mo_statementOut_384 ⟨Nat.le_of_ble_eq_true rfl, Nat.le_of_ble_eq_true rfl⟩) hP hD hS hA [0, 1, 2, 3, 4, 5, 6, 7, 8, 9, 10, 11, 12, 13, 14, 15, 16, 17] [] rfl rfl (by decide) (by decide) (fun _ => rfl) (fun r17 u17 H locs hw hP hD hS => ?_) (fun _ _ _ _ h9 => h9.elim)
              have hP : va_P D vwCl (w_Mo k ad_this u17) H := hP.sub [0, 1, 2, 3, 4, 5, 6, 7, 8, 9, 10, 11, 12, 13, 14, 15, 16, 17] rfl
              have hD : va_D A (w_Mo k ad_this u17) := hD.sub [0, 1, 2, 3, 4, 5, 6, 7, 8, 9, 10, 11, 12, 13, 14, 15, 16, 17] (by decide) rfl
              refine lv_goto (tgt := 421) hx hb d_Mo_statementOut_387 (by decide) ?_
              refine lv_iinc (v := (x5 + (1 : Int32))) (lv' := [(5, .int (x5 + (1 : Int32))), (0, .ref (ad_this 0)), (1, .int x1), (2, .int x2), (3, .int x3), (4, .int x4)]) hx hb d_Mo_statementOut_421 hl (k := 5) rfl rfl (by decide) rfl (fun ls hl => ?_)
              refine lv_goto (tgt := 308) hx hb d_Mo_statementOut_424 (by decide) ?_
              exact ih u17 x1 x2 x3 x4 (x5 + (1 : Int32)) H locs ls (lv_sub hl [1, 2, 3, 4, 5, 0] rfl) hP hD hS hw
        · have hw := hw.1 hc
          refine lv_iload_n hx hb d_Mo_statementOut_341 rfl (lv_at hl 2 rfl) ?_
          refine lv_bipush (v := (15 : Int32)) hx hb d_Mo_statementOut_342 (by decide) ?_
          refine lv_icmp_ne (tgt := 357) hx hb d_Mo_statementOut_344 (by decide) (fun hc => ?_) (fun hc => ?_)
          · have hw := hw.2 hc
            refine lv_iload hx hb d_Mo_statementOut_357 (lv_at hl 5 rfl) ?_
            refine lv_iconst (v := (2 : Int32)) hx hb d_Mo_statementOut_359 (by decide) ?_
            refine lv_icmp_ne (tgt := 376) hx hb d_Mo_statementOut_360 (by decide) (fun hc => ?_) (fun hc => ?_)
            · have hw := hw.2 hc
              refine lv_aload_n hx hb d_Mo_statementOut_376 rfl (lv_at hl 0 rfl) ?_
              refine lv_aload_n hx hb d_Mo_statementOut_377 rfl (lv_at hl 0 rfl) ?_
              refine lv_iload_n hx hb d_Mo_statementOut_378 rfl (lv_at hl 1 rfl) ?_
              refine lv_iload hx hb d_Mo_statementOut_379 (lv_at hl 5 rfl) ?_
              refine xq_go (wr := ([] : va_W)) (stk := fun r => .int r :: [.ref (ad_this 0)]) (xq_runV (As := [.int x1, .int x5]) (rest := [.ref (ad_this 0)]) ⟨hx, hb, hml, hown, hts⟩ (c_Mo_kid (l := l) (o := o) (D := D) (k := k) (ad_this := ad_this) hw) (cw_Mo_kid hts kw5_207 ⟨by simp only [rm_Mo_statementOut, rm_Mo_kid]; omega, by simp only [rm_Mo_statementOut, rm_Mo_kid]; omega⟩) (va_recv hK hP (ci := 8) (q0 := 0) rfl rfl) (hP.sub [0, 1, 2, 3, 4, 5, 6, 7, 8, 9, 10, 11, 12, 13, 14, 15, 16, 17] rfl) hK hJ hS (va_free hD hS hA [0, 1, 2, 3, 4, 5, 6, 7, 8, 9, 10, 11, 12, 13, 14, 15, 16, 17] rfl) ((hD.sub [0, 1, 2, 3, 4, 5, 6, 7, 8, 9, 10, 11, 12, 13, 14, 15, 16, 17] (by decide) rfl).weaken (fun _ _ _ _ => trivial)) rfl hl.1 (Nat.le_of_ble_eq_true rfl) d_Mo_statementOut_381 ⟨Nat.le_of_ble_eq_true rfl, Nat.le_of_ble_eq_true rfl⟩) hP hD hS hA [0, 1, 2, 3, 4, 5, 6, 7, 8, 9, 10, 11, 12, 13, 14, 15, 16, 17] [] rfl rfl (by decide) (by decide) (fun _ => rfl) (fun r18 u18 H locs hw hP hD hS => ?_) (fun _ _ _ _ h9 => h9.elim)
              have hP : va_P D vwCl (w_Mo k ad_this z_this) H := hP.sub [0, 1, 2, 3, 4, 5, 6, 7, 8, 9, 10, 11, 12, 13, 14, 15, 16, 17] rfl
              have hD : va_D A (w_Mo k ad_this z_this) := hD.sub [0, 1, 2, 3, 4, 5, 6, 7, 8, 9, 10, 11, 12, 13, 14, 15, 16, 17] (by decide) rfl
              refine xq_go (wr := ([] : va_W)) (stk := fun _ => []) (xq_runV (As := [.int r18]) (rest := []) ⟨hx, hb, hml, hown, hts⟩ (hrf (ad_this := ad_this) hw) (cw_Mo_blockOut hts kw6_32 ⟨by simp only [rm_Mo_statementOut]; omega, by simp only [rm_Mo_statementOut]; omega⟩) (va_recv hK hP (ci := 8) (q0 := 0) rfl rfl) (hP.sub [0, 1, 2, 3, 4, 5, 6, 7, 8, 9, 10, 11, 12, 13, 14, 15, 16, 17] rfl) hK hJ hS (va_free hD hS hA [0, 1, 2, 3, 4, 5, 6, 7, 8, 9, 10, 11, 12, 13, 14, 15, 16, 17] rfl) ((hD.sub [0, 1, 2, 3, 4, 5, 6, 7, 8, 9, 10, 11, 12, 13, 14, 15, 16, 17] (by decide) rfl).weaken (fun _ _ _ _ => trivial)) rfl hl.1 (Nat.le_of_ble_eq_true rfl) d_Mo_statementOut_384 ⟨Nat.le_of_ble_eq_true rfl, Nat.le_of_ble_eq_true rfl⟩) hP hD hS hA [0, 1, 2, 3, 4, 5, 6, 7, 8, 9, 10, 11, 12, 13, 14, 15, 16, 17] [] rfl rfl (by decide) (by decide) (fun _ => rfl) (fun r19 u19 H locs hw hP hD hS => ?_) (fun _ _ _ _ h9 => h9.elim)
              have hP : va_P D vwCl (w_Mo k ad_this u19) H := hP.sub [0, 1, 2, 3, 4, 5, 6, 7, 8, 9, 10, 11, 12, 13, 14, 15, 16, 17] rfl
              have hD : va_D A (w_Mo k ad_this u19) := hD.sub [0, 1, 2, 3, 4, 5, 6, 7, 8, 9, 10, 11, 12, 13, 14, 15, 16, 17] (by decide) rfl
              refine lv_goto (tgt := 421) hx hb d_Mo_statementOut_387 (by decide) ?_
              refine lv_iinc (v := (x5 + (1 : Int32))) (lv' := [(5, .int (x5 + (1 : Int32))), (0, .ref (ad_this 0)), (1, .int x1), (2, .int x2), (3, .int x3), (4, .int x4)]) hx hb d_Mo_statementOut_421 hl (k := 5) rfl rfl (by decide) rfl (fun ls hl => ?_)
              refine lv_goto (tgt := 308) hx hb d_Mo_statementOut_424 (by decide) ?_
              exact ih u19 x1 x2 x3 x4 (x5 + (1 : Int32)) H locs ls (lv_sub hl [1, 2, 3, 4, 5, 0] rfl) hP hD hS hw
            · have hw := hw.1 hc
              refine lv_iload_n hx hb d_Mo_statementOut_363 rfl (lv_at hl 2 rfl) ?_
              refine lv_bipush (v := (17 : Int32)) hx hb d_Mo_statementOut_364 (by decide) ?_
              refine lv_icmp_ne (tgt := 376) hx hb d_Mo_statementOut_366 (by decide) (fun hc => ?_) (fun hc => ?_)
              · have hw := hw.2 hc
                refine lv_aload_n hx hb d_Mo_statementOut_376 rfl (lv_at hl 0 rfl) ?_
                refine lv_aload_n hx hb d_Mo_statementOut_377 rfl (lv_at hl 0 rfl) ?_
                refine lv_iload_n hx hb d_Mo_statementOut_378 rfl (lv_at hl 1 rfl) ?_
                refine lv_iload hx hb d_Mo_statementOut_379 (lv_at hl 5 rfl) ?_
                refine xq_go (wr := ([] : va_W)) (stk := fun r => .int r :: [.ref (ad_this 0)]) (xq_runV (As := [.int x1, .int x5]) (rest := [.ref (ad_this 0)]) ⟨hx, hb, hml, hown, hts⟩ (c_Mo_kid (l := l) (o := o) (D := D) (k := k) (ad_this := ad_this) hw) (cw_Mo_kid hts kw5_207 ⟨by simp only [rm_Mo_statementOut, rm_Mo_kid]; omega, by simp only [rm_Mo_statementOut, rm_Mo_kid]; omega⟩) (va_recv hK hP (ci := 8) (q0 := 0) rfl rfl) (hP.sub [0, 1, 2, 3, 4, 5, 6, 7, 8, 9, 10, 11, 12, 13, 14, 15, 16, 17] rfl) hK hJ hS (va_free hD hS hA [0, 1, 2, 3, 4, 5, 6, 7, 8, 9, 10, 11, 12, 13, 14, 15, 16, 17] rfl) ((hD.sub [0, 1, 2, 3, 4, 5, 6, 7, 8, 9, 10, 11, 12, 13, 14, 15, 16, 17] (by decide) rfl).weaken (fun _ _ _ _ => trivial)) rfl hl.1 (Nat.le_of_ble_eq_true rfl) d_Mo_statementOut_381 ⟨Nat.le_of_ble_eq_true rfl, Nat.le_of_ble_eq_true rfl⟩) hP hD hS hA [0, 1, 2, 3, 4, 5, 6, 7, 8, 9, 10, 11, 12, 13, 14, 15, 16, 17] [] rfl rfl (by decide) (by decide) (fun _ => rfl) (fun r20 u20 H locs hw hP hD hS => ?_) (fun _ _ _ _ h9 => h9.elim)
                have hP : va_P D vwCl (w_Mo k ad_this z_this) H := hP.sub [0, 1, 2, 3, 4, 5, 6, 7, 8, 9, 10, 11, 12, 13, 14, 15, 16, 17] rfl
                have hD : va_D A (w_Mo k ad_this z_this) := hD.sub [0, 1, 2, 3, 4, 5, 6, 7, 8, 9, 10, 11, 12, 13, 14, 15, 16, 17] (by decide) rfl
                refine xq_go (wr := ([] : va_W)) (stk := fun _ => []) (xq_runV (As := [.int r20]) (rest := []) ⟨hx, hb, hml, hown, hts⟩ (hrf (ad_this := ad_this) hw) (cw_Mo_blockOut hts kw6_32 ⟨by simp only [rm_Mo_statementOut]; omega, by simp only [rm_Mo_statementOut]; omega⟩) (va_recv hK hP (ci := 8) (q0 := 0) rfl rfl) (hP.sub [0, 1, 2, 3, 4, 5, 6, 7, 8, 9, 10, 11, 12, 13, 14, 15, 16, 17] rfl) hK hJ hS (va_free hD hS hA [0, 1, 2, 3, 4, 5, 6, 7, 8, 9, 10, 11, 12, 13, 14, 15, 16, 17] rfl) ((hD.sub [0, 1, 2, 3, 4, 5, 6, 7, 8, 9, 10, 11, 12, 13, 14, 15, 16, 17] (by decide) rfl).weaken (fun _ _ _ _ => trivial)) rfl hl.1 (Nat.le_of_ble_eq_true rfl) d_Mo_statementOut_384 ⟨Nat.le_of_ble_eq_true rfl, Nat.le_of_ble_eq_true rfl⟩) hP hD hS hA [0, 1, 2, 3, 4, 5, 6, 7, 8, 9, 10, 11, 12, 13, 14, 15, 16, 17] [] rfl rfl (by decide) (by decide) (fun _ => rfl) (fun r21 u21 H locs hw hP hD hS => ?_) (fun _ _ _ _ h9 => h9.elim)
                have hP : va_P D vwCl (w_Mo k ad_this u21) H := hP.sub [0, 1, 2, 3, 4, 5, 6, 7, 8, 9, 10, 11, 12, 13, 14, 15, 16, 17] rfl
                have hD : va_D A (w_Mo k ad_this u21) := hD.sub [0, 1, 2, 3, 4, 5, 6, 7, 8, 9, 10, 11, 12, 13, 14, 15, 16, 17] (by decide) rfl
                refine lv_goto (tgt := 421) hx hb d_Mo_statementOut_387 (by decide) ?_
                refine lv_iinc (v := (x5 + (1 : Int32))) (lv' := [(5, .int (x5 + (1 : Int32))), (0, .ref (ad_this 0)), (1, .int x1), (2, .int x2), (3, .int x3), (4, .int x4)]) hx hb d_Mo_statementOut_421 hl (k := 5) rfl rfl (by decide) rfl (fun ls hl => ?_)
                refine lv_goto (tgt := 308) hx hb d_Mo_statementOut_424 (by decide) ?_
                exact ih u21 x1 x2 x3 x4 (x5 + (1 : Int32)) H locs ls (lv_sub hl [1, 2, 3, 4, 5, 0] rfl) hP hD hS hw
              · have hw := hw.1 hc
                refine lv_aload_n hx hb d_Mo_statementOut_369 rfl (lv_at hl 0 rfl) ?_
                refine lv_ldc2 (v := (1852139636 : Int64)) hx hb hown (hts (.constantLong R_Mo 116 (1852139636)) kw5_91) d_Mo_statementOut_370 ?_
                refine xq_go (wr := ([] : va_W)) (stk := fun _ => []) (xq_runV (As := [.long (1852139636 : Int64)]) (rest := []) ⟨hx, hb, hml, hown, hts⟩ (c_Mo_word (l := l) (o := o) (D := D) (k := k) (ad_this := ad_this) hw) (cw_Mo_word hts kw6_16 ⟨by simp only [rm_Mo_statementOut, rm_Mo_word]; omega, by simp only [rm_Mo_statementOut, rm_Mo_word]; omega⟩) (va_recv hK hP (ci := 8) (q0 := 0) rfl rfl) (hP.sub [0, 1, 2, 3, 4, 5, 6, 7, 8, 9, 10, 11, 12, 13, 14, 15, 16, 17] rfl) hK hJ hS (va_free hD hS hA [0, 1, 2, 3, 4, 5, 6, 7, 8, 9, 10, 11, 12, 13, 14, 15, 16, 17] rfl) ((hD.sub [0, 1, 2, 3, 4, 5, 6, 7, 8, 9, 10, 11, 12, 13, 14, 15, 16, 17] (by decide) rfl).weaken (fun _ _ _ _ => trivial)) rfl hl.1 (Nat.le_of_ble_eq_true rfl) d_Mo_statementOut_373 ⟨Nat.le_of_ble_eq_true rfl, Nat.le_of_ble_eq_true rfl⟩) hP hD hS hA [0, 1, 2, 3, 4, 5, 6, 7, 8, 9, 10, 11, 12, 13, 14, 15, 16, 17] [] rfl rfl (by decide) (by decide) (fun _ => rfl) (fun r22 u22 H locs hw hP hD hS => ?_) (fun _ _ _ _ h9 => h9.elim)
                have hP : va_P D vwCl (w_Mo k ad_this u22) H := hP.sub [0, 1, 2, 3, 4, 5, 6, 7, 8, 9, 10, 11, 12, 13, 14, 15, 16, 17] rfl
                have hD : va_D A (w_Mo k ad_this u22) := hD.sub [0, 1, 2, 3, 4, 5, 6, 7, 8, 9, 10, 11, 12, 13, 14, 15, 16, 17] (by decide) rfl
                refine lv_aload_n hx hb d_Mo_statementOut_376 rfl (lv_at hl 0 rfl) ?_
                refine lv_aload_n hx hb d_Mo_statementOut_377 rfl (lv_at hl 0 rfl) ?_
                refine lv_iload_n hx hb d_Mo_statementOut_378 rfl (lv_at hl 1 rfl) ?_
                refine lv_iload hx hb d_Mo_statementOut_379 (lv_at hl 5 rfl) ?_
                refine xq_go (wr := ([] : va_W)) (stk := fun r => .int r :: [.ref (ad_this 0)]) (xq_runV (As := [.int x1, .int x5]) (rest := [.ref (ad_this 0)]) ⟨hx, hb, hml, hown, hts⟩ (c_Mo_kid (l := l) (o := o) (D := D) (k := k) (ad_this := ad_this) hw) (cw_Mo_kid hts kw5_207 ⟨by simp only [rm_Mo_statementOut, rm_Mo_kid]; omega, by simp only [rm_Mo_statementOut, rm_Mo_kid]; omega⟩) (va_recv hK hP (ci := 8) (q0 := 0) rfl rfl) (hP.sub [0, 1, 2, 3, 4, 5, 6, 7, 8, 9, 10, 11, 12, 13, 14, 15, 16, 17] rfl) hK hJ hS (va_free hD hS hA [0, 1, 2, 3, 4, 5, 6, 7, 8, 9, 10, 11, 12, 13, 14, 15, 16, 17] rfl) ((hD.sub [0, 1, 2, 3, 4, 5, 6, 7, 8, 9, 10, 11, 12, 13, 14, 15, 16, 17] (by decide) rfl).weaken (fun _ _ _ _ => trivial)) rfl hl.1 (Nat.le_of_ble_eq_true rfl) d_Mo_statementOut_381 ⟨Nat.le_of_ble_eq_true rfl, Nat.le_of_ble_eq_true rfl⟩) hP hD hS hA [0, 1, 2, 3, 4, 5, 6, 7, 8, 9, 10, 11, 12, 13, 14, 15, 16, 17] [] rfl rfl (by decide) (by decide) (fun _ => rfl) (fun r23 u23 H locs hw hP hD hS => ?_) (fun _ _ _ _ h9 => h9.elim)
                have hP : va_P D vwCl (w_Mo k ad_this u22) H := hP.sub [0, 1, 2, 3, 4, 5, 6, 7, 8, 9, 10, 11, 12, 13, 14, 15, 16, 17] rfl
                have hD : va_D A (w_Mo k ad_this u22) := hD.sub [0, 1, 2, 3, 4, 5, 6, 7, 8, 9, 10, 11, 12, 13, 14, 15, 16, 17] (by decide) rfl
                refine xq_go (wr := ([] : va_W)) (stk := fun _ => []) (xq_runV (As := [.int r23]) (rest := []) ⟨hx, hb, hml, hown, hts⟩ (hrf (ad_this := ad_this) hw) (cw_Mo_blockOut hts kw6_32 ⟨by simp only [rm_Mo_statementOut]; omega, by simp only [rm_Mo_statementOut]; omega⟩) (va_recv hK hP (ci := 8) (q0 := 0) rfl rfl) (hP.sub [0, 1, 2, 3, 4, 5, 6, 7, 8, 9, 10, 11, 12, 13, 14, 15, 16, 17] rfl) hK hJ hS (va_free hD hS hA [0, 1, 2, 3, 4, 5, 6, 7, 8, 9, 10, 11, 12, 13, 14, 15, 16, 17] rfl) ((hD.sub [0, 1, 2, 3, 4, 5, 6, 7, 8, 9, 10, 11, 12, 13, 14, 15, 16, 17] (by decide) rfl).weaken (fun _ _ _ _ => trivial)) rfl hl.1 (Nat.le_of_ble_eq_true rfl) d_Mo_statementOut_384 ⟨Nat.le_of_ble_eq_true rfl, Nat.le_of_ble_eq_true rfl⟩) hP hD hS hA [0, 1, 2, 3, 4, 5, 6, 7, 8, 9, 10, 11, 12, 13, 14, 15, 16, 17] [] rfl rfl (by decide) (by decide) (fun _ => rfl) (fun r24 u24 H locs hw hP hD hS => ?_) (fun _ _ _ _ h9 => h9.elim)
                have hP : va_P D vwCl (w_Mo k ad_this u24) H := hP.sub [0, 1, 2, 3, 4, 5, 6, 7, 8, 9, 10, 11, 12, 13, 14, 15, 16, 17] rfl
                have hD : va_D A (w_Mo k ad_this u24) := hD.sub [0, 1, 2, 3, 4, 5, 6, 7, 8, 9, 10, 11, 12, 13, 14, 15, 16, 17] (by decide) rfl
                refine lv_goto (tgt := 421) hx hb d_Mo_statementOut_387 (by decide) ?_
                refine lv_iinc (v := (x5 + (1 : Int32))) (lv' := [(5, .int (x5 + (1 : Int32))), (0, .ref (ad_this 0)), (1, .int x1), (2, .int x2), (3, .int x3), (4, .int x4)]) hx hb d_Mo_statementOut_421 hl (k := 5) rfl rfl (by decide) rfl (fun ls hl => ?_)
                refine lv_goto (tgt := 308) hx hb d_Mo_statementOut_424 (by decide) ?_
                exact ih u24 x1 x2 x3 x4 (x5 + (1 : Int32)) H locs ls (lv_sub hl [1, 2, 3, 4, 5, 0] rfl) hP hD hS hw
          · have hw := hw.1 hc
            refine lv_aload_n hx hb d_Mo_statementOut_347 rfl (lv_at hl 0 rfl) ?_
            refine lv_ldc2 (v := (1702063205 : Int64)) hx hb hown (hts (.constantLong R_Mo 114 (1702063205)) kw5_90) d_Mo_statementOut_348 ?_
            refine xq_go (wr := ([] : va_W)) (stk := fun _ => []) (xq_runV (As := [.long (1702063205 : Int64)]) (rest := []) ⟨hx, hb, hml, hown, hts⟩ (c_Mo_word (l := l) (o := o) (D := D) (k := k) (ad_this := ad_this) hw) (cw_Mo_word hts kw6_16 ⟨by simp only [rm_Mo_statementOut, rm_Mo_word]; omega, by simp only [rm_Mo_statementOut, rm_Mo_word]; omega⟩) (va_recv hK hP (ci := 8) (q0 := 0) rfl rfl) (hP.sub [0, 1, 2, 3, 4, 5, 6, 7, 8, 9, 10, 11, 12, 13, 14, 15, 16, 17] rfl) hK hJ hS (va_free hD hS hA [0, 1, 2, 3, 4, 5, 6, 7, 8, 9, 10, 11, 12, 13, 14, 15, 16, 17] rfl) ((hD.sub [0, 1, 2, 3, 4, 5, 6, 7, 8, 9, 10, 11, 12, 13, 14, 15, 16, 17] (by decide) rfl).weaken (fun _ _ _ _ => trivial)) rfl hl.1 (Nat.le_of_ble_eq_true rfl) d_Mo_statementOut_351 ⟨Nat.le_of_ble_eq_true rfl, Nat.le_of_ble_eq_true rfl⟩) hP hD hS hA [0, 1, 2, 3, 4, 5, 6, 7, 8, 9, 10, 11, 12, 13, 14, 15, 16, 17] [] rfl rfl (by decide) (by decide) (fun _ => rfl) (fun r25 u25 H locs hw hP hD hS => ?_) (fun _ _ _ _ h9 => h9.elim)
            have hP : va_P D vwCl (w_Mo k ad_this u25) H := hP.sub [0, 1, 2, 3, 4, 5, 6, 7, 8, 9, 10, 11, 12, 13, 14, 15, 16, 17] rfl
            have hD : va_D A (w_Mo k ad_this u25) := hD.sub [0, 1, 2, 3, 4, 5, 6, 7, 8, 9, 10, 11, 12, 13, 14, 15, 16, 17] (by decide) rfl
            refine lv_goto (tgt := 376) hx hb d_Mo_statementOut_354 (by decide) ?_
            refine lv_aload_n hx hb d_Mo_statementOut_376 rfl (lv_at hl 0 rfl) ?_
            refine lv_aload_n hx hb d_Mo_statementOut_377 rfl (lv_at hl 0 rfl) ?_
            refine lv_iload_n hx hb d_Mo_statementOut_378 rfl (lv_at hl 1 rfl) ?_
            refine lv_iload hx hb d_Mo_statementOut_379 (lv_at hl 5 rfl) ?_
            refine xq_go (wr := ([] : va_W)) (stk := fun r => .int r :: [.ref (ad_this 0)]) (xq_runV (As := [.int x1, .int x5]) (rest := [.ref (ad_this 0)]) ⟨hx, hb, hml, hown, hts⟩ (c_Mo_kid (l := l) (o := o) (D := D) (k := k) (ad_this := ad_this) hw) (cw_Mo_kid hts kw5_207 ⟨by simp only [rm_Mo_statementOut, rm_Mo_kid]; omega, by simp only [rm_Mo_statementOut, rm_Mo_kid]; omega⟩) (va_recv hK hP (ci := 8) (q0 := 0) rfl rfl) (hP.sub [0, 1, 2, 3, 4, 5, 6, 7, 8, 9, 10, 11, 12, 13, 14, 15, 16, 17] rfl) hK hJ hS (va_free hD hS hA [0, 1, 2, 3, 4, 5, 6, 7, 8, 9, 10, 11, 12, 13, 14, 15, 16, 17] rfl) ((hD.sub [0, 1, 2, 3, 4, 5, 6, 7, 8, 9, 10, 11, 12, 13, 14, 15, 16, 17] (by decide) rfl).weaken (fun _ _ _ _ => trivial)) rfl hl.1 (Nat.le_of_ble_eq_true rfl) d_Mo_statementOut_381 ⟨Nat.le_of_ble_eq_true rfl, Nat.le_of_ble_eq_true rfl⟩) hP hD hS hA [0, 1, 2, 3, 4, 5, 6, 7, 8, 9, 10, 11, 12, 13, 14, 15, 16, 17] [] rfl rfl (by decide) (by decide) (fun _ => rfl) (fun r26 u26 H locs hw hP hD hS => ?_) (fun _ _ _ _ h9 => h9.elim)
            have hP : va_P D vwCl (w_Mo k ad_this u25) H := hP.sub [0, 1, 2, 3, 4, 5, 6, 7, 8, 9, 10, 11, 12, 13, 14, 15, 16, 17] rfl
            have hD : va_D A (w_Mo k ad_this u25) := hD.sub [0, 1, 2, 3, 4, 5, 6, 7, 8, 9, 10, 11, 12, 13, 14, 15, 16, 17] (by decide) rfl
            refine xq_go (wr := ([] : va_W)) (stk := fun _ => []) (xq_runV (As := [.int r26]) (rest := []) ⟨hx, hb, hml, hown, hts⟩ (hrf (ad_this := ad_this) hw) (cw_Mo_blockOut hts kw6_32 ⟨by simp only [rm_Mo_statementOut]; omega, by simp only [rm_Mo_statementOut]; omega⟩) (va_recv hK hP (ci := 8) (q0 := 0) rfl rfl) (hP.sub [0, 1, 2, 3, 4, 5, 6, 7, 8, 9, 10, 11, 12, 13, 14, 15, 16, 17] rfl) hK hJ hS (va_free hD hS hA [0, 1, 2, 3, 4, 5, 6, 7, 8, 9, 10, 11, 12, 13, 14, 15, 16, 17] rfl) ((hD.sub [0, 1, 2, 3, 4, 5, 6, 7, 8, 9, 10, 11, 12, 13, 14, 15, 16, 17] (by decide) rfl).weaken (fun _ _ _ _ => trivial)) rfl hl.1 (Nat.le_of_ble_eq_true rfl) d_Mo_statementOut_384 ⟨Nat.le_of_ble_eq_true rfl, Nat.le_of_ble_eq_true rfl⟩) hP hD hS hA [0, 1, 2, 3, 4, 5, 6, 7, 8, 9, 10, 11, 12, 13, 14, 15, 16, 17] [] rfl rfl (by decide) (by decide) (fun _ => rfl) (fun r27 u27 H locs hw hP hD hS => ?_) (fun _ _ _ _ h9 => h9.elim)
            have hP : va_P D vwCl (w_Mo k ad_this u27) H := hP.sub [0, 1, 2, 3, 4, 5, 6, 7, 8, 9, 10, 11, 12, 13, 14, 15, 16, 17] rfl
            have hD : va_D A (w_Mo k ad_this u27) := hD.sub [0, 1, 2, 3, 4, 5, 6, 7, 8, 9, 10, 11, 12, 13, 14, 15, 16, 17] (by decide) rfl
            refine lv_goto (tgt := 421) hx hb d_Mo_statementOut_387 (by decide) ?_
            refine lv_iinc (v := (x5 + (1 : Int32))) (lv' := [(5, .int (x5 + (1 : Int32))), (0, .ref (ad_this 0)), (1, .int x1), (2, .int x2), (3, .int x3), (4, .int x4)]) hx hb d_Mo_statementOut_421 hl (k := 5) rfl rfl (by decide) rfl (fun ls hl => ?_)
            refine lv_goto (tgt := 308) hx hb d_Mo_statementOut_424 (by decide) ?_
            exact ih u27 x1 x2 x3 x4 (x5 + (1 : Int32)) H locs ls (lv_sub hl [1, 2, 3, 4, 5, 0] rfl) hP hD hS hw
set_option maxHeartbeats 4000000 in
set_option maxRecDepth 100000 in
theorem t_Mo_statementOut_J439 {p : Program} {l : Launch} {o : State × Array Value} {e : Env} {s : State} {m : MethodId} {args : Array Value} {below : List Frame} {meth : Method} {c : Code} {D : va_G} {k : Nat → ClassId} {w0 : va_W} {A : Nat → Prop} {ad_this : Nat → Nat} {post : Unit → T_Mo → Prop} {d : Nat} {rf : T_Mo → Int32 → (Unit → T_Mo → Prop) → Prop} {F L : Nat} (hrf : ∀ {ad_this : Nat → Nat} {z_this : T_Mo} {a1 : Int32} {post : Unit → T_Mo → Prop}, rf z_this a1 post → xq_C l o y_Mo_blockOut (.code y_Mo_blockOut prog_10_method_60_code 3 none :: xq_W) { frames := F, cells := 0, slots := 0, locals := L } D vwCl (xt k) [.ref (ad_this 0), .int a1] (w_Mo k ad_this z_this) (fun _ : Unit => none) post (fun _ : T_Mo => False) (fun u : T_Mo => w_Mo k ad_this u) 0 0 0 0) (hAt : xq_At p s m args meth c prog_10_method_61_code 6 none y_Mo_statementOut xq_W) (hK : va_K D vwCl (xt k) s) (hJ : xq_J l o A s s.heap) (hAe : va_A w0 s.heap.size = A) (hA : ∀ q, s.heap.size ≤ q → A q) :
    ∀ (z_this : T_Mo) (x1 : Int32) (x2 : Int32) (x3 : Int32) (x4 : Int32) (x5 : Int32) (H : Heap) (locs : List Loc) (ls : Array Slot), lv_has ls 6 [(0, .ref (ad_this 0)), (1, .int x1), (2, .int x2), (3, .int x3), (4, .int x4), (5, .int x5)] → va_P D vwCl (w_Mo k ad_this z_this) H → va_D A (w_Mo k ad_this z_this) → va_S A s.heap H locs → wp_Mo_statementOut_J439 d rf post z_this x1 x2 x3 x4 x5 → W p l e (rm_Mo_statementOut d F L) s m args below meth c H locs 0 0 (xq_Z below D vwCl (xt k) w0 (fun _ : Unit => none) post (fun _ : T_Mo => False) (fun u : T_Mo => w_Mo k ad_this u) 0 0 0 0 s) (F0 m 439 ls []) := by
  obtain ⟨hx, hb, hml, hr, hlocks, hown, hts, hex, hnm⟩ := id hAt
  intro z_this x1 x2 x3 x4 x5 H locs ls hl hP hD hS hw
  unfold wp_Mo_statementOut_J439 at hw
  refine lv_aload_n hx hb d_Mo_statementOut_439 rfl (lv_at hl 0 rfl) ?_
  refine xq_go (wr := ([] : va_W)) (stk := fun _ => []) (xq_runV (As := []) (rest := []) ⟨hx, hb, hml, hown, hts⟩ (c_Mo_newLine (l := l) (o := o) (D := D) (k := k) (ad_this := ad_this) hw) (cw_Mo_newLine hts kw6_36 ⟨by simp only [rm_Mo_statementOut, rm_Mo_newLine]; omega, by simp only [rm_Mo_statementOut, rm_Mo_newLine]; omega⟩) (va_recv hK hP (ci := 8) (q0 := 0) rfl rfl) (hP.sub [0, 1, 2, 3, 4, 5, 6, 7, 8, 9, 10, 11, 12, 13, 14, 15, 16, 17] rfl) hK hJ hS (va_free hD hS hA [0, 1, 2, 3, 4, 5, 6, 7, 8, 9, 10, 11, 12, 13, 14, 15, 16, 17] rfl) ((hD.sub [0, 1, 2, 3, 4, 5, 6, 7, 8, 9, 10, 11, 12, 13, 14, 15, 16, 17] (by decide) rfl).weaken (fun _ _ _ _ => trivial)) rfl hl.1 (Nat.le_of_ble_eq_true rfl) d_Mo_statementOut_440 ⟨Nat.le_of_ble_eq_true rfl, Nat.le_of_ble_eq_true rfl⟩) hP hD hS hA [0, 1, 2, 3, 4, 5, 6, 7, 8, 9, 10, 11, 12, 13, 14, 15, 16, 17] [] rfl rfl (by decide) (by decide) (fun _ => rfl) (fun r28 u28 H locs hw hP hD hS => ?_) (fun _ _ _ _ h9 => h9.elim)
  have hP : va_P D vwCl (w_Mo k ad_this u28) H := hP.sub [0, 1, 2, 3, 4, 5, 6, 7, 8, 9, 10, 11, 12, 13, 14, 15, 16, 17] rfl
  have hD : va_D A (w_Mo k ad_this u28) := hD.sub [0, 1, 2, 3, 4, 5, 6, 7, 8, 9, 10, 11, 12, 13, 14, 15, 16, 17] (by decide) rfl
  exact xq_vret (r := ()) (u := u28) hx hb hr hlocks hAe hP hD hS rfl hw (Nat.le_of_ble_eq_true rfl) (Nat.le_of_ble_eq_true rfl) d_Mo_statementOut_443
set_option maxHeartbeats 4000000 in
set_option maxRecDepth 100000 in
theorem t_Mo_statementOut_J303 {p : Program} {l : Launch} {o : State × Array Value} {e : Env} {s : State} {m : MethodId} {args : Array Value} {below : List Frame} {meth : Method} {c : Code} {D : va_G} {k : Nat → ClassId} {w0 : va_W} {A : Nat → Prop} {ad_this : Nat → Nat} {post : Unit → T_Mo → Prop} {d : Nat} {rf : T_Mo → Int32 → (Unit → T_Mo → Prop) → Prop} {F L : Nat} (hrf : ∀ {ad_this : Nat → Nat} {z_this : T_Mo} {a1 : Int32} {post : Unit → T_Mo → Prop}, rf z_this a1 post → xq_C l o y_Mo_blockOut (.code y_Mo_blockOut prog_10_method_60_code 3 none :: xq_W) { frames := F, cells := 0, slots := 0, locals := L } D vwCl (xt k) [.ref (ad_this 0), .int a1] (w_Mo k ad_this z_this) (fun _ : Unit => none) post (fun _ : T_Mo => False) (fun u : T_Mo => w_Mo k ad_this u) 0 0 0 0) (hAt : xq_At p s m args meth c prog_10_method_61_code 6 none y_Mo_statementOut xq_W) (hK : va_K D vwCl (xt k) s) (hJ : xq_J l o A s s.heap) (hAe : va_A w0 s.heap.size = A) (hA : ∀ q, s.heap.size ≤ q → A q) :
    ∀ (z_this : T_Mo) (x1 : Int32) (x2 : Int32) (x3 : Int32) (y0 : Int32) (H : Heap) (locs : List Loc) (ls : Array Slot), lv_has ls 6 [(0, .ref (ad_this 0)), (1, .int x1), (2, .int x2), (3, .int x3)] → va_P D vwCl (w_Mo k ad_this z_this) H → va_D A (w_Mo k ad_this z_this) → va_S A s.heap H locs → wp_Mo_statementOut_J303 d rf post z_this x1 x2 x3 y0 → W p l e (rm_Mo_statementOut d F L) s m args below meth c H locs 0 0 (xq_Z below D vwCl (xt k) w0 (fun _ : Unit => none) post (fun _ : T_Mo => False) (fun u : T_Mo => w_Mo k ad_this u) 0 0 0 0 s) (F0 m 303 ls [.int y0]) := by
  obtain ⟨hx, hb, hml, hr, hlocks, hown, hts, hex, hnm⟩ := id hAt
  intro z_this x1 x2 x3 y0 H locs ls hl hP hD hS hw
  unfold wp_Mo_statementOut_J303 at hw
  refine lv_istore (lv' := [(4, .int y0), (0, .ref (ad_this 0)), (1, .int x1), (2, .int x2), (3, .int x3)]) hx hb d_Mo_statementOut_303 hl (by decide) rfl (fun ls hl => ?_)
  refine lv_iconst (v := (0 : Int32)) hx hb d_Mo_statementOut_305 (by decide) ?_
  refine lv_istore (lv' := [(5, .int (0 : Int32)), (4, .int y0), (0, .ref (ad_this 0)), (1, .int x1), (2, .int x2), (3, .int x3)]) hx hb d_Mo_statementOut_306 hl (by decide) rfl (fun ls hl => ?_)
  obtain ⟨k9, hw⟩ := hw
  refine t_Mo_statementOut_L308 (hrf := @hrf) hAt hK hJ hAe hA ?_ k9 z_this x1 x2 x3 y0 (0 : Int32) H locs ls (lv_sub hl [2, 3, 4, 5, 1, 0] rfl) hP hD hS hw
  intro z_this x1 x2 x3 x4 x5 H locs ls hl hP hD hS hw
  refine lv_iload hx hb d_Mo_statementOut_427 (lv_at hl 4 rfl) ?_
  refine lv_if_ne (tgt := 439) hx hb d_Mo_statementOut_429 (by decide) (fun hc => ?_) (fun hc => ?_)
  · have hw := hw.2 hc
    exact t_Mo_statementOut_J439 (hrf := @hrf) hAt hK hJ hAe hA z_this x1 x2 x3 x4 x5 H locs ls (lv_sub hl [0, 1, 2, 3, 4, 5] rfl) hP hD hS hw
  · have hw := hw.1 hc
    refine lv_aload_n hx hb d_Mo_statementOut_432 rfl (lv_at hl 0 rfl) ?_
    refine lv_ldc2 (v := (59 : Int64)) hx hb hown (hts (.constantLong R_Mo 391 (59)) kw6_74) d_Mo_statementOut_433 ?_
    refine xq_go (wr := ([] : va_W)) (stk := fun _ => []) (xq_runV (As := [.long (59 : Int64)]) (rest := []) ⟨hx, hb, hml, hown, hts⟩ (c_Mo_word (l := l) (o := o) (D := D) (k := k) (ad_this := ad_this) hw) (cw_Mo_word hts kw6_16 ⟨by simp only [rm_Mo_statementOut, rm_Mo_word]; omega, by simp only [rm_Mo_statementOut, rm_Mo_word]; omega⟩) (va_recv hK hP (ci := 8) (q0 := 0) rfl rfl) (hP.sub [0, 1, 2, 3, 4, 5, 6, 7, 8, 9, 10, 11, 12, 13, 14, 15, 16, 17] rfl) hK hJ hS (va_free hD hS hA [0, 1, 2, 3, 4, 5, 6, 7, 8, 9, 10, 11, 12, 13, 14, 15, 16, 17] rfl) ((hD.sub [0, 1, 2, 3, 4, 5, 6, 7, 8, 9, 10, 11, 12, 13, 14, 15, 16, 17] (by decide) rfl).weaken (fun _ _ _ _ => trivial)) rfl hl.1 (Nat.le_of_ble_eq_true rfl) d_Mo_statementOut_436 ⟨Nat.le_of_ble_eq_true rfl, Nat.le_of_ble_eq_true rfl⟩) hP hD hS hA [0, 1, 2, 3, 4, 5, 6, 7, 8, 9, 10, 11, 12, 13, 14, 15, 16, 17] [] rfl rfl (by decide) (by decide) (fun _ => rfl) (fun r29 u29 H locs hw hP hD hS => ?_) (fun _ _ _ _ h9 => h9.elim)
    have hP : va_P D vwCl (w_Mo k ad_this u29) H := hP.sub [0, 1, 2, 3, 4, 5, 6, 7, 8, 9, 10, 11, 12, 13, 14, 15, 16, 17] rfl
    have hD : va_D A (w_Mo k ad_this u29) := hD.sub [0, 1, 2, 3, 4, 5, 6, 7, 8, 9, 10, 11, 12, 13, 14, 15, 16, 17] (by decide) rfl
    exact t_Mo_statementOut_J439 (hrf := @hrf) hAt hK hJ hAe hA u29 x1 x2 x3 x4 x5 H locs ls (lv_sub hl [0, 1, 2, 3, 4, 5] rfl) hP hD hS hw
set_option maxHeartbeats 4000000 in
set_option maxRecDepth 100000 in
theorem t_Mo_statementOut_J302 {p : Program} {l : Launch} {o : State × Array Value} {e : Env} {s : State} {m : MethodId} {args : Array Value} {below : List Frame} {meth : Method} {c : Code} {D : va_G} {k : Nat → ClassId} {w0 : va_W} {A : Nat → Prop} {ad_this : Nat → Nat} {post : Unit → T_Mo → Prop} {d : Nat} {rf : T_Mo → Int32 → (Unit → T_Mo → Prop) → Prop} {F L : Nat} (hrf : ∀ {ad_this : Nat → Nat} {z_this : T_Mo} {a1 : Int32} {post : Unit → T_Mo → Prop}, rf z_this a1 post → xq_C l o y_Mo_blockOut (.code y_Mo_blockOut prog_10_method_60_code 3 none :: xq_W) { frames := F, cells := 0, slots := 0, locals := L } D vwCl (xt k) [.ref (ad_this 0), .int a1] (w_Mo k ad_this z_this) (fun _ : Unit => none) post (fun _ : T_Mo => False) (fun u : T_Mo => w_Mo k ad_this u) 0 0 0 0) (hAt : xq_At p s m args meth c prog_10_method_61_code 6 none y_Mo_statementOut xq_W) (hK : va_K D vwCl (xt k) s) (hJ : xq_J l o A s s.heap) (hAe : va_A w0 s.heap.size = A) (hA : ∀ q, s.heap.size ≤ q → A q) :
    ∀ (z_this : T_Mo) (x1 : Int32) (x2 : Int32) (x3 : Int32) (H : Heap) (locs : List Loc) (ls : Array Slot), lv_has ls 6 [(0, .ref (ad_this 0)), (1, .int x1), (2, .int x2), (3, .int x3)] → va_P D vwCl (w_Mo k ad_this z_this) H → va_D A (w_Mo k ad_this z_this) → va_S A s.heap H locs → wp_Mo_statementOut_J302 d rf post z_this x1 x2 x3 → W p l e (rm_Mo_statementOut d F L) s m args below meth c H locs 0 0 (xq_Z below D vwCl (xt k) w0 (fun _ : Unit => none) post (fun _ : T_Mo => False) (fun u : T_Mo => w_Mo k ad_this u) 0 0 0 0 s) (F0 m 302 ls []) := by
  obtain ⟨hx, hb, hml, hr, hlocks, hown, hts, hex, hnm⟩ := id hAt
  intro z_this x1 x2 x3 H locs ls hl hP hD hS hw
  unfold wp_Mo_statementOut_J302 at hw
  refine lv_iconst (v := (0 : Int32)) hx hb d_Mo_statementOut_302 (by decide) ?_
  exact t_Mo_statementOut_J303 (hrf := @hrf) hAt hK hJ hAe hA z_this x1 x2 x3 (0 : Int32) H locs ls (lv_sub hl [0, 1, 2, 3] rfl) hP hD hS hw
set_option maxHeartbeats 4000000 in
set_option maxRecDepth 100000 in
theorem t_Mo_statementOut_J286 {p : Program} {l : Launch} {o : State × Array Value} {e : Env} {s : State} {m : MethodId} {args : Array Value} {below : List Frame} {meth : Method} {c : Code} {D : va_G} {k : Nat → ClassId} {w0 : va_W} {A : Nat → Prop} {ad_this : Nat → Nat} {post : Unit → T_Mo → Prop} {d : Nat} {rf : T_Mo → Int32 → (Unit → T_Mo → Prop) → Prop} {F L : Nat} (hrf : ∀ {ad_this : Nat → Nat} {z_this : T_Mo} {a1 : Int32} {post : Unit → T_Mo → Prop}, rf z_this a1 post → xq_C l o y_Mo_blockOut (.code y_Mo_blockOut prog_10_method_60_code 3 none :: xq_W) { frames := F, cells := 0, slots := 0, locals := L } D vwCl (xt k) [.ref (ad_this 0), .int a1] (w_Mo k ad_this z_this) (fun _ : Unit => none) post (fun _ : T_Mo => False) (fun u : T_Mo => w_Mo k ad_this u) 0 0 0 0) (hAt : xq_At p s m args meth c prog_10_method_61_code 6 none y_Mo_statementOut xq_W) (hK : va_K D vwCl (xt k) s) (hJ : xq_J l o A s s.heap) (hAe : va_A w0 s.heap.size = A) (hA : ∀ q, s.heap.size ≤ q → A q) :
    ∀ (z_this : T_Mo) (x1 : Int32) (x2 : Int32) (x3 : Int32) (H : Heap) (locs : List Loc) (ls : Array Slot), lv_has ls 6 [(0, .ref (ad_this 0)), (1, .int x1), (2, .int x2), (3, .int x3)] → va_P D vwCl (w_Mo k ad_this z_this) H → va_D A (w_Mo k ad_this z_this) → va_S A s.heap H locs → wp_Mo_statementOut_J286 d rf post z_this x1 x2 x3 → W p l e (rm_Mo_statementOut d F L) s m args below meth c H locs 0 0 (xq_Z below D vwCl (xt k) w0 (fun _ : Unit => none) post (fun _ : T_Mo => False) (fun u : T_Mo => w_Mo k ad_this u) 0 0 0 0 s) (F0 m 286 ls []) := by
  obtain ⟨hx, hb, hml, hr, hlocks, hown, hts, hex, hnm⟩ := id hAt
  intro z_this x1 x2 x3 H locs ls hl hP hD hS hw
  unfold wp_Mo_statementOut_J286 at hw
  refine lv_iload_n hx hb d_Mo_statementOut_286 rfl (lv_at hl 2 rfl) ?_
  refine lv_bipush (v := (14 : Int32)) hx hb d_Mo_statementOut_287 (by decide) ?_
  refine lv_icmp_lt (tgt := 302) hx hb d_Mo_statementOut_289 (by decide) (fun hc => ?_) (fun hc => ?_)
  · have hw := hw.1 hc
    exact t_Mo_statementOut_J302 (hrf := @hrf) hAt hK hJ hAe hA z_this x1 x2 x3 H locs ls (lv_sub hl [0, 1, 2, 3] rfl) hP hD hS hw
  · have hw := hw.2 hc
    refine lv_iload_n hx hb d_Mo_statementOut_292 rfl (lv_at hl 2 rfl) ?_
    refine lv_bipush (v := (17 : Int32)) hx hb d_Mo_statementOut_293 (by decide) ?_
    refine lv_icmp_gt (tgt := 302) hx hb d_Mo_statementOut_295 (by decide) (fun hc => ?_) (fun hc => ?_)
    · have hw := hw.1 hc
      exact t_Mo_statementOut_J302 (hrf := @hrf) hAt hK hJ hAe hA z_this x1 x2 x3 H locs ls (lv_sub hl [0, 1, 2, 3] rfl) hP hD hS hw
    · have hw := hw.2 hc
      refine lv_iconst (v := (1 : Int32)) hx hb d_Mo_statementOut_298 (by decide) ?_
      refine lv_goto (tgt := 303) hx hb d_Mo_statementOut_299 (by decide) ?_
      exact t_Mo_statementOut_J303 (hrf := @hrf) hAt hK hJ hAe hA z_this x1 x2 x3 (1 : Int32) H locs ls (lv_sub hl [0, 1, 2, 3] rfl) hP hD hS hw
set_option maxHeartbeats 4000000 in
set_option maxRecDepth 100000 in
theorem c_Mo_statementOut {l : Launch} {o : State × Array Value} {D : va_G} {k : Nat → ClassId} {d : Nat} {rf : T_Mo → Int32 → (Unit → T_Mo → Prop) → Prop} {F L : Nat} (hrf : ∀ {ad_this : Nat → Nat} {z_this : T_Mo} {a1 : Int32} {post : Unit → T_Mo → Prop}, rf z_this a1 post → xq_C l o y_Mo_blockOut (.code y_Mo_blockOut prog_10_method_60_code 3 none :: xq_W) { frames := F, cells := 0, slots := 0, locals := L } D vwCl (xt k) [.ref (ad_this 0), .int a1] (w_Mo k ad_this z_this) (fun _ : Unit => none) post (fun _ : T_Mo => False) (fun u : T_Mo => w_Mo k ad_this u) 0 0 0 0) {ad_this : Nat → Nat} {z_this : T_Mo} {a1 : Int32} {post : Unit → T_Mo → Prop} (hw : wp_Mo_statementOut d rf z_this a1 post) : xq_C l o y_Mo_statementOut (.code y_Mo_statementOut prog_10_method_61_code 6 none :: xq_W) (rm_Mo_statementOut d F L) D vwCl (xt k) [.ref (ad_this 0), .int a1] (w_Mo k ad_this z_this) (fun _ : Unit => none) post (fun _ : T_Mo => False) (fun u : T_Mo => w_Mo k ad_this u) 0 0 0 0 := by
  refine xq_ofW (cc := prog_10_method_61_code) (maxL := 6) (ret := none) (by decide) rfl (Nat.le_of_ble_eq_true rfl) ?_
  intro p e s m below meth c ls H locs A hAt hAe hA hl hK hJ hP0 hP hD hS
  obtain ⟨hx, hb, hml, hr, hlocks, hown, hts, hex, hnm⟩ := id hAt
  have hl : lv_has ls 6 [(0, .ref (ad_this 0)), (1, .int a1)] := hl
  unfold wp_Mo_statementOut at hw
  refine lv_aload_n hx hb d_Mo_statementOut_0 rfl (lv_at hl 0 rfl) ?_
  refine va_get (D := D) (ci := 8) (v := .ref (ad_this 2)) (C := R_Mo) (T := F_Mo) (N := 42) hx hb hts in_Mo hown hK hP 0 rfl rfl 14 (by decide) (hts (.fieldLink R_Mo 13 R_Mo "whats" "[I") kw4_157) (fun _ h9 => h9) rfl d_Mo_statementOut_1 ?_
  refine lv_aload_n hx hb d_Mo_statementOut_4 rfl (lv_at hl 0 rfl) ?_
  refine lv_iload_n hx hb d_Mo_statementOut_5 rfl (lv_at hl 1 rfl) ?_
  refine xq_go (wr := ([] : va_W)) (stk := fun r => .int r :: [.ref (ad_this 2)]) (xq_runV (As := [.int a1]) (rest := [.ref (ad_this 2)]) ⟨hx, hb, hml, hown, hts⟩ (c_Mo_node1 (l := l) (o := o) (D := D) (k := k) (ad_this := ad_this) hw) (cw_Mo_node1 hts kw5_199 ⟨by simp only [rm_Mo_statementOut, rm_Mo_node1]; omega, by simp only [rm_Mo_statementOut, rm_Mo_node1]; omega⟩) (va_recv hK hP (ci := 8) (q0 := 0) rfl rfl) (hP.sub [0, 1, 2, 3, 4, 5, 6, 7, 8, 9, 10, 11, 12, 13, 14, 15, 16, 17] rfl) hK hJ hS (va_free hD hS hA [0, 1, 2, 3, 4, 5, 6, 7, 8, 9, 10, 11, 12, 13, 14, 15, 16, 17] rfl) ((hD.sub [0, 1, 2, 3, 4, 5, 6, 7, 8, 9, 10, 11, 12, 13, 14, 15, 16, 17] (by decide) rfl).weaken (fun _ _ _ _ => trivial)) rfl hl.1 (Nat.le_of_ble_eq_true rfl) d_Mo_statementOut_6 ⟨Nat.le_of_ble_eq_true rfl, Nat.le_of_ble_eq_true rfl⟩) hP hD hS hA [0, 1, 2, 3, 4, 5, 6, 7, 8, 9, 10, 11, 12, 13, 14, 15, 16, 17] [] rfl rfl (by decide) (by decide) (fun _ => rfl) (fun r1 u1 H locs hw hP hD hS => ?_) (fun _ _ _ _ h9 => h9.elim)
  have hP : va_P D vwCl (w_Mo k ad_this z_this) H := hP.sub [0, 1, 2, 3, 4, 5, 6, 7, 8, 9, 10, 11, 12, 13, 14, 15, 16, 17] rfl
  have hD : va_D A (w_Mo k ad_this z_this) := hD.sub [0, 1, 2, 3, 4, 5, 6, 7, 8, 9, 10, 11, 12, 13, 14, 15, 16, 17] (by decide) rfl
  refine va_iald hx hb hK hP 2 0 rfl rfl hw.1 d_Mo_statementOut_9 ?_
  have hw := hw.2
  refine lv_istore_n (lv' := [(2, .int (z_this.1.2.1.2.2.2 (r1).toNatClampNeg)), (0, .ref (ad_this 0)), (1, .int a1)]) hx hb d_Mo_statementOut_10 rfl hl (by decide) rfl (fun ls hl => ?_)
  refine lv_aload_n hx hb d_Mo_statementOut_11 rfl (lv_at hl 1 rfl) ?_
  refine va_get (D := D) (ci := 8) (v := .ref (ad_this 7)) (C := R_Mo) (T := F_Mo) (N := 42) hx hb hts in_Mo hown hK hP 0 rfl rfl 19 (by decide) (hts (.fieldLink R_Mo 30 R_Mo "kidCount" "[I") kw4_162) (fun _ h9 => h9) rfl d_Mo_statementOut_12 ?_
  refine lv_aload_n hx hb d_Mo_statementOut_15 rfl (lv_at hl 1 rfl) ?_
  refine lv_iload_n hx hb d_Mo_statementOut_16 rfl (lv_at hl 2 rfl) ?_
  refine xq_go (wr := ([] : va_W)) (stk := fun r => .int r :: [.ref (ad_this 7)]) (xq_runV (As := [.int a1]) (rest := [.ref (ad_this 7)]) ⟨hx, hb, hml, hown, hts⟩ (c_Mo_node1 (l := l) (o := o) (D := D) (k := k) (ad_this := ad_this) hw) (cw_Mo_node1 hts kw5_199 ⟨by simp only [rm_Mo_statementOut, rm_Mo_node1]; omega, by simp only [rm_Mo_statementOut, rm_Mo_node1]; omega⟩) (va_recv hK hP (ci := 8) (q0 := 0) rfl rfl) (hP.sub [0, 1, 2, 3, 4, 5, 6, 7, 8, 9, 10, 11, 12, 13, 14, 15, 16, 17] rfl) hK hJ hS (va_free hD hS hA [0, 1, 2, 3, 4, 5, 6, 7, 8, 9, 10, 11, 12, 13, 14, 15, 16, 17] rfl) ((hD.sub [0, 1, 2, 3, 4, 5, 6, 7, 8, 9, 10, 11, 12, 13, 14, 15, 16, 17] (by decide) rfl).weaken (fun _ _ _ _ => trivial)) rfl hl.1 (Nat.le_of_ble_eq_true rfl) d_Mo_statementOut_17 ⟨Nat.le_of_ble_eq_true rfl, Nat.le_of_ble_eq_true rfl⟩) hP hD hS hA [0, 1, 2, 3, 4, 5, 6, 7, 8, 9, 10, 11, 12, 13, 14, 15, 16, 17] [] rfl rfl (by decide) (by decide) (fun _ => rfl) (fun r2 u2 H locs hw hP hD hS => ?_) (fun _ _ _ _ h9 => h9.elim)
  have hP : va_P D vwCl (w_Mo k ad_this z_this) H := hP.sub [0, 1, 2, 3, 4, 5, 6, 7, 8, 9, 10, 11, 12, 13, 14, 15, 16, 17] rfl
  have hD : va_D A (w_Mo k ad_this z_this) := hD.sub [0, 1, 2, 3, 4, 5, 6, 7, 8, 9, 10, 11, 12, 13, 14, 15, 16, 17] (by decide) rfl
  refine va_iald hx hb hK hP 7 0 rfl rfl hw.1 d_Mo_statementOut_20 ?_
  have hw := hw.2
  refine lv_istore_n (lv' := [(3, .int (z_this.1.2.2.2.2.1 (r2).toNatClampNeg)), (2, .int (z_this.1.2.1.2.2.2 (r1).toNatClampNeg)), (0, .ref (ad_this 0)), (1, .int a1)]) hx hb d_Mo_statementOut_21 rfl hl (by decide) rfl (fun ls hl => ?_)
  refine lv_iload_n hx hb d_Mo_statementOut_22 rfl (lv_at hl 1 rfl) ?_
  by_cases hc0 : (z_this.1.2.1.2.2.2 (r1).toNatClampNeg) = (10 : Int32)
  · have hw := hw.1 hc0
    refine W.eq (g2 := F0 m 23 ls ([.int (10 : Int32)])) (by rw [hc0]) ?_
    refine lv_tableIn (tgt := 84) hx hb d_Mo_statementOut_23 (by decide) (by decide) rfl (by decide) ?_
    refine lv_aload_n hx hb d_Mo_statementOut_84 rfl (lv_at hl 2 rfl) ?_
    refine lv_ldc2 (v := (7628147 : Int64)) hx hb hown (hts (.constantLong R_Mo 76 (7628147)) kw5_68) d_Mo_statementOut_85 ?_
    refine xq_go (wr := ([] : va_W)) (stk := fun _ => []) (xq_runV (As := [.long (7628147 : Int64)]) (rest := []) ⟨hx, hb, hml, hown, hts⟩ (c_Mo_word (l := l) (o := o) (D := D) (k := k) (ad_this := ad_this) hw) (cw_Mo_word hts kw6_16 ⟨by simp only [rm_Mo_statementOut, rm_Mo_word]; omega, by simp only [rm_Mo_statementOut, rm_Mo_word]; omega⟩) (va_recv hK hP (ci := 8) (q0 := 0) rfl rfl) (hP.sub [0, 1, 2, 3, 4, 5, 6, 7, 8, 9, 10, 11, 12, 13, 14, 15, 16, 17] rfl) hK hJ hS (va_free hD hS hA [0, 1, 2, 3, 4, 5, 6, 7, 8, 9, 10, 11, 12, 13, 14, 15, 16, 17] rfl) ((hD.sub [0, 1, 2, 3, 4, 5, 6, 7, 8, 9, 10, 11, 12, 13, 14, 15, 16, 17] (by decide) rfl).weaken (fun _ _ _ _ => trivial)) rfl hl.1 (Nat.le_of_ble_eq_true rfl) d_Mo_statementOut_88 ⟨Nat.le_of_ble_eq_true rfl, Nat.le_of_ble_eq_true rfl⟩) hP hD hS hA [0, 1, 2, 3, 4, 5, 6, 7, 8, 9, 10, 11, 12, 13, 14, 15, 16, 17] [] rfl rfl (by decide) (by decide) (fun _ => rfl) (fun r3 u3 H locs hw hP hD hS => ?_) (fun _ _ _ _ h9 => h9.elim)
    have hP : va_P D vwCl (w_Mo k ad_this u3) H := hP.sub [0, 1, 2, 3, 4, 5, 6, 7, 8, 9, 10, 11, 12, 13, 14, 15, 16, 17] rfl
    have hD : va_D A (w_Mo k ad_this u3) := hD.sub [0, 1, 2, 3, 4, 5, 6, 7, 8, 9, 10, 11, 12, 13, 14, 15, 16, 17] (by decide) rfl
    refine lv_aload_n hx hb d_Mo_statementOut_91 rfl (lv_at hl 2 rfl) ?_
    refine lv_aload_n hx hb d_Mo_statementOut_92 rfl (lv_at hl 2 rfl) ?_
    refine va_get (D := D) (ci := 8) (v := .ref (ad_this 3)) (C := R_Mo) (T := F_Mo) (N := 42) hx hb hts in_Mo hown hK hP 0 rfl rfl 15 (by decide) (hts (.fieldLink R_Mo 17 R_Mo "numbers" "[J") kw4_158) (fun _ h9 => h9) rfl d_Mo_statementOut_93 ?_
    refine lv_aload_n hx hb d_Mo_statementOut_96 rfl (lv_at hl 2 rfl) ?_
    refine lv_iload_n hx hb d_Mo_statementOut_97 rfl (lv_at hl 3 rfl) ?_
    refine xq_go (wr := ([] : va_W)) (stk := fun r => .int r :: [.ref (ad_this 3), .ref (ad_this 0)]) (xq_runV (As := [.int a1]) (rest := [.ref (ad_this 3), .ref (ad_this 0)]) ⟨hx, hb, hml, hown, hts⟩ (c_Mo_node1 (l := l) (o := o) (D := D) (k := k) (ad_this := ad_this) hw) (cw_Mo_node1 hts kw5_199 ⟨by simp only [rm_Mo_statementOut, rm_Mo_node1]; omega, by simp only [rm_Mo_statementOut, rm_Mo_node1]; omega⟩) (va_recv hK hP (ci := 8) (q0 := 0) rfl rfl) (hP.sub [0, 1, 2, 3, 4, 5, 6, 7, 8, 9, 10, 11, 12, 13, 14, 15, 16, 17] rfl) hK hJ hS (va_free hD hS hA [0, 1, 2, 3, 4, 5, 6, 7, 8, 9, 10, 11, 12, 13, 14, 15, 16, 17] rfl) ((hD.sub [0, 1, 2, 3, 4, 5, 6, 7, 8, 9, 10, 11, 12, 13, 14, 15, 16, 17] (by decide) rfl).weaken (fun _ _ _ _ => trivial)) rfl hl.1 (Nat.le_of_ble_eq_true rfl) d_Mo_statementOut_98 ⟨Nat.le_of_ble_eq_true rfl, Nat.le_of_ble_eq_true rfl⟩) hP hD hS hA [0, 1, 2, 3, 4, 5, 6, 7, 8, 9, 10, 11, 12, 13, 14, 15, 16, 17] [] rfl rfl (by decide) (by decide) (fun _ => rfl) (fun r4 u4 H locs hw hP hD hS => ?_) (fun _ _ _ _ h9 => h9.elim)
    have hP : va_P D vwCl (w_Mo k ad_this u3) H := hP.sub [0, 1, 2, 3, 4, 5, 6, 7, 8, 9, 10, 11, 12, 13, 14, 15, 16, 17] rfl
    have hD : va_D A (w_Mo k ad_this u3) := hD.sub [0, 1, 2, 3, 4, 5, 6, 7, 8, 9, 10, 11, 12, 13, 14, 15, 16, 17] (by decide) rfl
    refine va_lald hx hb hK hP 3 1 rfl rfl hw.1 d_Mo_statementOut_101 ?_
    have hw := hw.2
    refine xq_go (wr := ([] : va_W)) (stk := fun _ => []) (xq_runV (As := [.long (u3.1.2.2.1.1 (r4).toNatClampNeg)]) (rest := []) ⟨hx, hb, hml, hown, hts⟩ (c_Mo_name (l := l) (o := o) (D := D) (k := k) (ad_this := ad_this) hw) (cw_Mo_name hts kw6_28 ⟨by simp only [rm_Mo_statementOut, rm_Mo_name]; omega, by simp only [rm_Mo_statementOut, rm_Mo_name]; omega⟩) (va_recv hK hP (ci := 8) (q0 := 0) rfl rfl) (hP.sub [0, 1, 2, 3, 4, 5, 6, 7, 8, 9, 10, 11, 12, 13, 14, 15, 16, 17] rfl) hK hJ hS (va_free hD hS hA [0, 1, 2, 3, 4, 5, 6, 7, 8, 9, 10, 11, 12, 13, 14, 15, 16, 17] rfl) ((hD.sub [0, 1, 2, 3, 4, 5, 6, 7, 8, 9, 10, 11, 12, 13, 14, 15, 16, 17] (by decide) rfl).weaken (fun _ _ _ _ => trivial)) rfl hl.1 (Nat.le_of_ble_eq_true rfl) d_Mo_statementOut_102 ⟨Nat.le_of_ble_eq_true rfl, Nat.le_of_ble_eq_true rfl⟩) hP hD hS hA [0, 1, 2, 3, 4, 5, 6, 7, 8, 9, 10, 11, 12, 13, 14, 15, 16, 17] [] rfl rfl (by decide) (by decide) (fun _ => rfl) (fun r5 u5 H locs hw hP hD hS => ?_) (fun _ _ _ _ h9 => h9.elim)
    have hP : va_P D vwCl (w_Mo k ad_this u5) H := hP.sub [0, 1, 2, 3, 4, 5, 6, 7, 8, 9, 10, 11, 12, 13, 14, 15, 16, 17] rfl
    have hD : va_D A (w_Mo k ad_this u5) := hD.sub [0, 1, 2, 3, 4, 5, 6, 7, 8, 9, 10, 11, 12, 13, 14, 15, 16, 17] (by decide) rfl
    refine lv_goto (tgt := 286) hx hb d_Mo_statementOut_105 (by decide) ?_
    exact t_Mo_statementOut_J286 (hrf := @hrf) hAt hK hJ hAe hA u5 a1 (z_this.1.2.1.2.2.2 (r1).toNatClampNeg) (z_this.1.2.2.2.2.1 (r2).toNatClampNeg) H locs ls (lv_sub hl [2, 3, 1, 0] rfl) hP hD hS hw
  by_cases hc1 : (z_this.1.2.1.2.2.2 (r1).toNatClampNeg) = (11 : Int32)
  · have hw := hw.2.1 hc1
    refine W.eq (g2 := F0 m 23 ls ([.int (11 : Int32)])) (by rw [hc1]) ?_
    refine lv_tableIn (tgt := 108) hx hb d_Mo_statementOut_23 (by decide) (by decide) rfl (by decide) ?_
    refine lv_aload_n hx hb d_Mo_statementOut_108 rfl (lv_at hl 2 rfl) ?_
    refine lv_ldc2 (v := (1953063287 : Int64)) hx hb hown (hts (.constantLong R_Mo 82 (1953063287)) kw5_74) d_Mo_statementOut_109 ?_
    refine xq_go (wr := ([] : va_W)) (stk := fun _ => []) (xq_runV (As := [.long (1953063287 : Int64)]) (rest := []) ⟨hx, hb, hml, hown, hts⟩ (c_Mo_word (l := l) (o := o) (D := D) (k := k) (ad_this := ad_this) hw) (cw_Mo_word hts kw6_16 ⟨by simp only [rm_Mo_statementOut, rm_Mo_word]; omega, by simp only [rm_Mo_statementOut, rm_Mo_word]; omega⟩) (va_recv hK hP (ci := 8) (q0 := 0) rfl rfl) (hP.sub [0, 1, 2, 3, 4, 5, 6, 7, 8, 9, 10, 11, 12, 13, 14, 15, 16, 17] rfl) hK hJ hS (va_free hD hS hA [0, 1, 2, 3, 4, 5, 6, 7, 8, 9, 10, 11, 12, 13, 14, 15, 16, 17] rfl) ((hD.sub [0, 1, 2, 3, 4, 5, 6, 7, 8, 9, 10, 11, 12, 13, 14, 15, 16, 17] (by decide) rfl).weaken (fun _ _ _ _ => trivial)) rfl hl.1 (Nat.le_of_ble_eq_true rfl) d_Mo_statementOut_112 ⟨Nat.le_of_ble_eq_true rfl, Nat.le_of_ble_eq_true rfl⟩) hP hD hS hA [0, 1, 2, 3, 4, 5, 6, 7, 8, 9, 10, 11, 12, 13, 14, 15, 16, 17] [] rfl rfl (by decide) (by decide) (fun _ => rfl) (fun r30 u30 H locs hw hP hD hS => ?_) (fun _ _ _ _ h9 => h9.elim)
    have hP : va_P D vwCl (w_Mo k ad_this u30) H := hP.sub [0, 1, 2, 3, 4, 5, 6, 7, 8, 9, 10, 11, 12, 13, 14, 15, 16, 17] rfl
    have hD : va_D A (w_Mo k ad_this u30) := hD.sub [0, 1, 2, 3, 4, 5, 6, 7, 8, 9, 10, 11, 12, 13, 14, 15, 16, 17] (by decide) rfl
    refine lv_goto (tgt := 286) hx hb d_Mo_statementOut_115 (by decide) ?_
    exact t_Mo_statementOut_J286 (hrf := @hrf) hAt hK hJ hAe hA u30 a1 (z_this.1.2.1.2.2.2 (r1).toNatClampNeg) (z_this.1.2.2.2.2.1 (r2).toNatClampNeg) H locs ls (lv_sub hl [2, 3, 1, 0] rfl) hP hD hS hw
  by_cases hc2 : (z_this.1.2.1.2.2.2 (r1).toNatClampNeg) = (12 : Int32)
  · have hw := hw.2.2.1 hc2
    refine W.eq (g2 := F0 m 23 ls ([.int (12 : Int32)])) (by rw [hc2]) ?_
    refine lv_tableIn (tgt := 118) hx hb d_Mo_statementOut_23 (by decide) (by decide) rfl (by decide) ?_
    refine lv_aload_n hx hb d_Mo_statementOut_118 rfl (lv_at hl 2 rfl) ?_
    refine lv_ldc2 (v := (465625706101 : Int64)) hx hb hown (hts (.constantLong R_Mo 84 (465625706101)) kw5_75) d_Mo_statementOut_119 ?_
    refine xq_go (wr := ([] : va_W)) (stk := fun _ => []) (xq_runV (As := [.long (465625706101 : Int64)]) (rest := []) ⟨hx, hb, hml, hown, hts⟩ (c_Mo_word (l := l) (o := o) (D := D) (k := k) (ad_this := ad_this) hw) (cw_Mo_word hts kw6_16 ⟨by simp only [rm_Mo_statementOut, rm_Mo_word]; omega, by simp only [rm_Mo_statementOut, rm_Mo_word]; omega⟩) (va_recv hK hP (ci := 8) (q0 := 0) rfl rfl) (hP.sub [0, 1, 2, 3, 4, 5, 6, 7, 8, 9, 10, 11, 12, 13, 14, 15, 16, 17] rfl) hK hJ hS (va_free hD hS hA [0, 1, 2, 3, 4, 5, 6, 7, 8, 9, 10, 11, 12, 13, 14, 15, 16, 17] rfl) ((hD.sub [0, 1, 2, 3, 4, 5, 6, 7, 8, 9, 10, 11, 12, 13, 14, 15, 16, 17] (by decide) rfl).weaken (fun _ _ _ _ => trivial)) rfl hl.1 (Nat.le_of_ble_eq_true rfl) d_Mo_statementOut_122 ⟨Nat.le_of_ble_eq_true rfl, Nat.le_of_ble_eq_true rfl⟩) hP hD hS hA [0, 1, 2, 3, 4, 5, 6, 7, 8, 9, 10, 11, 12, 13, 14, 15, 16, 17] [] rfl rfl (by decide) (by decide) (fun _ => rfl) (fun r31 u31 H locs hw hP hD hS => ?_) (fun _ _ _ _ h9 => h9.elim)
    have hP : va_P D vwCl (w_Mo k ad_this u31) H := hP.sub [0, 1, 2, 3, 4, 5, 6, 7, 8, 9, 10, 11, 12, 13, 14, 15, 16, 17] rfl
    have hD : va_D A (w_Mo k ad_this u31) := hD.sub [0, 1, 2, 3, 4, 5, 6, 7, 8, 9, 10, 11, 12, 13, 14, 15, 16, 17] (by decide) rfl
    refine lv_goto (tgt := 286) hx hb d_Mo_statementOut_125 (by decide) ?_
    exact t_Mo_statementOut_J286 (hrf := @hrf) hAt hK hJ hAe hA u31 a1 (z_this.1.2.1.2.2.2 (r1).toNatClampNeg) (z_this.1.2.2.2.2.1 (r2).toNatClampNeg) H locs ls (lv_sub hl [2, 3, 1, 0] rfl) hP hD hS hw
  by_cases hc3 : (z_this.1.2.1.2.2.2 (r1).toNatClampNeg) = (13 : Int32)
  · have hw := hw.2.2.2.1 hc3
    refine W.eq (g2 := F0 m 23 ls ([.int (13 : Int32)])) (by rw [hc3]) ?_
    refine lv_tableIn (tgt := 128) hx hb d_Mo_statementOut_23 (by decide) (by decide) rfl (by decide) ?_
    refine lv_aload_n hx hb d_Mo_statementOut_128 rfl (lv_at hl 2 rfl) ?_
    refine lv_ldc2 (v := (1886216562 : Int64)) hx hb hown (hts (.constantLong R_Mo 86 (1886216562)) kw5_76) d_Mo_statementOut_129 ?_
    refine xq_go (wr := ([] : va_W)) (stk := fun _ => []) (xq_runV (As := [.long (1886216562 : Int64)]) (rest := []) ⟨hx, hb, hml, hown, hts⟩ (c_Mo_word (l := l) (o := o) (D := D) (k := k) (ad_this := ad_this) hw) (cw_Mo_word hts kw6_16 ⟨by simp only [rm_Mo_statementOut, rm_Mo_word]; omega, by simp only [rm_Mo_statementOut, rm_Mo_word]; omega⟩) (va_recv hK hP (ci := 8) (q0 := 0) rfl rfl) (hP.sub [0, 1, 2, 3, 4, 5, 6, 7, 8, 9, 10, 11, 12, 13, 14, 15, 16, 17] rfl) hK hJ hS (va_free hD hS hA [0, 1, 2, 3, 4, 5, 6, 7, 8, 9, 10, 11, 12, 13, 14, 15, 16, 17] rfl) ((hD.sub [0, 1, 2, 3, 4, 5, 6, 7, 8, 9, 10, 11, 12, 13, 14, 15, 16, 17] (by decide) rfl).weaken (fun _ _ _ _ => trivial)) rfl hl.1 (Nat.le_of_ble_eq_true rfl) d_Mo_statementOut_132 ⟨Nat.le_of_ble_eq_true rfl, Nat.le_of_ble_eq_true rfl⟩) hP hD hS hA [0, 1, 2, 3, 4, 5, 6, 7, 8, 9, 10, 11, 12, 13, 14, 15, 16, 17] [] rfl rfl (by decide) (by decide) (fun _ => rfl) (fun r32 u32 H locs hw hP hD hS => ?_) (fun _ _ _ _ h9 => h9.elim)
    have hP : va_P D vwCl (w_Mo k ad_this u32) H := hP.sub [0, 1, 2, 3, 4, 5, 6, 7, 8, 9, 10, 11, 12, 13, 14, 15, 16, 17] rfl
    have hD : va_D A (w_Mo k ad_this u32) := hD.sub [0, 1, 2, 3, 4, 5, 6, 7, 8, 9, 10, 11, 12, 13, 14, 15, 16, 17] (by decide) rfl
    refine lv_aload_n hx hb d_Mo_statementOut_135 rfl (lv_at hl 2 rfl) ?_
    refine lv_aload_n hx hb d_Mo_statementOut_136 rfl (lv_at hl 2 rfl) ?_
    refine va_get (D := D) (ci := 8) (v := .ref (ad_this 3)) (C := R_Mo) (T := F_Mo) (N := 42) hx hb hts in_Mo hown hK hP 0 rfl rfl 15 (by decide) (hts (.fieldLink R_Mo 17 R_Mo "numbers" "[J") kw4_158) (fun _ h9 => h9) rfl d_Mo_statementOut_137 ?_
    refine lv_aload_n hx hb d_Mo_statementOut_140 rfl (lv_at hl 2 rfl) ?_
    refine lv_iload_n hx hb d_Mo_statementOut_141 rfl (lv_at hl 3 rfl) ?_
    refine xq_go (wr := ([] : va_W)) (stk := fun r => .int r :: [.ref (ad_this 3), .ref (ad_this 0)]) (xq_runV (As := [.int a1]) (rest := [.ref (ad_this 3), .ref (ad_this 0)]) ⟨hx, hb, hml, hown, hts⟩ (c_Mo_node1 (l := l) (o := o) (D := D) (k := k) (ad_this := ad_this) hw) (cw_Mo_node1 hts kw5_199 ⟨by simp only [rm_Mo_statementOut, rm_Mo_node1]; omega, by simp only [rm_Mo_statementOut, rm_Mo_node1]; omega⟩) (va_recv hK hP (ci := 8) (q0 := 0) rfl rfl) (hP.sub [0, 1, 2, 3, 4, 5, 6, 7, 8, 9, 10, 11, 12, 13, 14, 15, 16, 17] rfl) hK hJ hS (va_free hD hS hA [0, 1, 2, 3, 4, 5, 6, 7, 8, 9, 10, 11, 12, 13, 14, 15, 16, 17] rfl) ((hD.sub [0, 1, 2, 3, 4, 5, 6, 7, 8, 9, 10, 11, 12, 13, 14, 15, 16, 17] (by decide) rfl).weaken (fun _ _ _ _ => trivial)) rfl hl.1 (Nat.le_of_ble_eq_true rfl) d_Mo_statementOut_142 ⟨Nat.le_of_ble_eq_true rfl, Nat.le_of_ble_eq_true rfl⟩) hP hD hS hA [0, 1, 2, 3, 4, 5, 6, 7, 8, 9, 10, 11, 12, 13, 14, 15, 16, 17] [] rfl rfl (by decide) (by decide) (fun _ => rfl) (fun r33 u33 H locs hw hP hD hS => ?_) (fun _ _ _ _ h9 => h9.elim)
    have hP : va_P D vwCl (w_Mo k ad_this u32) H := hP.sub [0, 1, 2, 3, 4, 5, 6, 7, 8, 9, 10, 11, 12, 13, 14, 15, 16, 17] rfl
    have hD : va_D A (w_Mo k ad_this u32) := hD.sub [0, 1, 2, 3, 4, 5, 6, 7, 8, 9, 10, 11, 12, 13, 14, 15, 16, 17] (by decide) rfl
    refine va_lald hx hb hK hP 3 1 rfl rfl hw.1 d_Mo_statementOut_145 ?_
    have hw := hw.2
    refine xq_go (wr := ([] : va_W)) (stk := fun _ => []) (xq_runV (As := [.long (u32.1.2.2.1.1 (r33).toNatClampNeg)]) (rest := []) ⟨hx, hb, hml, hown, hts⟩ (c_Mo_name (l := l) (o := o) (D := D) (k := k) (ad_this := ad_this) hw) (cw_Mo_name hts kw6_28 ⟨by simp only [rm_Mo_statementOut, rm_Mo_name]; omega, by simp only [rm_Mo_statementOut, rm_Mo_name]; omega⟩) (va_recv hK hP (ci := 8) (q0 := 0) rfl rfl) (hP.sub [0, 1, 2, 3, 4, 5, 6, 7, 8, 9, 10, 11, 12, 13, 14, 15, 16, 17] rfl) hK hJ hS (va_free hD hS hA [0, 1, 2, 3, 4, 5, 6, 7, 8, 9, 10, 11, 12, 13, 14, 15, 16, 17] rfl) ((hD.sub [0, 1, 2, 3, 4, 5, 6, 7, 8, 9, 10, 11, 12, 13, 14, 15, 16, 17] (by decide) rfl).weaken (fun _ _ _ _ => trivial)) rfl hl.1 (Nat.le_of_ble_eq_true rfl) d_Mo_statementOut_146 ⟨Nat.le_of_ble_eq_true rfl, Nat.le_of_ble_eq_true rfl⟩) hP hD hS hA [0, 1, 2, 3, 4, 5, 6, 7, 8, 9, 10, 11, 12, 13, 14, 15, 16, 17] [] rfl rfl (by decide) (by decide) (fun _ => rfl) (fun r34 u34 H locs hw hP hD hS => ?_) (fun _ _ _ _ h9 => h9.elim)
    have hP : va_P D vwCl (w_Mo k ad_this u34) H := hP.sub [0, 1, 2, 3, 4, 5, 6, 7, 8, 9, 10, 11, 12, 13, 14, 15, 16, 17] rfl
    have hD : va_D A (w_Mo k ad_this u34) := hD.sub [0, 1, 2, 3, 4, 5, 6, 7, 8, 9, 10, 11, 12, 13, 14, 15, 16, 17] (by decide) rfl
    refine lv_goto (tgt := 286) hx hb d_Mo_statementOut_149 (by decide) ?_
    exact t_Mo_statementOut_J286 (hrf := @hrf) hAt hK hJ hAe hA u34 a1 (z_this.1.2.1.2.2.2 (r1).toNatClampNeg) (z_this.1.2.2.2.2.1 (r2).toNatClampNeg) H locs ls (lv_sub hl [2, 3, 1, 0] rfl) hP hD hS hw
  by_cases hc4 : (z_this.1.2.1.2.2.2 (r1).toNatClampNeg) = (14 : Int32)
  · have hw := hw.2.2.2.2.1 hc4
    refine W.eq (g2 := F0 m 23 ls ([.int (14 : Int32)])) (by rw [hc4]) ?_
    refine lv_tableIn (tgt := 152) hx hb d_Mo_statementOut_23 (by decide) (by decide) rfl (by decide) ?_
    refine lv_aload_n hx hb d_Mo_statementOut_152 rfl (lv_at hl 2 rfl) ?_
    refine lv_ldc2 (v := (7496048 : Int64)) hx hb hown (hts (.constantLong R_Mo 88 (7496048)) kw5_77) d_Mo_statementOut_153 ?_
    refine xq_go (wr := ([] : va_W)) (stk := fun _ => []) (xq_runV (As := [.long (7496048 : Int64)]) (rest := []) ⟨hx, hb, hml, hown, hts⟩ (c_Mo_word (l := l) (o := o) (D := D) (k := k) (ad_this := ad_this) hw) (cw_Mo_word hts kw6_16 ⟨by simp only [rm_Mo_statementOut, rm_Mo_word]; omega, by simp only [rm_Mo_statementOut, rm_Mo_word]; omega⟩) (va_recv hK hP (ci := 8) (q0 := 0) rfl rfl) (hP.sub [0, 1, 2, 3, 4, 5, 6, 7, 8, 9, 10, 11, 12, 13, 14, 15, 16, 17] rfl) hK hJ hS (va_free hD hS hA [0, 1, 2, 3, 4, 5, 6, 7, 8, 9, 10, 11, 12, 13, 14, 15, 16, 17] rfl) ((hD.sub [0, 1, 2, 3, 4, 5, 6, 7, 8, 9, 10, 11, 12, 13, 14, 15, 16, 17] (by decide) rfl).weaken (fun _ _ _ _ => trivial)) rfl hl.1 (Nat.le_of_ble_eq_true rfl) d_Mo_statementOut_156 ⟨Nat.le_of_ble_eq_true rfl, Nat.le_of_ble_eq_true rfl⟩) hP hD hS hA [0, 1, 2, 3, 4, 5, 6, 7, 8, 9, 10, 11, 12, 13, 14, 15, 16, 17] [] rfl rfl (by decide) (by decide) (fun _ => rfl) (fun r35 u35 H locs hw hP hD hS => ?_) (fun _ _ _ _ h9 => h9.elim)
    have hP : va_P D vwCl (w_Mo k ad_this u35) H := hP.sub [0, 1, 2, 3, 4, 5, 6, 7, 8, 9, 10, 11, 12, 13, 14, 15, 16, 17] rfl
    have hD : va_D A (w_Mo k ad_this u35) := hD.sub [0, 1, 2, 3, 4, 5, 6, 7, 8, 9, 10, 11, 12, 13, 14, 15, 16, 17] (by decide) rfl
    refine lv_goto (tgt := 286) hx hb d_Mo_statementOut_159 (by decide) ?_
    exact t_Mo_statementOut_J286 (hrf := @hrf) hAt hK hJ hAe hA u35 a1 (z_this.1.2.1.2.2.2 (r1).toNatClampNeg) (z_this.1.2.2.2.2.1 (r2).toNatClampNeg) H locs ls (lv_sub hl [2, 3, 1, 0] rfl) hP hD hS hw
  by_cases hc5 : (z_this.1.2.1.2.2.2 (r1).toNatClampNeg) = (15 : Int32)
  · have hw := hw.2.2.2.2.2.1 hc5
    refine W.eq (g2 := F0 m 23 ls ([.int (15 : Int32)])) (by rw [hc5]) ?_
    refine lv_tableIn (tgt := 162) hx hb d_Mo_statementOut_23 (by decide) (by decide) rfl (by decide) ?_
    refine lv_aload_n hx hb d_Mo_statementOut_162 rfl (lv_at hl 2 rfl) ?_
    refine lv_ldc2 (v := (26217 : Int64)) hx hb hown (hts (.constantLong R_Mo 90 (26217)) kw5_78) d_Mo_statementOut_163 ?_
    refine xq_go (wr := ([] : va_W)) (stk := fun _ => []) (xq_runV (As := [.long (26217 : Int64)]) (rest := []) ⟨hx, hb, hml, hown, hts⟩ (c_Mo_word (l := l) (o := o) (D := D) (k := k) (ad_this := ad_this) hw) (cw_Mo_word hts kw6_16 ⟨by simp only [rm_Mo_statementOut, rm_Mo_word]; omega, by simp only [rm_Mo_statementOut, rm_Mo_word]; omega⟩) (va_recv hK hP (ci := 8) (q0 := 0) rfl rfl) (hP.sub [0, 1, 2, 3, 4, 5, 6, 7, 8, 9, 10, 11, 12, 13, 14, 15, 16, 17] rfl) hK hJ hS (va_free hD hS hA [0, 1, 2, 3, 4, 5, 6, 7, 8, 9, 10, 11, 12, 13, 14, 15, 16, 17] rfl) ((hD.sub [0, 1, 2, 3, 4, 5, 6, 7, 8, 9, 10, 11, 12, 13, 14, 15, 16, 17] (by decide) rfl).weaken (fun _ _ _ _ => trivial)) rfl hl.1 (Nat.le_of_ble_eq_true rfl) d_Mo_statementOut_166 ⟨Nat.le_of_ble_eq_true rfl, Nat.le_of_ble_eq_true rfl⟩) hP hD hS hA [0, 1, 2, 3, 4, 5, 6, 7, 8, 9, 10, 11, 12, 13, 14, 15, 16, 17] [] rfl rfl (by decide) (by decide) (fun _ => rfl) (fun r36 u36 H locs hw hP hD hS => ?_) (fun _ _ _ _ h9 => h9.elim)
    have hP : va_P D vwCl (w_Mo k ad_this u36) H := hP.sub [0, 1, 2, 3, 4, 5, 6, 7, 8, 9, 10, 11, 12, 13, 14, 15, 16, 17] rfl
    have hD : va_D A (w_Mo k ad_this u36) := hD.sub [0, 1, 2, 3, 4, 5, 6, 7, 8, 9, 10, 11, 12, 13, 14, 15, 16, 17] (by decide) rfl
    refine lv_goto (tgt := 286) hx hb d_Mo_statementOut_169 (by decide) ?_
    exact t_Mo_statementOut_J286 (hrf := @hrf) hAt hK hJ hAe hA u36 a1 (z_this.1.2.1.2.2.2 (r1).toNatClampNeg) (z_this.1.2.2.2.2.1 (r2).toNatClampNeg) H locs ls (lv_sub hl [2, 3, 1, 0] rfl) hP hD hS hw
  by_cases hc6 : (z_this.1.2.1.2.2.2 (r1).toNatClampNeg) = (16 : Int32)
  · have hw := hw.2.2.2.2.2.2.1 hc6
    refine W.eq (g2 := F0 m 23 ls ([.int (16 : Int32)])) (by rw [hc6]) ?_
    refine lv_tableIn (tgt := 172) hx hb d_Mo_statementOut_23 (by decide) (by decide) rfl (by decide) ?_
    refine lv_aload_n hx hb d_Mo_statementOut_172 rfl (lv_at hl 2 rfl) ?_
    refine lv_ldc2 (v := (127961662514546 : Int64)) hx hb hown (hts (.constantLong R_Mo 92 (127961662514546)) kw5_79) d_Mo_statementOut_173 ?_
    refine xq_go (wr := ([] : va_W)) (stk := fun _ => []) (xq_runV (As := [.long (127961662514546 : Int64)]) (rest := []) ⟨hx, hb, hml, hown, hts⟩ (c_Mo_word (l := l) (o := o) (D := D) (k := k) (ad_this := ad_this) hw) (cw_Mo_word hts kw6_16 ⟨by simp only [rm_Mo_statementOut, rm_Mo_word]; omega, by simp only [rm_Mo_statementOut, rm_Mo_word]; omega⟩) (va_recv hK hP (ci := 8) (q0 := 0) rfl rfl) (hP.sub [0, 1, 2, 3, 4, 5, 6, 7, 8, 9, 10, 11, 12, 13, 14, 15, 16, 17] rfl) hK hJ hS (va_free hD hS hA [0, 1, 2, 3, 4, 5, 6, 7, 8, 9, 10, 11, 12, 13, 14, 15, 16, 17] rfl) ((hD.sub [0, 1, 2, 3, 4, 5, 6, 7, 8, 9, 10, 11, 12, 13, 14, 15, 16, 17] (by decide) rfl).weaken (fun _ _ _ _ => trivial)) rfl hl.1 (Nat.le_of_ble_eq_true rfl) d_Mo_statementOut_176 ⟨Nat.le_of_ble_eq_true rfl, Nat.le_of_ble_eq_true rfl⟩) hP hD hS hA [0, 1, 2, 3, 4, 5, 6, 7, 8, 9, 10, 11, 12, 13, 14, 15, 16, 17] [] rfl rfl (by decide) (by decide) (fun _ => rfl) (fun r37 u37 H locs hw hP hD hS => ?_) (fun _ _ _ _ h9 => h9.elim)
    have hP : va_P D vwCl (w_Mo k ad_this u37) H := hP.sub [0, 1, 2, 3, 4, 5, 6, 7, 8, 9, 10, 11, 12, 13, 14, 15, 16, 17] rfl
    have hD : va_D A (w_Mo k ad_this u37) := hD.sub [0, 1, 2, 3, 4, 5, 6, 7, 8, 9, 10, 11, 12, 13, 14, 15, 16, 17] (by decide) rfl
    refine lv_goto (tgt := 286) hx hb d_Mo_statementOut_179 (by decide) ?_
    exact t_Mo_statementOut_J286 (hrf := @hrf) hAt hK hJ hAe hA u37 a1 (z_this.1.2.1.2.2.2 (r1).toNatClampNeg) (z_this.1.2.2.2.2.1 (r2).toNatClampNeg) H locs ls (lv_sub hl [2, 3, 1, 0] rfl) hP hD hS hw
  by_cases hc7 : (z_this.1.2.1.2.2.2 (r1).toNatClampNeg) = (17 : Int32)
  · have hw := hw.2.2.2.2.2.2.2.1 hc7
    refine W.eq (g2 := F0 m 23 ls ([.int (17 : Int32)])) (by rw [hc7]) ?_
    refine lv_tableIn (tgt := 182) hx hb d_Mo_statementOut_23 (by decide) (by decide) rfl (by decide) ?_
    refine lv_aload_n hx hb d_Mo_statementOut_182 rfl (lv_at hl 2 rfl) ?_
    refine lv_ldc2 (v := (499984984428 : Int64)) hx hb hown (hts (.constantLong R_Mo 94 (499984984428)) kw5_80) d_Mo_statementOut_183 ?_
    refine xq_go (wr := ([] : va_W)) (stk := fun _ => []) (xq_runV (As := [.long (499984984428 : Int64)]) (rest := []) ⟨hx, hb, hml, hown, hts⟩ (c_Mo_word (l := l) (o := o) (D := D) (k := k) (ad_this := ad_this) hw) (cw_Mo_word hts kw6_16 ⟨by simp only [rm_Mo_statementOut, rm_Mo_word]; omega, by simp only [rm_Mo_statementOut, rm_Mo_word]; omega⟩) (va_recv hK hP (ci := 8) (q0 := 0) rfl rfl) (hP.sub [0, 1, 2, 3, 4, 5, 6, 7, 8, 9, 10, 11, 12, 13, 14, 15, 16, 17] rfl) hK hJ hS (va_free hD hS hA [0, 1, 2, 3, 4, 5, 6, 7, 8, 9, 10, 11, 12, 13, 14, 15, 16, 17] rfl) ((hD.sub [0, 1, 2, 3, 4, 5, 6, 7, 8, 9, 10, 11, 12, 13, 14, 15, 16, 17] (by decide) rfl).weaken (fun _ _ _ _ => trivial)) rfl hl.1 (Nat.le_of_ble_eq_true rfl) d_Mo_statementOut_186 ⟨Nat.le_of_ble_eq_true rfl, Nat.le_of_ble_eq_true rfl⟩) hP hD hS hA [0, 1, 2, 3, 4, 5, 6, 7, 8, 9, 10, 11, 12, 13, 14, 15, 16, 17] [] rfl rfl (by decide) (by decide) (fun _ => rfl) (fun r38 u38 H locs hw hP hD hS => ?_) (fun _ _ _ _ h9 => h9.elim)
    have hP : va_P D vwCl (w_Mo k ad_this u38) H := hP.sub [0, 1, 2, 3, 4, 5, 6, 7, 8, 9, 10, 11, 12, 13, 14, 15, 16, 17] rfl
    have hD : va_D A (w_Mo k ad_this u38) := hD.sub [0, 1, 2, 3, 4, 5, 6, 7, 8, 9, 10, 11, 12, 13, 14, 15, 16, 17] (by decide) rfl
    refine lv_goto (tgt := 286) hx hb d_Mo_statementOut_189 (by decide) ?_
    exact t_Mo_statementOut_J286 (hrf := @hrf) hAt hK hJ hAe hA u38 a1 (z_this.1.2.1.2.2.2 (r1).toNatClampNeg) (z_this.1.2.2.2.2.1 (r2).toNatClampNeg) H locs ls (lv_sub hl [2, 3, 1, 0] rfl) hP hD hS hw
  by_cases hc8 : (z_this.1.2.1.2.2.2 (r1).toNatClampNeg) = (18 : Int32)
  · have hw := hw.2.2.2.2.2.2.2.2.1 hc8
    refine W.eq (g2 := F0 m 23 ls ([.int (18 : Int32)])) (by rw [hc8]) ?_
    refine lv_tableIn (tgt := 192) hx hb d_Mo_statementOut_23 (by decide) (by decide) rfl (by decide) ?_
    refine lv_aload_n hx hb d_Mo_statementOut_192 rfl (lv_at hl 2 rfl) ?_
    refine lv_ldc2 (v := (7041889 : Int64)) hx hb hown (hts (.constantLong R_Mo 96 (7041889)) kw5_81) d_Mo_statementOut_193 ?_
    refine xq_go (wr := ([] : va_W)) (stk := fun _ => []) (xq_runV (As := [.long (7041889 : Int64)]) (rest := []) ⟨hx, hb, hml, hown, hts⟩ (c_Mo_word (l := l) (o := o) (D := D) (k := k) (ad_this := ad_this) hw) (cw_Mo_word hts kw6_16 ⟨by simp only [rm_Mo_statementOut, rm_Mo_word]; omega, by simp only [rm_Mo_statementOut, rm_Mo_word]; omega⟩) (va_recv hK hP (ci := 8) (q0 := 0) rfl rfl) (hP.sub [0, 1, 2, 3, 4, 5, 6, 7, 8, 9, 10, 11, 12, 13, 14, 15, 16, 17] rfl) hK hJ hS (va_free hD hS hA [0, 1, 2, 3, 4, 5, 6, 7, 8, 9, 10, 11, 12, 13, 14, 15, 16, 17] rfl) ((hD.sub [0, 1, 2, 3, 4, 5, 6, 7, 8, 9, 10, 11, 12, 13, 14, 15, 16, 17] (by decide) rfl).weaken (fun _ _ _ _ => trivial)) rfl hl.1 (Nat.le_of_ble_eq_true rfl) d_Mo_statementOut_196 ⟨Nat.le_of_ble_eq_true rfl, Nat.le_of_ble_eq_true rfl⟩) hP hD hS hA [0, 1, 2, 3, 4, 5, 6, 7, 8, 9, 10, 11, 12, 13, 14, 15, 16, 17] [] rfl rfl (by decide) (by decide) (fun _ => rfl) (fun r39 u39 H locs hw hP hD hS => ?_) (fun _ _ _ _ h9 => h9.elim)
    have hP : va_P D vwCl (w_Mo k ad_this u39) H := hP.sub [0, 1, 2, 3, 4, 5, 6, 7, 8, 9, 10, 11, 12, 13, 14, 15, 16, 17] rfl
    have hD : va_D A (w_Mo k ad_this u39) := hD.sub [0, 1, 2, 3, 4, 5, 6, 7, 8, 9, 10, 11, 12, 13, 14, 15, 16, 17] (by decide) rfl
    refine lv_aload_n hx hb d_Mo_statementOut_199 rfl (lv_at hl 2 rfl) ?_
    refine lv_aload_n hx hb d_Mo_statementOut_200 rfl (lv_at hl 2 rfl) ?_
    refine va_get (D := D) (ci := 8) (v := .ref (ad_this 3)) (C := R_Mo) (T := F_Mo) (N := 42) hx hb hts in_Mo hown hK hP 0 rfl rfl 15 (by decide) (hts (.fieldLink R_Mo 17 R_Mo "numbers" "[J") kw4_158) (fun _ h9 => h9) rfl d_Mo_statementOut_201 ?_
    refine lv_aload_n hx hb d_Mo_statementOut_204 rfl (lv_at hl 2 rfl) ?_
    refine lv_iload_n hx hb d_Mo_statementOut_205 rfl (lv_at hl 3 rfl) ?_
    refine xq_go (wr := ([] : va_W)) (stk := fun r => .int r :: [.ref (ad_this 3), .ref (ad_this 0)]) (xq_runV (As := [.int a1]) (rest := [.ref (ad_this 3), .ref (ad_this 0)]) ⟨hx, hb, hml, hown, hts⟩ (c_Mo_node1 (l := l) (o := o) (D := D) (k := k) (ad_this := ad_this) hw) (cw_Mo_node1 hts kw5_199 ⟨by simp only [rm_Mo_statementOut, rm_Mo_node1]; omega, by simp only [rm_Mo_statementOut, rm_Mo_node1]; omega⟩) (va_recv hK hP (ci := 8) (q0 := 0) rfl rfl) (hP.sub [0, 1, 2, 3, 4, 5, 6, 7, 8, 9, 10, 11, 12, 13, 14, 15, 16, 17] rfl) hK hJ hS (va_free hD hS hA [0, 1, 2, 3, 4, 5, 6, 7, 8, 9, 10, 11, 12, 13, 14, 15, 16, 17] rfl) ((hD.sub [0, 1, 2, 3, 4, 5, 6, 7, 8, 9, 10, 11, 12, 13, 14, 15, 16, 17] (by decide) rfl).weaken (fun _ _ _ _ => trivial)) rfl hl.1 (Nat.le_of_ble_eq_true rfl) d_Mo_statementOut_206 ⟨Nat.le_of_ble_eq_true rfl, Nat.le_of_ble_eq_true rfl⟩) hP hD hS hA [0, 1, 2, 3, 4, 5, 6, 7, 8, 9, 10, 11, 12, 13, 14, 15, 16, 17] [] rfl rfl (by decide) (by decide) (fun _ => rfl) (fun r40 u40 H locs hw hP hD hS => ?_) (fun _ _ _ _ h9 => h9.elim)
    have hP : va_P D vwCl (w_Mo k ad_this u39) H := hP.sub [0, 1, 2, 3, 4, 5, 6, 7, 8, 9, 10, 11, 12, 13, 14, 15, 16, 17] rfl
    have hD : va_D A (w_Mo k ad_this u39) := hD.sub [0, 1, 2, 3, 4, 5, 6, 7, 8, 9, 10, 11, 12, 13, 14, 15, 16, 17] (by decide) rfl
    refine va_lald hx hb hK hP 3 1 rfl rfl hw.1 d_Mo_statementOut_209 ?_
    have hw := hw.2
    refine xq_go (wr := ([] : va_W)) (stk := fun _ => []) (xq_runV (As := [.long (u39.1.2.2.1.1 (r40).toNatClampNeg)]) (rest := []) ⟨hx, hb, hml, hown, hts⟩ (c_Mo_name (l := l) (o := o) (D := D) (k := k) (ad_this := ad_this) hw) (cw_Mo_name hts kw6_28 ⟨by simp only [rm_Mo_statementOut, rm_Mo_name]; omega, by simp only [rm_Mo_statementOut, rm_Mo_name]; omega⟩) (va_recv hK hP (ci := 8) (q0 := 0) rfl rfl) (hP.sub [0, 1, 2, 3, 4, 5, 6, 7, 8, 9, 10, 11, 12, 13, 14, 15, 16, 17] rfl) hK hJ hS (va_free hD hS hA [0, 1, 2, 3, 4, 5, 6, 7, 8, 9, 10, 11, 12, 13, 14, 15, 16, 17] rfl) ((hD.sub [0, 1, 2, 3, 4, 5, 6, 7, 8, 9, 10, 11, 12, 13, 14, 15, 16, 17] (by decide) rfl).weaken (fun _ _ _ _ => trivial)) rfl hl.1 (Nat.le_of_ble_eq_true rfl) d_Mo_statementOut_210 ⟨Nat.le_of_ble_eq_true rfl, Nat.le_of_ble_eq_true rfl⟩) hP hD hS hA [0, 1, 2, 3, 4, 5, 6, 7, 8, 9, 10, 11, 12, 13, 14, 15, 16, 17] [] rfl rfl (by decide) (by decide) (fun _ => rfl) (fun r41 u41 H locs hw hP hD hS => ?_) (fun _ _ _ _ h9 => h9.elim)
    have hP : va_P D vwCl (w_Mo k ad_this u41) H := hP.sub [0, 1, 2, 3, 4, 5, 6, 7, 8, 9, 10, 11, 12, 13, 14, 15, 16, 17] rfl
    have hD : va_D A (w_Mo k ad_this u41) := hD.sub [0, 1, 2, 3, 4, 5, 6, 7, 8, 9, 10, 11, 12, 13, 14, 15, 16, 17] (by decide) rfl
    refine lv_goto (tgt := 286) hx hb d_Mo_statementOut_213 (by decide) ?_
    exact t_Mo_statementOut_J286 (hrf := @hrf) hAt hK hJ hAe hA u41 a1 (z_this.1.2.1.2.2.2 (r1).toNatClampNeg) (z_this.1.2.2.2.2.1 (r2).toNatClampNeg) H locs ls (lv_sub hl [2, 3, 1, 0] rfl) hP hD hS hw
  by_cases hc9 : (z_this.1.2.1.2.2.2 (r1).toNatClampNeg) = (19 : Int32)
  · have hw := hw.2.2.2.2.2.2.2.2.2.1 hc9
    refine W.eq (g2 := F0 m 23 ls ([.int (19 : Int32)])) (by rw [hc9]) ?_
    refine lv_tableIn (tgt := 216) hx hb d_Mo_statementOut_23 (by decide) (by decide) rfl (by decide) ?_
    refine lv_aload_n hx hb d_Mo_statementOut_216 rfl (lv_at hl 2 rfl) ?_
    refine lv_ldc2 (v := (28516 : Int64)) hx hb hown (hts (.constantLong R_Mo 98 (28516)) kw5_82) d_Mo_statementOut_217 ?_
    refine xq_go (wr := ([] : va_W)) (stk := fun _ => []) (xq_runV (As := [.long (28516 : Int64)]) (rest := []) ⟨hx, hb, hml, hown, hts⟩ (c_Mo_word (l := l) (o := o) (D := D) (k := k) (ad_this := ad_this) hw) (cw_Mo_word hts kw6_16 ⟨by simp only [rm_Mo_statementOut, rm_Mo_word]; omega, by simp only [rm_Mo_statementOut, rm_Mo_word]; omega⟩) (va_recv hK hP (ci := 8) (q0 := 0) rfl rfl) (hP.sub [0, 1, 2, 3, 4, 5, 6, 7, 8, 9, 10, 11, 12, 13, 14, 15, 16, 17] rfl) hK hJ hS (va_free hD hS hA [0, 1, 2, 3, 4, 5, 6, 7, 8, 9, 10, 11, 12, 13, 14, 15, 16, 17] rfl) ((hD.sub [0, 1, 2, 3, 4, 5, 6, 7, 8, 9, 10, 11, 12, 13, 14, 15, 16, 17] (by decide) rfl).weaken (fun _ _ _ _ => trivial)) rfl hl.1 (Nat.le_of_ble_eq_true rfl) d_Mo_statementOut_220 ⟨Nat.le_of_ble_eq_true rfl, Nat.le_of_ble_eq_true rfl⟩) hP hD hS hA [0, 1, 2, 3, 4, 5, 6, 7, 8, 9, 10, 11, 12, 13, 14, 15, 16, 17] [] rfl rfl (by decide) (by decide) (fun _ => rfl) (fun r42 u42 H locs hw hP hD hS => ?_) (fun _ _ _ _ h9 => h9.elim)
    have hP : va_P D vwCl (w_Mo k ad_this u42) H := hP.sub [0, 1, 2, 3, 4, 5, 6, 7, 8, 9, 10, 11, 12, 13, 14, 15, 16, 17] rfl
    have hD : va_D A (w_Mo k ad_this u42) := hD.sub [0, 1, 2, 3, 4, 5, 6, 7, 8, 9, 10, 11, 12, 13, 14, 15, 16, 17] (by decide) rfl
    refine lv_aload_n hx hb d_Mo_statementOut_223 rfl (lv_at hl 2 rfl) ?_
    refine lv_aload_n hx hb d_Mo_statementOut_224 rfl (lv_at hl 2 rfl) ?_
    refine va_get (D := D) (ci := 8) (v := .ref (ad_this 3)) (C := R_Mo) (T := F_Mo) (N := 42) hx hb hts in_Mo hown hK hP 0 rfl rfl 15 (by decide) (hts (.fieldLink R_Mo 17 R_Mo "numbers" "[J") kw4_158) (fun _ h9 => h9) rfl d_Mo_statementOut_225 ?_
    refine lv_aload_n hx hb d_Mo_statementOut_228 rfl (lv_at hl 2 rfl) ?_
    refine lv_iload_n hx hb d_Mo_statementOut_229 rfl (lv_at hl 3 rfl) ?_
    refine xq_go (wr := ([] : va_W)) (stk := fun r => .int r :: [.ref (ad_this 3), .ref (ad_this 0)]) (xq_runV (As := [.int a1]) (rest := [.ref (ad_this 3), .ref (ad_this 0)]) ⟨hx, hb, hml, hown, hts⟩ (c_Mo_node1 (l := l) (o := o) (D := D) (k := k) (ad_this := ad_this) hw) (cw_Mo_node1 hts kw5_199 ⟨by simp only [rm_Mo_statementOut, rm_Mo_node1]; omega, by simp only [rm_Mo_statementOut, rm_Mo_node1]; omega⟩) (va_recv hK hP (ci := 8) (q0 := 0) rfl rfl) (hP.sub [0, 1, 2, 3, 4, 5, 6, 7, 8, 9, 10, 11, 12, 13, 14, 15, 16, 17] rfl) hK hJ hS (va_free hD hS hA [0, 1, 2, 3, 4, 5, 6, 7, 8, 9, 10, 11, 12, 13, 14, 15, 16, 17] rfl) ((hD.sub [0, 1, 2, 3, 4, 5, 6, 7, 8, 9, 10, 11, 12, 13, 14, 15, 16, 17] (by decide) rfl).weaken (fun _ _ _ _ => trivial)) rfl hl.1 (Nat.le_of_ble_eq_true rfl) d_Mo_statementOut_230 ⟨Nat.le_of_ble_eq_true rfl, Nat.le_of_ble_eq_true rfl⟩) hP hD hS hA [0, 1, 2, 3, 4, 5, 6, 7, 8, 9, 10, 11, 12, 13, 14, 15, 16, 17] [] rfl rfl (by decide) (by decide) (fun _ => rfl) (fun r43 u43 H locs hw hP hD hS => ?_) (fun _ _ _ _ h9 => h9.elim)
    have hP : va_P D vwCl (w_Mo k ad_this u42) H := hP.sub [0, 1, 2, 3, 4, 5, 6, 7, 8, 9, 10, 11, 12, 13, 14, 15, 16, 17] rfl
    have hD : va_D A (w_Mo k ad_this u42) := hD.sub [0, 1, 2, 3, 4, 5, 6, 7, 8, 9, 10, 11, 12, 13, 14, 15, 16, 17] (by decide) rfl
    refine va_lald hx hb hK hP 3 1 rfl rfl hw.1 d_Mo_statementOut_233 ?_
    have hw := hw.2
    refine xq_go (wr := ([] : va_W)) (stk := fun _ => []) (xq_runV (As := [.long (u42.1.2.2.1.1 (r43).toNatClampNeg)]) (rest := []) ⟨hx, hb, hml, hown, hts⟩ (c_Mo_name (l := l) (o := o) (D := D) (k := k) (ad_this := ad_this) hw) (cw_Mo_name hts kw6_28 ⟨by simp only [rm_Mo_statementOut, rm_Mo_name]; omega, by simp only [rm_Mo_statementOut, rm_Mo_name]; omega⟩) (va_recv hK hP (ci := 8) (q0 := 0) rfl rfl) (hP.sub [0, 1, 2, 3, 4, 5, 6, 7, 8, 9, 10, 11, 12, 13, 14, 15, 16, 17] rfl) hK hJ hS (va_free hD hS hA [0, 1, 2, 3, 4, 5, 6, 7, 8, 9, 10, 11, 12, 13, 14, 15, 16, 17] rfl) ((hD.sub [0, 1, 2, 3, 4, 5, 6, 7, 8, 9, 10, 11, 12, 13, 14, 15, 16, 17] (by decide) rfl).weaken (fun _ _ _ _ => trivial)) rfl hl.1 (Nat.le_of_ble_eq_true rfl) d_Mo_statementOut_234 ⟨Nat.le_of_ble_eq_true rfl, Nat.le_of_ble_eq_true rfl⟩) hP hD hS hA [0, 1, 2, 3, 4, 5, 6, 7, 8, 9, 10, 11, 12, 13, 14, 15, 16, 17] [] rfl rfl (by decide) (by decide) (fun _ => rfl) (fun r44 u44 H locs hw hP hD hS => ?_) (fun _ _ _ _ h9 => h9.elim)
    have hP : va_P D vwCl (w_Mo k ad_this u44) H := hP.sub [0, 1, 2, 3, 4, 5, 6, 7, 8, 9, 10, 11, 12, 13, 14, 15, 16, 17] rfl
    have hD : va_D A (w_Mo k ad_this u44) := hD.sub [0, 1, 2, 3, 4, 5, 6, 7, 8, 9, 10, 11, 12, 13, 14, 15, 16, 17] (by decide) rfl
    refine lv_goto (tgt := 286) hx hb d_Mo_statementOut_237 (by decide) ?_
    exact t_Mo_statementOut_J286 (hrf := @hrf) hAt hK hJ hAe hA u44 a1 (z_this.1.2.1.2.2.2 (r1).toNatClampNeg) (z_this.1.2.2.2.2.1 (r2).toNatClampNeg) H locs ls (lv_sub hl [2, 3, 1, 0] rfl) hP hD hS hw
  by_cases hc10 : (z_this.1.2.1.2.2.2 (r1).toNatClampNeg) = (20 : Int32)
  · have hw := hw.2.2.2.2.2.2.2.2.2.2.1 hc10
    refine W.eq (g2 := F0 m 23 ls ([.int (20 : Int32)])) (by rw [hc10]) ?_
    refine lv_tableIn (tgt := 240) hx hb d_Mo_statementOut_23 (by decide) (by decide) rfl (by decide) ?_
    refine lv_aload_n hx hb d_Mo_statementOut_240 rfl (lv_at hl 2 rfl) ?_
    refine lv_ldc2 (v := (1886352499 : Int64)) hx hb hown (hts (.constantLong R_Mo 100 (1886352499)) kw5_83) d_Mo_statementOut_241 ?_
    refine xq_go (wr := ([] : va_W)) (stk := fun _ => []) (xq_runV (As := [.long (1886352499 : Int64)]) (rest := []) ⟨hx, hb, hml, hown, hts⟩ (c_Mo_word (l := l) (o := o) (D := D) (k := k) (ad_this := ad_this) hw) (cw_Mo_word hts kw6_16 ⟨by simp only [rm_Mo_statementOut, rm_Mo_word]; omega, by simp only [rm_Mo_statementOut, rm_Mo_word]; omega⟩) (va_recv hK hP (ci := 8) (q0 := 0) rfl rfl) (hP.sub [0, 1, 2, 3, 4, 5, 6, 7, 8, 9, 10, 11, 12, 13, 14, 15, 16, 17] rfl) hK hJ hS (va_free hD hS hA [0, 1, 2, 3, 4, 5, 6, 7, 8, 9, 10, 11, 12, 13, 14, 15, 16, 17] rfl) ((hD.sub [0, 1, 2, 3, 4, 5, 6, 7, 8, 9, 10, 11, 12, 13, 14, 15, 16, 17] (by decide) rfl).weaken (fun _ _ _ _ => trivial)) rfl hl.1 (Nat.le_of_ble_eq_true rfl) d_Mo_statementOut_244 ⟨Nat.le_of_ble_eq_true rfl, Nat.le_of_ble_eq_true rfl⟩) hP hD hS hA [0, 1, 2, 3, 4, 5, 6, 7, 8, 9, 10, 11, 12, 13, 14, 15, 16, 17] [] rfl rfl (by decide) (by decide) (fun _ => rfl) (fun r45 u45 H locs hw hP hD hS => ?_) (fun _ _ _ _ h9 => h9.elim)
    have hP : va_P D vwCl (w_Mo k ad_this u45) H := hP.sub [0, 1, 2, 3, 4, 5, 6, 7, 8, 9, 10, 11, 12, 13, 14, 15, 16, 17] rfl
    have hD : va_D A (w_Mo k ad_this u45) := hD.sub [0, 1, 2, 3, 4, 5, 6, 7, 8, 9, 10, 11, 12, 13, 14, 15, 16, 17] (by decide) rfl
    refine lv_goto (tgt := 286) hx hb d_Mo_statementOut_247 (by decide) ?_
    exact t_Mo_statementOut_J286 (hrf := @hrf) hAt hK hJ hAe hA u45 a1 (z_this.1.2.1.2.2.2 (r1).toNatClampNeg) (z_this.1.2.2.2.2.1 (r2).toNatClampNeg) H locs ls (lv_sub hl [2, 3, 1, 0] rfl) hP hD hS hw
  by_cases hc11 : (z_this.1.2.1.2.2.2 (r1).toNatClampNeg) = (21 : Int32)
  · have hw := hw.2.2.2.2.2.2.2.2.2.2.2.1 hc11
    refine W.eq (g2 := F0 m 23 ls ([.int (21 : Int32)])) (by rw [hc11]) ?_
    refine lv_tableIn (tgt := 250) hx hb d_Mo_statementOut_23 (by decide) (by decide) rfl (by decide) ?_
    refine lv_aload_n hx hb d_Mo_statementOut_250 rfl (lv_at hl 2 rfl) ?_
    refine lv_ldc2 (v := (1684828008 : Int64)) hx hb hown (hts (.constantLong R_Mo 102 (1684828008)) kw5_84) d_Mo_statementOut_251 ?_
    refine xq_go (wr := ([] : va_W)) (stk := fun _ => []) (xq_runV (As := [.long (1684828008 : Int64)]) (rest := []) ⟨hx, hb, hml, hown, hts⟩ (c_Mo_word (l := l) (o := o) (D := D) (k := k) (ad_this := ad_this) hw) (cw_Mo_word hts kw6_16 ⟨by simp only [rm_Mo_statementOut, rm_Mo_word]; omega, by simp only [rm_Mo_statementOut, rm_Mo_word]; omega⟩) (va_recv hK hP (ci := 8) (q0 := 0) rfl rfl) (hP.sub [0, 1, 2, 3, 4, 5, 6, 7, 8, 9, 10, 11, 12, 13, 14, 15, 16, 17] rfl) hK hJ hS (va_free hD hS hA [0, 1, 2, 3, 4, 5, 6, 7, 8, 9, 10, 11, 12, 13, 14, 15, 16, 17] rfl) ((hD.sub [0, 1, 2, 3, 4, 5, 6, 7, 8, 9, 10, 11, 12, 13, 14, 15, 16, 17] (by decide) rfl).weaken (fun _ _ _ _ => trivial)) rfl hl.1 (Nat.le_of_ble_eq_true rfl) d_Mo_statementOut_254 ⟨Nat.le_of_ble_eq_true rfl, Nat.le_of_ble_eq_true rfl⟩) hP hD hS hA [0, 1, 2, 3, 4, 5, 6, 7, 8, 9, 10, 11, 12, 13, 14, 15, 16, 17] [] rfl rfl (by decide) (by decide) (fun _ => rfl) (fun r46 u46 H locs hw hP hD hS => ?_) (fun _ _ _ _ h9 => h9.elim)
    have hP : va_P D vwCl (w_Mo k ad_this u46) H := hP.sub [0, 1, 2, 3, 4, 5, 6, 7, 8, 9, 10, 11, 12, 13, 14, 15, 16, 17] rfl
    have hD : va_D A (w_Mo k ad_this u46) := hD.sub [0, 1, 2, 3, 4, 5, 6, 7, 8, 9, 10, 11, 12, 13, 14, 15, 16, 17] (by decide) rfl
    refine lv_goto (tgt := 286) hx hb d_Mo_statementOut_257 (by decide) ?_
    exact t_Mo_statementOut_J286 (hrf := @hrf) hAt hK hJ hAe hA u46 a1 (z_this.1.2.1.2.2.2 (r1).toNatClampNeg) (z_this.1.2.2.2.2.1 (r2).toNatClampNeg) H locs ls (lv_sub hl [2, 3, 1, 0] rfl) hP hD hS hw
  have hw := hw.2.2.2.2.2.2.2.2.2.2.2.2 ⟨hc0, hc1, hc2, hc3, hc4, hc5, hc6, hc7, hc8, hc9, hc10, hc11⟩
  refine lv_tableOut (tgt := 260) hx hb d_Mo_statementOut_23 (by have e10 : ((z_this.1.2.1.2.2.2 (r1).toNatClampNeg)).toInt ≠ 10 := xq_ne hc0 (by decide); have e11 : ((z_this.1.2.1.2.2.2 (r1).toNatClampNeg)).toInt ≠ 11 := xq_ne hc1 (by decide); have e12 : ((z_this.1.2.1.2.2.2 (r1).toNatClampNeg)).toInt ≠ 12 := xq_ne hc2 (by decide); have e13 : ((z_this.1.2.1.2.2.2 (r1).toNatClampNeg)).toInt ≠ 13 := xq_ne hc3 (by decide); have e14 : ((z_this.1.2.1.2.2.2 (r1).toNatClampNeg)).toInt ≠ 14 := xq_ne hc4 (by decide); have e15 : ((z_this.1.2.1.2.2.2 (r1).toNatClampNeg)).toInt ≠ 15 := xq_ne hc5 (by decide); have e16 : ((z_this.1.2.1.2.2.2 (r1).toNatClampNeg)).toInt ≠ 16 := xq_ne hc6 (by decide); have e17 : ((z_this.1.2.1.2.2.2 (r1).toNatClampNeg)).toInt ≠ 17 := xq_ne hc7 (by decide); have e18 : ((z_this.1.2.1.2.2.2 (r1).toNatClampNeg)).toInt ≠ 18 := xq_ne hc8 (by decide); have e19 : ((z_this.1.2.1.2.2.2 (r1).toNatClampNeg)).toInt ≠ 19 := xq_ne hc9 (by decide); have e20 : ((z_this.1.2.1.2.2.2 (r1).toNatClampNeg)).toInt ≠ 20 := xq_ne hc10 (by decide); have e21 : ((z_this.1.2.1.2.2.2 (r1).toNatClampNeg)).toInt ≠ 21 := xq_ne hc11 (by decide); omega) (by decide) ?_
  refine lv_aload_n hx hb d_Mo_statementOut_260 rfl (lv_at hl 2 rfl) ?_
  refine lv_ldc2 (v := (7627617 : Int64)) hx hb hown (hts (.constantLong R_Mo 104 (7627617)) kw5_85) d_Mo_statementOut_261 ?_
  refine xq_go (wr := ([] : va_W)) (stk := fun _ => []) (xq_runV (As := [.long (7627617 : Int64)]) (rest := []) ⟨hx, hb, hml, hown, hts⟩ (c_Mo_word (l := l) (o := o) (D := D) (k := k) (ad_this := ad_this) hw) (cw_Mo_word hts kw6_16 ⟨by simp only [rm_Mo_statementOut, rm_Mo_word]; omega, by simp only [rm_Mo_statementOut, rm_Mo_word]; omega⟩) (va_recv hK hP (ci := 8) (q0 := 0) rfl rfl) (hP.sub [0, 1, 2, 3, 4, 5, 6, 7, 8, 9, 10, 11, 12, 13, 14, 15, 16, 17] rfl) hK hJ hS (va_free hD hS hA [0, 1, 2, 3, 4, 5, 6, 7, 8, 9, 10, 11, 12, 13, 14, 15, 16, 17] rfl) ((hD.sub [0, 1, 2, 3, 4, 5, 6, 7, 8, 9, 10, 11, 12, 13, 14, 15, 16, 17] (by decide) rfl).weaken (fun _ _ _ _ => trivial)) rfl hl.1 (Nat.le_of_ble_eq_true rfl) d_Mo_statementOut_264 ⟨Nat.le_of_ble_eq_true rfl, Nat.le_of_ble_eq_true rfl⟩) hP hD hS hA [0, 1, 2, 3, 4, 5, 6, 7, 8, 9, 10, 11, 12, 13, 14, 15, 16, 17] [] rfl rfl (by decide) (by decide) (fun _ => rfl) (fun r47 u47 H locs hw hP hD hS => ?_) (fun _ _ _ _ h9 => h9.elim)
  have hP : va_P D vwCl (w_Mo k ad_this u47) H := hP.sub [0, 1, 2, 3, 4, 5, 6, 7, 8, 9, 10, 11, 12, 13, 14, 15, 16, 17] rfl
  have hD : va_D A (w_Mo k ad_this u47) := hD.sub [0, 1, 2, 3, 4, 5, 6, 7, 8, 9, 10, 11, 12, 13, 14, 15, 16, 17] (by decide) rfl
  refine lv_aload_n hx hb d_Mo_statementOut_267 rfl (lv_at hl 2 rfl) ?_
  refine lv_aload_n hx hb d_Mo_statementOut_268 rfl (lv_at hl 2 rfl) ?_
  refine va_get (D := D) (ci := 8) (v := .ref (ad_this 3)) (C := R_Mo) (T := F_Mo) (N := 42) hx hb hts in_Mo hown hK hP 0 rfl rfl 15 (by decide) (hts (.fieldLink R_Mo 17 R_Mo "numbers" "[J") kw4_158) (fun _ h9 => h9) rfl d_Mo_statementOut_269 ?_
  refine lv_aload_n hx hb d_Mo_statementOut_272 rfl (lv_at hl 2 rfl) ?_
  refine lv_iload_n hx hb d_Mo_statementOut_273 rfl (lv_at hl 3 rfl) ?_
  refine xq_go (wr := ([] : va_W)) (stk := fun r => .int r :: [.ref (ad_this 3), .ref (ad_this 0)]) (xq_runV (As := [.int a1]) (rest := [.ref (ad_this 3), .ref (ad_this 0)]) ⟨hx, hb, hml, hown, hts⟩ (c_Mo_node1 (l := l) (o := o) (D := D) (k := k) (ad_this := ad_this) hw) (cw_Mo_node1 hts kw5_199 ⟨by simp only [rm_Mo_statementOut, rm_Mo_node1]; omega, by simp only [rm_Mo_statementOut, rm_Mo_node1]; omega⟩) (va_recv hK hP (ci := 8) (q0 := 0) rfl rfl) (hP.sub [0, 1, 2, 3, 4, 5, 6, 7, 8, 9, 10, 11, 12, 13, 14, 15, 16, 17] rfl) hK hJ hS (va_free hD hS hA [0, 1, 2, 3, 4, 5, 6, 7, 8, 9, 10, 11, 12, 13, 14, 15, 16, 17] rfl) ((hD.sub [0, 1, 2, 3, 4, 5, 6, 7, 8, 9, 10, 11, 12, 13, 14, 15, 16, 17] (by decide) rfl).weaken (fun _ _ _ _ => trivial)) rfl hl.1 (Nat.le_of_ble_eq_true rfl) d_Mo_statementOut_274 ⟨Nat.le_of_ble_eq_true rfl, Nat.le_of_ble_eq_true rfl⟩) hP hD hS hA [0, 1, 2, 3, 4, 5, 6, 7, 8, 9, 10, 11, 12, 13, 14, 15, 16, 17] [] rfl rfl (by decide) (by decide) (fun _ => rfl) (fun r48 u48 H locs hw hP hD hS => ?_) (fun _ _ _ _ h9 => h9.elim)
  have hP : va_P D vwCl (w_Mo k ad_this u47) H := hP.sub [0, 1, 2, 3, 4, 5, 6, 7, 8, 9, 10, 11, 12, 13, 14, 15, 16, 17] rfl
  have hD : va_D A (w_Mo k ad_this u47) := hD.sub [0, 1, 2, 3, 4, 5, 6, 7, 8, 9, 10, 11, 12, 13, 14, 15, 16, 17] (by decide) rfl
  refine va_lald hx hb hK hP 3 1 rfl rfl hw.1 d_Mo_statementOut_277 ?_
  have hw := hw.2
  refine xq_go (wr := ([] : va_W)) (stk := fun _ => []) (xq_runV (As := [.long (u47.1.2.2.1.1 (r48).toNatClampNeg)]) (rest := []) ⟨hx, hb, hml, hown, hts⟩ (c_Mo_digitsOf (l := l) (o := o) (D := D) (k := k) (ad_this := ad_this) hw) (cw_Mo_digitsOf hts kw6_44 ⟨by simp only [rm_Mo_statementOut, rm_Mo_digitsOf]; omega, by simp only [rm_Mo_statementOut, rm_Mo_digitsOf]; omega⟩) (va_recv hK hP (ci := 8) (q0 := 0) rfl rfl) (hP.sub [0, 1, 2, 3, 4, 5, 6, 7, 8, 9, 10, 11, 12, 13, 14, 15, 16, 17] rfl) hK hJ hS (va_free hD hS hA [0, 1, 2, 3, 4, 5, 6, 7, 8, 9, 10, 11, 12, 13, 14, 15, 16, 17] rfl) ((hD.sub [0, 1, 2, 3, 4, 5, 6, 7, 8, 9, 10, 11, 12, 13, 14, 15, 16, 17] (by decide) rfl).weaken (fun _ _ _ _ => trivial)) rfl hl.1 (Nat.le_of_ble_eq_true rfl) d_Mo_statementOut_278 ⟨Nat.le_of_ble_eq_true rfl, Nat.le_of_ble_eq_true rfl⟩) hP hD hS hA [0, 1, 2, 3, 4, 5, 6, 7, 8, 9, 10, 11, 12, 13, 14, 15, 16, 17] [] rfl rfl (by decide) (by decide) (fun _ => rfl) (fun r49 u49 H locs hw hP hD hS => ?_) (fun _ _ _ _ h9 => h9.elim)
  have hP : va_P D vwCl (w_Mo k ad_this u49) H := hP.sub [0, 1, 2, 3, 4, 5, 6, 7, 8, 9, 10, 11, 12, 13, 14, 15, 16, 17] rfl
  have hD : va_D A (w_Mo k ad_this u49) := hD.sub [0, 1, 2, 3, 4, 5, 6, 7, 8, 9, 10, 11, 12, 13, 14, 15, 16, 17] (by decide) rfl
  refine lv_aload_n hx hb d_Mo_statementOut_281 rfl (lv_at hl 2 rfl) ?_
  refine lv_iconst (v := (1 : Int32)) hx hb d_Mo_statementOut_282 (by decide) ?_
  refine va_put (D := D) (ci := 8) (v := .int (1 : Int32)) (ty := .boolean) (C := R_Mo) (T := F_Mo) (N := 42) hx hb hts in_Mo t_Mo t_Mo_ok n_Mo hown hK hP hD hS 0 rfl rfl 40 (by decide) (hts (.fieldLink R_Mo 332 R_Mo "blank" "Z") kw4_183) (fun _ h9 => h9) rfl (by decide +kernel) rfl rfl (Nat.le_of_ble_eq_true rfl) d_Mo_statementOut_283 (fun H locs hP hD hS => ?_)
  have hP : va_P D vwCl (w_Mo k ad_this (((((u49.1.1.1.1.1, u49.1.1.1.1.2), (u49.1.1.1.2.1, (u49.1.1.1.2.2.1, u49.1.1.1.2.2.2))), ((u49.1.1.2.1.1, u49.1.1.2.1.2), (u49.1.1.2.2.1, (u49.1.1.2.2.2.1, u49.1.1.2.2.2.2)))), (((u49.1.2.1.1.1, u49.1.2.1.1.2), (u49.1.2.1.2.1, (u49.1.2.1.2.2.1, u49.1.2.1.2.2.2))), ((u49.1.2.2.1.1, (u49.1.2.2.1.2.1, u49.1.2.2.1.2.2)), (u49.1.2.2.2.1, (u49.1.2.2.2.2.1, u49.1.2.2.2.2.2))))), ((((u49.2.1.1.1.1, u49.2.1.1.1.2), (u49.2.1.1.2.1, (u49.2.1.1.2.2.1, u49.2.1.1.2.2.2))), ((u49.2.1.2.1.1, u49.2.1.2.1.2), (u49.2.1.2.2.1, (u49.2.1.2.2.2.1, u49.2.1.2.2.2.2)))), (((u49.2.2.1.1.1, u49.2.2.1.1.2), (u49.2.2.1.2.1, (u49.2.2.1.2.2.1, u49.2.2.1.2.2.2))), ((u49.2.2.2.1.1, (u49.2.2.2.1.2.1, u49.2.2.2.1.2.2)), (u49.2.2.2.2.1, ((1 : Int32), u49.2.2.2.2.2.2))))))) H := hP
  have hD : va_D A (w_Mo k ad_this (((((u49.1.1.1.1.1, u49.1.1.1.1.2), (u49.1.1.1.2.1, (u49.1.1.1.2.2.1, u49.1.1.1.2.2.2))), ((u49.1.1.2.1.1, u49.1.1.2.1.2), (u49.1.1.2.2.1, (u49.1.1.2.2.2.1, u49.1.1.2.2.2.2)))), (((u49.1.2.1.1.1, u49.1.2.1.1.2), (u49.1.2.1.2.1, (u49.1.2.1.2.2.1, u49.1.2.1.2.2.2))), ((u49.1.2.2.1.1, (u49.1.2.2.1.2.1, u49.1.2.2.1.2.2)), (u49.1.2.2.2.1, (u49.1.2.2.2.2.1, u49.1.2.2.2.2.2))))), ((((u49.2.1.1.1.1, u49.2.1.1.1.2), (u49.2.1.1.2.1, (u49.2.1.1.2.2.1, u49.2.1.1.2.2.2))), ((u49.2.1.2.1.1, u49.2.1.2.1.2), (u49.2.1.2.2.1, (u49.2.1.2.2.2.1, u49.2.1.2.2.2.2)))), (((u49.2.2.1.1.1, u49.2.2.1.1.2), (u49.2.2.1.2.1, (u49.2.2.1.2.2.1, u49.2.2.1.2.2.2))), ((u49.2.2.2.1.1, (u49.2.2.2.1.2.1, u49.2.2.2.1.2.2)), (u49.2.2.2.2.1, ((1 : Int32), u49.2.2.2.2.2.2))))))) := hD
  exact t_Mo_statementOut_J286 (hrf := @hrf) hAt hK hJ hAe hA (((((u49.1.1.1.1.1, u49.1.1.1.1.2), (u49.1.1.1.2.1, (u49.1.1.1.2.2.1, u49.1.1.1.2.2.2))), ((u49.1.1.2.1.1, u49.1.1.2.1.2), (u49.1.1.2.2.1, (u49.1.1.2.2.2.1, u49.1.1.2.2.2.2)))), (((u49.1.2.1.1.1, u49.1.2.1.1.2), (u49.1.2.1.2.1, (u49.1.2.1.2.2.1, u49.1.2.1.2.2.2))), ((u49.1.2.2.1.1, (u49.1.2.2.1.2.1, u49.1.2.2.1.2.2)), (u49.1.2.2.2.1, (u49.1.2.2.2.2.1, u49.1.2.2.2.2.2))))), ((((u49.2.1.1.1.1, u49.2.1.1.1.2), (u49.2.1.1.2.1, (u49.2.1.1.2.2.1, u49.2.1.1.2.2.2))), ((u49.2.1.2.1.1, u49.2.1.2.1.2), (u49.2.1.2.2.1, (u49.2.1.2.2.2.1, u49.2.1.2.2.2.2)))), (((u49.2.2.1.1.1, u49.2.2.1.1.2), (u49.2.2.1.2.1, (u49.2.2.1.2.2.1, u49.2.2.1.2.2.2))), ((u49.2.2.2.1.1, (u49.2.2.2.1.2.1, u49.2.2.2.1.2.2)), (u49.2.2.2.2.1, ((1 : Int32), u49.2.2.2.2.2.2)))))) a1 (z_this.1.2.1.2.2.2 (r1).toNatClampNeg) (z_this.1.2.2.2.2.1 (r2).toNatClampNeg) H locs ls (lv_sub hl [2, 3, 1, 0] rfl) hP hD hS hw
theorem cw_Mo_statementOut {R : Room} {s : State} {args : Array Value} {own : String} {index : Nat} (hts : ∀ w ∈ xq_W, w.before args s = true) (hl : .methodLink own index y_Mo_statementOut ∈ xq_W) {rm : Room} (hR : rm.frames + 1 ≤ R.frames ∧ 8 + (6 + 11) + rm.locals ≤ R.locals) : CallW R s args own "StepTextModel" index y_Mo_statementOut prog_10_method_61_code 6 none (.code y_Mo_statementOut prog_10_method_61_code 6 none :: xq_W) rm rm.cells rm.slots 1 := ⟨xq_cb 1 hts kw6_43 kw1_13 hl ⟨by decide, by decide, by decide +kernel⟩ hR, hts _ kw6_42, hts _ kp6_12⟩
theorem d_Mo_blockOut_0 : decode prog_10_method_60_code 0 = .ok (.aload_n 0, 1) := by decide +kernel
theorem d_Mo_blockOut_1 : decode prog_10_method_60_code 1 = .ok (.bipush 123, 2) := by decide +kernel
theorem d_Mo_blockOut_3 : decode prog_10_method_60_code 3 = .ok (.invokevirtual 338, 3) := by decide +kernel
theorem d_Mo_blockOut_6 : decode prog_10_method_60_code 6 = .ok (.aload_n 0, 1) := by decide +kernel
theorem d_Mo_blockOut_7 : decode prog_10_method_60_code 7 = .ok (.invokevirtual 382, 3) := by decide +kernel
theorem d_Mo_blockOut_10 : decode prog_10_method_60_code 10 = .ok (.iconst 0, 1) := by decide +kernel
theorem d_Mo_blockOut_11 : decode prog_10_method_60_code 11 = .ok (.istore_n 2, 1) := by decide +kernel
theorem d_Mo_blockOut_12 : decode prog_10_method_60_code 12 = .ok (.iload_n 2, 1) := by decide +kernel
theorem d_Mo_blockOut_13 : decode prog_10_method_60_code 13 = .ok (.aload_n 0, 1) := by decide +kernel
theorem d_Mo_blockOut_14 : decode prog_10_method_60_code 14 = .ok (.getfield 30, 3) := by decide +kernel
theorem d_Mo_blockOut_17 : decode prog_10_method_60_code 17 = .ok (.aload_n 0, 1) := by decide +kernel
theorem d_Mo_blockOut_18 : decode prog_10_method_60_code 18 = .ok (.iload_n 1, 1) := by decide +kernel
theorem d_Mo_blockOut_19 : decode prog_10_method_60_code 19 = .ok (.invokevirtual 301, 3) := by decide +kernel
theorem d_Mo_blockOut_22 : decode prog_10_method_60_code 22 = .ok (.iaload, 1) := by decide +kernel
theorem d_Mo_blockOut_23 : decode prog_10_method_60_code 23 = .ok (.if_icmp .ge 19, 3) := by decide +kernel
theorem d_Mo_blockOut_26 : decode prog_10_method_60_code 26 = .ok (.aload_n 0, 1) := by decide +kernel
theorem d_Mo_blockOut_27 : decode prog_10_method_60_code 27 = .ok (.aload_n 0, 1) := by decide +kernel
theorem d_Mo_blockOut_28 : decode prog_10_method_60_code 28 = .ok (.iload_n 1, 1) := by decide +kernel
theorem d_Mo_blockOut_29 : decode prog_10_method_60_code 29 = .ok (.iload_n 2, 1) := by decide +kernel
theorem d_Mo_blockOut_30 : decode prog_10_method_60_code 30 = .ok (.invokevirtual 306, 3) := by decide +kernel
theorem d_Mo_blockOut_33 : decode prog_10_method_60_code 33 = .ok (.invokevirtual 385, 3) := by decide +kernel
theorem d_Mo_blockOut_36 : decode prog_10_method_60_code 36 = .ok (.iinc 2 1, 3) := by decide +kernel
theorem d_Mo_blockOut_39 : decode prog_10_method_60_code 39 = .ok (.goto (-27), 3) := by decide +kernel
theorem d_Mo_blockOut_42 : decode prog_10_method_60_code 42 = .ok (.aload_n 0, 1) := by decide +kernel
theorem d_Mo_blockOut_43 : decode prog_10_method_60_code 43 = .ok (.bipush 125, 2) := by decide +kernel
theorem d_Mo_blockOut_45 : decode prog_10_method_60_code 45 = .ok (.invokevirtual 338, 3) := by decide +kernel
theorem d_Mo_blockOut_48 : decode prog_10_method_60_code 48 = .ok (.aload_n 0, 1) := by decide +kernel
theorem d_Mo_blockOut_49 : decode prog_10_method_60_code 49 = .ok (.iconst 1, 1) := by decide +kernel
theorem d_Mo_blockOut_50 : decode prog_10_method_60_code 50 = .ok (.putfield 332, 3) := by decide +kernel
theorem d_Mo_blockOut_53 : decode prog_10_method_60_code 53 = .ok (.return_, 1) := by decide +kernel
def wp_Mo_blockOut_L12 (d : Nat) (rf : T_Mo → Int32 → (Unit → T_Mo → Prop) → Prop) (K : T_Mo → Int32 → Int32 → Prop) (post : Unit → T_Mo → Prop) : Nat → T_Mo → Int32 → Int32 → Prop
  | 0, _, _, _ => False
  | n9 + 1, z_this, x1, x2 => wp_Mo_node1 z_this x1 (fun (r3 : Int32) (u3 : Unit) => vp_in r3 2000 ∧ (((z_this.1.2.2.2.2.1 (r3).toNatClampNeg) ≤ x2 → (K z_this x1 x2)) ∧ (¬ (z_this.1.2.2.2.2.1 (r3).toNatClampNeg) ≤ x2 → (wp_Mo_kid z_this x1 x2 (fun (r4 : Int32) (u4 : Unit) => wp_Mo_statementOut d rf z_this r4 (fun (r5 : Unit) (u5 : T_Mo) => wp_Mo_blockOut_L12 d rf K post n9 u5 x1 (x2 + (1 : Int32))))))))
def wp_Mo_blockOut_F (d : Nat) (rf : T_Mo → Int32 → (Unit → T_Mo → Prop) → Prop) (z_this : T_Mo) (a1 : Int32) (post : Unit → T_Mo → Prop) : Prop := wp_Mo_say z_this (123 : Int32) (fun (r1 : Unit) (u1 : T_Mo) => wp_Mo_newLine u1 (fun (r2 : Unit) (u2 : T_Mo) => ∃ k9 : Nat, wp_Mo_blockOut_L12 d rf (fun (z_this : T_Mo) (x1 : Int32) (x2 : Int32) => wp_Mo_say z_this (125 : Int32) (fun (r6 : Unit) (u6 : T_Mo) => post () (((((u6.1.1.1.1.1, u6.1.1.1.1.2), (u6.1.1.1.2.1, (u6.1.1.1.2.2.1, u6.1.1.1.2.2.2))), ((u6.1.1.2.1.1, u6.1.1.2.1.2), (u6.1.1.2.2.1, (u6.1.1.2.2.2.1, u6.1.1.2.2.2.2)))), (((u6.1.2.1.1.1, u6.1.2.1.1.2), (u6.1.2.1.2.1, (u6.1.2.1.2.2.1, u6.1.2.1.2.2.2))), ((u6.1.2.2.1.1, (u6.1.2.2.1.2.1, u6.1.2.2.1.2.2)), (u6.1.2.2.2.1, (u6.1.2.2.2.2.1, u6.1.2.2.2.2.2))))), ((((u6.2.1.1.1.1, u6.2.1.1.1.2), (u6.2.1.1.2.1, (u6.2.1.1.2.2.1, u6.2.1.1.2.2.2))), ((u6.2.1.2.1.1, u6.2.1.2.1.2), (u6.2.1.2.2.1, (u6.2.1.2.2.2.1, u6.2.1.2.2.2.2)))), (((u6.2.2.1.1.1, u6.2.2.1.1.2), (u6.2.2.1.2.1, (u6.2.2.1.2.2.1, u6.2.2.1.2.2.2))), ((u6.2.2.2.1.1, (u6.2.2.2.1.2.1, u6.2.2.2.1.2.2)), (u6.2.2.2.2.1, ((1 : Int32), u6.2.2.2.2.2.2)))))))) post k9 u2 a1 (0 : Int32)))
def rm_Mo_blockOut (d F L : Nat) : Room := { frames := max (F + 2) (fFc d + 7), cells := 0, slots := 0, locals := max (L + 47) (fLc d + 164) }
set_option maxHeartbeats 4000000 in
set_option maxRecDepth 100000 in
theorem t_Mo_blockOut_L12 {p : Program} {l : Launch} {o : State × Array Value} {e : Env} {s : State} {m : MethodId} {args : Array Value} {below : List Frame} {meth : Method} {c : Code} {D : va_G} {k : Nat → ClassId} {w0 : va_W} {A : Nat → Prop} {ad_this : Nat → Nat} {post : Unit → T_Mo → Prop} {d : Nat} {rf : T_Mo → Int32 → (Unit → T_Mo → Prop) → Prop} {F L : Nat} (hrf : ∀ {ad_this : Nat → Nat} {z_this : T_Mo} {a1 : Int32} {post : Unit → T_Mo → Prop}, rf z_this a1 post → xq_C l o y_Mo_blockOut (.code y_Mo_blockOut prog_10_method_60_code 3 none :: xq_W) { frames := F, cells := 0, slots := 0, locals := L } D vwCl (xt k) [.ref (ad_this 0), .int a1] (w_Mo k ad_this z_this) (fun _ : Unit => none) post (fun _ : T_Mo => False) (fun u : T_Mo => w_Mo k ad_this u) 0 0 0 0) (hAt : xq_At p s m args meth c prog_10_method_60_code 3 none y_Mo_blockOut xq_W) (hK : va_K D vwCl (xt k) s) (hJ : xq_J l o A s s.heap) (hAe : va_A w0 s.heap.size = A) (hA : ∀ q, s.heap.size ≤ q → A q) {K : T_Mo → Int32 → Int32 → Prop} (hX : ∀ (z_this : T_Mo) (x1 : Int32) (x2 : Int32) (H : Heap) (locs : List Loc) (ls : Array Slot), lv_has ls 3 [(0, .ref (ad_this 0)), (1, .int x1), (2, .int x2)] → va_P D vwCl (w_Mo k ad_this z_this) H → va_D A (w_Mo k ad_this z_this) → va_S A s.heap H locs → K z_this x1 x2 → W p l e (rm_Mo_blockOut d F L) s m args below meth c H locs 0 0 (xq_Z below D vwCl (xt k) w0 (fun _ : Unit => none) post (fun _ : T_Mo => False) (fun u : T_Mo => w_Mo k ad_this u) 0 0 0 0 s) (F0 m 42 ls [])) :
    ∀ (n9 : Nat) (z_this : T_Mo) (x1 : Int32) (x2 : Int32) (H : Heap) (locs : List Loc) (ls : Array Slot), lv_has ls 3 [(0, .ref (ad_this 0)), (1, .int x1), (2, .int x2)] → va_P D vwCl (w_Mo k ad_this z_this) H → va_D A (w_Mo k ad_this z_this) → va_S A s.heap H locs → wp_Mo_blockOut_L12 d rf K post n9 z_this x1 x2 → W p l e (rm_Mo_blockOut d F L) s m args below meth c H locs 0 0 (xq_Z below D vwCl (xt k) w0 (fun _ : Unit => none) post (fun _ : T_Mo => False) (fun u : T_Mo => w_Mo k ad_this u) 0 0 0 0 s) (F0 m 12 ls []) := by
  obtain ⟨hx, hb, hml, hr, hlocks, hown, hts, hex, hnm⟩ := id hAt
  intro n9
  induction n9 with
  | zero => intro z_this x1 x2 H locs ls hl hP hD hS hw; exact False.elim (by rw [wp_Mo_blockOut_L12] at hw; exact hw)
  | succ n9 ih =>
    intro z_this x1 x2 H locs ls hl hP hD hS hw
    rw [wp_Mo_blockOut_L12] at hw
    refine lv_iload_n hx hb d_Mo_blockOut_12 rfl (lv_at hl 2 rfl) ?_
    refine lv_aload_n hx hb d_Mo_blockOut_13 rfl (lv_at hl 0 rfl) ?_
    refine va_get (D := D) (ci := 8) (v := .ref (ad_this 7)) (C := R_Mo) (T := F_Mo) (N := 42) hx hb hts in_Mo hown hK hP 0 rfl rfl 19 (by decide) (hts (.fieldLink R_Mo 30 R_Mo "kidCount" "[I") kw4_162) (fun _ h9 => h9) rfl d_Mo_blockOut_14 ?_
    refine lv_aload_n hx hb d_Mo_blockOut_17 rfl (lv_at hl 0 rfl) ?_
    refine lv_iload_n hx hb d_Mo_blockOut_18 rfl (lv_at hl 1 rfl) ?_
    refine xq_go (wr := ([] : va_W)) (stk := fun r => .int r :: [.ref (ad_this 7), .int x2]) (xq_runV (As := [.int x1]) (rest := [.ref (ad_this 7), .int x2]) ⟨hx, hb, hml, hown, hts⟩ (c_Mo_node1 (l := l) (o := o) (D := D) (k := k) (ad_this := ad_this) hw) (cw_Mo_node1 hts kw5_199 ⟨by simp only [rm_Mo_blockOut, rm_Mo_node1]; omega, by simp only [rm_Mo_blockOut, rm_Mo_node1]; omega⟩) (va_recv hK hP (ci := 8) (q0 := 0) rfl rfl) (hP.sub [0, 1, 2, 3, 4, 5, 6, 7, 8, 9, 10, 11, 12, 13, 14, 15, 16, 17] rfl) hK hJ hS (va_free hD hS hA [0, 1, 2, 3, 4, 5, 6, 7, 8, 9, 10, 11, 12, 13, 14, 15, 16, 17] rfl) ((hD.sub [0, 1, 2, 3, 4, 5, 6, 7, 8, 9, 10, 11, 12, 13, 14, 15, 16, 17] (by decide) rfl).weaken (fun _ _ _ _ => trivial)) rfl hl.1 (Nat.le_of_ble_eq_true rfl) d_Mo_blockOut_19 ⟨Nat.le_of_ble_eq_true rfl, Nat.le_of_ble_eq_true rfl⟩) hP hD hS hA [0, 1, 2, 3, 4, 5, 6, 7, 8, 9, 10, 11, 12, 13, 14, 15, 16, 17] [] rfl rfl (by decide) (by decide) (fun _ => rfl) (fun r3 u3 H locs hw hP hD hS => ?_) (fun _ _ _ _ h9 => h9.elim)
    have hP : va_P D vwCl (w_Mo k ad_this z_this) H := hP.sub [0, 1, 2, 3, 4, 5, 6, 7, 8, 9, 10, 11, 12, 13, 14, 15, 16, 17] rfl
    have hD : va_D A (w_Mo k ad_this z_this) := hD.sub [0, 1, 2, 3, 4, 5, 6, 7, 8, 9, 10, 11, 12, 13, 14, 15, 16, 17] (by decide) rfl
    refine va_iald hx hb hK hP 7 0 rfl rfl hw.1 d_Mo_blockOut_22 ?_
    have hw := hw.2
    refine lv_icmp_ge (tgt := 42) hx hb d_Mo_blockOut_23 (by decide) (fun hc => ?_) (fun hc => ?_)
    · have hw := hw.1 hc
      exact hX z_this x1 x2 H locs ls (lv_sub hl [0, 1, 2] rfl) hP hD hS hw
    · have hw := hw.2 hc
      refine lv_aload_n hx hb d_Mo_blockOut_26 rfl (lv_at hl 0 rfl) ?_
      refine lv_aload_n hx hb d_Mo_blockOut_27 rfl (lv_at hl 0 rfl) ?_
      refine lv_iload_n hx hb d_Mo_blockOut_28 rfl (lv_at hl 1 rfl) ?_
      refine lv_iload_n hx hb d_Mo_blockOut_29 rfl (lv_at hl 2 rfl) ?_
      refine xq_go (wr := ([] : va_W)) (stk := fun r => .int r :: [.ref (ad_this 0)]) (xq_runV (As := [.int x1, .int x2]) (rest := [.ref (ad_this 0)]) ⟨hx, hb, hml, hown, hts⟩ (c_Mo_kid (l := l) (o := o) (D := D) (k := k) (ad_this := ad_this) hw) (cw_Mo_kid hts kw5_207 ⟨by simp only [rm_Mo_blockOut, rm_Mo_kid]; omega, by simp only [rm_Mo_blockOut, rm_Mo_kid]; omega⟩) (va_recv hK hP (ci := 8) (q0 := 0) rfl rfl) (hP.sub [0, 1, 2, 3, 4, 5, 6, 7, 8, 9, 10, 11, 12, 13, 14, 15, 16, 17] rfl) hK hJ hS (va_free hD hS hA [0, 1, 2, 3, 4, 5, 6, 7, 8, 9, 10, 11, 12, 13, 14, 15, 16, 17] rfl) ((hD.sub [0, 1, 2, 3, 4, 5, 6, 7, 8, 9, 10, 11, 12, 13, 14, 15, 16, 17] (by decide) rfl).weaken (fun _ _ _ _ => trivial)) rfl hl.1 (Nat.le_of_ble_eq_true rfl) d_Mo_blockOut_30 ⟨Nat.le_of_ble_eq_true rfl, Nat.le_of_ble_eq_true rfl⟩) hP hD hS hA [0, 1, 2, 3, 4, 5, 6, 7, 8, 9, 10, 11, 12, 13, 14, 15, 16, 17] [] rfl rfl (by decide) (by decide) (fun _ => rfl) (fun r4 u4 H locs hw hP hD hS => ?_) (fun _ _ _ _ h9 => h9.elim)
      have hP : va_P D vwCl (w_Mo k ad_this z_this) H := hP.sub [0, 1, 2, 3, 4, 5, 6, 7, 8, 9, 10, 11, 12, 13, 14, 15, 16, 17] rfl
      have hD : va_D A (w_Mo k ad_this z_this) := hD.sub [0, 1, 2, 3, 4, 5, 6, 7, 8, 9, 10, 11, 12, 13, 14, 15, 16, 17] (by decide) rfl
      refine xq_go (wr := ([] : va_W)) (stk := fun _ => []) (xq_runV (As := [.int r4]) (rest := []) ⟨hx, hb, hml, hown, hts⟩ (c_Mo_statementOut (l := l) (o := o) (D := D) (k := k) (hrf := @hrf) (ad_this := ad_this) hw) (cw_Mo_statementOut hts kw6_40 ⟨by simp only [rm_Mo_blockOut, rm_Mo_statementOut]; omega, by simp only [rm_Mo_blockOut, rm_Mo_statementOut]; omega⟩) (va_recv hK hP (ci := 8) (q0 := 0) rfl rfl) (hP.sub [0, 1, 2, 3, 4, 5, 6, 7, 8, 9, 10, 11, 12, 13, 14, 15, 16, 17] rfl) hK hJ hS (va_free hD hS hA [0, 1, 2, 3, 4, 5, 6, 7, 8, 9, 10, 11, 12, 13, 14, 15, 16, 17] rfl) ((hD.sub [0, 1, 2, 3, 4, 5, 6, 7, 8, 9, 10, 11, 12, 13, 14, 15, 16, 17] (by decide) rfl).weaken (fun _ _ _ _ => trivial)) rfl hl.1 (Nat.le_of_ble_eq_true rfl) d_Mo_blockOut_33 ⟨Nat.le_of_ble_eq_true rfl, Nat.le_of_ble_eq_true rfl⟩) hP hD hS hA [0, 1, 2, 3, 4, 5, 6, 7, 8, 9, 10, 11, 12, 13, 14, 15, 16, 17] [] rfl rfl (by decide) (by decide) (fun _ => rfl) (fun r5 u5 H locs hw hP hD hS => ?_) (fun _ _ _ _ h9 => h9.elim)
      have hP : va_P D vwCl (w_Mo k ad_this u5) H := hP.sub [0, 1, 2, 3, 4, 5, 6, 7, 8, 9, 10, 11, 12, 13, 14, 15, 16, 17] rfl
      have hD : va_D A (w_Mo k ad_this u5) := hD.sub [0, 1, 2, 3, 4, 5, 6, 7, 8, 9, 10, 11, 12, 13, 14, 15, 16, 17] (by decide) rfl
      refine lv_iinc (v := (x2 + (1 : Int32))) (lv' := [(2, .int (x2 + (1 : Int32))), (0, .ref (ad_this 0)), (1, .int x1)]) hx hb d_Mo_blockOut_36 hl (k := 2) rfl rfl (by decide) rfl (fun ls hl => ?_)
      refine lv_goto (tgt := 12) hx hb d_Mo_blockOut_39 (by decide) ?_
      exact ih u5 x1 (x2 + (1 : Int32)) H locs ls (lv_sub hl [1, 2, 0] rfl) hP hD hS hw
set_option maxHeartbeats 4000000 in
set_option maxRecDepth 100000 in
theorem c_Mo_blockOut_F {l : Launch} {o : State × Array Value} {D : va_G} {k : Nat → ClassId} {d : Nat} {rf : T_Mo → Int32 → (Unit → T_Mo → Prop) → Prop} {F L : Nat} (hrf : ∀ {ad_this : Nat → Nat} {z_this : T_Mo} {a1 : Int32} {post : Unit → T_Mo → Prop}, rf z_this a1 post → xq_C l o y_Mo_blockOut (.code y_Mo_blockOut prog_10_method_60_code 3 none :: xq_W) { frames := F, cells := 0, slots := 0, locals := L } D vwCl (xt k) [.ref (ad_this 0), .int a1] (w_Mo k ad_this z_this) (fun _ : Unit => none) post (fun _ : T_Mo => False) (fun u : T_Mo => w_Mo k ad_this u) 0 0 0 0) {ad_this : Nat → Nat} {z_this : T_Mo} {a1 : Int32} {post : Unit → T_Mo → Prop} (hw : wp_Mo_blockOut_F d rf z_this a1 post) : xq_C l o y_Mo_blockOut (.code y_Mo_blockOut prog_10_method_60_code 3 none :: xq_W) (rm_Mo_blockOut d F L) D vwCl (xt k) [.ref (ad_this 0), .int a1] (w_Mo k ad_this z_this) (fun _ : Unit => none) post (fun _ : T_Mo => False) (fun u : T_Mo => w_Mo k ad_this u) 0 0 0 0 := by
  refine xq_ofW (cc := prog_10_method_60_code) (maxL := 3) (ret := none) (by decide) rfl (Nat.le_of_ble_eq_true rfl) ?_
  intro p e s m below meth c ls H locs A hAt hAe hA hl hK hJ hP0 hP hD hS
  obtain ⟨hx, hb, hml, hr, hlocks, hown, hts, hex, hnm⟩ := id hAt
  have hl : lv_has ls 3 [(0, .ref (ad_this 0)), (1, .int a1)] := hl
  unfold wp_Mo_blockOut_F at hw
  refine lv_aload_n hx hb d_Mo_blockOut_0 rfl (lv_at hl 0 rfl) ?_
  refine lv_bipush (v := (123 : Int32)) hx hb d_Mo_blockOut_1 (by decide) ?_
  refine xq_go (wr := ([] : va_W)) (stk := fun _ => []) (xq_runV (As := [.int (123 : Int32)]) (rest := []) ⟨hx, hb, hml, hown, hts⟩ (c_Mo_say (l := l) (o := o) (D := D) (k := k) (ad_this := ad_this) hw) (cw_Mo_say hts kw6_20 ⟨by simp only [rm_Mo_blockOut, rm_Mo_say]; omega, by simp only [rm_Mo_blockOut, rm_Mo_say]; omega⟩) (va_recv hK hP (ci := 8) (q0 := 0) rfl rfl) (hP.sub [0, 1, 2, 3, 4, 5, 6, 7, 8, 9, 10, 11, 12, 13, 14, 15, 16, 17] rfl) hK hJ hS (va_free hD hS hA [0, 1, 2, 3, 4, 5, 6, 7, 8, 9, 10, 11, 12, 13, 14, 15, 16, 17] rfl) ((hD.sub [0, 1, 2, 3, 4, 5, 6, 7, 8, 9, 10, 11, 12, 13, 14, 15, 16, 17] (by decide) rfl).weaken (fun _ _ _ _ => trivial)) rfl hl.1 (Nat.le_of_ble_eq_true rfl) d_Mo_blockOut_3 ⟨Nat.le_of_ble_eq_true rfl, Nat.le_of_ble_eq_true rfl⟩) hP hD hS hA [0, 1, 2, 3, 4, 5, 6, 7, 8, 9, 10, 11, 12, 13, 14, 15, 16, 17] [] rfl rfl (by decide) (by decide) (fun _ => rfl) (fun r1 u1 H locs hw hP hD hS => ?_) (fun _ _ _ _ h9 => h9.elim)
  have hP : va_P D vwCl (w_Mo k ad_this u1) H := hP.sub [0, 1, 2, 3, 4, 5, 6, 7, 8, 9, 10, 11, 12, 13, 14, 15, 16, 17] rfl
  have hD : va_D A (w_Mo k ad_this u1) := hD.sub [0, 1, 2, 3, 4, 5, 6, 7, 8, 9, 10, 11, 12, 13, 14, 15, 16, 17] (by decide) rfl
  refine lv_aload_n hx hb d_Mo_blockOut_6 rfl (lv_at hl 0 rfl) ?_
  refine xq_go (wr := ([] : va_W)) (stk := fun _ => []) (xq_runV (As := []) (rest := []) ⟨hx, hb, hml, hown, hts⟩ (c_Mo_newLine (l := l) (o := o) (D := D) (k := k) (ad_this := ad_this) hw) (cw_Mo_newLine hts kw6_36 ⟨by simp only [rm_Mo_blockOut, rm_Mo_newLine]; omega, by simp only [rm_Mo_blockOut, rm_Mo_newLine]; omega⟩) (va_recv hK hP (ci := 8) (q0 := 0) rfl rfl) (hP.sub [0, 1, 2, 3, 4, 5, 6, 7, 8, 9, 10, 11, 12, 13, 14, 15, 16, 17] rfl) hK hJ hS (va_free hD hS hA [0, 1, 2, 3, 4, 5, 6, 7, 8, 9, 10, 11, 12, 13, 14, 15, 16, 17] rfl) ((hD.sub [0, 1, 2, 3, 4, 5, 6, 7, 8, 9, 10, 11, 12, 13, 14, 15, 16, 17] (by decide) rfl).weaken (fun _ _ _ _ => trivial)) rfl hl.1 (Nat.le_of_ble_eq_true rfl) d_Mo_blockOut_7 ⟨Nat.le_of_ble_eq_true rfl, Nat.le_of_ble_eq_true rfl⟩) hP hD hS hA [0, 1, 2, 3, 4, 5, 6, 7, 8, 9, 10, 11, 12, 13, 14, 15, 16, 17] [] rfl rfl (by decide) (by decide) (fun _ => rfl) (fun r2 u2 H locs hw hP hD hS => ?_) (fun _ _ _ _ h9 => h9.elim)
  have hP : va_P D vwCl (w_Mo k ad_this u2) H := hP.sub [0, 1, 2, 3, 4, 5, 6, 7, 8, 9, 10, 11, 12, 13, 14, 15, 16, 17] rfl
  have hD : va_D A (w_Mo k ad_this u2) := hD.sub [0, 1, 2, 3, 4, 5, 6, 7, 8, 9, 10, 11, 12, 13, 14, 15, 16, 17] (by decide) rfl
  refine lv_iconst (v := (0 : Int32)) hx hb d_Mo_blockOut_10 (by decide) ?_
  refine lv_istore_n (lv' := [(2, .int (0 : Int32)), (0, .ref (ad_this 0)), (1, .int a1)]) hx hb d_Mo_blockOut_11 rfl hl (by decide) rfl (fun ls hl => ?_)
  obtain ⟨k9, hw⟩ := hw
  refine t_Mo_blockOut_L12 (hrf := @hrf) hAt hK hJ hAe hA ?_ k9 u2 a1 (0 : Int32) H locs ls (lv_sub hl [1, 2, 0] rfl) hP hD hS hw
  intro z_this x1 x2 H locs ls hl hP hD hS hw
  refine lv_aload_n hx hb d_Mo_blockOut_42 rfl (lv_at hl 0 rfl) ?_
  refine lv_bipush (v := (125 : Int32)) hx hb d_Mo_blockOut_43 (by decide) ?_
  refine xq_go (wr := ([] : va_W)) (stk := fun _ => []) (xq_runV (As := [.int (125 : Int32)]) (rest := []) ⟨hx, hb, hml, hown, hts⟩ (c_Mo_say (l := l) (o := o) (D := D) (k := k) (ad_this := ad_this) hw) (cw_Mo_say hts kw6_20 ⟨by simp only [rm_Mo_blockOut, rm_Mo_say]; omega, by simp only [rm_Mo_blockOut, rm_Mo_say]; omega⟩) (va_recv hK hP (ci := 8) (q0 := 0) rfl rfl) (hP.sub [0, 1, 2, 3, 4, 5, 6, 7, 8, 9, 10, 11, 12, 13, 14, 15, 16, 17] rfl) hK hJ hS (va_free hD hS hA [0, 1, 2, 3, 4, 5, 6, 7, 8, 9, 10, 11, 12, 13, 14, 15, 16, 17] rfl) ((hD.sub [0, 1, 2, 3, 4, 5, 6, 7, 8, 9, 10, 11, 12, 13, 14, 15, 16, 17] (by decide) rfl).weaken (fun _ _ _ _ => trivial)) rfl hl.1 (Nat.le_of_ble_eq_true rfl) d_Mo_blockOut_45 ⟨Nat.le_of_ble_eq_true rfl, Nat.le_of_ble_eq_true rfl⟩) hP hD hS hA [0, 1, 2, 3, 4, 5, 6, 7, 8, 9, 10, 11, 12, 13, 14, 15, 16, 17] [] rfl rfl (by decide) (by decide) (fun _ => rfl) (fun r6 u6 H locs hw hP hD hS => ?_) (fun _ _ _ _ h9 => h9.elim)
  have hP : va_P D vwCl (w_Mo k ad_this u6) H := hP.sub [0, 1, 2, 3, 4, 5, 6, 7, 8, 9, 10, 11, 12, 13, 14, 15, 16, 17] rfl
  have hD : va_D A (w_Mo k ad_this u6) := hD.sub [0, 1, 2, 3, 4, 5, 6, 7, 8, 9, 10, 11, 12, 13, 14, 15, 16, 17] (by decide) rfl
  refine lv_aload_n hx hb d_Mo_blockOut_48 rfl (lv_at hl 0 rfl) ?_
  refine lv_iconst (v := (1 : Int32)) hx hb d_Mo_blockOut_49 (by decide) ?_
  refine va_put (D := D) (ci := 8) (v := .int (1 : Int32)) (ty := .boolean) (C := R_Mo) (T := F_Mo) (N := 42) hx hb hts in_Mo t_Mo t_Mo_ok n_Mo hown hK hP hD hS 0 rfl rfl 40 (by decide) (hts (.fieldLink R_Mo 332 R_Mo "blank" "Z") kw4_183) (fun _ h9 => h9) rfl (by decide +kernel) rfl rfl (Nat.le_of_ble_eq_true rfl) d_Mo_blockOut_50 (fun H locs hP hD hS => ?_)
  have hP : va_P D vwCl (w_Mo k ad_this (((((u6.1.1.1.1.1, u6.1.1.1.1.2), (u6.1.1.1.2.1, (u6.1.1.1.2.2.1, u6.1.1.1.2.2.2))), ((u6.1.1.2.1.1, u6.1.1.2.1.2), (u6.1.1.2.2.1, (u6.1.1.2.2.2.1, u6.1.1.2.2.2.2)))), (((u6.1.2.1.1.1, u6.1.2.1.1.2), (u6.1.2.1.2.1, (u6.1.2.1.2.2.1, u6.1.2.1.2.2.2))), ((u6.1.2.2.1.1, (u6.1.2.2.1.2.1, u6.1.2.2.1.2.2)), (u6.1.2.2.2.1, (u6.1.2.2.2.2.1, u6.1.2.2.2.2.2))))), ((((u6.2.1.1.1.1, u6.2.1.1.1.2), (u6.2.1.1.2.1, (u6.2.1.1.2.2.1, u6.2.1.1.2.2.2))), ((u6.2.1.2.1.1, u6.2.1.2.1.2), (u6.2.1.2.2.1, (u6.2.1.2.2.2.1, u6.2.1.2.2.2.2)))), (((u6.2.2.1.1.1, u6.2.2.1.1.2), (u6.2.2.1.2.1, (u6.2.2.1.2.2.1, u6.2.2.1.2.2.2))), ((u6.2.2.2.1.1, (u6.2.2.2.1.2.1, u6.2.2.2.1.2.2)), (u6.2.2.2.2.1, ((1 : Int32), u6.2.2.2.2.2.2))))))) H := hP
  have hD : va_D A (w_Mo k ad_this (((((u6.1.1.1.1.1, u6.1.1.1.1.2), (u6.1.1.1.2.1, (u6.1.1.1.2.2.1, u6.1.1.1.2.2.2))), ((u6.1.1.2.1.1, u6.1.1.2.1.2), (u6.1.1.2.2.1, (u6.1.1.2.2.2.1, u6.1.1.2.2.2.2)))), (((u6.1.2.1.1.1, u6.1.2.1.1.2), (u6.1.2.1.2.1, (u6.1.2.1.2.2.1, u6.1.2.1.2.2.2))), ((u6.1.2.2.1.1, (u6.1.2.2.1.2.1, u6.1.2.2.1.2.2)), (u6.1.2.2.2.1, (u6.1.2.2.2.2.1, u6.1.2.2.2.2.2))))), ((((u6.2.1.1.1.1, u6.2.1.1.1.2), (u6.2.1.1.2.1, (u6.2.1.1.2.2.1, u6.2.1.1.2.2.2))), ((u6.2.1.2.1.1, u6.2.1.2.1.2), (u6.2.1.2.2.1, (u6.2.1.2.2.2.1, u6.2.1.2.2.2.2)))), (((u6.2.2.1.1.1, u6.2.2.1.1.2), (u6.2.2.1.2.1, (u6.2.2.1.2.2.1, u6.2.2.1.2.2.2))), ((u6.2.2.2.1.1, (u6.2.2.2.1.2.1, u6.2.2.2.1.2.2)), (u6.2.2.2.2.1, ((1 : Int32), u6.2.2.2.2.2.2))))))) := hD
  exact xq_vret (r := ()) (u := (((((u6.1.1.1.1.1, u6.1.1.1.1.2), (u6.1.1.1.2.1, (u6.1.1.1.2.2.1, u6.1.1.1.2.2.2))), ((u6.1.1.2.1.1, u6.1.1.2.1.2), (u6.1.1.2.2.1, (u6.1.1.2.2.2.1, u6.1.1.2.2.2.2)))), (((u6.1.2.1.1.1, u6.1.2.1.1.2), (u6.1.2.1.2.1, (u6.1.2.1.2.2.1, u6.1.2.1.2.2.2))), ((u6.1.2.2.1.1, (u6.1.2.2.1.2.1, u6.1.2.2.1.2.2)), (u6.1.2.2.2.1, (u6.1.2.2.2.2.1, u6.1.2.2.2.2.2))))), ((((u6.2.1.1.1.1, u6.2.1.1.1.2), (u6.2.1.1.2.1, (u6.2.1.1.2.2.1, u6.2.1.1.2.2.2))), ((u6.2.1.2.1.1, u6.2.1.2.1.2), (u6.2.1.2.2.1, (u6.2.1.2.2.2.1, u6.2.1.2.2.2.2)))), (((u6.2.2.1.1.1, u6.2.2.1.1.2), (u6.2.2.1.2.1, (u6.2.2.1.2.2.1, u6.2.2.1.2.2.2))), ((u6.2.2.2.1.1, (u6.2.2.2.1.2.1, u6.2.2.2.1.2.2)), (u6.2.2.2.2.1, ((1 : Int32), u6.2.2.2.2.2.2))))))) hx hb hr hlocks hAe hP hD hS rfl hw (Nat.le_of_ble_eq_true rfl) (Nat.le_of_ble_eq_true rfl) d_Mo_blockOut_53
def wp_Mo_blockOut (d : Nat) : Nat → T_Mo → Int32 → (Unit → T_Mo → Prop) → Prop
  | 0 => fun _ _ _ => False
  | e + 1 => wp_Mo_blockOut_F d (wp_Mo_blockOut d e)
def fBc (d : Nat) : Nat → Nat
  | 0 => 0
  | e + 1 => max (fBc d e + 2) (fFc d + 7)
def fMc (d : Nat) : Nat → Nat
  | 0 => 0
  | e + 1 => max (fMc d e + 47) (fLc d + 164)
theorem c_Mo_blockOut (d e : Nat) {l : Launch} {o : State × Array Value} {D : va_G} {k : Nat → ClassId} : ∀ {ad_this : Nat → Nat} {z_this : T_Mo} {a1 : Int32} {post : Unit → T_Mo → Prop}, wp_Mo_blockOut d e z_this a1 post → xq_C l o y_Mo_blockOut (.code y_Mo_blockOut prog_10_method_60_code 3 none :: xq_W) { frames := fBc d e, cells := 0, slots := 0, locals := fMc d e } D vwCl (xt k) [.ref (ad_this 0), .int a1] (w_Mo k ad_this z_this) (fun _ : Unit => none) post (fun _ : T_Mo => False) (fun u : T_Mo => w_Mo k ad_this u) 0 0 0 0 := by
  induction e with
  | zero => intro ad_this z_this a1 post hw; exact False.elim hw
  | succ e ih => intro ad_this z_this a1 post hw; exact c_Mo_blockOut_F (F := fBc d e) (L := fMc d e) (hrf := @ih) hw
