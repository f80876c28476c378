theorem kw6_0 : (Jvm.Cond.methodLink "StepTextModel" (322 : Nat) ({ cls := "StepTextModel", name := "isRemark", desc := "(II)Z" } : Jvm.MethodName)) ∈ xq_W := xq_in tb_6 0 (by decide +kernel) rfl
theorem kw5_235 : (Jvm.Cond.code ({ cls := "StepTextModel", name := "check", desc := "(II)I" } : Jvm.MethodName) prog_10_method_48_code (7 : Nat) (Option.some Jvm.ClassFile.FieldType.int)) ∈ xq_W := xq_in tb_5 235 rfl rfl
theorem kw5_233 : (Jvm.Cond.instanceMethod ({ cls := "StepTextModel", name := "check", desc := "(II)I" } : Jvm.MethodName)) ∈ xq_W := xq_in tb_5 233 (by decide +kernel) rfl
theorem kw5_234 : (Jvm.Cond.selects "StepTextModel" ({ cls := "StepTextModel", name := "check", desc := "(II)I" } : Jvm.MethodName) ({ cls := "StepTextModel", name := "check", desc := "(II)I" } : Jvm.MethodName)) ∈ xq_W := xq_in tb_5 234 (by decide +kernel) rfl
theorem kw6_15 : (Jvm.Cond.code ({ cls := "StepTextModel", name := "write", desc := "(I)I" } : Jvm.MethodName) prog_10_method_62_code (4 : Nat) (Option.some Jvm.ClassFile.FieldType.int)) ∈ xq_W := xq_in tb_6 15 rfl rfl
theorem kw6_13 : (Jvm.Cond.instanceMethod ({ cls := "StepTextModel", name := "write", desc := "(I)I" } : Jvm.MethodName)) ∈ xq_W := xq_in tb_6 13 (by decide +kernel) rfl
theorem kw6_14 : (Jvm.Cond.selects "StepTextModel" ({ cls := "StepTextModel", name := "write", desc := "(I)I" } : Jvm.MethodName) ({ cls := "StepTextModel", name := "write", desc := "(I)I" } : Jvm.MethodName)) ∈ xq_W := xq_in tb_6 14 (by decide +kernel) rfl
def y_Mo_check : MethodName := ⟨"StepTextModel", "check", "(II)I"⟩
theorem d_Mo_check_0 : decode prog_10_method_48_code 0 = .ok (.iload_n 1, 1) := by decide +kernel
theorem d_Mo_check_1 : decode prog_10_method_48_code 1 = .ok (.ifCond .lt 12, 3) := by decide +kernel
theorem d_Mo_check_4 : decode prog_10_method_48_code 4 = .ok (.iload_n 2, 1) := by decide +kernel
theorem d_Mo_check_5 : decode prog_10_method_48_code 5 = .ok (.ifCond .lt 8, 3) := by decide +kernel
theorem d_Mo_check_8 : decode prog_10_method_48_code 8 = .ok (.iload_n 2, 1) := by decide +kernel
theorem d_Mo_check_9 : decode prog_10_method_48_code 9 = .ok (.iconst 1, 1) := by decide +kernel
theorem d_Mo_check_10 : decode prog_10_method_48_code 10 = .ok (.if_icmp .le 5, 3) := by decide +kernel
theorem d_Mo_check_13 : decode prog_10_method_48_code 13 = .ok (.iconst (-1), 1) := by decide +kernel
theorem d_Mo_check_14 : decode prog_10_method_48_code 14 = .ok (.ireturn, 1) := by decide +kernel
theorem d_Mo_check_15 : decode prog_10_method_48_code 15 = .ok (.iconst 0, 1) := by decide +kernel
theorem d_Mo_check_16 : decode prog_10_method_48_code 16 = .ok (.istore_n 3, 1) := by decide +kernel
theorem d_Mo_check_17 : decode prog_10_method_48_code 17 = .ok (.iload_n 3, 1) := by decide +kernel
theorem d_Mo_check_18 : decode prog_10_method_48_code 18 = .ok (.bipush 100, 2) := by decide +kernel
theorem d_Mo_check_20 : decode prog_10_method_48_code 20 = .ok (.if_icmp .ge 16, 3) := by decide +kernel
theorem d_Mo_check_23 : decode prog_10_method_48_code 23 = .ok (.aload_n 0, 1) := by decide +kernel
theorem d_Mo_check_24 : decode prog_10_method_48_code 24 = .ok (.getfield 61, 3) := by decide +kernel
theorem d_Mo_check_27 : decode prog_10_method_48_code 27 = .ok (.iload_n 3, 1) := by decide +kernel
theorem d_Mo_check_28 : decode prog_10_method_48_code 28 = .ok (.iconst 0, 1) := by decide +kernel
theorem d_Mo_check_29 : decode prog_10_method_48_code 29 = .ok (.bastore, 1) := by decide +kernel
theorem d_Mo_check_30 : decode prog_10_method_48_code 30 = .ok (.iinc 3 1, 3) := by decide +kernel
theorem d_Mo_check_33 : decode prog_10_method_48_code 33 = .ok (.goto (-16), 3) := by decide +kernel
theorem d_Mo_check_36 : decode prog_10_method_48_code 36 = .ok (.iconst 0, 1) := by decide +kernel
theorem d_Mo_check_37 : decode prog_10_method_48_code 37 = .ok (.istore_n 3, 1) := by decide +kernel
theorem d_Mo_check_38 : decode prog_10_method_48_code 38 = .ok (.iload_n 3, 1) := by decide +kernel
theorem d_Mo_check_39 : decode prog_10_method_48_code 39 = .ok (.aload_n 0, 1) := by decide +kernel
theorem d_Mo_check_40 : decode prog_10_method_48_code 40 = .ok (.getfield 292, 3) := by decide +kernel
theorem d_Mo_check_43 : decode prog_10_method_48_code 43 = .ok (.if_icmp .ge 48, 3) := by decide +kernel
theorem d_Mo_check_46 : decode prog_10_method_48_code 46 = .ok (.aload_n 0, 1) := by decide +kernel
theorem d_Mo_check_47 : decode prog_10_method_48_code 47 = .ok (.getfield 36, 3) := by decide +kernel
theorem d_Mo_check_50 : decode prog_10_method_48_code 50 = .ok (.sipush 1000, 3) := by decide +kernel
theorem d_Mo_check_53 : decode prog_10_method_48_code 53 = .ok (.aload_n 0, 1) := by decide +kernel
theorem d_Mo_check_54 : decode prog_10_method_48_code 54 = .ok (.getfield 185, 3) := by decide +kernel
theorem d_Mo_check_57 : decode prog_10_method_48_code 57 = .ok (.imul, 1) := by decide +kernel
theorem d_Mo_check_58 : decode prog_10_method_48_code 58 = .ok (.iload_n 3, 1) := by decide +kernel
theorem d_Mo_check_59 : decode prog_10_method_48_code 59 = .ok (.iadd, 1) := by decide +kernel
theorem d_Mo_check_60 : decode prog_10_method_48_code 60 = .ok (.iaload, 1) := by decide +kernel
theorem d_Mo_check_61 : decode prog_10_method_48_code 61 = .ok (.istore 4, 2) := by decide +kernel
theorem d_Mo_check_63 : decode prog_10_method_48_code 63 = .ok (.aload_n 0, 1) := by decide +kernel
theorem d_Mo_check_64 : decode prog_10_method_48_code 64 = .ok (.getfield 13, 3) := by decide +kernel
theorem d_Mo_check_67 : decode prog_10_method_48_code 67 = .ok (.aload_n 0, 1) := by decide +kernel
theorem d_Mo_check_68 : decode prog_10_method_48_code 68 = .ok (.iload 4, 2) := by decide +kernel
theorem d_Mo_check_70 : decode prog_10_method_48_code 70 = .ok (.invokevirtual 301, 3) := by decide +kernel
theorem d_Mo_check_73 : decode prog_10_method_48_code 73 = .ok (.iaload, 1) := by decide +kernel
theorem d_Mo_check_74 : decode prog_10_method_48_code 74 = .ok (.bipush 24, 2) := by decide +kernel
theorem d_Mo_check_76 : decode prog_10_method_48_code 76 = .ok (.if_icmp .eq 9, 3) := by decide +kernel
theorem d_Mo_check_79 : decode prog_10_method_48_code 79 = .ok (.aload_n 0, 1) := by decide +kernel
theorem d_Mo_check_80 : decode prog_10_method_48_code 80 = .ok (.iload 4, 2) := by decide +kernel
theorem d_Mo_check_82 : decode prog_10_method_48_code 82 = .ok (.invokevirtual 312, 3) := by decide +kernel
theorem d_Mo_check_85 : decode prog_10_method_48_code 85 = .ok (.iinc 3 1, 3) := by decide +kernel
theorem d_Mo_check_88 : decode prog_10_method_48_code 88 = .ok (.goto (-50), 3) := by decide +kernel
theorem d_Mo_check_91 : decode prog_10_method_48_code 91 = .ok (.iload_n 1, 1) := by decide +kernel
theorem d_Mo_check_92 : decode prog_10_method_48_code 92 = .ok (.istore_n 3, 1) := by decide +kernel
theorem d_Mo_check_93 : decode prog_10_method_48_code 93 = .ok (.iconst 1, 1) := by decide +kernel
theorem d_Mo_check_94 : decode prog_10_method_48_code 94 = .ok (.istore 4, 2) := by decide +kernel
theorem d_Mo_check_96 : decode prog_10_method_48_code 96 = .ok (.iload 4, 2) := by decide +kernel
theorem d_Mo_check_98 : decode prog_10_method_48_code 98 = .ok (.bipush 6, 2) := by decide +kernel
theorem d_Mo_check_100 : decode prog_10_method_48_code 100 = .ok (.if_icmp .ge 80, 3) := by decide +kernel
theorem d_Mo_check_103 : decode prog_10_method_48_code 103 = .ok (.iload 4, 2) := by decide +kernel
theorem d_Mo_check_105 : decode prog_10_method_48_code 105 = .ok (.iconst 2, 1) := by decide +kernel
theorem d_Mo_check_106 : decode prog_10_method_48_code 106 = .ok (.if_icmp .eq 9, 3) := by decide +kernel
theorem d_Mo_check_109 : decode prog_10_method_48_code 109 = .ok (.iload 4, 2) := by decide +kernel
theorem d_Mo_check_111 : decode prog_10_method_48_code 111 = .ok (.iconst 3, 1) := by decide +kernel
theorem d_Mo_check_112 : decode prog_10_method_48_code 112 = .ok (.if_icmp .ne 10, 3) := by decide +kernel
theorem d_Mo_check_115 : decode prog_10_method_48_code 115 = .ok (.aload_n 0, 1) := by decide +kernel
theorem d_Mo_check_116 : decode prog_10_method_48_code 116 = .ok (.getfield 289, 3) := by decide +kernel
theorem d_Mo_check_119 : decode prog_10_method_48_code 119 = .ok (.goto 7, 3) := by decide +kernel
theorem d_Mo_check_122 : decode prog_10_method_48_code 122 = .ok (.aload_n 0, 1) := by decide +kernel
theorem d_Mo_check_123 : decode prog_10_method_48_code 123 = .ok (.getfield 295, 3) := by decide +kernel
theorem d_Mo_check_126 : decode prog_10_method_48_code 126 = .ok (.istore 5, 2) := by decide +kernel
theorem d_Mo_check_128 : decode prog_10_method_48_code 128 = .ok (.iconst 0, 1) := by decide +kernel
theorem d_Mo_check_129 : decode prog_10_method_48_code 129 = .ok (.istore 6, 2) := by decide +kernel
theorem d_Mo_check_131 : decode prog_10_method_48_code 131 = .ok (.iload 6, 2) := by decide +kernel
theorem d_Mo_check_133 : decode prog_10_method_48_code 133 = .ok (.iload 5, 2) := by decide +kernel
theorem d_Mo_check_135 : decode prog_10_method_48_code 135 = .ok (.if_icmp .ge 39, 3) := by decide +kernel
theorem d_Mo_check_138 : decode prog_10_method_48_code 138 = .ok (.aload_n 0, 1) := by decide +kernel
theorem d_Mo_check_139 : decode prog_10_method_48_code 139 = .ok (.iload 4, 2) := by decide +kernel
theorem d_Mo_check_141 : decode prog_10_method_48_code 141 = .ok (.iload 6, 2) := by decide +kernel
theorem d_Mo_check_143 : decode prog_10_method_48_code 143 = .ok (.invokevirtual 322, 3) := by decide +kernel
theorem d_Mo_check_146 : decode prog_10_method_48_code 146 = .ok (.ifCond .eq 22, 3) := by decide +kernel
theorem d_Mo_check_149 : decode prog_10_method_48_code 149 = .ok (.iload_n 3, 1) := by decide +kernel
theorem d_Mo_check_150 : decode prog_10_method_48_code 150 = .ok (.ifCond .ne 15, 3) := by decide +kernel
theorem d_Mo_check_153 : decode prog_10_method_48_code 153 = .ok (.iload_n 2, 1) := by decide +kernel
theorem d_Mo_check_154 : decode prog_10_method_48_code 154 = .ok (.ifCond .ne 8, 3) := by decide +kernel
theorem d_Mo_check_157 : decode prog_10_method_48_code 157 = .ok (.iload 4, 2) := by decide +kernel
theorem d_Mo_check_159 : decode prog_10_method_48_code 159 = .ok (.goto 5, 3) := by decide +kernel
theorem d_Mo_check_162 : decode prog_10_method_48_code 162 = .ok (.iload 6, 2) := by decide +kernel
theorem d_Mo_check_164 : decode prog_10_method_48_code 164 = .ok (.ireturn, 1) := by decide +kernel
theorem d_Mo_check_165 : decode prog_10_method_48_code 165 = .ok (.iinc 3 (-1), 3) := by decide +kernel
theorem d_Mo_check_168 : decode prog_10_method_48_code 168 = .ok (.iinc 6 1, 3) := by decide +kernel
theorem d_Mo_check_171 : decode prog_10_method_48_code 171 = .ok (.goto (-40), 3) := by decide +kernel
theorem d_Mo_check_174 : decode prog_10_method_48_code 174 = .ok (.iinc 4 1, 3) := by decide +kernel
theorem d_Mo_check_177 : decode prog_10_method_48_code 177 = .ok (.goto (-81), 3) := by decide +kernel
theorem d_Mo_check_180 : decode prog_10_method_48_code 180 = .ok (.iconst (-1), 1) := by decide +kernel
theorem d_Mo_check_181 : decode prog_10_method_48_code 181 = .ok (.ireturn, 1) := by decide +kernel
def wp_Mo_check_L17 (d : Nat) (K : T_Mo → Int32 → Int32 → Int32 → Prop) (post : Int32 → T_Mo → Prop) : Nat → T_Mo → Int32 → Int32 → Int32 → Prop
  | 0, _, _, _, _ => False
  | n9 + 1, z_this, x1, x2, x3 => ((100 : Int32) ≤ x3 → (K z_this x1 x2 x3)) ∧ (¬ (100 : Int32) ≤ x3 → (vp_in x3 100 ∧ (wp_Mo_check_L17 d K post n9 (((((z_this.1.1.1.1.1, z_this.1.1.1.1.2), (z_this.1.1.1.2.1, (z_this.1.1.1.2.2.1, z_this.1.1.1.2.2.2))), ((z_this.1.1.2.1.1, z_this.1.1.2.1.2), (z_this.1.1.2.2.1, (z_this.1.1.2.2.2.1, z_this.1.1.2.2.2.2)))), (((z_this.1.2.1.1.1, z_this.1.2.1.1.2), (z_this.1.2.1.2.1, (z_this.1.2.1.2.2.1, z_this.1.2.1.2.2.2))), ((z_this.1.2.2.1.1, (z_this.1.2.2.1.2.1, z_this.1.2.2.1.2.2)), (z_this.1.2.2.2.1, (z_this.1.2.2.2.2.1, z_this.1.2.2.2.2.2))))), ((((z_this.2.1.1.1.1, z_this.2.1.1.1.2), (z_this.2.1.1.2.1, (z_this.2.1.1.2.2.1, z_this.2.1.1.2.2.2))), ((z_this.2.1.2.1.1, z_this.2.1.2.1.2), (z_this.2.1.2.2.1, (z_this.2.1.2.2.2.1, z_this.2.1.2.2.2.2)))), (((z_this.2.2.1.1.1, z_this.2.2.1.1.2), (z_this.2.2.1.2.1, (z_this.2.2.1.2.2.1, z_this.2.2.1.2.2.2))), ((z_this.2.2.2.1.1, ((upd z_this.2.2.2.1.2.1 (x3).toNatClampNeg (vp_nar .boolean (0 : Int32))), z_this.2.2.2.1.2.2)), (z_this.2.2.2.2.1, (z_this.2.2.2.2.2.1, z_this.2.2.2.2.2.2)))))) x1 x2 (x3 + (1 : Int32)))))
def wp_Mo_check_L38 (d : Nat) (K : T_Mo → Int32 → Int32 → Int32 → Prop) (post : Int32 → T_Mo → Prop) : Nat → T_Mo → Int32 → Int32 → Int32 → Prop
  | 0, _, _, _, _ => False
  | n9 + 1, z_this, x1, x2, x3 => (z_this.2.2.1.1.1 ≤ x3 → (K z_this x1 x2 x3)) ∧ (¬ z_this.2.2.1.1.1 ≤ x3 → (vp_in (((1000 : Int32) * z_this.1.2.1.2.1) + x3) 2000 ∧ (wp_Mo_node1 z_this (z_this.2.1.1.1.2 ((((1000 : Int32) * z_this.1.2.1.2.1) + x3)).toNatClampNeg) (fun (r1 : Int32) (u1 : Unit) => vp_in r1 2000 ∧ (((z_this.1.2.1.2.2.2 (r1).toNatClampNeg) = (24 : Int32) → (wp_Mo_check_L38 d K post n9 z_this x1 x2 (x3 + (1 : Int32)))) ∧ (¬ (z_this.1.2.1.2.2.2 (r1).toNatClampNeg) = (24 : Int32) → (wp_Mo_reach d z_this (z_this.2.1.1.1.2 ((((1000 : Int32) * z_this.1.2.1.2.1) + x3)).toNatClampNeg) (fun (r2 : Unit) (u2 : T_Mo) => wp_Mo_check_L38 d K post n9 u2 x1 x2 (x3 + (1 : Int32))))))))))
def wp_Mo_check_L131 (d : Nat) (K : T_Mo → Int32 → Int32 → Int32 → Int32 → Int32 → Int32 → Prop) (post : Int32 → T_Mo → Prop) : Nat → T_Mo → Int32 → Int32 → Int32 → Int32 → Int32 → Int32 → Prop
  | 0, _, _, _, _, _, _, _ => False
  | n9 + 1, z_this, x1, x2, x3, x4, x5, x6 => (x5 ≤ x6 → (K z_this x1 x2 x3 x4 x5 x6)) ∧ (¬ x5 ≤ x6 → (wp_Mo_isRemark z_this x4 x6 (fun (r3 : Int32) (u3 : Unit) => (r3 = 0 → (wp_Mo_check_L131 d K post n9 z_this x1 x2 x3 x4 x5 (x6 + (1 : Int32)))) ∧ (¬ r3 = 0 → ((x3 = 0 → ((x2 = 0 → (post x4 z_this)) ∧ (¬ x2 = 0 → (post x6 z_this)))) ∧ (¬ x3 = 0 → (wp_Mo_check_L131 d K post n9 z_this x1 x2 (x3 + (-1 : Int32)) x4 x5 (x6 + (1 : Int32)))))))))
def wp_Mo_check_L96 (d : Nat) (K : T_Mo → Int32 → Int32 → Int32 → Int32 → Prop) (post : Int32 → T_Mo → Prop) : Nat → T_Mo → Int32 → Int32 → Int32 → Int32 → Prop
  | 0, _, _, _, _, _ => False
  | n9 + 1, z_this, x1, x2, x3, x4 => ((6 : Int32) ≤ x4 → (K z_this x1 x2 x3 x4)) ∧ (¬ (6 : Int32) ≤ x4 → ((x4 = (2 : Int32) → (∃ k9 : Nat, wp_Mo_check_L131 d (fun (z_this : T_Mo) (x1 : Int32) (x2 : Int32) (x3 : Int32) (x4 : Int32) (x5 : Int32) (x6 : Int32) => wp_Mo_check_L96 d K post n9 z_this x1 x2 x3 (x4 + (1 : Int32))) post k9 z_this x1 x2 x3 x4 z_this.2.1.2.2.2.2 (0 : Int32))) ∧ (¬ x4 = (2 : Int32) → ((x4 = (3 : Int32) → (∃ k9 : Nat, wp_Mo_check_L131 d (fun (z_this : T_Mo) (x1 : Int32) (x2 : Int32) (x3 : Int32) (x4 : Int32) (x5 : Int32) (x6 : Int32) => wp_Mo_check_L96 d K post n9 z_this x1 x2 x3 (x4 + (1 : Int32))) post k9 z_this x1 x2 x3 x4 z_this.2.1.2.2.2.2 (0 : Int32))) ∧ (¬ x4 = (3 : Int32) → (∃ k9 : Nat, wp_Mo_check_L131 d (fun (z_this : T_Mo) (x1 : Int32) (x2 : Int32) (x3 : Int32) (x4 : Int32) (x5 : Int32) (x6 : Int32) => wp_Mo_check_L96 d K post n9 z_this x1 x2 x3 (x4 + (1 : Int32))) post k9 z_this x1 x2 x3 x4 z_this.2.2.1.1.2 (0 : Int32)))))))
def wp_Mo_check (d : Nat) (z_this : T_Mo) (a1 : Int32) (a2 : Int32) (post : Int32 → T_Mo → Prop) : Prop := (a1 < 0 → (post (-1 : Int32) z_this)) ∧ (¬ a1 < 0 → ((a2 < 0 → (post (-1 : Int32) z_this)) ∧ (¬ a2 < 0 → ((a2 ≤ (1 : Int32) → (∃ k9 : Nat, wp_Mo_check_L17 d (fun (z_this : T_Mo) (x1 : Int32) (x2 : Int32) (x3 : Int32) => ∃ k9 : Nat, wp_Mo_check_L38 d (fun (z_this : T_Mo) (x1 : Int32) (x2 : Int32) (x3 : Int32) => ∃ k9 : Nat, wp_Mo_check_L96 d (fun (z_this : T_Mo) (x1 : Int32) (x2 : Int32) (x3 : Int32) (x4 : Int32) => post (-1 : Int32) z_this) post k9 z_this x1 x2 x1 (1 : Int32)) post k9 z_this x1 x2 (0 : Int32)) post k9 z_this a1 a2 (0 : Int32))) ∧ (¬ a2 ≤ (1 : Int32) → (post (-1 : Int32) z_this))))))
def rm_Mo_check (d : Nat) : Room := { frames := fFb d + 4, cells := 0, slots := 0, locals := fLb d + 91 }
set_option maxHeartbeats 4000000 in
set_option maxRecDepth 100000 in
theorem t_Mo_check_L17 {p : Program} {l : Launch} {o : State × Array Value} {e : Env} {s : State} {m : MethodId} {args : Array Value} {below : List Frame} {meth : Method} {c : Code} {D : va_G} {k : Nat → ClassId} {w0 : va_W} {A : Nat → Prop} {ad_this : Nat → Nat} {post : Int32 → T_Mo → Prop} {d : Nat} (hAt : xq_At p s m args meth c prog_10_method_48_code 7 (some (.int)) y_Mo_check xq_W) (hK : va_K D vwCl (xt k) s) (hJ : xq_J l o A s s.heap) (hAe : va_A w0 s.heap.size = A) (hA : ∀ q, s.heap.size ≤ q → A q) {K : T_Mo → Int32 → Int32 → Int32 → Prop} (hX : ∀ (z_this : T_Mo) (x1 : Int32) (x2 : Int32) (x3 : Int32) (H : Heap) (locs : List Loc) (ls : Array Slot), lv_has ls 7 [(0, .ref (ad_this 0)), (1, .int x1), (2, .int x2), (3, .int x3)] → va_P D vwCl (w_Mo k ad_this z_this) H → va_D A (w_Mo k ad_this z_this) → va_S A s.heap H locs → K z_this x1 x2 x3 → W p l e (rm_Mo_check d) s m args below meth c H locs 0 0 (xq_Z below D vwCl (xt k) w0 (fun r : Int32 => some (.int r)) post (fun _ : T_Mo => False) (fun u : T_Mo => w_Mo k ad_this u) 0 0 0 0 s) (F0 m 36 ls [])) :
    ∀ (n9 : Nat) (z_this : T_Mo) (x1 : Int32) (x2 : Int32) (x3 : Int32) (H : Heap) (locs : List Loc) (ls : Array Slot), lv_has ls 7 [(0, .ref (ad_this 0)), (1, .int x1), (2, .int x2), (3, .int x3)] → va_P D vwCl (w_Mo k ad_this z_this) H → va_D A (w_Mo k ad_this z_this) → va_S A s.heap H locs → wp_Mo_check_L17 d K post n9 z_this x1 x2 x3 → W p l e (rm_Mo_check d) s m args below meth c H locs 0 0 (xq_Z below D vwCl (xt k) w0 (fun r : Int32 => some (.int r)) post (fun _ : T_Mo => False) (fun u : T_Mo => w_Mo k ad_this u) 0 0 0 0 s) (F0 m 17 ls []) := by
  obtain ⟨hx, hb, hml, hr, hlocks, hown, hts, hex, hnm⟩ := id hAt
  intro n9
  induction n9 with
  | zero => intro z_this x1 x2 x3 H locs ls hl hP hD hS hw; exact False.elim (by rw [wp_Mo_check_L17] at hw; exact hw)
  | succ n9 ih =>
    intro z_this x1 x2 x3 H locs ls hl hP hD hS hw
    rw [wp_Mo_check_L17] at hw
    refine lv_iload_n hx hb d_Mo_check_17 rfl (lv_at hl 3 rfl) ?_
    refine lv_bipush (v := (100 : Int32)) hx hb d_Mo_check_18 (by decide) ?_
    refine lv_icmp_ge (tgt := 36) hx hb d_Mo_check_20 (by decide) (fun hc => ?_) (fun hc => ?_)
    · have hw := hw.1 hc
      exact hX z_this x1 x2 x3 H locs ls (lv_sub hl [0, 1, 2, 3] rfl) hP hD hS hw
    · have hw := hw.2 hc
      refine lv_aload_n hx hb d_Mo_check_23 rfl (lv_at hl 0 rfl) ?_
      refine va_get (D := D) (ci := 8) (v := .ref (ad_this 17)) (C := R_Mo) (T := F_Mo) (N := 42) hx hb hts in_Mo hown hK hP 0 rfl rfl 37 (by decide) (hts (.fieldLink R_Mo 61 R_Mo "marks" "[Z") kw4_180) (fun _ h9 => h9) rfl d_Mo_check_24 ?_
      refine lv_iload_n hx hb d_Mo_check_27 rfl (lv_at hl 3 rfl) ?_
      refine lv_iconst (v := (0 : Int32)) hx hb d_Mo_check_28 (by decide) ?_
      refine va_zast hx hb hK hP hD hS 17 3 rfl rfl hw.1 d_Mo_check_29 (fun H locs hP hD hS => ?_)
      have hw := hw.2
      have hP : va_P D vwCl (w_Mo k ad_this (((((z_this.1.1.1.1.1, z_this.1.1.1.1.2), (z_this.1.1.1.2.1, (z_this.1.1.1.2.2.1, z_this.1.1.1.2.2.2))), ((z_this.1.1.2.1.1, z_this.1.1.2.1.2), (z_this.1.1.2.2.1, (z_this.1.1.2.2.2.1, z_this.1.1.2.2.2.2)))), (((z_this.1.2.1.1.1, z_this.1.2.1.1.2), (z_this.1.2.1.2.1, (z_this.1.2.1.2.2.1, z_this.1.2.1.2.2.2))), ((z_this.1.2.2.1.1, (z_this.1.2.2.1.2.1, z_this.1.2.2.1.2.2)), (z_this.1.2.2.2.1, (z_this.1.2.2.2.2.1, z_this.1.2.2.2.2.2))))), ((((z_this.2.1.1.1.1, z_this.2.1.1.1.2), (z_this.2.1.1.2.1, (z_this.2.1.1.2.2.1, z_this.2.1.1.2.2.2))), ((z_this.2.1.2.1.1, z_this.2.1.2.1.2), (z_this.2.1.2.2.1, (z_this.2.1.2.2.2.1, z_this.2.1.2.2.2.2)))), (((z_this.2.2.1.1.1, z_this.2.2.1.1.2), (z_this.2.2.1.2.1, (z_this.2.2.1.2.2.1, z_this.2.2.1.2.2.2))), ((z_this.2.2.2.1.1, ((upd z_this.2.2.2.1.2.1 (x3).toNatClampNeg (vp_nar .boolean (0 : Int32))), z_this.2.2.2.1.2.2)), (z_this.2.2.2.2.1, (z_this.2.2.2.2.2.1, z_this.2.2.2.2.2.2))))))) H := hP
      have hD : va_D A (w_Mo k ad_this (((((z_this.1.1.1.1.1, z_this.1.1.1.1.2), (z_this.1.1.1.2.1, (z_this.1.1.1.2.2.1, z_this.1.1.1.2.2.2))), ((z_this.1.1.2.1.1, z_this.1.1.2.1.2), (z_this.1.1.2.2.1, (z_this.1.1.2.2.2.1, z_this.1.1.2.2.2.2)))), (((z_this.1.2.1.1.1, z_this.1.2.1.1.2), (z_this.1.2.1.2.1, (z_this.1.2.1.2.2.1, z_this.1.2.1.2.2.2))), ((z_this.1.2.2.1.1, (z_this.1.2.2.1.2.1, z_this.1.2.2.1.2.2)), (z_this.1.2.2.2.1, (z_this.1.2.2.2.2.1, z_this.1.2.2.2.2.2))))), ((((z_this.2.1.1.1.1, z_this.2.1.1.1.2), (z_this.2.1.1.2.1, (z_this.2.1.1.2.2.1, z_this.2.1.1.2.2.2))), ((z_this.2.1.2.1.1, z_this.2.1.2.1.2), (z_this.2.1.2.2.1, (z_this.2.1.2.2.2.1, z_this.2.1.2.2.2.2)))), (((z_this.2.2.1.1.1, z_this.2.2.1.1.2), (z_this.2.2.1.2.1, (z_this.2.2.1.2.2.1, z_this.2.2.1.2.2.2))), ((z_this.2.2.2.1.1, ((upd z_this.2.2.2.1.2.1 (x3).toNatClampNeg (vp_nar .boolean (0 : Int32))), z_this.2.2.2.1.2.2)), (z_this.2.2.2.2.1, (z_this.2.2.2.2.2.1, z_this.2.2.2.2.2.2))))))) := hD
      refine lv_iinc (v := (x3 + (1 : Int32))) (lv' := [(3, .int (x3 + (1 : Int32))), (0, .ref (ad_this 0)), (1, .int x1), (2, .int x2)]) hx hb d_Mo_check_30 hl (k := 3) rfl rfl (by decide) rfl (fun ls hl => ?_)
      refine lv_goto (tgt := 17) hx hb d_Mo_check_33 (by decide) ?_
      exact ih (((((z_this.1.1.1.1.1, z_this.1.1.1.1.2), (z_this.1.1.1.2.1, (z_this.1.1.1.2.2.1, z_this.1.1.1.2.2.2))), ((z_this.1.1.2.1.1, z_this.1.1.2.1.2), (z_this.1.1.2.2.1, (z_this.1.1.2.2.2.1, z_this.1.1.2.2.2.2)))), (((z_this.1.2.1.1.1, z_this.1.2.1.1.2), (z_this.1.2.1.2.1, (z_this.1.2.1.2.2.1, z_this.1.2.1.2.2.2))), ((z_this.1.2.2.1.1, (z_this.1.2.2.1.2.1, z_this.1.2.2.1.2.2)), (z_this.1.2.2.2.1, (z_this.1.2.2.2.2.1, z_this.1.2.2.2.2.2))))), ((((z_this.2.1.1.1.1, z_this.2.1.1.1.2), (z_this.2.1.1.2.1, (z_this.2.1.1.2.2.1, z_this.2.1.1.2.2.2))), ((z_this.2.1.2.1.1, z_this.2.1.2.1.2), (z_this.2.1.2.2.1, (z_this.2.1.2.2.2.1, z_this.2.1.2.2.2.2)))), (((z_this.2.2.1.1.1, z_this.2.2.1.1.2), (z_this.2.2.1.2.1, (z_this.2.2.1.2.2.1, z_this.2.2.1.2.2.2))), ((z_this.2.2.2.1.1, ((upd z_this.2.2.2.1.2.1 (x3).toNatClampNeg (vp_nar .boolean (0 : Int32))), z_this.2.2.2.1.2.2)), (z_this.2.2.2.2.1, (z_this.2.2.2.2.2.1, z_this.2.2.2.2.2.2)))))) x1 x2 (x3 + (1 : Int32)) H locs ls (lv_sub hl [1, 2, 3, 0] rfl) hP hD hS hw
set_option maxHeartbeats 4000000 in
set_option maxRecDepth 100000 in
theorem t_Mo_check_L38 {p : Program} {l : Launch} {o : State × Array Value} {e : Env} {s : State} {m : MethodId} {args : Array Value} {below : List Frame} {meth : Method} {c : Code} {D : va_G} {k : Nat → ClassId} {w0 : va_W} {A : Nat → Prop} {ad_this : Nat → Nat} {post : Int32 → T_Mo → Prop} {d : Nat} (hAt : xq_At p s m args meth c prog_10_method_48_code 7 (some (.int)) y_Mo_check xq_W) (hK : va_K D vwCl (xt k) s) (hJ : xq_J l o A s s.heap) (hAe : va_A w0 s.heap.size = A) (hA : ∀ q, s.heap.size ≤ q → A q) {K : T_Mo → Int32 → Int32 → Int32 → Prop} (hX : ∀ (z_this : T_Mo) (x1 : Int32) (x2 : Int32) (x3 : Int32) (H : Heap) (locs : List Loc) (ls : Array Slot), lv_has ls 7 [(0, .ref (ad_this 0)), (1, .int x1), (2, .int x2), (3, .int x3)] → va_P D vwCl (w_Mo k ad_this z_this) H → va_D A (w_Mo k ad_this z_this) → va_S A s.heap H locs → K z_this x1 x2 x3 → W p l e (rm_Mo_check d) s m args below meth c H locs 0 0 (xq_Z below D vwCl (xt k) w0 (fun r : Int32 => some (.int r)) post (fun _ : T_Mo => False) (fun u : T_Mo => w_Mo k ad_this u) 0 0 0 0 s) (F0 m 91 ls [])) :
    ∀ (n9 : Nat) (z_this : T_Mo) (x1 : Int32) (x2 : Int32) (x3 : Int32) (H : Heap) (locs : List Loc) (ls : Array Slot), lv_has ls 7 [(0, .ref (ad_this 0)), (1, .int x1), (2, .int x2), (3, .int x3)] → va_P D vwCl (w_Mo k ad_this z_this) H → va_D A (w_Mo k ad_this z_this) → va_S A s.heap H locs → wp_Mo_check_L38 d K post n9 z_this x1 x2 x3 → W p l e (rm_Mo_check d) s m args below meth c H locs 0 0 (xq_Z below D vwCl (xt k) w0 (fun r : Int32 => some (.int r)) post (fun _ : T_Mo => False) (fun u : T_Mo => w_Mo k ad_this u) 0 0 0 0 s) (F0 m 38 ls []) := by
  obtain ⟨hx, hb, hml, hr, hlocks, hown, hts, hex, hnm⟩ := id hAt
  intro n9
  induction n9 with
  | zero => intro z_this x1 x2 x3 H locs ls hl hP hD hS hw; exact False.elim (by rw [wp_Mo_check_L38] at hw; exact hw)
  | succ n9 ih =>
    intro z_this x1 x2 x3 H locs ls hl hP hD hS hw
    rw [wp_Mo_check_L38] at hw
    refine lv_iload_n hx hb d_Mo_check_38 rfl (lv_at hl 3 rfl) ?_
    refine lv_aload_n hx hb d_Mo_check_39 rfl (lv_at hl 0 rfl) ?_
    refine va_get (D := D) (ci := 8) (v := .int z_this.2.2.1.1.1) (C := R_Mo) (T := F_Mo) (N := 42) hx hb hts in_Mo hown hK hP 0 rfl rfl 31 (by decide) (hts (.fieldLink R_Mo 292 R_Mo "topCount" "I") kw4_174) (fun _ h9 => h9) rfl d_Mo_check_40 ?_
    refine lv_icmp_ge (tgt := 91) hx hb d_Mo_check_43 (by decide) (fun hc => ?_) (fun hc => ?_)
    · have hw := hw.1 hc
      exact hX z_this x1 x2 x3 H locs ls (lv_sub hl [0, 1, 2, 3] rfl) hP hD hS hw
    · have hw := hw.2 hc
      refine lv_aload_n hx hb d_Mo_check_46 rfl (lv_at hl 0 rfl) ?_
      refine va_get (D := D) (ci := 8) (v := .ref (ad_this 9)) (C := R_Mo) (T := F_Mo) (N := 42) hx hb hts in_Mo hown hK hP 0 rfl rfl 22 (by decide) (hts (.fieldLink R_Mo 36 R_Mo "tops" "[I") kw4_165) (fun _ h9 => h9) rfl d_Mo_check_47 ?_
      refine lv_sipush (v := (1000 : Int32)) hx hb d_Mo_check_50 (by decide) ?_
      refine lv_aload_n hx hb d_Mo_check_53 rfl (lv_at hl 0 rfl) ?_
      refine va_get (D := D) (ci := 8) (v := .int z_this.1.2.1.2.1) (C := R_Mo) (T := F_Mo) (N := 42) hx hb hts in_Mo hown hK hP 0 rfl rfl 12 (by decide) (hts (.fieldLink R_Mo 185 R_Mo "half" "I") kw4_155) (fun _ h9 => h9) rfl d_Mo_check_54 ?_
      refine lv_imul hx hb d_Mo_check_57 ?_
      refine lv_iload_n hx hb d_Mo_check_58 rfl (lv_at hl 3 rfl) ?_
      refine lv_iadd hx hb d_Mo_check_59 ?_
      refine va_iald hx hb hK hP 9 0 rfl rfl hw.1 d_Mo_check_60 ?_
      have hw := hw.2
      refine lv_istore (lv' := [(4, .int (z_this.2.1.1.1.2 ((((1000 : Int32) * z_this.1.2.1.2.1) + x3)).toNatClampNeg)), (0, .ref (ad_this 0)), (1, .int x1), (2, .int x2), (3, .int x3)]) hx hb d_Mo_check_61 hl (by decide) rfl (fun ls hl => ?_)
      refine lv_aload_n hx hb d_Mo_check_63 rfl (lv_at hl 1 rfl) ?_
      refine va_get (D := D) (ci := 8) (v := .ref (ad_this 2)) (C := R_Mo) (T := F_Mo) (N := 42) hx hb hts in_Mo hown hK hP 0 rfl rfl 14 (by decide) (hts (.fieldLink R_Mo 13 R_Mo "whats" "[I") kw4_157) (fun _ h9 => h9) rfl d_Mo_check_64 ?_
      refine lv_aload_n hx hb d_Mo_check_67 rfl (lv_at hl 1 rfl) ?_
      refine lv_iload hx hb d_Mo_check_68 (lv_at hl 0 rfl) ?_
      refine xq_go (wr := ([] : va_W)) (stk := fun r => .int r :: [.ref (ad_this 2)]) (xq_runV (As := [.int (z_this.2.1.1.1.2 ((((1000 : Int32) * z_this.1.2.1.2.1) + x3)).toNatClampNeg)]) (rest := [.ref (ad_this 2)]) ⟨hx, hb, hml, hown, hts⟩ (c_Mo_node1 (l := l) (o := o) (D := D) (k := k) (ad_this := ad_this) hw) (cw_Mo_node1 hts kw5_199 ⟨by simp only [rm_Mo_check, rm_Mo_node1]; omega, by simp only [rm_Mo_check, rm_Mo_node1]; omega⟩) (va_recv hK hP (ci := 8) (q0 := 0) rfl rfl) (hP.sub [0, 1, 2, 3, 4, 5, 6, 7, 8, 9, 10, 11, 12, 13, 14, 15, 16, 17] rfl) hK hJ hS (va_free hD hS hA [0, 1, 2, 3, 4, 5, 6, 7, 8, 9, 10, 11, 12, 13, 14, 15, 16, 17] rfl) ((hD.sub [0, 1, 2, 3, 4, 5, 6, 7, 8, 9, 10, 11, 12, 13, 14, 15, 16, 17] (by decide) rfl).weaken (fun _ _ _ _ => trivial)) rfl hl.1 (Nat.le_of_ble_eq_true rfl) d_Mo_check_70 ⟨Nat.le_of_ble_eq_true rfl, Nat.le_of_ble_eq_true rfl⟩) hP hD hS hA [0, 1, 2, 3, 4, 5, 6, 7, 8, 9, 10, 11, 12, 13, 14, 15, 16, 17] [] rfl rfl (by decide) (by decide) (fun _ => rfl) (fun r1 u1 H locs hw hP hD hS => ?_) (fun _ _ _ _ h9 => h9.elim)
      have hP : va_P D vwCl (w_Mo k ad_this z_this) H := hP.sub [0, 1, 2, 3, 4, 5, 6, 7, 8, 9, 10, 11, 12, 13, 14, 15, 16, 17] rfl
      have hD : va_D A (w_Mo k ad_this z_this) := hD.sub [0, 1, 2, 3, 4, 5, 6, 7, 8, 9, 10, 11, 12, 13, 14, 15, 16, 17] (by decide) rfl
      refine va_iald hx hb hK hP 2 0 rfl rfl hw.1 d_Mo_check_73 ?_
      have hw := hw.2
      refine lv_bipush (v := (24 : Int32)) hx hb d_Mo_check_74 (by decide) ?_
      refine lv_icmp_eq (tgt := 85) hx hb d_Mo_check_76 (by decide) (fun hc => ?_) (fun hc => ?_)
      · have hw := hw.1 hc
        refine lv_iinc (v := (x3 + (1 : Int32))) (lv' := [(3, .int (x3 + (1 : Int32))), (4, .int (z_this.2.1.1.1.2 ((((1000 : Int32) * z_this.1.2.1.2.1) + x3)).toNatClampNeg)), (0, .ref (ad_this 0)), (1, .int x1), (2, .int x2)]) hx hb d_Mo_check_85 hl (k := 4) rfl rfl (by decide) rfl (fun ls hl => ?_)
        refine lv_goto (tgt := 38) hx hb d_Mo_check_88 (by decide) ?_
        exact ih z_this x1 x2 (x3 + (1 : Int32)) H locs ls (lv_sub hl [2, 3, 4, 0] rfl) hP hD hS hw
      · have hw := hw.2 hc
        refine lv_aload_n hx hb d_Mo_check_79 rfl (lv_at hl 1 rfl) ?_
        refine lv_iload hx hb d_Mo_check_80 (lv_at hl 0 rfl) ?_
        refine xq_go (wr := ([] : va_W)) (stk := fun _ => []) (xq_runV (As := [.int (z_this.2.1.1.1.2 ((((1000 : Int32) * z_this.1.2.1.2.1) + x3)).toNatClampNeg)]) (rest := []) ⟨hx, hb, hml, hown, hts⟩ (c_Mo_reach d (l := l) (o := o) (D := D) (k := k) (ad_this := ad_this) hw) (cw_Mo_reach hts kw5_236 ⟨by simp only [rm_Mo_check]; omega, by simp only [rm_Mo_check]; omega⟩) (va_recv hK hP (ci := 8) (q0 := 0) rfl rfl) (hP.sub [0, 1, 2, 3, 4, 5, 6, 7, 8, 9, 10, 11, 12, 13, 14, 15, 16, 17] rfl) hK hJ hS (va_free hD hS hA [0, 1, 2, 3, 4, 5, 6, 7, 8, 9, 10, 11, 12, 13, 14, 15, 16, 17] rfl) ((hD.sub [0, 1, 2, 3, 4, 5, 6, 7, 8, 9, 10, 11, 12, 13, 14, 15, 16, 17] (by decide) rfl).weaken (fun _ _ _ _ => trivial)) rfl hl.1 (Nat.le_of_ble_eq_true rfl) d_Mo_check_82 ⟨Nat.le_of_ble_eq_true rfl, Nat.le_of_ble_eq_true rfl⟩) hP hD hS hA [0, 1, 2, 3, 4, 5, 6, 7, 8, 9, 10, 11, 12, 13, 14, 15, 16, 17] [] rfl rfl (by decide) (by decide) (fun _ => rfl) (fun r2 u2 H locs hw hP hD hS => ?_) (fun _ _ _ _ h9 => h9.elim)
        have hP : va_P D vwCl (w_Mo k ad_this u2) H := hP.sub [0, 1, 2, 3, 4, 5, 6, 7, 8, 9, 10, 11, 12, 13, 14, 15, 16, 17] rfl
        have hD : va_D A (w_Mo k ad_this u2) := hD.sub [0, 1, 2, 3, 4, 5, 6, 7, 8, 9, 10, 11, 12, 13, 14, 15, 16, 17] (by decide) rfl
        refine lv_iinc (v := (x3 + (1 : Int32))) (lv' := [(3, .int (x3 + (1 : Int32))), (4, .int (z_this.2.1.1.1.2 ((((1000 : Int32) * z_this.1.2.1.2.1) + x3)).toNatClampNeg)), (0, .ref (ad_this 0)), (1, .int x1), (2, .int x2)]) hx hb d_Mo_check_85 hl (k := 4) rfl rfl (by decide) rfl (fun ls hl => ?_)
        refine lv_goto (tgt := 38) hx hb d_Mo_check_88 (by decide) ?_
        exact ih u2 x1 x2 (x3 + (1 : Int32)) H locs ls (lv_sub hl [2, 3, 4, 0] rfl) hP hD hS hw
set_option maxHeartbeats 4000000 in
set_option maxRecDepth 100000 in
theorem t_Mo_check_L131 {p : Program} {l : Launch} {o : State × Array Value} {e : Env} {s : State} {m : MethodId} {args : Array Value} {below : List Frame} {meth : Method} {c : Code} {D : va_G} {k : Nat → ClassId} {w0 : va_W} {A : Nat → Prop} {ad_this : Nat → Nat} {post : Int32 → T_Mo → Prop} {d : Nat} (hAt : xq_At p s m args meth c prog_10_method_48_code 7 (some (.int)) y_Mo_check xq_W) (hK : va_K D vwCl (xt k) s) (hJ : xq_J l o A s s.heap) (hAe : va_A w0 s.heap.size = A) (hA : ∀ q, s.heap.size ≤ q → A q) {K : T_Mo → Int32 → Int32 → Int32 → Int32 → Int32 → Int32 → Prop} (hX : ∀ (z_this : T_Mo) (x1 : Int32) (x2 : Int32) (x3 : Int32) (x4 : Int32) (x5 : Int32) (x6 : Int32) (H : Heap) (locs : List Loc) (ls : Array Slot), lv_has ls 7 [(0, .ref (ad_this 0)), (1, .int x1), (2, .int x2), (3, .int x3), (4, .int x4), (5, .int x5), (6, .int x6)] → va_P D vwCl (w_Mo k ad_this z_this) H → va_D A (w_Mo k ad_this z_this) → va_S A s.heap H locs → K z_this x1 x2 x3 x4 x5 x6 → W p l e (rm_Mo_check d) s m args below meth c H locs 0 0 (xq_Z below D vwCl (xt k) w0 (fun r : Int32 => some (.int r)) post (fun _ : T_Mo => False) (fun u : T_Mo => w_Mo k ad_this u) 0 0 0 0 s) (F0 m 174 ls [])) :
    ∀ (n9 : Nat) (z_this : T_Mo) (x1 : Int32) (x2 : Int32) (x3 : Int32) (x4 : Int32) (x5 : Int32) (x6 : Int32) (H : Heap) (locs : List Loc) (ls : Array Slot), lv_has ls 7 [(0, .ref (ad_this 0)), (1, .int x1), (2, .int x2), (3, .int x3), (4, .int x4), (5, .int x5), (6, .int x6)] → va_P D vwCl (w_Mo k ad_this z_this) H → va_D A (w_Mo k ad_this z_this) → va_S A s.heap H locs → wp_Mo_check_L131 d K post n9 z_this x1 x2 x3 x4 x5 x6 → W p l e (rm_Mo_check d) s m args below meth c H locs 0 0 (xq_Z below D vwCl (xt k) w0 (fun r : Int32 => some (.int r)) post (fun _ : T_Mo => False) (fun u : T_Mo => w_Mo k ad_this u) 0 0 0 0 s) (F0 m 131 ls []) := by
  obtain ⟨hx, hb, hml, hr, hlocks, hown, hts, hex, hnm⟩ := id hAt
  intro n9
  induction n9 with
  | zero => intro z_this x1 x2 x3 x4 x5 x6 H locs ls hl hP hD hS hw; exact False.elim (by rw [wp_Mo_check_L131] at hw; exact hw)
  | succ n9 ih =>
    intro z_this x1 x2 x3 x4 x5 x6 H locs ls hl hP hD hS hw
    rw [wp_Mo_check_L131] at hw
    refine lv_iload hx hb d_Mo_check_131 (lv_at hl 6 rfl) ?_
    refine lv_iload hx hb d_Mo_check_133 (lv_at hl 5 rfl) ?_
    refine lv_icmp_ge (tgt := 174) hx hb d_Mo_check_135 (by decide) (fun hc => ?_) (fun hc => ?_)
    · have hw := hw.1 hc
      exact hX z_this x1 x2 x3 x4 x5 x6 H locs ls (lv_sub hl [0, 1, 2, 3, 4, 5, 6] rfl) hP hD hS hw
    · have hw := hw.2 hc
      refine lv_aload_n hx hb d_Mo_check_138 rfl (lv_at hl 0 rfl) ?_
      refine lv_iload hx hb d_Mo_check_139 (lv_at hl 4 rfl) ?_
      refine lv_iload hx hb d_Mo_check_141 (lv_at hl 6 rfl) ?_
      refine xq_go (wr := ([] : va_W)) (stk := fun r => .int r :: []) (xq_runV (As := [.int x4, .int x6]) (rest := []) ⟨hx, hb, hml, hown, hts⟩ (c_Mo_isRemark (l := l) (o := o) (D := D) (k := k) (ad_this := ad_this) hw) (cw_Mo_isRemark hts kw6_0 ⟨by simp only [rm_Mo_check, rm_Mo_isRemark]; omega, by simp only [rm_Mo_check, rm_Mo_isRemark]; omega⟩) (va_recv hK hP (ci := 8) (q0 := 0) rfl rfl) (hP.sub [0, 1, 2, 3, 4, 5, 6, 7, 8, 9, 10, 11, 12, 13, 14, 15, 16, 17] rfl) hK hJ hS (va_free hD hS hA [0, 1, 2, 3, 4, 5, 6, 7, 8, 9, 10, 11, 12, 13, 14, 15, 16, 17] rfl) ((hD.sub [0, 1, 2, 3, 4, 5, 6, 7, 8, 9, 10, 11, 12, 13, 14, 15, 16, 17] (by decide) rfl).weaken (fun _ _ _ _ => trivial)) rfl hl.1 (Nat.le_of_ble_eq_true rfl) d_Mo_check_143 ⟨Nat.le_of_ble_eq_true rfl, Nat.le_of_ble_eq_true rfl⟩) hP hD hS hA [0, 1, 2, 3, 4, 5, 6, 7, 8, 9, 10, 11, 12, 13, 14, 15, 16, 17] [] rfl rfl (by decide) (by decide) (fun _ => rfl) (fun r3 u3 H locs hw hP hD hS => ?_) (fun _ _ _ _ h9 => h9.elim)
      have hP : va_P D vwCl (w_Mo k ad_this z_this) H := hP.sub [0, 1, 2, 3, 4, 5, 6, 7, 8, 9, 10, 11, 12, 13, 14, 15, 16, 17] rfl
      have hD : va_D A (w_Mo k ad_this z_this) := hD.sub [0, 1, 2, 3, 4, 5, 6, 7, 8, 9, 10, 11, 12, 13, 14, 15, 16, 17] (by decide) rfl
      refine lv_if_eq (tgt := 168) hx hb d_Mo_check_146 (by decide) (fun hc => ?_) (fun hc => ?_)
      · have hw := hw.1 hc
        refine lv_iinc (v := (x6 + (1 : Int32))) (lv' := [(6, .int (x6 + (1 : Int32))), (0, .ref (ad_this 0)), (1, .int x1), (2, .int x2), (3, .int x3), (4, .int x4), (5, .int x5)]) hx hb d_Mo_check_168 hl (k := 6) rfl rfl (by decide) rfl (fun ls hl => ?_)
        refine lv_goto (tgt := 131) hx hb d_Mo_check_171 (by decide) ?_
        exact ih z_this x1 x2 x3 x4 x5 (x6 + (1 : Int32)) H locs ls (lv_sub hl [1, 2, 3, 4, 5, 6, 0] rfl) hP hD hS hw
      · have hw := hw.2 hc
        refine lv_iload_n hx hb d_Mo_check_149 rfl (lv_at hl 3 rfl) ?_
        refine lv_if_ne (tgt := 165) hx hb d_Mo_check_150 (by decide) (fun hc => ?_) (fun hc => ?_)
        · have hw := hw.2 hc
          refine lv_iinc (v := (x3 + (-1 : Int32))) (lv' := [(3, .int (x3 + (-1 : Int32))), (0, .ref (ad_this 0)), (1, .int x1), (2, .int x2), (4, .int x4), (5, .int x5), (6, .int x6)]) hx hb d_Mo_check_165 hl (k := 3) rfl rfl (by decide) rfl (fun ls hl => ?_)
          refine lv_iinc (v := (x6 + (1 : Int32))) (lv' := [(6, .int (x6 + (1 : Int32))), (3, .int (x3 + (-1 : Int32))), (0, .ref (ad_this 0)), (1, .int x1), (2, .int x2), (4, .int x4), (5, .int x5)]) hx hb d_Mo_check_168 hl (k := 6) rfl rfl (by decide) rfl (fun ls hl => ?_)
          refine lv_goto (tgt := 131) hx hb d_Mo_check_171 (by decide) ?_
          exact ih z_this x1 x2 (x3 + (-1 : Int32)) x4 x5 (x6 + (1 : Int32)) H locs ls (lv_sub hl [2, 3, 4, 1, 5, 6, 0] rfl) hP hD hS hw
        · have hw := hw.1 hc
          refine lv_iload_n hx hb d_Mo_check_153 rfl (lv_at hl 2 rfl) ?_
          refine lv_if_ne (tgt := 162) hx hb d_Mo_check_154 (by decide) (fun hc => ?_) (fun hc => ?_)
          · have hw := hw.2 hc
            refine lv_iload hx hb d_Mo_check_162 (lv_at hl 6 rfl) ?_
            exact xq_iret (r := x6) (u := z_this) hx hb hr hlocks hAe hP hD hS rfl hw (Nat.le_of_ble_eq_true rfl) (Nat.le_of_ble_eq_true rfl) d_Mo_check_164
          · have hw := hw.1 hc
            refine lv_iload hx hb d_Mo_check_157 (lv_at hl 4 rfl) ?_
            refine lv_goto (tgt := 164) hx hb d_Mo_check_159 (by decide) ?_
            exact xq_iret (r := x4) (u := z_this) hx hb hr hlocks hAe hP hD hS rfl hw (Nat.le_of_ble_eq_true rfl) (Nat.le_of_ble_eq_true rfl) d_Mo_check_164
set_option maxHeartbeats 4000000 in
set_option maxRecDepth 100000 in
theorem t_Mo_check_L96 {p : Program} {l : Launch} {o : State × Array Value} {e : Env} {s : State} {m : MethodId} {args : Array Value} {below : List Frame} {meth : Method} {c : Code} {D : va_G} {k : Nat → ClassId} {w0 : va_W} {A : Nat → Prop} {ad_this : Nat → Nat} {post : Int32 → T_Mo → Prop} {d : Nat} (hAt : xq_At p s m args meth c prog_10_method_48_code 7 (some (.int)) y_Mo_check xq_W) (hK : va_K D vwCl (xt k) s) (hJ : xq_J l o A s s.heap) (hAe : va_A w0 s.heap.size = A) (hA : ∀ q, s.heap.size ≤ q → A q) {K : T_Mo → Int32 → Int32 → Int32 → Int32 → Prop} (hX : ∀ (z_this : T_Mo) (x1 : Int32) (x2 : Int32) (x3 : Int32) (x4 : Int32) (H : Heap) (locs : List Loc) (ls : Array Slot), lv_has ls 7 [(0, .ref (ad_this 0)), (1, .int x1), (2, .int x2), (3, .int x3), (4, .int x4)] → va_P D vwCl (w_Mo k ad_this z_this) H → va_D A (w_Mo k ad_this z_this) → va_S A s.heap H locs → K z_this x1 x2 x3 x4 → W p l e (rm_Mo_check d) s m args below meth c H locs 0 0 (xq_Z below D vwCl (xt k) w0 (fun r : Int32 => some (.int r)) post (fun _ : T_Mo => False) (fun u : T_Mo => w_Mo k ad_this u) 0 0 0 0 s) (F0 m 180 ls [])) :
    ∀ (n9 : Nat) (z_this : T_Mo) (x1 : Int32) (x2 : Int32) (x3 : Int32) (x4 : Int32) (H : Heap) (locs : List Loc) (ls : Array Slot), lv_has ls 7 [(0, .ref (ad_this 0)), (1, .int x1), (2, .int x2), (3, .int x3), (4, .int x4)] → va_P D vwCl (w_Mo k ad_this z_this) H → va_D A (w_Mo k ad_this z_this) → va_S A s.heap H locs → wp_Mo_check_L96 d K post n9 z_this x1 x2 x3 x4 → W p l e (rm_Mo_check d) s m args below meth c H locs 0 0 (xq_Z below D vwCl (xt k) w0 (fun r : Int32 => some (.int r)) post (fun _ : T_Mo => False) (fun u : T_Mo => w_Mo k ad_this u) 0 0 0 0 s) (F0 m 96 ls []) := by
  obtain ⟨hx, hb, hml, hr, hlocks, hown, hts, hex, hnm⟩ := id hAt
  intro n9
  induction n9 with
  | zero => intro z_this x1 x2 x3 x4 H locs ls hl hP hD hS hw; exact False.elim (by rw [wp_Mo_check_L96] at hw; exact hw)
  | succ n9 ih =>
    intro z_this x1 x2 x3 x4 H locs ls hl hP hD hS hw
    rw [wp_Mo_check_L96] at hw
    refine lv_iload hx hb d_Mo_check_96 (lv_at hl 4 rfl) ?_
    refine lv_bipush (v := (6 : Int32)) hx hb d_Mo_check_98 (by decide) ?_
    refine lv_icmp_ge (tgt := 180) hx hb d_Mo_check_100 (by decide) (fun hc => ?_) (fun hc => ?_)
    · have hw := hw.1 hc
      exact hX z_this x1 x2 x3 x4 H locs ls (lv_sub hl [0, 1, 2, 3, 4] rfl) hP hD hS hw
    · have hw := hw.2 hc
      refine lv_iload hx hb d_Mo_check_103 (lv_at hl 4 rfl) ?_
      refine lv_iconst (v := (2 : Int32)) hx hb d_Mo_check_105 (by decide) ?_
      refine lv_icmp_eq (tgt := 115) hx hb d_Mo_check_106 (by decide) (fun hc => ?_) (fun hc => ?_)
      · have hw := hw.1 hc
        refine lv_aload_n hx hb d_Mo_check_115 rfl (lv_at hl 0 rfl) ?_
        refine va_get (D := D) (ci := 8) (v := .int z_this.2.1.2.2.2.2) (C := R_Mo) (T := F_Mo) (N := 42) hx hb hts in_Mo hown hK hP 0 rfl rfl 30 (by decide) (hts (.fieldLink R_Mo 289 R_Mo "nodeCount" "I") kw4_173) (fun _ h9 => h9) rfl d_Mo_check_116 ?_
        refine lv_goto (tgt := 126) hx hb d_Mo_check_119 (by decide) ?_
        refine lv_istore (lv' := [(5, .int z_this.2.1.2.2.2.2), (0, .ref (ad_this 0)), (1, .int x1), (2, .int x2), (3, .int x3), (4, .int x4)]) hx hb d_Mo_check_126 hl (by decide) rfl (fun ls hl => ?_)
        refine lv_iconst (v := (0 : Int32)) hx hb d_Mo_check_128 (by decide) ?_
        refine lv_istore (lv' := [(6, .int (0 : Int32)), (5, .int z_this.2.1.2.2.2.2), (0, .ref (ad_this 0)), (1, .int x1), (2, .int x2), (3, .int x3), (4, .int x4)]) hx hb d_Mo_check_129 hl (by decide) rfl (fun ls hl => ?_)
        obtain ⟨k9, hw⟩ := hw
        refine t_Mo_check_L131 hAt hK hJ hAe hA ?_ k9 z_this x1 x2 x3 x4 z_this.2.1.2.2.2.2 (0 : Int32) H locs ls (lv_sub hl [2, 3, 4, 5, 6, 1, 0] rfl) hP hD hS hw
        intro z_this x1 x2 x3 x4 x5 x6 H locs ls hl hP hD hS hw
        refine lv_iinc (v := (x4 + (1 : Int32))) (lv' := [(4, .int (x4 + (1 : Int32))), (0, .ref (ad_this 0)), (1, .int x1), (2, .int x2), (3, .int x3), (5, .int x5), (6, .int x6)]) hx hb d_Mo_check_174 hl (k := 4) rfl rfl (by decide) rfl (fun ls hl => ?_)
        refine lv_goto (tgt := 96) hx hb d_Mo_check_177 (by decide) ?_
        exact ih z_this x1 x2 x3 (x4 + (1 : Int32)) H locs ls (lv_sub hl [1, 2, 3, 4, 0] rfl) hP hD hS hw
      · have hw := hw.2 hc
        refine lv_iload hx hb d_Mo_check_109 (lv_at hl 4 rfl) ?_
        refine lv_iconst (v := (3 : Int32)) hx hb d_Mo_check_111 (by decide) ?_
        refine lv_icmp_ne (tgt := 122) hx hb d_Mo_check_112 (by decide) (fun hc => ?_) (fun hc => ?_)
        · have hw := hw.2 hc
          refine lv_aload_n hx hb d_Mo_check_122 rfl (lv_at hl 0 rfl) ?_
          refine va_get (D := D) (ci := 8) (v := .int z_this.2.2.1.1.2) (C := R_Mo) (T := F_Mo) (N := 42) hx hb hts in_Mo hown hK hP 0 rfl rfl 32 (by decide) (hts (.fieldLink R_Mo 295 R_Mo "nameCount" "I") kw4_175) (fun _ h9 => h9) rfl d_Mo_check_123 ?_
          refine lv_istore (lv' := [(5, .int z_this.2.2.1.1.2), (0, .ref (ad_this 0)), (1, .int x1), (2, .int x2), (3, .int x3), (4, .int x4)]) hx hb d_Mo_check_126 hl (by decide) rfl (fun ls hl => ?_)
          refine lv_iconst (v := (0 : Int32)) hx hb d_Mo_check_128 (by decide) ?_
          refine lv_istore (lv' := [(6, .int (0 : Int32)), (5, .int z_this.2.2.1.1.2), (0, .ref (ad_this 0)), (1, .int x1), (2, .int x2), (3, .int x3), (4, .int x4)]) hx hb d_Mo_check_129 hl (by decide) rfl (fun ls hl => ?_)
          obtain ⟨k9, hw⟩ := hw
          refine t_Mo_check_L131 hAt hK hJ hAe hA ?_ k9 z_this x1 x2 x3 x4 z_this.2.2.1.1.2 (0 : Int32) H locs ls (lv_sub hl [2, 3, 4, 5, 6, 1, 0] rfl) hP hD hS hw
          intro z_this x1 x2 x3 x4 x5 x6 H locs ls hl hP hD hS hw
          refine lv_iinc (v := (x4 + (1 : Int32))) (lv' := [(4, .int (x4 + (1 : Int32))), (0, .ref (ad_this 0)), (1, .int x1), (2, .int x2), (3, .int x3), (5, .int x5), (6, .int x6)]) hx hb d_Mo_check_174 hl (k := 4) rfl rfl (by decide) rfl (fun ls hl => ?_)
          refine lv_goto (tgt := 96) hx hb d_Mo_check_177 (by decide) ?_
          exact ih z_this x1 x2 x3 (x4 + (1 : Int32)) H locs ls (lv_sub hl [1, 2, 3, 4, 0] rfl) hP hD hS hw
        · have hw := hw.1 hc
          refine lv_aload_n hx hb d_Mo_check_115 rfl (lv_at hl 0 rfl) ?_
          refine va_get (D := D) (ci := 8) (v := .int z_this.2.1.2.2.2.2) (C := R_Mo) (T := F_Mo) (N := 42) hx hb hts in_Mo hown hK hP 0 rfl rfl 30 (by decide) (hts (.fieldLink R_Mo 289 R_Mo "nodeCount" "I") kw4_173) (fun _ h9 => h9) rfl d_Mo_check_116 ?_
          refine lv_goto (tgt := 126) hx hb d_Mo_check_119 (by decide) ?_
          refine lv_istore (lv' := [(5, .int z_this.2.1.2.2.2.2), (0, .ref (ad_this 0)), (1, .int x1), (2, .int x2), (3, .int x3), (4, .int x4)]) hx hb d_Mo_check_126 hl (by decide) rfl (fun ls hl => ?_)
          refine lv_iconst (v := (0 : Int32)) hx hb d_Mo_check_128 (by decide) ?_
          refine lv_istore (lv' := [(6, .int (0 : Int32)), (5, .int z_this.2.1.2.2.2.2), (0, .ref (ad_this 0)), (1, .int x1), (2, .int x2), (3, .int x3), (4, .int x4)]) hx hb d_Mo_check_129 hl (by decide) rfl (fun ls hl => ?_)
          obtain ⟨k9, hw⟩ := hw
          refine t_Mo_check_L131 hAt hK hJ hAe hA ?_ k9 z_this x1 x2 x3 x4 z_this.2.1.2.2.2.2 (0 : Int32) H locs ls (lv_sub hl [2, 3, 4, 5, 6, 1, 0] rfl) hP hD hS hw
          intro z_this x1 x2 x3 x4 x5 x6 H locs ls hl hP hD hS hw
          refine lv_iinc (v := (x4 + (1 : Int32))) (lv' := [(4, .int (x4 + (1 : Int32))), (0, .ref (ad_this 0)), (1, .int x1), (2, .int x2), (3, .int x3), (5, .int x5), (6, .int x6)]) hx hb d_Mo_check_174 hl (k := 4) rfl rfl (by decide) rfl (fun ls hl => ?_)
          refine lv_goto (tgt := 96) hx hb d_Mo_check_177 (by decide) ?_
          exact ih z_this x1 x2 x3 (x4 + (1 : Int32)) H locs ls (lv_sub hl [1, 2, 3, 4, 0] rfl) hP hD hS hw
set_option maxHeartbeats 4000000 in
set_option maxRecDepth 100000 in
theorem c_Mo_check {l : Launch} {o : State × Array Value} {D : va_G} {k : Nat → ClassId} {d : Nat} {ad_this : Nat → Nat} {z_this : T_Mo} {a1 : Int32} {a2 : Int32} {post : Int32 → T_Mo → Prop} (hw : wp_Mo_check d z_this a1 a2 post) : xq_C l o y_Mo_check (.code y_Mo_check prog_10_method_48_code 7 (some (.int)) :: xq_W) (rm_Mo_check d) D vwCl (xt k) [.ref (ad_this 0), .int a1, .int a2] (w_Mo k ad_this z_this) (fun r : Int32 => some (.int r)) post (fun _ : T_Mo => False) (fun u : T_Mo => w_Mo k ad_this u) 0 0 0 0 := by
  refine xq_ofW (cc := prog_10_method_48_code) (maxL := 7) (ret := (some (.int))) (by decide) rfl (Nat.le_of_ble_eq_true rfl) ?_
  intro p e s m below meth c ls H locs A hAt hAe hA hl hK hJ hP0 hP hD hS
  obtain ⟨hx, hb, hml, hr, hlocks, hown, hts, hex, hnm⟩ := id hAt
  have hl : lv_has ls 7 [(0, .ref (ad_this 0)), (1, .int a1), (2, .int a2)] := hl
  unfold wp_Mo_check at hw
  refine lv_iload_n hx hb d_Mo_check_0 rfl (lv_at hl 1 rfl) ?_
  refine lv_if_lt (tgt := 13) hx hb d_Mo_check_1 (by decide) (fun hc => ?_) (fun hc => ?_)
  · have hw := hw.1 hc
    refine lv_iconst (v := (-1 : Int32)) hx hb d_Mo_check_13 (by decide) ?_
    exact xq_iret (r := (-1 : Int32)) (u := z_this) hx hb hr hlocks hAe hP hD hS rfl hw (Nat.le_of_ble_eq_true rfl) (Nat.le_of_ble_eq_true rfl) d_Mo_check_14
  · have hw := hw.2 hc
    refine lv_iload_n hx hb d_Mo_check_4 rfl (lv_at hl 2 rfl) ?_
    refine lv_if_lt (tgt := 13) hx hb d_Mo_check_5 (by decide) (fun hc => ?_) (fun hc => ?_)
    · have hw := hw.1 hc
      refine lv_iconst (v := (-1 : Int32)) hx hb d_Mo_check_13 (by decide) ?_
      exact xq_iret (r := (-1 : Int32)) (u := z_this) hx hb hr hlocks hAe hP hD hS rfl hw (Nat.le_of_ble_eq_true rfl) (Nat.le_of_ble_eq_true rfl) d_Mo_check_14
    · have hw := hw.2 hc
      refine lv_iload_n hx hb d_Mo_check_8 rfl (lv_at hl 2 rfl) ?_
      refine lv_iconst (v := (1 : Int32)) hx hb d_Mo_check_9 (by decide) ?_
      refine lv_icmp_le (tgt := 15) hx hb d_Mo_check_10 (by decide) (fun hc => ?_) (fun hc => ?_)
      · have hw := hw.1 hc
        refine lv_iconst (v := (0 : Int32)) hx hb d_Mo_check_15 (by decide) ?_
        refine lv_istore_n (lv' := [(3, .int (0 : Int32)), (0, .ref (ad_this 0)), (1, .int a1), (2, .int a2)]) hx hb d_Mo_check_16 rfl hl (by decide) rfl (fun ls hl => ?_)
        obtain ⟨k9, hw⟩ := hw
        refine t_Mo_check_L17 hAt hK hJ hAe hA ?_ k9 z_this a1 a2 (0 : Int32) H locs ls (lv_sub hl [1, 2, 3, 0] rfl) hP hD hS hw
        intro z_this x1 x2 x3 H locs ls hl hP hD hS hw
        refine lv_iconst (v := (0 : Int32)) hx hb d_Mo_check_36 (by decide) ?_
        refine lv_istore_n (lv' := [(3, .int (0 : Int32)), (0, .ref (ad_this 0)), (1, .int x1), (2, .int x2)]) hx hb d_Mo_check_37 rfl hl (by decide) rfl (fun ls hl => ?_)
        obtain ⟨k9, hw⟩ := hw
        refine t_Mo_check_L38 hAt hK hJ hAe hA ?_ k9 z_this x1 x2 (0 : Int32) H locs ls (lv_sub hl [1, 2, 3, 0] rfl) hP hD hS hw
        intro z_this x1 x2 x3 H locs ls hl hP hD hS hw
        refine lv_iload_n hx hb d_Mo_check_91 rfl (lv_at hl 1 rfl) ?_
        refine lv_istore_n (lv' := [(3, .int x1), (0, .ref (ad_this 0)), (1, .int x1), (2, .int x2)]) hx hb d_Mo_check_92 rfl hl (by decide) rfl (fun ls hl => ?_)
        refine lv_iconst (v := (1 : Int32)) hx hb d_Mo_check_93 (by decide) ?_
        refine lv_istore (lv' := [(4, .int (1 : Int32)), (3, .int x1), (0, .ref (ad_this 0)), (1, .int x1), (2, .int x2)]) hx hb d_Mo_check_94 hl (by decide) rfl (fun ls hl => ?_)
        obtain ⟨k9, hw⟩ := hw
        refine t_Mo_check_L96 hAt hK hJ hAe hA ?_ k9 z_this x1 x2 x1 (1 : Int32) H locs ls (lv_sub hl [2, 3, 4, 1, 0] rfl) hP hD hS hw
        intro z_this x1 x2 x3 x4 H locs ls hl hP hD hS hw
        refine lv_iconst (v := (-1 : Int32)) hx hb d_Mo_check_180 (by decide) ?_
        exact xq_iret (r := (-1 : Int32)) (u := z_this) hx hb hr hlocks hAe hP hD hS rfl hw (Nat.le_of_ble_eq_true rfl) (Nat.le_of_ble_eq_true rfl) d_Mo_check_181
      · have hw := hw.2 hc
        refine lv_iconst (v := (-1 : Int32)) hx hb d_Mo_check_13 (by decide) ?_
        exact xq_iret (r := (-1 : Int32)) (u := z_this) hx hb hr hlocks hAe hP hD hS rfl hw (Nat.le_of_ble_eq_true rfl) (Nat.le_of_ble_eq_true rfl) d_Mo_check_14
theorem cw_Mo_check {R : Room} {s : State} {args : Array Value} {own : String} {index : Nat} (hts : ∀ w ∈ xq_W, w.before args s = true) (hl : .methodLink own index y_Mo_check ∈ xq_W) {rm : Room} (hR : rm.frames + 1 ≤ R.frames ∧ 8 + (7 + 11) + rm.locals ≤ R.locals) : CallW R s args own "StepTextModel" index y_Mo_check prog_10_method_48_code 7 (some (.int)) (.code y_Mo_check prog_10_method_48_code 7 (some (.int)) :: xq_W) rm rm.cells rm.slots 2 := ⟨xq_cb 2 hts kw5_235 kw1_13 hl ⟨by decide, by decide, by decide +kernel⟩ hR, hts _ kw5_233, hts _ kw5_234⟩
def y_Mo_write : MethodName := ⟨"StepTextModel", "write", "(I)I"⟩
theorem d_Mo_write_0 : decode prog_10_method_62_code 0 = .ok (.aload_n 0, 1) := by decide +kernel
theorem d_Mo_write_1 : decode prog_10_method_62_code 1 = .ok (.iload_n 1, 1) := by decide +kernel
theorem d_Mo_write_2 : decode prog_10_method_62_code 2 = .ok (.putfield 326, 3) := by decide +kernel
theorem d_Mo_write_5 : decode prog_10_method_62_code 5 = .ok (.aload_n 0, 1) := by decide +kernel
theorem d_Mo_write_6 : decode prog_10_method_62_code 6 = .ok (.iconst (-1), 1) := by decide +kernel
theorem d_Mo_write_7 : decode prog_10_method_62_code 7 = .ok (.putfield 329, 3) := by decide +kernel
theorem d_Mo_write_10 : decode prog_10_method_62_code 10 = .ok (.aload_n 0, 1) := by decide +kernel
theorem d_Mo_write_11 : decode prog_10_method_62_code 11 = .ok (.iconst 0, 1) := by decide +kernel
theorem d_Mo_write_12 : decode prog_10_method_62_code 12 = .ok (.putfield 332, 3) := by decide +kernel
theorem d_Mo_write_15 : decode prog_10_method_62_code 15 = .ok (.iconst 0, 1) := by decide +kernel
theorem d_Mo_write_16 : decode prog_10_method_62_code 16 = .ok (.istore_n 2, 1) := by decide +kernel
theorem d_Mo_write_17 : decode prog_10_method_62_code 17 = .ok (.iload_n 2, 1) := by decide +kernel
theorem d_Mo_write_18 : decode prog_10_method_62_code 18 = .ok (.aload_n 0, 1) := by decide +kernel
theorem d_Mo_write_19 : decode prog_10_method_62_code 19 = .ok (.getfield 295, 3) := by decide +kernel
theorem d_Mo_write_22 : decode prog_10_method_62_code 22 = .ok (.if_icmp .ge 120, 3) := by decide +kernel
theorem d_Mo_write_25 : decode prog_10_method_62_code 25 = .ok (.iload_n 1, 1) := by decide +kernel
theorem d_Mo_write_26 : decode prog_10_method_62_code 26 = .ok (.ifCond .lt 116, 3) := by decide +kernel
theorem d_Mo_write_29 : decode prog_10_method_62_code 29 = .ok (.bipush 100, 2) := by decide +kernel
theorem d_Mo_write_31 : decode prog_10_method_62_code 31 = .ok (.aload_n 0, 1) := by decide +kernel
theorem d_Mo_write_32 : decode prog_10_method_62_code 32 = .ok (.getfield 185, 3) := by decide +kernel
theorem d_Mo_write_35 : decode prog_10_method_62_code 35 = .ok (.imul, 1) := by decide +kernel
theorem d_Mo_write_36 : decode prog_10_method_62_code 36 = .ok (.iload_n 2, 1) := by decide +kernel
theorem d_Mo_write_37 : decode prog_10_method_62_code 37 = .ok (.iadd, 1) := by decide +kernel
theorem d_Mo_write_38 : decode prog_10_method_62_code 38 = .ok (.istore_n 3, 1) := by decide +kernel
theorem d_Mo_write_39 : decode prog_10_method_62_code 39 = .ok (.aload_n 0, 1) := by decide +kernel
theorem d_Mo_write_40 : decode prog_10_method_62_code 40 = .ok (.aload_n 0, 1) := by decide +kernel
theorem d_Mo_write_41 : decode prog_10_method_62_code 41 = .ok (.getfield 45, 3) := by decide +kernel
theorem d_Mo_write_44 : decode prog_10_method_62_code 44 = .ok (.iload_n 3, 1) := by decide +kernel
theorem d_Mo_write_45 : decode prog_10_method_62_code 45 = .ok (.iaload, 1) := by decide +kernel
theorem d_Mo_write_46 : decode prog_10_method_62_code 46 = .ok (.bipush 30, 2) := by decide +kernel
theorem d_Mo_write_48 : decode prog_10_method_62_code 48 = .ok (.if_icmp .ne 9, 3) := by decide +kernel
theorem d_Mo_write_51 : decode prog_10_method_62_code 51 = .ok (.ldc2_w 108, 3) := by decide +kernel
theorem d_Mo_write_54 : decode prog_10_method_62_code 54 = .ok (.goto 23, 3) := by decide +kernel
theorem d_Mo_write_57 : decode prog_10_method_62_code 57 = .ok (.aload_n 0, 1) := by decide +kernel
theorem d_Mo_write_58 : decode prog_10_method_62_code 58 = .ok (.getfield 45, 3) := by decide +kernel
theorem d_Mo_write_61 : decode prog_10_method_62_code 61 = .ok (.iload_n 3, 1) := by decide +kernel
theorem d_Mo_write_62 : decode prog_10_method_62_code 62 = .ok (.iaload, 1) := by decide +kernel
theorem d_Mo_write_63 : decode prog_10_method_62_code 63 = .ok (.bipush 31, 2) := by decide +kernel
theorem d_Mo_write_65 : decode prog_10_method_62_code 65 = .ok (.if_icmp .ne 9, 3) := by decide +kernel
theorem d_Mo_write_68 : decode prog_10_method_62_code 68 = .ok (.ldc2_w 110, 3) := by decide +kernel
theorem d_Mo_write_71 : decode prog_10_method_62_code 71 = .ok (.goto 6, 3) := by decide +kernel
theorem d_Mo_write_74 : decode prog_10_method_62_code 74 = .ok (.ldc2_w 106, 3) := by decide +kernel
theorem d_Mo_write_77 : decode prog_10_method_62_code 77 = .ok (.invokevirtual 341, 3) := by decide +kernel
theorem d_Mo_write_80 : decode prog_10_method_62_code 80 = .ok (.aload_n 0, 1) := by decide +kernel
theorem d_Mo_write_81 : decode prog_10_method_62_code 81 = .ok (.iload_n 2, 1) := by decide +kernel
theorem d_Mo_write_82 : decode prog_10_method_62_code 82 = .ok (.i2l, 1) := by decide +kernel
theorem d_Mo_write_83 : decode prog_10_method_62_code 83 = .ok (.invokevirtual 361, 3) := by decide +kernel
theorem d_Mo_write_86 : decode prog_10_method_62_code 86 = .ok (.aload_n 0, 1) := by decide +kernel
theorem d_Mo_write_87 : decode prog_10_method_62_code 87 = .ok (.getfield 45, 3) := by decide +kernel
theorem d_Mo_write_90 : decode prog_10_method_62_code 90 = .ok (.iload_n 3, 1) := by decide +kernel
theorem d_Mo_write_91 : decode prog_10_method_62_code 91 = .ok (.iaload, 1) := by decide +kernel
theorem d_Mo_write_92 : decode prog_10_method_62_code 92 = .ok (.bipush 24, 2) := by decide +kernel
theorem d_Mo_write_94 : decode prog_10_method_62_code 94 = .ok (.if_icmp .ne 21, 3) := by decide +kernel
theorem d_Mo_write_97 : decode prog_10_method_62_code 97 = .ok (.aload_n 0, 1) := by decide +kernel
theorem d_Mo_write_98 : decode prog_10_method_62_code 98 = .ok (.aload_n 0, 1) := by decide +kernel
theorem d_Mo_write_99 : decode prog_10_method_62_code 99 = .ok (.aload_n 0, 1) := by decide +kernel
theorem d_Mo_write_100 : decode prog_10_method_62_code 100 = .ok (.getfield 51, 3) := by decide +kernel
theorem d_Mo_write_103 : decode prog_10_method_62_code 103 = .ok (.iload_n 3, 1) := by decide +kernel
theorem d_Mo_write_104 : decode prog_10_method_62_code 104 = .ok (.iaload, 1) := by decide +kernel
theorem d_Mo_write_105 : decode prog_10_method_62_code 105 = .ok (.iconst 0, 1) := by decide +kernel
theorem d_Mo_write_106 : decode prog_10_method_62_code 106 = .ok (.invokevirtual 306, 3) := by decide +kernel
theorem d_Mo_write_109 : decode prog_10_method_62_code 109 = .ok (.invokevirtual 388, 3) := by decide +kernel
theorem d_Mo_write_112 : decode prog_10_method_62_code 112 = .ok (.goto 20, 3) := by decide +kernel
theorem d_Mo_write_115 : decode prog_10_method_62_code 115 = .ok (.aload_n 0, 1) := by decide +kernel
theorem d_Mo_write_116 : decode prog_10_method_62_code 116 = .ok (.aload_n 0, 1) := by decide +kernel
theorem d_Mo_write_117 : decode prog_10_method_62_code 117 = .ok (.getfield 48, 3) := by decide +kernel
theorem d_Mo_write_120 : decode prog_10_method_62_code 120 = .ok (.iload_n 3, 1) := by decide +kernel
theorem d_Mo_write_121 : decode prog_10_method_62_code 121 = .ok (.iaload, 1) := by decide +kernel
theorem d_Mo_write_122 : decode prog_10_method_62_code 122 = .ok (.invokevirtual 348, 3) := by decide +kernel
theorem d_Mo_write_125 : decode prog_10_method_62_code 125 = .ok (.aload_n 0, 1) := by decide +kernel
theorem d_Mo_write_126 : decode prog_10_method_62_code 126 = .ok (.ldc2_w 391, 3) := by decide +kernel
theorem d_Mo_write_129 : decode prog_10_method_62_code 129 = .ok (.invokevirtual 341, 3) := by decide +kernel
theorem d_Mo_write_132 : decode prog_10_method_62_code 132 = .ok (.aload_n 0, 1) := by decide +kernel
theorem d_Mo_write_133 : decode prog_10_method_62_code 133 = .ok (.invokevirtual 382, 3) := by decide +kernel
theorem d_Mo_write_136 : decode prog_10_method_62_code 136 = .ok (.iinc 2 1, 3) := by decide +kernel
theorem d_Mo_write_139 : decode prog_10_method_62_code 139 = .ok (.goto (-122), 3) := by decide +kernel
theorem d_Mo_write_142 : decode prog_10_method_62_code 142 = .ok (.iconst 0, 1) := by decide +kernel
theorem d_Mo_write_143 : decode prog_10_method_62_code 143 = .ok (.istore_n 2, 1) := by decide +kernel
theorem d_Mo_write_144 : decode prog_10_method_62_code 144 = .ok (.iload_n 2, 1) := by decide +kernel
theorem d_Mo_write_145 : decode prog_10_method_62_code 145 = .ok (.aload_n 0, 1) := by decide +kernel
theorem d_Mo_write_146 : decode prog_10_method_62_code 146 = .ok (.getfield 292, 3) := by decide +kernel
theorem d_Mo_write_149 : decode prog_10_method_62_code 149 = .ok (.if_icmp .ge 49, 3) := by decide +kernel
theorem d_Mo_write_152 : decode prog_10_method_62_code 152 = .ok (.iload_n 1, 1) := by decide +kernel
theorem d_Mo_write_153 : decode prog_10_method_62_code 153 = .ok (.ifCond .lt 45, 3) := by decide +kernel
theorem d_Mo_write_156 : decode prog_10_method_62_code 156 = .ok (.aload_n 0, 1) := by decide +kernel
theorem d_Mo_write_157 : decode prog_10_method_62_code 157 = .ok (.getfield 36, 3) := by decide +kernel
theorem d_Mo_write_160 : decode prog_10_method_62_code 160 = .ok (.sipush 1000, 3) := by decide +kernel
theorem d_Mo_write_163 : decode prog_10_method_62_code 163 = .ok (.aload_n 0, 1) := by decide +kernel
theorem d_Mo_write_164 : decode prog_10_method_62_code 164 = .ok (.getfield 185, 3) := by decide +kernel
theorem d_Mo_write_167 : decode prog_10_method_62_code 167 = .ok (.imul, 1) := by decide +kernel
theorem d_Mo_write_168 : decode prog_10_method_62_code 168 = .ok (.iload_n 2, 1) := by decide +kernel
theorem d_Mo_write_169 : decode prog_10_method_62_code 169 = .ok (.iadd, 1) := by decide +kernel
theorem d_Mo_write_170 : decode prog_10_method_62_code 170 = .ok (.iaload, 1) := by decide +kernel
theorem d_Mo_write_171 : decode prog_10_method_62_code 171 = .ok (.istore_n 3, 1) := by decide +kernel
theorem d_Mo_write_172 : decode prog_10_method_62_code 172 = .ok (.aload_n 0, 1) := by decide +kernel
theorem d_Mo_write_173 : decode prog_10_method_62_code 173 = .ok (.getfield 13, 3) := by decide +kernel
theorem d_Mo_write_176 : decode prog_10_method_62_code 176 = .ok (.aload_n 0, 1) := by decide +kernel
theorem d_Mo_write_177 : decode prog_10_method_62_code 177 = .ok (.iload_n 3, 1) := by decide +kernel
theorem d_Mo_write_178 : decode prog_10_method_62_code 178 = .ok (.invokevirtual 301, 3) := by decide +kernel
theorem d_Mo_write_181 : decode prog_10_method_62_code 181 = .ok (.iaload, 1) := by decide +kernel
theorem d_Mo_write_182 : decode prog_10_method_62_code 182 = .ok (.bipush 24, 2) := by decide +kernel
theorem d_Mo_write_184 : decode prog_10_method_62_code 184 = .ok (.if_icmp .eq 8, 3) := by decide +kernel
theorem d_Mo_write_187 : decode prog_10_method_62_code 187 = .ok (.aload_n 0, 1) := by decide +kernel
theorem d_Mo_write_188 : decode prog_10_method_62_code 188 = .ok (.iload_n 3, 1) := by decide +kernel
theorem d_Mo_write_189 : decode prog_10_method_62_code 189 = .ok (.invokevirtual 385, 3) := by decide +kernel
theorem d_Mo_write_192 : decode prog_10_method_62_code 192 = .ok (.iinc 2 1, 3) := by decide +kernel
theorem d_Mo_write_195 : decode prog_10_method_62_code 195 = .ok (.goto (-51), 3) := by decide +kernel
theorem d_Mo_write_198 : decode prog_10_method_62_code 198 = .ok (.aload_n 0, 1) := by decide +kernel
theorem d_Mo_write_199 : decode prog_10_method_62_code 199 = .ok (.getfield 329, 3) := by decide +kernel
theorem d_Mo_write_202 : decode prog_10_method_62_code 202 = .ok (.ireturn, 1) := by decide +kernel
def wp_Mo_write_L17 (d dB : Nat) (K : T_Mo → Int32 → Int32 → Prop) (post : Int32 → T_Mo → Prop) : Nat → T_Mo → Int32 → Int32 → Prop
  | 0, _, _, _ => False
  | n9 + 1, z_this, x1, x2 => (z_this.2.2.1.1.2 ≤ x2 → (K z_this x1 x2)) ∧ (¬ z_this.2.2.1.1.2 ≤ x2 → ((x1 < 0 → (K z_this x1 x2)) ∧ (¬ x1 < 0 → (vp_in (((100 : Int32) * z_this.1.2.1.2.1) + x2) 200 ∧ (((z_this.2.1.2.1.2 ((((100 : Int32) * z_this.1.2.1.2.1) + x2)).toNatClampNeg) = (30 : Int32) → (wp_Mo_word z_this (119165719898483 : Int64) (fun (r17 : Unit) (u17 : T_Mo) => wp_Mo_name u17 ((x2).toInt64) (fun (r18 : Unit) (u18 : T_Mo) => vp_in (((100 : Int32) * z_this.1.2.1.2.1) + x2) 200 ∧ (((u18.2.1.2.1.2 ((((100 : Int32) * z_this.1.2.1.2.1) + x2)).toNatClampNeg) = (24 : Int32) → (vp_in (((100 : Int32) * z_this.1.2.1.2.1) + x2) 200 ∧ (wp_Mo_kid u18 (u18.2.1.2.2.2.1 ((((100 : Int32) * z_this.1.2.1.2.1) + x2)).toNatClampNeg) (0 : Int32) (fun (r22 : Int32) (u22 : Unit) => wp_Mo_blockOut d dB u18 r22 (fun (r23 : Unit) (u23 : T_Mo) => wp_Mo_newLine u23 (fun (r24 : Unit) (u24 : T_Mo) => wp_Mo_write_L17 d dB K post n9 u24 x1 (x2 + (1 : Int32)))))))) ∧ (¬ (u18.2.1.2.1.2 ((((100 : Int32) * z_this.1.2.1.2.1) + x2)).toNatClampNeg) = (24 : Int32) → (vp_in (((100 : Int32) * z_this.1.2.1.2.1) + x2) 200 ∧ (wp_Mo_unitWord1 u18 (u18.2.1.2.2.1 ((((100 : Int32) * z_this.1.2.1.2.1) + x2)).toNatClampNeg) (fun (r19 : Unit) (u19 : T_Mo) => wp_Mo_word u19 (59 : Int64) (fun (r20 : Unit) (u20 : T_Mo) => wp_Mo_newLine u20 (fun (r21 : Unit) (u21 : T_Mo) => wp_Mo_write_L17 d dB K post n9 u21 x1 (x2 + (1 : Int32))))))))))))) ∧ (¬ (z_this.2.1.2.1.2 ((((100 : Int32) * z_this.1.2.1.2.1) + x2)).toNatClampNeg) = (30 : Int32) → (vp_in (((100 : Int32) * z_this.1.2.1.2.1) + x2) 200 ∧ (((z_this.2.1.2.1.2 ((((100 : Int32) * z_this.1.2.1.2.1) + x2)).toNatClampNeg) = (31 : Int32) → (wp_Mo_word z_this (128047746676079 : Int64) (fun (r9 : Unit) (u9 : T_Mo) => wp_Mo_name u9 ((x2).toInt64) (fun (r10 : Unit) (u10 : T_Mo) => vp_in (((100 : Int32) * z_this.1.2.1.2.1) + x2) 200 ∧ (((u10.2.1.2.1.2 ((((100 : Int32) * z_this.1.2.1.2.1) + x2)).toNatClampNeg) = (24 : Int32) → (vp_in (((100 : Int32) * z_this.1.2.1.2.1) + x2) 200 ∧ (wp_Mo_kid u10 (u10.2.1.2.2.2.1 ((((100 : Int32) * z_this.1.2.1.2.1) + x2)).toNatClampNeg) (0 : Int32) (fun (r14 : Int32) (u14 : Unit) => wp_Mo_blockOut d dB u10 r14 (fun (r15 : Unit) (u15 : T_Mo) => wp_Mo_newLine u15 (fun (r16 : Unit) (u16 : T_Mo) => wp_Mo_write_L17 d dB K post n9 u16 x1 (x2 + (1 : Int32)))))))) ∧ (¬ (u10.2.1.2.1.2 ((((100 : Int32) * z_this.1.2.1.2.1) + x2)).toNatClampNeg) = (24 : Int32) → (vp_in (((100 : Int32) * z_this.1.2.1.2.1) + x2) 200 ∧ (wp_Mo_unitWord1 u10 (u10.2.1.2.2.1 ((((100 : Int32) * z_this.1.2.1.2.1) + x2)).toNatClampNeg) (fun (r11 : Unit) (u11 : T_Mo) => wp_Mo_word u11 (59 : Int64) (fun (r12 : Unit) (u12 : T_Mo) => wp_Mo_newLine u12 (fun (r13 : Unit) (u13 : T_Mo) => wp_Mo_write_L17 d dB K post n9 u13 x1 (x2 + (1 : Int32))))))))))))) ∧ (¬ (z_this.2.1.2.1.2 ((((100 : Int32) * z_this.1.2.1.2.1) + x2)).toNatClampNeg) = (31 : Int32) → (wp_Mo_word z_this (1885697139 : Int64) (fun (r1 : Unit) (u1 : T_Mo) => wp_Mo_name u1 ((x2).toInt64) (fun (r2 : Unit) (u2 : T_Mo) => vp_in (((100 : Int32) * z_this.1.2.1.2.1) + x2) 200 ∧ (((u2.2.1.2.1.2 ((((100 : Int32) * z_this.1.2.1.2.1) + x2)).toNatClampNeg) = (24 : Int32) → (vp_in (((100 : Int32) * z_this.1.2.1.2.1) + x2) 200 ∧ (wp_Mo_kid u2 (u2.2.1.2.2.2.1 ((((100 : Int32) * z_this.1.2.1.2.1) + x2)).toNatClampNeg) (0 : Int32) (fun (r6 : Int32) (u6 : Unit) => wp_Mo_blockOut d dB u2 r6 (fun (r7 : Unit) (u7 : T_Mo) => wp_Mo_newLine u7 (fun (r8 : Unit) (u8 : T_Mo) => wp_Mo_write_L17 d dB K post n9 u8 x1 (x2 + (1 : Int32)))))))) ∧ (¬ (u2.2.1.2.1.2 ((((100 : Int32) * z_this.1.2.1.2.1) + x2)).toNatClampNeg) = (24 : Int32) → (vp_in (((100 : Int32) * z_this.1.2.1.2.1) + x2) 200 ∧ (wp_Mo_unitWord1 u2 (u2.2.1.2.2.1 ((((100 : Int32) * z_this.1.2.1.2.1) + x2)).toNatClampNeg) (fun (r3 : Unit) (u3 : T_Mo) => wp_Mo_word u3 (59 : Int64) (fun (r4 : Unit) (u4 : T_Mo) => wp_Mo_newLine u4 (fun (r5 : Unit) (u5 : T_Mo) => wp_Mo_write_L17 d dB K post n9 u5 x1 (x2 + (1 : Int32)))))))))))))))))))))
def wp_Mo_write_L144 (d dB : Nat) (K : T_Mo → Int32 → Int32 → Prop) (post : Int32 → T_Mo → Prop) : Nat → T_Mo → Int32 → Int32 → Prop
  | 0, _, _, _ => False
  | n9 + 1, z_this, x1, x2 => (z_this.2.2.1.1.1 ≤ x2 → (K z_this x1 x2)) ∧ (¬ z_this.2.2.1.1.1 ≤ x2 → ((x1 < 0 → (K z_this x1 x2)) ∧ (¬ x1 < 0 → (vp_in (((1000 : Int32) * z_this.1.2.1.2.1) + x2) 2000 ∧ (wp_Mo_node1 z_this (z_this.2.1.1.1.2 ((((1000 : Int32) * z_this.1.2.1.2.1) + x2)).toNatClampNeg) (fun (r25 : Int32) (u25 : Unit) => vp_in r25 2000 ∧ (((z_this.1.2.1.2.2.2 (r25).toNatClampNeg) = (24 : Int32) → (wp_Mo_write_L144 d dB K post n9 z_this x1 (x2 + (1 : Int32)))) ∧ (¬ (z_this.1.2.1.2.2.2 (r25).toNatClampNeg) = (24 : Int32) → (wp_Mo_statementOut d (wp_Mo_blockOut d dB) z_this (z_this.2.1.1.1.2 ((((1000 : Int32) * z_this.1.2.1.2.1) + x2)).toNatClampNeg) (fun (r26 : Unit) (u26 : T_Mo) => wp_Mo_write_L144 d dB K post n9 u26 x1 (x2 + (1 : Int32))))))))))))
def wp_Mo_write (d dB : Nat) (z_this : T_Mo) (a1 : Int32) (post : Int32 → T_Mo → Prop) : Prop := ∃ k9 : Nat, wp_Mo_write_L17 d dB (fun (z_this : T_Mo) (x1 : Int32) (x2 : Int32) => ∃ k9 : Nat, wp_Mo_write_L144 d dB (fun (z_this : T_Mo) (x1 : Int32) (x2 : Int32) => post z_this.2.2.2.2.1 z_this) post k9 z_this x1 (0 : Int32)) post k9 (((((z_this.1.1.1.1.1, z_this.1.1.1.1.2), (z_this.1.1.1.2.1, (z_this.1.1.1.2.2.1, z_this.1.1.1.2.2.2))), ((z_this.1.1.2.1.1, z_this.1.1.2.1.2), (z_this.1.1.2.2.1, (z_this.1.1.2.2.2.1, z_this.1.1.2.2.2.2)))), (((z_this.1.2.1.1.1, z_this.1.2.1.1.2), (z_this.1.2.1.2.1, (z_this.1.2.1.2.2.1, z_this.1.2.1.2.2.2))), ((z_this.1.2.2.1.1, (z_this.1.2.2.1.2.1, z_this.1.2.2.1.2.2)), (z_this.1.2.2.2.1, (z_this.1.2.2.2.2.1, z_this.1.2.2.2.2.2))))), ((((z_this.2.1.1.1.1, z_this.2.1.1.1.2), (z_this.2.1.1.2.1, (z_this.2.1.1.2.2.1, z_this.2.1.1.2.2.2))), ((z_this.2.1.2.1.1, z_this.2.1.2.1.2), (z_this.2.1.2.2.1, (z_this.2.1.2.2.2.1, z_this.2.1.2.2.2.2)))), (((z_this.2.2.1.1.1, z_this.2.2.1.1.2), (z_this.2.2.1.2.1, (z_this.2.2.1.2.2.1, z_this.2.2.1.2.2.2))), ((z_this.2.2.2.1.1, (z_this.2.2.2.1.2.1, a1)), ((-1 : Int32), ((0 : Int32), z_this.2.2.2.2.2.2)))))) a1 (0 : Int32)
def rm_Mo_write (d dB : Nat) : Room := { frames := max (fBc d dB) (fFc d) + 8, cells := 0, slots := 0, locals := max (fMc d dB) (fLc d) + 186 }
set_option maxHeartbeats 4000000 in
set_option maxRecDepth 100000 in
theorem t_Mo_write_L17 {p : Program} {l : Launch} {o : State × Array Value} {e : Env} {s : State} {m : MethodId} {args : Array Value} {below : List Frame} {meth : Method} {c : Code} {D : va_G} {k : Nat → ClassId} {w0 : va_W} {A : Nat → Prop} {ad_this : Nat → Nat} {post : Int32 → T_Mo → Prop} {d dB : Nat} (hAt : xq_At p s m args meth c prog_10_method_62_code 4 (some (.int)) y_Mo_write xq_W) (hK : va_K D vwCl (xt k) s) (hJ : xq_J l o A s s.heap) (hAe : va_A w0 s.heap.size = A) (hA : ∀ q, s.heap.size ≤ q → A q) {K : T_Mo → Int32 → Int32 → Prop} (hX : ∀ (z_this : T_Mo) (x1 : Int32) (x2 : Int32) (H : Heap) (locs : List Loc) (ls : Array Slot), lv_has ls 4 [(0, .ref (ad_this 0)), (1, .int x1), (2, .int x2)] → va_P D vwCl (w_Mo k ad_this z_this) H → va_D A (w_Mo k ad_this z_this) → va_S A s.heap H locs → K z_this x1 x2 → W p l e (rm_Mo_write d dB) s m args below meth c H locs 0 0 (xq_Z below D vwCl (xt k) w0 (fun r : Int32 => some (.int r)) post (fun _ : T_Mo => False) (fun u : T_Mo => w_Mo k ad_this u) 0 0 0 0 s) (F0 m 142 ls [])) :
    ∀ (n9 : Nat) (z_this : T_Mo) (x1 : Int32) (x2 : Int32) (H : Heap) (locs : List Loc) (ls : Array Slot), lv_has ls 4 [(0, .ref (ad_this 0)), (1, .int x1), (2, .int x2)] → va_P D vwCl (w_Mo k ad_this z_this) H → va_D A (w_Mo k ad_this z_this) → va_S A s.heap H locs → wp_Mo_write_L17 d dB K post n9 z_this x1 x2 → W p l e (rm_Mo_write d dB) s m args below meth c H locs 0 0 (xq_Z below D vwCl (xt k) w0 (fun r : Int32 => some (.int r)) post (fun _ : T_Mo => False) (fun u : T_Mo => w_Mo k ad_this u) 0 0 0 0 s) (F0 m 17 ls []) := by
  obtain ⟨hx, hb, hml, hr, hlocks, hown, hts, hex, hnm⟩ := id hAt
  intro n9
  induction n9 with
  | zero => intro z_this x1 x2 H locs ls hl hP hD hS hw; exact False.elim (by rw [wp_Mo_write_L17] at hw; exact hw)
  | succ n9 ih =>
    intro z_this x1 x2 H locs ls hl hP hD hS hw
    rw [wp_Mo_write_L17] at hw
    refine lv_iload_n hx hb d_Mo_write_17 rfl (lv_at hl 2 rfl) ?_
    refine lv_aload_n hx hb d_Mo_write_18 rfl (lv_at hl 0 rfl) ?_
    refine va_get (D := D) (ci := 8) (v := .int z_this.2.2.1.1.2) (C := R_Mo) (T := F_Mo) (N := 42) hx hb hts in_Mo hown hK hP 0 rfl rfl 32 (by decide) (hts (.fieldLink R_Mo 295 R_Mo "nameCount" "I") kw4_175) (fun _ h9 => h9) rfl d_Mo_write_19 ?_
    refine lv_icmp_ge (tgt := 142) hx hb d_Mo_write_22 (by decide) (fun hc => ?_) (fun hc => ?_)
    · have hw := hw.1 hc
      exact hX z_this x1 x2 H locs ls (lv_sub hl [0, 1, 2] rfl) hP hD hS hw
    · have hw := hw.2 hc
      refine lv_iload_n hx hb d_Mo_write_25 rfl (lv_at hl 1 rfl) ?_
      refine lv_if_lt (tgt := 142) hx hb d_Mo_write_26 (by decide) (fun hc => ?_) (fun hc => ?_)
      · have hw := hw.1 hc
        exact hX z_this x1 x2 H locs ls (lv_sub hl [0, 1, 2] rfl) hP hD hS hw
      · have hw := hw.2 hc
        refine lv_bipush (v := (100 : Int32)) hx hb d_Mo_write_29 (by decide) ?_
        refine lv_aload_n hx hb d_Mo_write_31 rfl (lv_at hl 0 rfl) ?_
        refine va_get (D := D) (ci := 8) (v := .int z_this.1.2.1.2.1) (C := R_Mo) (T := F_Mo) (N := 42) hx hb hts in_Mo hown hK hP 0 rfl rfl 12 (by decide) (hts (.fieldLink R_Mo 185 R_Mo "half" "I") kw4_155) (fun _ h9 => h9) rfl d_Mo_write_32 ?_
        refine lv_imul hx hb d_Mo_write_35 ?_
        refine lv_iload_n hx hb d_Mo_write_36 rfl (lv_at hl 2 rfl) ?_
        refine lv_iadd hx hb d_Mo_write_37 ?_
        refine lv_istore_n (lv' := [(3, .int (((100 : Int32) * z_this.1.2.1.2.1) + x2)), (0, .ref (ad_this 0)), (1, .int x1), (2, .int x2)]) hx hb d_Mo_write_38 rfl hl (by decide) rfl (fun ls hl => ?_)
        refine lv_aload_n hx hb d_Mo_write_39 rfl (lv_at hl 1 rfl) ?_
        refine lv_aload_n hx hb d_Mo_write_40 rfl (lv_at hl 1 rfl) ?_
        refine va_get (D := D) (ci := 8) (v := .ref (ad_this 12)) (C := R_Mo) (T := F_Mo) (N := 42) hx hb hts in_Mo hown hK hP 0 rfl rfl 27 (by decide) (hts (.fieldLink R_Mo 45 R_Mo "roles" "[I") kw4_170) (fun _ h9 => h9) rfl d_Mo_write_41 ?_
        refine lv_iload_n hx hb d_Mo_write_44 rfl (lv_at hl 0 rfl) ?_
        refine va_iald hx hb hK hP 12 0 rfl rfl hw.1 d_Mo_write_45 ?_
        have hw := hw.2
        refine lv_bipush (v := (30 : Int32)) hx hb d_Mo_write_46 (by decide) ?_
        refine lv_icmp_ne (tgt := 57) hx hb d_Mo_write_48 (by decide) (fun hc => ?_) (fun hc => ?_)
        · have hw := hw.2 hc
          refine lv_aload_n hx hb d_Mo_write_57 rfl (lv_at hl 1 rfl) ?_
          refine va_get (D := D) (ci := 8) (v := .ref (ad_this 12)) (C := R_Mo) (T := F_Mo) (N := 42) hx hb hts in_Mo hown hK hP 0 rfl rfl 27 (by decide) (hts (.fieldLink R_Mo 45 R_Mo "roles" "[I") kw4_170) (fun _ h9 => h9) rfl d_Mo_write_58 ?_
          refine lv_iload_n hx hb d_Mo_write_61 rfl (lv_at hl 0 rfl) ?_
          refine va_iald hx hb hK hP 12 0 rfl rfl hw.1 d_Mo_write_62 ?_
          have hw := hw.2
          refine lv_bipush (v := (31 : Int32)) hx hb d_Mo_write_63 (by decide) ?_
          refine lv_icmp_ne (tgt := 74) hx hb d_Mo_write_65 (by decide) (fun hc => ?_) (fun hc => ?_)
          · have hw := hw.2 hc
            refine lv_ldc2 (v := (1885697139 : Int64)) hx hb hown (hts (.constantLong R_Mo 106 (1885697139)) kw5_86) d_Mo_write_74 ?_
            refine xq_go (wr := ([] : va_W)) (stk := fun _ => []) (xq_runV (As := [.long (1885697139 : Int64)]) (rest := []) ⟨hx, hb, hml, hown, hts⟩ (c_Mo_word (l := l) (o := o) (D := D) (k := k) (ad_this := ad_this) hw) (cw_Mo_word hts kw6_16 ⟨by simp only [rm_Mo_write, rm_Mo_word]; omega, by simp only [rm_Mo_write, rm_Mo_word]; omega⟩) (va_recv hK hP (ci := 8) (q0 := 0) rfl rfl) (hP.sub [0, 1, 2, 3, 4, 5, 6, 7, 8, 9, 10, 11, 12, 13, 14, 15, 16, 17] rfl) hK hJ hS (va_free hD hS hA [0, 1, 2, 3, 4, 5, 6, 7, 8, 9, 10, 11, 12, 13, 14, 15, 16, 17] rfl) ((hD.sub [0, 1, 2, 3, 4, 5, 6, 7, 8, 9, 10, 11, 12, 13, 14, 15, 16, 17] (by decide) rfl).weaken (fun _ _ _ _ => trivial)) rfl hl.1 (Nat.le_of_ble_eq_true rfl) d_Mo_write_77 ⟨Nat.le_of_ble_eq_true rfl, Nat.le_of_ble_eq_true rfl⟩) hP hD hS hA [0, 1, 2, 3, 4, 5, 6, 7, 8, 9, 10, 11, 12, 13, 14, 15, 16, 17] [] rfl rfl (by decide) (by decide) (fun _ => rfl) (fun r1 u1 H locs hw hP hD hS => ?_) (fun _ _ _ _ h9 => h9.elim)
            have hP : va_P D vwCl (w_Mo k ad_this u1) H := hP.sub [0, 1, 2, 3, 4, 5, 6, 7, 8, 9, 10, 11, 12, 13, 14, 15, 16, 17] rfl
            have hD : va_D A (w_Mo k ad_this u1) := hD.sub [0, 1, 2, 3, 4, 5, 6, 7, 8, 9, 10, 11, 12, 13, 14, 15, 16, 17] (by decide) rfl
            refine lv_aload_n hx hb d_Mo_write_80 rfl (lv_at hl 1 rfl) ?_
            refine lv_iload_n hx hb d_Mo_write_81 rfl (lv_at hl 3 rfl) ?_
            refine lv_i2l hx hb d_Mo_write_82 rfl ?_
            refine xq_go (wr := ([] : va_W)) (stk := fun _ => []) (xq_runV (As := [.long (x2).toInt64]) (rest := []) ⟨hx, hb, hml, hown, hts⟩ (c_Mo_name (l := l) (o := o) (D := D) (k := k) (ad_this := ad_this) hw) (cw_Mo_name hts kw6_28 ⟨by simp only [rm_Mo_write, rm_Mo_name]; omega, by simp only [rm_Mo_write, rm_Mo_name]; omega⟩) (va_recv hK hP (ci := 8) (q0 := 0) rfl rfl) (hP.sub [0, 1, 2, 3, 4, 5, 6, 7, 8, 9, 10, 11, 12, 13, 14, 15, 16, 17] rfl) hK hJ hS (va_free hD hS hA [0, 1, 2, 3, 4, 5, 6, 7, 8, 9, 10, 11, 12, 13, 14, 15, 16, 17] rfl) ((hD.sub [0, 1, 2, 3, 4, 5, 6, 7, 8, 9, 10, 11, 12, 13, 14, 15, 16, 17] (by decide) rfl).weaken (fun _ _ _ _ => trivial)) rfl hl.1 (Nat.le_of_ble_eq_true rfl) d_Mo_write_83 ⟨Nat.le_of_ble_eq_true rfl, Nat.le_of_ble_eq_true rfl⟩) hP hD hS hA [0, 1, 2, 3, 4, 5, 6, 7, 8, 9, 10, 11, 12, 13, 14, 15, 16, 17] [] rfl rfl (by decide) (by decide) (fun _ => rfl) (fun r2 u2 H locs hw hP hD hS => ?_) (fun _ _ _ _ h9 => h9.elim)
            have hP : va_P D vwCl (w_Mo k ad_this u2) H := hP.sub [0, 1, 2, 3, 4, 5, 6, 7, 8, 9, 10, 11, 12, 13, 14, 15, 16, 17] rfl
            have hD : va_D A (w_Mo k ad_this u2) := hD.sub [0, 1, 2, 3, 4, 5, 6, 7, 8, 9, 10, 11, 12, 13, 14, 15, 16, 17] (by decide) rfl
            refine lv_aload_n hx hb d_Mo_write_86 rfl (lv_at hl 1 rfl) ?_
            refine va_get (D := D) (ci := 8) (v := .ref (ad_this 12)) (C := R_Mo) (T := F_Mo) (N := 42) hx hb hts in_Mo hown hK hP 0 rfl rfl 27 (by decide) (hts (.fieldLink R_Mo 45 R_Mo "roles" "[I") kw4_170) (fun _ h9 => h9) rfl d_Mo_write_87 ?_
            refine lv_iload_n hx hb d_Mo_write_90 rfl (lv_at hl 0 rfl) ?_
            refine va_iald hx hb hK hP 12 0 rfl rfl hw.1 d_Mo_write_91 ?_
            have hw := hw.2
            refine lv_bipush (v := (24 : Int32)) hx hb d_Mo_write_92 (by decide) ?_
            refine lv_icmp_ne (tgt := 115) hx hb d_Mo_write_94 (by decide) (fun hc => ?_) (fun hc => ?_)
            · have hw := hw.2 hc
              refine lv_aload_n hx hb d_Mo_write_115 rfl (lv_at hl 1 rfl) ?_
              refine lv_aload_n hx hb d_Mo_write_116 rfl (lv_at hl 1 rfl) ?_
              refine va_get (D := D) (ci := 8) (v := .ref (ad_this 13)) (C := R_Mo) (T := F_Mo) (N := 42) hx hb hts in_Mo hown hK hP 0 rfl rfl 28 (by decide) (hts (.fieldLink R_Mo 48 R_Mo "nameUnits" "[I") kw4_171) (fun _ h9 => h9) rfl d_Mo_write_117 ?_
              refine lv_iload_n hx hb d_Mo_write_120 rfl (lv_at hl 0 rfl) ?_
              refine va_iald hx hb hK hP 13 0 rfl rfl hw.1 d_Mo_write_121 ?_
              have hw := hw.2
              refine xq_go (wr := ([] : va_W)) (stk := fun _ => []) (xq_runV (As := [.int (u2.2.1.2.2.1 ((((100 : Int32) * z_this.1.2.1.2.1) + x2)).toNatClampNeg)]) (rest := []) ⟨hx, hb, hml, hown, hts⟩ (c_Mo_unitWord1 (l := l) (o := o) (D := D) (k := k) (ad_this := ad_this) hw) (cw_Mo_unitWord1 hts kw6_63 ⟨by simp only [rm_Mo_write, rm_Mo_unitWord1]; omega, by simp only [rm_Mo_write, rm_Mo_unitWord1]; omega⟩) (va_recv hK hP (ci := 8) (q0 := 0) rfl rfl) (hP.sub [0, 1, 2, 3, 4, 5, 6, 7, 8, 9, 10, 11, 12, 13, 14, 15, 16, 17] rfl) hK hJ hS (va_free hD hS hA [0, 1, 2, 3, 4, 5, 6, 7, 8, 9, 10, 11, 12, 13, 14, 15, 16, 17] rfl) ((hD.sub [0, 1, 2, 3, 4, 5, 6, 7, 8, 9, 10, 11, 12, 13, 14, 15, 16, 17] (by decide) rfl).weaken (fun _ _ _ _ => trivial)) rfl hl.1 (Nat.le_of_ble_eq_true rfl) d_Mo_write_122 ⟨Nat.le_of_ble_eq_true rfl, Nat.le_of_ble_eq_true rfl⟩) hP hD hS hA [0, 1, 2, 3, 4, 5, 6, 7, 8, 9, 10, 11, 12, 13, 14, 15, 16, 17] [] rfl rfl (by decide) (by decide) (fun _ => rfl) (fun r3 u3 H locs hw hP hD hS => ?_) (fun _ _ _ _ h9 => h9.elim)
              have hP : va_P D vwCl (w_Mo k ad_this u3) H := hP.sub [0, 1, 2, 3, 4, 5, 6, 7, 8, 9, 10, 11, 12, 13, 14, 15, 16, 17] rfl
              have hD : va_D A (w_Mo k ad_this u3) := hD.sub [0, 1, 2, 3, 4, 5, 6, 7, 8, 9, 10, 11, 12, 13, 14, 15, 16, 17] (by decide) rfl
              refine lv_aload_n hx hb d_Mo_write_125 rfl (lv_at hl 1 rfl) ?_
              refine lv_ldc2 (v := (59 : Int64)) hx hb hown (hts (.constantLong R_Mo 391 (59)) kw6_74) d_Mo_write_126 ?_
              refine xq_go (wr := ([] : va_W)) (stk := fun _ => []) (xq_runV (As := [.long (59 : Int64)]) (rest := []) ⟨hx, hb, hml, hown, hts⟩ (c_Mo_word (l := l) (o := o) (D := D) (k := k) (ad_this := ad_this) hw) (cw_Mo_word hts kw6_16 ⟨by simp only [rm_Mo_write, rm_Mo_word]; omega, by simp only [rm_Mo_write, rm_Mo_word]; omega⟩) (va_recv hK hP (ci := 8) (q0 := 0) rfl rfl) (hP.sub [0, 1, 2, 3, 4, 5, 6, 7, 8, 9, 10, 11, 12, 13, 14, 15, 16, 17] rfl) hK hJ hS (va_free hD hS hA [0, 1, 2, 3, 4, 5, 6, 7, 8, 9, 10, 11, 12, 13, 14, 15, 16, 17] rfl) ((hD.sub [0, 1, 2, 3, 4, 5, 6, 7, 8, 9, 10, 11, 12, 13, 14, 15, 16, 17] (by decide) rfl).weaken (fun _ _ _ _ => trivial)) rfl hl.1 (Nat.le_of_ble_eq_true rfl) d_Mo_write_129 ⟨Nat.le_of_ble_eq_true rfl, Nat.le_of_ble_eq_true rfl⟩) hP hD hS hA [0, 1, 2, 3, 4, 5, 6, 7, 8, 9, 10, 11, 12, 13, 14, 15, 16, 17] [] rfl rfl (by decide) (by decide) (fun _ => rfl) (fun r4 u4 H locs hw hP hD hS => ?_) (fun _ _ _ _ h9 => h9.elim)
              have hP : va_P D vwCl (w_Mo k ad_this u4) H := hP.sub [0, 1, 2, 3, 4, 5, 6, 7, 8, 9, 10, 11, 12, 13, 14, 15, 16, 17] rfl
              have hD : va_D A (w_Mo k ad_this u4) := hD.sub [0, 1, 2, 3, 4, 5, 6, 7, 8, 9, 10, 11, 12, 13, 14, 15, 16, 17] (by decide) rfl
              refine lv_aload_n hx hb d_Mo_write_132 rfl (lv_at hl 1 rfl) ?_
              refine xq_go (wr := ([] : va_W)) (stk := fun _ => []) (xq_runV (As := []) (rest := []) ⟨hx, hb, hml, hown, hts⟩ (c_Mo_newLine (l := l) (o := o) (D := D) (k := k) (ad_this := ad_this) hw) (cw_Mo_newLine hts kw6_36 ⟨by simp only [rm_Mo_write, rm_Mo_newLine]; omega, by simp only [rm_Mo_write, rm_Mo_newLine]; omega⟩) (va_recv hK hP (ci := 8) (q0 := 0) rfl rfl) (hP.sub [0, 1, 2, 3, 4, 5, 6, 7, 8, 9, 10, 11, 12, 13, 14, 15, 16, 17] rfl) hK hJ hS (va_free hD hS hA [0, 1, 2, 3, 4, 5, 6, 7, 8, 9, 10, 11, 12, 13, 14, 15, 16, 17] rfl) ((hD.sub [0, 1, 2, 3, 4, 5, 6, 7, 8, 9, 10, 11, 12, 13, 14, 15, 16, 17] (by decide) rfl).weaken (fun _ _ _ _ => trivial)) rfl hl.1 (Nat.le_of_ble_eq_true rfl) d_Mo_write_133 ⟨Nat.le_of_ble_eq_true rfl, Nat.le_of_ble_eq_true rfl⟩) hP hD hS hA [0, 1, 2, 3, 4, 5, 6, 7, 8, 9, 10, 11, 12, 13, 14, 15, 16, 17] [] rfl rfl (by decide) (by decide) (fun _ => rfl) (fun r5 u5 H locs hw hP hD hS => ?_) (fun _ _ _ _ h9 => h9.elim)
              have hP : va_P D vwCl (w_Mo k ad_this u5) H := hP.sub [0, 1, 2, 3, 4, 5, 6, 7, 8, 9, 10, 11, 12, 13, 14, 15, 16, 17] rfl
              have hD : va_D A (w_Mo k ad_this u5) := hD.sub [0, 1, 2, 3, 4, 5, 6, 7, 8, 9, 10, 11, 12, 13, 14, 15, 16, 17] (by decide) rfl
              refine lv_iinc (v := (x2 + (1 : Int32))) (lv' := [(2, .int (x2 + (1 : Int32))), (3, .int (((100 : Int32) * z_this.1.2.1.2.1) + x2)), (0, .ref (ad_this 0)), (1, .int x1)]) hx hb d_Mo_write_136 hl (k := 3) rfl rfl (by decide) rfl (fun ls hl => ?_)
              refine lv_goto (tgt := 17) hx hb d_Mo_write_139 (by decide) ?_
              exact ih u5 x1 (x2 + (1 : Int32)) H locs ls (lv_sub hl [2, 3, 0] rfl) hP hD hS hw
            · have hw := hw.1 hc
              refine lv_aload_n hx hb d_Mo_write_97 rfl (lv_at hl 1 rfl) ?_
              refine lv_aload_n hx hb d_Mo_write_98 rfl (lv_at hl 1 rfl) ?_
              refine lv_aload_n hx hb d_Mo_write_99 rfl (lv_at hl 1 rfl) ?_
              refine va_get (D := D) (ci := 8) (v := .ref (ad_this 14)) (C := R_Mo) (T := F_Mo) (N := 42) hx hb hts in_Mo hown hK hP 0 rfl rfl 29 (by decide) (hts (.fieldLink R_Mo 51 R_Mo "stepNodes" "[I") kw4_172) (fun _ h9 => h9) rfl d_Mo_write_100 ?_
              refine lv_iload_n hx hb d_Mo_write_103 rfl (lv_at hl 0 rfl) ?_
              refine va_iald hx hb hK hP 14 0 rfl rfl hw.1 d_Mo_write_104 ?_
              have hw := hw.2
              refine lv_iconst (v := (0 : Int32)) hx hb d_Mo_write_105 (by decide) ?_
              refine xq_go (wr := ([] : va_W)) (stk := fun r => .int r :: [.ref (ad_this 0)]) (xq_runV (As := [.int (u2.2.1.2.2.2.1 ((((100 : Int32) * z_this.1.2.1.2.1) + x2)).toNatClampNeg), .int (0 : Int32)]) (rest := [.ref (ad_this 0)]) ⟨hx, hb, hml, hown, hts⟩ (c_Mo_kid (l := l) (o := o) (D := D) (k := k) (ad_this := ad_this) hw) (cw_Mo_kid hts kw5_207 ⟨by simp only [rm_Mo_write, rm_Mo_kid]; omega, by simp only [rm_Mo_write, rm_Mo_kid]; omega⟩) (va_recv hK hP (ci := 8) (q0 := 0) rfl rfl) (hP.sub [0, 1, 2, 3, 4, 5, 6, 7, 8, 9, 10, 11, 12, 13, 14, 15, 16, 17] rfl) hK hJ hS (va_free hD hS hA [0, 1, 2, 3, 4, 5, 6, 7, 8, 9, 10, 11, 12, 13, 14, 15, 16, 17] rfl) ((hD.sub [0, 1, 2, 3, 4, 5, 6, 7, 8, 9, 10, 11, 12, 13, 14, 15, 16, 17] (by decide) rfl).weaken (fun _ _ _ _ => trivial)) rfl hl.1 (Nat.le_of_ble_eq_true rfl) d_Mo_write_106 ⟨Nat.le_of_ble_eq_true rfl, Nat.le_of_ble_eq_true rfl⟩) hP hD hS hA [0, 1, 2, 3, 4, 5, 6, 7, 8, 9, 10, 11, 12, 13, 14, 15, 16, 17] [] rfl rfl (by decide) (by decide) (fun _ => rfl) (fun r6 u6 H locs hw hP hD hS => ?_) (fun _ _ _ _ h9 => h9.elim)
              have hP : va_P D vwCl (w_Mo k ad_this u2) H := hP.sub [0, 1, 2, 3, 4, 5, 6, 7, 8, 9, 10, 11, 12, 13, 14, 15, 16, 17] rfl
              have hD : va_D A (w_Mo k ad_this u2) := hD.sub [0, 1, 2, 3, 4, 5, 6, 7, 8, 9, 10, 11, 12, 13, 14, 15, 16, 17] (by decide) rfl
              refine xq_go (wr := ([] : va_W)) (stk := fun _ => []) (xq_runV (As := [.int r6]) (rest := []) ⟨hx, hb, hml, hown, hts⟩ (c_Mo_blockOut d dB (l := l) (o := o) (D := D) (k := k) (ad_this := ad_this) hw) (cw_Mo_blockOut hts kw6_32 ⟨by simp only [rm_Mo_write]; omega, by simp only [rm_Mo_write]; omega⟩) (va_recv hK hP (ci := 8) (q0 := 0) rfl rfl) (hP.sub [0, 1, 2, 3, 4, 5, 6, 7, 8, 9, 10, 11, 12, 13, 14, 15, 16, 17] rfl) hK hJ hS (va_free hD hS hA [0, 1, 2, 3, 4, 5, 6, 7, 8, 9, 10, 11, 12, 13, 14, 15, 16, 17] rfl) ((hD.sub [0, 1, 2, 3, 4, 5, 6, 7, 8, 9, 10, 11, 12, 13, 14, 15, 16, 17] (by decide) rfl).weaken (fun _ _ _ _ => trivial)) rfl hl.1 (Nat.le_of_ble_eq_true rfl) d_Mo_write_109 ⟨Nat.le_of_ble_eq_true rfl, Nat.le_of_ble_eq_true rfl⟩) hP hD hS hA [0, 1, 2, 3, 4, 5, 6, 7, 8, 9, 10, 11, 12, 13, 14, 15, 16, 17] [] rfl rfl (by decide) (by decide) (fun _ => rfl) (fun r7 u7 H locs hw hP hD hS => ?_) (fun _ _ _ _ h9 => h9.elim)
              have hP : va_P D vwCl (w_Mo k ad_this u7) H := hP.sub [0, 1, 2, 3, 4, 5, 6, 7, 8, 9, 10, 11, 12, 13, 14, 15, 16, 17] rfl
              have hD : va_D A (w_Mo k ad_this u7) := hD.sub [0, 1, 2, 3, 4, 5, 6, 7, 8, 9, 10, 11, 12, 13, 14, 15, 16, 17] (by decide) rfl
              refine lv_goto (tgt := 132) hx hb d_Mo_write_112 (by decide) ?_
              refine lv_aload_n hx hb d_Mo_write_132 rfl (lv_at hl 1 rfl) ?_
              refine xq_go (wr := ([] : va_W)) (stk := fun _ => []) (xq_runV (As := []) (rest := []) ⟨hx, hb, hml, hown, hts⟩ (c_Mo_newLine (l := l) (o := o) (D := D) (k := k) (ad_this := ad_this) hw) (cw_Mo_newLine hts kw6_36 ⟨by simp only [rm_Mo_write, rm_Mo_newLine]; omega, by simp only [rm_Mo_write, rm_Mo_newLine]; omega⟩) (va_recv hK hP (ci := 8) (q0 := 0) rfl rfl) (hP.sub [0, 1, 2, 3, 4, 5, 6, 7, 8, 9, 10, 11, 12, 13, 14, 15, 16, 17] rfl) hK hJ hS (va_free hD hS hA [0, 1, 2, 3, 4, 5, 6, 7, 8, 9, 10, 11, 12, 13, 14, 15, 16, 17] rfl) ((hD.sub [0, 1, 2, 3, 4, 5, 6, 7, 8, 9, 10, 11, 12, 13, 14, 15, 16, 17] (by decide) rfl).weaken (fun _ _ _ _ => trivial)) rfl hl.1 (Nat.le_of_ble_eq_true rfl) d_Mo_write_133 ⟨Nat.le_of_ble_eq_true rfl, Nat.le_of_ble_eq_true rfl⟩) hP hD hS hA [0, 1, 2, 3, 4, 5, 6, 7, 8, 9, 10, 11, 12, 13, 14, 15, 16, 17] [] rfl rfl (by decide) (by decide) (fun _ => rfl) (fun r8 u8 H locs hw hP hD hS => ?_) (fun _ _ _ _ h9 => h9.elim)
              have hP : va_P D vwCl (w_Mo k ad_this u8) H := hP.sub [0, 1, 2, 3, 4, 5, 6, 7, 8, 9, 10, 11, 12, 13, 14, 15, 16, 17] rfl
              have hD : va_D A (w_Mo k ad_this u8) := hD.sub [0, 1, 2, 3, 4, 5, 6, 7, 8, 9, 10, 11, 12, 13, 14, 15, 16, 17] (by decide) rfl
              refine lv_iinc (v := (x2 + (1 : Int32))) (lv' := [(2, .int (x2 + (1 : Int32))), (3, .int (((100 : Int32) * z_this.1.2.1.2.1) + x2)), (0, .ref (ad_this 0)), (1, .int x1)]) hx hb d_Mo_write_136 hl (k := 3) rfl rfl (by decide) rfl (fun ls hl => ?_)
              refine lv_goto (tgt := 17) hx hb d_Mo_write_139 (by decide) ?_
              exact ih u8 x1 (x2 + (1 : Int32)) H locs ls (lv_sub hl [2, 3, 0] rfl) hP hD hS hw
          · have hw := hw.1 hc
            refine lv_ldc2 (v := (128047746676079 : Int64)) hx hb hown (hts (.constantLong R_Mo 110 (128047746676079)) kw5_88) d_Mo_write_68 ?_
            refine lv_goto (tgt := 77) hx hb d_Mo_write_71 (by decide) ?_
            refine xq_go (wr := ([] : va_W)) (stk := fun _ => []) (xq_runV (As := [.long (128047746676079 : Int64)]) (rest := []) ⟨hx, hb, hml, hown, hts⟩ (c_Mo_word (l := l) (o := o) (D := D) (k := k) (ad_this := ad_this) hw) (cw_Mo_word hts kw6_16 ⟨by simp only [rm_Mo_write, rm_Mo_word]; omega, by simp only [rm_Mo_write, rm_Mo_word]; omega⟩) (va_recv hK hP (ci := 8) (q0 := 0) rfl rfl) (hP.sub [0, 1, 2, 3, 4, 5, 6, 7, 8, 9, 10, 11, 12, 13, 14, 15, 16, 17] rfl) hK hJ hS (va_free hD hS hA [0, 1, 2, 3, 4, 5, 6, 7, 8, 9, 10, 11, 12, 13, 14, 15, 16, 17] rfl) ((hD.sub [0, 1, 2, 3, 4, 5, 6, 7, 8, 9, 10, 11, 12, 13, 14, 15, 16, 17] (by decide) rfl).weaken (fun _ _ _ _ => trivial)) rfl hl.1 (Nat.le_of_ble_eq_true rfl) d_Mo_write_77 ⟨Nat.le_of_ble_eq_true rfl, Nat.le_of_ble_eq_true rfl⟩) hP hD hS hA [0, 1, 2, 3, 4, 5, 6, 7, 8, 9, 10, 11, 12, 13, 14, 15, 16, 17] [] rfl rfl (by decide) (by decide) (fun _ => rfl) (fun r9 u9 H locs hw hP hD hS => ?_) (fun _ _ _ _ h9 => h9.elim)
            have hP : va_P D vwCl (w_Mo k ad_this u9) H := hP.sub [0, 1, 2, 3, 4, 5, 6, 7, 8, 9, 10, 11, 12, 13, 14, 15, 16, 17] rfl
            have hD : va_D A (w_Mo k ad_this u9) := hD.sub [0, 1, 2, 3, 4, 5, 6, 7, 8, 9, 10, 11, 12, 13, 14, 15, 16, 17] (by decide) rfl
            refine lv_aload_n hx hb d_Mo_write_80 rfl (lv_at hl 1 rfl) ?_
            refine lv_iload_n hx hb d_Mo_write_81 rfl (lv_at hl 3 rfl) ?_
            refine lv_i2l hx hb d_Mo_write_82 rfl ?_
            refine xq_go (wr := ([] : va_W)) (stk := fun _ => []) (xq_runV (As := [.long (x2).toInt64]) (rest := []) ⟨hx, hb, hml, hown, hts⟩ (c_Mo_name (l := l) (o := o) (D := D) (k := k) (ad_this := ad_this) hw) (cw_Mo_name hts kw6_28 ⟨by simp only [rm_Mo_write, rm_Mo_name]; omega, by simp only [rm_Mo_write, rm_Mo_name]; omega⟩) (va_recv hK hP (ci := 8) (q0 := 0) rfl rfl) (hP.sub [0, 1, 2, 3, 4, 5, 6, 7, 8, 9, 10, 11, 12, 13, 14, 15, 16, 17] rfl) hK hJ hS (va_free hD hS hA [0, 1, 2, 3, 4, 5, 6, 7, 8, 9, 10, 11, 12, 13, 14, 15, 16, 17] rfl) ((hD.sub [0, 1, 2, 3, 4, 5, 6, 7, 8, 9, 10, 11, 12, 13, 14, 15, 16, 17] (by decide) rfl).weaken (fun _ _ _ _ => trivial)) rfl hl.1 (Nat.le_of_ble_eq_true rfl) d_Mo_write_83 ⟨Nat.le_of_ble_eq_true rfl, Nat.le_of_ble_eq_true rfl⟩) hP hD hS hA [0, 1, 2, 3, 4, 5, 6, 7, 8, 9, 10, 11, 12, 13, 14, 15, 16, 17] [] rfl rfl (by decide) (by decide) (fun _ => rfl) (fun r10 u10 H locs hw hP hD hS => ?_) (fun _ _ _ _ h9 => h9.elim)
            have hP : va_P D vwCl (w_Mo k ad_this u10) H := hP.sub [0, 1, 2, 3, 4, 5, 6, 7, 8, 9, 10, 11, 12, 13, 14, 15, 16, 17] rfl
            have hD : va_D A (w_Mo k ad_this u10) := hD.sub [0, 1, 2, 3, 4, 5, 6, 7, 8, 9, 10, 11, 12, 13, 14, 15, 16, 17] (by decide) rfl
            refine lv_aload_n hx hb d_Mo_write_86 rfl (lv_at hl 1 rfl) ?_
            refine va_get (D := D) (ci := 8) (v := .ref (ad_this 12)) (C := R_Mo) (T := F_Mo) (N := 42) hx hb hts in_Mo hown hK hP 0 rfl rfl 27 (by decide) (hts (.fieldLink R_Mo 45 R_Mo "roles" "[I") kw4_170) (fun _ h9 => h9) rfl d_Mo_write_87 ?_
            refine lv_iload_n hx hb d_Mo_write_90 rfl (lv_at hl 0 rfl) ?_
            refine va_iald hx hb hK hP 12 0 rfl rfl hw.1 d_Mo_write_91 ?_
            have hw := hw.2
            refine lv_bipush (v := (24 : Int32)) hx hb d_Mo_write_92 (by decide) ?_
            refine lv_icmp_ne (tgt := 115) hx hb d_Mo_write_94 (by decide) (fun hc => ?_) (fun hc => ?_)
            · have hw := hw.2 hc
              refine lv_aload_n hx hb d_Mo_write_115 rfl (lv_at hl 1 rfl) ?_
              refine lv_aload_n hx hb d_Mo_write_116 rfl (lv_at hl 1 rfl) ?_
              refine va_get (D := D) (ci := 8) (v := .ref (ad_this 13)) (C := R_Mo) (T := F_Mo) (N := 42) hx hb hts in_Mo hown hK hP 0 rfl rfl 28 (by decide) (hts (.fieldLink R_Mo 48 R_Mo "nameUnits" "[I") kw4_171) (fun _ h9 => h9) rfl d_Mo_write_117 ?_
              refine lv_iload_n hx hb d_Mo_write_120 rfl (lv_at hl 0 rfl) ?_
              refine va_iald hx hb hK hP 13 0 rfl rfl hw.1 d_Mo_write_121 ?_
              have hw := hw.2
              refine xq_go (wr := ([] : va_W)) (stk := fun _ => []) (xq_runV (As := [.int (u10.2.1.2.2.1 ((((100 : Int32) * z_this.1.2.1.2.1) + x2)).toNatClampNeg)]) (rest := []) ⟨hx, hb, hml, hown, hts⟩ (c_Mo_unitWord1 (l := l) (o := o) (D := D) (k := k) (ad_this := ad_this) hw) (cw_Mo_unitWord1 hts kw6_63 ⟨by simp only [rm_Mo_write, rm_Mo_unitWord1]; omega, by simp only [rm_Mo_write, rm_Mo_unitWord1]; omega⟩) (va_recv hK hP (ci := 8) (q0 := 0) rfl rfl) (hP.sub [0, 1, 2, 3, 4, 5, 6, 7, 8, 9, 10, 11, 12, 13, 14, 15, 16, 17] rfl) hK hJ hS (va_free hD hS hA [0, 1, 2, 3, 4, 5, 6, 7, 8, 9, 10, 11, 12, 13, 14, 15, 16, 17] rfl) ((hD.sub [0, 1, 2, 3, 4, 5, 6, 7, 8, 9, 10, 11, 12, 13, 14, 15, 16, 17] (by decide) rfl).weaken (fun _ _ _ _ => trivial)) rfl hl.1 (Nat.le_of_ble_eq_true rfl) d_Mo_write_122 ⟨Nat.le_of_ble_eq_true rfl, Nat.le_of_ble_eq_true rfl⟩) hP hD hS hA [0, 1, 2, 3, 4, 5, 6, 7, 8, 9, 10, 11, 12, 13, 14, 15, 16, 17] [] rfl rfl (by decide) (by decide) (fun _ => rfl) (fun r11 u11 H locs hw hP hD hS => ?_) (fun _ _ _ _ h9 => h9.elim)
              have hP : va_P D vwCl (w_Mo k ad_this u11) H := hP.sub [0, 1, 2, 3, 4, 5, 6, 7, 8, 9, 10, 11, 12, 13, 14, 15, 16, 17] rfl
              have hD : va_D A (w_Mo k ad_this u11) := hD.sub [0, 1, 2, 3, 4, 5, 6, 7, 8, 9, 10, 11, 12, 13, 14, 15, 16, 17] (by decide) rfl
              refine lv_aload_n hx hb d_Mo_write_125 rfl (lv_at hl 1 rfl) ?_
              refine lv_ldc2 (v := (59 : Int64)) hx hb hown (hts (.constantLong R_Mo 391 (59)) kw6_74) d_Mo_write_126 ?_
              refine xq_go (wr := ([] : va_W)) (stk := fun _ => []) (xq_runV (As := [.long (59 : Int64)]) (rest := []) ⟨hx, hb, hml, hown, hts⟩ (c_Mo_word (l := l) (o := o) (D := D) (k := k) (ad_this := ad_this) hw) (cw_Mo_word hts kw6_16 ⟨by simp only [rm_Mo_write, rm_Mo_word]; omega, by simp only [rm_Mo_write, rm_Mo_word]; omega⟩) (va_recv hK hP (ci := 8) (q0 := 0) rfl rfl) (hP.sub [0, 1, 2, 3, 4, 5, 6, 7, 8, 9, 10, 11, 12, 13, 14, 15, 16, 17] rfl) hK hJ hS (va_free hD hS hA [0, 1, 2, 3, 4, 5, 6, 7, 8, 9, 10, 11, 12, 13, 14, 15, 16, 17] rfl) ((hD.sub [0, 1, 2, 3, 4, 5, 6, 7, 8, 9, 10, 11, 12, 13, 14, 15, 16, 17] (by decide) rfl).weaken (fun _ _ _ _ => trivial)) rfl hl.1 (Nat.le_of_ble_eq_true rfl) d_Mo_write_129 ⟨Nat.le_of_ble_eq_true rfl, Nat.le_of_ble_eq_true rfl⟩) hP hD hS hA [0, 1, 2, 3, 4, 5, 6, 7, 8, 9, 10, 11, 12, 13, 14, 15, 16, 17] [] rfl rfl (by decide) (by decide) (fun _ => rfl) (fun r12 u12 H locs hw hP hD hS => ?_) (fun _ _ _ _ h9 => h9.elim)
              have hP : va_P D vwCl (w_Mo k ad_this u12) H := hP.sub [0, 1, 2, 3, 4, 5, 6, 7, 8, 9, 10, 11, 12, 13, 14, 15, 16, 17] rfl
              have hD : va_D A (w_Mo k ad_this u12) := hD.sub [0, 1, 2, 3, 4, 5, 6, 7, 8, 9, 10, 11, 12, 13, 14, 15, 16, 17] (by decide) rfl
              refine lv_aload_n hx hb d_Mo_write_132 rfl (lv_at hl 1 rfl) ?_
              refine xq_go (wr := ([] : va_W)) (stk := fun _ => []) (xq_runV (As := []) (rest := []) ⟨hx, hb, hml, hown, hts⟩ (c_Mo_newLine (l := l) (o := o) (D := D) (k := k) (ad_this := ad_this) hw) (cw_Mo_newLine hts kw6_36 ⟨by simp only [rm_Mo_write, rm_Mo_newLine]; omega, by simp only [rm_Mo_write, rm_Mo_newLine]; omega⟩) (va_recv hK hP (ci := 8) (q0 := 0) rfl rfl) (hP.sub [0, 1, 2, 3, 4, 5, 6, 7, 8, 9, 10, 11, 12, 13, 14, 15, 16, 17] rfl) hK hJ hS (va_free hD hS hA [0, 1, 2, 3, 4, 5, 6, 7, 8, 9, 10, 11, 12, 13, 14, 15, 16, 17] rfl) ((hD.sub [0, 1, 2, 3, 4, 5, 6, 7, 8, 9, 10, 11, 12, 13, 14, 15, 16, 17] (by decide) rfl).weaken (fun _ _ _ _ => trivial)) rfl hl.1 (Nat.le_of_ble_eq_true rfl) d_Mo_write_133 ⟨Nat.le_of_ble_eq_true rfl, Nat.le_of_ble_eq_true rfl⟩) hP hD hS hA [0, 1, 2, 3, 4, 5, 6, 7, 8, 9, 10, 11, 12, 13, 14, 15, 16, 17] [] rfl rfl (by decide) (by decide) (fun _ => rfl) (fun r13 u13 H locs hw hP hD hS => ?_) (fun _ _ _ _ h9 => h9.elim)
              have hP : va_P D vwCl (w_Mo k ad_this u13) H := hP.sub [0, 1, 2, 3, 4, 5, 6, 7, 8, 9, 10, 11, 12, 13, 14, 15, 16, 17] rfl
              have hD : va_D A (w_Mo k ad_this u13) := hD.sub [0, 1, 2, 3, 4, 5, 6, 7, 8, 9, 10, 11, 12, 13, 14, 15, 16, 17] (by decide) rfl
              refine lv_iinc (v := (x2 + (1 : Int32))) (lv' := [(2, .int (x2 + (1 : Int32))), (3, .int (((100 : Int32) * z_this.1.2.1.2.1) + x2)), (0, .ref (ad_this 0)), (1, .int x1)]) hx hb d_Mo_write_136 hl (k := 3) rfl rfl (by decide) rfl (fun ls hl => ?_)
              refine lv_goto (tgt := 17) hx hb d_Mo_write_139 (by decide) ?_
              exact ih u13 x1 (x2 + (1 : Int32)) H locs ls (lv_sub hl [2, 3, 0] rfl) hP hD hS hw
            · have hw := hw.1 hc
              refine lv_aload_n hx hb d_Mo_write_97 rfl (lv_at hl 1 rfl) ?_
              refine lv_aload_n hx hb d_Mo_write_98 rfl (lv_at hl 1 rfl) ?_
              refine lv_aload_n hx hb d_Mo_write_99 rfl (lv_at hl 1 rfl) ?_
              refine va_get (D := D) (ci := 8) (v := .ref (ad_this 14)) (C := R_Mo) (T := F_Mo) (N := 42) hx hb hts in_Mo hown hK hP 0 rfl rfl 29 (by decide) (hts (.fieldLink R_Mo 51 R_Mo "stepNodes" "[I") kw4_172) (fun _ h9 => h9) rfl d_Mo_write_100 ?_
              refine lv_iload_n hx hb d_Mo_write_103 rfl (lv_at hl 0 rfl) ?_
              refine va_iald hx hb hK hP 14 0 rfl rfl hw.1 d_Mo_write_104 ?_
              have hw := hw.2
              refine lv_iconst (v := (0 : Int32)) hx hb d_Mo_write_105 (by decide) ?_
              refine xq_go (wr := ([] : va_W)) (stk := fun r => .int r :: [.ref (ad_this 0)]) (xq_runV (As := [.int (u10.2.1.2.2.2.1 ((((100 : Int32) * z_this.1.2.1.2.1) + x2)).toNatClampNeg), .int (0 : Int32)]) (rest := [.ref (ad_this 0)]) ⟨hx, hb, hml, hown, hts⟩ (c_Mo_kid (l := l) (o := o) (D := D) (k := k) (ad_this := ad_this) hw) (cw_Mo_kid hts kw5_207 ⟨by simp only [rm_Mo_write, rm_Mo_kid]; omega, by simp only [rm_Mo_write, rm_Mo_kid]; omega⟩) (va_recv hK hP (ci := 8) (q0 := 0) rfl rfl) (hP.sub [0, 1, 2, 3, 4, 5, 6, 7, 8, 9, 10, 11, 12, 13, 14, 15, 16, 17] rfl) hK hJ hS (va_free hD hS hA [0, 1, 2, 3, 4, 5, 6, 7, 8, 9, 10, 11, 12, 13, 14, 15, 16, 17] rfl) ((hD.sub [0, 1, 2, 3, 4, 5, 6, 7, 8, 9, 10, 11, 12, 13, 14, 15, 16, 17] (by decide) rfl).weaken (fun _ _ _ _ => trivial)) rfl hl.1 (Nat.le_of_ble_eq_true rfl) d_Mo_write_106 ⟨Nat.le_of_ble_eq_true rfl, Nat.le_of_ble_eq_true rfl⟩) hP hD hS hA [0, 1, 2, 3, 4, 5, 6, 7, 8, 9, 10, 11, 12, 13, 14, 15, 16, 17] [] rfl rfl (by decide) (by decide) (fun _ => rfl) (fun r14 u14 H locs hw hP hD hS => ?_) (fun _ _ _ _ h9 => h9.elim)
              have hP : va_P D vwCl (w_Mo k ad_this u10) H := hP.sub [0, 1, 2, 3, 4, 5, 6, 7, 8, 9, 10, 11, 12, 13, 14, 15, 16, 17] rfl
              have hD : va_D A (w_Mo k ad_this u10) := hD.sub [0, 1, 2, 3, 4, 5, 6, 7, 8, 9, 10, 11, 12, 13, 14, 15, 16, 17] (by decide) rfl
              refine xq_go (wr := ([] : va_W)) (stk := fun _ => []) (xq_runV (As := [.int r14]) (rest := []) ⟨hx, hb, hml, hown, hts⟩ (c_Mo_blockOut d dB (l := l) (o := o) (D := D) (k := k) (ad_this := ad_this) hw) (cw_Mo_blockOut hts kw6_32 ⟨by simp only [rm_Mo_write]; omega, by simp only [rm_Mo_write]; omega⟩) (va_recv hK hP (ci := 8) (q0 := 0) rfl rfl) (hP.sub [0, 1, 2, 3, 4, 5, 6, 7, 8, 9, 10, 11, 12, 13, 14, 15, 16, 17] rfl) hK hJ hS (va_free hD hS hA [0, 1, 2, 3, 4, 5, 6, 7, 8, 9, 10, 11, 12, 13, 14, 15, 16, 17] rfl) ((hD.sub [0, 1, 2, 3, 4, 5, 6, 7, 8, 9, 10, 11, 12, 13, 14, 15, 16, 17] (by decide) rfl).weaken (fun _ _ _ _ => trivial)) rfl hl.1 (Nat.le_of_ble_eq_true rfl) d_Mo_write_109 ⟨Nat.le_of_ble_eq_true rfl, Nat.le_of_ble_eq_true rfl⟩) hP hD hS hA [0, 1, 2, 3, 4, 5, 6, 7, 8, 9, 10, 11, 12, 13, 14, 15, 16, 17] [] rfl rfl (by decide) (by decide) (fun _ => rfl) (fun r15 u15 H locs hw hP hD hS => ?_) (fun _ _ _ _ h9 => h9.elim)
              have hP : va_P D vwCl (w_Mo k ad_this u15) H := hP.sub [0, 1, 2, 3, 4, 5, 6, 7, 8, 9, 10, 11, 12, 13, 14, 15, 16, 17] rfl
              have hD : va_D A (w_Mo k ad_this u15) := hD.sub [0, 1, 2, 3, 4, 5, 6, 7, 8, 9, 10, 11, 12, 13, 14, 15, 16, 17] (by decide) rfl
              refine lv_goto (tgt := 132) hx hb d_Mo_write_112 (by decide) ?_
              refine lv_aload_n hx hb d_Mo_write_132 rfl (lv_at hl 1 rfl) ?_
              refine xq_go (wr := ([] : va_W)) (stk := fun _ => []) (xq_runV (As := []) (rest := []) ⟨hx, hb, hml, hown, hts⟩ (c_Mo_newLine (l := l) (o := o) (D := D) (k := k) (ad_this := ad_this) hw) (cw_Mo_newLine hts kw6_36 ⟨by simp only [rm_Mo_write, rm_Mo_newLine]; omega, by simp only [rm_Mo_write, rm_Mo_newLine]; omega⟩) (va_recv hK hP (ci := 8) (q0 := 0) rfl rfl) (hP.sub [0, 1, 2, 3, 4, 5, 6, 7, 8, 9, 10, 11, 12, 13, 14, 15, 16, 17] rfl) hK hJ hS (va_free hD hS hA [0, 1, 2, 3, 4, 5, 6, 7, 8, 9, 10, 11, 12, 13, 14, 15, 16, 17] rfl) ((hD.sub [0, 1, 2, 3, 4, 5, 6, 7, 8, 9, 10, 11, 12, 13, 14, 15, 16, 17] (by decide) rfl).weaken (fun _ _ _ _ => trivial)) rfl hl.1 (Nat.le_of_ble_eq_true rfl) d_Mo_write_133 ⟨Nat.le_of_ble_eq_true rfl, Nat.le_of_ble_eq_true rfl⟩) hP hD hS hA [0, 1, 2, 3, 4, 5, 6, 7, 8, 9, 10, 11, 12, 13, 14, 15, 16, 17] [] rfl rfl (by decide) (by decide) (fun _ => rfl) (fun r16 u16 H locs hw hP hD hS => ?_) (fun _ _ _ _ h9 => h9.elim)
              have hP : va_P D vwCl (w_Mo k ad_this u16) H := hP.sub [0, 1, 2, 3, 4, 5, 6, 7, 8, 9, 10, 11, 12, 13, 14, 15, 16, 17] rfl
              have hD : va_D A (w_Mo k ad_this u16) := hD.sub [0, 1, 2, 3, 4, 5, 6, 7, 8, 9, 10, 11, 12, 13, 14, 15, 16, 17] (by decide) rfl
              refine lv_iinc (v := (x2 + (1 : Int32))) (lv' := [(2, .int (x2 + (1 : Int32))), (3, .int (((100 : Int32) * z_this.1.2.1.2.1) + x2)), (0, .ref (ad_this 0)), (1, .int x1)]) hx hb d_Mo_write_136 hl (k := 3) rfl rfl (by decide) rfl (fun ls hl => ?_)
              refine lv_goto (tgt := 17) hx hb d_Mo_write_139 (by decide) ?_
              exact ih u16 x1 (x2 + (1 : Int32)) H locs ls (lv_sub hl [2, 3, 0] rfl) hP hD hS hw
        · have hw := hw.1 hc
          refine lv_ldc2 (v := (119165719898483 : Int64)) hx hb hown (hts (.constantLong R_Mo 108 (119165719898483)) kw5_87) d_Mo_write_51 ?_
          refine lv_goto (tgt := 77) hx hb d_Mo_write_54 (by decide) ?_
          refine xq_go (wr := ([] : va_W)) (stk := fun _ => []) (xq_runV (As := [.long (119165719898483 : Int64)]) (rest := []) ⟨hx, hb, hml, hown, hts⟩ (c_Mo_word (l := l) (o := o) (D := D) (k := k) (ad_this := ad_this) hw) (cw_Mo_word hts kw6_16 ⟨by simp only [rm_Mo_write, rm_Mo_word]; omega, by simp only [rm_Mo_write, rm_Mo_word]; omega⟩) (va_recv hK hP (ci := 8) (q0 := 0) rfl rfl) (hP.sub [0, 1, 2, 3, 4, 5, 6, 7, 8, 9, 10, 11, 12, 13, 14, 15, 16, 17] rfl) hK hJ hS (va_free hD hS hA [0, 1, 2, 3, 4, 5, 6, 7, 8, 9, 10, 11, 12, 13, 14, 15, 16, 17] rfl) ((hD.sub [0, 1, 2, 3, 4, 5, 6, 7, 8, 9, 10, 11, 12, 13, 14, 15, 16, 17] (by decide) rfl).weaken (fun _ _ _ _ => trivial)) rfl hl.1 (Nat.le_of_ble_eq_true rfl) d_Mo_write_77 ⟨Nat.le_of_ble_eq_true rfl, Nat.le_of_ble_eq_true rfl⟩) hP hD hS hA [0, 1, 2, 3, 4, 5, 6, 7, 8, 9, 10, 11, 12, 13, 14, 15, 16, 17] [] rfl rfl (by decide) (by decide) (fun _ => rfl) (fun r17 u17 H locs hw hP hD hS => ?_) (fun _ _ _ _ h9 => h9.elim)
          have hP : va_P D vwCl (w_Mo k ad_this u17) H := hP.sub [0, 1, 2, 3, 4, 5, 6, 7, 8, 9, 10, 11, 12, 13, 14, 15, 16, 17] rfl
          have hD : va_D A (w_Mo k ad_this u17) := hD.sub [0, 1, 2, 3, 4, 5, 6, 7, 8, 9, 10, 11, 12, 13, 14, 15, 16, 17] (by decide) rfl
          refine lv_aload_n hx hb d_Mo_write_80 rfl (lv_at hl 1 rfl) ?_
          refine lv_iload_n hx hb d_Mo_write_81 rfl (lv_at hl 3 rfl) ?_
          refine lv_i2l hx hb d_Mo_write_82 rfl ?_
          refine xq_go (wr := ([] : va_W)) (stk := fun _ => []) (xq_runV (As := [.long (x2).toInt64]) (rest := []) ⟨hx, hb, hml, hown, hts⟩ (c_Mo_name (l := l) (o := o) (D := D) (k := k) (ad_this := ad_this) hw) (cw_Mo_name hts kw6_28 ⟨by simp only [rm_Mo_write, rm_Mo_name]; omega, by simp only [rm_Mo_write, rm_Mo_name]; omega⟩) (va_recv hK hP (ci := 8) (q0 := 0) rfl rfl) (hP.sub [0, 1, 2, 3, 4, 5, 6, 7, 8, 9, 10, 11, 12, 13, 14, 15, 16, 17] rfl) hK hJ hS (va_free hD hS hA [0, 1, 2, 3, 4, 5, 6, 7, 8, 9, 10, 11, 12, 13, 14, 15, 16, 17] rfl) ((hD.sub [0, 1, 2, 3, 4, 5, 6, 7, 8, 9, 10, 11, 12, 13, 14, 15, 16, 17] (by decide) rfl).weaken (fun _ _ _ _ => trivial)) rfl hl.1 (Nat.le_of_ble_eq_true rfl) d_Mo_write_83 ⟨Nat.le_of_ble_eq_true rfl, Nat.le_of_ble_eq_true rfl⟩) hP hD hS hA [0, 1, 2, 3, 4, 5, 6, 7, 8, 9, 10, 11, 12, 13, 14, 15, 16, 17] [] rfl rfl (by decide) (by decide) (fun _ => rfl) (fun r18 u18 H locs hw hP hD hS => ?_) (fun _ _ _ _ h9 => h9.elim)
          have hP : va_P D vwCl (w_Mo k ad_this u18) H := hP.sub [0, 1, 2, 3, 4, 5, 6, 7, 8, 9, 10, 11, 12, 13, 14, 15, 16, 17] rfl
          have hD : va_D A (w_Mo k ad_this u18) := hD.sub [0, 1, 2, 3, 4, 5, 6, 7, 8, 9, 10, 11, 12, 13, 14, 15, 16, 17] (by decide) rfl
          refine lv_aload_n hx hb d_Mo_write_86 rfl (lv_at hl 1 rfl) ?_
          refine va_get (D := D) (ci := 8) (v := .ref (ad_this 12)) (C := R_Mo) (T := F_Mo) (N := 42) hx hb hts in_Mo hown hK hP 0 rfl rfl 27 (by decide) (hts (.fieldLink R_Mo 45 R_Mo "roles" "[I") kw4_170) (fun _ h9 => h9) rfl d_Mo_write_87 ?_
          refine lv_iload_n hx hb d_Mo_write_90 rfl (lv_at hl 0 rfl) ?_
          refine va_iald hx hb hK hP 12 0 rfl rfl hw.1 d_Mo_write_91 ?_
          have hw := hw.2
          refine lv_bipush (v := (24 : Int32)) hx hb d_Mo_write_92 (by decide) ?_
          refine lv_icmp_ne (tgt := 115) hx hb d_Mo_write_94 (by decide) (fun hc => ?_) (fun hc => ?_)
          · have hw := hw.2 hc
            refine lv_aload_n hx hb d_Mo_write_115 rfl (lv_at hl 1 rfl) ?_
            refine lv_aload_n hx hb d_Mo_write_116 rfl (lv_at hl 1 rfl) ?_
            refine va_get (D := D) (ci := 8) (v := .ref (ad_this 13)) (C := R_Mo) (T := F_Mo) (N := 42) hx hb hts in_Mo hown hK hP 0 rfl rfl 28 (by decide) (hts (.fieldLink R_Mo 48 R_Mo "nameUnits" "[I") kw4_171) (fun _ h9 => h9) rfl d_Mo_write_117 ?_
            refine lv_iload_n hx hb d_Mo_write_120 rfl (lv_at hl 0 rfl) ?_
            refine va_iald hx hb hK hP 13 0 rfl rfl hw.1 d_Mo_write_121 ?_
            have hw := hw.2
            refine xq_go (wr := ([] : va_W)) (stk := fun _ => []) (xq_runV (As := [.int (u18.2.1.2.2.1 ((((100 : Int32) * z_this.1.2.1.2.1) + x2)).toNatClampNeg)]) (rest := []) ⟨hx, hb, hml, hown, hts⟩ (c_Mo_unitWord1 (l := l) (o := o) (D := D) (k := k) (ad_this := ad_this) hw) (cw_Mo_unitWord1 hts kw6_63 ⟨by simp only [rm_Mo_write, rm_Mo_unitWord1]; omega, by simp only [rm_Mo_write, rm_Mo_unitWord1]; omega⟩) (va_recv hK hP (ci := 8) (q0 := 0) rfl rfl) (hP.sub [0, 1, 2, 3, 4, 5, 6, 7, 8, 9, 10, 11, 12, 13, 14, 15, 16, 17] rfl) hK hJ hS (va_free hD hS hA [0, 1, 2, 3, 4, 5, 6, 7, 8, 9, 10, 11, 12, 13, 14, 15, 16, 17] rfl) ((hD.sub [0, 1, 2, 3, 4, 5, 6, 7, 8, 9, 10, 11, 12, 13, 14, 15, 16, 17] (by decide) rfl).weaken (fun _ _ _ _ => trivial)) rfl hl.1 (Nat.le_of_ble_eq_true rfl) d_Mo_write_122 ⟨Nat.le_of_ble_eq_true rfl, Nat.le_of_ble_eq_true rfl⟩) hP hD hS hA [0, 1, 2, 3, 4, 5, 6, 7, 8, 9, 10, 11, 12, 13, 14, 15, 16, 17] [] rfl rfl (by decide) (by decide) (fun _ => rfl) (fun r19 u19 H locs hw hP hD hS => ?_) (fun _ _ _ _ h9 => h9.elim)
            have hP : va_P D vwCl (w_Mo k ad_this u19) H := hP.sub [0, 1, 2, 3, 4, 5, 6, 7, 8, 9, 10, 11, 12, 13, 14, 15, 16, 17] rfl
            have hD : va_D A (w_Mo k ad_this u19) := hD.sub [0, 1, 2, 3, 4, 5, 6, 7, 8, 9, 10, 11, 12, 13, 14, 15, 16, 17] (by decide) rfl
            refine lv_aload_n hx hb d_Mo_write_125 rfl (lv_at hl 1 rfl) ?_
            refine lv_ldc2 (v := (59 : Int64)) hx hb hown (hts (.constantLong R_Mo 391 (59)) kw6_74) d_Mo_write_126 ?_
            refine xq_go (wr := ([] : va_W)) (stk := fun _ => []) (xq_runV (As := [.long (59 : Int64)]) (rest := []) ⟨hx, hb, hml, hown, hts⟩ (c_Mo_word (l := l) (o := o) (D := D) (k := k) (ad_this := ad_this) hw) (cw_Mo_word hts kw6_16 ⟨by simp only [rm_Mo_write, rm_Mo_word]; omega, by simp only [rm_Mo_write, rm_Mo_word]; omega⟩) (va_recv hK hP (ci := 8) (q0 := 0) rfl rfl) (hP.sub [0, 1, 2, 3, 4, 5, 6, 7, 8, 9, 10, 11, 12, 13, 14, 15, 16, 17] rfl) hK hJ hS (va_free hD hS hA [0, 1, 2, 3, 4, 5, 6, 7, 8, 9, 10, 11, 12, 13, 14, 15, 16, 17] rfl) ((hD.sub [0, 1, 2, 3, 4, 5, 6, 7, 8, 9, 10, 11, 12, 13, 14, 15, 16, 17] (by decide) rfl).weaken (fun _ _ _ _ => trivial)) rfl hl.1 (Nat.le_of_ble_eq_true rfl) d_Mo_write_129 ⟨Nat.le_of_ble_eq_true rfl, Nat.le_of_ble_eq_true rfl⟩) hP hD hS hA [0, 1, 2, 3, 4, 5, 6, 7, 8, 9, 10, 11, 12, 13, 14, 15, 16, 17] [] rfl rfl (by decide) (by decide) (fun _ => rfl) (fun r20 u20 H locs hw hP hD hS => ?_) (fun _ _ _ _ h9 => h9.elim)
            have hP : va_P D vwCl (w_Mo k ad_this u20) H := hP.sub [0, 1, 2, 3, 4, 5, 6, 7, 8, 9, 10, 11, 12, 13, 14, 15, 16, 17] rfl
            have hD : va_D A (w_Mo k ad_this u20) := hD.sub [0, 1, 2, 3, 4, 5, 6, 7, 8, 9, 10, 11, 12, 13, 14, 15, 16, 17] (by decide) rfl
            refine lv_aload_n hx hb d_Mo_write_132 rfl (lv_at hl 1 rfl) ?_
            refine xq_go (wr := ([] : va_W)) (stk := fun _ => []) (xq_runV (As := []) (rest := []) ⟨hx, hb, hml, hown, hts⟩ (c_Mo_newLine (l := l) (o := o) (D := D) (k := k) (ad_this := ad_this) hw) (cw_Mo_newLine hts kw6_36 ⟨by simp only [rm_Mo_write, rm_Mo_newLine]; omega, by simp only [rm_Mo_write, rm_Mo_newLine]; omega⟩) (va_recv hK hP (ci := 8) (q0 := 0) rfl rfl) (hP.sub [0, 1, 2, 3, 4, 5, 6, 7, 8, 9, 10, 11, 12, 13, 14, 15, 16, 17] rfl) hK hJ hS (va_free hD hS hA [0, 1, 2, 3, 4, 5, 6, 7, 8, 9, 10, 11, 12, 13, 14, 15, 16, 17] rfl) ((hD.sub [0, 1, 2, 3, 4, 5, 6, 7, 8, 9, 10, 11, 12, 13, 14, 15, 16, 17] (by decide) rfl).weaken (fun _ _ _ _ => trivial)) rfl hl.1 (Nat.le_of_ble_eq_true rfl) d_Mo_write_133 ⟨Nat.le_of_ble_eq_true rfl, Nat.le_of_ble_eq_true rfl⟩) hP hD hS hA [0, 1, 2, 3, 4, 5, 6, 7, 8, 9, 10, 11, 12, 13, 14, 15, 16, 17] [] rfl rfl (by decide) (by decide) (fun _ => rfl) (fun r21 u21 H locs hw hP hD hS => ?_) (fun _ _ _ _ h9 => h9.elim)
            have hP : va_P D vwCl (w_Mo k ad_this u21) H := hP.sub [0, 1, 2, 3, 4, 5, 6, 7, 8, 9, 10, 11, 12, 13, 14, 15, 16, 17] rfl
            have hD : va_D A (w_Mo k ad_this u21) := hD.sub [0, 1, 2, 3, 4, 5, 6, 7, 8, 9, 10, 11, 12, 13, 14, 15, 16, 17] (by decide) rfl
            refine lv_iinc (v := (x2 + (1 : Int32))) (lv' := [(2, .int (x2 + (1 : Int32))), (3, .int (((100 : Int32) * z_this.1.2.1.2.1) + x2)), (0, .ref (ad_this 0)), (1, .int x1)]) hx hb d_Mo_write_136 hl (k := 3) rfl rfl (by decide) rfl (fun ls hl => ?_)
            refine lv_goto (tgt := 17) hx hb d_Mo_write_139 (by decide) ?_
            exact ih u21 x1 (x2 + (1 : Int32)) H locs ls (lv_sub hl [2, 3, 0] rfl) hP hD hS hw
          · have hw := hw.1 hc
            refine lv_aload_n hx hb d_Mo_write_97 rfl (lv_at hl 1 rfl) ?_
            refine lv_aload_n hx hb d_Mo_write_98 rfl (lv_at hl 1 rfl) ?_
            refine lv_aload_n hx hb d_Mo_write_99 rfl (lv_at hl 1 rfl) ?_
            refine va_get (D := D) (ci := 8) (v := .ref (ad_this 14)) (C := R_Mo) (T := F_Mo) (N := 42) hx hb hts in_Mo hown hK hP 0 rfl rfl 29 (by decide) (hts (.fieldLink R_Mo 51 R_Mo "stepNodes" "[I") kw4_172) (fun _ h9 => h9) rfl d_Mo_write_100 ?_
            refine lv_iload_n hx hb d_Mo_write_103 rfl (lv_at hl 0 rfl) ?_
            refine va_iald hx hb hK hP 14 0 rfl rfl hw.1 d_Mo_write_104 ?_
            have hw := hw.2
            refine lv_iconst (v := (0 : Int32)) hx hb d_Mo_write_105 (by decide) ?_
            refine xq_go (wr := ([] : va_W)) (stk := fun r => .int r :: [.ref (ad_this 0)]) (xq_runV (As := [.int (u18.2.1.2.2.2.1 ((((100 : Int32) * z_this.1.2.1.2.1) + x2)).toNatClampNeg), .int (0 : Int32)]) (rest := [.ref (ad_this 0)]) ⟨hx, hb, hml, hown, hts⟩ (c_Mo_kid (l := l) (o := o) (D := D) (k := k) (ad_this := ad_this) hw) (cw_Mo_kid hts kw5_207 ⟨by simp only [rm_Mo_write, rm_Mo_kid]; omega, by simp only [rm_Mo_write, rm_Mo_kid]; omega⟩) (va_recv hK hP (ci := 8) (q0 := 0) rfl rfl) (hP.sub [0, 1, 2, 3, 4, 5, 6, 7, 8, 9, 10, 11, 12, 13, 14, 15, 16, 17] rfl) hK hJ hS (va_free hD hS hA [0, 1, 2, 3, 4, 5, 6, 7, 8, 9, 10, 11, 12, 13, 14, 15, 16, 17] rfl) ((hD.sub [0, 1, 2, 3, 4, 5, 6, 7, 8, 9, 10, 11, 12, 13, 14, 15, 16, 17] (by decide) rfl).weaken (fun _ _ _ _ => trivial)) rfl hl.1 (Nat.le_of_ble_eq_true rfl) d_Mo_write_106 ⟨Nat.le_of_ble_eq_true rfl, Nat.le_of_ble_eq_true rfl⟩) hP hD hS hA [0, 1, 2, 3, 4, 5, 6, 7, 8, 9, 10, 11, 12, 13, 14, 15, 16, 17] [] rfl rfl (by decide) (by decide) (fun _ => rfl) (fun r22 u22 H locs hw hP hD hS => ?_) (fun _ _ _ _ h9 => h9.elim)
            have hP : va_P D vwCl (w_Mo k ad_this u18) H := hP.sub [0, 1, 2, 3, 4, 5, 6, 7, 8, 9, 10, 11, 12, 13, 14, 15, 16, 17] rfl
            have hD : va_D A (w_Mo k ad_this u18) := hD.sub [0, 1, 2, 3, 4, 5, 6, 7, 8, 9, 10, 11, 12, 13, 14, 15, 16, 17] (by decide) rfl
            refine xq_go (wr := ([] : va_W)) (stk := fun _ => []) (xq_runV (As := [.int r22]) (rest := []) ⟨hx, hb, hml, hown, hts⟩ (c_Mo_blockOut d dB (l := l) (o := o) (D := D) (k := k) (ad_this := ad_this) hw) (cw_Mo_blockOut hts kw6_32 ⟨by simp only [rm_Mo_write]; omega, by simp only [rm_Mo_write]; omega⟩) (va_recv hK hP (ci := 8) (q0 := 0) rfl rfl) (hP.sub [0, 1, 2, 3, 4, 5, 6, 7, 8, 9, 10, 11, 12, 13, 14, 15, 16, 17] rfl) hK hJ hS (va_free hD hS hA [0, 1, 2, 3, 4, 5, 6, 7, 8, 9, 10, 11, 12, 13, 14, 15, 16, 17] rfl) ((hD.sub [0, 1, 2, 3, 4, 5, 6, 7, 8, 9, 10, 11, 12, 13, 14, 15, 16, 17] (by decide) rfl).weaken (fun _ _ _ _ => trivial)) rfl hl.1 (Nat.le_of_ble_eq_true rfl) d_Mo_write_109 ⟨Nat.le_of_ble_eq_true rfl, Nat.le_of_ble_eq_true rfl⟩) hP hD hS hA [0, 1, 2, 3, 4, 5, 6, 7, 8, 9, 10, 11, 12, 13, 14, 15, 16, 17] [] rfl rfl (by decide) (by decide) (fun _ => rfl) (fun r23 u23 H locs hw hP hD hS => ?_) (fun _ _ _ _ h9 => h9.elim)
            have hP : va_P D vwCl (w_Mo k ad_this u23) H := hP.sub [0, 1, 2, 3, 4, 5, 6, 7, 8, 9, 10, 11, 12, 13, 14, 15, 16, 17] rfl
            have hD : va_D A (w_Mo k ad_this u23) := hD.sub [0, 1, 2, 3, 4, 5, 6, 7, 8, 9, 10, 11, 12, 13, 14, 15, 16, 17] (by decide) rfl
            refine lv_goto (tgt := 132) hx hb d_Mo_write_112 (by decide) ?_
            refine lv_aload_n hx hb d_Mo_write_132 rfl (lv_at hl 1 rfl) ?_
            refine xq_go (wr := ([] : va_W)) (stk := fun _ => []) (xq_runV (As := []) (rest := []) ⟨hx, hb, hml, hown, hts⟩ (c_Mo_newLine (l := l) (o := o) (D := D) (k := k) (ad_this := ad_this) hw) (cw_Mo_newLine hts kw6_36 ⟨by simp only [rm_Mo_write, rm_Mo_newLine]; omega, by simp only [rm_Mo_write, rm_Mo_newLine]; omega⟩) (va_recv hK hP (ci := 8) (q0 := 0) rfl rfl) (hP.sub [0, 1, 2, 3, 4, 5, 6, 7, 8, 9, 10, 11, 12, 13, 14, 15, 16, 17] rfl) hK hJ hS (va_free hD hS hA [0, 1, 2, 3, 4, 5, 6, 7, 8, 9, 10, 11, 12, 13, 14, 15, 16, 17] rfl) ((hD.sub [0, 1, 2, 3, 4, 5, 6, 7, 8, 9, 10, 11, 12, 13, 14, 15, 16, 17] (by decide) rfl).weaken (fun _ _ _ _ => trivial)) rfl hl.1 (Nat.le_of_ble_eq_true rfl) d_Mo_write_133 ⟨Nat.le_of_ble_eq_true rfl, Nat.le_of_ble_eq_true rfl⟩) hP hD hS hA [0, 1, 2, 3, 4, 5, 6, 7, 8, 9, 10, 11, 12, 13, 14, 15, 16, 17] [] rfl rfl (by decide) (by decide) (fun _ => rfl) (fun r24 u24 H locs hw hP hD hS => ?_) (fun _ _ _ _ h9 => h9.elim)
            have hP : va_P D vwCl (w_Mo k ad_this u24) H := hP.sub [0, 1, 2, 3, 4, 5, 6, 7, 8, 9, 10, 11, 12, 13, 14, 15, 16, 17] rfl
            have hD : va_D A (w_Mo k ad_this u24) := hD.sub [0, 1, 2, 3, 4, 5, 6, 7, 8, 9, 10, 11, 12, 13, 14, 15, 16, 17] (by decide) rfl
            refine lv_iinc (v := (x2 + (1 : Int32))) (lv' := [(2, .int (x2 + (1 : Int32))), (3, .int (((100 : Int32) * z_this.1.2.1.2.1) + x2)), (0, .ref (ad_this 0)), (1, .int x1)]) hx hb d_Mo_write_136 hl (k := 3) rfl rfl (by decide) rfl (fun ls hl => ?_)
            refine lv_goto (tgt := 17) hx hb d_Mo_write_139 (by decide) ?_
            exact ih u24 x1 (x2 + (1 : Int32)) H locs ls (lv_sub hl [2, 3, 0] rfl) hP hD hS hw
set_option maxHeartbeats 4000000 in
set_option maxRecDepth 100000 in
theorem t_Mo_write_L144 {p : Program} {l : Launch} {o : State × Array Value} {e : Env} {s : State} {m : MethodId} {args : Array Value} {below : List Frame} {meth : Method} {c : Code} {D : va_G} {k : Nat → ClassId} {w0 : va_W} {A : Nat → Prop} {ad_this : Nat → Nat} {post : Int32 → T_Mo → Prop} {d dB : Nat} (hAt : xq_At p s m args meth c prog_10_method_62_code 4 (some (.int)) y_Mo_write xq_W) (hK : va_K D vwCl (xt k) s) (hJ : xq_J l o A s s.heap) (hAe : va_A w0 s.heap.size = A) (hA : ∀ q, s.heap.size ≤ q → A q) {K : T_Mo → Int32 → Int32 → Prop} (hX : ∀ (z_this : T_Mo) (x1 : Int32) (x2 : Int32) (H : Heap) (locs : List Loc) (ls : Array Slot), lv_has ls 4 [(0, .ref (ad_this 0)), (1, .int x1), (2, .int x2)] → va_P D vwCl (w_Mo k ad_this z_this) H → va_D A (w_Mo k ad_this z_this) → va_S A s.heap H locs → K z_this x1 x2 → W p l e (rm_Mo_write d dB) s m args below meth c H locs 0 0 (xq_Z below D vwCl (xt k) w0 (fun r : Int32 => some (.int r)) post (fun _ : T_Mo => False) (fun u : T_Mo => w_Mo k ad_this u) 0 0 0 0 s) (F0 m 198 ls [])) :
    ∀ (n9 : Nat) (z_this : T_Mo) (x1 : Int32) (x2 : Int32) (H : Heap) (locs : List Loc) (ls : Array Slot), lv_has ls 4 [(0, .ref (ad_this 0)), (1, .int x1), (2, .int x2)] → va_P D vwCl (w_Mo k ad_this z_this) H → va_D A (w_Mo k ad_this z_this) → va_S A s.heap H locs → wp_Mo_write_L144 d dB K post n9 z_this x1 x2 → W p l e (rm_Mo_write d dB) s m args below meth c H locs 0 0 (xq_Z below D vwCl (xt k) w0 (fun r : Int32 => some (.int r)) post (fun _ : T_Mo => False) (fun u : T_Mo => w_Mo k ad_this u) 0 0 0 0 s) (F0 m 144 ls []) := by
  obtain ⟨hx, hb, hml, hr, hlocks, hown, hts, hex, hnm⟩ := id hAt
  intro n9
  induction n9 with
  | zero => intro z_this x1 x2 H locs ls hl hP hD hS hw; exact False.elim (by rw [wp_Mo_write_L144] at hw; exact hw)
  | succ n9 ih =>
    intro z_this x1 x2 H locs ls hl hP hD hS hw
    rw [wp_Mo_write_L144] at hw
    refine lv_iload_n hx hb d_Mo_write_144 rfl (lv_at hl 2 rfl) ?_
    refine lv_aload_n hx hb d_Mo_write_145 rfl (lv_at hl 0 rfl) ?_
    refine va_get (D := D) (ci := 8) (v := .int z_this.2.2.1.1.1) (C := R_Mo) (T := F_Mo) (N := 42) hx hb hts in_Mo hown hK hP 0 rfl rfl 31 (by decide) (hts (.fieldLink R_Mo 292 R_Mo "topCount" "I") kw4_174) (fun _ h9 => h9) rfl d_Mo_write_146 ?_
    refine lv_icmp_ge (tgt := 198) hx hb d_Mo_write_149 (by decide) (fun hc => ?_) (fun hc => ?_)
    · have hw := hw.1 hc
      exact hX z_this x1 x2 H locs ls (lv_sub hl [0, 1, 2] rfl) hP hD hS hw
    · have hw := hw.2 hc
      refine lv_iload_n hx hb d_Mo_write_152 rfl (lv_at hl 1 rfl) ?_
      refine lv_if_lt (tgt := 198) hx hb d_Mo_write_153 (by decide) (fun hc => ?_) (fun hc => ?_)
      · have hw := hw.1 hc
        exact hX z_this x1 x2 H locs ls (lv_sub hl [0, 1, 2] rfl) hP hD hS hw
      · have hw := hw.2 hc
        refine lv_aload_n hx hb d_Mo_write_156 rfl (lv_at hl 0 rfl) ?_
        refine va_get (D := D) (ci := 8) (v := .ref (ad_this 9)) (C := R_Mo) (T := F_Mo) (N := 42) hx hb hts in_Mo hown hK hP 0 rfl rfl 22 (by decide) (hts (.fieldLink R_Mo 36 R_Mo "tops" "[I") kw4_165) (fun _ h9 => h9) rfl d_Mo_write_157 ?_
        refine lv_sipush (v := (1000 : Int32)) hx hb d_Mo_write_160 (by decide) ?_
        refine lv_aload_n hx hb d_Mo_write_163 rfl (lv_at hl 0 rfl) ?_
        refine va_get (D := D) (ci := 8) (v := .int z_this.1.2.1.2.1) (C := R_Mo) (T := F_Mo) (N := 42) hx hb hts in_Mo hown hK hP 0 rfl rfl 12 (by decide) (hts (.fieldLink R_Mo 185 R_Mo "half" "I") kw4_155) (fun _ h9 => h9) rfl d_Mo_write_164 ?_
        refine lv_imul hx hb d_Mo_write_167 ?_
        refine lv_iload_n hx hb d_Mo_write_168 rfl (lv_at hl 2 rfl) ?_
        refine lv_iadd hx hb d_Mo_write_169 ?_
        refine va_iald hx hb hK hP 9 0 rfl rfl hw.1 d_Mo_write_170 ?_
        have hw := hw.2
        refine lv_istore_n (lv' := [(3, .int (z_this.2.1.1.1.2 ((((1000 : Int32) * z_this.1.2.1.2.1) + x2)).toNatClampNeg)), (0, .ref (ad_this 0)), (1, .int x1), (2, .int x2)]) hx hb d_Mo_write_171 rfl hl (by decide) rfl (fun ls hl => ?_)
        refine lv_aload_n hx hb d_Mo_write_172 rfl (lv_at hl 1 rfl) ?_
        refine va_get (D := D) (ci := 8) (v := .ref (ad_this 2)) (C := R_Mo) (T := F_Mo) (N := 42) hx hb hts in_Mo hown hK hP 0 rfl rfl 14 (by decide) (hts (.fieldLink R_Mo 13 R_Mo "whats" "[I") kw4_157) (fun _ h9 => h9) rfl d_Mo_write_173 ?_
        refine lv_aload_n hx hb d_Mo_write_176 rfl (lv_at hl 1 rfl) ?_
        refine lv_iload_n hx hb d_Mo_write_177 rfl (lv_at hl 0 rfl) ?_
        refine xq_go (wr := ([] : va_W)) (stk := fun r => .int r :: [.ref (ad_this 2)]) (xq_runV (As := [.int (z_this.2.1.1.1.2 ((((1000 : Int32) * z_this.1.2.1.2.1) + x2)).toNatClampNeg)]) (rest := [.ref (ad_this 2)]) ⟨hx, hb, hml, hown, hts⟩ (c_Mo_node1 (l := l) (o := o) (D := D) (k := k) (ad_this := ad_this) hw) (cw_Mo_node1 hts kw5_199 ⟨by simp only [rm_Mo_write, rm_Mo_node1]; omega, by simp only [rm_Mo_write, rm_Mo_node1]; omega⟩) (va_recv hK hP (ci := 8) (q0 := 0) rfl rfl) (hP.sub [0, 1, 2, 3, 4, 5, 6, 7, 8, 9, 10, 11, 12, 13, 14, 15, 16, 17] rfl) hK hJ hS (va_free hD hS hA [0, 1, 2, 3, 4, 5, 6, 7, 8, 9, 10, 11, 12, 13, 14, 15, 16, 17] rfl) ((hD.sub [0, 1, 2, 3, 4, 5, 6, 7, 8, 9, 10, 11, 12, 13, 14, 15, 16, 17] (by decide) rfl).weaken (fun _ _ _ _ => trivial)) rfl hl.1 (Nat.le_of_ble_eq_true rfl) d_Mo_write_178 ⟨Nat.le_of_ble_eq_true rfl, Nat.le_of_ble_eq_true rfl⟩) hP hD hS hA [0, 1, 2, 3, 4, 5, 6, 7, 8, 9, 10, 11, 12, 13, 14, 15, 16, 17] [] rfl rfl (by decide) (by decide) (fun _ => rfl) (fun r25 u25 H locs hw hP hD hS => ?_) (fun _ _ _ _ h9 => h9.elim)
        have hP : va_P D vwCl (w_Mo k ad_this z_this) H := hP.sub [0, 1, 2, 3, 4, 5, 6, 7, 8, 9, 10, 11, 12, 13, 14, 15, 16, 17] rfl
        have hD : va_D A (w_Mo k ad_this z_this) := hD.sub [0, 1, 2, 3, 4, 5, 6, 7, 8, 9, 10, 11, 12, 13, 14, 15, 16, 17] (by decide) rfl
        refine va_iald hx hb hK hP 2 0 rfl rfl hw.1 d_Mo_write_181 ?_
        have hw := hw.2
        refine lv_bipush (v := (24 : Int32)) hx hb d_Mo_write_182 (by decide) ?_
        refine lv_icmp_eq (tgt := 192) hx hb d_Mo_write_184 (by decide) (fun hc => ?_) (fun hc => ?_)
        · have hw := hw.1 hc
          refine lv_iinc (v := (x2 + (1 : Int32))) (lv' := [(2, .int (x2 + (1 : Int32))), (3, .int (z_this.2.1.1.1.2 ((((1000 : Int32) * z_this.1.2.1.2.1) + x2)).toNatClampNeg)), (0, .ref (ad_this 0)), (1, .int x1)]) hx hb d_Mo_write_192 hl (k := 3) rfl rfl (by decide) rfl (fun ls hl => ?_)
          refine lv_goto (tgt := 144) hx hb d_Mo_write_195 (by decide) ?_
          exact ih z_this x1 (x2 + (1 : Int32)) H locs ls (lv_sub hl [2, 3, 0] rfl) hP hD hS hw
        · have hw := hw.2 hc
          refine lv_aload_n hx hb d_Mo_write_187 rfl (lv_at hl 1 rfl) ?_
          refine lv_iload_n hx hb d_Mo_write_188 rfl (lv_at hl 0 rfl) ?_
          refine xq_go (wr := ([] : va_W)) (stk := fun _ => []) (xq_runV (As := [.int (z_this.2.1.1.1.2 ((((1000 : Int32) * z_this.1.2.1.2.1) + x2)).toNatClampNeg)]) (rest := []) ⟨hx, hb, hml, hown, hts⟩ (c_Mo_statementOut (l := l) (o := o) (D := D) (k := k) (F := fBc d dB) (L := fMc d dB) (hrf := c_Mo_blockOut d dB) (ad_this := ad_this) hw) (cw_Mo_statementOut hts kw6_40 ⟨by simp only [rm_Mo_write, rm_Mo_statementOut]; omega, by simp only [rm_Mo_write, rm_Mo_statementOut]; omega⟩) (va_recv hK hP (ci := 8) (q0 := 0) rfl rfl) (hP.sub [0, 1, 2, 3, 4, 5, 6, 7, 8, 9, 10, 11, 12, 13, 14, 15, 16, 17] rfl) hK hJ hS (va_free hD hS hA [0, 1, 2, 3, 4, 5, 6, 7, 8, 9, 10, 11, 12, 13, 14, 15, 16, 17] rfl) ((hD.sub [0, 1, 2, 3, 4, 5, 6, 7, 8, 9, 10, 11, 12, 13, 14, 15, 16, 17] (by decide) rfl).weaken (fun _ _ _ _ => trivial)) rfl hl.1 (Nat.le_of_ble_eq_true rfl) d_Mo_write_189 ⟨Nat.le_of_ble_eq_true rfl, Nat.le_of_ble_eq_true rfl⟩) hP hD hS hA [0, 1, 2, 3, 4, 5, 6, 7, 8, 9, 10, 11, 12, 13, 14, 15, 16, 17] [] rfl rfl (by decide) (by decide) (fun _ => rfl) (fun r26 u26 H locs hw hP hD hS => ?_) (fun _ _ _ _ h9 => h9.elim)
          have hP : va_P D vwCl (w_Mo k ad_this u26) H := hP.sub [0, 1, 2, 3, 4, 5, 6, 7, 8, 9, 10, 11, 12, 13, 14, 15, 16, 17] rfl
          have hD : va_D A (w_Mo k ad_this u26) := hD.sub [0, 1, 2, 3, 4, 5, 6, 7, 8, 9, 10, 11, 12, 13, 14, 15, 16, 17] (by decide) rfl
          refine lv_iinc (v := (x2 + (1 : Int32))) (lv' := [(2, .int (x2 + (1 : Int32))), (3, .int (z_this.2.1.1.1.2 ((((1000 : Int32) * z_this.1.2.1.2.1) + x2)).toNatClampNeg)), (0, .ref (ad_this 0)), (1, .int x1)]) hx hb d_Mo_write_192 hl (k := 3) rfl rfl (by decide) rfl (fun ls hl => ?_)
          refine lv_goto (tgt := 144) hx hb d_Mo_write_195 (by decide) ?_
          exact ih u26 x1 (x2 + (1 : Int32)) H locs ls (lv_sub hl [2, 3, 0] rfl) hP hD hS hw
set_option maxHeartbeats 4000000 in
set_option maxRecDepth 100000 in
theorem c_Mo_write {l : Launch} {o : State × Array Value} {D : va_G} {k : Nat → ClassId} {d dB : Nat} {ad_this : Nat → Nat} {z_this : T_Mo} {a1 : Int32} {post : Int32 → T_Mo → Prop} (hw : wp_Mo_write d dB z_this a1 post) : xq_C l o y_Mo_write (.code y_Mo_write prog_10_method_62_code 4 (some (.int)) :: xq_W) (rm_Mo_write d dB) D vwCl (xt k) [.ref (ad_this 0), .int a1] (w_Mo k ad_this z_this) (fun r : Int32 => some (.int r)) post (fun _ : T_Mo => False) (fun u : T_Mo => w_Mo k ad_this u) 0 0 0 0 := by
  refine xq_ofW (cc := prog_10_method_62_code) (maxL := 4) (ret := (some (.int))) (by decide) rfl (Nat.le_of_ble_eq_true rfl) ?_
  intro p e s m below meth c ls H locs A hAt hAe hA hl hK hJ hP0 hP hD hS
  obtain ⟨hx, hb, hml, hr, hlocks, hown, hts, hex, hnm⟩ := id hAt
  have hl : lv_has ls 4 [(0, .ref (ad_this 0)), (1, .int a1)] := hl
  unfold wp_Mo_write at hw
  refine lv_aload_n hx hb d_Mo_write_0 rfl (lv_at hl 0 rfl) ?_
  refine lv_iload_n hx hb d_Mo_write_1 rfl (lv_at hl 1 rfl) ?_
  refine va_put (D := D) (ci := 8) (v := .int a1) (ty := .int) (C := R_Mo) (T := F_Mo) (N := 42) hx hb hts in_Mo t_Mo t_Mo_ok n_Mo hown hK hP hD hS 0 rfl rfl 38 (by decide) (hts (.fieldLink R_Mo 326 R_Mo "wish" "I") kw4_181) (fun _ h9 => h9) rfl (by decide +kernel) rfl rfl (Nat.le_of_ble_eq_true rfl) d_Mo_write_2 (fun H locs hP hD hS => ?_)
  have hP : va_P D vwCl (w_Mo k ad_this (((((z_this.1.1.1.1.1, z_this.1.1.1.1.2), (z_this.1.1.1.2.1, (z_this.1.1.1.2.2.1, z_this.1.1.1.2.2.2))), ((z_this.1.1.2.1.1, z_this.1.1.2.1.2), (z_this.1.1.2.2.1, (z_this.1.1.2.2.2.1, z_this.1.1.2.2.2.2)))), (((z_this.1.2.1.1.1, z_this.1.2.1.1.2), (z_this.1.2.1.2.1, (z_this.1.2.1.2.2.1, z_this.1.2.1.2.2.2))), ((z_this.1.2.2.1.1, (z_this.1.2.2.1.2.1, z_this.1.2.2.1.2.2)), (z_this.1.2.2.2.1, (z_this.1.2.2.2.2.1, z_this.1.2.2.2.2.2))))), ((((z_this.2.1.1.1.1, z_this.2.1.1.1.2), (z_this.2.1.1.2.1, (z_this.2.1.1.2.2.1, z_this.2.1.1.2.2.2))), ((z_this.2.1.2.1.1, z_this.2.1.2.1.2), (z_this.2.1.2.2.1, (z_this.2.1.2.2.2.1, z_this.2.1.2.2.2.2)))), (((z_this.2.2.1.1.1, z_this.2.2.1.1.2), (z_this.2.2.1.2.1, (z_this.2.2.1.2.2.1, z_this.2.2.1.2.2.2))), ((z_this.2.2.2.1.1, (z_this.2.2.2.1.2.1, a1)), (z_this.2.2.2.2.1, (z_this.2.2.2.2.2.1, z_this.2.2.2.2.2.2))))))) H := hP
  have hD : va_D A (w_Mo k ad_this (((((z_this.1.1.1.1.1, z_this.1.1.1.1.2), (z_this.1.1.1.2.1, (z_this.1.1.1.2.2.1, z_this.1.1.1.2.2.2))), ((z_this.1.1.2.1.1, z_this.1.1.2.1.2), (z_this.1.1.2.2.1, (z_this.1.1.2.2.2.1, z_this.1.1.2.2.2.2)))), (((z_this.1.2.1.1.1, z_this.1.2.1.1.2), (z_this.1.2.1.2.1, (z_this.1.2.1.2.2.1, z_this.1.2.1.2.2.2))), ((z_this.1.2.2.1.1, (z_this.1.2.2.1.2.1, z_this.1.2.2.1.2.2)), (z_this.1.2.2.2.1, (z_this.1.2.2.2.2.1, z_this.1.2.2.2.2.2))))), ((((z_this.2.1.1.1.1, z_this.2.1.1.1.2), (z_this.2.1.1.2.1, (z_this.2.1.1.2.2.1, z_this.2.1.1.2.2.2))), ((z_this.2.1.2.1.1, z_this.2.1.2.1.2), (z_this.2.1.2.2.1, (z_this.2.1.2.2.2.1, z_this.2.1.2.2.2.2)))), (((z_this.2.2.1.1.1, z_this.2.2.1.1.2), (z_this.2.2.1.2.1, (z_this.2.2.1.2.2.1, z_this.2.2.1.2.2.2))), ((z_this.2.2.2.1.1, (z_this.2.2.2.1.2.1, a1)), (z_this.2.2.2.2.1, (z_this.2.2.2.2.2.1, z_this.2.2.2.2.2.2))))))) := hD
  refine lv_aload_n hx hb d_Mo_write_5 rfl (lv_at hl 0 rfl) ?_
  refine lv_iconst (v := (-1 : Int32)) hx hb d_Mo_write_6 (by decide) ?_
  refine va_put (D := D) (ci := 8) (v := .int (-1 : Int32)) (ty := .int) (C := R_Mo) (T := F_Mo) (N := 42) hx hb hts in_Mo t_Mo t_Mo_ok n_Mo hown hK hP hD hS 0 rfl rfl 39 (by decide) (hts (.fieldLink R_Mo 329 R_Mo "found" "I") kw4_182) (fun _ h9 => h9) rfl (by decide +kernel) rfl rfl (Nat.le_of_ble_eq_true rfl) d_Mo_write_7 (fun H locs hP hD hS => ?_)
  have hP : va_P D vwCl (w_Mo k ad_this (((((z_this.1.1.1.1.1, z_this.1.1.1.1.2), (z_this.1.1.1.2.1, (z_this.1.1.1.2.2.1, z_this.1.1.1.2.2.2))), ((z_this.1.1.2.1.1, z_this.1.1.2.1.2), (z_this.1.1.2.2.1, (z_this.1.1.2.2.2.1, z_this.1.1.2.2.2.2)))), (((z_this.1.2.1.1.1, z_this.1.2.1.1.2), (z_this.1.2.1.2.1, (z_this.1.2.1.2.2.1, z_this.1.2.1.2.2.2))), ((z_this.1.2.2.1.1, (z_this.1.2.2.1.2.1, z_this.1.2.2.1.2.2)), (z_this.1.2.2.2.1, (z_this.1.2.2.2.2.1, z_this.1.2.2.2.2.2))))), ((((z_this.2.1.1.1.1, z_this.2.1.1.1.2), (z_this.2.1.1.2.1, (z_this.2.1.1.2.2.1, z_this.2.1.1.2.2.2))), ((z_this.2.1.2.1.1, z_this.2.1.2.1.2), (z_this.2.1.2.2.1, (z_this.2.1.2.2.2.1, z_this.2.1.2.2.2.2)))), (((z_this.2.2.1.1.1, z_this.2.2.1.1.2), (z_this.2.2.1.2.1, (z_this.2.2.1.2.2.1, z_this.2.2.1.2.2.2))), ((z_this.2.2.2.1.1, (z_this.2.2.2.1.2.1, a1)), ((-1 : Int32), (z_this.2.2.2.2.2.1, z_this.2.2.2.2.2.2))))))) H := hP
  have hD : va_D A (w_Mo k ad_this (((((z_this.1.1.1.1.1, z_this.1.1.1.1.2), (z_this.1.1.1.2.1, (z_this.1.1.1.2.2.1, z_this.1.1.1.2.2.2))), ((z_this.1.1.2.1.1, z_this.1.1.2.1.2), (z_this.1.1.2.2.1, (z_this.1.1.2.2.2.1, z_this.1.1.2.2.2.2)))), (((z_this.1.2.1.1.1, z_this.1.2.1.1.2), (z_this.1.2.1.2.1, (z_this.1.2.1.2.2.1, z_this.1.2.1.2.2.2))), ((z_this.1.2.2.1.1, (z_this.1.2.2.1.2.1, z_this.1.2.2.1.2.2)), (z_this.1.2.2.2.1, (z_this.1.2.2.2.2.1, z_this.1.2.2.2.2.2))))), ((((z_this.2.1.1.1.1, z_this.2.1.1.1.2), (z_this.2.1.1.2.1, (z_this.2.1.1.2.2.1, z_this.2.1.1.2.2.2))), ((z_this.2.1.2.1.1, z_this.2.1.2.1.2), (z_this.2.1.2.2.1, (z_this.2.1.2.2.2.1, z_this.2.1.2.2.2.2)))), (((z_this.2.2.1.1.1, z_this.2.2.1.1.2), (z_this.2.2.1.2.1, (z_this.2.2.1.2.2.1, z_this.2.2.1.2.2.2))), ((z_this.2.2.2.1.1, (z_this.2.2.2.1.2.1, a1)), ((-1 : Int32), (z_this.2.2.2.2.2.1, z_this.2.2.2.2.2.2))))))) := hD
  refine lv_aload_n hx hb d_Mo_write_10 rfl (lv_at hl 0 rfl) ?_
  refine lv_iconst (v := (0 : Int32)) hx hb d_Mo_write_11 (by decide) ?_
  refine va_put (D := D) (ci := 8) (v := .int (0 : Int32)) (ty := .boolean) (C := R_Mo) (T := F_Mo) (N := 42) hx hb hts in_Mo t_Mo t_Mo_ok n_Mo hown hK hP hD hS 0 rfl rfl 40 (by decide) (hts (.fieldLink R_Mo 332 R_Mo "blank" "Z") kw4_183) (fun _ h9 => h9) rfl (by decide +kernel) rfl rfl (Nat.le_of_ble_eq_true rfl) d_Mo_write_12 (fun H locs hP hD hS => ?_)
  have hP : va_P D vwCl (w_Mo k ad_this (((((z_this.1.1.1.1.1, z_this.1.1.1.1.2), (z_this.1.1.1.2.1, (z_this.1.1.1.2.2.1, z_this.1.1.1.2.2.2))), ((z_this.1.1.2.1.1, z_this.1.1.2.1.2), (z_this.1.1.2.2.1, (z_this.1.1.2.2.2.1, z_this.1.1.2.2.2.2)))), (((z_this.1.2.1.1.1, z_this.1.2.1.1.2), (z_this.1.2.1.2.1, (z_this.1.2.1.2.2.1, z_this.1.2.1.2.2.2))), ((z_this.1.2.2.1.1, (z_this.1.2.2.1.2.1, z_this.1.2.2.1.2.2)), (z_this.1.2.2.2.1, (z_this.1.2.2.2.2.1, z_this.1.2.2.2.2.2))))), ((((z_this.2.1.1.1.1, z_this.2.1.1.1.2), (z_this.2.1.1.2.1, (z_this.2.1.1.2.2.1, z_this.2.1.1.2.2.2))), ((z_this.2.1.2.1.1, z_this.2.1.2.1.2), (z_this.2.1.2.2.1, (z_this.2.1.2.2.2.1, z_this.2.1.2.2.2.2)))), (((z_this.2.2.1.1.1, z_this.2.2.1.1.2), (z_this.2.2.1.2.1, (z_this.2.2.1.2.2.1, z_this.2.2.1.2.2.2))), ((z_this.2.2.2.1.1, (z_this.2.2.2.1.2.1, a1)), ((-1 : Int32), ((0 : Int32), z_this.2.2.2.2.2.2))))))) H := hP
  have hD : va_D A (w_Mo k ad_this (((((z_this.1.1.1.1.1, z_this.1.1.1.1.2), (z_this.1.1.1.2.1, (z_this.1.1.1.2.2.1, z_this.1.1.1.2.2.2))), ((z_this.1.1.2.1.1, z_this.1.1.2.1.2), (z_this.1.1.2.2.1, (z_this.1.1.2.2.2.1, z_this.1.1.2.2.2.2)))), (((z_this.1.2.1.1.1, z_this.1.2.1.1.2), (z_this.1.2.1.2.1, (z_this.1.2.1.2.2.1, z_this.1.2.1.2.2.2))), ((z_this.1.2.2.1.1, (z_this.1.2.2.1.2.1, z_this.1.2.2.1.2.2)), (z_this.1.2.2.2.1, (z_this.1.2.2.2.2.1, z_this.1.2.2.2.2.2))))), ((((z_this.2.1.1.1.1, z_this.2.1.1.1.2), (z_this.2.1.1.2.1, (z_this.2.1.1.2.2.1, z_this.2.1.1.2.2.2))), ((z_this.2.1.2.1.1, z_this.2.1.2.1.2), (z_this.2.1.2.2.1, (z_this.2.1.2.2.2.1, z_this.2.1.2.2.2.2)))), (((z_this.2.2.1.1.1, z_this.2.2.1.1.2), (z_this.2.2.1.2.1, (z_this.2.2.1.2.2.1, z_this.2.2.1.2.2.2))), ((z_this.2.2.2.1.1, (z_this.2.2.2.1.2.1, a1)), ((-1 : Int32), ((0 : Int32), z_this.2.2.2.2.2.2))))))) := hD
  refine lv_iconst (v := (0 : Int32)) hx hb d_Mo_write_15 (by decide) ?_
  refine lv_istore_n (lv' := [(2, .int (0 : Int32)), (0, .ref (ad_this 0)), (1, .int a1)]) hx hb d_Mo_write_16 rfl hl (by decide) rfl (fun ls hl => ?_)
  obtain ⟨k9, hw⟩ := hw
  refine t_Mo_write_L17 hAt hK hJ hAe hA ?_ k9 (((((z_this.1.1.1.1.1, z_this.1.1.1.1.2), (z_this.1.1.1.2.1, (z_this.1.1.1.2.2.1, z_this.1.1.1.2.2.2))), ((z_this.1.1.2.1.1, z_this.1.1.2.1.2), (z_this.1.1.2.2.1, (z_this.1.1.2.2.2.1, z_this.1.1.2.2.2.2)))), (((z_this.1.2.1.1.1, z_this.1.2.1.1.2), (z_this.1.2.1.2.1, (z_this.1.2.1.2.2.1, z_this.1.2.1.2.2.2))), ((z_this.1.2.2.1.1, (z_this.1.2.2.1.2.1, z_this.1.2.2.1.2.2)), (z_this.1.2.2.2.1, (z_this.1.2.2.2.2.1, z_this.1.2.2.2.2.2))))), ((((z_this.2.1.1.1.1, z_this.2.1.1.1.2), (z_this.2.1.1.2.1, (z_this.2.1.1.2.2.1, z_this.2.1.1.2.2.2))), ((z_this.2.1.2.1.1, z_this.2.1.2.1.2), (z_this.2.1.2.2.1, (z_this.2.1.2.2.2.1, z_this.2.1.2.2.2.2)))), (((z_this.2.2.1.1.1, z_this.2.2.1.1.2), (z_this.2.2.1.2.1, (z_this.2.2.1.2.2.1, z_this.2.2.1.2.2.2))), ((z_this.2.2.2.1.1, (z_this.2.2.2.1.2.1, a1)), ((-1 : Int32), ((0 : Int32), z_this.2.2.2.2.2.2)))))) a1 (0 : Int32) H locs ls (lv_sub hl [1, 2, 0] rfl) hP hD hS hw
  intro z_this x1 x2 H locs ls hl hP hD hS hw
  refine lv_iconst (v := (0 : Int32)) hx hb d_Mo_write_142 (by decide) ?_
  refine lv_istore_n (lv' := [(2, .int (0 : Int32)), (0, .ref (ad_this 0)), (1, .int x1)]) hx hb d_Mo_write_143 rfl hl (by decide) rfl (fun ls hl => ?_)
  obtain ⟨k9, hw⟩ := hw
  refine t_Mo_write_L144 hAt hK hJ hAe hA ?_ k9 z_this x1 (0 : Int32) H locs ls (lv_sub hl [1, 2, 0] rfl) hP hD hS hw
  intro z_this x1 x2 H locs ls hl hP hD hS hw
  refine lv_aload_n hx hb d_Mo_write_198 rfl (lv_at hl 0 rfl) ?_
  refine va_get (D := D) (ci := 8) (v := .int z_this.2.2.2.2.1) (C := R_Mo) (T := F_Mo) (N := 42) hx hb hts in_Mo hown hK hP 0 rfl rfl 39 (by decide) (hts (.fieldLink R_Mo 329 R_Mo "found" "I") kw4_182) (fun _ h9 => h9) rfl d_Mo_write_199 ?_
  exact xq_iret (r := z_this.2.2.2.2.1) (u := z_this) hx hb hr hlocks hAe hP hD hS rfl hw (Nat.le_of_ble_eq_true rfl) (Nat.le_of_ble_eq_true rfl) d_Mo_write_202
theorem cw_Mo_write {R : Room} {s : State} {args : Array Value} {own : String} {index : Nat} (hts : ∀ w ∈ xq_W, w.before args s = true) (hl : .methodLink own index y_Mo_write ∈ xq_W) {rm : Room} (hR : rm.frames + 1 ≤ R.frames ∧ 8 + (4 + 11) + rm.locals ≤ R.locals) : CallW R s args own "StepTextModel" index y_Mo_write prog_10_method_62_code 4 (some (.int)) (.code y_Mo_write prog_10_method_62_code 4 (some (.int)) :: xq_W) rm rm.cells rm.slots 1 := ⟨xq_cb 1 hts kw6_15 kw1_13 hl ⟨by decide, by decide, by decide +kernel⟩ hR, hts _ kw6_13, hts _ kw6_14⟩
