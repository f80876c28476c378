theorem kw5_185 : (Jvm.Cond.code ({ cls := "StepTextModel", name := "test", desc := "()I" } : Jvm.MethodName) prog_10_method_23_code (5 : Nat) (Option.some Jvm.ClassFile.FieldType.int)) ∈ xq_W := xq_in tb_5 185 (by decide +kernel) rfl
theorem kw5_184 : (Jvm.Cond.instanceMethod ({ cls := "StepTextModel", name := "test", desc := "()I" } : Jvm.MethodName)) ∈ xq_W := xq_in tb_5 184 (by decide +kernel) rfl
theorem kp5_13 : Cond.selects "StepTextModel" (⟨"StepTextModel", "test", "()I"⟩ : MethodName) (⟨"StepTextModel", "test", "()I"⟩ : MethodName) ∈ xq_W := xq_inp tp_5 (y := (⟨"StepTextModel", "test", "()I"⟩ : MethodName)) (k := 42) 13 (by decide +kernel)
theorem kw5_142 : (Jvm.Cond.code ({ cls := "StepTextModel", name := "sumOf", desc := "(I)Z" } : Jvm.MethodName) prog_10_method_28_code (3 : Nat) (Option.some Jvm.ClassFile.FieldType.boolean)) ∈ xq_W := xq_in tb_5 142 (by decide +kernel) rfl
theorem kw5_141 : (Jvm.Cond.instanceMethod ({ cls := "StepTextModel", name := "sumOf", desc := "(I)Z" } : Jvm.MethodName)) ∈ xq_W := xq_in tb_5 141 (by decide +kernel) rfl
theorem kp5_3 : Cond.selects "StepTextModel" (⟨"StepTextModel", "sumOf", "(I)Z"⟩ : MethodName) (⟨"StepTextModel", "sumOf", "(I)Z"⟩ : MethodName) ∈ xq_W := xq_inp tp_5 (y := (⟨"StepTextModel", "sumOf", "(I)Z"⟩ : MethodName)) (k := 42) 3 (by decide +kernel)
def y_Mo_test : MethodName := ⟨"StepTextModel", "test", "()I"⟩
theorem d_Mo_test_0 : decode prog_10_method_23_code 0 = .ok (.aload_n 0, 1) := by decide +kernel
theorem d_Mo_test_1 : decode prog_10_method_23_code 1 = .ok (.invokevirtual 230, 3) := by decide +kernel
theorem d_Mo_test_4 : decode prog_10_method_23_code 4 = .ok (.istore_n 1, 1) := by decide +kernel
theorem d_Mo_test_5 : decode prog_10_method_23_code 5 = .ok (.iload_n 1, 1) := by decide +kernel
theorem d_Mo_test_6 : decode prog_10_method_23_code 6 = .ok (.ifCond .ge 5, 3) := by decide +kernel
theorem d_Mo_test_9 : decode prog_10_method_23_code 9 = .ok (.iconst (-1), 1) := by decide +kernel
theorem d_Mo_test_10 : decode prog_10_method_23_code 10 = .ok (.ireturn, 1) := by decide +kernel
theorem d_Mo_test_11 : decode prog_10_method_23_code 11 = .ok (.aload_n 0, 1) := by decide +kernel
theorem d_Mo_test_12 : decode prog_10_method_23_code 12 = .ok (.getfield 145, 3) := by decide +kernel
theorem d_Mo_test_15 : decode prog_10_method_23_code 15 = .ok (.bipush 60, 2) := by decide +kernel
theorem d_Mo_test_17 : decode prog_10_method_23_code 17 = .ok (.if_icmp .eq 26, 3) := by decide +kernel
theorem d_Mo_test_20 : decode prog_10_method_23_code 20 = .ok (.aload_n 0, 1) := by decide +kernel
theorem d_Mo_test_21 : decode prog_10_method_23_code 21 = .ok (.getfield 145, 3) := by decide +kernel
theorem d_Mo_test_24 : decode prog_10_method_23_code 24 = .ok (.bipush 61, 2) := by decide +kernel
theorem d_Mo_test_26 : decode prog_10_method_23_code 26 = .ok (.if_icmp .eq 17, 3) := by decide +kernel
theorem d_Mo_test_29 : decode prog_10_method_23_code 29 = .ok (.aload_n 0, 1) := by decide +kernel
theorem d_Mo_test_30 : decode prog_10_method_23_code 30 = .ok (.getfield 145, 3) := by decide +kernel
theorem d_Mo_test_33 : decode prog_10_method_23_code 33 = .ok (.bipush 62, 2) := by decide +kernel
theorem d_Mo_test_35 : decode prog_10_method_23_code 35 = .ok (.if_icmp .eq 8, 3) := by decide +kernel
theorem d_Mo_test_38 : decode prog_10_method_23_code 38 = .ok (.aload_n 0, 1) := by decide +kernel
theorem d_Mo_test_39 : decode prog_10_method_23_code 39 = .ok (.invokevirtual 191, 3) := by decide +kernel
theorem d_Mo_test_42 : decode prog_10_method_23_code 42 = .ok (.ireturn, 1) := by decide +kernel
theorem d_Mo_test_43 : decode prog_10_method_23_code 43 = .ok (.aload_n 0, 1) := by decide +kernel
theorem d_Mo_test_44 : decode prog_10_method_23_code 44 = .ok (.getfield 145, 3) := by decide +kernel
theorem d_Mo_test_47 : decode prog_10_method_23_code 47 = .ok (.bipush 60, 2) := by decide +kernel
theorem d_Mo_test_49 : decode prog_10_method_23_code 49 = .ok (.if_icmp .ne 8, 3) := by decide +kernel
theorem d_Mo_test_52 : decode prog_10_method_23_code 52 = .ok (.bipush 7, 2) := by decide +kernel
theorem d_Mo_test_54 : decode prog_10_method_23_code 54 = .ok (.goto 19, 3) := by decide +kernel
theorem d_Mo_test_57 : decode prog_10_method_23_code 57 = .ok (.aload_n 0, 1) := by decide +kernel
theorem d_Mo_test_58 : decode prog_10_method_23_code 58 = .ok (.getfield 145, 3) := by decide +kernel
theorem d_Mo_test_61 : decode prog_10_method_23_code 61 = .ok (.bipush 61, 2) := by decide +kernel
theorem d_Mo_test_63 : decode prog_10_method_23_code 63 = .ok (.if_icmp .ne 8, 3) := by decide +kernel
theorem d_Mo_test_66 : decode prog_10_method_23_code 66 = .ok (.bipush 8, 2) := by decide +kernel
theorem d_Mo_test_68 : decode prog_10_method_23_code 68 = .ok (.goto 5, 3) := by decide +kernel
theorem d_Mo_test_71 : decode prog_10_method_23_code 71 = .ok (.bipush 9, 2) := by decide +kernel
theorem d_Mo_test_73 : decode prog_10_method_23_code 73 = .ok (.istore_n 2, 1) := by decide +kernel
theorem d_Mo_test_74 : decode prog_10_method_23_code 74 = .ok (.aload_n 0, 1) := by decide +kernel
theorem d_Mo_test_75 : decode prog_10_method_23_code 75 = .ok (.getfield 68, 3) := by decide +kernel
theorem d_Mo_test_78 : decode prog_10_method_23_code 78 = .ok (.istore_n 3, 1) := by decide +kernel
theorem d_Mo_test_79 : decode prog_10_method_23_code 79 = .ok (.aload_n 0, 1) := by decide +kernel
theorem d_Mo_test_80 : decode prog_10_method_23_code 80 = .ok (.invokevirtual 181, 3) := by decide +kernel
theorem d_Mo_test_83 : decode prog_10_method_23_code 83 = .ok (.ifCond .eq 10, 3) := by decide +kernel
theorem d_Mo_test_86 : decode prog_10_method_23_code 86 = .ok (.aload_n 0, 1) := by decide +kernel
theorem d_Mo_test_87 : decode prog_10_method_23_code 87 = .ok (.invokevirtual 230, 3) := by decide +kernel
theorem d_Mo_test_90 : decode prog_10_method_23_code 90 = .ok (.goto 4, 3) := by decide +kernel
theorem d_Mo_test_93 : decode prog_10_method_23_code 93 = .ok (.iconst (-1), 1) := by decide +kernel
theorem d_Mo_test_94 : decode prog_10_method_23_code 94 = .ok (.istore 4, 2) := by decide +kernel
theorem d_Mo_test_96 : decode prog_10_method_23_code 96 = .ok (.iload 4, 2) := by decide +kernel
theorem d_Mo_test_98 : decode prog_10_method_23_code 98 = .ok (.ifCond .ge 5, 3) := by decide +kernel
theorem d_Mo_test_101 : decode prog_10_method_23_code 101 = .ok (.iconst (-1), 1) := by decide +kernel
theorem d_Mo_test_102 : decode prog_10_method_23_code 102 = .ok (.ireturn, 1) := by decide +kernel
theorem d_Mo_test_103 : decode prog_10_method_23_code 103 = .ok (.aload_n 0, 1) := by decide +kernel
theorem d_Mo_test_104 : decode prog_10_method_23_code 104 = .ok (.iload_n 1, 1) := by decide +kernel
theorem d_Mo_test_105 : decode prog_10_method_23_code 105 = .ok (.invokevirtual 214, 3) := by decide +kernel
theorem d_Mo_test_108 : decode prog_10_method_23_code 108 = .ok (.aload_n 0, 1) := by decide +kernel
theorem d_Mo_test_109 : decode prog_10_method_23_code 109 = .ok (.iload 4, 2) := by decide +kernel
theorem d_Mo_test_111 : decode prog_10_method_23_code 111 = .ok (.invokevirtual 214, 3) := by decide +kernel
theorem d_Mo_test_114 : decode prog_10_method_23_code 114 = .ok (.if_icmp .eq 10, 3) := by decide +kernel
theorem d_Mo_test_117 : decode prog_10_method_23_code 117 = .ok (.aload_n 0, 1) := by decide +kernel
theorem d_Mo_test_118 : decode prog_10_method_23_code 118 = .ok (.iload_n 3, 1) := by decide +kernel
theorem d_Mo_test_119 : decode prog_10_method_23_code 119 = .ok (.putfield 158, 3) := by decide +kernel
theorem d_Mo_test_122 : decode prog_10_method_23_code 122 = .ok (.iconst (-1), 1) := by decide +kernel
theorem d_Mo_test_123 : decode prog_10_method_23_code 123 = .ok (.ireturn, 1) := by decide +kernel
theorem d_Mo_test_124 : decode prog_10_method_23_code 124 = .ok (.aload_n 0, 1) := by decide +kernel
theorem d_Mo_test_125 : decode prog_10_method_23_code 125 = .ok (.iload_n 2, 1) := by decide +kernel
theorem d_Mo_test_126 : decode prog_10_method_23_code 126 = .ok (.iload_n 1, 1) := by decide +kernel
theorem d_Mo_test_127 : decode prog_10_method_23_code 127 = .ok (.iload 4, 2) := by decide +kernel
theorem d_Mo_test_129 : decode prog_10_method_23_code 129 = .ok (.iconst (-1), 1) := by decide +kernel
theorem d_Mo_test_130 : decode prog_10_method_23_code 130 = .ok (.invokevirtual 217, 3) := by decide +kernel
theorem d_Mo_test_133 : decode prog_10_method_23_code 133 = .ok (.ireturn, 1) := by decide +kernel
def wp_Mo_test_J94 (rf : T_Mo → (Int32 → T_Mo → Prop) → Prop) (post : Int32 → T_Mo → Prop) (z_this : T_Mo) (x1 : Int32) (x2 : Int32) (x3 : Int32) (y0 : Int32) : Prop := (0 ≤ y0 → (wp_Mo_unitIn z_this x1 (fun (r3 : Int32) (u3 : Unit) => wp_Mo_unitIn z_this y0 (fun (r4 : Int32) (u4 : Unit) => (r3 = r4 → (wp_Mo_two z_this x2 x1 y0 (-1 : Int32) (fun (r5 : Int32) (u5 : T_Mo) => post r5 u5))) ∧ (¬ r3 = r4 → (post (-1 : Int32) (((((z_this.1.1.1.1.1, z_this.1.1.1.1.2), (z_this.1.1.1.2.1, (z_this.1.1.1.2.2.1, z_this.1.1.1.2.2.2))), ((z_this.1.1.2.1.1, z_this.1.1.2.1.2), (z_this.1.1.2.2.1, (z_this.1.1.2.2.2.1, z_this.1.1.2.2.2.2)))), (((x3, z_this.1.2.1.1.2), (z_this.1.2.1.2.1, (z_this.1.2.1.2.2.1, z_this.1.2.1.2.2.2))), ((z_this.1.2.2.1.1, (z_this.1.2.2.1.2.1, z_this.1.2.2.1.2.2)), (z_this.1.2.2.2.1, (z_this.1.2.2.2.2.1, z_this.1.2.2.2.2.2))))), ((((z_this.2.1.1.1.1, z_this.2.1.1.1.2), (z_this.2.1.1.2.1, (z_this.2.1.1.2.2.1, z_this.2.1.1.2.2.2))), ((z_this.2.1.2.1.1, z_this.2.1.2.1.2), (z_this.2.1.2.2.1, (z_this.2.1.2.2.2.1, z_this.2.1.2.2.2.2)))), (((z_this.2.2.1.1.1, z_this.2.2.1.1.2), (z_this.2.2.1.2.1, (z_this.2.2.1.2.2.1, z_this.2.2.1.2.2.2))), ((z_this.2.2.2.1.1, (z_this.2.2.2.1.2.1, z_this.2.2.2.1.2.2)), (z_this.2.2.2.2.1, (z_this.2.2.2.2.2.1, z_this.2.2.2.2.2.2)))))))))))) ∧ (¬ 0 ≤ y0 → (post (-1 : Int32) z_this))
def wp_Mo_test_J73 (rf : T_Mo → (Int32 → T_Mo → Prop) → Prop) (post : Int32 → T_Mo → Prop) (z_this : T_Mo) (x1 : Int32) (y0 : Int32) : Prop := wp_Mo_go z_this (fun (r2 : Int32) (u2 : T_Mo) => (r2 = 0 → (wp_Mo_test_J94 rf post u2 x1 y0 z_this.1.1.2.1.1 (-1 : Int32))) ∧ (¬ r2 = 0 → (wp_Mo_sum rf u2 (fun (r6 : Int32) (u6 : T_Mo) => wp_Mo_test_J94 rf post u6 x1 y0 z_this.1.1.2.1.1 r6))))
def wp_Mo_test_J43 (rf : T_Mo → (Int32 → T_Mo → Prop) → Prop) (post : Int32 → T_Mo → Prop) (z_this : T_Mo) (x1 : Int32) : Prop := (z_this.1.1.1.2.2.2 = (60 : Int32) → (wp_Mo_test_J73 rf post z_this x1 (7 : Int32))) ∧ (¬ z_this.1.1.1.2.2.2 = (60 : Int32) → ((z_this.1.1.1.2.2.2 = (61 : Int32) → (wp_Mo_test_J73 rf post z_this x1 (8 : Int32))) ∧ (¬ z_this.1.1.1.2.2.2 = (61 : Int32) → (wp_Mo_test_J73 rf post z_this x1 (9 : Int32)))))
def wp_Mo_test (rf : T_Mo → (Int32 → T_Mo → Prop) → Prop) (z_this : T_Mo) (post : Int32 → T_Mo → Prop) : Prop := wp_Mo_sum rf z_this (fun (r1 : Int32) (u1 : T_Mo) => (0 ≤ r1 → ((u1.1.1.1.2.2.2 = (60 : Int32) → (wp_Mo_test_J43 rf post u1 r1)) ∧ (¬ u1.1.1.1.2.2.2 = (60 : Int32) → ((u1.1.1.1.2.2.2 = (61 : Int32) → (wp_Mo_test_J43 rf post u1 r1)) ∧ (¬ u1.1.1.1.2.2.2 = (61 : Int32) → ((u1.1.1.1.2.2.2 = (62 : Int32) → (wp_Mo_test_J43 rf post u1 r1)) ∧ (¬ u1.1.1.1.2.2.2 = (62 : Int32) → (wp_Mo_bad u1 (fun (r7 : Int32) (u7 : T_Mo) => post r7 u7))))))))) ∧ (¬ 0 ≤ r1 → (post (-1 : Int32) u1)))
def rm_Mo_test (F L : Nat) : Room := { frames := max (F + 3) 5, cells := 0, slots := 0, locals := max (L + 75) 124 }
set_option maxHeartbeats 4000000 in
set_option maxRecDepth 100000 in
theorem t_Mo_test_J94 {p : Program} {l : Launch} {o : State × Array Value} {e : Env} {s : State} {m : MethodId} {args : Array Value} {below : List Frame} {meth : Method} {c : Code} {D : va_G} {k : Nat → ClassId} {w0 : va_W} {A : Nat → Prop} {ad_this : Nat → Nat} {post : Int32 → T_Mo → Prop} {rf : T_Mo → (Int32 → T_Mo → Prop) → Prop} {F L : Nat} (hrf : ∀ {ad_this : Nat → Nat} {z_this : T_Mo} {post : Int32 → T_Mo → Prop}, rf z_this post → xq_C l o y_Mo_factor (.code y_Mo_factor prog_10_method_21_code 5 (some (.int)) :: xq_W) { frames := F, cells := 0, slots := 0, locals := L } D vwCl (xt k) [.ref (ad_this 0)] (w_Mo k ad_this z_this) (fun r : Int32 => some (.int r)) post (fun _ : T_Mo => False) (fun u : T_Mo => w_Mo k ad_this u) 0 0 0 0) (hAt : xq_At p s m args meth c prog_10_method_23_code 5 (some (.int)) y_Mo_test xq_W) (hK : va_K D vwCl (xt k) s) (hJ : xq_J l o A s s.heap) (hAe : va_A w0 s.heap.size = A) (hA : ∀ q, s.heap.size ≤ q → A q) :
    ∀ (z_this : T_Mo) (x1 : Int32) (x2 : Int32) (x3 : Int32) (y0 : Int32) (H : Heap) (locs : List Loc) (ls : Array Slot), lv_has ls 5 [(0, .ref (ad_this 0)), (1, .int x1), (2, .int x2), (3, .int x3)] → va_P D vwCl (w_Mo k ad_this z_this) H → va_D A (w_Mo k ad_this z_this) → va_S A s.heap H locs → wp_Mo_test_J94 rf post z_this x1 x2 x3 y0 → W p l e (rm_Mo_test F L) s m args below meth c H locs 0 0 (xq_Z below D vwCl (xt k) w0 (fun r : Int32 => some (.int r)) post (fun _ : T_Mo => False) (fun u : T_Mo => w_Mo k ad_this u) 0 0 0 0 s) (F0 m 94 ls [.int y0]) := by
  obtain ⟨hx, hb, hml, hr, hlocks, hown, hts, hex, hnm⟩ := id hAt
  intro z_this x1 x2 x3 y0 H locs ls hl hP hD hS hw
  unfold wp_Mo_test_J94 at hw
  refine lv_istore (lv' := [(4, .int y0), (0, .ref (ad_this 0)), (1, .int x1), (2, .int x2), (3, .int x3)]) hx hb d_Mo_test_94 hl (by decide) rfl (fun ls hl => ?_)
  refine lv_iload hx hb d_Mo_test_96 (lv_at hl 0 rfl) ?_
  refine lv_if_ge (tgt := 103) hx hb d_Mo_test_98 (by decide) (fun hc => ?_) (fun hc => ?_)
  · have hw := hw.1 hc
    refine lv_aload_n hx hb d_Mo_test_103 rfl (lv_at hl 1 rfl) ?_
    refine lv_iload_n hx hb d_Mo_test_104 rfl (lv_at hl 2 rfl) ?_
    refine xq_go (wr := ([] : va_W)) (stk := fun r => .int r :: []) (xq_runV (As := [.int x1]) (rest := []) ⟨hx, hb, hml, hown, hts⟩ (c_Mo_unitIn (l := l) (o := o) (D := D) (k := k) (ad_this := ad_this) hw) (cw_Mo_unitIn hts kw5_174 ⟨by simp only [rm_Mo_test, rm_Mo_unitIn]; omega, by simp only [rm_Mo_test, rm_Mo_unitIn]; omega⟩) (va_recv hK hP (ci := 8) (q0 := 0) rfl rfl) (hP.sub [0, 1, 2, 3, 4, 5, 6, 7, 8, 9, 10, 11, 12, 13, 14, 15, 16, 17] rfl) hK hJ hS (va_free hD hS hA [0, 1, 2, 3, 4, 5, 6, 7, 8, 9, 10, 11, 12, 13, 14, 15, 16, 17] rfl) ((hD.sub [0, 1, 2, 3, 4, 5, 6, 7, 8, 9, 10, 11, 12, 13, 14, 15, 16, 17] (by decide) rfl).weaken (fun _ _ _ _ => trivial)) rfl hl.1 (Nat.le_of_ble_eq_true rfl) d_Mo_test_105 ⟨Nat.le_of_ble_eq_true rfl, Nat.le_of_ble_eq_true rfl⟩) hP hD hS hA [0, 1, 2, 3, 4, 5, 6, 7, 8, 9, 10, 11, 12, 13, 14, 15, 16, 17] [] rfl rfl (by decide) (by decide) (fun _ => rfl) (fun r3 u3 H locs hw hP hD hS => ?_) (fun _ _ _ _ h9 => h9.elim)
    have hP : va_P D vwCl (w_Mo k ad_this z_this) H := hP.sub [0, 1, 2, 3, 4, 5, 6, 7, 8, 9, 10, 11, 12, 13, 14, 15, 16, 17] rfl
    have hD : va_D A (w_Mo k ad_this z_this) := hD.sub [0, 1, 2, 3, 4, 5, 6, 7, 8, 9, 10, 11, 12, 13, 14, 15, 16, 17] (by decide) rfl
    refine lv_aload_n hx hb d_Mo_test_108 rfl (lv_at hl 1 rfl) ?_
    refine lv_iload hx hb d_Mo_test_109 (lv_at hl 0 rfl) ?_
    refine xq_go (wr := ([] : va_W)) (stk := fun r => .int r :: [.int r3]) (xq_runV (As := [.int y0]) (rest := [.int r3]) ⟨hx, hb, hml, hown, hts⟩ (c_Mo_unitIn (l := l) (o := o) (D := D) (k := k) (ad_this := ad_this) hw) (cw_Mo_unitIn hts kw5_174 ⟨by simp only [rm_Mo_test, rm_Mo_unitIn]; omega, by simp only [rm_Mo_test, rm_Mo_unitIn]; omega⟩) (va_recv hK hP (ci := 8) (q0 := 0) rfl rfl) (hP.sub [0, 1, 2, 3, 4, 5, 6, 7, 8, 9, 10, 11, 12, 13, 14, 15, 16, 17] rfl) hK hJ hS (va_free hD hS hA [0, 1, 2, 3, 4, 5, 6, 7, 8, 9, 10, 11, 12, 13, 14, 15, 16, 17] rfl) ((hD.sub [0, 1, 2, 3, 4, 5, 6, 7, 8, 9, 10, 11, 12, 13, 14, 15, 16, 17] (by decide) rfl).weaken (fun _ _ _ _ => trivial)) rfl hl.1 (Nat.le_of_ble_eq_true rfl) d_Mo_test_111 ⟨Nat.le_of_ble_eq_true rfl, Nat.le_of_ble_eq_true rfl⟩) hP hD hS hA [0, 1, 2, 3, 4, 5, 6, 7, 8, 9, 10, 11, 12, 13, 14, 15, 16, 17] [] rfl rfl (by decide) (by decide) (fun _ => rfl) (fun r4 u4 H locs hw hP hD hS => ?_) (fun _ _ _ _ h9 => h9.elim)
    have hP : va_P D vwCl (w_Mo k ad_this z_this) H := hP.sub [0, 1, 2, 3, 4, 5, 6, 7, 8, 9, 10, 11, 12, 13, 14, 15, 16, 17] rfl
    have hD : va_D A (w_Mo k ad_this z_this) := hD.sub [0, 1, 2, 3, 4, 5, 6, 7, 8, 9, 10, 11, 12, 13, 14, 15, 16, 17] (by decide) rfl
    refine lv_icmp_eq (tgt := 124) hx hb d_Mo_test_114 (by decide) (fun hc => ?_) (fun hc => ?_)
    · have hw := hw.1 hc
      refine lv_aload_n hx hb d_Mo_test_124 rfl (lv_at hl 1 rfl) ?_
      refine lv_iload_n hx hb d_Mo_test_125 rfl (lv_at hl 3 rfl) ?_
      refine lv_iload_n hx hb d_Mo_test_126 rfl (lv_at hl 2 rfl) ?_
      refine lv_iload hx hb d_Mo_test_127 (lv_at hl 0 rfl) ?_
      refine lv_iconst (v := (-1 : Int32)) hx hb d_Mo_test_129 (by decide) ?_
      refine xq_go (wr := ([] : va_W)) (stk := fun r => .int r :: []) (xq_runV (As := [.int x2, .int x1, .int y0, .int (-1 : Int32)]) (rest := []) ⟨hx, hb, hml, hown, hts⟩ (c_Mo_two (l := l) (o := o) (D := D) (k := k) (ad_this := ad_this) hw) (cw_Mo_two hts kw5_178 ⟨by simp only [rm_Mo_test, rm_Mo_two]; omega, by simp only [rm_Mo_test, rm_Mo_two]; omega⟩) (va_recv hK hP (ci := 8) (q0 := 0) rfl rfl) (hP.sub [0, 1, 2, 3, 4, 5, 6, 7, 8, 9, 10, 11, 12, 13, 14, 15, 16, 17] rfl) hK hJ hS (va_free hD hS hA [0, 1, 2, 3, 4, 5, 6, 7, 8, 9, 10, 11, 12, 13, 14, 15, 16, 17] rfl) ((hD.sub [0, 1, 2, 3, 4, 5, 6, 7, 8, 9, 10, 11, 12, 13, 14, 15, 16, 17] (by decide) rfl).weaken (fun _ _ _ _ => trivial)) rfl hl.1 (Nat.le_of_ble_eq_true rfl) d_Mo_test_130 ⟨Nat.le_of_ble_eq_true rfl, Nat.le_of_ble_eq_true rfl⟩) hP hD hS hA [0, 1, 2, 3, 4, 5, 6, 7, 8, 9, 10, 11, 12, 13, 14, 15, 16, 17] [] rfl rfl (by decide) (by decide) (fun _ => rfl) (fun r5 u5 H locs hw hP hD hS => ?_) (fun _ _ _ _ h9 => h9.elim)
      have hP : va_P D vwCl (w_Mo k ad_this u5) H := hP.sub [0, 1, 2, 3, 4, 5, 6, 7, 8, 9, 10, 11, 12, 13, 14, 15, 16, 17] rfl
      have hD : va_D A (w_Mo k ad_this u5) := hD.sub [0, 1, 2, 3, 4, 5, 6, 7, 8, 9, 10, 11, 12, 13, 14, 15, 16, 17] (by decide) rfl
      exact xq_iret (r := r5) (u := u5) hx hb hr hlocks hAe hP hD hS rfl hw (Nat.le_of_ble_eq_true rfl) (Nat.le_of_ble_eq_true rfl) d_Mo_test_133
    · have hw := hw.2 hc
      refine lv_aload_n hx hb d_Mo_test_117 rfl (lv_at hl 1 rfl) ?_
      refine lv_iload_n hx hb d_Mo_test_118 rfl (lv_at hl 4 rfl) ?_
      refine va_put (D := D) (ci := 8) (v := .int x3) (ty := .int) (C := R_Mo) (T := F_Mo) (N := 42) hx hb hts in_Mo t_Mo t_Mo_ok n_Mo hown hK hP hD hS 0 rfl rfl 10 (by decide) (hts (.fieldLink R_Mo 158 R_Mo "wrong" "I") kw4_153) (fun _ h9 => h9) rfl (by decide +kernel) rfl rfl (Nat.le_of_ble_eq_true rfl) d_Mo_test_119 (fun H locs hP hD hS => ?_)
      have hP : va_P D vwCl (w_Mo k ad_this (((((z_this.1.1.1.1.1, z_this.1.1.1.1.2), (z_this.1.1.1.2.1, (z_this.1.1.1.2.2.1, z_this.1.1.1.2.2.2))), ((z_this.1.1.2.1.1, z_this.1.1.2.1.2), (z_this.1.1.2.2.1, (z_this.1.1.2.2.2.1, z_this.1.1.2.2.2.2)))), (((x3, z_this.1.2.1.1.2), (z_this.1.2.1.2.1, (z_this.1.2.1.2.2.1, z_this.1.2.1.2.2.2))), ((z_this.1.2.2.1.1, (z_this.1.2.2.1.2.1, z_this.1.2.2.1.2.2)), (z_this.1.2.2.2.1, (z_this.1.2.2.2.2.1, z_this.1.2.2.2.2.2))))), ((((z_this.2.1.1.1.1, z_this.2.1.1.1.2), (z_this.2.1.1.2.1, (z_this.2.1.1.2.2.1, z_this.2.1.1.2.2.2))), ((z_this.2.1.2.1.1, z_this.2.1.2.1.2), (z_this.2.1.2.2.1, (z_this.2.1.2.2.2.1, z_this.2.1.2.2.2.2)))), (((z_this.2.2.1.1.1, z_this.2.2.1.1.2), (z_this.2.2.1.2.1, (z_this.2.2.1.2.2.1, z_this.2.2.1.2.2.2))), ((z_this.2.2.2.1.1, (z_this.2.2.2.1.2.1, z_this.2.2.2.1.2.2)), (z_this.2.2.2.2.1, (z_this.2.2.2.2.2.1, z_this.2.2.2.2.2.2))))))) H := hP
      have hD : va_D A (w_Mo k ad_this (((((z_this.1.1.1.1.1, z_this.1.1.1.1.2), (z_this.1.1.1.2.1, (z_this.1.1.1.2.2.1, z_this.1.1.1.2.2.2))), ((z_this.1.1.2.1.1, z_this.1.1.2.1.2), (z_this.1.1.2.2.1, (z_this.1.1.2.2.2.1, z_this.1.1.2.2.2.2)))), (((x3, z_this.1.2.1.1.2), (z_this.1.2.1.2.1, (z_this.1.2.1.2.2.1, z_this.1.2.1.2.2.2))), ((z_this.1.2.2.1.1, (z_this.1.2.2.1.2.1, z_this.1.2.2.1.2.2)), (z_this.1.2.2.2.1, (z_this.1.2.2.2.2.1, z_this.1.2.2.2.2.2))))), ((((z_this.2.1.1.1.1, z_this.2.1.1.1.2), (z_this.2.1.1.2.1, (z_this.2.1.1.2.2.1, z_this.2.1.1.2.2.2))), ((z_this.2.1.2.1.1, z_this.2.1.2.1.2), (z_this.2.1.2.2.1, (z_this.2.1.2.2.2.1, z_this.2.1.2.2.2.2)))), (((z_this.2.2.1.1.1, z_this.2.2.1.1.2), (z_this.2.2.1.2.1, (z_this.2.2.1.2.2.1, z_this.2.2.1.2.2.2))), ((z_this.2.2.2.1.1, (z_this.2.2.2.1.2.1, z_this.2.2.2.1.2.2)), (z_this.2.2.2.2.1, (z_this.2.2.2.2.2.1, z_this.2.2.2.2.2.2))))))) := hD
      refine lv_iconst (v := (-1 : Int32)) hx hb d_Mo_test_122 (by decide) ?_
      exact xq_iret (r := (-1 : Int32)) (u := (((((z_this.1.1.1.1.1, z_this.1.1.1.1.2), (z_this.1.1.1.2.1, (z_this.1.1.1.2.2.1, z_this.1.1.1.2.2.2))), ((z_this.1.1.2.1.1, z_this.1.1.2.1.2), (z_this.1.1.2.2.1, (z_this.1.1.2.2.2.1, z_this.1.1.2.2.2.2)))), (((x3, z_this.1.2.1.1.2), (z_this.1.2.1.2.1, (z_this.1.2.1.2.2.1, z_this.1.2.1.2.2.2))), ((z_this.1.2.2.1.1, (z_this.1.2.2.1.2.1, z_this.1.2.2.1.2.2)), (z_this.1.2.2.2.1, (z_this.1.2.2.2.2.1, z_this.1.2.2.2.2.2))))), ((((z_this.2.1.1.1.1, z_this.2.1.1.1.2), (z_this.2.1.1.2.1, (z_this.2.1.1.2.2.1, z_this.2.1.1.2.2.2))), ((z_this.2.1.2.1.1, z_this.2.1.2.1.2), (z_this.2.1.2.2.1, (z_this.2.1.2.2.2.1, z_this.2.1.2.2.2.2)))), (((z_this.2.2.1.1.1, z_this.2.2.1.1.2), (z_this.2.2.1.2.1, (z_this.2.2.1.2.2.1, z_this.2.2.1.2.2.2))), ((z_this.2.2.2.1.1, (z_this.2.2.2.1.2.1, z_this.2.2.2.1.2.2)), (z_this.2.2.2.2.1, (z_this.2.2.2.2.2.1, z_this.2.2.2.2.2.2))))))) hx hb hr hlocks hAe hP hD hS rfl hw (Nat.le_of_ble_eq_true rfl) (Nat.le_of_ble_eq_true rfl) d_Mo_test_123
  · have hw := hw.2 hc
    refine lv_iconst (v := (-1 : Int32)) hx hb d_Mo_test_101 (by decide) ?_
    exact xq_iret (r := (-1 : Int32)) (u := z_this) hx hb hr hlocks hAe hP hD hS rfl hw (Nat.le_of_ble_eq_true rfl) (Nat.le_of_ble_eq_true rfl) d_Mo_test_102
set_option maxHeartbeats 4000000 in
set_option maxRecDepth 100000 in
theorem t_Mo_test_J73 {p : Program} {l : Launch} {o : State × Array Value} {e : Env} {s : State} {m : MethodId} {args : Array Value} {below : List Frame} {meth : Method} {c : Code} {D : va_G} {k : Nat → ClassId} {w0 : va_W} {A : Nat → Prop} {ad_this : Nat → Nat} {post : Int32 → T_Mo → Prop} {rf : T_Mo → (Int32 → T_Mo → Prop) → Prop} {F L : Nat} (hrf : ∀ {ad_this : Nat → Nat} {z_this : T_Mo} {post : Int32 → T_Mo → Prop}, rf z_this post → xq_C l o y_Mo_factor (.code y_Mo_factor prog_10_method_21_code 5 (some (.int)) :: xq_W) { frames := F, cells := 0, slots := 0, locals := L } D vwCl (xt k) [.ref (ad_this 0)] (w_Mo k ad_this z_this) (fun r : Int32 => some (.int r)) post (fun _ : T_Mo => False) (fun u : T_Mo => w_Mo k ad_this u) 0 0 0 0) (hAt : xq_At p s m args meth c prog_10_method_23_code 5 (some (.int)) y_Mo_test xq_W) (hK : va_K D vwCl (xt k) s) (hJ : xq_J l o A s s.heap) (hAe : va_A w0 s.heap.size = A) (hA : ∀ q, s.heap.size ≤ q → A q) :
    ∀ (z_this : T_Mo) (x1 : Int32) (y0 : Int32) (H : Heap) (locs : List Loc) (ls : Array Slot), lv_has ls 5 [(0, .ref (ad_this 0)), (1, .int x1)] → va_P D vwCl (w_Mo k ad_this z_this) H → va_D A (w_Mo k ad_this z_this) → va_S A s.heap H locs → wp_Mo_test_J73 rf post z_this x1 y0 → W p l e (rm_Mo_test F L) s m args below meth c H locs 0 0 (xq_Z below D vwCl (xt k) w0 (fun r : Int32 => some (.int r)) post (fun _ : T_Mo => False) (fun u : T_Mo => w_Mo k ad_this u) 0 0 0 0 s) (F0 m 73 ls [.int y0]) := by
  obtain ⟨hx, hb, hml, hr, hlocks, hown, hts, hex, hnm⟩ := id hAt
  intro z_this x1 y0 H locs ls hl hP hD hS hw
  unfold wp_Mo_test_J73 at hw
  refine lv_istore_n (lv' := [(2, .int y0), (0, .ref (ad_this 0)), (1, .int x1)]) hx hb d_Mo_test_73 rfl hl (by decide) rfl (fun ls hl => ?_)
  refine lv_aload_n hx hb d_Mo_test_74 rfl (lv_at hl 1 rfl) ?_
  refine va_get (D := D) (ci := 8) (v := .int z_this.1.1.2.1.1) (C := R_Mo) (T := F_Mo) (N := 42) hx hb hts in_Mo hown hK hP 0 rfl rfl 5 (by decide) (hts (.fieldLink R_Mo 68 R_Mo "begin" "I") kw4_148) (fun _ h9 => h9) rfl d_Mo_test_75 ?_
  refine lv_istore_n (lv' := [(3, .int z_this.1.1.2.1.1), (2, .int y0), (0, .ref (ad_this 0)), (1, .int x1)]) hx hb d_Mo_test_78 rfl hl (by decide) rfl (fun ls hl => ?_)
  refine lv_aload_n hx hb d_Mo_test_79 rfl (lv_at hl 2 rfl) ?_
  refine xq_go (wr := ([] : va_W)) (stk := fun r => .int r :: []) (xq_runV (As := []) (rest := []) ⟨hx, hb, hml, hown, hts⟩ (c_Mo_go (l := l) (o := o) (D := D) (k := k) (ad_this := ad_this) hw) (cw_Mo_go hts kw5_42 ⟨by simp only [rm_Mo_test, rm_Mo_go]; omega, by simp only [rm_Mo_test, rm_Mo_go]; omega⟩) (va_recv hK hP (ci := 8) (q0 := 0) rfl rfl) (hP.sub [0, 1, 2, 3, 4, 5, 6, 7, 8, 9, 10, 11, 12, 13, 14, 15, 16, 17] rfl) hK hJ hS (va_free hD hS hA [0, 1, 2, 3, 4, 5, 6, 7, 8, 9, 10, 11, 12, 13, 14, 15, 16, 17] rfl) ((hD.sub [0, 1, 2, 3, 4, 5, 6, 7, 8, 9, 10, 11, 12, 13, 14, 15, 16, 17] (by decide) rfl).weaken (fun _ _ _ _ => trivial)) rfl hl.1 (Nat.le_of_ble_eq_true rfl) d_Mo_test_80 ⟨Nat.le_of_ble_eq_true rfl, Nat.le_of_ble_eq_true rfl⟩) hP hD hS hA [0, 1, 2, 3, 4, 5, 6, 7, 8, 9, 10, 11, 12, 13, 14, 15, 16, 17] [] rfl rfl (by decide) (by decide) (fun _ => rfl) (fun r2 u2 H locs hw hP hD hS => ?_) (fun _ _ _ _ h9 => h9.elim)
  have hP : va_P D vwCl (w_Mo k ad_this u2) H := hP.sub [0, 1, 2, 3, 4, 5, 6, 7, 8, 9, 10, 11, 12, 13, 14, 15, 16, 17] rfl
  have hD : va_D A (w_Mo k ad_this u2) := hD.sub [0, 1, 2, 3, 4, 5, 6, 7, 8, 9, 10, 11, 12, 13, 14, 15, 16, 17] (by decide) rfl
  refine lv_if_eq (tgt := 93) hx hb d_Mo_test_83 (by decide) (fun hc => ?_) (fun hc => ?_)
  · have hw := hw.1 hc
    refine lv_iconst (v := (-1 : Int32)) hx hb d_Mo_test_93 (by decide) ?_
    exact t_Mo_test_J94 (hrf := @hrf) hAt hK hJ hAe hA u2 x1 y0 z_this.1.1.2.1.1 (-1 : Int32) H locs ls (lv_sub hl [2, 3, 1, 0] rfl) hP hD hS hw
  · have hw := hw.2 hc
    refine lv_aload_n hx hb d_Mo_test_86 rfl (lv_at hl 2 rfl) ?_
    refine xq_go (wr := ([] : va_W)) (stk := fun r => .int r :: []) (xq_runV (As := []) (rest := []) ⟨hx, hb, hml, hown, hts⟩ (c_Mo_sum (l := l) (o := o) (D := D) (k := k) (hrf := @hrf) (ad_this := ad_this) hw) (cw_Mo_sum hts kw5_143 ⟨by simp only [rm_Mo_test, rm_Mo_sum]; omega, by simp only [rm_Mo_test, rm_Mo_sum]; omega⟩) (va_recv hK hP (ci := 8) (q0 := 0) rfl rfl) (hP.sub [0, 1, 2, 3, 4, 5, 6, 7, 8, 9, 10, 11, 12, 13, 14, 15, 16, 17] rfl) hK hJ hS (va_free hD hS hA [0, 1, 2, 3, 4, 5, 6, 7, 8, 9, 10, 11, 12, 13, 14, 15, 16, 17] rfl) ((hD.sub [0, 1, 2, 3, 4, 5, 6, 7, 8, 9, 10, 11, 12, 13, 14, 15, 16, 17] (by decide) rfl).weaken (fun _ _ _ _ => trivial)) rfl hl.1 (Nat.le_of_ble_eq_true rfl) d_Mo_test_87 ⟨Nat.le_of_ble_eq_true rfl, Nat.le_of_ble_eq_true rfl⟩) hP hD hS hA [0, 1, 2, 3, 4, 5, 6, 7, 8, 9, 10, 11, 12, 13, 14, 15, 16, 17] [] rfl rfl (by decide) (by decide) (fun _ => rfl) (fun r6 u6 H locs hw hP hD hS => ?_) (fun _ _ _ _ h9 => h9.elim)
    have hP : va_P D vwCl (w_Mo k ad_this u6) H := hP.sub [0, 1, 2, 3, 4, 5, 6, 7, 8, 9, 10, 11, 12, 13, 14, 15, 16, 17] rfl
    have hD : va_D A (w_Mo k ad_this u6) := hD.sub [0, 1, 2, 3, 4, 5, 6, 7, 8, 9, 10, 11, 12, 13, 14, 15, 16, 17] (by decide) rfl
    refine lv_goto (tgt := 94) hx hb d_Mo_test_90 (by decide) ?_
    exact t_Mo_test_J94 (hrf := @hrf) hAt hK hJ hAe hA u6 x1 y0 z_this.1.1.2.1.1 r6 H locs ls (lv_sub hl [2, 3, 1, 0] rfl) hP hD hS hw
set_option maxHeartbeats 4000000 in
set_option maxRecDepth 100000 in
theorem t_Mo_test_J43 {p : Program} {l : Launch} {o : State × Array Value} {e : Env} {s : State} {m : MethodId} {args : Array Value} {below : List Frame} {meth : Method} {c : Code} {D : va_G} {k : Nat → ClassId} {w0 : va_W} {A : Nat → Prop} {ad_this : Nat → Nat} {post : Int32 → T_Mo → Prop} {rf : T_Mo → (Int32 → T_Mo → Prop) → Prop} {F L : Nat} (hrf : ∀ {ad_this : Nat → Nat} {z_this : T_Mo} {post : Int32 → T_Mo → Prop}, rf z_this post → xq_C l o y_Mo_factor (.code y_Mo_factor prog_10_method_21_code 5 (some (.int)) :: xq_W) { frames := F, cells := 0, slots := 0, locals := L } D vwCl (xt k) [.ref (ad_this 0)] (w_Mo k ad_this z_this) (fun r : Int32 => some (.int r)) post (fun _ : T_Mo => False) (fun u : T_Mo => w_Mo k ad_this u) 0 0 0 0) (hAt : xq_At p s m args meth c prog_10_method_23_code 5 (some (.int)) y_Mo_test xq_W) (hK : va_K D vwCl (xt k) s) (hJ : xq_J l o A s s.heap) (hAe : va_A w0 s.heap.size = A) (hA : ∀ q, s.heap.size ≤ q → A q) :
    ∀ (z_this : T_Mo) (x1 : Int32) (H : Heap) (locs : List Loc) (ls : Array Slot), lv_has ls 5 [(0, .ref (ad_this 0)), (1, .int x1)] → va_P D vwCl (w_Mo k ad_this z_this) H → va_D A (w_Mo k ad_this z_this) → va_S A s.heap H locs → wp_Mo_test_J43 rf post z_this x1 → W p l e (rm_Mo_test F L) s m args below meth c H locs 0 0 (xq_Z below D vwCl (xt k) w0 (fun r : Int32 => some (.int r)) post (fun _ : T_Mo => False) (fun u : T_Mo => w_Mo k ad_this u) 0 0 0 0 s) (F0 m 43 ls []) := by
  obtain ⟨hx, hb, hml, hr, hlocks, hown, hts, hex, hnm⟩ := id hAt
  intro z_this x1 H locs ls hl hP hD hS hw
  unfold wp_Mo_test_J43 at hw
  refine lv_aload_n hx hb d_Mo_test_43 rfl (lv_at hl 0 rfl) ?_
  refine va_get (D := D) (ci := 8) (v := .int z_this.1.1.1.2.2.2) (C := R_Mo) (T := F_Mo) (N := 42) hx hb hts in_Mo hown hK hP 0 rfl rfl 4 (by decide) (hts (.fieldLink R_Mo 145 R_Mo "token" "I") kw4_147) (fun _ h9 => h9) rfl d_Mo_test_44 ?_
  refine lv_bipush (v := (60 : Int32)) hx hb d_Mo_test_47 (by decide) ?_
  refine lv_icmp_ne (tgt := 57) hx hb d_Mo_test_49 (by decide) (fun hc => ?_) (fun hc => ?_)
  · have hw := hw.2 hc
    refine lv_aload_n hx hb d_Mo_test_57 rfl (lv_at hl 0 rfl) ?_
    refine va_get (D := D) (ci := 8) (v := .int z_this.1.1.1.2.2.2) (C := R_Mo) (T := F_Mo) (N := 42) hx hb hts in_Mo hown hK hP 0 rfl rfl 4 (by decide) (hts (.fieldLink R_Mo 145 R_Mo "token" "I") kw4_147) (fun _ h9 => h9) rfl d_Mo_test_58 ?_
    refine lv_bipush (v := (61 : Int32)) hx hb d_Mo_test_61 (by decide) ?_
    refine lv_icmp_ne (tgt := 71) hx hb d_Mo_test_63 (by decide) (fun hc => ?_) (fun hc => ?_)
    · have hw := hw.2 hc
      refine lv_bipush (v := (9 : Int32)) hx hb d_Mo_test_71 (by decide) ?_
      exact t_Mo_test_J73 (hrf := @hrf) hAt hK hJ hAe hA z_this x1 (9 : Int32) H locs ls (lv_sub hl [0, 1] rfl) hP hD hS hw
    · have hw := hw.1 hc
      refine lv_bipush (v := (8 : Int32)) hx hb d_Mo_test_66 (by decide) ?_
      refine lv_goto (tgt := 73) hx hb d_Mo_test_68 (by decide) ?_
      exact t_Mo_test_J73 (hrf := @hrf) hAt hK hJ hAe hA z_this x1 (8 : Int32) H locs ls (lv_sub hl [0, 1] rfl) hP hD hS hw
  · have hw := hw.1 hc
    refine lv_bipush (v := (7 : Int32)) hx hb d_Mo_test_52 (by decide) ?_
    refine lv_goto (tgt := 73) hx hb d_Mo_test_54 (by decide) ?_
    exact t_Mo_test_J73 (hrf := @hrf) hAt hK hJ hAe hA z_this x1 (7 : Int32) H locs ls (lv_sub hl [0, 1] rfl) hP hD hS hw
set_option maxHeartbeats 4000000 in
set_option maxRecDepth 100000 in
theorem c_Mo_test {l : Launch} {o : State × Array Value} {D : va_G} {k : Nat → ClassId} {rf : T_Mo → (Int32 → T_Mo → Prop) → Prop} {F L : Nat} (hrf : ∀ {ad_this : Nat → Nat} {z_this : T_Mo} {post : Int32 → T_Mo → Prop}, rf z_this post → xq_C l o y_Mo_factor (.code y_Mo_factor prog_10_method_21_code 5 (some (.int)) :: xq_W) { frames := F, cells := 0, slots := 0, locals := L } D vwCl (xt k) [.ref (ad_this 0)] (w_Mo k ad_this z_this) (fun r : Int32 => some (.int r)) post (fun _ : T_Mo => False) (fun u : T_Mo => w_Mo k ad_this u) 0 0 0 0) {ad_this : Nat → Nat} {z_this : T_Mo} {post : Int32 → T_Mo → Prop} (hw : wp_Mo_test rf z_this post) : xq_C l o y_Mo_test (.code y_Mo_test prog_10_method_23_code 5 (some (.int)) :: xq_W) (rm_Mo_test F L) D vwCl (xt k) [.ref (ad_this 0)] (w_Mo k ad_this z_this) (fun r : Int32 => some (.int r)) post (fun _ : T_Mo => False) (fun u : T_Mo => w_Mo k ad_this u) 0 0 0 0 := by
  refine xq_ofW (cc := prog_10_method_23_code) (maxL := 5) (ret := (some (.int))) (by decide) rfl (Nat.le_of_ble_eq_true rfl) ?_
  intro p e s m below meth c ls H locs A hAt hAe hA hl hK hJ hP0 hP hD hS
  obtain ⟨hx, hb, hml, hr, hlocks, hown, hts, hex, hnm⟩ := id hAt
  have hl : lv_has ls 5 [(0, .ref (ad_this 0))] := hl
  unfold wp_Mo_test at hw
  refine lv_aload_n hx hb d_Mo_test_0 rfl (lv_at hl 0 rfl) ?_
  refine xq_go (wr := ([] : va_W)) (stk := fun r => .int r :: []) (xq_runV (As := []) (rest := []) ⟨hx, hb, hml, hown, hts⟩ (c_Mo_sum (l := l) (o := o) (D := D) (k := k) (hrf := @hrf) (ad_this := ad_this) hw) (cw_Mo_sum hts kw5_143 ⟨by simp only [rm_Mo_test, rm_Mo_sum]; omega, by simp only [rm_Mo_test, rm_Mo_sum]; omega⟩) (va_recv hK hP (ci := 8) (q0 := 0) rfl rfl) (hP.sub [0, 1, 2, 3, 4, 5, 6, 7, 8, 9, 10, 11, 12, 13, 14, 15, 16, 17] rfl) hK hJ hS (va_free hD hS hA [0, 1, 2, 3, 4, 5, 6, 7, 8, 9, 10, 11, 12, 13, 14, 15, 16, 17] rfl) ((hD.sub [0, 1, 2, 3, 4, 5, 6, 7, 8, 9, 10, 11, 12, 13, 14, 15, 16, 17] (by decide) rfl).weaken (fun _ _ _ _ => trivial)) rfl hl.1 (Nat.le_of_ble_eq_true rfl) d_Mo_test_1 ⟨Nat.le_of_ble_eq_true rfl, Nat.le_of_ble_eq_true rfl⟩) hP hD hS hA [0, 1, 2, 3, 4, 5, 6, 7, 8, 9, 10, 11, 12, 13, 14, 15, 16, 17] [] rfl rfl (by decide) (by decide) (fun _ => rfl) (fun r1 u1 H locs hw hP hD hS => ?_) (fun _ _ _ _ h9 => h9.elim)
  have hP : va_P D vwCl (w_Mo k ad_this u1) H := hP.sub [0, 1, 2, 3, 4, 5, 6, 7, 8, 9, 10, 11, 12, 13, 14, 15, 16, 17] rfl
  have hD : va_D A (w_Mo k ad_this u1) := hD.sub [0, 1, 2, 3, 4, 5, 6, 7, 8, 9, 10, 11, 12, 13, 14, 15, 16, 17] (by decide) rfl
  refine lv_istore_n (lv' := [(1, .int r1), (0, .ref (ad_this 0))]) hx hb d_Mo_test_4 rfl hl (by decide) rfl (fun ls hl => ?_)
  refine lv_iload_n hx hb d_Mo_test_5 rfl (lv_at hl 0 rfl) ?_
  refine lv_if_ge (tgt := 11) hx hb d_Mo_test_6 (by decide) (fun hc => ?_) (fun hc => ?_)
  · have hw := hw.1 hc
    refine lv_aload_n hx hb d_Mo_test_11 rfl (lv_at hl 1 rfl) ?_
    refine va_get (D := D) (ci := 8) (v := .int u1.1.1.1.2.2.2) (C := R_Mo) (T := F_Mo) (N := 42) hx hb hts in_Mo hown hK hP 0 rfl rfl 4 (by decide) (hts (.fieldLink R_Mo 145 R_Mo "token" "I") kw4_147) (fun _ h9 => h9) rfl d_Mo_test_12 ?_
    refine lv_bipush (v := (60 : Int32)) hx hb d_Mo_test_15 (by decide) ?_
    refine lv_icmp_eq (tgt := 43) hx hb d_Mo_test_17 (by decide) (fun hc => ?_) (fun hc => ?_)
    · have hw := hw.1 hc
      exact t_Mo_test_J43 (hrf := @hrf) hAt hK hJ hAe hA u1 r1 H locs ls (lv_sub hl [1, 0] rfl) hP hD hS hw
    · have hw := hw.2 hc
      refine lv_aload_n hx hb d_Mo_test_20 rfl (lv_at hl 1 rfl) ?_
      refine va_get (D := D) (ci := 8) (v := .int u1.1.1.1.2.2.2) (C := R_Mo) (T := F_Mo) (N := 42) hx hb hts in_Mo hown hK hP 0 rfl rfl 4 (by decide) (hts (.fieldLink R_Mo 145 R_Mo "token" "I") kw4_147) (fun _ h9 => h9) rfl d_Mo_test_21 ?_
      refine lv_bipush (v := (61 : Int32)) hx hb d_Mo_test_24 (by decide) ?_
      refine lv_icmp_eq (tgt := 43) hx hb d_Mo_test_26 (by decide) (fun hc => ?_) (fun hc => ?_)
      · have hw := hw.1 hc
        exact t_Mo_test_J43 (hrf := @hrf) hAt hK hJ hAe hA u1 r1 H locs ls (lv_sub hl [1, 0] rfl) hP hD hS hw
      · have hw := hw.2 hc
        refine lv_aload_n hx hb d_Mo_test_29 rfl (lv_at hl 1 rfl) ?_
        refine va_get (D := D) (ci := 8) (v := .int u1.1.1.1.2.2.2) (C := R_Mo) (T := F_Mo) (N := 42) hx hb hts in_Mo hown hK hP 0 rfl rfl 4 (by decide) (hts (.fieldLink R_Mo 145 R_Mo "token" "I") kw4_147) (fun _ h9 => h9) rfl d_Mo_test_30 ?_
        refine lv_bipush (v := (62 : Int32)) hx hb d_Mo_test_33 (by decide) ?_
        refine lv_icmp_eq (tgt := 43) hx hb d_Mo_test_35 (by decide) (fun hc => ?_) (fun hc => ?_)
        · have hw := hw.1 hc
          exact t_Mo_test_J43 (hrf := @hrf) hAt hK hJ hAe hA u1 r1 H locs ls (lv_sub hl [1, 0] rfl) hP hD hS hw
        · have hw := hw.2 hc
          refine lv_aload_n hx hb d_Mo_test_38 rfl (lv_at hl 1 rfl) ?_
          refine xq_go (wr := ([] : va_W)) (stk := fun r => .int r :: []) (xq_runV (As := []) (rest := []) ⟨hx, hb, hml, hown, hts⟩ (c_Mo_bad (l := l) (o := o) (D := D) (k := k) (ad_this := ad_this) hw) (cw_Mo_bad hts kw5_115 ⟨by simp only [rm_Mo_test, rm_Mo_bad]; omega, by simp only [rm_Mo_test, rm_Mo_bad]; omega⟩) (va_recv hK hP (ci := 8) (q0 := 0) rfl rfl) (hP.sub [0, 1, 2, 3, 4, 5, 6, 7, 8, 9, 10, 11, 12, 13, 14, 15, 16, 17] rfl) hK hJ hS (va_free hD hS hA [0, 1, 2, 3, 4, 5, 6, 7, 8, 9, 10, 11, 12, 13, 14, 15, 16, 17] rfl) ((hD.sub [0, 1, 2, 3, 4, 5, 6, 7, 8, 9, 10, 11, 12, 13, 14, 15, 16, 17] (by decide) rfl).weaken (fun _ _ _ _ => trivial)) rfl hl.1 (Nat.le_of_ble_eq_true rfl) d_Mo_test_39 ⟨Nat.le_of_ble_eq_true rfl, Nat.le_of_ble_eq_true rfl⟩) hP hD hS hA [0, 1, 2, 3, 4, 5, 6, 7, 8, 9, 10, 11, 12, 13, 14, 15, 16, 17] [] rfl rfl (by decide) (by decide) (fun _ => rfl) (fun r7 u7 H locs hw hP hD hS => ?_) (fun _ _ _ _ h9 => h9.elim)
          have hP : va_P D vwCl (w_Mo k ad_this u7) H := hP.sub [0, 1, 2, 3, 4, 5, 6, 7, 8, 9, 10, 11, 12, 13, 14, 15, 16, 17] rfl
          have hD : va_D A (w_Mo k ad_this u7) := hD.sub [0, 1, 2, 3, 4, 5, 6, 7, 8, 9, 10, 11, 12, 13, 14, 15, 16, 17] (by decide) rfl
          exact xq_iret (r := r7) (u := u7) hx hb hr hlocks hAe hP hD hS rfl hw (Nat.le_of_ble_eq_true rfl) (Nat.le_of_ble_eq_true rfl) d_Mo_test_42
  · have hw := hw.2 hc
    refine lv_iconst (v := (-1 : Int32)) hx hb d_Mo_test_9 (by decide) ?_
    exact xq_iret (r := (-1 : Int32)) (u := u1) hx hb hr hlocks hAe hP hD hS rfl hw (Nat.le_of_ble_eq_true rfl) (Nat.le_of_ble_eq_true rfl) d_Mo_test_10
theorem cw_Mo_test {R : Room} {s : State} {args : Array Value} {own : String} {index : Nat} (hts : ∀ w ∈ xq_W, w.before args s = true) (hl : .methodLink own index y_Mo_test ∈ xq_W) {rm : Room} (hR : rm.frames + 1 ≤ R.frames ∧ 8 + (5 + 11) + rm.locals ≤ R.locals) : CallW R s args own "StepTextModel" index y_Mo_test prog_10_method_23_code 5 (some (.int)) (.code y_Mo_test prog_10_method_23_code 5 (some (.int)) :: xq_W) rm rm.cells rm.slots 0 := ⟨xq_cb 0 hts kw5_185 kw1_13 hl ⟨by decide, by decide, by decide +kernel⟩ hR, hts _ kw5_184, hts _ kp5_13⟩
def y_Mo_sumOf : MethodName := ⟨"StepTextModel", "sumOf", "(I)Z"⟩
theorem d_Mo_sumOf_0 : decode prog_10_method_28_code 0 = .ok (.aload_n 0, 1) := by decide +kernel
theorem d_Mo_sumOf_1 : decode prog_10_method_28_code 1 = .ok (.invokevirtual 230, 3) := by decide +kernel
theorem d_Mo_sumOf_4 : decode prog_10_method_28_code 4 = .ok (.istore_n 2, 1) := by decide +kernel
theorem d_Mo_sumOf_5 : decode prog_10_method_28_code 5 = .ok (.iload_n 2, 1) := by decide +kernel
theorem d_Mo_sumOf_6 : decode prog_10_method_28_code 6 = .ok (.ifCond .ge 5, 3) := by decide +kernel
theorem d_Mo_sumOf_9 : decode prog_10_method_28_code 9 = .ok (.iconst 0, 1) := by decide +kernel
theorem d_Mo_sumOf_10 : decode prog_10_method_28_code 10 = .ok (.ireturn, 1) := by decide +kernel
theorem d_Mo_sumOf_11 : decode prog_10_method_28_code 11 = .ok (.aload_n 0, 1) := by decide +kernel
theorem d_Mo_sumOf_12 : decode prog_10_method_28_code 12 = .ok (.iload_n 2, 1) := by decide +kernel
theorem d_Mo_sumOf_13 : decode prog_10_method_28_code 13 = .ok (.invokevirtual 214, 3) := by decide +kernel
theorem d_Mo_sumOf_16 : decode prog_10_method_28_code 16 = .ok (.iload_n 1, 1) := by decide +kernel
theorem d_Mo_sumOf_17 : decode prog_10_method_28_code 17 = .ok (.if_icmp .eq 13, 3) := by decide +kernel
theorem d_Mo_sumOf_20 : decode prog_10_method_28_code 20 = .ok (.aload_n 0, 1) := by decide +kernel
theorem d_Mo_sumOf_21 : decode prog_10_method_28_code 21 = .ok (.aload_n 0, 1) := by decide +kernel
theorem d_Mo_sumOf_22 : decode prog_10_method_28_code 22 = .ok (.getfield 68, 3) := by decide +kernel
theorem d_Mo_sumOf_25 : decode prog_10_method_28_code 25 = .ok (.putfield 158, 3) := by decide +kernel
theorem d_Mo_sumOf_28 : decode prog_10_method_28_code 28 = .ok (.iconst 0, 1) := by decide +kernel
theorem d_Mo_sumOf_29 : decode prog_10_method_28_code 29 = .ok (.ireturn, 1) := by decide +kernel
theorem d_Mo_sumOf_30 : decode prog_10_method_28_code 30 = .ok (.aload_n 0, 1) := by decide +kernel
theorem d_Mo_sumOf_31 : decode prog_10_method_28_code 31 = .ok (.iload_n 2, 1) := by decide +kernel
theorem d_Mo_sumOf_32 : decode prog_10_method_28_code 32 = .ok (.invokevirtual 203, 3) := by decide +kernel
theorem d_Mo_sumOf_35 : decode prog_10_method_28_code 35 = .ok (.iconst 1, 1) := by decide +kernel
theorem d_Mo_sumOf_36 : decode prog_10_method_28_code 36 = .ok (.ireturn, 1) := by decide +kernel
def wp_Mo_sumOf (rf : T_Mo → (Int32 → T_Mo → Prop) → Prop) (z_this : T_Mo) (a1 : Int32) (post : Int32 → T_Mo → Prop) : Prop := wp_Mo_sum rf z_this (fun (r1 : Int32) (u1 : T_Mo) => (0 ≤ r1 → (wp_Mo_unitIn u1 r1 (fun (r2 : Int32) (u2 : Unit) => (r2 = a1 → (wp_Mo_push u1 r1 (fun (r3 : Unit) (u3 : T_Mo) => post (1 : Int32) u3))) ∧ (¬ r2 = a1 → (post (0 : Int32) (((((u1.1.1.1.1.1, u1.1.1.1.1.2), (u1.1.1.1.2.1, (u1.1.1.1.2.2.1, u1.1.1.1.2.2.2))), ((u1.1.1.2.1.1, u1.1.1.2.1.2), (u1.1.1.2.2.1, (u1.1.1.2.2.2.1, u1.1.1.2.2.2.2)))), (((u1.1.1.2.1.1, u1.1.2.1.1.2), (u1.1.2.1.2.1, (u1.1.2.1.2.2.1, u1.1.2.1.2.2.2))), ((u1.1.2.2.1.1, (u1.1.2.2.1.2.1, u1.1.2.2.1.2.2)), (u1.1.2.2.2.1, (u1.1.2.2.2.2.1, u1.1.2.2.2.2.2))))), ((((u1.2.1.1.1.1, u1.2.1.1.1.2), (u1.2.1.1.2.1, (u1.2.1.1.2.2.1, u1.2.1.1.2.2.2))), ((u1.2.1.2.1.1, u1.2.1.2.1.2), (u1.2.1.2.2.1, (u1.2.1.2.2.2.1, u1.2.1.2.2.2.2)))), (((u1.2.2.1.1.1, u1.2.2.1.1.2), (u1.2.2.1.2.1, (u1.2.2.1.2.2.1, u1.2.2.1.2.2.2))), ((u1.2.2.2.1.1, (u1.2.2.2.1.2.1, u1.2.2.2.1.2.2)), (u1.2.2.2.2.1, (u1.2.2.2.2.2.1, u1.2.2.2.2.2.2))))))))))) ∧ (¬ 0 ≤ r1 → (post (0 : Int32) u1)))
def rm_Mo_sumOf (F L : Nat) : Room := { frames := max (F + 3) 5, cells := 0, slots := 0, locals := max (L + 75) 124 }
set_option maxHeartbeats 4000000 in
set_option maxRecDepth 100000 in
theorem c_Mo_sumOf {l : Launch} {o : State × Array Value} {D : va_G} {k : Nat → ClassId} {rf : T_Mo → (Int32 → T_Mo → Prop) → Prop} {F L : Nat} (hrf : ∀ {ad_this : Nat → Nat} {z_this : T_Mo} {post : Int32 → T_Mo → Prop}, rf z_this post → xq_C l o y_Mo_factor (.code y_Mo_factor prog_10_method_21_code 5 (some (.int)) :: xq_W) { frames := F, cells := 0, slots := 0, locals := L } D vwCl (xt k) [.ref (ad_this 0)] (w_Mo k ad_this z_this) (fun r : Int32 => some (.int r)) post (fun _ : T_Mo => False) (fun u : T_Mo => w_Mo k ad_this u) 0 0 0 0) {ad_this : Nat → Nat} {z_this : T_Mo} {a1 : Int32} {post : Int32 → T_Mo → Prop} (hw : wp_Mo_sumOf rf z_this a1 post) : xq_C l o y_Mo_sumOf (.code y_Mo_sumOf prog_10_method_28_code 3 (some (.boolean)) :: xq_W) (rm_Mo_sumOf F L) D vwCl (xt k) [.ref (ad_this 0), .int a1] (w_Mo k ad_this z_this) (fun r : Int32 => some (.int r)) post (fun _ : T_Mo => False) (fun u : T_Mo => w_Mo k ad_this u) 0 0 0 0 := by
  refine xq_ofW (cc := prog_10_method_28_code) (maxL := 3) (ret := (some (.boolean))) (by decide) rfl (Nat.le_of_ble_eq_true rfl) ?_
  intro p e s m below meth c ls H locs A hAt hAe hA hl hK hJ hP0 hP hD hS
  obtain ⟨hx, hb, hml, hr, hlocks, hown, hts, hex, hnm⟩ := id hAt
  have hl : lv_has ls 3 [(0, .ref (ad_this 0)), (1, .int a1)] := hl
  unfold wp_Mo_sumOf at hw
  refine lv_aload_n hx hb d_Mo_sumOf_0 rfl (lv_at hl 0 rfl) ?_
  refine xq_go (wr := ([] : va_W)) (stk := fun r => .int r :: []) (xq_runV (As := []) (rest := []) ⟨hx, hb, hml, hown, hts⟩ (c_Mo_sum (l := l) (o := o) (D := D) (k := k) (hrf := @hrf) (ad_this := ad_this) hw) (cw_Mo_sum hts kw5_143 ⟨by simp only [rm_Mo_sumOf, rm_Mo_sum]; omega, by simp only [rm_Mo_sumOf, rm_Mo_sum]; omega⟩) (va_recv hK hP (ci := 8) (q0 := 0) rfl rfl) (hP.sub [0, 1, 2, 3, 4, 5, 6, 7, 8, 9, 10, 11, 12, 13, 14, 15, 16, 17] rfl) hK hJ hS (va_free hD hS hA [0, 1, 2, 3, 4, 5, 6, 7, 8, 9, 10, 11, 12, 13, 14, 15, 16, 17] rfl) ((hD.sub [0, 1, 2, 3, 4, 5, 6, 7, 8, 9, 10, 11, 12, 13, 14, 15, 16, 17] (by decide) rfl).weaken (fun _ _ _ _ => trivial)) rfl hl.1 (Nat.le_of_ble_eq_true rfl) d_Mo_sumOf_1 ⟨Nat.le_of_ble_eq_true rfl, Nat.le_of_ble_eq_true rfl⟩) hP hD hS hA [0, 1, 2, 3, 4, 5, 6, 7, 8, 9, 10, 11, 12, 13, 14, 15, 16, 17] [] rfl rfl (by decide) (by decide) (fun _ => rfl) (fun r1 u1 H locs hw hP hD hS => ?_) (fun _ _ _ _ h9 => h9.elim)
  have hP : va_P D vwCl (w_Mo k ad_this u1) H := hP.sub [0, 1, 2, 3, 4, 5, 6, 7, 8, 9, 10, 11, 12, 13, 14, 15, 16, 17] rfl
  have hD : va_D A (w_Mo k ad_this u1) := hD.sub [0, 1, 2, 3, 4, 5, 6, 7, 8, 9, 10, 11, 12, 13, 14, 15, 16, 17] (by decide) rfl
  refine lv_istore_n (lv' := [(2, .int r1), (0, .ref (ad_this 0)), (1, .int a1)]) hx hb d_Mo_sumOf_4 rfl hl (by decide) rfl (fun ls hl => ?_)
  refine lv_iload_n hx hb d_Mo_sumOf_5 rfl (lv_at hl 0 rfl) ?_
  refine lv_if_ge (tgt := 11) hx hb d_Mo_sumOf_6 (by decide) (fun hc => ?_) (fun hc => ?_)
  · have hw := hw.1 hc
    refine lv_aload_n hx hb d_Mo_sumOf_11 rfl (lv_at hl 1 rfl) ?_
    refine lv_iload_n hx hb d_Mo_sumOf_12 rfl (lv_at hl 0 rfl) ?_
    refine xq_go (wr := ([] : va_W)) (stk := fun r => .int r :: []) (xq_runV (As := [.int r1]) (rest := []) ⟨hx, hb, hml, hown, hts⟩ (c_Mo_unitIn (l := l) (o := o) (D := D) (k := k) (ad_this := ad_this) hw) (cw_Mo_unitIn hts kw5_174 ⟨by simp only [rm_Mo_sumOf, rm_Mo_unitIn]; omega, by simp only [rm_Mo_sumOf, rm_Mo_unitIn]; omega⟩) (va_recv hK hP (ci := 8) (q0 := 0) rfl rfl) (hP.sub [0, 1, 2, 3, 4, 5, 6, 7, 8, 9, 10, 11, 12, 13, 14, 15, 16, 17] rfl) hK hJ hS (va_free hD hS hA [0, 1, 2, 3, 4, 5, 6, 7, 8, 9, 10, 11, 12, 13, 14, 15, 16, 17] rfl) ((hD.sub [0, 1, 2, 3, 4, 5, 6, 7, 8, 9, 10, 11, 12, 13, 14, 15, 16, 17] (by decide) rfl).weaken (fun _ _ _ _ => trivial)) rfl hl.1 (Nat.le_of_ble_eq_true rfl) d_Mo_sumOf_13 ⟨Nat.le_of_ble_eq_true rfl, Nat.le_of_ble_eq_true rfl⟩) hP hD hS hA [0, 1, 2, 3, 4, 5, 6, 7, 8, 9, 10, 11, 12, 13, 14, 15, 16, 17] [] rfl rfl (by decide) (by decide) (fun _ => rfl) (fun r2 u2 H locs hw hP hD hS => ?_) (fun _ _ _ _ h9 => h9.elim)
    have hP : va_P D vwCl (w_Mo k ad_this u1) H := hP.sub [0, 1, 2, 3, 4, 5, 6, 7, 8, 9, 10, 11, 12, 13, 14, 15, 16, 17] rfl
    have hD : va_D A (w_Mo k ad_this u1) := hD.sub [0, 1, 2, 3, 4, 5, 6, 7, 8, 9, 10, 11, 12, 13, 14, 15, 16, 17] (by decide) rfl
    refine lv_iload_n hx hb d_Mo_sumOf_16 rfl (lv_at hl 2 rfl) ?_
    refine lv_icmp_eq (tgt := 30) hx hb d_Mo_sumOf_17 (by decide) (fun hc => ?_) (fun hc => ?_)
    · have hw := hw.1 hc
      refine lv_aload_n hx hb d_Mo_sumOf_30 rfl (lv_at hl 1 rfl) ?_
      refine lv_iload_n hx hb d_Mo_sumOf_31 rfl (lv_at hl 0 rfl) ?_
      refine xq_go (wr := ([] : va_W)) (stk := fun _ => []) (xq_runV (As := [.int r1]) (rest := []) ⟨hx, hb, hml, hown, hts⟩ (c_Mo_push (l := l) (o := o) (D := D) (k := k) (ad_this := ad_this) hw) (cw_Mo_push hts kw5_170 ⟨by simp only [rm_Mo_sumOf, rm_Mo_push]; omega, by simp only [rm_Mo_sumOf, rm_Mo_push]; omega⟩) (va_recv hK hP (ci := 8) (q0 := 0) rfl rfl) (hP.sub [0, 1, 2, 3, 4, 5, 6, 7, 8, 9, 10, 11, 12, 13, 14, 15, 16, 17] rfl) hK hJ hS (va_free hD hS hA [0, 1, 2, 3, 4, 5, 6, 7, 8, 9, 10, 11, 12, 13, 14, 15, 16, 17] rfl) ((hD.sub [0, 1, 2, 3, 4, 5, 6, 7, 8, 9, 10, 11, 12, 13, 14, 15, 16, 17] (by decide) rfl).weaken (fun _ _ _ _ => trivial)) rfl hl.1 (Nat.le_of_ble_eq_true rfl) d_Mo_sumOf_32 ⟨Nat.le_of_ble_eq_true rfl, Nat.le_of_ble_eq_true rfl⟩) hP hD hS hA [0, 1, 2, 3, 4, 5, 6, 7, 8, 9, 10, 11, 12, 13, 14, 15, 16, 17] [] rfl rfl (by decide) (by decide) (fun _ => rfl) (fun r3 u3 H locs hw hP hD hS => ?_) (fun _ _ _ _ h9 => h9.elim)
      have hP : va_P D vwCl (w_Mo k ad_this u3) H := hP.sub [0, 1, 2, 3, 4, 5, 6, 7, 8, 9, 10, 11, 12, 13, 14, 15, 16, 17] rfl
      have hD : va_D A (w_Mo k ad_this u3) := hD.sub [0, 1, 2, 3, 4, 5, 6, 7, 8, 9, 10, 11, 12, 13, 14, 15, 16, 17] (by decide) rfl
      refine lv_iconst (v := (1 : Int32)) hx hb d_Mo_sumOf_35 (by decide) ?_
      exact xq_zret (r := (1 : Int32)) (u := u3) hx hb hr hlocks hAe hP hD hS rfl rfl hw (Nat.le_of_ble_eq_true rfl) (Nat.le_of_ble_eq_true rfl) d_Mo_sumOf_36
    · have hw := hw.2 hc
      refine lv_aload_n hx hb d_Mo_sumOf_20 rfl (lv_at hl 1 rfl) ?_
      refine lv_aload_n hx hb d_Mo_sumOf_21 rfl (lv_at hl 1 rfl) ?_
      refine va_get (D := D) (ci := 8) (v := .int u1.1.1.2.1.1) (C := R_Mo) (T := F_Mo) (N := 42) hx hb hts in_Mo hown hK hP 0 rfl rfl 5 (by decide) (hts (.fieldLink R_Mo 68 R_Mo "begin" "I") kw4_148) (fun _ h9 => h9) rfl d_Mo_sumOf_22 ?_
      refine va_put (D := D) (ci := 8) (v := .int u1.1.1.2.1.1) (ty := .int) (C := R_Mo) (T := F_Mo) (N := 42) hx hb hts in_Mo t_Mo t_Mo_ok n_Mo hown hK hP hD hS 0 rfl rfl 10 (by decide) (hts (.fieldLink R_Mo 158 R_Mo "wrong" "I") kw4_153) (fun _ h9 => h9) rfl (by decide +kernel) rfl rfl (Nat.le_of_ble_eq_true rfl) d_Mo_sumOf_25 (fun H locs hP hD hS => ?_)
      have hP : va_P D vwCl (w_Mo k ad_this (((((u1.1.1.1.1.1, u1.1.1.1.1.2), (u1.1.1.1.2.1, (u1.1.1.1.2.2.1, u1.1.1.1.2.2.2))), ((u1.1.1.2.1.1, u1.1.1.2.1.2), (u1.1.1.2.2.1, (u1.1.1.2.2.2.1, u1.1.1.2.2.2.2)))), (((u1.1.1.2.1.1, u1.1.2.1.1.2), (u1.1.2.1.2.1, (u1.1.2.1.2.2.1, u1.1.2.1.2.2.2))), ((u1.1.2.2.1.1, (u1.1.2.2.1.2.1, u1.1.2.2.1.2.2)), (u1.1.2.2.2.1, (u1.1.2.2.2.2.1, u1.1.2.2.2.2.2))))), ((((u1.2.1.1.1.1, u1.2.1.1.1.2), (u1.2.1.1.2.1, (u1.2.1.1.2.2.1, u1.2.1.1.2.2.2))), ((u1.2.1.2.1.1, u1.2.1.2.1.2), (u1.2.1.2.2.1, (u1.2.1.2.2.2.1, u1.2.1.2.2.2.2)))), (((u1.2.2.1.1.1, u1.2.2.1.1.2), (u1.2.2.1.2.1, (u1.2.2.1.2.2.1, u1.2.2.1.2.2.2))), ((u1.2.2.2.1.1, (u1.2.2.2.1.2.1, u1.2.2.2.1.2.2)), (u1.2.2.2.2.1, (u1.2.2.2.2.2.1, u1.2.2.2.2.2.2))))))) H := hP
      have hD : va_D A (w_Mo k ad_this (((((u1.1.1.1.1.1, u1.1.1.1.1.2), (u1.1.1.1.2.1, (u1.1.1.1.2.2.1, u1.1.1.1.2.2.2))), ((u1.1.1.2.1.1, u1.1.1.2.1.2), (u1.1.1.2.2.1, (u1.1.1.2.2.2.1, u1.1.1.2.2.2.2)))), (((u1.1.1.2.1.1, u1.1.2.1.1.2), (u1.1.2.1.2.1, (u1.1.2.1.2.2.1, u1.1.2.1.2.2.2))), ((u1.1.2.2.1.1, (u1.1.2.2.1.2.1, u1.1.2.2.1.2.2)), (u1.1.2.2.2.1, (u1.1.2.2.2.2.1, u1.1.2.2.2.2.2))))), ((((u1.2.1.1.1.1, u1.2.1.1.1.2), (u1.2.1.1.2.1, (u1.2.1.1.2.2.1, u1.2.1.1.2.2.2))), ((u1.2.1.2.1.1, u1.2.1.2.1.2), (u1.2.1.2.2.1, (u1.2.1.2.2.2.1, u1.2.1.2.2.2.2)))), (((u1.2.2.1.1.1, u1.2.2.1.1.2), (u1.2.2.1.2.1, (u1.2.2.1.2.2.1, u1.2.2.1.2.2.2))), ((u1.2.2.2.1.1, (u1.2.2.2.1.2.1, u1.2.2.2.1.2.2)), (u1.2.2.2.2.1, (u1.2.2.2.2.2.1, u1.2.2.2.2.2.2))))))) := hD
      refine lv_iconst (v := (0 : Int32)) hx hb d_Mo_sumOf_28 (by decide) ?_
      exact xq_zret (r := (0 : Int32)) (u := (((((u1.1.1.1.1.1, u1.1.1.1.1.2), (u1.1.1.1.2.1, (u1.1.1.1.2.2.1, u1.1.1.1.2.2.2))), ((u1.1.1.2.1.1, u1.1.1.2.1.2), (u1.1.1.2.2.1, (u1.1.1.2.2.2.1, u1.1.1.2.2.2.2)))), (((u1.1.1.2.1.1, u1.1.2.1.1.2), (u1.1.2.1.2.1, (u1.1.2.1.2.2.1, u1.1.2.1.2.2.2))), ((u1.1.2.2.1.1, (u1.1.2.2.1.2.1, u1.1.2.2.1.2.2)), (u1.1.2.2.2.1, (u1.1.2.2.2.2.1, u1.1.2.2.2.2.2))))), ((((u1.2.1.1.1.1, u1.2.1.1.1.2), (u1.2.1.1.2.1, (u1.2.1.1.2.2.1, u1.2.1.1.2.2.2))), ((u1.2.1.2.1.1, u1.2.1.2.1.2), (u1.2.1.2.2.1, (u1.2.1.2.2.2.1, u1.2.1.2.2.2.2)))), (((u1.2.2.1.1.1, u1.2.2.1.1.2), (u1.2.2.1.2.1, (u1.2.2.1.2.2.1, u1.2.2.1.2.2.2))), ((u1.2.2.2.1.1, (u1.2.2.2.1.2.1, u1.2.2.2.1.2.2)), (u1.2.2.2.2.1, (u1.2.2.2.2.2.1, u1.2.2.2.2.2.2))))))) hx hb hr hlocks hAe hP hD hS rfl rfl hw (Nat.le_of_ble_eq_true rfl) (Nat.le_of_ble_eq_true rfl) d_Mo_sumOf_29
  · have hw := hw.2 hc
    refine lv_iconst (v := (0 : Int32)) hx hb d_Mo_sumOf_9 (by decide) ?_
    exact xq_zret (r := (0 : Int32)) (u := u1) hx hb hr hlocks hAe hP hD hS rfl rfl hw (Nat.le_of_ble_eq_true rfl) (Nat.le_of_ble_eq_true rfl) d_Mo_sumOf_10
theorem cw_Mo_sumOf {R : Room} {s : State} {args : Array Value} {own : String} {index : Nat} (hts : ∀ w ∈ xq_W, w.before args s = true) (hl : .methodLink own index y_Mo_sumOf ∈ xq_W) {rm : Room} (hR : rm.frames + 1 ≤ R.frames ∧ 8 + (3 + 11) + rm.locals ≤ R.locals) : CallW R s args own "StepTextModel" index y_Mo_sumOf prog_10_method_28_code 3 (some (.boolean)) (.code y_Mo_sumOf prog_10_method_28_code 3 (some (.boolean)) :: xq_W) rm rm.cells rm.slots 1 := ⟨xq_cb 1 hts kw5_142 kw1_13 hl ⟨by decide, by decide, by decide +kernel⟩ hR, hts _ kw5_141, hts _ kp5_3⟩
