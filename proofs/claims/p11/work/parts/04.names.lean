theorem kw1_164 : (Jvm.Cond.fieldLink "StepText$Names" (26 : Nat) "StepText$Names" "count" "I") ∈ xq_W := xq_in tb_1 164 (by decide +kernel) rfl
theorem kw2_144 : (Jvm.Cond.code ({ cls := "StepText$Names", name := "empty", desc := "()V" } : Jvm.MethodName) prog_4_method_2_code (1 : Nat) (Option.none : Option Jvm.ClassFile.FieldType)) ∈ xq_W := xq_in tb_2 144 (by decide +kernel) rfl
theorem kw1_9 : (Jvm.Cond.initialized "StepText$Names") ∈ xq_W := xq_in tb_1 9 (by decide +kernel) rfl
theorem kw2_142 : (Jvm.Cond.instanceMethod ({ cls := "StepText$Names", name := "empty", desc := "()V" } : Jvm.MethodName)) ∈ xq_W := xq_in tb_2 142 (by decide +kernel) rfl
theorem kw2_143 : (Jvm.Cond.selects "StepText$Names" ({ cls := "StepText$Names", name := "empty", desc := "()V" } : Jvm.MethodName) ({ cls := "StepText$Names", name := "empty", desc := "()V" } : Jvm.MethodName)) ∈ xq_W := xq_in tb_2 143 (by decide +kernel) rfl
theorem kw3_133 : (Jvm.Cond.code ({ cls := "StepText$Names", name := "count", desc := "()I" } : Jvm.MethodName) prog_4_method_3_code (1 : Nat) (Option.some Jvm.ClassFile.FieldType.int)) ∈ xq_W := xq_in tb_3 133 (by decide +kernel) rfl
theorem kw3_131 : (Jvm.Cond.instanceMethod ({ cls := "StepText$Names", name := "count", desc := "()I" } : Jvm.MethodName)) ∈ xq_W := xq_in tb_3 131 (by decide +kernel) rfl
theorem kw3_132 : (Jvm.Cond.selects "StepText$Names" ({ cls := "StepText$Names", name := "count", desc := "()I" } : Jvm.MethodName) ({ cls := "StepText$Names", name := "count", desc := "()I" } : Jvm.MethodName)) ∈ xq_W := xq_in tb_3 132 (by decide +kernel) rfl
theorem kw3_31 : (Jvm.Cond.code ({ cls := "StepText$Names", name := "has", desc := "(I)Z" } : Jvm.MethodName) prog_4_method_4_code (2 : Nat) (Option.some Jvm.ClassFile.FieldType.boolean)) ∈ xq_W := xq_in tb_3 31 (by decide +kernel) rfl
theorem kw3_29 : (Jvm.Cond.instanceMethod ({ cls := "StepText$Names", name := "has", desc := "(I)Z" } : Jvm.MethodName)) ∈ xq_W := xq_in tb_3 29 (by decide +kernel) rfl
theorem kw3_30 : (Jvm.Cond.selects "StepText$Names" ({ cls := "StepText$Names", name := "has", desc := "(I)Z" } : Jvm.MethodName) ({ cls := "StepText$Names", name := "has", desc := "(I)Z" } : Jvm.MethodName)) ∈ xq_W := xq_in tb_3 30 (by decide +kernel) rfl
theorem kw1_160 : (Jvm.Cond.fieldLink "StepText$Names" (9 : Nat) "StepText$Names" "letters" "[J") ∈ xq_W := xq_in tb_1 160 (by decide +kernel) rfl
theorem kw2_238 : (Jvm.Cond.code ({ cls := "StepText$Names", name := "find", desc := "(J)I" } : Jvm.MethodName) prog_4_method_5_code (4 : Nat) (Option.some Jvm.ClassFile.FieldType.int)) ∈ xq_W := xq_in tb_2 238 (by decide +kernel) rfl
theorem kw2_236 : (Jvm.Cond.instanceMethod ({ cls := "StepText$Names", name := "find", desc := "(J)I" } : Jvm.MethodName)) ∈ xq_W := xq_in tb_2 236 (by decide +kernel) rfl
theorem kw2_237 : (Jvm.Cond.selects "StepText$Names" ({ cls := "StepText$Names", name := "find", desc := "(J)I" } : Jvm.MethodName) ({ cls := "StepText$Names", name := "find", desc := "(J)I" } : Jvm.MethodName)) ∈ xq_W := xq_in tb_2 237 (by decide +kernel) rfl
theorem kw2_235 : (Jvm.Cond.methodLink "StepText$Names" (30 : Nat) ({ cls := "StepText$Names", name := "find", desc := "(J)I" } : Jvm.MethodName)) ∈ xq_W := xq_in tb_2 235 (by decide +kernel) rfl
theorem kw2_234 : (Jvm.Cond.code ({ cls := "StepText$Names", name := "canTell", desc := "(J)Z" } : Jvm.MethodName) prog_4_method_6_code (3 : Nat) (Option.some Jvm.ClassFile.FieldType.boolean)) ∈ xq_W := xq_in tb_2 234 (by decide +kernel) rfl
theorem kw2_232 : (Jvm.Cond.instanceMethod ({ cls := "StepText$Names", name := "canTell", desc := "(J)Z" } : Jvm.MethodName)) ∈ xq_W := xq_in tb_2 232 (by decide +kernel) rfl
theorem kw2_233 : (Jvm.Cond.selects "StepText$Names" ({ cls := "StepText$Names", name := "canTell", desc := "(J)Z" } : Jvm.MethodName) ({ cls := "StepText$Names", name := "canTell", desc := "(J)Z" } : Jvm.MethodName)) ∈ xq_W := xq_in tb_2 233 (by decide +kernel) rfl
theorem kw1_161 : (Jvm.Cond.fieldLink "StepText$Names" (15 : Nat) "StepText$Names" "sorts" "[I") ∈ xq_W := xq_in tb_1 161 (by decide +kernel) rfl
theorem kw1_162 : (Jvm.Cond.fieldLink "StepText$Names" (19 : Nat) "StepText$Names" "measures" "[I") ∈ xq_W := xq_in tb_1 162 (by decide +kernel) rfl
theorem kw1_163 : (Jvm.Cond.fieldLink "StepText$Names" (22 : Nat) "StepText$Names" "used" "[Z") ∈ xq_W := xq_in tb_1 163 (by decide +kernel) rfl
theorem kw3_141 : (Jvm.Cond.code ({ cls := "StepText$Names", name := "tell", desc := "(JII)V" } : Jvm.MethodName) prog_4_method_7_code (5 : Nat) (Option.none : Option Jvm.ClassFile.FieldType)) ∈ xq_W := xq_in tb_3 141 (by decide +kernel) rfl
theorem kw3_139 : (Jvm.Cond.instanceMethod ({ cls := "StepText$Names", name := "tell", desc := "(JII)V" } : Jvm.MethodName)) ∈ xq_W := xq_in tb_3 139 (by decide +kernel) rfl
theorem kw3_140 : (Jvm.Cond.selects "StepText$Names" ({ cls := "StepText$Names", name := "tell", desc := "(JII)V" } : Jvm.MethodName) ({ cls := "StepText$Names", name := "tell", desc := "(JII)V" } : Jvm.MethodName)) ∈ xq_W := xq_in tb_3 140 (by decide +kernel) rfl
theorem kw3_28 : (Jvm.Cond.methodLink "StepText$Names" (34 : Nat) ({ cls := "StepText$Names", name := "has", desc := "(I)Z" } : Jvm.MethodName)) ∈ xq_W := xq_in tb_3 28 (by decide +kernel) rfl
theorem kw3_35 : (Jvm.Cond.code ({ cls := "StepText$Names", name := "use", desc := "(I)V" } : Jvm.MethodName) prog_4_method_8_code (2 : Nat) (Option.none : Option Jvm.ClassFile.FieldType)) ∈ xq_W := xq_in tb_3 35 (by decide +kernel) rfl
theorem kw3_33 : (Jvm.Cond.instanceMethod ({ cls := "StepText$Names", name := "use", desc := "(I)V" } : Jvm.MethodName)) ∈ xq_W := xq_in tb_3 33 (by decide +kernel) rfl
theorem kw3_34 : (Jvm.Cond.selects "StepText$Names" ({ cls := "StepText$Names", name := "use", desc := "(I)V" } : Jvm.MethodName) ({ cls := "StepText$Names", name := "use", desc := "(I)V" } : Jvm.MethodName)) ∈ xq_W := xq_in tb_3 34 (by decide +kernel) rfl
theorem kw3_171 : (Jvm.Cond.code ({ cls := "StepText$Names", name := "isUsed", desc := "(I)Z" } : Jvm.MethodName) prog_4_method_9_code (2 : Nat) (Option.some Jvm.ClassFile.FieldType.boolean)) ∈ xq_W := xq_in tb_3 171 (by decide +kernel) rfl
theorem kw3_169 : (Jvm.Cond.instanceMethod ({ cls := "StepText$Names", name := "isUsed", desc := "(I)Z" } : Jvm.MethodName)) ∈ xq_W := xq_in tb_3 169 (by decide +kernel) rfl
theorem kw3_170 : (Jvm.Cond.selects "StepText$Names" ({ cls := "StepText$Names", name := "isUsed", desc := "(I)Z" } : Jvm.MethodName) ({ cls := "StepText$Names", name := "isUsed", desc := "(I)Z" } : Jvm.MethodName)) ∈ xq_W := xq_in tb_3 170 (by decide +kernel) rfl
theorem kw4_7 : (Jvm.Cond.code ({ cls := "StepText$Names", name := "isUnused", desc := "(II)Z" } : Jvm.MethodName) prog_4_method_10_code (3 : Nat) (Option.some Jvm.ClassFile.FieldType.boolean)) ∈ xq_W := xq_in tb_4 7 (by decide +kernel) rfl
theorem kw4_5 : (Jvm.Cond.instanceMethod ({ cls := "StepText$Names", name := "isUnused", desc := "(II)Z" } : Jvm.MethodName)) ∈ xq_W := xq_in tb_4 5 (by decide +kernel) rfl
theorem kw4_6 : (Jvm.Cond.selects "StepText$Names" ({ cls := "StepText$Names", name := "isUnused", desc := "(II)Z" } : Jvm.MethodName) ({ cls := "StepText$Names", name := "isUnused", desc := "(II)Z" } : Jvm.MethodName)) ∈ xq_W := xq_in tb_4 6 (by decide +kernel) rfl
theorem kw4_82 : (Jvm.Cond.code ({ cls := "StepText$Names", name := "lettersOf", desc := "(I)J" } : Jvm.MethodName) prog_4_method_11_code (2 : Nat) (Option.some Jvm.ClassFile.FieldType.long)) ∈ xq_W := xq_in tb_4 82 (by decide +kernel) rfl
theorem kw4_80 : (Jvm.Cond.instanceMethod ({ cls := "StepText$Names", name := "lettersOf", desc := "(I)J" } : Jvm.MethodName)) ∈ xq_W := xq_in tb_4 80 (by decide +kernel) rfl
theorem kw4_81 : (Jvm.Cond.selects "StepText$Names" ({ cls := "StepText$Names", name := "lettersOf", desc := "(I)J" } : Jvm.MethodName) ({ cls := "StepText$Names", name := "lettersOf", desc := "(I)J" } : Jvm.MethodName)) ∈ xq_W := xq_in tb_4 81 (by decide +kernel) rfl
theorem kw3_27 : (Jvm.Cond.code ({ cls := "StepText$Names", name := "sortOf", desc := "(I)I" } : Jvm.MethodName) prog_4_method_12_code (2 : Nat) (Option.some Jvm.ClassFile.FieldType.int)) ∈ xq_W := xq_in tb_3 27 (by decide +kernel) rfl
theorem kw3_25 : (Jvm.Cond.instanceMethod ({ cls := "StepText$Names", name := "sortOf", desc := "(I)I" } : Jvm.MethodName)) ∈ xq_W := xq_in tb_3 25 (by decide +kernel) rfl
theorem kw3_26 : (Jvm.Cond.selects "StepText$Names" ({ cls := "StepText$Names", name := "sortOf", desc := "(I)I" } : Jvm.MethodName) ({ cls := "StepText$Names", name := "sortOf", desc := "(I)I" } : Jvm.MethodName)) ∈ xq_W := xq_in tb_3 26 (by decide +kernel) rfl
theorem kw3_39 : (Jvm.Cond.code ({ cls := "StepText$Names", name := "measureOf", desc := "(I)I" } : Jvm.MethodName) prog_4_method_13_code (2 : Nat) (Option.some Jvm.ClassFile.FieldType.int)) ∈ xq_W := xq_in tb_3 39 (by decide +kernel) rfl
theorem kw3_37 : (Jvm.Cond.instanceMethod ({ cls := "StepText$Names", name := "measureOf", desc := "(I)I" } : Jvm.MethodName)) ∈ xq_W := xq_in tb_3 37 (by decide +kernel) rfl
theorem kw3_38 : (Jvm.Cond.selects "StepText$Names" ({ cls := "StepText$Names", name := "measureOf", desc := "(I)I" } : Jvm.MethodName) ({ cls := "StepText$Names", name := "measureOf", desc := "(I)I" } : Jvm.MethodName)) ∈ xq_W := xq_in tb_3 38 (by decide +kernel) rfl
def y_Nm_empty : MethodName := ⟨"StepText$Names", "empty", "()V"⟩
theorem d_Nm_empty_0 : decode prog_4_method_2_code 0 = .ok (.aload_n 0, 1) := by decide +kernel
theorem d_Nm_empty_1 : decode prog_4_method_2_code 1 = .ok (.iconst 0, 1) := by decide +kernel
theorem d_Nm_empty_2 : decode prog_4_method_2_code 2 = .ok (.putfield 26, 3) := by decide +kernel
theorem d_Nm_empty_5 : decode prog_4_method_2_code 5 = .ok (.return_, 1) := by decide +kernel
def wp_Nm_empty (z_this : T_Nm) (post : Unit → T_Nm → Prop) : Prop := post () (z_this.1, z_this.2.1, z_this.2.2.1, z_this.2.2.2.1, (0 : Int32))
def rm_Nm_empty : Room := { frames := 0, cells := 0, slots := 0, locals := 0 }
set_option maxHeartbeats 4000000 in
set_option maxRecDepth 100000 in
theorem c_Nm_empty {l : Launch} {o : State × Array Value} {D : va_G} {k : Nat → ClassId} {ad_this : Nat → Nat} {z_this : T_Nm} {post : Unit → T_Nm → Prop} (hw : wp_Nm_empty z_this post) : xq_C l o y_Nm_empty (.code y_Nm_empty prog_4_method_2_code 1 none :: xq_W) rm_Nm_empty D vwCl (xt k) [.ref (ad_this 0)] (w_Nm k ad_this z_this) (fun _ : Unit => none) post (fun _ : T_Nm => False) (fun u : T_Nm => w_Nm k ad_this u) 0 0 0 0 := by
  refine xq_ofW (cc := prog_4_method_2_code) (maxL := 1) (ret := none) (by decide) rfl (Nat.le_of_ble_eq_true rfl) ?_
  intro p e s m below meth c ls H locs A hAt hAe hA hl hK hJ hP0 hP hD hS
  obtain ⟨hx, hb, hml, hr, hlocks, hown, hts, hex, hnm⟩ := id hAt
  have hl : lv_has ls 1 [(0, .ref (ad_this 0))] := hl
  unfold wp_Nm_empty at hw
  refine lv_aload_n hx hb d_Nm_empty_0 rfl (lv_at hl 0 rfl) ?_
  refine lv_iconst (v := (0 : Int32)) hx hb d_Nm_empty_1 (by decide) ?_
  refine va_put (D := D) (ci := 3) (v := .int (0 : Int32)) (ty := .int) (C := R_Nm) (T := F_Nm) (N := 5) hx hb hts in_Nm t_Nm t_Nm_ok n_Nm hown hK hP hD hS 0 rfl rfl 4 (by decide) (hts (.fieldLink R_Nm 26 R_Nm "count" "I") kw1_164) (fun _ h9 => h9) rfl (by decide +kernel) rfl rfl (Nat.le_of_ble_eq_true rfl) d_Nm_empty_2 (fun H locs hP hD hS => ?_)
  have hP : va_P D vwCl (w_Nm k ad_this (z_this.1, z_this.2.1, z_this.2.2.1, z_this.2.2.2.1, (0 : Int32))) H := hP
  have hD : va_D A (w_Nm k ad_this (z_this.1, z_this.2.1, z_this.2.2.1, z_this.2.2.2.1, (0 : Int32))) := hD
  exact xq_vret (r := ()) (u := (z_this.1, z_this.2.1, z_this.2.2.1, z_this.2.2.2.1, (0 : Int32))) hx hb hr hlocks hAe hP hD hS rfl hw (Nat.le_of_ble_eq_true rfl) (Nat.le_of_ble_eq_true rfl) d_Nm_empty_5
theorem cw_Nm_empty {R : Room} {s : State} {args : Array Value} {own : String} {index : Nat} (hts : ∀ w ∈ xq_W, w.before args s = true) (hl : .methodLink own index y_Nm_empty ∈ xq_W) {rm : Room} (hR : rm.frames + 1 ≤ R.frames ∧ 8 + (1 + 11) + rm.locals ≤ R.locals) : CallW R s args own "StepText$Names" index y_Nm_empty prog_4_method_2_code 1 none (.code y_Nm_empty prog_4_method_2_code 1 none :: xq_W) rm rm.cells rm.slots 0 := ⟨xq_cb 0 hts kw2_144 kw1_9 hl ⟨by decide, by decide, by decide +kernel⟩ hR, hts _ kw2_142, hts _ kw2_143⟩
def y_Nm_count : MethodName := ⟨"StepText$Names", "count", "()I"⟩
theorem d_Nm_count_0 : decode prog_4_method_3_code 0 = .ok (.aload_n 0, 1) := by decide +kernel
theorem d_Nm_count_1 : decode prog_4_method_3_code 1 = .ok (.getfield 26, 3) := by decide +kernel
theorem d_Nm_count_4 : decode prog_4_method_3_code 4 = .ok (.ireturn, 1) := by decide +kernel
def wp_Nm_count (z_this : T_Nm) (post : Int32 → Unit → Prop) : Prop := post z_this.2.2.2.2 ()
def rm_Nm_count : Room := { frames := 0, cells := 0, slots := 0, locals := 0 }
set_option maxHeartbeats 4000000 in
set_option maxRecDepth 100000 in
theorem c_Nm_count {l : Launch} {o : State × Array Value} {D : va_G} {k : Nat → ClassId} {ad_this : Nat → Nat} {z_this : T_Nm} {post : Int32 → Unit → Prop} (hw : wp_Nm_count z_this post) : xq_C l o y_Nm_count (.code y_Nm_count prog_4_method_3_code 1 (some (.int)) :: xq_W) rm_Nm_count D vwCl (xt k) [.ref (ad_this 0)] (w_Nm k ad_this z_this) (fun r : Int32 => some (.int r)) post (fun _ : Unit => False) (fun u : Unit => w_Nm k ad_this z_this) 0 0 0 0 := by
  refine xq_ofW (cc := prog_4_method_3_code) (maxL := 1) (ret := (some (.int))) (by decide) rfl (Nat.le_of_ble_eq_true rfl) ?_
  intro p e s m below meth c ls H locs A hAt hAe hA hl hK hJ hP0 hP hD hS
  obtain ⟨hx, hb, hml, hr, hlocks, hown, hts, hex, hnm⟩ := id hAt
  have hl : lv_has ls 1 [(0, .ref (ad_this 0))] := hl
  unfold wp_Nm_count at hw
  refine lv_aload_n hx hb d_Nm_count_0 rfl (lv_at hl 0 rfl) ?_
  refine va_get (D := D) (ci := 3) (v := .int z_this.2.2.2.2) (C := R_Nm) (T := F_Nm) (N := 5) hx hb hts in_Nm hown hK hP 0 rfl rfl 4 (by decide) (hts (.fieldLink R_Nm 26 R_Nm "count" "I") kw1_164) (fun _ h9 => h9) rfl d_Nm_count_1 ?_
  exact xq_iret (r := z_this.2.2.2.2) (u := ()) hx hb hr hlocks hAe hP hD hS rfl hw (Nat.le_of_ble_eq_true rfl) (Nat.le_of_ble_eq_true rfl) d_Nm_count_4
theorem cw_Nm_count {R : Room} {s : State} {args : Array Value} {own : String} {index : Nat} (hts : ∀ w ∈ xq_W, w.before args s = true) (hl : .methodLink own index y_Nm_count ∈ xq_W) {rm : Room} (hR : rm.frames + 1 ≤ R.frames ∧ 8 + (1 + 11) + rm.locals ≤ R.locals) : CallW R s args own "StepText$Names" index y_Nm_count prog_4_method_3_code 1 (some (.int)) (.code y_Nm_count prog_4_method_3_code 1 (some (.int)) :: xq_W) rm rm.cells rm.slots 0 := ⟨xq_cb 0 hts kw3_133 kw1_9 hl ⟨by decide, by decide, by decide +kernel⟩ hR, hts _ kw3_131, hts _ kw3_132⟩
def y_Nm_has : MethodName := ⟨"StepText$Names", "has", "(I)Z"⟩
theorem d_Nm_has_0 : decode prog_4_method_4_code 0 = .ok (.iload_n 1, 1) := by decide +kernel
theorem d_Nm_has_1 : decode prog_4_method_4_code 1 = .ok (.ifCond .lt 21, 3) := by decide +kernel
theorem d_Nm_has_4 : decode prog_4_method_4_code 4 = .ok (.iload_n 1, 1) := by decide +kernel
theorem d_Nm_has_5 : decode prog_4_method_4_code 5 = .ok (.aload_n 0, 1) := by decide +kernel
theorem d_Nm_has_6 : decode prog_4_method_4_code 6 = .ok (.getfield 26, 3) := by decide +kernel
theorem d_Nm_has_9 : decode prog_4_method_4_code 9 = .ok (.if_icmp .ge 13, 3) := by decide +kernel
theorem d_Nm_has_12 : decode prog_4_method_4_code 12 = .ok (.iload_n 1, 1) := by decide +kernel
theorem d_Nm_has_13 : decode prog_4_method_4_code 13 = .ok (.bipush 100, 2) := by decide +kernel
theorem d_Nm_has_15 : decode prog_4_method_4_code 15 = .ok (.if_icmp .ge 7, 3) := by decide +kernel
theorem d_Nm_has_18 : decode prog_4_method_4_code 18 = .ok (.iconst 1, 1) := by decide +kernel
theorem d_Nm_has_19 : decode prog_4_method_4_code 19 = .ok (.goto 4, 3) := by decide +kernel
theorem d_Nm_has_22 : decode prog_4_method_4_code 22 = .ok (.iconst 0, 1) := by decide +kernel
theorem d_Nm_has_23 : decode prog_4_method_4_code 23 = .ok (.ireturn, 1) := by decide +kernel
def wp_Nm_has (z_this : T_Nm) (a1 : Int32) (post : Int32 → Unit → Prop) : Prop := (a1 < 0 → (post (0 : Int32) ())) ∧ (¬ a1 < 0 → ((z_this.2.2.2.2 ≤ a1 → (post (0 : Int32) ())) ∧ (¬ z_this.2.2.2.2 ≤ a1 → (((100 : Int32) ≤ a1 → (post (0 : Int32) ())) ∧ (¬ (100 : Int32) ≤ a1 → (post (1 : Int32) ()))))))
def rm_Nm_has : Room := { frames := 0, cells := 0, slots := 0, locals := 0 }
set_option maxHeartbeats 4000000 in
set_option maxRecDepth 100000 in
theorem c_Nm_has {l : Launch} {o : State × Array Value} {D : va_G} {k : Nat → ClassId} {ad_this : Nat → Nat} {z_this : T_Nm} {a1 : Int32} {post : Int32 → Unit → Prop} (hw : wp_Nm_has z_this a1 post) : xq_C l o y_Nm_has (.code y_Nm_has prog_4_method_4_code 2 (some (.boolean)) :: xq_W) rm_Nm_has D vwCl (xt k) [.ref (ad_this 0), .int a1] (w_Nm k ad_this z_this) (fun r : Int32 => some (.int r)) post (fun _ : Unit => False) (fun u : Unit => w_Nm k ad_this z_this) 0 0 0 0 := by
  refine xq_ofW (cc := prog_4_method_4_code) (maxL := 2) (ret := (some (.boolean))) (by decide) rfl (Nat.le_of_ble_eq_true rfl) ?_
  intro p e s m below meth c ls H locs A hAt hAe hA hl hK hJ hP0 hP hD hS
  obtain ⟨hx, hb, hml, hr, hlocks, hown, hts, hex, hnm⟩ := id hAt
  have hl : lv_has ls 2 [(0, .ref (ad_this 0)), (1, .int a1)] := hl
  unfold wp_Nm_has at hw
  refine lv_iload_n hx hb d_Nm_has_0 rfl (lv_at hl 1 rfl) ?_
  refine lv_if_lt (tgt := 22) hx hb d_Nm_has_1 (by decide) (fun hc => ?_) (fun hc => ?_)
  · have hw := hw.1 hc
    refine lv_iconst (v := (0 : Int32)) hx hb d_Nm_has_22 (by decide) ?_
    exact xq_zret (r := (0 : Int32)) (u := ()) hx hb hr hlocks hAe hP hD hS rfl rfl hw (Nat.le_of_ble_eq_true rfl) (Nat.le_of_ble_eq_true rfl) d_Nm_has_23
  · have hw := hw.2 hc
    refine lv_iload_n hx hb d_Nm_has_4 rfl (lv_at hl 1 rfl) ?_
    refine lv_aload_n hx hb d_Nm_has_5 rfl (lv_at hl 0 rfl) ?_
    refine va_get (D := D) (ci := 3) (v := .int z_this.2.2.2.2) (C := R_Nm) (T := F_Nm) (N := 5) hx hb hts in_Nm hown hK hP 0 rfl rfl 4 (by decide) (hts (.fieldLink R_Nm 26 R_Nm "count" "I") kw1_164) (fun _ h9 => h9) rfl d_Nm_has_6 ?_
    refine lv_icmp_ge (tgt := 22) hx hb d_Nm_has_9 (by decide) (fun hc => ?_) (fun hc => ?_)
    · have hw := hw.1 hc
      refine lv_iconst (v := (0 : Int32)) hx hb d_Nm_has_22 (by decide) ?_
      exact xq_zret (r := (0 : Int32)) (u := ()) hx hb hr hlocks hAe hP hD hS rfl rfl hw (Nat.le_of_ble_eq_true rfl) (Nat.le_of_ble_eq_true rfl) d_Nm_has_23
    · have hw := hw.2 hc
      refine lv_iload_n hx hb d_Nm_has_12 rfl (lv_at hl 1 rfl) ?_
      refine lv_bipush (v := (100 : Int32)) hx hb d_Nm_has_13 (by decide) ?_
      refine lv_icmp_ge (tgt := 22) hx hb d_Nm_has_15 (by decide) (fun hc => ?_) (fun hc => ?_)
      · have hw := hw.1 hc
        refine lv_iconst (v := (0 : Int32)) hx hb d_Nm_has_22 (by decide) ?_
        exact xq_zret (r := (0 : Int32)) (u := ()) hx hb hr hlocks hAe hP hD hS rfl rfl hw (Nat.le_of_ble_eq_true rfl) (Nat.le_of_ble_eq_true rfl) d_Nm_has_23
      · have hw := hw.2 hc
        refine lv_iconst (v := (1 : Int32)) hx hb d_Nm_has_18 (by decide) ?_
        refine lv_goto (tgt := 23) hx hb d_Nm_has_19 (by decide) ?_
        exact xq_zret (r := (1 : Int32)) (u := ()) hx hb hr hlocks hAe hP hD hS rfl rfl hw (Nat.le_of_ble_eq_true rfl) (Nat.le_of_ble_eq_true rfl) d_Nm_has_23
theorem cw_Nm_has {R : Room} {s : State} {args : Array Value} {own : String} {index : Nat} (hts : ∀ w ∈ xq_W, w.before args s = true) (hl : .methodLink own index y_Nm_has ∈ xq_W) {rm : Room} (hR : rm.frames + 1 ≤ R.frames ∧ 8 + (2 + 11) + rm.locals ≤ R.locals) : CallW R s args own "StepText$Names" index y_Nm_has prog_4_method_4_code 2 (some (.boolean)) (.code y_Nm_has prog_4_method_4_code 2 (some (.boolean)) :: xq_W) rm rm.cells rm.slots 1 := ⟨xq_cb 1 hts kw3_31 kw1_9 hl ⟨by decide, by decide, by decide +kernel⟩ hR, hts _ kw3_29, hts _ kw3_30⟩
def y_Nm_find : MethodName := ⟨"StepText$Names", "find", "(J)I"⟩
theorem d_Nm_find_0 : decode prog_4_method_5_code 0 = .ok (.iconst 0, 1) := by decide +kernel
theorem d_Nm_find_1 : decode prog_4_method_5_code 1 = .ok (.istore_n 3, 1) := by decide +kernel
theorem d_Nm_find_2 : decode prog_4_method_5_code 2 = .ok (.iload_n 3, 1) := by decide +kernel
theorem d_Nm_find_3 : decode prog_4_method_5_code 3 = .ok (.aload_n 0, 1) := by decide +kernel
theorem d_Nm_find_4 : decode prog_4_method_5_code 4 = .ok (.getfield 26, 3) := by decide +kernel
theorem d_Nm_find_7 : decode prog_4_method_5_code 7 = .ok (.if_icmp .ge 28, 3) := by decide +kernel
theorem d_Nm_find_10 : decode prog_4_method_5_code 10 = .ok (.iload_n 3, 1) := by decide +kernel
theorem d_Nm_find_11 : decode prog_4_method_5_code 11 = .ok (.bipush 100, 2) := by decide +kernel
theorem d_Nm_find_13 : decode prog_4_method_5_code 13 = .ok (.if_icmp .ge 22, 3) := by decide +kernel
theorem d_Nm_find_16 : decode prog_4_method_5_code 16 = .ok (.aload_n 0, 1) := by decide +kernel
theorem d_Nm_find_17 : decode prog_4_method_5_code 17 = .ok (.getfield 9, 3) := by decide +kernel
theorem d_Nm_find_20 : decode prog_4_method_5_code 20 = .ok (.iload_n 3, 1) := by decide +kernel
theorem d_Nm_find_21 : decode prog_4_method_5_code 21 = .ok (.laload, 1) := by decide +kernel
theorem d_Nm_find_22 : decode prog_4_method_5_code 22 = .ok (.lload_n 1, 1) := by decide +kernel
theorem d_Nm_find_23 : decode prog_4_method_5_code 23 = .ok (.lcmp, 1) := by decide +kernel
theorem d_Nm_find_24 : decode prog_4_method_5_code 24 = .ok (.ifCond .ne 5, 3) := by decide +kernel
theorem d_Nm_find_27 : decode prog_4_method_5_code 27 = .ok (.iload_n 3, 1) := by decide +kernel
theorem d_Nm_find_28 : decode prog_4_method_5_code 28 = .ok (.ireturn, 1) := by decide +kernel
theorem d_Nm_find_29 : decode prog_4_method_5_code 29 = .ok (.iinc 3 1, 3) := by decide +kernel
theorem d_Nm_find_32 : decode prog_4_method_5_code 32 = .ok (.goto (-30), 3) := by decide +kernel
theorem d_Nm_find_35 : decode prog_4_method_5_code 35 = .ok (.iconst (-1), 1) := by decide +kernel
theorem d_Nm_find_36 : decode prog_4_method_5_code 36 = .ok (.ireturn, 1) := by decide +kernel
def wp_Nm_find_L2 (z_this : T_Nm) (K : Int64 → Int32 → Prop) (post : Int32 → Unit → Prop) : Nat → Int64 → Int32 → Prop
  | 0, _, _ => False
  | n9 + 1, x1, x3 => (z_this.2.2.2.2 ≤ x3 → (K x1 x3)) ∧ (¬ z_this.2.2.2.2 ≤ x3 → (((100 : Int32) ≤ x3 → (K x1 x3)) ∧ (¬ (100 : Int32) ≤ x3 → (vp_in x3 100 ∧ (((lg_cmp (z_this.1 (x3).toNatClampNeg) x1) = 0 → (post x3 ())) ∧ (¬ (lg_cmp (z_this.1 (x3).toNatClampNeg) x1) = 0 → (wp_Nm_find_L2 z_this K post n9 x1 (x3 + (1 : Int32)))))))))
def wp_Nm_find (z_this : T_Nm) (a1 : Int64) (post : Int32 → Unit → Prop) : Prop := ∃ k9 : Nat, wp_Nm_find_L2 z_this (fun (x1 : Int64) (x3 : Int32) => post (-1 : Int32) ()) post k9 a1 (0 : Int32)
def rm_Nm_find : Room := { frames := 0, cells := 0, slots := 0, locals := 0 }
set_option maxHeartbeats 4000000 in
set_option maxRecDepth 100000 in
theorem t_Nm_find_L2 {p : Program} {l : Launch} {o : State × Array Value} {e : Env} {s : State} {m : MethodId} {args : Array Value} {below : List Frame} {meth : Method} {c : Code} {D : va_G} {k : Nat → ClassId} {w0 : va_W} {A : Nat → Prop} {ad_this : Nat → Nat} {z_this : T_Nm} {post : Int32 → Unit → Prop} (hAt : xq_At p s m args meth c prog_4_method_5_code 4 (some (.int)) y_Nm_find xq_W) (hK : va_K D vwCl (xt k) s) (hJ : xq_J l o A s s.heap) (hAe : va_A w0 s.heap.size = A) (hA : ∀ q, s.heap.size ≤ q → A q) {K : Int64 → Int32 → Prop} (hX : ∀ (x1 : Int64) (x3 : Int32) (H : Heap) (locs : List Loc) (ls : Array Slot), lv_has ls 4 [(0, .ref (ad_this 0)), (1, .long x1), (3, .int x3)] → va_P D vwCl (w_Nm k ad_this z_this) H → va_D A (w_Nm k ad_this z_this) → va_S A s.heap H locs → K x1 x3 → W p l e rm_Nm_find s m args below meth c H locs 0 0 (xq_Z below D vwCl (xt k) w0 (fun r : Int32 => some (.int r)) post (fun _ : Unit => False) (fun u : Unit => w_Nm k ad_this z_this) 0 0 0 0 s) (F0 m 35 ls [])) :
    ∀ (n9 : Nat) (x1 : Int64) (x3 : Int32) (H : Heap) (locs : List Loc) (ls : Array Slot), lv_has ls 4 [(0, .ref (ad_this 0)), (1, .long x1), (3, .int x3)] → va_P D vwCl (w_Nm k ad_this z_this) H → va_D A (w_Nm k ad_this z_this) → va_S A s.heap H locs → wp_Nm_find_L2 z_this K post n9 x1 x3 → W p l e rm_Nm_find s m args below meth c H locs 0 0 (xq_Z below D vwCl (xt k) w0 (fun r : Int32 => some (.int r)) post (fun _ : Unit => False) (fun u : Unit => w_Nm k ad_this z_this) 0 0 0 0 s) (F0 m 2 ls []) := by
  obtain ⟨hx, hb, hml, hr, hlocks, hown, hts, hex, hnm⟩ := id hAt
  intro n9
  induction n9 with
  | zero => intro x1 x3 H locs ls hl hP hD hS hw; exact False.elim (by rw [wp_Nm_find_L2] at hw; exact hw)
  | succ n9 ih =>
    intro x1 x3 H locs ls hl hP hD hS hw
    rw [wp_Nm_find_L2] at hw
    refine lv_iload_n hx hb d_Nm_find_2 rfl (lv_at hl 2 rfl) ?_
    refine lv_aload_n hx hb d_Nm_find_3 rfl (lv_at hl 0 rfl) ?_
    refine va_get (D := D) (ci := 3) (v := .int z_this.2.2.2.2) (C := R_Nm) (T := F_Nm) (N := 5) hx hb hts in_Nm hown hK hP 0 rfl rfl 4 (by decide) (hts (.fieldLink R_Nm 26 R_Nm "count" "I") kw1_164) (fun _ h9 => h9) rfl d_Nm_find_4 ?_
    refine lv_icmp_ge (tgt := 35) hx hb d_Nm_find_7 (by decide) (fun hc => ?_) (fun hc => ?_)
    · have hw := hw.1 hc
      exact hX x1 x3 H locs ls (lv_sub hl [0, 1, 2] rfl) hP hD hS hw
    · have hw := hw.2 hc
      refine lv_iload_n hx hb d_Nm_find_10 rfl (lv_at hl 2 rfl) ?_
      refine lv_bipush (v := (100 : Int32)) hx hb d_Nm_find_11 (by decide) ?_
      refine lv_icmp_ge (tgt := 35) hx hb d_Nm_find_13 (by decide) (fun hc => ?_) (fun hc => ?_)
      · have hw := hw.1 hc
        exact hX x1 x3 H locs ls (lv_sub hl [0, 1, 2] rfl) hP hD hS hw
      · have hw := hw.2 hc
        refine lv_aload_n hx hb d_Nm_find_16 rfl (lv_at hl 0 rfl) ?_
        refine va_get (D := D) (ci := 3) (v := .ref (ad_this 1)) (C := R_Nm) (T := F_Nm) (N := 5) hx hb hts in_Nm hown hK hP 0 rfl rfl 0 (by decide) (hts (.fieldLink R_Nm 9 R_Nm "letters" "[J") kw1_160) (fun _ h9 => h9) rfl d_Nm_find_17 ?_
        refine lv_iload_n hx hb d_Nm_find_20 rfl (lv_at hl 2 rfl) ?_
        refine va_lald hx hb hK hP 1 1 rfl rfl hw.1 d_Nm_find_21 ?_
        have hw := hw.2
        refine lv_lload_n hx hb d_Nm_find_22 rfl (lv_at hl 1 rfl) ?_
        refine W.lcmp hx hb d_Nm_find_23 ?_
        refine lv_if_ne (tgt := 29) hx hb d_Nm_find_24 (by decide) (fun hc => ?_) (fun hc => ?_)
        · have hw := hw.2 hc
          refine lv_iinc (v := (x3 + (1 : Int32))) (lv' := [(3, .int (x3 + (1 : Int32))), (0, .ref (ad_this 0)), (1, .long x1)]) hx hb d_Nm_find_29 hl (k := 2) rfl rfl (by decide) rfl (fun ls hl => ?_)
          refine lv_goto (tgt := 2) hx hb d_Nm_find_32 (by decide) ?_
          exact ih x1 (x3 + (1 : Int32)) H locs ls (lv_sub hl [1, 2, 0] rfl) hP hD hS hw
        · have hw := hw.1 hc
          refine lv_iload_n hx hb d_Nm_find_27 rfl (lv_at hl 2 rfl) ?_
          exact xq_iret (r := x3) (u := ()) hx hb hr hlocks hAe hP hD hS rfl hw (Nat.le_of_ble_eq_true rfl) (Nat.le_of_ble_eq_true rfl) d_Nm_find_28
set_option maxHeartbeats 4000000 in
set_option maxRecDepth 100000 in
theorem c_Nm_find {l : Launch} {o : State × Array Value} {D : va_G} {k : Nat → ClassId} {ad_this : Nat → Nat} {z_this : T_Nm} {a1 : Int64} {post : Int32 → Unit → Prop} (hw : wp_Nm_find z_this a1 post) : xq_C l o y_Nm_find (.code y_Nm_find prog_4_method_5_code 4 (some (.int)) :: xq_W) rm_Nm_find D vwCl (xt k) [.ref (ad_this 0), .long a1] (w_Nm k ad_this z_this) (fun r : Int32 => some (.int r)) post (fun _ : Unit => False) (fun u : Unit => w_Nm k ad_this z_this) 0 0 0 0 := by
  refine xq_ofW (cc := prog_4_method_5_code) (maxL := 4) (ret := (some (.int))) (by decide) rfl (Nat.le_of_ble_eq_true rfl) ?_
  intro p e s m below meth c ls H locs A hAt hAe hA hl hK hJ hP0 hP hD hS
  obtain ⟨hx, hb, hml, hr, hlocks, hown, hts, hex, hnm⟩ := id hAt
  have hl : lv_has ls 4 [(0, .ref (ad_this 0)), (1, .long a1)] := hl
  unfold wp_Nm_find at hw
  refine lv_iconst (v := (0 : Int32)) hx hb d_Nm_find_0 (by decide) ?_
  refine lv_istore_n (lv' := [(3, .int (0 : Int32)), (0, .ref (ad_this 0)), (1, .long a1)]) hx hb d_Nm_find_1 rfl hl (by decide) rfl (fun ls hl => ?_)
  obtain ⟨k9, hw⟩ := hw
  refine t_Nm_find_L2 hAt hK hJ hAe hA ?_ k9 a1 (0 : Int32) H locs ls (lv_sub hl [1, 2, 0] rfl) hP hD hS hw
  intro x1 x3 H locs ls hl hP hD hS hw
  refine lv_iconst (v := (-1 : Int32)) hx hb d_Nm_find_35 (by decide) ?_
  exact xq_iret (r := (-1 : Int32)) (u := ()) hx hb hr hlocks hAe hP hD hS rfl hw (Nat.le_of_ble_eq_true rfl) (Nat.le_of_ble_eq_true rfl) d_Nm_find_36
theorem cw_Nm_find {R : Room} {s : State} {args : Array Value} {own : String} {index : Nat} (hts : ∀ w ∈ xq_W, w.before args s = true) (hl : .methodLink own index y_Nm_find ∈ xq_W) {rm : Room} (hR : rm.frames + 1 ≤ R.frames ∧ 8 + (4 + 11) + rm.locals ≤ R.locals) : CallW R s args own "StepText$Names" index y_Nm_find prog_4_method_5_code 4 (some (.int)) (.code y_Nm_find prog_4_method_5_code 4 (some (.int)) :: xq_W) rm rm.cells rm.slots 1 := ⟨xq_cb 1 hts kw2_238 kw1_9 hl ⟨by decide, by decide, by decide +kernel⟩ hR, hts _ kw2_236, hts _ kw2_237⟩
def y_Nm_canTell : MethodName := ⟨"StepText$Names", "canTell", "(J)Z"⟩
theorem d_Nm_canTell_0 : decode prog_4_method_6_code 0 = .ok (.aload_n 0, 1) := by decide +kernel
theorem d_Nm_canTell_1 : decode prog_4_method_6_code 1 = .ok (.getfield 26, 3) := by decide +kernel
theorem d_Nm_canTell_4 : decode prog_4_method_6_code 4 = .ok (.bipush 100, 2) := by decide +kernel
theorem d_Nm_canTell_6 : decode prog_4_method_6_code 6 = .ok (.if_icmp .ge 16, 3) := by decide +kernel
theorem d_Nm_canTell_9 : decode prog_4_method_6_code 9 = .ok (.aload_n 0, 1) := by decide +kernel
theorem d_Nm_canTell_10 : decode prog_4_method_6_code 10 = .ok (.lload_n 1, 1) := by decide +kernel
theorem d_Nm_canTell_11 : decode prog_4_method_6_code 11 = .ok (.invokevirtual 30, 3) := by decide +kernel
theorem d_Nm_canTell_14 : decode prog_4_method_6_code 14 = .ok (.iconst (-1), 1) := by decide +kernel
theorem d_Nm_canTell_15 : decode prog_4_method_6_code 15 = .ok (.if_icmp .ne 7, 3) := by decide +kernel
theorem d_Nm_canTell_18 : decode prog_4_method_6_code 18 = .ok (.iconst 1, 1) := by decide +kernel
theorem d_Nm_canTell_19 : decode prog_4_method_6_code 19 = .ok (.goto 4, 3) := by decide +kernel
theorem d_Nm_canTell_22 : decode prog_4_method_6_code 22 = .ok (.iconst 0, 1) := by decide +kernel
theorem d_Nm_canTell_23 : decode prog_4_method_6_code 23 = .ok (.ireturn, 1) := by decide +kernel
def wp_Nm_canTell (z_this : T_Nm) (a1 : Int64) (post : Int32 → Unit → Prop) : Prop := ((100 : Int32) ≤ z_this.2.2.2.2 → (post (0 : Int32) ())) ∧ (¬ (100 : Int32) ≤ z_this.2.2.2.2 → (wp_Nm_find z_this a1 (fun (r1 : Int32) (u1 : Unit) => (r1 = (-1 : Int32) → (post (1 : Int32) ())) ∧ (¬ r1 = (-1 : Int32) → (post (0 : Int32) ())))))
def rm_Nm_canTell : Room := { frames := 1, cells := 0, slots := 0, locals := 23 }
set_option maxHeartbeats 4000000 in
set_option maxRecDepth 100000 in
theorem c_Nm_canTell {l : Launch} {o : State × Array Value} {D : va_G} {k : Nat → ClassId} {ad_this : Nat → Nat} {z_this : T_Nm} {a1 : Int64} {post : Int32 → Unit → Prop} (hw : wp_Nm_canTell z_this a1 post) : xq_C l o y_Nm_canTell (.code y_Nm_canTell prog_4_method_6_code 3 (some (.boolean)) :: xq_W) rm_Nm_canTell D vwCl (xt k) [.ref (ad_this 0), .long a1] (w_Nm k ad_this z_this) (fun r : Int32 => some (.int r)) post (fun _ : Unit => False) (fun u : Unit => w_Nm k ad_this z_this) 0 0 0 0 := by
  refine xq_ofW (cc := prog_4_method_6_code) (maxL := 3) (ret := (some (.boolean))) (by decide) rfl (Nat.le_of_ble_eq_true rfl) ?_
  intro p e s m below meth c ls H locs A hAt hAe hA hl hK hJ hP0 hP hD hS
  obtain ⟨hx, hb, hml, hr, hlocks, hown, hts, hex, hnm⟩ := id hAt
  have hl : lv_has ls 3 [(0, .ref (ad_this 0)), (1, .long a1)] := hl
  unfold wp_Nm_canTell at hw
  refine lv_aload_n hx hb d_Nm_canTell_0 rfl (lv_at hl 0 rfl) ?_
  refine va_get (D := D) (ci := 3) (v := .int z_this.2.2.2.2) (C := R_Nm) (T := F_Nm) (N := 5) hx hb hts in_Nm hown hK hP 0 rfl rfl 4 (by decide) (hts (.fieldLink R_Nm 26 R_Nm "count" "I") kw1_164) (fun _ h9 => h9) rfl d_Nm_canTell_1 ?_
  refine lv_bipush (v := (100 : Int32)) hx hb d_Nm_canTell_4 (by decide) ?_
  refine lv_icmp_ge (tgt := 22) hx hb d_Nm_canTell_6 (by decide) (fun hc => ?_) (fun hc => ?_)
  · have hw := hw.1 hc
    refine lv_iconst (v := (0 : Int32)) hx hb d_Nm_canTell_22 (by decide) ?_
    exact xq_zret (r := (0 : Int32)) (u := ()) hx hb hr hlocks hAe hP hD hS rfl rfl hw (Nat.le_of_ble_eq_true rfl) (Nat.le_of_ble_eq_true rfl) d_Nm_canTell_23
  · have hw := hw.2 hc
    refine lv_aload_n hx hb d_Nm_canTell_9 rfl (lv_at hl 0 rfl) ?_
    refine lv_lload_n hx hb d_Nm_canTell_10 rfl (lv_at hl 1 rfl) ?_
    refine xq_go (wr := ([] : va_W)) (stk := fun r => .int r :: []) (xq_runV (As := [.long a1]) (rest := []) ⟨hx, hb, hml, hown, hts⟩ (c_Nm_find (l := l) (o := o) (D := D) (k := k) (ad_this := ad_this) hw) (cw_Nm_find hts kw2_235 ⟨Nat.le_of_ble_eq_true rfl, Nat.le_of_ble_eq_true rfl⟩) (va_recv hK hP (ci := 3) (q0 := 0) rfl rfl) (hP.sub [0, 1, 2, 3, 4] rfl) hK hJ hS (va_free hD hS hA [0, 1, 2, 3, 4] rfl) ((hD.sub [0, 1, 2, 3, 4] (by decide) rfl).weaken (fun _ _ _ _ => trivial)) rfl hl.1 (Nat.le_of_ble_eq_true rfl) d_Nm_canTell_11 ⟨Nat.le_of_ble_eq_true rfl, Nat.le_of_ble_eq_true rfl⟩) hP hD hS hA [0, 1, 2, 3, 4] [] rfl rfl (by decide) (by decide) (fun _ => rfl) (fun r1 u1 H locs hw hP hD hS => ?_) (fun _ _ _ _ h9 => h9.elim)
    have hP : va_P D vwCl (w_Nm k ad_this z_this) H := hP.sub [0, 1, 2, 3, 4] rfl
    have hD : va_D A (w_Nm k ad_this z_this) := hD.sub [0, 1, 2, 3, 4] (by decide) rfl
    refine lv_iconst (v := (-1 : Int32)) hx hb d_Nm_canTell_14 (by decide) ?_
    refine lv_icmp_ne (tgt := 22) hx hb d_Nm_canTell_15 (by decide) (fun hc => ?_) (fun hc => ?_)
    · have hw := hw.2 hc
      refine lv_iconst (v := (0 : Int32)) hx hb d_Nm_canTell_22 (by decide) ?_
      exact xq_zret (r := (0 : Int32)) (u := ()) hx hb hr hlocks hAe hP hD hS rfl rfl hw (Nat.le_of_ble_eq_true rfl) (Nat.le_of_ble_eq_true rfl) d_Nm_canTell_23
    · have hw := hw.1 hc
      refine lv_iconst (v := (1 : Int32)) hx hb d_Nm_canTell_18 (by decide) ?_
      refine lv_goto (tgt := 23) hx hb d_Nm_canTell_19 (by decide) ?_
      exact xq_zret (r := (1 : Int32)) (u := ()) hx hb hr hlocks hAe hP hD hS rfl rfl hw (Nat.le_of_ble_eq_true rfl) (Nat.le_of_ble_eq_true rfl) d_Nm_canTell_23
theorem cw_Nm_canTell {R : Room} {s : State} {args : Array Value} {own : String} {index : Nat} (hts : ∀ w ∈ xq_W, w.before args s = true) (hl : .methodLink own index y_Nm_canTell ∈ xq_W) {rm : Room} (hR : rm.frames + 1 ≤ R.frames ∧ 8 + (3 + 11) + rm.locals ≤ R.locals) : CallW R s args own "StepText$Names" index y_Nm_canTell prog_4_method_6_code 3 (some (.boolean)) (.code y_Nm_canTell prog_4_method_6_code 3 (some (.boolean)) :: xq_W) rm rm.cells rm.slots 1 := ⟨xq_cb 1 hts kw2_234 kw1_9 hl ⟨by decide, by decide, by decide +kernel⟩ hR, hts _ kw2_232, hts _ kw2_233⟩
def y_Nm_tell : MethodName := ⟨"StepText$Names", "tell", "(JII)V"⟩
theorem d_Nm_tell_0 : decode prog_4_method_7_code 0 = .ok (.aload_n 0, 1) := by decide +kernel
theorem d_Nm_tell_1 : decode prog_4_method_7_code 1 = .ok (.getfield 26, 3) := by decide +kernel
theorem d_Nm_tell_4 : decode prog_4_method_7_code 4 = .ok (.bipush 100, 2) := by decide +kernel
theorem d_Nm_tell_6 : decode prog_4_method_7_code 6 = .ok (.if_icmp .ge 54, 3) := by decide +kernel
theorem d_Nm_tell_9 : decode prog_4_method_7_code 9 = .ok (.aload_n 0, 1) := by decide +kernel
theorem d_Nm_tell_10 : decode prog_4_method_7_code 10 = .ok (.getfield 9, 3) := by decide +kernel
theorem d_Nm_tell_13 : decode prog_4_method_7_code 13 = .ok (.aload_n 0, 1) := by decide +kernel
theorem d_Nm_tell_14 : decode prog_4_method_7_code 14 = .ok (.getfield 26, 3) := by decide +kernel
theorem d_Nm_tell_17 : decode prog_4_method_7_code 17 = .ok (.lload_n 1, 1) := by decide +kernel
theorem d_Nm_tell_18 : decode prog_4_method_7_code 18 = .ok (.lastore, 1) := by decide +kernel
theorem d_Nm_tell_19 : decode prog_4_method_7_code 19 = .ok (.aload_n 0, 1) := by decide +kernel
theorem d_Nm_tell_20 : decode prog_4_method_7_code 20 = .ok (.getfield 15, 3) := by decide +kernel
theorem d_Nm_tell_23 : decode prog_4_method_7_code 23 = .ok (.aload_n 0, 1) := by decide +kernel
theorem d_Nm_tell_24 : decode prog_4_method_7_code 24 = .ok (.getfield 26, 3) := by decide +kernel
theorem d_Nm_tell_27 : decode prog_4_method_7_code 27 = .ok (.iload_n 3, 1) := by decide +kernel
theorem d_Nm_tell_28 : decode prog_4_method_7_code 28 = .ok (.iastore, 1) := by decide +kernel
theorem d_Nm_tell_29 : decode prog_4_method_7_code 29 = .ok (.aload_n 0, 1) := by decide +kernel
theorem d_Nm_tell_30 : decode prog_4_method_7_code 30 = .ok (.getfield 19, 3) := by decide +kernel
theorem d_Nm_tell_33 : decode prog_4_method_7_code 33 = .ok (.aload_n 0, 1) := by decide +kernel
theorem d_Nm_tell_34 : decode prog_4_method_7_code 34 = .ok (.getfield 26, 3) := by decide +kernel
theorem d_Nm_tell_37 : decode prog_4_method_7_code 37 = .ok (.iload 4, 2) := by decide +kernel
theorem d_Nm_tell_39 : decode prog_4_method_7_code 39 = .ok (.iastore, 1) := by decide +kernel
theorem d_Nm_tell_40 : decode prog_4_method_7_code 40 = .ok (.aload_n 0, 1) := by decide +kernel
theorem d_Nm_tell_41 : decode prog_4_method_7_code 41 = .ok (.getfield 22, 3) := by decide +kernel
theorem d_Nm_tell_44 : decode prog_4_method_7_code 44 = .ok (.aload_n 0, 1) := by decide +kernel
theorem d_Nm_tell_45 : decode prog_4_method_7_code 45 = .ok (.getfield 26, 3) := by decide +kernel
theorem d_Nm_tell_48 : decode prog_4_method_7_code 48 = .ok (.iconst 0, 1) := by decide +kernel
theorem d_Nm_tell_49 : decode prog_4_method_7_code 49 = .ok (.bastore, 1) := by decide +kernel
theorem d_Nm_tell_50 : decode prog_4_method_7_code 50 = .ok (.aload_n 0, 1) := by decide +kernel
theorem d_Nm_tell_51 : decode prog_4_method_7_code 51 = .ok (.dup, 1) := by decide +kernel
theorem d_Nm_tell_52 : decode prog_4_method_7_code 52 = .ok (.getfield 26, 3) := by decide +kernel
theorem d_Nm_tell_55 : decode prog_4_method_7_code 55 = .ok (.iconst 1, 1) := by decide +kernel
theorem d_Nm_tell_56 : decode prog_4_method_7_code 56 = .ok (.iadd, 1) := by decide +kernel
theorem d_Nm_tell_57 : decode prog_4_method_7_code 57 = .ok (.putfield 26, 3) := by decide +kernel
theorem d_Nm_tell_60 : decode prog_4_method_7_code 60 = .ok (.return_, 1) := by decide +kernel
def wp_Nm_tell (z_this : T_Nm) (a1 : Int64) (a3 : Int32) (a4 : Int32) (post : Unit → T_Nm → Prop) : Prop := ((100 : Int32) ≤ z_this.2.2.2.2 → (post () z_this)) ∧ (¬ (100 : Int32) ≤ z_this.2.2.2.2 → (vp_in z_this.2.2.2.2 100 ∧ (vp_in z_this.2.2.2.2 100 ∧ (vp_in z_this.2.2.2.2 100 ∧ (vp_in z_this.2.2.2.2 100 ∧ (post () ((vp_updL z_this.1 (z_this.2.2.2.2).toNatClampNeg a1), (upd z_this.2.1 (z_this.2.2.2.2).toNatClampNeg a3), (upd z_this.2.2.1 (z_this.2.2.2.2).toNatClampNeg a4), (upd z_this.2.2.2.1 (z_this.2.2.2.2).toNatClampNeg (vp_nar .boolean (0 : Int32))), (z_this.2.2.2.2 + (1 : Int32)))))))))
def rm_Nm_tell : Room := { frames := 0, cells := 0, slots := 0, locals := 0 }
set_option maxHeartbeats 4000000 in
set_option maxRecDepth 100000 in
theorem c_Nm_tell {l : Launch} {o : State × Array Value} {D : va_G} {k : Nat → ClassId} {ad_this : Nat → Nat} {z_this : T_Nm} {a1 : Int64} {a3 : Int32} {a4 : Int32} {post : Unit → T_Nm → Prop} (hw : wp_Nm_tell z_this a1 a3 a4 post) : xq_C l o y_Nm_tell (.code y_Nm_tell prog_4_method_7_code 5 none :: xq_W) rm_Nm_tell D vwCl (xt k) [.ref (ad_this 0), .long a1, .int a3, .int a4] (w_Nm k ad_this z_this) (fun _ : Unit => none) post (fun _ : T_Nm => False) (fun u : T_Nm => w_Nm k ad_this u) 0 0 0 0 := by
  refine xq_ofW (cc := prog_4_method_7_code) (maxL := 5) (ret := none) (by decide) rfl (Nat.le_of_ble_eq_true rfl) ?_
  intro p e s m below meth c ls H locs A hAt hAe hA hl hK hJ hP0 hP hD hS
  obtain ⟨hx, hb, hml, hr, hlocks, hown, hts, hex, hnm⟩ := id hAt
  have hl : lv_has ls 5 [(0, .ref (ad_this 0)), (1, .long a1), (3, .int a3), (4, .int a4)] := hl
  unfold wp_Nm_tell at hw
  refine lv_aload_n hx hb d_Nm_tell_0 rfl (lv_at hl 0 rfl) ?_
  refine va_get (D := D) (ci := 3) (v := .int z_this.2.2.2.2) (C := R_Nm) (T := F_Nm) (N := 5) hx hb hts in_Nm hown hK hP 0 rfl rfl 4 (by decide) (hts (.fieldLink R_Nm 26 R_Nm "count" "I") kw1_164) (fun _ h9 => h9) rfl d_Nm_tell_1 ?_
  refine lv_bipush (v := (100 : Int32)) hx hb d_Nm_tell_4 (by decide) ?_
  refine lv_icmp_ge (tgt := 60) hx hb d_Nm_tell_6 (by decide) (fun hc => ?_) (fun hc => ?_)
  · have hw := hw.1 hc
    exact xq_vret (r := ()) (u := z_this) hx hb hr hlocks hAe hP hD hS rfl hw (Nat.le_of_ble_eq_true rfl) (Nat.le_of_ble_eq_true rfl) d_Nm_tell_60
  · have hw := hw.2 hc
    refine lv_aload_n hx hb d_Nm_tell_9 rfl (lv_at hl 0 rfl) ?_
    refine va_get (D := D) (ci := 3) (v := .ref (ad_this 1)) (C := R_Nm) (T := F_Nm) (N := 5) hx hb hts in_Nm hown hK hP 0 rfl rfl 0 (by decide) (hts (.fieldLink R_Nm 9 R_Nm "letters" "[J") kw1_160) (fun _ h9 => h9) rfl d_Nm_tell_10 ?_
    refine lv_aload_n hx hb d_Nm_tell_13 rfl (lv_at hl 0 rfl) ?_
    refine va_get (D := D) (ci := 3) (v := .int z_this.2.2.2.2) (C := R_Nm) (T := F_Nm) (N := 5) hx hb hts in_Nm hown hK hP 0 rfl rfl 4 (by decide) (hts (.fieldLink R_Nm 26 R_Nm "count" "I") kw1_164) (fun _ h9 => h9) rfl d_Nm_tell_14 ?_
    refine lv_lload_n hx hb d_Nm_tell_17 rfl (lv_at hl 1 rfl) ?_
    refine va_last hx hb hK hP hD hS 1 1 rfl rfl hw.1 d_Nm_tell_18 (fun H locs hP hD hS => ?_)
    have hw := hw.2
    have hP : va_P D vwCl (w_Nm k ad_this ((vp_updL z_this.1 (z_this.2.2.2.2).toNatClampNeg a1), z_this.2.1, z_this.2.2.1, z_this.2.2.2.1, z_this.2.2.2.2)) H := hP
    have hD : va_D A (w_Nm k ad_this ((vp_updL z_this.1 (z_this.2.2.2.2).toNatClampNeg a1), z_this.2.1, z_this.2.2.1, z_this.2.2.2.1, z_this.2.2.2.2)) := hD
    refine lv_aload_n hx hb d_Nm_tell_19 rfl (lv_at hl 0 rfl) ?_
    refine va_get (D := D) (ci := 3) (v := .ref (ad_this 2)) (C := R_Nm) (T := F_Nm) (N := 5) hx hb hts in_Nm hown hK hP 0 rfl rfl 1 (by decide) (hts (.fieldLink R_Nm 15 R_Nm "sorts" "[I") kw1_161) (fun _ h9 => h9) rfl d_Nm_tell_20 ?_
    refine lv_aload_n hx hb d_Nm_tell_23 rfl (lv_at hl 0 rfl) ?_
    refine va_get (D := D) (ci := 3) (v := .int z_this.2.2.2.2) (C := R_Nm) (T := F_Nm) (N := 5) hx hb hts in_Nm hown hK hP 0 rfl rfl 4 (by decide) (hts (.fieldLink R_Nm 26 R_Nm "count" "I") kw1_164) (fun _ h9 => h9) rfl d_Nm_tell_24 ?_
    refine lv_iload_n hx hb d_Nm_tell_27 rfl (lv_at hl 2 rfl) ?_
    refine va_iast hx hb hK hP hD hS 2 0 rfl rfl hw.1 d_Nm_tell_28 (fun H locs hP hD hS => ?_)
    have hw := hw.2
    have hP : va_P D vwCl (w_Nm k ad_this ((vp_updL z_this.1 (z_this.2.2.2.2).toNatClampNeg a1), (upd z_this.2.1 (z_this.2.2.2.2).toNatClampNeg a3), z_this.2.2.1, z_this.2.2.2.1, z_this.2.2.2.2)) H := hP
    have hD : va_D A (w_Nm k ad_this ((vp_updL z_this.1 (z_this.2.2.2.2).toNatClampNeg a1), (upd z_this.2.1 (z_this.2.2.2.2).toNatClampNeg a3), z_this.2.2.1, z_this.2.2.2.1, z_this.2.2.2.2)) := hD
    refine lv_aload_n hx hb d_Nm_tell_29 rfl (lv_at hl 0 rfl) ?_
    refine va_get (D := D) (ci := 3) (v := .ref (ad_this 3)) (C := R_Nm) (T := F_Nm) (N := 5) hx hb hts in_Nm hown hK hP 0 rfl rfl 2 (by decide) (hts (.fieldLink R_Nm 19 R_Nm "measures" "[I") kw1_162) (fun _ h9 => h9) rfl d_Nm_tell_30 ?_
    refine lv_aload_n hx hb d_Nm_tell_33 rfl (lv_at hl 0 rfl) ?_
    refine va_get (D := D) (ci := 3) (v := .int z_this.2.2.2.2) (C := R_Nm) (T := F_Nm) (N := 5) hx hb hts in_Nm hown hK hP 0 rfl rfl 4 (by decide) (hts (.fieldLink R_Nm 26 R_Nm "count" "I") kw1_164) (fun _ h9 => h9) rfl d_Nm_tell_34 ?_
    refine lv_iload hx hb d_Nm_tell_37 (lv_at hl 3 rfl) ?_
    refine va_iast hx hb hK hP hD hS 3 0 rfl rfl hw.1 d_Nm_tell_39 (fun H locs hP hD hS => ?_)
    have hw := hw.2
    have hP : va_P D vwCl (w_Nm k ad_this ((vp_updL z_this.1 (z_this.2.2.2.2).toNatClampNeg a1), (upd z_this.2.1 (z_this.2.2.2.2).toNatClampNeg a3), (upd z_this.2.2.1 (z_this.2.2.2.2).toNatClampNeg a4), z_this.2.2.2.1, z_this.2.2.2.2)) H := hP
    have hD : va_D A (w_Nm k ad_this ((vp_updL z_this.1 (z_this.2.2.2.2).toNatClampNeg a1), (upd z_this.2.1 (z_this.2.2.2.2).toNatClampNeg a3), (upd z_this.2.2.1 (z_this.2.2.2.2).toNatClampNeg a4), z_this.2.2.2.1, z_this.2.2.2.2)) := hD
    refine lv_aload_n hx hb d_Nm_tell_40 rfl (lv_at hl 0 rfl) ?_
    refine va_get (D := D) (ci := 3) (v := .ref (ad_this 4)) (C := R_Nm) (T := F_Nm) (N := 5) hx hb hts in_Nm hown hK hP 0 rfl rfl 3 (by decide) (hts (.fieldLink R_Nm 22 R_Nm "used" "[Z") kw1_163) (fun _ h9 => h9) rfl d_Nm_tell_41 ?_
    refine lv_aload_n hx hb d_Nm_tell_44 rfl (lv_at hl 0 rfl) ?_
    refine va_get (D := D) (ci := 3) (v := .int z_this.2.2.2.2) (C := R_Nm) (T := F_Nm) (N := 5) hx hb hts in_Nm hown hK hP 0 rfl rfl 4 (by decide) (hts (.fieldLink R_Nm 26 R_Nm "count" "I") kw1_164) (fun _ h9 => h9) rfl d_Nm_tell_45 ?_
    refine lv_iconst (v := (0 : Int32)) hx hb d_Nm_tell_48 (by decide) ?_
    refine va_zast hx hb hK hP hD hS 4 3 rfl rfl hw.1 d_Nm_tell_49 (fun H locs hP hD hS => ?_)
    have hw := hw.2
    have hP : va_P D vwCl (w_Nm k ad_this ((vp_updL z_this.1 (z_this.2.2.2.2).toNatClampNeg a1), (upd z_this.2.1 (z_this.2.2.2.2).toNatClampNeg a3), (upd z_this.2.2.1 (z_this.2.2.2.2).toNatClampNeg a4), (upd z_this.2.2.2.1 (z_this.2.2.2.2).toNatClampNeg (vp_nar .boolean (0 : Int32))), z_this.2.2.2.2)) H := hP
    have hD : va_D A (w_Nm k ad_this ((vp_updL z_this.1 (z_this.2.2.2.2).toNatClampNeg a1), (upd z_this.2.1 (z_this.2.2.2.2).toNatClampNeg a3), (upd z_this.2.2.1 (z_this.2.2.2.2).toNatClampNeg a4), (upd z_this.2.2.2.1 (z_this.2.2.2.2).toNatClampNeg (vp_nar .boolean (0 : Int32))), z_this.2.2.2.2)) := hD
    refine lv_aload_n hx hb d_Nm_tell_50 rfl (lv_at hl 0 rfl) ?_
    refine lv_dup hx hb d_Nm_tell_51 rfl ?_
    refine va_get (D := D) (ci := 3) (v := .int z_this.2.2.2.2) (C := R_Nm) (T := F_Nm) (N := 5) hx hb hts in_Nm hown hK hP 0 rfl rfl 4 (by decide) (hts (.fieldLink R_Nm 26 R_Nm "count" "I") kw1_164) (fun _ h9 => h9) rfl d_Nm_tell_52 ?_
    refine lv_iconst (v := (1 : Int32)) hx hb d_Nm_tell_55 (by decide) ?_
    refine lv_iadd hx hb d_Nm_tell_56 ?_
    refine va_put (D := D) (ci := 3) (v := .int (z_this.2.2.2.2 + (1 : Int32))) (ty := .int) (C := R_Nm) (T := F_Nm) (N := 5) hx hb hts in_Nm t_Nm t_Nm_ok n_Nm hown hK hP hD hS 0 rfl rfl 4 (by decide) (hts (.fieldLink R_Nm 26 R_Nm "count" "I") kw1_164) (fun _ h9 => h9) rfl (by decide +kernel) rfl rfl (Nat.le_of_ble_eq_true rfl) d_Nm_tell_57 (fun H locs hP hD hS => ?_)
    have hP : va_P D vwCl (w_Nm k ad_this ((vp_updL z_this.1 (z_this.2.2.2.2).toNatClampNeg a1), (upd z_this.2.1 (z_this.2.2.2.2).toNatClampNeg a3), (upd z_this.2.2.1 (z_this.2.2.2.2).toNatClampNeg a4), (upd z_this.2.2.2.1 (z_this.2.2.2.2).toNatClampNeg (vp_nar .boolean (0 : Int32))), (z_this.2.2.2.2 + (1 : Int32)))) H := hP
    have hD : va_D A (w_Nm k ad_this ((vp_updL z_this.1 (z_this.2.2.2.2).toNatClampNeg a1), (upd z_this.2.1 (z_this.2.2.2.2).toNatClampNeg a3), (upd z_this.2.2.1 (z_this.2.2.2.2).toNatClampNeg a4), (upd z_this.2.2.2.1 (z_this.2.2.2.2).toNatClampNeg (vp_nar .boolean (0 : Int32))), (z_this.2.2.2.2 + (1 : Int32)))) := hD
    exact xq_vret (r := ()) (u := ((vp_updL z_this.1 (z_this.2.2.2.2).toNatClampNeg a1), (upd z_this.2.1 (z_this.2.2.2.2).toNatClampNeg a3), (upd z_this.2.2.1 (z_this.2.2.2.2).toNatClampNeg a4), (upd z_this.2.2.2.1 (z_this.2.2.2.2).toNatClampNeg (vp_nar .boolean (0 : Int32))), (z_this.2.2.2.2 + (1 : Int32)))) hx hb hr hlocks hAe hP hD hS rfl hw (Nat.le_of_ble_eq_true rfl) (Nat.le_of_ble_eq_true rfl) d_Nm_tell_60
theorem cw_Nm_tell {R : Room} {s : State} {args : Array Value} {own : String} {index : Nat} (hts : ∀ w ∈ xq_W, w.before args s = true) (hl : .methodLink own index y_Nm_tell ∈ xq_W) {rm : Room} (hR : rm.frames + 1 ≤ R.frames ∧ 8 + (5 + 11) + rm.locals ≤ R.locals) : CallW R s args own "StepText$Names" index y_Nm_tell prog_4_method_7_code 5 none (.code y_Nm_tell prog_4_method_7_code 5 none :: xq_W) rm rm.cells rm.slots 3 := ⟨xq_cb 3 hts kw3_141 kw1_9 hl ⟨by decide, by decide, by decide +kernel⟩ hR, hts _ kw3_139, hts _ kw3_140⟩
def y_Nm_use : MethodName := ⟨"StepText$Names", "use", "(I)V"⟩
theorem d_Nm_use_0 : decode prog_4_method_8_code 0 = .ok (.aload_n 0, 1) := by decide +kernel
theorem d_Nm_use_1 : decode prog_4_method_8_code 1 = .ok (.iload_n 1, 1) := by decide +kernel
theorem d_Nm_use_2 : decode prog_4_method_8_code 2 = .ok (.invokevirtual 34, 3) := by decide +kernel
theorem d_Nm_use_5 : decode prog_4_method_8_code 5 = .ok (.ifCond .eq 10, 3) := by decide +kernel
theorem d_Nm_use_8 : decode prog_4_method_8_code 8 = .ok (.aload_n 0, 1) := by decide +kernel
theorem d_Nm_use_9 : decode prog_4_method_8_code 9 = .ok (.getfield 22, 3) := by decide +kernel
theorem d_Nm_use_12 : decode prog_4_method_8_code 12 = .ok (.iload_n 1, 1) := by decide +kernel
theorem d_Nm_use_13 : decode prog_4_method_8_code 13 = .ok (.iconst 1, 1) := by decide +kernel
theorem d_Nm_use_14 : decode prog_4_method_8_code 14 = .ok (.bastore, 1) := by decide +kernel
theorem d_Nm_use_15 : decode prog_4_method_8_code 15 = .ok (.return_, 1) := by decide +kernel
def wp_Nm_use (z_this : T_Nm) (a1 : Int32) (post : Unit → T_Nm → Prop) : Prop := wp_Nm_has z_this a1 (fun (r1 : Int32) (u1 : Unit) => (r1 = 0 → (post () z_this)) ∧ (¬ r1 = 0 → (vp_in a1 100 ∧ (post () (z_this.1, z_this.2.1, z_this.2.2.1, (upd z_this.2.2.2.1 (a1).toNatClampNeg (vp_nar .boolean (1 : Int32))), z_this.2.2.2.2)))))
def rm_Nm_use : Room := { frames := 1, cells := 0, slots := 0, locals := 21 }
set_option maxHeartbeats 4000000 in
set_option maxRecDepth 100000 in
theorem c_Nm_use {l : Launch} {o : State × Array Value} {D : va_G} {k : Nat → ClassId} {ad_this : Nat → Nat} {z_this : T_Nm} {a1 : Int32} {post : Unit → T_Nm → Prop} (hw : wp_Nm_use z_this a1 post) : xq_C l o y_Nm_use (.code y_Nm_use prog_4_method_8_code 2 none :: xq_W) rm_Nm_use D vwCl (xt k) [.ref (ad_this 0), .int a1] (w_Nm k ad_this z_this) (fun _ : Unit => none) post (fun _ : T_Nm => False) (fun u : T_Nm => w_Nm k ad_this u) 0 0 0 0 := by
  refine xq_ofW (cc := prog_4_method_8_code) (maxL := 2) (ret := none) (by decide) rfl (Nat.le_of_ble_eq_true rfl) ?_
  intro p e s m below meth c ls H locs A hAt hAe hA hl hK hJ hP0 hP hD hS
  obtain ⟨hx, hb, hml, hr, hlocks, hown, hts, hex, hnm⟩ := id hAt
  have hl : lv_has ls 2 [(0, .ref (ad_this 0)), (1, .int a1)] := hl
  unfold wp_Nm_use at hw
  refine lv_aload_n hx hb d_Nm_use_0 rfl (lv_at hl 0 rfl) ?_
  refine lv_iload_n hx hb d_Nm_use_1 rfl (lv_at hl 1 rfl) ?_
  refine xq_go (wr := ([] : va_W)) (stk := fun r => .int r :: []) (xq_runV (As := [.int a1]) (rest := []) ⟨hx, hb, hml, hown, hts⟩ (c_Nm_has (l := l) (o := o) (D := D) (k := k) (ad_this := ad_this) hw) (cw_Nm_has hts kw3_28 ⟨Nat.le_of_ble_eq_true rfl, Nat.le_of_ble_eq_true rfl⟩) (va_recv hK hP (ci := 3) (q0 := 0) rfl rfl) (hP.sub [0, 1, 2, 3, 4] rfl) hK hJ hS (va_free hD hS hA [0, 1, 2, 3, 4] rfl) ((hD.sub [0, 1, 2, 3, 4] (by decide) rfl).weaken (fun _ _ _ _ => trivial)) rfl hl.1 (Nat.le_of_ble_eq_true rfl) d_Nm_use_2 ⟨Nat.le_of_ble_eq_true rfl, Nat.le_of_ble_eq_true rfl⟩) hP hD hS hA [0, 1, 2, 3, 4] [] rfl rfl (by decide) (by decide) (fun _ => rfl) (fun r1 u1 H locs hw hP hD hS => ?_) (fun _ _ _ _ h9 => h9.elim)
  have hP : va_P D vwCl (w_Nm k ad_this z_this) H := hP.sub [0, 1, 2, 3, 4] rfl
  have hD : va_D A (w_Nm k ad_this z_this) := hD.sub [0, 1, 2, 3, 4] (by decide) rfl
  refine lv_if_eq (tgt := 15) hx hb d_Nm_use_5 (by decide) (fun hc => ?_) (fun hc => ?_)
  · have hw := hw.1 hc
    exact xq_vret (r := ()) (u := z_this) hx hb hr hlocks hAe hP hD hS rfl hw (Nat.le_of_ble_eq_true rfl) (Nat.le_of_ble_eq_true rfl) d_Nm_use_15
  · have hw := hw.2 hc
    refine lv_aload_n hx hb d_Nm_use_8 rfl (lv_at hl 0 rfl) ?_
    refine va_get (D := D) (ci := 3) (v := .ref (ad_this 4)) (C := R_Nm) (T := F_Nm) (N := 5) hx hb hts in_Nm hown hK hP 0 rfl rfl 3 (by decide) (hts (.fieldLink R_Nm 22 R_Nm "used" "[Z") kw1_163) (fun _ h9 => h9) rfl d_Nm_use_9 ?_
    refine lv_iload_n hx hb d_Nm_use_12 rfl (lv_at hl 1 rfl) ?_
    refine lv_iconst (v := (1 : Int32)) hx hb d_Nm_use_13 (by decide) ?_
    refine va_zast hx hb hK hP hD hS 4 3 rfl rfl hw.1 d_Nm_use_14 (fun H locs hP hD hS => ?_)
    have hw := hw.2
    have hP : va_P D vwCl (w_Nm k ad_this (z_this.1, z_this.2.1, z_this.2.2.1, (upd z_this.2.2.2.1 (a1).toNatClampNeg (vp_nar .boolean (1 : Int32))), z_this.2.2.2.2)) H := hP
    have hD : va_D A (w_Nm k ad_this (z_this.1, z_this.2.1, z_this.2.2.1, (upd z_this.2.2.2.1 (a1).toNatClampNeg (vp_nar .boolean (1 : Int32))), z_this.2.2.2.2)) := hD
    exact xq_vret (r := ()) (u := (z_this.1, z_this.2.1, z_this.2.2.1, (upd z_this.2.2.2.1 (a1).toNatClampNeg (vp_nar .boolean (1 : Int32))), z_this.2.2.2.2)) hx hb hr hlocks hAe hP hD hS rfl hw (Nat.le_of_ble_eq_true rfl) (Nat.le_of_ble_eq_true rfl) d_Nm_use_15
theorem cw_Nm_use {R : Room} {s : State} {args : Array Value} {own : String} {index : Nat} (hts : ∀ w ∈ xq_W, w.before args s = true) (hl : .methodLink own index y_Nm_use ∈ xq_W) {rm : Room} (hR : rm.frames + 1 ≤ R.frames ∧ 8 + (2 + 11) + rm.locals ≤ R.locals) : CallW R s args own "StepText$Names" index y_Nm_use prog_4_method_8_code 2 none (.code y_Nm_use prog_4_method_8_code 2 none :: xq_W) rm rm.cells rm.slots 1 := ⟨xq_cb 1 hts kw3_35 kw1_9 hl ⟨by decide, by decide, by decide +kernel⟩ hR, hts _ kw3_33, hts _ kw3_34⟩
def y_Nm_isUsed : MethodName := ⟨"StepText$Names", "isUsed", "(I)Z"⟩
theorem d_Nm_isUsed_0 : decode prog_4_method_9_code 0 = .ok (.aload_n 0, 1) := by decide +kernel
theorem d_Nm_isUsed_1 : decode prog_4_method_9_code 1 = .ok (.iload_n 1, 1) := by decide +kernel
theorem d_Nm_isUsed_2 : decode prog_4_method_9_code 2 = .ok (.invokevirtual 34, 3) := by decide +kernel
theorem d_Nm_isUsed_5 : decode prog_4_method_9_code 5 = .ok (.ifCond .eq 16, 3) := by decide +kernel
theorem d_Nm_isUsed_8 : decode prog_4_method_9_code 8 = .ok (.aload_n 0, 1) := by decide +kernel
theorem d_Nm_isUsed_9 : decode prog_4_method_9_code 9 = .ok (.getfield 22, 3) := by decide +kernel
theorem d_Nm_isUsed_12 : decode prog_4_method_9_code 12 = .ok (.iload_n 1, 1) := by decide +kernel
theorem d_Nm_isUsed_13 : decode prog_4_method_9_code 13 = .ok (.baload, 1) := by decide +kernel
theorem d_Nm_isUsed_14 : decode prog_4_method_9_code 14 = .ok (.ifCond .eq 7, 3) := by decide +kernel
theorem d_Nm_isUsed_17 : decode prog_4_method_9_code 17 = .ok (.iconst 1, 1) := by decide +kernel
theorem d_Nm_isUsed_18 : decode prog_4_method_9_code 18 = .ok (.goto 4, 3) := by decide +kernel
theorem d_Nm_isUsed_21 : decode prog_4_method_9_code 21 = .ok (.iconst 0, 1) := by decide +kernel
theorem d_Nm_isUsed_22 : decode prog_4_method_9_code 22 = .ok (.ireturn, 1) := by decide +kernel
def wp_Nm_isUsed (z_this : T_Nm) (a1 : Int32) (post : Int32 → Unit → Prop) : Prop := wp_Nm_has z_this a1 (fun (r1 : Int32) (u1 : Unit) => (r1 = 0 → (post (0 : Int32) ())) ∧ (¬ r1 = 0 → (vp_in a1 100 ∧ (((z_this.2.2.2.1 (a1).toNatClampNeg) = 0 → (post (0 : Int32) ())) ∧ (¬ (z_this.2.2.2.1 (a1).toNatClampNeg) = 0 → (post (1 : Int32) ()))))))
def rm_Nm_isUsed : Room := { frames := 1, cells := 0, slots := 0, locals := 21 }
set_option maxHeartbeats 4000000 in
set_option maxRecDepth 100000 in
theorem c_Nm_isUsed {l : Launch} {o : State × Array Value} {D : va_G} {k : Nat → ClassId} {ad_this : Nat → Nat} {z_this : T_Nm} {a1 : Int32} {post : Int32 → Unit → Prop} (hw : wp_Nm_isUsed z_this a1 post) : xq_C l o y_Nm_isUsed (.code y_Nm_isUsed prog_4_method_9_code 2 (some (.boolean)) :: xq_W) rm_Nm_isUsed D vwCl (xt k) [.ref (ad_this 0), .int a1] (w_Nm k ad_this z_this) (fun r : Int32 => some (.int r)) post (fun _ : Unit => False) (fun u : Unit => w_Nm k ad_this z_this) 0 0 0 0 := by
  refine xq_ofW (cc := prog_4_method_9_code) (maxL := 2) (ret := (some (.boolean))) (by decide) rfl (Nat.le_of_ble_eq_true rfl) ?_
  intro p e s m below meth c ls H locs A hAt hAe hA hl hK hJ hP0 hP hD hS
  obtain ⟨hx, hb, hml, hr, hlocks, hown, hts, hex, hnm⟩ := id hAt
  have hl : lv_has ls 2 [(0, .ref (ad_this 0)), (1, .int a1)] := hl
  unfold wp_Nm_isUsed at hw
  refine lv_aload_n hx hb d_Nm_isUsed_0 rfl (lv_at hl 0 rfl) ?_
  refine lv_iload_n hx hb d_Nm_isUsed_1 rfl (lv_at hl 1 rfl) ?_
  refine xq_go (wr := ([] : va_W)) (stk := fun r => .int r :: []) (xq_runV (As := [.int a1]) (rest := []) ⟨hx, hb, hml, hown, hts⟩ (c_Nm_has (l := l) (o := o) (D := D) (k := k) (ad_this := ad_this) hw) (cw_Nm_has hts kw3_28 ⟨Nat.le_of_ble_eq_true rfl, Nat.le_of_ble_eq_true rfl⟩) (va_recv hK hP (ci := 3) (q0 := 0) rfl rfl) (hP.sub [0, 1, 2, 3, 4] rfl) hK hJ hS (va_free hD hS hA [0, 1, 2, 3, 4] rfl) ((hD.sub [0, 1, 2, 3, 4] (by decide) rfl).weaken (fun _ _ _ _ => trivial)) rfl hl.1 (Nat.le_of_ble_eq_true rfl) d_Nm_isUsed_2 ⟨Nat.le_of_ble_eq_true rfl, Nat.le_of_ble_eq_true rfl⟩) hP hD hS hA [0, 1, 2, 3, 4] [] rfl rfl (by decide) (by decide) (fun _ => rfl) (fun r1 u1 H locs hw hP hD hS => ?_) (fun _ _ _ _ h9 => h9.elim)
  have hP : va_P D vwCl (w_Nm k ad_this z_this) H := hP.sub [0, 1, 2, 3, 4] rfl
  have hD : va_D A (w_Nm k ad_this z_this) := hD.sub [0, 1, 2, 3, 4] (by decide) rfl
  refine lv_if_eq (tgt := 21) hx hb d_Nm_isUsed_5 (by decide) (fun hc => ?_) (fun hc => ?_)
  · have hw := hw.1 hc
    refine lv_iconst (v := (0 : Int32)) hx hb d_Nm_isUsed_21 (by decide) ?_
    exact xq_zret (r := (0 : Int32)) (u := ()) hx hb hr hlocks hAe hP hD hS rfl rfl hw (Nat.le_of_ble_eq_true rfl) (Nat.le_of_ble_eq_true rfl) d_Nm_isUsed_22
  · have hw := hw.2 hc
    refine lv_aload_n hx hb d_Nm_isUsed_8 rfl (lv_at hl 0 rfl) ?_
    refine va_get (D := D) (ci := 3) (v := .ref (ad_this 4)) (C := R_Nm) (T := F_Nm) (N := 5) hx hb hts in_Nm hown hK hP 0 rfl rfl 3 (by decide) (hts (.fieldLink R_Nm 22 R_Nm "used" "[Z") kw1_163) (fun _ h9 => h9) rfl d_Nm_isUsed_9 ?_
    refine lv_iload_n hx hb d_Nm_isUsed_12 rfl (lv_at hl 1 rfl) ?_
    refine va_zald hx hb hK hP 4 3 rfl rfl hw.1 d_Nm_isUsed_13 ?_
    have hw := hw.2
    refine lv_if_eq (tgt := 21) hx hb d_Nm_isUsed_14 (by decide) (fun hc => ?_) (fun hc => ?_)
    · have hw := hw.1 hc
      refine lv_iconst (v := (0 : Int32)) hx hb d_Nm_isUsed_21 (by decide) ?_
      exact xq_zret (r := (0 : Int32)) (u := ()) hx hb hr hlocks hAe hP hD hS rfl rfl hw (Nat.le_of_ble_eq_true rfl) (Nat.le_of_ble_eq_true rfl) d_Nm_isUsed_22
    · have hw := hw.2 hc
      refine lv_iconst (v := (1 : Int32)) hx hb d_Nm_isUsed_17 (by decide) ?_
      refine lv_goto (tgt := 22) hx hb d_Nm_isUsed_18 (by decide) ?_
      exact xq_zret (r := (1 : Int32)) (u := ()) hx hb hr hlocks hAe hP hD hS rfl rfl hw (Nat.le_of_ble_eq_true rfl) (Nat.le_of_ble_eq_true rfl) d_Nm_isUsed_22
theorem cw_Nm_isUsed {R : Room} {s : State} {args : Array Value} {own : String} {index : Nat} (hts : ∀ w ∈ xq_W, w.before args s = true) (hl : .methodLink own index y_Nm_isUsed ∈ xq_W) {rm : Room} (hR : rm.frames + 1 ≤ R.frames ∧ 8 + (2 + 11) + rm.locals ≤ R.locals) : CallW R s args own "StepText$Names" index y_Nm_isUsed prog_4_method_9_code 2 (some (.boolean)) (.code y_Nm_isUsed prog_4_method_9_code 2 (some (.boolean)) :: xq_W) rm rm.cells rm.slots 1 := ⟨xq_cb 1 hts kw3_171 kw1_9 hl ⟨by decide, by decide, by decide +kernel⟩ hR, hts _ kw3_169, hts _ kw3_170⟩
def y_Nm_isUnused : MethodName := ⟨"StepText$Names", "isUnused", "(II)Z"⟩
theorem d_Nm_isUnused_0 : decode prog_4_method_10_code 0 = .ok (.aload_n 0, 1) := by decide +kernel
theorem d_Nm_isUnused_1 : decode prog_4_method_10_code 1 = .ok (.iload_n 1, 1) := by decide +kernel
theorem d_Nm_isUnused_2 : decode prog_4_method_10_code 2 = .ok (.invokevirtual 34, 3) := by decide +kernel
theorem d_Nm_isUnused_5 : decode prog_4_method_10_code 5 = .ok (.ifCond .eq 26, 3) := by decide +kernel
theorem d_Nm_isUnused_8 : decode prog_4_method_10_code 8 = .ok (.aload_n 0, 1) := by decide +kernel
theorem d_Nm_isUnused_9 : decode prog_4_method_10_code 9 = .ok (.getfield 15, 3) := by decide +kernel
theorem d_Nm_isUnused_12 : decode prog_4_method_10_code 12 = .ok (.iload_n 1, 1) := by decide +kernel
theorem d_Nm_isUnused_13 : decode prog_4_method_10_code 13 = .ok (.iaload, 1) := by decide +kernel
theorem d_Nm_isUnused_14 : decode prog_4_method_10_code 14 = .ok (.iload_n 2, 1) := by decide +kernel
theorem d_Nm_isUnused_15 : decode prog_4_method_10_code 15 = .ok (.if_icmp .ne 16, 3) := by decide +kernel
theorem d_Nm_isUnused_18 : decode prog_4_method_10_code 18 = .ok (.aload_n 0, 1) := by decide +kernel
theorem d_Nm_isUnused_19 : decode prog_4_method_10_code 19 = .ok (.getfield 22, 3) := by decide +kernel
theorem d_Nm_isUnused_22 : decode prog_4_method_10_code 22 = .ok (.iload_n 1, 1) := by decide +kernel
theorem d_Nm_isUnused_23 : decode prog_4_method_10_code 23 = .ok (.baload, 1) := by decide +kernel
theorem d_Nm_isUnused_24 : decode prog_4_method_10_code 24 = .ok (.ifCond .ne 7, 3) := by decide +kernel
theorem d_Nm_isUnused_27 : decode prog_4_method_10_code 27 = .ok (.iconst 1, 1) := by decide +kernel
theorem d_Nm_isUnused_28 : decode prog_4_method_10_code 28 = .ok (.goto 4, 3) := by decide +kernel
theorem d_Nm_isUnused_31 : decode prog_4_method_10_code 31 = .ok (.iconst 0, 1) := by decide +kernel
theorem d_Nm_isUnused_32 : decode prog_4_method_10_code 32 = .ok (.ireturn, 1) := by decide +kernel
def wp_Nm_isUnused (z_this : T_Nm) (a1 : Int32) (a2 : Int32) (post : Int32 → Unit → Prop) : Prop := wp_Nm_has z_this a1 (fun (r1 : Int32) (u1 : Unit) => (r1 = 0 → (post (0 : Int32) ())) ∧ (¬ r1 = 0 → (vp_in a1 100 ∧ (((z_this.2.1 (a1).toNatClampNeg) = a2 → (vp_in a1 100 ∧ (((z_this.2.2.2.1 (a1).toNatClampNeg) = 0 → (post (1 : Int32) ())) ∧ (¬ (z_this.2.2.2.1 (a1).toNatClampNeg) = 0 → (post (0 : Int32) ()))))) ∧ (¬ (z_this.2.1 (a1).toNatClampNeg) = a2 → (post (0 : Int32) ()))))))
def rm_Nm_isUnused : Room := { frames := 1, cells := 0, slots := 0, locals := 21 }
set_option maxHeartbeats 4000000 in
set_option maxRecDepth 100000 in
theorem c_Nm_isUnused {l : Launch} {o : State × Array Value} {D : va_G} {k : Nat → ClassId} {ad_this : Nat → Nat} {z_this : T_Nm} {a1 : Int32} {a2 : Int32} {post : Int32 → Unit → Prop} (hw : wp_Nm_isUnused z_this a1 a2 post) : xq_C l o y_Nm_isUnused (.code y_Nm_isUnused prog_4_method_10_code 3 (some (.boolean)) :: xq_W) rm_Nm_isUnused D vwCl (xt k) [.ref (ad_this 0), .int a1, .int a2] (w_Nm k ad_this z_this) (fun r : Int32 => some (.int r)) post (fun _ : Unit => False) (fun u : Unit => w_Nm k ad_this z_this) 0 0 0 0 := by
  refine xq_ofW (cc := prog_4_method_10_code) (maxL := 3) (ret := (some (.boolean))) (by decide) rfl (Nat.le_of_ble_eq_true rfl) ?_
  intro p e s m below meth c ls H locs A hAt hAe hA hl hK hJ hP0 hP hD hS
  obtain ⟨hx, hb, hml, hr, hlocks, hown, hts, hex, hnm⟩ := id hAt
  have hl : lv_has ls 3 [(0, .ref (ad_this 0)), (1, .int a1), (2, .int a2)] := hl
  unfold wp_Nm_isUnused at hw
  refine lv_aload_n hx hb d_Nm_isUnused_0 rfl (lv_at hl 0 rfl) ?_
  refine lv_iload_n hx hb d_Nm_isUnused_1 rfl (lv_at hl 1 rfl) ?_
  refine xq_go (wr := ([] : va_W)) (stk := fun r => .int r :: []) (xq_runV (As := [.int a1]) (rest := []) ⟨hx, hb, hml, hown, hts⟩ (c_Nm_has (l := l) (o := o) (D := D) (k := k) (ad_this := ad_this) hw) (cw_Nm_has hts kw3_28 ⟨Nat.le_of_ble_eq_true rfl, Nat.le_of_ble_eq_true rfl⟩) (va_recv hK hP (ci := 3) (q0 := 0) rfl rfl) (hP.sub [0, 1, 2, 3, 4] rfl) hK hJ hS (va_free hD hS hA [0, 1, 2, 3, 4] rfl) ((hD.sub [0, 1, 2, 3, 4] (by decide) rfl).weaken (fun _ _ _ _ => trivial)) rfl hl.1 (Nat.le_of_ble_eq_true rfl) d_Nm_isUnused_2 ⟨Nat.le_of_ble_eq_true rfl, Nat.le_of_ble_eq_true rfl⟩) hP hD hS hA [0, 1, 2, 3, 4] [] rfl rfl (by decide) (by decide) (fun _ => rfl) (fun r1 u1 H locs hw hP hD hS => ?_) (fun _ _ _ _ h9 => h9.elim)
  have hP : va_P D vwCl (w_Nm k ad_this z_this) H := hP.sub [0, 1, 2, 3, 4] rfl
  have hD : va_D A (w_Nm k ad_this z_this) := hD.sub [0, 1, 2, 3, 4] (by decide) rfl
  refine lv_if_eq (tgt := 31) hx hb d_Nm_isUnused_5 (by decide) (fun hc => ?_) (fun hc => ?_)
  · have hw := hw.1 hc
    refine lv_iconst (v := (0 : Int32)) hx hb d_Nm_isUnused_31 (by decide) ?_
    exact xq_zret (r := (0 : Int32)) (u := ()) hx hb hr hlocks hAe hP hD hS rfl rfl hw (Nat.le_of_ble_eq_true rfl) (Nat.le_of_ble_eq_true rfl) d_Nm_isUnused_32
  · have hw := hw.2 hc
    refine lv_aload_n hx hb d_Nm_isUnused_8 rfl (lv_at hl 0 rfl) ?_
    refine va_get (D := D) (ci := 3) (v := .ref (ad_this 2)) (C := R_Nm) (T := F_Nm) (N := 5) hx hb hts in_Nm hown hK hP 0 rfl rfl 1 (by decide) (hts (.fieldLink R_Nm 15 R_Nm "sorts" "[I") kw1_161) (fun _ h9 => h9) rfl d_Nm_isUnused_9 ?_
    refine lv_iload_n hx hb d_Nm_isUnused_12 rfl (lv_at hl 1 rfl) ?_
    refine va_iald hx hb hK hP 2 0 rfl rfl hw.1 d_Nm_isUnused_13 ?_
    have hw := hw.2
    refine lv_iload_n hx hb d_Nm_isUnused_14 rfl (lv_at hl 2 rfl) ?_
    refine lv_icmp_ne (tgt := 31) hx hb d_Nm_isUnused_15 (by decide) (fun hc => ?_) (fun hc => ?_)
    · have hw := hw.2 hc
      refine lv_iconst (v := (0 : Int32)) hx hb d_Nm_isUnused_31 (by decide) ?_
      exact xq_zret (r := (0 : Int32)) (u := ()) hx hb hr hlocks hAe hP hD hS rfl rfl hw (Nat.le_of_ble_eq_true rfl) (Nat.le_of_ble_eq_true rfl) d_Nm_isUnused_32
    · have hw := hw.1 hc
      refine lv_aload_n hx hb d_Nm_isUnused_18 rfl (lv_at hl 0 rfl) ?_
      refine va_get (D := D) (ci := 3) (v := .ref (ad_this 4)) (C := R_Nm) (T := F_Nm) (N := 5) hx hb hts in_Nm hown hK hP 0 rfl rfl 3 (by decide) (hts (.fieldLink R_Nm 22 R_Nm "used" "[Z") kw1_163) (fun _ h9 => h9) rfl d_Nm_isUnused_19 ?_
      refine lv_iload_n hx hb d_Nm_isUnused_22 rfl (lv_at hl 1 rfl) ?_
      refine va_zald hx hb hK hP 4 3 rfl rfl hw.1 d_Nm_isUnused_23 ?_
      have hw := hw.2
      refine lv_if_ne (tgt := 31) hx hb d_Nm_isUnused_24 (by decide) (fun hc => ?_) (fun hc => ?_)
      · have hw := hw.2 hc
        refine lv_iconst (v := (0 : Int32)) hx hb d_Nm_isUnused_31 (by decide) ?_
        exact xq_zret (r := (0 : Int32)) (u := ()) hx hb hr hlocks hAe hP hD hS rfl rfl hw (Nat.le_of_ble_eq_true rfl) (Nat.le_of_ble_eq_true rfl) d_Nm_isUnused_32
      · have hw := hw.1 hc
        refine lv_iconst (v := (1 : Int32)) hx hb d_Nm_isUnused_27 (by decide) ?_
        refine lv_goto (tgt := 32) hx hb d_Nm_isUnused_28 (by decide) ?_
        exact xq_zret (r := (1 : Int32)) (u := ()) hx hb hr hlocks hAe hP hD hS rfl rfl hw (Nat.le_of_ble_eq_true rfl) (Nat.le_of_ble_eq_true rfl) d_Nm_isUnused_32
theorem cw_Nm_isUnused {R : Room} {s : State} {args : Array Value} {own : String} {index : Nat} (hts : ∀ w ∈ xq_W, w.before args s = true) (hl : .methodLink own index y_Nm_isUnused ∈ xq_W) {rm : Room} (hR : rm.frames + 1 ≤ R.frames ∧ 8 + (3 + 11) + rm.locals ≤ R.locals) : CallW R s args own "StepText$Names" index y_Nm_isUnused prog_4_method_10_code 3 (some (.boolean)) (.code y_Nm_isUnused prog_4_method_10_code 3 (some (.boolean)) :: xq_W) rm rm.cells rm.slots 2 := ⟨xq_cb 2 hts kw4_7 kw1_9 hl ⟨by decide, by decide, by decide +kernel⟩ hR, hts _ kw4_5, hts _ kw4_6⟩
def y_Nm_lettersOf : MethodName := ⟨"StepText$Names", "lettersOf", "(I)J"⟩
theorem d_Nm_lettersOf_0 : decode prog_4_method_11_code 0 = .ok (.aload_n 0, 1) := by decide +kernel
theorem d_Nm_lettersOf_1 : decode prog_4_method_11_code 1 = .ok (.iload_n 1, 1) := by decide +kernel
theorem d_Nm_lettersOf_2 : decode prog_4_method_11_code 2 = .ok (.invokevirtual 34, 3) := by decide +kernel
theorem d_Nm_lettersOf_5 : decode prog_4_method_11_code 5 = .ok (.ifCond .eq 12, 3) := by decide +kernel
theorem d_Nm_lettersOf_8 : decode prog_4_method_11_code 8 = .ok (.aload_n 0, 1) := by decide +kernel
theorem d_Nm_lettersOf_9 : decode prog_4_method_11_code 9 = .ok (.getfield 9, 3) := by decide +kernel
theorem d_Nm_lettersOf_12 : decode prog_4_method_11_code 12 = .ok (.iload_n 1, 1) := by decide +kernel
theorem d_Nm_lettersOf_13 : decode prog_4_method_11_code 13 = .ok (.laload, 1) := by decide +kernel
theorem d_Nm_lettersOf_14 : decode prog_4_method_11_code 14 = .ok (.goto 4, 3) := by decide +kernel
theorem d_Nm_lettersOf_17 : decode prog_4_method_11_code 17 = .ok (.lconst 0, 1) := by decide +kernel
theorem d_Nm_lettersOf_18 : decode prog_4_method_11_code 18 = .ok (.lreturn, 1) := by decide +kernel
def wp_Nm_lettersOf (z_this : T_Nm) (a1 : Int32) (post : Int64 → Unit → Prop) : Prop := wp_Nm_has z_this a1 (fun (r1 : Int32) (u1 : Unit) => (r1 = 0 → (post (0 : Int64) ())) ∧ (¬ r1 = 0 → (vp_in a1 100 ∧ (post (z_this.1 (a1).toNatClampNeg) ()))))
def rm_Nm_lettersOf : Room := { frames := 1, cells := 0, slots := 0, locals := 21 }
set_option maxHeartbeats 4000000 in
set_option maxRecDepth 100000 in
theorem c_Nm_lettersOf {l : Launch} {o : State × Array Value} {D : va_G} {k : Nat → ClassId} {ad_this : Nat → Nat} {z_this : T_Nm} {a1 : Int32} {post : Int64 → Unit → Prop} (hw : wp_Nm_lettersOf z_this a1 post) : xq_C l o y_Nm_lettersOf (.code y_Nm_lettersOf prog_4_method_11_code 2 (some (.long)) :: xq_W) rm_Nm_lettersOf D vwCl (xt k) [.ref (ad_this 0), .int a1] (w_Nm k ad_this z_this) (fun r : Int64 => some (.long r)) post (fun _ : Unit => False) (fun u : Unit => w_Nm k ad_this z_this) 0 0 0 0 := by
  refine xq_ofW (cc := prog_4_method_11_code) (maxL := 2) (ret := (some (.long))) (by decide) rfl (Nat.le_of_ble_eq_true rfl) ?_
  intro p e s m below meth c ls H locs A hAt hAe hA hl hK hJ hP0 hP hD hS
  obtain ⟨hx, hb, hml, hr, hlocks, hown, hts, hex, hnm⟩ := id hAt
  have hl : lv_has ls 2 [(0, .ref (ad_this 0)), (1, .int a1)] := hl
  unfold wp_Nm_lettersOf at hw
  refine lv_aload_n hx hb d_Nm_lettersOf_0 rfl (lv_at hl 0 rfl) ?_
  refine lv_iload_n hx hb d_Nm_lettersOf_1 rfl (lv_at hl 1 rfl) ?_
  refine xq_go (wr := ([] : va_W)) (stk := fun r => .int r :: []) (xq_runV (As := [.int a1]) (rest := []) ⟨hx, hb, hml, hown, hts⟩ (c_Nm_has (l := l) (o := o) (D := D) (k := k) (ad_this := ad_this) hw) (cw_Nm_has hts kw3_28 ⟨Nat.le_of_ble_eq_true rfl, Nat.le_of_ble_eq_true rfl⟩) (va_recv hK hP (ci := 3) (q0 := 0) rfl rfl) (hP.sub [0, 1, 2, 3, 4] rfl) hK hJ hS (va_free hD hS hA [0, 1, 2, 3, 4] rfl) ((hD.sub [0, 1, 2, 3, 4] (by decide) rfl).weaken (fun _ _ _ _ => trivial)) rfl hl.1 (Nat.le_of_ble_eq_true rfl) d_Nm_lettersOf_2 ⟨Nat.le_of_ble_eq_true rfl, Nat.le_of_ble_eq_true rfl⟩) hP hD hS hA [0, 1, 2, 3, 4] [] rfl rfl (by decide) (by decide) (fun _ => rfl) (fun r1 u1 H locs hw hP hD hS => ?_) (fun _ _ _ _ h9 => h9.elim)
  have hP : va_P D vwCl (w_Nm k ad_this z_this) H := hP.sub [0, 1, 2, 3, 4] rfl
  have hD : va_D A (w_Nm k ad_this z_this) := hD.sub [0, 1, 2, 3, 4] (by decide) rfl
  refine lv_if_eq (tgt := 17) hx hb d_Nm_lettersOf_5 (by decide) (fun hc => ?_) (fun hc => ?_)
  · have hw := hw.1 hc
    refine lv_lconst (v := (0 : Int64)) hx hb d_Nm_lettersOf_17 (by decide) ?_
    exact xq_lret (r := (0 : Int64)) (u := ()) hx hb hr hlocks hAe hP hD hS rfl hw (Nat.le_of_ble_eq_true rfl) (Nat.le_of_ble_eq_true rfl) d_Nm_lettersOf_18
  · have hw := hw.2 hc
    refine lv_aload_n hx hb d_Nm_lettersOf_8 rfl (lv_at hl 0 rfl) ?_
    refine va_get (D := D) (ci := 3) (v := .ref (ad_this 1)) (C := R_Nm) (T := F_Nm) (N := 5) hx hb hts in_Nm hown hK hP 0 rfl rfl 0 (by decide) (hts (.fieldLink R_Nm 9 R_Nm "letters" "[J") kw1_160) (fun _ h9 => h9) rfl d_Nm_lettersOf_9 ?_
    refine lv_iload_n hx hb d_Nm_lettersOf_12 rfl (lv_at hl 1 rfl) ?_
    refine va_lald hx hb hK hP 1 1 rfl rfl hw.1 d_Nm_lettersOf_13 ?_
    have hw := hw.2
    refine lv_goto (tgt := 18) hx hb d_Nm_lettersOf_14 (by decide) ?_
    exact xq_lret (r := (z_this.1 (a1).toNatClampNeg)) (u := ()) hx hb hr hlocks hAe hP hD hS rfl hw (Nat.le_of_ble_eq_true rfl) (Nat.le_of_ble_eq_true rfl) d_Nm_lettersOf_18
theorem cw_Nm_lettersOf {R : Room} {s : State} {args : Array Value} {own : String} {index : Nat} (hts : ∀ w ∈ xq_W, w.before args s = true) (hl : .methodLink own index y_Nm_lettersOf ∈ xq_W) {rm : Room} (hR : rm.frames + 1 ≤ R.frames ∧ 8 + (2 + 11) + rm.locals ≤ R.locals) : CallW R s args own "StepText$Names" index y_Nm_lettersOf prog_4_method_11_code 2 (some (.long)) (.code y_Nm_lettersOf prog_4_method_11_code 2 (some (.long)) :: xq_W) rm rm.cells rm.slots 1 := ⟨xq_cb 1 hts kw4_82 kw1_9 hl ⟨by decide, by decide, by decide +kernel⟩ hR, hts _ kw4_80, hts _ kw4_81⟩
def y_Nm_sortOf : MethodName := ⟨"StepText$Names", "sortOf", "(I)I"⟩
theorem d_Nm_sortOf_0 : decode prog_4_method_12_code 0 = .ok (.aload_n 0, 1) := by decide +kernel
theorem d_Nm_sortOf_1 : decode prog_4_method_12_code 1 = .ok (.iload_n 1, 1) := by decide +kernel
theorem d_Nm_sortOf_2 : decode prog_4_method_12_code 2 = .ok (.invokevirtual 34, 3) := by decide +kernel
theorem d_Nm_sortOf_5 : decode prog_4_method_12_code 5 = .ok (.ifCond .eq 12, 3) := by decide +kernel
theorem d_Nm_sortOf_8 : decode prog_4_method_12_code 8 = .ok (.aload_n 0, 1) := by decide +kernel
theorem d_Nm_sortOf_9 : decode prog_4_method_12_code 9 = .ok (.getfield 15, 3) := by decide +kernel
theorem d_Nm_sortOf_12 : decode prog_4_method_12_code 12 = .ok (.iload_n 1, 1) := by decide +kernel
theorem d_Nm_sortOf_13 : decode prog_4_method_12_code 13 = .ok (.iaload, 1) := by decide +kernel
theorem d_Nm_sortOf_14 : decode prog_4_method_12_code 14 = .ok (.goto 4, 3) := by decide +kernel
theorem d_Nm_sortOf_17 : decode prog_4_method_12_code 17 = .ok (.iconst (-1), 1) := by decide +kernel
theorem d_Nm_sortOf_18 : decode prog_4_method_12_code 18 = .ok (.ireturn, 1) := by decide +kernel
def wp_Nm_sortOf (z_this : T_Nm) (a1 : Int32) (post : Int32 → Unit → Prop) : Prop := wp_Nm_has z_this a1 (fun (r1 : Int32) (u1 : Unit) => (r1 = 0 → (post (-1 : Int32) ())) ∧ (¬ r1 = 0 → (vp_in a1 100 ∧ (post (z_this.2.1 (a1).toNatClampNeg) ()))))
def rm_Nm_sortOf : Room := { frames := 1, cells := 0, slots := 0, locals := 21 }
set_option maxHeartbeats 4000000 in
set_option maxRecDepth 100000 in
theorem c_Nm_sortOf {l : Launch} {o : State × Array Value} {D : va_G} {k : Nat → ClassId} {ad_this : Nat → Nat} {z_this : T_Nm} {a1 : Int32} {post : Int32 → Unit → Prop} (hw : wp_Nm_sortOf z_this a1 post) : xq_C l o y_Nm_sortOf (.code y_Nm_sortOf prog_4_method_12_code 2 (some (.int)) :: xq_W) rm_Nm_sortOf D vwCl (xt k) [.ref (ad_this 0), .int a1] (w_Nm k ad_this z_this) (fun r : Int32 => some (.int r)) post (fun _ : Unit => False) (fun u : Unit => w_Nm k ad_this z_this) 0 0 0 0 := by
  refine xq_ofW (cc := prog_4_method_12_code) (maxL := 2) (ret := (some (.int))) (by decide) rfl (Nat.le_of_ble_eq_true rfl) ?_
  intro p e s m below meth c ls H locs A hAt hAe hA hl hK hJ hP0 hP hD hS
  obtain ⟨hx, hb, hml, hr, hlocks, hown, hts, hex, hnm⟩ := id hAt
  have hl : lv_has ls 2 [(0, .ref (ad_this 0)), (1, .int a1)] := hl
  unfold wp_Nm_sortOf at hw
  refine lv_aload_n hx hb d_Nm_sortOf_0 rfl (lv_at hl 0 rfl) ?_
  refine lv_iload_n hx hb d_Nm_sortOf_1 rfl (lv_at hl 1 rfl) ?_
  refine xq_go (wr := ([] : va_W)) (stk := fun r => .int r :: []) (xq_runV (As := [.int a1]) (rest := []) ⟨hx, hb, hml, hown, hts⟩ (c_Nm_has (l := l) (o := o) (D := D) (k := k) (ad_this := ad_this) hw) (cw_Nm_has hts kw3_28 ⟨Nat.le_of_ble_eq_true rfl, Nat.le_of_ble_eq_true rfl⟩) (va_recv hK hP (ci := 3) (q0 := 0) rfl rfl) (hP.sub [0, 1, 2, 3, 4] rfl) hK hJ hS (va_free hD hS hA [0, 1, 2, 3, 4] rfl) ((hD.sub [0, 1, 2, 3, 4] (by decide) rfl).weaken (fun _ _ _ _ => trivial)) rfl hl.1 (Nat.le_of_ble_eq_true rfl) d_Nm_sortOf_2 ⟨Nat.le_of_ble_eq_true rfl, Nat.le_of_ble_eq_true rfl⟩) hP hD hS hA [0, 1, 2, 3, 4] [] rfl rfl (by decide) (by decide) (fun _ => rfl) (fun r1 u1 H locs hw hP hD hS => ?_) (fun _ _ _ _ h9 => h9.elim)
  have hP : va_P D vwCl (w_Nm k ad_this z_this) H := hP.sub [0, 1, 2, 3, 4] rfl
  have hD : va_D A (w_Nm k ad_this z_this) := hD.sub [0, 1, 2, 3, 4] (by decide) rfl
  refine lv_if_eq (tgt := 17) hx hb d_Nm_sortOf_5 (by decide) (fun hc => ?_) (fun hc => ?_)
  · have hw := hw.1 hc
    refine lv_iconst (v := (-1 : Int32)) hx hb d_Nm_sortOf_17 (by decide) ?_
    exact xq_iret (r := (-1 : Int32)) (u := ()) hx hb hr hlocks hAe hP hD hS rfl hw (Nat.le_of_ble_eq_true rfl) (Nat.le_of_ble_eq_true rfl) d_Nm_sortOf_18
  · have hw := hw.2 hc
    refine lv_aload_n hx hb d_Nm_sortOf_8 rfl (lv_at hl 0 rfl) ?_
    refine va_get (D := D) (ci := 3) (v := .ref (ad_this 2)) (C := R_Nm) (T := F_Nm) (N := 5) hx hb hts in_Nm hown hK hP 0 rfl rfl 1 (by decide) (hts (.fieldLink R_Nm 15 R_Nm "sorts" "[I") kw1_161) (fun _ h9 => h9) rfl d_Nm_sortOf_9 ?_
    refine lv_iload_n hx hb d_Nm_sortOf_12 rfl (lv_at hl 1 rfl) ?_
    refine va_iald hx hb hK hP 2 0 rfl rfl hw.1 d_Nm_sortOf_13 ?_
    have hw := hw.2
    refine lv_goto (tgt := 18) hx hb d_Nm_sortOf_14 (by decide) ?_
    exact xq_iret (r := (z_this.2.1 (a1).toNatClampNeg)) (u := ()) hx hb hr hlocks hAe hP hD hS rfl hw (Nat.le_of_ble_eq_true rfl) (Nat.le_of_ble_eq_true rfl) d_Nm_sortOf_18
theorem cw_Nm_sortOf {R : Room} {s : State} {args : Array Value} {own : String} {index : Nat} (hts : ∀ w ∈ xq_W, w.before args s = true) (hl : .methodLink own index y_Nm_sortOf ∈ xq_W) {rm : Room} (hR : rm.frames + 1 ≤ R.frames ∧ 8 + (2 + 11) + rm.locals ≤ R.locals) : CallW R s args own "StepText$Names" index y_Nm_sortOf prog_4_method_12_code 2 (some (.int)) (.code y_Nm_sortOf prog_4_method_12_code 2 (some (.int)) :: xq_W) rm rm.cells rm.slots 1 := ⟨xq_cb 1 hts kw3_27 kw1_9 hl ⟨by decide, by decide, by decide +kernel⟩ hR, hts _ kw3_25, hts _ kw3_26⟩
def y_Nm_measureOf : MethodName := ⟨"StepText$Names", "measureOf", "(I)I"⟩
theorem d_Nm_measureOf_0 : decode prog_4_method_13_code 0 = .ok (.aload_n 0, 1) := by decide +kernel
theorem d_Nm_measureOf_1 : decode prog_4_method_13_code 1 = .ok (.iload_n 1, 1) := by decide +kernel
theorem d_Nm_measureOf_2 : decode prog_4_method_13_code 2 = .ok (.invokevirtual 34, 3) := by decide +kernel
theorem d_Nm_measureOf_5 : decode prog_4_method_13_code 5 = .ok (.ifCond .eq 12, 3) := by decide +kernel
theorem d_Nm_measureOf_8 : decode prog_4_method_13_code 8 = .ok (.aload_n 0, 1) := by decide +kernel
theorem d_Nm_measureOf_9 : decode prog_4_method_13_code 9 = .ok (.getfield 19, 3) := by decide +kernel
theorem d_Nm_measureOf_12 : decode prog_4_method_13_code 12 = .ok (.iload_n 1, 1) := by decide +kernel
theorem d_Nm_measureOf_13 : decode prog_4_method_13_code 13 = .ok (.iaload, 1) := by decide +kernel
theorem d_Nm_measureOf_14 : decode prog_4_method_13_code 14 = .ok (.goto 4, 3) := by decide +kernel
theorem d_Nm_measureOf_17 : decode prog_4_method_13_code 17 = .ok (.iconst (-1), 1) := by decide +kernel
theorem d_Nm_measureOf_18 : decode prog_4_method_13_code 18 = .ok (.ireturn, 1) := by decide +kernel
def wp_Nm_measureOf (z_this : T_Nm) (a1 : Int32) (post : Int32 → Unit → Prop) : Prop := wp_Nm_has z_this a1 (fun (r1 : Int32) (u1 : Unit) => (r1 = 0 → (post (-1 : Int32) ())) ∧ (¬ r1 = 0 → (vp_in a1 100 ∧ (post (z_this.2.2.1 (a1).toNatClampNeg) ()))))
def rm_Nm_measureOf : Room := { frames := 1, cells := 0, slots := 0, locals := 21 }
set_option maxHeartbeats 4000000 in
set_option maxRecDepth 100000 in
theorem c_Nm_measureOf {l : Launch} {o : State × Array Value} {D : va_G} {k : Nat → ClassId} {ad_this : Nat → Nat} {z_this : T_Nm} {a1 : Int32} {post : Int32 → Unit → Prop} (hw : wp_Nm_measureOf z_this a1 post) : xq_C l o y_Nm_measureOf (.code y_Nm_measureOf prog_4_method_13_code 2 (some (.int)) :: xq_W) rm_Nm_measureOf D vwCl (xt k) [.ref (ad_this 0), .int a1] (w_Nm k ad_this z_this) (fun r : Int32 => some (.int r)) post (fun _ : Unit => False) (fun u : Unit => w_Nm k ad_this z_this) 0 0 0 0 := by
  refine xq_ofW (cc := prog_4_method_13_code) (maxL := 2) (ret := (some (.int))) (by decide) rfl (Nat.le_of_ble_eq_true rfl) ?_
  intro p e s m below meth c ls H locs A hAt hAe hA hl hK hJ hP0 hP hD hS
  obtain ⟨hx, hb, hml, hr, hlocks, hown, hts, hex, hnm⟩ := id hAt
  have hl : lv_has ls 2 [(0, .ref (ad_this 0)), (1, .int a1)] := hl
  unfold wp_Nm_measureOf at hw
  refine lv_aload_n hx hb d_Nm_measureOf_0 rfl (lv_at hl 0 rfl) ?_
  refine lv_iload_n hx hb d_Nm_measureOf_1 rfl (lv_at hl 1 rfl) ?_
  refine xq_go (wr := ([] : va_W)) (stk := fun r => .int r :: []) (xq_runV (As := [.int a1]) (rest := []) ⟨hx, hb, hml, hown, hts⟩ (c_Nm_has (l := l) (o := o) (D := D) (k := k) (ad_this := ad_this) hw) (cw_Nm_has hts kw3_28 ⟨Nat.le_of_ble_eq_true rfl, Nat.le_of_ble_eq_true rfl⟩) (va_recv hK hP (ci := 3) (q0 := 0) rfl rfl) (hP.sub [0, 1, 2, 3, 4] rfl) hK hJ hS (va_free hD hS hA [0, 1, 2, 3, 4] rfl) ((hD.sub [0, 1, 2, 3, 4] (by decide) rfl).weaken (fun _ _ _ _ => trivial)) rfl hl.1 (Nat.le_of_ble_eq_true rfl) d_Nm_measureOf_2 ⟨Nat.le_of_ble_eq_true rfl, Nat.le_of_ble_eq_true rfl⟩) hP hD hS hA [0, 1, 2, 3, 4] [] rfl rfl (by decide) (by decide) (fun _ => rfl) (fun r1 u1 H locs hw hP hD hS => ?_) (fun _ _ _ _ h9 => h9.elim)
  have hP : va_P D vwCl (w_Nm k ad_this z_this) H := hP.sub [0, 1, 2, 3, 4] rfl
  have hD : va_D A (w_Nm k ad_this z_this) := hD.sub [0, 1, 2, 3, 4] (by decide) rfl
  refine lv_if_eq (tgt := 17) hx hb d_Nm_measureOf_5 (by decide) (fun hc => ?_) (fun hc => ?_)
  · have hw := hw.1 hc
    refine lv_iconst (v := (-1 : Int32)) hx hb d_Nm_measureOf_17 (by decide) ?_
    exact xq_iret (r := (-1 : Int32)) (u := ()) hx hb hr hlocks hAe hP hD hS rfl hw (Nat.le_of_ble_eq_true rfl) (Nat.le_of_ble_eq_true rfl) d_Nm_measureOf_18
  · have hw := hw.2 hc
    refine lv_aload_n hx hb d_Nm_measureOf_8 rfl (lv_at hl 0 rfl) ?_
    refine va_get (D := D) (ci := 3) (v := .ref (ad_this 3)) (C := R_Nm) (T := F_Nm) (N := 5) hx hb hts in_Nm hown hK hP 0 rfl rfl 2 (by decide) (hts (.fieldLink R_Nm 19 R_Nm "measures" "[I") kw1_162) (fun _ h9 => h9) rfl d_Nm_measureOf_9 ?_
    refine lv_iload_n hx hb d_Nm_measureOf_12 rfl (lv_at hl 1 rfl) ?_
    refine va_iald hx hb hK hP 3 0 rfl rfl hw.1 d_Nm_measureOf_13 ?_
    have hw := hw.2
    refine lv_goto (tgt := 18) hx hb d_Nm_measureOf_14 (by decide) ?_
    exact xq_iret (r := (z_this.2.2.1 (a1).toNatClampNeg)) (u := ()) hx hb hr hlocks hAe hP hD hS rfl hw (Nat.le_of_ble_eq_true rfl) (Nat.le_of_ble_eq_true rfl) d_Nm_measureOf_18
theorem cw_Nm_measureOf {R : Room} {s : State} {args : Array Value} {own : String} {index : Nat} (hts : ∀ w ∈ xq_W, w.before args s = true) (hl : .methodLink own index y_Nm_measureOf ∈ xq_W) {rm : Room} (hR : rm.frames + 1 ≤ R.frames ∧ 8 + (2 + 11) + rm.locals ≤ R.locals) : CallW R s args own "StepText$Names" index y_Nm_measureOf prog_4_method_13_code 2 (some (.int)) (.code y_Nm_measureOf prog_4_method_13_code 2 (some (.int)) :: xq_W) rm rm.cells rm.slots 1 := ⟨xq_cb 1 hts kw3_39 kw1_9 hl ⟨by decide, by decide, by decide +kernel⟩ hR, hts _ kw3_37, hts _ kw3_38⟩
