theorem kw1_226 : (Jvm.Cond.fieldLink "StepText$Program" (10 : Nat) "StepText$Program" "names" "LStepText$Names;") ∈ xq_W := xq_in tb_1 226 (by decide +kernel) rfl
theorem kw2_2 : (Jvm.Cond.code ({ cls := "StepText$Program", name := "names", desc := "()LStepText$Names;" } : Jvm.MethodName) prog_7_method_2_code (1 : Nat) (Option.some (Jvm.ClassFile.FieldType.object "StepText$Names"))) ∈ xq_W := xq_in tb_2 2 (by decide +kernel) rfl
theorem kw1_8 : (Jvm.Cond.initialized "StepText$Program") ∈ xq_W := xq_in tb_1 8 (by decide +kernel) rfl
theorem kw2_0 : (Jvm.Cond.instanceMethod ({ cls := "StepText$Program", name := "names", desc := "()LStepText$Names;" } : Jvm.MethodName)) ∈ xq_W := xq_in tb_2 0 (by decide +kernel) rfl
theorem kw2_1 : (Jvm.Cond.selects "StepText$Program" ({ cls := "StepText$Program", name := "names", desc := "()LStepText$Names;" } : Jvm.MethodName) ({ cls := "StepText$Program", name := "names", desc := "()LStepText$Names;" } : Jvm.MethodName)) ∈ xq_W := xq_in tb_2 1 (by decide +kernel) rfl
theorem kw1_227 : (Jvm.Cond.fieldLink "StepText$Program" (19 : Nat) "StepText$Program" "nodes" "LStepText$Nodes;") ∈ xq_W := xq_in tb_1 227 (by decide +kernel) rfl
theorem kw2_6 : (Jvm.Cond.code ({ cls := "StepText$Program", name := "nodes", desc := "()LStepText$Nodes;" } : Jvm.MethodName) prog_7_method_3_code (1 : Nat) (Option.some (Jvm.ClassFile.FieldType.object "StepText$Nodes"))) ∈ xq_W := xq_in tb_2 6 (by decide +kernel) rfl
theorem kw2_4 : (Jvm.Cond.instanceMethod ({ cls := "StepText$Program", name := "nodes", desc := "()LStepText$Nodes;" } : Jvm.MethodName)) ∈ xq_W := xq_in tb_2 4 (by decide +kernel) rfl
theorem kw2_5 : (Jvm.Cond.selects "StepText$Program" ({ cls := "StepText$Program", name := "nodes", desc := "()LStepText$Nodes;" } : Jvm.MethodName) ({ cls := "StepText$Program", name := "nodes", desc := "()LStepText$Nodes;" } : Jvm.MethodName)) ∈ xq_W := xq_in tb_2 5 (by decide +kernel) rfl
theorem kw2_141 : (Jvm.Cond.methodLink "StepText$Program" (23 : Nat) ({ cls := "StepText$Names", name := "empty", desc := "()V" } : Jvm.MethodName)) ∈ xq_W := xq_in tb_2 141 (by decide +kernel) rfl
theorem kw2_145 : (Jvm.Cond.methodLink "StepText$Program" (26 : Nat) ({ cls := "StepText$Nodes", name := "empty", desc := "()V" } : Jvm.MethodName)) ∈ xq_W := xq_in tb_2 145 (by decide +kernel) rfl
theorem kw2_140 : (Jvm.Cond.code ({ cls := "StepText$Program", name := "empty", desc := "()V" } : Jvm.MethodName) prog_7_method_4_code (1 : Nat) (Option.none : Option Jvm.ClassFile.FieldType)) ∈ xq_W := xq_in tb_2 140 (by decide +kernel) rfl
theorem kw2_138 : (Jvm.Cond.instanceMethod ({ cls := "StepText$Program", name := "empty", desc := "()V" } : Jvm.MethodName)) ∈ xq_W := xq_in tb_2 138 (by decide +kernel) rfl
theorem kw2_139 : (Jvm.Cond.selects "StepText$Program" ({ cls := "StepText$Program", name := "empty", desc := "()V" } : Jvm.MethodName) ({ cls := "StepText$Program", name := "empty", desc := "()V" } : Jvm.MethodName)) ∈ xq_W := xq_in tb_2 139 (by decide +kernel) rfl
theorem kw3_154 : (Jvm.Cond.methodLink "StepText$Program" (33 : Nat) ({ cls := "StepText$Nodes", name := "count", desc := "()I" } : Jvm.MethodName)) ∈ xq_W := xq_in tb_3 154 (by decide +kernel) rfl
theorem kw3_155 : (Jvm.Cond.methodLink "StepText$Program" (37 : Nat) ({ cls := "StepText$Nodes", name := "kindOf", desc := "(I)I" } : Jvm.MethodName)) ∈ xq_W := xq_in tb_3 155 (by decide +kernel) rfl
theorem kw3_159 : (Jvm.Cond.methodLink "StepText$Program" (41 : Nat) ({ cls := "StepText$Nodes", name := "subjectOf", desc := "(I)I" } : Jvm.MethodName)) ∈ xq_W := xq_in tb_3 159 (by decide +kernel) rfl
theorem kw3_172 : (Jvm.Cond.methodLink "StepText$Program" (48 : Nat) ({ cls := "StepText$Names", name := "use", desc := "(I)V" } : Jvm.MethodName)) ∈ xq_W := xq_in tb_3 172 (by decide +kernel) rfl
theorem kw3_168 : (Jvm.Cond.methodLink "StepText$Program" (44 : Nat) ({ cls := "StepText$Names", name := "isUsed", desc := "(I)Z" } : Jvm.MethodName)) ∈ xq_W := xq_in tb_3 168 (by decide +kernel) rfl
theorem kw3_153 : (Jvm.Cond.code ({ cls := "StepText$Program", name := "useDoneSteps", desc := "()V" } : Jvm.MethodName) prog_7_method_6_code (4 : Nat) (Option.none : Option Jvm.ClassFile.FieldType)) ∈ xq_W := xq_in tb_3 153 (by decide +kernel) rfl
theorem kw3_152 : (Jvm.Cond.instanceMethod ({ cls := "StepText$Program", name := "useDoneSteps", desc := "()V" } : Jvm.MethodName)) ∈ xq_W := xq_in tb_3 152 (by decide +kernel) rfl
theorem kp3_0 : Cond.selects "StepText$Program" (⟨"StepText$Program", "useDoneSteps", "()V"⟩ : MethodName) (⟨"StepText$Program", "useDoneSteps", "()V"⟩ : MethodName) ∈ xq_W := xq_inp tp_3 (y := (⟨"StepText$Program", "useDoneSteps", "()V"⟩ : MethodName)) (k := 2) 0 (by decide +kernel)
theorem kw3_146 : (Jvm.Cond.methodLink "StepText$Program" (27 : Nat) ({ cls := "StepText$Nodes", name := "finish", desc := "()V" } : Jvm.MethodName)) ∈ xq_W := xq_in tb_3 146 (by decide +kernel) rfl
theorem kw3_150 : (Jvm.Cond.methodLink "StepText$Program" (30 : Nat) ({ cls := "StepText$Program", name := "useDoneSteps", desc := "()V" } : Jvm.MethodName)) ∈ xq_W := xq_in tb_3 150 (by decide +kernel) rfl
theorem kw3_145 : (Jvm.Cond.code ({ cls := "StepText$Program", name := "finish", desc := "()V" } : Jvm.MethodName) prog_7_method_5_code (1 : Nat) (Option.none : Option Jvm.ClassFile.FieldType)) ∈ xq_W := xq_in tb_3 145 (by decide +kernel) rfl
theorem kw3_143 : (Jvm.Cond.instanceMethod ({ cls := "StepText$Program", name := "finish", desc := "()V" } : Jvm.MethodName)) ∈ xq_W := xq_in tb_3 143 (by decide +kernel) rfl
theorem kw3_144 : (Jvm.Cond.selects "StepText$Program" ({ cls := "StepText$Program", name := "finish", desc := "()V" } : Jvm.MethodName) ({ cls := "StepText$Program", name := "finish", desc := "()V" } : Jvm.MethodName)) ∈ xq_W := xq_in tb_3 144 (by decide +kernel) rfl
def y_Pr_names : MethodName := ⟨"StepText$Program", "names", "()LStepText$Names;"⟩
theorem d_Pr_names_0 : decode prog_7_method_2_code 0 = .ok (.aload_n 0, 1) := by decide +kernel
theorem d_Pr_names_1 : decode prog_7_method_2_code 1 = .ok (.getfield 10, 3) := by decide +kernel
theorem d_Pr_names_4 : decode prog_7_method_2_code 4 = .ok (.areturn, 1) := by decide +kernel
def wp_Pr_names (z_this : T_Pr) (post : Unit → Unit → Prop) : Prop := post () ()
def rm_Pr_names : Room := { frames := 0, cells := 0, slots := 0, locals := 0 }
set_option maxHeartbeats 4000000 in
set_option maxRecDepth 100000 in
theorem c_Pr_names {l : Launch} {o : State × Array Value} {D : va_G} {k : Nat → ClassId} {ad_this : Nat → Nat} {q_this_names : Nat} {q_this_nodes : Nat} {z_this : T_Pr} {post : Unit → Unit → Prop} (hw : wp_Pr_names z_this post) : xq_C l o y_Pr_names (.code y_Pr_names prog_7_method_2_code 1 (some (.object "StepText$Names")) :: xq_W) rm_Pr_names D vwCl (xt k) [.ref (ad_this 0)] (w_Pr k ad_this q_this_names q_this_nodes z_this) (fun _ : Unit => some (.ref q_this_names)) post (fun _ : Unit => False) (fun u : Unit => w_Pr k ad_this q_this_names q_this_nodes z_this) 0 0 0 0 := by
  refine xq_ofW (cc := prog_7_method_2_code) (maxL := 1) (ret := (some (.object "StepText$Names"))) (by decide) rfl (Nat.le_of_ble_eq_true rfl) ?_
  intro p e s m below meth c ls H locs A hAt hAe hA hl hK hJ hP0 hP hD hS
  obtain ⟨hx, hb, hml, hr, hlocks, hown, hts, hex, hnm⟩ := id hAt
  have hl : lv_has ls 1 [(0, .ref (ad_this 0))] := hl
  unfold wp_Pr_names at hw
  refine lv_aload_n hx hb d_Pr_names_0 rfl (lv_at hl 0 rfl) ?_
  refine va_get (D := D) (ci := 5) (v := .ref q_this_names) (C := R_Pr) (T := F_Pr) (N := 2) hx hb hts in_Pr hown hK hP 0 rfl rfl 0 (by decide) (hts (.fieldLink R_Pr 10 R_Pr "names" "LStepText$Names;") kw1_226) (fun _ h9 => h9) rfl d_Pr_names_1 ?_
  exact xq_aret (v := .ref q_this_names) (r := ()) (u := ()) hx hb hr (Or.inl ⟨_, rfl⟩) (Or.inr ⟨_, rfl⟩) hlocks hAe hP hD hS rfl hw (Nat.le_of_ble_eq_true rfl) (Nat.le_of_ble_eq_true rfl) d_Pr_names_4
theorem cw_Pr_names {R : Room} {s : State} {args : Array Value} {own : String} {index : Nat} (hts : ∀ w ∈ xq_W, w.before args s = true) (hl : .methodLink own index y_Pr_names ∈ xq_W) {rm : Room} (hR : rm.frames + 1 ≤ R.frames ∧ 8 + (1 + 11) + rm.locals ≤ R.locals) : CallW R s args own "StepText$Program" index y_Pr_names prog_7_method_2_code 1 (some (.object "StepText$Names")) (.code y_Pr_names prog_7_method_2_code 1 (some (.object "StepText$Names")) :: xq_W) rm rm.cells rm.slots 0 := ⟨xq_cb 0 hts kw2_2 kw1_8 hl ⟨by decide, by decide, by decide +kernel⟩ hR, hts _ kw2_0, hts _ kw2_1⟩
def y_Pr_nodes : MethodName := ⟨"StepText$Program", "nodes", "()LStepText$Nodes;"⟩
theorem d_Pr_nodes_0 : decode prog_7_method_3_code 0 = .ok (.aload_n 0, 1) := by decide +kernel
theorem d_Pr_nodes_1 : decode prog_7_method_3_code 1 = .ok (.getfield 19, 3) := by decide +kernel
theorem d_Pr_nodes_4 : decode prog_7_method_3_code 4 = .ok (.areturn, 1) := by decide +kernel
def wp_Pr_nodes (z_this : T_Pr) (post : Unit → Unit → Prop) : Prop := post () ()
def rm_Pr_nodes : Room := { frames := 0, cells := 0, slots := 0, locals := 0 }
set_option maxHeartbeats 4000000 in
set_option maxRecDepth 100000 in
theorem c_Pr_nodes {l : Launch} {o : State × Array Value} {D : va_G} {k : Nat → ClassId} {ad_this : Nat → Nat} {q_this_names : Nat} {q_this_nodes : Nat} {z_this : T_Pr} {post : Unit → Unit → Prop} (hw : wp_Pr_nodes z_this post) : xq_C l o y_Pr_nodes (.code y_Pr_nodes prog_7_method_3_code 1 (some (.object "StepText$Nodes")) :: xq_W) rm_Pr_nodes D vwCl (xt k) [.ref (ad_this 0)] (w_Pr k ad_this q_this_names q_this_nodes z_this) (fun _ : Unit => some (.ref q_this_nodes)) post (fun _ : Unit => False) (fun u : Unit => w_Pr k ad_this q_this_names q_this_nodes z_this) 0 0 0 0 := by
  refine xq_ofW (cc := prog_7_method_3_code) (maxL := 1) (ret := (some (.object "StepText$Nodes"))) (by decide) rfl (Nat.le_of_ble_eq_true rfl) ?_
  intro p e s m below meth c ls H locs A hAt hAe hA hl hK hJ hP0 hP hD hS
  obtain ⟨hx, hb, hml, hr, hlocks, hown, hts, hex, hnm⟩ := id hAt
  have hl : lv_has ls 1 [(0, .ref (ad_this 0))] := hl
  unfold wp_Pr_nodes at hw
  refine lv_aload_n hx hb d_Pr_nodes_0 rfl (lv_at hl 0 rfl) ?_
  refine va_get (D := D) (ci := 5) (v := .ref q_this_nodes) (C := R_Pr) (T := F_Pr) (N := 2) hx hb hts in_Pr hown hK hP 0 rfl rfl 1 (by decide) (hts (.fieldLink R_Pr 19 R_Pr "nodes" "LStepText$Nodes;") kw1_227) (fun _ h9 => h9) rfl d_Pr_nodes_1 ?_
  exact xq_aret (v := .ref q_this_nodes) (r := ()) (u := ()) hx hb hr (Or.inl ⟨_, rfl⟩) (Or.inr ⟨_, rfl⟩) hlocks hAe hP hD hS rfl hw (Nat.le_of_ble_eq_true rfl) (Nat.le_of_ble_eq_true rfl) d_Pr_nodes_4
theorem cw_Pr_nodes {R : Room} {s : State} {args : Array Value} {own : String} {index : Nat} (hts : ∀ w ∈ xq_W, w.before args s = true) (hl : .methodLink own index y_Pr_nodes ∈ xq_W) {rm : Room} (hR : rm.frames + 1 ≤ R.frames ∧ 8 + (1 + 11) + rm.locals ≤ R.locals) : CallW R s args own "StepText$Program" index y_Pr_nodes prog_7_method_3_code 1 (some (.object "StepText$Nodes")) (.code y_Pr_nodes prog_7_method_3_code 1 (some (.object "StepText$Nodes")) :: xq_W) rm rm.cells rm.slots 0 := ⟨xq_cb 0 hts kw2_6 kw1_8 hl ⟨by decide, by decide, by decide +kernel⟩ hR, hts _ kw2_4, hts _ kw2_5⟩
def y_Pr_empty : MethodName := ⟨"StepText$Program", "empty", "()V"⟩
theorem d_Pr_empty_0 : decode prog_7_method_4_code 0 = .ok (.aload_n 0, 1) := by decide +kernel
theorem d_Pr_empty_1 : decode prog_7_method_4_code 1 = .ok (.getfield 10, 3) := by decide +kernel
theorem d_Pr_empty_4 : decode prog_7_method_4_code 4 = .ok (.invokevirtual 23, 3) := by decide +kernel
theorem d_Pr_empty_7 : decode prog_7_method_4_code 7 = .ok (.aload_n 0, 1) := by decide +kernel
theorem d_Pr_empty_8 : decode prog_7_method_4_code 8 = .ok (.getfield 19, 3) := by decide +kernel
theorem d_Pr_empty_11 : decode prog_7_method_4_code 11 = .ok (.invokevirtual 26, 3) := by decide +kernel
theorem d_Pr_empty_14 : decode prog_7_method_4_code 14 = .ok (.return_, 1) := by decide +kernel
def wp_Pr_empty (z_this : T_Pr) (z_this_names : T_Nm) (z_this_nodes : T_Nd) (post : Unit → T_Nm × T_Nd → Prop) : Prop := wp_Nm_empty z_this_names (fun (r1 : Unit) (u1 : T_Nm) => wp_Nd_empty z_this_nodes (fun (r2 : Unit) (u2 : T_Nd) => post () (u1, u2)))
def rm_Pr_empty : Room := { frames := 1, cells := 0, slots := 0, locals := 20 }
set_option maxHeartbeats 4000000 in
set_option maxRecDepth 100000 in
theorem c_Pr_empty {l : Launch} {o : State × Array Value} {D : va_G} {k : Nat → ClassId} {ad_this : Nat → Nat} {ad_this_names : Nat → Nat} {ad_this_nodes : Nat → Nat} {z_this : T_Pr} {z_this_names : T_Nm} {z_this_nodes : T_Nd} {post : Unit → T_Nm × T_Nd → Prop} (hw : wp_Pr_empty z_this z_this_names z_this_nodes post) : xq_C l o y_Pr_empty (.code y_Pr_empty prog_7_method_4_code 1 none :: xq_W) rm_Pr_empty D vwCl (xt k) [.ref (ad_this 0)] (w_Pr k ad_this (ad_this_names 0) (ad_this_nodes 0) z_this ++ w_Nm k ad_this_names z_this_names ++ w_Nd k ad_this_nodes z_this_nodes) (fun _ : Unit => none) post (fun _ : T_Nm × T_Nd => False) (fun u : T_Nm × T_Nd => w_Pr k ad_this (ad_this_names 0) (ad_this_nodes 0) z_this ++ w_Nm k ad_this_names u.1 ++ w_Nd k ad_this_nodes u.2) 0 0 0 0 := by
  refine xq_ofW (cc := prog_7_method_4_code) (maxL := 1) (ret := none) (by decide) rfl (Nat.le_of_ble_eq_true rfl) ?_
  intro p e s m below meth c ls H locs A hAt hAe hA hl hK hJ hP0 hP hD hS
  obtain ⟨hx, hb, hml, hr, hlocks, hown, hts, hex, hnm⟩ := id hAt
  have hl : lv_has ls 1 [(0, .ref (ad_this 0))] := hl
  unfold wp_Pr_empty at hw
  refine lv_aload_n hx hb d_Pr_empty_0 rfl (lv_at hl 0 rfl) ?_
  refine va_get (D := D) (ci := 5) (v := .ref (ad_this_names 0)) (C := R_Pr) (T := F_Pr) (N := 2) hx hb hts in_Pr hown hK hP 0 rfl rfl 0 (by decide) (hts (.fieldLink R_Pr 10 R_Pr "names" "LStepText$Names;") kw1_226) (fun _ h9 => h9) rfl d_Pr_empty_1 ?_
  refine xq_go (wr := w_Pr k ad_this (ad_this_names 0) (ad_this_nodes 0) z_this ++ w_Nd k ad_this_nodes z_this_nodes) (stk := fun _ => []) (xq_runV (As := []) (rest := []) ⟨hx, hb, hml, hown, hts⟩ (c_Nm_empty (l := l) (o := o) (D := D) (k := k) (ad_this := ad_this_names) hw) (cw_Nm_empty hts kw2_141 ⟨Nat.le_of_ble_eq_true rfl, Nat.le_of_ble_eq_true rfl⟩) (va_recv hK hP (ci := 3) (q0 := 1) rfl rfl) (hP.sub [1, 2, 3, 4, 5] rfl) hK hJ hS (va_free hD hS hA [1, 2, 3, 4, 5] rfl) ((hD.sub [1, 2, 3, 4, 5] (by decide) rfl).weaken (fun _ _ _ _ => trivial)) rfl hl.1 (Nat.le_of_ble_eq_true rfl) d_Pr_empty_4 ⟨Nat.le_of_ble_eq_true rfl, Nat.le_of_ble_eq_true rfl⟩) hP hD hS hA [1, 2, 3, 4, 5] [0, 6, 7, 8, 9, 10, 11, 12, 13, 14, 15, 16] rfl rfl (by decide) (by decide) (fun _ => rfl) (fun r1 u1 H locs hw hP hD hS => ?_) (fun _ _ _ _ h9 => h9.elim)
  have hP : va_P D vwCl (w_Pr k ad_this (ad_this_names 0) (ad_this_nodes 0) z_this ++ w_Nm k ad_this_names u1 ++ w_Nd k ad_this_nodes z_this_nodes) H := hP.sub [0, 12, 13, 14, 15, 16, 1, 2, 3, 4, 5, 6, 7, 8, 9, 10, 11] rfl
  have hD : va_D A (w_Pr k ad_this (ad_this_names 0) (ad_this_nodes 0) z_this ++ w_Nm k ad_this_names u1 ++ w_Nd k ad_this_nodes z_this_nodes) := hD.sub [0, 12, 13, 14, 15, 16, 1, 2, 3, 4, 5, 6, 7, 8, 9, 10, 11] (by decide) rfl
  refine lv_aload_n hx hb d_Pr_empty_7 rfl (lv_at hl 0 rfl) ?_
  refine va_get (D := D) (ci := 5) (v := .ref (ad_this_nodes 0)) (C := R_Pr) (T := F_Pr) (N := 2) hx hb hts in_Pr hown hK hP 0 rfl rfl 1 (by decide) (hts (.fieldLink R_Pr 19 R_Pr "nodes" "LStepText$Nodes;") kw1_227) (fun _ h9 => h9) rfl d_Pr_empty_8 ?_
  refine xq_go (wr := w_Pr k ad_this (ad_this_names 0) (ad_this_nodes 0) z_this ++ w_Nm k ad_this_names u1) (stk := fun _ => []) (xq_runV (As := []) (rest := []) ⟨hx, hb, hml, hown, hts⟩ (c_Nd_empty (l := l) (o := o) (D := D) (k := k) (ad_this := ad_this_nodes) hw) (cw_Nd_empty hts kw2_145 ⟨Nat.le_of_ble_eq_true rfl, Nat.le_of_ble_eq_true rfl⟩) (va_recv hK hP (ci := 4) (q0 := 6) rfl rfl) (hP.sub [6, 7, 8, 9, 10, 11, 12, 13, 14, 15, 16] rfl) hK hJ hS (va_free hD hS hA [6, 7, 8, 9, 10, 11, 12, 13, 14, 15, 16] rfl) ((hD.sub [6, 7, 8, 9, 10, 11, 12, 13, 14, 15, 16] (by decide) rfl).weaken (fun _ _ _ _ => trivial)) rfl hl.1 (Nat.le_of_ble_eq_true rfl) d_Pr_empty_11 ⟨Nat.le_of_ble_eq_true rfl, Nat.le_of_ble_eq_true rfl⟩) hP hD hS hA [6, 7, 8, 9, 10, 11, 12, 13, 14, 15, 16] [0, 1, 2, 3, 4, 5] rfl rfl (by decide) (by decide) (fun _ => rfl) (fun r2 u2 H locs hw hP hD hS => ?_) (fun _ _ _ _ h9 => h9.elim)
  have hP : va_P D vwCl (w_Pr k ad_this (ad_this_names 0) (ad_this_nodes 0) z_this ++ w_Nm k ad_this_names u1 ++ w_Nd k ad_this_nodes u2) H := hP.sub [0, 1, 2, 3, 4, 5, 6, 7, 8, 9, 10, 11, 12, 13, 14, 15, 16] rfl
  have hD : va_D A (w_Pr k ad_this (ad_this_names 0) (ad_this_nodes 0) z_this ++ w_Nm k ad_this_names u1 ++ w_Nd k ad_this_nodes u2) := hD.sub [0, 1, 2, 3, 4, 5, 6, 7, 8, 9, 10, 11, 12, 13, 14, 15, 16] (by decide) rfl
  exact xq_vret (r := ()) (u := (u1, u2)) hx hb hr hlocks hAe hP hD hS rfl hw (Nat.le_of_ble_eq_true rfl) (Nat.le_of_ble_eq_true rfl) d_Pr_empty_14
theorem cw_Pr_empty {R : Room} {s : State} {args : Array Value} {own : String} {index : Nat} (hts : ∀ w ∈ xq_W, w.before args s = true) (hl : .methodLink own index y_Pr_empty ∈ xq_W) {rm : Room} (hR : rm.frames + 1 ≤ R.frames ∧ 8 + (1 + 11) + rm.locals ≤ R.locals) : CallW R s args own "StepText$Program" index y_Pr_empty prog_7_method_4_code 1 none (.code y_Pr_empty prog_7_method_4_code 1 none :: xq_W) rm rm.cells rm.slots 0 := ⟨xq_cb 0 hts kw2_140 kw1_8 hl ⟨by decide, by decide, by decide +kernel⟩ hR, hts _ kw2_138, hts _ kw2_139⟩
def y_Pr_useDoneSteps : MethodName := ⟨"StepText$Program", "useDoneSteps", "()V"⟩
theorem d_Pr_useDoneSteps_0 : decode prog_7_method_6_code 0 = .ok (.iconst 1, 1) := by decide +kernel
theorem d_Pr_useDoneSteps_1 : decode prog_7_method_6_code 1 = .ok (.istore_n 1, 1) := by decide +kernel
theorem d_Pr_useDoneSteps_2 : decode prog_7_method_6_code 2 = .ok (.aload_n 0, 1) := by decide +kernel
theorem d_Pr_useDoneSteps_3 : decode prog_7_method_6_code 3 = .ok (.getfield 19, 3) := by decide +kernel
theorem d_Pr_useDoneSteps_6 : decode prog_7_method_6_code 6 = .ok (.invokevirtual 33, 3) := by decide +kernel
theorem d_Pr_useDoneSteps_9 : decode prog_7_method_6_code 9 = .ok (.iconst 1, 1) := by decide +kernel
theorem d_Pr_useDoneSteps_10 : decode prog_7_method_6_code 10 = .ok (.isub, 1) := by decide +kernel
theorem d_Pr_useDoneSteps_11 : decode prog_7_method_6_code 11 = .ok (.istore_n 2, 1) := by decide +kernel
theorem d_Pr_useDoneSteps_12 : decode prog_7_method_6_code 12 = .ok (.iload_n 2, 1) := by decide +kernel
theorem d_Pr_useDoneSteps_13 : decode prog_7_method_6_code 13 = .ok (.ifCond .lt 68, 3) := by decide +kernel
theorem d_Pr_useDoneSteps_16 : decode prog_7_method_6_code 16 = .ok (.aload_n 0, 1) := by decide +kernel
theorem d_Pr_useDoneSteps_17 : decode prog_7_method_6_code 17 = .ok (.getfield 19, 3) := by decide +kernel
theorem d_Pr_useDoneSteps_20 : decode prog_7_method_6_code 20 = .ok (.iload_n 2, 1) := by decide +kernel
theorem d_Pr_useDoneSteps_21 : decode prog_7_method_6_code 21 = .ok (.invokevirtual 37, 3) := by decide +kernel
theorem d_Pr_useDoneSteps_24 : decode prog_7_method_6_code 24 = .ok (.istore_n 3, 1) := by decide +kernel
theorem d_Pr_useDoneSteps_25 : decode prog_7_method_6_code 25 = .ok (.iload_n 3, 1) := by decide +kernel
theorem d_Pr_useDoneSteps_26 : decode prog_7_method_6_code 26 = .ok (.bipush 24, 2) := by decide +kernel
theorem d_Pr_useDoneSteps_28 : decode prog_7_method_6_code 28 = .ok (.if_icmp .ne 22, 3) := by decide +kernel
theorem d_Pr_useDoneSteps_31 : decode prog_7_method_6_code 31 = .ok (.aload_n 0, 1) := by decide +kernel
theorem d_Pr_useDoneSteps_32 : decode prog_7_method_6_code 32 = .ok (.getfield 10, 3) := by decide +kernel
theorem d_Pr_useDoneSteps_35 : decode prog_7_method_6_code 35 = .ok (.aload_n 0, 1) := by decide +kernel
theorem d_Pr_useDoneSteps_36 : decode prog_7_method_6_code 36 = .ok (.getfield 19, 3) := by decide +kernel
theorem d_Pr_useDoneSteps_39 : decode prog_7_method_6_code 39 = .ok (.iload_n 2, 1) := by decide +kernel
theorem d_Pr_useDoneSteps_40 : decode prog_7_method_6_code 40 = .ok (.invokevirtual 41, 3) := by decide +kernel
theorem d_Pr_useDoneSteps_43 : decode prog_7_method_6_code 43 = .ok (.invokevirtual 44, 3) := by decide +kernel
theorem d_Pr_useDoneSteps_46 : decode prog_7_method_6_code 46 = .ok (.istore_n 1, 1) := by decide +kernel
theorem d_Pr_useDoneSteps_47 : decode prog_7_method_6_code 47 = .ok (.goto 28, 3) := by decide +kernel
theorem d_Pr_useDoneSteps_50 : decode prog_7_method_6_code 50 = .ok (.iload_n 3, 1) := by decide +kernel
theorem d_Pr_useDoneSteps_51 : decode prog_7_method_6_code 51 = .ok (.bipush 19, 2) := by decide +kernel
theorem d_Pr_useDoneSteps_53 : decode prog_7_method_6_code 53 = .ok (.if_icmp .ne 22, 3) := by decide +kernel
theorem d_Pr_useDoneSteps_56 : decode prog_7_method_6_code 56 = .ok (.iload_n 1, 1) := by decide +kernel
theorem d_Pr_useDoneSteps_57 : decode prog_7_method_6_code 57 = .ok (.ifCond .eq 18, 3) := by decide +kernel
theorem d_Pr_useDoneSteps_60 : decode prog_7_method_6_code 60 = .ok (.aload_n 0, 1) := by decide +kernel
theorem d_Pr_useDoneSteps_61 : decode prog_7_method_6_code 61 = .ok (.getfield 10, 3) := by decide +kernel
theorem d_Pr_useDoneSteps_64 : decode prog_7_method_6_code 64 = .ok (.aload_n 0, 1) := by decide +kernel
theorem d_Pr_useDoneSteps_65 : decode prog_7_method_6_code 65 = .ok (.getfield 19, 3) := by decide +kernel
theorem d_Pr_useDoneSteps_68 : decode prog_7_method_6_code 68 = .ok (.iload_n 2, 1) := by decide +kernel
theorem d_Pr_useDoneSteps_69 : decode prog_7_method_6_code 69 = .ok (.invokevirtual 41, 3) := by decide +kernel
theorem d_Pr_useDoneSteps_72 : decode prog_7_method_6_code 72 = .ok (.invokevirtual 48, 3) := by decide +kernel
theorem d_Pr_useDoneSteps_75 : decode prog_7_method_6_code 75 = .ok (.iinc 2 (-1), 3) := by decide +kernel
theorem d_Pr_useDoneSteps_78 : decode prog_7_method_6_code 78 = .ok (.goto (-66), 3) := by decide +kernel
theorem d_Pr_useDoneSteps_81 : decode prog_7_method_6_code 81 = .ok (.return_, 1) := by decide +kernel
def wp_Pr_useDoneSteps_L12 (z_this : T_Pr) (z_this_nodes : T_Nd) (K : T_Nm → Int32 → Int32 → Prop) (post : Unit → T_Nm → Prop) : Nat → T_Nm → Int32 → Int32 → Prop
  | 0, _, _, _ => False
  | n9 + 1, z_this_names, x1, x2 => (x2 < 0 → (K z_this_names x1 x2)) ∧ (¬ x2 < 0 → (wp_Nd_kindOf z_this_nodes x2 (fun (r2 : Int32) (u2 : Unit) => (r2 = (24 : Int32) → (wp_Nd_subjectOf z_this_nodes x2 (fun (r5 : Int32) (u5 : Unit) => wp_Nm_isUsed z_this_names r5 (fun (r6 : Int32) (u6 : Unit) => wp_Pr_useDoneSteps_L12 z_this z_this_nodes K post n9 z_this_names r6 (x2 + (-1 : Int32)))))) ∧ (¬ r2 = (24 : Int32) → ((r2 = (19 : Int32) → ((x1 = 0 → (wp_Pr_useDoneSteps_L12 z_this z_this_nodes K post n9 z_this_names x1 (x2 + (-1 : Int32)))) ∧ (¬ x1 = 0 → (wp_Nd_subjectOf z_this_nodes x2 (fun (r3 : Int32) (u3 : Unit) => wp_Nm_use z_this_names r3 (fun (r4 : Unit) (u4 : T_Nm) => wp_Pr_useDoneSteps_L12 z_this z_this_nodes K post n9 u4 x1 (x2 + (-1 : Int32)))))))) ∧ (¬ r2 = (19 : Int32) → (wp_Pr_useDoneSteps_L12 z_this z_this_nodes K post n9 z_this_names x1 (x2 + (-1 : Int32)))))))))
def wp_Pr_useDoneSteps (z_this : T_Pr) (z_this_names : T_Nm) (z_this_nodes : T_Nd) (post : Unit → T_Nm → Prop) : Prop := wp_Nd_count z_this_nodes (fun (r1 : Int32) (u1 : Unit) => ∃ k9 : Nat, wp_Pr_useDoneSteps_L12 z_this z_this_nodes (fun (z_this_names : T_Nm) (x1 : Int32) (x2 : Int32) => post () z_this_names) post k9 z_this_names (1 : Int32) (r1 - (1 : Int32)))
def rm_Pr_useDoneSteps : Room := { frames := 3, cells := 0, slots := 0, locals := 63 }
set_option maxHeartbeats 4000000 in
set_option maxRecDepth 100000 in
theorem t_Pr_useDoneSteps_L12 {p : Program} {l : Launch} {o : State × Array Value} {e : Env} {s : State} {m : MethodId} {args : Array Value} {below : List Frame} {meth : Method} {c : Code} {D : va_G} {k : Nat → ClassId} {w0 : va_W} {A : Nat → Prop} {ad_this : Nat → Nat} {ad_this_names : Nat → Nat} {ad_this_nodes : Nat → Nat} {z_this : T_Pr} {z_this_nodes : T_Nd} {post : Unit → T_Nm → Prop} (hAt : xq_At p s m args meth c prog_7_method_6_code 4 none y_Pr_useDoneSteps xq_W) (hK : va_K D vwCl (xt k) s) (hJ : xq_J l o A s s.heap) (hAe : va_A w0 s.heap.size = A) (hA : ∀ q, s.heap.size ≤ q → A q) {K : T_Nm → Int32 → Int32 → Prop} (hX : ∀ (z_this_names : T_Nm) (x1 : Int32) (x2 : Int32) (H : Heap) (locs : List Loc) (ls : Array Slot), lv_has ls 4 [(0, .ref (ad_this 0)), (1, .int x1), (2, .int x2)] → va_P D vwCl (w_Pr k ad_this (ad_this_names 0) (ad_this_nodes 0) z_this ++ w_Nm k ad_this_names z_this_names ++ w_Nd k ad_this_nodes z_this_nodes) H → va_D A (w_Pr k ad_this (ad_this_names 0) (ad_this_nodes 0) z_this ++ w_Nm k ad_this_names z_this_names ++ w_Nd k ad_this_nodes z_this_nodes) → va_S A s.heap H locs → K z_this_names x1 x2 → W p l e rm_Pr_useDoneSteps s m args below meth c H locs 0 0 (xq_Z below D vwCl (xt k) w0 (fun _ : Unit => none) post (fun _ : T_Nm => False) (fun u : T_Nm => w_Pr k ad_this (ad_this_names 0) (ad_this_nodes 0) z_this ++ w_Nm k ad_this_names u ++ w_Nd k ad_this_nodes z_this_nodes) 0 0 0 0 s) (F0 m 81 ls [])) :
    ∀ (n9 : Nat) (z_this_names : T_Nm) (x1 : Int32) (x2 : Int32) (H : Heap) (locs : List Loc) (ls : Array Slot), lv_has ls 4 [(0, .ref (ad_this 0)), (1, .int x1), (2, .int x2)] → va_P D vwCl (w_Pr k ad_this (ad_this_names 0) (ad_this_nodes 0) z_this ++ w_Nm k ad_this_names z_this_names ++ w_Nd k ad_this_nodes z_this_nodes) H → va_D A (w_Pr k ad_this (ad_this_names 0) (ad_this_nodes 0) z_this ++ w_Nm k ad_this_names z_this_names ++ w_Nd k ad_this_nodes z_this_nodes) → va_S A s.heap H locs → wp_Pr_useDoneSteps_L12 z_this z_this_nodes K post n9 z_this_names x1 x2 → W p l e rm_Pr_useDoneSteps s m args below meth c H locs 0 0 (xq_Z below D vwCl (xt k) w0 (fun _ : Unit => none) post (fun _ : T_Nm => False) (fun u : T_Nm => w_Pr k ad_this (ad_this_names 0) (ad_this_nodes 0) z_this ++ w_Nm k ad_this_names u ++ w_Nd k ad_this_nodes z_this_nodes) 0 0 0 0 s) (F0 m 12 ls []) := by
  obtain ⟨hx, hb, hml, hr, hlocks, hown, hts, hex, hnm⟩ := id hAt
  intro n9
  induction n9 with
  | zero => intro z_this_names x1 x2 H locs ls hl hP hD hS hw; exact False.elim (by rw [wp_Pr_useDoneSteps_L12] at hw; exact hw)
  | succ n9 ih =>
    intro z_this_names x1 x2 H locs ls hl hP hD hS hw
    rw [wp_Pr_useDoneSteps_L12] at hw
    refine lv_iload_n hx hb d_Pr_useDoneSteps_12 rfl (lv_at hl 2 rfl) ?_
    refine lv_if_lt (tgt := 81) hx hb d_Pr_useDoneSteps_13 (by decide) (fun hc => ?_) (fun hc => ?_)
    · have hw := hw.1 hc
      exact hX z_this_names x1 x2 H locs ls (lv_sub hl [0, 1, 2] rfl) hP hD hS hw
    · have hw := hw.2 hc
      refine lv_aload_n hx hb d_Pr_useDoneSteps_16 rfl (lv_at hl 0 rfl) ?_
      refine va_get (D := D) (ci := 5) (v := .ref (ad_this_nodes 0)) (C := R_Pr) (T := F_Pr) (N := 2) hx hb hts in_Pr hown hK hP 0 rfl rfl 1 (by decide) (hts (.fieldLink R_Pr 19 R_Pr "nodes" "LStepText$Nodes;") kw1_227) (fun _ h9 => h9) rfl d_Pr_useDoneSteps_17 ?_
      refine lv_iload_n hx hb d_Pr_useDoneSteps_20 rfl (lv_at hl 2 rfl) ?_
      refine xq_go (wr := w_Pr k ad_this (ad_this_names 0) (ad_this_nodes 0) z_this ++ w_Nm k ad_this_names z_this_names) (stk := fun r => .int r :: []) (xq_runV (As := [.int x2]) (rest := []) ⟨hx, hb, hml, hown, hts⟩ (c_Nd_kindOf (l := l) (o := o) (D := D) (k := k) (ad_this := ad_this_nodes) hw) (cw_Nd_kindOf hts kw3_155 ⟨Nat.le_of_ble_eq_true rfl, Nat.le_of_ble_eq_true rfl⟩) (va_recv hK hP (ci := 4) (q0 := 6) rfl rfl) (hP.sub [6, 7, 8, 9, 10, 11, 12, 13, 14, 15, 16] rfl) hK hJ hS (va_free hD hS hA [6, 7, 8, 9, 10, 11, 12, 13, 14, 15, 16] rfl) ((hD.sub [6, 7, 8, 9, 10, 11, 12, 13, 14, 15, 16] (by decide) rfl).weaken (fun _ _ _ _ => trivial)) rfl hl.1 (Nat.le_of_ble_eq_true rfl) d_Pr_useDoneSteps_21 ⟨Nat.le_of_ble_eq_true rfl, Nat.le_of_ble_eq_true rfl⟩) hP hD hS hA [6, 7, 8, 9, 10, 11, 12, 13, 14, 15, 16] [0, 1, 2, 3, 4, 5] rfl rfl (by decide) (by decide) (fun _ => rfl) (fun r2 u2 H locs hw hP hD hS => ?_) (fun _ _ _ _ h9 => h9.elim)
      have hP : va_P D vwCl (w_Pr k ad_this (ad_this_names 0) (ad_this_nodes 0) z_this ++ w_Nm k ad_this_names z_this_names ++ w_Nd k ad_this_nodes z_this_nodes) H := hP.sub [0, 1, 2, 3, 4, 5, 6, 7, 8, 9, 10, 11, 12, 13, 14, 15, 16] rfl
      have hD : va_D A (w_Pr k ad_this (ad_this_names 0) (ad_this_nodes 0) z_this ++ w_Nm k ad_this_names z_this_names ++ w_Nd k ad_this_nodes z_this_nodes) := hD.sub [0, 1, 2, 3, 4, 5, 6, 7, 8, 9, 10, 11, 12, 13, 14, 15, 16] (by decide) rfl
      refine lv_istore_n (lv' := [(3, .int r2), (0, .ref (ad_this 0)), (1, .int x1), (2, .int x2)]) hx hb d_Pr_useDoneSteps_24 rfl hl (by decide) rfl (fun ls hl => ?_)
      refine lv_iload_n hx hb d_Pr_useDoneSteps_25 rfl (lv_at hl 0 rfl) ?_
      refine lv_bipush (v := (24 : Int32)) hx hb d_Pr_useDoneSteps_26 (by decide) ?_
      refine lv_icmp_ne (tgt := 50) hx hb d_Pr_useDoneSteps_28 (by decide) (fun hc => ?_) (fun hc => ?_)
      · have hw := hw.2 hc
        refine lv_iload_n hx hb d_Pr_useDoneSteps_50 rfl (lv_at hl 0 rfl) ?_
        refine lv_bipush (v := (19 : Int32)) hx hb d_Pr_useDoneSteps_51 (by decide) ?_
        refine lv_icmp_ne (tgt := 75) hx hb d_Pr_useDoneSteps_53 (by decide) (fun hc => ?_) (fun hc => ?_)
        · have hw := hw.2 hc
          refine lv_iinc (v := (x2 + (-1 : Int32))) (lv' := [(2, .int (x2 + (-1 : Int32))), (3, .int r2), (0, .ref (ad_this 0)), (1, .int x1)]) hx hb d_Pr_useDoneSteps_75 hl (k := 3) rfl rfl (by decide) rfl (fun ls hl => ?_)
          refine lv_goto (tgt := 12) hx hb d_Pr_useDoneSteps_78 (by decide) ?_
          exact ih z_this_names x1 (x2 + (-1 : Int32)) H locs ls (lv_sub hl [2, 3, 0] rfl) hP hD hS hw
        · have hw := hw.1 hc
          refine lv_iload_n hx hb d_Pr_useDoneSteps_56 rfl (lv_at hl 2 rfl) ?_
          refine lv_if_eq (tgt := 75) hx hb d_Pr_useDoneSteps_57 (by decide) (fun hc => ?_) (fun hc => ?_)
          · have hw := hw.1 hc
            refine lv_iinc (v := (x2 + (-1 : Int32))) (lv' := [(2, .int (x2 + (-1 : Int32))), (3, .int r2), (0, .ref (ad_this 0)), (1, .int x1)]) hx hb d_Pr_useDoneSteps_75 hl (k := 3) rfl rfl (by decide) rfl (fun ls hl => ?_)
            refine lv_goto (tgt := 12) hx hb d_Pr_useDoneSteps_78 (by decide) ?_
            exact ih z_this_names x1 (x2 + (-1 : Int32)) H locs ls (lv_sub hl [2, 3, 0] rfl) hP hD hS hw
          · have hw := hw.2 hc
            refine lv_aload_n hx hb d_Pr_useDoneSteps_60 rfl (lv_at hl 1 rfl) ?_
            refine va_get (D := D) (ci := 5) (v := .ref (ad_this_names 0)) (C := R_Pr) (T := F_Pr) (N := 2) hx hb hts in_Pr hown hK hP 0 rfl rfl 0 (by decide) (hts (.fieldLink R_Pr 10 R_Pr "names" "LStepText$Names;") kw1_226) (fun _ h9 => h9) rfl d_Pr_useDoneSteps_61 ?_
            refine lv_aload_n hx hb d_Pr_useDoneSteps_64 rfl (lv_at hl 1 rfl) ?_
            refine va_get (D := D) (ci := 5) (v := .ref (ad_this_nodes 0)) (C := R_Pr) (T := F_Pr) (N := 2) hx hb hts in_Pr hown hK hP 0 rfl rfl 1 (by decide) (hts (.fieldLink R_Pr 19 R_Pr "nodes" "LStepText$Nodes;") kw1_227) (fun _ h9 => h9) rfl d_Pr_useDoneSteps_65 ?_
            refine lv_iload_n hx hb d_Pr_useDoneSteps_68 rfl (lv_at hl 3 rfl) ?_
            refine xq_go (wr := w_Pr k ad_this (ad_this_names 0) (ad_this_nodes 0) z_this ++ w_Nm k ad_this_names z_this_names) (stk := fun r => .int r :: [.ref (ad_this_names 0)]) (xq_runV (As := [.int x2]) (rest := [.ref (ad_this_names 0)]) ⟨hx, hb, hml, hown, hts⟩ (c_Nd_subjectOf (l := l) (o := o) (D := D) (k := k) (ad_this := ad_this_nodes) hw) (cw_Nd_subjectOf hts kw3_159 ⟨Nat.le_of_ble_eq_true rfl, Nat.le_of_ble_eq_true rfl⟩) (va_recv hK hP (ci := 4) (q0 := 6) rfl rfl) (hP.sub [6, 7, 8, 9, 10, 11, 12, 13, 14, 15, 16] rfl) hK hJ hS (va_free hD hS hA [6, 7, 8, 9, 10, 11, 12, 13, 14, 15, 16] rfl) ((hD.sub [6, 7, 8, 9, 10, 11, 12, 13, 14, 15, 16] (by decide) rfl).weaken (fun _ _ _ _ => trivial)) rfl hl.1 (Nat.le_of_ble_eq_true rfl) d_Pr_useDoneSteps_69 ⟨Nat.le_of_ble_eq_true rfl, Nat.le_of_ble_eq_true rfl⟩) hP hD hS hA [6, 7, 8, 9, 10, 11, 12, 13, 14, 15, 16] [0, 1, 2, 3, 4, 5] rfl rfl (by decide) (by decide) (fun _ => rfl) (fun r3 u3 H locs hw hP hD hS => ?_) (fun _ _ _ _ h9 => h9.elim)
            have hP : va_P D vwCl (w_Pr k ad_this (ad_this_names 0) (ad_this_nodes 0) z_this ++ w_Nm k ad_this_names z_this_names ++ w_Nd k ad_this_nodes z_this_nodes) H := hP.sub [0, 1, 2, 3, 4, 5, 6, 7, 8, 9, 10, 11, 12, 13, 14, 15, 16] rfl
            have hD : va_D A (w_Pr k ad_this (ad_this_names 0) (ad_this_nodes 0) z_this ++ w_Nm k ad_this_names z_this_names ++ w_Nd k ad_this_nodes z_this_nodes) := hD.sub [0, 1, 2, 3, 4, 5, 6, 7, 8, 9, 10, 11, 12, 13, 14, 15, 16] (by decide) rfl
            refine xq_go (wr := w_Pr k ad_this (ad_this_names 0) (ad_this_nodes 0) z_this ++ w_Nd k ad_this_nodes z_this_nodes) (stk := fun _ => []) (xq_runV (As := [.int r3]) (rest := []) ⟨hx, hb, hml, hown, hts⟩ (c_Nm_use (l := l) (o := o) (D := D) (k := k) (ad_this := ad_this_names) hw) (cw_Nm_use hts kw3_172 ⟨Nat.le_of_ble_eq_true rfl, Nat.le_of_ble_eq_true rfl⟩) (va_recv hK hP (ci := 3) (q0 := 1) rfl rfl) (hP.sub [1, 2, 3, 4, 5] rfl) hK hJ hS (va_free hD hS hA [1, 2, 3, 4, 5] rfl) ((hD.sub [1, 2, 3, 4, 5] (by decide) rfl).weaken (fun _ _ _ _ => trivial)) rfl hl.1 (Nat.le_of_ble_eq_true rfl) d_Pr_useDoneSteps_72 ⟨Nat.le_of_ble_eq_true rfl, Nat.le_of_ble_eq_true rfl⟩) hP hD hS hA [1, 2, 3, 4, 5] [0, 6, 7, 8, 9, 10, 11, 12, 13, 14, 15, 16] rfl rfl (by decide) (by decide) (fun _ => rfl) (fun r4 u4 H locs hw hP hD hS => ?_) (fun _ _ _ _ h9 => h9.elim)
            have hP : va_P D vwCl (w_Pr k ad_this (ad_this_names 0) (ad_this_nodes 0) z_this ++ w_Nm k ad_this_names u4 ++ w_Nd k ad_this_nodes z_this_nodes) H := hP.sub [0, 12, 13, 14, 15, 16, 1, 2, 3, 4, 5, 6, 7, 8, 9, 10, 11] rfl
            have hD : va_D A (w_Pr k ad_this (ad_this_names 0) (ad_this_nodes 0) z_this ++ w_Nm k ad_this_names u4 ++ w_Nd k ad_this_nodes z_this_nodes) := hD.sub [0, 12, 13, 14, 15, 16, 1, 2, 3, 4, 5, 6, 7, 8, 9, 10, 11] (by decide) rfl
            refine lv_iinc (v := (x2 + (-1 : Int32))) (lv' := [(2, .int (x2 + (-1 : Int32))), (3, .int r2), (0, .ref (ad_this 0)), (1, .int x1)]) hx hb d_Pr_useDoneSteps_75 hl (k := 3) rfl rfl (by decide) rfl (fun ls hl => ?_)
            refine lv_goto (tgt := 12) hx hb d_Pr_useDoneSteps_78 (by decide) ?_
            exact ih u4 x1 (x2 + (-1 : Int32)) H locs ls (lv_sub hl [2, 3, 0] rfl) hP hD hS hw
      · have hw := hw.1 hc
        refine lv_aload_n hx hb d_Pr_useDoneSteps_31 rfl (lv_at hl 1 rfl) ?_
        refine va_get (D := D) (ci := 5) (v := .ref (ad_this_names 0)) (C := R_Pr) (T := F_Pr) (N := 2) hx hb hts in_Pr hown hK hP 0 rfl rfl 0 (by decide) (hts (.fieldLink R_Pr 10 R_Pr "names" "LStepText$Names;") kw1_226) (fun _ h9 => h9) rfl d_Pr_useDoneSteps_32 ?_
        refine lv_aload_n hx hb d_Pr_useDoneSteps_35 rfl (lv_at hl 1 rfl) ?_
        refine va_get (D := D) (ci := 5) (v := .ref (ad_this_nodes 0)) (C := R_Pr) (T := F_Pr) (N := 2) hx hb hts in_Pr hown hK hP 0 rfl rfl 1 (by decide) (hts (.fieldLink R_Pr 19 R_Pr "nodes" "LStepText$Nodes;") kw1_227) (fun _ h9 => h9) rfl d_Pr_useDoneSteps_36 ?_
        refine lv_iload_n hx hb d_Pr_useDoneSteps_39 rfl (lv_at hl 3 rfl) ?_
        refine xq_go (wr := w_Pr k ad_this (ad_this_names 0) (ad_this_nodes 0) z_this ++ w_Nm k ad_this_names z_this_names) (stk := fun r => .int r :: [.ref (ad_this_names 0)]) (xq_runV (As := [.int x2]) (rest := [.ref (ad_this_names 0)]) ⟨hx, hb, hml, hown, hts⟩ (c_Nd_subjectOf (l := l) (o := o) (D := D) (k := k) (ad_this := ad_this_nodes) hw) (cw_Nd_subjectOf hts kw3_159 ⟨Nat.le_of_ble_eq_true rfl, Nat.le_of_ble_eq_true rfl⟩) (va_recv hK hP (ci := 4) (q0 := 6) rfl rfl) (hP.sub [6, 7, 8, 9, 10, 11, 12, 13, 14, 15, 16] rfl) hK hJ hS (va_free hD hS hA [6, 7, 8, 9, 10, 11, 12, 13, 14, 15, 16] rfl) ((hD.sub [6, 7, 8, 9, 10, 11, 12, 13, 14, 15, 16] (by decide) rfl).weaken (fun _ _ _ _ => trivial)) rfl hl.1 (Nat.le_of_ble_eq_true rfl) d_Pr_useDoneSteps_40 ⟨Nat.le_of_ble_eq_true rfl, Nat.le_of_ble_eq_true rfl⟩) hP hD hS hA [6, 7, 8, 9, 10, 11, 12, 13, 14, 15, 16] [0, 1, 2, 3, 4, 5] rfl rfl (by decide) (by decide) (fun _ => rfl) (fun r5 u5 H locs hw hP hD hS => ?_) (fun _ _ _ _ h9 => h9.elim)
        have hP : va_P D vwCl (w_Pr k ad_this (ad_this_names 0) (ad_this_nodes 0) z_this ++ w_Nm k ad_this_names z_this_names ++ w_Nd k ad_this_nodes z_this_nodes) H := hP.sub [0, 1, 2, 3, 4, 5, 6, 7, 8, 9, 10, 11, 12, 13, 14, 15, 16] rfl
        have hD : va_D A (w_Pr k ad_this (ad_this_names 0) (ad_this_nodes 0) z_this ++ w_Nm k ad_this_names z_this_names ++ w_Nd k ad_this_nodes z_this_nodes) := hD.sub [0, 1, 2, 3, 4, 5, 6, 7, 8, 9, 10, 11, 12, 13, 14, 15, 16] (by decide) rfl
        refine xq_go (wr := w_Pr k ad_this (ad_this_names 0) (ad_this_nodes 0) z_this ++ w_Nd k ad_this_nodes z_this_nodes) (stk := fun r => .int r :: []) (xq_runV (As := [.int r5]) (rest := []) ⟨hx, hb, hml, hown, hts⟩ (c_Nm_isUsed (l := l) (o := o) (D := D) (k := k) (ad_this := ad_this_names) hw) (cw_Nm_isUsed hts kw3_168 ⟨Nat.le_of_ble_eq_true rfl, Nat.le_of_ble_eq_true rfl⟩) (va_recv hK hP (ci := 3) (q0 := 1) rfl rfl) (hP.sub [1, 2, 3, 4, 5] rfl) hK hJ hS (va_free hD hS hA [1, 2, 3, 4, 5] rfl) ((hD.sub [1, 2, 3, 4, 5] (by decide) rfl).weaken (fun _ _ _ _ => trivial)) rfl hl.1 (Nat.le_of_ble_eq_true rfl) d_Pr_useDoneSteps_43 ⟨Nat.le_of_ble_eq_true rfl, Nat.le_of_ble_eq_true rfl⟩) hP hD hS hA [1, 2, 3, 4, 5] [0, 6, 7, 8, 9, 10, 11, 12, 13, 14, 15, 16] rfl rfl (by decide) (by decide) (fun _ => rfl) (fun r6 u6 H locs hw hP hD hS => ?_) (fun _ _ _ _ h9 => h9.elim)
        have hP : va_P D vwCl (w_Pr k ad_this (ad_this_names 0) (ad_this_nodes 0) z_this ++ w_Nm k ad_this_names z_this_names ++ w_Nd k ad_this_nodes z_this_nodes) H := hP.sub [0, 12, 13, 14, 15, 16, 1, 2, 3, 4, 5, 6, 7, 8, 9, 10, 11] rfl
        have hD : va_D A (w_Pr k ad_this (ad_this_names 0) (ad_this_nodes 0) z_this ++ w_Nm k ad_this_names z_this_names ++ w_Nd k ad_this_nodes z_this_nodes) := hD.sub [0, 12, 13, 14, 15, 16, 1, 2, 3, 4, 5, 6, 7, 8, 9, 10, 11] (by decide) rfl
        refine lv_istore_n (lv' := [(1, .int r6), (3, .int r2), (0, .ref (ad_this 0)), (2, .int x2)]) hx hb d_Pr_useDoneSteps_46 rfl hl (by decide) rfl (fun ls hl => ?_)
        refine lv_goto (tgt := 75) hx hb d_Pr_useDoneSteps_47 (by decide) ?_
        refine lv_iinc (v := (x2 + (-1 : Int32))) (lv' := [(2, .int (x2 + (-1 : Int32))), (1, .int r6), (3, .int r2), (0, .ref (ad_this 0))]) hx hb d_Pr_useDoneSteps_75 hl (k := 3) rfl rfl (by decide) rfl (fun ls hl => ?_)
        refine lv_goto (tgt := 12) hx hb d_Pr_useDoneSteps_78 (by decide) ?_
        exact ih z_this_names r6 (x2 + (-1 : Int32)) H locs ls (lv_sub hl [3, 1, 0] rfl) hP hD hS hw
set_option maxHeartbeats 4000000 in
set_option maxRecDepth 100000 in
theorem c_Pr_useDoneSteps {l : Launch} {o : State × Array Value} {D : va_G} {k : Nat → ClassId} {ad_this : Nat → Nat} {ad_this_names : Nat → Nat} {ad_this_nodes : Nat → Nat} {z_this : T_Pr} {z_this_names : T_Nm} {z_this_nodes : T_Nd} {post : Unit → T_Nm → Prop} (hw : wp_Pr_useDoneSteps z_this z_this_names z_this_nodes post) : xq_C l o y_Pr_useDoneSteps (.code y_Pr_useDoneSteps prog_7_method_6_code 4 none :: xq_W) rm_Pr_useDoneSteps D vwCl (xt k) [.ref (ad_this 0)] (w_Pr k ad_this (ad_this_names 0) (ad_this_nodes 0) z_this ++ w_Nm k ad_this_names z_this_names ++ w_Nd k ad_this_nodes z_this_nodes) (fun _ : Unit => none) post (fun _ : T_Nm => False) (fun u : T_Nm => w_Pr k ad_this (ad_this_names 0) (ad_this_nodes 0) z_this ++ w_Nm k ad_this_names u ++ w_Nd k ad_this_nodes z_this_nodes) 0 0 0 0 := by
  refine xq_ofW (cc := prog_7_method_6_code) (maxL := 4) (ret := none) (by decide) rfl (Nat.le_of_ble_eq_true rfl) ?_
  intro p e s m below meth c ls H locs A hAt hAe hA hl hK hJ hP0 hP hD hS
  obtain ⟨hx, hb, hml, hr, hlocks, hown, hts, hex, hnm⟩ := id hAt
  have hl : lv_has ls 4 [(0, .ref (ad_this 0))] := hl
  unfold wp_Pr_useDoneSteps at hw
  refine lv_iconst (v := (1 : Int32)) hx hb d_Pr_useDoneSteps_0 (by decide) ?_
  refine lv_istore_n (lv' := [(1, .int (1 : Int32)), (0, .ref (ad_this 0))]) hx hb d_Pr_useDoneSteps_1 rfl hl (by decide) rfl (fun ls hl => ?_)
  refine lv_aload_n hx hb d_Pr_useDoneSteps_2 rfl (lv_at hl 1 rfl) ?_
  refine va_get (D := D) (ci := 5) (v := .ref (ad_this_nodes 0)) (C := R_Pr) (T := F_Pr) (N := 2) hx hb hts in_Pr hown hK hP 0 rfl rfl 1 (by decide) (hts (.fieldLink R_Pr 19 R_Pr "nodes" "LStepText$Nodes;") kw1_227) (fun _ h9 => h9) rfl d_Pr_useDoneSteps_3 ?_
  refine xq_go (wr := w_Pr k ad_this (ad_this_names 0) (ad_this_nodes 0) z_this ++ w_Nm k ad_this_names z_this_names) (stk := fun r => .int r :: []) (xq_runV (As := []) (rest := []) ⟨hx, hb, hml, hown, hts⟩ (c_Nd_count (l := l) (o := o) (D := D) (k := k) (ad_this := ad_this_nodes) hw) (cw_Nd_count hts kw3_154 ⟨Nat.le_of_ble_eq_true rfl, Nat.le_of_ble_eq_true rfl⟩) (va_recv hK hP (ci := 4) (q0 := 6) rfl rfl) (hP.sub [6, 7, 8, 9, 10, 11, 12, 13, 14, 15, 16] rfl) hK hJ hS (va_free hD hS hA [6, 7, 8, 9, 10, 11, 12, 13, 14, 15, 16] rfl) ((hD.sub [6, 7, 8, 9, 10, 11, 12, 13, 14, 15, 16] (by decide) rfl).weaken (fun _ _ _ _ => trivial)) rfl hl.1 (Nat.le_of_ble_eq_true rfl) d_Pr_useDoneSteps_6 ⟨Nat.le_of_ble_eq_true rfl, Nat.le_of_ble_eq_true rfl⟩) hP hD hS hA [6, 7, 8, 9, 10, 11, 12, 13, 14, 15, 16] [0, 1, 2, 3, 4, 5] rfl rfl (by decide) (by decide) (fun _ => rfl) (fun r1 u1 H locs hw hP hD hS => ?_) (fun _ _ _ _ h9 => h9.elim)
  have hP : va_P D vwCl (w_Pr k ad_this (ad_this_names 0) (ad_this_nodes 0) z_this ++ w_Nm k ad_this_names z_this_names ++ w_Nd k ad_this_nodes z_this_nodes) H := hP.sub [0, 1, 2, 3, 4, 5, 6, 7, 8, 9, 10, 11, 12, 13, 14, 15, 16] rfl
  have hD : va_D A (w_Pr k ad_this (ad_this_names 0) (ad_this_nodes 0) z_this ++ w_Nm k ad_this_names z_this_names ++ w_Nd k ad_this_nodes z_this_nodes) := hD.sub [0, 1, 2, 3, 4, 5, 6, 7, 8, 9, 10, 11, 12, 13, 14, 15, 16] (by decide) rfl
  refine lv_iconst (v := (1 : Int32)) hx hb d_Pr_useDoneSteps_9 (by decide) ?_
  refine lv_isub hx hb d_Pr_useDoneSteps_10 ?_
  refine lv_istore_n (lv' := [(2, .int (r1 - (1 : Int32))), (1, .int (1 : Int32)), (0, .ref (ad_this 0))]) hx hb d_Pr_useDoneSteps_11 rfl hl (by decide) rfl (fun ls hl => ?_)
  obtain ⟨k9, hw⟩ := hw
  refine t_Pr_useDoneSteps_L12 hAt hK hJ hAe hA ?_ k9 z_this_names (1 : Int32) (r1 - (1 : Int32)) H locs ls (lv_sub hl [2, 1, 0] rfl) hP hD hS hw
  intro z_this_names x1 x2 H locs ls hl hP hD hS hw
  exact xq_vret (r := ()) (u := z_this_names) hx hb hr hlocks hAe hP hD hS rfl hw (Nat.le_of_ble_eq_true rfl) (Nat.le_of_ble_eq_true rfl) d_Pr_useDoneSteps_81
theorem cw_Pr_useDoneSteps {R : Room} {s : State} {args : Array Value} {own : String} {index : Nat} (hts : ∀ w ∈ xq_W, w.before args s = true) (hl : .methodLink own index y_Pr_useDoneSteps ∈ xq_W) {rm : Room} (hR : rm.frames + 1 ≤ R.frames ∧ 8 + (4 + 11) + rm.locals ≤ R.locals) : CallW R s args own "StepText$Program" index y_Pr_useDoneSteps prog_7_method_6_code 4 none (.code y_Pr_useDoneSteps prog_7_method_6_code 4 none :: xq_W) rm rm.cells rm.slots 0 := ⟨xq_cb 0 hts kw3_153 kw1_8 hl ⟨by decide, by decide, by decide +kernel⟩ hR, hts _ kw3_152, hts _ kp3_0⟩
def y_Pr_finish : MethodName := ⟨"StepText$Program", "finish", "()V"⟩
theorem d_Pr_finish_0 : decode prog_7_method_5_code 0 = .ok (.aload_n 0, 1) := by decide +kernel
theorem d_Pr_finish_1 : decode prog_7_method_5_code 1 = .ok (.getfield 19, 3) := by decide +kernel
theorem d_Pr_finish_4 : decode prog_7_method_5_code 4 = .ok (.invokevirtual 27, 3) := by decide +kernel
theorem d_Pr_finish_7 : decode prog_7_method_5_code 7 = .ok (.aload_n 0, 1) := by decide +kernel
theorem d_Pr_finish_8 : decode prog_7_method_5_code 8 = .ok (.invokevirtual 30, 3) := by decide +kernel
theorem d_Pr_finish_11 : decode prog_7_method_5_code 11 = .ok (.return_, 1) := by decide +kernel
def wp_Pr_finish (z_this : T_Pr) (z_this_names : T_Nm) (z_this_nodes : T_Nd) (post : Unit → T_Nm × T_Nd → Prop) : Prop := wp_Nd_finish z_this_nodes (fun (r1 : Unit) (u1 : T_Nd) => wp_Pr_useDoneSteps z_this z_this_names u1 (fun (r2 : Unit) (u2 : T_Nm) => post () (u2, u1)))
def rm_Pr_finish : Room := { frames := 4, cells := 0, slots := 0, locals := 86 }
set_option maxHeartbeats 4000000 in
set_option maxRecDepth 100000 in
theorem c_Pr_finish {l : Launch} {o : State × Array Value} {D : va_G} {k : Nat → ClassId} {ad_this : Nat → Nat} {ad_this_names : Nat → Nat} {ad_this_nodes : Nat → Nat} {z_this : T_Pr} {z_this_names : T_Nm} {z_this_nodes : T_Nd} {post : Unit → T_Nm × T_Nd → Prop} (hw : wp_Pr_finish z_this z_this_names z_this_nodes post) : xq_C l o y_Pr_finish (.code y_Pr_finish prog_7_method_5_code 1 none :: xq_W) rm_Pr_finish D vwCl (xt k) [.ref (ad_this 0)] (w_Pr k ad_this (ad_this_names 0) (ad_this_nodes 0) z_this ++ w_Nm k ad_this_names z_this_names ++ w_Nd k ad_this_nodes z_this_nodes) (fun _ : Unit => none) post (fun _ : T_Nm × T_Nd => False) (fun u : T_Nm × T_Nd => w_Pr k ad_this (ad_this_names 0) (ad_this_nodes 0) z_this ++ w_Nm k ad_this_names u.1 ++ w_Nd k ad_this_nodes u.2) 0 0 0 0 := by
  refine xq_ofW (cc := prog_7_method_5_code) (maxL := 1) (ret := none) (by decide) rfl (Nat.le_of_ble_eq_true rfl) ?_
  intro p e s m below meth c ls H locs A hAt hAe hA hl hK hJ hP0 hP hD hS
  obtain ⟨hx, hb, hml, hr, hlocks, hown, hts, hex, hnm⟩ := id hAt
  have hl : lv_has ls 1 [(0, .ref (ad_this 0))] := hl
  unfold wp_Pr_finish at hw
  refine lv_aload_n hx hb d_Pr_finish_0 rfl (lv_at hl 0 rfl) ?_
  refine va_get (D := D) (ci := 5) (v := .ref (ad_this_nodes 0)) (C := R_Pr) (T := F_Pr) (N := 2) hx hb hts in_Pr hown hK hP 0 rfl rfl 1 (by decide) (hts (.fieldLink R_Pr 19 R_Pr "nodes" "LStepText$Nodes;") kw1_227) (fun _ h9 => h9) rfl d_Pr_finish_1 ?_
  refine xq_go (wr := w_Pr k ad_this (ad_this_names 0) (ad_this_nodes 0) z_this ++ w_Nm k ad_this_names z_this_names) (stk := fun _ => []) (xq_runV (As := []) (rest := []) ⟨hx, hb, hml, hown, hts⟩ (c_Nd_finish (l := l) (o := o) (D := D) (k := k) (ad_this := ad_this_nodes) hw) (cw_Nd_finish hts kw3_146 ⟨Nat.le_of_ble_eq_true rfl, Nat.le_of_ble_eq_true rfl⟩) (va_recv hK hP (ci := 4) (q0 := 6) rfl rfl) (hP.sub [6, 7, 8, 9, 10, 11, 12, 13, 14, 15, 16] rfl) hK hJ hS (va_free hD hS hA [6, 7, 8, 9, 10, 11, 12, 13, 14, 15, 16] rfl) ((hD.sub [6, 7, 8, 9, 10, 11, 12, 13, 14, 15, 16] (by decide) rfl).weaken (fun _ _ _ _ => trivial)) rfl hl.1 (Nat.le_of_ble_eq_true rfl) d_Pr_finish_4 ⟨Nat.le_of_ble_eq_true rfl, Nat.le_of_ble_eq_true rfl⟩) hP hD hS hA [6, 7, 8, 9, 10, 11, 12, 13, 14, 15, 16] [0, 1, 2, 3, 4, 5] rfl rfl (by decide) (by decide) (fun _ => rfl) (fun r1 u1 H locs hw hP hD hS => ?_) (fun _ _ _ _ h9 => h9.elim)
  have hP : va_P D vwCl (w_Pr k ad_this (ad_this_names 0) (ad_this_nodes 0) z_this ++ w_Nm k ad_this_names z_this_names ++ w_Nd k ad_this_nodes u1) H := hP.sub [0, 1, 2, 3, 4, 5, 6, 7, 8, 9, 10, 11, 12, 13, 14, 15, 16] rfl
  have hD : va_D A (w_Pr k ad_this (ad_this_names 0) (ad_this_nodes 0) z_this ++ w_Nm k ad_this_names z_this_names ++ w_Nd k ad_this_nodes u1) := hD.sub [0, 1, 2, 3, 4, 5, 6, 7, 8, 9, 10, 11, 12, 13, 14, 15, 16] (by decide) rfl
  refine lv_aload_n hx hb d_Pr_finish_7 rfl (lv_at hl 0 rfl) ?_
  refine xq_go (wr := ([] : va_W)) (stk := fun _ => []) (xq_runV (As := []) (rest := []) ⟨hx, hb, hml, hown, hts⟩ (c_Pr_useDoneSteps (l := l) (o := o) (D := D) (k := k) (ad_this := ad_this) (ad_this_names := ad_this_names) (ad_this_nodes := ad_this_nodes) hw) (cw_Pr_useDoneSteps hts kw3_150 ⟨Nat.le_of_ble_eq_true rfl, Nat.le_of_ble_eq_true rfl⟩) (va_recv hK hP (ci := 5) (q0 := 0) rfl rfl) (hP.sub [0, 1, 2, 3, 4, 5, 6, 7, 8, 9, 10, 11, 12, 13, 14, 15, 16] rfl) hK hJ hS (va_free hD hS hA [0, 1, 2, 3, 4, 5, 6, 7, 8, 9, 10, 11, 12, 13, 14, 15, 16] rfl) ((hD.sub [0, 1, 2, 3, 4, 5, 6, 7, 8, 9, 10, 11, 12, 13, 14, 15, 16] (by decide) rfl).weaken (fun _ _ _ _ => trivial)) rfl hl.1 (Nat.le_of_ble_eq_true rfl) d_Pr_finish_8 ⟨Nat.le_of_ble_eq_true rfl, Nat.le_of_ble_eq_true rfl⟩) hP hD hS hA [0, 1, 2, 3, 4, 5, 6, 7, 8, 9, 10, 11, 12, 13, 14, 15, 16] [] rfl rfl (by decide) (by decide) (fun _ => rfl) (fun r2 u2 H locs hw hP hD hS => ?_) (fun _ _ _ _ h9 => h9.elim)
  have hP : va_P D vwCl (w_Pr k ad_this (ad_this_names 0) (ad_this_nodes 0) z_this ++ w_Nm k ad_this_names u2 ++ w_Nd k ad_this_nodes u1) H := hP.sub [0, 1, 2, 3, 4, 5, 6, 7, 8, 9, 10, 11, 12, 13, 14, 15, 16] rfl
  have hD : va_D A (w_Pr k ad_this (ad_this_names 0) (ad_this_nodes 0) z_this ++ w_Nm k ad_this_names u2 ++ w_Nd k ad_this_nodes u1) := hD.sub [0, 1, 2, 3, 4, 5, 6, 7, 8, 9, 10, 11, 12, 13, 14, 15, 16] (by decide) rfl
  exact xq_vret (r := ()) (u := (u2, u1)) hx hb hr hlocks hAe hP hD hS rfl hw (Nat.le_of_ble_eq_true rfl) (Nat.le_of_ble_eq_true rfl) d_Pr_finish_11
theorem cw_Pr_finish {R : Room} {s : State} {args : Array Value} {own : String} {index : Nat} (hts : ∀ w ∈ xq_W, w.before args s = true) (hl : .methodLink own index y_Pr_finish ∈ xq_W) {rm : Room} (hR : rm.frames + 1 ≤ R.frames ∧ 8 + (1 + 11) + rm.locals ≤ R.locals) : CallW R s args own "StepText$Program" index y_Pr_finish prog_7_method_5_code 1 none (.code y_Pr_finish prog_7_method_5_code 1 none :: xq_W) rm rm.cells rm.slots 0 := ⟨xq_cb 0 hts kw3_145 kw1_8 hl ⟨by decide, by decide, by decide +kernel⟩ hR, hts _ kw3_143, hts _ kw3_144⟩
