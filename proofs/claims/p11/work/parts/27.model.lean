theorem kw5_239 : (Jvm.Cond.code ({ cls := "StepTextModel", name := "reach", desc := "(I)V" } : Jvm.MethodName) prog_10_method_44_code (3 : Nat) (Option.none : Option Jvm.ClassFile.FieldType)) ∈ xq_W := xq_in tb_5 239 rfl rfl
theorem kw5_238 : (Jvm.Cond.instanceMethod ({ cls := "StepTextModel", name := "reach", desc := "(I)V" } : Jvm.MethodName)) ∈ xq_W := xq_in tb_5 238 (by decide +kernel) rfl
theorem kp6_2 : Cond.selects "StepTextModel" (⟨"StepTextModel", "reach", "(I)V"⟩ : MethodName) (⟨"StepTextModel", "reach", "(I)V"⟩ : MethodName) ∈ xq_W := xq_inp tp_6 (y := (⟨"StepTextModel", "reach", "(I)V"⟩ : MethodName)) (k := 42) 2 (by decide +kernel)
theorem kw5_236 : (Jvm.Cond.methodLink "StepTextModel" (312 : Nat) ({ cls := "StepTextModel", name := "reach", desc := "(I)V" } : Jvm.MethodName)) ∈ xq_W := xq_in tb_5 236 (by decide +kernel) rfl
def y_Mo_reach : MethodName := ⟨"StepTextModel", "reach", "(I)V"⟩
theorem cw_Mo_reach {R : Room} {s : State} {args : Array Value} {own : String} {index : Nat} (hts : ∀ w ∈ xq_W, w.before args s = true) (hl : .methodLink own index y_Mo_reach ∈ xq_W) {rm : Room} (hR : rm.frames + 1 ≤ R.frames ∧ 8 + (3 + 11) + rm.locals ≤ R.locals) : CallW R s args own "StepTextModel" index y_Mo_reach prog_10_method_44_code 3 none (.code y_Mo_reach prog_10_method_44_code 3 none :: xq_W) rm rm.cells rm.slots 1 := ⟨xq_cb 1 hts kw5_239 kw1_13 hl ⟨by decide, by decide, by decide +kernel⟩ hR, hts _ kw5_238, hts _ kp6_2⟩
theorem d_Mo_reach_0 : decode prog_10_method_44_code 0 = .ok (.aload_n 0, 1) := by decide +kernel
theorem d_Mo_reach_1 : decode prog_10_method_44_code 1 = .ok (.getfield 13, 3) := by decide +kernel
theorem d_Mo_reach_4 : decode prog_10_method_44_code 4 = .ok (.aload_n 0, 1) := by decide +kernel
theorem d_Mo_reach_5 : decode prog_10_method_44_code 5 = .ok (.iload_n 1, 1) := by decide +kernel
theorem d_Mo_reach_6 : decode prog_10_method_44_code 6 = .ok (.invokevirtual 301, 3) := by decide +kernel
theorem d_Mo_reach_9 : decode prog_10_method_44_code 9 = .ok (.iaload, 1) := by decide +kernel
theorem d_Mo_reach_10 : decode prog_10_method_44_code 10 = .ok (.bipush 19, 2) := by decide +kernel
theorem d_Mo_reach_12 : decode prog_10_method_44_code 12 = .ok (.if_icmp .ne 49, 3) := by decide +kernel
theorem d_Mo_reach_15 : decode prog_10_method_44_code 15 = .ok (.aload_n 0, 1) := by decide +kernel
theorem d_Mo_reach_16 : decode prog_10_method_44_code 16 = .ok (.getfield 17, 3) := by decide +kernel
theorem d_Mo_reach_19 : decode prog_10_method_44_code 19 = .ok (.aload_n 0, 1) := by decide +kernel
theorem d_Mo_reach_20 : decode prog_10_method_44_code 20 = .ok (.iload_n 1, 1) := by decide +kernel
theorem d_Mo_reach_21 : decode prog_10_method_44_code 21 = .ok (.invokevirtual 301, 3) := by decide +kernel
theorem d_Mo_reach_24 : decode prog_10_method_44_code 24 = .ok (.laload, 1) := by decide +kernel
theorem d_Mo_reach_25 : decode prog_10_method_44_code 25 = .ok (.l2i, 1) := by decide +kernel
theorem d_Mo_reach_26 : decode prog_10_method_44_code 26 = .ok (.istore_n 2, 1) := by decide +kernel
theorem d_Mo_reach_27 : decode prog_10_method_44_code 27 = .ok (.aload_n 0, 1) := by decide +kernel
theorem d_Mo_reach_28 : decode prog_10_method_44_code 28 = .ok (.getfield 61, 3) := by decide +kernel
theorem d_Mo_reach_31 : decode prog_10_method_44_code 31 = .ok (.iload_n 2, 1) := by decide +kernel
theorem d_Mo_reach_32 : decode prog_10_method_44_code 32 = .ok (.baload, 1) := by decide +kernel
theorem d_Mo_reach_33 : decode prog_10_method_44_code 33 = .ok (.ifCond .ne 28, 3) := by decide +kernel
theorem d_Mo_reach_36 : decode prog_10_method_44_code 36 = .ok (.aload_n 0, 1) := by decide +kernel
theorem d_Mo_reach_37 : decode prog_10_method_44_code 37 = .ok (.getfield 61, 3) := by decide +kernel
theorem d_Mo_reach_40 : decode prog_10_method_44_code 40 = .ok (.iload_n 2, 1) := by decide +kernel
theorem d_Mo_reach_41 : decode prog_10_method_44_code 41 = .ok (.iconst 1, 1) := by decide +kernel
theorem d_Mo_reach_42 : decode prog_10_method_44_code 42 = .ok (.bastore, 1) := by decide +kernel
theorem d_Mo_reach_43 : decode prog_10_method_44_code 43 = .ok (.aload_n 0, 1) := by decide +kernel
theorem d_Mo_reach_44 : decode prog_10_method_44_code 44 = .ok (.aload_n 0, 1) := by decide +kernel
theorem d_Mo_reach_45 : decode prog_10_method_44_code 45 = .ok (.getfield 51, 3) := by decide +kernel
theorem d_Mo_reach_48 : decode prog_10_method_44_code 48 = .ok (.bipush 100, 2) := by decide +kernel
theorem d_Mo_reach_50 : decode prog_10_method_44_code 50 = .ok (.aload_n 0, 1) := by decide +kernel
theorem d_Mo_reach_51 : decode prog_10_method_44_code 51 = .ok (.getfield 185, 3) := by decide +kernel
theorem d_Mo_reach_54 : decode prog_10_method_44_code 54 = .ok (.imul, 1) := by decide +kernel
theorem d_Mo_reach_55 : decode prog_10_method_44_code 55 = .ok (.iload_n 2, 1) := by decide +kernel
theorem d_Mo_reach_56 : decode prog_10_method_44_code 56 = .ok (.iadd, 1) := by decide +kernel
theorem d_Mo_reach_57 : decode prog_10_method_44_code 57 = .ok (.iaload, 1) := by decide +kernel
theorem d_Mo_reach_58 : decode prog_10_method_44_code 58 = .ok (.invokevirtual 312, 3) := by decide +kernel
theorem d_Mo_reach_61 : decode prog_10_method_44_code 61 = .ok (.iconst 0, 1) := by decide +kernel
theorem d_Mo_reach_62 : decode prog_10_method_44_code 62 = .ok (.istore_n 2, 1) := by decide +kernel
theorem d_Mo_reach_63 : decode prog_10_method_44_code 63 = .ok (.iload_n 2, 1) := by decide +kernel
theorem d_Mo_reach_64 : decode prog_10_method_44_code 64 = .ok (.aload_n 0, 1) := by decide +kernel
theorem d_Mo_reach_65 : decode prog_10_method_44_code 65 = .ok (.getfield 30, 3) := by decide +kernel
theorem d_Mo_reach_68 : decode prog_10_method_44_code 68 = .ok (.aload_n 0, 1) := by decide +kernel
theorem d_Mo_reach_69 : decode prog_10_method_44_code 69 = .ok (.iload_n 1, 1) := by decide +kernel
theorem d_Mo_reach_70 : decode prog_10_method_44_code 70 = .ok (.invokevirtual 301, 3) := by decide +kernel
theorem d_Mo_reach_73 : decode prog_10_method_44_code 73 = .ok (.iaload, 1) := by decide +kernel
theorem d_Mo_reach_74 : decode prog_10_method_44_code 74 = .ok (.if_icmp .ge 19, 3) := by decide +kernel
theorem d_Mo_reach_77 : decode prog_10_method_44_code 77 = .ok (.aload_n 0, 1) := by decide +kernel
theorem d_Mo_reach_78 : decode prog_10_method_44_code 78 = .ok (.aload_n 0, 1) := by decide +kernel
theorem d_Mo_reach_79 : decode prog_10_method_44_code 79 = .ok (.iload_n 1, 1) := by decide +kernel
theorem d_Mo_reach_80 : decode prog_10_method_44_code 80 = .ok (.iload_n 2, 1) := by decide +kernel
theorem d_Mo_reach_81 : decode prog_10_method_44_code 81 = .ok (.invokevirtual 306, 3) := by decide +kernel
theorem d_Mo_reach_84 : decode prog_10_method_44_code 84 = .ok (.invokevirtual 312, 3) := by decide +kernel
theorem d_Mo_reach_87 : decode prog_10_method_44_code 87 = .ok (.iinc 2 1, 3) := by decide +kernel
theorem d_Mo_reach_90 : decode prog_10_method_44_code 90 = .ok (.goto (-27), 3) := by decide +kernel
theorem d_Mo_reach_93 : decode prog_10_method_44_code 93 = .ok (.return_, 1) := by decide +kernel
def wp_Mo_reach_L63 (rf : T_Mo → Int32 → (Unit → T_Mo → Prop) → Prop) (K : T_Mo → Int32 → Int32 → Prop) (post : Unit → T_Mo → Prop) : Nat → T_Mo → Int32 → Int32 → Prop
  | 0, _, _, _ => False
  | n9 + 1, z_this, x1, x2 => wp_Mo_node1 z_this x1 (fun (r2 : Int32) (u2 : Unit) => vp_in r2 2000 ∧ (((z_this.1.2.2.2.2.1 (r2).toNatClampNeg) ≤ x2 → (K z_this x1 x2)) ∧ (¬ (z_this.1.2.2.2.2.1 (r2).toNatClampNeg) ≤ x2 → (wp_Mo_kid z_this x1 x2 (fun (r3 : Int32) (u3 : Unit) => rf z_this r3 (fun (r4 : Unit) (u4 : T_Mo) => wp_Mo_reach_L63 rf K post n9 u4 x1 (x2 + (1 : Int32))))))))
def wp_Mo_reach_F (rf : T_Mo → Int32 → (Unit → T_Mo → Prop) → Prop) (z_this : T_Mo) (a1 : Int32) (post : Unit → T_Mo → Prop) : Prop := wp_Mo_node1 z_this a1 (fun (r1 : Int32) (u1 : Unit) => vp_in r1 2000 ∧ (((z_this.1.2.1.2.2.2 (r1).toNatClampNeg) = (19 : Int32) → (wp_Mo_node1 z_this a1 (fun (r5 : Int32) (u5 : Unit) => vp_in r5 2000 ∧ (vp_in ((z_this.1.2.2.1.1 (r5).toNatClampNeg)).toInt32 100 ∧ (((z_this.2.2.2.1.2.1 (((z_this.1.2.2.1.1 (r5).toNatClampNeg)).toInt32).toNatClampNeg) = 0 → (vp_in ((z_this.1.2.2.1.1 (r5).toNatClampNeg)).toInt32 100 ∧ (vp_in (((100 : Int32) * z_this.1.2.1.2.1) + ((z_this.1.2.2.1.1 (r5).toNatClampNeg)).toInt32) 200 ∧ (rf (((((z_this.1.1.1.1.1, z_this.1.1.1.1.2), (z_this.1.1.1.2.1, (z_this.1.1.1.2.2.1, z_this.1.1.1.2.2.2))), ((z_this.1.1.2.1.1, z_this.1.1.2.1.2), (z_this.1.1.2.2.1, (z_this.1.1.2.2.2.1, z_this.1.1.2.2.2.2)))), (((z_this.1.2.1.1.1, z_this.1.2.1.1.2), (z_this.1.2.1.2.1, (z_this.1.2.1.2.2.1, z_this.1.2.1.2.2.2))), ((z_this.1.2.2.1.1, (z_this.1.2.2.1.2.1, z_this.1.2.2.1.2.2)), (z_this.1.2.2.2.1, (z_this.1.2.2.2.2.1, z_this.1.2.2.2.2.2))))), ((((z_this.2.1.1.1.1, z_this.2.1.1.1.2), (z_this.2.1.1.2.1, (z_this.2.1.1.2.2.1, z_this.2.1.1.2.2.2))), ((z_this.2.1.2.1.1, z_this.2.1.2.1.2), (z_this.2.1.2.2.1, (z_this.2.1.2.2.2.1, z_this.2.1.2.2.2.2)))), (((z_this.2.2.1.1.1, z_this.2.2.1.1.2), (z_this.2.2.1.2.1, (z_this.2.2.1.2.2.1, z_this.2.2.1.2.2.2))), ((z_this.2.2.2.1.1, ((upd z_this.2.2.2.1.2.1 (((z_this.1.2.2.1.1 (r5).toNatClampNeg)).toInt32).toNatClampNeg (vp_nar .boolean (1 : Int32))), z_this.2.2.2.1.2.2)), (z_this.2.2.2.2.1, (z_this.2.2.2.2.2.1, z_this.2.2.2.2.2.2)))))) (z_this.2.1.2.2.2.1 ((((100 : Int32) * z_this.1.2.1.2.1) + ((z_this.1.2.2.1.1 (r5).toNatClampNeg)).toInt32)).toNatClampNeg) (fun (r6 : Unit) (u6 : T_Mo) => ∃ k9 : Nat, wp_Mo_reach_L63 rf (fun (z_this : T_Mo) (x1 : Int32) (x2 : Int32) => post () z_this) post k9 u6 a1 (0 : Int32)))))) ∧ (¬ (z_this.2.2.2.1.2.1 (((z_this.1.2.2.1.1 (r5).toNatClampNeg)).toInt32).toNatClampNeg) = 0 → (∃ k9 : Nat, wp_Mo_reach_L63 rf (fun (z_this : T_Mo) (x1 : Int32) (x2 : Int32) => post () z_this) post k9 z_this a1 (0 : Int32)))))))) ∧ (¬ (z_this.1.2.1.2.2.2 (r1).toNatClampNeg) = (19 : Int32) → (∃ k9 : Nat, wp_Mo_reach_L63 rf (fun (z_this : T_Mo) (x1 : Int32) (x2 : Int32) => post () z_this) post k9 z_this a1 (0 : Int32)))))
def rm_Mo_reach (F L : Nat) : Room := { frames := max (F + 1) 2, cells := 0, slots := 0, locals := max (L + 22) 43 }
set_option maxHeartbeats 4000000 in
set_option maxRecDepth 100000 in
theorem t_Mo_reach_L63 {p : Program} {l : Launch} {o : State × Array Value} {e : Env} {s : State} {m : MethodId} {args : Array Value} {below : List Frame} {meth : Method} {c : Code} {D : va_G} {k : Nat → ClassId} {w0 : va_W} {A : Nat → Prop} {ad_this : Nat → Nat} {post : Unit → T_Mo → Prop} {rf : T_Mo → Int32 → (Unit → T_Mo → Prop) → Prop} {F L : Nat} (hrf : ∀ {ad_this : Nat → Nat} {z_this : T_Mo} {a1 : Int32} {post : Unit → T_Mo → Prop}, rf z_this a1 post → xq_C l o y_Mo_reach (.code y_Mo_reach prog_10_method_44_code 3 none :: xq_W) { frames := F, cells := 0, slots := 0, locals := L } D vwCl (xt k) [.ref (ad_this 0), .int a1] (w_Mo k ad_this z_this) (fun _ : Unit => none) post (fun _ : T_Mo => False) (fun u : T_Mo => w_Mo k ad_this u) 0 0 0 0) (hAt : xq_At p s m args meth c prog_10_method_44_code 3 none y_Mo_reach xq_W) (hK : va_K D vwCl (xt k) s) (hJ : xq_J l o A s s.heap) (hAe : va_A w0 s.heap.size = A) (hA : ∀ q, s.heap.size ≤ q → A q) {K : T_Mo → Int32 → Int32 → Prop} (hX : ∀ (z_this : T_Mo) (x1 : Int32) (x2 : Int32) (H : Heap) (locs : List Loc) (ls : Array Slot), lv_has ls 3 [(0, .ref (ad_this 0)), (1, .int x1), (2, .int x2)] → va_P D vwCl (w_Mo k ad_this z_this) H → va_D A (w_Mo k ad_this z_this) → va_S A s.heap H locs → K z_this x1 x2 → W p l e (rm_Mo_reach F L) s m args below meth c H locs 0 0 (xq_Z below D vwCl (xt k) w0 (fun _ : Unit => none) post (fun _ : T_Mo => False) (fun u : T_Mo => w_Mo k ad_this u) 0 0 0 0 s) (F0 m 93 ls [])) :
    ∀ (n9 : Nat) (z_this : T_Mo) (x1 : Int32) (x2 : Int32) (H : Heap) (locs : List Loc) (ls : Array Slot), lv_has ls 3 [(0, .ref (ad_this 0)), (1, .int x1), (2, .int x2)] → va_P D vwCl (w_Mo k ad_this z_this) H → va_D A (w_Mo k ad_this z_this) → va_S A s.heap H locs → wp_Mo_reach_L63 rf K post n9 z_this x1 x2 → W p l e (rm_Mo_reach F L) s m args below meth c H locs 0 0 (xq_Z below D vwCl (xt k) w0 (fun _ : Unit => none) post (fun _ : T_Mo => False) (fun u : T_Mo => w_Mo k ad_this u) 0 0 0 0 s) (F0 m 63 ls []) := by
  obtain ⟨hx, hb, hml, hr, hlocks, hown, hts, hex, hnm⟩ := id hAt
  intro n9
  induction n9 with
  | zero => intro z_this x1 x2 H locs ls hl hP hD hS hw; exact False.elim (by rw [wp_Mo_reach_L63] at hw; exact hw)
  | succ n9 ih =>
    intro z_this x1 x2 H locs ls hl hP hD hS hw
    rw [wp_Mo_reach_L63] at hw
    refine lv_iload_n hx hb d_Mo_reach_63 rfl (lv_at hl 2 rfl) ?_
    refine lv_aload_n hx hb d_Mo_reach_64 rfl (lv_at hl 0 rfl) ?_
    refine va_get (D := D) (ci := 8) (v := .ref (ad_this 7)) (C := R_Mo) (T := F_Mo) (N := 42) hx hb hts in_Mo hown hK hP 0 rfl rfl 19 (by decide) (hts (.fieldLink R_Mo 30 R_Mo "kidCount" "[I") kw4_162) (fun _ h9 => h9) rfl d_Mo_reach_65 ?_
    refine lv_aload_n hx hb d_Mo_reach_68 rfl (lv_at hl 0 rfl) ?_
    refine lv_iload_n hx hb d_Mo_reach_69 rfl (lv_at hl 1 rfl) ?_
    refine xq_go (wr := ([] : va_W)) (stk := fun r => .int r :: [.ref (ad_this 7), .int x2]) (xq_runV (As := [.int x1]) (rest := [.ref (ad_this 7), .int x2]) ⟨hx, hb, hml, hown, hts⟩ (c_Mo_node1 (l := l) (o := o) (D := D) (k := k) (ad_this := ad_this) hw) (cw_Mo_node1 hts kw5_199 ⟨by simp only [rm_Mo_reach, rm_Mo_node1]; omega, by simp only [rm_Mo_reach, rm_Mo_node1]; omega⟩) (va_recv hK hP (ci := 8) (q0 := 0) rfl rfl) (hP.sub [0, 1, 2, 3, 4, 5, 6, 7, 8, 9, 10, 11, 12, 13, 14, 15, 16, 17] rfl) hK hJ hS (va_free hD hS hA [0, 1, 2, 3, 4, 5, 6, 7, 8, 9, 10, 11, 12, 13, 14, 15, 16, 17] rfl) ((hD.sub [0, 1, 2, 3, 4, 5, 6, 7, 8, 9, 10, 11, 12, 13, 14, 15, 16, 17] (by decide) rfl).weaken (fun _ _ _ _ => trivial)) rfl hl.1 (Nat.le_of_ble_eq_true rfl) d_Mo_reach_70 ⟨Nat.le_of_ble_eq_true rfl, Nat.le_of_ble_eq_true rfl⟩) hP hD hS hA [0, 1, 2, 3, 4, 5, 6, 7, 8, 9, 10, 11, 12, 13, 14, 15, 16, 17] [] rfl rfl (by decide) (by decide) (fun _ => rfl) (fun r2 u2 H locs hw hP hD hS => ?_) (fun _ _ _ _ h9 => h9.elim)
    have hP : va_P D vwCl (w_Mo k ad_this z_this) H := hP.sub [0, 1, 2, 3, 4, 5, 6, 7, 8, 9, 10, 11, 12, 13, 14, 15, 16, 17] rfl
    have hD : va_D A (w_Mo k ad_this z_this) := hD.sub [0, 1, 2, 3, 4, 5, 6, 7, 8, 9, 10, 11, 12, 13, 14, 15, 16, 17] (by decide) rfl
    refine va_iald hx hb hK hP 7 0 rfl rfl hw.1 d_Mo_reach_73 ?_
    have hw := hw.2
    refine lv_icmp_ge (tgt := 93) hx hb d_Mo_reach_74 (by decide) (fun hc => ?_) (fun hc => ?_)
    · have hw := hw.1 hc
      exact hX z_this x1 x2 H locs ls (lv_sub hl [0, 1, 2] rfl) hP hD hS hw
    · have hw := hw.2 hc
      refine lv_aload_n hx hb d_Mo_reach_77 rfl (lv_at hl 0 rfl) ?_
      refine lv_aload_n hx hb d_Mo_reach_78 rfl (lv_at hl 0 rfl) ?_
      refine lv_iload_n hx hb d_Mo_reach_79 rfl (lv_at hl 1 rfl) ?_
      refine lv_iload_n hx hb d_Mo_reach_80 rfl (lv_at hl 2 rfl) ?_
      refine xq_go (wr := ([] : va_W)) (stk := fun r => .int r :: [.ref (ad_this 0)]) (xq_runV (As := [.int x1, .int x2]) (rest := [.ref (ad_this 0)]) ⟨hx, hb, hml, hown, hts⟩ (c_Mo_kid (l := l) (o := o) (D := D) (k := k) (ad_this := ad_this) hw) (cw_Mo_kid hts kw5_207 ⟨by simp only [rm_Mo_reach, rm_Mo_kid]; omega, by simp only [rm_Mo_reach, rm_Mo_kid]; omega⟩) (va_recv hK hP (ci := 8) (q0 := 0) rfl rfl) (hP.sub [0, 1, 2, 3, 4, 5, 6, 7, 8, 9, 10, 11, 12, 13, 14, 15, 16, 17] rfl) hK hJ hS (va_free hD hS hA [0, 1, 2, 3, 4, 5, 6, 7, 8, 9, 10, 11, 12, 13, 14, 15, 16, 17] rfl) ((hD.sub [0, 1, 2, 3, 4, 5, 6, 7, 8, 9, 10, 11, 12, 13, 14, 15, 16, 17] (by decide) rfl).weaken (fun _ _ _ _ => trivial)) rfl hl.1 (Nat.le_of_ble_eq_true rfl) d_Mo_reach_81 ⟨Nat.le_of_ble_eq_true rfl, Nat.le_of_ble_eq_true rfl⟩) hP hD hS hA [0, 1, 2, 3, 4, 5, 6, 7, 8, 9, 10, 11, 12, 13, 14, 15, 16, 17] [] rfl rfl (by decide) (by decide) (fun _ => rfl) (fun r3 u3 H locs hw hP hD hS => ?_) (fun _ _ _ _ h9 => h9.elim)
      have hP : va_P D vwCl (w_Mo k ad_this z_this) H := hP.sub [0, 1, 2, 3, 4, 5, 6, 7, 8, 9, 10, 11, 12, 13, 14, 15, 16, 17] rfl
      have hD : va_D A (w_Mo k ad_this z_this) := hD.sub [0, 1, 2, 3, 4, 5, 6, 7, 8, 9, 10, 11, 12, 13, 14, 15, 16, 17] (by decide) rfl
      refine xq_go (wr := ([] : va_W)) (stk := fun _ => []) (xq_runV (As := [.int r3]) (rest := []) ⟨hx, hb, hml, hown, hts⟩ (hrf (ad_this := ad_this) hw) (cw_Mo_reach hts kw5_236 ⟨by simp only [rm_Mo_reach]; omega, by simp only [rm_Mo_reach]; omega⟩) (va_recv hK hP (ci := 8) (q0 := 0) rfl rfl) (hP.sub [0, 1, 2, 3, 4, 5, 6, 7, 8, 9, 10, 11, 12, 13, 14, 15, 16, 17] rfl) hK hJ hS (va_free hD hS hA [0, 1, 2, 3, 4, 5, 6, 7, 8, 9, 10, 11, 12, 13, 14, 15, 16, 17] rfl) ((hD.sub [0, 1, 2, 3, 4, 5, 6, 7, 8, 9, 10, 11, 12, 13, 14, 15, 16, 17] (by decide) rfl).weaken (fun _ _ _ _ => trivial)) rfl hl.1 (Nat.le_of_ble_eq_true rfl) d_Mo_reach_84 ⟨Nat.le_of_ble_eq_true rfl, Nat.le_of_ble_eq_true rfl⟩) hP hD hS hA [0, 1, 2, 3, 4, 5, 6, 7, 8, 9, 10, 11, 12, 13, 14, 15, 16, 17] [] rfl rfl (by decide) (by decide) (fun _ => rfl) (fun r4 u4 H locs hw hP hD hS => ?_) (fun _ _ _ _ h9 => h9.elim)
      have hP : va_P D vwCl (w_Mo k ad_this u4) H := hP.sub [0, 1, 2, 3, 4, 5, 6, 7, 8, 9, 10, 11, 12, 13, 14, 15, 16, 17] rfl
      have hD : va_D A (w_Mo k ad_this u4) := hD.sub [0, 1, 2, 3, 4, 5, 6, 7, 8, 9, 10, 11, 12, 13, 14, 15, 16, 17] (by decide) rfl
      refine lv_iinc (v := (x2 + (1 : Int32))) (lv' := [(2, .int (x2 + (1 : Int32))), (0, .ref (ad_this 0)), (1, .int x1)]) hx hb d_Mo_reach_87 hl (k := 2) rfl rfl (by decide) rfl (fun ls hl => ?_)
      refine lv_goto (tgt := 63) hx hb d_Mo_reach_90 (by decide) ?_
      exact ih u4 x1 (x2 + (1 : Int32)) H locs ls (lv_sub hl [1, 2, 0] rfl) hP hD hS hw
set_option maxHeartbeats 4000000 in
set_option maxRecDepth 100000 in
theorem c_Mo_reach_F {l : Launch} {o : State × Array Value} {D : va_G} {k : Nat → ClassId} {rf : T_Mo → Int32 → (Unit → T_Mo → Prop) → Prop} {F L : Nat} (hrf : ∀ {ad_this : Nat → Nat} {z_this : T_Mo} {a1 : Int32} {post : Unit → T_Mo → Prop}, rf z_this a1 post → xq_C l o y_Mo_reach (.code y_Mo_reach prog_10_method_44_code 3 none :: xq_W) { frames := F, cells := 0, slots := 0, locals := L } D vwCl (xt k) [.ref (ad_this 0), .int a1] (w_Mo k ad_this z_this) (fun _ : Unit => none) post (fun _ : T_Mo => False) (fun u : T_Mo => w_Mo k ad_this u) 0 0 0 0) {ad_this : Nat → Nat} {z_this : T_Mo} {a1 : Int32} {post : Unit → T_Mo → Prop} (hw : wp_Mo_reach_F rf z_this a1 post) : xq_C l o y_Mo_reach (.code y_Mo_reach prog_10_method_44_code 3 none :: xq_W) (rm_Mo_reach F L) D vwCl (xt k) [.ref (ad_this 0), .int a1] (w_Mo k ad_this z_this) (fun _ : Unit => none) post (fun _ : T_Mo => False) (fun u : T_Mo => w_Mo k ad_this u) 0 0 0 0 := by
  refine xq_ofW (cc := prog_10_method_44_code) (maxL := 3) (ret := none) (by decide) rfl (Nat.le_of_ble_eq_true rfl) ?_
  intro p e s m below meth c ls H locs A hAt hAe hA hl hK hJ hP0 hP hD hS
  obtain ⟨hx, hb, hml, hr, hlocks, hown, hts, hex, hnm⟩ := id hAt
  have hl : lv_has ls 3 [(0, .ref (ad_this 0)), (1, .int a1)] := hl
  unfold wp_Mo_reach_F at hw
  refine lv_aload_n hx hb d_Mo_reach_0 rfl (lv_at hl 0 rfl) ?_
  refine va_get (D := D) (ci := 8) (v := .ref (ad_this 2)) (C := R_Mo) (T := F_Mo) (N := 42) hx hb hts in_Mo hown hK hP 0 rfl rfl 14 (by decide) (hts (.fieldLink R_Mo 13 R_Mo "whats" "[I") kw4_157) (fun _ h9 => h9) rfl d_Mo_reach_1 ?_
  refine lv_aload_n hx hb d_Mo_reach_4 rfl (lv_at hl 0 rfl) ?_
  refine lv_iload_n hx hb d_Mo_reach_5 rfl (lv_at hl 1 rfl) ?_
  refine xq_go (wr := ([] : va_W)) (stk := fun r => .int r :: [.ref (ad_this 2)]) (xq_runV (As := [.int a1]) (rest := [.ref (ad_this 2)]) ⟨hx, hb, hml, hown, hts⟩ (c_Mo_node1 (l := l) (o := o) (D := D) (k := k) (ad_this := ad_this) hw) (cw_Mo_node1 hts kw5_199 ⟨by simp only [rm_Mo_reach, rm_Mo_node1]; omega, by simp only [rm_Mo_reach, rm_Mo_node1]; omega⟩) (va_recv hK hP (ci := 8) (q0 := 0) rfl rfl) (hP.sub [0, 1, 2, 3, 4, 5, 6, 7, 8, 9, 10, 11, 12, 13, 14, 15, 16, 17] rfl) hK hJ hS (va_free hD hS hA [0, 1, 2, 3, 4, 5, 6, 7, 8, 9, 10, 11, 12, 13, 14, 15, 16, 17] rfl) ((hD.sub [0, 1, 2, 3, 4, 5, 6, 7, 8, 9, 10, 11, 12, 13, 14, 15, 16, 17] (by decide) rfl).weaken (fun _ _ _ _ => trivial)) rfl hl.1 (Nat.le_of_ble_eq_true rfl) d_Mo_reach_6 ⟨Nat.le_of_ble_eq_true rfl, Nat.le_of_ble_eq_true rfl⟩) hP hD hS hA [0, 1, 2, 3, 4, 5, 6, 7, 8, 9, 10, 11, 12, 13, 14, 15, 16, 17] [] rfl rfl (by decide) (by decide) (fun _ => rfl) (fun r1 u1 H locs hw hP hD hS => ?_) (fun _ _ _ _ h9 => h9.elim)
  have hP : va_P D vwCl (w_Mo k ad_this z_this) H := hP.sub [0, 1, 2, 3, 4, 5, 6, 7, 8, 9, 10, 11, 12, 13, 14, 15, 16, 17] rfl
  have hD : va_D A (w_Mo k ad_this z_this) := hD.sub [0, 1, 2, 3, 4, 5, 6, 7, 8, 9, 10, 11, 12, 13, 14, 15, 16, 17] (by decide) rfl
  refine va_iald hx hb hK hP 2 0 rfl rfl hw.1 d_Mo_reach_9 ?_
  have hw := hw.2
  refine lv_bipush (v := (19 : Int32)) hx hb d_Mo_reach_10 (by decide) ?_
  refine lv_icmp_ne (tgt := 61) hx hb d_Mo_reach_12 (by decide) (fun hc => ?_) (fun hc => ?_)
  · have hw := hw.2 hc
    refine lv_iconst (v := (0 : Int32)) hx hb d_Mo_reach_61 (by decide) ?_
    refine lv_istore_n (lv' := [(2, .int (0 : Int32)), (0, .ref (ad_this 0)), (1, .int a1)]) hx hb d_Mo_reach_62 rfl hl (by decide) rfl (fun ls hl => ?_)
    obtain ⟨k9, hw⟩ := hw
    refine t_Mo_reach_L63 (hrf := @hrf) hAt hK hJ hAe hA ?_ k9 z_this a1 (0 : Int32) H locs ls (lv_sub hl [1, 2, 0] rfl) hP hD hS hw
    intro z_this x1 x2 H locs ls hl hP hD hS hw
    exact xq_vret (r := ()) (u := z_this) hx hb hr hlocks hAe hP hD hS rfl hw (Nat.le_of_ble_eq_true rfl) (Nat.le_of_ble_eq_true rfl) d_Mo_reach_93
  · have hw := hw.1 hc
    refine lv_aload_n hx hb d_Mo_reach_15 rfl (lv_at hl 0 rfl) ?_
    refine va_get (D := D) (ci := 8) (v := .ref (ad_this 3)) (C := R_Mo) (T := F_Mo) (N := 42) hx hb hts in_Mo hown hK hP 0 rfl rfl 15 (by decide) (hts (.fieldLink R_Mo 17 R_Mo "numbers" "[J") kw4_158) (fun _ h9 => h9) rfl d_Mo_reach_16 ?_
    refine lv_aload_n hx hb d_Mo_reach_19 rfl (lv_at hl 0 rfl) ?_
    refine lv_iload_n hx hb d_Mo_reach_20 rfl (lv_at hl 1 rfl) ?_
    refine xq_go (wr := ([] : va_W)) (stk := fun r => .int r :: [.ref (ad_this 3)]) (xq_runV (As := [.int a1]) (rest := [.ref (ad_this 3)]) ⟨hx, hb, hml, hown, hts⟩ (c_Mo_node1 (l := l) (o := o) (D := D) (k := k) (ad_this := ad_this) hw) (cw_Mo_node1 hts kw5_199 ⟨by simp only [rm_Mo_reach, rm_Mo_node1]; omega, by simp only [rm_Mo_reach, rm_Mo_node1]; omega⟩) (va_recv hK hP (ci := 8) (q0 := 0) rfl rfl) (hP.sub [0, 1, 2, 3, 4, 5, 6, 7, 8, 9, 10, 11, 12, 13, 14, 15, 16, 17] rfl) hK hJ hS (va_free hD hS hA [0, 1, 2, 3, 4, 5, 6, 7, 8, 9, 10, 11, 12, 13, 14, 15, 16, 17] rfl) ((hD.sub [0, 1, 2, 3, 4, 5, 6, 7, 8, 9, 10, 11, 12, 13, 14, 15, 16, 17] (by decide) rfl).weaken (fun _ _ _ _ => trivial)) rfl hl.1 (Nat.le_of_ble_eq_true rfl) d_Mo_reach_21 ⟨Nat.le_of_ble_eq_true rfl, Nat.le_of_ble_eq_true rfl⟩) hP hD hS hA [0, 1, 2, 3, 4, 5, 6, 7, 8, 9, 10, 11, 12, 13, 14, 15, 16, 17] [] rfl rfl (by decide) (by decide) (fun _ => rfl) (fun r5 u5 H locs hw hP hD hS => ?_) (fun _ _ _ _ h9 => h9.elim)
    have hP : va_P D vwCl (w_Mo k ad_this z_this) H := hP.sub [0, 1, 2, 3, 4, 5, 6, 7, 8, 9, 10, 11, 12, 13, 14, 15, 16, 17] rfl
    have hD : va_D A (w_Mo k ad_this z_this) := hD.sub [0, 1, 2, 3, 4, 5, 6, 7, 8, 9, 10, 11, 12, 13, 14, 15, 16, 17] (by decide) rfl
    refine va_lald hx hb hK hP 3 1 rfl rfl hw.1 d_Mo_reach_24 ?_
    have hw := hw.2
    refine lv_l2i hx hb d_Mo_reach_25 rfl ?_
    refine lv_istore_n (lv' := [(2, .int ((z_this.1.2.2.1.1 (r5).toNatClampNeg)).toInt32), (0, .ref (ad_this 0)), (1, .int a1)]) hx hb d_Mo_reach_26 rfl hl (by decide) rfl (fun ls hl => ?_)
    refine lv_aload_n hx hb d_Mo_reach_27 rfl (lv_at hl 1 rfl) ?_
    refine va_get (D := D) (ci := 8) (v := .ref (ad_this 17)) (C := R_Mo) (T := F_Mo) (N := 42) hx hb hts in_Mo hown hK hP 0 rfl rfl 37 (by decide) (hts (.fieldLink R_Mo 61 R_Mo "marks" "[Z") kw4_180) (fun _ h9 => h9) rfl d_Mo_reach_28 ?_
    refine lv_iload_n hx hb d_Mo_reach_31 rfl (lv_at hl 0 rfl) ?_
    refine va_zald hx hb hK hP 17 3 rfl rfl hw.1 d_Mo_reach_32 ?_
    have hw := hw.2
    refine lv_if_ne (tgt := 61) hx hb d_Mo_reach_33 (by decide) (fun hc => ?_) (fun hc => ?_)
    · have hw := hw.2 hc
      refine lv_iconst (v := (0 : Int32)) hx hb d_Mo_reach_61 (by decide) ?_
      refine lv_istore_n (lv' := [(2, .int (0 : Int32)), (0, .ref (ad_this 0)), (1, .int a1)]) hx hb d_Mo_reach_62 rfl hl (by decide) rfl (fun ls hl => ?_)
      obtain ⟨k9, hw⟩ := hw
      refine t_Mo_reach_L63 (hrf := @hrf) hAt hK hJ hAe hA ?_ k9 z_this a1 (0 : Int32) H locs ls (lv_sub hl [1, 2, 0] rfl) hP hD hS hw
      intro z_this x1 x2 H locs ls hl hP hD hS hw
      exact xq_vret (r := ()) (u := z_this) hx hb hr hlocks hAe hP hD hS rfl hw (Nat.le_of_ble_eq_true rfl) (Nat.le_of_ble_eq_true rfl) d_Mo_reach_93
    · have hw := hw.1 hc
      refine lv_aload_n hx hb d_Mo_reach_36 rfl (lv_at hl 1 rfl) ?_
      refine va_get (D := D) (ci := 8) (v := .ref (ad_this 17)) (C := R_Mo) (T := F_Mo) (N := 42) hx hb hts in_Mo hown hK hP 0 rfl rfl 37 (by decide) (hts (.fieldLink R_Mo 61 R_Mo "marks" "[Z") kw4_180) (fun _ h9 => h9) rfl d_Mo_reach_37 ?_
      refine lv_iload_n hx hb d_Mo_reach_40 rfl (lv_at hl 0 rfl) ?_
      refine lv_iconst (v := (1 : Int32)) hx hb d_Mo_reach_41 (by decide) ?_
      refine va_zast hx hb hK hP hD hS 17 3 rfl rfl hw.1 d_Mo_reach_42 (fun H locs hP hD hS => ?_)
      have hw := hw.2
      have hP : va_P D vwCl (w_Mo k ad_this (((((z_this.1.1.1.1.1, z_this.1.1.1.1.2), (z_this.1.1.1.2.1, (z_this.1.1.1.2.2.1, z_this.1.1.1.2.2.2))), ((z_this.1.1.2.1.1, z_this.1.1.2.1.2), (z_this.1.1.2.2.1, (z_this.1.1.2.2.2.1, z_this.1.1.2.2.2.2)))), (((z_this.1.2.1.1.1, z_this.1.2.1.1.2), (z_this.1.2.1.2.1, (z_this.1.2.1.2.2.1, z_this.1.2.1.2.2.2))), ((z_this.1.2.2.1.1, (z_this.1.2.2.1.2.1, z_this.1.2.2.1.2.2)), (z_this.1.2.2.2.1, (z_this.1.2.2.2.2.1, z_this.1.2.2.2.2.2))))), ((((z_this.2.1.1.1.1, z_this.2.1.1.1.2), (z_this.2.1.1.2.1, (z_this.2.1.1.2.2.1, z_this.2.1.1.2.2.2))), ((z_this.2.1.2.1.1, z_this.2.1.2.1.2), (z_this.2.1.2.2.1, (z_this.2.1.2.2.2.1, z_this.2.1.2.2.2.2)))), (((z_this.2.2.1.1.1, z_this.2.2.1.1.2), (z_this.2.2.1.2.1, (z_this.2.2.1.2.2.1, z_this.2.2.1.2.2.2))), ((z_this.2.2.2.1.1, ((upd z_this.2.2.2.1.2.1 (((z_this.1.2.2.1.1 (r5).toNatClampNeg)).toInt32).toNatClampNeg (vp_nar .boolean (1 : Int32))), z_this.2.2.2.1.2.2)), (z_this.2.2.2.2.1, (z_this.2.2.2.2.2.1, z_this.2.2.2.2.2.2))))))) H := hP
      have hD : va_D A (w_Mo k ad_this (((((z_this.1.1.1.1.1, z_this.1.1.1.1.2), (z_this.1.1.1.2.1, (z_this.1.1.1.2.2.1, z_this.1.1.1.2.2.2))), ((z_this.1.1.2.1.1, z_this.1.1.2.1.2), (z_this.1.1.2.2.1, (z_this.1.1.2.2.2.1, z_this.1.1.2.2.2.2)))), (((z_this.1.2.1.1.1, z_this.1.2.1.1.2), (z_this.1.2.1.2.1, (z_this.1.2.1.2.2.1, z_this.1.2.1.2.2.2))), ((z_this.1.2.2.1.1, (z_this.1.2.2.1.2.1, z_this.1.2.2.1.2.2)), (z_this.1.2.2.2.1, (z_this.1.2.2.2.2.1, z_this.1.2.2.2.2.2))))), ((((z_this.2.1.1.1.1, z_this.2.1.1.1.2), (z_this.2.1.1.2.1, (z_this.2.1.1.2.2.1, z_this.2.1.1.2.2.2))), ((z_this.2.1.2.1.1, z_this.2.1.2.1.2), (z_this.2.1.2.2.1, (z_this.2.1.2.2.2.1, z_this.2.1.2.2.2.2)))), (((z_this.2.2.1.1.1, z_this.2.2.1.1.2), (z_this.2.2.1.2.1, (z_this.2.2.1.2.2.1, z_this.2.2.1.2.2.2))), ((z_this.2.2.2.1.1, ((upd z_this.2.2.2.1.2.1 (((z_this.1.2.2.1.1 (r5).toNatClampNeg)).toInt32).toNatClampNeg (vp_nar .boolean (1 : Int32))), z_this.2.2.2.1.2.2)), (z_this.2.2.2.2.1, (z_this.2.2.2.2.2.1, z_this.2.2.2.2.2.2))))))) := hD
      refine lv_aload_n hx hb d_Mo_reach_43 rfl (lv_at hl 1 rfl) ?_
      refine lv_aload_n hx hb d_Mo_reach_44 rfl (lv_at hl 1 rfl) ?_
      refine va_get (D := D) (ci := 8) (v := .ref (ad_this 14)) (C := R_Mo) (T := F_Mo) (N := 42) hx hb hts in_Mo hown hK hP 0 rfl rfl 29 (by decide) (hts (.fieldLink R_Mo 51 R_Mo "stepNodes" "[I") kw4_172) (fun _ h9 => h9) rfl d_Mo_reach_45 ?_
      refine lv_bipush (v := (100 : Int32)) hx hb d_Mo_reach_48 (by decide) ?_
      refine lv_aload_n hx hb d_Mo_reach_50 rfl (lv_at hl 1 rfl) ?_
      refine va_get (D := D) (ci := 8) (v := .int z_this.1.2.1.2.1) (C := R_Mo) (T := F_Mo) (N := 42) hx hb hts in_Mo hown hK hP 0 rfl rfl 12 (by decide) (hts (.fieldLink R_Mo 185 R_Mo "half" "I") kw4_155) (fun _ h9 => h9) rfl d_Mo_reach_51 ?_
      refine lv_imul hx hb d_Mo_reach_54 ?_
      refine lv_iload_n hx hb d_Mo_reach_55 rfl (lv_at hl 0 rfl) ?_
      refine lv_iadd hx hb d_Mo_reach_56 ?_
      refine va_iald hx hb hK hP 14 0 rfl rfl hw.1 d_Mo_reach_57 ?_
      have hw := hw.2
      refine xq_go (wr := ([] : va_W)) (stk := fun _ => []) (xq_runV (As := [.int (z_this.2.1.2.2.2.1 ((((100 : Int32) * z_this.1.2.1.2.1) + ((z_this.1.2.2.1.1 (r5).toNatClampNeg)).toInt32)).toNatClampNeg)]) (rest := []) ⟨hx, hb, hml, hown, hts⟩ (hrf (ad_this := ad_this) hw) (cw_Mo_reach hts kw5_236 ⟨by simp only [rm_Mo_reach]; omega, by simp only [rm_Mo_reach]; omega⟩) (va_recv hK hP (ci := 8) (q0 := 0) rfl rfl) (hP.sub [0, 1, 2, 3, 4, 5, 6, 7, 8, 9, 10, 11, 12, 13, 14, 15, 16, 17] rfl) hK hJ hS (va_free hD hS hA [0, 1, 2, 3, 4, 5, 6, 7, 8, 9, 10, 11, 12, 13, 14, 15, 16, 17] rfl) ((hD.sub [0, 1, 2, 3, 4, 5, 6, 7, 8, 9, 10, 11, 12, 13, 14, 15, 16, 17] (by decide) rfl).weaken (fun _ _ _ _ => trivial)) rfl hl.1 (Nat.le_of_ble_eq_true rfl) d_Mo_reach_58 ⟨Nat.le_of_ble_eq_true rfl, Nat.le_of_ble_eq_true rfl⟩) hP hD hS hA [0, 1, 2, 3, 4, 5, 6, 7, 8, 9, 10, 11, 12, 13, 14, 15, 16, 17] [] rfl rfl (by decide) (by decide) (fun _ => rfl) (fun r6 u6 H locs hw hP hD hS => ?_) (fun _ _ _ _ h9 => h9.elim)
      have hP : va_P D vwCl (w_Mo k ad_this u6) H := hP.sub [0, 1, 2, 3, 4, 5, 6, 7, 8, 9, 10, 11, 12, 13, 14, 15, 16, 17] rfl
      have hD : va_D A (w_Mo k ad_this u6) := hD.sub [0, 1, 2, 3, 4, 5, 6, 7, 8, 9, 10, 11, 12, 13, 14, 15, 16, 17] (by decide) rfl
      refine lv_iconst (v := (0 : Int32)) hx hb d_Mo_reach_61 (by decide) ?_
      refine lv_istore_n (lv' := [(2, .int (0 : Int32)), (0, .ref (ad_this 0)), (1, .int a1)]) hx hb d_Mo_reach_62 rfl hl (by decide) rfl (fun ls hl => ?_)
      obtain ⟨k9, hw⟩ := hw
      refine t_Mo_reach_L63 (hrf := @hrf) hAt hK hJ hAe hA ?_ k9 u6 a1 (0 : Int32) H locs ls (lv_sub hl [1, 2, 0] rfl) hP hD hS hw
      intro z_this x1 x2 H locs ls hl hP hD hS hw
      exact xq_vret (r := ()) (u := z_this) hx hb hr hlocks hAe hP hD hS rfl hw (Nat.le_of_ble_eq_true rfl) (Nat.le_of_ble_eq_true rfl) d_Mo_reach_93
def wp_Mo_reach : Nat → T_Mo → Int32 → (Unit → T_Mo → Prop) → Prop
  | 0 => fun _ _ _ => False
  | d + 1 => wp_Mo_reach_F (wp_Mo_reach d)
def fFb : Nat → Nat
  | 0 => 0
  | d + 1 => max (fFb d + 1) 2
def fLb : Nat → Nat
  | 0 => 0
  | d + 1 => max (fLb d + 22) 43
theorem c_Mo_reach (d : Nat) {l : Launch} {o : State × Array Value} {D : va_G} {k : Nat → ClassId} : ∀ {ad_this : Nat → Nat} {z_this : T_Mo} {a1 : Int32} {post : Unit → T_Mo → Prop}, wp_Mo_reach d z_this a1 post → xq_C l o y_Mo_reach (.code y_Mo_reach prog_10_method_44_code 3 none :: xq_W) { frames := fFb d, cells := 0, slots := 0, locals := fLb d } D vwCl (xt k) [.ref (ad_this 0), .int a1] (w_Mo k ad_this z_this) (fun _ : Unit => none) post (fun _ : T_Mo => False) (fun u : T_Mo => w_Mo k ad_this u) 0 0 0 0 := by
  induction d with
  | zero => intro ad_this z_this a1 post hw; exact False.elim hw
  | succ d ih => intro ad_this z_this a1 post hw; exact c_Mo_reach_F (F := fFb d) (L := fLb d) (hrf := @ih) hw
