theorem kw1_31 : (Jvm.Cond.methodLink "StepText$Keywords" (1 : Nat) ({ cls := "java/lang/Object", name := "<init>", desc := "()V" } : Jvm.MethodName)) ∈ xq_W := xq_in tb_1 31 (by decide +kernel) rfl
theorem kw1_24 : (Jvm.Cond.instanceMethod ({ cls := "java/lang/Object", name := "<init>", desc := "()V" } : Jvm.MethodName)) ∈ xq_W := xq_in tb_1 24 (by decide +kernel) rfl
theorem kw1_25 : (Jvm.Cond.code ({ cls := "java/lang/Object", name := "<init>", desc := "()V" } : Jvm.MethodName) object_method_1_code (1 : Nat) (Option.none : Option Jvm.ClassFile.FieldType)) ∈ xq_W := xq_in tb_1 25 (by decide +kernel) rfl
theorem kw1_89 : (Jvm.Cond.arrayClass Jvm.ClassFile.FieldType.long) ∈ xq_W := xq_in tb_1 89 (by decide +kernel) rfl
theorem kw1_33 : (Jvm.Cond.methodLink "StepText$Keywords" (15 : Nat) ({ cls := "java/lang/String", name := "length", desc := "()I" } : Jvm.MethodName)) ∈ xq_W := xq_in tb_1 33 (by decide +kernel) rfl
theorem kw1_43 : (Jvm.Cond.methodLink "StepText$Keywords" (21 : Nat) ({ cls := "java/lang/String", name := "charAt", desc := "(I)C" } : Jvm.MethodName)) ∈ xq_W := xq_in tb_1 43 (by decide +kernel) rfl
theorem kw1_81 : (Jvm.Cond.constantLong "StepText$Keywords" (25 : Nat) (37 : Int64)) ∈ xq_W := xq_in tb_1 81 (by decide +kernel) rfl
theorem kw1_82 : (Jvm.Cond.methodLink "StepText$Keywords" (27 : Nat) ({ cls := "StepText$Keywords", name := "rank", desc := "(I)I" } : Jvm.MethodName)) ∈ xq_W := xq_in tb_1 82 (by decide +kernel) rfl
theorem kw1_30 : (Jvm.Cond.code ({ cls := "StepText$Keywords", name := "<init>", desc := "()V" } : Jvm.MethodName) prog_3_method_1_code (6 : Nat) (Option.none : Option Jvm.ClassFile.FieldType)) ∈ xq_W := xq_in tb_1 30 (by decide +kernel) rfl
theorem kw1_29 : (Jvm.Cond.instanceMethod ({ cls := "StepText$Keywords", name := "<init>", desc := "()V" } : Jvm.MethodName)) ∈ xq_W := xq_in tb_1 29 (by decide +kernel) rfl
theorem kw1_96 : (Jvm.Cond.methodLink "StepText$Words" (3 : Nat) ({ cls := "java/lang/Object", name := "<init>", desc := "()V" } : Jvm.MethodName)) ∈ xq_W := xq_in tb_1 96 (by decide +kernel) rfl
theorem kw1_90 : (Jvm.Cond.arrayClass Jvm.ClassFile.FieldType.byte) ∈ xq_W := xq_in tb_1 90 (by decide +kernel) rfl
theorem kw1_147 : (Jvm.Cond.arrayClass Jvm.ClassFile.FieldType.int) ∈ xq_W := xq_in tb_1 147 (by decide +kernel) rfl
theorem kw1_95 : (Jvm.Cond.code ({ cls := "StepText$Words", name := "<init>", desc := "(LStepText$Keywords;)V" } : Jvm.MethodName) prog_8_method_1_code (2 : Nat) (Option.none : Option Jvm.ClassFile.FieldType)) ∈ xq_W := xq_in tb_1 95 (by decide +kernel) rfl
theorem kw1_94 : (Jvm.Cond.instanceMethod ({ cls := "StepText$Words", name := "<init>", desc := "(LStepText$Keywords;)V" } : Jvm.MethodName)) ∈ xq_W := xq_in tb_1 94 (by decide +kernel) rfl
theorem kw1_159 : (Jvm.Cond.methodLink "StepText$Names" (3 : Nat) ({ cls := "java/lang/Object", name := "<init>", desc := "()V" } : Jvm.MethodName)) ∈ xq_W := xq_in tb_1 159 (by decide +kernel) rfl
theorem kw1_176 : (Jvm.Cond.arrayClass Jvm.ClassFile.FieldType.boolean) ∈ xq_W := xq_in tb_1 176 (by decide +kernel) rfl
theorem kw1_158 : (Jvm.Cond.code ({ cls := "StepText$Names", name := "<init>", desc := "()V" } : Jvm.MethodName) prog_4_method_1_code (1 : Nat) (Option.none : Option Jvm.ClassFile.FieldType)) ∈ xq_W := xq_in tb_1 158 (by decide +kernel) rfl
theorem kw1_157 : (Jvm.Cond.instanceMethod ({ cls := "StepText$Names", name := "<init>", desc := "()V" } : Jvm.MethodName)) ∈ xq_W := xq_in tb_1 157 (by decide +kernel) rfl
theorem kw1_182 : (Jvm.Cond.methodLink "StepText$Nodes" (3 : Nat) ({ cls := "java/lang/Object", name := "<init>", desc := "()V" } : Jvm.MethodName)) ∈ xq_W := xq_in tb_1 182 (by decide +kernel) rfl
theorem kw1_181 : (Jvm.Cond.code ({ cls := "StepText$Nodes", name := "<init>", desc := "()V" } : Jvm.MethodName) prog_5_method_1_code (1 : Nat) (Option.none : Option Jvm.ClassFile.FieldType)) ∈ xq_W := xq_in tb_1 181 (by decide +kernel) rfl
theorem kw1_180 : (Jvm.Cond.instanceMethod ({ cls := "StepText$Nodes", name := "<init>", desc := "()V" } : Jvm.MethodName)) ∈ xq_W := xq_in tb_1 180 (by decide +kernel) rfl
def y_Kw_init : MethodName := ⟨"StepText$Keywords", "<init>", "()V"⟩
theorem d_Kw_init_0 : decode prog_3_method_1_code 0 = .ok (.aload_n 0, 1) := by decide +kernel
theorem d_Kw_init_1 : decode prog_3_method_1_code 1 = .ok (.invokespecial 1, 3) := by decide +kernel
theorem d_Kw_init_4 : decode prog_3_method_1_code 4 = .ok (.aload_n 0, 1) := by decide +kernel
theorem d_Kw_init_5 : decode prog_3_method_1_code 5 = .ok (.bipush 26, 2) := by decide +kernel
theorem d_Kw_init_7 : decode prog_3_method_1_code 7 = .ok (.newarray .long, 2) := by decide +kernel
theorem d_Kw_init_9 : decode prog_3_method_1_code 9 = .ok (.putfield 9, 3) := by decide +kernel
theorem d_Kw_init_12 : decode prog_3_method_1_code 12 = .ok (.iconst 0, 1) := by decide +kernel
theorem d_Kw_init_13 : decode prog_3_method_1_code 13 = .ok (.istore_n 1, 1) := by decide +kernel
theorem d_Kw_init_14 : decode prog_3_method_1_code 14 = .ok (.lconst 0, 1) := by decide +kernel
theorem d_Kw_init_15 : decode prog_3_method_1_code 15 = .ok (.lstore_n 2, 1) := by decide +kernel
theorem d_Kw_init_16 : decode prog_3_method_1_code 16 = .ok (.iconst 0, 1) := by decide +kernel
theorem d_Kw_init_17 : decode prog_3_method_1_code 17 = .ok (.istore 4, 2) := by decide +kernel
theorem d_Kw_init_19 : decode prog_3_method_1_code 19 = .ok (.iload 4, 2) := by decide +kernel
theorem d_Kw_init_21 : decode prog_3_method_1_code 21 = .ok (.ldc 13, 2) := by decide +kernel
theorem d_Kw_init_23 : decode prog_3_method_1_code 23 = .ok (.invokevirtual 15, 3) := by decide +kernel
theorem d_Kw_init_26 : decode prog_3_method_1_code 26 = .ok (.if_icmp .ge 59, 3) := by decide +kernel
theorem d_Kw_init_29 : decode prog_3_method_1_code 29 = .ok (.ldc 13, 2) := by decide +kernel
theorem d_Kw_init_31 : decode prog_3_method_1_code 31 = .ok (.iload 4, 2) := by decide +kernel
theorem d_Kw_init_33 : decode prog_3_method_1_code 33 = .ok (.invokevirtual 21, 3) := by decide +kernel
theorem d_Kw_init_36 : decode prog_3_method_1_code 36 = .ok (.istore 5, 2) := by decide +kernel
theorem d_Kw_init_38 : decode prog_3_method_1_code 38 = .ok (.iload 5, 2) := by decide +kernel
theorem d_Kw_init_40 : decode prog_3_method_1_code 40 = .ok (.bipush 32, 2) := by decide +kernel
theorem d_Kw_init_42 : decode prog_3_method_1_code 42 = .ok (.if_icmp .eq 19, 3) := by decide +kernel
theorem d_Kw_init_45 : decode prog_3_method_1_code 45 = .ok (.lload_n 2, 1) := by decide +kernel
theorem d_Kw_init_46 : decode prog_3_method_1_code 46 = .ok (.ldc2_w 25, 3) := by decide +kernel
theorem d_Kw_init_49 : decode prog_3_method_1_code 49 = .ok (.lmul, 1) := by decide +kernel
theorem d_Kw_init_50 : decode prog_3_method_1_code 50 = .ok (.iload 5, 2) := by decide +kernel
theorem d_Kw_init_52 : decode prog_3_method_1_code 52 = .ok (.invokestatic 27, 3) := by decide +kernel
theorem d_Kw_init_55 : decode prog_3_method_1_code 55 = .ok (.i2l, 1) := by decide +kernel
theorem d_Kw_init_56 : decode prog_3_method_1_code 56 = .ok (.ladd, 1) := by decide +kernel
theorem d_Kw_init_57 : decode prog_3_method_1_code 57 = .ok (.lstore_n 2, 1) := by decide +kernel
theorem d_Kw_init_58 : decode prog_3_method_1_code 58 = .ok (.goto 21, 3) := by decide +kernel
theorem d_Kw_init_61 : decode prog_3_method_1_code 61 = .ok (.iload_n 1, 1) := by decide +kernel
theorem d_Kw_init_62 : decode prog_3_method_1_code 62 = .ok (.bipush 26, 2) := by decide +kernel
theorem d_Kw_init_64 : decode prog_3_method_1_code 64 = .ok (.if_icmp .ge 15, 3) := by decide +kernel
theorem d_Kw_init_67 : decode prog_3_method_1_code 67 = .ok (.aload_n 0, 1) := by decide +kernel
theorem d_Kw_init_68 : decode prog_3_method_1_code 68 = .ok (.getfield 9, 3) := by decide +kernel
theorem d_Kw_init_71 : decode prog_3_method_1_code 71 = .ok (.iload_n 1, 1) := by decide +kernel
theorem d_Kw_init_72 : decode prog_3_method_1_code 72 = .ok (.lload_n 2, 1) := by decide +kernel
theorem d_Kw_init_73 : decode prog_3_method_1_code 73 = .ok (.lastore, 1) := by decide +kernel
theorem d_Kw_init_74 : decode prog_3_method_1_code 74 = .ok (.iinc 1 1, 3) := by decide +kernel
theorem d_Kw_init_77 : decode prog_3_method_1_code 77 = .ok (.lconst 0, 1) := by decide +kernel
theorem d_Kw_init_78 : decode prog_3_method_1_code 78 = .ok (.lstore_n 2, 1) := by decide +kernel
theorem d_Kw_init_79 : decode prog_3_method_1_code 79 = .ok (.iinc 4 1, 3) := by decide +kernel
theorem d_Kw_init_82 : decode prog_3_method_1_code 82 = .ok (.goto (-63), 3) := by decide +kernel
theorem d_Kw_init_85 : decode prog_3_method_1_code 85 = .ok (.return_, 1) := by decide +kernel
def wp_Kw_init_L19 (K : T_Kw → Int32 → Int64 → Int32 → Prop) (post : Unit → T_Kw → Prop) : Nat → T_Kw → Int32 → Int64 → Int32 → Prop
  | 0, _, _, _, _ => False
  | n9 + 1, z_this, x1, x2, x4 => ((114 : Int32) ≤ x4 → (K z_this x1 x2 x4)) ∧ (¬ (114 : Int32) ≤ x4 → (vp_in x4 114 ∧ (((xq_ch 0 x4) = (32 : Int32) → (((26 : Int32) ≤ x1 → (wp_Kw_init_L19 K post n9 z_this x1 x2 (x4 + (1 : Int32)))) ∧ (¬ (26 : Int32) ≤ x1 → (vp_in x1 26 ∧ (wp_Kw_init_L19 K post n9 (vp_updL z_this (x1).toNatClampNeg x2) (x1 + (1 : Int32)) (0 : Int64) (x4 + (1 : Int32))))))) ∧ (¬ (xq_ch 0 x4) = (32 : Int32) → (wp_Kw_rank (xq_ch 0 x4) (fun (r3 : Int32) (u3 : Unit) => wp_Kw_init_L19 K post n9 z_this x1 ((x2 * (37 : Int64)) + (r3).toInt64) (x4 + (1 : Int32))))))))
def wp_Kw_init (post : Unit → T_Kw → Prop) : Prop := ∃ k9 : Nat, wp_Kw_init_L19 (fun (z_this : T_Kw) (x1 : Int32) (x2 : Int64) (x4 : Int32) => post () z_this) post k9 (fun _ => 0) (0 : Int32) (0 : Int64) (0 : Int32)
def rm_Kw_init : Room := { frames := 8, cells := 1, slots := 26, locals := 200 }
set_option maxHeartbeats 4000000 in
set_option maxRecDepth 100000 in
theorem t_Kw_init_L19 {p : Program} {l : Launch} {o : State × Array Value} {e : Env} {s : State} {m : MethodId} {args : Array Value} {below : List Frame} {meth : Method} {c : Code} {D : va_G} {k : Nat → ClassId} {w0 : va_W} {A : Nat → Prop} {b q1 : Nat} {post : Unit → T_Kw → Prop} (hAt : xq_At p s m args meth c prog_3_method_1_code 6 none y_Kw_init xq_W) (hK : va_K D vwCl (xt k) s) (hJ : xq_J l o A s s.heap) (hAe : va_A w0 s.heap.size = A) (hA : ∀ q, s.heap.size ≤ q → A q) {K : T_Kw → Int32 → Int64 → Int32 → Prop} (hX : ∀ (z_this : T_Kw) (x1 : Int32) (x2 : Int64) (x4 : Int32) (H : Heap) (locs : List Loc) (ls : Array Slot), lv_has ls 6 [(0, .ref ((xq_ls [b, q1]) 0)), (1, .int x1), (2, .long x2), (4, .int x4)] → va_P D vwCl (w_Kw k (xq_ls [b, q1]) z_this) H → va_D A (w_Kw k (xq_ls [b, q1]) z_this) → va_S A s.heap H locs → K z_this x1 x2 x4 → W p l e rm_Kw_init s m args below meth c H locs 1 26 (xq_Z below D vwCl (xt k) w0 (fun _ : Unit => none) (fun (r : Unit) (u : Nat × T_Kw) => post r u.2) (fun _ : Nat × T_Kw => False) (fun u : Nat × T_Kw => w_Kw k (xq_ls [b, u.1]) u.2) 1 26 0 0 s) (F0 m 85 ls [])) :
    ∀ (n9 : Nat) (z_this : T_Kw) (x1 : Int32) (x2 : Int64) (x4 : Int32) (H : Heap) (locs : List Loc) (ls : Array Slot), lv_has ls 6 [(0, .ref ((xq_ls [b, q1]) 0)), (1, .int x1), (2, .long x2), (4, .int x4)] → va_P D vwCl (w_Kw k (xq_ls [b, q1]) z_this) H → va_D A (w_Kw k (xq_ls [b, q1]) z_this) → va_S A s.heap H locs → wp_Kw_init_L19 K post n9 z_this x1 x2 x4 → W p l e rm_Kw_init s m args below meth c H locs 1 26 (xq_Z below D vwCl (xt k) w0 (fun _ : Unit => none) (fun (r : Unit) (u : Nat × T_Kw) => post r u.2) (fun _ : Nat × T_Kw => False) (fun u : Nat × T_Kw => w_Kw k (xq_ls [b, u.1]) u.2) 1 26 0 0 s) (F0 m 19 ls []) := by
  obtain ⟨hx, hb, hml, hr, hlocks, hown, hts, hex, hnm⟩ := id hAt
  intro n9
  induction n9 with
  | zero => intro z_this x1 x2 x4 H locs ls hl hP hD hS hw; exact False.elim (by rw [wp_Kw_init_L19] at hw; exact hw)
  | succ n9 ih =>
    intro z_this x1 x2 x4 H locs ls hl hP hD hS hw
    rw [wp_Kw_init_L19] at hw
    refine lv_iload hx hb d_Kw_init_19 (lv_at hl 3 rfl) ?_
    refine va_ldcS hx hb hown (xq_sR0 hJ) d_Kw_init_21 ?_
    refine xq_go (wr := w_Kw k (xq_ls [b, q1]) z_this) (stk := fun r => .int r :: [.int x4]) (xq_runV (As := []) (rest := [.int x4]) ⟨hx, hb, hml, hown, hts⟩ (c_Jlen (l := l) (o := o) (D := D) (k := k) (i := 0) (post := fun r _ => r = (114 : Int32)) (by decide) (by decide)) (cw_Jlen hts kw1_33 ⟨Nat.le_of_ble_eq_true rfl, Nat.le_of_ble_eq_true rfl⟩) (xq_srec hJ (by decide) hS) (hP.sub [] rfl) hK hJ hS (va_free hD hS hA [] rfl) ((hD.sub [] (by decide) rfl).weaken (fun _ _ _ _ => trivial)) rfl hl.1 (Nat.le_of_ble_eq_true rfl) d_Kw_init_23 ⟨Nat.le_of_ble_eq_true rfl, Nat.le_of_ble_eq_true rfl⟩) hP hD hS hA [] [0, 1] rfl rfl (by decide) (by decide) (fun _ => rfl) (fun r1 u1 H locs hr1 hP hD hS => ?_) (fun _ _ _ _ h9 => h9.elim)
    subst hr1
    have hP : va_P D vwCl (w_Kw k (xq_ls [b, q1]) z_this) H := hP.sub [0, 1] rfl
    have hD : va_D A (w_Kw k (xq_ls [b, q1]) z_this) := hD.sub [0, 1] (by decide) rfl
    refine lv_icmp_ge (tgt := 85) hx hb d_Kw_init_26 (by decide) (fun hc => ?_) (fun hc => ?_)
    · have hw := hw.1 hc
      exact hX z_this x1 x2 x4 H locs ls (lv_sub hl [0, 1, 2, 3] rfl) hP hD hS hw
    · have hw := hw.2 hc
      refine va_ldcS hx hb hown (xq_sR0 hJ) d_Kw_init_29 ?_
      refine lv_iload hx hb d_Kw_init_31 (lv_at hl 3 rfl) ?_
      refine xq_go (wr := w_Kw k (xq_ls [b, q1]) z_this) (stk := fun r => .int r :: []) (xq_runV (As := [.int x4]) (rest := []) ⟨hx, hb, hml, hown, hts⟩ (c_Jchar (l := l) (o := o) (D := D) (k := k) (i := 0) (j := x4) (post := fun r _ => r = (xq_ch 0 x4)) (by decide) hw.1 rfl) (cw_Jchar hts kw1_43 ⟨Nat.le_of_ble_eq_true rfl, Nat.le_of_ble_eq_true rfl⟩) (xq_srec hJ (by decide) hS) (hP.sub [] rfl) hK hJ hS (va_free hD hS hA [] rfl) ((hD.sub [] (by decide) rfl).weaken (fun _ _ _ _ => trivial)) rfl hl.1 (Nat.le_of_ble_eq_true rfl) d_Kw_init_33 ⟨Nat.le_of_ble_eq_true rfl, Nat.le_of_ble_eq_true rfl⟩) hP hD hS hA [] [0, 1] rfl rfl (by decide) (by decide) (fun _ => rfl) (fun r2 u2 H locs hr2 hP hD hS => ?_) (fun _ _ _ _ h9 => h9.elim)
      subst hr2
      have hP : va_P D vwCl (w_Kw k (xq_ls [b, q1]) z_this) H := hP.sub [0, 1] rfl
      have hD : va_D A (w_Kw k (xq_ls [b, q1]) z_this) := hD.sub [0, 1] (by decide) rfl
      have hw := hw.2
      refine lv_istore (lv' := [(5, .int (xq_ch 0 x4)), (0, .ref ((xq_ls [b, q1]) 0)), (1, .int x1), (2, .long x2), (4, .int x4)]) hx hb d_Kw_init_36 hl (by decide) rfl (fun ls hl => ?_)
      refine lv_iload hx hb d_Kw_init_38 (lv_at hl 0 rfl) ?_
      refine lv_bipush (v := (32 : Int32)) hx hb d_Kw_init_40 (by decide) ?_
      refine lv_icmp_eq (tgt := 61) hx hb d_Kw_init_42 (by decide) (fun hc => ?_) (fun hc => ?_)
      · have hw := hw.1 hc
        refine lv_iload_n hx hb d_Kw_init_61 rfl (lv_at hl 2 rfl) ?_
        refine lv_bipush (v := (26 : Int32)) hx hb d_Kw_init_62 (by decide) ?_
        refine lv_icmp_ge (tgt := 79) hx hb d_Kw_init_64 (by decide) (fun hc => ?_) (fun hc => ?_)
        · have hw := hw.1 hc
          refine lv_iinc (v := (x4 + (1 : Int32))) (lv' := [(4, .int (x4 + (1 : Int32))), (5, .int (xq_ch 0 x4)), (0, .ref ((xq_ls [b, q1]) 0)), (1, .int x1), (2, .long x2)]) hx hb d_Kw_init_79 hl (k := 4) rfl rfl (by decide) rfl (fun ls hl => ?_)
          refine lv_goto (tgt := 19) hx hb d_Kw_init_82 (by decide) ?_
          exact ih z_this x1 x2 (x4 + (1 : Int32)) H locs ls (lv_sub hl [2, 3, 4, 0] rfl) hP hD hS hw
        · have hw := hw.2 hc
          refine lv_aload_n hx hb d_Kw_init_67 rfl (lv_at hl 1 rfl) ?_
          refine va_get (D := D) (ci := 1) (v := .ref ((xq_ls [b, q1]) 1)) (C := R_Kw) (T := F_Kw) (N := 1) hx hb hts in_Kw hown hK hP 0 rfl rfl 0 (by decide) (hts (.fieldLink R_Kw 9 R_Kw "packed" "[J") kw1_85) (fun _ h9 => h9) rfl d_Kw_init_68 ?_
          refine lv_iload_n hx hb d_Kw_init_71 rfl (lv_at hl 2 rfl) ?_
          refine lv_lload_n hx hb d_Kw_init_72 rfl (lv_at hl 3 rfl) ?_
          refine va_last hx hb hK hP hD hS 1 1 rfl rfl hw.1 d_Kw_init_73 (fun H locs hP hD hS => ?_)
          have hw := hw.2
          have hP : va_P D vwCl (w_Kw k (xq_ls [b, q1]) (vp_updL z_this (x1).toNatClampNeg x2)) H := hP
          have hD : va_D A (w_Kw k (xq_ls [b, q1]) (vp_updL z_this (x1).toNatClampNeg x2)) := hD
          refine lv_iinc (v := (x1 + (1 : Int32))) (lv' := [(1, .int (x1 + (1 : Int32))), (5, .int (xq_ch 0 x4)), (0, .ref ((xq_ls [b, q1]) 0)), (2, .long x2), (4, .int x4)]) hx hb d_Kw_init_74 hl (k := 2) rfl rfl (by decide) rfl (fun ls hl => ?_)
          refine lv_lconst (v := (0 : Int64)) hx hb d_Kw_init_77 (by decide) ?_
          refine lv_lstore_n (lv' := [(2, .long (0 : Int64)), (1, .int (x1 + (1 : Int32))), (5, .int (xq_ch 0 x4)), (0, .ref ((xq_ls [b, q1]) 0)), (4, .int x4)]) hx hb d_Kw_init_78 rfl hl (by decide) rfl (fun ls hl => ?_)
          refine lv_iinc (v := (x4 + (1 : Int32))) (lv' := [(4, .int (x4 + (1 : Int32))), (2, .long (0 : Int64)), (1, .int (x1 + (1 : Int32))), (5, .int (xq_ch 0 x4)), (0, .ref ((xq_ls [b, q1]) 0))]) hx hb d_Kw_init_79 hl (k := 4) rfl rfl (by decide) rfl (fun ls hl => ?_)
          refine lv_goto (tgt := 19) hx hb d_Kw_init_82 (by decide) ?_
          exact ih (vp_updL z_this (x1).toNatClampNeg x2) (x1 + (1 : Int32)) (0 : Int64) (x4 + (1 : Int32)) H locs ls (lv_sub hl [4, 2, 1, 0] rfl) hP hD hS hw
      · have hw := hw.2 hc
        refine lv_lload_n hx hb d_Kw_init_45 rfl (lv_at hl 3 rfl) ?_
        refine lv_ldc2 (v := (37 : Int64)) hx hb hown (hts (.constantLong R_Kw 25 (37)) kw1_81) d_Kw_init_46 ?_
        refine lv_lmul hx hb d_Kw_init_49 ?_
        refine lv_iload hx hb d_Kw_init_50 (lv_at hl 0 rfl) ?_
        refine xq_go (wr := w_Kw k (xq_ls [b, q1]) z_this) (stk := fun r => .int r :: [.long (x2 * (37 : Int64))]) (xq_runS (As := [.int (xq_ch 0 x4)]) (rest := [.long (x2 * (37 : Int64))]) ⟨hx, hb, hml, hown, hts⟩ (c_Kw_rank (l := l) (o := o) (D := D) (k := k) hw) (cs_Kw_rank hts kw1_82 ⟨Nat.le_of_ble_eq_true rfl, Nat.le_of_ble_eq_true rfl⟩) (hP.sub [] rfl) hK hJ hS (va_free hD hS hA [] rfl) ((hD.sub [] (by decide) rfl).weaken (fun _ _ _ _ => trivial)) rfl hl.1 (Nat.le_of_ble_eq_true rfl) d_Kw_init_52 ⟨Nat.le_of_ble_eq_true rfl, Nat.le_of_ble_eq_true rfl⟩) hP hD hS hA [] [0, 1] rfl rfl (by decide) (by decide) (fun _ => rfl) (fun r3 u3 H locs hw hP hD hS => ?_) (fun _ _ _ _ h9 => h9.elim)
        have hP : va_P D vwCl (w_Kw k (xq_ls [b, q1]) z_this) H := hP.sub [0, 1] rfl
        have hD : va_D A (w_Kw k (xq_ls [b, q1]) z_this) := hD.sub [0, 1] (by decide) rfl
        refine lv_i2l hx hb d_Kw_init_55 rfl ?_
        refine lv_ladd hx hb d_Kw_init_56 ?_
        refine lv_lstore_n (lv' := [(2, .long ((x2 * (37 : Int64)) + (r3).toInt64)), (5, .int (xq_ch 0 x4)), (0, .ref ((xq_ls [b, q1]) 0)), (1, .int x1), (4, .int x4)]) hx hb d_Kw_init_57 rfl hl (by decide) rfl (fun ls hl => ?_)
        refine lv_goto (tgt := 79) hx hb d_Kw_init_58 (by decide) ?_
        refine lv_iinc (v := (x4 + (1 : Int32))) (lv' := [(4, .int (x4 + (1 : Int32))), (2, .long ((x2 * (37 : Int64)) + (r3).toInt64)), (5, .int (xq_ch 0 x4)), (0, .ref ((xq_ls [b, q1]) 0)), (1, .int x1)]) hx hb d_Kw_init_79 hl (k := 4) rfl rfl (by decide) rfl (fun ls hl => ?_)
        refine lv_goto (tgt := 19) hx hb d_Kw_init_82 (by decide) ?_
        exact ih z_this x1 ((x2 * (37 : Int64)) + (r3).toInt64) (x4 + (1 : Int32)) H locs ls (lv_sub hl [3, 4, 1, 0] rfl) hP hD hS hw
set_option maxHeartbeats 4000000 in
set_option maxRecDepth 100000 in
theorem c_Kw_init {l : Launch} {o : State × Array Value} {D : va_G} {k : Nat → ClassId} {b : Nat}  {post : Unit → T_Kw → Prop} (hw : wp_Kw_init post) : xq_C l o y_Kw_init (.code y_Kw_init prog_3_method_1_code 6 none :: xq_W) rm_Kw_init D vwCl (xt k) [.ref b] ([(b, .inr (1, [.null]))]) (fun _ : Unit => none) (fun (r : Unit) (u : Nat × T_Kw) => post r u.2) (fun _ : Nat × T_Kw => False) (fun u : Nat × T_Kw => w_Kw k (xq_ls [b, u.1]) u.2) 1 26 0 0 := by
  refine xq_ofW (cc := prog_3_method_1_code) (maxL := 6) (ret := none) (by decide) rfl (Nat.le_of_ble_eq_true rfl) ?_
  intro p e s m below meth c ls H locs A hAt hAe hA hl hK hJ hP0 hP hD hS
  obtain ⟨hx, hb, hml, hr, hlocks, hown, hts, hex, hnm⟩ := id hAt
  have hl : lv_has ls 6 [(0, .ref b)] := hl
  refine lv_aload_n hx hb d_Kw_init_0 rfl (lv_at hl 0 rfl) ?_
  refine W.objInit hx hb hown (hts _ kw1_31) (hts _ kw1_24) (hts _ kw1_25) (g := F0 m 1 ls (.ref b :: [])) rfl (hl.1.trans hml.symm) rfl d_Kw_init_1 (Nat.le_of_ble_eq_true rfl) (Nat.le_trans (Nat.add_le_add_right (lv_room (Nat.le_of_ble_eq_true rfl)) 12) (Nat.le_of_ble_eq_true rfl)) (W.eq (g2 := F0 m 4 ls []) rfl ?_)
  refine lv_aload_n hx hb d_Kw_init_4 rfl (lv_at hl 0 rfl) ?_
  refine lv_bipush (v := (26 : Int32)) hx hb d_Kw_init_5 (by decide) ?_
  refine xq_newa (atype := .long) (ty := .long) (a0 := (26, .inr (.inl (fun _ => 0)))) (N' := 26) hx hb (hts _ kw1_89) rfl (fun C h9 => by cases h9) hK hP hD hS hA 1 rfl (fun _ => rfl) (by decide) (by decide) (by decide) (Nat.le_of_ble_eq_true rfl) (Nat.le_of_ble_eq_true rfl) d_Kw_init_7 (fun q1 H hP hD hS => ?_)
  have hP : va_P D vwCl ([(b, .inr (1, [.null]))] ++ [(q1, .inl (k 1, 26, .inr (.inl (fun _ => 0))))]) H := hP
  have hD : va_D A ([(b, .inr (1, [.null]))] ++ [(q1, .inl (k 1, 26, .inr (.inl (fun _ => 0))))]) := hD
  refine va_putF (D := D) (ci := 1) (v := .ref q1) (ty := (.array .long)) (C := R_Kw) (T := F_Kw) (N := 1) hx hb hts in_Kw t_Kw t_Kw_ok n_Kw hown hK hP hD hS 0 rfl rfl 0 (by decide) (hts (.fieldLink R_Kw 9 R_Kw "packed" "[J") kw1_85) (fun _ h9 => h9) rfl hnm rfl (by decide +kernel) rfl rfl (Nat.le_of_ble_eq_true rfl) d_Kw_init_9 (fun H locs hP hD hS => ?_)
  have hP : va_P D vwCl ([(b, .inr (1, [.ref q1]))] ++ [(q1, .inl (k 1, 26, .inr (.inl (fun _ => 0))))]) H := hP
  have hD : va_D A ([(b, .inr (1, [.ref q1]))] ++ [(q1, .inl (k 1, 26, .inr (.inl (fun _ => 0))))]) := hD
  unfold wp_Kw_init at hw
  have hP : va_P D vwCl (w_Kw k (xq_ls [b, q1]) (fun _ => 0)) H := hP.sub [0, 1] rfl
  have hD : va_D A (w_Kw k (xq_ls [b, q1]) (fun _ => 0)) := hD.sub [0, 1] (by decide) rfl
  have hl : lv_has ls 6 [(0, .ref ((xq_ls [b, q1]) 0))] := hl
  refine lv_iconst (v := (0 : Int32)) hx hb d_Kw_init_12 (by decide) ?_
  refine lv_istore_n (lv' := [(1, .int (0 : Int32)), (0, .ref ((xq_ls [b, q1]) 0))]) hx hb d_Kw_init_13 rfl hl (by decide) rfl (fun ls hl => ?_)
  refine lv_lconst (v := (0 : Int64)) hx hb d_Kw_init_14 (by decide) ?_
  refine lv_lstore_n (lv' := [(2, .long (0 : Int64)), (1, .int (0 : Int32)), (0, .ref ((xq_ls [b, q1]) 0))]) hx hb d_Kw_init_15 rfl hl (by decide) rfl (fun ls hl => ?_)
  refine lv_iconst (v := (0 : Int32)) hx hb d_Kw_init_16 (by decide) ?_
  refine lv_istore (lv' := [(4, .int (0 : Int32)), (2, .long (0 : Int64)), (1, .int (0 : Int32)), (0, .ref ((xq_ls [b, q1]) 0))]) hx hb d_Kw_init_17 hl (by decide) rfl (fun ls hl => ?_)
  obtain ⟨k9, hw⟩ := hw
  refine t_Kw_init_L19 hAt hK hJ hAe hA ?_ k9 (fun _ => 0) (0 : Int32) (0 : Int64) (0 : Int32) H locs ls (lv_sub hl [3, 2, 1, 0] rfl) hP hD hS hw
  intro z_this x1 x2 x4 H locs ls hl hP hD hS hw
  exact xq_vret (r := ()) (u := (q1, z_this)) hx hb hr hlocks hAe hP hD hS rfl hw (Nat.le_of_ble_eq_true rfl) (Nat.le_of_ble_eq_true rfl) d_Kw_init_85
theorem ci_Kw_init {R : Room} {s : State} {args : Array Value} {own : String} {index : Nat} (hts : ∀ w ∈ xq_W, w.before args s = true) (hl : .methodLink own index y_Kw_init ∈ xq_W) {rm : Room} (hR : rm.frames + 1 ≤ R.frames ∧ 8 + (6 + 11) + rm.locals ≤ R.locals) : CallB R s args own index y_Kw_init prog_3_method_1_code 6 none (.code y_Kw_init prog_3_method_1_code 6 none :: xq_W) rm rm.cells rm.slots 0 ∧ y_Kw_init.name = "<init>" ∧ (Cond.instanceMethod y_Kw_init).before args s = true := ⟨xq_cb 0 hts kw1_30 kw1_2 hl ⟨by decide, by decide, by decide +kernel⟩ hR, rfl, hts _ kw1_29⟩
def y_Wd_init : MethodName := ⟨"StepText$Words", "<init>", "(LStepText$Keywords;)V"⟩
theorem d_Wd_init_0 : decode prog_8_method_1_code 0 = .ok (.aload_n 0, 1) := by decide +kernel
theorem d_Wd_init_1 : decode prog_8_method_1_code 1 = .ok (.invokespecial 3, 3) := by decide +kernel
theorem d_Wd_init_4 : decode prog_8_method_1_code 4 = .ok (.aload_n 0, 1) := by decide +kernel
theorem d_Wd_init_5 : decode prog_8_method_1_code 5 = .ok (.sipush 4000, 3) := by decide +kernel
theorem d_Wd_init_8 : decode prog_8_method_1_code 8 = .ok (.newarray .byte, 2) := by decide +kernel
theorem d_Wd_init_10 : decode prog_8_method_1_code 10 = .ok (.putfield 9, 3) := by decide +kernel
theorem d_Wd_init_13 : decode prog_8_method_1_code 13 = .ok (.aload_n 0, 1) := by decide +kernel
theorem d_Wd_init_14 : decode prog_8_method_1_code 14 = .ok (.sipush 4001, 3) := by decide +kernel
theorem d_Wd_init_17 : decode prog_8_method_1_code 17 = .ok (.newarray .int, 2) := by decide +kernel
theorem d_Wd_init_19 : decode prog_8_method_1_code 19 = .ok (.putfield 15, 3) := by decide +kernel
theorem d_Wd_init_22 : decode prog_8_method_1_code 22 = .ok (.aload_n 0, 1) := by decide +kernel
theorem d_Wd_init_23 : decode prog_8_method_1_code 23 = .ok (.sipush 4001, 3) := by decide +kernel
theorem d_Wd_init_26 : decode prog_8_method_1_code 26 = .ok (.newarray .int, 2) := by decide +kernel
theorem d_Wd_init_28 : decode prog_8_method_1_code 28 = .ok (.putfield 19, 3) := by decide +kernel
theorem d_Wd_init_31 : decode prog_8_method_1_code 31 = .ok (.aload_n 0, 1) := by decide +kernel
theorem d_Wd_init_32 : decode prog_8_method_1_code 32 = .ok (.sipush 4001, 3) := by decide +kernel
theorem d_Wd_init_35 : decode prog_8_method_1_code 35 = .ok (.newarray .int, 2) := by decide +kernel
theorem d_Wd_init_37 : decode prog_8_method_1_code 37 = .ok (.putfield 22, 3) := by decide +kernel
theorem d_Wd_init_40 : decode prog_8_method_1_code 40 = .ok (.aload_n 0, 1) := by decide +kernel
theorem d_Wd_init_41 : decode prog_8_method_1_code 41 = .ok (.sipush 4001, 3) := by decide +kernel
theorem d_Wd_init_44 : decode prog_8_method_1_code 44 = .ok (.newarray .long, 2) := by decide +kernel
theorem d_Wd_init_46 : decode prog_8_method_1_code 46 = .ok (.putfield 25, 3) := by decide +kernel
theorem d_Wd_init_49 : decode prog_8_method_1_code 49 = .ok (.aload_n 0, 1) := by decide +kernel
theorem d_Wd_init_50 : decode prog_8_method_1_code 50 = .ok (.aload_n 1, 1) := by decide +kernel
theorem d_Wd_init_51 : decode prog_8_method_1_code 51 = .ok (.putfield 29, 3) := by decide +kernel
theorem d_Wd_init_54 : decode prog_8_method_1_code 54 = .ok (.return_, 1) := by decide +kernel
def rm_Wd_init : Room := { frames := 1, cells := 5, slots := 20004, locals := 20 }
set_option maxHeartbeats 4000000 in
set_option maxRecDepth 100000 in
theorem c_Wd_init {l : Launch} {o : State × Array Value} {D : va_G} {k : Nat → ClassId} {b : Nat} {a1 : Nat} : xq_C l o y_Wd_init (.code y_Wd_init prog_8_method_1_code 2 none :: xq_W) rm_Wd_init D vwCl (xt k) [.ref b, .ref a1] ([(b, .inr (2, [.null, .null, .null, .null, .null, .null, .int 0, .int 0, .int 0, .int 0, .int 0, .int 0, .int 0, .int 0, .long 0]))]) (fun _ : Unit => none) (fun _ _ => True) (fun _ : List Nat => False) (fun u : List Nat => w_Wd k (xq_ls (b :: u)) a1 ((fun _ => 0), (fun _ => 0), (fun _ => 0), (fun _ => 0), (fun _ => 0), 0, 0, 0, 0, 0, 0, 0, 0, 0)) 5 20004 0 0 := by
  refine xq_ofW (cc := prog_8_method_1_code) (maxL := 2) (ret := none) (by decide) rfl (Nat.le_of_ble_eq_true rfl) ?_
  intro p e s m below meth c ls H locs A hAt hAe hA hl hK hJ hP0 hP hD hS
  obtain ⟨hx, hb, hml, hr, hlocks, hown, hts, hex, hnm⟩ := id hAt
  have hl : lv_has ls 2 [(0, .ref b), (1, .ref a1)] := hl
  refine lv_aload_n hx hb d_Wd_init_0 rfl (lv_at hl 0 rfl) ?_
  refine W.objInit hx hb hown (hts _ kw1_96) (hts _ kw1_24) (hts _ kw1_25) (g := F0 m 1 ls (.ref b :: [])) rfl (hl.1.trans hml.symm) rfl d_Wd_init_1 (Nat.le_of_ble_eq_true rfl) (Nat.le_trans (Nat.add_le_add_right (lv_room (Nat.le_of_ble_eq_true rfl)) 12) (Nat.le_of_ble_eq_true rfl)) (W.eq (g2 := F0 m 4 ls []) rfl ?_)
  refine lv_aload_n hx hb d_Wd_init_4 rfl (lv_at hl 0 rfl) ?_
  refine lv_sipush (v := (4000 : Int32)) hx hb d_Wd_init_5 (by decide) ?_
  refine xq_newa (atype := .byte) (ty := .byte) (a0 := (4000, .inl (fun _ => 0))) (N' := 4000) hx hb (hts _ kw1_90) rfl (fun C h9 => by cases h9) hK hP hD hS hA 2 rfl (fun _ => rfl) (by decide) (by decide) (by decide) (Nat.le_of_ble_eq_true rfl) (Nat.le_of_ble_eq_true rfl) d_Wd_init_8 (fun q1 H hP hD hS => ?_)
  have hP : va_P D vwCl ([(b, .inr (2, [.null, .null, .null, .null, .null, .null, .int 0, .int 0, .int 0, .int 0, .int 0, .int 0, .int 0, .int 0, .long 0]))] ++ [(q1, .inl (k 2, 4000, .inl (fun _ => 0)))]) H := hP
  have hD : va_D A ([(b, .inr (2, [.null, .null, .null, .null, .null, .null, .int 0, .int 0, .int 0, .int 0, .int 0, .int 0, .int 0, .int 0, .long 0]))] ++ [(q1, .inl (k 2, 4000, .inl (fun _ => 0)))]) := hD
  refine va_putF (D := D) (ci := 2) (v := .ref q1) (ty := (.array .byte)) (C := R_Wd) (T := F_Wd) (N := 15) hx hb hts in_Wd t_Wd t_Wd_ok n_Wd hown hK hP hD hS 0 rfl rfl 1 (by decide) (hts (.fieldLink R_Wd 9 R_Wd "text" "[B") kw1_98) (fun _ h9 => h9) rfl hnm rfl (by decide +kernel) rfl rfl (Nat.le_of_ble_eq_true rfl) d_Wd_init_10 (fun H locs hP hD hS => ?_)
  have hP : va_P D vwCl ([(b, .inr (2, [.null, .ref q1, .null, .null, .null, .null, .int 0, .int 0, .int 0, .int 0, .int 0, .int 0, .int 0, .int 0, .long 0]))] ++ [(q1, .inl (k 2, 4000, .inl (fun _ => 0)))]) H := hP
  have hD : va_D A ([(b, .inr (2, [.null, .ref q1, .null, .null, .null, .null, .int 0, .int 0, .int 0, .int 0, .int 0, .int 0, .int 0, .int 0, .long 0]))] ++ [(q1, .inl (k 2, 4000, .inl (fun _ => 0)))]) := hD
  refine lv_aload_n hx hb d_Wd_init_13 rfl (lv_at hl 0 rfl) ?_
  refine lv_sipush (v := (4001 : Int32)) hx hb d_Wd_init_14 (by decide) ?_
  refine xq_newa (atype := .int) (ty := .int) (a0 := (4001, .inl (fun _ => 0))) (N' := 4001) hx hb (hts _ kw1_147) rfl (fun C h9 => by cases h9) hK hP hD hS hA 0 rfl (fun _ => rfl) (by decide) (by decide) (by decide) (Nat.le_of_ble_eq_true rfl) (Nat.le_of_ble_eq_true rfl) d_Wd_init_17 (fun q2 H hP hD hS => ?_)
  have hP : va_P D vwCl ([(b, .inr (2, [.null, .ref q1, .null, .null, .null, .null, .int 0, .int 0, .int 0, .int 0, .int 0, .int 0, .int 0, .int 0, .long 0]))] ++ [(q1, .inl (k 2, 4000, .inl (fun _ => 0)))] ++ [(q2, .inl (k 0, 4001, .inl (fun _ => 0)))]) H := hP
  have hD : va_D A ([(b, .inr (2, [.null, .ref q1, .null, .null, .null, .null, .int 0, .int 0, .int 0, .int 0, .int 0, .int 0, .int 0, .int 0, .long 0]))] ++ [(q1, .inl (k 2, 4000, .inl (fun _ => 0)))] ++ [(q2, .inl (k 0, 4001, .inl (fun _ => 0)))]) := hD
  refine va_putF (D := D) (ci := 2) (v := .ref q2) (ty := (.array .int)) (C := R_Wd) (T := F_Wd) (N := 15) hx hb hts in_Wd t_Wd t_Wd_ok n_Wd hown hK hP hD hS 0 rfl rfl 2 (by decide) (hts (.fieldLink R_Wd 15 R_Wd "codes" "[I") kw1_99) (fun _ h9 => h9) rfl hnm rfl (by decide +kernel) rfl rfl (Nat.le_of_ble_eq_true rfl) d_Wd_init_19 (fun H locs hP hD hS => ?_)
  have hP : va_P D vwCl ([(b, .inr (2, [.null, .ref q1, .ref q2, .null, .null, .null, .int 0, .int 0, .int 0, .int 0, .int 0, .int 0, .int 0, .int 0, .long 0]))] ++ [(q1, .inl (k 2, 4000, .inl (fun _ => 0)))] ++ [(q2, .inl (k 0, 4001, .inl (fun _ => 0)))]) H := hP
  have hD : va_D A ([(b, .inr (2, [.null, .ref q1, .ref q2, .null, .null, .null, .int 0, .int 0, .int 0, .int 0, .int 0, .int 0, .int 0, .int 0, .long 0]))] ++ [(q1, .inl (k 2, 4000, .inl (fun _ => 0)))] ++ [(q2, .inl (k 0, 4001, .inl (fun _ => 0)))]) := hD
  refine lv_aload_n hx hb d_Wd_init_22 rfl (lv_at hl 0 rfl) ?_
  refine lv_sipush (v := (4001 : Int32)) hx hb d_Wd_init_23 (by decide) ?_
  refine xq_newa (atype := .int) (ty := .int) (a0 := (4001, .inl (fun _ => 0))) (N' := 4001) hx hb (hts _ kw1_147) rfl (fun C h9 => by cases h9) hK hP hD hS hA 0 rfl (fun _ => rfl) (by decide) (by decide) (by decide) (Nat.le_of_ble_eq_true rfl) (Nat.le_of_ble_eq_true rfl) d_Wd_init_26 (fun q3 H hP hD hS => ?_)
  have hP : va_P D vwCl ([(b, .inr (2, [.null, .ref q1, .ref q2, .null, .null, .null, .int 0, .int 0, .int 0, .int 0, .int 0, .int 0, .int 0, .int 0, .long 0]))] ++ [(q1, .inl (k 2, 4000, .inl (fun _ => 0)))] ++ [(q2, .inl (k 0, 4001, .inl (fun _ => 0)))] ++ [(q3, .inl (k 0, 4001, .inl (fun _ => 0)))]) H := hP
  have hD : va_D A ([(b, .inr (2, [.null, .ref q1, .ref q2, .null, .null, .null, .int 0, .int 0, .int 0, .int 0, .int 0, .int 0, .int 0, .int 0, .long 0]))] ++ [(q1, .inl (k 2, 4000, .inl (fun _ => 0)))] ++ [(q2, .inl (k 0, 4001, .inl (fun _ => 0)))] ++ [(q3, .inl (k 0, 4001, .inl (fun _ => 0)))]) := hD
  refine va_putF (D := D) (ci := 2) (v := .ref q3) (ty := (.array .int)) (C := R_Wd) (T := F_Wd) (N := 15) hx hb hts in_Wd t_Wd t_Wd_ok n_Wd hown hK hP hD hS 0 rfl rfl 3 (by decide) (hts (.fieldLink R_Wd 19 R_Wd "places" "[I") kw1_100) (fun _ h9 => h9) rfl hnm rfl (by decide +kernel) rfl rfl (Nat.le_of_ble_eq_true rfl) d_Wd_init_28 (fun H locs hP hD hS => ?_)
  have hP : va_P D vwCl ([(b, .inr (2, [.null, .ref q1, .ref q2, .ref q3, .null, .null, .int 0, .int 0, .int 0, .int 0, .int 0, .int 0, .int 0, .int 0, .long 0]))] ++ [(q1, .inl (k 2, 4000, .inl (fun _ => 0)))] ++ [(q2, .inl (k 0, 4001, .inl (fun _ => 0)))] ++ [(q3, .inl (k 0, 4001, .inl (fun _ => 0)))]) H := hP
  have hD : va_D A ([(b, .inr (2, [.null, .ref q1, .ref q2, .ref q3, .null, .null, .int 0, .int 0, .int 0, .int 0, .int 0, .int 0, .int 0, .int 0, .long 0]))] ++ [(q1, .inl (k 2, 4000, .inl (fun _ => 0)))] ++ [(q2, .inl (k 0, 4001, .inl (fun _ => 0)))] ++ [(q3, .inl (k 0, 4001, .inl (fun _ => 0)))]) := hD
  refine lv_aload_n hx hb d_Wd_init_31 rfl (lv_at hl 0 rfl) ?_
  refine lv_sipush (v := (4001 : Int32)) hx hb d_Wd_init_32 (by decide) ?_
  refine xq_newa (atype := .int) (ty := .int) (a0 := (4001, .inl (fun _ => 0))) (N' := 4001) hx hb (hts _ kw1_147) rfl (fun C h9 => by cases h9) hK hP hD hS hA 0 rfl (fun _ => rfl) (by decide) (by decide) (by decide) (Nat.le_of_ble_eq_true rfl) (Nat.le_of_ble_eq_true rfl) d_Wd_init_35 (fun q4 H hP hD hS => ?_)
  have hP : va_P D vwCl ([(b, .inr (2, [.null, .ref q1, .ref q2, .ref q3, .null, .null, .int 0, .int 0, .int 0, .int 0, .int 0, .int 0, .int 0, .int 0, .long 0]))] ++ [(q1, .inl (k 2, 4000, .inl (fun _ => 0)))] ++ [(q2, .inl (k 0, 4001, .inl (fun _ => 0)))] ++ [(q3, .inl (k 0, 4001, .inl (fun _ => 0)))] ++ [(q4, .inl (k 0, 4001, .inl (fun _ => 0)))]) H := hP
  have hD : va_D A ([(b, .inr (2, [.null, .ref q1, .ref q2, .ref q3, .null, .null, .int 0, .int 0, .int 0, .int 0, .int 0, .int 0, .int 0, .int 0, .long 0]))] ++ [(q1, .inl (k 2, 4000, .inl (fun _ => 0)))] ++ [(q2, .inl (k 0, 4001, .inl (fun _ => 0)))] ++ [(q3, .inl (k 0, 4001, .inl (fun _ => 0)))] ++ [(q4, .inl (k 0, 4001, .inl (fun _ => 0)))]) := hD
  refine va_putF (D := D) (ci := 2) (v := .ref q4) (ty := (.array .int)) (C := R_Wd) (T := F_Wd) (N := 15) hx hb hts in_Wd t_Wd t_Wd_ok n_Wd hown hK hP hD hS 0 rfl rfl 4 (by decide) (hts (.fieldLink R_Wd 22 R_Wd "rows" "[I") kw1_101) (fun _ h9 => h9) rfl hnm rfl (by decide +kernel) rfl rfl (Nat.le_of_ble_eq_true rfl) d_Wd_init_37 (fun H locs hP hD hS => ?_)
  have hP : va_P D vwCl ([(b, .inr (2, [.null, .ref q1, .ref q2, .ref q3, .ref q4, .null, .int 0, .int 0, .int 0, .int 0, .int 0, .int 0, .int 0, .int 0, .long 0]))] ++ [(q1, .inl (k 2, 4000, .inl (fun _ => 0)))] ++ [(q2, .inl (k 0, 4001, .inl (fun _ => 0)))] ++ [(q3, .inl (k 0, 4001, .inl (fun _ => 0)))] ++ [(q4, .inl (k 0, 4001, .inl (fun _ => 0)))]) H := hP
  have hD : va_D A ([(b, .inr (2, [.null, .ref q1, .ref q2, .ref q3, .ref q4, .null, .int 0, .int 0, .int 0, .int 0, .int 0, .int 0, .int 0, .int 0, .long 0]))] ++ [(q1, .inl (k 2, 4000, .inl (fun _ => 0)))] ++ [(q2, .inl (k 0, 4001, .inl (fun _ => 0)))] ++ [(q3, .inl (k 0, 4001, .inl (fun _ => 0)))] ++ [(q4, .inl (k 0, 4001, .inl (fun _ => 0)))]) := hD
  refine lv_aload_n hx hb d_Wd_init_40 rfl (lv_at hl 0 rfl) ?_
  refine lv_sipush (v := (4001 : Int32)) hx hb d_Wd_init_41 (by decide) ?_
  refine xq_newa (atype := .long) (ty := .long) (a0 := (4001, .inr (.inl (fun _ => 0)))) (N' := 4001) hx hb (hts _ kw1_89) rfl (fun C h9 => by cases h9) hK hP hD hS hA 1 rfl (fun _ => rfl) (by decide) (by decide) (by decide) (Nat.le_of_ble_eq_true rfl) (Nat.le_of_ble_eq_true rfl) d_Wd_init_44 (fun q5 H hP hD hS => ?_)
  have hP : va_P D vwCl ([(b, .inr (2, [.null, .ref q1, .ref q2, .ref q3, .ref q4, .null, .int 0, .int 0, .int 0, .int 0, .int 0, .int 0, .int 0, .int 0, .long 0]))] ++ [(q1, .inl (k 2, 4000, .inl (fun _ => 0)))] ++ [(q2, .inl (k 0, 4001, .inl (fun _ => 0)))] ++ [(q3, .inl (k 0, 4001, .inl (fun _ => 0)))] ++ [(q4, .inl (k 0, 4001, .inl (fun _ => 0)))] ++ [(q5, .inl (k 1, 4001, .inr (.inl (fun _ => 0))))]) H := hP
  have hD : va_D A ([(b, .inr (2, [.null, .ref q1, .ref q2, .ref q3, .ref q4, .null, .int 0, .int 0, .int 0, .int 0, .int 0, .int 0, .int 0, .int 0, .long 0]))] ++ [(q1, .inl (k 2, 4000, .inl (fun _ => 0)))] ++ [(q2, .inl (k 0, 4001, .inl (fun _ => 0)))] ++ [(q3, .inl (k 0, 4001, .inl (fun _ => 0)))] ++ [(q4, .inl (k 0, 4001, .inl (fun _ => 0)))] ++ [(q5, .inl (k 1, 4001, .inr (.inl (fun _ => 0))))]) := hD
  refine va_putF (D := D) (ci := 2) (v := .ref q5) (ty := (.array .long)) (C := R_Wd) (T := F_Wd) (N := 15) hx hb hts in_Wd t_Wd t_Wd_ok n_Wd hown hK hP hD hS 0 rfl rfl 5 (by decide) (hts (.fieldLink R_Wd 25 R_Wd "values" "[J") kw1_102) (fun _ h9 => h9) rfl hnm rfl (by decide +kernel) rfl rfl (Nat.le_of_ble_eq_true rfl) d_Wd_init_46 (fun H locs hP hD hS => ?_)
  have hP : va_P D vwCl ([(b, .inr (2, [.null, .ref q1, .ref q2, .ref q3, .ref q4, .ref q5, .int 0, .int 0, .int 0, .int 0, .int 0, .int 0, .int 0, .int 0, .long 0]))] ++ [(q1, .inl (k 2, 4000, .inl (fun _ => 0)))] ++ [(q2, .inl (k 0, 4001, .inl (fun _ => 0)))] ++ [(q3, .inl (k 0, 4001, .inl (fun _ => 0)))] ++ [(q4, .inl (k 0, 4001, .inl (fun _ => 0)))] ++ [(q5, .inl (k 1, 4001, .inr (.inl (fun _ => 0))))]) H := hP
  have hD : va_D A ([(b, .inr (2, [.null, .ref q1, .ref q2, .ref q3, .ref q4, .ref q5, .int 0, .int 0, .int 0, .int 0, .int 0, .int 0, .int 0, .int 0, .long 0]))] ++ [(q1, .inl (k 2, 4000, .inl (fun _ => 0)))] ++ [(q2, .inl (k 0, 4001, .inl (fun _ => 0)))] ++ [(q3, .inl (k 0, 4001, .inl (fun _ => 0)))] ++ [(q4, .inl (k 0, 4001, .inl (fun _ => 0)))] ++ [(q5, .inl (k 1, 4001, .inr (.inl (fun _ => 0))))]) := hD
  refine lv_aload_n hx hb d_Wd_init_49 rfl (lv_at hl 0 rfl) ?_
  refine lv_aload_n hx hb d_Wd_init_50 rfl (lv_at hl 1 rfl) ?_
  refine va_putF (D := D) (ci := 2) (v := .ref a1) (ty := (.object "StepText$Keywords")) (C := R_Wd) (T := F_Wd) (N := 15) hx hb hts in_Wd t_Wd t_Wd_ok n_Wd hown hK hP hD hS 0 rfl rfl 0 (by decide) (hts (.fieldLink R_Wd 29 R_Wd "keywords" "LStepText$Keywords;") kw1_97) (fun _ h9 => h9) rfl hnm rfl (by decide +kernel) rfl rfl (Nat.le_of_ble_eq_true rfl) d_Wd_init_51 (fun H locs hP hD hS => ?_)
  have hP : va_P D vwCl ([(b, .inr (2, [.ref a1, .ref q1, .ref q2, .ref q3, .ref q4, .ref q5, .int 0, .int 0, .int 0, .int 0, .int 0, .int 0, .int 0, .int 0, .long 0]))] ++ [(q1, .inl (k 2, 4000, .inl (fun _ => 0)))] ++ [(q2, .inl (k 0, 4001, .inl (fun _ => 0)))] ++ [(q3, .inl (k 0, 4001, .inl (fun _ => 0)))] ++ [(q4, .inl (k 0, 4001, .inl (fun _ => 0)))] ++ [(q5, .inl (k 1, 4001, .inr (.inl (fun _ => 0))))]) H := hP
  have hD : va_D A ([(b, .inr (2, [.ref a1, .ref q1, .ref q2, .ref q3, .ref q4, .ref q5, .int 0, .int 0, .int 0, .int 0, .int 0, .int 0, .int 0, .int 0, .long 0]))] ++ [(q1, .inl (k 2, 4000, .inl (fun _ => 0)))] ++ [(q2, .inl (k 0, 4001, .inl (fun _ => 0)))] ++ [(q3, .inl (k 0, 4001, .inl (fun _ => 0)))] ++ [(q4, .inl (k 0, 4001, .inl (fun _ => 0)))] ++ [(q5, .inl (k 1, 4001, .inr (.inl (fun _ => 0))))]) := hD
  have hP : va_P D vwCl (w_Wd k (xq_ls (b :: [q1, q2, q3, q4, q5])) a1 ((fun _ => 0), (fun _ => 0), (fun _ => 0), (fun _ => 0), (fun _ => 0), 0, 0, 0, 0, 0, 0, 0, 0, 0)) H := hP.sub [0, 1, 2, 3, 4, 5] rfl
  have hD : va_D A (w_Wd k (xq_ls (b :: [q1, q2, q3, q4, q5])) a1 ((fun _ => 0), (fun _ => 0), (fun _ => 0), (fun _ => 0), (fun _ => 0), 0, 0, 0, 0, 0, 0, 0, 0, 0)) := hD.sub [0, 1, 2, 3, 4, 5] (by decide) rfl
  exact xq_vret (r := ()) (u := [q1, q2, q3, q4, q5]) hx hb hr hlocks hAe hP hD hS rfl trivial (Nat.le_of_ble_eq_true rfl) (Nat.le_of_ble_eq_true rfl) d_Wd_init_54
theorem ci_Wd_init {R : Room} {s : State} {args : Array Value} {own : String} {index : Nat} (hts : ∀ w ∈ xq_W, w.before args s = true) (hl : .methodLink own index y_Wd_init ∈ xq_W) {rm : Room} (hR : rm.frames + 1 ≤ R.frames ∧ 8 + (2 + 11) + rm.locals ≤ R.locals) : CallB R s args own index y_Wd_init prog_8_method_1_code 2 none (.code y_Wd_init prog_8_method_1_code 2 none :: xq_W) rm rm.cells rm.slots 1 ∧ y_Wd_init.name = "<init>" ∧ (Cond.instanceMethod y_Wd_init).before args s = true := ⟨xq_cb 1 hts kw1_95 kw1_7 hl ⟨by decide, by decide, by decide +kernel⟩ hR, rfl, hts _ kw1_94⟩
def y_Nm_init : MethodName := ⟨"StepText$Names", "<init>", "()V"⟩
theorem d_Nm_init_0 : decode prog_4_method_1_code 0 = .ok (.aload_n 0, 1) := by decide +kernel
theorem d_Nm_init_1 : decode prog_4_method_1_code 1 = .ok (.invokespecial 3, 3) := by decide +kernel
theorem d_Nm_init_4 : decode prog_4_method_1_code 4 = .ok (.aload_n 0, 1) := by decide +kernel
theorem d_Nm_init_5 : decode prog_4_method_1_code 5 = .ok (.bipush 100, 2) := by decide +kernel
theorem d_Nm_init_7 : decode prog_4_method_1_code 7 = .ok (.newarray .long, 2) := by decide +kernel
theorem d_Nm_init_9 : decode prog_4_method_1_code 9 = .ok (.putfield 9, 3) := by decide +kernel
theorem d_Nm_init_12 : decode prog_4_method_1_code 12 = .ok (.aload_n 0, 1) := by decide +kernel
theorem d_Nm_init_13 : decode prog_4_method_1_code 13 = .ok (.bipush 100, 2) := by decide +kernel
theorem d_Nm_init_15 : decode prog_4_method_1_code 15 = .ok (.newarray .int, 2) := by decide +kernel
theorem d_Nm_init_17 : decode prog_4_method_1_code 17 = .ok (.putfield 15, 3) := by decide +kernel
theorem d_Nm_init_20 : decode prog_4_method_1_code 20 = .ok (.aload_n 0, 1) := by decide +kernel
theorem d_Nm_init_21 : decode prog_4_method_1_code 21 = .ok (.bipush 100, 2) := by decide +kernel
theorem d_Nm_init_23 : decode prog_4_method_1_code 23 = .ok (.newarray .int, 2) := by decide +kernel
theorem d_Nm_init_25 : decode prog_4_method_1_code 25 = .ok (.putfield 19, 3) := by decide +kernel
theorem d_Nm_init_28 : decode prog_4_method_1_code 28 = .ok (.aload_n 0, 1) := by decide +kernel
theorem d_Nm_init_29 : decode prog_4_method_1_code 29 = .ok (.bipush 100, 2) := by decide +kernel
theorem d_Nm_init_31 : decode prog_4_method_1_code 31 = .ok (.newarray .boolean, 2) := by decide +kernel
theorem d_Nm_init_33 : decode prog_4_method_1_code 33 = .ok (.putfield 22, 3) := by decide +kernel
theorem d_Nm_init_36 : decode prog_4_method_1_code 36 = .ok (.return_, 1) := by decide +kernel
def rm_Nm_init : Room := { frames := 1, cells := 4, slots := 400, locals := 20 }
set_option maxHeartbeats 4000000 in
set_option maxRecDepth 100000 in
theorem c_Nm_init {l : Launch} {o : State × Array Value} {D : va_G} {k : Nat → ClassId} {b : Nat}  : xq_C l o y_Nm_init (.code y_Nm_init prog_4_method_1_code 1 none :: xq_W) rm_Nm_init D vwCl (xt k) [.ref b] ([(b, .inr (3, [.null, .null, .null, .null, .int 0]))]) (fun _ : Unit => none) (fun _ _ => True) (fun _ : List Nat => False) (fun u : List Nat => w_Nm k (xq_ls (b :: u)) ((fun _ => 0), (fun _ => 0), (fun _ => 0), (fun _ => 0), 0)) 4 400 0 0 := by
  refine xq_ofW (cc := prog_4_method_1_code) (maxL := 1) (ret := none) (by decide) rfl (Nat.le_of_ble_eq_true rfl) ?_
  intro p e s m below meth c ls H locs A hAt hAe hA hl hK hJ hP0 hP hD hS
  obtain ⟨hx, hb, hml, hr, hlocks, hown, hts, hex, hnm⟩ := id hAt
  have hl : lv_has ls 1 [(0, .ref b)] := hl
  refine lv_aload_n hx hb d_Nm_init_0 rfl (lv_at hl 0 rfl) ?_
  refine W.objInit hx hb hown (hts _ kw1_159) (hts _ kw1_24) (hts _ kw1_25) (g := F0 m 1 ls (.ref b :: [])) rfl (hl.1.trans hml.symm) rfl d_Nm_init_1 (Nat.le_of_ble_eq_true rfl) (Nat.le_trans (Nat.add_le_add_right (lv_room (Nat.le_of_ble_eq_true rfl)) 12) (Nat.le_of_ble_eq_true rfl)) (W.eq (g2 := F0 m 4 ls []) rfl ?_)
  refine lv_aload_n hx hb d_Nm_init_4 rfl (lv_at hl 0 rfl) ?_
  refine lv_bipush (v := (100 : Int32)) hx hb d_Nm_init_5 (by decide) ?_
  refine xq_newa (atype := .long) (ty := .long) (a0 := (100, .inr (.inl (fun _ => 0)))) (N' := 100) hx hb (hts _ kw1_89) rfl (fun C h9 => by cases h9) hK hP hD hS hA 1 rfl (fun _ => rfl) (by decide) (by decide) (by decide) (Nat.le_of_ble_eq_true rfl) (Nat.le_of_ble_eq_true rfl) d_Nm_init_7 (fun q1 H hP hD hS => ?_)
  have hP : va_P D vwCl ([(b, .inr (3, [.null, .null, .null, .null, .int 0]))] ++ [(q1, .inl (k 1, 100, .inr (.inl (fun _ => 0))))]) H := hP
  have hD : va_D A ([(b, .inr (3, [.null, .null, .null, .null, .int 0]))] ++ [(q1, .inl (k 1, 100, .inr (.inl (fun _ => 0))))]) := hD
  refine va_putF (D := D) (ci := 3) (v := .ref q1) (ty := (.array .long)) (C := R_Nm) (T := F_Nm) (N := 5) hx hb hts in_Nm t_Nm t_Nm_ok n_Nm hown hK hP hD hS 0 rfl rfl 0 (by decide) (hts (.fieldLink R_Nm 9 R_Nm "letters" "[J") kw1_160) (fun _ h9 => h9) rfl hnm rfl (by decide +kernel) rfl rfl (Nat.le_of_ble_eq_true rfl) d_Nm_init_9 (fun H locs hP hD hS => ?_)
  have hP : va_P D vwCl ([(b, .inr (3, [.ref q1, .null, .null, .null, .int 0]))] ++ [(q1, .inl (k 1, 100, .inr (.inl (fun _ => 0))))]) H := hP
  have hD : va_D A ([(b, .inr (3, [.ref q1, .null, .null, .null, .int 0]))] ++ [(q1, .inl (k 1, 100, .inr (.inl (fun _ => 0))))]) := hD
  refine lv_aload_n hx hb d_Nm_init_12 rfl (lv_at hl 0 rfl) ?_
  refine lv_bipush (v := (100 : Int32)) hx hb d_Nm_init_13 (by decide) ?_
  refine xq_newa (atype := .int) (ty := .int) (a0 := (100, .inl (fun _ => 0))) (N' := 100) hx hb (hts _ kw1_147) rfl (fun C h9 => by cases h9) hK hP hD hS hA 0 rfl (fun _ => rfl) (by decide) (by decide) (by decide) (Nat.le_of_ble_eq_true rfl) (Nat.le_of_ble_eq_true rfl) d_Nm_init_15 (fun q2 H hP hD hS => ?_)
  have hP : va_P D vwCl ([(b, .inr (3, [.ref q1, .null, .null, .null, .int 0]))] ++ [(q1, .inl (k 1, 100, .inr (.inl (fun _ => 0))))] ++ [(q2, .inl (k 0, 100, .inl (fun _ => 0)))]) H := hP
  have hD : va_D A ([(b, .inr (3, [.ref q1, .null, .null, .null, .int 0]))] ++ [(q1, .inl (k 1, 100, .inr (.inl (fun _ => 0))))] ++ [(q2, .inl (k 0, 100, .inl (fun _ => 0)))]) := hD
  refine va_putF (D := D) (ci := 3) (v := .ref q2) (ty := (.array .int)) (C := R_Nm) (T := F_Nm) (N := 5) hx hb hts in_Nm t_Nm t_Nm_ok n_Nm hown hK hP hD hS 0 rfl rfl 1 (by decide) (hts (.fieldLink R_Nm 15 R_Nm "sorts" "[I") kw1_161) (fun _ h9 => h9) rfl hnm rfl (by decide +kernel) rfl rfl (Nat.le_of_ble_eq_true rfl) d_Nm_init_17 (fun H locs hP hD hS => ?_)
  have hP : va_P D vwCl ([(b, .inr (3, [.ref q1, .ref q2, .null, .null, .int 0]))] ++ [(q1, .inl (k 1, 100, .inr (.inl (fun _ => 0))))] ++ [(q2, .inl (k 0, 100, .inl (fun _ => 0)))]) H := hP
  have hD : va_D A ([(b, .inr (3, [.ref q1, .ref q2, .null, .null, .int 0]))] ++ [(q1, .inl (k 1, 100, .inr (.inl (fun _ => 0))))] ++ [(q2, .inl (k 0, 100, .inl (fun _ => 0)))]) := hD
  refine lv_aload_n hx hb d_Nm_init_20 rfl (lv_at hl 0 rfl) ?_
  refine lv_bipush (v := (100 : Int32)) hx hb d_Nm_init_21 (by decide) ?_
  refine xq_newa (atype := .int) (ty := .int) (a0 := (100, .inl (fun _ => 0))) (N' := 100) hx hb (hts _ kw1_147) rfl (fun C h9 => by cases h9) hK hP hD hS hA 0 rfl (fun _ => rfl) (by decide) (by decide) (by decide) (Nat.le_of_ble_eq_true rfl) (Nat.le_of_ble_eq_true rfl) d_Nm_init_23 (fun q3 H hP hD hS => ?_)
  have hP : va_P D vwCl ([(b, .inr (3, [.ref q1, .ref q2, .null, .null, .int 0]))] ++ [(q1, .inl (k 1, 100, .inr (.inl (fun _ => 0))))] ++ [(q2, .inl (k 0, 100, .inl (fun _ => 0)))] ++ [(q3, .inl (k 0, 100, .inl (fun _ => 0)))]) H := hP
  have hD : va_D A ([(b, .inr (3, [.ref q1, .ref q2, .null, .null, .int 0]))] ++ [(q1, .inl (k 1, 100, .inr (.inl (fun _ => 0))))] ++ [(q2, .inl (k 0, 100, .inl (fun _ => 0)))] ++ [(q3, .inl (k 0, 100, .inl (fun _ => 0)))]) := hD
  refine va_putF (D := D) (ci := 3) (v := .ref q3) (ty := (.array .int)) (C := R_Nm) (T := F_Nm) (N := 5) hx hb hts in_Nm t_Nm t_Nm_ok n_Nm hown hK hP hD hS 0 rfl rfl 2 (by decide) (hts (.fieldLink R_Nm 19 R_Nm "measures" "[I") kw1_162) (fun _ h9 => h9) rfl hnm rfl (by decide +kernel) rfl rfl (Nat.le_of_ble_eq_true rfl) d_Nm_init_25 (fun H locs hP hD hS => ?_)
  have hP : va_P D vwCl ([(b, .inr (3, [.ref q1, .ref q2, .ref q3, .null, .int 0]))] ++ [(q1, .inl (k 1, 100, .inr (.inl (fun _ => 0))))] ++ [(q2, .inl (k 0, 100, .inl (fun _ => 0)))] ++ [(q3, .inl (k 0, 100, .inl (fun _ => 0)))]) H := hP
  have hD : va_D A ([(b, .inr (3, [.ref q1, .ref q2, .ref q3, .null, .int 0]))] ++ [(q1, .inl (k 1, 100, .inr (.inl (fun _ => 0))))] ++ [(q2, .inl (k 0, 100, .inl (fun _ => 0)))] ++ [(q3, .inl (k 0, 100, .inl (fun _ => 0)))]) := hD
  refine lv_aload_n hx hb d_Nm_init_28 rfl (lv_at hl 0 rfl) ?_
  refine lv_bipush (v := (100 : Int32)) hx hb d_Nm_init_29 (by decide) ?_
  refine xq_newa (atype := .boolean) (ty := .boolean) (a0 := (100, .inl (fun _ => 0))) (N' := 100) hx hb (hts _ kw1_176) rfl (fun C h9 => by cases h9) hK hP hD hS hA 3 rfl (fun _ => rfl) (by decide) (by decide) (by decide) (Nat.le_of_ble_eq_true rfl) (Nat.le_of_ble_eq_true rfl) d_Nm_init_31 (fun q4 H hP hD hS => ?_)
  have hP : va_P D vwCl ([(b, .inr (3, [.ref q1, .ref q2, .ref q3, .null, .int 0]))] ++ [(q1, .inl (k 1, 100, .inr (.inl (fun _ => 0))))] ++ [(q2, .inl (k 0, 100, .inl (fun _ => 0)))] ++ [(q3, .inl (k 0, 100, .inl (fun _ => 0)))] ++ [(q4, .inl (k 3, 100, .inl (fun _ => 0)))]) H := hP
  have hD : va_D A ([(b, .inr (3, [.ref q1, .ref q2, .ref q3, .null, .int 0]))] ++ [(q1, .inl (k 1, 100, .inr (.inl (fun _ => 0))))] ++ [(q2, .inl (k 0, 100, .inl (fun _ => 0)))] ++ [(q3, .inl (k 0, 100, .inl (fun _ => 0)))] ++ [(q4, .inl (k 3, 100, .inl (fun _ => 0)))]) := hD
  refine va_putF (D := D) (ci := 3) (v := .ref q4) (ty := (.array .boolean)) (C := R_Nm) (T := F_Nm) (N := 5) hx hb hts in_Nm t_Nm t_Nm_ok n_Nm hown hK hP hD hS 0 rfl rfl 3 (by decide) (hts (.fieldLink R_Nm 22 R_Nm "used" "[Z") kw1_163) (fun _ h9 => h9) rfl hnm rfl (by decide +kernel) rfl rfl (Nat.le_of_ble_eq_true rfl) d_Nm_init_33 (fun H locs hP hD hS => ?_)
  have hP : va_P D vwCl ([(b, .inr (3, [.ref q1, .ref q2, .ref q3, .ref q4, .int 0]))] ++ [(q1, .inl (k 1, 100, .inr (.inl (fun _ => 0))))] ++ [(q2, .inl (k 0, 100, .inl (fun _ => 0)))] ++ [(q3, .inl (k 0, 100, .inl (fun _ => 0)))] ++ [(q4, .inl (k 3, 100, .inl (fun _ => 0)))]) H := hP
  have hD : va_D A ([(b, .inr (3, [.ref q1, .ref q2, .ref q3, .ref q4, .int 0]))] ++ [(q1, .inl (k 1, 100, .inr (.inl (fun _ => 0))))] ++ [(q2, .inl (k 0, 100, .inl (fun _ => 0)))] ++ [(q3, .inl (k 0, 100, .inl (fun _ => 0)))] ++ [(q4, .inl (k 3, 100, .inl (fun _ => 0)))]) := hD
  have hP : va_P D vwCl (w_Nm k (xq_ls (b :: [q1, q2, q3, q4])) ((fun _ => 0), (fun _ => 0), (fun _ => 0), (fun _ => 0), 0)) H := hP.sub [0, 1, 2, 3, 4] rfl
  have hD : va_D A (w_Nm k (xq_ls (b :: [q1, q2, q3, q4])) ((fun _ => 0), (fun _ => 0), (fun _ => 0), (fun _ => 0), 0)) := hD.sub [0, 1, 2, 3, 4] (by decide) rfl
  exact xq_vret (r := ()) (u := [q1, q2, q3, q4]) hx hb hr hlocks hAe hP hD hS rfl trivial (Nat.le_of_ble_eq_true rfl) (Nat.le_of_ble_eq_true rfl) d_Nm_init_36
theorem cn_Nm_init {R : Room} {s : State} {args : Array Value} {own host : String} {index : Nat} (hts : ∀ w ∈ xq_W, w.before args s = true) (hl : (Cond.methodLinkNest own index y_Nm_init host).before args s = true) {rm : Room} (hR : rm.frames + 1 ≤ R.frames ∧ 8 + (1 + 11) + rm.locals ≤ R.locals) : va_CN R s args own index y_Nm_init host prog_4_method_1_code 1 none (.code y_Nm_init prog_4_method_1_code 1 none :: xq_W) rm rm.cells rm.slots 0 ∧ y_Nm_init.name = "<init>" ∧ (Cond.instanceMethod y_Nm_init).before args s = true := ⟨xq_cbN 0 hts kw1_158 kw1_9 hl ⟨by decide, by decide, by decide +kernel⟩ hR, rfl, hts _ kw1_157⟩
def y_Nd_init : MethodName := ⟨"StepText$Nodes", "<init>", "()V"⟩
theorem d_Nd_init_0 : decode prog_5_method_1_code 0 = .ok (.aload_n 0, 1) := by decide +kernel
theorem d_Nd_init_1 : decode prog_5_method_1_code 1 = .ok (.invokespecial 3, 3) := by decide +kernel
theorem d_Nd_init_4 : decode prog_5_method_1_code 4 = .ok (.aload_n 0, 1) := by decide +kernel
theorem d_Nd_init_5 : decode prog_5_method_1_code 5 = .ok (.sipush 1070, 3) := by decide +kernel
theorem d_Nd_init_8 : decode prog_5_method_1_code 8 = .ok (.newarray .int, 2) := by decide +kernel
theorem d_Nd_init_10 : decode prog_5_method_1_code 10 = .ok (.putfield 11, 3) := by decide +kernel
theorem d_Nd_init_13 : decode prog_5_method_1_code 13 = .ok (.aload_n 0, 1) := by decide +kernel
theorem d_Nd_init_14 : decode prog_5_method_1_code 14 = .ok (.sipush 1070, 3) := by decide +kernel
theorem d_Nd_init_17 : decode prog_5_method_1_code 17 = .ok (.newarray .int, 2) := by decide +kernel
theorem d_Nd_init_19 : decode prog_5_method_1_code 19 = .ok (.putfield 15, 3) := by decide +kernel
theorem d_Nd_init_22 : decode prog_5_method_1_code 22 = .ok (.aload_n 0, 1) := by decide +kernel
theorem d_Nd_init_23 : decode prog_5_method_1_code 23 = .ok (.sipush 1070, 3) := by decide +kernel
theorem d_Nd_init_26 : decode prog_5_method_1_code 26 = .ok (.newarray .long, 2) := by decide +kernel
theorem d_Nd_init_28 : decode prog_5_method_1_code 28 = .ok (.putfield 18, 3) := by decide +kernel
theorem d_Nd_init_31 : decode prog_5_method_1_code 31 = .ok (.aload_n 0, 1) := by decide +kernel
theorem d_Nd_init_32 : decode prog_5_method_1_code 32 = .ok (.sipush 1070, 3) := by decide +kernel
theorem d_Nd_init_35 : decode prog_5_method_1_code 35 = .ok (.newarray .int, 2) := by decide +kernel
theorem d_Nd_init_37 : decode prog_5_method_1_code 37 = .ok (.putfield 22, 3) := by decide +kernel
theorem d_Nd_init_40 : decode prog_5_method_1_code 40 = .ok (.aload_n 0, 1) := by decide +kernel
theorem d_Nd_init_41 : decode prog_5_method_1_code 41 = .ok (.sipush 1070, 3) := by decide +kernel
theorem d_Nd_init_44 : decode prog_5_method_1_code 44 = .ok (.newarray .int, 2) := by decide +kernel
theorem d_Nd_init_46 : decode prog_5_method_1_code 46 = .ok (.putfield 25, 3) := by decide +kernel
theorem d_Nd_init_49 : decode prog_5_method_1_code 49 = .ok (.aload_n 0, 1) := by decide +kernel
theorem d_Nd_init_50 : decode prog_5_method_1_code 50 = .ok (.sipush 1070, 3) := by decide +kernel
theorem d_Nd_init_53 : decode prog_5_method_1_code 53 = .ok (.newarray .int, 2) := by decide +kernel
theorem d_Nd_init_55 : decode prog_5_method_1_code 55 = .ok (.putfield 28, 3) := by decide +kernel
theorem d_Nd_init_58 : decode prog_5_method_1_code 58 = .ok (.aload_n 0, 1) := by decide +kernel
theorem d_Nd_init_59 : decode prog_5_method_1_code 59 = .ok (.sipush 1070, 3) := by decide +kernel
theorem d_Nd_init_62 : decode prog_5_method_1_code 62 = .ok (.newarray .int, 2) := by decide +kernel
theorem d_Nd_init_64 : decode prog_5_method_1_code 64 = .ok (.putfield 31, 3) := by decide +kernel
theorem d_Nd_init_67 : decode prog_5_method_1_code 67 = .ok (.aload_n 0, 1) := by decide +kernel
theorem d_Nd_init_68 : decode prog_5_method_1_code 68 = .ok (.sipush 1070, 3) := by decide +kernel
theorem d_Nd_init_71 : decode prog_5_method_1_code 71 = .ok (.newarray .int, 2) := by decide +kernel
theorem d_Nd_init_73 : decode prog_5_method_1_code 73 = .ok (.putfield 34, 3) := by decide +kernel
theorem d_Nd_init_76 : decode prog_5_method_1_code 76 = .ok (.aload_n 0, 1) := by decide +kernel
theorem d_Nd_init_77 : decode prog_5_method_1_code 77 = .ok (.sipush 1070, 3) := by decide +kernel
theorem d_Nd_init_80 : decode prog_5_method_1_code 80 = .ok (.newarray .int, 2) := by decide +kernel
theorem d_Nd_init_82 : decode prog_5_method_1_code 82 = .ok (.putfield 37, 3) := by decide +kernel
theorem d_Nd_init_85 : decode prog_5_method_1_code 85 = .ok (.aload_n 0, 1) := by decide +kernel
theorem d_Nd_init_86 : decode prog_5_method_1_code 86 = .ok (.sipush 1070, 3) := by decide +kernel
theorem d_Nd_init_89 : decode prog_5_method_1_code 89 = .ok (.newarray .boolean, 2) := by decide +kernel
theorem d_Nd_init_91 : decode prog_5_method_1_code 91 = .ok (.putfield 40, 3) := by decide +kernel
theorem d_Nd_init_94 : decode prog_5_method_1_code 94 = .ok (.aload_n 0, 1) := by decide +kernel
theorem d_Nd_init_95 : decode prog_5_method_1_code 95 = .ok (.iconst (-1), 1) := by decide +kernel
theorem d_Nd_init_96 : decode prog_5_method_1_code 96 = .ok (.putfield 44, 3) := by decide +kernel
theorem d_Nd_init_99 : decode prog_5_method_1_code 99 = .ok (.return_, 1) := by decide +kernel
def rm_Nd_init : Room := { frames := 1, cells := 10, slots := 10700, locals := 20 }
set_option maxHeartbeats 4000000 in
set_option maxRecDepth 100000 in
theorem c_Nd_init {l : Launch} {o : State × Array Value} {D : va_G} {k : Nat → ClassId} {b : Nat}  : xq_C l o y_Nd_init (.code y_Nd_init prog_5_method_1_code 1 none :: xq_W) rm_Nd_init D vwCl (xt k) [.ref b] ([(b, .inr (4, [.null, .null, .null, .null, .null, .null, .null, .null, .null, .null, .int 0, .int 0, .int 0, .int 0]))]) (fun _ : Unit => none) (fun _ _ => True) (fun _ : List Nat => False) (fun u : List Nat => w_Nd k (xq_ls (b :: u)) ((fun _ => 0), (fun _ => 0), (fun _ => 0), (fun _ => 0), (fun _ => 0), (fun _ => 0), (fun _ => 0), (fun _ => 0), (fun _ => 0), (fun _ => 0), 0, (-1 : Int32), 0, 0)) 10 10700 0 0 := by
  refine xq_ofW (cc := prog_5_method_1_code) (maxL := 1) (ret := none) (by decide) rfl (Nat.le_of_ble_eq_true rfl) ?_
  intro p e s m below meth c ls H locs A hAt hAe hA hl hK hJ hP0 hP hD hS
  obtain ⟨hx, hb, hml, hr, hlocks, hown, hts, hex, hnm⟩ := id hAt
  have hl : lv_has ls 1 [(0, .ref b)] := hl
  refine lv_aload_n hx hb d_Nd_init_0 rfl (lv_at hl 0 rfl) ?_
  refine W.objInit hx hb hown (hts _ kw1_182) (hts _ kw1_24) (hts _ kw1_25) (g := F0 m 1 ls (.ref b :: [])) rfl (hl.1.trans hml.symm) rfl d_Nd_init_1 (Nat.le_of_ble_eq_true rfl) (Nat.le_trans (Nat.add_le_add_right (lv_room (Nat.le_of_ble_eq_true rfl)) 12) (Nat.le_of_ble_eq_true rfl)) (W.eq (g2 := F0 m 4 ls []) rfl ?_)
  refine lv_aload_n hx hb d_Nd_init_4 rfl (lv_at hl 0 rfl) ?_
  refine lv_sipush (v := (1070 : Int32)) hx hb d_Nd_init_5 (by decide) ?_
  refine xq_newa (atype := .int) (ty := .int) (a0 := (1070, .inl (fun _ => 0))) (N' := 1070) hx hb (hts _ kw1_147) rfl (fun C h9 => by cases h9) hK hP hD hS hA 0 rfl (fun _ => rfl) (by decide) (by decide) (by decide) (Nat.le_of_ble_eq_true rfl) (Nat.le_of_ble_eq_true rfl) d_Nd_init_8 (fun q1 H hP hD hS => ?_)
  have hP : va_P D vwCl ([(b, .inr (4, [.null, .null, .null, .null, .null, .null, .null, .null, .null, .null, .int 0, .int 0, .int 0, .int 0]))] ++ [(q1, .inl (k 0, 1070, .inl (fun _ => 0)))]) H := hP
  have hD : va_D A ([(b, .inr (4, [.null, .null, .null, .null, .null, .null, .null, .null, .null, .null, .int 0, .int 0, .int 0, .int 0]))] ++ [(q1, .inl (k 0, 1070, .inl (fun _ => 0)))]) := hD
  refine va_putF (D := D) (ci := 4) (v := .ref q1) (ty := (.array .int)) (C := R_Nd) (T := F_Nd) (N := 14) hx hb hts in_Nd t_Nd t_Nd_ok n_Nd hown hK hP hD hS 0 rfl rfl 0 (by decide) (hts (.fieldLink R_Nd 11 R_Nd "kinds" "[I") kw1_183) (fun _ h9 => h9) rfl hnm rfl (by decide +kernel) rfl rfl (Nat.le_of_ble_eq_true rfl) d_Nd_init_10 (fun H locs hP hD hS => ?_)
  have hP : va_P D vwCl ([(b, .inr (4, [.ref q1, .null, .null, .null, .null, .null, .null, .null, .null, .null, .int 0, .int 0, .int 0, .int 0]))] ++ [(q1, .inl (k 0, 1070, .inl (fun _ => 0)))]) H := hP
  have hD : va_D A ([(b, .inr (4, [.ref q1, .null, .null, .null, .null, .null, .null, .null, .null, .null, .int 0, .int 0, .int 0, .int 0]))] ++ [(q1, .inl (k 0, 1070, .inl (fun _ => 0)))]) := hD
  refine lv_aload_n hx hb d_Nd_init_13 rfl (lv_at hl 0 rfl) ?_
  refine lv_sipush (v := (1070 : Int32)) hx hb d_Nd_init_14 (by decide) ?_
  refine xq_newa (atype := .int) (ty := .int) (a0 := (1070, .inl (fun _ => 0))) (N' := 1070) hx hb (hts _ kw1_147) rfl (fun C h9 => by cases h9) hK hP hD hS hA 0 rfl (fun _ => rfl) (by decide) (by decide) (by decide) (Nat.le_of_ble_eq_true rfl) (Nat.le_of_ble_eq_true rfl) d_Nd_init_17 (fun q2 H hP hD hS => ?_)
  have hP : va_P D vwCl ([(b, .inr (4, [.ref q1, .null, .null, .null, .null, .null, .null, .null, .null, .null, .int 0, .int 0, .int 0, .int 0]))] ++ [(q1, .inl (k 0, 1070, .inl (fun _ => 0)))] ++ [(q2, .inl (k 0, 1070, .inl (fun _ => 0)))]) H := hP
  have hD : va_D A ([(b, .inr (4, [.ref q1, .null, .null, .null, .null, .null, .null, .null, .null, .null, .int 0, .int 0, .int 0, .int 0]))] ++ [(q1, .inl (k 0, 1070, .inl (fun _ => 0)))] ++ [(q2, .inl (k 0, 1070, .inl (fun _ => 0)))]) := hD
  refine va_putF (D := D) (ci := 4) (v := .ref q2) (ty := (.array .int)) (C := R_Nd) (T := F_Nd) (N := 14) hx hb hts in_Nd t_Nd t_Nd_ok n_Nd hown hK hP hD hS 0 rfl rfl 1 (by decide) (hts (.fieldLink R_Nd 15 R_Nd "rows" "[I") kw1_184) (fun _ h9 => h9) rfl hnm rfl (by decide +kernel) rfl rfl (Nat.le_of_ble_eq_true rfl) d_Nd_init_19 (fun H locs hP hD hS => ?_)
  have hP : va_P D vwCl ([(b, .inr (4, [.ref q1, .ref q2, .null, .null, .null, .null, .null, .null, .null, .null, .int 0, .int 0, .int 0, .int 0]))] ++ [(q1, .inl (k 0, 1070, .inl (fun _ => 0)))] ++ [(q2, .inl (k 0, 1070, .inl (fun _ => 0)))]) H := hP
  have hD : va_D A ([(b, .inr (4, [.ref q1, .ref q2, .null, .null, .null, .null, .null, .null, .null, .null, .int 0, .int 0, .int 0, .int 0]))] ++ [(q1, .inl (k 0, 1070, .inl (fun _ => 0)))] ++ [(q2, .inl (k 0, 1070, .inl (fun _ => 0)))]) := hD
  refine lv_aload_n hx hb d_Nd_init_22 rfl (lv_at hl 0 rfl) ?_
  refine lv_sipush (v := (1070 : Int32)) hx hb d_Nd_init_23 (by decide) ?_
  refine xq_newa (atype := .long) (ty := .long) (a0 := (1070, .inr (.inl (fun _ => 0)))) (N' := 1070) hx hb (hts _ kw1_89) rfl (fun C h9 => by cases h9) hK hP hD hS hA 1 rfl (fun _ => rfl) (by decide) (by decide) (by decide) (Nat.le_of_ble_eq_true rfl) (Nat.le_of_ble_eq_true rfl) d_Nd_init_26 (fun q3 H hP hD hS => ?_)
  have hP : va_P D vwCl ([(b, .inr (4, [.ref q1, .ref q2, .null, .null, .null, .null, .null, .null, .null, .null, .int 0, .int 0, .int 0, .int 0]))] ++ [(q1, .inl (k 0, 1070, .inl (fun _ => 0)))] ++ [(q2, .inl (k 0, 1070, .inl (fun _ => 0)))] ++ [(q3, .inl (k 1, 1070, .inr (.inl (fun _ => 0))))]) H := hP
  have hD : va_D A ([(b, .inr (4, [.ref q1, .ref q2, .null, .null, .null, .null, .null, .null, .null, .null, .int 0, .int 0, .int 0, .int 0]))] ++ [(q1, .inl (k 0, 1070, .inl (fun _ => 0)))] ++ [(q2, .inl (k 0, 1070, .inl (fun _ => 0)))] ++ [(q3, .inl (k 1, 1070, .inr (.inl (fun _ => 0))))]) := hD
  refine va_putF (D := D) (ci := 4) (v := .ref q3) (ty := (.array .long)) (C := R_Nd) (T := F_Nd) (N := 14) hx hb hts in_Nd t_Nd t_Nd_ok n_Nd hown hK hP hD hS 0 rfl rfl 2 (by decide) (hts (.fieldLink R_Nd 18 R_Nd "values" "[J") kw1_185) (fun _ h9 => h9) rfl hnm rfl (by decide +kernel) rfl rfl (Nat.le_of_ble_eq_true rfl) d_Nd_init_28 (fun H locs hP hD hS => ?_)
  have hP : va_P D vwCl ([(b, .inr (4, [.ref q1, .ref q2, .ref q3, .null, .null, .null, .null, .null, .null, .null, .int 0, .int 0, .int 0, .int 0]))] ++ [(q1, .inl (k 0, 1070, .inl (fun _ => 0)))] ++ [(q2, .inl (k 0, 1070, .inl (fun _ => 0)))] ++ [(q3, .inl (k 1, 1070, .inr (.inl (fun _ => 0))))]) H := hP
  have hD : va_D A ([(b, .inr (4, [.ref q1, .ref q2, .ref q3, .null, .null, .null, .null, .null, .null, .null, .int 0, .int 0, .int 0, .int 0]))] ++ [(q1, .inl (k 0, 1070, .inl (fun _ => 0)))] ++ [(q2, .inl (k 0, 1070, .inl (fun _ => 0)))] ++ [(q3, .inl (k 1, 1070, .inr (.inl (fun _ => 0))))]) := hD
  refine lv_aload_n hx hb d_Nd_init_31 rfl (lv_at hl 0 rfl) ?_
  refine lv_sipush (v := (1070 : Int32)) hx hb d_Nd_init_32 (by decide) ?_
  refine xq_newa (atype := .int) (ty := .int) (a0 := (1070, .inl (fun _ => 0))) (N' := 1070) hx hb (hts _ kw1_147) rfl (fun C h9 => by cases h9) hK hP hD hS hA 0 rfl (fun _ => rfl) (by decide) (by decide) (by decide) (Nat.le_of_ble_eq_true rfl) (Nat.le_of_ble_eq_true rfl) d_Nd_init_35 (fun q4 H hP hD hS => ?_)
  have hP : va_P D vwCl ([(b, .inr (4, [.ref q1, .ref q2, .ref q3, .null, .null, .null, .null, .null, .null, .null, .int 0, .int 0, .int 0, .int 0]))] ++ [(q1, .inl (k 0, 1070, .inl (fun _ => 0)))] ++ [(q2, .inl (k 0, 1070, .inl (fun _ => 0)))] ++ [(q3, .inl (k 1, 1070, .inr (.inl (fun _ => 0))))] ++ [(q4, .inl (k 0, 1070, .inl (fun _ => 0)))]) H := hP
  have hD : va_D A ([(b, .inr (4, [.ref q1, .ref q2, .ref q3, .null, .null, .null, .null, .null, .null, .null, .int 0, .int 0, .int 0, .int 0]))] ++ [(q1, .inl (k 0, 1070, .inl (fun _ => 0)))] ++ [(q2, .inl (k 0, 1070, .inl (fun _ => 0)))] ++ [(q3, .inl (k 1, 1070, .inr (.inl (fun _ => 0))))] ++ [(q4, .inl (k 0, 1070, .inl (fun _ => 0)))]) := hD
  refine va_putF (D := D) (ci := 4) (v := .ref q4) (ty := (.array .int)) (C := R_Nd) (T := F_Nd) (N := 14) hx hb hts in_Nd t_Nd t_Nd_ok n_Nd hown hK hP hD hS 0 rfl rfl 3 (by decide) (hts (.fieldLink R_Nd 22 R_Nd "measures" "[I") kw1_186) (fun _ h9 => h9) rfl hnm rfl (by decide +kernel) rfl rfl (Nat.le_of_ble_eq_true rfl) d_Nd_init_37 (fun H locs hP hD hS => ?_)
  have hP : va_P D vwCl ([(b, .inr (4, [.ref q1, .ref q2, .ref q3, .ref q4, .null, .null, .null, .null, .null, .null, .int 0, .int 0, .int 0, .int 0]))] ++ [(q1, .inl (k 0, 1070, .inl (fun _ => 0)))] ++ [(q2, .inl (k 0, 1070, .inl (fun _ => 0)))] ++ [(q3, .inl (k 1, 1070, .inr (.inl (fun _ => 0))))] ++ [(q4, .inl (k 0, 1070, .inl (fun _ => 0)))]) H := hP
  have hD : va_D A ([(b, .inr (4, [.ref q1, .ref q2, .ref q3, .ref q4, .null, .null, .null, .null, .null, .null, .int 0, .int 0, .int 0, .int 0]))] ++ [(q1, .inl (k 0, 1070, .inl (fun _ => 0)))] ++ [(q2, .inl (k 0, 1070, .inl (fun _ => 0)))] ++ [(q3, .inl (k 1, 1070, .inr (.inl (fun _ => 0))))] ++ [(q4, .inl (k 0, 1070, .inl (fun _ => 0)))]) := hD
  refine lv_aload_n hx hb d_Nd_init_40 rfl (lv_at hl 0 rfl) ?_
  refine lv_sipush (v := (1070 : Int32)) hx hb d_Nd_init_41 (by decide) ?_
  refine xq_newa (atype := .int) (ty := .int) (a0 := (1070, .inl (fun _ => 0))) (N' := 1070) hx hb (hts _ kw1_147) rfl (fun C h9 => by cases h9) hK hP hD hS hA 0 rfl (fun _ => rfl) (by decide) (by decide) (by decide) (Nat.le_of_ble_eq_true rfl) (Nat.le_of_ble_eq_true rfl) d_Nd_init_44 (fun q5 H hP hD hS => ?_)
  have hP : va_P D vwCl ([(b, .inr (4, [.ref q1, .ref q2, .ref q3, .ref q4, .null, .null, .null, .null, .null, .null, .int 0, .int 0, .int 0, .int 0]))] ++ [(q1, .inl (k 0, 1070, .inl (fun _ => 0)))] ++ [(q2, .inl (k 0, 1070, .inl (fun _ => 0)))] ++ [(q3, .inl (k 1, 1070, .inr (.inl (fun _ => 0))))] ++ [(q4, .inl (k 0, 1070, .inl (fun _ => 0)))] ++ [(q5, .inl (k 0, 1070, .inl (fun _ => 0)))]) H := hP
  have hD : va_D A ([(b, .inr (4, [.ref q1, .ref q2, .ref q3, .ref q4, .null, .null, .null, .null, .null, .null, .int 0, .int 0, .int 0, .int 0]))] ++ [(q1, .inl (k 0, 1070, .inl (fun _ => 0)))] ++ [(q2, .inl (k 0, 1070, .inl (fun _ => 0)))] ++ [(q3, .inl (k 1, 1070, .inr (.inl (fun _ => 0))))] ++ [(q4, .inl (k 0, 1070, .inl (fun _ => 0)))] ++ [(q5, .inl (k 0, 1070, .inl (fun _ => 0)))]) := hD
  refine va_putF (D := D) (ci := 4) (v := .ref q5) (ty := (.array .int)) (C := R_Nd) (T := F_Nd) (N := 14) hx hb hts in_Nd t_Nd t_Nd_ok n_Nd hown hK hP hD hS 0 rfl rfl 4 (by decide) (hts (.fieldLink R_Nd 25 R_Nd "lows" "[I") kw1_187) (fun _ h9 => h9) rfl hnm rfl (by decide +kernel) rfl rfl (Nat.le_of_ble_eq_true rfl) d_Nd_init_46 (fun H locs hP hD hS => ?_)
  have hP : va_P D vwCl ([(b, .inr (4, [.ref q1, .ref q2, .ref q3, .ref q4, .ref q5, .null, .null, .null, .null, .null, .int 0, .int 0, .int 0, .int 0]))] ++ [(q1, .inl (k 0, 1070, .inl (fun _ => 0)))] ++ [(q2, .inl (k 0, 1070, .inl (fun _ => 0)))] ++ [(q3, .inl (k 1, 1070, .inr (.inl (fun _ => 0))))] ++ [(q4, .inl (k 0, 1070, .inl (fun _ => 0)))] ++ [(q5, .inl (k 0, 1070, .inl (fun _ => 0)))]) H := hP
  have hD : va_D A ([(b, .inr (4, [.ref q1, .ref q2, .ref q3, .ref q4, .ref q5, .null, .null, .null, .null, .null, .int 0, .int 0, .int 0, .int 0]))] ++ [(q1, .inl (k 0, 1070, .inl (fun _ => 0)))] ++ [(q2, .inl (k 0, 1070, .inl (fun _ => 0)))] ++ [(q3, .inl (k 1, 1070, .inr (.inl (fun _ => 0))))] ++ [(q4, .inl (k 0, 1070, .inl (fun _ => 0)))] ++ [(q5, .inl (k 0, 1070, .inl (fun _ => 0)))]) := hD
  refine lv_aload_n hx hb d_Nd_init_49 rfl (lv_at hl 0 rfl) ?_
  refine lv_sipush (v := (1070 : Int32)) hx hb d_Nd_init_50 (by decide) ?_
  refine xq_newa (atype := .int) (ty := .int) (a0 := (1070, .inl (fun _ => 0))) (N' := 1070) hx hb (hts _ kw1_147) rfl (fun C h9 => by cases h9) hK hP hD hS hA 0 rfl (fun _ => rfl) (by decide) (by decide) (by decide) (Nat.le_of_ble_eq_true rfl) (Nat.le_of_ble_eq_true rfl) d_Nd_init_53 (fun q6 H hP hD hS => ?_)
  have hP : va_P D vwCl ([(b, .inr (4, [.ref q1, .ref q2, .ref q3, .ref q4, .ref q5, .null, .null, .null, .null, .null, .int 0, .int 0, .int 0, .int 0]))] ++ [(q1, .inl (k 0, 1070, .inl (fun _ => 0)))] ++ [(q2, .inl (k 0, 1070, .inl (fun _ => 0)))] ++ [(q3, .inl (k 1, 1070, .inr (.inl (fun _ => 0))))] ++ [(q4, .inl (k 0, 1070, .inl (fun _ => 0)))] ++ [(q5, .inl (k 0, 1070, .inl (fun _ => 0)))] ++ [(q6, .inl (k 0, 1070, .inl (fun _ => 0)))]) H := hP
  have hD : va_D A ([(b, .inr (4, [.ref q1, .ref q2, .ref q3, .ref q4, .ref q5, .null, .null, .null, .null, .null, .int 0, .int 0, .int 0, .int 0]))] ++ [(q1, .inl (k 0, 1070, .inl (fun _ => 0)))] ++ [(q2, .inl (k 0, 1070, .inl (fun _ => 0)))] ++ [(q3, .inl (k 1, 1070, .inr (.inl (fun _ => 0))))] ++ [(q4, .inl (k 0, 1070, .inl (fun _ => 0)))] ++ [(q5, .inl (k 0, 1070, .inl (fun _ => 0)))] ++ [(q6, .inl (k 0, 1070, .inl (fun _ => 0)))]) := hD
  refine va_putF (D := D) (ci := 4) (v := .ref q6) (ty := (.array .int)) (C := R_Nd) (T := F_Nd) (N := 14) hx hb hts in_Nd t_Nd t_Nd_ok n_Nd hown hK hP hD hS 0 rfl rfl 5 (by decide) (hts (.fieldLink R_Nd 28 R_Nd "sizes" "[I") kw1_188) (fun _ h9 => h9) rfl hnm rfl (by decide +kernel) rfl rfl (Nat.le_of_ble_eq_true rfl) d_Nd_init_55 (fun H locs hP hD hS => ?_)
  have hP : va_P D vwCl ([(b, .inr (4, [.ref q1, .ref q2, .ref q3, .ref q4, .ref q5, .ref q6, .null, .null, .null, .null, .int 0, .int 0, .int 0, .int 0]))] ++ [(q1, .inl (k 0, 1070, .inl (fun _ => 0)))] ++ [(q2, .inl (k 0, 1070, .inl (fun _ => 0)))] ++ [(q3, .inl (k 1, 1070, .inr (.inl (fun _ => 0))))] ++ [(q4, .inl (k 0, 1070, .inl (fun _ => 0)))] ++ [(q5, .inl (k 0, 1070, .inl (fun _ => 0)))] ++ [(q6, .inl (k 0, 1070, .inl (fun _ => 0)))]) H := hP
  have hD : va_D A ([(b, .inr (4, [.ref q1, .ref q2, .ref q3, .ref q4, .ref q5, .ref q6, .null, .null, .null, .null, .int 0, .int 0, .int 0, .int 0]))] ++ [(q1, .inl (k 0, 1070, .inl (fun _ => 0)))] ++ [(q2, .inl (k 0, 1070, .inl (fun _ => 0)))] ++ [(q3, .inl (k 1, 1070, .inr (.inl (fun _ => 0))))] ++ [(q4, .inl (k 0, 1070, .inl (fun _ => 0)))] ++ [(q5, .inl (k 0, 1070, .inl (fun _ => 0)))] ++ [(q6, .inl (k 0, 1070, .inl (fun _ => 0)))]) := hD
  refine lv_aload_n hx hb d_Nd_init_58 rfl (lv_at hl 0 rfl) ?_
  refine lv_sipush (v := (1070 : Int32)) hx hb d_Nd_init_59 (by decide) ?_
  refine xq_newa (atype := .int) (ty := .int) (a0 := (1070, .inl (fun _ => 0))) (N' := 1070) hx hb (hts _ kw1_147) rfl (fun C h9 => by cases h9) hK hP hD hS hA 0 rfl (fun _ => rfl) (by decide) (by decide) (by decide) (Nat.le_of_ble_eq_true rfl) (Nat.le_of_ble_eq_true rfl) d_Nd_init_62 (fun q7 H hP hD hS => ?_)
  have hP : va_P D vwCl ([(b, .inr (4, [.ref q1, .ref q2, .ref q3, .ref q4, .ref q5, .ref q6, .null, .null, .null, .null, .int 0, .int 0, .int 0, .int 0]))] ++ [(q1, .inl (k 0, 1070, .inl (fun _ => 0)))] ++ [(q2, .inl (k 0, 1070, .inl (fun _ => 0)))] ++ [(q3, .inl (k 1, 1070, .inr (.inl (fun _ => 0))))] ++ [(q4, .inl (k 0, 1070, .inl (fun _ => 0)))] ++ [(q5, .inl (k 0, 1070, .inl (fun _ => 0)))] ++ [(q6, .inl (k 0, 1070, .inl (fun _ => 0)))] ++ [(q7, .inl (k 0, 1070, .inl (fun _ => 0)))]) H := hP
  have hD : va_D A ([(b, .inr (4, [.ref q1, .ref q2, .ref q3, .ref q4, .ref q5, .ref q6, .null, .null, .null, .null, .int 0, .int 0, .int 0, .int 0]))] ++ [(q1, .inl (k 0, 1070, .inl (fun _ => 0)))] ++ [(q2, .inl (k 0, 1070, .inl (fun _ => 0)))] ++ [(q3, .inl (k 1, 1070, .inr (.inl (fun _ => 0))))] ++ [(q4, .inl (k 0, 1070, .inl (fun _ => 0)))] ++ [(q5, .inl (k 0, 1070, .inl (fun _ => 0)))] ++ [(q6, .inl (k 0, 1070, .inl (fun _ => 0)))] ++ [(q7, .inl (k 0, 1070, .inl (fun _ => 0)))]) := hD
  refine va_putF (D := D) (ci := 4) (v := .ref q7) (ty := (.array .int)) (C := R_Nd) (T := F_Nd) (N := 14) hx hb hts in_Nd t_Nd t_Nd_ok n_Nd hown hK hP hD hS 0 rfl rfl 6 (by decide) (hts (.fieldLink R_Nd 31 R_Nd "parents" "[I") kw1_189) (fun _ h9 => h9) rfl hnm rfl (by decide +kernel) rfl rfl (Nat.le_of_ble_eq_true rfl) d_Nd_init_64 (fun H locs hP hD hS => ?_)
  have hP : va_P D vwCl ([(b, .inr (4, [.ref q1, .ref q2, .ref q3, .ref q4, .ref q5, .ref q6, .ref q7, .null, .null, .null, .int 0, .int 0, .int 0, .int 0]))] ++ [(q1, .inl (k 0, 1070, .inl (fun _ => 0)))] ++ [(q2, .inl (k 0, 1070, .inl (fun _ => 0)))] ++ [(q3, .inl (k 1, 1070, .inr (.inl (fun _ => 0))))] ++ [(q4, .inl (k 0, 1070, .inl (fun _ => 0)))] ++ [(q5, .inl (k 0, 1070, .inl (fun _ => 0)))] ++ [(q6, .inl (k 0, 1070, .inl (fun _ => 0)))] ++ [(q7, .inl (k 0, 1070, .inl (fun _ => 0)))]) H := hP
  have hD : va_D A ([(b, .inr (4, [.ref q1, .ref q2, .ref q3, .ref q4, .ref q5, .ref q6, .ref q7, .null, .null, .null, .int 0, .int 0, .int 0, .int 0]))] ++ [(q1, .inl (k 0, 1070, .inl (fun _ => 0)))] ++ [(q2, .inl (k 0, 1070, .inl (fun _ => 0)))] ++ [(q3, .inl (k 1, 1070, .inr (.inl (fun _ => 0))))] ++ [(q4, .inl (k 0, 1070, .inl (fun _ => 0)))] ++ [(q5, .inl (k 0, 1070, .inl (fun _ => 0)))] ++ [(q6, .inl (k 0, 1070, .inl (fun _ => 0)))] ++ [(q7, .inl (k 0, 1070, .inl (fun _ => 0)))]) := hD
  refine lv_aload_n hx hb d_Nd_init_67 rfl (lv_at hl 0 rfl) ?_
  refine lv_sipush (v := (1070 : Int32)) hx hb d_Nd_init_68 (by decide) ?_
  refine xq_newa (atype := .int) (ty := .int) (a0 := (1070, .inl (fun _ => 0))) (N' := 1070) hx hb (hts _ kw1_147) rfl (fun C h9 => by cases h9) hK hP hD hS hA 0 rfl (fun _ => rfl) (by decide) (by decide) (by decide) (Nat.le_of_ble_eq_true rfl) (Nat.le_of_ble_eq_true rfl) d_Nd_init_71 (fun q8 H hP hD hS => ?_)
  have hP : va_P D vwCl ([(b, .inr (4, [.ref q1, .ref q2, .ref q3, .ref q4, .ref q5, .ref q6, .ref q7, .null, .null, .null, .int 0, .int 0, .int 0, .int 0]))] ++ [(q1, .inl (k 0, 1070, .inl (fun _ => 0)))] ++ [(q2, .inl (k 0, 1070, .inl (fun _ => 0)))] ++ [(q3, .inl (k 1, 1070, .inr (.inl (fun _ => 0))))] ++ [(q4, .inl (k 0, 1070, .inl (fun _ => 0)))] ++ [(q5, .inl (k 0, 1070, .inl (fun _ => 0)))] ++ [(q6, .inl (k 0, 1070, .inl (fun _ => 0)))] ++ [(q7, .inl (k 0, 1070, .inl (fun _ => 0)))] ++ [(q8, .inl (k 0, 1070, .inl (fun _ => 0)))]) H := hP
  have hD : va_D A ([(b, .inr (4, [.ref q1, .ref q2, .ref q3, .ref q4, .ref q5, .ref q6, .ref q7, .null, .null, .null, .int 0, .int 0, .int 0, .int 0]))] ++ [(q1, .inl (k 0, 1070, .inl (fun _ => 0)))] ++ [(q2, .inl (k 0, 1070, .inl (fun _ => 0)))] ++ [(q3, .inl (k 1, 1070, .inr (.inl (fun _ => 0))))] ++ [(q4, .inl (k 0, 1070, .inl (fun _ => 0)))] ++ [(q5, .inl (k 0, 1070, .inl (fun _ => 0)))] ++ [(q6, .inl (k 0, 1070, .inl (fun _ => 0)))] ++ [(q7, .inl (k 0, 1070, .inl (fun _ => 0)))] ++ [(q8, .inl (k 0, 1070, .inl (fun _ => 0)))]) := hD
  refine va_putF (D := D) (ci := 4) (v := .ref q8) (ty := (.array .int)) (C := R_Nd) (T := F_Nd) (N := 14) hx hb hts in_Nd t_Nd t_Nd_ok n_Nd hown hK hP hD hS 0 rfl rfl 7 (by decide) (hts (.fieldLink R_Nd 34 R_Nd "firsts" "[I") kw1_190) (fun _ h9 => h9) rfl hnm rfl (by decide +kernel) rfl rfl (Nat.le_of_ble_eq_true rfl) d_Nd_init_73 (fun H locs hP hD hS => ?_)
  have hP : va_P D vwCl ([(b, .inr (4, [.ref q1, .ref q2, .ref q3, .ref q4, .ref q5, .ref q6, .ref q7, .ref q8, .null, .null, .int 0, .int 0, .int 0, .int 0]))] ++ [(q1, .inl (k 0, 1070, .inl (fun _ => 0)))] ++ [(q2, .inl (k 0, 1070, .inl (fun _ => 0)))] ++ [(q3, .inl (k 1, 1070, .inr (.inl (fun _ => 0))))] ++ [(q4, .inl (k 0, 1070, .inl (fun _ => 0)))] ++ [(q5, .inl (k 0, 1070, .inl (fun _ => 0)))] ++ [(q6, .inl (k 0, 1070, .inl (fun _ => 0)))] ++ [(q7, .inl (k 0, 1070, .inl (fun _ => 0)))] ++ [(q8, .inl (k 0, 1070, .inl (fun _ => 0)))]) H := hP
  have hD : va_D A ([(b, .inr (4, [.ref q1, .ref q2, .ref q3, .ref q4, .ref q5, .ref q6, .ref q7, .ref q8, .null, .null, .int 0, .int 0, .int 0, .int 0]))] ++ [(q1, .inl (k 0, 1070, .inl (fun _ => 0)))] ++ [(q2, .inl (k 0, 1070, .inl (fun _ => 0)))] ++ [(q3, .inl (k 1, 1070, .inr (.inl (fun _ => 0))))] ++ [(q4, .inl (k 0, 1070, .inl (fun _ => 0)))] ++ [(q5, .inl (k 0, 1070, .inl (fun _ => 0)))] ++ [(q6, .inl (k 0, 1070, .inl (fun _ => 0)))] ++ [(q7, .inl (k 0, 1070, .inl (fun _ => 0)))] ++ [(q8, .inl (k 0, 1070, .inl (fun _ => 0)))]) := hD
  refine lv_aload_n hx hb d_Nd_init_76 rfl (lv_at hl 0 rfl) ?_
  refine lv_sipush (v := (1070 : Int32)) hx hb d_Nd_init_77 (by decide) ?_
  refine xq_newa (atype := .int) (ty := .int) (a0 := (1070, .inl (fun _ => 0))) (N' := 1070) hx hb (hts _ kw1_147) rfl (fun C h9 => by cases h9) hK hP hD hS hA 0 rfl (fun _ => rfl) (by decide) (by decide) (by decide) (Nat.le_of_ble_eq_true rfl) (Nat.le_of_ble_eq_true rfl) d_Nd_init_80 (fun q9 H hP hD hS => ?_)
  have hP : va_P D vwCl ([(b, .inr (4, [.ref q1, .ref q2, .ref q3, .ref q4, .ref q5, .ref q6, .ref q7, .ref q8, .null, .null, .int 0, .int 0, .int 0, .int 0]))] ++ [(q1, .inl (k 0, 1070, .inl (fun _ => 0)))] ++ [(q2, .inl (k 0, 1070, .inl (fun _ => 0)))] ++ [(q3, .inl (k 1, 1070, .inr (.inl (fun _ => 0))))] ++ [(q4, .inl (k 0, 1070, .inl (fun _ => 0)))] ++ [(q5, .inl (k 0, 1070, .inl (fun _ => 0)))] ++ [(q6, .inl (k 0, 1070, .inl (fun _ => 0)))] ++ [(q7, .inl (k 0, 1070, .inl (fun _ => 0)))] ++ [(q8, .inl (k 0, 1070, .inl (fun _ => 0)))] ++ [(q9, .inl (k 0, 1070, .inl (fun _ => 0)))]) H := hP
  have hD : va_D A ([(b, .inr (4, [.ref q1, .ref q2, .ref q3, .ref q4, .ref q5, .ref q6, .ref q7, .ref q8, .null, .null, .int 0, .int 0, .int 0, .int 0]))] ++ [(q1, .inl (k 0, 1070, .inl (fun _ => 0)))] ++ [(q2, .inl (k 0, 1070, .inl (fun _ => 0)))] ++ [(q3, .inl (k 1, 1070, .inr (.inl (fun _ => 0))))] ++ [(q4, .inl (k 0, 1070, .inl (fun _ => 0)))] ++ [(q5, .inl (k 0, 1070, .inl (fun _ => 0)))] ++ [(q6, .inl (k 0, 1070, .inl (fun _ => 0)))] ++ [(q7, .inl (k 0, 1070, .inl (fun _ => 0)))] ++ [(q8, .inl (k 0, 1070, .inl (fun _ => 0)))] ++ [(q9, .inl (k 0, 1070, .inl (fun _ => 0)))]) := hD
  refine va_putF (D := D) (ci := 4) (v := .ref q9) (ty := (.array .int)) (C := R_Nd) (T := F_Nd) (N := 14) hx hb hts in_Nd t_Nd t_Nd_ok n_Nd hown hK hP hD hS 0 rfl rfl 8 (by decide) (hts (.fieldLink R_Nd 37 R_Nd "nexts" "[I") kw1_191) (fun _ h9 => h9) rfl hnm rfl (by decide +kernel) rfl rfl (Nat.le_of_ble_eq_true rfl) d_Nd_init_82 (fun H locs hP hD hS => ?_)
  have hP : va_P D vwCl ([(b, .inr (4, [.ref q1, .ref q2, .ref q3, .ref q4, .ref q5, .ref q6, .ref q7, .ref q8, .ref q9, .null, .int 0, .int 0, .int 0, .int 0]))] ++ [(q1, .inl (k 0, 1070, .inl (fun _ => 0)))] ++ [(q2, .inl (k 0, 1070, .inl (fun _ => 0)))] ++ [(q3, .inl (k 1, 1070, .inr (.inl (fun _ => 0))))] ++ [(q4, .inl (k 0, 1070, .inl (fun _ => 0)))] ++ [(q5, .inl (k 0, 1070, .inl (fun _ => 0)))] ++ [(q6, .inl (k 0, 1070, .inl (fun _ => 0)))] ++ [(q7, .inl (k 0, 1070, .inl (fun _ => 0)))] ++ [(q8, .inl (k 0, 1070, .inl (fun _ => 0)))] ++ [(q9, .inl (k 0, 1070, .inl (fun _ => 0)))]) H := hP
  have hD : va_D A ([(b, .inr (4, [.ref q1, .ref q2, .ref q3, .ref q4, .ref q5, .ref q6, .ref q7, .ref q8, .ref q9, .null, .int 0, .int 0, .int 0, .int 0]))] ++ [(q1, .inl (k 0, 1070, .inl (fun _ => 0)))] ++ [(q2, .inl (k 0, 1070, .inl (fun _ => 0)))] ++ [(q3, .inl (k 1, 1070, .inr (.inl (fun _ => 0))))] ++ [(q4, .inl (k 0, 1070, .inl (fun _ => 0)))] ++ [(q5, .inl (k 0, 1070, .inl (fun _ => 0)))] ++ [(q6, .inl (k 0, 1070, .inl (fun _ => 0)))] ++ [(q7, .inl (k 0, 1070, .inl (fun _ => 0)))] ++ [(q8, .inl (k 0, 1070, .inl (fun _ => 0)))] ++ [(q9, .inl (k 0, 1070, .inl (fun _ => 0)))]) := hD
  refine lv_aload_n hx hb d_Nd_init_85 rfl (lv_at hl 0 rfl) ?_
  refine lv_sipush (v := (1070 : Int32)) hx hb d_Nd_init_86 (by decide) ?_
  refine xq_newa (atype := .boolean) (ty := .boolean) (a0 := (1070, .inl (fun _ => 0))) (N' := 1070) hx hb (hts _ kw1_176) rfl (fun C h9 => by cases h9) hK hP hD hS hA 3 rfl (fun _ => rfl) (by decide) (by decide) (by decide) (Nat.le_of_ble_eq_true rfl) (Nat.le_of_ble_eq_true rfl) d_Nd_init_89 (fun q10 H hP hD hS => ?_)
  have hP : va_P D vwCl ([(b, .inr (4, [.ref q1, .ref q2, .ref q3, .ref q4, .ref q5, .ref q6, .ref q7, .ref q8, .ref q9, .null, .int 0, .int 0, .int 0, .int 0]))] ++ [(q1, .inl (k 0, 1070, .inl (fun _ => 0)))] ++ [(q2, .inl (k 0, 1070, .inl (fun _ => 0)))] ++ [(q3, .inl (k 1, 1070, .inr (.inl (fun _ => 0))))] ++ [(q4, .inl (k 0, 1070, .inl (fun _ => 0)))] ++ [(q5, .inl (k 0, 1070, .inl (fun _ => 0)))] ++ [(q6, .inl (k 0, 1070, .inl (fun _ => 0)))] ++ [(q7, .inl (k 0, 1070, .inl (fun _ => 0)))] ++ [(q8, .inl (k 0, 1070, .inl (fun _ => 0)))] ++ [(q9, .inl (k 0, 1070, .inl (fun _ => 0)))] ++ [(q10, .inl (k 3, 1070, .inl (fun _ => 0)))]) H := hP
  have hD : va_D A ([(b, .inr (4, [.ref q1, .ref q2, .ref q3, .ref q4, .ref q5, .ref q6, .ref q7, .ref q8, .ref q9, .null, .int 0, .int 0, .int 0, .int 0]))] ++ [(q1, .inl (k 0, 1070, .inl (fun _ => 0)))] ++ [(q2, .inl (k 0, 1070, .inl (fun _ => 0)))] ++ [(q3, .inl (k 1, 1070, .inr (.inl (fun _ => 0))))] ++ [(q4, .inl (k 0, 1070, .inl (fun _ => 0)))] ++ [(q5, .inl (k 0, 1070, .inl (fun _ => 0)))] ++ [(q6, .inl (k 0, 1070, .inl (fun _ => 0)))] ++ [(q7, .inl (k 0, 1070, .inl (fun _ => 0)))] ++ [(q8, .inl (k 0, 1070, .inl (fun _ => 0)))] ++ [(q9, .inl (k 0, 1070, .inl (fun _ => 0)))] ++ [(q10, .inl (k 3, 1070, .inl (fun _ => 0)))]) := hD
  refine va_putF (D := D) (ci := 4) (v := .ref q10) (ty := (.array .boolean)) (C := R_Nd) (T := F_Nd) (N := 14) hx hb hts in_Nd t_Nd t_Nd_ok n_Nd hown hK hP hD hS 0 rfl rfl 9 (by decide) (hts (.fieldLink R_Nd 40 R_Nd "late" "[Z") kw1_192) (fun _ h9 => h9) rfl hnm rfl (by decide +kernel) rfl rfl (Nat.le_of_ble_eq_true rfl) d_Nd_init_91 (fun H locs hP hD hS => ?_)
  have hP : va_P D vwCl ([(b, .inr (4, [.ref q1, .ref q2, .ref q3, .ref q4, .ref q5, .ref q6, .ref q7, .ref q8, .ref q9, .ref q10, .int 0, .int 0, .int 0, .int 0]))] ++ [(q1, .inl (k 0, 1070, .inl (fun _ => 0)))] ++ [(q2, .inl (k 0, 1070, .inl (fun _ => 0)))] ++ [(q3, .inl (k 1, 1070, .inr (.inl (fun _ => 0))))] ++ [(q4, .inl (k 0, 1070, .inl (fun _ => 0)))] ++ [(q5, .inl (k 0, 1070, .inl (fun _ => 0)))] ++ [(q6, .inl (k 0, 1070, .inl (fun _ => 0)))] ++ [(q7, .inl (k 0, 1070, .inl (fun _ => 0)))] ++ [(q8, .inl (k 0, 1070, .inl (fun _ => 0)))] ++ [(q9, .inl (k 0, 1070, .inl (fun _ => 0)))] ++ [(q10, .inl (k 3, 1070, .inl (fun _ => 0)))]) H := hP
  have hD : va_D A ([(b, .inr (4, [.ref q1, .ref q2, .ref q3, .ref q4, .ref q5, .ref q6, .ref q7, .ref q8, .ref q9, .ref q10, .int 0, .int 0, .int 0, .int 0]))] ++ [(q1, .inl (k 0, 1070, .inl (fun _ => 0)))] ++ [(q2, .inl (k 0, 1070, .inl (fun _ => 0)))] ++ [(q3, .inl (k 1, 1070, .inr (.inl (fun _ => 0))))] ++ [(q4, .inl (k 0, 1070, .inl (fun _ => 0)))] ++ [(q5, .inl (k 0, 1070, .inl (fun _ => 0)))] ++ [(q6, .inl (k 0, 1070, .inl (fun _ => 0)))] ++ [(q7, .inl (k 0, 1070, .inl (fun _ => 0)))] ++ [(q8, .inl (k 0, 1070, .inl (fun _ => 0)))] ++ [(q9, .inl (k 0, 1070, .inl (fun _ => 0)))] ++ [(q10, .inl (k 3, 1070, .inl (fun _ => 0)))]) := hD
  refine lv_aload_n hx hb d_Nd_init_94 rfl (lv_at hl 0 rfl) ?_
  refine lv_iconst (v := (-1 : Int32)) hx hb d_Nd_init_95 (by decide) ?_
  refine va_put (D := D) (ci := 4) (v := .int (-1 : Int32)) (ty := .int) (C := R_Nd) (T := F_Nd) (N := 14) hx hb hts in_Nd t_Nd t_Nd_ok n_Nd hown hK hP hD hS 0 rfl rfl 11 (by decide) (hts (.fieldLink R_Nd 44 R_Nd "outerFirst" "I") kw1_194) (fun _ h9 => h9) rfl (by decide +kernel) rfl rfl (Nat.le_of_ble_eq_true rfl) d_Nd_init_96 (fun H locs hP hD hS => ?_)
  have hP : va_P D vwCl ([(b, .inr (4, [.ref q1, .ref q2, .ref q3, .ref q4, .ref q5, .ref q6, .ref q7, .ref q8, .ref q9, .ref q10, .int 0, .int (-1 : Int32), .int 0, .int 0]))] ++ [(q1, .inl (k 0, 1070, .inl (fun _ => 0)))] ++ [(q2, .inl (k 0, 1070, .inl (fun _ => 0)))] ++ [(q3, .inl (k 1, 1070, .inr (.inl (fun _ => 0))))] ++ [(q4, .inl (k 0, 1070, .inl (fun _ => 0)))] ++ [(q5, .inl (k 0, 1070, .inl (fun _ => 0)))] ++ [(q6, .inl (k 0, 1070, .inl (fun _ => 0)))] ++ [(q7, .inl (k 0, 1070, .inl (fun _ => 0)))] ++ [(q8, .inl (k 0, 1070, .inl (fun _ => 0)))] ++ [(q9, .inl (k 0, 1070, .inl (fun _ => 0)))] ++ [(q10, .inl (k 3, 1070, .inl (fun _ => 0)))]) H := hP
  have hD : va_D A ([(b, .inr (4, [.ref q1, .ref q2, .ref q3, .ref q4, .ref q5, .ref q6, .ref q7, .ref q8, .ref q9, .ref q10, .int 0, .int (-1 : Int32), .int 0, .int 0]))] ++ [(q1, .inl (k 0, 1070, .inl (fun _ => 0)))] ++ [(q2, .inl (k 0, 1070, .inl (fun _ => 0)))] ++ [(q3, .inl (k 1, 1070, .inr (.inl (fun _ => 0))))] ++ [(q4, .inl (k 0, 1070, .inl (fun _ => 0)))] ++ [(q5, .inl (k 0, 1070, .inl (fun _ => 0)))] ++ [(q6, .inl (k 0, 1070, .inl (fun _ => 0)))] ++ [(q7, .inl (k 0, 1070, .inl (fun _ => 0)))] ++ [(q8, .inl (k 0, 1070, .inl (fun _ => 0)))] ++ [(q9, .inl (k 0, 1070, .inl (fun _ => 0)))] ++ [(q10, .inl (k 3, 1070, .inl (fun _ => 0)))]) := hD
  have hP : va_P D vwCl (w_Nd k (xq_ls (b :: [q1, q2, q3, q4, q5, q6, q7, q8, q9, q10])) ((fun _ => 0), (fun _ => 0), (fun _ => 0), (fun _ => 0), (fun _ => 0), (fun _ => 0), (fun _ => 0), (fun _ => 0), (fun _ => 0), (fun _ => 0), 0, (-1 : Int32), 0, 0)) H := hP.sub [0, 1, 2, 3, 4, 5, 6, 7, 8, 9, 10] rfl
  have hD : va_D A (w_Nd k (xq_ls (b :: [q1, q2, q3, q4, q5, q6, q7, q8, q9, q10])) ((fun _ => 0), (fun _ => 0), (fun _ => 0), (fun _ => 0), (fun _ => 0), (fun _ => 0), (fun _ => 0), (fun _ => 0), (fun _ => 0), (fun _ => 0), 0, (-1 : Int32), 0, 0)) := hD.sub [0, 1, 2, 3, 4, 5, 6, 7, 8, 9, 10] (by decide) rfl
  exact xq_vret (r := ()) (u := [q1, q2, q3, q4, q5, q6, q7, q8, q9, q10]) hx hb hr hlocks hAe hP hD hS rfl trivial (Nat.le_of_ble_eq_true rfl) (Nat.le_of_ble_eq_true rfl) d_Nd_init_99
theorem cn_Nd_init {R : Room} {s : State} {args : Array Value} {own host : String} {index : Nat} (hts : ∀ w ∈ xq_W, w.before args s = true) (hl : (Cond.methodLinkNest own index y_Nd_init host).before args s = true) {rm : Room} (hR : rm.frames + 1 ≤ R.frames ∧ 8 + (1 + 11) + rm.locals ≤ R.locals) : va_CN R s args own index y_Nd_init host prog_5_method_1_code 1 none (.code y_Nd_init prog_5_method_1_code 1 none :: xq_W) rm rm.cells rm.slots 0 ∧ y_Nd_init.name = "<init>" ∧ (Cond.instanceMethod y_Nd_init).before args s = true := ⟨xq_cbN 0 hts kw1_181 kw1_10 hl ⟨by decide, by decide, by decide +kernel⟩ hR, rfl, hts _ kw1_180⟩
