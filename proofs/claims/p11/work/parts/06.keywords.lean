theorem kw1_84 : (Jvm.Cond.code ({ cls := "StepText$Keywords", name := "rank", desc := "(I)I" } : Jvm.MethodName) prog_3_method_2_code (1 : Nat) (Option.some Jvm.ClassFile.FieldType.int)) ∈ xq_W := xq_in tb_1 84 (by decide +kernel) rfl
theorem kw1_2 : (Jvm.Cond.initialized "StepText$Keywords") ∈ xq_W := xq_in tb_1 2 (by decide +kernel) rfl
theorem kw1_83 : (Jvm.Cond.static ({ cls := "StepText$Keywords", name := "rank", desc := "(I)I" } : Jvm.MethodName)) ∈ xq_W := xq_in tb_1 83 (by decide +kernel) rfl
theorem kw4_77 : (Jvm.Cond.code ({ cls := "StepText$Keywords", name := "unranked", desc := "(I)I" } : Jvm.MethodName) prog_3_method_3_code (1 : Nat) (Option.some Jvm.ClassFile.FieldType.int)) ∈ xq_W := xq_in tb_4 77 (by decide +kernel) rfl
theorem kw4_76 : (Jvm.Cond.static ({ cls := "StepText$Keywords", name := "unranked", desc := "(I)I" } : Jvm.MethodName)) ∈ xq_W := xq_in tb_4 76 (by decide +kernel) rfl
theorem kw1_85 : (Jvm.Cond.fieldLink "StepText$Keywords" (9 : Nat) "StepText$Keywords" "packed" "[J") ∈ xq_W := xq_in tb_1 85 (by decide +kernel) rfl
theorem kw2_124 : (Jvm.Cond.code ({ cls := "StepText$Keywords", name := "codeOf", desc := "(J)I" } : Jvm.MethodName) prog_3_method_4_code (4 : Nat) (Option.some Jvm.ClassFile.FieldType.int)) ∈ xq_W := xq_in tb_2 124 (by decide +kernel) rfl
theorem kw2_122 : (Jvm.Cond.instanceMethod ({ cls := "StepText$Keywords", name := "codeOf", desc := "(J)I" } : Jvm.MethodName)) ∈ xq_W := xq_in tb_2 122 (by decide +kernel) rfl
theorem kw2_123 : (Jvm.Cond.selects "StepText$Keywords" ({ cls := "StepText$Keywords", name := "codeOf", desc := "(J)I" } : Jvm.MethodName) ({ cls := "StepText$Keywords", name := "codeOf", desc := "(J)I" } : Jvm.MethodName)) ∈ xq_W := xq_in tb_2 123 (by decide +kernel) rfl
theorem kw4_69 : (Jvm.Cond.code ({ cls := "StepText$Keywords", name := "lettersOf", desc := "(I)J" } : Jvm.MethodName) prog_3_method_5_code (3 : Nat) (Option.some Jvm.ClassFile.FieldType.long)) ∈ xq_W := xq_in tb_4 69 (by decide +kernel) rfl
theorem kw4_67 : (Jvm.Cond.instanceMethod ({ cls := "StepText$Keywords", name := "lettersOf", desc := "(I)J" } : Jvm.MethodName)) ∈ xq_W := xq_in tb_4 67 (by decide +kernel) rfl
theorem kw4_68 : (Jvm.Cond.selects "StepText$Keywords" ({ cls := "StepText$Keywords", name := "lettersOf", desc := "(I)J" } : Jvm.MethodName) ({ cls := "StepText$Keywords", name := "lettersOf", desc := "(I)J" } : Jvm.MethodName)) ∈ xq_W := xq_in tb_4 68 (by decide +kernel) rfl
def y_Kw_rank : MethodName := ⟨"StepText$Keywords", "rank", "(I)I"⟩
theorem d_Kw_rank_0 : decode prog_3_method_2_code 0 = .ok (.iload_n 0, 1) := by decide +kernel
theorem d_Kw_rank_1 : decode prog_3_method_2_code 1 = .ok (.bipush 97, 2) := by decide +kernel
theorem d_Kw_rank_3 : decode prog_3_method_2_code 3 = .ok (.if_icmp .lt 16, 3) := by decide +kernel
theorem d_Kw_rank_6 : decode prog_3_method_2_code 6 = .ok (.iload_n 0, 1) := by decide +kernel
theorem d_Kw_rank_7 : decode prog_3_method_2_code 7 = .ok (.bipush 122, 2) := by decide +kernel
theorem d_Kw_rank_9 : decode prog_3_method_2_code 9 = .ok (.if_icmp .gt 10, 3) := by decide +kernel
theorem d_Kw_rank_12 : decode prog_3_method_2_code 12 = .ok (.iload_n 0, 1) := by decide +kernel
theorem d_Kw_rank_13 : decode prog_3_method_2_code 13 = .ok (.bipush 97, 2) := by decide +kernel
theorem d_Kw_rank_15 : decode prog_3_method_2_code 15 = .ok (.isub, 1) := by decide +kernel
theorem d_Kw_rank_16 : decode prog_3_method_2_code 16 = .ok (.iconst 1, 1) := by decide +kernel
theorem d_Kw_rank_17 : decode prog_3_method_2_code 17 = .ok (.iadd, 1) := by decide +kernel
theorem d_Kw_rank_18 : decode prog_3_method_2_code 18 = .ok (.ireturn, 1) := by decide +kernel
theorem d_Kw_rank_19 : decode prog_3_method_2_code 19 = .ok (.iload_n 0, 1) := by decide +kernel
theorem d_Kw_rank_20 : decode prog_3_method_2_code 20 = .ok (.bipush 48, 2) := by decide +kernel
theorem d_Kw_rank_22 : decode prog_3_method_2_code 22 = .ok (.if_icmp .lt 19, 3) := by decide +kernel
theorem d_Kw_rank_25 : decode prog_3_method_2_code 25 = .ok (.iload_n 0, 1) := by decide +kernel
theorem d_Kw_rank_26 : decode prog_3_method_2_code 26 = .ok (.bipush 57, 2) := by decide +kernel
theorem d_Kw_rank_28 : decode prog_3_method_2_code 28 = .ok (.if_icmp .gt 13, 3) := by decide +kernel
theorem d_Kw_rank_31 : decode prog_3_method_2_code 31 = .ok (.iload_n 0, 1) := by decide +kernel
theorem d_Kw_rank_32 : decode prog_3_method_2_code 32 = .ok (.bipush 48, 2) := by decide +kernel
theorem d_Kw_rank_34 : decode prog_3_method_2_code 34 = .ok (.isub, 1) := by decide +kernel
theorem d_Kw_rank_35 : decode prog_3_method_2_code 35 = .ok (.bipush 27, 2) := by decide +kernel
theorem d_Kw_rank_37 : decode prog_3_method_2_code 37 = .ok (.iadd, 1) := by decide +kernel
theorem d_Kw_rank_38 : decode prog_3_method_2_code 38 = .ok (.goto 4, 3) := by decide +kernel
theorem d_Kw_rank_41 : decode prog_3_method_2_code 41 = .ok (.iconst 0, 1) := by decide +kernel
theorem d_Kw_rank_42 : decode prog_3_method_2_code 42 = .ok (.ireturn, 1) := by decide +kernel
def wp_Kw_rank (a0 : Int32) (post : Int32 → Unit → Prop) : Prop := (a0 < (97 : Int32) → ((a0 < (48 : Int32) → (post (0 : Int32) ())) ∧ (¬ a0 < (48 : Int32) → (((57 : Int32) < a0 → (post (0 : Int32) ())) ∧ (¬ (57 : Int32) < a0 → (post ((a0 - (48 : Int32)) + (27 : Int32)) ())))))) ∧ (¬ a0 < (97 : Int32) → (((122 : Int32) < a0 → ((a0 < (48 : Int32) → (post (0 : Int32) ())) ∧ (¬ a0 < (48 : Int32) → (((57 : Int32) < a0 → (post (0 : Int32) ())) ∧ (¬ (57 : Int32) < a0 → (post ((a0 - (48 : Int32)) + (27 : Int32)) ())))))) ∧ (¬ (122 : Int32) < a0 → (post ((a0 - (97 : Int32)) + (1 : Int32)) ()))))
def rm_Kw_rank : Room := { frames := 0, cells := 0, slots := 0, locals := 0 }
set_option maxHeartbeats 4000000 in
set_option maxRecDepth 100000 in
theorem c_Kw_rank {l : Launch} {o : State × Array Value} {D : va_G} {k : Nat → ClassId} {a0 : Int32} {post : Int32 → Unit → Prop} (hw : wp_Kw_rank a0 post) : xq_C l o y_Kw_rank (.code y_Kw_rank prog_3_method_2_code 1 (some (.int)) :: xq_W) rm_Kw_rank D vwCl (xt k) [.int a0] (([] : va_W)) (fun r : Int32 => some (.int r)) post (fun _ : Unit => False) (fun u : Unit => ([] : va_W)) 0 0 0 0 := by
  refine xq_ofW (cc := prog_3_method_2_code) (maxL := 1) (ret := (some (.int))) (by decide) rfl (Nat.le_of_ble_eq_true rfl) ?_
  intro p e s m below meth c ls H locs A hAt hAe hA hl hK hJ hP0 hP hD hS
  obtain ⟨hx, hb, hml, hr, hlocks, hown, hts, hex, hnm⟩ := id hAt
  have hl : lv_has ls 1 [(0, .int a0)] := hl
  unfold wp_Kw_rank at hw
  refine lv_iload_n hx hb d_Kw_rank_0 rfl (lv_at hl 0 rfl) ?_
  refine lv_bipush (v := (97 : Int32)) hx hb d_Kw_rank_1 (by decide) ?_
  refine lv_icmp_lt (tgt := 19) hx hb d_Kw_rank_3 (by decide) (fun hc => ?_) (fun hc => ?_)
  · have hw := hw.1 hc
    refine lv_iload_n hx hb d_Kw_rank_19 rfl (lv_at hl 0 rfl) ?_
    refine lv_bipush (v := (48 : Int32)) hx hb d_Kw_rank_20 (by decide) ?_
    refine lv_icmp_lt (tgt := 41) hx hb d_Kw_rank_22 (by decide) (fun hc => ?_) (fun hc => ?_)
    · have hw := hw.1 hc
      refine lv_iconst (v := (0 : Int32)) hx hb d_Kw_rank_41 (by decide) ?_
      exact xq_iret (r := (0 : Int32)) (u := ()) hx hb hr hlocks hAe hP hD hS rfl hw (Nat.le_of_ble_eq_true rfl) (Nat.le_of_ble_eq_true rfl) d_Kw_rank_42
    · have hw := hw.2 hc
      refine lv_iload_n hx hb d_Kw_rank_25 rfl (lv_at hl 0 rfl) ?_
      refine lv_bipush (v := (57 : Int32)) hx hb d_Kw_rank_26 (by decide) ?_
      refine lv_icmp_gt (tgt := 41) hx hb d_Kw_rank_28 (by decide) (fun hc => ?_) (fun hc => ?_)
      · have hw := hw.1 hc
        refine lv_iconst (v := (0 : Int32)) hx hb d_Kw_rank_41 (by decide) ?_
        exact xq_iret (r := (0 : Int32)) (u := ()) hx hb hr hlocks hAe hP hD hS rfl hw (Nat.le_of_ble_eq_true rfl) (Nat.le_of_ble_eq_true rfl) d_Kw_rank_42
      · have hw := hw.2 hc
        refine lv_iload_n hx hb d_Kw_rank_31 rfl (lv_at hl 0 rfl) ?_
        refine lv_bipush (v := (48 : Int32)) hx hb d_Kw_rank_32 (by decide) ?_
        refine lv_isub hx hb d_Kw_rank_34 ?_
        refine lv_bipush (v := (27 : Int32)) hx hb d_Kw_rank_35 (by decide) ?_
        refine lv_iadd hx hb d_Kw_rank_37 ?_
        refine lv_goto (tgt := 42) hx hb d_Kw_rank_38 (by decide) ?_
        exact xq_iret (r := ((a0 - (48 : Int32)) + (27 : Int32))) (u := ()) hx hb hr hlocks hAe hP hD hS rfl hw (Nat.le_of_ble_eq_true rfl) (Nat.le_of_ble_eq_true rfl) d_Kw_rank_42
  · have hw := hw.2 hc
    refine lv_iload_n hx hb d_Kw_rank_6 rfl (lv_at hl 0 rfl) ?_
    refine lv_bipush (v := (122 : Int32)) hx hb d_Kw_rank_7 (by decide) ?_
    refine lv_icmp_gt (tgt := 19) hx hb d_Kw_rank_9 (by decide) (fun hc => ?_) (fun hc => ?_)
    · have hw := hw.1 hc
      refine lv_iload_n hx hb d_Kw_rank_19 rfl (lv_at hl 0 rfl) ?_
      refine lv_bipush (v := (48 : Int32)) hx hb d_Kw_rank_20 (by decide) ?_
      refine lv_icmp_lt (tgt := 41) hx hb d_Kw_rank_22 (by decide) (fun hc => ?_) (fun hc => ?_)
      · have hw := hw.1 hc
        refine lv_iconst (v := (0 : Int32)) hx hb d_Kw_rank_41 (by decide) ?_
        exact xq_iret (r := (0 : Int32)) (u := ()) hx hb hr hlocks hAe hP hD hS rfl hw (Nat.le_of_ble_eq_true rfl) (Nat.le_of_ble_eq_true rfl) d_Kw_rank_42
      · have hw := hw.2 hc
        refine lv_iload_n hx hb d_Kw_rank_25 rfl (lv_at hl 0 rfl) ?_
        refine lv_bipush (v := (57 : Int32)) hx hb d_Kw_rank_26 (by decide) ?_
        refine lv_icmp_gt (tgt := 41) hx hb d_Kw_rank_28 (by decide) (fun hc => ?_) (fun hc => ?_)
        · have hw := hw.1 hc
          refine lv_iconst (v := (0 : Int32)) hx hb d_Kw_rank_41 (by decide) ?_
          exact xq_iret (r := (0 : Int32)) (u := ()) hx hb hr hlocks hAe hP hD hS rfl hw (Nat.le_of_ble_eq_true rfl) (Nat.le_of_ble_eq_true rfl) d_Kw_rank_42
        · have hw := hw.2 hc
          refine lv_iload_n hx hb d_Kw_rank_31 rfl (lv_at hl 0 rfl) ?_
          refine lv_bipush (v := (48 : Int32)) hx hb d_Kw_rank_32 (by decide) ?_
          refine lv_isub hx hb d_Kw_rank_34 ?_
          refine lv_bipush (v := (27 : Int32)) hx hb d_Kw_rank_35 (by decide) ?_
          refine lv_iadd hx hb d_Kw_rank_37 ?_
          refine lv_goto (tgt := 42) hx hb d_Kw_rank_38 (by decide) ?_
          exact xq_iret (r := ((a0 - (48 : Int32)) + (27 : Int32))) (u := ()) hx hb hr hlocks hAe hP hD hS rfl hw (Nat.le_of_ble_eq_true rfl) (Nat.le_of_ble_eq_true rfl) d_Kw_rank_42
    · have hw := hw.2 hc
      refine lv_iload_n hx hb d_Kw_rank_12 rfl (lv_at hl 0 rfl) ?_
      refine lv_bipush (v := (97 : Int32)) hx hb d_Kw_rank_13 (by decide) ?_
      refine lv_isub hx hb d_Kw_rank_15 ?_
      refine lv_iconst (v := (1 : Int32)) hx hb d_Kw_rank_16 (by decide) ?_
      refine lv_iadd hx hb d_Kw_rank_17 ?_
      exact xq_iret (r := ((a0 - (97 : Int32)) + (1 : Int32))) (u := ()) hx hb hr hlocks hAe hP hD hS rfl hw (Nat.le_of_ble_eq_true rfl) (Nat.le_of_ble_eq_true rfl) d_Kw_rank_18
theorem cs_Kw_rank {R : Room} {s : State} {args : Array Value} {own : String} {index : Nat} (hts : ∀ w ∈ xq_W, w.before args s = true) (hl : .methodLink own index y_Kw_rank ∈ xq_W) {rm : Room} (hR : rm.frames + 1 ≤ R.frames ∧ 8 + (1 + 11) + rm.locals ≤ R.locals) : CallB R s args own index y_Kw_rank prog_3_method_2_code 1 (some (.int)) (.code y_Kw_rank prog_3_method_2_code 1 (some (.int)) :: xq_W) rm rm.cells rm.slots 1 ∧ (Cond.static y_Kw_rank).before args s = true := ⟨xq_cb 1 hts kw1_84 kw1_2 hl ⟨by decide, by decide, by decide +kernel⟩ hR, hts _ kw1_83⟩
def y_Kw_unranked : MethodName := ⟨"StepText$Keywords", "unranked", "(I)I"⟩
theorem d_Kw_unranked_0 : decode prog_3_method_3_code 0 = .ok (.iload_n 0, 1) := by decide +kernel
theorem d_Kw_unranked_1 : decode prog_3_method_3_code 1 = .ok (.bipush 26, 2) := by decide +kernel
theorem d_Kw_unranked_3 : decode prog_3_method_3_code 3 = .ok (.if_icmp .gt 12, 3) := by decide +kernel
theorem d_Kw_unranked_6 : decode prog_3_method_3_code 6 = .ok (.bipush 97, 2) := by decide +kernel
theorem d_Kw_unranked_8 : decode prog_3_method_3_code 8 = .ok (.iload_n 0, 1) := by decide +kernel
theorem d_Kw_unranked_9 : decode prog_3_method_3_code 9 = .ok (.iadd, 1) := by decide +kernel
theorem d_Kw_unranked_10 : decode prog_3_method_3_code 10 = .ok (.iconst 1, 1) := by decide +kernel
theorem d_Kw_unranked_11 : decode prog_3_method_3_code 11 = .ok (.isub, 1) := by decide +kernel
theorem d_Kw_unranked_12 : decode prog_3_method_3_code 12 = .ok (.goto 10, 3) := by decide +kernel
theorem d_Kw_unranked_15 : decode prog_3_method_3_code 15 = .ok (.bipush 48, 2) := by decide +kernel
theorem d_Kw_unranked_17 : decode prog_3_method_3_code 17 = .ok (.iload_n 0, 1) := by decide +kernel
theorem d_Kw_unranked_18 : decode prog_3_method_3_code 18 = .ok (.iadd, 1) := by decide +kernel
theorem d_Kw_unranked_19 : decode prog_3_method_3_code 19 = .ok (.bipush 27, 2) := by decide +kernel
theorem d_Kw_unranked_21 : decode prog_3_method_3_code 21 = .ok (.isub, 1) := by decide +kernel
theorem d_Kw_unranked_22 : decode prog_3_method_3_code 22 = .ok (.ireturn, 1) := by decide +kernel
def wp_Kw_unranked (a0 : Int32) (post : Int32 → Unit → Prop) : Prop := ((26 : Int32) < a0 → (post (((48 : Int32) + a0) - (27 : Int32)) ())) ∧ (¬ (26 : Int32) < a0 → (post (((97 : Int32) + a0) - (1 : Int32)) ()))
def rm_Kw_unranked : Room := { frames := 0, cells := 0, slots := 0, locals := 0 }
set_option maxHeartbeats 4000000 in
set_option maxRecDepth 100000 in
theorem c_Kw_unranked {l : Launch} {o : State × Array Value} {D : va_G} {k : Nat → ClassId} {a0 : Int32} {post : Int32 → Unit → Prop} (hw : wp_Kw_unranked a0 post) : xq_C l o y_Kw_unranked (.code y_Kw_unranked prog_3_method_3_code 1 (some (.int)) :: xq_W) rm_Kw_unranked D vwCl (xt k) [.int a0] (([] : va_W)) (fun r : Int32 => some (.int r)) post (fun _ : Unit => False) (fun u : Unit => ([] : va_W)) 0 0 0 0 := by
  refine xq_ofW (cc := prog_3_method_3_code) (maxL := 1) (ret := (some (.int))) (by decide) rfl (Nat.le_of_ble_eq_true rfl) ?_
  intro p e s m below meth c ls H locs A hAt hAe hA hl hK hJ hP0 hP hD hS
  obtain ⟨hx, hb, hml, hr, hlocks, hown, hts, hex, hnm⟩ := id hAt
  have hl : lv_has ls 1 [(0, .int a0)] := hl
  unfold wp_Kw_unranked at hw
  refine lv_iload_n hx hb d_Kw_unranked_0 rfl (lv_at hl 0 rfl) ?_
  refine lv_bipush (v := (26 : Int32)) hx hb d_Kw_unranked_1 (by decide) ?_
  refine lv_icmp_gt (tgt := 15) hx hb d_Kw_unranked_3 (by decide) (fun hc => ?_) (fun hc => ?_)
  · have hw := hw.1 hc
    refine lv_bipush (v := (48 : Int32)) hx hb d_Kw_unranked_15 (by decide) ?_
    refine lv_iload_n hx hb d_Kw_unranked_17 rfl (lv_at hl 0 rfl) ?_
    refine lv_iadd hx hb d_Kw_unranked_18 ?_
    refine lv_bipush (v := (27 : Int32)) hx hb d_Kw_unranked_19 (by decide) ?_
    refine lv_isub hx hb d_Kw_unranked_21 ?_
    exact xq_iret (r := (((48 : Int32) + a0) - (27 : Int32))) (u := ()) hx hb hr hlocks hAe hP hD hS rfl hw (Nat.le_of_ble_eq_true rfl) (Nat.le_of_ble_eq_true rfl) d_Kw_unranked_22
  · have hw := hw.2 hc
    refine lv_bipush (v := (97 : Int32)) hx hb d_Kw_unranked_6 (by decide) ?_
    refine lv_iload_n hx hb d_Kw_unranked_8 rfl (lv_at hl 0 rfl) ?_
    refine lv_iadd hx hb d_Kw_unranked_9 ?_
    refine lv_iconst (v := (1 : Int32)) hx hb d_Kw_unranked_10 (by decide) ?_
    refine lv_isub hx hb d_Kw_unranked_11 ?_
    refine lv_goto (tgt := 22) hx hb d_Kw_unranked_12 (by decide) ?_
    exact xq_iret (r := (((97 : Int32) + a0) - (1 : Int32))) (u := ()) hx hb hr hlocks hAe hP hD hS rfl hw (Nat.le_of_ble_eq_true rfl) (Nat.le_of_ble_eq_true rfl) d_Kw_unranked_22
theorem cs_Kw_unranked {R : Room} {s : State} {args : Array Value} {own : String} {index : Nat} (hts : ∀ w ∈ xq_W, w.before args s = true) (hl : .methodLink own index y_Kw_unranked ∈ xq_W) {rm : Room} (hR : rm.frames + 1 ≤ R.frames ∧ 8 + (1 + 11) + rm.locals ≤ R.locals) : CallB R s args own index y_Kw_unranked prog_3_method_3_code 1 (some (.int)) (.code y_Kw_unranked prog_3_method_3_code 1 (some (.int)) :: xq_W) rm rm.cells rm.slots 1 ∧ (Cond.static y_Kw_unranked).before args s = true := ⟨xq_cb 1 hts kw4_77 kw1_2 hl ⟨by decide, by decide, by decide +kernel⟩ hR, hts _ kw4_76⟩
def y_Kw_codeOf : MethodName := ⟨"StepText$Keywords", "codeOf", "(J)I"⟩
theorem d_Kw_codeOf_0 : decode prog_3_method_4_code 0 = .ok (.iconst 0, 1) := by decide +kernel
theorem d_Kw_codeOf_1 : decode prog_3_method_4_code 1 = .ok (.istore_n 3, 1) := by decide +kernel
theorem d_Kw_codeOf_2 : decode prog_3_method_4_code 2 = .ok (.iload_n 3, 1) := by decide +kernel
theorem d_Kw_codeOf_3 : decode prog_3_method_4_code 3 = .ok (.bipush 26, 2) := by decide +kernel
theorem d_Kw_codeOf_5 : decode prog_3_method_4_code 5 = .ok (.if_icmp .ge 26, 3) := by decide +kernel
theorem d_Kw_codeOf_8 : decode prog_3_method_4_code 8 = .ok (.aload_n 0, 1) := by decide +kernel
theorem d_Kw_codeOf_9 : decode prog_3_method_4_code 9 = .ok (.getfield 9, 3) := by decide +kernel
theorem d_Kw_codeOf_12 : decode prog_3_method_4_code 12 = .ok (.iload_n 3, 1) := by decide +kernel
theorem d_Kw_codeOf_13 : decode prog_3_method_4_code 13 = .ok (.laload, 1) := by decide +kernel
theorem d_Kw_codeOf_14 : decode prog_3_method_4_code 14 = .ok (.lload_n 1, 1) := by decide +kernel
theorem d_Kw_codeOf_15 : decode prog_3_method_4_code 15 = .ok (.lcmp, 1) := by decide +kernel
theorem d_Kw_codeOf_16 : decode prog_3_method_4_code 16 = .ok (.ifCond .ne 9, 3) := by decide +kernel
theorem d_Kw_codeOf_19 : decode prog_3_method_4_code 19 = .ok (.sipush 200, 3) := by decide +kernel
theorem d_Kw_codeOf_22 : decode prog_3_method_4_code 22 = .ok (.iload_n 3, 1) := by decide +kernel
theorem d_Kw_codeOf_23 : decode prog_3_method_4_code 23 = .ok (.iadd, 1) := by decide +kernel
theorem d_Kw_codeOf_24 : decode prog_3_method_4_code 24 = .ok (.ireturn, 1) := by decide +kernel
theorem d_Kw_codeOf_25 : decode prog_3_method_4_code 25 = .ok (.iinc 3 1, 3) := by decide +kernel
theorem d_Kw_codeOf_28 : decode prog_3_method_4_code 28 = .ok (.goto (-26), 3) := by decide +kernel
theorem d_Kw_codeOf_31 : decode prog_3_method_4_code 31 = .ok (.sipush 128, 3) := by decide +kernel
theorem d_Kw_codeOf_34 : decode prog_3_method_4_code 34 = .ok (.ireturn, 1) := by decide +kernel
def wp_Kw_codeOf_L2 (z_this : T_Kw) (K : Int64 → Int32 → Prop) (post : Int32 → Unit → Prop) : Nat → Int64 → Int32 → Prop
  | 0, _, _ => False
  | n9 + 1, x1, x3 => ((26 : Int32) ≤ x3 → (K x1 x3)) ∧ (¬ (26 : Int32) ≤ x3 → (vp_in x3 26 ∧ (((lg_cmp (z_this (x3).toNatClampNeg) x1) = 0 → (post ((200 : Int32) + x3) ())) ∧ (¬ (lg_cmp (z_this (x3).toNatClampNeg) x1) = 0 → (wp_Kw_codeOf_L2 z_this K post n9 x1 (x3 + (1 : Int32)))))))
def wp_Kw_codeOf (z_this : T_Kw) (a1 : Int64) (post : Int32 → Unit → Prop) : Prop := ∃ k9 : Nat, wp_Kw_codeOf_L2 z_this (fun (x1 : Int64) (x3 : Int32) => post (128 : Int32) ()) post k9 a1 (0 : Int32)
def rm_Kw_codeOf : Room := { frames := 0, cells := 0, slots := 0, locals := 0 }
set_option maxHeartbeats 4000000 in
set_option maxRecDepth 100000 in
theorem t_Kw_codeOf_L2 {p : Program} {l : Launch} {o : State × Array Value} {e : Env} {s : State} {m : MethodId} {args : Array Value} {below : List Frame} {meth : Method} {c : Code} {D : va_G} {k : Nat → ClassId} {w0 : va_W} {A : Nat → Prop} {ad_this : Nat → Nat} {z_this : T_Kw} {post : Int32 → Unit → Prop} (hAt : xq_At p s m args meth c prog_3_method_4_code 4 (some (.int)) y_Kw_codeOf xq_W) (hK : va_K D vwCl (xt k) s) (hJ : xq_J l o A s s.heap) (hAe : va_A w0 s.heap.size = A) (hA : ∀ q, s.heap.size ≤ q → A q) {K : Int64 → Int32 → Prop} (hX : ∀ (x1 : Int64) (x3 : Int32) (H : Heap) (locs : List Loc) (ls : Array Slot), lv_has ls 4 [(0, .ref (ad_this 0)), (1, .long x1), (3, .int x3)] → va_P D vwCl (w_Kw k ad_this z_this) H → va_D A (w_Kw k ad_this z_this) → va_S A s.heap H locs → K x1 x3 → W p l e rm_Kw_codeOf s m args below meth c H locs 0 0 (xq_Z below D vwCl (xt k) w0 (fun r : Int32 => some (.int r)) post (fun _ : Unit => False) (fun u : Unit => w_Kw k ad_this z_this) 0 0 0 0 s) (F0 m 31 ls [])) :
    ∀ (n9 : Nat) (x1 : Int64) (x3 : Int32) (H : Heap) (locs : List Loc) (ls : Array Slot), lv_has ls 4 [(0, .ref (ad_this 0)), (1, .long x1), (3, .int x3)] → va_P D vwCl (w_Kw k ad_this z_this) H → va_D A (w_Kw k ad_this z_this) → va_S A s.heap H locs → wp_Kw_codeOf_L2 z_this K post n9 x1 x3 → W p l e rm_Kw_codeOf s m args below meth c H locs 0 0 (xq_Z below D vwCl (xt k) w0 (fun r : Int32 => some (.int r)) post (fun _ : Unit => False) (fun u : Unit => w_Kw k ad_this z_this) 0 0 0 0 s) (F0 m 2 ls []) := by
  obtain ⟨hx, hb, hml, hr, hlocks, hown, hts, hex, hnm⟩ := id hAt
  intro n9
  induction n9 with
  | zero => intro x1 x3 H locs ls hl hP hD hS hw; exact False.elim (by rw [wp_Kw_codeOf_L2] at hw; exact hw)
  | succ n9 ih =>
    intro x1 x3 H locs ls hl hP hD hS hw
    rw [wp_Kw_codeOf_L2] at hw
    refine lv_iload_n hx hb d_Kw_codeOf_2 rfl (lv_at hl 2 rfl) ?_
    refine lv_bipush (v := (26 : Int32)) hx hb d_Kw_codeOf_3 (by decide) ?_
    refine lv_icmp_ge (tgt := 31) hx hb d_Kw_codeOf_5 (by decide) (fun hc => ?_) (fun hc => ?_)
    · have hw := hw.1 hc
      exact hX x1 x3 H locs ls (lv_sub hl [0, 1, 2] rfl) hP hD hS hw
    · have hw := hw.2 hc
      refine lv_aload_n hx hb d_Kw_codeOf_8 rfl (lv_at hl 0 rfl) ?_
      refine va_get (D := D) (ci := 1) (v := .ref (ad_this 1)) (C := R_Kw) (T := F_Kw) (N := 1) hx hb hts in_Kw hown hK hP 0 rfl rfl 0 (by decide) (hts (.fieldLink R_Kw 9 R_Kw "packed" "[J") kw1_85) (fun _ h9 => h9) rfl d_Kw_codeOf_9 ?_
      refine lv_iload_n hx hb d_Kw_codeOf_12 rfl (lv_at hl 2 rfl) ?_
      refine va_lald hx hb hK hP 1 1 rfl rfl hw.1 d_Kw_codeOf_13 ?_
      have hw := hw.2
      refine lv_lload_n hx hb d_Kw_codeOf_14 rfl (lv_at hl 1 rfl) ?_
      refine W.lcmp hx hb d_Kw_codeOf_15 ?_
      refine lv_if_ne (tgt := 25) hx hb d_Kw_codeOf_16 (by decide) (fun hc => ?_) (fun hc => ?_)
      · have hw := hw.2 hc
        refine lv_iinc (v := (x3 + (1 : Int32))) (lv' := [(3, .int (x3 + (1 : Int32))), (0, .ref (ad_this 0)), (1, .long x1)]) hx hb d_Kw_codeOf_25 hl (k := 2) rfl rfl (by decide) rfl (fun ls hl => ?_)
        refine lv_goto (tgt := 2) hx hb d_Kw_codeOf_28 (by decide) ?_
        exact ih x1 (x3 + (1 : Int32)) H locs ls (lv_sub hl [1, 2, 0] rfl) hP hD hS hw
      · have hw := hw.1 hc
        refine lv_sipush (v := (200 : Int32)) hx hb d_Kw_codeOf_19 (by decide) ?_
        refine lv_iload_n hx hb d_Kw_codeOf_22 rfl (lv_at hl 2 rfl) ?_
        refine lv_iadd hx hb d_Kw_codeOf_23 ?_
        exact xq_iret (r := ((200 : Int32) + x3)) (u := ()) hx hb hr hlocks hAe hP hD hS rfl hw (Nat.le_of_ble_eq_true rfl) (Nat.le_of_ble_eq_true rfl) d_Kw_codeOf_24
set_option maxHeartbeats 4000000 in
set_option maxRecDepth 100000 in
theorem c_Kw_codeOf {l : Launch} {o : State × Array Value} {D : va_G} {k : Nat → ClassId} {ad_this : Nat → Nat} {z_this : T_Kw} {a1 : Int64} {post : Int32 → Unit → Prop} (hw : wp_Kw_codeOf z_this a1 post) : xq_C l o y_Kw_codeOf (.code y_Kw_codeOf prog_3_method_4_code 4 (some (.int)) :: xq_W) rm_Kw_codeOf D vwCl (xt k) [.ref (ad_this 0), .long a1] (w_Kw k ad_this z_this) (fun r : Int32 => some (.int r)) post (fun _ : Unit => False) (fun u : Unit => w_Kw k ad_this z_this) 0 0 0 0 := by
  refine xq_ofW (cc := prog_3_method_4_code) (maxL := 4) (ret := (some (.int))) (by decide) rfl (Nat.le_of_ble_eq_true rfl) ?_
  intro p e s m below meth c ls H locs A hAt hAe hA hl hK hJ hP0 hP hD hS
  obtain ⟨hx, hb, hml, hr, hlocks, hown, hts, hex, hnm⟩ := id hAt
  have hl : lv_has ls 4 [(0, .ref (ad_this 0)), (1, .long a1)] := hl
  unfold wp_Kw_codeOf at hw
  refine lv_iconst (v := (0 : Int32)) hx hb d_Kw_codeOf_0 (by decide) ?_
  refine lv_istore_n (lv' := [(3, .int (0 : Int32)), (0, .ref (ad_this 0)), (1, .long a1)]) hx hb d_Kw_codeOf_1 rfl hl (by decide) rfl (fun ls hl => ?_)
  obtain ⟨k9, hw⟩ := hw
  refine t_Kw_codeOf_L2 hAt hK hJ hAe hA ?_ k9 a1 (0 : Int32) H locs ls (lv_sub hl [1, 2, 0] rfl) hP hD hS hw
  intro x1 x3 H locs ls hl hP hD hS hw
  refine lv_sipush (v := (128 : Int32)) hx hb d_Kw_codeOf_31 (by decide) ?_
  exact xq_iret (r := (128 : Int32)) (u := ()) hx hb hr hlocks hAe hP hD hS rfl hw (Nat.le_of_ble_eq_true rfl) (Nat.le_of_ble_eq_true rfl) d_Kw_codeOf_34
theorem cw_Kw_codeOf {R : Room} {s : State} {args : Array Value} {own : String} {index : Nat} (hts : ∀ w ∈ xq_W, w.before args s = true) (hl : .methodLink own index y_Kw_codeOf ∈ xq_W) {rm : Room} (hR : rm.frames + 1 ≤ R.frames ∧ 8 + (4 + 11) + rm.locals ≤ R.locals) : CallW R s args own "StepText$Keywords" index y_Kw_codeOf prog_3_method_4_code 4 (some (.int)) (.code y_Kw_codeOf prog_3_method_4_code 4 (some (.int)) :: xq_W) rm rm.cells rm.slots 1 := ⟨xq_cb 1 hts kw2_124 kw1_2 hl ⟨by decide, by decide, by decide +kernel⟩ hR, hts _ kw2_122, hts _ kw2_123⟩
def y_Kw_lettersOf : MethodName := ⟨"StepText$Keywords", "lettersOf", "(I)J"⟩
theorem d_Kw_lettersOf_0 : decode prog_3_method_5_code 0 = .ok (.iload_n 1, 1) := by decide +kernel
theorem d_Kw_lettersOf_1 : decode prog_3_method_5_code 1 = .ok (.sipush 200, 3) := by decide +kernel
theorem d_Kw_lettersOf_4 : decode prog_3_method_5_code 4 = .ok (.isub, 1) := by decide +kernel
theorem d_Kw_lettersOf_5 : decode prog_3_method_5_code 5 = .ok (.istore_n 2, 1) := by decide +kernel
theorem d_Kw_lettersOf_6 : decode prog_3_method_5_code 6 = .ok (.iload_n 2, 1) := by decide +kernel
theorem d_Kw_lettersOf_7 : decode prog_3_method_5_code 7 = .ok (.ifCond .lt 18, 3) := by decide +kernel
theorem d_Kw_lettersOf_10 : decode prog_3_method_5_code 10 = .ok (.iload_n 2, 1) := by decide +kernel
theorem d_Kw_lettersOf_11 : decode prog_3_method_5_code 11 = .ok (.bipush 26, 2) := by decide +kernel
theorem d_Kw_lettersOf_13 : decode prog_3_method_5_code 13 = .ok (.if_icmp .ge 12, 3) := by decide +kernel
theorem d_Kw_lettersOf_16 : decode prog_3_method_5_code 16 = .ok (.aload_n 0, 1) := by decide +kernel
theorem d_Kw_lettersOf_17 : decode prog_3_method_5_code 17 = .ok (.getfield 9, 3) := by decide +kernel
theorem d_Kw_lettersOf_20 : decode prog_3_method_5_code 20 = .ok (.iload_n 2, 1) := by decide +kernel
theorem d_Kw_lettersOf_21 : decode prog_3_method_5_code 21 = .ok (.laload, 1) := by decide +kernel
theorem d_Kw_lettersOf_22 : decode prog_3_method_5_code 22 = .ok (.goto 4, 3) := by decide +kernel
theorem d_Kw_lettersOf_25 : decode prog_3_method_5_code 25 = .ok (.lconst 0, 1) := by decide +kernel
theorem d_Kw_lettersOf_26 : decode prog_3_method_5_code 26 = .ok (.lreturn, 1) := by decide +kernel
def wp_Kw_lettersOf (z_this : T_Kw) (a1 : Int32) (post : Int64 → Unit → Prop) : Prop := ((a1 - (200 : Int32)) < 0 → (post (0 : Int64) ())) ∧ (¬ (a1 - (200 : Int32)) < 0 → (((26 : Int32) ≤ (a1 - (200 : Int32)) → (post (0 : Int64) ())) ∧ (¬ (26 : Int32) ≤ (a1 - (200 : Int32)) → (vp_in (a1 - (200 : Int32)) 26 ∧ (post (z_this ((a1 - (200 : Int32))).toNatClampNeg) ())))))
def rm_Kw_lettersOf : Room := { frames := 0, cells := 0, slots := 0, locals := 0 }
set_option maxHeartbeats 4000000 in
set_option maxRecDepth 100000 in
theorem c_Kw_lettersOf {l : Launch} {o : State × Array Value} {D : va_G} {k : Nat → ClassId} {ad_this : Nat → Nat} {z_this : T_Kw} {a1 : Int32} {post : Int64 → Unit → Prop} (hw : wp_Kw_lettersOf z_this a1 post) : xq_C l o y_Kw_lettersOf (.code y_Kw_lettersOf prog_3_method_5_code 3 (some (.long)) :: xq_W) rm_Kw_lettersOf D vwCl (xt k) [.ref (ad_this 0), .int a1] (w_Kw k ad_this z_this) (fun r : Int64 => some (.long r)) post (fun _ : Unit => False) (fun u : Unit => w_Kw k ad_this z_this) 0 0 0 0 := by
  refine xq_ofW (cc := prog_3_method_5_code) (maxL := 3) (ret := (some (.long))) (by decide) rfl (Nat.le_of_ble_eq_true rfl) ?_
  intro p e s m below meth c ls H locs A hAt hAe hA hl hK hJ hP0 hP hD hS
  obtain ⟨hx, hb, hml, hr, hlocks, hown, hts, hex, hnm⟩ := id hAt
  have hl : lv_has ls 3 [(0, .ref (ad_this 0)), (1, .int a1)] := hl
  unfold wp_Kw_lettersOf at hw
  refine lv_iload_n hx hb d_Kw_lettersOf_0 rfl (lv_at hl 1 rfl) ?_
  refine lv_sipush (v := (200 : Int32)) hx hb d_Kw_lettersOf_1 (by decide) ?_
  refine lv_isub hx hb d_Kw_lettersOf_4 ?_
  refine lv_istore_n (lv' := [(2, .int (a1 - (200 : Int32))), (0, .ref (ad_this 0)), (1, .int a1)]) hx hb d_Kw_lettersOf_5 rfl hl (by decide) rfl (fun ls hl => ?_)
  refine lv_iload_n hx hb d_Kw_lettersOf_6 rfl (lv_at hl 0 rfl) ?_
  refine lv_if_lt (tgt := 25) hx hb d_Kw_lettersOf_7 (by decide) (fun hc => ?_) (fun hc => ?_)
  · have hw := hw.1 hc
    refine lv_lconst (v := (0 : Int64)) hx hb d_Kw_lettersOf_25 (by decide) ?_
    exact xq_lret (r := (0 : Int64)) (u := ()) hx hb hr hlocks hAe hP hD hS rfl hw (Nat.le_of_ble_eq_true rfl) (Nat.le_of_ble_eq_true rfl) d_Kw_lettersOf_26
  · have hw := hw.2 hc
    refine lv_iload_n hx hb d_Kw_lettersOf_10 rfl (lv_at hl 0 rfl) ?_
    refine lv_bipush (v := (26 : Int32)) hx hb d_Kw_lettersOf_11 (by decide) ?_
    refine lv_icmp_ge (tgt := 25) hx hb d_Kw_lettersOf_13 (by decide) (fun hc => ?_) (fun hc => ?_)
    · have hw := hw.1 hc
      refine lv_lconst (v := (0 : Int64)) hx hb d_Kw_lettersOf_25 (by decide) ?_
      exact xq_lret (r := (0 : Int64)) (u := ()) hx hb hr hlocks hAe hP hD hS rfl hw (Nat.le_of_ble_eq_true rfl) (Nat.le_of_ble_eq_true rfl) d_Kw_lettersOf_26
    · have hw := hw.2 hc
      refine lv_aload_n hx hb d_Kw_lettersOf_16 rfl (lv_at hl 1 rfl) ?_
      refine va_get (D := D) (ci := 1) (v := .ref (ad_this 1)) (C := R_Kw) (T := F_Kw) (N := 1) hx hb hts in_Kw hown hK hP 0 rfl rfl 0 (by decide) (hts (.fieldLink R_Kw 9 R_Kw "packed" "[J") kw1_85) (fun _ h9 => h9) rfl d_Kw_lettersOf_17 ?_
      refine lv_iload_n hx hb d_Kw_lettersOf_20 rfl (lv_at hl 0 rfl) ?_
      refine va_lald hx hb hK hP 1 1 rfl rfl hw.1 d_Kw_lettersOf_21 ?_
      have hw := hw.2
      refine lv_goto (tgt := 26) hx hb d_Kw_lettersOf_22 (by decide) ?_
      exact xq_lret (r := (z_this ((a1 - (200 : Int32))).toNatClampNeg)) (u := ()) hx hb hr hlocks hAe hP hD hS rfl hw (Nat.le_of_ble_eq_true rfl) (Nat.le_of_ble_eq_true rfl) d_Kw_lettersOf_26
theorem cw_Kw_lettersOf {R : Room} {s : State} {args : Array Value} {own : String} {index : Nat} (hts : ∀ w ∈ xq_W, w.before args s = true) (hl : .methodLink own index y_Kw_lettersOf ∈ xq_W) {rm : Room} (hR : rm.frames + 1 ≤ R.frames ∧ 8 + (3 + 11) + rm.locals ≤ R.locals) : CallW R s args own "StepText$Keywords" index y_Kw_lettersOf prog_3_method_5_code 3 (some (.long)) (.code y_Kw_lettersOf prog_3_method_5_code 3 (some (.long)) :: xq_W) rm rm.cells rm.slots 1 := ⟨xq_cb 1 hts kw4_69 kw1_2 hl ⟨by decide, by decide, by decide +kernel⟩ hR, hts _ kw4_67, hts _ kw4_68⟩
