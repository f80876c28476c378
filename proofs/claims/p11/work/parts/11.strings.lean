theorem kw1_41 : (Jvm.Cond.fieldLink "java/lang/String" (38 : Nat) "java/lang/String" "COMPACT_STRINGS" "Z") ∈ xq_W := xq_in tb_1 41 (by decide +kernel) rfl
theorem kw6_81 : (Jvm.Cond.fieldLink "java/lang/String" (15 : Nat) "java/lang/String" "coder" "B") ∈ xq_W := xq_in tb_6 81 (by decide +kernel) rfl
theorem kw1_40 : (Jvm.Cond.code ({ cls := "java/lang/String", name := "coder", desc := "()B" } : Jvm.MethodName) prog_14_method_152_code (1 : Nat) (Option.some Jvm.ClassFile.FieldType.byte)) ∈ xq_W := xq_in tb_1 40 (by decide +kernel) rfl
theorem kw1_3 : (Jvm.Cond.initialized "java/lang/String") ∈ xq_W := xq_in tb_1 3 (by decide +kernel) rfl
theorem kw1_38 : (Jvm.Cond.instanceMethod ({ cls := "java/lang/String", name := "coder", desc := "()B" } : Jvm.MethodName)) ∈ xq_W := xq_in tb_1 38 (by decide +kernel) rfl
theorem kw1_39 : (Jvm.Cond.selects "java/lang/String" ({ cls := "java/lang/String", name := "coder", desc := "()B" } : Jvm.MethodName) ({ cls := "java/lang/String", name := "coder", desc := "()B" } : Jvm.MethodName)) ∈ xq_W := xq_in tb_1 39 (by decide +kernel) rfl
theorem kw1_50 : (Jvm.Cond.code ({ cls := "java/lang/String", name := "isLatin1", desc := "()Z" } : Jvm.MethodName) prog_14_method_154_code (1 : Nat) (Option.some Jvm.ClassFile.FieldType.boolean)) ∈ xq_W := xq_in tb_1 50 (by decide +kernel) rfl
theorem kw1_48 : (Jvm.Cond.instanceMethod ({ cls := "java/lang/String", name := "isLatin1", desc := "()Z" } : Jvm.MethodName)) ∈ xq_W := xq_in tb_1 48 (by decide +kernel) rfl
theorem kw1_49 : (Jvm.Cond.selects "java/lang/String" ({ cls := "java/lang/String", name := "isLatin1", desc := "()Z" } : Jvm.MethodName) ({ cls := "java/lang/String", name := "isLatin1", desc := "()Z" } : Jvm.MethodName)) ∈ xq_W := xq_in tb_1 49 (by decide +kernel) rfl
theorem kw6_80 : (Jvm.Cond.fieldLink "java/lang/String" (9 : Nat) "java/lang/String" "value" "[B") ∈ xq_W := xq_in tb_6 80 (by decide +kernel) rfl
theorem kw1_37 : (Jvm.Cond.methodLink "java/lang/String" (335 : Nat) ({ cls := "java/lang/String", name := "coder", desc := "()B" } : Jvm.MethodName)) ∈ xq_W := xq_in tb_1 37 (by decide +kernel) rfl
theorem kw1_36 : (Jvm.Cond.code ({ cls := "java/lang/String", name := "length", desc := "()I" } : Jvm.MethodName) prog_14_method_54_code (1 : Nat) (Option.some Jvm.ClassFile.FieldType.int)) ∈ xq_W := xq_in tb_1 36 (by decide +kernel) rfl
theorem kw1_34 : (Jvm.Cond.instanceMethod ({ cls := "java/lang/String", name := "length", desc := "()I" } : Jvm.MethodName)) ∈ xq_W := xq_in tb_1 34 (by decide +kernel) rfl
theorem kw1_35 : (Jvm.Cond.selects "java/lang/String" ({ cls := "java/lang/String", name := "length", desc := "()I" } : Jvm.MethodName) ({ cls := "java/lang/String", name := "length", desc := "()I" } : Jvm.MethodName)) ∈ xq_W := xq_in tb_1 35 (by decide +kernel) rfl
theorem kw1_61 : (Jvm.Cond.code ({ cls := "jdk/internal/util/Preconditions", name := "checkIndex", desc := "(IILjava/util/function/BiFunction;)I" } : Jvm.MethodName) prog_18_method_11_code (3 : Nat) (Option.some Jvm.ClassFile.FieldType.int)) ∈ xq_W := xq_in tb_1 61 (by decide +kernel) rfl
theorem kw1_5 : (Jvm.Cond.initialized "jdk/internal/util/Preconditions") ∈ xq_W := xq_in tb_1 5 (by decide +kernel) rfl
theorem kw1_60 : (Jvm.Cond.static ({ cls := "jdk/internal/util/Preconditions", name := "checkIndex", desc := "(IILjava/util/function/BiFunction;)I" } : Jvm.MethodName)) ∈ xq_W := xq_in tb_1 60 (by decide +kernel) rfl
theorem kw1_57 : (Jvm.Cond.fieldLink "java/lang/String" (1053 : Nat) "jdk/internal/util/Preconditions" "SIOOBE_FORMATTER" "Ljava/util/function/BiFunction;") ∈ xq_W := xq_in tb_1 57 (by decide +kernel) rfl
theorem kw1_59 : (Jvm.Cond.methodLink "java/lang/String" (1059 : Nat) ({ cls := "jdk/internal/util/Preconditions", name := "checkIndex", desc := "(IILjava/util/function/BiFunction;)I" } : Jvm.MethodName)) ∈ xq_W := xq_in tb_1 59 (by decide +kernel) rfl
theorem kw1_56 : (Jvm.Cond.code ({ cls := "java/lang/String", name := "checkIndex", desc := "(II)V" } : Jvm.MethodName) prog_14_method_155_code (2 : Nat) (Option.none : Option Jvm.ClassFile.FieldType)) ∈ xq_W := xq_in tb_1 56 (by decide +kernel) rfl
theorem kw1_55 : (Jvm.Cond.static ({ cls := "java/lang/String", name := "checkIndex", desc := "(II)V" } : Jvm.MethodName)) ∈ xq_W := xq_in tb_1 55 (by decide +kernel) rfl
theorem kw1_54 : (Jvm.Cond.methodLink "java/lang/StringLatin1" (9 : Nat) ({ cls := "java/lang/String", name := "checkIndex", desc := "(II)V" } : Jvm.MethodName)) ∈ xq_W := xq_in tb_1 54 (by decide +kernel) rfl
theorem kw1_53 : (Jvm.Cond.code ({ cls := "java/lang/StringLatin1", name := "charAt", desc := "([BI)C" } : Jvm.MethodName) prog_15_method_2_code (2 : Nat) (Option.some Jvm.ClassFile.FieldType.char)) ∈ xq_W := xq_in tb_1 53 (by decide +kernel) rfl
theorem kw1_4 : (Jvm.Cond.initialized "java/lang/StringLatin1") ∈ xq_W := xq_in tb_1 4 (by decide +kernel) rfl
theorem kw1_52 : (Jvm.Cond.static ({ cls := "java/lang/StringLatin1", name := "charAt", desc := "([BI)C" } : Jvm.MethodName)) ∈ xq_W := xq_in tb_1 52 (by decide +kernel) rfl
theorem kw1_47 : (Jvm.Cond.methodLink "java/lang/String" (492 : Nat) ({ cls := "java/lang/String", name := "isLatin1", desc := "()Z" } : Jvm.MethodName)) ∈ xq_W := xq_in tb_1 47 (by decide +kernel) rfl
theorem kw1_51 : (Jvm.Cond.methodLink "java/lang/String" (495 : Nat) ({ cls := "java/lang/StringLatin1", name := "charAt", desc := "([BI)C" } : Jvm.MethodName)) ∈ xq_W := xq_in tb_1 51 (by decide +kernel) rfl
theorem kw1_46 : (Jvm.Cond.code ({ cls := "java/lang/String", name := "charAt", desc := "(I)C" } : Jvm.MethodName) prog_14_method_56_code (2 : Nat) (Option.some Jvm.ClassFile.FieldType.char)) ∈ xq_W := xq_in tb_1 46 (by decide +kernel) rfl
theorem kw1_44 : (Jvm.Cond.instanceMethod ({ cls := "java/lang/String", name := "charAt", desc := "(I)C" } : Jvm.MethodName)) ∈ xq_W := xq_in tb_1 44 (by decide +kernel) rfl
theorem kw1_45 : (Jvm.Cond.selects "java/lang/String" ({ cls := "java/lang/String", name := "charAt", desc := "(I)C" } : Jvm.MethodName) ({ cls := "java/lang/String", name := "charAt", desc := "(I)C" } : Jvm.MethodName)) ∈ xq_W := xq_in tb_1 45 (by decide +kernel) rfl
def xq_tm (i : Nat) : Term := match i with
  | 0 => .string "StepText$Keywords" 13
  | 1 => .string "StepText$Grammar" 178
  | _ => .string "StepText$Page" 129
def xq_by (i : Nat) : List Int32 := match i with
  | 0 => [115, 101, 116, 32, 119, 97, 105, 116, 32, 117, 110, 116, 105, 108, 32, 114, 97, 109, 112, 32, 112, 97, 114, 32, 105, 102, 32, 114, 101, 112, 101, 97, 116, 32, 108, 105, 109, 105, 116, 32, 97, 115, 107, 32, 100, 111, 32, 115, 116, 111, 112, 32, 104, 111, 108, 100, 32, 97, 99, 116, 32, 115, 105, 103, 110, 97, 108, 32, 111, 117, 116, 112, 117, 116, 32, 115, 116, 101, 112, 32, 105, 110, 32, 101, 108, 115, 101, 32, 116, 104, 101, 110, 32, 108, 32, 99, 32, 115, 32, 98, 97, 114, 32, 112, 97, 114, 116, 32, 109, 105, 110, 32, 104, 32]
  | _ => [32, 32, 43, 45, 42, 47, 32, 60, 61, 62]
def xq_rf (v : Option Value) : Nat := match v with
  | some (.ref a) => a
  | _ => 0
def xq_sa (o : State × Array Value) (i : Nat) : Nat := xq_rf ((xq_tm i).eval o.2 o.1 none [] o.1)
def xq_sv (o : State × Array Value) (i : Nat) : Nat := xq_rf ((Term.field (xq_tm i) "java/lang/String" "value" "[B").eval o.2 o.1 none [] o.1)
theorem xq_sw : ∀ i, i < 3 → (Cond.exactly (xq_tm i) "java/lang/String") ∈ flatC (Jvm.Cond.and given_1 narrow_1) ∧ (Cond.eq (.field (xq_tm i) "java/lang/String" "coder" "B") (.int 0)) ∈ flatC (Jvm.Cond.and given_1 narrow_1) ∧ (Cond.arrayOf (.field (xq_tm i) "java/lang/String" "value" "[B") .byte) ∈ flatC (Jvm.Cond.and given_1 narrow_1) ∧ (Cond.eq (.length (.field (xq_tm i) "java/lang/String" "value" "[B")) (.int (Int32.ofNat (xq_by i).length))) ∈ flatC (Jvm.Cond.and given_1 narrow_1) ∧ (xq_by i).length < 2 ^ 31 ∧ ∀ j, j < (xq_by i).length → (Cond.eq (.elem (.field (xq_tm i) "java/lang/String" "value" "[B") (.int (Int32.ofNat j))) (.int ((xq_by i).getD j 0))) ∈ flatC (Jvm.Cond.and given_1 narrow_1) := by decide +kernel
theorem xq_str {l : Launch} {o : State × Array Value} {A : Nat → Prop} {s : State} (hJ : xq_J l o A s s.heap) {i : Nat} (hi : i < 3) : va_O "java/lang/String" (xq_sa o i) A s s.heap ∧ va_OF "java/lang/String" "coder" "B" (.int 0) (xq_sa o i) A s s.heap ∧ va_OF "java/lang/String" "value" "[B" (.ref (xq_sv o i)) (xq_sa o i) A s s.heap ∧ va_T .byte (xq_sv o i) (xq_by i).length (fun j => .int ((xq_by i).getD j 0)) A s s.heap := by
  obtain ⟨-, hW, -, hn, hA, hq⟩ := hJ
  have hs := flat_of_before _ hn
  obtain ⟨w1, w2, w3, w4, w6, w5⟩ := xq_sw i hi
  obtain ⟨a, c, cA, kA, q1, -⟩ := Cond.exactly_spec (args := o.2) (first := o.1) (o := none) (s := o.1) (idx := []) (t := xq_tm i) (cls := "java/lang/String") (hs _ w1)
  have ea : xq_sa o i = a := by unfold xq_sa; rw [q1]; rfl
  obtain ⟨t, ht', hT⟩ := va_Tof (f := fun j => .int ((xq_by i).getD j 0)) (A := A) (N := (xq_by i).length) w6 (hs _ w3) (va_eqt (hs _ w4)) (fun j hj => va_eqt (hs _ (w5 j hj))) hA
  have ev : xq_sv o i = t := by unfold xq_sv; rw [ht']; rfl
  have kp : ∀ q : Nat, q < o.1.heap.size → ¬ A q → s.heap[q]? = o.1.heap[q]? := fun q h _ => hq q h
  rw [ea, ev]
  exact ⟨(va_O.moved hW.alike (va_Oof (hs _ w1) q1 hA)).kept kp, (va_OF.moved hW.alike (vk_OFof q1 (va_eqt (hs _ w2)) hA)).kept kp, (va_OF.moved hW.alike (vk_OFof q1 ht' hA)).kept kp, (va_T.moved hW.alike hT).kept kp⟩
theorem xq_cst {l : Launch} {o : State × Array Value} {A : Nat → Prop} {s : State} (hJ : xq_J l o A s s.heap) : va_Z "java/lang/String" "COMPACT_STRINGS" "Z" (.int 1) A s s.heap := by
  obtain ⟨-, hW, ht, hn, hA, hq⟩ := hJ
  have hs := flat_of_before _ hn
  exact (va_Z.moved hW.alike (va_Zof (ht _ (by decide +kernel)) (ht _ (by decide +kernel)) (va_eqi (hs _ (by decide +kernel))) hA)).kept (fun q h _ => hq q h)
theorem xq_sio {l : Launch} {o : State × Array Value} {A : Nat → Prop} {s : State} (hJ : xq_J l o A s s.heap) : va_Zq "jdk/internal/util/Preconditions" "SIOOBE_FORMATTER" "Ljava/util/function/BiFunction;" A s s.heap := by
  obtain ⟨-, hW, ht, hn, hA, hq⟩ := hJ
  have hs := flat_of_before _ hn
  exact (va_Zq.moved hW.alike (va_Zqof (ht _ (by decide +kernel)) (ht _ (by decide +kernel)) (hs _ (by decide +kernel)) hA)).kept (fun q h _ => hq q h)
theorem xq_srec {l : Launch} {o : State × Array Value} {A : Nat → Prop} {s : State} {H : Heap} {locs : List Loc} (hJ : xq_J l o A s s.heap) {i : Nat} (hi : i < 3) (hS : va_S A s.heap H locs) : ∃ cell : Cell, H[xq_sa o i]? = some cell ∧ cell.vm.isStatics = false ∧ s.vm.findClass "java/lang/String" = some cell.cls := by
  obtain ⟨cell, h1, h2, h3, h4⟩ := (xq_str hJ hi).1
  exact ⟨cell, by rw [hS.2.1 _ (Array.getElem?_eq_some_iff.mp h1).1 h4]; exact h1, h2, h3⟩
/-- the char at k of string i -/
def xq_ch (i : Nat) (k : Int32) : Int32 := (((xq_by i).getD k.toNatClampNeg 0 &&& (255 : Int32)).toUInt32 % 65536).toInt32
theorem xq_chn (i : Nat) (k : Int32) : narrow .char (.int (xq_ch i k)) = .int (xq_ch i k) := pk_nc _
def y_Jcoder : MethodName := ⟨"java/lang/String", "coder", "()B"⟩
theorem d_Jcoder_0 : decode prog_14_method_152_code 0 = .ok (.getstatic 38, 3) := by decide +kernel
theorem d_Jcoder_3 : decode prog_14_method_152_code 3 = .ok (.ifCond .eq 10, 3) := by decide +kernel
theorem d_Jcoder_6 : decode prog_14_method_152_code 6 = .ok (.aload_n 0, 1) := by decide +kernel
theorem d_Jcoder_7 : decode prog_14_method_152_code 7 = .ok (.getfield 15, 3) := by decide +kernel
theorem d_Jcoder_10 : decode prog_14_method_152_code 10 = .ok (.goto 4, 3) := by decide +kernel
theorem d_Jcoder_14 : decode prog_14_method_152_code 14 = .ok (.ireturn, 1) := by decide +kernel
def y_Jlatin : MethodName := ⟨"java/lang/String", "isLatin1", "()Z"⟩
theorem d_Jlatin_0 : decode prog_14_method_154_code 0 = .ok (.getstatic 38, 3) := by decide +kernel
theorem d_Jlatin_3 : decode prog_14_method_154_code 3 = .ok (.ifCond .eq 14, 3) := by decide +kernel
theorem d_Jlatin_6 : decode prog_14_method_154_code 6 = .ok (.aload_n 0, 1) := by decide +kernel
theorem d_Jlatin_7 : decode prog_14_method_154_code 7 = .ok (.getfield 15, 3) := by decide +kernel
theorem d_Jlatin_10 : decode prog_14_method_154_code 10 = .ok (.ifCond .ne 7, 3) := by decide +kernel
theorem d_Jlatin_13 : decode prog_14_method_154_code 13 = .ok (.iconst 1, 1) := by decide +kernel
theorem d_Jlatin_14 : decode prog_14_method_154_code 14 = .ok (.goto 4, 3) := by decide +kernel
theorem d_Jlatin_18 : decode prog_14_method_154_code 18 = .ok (.ireturn, 1) := by decide +kernel
def y_Jlen : MethodName := ⟨"java/lang/String", "length", "()I"⟩
theorem d_Jlen_0 : decode prog_14_method_54_code 0 = .ok (.aload_n 0, 1) := by decide +kernel
theorem d_Jlen_1 : decode prog_14_method_54_code 1 = .ok (.getfield 9, 3) := by decide +kernel
theorem d_Jlen_4 : decode prog_14_method_54_code 4 = .ok (.arraylength, 1) := by decide +kernel
theorem d_Jlen_5 : decode prog_14_method_54_code 5 = .ok (.aload_n 0, 1) := by decide +kernel
theorem d_Jlen_6 : decode prog_14_method_54_code 6 = .ok (.invokevirtual 335, 3) := by decide +kernel
theorem d_Jlen_9 : decode prog_14_method_54_code 9 = .ok (.ishr, 1) := by decide +kernel
theorem d_Jlen_10 : decode prog_14_method_54_code 10 = .ok (.ireturn, 1) := by decide +kernel
def y_Jpre : MethodName := ⟨"jdk/internal/util/Preconditions", "checkIndex", "(IILjava/util/function/BiFunction;)I"⟩
theorem d_Jpre_0 : decode prog_18_method_11_code 0 = .ok (.iload_n 0, 1) := by decide +kernel
theorem d_Jpre_1 : decode prog_18_method_11_code 1 = .ok (.ifCond .lt 8, 3) := by decide +kernel
theorem d_Jpre_4 : decode prog_18_method_11_code 4 = .ok (.iload_n 0, 1) := by decide +kernel
theorem d_Jpre_5 : decode prog_18_method_11_code 5 = .ok (.iload_n 1, 1) := by decide +kernel
theorem d_Jpre_6 : decode prog_18_method_11_code 6 = .ok (.if_icmp .lt 10, 3) := by decide +kernel
theorem d_Jpre_16 : decode prog_18_method_11_code 16 = .ok (.iload_n 0, 1) := by decide +kernel
theorem d_Jpre_17 : decode prog_18_method_11_code 17 = .ok (.ireturn, 1) := by decide +kernel
def y_Jchk : MethodName := ⟨"java/lang/String", "checkIndex", "(II)V"⟩
theorem d_Jchk_0 : decode prog_14_method_155_code 0 = .ok (.iload_n 0, 1) := by decide +kernel
theorem d_Jchk_1 : decode prog_14_method_155_code 1 = .ok (.iload_n 1, 1) := by decide +kernel
theorem d_Jchk_2 : decode prog_14_method_155_code 2 = .ok (.getstatic 1053, 3) := by decide +kernel
theorem d_Jchk_5 : decode prog_14_method_155_code 5 = .ok (.invokestatic 1059, 3) := by decide +kernel
theorem d_Jchk_8 : decode prog_14_method_155_code 8 = .ok (.pop, 1) := by decide +kernel
theorem d_Jchk_9 : decode prog_14_method_155_code 9 = .ok (.return_, 1) := by decide +kernel
def y_Jlch : MethodName := ⟨"java/lang/StringLatin1", "charAt", "([BI)C"⟩
theorem d_Jlch_0 : decode prog_15_method_2_code 0 = .ok (.iload_n 1, 1) := by decide +kernel
theorem d_Jlch_1 : decode prog_15_method_2_code 1 = .ok (.aload_n 0, 1) := by decide +kernel
theorem d_Jlch_2 : decode prog_15_method_2_code 2 = .ok (.arraylength, 1) := by decide +kernel
theorem d_Jlch_3 : decode prog_15_method_2_code 3 = .ok (.invokestatic 9, 3) := by decide +kernel
theorem d_Jlch_6 : decode prog_15_method_2_code 6 = .ok (.aload_n 0, 1) := by decide +kernel
theorem d_Jlch_7 : decode prog_15_method_2_code 7 = .ok (.iload_n 1, 1) := by decide +kernel
theorem d_Jlch_8 : decode prog_15_method_2_code 8 = .ok (.baload, 1) := by decide +kernel
theorem d_Jlch_9 : decode prog_15_method_2_code 9 = .ok (.sipush 255, 3) := by decide +kernel
theorem d_Jlch_12 : decode prog_15_method_2_code 12 = .ok (.iand, 1) := by decide +kernel
theorem d_Jlch_13 : decode prog_15_method_2_code 13 = .ok (.i2c, 1) := by decide +kernel
theorem d_Jlch_14 : decode prog_15_method_2_code 14 = .ok (.ireturn, 1) := by decide +kernel
def y_Jchar : MethodName := ⟨"java/lang/String", "charAt", "(I)C"⟩
theorem d_Jchar_0 : decode prog_14_method_56_code 0 = .ok (.aload_n 0, 1) := by decide +kernel
theorem d_Jchar_1 : decode prog_14_method_56_code 1 = .ok (.invokevirtual 492, 3) := by decide +kernel
theorem d_Jchar_4 : decode prog_14_method_56_code 4 = .ok (.ifCond .eq 12, 3) := by decide +kernel
theorem d_Jchar_7 : decode prog_14_method_56_code 7 = .ok (.aload_n 0, 1) := by decide +kernel
theorem d_Jchar_8 : decode prog_14_method_56_code 8 = .ok (.getfield 9, 3) := by decide +kernel
theorem d_Jchar_11 : decode prog_14_method_56_code 11 = .ok (.iload_n 1, 1) := by decide +kernel
theorem d_Jchar_12 : decode prog_14_method_56_code 12 = .ok (.invokestatic 495, 3) := by decide +kernel
theorem d_Jchar_15 : decode prog_14_method_56_code 15 = .ok (.ireturn, 1) := by decide +kernel
def rm_Jcoder : Room := { frames := 0, cells := 0, slots := 0, locals := 0 }
def rm_Jlatin : Room := { frames := 0, cells := 0, slots := 0, locals := 0 }
def rm_Jlen : Room := { frames := 1, cells := 0, slots := 0, locals := 20 }
def rm_Jpre : Room := { frames := 0, cells := 0, slots := 0, locals := 0 }
def rm_Jchk : Room := { frames := 1, cells := 0, slots := 0, locals := 30 }
def rm_Jlch : Room := { frames := 2, cells := 0, slots := 0, locals := 60 }
def rm_Jchar : Room := { frames := 3, cells := 0, slots := 0, locals := 90 }
set_option maxHeartbeats 4000000 in
theorem c_Jcoder {l : Launch} {o : State × Array Value} {D : va_G} {k : Nat → ClassId} {i : Nat} {post : Int32 → Unit → Prop} (hi : i < 3) (hw : post 0 ()) : xq_C l o y_Jcoder (.code y_Jcoder prog_14_method_152_code 1 (some .byte) :: xq_W) rm_Jcoder D vwCl (xt k) [.ref (xq_sa o i)] ([] : va_W) (fun r : Int32 => some (.int r)) post (fun _ : Unit => False) (fun _ : Unit => ([] : va_W)) 0 0 0 0 := by
  refine xq_ofW (cc := prog_14_method_152_code) (maxL := 1) (ret := (some .byte)) (by decide) rfl (Nat.le_of_ble_eq_true rfl) ?_
  intro p e s m below meth c ls H locs A hAt hAe hA hl hK hJ hP0 hP hD hS
  obtain ⟨hx, hb, hml, hr, hlocks, hown, hts, hex, hnm⟩ := id hAt
  have hown : s.vm.findClass "java/lang/String" = some m.cls := hown
  have hl : lv_has ls 1 [(0, .ref (xq_sa o i))] := hl
  refine va_gets hx hb (xq_cst hJ) hS hown (hts (.fieldLink "java/lang/String" 38 "java/lang/String" "COMPACT_STRINGS" "Z") kw1_41) (fun _ h9 => h9) d_Jcoder_0 ?_
  refine lv_if_eq (tgt := 13) hx hb d_Jcoder_3 (by decide) (fun hc => absurd hc (by decide)) (fun hc => ?_)
  refine lv_aload_n hx hb d_Jcoder_6 rfl (lv_at hl 0 rfl) ?_
  refine vk_getf hx hb (xq_str hJ hi).2.1 hS hown (hts (.fieldLink "java/lang/String" 15 "java/lang/String" "coder" "B") kw6_81) (fun _ h9 => h9) d_Jcoder_7 ?_
  refine lv_goto (tgt := 14) hx hb d_Jcoder_10 (by decide) ?_
  exact xq_zret (r := (0 : Int32)) (u := ()) hx hb hr hlocks hAe hP hD hS rfl rfl hw (Nat.le_of_ble_eq_true rfl) (Nat.le_of_ble_eq_true rfl) d_Jcoder_14
theorem cw_Jcoder {R : Room} {s : State} {args : Array Value} {own : String} {index : Nat} (hts : ∀ w ∈ xq_W, w.before args s = true) (hl : .methodLink own index y_Jcoder ∈ xq_W) {rm : Room} (hR : rm.frames + 1 ≤ R.frames ∧ 8 + (1 + 11) + rm.locals ≤ R.locals) : CallW R s args own "java/lang/String" index y_Jcoder prog_14_method_152_code 1 (some .byte) (.code y_Jcoder prog_14_method_152_code 1 (some .byte) :: xq_W) rm rm.cells rm.slots 0 := ⟨xq_cb 0 hts kw1_40 kw1_3 hl ⟨by decide, by decide, by decide +kernel⟩ hR, hts _ kw1_38, hts _ kw1_39⟩
set_option maxHeartbeats 4000000 in
theorem c_Jlatin {l : Launch} {o : State × Array Value} {D : va_G} {k : Nat → ClassId} {i : Nat} {post : Int32 → Unit → Prop} (hi : i < 3) (hw : post 1 ()) : xq_C l o y_Jlatin (.code y_Jlatin prog_14_method_154_code 1 (some .boolean) :: xq_W) rm_Jlatin D vwCl (xt k) [.ref (xq_sa o i)] ([] : va_W) (fun r : Int32 => some (.int r)) post (fun _ : Unit => False) (fun _ : Unit => ([] : va_W)) 0 0 0 0 := by
  refine xq_ofW (cc := prog_14_method_154_code) (maxL := 1) (ret := (some .boolean)) (by decide) rfl (Nat.le_of_ble_eq_true rfl) ?_
  intro p e s m below meth c ls H locs A hAt hAe hA hl hK hJ hP0 hP hD hS
  obtain ⟨hx, hb, hml, hr, hlocks, hown, hts, hex, hnm⟩ := id hAt
  have hown : s.vm.findClass "java/lang/String" = some m.cls := hown
  have hl : lv_has ls 1 [(0, .ref (xq_sa o i))] := hl
  refine va_gets hx hb (xq_cst hJ) hS hown (hts (.fieldLink "java/lang/String" 38 "java/lang/String" "COMPACT_STRINGS" "Z") kw1_41) (fun _ h9 => h9) d_Jlatin_0 ?_
  refine lv_if_eq (tgt := 17) hx hb d_Jlatin_3 (by decide) (fun hc => absurd hc (by decide)) (fun hc => ?_)
  refine lv_aload_n hx hb d_Jlatin_6 rfl (lv_at hl 0 rfl) ?_
  refine vk_getf hx hb (xq_str hJ hi).2.1 hS hown (hts (.fieldLink "java/lang/String" 15 "java/lang/String" "coder" "B") kw6_81) (fun _ h9 => h9) d_Jlatin_7 ?_
  refine lv_if_ne (tgt := 17) hx hb d_Jlatin_10 (by decide) (fun hc => absurd rfl hc) (fun hc => ?_)
  refine lv_iconst (v := (1 : Int32)) hx hb d_Jlatin_13 (by decide) ?_
  refine lv_goto (tgt := 18) hx hb d_Jlatin_14 (by decide) ?_
  exact xq_zret (r := (1 : Int32)) (u := ()) hx hb hr hlocks hAe hP hD hS rfl rfl hw (Nat.le_of_ble_eq_true rfl) (Nat.le_of_ble_eq_true rfl) d_Jlatin_18
theorem cw_Jlatin {R : Room} {s : State} {args : Array Value} {own : String} {index : Nat} (hts : ∀ w ∈ xq_W, w.before args s = true) (hl : .methodLink own index y_Jlatin ∈ xq_W) {rm : Room} (hR : rm.frames + 1 ≤ R.frames ∧ 8 + (1 + 11) + rm.locals ≤ R.locals) : CallW R s args own "java/lang/String" index y_Jlatin prog_14_method_154_code 1 (some .boolean) (.code y_Jlatin prog_14_method_154_code 1 (some .boolean) :: xq_W) rm rm.cells rm.slots 0 := ⟨xq_cb 0 hts kw1_50 kw1_3 hl ⟨by decide, by decide, by decide +kernel⟩ hR, hts _ kw1_48, hts _ kw1_49⟩
set_option maxHeartbeats 4000000 in
theorem c_Jlen {l : Launch} {o : State × Array Value} {D : va_G} {k : Nat → ClassId} {i : Nat} {post : Int32 → Unit → Prop} (hi : i < 3) (hw : post (Int32.ofNat (xq_by i).length) ()) : xq_C l o y_Jlen (.code y_Jlen prog_14_method_54_code 1 (some .int) :: xq_W) rm_Jlen D vwCl (xt k) [.ref (xq_sa o i)] ([] : va_W) (fun r : Int32 => some (.int r)) post (fun _ : Unit => False) (fun _ : Unit => ([] : va_W)) 0 0 0 0 := by
  refine xq_ofW (cc := prog_14_method_54_code) (maxL := 1) (ret := (some .int)) (by decide) rfl (Nat.le_of_ble_eq_true rfl) ?_
  intro p e s m below meth c ls H locs A hAt hAe hA hl hK hJ hP0 hP hD hS
  obtain ⟨hx, hb, hml, hr, hlocks, hown, hts, hex, hnm⟩ := id hAt
  have hown : s.vm.findClass "java/lang/String" = some m.cls := hown
  have hl : lv_has ls 1 [(0, .ref (xq_sa o i))] := hl
  refine lv_aload_n hx hb d_Jlen_0 rfl (lv_at hl 0 rfl) ?_
  refine vk_getf hx hb (xq_str hJ hi).2.2.1 hS hown (hts (.fieldLink "java/lang/String" 9 "java/lang/String" "value" "[B") kw6_80) (fun _ h9 => h9) d_Jlen_1 ?_
  refine va_tlen hx hb (xq_str hJ hi).2.2.2 hS rfl d_Jlen_4 ?_
  refine lv_aload_n hx hb d_Jlen_5 rfl (lv_at hl 0 rfl) ?_
  refine xq_go (wr := ([] : va_W)) (stk := fun r => .int r :: [.int (Int32.ofNat (xq_by i).length)]) (xq_runV (As := []) (rest := [.int (Int32.ofNat (xq_by i).length)]) ⟨hx, hb, hml, hown, hts⟩ (c_Jcoder (l := l) (o := o) (D := D) (k := k) (post := fun r _ => r = 0) hi rfl) (cw_Jcoder hts kw1_37 ⟨Nat.le_of_ble_eq_true rfl, Nat.le_of_ble_eq_true rfl⟩) (xq_srec hJ hi hS) (hP.sub [] rfl) hK hJ hS (va_free hD hS hA [] rfl) ((hD.sub [] (by decide) rfl).weaken (fun _ _ _ _ => trivial)) rfl hl.1 (Nat.le_of_ble_eq_true rfl) d_Jlen_6 ⟨Nat.le_of_ble_eq_true rfl, Nat.le_of_ble_eq_true rfl⟩) hP hD hS hA [] [] rfl rfl (by decide) (by decide) (fun _ => rfl) (fun r1 u1 H locs hw1 hP hD hS => ?_) (fun _ _ _ _ h9 => h9.elim)
  refine lv_ishr hx hb d_Jlen_9 ?_
  subst hw1
  rw [sb_shr0]
  exact xq_iret (r := Int32.ofNat (xq_by i).length) (u := ()) hx hb hr hlocks hAe (hP.sub [] rfl) (hD.sub [] (by decide) rfl) hS rfl hw (Nat.le_of_ble_eq_true rfl) (Nat.le_of_ble_eq_true rfl) d_Jlen_10
theorem cw_Jlen {R : Room} {s : State} {args : Array Value} {own : String} {index : Nat} (hts : ∀ w ∈ xq_W, w.before args s = true) (hl : .methodLink own index y_Jlen ∈ xq_W) {rm : Room} (hR : rm.frames + 1 ≤ R.frames ∧ 8 + (1 + 11) + rm.locals ≤ R.locals) : CallW R s args own "java/lang/String" index y_Jlen prog_14_method_54_code 1 (some .int) (.code y_Jlen prog_14_method_54_code 1 (some .int) :: xq_W) rm rm.cells rm.slots 0 := ⟨xq_cb 0 hts kw1_36 kw1_3 hl ⟨by decide, by decide, by decide +kernel⟩ hR, hts _ kw1_34, hts _ kw1_35⟩
set_option maxHeartbeats 4000000 in
theorem c_Jpre {l : Launch} {o : State × Array Value} {D : va_G} {k : Nat → ClassId} {i n : Int32} {f : Option Nat} {post : Int32 → Unit → Prop} (h1 : ¬ i < 0) (h2 : i < n) (hw : post i ()) : xq_C l o y_Jpre (.code y_Jpre prog_18_method_11_code 3 (some .int) :: xq_W) rm_Jpre D vwCl (xt k) [.int i, .int n, va_rf f] ([] : va_W) (fun r : Int32 => some (.int r)) post (fun _ : Unit => False) (fun _ : Unit => ([] : va_W)) 0 0 0 0 := by
  refine xq_ofW (cc := prog_18_method_11_code) (maxL := 3) (ret := (some .int)) (by decide) rfl (by cases f <;> exact Nat.le_of_ble_eq_true rfl) ?_
  intro p e s m below meth c ls H locs A hAt hAe hA hl hK hJ hP0 hP hD hS
  obtain ⟨hx, hb, hml, hr, hlocks, hown, hts, hex, hnm⟩ := id hAt
  have hown : s.vm.findClass "jdk/internal/util/Preconditions" = some m.cls := hown
  have hl : lv_has ls 3 [(0, .int i), (1, .int n), (2, va_rf f)] := by
    cases f <;> exact hl
  refine lv_iload_n hx hb d_Jpre_0 rfl (lv_at hl 0 rfl) ?_
  refine lv_if_lt (tgt := 9) hx hb d_Jpre_1 (by decide) (fun hc => absurd hc h1) (fun hc => ?_)
  refine lv_iload_n hx hb d_Jpre_4 rfl (lv_at hl 0 rfl) ?_
  refine lv_iload_n hx hb d_Jpre_5 rfl (lv_at hl 1 rfl) ?_
  refine lv_icmp_lt (tgt := 16) hx hb d_Jpre_6 (by decide) (fun hc => ?_) (fun hc => absurd h2 hc)
  refine lv_iload_n hx hb d_Jpre_16 rfl (lv_at hl 0 rfl) ?_
  exact xq_iret (r := i) (u := ()) hx hb hr hlocks hAe hP hD hS rfl hw (Nat.le_of_ble_eq_true rfl) (Nat.le_of_ble_eq_true rfl) d_Jpre_17
theorem cs_Jpre {R : Room} {s : State} {args : Array Value} {own : String} {index : Nat} (hts : ∀ w ∈ xq_W, w.before args s = true) (hl : .methodLink own index y_Jpre ∈ xq_W) {rm : Room} (hR : rm.frames + 1 ≤ R.frames ∧ 8 + (3 + 11) + rm.locals ≤ R.locals) : CallB R s args own index y_Jpre prog_18_method_11_code 3 (some .int) (.code y_Jpre prog_18_method_11_code 3 (some .int) :: xq_W) rm rm.cells rm.slots 3 ∧ (Cond.static y_Jpre).before args s = true := ⟨xq_cb 3 hts kw1_61 kw1_5 hl ⟨by decide, by decide, by decide +kernel⟩ hR, hts _ kw1_60⟩
set_option maxHeartbeats 4000000 in
theorem c_Jchk {l : Launch} {o : State × Array Value} {D : va_G} {k : Nat → ClassId} {i n : Int32} {post : Unit → Unit → Prop} (h1 : ¬ i < 0) (h2 : i < n) (hw : post () ()) : xq_C l o y_Jchk (.code y_Jchk prog_14_method_155_code 2 none :: xq_W) rm_Jchk D vwCl (xt k) [.int i, .int n] ([] : va_W) (fun _ : Unit => none) post (fun _ : Unit => False) (fun _ : Unit => ([] : va_W)) 0 0 0 0 := by
  refine xq_ofW (cc := prog_14_method_155_code) (maxL := 2) (ret := none) (by decide) rfl (Nat.le_of_ble_eq_true rfl) ?_
  intro p e s m below meth c ls H locs A hAt hAe hA hl hK hJ hP0 hP hD hS
  obtain ⟨hx, hb, hml, hr, hlocks, hown, hts, hex, hnm⟩ := id hAt
  have hown : s.vm.findClass "java/lang/String" = some m.cls := hown
  have hl : lv_has ls 2 [(0, .int i), (1, .int n)] := hl
  refine lv_iload_n hx hb d_Jchk_0 rfl (lv_at hl 0 rfl) ?_
  refine lv_iload_n hx hb d_Jchk_1 rfl (lv_at hl 1 rfl) ?_
  have hZ : ∃ f : Option Nat, va_Z "jdk/internal/util/Preconditions" "SIOOBE_FORMATTER" "Ljava/util/function/BiFunction;" (va_rf f) A s s.heap := by
    rcases xq_sio hJ with h | ⟨t, h⟩
    · exact ⟨none, h⟩
    · exact ⟨some t, h⟩
  obtain ⟨f, hZ⟩ := hZ
  refine va_gets hx hb hZ hS hown (hts (.fieldLink "java/lang/String" 1053 "jdk/internal/util/Preconditions" "SIOOBE_FORMATTER" "Ljava/util/function/BiFunction;") kw1_57) (fun _ h9 => h9) d_Jchk_2 ?_
  refine xq_go (wr := ([] : va_W)) (stk := fun r => [.int r]) (xq_runS (As := [.int i, .int n, va_rf f]) (rest := []) ⟨hx, hb, hml, hown, hts⟩ (c_Jpre (l := l) (o := o) (D := D) (k := k) (f := f) (post := fun _ _ => True) h1 h2 trivial) (cs_Jpre hts kw1_59 ⟨Nat.le_of_ble_eq_true rfl, Nat.le_of_ble_eq_true rfl⟩) (hP.sub [] rfl) hK hJ hS (va_free hD hS hA [] rfl) ((hD.sub [] (by decide) rfl).weaken (fun _ _ _ _ => trivial)) rfl hl.1 (Nat.le_of_ble_eq_true rfl) d_Jchk_5 ⟨Nat.le_of_ble_eq_true rfl, Nat.le_of_ble_eq_true rfl⟩) hP hD hS hA [] [] rfl rfl (by decide) (by decide) (fun _ => rfl) (fun r1 u1 H locs hw1 hP hD hS => ?_) (fun _ _ _ _ h9 => h9.elim)
  refine lv_pop hx hb d_Jchk_8 rfl ?_
  exact xq_vret (r := ()) (u := ()) hx hb hr hlocks hAe (hP.sub [] rfl) (hD.sub [] (by decide) rfl) hS rfl hw (Nat.le_of_ble_eq_true rfl) (Nat.le_of_ble_eq_true rfl) d_Jchk_9
theorem cs_Jchk {R : Room} {s : State} {args : Array Value} {own : String} {index : Nat} (hts : ∀ w ∈ xq_W, w.before args s = true) (hl : .methodLink own index y_Jchk ∈ xq_W) {rm : Room} (hR : rm.frames + 1 ≤ R.frames ∧ 8 + (2 + 11) + rm.locals ≤ R.locals) : CallB R s args own index y_Jchk prog_14_method_155_code 2 none (.code y_Jchk prog_14_method_155_code 2 none :: xq_W) rm rm.cells rm.slots 2 ∧ (Cond.static y_Jchk).before args s = true := ⟨xq_cb 2 hts kw1_56 kw1_3 hl ⟨by decide, by decide, by decide +kernel⟩ hR, hts _ kw1_55⟩
set_option maxHeartbeats 4000000 in
theorem c_Jlch {l : Launch} {o : State × Array Value} {D : va_G} {k : Nat → ClassId} {i : Nat} {j : Int32} {post : Int32 → Unit → Prop} (hi : i < 3) (hj : vp_in j (xq_by i).length) (hw : post (xq_ch i j) ()) : xq_C l o y_Jlch (.code y_Jlch prog_15_method_2_code 2 (some .char) :: xq_W) rm_Jlch D vwCl (xt k) [.ref (xq_sv o i), .int j] ([] : va_W) (fun r : Int32 => some (.int r)) post (fun _ : Unit => False) (fun _ : Unit => ([] : va_W)) 0 0 0 0 := by
  refine xq_ofW (cc := prog_15_method_2_code) (maxL := 2) (ret := (some .char)) (by decide) rfl (Nat.le_of_ble_eq_true rfl) ?_
  intro p e s m below meth c ls H locs A hAt hAe hA hl hK hJ hP0 hP hD hS
  obtain ⟨hx, hb, hml, hr, hlocks, hown, hts, hex, hnm⟩ := id hAt
  have hown : s.vm.findClass "java/lang/StringLatin1" = some m.cls := hown
  have hl : lv_has ls 2 [(0, .ref (xq_sv o i)), (1, .int j)] := hl
  obtain ⟨n9, hn9, rfl⟩ := vp_in_of hj (xq_sw i hi).2.2.2.2.1
  have hlt9 := (xq_sw i hi).2.2.2.2.1
  refine lv_iload_n hx hb d_Jlch_0 rfl (lv_at hl 1 rfl) ?_
  refine lv_aload_n hx hb d_Jlch_1 rfl (lv_at hl 0 rfl) ?_
  refine va_tlen hx hb (xq_str hJ hi).2.2.2 hS rfl d_Jlch_2 ?_
  refine xq_go (wr := ([] : va_W)) (stk := fun _ => []) (xq_runS (As := [.int (nI n9), .int (Int32.ofNat (xq_by i).length)]) (rest := []) ⟨hx, hb, hml, hown, hts⟩ (c_Jchk (l := l) (o := o) (D := D) (k := k) (post := fun _ _ => True) (nI_pos (by omega)) (nI_lt hn9 hlt9) trivial) (cs_Jchk hts kw1_54 ⟨Nat.le_of_ble_eq_true rfl, Nat.le_of_ble_eq_true rfl⟩) (hP.sub [] rfl) hK hJ hS (va_free hD hS hA [] rfl) ((hD.sub [] (by decide) rfl).weaken (fun _ _ _ _ => trivial)) rfl hl.1 (Nat.le_of_ble_eq_true rfl) d_Jlch_3 ⟨Nat.le_of_ble_eq_true rfl, Nat.le_of_ble_eq_true rfl⟩) hP hD hS hA [] [] rfl rfl (by decide) (by decide) (fun _ => rfl) (fun r1 u1 H locs hw1 hP hD hS => ?_) (fun _ _ _ _ h9 => h9.elim)
  refine lv_aload_n hx hb d_Jlch_6 rfl (lv_at hl 0 rfl) ?_
  refine lv_iload_n hx hb d_Jlch_7 rfl (lv_at hl 1 rfl) ?_
  refine va_tb hx hb (xq_str hJ hi).2.2.2 hS hj rfl d_Jlch_8 ?_
  refine lv_sipush (v := (255 : Int32)) hx hb d_Jlch_9 (by decide) ?_
  refine lv_iand hx hb d_Jlch_12 ?_
  refine lv_i2c hx hb d_Jlch_13 rfl ?_
  exact xq_zret (r := xq_ch i (nI n9)) (u := ()) hx hb hr hlocks hAe (hP.sub [] rfl) (hD.sub [] (by decide) rfl) hS rfl (xq_chn i (nI n9)) hw (Nat.le_of_ble_eq_true rfl) (Nat.le_of_ble_eq_true rfl) d_Jlch_14
theorem cs_Jlch {R : Room} {s : State} {args : Array Value} {own : String} {index : Nat} (hts : ∀ w ∈ xq_W, w.before args s = true) (hl : .methodLink own index y_Jlch ∈ xq_W) {rm : Room} (hR : rm.frames + 1 ≤ R.frames ∧ 8 + (2 + 11) + rm.locals ≤ R.locals) : CallB R s args own index y_Jlch prog_15_method_2_code 2 (some .char) (.code y_Jlch prog_15_method_2_code 2 (some .char) :: xq_W) rm rm.cells rm.slots 2 ∧ (Cond.static y_Jlch).before args s = true := ⟨xq_cb 2 hts kw1_53 kw1_4 hl ⟨by decide, by decide, by decide +kernel⟩ hR, hts _ kw1_52⟩
set_option maxHeartbeats 4000000 in
theorem c_Jchar {l : Launch} {o : State × Array Value} {D : va_G} {k : Nat → ClassId} {i : Nat} {j : Int32} {post : Int32 → Unit → Prop} (hi : i < 3) (hj : vp_in j (xq_by i).length) (hw : post (xq_ch i j) ()) : xq_C l o y_Jchar (.code y_Jchar prog_14_method_56_code 2 (some .char) :: xq_W) rm_Jchar D vwCl (xt k) [.ref (xq_sa o i), .int j] ([] : va_W) (fun r : Int32 => some (.int r)) post (fun _ : Unit => False) (fun _ : Unit => ([] : va_W)) 0 0 0 0 := by
  refine xq_ofW (cc := prog_14_method_56_code) (maxL := 2) (ret := (some .char)) (by decide) rfl (Nat.le_of_ble_eq_true rfl) ?_
  intro p e s m below meth c ls H locs A hAt hAe hA hl hK hJ hP0 hP hD hS
  obtain ⟨hx, hb, hml, hr, hlocks, hown, hts, hex, hnm⟩ := id hAt
  have hown : s.vm.findClass "java/lang/String" = some m.cls := hown
  have hl : lv_has ls 2 [(0, .ref (xq_sa o i)), (1, .int j)] := hl
  refine lv_aload_n hx hb d_Jchar_0 rfl (lv_at hl 0 rfl) ?_
  refine xq_go (wr := ([] : va_W)) (stk := fun r => [.int r]) (xq_runV (As := []) (rest := []) ⟨hx, hb, hml, hown, hts⟩ (c_Jlatin (l := l) (o := o) (D := D) (k := k) (post := fun r _ => r = 1) hi rfl) (cw_Jlatin hts kw1_47 ⟨Nat.le_of_ble_eq_true rfl, Nat.le_of_ble_eq_true rfl⟩) (xq_srec hJ hi hS) (hP.sub [] rfl) hK hJ hS (va_free hD hS hA [] rfl) ((hD.sub [] (by decide) rfl).weaken (fun _ _ _ _ => trivial)) rfl hl.1 (Nat.le_of_ble_eq_true rfl) d_Jchar_1 ⟨Nat.le_of_ble_eq_true rfl, Nat.le_of_ble_eq_true rfl⟩) hP hD hS hA [] [] rfl rfl (by decide) (by decide) (fun _ => rfl) (fun r1 u1 H locs hw1 hP hD hS => ?_) (fun _ _ _ _ h9 => h9.elim)
  refine lv_if_eq (tgt := 16) hx hb d_Jchar_4 (by decide) (fun hc => absurd (hw1.symm.trans hc) (by decide)) (fun hc => ?_)
  refine lv_aload_n hx hb d_Jchar_7 rfl (lv_at hl 0 rfl) ?_
  refine vk_getf hx hb (xq_str hJ hi).2.2.1 hS hown (hts (.fieldLink "java/lang/String" 9 "java/lang/String" "value" "[B") kw6_80) (fun _ h9 => h9) d_Jchar_8 ?_
  refine lv_iload_n hx hb d_Jchar_11 rfl (lv_at hl 1 rfl) ?_
  refine xq_go (wr := ([] : va_W)) (stk := fun r => [.int r]) (xq_runS (As := [.ref (xq_sv o i), .int j]) (rest := []) ⟨hx, hb, hml, hown, hts⟩ (c_Jlch (l := l) (o := o) (D := D) (k := k) (post := fun r _ => r = xq_ch i j) hi hj rfl) (cs_Jlch hts kw1_51 ⟨Nat.le_of_ble_eq_true rfl, Nat.le_of_ble_eq_true rfl⟩) (hP.sub [] rfl) hK hJ hS (va_free hD hS hA [] rfl) ((hD.sub [] (by decide) rfl).weaken (fun _ _ _ _ => trivial)) rfl hl.1 (Nat.le_of_ble_eq_true rfl) d_Jchar_12 ⟨Nat.le_of_ble_eq_true rfl, Nat.le_of_ble_eq_true rfl⟩) hP hD hS hA [] [] rfl rfl (by decide) (by decide) (fun _ => rfl) (fun r1 u1 H locs hw2 hP hD hS => ?_) (fun _ _ _ _ h9 => h9.elim)
  subst hw2
  exact xq_zret (r := xq_ch i j) (u := ()) hx hb hr hlocks hAe (hP.sub [] rfl) (hD.sub [] (by decide) rfl) hS rfl (xq_chn i j) hw (Nat.le_of_ble_eq_true rfl) (Nat.le_of_ble_eq_true rfl) d_Jchar_15
theorem cw_Jchar {R : Room} {s : State} {args : Array Value} {own : String} {index : Nat} (hts : ∀ w ∈ xq_W, w.before args s = true) (hl : .methodLink own index y_Jchar ∈ xq_W) {rm : Room} (hR : rm.frames + 1 ≤ R.frames ∧ 8 + (2 + 11) + rm.locals ≤ R.locals) : CallW R s args own "java/lang/String" index y_Jchar prog_14_method_56_code 2 (some .char) (.code y_Jchar prog_14_method_56_code 2 (some .char) :: xq_W) rm rm.cells rm.slots 1 := ⟨xq_cb 1 hts kw1_46 kw1_3 hl ⟨by decide, by decide, by decide +kernel⟩ hR, hts _ kw1_44, hts _ kw1_45⟩
