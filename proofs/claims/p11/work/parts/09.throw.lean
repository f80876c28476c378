/-! OWN ROWS: an IllegalArgumentException is made and thrown -/
def xq_E : String := "java/lang/IllegalArgumentException"
def xq_En : List String := ["java/lang/RuntimeException", "java/lang/Exception"]
theorem xq_lst {C n d : String} {a0 a1 : Array Value} {s0 U : State} (hvm : s0.vm.Alike U.vm) (hq : ∀ (q : Nat) (cell : Cell), s0.heap[q]? = some cell → U.heap[q]? = some cell) (h : (Cond.laysStatic C n d).before a0 s0 = true) : (Cond.laysStatic C n d).before a1 U = true := by
  obtain ⟨c, k, i, f, a, cell, h1, h2, h3, h4, h5, h6, h7, h8, h9⟩ := Cond.laysStatic_spec h
  obtain ⟨k', hi', he⟩ := State.fieldFound?_setVm hvm h2
  have e1 : U.vm.findClass C = some c := by rw [hvm.findClass]; exact h1
  have e4 : k'.statics = some a := by rw [he]; exact h4
  have e9 : k'.staticTypes[f.slot]? = some f.type := by rw [he]; exact h9
  have e2 : U.fieldFound? C n d = some (c, k', i, f) := hi'
  simp [Cond.before, Cond.holds, Cond.value, e1, e2, h3, e4, hq _ _ h5, h6, h7, h8, e9]
theorem xq_isr {C n d : String} {a0 a1 : Array Value} {s0 U : State} (hvm : s0.vm.Alike U.vm) (hq : ∀ (q : Nat) (cell : Cell), s0.heap[q]? = some cell → U.heap[q]? = some cell) (hl : (Cond.laysStatic C n d).before a0 s0 = true) (h : (Cond.isRef (.static C n d)).before a0 s0 = true) : (Cond.isRef (.static C n d)).before a1 U = true := by
  obtain ⟨c, k, i, f, a, cell, h1, h2, h3, h4, h5, h6, h7, h8, h9⟩ := Cond.laysStatic_spec hl
  obtain ⟨k', hi', he⟩ := State.fieldFound?_setVm hvm h2
  have e2 : U.fieldFound? C n d = some (c, k', i, f) := hi'
  have e4 : k'.statics = some a := by rw [he]; exact h4
  cases hv : (Term.static C n d).eval a0 s0 none [] s0 with
  | none => simp [Cond.before, Cond.holds, Cond.value, hv] at h
  | some w =>
    obtain ⟨-, a', cell', ha', hcell', -, hslot⟩ := Term.static_spec h2 hv
    cases h4.symm.trans ha'
    cases h5.symm.trans hcell'
    have hv' : (Term.static C n d).eval a1 U none [] U = some w := by
      simp [Term.eval, State.fieldNamed?, e2, h3, e4, hq _ _ h5, h6, hslot]
    simp only [Cond.before, Cond.holds, Cond.value, hv] at h
    simp only [Cond.before, Cond.holds, Cond.value, hv']
    exact h
def xq_bad : List Cond := [.declares (Bundle.init0 "java/lang/RuntimeException"), .declares (Bundle.init0 "java/lang/Exception"), .declares (Bundle.init0 "java/lang/Throwable"), .castable xq_E xq_E, .laysStatic "java/lang/Throwable" "UNASSIGNED_STACK" "[Ljava/lang/StackTraceElement;", .laysStatic "java/lang/Throwable" "SUPPRESSED_SENTINEL" "Ljava/util/List;", .isRef (.static "java/lang/Throwable" "UNASSIGNED_STACK" "[Ljava/lang/StackTraceElement;"), .isRef (.static "java/lang/Throwable" "SUPPRESSED_SENTINEL" "Ljava/util/List;")]
theorem xq_lt0 {l : Launch} {o : State × Array Value} {A : Nat → Prop} {s : State} (hJ : xq_J l o A s s.heap) {args : Array Value} : ∀ w ∈ xq_bad, w.before args s = true := by
  obtain ⟨s0, a0⟩ := o
  obtain ⟨-, hW, ht, hn, -, hq⟩ := hJ
  dsimp only at hW ht hn hq
  have hq' : ∀ (q : Nat) (cell : Cell), s0.heap[q]? = some cell → s.heap[q]? = some cell := fun q cell h => by
    rw [hq q (Array.getElem?_eq_some_iff.mp h).1]; exact h
  have hs := flat_of_before _ hn
  have d0 : ∀ x : MethodName, Cond.declares x ∈ lw_tbl → (Cond.declares x).before args s = true := fun x hx => va_tabs rfl (rfl : (s0.setVm s.vm).vm = s.vm) (by rw [Cond.declares_setVm (args := a0) hW.alike]; exact ht _ hx)
  have k0 : ∀ x y : String, Cond.castable x y ∈ lw_tbl → (Cond.castable x y).before args s = true := fun x y hx => va_tabs rfl (rfl : (s0.setVm s.vm).vm = s.vm) (by rw [Cond.castable_setVm (args := a0) hW.alike]; exact ht _ hx)
  have l1 : (Cond.laysStatic "java/lang/Throwable" "UNASSIGNED_STACK" "[Ljava/lang/StackTraceElement;").before a0 s0 = true := ht _ (by decide +kernel)
  have l2 : (Cond.laysStatic "java/lang/Throwable" "SUPPRESSED_SENTINEL" "Ljava/util/List;").before a0 s0 = true := ht _ (by decide +kernel)
  intro w hw
  simp only [xq_bad, List.mem_cons, List.not_mem_nil, or_false] at hw
  rcases hw with rfl | rfl | rfl | rfl | rfl | rfl | rfl | rfl
  · exact d0 _ (by decide +kernel)
  · exact d0 _ (by decide +kernel)
  · exact d0 _ (by decide +kernel)
  · exact k0 _ _ (by decide +kernel)
  · exact xq_lst hW.alike hq' l1
  · exact xq_lst hW.alike hq' l2
  · exact xq_isr hW.alike hq' l1 (hs _ (by decide +kernel))
  · exact xq_isr hW.alike hq' l2 (hs _ (by decide +kernel))
theorem xq_oa : ∀ a ∈ Bundle.ownAtoms0 "StepText$Grammar" 91 xq_E xq_En, (goodWord a = true ∧ a ∈ lw_tbl) ∨ a ∈ xq_bad := by decide +kernel
theorem xq_oaS {l : Launch} {o : State × Array Value} {A : Nat → Prop} {s : State} {args : Array Value} (hts : ∀ w ∈ xq_W, w.before args s = true) (hJ : xq_J l o A s s.heap) : ∀ a ∈ Bundle.ownAtoms0 "StepText$Grammar" 91 xq_E xq_En, a.before args s = true := fun a ha => (xq_oa a ha).elim (fun h => hts a (List.mem_filter.mpr ⟨h.2, h.1⟩)) (fun h => xq_lt0 hJ a h)
