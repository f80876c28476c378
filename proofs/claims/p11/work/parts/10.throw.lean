section XQT
variable {p : Program} {l : Launch} {o : State × Array Value} {e : Env} {R : Room} {s : State} {m : MethodId} {args : Array Value} {below : List Frame} {meth : Method} {c : Code} {H : Heap} {locs : List Loc} {cells slots : Nat} {Q : State → Prop}
/-- the constructor of a new exception of that kind: it ends, the object is of its class still, nothing else has changed -/
theorem xq_ctor {cc : ByteArray} {pc : Nat} {ls : Array Slot} {rest : List Value} (hexec : p.tables.exec = Jvm.exec) (hb : c.code = cc) (hfl : l.stackTraces = false) {own : String} {ic : Nat} (hown : s.vm.findClass own = some m.cls) (h : ∀ a ∈ Bundle.ownAtoms0 own ic xq_E xq_En, a.before args s = true) (hlocs : ∀ x ∈ locs, ∀ cell, s.heap[x.base]? = some cell → cell.vm.isStatics = false)
    {a : Addr} {cX : ClassId} {kX : Class} (hfoundX : s.vm.findClass xq_E = some cX) (hkX : s.vm.classes[cX]? = some kX) (hcell : H[a]? = some (freshCell cX kX)) (hnew : s.heap.size ≤ a) (hsize : ls.size = c.maxLocals) (hd6 : decode cc pc = .ok (.invokespecial ic, 3)) (hRf : 5 < R.frames) (hRl : ((Value.ref a :: rest).map fun v => v.category).sum + 80 ≤ R.locals)
    (kk : ∀ ce : Cell, ce.cls = cX → ce.vm = .none → W p l e R s m args below meth c (H.setIfInBounds a ce) locs cells slots Q (F0 m (pc + 3) ls (.ref a :: rest))) : W p l e R s m args below meth c H locs cells slots Q (F0 m pc ls (.ref a :: .ref a :: rest)) := by
  intro T' hT X
  subst hT; subst hb
  have htr : e.platform.stackTraces = false := by rw [X.admits.platform]; exact hfl
  have howns : e.platform.frameOwnsMonitors = true := by rw [X.admits.platform]
  have hfin : e.platform.finalization = false := by rw [X.admits.platform]
  have hpl : e.platform.magicAccessors = ({} : Platform).magicAccessors := by rw [X.admits.platform]
  have a' : ∀ x, x ∈ Bundle.ownAtoms0 own ic xq_E xq_En → x.holds args s none s [] = true := fun x hx => h x hx
  obtain ⟨T, Z, L, LZ, Y⟩ := ThrowableC.of_atoms (args := args) howns hfin hpl (fun x hx => h x (by simp [Bundle.ownAtoms0, hx]))
  obtain ⟨P1, Ps, hlen, L1, hL, hP1m, hlink1, hlink⟩ := Bundle.chain0 (args := args) hpl Y.init0 xq_En xq_E (by decide) (by decide) (fun x hx => h x (by simp [Bundle.ownAtoms0, hx]))
  have hfound : s.vm.findClass xq_E = some P1.m.cls := findClass_of_methodNamed hP1m
  cases Option.some.inj (hfoundX.symm.trans hfound)
  obtain ⟨c1, kX', hc1, hk, hord, -, -, hn6⟩ := Cond.instantiable_spec (a' (.instantiable xq_E 6) (by simp [Bundle.ownAtoms0]))
  cases Option.some.inj (hc1.symm.trans hfound)
  cases Option.some.inj (hkX.symm.trans hk)
  have sel : ∀ (y : MethodName) (my : MethodId), Cond.selects xq_E y y ∈ Bundle.ownAtoms0 own ic xq_E xq_En → s.methodNamed? y = some my → (y.cls ≠ "java/lang/invoke/MethodHandle" ∧ y.cls ≠ "java/lang/invoke/VarHandle") → selectMethod e.platform s.vm P1.m.cls my = .method my := by
    intro y my hy hn hd
    obtain ⟨c2, r2, m2, q1, q2, q3, q4, -⟩ := Cond.selects_spec (a' _ hy)
    cases Option.some.inj (q1.symm.trans hfound)
    cases Option.some.inj (q2.symm.trans (State.methodFound?_of_named hn hd))
    cases Option.some.inj (q3.symm.trans hn)
    rw [Launch.admits_selectMethod X.admits]; exact q4
  have hsel0 := sel Bundle.tFill0 T.fill0 (by simp [Bundle.ownAtoms0]) Y.fill0 (by decide)
  have hselF := sel Bundle.tFill T.fill (by simp [Bundle.ownAtoms0]) Y.fill (by decide)
  obtain ⟨cellS0, hcS0, hiss⟩ := Y.statics
  obtain ⟨u0, hu0⟩ := Cond.staticRefV Y.unassigned L.unassignedStatic L.statics hcS0 hiss (a' (.isRef (.static Bundle.tN "UNASSIGNED_STACK" Bundle.steD)) (by simp [Bundle.ownAtoms0]))
  obtain ⟨sen, hsen⟩ := Cond.staticRefV Y.sentinel L.sentinelStatic L.statics hcS0 hiss (a' (.isRef (.static Bundle.tN "SUPPRESSED_SENTINEL" Bundle.listD)) (by simp [Bundle.ownAtoms0]))
  obtain ⟨ci198, i198, fB, hk198, hg198, ha198, hsB, -, hnB, htB, hffB⟩ := Cond.ownField (t := .object "java/lang/Object") Y.found L.cls (by decide +kernel) (a' (.fieldLink Bundle.tN 198 Bundle.tN "backtrace" "Ljava/lang/Object;") (by simp [Bundle.ownAtoms0])) (a' (.lays Bundle.tN Bundle.tN "backtrace" "Ljava/lang/Object;") (by simp [Bundle.ownAtoms0])) e.platform hpl
  obtain ⟨cellS, hcS', heS, -, hkeep⟩ := X.same.2.2.2.2.2 T.aS cellS0 hcS0
  have hcellS : T'.heap[T.aS]? = some cellS := hcS'
  have hout' : ∀ i, (⟨T.aS, i⟩ : Loc) ∉ locs := fun i hmem => by
    have := hlocs _ hmem cellS0 hcS0
    rw [hiss] at this; cases this
  have hknownS : cellS.vm ≠ .unknown := by
    rw [heS]; intro hu
    rw [show cellS0.vm = .unknown from hu] at hiss
    cases hiss
  have hneS : T.aS ≠ a := Nat.ne_of_lt (Nat.lt_of_lt_of_le (Array.getElem?_eq_some_iff.mp hcS0).1 hnew)
  obtain ⟨tyC, dC, hdC, hdnC⟩ := Cond.laysAt hfound hk Y.cause (a' (.lays xq_E Bundle.tN "cause" "Ljava/lang/Throwable;") (by simp [Bundle.ownAtoms0]))
  obtain ⟨tyS, dS, hdS, hdnS⟩ := Cond.laysAt hfound hk Y.stack (a' (.lays xq_E Bundle.tN "stackTrace" Bundle.steD) (by simp [Bundle.ownAtoms0]))
  obtain ⟨tyP, dP, hdP, hdnP⟩ := Cond.laysAt hfound hk Y.supp (a' (.lays xq_E Bundle.tN "suppressedExceptions" Bundle.listD) (by simp [Bundle.ownAtoms0]))
  obtain ⟨tyB, dB, hdB, hdnB⟩ := Cond.laysAt hfound hk hffB (a' (.lays xq_E Bundle.tN "backtrace" "Ljava/lang/Object;") (by simp [Bundle.ownAtoms0]))
  have bC := Cond.laysApart hdB hdC hdnB hdnC (by rw [hnB, Y.causeName]; decide)
  have bS := Cond.laysApart hdB hdS hdnB hdnS (by rw [hnB, Y.stackName]; decide)
  have bP := Cond.laysApart hdB hdP hdnB hdnP (by rw [hnB, Y.suppName]; decide)
  have hskip : SkipFacts T e.platform s (fun u => u) u0 ((preparedCellV T.toThrowableT (freshCell P1.m.cls kX) a u0 sen).withEntry T'.cur) :=
    ⟨{ ci198 := ci198, i198 := i198, fBack := fB }, ⟨hk198, hg198, ha198, hsB⟩, by
      have := fresh_default (c := P1.m.cls) tyB
      rw [htB] at this
      simpa [preparedCellV, Cell.setSlot, Cell.withEntry, Array.getElem?_setIfInBounds, bC, bS, bP, bC.symm, bS.symm, bP.symm, defaultValue] using this, fun _ _ => rfl⟩
  obtain ⟨tm, methC, cdC, kC, vm₁, hnC, -, -, -, -, -, -, -, hW₁, st1⟩ := Steps.initCold (tb := p.tables) (e := e) (below := below) (s := s) (U := T') X.here hexec X.warmed hpl hown (t := Bundle.init0 xq_E) rfl rfl (by decide)
    (a' (.methodLink own ic (Bundle.init0 xq_E)) (by simp [Bundle.ownAtoms0])) (h (.instanceMethod (Bundle.init0 xq_E)) (by simp [Bundle.ownAtoms0, Bundle.chain0Atoms, Bundle.passAtoms, xq_En])) (bytes := Bundle.five) (maxL := 1) (h (.code (Bundle.init0 xq_E) Bundle.five 1 none) (by simp [Bundle.ownAtoms0, Bundle.chain0Atoms, Bundle.passAtoms, xq_En]))
    (f := F0 m pc ls (.ref a :: .ref a :: rest)) rfl (a := a) (rest := .ref a :: rest) rfl hd6
  cases Option.some.inj (hnC.symm.trans hP1m)
  have X₁ := X.noted hW₁
  obtain ⟨vm₂, X₂, st2⟩ := X₁.ctorPlainOffV hexec (g := F0 m pc ls (.ref a :: rest)) rfl hsize T L Z LZ (P1 :: Ps)
    (fun P hP => by rcases List.mem_cons.mp hP with rfl | hP; exact L1; exact hL P hP) ⟨hlink1, hlink⟩ (u0 := u0) (sen := sen) (self := a) (cell := freshCell P1.m.cls kX) (cellS := cellS)
    hcell (fun _ => by simp) (by simp) rfl rfl hsel0 hselF hcellS hneS hknownS (by rw [hkeep _ (hout' _)]; exact hu0) (by rw [hkeep _ (hout' _)]; exact hsen)
    (Takes.of_laid hk hord tyC (by rw [Y.causeType]; rfl)) (Takes.of_laid hk hord tyS (by rw [Y.stackType]; exact fits_refV_array _ u0)) (Takes.of_laid hk hord tyP (by rw [Y.suppType]; exact fits_refV_object _ sen)) Y.objLocals hskip htr [] hd6
    (by simp only [List.length_cons, hlen, xq_En]; exact hRf) (by simp only [List.length_cons, hlen, xq_En]; show 2 * 0 + _ + (13 * 3 + 41) ≤ _; simp at hRl ⊢; omega)
  have X₃ := Stand.forget X₂ (fun y hy => by
    simp only [List.mem_cons, List.not_mem_nil, or_false] at hy
    rcases hy with rfl | rfl | rfl | rfl <;> exact hnew)
  obtain ⟨t, a1, b1⟩ := kk ((preparedCellV T.toThrowableT (freshCell P1.m.cls kX) a u0 sen).setSlot T.fStack.slot u0.v) rfl rfl _ rfl X₃
  refine ⟨t, st1 _ (fun acts => ?_), b1⟩
  rw [doInvoke_state]
  exact st2 _ a1
variable {D : va_G} {cl : List vw_C} {tys : List (ClassId × FieldType)} {w0 : va_W} {ρ S : Type} {val : ρ → Option Value} {post : ρ → S → Prop} {postT : S → Prop} {w1 : S → va_W} {mr nr mt nt : Nat} {cc : ByteArray} {pc : Nat} {ls : Array Slot}
theorem xq_nst {A : Nat → Prop} (hAe : va_A w0 s.heap.size = A) (hP0 : va_P D cl w0 s.heap) (hS : va_S A s.heap H locs) : ∀ x ∈ locs, ∀ cell, s.heap[x.base]? = some cell → cell.vm.isStatics = false := by
  intro x hx cell hc
  have hA : A x.base := hS.2.2 x hx
  rw [← hAe] at hA
  rcases hA with ⟨k, e9, hk⟩ | h
  · have h9 := hP0 k _ hk
    cases e9 with
    | inl a9 =>
      have h8 : s.heap[x.base]? = some (vp_cell a9.1 a9.2) := h9
      cases hc.symm.trans h8
      obtain ⟨a1, n1, f1⟩ := a9
      rcases f1 with f1 | f1 | f1 | f1 | f1 <;> rfl
    | inr o9 =>
      obtain ⟨r9, -, cell9, h8, -, h7, -⟩ := h9
      have h8' : s.heap[x.base]? = some cell9 := h8
      cases hc.symm.trans h8'
      rw [h7]; rfl
  · have : s.heap.size ≤ x.base := h
    have h2 := (Array.getElem?_eq_some_iff.mp hc).1
    omega
/-- new, dup, the constructor, athrow: the method ends by a throw -/
theorem xq_throw {A : Nat → Prop} {u : S} {own : String} {ia ic : Nat} (hx : p.tables.exec = Jvm.exec) (hb : c.code = cc) (hml : c.maxLocals = ls.size) (hex : c.exceptionTable.isEmpty = true) (hlocks : meth.locks = false) (hown : s.vm.findClass own = some m.cls) (hJ : xq_J l o A s s.heap) (hAe : va_A w0 s.heap.size = A) (hns : ∀ x ∈ locs, ∀ cell, s.heap[x.base]? = some cell → cell.vm.isStatics = false) (hat : ∀ a ∈ Bundle.ownAtoms0 own ic xq_E xq_En, a.before args s = true)
    (hcl : (Cond.classLink own ia xq_E).before args s = true) (hini : (Cond.initialized xq_E).before args s = true) (hP : va_P D cl (w1 u) H) (hD : va_D A (w1 u)) (hS : va_S A s.heap H locs) (hq : postT u) (hc1 : cells + 1 ≤ R.cells) (hs1 : slots + 6 ≤ R.slots) (hc : cells + 1 ≤ mt) (hn : slots + 6 ≤ nt) (hRf : 5 < R.frames) (hRl : 81 ≤ R.locals)
    (d0 : decode cc pc = .ok (.new ia, 3)) (d3 : decode cc (pc + 3) = .ok (.dup, 1)) (d4 : decode cc (pc + 4) = .ok (.invokespecial ic, 3)) (d7 : decode cc (pc + 7) = .ok (.athrow, 1)) :
    W p l e R s m args below meth c H locs cells slots (xq_Z below D cl tys w0 val post postT w1 mr nr mt nt s) (F0 m pc ls []) := by
  refine W.newc hx hb hown hcl (hat (.instantiable xq_E 6) (by simp [Bundle.ownAtoms0])) hini (g := F0 m pc ls []) rfl d0 hc1 hs1 (fun cC kC g1 g2 g3 g4 => ?_)
  refine lv_dup hx hb d3 rfl ?_
  have e0 : ∀ q : Nat, q < H.size → (H.push (freshCell cC kC))[q]? = H[q]? := fun q hq => by rw [Array.getElem?_push_lt hq]; exact (Array.getElem?_eq_getElem hq).symm
  refine xq_ctor (kX := kC) (a := H.size) (rest := []) hx hb hJ.1 hown hat hns g1 g2 (by simp [freshCell]) hS.1 hml.symm d4 hRf (by simp [Value.category]; omega) (fun ce h1 h2 => ?_)
  have e1 : ∀ q : Nat, q < H.size → ((H.push (freshCell cC kC)).setIfInBounds H.size ce)[q]? = H[q]? := fun q hq => by
    rw [Array.getElem?_setIfInBounds, if_neg (by omega)]; exact e0 q hq
  refine xq_athrow (u := u) hx hb hex hlocks hAe (hP.kept (fun k q hk => e1 _ ((hP k q hk).lt))) hD ⟨by simp; exact Nat.le_succ_of_le hS.1, fun q g1' g2' => ?_, hS.2.2⟩ hq ⟨ce, by simp [Array.getElem?_setIfInBounds], by rw [h2]; rfl, by rw [h1]; exact g1⟩ hc hn d7
  rw [e1 q (Nat.lt_of_lt_of_le g1' hS.1)]
  exact hS.2.1 q g1' g2'
end XQT
