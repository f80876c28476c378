/-! OWN ROWS: a throw that the walked method's one handler takes, its class's entry linked by now or not -/
section XQH
variable {p : Program} {l : Launch} {o : State × Array Value} {e : Env} {R : Room} {s : State} {m : MethodId} {args : Array Value} {below : List Frame} {meth : Method} {c : Code} {H : Heap} {locs : List Loc} {cells slots : Nat} {Q : State → Prop}
theorem xq_find {f : JFrame} {a : Addr} {t : State} (hm : t.vm.method? f.method = some meth) (hc : meth.code = some c) (x : ExceptionTableEntry) (hsplit : c.exceptionTable.toList = [x]) (hx : covers x f.pc = true) (h0 : x.catchType ≠ 0) {cT : ClassId} {cell : Cell}
    (hl : t.vm.ClassLinks e.platform f.method.cls x.catchType cT) (hcell : t.heap[a]? = some cell) (hobj : ∀ k, cell.vm ≠ .statics k) (hk : ∃ k, t.vm.classes[cell.cls]? = some k) (hcl : ∃ k, t.vm.classes[cT]? = some k) (hfit : t.vm.assignable cell.cls cT = true) :
    ∀ (Q : Handler → Pre) (E : CtlPost) (d : Bool) (acts : List Action), wp (findHandler f a) Q E e d acts t ↔ Q (.found x.handlerPc) d acts (t.setVm (t.vm.noted f.method.cls x.catchType (.cls cT))) := by
  intro Q E d acts
  rw [W.findHandler_eq hm hc, hsplit]
  simp only [covers] at hx
  obtain ⟨ha, ht⟩ := (resolveClass_links e.toSetting hl).op (op := VmOp.resolveClass f.method.cls x.catchType) rfl
  have hal : t.vm.Alike (t.vm.noted f.method.cls x.catchType (.cls cT)) := (Vm.Alike.refl t.vm).noted _ _ _
  obtain ⟨k1, hk1⟩ := hk
  obtain ⟨k2, hk2⟩ := hcl
  obtain ⟨k1', hk1', -⟩ := hal.2.2 _ _ hk1
  obtain ⟨k2', hk2', -⟩ := hal.2.2 _ _ hk2
  have hfit' : (t.vm.noted f.method.cls x.catchType (.cls cT)).assignable cell.cls cT = true := by rw [hal.assignable]; exact hfit
  simp [findHandler.go, hx, h0, ha, ht, hcell, hobj, hk1', hk2', hfit', VmOp.dirties, VmOp.acts]
theorem xq_stepT {a : Addr} {f : JFrame} {r : List Frame} {t : State} {pc : Nat} {vm' : Vm} (hfind : ∀ (Q : Handler → Pre) (E : CtlPost) (d : Bool) (acts : List Action), wp (findHandler f a) Q E e d acts t ↔ Q (.found pc) d acts (t.setVm vm')) :
    (stepThrowing e t a (.java f :: r)).Is ((t.setVm vm').setFrames (.java { f with pc := pc, stack := [.ref a] } :: r)) [] := by
  simp only [stepThrowing, searchFrame, vmDo]
  generalize hr : Sem.go _ e false [] t = res
  obtain ⟨as, rfl, ha⟩ := Sem.eq_ok_of hr (a := Handler.found pc) (s' := t.setVm vm') (acts' := []) (by simp [hfind _ _ _ _])
  exact ⟨rfl, ha⟩
theorem xq_setf (u : State) (vm' : Vm) (F G : List Frame) : ((u.setFrames F).setVm vm').setFrames G = (u.setVm vm').setFrames G := by
  have h1 : (u.setFrames F).setVm vm' = (u.setVm vm').setFrames F := rfl
  rw [h1, State.setFrames_setFrames]
/-- caught: on at the handler -/
theorem xq_catch {a : Addr} {pc : Nat} {ls : Array Slot} {st : List Value} (x : ExceptionTableEntry) (hsplit : c.exceptionTable.toList = [x]) (hx : covers x pc = true) (h0 : x.catchType ≠ 0) {own : String} (hown : s.vm.findClass own = some m.cls) (hlink : (Cond.classLink own x.catchType "java/lang/IllegalArgumentException").before args s = true) (hcast : (Cond.castable "java/lang/IllegalArgumentException" "java/lang/IllegalArgumentException").before args s = true) (hE : xq_Ex a s.vm H)
    (k : W p l e R s m args below meth c H locs cells slots Q (F0 m x.handlerPc ls [.ref a])) : xq_T p l e R s m args below meth c H locs cells slots Q (F0 m pc ls st) a := by
  intro T hT X
  obtain ⟨cell, g1, g2, g3⟩ := hE
  have hpl : e.platform.magicAccessors = ({} : Platform).magicAccessors := by rw [X.admits.platform]
  obtain ⟨cT, hcT, hcl⟩ := Cond.classLink_spec hown hlink e.platform hpl
  obtain ⟨c3, c4, hc3, hc4, hasg⟩ := Cond.castable_spec hcast
  cases hcT.symm.trans hc3
  cases hcT.symm.trans hc4
  cases hcT.symm.trans g3
  obtain ⟨dk, _, _, kt, hd, _, _, _, _, hkt, _, hopen⟩ := hcl.here
  have hcl₀ := X.warmed.classLinks hcl
  have hW' : s.WarmedH (T.vm.noted m.cls x.catchType (.cls cell.cls)) := X.warmed.noted hd hopen (State.rightAt_cls hcl)
  have hal := X.warmed.alike
  obtain ⟨kt', hkt', -⟩ := hal.2.2 _ _ hkt
  have hfit' : T.vm.assignable cell.cls cell.cls = true := by rw [hal.assignable]; exact hasg
  obtain ⟨t, a1, b1⟩ := k (T.setVm (T.vm.noted m.cls x.catchType (.cls cell.cls))) hT (X.noted hW')
  refine ⟨t, ?_, b1⟩
  have hh : ((T.setTop (F0 m pc ls st)).pushFrame (.throwing a)).heap = H := (Stand.throwing_heap T _ a).trans hT
  have hv : ((T.setTop (F0 m pc ls st)).pushFrame (.throwing a)).vm = T.vm := Stand.throwing_vm T _ a
  have hfind := xq_find (e := e) (f := F0 m pc ls st) (a := a) (t := (T.setTop (F0 m pc ls st)).pushFrame (.throwing a)) (meth := meth) (c := c) (by rw [hv]; exact X.method') X.code x hsplit hx h0 (cT := cell.cls) (cell := cell) (by rw [hv]; exact hcl₀) (by rw [hh]; exact g1) (VmData.ne_statics_of g2) (by rw [hv]; exact ⟨kt', hkt'⟩) (by rw [hv]; exact ⟨kt', hkt'⟩) (by rw [hv]; exact hfit')
  rw [hv] at hfind
  obtain ⟨hgo, hw⟩ := At.throwing (g := F0 m pc ls st) X.here a
  refine Steps.head hgo hw ?_
  rw [stepThread_throwing (frames_entered X.here.top _), (xq_stepT hfind).1]
  obtain ⟨g₀, hg⟩ := Option.isSome_iff_exists.mp X.here.top
  obtain ⟨r, hr⟩ := State.topJava?_eq_some.mp hg
  have hr' : (T.setVm (T.vm.noted m.cls x.catchType (.cls cell.cls))).frames = .java g₀ :: r := hr
  rw [State.setTop_of_frames _ hr'] at a1
  rw [hr, List.tail_cons, State.pushFrame, xq_setf, State.setTop_of_frames _ hr, xq_setf]
  exact a1
end XQH
section XQI
variable {l : Launch} {o : State × Array Value} {D : va_G} {cl : List vw_C} {tys : List (ClassId × FieldType)} {As : List Value} {w0 : va_W} {ρ S : Type} {val : ρ → Option Value} {post : ρ → S → Prop} {postT : S → Prop} {w1 : S → va_W} {mr nr mt nt : Nat}
/-- what holds all through the walk of a method with handlers -/
def xq_AtH (p : Program) (s : State) (m : MethodId) (args : Array Value) (meth : Method) (c : Code) (cc : ByteArray) (nL : Nat) (ret : Option FieldType) (y : MethodName) (Ts : List Cond) (hh : List (Nat × Nat × Nat × Nat)) : Prop :=
  p.tables.exec = Jvm.exec ∧ c.code = cc ∧ c.maxLocals = nL ∧ meth.sig.returnType = ret ∧ meth.locks = false ∧ s.vm.findClass y.cls = some m.cls ∧ (∀ w ∈ Ts, w.before args s = true) ∧ c.exceptionTable.toList.map (fun h => (h.startPc, h.endPc, h.handlerPc, h.catchType)) = hh
theorem xq_ofWH {y : MethodName} {ws Ts : List Cond} {rm : Room} {cc : ByteArray} {maxL : Nat} {ret : Option FieldType} {hh : List (Nat × Nat × Nat × Nat)} (hy : plainName y.cls = true) (hw : ws = Cond.codeWith y cc maxL ret hh :: Ts) (hA : (lg_sl As).length ≤ maxL)
    (body : ∀ (p : Program) (e : Env) (s : State) (m : MethodId) (below : List Frame) (meth : Method) (c : Code) (ls : Array Slot) (H : Heap) (locs : List Loc) (A : Nat → Prop), xq_AtH p s m As.toArray meth c cc maxL ret y Ts hh → va_A w0 s.heap.size = A → (∀ q : Nat, s.heap.size ≤ q → A q) → lv_has ls maxL (lv_args 0 As) → va_K D cl tys s → xq_J l o A s s.heap → va_P D cl w0 s.heap → va_P D cl w0 H → va_D A w0 → va_S A s.heap H locs →
      W p l e rm s m As.toArray below meth c H locs 0 0 (xq_Z below D cl tys w0 val post postT w1 mr nr mt nt s) (F0 m 0 ls [])) : xq_C l o y ws rm D cl tys As w0 val post postT w1 mr nr mt nt := by
  refine MetFree.of_bodyS (code := cc) (maxLocals := maxL) (ret := ret) hy ?_ ?_
  · intro args s m h hn
    obtain ⟨m9, meth, c, hn9, h1, h2, h3, h4, -, h5, h6, -⟩ := Cond.codeWith_spec (atoms_spec (ws := ws) h _ (by rw [hw]; exact List.mem_cons_self))
    cases hn.symm.trans hn9
    exact ⟨meth, c, h1, h2, h3, h4, h5, h6⟩
  · intro p e s m args below meth c s₁ B hml hP _
    obtain ⟨rfl, hP, hK, hD, hJ⟩ := hP
    have hh0 : s₁.heap = s.heap := by rw [B.state]; rfl
    have hts := atoms_spec (ws := ws) B.pre
    obtain ⟨m9, meth9, c9, hn9, h1, h2, -, -, h7, -⟩ := Cond.codeWith_spec (hts (Cond.codeWith y cc maxL ret hh) (by rw [hw]; exact List.mem_cons_self))
    cases B.named.symm.trans hn9
    cases B.method.symm.trans h1
    cases (Stand.of_body B).code.symm.trans h2
    have hl := lv_entry As (n := maxL) hA
    have k := body p e s m below meth c _ s.heap [] _ ⟨B.exec, B.bytes, hml, B.returns, B.notSynchronized, findClass_of_methodNamed B.named, fun w h => hts w (by rw [hw]; exact List.mem_cons_of_mem _ h), h7⟩ rfl (fun q h => Or.inr h) hl hK hJ hP hP hD.self va_S.rf
    rw [← lg_entry_eq] at k
    obtain ⟨t, a1, oc, b1, b2, b3⟩ := k s₁ hh0 (Stand.of_body B)
    exact ⟨t, oc, a1, b1, b2, b3⟩
end XQI

