/-! OWN ROWS: constructors of nest mates, methods with handlers, addresses as lists -/
def xq_ls : List Nat → Nat → Nat
  | [], _ => 0
  | a :: _, 0 => a
  | _ :: l, n + 1 => xq_ls l n
abbrev xq_CHB (R : Room) (s : State) (args : Array Value) (own : String) (index : Nat) (y : MethodName) (bytes : ByteArray) (maxL : Nat) (ret : Option FieldType) (hh : List (Nat × Nat × Nat × Nat)) (ws : List Cond) (rm : Room) (n : Nat) : Prop :=
  rm.cells = rm.cells ∧ rm.slots = rm.slots ∧ rm.frames + 1 ≤ R.frames ∧ 8 + (maxL + 11) + rm.locals ≤ R.locals ∧ (∀ w ∈ ws, ∀ (a' : Array Value) (U : State), s.WarmedH U.vm → w.before a' U = true) ∧ Cond.codeWith y bytes maxL ret hh ∈ ws ∧
  (Cond.codeWith y bytes maxL ret hh).before args s = true ∧ (Cond.initialized y.cls).before args s = true ∧ (y.cls ≠ "java/lang/invoke/MethodHandle" ∧ y.cls ≠ "java/lang/invoke/VarHandle") ∧ (∀ sig, parseMethodDescriptor y.desc = some sig → n = sig.parameters.length) ∧ (Cond.methodLink own index y).before args s = true
abbrev xq_CH (R : Room) (s : State) (args : Array Value) (own C : String) (index : Nat) (y : MethodName) (bytes : ByteArray) (maxL : Nat) (ret : Option FieldType) (hh : List (Nat × Nat × Nat × Nat)) (ws : List Cond) (rm : Room) (n : Nat) : Prop :=
  xq_CHB R s args own index y bytes maxL ret hh ws rm n ∧ (Cond.instanceMethod y).before args s = true ∧ (Cond.selects C y y).before args s = true
/-- a word of the tables that is no good word, but only of the tables, at any later state -/
theorem xq_nest {l : Launch} {o : State × Array Value} {A : Nat → Prop} {s : State} {args : Array Value} (hJ : xq_J l o A s s.heap) {a : String} {i : Nat} {x : MethodName} {h : String} (hm : Cond.methodLinkNest a i x h ∈ lw_tbl) : (Cond.methodLinkNest a i x h).before args s = true := va_Nw.use rfl (va_Nw.warmM hJ.2.1 (va_Nw.of rfl (hJ.2.2.1 _ hm)))
section XQKH
variable {p : Program} {l : Launch} {o : State × Array Value} {e : Env} {R : Room} {s : State} {m : MethodId} {args : Array Value} {below : List Frame} {meth : Method} {c : Code} {locs : List Loc} {cells slots : Nat} {Q : State → Prop}
variable {D : va_G} {cl : List vw_C} {tys : List (ClassId × FieldType)} {w0 wr ww : va_W} {ρ S : Type} {val : ρ → Option Value} {post : ρ → S → Prop} {postT : S → Prop} {w1 : S → va_W} {mr nr mt nt : Nat} {cc : ByteArray} {pc : Nat} {ls : Array Slot}
variable {y : MethodName} {ws : List Cond} {rm : Room} {bytes : ByteArray} {maxL : Nat} {ret : Option FieldType} {a : List Value}
variable {hh : List (Nat × Nat × Nat × Nat)}
theorem xq_backH (hM : xq_C l o y ws rm D cl tys a w0 val post postT w1 mr nr mt nt) {U : State} (X : Stand p l e R s m args below meth c U locs cells slots) {g : JFrame} (hg : g.method = m) (hsize : g.locals.size = c.maxLocals) {ig : Instr} {len : Nat} (hdg : decode c.code g.pc = .ok (ig, len)) (hW : 2 * g.monitorRoom + (g.stack.map fun v => v.category).sum ≤ 8) {mk : MethodId} (hn : U.methodNamed? y = some mk)
    (hfr : rm.frames + 1 ≤ R.frames) (hlo : 8 + (maxL + 11) + rm.locals ≤ R.locals) (hws : ∀ w ∈ ws, ∀ (a' : Array Value) (U : State), s.WarmedH U.vm → w.before a' U = true) (hcode : Cond.codeWith y bytes maxL ret hh ∈ ws) (hinit : (Cond.initialized y.cls).before args s = true) (hc : cells + rm.cells ≤ R.cells) (hs : slots + rm.slots ≤ R.slots) (hP : va_P D cl w0 U.heap) (hK : va_K D cl tys U) (hJ : xq_J l o (va_A w0 U.heap.size) U U.heap) (hD : va_D (fun _ => True) w0) :
    ∃ (u : S) (T' : State) (L : List Loc), T'.heap.size ≥ U.heap.size ∧ (∀ q : Nat, q < U.heap.size → ¬ va_A w0 U.heap.size q → T'.heap[q]? = U.heap[q]?) ∧ va_P D cl (w1 u) T'.heap ∧ va_D (va_A w0 U.heap.size) (w1 u) ∧ (∀ q ∈ L, va_A w0 U.heap.size q.base) ∧
      ((∃ r : ρ, post r u ∧ Stand p l e R s m args below meth c T' (locs ++ L) (cells + mr) (slots + nr) ∧ Steps p.tables e below (doInvoke e (U.setTop g) [] mk a.toArray).1 (T'.setTop { g with pc := g.pc + len, stack := (val r).toList ++ g.stack })) ∨
       (∃ x : Addr, postT u ∧ xq_Ex x U.vm T'.heap ∧ Stand p l e R s m args below meth c T' (locs ++ L) (cells + mt) (slots + nt) ∧ Steps p.tables e below (doInvoke e (U.setTop g) [] mk a.toArray).1 ((T'.setTop g).pushFrame (.throwing x)))) := by
  have h1 : (headSpec ws rm).pre.before a.toArray U = true := atoms_intro fun w hw => hws w hw _ _ X.warmed
  have h2 := hws _ hcode a.toArray U X.warmed
  have h3 : (Cond.initialized y.cls).before a.toArray U = true := word_at X.warmed (Or.inl (by first | rfl | simp [Cond.onTables, Cond.keeps, Cond.steady])) hinit
  obtain ⟨m9, methY, cY, hn9, hmY, hcY, -, hlY, -⟩ := Cond.codeWith_spec h2
  cases hn.symm.trans hn9
  obtain ⟨kY, hkY, -⟩ := className_of_methodNamed hn
  have hinitY : kY.init = .initialized := Cond.initialized_spec (findClass_of_methodNamed hn) hkY h3
  have h : At U g.method c below := by rw [hg]; exact X.here
  have happ : (headSpec ws rm).appliesLoose y e.platform (U.calling g mk a.toArray) = true :=
    Spec.appliesLoose_calling (g := g) h hdg hn hkY hinitY
      (X.room_calling (g := g) (R' := rm) hsize hmY hcY hfr (by rw [hlY]; omega) hc hs) h1
  obtain ⟨mid, hmid⟩ := h.above
  have hfr' : (U.setTop g).frames = (.java g :: mid) ++ below := by rw [State.frames_setTop' g h.top, hmid]; rfl
  have hPc : xq_P l o D cl tys a w0 a.toArray (U.calling g mk a.toArray) := ⟨rfl, hP, va_K.moved (u := U) (U := U.calling g mk a.toArray) (Vm.Alike.refl U.vm) hK, hD, xq_Jw (U := U.calling g mk a.toArray) (State.WarmedH.refl U) hJ⟩
  obtain ⟨oc, t, hsteps, -, hend, hq⟩ := Steps.callFree hM p X.admits X.cas X.clock (acts := []) hfr' happ hPc trivial
  have hq' : xq_Q D cl tys w0 val post postT w1 mr nr mt nt (U.calling g mk a.toArray) oc t := hq
  rw [State.frames_setTop' g h.top, X.tail] at hend
  obtain ⟨hWm, ⟨hF1, hF2⟩, u, L, k1, k2, k3, k4⟩ := hq'
  rcases k4 with ⟨r, rfl, hp, hsame⟩ | ⟨x, rfl, hp, hE, hsame⟩
  · obtain ⟨T', X', hW', hB, ht⟩ := X.outOf hg hdg hend hWm hsame
    have hh : t.heap = T'.heap := by rw [ht]; simp [State.setTop, State.modifyTopJava]
    refine ⟨u, T', L, by rw [← hh]; exact hF1, fun q g1 g2 => by rw [← hh]; exact hF2 q g1 g2, by rw [← hh]; exact k1, k2, k3, Or.inl ⟨r, hp, X', ?_⟩⟩
    rw [← ht]; exact hsteps
  · obtain ⟨T', X', hW', hB, ht⟩ := X.outOfThrown hg hend hWm hsame
    have hh : t.heap = T'.heap := by rw [ht]; exact Stand.throwing_heap T' g x
    refine ⟨u, T', L, by rw [← hh]; exact hF1, fun q g1 g2 => by rw [← hh]; exact hF2 q g1 g2, by rw [← hh]; exact k1, k2, k3, Or.inr ⟨x, hp, by rw [← hh]; exact hE, X', ?_⟩⟩
    rw [← ht]; exact hsteps
end XQKH
section XQWH
variable {p : Program} {l : Launch} {o : State × Array Value} {e : Env} {R : Room} {s : State} {m : MethodId} {args : Array Value} {below : List Frame} {meth : Method} {c : Code} {H : Heap} {locs : List Loc} {cells slots : Nat} {Q : State → Prop}
variable {D : va_G} {cl : List vw_C} {tys : List (ClassId × FieldType)} {w0 wr ww : va_W} {ρ S : Type} {val : ρ → Option Value} {post : ρ → S → Prop} {postT : S → Prop} {w1 : S → va_W} {mr nr mt nt : Nat} {cc : ByteArray} {pc nL : Nat} {ls : Array Slot}
variable {y : MethodName} {ws Ts : List Cond} {rm : Room} {bytes : ByteArray} {maxL : Nat} {ret : Option FieldType} {own C : String} {index n : Nat} {b : Addr} {As rest : List Value} {A : Nat → Prop}
variable {hh : List (Nat × Nat × Nat × Nat)}
theorem xq_runVH (S9 : CallFix p m c cc nL s args Ts own) (hM : xq_C l o y ws rm D cl tys (.ref b :: As) w0 val post postT w1 mr nr mt nt) (cw : xq_CH R s args own C index y bytes maxL ret hh ws rm n) (hrec : ∃ cellB : Cell, H[b]? = some cellB ∧ cellB.vm.isStatics = false ∧ s.vm.findClass C = some cellB.cls) (hP : va_P D cl w0 H) (hK : va_K D cl tys s) (hJ : xq_J l o A s s.heap) (hS : va_S A s.heap H locs) (hF : ∀ q, va_A w0 H.size q → A q) (hD : va_D (fun _ => True) w0) (hn : As.length = n) (hsize : ls.size = nL) (hW : (rest.map fun v => v.category).sum ≤ 8) (hdg : decode cc pc = .ok (.invokevirtual index, 3)) (hf : cells + rm.cells ≤ R.cells ∧ slots + rm.slots ≤ R.slots) :
    xq_Run p l e R s m args below meth c H locs cells slots D cl w0 val post postT w1 mr nr mt nt pc ls (As.reverse ++ .ref b :: rest) rest := by
  intro T hT X
  obtain ⟨⟨hrc, hrs, hfr, hlo, hws, hcw, hcode, hini, hy, hlen, hl⟩, hin, hse⟩ := cw
  obtain ⟨hx, hb, hml, ho, -⟩ := S9
  obtain ⟨cellB, hcB, hoB, hclB⟩ := hrec
  obtain ⟨mk, methM, hnamed, hmethM, hstM, habM⟩ := Cond.instanceMethod_spec hin
  obtain ⟨m9, methM', cM, hn9, hmethM', -, -, -, -, -, -, hsigM⟩ := Cond.codeWith_spec hcode
  cases hnamed.symm.trans hn9
  cases hmethM.symm.trans hmethM'
  obtain ⟨c2, r2, m2, q1, q2, q3, q4, kP, hkP, hkPi⟩ := Cond.selects_spec hse
  cases hclB.symm.trans q1
  cases (State.methodFound?_of_named hnamed hy).symm.trans q2
  cases hnamed.symm.trans q3
  have hselP : selectMethod e.platform s.vm cellB.cls mk = .method mk := by rw [Launch.admits_selectMethod X.admits]; exact q4
  obtain ⟨vm₁, X₁, hstep₁⟩ := X.invokevirtual hx ho hl hnamed hmethM hstM hkP hkPi hy (a := b) (cell := cellB) (by rw [hT]; exact hcB)
    (fun z h => by rw [h] at hoB; cases hoB) hselP hmethM habM hkP hkPi (g := F0 m pc ls (As.reverse ++ .ref b :: rest)) rfl (argsL := As) (rest := rest) (hn.trans (hlen _ hsigM)) rfl (by rw [hb]; exact hdg)
  have hh : (T.setVm vm₁).heap = H := hT
  obtain ⟨u, T', L, f1, f2, f3, f4, f5, f6⟩ := xq_backH hM X₁ (g := F0 m pc ls rest) rfl (hsize.trans hml.symm) (ig := .invokevirtual index) (len := 3) (by rw [hb]; exact hdg) (lv_room hW) (X₁.named hnamed) hfr hlo hws hcw hini hf.1 hf.2 (by rw [hh]; exact hP) (va_K.moved X₁.warmed.alike hK) (by rw [hh]; exact xq_Jw X₁.warmed (xq_Jn (xq_Jk hJ hS.2.1) hF)) hD
  rw [hh] at f1 f2 f4 f5
  refine ⟨u, T', L, f1, f2, f3, f4, f5, ?_⟩
  rcases f6 with ⟨r, hp, X', hst⟩ | ⟨x, hp, hE, X', hst⟩
  · exact Or.inl ⟨r, hp, X', fun tg h => hstep₁ _ fun acts => by rw [doInvoke_state]; exact hst.trans h⟩
  · exact Or.inr ⟨x, hp, xq_exs X₁.warmed hE, X', fun tg h => hstep₁ _ fun acts => by rw [doInvoke_state]; exact hst.trans h⟩
theorem xq_runIN {host : String} (S9 : CallFix p m c cc nL s args Ts own) (hM : xq_C l o y ws rm D cl tys (.ref b :: As) w0 val post postT w1 mr nr mt nt) (cw : va_CN R s args own index y host bytes maxL none ws rm rm.cells rm.slots n ∧ y.name = "<init>" ∧ (Cond.instanceMethod y).before args s = true) (hP : va_P D cl w0 H) (hK : va_K D cl tys s) (hJ : xq_J l o A s s.heap) (hS : va_S A s.heap H locs) (hF : ∀ q, va_A w0 H.size q → A q) (hD : va_D (fun _ => True) w0) (hn : As.length = n) (hsize : ls.size = nL) (hW : (rest.map fun v => v.category).sum ≤ 8) (hdg : decode cc pc = .ok (.invokespecial index, 3)) (hf : cells + rm.cells ≤ R.cells ∧ slots + rm.slots ≤ R.slots) :
    xq_Run p l e R s m args below meth c H locs cells slots D cl w0 val post postT w1 mr nr mt nt pc ls (As.reverse ++ .ref b :: rest) rest := by
  intro T hT X
  obtain ⟨⟨⟨hrc, hrs, hfr, hlo, hws, hcw⟩, hcode, hini, hy, hlen, hl⟩, hy1, hinst⟩ := cw
  obtain ⟨hx, hb, hml, ho, -⟩ := S9
  have hpl : e.platform.magicAccessors = ({} : Platform).magicAccessors := by rw [X.admits.platform]
  obtain ⟨mk, methM, cM, kP, vm₁, hnamed, hmethM, hcodeM, -, hlocalsM, -, hkP, -, hW₁, hstep₁⟩ := Steps.initColdArgsNest (e := e) X.here hx X.warmed hpl ho hy1 hy hl hinst hcode (f := F0 m pc ls (As.reverse ++ .ref b :: rest)) rfl (fun sig h => hn.trans (hlen sig h)) rfl (by rw [hb]; exact hdg)
  have X₁ := X.noted hW₁
  have hh : (T.setVm vm₁).heap = H := hT
  obtain ⟨u, T', L, f1, f2, f3, f4, f5, f6⟩ := xq_back hM X₁ (g := F0 m pc ls rest) rfl (hsize.trans hml.symm) (ig := .invokespecial index) (len := 3) (by rw [hb]; exact hdg) (lv_room hW) (X₁.named hnamed) hfr hlo hws hcw hini hf.1 hf.2 (by rw [hh]; exact hP) (va_K.moved X₁.warmed.alike hK) (by rw [hh]; exact xq_Jw X₁.warmed (xq_Jn (xq_Jk hJ hS.2.1) hF)) hD
  rw [hh] at f1 f2 f4 f5
  refine ⟨u, T', L, f1, f2, f3, f4, f5, ?_⟩
  rcases f6 with ⟨r, hp, X', hst⟩ | ⟨x, hp, hE, X', hst⟩
  · exact Or.inl ⟨r, hp, X', fun tg h => hstep₁ _ fun acts => by rw [doInvoke_state]; exact hst.trans h⟩
  · exact Or.inr ⟨x, hp, xq_exs X₁.warmed hE, X', fun tg h => hstep₁ _ fun acts => by rw [doInvoke_state]; exact hst.trans h⟩
end XQWH
theorem xq_cbN {R : Room} {s : State} {args : Array Value} {own : String} {index : Nat} {y : MethodName} {bytes : ByteArray} {maxL : Nat} {ret : Option FieldType} {rm : Room} (n : Nat) (hts : ∀ w ∈ xq_W, w.before args s = true) (hc : .code y bytes maxL ret ∈ xq_W) (hi : .initialized y.cls ∈ xq_W) {host : String} (hl : (Cond.methodLinkNest own index y host).before args s = true) (hd : y.cls ≠ "java/lang/invoke/MethodHandle" ∧ y.cls ≠ "java/lang/invoke/VarHandle" ∧ (parseMethodDescriptor y.desc).map (fun d => d.parameters.length) = some n) (hR : rm.frames + 1 ≤ R.frames ∧ 8 + (maxL + 11) + rm.locals ≤ R.locals) :
    va_CN R s args own index y host bytes maxL ret (.code y bytes maxL ret :: xq_W) rm rm.cells rm.slots n := by
  refine ⟨⟨rfl, rfl, hR.1, hR.2, fun w hw a' U hW => ?_, List.mem_cons_self⟩, hts _ hc, hts _ hi, ⟨hd.1, hd.2.1⟩, fun sig h => ?_, hl⟩
  · have hw' : w ∈ xq_W := by
      rcases List.mem_cons.mp hw with h | h
      · rw [h]; exact hc
      · exact h
    exact word_at hW (xq_good hw') (hts w hw')
  · have h2 := hd.2.2
    rw [h] at h2
    exact (Option.some.inj h2).symm

theorem xq_cbH {R : Room} {s : State} {args : Array Value} {own : String} {index : Nat} {y : MethodName} {bytes : ByteArray} {maxL : Nat} {ret : Option FieldType} {rm : Room} (n : Nat) (hts : ∀ w ∈ xq_W, w.before args s = true) {hh : List (Nat × Nat × Nat × Nat)} (hc : .codeWith y bytes maxL ret hh ∈ xq_W) (hi : .initialized y.cls ∈ xq_W) (hl : .methodLink own index y ∈ xq_W) (hd : y.cls ≠ "java/lang/invoke/MethodHandle" ∧ y.cls ≠ "java/lang/invoke/VarHandle" ∧ (parseMethodDescriptor y.desc).map (fun d => d.parameters.length) = some n) (hR : rm.frames + 1 ≤ R.frames ∧ 8 + (maxL + 11) + rm.locals ≤ R.locals) :
    xq_CHB R s args own index y bytes maxL ret hh (.codeWith y bytes maxL ret hh :: xq_W) rm n := by
  refine ⟨rfl, rfl, hR.1, hR.2, fun w hw a' U hW => ?_, List.mem_cons_self, hts _ hc, hts _ hi, ⟨hd.1, hd.2.1⟩, fun sig h => ?_, hts _ hl⟩
  · have hw' : w ∈ xq_W := by
      rcases List.mem_cons.mp hw with h | h
      · rw [h]; exact hc
      · exact h
    exact word_at hW (xq_good hw') (hts w hw')
  · have h2 := hd.2.2
    rw [h] at h2
    exact (Option.some.inj h2).symm


