/-! OWN ROWS: contracts that may end by a return or by a throw, and the calls of them -/
/-- what holds of the machine's beginning, all through: the law's own start s0, of which no cell has changed -/
def xq_J (l : Launch) (o : State × Array Value) (A : Nat → Prop) (U : State) (H : Heap) : Prop := l.stackTraces = false ∧ o.1.WarmedH U.vm ∧ (∀ w ∈ lw_tbl, w.before o.2 o.1 = true) ∧ (Jvm.Cond.and given_1 narrow_1).before o.2 o.1 = true ∧ (∀ q : Nat, q < o.1.heap.size → ¬ A q) ∧ ∀ q : Nat, q < o.1.heap.size → H[q]? = o.1.heap[q]?
theorem xq_Jw {l : Launch} {o : State × Array Value} {A : Nat → Prop} {s U : State} {H : Heap} (hW : s.WarmedH U.vm) (h : xq_J l o A s H) : xq_J l o A U H := by
  obtain ⟨h0, h1, h2⟩ := h
  exact ⟨h0, State.WarmedH.trans h1 hW, h2⟩
theorem xq_Jk {l : Launch} {o : State × Array Value} {A : Nat → Prop} {s : State} {H H1 : Heap} (h : xq_J l o A s H) (hq : ∀ q : Nat, q < H.size → ¬ A q → H1[q]? = H[q]?) : xq_J l o A s H1 := by
  obtain ⟨h0, h1, h2, h3, h4, h5⟩ := h
  refine ⟨h0, h1, h2, h3, h4, fun q hlt => ?_⟩
  have e1 := h5 q hlt
  have hl : q < H.size := by
    have : H[q]? = some o.1.heap[q] := by rw [e1]; exact Array.getElem?_eq_getElem hlt
    exact (Array.getElem?_eq_some_iff.mp this).1
  rw [hq q hl (h4 q hlt)]
  exact e1
theorem xq_Jn {l : Launch} {o : State × Array Value} {A B : Nat → Prop} {s : State} {H : Heap} (h : xq_J l o A s H) (hAB : ∀ q, B q → A q) : xq_J l o B s H := by
  obtain ⟨h0, h1, h2, h3, h4, h5⟩ := h
  exact ⟨h0, h1, h2, h3, fun q hq z => h4 q hq (hAB q z), h5⟩
section XQA
variable {p : Program} {l : Launch} {e : Env} {R : Room} {s : State} {m : MethodId} {args : Array Value} {below : List Frame} {meth : Method} {c : Code} {H : Heap} {locs : List Loc} {cells slots : Nat} {Q : State → Prop}
theorem xq_mono {Q' : State → Prop} {g : JFrame} (h : ∀ t, Q t → Q' t) (k : W p l e R s m args below meth c H locs cells slots Q g) : W p l e R s m args below meth c H locs cells slots Q' g := by
  intro T hT X
  obtain ⟨t, a, b⟩ := k T hT X
  exact ⟨t, a, h t b⟩
/-- the object x is of the thrown kind -/
def xq_Ex (x : Addr) (vm : Vm) (H : Heap) : Prop := ∃ cell : Cell, H[x]? = some cell ∧ cell.vm.isStatics = false ∧ vm.findClass "java/lang/IllegalArgumentException" = some cell.cls
/-- a method's end: it returned with 'post', or threw with 'postT'; the world is 'w1 u'; nothing else has changed -/
def xq_Q (D : va_G) (cl : List vw_C) (tys : List (ClassId × FieldType)) (w0 : va_W) {ρ S : Type} (val : ρ → Option Value) (post : ρ → S → Prop) (postT : S → Prop) (w1 : S → va_W) (mr nr mt nt : Nat) (st : State) (o : Outcome) (t : State) : Prop :=
  st.WarmedH t.vm ∧ va_F (va_A w0 st.heap.size) st t ∧ ∃ (u : S) (L : List Loc), va_P D cl (w1 u) t.heap ∧ va_D (va_A w0 st.heap.size) (w1 u) ∧ (∀ q ∈ L, va_A w0 st.heap.size q.base) ∧
    ((∃ r : ρ, o = .returned (val r) ∧ post r u ∧ st.sameButNew ({ t with vm := st.vm } : State) L mr nr) ∨ (∃ x : Addr, o = .threw x ∧ postT u ∧ xq_Ex x st.vm t.heap ∧ st.sameButNew ({ t with vm := st.vm } : State) L mt nt))
def xq_P (l : Launch) (o : State × Array Value) (D : va_G) (cl : List vw_C) (tys : List (ClassId × FieldType)) (As : List Value) (w0 : va_W) : Array Value → State → Prop := fun v U => v = As.toArray ∧ va_P D cl w0 U.heap ∧ va_K D cl tys U ∧ va_D (fun _ => True) w0 ∧ xq_J l o (va_A w0 U.heap.size) U U.heap
def xq_C (l : Launch) (o : State × Array Value) (y : MethodName) (ws : List Cond) (rm : Room) (D : va_G) (cl : List vw_C) (tys : List (ClassId × FieldType)) (As : List Value) (w0 : va_W) {ρ S : Type} (val : ρ → Option Value) (post : ρ → S → Prop) (postT : S → Prop) (w1 : S → va_W) (mr nr mt nt : Nat) : Prop :=
  MetFree l y (headSpec ws rm) (xq_P l o D cl tys As w0) (fun _ _ _ _ _ => True) (fun _ st oc t => xq_Q D cl tys w0 val post postT w1 mr nr mt nt st oc t)
def xq_Z (below : List Frame) (D : va_G) (cl : List vw_C) (tys : List (ClassId × FieldType)) (w0 : va_W) {ρ S : Type} (val : ρ → Option Value) (post : ρ → S → Prop) (postT : S → Prop) (w1 : S → va_W) (mr nr mt nt : Nat) (s : State) : State → Prop :=
  fun t => ∃ o, t.status = .running ∧ Ended t below o ∧ xq_Q D cl tys w0 val post postT w1 mr nr mt nt s o t
/-- what holds all through a method's walk -/
def xq_At (p : Program) (s : State) (m : MethodId) (args : Array Value) (meth : Method) (c : Code) (cc : ByteArray) (nL : Nat) (ret : Option FieldType) (y : MethodName) (Ts : List Cond) : Prop :=
  p.tables.exec = Jvm.exec ∧ c.code = cc ∧ c.maxLocals = nL ∧ meth.sig.returnType = ret ∧ meth.locks = false ∧ s.vm.findClass y.cls = some m.cls ∧ (∀ w ∈ Ts, w.before args s = true) ∧ c.exceptionTable.isEmpty = true ∧ meth.name = y.name
end XQA
section XQB
variable {l : Launch} {o : State × Array Value} {D : va_G} {cl : List vw_C} {tys : List (ClassId × FieldType)} {As : List Value} {w0 : va_W} {ρ S : Type} {val : ρ → Option Value} {post : ρ → S → Prop} {postT : S → Prop} {w1 : S → va_W} {mr nr mt nt : Nat}
theorem xq_ofW {y : MethodName} {ws Ts : List Cond} {rm : Room} {cc : ByteArray} {maxL : Nat} {ret : Option FieldType} (hy : plainName y.cls = true) (hw : ws = Cond.code y cc maxL ret :: Ts) (hA : (lg_sl As).length ≤ maxL)
    (body : ∀ (p : Program) (e : Env) (s : State) (m : MethodId) (below : List Frame) (meth : Method) (c : Code) (ls : Array Slot) (H : Heap) (locs : List Loc) (A : Nat → Prop), xq_At p s m As.toArray meth c cc maxL ret y Ts → va_A w0 s.heap.size = A → (∀ q : Nat, s.heap.size ≤ q → A q) → lv_has ls maxL (lv_args 0 As) → va_K D cl tys s → xq_J l o A s s.heap → va_P D cl w0 s.heap → va_P D cl w0 H → va_D A w0 → va_S A s.heap H locs →
      W p l e rm s m As.toArray below meth c H locs 0 0 (xq_Z below D cl tys w0 val post postT w1 mr nr mt nt s) (F0 m 0 ls [])) : xq_C l o y ws rm D cl tys As w0 val post postT w1 mr nr mt nt := by
  refine MetFree.of_bodyS (code := cc) (maxLocals := maxL) (ret := ret) hy ?_ ?_
  · intro args s m h hn
    obtain ⟨meth, c, h1, h2, h3, h4, h5, h6, -, -⟩ := Cond.code_spec hn (atoms_spec (ws := ws) h _ (by rw [hw]; exact List.mem_cons_self))
    exact ⟨meth, c, h1, h2, h3, h4, h5, h6⟩
  · intro p e s m args below meth c s₁ B hml hP _
    obtain ⟨rfl, hP, hK, hD, hJ⟩ := hP
    have hh0 : s₁.heap = s.heap := by rw [B.state]; rfl
    have hts := atoms_spec (ws := ws) B.pre
    have hcode : (Cond.code y cc maxL ret).before As.toArray s = true := hts _ (by rw [hw]; exact List.mem_cons_self)
    have hl := lv_entry As (n := maxL) hA
    have k := body p e s m below meth c _ s.heap [] _ ⟨B.exec, B.bytes, hml, B.returns, B.notSynchronized, findClass_of_methodNamed B.named, fun w h => hts w (by rw [hw]; exact List.mem_cons_of_mem _ h), BodyLoose.noHandlers B hcode, (name_of_methodNamed B.named B.method).1⟩ rfl (fun q h => Or.inr h) hl hK hJ hP hP hD.self va_S.rf
    rw [← lg_entry_eq] at k
    obtain ⟨t, a1, oc, b1, b2, b3⟩ := k s₁ hh0 (Stand.of_body B)
    exact ⟨t, oc, a1, b1, b2, b3⟩
end XQB
section XQR
variable {p : Program} {l : Launch} {e : Env} {R : Room} {s : State} {m : MethodId} {args : Array Value} {below : List Frame} {meth : Method} {c : Code} {H : Heap} {locs : List Loc} {cells slots : Nat}
variable {D : va_G} {cl : List vw_C} {tys : List (ClassId × FieldType)} {w0 : va_W} {ρ S : Type} {val : ρ → Option Value} {post : ρ → S → Prop} {postT : S → Prop} {w1 : S → va_W} {mr nr mt nt : Nat} {cc : ByteArray} {pc : Nat} {ls : Array Slot}
theorem xq_end {r : ρ} {u : S} {A : Nat → Prop} (hAe : va_A w0 s.heap.size = A) (hP : va_P D cl (w1 u) H) (hD : va_D A (w1 u)) (hS : va_S A s.heap H locs) (hq : post r u) (hc : cells ≤ mr) (hn : slots ≤ nr) {g : JFrame}
    (k : W p l e R s m args below meth c H locs cells slots (MQ below (fun _ st o t => o = .returned (val r) ∧ t.heap = H ∧ st.WarmedH t.vm) args s cells slots A) g) : W p l e R s m args below meth c H locs cells slots (xq_Z below D cl tys w0 val post postT w1 mr nr mt nt s) g := by
  subst hAe
  refine xq_mono (fun t h => ?_) k
  obtain ⟨o, h1, h2, ⟨h3, h4, h5⟩, L, ⟨-, -, h6⟩, h7⟩ := h
  exact ⟨o, h1, h2, h5, hS.F h4, u, L, by rw [h4]; exact hP, hD, h7, Or.inl ⟨r, h3, hq, h6.mono hc hn⟩⟩
theorem xq_iret {v : Int32} {r : ρ} {u : S} {A : Nat → Prop} (hx : p.tables.exec = Jvm.exec) (hb : c.code = cc) (hr : meth.sig.returnType = some .int) (hlocks : meth.locks = false) (hAe : va_A w0 s.heap.size = A) (hP : va_P D cl (w1 u) H) (hD : va_D A (w1 u)) (hS : va_S A s.heap H locs) (hv : val r = some (.int v)) (hq : post r u) (hc : cells ≤ mr) (hn : slots ≤ nr) (hdg : decode cc pc = .ok (.ireturn, 1)) :
    W p l e R s m args below meth c H locs cells slots (xq_Z below D cl tys w0 val post postT w1 mr nr mt nt s) (F0 m pc ls [.int v]) :=
  xq_end hAe hP hD hS hq hc hn (W.iret hx hb hr (fun t ht hW => ⟨by rw [hv], ht, hW⟩) hS.2.2 hdg hlocks)
theorem xq_zret {v : Int32} {r : ρ} {u : S} {A : Nat → Prop} {ty : FieldType} (hx : p.tables.exec = Jvm.exec) (hb : c.code = cc) (hr : meth.sig.returnType = some ty) (hlocks : meth.locks = false) (hAe : va_A w0 s.heap.size = A) (hP : va_P D cl (w1 u) H) (hD : va_D A (w1 u)) (hS : va_S A s.heap H locs) (hv : val r = some (.int v)) (hnr : narrow ty (.int v) = .int v) (hq : post r u) (hc : cells ≤ mr) (hn : slots ≤ nr) (hdg : decode cc pc = .ok (.ireturn, 1)) :
    W p l e R s m args below meth c H locs cells slots (xq_Z below D cl tys w0 val post postT w1 mr nr mt nt s) (F0 m pc ls [.int v]) :=
  xq_end hAe hP hD hS hq hc hn (W.zret hx hb hr hnr (fun t ht hW => ⟨by rw [hv], ht, hW⟩) hS.2.2 hdg hlocks)
theorem xq_lret {v : Int64} {r : ρ} {u : S} {A : Nat → Prop} (hx : p.tables.exec = Jvm.exec) (hb : c.code = cc) (hr : meth.sig.returnType = some .long) (hlocks : meth.locks = false) (hAe : va_A w0 s.heap.size = A) (hP : va_P D cl (w1 u) H) (hD : va_D A (w1 u)) (hS : va_S A s.heap H locs) (hv : val r = some (.long v)) (hq : post r u) (hc : cells ≤ mr) (hn : slots ≤ nr) (hdg : decode cc pc = .ok (.lreturn, 1)) :
    W p l e R s m args below meth c H locs cells slots (xq_Z below D cl tys w0 val post postT w1 mr nr mt nt s) (F0 m pc ls [.long v]) :=
  xq_end hAe hP hD hS hq hc hn (W.lret hx hb hr (fun t ht hW => ⟨by rw [hv], ht, hW⟩) hS.2.2 hdg hlocks)
theorem xq_vret {r : ρ} {u : S} {A : Nat → Prop} (hx : p.tables.exec = Jvm.exec) (hb : c.code = cc) (hr : meth.sig.returnType = none) (hlocks : meth.locks = false) (hAe : va_A w0 s.heap.size = A) (hP : va_P D cl (w1 u) H) (hD : va_D A (w1 u)) (hS : va_S A s.heap H locs) (hv : val r = none) (hq : post r u) (hc : cells ≤ mr) (hn : slots ≤ nr) (hdg : decode cc pc = .ok (.return_, 1)) :
    W p l e R s m args below meth c H locs cells slots (xq_Z below D cl tys w0 val post postT w1 mr nr mt nt s) (F0 m pc ls []) :=
  xq_end hAe hP hD hS hq hc hn (W.vret hx hb hr (fun t ht hW => ⟨by rw [hv], ht, hW⟩) hS.2.2 hdg hlocks)
theorem xq_aret {v : Value} {r : ρ} {u : S} {A : Nat → Prop} {rt : FieldType} (hx : p.tables.exec = Jvm.exec) (hb : c.code = cc) (hr : meth.sig.returnType = some rt) (hrt : (∃ n, rt = .object n) ∨ ∃ t, rt = .array t) (hvr : v = .null ∨ ∃ a, v = .ref a) (hlocks : meth.locks = false) (hAe : va_A w0 s.heap.size = A) (hP : va_P D cl (w1 u) H) (hD : va_D A (w1 u)) (hS : va_S A s.heap H locs) (hv : val r = some v) (hq : post r u) (hc : cells ≤ mr) (hn : slots ≤ nr) (hdg : decode cc pc = .ok (.areturn, 1)) :
    W p l e R s m args below meth c H locs cells slots (xq_Z below D cl tys w0 val post postT w1 mr nr mt nt s) (F0 m pc ls [v]) :=
  xq_end hAe hP hD hS hq hc hn (W.aret hx hb hr hrt hvr (fun t ht hW => ⟨by rw [hv], ht, hW⟩) hS.2.2 hdg hlocks)
/-- a throw lies over the frame g -/
def xq_T (p : Program) (l : Launch) (e : Env) (R : Room) (s : State) (m : MethodId) (args : Array Value) (below : List Frame) (meth : Method) (c : Code) (H : Heap) (locs : List Loc) (cells slots : Nat) (Q : State → Prop) (g : JFrame) (x : Addr) : Prop :=
  ∀ T : State, T.heap = H → Stand p l e R s m args below meth c T locs cells slots → ∃ t, Steps p.tables e below ((T.setTop g).pushFrame (.throwing x)) t ∧ Q t
theorem xq_out {u : S} {x : Addr} {A : Nat → Prop} {st : List Value} (hex : c.exceptionTable.isEmpty = true) (hlocks : meth.locks = false) (hAe : va_A w0 s.heap.size = A) (hP : va_P D cl (w1 u) H) (hD : va_D A (w1 u)) (hS : va_S A s.heap H locs) (hq : postT u) (hE : xq_Ex x s.vm H) (hc : cells ≤ mt) (hn : slots ≤ nt) :
    xq_T p l e R s m args below meth c H locs cells slots (xq_Z below D cl tys w0 val post postT w1 mr nr mt nt s) (F0 m pc ls st) x := by
  subst hAe
  intro T hT X
  obtain ⟨h1, h2, h3, h4, h5⟩ := X.leaveThrown x (g := F0 m pc ls st) rfl rfl rfl (fun y hy => by
    have h9 : c.exceptionTable.toList = [] := by simpa using hex
    rw [h9] at hy; cases hy) hlocks
  have hh : (T.setFrames (.throwing x :: below)).heap = H := hT
  exact ⟨_, h1, .threw x, h2, h3, h4, hS.F hh, u, locs, by rw [hh]; exact hP, hD, hS.2.2, Or.inr ⟨x, rfl, hq, by rw [hh]; exact hE, h5.mono hc hn⟩⟩
theorem xq_athrow {u : S} {x : Addr} {A : Nat → Prop} {st : List Value} (hx : p.tables.exec = Jvm.exec) (hb : c.code = cc) (hex : c.exceptionTable.isEmpty = true) (hlocks : meth.locks = false) (hAe : va_A w0 s.heap.size = A) (hP : va_P D cl (w1 u) H) (hD : va_D A (w1 u)) (hS : va_S A s.heap H locs) (hq : postT u) (hE : xq_Ex x s.vm H) (hc : cells ≤ mt) (hn : slots ≤ nt) (hdg : decode cc pc = .ok (.athrow, 1)) :
    W p l e R s m args below meth c H locs cells slots (xq_Z below D cl tys w0 val post postT w1 mr nr mt nt s) (F0 m pc ls (.ref x :: st)) := by
  subst hAe
  intro T hT X
  obtain ⟨h1, h2, h3, h4, h5⟩ := X.athrowLeaves hx (g := F0 m pc ls (.ref x :: st)) rfl rfl rfl (fun y hy => by
    have h9 : c.exceptionTable.toList = [] := by simpa using hex
    rw [h9] at hy; cases hy) (a := x) (rest := st) rfl (by rw [hb]; exact hdg) hlocks
  have hh : (T.setFrames (.throwing x :: below)).heap = H := hT
  exact ⟨_, h1, .threw x, h2, h3, h4, hS.F hh, u, locs, by rw [hh]; exact hP, hD, hS.2.2, Or.inr ⟨x, rfl, hq, by rw [hh]; exact hE, h5.mono hc hn⟩⟩
end XQR
section XQK
variable {p : Program} {l : Launch} {o : State × Array Value} {e : Env} {R : Room} {s : State} {m : MethodId} {args : Array Value} {below : List Frame} {meth : Method} {c : Code} {locs : List Loc} {cells slots : Nat} {Q : State → Prop}
variable {D : va_G} {cl : List vw_C} {tys : List (ClassId × FieldType)} {w0 wr ww : va_W} {ρ S : Type} {val : ρ → Option Value} {post : ρ → S → Prop} {postT : S → Prop} {w1 : S → va_W} {mr nr mt nt : Nat} {cc : ByteArray} {pc : Nat} {ls : Array Slot}
variable {y : MethodName} {ws : List Cond} {rm : Room} {bytes : ByteArray} {maxL : Nat} {ret : Option FieldType} {a : List Value}
/-- a call, from the invoking instruction's state on: it comes back, or throws -/
theorem xq_back (hM : xq_C l o y ws rm D cl tys a w0 val post postT w1 mr nr mt nt) {U : State} (X : Stand p l e R s m args below meth c U locs cells slots) {g : JFrame} (hg : g.method = m) (hsize : g.locals.size = c.maxLocals) {ig : Instr} {len : Nat} (hdg : decode c.code g.pc = .ok (ig, len)) (hW : 2 * g.monitorRoom + (g.stack.map fun v => v.category).sum ≤ 8) {mk : MethodId} (hn : U.methodNamed? y = some mk)
    (hfr : rm.frames + 1 ≤ R.frames) (hlo : 8 + (maxL + 11) + rm.locals ≤ R.locals) (hws : ∀ w ∈ ws, ∀ (a' : Array Value) (U : State), s.WarmedH U.vm → w.before a' U = true) (hcode : Cond.code y bytes maxL ret ∈ ws) (hinit : (Cond.initialized y.cls).before args s = true) (hc : cells + rm.cells ≤ R.cells) (hs : slots + rm.slots ≤ R.slots) (hP : va_P D cl w0 U.heap) (hK : va_K D cl tys U) (hJ : xq_J l o (va_A w0 U.heap.size) U U.heap) (hD : va_D (fun _ => True) w0) :
    ∃ (u : S) (T' : State) (L : List Loc), T'.heap.size ≥ U.heap.size ∧ (∀ q : Nat, q < U.heap.size → ¬ va_A w0 U.heap.size q → T'.heap[q]? = U.heap[q]?) ∧ va_P D cl (w1 u) T'.heap ∧ va_D (va_A w0 U.heap.size) (w1 u) ∧ (∀ q ∈ L, va_A w0 U.heap.size q.base) ∧
      ((∃ r : ρ, post r u ∧ Stand p l e R s m args below meth c T' (locs ++ L) (cells + mr) (slots + nr) ∧ Steps p.tables e below (doInvoke e (U.setTop g) [] mk a.toArray).1 (T'.setTop { g with pc := g.pc + len, stack := (val r).toList ++ g.stack })) ∨
       (∃ x : Addr, postT u ∧ xq_Ex x U.vm T'.heap ∧ Stand p l e R s m args below meth c T' (locs ++ L) (cells + mt) (slots + nt) ∧ Steps p.tables e below (doInvoke e (U.setTop g) [] mk a.toArray).1 ((T'.setTop g).pushFrame (.throwing x)))) := by
  have h1 : (headSpec ws rm).pre.before a.toArray U = true := atoms_intro fun w hw => hws w hw _ _ X.warmed
  have h2 := hws _ hcode a.toArray U X.warmed
  have h3 : (Cond.initialized y.cls).before a.toArray U = true := word_at X.warmed (Or.inl (by first | rfl | simp [Cond.onTables, Cond.keeps, Cond.steady])) hinit
  obtain ⟨methY, cY, hmY, hcY, -, hlY, -, -, -, -⟩ := Cond.code_spec hn h2
  obtain ⟨kY, hkY, -⟩ := className_of_methodNamed hn
  have hinitY : kY.init = .initialized := Cond.initialized_spec (findClass_of_methodNamed hn) hkY h3
  have h : At U g.method c below := by rw [hg]; exact X.here
  have happ : (headSpec ws rm).appliesLoose y e.platform (U.calling g mk a.toArray) = true :=
    Spec.appliesLoose_calling (g := g) h hdg hn hkY hinitY
      (X.room_calling (g := g) (R' := rm) hsize hmY hcY hfr (by rw [hlY]; omega) hc hs) h1
  obtain ⟨mid, hmid⟩ := h.above
  have hfr' : (U.setTop g).frames = (.java g :: mid) ++ below := by rw [State.frames_setTop' g h.top, hmid]; rfl
  have hPc : xq_P l o D cl tys a w0 a.toArray (U.calling g mk a.toArray) := ⟨rfl, hP, va_K.moved (u := U) (U := U.calling g mk a.toArray) (Vm.Alike.refl U.vm) hK, hD, xq_Jw (U := U.calling g mk a.toArray) (State.WarmedH.refl U) hJ⟩
  obtain ⟨oc, t, hsteps, -, hend, hq⟩ := Steps.callFree hM p X.admits X.cas X.clock (acts := []) hfr' happ hPc trivial
  have hq' : xq_Q D cl tys w0 val post postT w1 mr nr mt nt (U.calling g mk a.toArray) oc t := hq
  rw [State.frames_setTop' g h.top, X.tail] at hend
  obtain ⟨hWm, ⟨hF1, hF2⟩, u, L, k1, k2, k3, k4⟩ := hq'
  rcases k4 with ⟨r, rfl, hp, hsame⟩ | ⟨x, rfl, hp, hE, hsame⟩
  · obtain ⟨T', X', hW', hB, ht⟩ := X.outOf hg hdg hend hWm hsame
    have hh : t.heap = T'.heap := by rw [ht]; simp [State.setTop, State.modifyTopJava]
    refine ⟨u, T', L, by rw [← hh]; exact hF1, fun q g1 g2 => by rw [← hh]; exact hF2 q g1 g2, by rw [← hh]; exact k1, k2, k3, Or.inl ⟨r, hp, X', ?_⟩⟩
    rw [← ht]; exact hsteps
  · obtain ⟨T', X', hW', hB, ht⟩ := X.outOfThrown hg hend hWm hsame
    have hh : t.heap = T'.heap := by rw [ht]; exact Stand.throwing_heap T' g x
    refine ⟨u, T', L, by rw [← hh]; exact hF1, fun q g1 g2 => by rw [← hh]; exact hF2 q g1 g2, by rw [← hh]; exact k1, k2, k3, Or.inr ⟨x, hp, by rw [← hh]; exact hE, X', ?_⟩⟩
    rw [← ht]; exact hsteps
end XQK
section XQW
variable {p : Program} {l : Launch} {o : State × Array Value} {e : Env} {R : Room} {s : State} {m : MethodId} {args : Array Value} {below : List Frame} {meth : Method} {c : Code} {H : Heap} {locs : List Loc} {cells slots : Nat} {Q : State → Prop}
variable {D : va_G} {cl : List vw_C} {tys : List (ClassId × FieldType)} {w0 wr ww : va_W} {ρ S : Type} {val : ρ → Option Value} {post : ρ → S → Prop} {postT : S → Prop} {w1 : S → va_W} {mr nr mt nt : Nat} {cc : ByteArray} {pc nL : Nat} {ls : Array Slot}
variable {y : MethodName} {ws Ts : List Cond} {rm : Room} {bytes : ByteArray} {maxL : Nat} {ret : Option FieldType} {own C : String} {index n : Nat} {b : Addr} {As rest : List Value} {A : Nat → Prop}
def xq_Run (p : Program) (l : Launch) (e : Env) (R : Room) (s : State) (m : MethodId) (args : Array Value) (below : List Frame) (meth : Method) (c : Code) (H : Heap) (locs : List Loc) (cells slots : Nat) (D : va_G) (cl : List vw_C) (w0 : va_W) {ρ S : Type} (val : ρ → Option Value) (post : ρ → S → Prop) (postT : S → Prop) (w1 : S → va_W) (mr nr mt nt : Nat) (pc : Nat) (ls : Array Slot) (st0 rest : List Value) : Prop :=
  ∀ T : State, T.heap = H → Stand p l e R s m args below meth c T locs cells slots → ∃ (u : S) (T' : State) (L : List Loc), H.size ≤ T'.heap.size ∧ (∀ q : Nat, q < H.size → ¬ va_A w0 H.size q → T'.heap[q]? = H[q]?) ∧ va_P D cl (w1 u) T'.heap ∧ va_D (va_A w0 H.size) (w1 u) ∧ (∀ q ∈ L, va_A w0 H.size q.base) ∧
    ((∃ r : ρ, post r u ∧ Stand p l e R s m args below meth c T' (locs ++ L) (cells + mr) (slots + nr) ∧ ∀ tg, Steps p.tables e below (T'.setTop (F0 m (pc + 3) ls ((val r).toList ++ rest))) tg → Steps p.tables e below (T.setTop (F0 m pc ls st0)) tg) ∨
     (∃ x : Addr, postT u ∧ xq_Ex x s.vm T'.heap ∧ Stand p l e R s m args below meth c T' (locs ++ L) (cells + mt) (slots + nt) ∧ ∀ tg, Steps p.tables e below ((T'.setTop (F0 m pc ls rest)).pushFrame (.throwing x)) tg → Steps p.tables e below (T.setTop (F0 m pc ls st0)) tg))
theorem xq_go {st0 : List Value} (hr : xq_Run p l e R s m args below meth c H locs cells slots D cl w0 val post postT w1 mr nr mt nt pc ls st0 rest) (hP : va_P D cl ww H) (hD : va_D A ww) (hS : va_S A s.heap H locs) (hA : ∀ q, s.heap.size ≤ q → A q) (isC isR : List Nat) (hC : isC.map (fun i => ww[i]?) = w0.map some) (hR : isR.map (fun i => ww[i]?) = wr.map some) (hn : va_nd isR = true) (hdis : ∀ i ∈ isR, i ∉ isC) {stk : ρ → List Value} (hstk : ∀ r, (val r).toList ++ rest = stk r)
    (kr : ∀ (r : ρ) (u : S) (H1 : Heap) (locs1 : List Loc), post r u → va_P D cl (wr ++ w1 u) H1 → va_D A (wr ++ w1 u) → va_S A s.heap H1 locs1 → W p l e R s m args below meth c H1 locs1 (cells + mr) (slots + nr) Q (F0 m (pc + 3) ls (stk r)))
    (kt : ∀ (x : Addr) (u : S) (H1 : Heap) (locs1 : List Loc), postT u → va_P D cl (wr ++ w1 u) H1 → va_D A (wr ++ w1 u) → va_S A s.heap H1 locs1 → xq_Ex x s.vm H1 → xq_T p l e R s m args below meth c H1 locs1 (cells + mt) (slots + nt) Q (F0 m pc ls rest) x) : W p l e R s m args below meth c H locs cells slots Q (F0 m pc ls st0) := by
  intro T hT X
  obtain ⟨u, T', L, f1, f2, f3, f4, f5, f6⟩ := hr T hT X
  have hF := va_free hD hS hA isC hC
  obtain ⟨j1, j2⟩ := va_join hP hD isC isR hC hR hn hdis f2 hF f3 f4
  have hS' : va_S A s.heap T'.heap (locs ++ L) := by
    refine ⟨Nat.le_trans hS.1 f1, fun q g1 g2 => ?_, fun q hq => ?_⟩
    · rw [f2 q (Nat.lt_of_lt_of_le g1 hS.1) (fun h => g2 (hF q h))]
      exact hS.2.1 q g1 g2
    · rcases List.mem_append.mp hq with h | h
      · exact hS.2.2 q h
      · exact hF _ (f5 q h)
  rcases f6 with ⟨r, hp, X', hst⟩ | ⟨x, hp, hE, X', hst⟩
  · obtain ⟨t, a1, b1⟩ := kr r u _ _ hp j1 j2 hS' T' rfl X'
    refine ⟨t, hst t ?_, b1⟩
    rw [hstk]
    exact a1
  · obtain ⟨t, a1, b1⟩ := kt x u _ _ hp j1 j2 hS' hE T' rfl X'
    exact ⟨t, hst t a1, b1⟩
theorem xq_exs {s U : State} {x : Addr} {H : Heap} (hW : s.WarmedH U.vm) (h : xq_Ex x U.vm H) : xq_Ex x s.vm H := by
  obtain ⟨cell, a1, a2, a3⟩ := h
  exact ⟨cell, a1, a2, by rw [hW.alike.findClass] at a3; exact a3⟩
theorem xq_runV (S9 : CallFix p m c cc nL s args Ts own) (hM : xq_C l o y ws rm D cl tys (.ref b :: As) w0 val post postT w1 mr nr mt nt) (cw : CallW R s args own C index y bytes maxL ret ws rm rm.cells rm.slots n) (hrec : ∃ cellB : Cell, H[b]? = some cellB ∧ cellB.vm.isStatics = false ∧ s.vm.findClass C = some cellB.cls) (hP : va_P D cl w0 H) (hK : va_K D cl tys s) (hJ : xq_J l o A s s.heap) (hS : va_S A s.heap H locs) (hF : ∀ q, va_A w0 H.size q → A q) (hD : va_D (fun _ => True) w0) (hn : As.length = n) (hsize : ls.size = nL) (hW : (rest.map fun v => v.category).sum ≤ 8) (hdg : decode cc pc = .ok (.invokevirtual index, 3)) (hf : cells + rm.cells ≤ R.cells ∧ slots + rm.slots ≤ R.slots) :
    xq_Run p l e R s m args below meth c H locs cells slots D cl w0 val post postT w1 mr nr mt nt pc ls (As.reverse ++ .ref b :: rest) rest := by
  intro T hT X
  obtain ⟨⟨hrc, hrs, hfr, hlo, hws, hcw, hcode, hini, hy, hlen, hl⟩, hin, hse⟩ := cw
  obtain ⟨hx, hb, hml, ho, -⟩ := S9
  obtain ⟨cellB, hcB, hoB, hclB⟩ := hrec
  obtain ⟨mk, methM, hnamed, hmethM, hstM, habM⟩ := Cond.instanceMethod_spec hin
  obtain ⟨methM', cM, hmethM', -, -, -, -, -, -, hsigM⟩ := Cond.code_spec hnamed hcode
  cases hmethM.symm.trans hmethM'
  obtain ⟨c2, r2, m2, q1, q2, q3, q4, kP, hkP, hkPi⟩ := Cond.selects_spec hse
  cases hclB.symm.trans q1
  cases (State.methodFound?_of_named hnamed hy).symm.trans q2
  cases hnamed.symm.trans q3
  have hselP : selectMethod e.platform s.vm cellB.cls mk = .method mk := by rw [Launch.admits_selectMethod X.admits]; exact q4
  obtain ⟨vm₁, X₁, hstep₁⟩ := X.invokevirtual hx ho hl hnamed hmethM hstM hkP hkPi hy (a := b) (cell := cellB) (by rw [hT]; exact hcB)
    (fun z h => by rw [h] at hoB; cases hoB) hselP hmethM habM hkP hkPi (g := F0 m pc ls (As.reverse ++ .ref b :: rest)) rfl (argsL := As) (rest := rest) (hn.trans (hlen _ hsigM)) rfl (by rw [hb]; exact hdg)
  have hh : (T.setVm vm₁).heap = H := hT
  obtain ⟨u, T', L, f1, f2, f3, f4, f5, f6⟩ := xq_back hM X₁ (g := F0 m pc ls rest) rfl (hsize.trans hml.symm) (ig := .invokevirtual index) (len := 3) (by rw [hb]; exact hdg) (lv_room hW) (X₁.named hnamed) hfr hlo hws hcw hini hf.1 hf.2 (by rw [hh]; exact hP) (va_K.moved X₁.warmed.alike hK) (by rw [hh]; exact xq_Jw X₁.warmed (xq_Jn (xq_Jk hJ hS.2.1) hF)) hD
  rw [hh] at f1 f2 f4 f5
  refine ⟨u, T', L, f1, f2, f3, f4, f5, ?_⟩
  rcases f6 with ⟨r, hp, X', hst⟩ | ⟨x, hp, hE, X', hst⟩
  · exact Or.inl ⟨r, hp, X', fun tg h => hstep₁ _ fun acts => by rw [doInvoke_state]; exact hst.trans h⟩
  · exact Or.inr ⟨x, hp, xq_exs X₁.warmed hE, X', fun tg h => hstep₁ _ fun acts => by rw [doInvoke_state]; exact hst.trans h⟩
theorem xq_runVN {host : String} (S9 : CallFix p m c cc nL s args Ts own) (hM : xq_C l o y ws rm D cl tys (.ref b :: As) w0 val post postT w1 mr nr mt nt) (cw : va_CN R s args own index y host bytes maxL ret ws rm rm.cells rm.slots n ∧ (Cond.instanceMethod y).before args s = true ∧ (Cond.selects C y y).before args s = true) (hrec : ∃ cellB : Cell, H[b]? = some cellB ∧ cellB.vm.isStatics = false ∧ s.vm.findClass C = some cellB.cls) (hP : va_P D cl w0 H) (hK : va_K D cl tys s) (hJ : xq_J l o A s s.heap) (hS : va_S A s.heap H locs) (hF : ∀ q, va_A w0 H.size q → A q) (hD : va_D (fun _ => True) w0) (hn : As.length = n) (hsize : ls.size = nL) (hW : (rest.map fun v => v.category).sum ≤ 8) (hdg : decode cc pc = .ok (.invokevirtual index, 3)) (hf : cells + rm.cells ≤ R.cells ∧ slots + rm.slots ≤ R.slots) :
    xq_Run p l e R s m args below meth c H locs cells slots D cl w0 val post postT w1 mr nr mt nt pc ls (As.reverse ++ .ref b :: rest) rest := by
  intro T hT X
  obtain ⟨⟨⟨hrc, hrs, hfr, hlo, hws, hcw⟩, hcode, hini, hy, hlen, hl⟩, hin, hse⟩ := cw
  obtain ⟨hx, hb, hml, ho, -⟩ := S9
  obtain ⟨cellB, hcB, hoB, hclB⟩ := hrec
  obtain ⟨mk, methM, hnamed, hmethM, hstM, habM⟩ := Cond.instanceMethod_spec hin
  obtain ⟨methM', cM, hmethM', -, -, -, -, -, -, hsigM⟩ := Cond.code_spec hnamed hcode
  cases hmethM.symm.trans hmethM'
  obtain ⟨c2, r2, m2, q1, q2, q3, q4, kP, hkP, hkPi⟩ := Cond.selects_spec hse
  cases hclB.symm.trans q1
  cases (State.methodFound?_of_named hnamed hy).symm.trans q2
  cases hnamed.symm.trans q3
  have hselP : selectMethod e.platform s.vm cellB.cls mk = .method mk := by rw [Launch.admits_selectMethod X.admits]; exact q4
  obtain ⟨vm₁, X₁, hstep₁⟩ := X.invokevirtualNest hx ho hl hnamed hmethM hstM hkP hkPi hy (a := b) (cell := cellB) (by rw [hT]; exact hcB)
    (fun z h => by rw [h] at hoB; cases hoB) hselP hmethM habM hkP hkPi (g := F0 m pc ls (As.reverse ++ .ref b :: rest)) rfl (argsL := As) (rest := rest) (hn.trans (hlen _ hsigM)) rfl (by rw [hb]; exact hdg)
  have hh : (T.setVm vm₁).heap = H := hT
  obtain ⟨u, T', L, f1, f2, f3, f4, f5, f6⟩ := xq_back hM X₁ (g := F0 m pc ls rest) rfl (hsize.trans hml.symm) (ig := .invokevirtual index) (len := 3) (by rw [hb]; exact hdg) (lv_room hW) (X₁.named hnamed) hfr hlo hws hcw hini hf.1 hf.2 (by rw [hh]; exact hP) (va_K.moved X₁.warmed.alike hK) (by rw [hh]; exact xq_Jw X₁.warmed (xq_Jn (xq_Jk hJ hS.2.1) hF)) hD
  rw [hh] at f1 f2 f4 f5
  refine ⟨u, T', L, f1, f2, f3, f4, f5, ?_⟩
  rcases f6 with ⟨r, hp, X', hst⟩ | ⟨x, hp, hE, X', hst⟩
  · exact Or.inl ⟨r, hp, X', fun tg h => hstep₁ _ fun acts => by rw [doInvoke_state]; exact hst.trans h⟩
  · exact Or.inr ⟨x, hp, xq_exs X₁.warmed hE, X', fun tg h => hstep₁ _ fun acts => by rw [doInvoke_state]; exact hst.trans h⟩
theorem xq_runS (S9 : CallFix p m c cc nL s args Ts own) (hM : xq_C l o y ws rm D cl tys As w0 val post postT w1 mr nr mt nt) (cw : CallB R s args own index y bytes maxL ret ws rm rm.cells rm.slots n ∧ (Cond.static y).before args s = true) (hP : va_P D cl w0 H) (hK : va_K D cl tys s) (hJ : xq_J l o A s s.heap) (hS : va_S A s.heap H locs) (hF : ∀ q, va_A w0 H.size q → A q) (hD : va_D (fun _ => True) w0) (hn : As.length = n) (hsize : ls.size = nL) (hW : (rest.map fun v => v.category).sum ≤ 8) (hdg : decode cc pc = .ok (.invokestatic index, 3)) (hf : cells + rm.cells ≤ R.cells ∧ slots + rm.slots ≤ R.slots) :
    xq_Run p l e R s m args below meth c H locs cells slots D cl w0 val post postT w1 mr nr mt nt pc ls (As.reverse ++ rest) rest := by
  intro T hT X
  obtain ⟨⟨hrc, hrs, hfr, hlo, hws, hcw, hcode, hini, hy, hlen, hl⟩, hstat⟩ := cw
  obtain ⟨hx, hb, hml, ho, -⟩ := S9
  obtain ⟨mk, hnamed⟩ := Cond.code_named hcode
  obtain ⟨methM, cM, hmethM, -, -, -, -, -, -, hsigM⟩ := Cond.code_spec hnamed hcode
  have hstatic : methM.isStatic = true := Cond.static_spec hnamed hmethM hstat
  obtain ⟨kP, hkP, -⟩ := className_of_methodNamed hnamed
  have hinitP : kP.init = .initialized := Cond.initialized_spec (findClass_of_methodNamed hnamed) hkP hini
  obtain ⟨vm₁, X₁, hstep₁⟩ := X.invokestatic hx ho hl hnamed hmethM hstatic hkP hinitP hy (g := F0 m pc ls (As.reverse ++ rest)) rfl (argsL := As) (rest := rest) (hn.trans (hlen _ hsigM)) rfl (by rw [hb]; exact hdg)
  have hh : (T.setVm vm₁).heap = H := hT
  obtain ⟨u, T', L, f1, f2, f3, f4, f5, f6⟩ := xq_back hM X₁ (g := F0 m pc ls rest) rfl (hsize.trans hml.symm) (ig := .invokestatic index) (len := 3) (by rw [hb]; exact hdg) (lv_room hW) (X₁.named hnamed) hfr hlo hws hcw hini hf.1 hf.2 (by rw [hh]; exact hP) (va_K.moved X₁.warmed.alike hK) (by rw [hh]; exact xq_Jw X₁.warmed (xq_Jn (xq_Jk hJ hS.2.1) hF)) hD
  rw [hh] at f1 f2 f4 f5
  refine ⟨u, T', L, f1, f2, f3, f4, f5, ?_⟩
  rcases f6 with ⟨r, hp, X', hst⟩ | ⟨x, hp, hE, X', hst⟩
  · exact Or.inl ⟨r, hp, X', fun tg h => hstep₁ _ fun acts => by rw [doInvoke_state]; exact hst.trans h⟩
  · exact Or.inr ⟨x, hp, xq_exs X₁.warmed hE, X', fun tg h => hstep₁ _ fun acts => by rw [doInvoke_state]; exact hst.trans h⟩
theorem xq_runSN {host : String} (S9 : CallFix p m c cc nL s args Ts own) (hM : xq_C l o y ws rm D cl tys As w0 val post postT w1 mr nr mt nt) (cw : va_CN R s args own index y host bytes maxL ret ws rm rm.cells rm.slots n ∧ (Cond.static y).before args s = true) (hP : va_P D cl w0 H) (hK : va_K D cl tys s) (hJ : xq_J l o A s s.heap) (hS : va_S A s.heap H locs) (hF : ∀ q, va_A w0 H.size q → A q) (hD : va_D (fun _ => True) w0) (hn : As.length = n) (hsize : ls.size = nL) (hW : (rest.map fun v => v.category).sum ≤ 8) (hdg : decode cc pc = .ok (.invokestatic index, 3)) (hf : cells + rm.cells ≤ R.cells ∧ slots + rm.slots ≤ R.slots) :
    xq_Run p l e R s m args below meth c H locs cells slots D cl w0 val post postT w1 mr nr mt nt pc ls (As.reverse ++ rest) rest := by
  intro T hT X
  obtain ⟨⟨⟨hrc, hrs, hfr, hlo, hws, hcw⟩, hcode, hini, hy, hlen, hl⟩, hstat⟩ := cw
  obtain ⟨hx, hb, hml, ho, -⟩ := S9
  obtain ⟨mk, hnamed⟩ := Cond.code_named hcode
  obtain ⟨methM, cM, hmethM, -, -, -, -, -, -, hsigM⟩ := Cond.code_spec hnamed hcode
  have hstatic : methM.isStatic = true := Cond.static_spec hnamed hmethM hstat
  obtain ⟨kP, hkP, -⟩ := className_of_methodNamed hnamed
  have hinitP : kP.init = .initialized := Cond.initialized_spec (findClass_of_methodNamed hnamed) hkP hini
  obtain ⟨vm₁, X₁, hstep₁⟩ := X.invokestaticNest hx ho hl hnamed hmethM hstatic hkP hinitP hy (g := F0 m pc ls (As.reverse ++ rest)) rfl (argsL := As) (rest := rest) (hn.trans (hlen _ hsigM)) rfl (by rw [hb]; exact hdg)
  have hh : (T.setVm vm₁).heap = H := hT
  obtain ⟨u, T', L, f1, f2, f3, f4, f5, f6⟩ := xq_back hM X₁ (g := F0 m pc ls rest) rfl (hsize.trans hml.symm) (ig := .invokestatic index) (len := 3) (by rw [hb]; exact hdg) (lv_room hW) (X₁.named hnamed) hfr hlo hws hcw hini hf.1 hf.2 (by rw [hh]; exact hP) (va_K.moved X₁.warmed.alike hK) (by rw [hh]; exact xq_Jw X₁.warmed (xq_Jn (xq_Jk hJ hS.2.1) hF)) hD
  rw [hh] at f1 f2 f4 f5
  refine ⟨u, T', L, f1, f2, f3, f4, f5, ?_⟩
  rcases f6 with ⟨r, hp, X', hst⟩ | ⟨x, hp, hE, X', hst⟩
  · exact Or.inl ⟨r, hp, X', fun tg h => hstep₁ _ fun acts => by rw [doInvoke_state]; exact hst.trans h⟩
  · exact Or.inr ⟨x, hp, xq_exs X₁.warmed hE, X', fun tg h => hstep₁ _ fun acts => by rw [doInvoke_state]; exact hst.trans h⟩
theorem xq_runI (S9 : CallFix p m c cc nL s args Ts own) (hM : xq_C l o y ws rm D cl tys (.ref b :: As) w0 val post postT w1 mr nr mt nt) (cw : CallB R s args own index y bytes maxL none ws rm rm.cells rm.slots n ∧ y.name = "<init>" ∧ (Cond.instanceMethod y).before args s = true) (hP : va_P D cl w0 H) (hK : va_K D cl tys s) (hJ : xq_J l o A s s.heap) (hS : va_S A s.heap H locs) (hF : ∀ q, va_A w0 H.size q → A q) (hD : va_D (fun _ => True) w0) (hn : As.length = n) (hsize : ls.size = nL) (hW : (rest.map fun v => v.category).sum ≤ 8) (hdg : decode cc pc = .ok (.invokespecial index, 3)) (hf : cells + rm.cells ≤ R.cells ∧ slots + rm.slots ≤ R.slots) :
    xq_Run p l e R s m args below meth c H locs cells slots D cl w0 val post postT w1 mr nr mt nt pc ls (As.reverse ++ .ref b :: rest) rest := by
  intro T hT X
  obtain ⟨⟨hrc, hrs, hfr, hlo, hws, hcw, hcode, hini, hy, hlen, hl⟩, hy1, hinst⟩ := cw
  obtain ⟨hx, hb, hml, ho, -⟩ := S9
  have hpl : e.platform.magicAccessors = ({} : Platform).magicAccessors := by rw [X.admits.platform]
  obtain ⟨mk, methM, cM, kP, vm₁, hnamed, hmethM, hcodeM, -, hlocalsM, -, hkP, -, hW₁, hstep₁⟩ := Steps.initColdArgs (e := e) X.here hx X.warmed hpl ho hy1 hy hl hinst hcode (f := F0 m pc ls (As.reverse ++ .ref b :: rest)) rfl (fun sig h => hn.trans (hlen sig h)) rfl (by rw [hb]; exact hdg)
  have X₁ := X.noted hW₁
  have hh : (T.setVm vm₁).heap = H := hT
  obtain ⟨u, T', L, f1, f2, f3, f4, f5, f6⟩ := xq_back hM X₁ (g := F0 m pc ls rest) rfl (hsize.trans hml.symm) (ig := .invokespecial index) (len := 3) (by rw [hb]; exact hdg) (lv_room hW) (X₁.named hnamed) hfr hlo hws hcw hini hf.1 hf.2 (by rw [hh]; exact hP) (va_K.moved X₁.warmed.alike hK) (by rw [hh]; exact xq_Jw X₁.warmed (xq_Jn (xq_Jk hJ hS.2.1) hF)) hD
  rw [hh] at f1 f2 f4 f5
  refine ⟨u, T', L, f1, f2, f3, f4, f5, ?_⟩
  rcases f6 with ⟨r, hp, X', hst⟩ | ⟨x, hp, hE, X', hst⟩
  · exact Or.inl ⟨r, hp, X', fun tg h => hstep₁ _ fun acts => by rw [doInvoke_state]; exact hst.trans h⟩
  · exact Or.inr ⟨x, hp, xq_exs X₁.warmed hE, X', fun tg h => hstep₁ _ fun acts => by rw [doInvoke_state]; exact hst.trans h⟩
/-- an array of a type whose number is known -/
theorem xq_newa {atype : ArrayType} (hexec : p.tables.exec = Jvm.exec) (hb : c.code = cc) (harr : (Cond.arrayClass (newarray.typeOf atype)).before args s = true) {ty : FieldType} (hty : newarray.typeOf atype = ty) (hnob : ∀ C, ty ≠ .object C) (hK : va_K D cl tys s) (hP : va_P D cl ww H) (hD : va_D A ww) {H0 : Heap} (hS : va_S A H0 H locs) (hA : ∀ q, H0.size ≤ q → A q) (t0 : Nat) {cA : ClassId} (ht : tys[t0]? = some (cA, ty)) {k : Int32} {N' : Nat} {a0 : vp_A} (ha : ∀ cA : ClassId, vp_cell cA a0 = arrV cA N' (fun _ => defaultValue ty)) (hn : ¬ k < 0) (hN : k.toNatClampNeg = N') (hbytes : N' * componentBytes ty ≤ 536870912) (hcells : cells + 1 ≤ R.cells) (hslots : slots + N' ≤ R.slots) (hdg : decode cc pc = .ok (.newarray atype, 2))
    (kk : ∀ (q : Nat) (H1 : Heap), va_P D cl (ww ++ [(q, .inl (cA, a0))]) H1 → va_D A (ww ++ [(q, .inl (cA, a0))]) → va_S A H0 H1 locs → W p l e R s m args below meth c H1 locs (cells + 1) (slots + N') Q (F0 m (pc + 2) ls (.ref q :: rest))) : W p l e R s m args below meth c H locs cells slots Q (F0 m pc ls (.int k :: rest)) := by
  refine va_newa hexec hb harr hty hK hP hD hS hA ha hn hN hbytes hcells hslots hdg (fun q cA' H1 hK1 hP1 hD1 hS1 => ?_)
  have e1 := (hK.2 t0 _ ht).2
  have e2 := (hK1.2 tys.length (cA', ty) (by simp)).2
  have e3 : cA' = cA := by
    cases ty with
    | object C => exact absurd rfl (hnob C)
    | _ => exact Option.some.inj (e2.symm.trans e1)
  subst e3
  exact kk q H1 hP1 hD1 hS1
end XQW
/-! the words, and where they stand -/
def xq_W : List Cond := lw_tbl.filter goodWord
theorem xq_in {ws : List Cond} (ht : ∀ w, w ∈ ws → w ∈ lw_tbl) {w : Cond} (n : Nat) (h : ws[n]? = some w) (hg : goodWord w = true) : w ∈ xq_W := List.mem_filter.mpr ⟨ht w (List.mem_of_getElem? h), hg⟩
theorem xq_inp {ys : List (MethodName × Nat)} (ht : ∀ q, q ∈ ys → q ∈ lw_privs) {y : MethodName} {k : Nat} (n : Nat) (h : ys[n]? = some (y, k)) : Cond.selects y.cls y y ∈ xq_W :=
  List.mem_filter.mpr ⟨List.mem_append_left _ (List.mem_map.mpr ⟨(y, k), ht _ (List.mem_of_getElem? h), rfl⟩), rfl⟩
theorem xq_good {w : Cond} (h : w ∈ xq_W) : (w.onTables && w.keeps) = true ∨ ∃ ty, w = .arrayClass ty := good_of_word (List.mem_filter.mp h).2
theorem xq_hts {args : Array Value} {s : State} (h : ∀ w ∈ lw_tbl, w.before args s = true) : ∀ w ∈ xq_W, w.before args s = true := fun w hw => h w (List.mem_filter.mp hw).1
theorem xq_cb {R : Room} {s : State} {args : Array Value} {own : String} {index : Nat} {y : MethodName} {bytes : ByteArray} {maxL : Nat} {ret : Option FieldType} {rm : Room} (n : Nat) (hts : ∀ w ∈ xq_W, w.before args s = true) (hc : .code y bytes maxL ret ∈ xq_W) (hi : .initialized y.cls ∈ xq_W) (hl : .methodLink own index y ∈ xq_W) (hd : y.cls ≠ "java/lang/invoke/MethodHandle" ∧ y.cls ≠ "java/lang/invoke/VarHandle" ∧ (parseMethodDescriptor y.desc).map (fun d => d.parameters.length) = some n) (hR : rm.frames + 1 ≤ R.frames ∧ 8 + (maxL + 11) + rm.locals ≤ R.locals) :
    CallB R s args own index y bytes maxL ret (.code y bytes maxL ret :: xq_W) rm rm.cells rm.slots n := by
  refine ⟨rfl, rfl, hR.1, hR.2, fun w hw a' U hW => ?_, List.mem_cons_self, hts _ hc, hts _ hi, ⟨hd.1, hd.2.1⟩, fun sig h => ?_, hts _ hl⟩
  · have hw' : w ∈ xq_W := by
      rcases List.mem_cons.mp hw with h | h
      · rw [h]; exact hc
      · exact h
    exact word_at hW (xq_good hw') (hts w hw')
  · have h2 := hd.2.2
    rw [h] at h2
    exact (Option.some.inj h2).symm
theorem tb_1 : ∀ w, w ∈ tables_1_1 → w ∈ lw_tbl := fun w h => List.mem_append_right _ (List.mem_append_left _ h)
theorem tb_2 : ∀ w, w ∈ tables_1_2 → w ∈ lw_tbl := fun w h => List.mem_append_right _ (List.mem_append_right _ (List.mem_append_left _ h))
theorem tb_3 : ∀ w, w ∈ tables_1_3 → w ∈ lw_tbl := fun w h => List.mem_append_right _ (List.mem_append_right _ (List.mem_append_right _ (List.mem_append_left _ h)))
theorem tb_4 : ∀ w, w ∈ tables_1_4 → w ∈ lw_tbl := fun w h => List.mem_append_right _ (List.mem_append_right _ (List.mem_append_right _ (List.mem_append_right _ (List.mem_append_left _ h))))
theorem tb_5 : ∀ w, w ∈ tables_1_5 → w ∈ lw_tbl := fun w h => List.mem_append_right _ (List.mem_append_right _ (List.mem_append_right _ (List.mem_append_right _ (List.mem_append_right _ (List.mem_append_left _ h)))))
theorem tb_6 : ∀ w, w ∈ tables_1_6 → w ∈ lw_tbl := fun w h => List.mem_append_right _ (List.mem_append_right _ (List.mem_append_right _ (List.mem_append_right _ (List.mem_append_right _ (List.mem_append_right _ (h))))))
theorem tp_1 : ∀ q, q ∈ lw_privs_1 → q ∈ lw_privs := fun q h => List.mem_append_left _ h
theorem tp_2 : ∀ q, q ∈ lw_privs_2 → q ∈ lw_privs := fun q h => List.mem_append_right _ (List.mem_append_left _ h)
theorem tp_3 : ∀ q, q ∈ lw_privs_3 → q ∈ lw_privs := fun q h => List.mem_append_right _ (List.mem_append_right _ (List.mem_append_left _ h))
theorem tp_4 : ∀ q, q ∈ lw_privs_4 → q ∈ lw_privs := fun q h => List.mem_append_right _ (List.mem_append_right _ (List.mem_append_right _ (List.mem_append_left _ h)))
theorem tp_5 : ∀ q, q ∈ lw_privs_5 → q ∈ lw_privs := fun q h => List.mem_append_right _ (List.mem_append_right _ (List.mem_append_right _ (List.mem_append_right _ (List.mem_append_left _ h))))
theorem tp_6 : ∀ q, q ∈ lw_privs_6 → q ∈ lw_privs := fun q h => List.mem_append_right _ (List.mem_append_right _ (List.mem_append_right _ (List.mem_append_right _ (List.mem_append_right _ (List.mem_append_left _ h)))))
theorem tp_7 : ∀ q, q ∈ lw_privs_7 → q ∈ lw_privs := fun q h => List.mem_append_right _ (List.mem_append_right _ (List.mem_append_right _ (List.mem_append_right _ (List.mem_append_right _ (List.mem_append_right _ (h))))))
