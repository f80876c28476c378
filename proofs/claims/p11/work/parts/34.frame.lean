theorem kw2_66 : (Jvm.Cond.methodLink "StepTextLaw" (13 : Nat) ({ cls := "StepText", name := "unit", desc := "(I)Z" } : Jvm.MethodName)) ∈ xq_W := xq_in tb_2 66 (by decide +kernel) rfl
theorem kw5_30 : (Jvm.Cond.methodLink "StepTextLaw" (17 : Nat) ({ cls := "StepTextModel", name := "unit", desc := "(I)Z" } : Jvm.MethodName)) ∈ xq_W := xq_in tb_5 30 (by decide +kernel) rfl
theorem kw2_74 : (Jvm.Cond.methodLink "StepTextLaw" (18 : Nat) ({ cls := "StepText", name := "read", desc := "()I" } : Jvm.MethodName)) ∈ xq_W := xq_in tb_2 74 (by decide +kernel) rfl
theorem kw5_34 : (Jvm.Cond.methodLink "StepTextLaw" (22 : Nat) ({ cls := "StepTextModel", name := "read", desc := "()I" } : Jvm.MethodName)) ∈ xq_W := xq_in tb_5 34 (by decide +kernel) rfl
theorem kw3_182 : (Jvm.Cond.methodLink "StepTextLaw" (23 : Nat) ({ cls := "StepText", name := "what", desc := "(I)I" } : Jvm.MethodName)) ∈ xq_W := xq_in tb_3 182 (by decide +kernel) rfl
theorem kw5_191 : (Jvm.Cond.methodLink "StepTextLaw" (27 : Nat) ({ cls := "StepTextModel", name := "what", desc := "(I)I" } : Jvm.MethodName)) ∈ xq_W := xq_in tb_5 191 (by decide +kernel) rfl
theorem kw3_187 : (Jvm.Cond.methodLink "StepTextLaw" (28 : Nat) ({ cls := "StepText", name := "child", desc := "(II)I" } : Jvm.MethodName)) ∈ xq_W := xq_in tb_3 187 (by decide +kernel) rfl
theorem kw5_203 : (Jvm.Cond.methodLink "StepTextLaw" (32 : Nat) ({ cls := "StepTextModel", name := "child", desc := "(II)I" } : Jvm.MethodName)) ∈ xq_W := xq_in tb_5 203 (by decide +kernel) rfl
theorem kw3_207 : (Jvm.Cond.methodLink "StepTextLaw" (33 : Nat) ({ cls := "StepText", name := "line", desc := "(I)I" } : Jvm.MethodName)) ∈ xq_W := xq_in tb_3 207 (by decide +kernel) rfl
theorem kw5_211 : (Jvm.Cond.methodLink "StepTextLaw" (36 : Nat) ({ cls := "StepTextModel", name := "line", desc := "(I)I" } : Jvm.MethodName)) ∈ xq_W := xq_in tb_5 211 (by decide +kernel) rfl
theorem kw3_212 : (Jvm.Cond.methodLink "StepTextLaw" (37 : Nat) ({ cls := "StepText", name := "number", desc := "(II)J" } : Jvm.MethodName)) ∈ xq_W := xq_in tb_3 212 (by decide +kernel) rfl
theorem kw5_215 : (Jvm.Cond.methodLink "StepTextLaw" (41 : Nat) ({ cls := "StepTextModel", name := "number", desc := "(II)J" } : Jvm.MethodName)) ∈ xq_W := xq_in tb_5 215 (by decide +kernel) rfl
theorem kw3_220 : (Jvm.Cond.methodLink "StepTextLaw" (42 : Nat) ({ cls := "StepText", name := "unitOf", desc := "(I)I" } : Jvm.MethodName)) ∈ xq_W := xq_in tb_3 220 (by decide +kernel) rfl
theorem kw5_220 : (Jvm.Cond.methodLink "StepTextLaw" (45 : Nat) ({ cls := "StepTextModel", name := "unitOf", desc := "(I)I" } : Jvm.MethodName)) ∈ xq_W := xq_in tb_5 220 (by decide +kernel) rfl
theorem kw3_225 : (Jvm.Cond.methodLink "StepTextLaw" (46 : Nat) ({ cls := "StepText", name := "bar", desc := "(I)Z" } : Jvm.MethodName)) ∈ xq_W := xq_in tb_3 225 (by decide +kernel) rfl
theorem kw5_224 : (Jvm.Cond.methodLink "StepTextLaw" (49 : Nat) ({ cls := "StepTextModel", name := "bar", desc := "(I)Z" } : Jvm.MethodName)) ∈ xq_W := xq_in tb_5 224 (by decide +kernel) rfl
theorem kw3_233 : (Jvm.Cond.methodLink "StepTextLaw" (50 : Nat) ({ cls := "StepText", name := "check", desc := "(II)I" } : Jvm.MethodName)) ∈ xq_W := xq_in tb_3 233 (by decide +kernel) rfl
theorem kw5_232 : (Jvm.Cond.methodLink "StepTextLaw" (53 : Nat) ({ cls := "StepTextModel", name := "check", desc := "(II)I" } : Jvm.MethodName)) ∈ xq_W := xq_in tb_5 232 (by decide +kernel) rfl
theorem kw4_13 : (Jvm.Cond.methodLink "StepTextLaw" (54 : Nat) ({ cls := "StepText", name := "branch", desc := "(II)I" } : Jvm.MethodName)) ∈ xq_W := xq_in tb_4 13 (by decide +kernel) rfl
theorem kw5_228 : (Jvm.Cond.methodLink "StepTextLaw" (57 : Nat) ({ cls := "StepTextModel", name := "branch", desc := "(II)I" } : Jvm.MethodName)) ∈ xq_W := xq_in tb_5 228 (by decide +kernel) rfl
theorem kw4_21 : (Jvm.Cond.methodLink "StepTextLaw" (58 : Nat) ({ cls := "StepText", name := "write", desc := "(I)I" } : Jvm.MethodName)) ∈ xq_W := xq_in tb_4 21 (by decide +kernel) rfl
theorem kw6_12 : (Jvm.Cond.methodLink "StepTextLaw" (61 : Nat) ({ cls := "StepTextModel", name := "write", desc := "(I)I" } : Jvm.MethodName)) ∈ xq_W := xq_in tb_6 12 (by decide +kernel) rfl
theorem kw4_131 : (Jvm.Cond.methodLink "StepTextLaw" (62 : Nat) ({ cls := "StepText", name := "clear", desc := "()V" } : Jvm.MethodName)) ∈ xq_W := xq_in tb_4 131 (by decide +kernel) rfl
theorem kw6_75 : (Jvm.Cond.methodLink "StepTextLaw" (65 : Nat) ({ cls := "StepTextModel", name := "clear", desc := "()V" } : Jvm.MethodName)) ∈ xq_W := xq_in tb_6 75 (by decide +kernel) rfl
theorem kw1_19 : (Jvm.Cond.instantiable "StepText" (7 : Nat)) ∈ xq_W := xq_in tb_1 19 (by decide +kernel) rfl
theorem kw4_138 : (Jvm.Cond.instantiable "StepTextModel" (42 : Nat)) ∈ xq_W := xq_in tb_4 138 (by decide +kernel) rfl
theorem kw1_18 : (Jvm.Cond.classLink "StepTextLaw" (7 : Nat) "StepText") ∈ xq_W := xq_in tb_1 18 (by decide +kernel) rfl
theorem kw1_20 : (Jvm.Cond.methodLink "StepTextLaw" (9 : Nat) ({ cls := "StepText", name := "<init>", desc := "()V" } : Jvm.MethodName)) ∈ xq_W := xq_in tb_1 20 (by decide +kernel) rfl
theorem kw4_137 : (Jvm.Cond.classLink "StepTextLaw" (10 : Nat) "StepTextModel") ∈ xq_W := xq_in tb_4 137 (by decide +kernel) rfl
theorem kw4_139 : (Jvm.Cond.methodLink "StepTextLaw" (12 : Nat) ({ cls := "StepTextModel", name := "<init>", desc := "()V" } : Jvm.MethodName)) ∈ xq_W := xq_in tb_4 139 (by decide +kernel) rfl
/-! OWN ROWS: a world as a list of units; a call's frame by units -/
def xq_fl : List va_W → va_W
  | [] => []
  | u :: us => u ++ xq_fl us
theorem xq_fl_app : ∀ (a b : List va_W), xq_fl (a ++ b) = xq_fl a ++ xq_fl b
  | [], b => rfl
  | u :: a, b => by
    show u ++ xq_fl (a ++ b) = (u ++ xq_fl a) ++ xq_fl b
    rw [xq_fl_app a b, List.append_assoc]
theorem xq_fl_perm {a b : List va_W} (h : a.Perm b) : (xq_fl a).Perm (xq_fl b) := by
  induction h with
  | nil => exact List.Perm.refl _
  | cons x _ ih => exact List.Perm.append_left x ih
  | swap x y l =>
    show (y ++ (x ++ xq_fl l)).Perm (x ++ (y ++ xq_fl l))
    rw [← List.append_assoc, ← List.append_assoc]
    exact List.Perm.append_right _ List.perm_append_comm
  | trans _ _ h1 h2 => exact h1.trans h2
theorem xq_Pp {D : va_G} {cl : List vw_C} {H : Heap} {ws ws' : va_W} (h : va_P D cl ws H) (hp : ws'.Perm ws) : va_P D cl ws' H := by
  intro k q hq
  have hm : q ∈ ws := hp.mem_iff.mp (List.mem_of_getElem? hq)
  obtain ⟨j, hj⟩ := List.getElem?_of_mem hm
  exact h j q hj
theorem xq_Dn {A : Nat → Prop} {ws : va_W} : va_D A ws ↔ (ws.map Prod.fst).Nodup ∧ ∀ q ∈ ws, A q.1 := by
  constructor
  · intro h
    refine ⟨?_, fun q hq => ?_⟩
    · unfold List.Nodup
      rw [List.pairwise_iff_getElem]
      intro i j hi hj hlt e
      have hi' : i < ws.length := by simpa using hi
      have hj' : j < ws.length := by simpa using hj
      rw [List.getElem_map, List.getElem_map] at e
      have := h.1 i j ws[i] ws[j] (List.getElem?_eq_getElem hi') (List.getElem?_eq_getElem hj') e
      omega
    · obtain ⟨j, hj⟩ := List.getElem?_of_mem hq
      exact h.2 j q hj
  · intro h
    obtain ⟨h1, h2⟩ := h
    refine ⟨fun i j p q hi hj e => ?_, fun k q hq => h2 q (List.mem_of_getElem? hq)⟩
    unfold List.Nodup at h1
    rw [List.pairwise_iff_getElem] at h1
    obtain ⟨hi', ei⟩ := List.getElem?_eq_some_iff.mp hi
    obtain ⟨hj', ej⟩ := List.getElem?_eq_some_iff.mp hj
    rcases Nat.lt_trichotomy i j with hl | hl | hl
    · exact absurd (by rw [List.getElem_map, List.getElem_map, ei, ej]; exact e) (h1 i j (by simpa using hi') (by simpa using hj') hl)
    · exact hl
    · exact absurd (by rw [List.getElem_map, List.getElem_map, ei, ej]; exact e.symm) (h1 j i (by simpa using hj') (by simpa using hi') hl)
theorem xq_Dp {A : Nat → Prop} {ws ws' : va_W} (h : va_D A ws) (hp : ws'.Perm ws) : va_D A ws' := xq_Dn.mpr ⟨((hp.map Prod.fst).nodup_iff).mpr (xq_Dn.mp h).1, fun q hq => (xq_Dn.mp h).2 q (hp.mem_iff.mp hq)⟩
theorem xq_mapr : ∀ (us : List va_W), (List.range us.length).map (fun i => us.getD i []) = us := by
  intro us
  refine List.ext_getElem (by simp) (fun i h1 h2 => ?_)
  simp [List.getD, h2]
theorem xq_toA {us : List va_W} {n : Nat} (hn : us.length = n) (isR isC : List Nat) (hp : (isR ++ isC).Perm (List.range n)) {wr w0 : va_W} (hr : xq_fl (isR.map (fun i => us.getD i [])) = wr) (h0 : xq_fl (isC.map (fun i => us.getD i [])) = w0) : (wr ++ w0).Perm (xq_fl us) := by
  subst hn; subst hr; subst h0
  have h := xq_fl_perm (hp.map (fun i => us.getD i []))
  rw [xq_mapr, List.map_append, xq_fl_app] at h
  exact h
theorem xq_toP {us : List va_W} {n : Nat} (hn : us.length = n) (is : List Nat) (hp : is.Perm (List.range n)) {us' : List va_W} (hr : is.map (fun i => us.getD i []) = us') : (xq_fl us').Perm (xq_fl us) := by
  subst hn; subst hr
  have h := xq_fl_perm (hp.map (fun i => us.getD i []))
  rw [xq_mapr] at h
  exact h
theorem xq_f1 (a : va_W) : xq_fl [a] = a := by simp [xq_fl]
theorem xq_f2 (a b : va_W) : xq_fl [a, b] = a ++ b := by simp [xq_fl]
theorem xq_f3 (a b c : va_W) : xq_fl [a, b, c] = a ++ b ++ c := by simp [xq_fl]
theorem xq_f4 (a b c d : va_W) : xq_fl [a, b, c, d] = a ++ b ++ c ++ d := by simp [xq_fl]
theorem xq_f5 (a b c d e : va_W) : xq_fl [a, b, c, d, e] = a ++ b ++ c ++ d ++ e := by simp [xq_fl]
theorem xq_f6 (a b c d e f : va_W) : xq_fl [a, b, c, d, e, f] = a ++ b ++ c ++ d ++ e ++ f := by simp [xq_fl]
theorem xq_f7 (a b c d e f g : va_W) : xq_fl [a, b, c, d, e, f, g] = a ++ b ++ c ++ d ++ e ++ f ++ g := by simp [xq_fl]
theorem xq_f12 (a b c d e f g h i j k l : va_W) : xq_fl [a, b, c, d, e, f, g, h, i, j, k, l] = a ++ b ++ c ++ d ++ e ++ f ++ g ++ h ++ i ++ j ++ k ++ l := by simp [xq_fl]
section XQU
variable {p : Program} {l : Launch} {o : State × Array Value} {e : Env} {R : Room} {s : State} {m : MethodId} {args : Array Value} {below : List Frame} {meth : Method} {c : Code} {H : Heap} {locs : List Loc} {cells slots : Nat} {Q : State → Prop}
variable {D : va_G} {cl : List vw_C} {w0 wr : va_W} {ρ S : Type} {val : ρ → Option Value} {post : ρ → S → Prop} {postT : S → Prop} {w1 : S → va_W} {mr nr mt nt : Nat} {pc : Nat} {ls : Array Slot} {rest : List Value} {A : Nat → Prop}
theorem xq_joinA {H1 : Heap} {w2 : va_W} (hP : va_P D cl (wr ++ w0) H) (hD : va_D A (wr ++ w0)) (hk : ∀ q : Nat, q < H.size → ¬ va_A w0 H.size q → H1[q]? = H[q]?) (hF : ∀ q, va_A w0 H.size q → A q) (hP1 : va_P D cl w2 H1) (hD1 : va_D (va_A w0 H.size) w2) : va_P D cl (wr ++ w2) H1 ∧ va_D A (wr ++ w2) := by
  have inl : ∀ (k : Nat) (q : Nat × va_E), wr[k]? = some q → (wr ++ w0)[k]? = some q := fun k q hq => by rw [List.getElem?_append_left (List.getElem?_eq_some_iff.mp hq).1]; exact hq
  have apart : ∀ (k : Nat) (q : Nat × va_E), wr[k]? = some q → q.1 < H.size ∧ ¬ va_A w0 H.size q.1 := by
    intro k q hq
    have hkl : k < wr.length := (List.getElem?_eq_some_iff.mp hq).1
    have hl := (hP k q (inl k q hq)).lt
    refine ⟨hl, fun h => ?_⟩
    rcases h with ⟨k2, e, h⟩ | h
    · have h4 : (wr ++ w0)[wr.length + k2]? = some (q.1, e) := by rw [List.getElem?_append_right (by omega)]; simpa using h
      have hij := hD.1 k (wr.length + k2) q (q.1, e) (inl k q hq) h4 rfl
      omega
    · omega
  have hDr : va_D A wr := ⟨fun i j x y hi hj h => hD.1 i j x y (inl i x hi) (inl j y hj) h, fun k q hq => hD.2 k q (inl k q hq)⟩
  refine ⟨va_P.app (fun k q hq => ?_) hP1, va_D.app hDr (hD1.weaken (fun k q _ h => hF q.1 h)) (fun i j x y hx hy hxy => ?_)⟩
  · obtain ⟨g1, g2⟩ := apart k q hq
    exact (hP k q (inl k q hq)).kept (hk q.1 g1 g2)
  · exact (apart i x hx).2 (by rw [hxy]; exact hD1.2 j y hy)
theorem xq_goA {st0 : List Value} (hr : va_P D cl w0 H → (∀ q, va_A w0 H.size q → A q) → va_D (fun _ => True) w0 → xq_Run p l e R s m args below meth c H locs cells slots D cl w0 val post postT w1 mr nr mt nt pc ls st0 rest) (hP : va_P D cl (wr ++ w0) H) (hD : va_D A (wr ++ w0)) (hS : va_S A s.heap H locs) (hA : ∀ q, s.heap.size ≤ q → A q) {stk : ρ → List Value} (hstk : ∀ r, (val r).toList ++ rest = stk r)
    (kr : ∀ (r : ρ) (u : S) (H1 : Heap) (locs1 : List Loc), post r u → va_P D cl (wr ++ w1 u) H1 → va_D A (wr ++ w1 u) → va_S A s.heap H1 locs1 → W p l e R s m args below meth c H1 locs1 (cells + mr) (slots + nr) Q (F0 m (pc + 3) ls (stk r)))
    (kt : ∀ (x : Addr) (u : S) (H1 : Heap) (locs1 : List Loc), postT u → va_P D cl (wr ++ w1 u) H1 → va_D A (wr ++ w1 u) → va_S A s.heap H1 locs1 → xq_Ex x s.vm H1 → xq_T p l e R s m args below meth c H1 locs1 (cells + mt) (slots + nt) Q (F0 m pc ls rest) x) : W p l e R s m args below meth c H locs cells slots Q (F0 m pc ls st0) := by
  have inr : ∀ (k : Nat) (q : Nat × va_E), w0[k]? = some q → (wr ++ w0)[wr.length + k]? = some q := fun k q hq => by rw [List.getElem?_append_right (by omega)]; simpa using hq
  have hF : ∀ q, va_A w0 H.size q → A q := by
    intro q h
    rcases h with ⟨k, e, h⟩ | h
    · exact hD.2 _ _ (inr k _ h)
    · exact hA q (Nat.le_trans hS.1 h)
  have hD0 : va_D (fun _ => True) w0 := ⟨fun i j x y hi hj h => by have := hD.1 _ _ x y (inr i x hi) (inr j y hj) h; omega, fun _ _ _ => trivial⟩
  intro T hT X
  obtain ⟨u, T', L, f1, f2, f3, f4, f5, f6⟩ := hr (fun k q hq => hP _ q (inr k q hq)) hF hD0 T hT X
  obtain ⟨j1, j2⟩ := xq_joinA hP hD f2 hF f3 f4
  have hS' : va_S A s.heap T'.heap (locs ++ L) := by
    refine ⟨Nat.le_trans hS.1 f1, fun q g1 g2 => ?_, fun q hq => ?_⟩
    · rw [f2 q (Nat.lt_of_lt_of_le g1 hS.1) (fun h => g2 (hF q h))]
      exact hS.2.1 q g1 g2
    · rcases List.mem_append.mp hq with h | h
      · exact hS.2.2 q h
      · exact hF _ (f5 q h)
  rcases f6 with ⟨r, hp, X', hst⟩ | ⟨x, hp, hE, X', hst⟩
  · obtain ⟨t, a1, b1⟩ := kr r u _ _ hp j1 j2 hS' T' rfl X'
    refine ⟨t, hst t ?_, b1⟩
    rw [hstk]
    exact a1
  · obtain ⟨t, a1, b1⟩ := kt x u _ _ hp j1 j2 hS' hE T' rfl X'
    exact ⟨t, hst t a1, b1⟩
end XQU

