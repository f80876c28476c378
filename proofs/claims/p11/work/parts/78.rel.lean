/-- two predicates of one outcome each, held together -/
theorem jnR {α β γ δ : Type} {WX : (α → β → Prop) → Prop} {WY : (γ → δ → Prop) → Prop} {S : α → β → Prop} {S' : γ → δ → Prop} {R : α → β → γ → δ → Prop} (dx : ∃ r u, (∀ post : α → β → Prop, post r u → WX post) ∧ (∀ post : α → β → Prop, WX post → post r u)) (dy : ∃ r u, (∀ post : γ → δ → Prop, post r u → WY post) ∧ (∀ post : γ → δ → Prop, WY post → post r u)) (hC : WX S) (hM : WY S') (rel : ∀ (PC : α → β → Prop) (PM : γ → δ → Prop), WX PC → WY PM → ∃ r u r' u', PC r u ∧ PM r' u' ∧ R r u r' u') : ∃ r u r' u', (∀ post : α → β → Prop, post r u → WX post) ∧ (∀ post : γ → δ → Prop, post r' u' → WY post) ∧ S r u ∧ S' r' u' ∧ R r u r' u' := by
  obtain ⟨r, u, a, b⟩ := dx
  obtain ⟨r', u', a', b'⟩ := dy
  obtain ⟨r1, u1, r2, u2, ⟨e1, e2⟩, ⟨e3, e4⟩, k⟩ := rel (fun x y => x = r ∧ y = u) (fun x y => x = r' ∧ y = u') (a _ ⟨rfl, rfl⟩) (a' _ ⟨rfl, rfl⟩)
  subst e1 e2 e3 e4
  exact ⟨_, _, _, _, a, a', b _ hC, b' _ hM, k⟩
/-- what the class shows and what the reference shows -/
def LR (k : T_Kw) (w : T_Wd) (nm : T_Nm) (nd : T_Nd) (m : T_Mo) : Prop := KWz k ∧ m.1.1.1.1.1 = w.1 ∧ m.1.1.1.1.2 = w.2.2.2.2.2.1 ∧ BTx w.1 w.2.2.2.2.2.1 ∧ FN nm nd m
theorem FN_F {nm : T_Nm} {nd : T_Nd} {z u : T_Mo} (e1 : u.1 = z.1) (e2 : u.2.1 = z.2.1) (e3 : u.2.2.1 = z.2.2.1) (h : FN nm nd z) : FN nm nd u := by
  obtain ⟨z1, z2, z3, z4⟩ := z
  obtain ⟨u1, u2, u3, u4⟩ := u
  dsimp only at e1 e2 e3
  subst e1 e2 e3
  exact h
theorem LR_F {k : T_Kw} {w : T_Wd} {nm : T_Nm} {nd : T_Nd} {z u : T_Mo} (e1 : u.1 = z.1) (e2 : u.2.1 = z.2.1) (e3 : u.2.2.1 = z.2.2.1) (h : LR k w nm nd z) : LR k w nm nd u := by
  obtain ⟨h1, h2, h3, h4, h5⟩ := h
  exact ⟨h1, by rw [e1]; exact h2, by rw [e1]; exact h3, h4, FN_F e1 e2 e3 h5⟩
theorem BTx_up {tx : Nat → Int32} {sz a : Int32} (bt : BTx tx sz) (s0 : (0 : Int32) ≤ sz) (s9 : sz < 4000) (h1 : ¬ a < 1) (h2 : ¬ (127 : Int32) < a) : BTx (upd tx sz.toNatClampNeg (vp_nar .byte (a).toInt8.toInt32)) (sz + 1) := by
  have b : 1 ≤ a.toInt ∧ a.toInt ≤ 127 := by
    rw [Int32.lt_iff_toInt_lt, show (1 : Int32).toInt = 1 from rfl] at h1
    rw [Int32.lt_iff_toInt_lt, show (127 : Int32).toInt = 127 from rfl] at h2
    omega
  have e8 : (a).toInt8.toInt32 = a := by
    apply Int32.toInt_inj.mp
    rw [Int8.toInt_toInt32, Int32.toInt_toInt8]
    exact Int.bmod_eq_of_le (by omega) (by omega)
  have e : vp_nar .byte (a).toInt8.toInt32 = a := by rw [vp_nar_byte, e8, e8]
  rw [e]
  intro p p0 p9
  by_cases q : p = sz
  · rw [q, upd_at]
    exact ⟨Int32.not_lt.mp h1, Int32.not_lt.mp h2⟩
  · have ne : p.toNatClampNeg ≠ sz.toNatClampNeg := ix_ne p0 s0 q
    rw [upd_ne ne]
    exact bt p p0 (by grind)
theorem rl_unit {k : T_Kw} {st : T_St} {w : T_Wd} {nm : T_Nm} {nd : T_Nd} {m : T_Mo} {a : Int32} {PC : Int32 → T_Wd → Prop} {PM : Int32 → T_Mo → Prop} (iw : I_Wd w) (lr : LR k w nm nd m) (hC : wp_St_unit st w a PC) (hM : wp_Mo_unit m a PM) : ∃ r u r' u', PC r u ∧ PM r' u' ∧ r = r' ∧ LR k u nm nd u' := by
  obtain ⟨h1, h2, h3, h4, h5⟩ := lr
  unfold wp_St_unit wp_Wd_append at hC
  unfold wp_Mo_unit at hM
  rcases br_el hC with ⟨q, hC⟩ | ⟨q, hC⟩
  · exact ⟨_, _, _, _, hC.2, hM.1 q, rfl, h1, h2, h3, h4, h5⟩
  · replace hM := hM.2 q
    rcases br_el hC with ⟨q1, hC⟩ | ⟨q1, hC⟩
    · exact ⟨_, _, _, _, hC.2, hM.1 q1, rfl, h1, h2, h3, h4, h5⟩
    · replace hM := hM.2 q1
      rcases br_el hC with ⟨q2, hC⟩ | ⟨q2, hC⟩
      · have ne : ¬ m.1.1.1.1.2 = 4000 := fun e => by rw [h3] at e; rw [e] at q2; exact absurd q2 (by decide)
        replace hM := (hM.2 ne).2
        refine ⟨_, _, _, _, hC.2.2, hM, rfl, h1, ?_, ?_, BTx_up h4 iw.1 q2 q q1, h5⟩
        · show upd m.1.1.1.1.1 m.1.1.1.1.2.toNatClampNeg (vp_nar .byte (a).toInt8.toInt32) = upd w.1 w.2.2.2.2.2.1.toNatClampNeg (vp_nar .byte (a).toInt8.toInt32)
          rw [h2, h3]
        · show m.1.1.1.1.2 + 1 = w.2.2.2.2.2.1 + 1
          rw [h3]
      · have e : m.1.1.1.1.2 = 4000 := by
          rw [h3]
          exact Int32.le_antisymm iw.2.1 (Int32.not_lt.mp q2)
        exact ⟨_, _, _, _, hC.2, hM.1 e, rfl, h1, h2, h3, h4, h5⟩
theorem rl_readLR {d d' dB dB' : Nat} {k : T_Kw} {st : T_St} {g : T_Gr} {pr : T_Pr} {w : T_Wd} {nm nmH : T_Nm} {nd ndH : T_Nd} {m : T_Mo} (iw : I_Wd w) (lr : LR k w nmH ndH m) (PC : Int32 → T_St × T_Gr × T_Nm × T_Nd × T_Wd × Nat × Nat → Prop) (PM : Int32 → T_Mo → Prop) (hC : wp_St_read d dB st g pr nm nd w k PC) (hM : wp_Mo_read d' dB' m PM) : ∃ r u r' u', PC r u ∧ PM r' u' ∧ ((u.2.2.2.2.2.1 = 0 ∧ u.2.2.2.2.2.2 = 0 ∧ FN u.2.2.1 u.2.2.2.1 u') ∨ (u.2.2.2.2.2.1 = 1 ∧ u.2.2.2.2.2.2 = 1 ∧ FN nmH ndH u')) ∧ u.2.2.2.2.1.1 = w.1 ∧ u'.1.1.1.1.1 = m.1.1.1.1.1 ∧ u'.1.1.1.1.2 = 0 := by
  obtain ⟨h1, h2, h3, h4, h5⟩ := lr
  obtain ⟨r, u, a, b⟩ := dt_St_read hC
  obtain ⟨r', u', a', b'⟩ := dt_Mo_read hM
  have c1 := a (fun x y => x = r ∧ y = u) ⟨rfl, rfl⟩
  have c2 := a' (fun x y => x = r' ∧ y = u') ⟨rfl, rfl⟩
  obtain ⟨x1, y1, ⟨-, e1⟩, f1⟩ := fw_St_read (T := w.1) rfl c1
  obtain ⟨x2, y2, ⟨-, e2⟩, f2⟩ := fm_Mo_read (T := m.1.1.1.1.1) rfl c2
  subst e1 e2
  obtain ⟨_, st', g', nm', nd', w', _, m', ⟨-, e3⟩, s0, k⟩ := rl_read h1 h4 iw.1 iw.2.1 h2 h3 h5 c1 c2
  subst e3
  refine ⟨_, _, _, _, b _ hC, b' _ hM, ?_, f1, f2, s0⟩
  rcases k with ⟨⟨-, e4⟩, f⟩ | ⟨⟨-, e4⟩, f⟩
  · subst e4; exact Or.inl ⟨rfl, rfl, f⟩
  · subst e4; exact Or.inr ⟨rfl, rfl, f⟩
theorem iv_barF {m : T_Mo} {a : Int32} {PM : Int32 → T_Mo → Prop} (h : wp_Mo_bar m a PM) : ∃ r b, PM r (((((m.1.1.1.1.1, m.1.1.1.1.2), (m.1.1.1.2.1, (m.1.1.1.2.2.1, m.1.1.1.2.2.2))), ((m.1.1.2.1.1, m.1.1.2.1.2), (m.1.1.2.2.1, (m.1.1.2.2.2.1, m.1.1.2.2.2.2)))), (((m.1.2.1.1.1, m.1.2.1.1.2), (m.1.2.1.2.1, (m.1.2.1.2.2.1, m.1.2.1.2.2.2))), ((m.1.2.2.1.1, (m.1.2.2.1.2.1, m.1.2.2.1.2.2)), (m.1.2.2.2.1, (m.1.2.2.2.2.1, m.1.2.2.2.2.2))))), ((((m.2.1.1.1.1, m.2.1.1.1.2), (m.2.1.1.2.1, (m.2.1.1.2.2.1, m.2.1.1.2.2.2))), ((m.2.1.2.1.1, m.2.1.2.1.2), (m.2.1.2.2.1, (m.2.1.2.2.2.1, m.2.1.2.2.2.2)))), (((m.2.2.1.1.1, m.2.2.1.1.2), (m.2.2.1.2.1, (m.2.2.1.2.2.1, m.2.2.1.2.2.2))), ((b, (m.2.2.2.1.2.1, m.2.2.2.1.2.2)), (m.2.2.2.2.1, (m.2.2.2.2.2.1, m.2.2.2.2.2.2)))))) := by
  unfold wp_Mo_bar at h
  rcases br_el h with ⟨q, h⟩ | ⟨q, h⟩
  · exact ⟨_, m.2.2.2.1.1, h⟩
  · rcases br_el h with ⟨q1, h⟩ | ⟨q1, h⟩
    · exact ⟨_, m.2.2.2.1.1, h⟩
    · replace h := h.2
      rcases br_el h with ⟨q2, h⟩ | ⟨q2, h⟩
      · exact ⟨_, _, h.2⟩
      · exact ⟨_, m.2.2.2.1.1, h⟩
theorem iv_clear_L {K : T_Mo → Int32 → Prop} {post : Unit → T_Mo → Prop} : ∀ (n : Nat) (z : T_Mo) (x : Int32), wp_Mo_clear_L22 K post n z x → ∃ b y, K (((((z.1.1.1.1.1, z.1.1.1.1.2), (z.1.1.1.2.1, (z.1.1.1.2.2.1, z.1.1.1.2.2.2))), ((z.1.1.2.1.1, z.1.1.2.1.2), (z.1.1.2.2.1, (z.1.1.2.2.2.1, z.1.1.2.2.2.2)))), (((z.1.2.1.1.1, z.1.2.1.1.2), (z.1.2.1.2.1, (z.1.2.1.2.2.1, z.1.2.1.2.2.2))), ((z.1.2.2.1.1, (z.1.2.2.1.2.1, z.1.2.2.1.2.2)), (z.1.2.2.2.1, (z.1.2.2.2.2.1, z.1.2.2.2.2.2))))), ((((z.2.1.1.1.1, z.2.1.1.1.2), (z.2.1.1.2.1, (z.2.1.1.2.2.1, z.2.1.1.2.2.2))), ((z.2.1.2.1.1, z.2.1.2.1.2), (z.2.1.2.2.1, (z.2.1.2.2.2.1, z.2.1.2.2.2.2)))), (((z.2.2.1.1.1, z.2.2.1.1.2), (z.2.2.1.2.1, (z.2.2.1.2.2.1, z.2.2.1.2.2.2))), ((b, (z.2.2.2.1.2.1, z.2.2.2.1.2.2)), (z.2.2.2.2.1, (z.2.2.2.2.2.1, z.2.2.2.2.2.2)))))) y := by
  intro n
  induction n with
  | zero => intro z x h; exact False.elim h
  | succ n ih =>
    intro z x h
    rw [wp_Mo_clear_L22] at h
    rcases br_el h with ⟨q, h⟩ | ⟨q, h⟩
    · exact ⟨z.2.2.2.1.1, _, h⟩
    · obtain ⟨b, y, h⟩ := ih _ _ h.2
      exact ⟨b, y, h⟩
theorem FN_0 {nm : T_Nm} {nd : T_Nd} {m : T_Mo} (hh : m.1.2.1.2.1 = 0 ∨ m.1.2.1.2.1 = 1) (a1 : nd.2.2.2.2.2.2.2.2.2.2.1 = 0) (a2 : m.2.1.2.2.2.2 = 0) (a3 : nm.2.2.2.2 = 0) (a4 : m.2.2.1.1.2 = 0) (a5 : m.2.2.1.1.1 = 0) (a6 : nd.2.2.2.2.2.2.2.2.2.2.2.2.1 = 0) (a7 : nd.2.2.2.2.2.2.2.2.2.2.2.1 = -1) : FN nm nd m := ⟨hh, 0, 0, 0, [], a1, a2, by omega, by omega, fun i hi => absurd hi (Nat.not_lt_zero _), a3, a4, by omega, fun i hi => absurd hi (Nat.not_lt_zero _), a5, Nat.le_refl _, a6, trivial, a7, fun k hk => absurd hk List.not_mem_nil, trivial, rfl, fun k hk => absurd hk List.not_mem_nil⟩
theorem BTx_0 {tx : Nat → Int32} {sz : Int32} (e : sz = 0) : BTx tx sz := fun p p0 p9 => absurd p9 (by rw [e]; exact Int32.not_lt.mpr p0)
theorem rl_clear {k : T_Kw} {st : T_St} {pr : T_Pr} {w : T_Wd} {nm : T_Nm} {nd : T_Nd} {m : T_Mo} (lr : LR k w nm nd m) (PC : Unit → T_St × T_Nm × T_Nd × T_Wd → Prop) (PM : Unit → T_Mo → Prop) (hC : wp_St_clear st pr nm nd w PC) (hM : wp_Mo_clear m PM) : ∃ r u r' u', PC r u ∧ PM r' u' ∧ LR k u.2.2.2 u.2.1 u.2.2.1 u' := by
  obtain ⟨h1, h2, h3, h4, h5⟩ := lr
  unfold wp_St_clear wp_Wd_forget wp_Pr_empty wp_Nm_empty wp_Nd_empty at hC
  unfold wp_Mo_clear at hM
  obtain ⟨n, hM⟩ := hM
  obtain ⟨b, y, hM⟩ := iv_clear_L n _ _ hM
  exact ⟨_, _, _, _, hC, hM, h1, h2, rfl, BTx_0 rfl, FN_0 h5.1 rfl rfl rfl rfl rfl rfl rfl⟩

