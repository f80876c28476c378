theorem PF_tx {m : T_Mo} {tx : Nat → Int32} {sz : Int32} (h : PF m) : PF (((((tx, sz), (m.1.1.1.2.1, (m.1.1.1.2.2.1, m.1.1.1.2.2.2))), ((m.1.1.2.1.1, m.1.1.2.1.2), (m.1.1.2.2.1, (m.1.1.2.2.2.1, m.1.1.2.2.2.2)))), (((m.1.2.1.1.1, m.1.2.1.1.2), (m.1.2.1.2.1, (m.1.2.1.2.2.1, m.1.2.1.2.2.2))), ((m.1.2.2.1.1, (m.1.2.2.1.2.1, m.1.2.2.1.2.2)), (m.1.2.2.2.1, (m.1.2.2.2.2.1, m.1.2.2.2.2.2))))), ((((m.2.1.1.1.1, m.2.1.1.1.2), (m.2.1.1.2.1, (m.2.1.1.2.2.1, m.2.1.1.2.2.2))), ((m.2.1.2.1.1, m.2.1.2.1.2), (m.2.1.2.2.1, (m.2.1.2.2.2.1, m.2.1.2.2.2.2)))), (((m.2.2.1.1.1, m.2.2.1.1.2), (m.2.2.1.2.1, (m.2.2.1.2.2.1, m.2.2.1.2.2.2))), ((m.2.2.2.1.1, (m.2.2.2.1.2.1, m.2.2.2.1.2.2)), (m.2.2.2.2.1, (m.2.2.2.2.2.1, m.2.2.2.2.2.2)))))) := h
theorem SF_tx {m : T_Mo} {tx : Nat → Int32} {sz : Int32} (h : SF m) : SF (((((tx, sz), (m.1.1.1.2.1, (m.1.1.1.2.2.1, m.1.1.1.2.2.2))), ((m.1.1.2.1.1, m.1.1.2.1.2), (m.1.1.2.2.1, (m.1.1.2.2.2.1, m.1.1.2.2.2.2)))), (((m.1.2.1.1.1, m.1.2.1.1.2), (m.1.2.1.2.1, (m.1.2.1.2.2.1, m.1.2.1.2.2.2))), ((m.1.2.2.1.1, (m.1.2.2.1.2.1, m.1.2.2.1.2.2)), (m.1.2.2.2.1, (m.1.2.2.2.2.1, m.1.2.2.2.2.2))))), ((((m.2.1.1.1.1, m.2.1.1.1.2), (m.2.1.1.2.1, (m.2.1.1.2.2.1, m.2.1.1.2.2.2))), ((m.2.1.2.1.1, m.2.1.2.1.2), (m.2.1.2.2.1, (m.2.1.2.2.2.1, m.2.1.2.2.2.2)))), (((m.2.2.1.1.1, m.2.2.1.1.2), (m.2.2.1.2.1, (m.2.2.1.2.2.1, m.2.2.1.2.2.2))), ((m.2.2.2.1.1, (m.2.2.2.1.2.1, m.2.2.2.1.2.2)), (m.2.2.2.2.1, (m.2.2.2.2.2.1, m.2.2.2.2.2.2)))))) := h
theorem PF_w {m : T_Mo} {a b c : Int32} (h : PF m) : PF (((((m.1.1.1.1.1, m.1.1.1.1.2), (m.1.1.1.2.1, (m.1.1.1.2.2.1, m.1.1.1.2.2.2))), ((m.1.1.2.1.1, m.1.1.2.1.2), (m.1.1.2.2.1, (m.1.1.2.2.2.1, m.1.1.2.2.2.2)))), (((m.1.2.1.1.1, m.1.2.1.1.2), (m.1.2.1.2.1, (m.1.2.1.2.2.1, m.1.2.1.2.2.2))), ((m.1.2.2.1.1, (m.1.2.2.1.2.1, m.1.2.2.1.2.2)), (m.1.2.2.2.1, (m.1.2.2.2.2.1, m.1.2.2.2.2.2))))), ((((m.2.1.1.1.1, m.2.1.1.1.2), (m.2.1.1.2.1, (m.2.1.1.2.2.1, m.2.1.1.2.2.2))), ((m.2.1.2.1.1, m.2.1.2.1.2), (m.2.1.2.2.1, (m.2.1.2.2.2.1, m.2.1.2.2.2.2)))), (((m.2.2.1.1.1, m.2.2.1.1.2), (m.2.2.1.2.1, (m.2.2.1.2.2.1, m.2.2.1.2.2.2))), ((m.2.2.2.1.1, (m.2.2.2.1.2.1, a)), (b, (c, m.2.2.2.2.2.2)))))) := h
theorem SF_w {m : T_Mo} {a b c : Int32} (h : SF m) : SF (((((m.1.1.1.1.1, m.1.1.1.1.2), (m.1.1.1.2.1, (m.1.1.1.2.2.1, m.1.1.1.2.2.2))), ((m.1.1.2.1.1, m.1.1.2.1.2), (m.1.1.2.2.1, (m.1.1.2.2.2.1, m.1.1.2.2.2.2)))), (((m.1.2.1.1.1, m.1.2.1.1.2), (m.1.2.1.2.1, (m.1.2.1.2.2.1, m.1.2.1.2.2.2))), ((m.1.2.2.1.1, (m.1.2.2.1.2.1, m.1.2.2.1.2.2)), (m.1.2.2.2.1, (m.1.2.2.2.2.1, m.1.2.2.2.2.2))))), ((((m.2.1.1.1.1, m.2.1.1.1.2), (m.2.1.1.2.1, (m.2.1.1.2.2.1, m.2.1.1.2.2.2))), ((m.2.1.2.1.1, m.2.1.2.1.2), (m.2.1.2.2.1, (m.2.1.2.2.2.1, m.2.1.2.2.2.2)))), (((m.2.2.1.1.1, m.2.2.1.1.2), (m.2.2.1.2.1, (m.2.2.1.2.2.1, m.2.2.1.2.2.2))), ((m.2.2.2.1.1, (m.2.2.2.1.2.1, a)), (b, (c, m.2.2.2.2.2.2)))))) := h
theorem LR_w {k : T_Kw} {w : T_Wd} {nm : T_Nm} {nd : T_Nd} {m : T_Mo} {a b c : Int32} (h : LR k w nm nd m) : LR k w nm nd (((((m.1.1.1.1.1, m.1.1.1.1.2), (m.1.1.1.2.1, (m.1.1.1.2.2.1, m.1.1.1.2.2.2))), ((m.1.1.2.1.1, m.1.1.2.1.2), (m.1.1.2.2.1, (m.1.1.2.2.2.1, m.1.1.2.2.2.2)))), (((m.1.2.1.1.1, m.1.2.1.1.2), (m.1.2.1.2.1, (m.1.2.1.2.2.1, m.1.2.1.2.2.2))), ((m.1.2.2.1.1, (m.1.2.2.1.2.1, m.1.2.2.1.2.2)), (m.1.2.2.2.1, (m.1.2.2.2.2.1, m.1.2.2.2.2.2))))), ((((m.2.1.1.1.1, m.2.1.1.1.2), (m.2.1.1.2.1, (m.2.1.1.2.2.1, m.2.1.1.2.2.2))), ((m.2.1.2.1.1, m.2.1.2.1.2), (m.2.1.2.2.1, (m.2.1.2.2.2.1, m.2.1.2.2.2.2)))), (((m.2.2.1.1.1, m.2.2.1.1.2), (m.2.2.1.2.1, (m.2.2.1.2.2.1, m.2.2.1.2.2.2))), ((m.2.2.2.1.1, (m.2.2.2.1.2.1, a)), (b, (c, m.2.2.2.2.2.2)))))) := h
theorem fl_read {d dB : Nat} {st : T_St} {g : T_Gr} {pr : T_Pr} {nm : T_Nm} {nd : T_Nd} {w : T_Wd} {kw : T_Kw} {PC : Int32 → T_St × T_Gr × T_Nm × T_Nd × T_Wd × Nat × Nat → Prop} (h : wp_St_read d dB st g pr nm nd w kw PC) : ∃ r u, PC r u ∧ ((u.2.2.2.2.2.1 = 0 ∧ u.1.1 = 0) ∨ (u.2.2.2.2.2.1 = 1 ∧ u.1 = st)) := by
  unfold wp_St_read at h
  obtain ⟨r1, u1, -, qb⟩ := dt_Wd_split h
  replace h := qb _ h
  rcases fu_into h with ⟨nm', nd', g', w', h, f⟩ | ⟨u, h⟩
  · unfold wp_Pr_nodes wp_Nd_statements at h
    exact ⟨_, _, h, Or.inl ⟨rfl, rfl⟩⟩
  · unfold wp_Gr_wrongPlace at h
    exact ⟨_, _, h, Or.inr ⟨rfl, rfl⟩⟩
theorem fl_bar {st : T_St} {a : Int32} {P : Int32 → T_St → Prop} (h : wp_St_bar st a P) : ∃ r u, P r u ∧ u.1 = st.1 := by
  unfold wp_St_bar at h
  rcases br_el h with ⟨q, h⟩ | ⟨q, h⟩
  · exact ⟨_, _, h, rfl⟩
  · rcases br_el h with ⟨q1, h⟩ | ⟨q1, h⟩
    · exact ⟨_, _, h, rfl⟩
    · obtain ⟨r, u, -, B⟩ := dt_St_isBarred h
      rcases br_el (B _ h) with ⟨q2, h⟩ | ⟨q2, h⟩
      · exact ⟨_, _, h, rfl⟩
      · exact ⟨_, _, h, rfl⟩
set_option maxHeartbeats 1000000 in
/-- read, of both, with the page's room and flag -/
theorem rl_readP {d d' dB dB' : Nat} {k : T_Kw} {st : T_St} {g : T_Gr} {pr : T_Pr} {w : T_Wd} {nm nmH : T_Nm} {nd ndH : T_Nd} {m : T_Mo} (iw : I_Wd w) (lr : LR k w nmH ndH m) (sf : SF m) (pf : PF m) (PC : Int32 → T_St × T_Gr × T_Nm × T_Nd × T_Wd × Nat × Nat → Prop) (PM : Int32 → T_Mo → Prop) (hC : wp_St_read d dB st g pr nm nd w k PC) (hM : wp_Mo_read d' dB' m PM) : ∃ r u r' u', PC r u ∧ PM r' u' ∧ ((u.2.2.2.2.2.1 = 0 ∧ u.2.2.2.2.2.2 = 0 ∧ FN u.2.2.1 u.2.2.2.1 u' ∧ FU u.2.2.1 u.2.2.2.1 ∧ u.1.1 = 0) ∨ (u.2.2.2.2.2.1 = 1 ∧ u.2.2.2.2.2.2 = 1 ∧ FN nmH ndH u' ∧ u.1 = st)) ∧ SF u' ∧ PF u' ∧ u.2.2.2.2.1.1 = w.1 ∧ u'.1.1.1.1.1 = m.1.1.1.1.1 ∧ u'.1.1.1.1.2 = 0 := by
  have lr0 := lr
  obtain ⟨h1, h2, h3, h4, h5⟩ := lr
  obtain ⟨r, u, a, b⟩ := dt_St_read hC
  obtain ⟨r', u', a', b'⟩ := dt_Mo_read hM
  have c1 := a (fun x y => x = r ∧ y = u) ⟨rfl, rfl⟩
  have c2 := a' (fun x y => x = r' ∧ y = u') ⟨rfl, rfl⟩
  obtain ⟨r1, u1, r2, u2, ⟨-, e1⟩, ⟨-, e2⟩, k1, sf2, t1, t2, s0⟩ := rl_readC iw lr0 sf _ _ c1 c2
  subst e1 e2
  obtain ⟨r3, u3, ⟨-, e3⟩, k3⟩ := fl_read c1
  subst e3
  obtain ⟨r4, u4, ⟨-, e4⟩, k4⟩ := fy_read h5.1 (by rw [h3]; exact iw.1) (by rw [h3]; exact iw.2.1) c2
  subst e4
  obtain ⟨r5, st5, g5, nm5, nd5, w5, r6, m6, ⟨-, e6⟩, k6⟩ := rl_readH h1 h4 iw.1 iw.2.1 h2 h3 h5 c1 c2
  subst e6
  refine ⟨_, _, _, _, b _ hC, b' _ hM, ?_, sf2, ?_, t1, t2, s0⟩
  · rcases k1 with ⟨z1, z2, z3, z4⟩ | ⟨z1, z2, z3⟩
    · refine Or.inl ⟨z1, z2, z3, z4, ?_⟩
      rcases k3 with ⟨-, y⟩ | ⟨y, -⟩
      · exact y
      · rw [z1] at y; exact absurd y (by decide)
    · refine Or.inr ⟨z1, z2, z3, ?_⟩
      rcases k3 with ⟨y, -⟩ | ⟨-, y⟩
      · rw [z1] at y; exact absurd y (by decide)
      · exact y
  · rcases k6 with ⟨-, e⟩ | ⟨-, fo⟩
    · refine k4.resolve_left (fun z => ?_)
      rw [e] at z
      rcases h5.1 with q | q <;> rw [q] at z <;> exact absurd z (by decide)
    · exact PF_FO fo h5.1 pf
theorem rl_clearP {k : T_Kw} {st : T_St} {pr : T_Pr} {w : T_Wd} {nm : T_Nm} {nd : T_Nd} {m : T_Mo} (lr : LR k w nm nd m) (PC : Unit → T_St × T_Nm × T_Nd × T_Wd → Prop) (PM : Unit → T_Mo → Prop) (hC : wp_St_clear st pr nm nd w PC) (hM : wp_Mo_clear m PM) : ∃ r u r' u', PC r u ∧ PM r' u' ∧ LR k u.2.2.2 u.2.1 u.2.2.1 u' ∧ FU u.2.1 u.2.2.1 ∧ SF u' ∧ PF u' ∧ u.1.1 = 0 := by
  obtain ⟨h1, h2, h3, h4, h5⟩ := lr
  unfold wp_St_clear wp_Wd_forget wp_Pr_empty wp_Nm_empty wp_Nd_empty at hC
  unfold wp_Mo_clear at hM
  obtain ⟨n, hM⟩ := hM
  obtain ⟨b, y, hM⟩ := iv_clear_L n _ _ hM
  exact ⟨_, _, _, _, hC, hM, ⟨h1, h2, rfl, BTx_0 rfl, FN_0 h5.1 rfl rfl rfl rfl rfl rfl rfl⟩, FU_0 rfl rfl, SF_0 rfl rfl rfl, PF_0 rfl rfl, rfl⟩

