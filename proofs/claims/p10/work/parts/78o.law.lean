theorem FU_0 {nm : T_Nm} {nd : T_Nd} (a : nm.2.2.2.2 = 0) (b : nd.2.2.2.2.2.2.2.2.2.2.1 = 0) : FU nm nd := ⟨0, 0, a, by omega, b, by omega, fun i hi => absurd hi (Nat.not_lt_zero _), fun i hi => absurd hi (Nat.not_lt_zero _), fun i hi => absurd hi (Nat.not_lt_zero _), fun i hi => absurd hi (Nat.not_lt_zero _)⟩
theorem SF_0 {m : T_Mo} (a1 : m.2.1.2.2.2.2 = 0) (a2 : m.2.2.1.1.2 = 0) (a3 : m.2.2.1.1.1 = 0) : SF m := ⟨0, 0, 0, 0, a1, by omega, a2, by omega, a3, by omega, fun i hi => absurd hi (Nat.not_lt_zero _), fun i hi => absurd hi (Nat.not_lt_zero _)⟩
theorem SF_F {z u : T_Mo} (e1 : u.1 = z.1) (e2 : u.2.1 = z.2.1) (e3 : u.2.2.1 = z.2.2.1) (h : SF z) : SF u := by
  obtain ⟨z1, z2, z3, z4⟩ := z
  obtain ⟨u1, u2, u3, u4⟩ := u
  dsimp only at e1 e2 e3
  subst e1 e2 e3
  exact h
theorem iv_unitF {m : T_Mo} {a : Int32} {PM : Int32 → T_Mo → Prop} (h : wp_Mo_unit m a PM) : ∃ r tx sz, PM r (((((tx, sz), (m.1.1.1.2.1, (m.1.1.1.2.2.1, m.1.1.1.2.2.2))), ((m.1.1.2.1.1, m.1.1.2.1.2), (m.1.1.2.2.1, (m.1.1.2.2.2.1, m.1.1.2.2.2.2)))), (((m.1.2.1.1.1, m.1.2.1.1.2), (m.1.2.1.2.1, (m.1.2.1.2.2.1, m.1.2.1.2.2.2))), ((m.1.2.2.1.1, (m.1.2.2.1.2.1, m.1.2.2.1.2.2)), (m.1.2.2.2.1, (m.1.2.2.2.2.1, m.1.2.2.2.2.2))))), ((((m.2.1.1.1.1, m.2.1.1.1.2), (m.2.1.1.2.1, (m.2.1.1.2.2.1, m.2.1.1.2.2.2))), ((m.2.1.2.1.1, m.2.1.2.1.2), (m.2.1.2.2.1, (m.2.1.2.2.2.1, m.2.1.2.2.2.2)))), (((m.2.2.1.1.1, m.2.2.1.1.2), (m.2.2.1.2.1, (m.2.2.1.2.2.1, m.2.2.1.2.2.2))), ((m.2.2.2.1.1, (m.2.2.2.1.2.1, m.2.2.2.1.2.2)), (m.2.2.2.2.1, (m.2.2.2.2.2.1, m.2.2.2.2.2.2)))))) := by
  unfold wp_Mo_unit at h
  rcases br_el h with ⟨q, h⟩ | ⟨q, h⟩
  · exact ⟨_, m.1.1.1.1.1, m.1.1.1.1.2, h⟩
  · rcases br_el h with ⟨q1, h⟩ | ⟨q1, h⟩
    · exact ⟨_, m.1.1.1.1.1, m.1.1.1.1.2, h⟩
    · rcases br_el h with ⟨q2, h⟩ | ⟨q2, h⟩
      · exact ⟨_, m.1.1.1.1.1, m.1.1.1.1.2, h⟩
      · exact ⟨_, _, _, h.2⟩
set_option maxHeartbeats 2000000 in
/-- read, of both, with the halves -/
theorem rl_readH {d d' dB dB' : Nat} {st : T_St} {g : T_Gr} {pr : T_Pr} {nm nmH : T_Nm} {nd ndH : T_Nd} {w : T_Wd} {kw : T_Kw} {m : T_Mo} {PC : Int32 → T_St × T_Gr × T_Nm × T_Nd × T_Wd × Nat × Nat → Prop} {PM : Int32 → T_Mo → Prop} (hk : KWz kw) (bt : BTx w.1 w.2.2.2.2.2.1) (l0 : (0 : Int32) ≤ w.2.2.2.2.2.1) (l9 : w.2.2.2.2.2.1 ≤ 4000) (et : m.1.1.1.1.1 = w.1) (es : m.1.1.1.1.2 = w.2.2.2.2.2.1) (fn : FN nmH ndH m) (hC : wp_St_read d dB st g pr nm nd w kw PC) (hM : wp_Mo_read d' dB' m PM) : ∃ r st' g' nm' nd' w' r' m', PM r' m' ∧ ((PC r (st', g', nm', nd', w', 0, 0) ∧ m'.1.2.1.2.1 = (1 : Int32) - m.1.2.1.2.1) ∨ (PC r (st', g', nm', nd', w', 1, 1) ∧ FO m m')) := by
  unfold wp_St_read at hC
  obtain ⟨u, hC, -, -, v3, v4, v5, v6, v7, pl, ln, v8, v9, v10⟩ := rl_split m hk bt l0 l9 hC
  unfold wp_Mo_read at hM
  rcases rl_into (m := (((((m.1.1.1.1.1, m.1.1.1.1.2), ((0 : Int32), ((1 : Int32), m.1.1.1.2.2.2))), ((m.1.1.2.1.1, m.1.1.2.1.2), (m.1.1.2.2.1, (m.1.1.2.2.2.1, m.1.1.2.2.2.2)))), ((((-1 : Int32), (0 : Int32)), (m.1.2.1.2.1, ((0 : Int32), m.1.2.1.2.2.2))), ((m.1.2.2.1.1, (m.1.2.2.1.2.1, m.1.2.2.1.2.2)), (m.1.2.2.2.1, (m.1.2.2.2.2.1, m.1.2.2.2.2.2))))), (((((0 : Int32), m.2.1.1.1.2), ((0 : Int32), ((0 : Int32), m.2.1.1.2.2.2))), ((m.2.1.2.1.1, m.2.1.2.1.2), (m.2.1.2.2.1, (m.2.1.2.2.2.1, m.2.1.2.2.2.2)))), (((m.2.2.1.1.1, m.2.2.1.1.2), (m.2.2.1.2.1, (m.2.2.1.2.2.1, (0 : Int32)))), ((m.2.2.2.1.1, (m.2.2.2.1.2.1, m.2.2.2.1.2.2)), (m.2.2.2.2.1, (m.2.2.2.2.2.1, (0 : Int32)))))))) v3 v4 v5 v6 v7 v8 v9 v10 fn.1 et es rfl rfl rfl rfl rfl rfl rfl rfl hC hM with ⟨nm1, nd1, w1, m1, n, km, c, asc, g', w', hC, hM, t⟩ | ⟨u1, m1, hC, hM, fo⟩
  · have eh : m1.1.2.1.2.1 = m.1.2.1.2.1 := t.2.2.2.2.2.1
    obtain ⟨nm2, nd2, hC, f⟩ := rl_finish t hC
    unfold wp_Pr_nodes wp_Nd_statements at hC
    replace hM := hM.2 (by decide)
    refine ⟨_, _, _, _, _, _, _, _, hM, Or.inl ⟨hC, ?_⟩⟩
    show (1 : Int32) - m1.1.2.1.2.1 = _
    rw [eh]
  · unfold wp_Gr_wrongPlace at hC
    replace hM := hM.1 rfl
    have f2 : FO m (((((m1.1.1.1.1.1, (0 : Int32)), (m1.1.1.1.2.1, (m1.1.1.1.2.2.1, m1.1.1.1.2.2.2))), ((m1.1.1.2.1.1, m1.1.1.2.1.2), (m1.1.1.2.2.1, (m1.1.1.2.2.2.1, m1.1.1.2.2.2.2)))), (((m1.1.2.1.1.1, m1.1.2.1.1.2), (m1.1.2.1.2.1, (m1.1.2.1.2.2.1, m1.1.2.1.2.2.2))), ((m1.1.2.2.1.1, (m1.1.2.2.1.2.1, m1.1.2.2.1.2.2)), (m1.1.2.2.2.1, (m1.1.2.2.2.2.1, m1.1.2.2.2.2.2))))), ((((m1.2.1.1.1.1, m1.2.1.1.1.2), (m1.2.1.1.2.1, (m1.2.1.1.2.2.1, m1.2.1.1.2.2.2))), ((m1.2.1.2.1.1, m1.2.1.2.1.2), (m1.2.1.2.2.1, (m1.2.1.2.2.2.1, m1.2.1.2.2.2.2)))), (((m1.2.2.1.1.1, m1.2.2.1.1.2), (m1.2.2.1.2.1, (m1.2.2.1.2.2.1, m1.2.2.1.2.2.2))), ((m1.2.2.2.1.1, (m1.2.2.2.1.2.1, m1.2.2.2.1.2.2)), (m1.2.2.2.2.1, (m1.2.2.2.2.2.1, m1.2.2.2.2.2.2)))))) := fo
    exact ⟨_, _, _, _, _, _, _, _, hM, Or.inr ⟨hC, f2⟩⟩
theorem rl_readC {d d' dB dB' : Nat} {k : T_Kw} {st : T_St} {g : T_Gr} {pr : T_Pr} {w : T_Wd} {nm nmH : T_Nm} {nd ndH : T_Nd} {m : T_Mo} (iw : I_Wd w) (lr : LR k w nmH ndH m) (sf : SF m) (PC : Int32 → T_St × T_Gr × T_Nm × T_Nd × T_Wd × Nat × Nat → Prop) (PM : Int32 → T_Mo → Prop) (hC : wp_St_read d dB st g pr nm nd w k PC) (hM : wp_Mo_read d' dB' m PM) : ∃ r u r' u', PC r u ∧ PM r' u' ∧ ((u.2.2.2.2.2.1 = 0 ∧ u.2.2.2.2.2.2 = 0 ∧ FN u.2.2.1 u.2.2.2.1 u' ∧ FU u.2.2.1 u.2.2.2.1) ∨ (u.2.2.2.2.2.1 = 1 ∧ u.2.2.2.2.2.2 = 1 ∧ FN nmH ndH u')) ∧ SF u' ∧ u.2.2.2.2.1.1 = w.1 ∧ u'.1.1.1.1.1 = m.1.1.1.1.1 ∧ u'.1.1.1.1.2 = 0 := by
  have lr0 := lr
  obtain ⟨h1, h2, h3, h4, h5⟩ := lr
  obtain ⟨r, u, a, b⟩ := dt_St_read hC
  obtain ⟨r', u', a', b'⟩ := dt_Mo_read hM
  have c1 := a (fun x y => x = r ∧ y = u) ⟨rfl, rfl⟩
  have c2 := a' (fun x y => x = r' ∧ y = u') ⟨rfl, rfl⟩
  obtain ⟨r1, u1, r2, u2, ⟨-, e1⟩, ⟨-, e2⟩, k1, t1, t2, s0⟩ := rl_readLR iw lr0 _ _ c1 c2
  subst e1 e2
  obtain ⟨r3, u3, ⟨-, e3⟩, k3⟩ := fu_read c1
  subst e3
  obtain ⟨r4, u4, ⟨-, e4⟩, k4⟩ := fx_read h5.1 c2
  subst e4
  obtain ⟨r5, st5, g5, nm5, nd5, w5, r6, m6, ⟨-, e6⟩, k6⟩ := rl_readH h1 h4 iw.1 iw.2.1 h2 h3 h5 c1 c2
  subst e6
  refine ⟨_, _, _, _, b _ hC, b' _ hM, ?_, ?_, t1, t2, s0⟩
  · rcases k1 with ⟨z1, z2, z3⟩ | ⟨z1, z2, z3⟩
    · exact Or.inl ⟨z1, z2, z3, k3 z1⟩
    · exact Or.inr ⟨z1, z2, z3⟩
  · rcases k6 with ⟨-, e⟩ | ⟨-, fo⟩
    · refine k4.resolve_left (fun z => ?_)
      rw [e] at z
      rcases h5.1 with q | q <;> rw [q] at z <;> exact absurd z (by decide)
    · exact SF_FO fo h5.1 sf
theorem rl_clearC {k : T_Kw} {st : T_St} {pr : T_Pr} {w : T_Wd} {nm : T_Nm} {nd : T_Nd} {m : T_Mo} (lr : LR k w nm nd m) (PC : Unit → T_St × T_Nm × T_Nd × T_Wd → Prop) (PM : Unit → T_Mo → Prop) (hC : wp_St_clear st pr nm nd w PC) (hM : wp_Mo_clear m PM) : ∃ r u r' u', PC r u ∧ PM r' u' ∧ LR k u.2.2.2 u.2.1 u.2.2.1 u' ∧ FU u.2.1 u.2.2.1 ∧ SF u' := by
  obtain ⟨h1, h2, h3, h4, h5⟩ := lr
  unfold wp_St_clear wp_Wd_forget wp_Pr_empty wp_Nm_empty wp_Nd_empty at hC
  unfold wp_Mo_clear at hM
  obtain ⟨n, hM⟩ := hM
  obtain ⟨b, y, hM⟩ := iv_clear_L n _ _ hM
  exact ⟨_, _, _, _, hC, hM, ⟨h1, h2, rfl, BTx_0 rfl, FN_0 h5.1 rfl rfl rfl rfl rfl rfl rfl⟩, FU_0 rfl rfl, SF_0 rfl rfl rfl⟩

