theorem un_rel {a s z r1 r2 s' z' : Int32} (z9 : z ≤ 4000) (e : s = z) (q1 : (((1 : Int32) ≤ a ∧ a ≤ 127 ∧ s < 4000) ∧ r1 = 1 ∧ s' = s + 1) ∨ (¬ ((1 : Int32) ≤ a ∧ a ≤ 127 ∧ s < 4000) ∧ r1 = 0 ∧ s' = s)) (q2 : (((1 : Int32) ≤ a ∧ a ≤ 127 ∧ ¬ z = 4000) ∧ r2 = 1 ∧ z' = z + 1) ∨ (¬ ((1 : Int32) ≤ a ∧ a ≤ 127 ∧ ¬ z = 4000) ∧ r2 = 0 ∧ z' = z)) : r1 = r2 ∧ s' = z' := by
  subst e
  rcases q1 with ⟨⟨a1, a2, a3⟩, e1, e2⟩ | ⟨n1, e1, e2⟩ <;> rcases q2 with ⟨⟨b1, b2, b3⟩, e3, e4⟩ | ⟨n2, e3, e4⟩
  · exact ⟨by rw [e1, e3], by rw [e2, e4]⟩
  · exact absurd ⟨a1, a2, fun q => by rw [q] at a3; exact absurd a3 (by decide)⟩ n2
  · exact absurd ⟨b1, b2, by rcases Int32.le_iff_lt_or_eq.mp z9 with h | h; exact h; exact absurd h b3⟩ n1
  · exact ⟨by rw [e1, e3], by rw [e2, e4]⟩
theorem s_Mo_unitE {z_this : T_Mo} {a1 : Int32} {post : Int32 → T_Mo → Prop} (p0 : Fin z_this) (hp : ∀ r u, (Fin u ∧ ((((1 : Int32) ≤ a1 ∧ a1 ≤ 127 ∧ ¬ z_this.1.1.1.1.2 = 4000) ∧ r = 1 ∧ u.1.1.1.1.2 = z_this.1.1.1.1.2 + 1) ∨ (¬ ((1 : Int32) ≤ a1 ∧ a1 ≤ 127 ∧ ¬ z_this.1.1.1.1.2 = 4000) ∧ r = 0 ∧ u.1.1.1.1.2 = z_this.1.1.1.1.2)) ∧ u.2.2.2.1.1 = z_this.2.2.2.1.1) → post r u) : wp_Mo_unit z_this a1 post := by
  unfold wp_Mo_unit
  have i1 := p0.1
  unfold I_Mo at i1
  refine ⟨fun h0 => hp _ _ ⟨p0, Or.inr (by grind), rfl⟩, fun h1 => ⟨fun h2 => hp _ _ ⟨p0, Or.inr (by grind), rfl⟩, fun h3 => ⟨fun h4 => hp _ _ ⟨p0, Or.inr (by grind), rfl⟩, fun h5 => ⟨vin (c := 4000) (by grind) (by grind) rfl, hp _ _ ⟨⟨⟨?_, ?_, i1.2.2⟩, p0.2⟩, Or.inl ⟨⟨by grind, by grind, h5⟩, rfl, rfl⟩, rfl⟩⟩⟩⟩⟩
  · show (0 : Int32) ≤ z_this.1.1.1.1.2 + 1
    grind
  · show z_this.1.1.1.1.2 + 1 ≤ 4000
    grind
theorem s_Mo_barE {z_this : T_Mo} {a1 : Int32} {post : Int32 → T_Mo → Prop} (p0 : Fin z_this) (hp : ∀ r u, (Fin u ∧ u.1.1.1.1.2 = z_this.1.1.1.1.2 ∧ ((((0 : Int32) ≤ a1 ∧ a1 < 64 ∧ z_this.2.2.2.1.1 (a1).toNatClampNeg = 0) ∧ r = 1 ∧ u.2.2.2.1.1 = upd z_this.2.2.2.1.1 (a1).toNatClampNeg (vp_nar .boolean (1 : Int32))) ∨ (¬ ((0 : Int32) ≤ a1 ∧ a1 < 64 ∧ z_this.2.2.2.1.1 (a1).toNatClampNeg = 0) ∧ r = 0 ∧ u.2.2.2.1.1 = z_this.2.2.2.1.1))) → post r u) : wp_Mo_bar z_this a1 post := by
  unfold wp_Mo_bar
  refine ⟨fun h0 => hp _ _ ⟨p0, rfl, Or.inr ⟨by grind, rfl, rfl⟩⟩, fun h1 => ⟨fun h2 => hp _ _ ⟨p0, rfl, Or.inr ⟨by grind, rfl, rfl⟩⟩, fun h3 => ⟨vin (c := 64) (by grind) (by grind) rfl, fun h4 => ?_, fun h5 => ?_⟩⟩⟩
  · exact ⟨vin (c := 64) (by grind) (by grind) rfl, hp _ _ ⟨p0, rfl, Or.inl ⟨⟨by grind, by grind, h4⟩, rfl, rfl⟩⟩⟩
  · exact hp _ _ ⟨p0, rfl, Or.inr ⟨by grind, rfl, rfl⟩⟩
def FrB (e z : T_Mo) : Prop := z.1 = e.1 ∧ z.2.1 = e.2.1 ∧ z.2.2.1 = e.2.2.1 ∧ z.2.2.2.1.2 = e.2.2.2.1.2 ∧ z.2.2.2.2 = e.2.2.2.2
theorem l_clearE {e0 : T_Mo} {K : T_Mo → Int32 → Prop} {post : Unit → T_Mo → Prop} (hK : ∀ z x, FrB e0 z → (∀ i : Int32, (0 : Int32) ≤ i → i < 64 → z.2.2.2.1.1 i.toNatClampNeg = 0) → K z x) : ∀ (n9 : Nat) (z : T_Mo) (x1 : Int32), FrB e0 z → (∀ i : Int32, (0 : Int32) ≤ i → i < x1 → z.2.2.2.1.1 i.toNatClampNeg = 0) → (0 : Int32) ≤ x1 → x1 ≤ 64 → (64 : Int32).toInt - x1.toInt < ((n9 : Nat) : Int) → wp_Mo_clear_L22 K post n9 z x1 := by
  intro n9
  induction n9 with
  | zero => intro z x1 _ _ _ i1 hm; exact (i_meas0 i1 hm).elim
  | succ n9 ih =>
    intro z x1 f b i0 i1 hm
    rw [wp_Mo_clear_L22]
    refine ⟨fun h => hK _ _ f (fun i i0 i9 => b i i0 (by grind)), fun h => ⟨vin (c := 64) i0 (by grind) rfl, ih _ _ ?_ ?_ (by grind) (by grind) (i_meas i0 (by grind) hm)⟩⟩
    · exact ⟨f.1, f.2.1, f.2.2.1, f.2.2.2.1, f.2.2.2.2⟩
    · intro i j0 j9
      show upd z.2.2.2.1.1 x1.toNatClampNeg (vp_nar .boolean (0 : Int32)) i.toNatClampNeg = 0
      by_cases e : i = x1
      · subst e; rw [upd_at]; decide
      · rw [upd_ne (ix_ne j0 i0 e)]; exact b i j0 (by grind)
theorem s_Mo_clearE {z_this : T_Mo} {post : Unit → T_Mo → Prop} (p0 : Fin z_this) (hp : ∀ r u, (Fin u ∧ u.1.1.1.1.2 = 0 ∧ (∀ i : Int32, (0 : Int32) ≤ i → i < 64 → u.2.2.2.1.1 i.toNatClampNeg = 0)) → post r u) : wp_Mo_clear z_this post := by
  unfold wp_Mo_clear
  have i1 := p0.1
  unfold I_Mo at i1
  refine ⟨100, l_clearE (fun z x f b => hp _ _ ⟨?_, ?_, b⟩) 100 _ _ ⟨rfl, rfl, rfl, rfl, rfl⟩ (fun i i0 i9 => absurd i9 (by grind)) (by decide) (by decide) (by decide)⟩
  · obtain ⟨f1, f2, f3, f4, f5⟩ := f
    refine ⟨?_, ⟨0, by decide, by decide, ⟨fun i i0 i1 => ?_, fun i i0 i1 => ?_, fun i i0 i1 => ?_⟩⟩, fun i i0 i1 => ?_⟩
    · unfold I_Mo; grind
    · exfalso; grind
    · exfalso; grind
    · exfalso; grind
    · exfalso; grind
  · obtain ⟨f1, f2, f3, f4, f5⟩ := f
    grind
def INV (z_x : T_St) (z_xk : T_Kw) (z_xw : T_Wd) (z_xpn : T_Nm) (z_xpd : T_Nd) (z_xpg : T_Pg) (z_m : T_Mo) : Prop := I_Wd z_xw ∧ I_Nm z_xpn ∧ I_Nd z_xpd ∧ I_Pg z_xpg ∧ Fin z_m ∧ LR z_xk z_xw z_xpn z_xpd z_m
set_option maxHeartbeats 1000000 in
theorem i_op0 {xs : Nat → Int32} {L : Nat} {K : T_St → T_Kw → T_Wd → T_Nm → T_Nd → T_Nm → T_Nd → T_Gr → T_Pg → T_Mo → Int32 → Prop} {z_x : T_St} {z_xk : T_Kw} {z_xw : T_Wd} {z_xpn : T_Nm} {z_xpd : T_Nd} {z_xqn : T_Nm} {z_xqd : T_Nd} {z_xg : T_Gr} {z_xpg : T_Pg} {z_m : T_Mo} {x3 : Int32} (h : INV z_x z_xk z_xw z_xpn z_xpd z_xpg z_m) (v1 : vp_in (x3 + (1 : Int32)) L) (v2 : vp_in (x3 + (2 : Int32)) L) (hK : ∀ a b c d e f g h i j, INV a b c d e i j → K a b c d e f g h i j (x3 + (3 : Int32))) : wp_op0 xs L K z_x z_xk z_xw z_xpn z_xpd z_xqn z_xqd z_xg z_xpg z_m x3 := by
  obtain ⟨hw, hn, hd, hg, hm, hr⟩ := h
  unfold wp_op0
  have h1 : wp_St_unit z_x z_xw (xs ((x3 + (1 : Int32))).toNatClampNeg) (fun _ u => I_Wd u) := s_St_unit hw (fun r u q => q.1)
  have h2 : wp_Mo_unit z_m (xs ((x3 + (1 : Int32))).toNatClampNeg) (fun _ u => Fin u) := s_Mo_unitE hm (fun r u q => q.1)
  obtain ⟨r, u, r', u', A, A', s, s', e, l⟩ := jnR (WX := wp_St_unit z_x z_xw (xs ((x3 + (1 : Int32))).toNatClampNeg)) (WY := wp_Mo_unit z_m (xs ((x3 + (1 : Int32))).toNatClampNeg)) (R := fun r u r' u' => r = r' ∧ LR z_xk u z_xpn z_xpd u') (dt_St_unit h1) (dt_Mo_unit h2) h1 h2 (fun PC PM hC hM => rl_unit hw hr hC hM)
  exact ⟨v1, A _ ⟨v1, A' _ (hK _ _ _ _ _ _ _ _ _ _ ⟨s, hn, hd, hg, s', l⟩)⟩⟩
set_option maxHeartbeats 1000000 in
theorem i_op1 {xs : Nat → Int32} {L : Nat} {K : T_St → T_Kw → T_Wd → T_Nm → T_Nd → T_Nm → T_Nd → T_Gr → T_Pg → T_Mo → Int32 → Prop} {z_x : T_St} {z_xk : T_Kw} {z_xw : T_Wd} {z_xpn : T_Nm} {z_xpd : T_Nd} {z_xqn : T_Nm} {z_xqd : T_Nd} {z_xg : T_Gr} {z_xpg : T_Pg} {z_m : T_Mo} {x3 : Int32} (h : INV z_x z_xk z_xw z_xpn z_xpd z_xpg z_m) (v1 : vp_in (x3 + (1 : Int32)) L) (v2 : vp_in (x3 + (2 : Int32)) L) (hK : ∀ a b c d e f g h i j, INV a b c d e i j → K a b c d e f g h i j (x3 + (3 : Int32))) : wp_op1 xs L K z_x z_xk z_xw z_xpn z_xpd z_xqn z_xqd z_xg z_xpg z_m x3 := by
  obtain ⟨hw, hn, hd, hg, hm, hr⟩ := h
  unfold wp_op1
  have h1 : wp_St_read 62 62 z_x z_xg () z_xqn z_xqd z_xw z_xk (fun _ u => I_Nm u.2.2.1 ∧ I_Nd u.2.2.2.1 ∧ I_Wd0 u.2.2.2.2.1) := s_St_read s_Gr_readFactor62 s_Gr_readBlock62 hw (fun r u q => ⟨q.1, q.2.1, q.2.2.1⟩)
  have h2 : wp_Mo_read 62 62 z_m (fun _ u => Fin u) := s_Mo_read (fun g => s_Mo_factor62) (fun g => s_Mo_block62) hm (fun r u q => q.1)
  obtain ⟨r, u, r', u', A, A', s, s', k, t1, t2, s0⟩ := jnR (WX := wp_St_read 62 62 z_x z_xg () z_xqn z_xqd z_xw z_xk) (WY := wp_Mo_read 62 62 z_m) (dt_St_read h1) (dt_Mo_read h2) h1 h2 (rl_readLR hw hr)
  refine A _ (A' _ ?_)
  obtain ⟨s1, s2, s3, s4⟩ := s
  rcases k with ⟨e1, e2, f⟩ | ⟨e1, e2, f⟩
  · exact Or.inl ⟨e1, e2, hK _ _ _ _ _ _ _ _ _ _ ⟨s3, s1, s2, hg, s', ⟨hr.1, (t2.trans hr.2.1).trans t1.symm, s0.trans s4.symm, BTx_0 s4, f⟩⟩⟩
  · exact Or.inr ⟨e1, e2, hK _ _ _ _ _ _ _ _ _ _ ⟨s3, hn, hd, hg, s', ⟨hr.1, (t2.trans hr.2.1).trans t1.symm, s0.trans s4.symm, BTx_0 s4, f⟩⟩⟩
set_option maxHeartbeats 1000000 in
theorem i_op2 {xs : Nat → Int32} {L : Nat} {K : T_St → T_Kw → T_Wd → T_Nm → T_Nd → T_Nm → T_Nd → T_Gr → T_Pg → T_Mo → Int32 → Prop} {z_x : T_St} {z_xk : T_Kw} {z_xw : T_Wd} {z_xpn : T_Nm} {z_xpd : T_Nd} {z_xqn : T_Nm} {z_xqd : T_Nd} {z_xg : T_Gr} {z_xpg : T_Pg} {z_m : T_Mo} {x3 : Int32} (h : INV z_x z_xk z_xw z_xpn z_xpd z_xpg z_m) (v1 : vp_in (x3 + (1 : Int32)) L) (v2 : vp_in (x3 + (2 : Int32)) L) (hK : ∀ a b c d e f g h i j, INV a b c d e i j → K a b c d e f g h i j (x3 + (3 : Int32))) : wp_op2 xs L K z_x z_xk z_xw z_xpn z_xpd z_xqn z_xqd z_xg z_xpg z_m x3 := by
  obtain ⟨hw, hn, hd, hg, hm, hr⟩ := h
  unfold wp_op2
  exact ⟨v1, s_St_what (fun _ _ _ => ⟨v1, s_Mo_what hm.1 (fun _ _ _ => hK _ _ _ _ _ _ _ _ _ _ ⟨hw, hn, hd, hg, hm, hr⟩)⟩)⟩
set_option maxHeartbeats 1000000 in
theorem i_op3 {xs : Nat → Int32} {L : Nat} {K : T_St → T_Kw → T_Wd → T_Nm → T_Nd → T_Nm → T_Nd → T_Gr → T_Pg → T_Mo → Int32 → Prop} {z_x : T_St} {z_xk : T_Kw} {z_xw : T_Wd} {z_xpn : T_Nm} {z_xpd : T_Nd} {z_xqn : T_Nm} {z_xqd : T_Nd} {z_xg : T_Gr} {z_xpg : T_Pg} {z_m : T_Mo} {x3 : Int32} (h : INV z_x z_xk z_xw z_xpn z_xpd z_xpg z_m) (v1 : vp_in (x3 + (1 : Int32)) L) (v2 : vp_in (x3 + (2 : Int32)) L) (hK : ∀ a b c d e f g h i j, INV a b c d e i j → K a b c d e f g h i j (x3 + (3 : Int32))) : wp_op3 xs L K z_x z_xk z_xw z_xpn z_xpd z_xqn z_xqd z_xg z_xpg z_m x3 := by
  obtain ⟨hw, hn, hd, hg, hm, hr⟩ := h
  unfold wp_op3
  exact ⟨v1, v2, s_St_child (fun _ _ _ => ⟨v1, v2, s_Mo_child hm (fun _ _ _ => hK _ _ _ _ _ _ _ _ _ _ ⟨hw, hn, hd, hg, hm, hr⟩)⟩)⟩
set_option maxHeartbeats 1000000 in
theorem i_op4 {xs : Nat → Int32} {L : Nat} {K : T_St → T_Kw → T_Wd → T_Nm → T_Nd → T_Nm → T_Nd → T_Gr → T_Pg → T_Mo → Int32 → Prop} {z_x : T_St} {z_xk : T_Kw} {z_xw : T_Wd} {z_xpn : T_Nm} {z_xpd : T_Nd} {z_xqn : T_Nm} {z_xqd : T_Nd} {z_xg : T_Gr} {z_xpg : T_Pg} {z_m : T_Mo} {x3 : Int32} (h : INV z_x z_xk z_xw z_xpn z_xpd z_xpg z_m) (v1 : vp_in (x3 + (1 : Int32)) L) (v2 : vp_in (x3 + (2 : Int32)) L) (hK : ∀ a b c d e f g h i j, INV a b c d e i j → K a b c d e f g h i j (x3 + (3 : Int32))) : wp_op4 xs L K z_x z_xk z_xw z_xpn z_xpd z_xqn z_xqd z_xg z_xpg z_m x3 := by
  obtain ⟨hw, hn, hd, hg, hm, hr⟩ := h
  unfold wp_op4
  exact ⟨v1, s_St_line (fun _ _ _ => ⟨v1, s_Mo_line hm.1 (fun _ _ _ => hK _ _ _ _ _ _ _ _ _ _ ⟨hw, hn, hd, hg, hm, hr⟩)⟩)⟩
set_option maxHeartbeats 1000000 in
theorem i_op5 {xs : Nat → Int32} {L : Nat} {K : T_St → T_Kw → T_Wd → T_Nm → T_Nd → T_Nm → T_Nd → T_Gr → T_Pg → T_Mo → Int32 → Prop} {z_x : T_St} {z_xk : T_Kw} {z_xw : T_Wd} {z_xpn : T_Nm} {z_xpd : T_Nd} {z_xqn : T_Nm} {z_xqd : T_Nd} {z_xg : T_Gr} {z_xpg : T_Pg} {z_m : T_Mo} {x3 : Int32} (h : INV z_x z_xk z_xw z_xpn z_xpd z_xpg z_m) (v1 : vp_in (x3 + (1 : Int32)) L) (v2 : vp_in (x3 + (2 : Int32)) L) (hK : ∀ a b c d e f g h i j, INV a b c d e i j → K a b c d e f g h i j (x3 + (3 : Int32))) : wp_op5 xs L K z_x z_xk z_xw z_xpn z_xpd z_xqn z_xqd z_xg z_xpg z_m x3 := by
  obtain ⟨hw, hn, hd, hg, hm, hr⟩ := h
  unfold wp_op5
  exact ⟨v1, v2, s_St_number (fun _ _ _ => ⟨v1, v2, s_Mo_number hm.1 (fun _ _ _ => hK _ _ _ _ _ _ _ _ _ _ ⟨hw, hn, hd, hg, hm, hr⟩)⟩)⟩
set_option maxHeartbeats 1000000 in
theorem i_op6 {xs : Nat → Int32} {L : Nat} {K : T_St → T_Kw → T_Wd → T_Nm → T_Nd → T_Nm → T_Nd → T_Gr → T_Pg → T_Mo → Int32 → Prop} {z_x : T_St} {z_xk : T_Kw} {z_xw : T_Wd} {z_xpn : T_Nm} {z_xpd : T_Nd} {z_xqn : T_Nm} {z_xqd : T_Nd} {z_xg : T_Gr} {z_xpg : T_Pg} {z_m : T_Mo} {x3 : Int32} (h : INV z_x z_xk z_xw z_xpn z_xpd z_xpg z_m) (v1 : vp_in (x3 + (1 : Int32)) L) (v2 : vp_in (x3 + (2 : Int32)) L) (hK : ∀ a b c d e f g h i j, INV a b c d e i j → K a b c d e f g h i j (x3 + (3 : Int32))) : wp_op6 xs L K z_x z_xk z_xw z_xpn z_xpd z_xqn z_xqd z_xg z_xpg z_m x3 := by
  obtain ⟨hw, hn, hd, hg, hm, hr⟩ := h
  unfold wp_op6
  exact ⟨v1, s_St_unitOf (fun _ _ _ => ⟨v1, s_Mo_unitOf hm.1 (fun _ _ _ => hK _ _ _ _ _ _ _ _ _ _ ⟨hw, hn, hd, hg, hm, hr⟩)⟩)⟩
set_option maxHeartbeats 1000000 in
theorem i_op9 {xs : Nat → Int32} {L : Nat} {K : T_St → T_Kw → T_Wd → T_Nm → T_Nd → T_Nm → T_Nd → T_Gr → T_Pg → T_Mo → Int32 → Prop} {z_x : T_St} {z_xk : T_Kw} {z_xw : T_Wd} {z_xpn : T_Nm} {z_xpd : T_Nd} {z_xqn : T_Nm} {z_xqd : T_Nd} {z_xg : T_Gr} {z_xpg : T_Pg} {z_m : T_Mo} {x3 : Int32} (h : INV z_x z_xk z_xw z_xpn z_xpd z_xpg z_m) (v1 : vp_in (x3 + (1 : Int32)) L) (v2 : vp_in (x3 + (2 : Int32)) L) (hK : ∀ a b c d e f g h i j, INV a b c d e i j → K a b c d e f g h i j (x3 + (3 : Int32))) : wp_op9 xs L K z_x z_xk z_xw z_xpn z_xpd z_xqn z_xqd z_xg z_xpg z_m x3 := by
  obtain ⟨hw, hn, hd, hg, hm, hr⟩ := h
  unfold wp_op9
  have h1 : wp_St_branch z_x () z_xpd (xs ((x3 + (1 : Int32))).toNatClampNeg) (xs ((x3 + (2 : Int32))).toNatClampNeg) (fun _ _ => True) := s_St_branch (fun _ _ _ => trivial)
  have h2 : wp_Mo_branch z_m (xs ((x3 + (1 : Int32))).toNatClampNeg) (xs ((x3 + (2 : Int32))).toNatClampNeg) (fun _ _ => True) := s_Mo_branch hm (fun _ _ _ => trivial)
  obtain ⟨r, u, r', u', A, A', -, -, e⟩ := jnR (WX := wp_St_branch z_x () z_xpd (xs ((x3 + (1 : Int32))).toNatClampNeg) (xs ((x3 + (2 : Int32))).toNatClampNeg)) (WY := wp_Mo_branch z_m (xs ((x3 + (1 : Int32))).toNatClampNeg) (xs ((x3 + (2 : Int32))).toNatClampNeg)) (R := fun r _ r' _ => r = r') (dt_St_branch h1) (dt_Mo_branch h2) h1 h2 (fun PC PM hC hM => by
    obtain ⟨r, c1, c2⟩ := rl_branch hr.2.2.2.2 hC hM
    exact ⟨r, (), r, (), c1, c2, rfl⟩)
  subst e
  exact ⟨v1, v2, A _ ⟨v1, v2, A' _ ⟨fun _ => hK _ _ _ _ _ _ _ _ _ _ ⟨hw, hn, hd, hg, hm, hr⟩, fun ne => absurd (by first | rfl | rw [lg_cmp_eq]) ne⟩⟩⟩
set_option maxHeartbeats 1000000 in
theorem i_op7 {xs : Nat → Int32} {L : Nat} {K : T_St → T_Kw → T_Wd → T_Nm → T_Nd → T_Nm → T_Nd → T_Gr → T_Pg → T_Mo → Int32 → Prop} {z_x : T_St} {z_xk : T_Kw} {z_xw : T_Wd} {z_xpn : T_Nm} {z_xpd : T_Nd} {z_xqn : T_Nm} {z_xqd : T_Nd} {z_xg : T_Gr} {z_xpg : T_Pg} {z_m : T_Mo} {x3 : Int32} (h : INV z_x z_xk z_xw z_xpn z_xpd z_xpg z_m) (v1 : vp_in (x3 + (1 : Int32)) L) (v2 : vp_in (x3 + (2 : Int32)) L) (hK : ∀ a b c d e f g h i j, INV a b c d e i j → K a b c d e f g h i j (x3 + (3 : Int32))) : wp_op7 xs L K z_x z_xk z_xw z_xpn z_xpd z_xqn z_xqd z_xg z_xpg z_m x3 := by
  obtain ⟨hw, hn, hd, hg, hm, hr⟩ := h
  unfold wp_op7
  have h2 : wp_Mo_bar z_m (xs ((x3 + (1 : Int32))).toNatClampNeg) (fun _ u => Fin u) := s_Mo_barE hm (fun r u q => q.1)
  obtain ⟨r', u', A', B'⟩ := dt_Mo_bar h2
  have fin := B' _ h2
  obtain ⟨x, b, -, e⟩ := iv_barF (A' (fun a b => a = r' ∧ b = u') ⟨rfl, rfl⟩)
  subst e
  exact ⟨v1, s_St_bar (fun _ _ _ => ⟨v1, A' _ (hK _ _ _ _ _ _ _ _ _ _ ⟨hw, hn, hd, hg, fin, LR_F rfl rfl rfl hr⟩)⟩)⟩
set_option maxHeartbeats 1000000 in
theorem i_op8 {xs : Nat → Int32} {L : Nat} {K : T_St → T_Kw → T_Wd → T_Nm → T_Nd → T_Nm → T_Nd → T_Gr → T_Pg → T_Mo → Int32 → Prop} {z_x : T_St} {z_xk : T_Kw} {z_xw : T_Wd} {z_xpn : T_Nm} {z_xpd : T_Nd} {z_xqn : T_Nm} {z_xqd : T_Nd} {z_xg : T_Gr} {z_xpg : T_Pg} {z_m : T_Mo} {x3 : Int32} (h : INV z_x z_xk z_xw z_xpn z_xpd z_xpg z_m) (v1 : vp_in (x3 + (1 : Int32)) L) (v2 : vp_in (x3 + (2 : Int32)) L) (hK : ∀ a b c d e f g h i j, INV a b c d e i j → K a b c d e f g h i j (x3 + (3 : Int32))) : wp_op8 xs L K z_x z_xk z_xw z_xpn z_xpd z_xqn z_xqd z_xg z_xpg z_m x3 := by
  obtain ⟨hw, hn, hd, hg, hm, hr⟩ := h
  unfold wp_op8
  exact ⟨v1, v2, s_St_check hn hd (fun _ _ _ => ⟨v1, v2, s_Mo_check s_Mo_reachAll hm (fun r u q => hK _ _ _ _ _ _ _ _ _ _ ⟨hw, hn, hd, hg, (by grind [I_Wd, I_Wd0, Fin, I_Mo, FrM, FrW]), LR_F q.1 q.2.1 q.2.2.1 hr⟩)⟩)⟩
set_option maxHeartbeats 1000000 in
theorem i_op10 {xs : Nat → Int32} {L : Nat} {K : T_St → T_Kw → T_Wd → T_Nm → T_Nd → T_Nm → T_Nd → T_Gr → T_Pg → T_Mo → Int32 → Prop} {z_x : T_St} {z_xk : T_Kw} {z_xw : T_Wd} {z_xpn : T_Nm} {z_xpd : T_Nd} {z_xqn : T_Nm} {z_xqd : T_Nd} {z_xg : T_Gr} {z_xpg : T_Pg} {z_m : T_Mo} {x3 : Int32} (h : INV z_x z_xk z_xw z_xpn z_xpd z_xpg z_m) (v1 : vp_in (x3 + (1 : Int32)) L) (v2 : vp_in (x3 + (2 : Int32)) L) (hK : ∀ a b c d e f g h i j, INV a b c d e i j → K a b c d e f g h i j (x3 + (3 : Int32))) : wp_op10 xs L K z_x z_xk z_xw z_xpn z_xpd z_xqn z_xqd z_xg z_xpg z_m x3 := by
  obtain ⟨hw, hn, hd, hg, hm, hr⟩ := h
  unfold wp_op10
  exact ⟨v1, s_St_write hn hd hg (fun r1 u1 q1 => ⟨v1, s_Mo_write s_Mo_sumOutAll s_Mo_blockOutAll hm (fun r u q => hK _ _ _ _ _ _ _ _ _ _ ⟨hw, hn, hd, q1.1, (by grind [I_Wd, I_Wd0, Fin, I_Mo, FrM, FrW]), LR_F q.1 q.2.1 q.2.2.1 hr⟩)⟩)⟩
set_option maxHeartbeats 1000000 in
theorem i_op11 {xs : Nat → Int32} {L : Nat} {K : T_St → T_Kw → T_Wd → T_Nm → T_Nd → T_Nm → T_Nd → T_Gr → T_Pg → T_Mo → Int32 → Prop} {z_x : T_St} {z_xk : T_Kw} {z_xw : T_Wd} {z_xpn : T_Nm} {z_xpd : T_Nd} {z_xqn : T_Nm} {z_xqd : T_Nd} {z_xg : T_Gr} {z_xpg : T_Pg} {z_m : T_Mo} {x3 : Int32} (h : INV z_x z_xk z_xw z_xpn z_xpd z_xpg z_m) (v1 : vp_in (x3 + (1 : Int32)) L) (v2 : vp_in (x3 + (2 : Int32)) L) (hK : ∀ a b c d e f g h i j, INV a b c d e i j → K a b c d e f g h i j (x3 + (3 : Int32))) : wp_op11 xs L K z_x z_xk z_xw z_xpn z_xpd z_xqn z_xqd z_xg z_xpg z_m x3 := by
  obtain ⟨hw, hn, hd, hg, hm, hr⟩ := h
  unfold wp_op11
  have h1 : wp_St_clear z_x () z_xpn z_xpd z_xw (fun _ u => I_Nm u.2.1 ∧ I_Nd u.2.2.1 ∧ I_Wd u.2.2.2) := s_St_clear hw (fun _ u q => ⟨q.1, q.2.1, q.2.2.1.1⟩)
  have h2 : wp_Mo_clear z_m (fun _ u => Fin u) := s_Mo_clearE hm (fun _ u q => q.1)
  obtain ⟨r, u, r', u', A, A', s, s', l⟩ := jnR (WX := wp_St_clear z_x () z_xpn z_xpd z_xw) (WY := wp_Mo_clear z_m) (dt_St_clear h1) (dt_Mo_clear h2) h1 h2 (rl_clear hr)
  exact A _ (A' _ (hK _ _ _ _ _ _ _ _ _ _ ⟨s.2.2, s.1, s.2.1, hg, s', l⟩))
theorem ofL {L : Nat} (h : L ≤ 1536) : (Int32.ofNat L).toInt = L := by
  exact Int32.toInt_ofNat_of_lt (by omega)
theorem ofL3 {L : Nat} (h : L ≤ 1536) : ((Int32.ofNat L) - (3 : Int32)).toInt = (L : Int) - 3 := by
  rw [Int32.toInt_sub, ofL h, show (3 : Int32).toInt = 3 from rfl]; exact Int.bmod_eq_of_le (by omega) (by omega)
theorem addI {x k : Int32} {n : Nat} (hk : k.toInt = n) (hn : n ≤ 3) (h0 : 0 ≤ x.toInt) (h9 : x.toInt ≤ 2000) : (x + k).toInt = x.toInt + n := by
  rw [Int32.toInt_add, hk]; exact Int.bmod_eq_of_le (by omega) (by omega)
theorem law_inv {xs : Nat → Int32} {L : Nat} (hL : L ≤ 1536) : ∀ (n9 : Nat) (z_x : T_St) (z_xk : T_Kw) (z_xw : T_Wd) (z_xpn : T_Nm) (z_xpd : T_Nd) (z_xqn : T_Nm) (z_xqd : T_Nd) (z_xg : T_Gr) (z_xpg : T_Pg) (z_m : T_Mo) (x3 : Int32), INV z_x z_xk z_xw z_xpn z_xpd z_xpg z_m → 0 ≤ x3.toInt → x3.toInt ≤ L → (L : Int) - x3.toInt ≤ 3 * (n9 : Int) - 1 → wp_law xs L n9 z_x z_xk z_xw z_xpn z_xpd z_xqn z_xqd z_xg z_xpg z_m x3 := by
  intro n9
  induction n9 with
  | zero => intro z_x z_xk z_xw z_xpn z_xpd z_xqn z_xqd z_xg z_xpg z_m x3 _ h0 h1 h2; exfalso; omega
  | succ n9 ih =>
    intro z_x z_xk z_xw z_xpn z_xpd z_xqn z_xqd z_xg z_xpg z_m x3 hi h0 h1 h2
    rw [wp_law]
    refine ⟨fun _ => trivial, fun hx => ?_⟩
    rw [Int32.lt_iff_toInt_lt, ofL3 hL] at hx
    have e1 : (x3 + (1 : Int32)).toInt = x3.toInt + 1 := addI (n := 1) rfl (by decide) h0 (by omega)
    have e2 : (x3 + (2 : Int32)).toInt = x3.toInt + 2 := addI (n := 2) rfl (by decide) h0 (by omega)
    have e3 : (x3 + (3 : Int32)).toInt = x3.toInt + 3 := addI (n := 3) rfl (by decide) h0 (by omega)
    have v0 : vp_in x3 L := vp_in_iff.mpr ⟨h0, by omega⟩
    have v1 : vp_in (x3 + (1 : Int32)) L := vp_in_iff.mpr ⟨by omega, by omega⟩
    have v2 : vp_in (x3 + (2 : Int32)) L := vp_in_iff.mpr ⟨by omega, by omega⟩
    have hK : ∀ a b c d e f g h i j, INV a b c d e i j → wp_law xs L n9 a b c d e f g h i j (x3 + (3 : Int32)) := fun a b c d e f g h i j hi => ih a b c d e f g h i j _ hi (by omega) (by omega) (by omega)
    exact ⟨v0, fun _ => i_op0 hi v1 v2 hK, fun _ => i_op1 hi v1 v2 hK, fun _ => i_op2 hi v1 v2 hK, fun _ => i_op3 hi v1 v2 hK, fun _ => i_op4 hi v1 v2 hK, fun _ => i_op5 hi v1 v2 hK, fun _ => i_op6 hi v1 v2 hK, fun _ => i_op7 hi v1 v2 hK, fun _ => i_op8 hi v1 v2 hK, fun _ => i_op9 hi v1 v2 hK, fun _ => i_op10 hi v1 v2 hK, fun _ => i_op11 hi v1 v2 hK, fun _ => hK _ _ _ _ _ _ _ _ _ _ hi⟩
theorem p11_pure {xs : Nat → Int32} {L : Nat} (hL : L ≤ 1536) : wp_start xs L := by
  unfold wp_start
  refine kw_exact (fun z hz => ?_)
  refine law_inv hL 513 _ _ _ _ _ _ _ _ _ _ _ ⟨?_, ?_, ?_, ?_, ⟨?_, ⟨0, by decide, by decide, ⟨fun i i0 i1 => absurd i1 (by grind), fun i i0 i1 => absurd i1 (by grind), fun i i0 i1 => absurd i1 (by grind)⟩⟩, fun i i0 i1 => absurd i1 (by grind)⟩, ⟨hz, rfl, rfl, BTx_0 rfl, FN_0 (Or.inl rfl) rfl rfl rfl rfl rfl rfl rfl⟩⟩ (by decide) (by have e : (0 : Int32).toInt = 0 := rfl; omega) (by have e : (0 : Int32).toInt = 0 := rfl; omega)
  · unfold I_Wd; decide
  · unfold I_Nm; decide
  · unfold I_Nd; decide
  · unfold I_Pg; decide
  · unfold I_Mo; decide

