theorem FrM_refl {z : T_Mo} : FrM z z := ⟨rfl, rfl, rfl, rfl, rfl, rfl⟩
theorem FrM_trans {z u v : T_Mo} (a : FrM z u) (b : FrM u v) : FrM z v := ⟨b.1.trans a.1, b.2.1.trans a.2.1, b.2.2.1.trans a.2.2.1, b.2.2.2.1.trans a.2.2.2.1, b.2.2.2.2.1.trans a.2.2.2.2.1, b.2.2.2.2.2.trans a.2.2.2.2.2⟩
theorem Fin_FrM {z u : T_Mo} (h : Fin z) (f : FrM z u) : Fin u := by
  obtain ⟨f1, f2, f3, f4, f5, f6⟩ := f
  unfold Fin I_Mo at h ⊢
  rw [f1, f2, f3]
  exact h
theorem up_1000 {x c : Int32} (h0 : (0 : Int32) ≤ x) (h : ¬ c ≤ x) (h9 : c ≤ 1000) : (0 : Int32) ≤ x + (1 : Int32) ∧ x + (1 : Int32) ≤ 1000 ∧ x < 1000 := by
  refine ⟨?_, ?_, ?_⟩ <;> grind
theorem up_100 {x : Int32} (h0 : (0 : Int32) ≤ x) (h : ¬ (100 : Int32) ≤ x) : (0 : Int32) ≤ x + (1 : Int32) ∧ x + (1 : Int32) ≤ 100 ∧ x < 100 := by
  refine ⟨?_, ?_, ?_⟩ <;> grind
theorem up_6 {x : Int32} (h0 : (0 : Int32) ≤ x) (h : ¬ (6 : Int32) ≤ x) : (0 : Int32) ≤ x + (1 : Int32) ∧ x + (1 : Int32) ≤ 6 ∧ x < 6 := by
  refine ⟨?_, ?_, ?_⟩ <;> grind
theorem l_Mo_reach_L63 {rf : T_Mo → Int32 → (Unit → T_Mo → Prop) → Prop} {K : T_Mo → Int32 → Int32 → Prop} {post : Unit → T_Mo → Prop} {e0 : T_Mo} {Bp : Int32 → Prop} (hrf : ∀ (z : T_Mo) (a : Int32) (post : Unit → T_Mo → Prop), Fin z → ((0 : Int32) ≤ a ∧ a < z.2.1.2.2.2.2) → Bp a → (∀ r u, FrM z u → post r u) → rf z a post) {x1 : Int32} (hK : ∀ z_this x2, FrM e0 z_this → K z_this x1 x2) (i3 : Fin e0) (i4 : (0 : Int32) ≤ x1 ∧ x1 < e0.2.1.2.2.2.2) (i5 : ∀ v : Int32, (0 : Int32) ≤ v → v < x1 → Bp v) : ∀ (n9 : Nat) (z_this : T_Mo) (x2 : Int32), ((0 : Int32) ≤ x2) → (x2 ≤ 1000) → (FrM e0 z_this) → (1000 : Int32).toInt - (x2).toInt < ((n9 : Nat) : Int) → wp_Mo_reach_L63 rf K post n9 z_this x1 x2 := by
  intro n9
  induction n9 with
  | zero => intro z_this x2 i0 i1 i2 hm; exact (i_meas0 i1 hm).elim
  | succ n9 ih =>
    intro z_this x2 i0 i1 i2 hm
    have fz := Fin_FrM i3 i2
    have nz : (0 : Int32) ≤ x1 ∧ x1 < z_this.2.1.2.2.2.2 := by rw [i2.2.1]; exact i4
    rw [wp_Mo_reach_L63]
    refine s_Mo_node1F fz nz (fun r2 u2 hq => ?_)
    obtain ⟨er, r0, r9, w0, w9, c0, c9, -⟩ := hq
    refine ⟨vin (c := 2000) r0 r9 rfl, fun _ => hK _ _ i2, fun h => ?_⟩
    have up := up_1000 i0 h c9
    refine s_Mo_kid fz nz ⟨i0, by rw [← er]; exact Int32.not_le.mp h⟩ (fun r3 u3 hk => ?_)
    refine hrf _ _ _ fz ⟨hk.2.1, Int32.lt_trans hk.2.2.1 nz.2⟩ (i5 _ hk.2.1 hk.2.2.1) (fun r4 u4 f4 => ?_)
    exact ih _ _ up.1 up.2.1 (FrM_trans i2 f4) (i_meas i0 up.2.2 hm)
theorem s_Mo_reach_F {rf : T_Mo → Int32 → (Unit → T_Mo → Prop) → Prop} {e0 : T_Mo} {a1 : Int32} {post : Unit → T_Mo → Prop} {Bp : Int32 → Prop} (hrf : ∀ (z : T_Mo) (a : Int32) (post : Unit → T_Mo → Prop), Fin z → ((0 : Int32) ≤ a ∧ a < z.2.1.2.2.2.2) → Bp a → (∀ r u, FrM z u → post r u) → rf z a post) (p0 : Fin e0) (p1 : ((0 : Int32) ≤ a1 ∧ a1 < e0.2.1.2.2.2.2)) (p2 : (∀ v : Int32, (0 : Int32) ≤ v → v < a1 → Bp v)) (hp : ∀ r u, FrM e0 u → post r u) : wp_Mo_reach_F rf e0 a1 post := by
  have lp : ∀ z, FrM e0 z → ∃ k9 : Nat, wp_Mo_reach_L63 rf (fun (z_this : T_Mo) (x1 : Int32) (x2 : Int32) => post () z_this) post k9 z a1 (0 : Int32) := fun z f => ⟨5000, l_Mo_reach_L63 hrf (fun z_this x2 g => hp _ _ g) p0 p1 p2 5000 z 0 (by decide) (by decide) f (by decide)⟩
  have i1 : I_Mo e0 := p0.1
  unfold I_Mo at i1
  unfold wp_Mo_reach_F
  refine s_Mo_node1F p0 p1 (fun r1 u1 hq => ?_)
  have r0 := hq.2.1
  have r9 := hq.2.2.1
  refine ⟨vin (c := 2000) r0 r9 rfl, fun h19 => ?_, fun _ => lp _ FrM_refl⟩
  refine s_Mo_node1F p0 p1 (fun r5 u5 hq5 => ?_)
  have e15 : r5 = r1 := by rw [hq5.1, hq.1]
  subst e15
  obtain ⟨er, -, -, w0, w9, c0, c9, c1, c2, nm, st⟩ := hq5
  have nx := nm.1 (by rw [h19]; decide)
  have s5 := st h19
  have n9 : (e0.1.2.2.1.1 r5.toNatClampNeg).toInt32 < 100 := by have := i1.2.2.2.2.2.2.2.2; exact Int32.lt_of_lt_of_le nx.2 this
  have v100 : vp_in (e0.1.2.2.1.1 r5.toNatClampNeg).toInt32 100 := vin (c := 100) nx.1 n9 rfl
  refine ⟨vin (c := 2000) r0 r9 rfl, v100, fun _ => ⟨v100, ?_, ?_⟩, fun _ => lp _ FrM_refl⟩
  · have hh := i1.2.2.1
    have n0 := nx.1
    generalize (e0.1.2.2.1.1 r5.toNatClampNeg).toInt32 = x at n0 n9
    generalize e0.1.2.1.2.1 = y at hh
    exact vin (c := 200) (by grind) (by grind) rfl
  · exact hrf _ _ _ (Fin_FrM p0 ⟨rfl, rfl, rfl, rfl, rfl, rfl⟩) ⟨s5.1, Int32.lt_trans s5.2 p1.2⟩ (p2 _ s5.1 s5.2) (fun r6 u6 f6 => lp _ (FrM_trans ⟨rfl, rfl, rfl, rfl, rfl, rfl⟩ f6))
theorem s_Mo_reach : ∀ (d : Nat), ∀ (z : T_Mo) (a : Int32) (post : Unit → T_Mo → Prop), Fin z → ((0 : Int32) ≤ a ∧ a < z.2.1.2.2.2.2) → (fun a : Int32 => a.toInt < (d : Int)) a → (∀ r u, FrM z u → post r u) → wp_Mo_reach d z a post := by
  intro d
  induction d with
  | zero => intro z a post _ h1 hb _; exact (z_lt0 h1.1 hb).elim
  | succ d ih =>
    intro z a post h0 h1 hb hp
    show wp_Mo_reach_F (wp_Mo_reach d) z a post
    exact s_Mo_reach_F ih h0 h1 (fun v v0 v1 => z_ltS hb v1) hp
theorem s_Mo_reachAll : ∀ (z : T_Mo) (a : Int32) (post : Unit → T_Mo → Prop), Fin z → ((0 : Int32) ≤ a ∧ a < z.2.1.2.2.2.2) → (fun _ : Int32 => True) a → (∀ r u, FrM z u → post r u) → wp_Mo_reach 1001 z a post := fun z a post h0 h1 _ hp => s_Mo_reach 1001 z a post h0 h1 (z_lt1000 (by have i1 : I_Mo z := h0.1; unfold I_Mo at i1; exact Int32.lt_of_lt_of_le h1.2 i1.2.2.2.2.1)) hp
theorem l_Mo_check_L17 {d : Nat} {K : T_Mo → Int32 → Int32 → Int32 → Prop} {post : Int32 → T_Mo → Prop} {e0 : T_Mo} {x1 x2 : Int32} (hK : ∀ z_this x3, FrM e0 z_this → K z_this x1 x2 x3) : ∀ (n9 : Nat) (z_this : T_Mo) (x3 : Int32), ((0 : Int32) ≤ x3) → (x3 ≤ 100) → (FrM e0 z_this) → (100 : Int32).toInt - (x3).toInt < ((n9 : Nat) : Int) → wp_Mo_check_L17 d K post n9 z_this x1 x2 x3 := by
  intro n9
  induction n9 with
  | zero => intro z_this x3 i0 i1 i2 hm; exact (i_meas0 i1 hm).elim
  | succ n9 ih =>
    intro z_this x3 i0 i1 i2 hm
    rw [wp_Mo_check_L17]
    refine ⟨fun _ => hK _ _ i2, fun h => ?_⟩
    have up := up_100 i0 h
    exact ⟨vin (c := 100) i0 up.2.2 rfl, ih _ _ up.1 up.2.1 (FrM_trans i2 ⟨rfl, rfl, rfl, rfl, rfl, rfl⟩) (i_meas i0 up.2.2 hm)⟩
theorem l_Mo_check_L38 {d : Nat} {K : T_Mo → Int32 → Int32 → Int32 → Prop} {post : Int32 → T_Mo → Prop} {e0 : T_Mo} {x1 x2 : Int32} (hR : ∀ (z : T_Mo) (a : Int32) (post : Unit → T_Mo → Prop), Fin z → ((0 : Int32) ≤ a ∧ a < z.2.1.2.2.2.2) → (fun _ : Int32 => True) a → (∀ r u, FrM z u → post r u) → wp_Mo_reach d z a post) (hK : ∀ z_this x3, FrM e0 z_this → K z_this x1 x2 x3) (p0 : Fin e0) : ∀ (n9 : Nat) (z_this : T_Mo) (x3 : Int32), ((0 : Int32) ≤ x3) → (x3 ≤ 1000) → (FrM e0 z_this) → (1000 : Int32).toInt - (x3).toInt < ((n9 : Nat) : Int) → wp_Mo_check_L38 d K post n9 z_this x1 x2 x3 := by
  intro n9
  induction n9 with
  | zero => intro z_this x3 i0 i1 i2 hm; exact (i_meas0 i1 hm).elim
  | succ n9 ih =>
    intro z_this x3 i0 i1 i2 hm
    have fz := Fin_FrM p0 i2
    have iz : I_Mo z_this := fz.1
    unfold I_Mo at iz
    rw [wp_Mo_check_L38]
    refine ⟨fun _ => hK _ _ i2, fun h => ?_⟩
    have up := up_1000 i0 h iz.2.2.2.2.2.2.1
    have hT := Fin_top (z := z_this) (k := x3) fz i0 (Int32.not_le.mp h)
    refine ⟨?_, s_Mo_node1F fz hT.1 (fun r1 u1 hq => ⟨vin (c := 2000) hq.2.1 hq.2.2.1 rfl, fun _ => ih _ _ up.1 up.2.1 i2 (i_meas i0 up.2.2 hm), fun _ => ?_⟩)⟩
    · have hh := iz.2.2.1
      have x9 := up.2.2
      generalize z_this.1.2.1.2.1 = y at hh
      exact vin (c := 2000) (by grind) (by grind) rfl
    · exact hR _ _ _ fz hT.1 trivial (fun r2 u2 f2 => ih _ _ up.1 up.2.1 (FrM_trans i2 f2) (i_meas i0 up.2.2 hm))
theorem l_Mo_check_L131 {d : Nat} {K : T_Mo → Int32 → Int32 → Int32 → Int32 → Int32 → Int32 → Prop} {post : Int32 → T_Mo → Prop} {z_this : T_Mo} {x1 x2 x4 x5 : Int32} (hK : ∀ x3 x6, K z_this x1 x2 x3 x4 x5 x6) (hp : ∀ r, post r z_this) (fz : Fin z_this) (h5 : x5 ≤ 1000) : ∀ (n9 : Nat) (x3 x6 : Int32), ((0 : Int32) ≤ x6) → (x6 ≤ 1000) → (1000 : Int32).toInt - (x6).toInt < ((n9 : Nat) : Int) → wp_Mo_check_L131 d K post n9 z_this x1 x2 x3 x4 x5 x6 := by
  intro n9
  induction n9 with
  | zero => intro x3 x6 i0 i1 hm; exact (i_meas0 i1 hm).elim
  | succ n9 ih =>
    intro x3 x6 i0 i1 hm
    rw [wp_Mo_check_L131]
    refine ⟨fun _ => hK _ _, fun h => ?_⟩
    have up := up_1000 i0 h h5
    refine s_Mo_isRemark fz i0 (fun r3 u3 _ => ⟨fun _ => ih _ _ up.1 up.2.1 (i_meas i0 up.2.2 hm), fun _ => ⟨fun _ => ⟨fun _ => hp _, fun _ => hp _⟩, fun _ => ih _ _ up.1 up.2.1 (i_meas i0 up.2.2 hm)⟩⟩)
theorem l_Mo_check_L96 {d : Nat} {K : T_Mo → Int32 → Int32 → Int32 → Int32 → Prop} {post : Int32 → T_Mo → Prop} {z_this : T_Mo} {x1 x2 : Int32} (hK : ∀ x3 x4, K z_this x1 x2 x3 x4) (hp : ∀ r, post r z_this) (fz : Fin z_this) : ∀ (n9 : Nat) (x3 x4 : Int32), ((0 : Int32) ≤ x4) → (x4 ≤ 6) → (6 : Int32).toInt - (x4).toInt < ((n9 : Nat) : Int) → wp_Mo_check_L96 d K post n9 z_this x1 x2 x3 x4 := by
  have iz : I_Mo z_this := fz.1
  unfold I_Mo at iz
  have m9 : z_this.2.2.1.1.2 ≤ 1000 := Int32.le_trans iz.2.2.2.2.2.2.2.2 (by decide)
  intro n9
  induction n9 with
  | zero => intro x3 x4 i0 i1 hm; exact (i_meas0 i1 hm).elim
  | succ n9 ih =>
    intro x3 x4 i0 i1 hm
    rw [wp_Mo_check_L96]
    refine ⟨fun _ => hK _ _, fun h => ?_⟩
    have up := up_6 i0 h
    have nx := fun x3 => ih x3 (x4 + (1 : Int32)) up.1 up.2.1 (i_meas i0 up.2.2 hm)
    exact ⟨fun _ => ⟨5000, l_Mo_check_L131 (fun x3 x6 => nx x3) hp fz iz.2.2.2.2.1 5000 _ _ (by decide) (by decide) (by decide)⟩, fun _ => ⟨fun _ => ⟨5000, l_Mo_check_L131 (fun x3 x6 => nx x3) hp fz iz.2.2.2.2.1 5000 _ _ (by decide) (by decide) (by decide)⟩, fun _ => ⟨5000, l_Mo_check_L131 (fun x3 x6 => nx x3) hp fz m9 5000 _ _ (by decide) (by decide) (by decide)⟩⟩⟩
theorem s_Mo_check {d : Nat} {e0 : T_Mo} {a1 : Int32} {a2 : Int32} {post : Int32 → T_Mo → Prop} (hR : ∀ (z : T_Mo) (a : Int32) (post : Unit → T_Mo → Prop), Fin z → ((0 : Int32) ≤ a ∧ a < z.2.1.2.2.2.2) → (fun _ : Int32 => True) a → (∀ r u, FrM z u → post r u) → wp_Mo_reach d z a post) (p0 : Fin e0) (hp : ∀ r u, FrM e0 u → post r u) : wp_Mo_check d e0 a1 a2 post := by
  unfold wp_Mo_check
  refine ⟨fun _ => hp _ _ FrM_refl, fun _ => ⟨fun _ => hp _ _ FrM_refl, fun _ => ⟨fun _ => ?_, fun _ => hp _ _ FrM_refl⟩⟩⟩
  refine ⟨5000, l_Mo_check_L17 (e0 := e0) (fun z x3 f => ?_) 5000 _ _ (by decide) (by decide) FrM_refl (by decide)⟩
  refine ⟨5000, l_Mo_check_L38 (e0 := e0) hR (fun z x3 f => ?_) p0 5000 _ _ (by decide) (by decide) f (by decide)⟩
  exact ⟨5000, l_Mo_check_L96 (fun x3 x4 => hp _ _ f) (fun r => hp _ _ f) (Fin_FrM p0 f) 5000 _ _ (by decide) (by decide) (by decide)⟩
