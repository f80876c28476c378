def FrM (z u : T_Mo) : Prop := u.1 = z.1 ∧ u.2.1 = z.2.1 ∧ u.2.2.1 = z.2.2.1 ∧ u.2.2.2.1.1 = z.2.2.2.1.1 ∧ u.2.2.2.1.2.2 = z.2.2.2.1.2.2 ∧ u.2.2.2.2 = z.2.2.2.2
def FrW (z u : T_Mo) : Prop := u.1 = z.1 ∧ u.2.1 = z.2.1 ∧ u.2.2.1 = z.2.2.1 ∧ u.2.2.2.1.1 = z.2.2.2.1.1 ∧ u.2.2.2.1.2.1 = z.2.2.2.1.2.1 ∧ u.2.2.2.2.2.2 = z.2.2.2.2.2.2
/-- what is known of node a of a finished program, at place r of the arrays -/
def NF (z : T_Mo) (a r : Int32) : Prop := r = ((1000 : Int32) * z.1.2.1.2.1) + a ∧ (0 : Int32) ≤ r ∧ r < 2000 ∧ (0 : Int32) ≤ z.1.2.1.2.2.2 r.toNatClampNeg ∧ z.1.2.1.2.2.2 r.toNatClampNeg ≤ 24 ∧ (0 : Int32) ≤ z.1.2.2.2.2.1 r.toNatClampNeg ∧ z.1.2.2.2.2.1 r.toNatClampNeg ≤ 1000 ∧ ((z.1.2.1.2.2.2 r.toNatClampNeg = 6 ∨ z.1.2.1.2.2.2 r.toNatClampNeg = 24) → 1 ≤ z.1.2.2.2.2.1 r.toNatClampNeg) ∧ (2 ≤ z.1.2.1.2.2.2 r.toNatClampNeg → z.1.2.1.2.2.2 r.toNatClampNeg ≤ 9 → z.1.2.1.2.2.2 r.toNatClampNeg ≠ 6 → 2 ≤ z.1.2.2.2.2.1 r.toNatClampNeg) ∧ NmOk (z.1.2.1.2.2.2 r.toNatClampNeg) (z.1.2.2.1.1 r.toNatClampNeg).toInt32 z.2.2.1.1.2 ∧ (z.1.2.1.2.2.2 r.toNatClampNeg = 19 → (0 : Int32) ≤ z.2.1.2.2.2.1 (((100 : Int32) * z.1.2.1.2.1) + (z.1.2.2.1.1 r.toNatClampNeg).toInt32).toNatClampNeg ∧ z.2.1.2.2.2.1 (((100 : Int32) * z.1.2.1.2.1) + (z.1.2.2.1.1 r.toNatClampNeg).toInt32).toNatClampNeg < a)
theorem Fin_node {z : T_Mo} {a : Int32} (p0 : Fin z) (p1 : ((0 : Int32) ≤ a ∧ a < z.2.1.2.2.2.2)) : NF z a (((1000 : Int32) * z.1.2.1.2.1) + a) := by
  obtain ⟨i1, ⟨km, k0, k9, pr⟩, -⟩ := p0
  unfold I_Mo at i1
  have no := pr.1 a p1.1 p1.2
  unfold NOk at no
  obtain ⟨⟨n1, n1'⟩, ⟨a0, c0, ak, ck⟩, n3, n4, n5, n6, n7⟩ := no
  refine ⟨rfl, by grind, by grind, n1, n1', c0, by grind, n4, n5, n6, n7⟩
theorem s_Mo_node1F {z_this : T_Mo} {a1 : Int32} {post : Int32 → Unit → Prop} (p0 : Fin z_this) (p1 : ((0 : Int32) ≤ a1 ∧ a1 < z_this.2.1.2.2.2.2)) (hp : ∀ r u, NF z_this a1 r → post r u) : wp_Mo_node1 z_this a1 post := by
  unfold wp_Mo_node1
  exact hp _ _ (Fin_node p0 p1)
theorem s_Mo_kid {z_this : T_Mo} {a1 a2 : Int32} {post : Int32 → Unit → Prop} (p0 : Fin z_this) (p1 : ((0 : Int32) ≤ a1 ∧ a1 < z_this.2.1.2.2.2.2)) (p2 : (0 : Int32) ≤ a2 ∧ a2 < z_this.1.2.2.2.2.1 (((1000 : Int32) * z_this.1.2.1.2.1) + a1).toNatClampNeg) (hp : ∀ r u, (r = z_this.1.2.2.2.2.2 (((1000 : Int32) * z_this.1.2.1.2.1) + (z_this.1.2.2.2.1 (((1000 : Int32) * z_this.1.2.1.2.1) + a1).toNatClampNeg + a2)).toNatClampNeg ∧ (0 : Int32) ≤ r ∧ r < a1 ∧ KK (z_this.1.2.1.2.2.2 (((1000 : Int32) * z_this.1.2.1.2.1) + a1).toNatClampNeg) (z_this.1.2.1.2.2.2 (((1000 : Int32) * z_this.1.2.1.2.1) + r).toNatClampNeg)) → post r u) : wp_Mo_kid z_this a1 a2 post := by
  unfold wp_Mo_kid
  refine s_Mo_node1F p0 p1 (fun r1 u1 hq => ?_)
  have er : r1 = ((1000 : Int32) * z_this.1.2.1.2.1) + a1 := hq.1
  subst er
  obtain ⟨i1, ⟨km, k0, k9, pr⟩, -⟩ := p0
  unfold I_Mo at i1
  have no := pr.1 a1 p1.1 p1.2
  unfold NOk at no
  obtain ⟨⟨n1, n1'⟩, ⟨a0, c0, ak, ck⟩, n3, n4, n5, n6, n7⟩ := no
  have kk := n3 a2 p2.1 p2.2
  have ea : ((1000 : Int32) * z_this.1.2.1.2.1) + z_this.1.2.2.2.1 (((1000 : Int32) * z_this.1.2.1.2.1) + a1).toNatClampNeg + a2 = ((1000 : Int32) * z_this.1.2.1.2.1) + (z_this.1.2.2.2.1 (((1000 : Int32) * z_this.1.2.1.2.1) + a1).toNatClampNeg + a2) := Int32.add_assoc _ _ _
  rw [ea]
  exact ⟨vin (c := 2000) hq.2.1 hq.2.2.1 rfl, vin (c := 2000) (by grind) (by grind) rfl, hp _ _ ⟨rfl, kk⟩⟩
theorem Fin_top {z : T_Mo} {k : Int32} (p0 : Fin z) (k0 : (0 : Int32) ≤ k) (k1 : k < z.2.2.1.1.1) : ((0 : Int32) ≤ z.2.1.1.1.2 (((1000 : Int32) * z.1.2.1.2.1) + k).toNatClampNeg ∧ z.2.1.1.1.2 (((1000 : Int32) * z.1.2.1.2.1) + k).toNatClampNeg < z.2.1.2.2.2.2) ∧ ((10 ≤ z.1.2.1.2.2.2 (((1000 : Int32) * z.1.2.1.2.1) + z.2.1.1.1.2 (((1000 : Int32) * z.1.2.1.2.1) + k).toNatClampNeg).toNatClampNeg ∧ z.1.2.1.2.2.2 (((1000 : Int32) * z.1.2.1.2.1) + z.2.1.1.1.2 (((1000 : Int32) * z.1.2.1.2.1) + k).toNatClampNeg).toNatClampNeg ≤ 22) ∨ z.1.2.1.2.2.2 (((1000 : Int32) * z.1.2.1.2.1) + z.2.1.1.1.2 (((1000 : Int32) * z.1.2.1.2.1) + k).toNatClampNeg).toNatClampNeg = 24) := by
  obtain ⟨i1, ⟨km, -, -, pr⟩, -⟩ := p0
  obtain ⟨t1, t2, t3⟩ := pr.2.1 k k0 k1
  exact ⟨⟨t1, t2⟩, t3⟩
theorem Fin_name {z : T_Mo} {k : Int32} (p0 : Fin z) (k0 : (0 : Int32) ≤ k) (k1 : k < z.2.2.1.1.2) : z.2.1.2.1.1 (((100 : Int32) * z.1.2.1.2.1) + k).toNatClampNeg ≤ 12 := by
  obtain ⟨i1, ⟨km, -, -, pr⟩, -⟩ := p0
  exact (pr.2.2 k k0 k1).2.1
theorem Fin_step {z : T_Mo} {k : Int32} (p0 : Fin z) (k0 : (0 : Int32) ≤ k) (k1 : k < z.2.2.1.1.2) (r : z.2.1.2.1.2 (((100 : Int32) * z.1.2.1.2.1) + k).toNatClampNeg = 24) : ((0 : Int32) ≤ z.2.1.2.2.2.1 (((100 : Int32) * z.1.2.1.2.1) + k).toNatClampNeg ∧ z.2.1.2.2.2.1 (((100 : Int32) * z.1.2.1.2.1) + k).toNatClampNeg < z.2.1.2.2.2.2) ∧ z.1.2.1.2.2.2 (((1000 : Int32) * z.1.2.1.2.1) + z.2.1.2.2.2.1 (((100 : Int32) * z.1.2.1.2.1) + k).toNatClampNeg).toNatClampNeg = 24 ∧ 0 < z.1.2.2.2.2.1 (((1000 : Int32) * z.1.2.1.2.1) + z.2.1.2.2.2.1 (((100 : Int32) * z.1.2.1.2.1) + k).toNatClampNeg).toNatClampNeg := by
  have p1 := p0
  obtain ⟨i1, ⟨km, -, -, pr⟩, sd⟩ := p1
  obtain ⟨t1, t2, t3, t4⟩ := pr.2.2 k k0 k1
  have s0 := sd k k0 k1 r
  have w := t4 s0
  have nf := Fin_node p0 (a := z.2.1.2.2.2.1 (((100 : Int32) * z.1.2.1.2.1) + k).toNatClampNeg) ⟨s0, t3⟩
  have c := nf.2.2.2.2.2.2.2.1 (Or.inr w)
  exact ⟨⟨s0, t3⟩, w, by grind⟩

set_option maxHeartbeats 4000000 in
theorem s_Mo_child {z_this : T_Mo} {a1 : Int32} {a2 : Int32} {post : Int32 → Unit → Prop} (p0 : Fin z_this) (hp : ∀ r u, True → post r u) : wp_Mo_child z_this a1 a2 post := by
  unfold wp_Mo_child
  refine ⟨fun h0 => ?_, fun h1 => ?_⟩
  · refine ⟨fun h2 => ?_, fun h3 => ?_⟩
    · exact hp _ _ (by first | assumption | trivial | grind [Fin, I_Mo, NF, FrM, FrW, KK, NmOk])
    · refine ⟨fun h4 => ?_, fun h5 => ?_⟩
      · exact hp _ _ (by first | assumption | trivial | grind [Fin, I_Mo, NF, FrM, FrW, KK, NmOk])
      · refine ⟨(vin (c := 2000) (by first | assumption | trivial | grind [Fin, I_Mo, NF, FrM, FrW, KK, NmOk]) (by first | assumption | trivial | grind [Fin, I_Mo, NF, FrM, FrW, KK, NmOk]) rfl), ?_⟩
        exact hp _ _ (by first | assumption | trivial | grind [Fin, I_Mo, NF, FrM, FrW, KK, NmOk])
  · refine s_Mo_isNode (by first | assumption | trivial | grind [Fin, I_Mo, NF, FrM, FrW, KK, NmOk]) (fun r1 u1 hq2 => ?_)
    refine ⟨fun h3 => ?_, fun h4 => ?_⟩
    · exact hp _ _ (by first | assumption | trivial | grind [Fin, I_Mo, NF, FrM, FrW, KK, NmOk])
    · refine ⟨fun h5 => ?_, fun h6 => ?_⟩
      · exact hp _ _ (by first | assumption | trivial | grind [Fin, I_Mo, NF, FrM, FrW, KK, NmOk])
      · refine s_Mo_node1F (by first | assumption | trivial | grind [Fin, I_Mo, NF, FrM, FrW, KK, NmOk]) (by first | assumption | trivial | grind [Fin, I_Mo, NF, FrM, FrW, KK, NmOk]) (fun r2 u2 hq7 => ?_)
        refine ⟨(vin (c := 2000) (by first | assumption | trivial | grind [Fin, I_Mo, NF, FrM, FrW, KK, NmOk]) (by first | assumption | trivial | grind [Fin, I_Mo, NF, FrM, FrW, KK, NmOk]) rfl), ?_⟩
        refine ⟨fun h8 => ?_, fun h9 => ?_⟩
        · exact hp _ _ (by first | assumption | trivial | grind [Fin, I_Mo, NF, FrM, FrW, KK, NmOk])
        · refine s_Mo_kid (by first | assumption | trivial | grind [Fin, I_Mo, NF, FrM, FrW, KK, NmOk]) (by first | assumption | trivial | grind [Fin, I_Mo, NF, FrM, FrW, KK, NmOk]) (by first | assumption | trivial | grind [Fin, I_Mo, NF, FrM, FrW, KK, NmOk]) (fun r3 u3 hq10 => ?_)
          exact hp _ _ (by first | assumption | trivial | grind [Fin, I_Mo, NF, FrM, FrW, KK, NmOk])
set_option maxHeartbeats 4000000 in
theorem l_Mo_branch_L19 {z_this : T_Mo} {K : Int32 → Int32 → Int32 → Int32 → Prop} {post : Int32 → Unit → Prop} (hK : ∀ x1 x2 x3 x4, (((0 : Int32) ≤ x4) ∧ (x4 ≤ 1000) ∧ (Fin z_this) ∧ (((0 : Int32) ≤ x1 ∧ x1 < z_this.2.1.2.2.2.2))) → K x1 x2 x3 x4) (hp : ∀ r u, True → post r u) : ∀ (n9 : Nat) (x1 : Int32) (x2 : Int32) (x3 : Int32) (x4 : Int32), ((0 : Int32) ≤ x4) → (x4 ≤ 1000) → (Fin z_this) → (((0 : Int32) ≤ x1 ∧ x1 < z_this.2.1.2.2.2.2)) → (1000 : Int32).toInt - (x4).toInt < ((n9 : Nat) : Int) → wp_Mo_branch_L19 z_this K post n9 x1 x2 x3 x4 := by
  intro n9
  induction n9 with
  | zero => intro x1 x2 x3 x4 i0 i1 i2 i3 hm; exact (i_meas0 i1 hm).elim
  | succ n9 ih =>
    intro x1 x2 x3 x4 i0 i1 i2 i3 hm
    rw [wp_Mo_branch_L19]
    refine s_Mo_node1F (by first | assumption | trivial | grind [Fin, I_Mo, NF, FrM, FrW, KK, NmOk]) (by first | assumption | trivial | grind [Fin, I_Mo, NF, FrM, FrW, KK, NmOk]) (fun r2 u2 hq0 => ?_)
    refine ⟨(vin (c := 2000) (by first | assumption | trivial | grind [Fin, I_Mo, NF, FrM, FrW, KK, NmOk]) (by first | assumption | trivial | grind [Fin, I_Mo, NF, FrM, FrW, KK, NmOk]) rfl), ?_⟩
    refine ⟨fun h1 => ?_, fun h2 => ?_⟩
    · exact hK _ _ _ _ (by first | assumption | trivial | grind [Fin, I_Mo, NF, FrM, FrW, KK, NmOk])
    · refine s_Mo_kid (by first | assumption | trivial | grind [Fin, I_Mo, NF, FrM, FrW, KK, NmOk]) (by first | assumption | trivial | grind [Fin, I_Mo, NF, FrM, FrW, KK, NmOk]) (by first | assumption | trivial | grind [Fin, I_Mo, NF, FrM, FrW, KK, NmOk]) (fun r3 u3 hq3 => ?_)
      refine s_Mo_node1F (by first | assumption | trivial | grind [Fin, I_Mo, NF, FrM, FrW, KK, NmOk]) (by first | assumption | trivial | grind [Fin, I_Mo, NF, FrM, FrW, KK, NmOk]) (fun r4 u4 hq4 => ?_)
      refine ⟨(vin (c := 2000) (by first | assumption | trivial | grind [Fin, I_Mo, NF, FrM, FrW, KK, NmOk]) (by first | assumption | trivial | grind [Fin, I_Mo, NF, FrM, FrW, KK, NmOk]) rfl), ?_⟩
      refine ⟨fun h5 => ?_, fun h6 => ?_⟩
      · refine ⟨fun h7 => ?_, fun h8 => ?_⟩
        · refine s_Mo_kid (by first | assumption | trivial | grind [Fin, I_Mo, NF, FrM, FrW, KK, NmOk]) (by first | assumption | trivial | grind [Fin, I_Mo, NF, FrM, FrW, KK, NmOk]) (by first | assumption | trivial | grind [Fin, I_Mo, NF, FrM, FrW, KK, NmOk]) (fun r5 u5 hq9 => ?_)
          exact hp _ _ (by first | assumption | trivial | grind [Fin, I_Mo, NF, FrM, FrW, KK, NmOk])
        · exact ih _ _ _ _ (by first | assumption | trivial | grind [Fin, I_Mo, NF, FrM, FrW, KK, NmOk]) (by first | assumption | trivial | grind [Fin, I_Mo, NF, FrM, FrW, KK, NmOk]) (by first | assumption | trivial | grind [Fin, I_Mo, NF, FrM, FrW, KK, NmOk]) (by first | assumption | trivial | grind [Fin, I_Mo, NF, FrM, FrW, KK, NmOk]) (i_meas (by first | assumption | trivial | grind [Fin, I_Mo, NF, FrM, FrW, KK, NmOk]) (by first | assumption | trivial | grind [Fin, I_Mo, NF, FrM, FrW, KK, NmOk]) hm)
      · exact ih _ _ _ _ (by first | assumption | trivial | grind [Fin, I_Mo, NF, FrM, FrW, KK, NmOk]) (by first | assumption | trivial | grind [Fin, I_Mo, NF, FrM, FrW, KK, NmOk]) (by first | assumption | trivial | grind [Fin, I_Mo, NF, FrM, FrW, KK, NmOk]) (by first | assumption | trivial | grind [Fin, I_Mo, NF, FrM, FrW, KK, NmOk]) (i_meas (by first | assumption | trivial | grind [Fin, I_Mo, NF, FrM, FrW, KK, NmOk]) (by first | assumption | trivial | grind [Fin, I_Mo, NF, FrM, FrW, KK, NmOk]) hm)
set_option maxHeartbeats 4000000 in
theorem s_Mo_branch {z_this : T_Mo} {a1 : Int32} {a2 : Int32} {post : Int32 → Unit → Prop} (p0 : Fin z_this) (hp : ∀ r u, True → post r u) : wp_Mo_branch z_this a1 a2 post := by
  unfold wp_Mo_branch
  refine s_Mo_isNode (by first | assumption | trivial | grind [Fin, I_Mo, NF, FrM, FrW, KK, NmOk]) (fun r1 u1 hq0 => ?_)
  refine ⟨fun h1 => ?_, fun h2 => ?_⟩
  · exact hp _ _ (by first | assumption | trivial | grind [Fin, I_Mo, NF, FrM, FrW, KK, NmOk])
  · refine ⟨fun h3 => ?_, fun h4 => ?_⟩
    · refine ⟨5000, l_Mo_branch_L19 (fun x1 x2 x3 x4 hv5 => ?_) (fun r u hq => hp r u hq) 5000 _ _ _ _ (by first | assumption | trivial | grind [Fin, I_Mo, NF, FrM, FrW, KK, NmOk]) (by first | assumption | trivial | grind [Fin, I_Mo, NF, FrM, FrW, KK, NmOk]) (by first | assumption | trivial | grind [Fin, I_Mo, NF, FrM, FrW, KK, NmOk]) (by first | assumption | trivial | grind [Fin, I_Mo, NF, FrM, FrW, KK, NmOk]) (by decide)⟩
      exact hp _ _ (by first | assumption | trivial | grind [Fin, I_Mo, NF, FrM, FrW, KK, NmOk])
    · exact hp _ _ (by first | assumption | trivial | grind [Fin, I_Mo, NF, FrM, FrW, KK, NmOk])
set_option maxHeartbeats 4000000 in
theorem l_Mo_isBehind_L4 {z_this : T_Mo} {K : Int32 → Int32 → Int32 → Prop} {post : Int32 → Unit → Prop} (hK : ∀ x1 x2 x3, (((0 : Int32) ≤ x3) ∧ (x3 ≤ 1000) ∧ (Fin z_this) ∧ ((x2 = 0 ∨ x2 = 1))) → K x1 x2 x3) (hp : ∀ r u, (r = 0 ∨ r = 1) → post r u) : ∀ (n9 : Nat) (x1 : Int32) (x2 : Int32) (x3 : Int32), ((0 : Int32) ≤ x3) → (x3 ≤ 1000) → (Fin z_this) → ((x2 = 0 ∨ x2 = 1)) → (1000 : Int32).toInt - (x3).toInt < ((n9 : Nat) : Int) → wp_Mo_isBehind_L4 z_this K post n9 x1 x2 x3 := by
  intro n9
  induction n9 with
  | zero => intro x1 x2 x3 i0 i1 i2 i3 hm; exact (i_meas0 i1 hm).elim
  | succ n9 ih =>
    intro x1 x2 x3 i0 i1 i2 i3 hm
    rw [wp_Mo_isBehind_L4]
    refine ⟨fun h0 => ?_, fun h1 => ?_⟩
    · exact hK _ _ _ (by first | assumption | trivial | grind [Fin, I_Mo, NF, FrM, FrW, KK, NmOk])
    · have hT := Fin_top (z := z_this) (k := x3) (by first | assumption | trivial | grind [Fin, I_Mo, NF, FrM, FrW, KK, NmOk]) (by first | assumption | trivial | grind [Fin, I_Mo, NF, FrM, FrW, KK, NmOk]) (by first | assumption | trivial | grind [Fin, I_Mo, NF, FrM, FrW, KK, NmOk])
      refine ⟨(vin (c := 2000) (by first | assumption | trivial | grind [Fin, I_Mo, NF, FrM, FrW, KK, NmOk]) (by first | assumption | trivial | grind [Fin, I_Mo, NF, FrM, FrW, KK, NmOk]) rfl), ?_⟩
      refine ⟨fun h2 => ?_, fun h3 => ?_⟩
      · refine ⟨(nar01 (by first | assumption | trivial | grind [Fin, I_Mo, NF, FrM, FrW, KK, NmOk])), ?_⟩
        exact hp _ _ (by first | assumption | trivial | grind [Fin, I_Mo, NF, FrM, FrW, KK, NmOk])
      · refine ⟨fun h4 => ?_, fun h5 => ?_⟩
        · refine s_Mo_node1F (by first | assumption | trivial | grind [Fin, I_Mo, NF, FrM, FrW, KK, NmOk]) (by first | assumption | trivial | grind [Fin, I_Mo, NF, FrM, FrW, KK, NmOk]) (fun r1 u1 hq6 => ?_)
          refine ⟨(vin (c := 2000) (by first | assumption | trivial | grind [Fin, I_Mo, NF, FrM, FrW, KK, NmOk]) (by first | assumption | trivial | grind [Fin, I_Mo, NF, FrM, FrW, KK, NmOk]) rfl), ?_⟩
          refine ⟨fun h7 => ?_, fun h8 => ?_⟩
          · exact ih _ _ _ (by first | assumption | trivial | grind [Fin, I_Mo, NF, FrM, FrW, KK, NmOk]) (by first | assumption | trivial | grind [Fin, I_Mo, NF, FrM, FrW, KK, NmOk]) (by first | assumption | trivial | grind [Fin, I_Mo, NF, FrM, FrW, KK, NmOk]) (by first | assumption | trivial | grind [Fin, I_Mo, NF, FrM, FrW, KK, NmOk]) (i_meas (by first | assumption | trivial | grind [Fin, I_Mo, NF, FrM, FrW, KK, NmOk]) (by first | assumption | trivial | grind [Fin, I_Mo, NF, FrM, FrW, KK, NmOk]) hm)
          · exact ih _ _ _ (by first | assumption | trivial | grind [Fin, I_Mo, NF, FrM, FrW, KK, NmOk]) (by first | assumption | trivial | grind [Fin, I_Mo, NF, FrM, FrW, KK, NmOk]) (by first | assumption | trivial | grind [Fin, I_Mo, NF, FrM, FrW, KK, NmOk]) (by first | assumption | trivial | grind [Fin, I_Mo, NF, FrM, FrW, KK, NmOk]) (i_meas (by first | assumption | trivial | grind [Fin, I_Mo, NF, FrM, FrW, KK, NmOk]) (by first | assumption | trivial | grind [Fin, I_Mo, NF, FrM, FrW, KK, NmOk]) hm)
        · exact ih _ _ _ (by first | assumption | trivial | grind [Fin, I_Mo, NF, FrM, FrW, KK, NmOk]) (by first | assumption | trivial | grind [Fin, I_Mo, NF, FrM, FrW, KK, NmOk]) (by first | assumption | trivial | grind [Fin, I_Mo, NF, FrM, FrW, KK, NmOk]) (by first | assumption | trivial | grind [Fin, I_Mo, NF, FrM, FrW, KK, NmOk]) (i_meas (by first | assumption | trivial | grind [Fin, I_Mo, NF, FrM, FrW, KK, NmOk]) (by first | assumption | trivial | grind [Fin, I_Mo, NF, FrM, FrW, KK, NmOk]) hm)
set_option maxHeartbeats 4000000 in
theorem l_Mo_isBehind_L84 {z_this : T_Mo} {K : Int32 → Int32 → Int32 → Int32 → Prop} {post : Int32 → Unit → Prop} {c3 : Int32} (hK : ∀ x1 x2 x3 x4, (((0 : Int32) ≤ x4) ∧ (x4 ≤ 1000) ∧ (Fin z_this) ∧ ((x2 = 0 ∨ x2 = 1)) ∧ (((0 : Int32) ≤ x3 ∧ x3 < z_this.2.1.2.2.2.2)) ∧ (x3 = c3)) → K x1 x2 x3 x4) (hp : ∀ r u, (r = 0 ∨ r = 1) → post r u) : ∀ (n9 : Nat) (x1 : Int32) (x2 : Int32) (x3 : Int32) (x4 : Int32), ((0 : Int32) ≤ x4) → (x4 ≤ 1000) → (Fin z_this) → ((x2 = 0 ∨ x2 = 1)) → (((0 : Int32) ≤ x3 ∧ x3 < z_this.2.1.2.2.2.2)) → (x3 = c3) → (1000 : Int32).toInt - (x4).toInt < ((n9 : Nat) : Int) → wp_Mo_isBehind_L84 z_this K post n9 x1 x2 x3 x4 := by
  intro n9
  induction n9 with
  | zero => intro x1 x2 x3 x4 i0 i1 i2 i3 i4 i5 hm; exact (i_meas0 i1 hm).elim
  | succ n9 ih =>
    intro x1 x2 x3 x4 i0 i1 i2 i3 i4 i5 hm
    rw [wp_Mo_isBehind_L84]
    refine s_Mo_node1F (by first | assumption | trivial | grind [Fin, I_Mo, NF, FrM, FrW, KK, NmOk]) (by first | assumption | trivial | grind [Fin, I_Mo, NF, FrM, FrW, KK, NmOk]) (fun r2 u2 hq0 => ?_)
    refine ⟨(vin (c := 2000) (by first | assumption | trivial | grind [Fin, I_Mo, NF, FrM, FrW, KK, NmOk]) (by first | assumption | trivial | grind [Fin, I_Mo, NF, FrM, FrW, KK, NmOk]) rfl), ?_⟩
    refine ⟨fun h1 => ?_, fun h2 => ?_⟩
    · exact hK _ _ _ _ (by first | assumption | trivial | grind [Fin, I_Mo, NF, FrM, FrW, KK, NmOk])
    · refine s_Mo_node1F (by first | assumption | trivial | grind [Fin, I_Mo, NF, FrM, FrW, KK, NmOk]) (by first | assumption | trivial | grind [Fin, I_Mo, NF, FrM, FrW, KK, NmOk]) (fun r3 u3 hq3 => ?_)
      refine ⟨(vin (c := 2000) (by first | assumption | trivial | grind [Fin, I_Mo, NF, FrM, FrW, KK, NmOk]) (by first | assumption | trivial | grind [Fin, I_Mo, NF, FrM, FrW, KK, NmOk]) rfl), ?_⟩
      refine ⟨fun h4 => ?_, fun h5 => ?_⟩
      · refine s_Mo_kid (by first | assumption | trivial | grind [Fin, I_Mo, NF, FrM, FrW, KK, NmOk]) (by first | assumption | trivial | grind [Fin, I_Mo, NF, FrM, FrW, KK, NmOk]) (by first | assumption | trivial | grind [Fin, I_Mo, NF, FrM, FrW, KK, NmOk]) (fun r4 u4 hq6 => ?_)
        refine ⟨fun h7 => ?_, fun h8 => ?_⟩
        · refine ⟨(nar01 (by first | assumption | trivial | grind [Fin, I_Mo, NF, FrM, FrW, KK, NmOk])), ?_⟩
          exact hp _ _ (by first | assumption | trivial | grind [Fin, I_Mo, NF, FrM, FrW, KK, NmOk])
        · refine ⟨fun h9 => ?_, fun h10 => ?_⟩
          · refine s_Mo_kid (by first | assumption | trivial | grind [Fin, I_Mo, NF, FrM, FrW, KK, NmOk]) (by first | assumption | trivial | grind [Fin, I_Mo, NF, FrM, FrW, KK, NmOk]) (by first | assumption | trivial | grind [Fin, I_Mo, NF, FrM, FrW, KK, NmOk]) (fun r5 u5 hq11 => ?_)
            refine s_Mo_node1F (by first | assumption | trivial | grind [Fin, I_Mo, NF, FrM, FrW, KK, NmOk]) (by first | assumption | trivial | grind [Fin, I_Mo, NF, FrM, FrW, KK, NmOk]) (fun r6 u6 hq12 => ?_)
            refine ⟨(vin (c := 2000) (by first | assumption | trivial | grind [Fin, I_Mo, NF, FrM, FrW, KK, NmOk]) (by first | assumption | trivial | grind [Fin, I_Mo, NF, FrM, FrW, KK, NmOk]) rfl), ?_⟩
            refine ⟨fun h13 => ?_, fun h14 => ?_⟩
            · exact ih _ _ _ _ (by first | assumption | trivial | grind [Fin, I_Mo, NF, FrM, FrW, KK, NmOk]) (by first | assumption | trivial | grind [Fin, I_Mo, NF, FrM, FrW, KK, NmOk]) (by first | assumption | trivial | grind [Fin, I_Mo, NF, FrM, FrW, KK, NmOk]) (by first | assumption | trivial | grind [Fin, I_Mo, NF, FrM, FrW, KK, NmOk]) (by first | assumption | trivial | grind [Fin, I_Mo, NF, FrM, FrW, KK, NmOk]) (by first | assumption | trivial | grind [Fin, I_Mo, NF, FrM, FrW, KK, NmOk]) (i_meas (by first | assumption | trivial | grind [Fin, I_Mo, NF, FrM, FrW, KK, NmOk]) (by first | assumption | trivial | grind [Fin, I_Mo, NF, FrM, FrW, KK, NmOk]) hm)
            · exact ih _ _ _ _ (by first | assumption | trivial | grind [Fin, I_Mo, NF, FrM, FrW, KK, NmOk]) (by first | assumption | trivial | grind [Fin, I_Mo, NF, FrM, FrW, KK, NmOk]) (by first | assumption | trivial | grind [Fin, I_Mo, NF, FrM, FrW, KK, NmOk]) (by first | assumption | trivial | grind [Fin, I_Mo, NF, FrM, FrW, KK, NmOk]) (by first | assumption | trivial | grind [Fin, I_Mo, NF, FrM, FrW, KK, NmOk]) (by first | assumption | trivial | grind [Fin, I_Mo, NF, FrM, FrW, KK, NmOk]) (i_meas (by first | assumption | trivial | grind [Fin, I_Mo, NF, FrM, FrW, KK, NmOk]) (by first | assumption | trivial | grind [Fin, I_Mo, NF, FrM, FrW, KK, NmOk]) hm)
          · exact ih _ _ _ _ (by first | assumption | trivial | grind [Fin, I_Mo, NF, FrM, FrW, KK, NmOk]) (by first | assumption | trivial | grind [Fin, I_Mo, NF, FrM, FrW, KK, NmOk]) (by first | assumption | trivial | grind [Fin, I_Mo, NF, FrM, FrW, KK, NmOk]) (by first | assumption | trivial | grind [Fin, I_Mo, NF, FrM, FrW, KK, NmOk]) (by first | assumption | trivial | grind [Fin, I_Mo, NF, FrM, FrW, KK, NmOk]) (by first | assumption | trivial | grind [Fin, I_Mo, NF, FrM, FrW, KK, NmOk]) (i_meas (by first | assumption | trivial | grind [Fin, I_Mo, NF, FrM, FrW, KK, NmOk]) (by first | assumption | trivial | grind [Fin, I_Mo, NF, FrM, FrW, KK, NmOk]) hm)
      · exact hK _ _ _ _ (by first | assumption | trivial | grind [Fin, I_Mo, NF, FrM, FrW, KK, NmOk])
set_option maxHeartbeats 4000000 in
theorem l_Mo_isBehind_L71 {z_this : T_Mo} {K : Int32 → Int32 → Int32 → Prop} {post : Int32 → Unit → Prop} (hK : ∀ x1 x2 x3, (((0 : Int32) ≤ x3) ∧ (x3 ≤ 1000) ∧ (Fin z_this) ∧ ((x2 = 0 ∨ x2 = 1))) → K x1 x2 x3) (hp : ∀ r u, (r = 0 ∨ r = 1) → post r u) : ∀ (n9 : Nat) (x1 : Int32) (x2 : Int32) (x3 : Int32), ((0 : Int32) ≤ x3) → (x3 ≤ 1000) → (Fin z_this) → ((x2 = 0 ∨ x2 = 1)) → (1000 : Int32).toInt - (x3).toInt < ((n9 : Nat) : Int) → wp_Mo_isBehind_L71 z_this K post n9 x1 x2 x3 := by
  intro n9
  induction n9 with
  | zero => intro x1 x2 x3 i0 i1 i2 i3 hm; exact (i_meas0 i1 hm).elim
  | succ n9 ih =>
    intro x1 x2 x3 i0 i1 i2 i3 hm
    rw [wp_Mo_isBehind_L71]
    refine ⟨fun h0 => ?_, fun h1 => ?_⟩
    · exact hK _ _ _ (by first | assumption | trivial | grind [Fin, I_Mo, NF, FrM, FrW, KK, NmOk])
    · refine ⟨5000, l_Mo_isBehind_L84 (c3 := x3) (fun x1 x2 x3 x4 hv2 => ?_) (fun r u hq => hp r u hq) 5000 _ _ _ _ (by first | assumption | trivial | grind [Fin, I_Mo, NF, FrM, FrW, KK, NmOk]) (by first | assumption | trivial | grind [Fin, I_Mo, NF, FrM, FrW, KK, NmOk]) (by first | assumption | trivial | grind [Fin, I_Mo, NF, FrM, FrW, KK, NmOk]) (by first | assumption | trivial | grind [Fin, I_Mo, NF, FrM, FrW, KK, NmOk]) (by first | assumption | trivial | grind [Fin, I_Mo, NF, FrM, FrW, KK, NmOk]) (by first | assumption | trivial | grind [Fin, I_Mo, NF, FrM, FrW, KK, NmOk]) (by decide)⟩
      have e9 := hv2.2.2.2.2.2
      subst e9
      exact ih _ _ _ (by first | assumption | trivial | grind [Fin, I_Mo, NF, FrM, FrW, KK, NmOk]) (by first | assumption | trivial | grind [Fin, I_Mo, NF, FrM, FrW, KK, NmOk]) (by first | assumption | trivial | grind [Fin, I_Mo, NF, FrM, FrW, KK, NmOk]) (by first | assumption | trivial | grind [Fin, I_Mo, NF, FrM, FrW, KK, NmOk]) (i_meas (by first | assumption | trivial | grind [Fin, I_Mo, NF, FrM, FrW, KK, NmOk]) (by first | assumption | trivial | grind [Fin, I_Mo, NF, FrM, FrW, KK, NmOk]) hm)
set_option maxHeartbeats 4000000 in
theorem s_Mo_isBehind {z_this : T_Mo} {a1 : Int32} {post : Int32 → Unit → Prop} (p0 : Fin z_this) (hp : ∀ r u, (r = 0 ∨ r = 1) → post r u) : wp_Mo_isBehind z_this a1 post := by
  unfold wp_Mo_isBehind
  refine ⟨5000, l_Mo_isBehind_L4 (fun x1 x2 x3 hv0 => ?_) (fun r u hq => hp r u hq) 5000 _ _ _ (by first | assumption | trivial | grind [Fin, I_Mo, NF, FrM, FrW, KK, NmOk]) (by first | assumption | trivial | grind [Fin, I_Mo, NF, FrM, FrW, KK, NmOk]) (by first | assumption | trivial | grind [Fin, I_Mo, NF, FrM, FrW, KK, NmOk]) (by first | assumption | trivial | grind [Fin, I_Mo, NF, FrM, FrW, KK, NmOk]) (by decide)⟩
  refine ⟨5000, l_Mo_isBehind_L71 (fun x1 x2 x3 hv1 => ?_) (fun r u hq => hp r u hq) 5000 _ _ _ (by first | assumption | trivial | grind [Fin, I_Mo, NF, FrM, FrW, KK, NmOk]) (by first | assumption | trivial | grind [Fin, I_Mo, NF, FrM, FrW, KK, NmOk]) (by first | assumption | trivial | grind [Fin, I_Mo, NF, FrM, FrW, KK, NmOk]) (by first | assumption | trivial | grind [Fin, I_Mo, NF, FrM, FrW, KK, NmOk]) (by decide)⟩
  exact hp _ _ (by first | assumption | trivial | grind [Fin, I_Mo, NF, FrM, FrW, KK, NmOk])
set_option maxHeartbeats 4000000 in
theorem l_Mo_uses_L6 {z_this : T_Mo} {K : Int32 → Int32 → Int32 → Int32 → Int32 → Prop} {post : Int32 → Unit → Prop} (hK : ∀ x1 x2 x3 x4 x5, (((0 : Int32) ≤ x5) ∧ (x5 ≤ 1000) ∧ (Fin z_this) ∧ ((x4 = 0 ∨ x4 = 1))) → K x1 x2 x3 x4 x5) (hp : ∀ r u, (r = 0 ∨ r = 1) → post r u) : ∀ (n9 : Nat) (x1 : Int32) (x2 : Int32) (x3 : Int32) (x4 : Int32) (x5 : Int32), ((0 : Int32) ≤ x5) → (x5 ≤ 1000) → (Fin z_this) → ((x4 = 0 ∨ x4 = 1)) → (1000 : Int32).toInt - (x5).toInt < ((n9 : Nat) : Int) → wp_Mo_uses_L6 z_this K post n9 x1 x2 x3 x4 x5 := by
  intro n9
  induction n9 with
  | zero => intro x1 x2 x3 x4 x5 i0 i1 i2 i3 hm; exact (i_meas0 i1 hm).elim
  | succ n9 ih =>
    intro x1 x2 x3 x4 x5 i0 i1 i2 i3 hm
    rw [wp_Mo_uses_L6]
    refine ⟨fun h0 => ?_, fun h1 => ?_⟩
    · exact hK _ _ _ _ _ (by first | assumption | trivial | grind [Fin, I_Mo, NF, FrM, FrW, KK, NmOk])
    · refine s_Mo_node1F (by first | assumption | trivial | grind [Fin, I_Mo, NF, FrM, FrW, KK, NmOk]) (by first | assumption | trivial | grind [Fin, I_Mo, NF, FrM, FrW, KK, NmOk]) (fun r1 u1 hq2 => ?_)
      refine ⟨(vin (c := 2000) (by first | assumption | trivial | grind [Fin, I_Mo, NF, FrM, FrW, KK, NmOk]) (by first | assumption | trivial | grind [Fin, I_Mo, NF, FrM, FrW, KK, NmOk]) rfl), ?_⟩
      refine ⟨fun h3 => ?_, fun h4 => ?_⟩
      · refine ⟨fun h5 => ?_, fun h6 => ?_⟩
        · refine s_Mo_node1F (by first | assumption | trivial | grind [Fin, I_Mo, NF, FrM, FrW, KK, NmOk]) (by first | assumption | trivial | grind [Fin, I_Mo, NF, FrM, FrW, KK, NmOk]) (fun r2 u2 hq7 => ?_)
          refine ⟨(vin (c := 2000) (by first | assumption | trivial | grind [Fin, I_Mo, NF, FrM, FrW, KK, NmOk]) (by first | assumption | trivial | grind [Fin, I_Mo, NF, FrM, FrW, KK, NmOk]) rfl), ?_⟩
          refine ⟨fun h8 => ?_, fun h9 => ?_⟩
          · exact ih _ _ _ _ _ (by first | assumption | trivial | grind [Fin, I_Mo, NF, FrM, FrW, KK, NmOk]) (by first | assumption | trivial | grind [Fin, I_Mo, NF, FrM, FrW, KK, NmOk]) (by first | assumption | trivial | grind [Fin, I_Mo, NF, FrM, FrW, KK, NmOk]) (by first | assumption | trivial | grind [Fin, I_Mo, NF, FrM, FrW, KK, NmOk]) (i_meas (by first | assumption | trivial | grind [Fin, I_Mo, NF, FrM, FrW, KK, NmOk]) (by first | assumption | trivial | grind [Fin, I_Mo, NF, FrM, FrW, KK, NmOk]) hm)
          · exact ih _ _ _ _ _ (by first | assumption | trivial | grind [Fin, I_Mo, NF, FrM, FrW, KK, NmOk]) (by first | assumption | trivial | grind [Fin, I_Mo, NF, FrM, FrW, KK, NmOk]) (by first | assumption | trivial | grind [Fin, I_Mo, NF, FrM, FrW, KK, NmOk]) (by first | assumption | trivial | grind [Fin, I_Mo, NF, FrM, FrW, KK, NmOk]) (i_meas (by first | assumption | trivial | grind [Fin, I_Mo, NF, FrM, FrW, KK, NmOk]) (by first | assumption | trivial | grind [Fin, I_Mo, NF, FrM, FrW, KK, NmOk]) hm)
        · refine ⟨fun h7 => ?_, fun h8 => ?_⟩
          · refine s_Mo_node1F (by first | assumption | trivial | grind [Fin, I_Mo, NF, FrM, FrW, KK, NmOk]) (by first | assumption | trivial | grind [Fin, I_Mo, NF, FrM, FrW, KK, NmOk]) (fun r3 u3 hq9 => ?_)
            refine ⟨(vin (c := 2000) (by first | assumption | trivial | grind [Fin, I_Mo, NF, FrM, FrW, KK, NmOk]) (by first | assumption | trivial | grind [Fin, I_Mo, NF, FrM, FrW, KK, NmOk]) rfl), ?_⟩
            refine ⟨fun h10 => ?_, fun h11 => ?_⟩
            · exact ih _ _ _ _ _ (by first | assumption | trivial | grind [Fin, I_Mo, NF, FrM, FrW, KK, NmOk]) (by first | assumption | trivial | grind [Fin, I_Mo, NF, FrM, FrW, KK, NmOk]) (by first | assumption | trivial | grind [Fin, I_Mo, NF, FrM, FrW, KK, NmOk]) (by first | assumption | trivial | grind [Fin, I_Mo, NF, FrM, FrW, KK, NmOk]) (i_meas (by first | assumption | trivial | grind [Fin, I_Mo, NF, FrM, FrW, KK, NmOk]) (by first | assumption | trivial | grind [Fin, I_Mo, NF, FrM, FrW, KK, NmOk]) hm)
            · exact ih _ _ _ _ _ (by first | assumption | trivial | grind [Fin, I_Mo, NF, FrM, FrW, KK, NmOk]) (by first | assumption | trivial | grind [Fin, I_Mo, NF, FrM, FrW, KK, NmOk]) (by first | assumption | trivial | grind [Fin, I_Mo, NF, FrM, FrW, KK, NmOk]) (by first | assumption | trivial | grind [Fin, I_Mo, NF, FrM, FrW, KK, NmOk]) (i_meas (by first | assumption | trivial | grind [Fin, I_Mo, NF, FrM, FrW, KK, NmOk]) (by first | assumption | trivial | grind [Fin, I_Mo, NF, FrM, FrW, KK, NmOk]) hm)
          · exact ih _ _ _ _ _ (by first | assumption | trivial | grind [Fin, I_Mo, NF, FrM, FrW, KK, NmOk]) (by first | assumption | trivial | grind [Fin, I_Mo, NF, FrM, FrW, KK, NmOk]) (by first | assumption | trivial | grind [Fin, I_Mo, NF, FrM, FrW, KK, NmOk]) (by first | assumption | trivial | grind [Fin, I_Mo, NF, FrM, FrW, KK, NmOk]) (i_meas (by first | assumption | trivial | grind [Fin, I_Mo, NF, FrM, FrW, KK, NmOk]) (by first | assumption | trivial | grind [Fin, I_Mo, NF, FrM, FrW, KK, NmOk]) hm)
      · exact ih _ _ _ _ _ (by first | assumption | trivial | grind [Fin, I_Mo, NF, FrM, FrW, KK, NmOk]) (by first | assumption | trivial | grind [Fin, I_Mo, NF, FrM, FrW, KK, NmOk]) (by first | assumption | trivial | grind [Fin, I_Mo, NF, FrM, FrW, KK, NmOk]) (by first | assumption | trivial | grind [Fin, I_Mo, NF, FrM, FrW, KK, NmOk]) (i_meas (by first | assumption | trivial | grind [Fin, I_Mo, NF, FrM, FrW, KK, NmOk]) (by first | assumption | trivial | grind [Fin, I_Mo, NF, FrM, FrW, KK, NmOk]) hm)
set_option maxHeartbeats 4000000 in
theorem s_Mo_uses {z_this : T_Mo} {a1 : Int32} {a2 : Int32} {a3 : Int32} {post : Int32 → Unit → Prop} (p0 : Fin z_this) (hp : ∀ r u, (r = 0 ∨ r = 1) → post r u) : wp_Mo_uses z_this a1 a2 a3 post := by
  unfold wp_Mo_uses
  refine ⟨5000, l_Mo_uses_L6 (fun x1 x2 x3 x4 x5 hv0 => ?_) (fun r u hq => hp r u hq) 5000 _ _ _ _ _ (by first | assumption | trivial | grind [Fin, I_Mo, NF, FrM, FrW, KK, NmOk]) (by first | assumption | trivial | grind [Fin, I_Mo, NF, FrM, FrW, KK, NmOk]) (by first | assumption | trivial | grind [Fin, I_Mo, NF, FrM, FrW, KK, NmOk]) (by first | assumption | trivial | grind [Fin, I_Mo, NF, FrM, FrW, KK, NmOk]) (by decide)⟩
  refine ⟨(nar01 (by first | assumption | trivial | grind [Fin, I_Mo, NF, FrM, FrW, KK, NmOk])), ?_⟩
  exact hp _ _ (by first | assumption | trivial | grind [Fin, I_Mo, NF, FrM, FrW, KK, NmOk])
set_option maxHeartbeats 4000000 in
theorem s_Mo_isRemark_J104 {z_this : T_Mo} {post : Int32 → Unit → Prop} {x1 : Int32} {x2 : Int32} {x3 : Int32} {x4 : Int32} {y0 : Int32} (p0 : (y0 = 0 ∨ y0 = 1)) (hp : ∀ r u, (r = 0 ∨ r = 1) → post r u) : wp_Mo_isRemark_J104 z_this post x1 x2 x3 x4 y0 := by
  unfold wp_Mo_isRemark_J104
  refine ⟨(nar01 (by first | assumption | trivial | grind [Fin, I_Mo, NF, FrM, FrW, KK, NmOk])), ?_⟩
  exact hp _ _ (by first | assumption | trivial | grind [Fin, I_Mo, NF, FrM, FrW, KK, NmOk])
set_option maxHeartbeats 4000000 in
theorem s_Mo_isRemark_J103 {z_this : T_Mo} {post : Int32 → Unit → Prop} {x1 : Int32} {x2 : Int32} {x3 : Int32} {x4 : Int32} (hp : ∀ r u, (r = 0 ∨ r = 1) → post r u) : wp_Mo_isRemark_J103 z_this post x1 x2 x3 x4 := by
  unfold wp_Mo_isRemark_J103
  exact s_Mo_isRemark_J104 (by first | assumption | trivial | grind [Fin, I_Mo, NF, FrM, FrW, KK, NmOk]) (fun r u hq => hp r u hq)
set_option maxHeartbeats 4000000 in
theorem s_Mo_isRemark_J132 {z_this : T_Mo} {post : Int32 → Unit → Prop} {x1 : Int32} {x2 : Int32} {x3 : Int32} {x4 : Int32} {y0 : Int32} (p0 : (y0 = 0 ∨ y0 = 1)) (hp : ∀ r u, (r = 0 ∨ r = 1) → post r u) : wp_Mo_isRemark_J132 z_this post x1 x2 x3 x4 y0 := by
  unfold wp_Mo_isRemark_J132
  refine ⟨(nar01 (by first | assumption | trivial | grind [Fin, I_Mo, NF, FrM, FrW, KK, NmOk])), ?_⟩
  exact hp _ _ (by first | assumption | trivial | grind [Fin, I_Mo, NF, FrM, FrW, KK, NmOk])
set_option maxHeartbeats 4000000 in
theorem s_Mo_isRemark_J131 {z_this : T_Mo} {post : Int32 → Unit → Prop} {x1 : Int32} {x2 : Int32} {x3 : Int32} {x4 : Int32} (hp : ∀ r u, (r = 0 ∨ r = 1) → post r u) : wp_Mo_isRemark_J131 z_this post x1 x2 x3 x4 := by
  unfold wp_Mo_isRemark_J131
  exact s_Mo_isRemark_J132 (by first | assumption | trivial | grind [Fin, I_Mo, NF, FrM, FrW, KK, NmOk]) (fun r u hq => hp r u hq)
set_option maxHeartbeats 4000000 in
theorem s_Mo_isRemark_J164 {z_this : T_Mo} {post : Int32 → Unit → Prop} {x1 : Int32} {x2 : Int32} {x3 : Int32} {x4 : Int32} {y0 : Int32} (p0 : (y0 = 0 ∨ y0 = 1)) (hp : ∀ r u, (r = 0 ∨ r = 1) → post r u) : wp_Mo_isRemark_J164 z_this post x1 x2 x3 x4 y0 := by
  unfold wp_Mo_isRemark_J164
  refine ⟨(nar01 (by first | assumption | trivial | grind [Fin, I_Mo, NF, FrM, FrW, KK, NmOk])), ?_⟩
  exact hp _ _ (by first | assumption | trivial | grind [Fin, I_Mo, NF, FrM, FrW, KK, NmOk])
set_option maxHeartbeats 4000000 in
theorem s_Mo_isRemark_J163 {z_this : T_Mo} {post : Int32 → Unit → Prop} {x1 : Int32} {x2 : Int32} {x3 : Int32} {x4 : Int32} (hp : ∀ r u, (r = 0 ∨ r = 1) → post r u) : wp_Mo_isRemark_J163 z_this post x1 x2 x3 x4 := by
  unfold wp_Mo_isRemark_J163
  exact s_Mo_isRemark_J164 (by first | assumption | trivial | grind [Fin, I_Mo, NF, FrM, FrW, KK, NmOk]) (fun r u hq => hp r u hq)
set_option maxHeartbeats 4000000 in
theorem s_Mo_isRemark_J188 {z_this : T_Mo} {post : Int32 → Unit → Prop} {x1 : Int32} {x2 : Int32} {x3 : Int32} {x4 : Int32} {y0 : Int32} (p0 : (y0 = 0 ∨ y0 = 1)) (hp : ∀ r u, (r = 0 ∨ r = 1) → post r u) : wp_Mo_isRemark_J188 z_this post x1 x2 x3 x4 y0 := by
  unfold wp_Mo_isRemark_J188
  refine ⟨(nar01 (by first | assumption | trivial | grind [Fin, I_Mo, NF, FrM, FrW, KK, NmOk])), ?_⟩
  exact hp _ _ (by first | assumption | trivial | grind [Fin, I_Mo, NF, FrM, FrW, KK, NmOk])
set_option maxHeartbeats 4000000 in
theorem s_Mo_isRemark_J187 {z_this : T_Mo} {post : Int32 → Unit → Prop} {x1 : Int32} {x2 : Int32} {x3 : Int32} {x4 : Int32} (hp : ∀ r u, (r = 0 ∨ r = 1) → post r u) : wp_Mo_isRemark_J187 z_this post x1 x2 x3 x4 := by
  unfold wp_Mo_isRemark_J187
  exact s_Mo_isRemark_J188 (by first | assumption | trivial | grind [Fin, I_Mo, NF, FrM, FrW, KK, NmOk]) (fun r u hq => hp r u hq)
set_option maxHeartbeats 4000000 in
theorem s_Mo_isRemark_J211 {z_this : T_Mo} {post : Int32 → Unit → Prop} {x1 : Int32} {x2 : Int32} {x3 : Int32} {x4 : Int32} {y0 : Int32} (p0 : (y0 = 0 ∨ y0 = 1)) (hp : ∀ r u, (r = 0 ∨ r = 1) → post r u) : wp_Mo_isRemark_J211 z_this post x1 x2 x3 x4 y0 := by
  unfold wp_Mo_isRemark_J211
  refine ⟨(nar01 (by first | assumption | trivial | grind [Fin, I_Mo, NF, FrM, FrW, KK, NmOk])), ?_⟩
  exact hp _ _ (by first | assumption | trivial | grind [Fin, I_Mo, NF, FrM, FrW, KK, NmOk])
set_option maxHeartbeats 4000000 in
theorem s_Mo_isRemark_J210 {z_this : T_Mo} {post : Int32 → Unit → Prop} {x1 : Int32} {x2 : Int32} {x3 : Int32} {x4 : Int32} (hp : ∀ r u, (r = 0 ∨ r = 1) → post r u) : wp_Mo_isRemark_J210 z_this post x1 x2 x3 x4 := by
  unfold wp_Mo_isRemark_J210
  exact s_Mo_isRemark_J211 (by first | assumption | trivial | grind [Fin, I_Mo, NF, FrM, FrW, KK, NmOk]) (fun r u hq => hp r u hq)
set_option maxHeartbeats 4000000 in
theorem s_Mo_isRemark_J49 {z_this : T_Mo} {post : Int32 → Unit → Prop} {x1 : Int32} {x2 : Int32} {x3 : Int32} {y0 : Int32} (p0 : Fin z_this) (p1 : (0 : Int32) ≤ x2) (p2 : (x3 = -1 ∨ x2 < z_this.2.2.1.1.2)) (p3 : (y0 = -1 ∨ (x2 < z_this.2.1.2.2.2.2 ∧ y0 = z_this.1.2.1.2.2.2 (((1000 : Int32) * z_this.1.2.1.2.1) + x2).toNatClampNeg))) (hp : ∀ r u, (r = 0 ∨ r = 1) → post r u) : wp_Mo_isRemark_J49 z_this post x1 x2 x3 y0 := by
  unfold wp_Mo_isRemark_J49
  refine ⟨fun h0 => ?_, fun h1 => ?_, fun h2 => ?_, fun h3 => ?_, fun h4 => ?_⟩
  · refine ⟨fun h5 => ?_, fun h6 => ?_⟩
    · refine ⟨(vin (c := 100) (by first | assumption | trivial | grind [Fin, I_Mo, NF, FrM, FrW, KK, NmOk]) (by first | assumption | trivial | grind [Fin, I_Mo, NF, FrM, FrW, KK, NmOk]) rfl), ?_⟩
      refine ⟨fun h7 => ?_, fun h8 => ?_⟩
      · exact s_Mo_isRemark_J104 (by first | assumption | trivial | grind [Fin, I_Mo, NF, FrM, FrW, KK, NmOk]) (fun r u hq => hp r u hq)
      · exact s_Mo_isRemark_J103 (fun r u hq => hp r u hq)
    · exact s_Mo_isRemark_J103 (fun r u hq => hp r u hq)
  · refine ⟨fun h5 => ?_, fun h6 => ?_⟩
    · exact s_Mo_isRemark_J131 (fun r u hq => hp r u hq)
    · refine ⟨fun h7 => ?_, fun h8 => ?_⟩
      · exact s_Mo_isRemark_J131 (fun r u hq => hp r u hq)
      · refine s_Mo_isBehind (by first | assumption | trivial | grind [Fin, I_Mo, NF, FrM, FrW, KK, NmOk]) (fun r1 u1 hq9 => ?_)
        refine ⟨fun h10 => ?_, fun h11 => ?_⟩
        · exact s_Mo_isRemark_J131 (fun r u hq => hp r u hq)
        · exact s_Mo_isRemark_J132 (by first | assumption | trivial | grind [Fin, I_Mo, NF, FrM, FrW, KK, NmOk]) (fun r u hq => hp r u hq)
  · refine ⟨fun h5 => ?_, fun h6 => ?_⟩
    · refine s_Mo_node1F (by first | assumption | trivial | grind [Fin, I_Mo, NF, FrM, FrW, KK, NmOk]) (by first | assumption | trivial | grind [Fin, I_Mo, NF, FrM, FrW, KK, NmOk]) (fun r2 u2 hq7 => ?_)
      refine ⟨(vin (c := 2000) (by first | assumption | trivial | grind [Fin, I_Mo, NF, FrM, FrW, KK, NmOk]) (by first | assumption | trivial | grind [Fin, I_Mo, NF, FrM, FrW, KK, NmOk]) rfl), ?_⟩
      refine ⟨(vin (c := 64) (by first | assumption | trivial | grind [Fin, I_Mo, NF, FrM, FrW, KK, NmOk]) (by first | assumption | trivial | grind [Fin, I_Mo, NF, FrM, FrW, KK, NmOk]) rfl), ?_⟩
      refine ⟨fun h8 => ?_, fun h9 => ?_⟩
      · exact s_Mo_isRemark_J163 (fun r u hq => hp r u hq)
      · exact s_Mo_isRemark_J164 (by first | assumption | trivial | grind [Fin, I_Mo, NF, FrM, FrW, KK, NmOk]) (fun r u hq => hp r u hq)
    · exact s_Mo_isRemark_J163 (fun r u hq => hp r u hq)
  · refine ⟨fun h5 => ?_, fun h6 => ?_⟩
    · refine s_Mo_uses (by first | assumption | trivial | grind [Fin, I_Mo, NF, FrM, FrW, KK, NmOk]) (fun r3 u3 hq7 => ?_)
      refine ⟨fun h8 => ?_, fun h9 => ?_⟩
      · exact s_Mo_isRemark_J188 (by first | assumption | trivial | grind [Fin, I_Mo, NF, FrM, FrW, KK, NmOk]) (fun r u hq => hp r u hq)
      · exact s_Mo_isRemark_J187 (fun r u hq => hp r u hq)
    · exact s_Mo_isRemark_J187 (fun r u hq => hp r u hq)
  · refine ⟨fun h5 => ?_, fun h6 => ?_⟩
    · refine s_Mo_uses (by first | assumption | trivial | grind [Fin, I_Mo, NF, FrM, FrW, KK, NmOk]) (fun r4 u4 hq7 => ?_)
      refine ⟨fun h8 => ?_, fun h9 => ?_⟩
      · exact s_Mo_isRemark_J211 (by first | assumption | trivial | grind [Fin, I_Mo, NF, FrM, FrW, KK, NmOk]) (fun r u hq => hp r u hq)
      · exact s_Mo_isRemark_J210 (fun r u hq => hp r u hq)
    · exact s_Mo_isRemark_J210 (fun r u hq => hp r u hq)
set_option maxHeartbeats 4000000 in
theorem s_Mo_isRemark_J26 {z_this : T_Mo} {post : Int32 → Unit → Prop} {x1 : Int32} {x2 : Int32} {y0 : Int32} (p0 : Fin z_this) (p1 : (0 : Int32) ≤ x2) (p2 : (y0 = -1 ∨ x2 < z_this.2.2.1.1.2)) (hp : ∀ r u, (r = 0 ∨ r = 1) → post r u) : wp_Mo_isRemark_J26 z_this post x1 x2 y0 := by
  unfold wp_Mo_isRemark_J26
  refine ⟨fun h0 => ?_, fun h1 => ?_⟩
  · exact s_Mo_isRemark_J49 (by first | assumption | trivial | grind [Fin, I_Mo, NF, FrM, FrW, KK, NmOk]) (by first | assumption | trivial | grind [Fin, I_Mo, NF, FrM, FrW, KK, NmOk]) (by first | assumption | trivial | grind [Fin, I_Mo, NF, FrM, FrW, KK, NmOk]) (by first | assumption | trivial | grind [Fin, I_Mo, NF, FrM, FrW, KK, NmOk]) (fun r u hq => hp r u hq)
  · refine s_Mo_node1F (by first | assumption | trivial | grind [Fin, I_Mo, NF, FrM, FrW, KK, NmOk]) (by first | assumption | trivial | grind [Fin, I_Mo, NF, FrM, FrW, KK, NmOk]) (fun r5 u5 hq2 => ?_)
    refine ⟨(vin (c := 2000) (by first | assumption | trivial | grind [Fin, I_Mo, NF, FrM, FrW, KK, NmOk]) (by first | assumption | trivial | grind [Fin, I_Mo, NF, FrM, FrW, KK, NmOk]) rfl), ?_⟩
    exact s_Mo_isRemark_J49 (by first | assumption | trivial | grind [Fin, I_Mo, NF, FrM, FrW, KK, NmOk]) (by first | assumption | trivial | grind [Fin, I_Mo, NF, FrM, FrW, KK, NmOk]) (by first | assumption | trivial | grind [Fin, I_Mo, NF, FrM, FrW, KK, NmOk]) (by first | assumption | trivial | grind [Fin, I_Mo, NF, FrM, FrW, KK, NmOk]) (fun r u hq => hp r u hq)
set_option maxHeartbeats 4000000 in
theorem s_Mo_isRemark {z_this : T_Mo} {a1 : Int32} {a2 : Int32} {post : Int32 → Unit → Prop} (p0 : Fin z_this) (p1 : (0 : Int32) ≤ a2) (hp : ∀ r u, (r = 0 ∨ r = 1) → post r u) : wp_Mo_isRemark z_this a1 a2 post := by
  unfold wp_Mo_isRemark
  refine ⟨fun h0 => ?_, fun h1 => ?_⟩
  · exact s_Mo_isRemark_J26 (by first | assumption | trivial | grind [Fin, I_Mo, NF, FrM, FrW, KK, NmOk]) (by first | assumption | trivial | grind [Fin, I_Mo, NF, FrM, FrW, KK, NmOk]) (by first | assumption | trivial | grind [Fin, I_Mo, NF, FrM, FrW, KK, NmOk]) (fun r u hq => hp r u hq)
  · refine ⟨(vin (c := 200) (by first | assumption | trivial | grind [Fin, I_Mo, NF, FrM, FrW, KK, NmOk]) (by first | assumption | trivial | grind [Fin, I_Mo, NF, FrM, FrW, KK, NmOk]) rfl), ?_⟩
    exact s_Mo_isRemark_J26 (by first | assumption | trivial | grind [Fin, I_Mo, NF, FrM, FrW, KK, NmOk]) (by first | assumption | trivial | grind [Fin, I_Mo, NF, FrM, FrW, KK, NmOk]) (by first | assumption | trivial | grind [Fin, I_Mo, NF, FrM, FrW, KK, NmOk]) (fun r u hq => hp r u hq)
