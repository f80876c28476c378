set_option maxHeartbeats 4000000 in
theorem s_St_unit {z_this : T_St} {z_this_words : T_Wd} {a1 : Int32} {post : Int32 → T_Wd → Prop} (p0 : I_Wd z_this_words) (hp : ∀ r u, (I_Wd u ∧ ((((1 : Int32) ≤ a1 ∧ a1 ≤ 127 ∧ z_this_words.2.2.2.2.2.1 < 4000) ∧ r = 1 ∧ u.2.2.2.2.2.1 = z_this_words.2.2.2.2.2.1 + 1) ∨ (¬ ((1 : Int32) ≤ a1 ∧ a1 ≤ 127 ∧ z_this_words.2.2.2.2.2.1 < 4000) ∧ r = 0 ∧ u.2.2.2.2.2.1 = z_this_words.2.2.2.2.2.1))) → post r u) : wp_St_unit z_this z_this_words a1 post := by
  unfold wp_St_unit
  refine s_Wd_append (by first | assumption | trivial | grind [I_Nm, I_Nd, I_Wd, I_Wd0, I_Pg, bt]) (fun r1 u1 hq0 => ?_)
  refine ⟨(nar01 (by first | assumption | trivial | grind [I_Nm, I_Nd, I_Wd, I_Wd0, I_Pg, bt])), ?_⟩
  exact hp _ _ (by first | assumption | trivial | grind [I_Nm, I_Nd, I_Wd, I_Wd0, I_Pg, bt])
set_option maxHeartbeats 4000000 in
theorem s_St_what {z_this : T_St} {z_this_program : T_Pr} {z_this_program_nodes : T_Nd} {a1 : Int32} {post : Int32 → Unit → Prop} (hp : ∀ r u, True → post r u) : wp_St_what z_this z_this_program z_this_program_nodes a1 post := by
  unfold wp_St_what
  refine s_Pr_nodes (fun r1 u1 hq0 => ?_)
  refine s_Nd_kindOf (fun r2 u2 hq1 => ?_)
  exact hp _ _ (by first | assumption | trivial | grind [I_Nm, I_Nd, I_Wd, I_Wd0, I_Pg, bt])
set_option maxHeartbeats 4000000 in
theorem s_St_child {z_this : T_St} {z_this_program : T_Pr} {z_this_program_nodes : T_Nd} {a1 : Int32} {a2 : Int32} {post : Int32 → Unit → Prop} (hp : ∀ r u, True → post r u) : wp_St_child z_this z_this_program z_this_program_nodes a1 a2 post := by
  unfold wp_St_child
  refine s_Pr_nodes (fun r1 u1 hq0 => ?_)
  refine s_Nd_heldBy (fun r2 u2 hq1 => ?_)
  exact hp _ _ (by first | assumption | trivial | grind [I_Nm, I_Nd, I_Wd, I_Wd0, I_Pg, bt])
set_option maxHeartbeats 4000000 in
theorem s_St_line {z_this : T_St} {z_this_program : T_Pr} {z_this_program_nodes : T_Nd} {a1 : Int32} {post : Int32 → Unit → Prop} (hp : ∀ r u, True → post r u) : wp_St_line z_this z_this_program z_this_program_nodes a1 post := by
  unfold wp_St_line
  refine s_Pr_nodes (fun r1 u1 hq0 => ?_)
  refine s_Nd_rowOf (fun r2 u2 hq1 => ?_)
  exact hp _ _ (by first | assumption | trivial | grind [I_Nm, I_Nd, I_Wd, I_Wd0, I_Pg, bt])
set_option maxHeartbeats 4000000 in
theorem s_St_number {z_this : T_St} {z_this_program : T_Pr} {z_this_program_nodes : T_Nd} {a1 : Int32} {a2 : Int32} {post : Int64 → Unit → Prop} (hp : ∀ r u, True → post r u) : wp_St_number z_this z_this_program z_this_program_nodes a1 a2 post := by
  unfold wp_St_number
  refine s_Pr_nodes (fun r1 u1 hq0 => ?_)
  refine s_Nd_has (fun r2 u2 hq1 => ?_)
  refine ⟨fun h2 => ?_, fun h3 => ?_⟩
  · exact hp _ _ (by first | assumption | trivial | grind [I_Nm, I_Nd, I_Wd, I_Wd0, I_Pg, bt])
  · refine ⟨fun h4 => ?_, fun h5 => ?_⟩
    · exact hp _ _ (by first | assumption | trivial | grind [I_Nm, I_Nd, I_Wd, I_Wd0, I_Pg, bt])
    · refine ⟨fun h6 => ?_, fun h7 => ?_⟩
      · refine ⟨fun h8 => ?_, fun h9 => ?_⟩
        · refine s_Nd_valueOf (fun r4 u4 hq10 => ?_)
          exact hp _ _ (by first | assumption | trivial | grind [I_Nm, I_Nd, I_Wd, I_Wd0, I_Pg, bt])
        · refine s_Nd_sizeOf (fun r3 u3 hq10 => ?_)
          exact hp _ _ (by first | assumption | trivial | grind [I_Nm, I_Nd, I_Wd, I_Wd0, I_Pg, bt])
      · exact hp _ _ (by first | assumption | trivial | grind [I_Nm, I_Nd, I_Wd, I_Wd0, I_Pg, bt])
set_option maxHeartbeats 4000000 in
theorem s_St_unitOf {z_this : T_St} {z_this_program : T_Pr} {z_this_program_nodes : T_Nd} {a1 : Int32} {post : Int32 → Unit → Prop} (hp : ∀ r u, True → post r u) : wp_St_unitOf z_this z_this_program z_this_program_nodes a1 post := by
  unfold wp_St_unitOf
  refine s_Pr_nodes (fun r1 u1 hq0 => ?_)
  refine s_Nd_has (fun r2 u2 hq1 => ?_)
  refine ⟨fun h2 => ?_, fun h3 => ?_⟩
  · exact hp _ _ (by first | assumption | trivial | grind [I_Nm, I_Nd, I_Wd, I_Wd0, I_Pg, bt])
  · refine s_Nd_kindOf (fun r3 u3 hq4 => ?_)
    refine ⟨fun h5 => ?_, fun h6 => ?_⟩
    · exact hp _ _ (by first | assumption | trivial | grind [I_Nm, I_Nd, I_Wd, I_Wd0, I_Pg, bt])
    · refine s_Nd_measureOf (fun r4 u4 hq7 => ?_)
      exact hp _ _ (by first | assumption | trivial | grind [I_Nm, I_Nd, I_Wd, I_Wd0, I_Pg, bt])
set_option maxHeartbeats 4000000 in
theorem s_St_isBarred {z_this : T_St} {a1 : Int32} {post : Int32 → Unit → Prop} (hp : ∀ r u, ((r = 1 ∧ (0 : Int32) ≤ a1 ∧ a1 < 64 ∧ bt z_this.2 a1) ∨ (r = 0 ∧ ¬ ((0 : Int32) ≤ a1 ∧ a1 < 64 ∧ bt z_this.2 a1))) → post r u) : wp_St_isBarred z_this a1 post := by
  unfold wp_St_isBarred
  refine ⟨fun h0 => ?_, fun h1 => ?_⟩
  · exact hp _ _ (by first | assumption | trivial | grind [I_Nm, I_Nd, I_Wd, I_Wd0, I_Pg, bt])
  · refine ⟨fun h2 => ?_, fun h3 => ?_⟩
    · exact hp _ _ (by first | assumption | trivial | grind [I_Nm, I_Nd, I_Wd, I_Wd0, I_Pg, bt])
    · refine ⟨fun h4 => ?_, fun h5 => ?_⟩
      · exact hp _ _ (by first | assumption | trivial | grind [I_Nm, I_Nd, I_Wd, I_Wd0, I_Pg, bt])
      · exact hp _ _ (by first | assumption | trivial | grind [I_Nm, I_Nd, I_Wd, I_Wd0, I_Pg, bt])
set_option maxHeartbeats 4000000 in
theorem s_St_bar {z_this : T_St} {a1 : Int32} {post : Int32 → T_St → Prop} (hp : ∀ r u, ((((0 : Int32) ≤ a1 ∧ a1 < 64 ∧ ¬ bt z_this.2 a1) ∧ r = 1 ∧ u.2 = z_this.2 ||| ((1 : Int64) <<< ((a1).toInt64 &&& 63))) ∨ (¬ ((0 : Int32) ≤ a1 ∧ a1 < 64 ∧ ¬ bt z_this.2 a1) ∧ r = 0 ∧ u.2 = z_this.2)) → post r u) : wp_St_bar z_this a1 post := by
  unfold wp_St_bar
  refine ⟨fun h0 => ?_, fun h1 => ?_⟩
  · exact hp _ _ (by first | assumption | trivial | grind [I_Nm, I_Nd, I_Wd, I_Wd0, I_Pg, bt])
  · refine ⟨fun h2 => ?_, fun h3 => ?_⟩
    · exact hp _ _ (by first | assumption | trivial | grind [I_Nm, I_Nd, I_Wd, I_Wd0, I_Pg, bt])
    · refine s_St_isBarred (fun r1 u1 hq4 => ?_)
      refine ⟨fun h5 => ?_, fun h6 => ?_⟩
      · exact hp _ _ (by first | assumption | trivial | grind [I_Nm, I_Nd, I_Wd, I_Wd0, I_Pg, bt])
      · exact hp _ _ (by first | assumption | trivial | grind [I_Nm, I_Nd, I_Wd, I_Wd0, I_Pg, bt])
set_option maxHeartbeats 4000000 in
theorem s_St_isRemarked {z_this : T_St} {z_this_program : T_Pr} {z_this_program_names : T_Nm} {z_this_program_nodes : T_Nd} {a1 : Int32} {a2 : Int32} {post : Int32 → Unit → Prop} (hp : ∀ r u, (r = 0 ∨ r = 1) → post r u) : wp_St_isRemarked z_this z_this_program z_this_program_names z_this_program_nodes a1 a2 post := by
  unfold wp_St_isRemarked
  refine ⟨fun h0 => ?_, fun h1 => ?_, fun h2 => ?_, fun h3 => ?_, fun h4 => ?_⟩
  · refine s_Pr_names (fun r1 u1 hq5 => ?_)
    refine s_Nm_isUnused (fun r2 u2 hq6 => ?_)
    refine ⟨(nar01 (by first | assumption | trivial | grind [I_Nm, I_Nd, I_Wd, I_Wd0, I_Pg, bt])), ?_⟩
    exact hp _ _ (by first | assumption | trivial | grind [I_Nm, I_Nd, I_Wd, I_Wd0, I_Pg, bt])
  · refine s_Pr_nodes (fun r3 u3 hq5 => ?_)
    refine s_Nd_isLate (fun r4 u4 hq6 => ?_)
    refine ⟨(nar01 (by first | assumption | trivial | grind [I_Nm, I_Nd, I_Wd, I_Wd0, I_Pg, bt])), ?_⟩
    exact hp _ _ (by first | assumption | trivial | grind [I_Nm, I_Nd, I_Wd, I_Wd0, I_Pg, bt])
  · refine s_Pr_nodes (fun r5 u5 hq5 => ?_)
    refine s_Nd_kindOf (fun r6 u6 hq6 => ?_)
    refine ⟨fun h7 => ?_, fun h8 => ?_⟩
    · refine s_Pr_nodes (fun r7 u7 hq9 => ?_)
      refine s_Nd_subjectOf (fun r8 u8 hq10 => ?_)
      refine s_St_isBarred (fun r9 u9 hq11 => ?_)
      refine ⟨fun h12 => ?_, fun h13 => ?_⟩
      · exact hp _ _ (by first | assumption | trivial | grind [I_Nm, I_Nd, I_Wd, I_Wd0, I_Pg, bt])
      · exact hp _ _ (by first | assumption | trivial | grind [I_Nm, I_Nd, I_Wd, I_Wd0, I_Pg, bt])
    · exact hp _ _ (by first | assumption | trivial | grind [I_Nm, I_Nd, I_Wd, I_Wd0, I_Pg, bt])
  · refine s_Pr_names (fun r10 u10 hq5 => ?_)
    refine s_Nm_isUnused (fun r11 u11 hq6 => ?_)
    refine ⟨(nar01 (by first | assumption | trivial | grind [I_Nm, I_Nd, I_Wd, I_Wd0, I_Pg, bt])), ?_⟩
    exact hp _ _ (by first | assumption | trivial | grind [I_Nm, I_Nd, I_Wd, I_Wd0, I_Pg, bt])
  · refine s_Pr_names (fun r12 u12 hq5 => ?_)
    refine s_Nm_isUnused (fun r13 u13 hq6 => ?_)
    refine ⟨(nar01 (by first | assumption | trivial | grind [I_Nm, I_Nd, I_Wd, I_Wd0, I_Pg, bt])), ?_⟩
    exact hp _ _ (by first | assumption | trivial | grind [I_Nm, I_Nd, I_Wd, I_Wd0, I_Pg, bt])
set_option maxHeartbeats 4000000 in
theorem l_St_check_L78 {z_this : T_St} {z_this_program : T_Pr} {z_this_program_names : T_Nm} {z_this_program_nodes : T_Nd} {K : Int32 → Int32 → Int32 → Int32 → Int32 → Int32 → Int32 → Prop} {post : Int32 → Unit → Prop} {c4 : Int32} (hK : ∀ x1 x2 x3 x4 x5 x6 x7, ((0 : Int32) ≤ x7 ∧ x7 ≤ x6 ∧ x4 = c4) → K x1 x2 x3 x4 x5 x6 x7) (hp : ∀ r u, True → post r u) : ∀ (n9 : Nat) (x1 : Int32) (x2 : Int32) (x3 : Int32) (x4 : Int32) (x5 : Int32) (x6 : Int32) (x7 : Int32), (0 : Int32) ≤ x7 → x7 ≤ x6 → x4 = c4 → (x6 : Int32).toInt - (x7).toInt < ((n9 : Nat) : Int) → wp_St_check_L78 z_this z_this_program z_this_program_names z_this_program_nodes K post n9 x1 x2 x3 x4 x5 x6 x7 := by
  intro n9
  induction n9 with
  | zero => intro x1 x2 x3 x4 x5 x6 x7 i0 i1 i2 hm; exact (i_meas0 i1 hm).elim
  | succ n9 ih =>
    intro x1 x2 x3 x4 x5 x6 x7 i0 i1 i2 hm
    rw [wp_St_check_L78]
    refine ⟨fun h0 => ?_, fun h1 => ?_⟩
    · exact hK _ _ _ _ _ _ _ (by first | assumption | trivial | grind [I_Nm, I_Nd, I_Wd, I_Wd0, I_Pg, bt])
    · refine s_St_isRemarked (fun r3 u3 hq2 => ?_)
      refine ⟨fun h3 => ?_, fun h4 => ?_⟩
      · exact ih _ _ _ _ _ _ _ (by first | assumption | trivial | grind [I_Nm, I_Nd, I_Wd, I_Wd0, I_Pg, bt]) (by first | assumption | trivial | grind [I_Nm, I_Nd, I_Wd, I_Wd0, I_Pg, bt]) (by first | assumption | trivial | grind [I_Nm, I_Nd, I_Wd, I_Wd0, I_Pg, bt]) (i_meas (by first | assumption | trivial | grind [I_Nm, I_Nd, I_Wd, I_Wd0, I_Pg, bt]) (by first | assumption | trivial | grind [I_Nm, I_Nd, I_Wd, I_Wd0, I_Pg, bt]) hm)
      · refine ⟨fun h5 => ?_, fun h6 => ?_⟩
        · refine ⟨fun h7 => ?_, fun h8 => ?_⟩
          · exact hp _ _ (by first | assumption | trivial | grind [I_Nm, I_Nd, I_Wd, I_Wd0, I_Pg, bt])
          · exact hp _ _ (by first | assumption | trivial | grind [I_Nm, I_Nd, I_Wd, I_Wd0, I_Pg, bt])
        · exact ih _ _ _ _ _ _ _ (by first | assumption | trivial | grind [I_Nm, I_Nd, I_Wd, I_Wd0, I_Pg, bt]) (by first | assumption | trivial | grind [I_Nm, I_Nd, I_Wd, I_Wd0, I_Pg, bt]) (by first | assumption | trivial | grind [I_Nm, I_Nd, I_Wd, I_Wd0, I_Pg, bt]) (i_meas (by first | assumption | trivial | grind [I_Nm, I_Nd, I_Wd, I_Wd0, I_Pg, bt]) (by first | assumption | trivial | grind [I_Nm, I_Nd, I_Wd, I_Wd0, I_Pg, bt]) hm)
set_option maxHeartbeats 4000000 in
theorem l_St_check_L20 {z_this : T_St} {z_this_program : T_Pr} {z_this_program_names : T_Nm} {z_this_program_nodes : T_Nd} {K : Int32 → Int32 → Int32 → Int32 → Prop} {post : Int32 → Unit → Prop} (hK : ∀ x1 x2 x3 x4, ((0 : Int32) ≤ x4 ∧ x4 ≤ 6 ∧ I_Nm z_this_program_names ∧ I_Nd z_this_program_nodes) → K x1 x2 x3 x4) (hp : ∀ r u, True → post r u) : ∀ (n9 : Nat) (x1 : Int32) (x2 : Int32) (x3 : Int32) (x4 : Int32), (0 : Int32) ≤ x4 → x4 ≤ 6 → I_Nm z_this_program_names → I_Nd z_this_program_nodes → (6 : Int32).toInt - (x4).toInt < ((n9 : Nat) : Int) → wp_St_check_L20 z_this z_this_program z_this_program_names z_this_program_nodes K post n9 x1 x2 x3 x4 := by
  intro n9
  induction n9 with
  | zero => intro x1 x2 x3 x4 i0 i1 i2 i3 hm; exact (i_meas0 i1 hm).elim
  | succ n9 ih =>
    intro x1 x2 x3 x4 i0 i1 i2 i3 hm
    rw [wp_St_check_L20]
    refine ⟨fun h0 => ?_, fun h1 => ?_⟩
    · exact hK _ _ _ _ (by first | assumption | trivial | grind [I_Nm, I_Nd, I_Wd, I_Wd0, I_Pg, bt])
    · refine ⟨fun h2 => ?_, fun h3 => ?_⟩
      · refine ⟨fun h4 => ?_, fun h5 => ?_⟩
        · refine s_Pr_names (fun r1 u1 hq6 => ?_)
          refine s_Nm_count (by first | assumption | trivial | grind [I_Nm, I_Nd, I_Wd, I_Wd0, I_Pg, bt]) (fun r2 u2 hq7 => ?_)
          refine ⟨5000, l_St_check_L78 (c4 := x4) (fun x1 x2 x3 x4 x5 x6 x7 hv8 => ?_) (fun r u hq => hp r u hq) 5000 _ _ _ _ _ _ _ (by first | assumption | trivial | grind [I_Nm, I_Nd, I_Wd, I_Wd0, I_Pg, bt]) (by first | assumption | trivial | grind [I_Nm, I_Nd, I_Wd, I_Wd0, I_Pg, bt]) (by first | assumption | trivial | grind [I_Nm, I_Nd, I_Wd, I_Wd0, I_Pg, bt]) (c_ent (by first | assumption | trivial | grind [I_Nm, I_Nd, I_Wd, I_Wd0, I_Pg, bt]))⟩
          have e9 := hv8.2.2
          subst e9
          exact ih _ _ _ _ (by first | assumption | trivial | grind [I_Nm, I_Nd, I_Wd, I_Wd0, I_Pg, bt]) (by first | assumption | trivial | grind [I_Nm, I_Nd, I_Wd, I_Wd0, I_Pg, bt]) (by first | assumption | trivial | grind [I_Nm, I_Nd, I_Wd, I_Wd0, I_Pg, bt]) (by first | assumption | trivial | grind [I_Nm, I_Nd, I_Wd, I_Wd0, I_Pg, bt]) (i_meas (by first | assumption | trivial | grind [I_Nm, I_Nd, I_Wd, I_Wd0, I_Pg, bt]) (by first | assumption | trivial | grind [I_Nm, I_Nd, I_Wd, I_Wd0, I_Pg, bt]) hm)
        · refine s_Pr_nodes (fun r4 u4 hq6 => ?_)
          refine s_Nd_count (by first | assumption | trivial | grind [I_Nm, I_Nd, I_Wd, I_Wd0, I_Pg, bt]) (fun r5 u5 hq7 => ?_)
          refine ⟨5000, l_St_check_L78 (c4 := x4) (fun x1 x2 x3 x4 x5 x6 x7 hv8 => ?_) (fun r u hq => hp r u hq) 5000 _ _ _ _ _ _ _ (by first | assumption | trivial | grind [I_Nm, I_Nd, I_Wd, I_Wd0, I_Pg, bt]) (by first | assumption | trivial | grind [I_Nm, I_Nd, I_Wd, I_Wd0, I_Pg, bt]) (by first | assumption | trivial | grind [I_Nm, I_Nd, I_Wd, I_Wd0, I_Pg, bt]) (c_ent (by first | assumption | trivial | grind [I_Nm, I_Nd, I_Wd, I_Wd0, I_Pg, bt]))⟩
          have e9 := hv8.2.2
          subst e9
          exact ih _ _ _ _ (by first | assumption | trivial | grind [I_Nm, I_Nd, I_Wd, I_Wd0, I_Pg, bt]) (by first | assumption | trivial | grind [I_Nm, I_Nd, I_Wd, I_Wd0, I_Pg, bt]) (by first | assumption | trivial | grind [I_Nm, I_Nd, I_Wd, I_Wd0, I_Pg, bt]) (by first | assumption | trivial | grind [I_Nm, I_Nd, I_Wd, I_Wd0, I_Pg, bt]) (i_meas (by first | assumption | trivial | grind [I_Nm, I_Nd, I_Wd, I_Wd0, I_Pg, bt]) (by first | assumption | trivial | grind [I_Nm, I_Nd, I_Wd, I_Wd0, I_Pg, bt]) hm)
      · refine ⟨fun h4 => ?_, fun h5 => ?_⟩
        · refine ⟨fun h6 => ?_, fun h7 => ?_⟩
          · refine s_Pr_names (fun r10 u10 hq8 => ?_)
            refine s_Nm_count (by first | assumption | trivial | grind [I_Nm, I_Nd, I_Wd, I_Wd0, I_Pg, bt]) (fun r11 u11 hq9 => ?_)
            refine ⟨5000, l_St_check_L78 (c4 := x4) (fun x1 x2 x3 x4 x5 x6 x7 hv10 => ?_) (fun r u hq => hp r u hq) 5000 _ _ _ _ _ _ _ (by first | assumption | trivial | grind [I_Nm, I_Nd, I_Wd, I_Wd0, I_Pg, bt]) (by first | assumption | trivial | grind [I_Nm, I_Nd, I_Wd, I_Wd0, I_Pg, bt]) (by first | assumption | trivial | grind [I_Nm, I_Nd, I_Wd, I_Wd0, I_Pg, bt]) (c_ent (by first | assumption | trivial | grind [I_Nm, I_Nd, I_Wd, I_Wd0, I_Pg, bt]))⟩
            have e9 := hv10.2.2
            subst e9
            exact ih _ _ _ _ (by first | assumption | trivial | grind [I_Nm, I_Nd, I_Wd, I_Wd0, I_Pg, bt]) (by first | assumption | trivial | grind [I_Nm, I_Nd, I_Wd, I_Wd0, I_Pg, bt]) (by first | assumption | trivial | grind [I_Nm, I_Nd, I_Wd, I_Wd0, I_Pg, bt]) (by first | assumption | trivial | grind [I_Nm, I_Nd, I_Wd, I_Wd0, I_Pg, bt]) (i_meas (by first | assumption | trivial | grind [I_Nm, I_Nd, I_Wd, I_Wd0, I_Pg, bt]) (by first | assumption | trivial | grind [I_Nm, I_Nd, I_Wd, I_Wd0, I_Pg, bt]) hm)
          · refine s_Pr_nodes (fun r12 u12 hq8 => ?_)
            refine s_Nd_count (by first | assumption | trivial | grind [I_Nm, I_Nd, I_Wd, I_Wd0, I_Pg, bt]) (fun r13 u13 hq9 => ?_)
            refine ⟨5000, l_St_check_L78 (c4 := x4) (fun x1 x2 x3 x4 x5 x6 x7 hv10 => ?_) (fun r u hq => hp r u hq) 5000 _ _ _ _ _ _ _ (by first | assumption | trivial | grind [I_Nm, I_Nd, I_Wd, I_Wd0, I_Pg, bt]) (by first | assumption | trivial | grind [I_Nm, I_Nd, I_Wd, I_Wd0, I_Pg, bt]) (by first | assumption | trivial | grind [I_Nm, I_Nd, I_Wd, I_Wd0, I_Pg, bt]) (c_ent (by first | assumption | trivial | grind [I_Nm, I_Nd, I_Wd, I_Wd0, I_Pg, bt]))⟩
            have e9 := hv10.2.2
            subst e9
            exact ih _ _ _ _ (by first | assumption | trivial | grind [I_Nm, I_Nd, I_Wd, I_Wd0, I_Pg, bt]) (by first | assumption | trivial | grind [I_Nm, I_Nd, I_Wd, I_Wd0, I_Pg, bt]) (by first | assumption | trivial | grind [I_Nm, I_Nd, I_Wd, I_Wd0, I_Pg, bt]) (by first | assumption | trivial | grind [I_Nm, I_Nd, I_Wd, I_Wd0, I_Pg, bt]) (i_meas (by first | assumption | trivial | grind [I_Nm, I_Nd, I_Wd, I_Wd0, I_Pg, bt]) (by first | assumption | trivial | grind [I_Nm, I_Nd, I_Wd, I_Wd0, I_Pg, bt]) hm)
        · refine ⟨fun h6 => ?_, fun h7 => ?_⟩
          · refine s_Pr_names (fun r6 u6 hq8 => ?_)
            refine s_Nm_count (by first | assumption | trivial | grind [I_Nm, I_Nd, I_Wd, I_Wd0, I_Pg, bt]) (fun r7 u7 hq9 => ?_)
            refine ⟨5000, l_St_check_L78 (c4 := x4) (fun x1 x2 x3 x4 x5 x6 x7 hv10 => ?_) (fun r u hq => hp r u hq) 5000 _ _ _ _ _ _ _ (by first | assumption | trivial | grind [I_Nm, I_Nd, I_Wd, I_Wd0, I_Pg, bt]) (by first | assumption | trivial | grind [I_Nm, I_Nd, I_Wd, I_Wd0, I_Pg, bt]) (by first | assumption | trivial | grind [I_Nm, I_Nd, I_Wd, I_Wd0, I_Pg, bt]) (c_ent (by first | assumption | trivial | grind [I_Nm, I_Nd, I_Wd, I_Wd0, I_Pg, bt]))⟩
            have e9 := hv10.2.2
            subst e9
            exact ih _ _ _ _ (by first | assumption | trivial | grind [I_Nm, I_Nd, I_Wd, I_Wd0, I_Pg, bt]) (by first | assumption | trivial | grind [I_Nm, I_Nd, I_Wd, I_Wd0, I_Pg, bt]) (by first | assumption | trivial | grind [I_Nm, I_Nd, I_Wd, I_Wd0, I_Pg, bt]) (by first | assumption | trivial | grind [I_Nm, I_Nd, I_Wd, I_Wd0, I_Pg, bt]) (i_meas (by first | assumption | trivial | grind [I_Nm, I_Nd, I_Wd, I_Wd0, I_Pg, bt]) (by first | assumption | trivial | grind [I_Nm, I_Nd, I_Wd, I_Wd0, I_Pg, bt]) hm)
          · refine s_Pr_nodes (fun r8 u8 hq8 => ?_)
            refine s_Nd_count (by first | assumption | trivial | grind [I_Nm, I_Nd, I_Wd, I_Wd0, I_Pg, bt]) (fun r9 u9 hq9 => ?_)
            refine ⟨5000, l_St_check_L78 (c4 := x4) (fun x1 x2 x3 x4 x5 x6 x7 hv10 => ?_) (fun r u hq => hp r u hq) 5000 _ _ _ _ _ _ _ (by first | assumption | trivial | grind [I_Nm, I_Nd, I_Wd, I_Wd0, I_Pg, bt]) (by first | assumption | trivial | grind [I_Nm, I_Nd, I_Wd, I_Wd0, I_Pg, bt]) (by first | assumption | trivial | grind [I_Nm, I_Nd, I_Wd, I_Wd0, I_Pg, bt]) (c_ent (by first | assumption | trivial | grind [I_Nm, I_Nd, I_Wd, I_Wd0, I_Pg, bt]))⟩
            have e9 := hv10.2.2
            subst e9
            exact ih _ _ _ _ (by first | assumption | trivial | grind [I_Nm, I_Nd, I_Wd, I_Wd0, I_Pg, bt]) (by first | assumption | trivial | grind [I_Nm, I_Nd, I_Wd, I_Wd0, I_Pg, bt]) (by first | assumption | trivial | grind [I_Nm, I_Nd, I_Wd, I_Wd0, I_Pg, bt]) (by first | assumption | trivial | grind [I_Nm, I_Nd, I_Wd, I_Wd0, I_Pg, bt]) (i_meas (by first | assumption | trivial | grind [I_Nm, I_Nd, I_Wd, I_Wd0, I_Pg, bt]) (by first | assumption | trivial | grind [I_Nm, I_Nd, I_Wd, I_Wd0, I_Pg, bt]) hm)
set_option maxHeartbeats 4000000 in
theorem s_St_check {z_this : T_St} {z_this_program : T_Pr} {z_this_program_names : T_Nm} {z_this_program_nodes : T_Nd} {a1 : Int32} {a2 : Int32} {post : Int32 → Unit → Prop} (p0 : I_Nm z_this_program_names) (p1 : I_Nd z_this_program_nodes) (hp : ∀ r u, True → post r u) : wp_St_check z_this z_this_program z_this_program_names z_this_program_nodes a1 a2 post := by
  unfold wp_St_check
  refine ⟨fun h0 => ?_, fun h1 => ?_⟩
  · exact hp _ _ (by first | assumption | trivial | grind [I_Nm, I_Nd, I_Wd, I_Wd0, I_Pg, bt])
  · refine ⟨fun h2 => ?_, fun h3 => ?_⟩
    · exact hp _ _ (by first | assumption | trivial | grind [I_Nm, I_Nd, I_Wd, I_Wd0, I_Pg, bt])
    · refine ⟨fun h4 => ?_, fun h5 => ?_⟩
      · refine ⟨5000, l_St_check_L20 (fun x1 x2 x3 x4 hv6 => ?_) (fun r u hq => hp r u hq) 5000 _ _ _ _ (by first | assumption | trivial | grind [I_Nm, I_Nd, I_Wd, I_Wd0, I_Pg, bt]) (by first | assumption | trivial | grind [I_Nm, I_Nd, I_Wd, I_Wd0, I_Pg, bt]) (by first | assumption | trivial | grind [I_Nm, I_Nd, I_Wd, I_Wd0, I_Pg, bt]) (by first | assumption | trivial | grind [I_Nm, I_Nd, I_Wd, I_Wd0, I_Pg, bt]) (by decide)⟩
        exact hp _ _ (by first | assumption | trivial | grind [I_Nm, I_Nd, I_Wd, I_Wd0, I_Pg, bt])
      · exact hp _ _ (by first | assumption | trivial | grind [I_Nm, I_Nd, I_Wd, I_Wd0, I_Pg, bt])
set_option maxHeartbeats 4000000 in
theorem s_St_branch {z_this : T_St} {z_this_program : T_Pr} {z_this_program_nodes : T_Nd} {a1 : Int32} {a2 : Int32} {post : Int32 → Unit → Prop} (hp : ∀ r u, True → post r u) : wp_St_branch z_this z_this_program z_this_program_nodes a1 a2 post := by
  unfold wp_St_branch
  refine ⟨fun h0 => ?_, fun h1 => ?_⟩
  · refine s_Pr_nodes (fun r1 u1 hq2 => ?_)
    refine s_Nd_blockOf (fun r2 u2 hq3 => ?_)
    exact hp _ _ (by first | assumption | trivial | grind [I_Nm, I_Nd, I_Wd, I_Wd0, I_Pg, bt])
  · exact hp _ _ (by first | assumption | trivial | grind [I_Nm, I_Nd, I_Wd, I_Wd0, I_Pg, bt])
set_option maxHeartbeats 4000000 in
theorem s_St_write {z_this : T_St} {z_this_page : T_Pg} {z_this_program : T_Pr} {z_this_program_names : T_Nm} {z_this_program_nodes : T_Nd} {z_this_words_keywords : T_Kw} {a1 : Int32} {post : Int32 → T_St × T_Pg × Nat × Nat → Prop} (p0 : I_Nm z_this_program_names) (p1 : I_Nd z_this_program_nodes) (p2 : I_Pg z_this_page) (hp : ∀ r u, (I_Pg u.2.1 ∧ u.1.2 = z_this.2) → post r u) : wp_St_write z_this z_this_page z_this_program z_this_program_names z_this_program_nodes z_this_words_keywords a1 post := by
  unfold wp_St_write
  refine ⟨fun h0 => ?_, fun h1 => ?_⟩
  · refine s_Pg_lay (by first | assumption | trivial | grind [I_Nm, I_Nd, I_Wd, I_Wd0, I_Pg, bt]) (by first | assumption | trivial | grind [I_Nm, I_Nd, I_Wd, I_Wd0, I_Pg, bt]) (by first | assumption | trivial | grind [I_Nm, I_Nd, I_Wd, I_Wd0, I_Pg, bt]) (fun r2 u2 hq2 => ?_)
    refine s_Pg_byteAt (fun r3 u3 hq3 => ?_)
    exact hp _ _ (by first | assumption | trivial | grind [I_Nm, I_Nd, I_Wd, I_Wd0, I_Pg, bt])
  · refine s_Pg_byteAt (fun r1 u1 hq2 => ?_)
    exact hp _ _ (by first | assumption | trivial | grind [I_Nm, I_Nd, I_Wd, I_Wd0, I_Pg, bt])
set_option maxHeartbeats 4000000 in
theorem s_St_clear {z_this : T_St} {z_this_program : T_Pr} {z_this_program_names : T_Nm} {z_this_program_nodes : T_Nd} {z_this_words : T_Wd} {post : Unit → T_St × T_Nm × T_Nd × T_Wd → Prop} (p0 : I_Wd z_this_words) (hp : ∀ r u, (I_Nm u.2.1 ∧ I_Nd u.2.2.1 ∧ I_Wd0 u.2.2.2 ∧ u.1.2 = 0) → post r u) : wp_St_clear z_this z_this_program z_this_program_names z_this_program_nodes z_this_words post := by
  unfold wp_St_clear
  refine s_Wd_forget (by first | assumption | trivial | grind [I_Nm, I_Nd, I_Wd, I_Wd0, I_Pg, bt]) (fun r1 u1 hq0 => ?_)
  refine s_Pr_empty (fun r2 u2 hq1 => ?_)
  exact hp _ _ (by first | assumption | trivial | grind [I_Nm, I_Nd, I_Wd, I_Wd0, I_Pg, bt])
set_option maxHeartbeats 4000000 in
theorem s_St_read {d : Nat} {dB : Nat} {z_this : T_St} {z_this_grammar : T_Gr} {z_this_spare : T_Pr} {z_this_spare_names : T_Nm} {z_this_spare_nodes : T_Nd} {z_this_words : T_Wd} {z_this_words_keywords : T_Kw} {post : Int32 → T_St × T_Gr × T_Nm × T_Nd × T_Wd × Nat × Nat → Prop} (hF : ∀ (z : T_Gr) (zn : T_Nm) (zd : T_Nd) (zw : T_Wd) (a : Int32) (post : Int32 → T_Gr × T_Nm × T_Nd × T_Wd → Prop) (postT : T_Gr × T_Nm × T_Nd × T_Wd → Prop), I_Nm zn → I_Nd zd → I_Wd0 zw → (fun a : Int32 => (0 : Int32) ≤ a) a → a ≤ (60 : Int32) → (∀ r u, (I_Nm u.2.1 ∧ I_Nd u.2.2.1 ∧ I_Wd0 u.2.2.2) → post r u) → (∀ u, (I_Nm u.2.1 ∧ I_Nd u.2.2.1 ∧ I_Wd0 u.2.2.2) → postT u) → (wp_Gr_readFactor d) z zn zd zw a post postT) (hB : ∀ (z : T_Gr) (zn : T_Nm) (zd : T_Nd) (zw : T_Wd) (a : Int32) (post : Unit → T_Gr × T_Nm × T_Nd × T_Wd → Prop) (postT : T_Gr × T_Nm × T_Nd × T_Wd → Prop), I_Nm zn → I_Nd zd → I_Wd0 zw → (fun a : Int32 => (0 : Int32) ≤ a) a → a ≤ (60 : Int32) → (0 : Int32) ≤ a → (∀ r u, (I_Nm u.2.1 ∧ I_Nd u.2.2.1 ∧ I_Wd0 u.2.2.2) → post r u) → (∀ u, (I_Nm u.2.1 ∧ I_Nd u.2.2.1 ∧ I_Wd0 u.2.2.2) → postT u) → (wp_Gr_readBlock d dB) z zn zd zw a post postT) (p0 : I_Wd z_this_words) (hp : ∀ r u, (I_Nm u.2.2.1 ∧ I_Nd u.2.2.2.1 ∧ I_Wd0 u.2.2.2.2.1 ∧ ((u.2.2.2.2.2.1 = 0 ∧ u.2.2.2.2.2.2 = 0) ∨ (u.2.2.2.2.2.1 = 1 ∧ u.2.2.2.2.2.2 = 1)) ∧ u.1.2 = z_this.2) → post r u) : wp_St_read d dB z_this z_this_grammar z_this_spare z_this_spare_names z_this_spare_nodes z_this_words z_this_words_keywords post := by
  unfold wp_St_read
  refine s_Wd_split (by first | assumption | trivial | grind [I_Nm, I_Nd, I_Wd, I_Wd0, I_Pg, bt]) (fun r1 u1 hq0 => ?_)
  refine s_Gr_readInto hF hB (by first | assumption | trivial | grind [I_Nm, I_Nd, I_Wd, I_Wd0, I_Pg, bt]) (fun r2 u2 hq1 => ?_) (fun u hq1 => ?_)
  · refine s_Pr_nodes (fun r3 u3 hq2 => ?_)
    refine s_Nd_statements (fun r4 u4 hq3 => ?_)
    exact hp _ _ (by first | assumption | trivial | grind [I_Nm, I_Nd, I_Wd, I_Wd0, I_Pg, bt])
  · refine s_Gr_wrongPlace (fun r5 u5 hq2 => ?_)
    exact hp _ _ (by first | assumption | trivial | grind [I_Nm, I_Nd, I_Wd, I_Wd0, I_Pg, bt])
