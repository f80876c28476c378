set_option maxHeartbeats 2000000 in
theorem fm_Mo_digits_L5 {T : Nat → Int32} : ∀ (n9 : Nat) (z_this : T_Mo) (K : T_Mo → Prop) (post : Unit → T_Mo → Prop), z_this.1.1.1.1.1 = T → wp_Mo_digits_L5 K post n9 z_this → (∃ (w0 : T_Mo), K w0 ∧ w0.1.1.1.1.1 = T) ∨ (∃ (w0 : Unit) (w1 : T_Mo), post w0 w1 ∧ w1.1.1.1.1.1 = T) := by
  intro n9
  induction n9 with
  | zero => intro z_this K post e0 h; exact False.elim h
  | succ n9 ih =>
    intro z_this K post e0 h
    rw [wp_Mo_digits_L5] at h
    obtain ⟨r1, u1, -, qb0⟩ := dt_Mo_at h
    replace h := qb0 _ h
    obtain ⟨r2, u2, -, qb1⟩ := dt_Mo_isDigit h
    replace h := qb1 _ h
    rcases br_el h with ⟨c2, h⟩ | ⟨c2, h⟩
    · exact Or.inl ⟨_, h, (by assumption)⟩
    · rcases br_el h with ⟨c3, h⟩ | ⟨c3, h⟩
      · exact Or.inl ⟨_, h, (by assumption)⟩
      · obtain ⟨r3, u3, -, qb4⟩ := dt_Mo_at h
        replace h := qb4 _ h
        rcases ih _ _ _ (by assumption) h with ⟨w5_0, h, e5_0⟩ | ⟨w5_0, w5_1, h, e5_1⟩
        · exact Or.inl ⟨_, h, (by assumption)⟩
        · exact Or.inr (⟨_, _, h, (by assumption)⟩)
set_option maxHeartbeats 2000000 in
theorem fm_Mo_digits_J205 {T : Nat → Int32} {z_this : T_Mo} {post : Unit → T_Mo → Prop} (e0 : z_this.1.1.1.1.1 = T) (h : wp_Mo_digits_J205 post z_this) : (∃ (w0 : Unit) (w1 : T_Mo), post w0 w1 ∧ w1.1.1.1.1.1 = T) := by
  unfold wp_Mo_digits_J205 at h
  exact ⟨_, _, h, (by assumption)⟩
set_option maxHeartbeats 2000000 in
theorem fm_Mo_digits_L143 {T : Nat → Int32} : ∀ (n9 : Nat) (z_this : T_Mo) (x1 : Int64) (K : T_Mo → Int64 → Prop) (post : Unit → T_Mo → Prop), z_this.1.1.1.1.1 = T → wp_Mo_digits_L143 K post n9 z_this x1 → (∃ (w0 : T_Mo) (w1 : Int64), K w0 w1 ∧ w0.1.1.1.1.1 = T) ∨ (∃ (w0 : Unit) (w1 : T_Mo), post w0 w1 ∧ w1.1.1.1.1.1 = T) := by
  intro n9
  induction n9 with
  | zero => intro z_this x1 K post e0 h; exact False.elim h
  | succ n9 ih =>
    intro z_this x1 K post e0 h
    rw [wp_Mo_digits_L143] at h
    obtain ⟨r5, u5, -, qb0⟩ := dt_Mo_at h
    replace h := qb0 _ h
    obtain ⟨r6, u6, -, qb1⟩ := dt_Mo_isDigit h
    replace h := qb1 _ h
    rcases br_el h with ⟨c2, h⟩ | ⟨c2, h⟩
    · exact Or.inl ⟨_, _, h, (by assumption)⟩
    · rcases br_el h with ⟨c3, h⟩ | ⟨c3, h⟩
      · exact Or.inl ⟨_, _, h, (by assumption)⟩
      · obtain ⟨r7, u7, -, qb4⟩ := dt_Mo_at h
        replace h := qb4 _ h
        rcases ih _ _ _ _ (by assumption) h with ⟨w5_0, w5_1, h, e5_0⟩ | ⟨w5_0, w5_1, h, e5_1⟩
        · exact Or.inl ⟨_, _, h, (by assumption)⟩
        · exact Or.inr (⟨_, _, h, (by assumption)⟩)
set_option maxHeartbeats 2000000 in
theorem fm_Mo_digits_J119 {T : Nat → Int32} {z_this : T_Mo} {y0 : Int32} {post : Unit → T_Mo → Prop} (e0 : z_this.1.1.1.1.1 = T) (h : wp_Mo_digits_J119 post z_this y0) : (∃ (w0 : Unit) (w1 : T_Mo), post w0 w1 ∧ w1.1.1.1.1.1 = T) := by
  unfold wp_Mo_digits_J119 at h
  replace h := h.2
  replace h := h.2
  rcases br_el h with ⟨c2, h⟩ | ⟨c2, h⟩
  · obtain ⟨w3_0, w3_1, h, e3_1⟩ := fm_Mo_digits_J205 (T := T) (by assumption) h
    exact ⟨_, _, h, (by assumption)⟩
  · obtain ⟨k3, h⟩ := h
    rcases fm_Mo_digits_L143 (T := T) k3 _ _ _ _ (by assumption) h with ⟨z_this, x1, h, e3_0⟩ | ⟨w3_0, w3_1, h, e3_1⟩
    · obtain ⟨w4_0, w4_1, h, e4_1⟩ := fm_Mo_digits_J205 (T := T) (by assumption) h
      exact ⟨_, _, h, (by assumption)⟩
    · exact ⟨_, _, h, (by assumption)⟩
set_option maxHeartbeats 2000000 in
theorem fm_Mo_digits_J118 {T : Nat → Int32} {z_this : T_Mo} {post : Unit → T_Mo → Prop} (e0 : z_this.1.1.1.1.1 = T) (h : wp_Mo_digits_J118 post z_this) : (∃ (w0 : Unit) (w1 : T_Mo), post w0 w1 ∧ w1.1.1.1.1.1 = T) := by
  unfold wp_Mo_digits_J118 at h
  obtain ⟨w0_0, w0_1, h, e0_1⟩ := fm_Mo_digits_J119 (T := T) (by assumption) h
  exact ⟨_, _, h, (by assumption)⟩
set_option maxHeartbeats 2000000 in
theorem fm_Mo_digits_J72 {T : Nat → Int32} {z_this : T_Mo} {post : Unit → T_Mo → Prop} (e0 : z_this.1.1.1.1.1 = T) (h : wp_Mo_digits_J72 post z_this) : (∃ (w0 : Unit) (w1 : T_Mo), post w0 w1 ∧ w1.1.1.1.1.1 = T) := by
  unfold wp_Mo_digits_J72 at h
  obtain ⟨r4, u4, -, qb0⟩ := dt_Mo_at h
  replace h := qb0 _ h
  rcases br_el h with ⟨c1, h⟩ | ⟨c1, h⟩
  · obtain ⟨r8, u8, -, qb2⟩ := dt_Mo_at h
    replace h := qb2 _ h
    obtain ⟨r9, u9, -, qb3⟩ := dt_Mo_isDigit h
    replace h := qb3 _ h
    rcases br_el h with ⟨c4, h⟩ | ⟨c4, h⟩
    · obtain ⟨w5_0, w5_1, h, e5_1⟩ := fm_Mo_digits_J118 (T := T) (by assumption) h
      exact ⟨_, _, h, (by assumption)⟩
    · obtain ⟨w5_0, w5_1, h, e5_1⟩ := fm_Mo_digits_J119 (T := T) (by assumption) h
      exact ⟨_, _, h, (by assumption)⟩
  · obtain ⟨w2_0, w2_1, h, e2_1⟩ := fm_Mo_digits_J118 (T := T) (by assumption) h
    exact ⟨_, _, h, (by assumption)⟩
set_option maxHeartbeats 2000000 in
theorem fm_Mo_digits {T : Nat → Int32} {z_this : T_Mo} {post : Unit → T_Mo → Prop} (e0 : z_this.1.1.1.1.1 = T) (h : wp_Mo_digits z_this post) : (∃ (w0 : Unit) (w1 : T_Mo), post w0 w1 ∧ w1.1.1.1.1.1 = T) := by
  unfold wp_Mo_digits at h
  obtain ⟨k0, h⟩ := h
  rcases fm_Mo_digits_L5 (T := T) k0 _ _ _ (by assumption) h with ⟨z_this, h, e0_0⟩ | ⟨w0_0, w0_1, h, e0_1⟩
  · obtain ⟨w1_0, w1_1, h, e1_1⟩ := fm_Mo_digits_J72 (T := T) (by assumption) h
    exact ⟨_, _, h, (by assumption)⟩
  · exact ⟨_, _, h, (by assumption)⟩
set_option maxHeartbeats 2000000 in
theorem fm_Mo_go_L0 {T : Nat → Int32} : ∀ (n9 : Nat) (z_this : T_Mo) (K : T_Mo → Prop) (post : Int32 → T_Mo → Prop), z_this.1.1.1.1.1 = T → wp_Mo_go_L0 K post n9 z_this → (∃ (w0 : T_Mo), K w0 ∧ w0.1.1.1.1.1 = T) ∨ (∃ (w0 : Int32) (w1 : T_Mo), post w0 w1 ∧ w1.1.1.1.1.1 = T) := by
  intro n9
  induction n9 with
  | zero => intro z_this K post e0 h; exact False.elim h
  | succ n9 ih =>
    intro z_this K post e0 h
    rw [wp_Mo_go_L0] at h
    obtain ⟨r1, u1, -, qb0⟩ := dt_Mo_at h
    replace h := qb0 _ h
    rcases br_el h with ⟨c1, h⟩ | ⟨c1, h⟩
    · obtain ⟨r2, u2, -, qb2⟩ := dt_Mo_at h
      replace h := qb2 _ h
      rcases br_el h with ⟨c3, h⟩ | ⟨c3, h⟩
      · rcases ih _ _ _ (by assumption) h with ⟨w4_0, h, e4_0⟩ | ⟨w4_0, w4_1, h, e4_1⟩
        · exact Or.inl ⟨_, h, (by assumption)⟩
        · exact Or.inr (⟨_, _, h, (by assumption)⟩)
      · rcases ih _ _ _ (by assumption) h with ⟨w4_0, h, e4_0⟩ | ⟨w4_0, w4_1, h, e4_1⟩
        · exact Or.inl ⟨_, h, (by assumption)⟩
        · exact Or.inr (⟨_, _, h, (by assumption)⟩)
    · obtain ⟨r3, u3, -, qb2⟩ := dt_Mo_at h
      replace h := qb2 _ h
      rcases br_el h with ⟨c3, h⟩ | ⟨c3, h⟩
      · obtain ⟨r4, u4, -, qb4⟩ := dt_Mo_at h
        replace h := qb4 _ h
        rcases br_el h with ⟨c5, h⟩ | ⟨c5, h⟩
        · rcases ih _ _ _ (by assumption) h with ⟨w6_0, h, e6_0⟩ | ⟨w6_0, w6_1, h, e6_1⟩
          · exact Or.inl ⟨_, h, (by assumption)⟩
          · exact Or.inr (⟨_, _, h, (by assumption)⟩)
        · rcases ih _ _ _ (by assumption) h with ⟨w6_0, h, e6_0⟩ | ⟨w6_0, w6_1, h, e6_1⟩
          · exact Or.inl ⟨_, h, (by assumption)⟩
          · exact Or.inr (⟨_, _, h, (by assumption)⟩)
      · exact Or.inl ⟨_, h, (by assumption)⟩
set_option maxHeartbeats 2000000 in
theorem fm_Mo_go_J287 {T : Nat → Int32} {z_this : T_Mo} {x1 : Int32} {x2 : Int32} {y0 : Int32} {post : Int32 → T_Mo → Prop} (e0 : z_this.1.1.1.1.1 = T) (h : wp_Mo_go_J287 post z_this x1 x2 y0) : (∃ (w0 : Int32) (w1 : T_Mo), post w0 w1 ∧ w1.1.1.1.1.1 = T) := by
  unfold wp_Mo_go_J287 at h
  replace h := h.2
  exact ⟨_, _, h, (by assumption)⟩
set_option maxHeartbeats 2000000 in
theorem fm_Mo_go_J270 {T : Nat → Int32} {z_this : T_Mo} {x1 : Int32} {y0 : Int32} {post : Int32 → T_Mo → Prop} (e0 : z_this.1.1.1.1.1 = T) (h : wp_Mo_go_J270 post z_this x1 y0) : (∃ (w0 : Int32) (w1 : T_Mo), post w0 w1 ∧ w1.1.1.1.1.1 = T) := by
  unfold wp_Mo_go_J270 at h
  rcases br_el h with ⟨c0, h⟩ | ⟨c0, h⟩
  · obtain ⟨w1_0, w1_1, h, e1_1⟩ := fm_Mo_go_J287 (T := T) (by assumption) h
    exact ⟨_, _, h, (by assumption)⟩
  · obtain ⟨w1_0, w1_1, h, e1_1⟩ := fm_Mo_go_J287 (T := T) (by assumption) h
    exact ⟨_, _, h, (by assumption)⟩
set_option maxHeartbeats 2000000 in
theorem fm_Mo_go_J265 {T : Nat → Int32} {z_this : T_Mo} {x1 : Int32} {post : Int32 → T_Mo → Prop} (e0 : z_this.1.1.1.1.1 = T) (h : wp_Mo_go_J265 post z_this x1) : (∃ (w0 : Int32) (w1 : T_Mo), post w0 w1 ∧ w1.1.1.1.1.1 = T) := by
  unfold wp_Mo_go_J265 at h
  obtain ⟨w0_0, w0_1, h, e0_1⟩ := fm_Mo_go_J270 (T := T) (by assumption) h
  exact ⟨_, _, h, (by assumption)⟩
set_option maxHeartbeats 2000000 in
theorem fm_Mo_go_J352 {T : Nat → Int32} {z_this : T_Mo} {x1 : Int32} {x2 : Int32} {post : Int32 → T_Mo → Prop} (e0 : z_this.1.1.1.1.1 = T) (h : wp_Mo_go_J352 post z_this x1 x2) : (∃ (w0 : Int32) (w1 : T_Mo), post w0 w1 ∧ w1.1.1.1.1.1 = T) := by
  unfold wp_Mo_go_J352 at h
  exact ⟨_, _, h, (by assumption)⟩
set_option maxHeartbeats 2000000 in
theorem fm_Mo_go_J384 {T : Nat → Int32} {z_this : T_Mo} {x1 : Int32} {x2 : Int32} {y0 : Int32} {post : Int32 → T_Mo → Prop} (e0 : z_this.1.1.1.1.1 = T) (h : wp_Mo_go_J384 post z_this x1 x2 y0) : (∃ (w0 : Int32) (w1 : T_Mo), post w0 w1 ∧ w1.1.1.1.1.1 = T) := by
  unfold wp_Mo_go_J384 at h
  exact ⟨_, _, h, (by assumption)⟩
set_option maxHeartbeats 2000000 in
theorem fm_Mo_go_J315 {T : Nat → Int32} {z_this : T_Mo} {x1 : Int32} {post : Int32 → T_Mo → Prop} (e0 : z_this.1.1.1.1.1 = T) (h : wp_Mo_go_J315 post z_this x1) : (∃ (w0 : Int32) (w1 : T_Mo), post w0 w1 ∧ w1.1.1.1.1.1 = T) := by
  unfold wp_Mo_go_J315 at h
  obtain ⟨r9, u9, -, qb0⟩ := dt_Mo_at h
  replace h := qb0 _ h
  obtain ⟨r10, u10, -, qb1⟩ := dt_Mo_isLetter h
  replace h := qb1 _ h
  rcases br_el h with ⟨c2, h⟩ | ⟨c2, h⟩
  · obtain ⟨r11, u11, -, qb3⟩ := dt_Mo_isDigit h
    replace h := qb3 _ h
    rcases br_el h with ⟨c4, h⟩ | ⟨c4, h⟩
    · rcases br_el h with ⟨c5, h⟩ | ⟨c5, h⟩
      · obtain ⟨w6_0, w6_1, h, e6_1⟩ := fm_Mo_go_J352 (T := T) (by assumption) h
        exact ⟨_, _, h, (by assumption)⟩
      · obtain ⟨r12, u12, -, qb6⟩ := dt_Mo_isLetter h
        replace h := qb6 _ h
        rcases br_el h with ⟨c7, h⟩ | ⟨c7, h⟩
        · obtain ⟨w8_0, w8_1, h, e8_1⟩ := fm_Mo_go_J384 (T := T) (by assumption) h
          exact ⟨_, _, h, (by assumption)⟩
        · obtain ⟨r13, u13, -, qb8⟩ := dt_Mo_meaning h
          replace h := qb8 _ h
          obtain ⟨w9_0, w9_1, h, e9_1⟩ := fm_Mo_go_J384 (T := T) (by assumption) h
          exact ⟨_, _, h, (by assumption)⟩
    · obtain ⟨w5_0, w5_1, h, e5_1⟩ := fm_Mo_go_J352 (T := T) (by assumption) h
      exact ⟨_, _, h, (by assumption)⟩
  · obtain ⟨w3_0, w3_1, h, e3_1⟩ := fm_Mo_go_J352 (T := T) (by assumption) h
    exact ⟨_, _, h, (by assumption)⟩
set_option maxHeartbeats 2000000 in
theorem fm_Mo_go_L124 {T : Nat → Int32} : ∀ (n9 : Nat) (z_this : T_Mo) (x1 : Int32) (K : T_Mo → Int32 → Prop) (post : Int32 → T_Mo → Prop), z_this.1.1.1.1.1 = T → wp_Mo_go_L124 K post n9 z_this x1 → (∃ (w0 : T_Mo) (w1 : Int32), K w0 w1 ∧ w0.1.1.1.1.1 = T) ∨ (∃ (w0 : Int32) (w1 : T_Mo), post w0 w1 ∧ w1.1.1.1.1.1 = T) := by
  intro n9
  induction n9 with
  | zero => intro z_this x1 K post e0 h; exact False.elim h
  | succ n9 ih =>
    intro z_this x1 K post e0 h
    rw [wp_Mo_go_L124] at h
    obtain ⟨r14, u14, -, qb0⟩ := dt_Mo_at h
    replace h := qb0 _ h
    obtain ⟨r15, u15, -, qb1⟩ := dt_Mo_isLetter h
    replace h := qb1 _ h
    rcases br_el h with ⟨c2, h⟩ | ⟨c2, h⟩
    · obtain ⟨r16, u16, -, qb3⟩ := dt_Mo_at h
      replace h := qb3 _ h
      obtain ⟨r17, u17, -, qb4⟩ := dt_Mo_isDigit h
      replace h := qb4 _ h
      rcases br_el h with ⟨c5, h⟩ | ⟨c5, h⟩
      · exact Or.inl ⟨_, _, h, (by assumption)⟩
      · rcases br_el h with ⟨c6, h⟩ | ⟨c6, h⟩
        · exact Or.inl ⟨_, _, h, (by assumption)⟩
        · rcases ih _ _ _ _ (by assumption) h with ⟨w7_0, w7_1, h, e7_0⟩ | ⟨w7_0, w7_1, h, e7_1⟩
          · exact Or.inl ⟨_, _, h, (by assumption)⟩
          · exact Or.inr (⟨_, _, h, (by assumption)⟩)
    · rcases br_el h with ⟨c3, h⟩ | ⟨c3, h⟩
      · exact Or.inl ⟨_, _, h, (by assumption)⟩
      · rcases ih _ _ _ _ (by assumption) h with ⟨w4_0, w4_1, h, e4_0⟩ | ⟨w4_0, w4_1, h, e4_1⟩
        · exact Or.inl ⟨_, _, h, (by assumption)⟩
        · exact Or.inr (⟨_, _, h, (by assumption)⟩)
set_option maxHeartbeats 2000000 in
theorem fm_Mo_go {T : Nat → Int32} {z_this : T_Mo} {post : Int32 → T_Mo → Prop} (e0 : z_this.1.1.1.1.1 = T) (h : wp_Mo_go z_this post) : (∃ (w0 : Int32) (w1 : T_Mo), post w0 w1 ∧ w1.1.1.1.1.1 = T) := by
  unfold wp_Mo_go at h
  obtain ⟨k0, h⟩ := h
  rcases fm_Mo_go_L0 (T := T) k0 _ _ _ (by assumption) h with ⟨z_this, h, e0_0⟩ | ⟨w0_0, w0_1, h, e0_1⟩
  · obtain ⟨r5, u5, -, qb1⟩ := dt_Mo_at h
    replace h := qb1 _ h
    rcases br_el h with ⟨c2, h⟩ | ⟨c2, h⟩
    · exact ⟨_, _, h, (by assumption)⟩
    · obtain ⟨r6, u6, -, qb3⟩ := dt_Mo_isLetter h
      replace h := qb3 _ h
      rcases br_el h with ⟨c4, h⟩ | ⟨c4, h⟩
      · obtain ⟨r7, u7, -, qb5⟩ := dt_Mo_isDigit h
        replace h := qb5 _ h
        rcases br_el h with ⟨c6, h⟩ | ⟨c6, h⟩
        · rcases br_el h with ⟨c7, h⟩ | ⟨c7, h⟩
          · obtain ⟨w8_0, w8_1, h, e8_1⟩ := fm_Mo_go_J265 (T := T) (by assumption) h
            exact ⟨_, _, h, (by assumption)⟩
          · rcases br_el h with ⟨c8, h⟩ | ⟨c8, h⟩
            · obtain ⟨w9_0, w9_1, h, e9_1⟩ := fm_Mo_go_J265 (T := T) (by assumption) h
              exact ⟨_, _, h, (by assumption)⟩
            · rcases br_el h with ⟨c9, h⟩ | ⟨c9, h⟩
              · obtain ⟨w10_0, w10_1, h, e10_1⟩ := fm_Mo_go_J265 (T := T) (by assumption) h
                exact ⟨_, _, h, (by assumption)⟩
              · rcases br_el h with ⟨c10, h⟩ | ⟨c10, h⟩
                · obtain ⟨w11_0, w11_1, h, e11_1⟩ := fm_Mo_go_J265 (T := T) (by assumption) h
                  exact ⟨_, _, h, (by assumption)⟩
                · rcases br_el h with ⟨c11, h⟩ | ⟨c11, h⟩
                  · obtain ⟨w12_0, w12_1, h, e12_1⟩ := fm_Mo_go_J265 (T := T) (by assumption) h
                    exact ⟨_, _, h, (by assumption)⟩
                  · rcases br_el h with ⟨c12, h⟩ | ⟨c12, h⟩
                    · obtain ⟨w13_0, w13_1, h, e13_1⟩ := fm_Mo_go_J265 (T := T) (by assumption) h
                      exact ⟨_, _, h, (by assumption)⟩
                    · rcases br_el h with ⟨c13, h⟩ | ⟨c13, h⟩
                      · obtain ⟨w14_0, w14_1, h, e14_1⟩ := fm_Mo_go_J265 (T := T) (by assumption) h
                        exact ⟨_, _, h, (by assumption)⟩
                      · rcases br_el h with ⟨c14, h⟩ | ⟨c14, h⟩
                        · obtain ⟨w15_0, w15_1, h, e15_1⟩ := fm_Mo_go_J265 (T := T) (by assumption) h
                          exact ⟨_, _, h, (by assumption)⟩
                        · rcases br_el h with ⟨c15, h⟩ | ⟨c15, h⟩
                          · obtain ⟨w16_0, w16_1, h, e16_1⟩ := fm_Mo_go_J265 (T := T) (by assumption) h
                            exact ⟨_, _, h, (by assumption)⟩
                          · rcases br_el h with ⟨c16, h⟩ | ⟨c16, h⟩
                            · obtain ⟨w17_0, w17_1, h, e17_1⟩ := fm_Mo_go_J265 (T := T) (by assumption) h
                              exact ⟨_, _, h, (by assumption)⟩
                            · rcases br_el h with ⟨c17, h⟩ | ⟨c17, h⟩
                              · obtain ⟨w18_0, w18_1, h, e18_1⟩ := fm_Mo_go_J265 (T := T) (by assumption) h
                                exact ⟨_, _, h, (by assumption)⟩
                              · rcases br_el h with ⟨c18, h⟩ | ⟨c18, h⟩
                                · obtain ⟨w19_0, w19_1, h, e19_1⟩ := fm_Mo_go_J265 (T := T) (by assumption) h
                                  exact ⟨_, _, h, (by assumption)⟩
                                · obtain ⟨w19_0, w19_1, h, e19_1⟩ := fm_Mo_go_J270 (T := T) (by assumption) h
                                  exact ⟨_, _, h, (by assumption)⟩
        · obtain ⟨r8, u8, h, e7_1⟩ := fm_Mo_digits (T := T) (by assumption) h
          obtain ⟨w8_0, w8_1, h, e8_1⟩ := fm_Mo_go_J315 (T := T) (by assumption) h
          exact ⟨_, _, h, (by assumption)⟩
      · obtain ⟨k5, h⟩ := h
        rcases fm_Mo_go_L124 (T := T) k5 _ _ _ _ (by assumption) h with ⟨z_this, x1, h, e5_0⟩ | ⟨w5_0, w5_1, h, e5_1⟩
        · obtain ⟨w6_0, w6_1, h, e6_1⟩ := fm_Mo_go_J315 (T := T) (by assumption) h
          exact ⟨_, _, h, (by assumption)⟩
        · exact ⟨_, _, h, (by assumption)⟩
  · exact ⟨_, _, h, (by assumption)⟩
set_option maxHeartbeats 2000000 in
theorem fm_Mo_bad {T : Nat → Int32} {z_this : T_Mo} {post : Int32 → T_Mo → Prop} (e0 : z_this.1.1.1.1.1 = T) (h : wp_Mo_bad z_this post) : (∃ (w0 : Int32) (w1 : T_Mo), post w0 w1 ∧ w1.1.1.1.1.1 = T) := by
  unfold wp_Mo_bad at h
  exact ⟨_, _, h, (by assumption)⟩
set_option maxHeartbeats 2000000 in
theorem fm_Mo_over {T : Nat → Int32} {z_this : T_Mo} {a1 : Int32} {post : Int32 → T_Mo → Prop} (e0 : z_this.1.1.1.1.1 = T) (h : wp_Mo_over z_this a1 post) : (∃ (w0 : Int32) (w1 : T_Mo), post w0 w1 ∧ w1.1.1.1.1.1 = T) := by
  unfold wp_Mo_over at h
  rcases br_el h with ⟨c0, h⟩ | ⟨c0, h⟩
  · obtain ⟨r1, u1, h, e1_1⟩ := fm_Mo_go (T := T) (by assumption) h
    replace h := h.2
    exact ⟨_, _, h, (by assumption)⟩
  · exact ⟨_, _, h, (by assumption)⟩
set_option maxHeartbeats 2000000 in
theorem fm_Mo_node0_L89 {T : Nat → Int32} : ∀ (n9 : Nat) (z_this : T_Mo) (x1 : Int32) (x2 : Int64) (x4 : Int32) (x5 : Int32) (x6 : Int32) (x7 : Int32) (x8 : Int32) (K : T_Mo → Int32 → Int64 → Int32 → Int32 → Int32 → Int32 → Int32 → Prop) (post : Int32 → T_Mo → Prop), z_this.1.1.1.1.1 = T → wp_Mo_node0_L89 K post n9 z_this x1 x2 x4 x5 x6 x7 x8 → (∃ (w0 : T_Mo) (w1 : Int32) (w2 : Int64) (w3 : Int32) (w4 : Int32) (w5 : Int32) (w6 : Int32) (w7 : Int32), K w0 w1 w2 w3 w4 w5 w6 w7 ∧ w0.1.1.1.1.1 = T) ∨ (∃ (w0 : Int32) (w1 : T_Mo), post w0 w1 ∧ w1.1.1.1.1.1 = T) := by
  intro n9
  induction n9 with
  | zero => intro z_this x1 x2 x4 x5 x6 x7 x8 K post e0 h; exact False.elim h
  | succ n9 ih =>
    intro z_this x1 x2 x4 x5 x6 x7 x8 K post e0 h
    rw [wp_Mo_node0_L89] at h
    rcases br_el h with ⟨c0, h⟩ | ⟨c0, h⟩
    · exact Or.inl ⟨_, _, _, _, _, _, _, _, h, (by assumption)⟩
    · obtain ⟨r2, u2, -, qb1⟩ := dt_Mo_base h
      replace h := qb1 _ h
      replace h := h.2
      replace h := h.2
      rcases ih _ _ _ _ _ _ _ _ _ _ (by assumption) h with ⟨w4_0, w4_1, w4_2, w4_3, w4_4, w4_5, w4_6, w4_7, h, e4_0⟩ | ⟨w4_0, w4_1, h, e4_1⟩
      · exact Or.inl ⟨_, _, _, _, _, _, _, _, h, (by assumption)⟩
      · exact Or.inr (⟨_, _, h, (by assumption)⟩)
set_option maxHeartbeats 2000000 in
theorem fm_Mo_node0 {T : Nat → Int32} {z_this : T_Mo} {a1 : Int32} {a2 : Int64} {a4 : Int32} {a5 : Int32} {a6 : Int32} {post : Int32 → T_Mo → Prop} (e0 : z_this.1.1.1.1.1 = T) (h : wp_Mo_node0 z_this a1 a2 a4 a5 a6 post) : (∃ (w0 : Int32) (w1 : T_Mo), post w0 w1 ∧ w1.1.1.1.1.1 = T) := by
  unfold wp_Mo_node0 at h
  rcases br_el h with ⟨c0, h⟩ | ⟨c0, h⟩
  · obtain ⟨r3, u3, h, e1_1⟩ := fm_Mo_bad (T := T) (by assumption) h
    exact ⟨_, _, h, (by assumption)⟩
  · obtain ⟨r1, u1, -, qb1⟩ := dt_Mo_base h
    replace h := qb1 _ h
    replace h := h.2
    replace h := h.2
    replace h := h.2
    replace h := h.2
    replace h := h.2
    replace h := h.2
    obtain ⟨k8, h⟩ := h
    rcases fm_Mo_node0_L89 (T := T) k8 _ _ _ _ _ _ _ _ _ _ (by assumption) h with ⟨z_this, x1, x2, x4, x5, x6, x7, x8, h, e8_0⟩ | ⟨w8_0, w8_1, h, e8_1⟩
    · exact ⟨_, _, h, (by assumption)⟩
    · exact ⟨_, _, h, (by assumption)⟩
set_option maxHeartbeats 2000000 in
theorem fm_Mo_push {T : Nat → Int32} {z_this : T_Mo} {a1 : Int32} {post : Unit → T_Mo → Prop} (e0 : z_this.1.1.1.1.1 = T) (h : wp_Mo_push z_this a1 post) : (∃ (w0 : Unit) (w1 : T_Mo), post w0 w1 ∧ w1.1.1.1.1.1 = T) := by
  unfold wp_Mo_push at h
  replace h := h.2
  exact ⟨_, _, h, (by assumption)⟩
set_option maxHeartbeats 2000000 in
theorem fm_Mo_two {T : Nat → Int32} {z_this : T_Mo} {a1 : Int32} {a2 : Int32} {a3 : Int32} {a4 : Int32} {post : Int32 → T_Mo → Prop} (e0 : z_this.1.1.1.1.1 = T) (h : wp_Mo_two z_this a1 a2 a3 a4 post) : (∃ (w0 : Int32) (w1 : T_Mo), post w0 w1 ∧ w1.1.1.1.1.1 = T) := by
  unfold wp_Mo_two at h
  obtain ⟨r1, u1, h, e0_1⟩ := fm_Mo_push (T := T) (by assumption) h
  obtain ⟨r2, u2, h, e1_1⟩ := fm_Mo_push (T := T) (by assumption) h
  obtain ⟨r3, u3, -, qb2⟩ := dt_Mo_base h
  replace h := qb2 _ h
  replace h := h.2
  obtain ⟨r4, u4, h, e4_1⟩ := fm_Mo_node0 (T := T) (by assumption) h
  exact ⟨_, _, h, (by assumption)⟩
set_option maxHeartbeats 2000000 in
theorem fm_Mo_numberNode_J101 {T : Nat → Int32} {z_this : T_Mo} {x1 : Int32} {x2 : Int64} {x4 : Int32} {x5 : Int32} {post : Int32 → T_Mo → Prop} (e0 : z_this.1.1.1.1.1 = T) (h : wp_Mo_numberNode_J101 post z_this x1 x2 x4 x5) : (∃ (w0 : Int32) (w1 : T_Mo), post w0 w1 ∧ w1.1.1.1.1.1 = T) := by
  unfold wp_Mo_numberNode_J101 at h
  obtain ⟨r4, u4, h, e0_1⟩ := fm_Mo_node0 (T := T) (by assumption) h
  exact ⟨_, _, h, (by assumption)⟩
set_option maxHeartbeats 2000000 in
theorem fm_Mo_numberNode_J87 {T : Nat → Int32} {z_this : T_Mo} {x1 : Int32} {x2 : Int64} {x4 : Int32} {x5 : Int32} {post : Int32 → T_Mo → Prop} (e0 : z_this.1.1.1.1.1 = T) (h : wp_Mo_numberNode_J87 post z_this x1 x2 x4 x5) : (∃ (w0 : Int32) (w1 : T_Mo), post w0 w1 ∧ w1.1.1.1.1.1 = T) := by
  unfold wp_Mo_numberNode_J87 at h
  rcases br_el h with ⟨c0, h⟩ | ⟨c0, h⟩
  · obtain ⟨w1_0, w1_1, h, e1_1⟩ := fm_Mo_numberNode_J101 (T := T) (by assumption) h
    exact ⟨_, _, h, (by assumption)⟩
  · obtain ⟨r5, u5, h, e1_1⟩ := fm_Mo_go (T := T) (by assumption) h
    rcases br_el h with ⟨c2, h⟩ | ⟨c2, h⟩
    · exact ⟨_, _, h, (by assumption)⟩
    · obtain ⟨w3_0, w3_1, h, e3_1⟩ := fm_Mo_numberNode_J101 (T := T) (by assumption) h
      exact ⟨_, _, h, (by assumption)⟩
set_option maxHeartbeats 2000000 in
theorem fm_Mo_numberNode_J69 {T : Nat → Int32} {z_this : T_Mo} {x1 : Int32} {x2 : Int64} {x4 : Int32} {x5 : Int32} {y0 : Int64} {y1 : Int64} {post : Int32 → T_Mo → Prop} (e0 : z_this.1.1.1.1.1 = T) (h : wp_Mo_numberNode_J69 post z_this x1 x2 x4 x5 y0 y1) : (∃ (w0 : Int32) (w1 : T_Mo), post w0 w1 ∧ w1.1.1.1.1.1 = T) := by
  unfold wp_Mo_numberNode_J69 at h
  rcases br_el h with ⟨c0, h⟩ | ⟨c0, h⟩
  · obtain ⟨w1_0, w1_1, h, e1_1⟩ := fm_Mo_numberNode_J87 (T := T) (by assumption) h
    exact ⟨_, _, h, (by assumption)⟩
  · obtain ⟨r7, u7, h, e1_1⟩ := fm_Mo_bad (T := T) (by assumption) h
    exact ⟨_, _, h, (by assumption)⟩
set_option maxHeartbeats 2000000 in
theorem fm_Mo_numberNode_J43 {T : Nat → Int32} {z_this : T_Mo} {x1 : Int32} {x2 : Int64} {x4 : Int32} {y0 : Int32} {post : Int32 → T_Mo → Prop} (e0 : z_this.1.1.1.1.1 = T) (h : wp_Mo_numberNode_J43 post z_this x1 x2 x4 y0) : (∃ (w0 : Int32) (w1 : T_Mo), post w0 w1 ∧ w1.1.1.1.1.1 = T) := by
  unfold wp_Mo_numberNode_J43 at h
  rcases br_el h with ⟨c0, h⟩ | ⟨c0, h⟩
  · obtain ⟨w1_0, w1_1, h, e1_1⟩ := fm_Mo_numberNode_J87 (T := T) (by assumption) h
    exact ⟨_, _, h, (by assumption)⟩
  · obtain ⟨r6, u6, -, qb1⟩ := dt_Mo_isWord h
    replace h := qb1 _ h
    rcases br_el h with ⟨c2, h⟩ | ⟨c2, h⟩
    · obtain ⟨w3_0, w3_1, h, e3_1⟩ := fm_Mo_numberNode_J69 (T := T) (by assumption) h
      exact ⟨_, _, h, (by assumption)⟩
    · obtain ⟨w3_0, w3_1, h, e3_1⟩ := fm_Mo_numberNode_J69 (T := T) (by assumption) h
      exact ⟨_, _, h, (by assumption)⟩
set_option maxHeartbeats 2000000 in
theorem fm_Mo_numberNode_J38 {T : Nat → Int32} {z_this : T_Mo} {x1 : Int32} {x2 : Int64} {x4 : Int32} {post : Int32 → T_Mo → Prop} (e0 : z_this.1.1.1.1.1 = T) (h : wp_Mo_numberNode_J38 post z_this x1 x2 x4) : (∃ (w0 : Int32) (w1 : T_Mo), post w0 w1 ∧ w1.1.1.1.1.1 = T) := by
  unfold wp_Mo_numberNode_J38 at h
  obtain ⟨w0_0, w0_1, h, e0_1⟩ := fm_Mo_numberNode_J43 (T := T) (by assumption) h
  exact ⟨_, _, h, (by assumption)⟩
set_option maxHeartbeats 2000000 in
theorem fm_Mo_numberNode {T : Nat → Int32} {z_this : T_Mo} {a1 : Int32} {post : Int32 → T_Mo → Prop} (e0 : z_this.1.1.1.1.1 = T) (h : wp_Mo_numberNode z_this a1 post) : (∃ (w0 : Int32) (w1 : T_Mo), post w0 w1 ∧ w1.1.1.1.1.1 = T) := by
  unfold wp_Mo_numberNode at h
  obtain ⟨r1, u1, h, e0_1⟩ := fm_Mo_go (T := T) (by assumption) h
  rcases br_el h with ⟨c1, h⟩ | ⟨c1, h⟩
  · exact ⟨_, _, h, (by assumption)⟩
  · obtain ⟨r2, u2, -, qb2⟩ := dt_Mo_unitWord0 h
    replace h := qb2 _ h
    obtain ⟨r3, u3, -, qb3⟩ := dt_Mo_isWord h
    replace h := qb3 _ h
    rcases br_el h with ⟨c4, h⟩ | ⟨c4, h⟩
    · obtain ⟨r8, u8, -, qb5⟩ := dt_Mo_isWord h
      replace h := qb5 _ h
      rcases br_el h with ⟨c6, h⟩ | ⟨c6, h⟩
      · obtain ⟨w7_0, w7_1, h, e7_1⟩ := fm_Mo_numberNode_J43 (T := T) (by assumption) h
        exact ⟨_, _, h, (by assumption)⟩
      · obtain ⟨w7_0, w7_1, h, e7_1⟩ := fm_Mo_numberNode_J38 (T := T) (by assumption) h
        exact ⟨_, _, h, (by assumption)⟩
    · obtain ⟨w5_0, w5_1, h, e5_1⟩ := fm_Mo_numberNode_J38 (T := T) (by assumption) h
      exact ⟨_, _, h, (by assumption)⟩
set_option maxHeartbeats 2000000 in
theorem fm_Mo_tell_J24 {T : Nat → Int32} {z_this : T_Mo} {x1 : Int32} {post : Int32 → T_Mo → Prop} (e0 : z_this.1.1.1.1.1 = T) (h : wp_Mo_tell_J24 post z_this x1) : (∃ (w0 : Int32) (w1 : T_Mo), post w0 w1 ∧ w1.1.1.1.1.1 = T) := by
  unfold wp_Mo_tell_J24 at h
  obtain ⟨r2, u2, h, e0_1⟩ := fm_Mo_bad (T := T) (by assumption) h
  exact ⟨_, _, h, (by assumption)⟩
set_option maxHeartbeats 2000000 in
theorem fm_Mo_tell_L49 {T : Nat → Int32} : ∀ (n9 : Nat) (z_this : T_Mo) (x1 : Int32) (x2 : Int32) (x3 : Int32) (K : T_Mo → Int32 → Int32 → Int32 → Prop) (post : Int32 → T_Mo → Prop), z_this.1.1.1.1.1 = T → wp_Mo_tell_L49 K post n9 z_this x1 x2 x3 → (∃ (w0 : T_Mo) (w1 : Int32) (w2 : Int32) (w3 : Int32), K w0 w1 w2 w3 ∧ w0.1.1.1.1.1 = T) ∨ (∃ (w0 : Int32) (w1 : T_Mo), post w0 w1 ∧ w1.1.1.1.1.1 = T) := by
  intro n9
  induction n9 with
  | zero => intro z_this x1 x2 x3 K post e0 h; exact False.elim h
  | succ n9 ih =>
    intro z_this x1 x2 x3 K post e0 h
    rw [wp_Mo_tell_L49] at h
    rcases br_el h with ⟨c0, h⟩ | ⟨c0, h⟩
    · exact Or.inl ⟨_, _, _, _, h, (by assumption)⟩
    · replace h := h.2
      replace h := h.2
      rcases ih _ _ _ _ _ _ (by assumption) h with ⟨w3_0, w3_1, w3_2, w3_3, h, e3_0⟩ | ⟨w3_0, w3_1, h, e3_1⟩
      · exact Or.inl ⟨_, _, _, _, h, (by assumption)⟩
      · exact Or.inr (⟨_, _, h, (by assumption)⟩)
set_option maxHeartbeats 2000000 in
theorem fm_Mo_tell {T : Nat → Int32} {z_this : T_Mo} {a1 : Int32} {post : Int32 → T_Mo → Prop} (e0 : z_this.1.1.1.1.1 = T) (h : wp_Mo_tell z_this a1 post) : (∃ (w0 : Int32) (w1 : T_Mo), post w0 w1 ∧ w1.1.1.1.1.1 = T) := by
  unfold wp_Mo_tell at h
  obtain ⟨r1, u1, -, qb0⟩ := dt_Mo_isWord h
  replace h := qb0 _ h
  rcases br_el h with ⟨c1, h⟩ | ⟨c1, h⟩
  · obtain ⟨w2_0, w2_1, h, e2_1⟩ := fm_Mo_tell_J24 (T := T) (by assumption) h
    exact ⟨_, _, h, (by assumption)⟩
  · obtain ⟨r3, u3, -, qb2⟩ := dt_Mo_nameOf h
    replace h := qb2 _ h
    rcases br_el h with ⟨c3, h⟩ | ⟨c3, h⟩
    · obtain ⟨w4_0, w4_1, h, e4_1⟩ := fm_Mo_tell_J24 (T := T) (by assumption) h
      exact ⟨_, _, h, (by assumption)⟩
    · rcases br_el h with ⟨c4, h⟩ | ⟨c4, h⟩
      · obtain ⟨w5_0, w5_1, h, e5_1⟩ := fm_Mo_tell_J24 (T := T) (by assumption) h
        exact ⟨_, _, h, (by assumption)⟩
      · obtain ⟨k5, h⟩ := h
        rcases fm_Mo_tell_L49 (T := T) k5 _ _ _ _ _ _ (by assumption) h with ⟨z_this, x1, x2, x3, h, e5_0⟩ | ⟨w5_0, w5_1, h, e5_1⟩
        · replace h := h.2
          replace h := h.2
          replace h := h.2
          replace h := h.2
          exact ⟨_, _, h, (by assumption)⟩
        · exact ⟨_, _, h, (by assumption)⟩
set_option maxHeartbeats 2000000 in
theorem fm_Mo_known_J66 {T : Nat → Int32} {z_this : T_Mo} {x1 : Int32} {x2 : Int32} {post : Int32 → T_Mo → Prop} (e0 : z_this.1.1.1.1.1 = T) (h : wp_Mo_known_J66 post z_this x1 x2) : (∃ (w0 : Int32) (w1 : T_Mo), post w0 w1 ∧ w1.1.1.1.1.1 = T) := by
  unfold wp_Mo_known_J66 at h
  obtain ⟨r2, u2, h, e0_1⟩ := fm_Mo_bad (T := T) (by assumption) h
  exact ⟨_, _, h, (by assumption)⟩
set_option maxHeartbeats 2000000 in
theorem fm_Mo_known_J83 {T : Nat → Int32} {z_this : T_Mo} {x1 : Int32} {x2 : Int32} {y0 : Int32} {post : Int32 → T_Mo → Prop} (e0 : z_this.1.1.1.1.1 = T) (h : wp_Mo_known_J83 post z_this x1 x2 y0) : (∃ (w0 : Int32) (w1 : T_Mo), post w0 w1 ∧ w1.1.1.1.1.1 = T) := by
  unfold wp_Mo_known_J83 at h
  exact ⟨_, _, h, (by assumption)⟩
set_option maxHeartbeats 2000000 in
theorem fm_Mo_known_J71 {T : Nat → Int32} {z_this : T_Mo} {x1 : Int32} {x2 : Int32} {post : Int32 → T_Mo → Prop} (e0 : z_this.1.1.1.1.1 = T) (h : wp_Mo_known_J71 post z_this x1 x2) : (∃ (w0 : Int32) (w1 : T_Mo), post w0 w1 ∧ w1.1.1.1.1.1 = T) := by
  unfold wp_Mo_known_J71 at h
  obtain ⟨r3, u3, h, e0_1⟩ := fm_Mo_go (T := T) (by assumption) h
  rcases br_el h with ⟨c1, h⟩ | ⟨c1, h⟩
  · obtain ⟨w2_0, w2_1, h, e2_1⟩ := fm_Mo_known_J83 (T := T) (by assumption) h
    exact ⟨_, _, h, (by assumption)⟩
  · obtain ⟨w2_0, w2_1, h, e2_1⟩ := fm_Mo_known_J83 (T := T) (by assumption) h
    exact ⟨_, _, h, (by assumption)⟩
set_option maxHeartbeats 2000000 in
theorem fm_Mo_known_J16 {T : Nat → Int32} {z_this : T_Mo} {x1 : Int32} {y0 : Int32} {post : Int32 → T_Mo → Prop} (e0 : z_this.1.1.1.1.1 = T) (h : wp_Mo_known_J16 post z_this x1 y0) : (∃ (w0 : Int32) (w1 : T_Mo), post w0 w1 ∧ w1.1.1.1.1.1 = T) := by
  unfold wp_Mo_known_J16 at h
  rcases br_el h with ⟨c0, h⟩ | ⟨c0, h⟩
  · obtain ⟨w1_0, w1_1, h, e1_1⟩ := fm_Mo_known_J66 (T := T) (by assumption) h
    exact ⟨_, _, h, (by assumption)⟩
  · replace h := h.2
    rcases br_el h with ⟨c2, h⟩ | ⟨c2, h⟩
    · rcases br_el h with ⟨c3, h⟩ | ⟨c3, h⟩
      · replace h := h.2
        rcases br_el h with ⟨c5, h⟩ | ⟨c5, h⟩
        · obtain ⟨w6_0, w6_1, h, e6_1⟩ := fm_Mo_known_J71 (T := T) (by assumption) h
          exact ⟨_, _, h, (by assumption)⟩
        · obtain ⟨w6_0, w6_1, h, e6_1⟩ := fm_Mo_known_J66 (T := T) (by assumption) h
          exact ⟨_, _, h, (by assumption)⟩
      · obtain ⟨w4_0, w4_1, h, e4_1⟩ := fm_Mo_known_J71 (T := T) (by assumption) h
        exact ⟨_, _, h, (by assumption)⟩
    · obtain ⟨w3_0, w3_1, h, e3_1⟩ := fm_Mo_known_J66 (T := T) (by assumption) h
      exact ⟨_, _, h, (by assumption)⟩
set_option maxHeartbeats 2000000 in
theorem fm_Mo_known {T : Nat → Int32} {z_this : T_Mo} {a1 : Int32} {post : Int32 → T_Mo → Prop} (e0 : z_this.1.1.1.1.1 = T) (h : wp_Mo_known z_this a1 post) : (∃ (w0 : Int32) (w1 : T_Mo), post w0 w1 ∧ w1.1.1.1.1.1 = T) := by
  unfold wp_Mo_known at h
  obtain ⟨r1, u1, -, qb0⟩ := dt_Mo_isWord h
  replace h := qb0 _ h
  rcases br_el h with ⟨c1, h⟩ | ⟨c1, h⟩
  · obtain ⟨w2_0, w2_1, h, e2_1⟩ := fm_Mo_known_J16 (T := T) (by assumption) h
    exact ⟨_, _, h, (by assumption)⟩
  · obtain ⟨r4, u4, -, qb2⟩ := dt_Mo_nameOf h
    replace h := qb2 _ h
    obtain ⟨w3_0, w3_1, h, e3_1⟩ := fm_Mo_known_J16 (T := T) (by assumption) h
    exact ⟨_, _, h, (by assumption)⟩
set_option maxHeartbeats 2000000 in
theorem fm_Mo_pushed {T : Nat → Int32} {z_this : T_Mo} {a1 : Int32} {post : Int32 → T_Mo → Prop} (e0 : z_this.1.1.1.1.1 = T) (h : wp_Mo_pushed z_this a1 post) : (∃ (w0 : Int32) (w1 : T_Mo), post w0 w1 ∧ w1.1.1.1.1.1 = T) := by
  unfold wp_Mo_pushed at h
  rcases br_el h with ⟨c0, h⟩ | ⟨c0, h⟩
  · obtain ⟨r1, u1, h, e1_1⟩ := fm_Mo_push (T := T) (by assumption) h
    exact ⟨_, _, h, (by assumption)⟩
  · exact ⟨_, _, h, (by assumption)⟩
set_option maxHeartbeats 2000000 in
theorem fm_Mo_product_L5 {T : Nat → Int32} {rf : T_Mo → (Int32 → T_Mo → Prop) → Prop} (hrf : ∀ (v0 : T_Mo) (post : (Int32 → T_Mo → Prop)), v0.1.1.1.1.1 = T → rf v0 post → (∃ (w0 : Int32) (w1 : T_Mo), post w0 w1 ∧ w1.1.1.1.1.1 = T)) : ∀ (n9 : Nat) (z_this : T_Mo) (x1 : Int32) (K : T_Mo → Int32 → Prop) (post : Int32 → T_Mo → Prop), z_this.1.1.1.1.1 = T → wp_Mo_product_L5 rf K post n9 z_this x1 → (∃ (w0 : T_Mo) (w1 : Int32), K w0 w1 ∧ w0.1.1.1.1.1 = T) ∨ (∃ (w0 : Int32) (w1 : T_Mo), post w0 w1 ∧ w1.1.1.1.1.1 = T) := by
  intro n9
  induction n9 with
  | zero => intro z_this x1 K post e0 h; exact False.elim h
  | succ n9 ih =>
    intro z_this x1 K post e0 h
    rw [wp_Mo_product_L5] at h
    rcases br_el h with ⟨c0, h⟩ | ⟨c0, h⟩
    · exact Or.inl ⟨_, _, h, (by assumption)⟩
    · rcases br_el h with ⟨c1, h⟩ | ⟨c1, h⟩
      · rcases br_el h with ⟨c2, h⟩ | ⟨c2, h⟩
        · obtain ⟨r20, u20, h, e3_1⟩ := fm_Mo_go (T := T) (by assumption) h
          rcases br_el h with ⟨c4, h⟩ | ⟨c4, h⟩
          · rcases br_el h with ⟨c5, h⟩ | ⟨c5, h⟩
            · exact absurd c5 (by decide)
            · exact Or.inr (⟨_, _, h, (by assumption)⟩)
          · obtain ⟨r29, u29, h, e5_1⟩ := hrf _ _ (by assumption) h
            rcases br_el h with ⟨c6, h⟩ | ⟨c6, h⟩
            · obtain ⟨r30, u30, -, qb7⟩ := dt_Mo_unitIn h
              replace h := qb7 _ h
              obtain ⟨r31, u31, -, qb8⟩ := dt_Mo_unitIn h
              replace h := qb8 _ h
              rcases br_el h with ⟨c9, h⟩ | ⟨c9, h⟩
              · rcases br_el h with ⟨c10, h⟩ | ⟨c10, h⟩
                · rcases br_el h with ⟨c11, h⟩ | ⟨c11, h⟩
                  · exact Or.inr (⟨_, _, h, (by assumption)⟩)
                  · obtain ⟨r37, u37, h, e12_1⟩ := fm_Mo_two (T := T) (by assumption) h
                    rcases ih _ _ _ _ (by assumption) h with ⟨w13_0, w13_1, h, e13_0⟩ | ⟨w13_0, w13_1, h, e13_1⟩
                    · exact Or.inl ⟨_, _, h, (by assumption)⟩
                    · exact Or.inr (⟨_, _, h, (by assumption)⟩)
                · rcases br_el h with ⟨c11, h⟩ | ⟨c11, h⟩
                  · rcases br_el h with ⟨c12, h⟩ | ⟨c12, h⟩
                    · exact Or.inr (⟨_, _, h, (by assumption)⟩)
                    · obtain ⟨r36, u36, h, e13_1⟩ := fm_Mo_two (T := T) (by assumption) h
                      rcases ih _ _ _ _ (by assumption) h with ⟨w14_0, w14_1, h, e14_0⟩ | ⟨w14_0, w14_1, h, e14_1⟩
                      · exact Or.inl ⟨_, _, h, (by assumption)⟩
                      · exact Or.inr (⟨_, _, h, (by assumption)⟩)
                  · rcases br_el h with ⟨c12, h⟩ | ⟨c12, h⟩
                    · exact Or.inr (⟨_, _, h, (by assumption)⟩)
                    · exact absurd (by decide) c12
              · exact absurd (by decide) c9
            · exact Or.inr (⟨_, _, h, (by assumption)⟩)
        · obtain ⟨r2, u2, h, e3_1⟩ := fm_Mo_go (T := T) (by assumption) h
          rcases br_el h with ⟨c4, h⟩ | ⟨c4, h⟩
          · rcases br_el h with ⟨c5, h⟩ | ⟨c5, h⟩
            · exact absurd c5 (by decide)
            · exact Or.inr (⟨_, _, h, (by assumption)⟩)
          · obtain ⟨r11, u11, h, e5_1⟩ := hrf _ _ (by assumption) h
            rcases br_el h with ⟨c6, h⟩ | ⟨c6, h⟩
            · obtain ⟨r12, u12, -, qb7⟩ := dt_Mo_unitIn h
              replace h := qb7 _ h
              obtain ⟨r13, u13, -, qb8⟩ := dt_Mo_unitIn h
              replace h := qb8 _ h
              rcases br_el h with ⟨c9, h⟩ | ⟨c9, h⟩
              · exact absurd c9 (by decide)
              · rcases br_el h with ⟨c10, h⟩ | ⟨c10, h⟩
                · rcases br_el h with ⟨c11, h⟩ | ⟨c11, h⟩
                  · exact Or.inr (⟨_, _, h, (by assumption)⟩)
                  · obtain ⟨r16, u16, h, e12_1⟩ := fm_Mo_two (T := T) (by assumption) h
                    rcases ih _ _ _ _ (by assumption) h with ⟨w13_0, w13_1, h, e13_0⟩ | ⟨w13_0, w13_1, h, e13_1⟩
                    · exact Or.inl ⟨_, _, h, (by assumption)⟩
                    · exact Or.inr (⟨_, _, h, (by assumption)⟩)
                · rcases br_el h with ⟨c11, h⟩ | ⟨c11, h⟩
                  · rcases br_el h with ⟨c12, h⟩ | ⟨c12, h⟩
                    · exact absurd c12 (by decide)
                    · obtain ⟨r15, u15, h, e13_1⟩ := fm_Mo_two (T := T) (by assumption) h
                      rcases ih _ _ _ _ (by assumption) h with ⟨w14_0, w14_1, h, e14_0⟩ | ⟨w14_0, w14_1, h, e14_1⟩
                      · exact Or.inl ⟨_, _, h, (by assumption)⟩
                      · exact Or.inr (⟨_, _, h, (by assumption)⟩)
                  · rcases br_el h with ⟨c12, h⟩ | ⟨c12, h⟩
                    · exact Or.inr (⟨_, _, h, (by assumption)⟩)
                    · exact absurd (by decide) c12
            · exact Or.inr (⟨_, _, h, (by assumption)⟩)
      · rcases br_el h with ⟨c2, h⟩ | ⟨c2, h⟩
        · rcases br_el h with ⟨c3, h⟩ | ⟨c3, h⟩
          · obtain ⟨r56, u56, h, e4_1⟩ := fm_Mo_go (T := T) (by assumption) h
            rcases br_el h with ⟨c5, h⟩ | ⟨c5, h⟩
            · rcases br_el h with ⟨c6, h⟩ | ⟨c6, h⟩
              · exact absurd c6 (by decide)
              · exact Or.inr (⟨_, _, h, (by assumption)⟩)
            · obtain ⟨r65, u65, h, e6_1⟩ := hrf _ _ (by assumption) h
              rcases br_el h with ⟨c7, h⟩ | ⟨c7, h⟩
              · obtain ⟨r66, u66, -, qb8⟩ := dt_Mo_unitIn h
                replace h := qb8 _ h
                obtain ⟨r67, u67, -, qb9⟩ := dt_Mo_unitIn h
                replace h := qb9 _ h
                rcases br_el h with ⟨c10, h⟩ | ⟨c10, h⟩
                · rcases br_el h with ⟨c11, h⟩ | ⟨c11, h⟩
                  · rcases br_el h with ⟨c12, h⟩ | ⟨c12, h⟩
                    · exact Or.inr (⟨_, _, h, (by assumption)⟩)
                    · obtain ⟨r73, u73, h, e13_1⟩ := fm_Mo_two (T := T) (by assumption) h
                      rcases ih _ _ _ _ (by assumption) h with ⟨w14_0, w14_1, h, e14_0⟩ | ⟨w14_0, w14_1, h, e14_1⟩
                      · exact Or.inl ⟨_, _, h, (by assumption)⟩
                      · exact Or.inr (⟨_, _, h, (by assumption)⟩)
                  · rcases br_el h with ⟨c12, h⟩ | ⟨c12, h⟩
                    · rcases br_el h with ⟨c13, h⟩ | ⟨c13, h⟩
                      · exact Or.inr (⟨_, _, h, (by assumption)⟩)
                      · obtain ⟨r72, u72, h, e14_1⟩ := fm_Mo_two (T := T) (by assumption) h
                        rcases ih _ _ _ _ (by assumption) h with ⟨w15_0, w15_1, h, e15_0⟩ | ⟨w15_0, w15_1, h, e15_1⟩
                        · exact Or.inl ⟨_, _, h, (by assumption)⟩
                        · exact Or.inr (⟨_, _, h, (by assumption)⟩)
                    · rcases br_el h with ⟨c13, h⟩ | ⟨c13, h⟩
                      · exact Or.inr (⟨_, _, h, (by assumption)⟩)
                      · exact absurd (by decide) c13
                · exact absurd (by decide) c10
              · exact Or.inr (⟨_, _, h, (by assumption)⟩)
          · obtain ⟨r38, u38, h, e4_1⟩ := fm_Mo_go (T := T) (by assumption) h
            rcases br_el h with ⟨c5, h⟩ | ⟨c5, h⟩
            · rcases br_el h with ⟨c6, h⟩ | ⟨c6, h⟩
              · exact absurd c6 (by decide)
              · exact Or.inr (⟨_, _, h, (by assumption)⟩)
            · obtain ⟨r47, u47, h, e6_1⟩ := hrf _ _ (by assumption) h
              rcases br_el h with ⟨c7, h⟩ | ⟨c7, h⟩
              · obtain ⟨r48, u48, -, qb8⟩ := dt_Mo_unitIn h
                replace h := qb8 _ h
                obtain ⟨r49, u49, -, qb9⟩ := dt_Mo_unitIn h
                replace h := qb9 _ h
                rcases br_el h with ⟨c10, h⟩ | ⟨c10, h⟩
                · exact absurd c10 (by decide)
                · rcases br_el h with ⟨c11, h⟩ | ⟨c11, h⟩
                  · rcases br_el h with ⟨c12, h⟩ | ⟨c12, h⟩
                    · exact Or.inr (⟨_, _, h, (by assumption)⟩)
                    · obtain ⟨r52, u52, h, e13_1⟩ := fm_Mo_two (T := T) (by assumption) h
                      rcases ih _ _ _ _ (by assumption) h with ⟨w14_0, w14_1, h, e14_0⟩ | ⟨w14_0, w14_1, h, e14_1⟩
                      · exact Or.inl ⟨_, _, h, (by assumption)⟩
                      · exact Or.inr (⟨_, _, h, (by assumption)⟩)
                  · rcases br_el h with ⟨c12, h⟩ | ⟨c12, h⟩
                    · rcases br_el h with ⟨c13, h⟩ | ⟨c13, h⟩
                      · exact absurd c13 (by decide)
                      · obtain ⟨r51, u51, h, e14_1⟩ := fm_Mo_two (T := T) (by assumption) h
                        rcases ih _ _ _ _ (by assumption) h with ⟨w15_0, w15_1, h, e15_0⟩ | ⟨w15_0, w15_1, h, e15_1⟩
                        · exact Or.inl ⟨_, _, h, (by assumption)⟩
                        · exact Or.inr (⟨_, _, h, (by assumption)⟩)
                    · rcases br_el h with ⟨c13, h⟩ | ⟨c13, h⟩
                      · exact Or.inr (⟨_, _, h, (by assumption)⟩)
                      · exact absurd (by decide) c13
              · exact Or.inr (⟨_, _, h, (by assumption)⟩)
        · exact Or.inl ⟨_, _, h, (by assumption)⟩
set_option maxHeartbeats 2000000 in
theorem fm_Mo_product_J166 {T : Nat → Int32} {rf : T_Mo → (Int32 → T_Mo → Prop) → Prop} {z_this : T_Mo} {x1 : Int32} (hrf : ∀ (v0 : T_Mo) (post : (Int32 → T_Mo → Prop)), v0.1.1.1.1.1 = T → rf v0 post → (∃ (w0 : Int32) (w1 : T_Mo), post w0 w1 ∧ w1.1.1.1.1.1 = T)) {post : Int32 → T_Mo → Prop} (e0 : z_this.1.1.1.1.1 = T) (h : wp_Mo_product_J166 rf post z_this x1) : (∃ (w0 : Int32) (w1 : T_Mo), post w0 w1 ∧ w1.1.1.1.1.1 = T) := by
  unfold wp_Mo_product_J166 at h
  exact ⟨_, _, h, (by assumption)⟩
set_option maxHeartbeats 2000000 in
theorem fm_Mo_product {T : Nat → Int32} {rf : T_Mo → (Int32 → T_Mo → Prop) → Prop} {z_this : T_Mo} (hrf : ∀ (v0 : T_Mo) (post : (Int32 → T_Mo → Prop)), v0.1.1.1.1.1 = T → rf v0 post → (∃ (w0 : Int32) (w1 : T_Mo), post w0 w1 ∧ w1.1.1.1.1.1 = T)) {post : Int32 → T_Mo → Prop} (e0 : z_this.1.1.1.1.1 = T) (h : wp_Mo_product rf z_this post) : (∃ (w0 : Int32) (w1 : T_Mo), post w0 w1 ∧ w1.1.1.1.1.1 = T) := by
  unfold wp_Mo_product at h
  obtain ⟨r1, u1, h, e0_1⟩ := hrf _ _ (by assumption) h
  obtain ⟨k1, h⟩ := h
  rcases fm_Mo_product_L5 (T := T) hrf k1 _ _ _ _ (by assumption) h with ⟨z_this, x1, h, e1_0⟩ | ⟨w1_0, w1_1, h, e1_1⟩
  · obtain ⟨w2_0, w2_1, h, e2_1⟩ := fm_Mo_product_J166 (T := T) hrf (by assumption) h
    exact ⟨_, _, h, (by assumption)⟩
  · exact ⟨_, _, h, (by assumption)⟩
set_option maxHeartbeats 2000000 in
theorem fm_Mo_sum_L5 {T : Nat → Int32} {rf : T_Mo → (Int32 → T_Mo → Prop) → Prop} (hrf : ∀ (v0 : T_Mo) (post : (Int32 → T_Mo → Prop)), v0.1.1.1.1.1 = T → rf v0 post → (∃ (w0 : Int32) (w1 : T_Mo), post w0 w1 ∧ w1.1.1.1.1.1 = T)) : ∀ (n9 : Nat) (z_this : T_Mo) (x1 : Int32) (K : T_Mo → Int32 → Prop) (post : Int32 → T_Mo → Prop), z_this.1.1.1.1.1 = T → wp_Mo_sum_L5 rf K post n9 z_this x1 → (∃ (w0 : T_Mo) (w1 : Int32), K w0 w1 ∧ w0.1.1.1.1.1 = T) ∨ (∃ (w0 : Int32) (w1 : T_Mo), post w0 w1 ∧ w1.1.1.1.1.1 = T) := by
  intro n9
  induction n9 with
  | zero => intro z_this x1 K post e0 h; exact False.elim h
  | succ n9 ih =>
    intro z_this x1 K post e0 h
    rw [wp_Mo_sum_L5] at h
    rcases br_el h with ⟨c0, h⟩ | ⟨c0, h⟩
    · exact Or.inl ⟨_, _, h, (by assumption)⟩
    · rcases br_el h with ⟨c1, h⟩ | ⟨c1, h⟩
      · rcases br_el h with ⟨c2, h⟩ | ⟨c2, h⟩
        · obtain ⟨r12, u12, h, e3_1⟩ := fm_Mo_go (T := T) (by assumption) h
          rcases br_el h with ⟨c4, h⟩ | ⟨c4, h⟩
          · rcases br_el h with ⟨c5, h⟩ | ⟨c5, h⟩
            · exact absurd c5 (by decide)
            · exact Or.inr (⟨_, _, h, (by assumption)⟩)
          · obtain ⟨r17, u17, h, e5_1⟩ := fm_Mo_product (T := T) hrf (by assumption) h
            rcases br_el h with ⟨c6, h⟩ | ⟨c6, h⟩
            · obtain ⟨r18, u18, -, qb7⟩ := dt_Mo_unitIn h
              replace h := qb7 _ h
              obtain ⟨r19, u19, -, qb8⟩ := dt_Mo_unitIn h
              replace h := qb8 _ h
              rcases br_el h with ⟨c9, h⟩ | ⟨c9, h⟩
              · obtain ⟨r20, u20, -, qb10⟩ := dt_Mo_unitIn h
                replace h := qb10 _ h
                obtain ⟨r21, u21, h, e11_1⟩ := fm_Mo_two (T := T) (by assumption) h
                rcases ih _ _ _ _ (by assumption) h with ⟨w12_0, w12_1, h, e12_0⟩ | ⟨w12_0, w12_1, h, e12_1⟩
                · exact Or.inl ⟨_, _, h, (by assumption)⟩
                · exact Or.inr (⟨_, _, h, (by assumption)⟩)
              · exact Or.inr (⟨_, _, h, (by assumption)⟩)
            · exact Or.inr (⟨_, _, h, (by assumption)⟩)
        · obtain ⟨r2, u2, h, e3_1⟩ := fm_Mo_go (T := T) (by assumption) h
          rcases br_el h with ⟨c4, h⟩ | ⟨c4, h⟩
          · rcases br_el h with ⟨c5, h⟩ | ⟨c5, h⟩
            · exact absurd c5 (by decide)
            · exact Or.inr (⟨_, _, h, (by assumption)⟩)
          · obtain ⟨r7, u7, h, e5_1⟩ := fm_Mo_product (T := T) hrf (by assumption) h
            rcases br_el h with ⟨c6, h⟩ | ⟨c6, h⟩
            · obtain ⟨r8, u8, -, qb7⟩ := dt_Mo_unitIn h
              replace h := qb7 _ h
              obtain ⟨r9, u9, -, qb8⟩ := dt_Mo_unitIn h
              replace h := qb8 _ h
              rcases br_el h with ⟨c9, h⟩ | ⟨c9, h⟩
              · obtain ⟨r10, u10, -, qb10⟩ := dt_Mo_unitIn h
                replace h := qb10 _ h
                obtain ⟨r11, u11, h, e11_1⟩ := fm_Mo_two (T := T) (by assumption) h
                rcases ih _ _ _ _ (by assumption) h with ⟨w12_0, w12_1, h, e12_0⟩ | ⟨w12_0, w12_1, h, e12_1⟩
                · exact Or.inl ⟨_, _, h, (by assumption)⟩
                · exact Or.inr (⟨_, _, h, (by assumption)⟩)
              · exact Or.inr (⟨_, _, h, (by assumption)⟩)
            · exact Or.inr (⟨_, _, h, (by assumption)⟩)
      · rcases br_el h with ⟨c2, h⟩ | ⟨c2, h⟩
        · rcases br_el h with ⟨c3, h⟩ | ⟨c3, h⟩
          · obtain ⟨r32, u32, h, e4_1⟩ := fm_Mo_go (T := T) (by assumption) h
            rcases br_el h with ⟨c5, h⟩ | ⟨c5, h⟩
            · rcases br_el h with ⟨c6, h⟩ | ⟨c6, h⟩
              · exact absurd c6 (by decide)
              · exact Or.inr (⟨_, _, h, (by assumption)⟩)
            · obtain ⟨r37, u37, h, e6_1⟩ := fm_Mo_product (T := T) hrf (by assumption) h
              rcases br_el h with ⟨c7, h⟩ | ⟨c7, h⟩
              · obtain ⟨r38, u38, -, qb8⟩ := dt_Mo_unitIn h
                replace h := qb8 _ h
                obtain ⟨r39, u39, -, qb9⟩ := dt_Mo_unitIn h
                replace h := qb9 _ h
                rcases br_el h with ⟨c10, h⟩ | ⟨c10, h⟩
                · obtain ⟨r40, u40, -, qb11⟩ := dt_Mo_unitIn h
                  replace h := qb11 _ h
                  obtain ⟨r41, u41, h, e12_1⟩ := fm_Mo_two (T := T) (by assumption) h
                  rcases ih _ _ _ _ (by assumption) h with ⟨w13_0, w13_1, h, e13_0⟩ | ⟨w13_0, w13_1, h, e13_1⟩
                  · exact Or.inl ⟨_, _, h, (by assumption)⟩
                  · exact Or.inr (⟨_, _, h, (by assumption)⟩)
                · exact Or.inr (⟨_, _, h, (by assumption)⟩)
              · exact Or.inr (⟨_, _, h, (by assumption)⟩)
          · obtain ⟨r22, u22, h, e4_1⟩ := fm_Mo_go (T := T) (by assumption) h
            rcases br_el h with ⟨c5, h⟩ | ⟨c5, h⟩
            · rcases br_el h with ⟨c6, h⟩ | ⟨c6, h⟩
              · exact absurd c6 (by decide)
              · exact Or.inr (⟨_, _, h, (by assumption)⟩)
            · obtain ⟨r27, u27, h, e6_1⟩ := fm_Mo_product (T := T) hrf (by assumption) h
              rcases br_el h with ⟨c7, h⟩ | ⟨c7, h⟩
              · obtain ⟨r28, u28, -, qb8⟩ := dt_Mo_unitIn h
                replace h := qb8 _ h
                obtain ⟨r29, u29, -, qb9⟩ := dt_Mo_unitIn h
                replace h := qb9 _ h
                rcases br_el h with ⟨c10, h⟩ | ⟨c10, h⟩
                · obtain ⟨r30, u30, -, qb11⟩ := dt_Mo_unitIn h
                  replace h := qb11 _ h
                  obtain ⟨r31, u31, h, e12_1⟩ := fm_Mo_two (T := T) (by assumption) h
                  rcases ih _ _ _ _ (by assumption) h with ⟨w13_0, w13_1, h, e13_0⟩ | ⟨w13_0, w13_1, h, e13_1⟩
                  · exact Or.inl ⟨_, _, h, (by assumption)⟩
                  · exact Or.inr (⟨_, _, h, (by assumption)⟩)
                · exact Or.inr (⟨_, _, h, (by assumption)⟩)
              · exact Or.inr (⟨_, _, h, (by assumption)⟩)
        · exact Or.inl ⟨_, _, h, (by assumption)⟩
set_option maxHeartbeats 2000000 in
theorem fm_Mo_sum_J109 {T : Nat → Int32} {rf : T_Mo → (Int32 → T_Mo → Prop) → Prop} {z_this : T_Mo} {x1 : Int32} (hrf : ∀ (v0 : T_Mo) (post : (Int32 → T_Mo → Prop)), v0.1.1.1.1.1 = T → rf v0 post → (∃ (w0 : Int32) (w1 : T_Mo), post w0 w1 ∧ w1.1.1.1.1.1 = T)) {post : Int32 → T_Mo → Prop} (e0 : z_this.1.1.1.1.1 = T) (h : wp_Mo_sum_J109 rf post z_this x1) : (∃ (w0 : Int32) (w1 : T_Mo), post w0 w1 ∧ w1.1.1.1.1.1 = T) := by
  unfold wp_Mo_sum_J109 at h
  exact ⟨_, _, h, (by assumption)⟩
set_option maxHeartbeats 2000000 in
theorem fm_Mo_sum {T : Nat → Int32} {rf : T_Mo → (Int32 → T_Mo → Prop) → Prop} {z_this : T_Mo} (hrf : ∀ (v0 : T_Mo) (post : (Int32 → T_Mo → Prop)), v0.1.1.1.1.1 = T → rf v0 post → (∃ (w0 : Int32) (w1 : T_Mo), post w0 w1 ∧ w1.1.1.1.1.1 = T)) {post : Int32 → T_Mo → Prop} (e0 : z_this.1.1.1.1.1 = T) (h : wp_Mo_sum rf z_this post) : (∃ (w0 : Int32) (w1 : T_Mo), post w0 w1 ∧ w1.1.1.1.1.1 = T) := by
  unfold wp_Mo_sum at h
  obtain ⟨r1, u1, h, e0_1⟩ := fm_Mo_product (T := T) hrf (by assumption) h
  obtain ⟨k1, h⟩ := h
  rcases fm_Mo_sum_L5 (T := T) hrf k1 _ _ _ _ (by assumption) h with ⟨z_this, x1, h, e1_0⟩ | ⟨w1_0, w1_1, h, e1_1⟩
  · obtain ⟨w2_0, w2_1, h, e2_1⟩ := fm_Mo_sum_J109 (T := T) hrf (by assumption) h
    exact ⟨_, _, h, (by assumption)⟩
  · exact ⟨_, _, h, (by assumption)⟩
set_option maxHeartbeats 2000000 in
theorem fm_Mo_factor_J120 {T : Nat → Int32} {rf : T_Mo → (Int32 → T_Mo → Prop) → Prop} {z_this : T_Mo} {x1 : Int32} {x2 : Int32} {x3 : Int32} (hrf : ∀ (v0 : T_Mo) (post : (Int32 → T_Mo → Prop)), v0.1.1.1.1.1 = T → rf v0 post → (∃ (w0 : Int32) (w1 : T_Mo), post w0 w1 ∧ w1.1.1.1.1.1 = T)) {post : Int32 → T_Mo → Prop} (e0 : z_this.1.1.1.1.1 = T) (h : wp_Mo_factor_J120 rf post z_this x1 x2 x3) : (∃ (w0 : Int32) (w1 : T_Mo), post w0 w1 ∧ w1.1.1.1.1.1 = T) := by
  unfold wp_Mo_factor_J120 at h
  exact ⟨_, _, h, (by assumption)⟩
set_option maxHeartbeats 2000000 in
theorem fm_Mo_factor_J122 {T : Nat → Int32} {rf : T_Mo → (Int32 → T_Mo → Prop) → Prop} {z_this : T_Mo} {x1 : Int32} {x2 : Int32} {x3 : Int32} (hrf : ∀ (v0 : T_Mo) (post : (Int32 → T_Mo → Prop)), v0.1.1.1.1.1 = T → rf v0 post → (∃ (w0 : Int32) (w1 : T_Mo), post w0 w1 ∧ w1.1.1.1.1.1 = T)) {post : Int32 → T_Mo → Prop} (e0 : z_this.1.1.1.1.1 = T) (h : wp_Mo_factor_J122 rf post z_this x1 x2 x3) : (∃ (w0 : Int32) (w1 : T_Mo), post w0 w1 ∧ w1.1.1.1.1.1 = T) := by
  unfold wp_Mo_factor_J122 at h
  rcases br_el h with ⟨c0, h⟩ | ⟨c0, h⟩
  · exact ⟨_, _, h, (by assumption)⟩
  · obtain ⟨r3, u3, h, e1_1⟩ := fm_Mo_push (T := T) (by assumption) h
    obtain ⟨r4, u4, -, qb2⟩ := dt_Mo_unitIn h
    replace h := qb2 _ h
    obtain ⟨r5, u5, h, e3_1⟩ := fm_Mo_node0 (T := T) (by assumption) h
    exact ⟨_, _, h, (by assumption)⟩
set_option maxHeartbeats 2000000 in
theorem fm_Mo_factor_J102 {T : Nat → Int32} {rf : T_Mo → (Int32 → T_Mo → Prop) → Prop} {z_this : T_Mo} {x1 : Int32} {x2 : Int32} {y0 : Int32} (hrf : ∀ (v0 : T_Mo) (post : (Int32 → T_Mo → Prop)), v0.1.1.1.1.1 = T → rf v0 post → (∃ (w0 : Int32) (w1 : T_Mo), post w0 w1 ∧ w1.1.1.1.1.1 = T)) {post : Int32 → T_Mo → Prop} (e0 : z_this.1.1.1.1.1 = T) (h : wp_Mo_factor_J102 rf post z_this x1 x2 y0) : (∃ (w0 : Int32) (w1 : T_Mo), post w0 w1 ∧ w1.1.1.1.1.1 = T) := by
  unfold wp_Mo_factor_J102 at h
  rcases br_el h with ⟨c0, h⟩ | ⟨c0, h⟩
  · obtain ⟨w1_0, w1_1, h, e1_1⟩ := fm_Mo_factor_J120 (T := T) hrf (by assumption) h
    exact ⟨_, _, h, (by assumption)⟩
  · rcases br_el h with ⟨c1, h⟩ | ⟨c1, h⟩
    · obtain ⟨r6, u6, h, e2_1⟩ := fm_Mo_over (T := T) (by assumption) h
      rcases br_el h with ⟨c3, h⟩ | ⟨c3, h⟩
      · obtain ⟨w4_0, w4_1, h, e4_1⟩ := fm_Mo_factor_J120 (T := T) hrf (by assumption) h
        exact ⟨_, _, h, (by assumption)⟩
      · obtain ⟨w4_0, w4_1, h, e4_1⟩ := fm_Mo_factor_J122 (T := T) hrf (by assumption) h
        exact ⟨_, _, h, (by assumption)⟩
    · obtain ⟨w2_0, w2_1, h, e2_1⟩ := fm_Mo_factor_J122 (T := T) hrf (by assumption) h
      exact ⟨_, _, h, (by assumption)⟩
set_option maxHeartbeats 2000000 in
theorem fm_Mo_factor_J53 {T : Nat → Int32} {rf : T_Mo → (Int32 → T_Mo → Prop) → Prop} {z_this : T_Mo} {x1 : Int32} {y0 : Int32} (hrf : ∀ (v0 : T_Mo) (post : (Int32 → T_Mo → Prop)), v0.1.1.1.1.1 = T → rf v0 post → (∃ (w0 : Int32) (w1 : T_Mo), post w0 w1 ∧ w1.1.1.1.1.1 = T)) {post : Int32 → T_Mo → Prop} (e0 : z_this.1.1.1.1.1 = T) (h : wp_Mo_factor_J53 rf post z_this x1 y0) : (∃ (w0 : Int32) (w1 : T_Mo), post w0 w1 ∧ w1.1.1.1.1.1 = T) := by
  unfold wp_Mo_factor_J53 at h
  rcases br_el h with ⟨c0, h⟩ | ⟨c0, h⟩
  · obtain ⟨r8, u8, h, e1_1⟩ := fm_Mo_bad (T := T) (by assumption) h
    exact ⟨_, _, h, (by assumption)⟩
  · obtain ⟨r1, u1, h, e1_1⟩ := fm_Mo_go (T := T) (by assumption) h
    rcases br_el h with ⟨c2, h⟩ | ⟨c2, h⟩
    · exact ⟨_, _, h, (by assumption)⟩
    · rcases br_el h with ⟨c3, h⟩ | ⟨c3, h⟩
      · obtain ⟨r2, u2, h, e4_1⟩ := fm_Mo_sum (T := T) hrf (by assumption) h
        obtain ⟨w5_0, w5_1, h, e5_1⟩ := fm_Mo_factor_J102 (T := T) hrf (by assumption) h
        exact ⟨_, _, h, (by assumption)⟩
      · obtain ⟨r7, u7, h, e4_1⟩ := hrf _ _ (by assumption) h
        obtain ⟨w5_0, w5_1, h, e5_1⟩ := fm_Mo_factor_J102 (T := T) hrf (by assumption) h
        exact ⟨_, _, h, (by assumption)⟩
set_option maxHeartbeats 2000000 in
theorem fm_Mo_factor_J39 {T : Nat → Int32} {rf : T_Mo → (Int32 → T_Mo → Prop) → Prop} {z_this : T_Mo} {x1 : Int32} (hrf : ∀ (v0 : T_Mo) (post : (Int32 → T_Mo → Prop)), v0.1.1.1.1.1 = T → rf v0 post → (∃ (w0 : Int32) (w1 : T_Mo), post w0 w1 ∧ w1.1.1.1.1.1 = T)) {post : Int32 → T_Mo → Prop} (e0 : z_this.1.1.1.1.1 = T) (h : wp_Mo_factor_J39 rf post z_this x1) : (∃ (w0 : Int32) (w1 : T_Mo), post w0 w1 ∧ w1.1.1.1.1.1 = T) := by
  unfold wp_Mo_factor_J39 at h
  rcases br_el h with ⟨c0, h⟩ | ⟨c0, h⟩
  · obtain ⟨w1_0, w1_1, h, e1_1⟩ := fm_Mo_factor_J53 (T := T) hrf (by assumption) h
    exact ⟨_, _, h, (by assumption)⟩
  · obtain ⟨w1_0, w1_1, h, e1_1⟩ := fm_Mo_factor_J53 (T := T) hrf (by assumption) h
    exact ⟨_, _, h, (by assumption)⟩
set_option maxHeartbeats 2000000 in
theorem fm_Mo_factor_J207 {T : Nat → Int32} {rf : T_Mo → (Int32 → T_Mo → Prop) → Prop} {z_this : T_Mo} {x1 : Int32} {x2 : Int32} (hrf : ∀ (v0 : T_Mo) (post : (Int32 → T_Mo → Prop)), v0.1.1.1.1.1 = T → rf v0 post → (∃ (w0 : Int32) (w1 : T_Mo), post w0 w1 ∧ w1.1.1.1.1.1 = T)) {post : Int32 → T_Mo → Prop} (e0 : z_this.1.1.1.1.1 = T) (h : wp_Mo_factor_J207 rf post z_this x1 x2) : (∃ (w0 : Int32) (w1 : T_Mo), post w0 w1 ∧ w1.1.1.1.1.1 = T) := by
  unfold wp_Mo_factor_J207 at h
  obtain ⟨r10, u10, h, e0_1⟩ := fm_Mo_bad (T := T) (by assumption) h
  exact ⟨_, _, h, (by assumption)⟩
set_option maxHeartbeats 2000000 in
theorem fm_Mo_factor_J253 {T : Nat → Int32} {rf : T_Mo → (Int32 → T_Mo → Prop) → Prop} {z_this : T_Mo} {x1 : Int32} {x2 : Int32} {x3 : Int32} {y0 : Int32} (hrf : ∀ (v0 : T_Mo) (post : (Int32 → T_Mo → Prop)), v0.1.1.1.1.1 = T → rf v0 post → (∃ (w0 : Int32) (w1 : T_Mo), post w0 w1 ∧ w1.1.1.1.1.1 = T)) {post : Int32 → T_Mo → Prop} (e0 : z_this.1.1.1.1.1 = T) (h : wp_Mo_factor_J253 rf post z_this x1 x2 x3 y0) : (∃ (w0 : Int32) (w1 : T_Mo), post w0 w1 ∧ w1.1.1.1.1.1 = T) := by
  unfold wp_Mo_factor_J253 at h
  exact ⟨_, _, h, (by assumption)⟩
set_option maxHeartbeats 2000000 in
theorem fm_Mo_factor_J181 {T : Nat → Int32} {rf : T_Mo → (Int32 → T_Mo → Prop) → Prop} {z_this : T_Mo} {x1 : Int32} {y0 : Int32} (hrf : ∀ (v0 : T_Mo) (post : (Int32 → T_Mo → Prop)), v0.1.1.1.1.1 = T → rf v0 post → (∃ (w0 : Int32) (w1 : T_Mo), post w0 w1 ∧ w1.1.1.1.1.1 = T)) {post : Int32 → T_Mo → Prop} (e0 : z_this.1.1.1.1.1 = T) (h : wp_Mo_factor_J181 rf post z_this x1 y0) : (∃ (w0 : Int32) (w1 : T_Mo), post w0 w1 ∧ w1.1.1.1.1.1 = T) := by
  unfold wp_Mo_factor_J181 at h
  rcases br_el h with ⟨c0, h⟩ | ⟨c0, h⟩
  · obtain ⟨w1_0, w1_1, h, e1_1⟩ := fm_Mo_factor_J207 (T := T) hrf (by assumption) h
    exact ⟨_, _, h, (by assumption)⟩
  · replace h := h.2
    rcases br_el h with ⟨c2, h⟩ | ⟨c2, h⟩
    · obtain ⟨w3_0, w3_1, h, e3_1⟩ := fm_Mo_factor_J207 (T := T) hrf (by assumption) h
      exact ⟨_, _, h, (by assumption)⟩
    · replace h := h.2
      obtain ⟨r11, u11, h, e4_1⟩ := fm_Mo_go (T := T) (by assumption) h
      rcases br_el h with ⟨c5, h⟩ | ⟨c5, h⟩
      · obtain ⟨w6_0, w6_1, h, e6_1⟩ := fm_Mo_factor_J253 (T := T) hrf (by assumption) h
        exact ⟨_, _, h, (by assumption)⟩
      · obtain ⟨r12, u12, h, e6_1⟩ := fm_Mo_node0 (T := T) (by assumption) h
        obtain ⟨w7_0, w7_1, h, e7_1⟩ := fm_Mo_factor_J253 (T := T) hrf (by assumption) h
        exact ⟨_, _, h, (by assumption)⟩
set_option maxHeartbeats 2000000 in
theorem fm_Mo_factor_F {T : Nat → Int32} {rf : T_Mo → (Int32 → T_Mo → Prop) → Prop} {z_this : T_Mo} (hrf : ∀ (v0 : T_Mo) (post : (Int32 → T_Mo → Prop)), v0.1.1.1.1.1 = T → rf v0 post → (∃ (w0 : Int32) (w1 : T_Mo), post w0 w1 ∧ w1.1.1.1.1.1 = T)) {post : Int32 → T_Mo → Prop} (e0 : z_this.1.1.1.1.1 = T) (h : wp_Mo_factor_F rf z_this post) : (∃ (w0 : Int32) (w1 : T_Mo), post w0 w1 ∧ w1.1.1.1.1.1 = T) := by
  unfold wp_Mo_factor_F at h
  rcases br_el h with ⟨c0, h⟩ | ⟨c0, h⟩
  · obtain ⟨r14, u14, h, e1_1⟩ := fm_Mo_numberNode (T := T) (by assumption) h
    exact ⟨_, _, h, (by assumption)⟩
  · rcases br_el h with ⟨c1, h⟩ | ⟨c1, h⟩
    · obtain ⟨w2_0, w2_1, h, e2_1⟩ := fm_Mo_factor_J39 (T := T) hrf (by assumption) h
      exact ⟨_, _, h, (by assumption)⟩
    · rcases br_el h with ⟨c2, h⟩ | ⟨c2, h⟩
      · obtain ⟨w3_0, w3_1, h, e3_1⟩ := fm_Mo_factor_J39 (T := T) hrf (by assumption) h
        exact ⟨_, _, h, (by assumption)⟩
      · obtain ⟨r9, u9, -, qb3⟩ := dt_Mo_isWord h
        replace h := qb3 _ h
        rcases br_el h with ⟨c4, h⟩ | ⟨c4, h⟩
        · obtain ⟨w5_0, w5_1, h, e5_1⟩ := fm_Mo_factor_J181 (T := T) hrf (by assumption) h
          exact ⟨_, _, h, (by assumption)⟩
        · obtain ⟨r13, u13, -, qb5⟩ := dt_Mo_nameOf h
          replace h := qb5 _ h
          obtain ⟨w6_0, w6_1, h, e6_1⟩ := fm_Mo_factor_J181 (T := T) hrf (by assumption) h
          exact ⟨_, _, h, (by assumption)⟩
theorem fm_Mo_factor {T : Nat → Int32} : ∀ (d : Nat), ∀ (v0 : T_Mo) (post : (Int32 → T_Mo → Prop)), v0.1.1.1.1.1 = T → wp_Mo_factor d v0 post → (∃ (w0 : Int32) (w1 : T_Mo), post w0 w1 ∧ w1.1.1.1.1.1 = T) := by
  intro d
  induction d with
  | zero => intro v0 post f0 h; exact False.elim h
  | succ d ih =>
    intro v0 post f0 h
    exact fm_Mo_factor_F ih f0 h
set_option maxHeartbeats 2000000 in
theorem fm_Mo_test_J94 {T : Nat → Int32} {rf : T_Mo → (Int32 → T_Mo → Prop) → Prop} {z_this : T_Mo} {x1 : Int32} {x2 : Int32} {x3 : Int32} {y0 : Int32} (hrf : ∀ (v0 : T_Mo) (post : (Int32 → T_Mo → Prop)), v0.1.1.1.1.1 = T → rf v0 post → (∃ (w0 : Int32) (w1 : T_Mo), post w0 w1 ∧ w1.1.1.1.1.1 = T)) {post : Int32 → T_Mo → Prop} (e0 : z_this.1.1.1.1.1 = T) (h : wp_Mo_test_J94 rf post z_this x1 x2 x3 y0) : (∃ (w0 : Int32) (w1 : T_Mo), post w0 w1 ∧ w1.1.1.1.1.1 = T) := by
  unfold wp_Mo_test_J94 at h
  rcases br_el h with ⟨c0, h⟩ | ⟨c0, h⟩
  · obtain ⟨r3, u3, -, qb1⟩ := dt_Mo_unitIn h
    replace h := qb1 _ h
    obtain ⟨r4, u4, -, qb2⟩ := dt_Mo_unitIn h
    replace h := qb2 _ h
    rcases br_el h with ⟨c3, h⟩ | ⟨c3, h⟩
    · obtain ⟨r5, u5, h, e4_1⟩ := fm_Mo_two (T := T) (by assumption) h
      exact ⟨_, _, h, (by assumption)⟩
    · exact ⟨_, _, h, (by assumption)⟩
  · exact ⟨_, _, h, (by assumption)⟩
set_option maxHeartbeats 2000000 in
theorem fm_Mo_test_J73 {T : Nat → Int32} {rf : T_Mo → (Int32 → T_Mo → Prop) → Prop} {z_this : T_Mo} {x1 : Int32} {y0 : Int32} (hrf : ∀ (v0 : T_Mo) (post : (Int32 → T_Mo → Prop)), v0.1.1.1.1.1 = T → rf v0 post → (∃ (w0 : Int32) (w1 : T_Mo), post w0 w1 ∧ w1.1.1.1.1.1 = T)) {post : Int32 → T_Mo → Prop} (e0 : z_this.1.1.1.1.1 = T) (h : wp_Mo_test_J73 rf post z_this x1 y0) : (∃ (w0 : Int32) (w1 : T_Mo), post w0 w1 ∧ w1.1.1.1.1.1 = T) := by
  unfold wp_Mo_test_J73 at h
  obtain ⟨r2, u2, h, e0_1⟩ := fm_Mo_go (T := T) (by assumption) h
  rcases br_el h with ⟨c1, h⟩ | ⟨c1, h⟩
  · obtain ⟨w2_0, w2_1, h, e2_1⟩ := fm_Mo_test_J94 (T := T) hrf (by assumption) h
    exact ⟨_, _, h, (by assumption)⟩
  · obtain ⟨r6, u6, h, e2_1⟩ := fm_Mo_sum (T := T) hrf (by assumption) h
    obtain ⟨w3_0, w3_1, h, e3_1⟩ := fm_Mo_test_J94 (T := T) hrf (by assumption) h
    exact ⟨_, _, h, (by assumption)⟩
set_option maxHeartbeats 2000000 in
theorem fm_Mo_test_J43 {T : Nat → Int32} {rf : T_Mo → (Int32 → T_Mo → Prop) → Prop} {z_this : T_Mo} {x1 : Int32} (hrf : ∀ (v0 : T_Mo) (post : (Int32 → T_Mo → Prop)), v0.1.1.1.1.1 = T → rf v0 post → (∃ (w0 : Int32) (w1 : T_Mo), post w0 w1 ∧ w1.1.1.1.1.1 = T)) {post : Int32 → T_Mo → Prop} (e0 : z_this.1.1.1.1.1 = T) (h : wp_Mo_test_J43 rf post z_this x1) : (∃ (w0 : Int32) (w1 : T_Mo), post w0 w1 ∧ w1.1.1.1.1.1 = T) := by
  unfold wp_Mo_test_J43 at h
  rcases br_el h with ⟨c0, h⟩ | ⟨c0, h⟩
  · obtain ⟨w1_0, w1_1, h, e1_1⟩ := fm_Mo_test_J73 (T := T) hrf (by assumption) h
    exact ⟨_, _, h, (by assumption)⟩
  · rcases br_el h with ⟨c1, h⟩ | ⟨c1, h⟩
    · obtain ⟨w2_0, w2_1, h, e2_1⟩ := fm_Mo_test_J73 (T := T) hrf (by assumption) h
      exact ⟨_, _, h, (by assumption)⟩
    · obtain ⟨w2_0, w2_1, h, e2_1⟩ := fm_Mo_test_J73 (T := T) hrf (by assumption) h
      exact ⟨_, _, h, (by assumption)⟩
set_option maxHeartbeats 2000000 in
theorem fm_Mo_test {T : Nat → Int32} {rf : T_Mo → (Int32 → T_Mo → Prop) → Prop} {z_this : T_Mo} (hrf : ∀ (v0 : T_Mo) (post : (Int32 → T_Mo → Prop)), v0.1.1.1.1.1 = T → rf v0 post → (∃ (w0 : Int32) (w1 : T_Mo), post w0 w1 ∧ w1.1.1.1.1.1 = T)) {post : Int32 → T_Mo → Prop} (e0 : z_this.1.1.1.1.1 = T) (h : wp_Mo_test rf z_this post) : (∃ (w0 : Int32) (w1 : T_Mo), post w0 w1 ∧ w1.1.1.1.1.1 = T) := by
  unfold wp_Mo_test at h
  obtain ⟨r1, u1, h, e0_1⟩ := fm_Mo_sum (T := T) hrf (by assumption) h
  rcases br_el h with ⟨c1, h⟩ | ⟨c1, h⟩
  · rcases br_el h with ⟨c2, h⟩ | ⟨c2, h⟩
    · obtain ⟨w3_0, w3_1, h, e3_1⟩ := fm_Mo_test_J43 (T := T) hrf (by assumption) h
      exact ⟨_, _, h, (by assumption)⟩
    · rcases br_el h with ⟨c3, h⟩ | ⟨c3, h⟩
      · obtain ⟨w4_0, w4_1, h, e4_1⟩ := fm_Mo_test_J43 (T := T) hrf (by assumption) h
        exact ⟨_, _, h, (by assumption)⟩
      · rcases br_el h with ⟨c4, h⟩ | ⟨c4, h⟩
        · obtain ⟨w5_0, w5_1, h, e5_1⟩ := fm_Mo_test_J43 (T := T) hrf (by assumption) h
          exact ⟨_, _, h, (by assumption)⟩
        · obtain ⟨r7, u7, h, e5_1⟩ := fm_Mo_bad (T := T) (by assumption) h
          exact ⟨_, _, h, (by assumption)⟩
  · exact ⟨_, _, h, (by assumption)⟩
set_option maxHeartbeats 2000000 in
theorem fm_Mo_sumOf {T : Nat → Int32} {rf : T_Mo → (Int32 → T_Mo → Prop) → Prop} {z_this : T_Mo} {a1 : Int32} (hrf : ∀ (v0 : T_Mo) (post : (Int32 → T_Mo → Prop)), v0.1.1.1.1.1 = T → rf v0 post → (∃ (w0 : Int32) (w1 : T_Mo), post w0 w1 ∧ w1.1.1.1.1.1 = T)) {post : Int32 → T_Mo → Prop} (e0 : z_this.1.1.1.1.1 = T) (h : wp_Mo_sumOf rf z_this a1 post) : (∃ (w0 : Int32) (w1 : T_Mo), post w0 w1 ∧ w1.1.1.1.1.1 = T) := by
  unfold wp_Mo_sumOf at h
  obtain ⟨r1, u1, h, e0_1⟩ := fm_Mo_sum (T := T) hrf (by assumption) h
  rcases br_el h with ⟨c1, h⟩ | ⟨c1, h⟩
  · obtain ⟨r2, u2, -, qb2⟩ := dt_Mo_unitIn h
    replace h := qb2 _ h
    rcases br_el h with ⟨c3, h⟩ | ⟨c3, h⟩
    · obtain ⟨r3, u3, h, e4_1⟩ := fm_Mo_push (T := T) (by assumption) h
      exact ⟨_, _, h, (by assumption)⟩
    · exact ⟨_, _, h, (by assumption)⟩
  · exact ⟨_, _, h, (by assumption)⟩
set_option maxHeartbeats 2000000 in
theorem fm_Mo_statement_J26 {T : Nat → Int32} {d : Nat} {rf : T_Mo → (Int32 → T_Mo → Prop) → Prop} {z_this : T_Mo} {x1 : Int32} {x2 : Int32} (hrf : ∀ (v0 : T_Mo) (post : (Int32 → T_Mo → Prop)), v0.1.1.1.1.1 = T → rf v0 post → (∃ (w0 : Int32) (w1 : T_Mo), post w0 w1 ∧ w1.1.1.1.1.1 = T)) {post : Int32 → T_Mo → Prop} (e0 : z_this.1.1.1.1.1 = T) (h : wp_Mo_statement_J26 d rf post z_this x1 x2) : (∃ (w0 : Int32) (w1 : T_Mo), post w0 w1 ∧ w1.1.1.1.1.1 = T) := by
  unfold wp_Mo_statement_J26 at h
  obtain ⟨r1, u1, h, e0_1⟩ := fm_Mo_bad (T := T) (by assumption) h
  exact ⟨_, _, h, (by assumption)⟩
set_option maxHeartbeats 2000000 in
theorem fm_Mo_statement_J587 {T : Nat → Int32} {d : Nat} {rf : T_Mo → (Int32 → T_Mo → Prop) → Prop} {z_this : T_Mo} {x1 : Int32} {x2 : Int32} {x3 : Int32} {x4 : Int32} {x5 : Int32} (hrf : ∀ (v0 : T_Mo) (post : (Int32 → T_Mo → Prop)), v0.1.1.1.1.1 = T → rf v0 post → (∃ (w0 : Int32) (w1 : T_Mo), post w0 w1 ∧ w1.1.1.1.1.1 = T)) {post : Int32 → T_Mo → Prop} (e0 : z_this.1.1.1.1.1 = T) (h : wp_Mo_statement_J587 d rf post z_this x1 x2 x3 x4 x5) : (∃ (w0 : Int32) (w1 : T_Mo), post w0 w1 ∧ w1.1.1.1.1.1 = T) := by
  unfold wp_Mo_statement_J587 at h
  rcases br_el h with ⟨c0, h⟩ | ⟨c0, h⟩
  · exact ⟨_, _, h, (by assumption)⟩
  · obtain ⟨r4, u4, h, e1_1⟩ := fm_Mo_node0 (T := T) (by assumption) h
    exact ⟨_, _, h, (by assumption)⟩
set_option maxHeartbeats 2000000 in
theorem fm_Mo_statement_J195 {T : Nat → Int32} {d : Nat} {rf : T_Mo → (Int32 → T_Mo → Prop) → Prop} {z_this : T_Mo} {x1 : Int32} {x2 : Int32} {x3 : Int32} {x4 : Int32} {x5 : Int32} {y0 : Int32} (hrf : ∀ (v0 : T_Mo) (post : (Int32 → T_Mo → Prop)), v0.1.1.1.1.1 = T → rf v0 post → (∃ (w0 : Int32) (w1 : T_Mo), post w0 w1 ∧ w1.1.1.1.1.1 = T)) {post : Int32 → T_Mo → Prop} (e0 : z_this.1.1.1.1.1 = T) (h : wp_Mo_statement_J195 d rf post z_this x1 x2 x3 x4 x5 y0) : (∃ (w0 : Int32) (w1 : T_Mo), post w0 w1 ∧ w1.1.1.1.1.1 = T) := by
  unfold wp_Mo_statement_J195 at h
  obtain ⟨w0_0, w0_1, h, e0_1⟩ := fm_Mo_statement_J587 (T := T) hrf (by assumption) h
  exact ⟨_, _, h, (by assumption)⟩
set_option maxHeartbeats 2000000 in
theorem fm_Mo_statement_J194 {T : Nat → Int32} {d : Nat} {rf : T_Mo → (Int32 → T_Mo → Prop) → Prop} {z_this : T_Mo} {x1 : Int32} {x2 : Int32} {x3 : Int32} {x4 : Int32} {x5 : Int32} (hrf : ∀ (v0 : T_Mo) (post : (Int32 → T_Mo → Prop)), v0.1.1.1.1.1 = T → rf v0 post → (∃ (w0 : Int32) (w1 : T_Mo), post w0 w1 ∧ w1.1.1.1.1.1 = T)) {post : Int32 → T_Mo → Prop} (e0 : z_this.1.1.1.1.1 = T) (h : wp_Mo_statement_J194 d rf post z_this x1 x2 x3 x4 x5) : (∃ (w0 : Int32) (w1 : T_Mo), post w0 w1 ∧ w1.1.1.1.1.1 = T) := by
  unfold wp_Mo_statement_J194 at h
  obtain ⟨w0_0, w0_1, h, e0_1⟩ := fm_Mo_statement_J195 (T := T) hrf (by assumption) h
  exact ⟨_, _, h, (by assumption)⟩
set_option maxHeartbeats 2000000 in
theorem fm_Mo_statement_J181 {T : Nat → Int32} {d : Nat} {rf : T_Mo → (Int32 → T_Mo → Prop) → Prop} {z_this : T_Mo} {x1 : Int32} {x2 : Int32} {x3 : Int32} {x4 : Int32} {x5 : Int32} (hrf : ∀ (v0 : T_Mo) (post : (Int32 → T_Mo → Prop)), v0.1.1.1.1.1 = T → rf v0 post → (∃ (w0 : Int32) (w1 : T_Mo), post w0 w1 ∧ w1.1.1.1.1.1 = T)) {post : Int32 → T_Mo → Prop} (e0 : z_this.1.1.1.1.1 = T) (h : wp_Mo_statement_J181 d rf post z_this x1 x2 x3 x4 x5) : (∃ (w0 : Int32) (w1 : T_Mo), post w0 w1 ∧ w1.1.1.1.1.1 = T) := by
  unfold wp_Mo_statement_J181 at h
  obtain ⟨r6, u6, h, e0_1⟩ := fm_Mo_over (T := T) (by assumption) h
  rcases br_el h with ⟨c1, h⟩ | ⟨c1, h⟩
  · obtain ⟨w2_0, w2_1, h, e2_1⟩ := fm_Mo_statement_J194 (T := T) hrf (by assumption) h
    exact ⟨_, _, h, (by assumption)⟩
  · obtain ⟨w2_0, w2_1, h, e2_1⟩ := fm_Mo_statement_J195 (T := T) hrf (by assumption) h
    exact ⟨_, _, h, (by assumption)⟩
set_option maxHeartbeats 2000000 in
theorem fm_Mo_statement_J120 {T : Nat → Int32} {d : Nat} {rf : T_Mo → (Int32 → T_Mo → Prop) → Prop} {z_this : T_Mo} {x1 : Int32} {x2 : Int32} {x3 : Int32} {x4 : Int32} {x5 : Int32} (hrf : ∀ (v0 : T_Mo) (post : (Int32 → T_Mo → Prop)), v0.1.1.1.1.1 = T → rf v0 post → (∃ (w0 : Int32) (w1 : T_Mo), post w0 w1 ∧ w1.1.1.1.1.1 = T)) {post : Int32 → T_Mo → Prop} (e0 : z_this.1.1.1.1.1 = T) (h : wp_Mo_statement_J120 d rf post z_this x1 x2 x3 x4 x5) : (∃ (w0 : Int32) (w1 : T_Mo), post w0 w1 ∧ w1.1.1.1.1.1 = T) := by
  unfold wp_Mo_statement_J120 at h
  obtain ⟨r3, u3, h, e0_1⟩ := fm_Mo_known (T := T) (by assumption) h
  rcases br_el h with ⟨c1, h⟩ | ⟨c1, h⟩
  · obtain ⟨w2_0, w2_1, h, e2_1⟩ := fm_Mo_statement_J194 (T := T) hrf (by assumption) h
    exact ⟨_, _, h, (by assumption)⟩
  · replace h := h.2
    obtain ⟨r5, u5, h, e3_1⟩ := fm_Mo_sumOf (T := T) (fm_Mo_factor d) (by assumption) h
    rcases br_el h with ⟨c4, h⟩ | ⟨c4, h⟩
    · obtain ⟨w5_0, w5_1, h, e5_1⟩ := fm_Mo_statement_J194 (T := T) hrf (by assumption) h
      exact ⟨_, _, h, (by assumption)⟩
    · rcases br_el h with ⟨c5, h⟩ | ⟨c5, h⟩
      · obtain ⟨w6_0, w6_1, h, e6_1⟩ := fm_Mo_statement_J181 (T := T) hrf (by assumption) h
        exact ⟨_, _, h, (by assumption)⟩
      · obtain ⟨r7, u7, h, e6_1⟩ := fm_Mo_over (T := T) (by assumption) h
        rcases br_el h with ⟨c7, h⟩ | ⟨c7, h⟩
        · obtain ⟨w8_0, w8_1, h, e8_1⟩ := fm_Mo_statement_J194 (T := T) hrf (by assumption) h
          exact ⟨_, _, h, (by assumption)⟩
        · obtain ⟨r8, u8, h, e8_1⟩ := fm_Mo_sumOf (T := T) (fm_Mo_factor d) (by assumption) h
          rcases br_el h with ⟨c9, h⟩ | ⟨c9, h⟩
          · obtain ⟨w10_0, w10_1, h, e10_1⟩ := fm_Mo_statement_J194 (T := T) hrf (by assumption) h
            exact ⟨_, _, h, (by assumption)⟩
          · obtain ⟨w10_0, w10_1, h, e10_1⟩ := fm_Mo_statement_J181 (T := T) hrf (by assumption) h
            exact ⟨_, _, h, (by assumption)⟩
set_option maxHeartbeats 2000000 in
theorem fm_Mo_statement_J222 {T : Nat → Int32} {d : Nat} {rf : T_Mo → (Int32 → T_Mo → Prop) → Prop} {z_this : T_Mo} {x1 : Int32} {x2 : Int32} {x3 : Int32} {x4 : Int32} {x5 : Int32} {y0 : Int32} (hrf : ∀ (v0 : T_Mo) (post : (Int32 → T_Mo → Prop)), v0.1.1.1.1.1 = T → rf v0 post → (∃ (w0 : Int32) (w1 : T_Mo), post w0 w1 ∧ w1.1.1.1.1.1 = T)) {post : Int32 → T_Mo → Prop} (e0 : z_this.1.1.1.1.1 = T) (h : wp_Mo_statement_J222 d rf post z_this x1 x2 x3 x4 x5 y0) : (∃ (w0 : Int32) (w1 : T_Mo), post w0 w1 ∧ w1.1.1.1.1.1 = T) := by
  unfold wp_Mo_statement_J222 at h
  obtain ⟨w0_0, w0_1, h, e0_1⟩ := fm_Mo_statement_J587 (T := T) hrf (by assumption) h
  exact ⟨_, _, h, (by assumption)⟩
set_option maxHeartbeats 2000000 in
theorem fm_Mo_statement_J221 {T : Nat → Int32} {d : Nat} {rf : T_Mo → (Int32 → T_Mo → Prop) → Prop} {z_this : T_Mo} {x1 : Int32} {x2 : Int32} {x3 : Int32} {x4 : Int32} {x5 : Int32} (hrf : ∀ (v0 : T_Mo) (post : (Int32 → T_Mo → Prop)), v0.1.1.1.1.1 = T → rf v0 post → (∃ (w0 : Int32) (w1 : T_Mo), post w0 w1 ∧ w1.1.1.1.1.1 = T)) {post : Int32 → T_Mo → Prop} (e0 : z_this.1.1.1.1.1 = T) (h : wp_Mo_statement_J221 d rf post z_this x1 x2 x3 x4 x5) : (∃ (w0 : Int32) (w1 : T_Mo), post w0 w1 ∧ w1.1.1.1.1.1 = T) := by
  unfold wp_Mo_statement_J221 at h
  obtain ⟨w0_0, w0_1, h, e0_1⟩ := fm_Mo_statement_J222 (T := T) hrf (by assumption) h
  exact ⟨_, _, h, (by assumption)⟩
set_option maxHeartbeats 2000000 in
theorem fm_Mo_statement_J252 {T : Nat → Int32} {d : Nat} {rf : T_Mo → (Int32 → T_Mo → Prop) → Prop} {z_this : T_Mo} {x1 : Int32} {x2 : Int32} {x3 : Int32} {x4 : Int32} {x5 : Int32} {y0 : Int32} (hrf : ∀ (v0 : T_Mo) (post : (Int32 → T_Mo → Prop)), v0.1.1.1.1.1 = T → rf v0 post → (∃ (w0 : Int32) (w1 : T_Mo), post w0 w1 ∧ w1.1.1.1.1.1 = T)) {post : Int32 → T_Mo → Prop} (e0 : z_this.1.1.1.1.1 = T) (h : wp_Mo_statement_J252 d rf post z_this x1 x2 x3 x4 x5 y0) : (∃ (w0 : Int32) (w1 : T_Mo), post w0 w1 ∧ w1.1.1.1.1.1 = T) := by
  unfold wp_Mo_statement_J252 at h
  obtain ⟨w0_0, w0_1, h, e0_1⟩ := fm_Mo_statement_J587 (T := T) hrf (by assumption) h
  exact ⟨_, _, h, (by assumption)⟩
set_option maxHeartbeats 2000000 in
theorem fm_Mo_statement_J251 {T : Nat → Int32} {d : Nat} {rf : T_Mo → (Int32 → T_Mo → Prop) → Prop} {z_this : T_Mo} {x1 : Int32} {x2 : Int32} {x3 : Int32} {x4 : Int32} {x5 : Int32} (hrf : ∀ (v0 : T_Mo) (post : (Int32 → T_Mo → Prop)), v0.1.1.1.1.1 = T → rf v0 post → (∃ (w0 : Int32) (w1 : T_Mo), post w0 w1 ∧ w1.1.1.1.1.1 = T)) {post : Int32 → T_Mo → Prop} (e0 : z_this.1.1.1.1.1 = T) (h : wp_Mo_statement_J251 d rf post z_this x1 x2 x3 x4 x5) : (∃ (w0 : Int32) (w1 : T_Mo), post w0 w1 ∧ w1.1.1.1.1.1 = T) := by
  unfold wp_Mo_statement_J251 at h
  obtain ⟨w0_0, w0_1, h, e0_1⟩ := fm_Mo_statement_J252 (T := T) hrf (by assumption) h
  exact ⟨_, _, h, (by assumption)⟩
set_option maxHeartbeats 2000000 in
theorem fm_Mo_statement_L286 {T : Nat → Int32} {d : Nat} {rf : T_Mo → (Int32 → T_Mo → Prop) → Prop} (hrf : ∀ (v0 : T_Mo) (post : (Int32 → T_Mo → Prop)), v0.1.1.1.1.1 = T → rf v0 post → (∃ (w0 : Int32) (w1 : T_Mo), post w0 w1 ∧ w1.1.1.1.1.1 = T)) : ∀ (n9 : Nat) (z_this : T_Mo) (x1 : Int32) (x2 : Int32) (x3 : Int32) (x4 : Int32) (x5 : Int32) (K : T_Mo → Int32 → Int32 → Int32 → Int32 → Int32 → Prop) (post : Int32 → T_Mo → Prop), z_this.1.1.1.1.1 = T → wp_Mo_statement_L286 d rf K post n9 z_this x1 x2 x3 x4 x5 → (∃ (w0 : T_Mo) (w1 : Int32) (w2 : Int32) (w3 : Int32) (w4 : Int32) (w5 : Int32), K w0 w1 w2 w3 w4 w5 ∧ w0.1.1.1.1.1 = T) ∨ (∃ (w0 : Int32) (w1 : T_Mo), post w0 w1 ∧ w1.1.1.1.1.1 = T) := by
  intro n9
  induction n9 with
  | zero => intro z_this x1 x2 x3 x4 x5 K post e0 h; exact False.elim h
  | succ n9 ih =>
    intro z_this x1 x2 x3 x4 x5 K post e0 h
    rw [wp_Mo_statement_L286] at h
    rcases br_el h with ⟨c0, h⟩ | ⟨c0, h⟩
    · exact Or.inl ⟨_, _, _, _, _, _, h, (by assumption)⟩
    · rcases br_el h with ⟨c1, h⟩ | ⟨c1, h⟩
      · obtain ⟨r16, u16, h, e2_1⟩ := hrf _ _ (by assumption) h
        obtain ⟨r17, u17, h, e3_1⟩ := fm_Mo_pushed (T := T) (by assumption) h
        rcases ih _ _ _ _ _ _ _ _ (by assumption) h with ⟨w4_0, w4_1, w4_2, w4_3, w4_4, w4_5, h, e4_0⟩ | ⟨w4_0, w4_1, h, e4_1⟩
        · exact Or.inl ⟨_, _, _, _, _, _, h, (by assumption)⟩
        · exact Or.inr (⟨_, _, h, (by assumption)⟩)
      · exact Or.inl ⟨_, _, _, _, _, _, h, (by assumption)⟩
set_option maxHeartbeats 2000000 in
theorem fm_Mo_statement_J284 {T : Nat → Int32} {d : Nat} {rf : T_Mo → (Int32 → T_Mo → Prop) → Prop} {z_this : T_Mo} {x1 : Int32} {x2 : Int32} {x3 : Int32} {x4 : Int32} {x5 : Int32} {y0 : Int32} (hrf : ∀ (v0 : T_Mo) (post : (Int32 → T_Mo → Prop)), v0.1.1.1.1.1 = T → rf v0 post → (∃ (w0 : Int32) (w1 : T_Mo), post w0 w1 ∧ w1.1.1.1.1.1 = T)) {post : Int32 → T_Mo → Prop} (e0 : z_this.1.1.1.1.1 = T) (h : wp_Mo_statement_J284 d rf post z_this x1 x2 x3 x4 x5 y0) : (∃ (w0 : Int32) (w1 : T_Mo), post w0 w1 ∧ w1.1.1.1.1.1 = T) := by
  unfold wp_Mo_statement_J284 at h
  obtain ⟨k0, h⟩ := h
  rcases fm_Mo_statement_L286 (T := T) hrf k0 _ _ _ _ _ _ _ _ (by assumption) h with ⟨z_this, x1, x2, x3, x4, x5, h, e0_0⟩ | ⟨w0_0, w0_1, h, e0_1⟩
  · obtain ⟨w1_0, w1_1, h, e1_1⟩ := fm_Mo_statement_J587 (T := T) hrf (by assumption) h
    exact ⟨_, _, h, (by assumption)⟩
  · exact ⟨_, _, h, (by assumption)⟩
set_option maxHeartbeats 2000000 in
theorem fm_Mo_statement_J283 {T : Nat → Int32} {d : Nat} {rf : T_Mo → (Int32 → T_Mo → Prop) → Prop} {z_this : T_Mo} {x1 : Int32} {x2 : Int32} {x3 : Int32} {x4 : Int32} {x5 : Int32} (hrf : ∀ (v0 : T_Mo) (post : (Int32 → T_Mo → Prop)), v0.1.1.1.1.1 = T → rf v0 post → (∃ (w0 : Int32) (w1 : T_Mo), post w0 w1 ∧ w1.1.1.1.1.1 = T)) {post : Int32 → T_Mo → Prop} (e0 : z_this.1.1.1.1.1 = T) (h : wp_Mo_statement_J283 d rf post z_this x1 x2 x3 x4 x5) : (∃ (w0 : Int32) (w1 : T_Mo), post w0 w1 ∧ w1.1.1.1.1.1 = T) := by
  unfold wp_Mo_statement_J283 at h
  obtain ⟨w0_0, w0_1, h, e0_1⟩ := fm_Mo_statement_J284 (T := T) hrf (by assumption) h
  exact ⟨_, _, h, (by assumption)⟩
set_option maxHeartbeats 2000000 in
theorem fm_Mo_statement_J379 {T : Nat → Int32} {d : Nat} {rf : T_Mo → (Int32 → T_Mo → Prop) → Prop} {z_this : T_Mo} {x1 : Int32} {x2 : Int32} {x3 : Int32} {x4 : Int32} {x5 : Int32} {y0 : Int32} (hrf : ∀ (v0 : T_Mo) (post : (Int32 → T_Mo → Prop)), v0.1.1.1.1.1 = T → rf v0 post → (∃ (w0 : Int32) (w1 : T_Mo), post w0 w1 ∧ w1.1.1.1.1.1 = T)) {post : Int32 → T_Mo → Prop} (e0 : z_this.1.1.1.1.1 = T) (h : wp_Mo_statement_J379 d rf post z_this x1 x2 x3 x4 x5 y0) : (∃ (w0 : Int32) (w1 : T_Mo), post w0 w1 ∧ w1.1.1.1.1.1 = T) := by
  unfold wp_Mo_statement_J379 at h
  obtain ⟨w0_0, w0_1, h, e0_1⟩ := fm_Mo_statement_J587 (T := T) hrf (by assumption) h
  exact ⟨_, _, h, (by assumption)⟩
set_option maxHeartbeats 2000000 in
theorem fm_Mo_statement_J378 {T : Nat → Int32} {d : Nat} {rf : T_Mo → (Int32 → T_Mo → Prop) → Prop} {z_this : T_Mo} {x1 : Int32} {x2 : Int32} {x3 : Int32} {x4 : Int32} {x5 : Int32} (hrf : ∀ (v0 : T_Mo) (post : (Int32 → T_Mo → Prop)), v0.1.1.1.1.1 = T → rf v0 post → (∃ (w0 : Int32) (w1 : T_Mo), post w0 w1 ∧ w1.1.1.1.1.1 = T)) {post : Int32 → T_Mo → Prop} (e0 : z_this.1.1.1.1.1 = T) (h : wp_Mo_statement_J378 d rf post z_this x1 x2 x3 x4 x5) : (∃ (w0 : Int32) (w1 : T_Mo), post w0 w1 ∧ w1.1.1.1.1.1 = T) := by
  unfold wp_Mo_statement_J378 at h
  obtain ⟨w0_0, w0_1, h, e0_1⟩ := fm_Mo_statement_J379 (T := T) hrf (by assumption) h
  exact ⟨_, _, h, (by assumption)⟩
set_option maxHeartbeats 2000000 in
theorem fm_Mo_statement_J340 {T : Nat → Int32} {d : Nat} {rf : T_Mo → (Int32 → T_Mo → Prop) → Prop} {z_this : T_Mo} {x1 : Int32} {x2 : Int32} {x3 : Int32} {x4 : Int32} {x5 : Int32} {y0 : Int32} (hrf : ∀ (v0 : T_Mo) (post : (Int32 → T_Mo → Prop)), v0.1.1.1.1.1 = T → rf v0 post → (∃ (w0 : Int32) (w1 : T_Mo), post w0 w1 ∧ w1.1.1.1.1.1 = T)) {post : Int32 → T_Mo → Prop} (e0 : z_this.1.1.1.1.1 = T) (h : wp_Mo_statement_J340 d rf post z_this x1 x2 x3 x4 x5 y0) : (∃ (w0 : Int32) (w1 : T_Mo), post w0 w1 ∧ w1.1.1.1.1.1 = T) := by
  unfold wp_Mo_statement_J340 at h
  rcases br_el h with ⟨c0, h⟩ | ⟨c0, h⟩
  · obtain ⟨w1_0, w1_1, h, e1_1⟩ := fm_Mo_statement_J587 (T := T) hrf (by assumption) h
    exact ⟨_, _, h, (by assumption)⟩
  · obtain ⟨r22, u22, -, qb1⟩ := dt_Mo_isWord h
    replace h := qb1 _ h
    rcases br_el h with ⟨c2, h⟩ | ⟨c2, h⟩
    · obtain ⟨w3_0, w3_1, h, e3_1⟩ := fm_Mo_statement_J587 (T := T) hrf (by assumption) h
      exact ⟨_, _, h, (by assumption)⟩
    · obtain ⟨r23, u23, h, e3_1⟩ := fm_Mo_go (T := T) (by assumption) h
      rcases br_el h with ⟨c4, h⟩ | ⟨c4, h⟩
      · obtain ⟨w5_0, w5_1, h, e5_1⟩ := fm_Mo_statement_J378 (T := T) hrf (by assumption) h
        exact ⟨_, _, h, (by assumption)⟩
      · obtain ⟨r24, u24, h, e5_1⟩ := hrf _ _ (by assumption) h
        obtain ⟨r25, u25, h, e6_1⟩ := fm_Mo_pushed (T := T) (by assumption) h
        rcases br_el h with ⟨c7, h⟩ | ⟨c7, h⟩
        · obtain ⟨w8_0, w8_1, h, e8_1⟩ := fm_Mo_statement_J378 (T := T) hrf (by assumption) h
          exact ⟨_, _, h, (by assumption)⟩
        · obtain ⟨w8_0, w8_1, h, e8_1⟩ := fm_Mo_statement_J379 (T := T) hrf (by assumption) h
          exact ⟨_, _, h, (by assumption)⟩
set_option maxHeartbeats 2000000 in
theorem fm_Mo_statement_J339 {T : Nat → Int32} {d : Nat} {rf : T_Mo → (Int32 → T_Mo → Prop) → Prop} {z_this : T_Mo} {x1 : Int32} {x2 : Int32} {x3 : Int32} {x4 : Int32} {x5 : Int32} (hrf : ∀ (v0 : T_Mo) (post : (Int32 → T_Mo → Prop)), v0.1.1.1.1.1 = T → rf v0 post → (∃ (w0 : Int32) (w1 : T_Mo), post w0 w1 ∧ w1.1.1.1.1.1 = T)) {post : Int32 → T_Mo → Prop} (e0 : z_this.1.1.1.1.1 = T) (h : wp_Mo_statement_J339 d rf post z_this x1 x2 x3 x4 x5) : (∃ (w0 : Int32) (w1 : T_Mo), post w0 w1 ∧ w1.1.1.1.1.1 = T) := by
  unfold wp_Mo_statement_J339 at h
  obtain ⟨w0_0, w0_1, h, e0_1⟩ := fm_Mo_statement_J340 (T := T) hrf (by assumption) h
  exact ⟨_, _, h, (by assumption)⟩
set_option maxHeartbeats 2000000 in
theorem fm_Mo_statement_J408 {T : Nat → Int32} {d : Nat} {rf : T_Mo → (Int32 → T_Mo → Prop) → Prop} {z_this : T_Mo} {x1 : Int32} {x2 : Int32} {x3 : Int32} {x4 : Int32} {x5 : Int32} {y0 : Int32} (hrf : ∀ (v0 : T_Mo) (post : (Int32 → T_Mo → Prop)), v0.1.1.1.1.1 = T → rf v0 post → (∃ (w0 : Int32) (w1 : T_Mo), post w0 w1 ∧ w1.1.1.1.1.1 = T)) {post : Int32 → T_Mo → Prop} (e0 : z_this.1.1.1.1.1 = T) (h : wp_Mo_statement_J408 d rf post z_this x1 x2 x3 x4 x5 y0) : (∃ (w0 : Int32) (w1 : T_Mo), post w0 w1 ∧ w1.1.1.1.1.1 = T) := by
  unfold wp_Mo_statement_J408 at h
  obtain ⟨w0_0, w0_1, h, e0_1⟩ := fm_Mo_statement_J587 (T := T) hrf (by assumption) h
  exact ⟨_, _, h, (by assumption)⟩
set_option maxHeartbeats 2000000 in
theorem fm_Mo_statement_J407 {T : Nat → Int32} {d : Nat} {rf : T_Mo → (Int32 → T_Mo → Prop) → Prop} {z_this : T_Mo} {x1 : Int32} {x2 : Int32} {x3 : Int32} {x4 : Int32} {x5 : Int32} (hrf : ∀ (v0 : T_Mo) (post : (Int32 → T_Mo → Prop)), v0.1.1.1.1.1 = T → rf v0 post → (∃ (w0 : Int32) (w1 : T_Mo), post w0 w1 ∧ w1.1.1.1.1.1 = T)) {post : Int32 → T_Mo → Prop} (e0 : z_this.1.1.1.1.1 = T) (h : wp_Mo_statement_J407 d rf post z_this x1 x2 x3 x4 x5) : (∃ (w0 : Int32) (w1 : T_Mo), post w0 w1 ∧ w1.1.1.1.1.1 = T) := by
  unfold wp_Mo_statement_J407 at h
  obtain ⟨w0_0, w0_1, h, e0_1⟩ := fm_Mo_statement_J408 (T := T) hrf (by assumption) h
  exact ⟨_, _, h, (by assumption)⟩
set_option maxHeartbeats 2000000 in
theorem fm_Mo_statement_J461 {T : Nat → Int32} {d : Nat} {rf : T_Mo → (Int32 → T_Mo → Prop) → Prop} {z_this : T_Mo} {x1 : Int32} {x2 : Int32} {x3 : Int32} {x4 : Int32} {x5 : Int32} {y0 : Int32} (hrf : ∀ (v0 : T_Mo) (post : (Int32 → T_Mo → Prop)), v0.1.1.1.1.1 = T → rf v0 post → (∃ (w0 : Int32) (w1 : T_Mo), post w0 w1 ∧ w1.1.1.1.1.1 = T)) {post : Int32 → T_Mo → Prop} (e0 : z_this.1.1.1.1.1 = T) (h : wp_Mo_statement_J461 d rf post z_this x1 x2 x3 x4 x5 y0) : (∃ (w0 : Int32) (w1 : T_Mo), post w0 w1 ∧ w1.1.1.1.1.1 = T) := by
  unfold wp_Mo_statement_J461 at h
  obtain ⟨w0_0, w0_1, h, e0_1⟩ := fm_Mo_statement_J587 (T := T) hrf (by assumption) h
  exact ⟨_, _, h, (by assumption)⟩
set_option maxHeartbeats 2000000 in
theorem fm_Mo_statement_J460 {T : Nat → Int32} {d : Nat} {rf : T_Mo → (Int32 → T_Mo → Prop) → Prop} {z_this : T_Mo} {x1 : Int32} {x2 : Int32} {x3 : Int32} {x4 : Int32} {x5 : Int32} (hrf : ∀ (v0 : T_Mo) (post : (Int32 → T_Mo → Prop)), v0.1.1.1.1.1 = T → rf v0 post → (∃ (w0 : Int32) (w1 : T_Mo), post w0 w1 ∧ w1.1.1.1.1.1 = T)) {post : Int32 → T_Mo → Prop} (e0 : z_this.1.1.1.1.1 = T) (h : wp_Mo_statement_J460 d rf post z_this x1 x2 x3 x4 x5) : (∃ (w0 : Int32) (w1 : T_Mo), post w0 w1 ∧ w1.1.1.1.1.1 = T) := by
  unfold wp_Mo_statement_J460 at h
  obtain ⟨w0_0, w0_1, h, e0_1⟩ := fm_Mo_statement_J461 (T := T) hrf (by assumption) h
  exact ⟨_, _, h, (by assumption)⟩
set_option maxHeartbeats 2000000 in
theorem fm_Mo_statement_J504 {T : Nat → Int32} {d : Nat} {rf : T_Mo → (Int32 → T_Mo → Prop) → Prop} {z_this : T_Mo} {x1 : Int32} {x2 : Int32} {x3 : Int32} {x4 : Int32} {x5 : Int32} {y0 : Int32} (hrf : ∀ (v0 : T_Mo) (post : (Int32 → T_Mo → Prop)), v0.1.1.1.1.1 = T → rf v0 post → (∃ (w0 : Int32) (w1 : T_Mo), post w0 w1 ∧ w1.1.1.1.1.1 = T)) {post : Int32 → T_Mo → Prop} (e0 : z_this.1.1.1.1.1 = T) (h : wp_Mo_statement_J504 d rf post z_this x1 x2 x3 x4 x5 y0) : (∃ (w0 : Int32) (w1 : T_Mo), post w0 w1 ∧ w1.1.1.1.1.1 = T) := by
  unfold wp_Mo_statement_J504 at h
  obtain ⟨w0_0, w0_1, h, e0_1⟩ := fm_Mo_statement_J587 (T := T) hrf (by assumption) h
  exact ⟨_, _, h, (by assumption)⟩
set_option maxHeartbeats 2000000 in
theorem fm_Mo_statement_J503 {T : Nat → Int32} {d : Nat} {rf : T_Mo → (Int32 → T_Mo → Prop) → Prop} {z_this : T_Mo} {x1 : Int32} {x2 : Int32} {x3 : Int32} {x4 : Int32} {x5 : Int32} (hrf : ∀ (v0 : T_Mo) (post : (Int32 → T_Mo → Prop)), v0.1.1.1.1.1 = T → rf v0 post → (∃ (w0 : Int32) (w1 : T_Mo), post w0 w1 ∧ w1.1.1.1.1.1 = T)) {post : Int32 → T_Mo → Prop} (e0 : z_this.1.1.1.1.1 = T) (h : wp_Mo_statement_J503 d rf post z_this x1 x2 x3 x4 x5) : (∃ (w0 : Int32) (w1 : T_Mo), post w0 w1 ∧ w1.1.1.1.1.1 = T) := by
  unfold wp_Mo_statement_J503 at h
  obtain ⟨w0_0, w0_1, h, e0_1⟩ := fm_Mo_statement_J504 (T := T) hrf (by assumption) h
  exact ⟨_, _, h, (by assumption)⟩
set_option maxHeartbeats 2000000 in
theorem fm_Mo_statement_J480 {T : Nat → Int32} {d : Nat} {rf : T_Mo → (Int32 → T_Mo → Prop) → Prop} {z_this : T_Mo} {x1 : Int32} {x2 : Int32} {x3 : Int32} {x4 : Int32} {x5 : Int32} {y0 : Int32} (hrf : ∀ (v0 : T_Mo) (post : (Int32 → T_Mo → Prop)), v0.1.1.1.1.1 = T → rf v0 post → (∃ (w0 : Int32) (w1 : T_Mo), post w0 w1 ∧ w1.1.1.1.1.1 = T)) {post : Int32 → T_Mo → Prop} (e0 : z_this.1.1.1.1.1 = T) (h : wp_Mo_statement_J480 d rf post z_this x1 x2 x3 x4 x5 y0) : (∃ (w0 : Int32) (w1 : T_Mo), post w0 w1 ∧ w1.1.1.1.1.1 = T) := by
  unfold wp_Mo_statement_J480 at h
  obtain ⟨r38, u38, h, e0_1⟩ := fm_Mo_known (T := T) (by assumption) h
  rcases br_el h with ⟨c1, h⟩ | ⟨c1, h⟩
  · obtain ⟨w2_0, w2_1, h, e2_1⟩ := fm_Mo_statement_J503 (T := T) hrf (by assumption) h
    exact ⟨_, _, h, (by assumption)⟩
  · obtain ⟨r39, u39, h, e2_1⟩ := fm_Mo_over (T := T) (by assumption) h
    rcases br_el h with ⟨c3, h⟩ | ⟨c3, h⟩
    · obtain ⟨w4_0, w4_1, h, e4_1⟩ := fm_Mo_statement_J503 (T := T) hrf (by assumption) h
      exact ⟨_, _, h, (by assumption)⟩
    · obtain ⟨w4_0, w4_1, h, e4_1⟩ := fm_Mo_statement_J504 (T := T) hrf (by assumption) h
      exact ⟨_, _, h, (by assumption)⟩
set_option maxHeartbeats 2000000 in
theorem fm_Mo_statement_J466 {T : Nat → Int32} {d : Nat} {rf : T_Mo → (Int32 → T_Mo → Prop) → Prop} {z_this : T_Mo} {x1 : Int32} {x2 : Int32} {x3 : Int32} {x4 : Int32} {x5 : Int32} (hrf : ∀ (v0 : T_Mo) (post : (Int32 → T_Mo → Prop)), v0.1.1.1.1.1 = T → rf v0 post → (∃ (w0 : Int32) (w1 : T_Mo), post w0 w1 ∧ w1.1.1.1.1.1 = T)) {post : Int32 → T_Mo → Prop} (e0 : z_this.1.1.1.1.1 = T) (h : wp_Mo_statement_J466 d rf post z_this x1 x2 x3 x4 x5) : (∃ (w0 : Int32) (w1 : T_Mo), post w0 w1 ∧ w1.1.1.1.1.1 = T) := by
  unfold wp_Mo_statement_J466 at h
  rcases br_el h with ⟨c0, h⟩ | ⟨c0, h⟩
  · obtain ⟨w1_0, w1_1, h, e1_1⟩ := fm_Mo_statement_J480 (T := T) hrf (by assumption) h
    exact ⟨_, _, h, (by assumption)⟩
  · obtain ⟨w1_0, w1_1, h, e1_1⟩ := fm_Mo_statement_J480 (T := T) hrf (by assumption) h
    exact ⟨_, _, h, (by assumption)⟩
set_option maxHeartbeats 2000000 in
theorem fm_Mo_statement_J537 {T : Nat → Int32} {d : Nat} {rf : T_Mo → (Int32 → T_Mo → Prop) → Prop} {z_this : T_Mo} {x1 : Int32} {x2 : Int32} {x3 : Int32} {x4 : Int32} {x5 : Int32} (hrf : ∀ (v0 : T_Mo) (post : (Int32 → T_Mo → Prop)), v0.1.1.1.1.1 = T → rf v0 post → (∃ (w0 : Int32) (w1 : T_Mo), post w0 w1 ∧ w1.1.1.1.1.1 = T)) {post : Int32 → T_Mo → Prop} (e0 : z_this.1.1.1.1.1 = T) (h : wp_Mo_statement_J537 d rf post z_this x1 x2 x3 x4 x5) : (∃ (w0 : Int32) (w1 : T_Mo), post w0 w1 ∧ w1.1.1.1.1.1 = T) := by
  unfold wp_Mo_statement_J537 at h
  obtain ⟨r40, u40, h, e0_1⟩ := fm_Mo_bad (T := T) (by assumption) h
  exact ⟨_, _, h, (by assumption)⟩
set_option maxHeartbeats 2000000 in
theorem fm_Mo_statement_J574 {T : Nat → Int32} {d : Nat} {rf : T_Mo → (Int32 → T_Mo → Prop) → Prop} {z_this : T_Mo} {x1 : Int32} {x2 : Int32} {x3 : Int32} {x4 : Int32} {x5 : Int32} {y0 : Int32} (hrf : ∀ (v0 : T_Mo) (post : (Int32 → T_Mo → Prop)), v0.1.1.1.1.1 = T → rf v0 post → (∃ (w0 : Int32) (w1 : T_Mo), post w0 w1 ∧ w1.1.1.1.1.1 = T)) {post : Int32 → T_Mo → Prop} (e0 : z_this.1.1.1.1.1 = T) (h : wp_Mo_statement_J574 d rf post z_this x1 x2 x3 x4 x5 y0) : (∃ (w0 : Int32) (w1 : T_Mo), post w0 w1 ∧ w1.1.1.1.1.1 = T) := by
  unfold wp_Mo_statement_J574 at h
  obtain ⟨w0_0, w0_1, h, e0_1⟩ := fm_Mo_statement_J587 (T := T) hrf (by assumption) h
  exact ⟨_, _, h, (by assumption)⟩
set_option maxHeartbeats 2000000 in
theorem fm_Mo_statement_J573 {T : Nat → Int32} {d : Nat} {rf : T_Mo → (Int32 → T_Mo → Prop) → Prop} {z_this : T_Mo} {x1 : Int32} {x2 : Int32} {x3 : Int32} {x4 : Int32} {x5 : Int32} (hrf : ∀ (v0 : T_Mo) (post : (Int32 → T_Mo → Prop)), v0.1.1.1.1.1 = T → rf v0 post → (∃ (w0 : Int32) (w1 : T_Mo), post w0 w1 ∧ w1.1.1.1.1.1 = T)) {post : Int32 → T_Mo → Prop} (e0 : z_this.1.1.1.1.1 = T) (h : wp_Mo_statement_J573 d rf post z_this x1 x2 x3 x4 x5) : (∃ (w0 : Int32) (w1 : T_Mo), post w0 w1 ∧ w1.1.1.1.1.1 = T) := by
  unfold wp_Mo_statement_J573 at h
  obtain ⟨w0_0, w0_1, h, e0_1⟩ := fm_Mo_statement_J574 (T := T) hrf (by assumption) h
  exact ⟨_, _, h, (by assumption)⟩
set_option maxHeartbeats 2000000 in
theorem fm_Mo_statement_J579 {T : Nat → Int32} {d : Nat} {rf : T_Mo → (Int32 → T_Mo → Prop) → Prop} {z_this : T_Mo} {x1 : Int32} {x2 : Int32} {x3 : Int32} {x4 : Int32} {x5 : Int32} (hrf : ∀ (v0 : T_Mo) (post : (Int32 → T_Mo → Prop)), v0.1.1.1.1.1 = T → rf v0 post → (∃ (w0 : Int32) (w1 : T_Mo), post w0 w1 ∧ w1.1.1.1.1.1 = T)) {post : Int32 → T_Mo → Prop} (e0 : z_this.1.1.1.1.1 = T) (h : wp_Mo_statement_J579 d rf post z_this x1 x2 x3 x4 x5) : (∃ (w0 : Int32) (w1 : T_Mo), post w0 w1 ∧ w1.1.1.1.1.1 = T) := by
  unfold wp_Mo_statement_J579 at h
  obtain ⟨r43, u43, h, e0_1⟩ := fm_Mo_over (T := T) (by assumption) h
  obtain ⟨w1_0, w1_1, h, e1_1⟩ := fm_Mo_statement_J587 (T := T) hrf (by assumption) h
  exact ⟨_, _, h, (by assumption)⟩
set_option maxHeartbeats 2000000 in
theorem fm_Mo_statement {T : Nat → Int32} {d : Nat} {rf : T_Mo → (Int32 → T_Mo → Prop) → Prop} {z_this : T_Mo} (hrf : ∀ (v0 : T_Mo) (post : (Int32 → T_Mo → Prop)), v0.1.1.1.1.1 = T → rf v0 post → (∃ (w0 : Int32) (w1 : T_Mo), post w0 w1 ∧ w1.1.1.1.1.1 = T)) {post : Int32 → T_Mo → Prop} (e0 : z_this.1.1.1.1.1 = T) (h : wp_Mo_statement d rf z_this post) : (∃ (w0 : Int32) (w1 : T_Mo), post w0 w1 ∧ w1.1.1.1.1.1 = T) := by
  unfold wp_Mo_statement at h
  rcases br_el h with ⟨c0, h⟩ | ⟨c0, h⟩
  · obtain ⟨w1_0, w1_1, h, e1_1⟩ := fm_Mo_statement_J26 (T := T) hrf (by assumption) h
    exact ⟨_, _, h, (by assumption)⟩
  · rcases br_el h with ⟨c1, h⟩ | ⟨c1, h⟩
    · obtain ⟨r2, u2, h, e2_1⟩ := fm_Mo_go (T := T) (by assumption) h
      rcases br_el h with ⟨c3, h⟩ | ⟨c3, h⟩
      · exact ⟨_, _, h, (by assumption)⟩
      · rcases Classical.em ((z_this.1.1.1.2.2.2 - (1000 : Int32)) = (10 : Int32)) with c4_0 | c4_0
        · replace h := (h).1 c4_0
          obtain ⟨w5_0, w5_1, h, e5_1⟩ := fm_Mo_statement_J120 (T := T) hrf (by assumption) h
          exact ⟨_, _, h, (by assumption)⟩
        · rcases Classical.em ((z_this.1.1.1.2.2.2 - (1000 : Int32)) = (11 : Int32)) with c4_1 | c4_1
          · replace h := (h).2.1 c4_1
            obtain ⟨r9, u9, h, e5_1⟩ := fm_Mo_sumOf (T := T) (fm_Mo_factor d) (by assumption) h
            rcases br_el h with ⟨c6, h⟩ | ⟨c6, h⟩
            · obtain ⟨w7_0, w7_1, h, e7_1⟩ := fm_Mo_statement_J221 (T := T) hrf (by assumption) h
              exact ⟨_, _, h, (by assumption)⟩
            · obtain ⟨r10, u10, h, e7_1⟩ := fm_Mo_over (T := T) (by assumption) h
              rcases br_el h with ⟨c8, h⟩ | ⟨c8, h⟩
              · obtain ⟨w9_0, w9_1, h, e9_1⟩ := fm_Mo_statement_J221 (T := T) hrf (by assumption) h
                exact ⟨_, _, h, (by assumption)⟩
              · obtain ⟨w9_0, w9_1, h, e9_1⟩ := fm_Mo_statement_J222 (T := T) hrf (by assumption) h
                exact ⟨_, _, h, (by assumption)⟩
          · rcases Classical.em ((z_this.1.1.1.2.2.2 - (1000 : Int32)) = (12 : Int32)) with c4_2 | c4_2
            · replace h := (h).2.2.1 c4_2
              obtain ⟨r11, u11, h, e5_1⟩ := fm_Mo_test (T := T) (fm_Mo_factor d) (by assumption) h
              obtain ⟨r12, u12, h, e6_1⟩ := fm_Mo_pushed (T := T) (by assumption) h
              rcases br_el h with ⟨c7, h⟩ | ⟨c7, h⟩
              · obtain ⟨w8_0, w8_1, h, e8_1⟩ := fm_Mo_statement_J251 (T := T) hrf (by assumption) h
                exact ⟨_, _, h, (by assumption)⟩
              · obtain ⟨r13, u13, h, e8_1⟩ := fm_Mo_over (T := T) (by assumption) h
                rcases br_el h with ⟨c9, h⟩ | ⟨c9, h⟩
                · obtain ⟨w10_0, w10_1, h, e10_1⟩ := fm_Mo_statement_J251 (T := T) hrf (by assumption) h
                  exact ⟨_, _, h, (by assumption)⟩
                · obtain ⟨w10_0, w10_1, h, e10_1⟩ := fm_Mo_statement_J252 (T := T) hrf (by assumption) h
                  exact ⟨_, _, h, (by assumption)⟩
            · rcases Classical.em ((z_this.1.1.1.2.2.2 - (1000 : Int32)) = (13 : Int32)) with c4_3 | c4_3
              · replace h := (h).2.2.2.1 c4_3
                obtain ⟨w5_0, w5_1, h, e5_1⟩ := fm_Mo_statement_J120 (T := T) hrf (by assumption) h
                exact ⟨_, _, h, (by assumption)⟩
              · rcases Classical.em ((z_this.1.1.1.2.2.2 - (1000 : Int32)) = (14 : Int32)) with c4_4 | c4_4
                · replace h := (h).2.2.2.2.1 c4_4
                  obtain ⟨r14, u14, h, e5_1⟩ := hrf _ _ (by assumption) h
                  obtain ⟨r15, u15, h, e6_1⟩ := fm_Mo_pushed (T := T) (by assumption) h
                  rcases br_el h with ⟨c7, h⟩ | ⟨c7, h⟩
                  · obtain ⟨w8_0, w8_1, h, e8_1⟩ := fm_Mo_statement_J283 (T := T) hrf (by assumption) h
                    exact ⟨_, _, h, (by assumption)⟩
                  · obtain ⟨r18, u18, h, e8_1⟩ := hrf _ _ (by assumption) h
                    obtain ⟨r19, u19, h, e9_1⟩ := fm_Mo_pushed (T := T) (by assumption) h
                    rcases br_el h with ⟨c10, h⟩ | ⟨c10, h⟩
                    · obtain ⟨w11_0, w11_1, h, e11_1⟩ := fm_Mo_statement_J283 (T := T) hrf (by assumption) h
                      exact ⟨_, _, h, (by assumption)⟩
                    · obtain ⟨w11_0, w11_1, h, e11_1⟩ := fm_Mo_statement_J284 (T := T) hrf (by assumption) h
                      exact ⟨_, _, h, (by assumption)⟩
                · rcases Classical.em ((z_this.1.1.1.2.2.2 - (1000 : Int32)) = (15 : Int32)) with c4_5 | c4_5
                  · replace h := (h).2.2.2.2.2.1 c4_5
                    obtain ⟨r20, u20, h, e5_1⟩ := fm_Mo_test (T := T) (fm_Mo_factor d) (by assumption) h
                    obtain ⟨r21, u21, h, e6_1⟩ := fm_Mo_pushed (T := T) (by assumption) h
                    rcases br_el h with ⟨c7, h⟩ | ⟨c7, h⟩
                    · obtain ⟨w8_0, w8_1, h, e8_1⟩ := fm_Mo_statement_J339 (T := T) hrf (by assumption) h
                      exact ⟨_, _, h, (by assumption)⟩
                    · obtain ⟨r26, u26, h, e8_1⟩ := hrf _ _ (by assumption) h
                      obtain ⟨r27, u27, h, e9_1⟩ := fm_Mo_pushed (T := T) (by assumption) h
                      rcases br_el h with ⟨c10, h⟩ | ⟨c10, h⟩
                      · obtain ⟨w11_0, w11_1, h, e11_1⟩ := fm_Mo_statement_J339 (T := T) hrf (by assumption) h
                        exact ⟨_, _, h, (by assumption)⟩
                      · obtain ⟨w11_0, w11_1, h, e11_1⟩ := fm_Mo_statement_J340 (T := T) hrf (by assumption) h
                        exact ⟨_, _, h, (by assumption)⟩
                  · rcases Classical.em ((z_this.1.1.1.2.2.2 - (1000 : Int32)) = (16 : Int32)) with c4_6 | c4_6
                    · replace h := (h).2.2.2.2.2.2.1 c4_6
                      obtain ⟨r28, u28, h, e5_1⟩ := fm_Mo_sumOf (T := T) (fm_Mo_factor d) (by assumption) h
                      rcases br_el h with ⟨c6, h⟩ | ⟨c6, h⟩
                      · obtain ⟨w7_0, w7_1, h, e7_1⟩ := fm_Mo_statement_J407 (T := T) hrf (by assumption) h
                        exact ⟨_, _, h, (by assumption)⟩
                      · obtain ⟨r29, u29, h, e7_1⟩ := hrf _ _ (by assumption) h
                        obtain ⟨r30, u30, h, e8_1⟩ := fm_Mo_pushed (T := T) (by assumption) h
                        rcases br_el h with ⟨c9, h⟩ | ⟨c9, h⟩
                        · obtain ⟨w10_0, w10_1, h, e10_1⟩ := fm_Mo_statement_J407 (T := T) hrf (by assumption) h
                          exact ⟨_, _, h, (by assumption)⟩
                        · obtain ⟨w10_0, w10_1, h, e10_1⟩ := fm_Mo_statement_J408 (T := T) hrf (by assumption) h
                          exact ⟨_, _, h, (by assumption)⟩
                    · rcases Classical.em ((z_this.1.1.1.2.2.2 - (1000 : Int32)) = (17 : Int32)) with c4_7 | c4_7
                      · replace h := (h).2.2.2.2.2.2.2.1 c4_7
                        obtain ⟨r31, u31, h, e5_1⟩ := fm_Mo_test (T := T) (fm_Mo_factor d) (by assumption) h
                        obtain ⟨r32, u32, h, e6_1⟩ := fm_Mo_pushed (T := T) (by assumption) h
                        rcases br_el h with ⟨c7, h⟩ | ⟨c7, h⟩
                        · obtain ⟨w8_0, w8_1, h, e8_1⟩ := fm_Mo_statement_J460 (T := T) hrf (by assumption) h
                          exact ⟨_, _, h, (by assumption)⟩
                        · obtain ⟨r33, u33, h, e8_1⟩ := hrf _ _ (by assumption) h
                          obtain ⟨r34, u34, h, e9_1⟩ := fm_Mo_pushed (T := T) (by assumption) h
                          rcases br_el h with ⟨c10, h⟩ | ⟨c10, h⟩
                          · obtain ⟨w11_0, w11_1, h, e11_1⟩ := fm_Mo_statement_J460 (T := T) hrf (by assumption) h
                            exact ⟨_, _, h, (by assumption)⟩
                          · obtain ⟨r35, u35, h, e11_1⟩ := fm_Mo_over (T := T) (by assumption) h
                            rcases br_el h with ⟨c12, h⟩ | ⟨c12, h⟩
                            · obtain ⟨w13_0, w13_1, h, e13_1⟩ := fm_Mo_statement_J460 (T := T) hrf (by assumption) h
                              exact ⟨_, _, h, (by assumption)⟩
                            · obtain ⟨r36, u36, h, e13_1⟩ := hrf _ _ (by assumption) h
                              obtain ⟨r37, u37, h, e14_1⟩ := fm_Mo_pushed (T := T) (by assumption) h
                              rcases br_el h with ⟨c15, h⟩ | ⟨c15, h⟩
                              · obtain ⟨w16_0, w16_1, h, e16_1⟩ := fm_Mo_statement_J460 (T := T) hrf (by assumption) h
                                exact ⟨_, _, h, (by assumption)⟩
                              · obtain ⟨w16_0, w16_1, h, e16_1⟩ := fm_Mo_statement_J461 (T := T) hrf (by assumption) h
                                exact ⟨_, _, h, (by assumption)⟩
                      · rcases Classical.em ((z_this.1.1.1.2.2.2 - (1000 : Int32)) = (18 : Int32)) with c4_8 | c4_8
                        · replace h := (h).2.2.2.2.2.2.2.2.1 c4_8
                          obtain ⟨w5_0, w5_1, h, e5_1⟩ := fm_Mo_statement_J466 (T := T) hrf (by assumption) h
                          exact ⟨_, _, h, (by assumption)⟩
                        · rcases Classical.em ((z_this.1.1.1.2.2.2 - (1000 : Int32)) = (19 : Int32)) with c4_9 | c4_9
                          · replace h := (h).2.2.2.2.2.2.2.2.2.1 c4_9
                            obtain ⟨w5_0, w5_1, h, e5_1⟩ := fm_Mo_statement_J466 (T := T) hrf (by assumption) h
                            exact ⟨_, _, h, (by assumption)⟩
                          · rcases Classical.em ((z_this.1.1.1.2.2.2 - (1000 : Int32)) = (22 : Int32)) with c4_10 | c4_10
                            · replace h := (h).2.2.2.2.2.2.2.2.2.2.1 c4_10
                              rcases br_el h with ⟨c5, h⟩ | ⟨c5, h⟩
                              · rcases br_el h with ⟨c6, h⟩ | ⟨c6, h⟩
                                · rcases br_el h with ⟨c7, h⟩ | ⟨c7, h⟩
                                  · obtain ⟨r41, u41, h, e8_1⟩ := fm_Mo_go (T := T) (by assumption) h
                                    rcases br_el h with ⟨c9, h⟩ | ⟨c9, h⟩
                                    · obtain ⟨w10_0, w10_1, h, e10_1⟩ := fm_Mo_statement_J573 (T := T) hrf (by assumption) h
                                      exact ⟨_, _, h, (by assumption)⟩
                                    · obtain ⟨r42, u42, h, e10_1⟩ := fm_Mo_over (T := T) (by assumption) h
                                      rcases br_el h with ⟨c11, h⟩ | ⟨c11, h⟩
                                      · obtain ⟨w12_0, w12_1, h, e12_1⟩ := fm_Mo_statement_J573 (T := T) hrf (by assumption) h
                                        exact ⟨_, _, h, (by assumption)⟩
                                      · obtain ⟨w12_0, w12_1, h, e12_1⟩ := fm_Mo_statement_J574 (T := T) hrf (by assumption) h
                                        exact ⟨_, _, h, (by assumption)⟩
                                  · obtain ⟨w8_0, w8_1, h, e8_1⟩ := fm_Mo_statement_J537 (T := T) hrf (by assumption) h
                                    exact ⟨_, _, h, (by assumption)⟩
                                · obtain ⟨w7_0, w7_1, h, e7_1⟩ := fm_Mo_statement_J537 (T := T) hrf (by assumption) h
                                  exact ⟨_, _, h, (by assumption)⟩
                              · obtain ⟨w6_0, w6_1, h, e6_1⟩ := fm_Mo_statement_J537 (T := T) hrf (by assumption) h
                                exact ⟨_, _, h, (by assumption)⟩
                            · replace h := (h).2.2.2.2.2.2.2.2.2.2.2 ⟨c4_0, c4_1, c4_2, c4_3, c4_4, c4_5, c4_6, c4_7, c4_8, c4_9, c4_10⟩
                              obtain ⟨w5_0, w5_1, h, e5_1⟩ := fm_Mo_statement_J579 (T := T) hrf (by assumption) h
                              exact ⟨_, _, h, (by assumption)⟩
    · obtain ⟨w2_0, w2_1, h, e2_1⟩ := fm_Mo_statement_J26 (T := T) hrf (by assumption) h
      exact ⟨_, _, h, (by assumption)⟩
set_option maxHeartbeats 2000000 in
theorem fm_Mo_block_L52 {T : Nat → Int32} {d : Nat} {rf : T_Mo → (Int32 → T_Mo → Prop) → Prop} (hrf : ∀ (v0 : T_Mo) (post : (Int32 → T_Mo → Prop)), v0.1.1.1.1.1 = T → rf v0 post → (∃ (w0 : Int32) (w1 : T_Mo), post w0 w1 ∧ w1.1.1.1.1.1 = T)) : ∀ (n9 : Nat) (z_this : T_Mo) (x1 : Int32) (x2 : Int32) (K : T_Mo → Int32 → Int32 → Prop) (post : Int32 → T_Mo → Prop), z_this.1.1.1.1.1 = T → wp_Mo_block_L52 d rf K post n9 z_this x1 x2 → (∃ (w0 : T_Mo) (w1 : Int32) (w2 : Int32), K w0 w1 w2 ∧ w0.1.1.1.1.1 = T) ∨ (∃ (w0 : Int32) (w1 : T_Mo), post w0 w1 ∧ w1.1.1.1.1.1 = T) := by
  intro n9
  induction n9 with
  | zero => intro z_this x1 x2 K post e0 h; exact False.elim h
  | succ n9 ih =>
    intro z_this x1 x2 K post e0 h
    rw [wp_Mo_block_L52] at h
    rcases br_el h with ⟨c0, h⟩ | ⟨c0, h⟩
    · exact Or.inl ⟨_, _, _, h, (by assumption)⟩
    · obtain ⟨r3, u3, h, e1_1⟩ := fm_Mo_statement (T := T) hrf (by assumption) h
      rcases br_el h with ⟨c2, h⟩ | ⟨c2, h⟩
      · obtain ⟨r4, u4, h, e3_1⟩ := fm_Mo_push (T := T) (by assumption) h
        rcases ih _ _ _ _ _ (by assumption) h with ⟨w4_0, w4_1, w4_2, h, e4_0⟩ | ⟨w4_0, w4_1, h, e4_1⟩
        · exact Or.inl ⟨_, _, _, h, (by assumption)⟩
        · exact Or.inr (⟨_, _, h, (by assumption)⟩)
      · exact Or.inr (⟨_, _, h, (by assumption)⟩)
set_option maxHeartbeats 2000000 in
theorem fm_Mo_block_F {T : Nat → Int32} {d : Nat} {rf : T_Mo → (Int32 → T_Mo → Prop) → Prop} {z_this : T_Mo} (hrf : ∀ (v0 : T_Mo) (post : (Int32 → T_Mo → Prop)), v0.1.1.1.1.1 = T → rf v0 post → (∃ (w0 : Int32) (w1 : T_Mo), post w0 w1 ∧ w1.1.1.1.1.1 = T)) {post : Int32 → T_Mo → Prop} (e0 : z_this.1.1.1.1.1 = T) (h : wp_Mo_block_F d rf z_this post) : (∃ (w0 : Int32) (w1 : T_Mo), post w0 w1 ∧ w1.1.1.1.1.1 = T) := by
  unfold wp_Mo_block_F at h
  rcases br_el h with ⟨c0, h⟩ | ⟨c0, h⟩
  · rcases br_el h with ⟨c1, h⟩ | ⟨c1, h⟩
    · obtain ⟨r7, u7, h, e2_1⟩ := fm_Mo_bad (T := T) (by assumption) h
      exact ⟨_, _, h, (by assumption)⟩
    · obtain ⟨r2, u2, h, e2_1⟩ := fm_Mo_go (T := T) (by assumption) h
      rcases br_el h with ⟨c3, h⟩ | ⟨c3, h⟩
      · exact ⟨_, _, h, (by assumption)⟩
      · obtain ⟨k4, h⟩ := h
        rcases fm_Mo_block_L52 (T := T) hrf k4 _ _ _ _ _ (by assumption) h with ⟨z_this, x1, x2, h, e4_0⟩ | ⟨w4_0, w4_1, h, e4_1⟩
        · obtain ⟨r5, u5, h, e5_1⟩ := fm_Mo_go (T := T) (by assumption) h
          rcases br_el h with ⟨c6, h⟩ | ⟨c6, h⟩
          · exact ⟨_, _, h, (by assumption)⟩
          · obtain ⟨r6, u6, h, e7_1⟩ := fm_Mo_node0 (T := T) (by assumption) h
            exact ⟨_, _, h, (by assumption)⟩
        · exact ⟨_, _, h, (by assumption)⟩
  · obtain ⟨r1, u1, h, e1_1⟩ := fm_Mo_bad (T := T) (by assumption) h
    exact ⟨_, _, h, (by assumption)⟩
theorem fm_Mo_block {T : Nat → Int32} (d : Nat) : ∀ (e : Nat), ∀ (v0 : T_Mo) (post : (Int32 → T_Mo → Prop)), v0.1.1.1.1.1 = T → wp_Mo_block d e v0 post → (∃ (w0 : Int32) (w1 : T_Mo), post w0 w1 ∧ w1.1.1.1.1.1 = T) := by
  intro e
  induction e with
  | zero => intro v0 post f0 h; exact False.elim h
  | succ e ih =>
    intro v0 post f0 h
    exact fm_Mo_block_F ih f0 h
set_option maxHeartbeats 2000000 in
theorem fm_Mo_declaration_J40 {T : Nat → Int32} {d : Nat} {dB : Nat} {z_this : T_Mo} {x1 : Int32} {x2 : Int32} {x3 : Int32} {post : Int32 → T_Mo → Prop} (e0 : z_this.1.1.1.1.1 = T) (h : wp_Mo_declaration_J40 d dB post z_this x1 x2 x3) : (∃ (w0 : Int32) (w1 : T_Mo), post w0 w1 ∧ w1.1.1.1.1.1 = T) := by
  unfold wp_Mo_declaration_J40 at h
  exact ⟨_, _, h, (by assumption)⟩
set_option maxHeartbeats 2000000 in
theorem fm_Mo_declaration_J98 {T : Nat → Int32} {d : Nat} {dB : Nat} {z_this : T_Mo} {x1 : Int32} {x2 : Int32} {x3 : Int32} {x4 : Int32} {y0 : Int32} {post : Int32 → T_Mo → Prop} (e0 : z_this.1.1.1.1.1 = T) (h : wp_Mo_declaration_J98 d dB post z_this x1 x2 x3 x4 y0) : (∃ (w0 : Int32) (w1 : T_Mo), post w0 w1 ∧ w1.1.1.1.1.1 = T) := by
  unfold wp_Mo_declaration_J98 at h
  replace h := h.2
  exact ⟨_, _, h, (by assumption)⟩
set_option maxHeartbeats 2000000 in
theorem fm_Mo_declaration_J97 {T : Nat → Int32} {d : Nat} {dB : Nat} {z_this : T_Mo} {x1 : Int32} {x2 : Int32} {x3 : Int32} {x4 : Int32} {post : Int32 → T_Mo → Prop} (e0 : z_this.1.1.1.1.1 = T) (h : wp_Mo_declaration_J97 d dB post z_this x1 x2 x3 x4) : (∃ (w0 : Int32) (w1 : T_Mo), post w0 w1 ∧ w1.1.1.1.1.1 = T) := by
  unfold wp_Mo_declaration_J97 at h
  obtain ⟨w0_0, w0_1, h, e0_1⟩ := fm_Mo_declaration_J98 (T := T) (by assumption) h
  exact ⟨_, _, h, (by assumption)⟩
set_option maxHeartbeats 2000000 in
theorem fm_Mo_declaration_J84 {T : Nat → Int32} {d : Nat} {dB : Nat} {z_this : T_Mo} {x1 : Int32} {x2 : Int32} {x3 : Int32} {x4 : Int32} {post : Int32 → T_Mo → Prop} (e0 : z_this.1.1.1.1.1 = T) (h : wp_Mo_declaration_J84 d dB post z_this x1 x2 x3 x4) : (∃ (w0 : Int32) (w1 : T_Mo), post w0 w1 ∧ w1.1.1.1.1.1 = T) := by
  unfold wp_Mo_declaration_J84 at h
  obtain ⟨r9, u9, h, e0_1⟩ := fm_Mo_over (T := T) (by assumption) h
  rcases br_el h with ⟨c1, h⟩ | ⟨c1, h⟩
  · obtain ⟨w2_0, w2_1, h, e2_1⟩ := fm_Mo_declaration_J97 (T := T) (by assumption) h
    exact ⟨_, _, h, (by assumption)⟩
  · obtain ⟨w2_0, w2_1, h, e2_1⟩ := fm_Mo_declaration_J98 (T := T) (by assumption) h
    exact ⟨_, _, h, (by assumption)⟩
set_option maxHeartbeats 2000000 in
theorem fm_Mo_declaration {T : Nat → Int32} {d : Nat} {dB : Nat} {z_this : T_Mo} {post : Int32 → T_Mo → Prop} (e0 : z_this.1.1.1.1.1 = T) (h : wp_Mo_declaration d dB z_this post) : (∃ (w0 : Int32) (w1 : T_Mo), post w0 w1 ∧ w1.1.1.1.1.1 = T) := by
  unfold wp_Mo_declaration at h
  obtain ⟨r1, u1, h, e0_1⟩ := fm_Mo_go (T := T) (by assumption) h
  rcases br_el h with ⟨c1, h⟩ | ⟨c1, h⟩
  · exact ⟨_, _, h, (by assumption)⟩
  · obtain ⟨r2, u2, h, e2_1⟩ := fm_Mo_tell (T := T) (by assumption) h
    rcases br_el h with ⟨c3, h⟩ | ⟨c3, h⟩
    · obtain ⟨w4_0, w4_1, h, e4_1⟩ := fm_Mo_declaration_J40 (T := T) (by assumption) h
      exact ⟨_, _, h, (by assumption)⟩
    · obtain ⟨r3, u3, h, e4_1⟩ := fm_Mo_go (T := T) (by assumption) h
      rcases br_el h with ⟨c5, h⟩ | ⟨c5, h⟩
      · obtain ⟨w6_0, w6_1, h, e6_1⟩ := fm_Mo_declaration_J40 (T := T) (by assumption) h
        exact ⟨_, _, h, (by assumption)⟩
      · rcases br_el h with ⟨c6, h⟩ | ⟨c6, h⟩
        · obtain ⟨r4, u4, h, e7_1⟩ := fm_Mo_block (T := T) d dB _ _ (by assumption) h
          obtain ⟨r5, u5, h, e8_1⟩ := fm_Mo_pushed (T := T) (by assumption) h
          rcases br_el h with ⟨c9, h⟩ | ⟨c9, h⟩
          · exact ⟨_, _, h, (by assumption)⟩
          · obtain ⟨r6, u6, h, e10_1⟩ := fm_Mo_node0 (T := T) (by assumption) h
            rcases br_el h with ⟨c11, h⟩ | ⟨c11, h⟩
            · replace h := h.2
              obtain ⟨r7, u7, -, qb13⟩ := dt_Mo_base h
              replace h := qb13 _ h
              replace h := h.2
              exact ⟨_, _, h, (by assumption)⟩
            · exact ⟨_, _, h, (by assumption)⟩
        · obtain ⟨r8, u8, -, qb7⟩ := dt_Mo_unitWord0 h
          replace h := qb7 _ h
          replace h := h.2
          rcases br_el h with ⟨c9, h⟩ | ⟨c9, h⟩
          · obtain ⟨w10_0, w10_1, h, e10_1⟩ := fm_Mo_declaration_J84 (T := T) (by assumption) h
            exact ⟨_, _, h, (by assumption)⟩
          · obtain ⟨r10, u10, h, e10_1⟩ := fm_Mo_go (T := T) (by assumption) h
            rcases br_el h with ⟨c11, h⟩ | ⟨c11, h⟩
            · obtain ⟨w12_0, w12_1, h, e12_1⟩ := fm_Mo_declaration_J97 (T := T) (by assumption) h
              exact ⟨_, _, h, (by assumption)⟩
            · obtain ⟨w12_0, w12_1, h, e12_1⟩ := fm_Mo_declaration_J84 (T := T) (by assumption) h
              exact ⟨_, _, h, (by assumption)⟩
set_option maxHeartbeats 2000000 in
theorem fm_Mo_program_L5 {T : Nat → Int32} {d : Nat} {dB : Nat} : ∀ (n9 : Nat) (z_this : T_Mo) (x1 : Int32) (K : T_Mo → Int32 → Prop) (post : Int32 → T_Mo → Prop), z_this.1.1.1.1.1 = T → wp_Mo_program_L5 d dB K post n9 z_this x1 → (∃ (w0 : T_Mo) (w1 : Int32), K w0 w1 ∧ w0.1.1.1.1.1 = T) ∨ (∃ (w0 : Int32) (w1 : T_Mo), post w0 w1 ∧ w1.1.1.1.1.1 = T) := by
  intro n9
  induction n9 with
  | zero => intro z_this x1 K post e0 h; exact False.elim h
  | succ n9 ih =>
    intro z_this x1 K post e0 h
    rw [wp_Mo_program_L5] at h
    rcases br_el h with ⟨c0, h⟩ | ⟨c0, h⟩
    · exact Or.inl ⟨_, _, h, (by assumption)⟩
    · obtain ⟨r2, u2, -, qb1⟩ := dt_Mo_isWord h
      replace h := qb1 _ h
      rcases br_el h with ⟨c2, h⟩ | ⟨c2, h⟩
      · obtain ⟨r4, u4, -, qb3⟩ := dt_Mo_isWord h
        replace h := qb3 _ h
        rcases br_el h with ⟨c4, h⟩ | ⟨c4, h⟩
        · obtain ⟨r6, u6, -, qb5⟩ := dt_Mo_isWord h
          replace h := qb5 _ h
          rcases br_el h with ⟨c6, h⟩ | ⟨c6, h⟩
          · exact Or.inl ⟨_, _, h, (by assumption)⟩
          · obtain ⟨r7, u7, h, e7_1⟩ := fm_Mo_declaration (T := T) (by assumption) h
            rcases ih _ _ _ _ (by assumption) h with ⟨w8_0, w8_1, h, e8_0⟩ | ⟨w8_0, w8_1, h, e8_1⟩
            · exact Or.inl ⟨_, _, h, (by assumption)⟩
            · exact Or.inr (⟨_, _, h, (by assumption)⟩)
        · obtain ⟨r5, u5, h, e5_1⟩ := fm_Mo_declaration (T := T) (by assumption) h
          rcases ih _ _ _ _ (by assumption) h with ⟨w6_0, w6_1, h, e6_0⟩ | ⟨w6_0, w6_1, h, e6_1⟩
          · exact Or.inl ⟨_, _, h, (by assumption)⟩
          · exact Or.inr (⟨_, _, h, (by assumption)⟩)
      · obtain ⟨r3, u3, h, e3_1⟩ := fm_Mo_declaration (T := T) (by assumption) h
        rcases ih _ _ _ _ (by assumption) h with ⟨w4_0, w4_1, h, e4_0⟩ | ⟨w4_0, w4_1, h, e4_1⟩
        · exact Or.inl ⟨_, _, h, (by assumption)⟩
        · exact Or.inr (⟨_, _, h, (by assumption)⟩)
set_option maxHeartbeats 2000000 in
theorem fm_Mo_program_L44 {T : Nat → Int32} {d : Nat} {dB : Nat} : ∀ (n9 : Nat) (z_this : T_Mo) (x1 : Int32) (K : T_Mo → Int32 → Prop) (post : Int32 → T_Mo → Prop), z_this.1.1.1.1.1 = T → wp_Mo_program_L44 d dB K post n9 z_this x1 → (∃ (w0 : T_Mo) (w1 : Int32), K w0 w1 ∧ w0.1.1.1.1.1 = T) ∨ (∃ (w0 : Int32) (w1 : T_Mo), post w0 w1 ∧ w1.1.1.1.1.1 = T) := by
  intro n9
  induction n9 with
  | zero => intro z_this x1 K post e0 h; exact False.elim h
  | succ n9 ih =>
    intro z_this x1 K post e0 h
    rw [wp_Mo_program_L44] at h
    rcases br_el h with ⟨c0, h⟩ | ⟨c0, h⟩
    · exact Or.inl ⟨_, _, h, (by assumption)⟩
    · rcases br_el h with ⟨c1, h⟩ | ⟨c1, h⟩
      · exact Or.inl ⟨_, _, h, (by assumption)⟩
      · obtain ⟨r8, u8, h, e2_1⟩ := fm_Mo_statement (T := T) (fm_Mo_block d dB) (by assumption) h
        rcases br_el h with ⟨c3, h⟩ | ⟨c3, h⟩
        · rcases br_el h with ⟨c4, h⟩ | ⟨c4, h⟩
          · rcases ih _ _ _ _ (by assumption) h with ⟨w5_0, w5_1, h, e5_0⟩ | ⟨w5_0, w5_1, h, e5_1⟩
            · exact Or.inl ⟨_, _, h, (by assumption)⟩
            · exact Or.inr (⟨_, _, h, (by assumption)⟩)
          · exact absurd (by decide) c4
        · rcases br_el h with ⟨c4, h⟩ | ⟨c4, h⟩
          · exact absurd c4 (by decide)
          · obtain ⟨r10, u10, -, qb5⟩ := dt_Mo_base h
            replace h := qb5 _ h
            replace h := h.2
            rcases ih _ _ _ _ (by assumption) h with ⟨w7_0, w7_1, h, e7_0⟩ | ⟨w7_0, w7_1, h, e7_1⟩
            · exact Or.inl ⟨_, _, h, (by assumption)⟩
            · exact Or.inr (⟨_, _, h, (by assumption)⟩)
set_option maxHeartbeats 2000000 in
theorem fm_Mo_program {T : Nat → Int32} {d : Nat} {dB : Nat} {z_this : T_Mo} {post : Int32 → T_Mo → Prop} (e0 : z_this.1.1.1.1.1 = T) (h : wp_Mo_program d dB z_this post) : (∃ (w0 : Int32) (w1 : T_Mo), post w0 w1 ∧ w1.1.1.1.1.1 = T) := by
  unfold wp_Mo_program at h
  obtain ⟨r1, u1, h, e0_1⟩ := fm_Mo_go (T := T) (by assumption) h
  obtain ⟨k1, h⟩ := h
  rcases fm_Mo_program_L5 (T := T) k1 _ _ _ _ (by assumption) h with ⟨z_this, x1, h, e1_0⟩ | ⟨w1_0, w1_1, h, e1_1⟩
  · obtain ⟨k2, h⟩ := h
    rcases fm_Mo_program_L44 (T := T) k2 _ _ _ _ (by assumption) h with ⟨z_this, x1, h, e2_0⟩ | ⟨w2_0, w2_1, h, e2_1⟩
    · replace h := h.2
      exact ⟨_, _, h, (by assumption)⟩
    · exact ⟨_, _, h, (by assumption)⟩
  · exact ⟨_, _, h, (by assumption)⟩
set_option maxHeartbeats 2000000 in
theorem fm_Mo_read {T : Nat → Int32} {d : Nat} {dB : Nat} {z_this : T_Mo} {post : Int32 → T_Mo → Prop} (e0 : z_this.1.1.1.1.1 = T) (h : wp_Mo_read d dB z_this post) : (∃ (w0 : Int32) (w1 : T_Mo), post w0 w1 ∧ w1.1.1.1.1.1 = T) := by
  unfold wp_Mo_read at h
  obtain ⟨r1, u1, h, e0_1⟩ := fm_Mo_program (T := T) (by assumption) h
  rcases br_el h with ⟨c1, h⟩ | ⟨c1, h⟩
  · exact ⟨_, _, h, (by assumption)⟩
  · exact ⟨_, _, h, (by assumption)⟩
