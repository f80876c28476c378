set_option maxHeartbeats 2000000 in
theorem fw_Wd_forget {T : Nat → Int32} {z_this : T_Wd} {post : Unit → T_Wd → Prop} (e0 : z_this.1 = T) (h : wp_Wd_forget z_this post) : (∃ (w0 : Unit) (w1 : T_Wd), post w0 w1 ∧ w1.1 = T) := by
  unfold wp_Wd_forget at h
  exact ⟨_, _, h, (by assumption)⟩
set_option maxHeartbeats 2000000 in
theorem fw_Wd_skipBlanks_L2 {T : Nat → Int32} : ∀ (n9 : Nat) (z_this : T_Wd) (x1 : Int32) (K : T_Wd → Int32 → Prop) (post : Unit → T_Wd → Prop), z_this.1 = T → wp_Wd_skipBlanks_L2 K post n9 z_this x1 → (∃ (w0 : T_Wd) (w1 : Int32), K w0 w1 ∧ w0.1 = T) ∨ (∃ (w0 : Unit) (w1 : T_Wd), post w0 w1 ∧ w1.1 = T) := by
  intro n9
  induction n9 with
  | zero => intro z_this x1 K post e0 h; exact False.elim h
  | succ n9 ih =>
    intro z_this x1 K post e0 h
    rw [wp_Wd_skipBlanks_L2] at h
    rcases br_el h with ⟨c0, h⟩ | ⟨c0, h⟩
    · exact Or.inl ⟨_, _, h, (by assumption)⟩
    · obtain ⟨r1, u1, -, qb1⟩ := dt_Wd_byteAt h
      replace h := qb1 _ h
      obtain ⟨r2, u2, -, qb2⟩ := dt_Wd_isBlank h
      replace h := qb2 _ h
      rcases br_el h with ⟨c3, h⟩ | ⟨c3, h⟩
      · exact Or.inl ⟨_, _, h, (by assumption)⟩
      · obtain ⟨r3, u3, -, qb4⟩ := dt_Wd_byteAt h
        replace h := qb4 _ h
        rcases br_el h with ⟨c5, h⟩ | ⟨c5, h⟩
        · rcases ih _ _ _ _ (by assumption) h with ⟨w6_0, w6_1, h, e6_0⟩ | ⟨w6_0, w6_1, h, e6_1⟩
          · exact Or.inl ⟨_, _, h, (by assumption)⟩
          · exact Or.inr (⟨_, _, h, (by assumption)⟩)
        · rcases ih _ _ _ _ (by assumption) h with ⟨w6_0, w6_1, h, e6_0⟩ | ⟨w6_0, w6_1, h, e6_1⟩
          · exact Or.inl ⟨_, _, h, (by assumption)⟩
          · exact Or.inr (⟨_, _, h, (by assumption)⟩)
set_option maxHeartbeats 2000000 in
theorem fw_Wd_skipBlanks {T : Nat → Int32} {z_this : T_Wd} {post : Unit → T_Wd → Prop} (e0 : z_this.1 = T) (h : wp_Wd_skipBlanks z_this post) : (∃ (w0 : Unit) (w1 : T_Wd), post w0 w1 ∧ w1.1 = T) := by
  unfold wp_Wd_skipBlanks at h
  obtain ⟨k0, h⟩ := h
  rcases fw_Wd_skipBlanks_L2 (T := T) k0 _ _ _ _ (by assumption) h with ⟨z_this, x1, h, e0_0⟩ | ⟨w0_0, w0_1, h, e0_1⟩
  · exact ⟨_, _, h, (by assumption)⟩
  · exact ⟨_, _, h, (by assumption)⟩
set_option maxHeartbeats 2000000 in
theorem fw_Wd_keep {T : Nat → Int32} {z_this : T_Wd} {a1 : Int32} {a2 : Int32} {a3 : Int64} {post : Unit → T_Wd → Prop} (e0 : z_this.1 = T) (h : wp_Wd_keep z_this a1 a2 a3 post) : (∃ (w0 : Unit) (w1 : T_Wd), post w0 w1 ∧ w1.1 = T) := by
  unfold wp_Wd_keep at h
  rcases br_el h with ⟨c0, h⟩ | ⟨c0, h⟩
  · exact ⟨_, _, h, (by assumption)⟩
  · replace h := h.2
    replace h := h.2
    replace h := h.2
    replace h := h.2
    exact ⟨_, _, h, (by assumption)⟩
set_option maxHeartbeats 2000000 in
theorem fw_Wd_keepJoined {T : Nat → Int32} {z_this : T_Wd} {a1 : Int32} {a2 : Int32} {a3 : Int64} {post : Int32 → T_Wd → Prop} (e0 : z_this.1 = T) (h : wp_Wd_keepJoined z_this a1 a2 a3 post) : (∃ (w0 : Int32) (w1 : T_Wd), post w0 w1 ∧ w1.1 = T) := by
  unfold wp_Wd_keepJoined at h
  obtain ⟨r1, u1, -, qb0⟩ := dt_Wd_byteAt h
  replace h := qb0 _ h
  rcases br_el h with ⟨c1, h⟩ | ⟨c1, h⟩
  · obtain ⟨r2, u2, h, e2_1⟩ := fw_Wd_keep (T := T) (by assumption) h
    exact ⟨_, _, h, (by assumption)⟩
  · obtain ⟨r3, u3, -, qb2⟩ := dt_Kw_rank h
    replace h := qb2 _ h
    rcases br_el h with ⟨c3, h⟩ | ⟨c3, h⟩
    · obtain ⟨r4, u4, h, e4_1⟩ := fw_Wd_keep (T := T) (by assumption) h
      exact ⟨_, _, h, (by assumption)⟩
    · obtain ⟨r5, u5, h, e4_1⟩ := fw_Wd_keep (T := T) (by assumption) h
      exact ⟨_, _, h, (by assumption)⟩
set_option maxHeartbeats 2000000 in
theorem fw_Wd_splitNumber_L10 {T : Nat → Int32} : ∀ (n9 : Nat) (z_this : T_Wd) (x1 : Int32) (x2 : Int64) (x4 : Int32) (K : T_Wd → Int32 → Int64 → Int32 → Prop) (post : Int32 → T_Wd → Prop), z_this.1 = T → wp_Wd_splitNumber_L10 K post n9 z_this x1 x2 x4 → (∃ (w0 : T_Wd) (w1 : Int32) (w2 : Int64) (w3 : Int32), K w0 w1 w2 w3 ∧ w0.1 = T) ∨ (∃ (w0 : Int32) (w1 : T_Wd), post w0 w1 ∧ w1.1 = T) := by
  intro n9
  induction n9 with
  | zero => intro z_this x1 x2 x4 K post e0 h; exact False.elim h
  | succ n9 ih =>
    intro z_this x1 x2 x4 K post e0 h
    rw [wp_Wd_splitNumber_L10] at h
    rcases br_el h with ⟨c0, h⟩ | ⟨c0, h⟩
    · exact Or.inl ⟨_, _, _, _, h, (by assumption)⟩
    · obtain ⟨r1, u1, -, qb1⟩ := dt_Wd_byteAt h
      replace h := qb1 _ h
      obtain ⟨r2, u2, -, qb2⟩ := dt_Wd_isDigit h
      replace h := qb2 _ h
      rcases br_el h with ⟨c3, h⟩ | ⟨c3, h⟩
      · exact Or.inl ⟨_, _, _, _, h, (by assumption)⟩
      · obtain ⟨r3, u3, -, qb4⟩ := dt_Wd_byteAt h
        replace h := qb4 _ h
        rcases ih _ _ _ _ _ _ (by assumption) h with ⟨w5_0, w5_1, w5_2, w5_3, h, e5_0⟩ | ⟨w5_0, w5_1, h, e5_1⟩
        · exact Or.inl ⟨_, _, _, _, h, (by assumption)⟩
        · exact Or.inr (⟨_, _, h, (by assumption)⟩)
set_option maxHeartbeats 2000000 in
theorem fw_Wd_splitNumber_L125 {T : Nat → Int32} : ∀ (n9 : Nat) (z_this : T_Wd) (x1 : Int32) (x2 : Int64) (x4 : Int32) (x5 : Int32) (x6 : Int32) (K : T_Wd → Int32 → Int64 → Int32 → Int32 → Int32 → Prop) (post : Int32 → T_Wd → Prop), z_this.1 = T → wp_Wd_splitNumber_L125 K post n9 z_this x1 x2 x4 x5 x6 → (∃ (w0 : T_Wd) (w1 : Int32) (w2 : Int64) (w3 : Int32) (w4 : Int32) (w5 : Int32), K w0 w1 w2 w3 w4 w5 ∧ w0.1 = T) ∨ (∃ (w0 : Int32) (w1 : T_Wd), post w0 w1 ∧ w1.1 = T) := by
  intro n9
  induction n9 with
  | zero => intro z_this x1 x2 x4 x5 x6 K post e0 h; exact False.elim h
  | succ n9 ih =>
    intro z_this x1 x2 x4 x5 x6 K post e0 h
    rw [wp_Wd_splitNumber_L125] at h
    rcases br_el h with ⟨c0, h⟩ | ⟨c0, h⟩
    · exact Or.inl ⟨_, _, _, _, _, _, h, (by assumption)⟩
    · rcases br_el h with ⟨c1, h⟩ | ⟨c1, h⟩
      · rcases br_el h with ⟨c2, h⟩ | ⟨c2, h⟩
        · rcases br_el h with ⟨c3, h⟩ | ⟨c3, h⟩
          · rcases ih _ _ _ _ _ _ _ _ (by assumption) h with ⟨w4_0, w4_1, w4_2, w4_3, w4_4, w4_5, h, e4_0⟩ | ⟨w4_0, w4_1, h, e4_1⟩
            · exact Or.inl ⟨_, _, _, _, _, _, h, (by assumption)⟩
            · exact Or.inr (⟨_, _, h, (by assumption)⟩)
          · exact absurd (by decide) c3
        · exact absurd (by decide) c2
      · obtain ⟨r6, u6, -, qb2⟩ := dt_Wd_byteAt h
        replace h := qb2 _ h
        obtain ⟨r7, u7, -, qb3⟩ := dt_Wd_isDigit h
        replace h := qb3 _ h
        rcases br_el h with ⟨c4, h⟩ | ⟨c4, h⟩
        · rcases br_el h with ⟨c5, h⟩ | ⟨c5, h⟩
          · rcases br_el h with ⟨c6, h⟩ | ⟨c6, h⟩
            · rcases ih _ _ _ _ _ _ _ _ (by assumption) h with ⟨w7_0, w7_1, w7_2, w7_3, w7_4, w7_5, h, e7_0⟩ | ⟨w7_0, w7_1, h, e7_1⟩
              · exact Or.inl ⟨_, _, _, _, _, _, h, (by assumption)⟩
              · exact Or.inr (⟨_, _, h, (by assumption)⟩)
            · exact absurd (by decide) c6
          · exact absurd (by decide) c5
        · rcases br_el h with ⟨c5, h⟩ | ⟨c5, h⟩
          · exact absurd c5 (by decide)
          · obtain ⟨r9, u9, -, qb6⟩ := dt_Wd_byteAt h
            replace h := qb6 _ h
            rcases br_el h with ⟨c7, h⟩ | ⟨c7, h⟩
            · exact absurd c7 (by decide)
            · rcases ih _ _ _ _ _ _ _ _ (by assumption) h with ⟨w8_0, w8_1, w8_2, w8_3, w8_4, w8_5, h, e8_0⟩ | ⟨w8_0, w8_1, h, e8_1⟩
              · exact Or.inl ⟨_, _, _, _, _, _, h, (by assumption)⟩
              · exact Or.inr (⟨_, _, h, (by assumption)⟩)
set_option maxHeartbeats 2000000 in
theorem fw_Wd_splitNumber {T : Nat → Int32} {z_this : T_Wd} {post : Int32 → T_Wd → Prop} (e0 : z_this.1 = T) (h : wp_Wd_splitNumber z_this post) : (∃ (w0 : Int32) (w1 : T_Wd), post w0 w1 ∧ w1.1 = T) := by
  unfold wp_Wd_splitNumber at h
  obtain ⟨k0, h⟩ := h
  rcases fw_Wd_splitNumber_L10 (T := T) k0 _ _ _ _ _ _ (by assumption) h with ⟨z_this, x1, x2, x4, h, e0_0⟩ | ⟨w0_0, w0_1, h, e0_1⟩
  · obtain ⟨r4, u4, -, qb1⟩ := dt_Wd_byteAt h
    replace h := qb1 _ h
    rcases br_el h with ⟨c2, h⟩ | ⟨c2, h⟩
    · obtain ⟨r14, u14, -, qb3⟩ := dt_Wd_byteAt h
      replace h := qb3 _ h
      obtain ⟨r15, u15, -, qb4⟩ := dt_Wd_isDigit h
      replace h := qb4 _ h
      rcases br_el h with ⟨c5, h⟩ | ⟨c5, h⟩
      · rcases br_el h with ⟨c6, h⟩ | ⟨c6, h⟩
        · obtain ⟨k7, h⟩ := h
          rcases fw_Wd_splitNumber_L125 (T := T) k7 _ _ _ _ _ _ _ _ (by assumption) h with ⟨z_this, x1, x2, x4, x5, x6, h, e7_0⟩ | ⟨w7_0, w7_1, h, e7_1⟩
          · rcases br_el h with ⟨c8, h⟩ | ⟨c8, h⟩
            · obtain ⟨r16, u16, h, e9_1⟩ := fw_Wd_keepJoined (T := T) (by assumption) h
              replace h := h.2
              exact ⟨_, _, h, (by assumption)⟩
            · obtain ⟨r17, u17, h, e9_1⟩ := fw_Wd_keepJoined (T := T) (by assumption) h
              replace h := h.2
              exact ⟨_, _, h, (by assumption)⟩
          · exact ⟨_, _, h, (by assumption)⟩
        · exact absurd (by decide) c6
      · rcases br_el h with ⟨c6, h⟩ | ⟨c6, h⟩
        · exact absurd c6 (by decide)
        · obtain ⟨k7, h⟩ := h
          rcases fw_Wd_splitNumber_L125 (T := T) k7 _ _ _ _ _ _ _ _ (by assumption) h with ⟨z_this, x1, x2, x4, x5, x6, h, e7_0⟩ | ⟨w7_0, w7_1, h, e7_1⟩
          · rcases br_el h with ⟨c8, h⟩ | ⟨c8, h⟩
            · obtain ⟨r22, u22, h, e9_1⟩ := fw_Wd_keepJoined (T := T) (by assumption) h
              replace h := h.2
              exact ⟨_, _, h, (by assumption)⟩
            · obtain ⟨r23, u23, h, e9_1⟩ := fw_Wd_keepJoined (T := T) (by assumption) h
              replace h := h.2
              exact ⟨_, _, h, (by assumption)⟩
          · exact ⟨_, _, h, (by assumption)⟩
    · rcases br_el h with ⟨c3, h⟩ | ⟨c3, h⟩
      · obtain ⟨k4, h⟩ := h
        rcases fw_Wd_splitNumber_L125 (T := T) k4 _ _ _ _ _ _ _ _ (by assumption) h with ⟨z_this, x1, x2, x4, x5, x6, h, e4_0⟩ | ⟨w4_0, w4_1, h, e4_1⟩
        · rcases br_el h with ⟨c5, h⟩ | ⟨c5, h⟩
          · obtain ⟨r10, u10, h, e6_1⟩ := fw_Wd_keepJoined (T := T) (by assumption) h
            replace h := h.2
            exact ⟨_, _, h, (by assumption)⟩
          · obtain ⟨r11, u11, h, e6_1⟩ := fw_Wd_keepJoined (T := T) (by assumption) h
            replace h := h.2
            exact ⟨_, _, h, (by assumption)⟩
        · exact ⟨_, _, h, (by assumption)⟩
      · exact absurd (by decide) c3
  · exact ⟨_, _, h, (by assumption)⟩
set_option maxHeartbeats 2000000 in
theorem fw_Wd_splitLetters_L10 {T : Nat → Int32} {z_this_keywords : T_Kw} : ∀ (n9 : Nat) (z_this : T_Wd) (x1 : Int32) (x2 : Int64) (x4 : Int32) (K : T_Wd → Int32 → Int64 → Int32 → Prop) (post : Int32 → T_Wd → Prop), z_this.1 = T → wp_Wd_splitLetters_L10 z_this_keywords K post n9 z_this x1 x2 x4 → (∃ (w0 : T_Wd) (w1 : Int32) (w2 : Int64) (w3 : Int32), K w0 w1 w2 w3 ∧ w0.1 = T) ∨ (∃ (w0 : Int32) (w1 : T_Wd), post w0 w1 ∧ w1.1 = T) := by
  intro n9
  induction n9 with
  | zero => intro z_this x1 x2 x4 K post e0 h; exact False.elim h
  | succ n9 ih =>
    intro z_this x1 x2 x4 K post e0 h
    rw [wp_Wd_splitLetters_L10] at h
    rcases br_el h with ⟨c0, h⟩ | ⟨c0, h⟩
    · exact Or.inl ⟨_, _, _, _, h, (by assumption)⟩
    · obtain ⟨r1, u1, -, qb1⟩ := dt_Wd_byteAt h
      replace h := qb1 _ h
      obtain ⟨r2, u2, -, qb2⟩ := dt_Kw_rank h
      replace h := qb2 _ h
      rcases br_el h with ⟨c3, h⟩ | ⟨c3, h⟩
      · exact Or.inl ⟨_, _, _, _, h, (by assumption)⟩
      · obtain ⟨r3, u3, -, qb4⟩ := dt_Wd_byteAt h
        replace h := qb4 _ h
        obtain ⟨r4, u4, -, qb5⟩ := dt_Kw_rank h
        replace h := qb5 _ h
        rcases ih _ _ _ _ _ _ (by assumption) h with ⟨w6_0, w6_1, w6_2, w6_3, h, e6_0⟩ | ⟨w6_0, w6_1, h, e6_1⟩
        · exact Or.inl ⟨_, _, _, _, h, (by assumption)⟩
        · exact Or.inr (⟨_, _, h, (by assumption)⟩)
set_option maxHeartbeats 2000000 in
theorem fw_Wd_splitLetters {T : Nat → Int32} {z_this : T_Wd} {z_this_keywords : T_Kw} {post : Int32 → T_Wd → Prop} (e0 : z_this.1 = T) (h : wp_Wd_splitLetters z_this z_this_keywords post) : (∃ (w0 : Int32) (w1 : T_Wd), post w0 w1 ∧ w1.1 = T) := by
  unfold wp_Wd_splitLetters at h
  obtain ⟨k0, h⟩ := h
  rcases fw_Wd_splitLetters_L10 (T := T) k0 _ _ _ _ _ _ (by assumption) h with ⟨z_this, x1, x2, x4, h, e0_0⟩ | ⟨w0_0, w0_1, h, e0_1⟩
  · obtain ⟨r5, u5, -, qb1⟩ := dt_Kw_codeOf h
    replace h := qb1 _ h
    obtain ⟨r6, u6, h, e2_1⟩ := fw_Wd_keepJoined (T := T) (by assumption) h
    replace h := h.2
    exact ⟨_, _, h, (by assumption)⟩
  · exact ⟨_, _, h, (by assumption)⟩
set_option maxHeartbeats 2000000 in
theorem fw_Wd_splitWord {T : Nat → Int32} {z_this : T_Wd} {z_this_keywords : T_Kw} {post : Int32 → T_Wd → Prop} (e0 : z_this.1 = T) (h : wp_Wd_splitWord z_this z_this_keywords post) : (∃ (w0 : Int32) (w1 : T_Wd), post w0 w1 ∧ w1.1 = T) := by
  unfold wp_Wd_splitWord at h
  obtain ⟨r1, u1, -, qb0⟩ := dt_Wd_byteAt h
  replace h := qb0 _ h
  obtain ⟨r2, u2, -, qb1⟩ := dt_Wd_isDigit h
  replace h := qb1 _ h
  rcases br_el h with ⟨c2, h⟩ | ⟨c2, h⟩
  · obtain ⟨r3, u3, -, qb3⟩ := dt_Kw_rank h
    replace h := qb3 _ h
    rcases br_el h with ⟨c4, h⟩ | ⟨c4, h⟩
    · obtain ⟨r4, u4, h, e5_1⟩ := fw_Wd_keep (T := T) (by assumption) h
      rcases br_el h with ⟨c6, h⟩ | ⟨c6, h⟩
      · exact ⟨_, _, h, (by assumption)⟩
      · exact ⟨_, _, h, (by assumption)⟩
    · obtain ⟨r5, u5, h, e5_1⟩ := fw_Wd_splitLetters (T := T) (by assumption) h
      replace h := h.2
      exact ⟨_, _, h, (by assumption)⟩
  · obtain ⟨r6, u6, h, e3_1⟩ := fw_Wd_splitNumber (T := T) (by assumption) h
    replace h := h.2
    exact ⟨_, _, h, (by assumption)⟩
set_option maxHeartbeats 2000000 in
theorem fw_Wd_advance {T : Nat → Int32} {z_this : T_Wd} {post : Unit → T_Wd → Prop} (e0 : z_this.1 = T) (h : wp_Wd_advance z_this post) : (∃ (w0 : Unit) (w1 : T_Wd), post w0 w1 ∧ w1.1 = T) := by
  unfold wp_Wd_advance at h
  rcases br_el h with ⟨c0, h⟩ | ⟨c0, h⟩
  · rcases br_el h with ⟨c1, h⟩ | ⟨c1, h⟩
    · exact ⟨_, _, h, (by assumption)⟩
    · replace h := h.2
      replace h := h.2
      replace h := h.2
      replace h := h.2
      exact ⟨_, _, h, (by assumption)⟩
  · rcases br_el h with ⟨c1, h⟩ | ⟨c1, h⟩
    · rcases br_el h with ⟨c2, h⟩ | ⟨c2, h⟩
      · exact ⟨_, _, h, (by assumption)⟩
      · replace h := h.2
        replace h := h.2
        replace h := h.2
        replace h := h.2
        exact ⟨_, _, h, (by assumption)⟩
    · rcases br_el h with ⟨c2, h⟩ | ⟨c2, h⟩
      · exact ⟨_, _, h, (by assumption)⟩
      · replace h := h.2
        replace h := h.2
        replace h := h.2
        replace h := h.2
        exact ⟨_, _, h, (by assumption)⟩
set_option maxHeartbeats 2000000 in
theorem fw_Wd_split_L19 {T : Nat → Int32} {z_this_keywords : T_Kw} : ∀ (n9 : Nat) (z_this : T_Wd) (x1 : Int32) (x2 : Int32) (K : T_Wd → Int32 → Int32 → Prop) (post : Unit → T_Wd → Prop), z_this.1 = T → wp_Wd_split_L19 z_this_keywords K post n9 z_this x1 x2 → (∃ (w0 : T_Wd) (w1 : Int32) (w2 : Int32), K w0 w1 w2 ∧ w0.1 = T) ∨ (∃ (w0 : Unit) (w1 : T_Wd), post w0 w1 ∧ w1.1 = T) := by
  intro n9
  induction n9 with
  | zero => intro z_this x1 x2 K post e0 h; exact False.elim h
  | succ n9 ih =>
    intro z_this x1 x2 K post e0 h
    rw [wp_Wd_split_L19] at h
    rcases br_el h with ⟨c0, h⟩ | ⟨c0, h⟩
    · exact Or.inl ⟨_, _, _, h, (by assumption)⟩
    · rcases br_el h with ⟨c1, h⟩ | ⟨c1, h⟩
      · exact Or.inl ⟨_, _, _, h, (by assumption)⟩
      · obtain ⟨r1, u1, h, e2_1⟩ := fw_Wd_skipBlanks (T := T) (by assumption) h
        obtain ⟨r2, u2, h, e3_1⟩ := fw_Wd_splitWord (T := T) (by assumption) h
        rcases ih _ _ _ _ _ (by assumption) h with ⟨w4_0, w4_1, w4_2, h, e4_0⟩ | ⟨w4_0, w4_1, h, e4_1⟩
        · exact Or.inl ⟨_, _, _, h, (by assumption)⟩
        · exact Or.inr (⟨_, _, h, (by assumption)⟩)
set_option maxHeartbeats 2000000 in
theorem fw_Wd_split {T : Nat → Int32} {z_this : T_Wd} {z_this_keywords : T_Kw} {post : Unit → T_Wd → Prop} (e0 : z_this.1 = T) (h : wp_Wd_split z_this z_this_keywords post) : (∃ (w0 : Unit) (w1 : T_Wd), post w0 w1 ∧ w1.1 = T) := by
  unfold wp_Wd_split at h
  obtain ⟨k0, h⟩ := h
  rcases fw_Wd_split_L19 (T := T) k0 _ _ _ _ _ (by assumption) h with ⟨z_this, x1, x2, h, e0_0⟩ | ⟨w0_0, w0_1, h, e0_1⟩
  · obtain ⟨r3, u3, h, e1_1⟩ := fw_Wd_forget (T := T) (by assumption) h
    obtain ⟨r4, u4, h, e2_1⟩ := fw_Wd_advance (T := T) (by assumption) h
    exact ⟨_, _, h, (by assumption)⟩
  · exact ⟨_, _, h, (by assumption)⟩
set_option maxHeartbeats 2000000 in
theorem fw_Gr_pass {T : Nat → Int32} {z_this : T_Gr} {z_this_nodes : T_Nd} {z_this_words : T_Wd} {post : Unit → T_Gr × T_Wd → Prop} {postT : T_Gr × T_Wd → Prop} (e0 : z_this_words.1 = T) (h : wp_Gr_pass z_this z_this_nodes z_this_words post postT) : (∃ (w0 : Unit) (w1 : T_Gr × T_Wd), post w0 w1 ∧ w1.2.1 = T) ∨ (∃ (w0 : T_Gr × T_Wd), postT w0 ∧ w0.2.1 = T) := by
  unfold wp_Gr_pass at h
  obtain ⟨r1, u1, -, qb0⟩ := dt_Nd_isTooMany h
  replace h := qb0 _ h
  rcases br_el h with ⟨c1, h⟩ | ⟨c1, h⟩
  · obtain ⟨r2, u2, h, e2_1⟩ := fw_Wd_advance (T := T) (by assumption) h
    rcases br_el h with ⟨c3, h⟩ | ⟨c3, h⟩
    · obtain ⟨u, -, qb4⟩ := dt_Gr_refuse h
      replace h := qb4 _ h
      exact Or.inr (⟨_, h, (by assumption)⟩)
    · exact Or.inl ⟨_, _, h, (by assumption)⟩
  · obtain ⟨u, -, qb2⟩ := dt_Gr_refuse h
    replace h := qb2 _ h
    exact Or.inr (⟨_, h, (by assumption)⟩)
set_option maxHeartbeats 2000000 in
theorem fw_Gr_readNewName {T : Nat → Int32} {z_this : T_Gr} {z_this_names : T_Nm} {z_this_nodes : T_Nd} {z_this_words : T_Wd} {post : Int64 → T_Gr × T_Wd → Prop} {postT : T_Gr × T_Wd → Prop} (e0 : z_this_words.1 = T) (h : wp_Gr_readNewName z_this z_this_names z_this_nodes z_this_words post postT) : (∃ (w0 : Int64) (w1 : T_Gr × T_Wd), post w0 w1 ∧ w1.2.1 = T) ∨ (∃ (w0 : T_Gr × T_Wd), postT w0 ∧ w0.2.1 = T) := by
  unfold wp_Gr_readNewName at h
  rcases fw_Gr_pass (T := T) (by assumption) h with ⟨r1, u1, h, e0_1⟩ | ⟨u, h, e0_0⟩
  · rcases br_el h with ⟨c1, h⟩ | ⟨c1, h⟩
    · obtain ⟨r3, u3, -, qb2⟩ := dt_Nm_canTell h
      replace h := qb2 _ h
      rcases br_el h with ⟨c3, h⟩ | ⟨c3, h⟩
      · obtain ⟨u, -, qb4⟩ := dt_Gr_refuse h
        replace h := qb4 _ h
        exact Or.inr (⟨_, h, (by assumption)⟩)
      · rcases fw_Gr_pass (T := T) (by assumption) h with ⟨r4, u4, h, e4_1⟩ | ⟨u, h, e4_0⟩
        · exact Or.inl ⟨_, _, h, (by assumption)⟩
        · exact Or.inr (⟨_, h, (by assumption)⟩)
    · obtain ⟨u, -, qb2⟩ := dt_Gr_refuse h
      replace h := qb2 _ h
      exact Or.inr (⟨_, h, (by assumption)⟩)
  · exact Or.inr (⟨_, h, (by assumption)⟩)
set_option maxHeartbeats 2000000 in
theorem fw_Gr_take {T : Nat → Int32} {z_this : T_Gr} {z_this_nodes : T_Nd} {z_this_words : T_Wd} {a1 : Int32} {post : Unit → T_Gr × T_Wd → Prop} {postT : T_Gr × T_Wd → Prop} (e0 : z_this_words.1 = T) (h : wp_Gr_take z_this z_this_nodes z_this_words a1 post postT) : (∃ (w0 : Unit) (w1 : T_Gr × T_Wd), post w0 w1 ∧ w1.2.1 = T) ∨ (∃ (w0 : T_Gr × T_Wd), postT w0 ∧ w0.2.1 = T) := by
  unfold wp_Gr_take at h
  rcases br_el h with ⟨c0, h⟩ | ⟨c0, h⟩
  · rcases fw_Gr_pass (T := T) (by assumption) h with ⟨r1, u1, h, e1_1⟩ | ⟨u, h, e1_0⟩
    · exact Or.inl ⟨_, _, h, (by assumption)⟩
    · exact Or.inr (⟨_, h, (by assumption)⟩)
  · obtain ⟨u, -, qb1⟩ := dt_Gr_refuse h
    replace h := qb1 _ h
    exact Or.inr (⟨_, h, (by assumption)⟩)
set_option maxHeartbeats 2000000 in
theorem fw_Gr_readName {T : Nat → Int32} {z_this : T_Gr} {z_this_names : T_Nm} {z_this_nodes : T_Nd} {z_this_words : T_Wd} {a1 : Int32} {post : Int32 → T_Gr × T_Wd → Prop} {postT : T_Gr × T_Wd → Prop} (e0 : z_this_words.1 = T) (h : wp_Gr_readName z_this z_this_names z_this_nodes z_this_words a1 post postT) : (∃ (w0 : Int32) (w1 : T_Gr × T_Wd), post w0 w1 ∧ w1.2.1 = T) ∨ (∃ (w0 : T_Gr × T_Wd), postT w0 ∧ w0.2.1 = T) := by
  unfold wp_Gr_readName at h
  rcases br_el h with ⟨c0, h⟩ | ⟨c0, h⟩
  · obtain ⟨r5, u5, -, qb1⟩ := dt_Nm_find h
    replace h := qb1 _ h
    rcases br_el h with ⟨c2, h⟩ | ⟨c2, h⟩
    · obtain ⟨u, -, qb3⟩ := dt_Gr_refuse h
      replace h := qb3 _ h
      exact Or.inr (⟨_, h, (by assumption)⟩)
    · obtain ⟨r7, u7, -, qb3⟩ := dt_Nm_sortOf h
      replace h := qb3 _ h
      rcases br_el h with ⟨c4, h⟩ | ⟨c4, h⟩
      · rcases fw_Gr_pass (T := T) (by assumption) h with ⟨r8, u8, h, e5_1⟩ | ⟨u, h, e5_0⟩
        · exact Or.inl ⟨_, _, h, (by assumption)⟩
        · exact Or.inr (⟨_, h, (by assumption)⟩)
      · obtain ⟨u, -, qb5⟩ := dt_Gr_refuse h
        replace h := qb5 _ h
        exact Or.inr (⟨_, h, (by assumption)⟩)
  · rcases br_el h with ⟨c1, h⟩ | ⟨c1, h⟩
    · obtain ⟨u, -, qb2⟩ := dt_Gr_refuse h
      replace h := qb2 _ h
      exact Or.inr (⟨_, h, (by assumption)⟩)
    · exact absurd (by decide) c1
set_option maxHeartbeats 2000000 in
theorem fw_Gr_readAmount {T : Nat → Int32} {z_this : T_Gr} {z_this_nodes : T_Nd} {z_this_words : T_Wd} {post : Int32 → T_Gr × T_Nd × T_Wd → Prop} {postT : T_Gr × T_Nd × T_Wd → Prop} (e0 : z_this_words.1 = T) (h : wp_Gr_readAmount z_this z_this_nodes z_this_words post postT) : (∃ (w0 : Int32) (w1 : T_Gr × T_Nd × T_Wd), post w0 w1 ∧ w1.2.2.1 = T) ∨ (∃ (w0 : T_Gr × T_Nd × T_Wd), postT w0 ∧ w0.2.2.1 = T) := by
  unfold wp_Gr_readAmount at h
  rcases fw_Gr_pass (T := T) (by assumption) h with ⟨r1, u1, h, e0_1⟩ | ⟨u, h, e0_0⟩
  · obtain ⟨r2, u2, -, qb1⟩ := dt_Gr_measureHere h
    replace h := qb1 _ h
    obtain ⟨r3, u3, -, qb2⟩ := dt_Gr_isBetween h
    replace h := qb2 _ h
    rcases br_el h with ⟨c3, h⟩ | ⟨c3, h⟩
    · rcases br_el h with ⟨c4, h⟩ | ⟨c4, h⟩
      · rcases br_el h with ⟨c5, h⟩ | ⟨c5, h⟩
        · obtain ⟨r4, u4, -, qb6⟩ := dt_Nd_count h
          replace h := qb6 _ h
          obtain ⟨r5, u5, -, qb7⟩ := dt_Nd_add h
          replace h := qb7 _ h
          exact Or.inl ⟨_, _, h, (by assumption)⟩
        · rcases fw_Gr_pass (T := T) (by assumption) h with ⟨r6, u6, h, e6_1⟩ | ⟨u, h, e6_0⟩
          · obtain ⟨r7, u7, -, qb7⟩ := dt_Nd_count h
            replace h := qb7 _ h
            obtain ⟨r8, u8, -, qb8⟩ := dt_Nd_add h
            replace h := qb8 _ h
            exact Or.inl ⟨_, _, h, (by assumption)⟩
          · exact Or.inr (⟨_, h, (by assumption)⟩)
      · obtain ⟨u, -, qb5⟩ := dt_Gr_refuse h
        replace h := qb5 _ h
        exact Or.inr (⟨_, h, (by assumption)⟩)
    · rcases br_el h with ⟨c4, h⟩ | ⟨c4, h⟩
      · rcases br_el h with ⟨c5, h⟩ | ⟨c5, h⟩
        · rcases br_el h with ⟨c6, h⟩ | ⟨c6, h⟩
          · exact absurd c6 (by decide)
          · rcases fw_Gr_pass (T := T) (by assumption) h with ⟨r18, u18, h, e7_1⟩ | ⟨u, h, e7_0⟩
            · obtain ⟨r19, u19, -, qb8⟩ := dt_Nd_count h
              replace h := qb8 _ h
              obtain ⟨r20, u20, -, qb9⟩ := dt_Nd_add h
              replace h := qb9 _ h
              exact Or.inl ⟨_, _, h, (by assumption)⟩
            · exact Or.inr (⟨_, h, (by assumption)⟩)
        · obtain ⟨u, -, qb6⟩ := dt_Gr_refuse h
          replace h := qb6 _ h
          exact Or.inr (⟨_, h, (by assumption)⟩)
      · rcases br_el h with ⟨c5, h⟩ | ⟨c5, h⟩
        · rcases br_el h with ⟨c6, h⟩ | ⟨c6, h⟩
          · exact absurd c6 (by decide)
          · rcases fw_Gr_pass (T := T) (by assumption) h with ⟨r12, u12, h, e7_1⟩ | ⟨u, h, e7_0⟩
            · obtain ⟨r13, u13, -, qb8⟩ := dt_Nd_count h
              replace h := qb8 _ h
              obtain ⟨r14, u14, -, qb9⟩ := dt_Nd_add h
              replace h := qb9 _ h
              exact Or.inl ⟨_, _, h, (by assumption)⟩
            · exact Or.inr (⟨_, h, (by assumption)⟩)
        · obtain ⟨u, -, qb6⟩ := dt_Gr_refuse h
          replace h := qb6 _ h
          exact Or.inr (⟨_, h, (by assumption)⟩)
  · exact Or.inr (⟨_, h, (by assumption)⟩)
set_option maxHeartbeats 2000000 in
theorem fw_Gr_readMeasured {T : Nat → Int32} {z_this : T_Gr} {z_this_names : T_Nm} {z_this_nodes : T_Nd} {z_this_words : T_Wd} {post : Int32 → T_Gr × T_Nm × T_Nd × T_Wd → Prop} {postT : T_Gr × T_Nm × T_Nd × T_Wd → Prop} (e0 : z_this_words.1 = T) (h : wp_Gr_readMeasured z_this z_this_names z_this_nodes z_this_words post postT) : (∃ (w0 : Int32) (w1 : T_Gr × T_Nm × T_Nd × T_Wd), post w0 w1 ∧ w1.2.2.2.1 = T) ∨ (∃ (w0 : T_Gr × T_Nm × T_Nd × T_Wd), postT w0 ∧ w0.2.2.2.1 = T) := by
  unfold wp_Gr_readMeasured at h
  rcases br_el h with ⟨c0, h⟩ | ⟨c0, h⟩
  · obtain ⟨r14, u14, -, qb1⟩ := dt_Nm_find h
    replace h := qb1 _ h
    rcases br_el h with ⟨c2, h⟩ | ⟨c2, h⟩
    · obtain ⟨u, -, qb3⟩ := dt_Gr_refuse h
      replace h := qb3 _ h
      exact Or.inr (⟨_, h, (by assumption)⟩)
    · obtain ⟨r16, u16, -, qb3⟩ := dt_Nm_sortOf h
      replace h := qb3 _ h
      rcases br_el h with ⟨c4, h⟩ | ⟨c4, h⟩
      · obtain ⟨u, -, qb5⟩ := dt_Gr_refuse h
        replace h := qb5 _ h
        exact Or.inr (⟨_, h, (by assumption)⟩)
      · obtain ⟨r17, u17, -, qb5⟩ := dt_Nm_sortOf h
        replace h := qb5 _ h
        rcases br_el h with ⟨c6, h⟩ | ⟨c6, h⟩
        · obtain ⟨r22, u22, -, qb7⟩ := dt_Nm_use h
          replace h := qb7 _ h
          rcases fw_Gr_pass (T := T) (by assumption) h with ⟨r23, u23, h, e8_1⟩ | ⟨u, h, e8_0⟩
          · obtain ⟨r24, u24, -, qb9⟩ := dt_Nd_count h
            replace h := qb9 _ h
            obtain ⟨r25, u25, -, qb10⟩ := dt_Nm_measureOf h
            replace h := qb10 _ h
            obtain ⟨r26, u26, -, qb11⟩ := dt_Nd_add h
            replace h := qb11 _ h
            exact Or.inl ⟨_, _, h, (by assumption)⟩
          · exact Or.inr (⟨_, h, (by assumption)⟩)
        · rcases fw_Gr_pass (T := T) (by assumption) h with ⟨r18, u18, h, e7_1⟩ | ⟨u, h, e7_0⟩
          · obtain ⟨r19, u19, -, qb8⟩ := dt_Nd_count h
            replace h := qb8 _ h
            obtain ⟨r20, u20, -, qb9⟩ := dt_Nm_measureOf h
            replace h := qb9 _ h
            obtain ⟨r21, u21, -, qb10⟩ := dt_Nd_add h
            replace h := qb10 _ h
            exact Or.inl ⟨_, _, h, (by assumption)⟩
          · exact Or.inr (⟨_, h, (by assumption)⟩)
  · rcases br_el h with ⟨c1, h⟩ | ⟨c1, h⟩
    · obtain ⟨u, -, qb2⟩ := dt_Gr_refuse h
      replace h := qb2 _ h
      exact Or.inr (⟨_, h, (by assumption)⟩)
    · exact absurd (by decide) c1
set_option maxHeartbeats 2000000 in
theorem fw_Gr_readAct {T : Nat → Int32} {z_this : T_Gr} {z_this_nodes : T_Nd} {z_this_words : T_Wd} {post : Int32 → T_Gr × T_Wd → Prop} {postT : T_Gr × T_Wd → Prop} (e0 : z_this_words.1 = T) (h : wp_Gr_readAct z_this z_this_nodes z_this_words post postT) : (∃ (w0 : Int32) (w1 : T_Gr × T_Wd), post w0 w1 ∧ w1.2.1 = T) ∨ (∃ (w0 : T_Gr × T_Wd), postT w0 ∧ w0.2.1 = T) := by
  unfold wp_Gr_readAct at h
  rcases br_el h with ⟨c0, h⟩ | ⟨c0, h⟩
  · rcases br_el h with ⟨c1, h⟩ | ⟨c1, h⟩
    · rcases fw_Gr_pass (T := T) (by assumption) h with ⟨r2, u2, h, e2_1⟩ | ⟨u, h, e2_0⟩
      · exact Or.inl ⟨_, _, h, (by assumption)⟩
      · exact Or.inr (⟨_, h, (by assumption)⟩)
    · obtain ⟨u, -, qb2⟩ := dt_Gr_refuse h
      replace h := qb2 _ h
      exact Or.inr (⟨_, h, (by assumption)⟩)
  · obtain ⟨u, -, qb1⟩ := dt_Gr_refuse h
    replace h := qb1 _ h
    exact Or.inr (⟨_, h, (by assumption)⟩)
set_option maxHeartbeats 2000000 in
theorem fw_Gr_readUnit {T : Nat → Int32} {z_this : T_Gr} {z_this_nodes : T_Nd} {z_this_words : T_Wd} {post : Int32 → T_Gr × T_Wd → Prop} {postT : T_Gr × T_Wd → Prop} (e0 : z_this_words.1 = T) (h : wp_Gr_readUnit z_this z_this_nodes z_this_words post postT) : (∃ (w0 : Int32) (w1 : T_Gr × T_Wd), post w0 w1 ∧ w1.2.1 = T) ∨ (∃ (w0 : T_Gr × T_Wd), postT w0 ∧ w0.2.1 = T) := by
  unfold wp_Gr_readUnit at h
  obtain ⟨r1, u1, -, qb0⟩ := dt_Gr_measureHere h
  replace h := qb0 _ h
  rcases br_el h with ⟨c1, h⟩ | ⟨c1, h⟩
  · exact Or.inl ⟨_, _, h, (by assumption)⟩
  · rcases fw_Gr_pass (T := T) (by assumption) h with ⟨r2, u2, h, e2_1⟩ | ⟨u, h, e2_0⟩
    · exact Or.inl ⟨_, _, h, (by assumption)⟩
    · exact Or.inr (⟨_, h, (by assumption)⟩)
set_option maxHeartbeats 2000000 in
theorem fw_Gr_readProduct_L16 {T : Nat → Int32} {rf : T_Gr → T_Nm → T_Nd → T_Wd → Int32 → (Int32 → T_Gr × T_Nm × T_Nd × T_Wd → Prop) → (T_Gr × T_Nm × T_Nd × T_Wd → Prop) → Prop} (hrf : ∀ (v0 : T_Gr) (v1 : T_Nm) (v2 : T_Nd) (v3 : T_Wd) (v4 : Int32) (post : (Int32 → T_Gr × T_Nm × T_Nd × T_Wd → Prop)) (postT : (T_Gr × T_Nm × T_Nd × T_Wd → Prop)), v3.1 = T → rf v0 v1 v2 v3 v4 post postT → (∃ (w0 : Int32) (w1 : T_Gr × T_Nm × T_Nd × T_Wd), post w0 w1 ∧ w1.2.2.2.1 = T) ∨ (∃ (w0 : T_Gr × T_Nm × T_Nd × T_Wd), postT w0 ∧ w0.2.2.2.1 = T)) : ∀ (n9 : Nat) (z_this : T_Gr) (z_this_names : T_Nm) (z_this_nodes : T_Nd) (z_this_words : T_Wd) (x1 : Int32) (x2 : Int32) (x3 : Int32) (x4 : Int32) (K : T_Gr → T_Nm → T_Nd → T_Wd → Int32 → Int32 → Int32 → Int32 → Prop) (post : Int32 → T_Gr × T_Nm × T_Nd × T_Wd → Prop) (postT : T_Gr × T_Nm × T_Nd × T_Wd → Prop), z_this_words.1 = T → wp_Gr_readProduct_L16 rf K post postT n9 z_this z_this_names z_this_nodes z_this_words x1 x2 x3 x4 → (∃ (w0 : T_Gr) (w1 : T_Nm) (w2 : T_Nd) (w3 : T_Wd) (w4 : Int32) (w5 : Int32) (w6 : Int32) (w7 : Int32), K w0 w1 w2 w3 w4 w5 w6 w7 ∧ w3.1 = T) ∨ (∃ (w0 : Int32) (w1 : T_Gr × T_Nm × T_Nd × T_Wd), post w0 w1 ∧ w1.2.2.2.1 = T) ∨ (∃ (w0 : T_Gr × T_Nm × T_Nd × T_Wd), postT w0 ∧ w0.2.2.2.1 = T) := by
  intro n9
  induction n9 with
  | zero => intro z_this z_this_names z_this_nodes z_this_words x1 x2 x3 x4 K post postT e0 h; exact False.elim h
  | succ n9 ih =>
    intro z_this z_this_names z_this_nodes z_this_words x1 x2 x3 x4 K post postT e0 h
    rw [wp_Gr_readProduct_L16] at h
    rcases br_el h with ⟨c0, h⟩ | ⟨c0, h⟩
    · exact Or.inl ⟨_, _, _, _, _, _, _, _, h, (by assumption)⟩
    · rcases br_el h with ⟨c1, h⟩ | ⟨c1, h⟩
      · exact Or.inl ⟨_, _, _, _, _, _, _, _, h, (by assumption)⟩
      · rcases fw_Gr_pass (T := T) (by assumption) h with ⟨r3, u3, h, e2_1⟩ | ⟨u, h, e2_0⟩
        · rcases hrf _ _ _ _ _ _ _ (by assumption) h with ⟨r4, u4, h, e3_1⟩ | ⟨u, h, e3_0⟩
          · rcases dt_Gr_join h with ⟨r5, u5, -, qb4⟩ | ⟨u, -, qb4⟩
            · replace h := qb4 _ _ h
              obtain ⟨r6, u6, -, qb5⟩ := dt_Gr_operator h
              replace h := qb5 _ h
              rcases ih _ _ _ _ _ _ _ _ _ _ _ (by assumption) h with ⟨w6_0, w6_1, w6_2, w6_3, w6_4, w6_5, w6_6, w6_7, h, e6_3⟩ | ⟨w6_0, w6_1, h, e6_1⟩ | ⟨w6_0, h, e6_0⟩
              · exact Or.inl ⟨_, _, _, _, _, _, _, _, h, (by assumption)⟩
              · exact Or.inr (Or.inl ⟨_, _, h, (by assumption)⟩)
              · exact Or.inr (Or.inr (⟨_, h, (by assumption)⟩))
            · replace h := qb4 _ _ h
              exact Or.inr (Or.inr (⟨_, h, (by assumption)⟩))
          · exact Or.inr (Or.inr (⟨_, h, (by assumption)⟩))
        · exact Or.inr (Or.inr (⟨_, h, (by assumption)⟩))
set_option maxHeartbeats 2000000 in
theorem fw_Gr_readProduct {T : Nat → Int32} {rf : T_Gr → T_Nm → T_Nd → T_Wd → Int32 → (Int32 → T_Gr × T_Nm × T_Nd × T_Wd → Prop) → (T_Gr × T_Nm × T_Nd × T_Wd → Prop) → Prop} {z_this : T_Gr} {z_this_names : T_Nm} {z_this_nodes : T_Nd} {z_this_words : T_Wd} {a1 : Int32} (hrf : ∀ (v0 : T_Gr) (v1 : T_Nm) (v2 : T_Nd) (v3 : T_Wd) (v4 : Int32) (post : (Int32 → T_Gr × T_Nm × T_Nd × T_Wd → Prop)) (postT : (T_Gr × T_Nm × T_Nd × T_Wd → Prop)), v3.1 = T → rf v0 v1 v2 v3 v4 post postT → (∃ (w0 : Int32) (w1 : T_Gr × T_Nm × T_Nd × T_Wd), post w0 w1 ∧ w1.2.2.2.1 = T) ∨ (∃ (w0 : T_Gr × T_Nm × T_Nd × T_Wd), postT w0 ∧ w0.2.2.2.1 = T)) {post : Int32 → T_Gr × T_Nm × T_Nd × T_Wd → Prop} {postT : T_Gr × T_Nm × T_Nd × T_Wd → Prop} (e0 : z_this_words.1 = T) (h : wp_Gr_readProduct rf z_this z_this_names z_this_nodes z_this_words a1 post postT) : (∃ (w0 : Int32) (w1 : T_Gr × T_Nm × T_Nd × T_Wd), post w0 w1 ∧ w1.2.2.2.1 = T) ∨ (∃ (w0 : T_Gr × T_Nm × T_Nd × T_Wd), postT w0 ∧ w0.2.2.2.1 = T) := by
  unfold wp_Gr_readProduct at h
  rcases hrf _ _ _ _ _ _ _ (by assumption) h with ⟨r1, u1, h, e0_1⟩ | ⟨u, h, e0_0⟩
  · obtain ⟨r2, u2, -, qb1⟩ := dt_Gr_operator h
    replace h := qb1 _ h
    obtain ⟨k2, h⟩ := h
    rcases fw_Gr_readProduct_L16 (T := T) hrf k2 _ _ _ _ _ _ _ _ _ _ _ (by assumption) h with ⟨z_this, z_this_names, z_this_nodes, z_this_words, x1, x2, x3, x4, h, e2_3⟩ | ⟨w2_0, w2_1, h, e2_1⟩ | ⟨w2_0, h, e2_0⟩
    · exact Or.inl ⟨_, _, h, (by assumption)⟩
    · exact Or.inl ⟨_, _, h, (by assumption)⟩
    · exact Or.inr (⟨_, h, (by assumption)⟩)
  · exact Or.inr (⟨_, h, (by assumption)⟩)
set_option maxHeartbeats 2000000 in
theorem fw_Gr_readSum_L16 {T : Nat → Int32} {rf : T_Gr → T_Nm → T_Nd → T_Wd → Int32 → (Int32 → T_Gr × T_Nm × T_Nd × T_Wd → Prop) → (T_Gr × T_Nm × T_Nd × T_Wd → Prop) → Prop} (hrf : ∀ (v0 : T_Gr) (v1 : T_Nm) (v2 : T_Nd) (v3 : T_Wd) (v4 : Int32) (post : (Int32 → T_Gr × T_Nm × T_Nd × T_Wd → Prop)) (postT : (T_Gr × T_Nm × T_Nd × T_Wd → Prop)), v3.1 = T → rf v0 v1 v2 v3 v4 post postT → (∃ (w0 : Int32) (w1 : T_Gr × T_Nm × T_Nd × T_Wd), post w0 w1 ∧ w1.2.2.2.1 = T) ∨ (∃ (w0 : T_Gr × T_Nm × T_Nd × T_Wd), postT w0 ∧ w0.2.2.2.1 = T)) : ∀ (n9 : Nat) (z_this : T_Gr) (z_this_names : T_Nm) (z_this_nodes : T_Nd) (z_this_words : T_Wd) (x1 : Int32) (x2 : Int32) (x3 : Int32) (x4 : Int32) (K : T_Gr → T_Nm → T_Nd → T_Wd → Int32 → Int32 → Int32 → Int32 → Prop) (post : Int32 → T_Gr × T_Nm × T_Nd × T_Wd → Prop) (postT : T_Gr × T_Nm × T_Nd × T_Wd → Prop), z_this_words.1 = T → wp_Gr_readSum_L16 rf K post postT n9 z_this z_this_names z_this_nodes z_this_words x1 x2 x3 x4 → (∃ (w0 : T_Gr) (w1 : T_Nm) (w2 : T_Nd) (w3 : T_Wd) (w4 : Int32) (w5 : Int32) (w6 : Int32) (w7 : Int32), K w0 w1 w2 w3 w4 w5 w6 w7 ∧ w3.1 = T) ∨ (∃ (w0 : Int32) (w1 : T_Gr × T_Nm × T_Nd × T_Wd), post w0 w1 ∧ w1.2.2.2.1 = T) ∨ (∃ (w0 : T_Gr × T_Nm × T_Nd × T_Wd), postT w0 ∧ w0.2.2.2.1 = T) := by
  intro n9
  induction n9 with
  | zero => intro z_this z_this_names z_this_nodes z_this_words x1 x2 x3 x4 K post postT e0 h; exact False.elim h
  | succ n9 ih =>
    intro z_this z_this_names z_this_nodes z_this_words x1 x2 x3 x4 K post postT e0 h
    rw [wp_Gr_readSum_L16] at h
    rcases br_el h with ⟨c0, h⟩ | ⟨c0, h⟩
    · exact Or.inl ⟨_, _, _, _, _, _, _, _, h, (by assumption)⟩
    · rcases br_el h with ⟨c1, h⟩ | ⟨c1, h⟩
      · exact Or.inl ⟨_, _, _, _, _, _, _, _, h, (by assumption)⟩
      · rcases fw_Gr_pass (T := T) (by assumption) h with ⟨r3, u3, h, e2_1⟩ | ⟨u, h, e2_0⟩
        · rcases fw_Gr_readProduct (T := T) hrf (by assumption) h with ⟨r4, u4, h, e3_1⟩ | ⟨u, h, e3_0⟩
          · rcases dt_Gr_join h with ⟨r5, u5, -, qb4⟩ | ⟨u, -, qb4⟩
            · replace h := qb4 _ _ h
              obtain ⟨r6, u6, -, qb5⟩ := dt_Gr_operator h
              replace h := qb5 _ h
              rcases ih _ _ _ _ _ _ _ _ _ _ _ (by assumption) h with ⟨w6_0, w6_1, w6_2, w6_3, w6_4, w6_5, w6_6, w6_7, h, e6_3⟩ | ⟨w6_0, w6_1, h, e6_1⟩ | ⟨w6_0, h, e6_0⟩
              · exact Or.inl ⟨_, _, _, _, _, _, _, _, h, (by assumption)⟩
              · exact Or.inr (Or.inl ⟨_, _, h, (by assumption)⟩)
              · exact Or.inr (Or.inr (⟨_, h, (by assumption)⟩))
            · replace h := qb4 _ _ h
              exact Or.inr (Or.inr (⟨_, h, (by assumption)⟩))
          · exact Or.inr (Or.inr (⟨_, h, (by assumption)⟩))
        · exact Or.inr (Or.inr (⟨_, h, (by assumption)⟩))
set_option maxHeartbeats 2000000 in
theorem fw_Gr_readSum {T : Nat → Int32} {rf : T_Gr → T_Nm → T_Nd → T_Wd → Int32 → (Int32 → T_Gr × T_Nm × T_Nd × T_Wd → Prop) → (T_Gr × T_Nm × T_Nd × T_Wd → Prop) → Prop} {z_this : T_Gr} {z_this_names : T_Nm} {z_this_nodes : T_Nd} {z_this_words : T_Wd} {a1 : Int32} (hrf : ∀ (v0 : T_Gr) (v1 : T_Nm) (v2 : T_Nd) (v3 : T_Wd) (v4 : Int32) (post : (Int32 → T_Gr × T_Nm × T_Nd × T_Wd → Prop)) (postT : (T_Gr × T_Nm × T_Nd × T_Wd → Prop)), v3.1 = T → rf v0 v1 v2 v3 v4 post postT → (∃ (w0 : Int32) (w1 : T_Gr × T_Nm × T_Nd × T_Wd), post w0 w1 ∧ w1.2.2.2.1 = T) ∨ (∃ (w0 : T_Gr × T_Nm × T_Nd × T_Wd), postT w0 ∧ w0.2.2.2.1 = T)) {post : Int32 → T_Gr × T_Nm × T_Nd × T_Wd → Prop} {postT : T_Gr × T_Nm × T_Nd × T_Wd → Prop} (e0 : z_this_words.1 = T) (h : wp_Gr_readSum rf z_this z_this_names z_this_nodes z_this_words a1 post postT) : (∃ (w0 : Int32) (w1 : T_Gr × T_Nm × T_Nd × T_Wd), post w0 w1 ∧ w1.2.2.2.1 = T) ∨ (∃ (w0 : T_Gr × T_Nm × T_Nd × T_Wd), postT w0 ∧ w0.2.2.2.1 = T) := by
  unfold wp_Gr_readSum at h
  rcases fw_Gr_readProduct (T := T) hrf (by assumption) h with ⟨r1, u1, h, e0_1⟩ | ⟨u, h, e0_0⟩
  · obtain ⟨r2, u2, -, qb1⟩ := dt_Gr_operator h
    replace h := qb1 _ h
    obtain ⟨k2, h⟩ := h
    rcases fw_Gr_readSum_L16 (T := T) hrf k2 _ _ _ _ _ _ _ _ _ _ _ (by assumption) h with ⟨z_this, z_this_names, z_this_nodes, z_this_words, x1, x2, x3, x4, h, e2_3⟩ | ⟨w2_0, w2_1, h, e2_1⟩ | ⟨w2_0, h, e2_0⟩
    · exact Or.inl ⟨_, _, h, (by assumption)⟩
    · exact Or.inl ⟨_, _, h, (by assumption)⟩
    · exact Or.inr (⟨_, h, (by assumption)⟩)
  · exact Or.inr (⟨_, h, (by assumption)⟩)
set_option maxHeartbeats 2000000 in
theorem fw_Gr_readFactor_F {T : Nat → Int32} {rf : T_Gr → T_Nm → T_Nd → T_Wd → Int32 → (Int32 → T_Gr × T_Nm × T_Nd × T_Wd → Prop) → (T_Gr × T_Nm × T_Nd × T_Wd → Prop) → Prop} {z_this : T_Gr} {z_this_names : T_Nm} {z_this_nodes : T_Nd} {z_this_words : T_Wd} {a1 : Int32} (hrf : ∀ (v0 : T_Gr) (v1 : T_Nm) (v2 : T_Nd) (v3 : T_Wd) (v4 : Int32) (post : (Int32 → T_Gr × T_Nm × T_Nd × T_Wd → Prop)) (postT : (T_Gr × T_Nm × T_Nd × T_Wd → Prop)), v3.1 = T → rf v0 v1 v2 v3 v4 post postT → (∃ (w0 : Int32) (w1 : T_Gr × T_Nm × T_Nd × T_Wd), post w0 w1 ∧ w1.2.2.2.1 = T) ∨ (∃ (w0 : T_Gr × T_Nm × T_Nd × T_Wd), postT w0 ∧ w0.2.2.2.1 = T)) {post : Int32 → T_Gr × T_Nm × T_Nd × T_Wd → Prop} {postT : T_Gr × T_Nm × T_Nd × T_Wd → Prop} (e0 : z_this_words.1 = T) (h : wp_Gr_readFactor_F rf z_this z_this_names z_this_nodes z_this_words a1 post postT) : (∃ (w0 : Int32) (w1 : T_Gr × T_Nm × T_Nd × T_Wd), post w0 w1 ∧ w1.2.2.2.1 = T) ∨ (∃ (w0 : T_Gr × T_Nm × T_Nd × T_Wd), postT w0 ∧ w0.2.2.2.1 = T) := by
  unfold wp_Gr_readFactor_F at h
  obtain ⟨r1, u1, -, qb0⟩ := dt_Nd_count h
  replace h := qb0 _ h
  rcases Classical.em (z_this_words.2.2.2.2.2.2.2.2.2.2.1 = (40 : Int32)) with c1_0 | c1_0
  · replace h := (h).1 c1_0
    rcases dt_Gr_refuseOneMore h with ⟨r2, u2, -, qb2⟩ | ⟨u, -, qb2⟩
    · replace h := qb2 _ _ h
      rcases fw_Gr_pass (T := T) (by assumption) h with ⟨r3, u3, h, e3_1⟩ | ⟨u, h, e3_0⟩
      · rcases fw_Gr_readSum (T := T) hrf (by assumption) h with ⟨r4, u4, h, e4_1⟩ | ⟨u, h, e4_0⟩
        · rcases fw_Gr_take (T := T) (by assumption) h with ⟨r5, u5, h, e5_1⟩ | ⟨u, h, e5_0⟩
          · exact Or.inl ⟨_, _, h, (by assumption)⟩
          · exact Or.inr (⟨_, h, (by assumption)⟩)
        · exact Or.inr (⟨_, h, (by assumption)⟩)
      · exact Or.inr (⟨_, h, (by assumption)⟩)
    · replace h := qb2 _ _ h
      exact Or.inr (⟨_, h, (by assumption)⟩)
  · rcases Classical.em (z_this_words.2.2.2.2.2.2.2.2.2.2.1 = (45 : Int32)) with c1_1 | c1_1
    · replace h := (h).2.1 c1_1
      rcases dt_Gr_refuseOneMore h with ⟨r6, u6, -, qb2⟩ | ⟨u, -, qb2⟩
      · replace h := qb2 _ _ h
        rcases fw_Gr_pass (T := T) (by assumption) h with ⟨r7, u7, h, e3_1⟩ | ⟨u, h, e3_0⟩
        · rcases hrf _ _ _ _ _ _ _ (by assumption) h with ⟨r8, u8, h, e4_1⟩ | ⟨u, h, e4_0⟩
          · obtain ⟨r9, u9, -, qb5⟩ := dt_Nd_measureOf h
            replace h := qb5 _ h
            obtain ⟨r10, u10, -, qb6⟩ := dt_Nd_add h
            replace h := qb6 _ h
            exact Or.inl ⟨_, _, h, (by assumption)⟩
          · exact Or.inr (⟨_, h, (by assumption)⟩)
        · exact Or.inr (⟨_, h, (by assumption)⟩)
      · replace h := qb2 _ _ h
        exact Or.inr (⟨_, h, (by assumption)⟩)
    · rcases Classical.em (z_this_words.2.2.2.2.2.2.2.2.2.2.1 = (129 : Int32)) with c1_2 | c1_2
      · replace h := (h).2.2.1 c1_2
        rcases fw_Gr_readAmount (T := T) (by assumption) h with ⟨r11, u11, h, e2_1⟩ | ⟨u, h, e2_0⟩
        · exact Or.inl ⟨_, _, h, (by assumption)⟩
        · exact Or.inr (⟨_, h, (by assumption)⟩)
      · rcases Classical.em (z_this_words.2.2.2.2.2.2.2.2.2.2.1 = (130 : Int32)) with c1_3 | c1_3
        · replace h := (h).2.2.2.1 c1_3
          rcases fw_Gr_readAmount (T := T) (by assumption) h with ⟨r12, u12, h, e2_1⟩ | ⟨u, h, e2_0⟩
          · exact Or.inl ⟨_, _, h, (by assumption)⟩
          · exact Or.inr (⟨_, h, (by assumption)⟩)
        · replace h := (h).2.2.2.2 ⟨c1_0, c1_1, c1_2, c1_3⟩
          rcases fw_Gr_readMeasured (T := T) (by assumption) h with ⟨r13, u13, h, e2_1⟩ | ⟨u, h, e2_0⟩
          · exact Or.inl ⟨_, _, h, (by assumption)⟩
          · exact Or.inr (⟨_, h, (by assumption)⟩)
theorem fw_Gr_readFactor {T : Nat → Int32} : ∀ (d : Nat), ∀ (v0 : T_Gr) (v1 : T_Nm) (v2 : T_Nd) (v3 : T_Wd) (v4 : Int32) (post : (Int32 → T_Gr × T_Nm × T_Nd × T_Wd → Prop)) (postT : (T_Gr × T_Nm × T_Nd × T_Wd → Prop)), v3.1 = T → wp_Gr_readFactor d v0 v1 v2 v3 v4 post postT → (∃ (w0 : Int32) (w1 : T_Gr × T_Nm × T_Nd × T_Wd), post w0 w1 ∧ w1.2.2.2.1 = T) ∨ (∃ (w0 : T_Gr × T_Nm × T_Nd × T_Wd), postT w0 ∧ w0.2.2.2.1 = T) := by
  intro d
  induction d with
  | zero => intro v0 v1 v2 v3 v4 post postT f0 h; exact False.elim h
  | succ d ih =>
    intro v0 v1 v2 v3 v4 post postT f0 h
    exact fw_Gr_readFactor_F ih f0 h
set_option maxHeartbeats 2000000 in
theorem fw_Gr_readTest {T : Nat → Int32} {rf : T_Gr → T_Nm → T_Nd → T_Wd → Int32 → (Int32 → T_Gr × T_Nm × T_Nd × T_Wd → Prop) → (T_Gr × T_Nm × T_Nd × T_Wd → Prop) → Prop} {z_this : T_Gr} {z_this_names : T_Nm} {z_this_nodes : T_Nd} {z_this_words : T_Wd} {a1 : Int32} (hrf : ∀ (v0 : T_Gr) (v1 : T_Nm) (v2 : T_Nd) (v3 : T_Wd) (v4 : Int32) (post : (Int32 → T_Gr × T_Nm × T_Nd × T_Wd → Prop)) (postT : (T_Gr × T_Nm × T_Nd × T_Wd → Prop)), v3.1 = T → rf v0 v1 v2 v3 v4 post postT → (∃ (w0 : Int32) (w1 : T_Gr × T_Nm × T_Nd × T_Wd), post w0 w1 ∧ w1.2.2.2.1 = T) ∨ (∃ (w0 : T_Gr × T_Nm × T_Nd × T_Wd), postT w0 ∧ w0.2.2.2.1 = T)) {post : Unit → T_Gr × T_Nm × T_Nd × T_Wd → Prop} {postT : T_Gr × T_Nm × T_Nd × T_Wd → Prop} (e0 : z_this_words.1 = T) (h : wp_Gr_readTest rf z_this z_this_names z_this_nodes z_this_words a1 post postT) : (∃ (w0 : Unit) (w1 : T_Gr × T_Nm × T_Nd × T_Wd), post w0 w1 ∧ w1.2.2.2.1 = T) ∨ (∃ (w0 : T_Gr × T_Nm × T_Nd × T_Wd), postT w0 ∧ w0.2.2.2.1 = T) := by
  unfold wp_Gr_readTest at h
  rcases fw_Gr_readSum (T := T) hrf (by assumption) h with ⟨r1, u1, h, e0_1⟩ | ⟨u, h, e0_0⟩
  · obtain ⟨r2, u2, -, qb1⟩ := dt_Gr_operator h
    replace h := qb1 _ h
    rcases br_el h with ⟨c2, h⟩ | ⟨c2, h⟩
    · obtain ⟨u, -, qb3⟩ := dt_Gr_refuse h
      replace h := qb3 _ h
      exact Or.inr (⟨_, h, (by assumption)⟩)
    · rcases fw_Gr_pass (T := T) (by assumption) h with ⟨r3, u3, h, e3_1⟩ | ⟨u, h, e3_0⟩
      · rcases fw_Gr_readSum (T := T) hrf (by assumption) h with ⟨r4, u4, h, e4_1⟩ | ⟨u, h, e4_0⟩
        · rcases dt_Gr_join h with ⟨r5, u5, -, qb5⟩ | ⟨u, -, qb5⟩
          · replace h := qb5 _ _ h
            exact Or.inl ⟨_, _, h, (by assumption)⟩
          · replace h := qb5 _ _ h
            exact Or.inr (⟨_, h, (by assumption)⟩)
        · exact Or.inr (⟨_, h, (by assumption)⟩)
      · exact Or.inr (⟨_, h, (by assumption)⟩)
  · exact Or.inr (⟨_, h, (by assumption)⟩)
set_option maxHeartbeats 2000000 in
theorem fw_Gr_readSumOf {T : Nat → Int32} {rf : T_Gr → T_Nm → T_Nd → T_Wd → Int32 → (Int32 → T_Gr × T_Nm × T_Nd × T_Wd → Prop) → (T_Gr × T_Nm × T_Nd × T_Wd → Prop) → Prop} {z_this : T_Gr} {z_this_names : T_Nm} {z_this_nodes : T_Nd} {z_this_words : T_Wd} {a1 : Int32} {a2 : Int32} (hrf : ∀ (v0 : T_Gr) (v1 : T_Nm) (v2 : T_Nd) (v3 : T_Wd) (v4 : Int32) (post : (Int32 → T_Gr × T_Nm × T_Nd × T_Wd → Prop)) (postT : (T_Gr × T_Nm × T_Nd × T_Wd → Prop)), v3.1 = T → rf v0 v1 v2 v3 v4 post postT → (∃ (w0 : Int32) (w1 : T_Gr × T_Nm × T_Nd × T_Wd), post w0 w1 ∧ w1.2.2.2.1 = T) ∨ (∃ (w0 : T_Gr × T_Nm × T_Nd × T_Wd), postT w0 ∧ w0.2.2.2.1 = T)) {post : Unit → T_Gr × T_Nm × T_Nd × T_Wd → Prop} {postT : T_Gr × T_Nm × T_Nd × T_Wd → Prop} (e0 : z_this_words.1 = T) (h : wp_Gr_readSumOf rf z_this z_this_names z_this_nodes z_this_words a1 a2 post postT) : (∃ (w0 : Unit) (w1 : T_Gr × T_Nm × T_Nd × T_Wd), post w0 w1 ∧ w1.2.2.2.1 = T) ∨ (∃ (w0 : T_Gr × T_Nm × T_Nd × T_Wd), postT w0 ∧ w0.2.2.2.1 = T) := by
  unfold wp_Gr_readSumOf at h
  rcases fw_Gr_readSum (T := T) hrf (by assumption) h with ⟨r1, u1, h, e0_1⟩ | ⟨u, h, e0_0⟩
  · obtain ⟨r2, u2, -, qb1⟩ := dt_Nd_measureOf h
    replace h := qb1 _ h
    rcases br_el h with ⟨c2, h⟩ | ⟨c2, h⟩
    · exact Or.inl ⟨_, _, h, (by assumption)⟩
    · obtain ⟨u, -, qb3⟩ := dt_Gr_refuse h
      replace h := qb3 _ h
      exact Or.inr (⟨_, h, (by assumption)⟩)
  · exact Or.inr (⟨_, h, (by assumption)⟩)
set_option maxHeartbeats 2000000 in
theorem fw_Gr_readBranches_L96 {T : Nat → Int32} {d : Nat} {rf : T_Gr → T_Nm → T_Nd → T_Wd → Int32 → (Unit → T_Gr × T_Nm × T_Nd × T_Wd → Prop) → (T_Gr × T_Nm × T_Nd × T_Wd → Prop) → Prop} (hrf : ∀ (v0 : T_Gr) (v1 : T_Nm) (v2 : T_Nd) (v3 : T_Wd) (v4 : Int32) (post : (Unit → T_Gr × T_Nm × T_Nd × T_Wd → Prop)) (postT : (T_Gr × T_Nm × T_Nd × T_Wd → Prop)), v3.1 = T → rf v0 v1 v2 v3 v4 post postT → (∃ (w0 : Unit) (w1 : T_Gr × T_Nm × T_Nd × T_Wd), post w0 w1 ∧ w1.2.2.2.1 = T) ∨ (∃ (w0 : T_Gr × T_Nm × T_Nd × T_Wd), postT w0 ∧ w0.2.2.2.1 = T)) : ∀ (n9 : Nat) (z_this : T_Gr) (z_this_names : T_Nm) (z_this_nodes : T_Nd) (z_this_words : T_Wd) (x1 : Int32) (x2 : Int32) (x3 : Int32) (K : T_Gr → T_Nm → T_Nd → T_Wd → Int32 → Int32 → Int32 → Prop) (post : Unit → T_Gr × T_Nm × T_Nd × T_Wd → Prop) (postT : T_Gr × T_Nm × T_Nd × T_Wd → Prop), z_this_words.1 = T → wp_Gr_readBranches_L96 d rf K post postT n9 z_this z_this_names z_this_nodes z_this_words x1 x2 x3 → (∃ (w0 : T_Gr) (w1 : T_Nm) (w2 : T_Nd) (w3 : T_Wd) (w4 : Int32) (w5 : Int32) (w6 : Int32), K w0 w1 w2 w3 w4 w5 w6 ∧ w3.1 = T) ∨ (∃ (w0 : Unit) (w1 : T_Gr × T_Nm × T_Nd × T_Wd), post w0 w1 ∧ w1.2.2.2.1 = T) ∨ (∃ (w0 : T_Gr × T_Nm × T_Nd × T_Wd), postT w0 ∧ w0.2.2.2.1 = T) := by
  intro n9
  induction n9 with
  | zero => intro z_this z_this_names z_this_nodes z_this_words x1 x2 x3 K post postT e0 h; exact False.elim h
  | succ n9 ih =>
    intro z_this z_this_names z_this_nodes z_this_words x1 x2 x3 K post postT e0 h
    rw [wp_Gr_readBranches_L96] at h
    rcases br_el h with ⟨c0, h⟩ | ⟨c0, h⟩
    · exact Or.inl ⟨_, _, _, _, _, _, _, h, (by assumption)⟩
    · rcases br_el h with ⟨c1, h⟩ | ⟨c1, h⟩
      · rcases hrf _ _ _ _ _ _ _ (by assumption) h with ⟨r3, u3, h, e2_1⟩ | ⟨u, h, e2_0⟩
        · rcases ih _ _ _ _ _ _ _ _ _ _ (by assumption) h with ⟨w3_0, w3_1, w3_2, w3_3, w3_4, w3_5, w3_6, h, e3_3⟩ | ⟨w3_0, w3_1, h, e3_1⟩ | ⟨w3_0, h, e3_0⟩
          · exact Or.inl ⟨_, _, _, _, _, _, _, h, (by assumption)⟩
          · exact Or.inr (Or.inl ⟨_, _, h, (by assumption)⟩)
          · exact Or.inr (Or.inr (⟨_, h, (by assumption)⟩))
        · exact Or.inr (Or.inr (⟨_, h, (by assumption)⟩))
      · exact Or.inl ⟨_, _, _, _, _, _, _, h, (by assumption)⟩
set_option maxHeartbeats 2000000 in
theorem fw_Gr_readBranches {T : Nat → Int32} {d : Nat} {rf : T_Gr → T_Nm → T_Nd → T_Wd → Int32 → (Unit → T_Gr × T_Nm × T_Nd × T_Wd → Prop) → (T_Gr × T_Nm × T_Nd × T_Wd → Prop) → Prop} {z_this : T_Gr} {z_this_names : T_Nm} {z_this_nodes : T_Nd} {z_this_words : T_Wd} {a1 : Int32} {a2 : Int32} (hrf : ∀ (v0 : T_Gr) (v1 : T_Nm) (v2 : T_Nd) (v3 : T_Wd) (v4 : Int32) (post : (Unit → T_Gr × T_Nm × T_Nd × T_Wd → Prop)) (postT : (T_Gr × T_Nm × T_Nd × T_Wd → Prop)), v3.1 = T → rf v0 v1 v2 v3 v4 post postT → (∃ (w0 : Unit) (w1 : T_Gr × T_Nm × T_Nd × T_Wd), post w0 w1 ∧ w1.2.2.2.1 = T) ∨ (∃ (w0 : T_Gr × T_Nm × T_Nd × T_Wd), postT w0 ∧ w0.2.2.2.1 = T)) {post : Unit → T_Gr × T_Nm × T_Nd × T_Wd → Prop} {postT : T_Gr × T_Nm × T_Nd × T_Wd → Prop} (e0 : z_this_words.1 = T) (h : wp_Gr_readBranches d rf z_this z_this_names z_this_nodes z_this_words a1 a2 post postT) : (∃ (w0 : Unit) (w1 : T_Gr × T_Nm × T_Nd × T_Wd), post w0 w1 ∧ w1.2.2.2.1 = T) ∨ (∃ (w0 : T_Gr × T_Nm × T_Nd × T_Wd), postT w0 ∧ w0.2.2.2.1 = T) := by
  unfold wp_Gr_readBranches at h
  rcases br_el h with ⟨c0, h⟩ | ⟨c0, h⟩
  · rcases fw_Gr_readSumOf (T := T) (fw_Gr_readFactor d) (by assumption) h with ⟨r17, u17, h, e1_1⟩ | ⟨u, h, e1_0⟩
    · rcases hrf _ _ _ _ _ _ _ (by assumption) h with ⟨r18, u18, h, e2_1⟩ | ⟨u, h, e2_0⟩
      · rcases br_el h with ⟨c3, h⟩ | ⟨c3, h⟩
        · rcases fw_Gr_take (T := T) (by assumption) h with ⟨r23, u23, h, e4_1⟩ | ⟨u, h, e4_0⟩
          · rcases hrf _ _ _ _ _ _ _ (by assumption) h with ⟨r24, u24, h, e5_1⟩ | ⟨u, h, e5_0⟩
            · exact Or.inl ⟨_, _, h, (by assumption)⟩
            · exact Or.inr (⟨_, h, (by assumption)⟩)
          · exact Or.inr (⟨_, h, (by assumption)⟩)
        · rcases br_el h with ⟨c4, h⟩ | ⟨c4, h⟩
          · rcases br_el h with ⟨c5, h⟩ | ⟨c5, h⟩
            · rcases fw_Gr_pass (T := T) (by assumption) h with ⟨r21, u21, h, e6_1⟩ | ⟨u, h, e6_0⟩
              · rcases hrf _ _ _ _ _ _ _ (by assumption) h with ⟨r22, u22, h, e7_1⟩ | ⟨u, h, e7_0⟩
                · exact Or.inl ⟨_, _, h, (by assumption)⟩
                · exact Or.inr (⟨_, h, (by assumption)⟩)
              · exact Or.inr (⟨_, h, (by assumption)⟩)
            · rcases br_el h with ⟨c6, h⟩ | ⟨c6, h⟩
              · rcases hrf _ _ _ _ _ _ _ (by assumption) h with ⟨r20, u20, h, e7_1⟩ | ⟨u, h, e7_0⟩
                · obtain ⟨k8, h⟩ := h
                  rcases fw_Gr_readBranches_L96 (T := T) hrf k8 _ _ _ _ _ _ _ _ _ _ (by assumption) h with ⟨z_this, z_this_names, z_this_nodes, z_this_words, x1, x2, x3, h, e8_3⟩ | ⟨w8_0, w8_1, h, e8_1⟩ | ⟨w8_0, h, e8_0⟩
                  · exact Or.inl ⟨_, _, h, (by assumption)⟩
                  · exact Or.inl ⟨_, _, h, (by assumption)⟩
                  · exact Or.inr (⟨_, h, (by assumption)⟩)
                · exact Or.inr (⟨_, h, (by assumption)⟩)
              · exact Or.inl ⟨_, _, h, (by assumption)⟩
          · rcases br_el h with ⟨c5, h⟩ | ⟨c5, h⟩
            · rcases hrf _ _ _ _ _ _ _ (by assumption) h with ⟨r19, u19, h, e6_1⟩ | ⟨u, h, e6_0⟩
              · obtain ⟨k7, h⟩ := h
                rcases fw_Gr_readBranches_L96 (T := T) hrf k7 _ _ _ _ _ _ _ _ _ _ (by assumption) h with ⟨z_this, z_this_names, z_this_nodes, z_this_words, x1, x2, x3, h, e7_3⟩ | ⟨w7_0, w7_1, h, e7_1⟩ | ⟨w7_0, h, e7_0⟩
                · exact Or.inl ⟨_, _, h, (by assumption)⟩
                · exact Or.inl ⟨_, _, h, (by assumption)⟩
                · exact Or.inr (⟨_, h, (by assumption)⟩)
              · exact Or.inr (⟨_, h, (by assumption)⟩)
            · exact Or.inl ⟨_, _, h, (by assumption)⟩
      · exact Or.inr (⟨_, h, (by assumption)⟩)
    · exact Or.inr (⟨_, h, (by assumption)⟩)
  · rcases br_el h with ⟨c1, h⟩ | ⟨c1, h⟩
    · rcases hrf _ _ _ _ _ _ _ (by assumption) h with ⟨r1, u1, h, e2_1⟩ | ⟨u, h, e2_0⟩
      · rcases br_el h with ⟨c3, h⟩ | ⟨c3, h⟩
        · rcases fw_Gr_take (T := T) (by assumption) h with ⟨r7, u7, h, e4_1⟩ | ⟨u, h, e4_0⟩
          · rcases hrf _ _ _ _ _ _ _ (by assumption) h with ⟨r8, u8, h, e5_1⟩ | ⟨u, h, e5_0⟩
            · exact Or.inl ⟨_, _, h, (by assumption)⟩
            · exact Or.inr (⟨_, h, (by assumption)⟩)
          · exact Or.inr (⟨_, h, (by assumption)⟩)
        · rcases br_el h with ⟨c4, h⟩ | ⟨c4, h⟩
          · rcases br_el h with ⟨c5, h⟩ | ⟨c5, h⟩
            · rcases fw_Gr_pass (T := T) (by assumption) h with ⟨r5, u5, h, e6_1⟩ | ⟨u, h, e6_0⟩
              · rcases hrf _ _ _ _ _ _ _ (by assumption) h with ⟨r6, u6, h, e7_1⟩ | ⟨u, h, e7_0⟩
                · exact Or.inl ⟨_, _, h, (by assumption)⟩
                · exact Or.inr (⟨_, h, (by assumption)⟩)
              · exact Or.inr (⟨_, h, (by assumption)⟩)
            · rcases br_el h with ⟨c6, h⟩ | ⟨c6, h⟩
              · rcases hrf _ _ _ _ _ _ _ (by assumption) h with ⟨r4, u4, h, e7_1⟩ | ⟨u, h, e7_0⟩
                · obtain ⟨k8, h⟩ := h
                  rcases fw_Gr_readBranches_L96 (T := T) hrf k8 _ _ _ _ _ _ _ _ _ _ (by assumption) h with ⟨z_this, z_this_names, z_this_nodes, z_this_words, x1, x2, x3, h, e8_3⟩ | ⟨w8_0, w8_1, h, e8_1⟩ | ⟨w8_0, h, e8_0⟩
                  · exact Or.inl ⟨_, _, h, (by assumption)⟩
                  · exact Or.inl ⟨_, _, h, (by assumption)⟩
                  · exact Or.inr (⟨_, h, (by assumption)⟩)
                · exact Or.inr (⟨_, h, (by assumption)⟩)
              · exact Or.inl ⟨_, _, h, (by assumption)⟩
          · rcases br_el h with ⟨c5, h⟩ | ⟨c5, h⟩
            · rcases hrf _ _ _ _ _ _ _ (by assumption) h with ⟨r2, u2, h, e6_1⟩ | ⟨u, h, e6_0⟩
              · obtain ⟨k7, h⟩ := h
                rcases fw_Gr_readBranches_L96 (T := T) hrf k7 _ _ _ _ _ _ _ _ _ _ (by assumption) h with ⟨z_this, z_this_names, z_this_nodes, z_this_words, x1, x2, x3, h, e7_3⟩ | ⟨w7_0, w7_1, h, e7_1⟩ | ⟨w7_0, h, e7_0⟩
                · exact Or.inl ⟨_, _, h, (by assumption)⟩
                · exact Or.inl ⟨_, _, h, (by assumption)⟩
                · exact Or.inr (⟨_, h, (by assumption)⟩)
              · exact Or.inr (⟨_, h, (by assumption)⟩)
            · exact Or.inl ⟨_, _, h, (by assumption)⟩
      · exact Or.inr (⟨_, h, (by assumption)⟩)
    · rcases fw_Gr_readTest (T := T) (fw_Gr_readFactor d) (by assumption) h with ⟨r9, u9, h, e2_1⟩ | ⟨u, h, e2_0⟩
      · rcases hrf _ _ _ _ _ _ _ (by assumption) h with ⟨r10, u10, h, e3_1⟩ | ⟨u, h, e3_0⟩
        · rcases br_el h with ⟨c4, h⟩ | ⟨c4, h⟩
          · rcases fw_Gr_take (T := T) (by assumption) h with ⟨r15, u15, h, e5_1⟩ | ⟨u, h, e5_0⟩
            · rcases hrf _ _ _ _ _ _ _ (by assumption) h with ⟨r16, u16, h, e6_1⟩ | ⟨u, h, e6_0⟩
              · exact Or.inl ⟨_, _, h, (by assumption)⟩
              · exact Or.inr (⟨_, h, (by assumption)⟩)
            · exact Or.inr (⟨_, h, (by assumption)⟩)
          · rcases br_el h with ⟨c5, h⟩ | ⟨c5, h⟩
            · rcases br_el h with ⟨c6, h⟩ | ⟨c6, h⟩
              · rcases fw_Gr_pass (T := T) (by assumption) h with ⟨r13, u13, h, e7_1⟩ | ⟨u, h, e7_0⟩
                · rcases hrf _ _ _ _ _ _ _ (by assumption) h with ⟨r14, u14, h, e8_1⟩ | ⟨u, h, e8_0⟩
                  · exact Or.inl ⟨_, _, h, (by assumption)⟩
                  · exact Or.inr (⟨_, h, (by assumption)⟩)
                · exact Or.inr (⟨_, h, (by assumption)⟩)
              · rcases br_el h with ⟨c7, h⟩ | ⟨c7, h⟩
                · rcases hrf _ _ _ _ _ _ _ (by assumption) h with ⟨r12, u12, h, e8_1⟩ | ⟨u, h, e8_0⟩
                  · obtain ⟨k9, h⟩ := h
                    rcases fw_Gr_readBranches_L96 (T := T) hrf k9 _ _ _ _ _ _ _ _ _ _ (by assumption) h with ⟨z_this, z_this_names, z_this_nodes, z_this_words, x1, x2, x3, h, e9_3⟩ | ⟨w9_0, w9_1, h, e9_1⟩ | ⟨w9_0, h, e9_0⟩
                    · exact Or.inl ⟨_, _, h, (by assumption)⟩
                    · exact Or.inl ⟨_, _, h, (by assumption)⟩
                    · exact Or.inr (⟨_, h, (by assumption)⟩)
                  · exact Or.inr (⟨_, h, (by assumption)⟩)
                · exact Or.inl ⟨_, _, h, (by assumption)⟩
            · rcases br_el h with ⟨c6, h⟩ | ⟨c6, h⟩
              · rcases hrf _ _ _ _ _ _ _ (by assumption) h with ⟨r11, u11, h, e7_1⟩ | ⟨u, h, e7_0⟩
                · obtain ⟨k8, h⟩ := h
                  rcases fw_Gr_readBranches_L96 (T := T) hrf k8 _ _ _ _ _ _ _ _ _ _ (by assumption) h with ⟨z_this, z_this_names, z_this_nodes, z_this_words, x1, x2, x3, h, e8_3⟩ | ⟨w8_0, w8_1, h, e8_1⟩ | ⟨w8_0, h, e8_0⟩
                  · exact Or.inl ⟨_, _, h, (by assumption)⟩
                  · exact Or.inl ⟨_, _, h, (by assumption)⟩
                  · exact Or.inr (⟨_, h, (by assumption)⟩)
                · exact Or.inr (⟨_, h, (by assumption)⟩)
              · exact Or.inl ⟨_, _, h, (by assumption)⟩
        · exact Or.inr (⟨_, h, (by assumption)⟩)
      · exact Or.inr (⟨_, h, (by assumption)⟩)
set_option maxHeartbeats 2000000 in
theorem fw_Gr_readStatement {T : Nat → Int32} {d : Nat} {rf : T_Gr → T_Nm → T_Nd → T_Wd → Int32 → (Unit → T_Gr × T_Nm × T_Nd × T_Wd → Prop) → (T_Gr × T_Nm × T_Nd × T_Wd → Prop) → Prop} {z_this : T_Gr} {z_this_names : T_Nm} {z_this_nodes : T_Nd} {z_this_words : T_Wd} {a1 : Int32} (hrf : ∀ (v0 : T_Gr) (v1 : T_Nm) (v2 : T_Nd) (v3 : T_Wd) (v4 : Int32) (post : (Unit → T_Gr × T_Nm × T_Nd × T_Wd → Prop)) (postT : (T_Gr × T_Nm × T_Nd × T_Wd → Prop)), v3.1 = T → rf v0 v1 v2 v3 v4 post postT → (∃ (w0 : Unit) (w1 : T_Gr × T_Nm × T_Nd × T_Wd), post w0 w1 ∧ w1.2.2.2.1 = T) ∨ (∃ (w0 : T_Gr × T_Nm × T_Nd × T_Wd), postT w0 ∧ w0.2.2.2.1 = T)) {post : Unit → T_Gr × T_Nm × T_Nd × T_Wd → Prop} {postT : T_Gr × T_Nm × T_Nd × T_Wd → Prop} (e0 : z_this_words.1 = T) (h : wp_Gr_readStatement d rf z_this z_this_names z_this_nodes z_this_words a1 post postT) : (∃ (w0 : Unit) (w1 : T_Gr × T_Nm × T_Nd × T_Wd), post w0 w1 ∧ w1.2.2.2.1 = T) ∨ (∃ (w0 : T_Gr × T_Nm × T_Nd × T_Wd), postT w0 ∧ w0.2.2.2.1 = T) := by
  unfold wp_Gr_readStatement at h
  obtain ⟨r1, u1, -, qb0⟩ := dt_Nd_count h
  replace h := qb0 _ h
  rcases fw_Gr_pass (T := T) (by assumption) h with ⟨r2, u2, h, e1_1⟩ | ⟨u, h, e1_0⟩
  · rcases Classical.em (((z_this_words.2.2.2.2.2.2.2.2.2.2.1 - (200 : Int32)) + (10 : Int32)) = (10 : Int32)) with c2_0 | c2_0
    · replace h := (h).1 c2_0
      rcases fw_Gr_readName (T := T) (by assumption) h with ⟨r3, u3, h, e3_1⟩ | ⟨u, h, e3_0⟩
      · obtain ⟨r4, u4, -, qb4⟩ := dt_Nm_use h
        replace h := qb4 _ h
        obtain ⟨r5, u5, -, qb5⟩ := dt_Nm_measureOf h
        replace h := qb5 _ h
        rcases fw_Gr_readSumOf (T := T) (fw_Gr_readFactor d) (by assumption) h with ⟨r6, u6, h, e6_1⟩ | ⟨u, h, e6_0⟩
        · rcases br_el h with ⟨c7, h⟩ | ⟨c7, h⟩
          · rcases fw_Gr_take (T := T) (by assumption) h with ⟨r11, u11, h, e8_1⟩ | ⟨u, h, e8_0⟩
            · rcases fw_Gr_readSumOf (T := T) (fw_Gr_readFactor d) (by assumption) h with ⟨r12, u12, h, e9_1⟩ | ⟨u, h, e9_0⟩
              · obtain ⟨r13, u13, -, qb10⟩ := dt_Nd_endsWithSemicolon h
                replace h := qb10 _ h
                rcases br_el h with ⟨c11, h⟩ | ⟨c11, h⟩
                · obtain ⟨r14, u14, -, qb12⟩ := dt_Nd_add h
                  replace h := qb12 _ h
                  exact Or.inl ⟨_, _, h, (by assumption)⟩
                · rcases fw_Gr_take (T := T) (by assumption) h with ⟨r15, u15, h, e12_1⟩ | ⟨u, h, e12_0⟩
                  · obtain ⟨r16, u16, -, qb13⟩ := dt_Nd_add h
                    replace h := qb13 _ h
                    exact Or.inl ⟨_, _, h, (by assumption)⟩
                  · exact Or.inr (⟨_, h, (by assumption)⟩)
              · exact Or.inr (⟨_, h, (by assumption)⟩)
            · exact Or.inr (⟨_, h, (by assumption)⟩)
          · obtain ⟨r7, u7, -, qb8⟩ := dt_Nd_endsWithSemicolon h
            replace h := qb8 _ h
            rcases br_el h with ⟨c9, h⟩ | ⟨c9, h⟩
            · obtain ⟨r8, u8, -, qb10⟩ := dt_Nd_add h
              replace h := qb10 _ h
              exact Or.inl ⟨_, _, h, (by assumption)⟩
            · rcases fw_Gr_take (T := T) (by assumption) h with ⟨r9, u9, h, e10_1⟩ | ⟨u, h, e10_0⟩
              · obtain ⟨r10, u10, -, qb11⟩ := dt_Nd_add h
                replace h := qb11 _ h
                exact Or.inl ⟨_, _, h, (by assumption)⟩
              · exact Or.inr (⟨_, h, (by assumption)⟩)
        · exact Or.inr (⟨_, h, (by assumption)⟩)
      · exact Or.inr (⟨_, h, (by assumption)⟩)
    · rcases Classical.em (((z_this_words.2.2.2.2.2.2.2.2.2.2.1 - (200 : Int32)) + (10 : Int32)) = (11 : Int32)) with c2_1 | c2_1
      · replace h := (h).2.1 c2_1
        rcases fw_Gr_readSumOf (T := T) (fw_Gr_readFactor d) (by assumption) h with ⟨r17, u17, h, e3_1⟩ | ⟨u, h, e3_0⟩
        · obtain ⟨r18, u18, -, qb4⟩ := dt_Nd_endsWithSemicolon h
          replace h := qb4 _ h
          rcases br_el h with ⟨c5, h⟩ | ⟨c5, h⟩
          · obtain ⟨r19, u19, -, qb6⟩ := dt_Nd_add h
            replace h := qb6 _ h
            exact Or.inl ⟨_, _, h, (by assumption)⟩
          · rcases fw_Gr_take (T := T) (by assumption) h with ⟨r20, u20, h, e6_1⟩ | ⟨u, h, e6_0⟩
            · obtain ⟨r21, u21, -, qb7⟩ := dt_Nd_add h
              replace h := qb7 _ h
              exact Or.inl ⟨_, _, h, (by assumption)⟩
            · exact Or.inr (⟨_, h, (by assumption)⟩)
        · exact Or.inr (⟨_, h, (by assumption)⟩)
      · rcases Classical.em (((z_this_words.2.2.2.2.2.2.2.2.2.2.1 - (200 : Int32)) + (10 : Int32)) = (12 : Int32)) with c2_2 | c2_2
        · replace h := (h).2.2.1 c2_2
          rcases fw_Gr_readTest (T := T) (fw_Gr_readFactor d) (by assumption) h with ⟨r22, u22, h, e3_1⟩ | ⟨u, h, e3_0⟩
          · obtain ⟨r23, u23, -, qb4⟩ := dt_Nd_endsWithSemicolon h
            replace h := qb4 _ h
            rcases br_el h with ⟨c5, h⟩ | ⟨c5, h⟩
            · obtain ⟨r24, u24, -, qb6⟩ := dt_Nd_add h
              replace h := qb6 _ h
              exact Or.inl ⟨_, _, h, (by assumption)⟩
            · rcases fw_Gr_take (T := T) (by assumption) h with ⟨r25, u25, h, e6_1⟩ | ⟨u, h, e6_0⟩
              · obtain ⟨r26, u26, -, qb7⟩ := dt_Nd_add h
                replace h := qb7 _ h
                exact Or.inl ⟨_, _, h, (by assumption)⟩
              · exact Or.inr (⟨_, h, (by assumption)⟩)
          · exact Or.inr (⟨_, h, (by assumption)⟩)
        · rcases Classical.em (((z_this_words.2.2.2.2.2.2.2.2.2.2.1 - (200 : Int32)) + (10 : Int32)) = (13 : Int32)) with c2_3 | c2_3
          · replace h := (h).2.2.2.1 c2_3
            rcases fw_Gr_readName (T := T) (by assumption) h with ⟨r27, u27, h, e3_1⟩ | ⟨u, h, e3_0⟩
            · obtain ⟨r28, u28, -, qb4⟩ := dt_Nm_use h
              replace h := qb4 _ h
              obtain ⟨r29, u29, -, qb5⟩ := dt_Nm_measureOf h
              replace h := qb5 _ h
              rcases fw_Gr_readSumOf (T := T) (fw_Gr_readFactor d) (by assumption) h with ⟨r30, u30, h, e6_1⟩ | ⟨u, h, e6_0⟩
              · rcases br_el h with ⟨c7, h⟩ | ⟨c7, h⟩
                · rcases fw_Gr_take (T := T) (by assumption) h with ⟨r35, u35, h, e8_1⟩ | ⟨u, h, e8_0⟩
                  · rcases fw_Gr_readSumOf (T := T) (fw_Gr_readFactor d) (by assumption) h with ⟨r36, u36, h, e9_1⟩ | ⟨u, h, e9_0⟩
                    · obtain ⟨r37, u37, -, qb10⟩ := dt_Nd_endsWithSemicolon h
                      replace h := qb10 _ h
                      rcases br_el h with ⟨c11, h⟩ | ⟨c11, h⟩
                      · obtain ⟨r38, u38, -, qb12⟩ := dt_Nd_add h
                        replace h := qb12 _ h
                        exact Or.inl ⟨_, _, h, (by assumption)⟩
                      · rcases fw_Gr_take (T := T) (by assumption) h with ⟨r39, u39, h, e12_1⟩ | ⟨u, h, e12_0⟩
                        · obtain ⟨r40, u40, -, qb13⟩ := dt_Nd_add h
                          replace h := qb13 _ h
                          exact Or.inl ⟨_, _, h, (by assumption)⟩
                        · exact Or.inr (⟨_, h, (by assumption)⟩)
                    · exact Or.inr (⟨_, h, (by assumption)⟩)
                  · exact Or.inr (⟨_, h, (by assumption)⟩)
                · obtain ⟨r31, u31, -, qb8⟩ := dt_Nd_endsWithSemicolon h
                  replace h := qb8 _ h
                  rcases br_el h with ⟨c9, h⟩ | ⟨c9, h⟩
                  · obtain ⟨r32, u32, -, qb10⟩ := dt_Nd_add h
                    replace h := qb10 _ h
                    exact Or.inl ⟨_, _, h, (by assumption)⟩
                  · rcases fw_Gr_take (T := T) (by assumption) h with ⟨r33, u33, h, e10_1⟩ | ⟨u, h, e10_0⟩
                    · obtain ⟨r34, u34, -, qb11⟩ := dt_Nd_add h
                      replace h := qb11 _ h
                      exact Or.inl ⟨_, _, h, (by assumption)⟩
                    · exact Or.inr (⟨_, h, (by assumption)⟩)
              · exact Or.inr (⟨_, h, (by assumption)⟩)
            · exact Or.inr (⟨_, h, (by assumption)⟩)
          · rcases Classical.em (((z_this_words.2.2.2.2.2.2.2.2.2.2.1 - (200 : Int32)) + (10 : Int32)) = (14 : Int32)) with c2_4 | c2_4
            · replace h := (h).2.2.2.2.1 c2_4
              rcases fw_Gr_readBranches (T := T) hrf (by assumption) h with ⟨r41, u41, h, e3_1⟩ | ⟨u, h, e3_0⟩
              · obtain ⟨r42, u42, -, qb4⟩ := dt_Nd_endsWithSemicolon h
                replace h := qb4 _ h
                rcases br_el h with ⟨c5, h⟩ | ⟨c5, h⟩
                · obtain ⟨r43, u43, -, qb6⟩ := dt_Nd_add h
                  replace h := qb6 _ h
                  exact Or.inl ⟨_, _, h, (by assumption)⟩
                · rcases fw_Gr_take (T := T) (by assumption) h with ⟨r44, u44, h, e6_1⟩ | ⟨u, h, e6_0⟩
                  · obtain ⟨r45, u45, -, qb7⟩ := dt_Nd_add h
                    replace h := qb7 _ h
                    exact Or.inl ⟨_, _, h, (by assumption)⟩
                  · exact Or.inr (⟨_, h, (by assumption)⟩)
              · exact Or.inr (⟨_, h, (by assumption)⟩)
            · rcases Classical.em (((z_this_words.2.2.2.2.2.2.2.2.2.2.1 - (200 : Int32)) + (10 : Int32)) = (15 : Int32)) with c2_5 | c2_5
              · replace h := (h).2.2.2.2.2.1 c2_5
                rcases fw_Gr_readBranches (T := T) hrf (by assumption) h with ⟨r46, u46, h, e3_1⟩ | ⟨u, h, e3_0⟩
                · obtain ⟨r47, u47, -, qb4⟩ := dt_Nd_endsWithSemicolon h
                  replace h := qb4 _ h
                  rcases br_el h with ⟨c5, h⟩ | ⟨c5, h⟩
                  · obtain ⟨r48, u48, -, qb6⟩ := dt_Nd_add h
                    replace h := qb6 _ h
                    exact Or.inl ⟨_, _, h, (by assumption)⟩
                  · rcases fw_Gr_take (T := T) (by assumption) h with ⟨r49, u49, h, e6_1⟩ | ⟨u, h, e6_0⟩
                    · obtain ⟨r50, u50, -, qb7⟩ := dt_Nd_add h
                      replace h := qb7 _ h
                      exact Or.inl ⟨_, _, h, (by assumption)⟩
                    · exact Or.inr (⟨_, h, (by assumption)⟩)
                · exact Or.inr (⟨_, h, (by assumption)⟩)
              · rcases Classical.em (((z_this_words.2.2.2.2.2.2.2.2.2.2.1 - (200 : Int32)) + (10 : Int32)) = (16 : Int32)) with c2_6 | c2_6
                · replace h := (h).2.2.2.2.2.2.1 c2_6
                  rcases fw_Gr_readBranches (T := T) hrf (by assumption) h with ⟨r51, u51, h, e3_1⟩ | ⟨u, h, e3_0⟩
                  · obtain ⟨r52, u52, -, qb4⟩ := dt_Nd_endsWithSemicolon h
                    replace h := qb4 _ h
                    rcases br_el h with ⟨c5, h⟩ | ⟨c5, h⟩
                    · obtain ⟨r53, u53, -, qb6⟩ := dt_Nd_add h
                      replace h := qb6 _ h
                      exact Or.inl ⟨_, _, h, (by assumption)⟩
                    · rcases fw_Gr_take (T := T) (by assumption) h with ⟨r54, u54, h, e6_1⟩ | ⟨u, h, e6_0⟩
                      · obtain ⟨r55, u55, -, qb7⟩ := dt_Nd_add h
                        replace h := qb7 _ h
                        exact Or.inl ⟨_, _, h, (by assumption)⟩
                      · exact Or.inr (⟨_, h, (by assumption)⟩)
                  · exact Or.inr (⟨_, h, (by assumption)⟩)
                · rcases Classical.em (((z_this_words.2.2.2.2.2.2.2.2.2.2.1 - (200 : Int32)) + (10 : Int32)) = (17 : Int32)) with c2_7 | c2_7
                  · replace h := (h).2.2.2.2.2.2.2.1 c2_7
                    rcases fw_Gr_readBranches (T := T) hrf (by assumption) h with ⟨r56, u56, h, e3_1⟩ | ⟨u, h, e3_0⟩
                    · obtain ⟨r57, u57, -, qb4⟩ := dt_Nd_endsWithSemicolon h
                      replace h := qb4 _ h
                      rcases br_el h with ⟨c5, h⟩ | ⟨c5, h⟩
                      · obtain ⟨r58, u58, -, qb6⟩ := dt_Nd_add h
                        replace h := qb6 _ h
                        exact Or.inl ⟨_, _, h, (by assumption)⟩
                      · rcases fw_Gr_take (T := T) (by assumption) h with ⟨r59, u59, h, e6_1⟩ | ⟨u, h, e6_0⟩
                        · obtain ⟨r60, u60, -, qb7⟩ := dt_Nd_add h
                          replace h := qb7 _ h
                          exact Or.inl ⟨_, _, h, (by assumption)⟩
                        · exact Or.inr (⟨_, h, (by assumption)⟩)
                    · exact Or.inr (⟨_, h, (by assumption)⟩)
                  · rcases Classical.em (((z_this_words.2.2.2.2.2.2.2.2.2.2.1 - (200 : Int32)) + (10 : Int32)) = (18 : Int32)) with c2_8 | c2_8
                    · replace h := (h).2.2.2.2.2.2.2.2.1 c2_8
                      rcases fw_Gr_readName (T := T) (by assumption) h with ⟨r61, u61, h, e3_1⟩ | ⟨u, h, e3_0⟩
                      · obtain ⟨r62, u62, -, qb4⟩ := dt_Nm_use h
                        replace h := qb4 _ h
                        obtain ⟨r63, u63, -, qb5⟩ := dt_Nd_endsWithSemicolon h
                        replace h := qb5 _ h
                        rcases br_el h with ⟨c6, h⟩ | ⟨c6, h⟩
                        · obtain ⟨r64, u64, -, qb7⟩ := dt_Nd_add h
                          replace h := qb7 _ h
                          exact Or.inl ⟨_, _, h, (by assumption)⟩
                        · rcases fw_Gr_take (T := T) (by assumption) h with ⟨r65, u65, h, e7_1⟩ | ⟨u, h, e7_0⟩
                          · obtain ⟨r66, u66, -, qb8⟩ := dt_Nd_add h
                            replace h := qb8 _ h
                            exact Or.inl ⟨_, _, h, (by assumption)⟩
                          · exact Or.inr (⟨_, h, (by assumption)⟩)
                      · exact Or.inr (⟨_, h, (by assumption)⟩)
                    · rcases Classical.em (((z_this_words.2.2.2.2.2.2.2.2.2.2.1 - (200 : Int32)) + (10 : Int32)) = (19 : Int32)) with c2_9 | c2_9
                      · replace h := (h).2.2.2.2.2.2.2.2.2.1 c2_9
                        rcases fw_Gr_readName (T := T) (by assumption) h with ⟨r67, u67, h, e3_1⟩ | ⟨u, h, e3_0⟩
                        · obtain ⟨r68, u68, -, qb4⟩ := dt_Nd_endsWithSemicolon h
                          replace h := qb4 _ h
                          rcases br_el h with ⟨c5, h⟩ | ⟨c5, h⟩
                          · obtain ⟨r69, u69, -, qb6⟩ := dt_Nd_add h
                            replace h := qb6 _ h
                            exact Or.inl ⟨_, _, h, (by assumption)⟩
                          · rcases fw_Gr_take (T := T) (by assumption) h with ⟨r70, u70, h, e6_1⟩ | ⟨u, h, e6_0⟩
                            · obtain ⟨r71, u71, -, qb7⟩ := dt_Nd_add h
                              replace h := qb7 _ h
                              exact Or.inl ⟨_, _, h, (by assumption)⟩
                            · exact Or.inr (⟨_, h, (by assumption)⟩)
                        · exact Or.inr (⟨_, h, (by assumption)⟩)
                      · rcases Classical.em (((z_this_words.2.2.2.2.2.2.2.2.2.2.1 - (200 : Int32)) + (10 : Int32)) = (22 : Int32)) with c2_10 | c2_10
                        · replace h := (h).2.2.2.2.2.2.2.2.2.2.1 c2_10
                          rcases fw_Gr_readAct (T := T) (by assumption) h with ⟨r72, u72, h, e3_1⟩ | ⟨u, h, e3_0⟩
                          · obtain ⟨r73, u73, -, qb4⟩ := dt_Nd_endsWithSemicolon h
                            replace h := qb4 _ h
                            rcases br_el h with ⟨c5, h⟩ | ⟨c5, h⟩
                            · obtain ⟨r74, u74, -, qb6⟩ := dt_Nd_add h
                              replace h := qb6 _ h
                              exact Or.inl ⟨_, _, h, (by assumption)⟩
                            · rcases fw_Gr_take (T := T) (by assumption) h with ⟨r75, u75, h, e6_1⟩ | ⟨u, h, e6_0⟩
                              · obtain ⟨r76, u76, -, qb7⟩ := dt_Nd_add h
                                replace h := qb7 _ h
                                exact Or.inl ⟨_, _, h, (by assumption)⟩
                              · exact Or.inr (⟨_, h, (by assumption)⟩)
                          · exact Or.inr (⟨_, h, (by assumption)⟩)
                        · replace h := (h).2.2.2.2.2.2.2.2.2.2.2 ⟨c2_0, c2_1, c2_2, c2_3, c2_4, c2_5, c2_6, c2_7, c2_8, c2_9, c2_10⟩
                          obtain ⟨r85, u85, -, qb3⟩ := dt_Nd_endsWithSemicolon h
                          replace h := qb3 _ h
                          rcases br_el h with ⟨c4, h⟩ | ⟨c4, h⟩
                          · obtain ⟨r86, u86, -, qb5⟩ := dt_Nd_add h
                            replace h := qb5 _ h
                            exact Or.inl ⟨_, _, h, (by assumption)⟩
                          · rcases fw_Gr_take (T := T) (by assumption) h with ⟨r87, u87, h, e5_1⟩ | ⟨u, h, e5_0⟩
                            · obtain ⟨r88, u88, -, qb6⟩ := dt_Nd_add h
                              replace h := qb6 _ h
                              exact Or.inl ⟨_, _, h, (by assumption)⟩
                            · exact Or.inr (⟨_, h, (by assumption)⟩)
  · exact Or.inr (⟨_, h, (by assumption)⟩)
set_option maxHeartbeats 2000000 in
theorem fw_Gr_readBlock_L30 {T : Nat → Int32} {d : Nat} {rf : T_Gr → T_Nm → T_Nd → T_Wd → Int32 → (Unit → T_Gr × T_Nm × T_Nd × T_Wd → Prop) → (T_Gr × T_Nm × T_Nd × T_Wd → Prop) → Prop} (hrf : ∀ (v0 : T_Gr) (v1 : T_Nm) (v2 : T_Nd) (v3 : T_Wd) (v4 : Int32) (post : (Unit → T_Gr × T_Nm × T_Nd × T_Wd → Prop)) (postT : (T_Gr × T_Nm × T_Nd × T_Wd → Prop)), v3.1 = T → rf v0 v1 v2 v3 v4 post postT → (∃ (w0 : Unit) (w1 : T_Gr × T_Nm × T_Nd × T_Wd), post w0 w1 ∧ w1.2.2.2.1 = T) ∨ (∃ (w0 : T_Gr × T_Nm × T_Nd × T_Wd), postT w0 ∧ w0.2.2.2.1 = T)) : ∀ (n9 : Nat) (z_this : T_Gr) (z_this_names : T_Nm) (z_this_nodes : T_Nd) (z_this_words : T_Wd) (x1 : Int32) (x2 : Int32) (x3 : Int32) (x4 : Int32) (K : T_Gr → T_Nm → T_Nd → T_Wd → Int32 → Int32 → Int32 → Int32 → Prop) (post : Unit → T_Gr × T_Nm × T_Nd × T_Wd → Prop) (postT : T_Gr × T_Nm × T_Nd × T_Wd → Prop), z_this_words.1 = T → wp_Gr_readBlock_L30 d rf K post postT n9 z_this z_this_names z_this_nodes z_this_words x1 x2 x3 x4 → (∃ (w0 : T_Gr) (w1 : T_Nm) (w2 : T_Nd) (w3 : T_Wd) (w4 : Int32) (w5 : Int32) (w6 : Int32) (w7 : Int32), K w0 w1 w2 w3 w4 w5 w6 w7 ∧ w3.1 = T) ∨ (∃ (w0 : Unit) (w1 : T_Gr × T_Nm × T_Nd × T_Wd), post w0 w1 ∧ w1.2.2.2.1 = T) ∨ (∃ (w0 : T_Gr × T_Nm × T_Nd × T_Wd), postT w0 ∧ w0.2.2.2.1 = T) := by
  intro n9
  induction n9 with
  | zero => intro z_this z_this_names z_this_nodes z_this_words x1 x2 x3 x4 K post postT e0 h; exact False.elim h
  | succ n9 ih =>
    intro z_this z_this_names z_this_nodes z_this_words x1 x2 x3 x4 K post postT e0 h
    rw [wp_Gr_readBlock_L30] at h
    rcases br_el h with ⟨c0, h⟩ | ⟨c0, h⟩
    · exact Or.inl ⟨_, _, _, _, _, _, _, _, h, (by assumption)⟩
    · obtain ⟨r4, u4, -, qb1⟩ := dt_Gr_isBetween h
      replace h := qb1 _ h
      rcases br_el h with ⟨c2, h⟩ | ⟨c2, h⟩
      · exact Or.inl ⟨_, _, _, _, _, _, _, _, h, (by assumption)⟩
      · rcases fw_Gr_readStatement (T := T) hrf (by assumption) h with ⟨r5, u5, h, e3_1⟩ | ⟨u, h, e3_0⟩
        · rcases ih _ _ _ _ _ _ _ _ _ _ _ (by assumption) h with ⟨w4_0, w4_1, w4_2, w4_3, w4_4, w4_5, w4_6, w4_7, h, e4_3⟩ | ⟨w4_0, w4_1, h, e4_1⟩ | ⟨w4_0, h, e4_0⟩
          · exact Or.inl ⟨_, _, _, _, _, _, _, _, h, (by assumption)⟩
          · exact Or.inr (Or.inl ⟨_, _, h, (by assumption)⟩)
          · exact Or.inr (Or.inr (⟨_, h, (by assumption)⟩))
        · exact Or.inr (Or.inr (⟨_, h, (by assumption)⟩))
set_option maxHeartbeats 2000000 in
theorem fw_Gr_readBlock_F {T : Nat → Int32} {d : Nat} {rf : T_Gr → T_Nm → T_Nd → T_Wd → Int32 → (Unit → T_Gr × T_Nm × T_Nd × T_Wd → Prop) → (T_Gr × T_Nm × T_Nd × T_Wd → Prop) → Prop} {z_this : T_Gr} {z_this_names : T_Nm} {z_this_nodes : T_Nd} {z_this_words : T_Wd} {a1 : Int32} (hrf : ∀ (v0 : T_Gr) (v1 : T_Nm) (v2 : T_Nd) (v3 : T_Wd) (v4 : Int32) (post : (Unit → T_Gr × T_Nm × T_Nd × T_Wd → Prop)) (postT : (T_Gr × T_Nm × T_Nd × T_Wd → Prop)), v3.1 = T → rf v0 v1 v2 v3 v4 post postT → (∃ (w0 : Unit) (w1 : T_Gr × T_Nm × T_Nd × T_Wd), post w0 w1 ∧ w1.2.2.2.1 = T) ∨ (∃ (w0 : T_Gr × T_Nm × T_Nd × T_Wd), postT w0 ∧ w0.2.2.2.1 = T)) {post : Unit → T_Gr × T_Nm × T_Nd × T_Wd → Prop} {postT : T_Gr × T_Nm × T_Nd × T_Wd → Prop} (e0 : z_this_words.1 = T) (h : wp_Gr_readBlock_F d rf z_this z_this_names z_this_nodes z_this_words a1 post postT) : (∃ (w0 : Unit) (w1 : T_Gr × T_Nm × T_Nd × T_Wd), post w0 w1 ∧ w1.2.2.2.1 = T) ∨ (∃ (w0 : T_Gr × T_Nm × T_Nd × T_Wd), postT w0 ∧ w0.2.2.2.1 = T) := by
  unfold wp_Gr_readBlock_F at h
  obtain ⟨r1, u1, -, qb0⟩ := dt_Nd_count h
  replace h := qb0 _ h
  rcases dt_Gr_refuseOneMore h with ⟨r2, u2, -, qb1⟩ | ⟨u, -, qb1⟩
  · replace h := qb1 _ _ h
    rcases fw_Gr_take (T := T) (by assumption) h with ⟨r3, u3, h, e2_1⟩ | ⟨u, h, e2_0⟩
    · obtain ⟨k3, h⟩ := h
      rcases fw_Gr_readBlock_L30 (T := T) hrf k3 _ _ _ _ _ _ _ _ _ _ _ (by assumption) h with ⟨z_this, z_this_names, z_this_nodes, z_this_words, x1, x2, x3, x4, h, e3_3⟩ | ⟨w3_0, w3_1, h, e3_1⟩ | ⟨w3_0, h, e3_0⟩
      · rcases fw_Gr_take (T := T) (by assumption) h with ⟨r6, u6, h, e4_1⟩ | ⟨u, h, e4_0⟩
        · obtain ⟨r7, u7, -, qb5⟩ := dt_Nd_add h
          replace h := qb5 _ h
          exact Or.inl ⟨_, _, h, (by assumption)⟩
        · exact Or.inr (⟨_, h, (by assumption)⟩)
      · exact Or.inl ⟨_, _, h, (by assumption)⟩
      · exact Or.inr (⟨_, h, (by assumption)⟩)
    · exact Or.inr (⟨_, h, (by assumption)⟩)
  · replace h := qb1 _ _ h
    exact Or.inr (⟨_, h, (by assumption)⟩)
theorem fw_Gr_readBlock {T : Nat → Int32} (d : Nat) : ∀ (e : Nat), ∀ (v0 : T_Gr) (v1 : T_Nm) (v2 : T_Nd) (v3 : T_Wd) (v4 : Int32) (post : (Unit → T_Gr × T_Nm × T_Nd × T_Wd → Prop)) (postT : (T_Gr × T_Nm × T_Nd × T_Wd → Prop)), v3.1 = T → wp_Gr_readBlock d e v0 v1 v2 v3 v4 post postT → (∃ (w0 : Unit) (w1 : T_Gr × T_Nm × T_Nd × T_Wd), post w0 w1 ∧ w1.2.2.2.1 = T) ∨ (∃ (w0 : T_Gr × T_Nm × T_Nd × T_Wd), postT w0 ∧ w0.2.2.2.1 = T) := by
  intro e
  induction e with
  | zero => intro v0 v1 v2 v3 v4 post postT f0 h; exact False.elim h
  | succ e ih =>
    intro v0 v1 v2 v3 v4 post postT f0 h
    exact fw_Gr_readBlock_F ih f0 h
set_option maxHeartbeats 2000000 in
theorem fw_Gr_readInto_L22 {T : Nat → Int32} {d : Nat} {dB : Nat} {z_a1 : T_Pr} : ∀ (n9 : Nat) (z_a1_names : T_Nm) (z_a1_nodes : T_Nd) (z_this : T_Gr) (z_this_words : T_Wd) (x2 : Int32) (K : T_Nm → T_Nd → T_Gr → T_Wd → Int32 → Prop) (post : Unit → T_Nm × T_Nd × T_Gr × T_Wd → Prop) (postT : T_Nm × T_Nd × T_Gr × T_Wd → Prop), z_this_words.1 = T → wp_Gr_readInto_L22 d dB z_a1 K post postT n9 z_a1_names z_a1_nodes z_this z_this_words x2 → (∃ (w0 : T_Nm) (w1 : T_Nd) (w2 : T_Gr) (w3 : T_Wd) (w4 : Int32), K w0 w1 w2 w3 w4 ∧ w3.1 = T) ∨ (∃ (w0 : Unit) (w1 : T_Nm × T_Nd × T_Gr × T_Wd), post w0 w1 ∧ w1.2.2.2.1 = T) ∨ (∃ (w0 : T_Nm × T_Nd × T_Gr × T_Wd), postT w0 ∧ w0.2.2.2.1 = T) := by
  intro n9
  induction n9 with
  | zero => intro z_a1_names z_a1_nodes z_this z_this_words x2 K post postT e0 h; exact False.elim h
  | succ n9 ih =>
    intro z_a1_names z_a1_nodes z_this z_this_words x2 K post postT e0 h
    rw [wp_Gr_readInto_L22] at h
    rcases br_el h with ⟨c0, h⟩ | ⟨c0, h⟩
    · exact Or.inl ⟨_, _, _, _, _, h, (by assumption)⟩
    · obtain ⟨r4, u4, -, qb1⟩ := dt_Gr_isBetween h
      replace h := qb1 _ h
      rcases br_el h with ⟨c2, h⟩ | ⟨c2, h⟩
      · exact Or.inl ⟨_, _, _, _, _, h, (by assumption)⟩
      · rcases fw_Gr_readNewName (T := T) (by assumption) h with ⟨r5, u5, h, e3_1⟩ | ⟨u, h, e3_0⟩
        · rcases br_el h with ⟨c4, h⟩ | ⟨c4, h⟩
          · obtain ⟨r9, u9, -, qb5⟩ := dt_Nd_count h
            replace h := qb5 _ h
            rcases fw_Gr_readBlock (T := T) d dB _ _ _ _ _ _ _ (by assumption) h with ⟨r10, u10, h, e6_1⟩ | ⟨u, h, e6_0⟩
            · obtain ⟨r11, u11, -, qb7⟩ := dt_Nm_count h
              replace h := qb7 _ h
              obtain ⟨r12, u12, -, qb8⟩ := dt_Nd_add h
              replace h := qb8 _ h
              obtain ⟨r13, u13, -, qb9⟩ := dt_Nm_tell h
              replace h := qb9 _ h
              rcases ih _ _ _ _ _ _ _ _ (by assumption) h with ⟨w10_0, w10_1, w10_2, w10_3, w10_4, h, e10_3⟩ | ⟨w10_0, w10_1, h, e10_1⟩ | ⟨w10_0, h, e10_0⟩
              · exact Or.inl ⟨_, _, _, _, _, h, (by assumption)⟩
              · exact Or.inr (Or.inl ⟨_, _, h, (by assumption)⟩)
              · exact Or.inr (Or.inr (⟨_, h, (by assumption)⟩))
            · exact Or.inr (Or.inr (⟨_, h, (by assumption)⟩))
          · rcases fw_Gr_readUnit (T := T) (by assumption) h with ⟨r6, u6, h, e5_1⟩ | ⟨u, h, e5_0⟩
            · rcases fw_Gr_take (T := T) (by assumption) h with ⟨r7, u7, h, e6_1⟩ | ⟨u, h, e6_0⟩
              · obtain ⟨r8, u8, -, qb7⟩ := dt_Nm_tell h
                replace h := qb7 _ h
                rcases ih _ _ _ _ _ _ _ _ (by assumption) h with ⟨w8_0, w8_1, w8_2, w8_3, w8_4, h, e8_3⟩ | ⟨w8_0, w8_1, h, e8_1⟩ | ⟨w8_0, h, e8_0⟩
                · exact Or.inl ⟨_, _, _, _, _, h, (by assumption)⟩
                · exact Or.inr (Or.inl ⟨_, _, h, (by assumption)⟩)
                · exact Or.inr (Or.inr (⟨_, h, (by assumption)⟩))
              · exact Or.inr (Or.inr (⟨_, h, (by assumption)⟩))
            · exact Or.inr (Or.inr (⟨_, h, (by assumption)⟩))
        · exact Or.inr (Or.inr (⟨_, h, (by assumption)⟩))
set_option maxHeartbeats 2000000 in
theorem fw_Gr_readInto_L147 {T : Nat → Int32} {d : Nat} {dB : Nat} {z_a1 : T_Pr} : ∀ (n9 : Nat) (z_a1_names : T_Nm) (z_a1_nodes : T_Nd) (z_this : T_Gr) (z_this_words : T_Wd) (x2 : Int32) (K : T_Nm → T_Nd → T_Gr → T_Wd → Int32 → Prop) (post : Unit → T_Nm × T_Nd × T_Gr × T_Wd → Prop) (postT : T_Nm × T_Nd × T_Gr × T_Wd → Prop), z_this_words.1 = T → wp_Gr_readInto_L147 d dB z_a1 K post postT n9 z_a1_names z_a1_nodes z_this z_this_words x2 → (∃ (w0 : T_Nm) (w1 : T_Nd) (w2 : T_Gr) (w3 : T_Wd) (w4 : Int32), K w0 w1 w2 w3 w4 ∧ w3.1 = T) ∨ (∃ (w0 : Unit) (w1 : T_Nm × T_Nd × T_Gr × T_Wd), post w0 w1 ∧ w1.2.2.2.1 = T) ∨ (∃ (w0 : T_Nm × T_Nd × T_Gr × T_Wd), postT w0 ∧ w0.2.2.2.1 = T) := by
  intro n9
  induction n9 with
  | zero => intro z_a1_names z_a1_nodes z_this z_this_words x2 K post postT e0 h; exact False.elim h
  | succ n9 ih =>
    intro z_a1_names z_a1_nodes z_this z_this_words x2 K post postT e0 h
    rw [wp_Gr_readInto_L147] at h
    rcases br_el h with ⟨c0, h⟩ | ⟨c0, h⟩
    · exact Or.inl ⟨_, _, _, _, _, h, (by assumption)⟩
    · obtain ⟨r14, u14, -, qb1⟩ := dt_Gr_isBetween h
      replace h := qb1 _ h
      rcases br_el h with ⟨c2, h⟩ | ⟨c2, h⟩
      · exact Or.inl ⟨_, _, _, _, _, h, (by assumption)⟩
      · rcases fw_Gr_readStatement (T := T) (fw_Gr_readBlock d dB) (by assumption) h with ⟨r15, u15, h, e3_1⟩ | ⟨u, h, e3_0⟩
        · rcases ih _ _ _ _ _ _ _ _ (by assumption) h with ⟨w4_0, w4_1, w4_2, w4_3, w4_4, h, e4_3⟩ | ⟨w4_0, w4_1, h, e4_1⟩ | ⟨w4_0, h, e4_0⟩
          · exact Or.inl ⟨_, _, _, _, _, h, (by assumption)⟩
          · exact Or.inr (Or.inl ⟨_, _, h, (by assumption)⟩)
          · exact Or.inr (Or.inr (⟨_, h, (by assumption)⟩))
        · exact Or.inr (Or.inr (⟨_, h, (by assumption)⟩))
set_option maxHeartbeats 2000000 in
theorem fw_Gr_readInto {T : Nat → Int32} {d : Nat} {dB : Nat} {z_a1 : T_Pr} {z_a1_names : T_Nm} {z_a1_nodes : T_Nd} {z_this : T_Gr} {z_this_words : T_Wd} {post : Unit → T_Nm × T_Nd × T_Gr × T_Wd → Prop} {postT : T_Nm × T_Nd × T_Gr × T_Wd → Prop} (e0 : z_this_words.1 = T) (h : wp_Gr_readInto d dB z_a1 z_a1_names z_a1_nodes z_this z_this_words post postT) : (∃ (w0 : Unit) (w1 : T_Nm × T_Nd × T_Gr × T_Wd), post w0 w1 ∧ w1.2.2.2.1 = T) ∨ (∃ (w0 : T_Nm × T_Nd × T_Gr × T_Wd), postT w0 ∧ w0.2.2.2.1 = T) := by
  unfold wp_Gr_readInto at h
  obtain ⟨r1, u1, -, qb0⟩ := dt_Pr_empty h
  replace h := qb0 _ h
  obtain ⟨r2, u2, -, qb1⟩ := dt_Pr_names h
  replace h := qb1 _ h
  obtain ⟨r3, u3, -, qb2⟩ := dt_Pr_nodes h
  replace h := qb2 _ h
  obtain ⟨k3, h⟩ := h
  rcases fw_Gr_readInto_L22 (T := T) k3 _ _ _ _ _ _ _ _ (by assumption) h with ⟨z_a1_names, z_a1_nodes, z_this, z_this_words, x2, h, e3_3⟩ | ⟨w3_0, w3_1, h, e3_1⟩ | ⟨w3_0, h, e3_0⟩
  · obtain ⟨k4, h⟩ := h
    rcases fw_Gr_readInto_L147 (T := T) k4 _ _ _ _ _ _ _ _ (by assumption) h with ⟨z_a1_names, z_a1_nodes, z_this, z_this_words, x2, h, e4_3⟩ | ⟨w4_0, w4_1, h, e4_1⟩ | ⟨w4_0, h, e4_0⟩
    · rcases fw_Gr_take (T := T) (by assumption) h with ⟨r16, u16, h, e5_1⟩ | ⟨u, h, e5_0⟩
      · obtain ⟨r17, u17, -, qb6⟩ := dt_Pr_finish h
        replace h := qb6 _ h
        exact Or.inl ⟨_, _, h, (by assumption)⟩
      · exact Or.inr (⟨_, h, (by assumption)⟩)
    · exact Or.inl ⟨_, _, h, (by assumption)⟩
    · exact Or.inr (⟨_, h, (by assumption)⟩)
  · exact Or.inl ⟨_, _, h, (by assumption)⟩
  · exact Or.inr (⟨_, h, (by assumption)⟩)
set_option maxHeartbeats 2000000 in
theorem fw_St_read {T : Nat → Int32} {d : Nat} {dB : Nat} {z_this : T_St} {z_this_grammar : T_Gr} {z_this_spare : T_Pr} {z_this_spare_names : T_Nm} {z_this_spare_nodes : T_Nd} {z_this_words : T_Wd} {z_this_words_keywords : T_Kw} {post : Int32 → T_St × T_Gr × T_Nm × T_Nd × T_Wd × Nat × Nat → Prop} (e0 : z_this_words.1 = T) (h : wp_St_read d dB z_this z_this_grammar z_this_spare z_this_spare_names z_this_spare_nodes z_this_words z_this_words_keywords post) : (∃ (w0 : Int32) (w1 : T_St × T_Gr × T_Nm × T_Nd × T_Wd × Nat × Nat), post w0 w1 ∧ w1.2.2.2.2.1.1 = T) := by
  unfold wp_St_read at h
  obtain ⟨r1, u1, h, e0_1⟩ := fw_Wd_split (T := T) (by assumption) h
  rcases fw_Gr_readInto (T := T) (by assumption) h with ⟨r2, u2, h, e1_1⟩ | ⟨u, h, e1_0⟩
  · obtain ⟨r3, u3, -, qb2⟩ := dt_Pr_nodes h
    replace h := qb2 _ h
    obtain ⟨r4, u4, -, qb3⟩ := dt_Nd_statements h
    replace h := qb3 _ h
    exact ⟨_, _, h, (by assumption)⟩
  · obtain ⟨r5, u5, -, qb2⟩ := dt_Gr_wrongPlace h
    replace h := qb2 _ h
    exact ⟨_, _, h, (by assumption)⟩
