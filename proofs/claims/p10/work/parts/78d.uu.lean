theorem UK_none {k : Int32} (h : ¬ k = 10 ∧ ¬ k = 11 ∧ ¬ k = 12 ∧ ¬ k = 13 ∧ ¬ k = 14 ∧ ¬ k = 15 ∧ ¬ k = 16 ∧ ¬ k = 17 ∧ ¬ k = 18 ∧ ¬ k = 19 ∧ ¬ k = 22) (h2 : (10 : Int32) ≤ k ∧ k ≤ 22) : ¬ UK2 k := by
  obtain ⟨a, -, -, b, -, -, -, -, c, d, -⟩ := h
  rintro ((q | q | q | q | q) | q)
  · rw [q] at h2; exact absurd h2.1 (by decide)
  · exact a q
  · exact b q
  · exact c q
  · exact d q
  · rw [q] at h2; exact absurd h2.2 (by decide)
theorem uu_between {g : T_Gr} {w : T_Wd} {a b : Int32} {P : Int32 → Unit → Prop} (h : wp_Gr_isBetween g w a b P) : ∃ r u, P r u ∧ (¬ r = 0 → a ≤ w.2.2.2.2.2.2.2.2.2.2.1 ∧ w.2.2.2.2.2.2.2.2.2.2.1 ≤ b) := by
  rcases iv_isBetween h with ⟨b, h⟩ | ⟨b, h⟩
  · exact ⟨_, _, h, fun _ => b⟩
  · exact ⟨_, _, h, fun q => absurd rfl q⟩
theorem kd_of {c r : Int32} (h : ¬ r = 0 → (200 : Int32) ≤ c ∧ c ≤ 212) (q : ¬ r = 0) : (10 : Int32) ≤ ((c - (200 : Int32)) + (10 : Int32)) ∧ ((c - (200 : Int32)) + (10 : Int32)) ≤ 22 := ⟨(K_of (h q).1 (h q).2).2.1, (K_of (h q).1 (h q).2).2.2.1⟩
set_option maxHeartbeats 4000000 in
theorem uu_Gr_readAmount {S : Nat → Int32} {C : Int32} {P : Nat → Prop} {nm0 : T_Nm} {z_this : T_Gr} {z_this_nodes : T_Nd} {z_this_words : T_Wd} {post : Int32 → T_Gr × T_Nd × T_Wd → Prop} {postT : T_Gr × T_Nd × T_Wd → Prop} (e0 : UV S C nm0 z_this_nodes P) (h : wp_Gr_readAmount z_this z_this_nodes z_this_words post postT) : (∃ (w0 : Int32) (w1 : T_Gr × T_Nd × T_Wd), post w0 w1 ∧ UV S C nm0 w1.2.1 P) ∨ (∃ (w0 : T_Gr × T_Nd × T_Wd), postT w0 ∧ True) := by
  unfold wp_Gr_readAmount at h
  rcases dt_Gr_pass h with ⟨r1, u1, -, qb0⟩ | ⟨u, -, qb0⟩
  · replace h := qb0 _ _ h
    obtain ⟨r2, u2, -, qb1⟩ := dt_Gr_measureHere h
    replace h := qb1 _ h
    obtain ⟨r3, u3, -, qb2⟩ := dt_Gr_isBetween h
    replace h := qb2 _ h
    rcases br_el h with ⟨c3, h⟩ | ⟨c3, h⟩
    · rcases br_el h with ⟨c4, h⟩ | ⟨c4, h⟩
      · rcases br_el h with ⟨c5, h⟩ | ⟨c5, h⟩
        · obtain ⟨r4, u4, -, qb6⟩ := dt_Nd_count h
          replace h := qb6 _ h
          obtain ⟨r5, u5, h, e7⟩ := uu_addV (by assumption) (by first | (unfold UK2 UK; decide) | assumption | exact Or.resolve_left (by assumption) (by assumption)) h
          exact Or.inl ⟨_, _, h, (by assumption)⟩
        · rcases dt_Gr_pass h with ⟨r6, u6, -, qb6⟩ | ⟨u, -, qb6⟩
          · replace h := qb6 _ _ h
            obtain ⟨r7, u7, -, qb7⟩ := dt_Nd_count h
            replace h := qb7 _ h
            obtain ⟨r8, u8, h, e8⟩ := uu_addV (by assumption) (by first | (unfold UK2 UK; decide) | assumption | exact Or.resolve_left (by assumption) (by assumption)) h
            exact Or.inl ⟨_, _, h, (by assumption)⟩
          · replace h := qb6 _ _ h
            exact Or.inr (⟨_, h, trivial⟩)
      · obtain ⟨u, -, qb5⟩ := dt_Gr_refuse h
        replace h := qb5 _ h
        exact Or.inr (⟨_, h, trivial⟩)
    · rcases br_el h with ⟨c4, h⟩ | ⟨c4, h⟩
      · rcases br_el h with ⟨c5, h⟩ | ⟨c5, h⟩
        · rcases br_el h with ⟨c6, h⟩ | ⟨c6, h⟩
          · exact absurd c6 (by decide)
          · rcases dt_Gr_pass h with ⟨r18, u18, -, qb7⟩ | ⟨u, -, qb7⟩
            · replace h := qb7 _ _ h
              obtain ⟨r19, u19, -, qb8⟩ := dt_Nd_count h
              replace h := qb8 _ h
              obtain ⟨r20, u20, h, e9⟩ := uu_addV (by assumption) (by first | (unfold UK2 UK; decide) | assumption | exact Or.resolve_left (by assumption) (by assumption)) h
              exact Or.inl ⟨_, _, h, (by assumption)⟩
            · replace h := qb7 _ _ h
              exact Or.inr (⟨_, h, trivial⟩)
        · obtain ⟨u, -, qb6⟩ := dt_Gr_refuse h
          replace h := qb6 _ h
          exact Or.inr (⟨_, h, trivial⟩)
      · rcases br_el h with ⟨c5, h⟩ | ⟨c5, h⟩
        · rcases br_el h with ⟨c6, h⟩ | ⟨c6, h⟩
          · exact absurd c6 (by decide)
          · rcases dt_Gr_pass h with ⟨r12, u12, -, qb7⟩ | ⟨u, -, qb7⟩
            · replace h := qb7 _ _ h
              obtain ⟨r13, u13, -, qb8⟩ := dt_Nd_count h
              replace h := qb8 _ h
              obtain ⟨r14, u14, h, e9⟩ := uu_addV (by assumption) (by first | (unfold UK2 UK; decide) | assumption | exact Or.resolve_left (by assumption) (by assumption)) h
              exact Or.inl ⟨_, _, h, (by assumption)⟩
            · replace h := qb7 _ _ h
              exact Or.inr (⟨_, h, trivial⟩)
        · obtain ⟨u, -, qb6⟩ := dt_Gr_refuse h
          replace h := qb6 _ h
          exact Or.inr (⟨_, h, trivial⟩)
  · replace h := qb0 _ _ h
    exact Or.inr (⟨_, h, trivial⟩)
set_option maxHeartbeats 4000000 in
theorem uu_Gr_readProduct_L16 {S : Nat → Int32} {C : Int32} {P : Nat → Prop} {rf : T_Gr → T_Nm → T_Nd → T_Wd → Int32 → (Int32 → T_Gr × T_Nm × T_Nd × T_Wd → Prop) → (T_Gr × T_Nm × T_Nd × T_Wd → Prop) → Prop} (hrf : ∀ (v0 : T_Gr) (v1 : T_Nm) (v2 : T_Nd) (v3 : T_Wd) (v4 : Int32) (post : (Int32 → T_Gr × T_Nm × T_Nd × T_Wd → Prop)) (postT : (T_Gr × T_Nm × T_Nd × T_Wd → Prop)), UV S C v1 v2 P → rf v0 v1 v2 v3 v4 post postT → (∃ (w0 : Int32) (w1 : T_Gr × T_Nm × T_Nd × T_Wd), post w0 w1 ∧ UV S C w1.2.1 w1.2.2.1 P) ∨ (∃ (w0 : T_Gr × T_Nm × T_Nd × T_Wd), postT w0 ∧ True)) : ∀ (n9 : Nat) (z_this : T_Gr) (z_this_names : T_Nm) (z_this_nodes : T_Nd) (z_this_words : T_Wd) (x1 : Int32) (x2 : Int32) (x3 : Int32) (x4 : Int32) (K : T_Gr → T_Nm → T_Nd → T_Wd → Int32 → Int32 → Int32 → Int32 → Prop) (post : Int32 → T_Gr × T_Nm × T_Nd × T_Wd → Prop) (postT : T_Gr × T_Nm × T_Nd × T_Wd → Prop), UV S C z_this_names z_this_nodes P → (x3 = -1 ∨ ¬ UK2 x3) → wp_Gr_readProduct_L16 rf K post postT n9 z_this z_this_names z_this_nodes z_this_words x1 x2 x3 x4 → (∃ (w0 : T_Gr) (w1 : T_Nm) (w2 : T_Nd) (w3 : T_Wd) (w4 : Int32) (w5 : Int32) (w6 : Int32) (w7 : Int32), K w0 w1 w2 w3 w4 w5 w6 w7 ∧ UV S C w1 w2 P) ∨ (∃ (w0 : Int32) (w1 : T_Gr × T_Nm × T_Nd × T_Wd), post w0 w1 ∧ UV S C w1.2.1 w1.2.2.1 P) ∨ (∃ (w0 : T_Gr × T_Nm × T_Nd × T_Wd), postT w0 ∧ True) := by
  intro n9
  induction n9 with
  | zero => intro z_this z_this_names z_this_nodes z_this_words x1 x2 x3 x4 K post postT e0 e1 h; exact False.elim h
  | succ n9 ih =>
    intro z_this z_this_names z_this_nodes z_this_words x1 x2 x3 x4 K post postT e0 e1 h
    rw [wp_Gr_readProduct_L16] at h
    rcases br_el h with ⟨c0, h⟩ | ⟨c0, h⟩
    · exact Or.inl ⟨_, _, _, _, _, _, _, _, h, (by assumption)⟩
    · rcases br_el h with ⟨c1, h⟩ | ⟨c1, h⟩
      · exact Or.inl ⟨_, _, _, _, _, _, _, _, h, (by assumption)⟩
      · rcases dt_Gr_pass h with ⟨r3, u3, -, qb2⟩ | ⟨u, -, qb2⟩
        · replace h := qb2 _ _ h
          rcases hrf _ _ _ _ _ _ _ (by assumption) h with ⟨r4, u4, h, e3⟩ | ⟨u, h, -⟩
          · rcases uu_Gr_join (by assumption) (by first | (unfold UK2 UK; decide) | assumption | exact Or.resolve_left (by assumption) (by assumption)) h with ⟨r5, u5, h, e4⟩ | ⟨u, h, -⟩
            · obtain ⟨r6, u6, h, e5⟩ := uu_oper (by decide) h
              rcases ih _ _ _ _ _ _ _ _ _ _ _ (by assumption) (by assumption) h with ⟨w6_0, w6_1, w6_2, w6_3, w6_4, w6_5, w6_6, w6_7, h, e6⟩ | ⟨w6_0, w6_1, h, e6⟩ | ⟨w6_0, h, -⟩
              · exact Or.inl ⟨_, _, _, _, _, _, _, _, h, (by assumption)⟩
              · exact Or.inr (Or.inl ⟨_, _, h, (by assumption)⟩)
              · exact Or.inr (Or.inr (⟨_, h, trivial⟩))
            · exact Or.inr (Or.inr (⟨_, h, trivial⟩))
          · exact Or.inr (Or.inr (⟨_, h, trivial⟩))
        · replace h := qb2 _ _ h
          exact Or.inr (Or.inr (⟨_, h, trivial⟩))
set_option maxHeartbeats 4000000 in
theorem uu_Gr_readProduct {S : Nat → Int32} {C : Int32} {P : Nat → Prop} {rf : T_Gr → T_Nm → T_Nd → T_Wd → Int32 → (Int32 → T_Gr × T_Nm × T_Nd × T_Wd → Prop) → (T_Gr × T_Nm × T_Nd × T_Wd → Prop) → Prop} {z_this : T_Gr} {z_this_names : T_Nm} {z_this_nodes : T_Nd} {z_this_words : T_Wd} {a1 : Int32} (hrf : ∀ (v0 : T_Gr) (v1 : T_Nm) (v2 : T_Nd) (v3 : T_Wd) (v4 : Int32) (post : (Int32 → T_Gr × T_Nm × T_Nd × T_Wd → Prop)) (postT : (T_Gr × T_Nm × T_Nd × T_Wd → Prop)), UV S C v1 v2 P → rf v0 v1 v2 v3 v4 post postT → (∃ (w0 : Int32) (w1 : T_Gr × T_Nm × T_Nd × T_Wd), post w0 w1 ∧ UV S C w1.2.1 w1.2.2.1 P) ∨ (∃ (w0 : T_Gr × T_Nm × T_Nd × T_Wd), postT w0 ∧ True)) {post : Int32 → T_Gr × T_Nm × T_Nd × T_Wd → Prop} {postT : T_Gr × T_Nm × T_Nd × T_Wd → Prop} (e0 : UV S C z_this_names z_this_nodes P) (h : wp_Gr_readProduct rf z_this z_this_names z_this_nodes z_this_words a1 post postT) : (∃ (w0 : Int32) (w1 : T_Gr × T_Nm × T_Nd × T_Wd), post w0 w1 ∧ UV S C w1.2.1 w1.2.2.1 P) ∨ (∃ (w0 : T_Gr × T_Nm × T_Nd × T_Wd), postT w0 ∧ True) := by
  unfold wp_Gr_readProduct at h
  rcases hrf _ _ _ _ _ _ _ (by assumption) h with ⟨r1, u1, h, e0⟩ | ⟨u, h, -⟩
  · obtain ⟨r2, u2, h, e1⟩ := uu_oper (by decide) h
    obtain ⟨k2, h⟩ := h
    rcases uu_Gr_readProduct_L16 hrf k2 _ _ _ _ _ _ _ _ _ _ _ (by assumption) (by assumption) h with ⟨z_this, z_this_names, z_this_nodes, z_this_words, x1, x2, x3, x4, h, e2⟩ | ⟨w2_0, w2_1, h, e2⟩ | ⟨w2_0, h, -⟩
    · exact Or.inl ⟨_, _, h, (by assumption)⟩
    · exact Or.inl ⟨_, _, h, (by assumption)⟩
    · exact Or.inr (⟨_, h, trivial⟩)
  · exact Or.inr (⟨_, h, trivial⟩)
set_option maxHeartbeats 4000000 in
theorem uu_Gr_readSum_L16 {S : Nat → Int32} {C : Int32} {P : Nat → Prop} {rf : T_Gr → T_Nm → T_Nd → T_Wd → Int32 → (Int32 → T_Gr × T_Nm × T_Nd × T_Wd → Prop) → (T_Gr × T_Nm × T_Nd × T_Wd → Prop) → Prop} (hrf : ∀ (v0 : T_Gr) (v1 : T_Nm) (v2 : T_Nd) (v3 : T_Wd) (v4 : Int32) (post : (Int32 → T_Gr × T_Nm × T_Nd × T_Wd → Prop)) (postT : (T_Gr × T_Nm × T_Nd × T_Wd → Prop)), UV S C v1 v2 P → rf v0 v1 v2 v3 v4 post postT → (∃ (w0 : Int32) (w1 : T_Gr × T_Nm × T_Nd × T_Wd), post w0 w1 ∧ UV S C w1.2.1 w1.2.2.1 P) ∨ (∃ (w0 : T_Gr × T_Nm × T_Nd × T_Wd), postT w0 ∧ True)) : ∀ (n9 : Nat) (z_this : T_Gr) (z_this_names : T_Nm) (z_this_nodes : T_Nd) (z_this_words : T_Wd) (x1 : Int32) (x2 : Int32) (x3 : Int32) (x4 : Int32) (K : T_Gr → T_Nm → T_Nd → T_Wd → Int32 → Int32 → Int32 → Int32 → Prop) (post : Int32 → T_Gr × T_Nm × T_Nd × T_Wd → Prop) (postT : T_Gr × T_Nm × T_Nd × T_Wd → Prop), UV S C z_this_names z_this_nodes P → (x3 = -1 ∨ ¬ UK2 x3) → wp_Gr_readSum_L16 rf K post postT n9 z_this z_this_names z_this_nodes z_this_words x1 x2 x3 x4 → (∃ (w0 : T_Gr) (w1 : T_Nm) (w2 : T_Nd) (w3 : T_Wd) (w4 : Int32) (w5 : Int32) (w6 : Int32) (w7 : Int32), K w0 w1 w2 w3 w4 w5 w6 w7 ∧ UV S C w1 w2 P) ∨ (∃ (w0 : Int32) (w1 : T_Gr × T_Nm × T_Nd × T_Wd), post w0 w1 ∧ UV S C w1.2.1 w1.2.2.1 P) ∨ (∃ (w0 : T_Gr × T_Nm × T_Nd × T_Wd), postT w0 ∧ True) := by
  intro n9
  induction n9 with
  | zero => intro z_this z_this_names z_this_nodes z_this_words x1 x2 x3 x4 K post postT e0 e1 h; exact False.elim h
  | succ n9 ih =>
    intro z_this z_this_names z_this_nodes z_this_words x1 x2 x3 x4 K post postT e0 e1 h
    rw [wp_Gr_readSum_L16] at h
    rcases br_el h with ⟨c0, h⟩ | ⟨c0, h⟩
    · exact Or.inl ⟨_, _, _, _, _, _, _, _, h, (by assumption)⟩
    · rcases br_el h with ⟨c1, h⟩ | ⟨c1, h⟩
      · exact Or.inl ⟨_, _, _, _, _, _, _, _, h, (by assumption)⟩
      · rcases dt_Gr_pass h with ⟨r3, u3, -, qb2⟩ | ⟨u, -, qb2⟩
        · replace h := qb2 _ _ h
          rcases uu_Gr_readProduct hrf (by assumption) h with ⟨r4, u4, h, e3⟩ | ⟨u, h, -⟩
          · rcases uu_Gr_join (by assumption) (by first | (unfold UK2 UK; decide) | assumption | exact Or.resolve_left (by assumption) (by assumption)) h with ⟨r5, u5, h, e4⟩ | ⟨u, h, -⟩
            · obtain ⟨r6, u6, h, e5⟩ := uu_oper (by decide) h
              rcases ih _ _ _ _ _ _ _ _ _ _ _ (by assumption) (by assumption) h with ⟨w6_0, w6_1, w6_2, w6_3, w6_4, w6_5, w6_6, w6_7, h, e6⟩ | ⟨w6_0, w6_1, h, e6⟩ | ⟨w6_0, h, -⟩
              · exact Or.inl ⟨_, _, _, _, _, _, _, _, h, (by assumption)⟩
              · exact Or.inr (Or.inl ⟨_, _, h, (by assumption)⟩)
              · exact Or.inr (Or.inr (⟨_, h, trivial⟩))
            · exact Or.inr (Or.inr (⟨_, h, trivial⟩))
          · exact Or.inr (Or.inr (⟨_, h, trivial⟩))
        · replace h := qb2 _ _ h
          exact Or.inr (Or.inr (⟨_, h, trivial⟩))
set_option maxHeartbeats 4000000 in
theorem uu_Gr_readSum {S : Nat → Int32} {C : Int32} {P : Nat → Prop} {rf : T_Gr → T_Nm → T_Nd → T_Wd → Int32 → (Int32 → T_Gr × T_Nm × T_Nd × T_Wd → Prop) → (T_Gr × T_Nm × T_Nd × T_Wd → Prop) → Prop} {z_this : T_Gr} {z_this_names : T_Nm} {z_this_nodes : T_Nd} {z_this_words : T_Wd} {a1 : Int32} (hrf : ∀ (v0 : T_Gr) (v1 : T_Nm) (v2 : T_Nd) (v3 : T_Wd) (v4 : Int32) (post : (Int32 → T_Gr × T_Nm × T_Nd × T_Wd → Prop)) (postT : (T_Gr × T_Nm × T_Nd × T_Wd → Prop)), UV S C v1 v2 P → rf v0 v1 v2 v3 v4 post postT → (∃ (w0 : Int32) (w1 : T_Gr × T_Nm × T_Nd × T_Wd), post w0 w1 ∧ UV S C w1.2.1 w1.2.2.1 P) ∨ (∃ (w0 : T_Gr × T_Nm × T_Nd × T_Wd), postT w0 ∧ True)) {post : Int32 → T_Gr × T_Nm × T_Nd × T_Wd → Prop} {postT : T_Gr × T_Nm × T_Nd × T_Wd → Prop} (e0 : UV S C z_this_names z_this_nodes P) (h : wp_Gr_readSum rf z_this z_this_names z_this_nodes z_this_words a1 post postT) : (∃ (w0 : Int32) (w1 : T_Gr × T_Nm × T_Nd × T_Wd), post w0 w1 ∧ UV S C w1.2.1 w1.2.2.1 P) ∨ (∃ (w0 : T_Gr × T_Nm × T_Nd × T_Wd), postT w0 ∧ True) := by
  unfold wp_Gr_readSum at h
  rcases uu_Gr_readProduct hrf (by assumption) h with ⟨r1, u1, h, e0⟩ | ⟨u, h, -⟩
  · obtain ⟨r2, u2, h, e1⟩ := uu_oper (by decide) h
    obtain ⟨k2, h⟩ := h
    rcases uu_Gr_readSum_L16 hrf k2 _ _ _ _ _ _ _ _ _ _ _ (by assumption) (by assumption) h with ⟨z_this, z_this_names, z_this_nodes, z_this_words, x1, x2, x3, x4, h, e2⟩ | ⟨w2_0, w2_1, h, e2⟩ | ⟨w2_0, h, -⟩
    · exact Or.inl ⟨_, _, h, (by assumption)⟩
    · exact Or.inl ⟨_, _, h, (by assumption)⟩
    · exact Or.inr (⟨_, h, trivial⟩)
  · exact Or.inr (⟨_, h, trivial⟩)
set_option maxHeartbeats 4000000 in
theorem uu_Gr_readFactor_F {S : Nat → Int32} {C : Int32} {P : Nat → Prop} {rf : T_Gr → T_Nm → T_Nd → T_Wd → Int32 → (Int32 → T_Gr × T_Nm × T_Nd × T_Wd → Prop) → (T_Gr × T_Nm × T_Nd × T_Wd → Prop) → Prop} {z_this : T_Gr} {z_this_names : T_Nm} {z_this_nodes : T_Nd} {z_this_words : T_Wd} {a1 : Int32} (hrf : ∀ (v0 : T_Gr) (v1 : T_Nm) (v2 : T_Nd) (v3 : T_Wd) (v4 : Int32) (post : (Int32 → T_Gr × T_Nm × T_Nd × T_Wd → Prop)) (postT : (T_Gr × T_Nm × T_Nd × T_Wd → Prop)), UV S C v1 v2 P → rf v0 v1 v2 v3 v4 post postT → (∃ (w0 : Int32) (w1 : T_Gr × T_Nm × T_Nd × T_Wd), post w0 w1 ∧ UV S C w1.2.1 w1.2.2.1 P) ∨ (∃ (w0 : T_Gr × T_Nm × T_Nd × T_Wd), postT w0 ∧ True)) {post : Int32 → T_Gr × T_Nm × T_Nd × T_Wd → Prop} {postT : T_Gr × T_Nm × T_Nd × T_Wd → Prop} (e0 : UV S C z_this_names z_this_nodes P) (h : wp_Gr_readFactor_F rf z_this z_this_names z_this_nodes z_this_words a1 post postT) : (∃ (w0 : Int32) (w1 : T_Gr × T_Nm × T_Nd × T_Wd), post w0 w1 ∧ UV S C w1.2.1 w1.2.2.1 P) ∨ (∃ (w0 : T_Gr × T_Nm × T_Nd × T_Wd), postT w0 ∧ True) := by
  unfold wp_Gr_readFactor_F at h
  obtain ⟨r1, u1, -, qb0⟩ := dt_Nd_count h
  replace h := qb0 _ h
  rcases Classical.em (z_this_words.2.2.2.2.2.2.2.2.2.2.1 = (40 : Int32)) with c1_0 | c1_0
  · replace h := (h).1 c1_0
    rcases dt_Gr_refuseOneMore h with ⟨r2, u2, -, qb2⟩ | ⟨u, -, qb2⟩
    · replace h := qb2 _ _ h
      rcases dt_Gr_pass h with ⟨r3, u3, -, qb3⟩ | ⟨u, -, qb3⟩
      · replace h := qb3 _ _ h
        rcases uu_Gr_readSum hrf (by assumption) h with ⟨r4, u4, h, e4⟩ | ⟨u, h, -⟩
        · rcases dt_Gr_take h with ⟨r5, u5, -, qb5⟩ | ⟨u, -, qb5⟩
          · replace h := qb5 _ _ h
            exact Or.inl ⟨_, _, h, (by assumption)⟩
          · replace h := qb5 _ _ h
            exact Or.inr (⟨_, h, trivial⟩)
        · exact Or.inr (⟨_, h, trivial⟩)
      · replace h := qb3 _ _ h
        exact Or.inr (⟨_, h, trivial⟩)
    · replace h := qb2 _ _ h
      exact Or.inr (⟨_, h, trivial⟩)
  · rcases Classical.em (z_this_words.2.2.2.2.2.2.2.2.2.2.1 = (45 : Int32)) with c1_1 | c1_1
    · replace h := (h).2.1 c1_1
      rcases dt_Gr_refuseOneMore h with ⟨r6, u6, -, qb2⟩ | ⟨u, -, qb2⟩
      · replace h := qb2 _ _ h
        rcases dt_Gr_pass h with ⟨r7, u7, -, qb3⟩ | ⟨u, -, qb3⟩
        · replace h := qb3 _ _ h
          rcases hrf _ _ _ _ _ _ _ (by assumption) h with ⟨r8, u8, h, e4⟩ | ⟨u, h, -⟩
          · obtain ⟨r9, u9, -, qb5⟩ := dt_Nd_measureOf h
            replace h := qb5 _ h
            obtain ⟨r10, u10, h, e6⟩ := uu_addV (by assumption) (by first | (unfold UK2 UK; decide) | assumption | exact Or.resolve_left (by assumption) (by assumption)) h
            exact Or.inl ⟨_, _, h, (by assumption)⟩
          · exact Or.inr (⟨_, h, trivial⟩)
        · replace h := qb3 _ _ h
          exact Or.inr (⟨_, h, trivial⟩)
      · replace h := qb2 _ _ h
        exact Or.inr (⟨_, h, trivial⟩)
    · rcases Classical.em (z_this_words.2.2.2.2.2.2.2.2.2.2.1 = (129 : Int32)) with c1_2 | c1_2
      · replace h := (h).2.2.1 c1_2
        rcases uu_Gr_readAmount (by assumption) h with ⟨r11, u11, h, e2⟩ | ⟨u, h, -⟩
        · exact Or.inl ⟨_, _, h, (by assumption)⟩
        · exact Or.inr (⟨_, h, trivial⟩)
      · rcases Classical.em (z_this_words.2.2.2.2.2.2.2.2.2.2.1 = (130 : Int32)) with c1_3 | c1_3
        · replace h := (h).2.2.2.1 c1_3
          rcases uu_Gr_readAmount (by assumption) h with ⟨r12, u12, h, e2⟩ | ⟨u, h, -⟩
          · exact Or.inl ⟨_, _, h, (by assumption)⟩
          · exact Or.inr (⟨_, h, trivial⟩)
        · replace h := (h).2.2.2.2 ⟨c1_0, c1_1, c1_2, c1_3⟩
          rcases uu_Gr_readMeasured (by assumption) h with ⟨r13, u13, h, e2⟩ | ⟨u, h, -⟩
          · exact Or.inl ⟨_, _, h, (by assumption)⟩
          · exact Or.inr (⟨_, h, trivial⟩)
theorem uu_Gr_readFactor {S : Nat → Int32} {C : Int32} {P : Nat → Prop} : ∀ (d : Nat), ∀ (v0 : T_Gr) (v1 : T_Nm) (v2 : T_Nd) (v3 : T_Wd) (v4 : Int32) (post : (Int32 → T_Gr × T_Nm × T_Nd × T_Wd → Prop)) (postT : (T_Gr × T_Nm × T_Nd × T_Wd → Prop)), UV S C v1 v2 P → wp_Gr_readFactor d v0 v1 v2 v3 v4 post postT → (∃ (w0 : Int32) (w1 : T_Gr × T_Nm × T_Nd × T_Wd), post w0 w1 ∧ UV S C w1.2.1 w1.2.2.1 P) ∨ (∃ (w0 : T_Gr × T_Nm × T_Nd × T_Wd), postT w0 ∧ True) := by
  intro d
  induction d with
  | zero => intro v0 v1 v2 v3 v4 post postT f0 h; exact False.elim h
  | succ d ih =>
    intro v0 v1 v2 v3 v4 post postT f0 h
    exact uu_Gr_readFactor_F ih f0 h
set_option maxHeartbeats 4000000 in
theorem uu_Gr_readTest {S : Nat → Int32} {C : Int32} {P : Nat → Prop} {rf : T_Gr → T_Nm → T_Nd → T_Wd → Int32 → (Int32 → T_Gr × T_Nm × T_Nd × T_Wd → Prop) → (T_Gr × T_Nm × T_Nd × T_Wd → Prop) → Prop} {z_this : T_Gr} {z_this_names : T_Nm} {z_this_nodes : T_Nd} {z_this_words : T_Wd} {a1 : Int32} (hrf : ∀ (v0 : T_Gr) (v1 : T_Nm) (v2 : T_Nd) (v3 : T_Wd) (v4 : Int32) (post : (Int32 → T_Gr × T_Nm × T_Nd × T_Wd → Prop)) (postT : (T_Gr × T_Nm × T_Nd × T_Wd → Prop)), UV S C v1 v2 P → rf v0 v1 v2 v3 v4 post postT → (∃ (w0 : Int32) (w1 : T_Gr × T_Nm × T_Nd × T_Wd), post w0 w1 ∧ UV S C w1.2.1 w1.2.2.1 P) ∨ (∃ (w0 : T_Gr × T_Nm × T_Nd × T_Wd), postT w0 ∧ True)) {post : Unit → T_Gr × T_Nm × T_Nd × T_Wd → Prop} {postT : T_Gr × T_Nm × T_Nd × T_Wd → Prop} (e0 : UV S C z_this_names z_this_nodes P) (h : wp_Gr_readTest rf z_this z_this_names z_this_nodes z_this_words a1 post postT) : (∃ (w0 : Unit) (w1 : T_Gr × T_Nm × T_Nd × T_Wd), post w0 w1 ∧ UV S C w1.2.1 w1.2.2.1 P) ∨ (∃ (w0 : T_Gr × T_Nm × T_Nd × T_Wd), postT w0 ∧ True) := by
  unfold wp_Gr_readTest at h
  rcases uu_Gr_readSum hrf (by assumption) h with ⟨r1, u1, h, e0⟩ | ⟨u, h, -⟩
  · obtain ⟨r2, u2, h, e1⟩ := uu_oper (by decide) h
    rcases br_el h with ⟨c2, h⟩ | ⟨c2, h⟩
    · obtain ⟨u, -, qb3⟩ := dt_Gr_refuse h
      replace h := qb3 _ h
      exact Or.inr (⟨_, h, trivial⟩)
    · rcases dt_Gr_pass h with ⟨r3, u3, -, qb3⟩ | ⟨u, -, qb3⟩
      · replace h := qb3 _ _ h
        rcases uu_Gr_readSum hrf (by assumption) h with ⟨r4, u4, h, e4⟩ | ⟨u, h, -⟩
        · rcases uu_Gr_join (by assumption) (by first | (unfold UK2 UK; decide) | assumption | exact Or.resolve_left (by assumption) (by assumption)) h with ⟨r5, u5, h, e5⟩ | ⟨u, h, -⟩
          · exact Or.inl ⟨_, _, h, (by assumption)⟩
          · exact Or.inr (⟨_, h, trivial⟩)
        · exact Or.inr (⟨_, h, trivial⟩)
      · replace h := qb3 _ _ h
        exact Or.inr (⟨_, h, trivial⟩)
  · exact Or.inr (⟨_, h, trivial⟩)
set_option maxHeartbeats 4000000 in
theorem uu_Gr_readSumOf {S : Nat → Int32} {C : Int32} {P : Nat → Prop} {rf : T_Gr → T_Nm → T_Nd → T_Wd → Int32 → (Int32 → T_Gr × T_Nm × T_Nd × T_Wd → Prop) → (T_Gr × T_Nm × T_Nd × T_Wd → Prop) → Prop} {z_this : T_Gr} {z_this_names : T_Nm} {z_this_nodes : T_Nd} {z_this_words : T_Wd} {a1 : Int32} {a2 : Int32} (hrf : ∀ (v0 : T_Gr) (v1 : T_Nm) (v2 : T_Nd) (v3 : T_Wd) (v4 : Int32) (post : (Int32 → T_Gr × T_Nm × T_Nd × T_Wd → Prop)) (postT : (T_Gr × T_Nm × T_Nd × T_Wd → Prop)), UV S C v1 v2 P → rf v0 v1 v2 v3 v4 post postT → (∃ (w0 : Int32) (w1 : T_Gr × T_Nm × T_Nd × T_Wd), post w0 w1 ∧ UV S C w1.2.1 w1.2.2.1 P) ∨ (∃ (w0 : T_Gr × T_Nm × T_Nd × T_Wd), postT w0 ∧ True)) {post : Unit → T_Gr × T_Nm × T_Nd × T_Wd → Prop} {postT : T_Gr × T_Nm × T_Nd × T_Wd → Prop} (e0 : UV S C z_this_names z_this_nodes P) (h : wp_Gr_readSumOf rf z_this z_this_names z_this_nodes z_this_words a1 a2 post postT) : (∃ (w0 : Unit) (w1 : T_Gr × T_Nm × T_Nd × T_Wd), post w0 w1 ∧ UV S C w1.2.1 w1.2.2.1 P) ∨ (∃ (w0 : T_Gr × T_Nm × T_Nd × T_Wd), postT w0 ∧ True) := by
  unfold wp_Gr_readSumOf at h
  rcases uu_Gr_readSum hrf (by assumption) h with ⟨r1, u1, h, e0⟩ | ⟨u, h, -⟩
  · obtain ⟨r2, u2, -, qb1⟩ := dt_Nd_measureOf h
    replace h := qb1 _ h
    rcases br_el h with ⟨c2, h⟩ | ⟨c2, h⟩
    · exact Or.inl ⟨_, _, h, (by assumption)⟩
    · obtain ⟨u, -, qb3⟩ := dt_Gr_refuse h
      replace h := qb3 _ h
      exact Or.inr (⟨_, h, trivial⟩)
  · exact Or.inr (⟨_, h, trivial⟩)
set_option maxHeartbeats 4000000 in
theorem uu_Gr_readBranches_L96 {S : Nat → Int32} {C : Int32} {P : Nat → Prop} {d : Nat} {rf : T_Gr → T_Nm → T_Nd → T_Wd → Int32 → (Unit → T_Gr × T_Nm × T_Nd × T_Wd → Prop) → (T_Gr × T_Nm × T_Nd × T_Wd → Prop) → Prop} (hrf : ∀ (v0 : T_Gr) (v1 : T_Nm) (v2 : T_Nd) (v3 : T_Wd) (v4 : Int32) (post : (Unit → T_Gr × T_Nm × T_Nd × T_Wd → Prop)) (postT : (T_Gr × T_Nm × T_Nd × T_Wd → Prop)), UV S C v1 v2 P → rf v0 v1 v2 v3 v4 post postT → (∃ (w0 : Unit) (w1 : T_Gr × T_Nm × T_Nd × T_Wd), post w0 w1 ∧ UV S C w1.2.1 w1.2.2.1 P) ∨ (∃ (w0 : T_Gr × T_Nm × T_Nd × T_Wd), postT w0 ∧ True)) : ∀ (n9 : Nat) (z_this : T_Gr) (z_this_names : T_Nm) (z_this_nodes : T_Nd) (z_this_words : T_Wd) (x1 : Int32) (x2 : Int32) (x3 : Int32) (K : T_Gr → T_Nm → T_Nd → T_Wd → Int32 → Int32 → Int32 → Prop) (post : Unit → T_Gr × T_Nm × T_Nd × T_Wd → Prop) (postT : T_Gr × T_Nm × T_Nd × T_Wd → Prop), UV S C z_this_names z_this_nodes P → wp_Gr_readBranches_L96 d rf K post postT n9 z_this z_this_names z_this_nodes z_this_words x1 x2 x3 → (∃ (w0 : T_Gr) (w1 : T_Nm) (w2 : T_Nd) (w3 : T_Wd) (w4 : Int32) (w5 : Int32) (w6 : Int32), K w0 w1 w2 w3 w4 w5 w6 ∧ UV S C w1 w2 P) ∨ (∃ (w0 : Unit) (w1 : T_Gr × T_Nm × T_Nd × T_Wd), post w0 w1 ∧ UV S C w1.2.1 w1.2.2.1 P) ∨ (∃ (w0 : T_Gr × T_Nm × T_Nd × T_Wd), postT w0 ∧ True) := by
  intro n9
  induction n9 with
  | zero => intro z_this z_this_names z_this_nodes z_this_words x1 x2 x3 K post postT e0 h; exact False.elim h
  | succ n9 ih =>
    intro z_this z_this_names z_this_nodes z_this_words x1 x2 x3 K post postT e0 h
    rw [wp_Gr_readBranches_L96] at h
    rcases br_el h with ⟨c0, h⟩ | ⟨c0, h⟩
    · exact Or.inl ⟨_, _, _, _, _, _, _, h, (by assumption)⟩
    · rcases br_el h with ⟨c1, h⟩ | ⟨c1, h⟩
      · rcases hrf _ _ _ _ _ _ _ (by assumption) h with ⟨r3, u3, h, e2⟩ | ⟨u, h, -⟩
        · rcases ih _ _ _ _ _ _ _ _ _ _ (by assumption) h with ⟨w3_0, w3_1, w3_2, w3_3, w3_4, w3_5, w3_6, h, e3⟩ | ⟨w3_0, w3_1, h, e3⟩ | ⟨w3_0, h, -⟩
          · exact Or.inl ⟨_, _, _, _, _, _, _, h, (by assumption)⟩
          · exact Or.inr (Or.inl ⟨_, _, h, (by assumption)⟩)
          · exact Or.inr (Or.inr (⟨_, h, trivial⟩))
        · exact Or.inr (Or.inr (⟨_, h, trivial⟩))
      · exact Or.inl ⟨_, _, _, _, _, _, _, h, (by assumption)⟩
set_option maxHeartbeats 4000000 in
theorem uu_Gr_readBranches {S : Nat → Int32} {C : Int32} {P : Nat → Prop} {d : Nat} {rf : T_Gr → T_Nm → T_Nd → T_Wd → Int32 → (Unit → T_Gr × T_Nm × T_Nd × T_Wd → Prop) → (T_Gr × T_Nm × T_Nd × T_Wd → Prop) → Prop} {z_this : T_Gr} {z_this_names : T_Nm} {z_this_nodes : T_Nd} {z_this_words : T_Wd} {a1 : Int32} {a2 : Int32} (hrf : ∀ (v0 : T_Gr) (v1 : T_Nm) (v2 : T_Nd) (v3 : T_Wd) (v4 : Int32) (post : (Unit → T_Gr × T_Nm × T_Nd × T_Wd → Prop)) (postT : (T_Gr × T_Nm × T_Nd × T_Wd → Prop)), UV S C v1 v2 P → rf v0 v1 v2 v3 v4 post postT → (∃ (w0 : Unit) (w1 : T_Gr × T_Nm × T_Nd × T_Wd), post w0 w1 ∧ UV S C w1.2.1 w1.2.2.1 P) ∨ (∃ (w0 : T_Gr × T_Nm × T_Nd × T_Wd), postT w0 ∧ True)) {post : Unit → T_Gr × T_Nm × T_Nd × T_Wd → Prop} {postT : T_Gr × T_Nm × T_Nd × T_Wd → Prop} (e0 : UV S C z_this_names z_this_nodes P) (h : wp_Gr_readBranches d rf z_this z_this_names z_this_nodes z_this_words a1 a2 post postT) : (∃ (w0 : Unit) (w1 : T_Gr × T_Nm × T_Nd × T_Wd), post w0 w1 ∧ UV S C w1.2.1 w1.2.2.1 P) ∨ (∃ (w0 : T_Gr × T_Nm × T_Nd × T_Wd), postT w0 ∧ True) := by
  unfold wp_Gr_readBranches at h
  rcases br_el h with ⟨c0, h⟩ | ⟨c0, h⟩
  · rcases uu_Gr_readSumOf (uu_Gr_readFactor d) (by assumption) h with ⟨r17, u17, h, e1⟩ | ⟨u, h, -⟩
    · rcases hrf _ _ _ _ _ _ _ (by assumption) h with ⟨r18, u18, h, e2⟩ | ⟨u, h, -⟩
      · rcases br_el h with ⟨c3, h⟩ | ⟨c3, h⟩
        · rcases dt_Gr_take h with ⟨r23, u23, -, qb4⟩ | ⟨u, -, qb4⟩
          · replace h := qb4 _ _ h
            rcases hrf _ _ _ _ _ _ _ (by assumption) h with ⟨r24, u24, h, e5⟩ | ⟨u, h, -⟩
            · exact Or.inl ⟨_, _, h, (by assumption)⟩
            · exact Or.inr (⟨_, h, trivial⟩)
          · replace h := qb4 _ _ h
            exact Or.inr (⟨_, h, trivial⟩)
        · rcases br_el h with ⟨c4, h⟩ | ⟨c4, h⟩
          · rcases br_el h with ⟨c5, h⟩ | ⟨c5, h⟩
            · rcases dt_Gr_pass h with ⟨r21, u21, -, qb6⟩ | ⟨u, -, qb6⟩
              · replace h := qb6 _ _ h
                rcases hrf _ _ _ _ _ _ _ (by assumption) h with ⟨r22, u22, h, e7⟩ | ⟨u, h, -⟩
                · exact Or.inl ⟨_, _, h, (by assumption)⟩
                · exact Or.inr (⟨_, h, trivial⟩)
              · replace h := qb6 _ _ h
                exact Or.inr (⟨_, h, trivial⟩)
            · rcases br_el h with ⟨c6, h⟩ | ⟨c6, h⟩
              · rcases hrf _ _ _ _ _ _ _ (by assumption) h with ⟨r20, u20, h, e7⟩ | ⟨u, h, -⟩
                · obtain ⟨k8, h⟩ := h
                  rcases uu_Gr_readBranches_L96 hrf k8 _ _ _ _ _ _ _ _ _ _ (by assumption) h with ⟨z_this, z_this_names, z_this_nodes, z_this_words, x1, x2, x3, h, e8⟩ | ⟨w8_0, w8_1, h, e8⟩ | ⟨w8_0, h, -⟩
                  · exact Or.inl ⟨_, _, h, (by assumption)⟩
                  · exact Or.inl ⟨_, _, h, (by assumption)⟩
                  · exact Or.inr (⟨_, h, trivial⟩)
                · exact Or.inr (⟨_, h, trivial⟩)
              · exact Or.inl ⟨_, _, h, (by assumption)⟩
          · rcases br_el h with ⟨c5, h⟩ | ⟨c5, h⟩
            · rcases hrf _ _ _ _ _ _ _ (by assumption) h with ⟨r19, u19, h, e6⟩ | ⟨u, h, -⟩
              · obtain ⟨k7, h⟩ := h
                rcases uu_Gr_readBranches_L96 hrf k7 _ _ _ _ _ _ _ _ _ _ (by assumption) h with ⟨z_this, z_this_names, z_this_nodes, z_this_words, x1, x2, x3, h, e7⟩ | ⟨w7_0, w7_1, h, e7⟩ | ⟨w7_0, h, -⟩
                · exact Or.inl ⟨_, _, h, (by assumption)⟩
                · exact Or.inl ⟨_, _, h, (by assumption)⟩
                · exact Or.inr (⟨_, h, trivial⟩)
              · exact Or.inr (⟨_, h, trivial⟩)
            · exact Or.inl ⟨_, _, h, (by assumption)⟩
      · exact Or.inr (⟨_, h, trivial⟩)
    · exact Or.inr (⟨_, h, trivial⟩)
  · rcases br_el h with ⟨c1, h⟩ | ⟨c1, h⟩
    · rcases hrf _ _ _ _ _ _ _ (by assumption) h with ⟨r1, u1, h, e2⟩ | ⟨u, h, -⟩
      · rcases br_el h with ⟨c3, h⟩ | ⟨c3, h⟩
        · rcases dt_Gr_take h with ⟨r7, u7, -, qb4⟩ | ⟨u, -, qb4⟩
          · replace h := qb4 _ _ h
            rcases hrf _ _ _ _ _ _ _ (by assumption) h with ⟨r8, u8, h, e5⟩ | ⟨u, h, -⟩
            · exact Or.inl ⟨_, _, h, (by assumption)⟩
            · exact Or.inr (⟨_, h, trivial⟩)
          · replace h := qb4 _ _ h
            exact Or.inr (⟨_, h, trivial⟩)
        · rcases br_el h with ⟨c4, h⟩ | ⟨c4, h⟩
          · rcases br_el h with ⟨c5, h⟩ | ⟨c5, h⟩
            · rcases dt_Gr_pass h with ⟨r5, u5, -, qb6⟩ | ⟨u, -, qb6⟩
              · replace h := qb6 _ _ h
                rcases hrf _ _ _ _ _ _ _ (by assumption) h with ⟨r6, u6, h, e7⟩ | ⟨u, h, -⟩
                · exact Or.inl ⟨_, _, h, (by assumption)⟩
                · exact Or.inr (⟨_, h, trivial⟩)
              · replace h := qb6 _ _ h
                exact Or.inr (⟨_, h, trivial⟩)
            · rcases br_el h with ⟨c6, h⟩ | ⟨c6, h⟩
              · rcases hrf _ _ _ _ _ _ _ (by assumption) h with ⟨r4, u4, h, e7⟩ | ⟨u, h, -⟩
                · obtain ⟨k8, h⟩ := h
                  rcases uu_Gr_readBranches_L96 hrf k8 _ _ _ _ _ _ _ _ _ _ (by assumption) h with ⟨z_this, z_this_names, z_this_nodes, z_this_words, x1, x2, x3, h, e8⟩ | ⟨w8_0, w8_1, h, e8⟩ | ⟨w8_0, h, -⟩
                  · exact Or.inl ⟨_, _, h, (by assumption)⟩
                  · exact Or.inl ⟨_, _, h, (by assumption)⟩
                  · exact Or.inr (⟨_, h, trivial⟩)
                · exact Or.inr (⟨_, h, trivial⟩)
              · exact Or.inl ⟨_, _, h, (by assumption)⟩
          · rcases br_el h with ⟨c5, h⟩ | ⟨c5, h⟩
            · rcases hrf _ _ _ _ _ _ _ (by assumption) h with ⟨r2, u2, h, e6⟩ | ⟨u, h, -⟩
              · obtain ⟨k7, h⟩ := h
                rcases uu_Gr_readBranches_L96 hrf k7 _ _ _ _ _ _ _ _ _ _ (by assumption) h with ⟨z_this, z_this_names, z_this_nodes, z_this_words, x1, x2, x3, h, e7⟩ | ⟨w7_0, w7_1, h, e7⟩ | ⟨w7_0, h, -⟩
                · exact Or.inl ⟨_, _, h, (by assumption)⟩
                · exact Or.inl ⟨_, _, h, (by assumption)⟩
                · exact Or.inr (⟨_, h, trivial⟩)
              · exact Or.inr (⟨_, h, trivial⟩)
            · exact Or.inl ⟨_, _, h, (by assumption)⟩
      · exact Or.inr (⟨_, h, trivial⟩)
    · rcases uu_Gr_readTest (uu_Gr_readFactor d) (by assumption) h with ⟨r9, u9, h, e2⟩ | ⟨u, h, -⟩
      · rcases hrf _ _ _ _ _ _ _ (by assumption) h with ⟨r10, u10, h, e3⟩ | ⟨u, h, -⟩
        · rcases br_el h with ⟨c4, h⟩ | ⟨c4, h⟩
          · rcases dt_Gr_take h with ⟨r15, u15, -, qb5⟩ | ⟨u, -, qb5⟩
            · replace h := qb5 _ _ h
              rcases hrf _ _ _ _ _ _ _ (by assumption) h with ⟨r16, u16, h, e6⟩ | ⟨u, h, -⟩
              · exact Or.inl ⟨_, _, h, (by assumption)⟩
              · exact Or.inr (⟨_, h, trivial⟩)
            · replace h := qb5 _ _ h
              exact Or.inr (⟨_, h, trivial⟩)
          · rcases br_el h with ⟨c5, h⟩ | ⟨c5, h⟩
            · rcases br_el h with ⟨c6, h⟩ | ⟨c6, h⟩
              · rcases dt_Gr_pass h with ⟨r13, u13, -, qb7⟩ | ⟨u, -, qb7⟩
                · replace h := qb7 _ _ h
                  rcases hrf _ _ _ _ _ _ _ (by assumption) h with ⟨r14, u14, h, e8⟩ | ⟨u, h, -⟩
                  · exact Or.inl ⟨_, _, h, (by assumption)⟩
                  · exact Or.inr (⟨_, h, trivial⟩)
                · replace h := qb7 _ _ h
                  exact Or.inr (⟨_, h, trivial⟩)
              · rcases br_el h with ⟨c7, h⟩ | ⟨c7, h⟩
                · rcases hrf _ _ _ _ _ _ _ (by assumption) h with ⟨r12, u12, h, e8⟩ | ⟨u, h, -⟩
                  · obtain ⟨k9, h⟩ := h
                    rcases uu_Gr_readBranches_L96 hrf k9 _ _ _ _ _ _ _ _ _ _ (by assumption) h with ⟨z_this, z_this_names, z_this_nodes, z_this_words, x1, x2, x3, h, e9⟩ | ⟨w9_0, w9_1, h, e9⟩ | ⟨w9_0, h, -⟩
                    · exact Or.inl ⟨_, _, h, (by assumption)⟩
                    · exact Or.inl ⟨_, _, h, (by assumption)⟩
                    · exact Or.inr (⟨_, h, trivial⟩)
                  · exact Or.inr (⟨_, h, trivial⟩)
                · exact Or.inl ⟨_, _, h, (by assumption)⟩
            · rcases br_el h with ⟨c6, h⟩ | ⟨c6, h⟩
              · rcases hrf _ _ _ _ _ _ _ (by assumption) h with ⟨r11, u11, h, e7⟩ | ⟨u, h, -⟩
                · obtain ⟨k8, h⟩ := h
                  rcases uu_Gr_readBranches_L96 hrf k8 _ _ _ _ _ _ _ _ _ _ (by assumption) h with ⟨z_this, z_this_names, z_this_nodes, z_this_words, x1, x2, x3, h, e8⟩ | ⟨w8_0, w8_1, h, e8⟩ | ⟨w8_0, h, -⟩
                  · exact Or.inl ⟨_, _, h, (by assumption)⟩
                  · exact Or.inl ⟨_, _, h, (by assumption)⟩
                  · exact Or.inr (⟨_, h, trivial⟩)
                · exact Or.inr (⟨_, h, trivial⟩)
              · exact Or.inl ⟨_, _, h, (by assumption)⟩
        · exact Or.inr (⟨_, h, trivial⟩)
      · exact Or.inr (⟨_, h, trivial⟩)
set_option maxHeartbeats 4000000 in
theorem uu_Gr_readStatement {S : Nat → Int32} {C : Int32} {P : Nat → Prop} {d : Nat} {rf : T_Gr → T_Nm → T_Nd → T_Wd → Int32 → (Unit → T_Gr × T_Nm × T_Nd × T_Wd → Prop) → (T_Gr × T_Nm × T_Nd × T_Wd → Prop) → Prop} {z_this : T_Gr} {z_this_names : T_Nm} {z_this_nodes : T_Nd} {z_this_words : T_Wd} {a1 : Int32} (hrf : ∀ (v0 : T_Gr) (v1 : T_Nm) (v2 : T_Nd) (v3 : T_Wd) (v4 : Int32) (post : (Unit → T_Gr × T_Nm × T_Nd × T_Wd → Prop)) (postT : (T_Gr × T_Nm × T_Nd × T_Wd → Prop)), UV S C v1 v2 P → rf v0 v1 v2 v3 v4 post postT → (∃ (w0 : Unit) (w1 : T_Gr × T_Nm × T_Nd × T_Wd), post w0 w1 ∧ UV S C w1.2.1 w1.2.2.1 P) ∨ (∃ (w0 : T_Gr × T_Nm × T_Nd × T_Wd), postT w0 ∧ True)) {post : Unit → T_Gr × T_Nm × T_Nd × T_Wd → Prop} {postT : T_Gr × T_Nm × T_Nd × T_Wd → Prop} (e0 : UV S C z_this_names z_this_nodes P) (hk : (10 : Int32) ≤ ((z_this_words.2.2.2.2.2.2.2.2.2.2.1 - (200 : Int32)) + (10 : Int32)) ∧ ((z_this_words.2.2.2.2.2.2.2.2.2.2.1 - (200 : Int32)) + (10 : Int32)) ≤ 22) (h : wp_Gr_readStatement d rf z_this z_this_names z_this_nodes z_this_words a1 post postT) : (∃ (w0 : Unit) (w1 : T_Gr × T_Nm × T_Nd × T_Wd), post w0 w1 ∧ UV S C w1.2.1 w1.2.2.1 P) ∨ (∃ (w0 : T_Gr × T_Nm × T_Nd × T_Wd), postT w0 ∧ True) := by
  unfold wp_Gr_readStatement at h
  obtain ⟨r1, u1, -, qb0⟩ := dt_Nd_count h
  replace h := qb0 _ h
  rcases dt_Gr_pass h with ⟨r2, u2, -, qb1⟩ | ⟨u, -, qb1⟩
  · replace h := qb1 _ _ h
    rcases Classical.em (((z_this_words.2.2.2.2.2.2.2.2.2.2.1 - (200 : Int32)) + (10 : Int32)) = (10 : Int32)) with c2_0 | c2_0
    · replace h := (h).1 c2_0
      rcases uu_Gr_readName (by assumption) h with ⟨r3, u3, h, e3⟩ | ⟨u, h, -⟩
      · obtain ⟨r4, u4, h, e4⟩ := uu_Nm_use (by assumption) (by assumption) (by decide) h
        obtain ⟨r5, u5, -, qb5⟩ := dt_Nm_measureOf h
        replace h := qb5 _ h
        rcases uu_Gr_readSumOf (uu_Gr_readFactor d) (by assumption) h with ⟨r6, u6, h, e6⟩ | ⟨u, h, -⟩
        · rcases br_el h with ⟨c7, h⟩ | ⟨c7, h⟩
          · rcases dt_Gr_take h with ⟨r11, u11, -, qb8⟩ | ⟨u, -, qb8⟩
            · replace h := qb8 _ _ h
              rcases uu_Gr_readSumOf (uu_Gr_readFactor d) (by assumption) h with ⟨r12, u12, h, e9⟩ | ⟨u, h, -⟩
              · obtain ⟨r13, u13, -, qb10⟩ := dt_Nd_endsWithSemicolon h
                replace h := qb10 _ h
                rcases br_el h with ⟨c11, h⟩ | ⟨c11, h⟩
                · obtain ⟨r14, u14, h, e12⟩ := uu_addB (by assumption) (by assumption) (by rw [c2_0]; exact Or.inr ⟨rfl, Or.inl rfl⟩) h
                  exact Or.inl ⟨_, _, h, (by assumption)⟩
                · rcases dt_Gr_take h with ⟨r15, u15, -, qb12⟩ | ⟨u, -, qb12⟩
                  · replace h := qb12 _ _ h
                    obtain ⟨r16, u16, h, e13⟩ := uu_addB (by assumption) (by assumption) (by rw [c2_0]; exact Or.inr ⟨rfl, Or.inl rfl⟩) h
                    exact Or.inl ⟨_, _, h, (by assumption)⟩
                  · replace h := qb12 _ _ h
                    exact Or.inr (⟨_, h, trivial⟩)
              · exact Or.inr (⟨_, h, trivial⟩)
            · replace h := qb8 _ _ h
              exact Or.inr (⟨_, h, trivial⟩)
          · obtain ⟨r7, u7, -, qb8⟩ := dt_Nd_endsWithSemicolon h
            replace h := qb8 _ h
            rcases br_el h with ⟨c9, h⟩ | ⟨c9, h⟩
            · obtain ⟨r8, u8, h, e10⟩ := uu_addB (by assumption) (by assumption) (by rw [c2_0]; exact Or.inr ⟨rfl, Or.inl rfl⟩) h
              exact Or.inl ⟨_, _, h, (by assumption)⟩
            · rcases dt_Gr_take h with ⟨r9, u9, -, qb10⟩ | ⟨u, -, qb10⟩
              · replace h := qb10 _ _ h
                obtain ⟨r10, u10, h, e11⟩ := uu_addB (by assumption) (by assumption) (by rw [c2_0]; exact Or.inr ⟨rfl, Or.inl rfl⟩) h
                exact Or.inl ⟨_, _, h, (by assumption)⟩
              · replace h := qb10 _ _ h
                exact Or.inr (⟨_, h, trivial⟩)
        · exact Or.inr (⟨_, h, trivial⟩)
      · exact Or.inr (⟨_, h, trivial⟩)
    · rcases Classical.em (((z_this_words.2.2.2.2.2.2.2.2.2.2.1 - (200 : Int32)) + (10 : Int32)) = (11 : Int32)) with c2_1 | c2_1
      · replace h := (h).2.1 c2_1
        rcases uu_Gr_readSumOf (uu_Gr_readFactor d) (by assumption) h with ⟨r17, u17, h, e3⟩ | ⟨u, h, -⟩
        · obtain ⟨r18, u18, -, qb4⟩ := dt_Nd_endsWithSemicolon h
          replace h := qb4 _ h
          rcases br_el h with ⟨c5, h⟩ | ⟨c5, h⟩
          · obtain ⟨r19, u19, h, e6⟩ := uu_addV (by assumption) (by rw [c2_1]; unfold UK2 UK; decide) h
            exact Or.inl ⟨_, _, h, (by assumption)⟩
          · rcases dt_Gr_take h with ⟨r20, u20, -, qb6⟩ | ⟨u, -, qb6⟩
            · replace h := qb6 _ _ h
              obtain ⟨r21, u21, h, e7⟩ := uu_addV (by assumption) (by rw [c2_1]; unfold UK2 UK; decide) h
              exact Or.inl ⟨_, _, h, (by assumption)⟩
            · replace h := qb6 _ _ h
              exact Or.inr (⟨_, h, trivial⟩)
        · exact Or.inr (⟨_, h, trivial⟩)
      · rcases Classical.em (((z_this_words.2.2.2.2.2.2.2.2.2.2.1 - (200 : Int32)) + (10 : Int32)) = (12 : Int32)) with c2_2 | c2_2
        · replace h := (h).2.2.1 c2_2
          rcases uu_Gr_readTest (uu_Gr_readFactor d) (by assumption) h with ⟨r22, u22, h, e3⟩ | ⟨u, h, -⟩
          · obtain ⟨r23, u23, -, qb4⟩ := dt_Nd_endsWithSemicolon h
            replace h := qb4 _ h
            rcases br_el h with ⟨c5, h⟩ | ⟨c5, h⟩
            · obtain ⟨r24, u24, h, e6⟩ := uu_addV (by assumption) (by rw [c2_2]; unfold UK2 UK; decide) h
              exact Or.inl ⟨_, _, h, (by assumption)⟩
            · rcases dt_Gr_take h with ⟨r25, u25, -, qb6⟩ | ⟨u, -, qb6⟩
              · replace h := qb6 _ _ h
                obtain ⟨r26, u26, h, e7⟩ := uu_addV (by assumption) (by rw [c2_2]; unfold UK2 UK; decide) h
                exact Or.inl ⟨_, _, h, (by assumption)⟩
              · replace h := qb6 _ _ h
                exact Or.inr (⟨_, h, trivial⟩)
          · exact Or.inr (⟨_, h, trivial⟩)
        · rcases Classical.em (((z_this_words.2.2.2.2.2.2.2.2.2.2.1 - (200 : Int32)) + (10 : Int32)) = (13 : Int32)) with c2_3 | c2_3
          · replace h := (h).2.2.2.1 c2_3
            rcases uu_Gr_readName (by assumption) h with ⟨r27, u27, h, e3⟩ | ⟨u, h, -⟩
            · obtain ⟨r28, u28, h, e4⟩ := uu_Nm_use (by assumption) (by assumption) (by decide) h
              obtain ⟨r29, u29, -, qb5⟩ := dt_Nm_measureOf h
              replace h := qb5 _ h
              rcases uu_Gr_readSumOf (uu_Gr_readFactor d) (by assumption) h with ⟨r30, u30, h, e6⟩ | ⟨u, h, -⟩
              · rcases br_el h with ⟨c7, h⟩ | ⟨c7, h⟩
                · rcases dt_Gr_take h with ⟨r35, u35, -, qb8⟩ | ⟨u, -, qb8⟩
                  · replace h := qb8 _ _ h
                    rcases uu_Gr_readSumOf (uu_Gr_readFactor d) (by assumption) h with ⟨r36, u36, h, e9⟩ | ⟨u, h, -⟩
                    · obtain ⟨r37, u37, -, qb10⟩ := dt_Nd_endsWithSemicolon h
                      replace h := qb10 _ h
                      rcases br_el h with ⟨c11, h⟩ | ⟨c11, h⟩
                      · obtain ⟨r38, u38, h, e12⟩ := uu_addB (by assumption) (by assumption) (by rw [c2_3]; exact Or.inr ⟨rfl, Or.inr rfl⟩) h
                        exact Or.inl ⟨_, _, h, (by assumption)⟩
                      · rcases dt_Gr_take h with ⟨r39, u39, -, qb12⟩ | ⟨u, -, qb12⟩
                        · replace h := qb12 _ _ h
                          obtain ⟨r40, u40, h, e13⟩ := uu_addB (by assumption) (by assumption) (by rw [c2_3]; exact Or.inr ⟨rfl, Or.inr rfl⟩) h
                          exact Or.inl ⟨_, _, h, (by assumption)⟩
                        · replace h := qb12 _ _ h
                          exact Or.inr (⟨_, h, trivial⟩)
                    · exact Or.inr (⟨_, h, trivial⟩)
                  · replace h := qb8 _ _ h
                    exact Or.inr (⟨_, h, trivial⟩)
                · obtain ⟨r31, u31, -, qb8⟩ := dt_Nd_endsWithSemicolon h
                  replace h := qb8 _ h
                  rcases br_el h with ⟨c9, h⟩ | ⟨c9, h⟩
                  · obtain ⟨r32, u32, h, e10⟩ := uu_addB (by assumption) (by assumption) (by rw [c2_3]; exact Or.inr ⟨rfl, Or.inr rfl⟩) h
                    exact Or.inl ⟨_, _, h, (by assumption)⟩
                  · rcases dt_Gr_take h with ⟨r33, u33, -, qb10⟩ | ⟨u, -, qb10⟩
                    · replace h := qb10 _ _ h
                      obtain ⟨r34, u34, h, e11⟩ := uu_addB (by assumption) (by assumption) (by rw [c2_3]; exact Or.inr ⟨rfl, Or.inr rfl⟩) h
                      exact Or.inl ⟨_, _, h, (by assumption)⟩
                    · replace h := qb10 _ _ h
                      exact Or.inr (⟨_, h, trivial⟩)
              · exact Or.inr (⟨_, h, trivial⟩)
            · exact Or.inr (⟨_, h, trivial⟩)
          · rcases Classical.em (((z_this_words.2.2.2.2.2.2.2.2.2.2.1 - (200 : Int32)) + (10 : Int32)) = (14 : Int32)) with c2_4 | c2_4
            · replace h := (h).2.2.2.2.1 c2_4
              rcases uu_Gr_readBranches hrf (by assumption) h with ⟨r41, u41, h, e3⟩ | ⟨u, h, -⟩
              · obtain ⟨r42, u42, -, qb4⟩ := dt_Nd_endsWithSemicolon h
                replace h := qb4 _ h
                rcases br_el h with ⟨c5, h⟩ | ⟨c5, h⟩
                · obtain ⟨r43, u43, h, e6⟩ := uu_addV (by assumption) (by rw [c2_4]; unfold UK2 UK; decide) h
                  exact Or.inl ⟨_, _, h, (by assumption)⟩
                · rcases dt_Gr_take h with ⟨r44, u44, -, qb6⟩ | ⟨u, -, qb6⟩
                  · replace h := qb6 _ _ h
                    obtain ⟨r45, u45, h, e7⟩ := uu_addV (by assumption) (by rw [c2_4]; unfold UK2 UK; decide) h
                    exact Or.inl ⟨_, _, h, (by assumption)⟩
                  · replace h := qb6 _ _ h
                    exact Or.inr (⟨_, h, trivial⟩)
              · exact Or.inr (⟨_, h, trivial⟩)
            · rcases Classical.em (((z_this_words.2.2.2.2.2.2.2.2.2.2.1 - (200 : Int32)) + (10 : Int32)) = (15 : Int32)) with c2_5 | c2_5
              · replace h := (h).2.2.2.2.2.1 c2_5
                rcases uu_Gr_readBranches hrf (by assumption) h with ⟨r46, u46, h, e3⟩ | ⟨u, h, -⟩
                · obtain ⟨r47, u47, -, qb4⟩ := dt_Nd_endsWithSemicolon h
                  replace h := qb4 _ h
                  rcases br_el h with ⟨c5, h⟩ | ⟨c5, h⟩
                  · obtain ⟨r48, u48, h, e6⟩ := uu_addV (by assumption) (by rw [c2_5]; unfold UK2 UK; decide) h
                    exact Or.inl ⟨_, _, h, (by assumption)⟩
                  · rcases dt_Gr_take h with ⟨r49, u49, -, qb6⟩ | ⟨u, -, qb6⟩
                    · replace h := qb6 _ _ h
                      obtain ⟨r50, u50, h, e7⟩ := uu_addV (by assumption) (by rw [c2_5]; unfold UK2 UK; decide) h
                      exact Or.inl ⟨_, _, h, (by assumption)⟩
                    · replace h := qb6 _ _ h
                      exact Or.inr (⟨_, h, trivial⟩)
                · exact Or.inr (⟨_, h, trivial⟩)
              · rcases Classical.em (((z_this_words.2.2.2.2.2.2.2.2.2.2.1 - (200 : Int32)) + (10 : Int32)) = (16 : Int32)) with c2_6 | c2_6
                · replace h := (h).2.2.2.2.2.2.1 c2_6
                  rcases uu_Gr_readBranches hrf (by assumption) h with ⟨r51, u51, h, e3⟩ | ⟨u, h, -⟩
                  · obtain ⟨r52, u52, -, qb4⟩ := dt_Nd_endsWithSemicolon h
                    replace h := qb4 _ h
                    rcases br_el h with ⟨c5, h⟩ | ⟨c5, h⟩
                    · obtain ⟨r53, u53, h, e6⟩ := uu_addV (by assumption) (by rw [c2_6]; unfold UK2 UK; decide) h
                      exact Or.inl ⟨_, _, h, (by assumption)⟩
                    · rcases dt_Gr_take h with ⟨r54, u54, -, qb6⟩ | ⟨u, -, qb6⟩
                      · replace h := qb6 _ _ h
                        obtain ⟨r55, u55, h, e7⟩ := uu_addV (by assumption) (by rw [c2_6]; unfold UK2 UK; decide) h
                        exact Or.inl ⟨_, _, h, (by assumption)⟩
                      · replace h := qb6 _ _ h
                        exact Or.inr (⟨_, h, trivial⟩)
                  · exact Or.inr (⟨_, h, trivial⟩)
                · rcases Classical.em (((z_this_words.2.2.2.2.2.2.2.2.2.2.1 - (200 : Int32)) + (10 : Int32)) = (17 : Int32)) with c2_7 | c2_7
                  · replace h := (h).2.2.2.2.2.2.2.1 c2_7
                    rcases uu_Gr_readBranches hrf (by assumption) h with ⟨r56, u56, h, e3⟩ | ⟨u, h, -⟩
                    · obtain ⟨r57, u57, -, qb4⟩ := dt_Nd_endsWithSemicolon h
                      replace h := qb4 _ h
                      rcases br_el h with ⟨c5, h⟩ | ⟨c5, h⟩
                      · obtain ⟨r58, u58, h, e6⟩ := uu_addV (by assumption) (by rw [c2_7]; unfold UK2 UK; decide) h
                        exact Or.inl ⟨_, _, h, (by assumption)⟩
                      · rcases dt_Gr_take h with ⟨r59, u59, -, qb6⟩ | ⟨u, -, qb6⟩
                        · replace h := qb6 _ _ h
                          obtain ⟨r60, u60, h, e7⟩ := uu_addV (by assumption) (by rw [c2_7]; unfold UK2 UK; decide) h
                          exact Or.inl ⟨_, _, h, (by assumption)⟩
                        · replace h := qb6 _ _ h
                          exact Or.inr (⟨_, h, trivial⟩)
                    · exact Or.inr (⟨_, h, trivial⟩)
                  · rcases Classical.em (((z_this_words.2.2.2.2.2.2.2.2.2.2.1 - (200 : Int32)) + (10 : Int32)) = (18 : Int32)) with c2_8 | c2_8
                    · replace h := (h).2.2.2.2.2.2.2.2.1 c2_8
                      rcases uu_Gr_readName (by assumption) h with ⟨r61, u61, h, e3⟩ | ⟨u, h, -⟩
                      · obtain ⟨r62, u62, h, e4⟩ := uu_Nm_use (by assumption) (by assumption) (by decide) h
                        obtain ⟨r63, u63, -, qb5⟩ := dt_Nd_endsWithSemicolon h
                        replace h := qb5 _ h
                        rcases br_el h with ⟨c6, h⟩ | ⟨c6, h⟩
                        · obtain ⟨r64, u64, h, e7⟩ := uu_addB (by assumption) (by assumption) (by rw [c2_8]; exact Or.inl ⟨rfl, Or.inr rfl⟩) h
                          exact Or.inl ⟨_, _, h, (by assumption)⟩
                        · rcases dt_Gr_take h with ⟨r65, u65, -, qb7⟩ | ⟨u, -, qb7⟩
                          · replace h := qb7 _ _ h
                            obtain ⟨r66, u66, h, e8⟩ := uu_addB (by assumption) (by assumption) (by rw [c2_8]; exact Or.inl ⟨rfl, Or.inr rfl⟩) h
                            exact Or.inl ⟨_, _, h, (by assumption)⟩
                          · replace h := qb7 _ _ h
                            exact Or.inr (⟨_, h, trivial⟩)
                      · exact Or.inr (⟨_, h, trivial⟩)
                    · rcases Classical.em (((z_this_words.2.2.2.2.2.2.2.2.2.2.1 - (200 : Int32)) + (10 : Int32)) = (19 : Int32)) with c2_9 | c2_9
                      · replace h := (h).2.2.2.2.2.2.2.2.2.1 c2_9
                        rcases uu_Gr_readName (by assumption) h with ⟨r67, u67, h, e3⟩ | ⟨u, h, -⟩
                        · obtain ⟨r68, u68, -, qb4⟩ := dt_Nd_endsWithSemicolon h
                          replace h := qb4 _ h
                          rcases br_el h with ⟨c5, h⟩ | ⟨c5, h⟩
                          · obtain ⟨r69, u69, h, e6⟩ := uu_addA (by assumption) (by assumption) (by rw [c2_9]; unfold UF; decide) (by rw [c2_9]; decide) (fun _ => rfl) h
                            exact Or.inl ⟨_, _, h, (by assumption)⟩
                          · rcases dt_Gr_take h with ⟨r70, u70, -, qb6⟩ | ⟨u, -, qb6⟩
                            · replace h := qb6 _ _ h
                              obtain ⟨r71, u71, h, e7⟩ := uu_addA (by assumption) (by assumption) (by rw [c2_9]; unfold UF; decide) (by rw [c2_9]; decide) (fun _ => rfl) h
                              exact Or.inl ⟨_, _, h, (by assumption)⟩
                            · replace h := qb6 _ _ h
                              exact Or.inr (⟨_, h, trivial⟩)
                        · exact Or.inr (⟨_, h, trivial⟩)
                      · rcases Classical.em (((z_this_words.2.2.2.2.2.2.2.2.2.2.1 - (200 : Int32)) + (10 : Int32)) = (22 : Int32)) with c2_10 | c2_10
                        · replace h := (h).2.2.2.2.2.2.2.2.2.2.1 c2_10
                          rcases dt_Gr_readAct h with ⟨r72, u72, -, qb3⟩ | ⟨u, -, qb3⟩
                          · replace h := qb3 _ _ h
                            obtain ⟨r73, u73, -, qb4⟩ := dt_Nd_endsWithSemicolon h
                            replace h := qb4 _ h
                            rcases br_el h with ⟨c5, h⟩ | ⟨c5, h⟩
                            · obtain ⟨r74, u74, h, e6⟩ := uu_addV (by assumption) (by rw [c2_10]; unfold UK2 UK; decide) h
                              exact Or.inl ⟨_, _, h, (by assumption)⟩
                            · rcases dt_Gr_take h with ⟨r75, u75, -, qb6⟩ | ⟨u, -, qb6⟩
                              · replace h := qb6 _ _ h
                                obtain ⟨r76, u76, h, e7⟩ := uu_addV (by assumption) (by rw [c2_10]; unfold UK2 UK; decide) h
                                exact Or.inl ⟨_, _, h, (by assumption)⟩
                              · replace h := qb6 _ _ h
                                exact Or.inr (⟨_, h, trivial⟩)
                          · replace h := qb3 _ _ h
                            exact Or.inr (⟨_, h, trivial⟩)
                        · replace h := (h).2.2.2.2.2.2.2.2.2.2.2 ⟨c2_0, c2_1, c2_2, c2_3, c2_4, c2_5, c2_6, c2_7, c2_8, c2_9, c2_10⟩
                          obtain ⟨r85, u85, -, qb3⟩ := dt_Nd_endsWithSemicolon h
                          replace h := qb3 _ h
                          rcases br_el h with ⟨c4, h⟩ | ⟨c4, h⟩
                          · obtain ⟨r86, u86, h, e5⟩ := uu_addV (by assumption) (UK_none ⟨c2_0, c2_1, c2_2, c2_3, c2_4, c2_5, c2_6, c2_7, c2_8, c2_9, c2_10⟩ hk) h
                            exact Or.inl ⟨_, _, h, (by assumption)⟩
                          · rcases dt_Gr_take h with ⟨r87, u87, -, qb5⟩ | ⟨u, -, qb5⟩
                            · replace h := qb5 _ _ h
                              obtain ⟨r88, u88, h, e6⟩ := uu_addV (by assumption) (UK_none ⟨c2_0, c2_1, c2_2, c2_3, c2_4, c2_5, c2_6, c2_7, c2_8, c2_9, c2_10⟩ hk) h
                              exact Or.inl ⟨_, _, h, (by assumption)⟩
                            · replace h := qb5 _ _ h
                              exact Or.inr (⟨_, h, trivial⟩)
  · replace h := qb1 _ _ h
    exact Or.inr (⟨_, h, trivial⟩)
set_option maxHeartbeats 4000000 in
theorem uu_Gr_readBlock_L30 {S : Nat → Int32} {C : Int32} {P : Nat → Prop} {d : Nat} {rf : T_Gr → T_Nm → T_Nd → T_Wd → Int32 → (Unit → T_Gr × T_Nm × T_Nd × T_Wd → Prop) → (T_Gr × T_Nm × T_Nd × T_Wd → Prop) → Prop} (hrf : ∀ (v0 : T_Gr) (v1 : T_Nm) (v2 : T_Nd) (v3 : T_Wd) (v4 : Int32) (post : (Unit → T_Gr × T_Nm × T_Nd × T_Wd → Prop)) (postT : (T_Gr × T_Nm × T_Nd × T_Wd → Prop)), UV S C v1 v2 P → rf v0 v1 v2 v3 v4 post postT → (∃ (w0 : Unit) (w1 : T_Gr × T_Nm × T_Nd × T_Wd), post w0 w1 ∧ UV S C w1.2.1 w1.2.2.1 P) ∨ (∃ (w0 : T_Gr × T_Nm × T_Nd × T_Wd), postT w0 ∧ True)) : ∀ (n9 : Nat) (z_this : T_Gr) (z_this_names : T_Nm) (z_this_nodes : T_Nd) (z_this_words : T_Wd) (x1 : Int32) (x2 : Int32) (x3 : Int32) (x4 : Int32) (K : T_Gr → T_Nm → T_Nd → T_Wd → Int32 → Int32 → Int32 → Int32 → Prop) (post : Unit → T_Gr × T_Nm × T_Nd × T_Wd → Prop) (postT : T_Gr × T_Nm × T_Nd × T_Wd → Prop), UV S C z_this_names z_this_nodes P → wp_Gr_readBlock_L30 d rf K post postT n9 z_this z_this_names z_this_nodes z_this_words x1 x2 x3 x4 → (∃ (w0 : T_Gr) (w1 : T_Nm) (w2 : T_Nd) (w3 : T_Wd) (w4 : Int32) (w5 : Int32) (w6 : Int32) (w7 : Int32), K w0 w1 w2 w3 w4 w5 w6 w7 ∧ UV S C w1 w2 P) ∨ (∃ (w0 : Unit) (w1 : T_Gr × T_Nm × T_Nd × T_Wd), post w0 w1 ∧ UV S C w1.2.1 w1.2.2.1 P) ∨ (∃ (w0 : T_Gr × T_Nm × T_Nd × T_Wd), postT w0 ∧ True) := by
  intro n9
  induction n9 with
  | zero => intro z_this z_this_names z_this_nodes z_this_words x1 x2 x3 x4 K post postT e0 h; exact False.elim h
  | succ n9 ih =>
    intro z_this z_this_names z_this_nodes z_this_words x1 x2 x3 x4 K post postT e0 h
    rw [wp_Gr_readBlock_L30] at h
    rcases br_el h with ⟨c0, h⟩ | ⟨c0, h⟩
    · exact Or.inl ⟨_, _, _, _, _, _, _, _, h, (by assumption)⟩
    · obtain ⟨r4, u4, h, e1⟩ := uu_between h
      rcases br_el h with ⟨c2, h⟩ | ⟨c2, h⟩
      · exact Or.inl ⟨_, _, _, _, _, _, _, _, h, (by assumption)⟩
      · rcases uu_Gr_readStatement hrf (by assumption) (kd_of (by assumption) (by assumption)) h with ⟨r5, u5, h, e3⟩ | ⟨u, h, -⟩
        · rcases ih _ _ _ _ _ _ _ _ _ _ _ (by assumption) h with ⟨w4_0, w4_1, w4_2, w4_3, w4_4, w4_5, w4_6, w4_7, h, e4⟩ | ⟨w4_0, w4_1, h, e4⟩ | ⟨w4_0, h, -⟩
          · exact Or.inl ⟨_, _, _, _, _, _, _, _, h, (by assumption)⟩
          · exact Or.inr (Or.inl ⟨_, _, h, (by assumption)⟩)
          · exact Or.inr (Or.inr (⟨_, h, trivial⟩))
        · exact Or.inr (Or.inr (⟨_, h, trivial⟩))
set_option maxHeartbeats 4000000 in
theorem uu_Gr_readBlock_F {S : Nat → Int32} {C : Int32} {P : Nat → Prop} {d : Nat} {rf : T_Gr → T_Nm → T_Nd → T_Wd → Int32 → (Unit → T_Gr × T_Nm × T_Nd × T_Wd → Prop) → (T_Gr × T_Nm × T_Nd × T_Wd → Prop) → Prop} {z_this : T_Gr} {z_this_names : T_Nm} {z_this_nodes : T_Nd} {z_this_words : T_Wd} {a1 : Int32} (hrf : ∀ (v0 : T_Gr) (v1 : T_Nm) (v2 : T_Nd) (v3 : T_Wd) (v4 : Int32) (post : (Unit → T_Gr × T_Nm × T_Nd × T_Wd → Prop)) (postT : (T_Gr × T_Nm × T_Nd × T_Wd → Prop)), UV S C v1 v2 P → rf v0 v1 v2 v3 v4 post postT → (∃ (w0 : Unit) (w1 : T_Gr × T_Nm × T_Nd × T_Wd), post w0 w1 ∧ UV S C w1.2.1 w1.2.2.1 P) ∨ (∃ (w0 : T_Gr × T_Nm × T_Nd × T_Wd), postT w0 ∧ True)) {post : Unit → T_Gr × T_Nm × T_Nd × T_Wd → Prop} {postT : T_Gr × T_Nm × T_Nd × T_Wd → Prop} (e0 : UV S C z_this_names z_this_nodes P) (h : wp_Gr_readBlock_F d rf z_this z_this_names z_this_nodes z_this_words a1 post postT) : (∃ (w0 : Unit) (w1 : T_Gr × T_Nm × T_Nd × T_Wd), post w0 w1 ∧ UV S C w1.2.1 w1.2.2.1 P) ∨ (∃ (w0 : T_Gr × T_Nm × T_Nd × T_Wd), postT w0 ∧ True) := by
  unfold wp_Gr_readBlock_F at h
  obtain ⟨r1, u1, -, qb0⟩ := dt_Nd_count h
  replace h := qb0 _ h
  rcases dt_Gr_refuseOneMore h with ⟨r2, u2, -, qb1⟩ | ⟨u, -, qb1⟩
  · replace h := qb1 _ _ h
    rcases dt_Gr_take h with ⟨r3, u3, -, qb2⟩ | ⟨u, -, qb2⟩
    · replace h := qb2 _ _ h
      obtain ⟨k3, h⟩ := h
      rcases uu_Gr_readBlock_L30 hrf k3 _ _ _ _ _ _ _ _ _ _ _ (by assumption) h with ⟨z_this, z_this_names, z_this_nodes, z_this_words, x1, x2, x3, x4, h, e3⟩ | ⟨w3_0, w3_1, h, e3⟩ | ⟨w3_0, h, -⟩
      · rcases dt_Gr_take h with ⟨r6, u6, -, qb4⟩ | ⟨u, -, qb4⟩
        · replace h := qb4 _ _ h
          obtain ⟨r7, u7, h, e5⟩ := uu_addV (by assumption) (by first | (unfold UK2 UK; decide) | assumption | exact Or.resolve_left (by assumption) (by assumption)) h
          exact Or.inl ⟨_, _, h, (by assumption)⟩
        · replace h := qb4 _ _ h
          exact Or.inr (⟨_, h, trivial⟩)
      · exact Or.inl ⟨_, _, h, (by assumption)⟩
      · exact Or.inr (⟨_, h, trivial⟩)
    · replace h := qb2 _ _ h
      exact Or.inr (⟨_, h, trivial⟩)
  · replace h := qb1 _ _ h
    exact Or.inr (⟨_, h, trivial⟩)
theorem uu_Gr_readBlock {S : Nat → Int32} {C : Int32} {P : Nat → Prop} (d : Nat) : ∀ (e : Nat), ∀ (v0 : T_Gr) (v1 : T_Nm) (v2 : T_Nd) (v3 : T_Wd) (v4 : Int32) (post : (Unit → T_Gr × T_Nm × T_Nd × T_Wd → Prop)) (postT : (T_Gr × T_Nm × T_Nd × T_Wd → Prop)), UV S C v1 v2 P → wp_Gr_readBlock d e v0 v1 v2 v3 v4 post postT → (∃ (w0 : Unit) (w1 : T_Gr × T_Nm × T_Nd × T_Wd), post w0 w1 ∧ UV S C w1.2.1 w1.2.2.1 P) ∨ (∃ (w0 : T_Gr × T_Nm × T_Nd × T_Wd), postT w0 ∧ True) := by
  intro e
  induction e with
  | zero => intro v0 v1 v2 v3 v4 post postT f0 h; exact False.elim h
  | succ e ih =>
    intro v0 v1 v2 v3 v4 post postT f0 h
    exact uu_Gr_readBlock_F ih f0 h
