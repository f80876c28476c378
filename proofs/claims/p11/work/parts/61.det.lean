theorem br_el {c X Y : Prop} (h : (c → X) ∧ (¬ c → Y)) : (c ∧ X) ∨ (¬ c ∧ Y) := (Classical.em c).elim (fun q => Or.inl ⟨q, h.1 q⟩) (fun q => Or.inr ⟨q, h.2 q⟩)
set_option maxHeartbeats 2000000 in
theorem dt_Nm_empty {z_this : T_Nm} {post : Unit → T_Nm → Prop} (h : wp_Nm_empty z_this post) : (∃ (w0 : Unit) (w1 : T_Nm), (∀ (post : Unit → T_Nm → Prop), post w0 w1 → wp_Nm_empty z_this post) ∧ (∀ (post : Unit → T_Nm → Prop), wp_Nm_empty z_this post → post w0 w1)) := by
  unfold wp_Nm_empty at h
  exact ⟨_, _, fun post q => (by unfold wp_Nm_empty; exact q), fun post h => (by unfold wp_Nm_empty at h; exact h)⟩
set_option maxHeartbeats 2000000 in
theorem dt_Nm_count {z_this : T_Nm} {post : Int32 → Unit → Prop} (h : wp_Nm_count z_this post) : (∃ (w0 : Int32) (w1 : Unit), (∀ (post : Int32 → Unit → Prop), post w0 w1 → wp_Nm_count z_this post) ∧ (∀ (post : Int32 → Unit → Prop), wp_Nm_count z_this post → post w0 w1)) := by
  unfold wp_Nm_count at h
  exact ⟨_, _, fun post q => (by unfold wp_Nm_count; exact q), fun post h => (by unfold wp_Nm_count at h; exact h)⟩
set_option maxHeartbeats 2000000 in
theorem dt_Nm_has {z_this : T_Nm} {a1 : Int32} {post : Int32 → Unit → Prop} (h : wp_Nm_has z_this a1 post) : (∃ (w0 : Int32) (w1 : Unit), (∀ (post : Int32 → Unit → Prop), post w0 w1 → wp_Nm_has z_this a1 post) ∧ (∀ (post : Int32 → Unit → Prop), wp_Nm_has z_this a1 post → post w0 w1)) := by
  unfold wp_Nm_has at h
  rcases br_el h with ⟨c0, h⟩ | ⟨c0, h⟩
  · exact ⟨_, _, fun post q => (by unfold wp_Nm_has; exact (pT c0 (q))), fun post h => (by unfold wp_Nm_has at h; replace h := h.1 c0; exact h)⟩
  · rcases br_el h with ⟨c1, h⟩ | ⟨c1, h⟩
    · exact ⟨_, _, fun post q => (by unfold wp_Nm_has; exact (pF c0 ((pT c1 (q))))), fun post h => (by unfold wp_Nm_has at h; replace h := h.2 c0; replace h := h.1 c1; exact h)⟩
    · rcases br_el h with ⟨c2, h⟩ | ⟨c2, h⟩
      · exact ⟨_, _, fun post q => (by unfold wp_Nm_has; exact (pF c0 ((pF c1 ((pT c2 (q))))))), fun post h => (by unfold wp_Nm_has at h; replace h := h.2 c0; replace h := h.2 c1; replace h := h.1 c2; exact h)⟩
      · exact ⟨_, _, fun post q => (by unfold wp_Nm_has; exact (pF c0 ((pF c1 ((pF c2 (q))))))), fun post h => (by unfold wp_Nm_has at h; replace h := h.2 c0; replace h := h.2 c1; replace h := h.2 c2; exact h)⟩
set_option maxHeartbeats 2000000 in
theorem dt_Nm_find_L2 {z_this : T_Nm} : ∀ (n9 : Nat) (x1 : Int64) (x3 : Int32) (K : Int64 → Int32 → Prop) (post : Int32 → Unit → Prop), wp_Nm_find_L2 z_this K post n9 x1 x3 → (∃ (w0 : Int64) (w1 : Int32), (∀ (K : Int64 → Int32 → Prop) (post : Int32 → Unit → Prop), K w0 w1 → wp_Nm_find_L2 z_this K post n9 x1 x3) ∧ (∀ (m9 : Nat) (K : Int64 → Int32 → Prop) (post : Int32 → Unit → Prop), wp_Nm_find_L2 z_this K post m9 x1 x3 → K w0 w1)) ∨ (∃ (w0 : Int32) (w1 : Unit), (∀ (K : Int64 → Int32 → Prop) (post : Int32 → Unit → Prop), post w0 w1 → wp_Nm_find_L2 z_this K post n9 x1 x3) ∧ (∀ (m9 : Nat) (K : Int64 → Int32 → Prop) (post : Int32 → Unit → Prop), wp_Nm_find_L2 z_this K post m9 x1 x3 → post w0 w1)) := by
  intro n9
  induction n9 with
  | zero => intro x1 x3 K post h; exact False.elim h
  | succ n9 ih =>
    intro x1 x3 K post h
    rw [wp_Nm_find_L2] at h
    rcases br_el h with ⟨c0, h⟩ | ⟨c0, h⟩
    · exact Or.inl ⟨_, _, fun K post q => (by rw [wp_Nm_find_L2]; exact (pT c0 (q))), fun m9 K post h => (by cases m9 with | zero => exact False.elim h | succ m9 => (rw [wp_Nm_find_L2] at h; replace h := h.1 c0; exact h))⟩
    · rcases br_el h with ⟨c1, h⟩ | ⟨c1, h⟩
      · exact Or.inl ⟨_, _, fun K post q => (by rw [wp_Nm_find_L2]; exact (pF c0 ((pT c1 (q))))), fun m9 K post h => (by cases m9 with | zero => exact False.elim h | succ m9 => (rw [wp_Nm_find_L2] at h; replace h := h.2 c0; replace h := h.1 c1; exact h))⟩
      · obtain ⟨s2, h⟩ := h
        rcases br_el h with ⟨c3, h⟩ | ⟨c3, h⟩
        · exact Or.inr (⟨_, _, fun K post q => (by rw [wp_Nm_find_L2]; exact (pF c0 ((pF c1 (⟨s2, (pT c3 (q))⟩))))), fun m9 K post h => (by cases m9 with | zero => exact False.elim h | succ m9 => (rw [wp_Nm_find_L2] at h; replace h := h.2 c0; replace h := h.2 c1; replace h := h.2; replace h := h.1 c3; exact h))⟩)
        · rcases ih _ _ _ _ h with ⟨w4_0, w4_1, qa4, qb4⟩ | ⟨w4_0, w4_1, qa4, qb4⟩
          · exact Or.inl ⟨_, _, fun K post q => (by rw [wp_Nm_find_L2]; exact (pF c0 ((pF c1 (⟨s2, (pF c3 ((qa4 _ _ (q))))⟩))))), fun m9 K post h => (by cases m9 with | zero => exact False.elim h | succ m9 => (rw [wp_Nm_find_L2] at h; replace h := h.2 c0; replace h := h.2 c1; replace h := h.2; replace h := h.2 c3; replace h := qb4 m9 _ _ h; exact h))⟩
          · exact Or.inr (⟨_, _, fun K post q => (by rw [wp_Nm_find_L2]; exact (pF c0 ((pF c1 (⟨s2, (pF c3 ((qa4 _ _ (q))))⟩))))), fun m9 K post h => (by cases m9 with | zero => exact False.elim h | succ m9 => (rw [wp_Nm_find_L2] at h; replace h := h.2 c0; replace h := h.2 c1; replace h := h.2; replace h := h.2 c3; replace h := qb4 m9 _ _ h; exact h))⟩)
set_option maxHeartbeats 2000000 in
theorem dt_Nm_find {z_this : T_Nm} {a1 : Int64} {post : Int32 → Unit → Prop} (h : wp_Nm_find z_this a1 post) : (∃ (w0 : Int32) (w1 : Unit), (∀ (post : Int32 → Unit → Prop), post w0 w1 → wp_Nm_find z_this a1 post) ∧ (∀ (post : Int32 → Unit → Prop), wp_Nm_find z_this a1 post → post w0 w1)) := by
  unfold wp_Nm_find at h
  obtain ⟨k0, h⟩ := h
  rcases dt_Nm_find_L2 k0 _ _ _ _ h with ⟨x1, x3, qa0, qb0⟩ | ⟨w0_0, w0_1, qa0, qb0⟩
  · replace h := qb0 k0 _ _ h
    exact ⟨_, _, fun post q => (by unfold wp_Nm_find; exact ⟨k0, (qa0 _ _ (q))⟩), fun post h => (by unfold wp_Nm_find at h; obtain ⟨m0, h⟩ := h; replace h := qb0 m0 _ _ h; exact h)⟩
  · exact ⟨_, _, fun post q => (by unfold wp_Nm_find; exact ⟨k0, (qa0 _ _ (q))⟩), fun post h => (by unfold wp_Nm_find at h; obtain ⟨m0, h⟩ := h; replace h := qb0 m0 _ _ h; exact h)⟩
set_option maxHeartbeats 2000000 in
theorem dt_Nm_canTell {z_this : T_Nm} {a1 : Int64} {post : Int32 → Unit → Prop} (h : wp_Nm_canTell z_this a1 post) : (∃ (w0 : Int32) (w1 : Unit), (∀ (post : Int32 → Unit → Prop), post w0 w1 → wp_Nm_canTell z_this a1 post) ∧ (∀ (post : Int32 → Unit → Prop), wp_Nm_canTell z_this a1 post → post w0 w1)) := by
  unfold wp_Nm_canTell at h
  rcases br_el h with ⟨c0, h⟩ | ⟨c0, h⟩
  · exact ⟨_, _, fun post q => (by unfold wp_Nm_canTell; exact (pT c0 (q))), fun post h => (by unfold wp_Nm_canTell at h; replace h := h.1 c0; exact h)⟩
  · obtain ⟨r1, u1, qa1, qb1⟩ := dt_Nm_find h
    replace h := qb1 _ h
    rcases br_el h with ⟨c2, h⟩ | ⟨c2, h⟩
    · exact ⟨_, _, fun post q => (by unfold wp_Nm_canTell; exact (pF c0 ((qa1 _ ((pT c2 (q))))))), fun post h => (by unfold wp_Nm_canTell at h; replace h := h.2 c0; replace h := qb1 _ h; replace h := h.1 c2; exact h)⟩
    · exact ⟨_, _, fun post q => (by unfold wp_Nm_canTell; exact (pF c0 ((qa1 _ ((pF c2 (q))))))), fun post h => (by unfold wp_Nm_canTell at h; replace h := h.2 c0; replace h := qb1 _ h; replace h := h.2 c2; exact h)⟩
set_option maxHeartbeats 2000000 in
theorem dt_Nm_tell {z_this : T_Nm} {a1 : Int64} {a3 : Int32} {a4 : Int32} {post : Unit → T_Nm → Prop} (h : wp_Nm_tell z_this a1 a3 a4 post) : (∃ (w0 : Unit) (w1 : T_Nm), (∀ (post : Unit → T_Nm → Prop), post w0 w1 → wp_Nm_tell z_this a1 a3 a4 post) ∧ (∀ (post : Unit → T_Nm → Prop), wp_Nm_tell z_this a1 a3 a4 post → post w0 w1)) := by
  unfold wp_Nm_tell at h
  rcases br_el h with ⟨c0, h⟩ | ⟨c0, h⟩
  · exact ⟨_, _, fun post q => (by unfold wp_Nm_tell; exact (pT c0 (q))), fun post h => (by unfold wp_Nm_tell at h; replace h := h.1 c0; exact h)⟩
  · obtain ⟨s1, h⟩ := h
    obtain ⟨s2, h⟩ := h
    obtain ⟨s3, h⟩ := h
    obtain ⟨s4, h⟩ := h
    exact ⟨_, _, fun post q => (by unfold wp_Nm_tell; exact (pF c0 (⟨s1, ⟨s2, ⟨s3, ⟨s4, q⟩⟩⟩⟩))), fun post h => (by unfold wp_Nm_tell at h; replace h := h.2 c0; replace h := h.2; replace h := h.2; replace h := h.2; replace h := h.2; exact h)⟩
set_option maxHeartbeats 2000000 in
theorem dt_Nm_use {z_this : T_Nm} {a1 : Int32} {post : Unit → T_Nm → Prop} (h : wp_Nm_use z_this a1 post) : (∃ (w0 : Unit) (w1 : T_Nm), (∀ (post : Unit → T_Nm → Prop), post w0 w1 → wp_Nm_use z_this a1 post) ∧ (∀ (post : Unit → T_Nm → Prop), wp_Nm_use z_this a1 post → post w0 w1)) := by
  unfold wp_Nm_use at h
  obtain ⟨r1, u1, qa0, qb0⟩ := dt_Nm_has h
  replace h := qb0 _ h
  rcases br_el h with ⟨c1, h⟩ | ⟨c1, h⟩
  · exact ⟨_, _, fun post q => (by unfold wp_Nm_use; exact (qa0 _ ((pT c1 (q))))), fun post h => (by unfold wp_Nm_use at h; replace h := qb0 _ h; replace h := h.1 c1; exact h)⟩
  · obtain ⟨s2, h⟩ := h
    exact ⟨_, _, fun post q => (by unfold wp_Nm_use; exact (qa0 _ ((pF c1 (⟨s2, q⟩))))), fun post h => (by unfold wp_Nm_use at h; replace h := qb0 _ h; replace h := h.2 c1; replace h := h.2; exact h)⟩
set_option maxHeartbeats 2000000 in
theorem dt_Nm_isUsed {z_this : T_Nm} {a1 : Int32} {post : Int32 → Unit → Prop} (h : wp_Nm_isUsed z_this a1 post) : (∃ (w0 : Int32) (w1 : Unit), (∀ (post : Int32 → Unit → Prop), post w0 w1 → wp_Nm_isUsed z_this a1 post) ∧ (∀ (post : Int32 → Unit → Prop), wp_Nm_isUsed z_this a1 post → post w0 w1)) := by
  unfold wp_Nm_isUsed at h
  obtain ⟨r1, u1, qa0, qb0⟩ := dt_Nm_has h
  replace h := qb0 _ h
  rcases br_el h with ⟨c1, h⟩ | ⟨c1, h⟩
  · exact ⟨_, _, fun post q => (by unfold wp_Nm_isUsed; exact (qa0 _ ((pT c1 (q))))), fun post h => (by unfold wp_Nm_isUsed at h; replace h := qb0 _ h; replace h := h.1 c1; exact h)⟩
  · obtain ⟨s2, h⟩ := h
    rcases br_el h with ⟨c3, h⟩ | ⟨c3, h⟩
    · exact ⟨_, _, fun post q => (by unfold wp_Nm_isUsed; exact (qa0 _ ((pF c1 (⟨s2, (pT c3 (q))⟩))))), fun post h => (by unfold wp_Nm_isUsed at h; replace h := qb0 _ h; replace h := h.2 c1; replace h := h.2; replace h := h.1 c3; exact h)⟩
    · exact ⟨_, _, fun post q => (by unfold wp_Nm_isUsed; exact (qa0 _ ((pF c1 (⟨s2, (pF c3 (q))⟩))))), fun post h => (by unfold wp_Nm_isUsed at h; replace h := qb0 _ h; replace h := h.2 c1; replace h := h.2; replace h := h.2 c3; exact h)⟩
set_option maxHeartbeats 2000000 in
theorem dt_Nm_isUnused {z_this : T_Nm} {a1 : Int32} {a2 : Int32} {post : Int32 → Unit → Prop} (h : wp_Nm_isUnused z_this a1 a2 post) : (∃ (w0 : Int32) (w1 : Unit), (∀ (post : Int32 → Unit → Prop), post w0 w1 → wp_Nm_isUnused z_this a1 a2 post) ∧ (∀ (post : Int32 → Unit → Prop), wp_Nm_isUnused z_this a1 a2 post → post w0 w1)) := by
  unfold wp_Nm_isUnused at h
  obtain ⟨r1, u1, qa0, qb0⟩ := dt_Nm_has h
  replace h := qb0 _ h
  rcases br_el h with ⟨c1, h⟩ | ⟨c1, h⟩
  · exact ⟨_, _, fun post q => (by unfold wp_Nm_isUnused; exact (qa0 _ ((pT c1 (q))))), fun post h => (by unfold wp_Nm_isUnused at h; replace h := qb0 _ h; replace h := h.1 c1; exact h)⟩
  · obtain ⟨s2, h⟩ := h
    rcases br_el h with ⟨c3, h⟩ | ⟨c3, h⟩
    · obtain ⟨s4, h⟩ := h
      rcases br_el h with ⟨c5, h⟩ | ⟨c5, h⟩
      · exact ⟨_, _, fun post q => (by unfold wp_Nm_isUnused; exact (qa0 _ ((pF c1 (⟨s2, (pT c3 (⟨s4, (pT c5 (q))⟩))⟩))))), fun post h => (by unfold wp_Nm_isUnused at h; replace h := qb0 _ h; replace h := h.2 c1; replace h := h.2; replace h := h.1 c3; replace h := h.2; replace h := h.1 c5; exact h)⟩
      · exact ⟨_, _, fun post q => (by unfold wp_Nm_isUnused; exact (qa0 _ ((pF c1 (⟨s2, (pT c3 (⟨s4, (pF c5 (q))⟩))⟩))))), fun post h => (by unfold wp_Nm_isUnused at h; replace h := qb0 _ h; replace h := h.2 c1; replace h := h.2; replace h := h.1 c3; replace h := h.2; replace h := h.2 c5; exact h)⟩
    · exact ⟨_, _, fun post q => (by unfold wp_Nm_isUnused; exact (qa0 _ ((pF c1 (⟨s2, (pF c3 (q))⟩))))), fun post h => (by unfold wp_Nm_isUnused at h; replace h := qb0 _ h; replace h := h.2 c1; replace h := h.2; replace h := h.2 c3; exact h)⟩
set_option maxHeartbeats 2000000 in
theorem dt_Nm_lettersOf {z_this : T_Nm} {a1 : Int32} {post : Int64 → Unit → Prop} (h : wp_Nm_lettersOf z_this a1 post) : (∃ (w0 : Int64) (w1 : Unit), (∀ (post : Int64 → Unit → Prop), post w0 w1 → wp_Nm_lettersOf z_this a1 post) ∧ (∀ (post : Int64 → Unit → Prop), wp_Nm_lettersOf z_this a1 post → post w0 w1)) := by
  unfold wp_Nm_lettersOf at h
  obtain ⟨r1, u1, qa0, qb0⟩ := dt_Nm_has h
  replace h := qb0 _ h
  rcases br_el h with ⟨c1, h⟩ | ⟨c1, h⟩
  · exact ⟨_, _, fun post q => (by unfold wp_Nm_lettersOf; exact (qa0 _ ((pT c1 (q))))), fun post h => (by unfold wp_Nm_lettersOf at h; replace h := qb0 _ h; replace h := h.1 c1; exact h)⟩
  · obtain ⟨s2, h⟩ := h
    exact ⟨_, _, fun post q => (by unfold wp_Nm_lettersOf; exact (qa0 _ ((pF c1 (⟨s2, q⟩))))), fun post h => (by unfold wp_Nm_lettersOf at h; replace h := qb0 _ h; replace h := h.2 c1; replace h := h.2; exact h)⟩
set_option maxHeartbeats 2000000 in
theorem dt_Nm_sortOf {z_this : T_Nm} {a1 : Int32} {post : Int32 → Unit → Prop} (h : wp_Nm_sortOf z_this a1 post) : (∃ (w0 : Int32) (w1 : Unit), (∀ (post : Int32 → Unit → Prop), post w0 w1 → wp_Nm_sortOf z_this a1 post) ∧ (∀ (post : Int32 → Unit → Prop), wp_Nm_sortOf z_this a1 post → post w0 w1)) := by
  unfold wp_Nm_sortOf at h
  obtain ⟨r1, u1, qa0, qb0⟩ := dt_Nm_has h
  replace h := qb0 _ h
  rcases br_el h with ⟨c1, h⟩ | ⟨c1, h⟩
  · exact ⟨_, _, fun post q => (by unfold wp_Nm_sortOf; exact (qa0 _ ((pT c1 (q))))), fun post h => (by unfold wp_Nm_sortOf at h; replace h := qb0 _ h; replace h := h.1 c1; exact h)⟩
  · obtain ⟨s2, h⟩ := h
    exact ⟨_, _, fun post q => (by unfold wp_Nm_sortOf; exact (qa0 _ ((pF c1 (⟨s2, q⟩))))), fun post h => (by unfold wp_Nm_sortOf at h; replace h := qb0 _ h; replace h := h.2 c1; replace h := h.2; exact h)⟩
set_option maxHeartbeats 2000000 in
theorem dt_Nm_measureOf {z_this : T_Nm} {a1 : Int32} {post : Int32 → Unit → Prop} (h : wp_Nm_measureOf z_this a1 post) : (∃ (w0 : Int32) (w1 : Unit), (∀ (post : Int32 → Unit → Prop), post w0 w1 → wp_Nm_measureOf z_this a1 post) ∧ (∀ (post : Int32 → Unit → Prop), wp_Nm_measureOf z_this a1 post → post w0 w1)) := by
  unfold wp_Nm_measureOf at h
  obtain ⟨r1, u1, qa0, qb0⟩ := dt_Nm_has h
  replace h := qb0 _ h
  rcases br_el h with ⟨c1, h⟩ | ⟨c1, h⟩
  · exact ⟨_, _, fun post q => (by unfold wp_Nm_measureOf; exact (qa0 _ ((pT c1 (q))))), fun post h => (by unfold wp_Nm_measureOf at h; replace h := qb0 _ h; replace h := h.1 c1; exact h)⟩
  · obtain ⟨s2, h⟩ := h
    exact ⟨_, _, fun post q => (by unfold wp_Nm_measureOf; exact (qa0 _ ((pF c1 (⟨s2, q⟩))))), fun post h => (by unfold wp_Nm_measureOf at h; replace h := qb0 _ h; replace h := h.2 c1; replace h := h.2; exact h)⟩
set_option maxHeartbeats 2000000 in
theorem dt_Nd_empty {z_this : T_Nd} {post : Unit → T_Nd → Prop} (h : wp_Nd_empty z_this post) : (∃ (w0 : Unit) (w1 : T_Nd), (∀ (post : Unit → T_Nd → Prop), post w0 w1 → wp_Nd_empty z_this post) ∧ (∀ (post : Unit → T_Nd → Prop), wp_Nd_empty z_this post → post w0 w1)) := by
  unfold wp_Nd_empty at h
  exact ⟨_, _, fun post q => (by unfold wp_Nd_empty; exact q), fun post h => (by unfold wp_Nd_empty at h; exact h)⟩
set_option maxHeartbeats 2000000 in
theorem dt_Nd_count {z_this : T_Nd} {post : Int32 → Unit → Prop} (h : wp_Nd_count z_this post) : (∃ (w0 : Int32) (w1 : Unit), (∀ (post : Int32 → Unit → Prop), post w0 w1 → wp_Nd_count z_this post) ∧ (∀ (post : Int32 → Unit → Prop), wp_Nd_count z_this post → post w0 w1)) := by
  unfold wp_Nd_count at h
  exact ⟨_, _, fun post q => (by unfold wp_Nd_count; exact q), fun post h => (by unfold wp_Nd_count at h; exact h)⟩
set_option maxHeartbeats 2000000 in
theorem dt_Nd_statements {z_this : T_Nd} {post : Int32 → Unit → Prop} (h : wp_Nd_statements z_this post) : (∃ (w0 : Int32) (w1 : Unit), (∀ (post : Int32 → Unit → Prop), post w0 w1 → wp_Nd_statements z_this post) ∧ (∀ (post : Int32 → Unit → Prop), wp_Nd_statements z_this post → post w0 w1)) := by
  unfold wp_Nd_statements at h
  exact ⟨_, _, fun post q => (by unfold wp_Nd_statements; exact q), fun post h => (by unfold wp_Nd_statements at h; exact h)⟩
set_option maxHeartbeats 2000000 in
theorem dt_Nd_isTooMany {z_this : T_Nd} {post : Int32 → Unit → Prop} (h : wp_Nd_isTooMany z_this post) : (∃ (w0 : Int32) (w1 : Unit), (∀ (post : Int32 → Unit → Prop), post w0 w1 → wp_Nd_isTooMany z_this post) ∧ (∀ (post : Int32 → Unit → Prop), wp_Nd_isTooMany z_this post → post w0 w1)) := by
  unfold wp_Nd_isTooMany at h
  rcases br_el h with ⟨c0, h⟩ | ⟨c0, h⟩
  · exact ⟨_, _, fun post q => (by unfold wp_Nd_isTooMany; exact (pT c0 (q))), fun post h => (by unfold wp_Nd_isTooMany at h; replace h := h.1 c0; exact h)⟩
  · exact ⟨_, _, fun post q => (by unfold wp_Nd_isTooMany; exact (pF c0 (q))), fun post h => (by unfold wp_Nd_isTooMany at h; replace h := h.2 c0; exact h)⟩
set_option maxHeartbeats 2000000 in
theorem dt_Nd_has {z_this : T_Nd} {a1 : Int32} {post : Int32 → Unit → Prop} (h : wp_Nd_has z_this a1 post) : (∃ (w0 : Int32) (w1 : Unit), (∀ (post : Int32 → Unit → Prop), post w0 w1 → wp_Nd_has z_this a1 post) ∧ (∀ (post : Int32 → Unit → Prop), wp_Nd_has z_this a1 post → post w0 w1)) := by
  unfold wp_Nd_has at h
  rcases br_el h with ⟨c0, h⟩ | ⟨c0, h⟩
  · exact ⟨_, _, fun post q => (by unfold wp_Nd_has; exact (pT c0 (q))), fun post h => (by unfold wp_Nd_has at h; replace h := h.1 c0; exact h)⟩
  · rcases br_el h with ⟨c1, h⟩ | ⟨c1, h⟩
    · exact ⟨_, _, fun post q => (by unfold wp_Nd_has; exact (pF c0 ((pT c1 (q))))), fun post h => (by unfold wp_Nd_has at h; replace h := h.2 c0; replace h := h.1 c1; exact h)⟩
    · rcases br_el h with ⟨c2, h⟩ | ⟨c2, h⟩
      · exact ⟨_, _, fun post q => (by unfold wp_Nd_has; exact (pF c0 ((pF c1 ((pT c2 (q))))))), fun post h => (by unfold wp_Nd_has at h; replace h := h.2 c0; replace h := h.2 c1; replace h := h.1 c2; exact h)⟩
      · exact ⟨_, _, fun post q => (by unfold wp_Nd_has; exact (pF c0 ((pF c1 ((pF c2 (q))))))), fun post h => (by unfold wp_Nd_has at h; replace h := h.2 c0; replace h := h.2 c1; replace h := h.2 c2; exact h)⟩
set_option maxHeartbeats 2000000 in
theorem dt_Nd_chainFrom_L13 : ∀ (n9 : Nat) (z_this : T_Nd) (x1 : Int32) (x2 : Int32) (x3 : Int32) (x4 : Int32) (x5 : Int32) (K : T_Nd → Int32 → Int32 → Int32 → Int32 → Int32 → Prop) (post : Int32 → T_Nd → Prop), wp_Nd_chainFrom_L13 K post n9 z_this x1 x2 x3 x4 x5 → (∃ (w0 : T_Nd) (w1 : Int32) (w2 : Int32) (w3 : Int32) (w4 : Int32) (w5 : Int32), (∀ (K : T_Nd → Int32 → Int32 → Int32 → Int32 → Int32 → Prop) (post : Int32 → T_Nd → Prop), K w0 w1 w2 w3 w4 w5 → wp_Nd_chainFrom_L13 K post n9 z_this x1 x2 x3 x4 x5) ∧ (∀ (m9 : Nat) (K : T_Nd → Int32 → Int32 → Int32 → Int32 → Int32 → Prop) (post : Int32 → T_Nd → Prop), wp_Nd_chainFrom_L13 K post m9 z_this x1 x2 x3 x4 x5 → K w0 w1 w2 w3 w4 w5)) ∨ (∃ (w0 : Int32) (w1 : T_Nd), (∀ (K : T_Nd → Int32 → Int32 → Int32 → Int32 → Int32 → Prop) (post : Int32 → T_Nd → Prop), post w0 w1 → wp_Nd_chainFrom_L13 K post n9 z_this x1 x2 x3 x4 x5) ∧ (∀ (m9 : Nat) (K : T_Nd → Int32 → Int32 → Int32 → Int32 → Int32 → Prop) (post : Int32 → T_Nd → Prop), wp_Nd_chainFrom_L13 K post m9 z_this x1 x2 x3 x4 x5 → post w0 w1)) := by
  intro n9
  induction n9 with
  | zero => intro z_this x1 x2 x3 x4 x5 K post h; exact False.elim h
  | succ n9 ih =>
    intro z_this x1 x2 x3 x4 x5 K post h
    rw [wp_Nd_chainFrom_L13] at h
    rcases br_el h with ⟨c0, h⟩ | ⟨c0, h⟩
    · exact Or.inl ⟨_, _, _, _, _, _, fun K post q => (by rw [wp_Nd_chainFrom_L13]; exact (pT c0 (q))), fun m9 K post h => (by cases m9 with | zero => exact False.elim h | succ m9 => (rw [wp_Nd_chainFrom_L13] at h; replace h := h.1 c0; exact h))⟩
    · rcases br_el h with ⟨c1, h⟩ | ⟨c1, h⟩
      · exact Or.inl ⟨_, _, _, _, _, _, fun K post q => (by rw [wp_Nd_chainFrom_L13]; exact (pF c0 ((pT c1 (q))))), fun m9 K post h => (by cases m9 with | zero => exact False.elim h | succ m9 => (rw [wp_Nd_chainFrom_L13] at h; replace h := h.2 c0; replace h := h.1 c1; exact h))⟩
      · rcases br_el h with ⟨c2, h⟩ | ⟨c2, h⟩
        · exact Or.inl ⟨_, _, _, _, _, _, fun K post q => (by rw [wp_Nd_chainFrom_L13]; exact (pF c0 ((pF c1 ((pT c2 (q))))))), fun m9 K post h => (by cases m9 with | zero => exact False.elim h | succ m9 => (rw [wp_Nd_chainFrom_L13] at h; replace h := h.2 c0; replace h := h.2 c1; replace h := h.1 c2; exact h))⟩
        · rcases br_el h with ⟨c3, h⟩ | ⟨c3, h⟩
          · exact Or.inl ⟨_, _, _, _, _, _, fun K post q => (by rw [wp_Nd_chainFrom_L13]; exact (pF c0 ((pF c1 ((pF c2 ((pT c3 (q))))))))), fun m9 K post h => (by cases m9 with | zero => exact False.elim h | succ m9 => (rw [wp_Nd_chainFrom_L13] at h; replace h := h.2 c0; replace h := h.2 c1; replace h := h.2 c2; replace h := h.1 c3; exact h))⟩
          · obtain ⟨s4, h⟩ := h
            obtain ⟨s5, h⟩ := h
            obtain ⟨s6, h⟩ := h
            rcases ih _ _ _ _ _ _ _ _ h with ⟨w7_0, w7_1, w7_2, w7_3, w7_4, w7_5, qa7, qb7⟩ | ⟨w7_0, w7_1, qa7, qb7⟩
            · exact Or.inl ⟨_, _, _, _, _, _, fun K post q => (by rw [wp_Nd_chainFrom_L13]; exact (pF c0 ((pF c1 ((pF c2 ((pF c3 (⟨s4, ⟨s5, ⟨s6, (qa7 _ _ (q))⟩⟩⟩))))))))), fun m9 K post h => (by cases m9 with | zero => exact False.elim h | succ m9 => (rw [wp_Nd_chainFrom_L13] at h; replace h := h.2 c0; replace h := h.2 c1; replace h := h.2 c2; replace h := h.2 c3; replace h := h.2; replace h := h.2; replace h := h.2; replace h := qb7 m9 _ _ h; exact h))⟩
            · exact Or.inr (⟨_, _, fun K post q => (by rw [wp_Nd_chainFrom_L13]; exact (pF c0 ((pF c1 ((pF c2 ((pF c3 (⟨s4, ⟨s5, ⟨s6, (qa7 _ _ (q))⟩⟩⟩))))))))), fun m9 K post h => (by cases m9 with | zero => exact False.elim h | succ m9 => (rw [wp_Nd_chainFrom_L13] at h; replace h := h.2 c0; replace h := h.2 c1; replace h := h.2 c2; replace h := h.2 c3; replace h := h.2; replace h := h.2; replace h := h.2; replace h := qb7 m9 _ _ h; exact h))⟩)
set_option maxHeartbeats 2000000 in
theorem dt_Nd_chainFrom {z_this : T_Nd} {a1 : Int32} {a2 : Int32} {post : Int32 → T_Nd → Prop} (h : wp_Nd_chainFrom z_this a1 a2 post) : (∃ (w0 : Int32) (w1 : T_Nd), (∀ (post : Int32 → T_Nd → Prop), post w0 w1 → wp_Nd_chainFrom z_this a1 a2 post) ∧ (∀ (post : Int32 → T_Nd → Prop), wp_Nd_chainFrom z_this a1 a2 post → post w0 w1)) := by
  unfold wp_Nd_chainFrom at h
  obtain ⟨k0, h⟩ := h
  rcases dt_Nd_chainFrom_L13 k0 _ _ _ _ _ _ _ _ h with ⟨z_this, x1, x2, x3, x4, x5, qa0, qb0⟩ | ⟨w0_0, w0_1, qa0, qb0⟩
  · replace h := qb0 k0 _ _ h
    exact ⟨_, _, fun post q => (by unfold wp_Nd_chainFrom; exact ⟨k0, (qa0 _ _ (q))⟩), fun post h => (by unfold wp_Nd_chainFrom at h; obtain ⟨m0, h⟩ := h; replace h := qb0 m0 _ _ h; exact h)⟩
  · exact ⟨_, _, fun post q => (by unfold wp_Nd_chainFrom; exact ⟨k0, (qa0 _ _ (q))⟩), fun post h => (by unfold wp_Nd_chainFrom at h; obtain ⟨m0, h⟩ := h; replace h := qb0 m0 _ _ h; exact h)⟩
set_option maxHeartbeats 2000000 in
theorem dt_Nd_followChain_L7 : ∀ (n9 : Nat) (z_this : T_Nd) (x1 : Int32) (x2 : Int32) (x3 : Int32) (x4 : Int32) (K : T_Nd → Int32 → Int32 → Int32 → Int32 → Prop) (post : Int32 → T_Nd → Prop), wp_Nd_followChain_L7 K post n9 z_this x1 x2 x3 x4 → (∃ (w0 : T_Nd) (w1 : Int32) (w2 : Int32) (w3 : Int32) (w4 : Int32), (∀ (K : T_Nd → Int32 → Int32 → Int32 → Int32 → Prop) (post : Int32 → T_Nd → Prop), K w0 w1 w2 w3 w4 → wp_Nd_followChain_L7 K post n9 z_this x1 x2 x3 x4) ∧ (∀ (m9 : Nat) (K : T_Nd → Int32 → Int32 → Int32 → Int32 → Prop) (post : Int32 → T_Nd → Prop), wp_Nd_followChain_L7 K post m9 z_this x1 x2 x3 x4 → K w0 w1 w2 w3 w4)) ∨ (∃ (w0 : Int32) (w1 : T_Nd), (∀ (K : T_Nd → Int32 → Int32 → Int32 → Int32 → Prop) (post : Int32 → T_Nd → Prop), post w0 w1 → wp_Nd_followChain_L7 K post n9 z_this x1 x2 x3 x4) ∧ (∀ (m9 : Nat) (K : T_Nd → Int32 → Int32 → Int32 → Int32 → Prop) (post : Int32 → T_Nd → Prop), wp_Nd_followChain_L7 K post m9 z_this x1 x2 x3 x4 → post w0 w1)) := by
  intro n9
  induction n9 with
  | zero => intro z_this x1 x2 x3 x4 K post h; exact False.elim h
  | succ n9 ih =>
    intro z_this x1 x2 x3 x4 K post h
    rw [wp_Nd_followChain_L7] at h
    rcases br_el h with ⟨c0, h⟩ | ⟨c0, h⟩
    · exact Or.inl ⟨_, _, _, _, _, fun K post q => (by rw [wp_Nd_followChain_L7]; exact (pT c0 (q))), fun m9 K post h => (by cases m9 with | zero => exact False.elim h | succ m9 => (rw [wp_Nd_followChain_L7] at h; replace h := h.1 c0; exact h))⟩
    · rcases br_el h with ⟨c1, h⟩ | ⟨c1, h⟩
      · exact Or.inl ⟨_, _, _, _, _, fun K post q => (by rw [wp_Nd_followChain_L7]; exact (pF c0 ((pT c1 (q))))), fun m9 K post h => (by cases m9 with | zero => exact False.elim h | succ m9 => (rw [wp_Nd_followChain_L7] at h; replace h := h.2 c0; replace h := h.1 c1; exact h))⟩
      · rcases br_el h with ⟨c2, h⟩ | ⟨c2, h⟩
        · exact Or.inl ⟨_, _, _, _, _, fun K post q => (by rw [wp_Nd_followChain_L7]; exact (pF c0 ((pF c1 ((pT c2 (q))))))), fun m9 K post h => (by cases m9 with | zero => exact False.elim h | succ m9 => (rw [wp_Nd_followChain_L7] at h; replace h := h.2 c0; replace h := h.2 c1; replace h := h.1 c2; exact h))⟩
        · obtain ⟨s3, h⟩ := h
          rcases br_el h with ⟨c4, h⟩ | ⟨c4, h⟩
          · obtain ⟨s5, h⟩ := h
            rcases br_el h with ⟨c6, h⟩ | ⟨c6, h⟩
            · obtain ⟨s7, h⟩ := h
              rcases ih _ _ _ _ _ _ _ h with ⟨w8_0, w8_1, w8_2, w8_3, w8_4, qa8, qb8⟩ | ⟨w8_0, w8_1, qa8, qb8⟩
              · exact Or.inl ⟨_, _, _, _, _, fun K post q => (by rw [wp_Nd_followChain_L7]; exact (pF c0 ((pF c1 ((pF c2 (⟨s3, (pT c4 (⟨s5, (pT c6 (⟨s7, (qa8 _ _ (q))⟩))⟩))⟩))))))), fun m9 K post h => (by cases m9 with | zero => exact False.elim h | succ m9 => (rw [wp_Nd_followChain_L7] at h; replace h := h.2 c0; replace h := h.2 c1; replace h := h.2 c2; replace h := h.2; replace h := h.1 c4; replace h := h.2; replace h := h.1 c6; replace h := h.2; replace h := qb8 m9 _ _ h; exact h))⟩
              · exact Or.inr (⟨_, _, fun K post q => (by rw [wp_Nd_followChain_L7]; exact (pF c0 ((pF c1 ((pF c2 (⟨s3, (pT c4 (⟨s5, (pT c6 (⟨s7, (qa8 _ _ (q))⟩))⟩))⟩))))))), fun m9 K post h => (by cases m9 with | zero => exact False.elim h | succ m9 => (rw [wp_Nd_followChain_L7] at h; replace h := h.2 c0; replace h := h.2 c1; replace h := h.2 c2; replace h := h.2; replace h := h.1 c4; replace h := h.2; replace h := h.1 c6; replace h := h.2; replace h := qb8 m9 _ _ h; exact h))⟩)
            · obtain ⟨s7, h⟩ := h
              rcases ih _ _ _ _ _ _ _ h with ⟨w8_0, w8_1, w8_2, w8_3, w8_4, qa8, qb8⟩ | ⟨w8_0, w8_1, qa8, qb8⟩
              · exact Or.inl ⟨_, _, _, _, _, fun K post q => (by rw [wp_Nd_followChain_L7]; exact (pF c0 ((pF c1 ((pF c2 (⟨s3, (pT c4 (⟨s5, (pF c6 (⟨s7, (qa8 _ _ (q))⟩))⟩))⟩))))))), fun m9 K post h => (by cases m9 with | zero => exact False.elim h | succ m9 => (rw [wp_Nd_followChain_L7] at h; replace h := h.2 c0; replace h := h.2 c1; replace h := h.2 c2; replace h := h.2; replace h := h.1 c4; replace h := h.2; replace h := h.2 c6; replace h := h.2; replace h := qb8 m9 _ _ h; exact h))⟩
              · exact Or.inr (⟨_, _, fun K post q => (by rw [wp_Nd_followChain_L7]; exact (pF c0 ((pF c1 ((pF c2 (⟨s3, (pT c4 (⟨s5, (pF c6 (⟨s7, (qa8 _ _ (q))⟩))⟩))⟩))))))), fun m9 K post h => (by cases m9 with | zero => exact False.elim h | succ m9 => (rw [wp_Nd_followChain_L7] at h; replace h := h.2 c0; replace h := h.2 c1; replace h := h.2 c2; replace h := h.2; replace h := h.1 c4; replace h := h.2; replace h := h.2 c6; replace h := h.2; replace h := qb8 m9 _ _ h; exact h))⟩)
          · obtain ⟨s5, h⟩ := h
            rcases ih _ _ _ _ _ _ _ h with ⟨w6_0, w6_1, w6_2, w6_3, w6_4, qa6, qb6⟩ | ⟨w6_0, w6_1, qa6, qb6⟩
            · exact Or.inl ⟨_, _, _, _, _, fun K post q => (by rw [wp_Nd_followChain_L7]; exact (pF c0 ((pF c1 ((pF c2 (⟨s3, (pF c4 (⟨s5, (qa6 _ _ (q))⟩))⟩))))))), fun m9 K post h => (by cases m9 with | zero => exact False.elim h | succ m9 => (rw [wp_Nd_followChain_L7] at h; replace h := h.2 c0; replace h := h.2 c1; replace h := h.2 c2; replace h := h.2; replace h := h.2 c4; replace h := h.2; replace h := qb6 m9 _ _ h; exact h))⟩
            · exact Or.inr (⟨_, _, fun K post q => (by rw [wp_Nd_followChain_L7]; exact (pF c0 ((pF c1 ((pF c2 (⟨s3, (pF c4 (⟨s5, (qa6 _ _ (q))⟩))⟩))))))), fun m9 K post h => (by cases m9 with | zero => exact False.elim h | succ m9 => (rw [wp_Nd_followChain_L7] at h; replace h := h.2 c0; replace h := h.2 c1; replace h := h.2 c2; replace h := h.2; replace h := h.2 c4; replace h := h.2; replace h := qb6 m9 _ _ h; exact h))⟩)
set_option maxHeartbeats 2000000 in
theorem dt_Nd_followChain {z_this : T_Nd} {a1 : Int32} {post : Int32 → T_Nd → Prop} (h : wp_Nd_followChain z_this a1 post) : (∃ (w0 : Int32) (w1 : T_Nd), (∀ (post : Int32 → T_Nd → Prop), post w0 w1 → wp_Nd_followChain z_this a1 post) ∧ (∀ (post : Int32 → T_Nd → Prop), wp_Nd_followChain z_this a1 post → post w0 w1)) := by
  unfold wp_Nd_followChain at h
  obtain ⟨k0, h⟩ := h
  rcases dt_Nd_followChain_L7 k0 _ _ _ _ _ _ _ h with ⟨z_this, x1, x2, x3, x4, qa0, qb0⟩ | ⟨w0_0, w0_1, qa0, qb0⟩
  · replace h := qb0 k0 _ _ h
    exact ⟨_, _, fun post q => (by unfold wp_Nd_followChain; exact ⟨k0, (qa0 _ _ (q))⟩), fun post h => (by unfold wp_Nd_followChain at h; obtain ⟨m0, h⟩ := h; replace h := qb0 m0 _ _ h; exact h)⟩
  · exact ⟨_, _, fun post q => (by unfold wp_Nd_followChain; exact ⟨k0, (qa0 _ _ (q))⟩), fun post h => (by unfold wp_Nd_followChain at h; obtain ⟨m0, h⟩ := h; replace h := qb0 m0 _ _ h; exact h)⟩
set_option maxHeartbeats 2000000 in
theorem dt_Nd_add {z_this : T_Nd} {a1 : Int32} {a2 : Int32} {a3 : Int32} {a4 : Int64} {a6 : Int32} {post : Int32 → T_Nd → Prop} (h : wp_Nd_add z_this a1 a2 a3 a4 a6 post) : (∃ (w0 : Int32) (w1 : T_Nd), (∀ (post : Int32 → T_Nd → Prop), post w0 w1 → wp_Nd_add z_this a1 a2 a3 a4 a6 post) ∧ (∀ (post : Int32 → T_Nd → Prop), wp_Nd_add z_this a1 a2 a3 a4 a6 post → post w0 w1)) := by
  unfold wp_Nd_add at h
  rcases br_el h with ⟨c0, h⟩ | ⟨c0, h⟩
  · obtain ⟨s1, h⟩ := h
    obtain ⟨s2, h⟩ := h
    obtain ⟨s3, h⟩ := h
    obtain ⟨s4, h⟩ := h
    obtain ⟨s5, h⟩ := h
    obtain ⟨r1, u1, qa6, qb6⟩ := dt_Nd_chainFrom h
    replace h := qb6 _ h
    obtain ⟨s7, h⟩ := h
    obtain ⟨s8, h⟩ := h
    obtain ⟨r2, u2, qa9, qb9⟩ := dt_Nd_followChain h
    replace h := qb9 _ h
    obtain ⟨s10, h⟩ := h
    rcases br_el h with ⟨c11, h⟩ | ⟨c11, h⟩
    · exact ⟨_, _, fun post q => (by unfold wp_Nd_add; exact (pT c0 (⟨s1, ⟨s2, ⟨s3, ⟨s4, ⟨s5, (qa6 _ (⟨s7, ⟨s8, (qa9 _ (⟨s10, (pT c11 (q))⟩))⟩⟩))⟩⟩⟩⟩⟩))), fun post h => (by unfold wp_Nd_add at h; replace h := h.1 c0; replace h := h.2; replace h := h.2; replace h := h.2; replace h := h.2; replace h := h.2; replace h := qb6 _ h; replace h := h.2; replace h := h.2; replace h := qb9 _ h; replace h := h.2; replace h := h.1 c11; exact h)⟩
    · rcases br_el h with ⟨c12, h⟩ | ⟨c12, h⟩
      · exact ⟨_, _, fun post q => (by unfold wp_Nd_add; exact (pT c0 (⟨s1, ⟨s2, ⟨s3, ⟨s4, ⟨s5, (qa6 _ (⟨s7, ⟨s8, (qa9 _ (⟨s10, (pF c11 ((pT c12 (q))))⟩))⟩⟩))⟩⟩⟩⟩⟩))), fun post h => (by unfold wp_Nd_add at h; replace h := h.1 c0; replace h := h.2; replace h := h.2; replace h := h.2; replace h := h.2; replace h := h.2; replace h := qb6 _ h; replace h := h.2; replace h := h.2; replace h := qb9 _ h; replace h := h.2; replace h := h.2 c11; replace h := h.1 c12; exact h)⟩
      · exact ⟨_, _, fun post q => (by unfold wp_Nd_add; exact (pT c0 (⟨s1, ⟨s2, ⟨s3, ⟨s4, ⟨s5, (qa6 _ (⟨s7, ⟨s8, (qa9 _ (⟨s10, (pF c11 ((pF c12 (q))))⟩))⟩⟩))⟩⟩⟩⟩⟩))), fun post h => (by unfold wp_Nd_add at h; replace h := h.1 c0; replace h := h.2; replace h := h.2; replace h := h.2; replace h := h.2; replace h := h.2; replace h := qb6 _ h; replace h := h.2; replace h := h.2; replace h := qb9 _ h; replace h := h.2; replace h := h.2 c11; replace h := h.2 c12; exact h)⟩
  · exact ⟨_, _, fun post q => (by unfold wp_Nd_add; exact (pF c0 (q))), fun post h => (by unfold wp_Nd_add at h; replace h := h.2 c0; exact h)⟩
set_option maxHeartbeats 2000000 in
theorem dt_Nd_finish {z_this : T_Nd} {post : Unit → T_Nd → Prop} (h : wp_Nd_finish z_this post) : (∃ (w0 : Unit) (w1 : T_Nd), (∀ (post : Unit → T_Nd → Prop), post w0 w1 → wp_Nd_finish z_this post) ∧ (∀ (post : Unit → T_Nd → Prop), wp_Nd_finish z_this post → post w0 w1)) := by
  unfold wp_Nd_finish at h
  obtain ⟨r1, u1, qa0, qb0⟩ := dt_Nd_chainFrom h
  replace h := qb0 _ h
  obtain ⟨r2, u2, qa1, qb1⟩ := dt_Nd_followChain h
  replace h := qb1 _ h
  exact ⟨_, _, fun post q => (by unfold wp_Nd_finish; exact (qa0 _ ((qa1 _ (q))))), fun post h => (by unfold wp_Nd_finish at h; replace h := qb0 _ h; replace h := qb1 _ h; exact h)⟩
set_option maxHeartbeats 2000000 in
theorem dt_Nd_endsWithSemicolon {a0 : Int32} {post : Int32 → Unit → Prop} (h : wp_Nd_endsWithSemicolon a0 post) : (∃ (w0 : Int32) (w1 : Unit), (∀ (post : Int32 → Unit → Prop), post w0 w1 → wp_Nd_endsWithSemicolon a0 post) ∧ (∀ (post : Int32 → Unit → Prop), wp_Nd_endsWithSemicolon a0 post → post w0 w1)) := by
  unfold wp_Nd_endsWithSemicolon at h
  rcases br_el h with ⟨c0, h⟩ | ⟨c0, h⟩
  · rcases br_el h with ⟨c1, h⟩ | ⟨c1, h⟩
    · exact ⟨_, _, fun post q => (by unfold wp_Nd_endsWithSemicolon; exact (pT c0 ((pT c1 (q))))), fun post h => (by unfold wp_Nd_endsWithSemicolon at h; replace h := h.1 c0; replace h := h.1 c1; exact h)⟩
    · rcases br_el h with ⟨c2, h⟩ | ⟨c2, h⟩
      · exact ⟨_, _, fun post q => (by unfold wp_Nd_endsWithSemicolon; exact (pT c0 ((pF c1 ((pT c2 (q))))))), fun post h => (by unfold wp_Nd_endsWithSemicolon at h; replace h := h.1 c0; replace h := h.2 c1; replace h := h.1 c2; exact h)⟩
      · exact ⟨_, _, fun post q => (by unfold wp_Nd_endsWithSemicolon; exact (pT c0 ((pF c1 ((pF c2 (q))))))), fun post h => (by unfold wp_Nd_endsWithSemicolon at h; replace h := h.1 c0; replace h := h.2 c1; replace h := h.2 c2; exact h)⟩
  · rcases br_el h with ⟨c1, h⟩ | ⟨c1, h⟩
    · exact ⟨_, _, fun post q => (by unfold wp_Nd_endsWithSemicolon; exact (pF c0 ((pT c1 (q))))), fun post h => (by unfold wp_Nd_endsWithSemicolon at h; replace h := h.2 c0; replace h := h.1 c1; exact h)⟩
    · rcases br_el h with ⟨c2, h⟩ | ⟨c2, h⟩
      · exact ⟨_, _, fun post q => (by unfold wp_Nd_endsWithSemicolon; exact (pF c0 ((pF c1 ((pT c2 (q))))))), fun post h => (by unfold wp_Nd_endsWithSemicolon at h; replace h := h.2 c0; replace h := h.2 c1; replace h := h.1 c2; exact h)⟩
      · rcases br_el h with ⟨c3, h⟩ | ⟨c3, h⟩
        · exact ⟨_, _, fun post q => (by unfold wp_Nd_endsWithSemicolon; exact (pF c0 ((pF c1 ((pF c2 ((pT c3 (q))))))))), fun post h => (by unfold wp_Nd_endsWithSemicolon at h; replace h := h.2 c0; replace h := h.2 c1; replace h := h.2 c2; replace h := h.1 c3; exact h)⟩
        · exact ⟨_, _, fun post q => (by unfold wp_Nd_endsWithSemicolon; exact (pF c0 ((pF c1 ((pF c2 ((pF c3 (q))))))))), fun post h => (by unfold wp_Nd_endsWithSemicolon at h; replace h := h.2 c0; replace h := h.2 c1; replace h := h.2 c2; replace h := h.2 c3; exact h)⟩
set_option maxHeartbeats 2000000 in
theorem dt_Nd_kindOf {z_this : T_Nd} {a1 : Int32} {post : Int32 → Unit → Prop} (h : wp_Nd_kindOf z_this a1 post) : (∃ (w0 : Int32) (w1 : Unit), (∀ (post : Int32 → Unit → Prop), post w0 w1 → wp_Nd_kindOf z_this a1 post) ∧ (∀ (post : Int32 → Unit → Prop), wp_Nd_kindOf z_this a1 post → post w0 w1)) := by
  unfold wp_Nd_kindOf at h
  obtain ⟨r1, u1, qa0, qb0⟩ := dt_Nd_has h
  replace h := qb0 _ h
  rcases br_el h with ⟨c1, h⟩ | ⟨c1, h⟩
  · exact ⟨_, _, fun post q => (by unfold wp_Nd_kindOf; exact (qa0 _ ((pT c1 (q))))), fun post h => (by unfold wp_Nd_kindOf at h; replace h := qb0 _ h; replace h := h.1 c1; exact h)⟩
  · obtain ⟨s2, h⟩ := h
    exact ⟨_, _, fun post q => (by unfold wp_Nd_kindOf; exact (qa0 _ ((pF c1 (⟨s2, q⟩))))), fun post h => (by unfold wp_Nd_kindOf at h; replace h := qb0 _ h; replace h := h.2 c1; replace h := h.2; exact h)⟩
set_option maxHeartbeats 2000000 in
theorem dt_Nd_lowOf {z_this : T_Nd} {a1 : Int32} {post : Int32 → Unit → Prop} (h : wp_Nd_lowOf z_this a1 post) : (∃ (w0 : Int32) (w1 : Unit), (∀ (post : Int32 → Unit → Prop), post w0 w1 → wp_Nd_lowOf z_this a1 post) ∧ (∀ (post : Int32 → Unit → Prop), wp_Nd_lowOf z_this a1 post → post w0 w1)) := by
  unfold wp_Nd_lowOf at h
  obtain ⟨r1, u1, qa0, qb0⟩ := dt_Nd_has h
  replace h := qb0 _ h
  rcases br_el h with ⟨c1, h⟩ | ⟨c1, h⟩
  · exact ⟨_, _, fun post q => (by unfold wp_Nd_lowOf; exact (qa0 _ ((pT c1 (q))))), fun post h => (by unfold wp_Nd_lowOf at h; replace h := qb0 _ h; replace h := h.1 c1; exact h)⟩
  · obtain ⟨s2, h⟩ := h
    exact ⟨_, _, fun post q => (by unfold wp_Nd_lowOf; exact (qa0 _ ((pF c1 (⟨s2, q⟩))))), fun post h => (by unfold wp_Nd_lowOf at h; replace h := qb0 _ h; replace h := h.2 c1; replace h := h.2; exact h)⟩
set_option maxHeartbeats 2000000 in
theorem dt_Nd_rowOf {z_this : T_Nd} {a1 : Int32} {post : Int32 → Unit → Prop} (h : wp_Nd_rowOf z_this a1 post) : (∃ (w0 : Int32) (w1 : Unit), (∀ (post : Int32 → Unit → Prop), post w0 w1 → wp_Nd_rowOf z_this a1 post) ∧ (∀ (post : Int32 → Unit → Prop), wp_Nd_rowOf z_this a1 post → post w0 w1)) := by
  unfold wp_Nd_rowOf at h
  obtain ⟨r1, u1, qa0, qb0⟩ := dt_Nd_has h
  replace h := qb0 _ h
  rcases br_el h with ⟨c1, h⟩ | ⟨c1, h⟩
  · exact ⟨_, _, fun post q => (by unfold wp_Nd_rowOf; exact (qa0 _ ((pT c1 (q))))), fun post h => (by unfold wp_Nd_rowOf at h; replace h := qb0 _ h; replace h := h.1 c1; exact h)⟩
  · obtain ⟨s2, h⟩ := h
    exact ⟨_, _, fun post q => (by unfold wp_Nd_rowOf; exact (qa0 _ ((pF c1 (⟨s2, q⟩))))), fun post h => (by unfold wp_Nd_rowOf at h; replace h := qb0 _ h; replace h := h.2 c1; replace h := h.2; exact h)⟩
set_option maxHeartbeats 2000000 in
theorem dt_Nd_valueOf {z_this : T_Nd} {a1 : Int32} {post : Int64 → Unit → Prop} (h : wp_Nd_valueOf z_this a1 post) : (∃ (w0 : Int64) (w1 : Unit), (∀ (post : Int64 → Unit → Prop), post w0 w1 → wp_Nd_valueOf z_this a1 post) ∧ (∀ (post : Int64 → Unit → Prop), wp_Nd_valueOf z_this a1 post → post w0 w1)) := by
  unfold wp_Nd_valueOf at h
  obtain ⟨r1, u1, qa0, qb0⟩ := dt_Nd_has h
  replace h := qb0 _ h
  rcases br_el h with ⟨c1, h⟩ | ⟨c1, h⟩
  · exact ⟨_, _, fun post q => (by unfold wp_Nd_valueOf; exact (qa0 _ ((pT c1 (q))))), fun post h => (by unfold wp_Nd_valueOf at h; replace h := qb0 _ h; replace h := h.1 c1; exact h)⟩
  · obtain ⟨s2, h⟩ := h
    exact ⟨_, _, fun post q => (by unfold wp_Nd_valueOf; exact (qa0 _ ((pF c1 (⟨s2, q⟩))))), fun post h => (by unfold wp_Nd_valueOf at h; replace h := qb0 _ h; replace h := h.2 c1; replace h := h.2; exact h)⟩
set_option maxHeartbeats 2000000 in
theorem dt_Nd_subjectOf {z_this : T_Nd} {a1 : Int32} {post : Int32 → Unit → Prop} (h : wp_Nd_subjectOf z_this a1 post) : (∃ (w0 : Int32) (w1 : Unit), (∀ (post : Int32 → Unit → Prop), post w0 w1 → wp_Nd_subjectOf z_this a1 post) ∧ (∀ (post : Int32 → Unit → Prop), wp_Nd_subjectOf z_this a1 post → post w0 w1)) := by
  unfold wp_Nd_subjectOf at h
  obtain ⟨r1, u1, qa0, qb0⟩ := dt_Nd_valueOf h
  replace h := qb0 _ h
  exact ⟨_, _, fun post q => (by unfold wp_Nd_subjectOf; exact (qa0 _ (q))), fun post h => (by unfold wp_Nd_subjectOf at h; replace h := qb0 _ h; exact h)⟩
set_option maxHeartbeats 2000000 in
theorem dt_Nd_measureOf {z_this : T_Nd} {a1 : Int32} {post : Int32 → Unit → Prop} (h : wp_Nd_measureOf z_this a1 post) : (∃ (w0 : Int32) (w1 : Unit), (∀ (post : Int32 → Unit → Prop), post w0 w1 → wp_Nd_measureOf z_this a1 post) ∧ (∀ (post : Int32 → Unit → Prop), wp_Nd_measureOf z_this a1 post → post w0 w1)) := by
  unfold wp_Nd_measureOf at h
  obtain ⟨r1, u1, qa0, qb0⟩ := dt_Nd_has h
  replace h := qb0 _ h
  rcases br_el h with ⟨c1, h⟩ | ⟨c1, h⟩
  · exact ⟨_, _, fun post q => (by unfold wp_Nd_measureOf; exact (qa0 _ ((pT c1 (q))))), fun post h => (by unfold wp_Nd_measureOf at h; replace h := qb0 _ h; replace h := h.1 c1; exact h)⟩
  · obtain ⟨s2, h⟩ := h
    exact ⟨_, _, fun post q => (by unfold wp_Nd_measureOf; exact (qa0 _ ((pF c1 (⟨s2, q⟩))))), fun post h => (by unfold wp_Nd_measureOf at h; replace h := qb0 _ h; replace h := h.2 c1; replace h := h.2; exact h)⟩
set_option maxHeartbeats 2000000 in
theorem dt_Nd_sizeOf {z_this : T_Nd} {a1 : Int32} {post : Int32 → Unit → Prop} (h : wp_Nd_sizeOf z_this a1 post) : (∃ (w0 : Int32) (w1 : Unit), (∀ (post : Int32 → Unit → Prop), post w0 w1 → wp_Nd_sizeOf z_this a1 post) ∧ (∀ (post : Int32 → Unit → Prop), wp_Nd_sizeOf z_this a1 post → post w0 w1)) := by
  unfold wp_Nd_sizeOf at h
  obtain ⟨r1, u1, qa0, qb0⟩ := dt_Nd_has h
  replace h := qb0 _ h
  rcases br_el h with ⟨c1, h⟩ | ⟨c1, h⟩
  · exact ⟨_, _, fun post q => (by unfold wp_Nd_sizeOf; exact (qa0 _ ((pT c1 (q))))), fun post h => (by unfold wp_Nd_sizeOf at h; replace h := qb0 _ h; replace h := h.1 c1; exact h)⟩
  · obtain ⟨s2, h⟩ := h
    exact ⟨_, _, fun post q => (by unfold wp_Nd_sizeOf; exact (qa0 _ ((pF c1 (⟨s2, q⟩))))), fun post h => (by unfold wp_Nd_sizeOf at h; replace h := qb0 _ h; replace h := h.2 c1; replace h := h.2; exact h)⟩
set_option maxHeartbeats 2000000 in
theorem dt_Nd_parentOf {z_this : T_Nd} {a1 : Int32} {post : Int32 → Unit → Prop} (h : wp_Nd_parentOf z_this a1 post) : (∃ (w0 : Int32) (w1 : Unit), (∀ (post : Int32 → Unit → Prop), post w0 w1 → wp_Nd_parentOf z_this a1 post) ∧ (∀ (post : Int32 → Unit → Prop), wp_Nd_parentOf z_this a1 post → post w0 w1)) := by
  unfold wp_Nd_parentOf at h
  obtain ⟨r1, u1, qa0, qb0⟩ := dt_Nd_has h
  replace h := qb0 _ h
  rcases br_el h with ⟨c1, h⟩ | ⟨c1, h⟩
  · exact ⟨_, _, fun post q => (by unfold wp_Nd_parentOf; exact (qa0 _ ((pT c1 (q))))), fun post h => (by unfold wp_Nd_parentOf at h; replace h := qb0 _ h; replace h := h.1 c1; exact h)⟩
  · obtain ⟨s2, h⟩ := h
    exact ⟨_, _, fun post q => (by unfold wp_Nd_parentOf; exact (qa0 _ ((pF c1 (⟨s2, q⟩))))), fun post h => (by unfold wp_Nd_parentOf at h; replace h := qb0 _ h; replace h := h.2 c1; replace h := h.2; exact h)⟩
set_option maxHeartbeats 2000000 in
theorem dt_Nd_nextOf {z_this : T_Nd} {a1 : Int32} {post : Int32 → Unit → Prop} (h : wp_Nd_nextOf z_this a1 post) : (∃ (w0 : Int32) (w1 : Unit), (∀ (post : Int32 → Unit → Prop), post w0 w1 → wp_Nd_nextOf z_this a1 post) ∧ (∀ (post : Int32 → Unit → Prop), wp_Nd_nextOf z_this a1 post → post w0 w1)) := by
  unfold wp_Nd_nextOf at h
  obtain ⟨r1, u1, qa0, qb0⟩ := dt_Nd_has h
  replace h := qb0 _ h
  rcases br_el h with ⟨c1, h⟩ | ⟨c1, h⟩
  · exact ⟨_, _, fun post q => (by unfold wp_Nd_nextOf; exact (qa0 _ ((pT c1 (q))))), fun post h => (by unfold wp_Nd_nextOf at h; replace h := qb0 _ h; replace h := h.1 c1; exact h)⟩
  · obtain ⟨s2, h⟩ := h
    exact ⟨_, _, fun post q => (by unfold wp_Nd_nextOf; exact (qa0 _ ((pF c1 (⟨s2, q⟩))))), fun post h => (by unfold wp_Nd_nextOf at h; replace h := qb0 _ h; replace h := h.2 c1; replace h := h.2; exact h)⟩
set_option maxHeartbeats 2000000 in
theorem dt_Nd_isLate {z_this : T_Nd} {a1 : Int32} {post : Int32 → Unit → Prop} (h : wp_Nd_isLate z_this a1 post) : (∃ (w0 : Int32) (w1 : Unit), (∀ (post : Int32 → Unit → Prop), post w0 w1 → wp_Nd_isLate z_this a1 post) ∧ (∀ (post : Int32 → Unit → Prop), wp_Nd_isLate z_this a1 post → post w0 w1)) := by
  unfold wp_Nd_isLate at h
  obtain ⟨r1, u1, qa0, qb0⟩ := dt_Nd_has h
  replace h := qb0 _ h
  rcases br_el h with ⟨c1, h⟩ | ⟨c1, h⟩
  · exact ⟨_, _, fun post q => (by unfold wp_Nd_isLate; exact (qa0 _ ((pT c1 (q))))), fun post h => (by unfold wp_Nd_isLate at h; replace h := qb0 _ h; replace h := h.1 c1; exact h)⟩
  · obtain ⟨s2, h⟩ := h
    rcases br_el h with ⟨c3, h⟩ | ⟨c3, h⟩
    · exact ⟨_, _, fun post q => (by unfold wp_Nd_isLate; exact (qa0 _ ((pF c1 (⟨s2, (pT c3 (q))⟩))))), fun post h => (by unfold wp_Nd_isLate at h; replace h := qb0 _ h; replace h := h.2 c1; replace h := h.2; replace h := h.1 c3; exact h)⟩
    · exact ⟨_, _, fun post q => (by unfold wp_Nd_isLate; exact (qa0 _ ((pF c1 (⟨s2, (pF c3 (q))⟩))))), fun post h => (by unfold wp_Nd_isLate at h; replace h := qb0 _ h; replace h := h.2 c1; replace h := h.2; replace h := h.2 c3; exact h)⟩
set_option maxHeartbeats 2000000 in
theorem dt_Nd_firstOf {z_this : T_Nd} {a1 : Int32} {post : Int32 → Unit → Prop} (h : wp_Nd_firstOf z_this a1 post) : (∃ (w0 : Int32) (w1 : Unit), (∀ (post : Int32 → Unit → Prop), post w0 w1 → wp_Nd_firstOf z_this a1 post) ∧ (∀ (post : Int32 → Unit → Prop), wp_Nd_firstOf z_this a1 post → post w0 w1)) := by
  unfold wp_Nd_firstOf at h
  rcases br_el h with ⟨c0, h⟩ | ⟨c0, h⟩
  · exact ⟨_, _, fun post q => (by unfold wp_Nd_firstOf; exact (pT c0 (q))), fun post h => (by unfold wp_Nd_firstOf at h; replace h := h.1 c0; exact h)⟩
  · obtain ⟨r1, u1, qa1, qb1⟩ := dt_Nd_has h
    replace h := qb1 _ h
    rcases br_el h with ⟨c2, h⟩ | ⟨c2, h⟩
    · exact ⟨_, _, fun post q => (by unfold wp_Nd_firstOf; exact (pF c0 ((qa1 _ ((pT c2 (q))))))), fun post h => (by unfold wp_Nd_firstOf at h; replace h := h.2 c0; replace h := qb1 _ h; replace h := h.1 c2; exact h)⟩
    · obtain ⟨s3, h⟩ := h
      exact ⟨_, _, fun post q => (by unfold wp_Nd_firstOf; exact (pF c0 ((qa1 _ ((pF c2 (⟨s3, q⟩))))))), fun post h => (by unfold wp_Nd_firstOf at h; replace h := h.2 c0; replace h := qb1 _ h; replace h := h.2 c2; replace h := h.2; exact h)⟩
set_option maxHeartbeats 2000000 in
theorem dt_Nd_heldBy_L39 {z_this : T_Nd} : ∀ (n9 : Nat) (x1 : Int32) (x2 : Int32) (x3 : Int32) (x4 : Int32) (x5 : Int32) (K : Int32 → Int32 → Int32 → Int32 → Int32 → Prop) (post : Int32 → Unit → Prop), wp_Nd_heldBy_L39 z_this K post n9 x1 x2 x3 x4 x5 → (∃ (w0 : Int32) (w1 : Int32) (w2 : Int32) (w3 : Int32) (w4 : Int32), (∀ (K : Int32 → Int32 → Int32 → Int32 → Int32 → Prop) (post : Int32 → Unit → Prop), K w0 w1 w2 w3 w4 → wp_Nd_heldBy_L39 z_this K post n9 x1 x2 x3 x4 x5) ∧ (∀ (m9 : Nat) (K : Int32 → Int32 → Int32 → Int32 → Int32 → Prop) (post : Int32 → Unit → Prop), wp_Nd_heldBy_L39 z_this K post m9 x1 x2 x3 x4 x5 → K w0 w1 w2 w3 w4)) ∨ (∃ (w0 : Int32) (w1 : Unit), (∀ (K : Int32 → Int32 → Int32 → Int32 → Int32 → Prop) (post : Int32 → Unit → Prop), post w0 w1 → wp_Nd_heldBy_L39 z_this K post n9 x1 x2 x3 x4 x5) ∧ (∀ (m9 : Nat) (K : Int32 → Int32 → Int32 → Int32 → Int32 → Prop) (post : Int32 → Unit → Prop), wp_Nd_heldBy_L39 z_this K post m9 x1 x2 x3 x4 x5 → post w0 w1)) := by
  intro n9
  induction n9 with
  | zero => intro x1 x2 x3 x4 x5 K post h; exact False.elim h
  | succ n9 ih =>
    intro x1 x2 x3 x4 x5 K post h
    rw [wp_Nd_heldBy_L39] at h
    rcases br_el h with ⟨c0, h⟩ | ⟨c0, h⟩
    · exact Or.inl ⟨_, _, _, _, _, fun K post q => (by rw [wp_Nd_heldBy_L39]; exact (pT c0 (q))), fun m9 K post h => (by cases m9 with | zero => exact False.elim h | succ m9 => (rw [wp_Nd_heldBy_L39] at h; replace h := h.1 c0; exact h))⟩
    · obtain ⟨r3, u3, qa1, qb1⟩ := dt_Nd_nextOf h
      replace h := qb1 _ h
      rcases ih _ _ _ _ _ _ _ h with ⟨w2_0, w2_1, w2_2, w2_3, w2_4, qa2, qb2⟩ | ⟨w2_0, w2_1, qa2, qb2⟩
      · exact Or.inl ⟨_, _, _, _, _, fun K post q => (by rw [wp_Nd_heldBy_L39]; exact (pF c0 ((qa1 _ ((qa2 _ _ (q))))))), fun m9 K post h => (by cases m9 with | zero => exact False.elim h | succ m9 => (rw [wp_Nd_heldBy_L39] at h; replace h := h.2 c0; replace h := qb1 _ h; replace h := qb2 m9 _ _ h; exact h))⟩
      · exact Or.inr (⟨_, _, fun K post q => (by rw [wp_Nd_heldBy_L39]; exact (pF c0 ((qa1 _ ((qa2 _ _ (q))))))), fun m9 K post h => (by cases m9 with | zero => exact False.elim h | succ m9 => (rw [wp_Nd_heldBy_L39] at h; replace h := h.2 c0; replace h := qb1 _ h; replace h := qb2 m9 _ _ h; exact h))⟩)
set_option maxHeartbeats 2000000 in
theorem dt_Nd_heldBy {z_this : T_Nd} {a1 : Int32} {a2 : Int32} {post : Int32 → Unit → Prop} (h : wp_Nd_heldBy z_this a1 a2 post) : (∃ (w0 : Int32) (w1 : Unit), (∀ (post : Int32 → Unit → Prop), post w0 w1 → wp_Nd_heldBy z_this a1 a2 post) ∧ (∀ (post : Int32 → Unit → Prop), wp_Nd_heldBy z_this a1 a2 post → post w0 w1)) := by
  unfold wp_Nd_heldBy at h
  rcases br_el h with ⟨c0, h⟩ | ⟨c0, h⟩
  · rcases br_el h with ⟨c1, h⟩ | ⟨c1, h⟩
    · exact ⟨_, _, fun post q => (by unfold wp_Nd_heldBy; exact (pT c0 ((pT c1 (q))))), fun post h => (by unfold wp_Nd_heldBy at h; replace h := h.1 c0; replace h := h.1 c1; exact h)⟩
    · rcases br_el h with ⟨c2, h⟩ | ⟨c2, h⟩
      · obtain ⟨r4, u4, qa3, qb3⟩ := dt_Nd_firstOf h
        replace h := qb3 _ h
        obtain ⟨k4, h⟩ := h
        rcases dt_Nd_heldBy_L39 k4 _ _ _ _ _ _ _ h with ⟨x1, x2, x3, x4, x5, qa4, qb4⟩ | ⟨w4_0, w4_1, qa4, qb4⟩
        · replace h := qb4 k4 _ _ h
          exact ⟨_, _, fun post q => (by unfold wp_Nd_heldBy; exact (pT c0 ((pF c1 ((pT c2 ((qa3 _ (⟨k4, (qa4 _ _ (q))⟩))))))))), fun post h => (by unfold wp_Nd_heldBy at h; replace h := h.1 c0; replace h := h.2 c1; replace h := h.1 c2; replace h := qb3 _ h; obtain ⟨m4, h⟩ := h; replace h := qb4 m4 _ _ h; exact h)⟩
        · exact ⟨_, _, fun post q => (by unfold wp_Nd_heldBy; exact (pT c0 ((pF c1 ((pT c2 ((qa3 _ (⟨k4, (qa4 _ _ (q))⟩))))))))), fun post h => (by unfold wp_Nd_heldBy at h; replace h := h.1 c0; replace h := h.2 c1; replace h := h.1 c2; replace h := qb3 _ h; obtain ⟨m4, h⟩ := h; replace h := qb4 m4 _ _ h; exact h)⟩
      · exact ⟨_, _, fun post q => (by unfold wp_Nd_heldBy; exact (pT c0 ((pF c1 ((pF c2 (q))))))), fun post h => (by unfold wp_Nd_heldBy at h; replace h := h.1 c0; replace h := h.2 c1; replace h := h.2 c2; exact h)⟩
  · obtain ⟨r1, u1, qa1, qb1⟩ := dt_Nd_sizeOf h
    replace h := qb1 _ h
    rcases br_el h with ⟨c2, h⟩ | ⟨c2, h⟩
    · exact ⟨_, _, fun post q => (by unfold wp_Nd_heldBy; exact (pF c0 ((qa1 _ ((pT c2 (q))))))), fun post h => (by unfold wp_Nd_heldBy at h; replace h := h.2 c0; replace h := qb1 _ h; replace h := h.1 c2; exact h)⟩
    · rcases br_el h with ⟨c3, h⟩ | ⟨c3, h⟩
      · obtain ⟨r2, u2, qa4, qb4⟩ := dt_Nd_firstOf h
        replace h := qb4 _ h
        obtain ⟨k5, h⟩ := h
        rcases dt_Nd_heldBy_L39 k5 _ _ _ _ _ _ _ h with ⟨x1, x2, x3, x4, x5, qa5, qb5⟩ | ⟨w5_0, w5_1, qa5, qb5⟩
        · replace h := qb5 k5 _ _ h
          exact ⟨_, _, fun post q => (by unfold wp_Nd_heldBy; exact (pF c0 ((qa1 _ ((pF c2 ((pT c3 ((qa4 _ (⟨k5, (qa5 _ _ (q))⟩))))))))))), fun post h => (by unfold wp_Nd_heldBy at h; replace h := h.2 c0; replace h := qb1 _ h; replace h := h.2 c2; replace h := h.1 c3; replace h := qb4 _ h; obtain ⟨m5, h⟩ := h; replace h := qb5 m5 _ _ h; exact h)⟩
        · exact ⟨_, _, fun post q => (by unfold wp_Nd_heldBy; exact (pF c0 ((qa1 _ ((pF c2 ((pT c3 ((qa4 _ (⟨k5, (qa5 _ _ (q))⟩))))))))))), fun post h => (by unfold wp_Nd_heldBy at h; replace h := h.2 c0; replace h := qb1 _ h; replace h := h.2 c2; replace h := h.1 c3; replace h := qb4 _ h; obtain ⟨m5, h⟩ := h; replace h := qb5 m5 _ _ h; exact h)⟩
      · exact ⟨_, _, fun post q => (by unfold wp_Nd_heldBy; exact (pF c0 ((qa1 _ ((pF c2 ((pF c3 (q))))))))), fun post h => (by unfold wp_Nd_heldBy at h; replace h := h.2 c0; replace h := qb1 _ h; replace h := h.2 c2; replace h := h.2 c3; exact h)⟩
set_option maxHeartbeats 2000000 in
theorem dt_Nd_blockOf_L25 {z_this : T_Nd} : ∀ (n9 : Nat) (x1 : Int32) (x2 : Int32) (x3 : Int32) (x4 : Int32) (x5 : Int32) (K : Int32 → Int32 → Int32 → Int32 → Int32 → Prop) (post : Int32 → Unit → Prop), wp_Nd_blockOf_L25 z_this K post n9 x1 x2 x3 x4 x5 → (∃ (w0 : Int32) (w1 : Int32) (w2 : Int32) (w3 : Int32) (w4 : Int32), (∀ (K : Int32 → Int32 → Int32 → Int32 → Int32 → Prop) (post : Int32 → Unit → Prop), K w0 w1 w2 w3 w4 → wp_Nd_blockOf_L25 z_this K post n9 x1 x2 x3 x4 x5) ∧ (∀ (m9 : Nat) (K : Int32 → Int32 → Int32 → Int32 → Int32 → Prop) (post : Int32 → Unit → Prop), wp_Nd_blockOf_L25 z_this K post m9 x1 x2 x3 x4 x5 → K w0 w1 w2 w3 w4)) ∨ (∃ (w0 : Int32) (w1 : Unit), (∀ (K : Int32 → Int32 → Int32 → Int32 → Int32 → Prop) (post : Int32 → Unit → Prop), post w0 w1 → wp_Nd_blockOf_L25 z_this K post n9 x1 x2 x3 x4 x5) ∧ (∀ (m9 : Nat) (K : Int32 → Int32 → Int32 → Int32 → Int32 → Prop) (post : Int32 → Unit → Prop), wp_Nd_blockOf_L25 z_this K post m9 x1 x2 x3 x4 x5 → post w0 w1)) := by
  intro n9
  induction n9 with
  | zero => intro x1 x2 x3 x4 x5 K post h; exact False.elim h
  | succ n9 ih =>
    intro x1 x2 x3 x4 x5 K post h
    rw [wp_Nd_blockOf_L25] at h
    rcases br_el h with ⟨c0, h⟩ | ⟨c0, h⟩
    · exact Or.inl ⟨_, _, _, _, _, fun K post q => (by rw [wp_Nd_blockOf_L25]; exact (pT c0 (q))), fun m9 K post h => (by cases m9 with | zero => exact False.elim h | succ m9 => (rw [wp_Nd_blockOf_L25] at h; replace h := h.1 c0; exact h))⟩
    · obtain ⟨r2, u2, qa1, qb1⟩ := dt_Nd_has h
      replace h := qb1 _ h
      rcases br_el h with ⟨c2, h⟩ | ⟨c2, h⟩
      · exact Or.inl ⟨_, _, _, _, _, fun K post q => (by rw [wp_Nd_blockOf_L25]; exact (pF c0 ((qa1 _ ((pT c2 (q))))))), fun m9 K post h => (by cases m9 with | zero => exact False.elim h | succ m9 => (rw [wp_Nd_blockOf_L25] at h; replace h := h.2 c0; replace h := qb1 _ h; replace h := h.1 c2; exact h))⟩
      · obtain ⟨s3, h⟩ := h
        rcases br_el h with ⟨c4, h⟩ | ⟨c4, h⟩
        · rcases br_el h with ⟨c5, h⟩ | ⟨c5, h⟩
          · exact Or.inr (⟨_, _, fun K post q => (by rw [wp_Nd_blockOf_L25]; exact (pF c0 ((qa1 _ ((pF c2 (⟨s3, (pT c4 ((pT c5 (q))))⟩))))))), fun m9 K post h => (by cases m9 with | zero => exact False.elim h | succ m9 => (rw [wp_Nd_blockOf_L25] at h; replace h := h.2 c0; replace h := qb1 _ h; replace h := h.2 c2; replace h := h.2; replace h := h.1 c4; replace h := h.1 c5; exact h))⟩)
          · obtain ⟨s6, h⟩ := h
            rcases ih _ _ _ _ _ _ _ h with ⟨w7_0, w7_1, w7_2, w7_3, w7_4, qa7, qb7⟩ | ⟨w7_0, w7_1, qa7, qb7⟩
            · exact Or.inl ⟨_, _, _, _, _, fun K post q => (by rw [wp_Nd_blockOf_L25]; exact (pF c0 ((qa1 _ ((pF c2 (⟨s3, (pT c4 ((pF c5 (⟨s6, (qa7 _ _ (q))⟩))))⟩))))))), fun m9 K post h => (by cases m9 with | zero => exact False.elim h | succ m9 => (rw [wp_Nd_blockOf_L25] at h; replace h := h.2 c0; replace h := qb1 _ h; replace h := h.2 c2; replace h := h.2; replace h := h.1 c4; replace h := h.2 c5; replace h := h.2; replace h := qb7 m9 _ _ h; exact h))⟩
            · exact Or.inr (⟨_, _, fun K post q => (by rw [wp_Nd_blockOf_L25]; exact (pF c0 ((qa1 _ ((pF c2 (⟨s3, (pT c4 ((pF c5 (⟨s6, (qa7 _ _ (q))⟩))))⟩))))))), fun m9 K post h => (by cases m9 with | zero => exact False.elim h | succ m9 => (rw [wp_Nd_blockOf_L25] at h; replace h := h.2 c0; replace h := qb1 _ h; replace h := h.2 c2; replace h := h.2; replace h := h.1 c4; replace h := h.2 c5; replace h := h.2; replace h := qb7 m9 _ _ h; exact h))⟩)
        · obtain ⟨s5, h⟩ := h
          rcases ih _ _ _ _ _ _ _ h with ⟨w6_0, w6_1, w6_2, w6_3, w6_4, qa6, qb6⟩ | ⟨w6_0, w6_1, qa6, qb6⟩
          · exact Or.inl ⟨_, _, _, _, _, fun K post q => (by rw [wp_Nd_blockOf_L25]; exact (pF c0 ((qa1 _ ((pF c2 (⟨s3, (pF c4 (⟨s5, (qa6 _ _ (q))⟩))⟩))))))), fun m9 K post h => (by cases m9 with | zero => exact False.elim h | succ m9 => (rw [wp_Nd_blockOf_L25] at h; replace h := h.2 c0; replace h := qb1 _ h; replace h := h.2 c2; replace h := h.2; replace h := h.2 c4; replace h := h.2; replace h := qb6 m9 _ _ h; exact h))⟩
          · exact Or.inr (⟨_, _, fun K post q => (by rw [wp_Nd_blockOf_L25]; exact (pF c0 ((qa1 _ ((pF c2 (⟨s3, (pF c4 (⟨s5, (qa6 _ _ (q))⟩))⟩))))))), fun m9 K post h => (by cases m9 with | zero => exact False.elim h | succ m9 => (rw [wp_Nd_blockOf_L25] at h; replace h := h.2 c0; replace h := qb1 _ h; replace h := h.2 c2; replace h := h.2; replace h := h.2 c4; replace h := h.2; replace h := qb6 m9 _ _ h; exact h))⟩)
set_option maxHeartbeats 2000000 in
theorem dt_Nd_blockOf {z_this : T_Nd} {a1 : Int32} {a2 : Int32} {post : Int32 → Unit → Prop} (h : wp_Nd_blockOf z_this a1 a2 post) : (∃ (w0 : Int32) (w1 : Unit), (∀ (post : Int32 → Unit → Prop), post w0 w1 → wp_Nd_blockOf z_this a1 a2 post) ∧ (∀ (post : Int32 → Unit → Prop), wp_Nd_blockOf z_this a1 a2 post → post w0 w1)) := by
  unfold wp_Nd_blockOf at h
  obtain ⟨r1, u1, qa0, qb0⟩ := dt_Nd_has h
  replace h := qb0 _ h
  rcases br_el h with ⟨c1, h⟩ | ⟨c1, h⟩
  · obtain ⟨k2, h⟩ := h
    rcases dt_Nd_blockOf_L25 k2 _ _ _ _ _ _ _ h with ⟨x1, x2, x3, x4, x5, qa2, qb2⟩ | ⟨w2_0, w2_1, qa2, qb2⟩
    · replace h := qb2 k2 _ _ h
      exact ⟨_, _, fun post q => (by unfold wp_Nd_blockOf; exact (qa0 _ ((pT c1 (⟨k2, (qa2 _ _ (q))⟩))))), fun post h => (by unfold wp_Nd_blockOf at h; replace h := qb0 _ h; replace h := h.1 c1; obtain ⟨m2, h⟩ := h; replace h := qb2 m2 _ _ h; exact h)⟩
    · exact ⟨_, _, fun post q => (by unfold wp_Nd_blockOf; exact (qa0 _ ((pT c1 (⟨k2, (qa2 _ _ (q))⟩))))), fun post h => (by unfold wp_Nd_blockOf at h; replace h := qb0 _ h; replace h := h.1 c1; obtain ⟨m2, h⟩ := h; replace h := qb2 m2 _ _ h; exact h)⟩
  · obtain ⟨s2, h⟩ := h
    obtain ⟨k3, h⟩ := h
    rcases dt_Nd_blockOf_L25 k3 _ _ _ _ _ _ _ h with ⟨x1, x2, x3, x4, x5, qa3, qb3⟩ | ⟨w3_0, w3_1, qa3, qb3⟩
    · replace h := qb3 k3 _ _ h
      exact ⟨_, _, fun post q => (by unfold wp_Nd_blockOf; exact (qa0 _ ((pF c1 (⟨s2, ⟨k3, (qa3 _ _ (q))⟩⟩))))), fun post h => (by unfold wp_Nd_blockOf at h; replace h := qb0 _ h; replace h := h.2 c1; replace h := h.2; obtain ⟨m3, h⟩ := h; replace h := qb3 m3 _ _ h; exact h)⟩
    · exact ⟨_, _, fun post q => (by unfold wp_Nd_blockOf; exact (qa0 _ ((pF c1 (⟨s2, ⟨k3, (qa3 _ _ (q))⟩⟩))))), fun post h => (by unfold wp_Nd_blockOf at h; replace h := qb0 _ h; replace h := h.2 c1; replace h := h.2; obtain ⟨m3, h⟩ := h; replace h := qb3 m3 _ _ h; exact h)⟩
set_option maxHeartbeats 2000000 in
theorem dt_Kw_rank {a0 : Int32} {post : Int32 → Unit → Prop} (h : wp_Kw_rank a0 post) : (∃ (w0 : Int32) (w1 : Unit), (∀ (post : Int32 → Unit → Prop), post w0 w1 → wp_Kw_rank a0 post) ∧ (∀ (post : Int32 → Unit → Prop), wp_Kw_rank a0 post → post w0 w1)) := by
  unfold wp_Kw_rank at h
  rcases br_el h with ⟨c0, h⟩ | ⟨c0, h⟩
  · rcases br_el h with ⟨c1, h⟩ | ⟨c1, h⟩
    · exact ⟨_, _, fun post q => (by unfold wp_Kw_rank; exact (pT c0 ((pT c1 (q))))), fun post h => (by unfold wp_Kw_rank at h; replace h := h.1 c0; replace h := h.1 c1; exact h)⟩
    · rcases br_el h with ⟨c2, h⟩ | ⟨c2, h⟩
      · exact ⟨_, _, fun post q => (by unfold wp_Kw_rank; exact (pT c0 ((pF c1 ((pT c2 (q))))))), fun post h => (by unfold wp_Kw_rank at h; replace h := h.1 c0; replace h := h.2 c1; replace h := h.1 c2; exact h)⟩
      · exact ⟨_, _, fun post q => (by unfold wp_Kw_rank; exact (pT c0 ((pF c1 ((pF c2 (q))))))), fun post h => (by unfold wp_Kw_rank at h; replace h := h.1 c0; replace h := h.2 c1; replace h := h.2 c2; exact h)⟩
  · rcases br_el h with ⟨c1, h⟩ | ⟨c1, h⟩
    · rcases br_el h with ⟨c2, h⟩ | ⟨c2, h⟩
      · exact ⟨_, _, fun post q => (by unfold wp_Kw_rank; exact (pF c0 ((pT c1 ((pT c2 (q))))))), fun post h => (by unfold wp_Kw_rank at h; replace h := h.2 c0; replace h := h.1 c1; replace h := h.1 c2; exact h)⟩
      · rcases br_el h with ⟨c3, h⟩ | ⟨c3, h⟩
        · exact ⟨_, _, fun post q => (by unfold wp_Kw_rank; exact (pF c0 ((pT c1 ((pF c2 ((pT c3 (q))))))))), fun post h => (by unfold wp_Kw_rank at h; replace h := h.2 c0; replace h := h.1 c1; replace h := h.2 c2; replace h := h.1 c3; exact h)⟩
        · exact ⟨_, _, fun post q => (by unfold wp_Kw_rank; exact (pF c0 ((pT c1 ((pF c2 ((pF c3 (q))))))))), fun post h => (by unfold wp_Kw_rank at h; replace h := h.2 c0; replace h := h.1 c1; replace h := h.2 c2; replace h := h.2 c3; exact h)⟩
    · exact ⟨_, _, fun post q => (by unfold wp_Kw_rank; exact (pF c0 ((pF c1 (q))))), fun post h => (by unfold wp_Kw_rank at h; replace h := h.2 c0; replace h := h.2 c1; exact h)⟩
set_option maxHeartbeats 2000000 in
theorem dt_Kw_unranked {a0 : Int32} {post : Int32 → Unit → Prop} (h : wp_Kw_unranked a0 post) : (∃ (w0 : Int32) (w1 : Unit), (∀ (post : Int32 → Unit → Prop), post w0 w1 → wp_Kw_unranked a0 post) ∧ (∀ (post : Int32 → Unit → Prop), wp_Kw_unranked a0 post → post w0 w1)) := by
  unfold wp_Kw_unranked at h
  rcases br_el h with ⟨c0, h⟩ | ⟨c0, h⟩
  · exact ⟨_, _, fun post q => (by unfold wp_Kw_unranked; exact (pT c0 (q))), fun post h => (by unfold wp_Kw_unranked at h; replace h := h.1 c0; exact h)⟩
  · exact ⟨_, _, fun post q => (by unfold wp_Kw_unranked; exact (pF c0 (q))), fun post h => (by unfold wp_Kw_unranked at h; replace h := h.2 c0; exact h)⟩
set_option maxHeartbeats 2000000 in
theorem dt_Kw_codeOf_L2 {z_this : T_Kw} : ∀ (n9 : Nat) (x1 : Int64) (x3 : Int32) (K : Int64 → Int32 → Prop) (post : Int32 → Unit → Prop), wp_Kw_codeOf_L2 z_this K post n9 x1 x3 → (∃ (w0 : Int64) (w1 : Int32), (∀ (K : Int64 → Int32 → Prop) (post : Int32 → Unit → Prop), K w0 w1 → wp_Kw_codeOf_L2 z_this K post n9 x1 x3) ∧ (∀ (m9 : Nat) (K : Int64 → Int32 → Prop) (post : Int32 → Unit → Prop), wp_Kw_codeOf_L2 z_this K post m9 x1 x3 → K w0 w1)) ∨ (∃ (w0 : Int32) (w1 : Unit), (∀ (K : Int64 → Int32 → Prop) (post : Int32 → Unit → Prop), post w0 w1 → wp_Kw_codeOf_L2 z_this K post n9 x1 x3) ∧ (∀ (m9 : Nat) (K : Int64 → Int32 → Prop) (post : Int32 → Unit → Prop), wp_Kw_codeOf_L2 z_this K post m9 x1 x3 → post w0 w1)) := by
  intro n9
  induction n9 with
  | zero => intro x1 x3 K post h; exact False.elim h
  | succ n9 ih =>
    intro x1 x3 K post h
    rw [wp_Kw_codeOf_L2] at h
    rcases br_el h with ⟨c0, h⟩ | ⟨c0, h⟩
    · exact Or.inl ⟨_, _, fun K post q => (by rw [wp_Kw_codeOf_L2]; exact (pT c0 (q))), fun m9 K post h => (by cases m9 with | zero => exact False.elim h | succ m9 => (rw [wp_Kw_codeOf_L2] at h; replace h := h.1 c0; exact h))⟩
    · obtain ⟨s1, h⟩ := h
      rcases br_el h with ⟨c2, h⟩ | ⟨c2, h⟩
      · exact Or.inr (⟨_, _, fun K post q => (by rw [wp_Kw_codeOf_L2]; exact (pF c0 (⟨s1, (pT c2 (q))⟩))), fun m9 K post h => (by cases m9 with | zero => exact False.elim h | succ m9 => (rw [wp_Kw_codeOf_L2] at h; replace h := h.2 c0; replace h := h.2; replace h := h.1 c2; exact h))⟩)
      · rcases ih _ _ _ _ h with ⟨w3_0, w3_1, qa3, qb3⟩ | ⟨w3_0, w3_1, qa3, qb3⟩
        · exact Or.inl ⟨_, _, fun K post q => (by rw [wp_Kw_codeOf_L2]; exact (pF c0 (⟨s1, (pF c2 ((qa3 _ _ (q))))⟩))), fun m9 K post h => (by cases m9 with | zero => exact False.elim h | succ m9 => (rw [wp_Kw_codeOf_L2] at h; replace h := h.2 c0; replace h := h.2; replace h := h.2 c2; replace h := qb3 m9 _ _ h; exact h))⟩
        · exact Or.inr (⟨_, _, fun K post q => (by rw [wp_Kw_codeOf_L2]; exact (pF c0 (⟨s1, (pF c2 ((qa3 _ _ (q))))⟩))), fun m9 K post h => (by cases m9 with | zero => exact False.elim h | succ m9 => (rw [wp_Kw_codeOf_L2] at h; replace h := h.2 c0; replace h := h.2; replace h := h.2 c2; replace h := qb3 m9 _ _ h; exact h))⟩)
set_option maxHeartbeats 2000000 in
theorem dt_Kw_codeOf {z_this : T_Kw} {a1 : Int64} {post : Int32 → Unit → Prop} (h : wp_Kw_codeOf z_this a1 post) : (∃ (w0 : Int32) (w1 : Unit), (∀ (post : Int32 → Unit → Prop), post w0 w1 → wp_Kw_codeOf z_this a1 post) ∧ (∀ (post : Int32 → Unit → Prop), wp_Kw_codeOf z_this a1 post → post w0 w1)) := by
  unfold wp_Kw_codeOf at h
  obtain ⟨k0, h⟩ := h
  rcases dt_Kw_codeOf_L2 k0 _ _ _ _ h with ⟨x1, x3, qa0, qb0⟩ | ⟨w0_0, w0_1, qa0, qb0⟩
  · replace h := qb0 k0 _ _ h
    exact ⟨_, _, fun post q => (by unfold wp_Kw_codeOf; exact ⟨k0, (qa0 _ _ (q))⟩), fun post h => (by unfold wp_Kw_codeOf at h; obtain ⟨m0, h⟩ := h; replace h := qb0 m0 _ _ h; exact h)⟩
  · exact ⟨_, _, fun post q => (by unfold wp_Kw_codeOf; exact ⟨k0, (qa0 _ _ (q))⟩), fun post h => (by unfold wp_Kw_codeOf at h; obtain ⟨m0, h⟩ := h; replace h := qb0 m0 _ _ h; exact h)⟩
set_option maxHeartbeats 2000000 in
theorem dt_Kw_lettersOf {z_this : T_Kw} {a1 : Int32} {post : Int64 → Unit → Prop} (h : wp_Kw_lettersOf z_this a1 post) : (∃ (w0 : Int64) (w1 : Unit), (∀ (post : Int64 → Unit → Prop), post w0 w1 → wp_Kw_lettersOf z_this a1 post) ∧ (∀ (post : Int64 → Unit → Prop), wp_Kw_lettersOf z_this a1 post → post w0 w1)) := by
  unfold wp_Kw_lettersOf at h
  rcases br_el h with ⟨c0, h⟩ | ⟨c0, h⟩
  · exact ⟨_, _, fun post q => (by unfold wp_Kw_lettersOf; exact (pT c0 (q))), fun post h => (by unfold wp_Kw_lettersOf at h; replace h := h.1 c0; exact h)⟩
  · rcases br_el h with ⟨c1, h⟩ | ⟨c1, h⟩
    · exact ⟨_, _, fun post q => (by unfold wp_Kw_lettersOf; exact (pF c0 ((pT c1 (q))))), fun post h => (by unfold wp_Kw_lettersOf at h; replace h := h.2 c0; replace h := h.1 c1; exact h)⟩
    · obtain ⟨s2, h⟩ := h
      exact ⟨_, _, fun post q => (by unfold wp_Kw_lettersOf; exact (pF c0 ((pF c1 (⟨s2, q⟩))))), fun post h => (by unfold wp_Kw_lettersOf at h; replace h := h.2 c0; replace h := h.2 c1; replace h := h.2; exact h)⟩
set_option maxHeartbeats 2000000 in
theorem dt_Wd_append {z_this : T_Wd} {a1 : Int32} {post : Int32 → T_Wd → Prop} (h : wp_Wd_append z_this a1 post) : (∃ (w0 : Int32) (w1 : T_Wd), (∀ (post : Int32 → T_Wd → Prop), post w0 w1 → wp_Wd_append z_this a1 post) ∧ (∀ (post : Int32 → T_Wd → Prop), wp_Wd_append z_this a1 post → post w0 w1)) := by
  unfold wp_Wd_append at h
  rcases br_el h with ⟨c0, h⟩ | ⟨c0, h⟩
  · exact ⟨_, _, fun post q => (by unfold wp_Wd_append; exact (pT c0 (q))), fun post h => (by unfold wp_Wd_append at h; replace h := h.1 c0; exact h)⟩
  · rcases br_el h with ⟨c1, h⟩ | ⟨c1, h⟩
    · exact ⟨_, _, fun post q => (by unfold wp_Wd_append; exact (pF c0 ((pT c1 (q))))), fun post h => (by unfold wp_Wd_append at h; replace h := h.2 c0; replace h := h.1 c1; exact h)⟩
    · rcases br_el h with ⟨c2, h⟩ | ⟨c2, h⟩
      · obtain ⟨s3, h⟩ := h
        exact ⟨_, _, fun post q => (by unfold wp_Wd_append; exact (pF c0 ((pF c1 ((pT c2 (⟨s3, q⟩))))))), fun post h => (by unfold wp_Wd_append at h; replace h := h.2 c0; replace h := h.2 c1; replace h := h.1 c2; replace h := h.2; exact h)⟩
      · exact ⟨_, _, fun post q => (by unfold wp_Wd_append; exact (pF c0 ((pF c1 ((pF c2 (q))))))), fun post h => (by unfold wp_Wd_append at h; replace h := h.2 c0; replace h := h.2 c1; replace h := h.2 c2; exact h)⟩
set_option maxHeartbeats 2000000 in
theorem dt_Wd_forget {z_this : T_Wd} {post : Unit → T_Wd → Prop} (h : wp_Wd_forget z_this post) : (∃ (w0 : Unit) (w1 : T_Wd), (∀ (post : Unit → T_Wd → Prop), post w0 w1 → wp_Wd_forget z_this post) ∧ (∀ (post : Unit → T_Wd → Prop), wp_Wd_forget z_this post → post w0 w1)) := by
  unfold wp_Wd_forget at h
  exact ⟨_, _, fun post q => (by unfold wp_Wd_forget; exact q), fun post h => (by unfold wp_Wd_forget at h; exact h)⟩
set_option maxHeartbeats 2000000 in
theorem dt_Wd_byteAt {z_this : T_Wd} {a1 : Int32} {post : Int32 → Unit → Prop} (h : wp_Wd_byteAt z_this a1 post) : (∃ (w0 : Int32) (w1 : Unit), (∀ (post : Int32 → Unit → Prop), post w0 w1 → wp_Wd_byteAt z_this a1 post) ∧ (∀ (post : Int32 → Unit → Prop), wp_Wd_byteAt z_this a1 post → post w0 w1)) := by
  unfold wp_Wd_byteAt at h
  rcases br_el h with ⟨c0, h⟩ | ⟨c0, h⟩
  · exact ⟨_, _, fun post q => (by unfold wp_Wd_byteAt; exact (pT c0 (q))), fun post h => (by unfold wp_Wd_byteAt at h; replace h := h.1 c0; exact h)⟩
  · rcases br_el h with ⟨c1, h⟩ | ⟨c1, h⟩
    · exact ⟨_, _, fun post q => (by unfold wp_Wd_byteAt; exact (pF c0 ((pT c1 (q))))), fun post h => (by unfold wp_Wd_byteAt at h; replace h := h.2 c0; replace h := h.1 c1; exact h)⟩
    · rcases br_el h with ⟨c2, h⟩ | ⟨c2, h⟩
      · exact ⟨_, _, fun post q => (by unfold wp_Wd_byteAt; exact (pF c0 ((pF c1 ((pT c2 (q))))))), fun post h => (by unfold wp_Wd_byteAt at h; replace h := h.2 c0; replace h := h.2 c1; replace h := h.1 c2; exact h)⟩
      · obtain ⟨s3, h⟩ := h
        exact ⟨_, _, fun post q => (by unfold wp_Wd_byteAt; exact (pF c0 ((pF c1 ((pF c2 (⟨s3, q⟩))))))), fun post h => (by unfold wp_Wd_byteAt at h; replace h := h.2 c0; replace h := h.2 c1; replace h := h.2 c2; replace h := h.2; exact h)⟩
set_option maxHeartbeats 2000000 in
theorem dt_Wd_isBlank {a0 : Int32} {post : Int32 → Unit → Prop} (h : wp_Wd_isBlank a0 post) : (∃ (w0 : Int32) (w1 : Unit), (∀ (post : Int32 → Unit → Prop), post w0 w1 → wp_Wd_isBlank a0 post) ∧ (∀ (post : Int32 → Unit → Prop), wp_Wd_isBlank a0 post → post w0 w1)) := by
  unfold wp_Wd_isBlank at h
  rcases br_el h with ⟨c0, h⟩ | ⟨c0, h⟩
  · exact ⟨_, _, fun post q => (by unfold wp_Wd_isBlank; exact (pT c0 (q))), fun post h => (by unfold wp_Wd_isBlank at h; replace h := h.1 c0; exact h)⟩
  · rcases br_el h with ⟨c1, h⟩ | ⟨c1, h⟩
    · exact ⟨_, _, fun post q => (by unfold wp_Wd_isBlank; exact (pF c0 ((pT c1 (q))))), fun post h => (by unfold wp_Wd_isBlank at h; replace h := h.2 c0; replace h := h.1 c1; exact h)⟩
    · exact ⟨_, _, fun post q => (by unfold wp_Wd_isBlank; exact (pF c0 ((pF c1 (q))))), fun post h => (by unfold wp_Wd_isBlank at h; replace h := h.2 c0; replace h := h.2 c1; exact h)⟩
set_option maxHeartbeats 2000000 in
theorem dt_Wd_skipBlanks_L2 : ∀ (n9 : Nat) (z_this : T_Wd) (x1 : Int32) (K : T_Wd → Int32 → Prop) (post : Unit → T_Wd → Prop), wp_Wd_skipBlanks_L2 K post n9 z_this x1 → (∃ (w0 : T_Wd) (w1 : Int32), (∀ (K : T_Wd → Int32 → Prop) (post : Unit → T_Wd → Prop), K w0 w1 → wp_Wd_skipBlanks_L2 K post n9 z_this x1) ∧ (∀ (m9 : Nat) (K : T_Wd → Int32 → Prop) (post : Unit → T_Wd → Prop), wp_Wd_skipBlanks_L2 K post m9 z_this x1 → K w0 w1)) ∨ (∃ (w0 : Unit) (w1 : T_Wd), (∀ (K : T_Wd → Int32 → Prop) (post : Unit → T_Wd → Prop), post w0 w1 → wp_Wd_skipBlanks_L2 K post n9 z_this x1) ∧ (∀ (m9 : Nat) (K : T_Wd → Int32 → Prop) (post : Unit → T_Wd → Prop), wp_Wd_skipBlanks_L2 K post m9 z_this x1 → post w0 w1)) := by
  intro n9
  induction n9 with
  | zero => intro z_this x1 K post h; exact False.elim h
  | succ n9 ih =>
    intro z_this x1 K post h
    rw [wp_Wd_skipBlanks_L2] at h
    rcases br_el h with ⟨c0, h⟩ | ⟨c0, h⟩
    · exact Or.inl ⟨_, _, fun K post q => (by rw [wp_Wd_skipBlanks_L2]; exact (pT c0 (q))), fun m9 K post h => (by cases m9 with | zero => exact False.elim h | succ m9 => (rw [wp_Wd_skipBlanks_L2] at h; replace h := h.1 c0; exact h))⟩
    · obtain ⟨r1, u1, qa1, qb1⟩ := dt_Wd_byteAt h
      replace h := qb1 _ h
      obtain ⟨r2, u2, qa2, qb2⟩ := dt_Wd_isBlank h
      replace h := qb2 _ h
      rcases br_el h with ⟨c3, h⟩ | ⟨c3, h⟩
      · exact Or.inl ⟨_, _, fun K post q => (by rw [wp_Wd_skipBlanks_L2]; exact (pF c0 ((qa1 _ ((qa2 _ ((pT c3 (q))))))))), fun m9 K post h => (by cases m9 with | zero => exact False.elim h | succ m9 => (rw [wp_Wd_skipBlanks_L2] at h; replace h := h.2 c0; replace h := qb1 _ h; replace h := qb2 _ h; replace h := h.1 c3; exact h))⟩
      · obtain ⟨r3, u3, qa4, qb4⟩ := dt_Wd_byteAt h
        replace h := qb4 _ h
        rcases br_el h with ⟨c5, h⟩ | ⟨c5, h⟩
        · rcases ih _ _ _ _ h with ⟨w6_0, w6_1, qa6, qb6⟩ | ⟨w6_0, w6_1, qa6, qb6⟩
          · exact Or.inl ⟨_, _, fun K post q => (by rw [wp_Wd_skipBlanks_L2]; exact (pF c0 ((qa1 _ ((qa2 _ ((pF c3 ((qa4 _ ((pT c5 ((qa6 _ _ (q))))))))))))))), fun m9 K post h => (by cases m9 with | zero => exact False.elim h | succ m9 => (rw [wp_Wd_skipBlanks_L2] at h; replace h := h.2 c0; replace h := qb1 _ h; replace h := qb2 _ h; replace h := h.2 c3; replace h := qb4 _ h; replace h := h.1 c5; replace h := qb6 m9 _ _ h; exact h))⟩
          · exact Or.inr (⟨_, _, fun K post q => (by rw [wp_Wd_skipBlanks_L2]; exact (pF c0 ((qa1 _ ((qa2 _ ((pF c3 ((qa4 _ ((pT c5 ((qa6 _ _ (q))))))))))))))), fun m9 K post h => (by cases m9 with | zero => exact False.elim h | succ m9 => (rw [wp_Wd_skipBlanks_L2] at h; replace h := h.2 c0; replace h := qb1 _ h; replace h := qb2 _ h; replace h := h.2 c3; replace h := qb4 _ h; replace h := h.1 c5; replace h := qb6 m9 _ _ h; exact h))⟩)
        · rcases ih _ _ _ _ h with ⟨w6_0, w6_1, qa6, qb6⟩ | ⟨w6_0, w6_1, qa6, qb6⟩
          · exact Or.inl ⟨_, _, fun K post q => (by rw [wp_Wd_skipBlanks_L2]; exact (pF c0 ((qa1 _ ((qa2 _ ((pF c3 ((qa4 _ ((pF c5 ((qa6 _ _ (q))))))))))))))), fun m9 K post h => (by cases m9 with | zero => exact False.elim h | succ m9 => (rw [wp_Wd_skipBlanks_L2] at h; replace h := h.2 c0; replace h := qb1 _ h; replace h := qb2 _ h; replace h := h.2 c3; replace h := qb4 _ h; replace h := h.2 c5; replace h := qb6 m9 _ _ h; exact h))⟩
          · exact Or.inr (⟨_, _, fun K post q => (by rw [wp_Wd_skipBlanks_L2]; exact (pF c0 ((qa1 _ ((qa2 _ ((pF c3 ((qa4 _ ((pF c5 ((qa6 _ _ (q))))))))))))))), fun m9 K post h => (by cases m9 with | zero => exact False.elim h | succ m9 => (rw [wp_Wd_skipBlanks_L2] at h; replace h := h.2 c0; replace h := qb1 _ h; replace h := qb2 _ h; replace h := h.2 c3; replace h := qb4 _ h; replace h := h.2 c5; replace h := qb6 m9 _ _ h; exact h))⟩)
set_option maxHeartbeats 2000000 in
theorem dt_Wd_skipBlanks {z_this : T_Wd} {post : Unit → T_Wd → Prop} (h : wp_Wd_skipBlanks z_this post) : (∃ (w0 : Unit) (w1 : T_Wd), (∀ (post : Unit → T_Wd → Prop), post w0 w1 → wp_Wd_skipBlanks z_this post) ∧ (∀ (post : Unit → T_Wd → Prop), wp_Wd_skipBlanks z_this post → post w0 w1)) := by
  unfold wp_Wd_skipBlanks at h
  obtain ⟨k0, h⟩ := h
  rcases dt_Wd_skipBlanks_L2 k0 _ _ _ _ h with ⟨z_this, x1, qa0, qb0⟩ | ⟨w0_0, w0_1, qa0, qb0⟩
  · replace h := qb0 k0 _ _ h
    exact ⟨_, _, fun post q => (by unfold wp_Wd_skipBlanks; exact ⟨k0, (qa0 _ _ (q))⟩), fun post h => (by unfold wp_Wd_skipBlanks at h; obtain ⟨m0, h⟩ := h; replace h := qb0 m0 _ _ h; exact h)⟩
  · exact ⟨_, _, fun post q => (by unfold wp_Wd_skipBlanks; exact ⟨k0, (qa0 _ _ (q))⟩), fun post h => (by unfold wp_Wd_skipBlanks at h; obtain ⟨m0, h⟩ := h; replace h := qb0 m0 _ _ h; exact h)⟩
set_option maxHeartbeats 2000000 in
theorem dt_Wd_isDigit {a0 : Int32} {post : Int32 → Unit → Prop} (h : wp_Wd_isDigit a0 post) : (∃ (w0 : Int32) (w1 : Unit), (∀ (post : Int32 → Unit → Prop), post w0 w1 → wp_Wd_isDigit a0 post) ∧ (∀ (post : Int32 → Unit → Prop), wp_Wd_isDigit a0 post → post w0 w1)) := by
  unfold wp_Wd_isDigit at h
  rcases br_el h with ⟨c0, h⟩ | ⟨c0, h⟩
  · exact ⟨_, _, fun post q => (by unfold wp_Wd_isDigit; exact (pT c0 (q))), fun post h => (by unfold wp_Wd_isDigit at h; replace h := h.1 c0; exact h)⟩
  · rcases br_el h with ⟨c1, h⟩ | ⟨c1, h⟩
    · exact ⟨_, _, fun post q => (by unfold wp_Wd_isDigit; exact (pF c0 ((pT c1 (q))))), fun post h => (by unfold wp_Wd_isDigit at h; replace h := h.2 c0; replace h := h.1 c1; exact h)⟩
    · exact ⟨_, _, fun post q => (by unfold wp_Wd_isDigit; exact (pF c0 ((pF c1 (q))))), fun post h => (by unfold wp_Wd_isDigit at h; replace h := h.2 c0; replace h := h.2 c1; exact h)⟩
set_option maxHeartbeats 2000000 in
theorem dt_Wd_keep {z_this : T_Wd} {a1 : Int32} {a2 : Int32} {a3 : Int64} {post : Unit → T_Wd → Prop} (h : wp_Wd_keep z_this a1 a2 a3 post) : (∃ (w0 : Unit) (w1 : T_Wd), (∀ (post : Unit → T_Wd → Prop), post w0 w1 → wp_Wd_keep z_this a1 a2 a3 post) ∧ (∀ (post : Unit → T_Wd → Prop), wp_Wd_keep z_this a1 a2 a3 post → post w0 w1)) := by
  unfold wp_Wd_keep at h
  rcases br_el h with ⟨c0, h⟩ | ⟨c0, h⟩
  · exact ⟨_, _, fun post q => (by unfold wp_Wd_keep; exact (pT c0 (q))), fun post h => (by unfold wp_Wd_keep at h; replace h := h.1 c0; exact h)⟩
  · obtain ⟨s1, h⟩ := h
    obtain ⟨s2, h⟩ := h
    obtain ⟨s3, h⟩ := h
    obtain ⟨s4, h⟩ := h
    exact ⟨_, _, fun post q => (by unfold wp_Wd_keep; exact (pF c0 (⟨s1, ⟨s2, ⟨s3, ⟨s4, q⟩⟩⟩⟩))), fun post h => (by unfold wp_Wd_keep at h; replace h := h.2 c0; replace h := h.2; replace h := h.2; replace h := h.2; replace h := h.2; exact h)⟩
set_option maxHeartbeats 2000000 in
theorem dt_Wd_keepJoined {z_this : T_Wd} {a1 : Int32} {a2 : Int32} {a3 : Int64} {post : Int32 → T_Wd → Prop} (h : wp_Wd_keepJoined z_this a1 a2 a3 post) : (∃ (w0 : Int32) (w1 : T_Wd), (∀ (post : Int32 → T_Wd → Prop), post w0 w1 → wp_Wd_keepJoined z_this a1 a2 a3 post) ∧ (∀ (post : Int32 → T_Wd → Prop), wp_Wd_keepJoined z_this a1 a2 a3 post → post w0 w1)) := by
  unfold wp_Wd_keepJoined at h
  obtain ⟨r1, u1, qa0, qb0⟩ := dt_Wd_byteAt h
  replace h := qb0 _ h
  rcases br_el h with ⟨c1, h⟩ | ⟨c1, h⟩
  · obtain ⟨r2, u2, qa2, qb2⟩ := dt_Wd_keep h
    replace h := qb2 _ h
    exact ⟨_, _, fun post q => (by unfold wp_Wd_keepJoined; exact (qa0 _ ((pT c1 ((qa2 _ (q))))))), fun post h => (by unfold wp_Wd_keepJoined at h; replace h := qb0 _ h; replace h := h.1 c1; replace h := qb2 _ h; exact h)⟩
  · obtain ⟨r3, u3, qa2, qb2⟩ := dt_Kw_rank h
    replace h := qb2 _ h
    rcases br_el h with ⟨c3, h⟩ | ⟨c3, h⟩
    · obtain ⟨r4, u4, qa4, qb4⟩ := dt_Wd_keep h
      replace h := qb4 _ h
      exact ⟨_, _, fun post q => (by unfold wp_Wd_keepJoined; exact (qa0 _ ((pF c1 ((qa2 _ ((pT c3 ((qa4 _ (q))))))))))), fun post h => (by unfold wp_Wd_keepJoined at h; replace h := qb0 _ h; replace h := h.2 c1; replace h := qb2 _ h; replace h := h.1 c3; replace h := qb4 _ h; exact h)⟩
    · obtain ⟨r5, u5, qa4, qb4⟩ := dt_Wd_keep h
      replace h := qb4 _ h
      exact ⟨_, _, fun post q => (by unfold wp_Wd_keepJoined; exact (qa0 _ ((pF c1 ((qa2 _ ((pF c3 ((qa4 _ (q))))))))))), fun post h => (by unfold wp_Wd_keepJoined at h; replace h := qb0 _ h; replace h := h.2 c1; replace h := qb2 _ h; replace h := h.2 c3; replace h := qb4 _ h; exact h)⟩
set_option maxHeartbeats 2000000 in
theorem dt_Wd_splitNumber_L10 : ∀ (n9 : Nat) (z_this : T_Wd) (x1 : Int32) (x2 : Int64) (x4 : Int32) (K : T_Wd → Int32 → Int64 → Int32 → Prop) (post : Int32 → T_Wd → Prop), wp_Wd_splitNumber_L10 K post n9 z_this x1 x2 x4 → (∃ (w0 : T_Wd) (w1 : Int32) (w2 : Int64) (w3 : Int32), (∀ (K : T_Wd → Int32 → Int64 → Int32 → Prop) (post : Int32 → T_Wd → Prop), K w0 w1 w2 w3 → wp_Wd_splitNumber_L10 K post n9 z_this x1 x2 x4) ∧ (∀ (m9 : Nat) (K : T_Wd → Int32 → Int64 → Int32 → Prop) (post : Int32 → T_Wd → Prop), wp_Wd_splitNumber_L10 K post m9 z_this x1 x2 x4 → K w0 w1 w2 w3)) ∨ (∃ (w0 : Int32) (w1 : T_Wd), (∀ (K : T_Wd → Int32 → Int64 → Int32 → Prop) (post : Int32 → T_Wd → Prop), post w0 w1 → wp_Wd_splitNumber_L10 K post n9 z_this x1 x2 x4) ∧ (∀ (m9 : Nat) (K : T_Wd → Int32 → Int64 → Int32 → Prop) (post : Int32 → T_Wd → Prop), wp_Wd_splitNumber_L10 K post m9 z_this x1 x2 x4 → post w0 w1)) := by
  intro n9
  induction n9 with
  | zero => intro z_this x1 x2 x4 K post h; exact False.elim h
  | succ n9 ih =>
    intro z_this x1 x2 x4 K post h
    rw [wp_Wd_splitNumber_L10] at h
    rcases br_el h with ⟨c0, h⟩ | ⟨c0, h⟩
    · exact Or.inl ⟨_, _, _, _, fun K post q => (by rw [wp_Wd_splitNumber_L10]; exact (pT c0 (q))), fun m9 K post h => (by cases m9 with | zero => exact False.elim h | succ m9 => (rw [wp_Wd_splitNumber_L10] at h; replace h := h.1 c0; exact h))⟩
    · obtain ⟨r1, u1, qa1, qb1⟩ := dt_Wd_byteAt h
      replace h := qb1 _ h
      obtain ⟨r2, u2, qa2, qb2⟩ := dt_Wd_isDigit h
      replace h := qb2 _ h
      rcases br_el h with ⟨c3, h⟩ | ⟨c3, h⟩
      · exact Or.inl ⟨_, _, _, _, fun K post q => (by rw [wp_Wd_splitNumber_L10]; exact (pF c0 ((qa1 _ ((qa2 _ ((pT c3 (q))))))))), fun m9 K post h => (by cases m9 with | zero => exact False.elim h | succ m9 => (rw [wp_Wd_splitNumber_L10] at h; replace h := h.2 c0; replace h := qb1 _ h; replace h := qb2 _ h; replace h := h.1 c3; exact h))⟩
      · obtain ⟨r3, u3, qa4, qb4⟩ := dt_Wd_byteAt h
        replace h := qb4 _ h
        rcases ih _ _ _ _ _ _ h with ⟨w5_0, w5_1, w5_2, w5_3, qa5, qb5⟩ | ⟨w5_0, w5_1, qa5, qb5⟩
        · exact Or.inl ⟨_, _, _, _, fun K post q => (by rw [wp_Wd_splitNumber_L10]; exact (pF c0 ((qa1 _ ((qa2 _ ((pF c3 ((qa4 _ ((qa5 _ _ (q))))))))))))), fun m9 K post h => (by cases m9 with | zero => exact False.elim h | succ m9 => (rw [wp_Wd_splitNumber_L10] at h; replace h := h.2 c0; replace h := qb1 _ h; replace h := qb2 _ h; replace h := h.2 c3; replace h := qb4 _ h; replace h := qb5 m9 _ _ h; exact h))⟩
        · exact Or.inr (⟨_, _, fun K post q => (by rw [wp_Wd_splitNumber_L10]; exact (pF c0 ((qa1 _ ((qa2 _ ((pF c3 ((qa4 _ ((qa5 _ _ (q))))))))))))), fun m9 K post h => (by cases m9 with | zero => exact False.elim h | succ m9 => (rw [wp_Wd_splitNumber_L10] at h; replace h := h.2 c0; replace h := qb1 _ h; replace h := qb2 _ h; replace h := h.2 c3; replace h := qb4 _ h; replace h := qb5 m9 _ _ h; exact h))⟩)
set_option maxHeartbeats 2000000 in
theorem dt_Wd_splitNumber_L125 : ∀ (n9 : Nat) (z_this : T_Wd) (x1 : Int32) (x2 : Int64) (x4 : Int32) (x5 : Int32) (x6 : Int32) (K : T_Wd → Int32 → Int64 → Int32 → Int32 → Int32 → Prop) (post : Int32 → T_Wd → Prop), wp_Wd_splitNumber_L125 K post n9 z_this x1 x2 x4 x5 x6 → (∃ (w0 : T_Wd) (w1 : Int32) (w2 : Int64) (w3 : Int32) (w4 : Int32) (w5 : Int32), (∀ (K : T_Wd → Int32 → Int64 → Int32 → Int32 → Int32 → Prop) (post : Int32 → T_Wd → Prop), K w0 w1 w2 w3 w4 w5 → wp_Wd_splitNumber_L125 K post n9 z_this x1 x2 x4 x5 x6) ∧ (∀ (m9 : Nat) (K : T_Wd → Int32 → Int64 → Int32 → Int32 → Int32 → Prop) (post : Int32 → T_Wd → Prop), wp_Wd_splitNumber_L125 K post m9 z_this x1 x2 x4 x5 x6 → K w0 w1 w2 w3 w4 w5)) ∨ (∃ (w0 : Int32) (w1 : T_Wd), (∀ (K : T_Wd → Int32 → Int64 → Int32 → Int32 → Int32 → Prop) (post : Int32 → T_Wd → Prop), post w0 w1 → wp_Wd_splitNumber_L125 K post n9 z_this x1 x2 x4 x5 x6) ∧ (∀ (m9 : Nat) (K : T_Wd → Int32 → Int64 → Int32 → Int32 → Int32 → Prop) (post : Int32 → T_Wd → Prop), wp_Wd_splitNumber_L125 K post m9 z_this x1 x2 x4 x5 x6 → post w0 w1)) := by
  intro n9
  induction n9 with
  | zero => intro z_this x1 x2 x4 x5 x6 K post h; exact False.elim h
  | succ n9 ih =>
    intro z_this x1 x2 x4 x5 x6 K post h
    rw [wp_Wd_splitNumber_L125] at h
    rcases br_el h with ⟨c0, h⟩ | ⟨c0, h⟩
    · exact Or.inl ⟨_, _, _, _, _, _, fun K post q => (by rw [wp_Wd_splitNumber_L125]; exact (pT c0 (q))), fun m9 K post h => (by cases m9 with | zero => exact False.elim h | succ m9 => (rw [wp_Wd_splitNumber_L125] at h; replace h := h.1 c0; exact h))⟩
    · rcases br_el h with ⟨c1, h⟩ | ⟨c1, h⟩
      · rcases br_el h with ⟨c2, h⟩ | ⟨c2, h⟩
        · rcases br_el h with ⟨c3, h⟩ | ⟨c3, h⟩
          · rcases ih _ _ _ _ _ _ _ _ h with ⟨w4_0, w4_1, w4_2, w4_3, w4_4, w4_5, qa4, qb4⟩ | ⟨w4_0, w4_1, qa4, qb4⟩
            · exact Or.inl ⟨_, _, _, _, _, _, fun K post q => (by rw [wp_Wd_splitNumber_L125]; exact (pF c0 ((pT c1 ((pT c2 ((pT c3 ((qa4 _ _ (q))))))))))), fun m9 K post h => (by cases m9 with | zero => exact False.elim h | succ m9 => (rw [wp_Wd_splitNumber_L125] at h; replace h := h.2 c0; replace h := h.1 c1; replace h := h.1 c2; replace h := h.1 c3; replace h := qb4 m9 _ _ h; exact h))⟩
            · exact Or.inr (⟨_, _, fun K post q => (by rw [wp_Wd_splitNumber_L125]; exact (pF c0 ((pT c1 ((pT c2 ((pT c3 ((qa4 _ _ (q))))))))))), fun m9 K post h => (by cases m9 with | zero => exact False.elim h | succ m9 => (rw [wp_Wd_splitNumber_L125] at h; replace h := h.2 c0; replace h := h.1 c1; replace h := h.1 c2; replace h := h.1 c3; replace h := qb4 m9 _ _ h; exact h))⟩)
          · exact absurd (by decide) c3
        · exact absurd (by decide) c2
      · obtain ⟨r6, u6, qa2, qb2⟩ := dt_Wd_byteAt h
        replace h := qb2 _ h
        obtain ⟨r7, u7, qa3, qb3⟩ := dt_Wd_isDigit h
        replace h := qb3 _ h
        rcases br_el h with ⟨c4, h⟩ | ⟨c4, h⟩
        · rcases br_el h with ⟨c5, h⟩ | ⟨c5, h⟩
          · rcases br_el h with ⟨c6, h⟩ | ⟨c6, h⟩
            · rcases ih _ _ _ _ _ _ _ _ h with ⟨w7_0, w7_1, w7_2, w7_3, w7_4, w7_5, qa7, qb7⟩ | ⟨w7_0, w7_1, qa7, qb7⟩
              · exact Or.inl ⟨_, _, _, _, _, _, fun K post q => (by rw [wp_Wd_splitNumber_L125]; exact (pF c0 ((pF c1 ((qa2 _ ((qa3 _ ((pT c4 ((pT c5 ((pT c6 ((qa7 _ _ (q))))))))))))))))), fun m9 K post h => (by cases m9 with | zero => exact False.elim h | succ m9 => (rw [wp_Wd_splitNumber_L125] at h; replace h := h.2 c0; replace h := h.2 c1; replace h := qb2 _ h; replace h := qb3 _ h; replace h := h.1 c4; replace h := h.1 c5; replace h := h.1 c6; replace h := qb7 m9 _ _ h; exact h))⟩
              · exact Or.inr (⟨_, _, fun K post q => (by rw [wp_Wd_splitNumber_L125]; exact (pF c0 ((pF c1 ((qa2 _ ((qa3 _ ((pT c4 ((pT c5 ((pT c6 ((qa7 _ _ (q))))))))))))))))), fun m9 K post h => (by cases m9 with | zero => exact False.elim h | succ m9 => (rw [wp_Wd_splitNumber_L125] at h; replace h := h.2 c0; replace h := h.2 c1; replace h := qb2 _ h; replace h := qb3 _ h; replace h := h.1 c4; replace h := h.1 c5; replace h := h.1 c6; replace h := qb7 m9 _ _ h; exact h))⟩)
            · exact absurd (by decide) c6
          · exact absurd (by decide) c5
        · rcases br_el h with ⟨c5, h⟩ | ⟨c5, h⟩
          · exact absurd c5 (by decide)
          · obtain ⟨r9, u9, qa6, qb6⟩ := dt_Wd_byteAt h
            replace h := qb6 _ h
            rcases br_el h with ⟨c7, h⟩ | ⟨c7, h⟩
            · exact absurd c7 (by decide)
            · rcases ih _ _ _ _ _ _ _ _ h with ⟨w8_0, w8_1, w8_2, w8_3, w8_4, w8_5, qa8, qb8⟩ | ⟨w8_0, w8_1, qa8, qb8⟩
              · exact Or.inl ⟨_, _, _, _, _, _, fun K post q => (by rw [wp_Wd_splitNumber_L125]; exact (pF c0 ((pF c1 ((qa2 _ ((qa3 _ ((pF c4 ((pF c5 ((qa6 _ ((pF c7 ((qa8 _ _ (q))))))))))))))))))), fun m9 K post h => (by cases m9 with | zero => exact False.elim h | succ m9 => (rw [wp_Wd_splitNumber_L125] at h; replace h := h.2 c0; replace h := h.2 c1; replace h := qb2 _ h; replace h := qb3 _ h; replace h := h.2 c4; replace h := h.2 c5; replace h := qb6 _ h; replace h := h.2 c7; replace h := qb8 m9 _ _ h; exact h))⟩
              · exact Or.inr (⟨_, _, fun K post q => (by rw [wp_Wd_splitNumber_L125]; exact (pF c0 ((pF c1 ((qa2 _ ((qa3 _ ((pF c4 ((pF c5 ((qa6 _ ((pF c7 ((qa8 _ _ (q))))))))))))))))))), fun m9 K post h => (by cases m9 with | zero => exact False.elim h | succ m9 => (rw [wp_Wd_splitNumber_L125] at h; replace h := h.2 c0; replace h := h.2 c1; replace h := qb2 _ h; replace h := qb3 _ h; replace h := h.2 c4; replace h := h.2 c5; replace h := qb6 _ h; replace h := h.2 c7; replace h := qb8 m9 _ _ h; exact h))⟩)
set_option maxHeartbeats 2000000 in
theorem dt_Wd_splitNumber {z_this : T_Wd} {post : Int32 → T_Wd → Prop} (h : wp_Wd_splitNumber z_this post) : (∃ (w0 : Int32) (w1 : T_Wd), (∀ (post : Int32 → T_Wd → Prop), post w0 w1 → wp_Wd_splitNumber z_this post) ∧ (∀ (post : Int32 → T_Wd → Prop), wp_Wd_splitNumber z_this post → post w0 w1)) := by
  unfold wp_Wd_splitNumber at h
  obtain ⟨k0, h⟩ := h
  rcases dt_Wd_splitNumber_L10 k0 _ _ _ _ _ _ h with ⟨z_this, x1, x2, x4, qa0, qb0⟩ | ⟨w0_0, w0_1, qa0, qb0⟩
  · replace h := qb0 k0 _ _ h
    obtain ⟨r4, u4, qa1, qb1⟩ := dt_Wd_byteAt h
    replace h := qb1 _ h
    rcases br_el h with ⟨c2, h⟩ | ⟨c2, h⟩
    · obtain ⟨r14, u14, qa3, qb3⟩ := dt_Wd_byteAt h
      replace h := qb3 _ h
      obtain ⟨r15, u15, qa4, qb4⟩ := dt_Wd_isDigit h
      replace h := qb4 _ h
      rcases br_el h with ⟨c5, h⟩ | ⟨c5, h⟩
      · rcases br_el h with ⟨c6, h⟩ | ⟨c6, h⟩
        · obtain ⟨k7, h⟩ := h
          rcases dt_Wd_splitNumber_L125 k7 _ _ _ _ _ _ _ _ h with ⟨z_this, x1, x2, x4, x5, x6, qa7, qb7⟩ | ⟨w7_0, w7_1, qa7, qb7⟩
          · replace h := qb7 k7 _ _ h
            rcases br_el h with ⟨c8, h⟩ | ⟨c8, h⟩
            · obtain ⟨r16, u16, qa9, qb9⟩ := dt_Wd_keepJoined h
              replace h := qb9 _ h
              obtain ⟨s10, h⟩ := h
              exact ⟨_, _, fun post q => (by unfold wp_Wd_splitNumber; exact ⟨k0, (qa0 _ _ ((qa1 _ ((pT c2 ((qa3 _ ((qa4 _ ((pT c5 ((pT c6 (⟨k7, (qa7 _ _ ((pT c8 ((qa9 _ (⟨s10, q⟩))))))⟩))))))))))))))⟩), fun post h => (by unfold wp_Wd_splitNumber at h; obtain ⟨m0, h⟩ := h; replace h := qb0 m0 _ _ h; replace h := qb1 _ h; replace h := h.1 c2; replace h := qb3 _ h; replace h := qb4 _ h; replace h := h.1 c5; replace h := h.1 c6; obtain ⟨m7, h⟩ := h; replace h := qb7 m7 _ _ h; replace h := h.1 c8; replace h := qb9 _ h; replace h := h.2; exact h)⟩
            · obtain ⟨r17, u17, qa9, qb9⟩ := dt_Wd_keepJoined h
              replace h := qb9 _ h
              obtain ⟨s10, h⟩ := h
              exact ⟨_, _, fun post q => (by unfold wp_Wd_splitNumber; exact ⟨k0, (qa0 _ _ ((qa1 _ ((pT c2 ((qa3 _ ((qa4 _ ((pT c5 ((pT c6 (⟨k7, (qa7 _ _ ((pF c8 ((qa9 _ (⟨s10, q⟩))))))⟩))))))))))))))⟩), fun post h => (by unfold wp_Wd_splitNumber at h; obtain ⟨m0, h⟩ := h; replace h := qb0 m0 _ _ h; replace h := qb1 _ h; replace h := h.1 c2; replace h := qb3 _ h; replace h := qb4 _ h; replace h := h.1 c5; replace h := h.1 c6; obtain ⟨m7, h⟩ := h; replace h := qb7 m7 _ _ h; replace h := h.2 c8; replace h := qb9 _ h; replace h := h.2; exact h)⟩
          · exact ⟨_, _, fun post q => (by unfold wp_Wd_splitNumber; exact ⟨k0, (qa0 _ _ ((qa1 _ ((pT c2 ((qa3 _ ((qa4 _ ((pT c5 ((pT c6 (⟨k7, (qa7 _ _ (q))⟩))))))))))))))⟩), fun post h => (by unfold wp_Wd_splitNumber at h; obtain ⟨m0, h⟩ := h; replace h := qb0 m0 _ _ h; replace h := qb1 _ h; replace h := h.1 c2; replace h := qb3 _ h; replace h := qb4 _ h; replace h := h.1 c5; replace h := h.1 c6; obtain ⟨m7, h⟩ := h; replace h := qb7 m7 _ _ h; exact h)⟩
        · exact absurd (by decide) c6
      · rcases br_el h with ⟨c6, h⟩ | ⟨c6, h⟩
        · exact absurd c6 (by decide)
        · obtain ⟨k7, h⟩ := h
          rcases dt_Wd_splitNumber_L125 k7 _ _ _ _ _ _ _ _ h with ⟨z_this, x1, x2, x4, x5, x6, qa7, qb7⟩ | ⟨w7_0, w7_1, qa7, qb7⟩
          · replace h := qb7 k7 _ _ h
            rcases br_el h with ⟨c8, h⟩ | ⟨c8, h⟩
            · obtain ⟨r22, u22, qa9, qb9⟩ := dt_Wd_keepJoined h
              replace h := qb9 _ h
              obtain ⟨s10, h⟩ := h
              exact ⟨_, _, fun post q => (by unfold wp_Wd_splitNumber; exact ⟨k0, (qa0 _ _ ((qa1 _ ((pT c2 ((qa3 _ ((qa4 _ ((pF c5 ((pF c6 (⟨k7, (qa7 _ _ ((pT c8 ((qa9 _ (⟨s10, q⟩))))))⟩))))))))))))))⟩), fun post h => (by unfold wp_Wd_splitNumber at h; obtain ⟨m0, h⟩ := h; replace h := qb0 m0 _ _ h; replace h := qb1 _ h; replace h := h.1 c2; replace h := qb3 _ h; replace h := qb4 _ h; replace h := h.2 c5; replace h := h.2 c6; obtain ⟨m7, h⟩ := h; replace h := qb7 m7 _ _ h; replace h := h.1 c8; replace h := qb9 _ h; replace h := h.2; exact h)⟩
            · obtain ⟨r23, u23, qa9, qb9⟩ := dt_Wd_keepJoined h
              replace h := qb9 _ h
              obtain ⟨s10, h⟩ := h
              exact ⟨_, _, fun post q => (by unfold wp_Wd_splitNumber; exact ⟨k0, (qa0 _ _ ((qa1 _ ((pT c2 ((qa3 _ ((qa4 _ ((pF c5 ((pF c6 (⟨k7, (qa7 _ _ ((pF c8 ((qa9 _ (⟨s10, q⟩))))))⟩))))))))))))))⟩), fun post h => (by unfold wp_Wd_splitNumber at h; obtain ⟨m0, h⟩ := h; replace h := qb0 m0 _ _ h; replace h := qb1 _ h; replace h := h.1 c2; replace h := qb3 _ h; replace h := qb4 _ h; replace h := h.2 c5; replace h := h.2 c6; obtain ⟨m7, h⟩ := h; replace h := qb7 m7 _ _ h; replace h := h.2 c8; replace h := qb9 _ h; replace h := h.2; exact h)⟩
          · exact ⟨_, _, fun post q => (by unfold wp_Wd_splitNumber; exact ⟨k0, (qa0 _ _ ((qa1 _ ((pT c2 ((qa3 _ ((qa4 _ ((pF c5 ((pF c6 (⟨k7, (qa7 _ _ (q))⟩))))))))))))))⟩), fun post h => (by unfold wp_Wd_splitNumber at h; obtain ⟨m0, h⟩ := h; replace h := qb0 m0 _ _ h; replace h := qb1 _ h; replace h := h.1 c2; replace h := qb3 _ h; replace h := qb4 _ h; replace h := h.2 c5; replace h := h.2 c6; obtain ⟨m7, h⟩ := h; replace h := qb7 m7 _ _ h; exact h)⟩
    · rcases br_el h with ⟨c3, h⟩ | ⟨c3, h⟩
      · obtain ⟨k4, h⟩ := h
        rcases dt_Wd_splitNumber_L125 k4 _ _ _ _ _ _ _ _ h with ⟨z_this, x1, x2, x4, x5, x6, qa4, qb4⟩ | ⟨w4_0, w4_1, qa4, qb4⟩
        · replace h := qb4 k4 _ _ h
          rcases br_el h with ⟨c5, h⟩ | ⟨c5, h⟩
          · obtain ⟨r10, u10, qa6, qb6⟩ := dt_Wd_keepJoined h
            replace h := qb6 _ h
            obtain ⟨s7, h⟩ := h
            exact ⟨_, _, fun post q => (by unfold wp_Wd_splitNumber; exact ⟨k0, (qa0 _ _ ((qa1 _ ((pF c2 ((pT c3 (⟨k4, (qa4 _ _ ((pT c5 ((qa6 _ (⟨s7, q⟩))))))⟩))))))))⟩), fun post h => (by unfold wp_Wd_splitNumber at h; obtain ⟨m0, h⟩ := h; replace h := qb0 m0 _ _ h; replace h := qb1 _ h; replace h := h.2 c2; replace h := h.1 c3; obtain ⟨m4, h⟩ := h; replace h := qb4 m4 _ _ h; replace h := h.1 c5; replace h := qb6 _ h; replace h := h.2; exact h)⟩
          · obtain ⟨r11, u11, qa6, qb6⟩ := dt_Wd_keepJoined h
            replace h := qb6 _ h
            obtain ⟨s7, h⟩ := h
            exact ⟨_, _, fun post q => (by unfold wp_Wd_splitNumber; exact ⟨k0, (qa0 _ _ ((qa1 _ ((pF c2 ((pT c3 (⟨k4, (qa4 _ _ ((pF c5 ((qa6 _ (⟨s7, q⟩))))))⟩))))))))⟩), fun post h => (by unfold wp_Wd_splitNumber at h; obtain ⟨m0, h⟩ := h; replace h := qb0 m0 _ _ h; replace h := qb1 _ h; replace h := h.2 c2; replace h := h.1 c3; obtain ⟨m4, h⟩ := h; replace h := qb4 m4 _ _ h; replace h := h.2 c5; replace h := qb6 _ h; replace h := h.2; exact h)⟩
        · exact ⟨_, _, fun post q => (by unfold wp_Wd_splitNumber; exact ⟨k0, (qa0 _ _ ((qa1 _ ((pF c2 ((pT c3 (⟨k4, (qa4 _ _ (q))⟩))))))))⟩), fun post h => (by unfold wp_Wd_splitNumber at h; obtain ⟨m0, h⟩ := h; replace h := qb0 m0 _ _ h; replace h := qb1 _ h; replace h := h.2 c2; replace h := h.1 c3; obtain ⟨m4, h⟩ := h; replace h := qb4 m4 _ _ h; exact h)⟩
      · exact absurd (by decide) c3
  · exact ⟨_, _, fun post q => (by unfold wp_Wd_splitNumber; exact ⟨k0, (qa0 _ _ (q))⟩), fun post h => (by unfold wp_Wd_splitNumber at h; obtain ⟨m0, h⟩ := h; replace h := qb0 m0 _ _ h; exact h)⟩
set_option maxHeartbeats 2000000 in
theorem dt_Wd_splitLetters_L10 {z_this_keywords : T_Kw} : ∀ (n9 : Nat) (z_this : T_Wd) (x1 : Int32) (x2 : Int64) (x4 : Int32) (K : T_Wd → Int32 → Int64 → Int32 → Prop) (post : Int32 → T_Wd → Prop), wp_Wd_splitLetters_L10 z_this_keywords K post n9 z_this x1 x2 x4 → (∃ (w0 : T_Wd) (w1 : Int32) (w2 : Int64) (w3 : Int32), (∀ (K : T_Wd → Int32 → Int64 → Int32 → Prop) (post : Int32 → T_Wd → Prop), K w0 w1 w2 w3 → wp_Wd_splitLetters_L10 z_this_keywords K post n9 z_this x1 x2 x4) ∧ (∀ (m9 : Nat) (K : T_Wd → Int32 → Int64 → Int32 → Prop) (post : Int32 → T_Wd → Prop), wp_Wd_splitLetters_L10 z_this_keywords K post m9 z_this x1 x2 x4 → K w0 w1 w2 w3)) ∨ (∃ (w0 : Int32) (w1 : T_Wd), (∀ (K : T_Wd → Int32 → Int64 → Int32 → Prop) (post : Int32 → T_Wd → Prop), post w0 w1 → wp_Wd_splitLetters_L10 z_this_keywords K post n9 z_this x1 x2 x4) ∧ (∀ (m9 : Nat) (K : T_Wd → Int32 → Int64 → Int32 → Prop) (post : Int32 → T_Wd → Prop), wp_Wd_splitLetters_L10 z_this_keywords K post m9 z_this x1 x2 x4 → post w0 w1)) := by
  intro n9
  induction n9 with
  | zero => intro z_this x1 x2 x4 K post h; exact False.elim h
  | succ n9 ih =>
    intro z_this x1 x2 x4 K post h
    rw [wp_Wd_splitLetters_L10] at h
    rcases br_el h with ⟨c0, h⟩ | ⟨c0, h⟩
    · exact Or.inl ⟨_, _, _, _, fun K post q => (by rw [wp_Wd_splitLetters_L10]; exact (pT c0 (q))), fun m9 K post h => (by cases m9 with | zero => exact False.elim h | succ m9 => (rw [wp_Wd_splitLetters_L10] at h; replace h := h.1 c0; exact h))⟩
    · obtain ⟨r1, u1, qa1, qb1⟩ := dt_Wd_byteAt h
      replace h := qb1 _ h
      obtain ⟨r2, u2, qa2, qb2⟩ := dt_Kw_rank h
      replace h := qb2 _ h
      rcases br_el h with ⟨c3, h⟩ | ⟨c3, h⟩
      · exact Or.inl ⟨_, _, _, _, fun K post q => (by rw [wp_Wd_splitLetters_L10]; exact (pF c0 ((qa1 _ ((qa2 _ ((pT c3 (q))))))))), fun m9 K post h => (by cases m9 with | zero => exact False.elim h | succ m9 => (rw [wp_Wd_splitLetters_L10] at h; replace h := h.2 c0; replace h := qb1 _ h; replace h := qb2 _ h; replace h := h.1 c3; exact h))⟩
      · obtain ⟨r3, u3, qa4, qb4⟩ := dt_Wd_byteAt h
        replace h := qb4 _ h
        obtain ⟨r4, u4, qa5, qb5⟩ := dt_Kw_rank h
        replace h := qb5 _ h
        rcases ih _ _ _ _ _ _ h with ⟨w6_0, w6_1, w6_2, w6_3, qa6, qb6⟩ | ⟨w6_0, w6_1, qa6, qb6⟩
        · exact Or.inl ⟨_, _, _, _, fun K post q => (by rw [wp_Wd_splitLetters_L10]; exact (pF c0 ((qa1 _ ((qa2 _ ((pF c3 ((qa4 _ ((qa5 _ ((qa6 _ _ (q))))))))))))))), fun m9 K post h => (by cases m9 with | zero => exact False.elim h | succ m9 => (rw [wp_Wd_splitLetters_L10] at h; replace h := h.2 c0; replace h := qb1 _ h; replace h := qb2 _ h; replace h := h.2 c3; replace h := qb4 _ h; replace h := qb5 _ h; replace h := qb6 m9 _ _ h; exact h))⟩
        · exact Or.inr (⟨_, _, fun K post q => (by rw [wp_Wd_splitLetters_L10]; exact (pF c0 ((qa1 _ ((qa2 _ ((pF c3 ((qa4 _ ((qa5 _ ((qa6 _ _ (q))))))))))))))), fun m9 K post h => (by cases m9 with | zero => exact False.elim h | succ m9 => (rw [wp_Wd_splitLetters_L10] at h; replace h := h.2 c0; replace h := qb1 _ h; replace h := qb2 _ h; replace h := h.2 c3; replace h := qb4 _ h; replace h := qb5 _ h; replace h := qb6 m9 _ _ h; exact h))⟩)
set_option maxHeartbeats 2000000 in
theorem dt_Wd_splitLetters {z_this : T_Wd} {z_this_keywords : T_Kw} {post : Int32 → T_Wd → Prop} (h : wp_Wd_splitLetters z_this z_this_keywords post) : (∃ (w0 : Int32) (w1 : T_Wd), (∀ (post : Int32 → T_Wd → Prop), post w0 w1 → wp_Wd_splitLetters z_this z_this_keywords post) ∧ (∀ (post : Int32 → T_Wd → Prop), wp_Wd_splitLetters z_this z_this_keywords post → post w0 w1)) := by
  unfold wp_Wd_splitLetters at h
  obtain ⟨k0, h⟩ := h
  rcases dt_Wd_splitLetters_L10 k0 _ _ _ _ _ _ h with ⟨z_this, x1, x2, x4, qa0, qb0⟩ | ⟨w0_0, w0_1, qa0, qb0⟩
  · replace h := qb0 k0 _ _ h
    obtain ⟨r5, u5, qa1, qb1⟩ := dt_Kw_codeOf h
    replace h := qb1 _ h
    obtain ⟨r6, u6, qa2, qb2⟩ := dt_Wd_keepJoined h
    replace h := qb2 _ h
    obtain ⟨s3, h⟩ := h
    exact ⟨_, _, fun post q => (by unfold wp_Wd_splitLetters; exact ⟨k0, (qa0 _ _ ((qa1 _ ((qa2 _ (⟨s3, q⟩))))))⟩), fun post h => (by unfold wp_Wd_splitLetters at h; obtain ⟨m0, h⟩ := h; replace h := qb0 m0 _ _ h; replace h := qb1 _ h; replace h := qb2 _ h; replace h := h.2; exact h)⟩
  · exact ⟨_, _, fun post q => (by unfold wp_Wd_splitLetters; exact ⟨k0, (qa0 _ _ (q))⟩), fun post h => (by unfold wp_Wd_splitLetters at h; obtain ⟨m0, h⟩ := h; replace h := qb0 m0 _ _ h; exact h)⟩
set_option maxHeartbeats 2000000 in
theorem dt_Wd_splitWord {z_this : T_Wd} {z_this_keywords : T_Kw} {post : Int32 → T_Wd → Prop} (h : wp_Wd_splitWord z_this z_this_keywords post) : (∃ (w0 : Int32) (w1 : T_Wd), (∀ (post : Int32 → T_Wd → Prop), post w0 w1 → wp_Wd_splitWord z_this z_this_keywords post) ∧ (∀ (post : Int32 → T_Wd → Prop), wp_Wd_splitWord z_this z_this_keywords post → post w0 w1)) := by
  unfold wp_Wd_splitWord at h
  obtain ⟨r1, u1, qa0, qb0⟩ := dt_Wd_byteAt h
  replace h := qb0 _ h
  obtain ⟨r2, u2, qa1, qb1⟩ := dt_Wd_isDigit h
  replace h := qb1 _ h
  rcases br_el h with ⟨c2, h⟩ | ⟨c2, h⟩
  · obtain ⟨r3, u3, qa3, qb3⟩ := dt_Kw_rank h
    replace h := qb3 _ h
    rcases br_el h with ⟨c4, h⟩ | ⟨c4, h⟩
    · obtain ⟨r4, u4, qa5, qb5⟩ := dt_Wd_keep h
      replace h := qb5 _ h
      rcases br_el h with ⟨c6, h⟩ | ⟨c6, h⟩
      · exact ⟨_, _, fun post q => (by unfold wp_Wd_splitWord; exact (qa0 _ ((qa1 _ ((pT c2 ((qa3 _ ((pT c4 ((qa5 _ ((pT c6 (q))))))))))))))), fun post h => (by unfold wp_Wd_splitWord at h; replace h := qb0 _ h; replace h := qb1 _ h; replace h := h.1 c2; replace h := qb3 _ h; replace h := h.1 c4; replace h := qb5 _ h; replace h := h.1 c6; exact h)⟩
      · exact ⟨_, _, fun post q => (by unfold wp_Wd_splitWord; exact (qa0 _ ((qa1 _ ((pT c2 ((qa3 _ ((pT c4 ((qa5 _ ((pF c6 (q))))))))))))))), fun post h => (by unfold wp_Wd_splitWord at h; replace h := qb0 _ h; replace h := qb1 _ h; replace h := h.1 c2; replace h := qb3 _ h; replace h := h.1 c4; replace h := qb5 _ h; replace h := h.2 c6; exact h)⟩
    · obtain ⟨r5, u5, qa5, qb5⟩ := dt_Wd_splitLetters h
      replace h := qb5 _ h
      obtain ⟨s6, h⟩ := h
      exact ⟨_, _, fun post q => (by unfold wp_Wd_splitWord; exact (qa0 _ ((qa1 _ ((pT c2 ((qa3 _ ((pF c4 ((qa5 _ (⟨s6, q⟩))))))))))))), fun post h => (by unfold wp_Wd_splitWord at h; replace h := qb0 _ h; replace h := qb1 _ h; replace h := h.1 c2; replace h := qb3 _ h; replace h := h.2 c4; replace h := qb5 _ h; replace h := h.2; exact h)⟩
  · obtain ⟨r6, u6, qa3, qb3⟩ := dt_Wd_splitNumber h
    replace h := qb3 _ h
    obtain ⟨s4, h⟩ := h
    exact ⟨_, _, fun post q => (by unfold wp_Wd_splitWord; exact (qa0 _ ((qa1 _ ((pF c2 ((qa3 _ (⟨s4, q⟩))))))))), fun post h => (by unfold wp_Wd_splitWord at h; replace h := qb0 _ h; replace h := qb1 _ h; replace h := h.2 c2; replace h := qb3 _ h; replace h := h.2; exact h)⟩
set_option maxHeartbeats 2000000 in
theorem dt_Wd_advance {z_this : T_Wd} {post : Unit → T_Wd → Prop} (h : wp_Wd_advance z_this post) : (∃ (w0 : Unit) (w1 : T_Wd), (∀ (post : Unit → T_Wd → Prop), post w0 w1 → wp_Wd_advance z_this post) ∧ (∀ (post : Unit → T_Wd → Prop), wp_Wd_advance z_this post → post w0 w1)) := by
  unfold wp_Wd_advance at h
  rcases br_el h with ⟨c0, h⟩ | ⟨c0, h⟩
  · rcases br_el h with ⟨c1, h⟩ | ⟨c1, h⟩
    · exact ⟨_, _, fun post q => (by unfold wp_Wd_advance; exact (pT c0 ((pT c1 (q))))), fun post h => (by unfold wp_Wd_advance at h; replace h := h.1 c0; replace h := h.1 c1; exact h)⟩
    · obtain ⟨s2, h⟩ := h
      obtain ⟨s3, h⟩ := h
      obtain ⟨s4, h⟩ := h
      obtain ⟨s5, h⟩ := h
      exact ⟨_, _, fun post q => (by unfold wp_Wd_advance; exact (pT c0 ((pF c1 (⟨s2, ⟨s3, ⟨s4, ⟨s5, q⟩⟩⟩⟩))))), fun post h => (by unfold wp_Wd_advance at h; replace h := h.1 c0; replace h := h.2 c1; replace h := h.2; replace h := h.2; replace h := h.2; replace h := h.2; exact h)⟩
  · rcases br_el h with ⟨c1, h⟩ | ⟨c1, h⟩
    · rcases br_el h with ⟨c2, h⟩ | ⟨c2, h⟩
      · exact ⟨_, _, fun post q => (by unfold wp_Wd_advance; exact (pF c0 ((pT c1 ((pT c2 (q))))))), fun post h => (by unfold wp_Wd_advance at h; replace h := h.2 c0; replace h := h.1 c1; replace h := h.1 c2; exact h)⟩
      · obtain ⟨s3, h⟩ := h
        obtain ⟨s4, h⟩ := h
        obtain ⟨s5, h⟩ := h
        obtain ⟨s6, h⟩ := h
        exact ⟨_, _, fun post q => (by unfold wp_Wd_advance; exact (pF c0 ((pT c1 ((pF c2 (⟨s3, ⟨s4, ⟨s5, ⟨s6, q⟩⟩⟩⟩))))))), fun post h => (by unfold wp_Wd_advance at h; replace h := h.2 c0; replace h := h.1 c1; replace h := h.2 c2; replace h := h.2; replace h := h.2; replace h := h.2; replace h := h.2; exact h)⟩
    · rcases br_el h with ⟨c2, h⟩ | ⟨c2, h⟩
      · exact ⟨_, _, fun post q => (by unfold wp_Wd_advance; exact (pF c0 ((pF c1 ((pT c2 (q))))))), fun post h => (by unfold wp_Wd_advance at h; replace h := h.2 c0; replace h := h.2 c1; replace h := h.1 c2; exact h)⟩
      · obtain ⟨s3, h⟩ := h
        obtain ⟨s4, h⟩ := h
        obtain ⟨s5, h⟩ := h
        obtain ⟨s6, h⟩ := h
        exact ⟨_, _, fun post q => (by unfold wp_Wd_advance; exact (pF c0 ((pF c1 ((pF c2 (⟨s3, ⟨s4, ⟨s5, ⟨s6, q⟩⟩⟩⟩))))))), fun post h => (by unfold wp_Wd_advance at h; replace h := h.2 c0; replace h := h.2 c1; replace h := h.2 c2; replace h := h.2; replace h := h.2; replace h := h.2; replace h := h.2; exact h)⟩
set_option maxHeartbeats 2000000 in
theorem dt_Wd_split_L19 {z_this_keywords : T_Kw} : ∀ (n9 : Nat) (z_this : T_Wd) (x1 : Int32) (x2 : Int32) (K : T_Wd → Int32 → Int32 → Prop) (post : Unit → T_Wd → Prop), wp_Wd_split_L19 z_this_keywords K post n9 z_this x1 x2 → (∃ (w0 : T_Wd) (w1 : Int32) (w2 : Int32), (∀ (K : T_Wd → Int32 → Int32 → Prop) (post : Unit → T_Wd → Prop), K w0 w1 w2 → wp_Wd_split_L19 z_this_keywords K post n9 z_this x1 x2) ∧ (∀ (m9 : Nat) (K : T_Wd → Int32 → Int32 → Prop) (post : Unit → T_Wd → Prop), wp_Wd_split_L19 z_this_keywords K post m9 z_this x1 x2 → K w0 w1 w2)) ∨ (∃ (w0 : Unit) (w1 : T_Wd), (∀ (K : T_Wd → Int32 → Int32 → Prop) (post : Unit → T_Wd → Prop), post w0 w1 → wp_Wd_split_L19 z_this_keywords K post n9 z_this x1 x2) ∧ (∀ (m9 : Nat) (K : T_Wd → Int32 → Int32 → Prop) (post : Unit → T_Wd → Prop), wp_Wd_split_L19 z_this_keywords K post m9 z_this x1 x2 → post w0 w1)) := by
  intro n9
  induction n9 with
  | zero => intro z_this x1 x2 K post h; exact False.elim h
  | succ n9 ih =>
    intro z_this x1 x2 K post h
    rw [wp_Wd_split_L19] at h
    rcases br_el h with ⟨c0, h⟩ | ⟨c0, h⟩
    · exact Or.inl ⟨_, _, _, fun K post q => (by rw [wp_Wd_split_L19]; exact (pT c0 (q))), fun m9 K post h => (by cases m9 with | zero => exact False.elim h | succ m9 => (rw [wp_Wd_split_L19] at h; replace h := h.1 c0; exact h))⟩
    · rcases br_el h with ⟨c1, h⟩ | ⟨c1, h⟩
      · exact Or.inl ⟨_, _, _, fun K post q => (by rw [wp_Wd_split_L19]; exact (pF c0 ((pT c1 (q))))), fun m9 K post h => (by cases m9 with | zero => exact False.elim h | succ m9 => (rw [wp_Wd_split_L19] at h; replace h := h.2 c0; replace h := h.1 c1; exact h))⟩
      · obtain ⟨r1, u1, qa2, qb2⟩ := dt_Wd_skipBlanks h
        replace h := qb2 _ h
        obtain ⟨r2, u2, qa3, qb3⟩ := dt_Wd_splitWord h
        replace h := qb3 _ h
        rcases ih _ _ _ _ _ h with ⟨w4_0, w4_1, w4_2, qa4, qb4⟩ | ⟨w4_0, w4_1, qa4, qb4⟩
        · exact Or.inl ⟨_, _, _, fun K post q => (by rw [wp_Wd_split_L19]; exact (pF c0 ((pF c1 ((qa2 _ ((qa3 _ ((qa4 _ _ (q))))))))))), fun m9 K post h => (by cases m9 with | zero => exact False.elim h | succ m9 => (rw [wp_Wd_split_L19] at h; replace h := h.2 c0; replace h := h.2 c1; replace h := qb2 _ h; replace h := qb3 _ h; replace h := qb4 m9 _ _ h; exact h))⟩
        · exact Or.inr (⟨_, _, fun K post q => (by rw [wp_Wd_split_L19]; exact (pF c0 ((pF c1 ((qa2 _ ((qa3 _ ((qa4 _ _ (q))))))))))), fun m9 K post h => (by cases m9 with | zero => exact False.elim h | succ m9 => (rw [wp_Wd_split_L19] at h; replace h := h.2 c0; replace h := h.2 c1; replace h := qb2 _ h; replace h := qb3 _ h; replace h := qb4 m9 _ _ h; exact h))⟩)
set_option maxHeartbeats 2000000 in
theorem dt_Wd_split {z_this : T_Wd} {z_this_keywords : T_Kw} {post : Unit → T_Wd → Prop} (h : wp_Wd_split z_this z_this_keywords post) : (∃ (w0 : Unit) (w1 : T_Wd), (∀ (post : Unit → T_Wd → Prop), post w0 w1 → wp_Wd_split z_this z_this_keywords post) ∧ (∀ (post : Unit → T_Wd → Prop), wp_Wd_split z_this z_this_keywords post → post w0 w1)) := by
  unfold wp_Wd_split at h
  obtain ⟨k0, h⟩ := h
  rcases dt_Wd_split_L19 k0 _ _ _ _ _ h with ⟨z_this, x1, x2, qa0, qb0⟩ | ⟨w0_0, w0_1, qa0, qb0⟩
  · replace h := qb0 k0 _ _ h
    obtain ⟨r3, u3, qa1, qb1⟩ := dt_Wd_forget h
    replace h := qb1 _ h
    obtain ⟨r4, u4, qa2, qb2⟩ := dt_Wd_advance h
    replace h := qb2 _ h
    exact ⟨_, _, fun post q => (by unfold wp_Wd_split; exact ⟨k0, (qa0 _ _ ((qa1 _ ((qa2 _ (q))))))⟩), fun post h => (by unfold wp_Wd_split at h; obtain ⟨m0, h⟩ := h; replace h := qb0 m0 _ _ h; replace h := qb1 _ h; replace h := qb2 _ h; exact h)⟩
  · exact ⟨_, _, fun post q => (by unfold wp_Wd_split; exact ⟨k0, (qa0 _ _ (q))⟩), fun post h => (by unfold wp_Wd_split at h; obtain ⟨m0, h⟩ := h; replace h := qb0 m0 _ _ h; exact h)⟩
set_option maxHeartbeats 2000000 in
theorem dt_Pr_names {z_this : T_Pr} {post : Unit → Unit → Prop} (h : wp_Pr_names z_this post) : (∃ (w0 : Unit) (w1 : Unit), (∀ (post : Unit → Unit → Prop), post w0 w1 → wp_Pr_names z_this post) ∧ (∀ (post : Unit → Unit → Prop), wp_Pr_names z_this post → post w0 w1)) := by
  unfold wp_Pr_names at h
  exact ⟨_, _, fun post q => (by unfold wp_Pr_names; exact q), fun post h => (by unfold wp_Pr_names at h; exact h)⟩
set_option maxHeartbeats 2000000 in
theorem dt_Pr_nodes {z_this : T_Pr} {post : Unit → Unit → Prop} (h : wp_Pr_nodes z_this post) : (∃ (w0 : Unit) (w1 : Unit), (∀ (post : Unit → Unit → Prop), post w0 w1 → wp_Pr_nodes z_this post) ∧ (∀ (post : Unit → Unit → Prop), wp_Pr_nodes z_this post → post w0 w1)) := by
  unfold wp_Pr_nodes at h
  exact ⟨_, _, fun post q => (by unfold wp_Pr_nodes; exact q), fun post h => (by unfold wp_Pr_nodes at h; exact h)⟩
set_option maxHeartbeats 2000000 in
theorem dt_Pr_empty {z_this : T_Pr} {z_this_names : T_Nm} {z_this_nodes : T_Nd} {post : Unit → T_Nm × T_Nd → Prop} (h : wp_Pr_empty z_this z_this_names z_this_nodes post) : (∃ (w0 : Unit) (w1 : T_Nm × T_Nd), (∀ (post : Unit → T_Nm × T_Nd → Prop), post w0 w1 → wp_Pr_empty z_this z_this_names z_this_nodes post) ∧ (∀ (post : Unit → T_Nm × T_Nd → Prop), wp_Pr_empty z_this z_this_names z_this_nodes post → post w0 w1)) := by
  unfold wp_Pr_empty at h
  obtain ⟨r1, u1, qa0, qb0⟩ := dt_Nm_empty h
  replace h := qb0 _ h
  obtain ⟨r2, u2, qa1, qb1⟩ := dt_Nd_empty h
  replace h := qb1 _ h
  exact ⟨_, _, fun post q => (by unfold wp_Pr_empty; exact (qa0 _ ((qa1 _ (q))))), fun post h => (by unfold wp_Pr_empty at h; replace h := qb0 _ h; replace h := qb1 _ h; exact h)⟩
set_option maxHeartbeats 2000000 in
theorem dt_Pr_useDoneSteps_L12 {z_this : T_Pr} {z_this_nodes : T_Nd} : ∀ (n9 : Nat) (z_this_names : T_Nm) (x1 : Int32) (x2 : Int32) (K : T_Nm → Int32 → Int32 → Prop) (post : Unit → T_Nm → Prop), wp_Pr_useDoneSteps_L12 z_this z_this_nodes K post n9 z_this_names x1 x2 → (∃ (w0 : T_Nm) (w1 : Int32) (w2 : Int32), (∀ (K : T_Nm → Int32 → Int32 → Prop) (post : Unit → T_Nm → Prop), K w0 w1 w2 → wp_Pr_useDoneSteps_L12 z_this z_this_nodes K post n9 z_this_names x1 x2) ∧ (∀ (m9 : Nat) (K : T_Nm → Int32 → Int32 → Prop) (post : Unit → T_Nm → Prop), wp_Pr_useDoneSteps_L12 z_this z_this_nodes K post m9 z_this_names x1 x2 → K w0 w1 w2)) ∨ (∃ (w0 : Unit) (w1 : T_Nm), (∀ (K : T_Nm → Int32 → Int32 → Prop) (post : Unit → T_Nm → Prop), post w0 w1 → wp_Pr_useDoneSteps_L12 z_this z_this_nodes K post n9 z_this_names x1 x2) ∧ (∀ (m9 : Nat) (K : T_Nm → Int32 → Int32 → Prop) (post : Unit → T_Nm → Prop), wp_Pr_useDoneSteps_L12 z_this z_this_nodes K post m9 z_this_names x1 x2 → post w0 w1)) := by
  intro n9
  induction n9 with
  | zero => intro z_this_names x1 x2 K post h; exact False.elim h
  | succ n9 ih =>
    intro z_this_names x1 x2 K post h
    rw [wp_Pr_useDoneSteps_L12] at h
    rcases br_el h with ⟨c0, h⟩ | ⟨c0, h⟩
    · exact Or.inl ⟨_, _, _, fun K post q => (by rw [wp_Pr_useDoneSteps_L12]; exact (pT c0 (q))), fun m9 K post h => (by cases m9 with | zero => exact False.elim h | succ m9 => (rw [wp_Pr_useDoneSteps_L12] at h; replace h := h.1 c0; exact h))⟩
    · obtain ⟨r2, u2, qa1, qb1⟩ := dt_Nd_kindOf h
      replace h := qb1 _ h
      rcases br_el h with ⟨c2, h⟩ | ⟨c2, h⟩
      · obtain ⟨r5, u5, qa3, qb3⟩ := dt_Nd_subjectOf h
        replace h := qb3 _ h
        obtain ⟨r6, u6, qa4, qb4⟩ := dt_Nm_isUsed h
        replace h := qb4 _ h
        rcases ih _ _ _ _ _ h with ⟨w5_0, w5_1, w5_2, qa5, qb5⟩ | ⟨w5_0, w5_1, qa5, qb5⟩
        · exact Or.inl ⟨_, _, _, fun K post q => (by rw [wp_Pr_useDoneSteps_L12]; exact (pF c0 ((qa1 _ ((pT c2 ((qa3 _ ((qa4 _ ((qa5 _ _ (q))))))))))))), fun m9 K post h => (by cases m9 with | zero => exact False.elim h | succ m9 => (rw [wp_Pr_useDoneSteps_L12] at h; replace h := h.2 c0; replace h := qb1 _ h; replace h := h.1 c2; replace h := qb3 _ h; replace h := qb4 _ h; replace h := qb5 m9 _ _ h; exact h))⟩
        · exact Or.inr (⟨_, _, fun K post q => (by rw [wp_Pr_useDoneSteps_L12]; exact (pF c0 ((qa1 _ ((pT c2 ((qa3 _ ((qa4 _ ((qa5 _ _ (q))))))))))))), fun m9 K post h => (by cases m9 with | zero => exact False.elim h | succ m9 => (rw [wp_Pr_useDoneSteps_L12] at h; replace h := h.2 c0; replace h := qb1 _ h; replace h := h.1 c2; replace h := qb3 _ h; replace h := qb4 _ h; replace h := qb5 m9 _ _ h; exact h))⟩)
      · rcases br_el h with ⟨c3, h⟩ | ⟨c3, h⟩
        · rcases br_el h with ⟨c4, h⟩ | ⟨c4, h⟩
          · rcases ih _ _ _ _ _ h with ⟨w5_0, w5_1, w5_2, qa5, qb5⟩ | ⟨w5_0, w5_1, qa5, qb5⟩
            · exact Or.inl ⟨_, _, _, fun K post q => (by rw [wp_Pr_useDoneSteps_L12]; exact (pF c0 ((qa1 _ ((pF c2 ((pT c3 ((pT c4 ((qa5 _ _ (q))))))))))))), fun m9 K post h => (by cases m9 with | zero => exact False.elim h | succ m9 => (rw [wp_Pr_useDoneSteps_L12] at h; replace h := h.2 c0; replace h := qb1 _ h; replace h := h.2 c2; replace h := h.1 c3; replace h := h.1 c4; replace h := qb5 m9 _ _ h; exact h))⟩
            · exact Or.inr (⟨_, _, fun K post q => (by rw [wp_Pr_useDoneSteps_L12]; exact (pF c0 ((qa1 _ ((pF c2 ((pT c3 ((pT c4 ((qa5 _ _ (q))))))))))))), fun m9 K post h => (by cases m9 with | zero => exact False.elim h | succ m9 => (rw [wp_Pr_useDoneSteps_L12] at h; replace h := h.2 c0; replace h := qb1 _ h; replace h := h.2 c2; replace h := h.1 c3; replace h := h.1 c4; replace h := qb5 m9 _ _ h; exact h))⟩)
          · obtain ⟨r3, u3, qa5, qb5⟩ := dt_Nd_subjectOf h
            replace h := qb5 _ h
            obtain ⟨r4, u4, qa6, qb6⟩ := dt_Nm_use h
            replace h := qb6 _ h
            rcases ih _ _ _ _ _ h with ⟨w7_0, w7_1, w7_2, qa7, qb7⟩ | ⟨w7_0, w7_1, qa7, qb7⟩
            · exact Or.inl ⟨_, _, _, fun K post q => (by rw [wp_Pr_useDoneSteps_L12]; exact (pF c0 ((qa1 _ ((pF c2 ((pT c3 ((pF c4 ((qa5 _ ((qa6 _ ((qa7 _ _ (q))))))))))))))))), fun m9 K post h => (by cases m9 with | zero => exact False.elim h | succ m9 => (rw [wp_Pr_useDoneSteps_L12] at h; replace h := h.2 c0; replace h := qb1 _ h; replace h := h.2 c2; replace h := h.1 c3; replace h := h.2 c4; replace h := qb5 _ h; replace h := qb6 _ h; replace h := qb7 m9 _ _ h; exact h))⟩
            · exact Or.inr (⟨_, _, fun K post q => (by rw [wp_Pr_useDoneSteps_L12]; exact (pF c0 ((qa1 _ ((pF c2 ((pT c3 ((pF c4 ((qa5 _ ((qa6 _ ((qa7 _ _ (q))))))))))))))))), fun m9 K post h => (by cases m9 with | zero => exact False.elim h | succ m9 => (rw [wp_Pr_useDoneSteps_L12] at h; replace h := h.2 c0; replace h := qb1 _ h; replace h := h.2 c2; replace h := h.1 c3; replace h := h.2 c4; replace h := qb5 _ h; replace h := qb6 _ h; replace h := qb7 m9 _ _ h; exact h))⟩)
        · rcases ih _ _ _ _ _ h with ⟨w4_0, w4_1, w4_2, qa4, qb4⟩ | ⟨w4_0, w4_1, qa4, qb4⟩
          · exact Or.inl ⟨_, _, _, fun K post q => (by rw [wp_Pr_useDoneSteps_L12]; exact (pF c0 ((qa1 _ ((pF c2 ((pF c3 ((qa4 _ _ (q))))))))))), fun m9 K post h => (by cases m9 with | zero => exact False.elim h | succ m9 => (rw [wp_Pr_useDoneSteps_L12] at h; replace h := h.2 c0; replace h := qb1 _ h; replace h := h.2 c2; replace h := h.2 c3; replace h := qb4 m9 _ _ h; exact h))⟩
          · exact Or.inr (⟨_, _, fun K post q => (by rw [wp_Pr_useDoneSteps_L12]; exact (pF c0 ((qa1 _ ((pF c2 ((pF c3 ((qa4 _ _ (q))))))))))), fun m9 K post h => (by cases m9 with | zero => exact False.elim h | succ m9 => (rw [wp_Pr_useDoneSteps_L12] at h; replace h := h.2 c0; replace h := qb1 _ h; replace h := h.2 c2; replace h := h.2 c3; replace h := qb4 m9 _ _ h; exact h))⟩)
set_option maxHeartbeats 2000000 in
theorem dt_Pr_useDoneSteps {z_this : T_Pr} {z_this_names : T_Nm} {z_this_nodes : T_Nd} {post : Unit → T_Nm → Prop} (h : wp_Pr_useDoneSteps z_this z_this_names z_this_nodes post) : (∃ (w0 : Unit) (w1 : T_Nm), (∀ (post : Unit → T_Nm → Prop), post w0 w1 → wp_Pr_useDoneSteps z_this z_this_names z_this_nodes post) ∧ (∀ (post : Unit → T_Nm → Prop), wp_Pr_useDoneSteps z_this z_this_names z_this_nodes post → post w0 w1)) := by
  unfold wp_Pr_useDoneSteps at h
  obtain ⟨r1, u1, qa0, qb0⟩ := dt_Nd_count h
  replace h := qb0 _ h
  obtain ⟨k1, h⟩ := h
  rcases dt_Pr_useDoneSteps_L12 k1 _ _ _ _ _ h with ⟨z_this_names, x1, x2, qa1, qb1⟩ | ⟨w1_0, w1_1, qa1, qb1⟩
  · replace h := qb1 k1 _ _ h
    exact ⟨_, _, fun post q => (by unfold wp_Pr_useDoneSteps; exact (qa0 _ (⟨k1, (qa1 _ _ (q))⟩))), fun post h => (by unfold wp_Pr_useDoneSteps at h; replace h := qb0 _ h; obtain ⟨m1, h⟩ := h; replace h := qb1 m1 _ _ h; exact h)⟩
  · exact ⟨_, _, fun post q => (by unfold wp_Pr_useDoneSteps; exact (qa0 _ (⟨k1, (qa1 _ _ (q))⟩))), fun post h => (by unfold wp_Pr_useDoneSteps at h; replace h := qb0 _ h; obtain ⟨m1, h⟩ := h; replace h := qb1 m1 _ _ h; exact h)⟩
set_option maxHeartbeats 2000000 in
theorem dt_Pr_finish {z_this : T_Pr} {z_this_names : T_Nm} {z_this_nodes : T_Nd} {post : Unit → T_Nm × T_Nd → Prop} (h : wp_Pr_finish z_this z_this_names z_this_nodes post) : (∃ (w0 : Unit) (w1 : T_Nm × T_Nd), (∀ (post : Unit → T_Nm × T_Nd → Prop), post w0 w1 → wp_Pr_finish z_this z_this_names z_this_nodes post) ∧ (∀ (post : Unit → T_Nm × T_Nd → Prop), wp_Pr_finish z_this z_this_names z_this_nodes post → post w0 w1)) := by
  unfold wp_Pr_finish at h
  obtain ⟨r1, u1, qa0, qb0⟩ := dt_Nd_finish h
  replace h := qb0 _ h
  obtain ⟨r2, u2, qa1, qb1⟩ := dt_Pr_useDoneSteps h
  replace h := qb1 _ h
  exact ⟨_, _, fun post q => (by unfold wp_Pr_finish; exact (qa0 _ ((qa1 _ (q))))), fun post h => (by unfold wp_Pr_finish at h; replace h := qb0 _ h; replace h := qb1 _ h; exact h)⟩
set_option maxHeartbeats 2000000 in
theorem dt_Kw_init_L19 : ∀ (n9 : Nat) (z_this : T_Kw) (x1 : Int32) (x2 : Int64) (x4 : Int32) (K : T_Kw → Int32 → Int64 → Int32 → Prop) (post : Unit → T_Kw → Prop), wp_Kw_init_L19 K post n9 z_this x1 x2 x4 → (∃ (w0 : T_Kw) (w1 : Int32) (w2 : Int64) (w3 : Int32), (∀ (K : T_Kw → Int32 → Int64 → Int32 → Prop) (post : Unit → T_Kw → Prop), K w0 w1 w2 w3 → wp_Kw_init_L19 K post n9 z_this x1 x2 x4) ∧ (∀ (m9 : Nat) (K : T_Kw → Int32 → Int64 → Int32 → Prop) (post : Unit → T_Kw → Prop), wp_Kw_init_L19 K post m9 z_this x1 x2 x4 → K w0 w1 w2 w3)) ∨ (∃ (w0 : Unit) (w1 : T_Kw), (∀ (K : T_Kw → Int32 → Int64 → Int32 → Prop) (post : Unit → T_Kw → Prop), post w0 w1 → wp_Kw_init_L19 K post n9 z_this x1 x2 x4) ∧ (∀ (m9 : Nat) (K : T_Kw → Int32 → Int64 → Int32 → Prop) (post : Unit → T_Kw → Prop), wp_Kw_init_L19 K post m9 z_this x1 x2 x4 → post w0 w1)) := by
  intro n9
  induction n9 with
  | zero => intro z_this x1 x2 x4 K post h; exact False.elim h
  | succ n9 ih =>
    intro z_this x1 x2 x4 K post h
    rw [wp_Kw_init_L19] at h
    rcases br_el h with ⟨c0, h⟩ | ⟨c0, h⟩
    · exact Or.inl ⟨_, _, _, _, fun K post q => (by rw [wp_Kw_init_L19]; exact (pT c0 (q))), fun m9 K post h => (by cases m9 with | zero => exact False.elim h | succ m9 => (rw [wp_Kw_init_L19] at h; replace h := h.1 c0; exact h))⟩
    · obtain ⟨s1, h⟩ := h
      rcases br_el h with ⟨c2, h⟩ | ⟨c2, h⟩
      · rcases br_el h with ⟨c3, h⟩ | ⟨c3, h⟩
        · rcases ih _ _ _ _ _ _ h with ⟨w4_0, w4_1, w4_2, w4_3, qa4, qb4⟩ | ⟨w4_0, w4_1, qa4, qb4⟩
          · exact Or.inl ⟨_, _, _, _, fun K post q => (by rw [wp_Kw_init_L19]; exact (pF c0 (⟨s1, (pT c2 ((pT c3 ((qa4 _ _ (q))))))⟩))), fun m9 K post h => (by cases m9 with | zero => exact False.elim h | succ m9 => (rw [wp_Kw_init_L19] at h; replace h := h.2 c0; replace h := h.2; replace h := h.1 c2; replace h := h.1 c3; replace h := qb4 m9 _ _ h; exact h))⟩
          · exact Or.inr (⟨_, _, fun K post q => (by rw [wp_Kw_init_L19]; exact (pF c0 (⟨s1, (pT c2 ((pT c3 ((qa4 _ _ (q))))))⟩))), fun m9 K post h => (by cases m9 with | zero => exact False.elim h | succ m9 => (rw [wp_Kw_init_L19] at h; replace h := h.2 c0; replace h := h.2; replace h := h.1 c2; replace h := h.1 c3; replace h := qb4 m9 _ _ h; exact h))⟩)
        · obtain ⟨s4, h⟩ := h
          rcases ih _ _ _ _ _ _ h with ⟨w5_0, w5_1, w5_2, w5_3, qa5, qb5⟩ | ⟨w5_0, w5_1, qa5, qb5⟩
          · exact Or.inl ⟨_, _, _, _, fun K post q => (by rw [wp_Kw_init_L19]; exact (pF c0 (⟨s1, (pT c2 ((pF c3 (⟨s4, (qa5 _ _ (q))⟩))))⟩))), fun m9 K post h => (by cases m9 with | zero => exact False.elim h | succ m9 => (rw [wp_Kw_init_L19] at h; replace h := h.2 c0; replace h := h.2; replace h := h.1 c2; replace h := h.2 c3; replace h := h.2; replace h := qb5 m9 _ _ h; exact h))⟩
          · exact Or.inr (⟨_, _, fun K post q => (by rw [wp_Kw_init_L19]; exact (pF c0 (⟨s1, (pT c2 ((pF c3 (⟨s4, (qa5 _ _ (q))⟩))))⟩))), fun m9 K post h => (by cases m9 with | zero => exact False.elim h | succ m9 => (rw [wp_Kw_init_L19] at h; replace h := h.2 c0; replace h := h.2; replace h := h.1 c2; replace h := h.2 c3; replace h := h.2; replace h := qb5 m9 _ _ h; exact h))⟩)
      · obtain ⟨r3, u3, qa3, qb3⟩ := dt_Kw_rank h
        replace h := qb3 _ h
        rcases ih _ _ _ _ _ _ h with ⟨w4_0, w4_1, w4_2, w4_3, qa4, qb4⟩ | ⟨w4_0, w4_1, qa4, qb4⟩
        · exact Or.inl ⟨_, _, _, _, fun K post q => (by rw [wp_Kw_init_L19]; exact (pF c0 (⟨s1, (pF c2 ((qa3 _ ((qa4 _ _ (q))))))⟩))), fun m9 K post h => (by cases m9 with | zero => exact False.elim h | succ m9 => (rw [wp_Kw_init_L19] at h; replace h := h.2 c0; replace h := h.2; replace h := h.2 c2; replace h := qb3 _ h; replace h := qb4 m9 _ _ h; exact h))⟩
        · exact Or.inr (⟨_, _, fun K post q => (by rw [wp_Kw_init_L19]; exact (pF c0 (⟨s1, (pF c2 ((qa3 _ ((qa4 _ _ (q))))))⟩))), fun m9 K post h => (by cases m9 with | zero => exact False.elim h | succ m9 => (rw [wp_Kw_init_L19] at h; replace h := h.2 c0; replace h := h.2; replace h := h.2 c2; replace h := qb3 _ h; replace h := qb4 m9 _ _ h; exact h))⟩)
set_option maxHeartbeats 2000000 in
theorem dt_Kw_init {post : Unit → T_Kw → Prop} (h : wp_Kw_init post) : (∃ (w0 : Unit) (w1 : T_Kw), (∀ (post : Unit → T_Kw → Prop), post w0 w1 → wp_Kw_init post) ∧ (∀ (post : Unit → T_Kw → Prop), wp_Kw_init post → post w0 w1)) := by
  unfold wp_Kw_init at h
  obtain ⟨k0, h⟩ := h
  rcases dt_Kw_init_L19 k0 _ _ _ _ _ _ h with ⟨z_this, x1, x2, x4, qa0, qb0⟩ | ⟨w0_0, w0_1, qa0, qb0⟩
  · replace h := qb0 k0 _ _ h
    exact ⟨_, _, fun post q => (by unfold wp_Kw_init; exact ⟨k0, (qa0 _ _ (q))⟩), fun post h => (by unfold wp_Kw_init at h; obtain ⟨m0, h⟩ := h; replace h := qb0 m0 _ _ h; exact h)⟩
  · exact ⟨_, _, fun post q => (by unfold wp_Kw_init; exact ⟨k0, (qa0 _ _ (q))⟩), fun post h => (by unfold wp_Kw_init at h; obtain ⟨m0, h⟩ := h; replace h := qb0 m0 _ _ h; exact h)⟩
set_option maxHeartbeats 2000000 in
theorem dt_Gr_wrongPlace {z_this : T_Gr} {post : Int32 → Unit → Prop} (h : wp_Gr_wrongPlace z_this post) : (∃ (w0 : Int32) (w1 : Unit), (∀ (post : Int32 → Unit → Prop), post w0 w1 → wp_Gr_wrongPlace z_this post) ∧ (∀ (post : Int32 → Unit → Prop), wp_Gr_wrongPlace z_this post → post w0 w1)) := by
  unfold wp_Gr_wrongPlace at h
  exact ⟨_, _, fun post q => (by unfold wp_Gr_wrongPlace; exact q), fun post h => (by unfold wp_Gr_wrongPlace at h; exact h)⟩
set_option maxHeartbeats 2000000 in
theorem dt_Gr_isBetween {z_this : T_Gr} {z_this_words : T_Wd} {a1 : Int32} {a2 : Int32} {post : Int32 → Unit → Prop} (h : wp_Gr_isBetween z_this z_this_words a1 a2 post) : (∃ (w0 : Int32) (w1 : Unit), (∀ (post : Int32 → Unit → Prop), post w0 w1 → wp_Gr_isBetween z_this z_this_words a1 a2 post) ∧ (∀ (post : Int32 → Unit → Prop), wp_Gr_isBetween z_this z_this_words a1 a2 post → post w0 w1)) := by
  unfold wp_Gr_isBetween at h
  rcases br_el h with ⟨c0, h⟩ | ⟨c0, h⟩
  · exact ⟨_, _, fun post q => (by unfold wp_Gr_isBetween; exact (pT c0 (q))), fun post h => (by unfold wp_Gr_isBetween at h; replace h := h.1 c0; exact h)⟩
  · rcases br_el h with ⟨c1, h⟩ | ⟨c1, h⟩
    · exact ⟨_, _, fun post q => (by unfold wp_Gr_isBetween; exact (pF c0 ((pT c1 (q))))), fun post h => (by unfold wp_Gr_isBetween at h; replace h := h.2 c0; replace h := h.1 c1; exact h)⟩
    · exact ⟨_, _, fun post q => (by unfold wp_Gr_isBetween; exact (pF c0 ((pF c1 (q))))), fun post h => (by unfold wp_Gr_isBetween at h; replace h := h.2 c0; replace h := h.2 c1; exact h)⟩
set_option maxHeartbeats 2000000 in
theorem dt_Gr_refuse {z_this : T_Gr} {a1 : Int32} {postT : T_Gr → Prop} (h : wp_Gr_refuse z_this a1 postT) : (∃ (w0 : T_Gr), (∀ (postT : T_Gr → Prop), postT w0 → wp_Gr_refuse z_this a1 postT) ∧ (∀ (postT : T_Gr → Prop), wp_Gr_refuse z_this a1 postT → postT w0)) := by
  unfold wp_Gr_refuse at h
  exact ⟨_, fun postT q => (by unfold wp_Gr_refuse; exact q), fun postT h => (by unfold wp_Gr_refuse at h; exact h)⟩
set_option maxHeartbeats 2000000 in
theorem dt_Gr_pass {z_this : T_Gr} {z_this_nodes : T_Nd} {z_this_words : T_Wd} {post : Unit → T_Gr × T_Wd → Prop} {postT : T_Gr × T_Wd → Prop} (h : wp_Gr_pass z_this z_this_nodes z_this_words post postT) : (∃ (w0 : Unit) (w1 : T_Gr × T_Wd), (∀ (post : Unit → T_Gr × T_Wd → Prop) (postT : T_Gr × T_Wd → Prop), post w0 w1 → wp_Gr_pass z_this z_this_nodes z_this_words post postT) ∧ (∀ (post : Unit → T_Gr × T_Wd → Prop) (postT : T_Gr × T_Wd → Prop), wp_Gr_pass z_this z_this_nodes z_this_words post postT → post w0 w1)) ∨ (∃ (w0 : T_Gr × T_Wd), (∀ (post : Unit → T_Gr × T_Wd → Prop) (postT : T_Gr × T_Wd → Prop), postT w0 → wp_Gr_pass z_this z_this_nodes z_this_words post postT) ∧ (∀ (post : Unit → T_Gr × T_Wd → Prop) (postT : T_Gr × T_Wd → Prop), wp_Gr_pass z_this z_this_nodes z_this_words post postT → postT w0)) := by
  unfold wp_Gr_pass at h
  obtain ⟨r1, u1, qa0, qb0⟩ := dt_Nd_isTooMany h
  replace h := qb0 _ h
  rcases br_el h with ⟨c1, h⟩ | ⟨c1, h⟩
  · obtain ⟨r2, u2, qa2, qb2⟩ := dt_Wd_advance h
    replace h := qb2 _ h
    rcases br_el h with ⟨c3, h⟩ | ⟨c3, h⟩
    · obtain ⟨u, qa4, qb4⟩ := dt_Gr_refuse h
      replace h := qb4 _ h
      exact Or.inr (⟨_, fun post postT q => (by unfold wp_Gr_pass; exact (qa0 _ ((pT c1 ((qa2 _ ((pT c3 ((qa4 _ (q))))))))))), fun post postT h => (by unfold wp_Gr_pass at h; replace h := qb0 _ h; replace h := h.1 c1; replace h := qb2 _ h; replace h := h.1 c3; replace h := qb4 _ h; exact h)⟩)
    · exact Or.inl ⟨_, _, fun post postT q => (by unfold wp_Gr_pass; exact (qa0 _ ((pT c1 ((qa2 _ ((pF c3 (q))))))))), fun post postT h => (by unfold wp_Gr_pass at h; replace h := qb0 _ h; replace h := h.1 c1; replace h := qb2 _ h; replace h := h.2 c3; exact h)⟩
  · obtain ⟨u, qa2, qb2⟩ := dt_Gr_refuse h
    replace h := qb2 _ h
    exact Or.inr (⟨_, fun post postT q => (by unfold wp_Gr_pass; exact (qa0 _ ((pF c1 ((qa2 _ (q))))))), fun post postT h => (by unfold wp_Gr_pass at h; replace h := qb0 _ h; replace h := h.2 c1; replace h := qb2 _ h; exact h)⟩)
set_option maxHeartbeats 2000000 in
theorem dt_Gr_readNewName {z_this : T_Gr} {z_this_names : T_Nm} {z_this_nodes : T_Nd} {z_this_words : T_Wd} {post : Int64 → T_Gr × T_Wd → Prop} {postT : T_Gr × T_Wd → Prop} (h : wp_Gr_readNewName z_this z_this_names z_this_nodes z_this_words post postT) : (∃ (w0 : Int64) (w1 : T_Gr × T_Wd), (∀ (post : Int64 → T_Gr × T_Wd → Prop) (postT : T_Gr × T_Wd → Prop), post w0 w1 → wp_Gr_readNewName z_this z_this_names z_this_nodes z_this_words post postT) ∧ (∀ (post : Int64 → T_Gr × T_Wd → Prop) (postT : T_Gr × T_Wd → Prop), wp_Gr_readNewName z_this z_this_names z_this_nodes z_this_words post postT → post w0 w1)) ∨ (∃ (w0 : T_Gr × T_Wd), (∀ (post : Int64 → T_Gr × T_Wd → Prop) (postT : T_Gr × T_Wd → Prop), postT w0 → wp_Gr_readNewName z_this z_this_names z_this_nodes z_this_words post postT) ∧ (∀ (post : Int64 → T_Gr × T_Wd → Prop) (postT : T_Gr × T_Wd → Prop), wp_Gr_readNewName z_this z_this_names z_this_nodes z_this_words post postT → postT w0)) := by
  unfold wp_Gr_readNewName at h
  rcases dt_Gr_pass h with ⟨r1, u1, qa0, qb0⟩ | ⟨u, qa0, qb0⟩
  · replace h := qb0 _ _ h
    rcases br_el h with ⟨c1, h⟩ | ⟨c1, h⟩
    · obtain ⟨r3, u3, qa2, qb2⟩ := dt_Nm_canTell h
      replace h := qb2 _ h
      rcases br_el h with ⟨c3, h⟩ | ⟨c3, h⟩
      · obtain ⟨u, qa4, qb4⟩ := dt_Gr_refuse h
        replace h := qb4 _ h
        exact Or.inr (⟨_, fun post postT q => (by unfold wp_Gr_readNewName; exact (qa0 _ _ ((pT c1 ((qa2 _ ((pT c3 ((qa4 _ (q))))))))))), fun post postT h => (by unfold wp_Gr_readNewName at h; replace h := qb0 _ _ h; replace h := h.1 c1; replace h := qb2 _ h; replace h := h.1 c3; replace h := qb4 _ h; exact h)⟩)
      · rcases dt_Gr_pass h with ⟨r4, u4, qa4, qb4⟩ | ⟨u, qa4, qb4⟩
        · replace h := qb4 _ _ h
          exact Or.inl ⟨_, _, fun post postT q => (by unfold wp_Gr_readNewName; exact (qa0 _ _ ((pT c1 ((qa2 _ ((pF c3 ((qa4 _ _ (q))))))))))), fun post postT h => (by unfold wp_Gr_readNewName at h; replace h := qb0 _ _ h; replace h := h.1 c1; replace h := qb2 _ h; replace h := h.2 c3; replace h := qb4 _ _ h; exact h)⟩
        · replace h := qb4 _ _ h
          exact Or.inr (⟨_, fun post postT q => (by unfold wp_Gr_readNewName; exact (qa0 _ _ ((pT c1 ((qa2 _ ((pF c3 ((qa4 _ _ (q))))))))))), fun post postT h => (by unfold wp_Gr_readNewName at h; replace h := qb0 _ _ h; replace h := h.1 c1; replace h := qb2 _ h; replace h := h.2 c3; replace h := qb4 _ _ h; exact h)⟩)
    · obtain ⟨u, qa2, qb2⟩ := dt_Gr_refuse h
      replace h := qb2 _ h
      exact Or.inr (⟨_, fun post postT q => (by unfold wp_Gr_readNewName; exact (qa0 _ _ ((pF c1 ((qa2 _ (q))))))), fun post postT h => (by unfold wp_Gr_readNewName at h; replace h := qb0 _ _ h; replace h := h.2 c1; replace h := qb2 _ h; exact h)⟩)
  · replace h := qb0 _ _ h
    exact Or.inr (⟨_, fun post postT q => (by unfold wp_Gr_readNewName; exact (qa0 _ _ (q))), fun post postT h => (by unfold wp_Gr_readNewName at h; replace h := qb0 _ _ h; exact h)⟩)
set_option maxHeartbeats 2000000 in
theorem dt_Gr_refuseOneMore {z_this : T_Gr} {z_this_words : T_Wd} {a1 : Int32} {post : Unit → T_Gr → Prop} {postT : T_Gr → Prop} (h : wp_Gr_refuseOneMore z_this z_this_words a1 post postT) : (∃ (w0 : Unit) (w1 : T_Gr), (∀ (post : Unit → T_Gr → Prop) (postT : T_Gr → Prop), post w0 w1 → wp_Gr_refuseOneMore z_this z_this_words a1 post postT) ∧ (∀ (post : Unit → T_Gr → Prop) (postT : T_Gr → Prop), wp_Gr_refuseOneMore z_this z_this_words a1 post postT → post w0 w1)) ∨ (∃ (w0 : T_Gr), (∀ (post : Unit → T_Gr → Prop) (postT : T_Gr → Prop), postT w0 → wp_Gr_refuseOneMore z_this z_this_words a1 post postT) ∧ (∀ (post : Unit → T_Gr → Prop) (postT : T_Gr → Prop), wp_Gr_refuseOneMore z_this z_this_words a1 post postT → postT w0)) := by
  unfold wp_Gr_refuseOneMore at h
  rcases br_el h with ⟨c0, h⟩ | ⟨c0, h⟩
  · exact Or.inl ⟨_, _, fun post postT q => (by unfold wp_Gr_refuseOneMore; exact (pT c0 (q))), fun post postT h => (by unfold wp_Gr_refuseOneMore at h; replace h := h.1 c0; exact h)⟩
  · obtain ⟨u, qa1, qb1⟩ := dt_Gr_refuse h
    replace h := qb1 _ h
    exact Or.inr (⟨_, fun post postT q => (by unfold wp_Gr_refuseOneMore; exact (pF c0 ((qa1 _ (q))))), fun post postT h => (by unfold wp_Gr_refuseOneMore at h; replace h := h.2 c0; replace h := qb1 _ h; exact h)⟩)
set_option maxHeartbeats 2000000 in
theorem dt_Gr_take {z_this : T_Gr} {z_this_nodes : T_Nd} {z_this_words : T_Wd} {a1 : Int32} {post : Unit → T_Gr × T_Wd → Prop} {postT : T_Gr × T_Wd → Prop} (h : wp_Gr_take z_this z_this_nodes z_this_words a1 post postT) : (∃ (w0 : Unit) (w1 : T_Gr × T_Wd), (∀ (post : Unit → T_Gr × T_Wd → Prop) (postT : T_Gr × T_Wd → Prop), post w0 w1 → wp_Gr_take z_this z_this_nodes z_this_words a1 post postT) ∧ (∀ (post : Unit → T_Gr × T_Wd → Prop) (postT : T_Gr × T_Wd → Prop), wp_Gr_take z_this z_this_nodes z_this_words a1 post postT → post w0 w1)) ∨ (∃ (w0 : T_Gr × T_Wd), (∀ (post : Unit → T_Gr × T_Wd → Prop) (postT : T_Gr × T_Wd → Prop), postT w0 → wp_Gr_take z_this z_this_nodes z_this_words a1 post postT) ∧ (∀ (post : Unit → T_Gr × T_Wd → Prop) (postT : T_Gr × T_Wd → Prop), wp_Gr_take z_this z_this_nodes z_this_words a1 post postT → postT w0)) := by
  unfold wp_Gr_take at h
  rcases br_el h with ⟨c0, h⟩ | ⟨c0, h⟩
  · rcases dt_Gr_pass h with ⟨r1, u1, qa1, qb1⟩ | ⟨u, qa1, qb1⟩
    · replace h := qb1 _ _ h
      exact Or.inl ⟨_, _, fun post postT q => (by unfold wp_Gr_take; exact (pT c0 ((qa1 _ _ (q))))), fun post postT h => (by unfold wp_Gr_take at h; replace h := h.1 c0; replace h := qb1 _ _ h; exact h)⟩
    · replace h := qb1 _ _ h
      exact Or.inr (⟨_, fun post postT q => (by unfold wp_Gr_take; exact (pT c0 ((qa1 _ _ (q))))), fun post postT h => (by unfold wp_Gr_take at h; replace h := h.1 c0; replace h := qb1 _ _ h; exact h)⟩)
  · obtain ⟨u, qa1, qb1⟩ := dt_Gr_refuse h
    replace h := qb1 _ h
    exact Or.inr (⟨_, fun post postT q => (by unfold wp_Gr_take; exact (pF c0 ((qa1 _ (q))))), fun post postT h => (by unfold wp_Gr_take at h; replace h := h.2 c0; replace h := qb1 _ h; exact h)⟩)
set_option maxHeartbeats 2000000 in
theorem dt_Gr_readName {z_this : T_Gr} {z_this_names : T_Nm} {z_this_nodes : T_Nd} {z_this_words : T_Wd} {a1 : Int32} {post : Int32 → T_Gr × T_Wd → Prop} {postT : T_Gr × T_Wd → Prop} (h : wp_Gr_readName z_this z_this_names z_this_nodes z_this_words a1 post postT) : (∃ (w0 : Int32) (w1 : T_Gr × T_Wd), (∀ (post : Int32 → T_Gr × T_Wd → Prop) (postT : T_Gr × T_Wd → Prop), post w0 w1 → wp_Gr_readName z_this z_this_names z_this_nodes z_this_words a1 post postT) ∧ (∀ (post : Int32 → T_Gr × T_Wd → Prop) (postT : T_Gr × T_Wd → Prop), wp_Gr_readName z_this z_this_names z_this_nodes z_this_words a1 post postT → post w0 w1)) ∨ (∃ (w0 : T_Gr × T_Wd), (∀ (post : Int32 → T_Gr × T_Wd → Prop) (postT : T_Gr × T_Wd → Prop), postT w0 → wp_Gr_readName z_this z_this_names z_this_nodes z_this_words a1 post postT) ∧ (∀ (post : Int32 → T_Gr × T_Wd → Prop) (postT : T_Gr × T_Wd → Prop), wp_Gr_readName z_this z_this_names z_this_nodes z_this_words a1 post postT → postT w0)) := by
  unfold wp_Gr_readName at h
  rcases br_el h with ⟨c0, h⟩ | ⟨c0, h⟩
  · obtain ⟨r5, u5, qa1, qb1⟩ := dt_Nm_find h
    replace h := qb1 _ h
    rcases br_el h with ⟨c2, h⟩ | ⟨c2, h⟩
    · obtain ⟨u, qa3, qb3⟩ := dt_Gr_refuse h
      replace h := qb3 _ h
      exact Or.inr (⟨_, fun post postT q => (by unfold wp_Gr_readName; exact (pT c0 ((qa1 _ ((pT c2 ((qa3 _ (q))))))))), fun post postT h => (by unfold wp_Gr_readName at h; replace h := h.1 c0; replace h := qb1 _ h; replace h := h.1 c2; replace h := qb3 _ h; exact h)⟩)
    · obtain ⟨r7, u7, qa3, qb3⟩ := dt_Nm_sortOf h
      replace h := qb3 _ h
      rcases br_el h with ⟨c4, h⟩ | ⟨c4, h⟩
      · rcases dt_Gr_pass h with ⟨r8, u8, qa5, qb5⟩ | ⟨u, qa5, qb5⟩
        · replace h := qb5 _ _ h
          exact Or.inl ⟨_, _, fun post postT q => (by unfold wp_Gr_readName; exact (pT c0 ((qa1 _ ((pF c2 ((qa3 _ ((pT c4 ((qa5 _ _ (q))))))))))))), fun post postT h => (by unfold wp_Gr_readName at h; replace h := h.1 c0; replace h := qb1 _ h; replace h := h.2 c2; replace h := qb3 _ h; replace h := h.1 c4; replace h := qb5 _ _ h; exact h)⟩
        · replace h := qb5 _ _ h
          exact Or.inr (⟨_, fun post postT q => (by unfold wp_Gr_readName; exact (pT c0 ((qa1 _ ((pF c2 ((qa3 _ ((pT c4 ((qa5 _ _ (q))))))))))))), fun post postT h => (by unfold wp_Gr_readName at h; replace h := h.1 c0; replace h := qb1 _ h; replace h := h.2 c2; replace h := qb3 _ h; replace h := h.1 c4; replace h := qb5 _ _ h; exact h)⟩)
      · obtain ⟨u, qa5, qb5⟩ := dt_Gr_refuse h
        replace h := qb5 _ h
        exact Or.inr (⟨_, fun post postT q => (by unfold wp_Gr_readName; exact (pT c0 ((qa1 _ ((pF c2 ((qa3 _ ((pF c4 ((qa5 _ (q))))))))))))), fun post postT h => (by unfold wp_Gr_readName at h; replace h := h.1 c0; replace h := qb1 _ h; replace h := h.2 c2; replace h := qb3 _ h; replace h := h.2 c4; replace h := qb5 _ h; exact h)⟩)
  · rcases br_el h with ⟨c1, h⟩ | ⟨c1, h⟩
    · obtain ⟨u, qa2, qb2⟩ := dt_Gr_refuse h
      replace h := qb2 _ h
      exact Or.inr (⟨_, fun post postT q => (by unfold wp_Gr_readName; exact (pF c0 ((pT c1 ((qa2 _ (q))))))), fun post postT h => (by unfold wp_Gr_readName at h; replace h := h.2 c0; replace h := h.1 c1; replace h := qb2 _ h; exact h)⟩)
    · exact absurd (by decide) c1
set_option maxHeartbeats 2000000 in
theorem dt_Gr_measureHere {z_this : T_Gr} {z_this_words : T_Wd} {post : Int32 → Unit → Prop} (h : wp_Gr_measureHere z_this z_this_words post) : (∃ (w0 : Int32) (w1 : Unit), (∀ (post : Int32 → Unit → Prop), post w0 w1 → wp_Gr_measureHere z_this z_this_words post) ∧ (∀ (post : Int32 → Unit → Prop), wp_Gr_measureHere z_this z_this_words post → post w0 w1)) := by
  unfold wp_Gr_measureHere at h
  obtain ⟨r1, u1, qa0, qb0⟩ := dt_Gr_isBetween h
  replace h := qb0 _ h
  rcases br_el h with ⟨c1, h⟩ | ⟨c1, h⟩
  · exact ⟨_, _, fun post q => (by unfold wp_Gr_measureHere; exact (qa0 _ ((pT c1 (q))))), fun post h => (by unfold wp_Gr_measureHere at h; replace h := qb0 _ h; replace h := h.1 c1; exact h)⟩
  · exact ⟨_, _, fun post q => (by unfold wp_Gr_measureHere; exact (qa0 _ ((pF c1 (q))))), fun post h => (by unfold wp_Gr_measureHere at h; replace h := qb0 _ h; replace h := h.2 c1; exact h)⟩
set_option maxHeartbeats 2000000 in
theorem dt_Gr_readAmount {z_this : T_Gr} {z_this_nodes : T_Nd} {z_this_words : T_Wd} {post : Int32 → T_Gr × T_Nd × T_Wd → Prop} {postT : T_Gr × T_Nd × T_Wd → Prop} (h : wp_Gr_readAmount z_this z_this_nodes z_this_words post postT) : (∃ (w0 : Int32) (w1 : T_Gr × T_Nd × T_Wd), (∀ (post : Int32 → T_Gr × T_Nd × T_Wd → Prop) (postT : T_Gr × T_Nd × T_Wd → Prop), post w0 w1 → wp_Gr_readAmount z_this z_this_nodes z_this_words post postT) ∧ (∀ (post : Int32 → T_Gr × T_Nd × T_Wd → Prop) (postT : T_Gr × T_Nd × T_Wd → Prop), wp_Gr_readAmount z_this z_this_nodes z_this_words post postT → post w0 w1)) ∨ (∃ (w0 : T_Gr × T_Nd × T_Wd), (∀ (post : Int32 → T_Gr × T_Nd × T_Wd → Prop) (postT : T_Gr × T_Nd × T_Wd → Prop), postT w0 → wp_Gr_readAmount z_this z_this_nodes z_this_words post postT) ∧ (∀ (post : Int32 → T_Gr × T_Nd × T_Wd → Prop) (postT : T_Gr × T_Nd × T_Wd → Prop), wp_Gr_readAmount z_this z_this_nodes z_this_words post postT → postT w0)) := by
  unfold wp_Gr_readAmount at h
  rcases dt_Gr_pass h with ⟨r1, u1, qa0, qb0⟩ | ⟨u, qa0, qb0⟩
  · replace h := qb0 _ _ h
    obtain ⟨r2, u2, qa1, qb1⟩ := dt_Gr_measureHere h
    replace h := qb1 _ h
    obtain ⟨r3, u3, qa2, qb2⟩ := dt_Gr_isBetween h
    replace h := qb2 _ h
    rcases br_el h with ⟨c3, h⟩ | ⟨c3, h⟩
    · rcases br_el h with ⟨c4, h⟩ | ⟨c4, h⟩
      · rcases br_el h with ⟨c5, h⟩ | ⟨c5, h⟩
        · obtain ⟨r4, u4, qa6, qb6⟩ := dt_Nd_count h
          replace h := qb6 _ h
          obtain ⟨r5, u5, qa7, qb7⟩ := dt_Nd_add h
          replace h := qb7 _ h
          exact Or.inl ⟨_, _, fun post postT q => (by unfold wp_Gr_readAmount; exact (qa0 _ _ ((qa1 _ ((qa2 _ ((pT c3 ((pT c4 ((pT c5 ((qa6 _ ((qa7 _ (q))))))))))))))))), fun post postT h => (by unfold wp_Gr_readAmount at h; replace h := qb0 _ _ h; replace h := qb1 _ h; replace h := qb2 _ h; replace h := h.1 c3; replace h := h.1 c4; replace h := h.1 c5; replace h := qb6 _ h; replace h := qb7 _ h; exact h)⟩
        · rcases dt_Gr_pass h with ⟨r6, u6, qa6, qb6⟩ | ⟨u, qa6, qb6⟩
          · replace h := qb6 _ _ h
            obtain ⟨r7, u7, qa7, qb7⟩ := dt_Nd_count h
            replace h := qb7 _ h
            obtain ⟨r8, u8, qa8, qb8⟩ := dt_Nd_add h
            replace h := qb8 _ h
            exact Or.inl ⟨_, _, fun post postT q => (by unfold wp_Gr_readAmount; exact (qa0 _ _ ((qa1 _ ((qa2 _ ((pT c3 ((pT c4 ((pF c5 ((qa6 _ _ ((qa7 _ ((qa8 _ (q))))))))))))))))))), fun post postT h => (by unfold wp_Gr_readAmount at h; replace h := qb0 _ _ h; replace h := qb1 _ h; replace h := qb2 _ h; replace h := h.1 c3; replace h := h.1 c4; replace h := h.2 c5; replace h := qb6 _ _ h; replace h := qb7 _ h; replace h := qb8 _ h; exact h)⟩
          · replace h := qb6 _ _ h
            exact Or.inr (⟨_, fun post postT q => (by unfold wp_Gr_readAmount; exact (qa0 _ _ ((qa1 _ ((qa2 _ ((pT c3 ((pT c4 ((pF c5 ((qa6 _ _ (q))))))))))))))), fun post postT h => (by unfold wp_Gr_readAmount at h; replace h := qb0 _ _ h; replace h := qb1 _ h; replace h := qb2 _ h; replace h := h.1 c3; replace h := h.1 c4; replace h := h.2 c5; replace h := qb6 _ _ h; exact h)⟩)
      · obtain ⟨u, qa5, qb5⟩ := dt_Gr_refuse h
        replace h := qb5 _ h
        exact Or.inr (⟨_, fun post postT q => (by unfold wp_Gr_readAmount; exact (qa0 _ _ ((qa1 _ ((qa2 _ ((pT c3 ((pF c4 ((qa5 _ (q))))))))))))), fun post postT h => (by unfold wp_Gr_readAmount at h; replace h := qb0 _ _ h; replace h := qb1 _ h; replace h := qb2 _ h; replace h := h.1 c3; replace h := h.2 c4; replace h := qb5 _ h; exact h)⟩)
    · rcases br_el h with ⟨c4, h⟩ | ⟨c4, h⟩
      · rcases br_el h with ⟨c5, h⟩ | ⟨c5, h⟩
        · rcases br_el h with ⟨c6, h⟩ | ⟨c6, h⟩
          · exact absurd c6 (by decide)
          · rcases dt_Gr_pass h with ⟨r18, u18, qa7, qb7⟩ | ⟨u, qa7, qb7⟩
            · replace h := qb7 _ _ h
              obtain ⟨r19, u19, qa8, qb8⟩ := dt_Nd_count h
              replace h := qb8 _ h
              obtain ⟨r20, u20, qa9, qb9⟩ := dt_Nd_add h
              replace h := qb9 _ h
              exact Or.inl ⟨_, _, fun post postT q => (by unfold wp_Gr_readAmount; exact (qa0 _ _ ((qa1 _ ((qa2 _ ((pF c3 ((pT c4 ((pT c5 ((pF c6 ((qa7 _ _ ((qa8 _ ((qa9 _ (q))))))))))))))))))))), fun post postT h => (by unfold wp_Gr_readAmount at h; replace h := qb0 _ _ h; replace h := qb1 _ h; replace h := qb2 _ h; replace h := h.2 c3; replace h := h.1 c4; replace h := h.1 c5; replace h := h.2 c6; replace h := qb7 _ _ h; replace h := qb8 _ h; replace h := qb9 _ h; exact h)⟩
            · replace h := qb7 _ _ h
              exact Or.inr (⟨_, fun post postT q => (by unfold wp_Gr_readAmount; exact (qa0 _ _ ((qa1 _ ((qa2 _ ((pF c3 ((pT c4 ((pT c5 ((pF c6 ((qa7 _ _ (q))))))))))))))))), fun post postT h => (by unfold wp_Gr_readAmount at h; replace h := qb0 _ _ h; replace h := qb1 _ h; replace h := qb2 _ h; replace h := h.2 c3; replace h := h.1 c4; replace h := h.1 c5; replace h := h.2 c6; replace h := qb7 _ _ h; exact h)⟩)
        · obtain ⟨u, qa6, qb6⟩ := dt_Gr_refuse h
          replace h := qb6 _ h
          exact Or.inr (⟨_, fun post postT q => (by unfold wp_Gr_readAmount; exact (qa0 _ _ ((qa1 _ ((qa2 _ ((pF c3 ((pT c4 ((pF c5 ((qa6 _ (q))))))))))))))), fun post postT h => (by unfold wp_Gr_readAmount at h; replace h := qb0 _ _ h; replace h := qb1 _ h; replace h := qb2 _ h; replace h := h.2 c3; replace h := h.1 c4; replace h := h.2 c5; replace h := qb6 _ h; exact h)⟩)
      · rcases br_el h with ⟨c5, h⟩ | ⟨c5, h⟩
        · rcases br_el h with ⟨c6, h⟩ | ⟨c6, h⟩
          · exact absurd c6 (by decide)
          · rcases dt_Gr_pass h with ⟨r12, u12, qa7, qb7⟩ | ⟨u, qa7, qb7⟩
            · replace h := qb7 _ _ h
              obtain ⟨r13, u13, qa8, qb8⟩ := dt_Nd_count h
              replace h := qb8 _ h
              obtain ⟨r14, u14, qa9, qb9⟩ := dt_Nd_add h
              replace h := qb9 _ h
              exact Or.inl ⟨_, _, fun post postT q => (by unfold wp_Gr_readAmount; exact (qa0 _ _ ((qa1 _ ((qa2 _ ((pF c3 ((pF c4 ((pT c5 ((pF c6 ((qa7 _ _ ((qa8 _ ((qa9 _ (q))))))))))))))))))))), fun post postT h => (by unfold wp_Gr_readAmount at h; replace h := qb0 _ _ h; replace h := qb1 _ h; replace h := qb2 _ h; replace h := h.2 c3; replace h := h.2 c4; replace h := h.1 c5; replace h := h.2 c6; replace h := qb7 _ _ h; replace h := qb8 _ h; replace h := qb9 _ h; exact h)⟩
            · replace h := qb7 _ _ h
              exact Or.inr (⟨_, fun post postT q => (by unfold wp_Gr_readAmount; exact (qa0 _ _ ((qa1 _ ((qa2 _ ((pF c3 ((pF c4 ((pT c5 ((pF c6 ((qa7 _ _ (q))))))))))))))))), fun post postT h => (by unfold wp_Gr_readAmount at h; replace h := qb0 _ _ h; replace h := qb1 _ h; replace h := qb2 _ h; replace h := h.2 c3; replace h := h.2 c4; replace h := h.1 c5; replace h := h.2 c6; replace h := qb7 _ _ h; exact h)⟩)
        · obtain ⟨u, qa6, qb6⟩ := dt_Gr_refuse h
          replace h := qb6 _ h
          exact Or.inr (⟨_, fun post postT q => (by unfold wp_Gr_readAmount; exact (qa0 _ _ ((qa1 _ ((qa2 _ ((pF c3 ((pF c4 ((pF c5 ((qa6 _ (q))))))))))))))), fun post postT h => (by unfold wp_Gr_readAmount at h; replace h := qb0 _ _ h; replace h := qb1 _ h; replace h := qb2 _ h; replace h := h.2 c3; replace h := h.2 c4; replace h := h.2 c5; replace h := qb6 _ h; exact h)⟩)
  · replace h := qb0 _ _ h
    exact Or.inr (⟨_, fun post postT q => (by unfold wp_Gr_readAmount; exact (qa0 _ _ (q))), fun post postT h => (by unfold wp_Gr_readAmount at h; replace h := qb0 _ _ h; exact h)⟩)
set_option maxHeartbeats 2000000 in
theorem dt_Gr_readMeasured {z_this : T_Gr} {z_this_names : T_Nm} {z_this_nodes : T_Nd} {z_this_words : T_Wd} {post : Int32 → T_Gr × T_Nm × T_Nd × T_Wd → Prop} {postT : T_Gr × T_Nm × T_Nd × T_Wd → Prop} (h : wp_Gr_readMeasured z_this z_this_names z_this_nodes z_this_words post postT) : (∃ (w0 : Int32) (w1 : T_Gr × T_Nm × T_Nd × T_Wd), (∀ (post : Int32 → T_Gr × T_Nm × T_Nd × T_Wd → Prop) (postT : T_Gr × T_Nm × T_Nd × T_Wd → Prop), post w0 w1 → wp_Gr_readMeasured z_this z_this_names z_this_nodes z_this_words post postT) ∧ (∀ (post : Int32 → T_Gr × T_Nm × T_Nd × T_Wd → Prop) (postT : T_Gr × T_Nm × T_Nd × T_Wd → Prop), wp_Gr_readMeasured z_this z_this_names z_this_nodes z_this_words post postT → post w0 w1)) ∨ (∃ (w0 : T_Gr × T_Nm × T_Nd × T_Wd), (∀ (post : Int32 → T_Gr × T_Nm × T_Nd × T_Wd → Prop) (postT : T_Gr × T_Nm × T_Nd × T_Wd → Prop), postT w0 → wp_Gr_readMeasured z_this z_this_names z_this_nodes z_this_words post postT) ∧ (∀ (post : Int32 → T_Gr × T_Nm × T_Nd × T_Wd → Prop) (postT : T_Gr × T_Nm × T_Nd × T_Wd → Prop), wp_Gr_readMeasured z_this z_this_names z_this_nodes z_this_words post postT → postT w0)) := by
  unfold wp_Gr_readMeasured at h
  rcases br_el h with ⟨c0, h⟩ | ⟨c0, h⟩
  · obtain ⟨r14, u14, qa1, qb1⟩ := dt_Nm_find h
    replace h := qb1 _ h
    rcases br_el h with ⟨c2, h⟩ | ⟨c2, h⟩
    · obtain ⟨u, qa3, qb3⟩ := dt_Gr_refuse h
      replace h := qb3 _ h
      exact Or.inr (⟨_, fun post postT q => (by unfold wp_Gr_readMeasured; exact (pT c0 ((qa1 _ ((pT c2 ((qa3 _ (q))))))))), fun post postT h => (by unfold wp_Gr_readMeasured at h; replace h := h.1 c0; replace h := qb1 _ h; replace h := h.1 c2; replace h := qb3 _ h; exact h)⟩)
    · obtain ⟨r16, u16, qa3, qb3⟩ := dt_Nm_sortOf h
      replace h := qb3 _ h
      rcases br_el h with ⟨c4, h⟩ | ⟨c4, h⟩
      · obtain ⟨u, qa5, qb5⟩ := dt_Gr_refuse h
        replace h := qb5 _ h
        exact Or.inr (⟨_, fun post postT q => (by unfold wp_Gr_readMeasured; exact (pT c0 ((qa1 _ ((pF c2 ((qa3 _ ((pT c4 ((qa5 _ (q))))))))))))), fun post postT h => (by unfold wp_Gr_readMeasured at h; replace h := h.1 c0; replace h := qb1 _ h; replace h := h.2 c2; replace h := qb3 _ h; replace h := h.1 c4; replace h := qb5 _ h; exact h)⟩)
      · obtain ⟨r17, u17, qa5, qb5⟩ := dt_Nm_sortOf h
        replace h := qb5 _ h
        rcases br_el h with ⟨c6, h⟩ | ⟨c6, h⟩
        · obtain ⟨r22, u22, qa7, qb7⟩ := dt_Nm_use h
          replace h := qb7 _ h
          rcases dt_Gr_pass h with ⟨r23, u23, qa8, qb8⟩ | ⟨u, qa8, qb8⟩
          · replace h := qb8 _ _ h
            obtain ⟨r24, u24, qa9, qb9⟩ := dt_Nd_count h
            replace h := qb9 _ h
            obtain ⟨r25, u25, qa10, qb10⟩ := dt_Nm_measureOf h
            replace h := qb10 _ h
            obtain ⟨r26, u26, qa11, qb11⟩ := dt_Nd_add h
            replace h := qb11 _ h
            exact Or.inl ⟨_, _, fun post postT q => (by unfold wp_Gr_readMeasured; exact (pT c0 ((qa1 _ ((pF c2 ((qa3 _ ((pF c4 ((qa5 _ ((pT c6 ((qa7 _ ((qa8 _ _ ((qa9 _ ((qa10 _ ((qa11 _ (q))))))))))))))))))))))))), fun post postT h => (by unfold wp_Gr_readMeasured at h; replace h := h.1 c0; replace h := qb1 _ h; replace h := h.2 c2; replace h := qb3 _ h; replace h := h.2 c4; replace h := qb5 _ h; replace h := h.1 c6; replace h := qb7 _ h; replace h := qb8 _ _ h; replace h := qb9 _ h; replace h := qb10 _ h; replace h := qb11 _ h; exact h)⟩
          · replace h := qb8 _ _ h
            exact Or.inr (⟨_, fun post postT q => (by unfold wp_Gr_readMeasured; exact (pT c0 ((qa1 _ ((pF c2 ((qa3 _ ((pF c4 ((qa5 _ ((pT c6 ((qa7 _ ((qa8 _ _ (q))))))))))))))))))), fun post postT h => (by unfold wp_Gr_readMeasured at h; replace h := h.1 c0; replace h := qb1 _ h; replace h := h.2 c2; replace h := qb3 _ h; replace h := h.2 c4; replace h := qb5 _ h; replace h := h.1 c6; replace h := qb7 _ h; replace h := qb8 _ _ h; exact h)⟩)
        · rcases dt_Gr_pass h with ⟨r18, u18, qa7, qb7⟩ | ⟨u, qa7, qb7⟩
          · replace h := qb7 _ _ h
            obtain ⟨r19, u19, qa8, qb8⟩ := dt_Nd_count h
            replace h := qb8 _ h
            obtain ⟨r20, u20, qa9, qb9⟩ := dt_Nm_measureOf h
            replace h := qb9 _ h
            obtain ⟨r21, u21, qa10, qb10⟩ := dt_Nd_add h
            replace h := qb10 _ h
            exact Or.inl ⟨_, _, fun post postT q => (by unfold wp_Gr_readMeasured; exact (pT c0 ((qa1 _ ((pF c2 ((qa3 _ ((pF c4 ((qa5 _ ((pF c6 ((qa7 _ _ ((qa8 _ ((qa9 _ ((qa10 _ (q))))))))))))))))))))))), fun post postT h => (by unfold wp_Gr_readMeasured at h; replace h := h.1 c0; replace h := qb1 _ h; replace h := h.2 c2; replace h := qb3 _ h; replace h := h.2 c4; replace h := qb5 _ h; replace h := h.2 c6; replace h := qb7 _ _ h; replace h := qb8 _ h; replace h := qb9 _ h; replace h := qb10 _ h; exact h)⟩
          · replace h := qb7 _ _ h
            exact Or.inr (⟨_, fun post postT q => (by unfold wp_Gr_readMeasured; exact (pT c0 ((qa1 _ ((pF c2 ((qa3 _ ((pF c4 ((qa5 _ ((pF c6 ((qa7 _ _ (q))))))))))))))))), fun post postT h => (by unfold wp_Gr_readMeasured at h; replace h := h.1 c0; replace h := qb1 _ h; replace h := h.2 c2; replace h := qb3 _ h; replace h := h.2 c4; replace h := qb5 _ h; replace h := h.2 c6; replace h := qb7 _ _ h; exact h)⟩)
  · rcases br_el h with ⟨c1, h⟩ | ⟨c1, h⟩
    · obtain ⟨u, qa2, qb2⟩ := dt_Gr_refuse h
      replace h := qb2 _ h
      exact Or.inr (⟨_, fun post postT q => (by unfold wp_Gr_readMeasured; exact (pF c0 ((pT c1 ((qa2 _ (q))))))), fun post postT h => (by unfold wp_Gr_readMeasured at h; replace h := h.2 c0; replace h := h.1 c1; replace h := qb2 _ h; exact h)⟩)
    · exact absurd (by decide) c1
set_option maxHeartbeats 2000000 in
theorem dt_Gr_operator_L2 {z_this : T_Gr} {z_this_words : T_Wd} : ∀ (n9 : Nat) (x1 : Int32) (x2 : Int32) (x3 : Int32) (K : Int32 → Int32 → Int32 → Prop) (post : Int32 → Unit → Prop), wp_Gr_operator_L2 z_this z_this_words K post n9 x1 x2 x3 → (∃ (w0 : Int32) (w1 : Int32) (w2 : Int32), (∀ (K : Int32 → Int32 → Int32 → Prop) (post : Int32 → Unit → Prop), K w0 w1 w2 → wp_Gr_operator_L2 z_this z_this_words K post n9 x1 x2 x3) ∧ (∀ (m9 : Nat) (K : Int32 → Int32 → Int32 → Prop) (post : Int32 → Unit → Prop), wp_Gr_operator_L2 z_this z_this_words K post m9 x1 x2 x3 → K w0 w1 w2)) ∨ (∃ (w0 : Int32) (w1 : Unit), (∀ (K : Int32 → Int32 → Int32 → Prop) (post : Int32 → Unit → Prop), post w0 w1 → wp_Gr_operator_L2 z_this z_this_words K post n9 x1 x2 x3) ∧ (∀ (m9 : Nat) (K : Int32 → Int32 → Int32 → Prop) (post : Int32 → Unit → Prop), wp_Gr_operator_L2 z_this z_this_words K post m9 x1 x2 x3 → post w0 w1)) := by
  intro n9
  induction n9 with
  | zero => intro x1 x2 x3 K post h; exact False.elim h
  | succ n9 ih =>
    intro x1 x2 x3 K post h
    rw [wp_Gr_operator_L2] at h
    rcases br_el h with ⟨c0, h⟩ | ⟨c0, h⟩
    · exact Or.inl ⟨_, _, _, fun K post q => (by rw [wp_Gr_operator_L2]; exact (pT c0 (q))), fun m9 K post h => (by cases m9 with | zero => exact False.elim h | succ m9 => (rw [wp_Gr_operator_L2] at h; replace h := h.1 c0; exact h))⟩
    · rcases br_el h with ⟨c1, h⟩ | ⟨c1, h⟩
      · exact Or.inl ⟨_, _, _, fun K post q => (by rw [wp_Gr_operator_L2]; exact (pF c0 ((pT c1 (q))))), fun m9 K post h => (by cases m9 with | zero => exact False.elim h | succ m9 => (rw [wp_Gr_operator_L2] at h; replace h := h.2 c0; replace h := h.1 c1; exact h))⟩
      · obtain ⟨s2, h⟩ := h
        rcases br_el h with ⟨c3, h⟩ | ⟨c3, h⟩
        · exact Or.inr (⟨_, _, fun K post q => (by rw [wp_Gr_operator_L2]; exact (pF c0 ((pF c1 (⟨s2, (pT c3 (q))⟩))))), fun m9 K post h => (by cases m9 with | zero => exact False.elim h | succ m9 => (rw [wp_Gr_operator_L2] at h; replace h := h.2 c0; replace h := h.2 c1; replace h := h.2; replace h := h.1 c3; exact h))⟩)
        · rcases ih _ _ _ _ _ h with ⟨w4_0, w4_1, w4_2, qa4, qb4⟩ | ⟨w4_0, w4_1, qa4, qb4⟩
          · exact Or.inl ⟨_, _, _, fun K post q => (by rw [wp_Gr_operator_L2]; exact (pF c0 ((pF c1 (⟨s2, (pF c3 ((qa4 _ _ (q))))⟩))))), fun m9 K post h => (by cases m9 with | zero => exact False.elim h | succ m9 => (rw [wp_Gr_operator_L2] at h; replace h := h.2 c0; replace h := h.2 c1; replace h := h.2; replace h := h.2 c3; replace h := qb4 m9 _ _ h; exact h))⟩
          · exact Or.inr (⟨_, _, fun K post q => (by rw [wp_Gr_operator_L2]; exact (pF c0 ((pF c1 (⟨s2, (pF c3 ((qa4 _ _ (q))))⟩))))), fun m9 K post h => (by cases m9 with | zero => exact False.elim h | succ m9 => (rw [wp_Gr_operator_L2] at h; replace h := h.2 c0; replace h := h.2 c1; replace h := h.2; replace h := h.2 c3; replace h := qb4 m9 _ _ h; exact h))⟩)
set_option maxHeartbeats 2000000 in
theorem dt_Gr_operator {z_this : T_Gr} {z_this_words : T_Wd} {a1 : Int32} {a2 : Int32} {post : Int32 → Unit → Prop} (h : wp_Gr_operator z_this z_this_words a1 a2 post) : (∃ (w0 : Int32) (w1 : Unit), (∀ (post : Int32 → Unit → Prop), post w0 w1 → wp_Gr_operator z_this z_this_words a1 a2 post) ∧ (∀ (post : Int32 → Unit → Prop), wp_Gr_operator z_this z_this_words a1 a2 post → post w0 w1)) := by
  unfold wp_Gr_operator at h
  obtain ⟨k0, h⟩ := h
  rcases dt_Gr_operator_L2 k0 _ _ _ _ _ h with ⟨x1, x2, x3, qa0, qb0⟩ | ⟨w0_0, w0_1, qa0, qb0⟩
  · replace h := qb0 k0 _ _ h
    exact ⟨_, _, fun post q => (by unfold wp_Gr_operator; exact ⟨k0, (qa0 _ _ (q))⟩), fun post h => (by unfold wp_Gr_operator at h; obtain ⟨m0, h⟩ := h; replace h := qb0 m0 _ _ h; exact h)⟩
  · exact ⟨_, _, fun post q => (by unfold wp_Gr_operator; exact ⟨k0, (qa0 _ _ (q))⟩), fun post h => (by unfold wp_Gr_operator at h; obtain ⟨m0, h⟩ := h; replace h := qb0 m0 _ _ h; exact h)⟩
set_option maxHeartbeats 2000000 in
theorem dt_Gr_joined {a0 : Int32} {a1 : Int32} {a2 : Int32} {post : Int32 → Unit → Prop} (h : wp_Gr_joined a0 a1 a2 post) : (∃ (w0 : Int32) (w1 : Unit), (∀ (post : Int32 → Unit → Prop), post w0 w1 → wp_Gr_joined a0 a1 a2 post) ∧ (∀ (post : Int32 → Unit → Prop), wp_Gr_joined a0 a1 a2 post → post w0 w1)) := by
  unfold wp_Gr_joined at h
  rcases br_el h with ⟨c0, h⟩ | ⟨c0, h⟩
  · rcases br_el h with ⟨c1, h⟩ | ⟨c1, h⟩
    · exact ⟨_, _, fun post q => (by unfold wp_Gr_joined; exact (pT c0 ((pT c1 (q))))), fun post h => (by unfold wp_Gr_joined at h; replace h := h.1 c0; replace h := h.1 c1; exact h)⟩
    · rcases br_el h with ⟨c2, h⟩ | ⟨c2, h⟩
      · rcases br_el h with ⟨c3, h⟩ | ⟨c3, h⟩
        · exact ⟨_, _, fun post q => (by unfold wp_Gr_joined; exact (pT c0 ((pF c1 ((pT c2 ((pT c3 (q))))))))), fun post h => (by unfold wp_Gr_joined at h; replace h := h.1 c0; replace h := h.2 c1; replace h := h.1 c2; replace h := h.1 c3; exact h)⟩
        · rcases br_el h with ⟨c4, h⟩ | ⟨c4, h⟩
          · exact ⟨_, _, fun post q => (by unfold wp_Gr_joined; exact (pT c0 ((pF c1 ((pT c2 ((pF c3 ((pT c4 (q))))))))))), fun post h => (by unfold wp_Gr_joined at h; replace h := h.1 c0; replace h := h.2 c1; replace h := h.1 c2; replace h := h.2 c3; replace h := h.1 c4; exact h)⟩
          · rcases br_el h with ⟨c5, h⟩ | ⟨c5, h⟩
            · rcases br_el h with ⟨c6, h⟩ | ⟨c6, h⟩
              · exact ⟨_, _, fun post q => (by unfold wp_Gr_joined; exact (pT c0 ((pF c1 ((pT c2 ((pF c3 ((pF c4 ((pT c5 ((pT c6 (q))))))))))))))), fun post h => (by unfold wp_Gr_joined at h; replace h := h.1 c0; replace h := h.2 c1; replace h := h.1 c2; replace h := h.2 c3; replace h := h.2 c4; replace h := h.1 c5; replace h := h.1 c6; exact h)⟩
              · exact ⟨_, _, fun post q => (by unfold wp_Gr_joined; exact (pT c0 ((pF c1 ((pT c2 ((pF c3 ((pF c4 ((pT c5 ((pF c6 (q))))))))))))))), fun post h => (by unfold wp_Gr_joined at h; replace h := h.1 c0; replace h := h.2 c1; replace h := h.1 c2; replace h := h.2 c3; replace h := h.2 c4; replace h := h.1 c5; replace h := h.2 c6; exact h)⟩
            · exact ⟨_, _, fun post q => (by unfold wp_Gr_joined; exact (pT c0 ((pF c1 ((pT c2 ((pF c3 ((pF c4 ((pF c5 (q))))))))))))), fun post h => (by unfold wp_Gr_joined at h; replace h := h.1 c0; replace h := h.2 c1; replace h := h.1 c2; replace h := h.2 c3; replace h := h.2 c4; replace h := h.2 c5; exact h)⟩
      · rcases br_el h with ⟨c3, h⟩ | ⟨c3, h⟩
        · rcases br_el h with ⟨c4, h⟩ | ⟨c4, h⟩
          · exact ⟨_, _, fun post q => (by unfold wp_Gr_joined; exact (pT c0 ((pF c1 ((pF c2 ((pT c3 ((pT c4 (q))))))))))), fun post h => (by unfold wp_Gr_joined at h; replace h := h.1 c0; replace h := h.2 c1; replace h := h.2 c2; replace h := h.1 c3; replace h := h.1 c4; exact h)⟩
          · rcases br_el h with ⟨c5, h⟩ | ⟨c5, h⟩
            · exact ⟨_, _, fun post q => (by unfold wp_Gr_joined; exact (pT c0 ((pF c1 ((pF c2 ((pT c3 ((pF c4 ((pT c5 (q))))))))))))), fun post h => (by unfold wp_Gr_joined at h; replace h := h.1 c0; replace h := h.2 c1; replace h := h.2 c2; replace h := h.1 c3; replace h := h.2 c4; replace h := h.1 c5; exact h)⟩
            · rcases br_el h with ⟨c6, h⟩ | ⟨c6, h⟩
              · rcases br_el h with ⟨c7, h⟩ | ⟨c7, h⟩
                · exact ⟨_, _, fun post q => (by unfold wp_Gr_joined; exact (pT c0 ((pF c1 ((pF c2 ((pT c3 ((pF c4 ((pF c5 ((pT c6 ((pT c7 (q))))))))))))))))), fun post h => (by unfold wp_Gr_joined at h; replace h := h.1 c0; replace h := h.2 c1; replace h := h.2 c2; replace h := h.1 c3; replace h := h.2 c4; replace h := h.2 c5; replace h := h.1 c6; replace h := h.1 c7; exact h)⟩
                · exact ⟨_, _, fun post q => (by unfold wp_Gr_joined; exact (pT c0 ((pF c1 ((pF c2 ((pT c3 ((pF c4 ((pF c5 ((pT c6 ((pF c7 (q))))))))))))))))), fun post h => (by unfold wp_Gr_joined at h; replace h := h.1 c0; replace h := h.2 c1; replace h := h.2 c2; replace h := h.1 c3; replace h := h.2 c4; replace h := h.2 c5; replace h := h.1 c6; replace h := h.2 c7; exact h)⟩
              · exact ⟨_, _, fun post q => (by unfold wp_Gr_joined; exact (pT c0 ((pF c1 ((pF c2 ((pT c3 ((pF c4 ((pF c5 ((pF c6 (q))))))))))))))), fun post h => (by unfold wp_Gr_joined at h; replace h := h.1 c0; replace h := h.2 c1; replace h := h.2 c2; replace h := h.1 c3; replace h := h.2 c4; replace h := h.2 c5; replace h := h.2 c6; exact h)⟩
        · rcases br_el h with ⟨c4, h⟩ | ⟨c4, h⟩
          · exact ⟨_, _, fun post q => (by unfold wp_Gr_joined; exact (pT c0 ((pF c1 ((pF c2 ((pF c3 ((pT c4 (q))))))))))), fun post h => (by unfold wp_Gr_joined at h; replace h := h.1 c0; replace h := h.2 c1; replace h := h.2 c2; replace h := h.2 c3; replace h := h.1 c4; exact h)⟩
          · rcases br_el h with ⟨c5, h⟩ | ⟨c5, h⟩
            · rcases br_el h with ⟨c6, h⟩ | ⟨c6, h⟩
              · exact ⟨_, _, fun post q => (by unfold wp_Gr_joined; exact (pT c0 ((pF c1 ((pF c2 ((pF c3 ((pF c4 ((pT c5 ((pT c6 (q))))))))))))))), fun post h => (by unfold wp_Gr_joined at h; replace h := h.1 c0; replace h := h.2 c1; replace h := h.2 c2; replace h := h.2 c3; replace h := h.2 c4; replace h := h.1 c5; replace h := h.1 c6; exact h)⟩
              · exact ⟨_, _, fun post q => (by unfold wp_Gr_joined; exact (pT c0 ((pF c1 ((pF c2 ((pF c3 ((pF c4 ((pT c5 ((pF c6 (q))))))))))))))), fun post h => (by unfold wp_Gr_joined at h; replace h := h.1 c0; replace h := h.2 c1; replace h := h.2 c2; replace h := h.2 c3; replace h := h.2 c4; replace h := h.1 c5; replace h := h.2 c6; exact h)⟩
            · exact ⟨_, _, fun post q => (by unfold wp_Gr_joined; exact (pT c0 ((pF c1 ((pF c2 ((pF c3 ((pF c4 ((pF c5 (q))))))))))))), fun post h => (by unfold wp_Gr_joined at h; replace h := h.1 c0; replace h := h.2 c1; replace h := h.2 c2; replace h := h.2 c3; replace h := h.2 c4; replace h := h.2 c5; exact h)⟩
  · rcases br_el h with ⟨c1, h⟩ | ⟨c1, h⟩
    · rcases br_el h with ⟨c2, h⟩ | ⟨c2, h⟩
      · exact ⟨_, _, fun post q => (by unfold wp_Gr_joined; exact (pF c0 ((pT c1 ((pT c2 (q))))))), fun post h => (by unfold wp_Gr_joined at h; replace h := h.2 c0; replace h := h.1 c1; replace h := h.1 c2; exact h)⟩
      · rcases br_el h with ⟨c3, h⟩ | ⟨c3, h⟩
        · exact ⟨_, _, fun post q => (by unfold wp_Gr_joined; exact (pF c0 ((pT c1 ((pF c2 ((pT c3 (q))))))))), fun post h => (by unfold wp_Gr_joined at h; replace h := h.2 c0; replace h := h.1 c1; replace h := h.2 c2; replace h := h.1 c3; exact h)⟩
        · rcases br_el h with ⟨c4, h⟩ | ⟨c4, h⟩
          · rcases br_el h with ⟨c5, h⟩ | ⟨c5, h⟩
            · exact ⟨_, _, fun post q => (by unfold wp_Gr_joined; exact (pF c0 ((pT c1 ((pF c2 ((pF c3 ((pT c4 ((pT c5 (q))))))))))))), fun post h => (by unfold wp_Gr_joined at h; replace h := h.2 c0; replace h := h.1 c1; replace h := h.2 c2; replace h := h.2 c3; replace h := h.1 c4; replace h := h.1 c5; exact h)⟩
            · exact ⟨_, _, fun post q => (by unfold wp_Gr_joined; exact (pF c0 ((pT c1 ((pF c2 ((pF c3 ((pT c4 ((pF c5 (q))))))))))))), fun post h => (by unfold wp_Gr_joined at h; replace h := h.2 c0; replace h := h.1 c1; replace h := h.2 c2; replace h := h.2 c3; replace h := h.1 c4; replace h := h.2 c5; exact h)⟩
          · exact ⟨_, _, fun post q => (by unfold wp_Gr_joined; exact (pF c0 ((pT c1 ((pF c2 ((pF c3 ((pF c4 (q))))))))))), fun post h => (by unfold wp_Gr_joined at h; replace h := h.2 c0; replace h := h.1 c1; replace h := h.2 c2; replace h := h.2 c3; replace h := h.2 c4; exact h)⟩
    · rcases br_el h with ⟨c2, h⟩ | ⟨c2, h⟩
      · rcases br_el h with ⟨c3, h⟩ | ⟨c3, h⟩
        · exact ⟨_, _, fun post q => (by unfold wp_Gr_joined; exact (pF c0 ((pF c1 ((pT c2 ((pT c3 (q))))))))), fun post h => (by unfold wp_Gr_joined at h; replace h := h.2 c0; replace h := h.2 c1; replace h := h.1 c2; replace h := h.1 c3; exact h)⟩
        · rcases br_el h with ⟨c4, h⟩ | ⟨c4, h⟩
          · exact ⟨_, _, fun post q => (by unfold wp_Gr_joined; exact (pF c0 ((pF c1 ((pT c2 ((pF c3 ((pT c4 (q))))))))))), fun post h => (by unfold wp_Gr_joined at h; replace h := h.2 c0; replace h := h.2 c1; replace h := h.1 c2; replace h := h.2 c3; replace h := h.1 c4; exact h)⟩
          · rcases br_el h with ⟨c5, h⟩ | ⟨c5, h⟩
            · rcases br_el h with ⟨c6, h⟩ | ⟨c6, h⟩
              · exact ⟨_, _, fun post q => (by unfold wp_Gr_joined; exact (pF c0 ((pF c1 ((pT c2 ((pF c3 ((pF c4 ((pT c5 ((pT c6 (q))))))))))))))), fun post h => (by unfold wp_Gr_joined at h; replace h := h.2 c0; replace h := h.2 c1; replace h := h.1 c2; replace h := h.2 c3; replace h := h.2 c4; replace h := h.1 c5; replace h := h.1 c6; exact h)⟩
              · exact ⟨_, _, fun post q => (by unfold wp_Gr_joined; exact (pF c0 ((pF c1 ((pT c2 ((pF c3 ((pF c4 ((pT c5 ((pF c6 (q))))))))))))))), fun post h => (by unfold wp_Gr_joined at h; replace h := h.2 c0; replace h := h.2 c1; replace h := h.1 c2; replace h := h.2 c3; replace h := h.2 c4; replace h := h.1 c5; replace h := h.2 c6; exact h)⟩
            · exact ⟨_, _, fun post q => (by unfold wp_Gr_joined; exact (pF c0 ((pF c1 ((pT c2 ((pF c3 ((pF c4 ((pF c5 (q))))))))))))), fun post h => (by unfold wp_Gr_joined at h; replace h := h.2 c0; replace h := h.2 c1; replace h := h.1 c2; replace h := h.2 c3; replace h := h.2 c4; replace h := h.2 c5; exact h)⟩
      · rcases br_el h with ⟨c3, h⟩ | ⟨c3, h⟩
        · exact ⟨_, _, fun post q => (by unfold wp_Gr_joined; exact (pF c0 ((pF c1 ((pF c2 ((pT c3 (q))))))))), fun post h => (by unfold wp_Gr_joined at h; replace h := h.2 c0; replace h := h.2 c1; replace h := h.2 c2; replace h := h.1 c3; exact h)⟩
        · rcases br_el h with ⟨c4, h⟩ | ⟨c4, h⟩
          · rcases br_el h with ⟨c5, h⟩ | ⟨c5, h⟩
            · exact ⟨_, _, fun post q => (by unfold wp_Gr_joined; exact (pF c0 ((pF c1 ((pF c2 ((pF c3 ((pT c4 ((pT c5 (q))))))))))))), fun post h => (by unfold wp_Gr_joined at h; replace h := h.2 c0; replace h := h.2 c1; replace h := h.2 c2; replace h := h.2 c3; replace h := h.1 c4; replace h := h.1 c5; exact h)⟩
            · exact ⟨_, _, fun post q => (by unfold wp_Gr_joined; exact (pF c0 ((pF c1 ((pF c2 ((pF c3 ((pT c4 ((pF c5 (q))))))))))))), fun post h => (by unfold wp_Gr_joined at h; replace h := h.2 c0; replace h := h.2 c1; replace h := h.2 c2; replace h := h.2 c3; replace h := h.1 c4; replace h := h.2 c5; exact h)⟩
          · exact ⟨_, _, fun post q => (by unfold wp_Gr_joined; exact (pF c0 ((pF c1 ((pF c2 ((pF c3 ((pF c4 (q))))))))))), fun post h => (by unfold wp_Gr_joined at h; replace h := h.2 c0; replace h := h.2 c1; replace h := h.2 c2; replace h := h.2 c3; replace h := h.2 c4; exact h)⟩
set_option maxHeartbeats 2000000 in
theorem dt_Gr_join {z_this : T_Gr} {z_this_nodes : T_Nd} {a1 : Int32} {a2 : Int32} {a3 : Int32} {a4 : Int32} {post : Int32 → T_Gr × T_Nd → Prop} {postT : T_Gr × T_Nd → Prop} (h : wp_Gr_join z_this z_this_nodes a1 a2 a3 a4 post postT) : (∃ (w0 : Int32) (w1 : T_Gr × T_Nd), (∀ (post : Int32 → T_Gr × T_Nd → Prop) (postT : T_Gr × T_Nd → Prop), post w0 w1 → wp_Gr_join z_this z_this_nodes a1 a2 a3 a4 post postT) ∧ (∀ (post : Int32 → T_Gr × T_Nd → Prop) (postT : T_Gr × T_Nd → Prop), wp_Gr_join z_this z_this_nodes a1 a2 a3 a4 post postT → post w0 w1)) ∨ (∃ (w0 : T_Gr × T_Nd), (∀ (post : Int32 → T_Gr × T_Nd → Prop) (postT : T_Gr × T_Nd → Prop), postT w0 → wp_Gr_join z_this z_this_nodes a1 a2 a3 a4 post postT) ∧ (∀ (post : Int32 → T_Gr × T_Nd → Prop) (postT : T_Gr × T_Nd → Prop), wp_Gr_join z_this z_this_nodes a1 a2 a3 a4 post postT → postT w0)) := by
  unfold wp_Gr_join at h
  obtain ⟨r1, u1, qa0, qb0⟩ := dt_Nd_measureOf h
  replace h := qb0 _ h
  obtain ⟨r2, u2, qa1, qb1⟩ := dt_Nd_measureOf h
  replace h := qb1 _ h
  obtain ⟨r3, u3, qa2, qb2⟩ := dt_Gr_joined h
  replace h := qb2 _ h
  rcases br_el h with ⟨c3, h⟩ | ⟨c3, h⟩
  · obtain ⟨u, qa4, qb4⟩ := dt_Gr_refuse h
    replace h := qb4 _ h
    exact Or.inr (⟨_, fun post postT q => (by unfold wp_Gr_join; exact (qa0 _ ((qa1 _ ((qa2 _ ((pT c3 ((qa4 _ (q))))))))))), fun post postT h => (by unfold wp_Gr_join at h; replace h := qb0 _ h; replace h := qb1 _ h; replace h := qb2 _ h; replace h := h.1 c3; replace h := qb4 _ h; exact h)⟩)
  · obtain ⟨r4, u4, qa4, qb4⟩ := dt_Nd_lowOf h
    replace h := qb4 _ h
    obtain ⟨r5, u5, qa5, qb5⟩ := dt_Nd_rowOf h
    replace h := qb5 _ h
    obtain ⟨r6, u6, qa6, qb6⟩ := dt_Nd_add h
    replace h := qb6 _ h
    exact Or.inl ⟨_, _, fun post postT q => (by unfold wp_Gr_join; exact (qa0 _ ((qa1 _ ((qa2 _ ((pF c3 ((qa4 _ ((qa5 _ ((qa6 _ (q))))))))))))))), fun post postT h => (by unfold wp_Gr_join at h; replace h := qb0 _ h; replace h := qb1 _ h; replace h := qb2 _ h; replace h := h.2 c3; replace h := qb4 _ h; replace h := qb5 _ h; replace h := qb6 _ h; exact h)⟩
set_option maxHeartbeats 2000000 in
theorem dt_Gr_readAct {z_this : T_Gr} {z_this_nodes : T_Nd} {z_this_words : T_Wd} {post : Int32 → T_Gr × T_Wd → Prop} {postT : T_Gr × T_Wd → Prop} (h : wp_Gr_readAct z_this z_this_nodes z_this_words post postT) : (∃ (w0 : Int32) (w1 : T_Gr × T_Wd), (∀ (post : Int32 → T_Gr × T_Wd → Prop) (postT : T_Gr × T_Wd → Prop), post w0 w1 → wp_Gr_readAct z_this z_this_nodes z_this_words post postT) ∧ (∀ (post : Int32 → T_Gr × T_Wd → Prop) (postT : T_Gr × T_Wd → Prop), wp_Gr_readAct z_this z_this_nodes z_this_words post postT → post w0 w1)) ∨ (∃ (w0 : T_Gr × T_Wd), (∀ (post : Int32 → T_Gr × T_Wd → Prop) (postT : T_Gr × T_Wd → Prop), postT w0 → wp_Gr_readAct z_this z_this_nodes z_this_words post postT) ∧ (∀ (post : Int32 → T_Gr × T_Wd → Prop) (postT : T_Gr × T_Wd → Prop), wp_Gr_readAct z_this z_this_nodes z_this_words post postT → postT w0)) := by
  unfold wp_Gr_readAct at h
  rcases br_el h with ⟨c0, h⟩ | ⟨c0, h⟩
  · rcases br_el h with ⟨c1, h⟩ | ⟨c1, h⟩
    · rcases dt_Gr_pass h with ⟨r2, u2, qa2, qb2⟩ | ⟨u, qa2, qb2⟩
      · replace h := qb2 _ _ h
        exact Or.inl ⟨_, _, fun post postT q => (by unfold wp_Gr_readAct; exact (pT c0 ((pT c1 ((qa2 _ _ (q))))))), fun post postT h => (by unfold wp_Gr_readAct at h; replace h := h.1 c0; replace h := h.1 c1; replace h := qb2 _ _ h; exact h)⟩
      · replace h := qb2 _ _ h
        exact Or.inr (⟨_, fun post postT q => (by unfold wp_Gr_readAct; exact (pT c0 ((pT c1 ((qa2 _ _ (q))))))), fun post postT h => (by unfold wp_Gr_readAct at h; replace h := h.1 c0; replace h := h.1 c1; replace h := qb2 _ _ h; exact h)⟩)
    · obtain ⟨u, qa2, qb2⟩ := dt_Gr_refuse h
      replace h := qb2 _ h
      exact Or.inr (⟨_, fun post postT q => (by unfold wp_Gr_readAct; exact (pT c0 ((pF c1 ((qa2 _ (q))))))), fun post postT h => (by unfold wp_Gr_readAct at h; replace h := h.1 c0; replace h := h.2 c1; replace h := qb2 _ h; exact h)⟩)
  · obtain ⟨u, qa1, qb1⟩ := dt_Gr_refuse h
    replace h := qb1 _ h
    exact Or.inr (⟨_, fun post postT q => (by unfold wp_Gr_readAct; exact (pF c0 ((qa1 _ (q))))), fun post postT h => (by unfold wp_Gr_readAct at h; replace h := h.2 c0; replace h := qb1 _ h; exact h)⟩)
set_option maxHeartbeats 2000000 in
theorem dt_Gr_readUnit {z_this : T_Gr} {z_this_nodes : T_Nd} {z_this_words : T_Wd} {post : Int32 → T_Gr × T_Wd → Prop} {postT : T_Gr × T_Wd → Prop} (h : wp_Gr_readUnit z_this z_this_nodes z_this_words post postT) : (∃ (w0 : Int32) (w1 : T_Gr × T_Wd), (∀ (post : Int32 → T_Gr × T_Wd → Prop) (postT : T_Gr × T_Wd → Prop), post w0 w1 → wp_Gr_readUnit z_this z_this_nodes z_this_words post postT) ∧ (∀ (post : Int32 → T_Gr × T_Wd → Prop) (postT : T_Gr × T_Wd → Prop), wp_Gr_readUnit z_this z_this_nodes z_this_words post postT → post w0 w1)) ∨ (∃ (w0 : T_Gr × T_Wd), (∀ (post : Int32 → T_Gr × T_Wd → Prop) (postT : T_Gr × T_Wd → Prop), postT w0 → wp_Gr_readUnit z_this z_this_nodes z_this_words post postT) ∧ (∀ (post : Int32 → T_Gr × T_Wd → Prop) (postT : T_Gr × T_Wd → Prop), wp_Gr_readUnit z_this z_this_nodes z_this_words post postT → postT w0)) := by
  unfold wp_Gr_readUnit at h
  obtain ⟨r1, u1, qa0, qb0⟩ := dt_Gr_measureHere h
  replace h := qb0 _ h
  rcases br_el h with ⟨c1, h⟩ | ⟨c1, h⟩
  · exact Or.inl ⟨_, _, fun post postT q => (by unfold wp_Gr_readUnit; exact (qa0 _ ((pT c1 (q))))), fun post postT h => (by unfold wp_Gr_readUnit at h; replace h := qb0 _ h; replace h := h.1 c1; exact h)⟩
  · rcases dt_Gr_pass h with ⟨r2, u2, qa2, qb2⟩ | ⟨u, qa2, qb2⟩
    · replace h := qb2 _ _ h
      exact Or.inl ⟨_, _, fun post postT q => (by unfold wp_Gr_readUnit; exact (qa0 _ ((pF c1 ((qa2 _ _ (q))))))), fun post postT h => (by unfold wp_Gr_readUnit at h; replace h := qb0 _ h; replace h := h.2 c1; replace h := qb2 _ _ h; exact h)⟩
    · replace h := qb2 _ _ h
      exact Or.inr (⟨_, fun post postT q => (by unfold wp_Gr_readUnit; exact (qa0 _ ((pF c1 ((qa2 _ _ (q))))))), fun post postT h => (by unfold wp_Gr_readUnit at h; replace h := qb0 _ h; replace h := h.2 c1; replace h := qb2 _ _ h; exact h)⟩)
set_option maxHeartbeats 2000000 in
theorem dt_Gr_readProduct_L16 {rf : T_Gr → T_Nm → T_Nd → T_Wd → Int32 → (Int32 → T_Gr × T_Nm × T_Nd × T_Wd → Prop) → (T_Gr × T_Nm × T_Nd × T_Wd → Prop) → Prop} (hrf : ∀ (v0 : T_Gr) (v1 : T_Nm) (v2 : T_Nd) (v3 : T_Wd) (v4 : Int32) (post : (Int32 → T_Gr × T_Nm × T_Nd × T_Wd → Prop)) (postT : (T_Gr × T_Nm × T_Nd × T_Wd → Prop)), rf v0 v1 v2 v3 v4 post postT → (∃ (w0 : Int32) (w1 : T_Gr × T_Nm × T_Nd × T_Wd), (∀ (post : (Int32 → T_Gr × T_Nm × T_Nd × T_Wd → Prop)) (postT : (T_Gr × T_Nm × T_Nd × T_Wd → Prop)), post w0 w1 → rf v0 v1 v2 v3 v4 post postT) ∧ (∀ (post : (Int32 → T_Gr × T_Nm × T_Nd × T_Wd → Prop)) (postT : (T_Gr × T_Nm × T_Nd × T_Wd → Prop)), rf v0 v1 v2 v3 v4 post postT → post w0 w1)) ∨ (∃ (w0 : T_Gr × T_Nm × T_Nd × T_Wd), (∀ (post : (Int32 → T_Gr × T_Nm × T_Nd × T_Wd → Prop)) (postT : (T_Gr × T_Nm × T_Nd × T_Wd → Prop)), postT w0 → rf v0 v1 v2 v3 v4 post postT) ∧ (∀ (post : (Int32 → T_Gr × T_Nm × T_Nd × T_Wd → Prop)) (postT : (T_Gr × T_Nm × T_Nd × T_Wd → Prop)), rf v0 v1 v2 v3 v4 post postT → postT w0))) : ∀ (n9 : Nat) (z_this : T_Gr) (z_this_names : T_Nm) (z_this_nodes : T_Nd) (z_this_words : T_Wd) (x1 : Int32) (x2 : Int32) (x3 : Int32) (x4 : Int32) (K : T_Gr → T_Nm → T_Nd → T_Wd → Int32 → Int32 → Int32 → Int32 → Prop) (post : Int32 → T_Gr × T_Nm × T_Nd × T_Wd → Prop) (postT : T_Gr × T_Nm × T_Nd × T_Wd → Prop), wp_Gr_readProduct_L16 rf K post postT n9 z_this z_this_names z_this_nodes z_this_words x1 x2 x3 x4 → (∃ (w0 : T_Gr) (w1 : T_Nm) (w2 : T_Nd) (w3 : T_Wd) (w4 : Int32) (w5 : Int32) (w6 : Int32) (w7 : Int32), (∀ (K : T_Gr → T_Nm → T_Nd → T_Wd → Int32 → Int32 → Int32 → Int32 → Prop) (post : Int32 → T_Gr × T_Nm × T_Nd × T_Wd → Prop) (postT : T_Gr × T_Nm × T_Nd × T_Wd → Prop), K w0 w1 w2 w3 w4 w5 w6 w7 → wp_Gr_readProduct_L16 rf K post postT n9 z_this z_this_names z_this_nodes z_this_words x1 x2 x3 x4) ∧ (∀ (m9 : Nat) (K : T_Gr → T_Nm → T_Nd → T_Wd → Int32 → Int32 → Int32 → Int32 → Prop) (post : Int32 → T_Gr × T_Nm × T_Nd × T_Wd → Prop) (postT : T_Gr × T_Nm × T_Nd × T_Wd → Prop), wp_Gr_readProduct_L16 rf K post postT m9 z_this z_this_names z_this_nodes z_this_words x1 x2 x3 x4 → K w0 w1 w2 w3 w4 w5 w6 w7)) ∨ (∃ (w0 : Int32) (w1 : T_Gr × T_Nm × T_Nd × T_Wd), (∀ (K : T_Gr → T_Nm → T_Nd → T_Wd → Int32 → Int32 → Int32 → Int32 → Prop) (post : Int32 → T_Gr × T_Nm × T_Nd × T_Wd → Prop) (postT : T_Gr × T_Nm × T_Nd × T_Wd → Prop), post w0 w1 → wp_Gr_readProduct_L16 rf K post postT n9 z_this z_this_names z_this_nodes z_this_words x1 x2 x3 x4) ∧ (∀ (m9 : Nat) (K : T_Gr → T_Nm → T_Nd → T_Wd → Int32 → Int32 → Int32 → Int32 → Prop) (post : Int32 → T_Gr × T_Nm × T_Nd × T_Wd → Prop) (postT : T_Gr × T_Nm × T_Nd × T_Wd → Prop), wp_Gr_readProduct_L16 rf K post postT m9 z_this z_this_names z_this_nodes z_this_words x1 x2 x3 x4 → post w0 w1)) ∨ (∃ (w0 : T_Gr × T_Nm × T_Nd × T_Wd), (∀ (K : T_Gr → T_Nm → T_Nd → T_Wd → Int32 → Int32 → Int32 → Int32 → Prop) (post : Int32 → T_Gr × T_Nm × T_Nd × T_Wd → Prop) (postT : T_Gr × T_Nm × T_Nd × T_Wd → Prop), postT w0 → wp_Gr_readProduct_L16 rf K post postT n9 z_this z_this_names z_this_nodes z_this_words x1 x2 x3 x4) ∧ (∀ (m9 : Nat) (K : T_Gr → T_Nm → T_Nd → T_Wd → Int32 → Int32 → Int32 → Int32 → Prop) (post : Int32 → T_Gr × T_Nm × T_Nd × T_Wd → Prop) (postT : T_Gr × T_Nm × T_Nd × T_Wd → Prop), wp_Gr_readProduct_L16 rf K post postT m9 z_this z_this_names z_this_nodes z_this_words x1 x2 x3 x4 → postT w0)) := by
  intro n9
  induction n9 with
  | zero => intro z_this z_this_names z_this_nodes z_this_words x1 x2 x3 x4 K post postT h; exact False.elim h
  | succ n9 ih =>
    intro z_this z_this_names z_this_nodes z_this_words x1 x2 x3 x4 K post postT h
    rw [wp_Gr_readProduct_L16] at h
    rcases br_el h with ⟨c0, h⟩ | ⟨c0, h⟩
    · exact Or.inl ⟨_, _, _, _, _, _, _, _, fun K post postT q => (by rw [wp_Gr_readProduct_L16]; exact (pT c0 (q))), fun m9 K post postT h => (by cases m9 with | zero => exact False.elim h | succ m9 => (rw [wp_Gr_readProduct_L16] at h; replace h := h.1 c0; exact h))⟩
    · rcases br_el h with ⟨c1, h⟩ | ⟨c1, h⟩
      · exact Or.inl ⟨_, _, _, _, _, _, _, _, fun K post postT q => (by rw [wp_Gr_readProduct_L16]; exact (pF c0 ((pT c1 (q))))), fun m9 K post postT h => (by cases m9 with | zero => exact False.elim h | succ m9 => (rw [wp_Gr_readProduct_L16] at h; replace h := h.2 c0; replace h := h.1 c1; exact h))⟩
      · rcases dt_Gr_pass h with ⟨r3, u3, qa2, qb2⟩ | ⟨u, qa2, qb2⟩
        · replace h := qb2 _ _ h
          rcases hrf _ _ _ _ _ _ _ h with ⟨r4, u4, qa3, qb3⟩ | ⟨u, qa3, qb3⟩
          · replace h := qb3 _ _ h
            rcases dt_Gr_join h with ⟨r5, u5, qa4, qb4⟩ | ⟨u, qa4, qb4⟩
            · replace h := qb4 _ _ h
              obtain ⟨r6, u6, qa5, qb5⟩ := dt_Gr_operator h
              replace h := qb5 _ h
              rcases ih _ _ _ _ _ _ _ _ _ _ _ h with ⟨w6_0, w6_1, w6_2, w6_3, w6_4, w6_5, w6_6, w6_7, qa6, qb6⟩ | ⟨w6_0, w6_1, qa6, qb6⟩ | ⟨w6_0, qa6, qb6⟩
              · exact Or.inl ⟨_, _, _, _, _, _, _, _, fun K post postT q => (by rw [wp_Gr_readProduct_L16]; exact (pF c0 ((pF c1 ((qa2 _ _ ((qa3 _ _ ((qa4 _ _ ((qa5 _ ((qa6 _ _ _ (q))))))))))))))), fun m9 K post postT h => (by cases m9 with | zero => exact False.elim h | succ m9 => (rw [wp_Gr_readProduct_L16] at h; replace h := h.2 c0; replace h := h.2 c1; replace h := qb2 _ _ h; replace h := qb3 _ _ h; replace h := qb4 _ _ h; replace h := qb5 _ h; replace h := qb6 m9 _ _ _ h; exact h))⟩
              · exact Or.inr (Or.inl ⟨_, _, fun K post postT q => (by rw [wp_Gr_readProduct_L16]; exact (pF c0 ((pF c1 ((qa2 _ _ ((qa3 _ _ ((qa4 _ _ ((qa5 _ ((qa6 _ _ _ (q))))))))))))))), fun m9 K post postT h => (by cases m9 with | zero => exact False.elim h | succ m9 => (rw [wp_Gr_readProduct_L16] at h; replace h := h.2 c0; replace h := h.2 c1; replace h := qb2 _ _ h; replace h := qb3 _ _ h; replace h := qb4 _ _ h; replace h := qb5 _ h; replace h := qb6 m9 _ _ _ h; exact h))⟩)
              · exact Or.inr (Or.inr (⟨_, fun K post postT q => (by rw [wp_Gr_readProduct_L16]; exact (pF c0 ((pF c1 ((qa2 _ _ ((qa3 _ _ ((qa4 _ _ ((qa5 _ ((qa6 _ _ _ (q))))))))))))))), fun m9 K post postT h => (by cases m9 with | zero => exact False.elim h | succ m9 => (rw [wp_Gr_readProduct_L16] at h; replace h := h.2 c0; replace h := h.2 c1; replace h := qb2 _ _ h; replace h := qb3 _ _ h; replace h := qb4 _ _ h; replace h := qb5 _ h; replace h := qb6 m9 _ _ _ h; exact h))⟩))
            · replace h := qb4 _ _ h
              exact Or.inr (Or.inr (⟨_, fun K post postT q => (by rw [wp_Gr_readProduct_L16]; exact (pF c0 ((pF c1 ((qa2 _ _ ((qa3 _ _ ((qa4 _ _ (q))))))))))), fun m9 K post postT h => (by cases m9 with | zero => exact False.elim h | succ m9 => (rw [wp_Gr_readProduct_L16] at h; replace h := h.2 c0; replace h := h.2 c1; replace h := qb2 _ _ h; replace h := qb3 _ _ h; replace h := qb4 _ _ h; exact h))⟩))
          · replace h := qb3 _ _ h
            exact Or.inr (Or.inr (⟨_, fun K post postT q => (by rw [wp_Gr_readProduct_L16]; exact (pF c0 ((pF c1 ((qa2 _ _ ((qa3 _ _ (q))))))))), fun m9 K post postT h => (by cases m9 with | zero => exact False.elim h | succ m9 => (rw [wp_Gr_readProduct_L16] at h; replace h := h.2 c0; replace h := h.2 c1; replace h := qb2 _ _ h; replace h := qb3 _ _ h; exact h))⟩))
        · replace h := qb2 _ _ h
          exact Or.inr (Or.inr (⟨_, fun K post postT q => (by rw [wp_Gr_readProduct_L16]; exact (pF c0 ((pF c1 ((qa2 _ _ (q))))))), fun m9 K post postT h => (by cases m9 with | zero => exact False.elim h | succ m9 => (rw [wp_Gr_readProduct_L16] at h; replace h := h.2 c0; replace h := h.2 c1; replace h := qb2 _ _ h; exact h))⟩))
set_option maxHeartbeats 2000000 in
theorem dt_Gr_readProduct {rf : T_Gr → T_Nm → T_Nd → T_Wd → Int32 → (Int32 → T_Gr × T_Nm × T_Nd × T_Wd → Prop) → (T_Gr × T_Nm × T_Nd × T_Wd → Prop) → Prop} {z_this : T_Gr} {z_this_names : T_Nm} {z_this_nodes : T_Nd} {z_this_words : T_Wd} {a1 : Int32} (hrf : ∀ (v0 : T_Gr) (v1 : T_Nm) (v2 : T_Nd) (v3 : T_Wd) (v4 : Int32) (post : (Int32 → T_Gr × T_Nm × T_Nd × T_Wd → Prop)) (postT : (T_Gr × T_Nm × T_Nd × T_Wd → Prop)), rf v0 v1 v2 v3 v4 post postT → (∃ (w0 : Int32) (w1 : T_Gr × T_Nm × T_Nd × T_Wd), (∀ (post : (Int32 → T_Gr × T_Nm × T_Nd × T_Wd → Prop)) (postT : (T_Gr × T_Nm × T_Nd × T_Wd → Prop)), post w0 w1 → rf v0 v1 v2 v3 v4 post postT) ∧ (∀ (post : (Int32 → T_Gr × T_Nm × T_Nd × T_Wd → Prop)) (postT : (T_Gr × T_Nm × T_Nd × T_Wd → Prop)), rf v0 v1 v2 v3 v4 post postT → post w0 w1)) ∨ (∃ (w0 : T_Gr × T_Nm × T_Nd × T_Wd), (∀ (post : (Int32 → T_Gr × T_Nm × T_Nd × T_Wd → Prop)) (postT : (T_Gr × T_Nm × T_Nd × T_Wd → Prop)), postT w0 → rf v0 v1 v2 v3 v4 post postT) ∧ (∀ (post : (Int32 → T_Gr × T_Nm × T_Nd × T_Wd → Prop)) (postT : (T_Gr × T_Nm × T_Nd × T_Wd → Prop)), rf v0 v1 v2 v3 v4 post postT → postT w0))) {post : Int32 → T_Gr × T_Nm × T_Nd × T_Wd → Prop} {postT : T_Gr × T_Nm × T_Nd × T_Wd → Prop} (h : wp_Gr_readProduct rf z_this z_this_names z_this_nodes z_this_words a1 post postT) : (∃ (w0 : Int32) (w1 : T_Gr × T_Nm × T_Nd × T_Wd), (∀ (post : Int32 → T_Gr × T_Nm × T_Nd × T_Wd → Prop) (postT : T_Gr × T_Nm × T_Nd × T_Wd → Prop), post w0 w1 → wp_Gr_readProduct rf z_this z_this_names z_this_nodes z_this_words a1 post postT) ∧ (∀ (post : Int32 → T_Gr × T_Nm × T_Nd × T_Wd → Prop) (postT : T_Gr × T_Nm × T_Nd × T_Wd → Prop), wp_Gr_readProduct rf z_this z_this_names z_this_nodes z_this_words a1 post postT → post w0 w1)) ∨ (∃ (w0 : T_Gr × T_Nm × T_Nd × T_Wd), (∀ (post : Int32 → T_Gr × T_Nm × T_Nd × T_Wd → Prop) (postT : T_Gr × T_Nm × T_Nd × T_Wd → Prop), postT w0 → wp_Gr_readProduct rf z_this z_this_names z_this_nodes z_this_words a1 post postT) ∧ (∀ (post : Int32 → T_Gr × T_Nm × T_Nd × T_Wd → Prop) (postT : T_Gr × T_Nm × T_Nd × T_Wd → Prop), wp_Gr_readProduct rf z_this z_this_names z_this_nodes z_this_words a1 post postT → postT w0)) := by
  unfold wp_Gr_readProduct at h
  rcases hrf _ _ _ _ _ _ _ h with ⟨r1, u1, qa0, qb0⟩ | ⟨u, qa0, qb0⟩
  · replace h := qb0 _ _ h
    obtain ⟨r2, u2, qa1, qb1⟩ := dt_Gr_operator h
    replace h := qb1 _ h
    obtain ⟨k2, h⟩ := h
    rcases dt_Gr_readProduct_L16 hrf k2 _ _ _ _ _ _ _ _ _ _ _ h with ⟨z_this, z_this_names, z_this_nodes, z_this_words, x1, x2, x3, x4, qa2, qb2⟩ | ⟨w2_0, w2_1, qa2, qb2⟩ | ⟨w2_0, qa2, qb2⟩
    · replace h := qb2 k2 _ _ _ h
      exact Or.inl ⟨_, _, fun post postT q => (by unfold wp_Gr_readProduct; exact (qa0 _ _ ((qa1 _ (⟨k2, (qa2 _ _ _ (q))⟩))))), fun post postT h => (by unfold wp_Gr_readProduct at h; replace h := qb0 _ _ h; replace h := qb1 _ h; obtain ⟨m2, h⟩ := h; replace h := qb2 m2 _ _ _ h; exact h)⟩
    · exact Or.inl ⟨_, _, fun post postT q => (by unfold wp_Gr_readProduct; exact (qa0 _ _ ((qa1 _ (⟨k2, (qa2 _ _ _ (q))⟩))))), fun post postT h => (by unfold wp_Gr_readProduct at h; replace h := qb0 _ _ h; replace h := qb1 _ h; obtain ⟨m2, h⟩ := h; replace h := qb2 m2 _ _ _ h; exact h)⟩
    · exact Or.inr (⟨_, fun post postT q => (by unfold wp_Gr_readProduct; exact (qa0 _ _ ((qa1 _ (⟨k2, (qa2 _ _ _ (q))⟩))))), fun post postT h => (by unfold wp_Gr_readProduct at h; replace h := qb0 _ _ h; replace h := qb1 _ h; obtain ⟨m2, h⟩ := h; replace h := qb2 m2 _ _ _ h; exact h)⟩)
  · replace h := qb0 _ _ h
    exact Or.inr (⟨_, fun post postT q => (by unfold wp_Gr_readProduct; exact (qa0 _ _ (q))), fun post postT h => (by unfold wp_Gr_readProduct at h; replace h := qb0 _ _ h; exact h)⟩)
set_option maxHeartbeats 2000000 in
theorem dt_Gr_readSum_L16 {rf : T_Gr → T_Nm → T_Nd → T_Wd → Int32 → (Int32 → T_Gr × T_Nm × T_Nd × T_Wd → Prop) → (T_Gr × T_Nm × T_Nd × T_Wd → Prop) → Prop} (hrf : ∀ (v0 : T_Gr) (v1 : T_Nm) (v2 : T_Nd) (v3 : T_Wd) (v4 : Int32) (post : (Int32 → T_Gr × T_Nm × T_Nd × T_Wd → Prop)) (postT : (T_Gr × T_Nm × T_Nd × T_Wd → Prop)), rf v0 v1 v2 v3 v4 post postT → (∃ (w0 : Int32) (w1 : T_Gr × T_Nm × T_Nd × T_Wd), (∀ (post : (Int32 → T_Gr × T_Nm × T_Nd × T_Wd → Prop)) (postT : (T_Gr × T_Nm × T_Nd × T_Wd → Prop)), post w0 w1 → rf v0 v1 v2 v3 v4 post postT) ∧ (∀ (post : (Int32 → T_Gr × T_Nm × T_Nd × T_Wd → Prop)) (postT : (T_Gr × T_Nm × T_Nd × T_Wd → Prop)), rf v0 v1 v2 v3 v4 post postT → post w0 w1)) ∨ (∃ (w0 : T_Gr × T_Nm × T_Nd × T_Wd), (∀ (post : (Int32 → T_Gr × T_Nm × T_Nd × T_Wd → Prop)) (postT : (T_Gr × T_Nm × T_Nd × T_Wd → Prop)), postT w0 → rf v0 v1 v2 v3 v4 post postT) ∧ (∀ (post : (Int32 → T_Gr × T_Nm × T_Nd × T_Wd → Prop)) (postT : (T_Gr × T_Nm × T_Nd × T_Wd → Prop)), rf v0 v1 v2 v3 v4 post postT → postT w0))) : ∀ (n9 : Nat) (z_this : T_Gr) (z_this_names : T_Nm) (z_this_nodes : T_Nd) (z_this_words : T_Wd) (x1 : Int32) (x2 : Int32) (x3 : Int32) (x4 : Int32) (K : T_Gr → T_Nm → T_Nd → T_Wd → Int32 → Int32 → Int32 → Int32 → Prop) (post : Int32 → T_Gr × T_Nm × T_Nd × T_Wd → Prop) (postT : T_Gr × T_Nm × T_Nd × T_Wd → Prop), wp_Gr_readSum_L16 rf K post postT n9 z_this z_this_names z_this_nodes z_this_words x1 x2 x3 x4 → (∃ (w0 : T_Gr) (w1 : T_Nm) (w2 : T_Nd) (w3 : T_Wd) (w4 : Int32) (w5 : Int32) (w6 : Int32) (w7 : Int32), (∀ (K : T_Gr → T_Nm → T_Nd → T_Wd → Int32 → Int32 → Int32 → Int32 → Prop) (post : Int32 → T_Gr × T_Nm × T_Nd × T_Wd → Prop) (postT : T_Gr × T_Nm × T_Nd × T_Wd → Prop), K w0 w1 w2 w3 w4 w5 w6 w7 → wp_Gr_readSum_L16 rf K post postT n9 z_this z_this_names z_this_nodes z_this_words x1 x2 x3 x4) ∧ (∀ (m9 : Nat) (K : T_Gr → T_Nm → T_Nd → T_Wd → Int32 → Int32 → Int32 → Int32 → Prop) (post : Int32 → T_Gr × T_Nm × T_Nd × T_Wd → Prop) (postT : T_Gr × T_Nm × T_Nd × T_Wd → Prop), wp_Gr_readSum_L16 rf K post postT m9 z_this z_this_names z_this_nodes z_this_words x1 x2 x3 x4 → K w0 w1 w2 w3 w4 w5 w6 w7)) ∨ (∃ (w0 : Int32) (w1 : T_Gr × T_Nm × T_Nd × T_Wd), (∀ (K : T_Gr → T_Nm → T_Nd → T_Wd → Int32 → Int32 → Int32 → Int32 → Prop) (post : Int32 → T_Gr × T_Nm × T_Nd × T_Wd → Prop) (postT : T_Gr × T_Nm × T_Nd × T_Wd → Prop), post w0 w1 → wp_Gr_readSum_L16 rf K post postT n9 z_this z_this_names z_this_nodes z_this_words x1 x2 x3 x4) ∧ (∀ (m9 : Nat) (K : T_Gr → T_Nm → T_Nd → T_Wd → Int32 → Int32 → Int32 → Int32 → Prop) (post : Int32 → T_Gr × T_Nm × T_Nd × T_Wd → Prop) (postT : T_Gr × T_Nm × T_Nd × T_Wd → Prop), wp_Gr_readSum_L16 rf K post postT m9 z_this z_this_names z_this_nodes z_this_words x1 x2 x3 x4 → post w0 w1)) ∨ (∃ (w0 : T_Gr × T_Nm × T_Nd × T_Wd), (∀ (K : T_Gr → T_Nm → T_Nd → T_Wd → Int32 → Int32 → Int32 → Int32 → Prop) (post : Int32 → T_Gr × T_Nm × T_Nd × T_Wd → Prop) (postT : T_Gr × T_Nm × T_Nd × T_Wd → Prop), postT w0 → wp_Gr_readSum_L16 rf K post postT n9 z_this z_this_names z_this_nodes z_this_words x1 x2 x3 x4) ∧ (∀ (m9 : Nat) (K : T_Gr → T_Nm → T_Nd → T_Wd → Int32 → Int32 → Int32 → Int32 → Prop) (post : Int32 → T_Gr × T_Nm × T_Nd × T_Wd → Prop) (postT : T_Gr × T_Nm × T_Nd × T_Wd → Prop), wp_Gr_readSum_L16 rf K post postT m9 z_this z_this_names z_this_nodes z_this_words x1 x2 x3 x4 → postT w0)) := by
  intro n9
  induction n9 with
  | zero => intro z_this z_this_names z_this_nodes z_this_words x1 x2 x3 x4 K post postT h; exact False.elim h
  | succ n9 ih =>
    intro z_this z_this_names z_this_nodes z_this_words x1 x2 x3 x4 K post postT h
    rw [wp_Gr_readSum_L16] at h
    rcases br_el h with ⟨c0, h⟩ | ⟨c0, h⟩
    · exact Or.inl ⟨_, _, _, _, _, _, _, _, fun K post postT q => (by rw [wp_Gr_readSum_L16]; exact (pT c0 (q))), fun m9 K post postT h => (by cases m9 with | zero => exact False.elim h | succ m9 => (rw [wp_Gr_readSum_L16] at h; replace h := h.1 c0; exact h))⟩
    · rcases br_el h with ⟨c1, h⟩ | ⟨c1, h⟩
      · exact Or.inl ⟨_, _, _, _, _, _, _, _, fun K post postT q => (by rw [wp_Gr_readSum_L16]; exact (pF c0 ((pT c1 (q))))), fun m9 K post postT h => (by cases m9 with | zero => exact False.elim h | succ m9 => (rw [wp_Gr_readSum_L16] at h; replace h := h.2 c0; replace h := h.1 c1; exact h))⟩
      · rcases dt_Gr_pass h with ⟨r3, u3, qa2, qb2⟩ | ⟨u, qa2, qb2⟩
        · replace h := qb2 _ _ h
          rcases dt_Gr_readProduct hrf h with ⟨r4, u4, qa3, qb3⟩ | ⟨u, qa3, qb3⟩
          · replace h := qb3 _ _ h
            rcases dt_Gr_join h with ⟨r5, u5, qa4, qb4⟩ | ⟨u, qa4, qb4⟩
            · replace h := qb4 _ _ h
              obtain ⟨r6, u6, qa5, qb5⟩ := dt_Gr_operator h
              replace h := qb5 _ h
              rcases ih _ _ _ _ _ _ _ _ _ _ _ h with ⟨w6_0, w6_1, w6_2, w6_3, w6_4, w6_5, w6_6, w6_7, qa6, qb6⟩ | ⟨w6_0, w6_1, qa6, qb6⟩ | ⟨w6_0, qa6, qb6⟩
              · exact Or.inl ⟨_, _, _, _, _, _, _, _, fun K post postT q => (by rw [wp_Gr_readSum_L16]; exact (pF c0 ((pF c1 ((qa2 _ _ ((qa3 _ _ ((qa4 _ _ ((qa5 _ ((qa6 _ _ _ (q))))))))))))))), fun m9 K post postT h => (by cases m9 with | zero => exact False.elim h | succ m9 => (rw [wp_Gr_readSum_L16] at h; replace h := h.2 c0; replace h := h.2 c1; replace h := qb2 _ _ h; replace h := qb3 _ _ h; replace h := qb4 _ _ h; replace h := qb5 _ h; replace h := qb6 m9 _ _ _ h; exact h))⟩
              · exact Or.inr (Or.inl ⟨_, _, fun K post postT q => (by rw [wp_Gr_readSum_L16]; exact (pF c0 ((pF c1 ((qa2 _ _ ((qa3 _ _ ((qa4 _ _ ((qa5 _ ((qa6 _ _ _ (q))))))))))))))), fun m9 K post postT h => (by cases m9 with | zero => exact False.elim h | succ m9 => (rw [wp_Gr_readSum_L16] at h; replace h := h.2 c0; replace h := h.2 c1; replace h := qb2 _ _ h; replace h := qb3 _ _ h; replace h := qb4 _ _ h; replace h := qb5 _ h; replace h := qb6 m9 _ _ _ h; exact h))⟩)
              · exact Or.inr (Or.inr (⟨_, fun K post postT q => (by rw [wp_Gr_readSum_L16]; exact (pF c0 ((pF c1 ((qa2 _ _ ((qa3 _ _ ((qa4 _ _ ((qa5 _ ((qa6 _ _ _ (q))))))))))))))), fun m9 K post postT h => (by cases m9 with | zero => exact False.elim h | succ m9 => (rw [wp_Gr_readSum_L16] at h; replace h := h.2 c0; replace h := h.2 c1; replace h := qb2 _ _ h; replace h := qb3 _ _ h; replace h := qb4 _ _ h; replace h := qb5 _ h; replace h := qb6 m9 _ _ _ h; exact h))⟩))
            · replace h := qb4 _ _ h
              exact Or.inr (Or.inr (⟨_, fun K post postT q => (by rw [wp_Gr_readSum_L16]; exact (pF c0 ((pF c1 ((qa2 _ _ ((qa3 _ _ ((qa4 _ _ (q))))))))))), fun m9 K post postT h => (by cases m9 with | zero => exact False.elim h | succ m9 => (rw [wp_Gr_readSum_L16] at h; replace h := h.2 c0; replace h := h.2 c1; replace h := qb2 _ _ h; replace h := qb3 _ _ h; replace h := qb4 _ _ h; exact h))⟩))
          · replace h := qb3 _ _ h
            exact Or.inr (Or.inr (⟨_, fun K post postT q => (by rw [wp_Gr_readSum_L16]; exact (pF c0 ((pF c1 ((qa2 _ _ ((qa3 _ _ (q))))))))), fun m9 K post postT h => (by cases m9 with | zero => exact False.elim h | succ m9 => (rw [wp_Gr_readSum_L16] at h; replace h := h.2 c0; replace h := h.2 c1; replace h := qb2 _ _ h; replace h := qb3 _ _ h; exact h))⟩))
        · replace h := qb2 _ _ h
          exact Or.inr (Or.inr (⟨_, fun K post postT q => (by rw [wp_Gr_readSum_L16]; exact (pF c0 ((pF c1 ((qa2 _ _ (q))))))), fun m9 K post postT h => (by cases m9 with | zero => exact False.elim h | succ m9 => (rw [wp_Gr_readSum_L16] at h; replace h := h.2 c0; replace h := h.2 c1; replace h := qb2 _ _ h; exact h))⟩))
set_option maxHeartbeats 2000000 in
theorem dt_Gr_readSum {rf : T_Gr → T_Nm → T_Nd → T_Wd → Int32 → (Int32 → T_Gr × T_Nm × T_Nd × T_Wd → Prop) → (T_Gr × T_Nm × T_Nd × T_Wd → Prop) → Prop} {z_this : T_Gr} {z_this_names : T_Nm} {z_this_nodes : T_Nd} {z_this_words : T_Wd} {a1 : Int32} (hrf : ∀ (v0 : T_Gr) (v1 : T_Nm) (v2 : T_Nd) (v3 : T_Wd) (v4 : Int32) (post : (Int32 → T_Gr × T_Nm × T_Nd × T_Wd → Prop)) (postT : (T_Gr × T_Nm × T_Nd × T_Wd → Prop)), rf v0 v1 v2 v3 v4 post postT → (∃ (w0 : Int32) (w1 : T_Gr × T_Nm × T_Nd × T_Wd), (∀ (post : (Int32 → T_Gr × T_Nm × T_Nd × T_Wd → Prop)) (postT : (T_Gr × T_Nm × T_Nd × T_Wd → Prop)), post w0 w1 → rf v0 v1 v2 v3 v4 post postT) ∧ (∀ (post : (Int32 → T_Gr × T_Nm × T_Nd × T_Wd → Prop)) (postT : (T_Gr × T_Nm × T_Nd × T_Wd → Prop)), rf v0 v1 v2 v3 v4 post postT → post w0 w1)) ∨ (∃ (w0 : T_Gr × T_Nm × T_Nd × T_Wd), (∀ (post : (Int32 → T_Gr × T_Nm × T_Nd × T_Wd → Prop)) (postT : (T_Gr × T_Nm × T_Nd × T_Wd → Prop)), postT w0 → rf v0 v1 v2 v3 v4 post postT) ∧ (∀ (post : (Int32 → T_Gr × T_Nm × T_Nd × T_Wd → Prop)) (postT : (T_Gr × T_Nm × T_Nd × T_Wd → Prop)), rf v0 v1 v2 v3 v4 post postT → postT w0))) {post : Int32 → T_Gr × T_Nm × T_Nd × T_Wd → Prop} {postT : T_Gr × T_Nm × T_Nd × T_Wd → Prop} (h : wp_Gr_readSum rf z_this z_this_names z_this_nodes z_this_words a1 post postT) : (∃ (w0 : Int32) (w1 : T_Gr × T_Nm × T_Nd × T_Wd), (∀ (post : Int32 → T_Gr × T_Nm × T_Nd × T_Wd → Prop) (postT : T_Gr × T_Nm × T_Nd × T_Wd → Prop), post w0 w1 → wp_Gr_readSum rf z_this z_this_names z_this_nodes z_this_words a1 post postT) ∧ (∀ (post : Int32 → T_Gr × T_Nm × T_Nd × T_Wd → Prop) (postT : T_Gr × T_Nm × T_Nd × T_Wd → Prop), wp_Gr_readSum rf z_this z_this_names z_this_nodes z_this_words a1 post postT → post w0 w1)) ∨ (∃ (w0 : T_Gr × T_Nm × T_Nd × T_Wd), (∀ (post : Int32 → T_Gr × T_Nm × T_Nd × T_Wd → Prop) (postT : T_Gr × T_Nm × T_Nd × T_Wd → Prop), postT w0 → wp_Gr_readSum rf z_this z_this_names z_this_nodes z_this_words a1 post postT) ∧ (∀ (post : Int32 → T_Gr × T_Nm × T_Nd × T_Wd → Prop) (postT : T_Gr × T_Nm × T_Nd × T_Wd → Prop), wp_Gr_readSum rf z_this z_this_names z_this_nodes z_this_words a1 post postT → postT w0)) := by
  unfold wp_Gr_readSum at h
  rcases dt_Gr_readProduct hrf h with ⟨r1, u1, qa0, qb0⟩ | ⟨u, qa0, qb0⟩
  · replace h := qb0 _ _ h
    obtain ⟨r2, u2, qa1, qb1⟩ := dt_Gr_operator h
    replace h := qb1 _ h
    obtain ⟨k2, h⟩ := h
    rcases dt_Gr_readSum_L16 hrf k2 _ _ _ _ _ _ _ _ _ _ _ h with ⟨z_this, z_this_names, z_this_nodes, z_this_words, x1, x2, x3, x4, qa2, qb2⟩ | ⟨w2_0, w2_1, qa2, qb2⟩ | ⟨w2_0, qa2, qb2⟩
    · replace h := qb2 k2 _ _ _ h
      exact Or.inl ⟨_, _, fun post postT q => (by unfold wp_Gr_readSum; exact (qa0 _ _ ((qa1 _ (⟨k2, (qa2 _ _ _ (q))⟩))))), fun post postT h => (by unfold wp_Gr_readSum at h; replace h := qb0 _ _ h; replace h := qb1 _ h; obtain ⟨m2, h⟩ := h; replace h := qb2 m2 _ _ _ h; exact h)⟩
    · exact Or.inl ⟨_, _, fun post postT q => (by unfold wp_Gr_readSum; exact (qa0 _ _ ((qa1 _ (⟨k2, (qa2 _ _ _ (q))⟩))))), fun post postT h => (by unfold wp_Gr_readSum at h; replace h := qb0 _ _ h; replace h := qb1 _ h; obtain ⟨m2, h⟩ := h; replace h := qb2 m2 _ _ _ h; exact h)⟩
    · exact Or.inr (⟨_, fun post postT q => (by unfold wp_Gr_readSum; exact (qa0 _ _ ((qa1 _ (⟨k2, (qa2 _ _ _ (q))⟩))))), fun post postT h => (by unfold wp_Gr_readSum at h; replace h := qb0 _ _ h; replace h := qb1 _ h; obtain ⟨m2, h⟩ := h; replace h := qb2 m2 _ _ _ h; exact h)⟩)
  · replace h := qb0 _ _ h
    exact Or.inr (⟨_, fun post postT q => (by unfold wp_Gr_readSum; exact (qa0 _ _ (q))), fun post postT h => (by unfold wp_Gr_readSum at h; replace h := qb0 _ _ h; exact h)⟩)
set_option maxHeartbeats 2000000 in
theorem dt_Gr_readFactor_F {rf : T_Gr → T_Nm → T_Nd → T_Wd → Int32 → (Int32 → T_Gr × T_Nm × T_Nd × T_Wd → Prop) → (T_Gr × T_Nm × T_Nd × T_Wd → Prop) → Prop} {z_this : T_Gr} {z_this_names : T_Nm} {z_this_nodes : T_Nd} {z_this_words : T_Wd} {a1 : Int32} (hrf : ∀ (v0 : T_Gr) (v1 : T_Nm) (v2 : T_Nd) (v3 : T_Wd) (v4 : Int32) (post : (Int32 → T_Gr × T_Nm × T_Nd × T_Wd → Prop)) (postT : (T_Gr × T_Nm × T_Nd × T_Wd → Prop)), rf v0 v1 v2 v3 v4 post postT → (∃ (w0 : Int32) (w1 : T_Gr × T_Nm × T_Nd × T_Wd), (∀ (post : (Int32 → T_Gr × T_Nm × T_Nd × T_Wd → Prop)) (postT : (T_Gr × T_Nm × T_Nd × T_Wd → Prop)), post w0 w1 → rf v0 v1 v2 v3 v4 post postT) ∧ (∀ (post : (Int32 → T_Gr × T_Nm × T_Nd × T_Wd → Prop)) (postT : (T_Gr × T_Nm × T_Nd × T_Wd → Prop)), rf v0 v1 v2 v3 v4 post postT → post w0 w1)) ∨ (∃ (w0 : T_Gr × T_Nm × T_Nd × T_Wd), (∀ (post : (Int32 → T_Gr × T_Nm × T_Nd × T_Wd → Prop)) (postT : (T_Gr × T_Nm × T_Nd × T_Wd → Prop)), postT w0 → rf v0 v1 v2 v3 v4 post postT) ∧ (∀ (post : (Int32 → T_Gr × T_Nm × T_Nd × T_Wd → Prop)) (postT : (T_Gr × T_Nm × T_Nd × T_Wd → Prop)), rf v0 v1 v2 v3 v4 post postT → postT w0))) {post : Int32 → T_Gr × T_Nm × T_Nd × T_Wd → Prop} {postT : T_Gr × T_Nm × T_Nd × T_Wd → Prop} (h : wp_Gr_readFactor_F rf z_this z_this_names z_this_nodes z_this_words a1 post postT) : (∃ (w0 : Int32) (w1 : T_Gr × T_Nm × T_Nd × T_Wd), (∀ (post : Int32 → T_Gr × T_Nm × T_Nd × T_Wd → Prop) (postT : T_Gr × T_Nm × T_Nd × T_Wd → Prop), post w0 w1 → wp_Gr_readFactor_F rf z_this z_this_names z_this_nodes z_this_words a1 post postT) ∧ (∀ (post : Int32 → T_Gr × T_Nm × T_Nd × T_Wd → Prop) (postT : T_Gr × T_Nm × T_Nd × T_Wd → Prop), wp_Gr_readFactor_F rf z_this z_this_names z_this_nodes z_this_words a1 post postT → post w0 w1)) ∨ (∃ (w0 : T_Gr × T_Nm × T_Nd × T_Wd), (∀ (post : Int32 → T_Gr × T_Nm × T_Nd × T_Wd → Prop) (postT : T_Gr × T_Nm × T_Nd × T_Wd → Prop), postT w0 → wp_Gr_readFactor_F rf z_this z_this_names z_this_nodes z_this_words a1 post postT) ∧ (∀ (post : Int32 → T_Gr × T_Nm × T_Nd × T_Wd → Prop) (postT : T_Gr × T_Nm × T_Nd × T_Wd → Prop), wp_Gr_readFactor_F rf z_this z_this_names z_this_nodes z_this_words a1 post postT → postT w0)) := by
  unfold wp_Gr_readFactor_F at h
  obtain ⟨r1, u1, qa0, qb0⟩ := dt_Nd_count h
  replace h := qb0 _ h
  rcases Classical.em (z_this_words.2.2.2.2.2.2.2.2.2.2.1 = (40 : Int32)) with c1_0 | c1_0
  · replace h := (h).1 c1_0
    rcases dt_Gr_refuseOneMore h with ⟨r2, u2, qa2, qb2⟩ | ⟨u, qa2, qb2⟩
    · replace h := qb2 _ _ h
      rcases dt_Gr_pass h with ⟨r3, u3, qa3, qb3⟩ | ⟨u, qa3, qb3⟩
      · replace h := qb3 _ _ h
        rcases dt_Gr_readSum hrf h with ⟨r4, u4, qa4, qb4⟩ | ⟨u, qa4, qb4⟩
        · replace h := qb4 _ _ h
          rcases dt_Gr_take h with ⟨r5, u5, qa5, qb5⟩ | ⟨u, qa5, qb5⟩
          · replace h := qb5 _ _ h
            exact Or.inl ⟨_, _, fun post postT q => (by unfold wp_Gr_readFactor_F; exact (qa0 _ (⟨fun _ => (qa2 _ _ ((qa3 _ _ ((qa4 _ _ ((qa5 _ _ (q)))))))), fun q9 => absurd (c1_0.symm.trans q9) (by decide), fun q9 => absurd (c1_0.symm.trans q9) (by decide), fun q9 => absurd (c1_0.symm.trans q9) (by decide), fun q9 => absurd c1_0 (q9.1)⟩))), fun post postT h => (by unfold wp_Gr_readFactor_F at h; replace h := qb0 _ h; replace h := (h).1 c1_0; replace h := qb2 _ _ h; replace h := qb3 _ _ h; replace h := qb4 _ _ h; replace h := qb5 _ _ h; exact h)⟩
          · replace h := qb5 _ _ h
            exact Or.inr (⟨_, fun post postT q => (by unfold wp_Gr_readFactor_F; exact (qa0 _ (⟨fun _ => (qa2 _ _ ((qa3 _ _ ((qa4 _ _ ((qa5 _ _ (q)))))))), fun q9 => absurd (c1_0.symm.trans q9) (by decide), fun q9 => absurd (c1_0.symm.trans q9) (by decide), fun q9 => absurd (c1_0.symm.trans q9) (by decide), fun q9 => absurd c1_0 (q9.1)⟩))), fun post postT h => (by unfold wp_Gr_readFactor_F at h; replace h := qb0 _ h; replace h := (h).1 c1_0; replace h := qb2 _ _ h; replace h := qb3 _ _ h; replace h := qb4 _ _ h; replace h := qb5 _ _ h; exact h)⟩)
        · replace h := qb4 _ _ h
          exact Or.inr (⟨_, fun post postT q => (by unfold wp_Gr_readFactor_F; exact (qa0 _ (⟨fun _ => (qa2 _ _ ((qa3 _ _ ((qa4 _ _ (q)))))), fun q9 => absurd (c1_0.symm.trans q9) (by decide), fun q9 => absurd (c1_0.symm.trans q9) (by decide), fun q9 => absurd (c1_0.symm.trans q9) (by decide), fun q9 => absurd c1_0 (q9.1)⟩))), fun post postT h => (by unfold wp_Gr_readFactor_F at h; replace h := qb0 _ h; replace h := (h).1 c1_0; replace h := qb2 _ _ h; replace h := qb3 _ _ h; replace h := qb4 _ _ h; exact h)⟩)
      · replace h := qb3 _ _ h
        exact Or.inr (⟨_, fun post postT q => (by unfold wp_Gr_readFactor_F; exact (qa0 _ (⟨fun _ => (qa2 _ _ ((qa3 _ _ (q)))), fun q9 => absurd (c1_0.symm.trans q9) (by decide), fun q9 => absurd (c1_0.symm.trans q9) (by decide), fun q9 => absurd (c1_0.symm.trans q9) (by decide), fun q9 => absurd c1_0 (q9.1)⟩))), fun post postT h => (by unfold wp_Gr_readFactor_F at h; replace h := qb0 _ h; replace h := (h).1 c1_0; replace h := qb2 _ _ h; replace h := qb3 _ _ h; exact h)⟩)
    · replace h := qb2 _ _ h
      exact Or.inr (⟨_, fun post postT q => (by unfold wp_Gr_readFactor_F; exact (qa0 _ (⟨fun _ => (qa2 _ _ (q)), fun q9 => absurd (c1_0.symm.trans q9) (by decide), fun q9 => absurd (c1_0.symm.trans q9) (by decide), fun q9 => absurd (c1_0.symm.trans q9) (by decide), fun q9 => absurd c1_0 (q9.1)⟩))), fun post postT h => (by unfold wp_Gr_readFactor_F at h; replace h := qb0 _ h; replace h := (h).1 c1_0; replace h := qb2 _ _ h; exact h)⟩)
  · rcases Classical.em (z_this_words.2.2.2.2.2.2.2.2.2.2.1 = (45 : Int32)) with c1_1 | c1_1
    · replace h := (h).2.1 c1_1
      rcases dt_Gr_refuseOneMore h with ⟨r6, u6, qa2, qb2⟩ | ⟨u, qa2, qb2⟩
      · replace h := qb2 _ _ h
        rcases dt_Gr_pass h with ⟨r7, u7, qa3, qb3⟩ | ⟨u, qa3, qb3⟩
        · replace h := qb3 _ _ h
          rcases hrf _ _ _ _ _ _ _ h with ⟨r8, u8, qa4, qb4⟩ | ⟨u, qa4, qb4⟩
          · replace h := qb4 _ _ h
            obtain ⟨r9, u9, qa5, qb5⟩ := dt_Nd_measureOf h
            replace h := qb5 _ h
            obtain ⟨r10, u10, qa6, qb6⟩ := dt_Nd_add h
            replace h := qb6 _ h
            exact Or.inl ⟨_, _, fun post postT q => (by unfold wp_Gr_readFactor_F; exact (qa0 _ (⟨fun q9 => absurd q9 c1_0, fun _ => (qa2 _ _ ((qa3 _ _ ((qa4 _ _ ((qa5 _ ((qa6 _ (q)))))))))), fun q9 => absurd (c1_1.symm.trans q9) (by decide), fun q9 => absurd (c1_1.symm.trans q9) (by decide), fun q9 => absurd c1_1 (q9.2.1)⟩))), fun post postT h => (by unfold wp_Gr_readFactor_F at h; replace h := qb0 _ h; replace h := (h).2.1 c1_1; replace h := qb2 _ _ h; replace h := qb3 _ _ h; replace h := qb4 _ _ h; replace h := qb5 _ h; replace h := qb6 _ h; exact h)⟩
          · replace h := qb4 _ _ h
            exact Or.inr (⟨_, fun post postT q => (by unfold wp_Gr_readFactor_F; exact (qa0 _ (⟨fun q9 => absurd q9 c1_0, fun _ => (qa2 _ _ ((qa3 _ _ ((qa4 _ _ (q)))))), fun q9 => absurd (c1_1.symm.trans q9) (by decide), fun q9 => absurd (c1_1.symm.trans q9) (by decide), fun q9 => absurd c1_1 (q9.2.1)⟩))), fun post postT h => (by unfold wp_Gr_readFactor_F at h; replace h := qb0 _ h; replace h := (h).2.1 c1_1; replace h := qb2 _ _ h; replace h := qb3 _ _ h; replace h := qb4 _ _ h; exact h)⟩)
        · replace h := qb3 _ _ h
          exact Or.inr (⟨_, fun post postT q => (by unfold wp_Gr_readFactor_F; exact (qa0 _ (⟨fun q9 => absurd q9 c1_0, fun _ => (qa2 _ _ ((qa3 _ _ (q)))), fun q9 => absurd (c1_1.symm.trans q9) (by decide), fun q9 => absurd (c1_1.symm.trans q9) (by decide), fun q9 => absurd c1_1 (q9.2.1)⟩))), fun post postT h => (by unfold wp_Gr_readFactor_F at h; replace h := qb0 _ h; replace h := (h).2.1 c1_1; replace h := qb2 _ _ h; replace h := qb3 _ _ h; exact h)⟩)
      · replace h := qb2 _ _ h
        exact Or.inr (⟨_, fun post postT q => (by unfold wp_Gr_readFactor_F; exact (qa0 _ (⟨fun q9 => absurd q9 c1_0, fun _ => (qa2 _ _ (q)), fun q9 => absurd (c1_1.symm.trans q9) (by decide), fun q9 => absurd (c1_1.symm.trans q9) (by decide), fun q9 => absurd c1_1 (q9.2.1)⟩))), fun post postT h => (by unfold wp_Gr_readFactor_F at h; replace h := qb0 _ h; replace h := (h).2.1 c1_1; replace h := qb2 _ _ h; exact h)⟩)
    · rcases Classical.em (z_this_words.2.2.2.2.2.2.2.2.2.2.1 = (129 : Int32)) with c1_2 | c1_2
      · replace h := (h).2.2.1 c1_2
        rcases dt_Gr_readAmount h with ⟨r11, u11, qa2, qb2⟩ | ⟨u, qa2, qb2⟩
        · replace h := qb2 _ _ h
          exact Or.inl ⟨_, _, fun post postT q => (by unfold wp_Gr_readFactor_F; exact (qa0 _ (⟨fun q9 => absurd q9 c1_0, fun q9 => absurd q9 c1_1, fun _ => (qa2 _ _ (q)), fun q9 => absurd (c1_2.symm.trans q9) (by decide), fun q9 => absurd c1_2 (q9.2.2.1)⟩))), fun post postT h => (by unfold wp_Gr_readFactor_F at h; replace h := qb0 _ h; replace h := (h).2.2.1 c1_2; replace h := qb2 _ _ h; exact h)⟩
        · replace h := qb2 _ _ h
          exact Or.inr (⟨_, fun post postT q => (by unfold wp_Gr_readFactor_F; exact (qa0 _ (⟨fun q9 => absurd q9 c1_0, fun q9 => absurd q9 c1_1, fun _ => (qa2 _ _ (q)), fun q9 => absurd (c1_2.symm.trans q9) (by decide), fun q9 => absurd c1_2 (q9.2.2.1)⟩))), fun post postT h => (by unfold wp_Gr_readFactor_F at h; replace h := qb0 _ h; replace h := (h).2.2.1 c1_2; replace h := qb2 _ _ h; exact h)⟩)
      · rcases Classical.em (z_this_words.2.2.2.2.2.2.2.2.2.2.1 = (130 : Int32)) with c1_3 | c1_3
        · replace h := (h).2.2.2.1 c1_3
          rcases dt_Gr_readAmount h with ⟨r12, u12, qa2, qb2⟩ | ⟨u, qa2, qb2⟩
          · replace h := qb2 _ _ h
            exact Or.inl ⟨_, _, fun post postT q => (by unfold wp_Gr_readFactor_F; exact (qa0 _ (⟨fun q9 => absurd q9 c1_0, fun q9 => absurd q9 c1_1, fun q9 => absurd q9 c1_2, fun _ => (qa2 _ _ (q)), fun q9 => absurd c1_3 (q9.2.2.2)⟩))), fun post postT h => (by unfold wp_Gr_readFactor_F at h; replace h := qb0 _ h; replace h := (h).2.2.2.1 c1_3; replace h := qb2 _ _ h; exact h)⟩
          · replace h := qb2 _ _ h
            exact Or.inr (⟨_, fun post postT q => (by unfold wp_Gr_readFactor_F; exact (qa0 _ (⟨fun q9 => absurd q9 c1_0, fun q9 => absurd q9 c1_1, fun q9 => absurd q9 c1_2, fun _ => (qa2 _ _ (q)), fun q9 => absurd c1_3 (q9.2.2.2)⟩))), fun post postT h => (by unfold wp_Gr_readFactor_F at h; replace h := qb0 _ h; replace h := (h).2.2.2.1 c1_3; replace h := qb2 _ _ h; exact h)⟩)
        · replace h := (h).2.2.2.2 ⟨c1_0, c1_1, c1_2, c1_3⟩
          rcases dt_Gr_readMeasured h with ⟨r13, u13, qa2, qb2⟩ | ⟨u, qa2, qb2⟩
          · replace h := qb2 _ _ h
            exact Or.inl ⟨_, _, fun post postT q => (by unfold wp_Gr_readFactor_F; exact (qa0 _ (⟨fun q9 => absurd q9 c1_0, fun q9 => absurd q9 c1_1, fun q9 => absurd q9 c1_2, fun q9 => absurd q9 c1_3, fun _ => (qa2 _ _ (q))⟩))), fun post postT h => (by unfold wp_Gr_readFactor_F at h; replace h := qb0 _ h; replace h := (h).2.2.2.2 ⟨c1_0, c1_1, c1_2, c1_3⟩; replace h := qb2 _ _ h; exact h)⟩
          · replace h := qb2 _ _ h
            exact Or.inr (⟨_, fun post postT q => (by unfold wp_Gr_readFactor_F; exact (qa0 _ (⟨fun q9 => absurd q9 c1_0, fun q9 => absurd q9 c1_1, fun q9 => absurd q9 c1_2, fun q9 => absurd q9 c1_3, fun _ => (qa2 _ _ (q))⟩))), fun post postT h => (by unfold wp_Gr_readFactor_F at h; replace h := qb0 _ h; replace h := (h).2.2.2.2 ⟨c1_0, c1_1, c1_2, c1_3⟩; replace h := qb2 _ _ h; exact h)⟩)
theorem dt_Gr_readFactor : ∀ (d : Nat), ∀ (v0 : T_Gr) (v1 : T_Nm) (v2 : T_Nd) (v3 : T_Wd) (v4 : Int32) (post : (Int32 → T_Gr × T_Nm × T_Nd × T_Wd → Prop)) (postT : (T_Gr × T_Nm × T_Nd × T_Wd → Prop)), wp_Gr_readFactor d v0 v1 v2 v3 v4 post postT → (∃ (w0 : Int32) (w1 : T_Gr × T_Nm × T_Nd × T_Wd), (∀ (post : (Int32 → T_Gr × T_Nm × T_Nd × T_Wd → Prop)) (postT : (T_Gr × T_Nm × T_Nd × T_Wd → Prop)), post w0 w1 → wp_Gr_readFactor d v0 v1 v2 v3 v4 post postT) ∧ (∀ (post : (Int32 → T_Gr × T_Nm × T_Nd × T_Wd → Prop)) (postT : (T_Gr × T_Nm × T_Nd × T_Wd → Prop)), wp_Gr_readFactor d v0 v1 v2 v3 v4 post postT → post w0 w1)) ∨ (∃ (w0 : T_Gr × T_Nm × T_Nd × T_Wd), (∀ (post : (Int32 → T_Gr × T_Nm × T_Nd × T_Wd → Prop)) (postT : (T_Gr × T_Nm × T_Nd × T_Wd → Prop)), postT w0 → wp_Gr_readFactor d v0 v1 v2 v3 v4 post postT) ∧ (∀ (post : (Int32 → T_Gr × T_Nm × T_Nd × T_Wd → Prop)) (postT : (T_Gr × T_Nm × T_Nd × T_Wd → Prop)), wp_Gr_readFactor d v0 v1 v2 v3 v4 post postT → postT w0)) := by
  intro d
  induction d with
  | zero => intro v0 v1 v2 v3 v4 post postT h; exact False.elim h
  | succ d ih =>
    intro v0 v1 v2 v3 v4 post postT h
    exact dt_Gr_readFactor_F ih h
set_option maxHeartbeats 2000000 in
theorem dt_Gr_readTest {rf : T_Gr → T_Nm → T_Nd → T_Wd → Int32 → (Int32 → T_Gr × T_Nm × T_Nd × T_Wd → Prop) → (T_Gr × T_Nm × T_Nd × T_Wd → Prop) → Prop} {z_this : T_Gr} {z_this_names : T_Nm} {z_this_nodes : T_Nd} {z_this_words : T_Wd} {a1 : Int32} (hrf : ∀ (v0 : T_Gr) (v1 : T_Nm) (v2 : T_Nd) (v3 : T_Wd) (v4 : Int32) (post : (Int32 → T_Gr × T_Nm × T_Nd × T_Wd → Prop)) (postT : (T_Gr × T_Nm × T_Nd × T_Wd → Prop)), rf v0 v1 v2 v3 v4 post postT → (∃ (w0 : Int32) (w1 : T_Gr × T_Nm × T_Nd × T_Wd), (∀ (post : (Int32 → T_Gr × T_Nm × T_Nd × T_Wd → Prop)) (postT : (T_Gr × T_Nm × T_Nd × T_Wd → Prop)), post w0 w1 → rf v0 v1 v2 v3 v4 post postT) ∧ (∀ (post : (Int32 → T_Gr × T_Nm × T_Nd × T_Wd → Prop)) (postT : (T_Gr × T_Nm × T_Nd × T_Wd → Prop)), rf v0 v1 v2 v3 v4 post postT → post w0 w1)) ∨ (∃ (w0 : T_Gr × T_Nm × T_Nd × T_Wd), (∀ (post : (Int32 → T_Gr × T_Nm × T_Nd × T_Wd → Prop)) (postT : (T_Gr × T_Nm × T_Nd × T_Wd → Prop)), postT w0 → rf v0 v1 v2 v3 v4 post postT) ∧ (∀ (post : (Int32 → T_Gr × T_Nm × T_Nd × T_Wd → Prop)) (postT : (T_Gr × T_Nm × T_Nd × T_Wd → Prop)), rf v0 v1 v2 v3 v4 post postT → postT w0))) {post : Unit → T_Gr × T_Nm × T_Nd × T_Wd → Prop} {postT : T_Gr × T_Nm × T_Nd × T_Wd → Prop} (h : wp_Gr_readTest rf z_this z_this_names z_this_nodes z_this_words a1 post postT) : (∃ (w0 : Unit) (w1 : T_Gr × T_Nm × T_Nd × T_Wd), (∀ (post : Unit → T_Gr × T_Nm × T_Nd × T_Wd → Prop) (postT : T_Gr × T_Nm × T_Nd × T_Wd → Prop), post w0 w1 → wp_Gr_readTest rf z_this z_this_names z_this_nodes z_this_words a1 post postT) ∧ (∀ (post : Unit → T_Gr × T_Nm × T_Nd × T_Wd → Prop) (postT : T_Gr × T_Nm × T_Nd × T_Wd → Prop), wp_Gr_readTest rf z_this z_this_names z_this_nodes z_this_words a1 post postT → post w0 w1)) ∨ (∃ (w0 : T_Gr × T_Nm × T_Nd × T_Wd), (∀ (post : Unit → T_Gr × T_Nm × T_Nd × T_Wd → Prop) (postT : T_Gr × T_Nm × T_Nd × T_Wd → Prop), postT w0 → wp_Gr_readTest rf z_this z_this_names z_this_nodes z_this_words a1 post postT) ∧ (∀ (post : Unit → T_Gr × T_Nm × T_Nd × T_Wd → Prop) (postT : T_Gr × T_Nm × T_Nd × T_Wd → Prop), wp_Gr_readTest rf z_this z_this_names z_this_nodes z_this_words a1 post postT → postT w0)) := by
  unfold wp_Gr_readTest at h
  rcases dt_Gr_readSum hrf h with ⟨r1, u1, qa0, qb0⟩ | ⟨u, qa0, qb0⟩
  · replace h := qb0 _ _ h
    obtain ⟨r2, u2, qa1, qb1⟩ := dt_Gr_operator h
    replace h := qb1 _ h
    rcases br_el h with ⟨c2, h⟩ | ⟨c2, h⟩
    · obtain ⟨u, qa3, qb3⟩ := dt_Gr_refuse h
      replace h := qb3 _ h
      exact Or.inr (⟨_, fun post postT q => (by unfold wp_Gr_readTest; exact (qa0 _ _ ((qa1 _ ((pT c2 ((qa3 _ (q))))))))), fun post postT h => (by unfold wp_Gr_readTest at h; replace h := qb0 _ _ h; replace h := qb1 _ h; replace h := h.1 c2; replace h := qb3 _ h; exact h)⟩)
    · rcases dt_Gr_pass h with ⟨r3, u3, qa3, qb3⟩ | ⟨u, qa3, qb3⟩
      · replace h := qb3 _ _ h
        rcases dt_Gr_readSum hrf h with ⟨r4, u4, qa4, qb4⟩ | ⟨u, qa4, qb4⟩
        · replace h := qb4 _ _ h
          rcases dt_Gr_join h with ⟨r5, u5, qa5, qb5⟩ | ⟨u, qa5, qb5⟩
          · replace h := qb5 _ _ h
            exact Or.inl ⟨_, _, fun post postT q => (by unfold wp_Gr_readTest; exact (qa0 _ _ ((qa1 _ ((pF c2 ((qa3 _ _ ((qa4 _ _ ((qa5 _ _ (q))))))))))))), fun post postT h => (by unfold wp_Gr_readTest at h; replace h := qb0 _ _ h; replace h := qb1 _ h; replace h := h.2 c2; replace h := qb3 _ _ h; replace h := qb4 _ _ h; replace h := qb5 _ _ h; exact h)⟩
          · replace h := qb5 _ _ h
            exact Or.inr (⟨_, fun post postT q => (by unfold wp_Gr_readTest; exact (qa0 _ _ ((qa1 _ ((pF c2 ((qa3 _ _ ((qa4 _ _ ((qa5 _ _ (q))))))))))))), fun post postT h => (by unfold wp_Gr_readTest at h; replace h := qb0 _ _ h; replace h := qb1 _ h; replace h := h.2 c2; replace h := qb3 _ _ h; replace h := qb4 _ _ h; replace h := qb5 _ _ h; exact h)⟩)
        · replace h := qb4 _ _ h
          exact Or.inr (⟨_, fun post postT q => (by unfold wp_Gr_readTest; exact (qa0 _ _ ((qa1 _ ((pF c2 ((qa3 _ _ ((qa4 _ _ (q))))))))))), fun post postT h => (by unfold wp_Gr_readTest at h; replace h := qb0 _ _ h; replace h := qb1 _ h; replace h := h.2 c2; replace h := qb3 _ _ h; replace h := qb4 _ _ h; exact h)⟩)
      · replace h := qb3 _ _ h
        exact Or.inr (⟨_, fun post postT q => (by unfold wp_Gr_readTest; exact (qa0 _ _ ((qa1 _ ((pF c2 ((qa3 _ _ (q))))))))), fun post postT h => (by unfold wp_Gr_readTest at h; replace h := qb0 _ _ h; replace h := qb1 _ h; replace h := h.2 c2; replace h := qb3 _ _ h; exact h)⟩)
  · replace h := qb0 _ _ h
    exact Or.inr (⟨_, fun post postT q => (by unfold wp_Gr_readTest; exact (qa0 _ _ (q))), fun post postT h => (by unfold wp_Gr_readTest at h; replace h := qb0 _ _ h; exact h)⟩)
set_option maxHeartbeats 2000000 in
theorem dt_Gr_readSumOf {rf : T_Gr → T_Nm → T_Nd → T_Wd → Int32 → (Int32 → T_Gr × T_Nm × T_Nd × T_Wd → Prop) → (T_Gr × T_Nm × T_Nd × T_Wd → Prop) → Prop} {z_this : T_Gr} {z_this_names : T_Nm} {z_this_nodes : T_Nd} {z_this_words : T_Wd} {a1 : Int32} {a2 : Int32} (hrf : ∀ (v0 : T_Gr) (v1 : T_Nm) (v2 : T_Nd) (v3 : T_Wd) (v4 : Int32) (post : (Int32 → T_Gr × T_Nm × T_Nd × T_Wd → Prop)) (postT : (T_Gr × T_Nm × T_Nd × T_Wd → Prop)), rf v0 v1 v2 v3 v4 post postT → (∃ (w0 : Int32) (w1 : T_Gr × T_Nm × T_Nd × T_Wd), (∀ (post : (Int32 → T_Gr × T_Nm × T_Nd × T_Wd → Prop)) (postT : (T_Gr × T_Nm × T_Nd × T_Wd → Prop)), post w0 w1 → rf v0 v1 v2 v3 v4 post postT) ∧ (∀ (post : (Int32 → T_Gr × T_Nm × T_Nd × T_Wd → Prop)) (postT : (T_Gr × T_Nm × T_Nd × T_Wd → Prop)), rf v0 v1 v2 v3 v4 post postT → post w0 w1)) ∨ (∃ (w0 : T_Gr × T_Nm × T_Nd × T_Wd), (∀ (post : (Int32 → T_Gr × T_Nm × T_Nd × T_Wd → Prop)) (postT : (T_Gr × T_Nm × T_Nd × T_Wd → Prop)), postT w0 → rf v0 v1 v2 v3 v4 post postT) ∧ (∀ (post : (Int32 → T_Gr × T_Nm × T_Nd × T_Wd → Prop)) (postT : (T_Gr × T_Nm × T_Nd × T_Wd → Prop)), rf v0 v1 v2 v3 v4 post postT → postT w0))) {post : Unit → T_Gr × T_Nm × T_Nd × T_Wd → Prop} {postT : T_Gr × T_Nm × T_Nd × T_Wd → Prop} (h : wp_Gr_readSumOf rf z_this z_this_names z_this_nodes z_this_words a1 a2 post postT) : (∃ (w0 : Unit) (w1 : T_Gr × T_Nm × T_Nd × T_Wd), (∀ (post : Unit → T_Gr × T_Nm × T_Nd × T_Wd → Prop) (postT : T_Gr × T_Nm × T_Nd × T_Wd → Prop), post w0 w1 → wp_Gr_readSumOf rf z_this z_this_names z_this_nodes z_this_words a1 a2 post postT) ∧ (∀ (post : Unit → T_Gr × T_Nm × T_Nd × T_Wd → Prop) (postT : T_Gr × T_Nm × T_Nd × T_Wd → Prop), wp_Gr_readSumOf rf z_this z_this_names z_this_nodes z_this_words a1 a2 post postT → post w0 w1)) ∨ (∃ (w0 : T_Gr × T_Nm × T_Nd × T_Wd), (∀ (post : Unit → T_Gr × T_Nm × T_Nd × T_Wd → Prop) (postT : T_Gr × T_Nm × T_Nd × T_Wd → Prop), postT w0 → wp_Gr_readSumOf rf z_this z_this_names z_this_nodes z_this_words a1 a2 post postT) ∧ (∀ (post : Unit → T_Gr × T_Nm × T_Nd × T_Wd → Prop) (postT : T_Gr × T_Nm × T_Nd × T_Wd → Prop), wp_Gr_readSumOf rf z_this z_this_names z_this_nodes z_this_words a1 a2 post postT → postT w0)) := by
  unfold wp_Gr_readSumOf at h
  rcases dt_Gr_readSum hrf h with ⟨r1, u1, qa0, qb0⟩ | ⟨u, qa0, qb0⟩
  · replace h := qb0 _ _ h
    obtain ⟨r2, u2, qa1, qb1⟩ := dt_Nd_measureOf h
    replace h := qb1 _ h
    rcases br_el h with ⟨c2, h⟩ | ⟨c2, h⟩
    · exact Or.inl ⟨_, _, fun post postT q => (by unfold wp_Gr_readSumOf; exact (qa0 _ _ ((qa1 _ ((pT c2 (q))))))), fun post postT h => (by unfold wp_Gr_readSumOf at h; replace h := qb0 _ _ h; replace h := qb1 _ h; replace h := h.1 c2; exact h)⟩
    · obtain ⟨u, qa3, qb3⟩ := dt_Gr_refuse h
      replace h := qb3 _ h
      exact Or.inr (⟨_, fun post postT q => (by unfold wp_Gr_readSumOf; exact (qa0 _ _ ((qa1 _ ((pF c2 ((qa3 _ (q))))))))), fun post postT h => (by unfold wp_Gr_readSumOf at h; replace h := qb0 _ _ h; replace h := qb1 _ h; replace h := h.2 c2; replace h := qb3 _ h; exact h)⟩)
  · replace h := qb0 _ _ h
    exact Or.inr (⟨_, fun post postT q => (by unfold wp_Gr_readSumOf; exact (qa0 _ _ (q))), fun post postT h => (by unfold wp_Gr_readSumOf at h; replace h := qb0 _ _ h; exact h)⟩)
set_option maxHeartbeats 2000000 in
theorem dt_Gr_readBranches_L96 {d : Nat} {rf : T_Gr → T_Nm → T_Nd → T_Wd → Int32 → (Unit → T_Gr × T_Nm × T_Nd × T_Wd → Prop) → (T_Gr × T_Nm × T_Nd × T_Wd → Prop) → Prop} (hrf : ∀ (v0 : T_Gr) (v1 : T_Nm) (v2 : T_Nd) (v3 : T_Wd) (v4 : Int32) (post : (Unit → T_Gr × T_Nm × T_Nd × T_Wd → Prop)) (postT : (T_Gr × T_Nm × T_Nd × T_Wd → Prop)), rf v0 v1 v2 v3 v4 post postT → (∃ (w0 : Unit) (w1 : T_Gr × T_Nm × T_Nd × T_Wd), (∀ (post : (Unit → T_Gr × T_Nm × T_Nd × T_Wd → Prop)) (postT : (T_Gr × T_Nm × T_Nd × T_Wd → Prop)), post w0 w1 → rf v0 v1 v2 v3 v4 post postT) ∧ (∀ (post : (Unit → T_Gr × T_Nm × T_Nd × T_Wd → Prop)) (postT : (T_Gr × T_Nm × T_Nd × T_Wd → Prop)), rf v0 v1 v2 v3 v4 post postT → post w0 w1)) ∨ (∃ (w0 : T_Gr × T_Nm × T_Nd × T_Wd), (∀ (post : (Unit → T_Gr × T_Nm × T_Nd × T_Wd → Prop)) (postT : (T_Gr × T_Nm × T_Nd × T_Wd → Prop)), postT w0 → rf v0 v1 v2 v3 v4 post postT) ∧ (∀ (post : (Unit → T_Gr × T_Nm × T_Nd × T_Wd → Prop)) (postT : (T_Gr × T_Nm × T_Nd × T_Wd → Prop)), rf v0 v1 v2 v3 v4 post postT → postT w0))) : ∀ (n9 : Nat) (z_this : T_Gr) (z_this_names : T_Nm) (z_this_nodes : T_Nd) (z_this_words : T_Wd) (x1 : Int32) (x2 : Int32) (x3 : Int32) (K : T_Gr → T_Nm → T_Nd → T_Wd → Int32 → Int32 → Int32 → Prop) (post : Unit → T_Gr × T_Nm × T_Nd × T_Wd → Prop) (postT : T_Gr × T_Nm × T_Nd × T_Wd → Prop), wp_Gr_readBranches_L96 d rf K post postT n9 z_this z_this_names z_this_nodes z_this_words x1 x2 x3 → (∃ (w0 : T_Gr) (w1 : T_Nm) (w2 : T_Nd) (w3 : T_Wd) (w4 : Int32) (w5 : Int32) (w6 : Int32), (∀ (K : T_Gr → T_Nm → T_Nd → T_Wd → Int32 → Int32 → Int32 → Prop) (post : Unit → T_Gr × T_Nm × T_Nd × T_Wd → Prop) (postT : T_Gr × T_Nm × T_Nd × T_Wd → Prop), K w0 w1 w2 w3 w4 w5 w6 → wp_Gr_readBranches_L96 d rf K post postT n9 z_this z_this_names z_this_nodes z_this_words x1 x2 x3) ∧ (∀ (m9 : Nat) (K : T_Gr → T_Nm → T_Nd → T_Wd → Int32 → Int32 → Int32 → Prop) (post : Unit → T_Gr × T_Nm × T_Nd × T_Wd → Prop) (postT : T_Gr × T_Nm × T_Nd × T_Wd → Prop), wp_Gr_readBranches_L96 d rf K post postT m9 z_this z_this_names z_this_nodes z_this_words x1 x2 x3 → K w0 w1 w2 w3 w4 w5 w6)) ∨ (∃ (w0 : Unit) (w1 : T_Gr × T_Nm × T_Nd × T_Wd), (∀ (K : T_Gr → T_Nm → T_Nd → T_Wd → Int32 → Int32 → Int32 → Prop) (post : Unit → T_Gr × T_Nm × T_Nd × T_Wd → Prop) (postT : T_Gr × T_Nm × T_Nd × T_Wd → Prop), post w0 w1 → wp_Gr_readBranches_L96 d rf K post postT n9 z_this z_this_names z_this_nodes z_this_words x1 x2 x3) ∧ (∀ (m9 : Nat) (K : T_Gr → T_Nm → T_Nd → T_Wd → Int32 → Int32 → Int32 → Prop) (post : Unit → T_Gr × T_Nm × T_Nd × T_Wd → Prop) (postT : T_Gr × T_Nm × T_Nd × T_Wd → Prop), wp_Gr_readBranches_L96 d rf K post postT m9 z_this z_this_names z_this_nodes z_this_words x1 x2 x3 → post w0 w1)) ∨ (∃ (w0 : T_Gr × T_Nm × T_Nd × T_Wd), (∀ (K : T_Gr → T_Nm → T_Nd → T_Wd → Int32 → Int32 → Int32 → Prop) (post : Unit → T_Gr × T_Nm × T_Nd × T_Wd → Prop) (postT : T_Gr × T_Nm × T_Nd × T_Wd → Prop), postT w0 → wp_Gr_readBranches_L96 d rf K post postT n9 z_this z_this_names z_this_nodes z_this_words x1 x2 x3) ∧ (∀ (m9 : Nat) (K : T_Gr → T_Nm → T_Nd → T_Wd → Int32 → Int32 → Int32 → Prop) (post : Unit → T_Gr × T_Nm × T_Nd × T_Wd → Prop) (postT : T_Gr × T_Nm × T_Nd × T_Wd → Prop), wp_Gr_readBranches_L96 d rf K post postT m9 z_this z_this_names z_this_nodes z_this_words x1 x2 x3 → postT w0)) := by
  intro n9
  induction n9 with
  | zero => intro z_this z_this_names z_this_nodes z_this_words x1 x2 x3 K post postT h; exact False.elim h
  | succ n9 ih =>
    intro z_this z_this_names z_this_nodes z_this_words x1 x2 x3 K post postT h
    rw [wp_Gr_readBranches_L96] at h
    rcases br_el h with ⟨c0, h⟩ | ⟨c0, h⟩
    · exact Or.inl ⟨_, _, _, _, _, _, _, fun K post postT q => (by rw [wp_Gr_readBranches_L96]; exact (pT c0 (q))), fun m9 K post postT h => (by cases m9 with | zero => exact False.elim h | succ m9 => (rw [wp_Gr_readBranches_L96] at h; replace h := h.1 c0; exact h))⟩
    · rcases br_el h with ⟨c1, h⟩ | ⟨c1, h⟩
      · rcases hrf _ _ _ _ _ _ _ h with ⟨r3, u3, qa2, qb2⟩ | ⟨u, qa2, qb2⟩
        · replace h := qb2 _ _ h
          rcases ih _ _ _ _ _ _ _ _ _ _ h with ⟨w3_0, w3_1, w3_2, w3_3, w3_4, w3_5, w3_6, qa3, qb3⟩ | ⟨w3_0, w3_1, qa3, qb3⟩ | ⟨w3_0, qa3, qb3⟩
          · exact Or.inl ⟨_, _, _, _, _, _, _, fun K post postT q => (by rw [wp_Gr_readBranches_L96]; exact (pF c0 ((pT c1 ((qa2 _ _ ((qa3 _ _ _ (q))))))))), fun m9 K post postT h => (by cases m9 with | zero => exact False.elim h | succ m9 => (rw [wp_Gr_readBranches_L96] at h; replace h := h.2 c0; replace h := h.1 c1; replace h := qb2 _ _ h; replace h := qb3 m9 _ _ _ h; exact h))⟩
          · exact Or.inr (Or.inl ⟨_, _, fun K post postT q => (by rw [wp_Gr_readBranches_L96]; exact (pF c0 ((pT c1 ((qa2 _ _ ((qa3 _ _ _ (q))))))))), fun m9 K post postT h => (by cases m9 with | zero => exact False.elim h | succ m9 => (rw [wp_Gr_readBranches_L96] at h; replace h := h.2 c0; replace h := h.1 c1; replace h := qb2 _ _ h; replace h := qb3 m9 _ _ _ h; exact h))⟩)
          · exact Or.inr (Or.inr (⟨_, fun K post postT q => (by rw [wp_Gr_readBranches_L96]; exact (pF c0 ((pT c1 ((qa2 _ _ ((qa3 _ _ _ (q))))))))), fun m9 K post postT h => (by cases m9 with | zero => exact False.elim h | succ m9 => (rw [wp_Gr_readBranches_L96] at h; replace h := h.2 c0; replace h := h.1 c1; replace h := qb2 _ _ h; replace h := qb3 m9 _ _ _ h; exact h))⟩))
        · replace h := qb2 _ _ h
          exact Or.inr (Or.inr (⟨_, fun K post postT q => (by rw [wp_Gr_readBranches_L96]; exact (pF c0 ((pT c1 ((qa2 _ _ (q))))))), fun m9 K post postT h => (by cases m9 with | zero => exact False.elim h | succ m9 => (rw [wp_Gr_readBranches_L96] at h; replace h := h.2 c0; replace h := h.1 c1; replace h := qb2 _ _ h; exact h))⟩))
      · exact Or.inl ⟨_, _, _, _, _, _, _, fun K post postT q => (by rw [wp_Gr_readBranches_L96]; exact (pF c0 ((pF c1 (q))))), fun m9 K post postT h => (by cases m9 with | zero => exact False.elim h | succ m9 => (rw [wp_Gr_readBranches_L96] at h; replace h := h.2 c0; replace h := h.2 c1; exact h))⟩
set_option maxHeartbeats 2000000 in
theorem dt_Gr_readBranches {d : Nat} {rf : T_Gr → T_Nm → T_Nd → T_Wd → Int32 → (Unit → T_Gr × T_Nm × T_Nd × T_Wd → Prop) → (T_Gr × T_Nm × T_Nd × T_Wd → Prop) → Prop} {z_this : T_Gr} {z_this_names : T_Nm} {z_this_nodes : T_Nd} {z_this_words : T_Wd} {a1 : Int32} {a2 : Int32} (hrf : ∀ (v0 : T_Gr) (v1 : T_Nm) (v2 : T_Nd) (v3 : T_Wd) (v4 : Int32) (post : (Unit → T_Gr × T_Nm × T_Nd × T_Wd → Prop)) (postT : (T_Gr × T_Nm × T_Nd × T_Wd → Prop)), rf v0 v1 v2 v3 v4 post postT → (∃ (w0 : Unit) (w1 : T_Gr × T_Nm × T_Nd × T_Wd), (∀ (post : (Unit → T_Gr × T_Nm × T_Nd × T_Wd → Prop)) (postT : (T_Gr × T_Nm × T_Nd × T_Wd → Prop)), post w0 w1 → rf v0 v1 v2 v3 v4 post postT) ∧ (∀ (post : (Unit → T_Gr × T_Nm × T_Nd × T_Wd → Prop)) (postT : (T_Gr × T_Nm × T_Nd × T_Wd → Prop)), rf v0 v1 v2 v3 v4 post postT → post w0 w1)) ∨ (∃ (w0 : T_Gr × T_Nm × T_Nd × T_Wd), (∀ (post : (Unit → T_Gr × T_Nm × T_Nd × T_Wd → Prop)) (postT : (T_Gr × T_Nm × T_Nd × T_Wd → Prop)), postT w0 → rf v0 v1 v2 v3 v4 post postT) ∧ (∀ (post : (Unit → T_Gr × T_Nm × T_Nd × T_Wd → Prop)) (postT : (T_Gr × T_Nm × T_Nd × T_Wd → Prop)), rf v0 v1 v2 v3 v4 post postT → postT w0))) {post : Unit → T_Gr × T_Nm × T_Nd × T_Wd → Prop} {postT : T_Gr × T_Nm × T_Nd × T_Wd → Prop} (h : wp_Gr_readBranches d rf z_this z_this_names z_this_nodes z_this_words a1 a2 post postT) : (∃ (w0 : Unit) (w1 : T_Gr × T_Nm × T_Nd × T_Wd), (∀ (post : Unit → T_Gr × T_Nm × T_Nd × T_Wd → Prop) (postT : T_Gr × T_Nm × T_Nd × T_Wd → Prop), post w0 w1 → wp_Gr_readBranches d rf z_this z_this_names z_this_nodes z_this_words a1 a2 post postT) ∧ (∀ (post : Unit → T_Gr × T_Nm × T_Nd × T_Wd → Prop) (postT : T_Gr × T_Nm × T_Nd × T_Wd → Prop), wp_Gr_readBranches d rf z_this z_this_names z_this_nodes z_this_words a1 a2 post postT → post w0 w1)) ∨ (∃ (w0 : T_Gr × T_Nm × T_Nd × T_Wd), (∀ (post : Unit → T_Gr × T_Nm × T_Nd × T_Wd → Prop) (postT : T_Gr × T_Nm × T_Nd × T_Wd → Prop), postT w0 → wp_Gr_readBranches d rf z_this z_this_names z_this_nodes z_this_words a1 a2 post postT) ∧ (∀ (post : Unit → T_Gr × T_Nm × T_Nd × T_Wd → Prop) (postT : T_Gr × T_Nm × T_Nd × T_Wd → Prop), wp_Gr_readBranches d rf z_this z_this_names z_this_nodes z_this_words a1 a2 post postT → postT w0)) := by
  unfold wp_Gr_readBranches at h
  rcases br_el h with ⟨c0, h⟩ | ⟨c0, h⟩
  · rcases dt_Gr_readSumOf (dt_Gr_readFactor d) h with ⟨r17, u17, qa1, qb1⟩ | ⟨u, qa1, qb1⟩
    · replace h := qb1 _ _ h
      rcases hrf _ _ _ _ _ _ _ h with ⟨r18, u18, qa2, qb2⟩ | ⟨u, qa2, qb2⟩
      · replace h := qb2 _ _ h
        rcases br_el h with ⟨c3, h⟩ | ⟨c3, h⟩
        · rcases dt_Gr_take h with ⟨r23, u23, qa4, qb4⟩ | ⟨u, qa4, qb4⟩
          · replace h := qb4 _ _ h
            rcases hrf _ _ _ _ _ _ _ h with ⟨r24, u24, qa5, qb5⟩ | ⟨u, qa5, qb5⟩
            · replace h := qb5 _ _ h
              exact Or.inl ⟨_, _, fun post postT q => (by unfold wp_Gr_readBranches; exact (pT c0 ((qa1 _ _ ((qa2 _ _ ((pT c3 ((qa4 _ _ ((qa5 _ _ (q))))))))))))), fun post postT h => (by unfold wp_Gr_readBranches at h; replace h := h.1 c0; replace h := qb1 _ _ h; replace h := qb2 _ _ h; replace h := h.1 c3; replace h := qb4 _ _ h; replace h := qb5 _ _ h; exact h)⟩
            · replace h := qb5 _ _ h
              exact Or.inr (⟨_, fun post postT q => (by unfold wp_Gr_readBranches; exact (pT c0 ((qa1 _ _ ((qa2 _ _ ((pT c3 ((qa4 _ _ ((qa5 _ _ (q))))))))))))), fun post postT h => (by unfold wp_Gr_readBranches at h; replace h := h.1 c0; replace h := qb1 _ _ h; replace h := qb2 _ _ h; replace h := h.1 c3; replace h := qb4 _ _ h; replace h := qb5 _ _ h; exact h)⟩)
          · replace h := qb4 _ _ h
            exact Or.inr (⟨_, fun post postT q => (by unfold wp_Gr_readBranches; exact (pT c0 ((qa1 _ _ ((qa2 _ _ ((pT c3 ((qa4 _ _ (q))))))))))), fun post postT h => (by unfold wp_Gr_readBranches at h; replace h := h.1 c0; replace h := qb1 _ _ h; replace h := qb2 _ _ h; replace h := h.1 c3; replace h := qb4 _ _ h; exact h)⟩)
        · rcases br_el h with ⟨c4, h⟩ | ⟨c4, h⟩
          · rcases br_el h with ⟨c5, h⟩ | ⟨c5, h⟩
            · rcases dt_Gr_pass h with ⟨r21, u21, qa6, qb6⟩ | ⟨u, qa6, qb6⟩
              · replace h := qb6 _ _ h
                rcases hrf _ _ _ _ _ _ _ h with ⟨r22, u22, qa7, qb7⟩ | ⟨u, qa7, qb7⟩
                · replace h := qb7 _ _ h
                  exact Or.inl ⟨_, _, fun post postT q => (by unfold wp_Gr_readBranches; exact (pT c0 ((qa1 _ _ ((qa2 _ _ ((pF c3 ((pT c4 ((pT c5 ((qa6 _ _ ((qa7 _ _ (q))))))))))))))))), fun post postT h => (by unfold wp_Gr_readBranches at h; replace h := h.1 c0; replace h := qb1 _ _ h; replace h := qb2 _ _ h; replace h := h.2 c3; replace h := h.1 c4; replace h := h.1 c5; replace h := qb6 _ _ h; replace h := qb7 _ _ h; exact h)⟩
                · replace h := qb7 _ _ h
                  exact Or.inr (⟨_, fun post postT q => (by unfold wp_Gr_readBranches; exact (pT c0 ((qa1 _ _ ((qa2 _ _ ((pF c3 ((pT c4 ((pT c5 ((qa6 _ _ ((qa7 _ _ (q))))))))))))))))), fun post postT h => (by unfold wp_Gr_readBranches at h; replace h := h.1 c0; replace h := qb1 _ _ h; replace h := qb2 _ _ h; replace h := h.2 c3; replace h := h.1 c4; replace h := h.1 c5; replace h := qb6 _ _ h; replace h := qb7 _ _ h; exact h)⟩)
              · replace h := qb6 _ _ h
                exact Or.inr (⟨_, fun post postT q => (by unfold wp_Gr_readBranches; exact (pT c0 ((qa1 _ _ ((qa2 _ _ ((pF c3 ((pT c4 ((pT c5 ((qa6 _ _ (q))))))))))))))), fun post postT h => (by unfold wp_Gr_readBranches at h; replace h := h.1 c0; replace h := qb1 _ _ h; replace h := qb2 _ _ h; replace h := h.2 c3; replace h := h.1 c4; replace h := h.1 c5; replace h := qb6 _ _ h; exact h)⟩)
            · rcases br_el h with ⟨c6, h⟩ | ⟨c6, h⟩
              · rcases hrf _ _ _ _ _ _ _ h with ⟨r20, u20, qa7, qb7⟩ | ⟨u, qa7, qb7⟩
                · replace h := qb7 _ _ h
                  obtain ⟨k8, h⟩ := h
                  rcases dt_Gr_readBranches_L96 hrf k8 _ _ _ _ _ _ _ _ _ _ h with ⟨z_this, z_this_names, z_this_nodes, z_this_words, x1, x2, x3, qa8, qb8⟩ | ⟨w8_0, w8_1, qa8, qb8⟩ | ⟨w8_0, qa8, qb8⟩
                  · replace h := qb8 k8 _ _ _ h
                    exact Or.inl ⟨_, _, fun post postT q => (by unfold wp_Gr_readBranches; exact (pT c0 ((qa1 _ _ ((qa2 _ _ ((pF c3 ((pT c4 ((pF c5 ((pT c6 ((qa7 _ _ (⟨k8, (qa8 _ _ _ (q))⟩))))))))))))))))), fun post postT h => (by unfold wp_Gr_readBranches at h; replace h := h.1 c0; replace h := qb1 _ _ h; replace h := qb2 _ _ h; replace h := h.2 c3; replace h := h.1 c4; replace h := h.2 c5; replace h := h.1 c6; replace h := qb7 _ _ h; obtain ⟨m8, h⟩ := h; replace h := qb8 m8 _ _ _ h; exact h)⟩
                  · exact Or.inl ⟨_, _, fun post postT q => (by unfold wp_Gr_readBranches; exact (pT c0 ((qa1 _ _ ((qa2 _ _ ((pF c3 ((pT c4 ((pF c5 ((pT c6 ((qa7 _ _ (⟨k8, (qa8 _ _ _ (q))⟩))))))))))))))))), fun post postT h => (by unfold wp_Gr_readBranches at h; replace h := h.1 c0; replace h := qb1 _ _ h; replace h := qb2 _ _ h; replace h := h.2 c3; replace h := h.1 c4; replace h := h.2 c5; replace h := h.1 c6; replace h := qb7 _ _ h; obtain ⟨m8, h⟩ := h; replace h := qb8 m8 _ _ _ h; exact h)⟩
                  · exact Or.inr (⟨_, fun post postT q => (by unfold wp_Gr_readBranches; exact (pT c0 ((qa1 _ _ ((qa2 _ _ ((pF c3 ((pT c4 ((pF c5 ((pT c6 ((qa7 _ _ (⟨k8, (qa8 _ _ _ (q))⟩))))))))))))))))), fun post postT h => (by unfold wp_Gr_readBranches at h; replace h := h.1 c0; replace h := qb1 _ _ h; replace h := qb2 _ _ h; replace h := h.2 c3; replace h := h.1 c4; replace h := h.2 c5; replace h := h.1 c6; replace h := qb7 _ _ h; obtain ⟨m8, h⟩ := h; replace h := qb8 m8 _ _ _ h; exact h)⟩)
                · replace h := qb7 _ _ h
                  exact Or.inr (⟨_, fun post postT q => (by unfold wp_Gr_readBranches; exact (pT c0 ((qa1 _ _ ((qa2 _ _ ((pF c3 ((pT c4 ((pF c5 ((pT c6 ((qa7 _ _ (q))))))))))))))))), fun post postT h => (by unfold wp_Gr_readBranches at h; replace h := h.1 c0; replace h := qb1 _ _ h; replace h := qb2 _ _ h; replace h := h.2 c3; replace h := h.1 c4; replace h := h.2 c5; replace h := h.1 c6; replace h := qb7 _ _ h; exact h)⟩)
              · exact Or.inl ⟨_, _, fun post postT q => (by unfold wp_Gr_readBranches; exact (pT c0 ((qa1 _ _ ((qa2 _ _ ((pF c3 ((pT c4 ((pF c5 ((pF c6 (q))))))))))))))), fun post postT h => (by unfold wp_Gr_readBranches at h; replace h := h.1 c0; replace h := qb1 _ _ h; replace h := qb2 _ _ h; replace h := h.2 c3; replace h := h.1 c4; replace h := h.2 c5; replace h := h.2 c6; exact h)⟩
          · rcases br_el h with ⟨c5, h⟩ | ⟨c5, h⟩
            · rcases hrf _ _ _ _ _ _ _ h with ⟨r19, u19, qa6, qb6⟩ | ⟨u, qa6, qb6⟩
              · replace h := qb6 _ _ h
                obtain ⟨k7, h⟩ := h
                rcases dt_Gr_readBranches_L96 hrf k7 _ _ _ _ _ _ _ _ _ _ h with ⟨z_this, z_this_names, z_this_nodes, z_this_words, x1, x2, x3, qa7, qb7⟩ | ⟨w7_0, w7_1, qa7, qb7⟩ | ⟨w7_0, qa7, qb7⟩
                · replace h := qb7 k7 _ _ _ h
                  exact Or.inl ⟨_, _, fun post postT q => (by unfold wp_Gr_readBranches; exact (pT c0 ((qa1 _ _ ((qa2 _ _ ((pF c3 ((pF c4 ((pT c5 ((qa6 _ _ (⟨k7, (qa7 _ _ _ (q))⟩))))))))))))))), fun post postT h => (by unfold wp_Gr_readBranches at h; replace h := h.1 c0; replace h := qb1 _ _ h; replace h := qb2 _ _ h; replace h := h.2 c3; replace h := h.2 c4; replace h := h.1 c5; replace h := qb6 _ _ h; obtain ⟨m7, h⟩ := h; replace h := qb7 m7 _ _ _ h; exact h)⟩
                · exact Or.inl ⟨_, _, fun post postT q => (by unfold wp_Gr_readBranches; exact (pT c0 ((qa1 _ _ ((qa2 _ _ ((pF c3 ((pF c4 ((pT c5 ((qa6 _ _ (⟨k7, (qa7 _ _ _ (q))⟩))))))))))))))), fun post postT h => (by unfold wp_Gr_readBranches at h; replace h := h.1 c0; replace h := qb1 _ _ h; replace h := qb2 _ _ h; replace h := h.2 c3; replace h := h.2 c4; replace h := h.1 c5; replace h := qb6 _ _ h; obtain ⟨m7, h⟩ := h; replace h := qb7 m7 _ _ _ h; exact h)⟩
                · exact Or.inr (⟨_, fun post postT q => (by unfold wp_Gr_readBranches; exact (pT c0 ((qa1 _ _ ((qa2 _ _ ((pF c3 ((pF c4 ((pT c5 ((qa6 _ _ (⟨k7, (qa7 _ _ _ (q))⟩))))))))))))))), fun post postT h => (by unfold wp_Gr_readBranches at h; replace h := h.1 c0; replace h := qb1 _ _ h; replace h := qb2 _ _ h; replace h := h.2 c3; replace h := h.2 c4; replace h := h.1 c5; replace h := qb6 _ _ h; obtain ⟨m7, h⟩ := h; replace h := qb7 m7 _ _ _ h; exact h)⟩)
              · replace h := qb6 _ _ h
                exact Or.inr (⟨_, fun post postT q => (by unfold wp_Gr_readBranches; exact (pT c0 ((qa1 _ _ ((qa2 _ _ ((pF c3 ((pF c4 ((pT c5 ((qa6 _ _ (q))))))))))))))), fun post postT h => (by unfold wp_Gr_readBranches at h; replace h := h.1 c0; replace h := qb1 _ _ h; replace h := qb2 _ _ h; replace h := h.2 c3; replace h := h.2 c4; replace h := h.1 c5; replace h := qb6 _ _ h; exact h)⟩)
            · exact Or.inl ⟨_, _, fun post postT q => (by unfold wp_Gr_readBranches; exact (pT c0 ((qa1 _ _ ((qa2 _ _ ((pF c3 ((pF c4 ((pF c5 (q))))))))))))), fun post postT h => (by unfold wp_Gr_readBranches at h; replace h := h.1 c0; replace h := qb1 _ _ h; replace h := qb2 _ _ h; replace h := h.2 c3; replace h := h.2 c4; replace h := h.2 c5; exact h)⟩
      · replace h := qb2 _ _ h
        exact Or.inr (⟨_, fun post postT q => (by unfold wp_Gr_readBranches; exact (pT c0 ((qa1 _ _ ((qa2 _ _ (q))))))), fun post postT h => (by unfold wp_Gr_readBranches at h; replace h := h.1 c0; replace h := qb1 _ _ h; replace h := qb2 _ _ h; exact h)⟩)
    · replace h := qb1 _ _ h
      exact Or.inr (⟨_, fun post postT q => (by unfold wp_Gr_readBranches; exact (pT c0 ((qa1 _ _ (q))))), fun post postT h => (by unfold wp_Gr_readBranches at h; replace h := h.1 c0; replace h := qb1 _ _ h; exact h)⟩)
  · rcases br_el h with ⟨c1, h⟩ | ⟨c1, h⟩
    · rcases hrf _ _ _ _ _ _ _ h with ⟨r1, u1, qa2, qb2⟩ | ⟨u, qa2, qb2⟩
      · replace h := qb2 _ _ h
        rcases br_el h with ⟨c3, h⟩ | ⟨c3, h⟩
        · rcases dt_Gr_take h with ⟨r7, u7, qa4, qb4⟩ | ⟨u, qa4, qb4⟩
          · replace h := qb4 _ _ h
            rcases hrf _ _ _ _ _ _ _ h with ⟨r8, u8, qa5, qb5⟩ | ⟨u, qa5, qb5⟩
            · replace h := qb5 _ _ h
              exact Or.inl ⟨_, _, fun post postT q => (by unfold wp_Gr_readBranches; exact (pF c0 ((pT c1 ((qa2 _ _ ((pT c3 ((qa4 _ _ ((qa5 _ _ (q))))))))))))), fun post postT h => (by unfold wp_Gr_readBranches at h; replace h := h.2 c0; replace h := h.1 c1; replace h := qb2 _ _ h; replace h := h.1 c3; replace h := qb4 _ _ h; replace h := qb5 _ _ h; exact h)⟩
            · replace h := qb5 _ _ h
              exact Or.inr (⟨_, fun post postT q => (by unfold wp_Gr_readBranches; exact (pF c0 ((pT c1 ((qa2 _ _ ((pT c3 ((qa4 _ _ ((qa5 _ _ (q))))))))))))), fun post postT h => (by unfold wp_Gr_readBranches at h; replace h := h.2 c0; replace h := h.1 c1; replace h := qb2 _ _ h; replace h := h.1 c3; replace h := qb4 _ _ h; replace h := qb5 _ _ h; exact h)⟩)
          · replace h := qb4 _ _ h
            exact Or.inr (⟨_, fun post postT q => (by unfold wp_Gr_readBranches; exact (pF c0 ((pT c1 ((qa2 _ _ ((pT c3 ((qa4 _ _ (q))))))))))), fun post postT h => (by unfold wp_Gr_readBranches at h; replace h := h.2 c0; replace h := h.1 c1; replace h := qb2 _ _ h; replace h := h.1 c3; replace h := qb4 _ _ h; exact h)⟩)
        · rcases br_el h with ⟨c4, h⟩ | ⟨c4, h⟩
          · rcases br_el h with ⟨c5, h⟩ | ⟨c5, h⟩
            · rcases dt_Gr_pass h with ⟨r5, u5, qa6, qb6⟩ | ⟨u, qa6, qb6⟩
              · replace h := qb6 _ _ h
                rcases hrf _ _ _ _ _ _ _ h with ⟨r6, u6, qa7, qb7⟩ | ⟨u, qa7, qb7⟩
                · replace h := qb7 _ _ h
                  exact Or.inl ⟨_, _, fun post postT q => (by unfold wp_Gr_readBranches; exact (pF c0 ((pT c1 ((qa2 _ _ ((pF c3 ((pT c4 ((pT c5 ((qa6 _ _ ((qa7 _ _ (q))))))))))))))))), fun post postT h => (by unfold wp_Gr_readBranches at h; replace h := h.2 c0; replace h := h.1 c1; replace h := qb2 _ _ h; replace h := h.2 c3; replace h := h.1 c4; replace h := h.1 c5; replace h := qb6 _ _ h; replace h := qb7 _ _ h; exact h)⟩
                · replace h := qb7 _ _ h
                  exact Or.inr (⟨_, fun post postT q => (by unfold wp_Gr_readBranches; exact (pF c0 ((pT c1 ((qa2 _ _ ((pF c3 ((pT c4 ((pT c5 ((qa6 _ _ ((qa7 _ _ (q))))))))))))))))), fun post postT h => (by unfold wp_Gr_readBranches at h; replace h := h.2 c0; replace h := h.1 c1; replace h := qb2 _ _ h; replace h := h.2 c3; replace h := h.1 c4; replace h := h.1 c5; replace h := qb6 _ _ h; replace h := qb7 _ _ h; exact h)⟩)
              · replace h := qb6 _ _ h
                exact Or.inr (⟨_, fun post postT q => (by unfold wp_Gr_readBranches; exact (pF c0 ((pT c1 ((qa2 _ _ ((pF c3 ((pT c4 ((pT c5 ((qa6 _ _ (q))))))))))))))), fun post postT h => (by unfold wp_Gr_readBranches at h; replace h := h.2 c0; replace h := h.1 c1; replace h := qb2 _ _ h; replace h := h.2 c3; replace h := h.1 c4; replace h := h.1 c5; replace h := qb6 _ _ h; exact h)⟩)
            · rcases br_el h with ⟨c6, h⟩ | ⟨c6, h⟩
              · rcases hrf _ _ _ _ _ _ _ h with ⟨r4, u4, qa7, qb7⟩ | ⟨u, qa7, qb7⟩
                · replace h := qb7 _ _ h
                  obtain ⟨k8, h⟩ := h
                  rcases dt_Gr_readBranches_L96 hrf k8 _ _ _ _ _ _ _ _ _ _ h with ⟨z_this, z_this_names, z_this_nodes, z_this_words, x1, x2, x3, qa8, qb8⟩ | ⟨w8_0, w8_1, qa8, qb8⟩ | ⟨w8_0, qa8, qb8⟩
                  · replace h := qb8 k8 _ _ _ h
                    exact Or.inl ⟨_, _, fun post postT q => (by unfold wp_Gr_readBranches; exact (pF c0 ((pT c1 ((qa2 _ _ ((pF c3 ((pT c4 ((pF c5 ((pT c6 ((qa7 _ _ (⟨k8, (qa8 _ _ _ (q))⟩))))))))))))))))), fun post postT h => (by unfold wp_Gr_readBranches at h; replace h := h.2 c0; replace h := h.1 c1; replace h := qb2 _ _ h; replace h := h.2 c3; replace h := h.1 c4; replace h := h.2 c5; replace h := h.1 c6; replace h := qb7 _ _ h; obtain ⟨m8, h⟩ := h; replace h := qb8 m8 _ _ _ h; exact h)⟩
                  · exact Or.inl ⟨_, _, fun post postT q => (by unfold wp_Gr_readBranches; exact (pF c0 ((pT c1 ((qa2 _ _ ((pF c3 ((pT c4 ((pF c5 ((pT c6 ((qa7 _ _ (⟨k8, (qa8 _ _ _ (q))⟩))))))))))))))))), fun post postT h => (by unfold wp_Gr_readBranches at h; replace h := h.2 c0; replace h := h.1 c1; replace h := qb2 _ _ h; replace h := h.2 c3; replace h := h.1 c4; replace h := h.2 c5; replace h := h.1 c6; replace h := qb7 _ _ h; obtain ⟨m8, h⟩ := h; replace h := qb8 m8 _ _ _ h; exact h)⟩
                  · exact Or.inr (⟨_, fun post postT q => (by unfold wp_Gr_readBranches; exact (pF c0 ((pT c1 ((qa2 _ _ ((pF c3 ((pT c4 ((pF c5 ((pT c6 ((qa7 _ _ (⟨k8, (qa8 _ _ _ (q))⟩))))))))))))))))), fun post postT h => (by unfold wp_Gr_readBranches at h; replace h := h.2 c0; replace h := h.1 c1; replace h := qb2 _ _ h; replace h := h.2 c3; replace h := h.1 c4; replace h := h.2 c5; replace h := h.1 c6; replace h := qb7 _ _ h; obtain ⟨m8, h⟩ := h; replace h := qb8 m8 _ _ _ h; exact h)⟩)
                · replace h := qb7 _ _ h
                  exact Or.inr (⟨_, fun post postT q => (by unfold wp_Gr_readBranches; exact (pF c0 ((pT c1 ((qa2 _ _ ((pF c3 ((pT c4 ((pF c5 ((pT c6 ((qa7 _ _ (q))))))))))))))))), fun post postT h => (by unfold wp_Gr_readBranches at h; replace h := h.2 c0; replace h := h.1 c1; replace h := qb2 _ _ h; replace h := h.2 c3; replace h := h.1 c4; replace h := h.2 c5; replace h := h.1 c6; replace h := qb7 _ _ h; exact h)⟩)
              · exact Or.inl ⟨_, _, fun post postT q => (by unfold wp_Gr_readBranches; exact (pF c0 ((pT c1 ((qa2 _ _ ((pF c3 ((pT c4 ((pF c5 ((pF c6 (q))))))))))))))), fun post postT h => (by unfold wp_Gr_readBranches at h; replace h := h.2 c0; replace h := h.1 c1; replace h := qb2 _ _ h; replace h := h.2 c3; replace h := h.1 c4; replace h := h.2 c5; replace h := h.2 c6; exact h)⟩
          · rcases br_el h with ⟨c5, h⟩ | ⟨c5, h⟩
            · rcases hrf _ _ _ _ _ _ _ h with ⟨r2, u2, qa6, qb6⟩ | ⟨u, qa6, qb6⟩
              · replace h := qb6 _ _ h
                obtain ⟨k7, h⟩ := h
                rcases dt_Gr_readBranches_L96 hrf k7 _ _ _ _ _ _ _ _ _ _ h with ⟨z_this, z_this_names, z_this_nodes, z_this_words, x1, x2, x3, qa7, qb7⟩ | ⟨w7_0, w7_1, qa7, qb7⟩ | ⟨w7_0, qa7, qb7⟩
                · replace h := qb7 k7 _ _ _ h
                  exact Or.inl ⟨_, _, fun post postT q => (by unfold wp_Gr_readBranches; exact (pF c0 ((pT c1 ((qa2 _ _ ((pF c3 ((pF c4 ((pT c5 ((qa6 _ _ (⟨k7, (qa7 _ _ _ (q))⟩))))))))))))))), fun post postT h => (by unfold wp_Gr_readBranches at h; replace h := h.2 c0; replace h := h.1 c1; replace h := qb2 _ _ h; replace h := h.2 c3; replace h := h.2 c4; replace h := h.1 c5; replace h := qb6 _ _ h; obtain ⟨m7, h⟩ := h; replace h := qb7 m7 _ _ _ h; exact h)⟩
                · exact Or.inl ⟨_, _, fun post postT q => (by unfold wp_Gr_readBranches; exact (pF c0 ((pT c1 ((qa2 _ _ ((pF c3 ((pF c4 ((pT c5 ((qa6 _ _ (⟨k7, (qa7 _ _ _ (q))⟩))))))))))))))), fun post postT h => (by unfold wp_Gr_readBranches at h; replace h := h.2 c0; replace h := h.1 c1; replace h := qb2 _ _ h; replace h := h.2 c3; replace h := h.2 c4; replace h := h.1 c5; replace h := qb6 _ _ h; obtain ⟨m7, h⟩ := h; replace h := qb7 m7 _ _ _ h; exact h)⟩
                · exact Or.inr (⟨_, fun post postT q => (by unfold wp_Gr_readBranches; exact (pF c0 ((pT c1 ((qa2 _ _ ((pF c3 ((pF c4 ((pT c5 ((qa6 _ _ (⟨k7, (qa7 _ _ _ (q))⟩))))))))))))))), fun post postT h => (by unfold wp_Gr_readBranches at h; replace h := h.2 c0; replace h := h.1 c1; replace h := qb2 _ _ h; replace h := h.2 c3; replace h := h.2 c4; replace h := h.1 c5; replace h := qb6 _ _ h; obtain ⟨m7, h⟩ := h; replace h := qb7 m7 _ _ _ h; exact h)⟩)
              · replace h := qb6 _ _ h
                exact Or.inr (⟨_, fun post postT q => (by unfold wp_Gr_readBranches; exact (pF c0 ((pT c1 ((qa2 _ _ ((pF c3 ((pF c4 ((pT c5 ((qa6 _ _ (q))))))))))))))), fun post postT h => (by unfold wp_Gr_readBranches at h; replace h := h.2 c0; replace h := h.1 c1; replace h := qb2 _ _ h; replace h := h.2 c3; replace h := h.2 c4; replace h := h.1 c5; replace h := qb6 _ _ h; exact h)⟩)
            · exact Or.inl ⟨_, _, fun post postT q => (by unfold wp_Gr_readBranches; exact (pF c0 ((pT c1 ((qa2 _ _ ((pF c3 ((pF c4 ((pF c5 (q))))))))))))), fun post postT h => (by unfold wp_Gr_readBranches at h; replace h := h.2 c0; replace h := h.1 c1; replace h := qb2 _ _ h; replace h := h.2 c3; replace h := h.2 c4; replace h := h.2 c5; exact h)⟩
      · replace h := qb2 _ _ h
        exact Or.inr (⟨_, fun post postT q => (by unfold wp_Gr_readBranches; exact (pF c0 ((pT c1 ((qa2 _ _ (q))))))), fun post postT h => (by unfold wp_Gr_readBranches at h; replace h := h.2 c0; replace h := h.1 c1; replace h := qb2 _ _ h; exact h)⟩)
    · rcases dt_Gr_readTest (dt_Gr_readFactor d) h with ⟨r9, u9, qa2, qb2⟩ | ⟨u, qa2, qb2⟩
      · replace h := qb2 _ _ h
        rcases hrf _ _ _ _ _ _ _ h with ⟨r10, u10, qa3, qb3⟩ | ⟨u, qa3, qb3⟩
        · replace h := qb3 _ _ h
          rcases br_el h with ⟨c4, h⟩ | ⟨c4, h⟩
          · rcases dt_Gr_take h with ⟨r15, u15, qa5, qb5⟩ | ⟨u, qa5, qb5⟩
            · replace h := qb5 _ _ h
              rcases hrf _ _ _ _ _ _ _ h with ⟨r16, u16, qa6, qb6⟩ | ⟨u, qa6, qb6⟩
              · replace h := qb6 _ _ h
                exact Or.inl ⟨_, _, fun post postT q => (by unfold wp_Gr_readBranches; exact (pF c0 ((pF c1 ((qa2 _ _ ((qa3 _ _ ((pT c4 ((qa5 _ _ ((qa6 _ _ (q))))))))))))))), fun post postT h => (by unfold wp_Gr_readBranches at h; replace h := h.2 c0; replace h := h.2 c1; replace h := qb2 _ _ h; replace h := qb3 _ _ h; replace h := h.1 c4; replace h := qb5 _ _ h; replace h := qb6 _ _ h; exact h)⟩
              · replace h := qb6 _ _ h
                exact Or.inr (⟨_, fun post postT q => (by unfold wp_Gr_readBranches; exact (pF c0 ((pF c1 ((qa2 _ _ ((qa3 _ _ ((pT c4 ((qa5 _ _ ((qa6 _ _ (q))))))))))))))), fun post postT h => (by unfold wp_Gr_readBranches at h; replace h := h.2 c0; replace h := h.2 c1; replace h := qb2 _ _ h; replace h := qb3 _ _ h; replace h := h.1 c4; replace h := qb5 _ _ h; replace h := qb6 _ _ h; exact h)⟩)
            · replace h := qb5 _ _ h
              exact Or.inr (⟨_, fun post postT q => (by unfold wp_Gr_readBranches; exact (pF c0 ((pF c1 ((qa2 _ _ ((qa3 _ _ ((pT c4 ((qa5 _ _ (q))))))))))))), fun post postT h => (by unfold wp_Gr_readBranches at h; replace h := h.2 c0; replace h := h.2 c1; replace h := qb2 _ _ h; replace h := qb3 _ _ h; replace h := h.1 c4; replace h := qb5 _ _ h; exact h)⟩)
          · rcases br_el h with ⟨c5, h⟩ | ⟨c5, h⟩
            · rcases br_el h with ⟨c6, h⟩ | ⟨c6, h⟩
              · rcases dt_Gr_pass h with ⟨r13, u13, qa7, qb7⟩ | ⟨u, qa7, qb7⟩
                · replace h := qb7 _ _ h
                  rcases hrf _ _ _ _ _ _ _ h with ⟨r14, u14, qa8, qb8⟩ | ⟨u, qa8, qb8⟩
                  · replace h := qb8 _ _ h
                    exact Or.inl ⟨_, _, fun post postT q => (by unfold wp_Gr_readBranches; exact (pF c0 ((pF c1 ((qa2 _ _ ((qa3 _ _ ((pF c4 ((pT c5 ((pT c6 ((qa7 _ _ ((qa8 _ _ (q))))))))))))))))))), fun post postT h => (by unfold wp_Gr_readBranches at h; replace h := h.2 c0; replace h := h.2 c1; replace h := qb2 _ _ h; replace h := qb3 _ _ h; replace h := h.2 c4; replace h := h.1 c5; replace h := h.1 c6; replace h := qb7 _ _ h; replace h := qb8 _ _ h; exact h)⟩
                  · replace h := qb8 _ _ h
                    exact Or.inr (⟨_, fun post postT q => (by unfold wp_Gr_readBranches; exact (pF c0 ((pF c1 ((qa2 _ _ ((qa3 _ _ ((pF c4 ((pT c5 ((pT c6 ((qa7 _ _ ((qa8 _ _ (q))))))))))))))))))), fun post postT h => (by unfold wp_Gr_readBranches at h; replace h := h.2 c0; replace h := h.2 c1; replace h := qb2 _ _ h; replace h := qb3 _ _ h; replace h := h.2 c4; replace h := h.1 c5; replace h := h.1 c6; replace h := qb7 _ _ h; replace h := qb8 _ _ h; exact h)⟩)
                · replace h := qb7 _ _ h
                  exact Or.inr (⟨_, fun post postT q => (by unfold wp_Gr_readBranches; exact (pF c0 ((pF c1 ((qa2 _ _ ((qa3 _ _ ((pF c4 ((pT c5 ((pT c6 ((qa7 _ _ (q))))))))))))))))), fun post postT h => (by unfold wp_Gr_readBranches at h; replace h := h.2 c0; replace h := h.2 c1; replace h := qb2 _ _ h; replace h := qb3 _ _ h; replace h := h.2 c4; replace h := h.1 c5; replace h := h.1 c6; replace h := qb7 _ _ h; exact h)⟩)
              · rcases br_el h with ⟨c7, h⟩ | ⟨c7, h⟩
                · rcases hrf _ _ _ _ _ _ _ h with ⟨r12, u12, qa8, qb8⟩ | ⟨u, qa8, qb8⟩
                  · replace h := qb8 _ _ h
                    obtain ⟨k9, h⟩ := h
                    rcases dt_Gr_readBranches_L96 hrf k9 _ _ _ _ _ _ _ _ _ _ h with ⟨z_this, z_this_names, z_this_nodes, z_this_words, x1, x2, x3, qa9, qb9⟩ | ⟨w9_0, w9_1, qa9, qb9⟩ | ⟨w9_0, qa9, qb9⟩
                    · replace h := qb9 k9 _ _ _ h
                      exact Or.inl ⟨_, _, fun post postT q => (by unfold wp_Gr_readBranches; exact (pF c0 ((pF c1 ((qa2 _ _ ((qa3 _ _ ((pF c4 ((pT c5 ((pF c6 ((pT c7 ((qa8 _ _ (⟨k9, (qa9 _ _ _ (q))⟩))))))))))))))))))), fun post postT h => (by unfold wp_Gr_readBranches at h; replace h := h.2 c0; replace h := h.2 c1; replace h := qb2 _ _ h; replace h := qb3 _ _ h; replace h := h.2 c4; replace h := h.1 c5; replace h := h.2 c6; replace h := h.1 c7; replace h := qb8 _ _ h; obtain ⟨m9, h⟩ := h; replace h := qb9 m9 _ _ _ h; exact h)⟩
                    · exact Or.inl ⟨_, _, fun post postT q => (by unfold wp_Gr_readBranches; exact (pF c0 ((pF c1 ((qa2 _ _ ((qa3 _ _ ((pF c4 ((pT c5 ((pF c6 ((pT c7 ((qa8 _ _ (⟨k9, (qa9 _ _ _ (q))⟩))))))))))))))))))), fun post postT h => (by unfold wp_Gr_readBranches at h; replace h := h.2 c0; replace h := h.2 c1; replace h := qb2 _ _ h; replace h := qb3 _ _ h; replace h := h.2 c4; replace h := h.1 c5; replace h := h.2 c6; replace h := h.1 c7; replace h := qb8 _ _ h; obtain ⟨m9, h⟩ := h; replace h := qb9 m9 _ _ _ h; exact h)⟩
                    · exact Or.inr (⟨_, fun post postT q => (by unfold wp_Gr_readBranches; exact (pF c0 ((pF c1 ((qa2 _ _ ((qa3 _ _ ((pF c4 ((pT c5 ((pF c6 ((pT c7 ((qa8 _ _ (⟨k9, (qa9 _ _ _ (q))⟩))))))))))))))))))), fun post postT h => (by unfold wp_Gr_readBranches at h; replace h := h.2 c0; replace h := h.2 c1; replace h := qb2 _ _ h; replace h := qb3 _ _ h; replace h := h.2 c4; replace h := h.1 c5; replace h := h.2 c6; replace h := h.1 c7; replace h := qb8 _ _ h; obtain ⟨m9, h⟩ := h; replace h := qb9 m9 _ _ _ h; exact h)⟩)
                  · replace h := qb8 _ _ h
                    exact Or.inr (⟨_, fun post postT q => (by unfold wp_Gr_readBranches; exact (pF c0 ((pF c1 ((qa2 _ _ ((qa3 _ _ ((pF c4 ((pT c5 ((pF c6 ((pT c7 ((qa8 _ _ (q))))))))))))))))))), fun post postT h => (by unfold wp_Gr_readBranches at h; replace h := h.2 c0; replace h := h.2 c1; replace h := qb2 _ _ h; replace h := qb3 _ _ h; replace h := h.2 c4; replace h := h.1 c5; replace h := h.2 c6; replace h := h.1 c7; replace h := qb8 _ _ h; exact h)⟩)
                · exact Or.inl ⟨_, _, fun post postT q => (by unfold wp_Gr_readBranches; exact (pF c0 ((pF c1 ((qa2 _ _ ((qa3 _ _ ((pF c4 ((pT c5 ((pF c6 ((pF c7 (q))))))))))))))))), fun post postT h => (by unfold wp_Gr_readBranches at h; replace h := h.2 c0; replace h := h.2 c1; replace h := qb2 _ _ h; replace h := qb3 _ _ h; replace h := h.2 c4; replace h := h.1 c5; replace h := h.2 c6; replace h := h.2 c7; exact h)⟩
            · rcases br_el h with ⟨c6, h⟩ | ⟨c6, h⟩
              · rcases hrf _ _ _ _ _ _ _ h with ⟨r11, u11, qa7, qb7⟩ | ⟨u, qa7, qb7⟩
                · replace h := qb7 _ _ h
                  obtain ⟨k8, h⟩ := h
                  rcases dt_Gr_readBranches_L96 hrf k8 _ _ _ _ _ _ _ _ _ _ h with ⟨z_this, z_this_names, z_this_nodes, z_this_words, x1, x2, x3, qa8, qb8⟩ | ⟨w8_0, w8_1, qa8, qb8⟩ | ⟨w8_0, qa8, qb8⟩
                  · replace h := qb8 k8 _ _ _ h
                    exact Or.inl ⟨_, _, fun post postT q => (by unfold wp_Gr_readBranches; exact (pF c0 ((pF c1 ((qa2 _ _ ((qa3 _ _ ((pF c4 ((pF c5 ((pT c6 ((qa7 _ _ (⟨k8, (qa8 _ _ _ (q))⟩))))))))))))))))), fun post postT h => (by unfold wp_Gr_readBranches at h; replace h := h.2 c0; replace h := h.2 c1; replace h := qb2 _ _ h; replace h := qb3 _ _ h; replace h := h.2 c4; replace h := h.2 c5; replace h := h.1 c6; replace h := qb7 _ _ h; obtain ⟨m8, h⟩ := h; replace h := qb8 m8 _ _ _ h; exact h)⟩
                  · exact Or.inl ⟨_, _, fun post postT q => (by unfold wp_Gr_readBranches; exact (pF c0 ((pF c1 ((qa2 _ _ ((qa3 _ _ ((pF c4 ((pF c5 ((pT c6 ((qa7 _ _ (⟨k8, (qa8 _ _ _ (q))⟩))))))))))))))))), fun post postT h => (by unfold wp_Gr_readBranches at h; replace h := h.2 c0; replace h := h.2 c1; replace h := qb2 _ _ h; replace h := qb3 _ _ h; replace h := h.2 c4; replace h := h.2 c5; replace h := h.1 c6; replace h := qb7 _ _ h; obtain ⟨m8, h⟩ := h; replace h := qb8 m8 _ _ _ h; exact h)⟩
                  · exact Or.inr (⟨_, fun post postT q => (by unfold wp_Gr_readBranches; exact (pF c0 ((pF c1 ((qa2 _ _ ((qa3 _ _ ((pF c4 ((pF c5 ((pT c6 ((qa7 _ _ (⟨k8, (qa8 _ _ _ (q))⟩))))))))))))))))), fun post postT h => (by unfold wp_Gr_readBranches at h; replace h := h.2 c0; replace h := h.2 c1; replace h := qb2 _ _ h; replace h := qb3 _ _ h; replace h := h.2 c4; replace h := h.2 c5; replace h := h.1 c6; replace h := qb7 _ _ h; obtain ⟨m8, h⟩ := h; replace h := qb8 m8 _ _ _ h; exact h)⟩)
                · replace h := qb7 _ _ h
                  exact Or.inr (⟨_, fun post postT q => (by unfold wp_Gr_readBranches; exact (pF c0 ((pF c1 ((qa2 _ _ ((qa3 _ _ ((pF c4 ((pF c5 ((pT c6 ((qa7 _ _ (q))))))))))))))))), fun post postT h => (by unfold wp_Gr_readBranches at h; replace h := h.2 c0; replace h := h.2 c1; replace h := qb2 _ _ h; replace h := qb3 _ _ h; replace h := h.2 c4; replace h := h.2 c5; replace h := h.1 c6; replace h := qb7 _ _ h; exact h)⟩)
              · exact Or.inl ⟨_, _, fun post postT q => (by unfold wp_Gr_readBranches; exact (pF c0 ((pF c1 ((qa2 _ _ ((qa3 _ _ ((pF c4 ((pF c5 ((pF c6 (q))))))))))))))), fun post postT h => (by unfold wp_Gr_readBranches at h; replace h := h.2 c0; replace h := h.2 c1; replace h := qb2 _ _ h; replace h := qb3 _ _ h; replace h := h.2 c4; replace h := h.2 c5; replace h := h.2 c6; exact h)⟩
        · replace h := qb3 _ _ h
          exact Or.inr (⟨_, fun post postT q => (by unfold wp_Gr_readBranches; exact (pF c0 ((pF c1 ((qa2 _ _ ((qa3 _ _ (q))))))))), fun post postT h => (by unfold wp_Gr_readBranches at h; replace h := h.2 c0; replace h := h.2 c1; replace h := qb2 _ _ h; replace h := qb3 _ _ h; exact h)⟩)
      · replace h := qb2 _ _ h
        exact Or.inr (⟨_, fun post postT q => (by unfold wp_Gr_readBranches; exact (pF c0 ((pF c1 ((qa2 _ _ (q))))))), fun post postT h => (by unfold wp_Gr_readBranches at h; replace h := h.2 c0; replace h := h.2 c1; replace h := qb2 _ _ h; exact h)⟩)
set_option maxHeartbeats 2000000 in
theorem dt_Gr_readStatement {d : Nat} {rf : T_Gr → T_Nm → T_Nd → T_Wd → Int32 → (Unit → T_Gr × T_Nm × T_Nd × T_Wd → Prop) → (T_Gr × T_Nm × T_Nd × T_Wd → Prop) → Prop} {z_this : T_Gr} {z_this_names : T_Nm} {z_this_nodes : T_Nd} {z_this_words : T_Wd} {a1 : Int32} (hrf : ∀ (v0 : T_Gr) (v1 : T_Nm) (v2 : T_Nd) (v3 : T_Wd) (v4 : Int32) (post : (Unit → T_Gr × T_Nm × T_Nd × T_Wd → Prop)) (postT : (T_Gr × T_Nm × T_Nd × T_Wd → Prop)), rf v0 v1 v2 v3 v4 post postT → (∃ (w0 : Unit) (w1 : T_Gr × T_Nm × T_Nd × T_Wd), (∀ (post : (Unit → T_Gr × T_Nm × T_Nd × T_Wd → Prop)) (postT : (T_Gr × T_Nm × T_Nd × T_Wd → Prop)), post w0 w1 → rf v0 v1 v2 v3 v4 post postT) ∧ (∀ (post : (Unit → T_Gr × T_Nm × T_Nd × T_Wd → Prop)) (postT : (T_Gr × T_Nm × T_Nd × T_Wd → Prop)), rf v0 v1 v2 v3 v4 post postT → post w0 w1)) ∨ (∃ (w0 : T_Gr × T_Nm × T_Nd × T_Wd), (∀ (post : (Unit → T_Gr × T_Nm × T_Nd × T_Wd → Prop)) (postT : (T_Gr × T_Nm × T_Nd × T_Wd → Prop)), postT w0 → rf v0 v1 v2 v3 v4 post postT) ∧ (∀ (post : (Unit → T_Gr × T_Nm × T_Nd × T_Wd → Prop)) (postT : (T_Gr × T_Nm × T_Nd × T_Wd → Prop)), rf v0 v1 v2 v3 v4 post postT → postT w0))) {post : Unit → T_Gr × T_Nm × T_Nd × T_Wd → Prop} {postT : T_Gr × T_Nm × T_Nd × T_Wd → Prop} (h : wp_Gr_readStatement d rf z_this z_this_names z_this_nodes z_this_words a1 post postT) : (∃ (w0 : Unit) (w1 : T_Gr × T_Nm × T_Nd × T_Wd), (∀ (post : Unit → T_Gr × T_Nm × T_Nd × T_Wd → Prop) (postT : T_Gr × T_Nm × T_Nd × T_Wd → Prop), post w0 w1 → wp_Gr_readStatement d rf z_this z_this_names z_this_nodes z_this_words a1 post postT) ∧ (∀ (post : Unit → T_Gr × T_Nm × T_Nd × T_Wd → Prop) (postT : T_Gr × T_Nm × T_Nd × T_Wd → Prop), wp_Gr_readStatement d rf z_this z_this_names z_this_nodes z_this_words a1 post postT → post w0 w1)) ∨ (∃ (w0 : T_Gr × T_Nm × T_Nd × T_Wd), (∀ (post : Unit → T_Gr × T_Nm × T_Nd × T_Wd → Prop) (postT : T_Gr × T_Nm × T_Nd × T_Wd → Prop), postT w0 → wp_Gr_readStatement d rf z_this z_this_names z_this_nodes z_this_words a1 post postT) ∧ (∀ (post : Unit → T_Gr × T_Nm × T_Nd × T_Wd → Prop) (postT : T_Gr × T_Nm × T_Nd × T_Wd → Prop), wp_Gr_readStatement d rf z_this z_this_names z_this_nodes z_this_words a1 post postT → postT w0)) := by
  unfold wp_Gr_readStatement at h
  obtain ⟨r1, u1, qa0, qb0⟩ := dt_Nd_count h
  replace h := qb0 _ h
  rcases dt_Gr_pass h with ⟨r2, u2, qa1, qb1⟩ | ⟨u, qa1, qb1⟩
  · replace h := qb1 _ _ h
    rcases Classical.em (((z_this_words.2.2.2.2.2.2.2.2.2.2.1 - (200 : Int32)) + (10 : Int32)) = (10 : Int32)) with c2_0 | c2_0
    · replace h := (h).1 c2_0
      rcases dt_Gr_readName h with ⟨r3, u3, qa3, qb3⟩ | ⟨u, qa3, qb3⟩
      · replace h := qb3 _ _ h
        obtain ⟨r4, u4, qa4, qb4⟩ := dt_Nm_use h
        replace h := qb4 _ h
        obtain ⟨r5, u5, qa5, qb5⟩ := dt_Nm_measureOf h
        replace h := qb5 _ h
        rcases dt_Gr_readSumOf (dt_Gr_readFactor d) h with ⟨r6, u6, qa6, qb6⟩ | ⟨u, qa6, qb6⟩
        · replace h := qb6 _ _ h
          rcases br_el h with ⟨c7, h⟩ | ⟨c7, h⟩
          · rcases dt_Gr_take h with ⟨r11, u11, qa8, qb8⟩ | ⟨u, qa8, qb8⟩
            · replace h := qb8 _ _ h
              rcases dt_Gr_readSumOf (dt_Gr_readFactor d) h with ⟨r12, u12, qa9, qb9⟩ | ⟨u, qa9, qb9⟩
              · replace h := qb9 _ _ h
                obtain ⟨r13, u13, qa10, qb10⟩ := dt_Nd_endsWithSemicolon h
                replace h := qb10 _ h
                rcases br_el h with ⟨c11, h⟩ | ⟨c11, h⟩
                · obtain ⟨r14, u14, qa12, qb12⟩ := dt_Nd_add h
                  replace h := qb12 _ h
                  exact Or.inl ⟨_, _, fun post postT q => (by unfold wp_Gr_readStatement; exact (qa0 _ ((qa1 _ _ (⟨fun _ => (qa3 _ _ ((qa4 _ ((qa5 _ ((qa6 _ _ ((pT c7 ((qa8 _ _ ((qa9 _ _ ((qa10 _ ((pT c11 ((qa12 _ (q)))))))))))))))))))), fun q9 => absurd (c2_0.symm.trans q9) (by decide), fun q9 => absurd (c2_0.symm.trans q9) (by decide), fun q9 => absurd (c2_0.symm.trans q9) (by decide), fun q9 => absurd (c2_0.symm.trans q9) (by decide), fun q9 => absurd (c2_0.symm.trans q9) (by decide), fun q9 => absurd (c2_0.symm.trans q9) (by decide), fun q9 => absurd (c2_0.symm.trans q9) (by decide), fun q9 => absurd (c2_0.symm.trans q9) (by decide), fun q9 => absurd (c2_0.symm.trans q9) (by decide), fun q9 => absurd (c2_0.symm.trans q9) (by decide), fun q9 => absurd c2_0 (q9.1)⟩))))), fun post postT h => (by unfold wp_Gr_readStatement at h; replace h := qb0 _ h; replace h := qb1 _ _ h; replace h := (h).1 c2_0; replace h := qb3 _ _ h; replace h := qb4 _ h; replace h := qb5 _ h; replace h := qb6 _ _ h; replace h := h.1 c7; replace h := qb8 _ _ h; replace h := qb9 _ _ h; replace h := qb10 _ h; replace h := h.1 c11; replace h := qb12 _ h; exact h)⟩
                · rcases dt_Gr_take h with ⟨r15, u15, qa12, qb12⟩ | ⟨u, qa12, qb12⟩
                  · replace h := qb12 _ _ h
                    obtain ⟨r16, u16, qa13, qb13⟩ := dt_Nd_add h
                    replace h := qb13 _ h
                    exact Or.inl ⟨_, _, fun post postT q => (by unfold wp_Gr_readStatement; exact (qa0 _ ((qa1 _ _ (⟨fun _ => (qa3 _ _ ((qa4 _ ((qa5 _ ((qa6 _ _ ((pT c7 ((qa8 _ _ ((qa9 _ _ ((qa10 _ ((pF c11 ((qa12 _ _ ((qa13 _ (q)))))))))))))))))))))), fun q9 => absurd (c2_0.symm.trans q9) (by decide), fun q9 => absurd (c2_0.symm.trans q9) (by decide), fun q9 => absurd (c2_0.symm.trans q9) (by decide), fun q9 => absurd (c2_0.symm.trans q9) (by decide), fun q9 => absurd (c2_0.symm.trans q9) (by decide), fun q9 => absurd (c2_0.symm.trans q9) (by decide), fun q9 => absurd (c2_0.symm.trans q9) (by decide), fun q9 => absurd (c2_0.symm.trans q9) (by decide), fun q9 => absurd (c2_0.symm.trans q9) (by decide), fun q9 => absurd (c2_0.symm.trans q9) (by decide), fun q9 => absurd c2_0 (q9.1)⟩))))), fun post postT h => (by unfold wp_Gr_readStatement at h; replace h := qb0 _ h; replace h := qb1 _ _ h; replace h := (h).1 c2_0; replace h := qb3 _ _ h; replace h := qb4 _ h; replace h := qb5 _ h; replace h := qb6 _ _ h; replace h := h.1 c7; replace h := qb8 _ _ h; replace h := qb9 _ _ h; replace h := qb10 _ h; replace h := h.2 c11; replace h := qb12 _ _ h; replace h := qb13 _ h; exact h)⟩
                  · replace h := qb12 _ _ h
                    exact Or.inr (⟨_, fun post postT q => (by unfold wp_Gr_readStatement; exact (qa0 _ ((qa1 _ _ (⟨fun _ => (qa3 _ _ ((qa4 _ ((qa5 _ ((qa6 _ _ ((pT c7 ((qa8 _ _ ((qa9 _ _ ((qa10 _ ((pF c11 ((qa12 _ _ (q)))))))))))))))))))), fun q9 => absurd (c2_0.symm.trans q9) (by decide), fun q9 => absurd (c2_0.symm.trans q9) (by decide), fun q9 => absurd (c2_0.symm.trans q9) (by decide), fun q9 => absurd (c2_0.symm.trans q9) (by decide), fun q9 => absurd (c2_0.symm.trans q9) (by decide), fun q9 => absurd (c2_0.symm.trans q9) (by decide), fun q9 => absurd (c2_0.symm.trans q9) (by decide), fun q9 => absurd (c2_0.symm.trans q9) (by decide), fun q9 => absurd (c2_0.symm.trans q9) (by decide), fun q9 => absurd (c2_0.symm.trans q9) (by decide), fun q9 => absurd c2_0 (q9.1)⟩))))), fun post postT h => (by unfold wp_Gr_readStatement at h; replace h := qb0 _ h; replace h := qb1 _ _ h; replace h := (h).1 c2_0; replace h := qb3 _ _ h; replace h := qb4 _ h; replace h := qb5 _ h; replace h := qb6 _ _ h; replace h := h.1 c7; replace h := qb8 _ _ h; replace h := qb9 _ _ h; replace h := qb10 _ h; replace h := h.2 c11; replace h := qb12 _ _ h; exact h)⟩)
              · replace h := qb9 _ _ h
                exact Or.inr (⟨_, fun post postT q => (by unfold wp_Gr_readStatement; exact (qa0 _ ((qa1 _ _ (⟨fun _ => (qa3 _ _ ((qa4 _ ((qa5 _ ((qa6 _ _ ((pT c7 ((qa8 _ _ ((qa9 _ _ (q)))))))))))))), fun q9 => absurd (c2_0.symm.trans q9) (by decide), fun q9 => absurd (c2_0.symm.trans q9) (by decide), fun q9 => absurd (c2_0.symm.trans q9) (by decide), fun q9 => absurd (c2_0.symm.trans q9) (by decide), fun q9 => absurd (c2_0.symm.trans q9) (by decide), fun q9 => absurd (c2_0.symm.trans q9) (by decide), fun q9 => absurd (c2_0.symm.trans q9) (by decide), fun q9 => absurd (c2_0.symm.trans q9) (by decide), fun q9 => absurd (c2_0.symm.trans q9) (by decide), fun q9 => absurd (c2_0.symm.trans q9) (by decide), fun q9 => absurd c2_0 (q9.1)⟩))))), fun post postT h => (by unfold wp_Gr_readStatement at h; replace h := qb0 _ h; replace h := qb1 _ _ h; replace h := (h).1 c2_0; replace h := qb3 _ _ h; replace h := qb4 _ h; replace h := qb5 _ h; replace h := qb6 _ _ h; replace h := h.1 c7; replace h := qb8 _ _ h; replace h := qb9 _ _ h; exact h)⟩)
            · replace h := qb8 _ _ h
              exact Or.inr (⟨_, fun post postT q => (by unfold wp_Gr_readStatement; exact (qa0 _ ((qa1 _ _ (⟨fun _ => (qa3 _ _ ((qa4 _ ((qa5 _ ((qa6 _ _ ((pT c7 ((qa8 _ _ (q)))))))))))), fun q9 => absurd (c2_0.symm.trans q9) (by decide), fun q9 => absurd (c2_0.symm.trans q9) (by decide), fun q9 => absurd (c2_0.symm.trans q9) (by decide), fun q9 => absurd (c2_0.symm.trans q9) (by decide), fun q9 => absurd (c2_0.symm.trans q9) (by decide), fun q9 => absurd (c2_0.symm.trans q9) (by decide), fun q9 => absurd (c2_0.symm.trans q9) (by decide), fun q9 => absurd (c2_0.symm.trans q9) (by decide), fun q9 => absurd (c2_0.symm.trans q9) (by decide), fun q9 => absurd (c2_0.symm.trans q9) (by decide), fun q9 => absurd c2_0 (q9.1)⟩))))), fun post postT h => (by unfold wp_Gr_readStatement at h; replace h := qb0 _ h; replace h := qb1 _ _ h; replace h := (h).1 c2_0; replace h := qb3 _ _ h; replace h := qb4 _ h; replace h := qb5 _ h; replace h := qb6 _ _ h; replace h := h.1 c7; replace h := qb8 _ _ h; exact h)⟩)
          · obtain ⟨r7, u7, qa8, qb8⟩ := dt_Nd_endsWithSemicolon h
            replace h := qb8 _ h
            rcases br_el h with ⟨c9, h⟩ | ⟨c9, h⟩
            · obtain ⟨r8, u8, qa10, qb10⟩ := dt_Nd_add h
              replace h := qb10 _ h
              exact Or.inl ⟨_, _, fun post postT q => (by unfold wp_Gr_readStatement; exact (qa0 _ ((qa1 _ _ (⟨fun _ => (qa3 _ _ ((qa4 _ ((qa5 _ ((qa6 _ _ ((pF c7 ((qa8 _ ((pT c9 ((qa10 _ (q)))))))))))))))), fun q9 => absurd (c2_0.symm.trans q9) (by decide), fun q9 => absurd (c2_0.symm.trans q9) (by decide), fun q9 => absurd (c2_0.symm.trans q9) (by decide), fun q9 => absurd (c2_0.symm.trans q9) (by decide), fun q9 => absurd (c2_0.symm.trans q9) (by decide), fun q9 => absurd (c2_0.symm.trans q9) (by decide), fun q9 => absurd (c2_0.symm.trans q9) (by decide), fun q9 => absurd (c2_0.symm.trans q9) (by decide), fun q9 => absurd (c2_0.symm.trans q9) (by decide), fun q9 => absurd (c2_0.symm.trans q9) (by decide), fun q9 => absurd c2_0 (q9.1)⟩))))), fun post postT h => (by unfold wp_Gr_readStatement at h; replace h := qb0 _ h; replace h := qb1 _ _ h; replace h := (h).1 c2_0; replace h := qb3 _ _ h; replace h := qb4 _ h; replace h := qb5 _ h; replace h := qb6 _ _ h; replace h := h.2 c7; replace h := qb8 _ h; replace h := h.1 c9; replace h := qb10 _ h; exact h)⟩
            · rcases dt_Gr_take h with ⟨r9, u9, qa10, qb10⟩ | ⟨u, qa10, qb10⟩
              · replace h := qb10 _ _ h
                obtain ⟨r10, u10, qa11, qb11⟩ := dt_Nd_add h
                replace h := qb11 _ h
                exact Or.inl ⟨_, _, fun post postT q => (by unfold wp_Gr_readStatement; exact (qa0 _ ((qa1 _ _ (⟨fun _ => (qa3 _ _ ((qa4 _ ((qa5 _ ((qa6 _ _ ((pF c7 ((qa8 _ ((pF c9 ((qa10 _ _ ((qa11 _ (q)))))))))))))))))), fun q9 => absurd (c2_0.symm.trans q9) (by decide), fun q9 => absurd (c2_0.symm.trans q9) (by decide), fun q9 => absurd (c2_0.symm.trans q9) (by decide), fun q9 => absurd (c2_0.symm.trans q9) (by decide), fun q9 => absurd (c2_0.symm.trans q9) (by decide), fun q9 => absurd (c2_0.symm.trans q9) (by decide), fun q9 => absurd (c2_0.symm.trans q9) (by decide), fun q9 => absurd (c2_0.symm.trans q9) (by decide), fun q9 => absurd (c2_0.symm.trans q9) (by decide), fun q9 => absurd (c2_0.symm.trans q9) (by decide), fun q9 => absurd c2_0 (q9.1)⟩))))), fun post postT h => (by unfold wp_Gr_readStatement at h; replace h := qb0 _ h; replace h := qb1 _ _ h; replace h := (h).1 c2_0; replace h := qb3 _ _ h; replace h := qb4 _ h; replace h := qb5 _ h; replace h := qb6 _ _ h; replace h := h.2 c7; replace h := qb8 _ h; replace h := h.2 c9; replace h := qb10 _ _ h; replace h := qb11 _ h; exact h)⟩
              · replace h := qb10 _ _ h
                exact Or.inr (⟨_, fun post postT q => (by unfold wp_Gr_readStatement; exact (qa0 _ ((qa1 _ _ (⟨fun _ => (qa3 _ _ ((qa4 _ ((qa5 _ ((qa6 _ _ ((pF c7 ((qa8 _ ((pF c9 ((qa10 _ _ (q)))))))))))))))), fun q9 => absurd (c2_0.symm.trans q9) (by decide), fun q9 => absurd (c2_0.symm.trans q9) (by decide), fun q9 => absurd (c2_0.symm.trans q9) (by decide), fun q9 => absurd (c2_0.symm.trans q9) (by decide), fun q9 => absurd (c2_0.symm.trans q9) (by decide), fun q9 => absurd (c2_0.symm.trans q9) (by decide), fun q9 => absurd (c2_0.symm.trans q9) (by decide), fun q9 => absurd (c2_0.symm.trans q9) (by decide), fun q9 => absurd (c2_0.symm.trans q9) (by decide), fun q9 => absurd (c2_0.symm.trans q9) (by decide), fun q9 => absurd c2_0 (q9.1)⟩))))), fun post postT h => (by unfold wp_Gr_readStatement at h; replace h := qb0 _ h; replace h := qb1 _ _ h; replace h := (h).1 c2_0; replace h := qb3 _ _ h; replace h := qb4 _ h; replace h := qb5 _ h; replace h := qb6 _ _ h; replace h := h.2 c7; replace h := qb8 _ h; replace h := h.2 c9; replace h := qb10 _ _ h; exact h)⟩)
        · replace h := qb6 _ _ h
          exact Or.inr (⟨_, fun post postT q => (by unfold wp_Gr_readStatement; exact (qa0 _ ((qa1 _ _ (⟨fun _ => (qa3 _ _ ((qa4 _ ((qa5 _ ((qa6 _ _ (q)))))))), fun q9 => absurd (c2_0.symm.trans q9) (by decide), fun q9 => absurd (c2_0.symm.trans q9) (by decide), fun q9 => absurd (c2_0.symm.trans q9) (by decide), fun q9 => absurd (c2_0.symm.trans q9) (by decide), fun q9 => absurd (c2_0.symm.trans q9) (by decide), fun q9 => absurd (c2_0.symm.trans q9) (by decide), fun q9 => absurd (c2_0.symm.trans q9) (by decide), fun q9 => absurd (c2_0.symm.trans q9) (by decide), fun q9 => absurd (c2_0.symm.trans q9) (by decide), fun q9 => absurd (c2_0.symm.trans q9) (by decide), fun q9 => absurd c2_0 (q9.1)⟩))))), fun post postT h => (by unfold wp_Gr_readStatement at h; replace h := qb0 _ h; replace h := qb1 _ _ h; replace h := (h).1 c2_0; replace h := qb3 _ _ h; replace h := qb4 _ h; replace h := qb5 _ h; replace h := qb6 _ _ h; exact h)⟩)
      · replace h := qb3 _ _ h
        exact Or.inr (⟨_, fun post postT q => (by unfold wp_Gr_readStatement; exact (qa0 _ ((qa1 _ _ (⟨fun _ => (qa3 _ _ (q)), fun q9 => absurd (c2_0.symm.trans q9) (by decide), fun q9 => absurd (c2_0.symm.trans q9) (by decide), fun q9 => absurd (c2_0.symm.trans q9) (by decide), fun q9 => absurd (c2_0.symm.trans q9) (by decide), fun q9 => absurd (c2_0.symm.trans q9) (by decide), fun q9 => absurd (c2_0.symm.trans q9) (by decide), fun q9 => absurd (c2_0.symm.trans q9) (by decide), fun q9 => absurd (c2_0.symm.trans q9) (by decide), fun q9 => absurd (c2_0.symm.trans q9) (by decide), fun q9 => absurd (c2_0.symm.trans q9) (by decide), fun q9 => absurd c2_0 (q9.1)⟩))))), fun post postT h => (by unfold wp_Gr_readStatement at h; replace h := qb0 _ h; replace h := qb1 _ _ h; replace h := (h).1 c2_0; replace h := qb3 _ _ h; exact h)⟩)
    · rcases Classical.em (((z_this_words.2.2.2.2.2.2.2.2.2.2.1 - (200 : Int32)) + (10 : Int32)) = (11 : Int32)) with c2_1 | c2_1
      · replace h := (h).2.1 c2_1
        rcases dt_Gr_readSumOf (dt_Gr_readFactor d) h with ⟨r17, u17, qa3, qb3⟩ | ⟨u, qa3, qb3⟩
        · replace h := qb3 _ _ h
          obtain ⟨r18, u18, qa4, qb4⟩ := dt_Nd_endsWithSemicolon h
          replace h := qb4 _ h
          rcases br_el h with ⟨c5, h⟩ | ⟨c5, h⟩
          · obtain ⟨r19, u19, qa6, qb6⟩ := dt_Nd_add h
            replace h := qb6 _ h
            exact Or.inl ⟨_, _, fun post postT q => (by unfold wp_Gr_readStatement; exact (qa0 _ ((qa1 _ _ (⟨fun q9 => absurd q9 c2_0, fun _ => (qa3 _ _ ((qa4 _ ((pT c5 ((qa6 _ (q)))))))), fun q9 => absurd (c2_1.symm.trans q9) (by decide), fun q9 => absurd (c2_1.symm.trans q9) (by decide), fun q9 => absurd (c2_1.symm.trans q9) (by decide), fun q9 => absurd (c2_1.symm.trans q9) (by decide), fun q9 => absurd (c2_1.symm.trans q9) (by decide), fun q9 => absurd (c2_1.symm.trans q9) (by decide), fun q9 => absurd (c2_1.symm.trans q9) (by decide), fun q9 => absurd (c2_1.symm.trans q9) (by decide), fun q9 => absurd (c2_1.symm.trans q9) (by decide), fun q9 => absurd c2_1 (q9.2.1)⟩))))), fun post postT h => (by unfold wp_Gr_readStatement at h; replace h := qb0 _ h; replace h := qb1 _ _ h; replace h := (h).2.1 c2_1; replace h := qb3 _ _ h; replace h := qb4 _ h; replace h := h.1 c5; replace h := qb6 _ h; exact h)⟩
          · rcases dt_Gr_take h with ⟨r20, u20, qa6, qb6⟩ | ⟨u, qa6, qb6⟩
            · replace h := qb6 _ _ h
              obtain ⟨r21, u21, qa7, qb7⟩ := dt_Nd_add h
              replace h := qb7 _ h
              exact Or.inl ⟨_, _, fun post postT q => (by unfold wp_Gr_readStatement; exact (qa0 _ ((qa1 _ _ (⟨fun q9 => absurd q9 c2_0, fun _ => (qa3 _ _ ((qa4 _ ((pF c5 ((qa6 _ _ ((qa7 _ (q)))))))))), fun q9 => absurd (c2_1.symm.trans q9) (by decide), fun q9 => absurd (c2_1.symm.trans q9) (by decide), fun q9 => absurd (c2_1.symm.trans q9) (by decide), fun q9 => absurd (c2_1.symm.trans q9) (by decide), fun q9 => absurd (c2_1.symm.trans q9) (by decide), fun q9 => absurd (c2_1.symm.trans q9) (by decide), fun q9 => absurd (c2_1.symm.trans q9) (by decide), fun q9 => absurd (c2_1.symm.trans q9) (by decide), fun q9 => absurd (c2_1.symm.trans q9) (by decide), fun q9 => absurd c2_1 (q9.2.1)⟩))))), fun post postT h => (by unfold wp_Gr_readStatement at h; replace h := qb0 _ h; replace h := qb1 _ _ h; replace h := (h).2.1 c2_1; replace h := qb3 _ _ h; replace h := qb4 _ h; replace h := h.2 c5; replace h := qb6 _ _ h; replace h := qb7 _ h; exact h)⟩
            · replace h := qb6 _ _ h
              exact Or.inr (⟨_, fun post postT q => (by unfold wp_Gr_readStatement; exact (qa0 _ ((qa1 _ _ (⟨fun q9 => absurd q9 c2_0, fun _ => (qa3 _ _ ((qa4 _ ((pF c5 ((qa6 _ _ (q)))))))), fun q9 => absurd (c2_1.symm.trans q9) (by decide), fun q9 => absurd (c2_1.symm.trans q9) (by decide), fun q9 => absurd (c2_1.symm.trans q9) (by decide), fun q9 => absurd (c2_1.symm.trans q9) (by decide), fun q9 => absurd (c2_1.symm.trans q9) (by decide), fun q9 => absurd (c2_1.symm.trans q9) (by decide), fun q9 => absurd (c2_1.symm.trans q9) (by decide), fun q9 => absurd (c2_1.symm.trans q9) (by decide), fun q9 => absurd (c2_1.symm.trans q9) (by decide), fun q9 => absurd c2_1 (q9.2.1)⟩))))), fun post postT h => (by unfold wp_Gr_readStatement at h; replace h := qb0 _ h; replace h := qb1 _ _ h; replace h := (h).2.1 c2_1; replace h := qb3 _ _ h; replace h := qb4 _ h; replace h := h.2 c5; replace h := qb6 _ _ h; exact h)⟩)
        · replace h := qb3 _ _ h
          exact Or.inr (⟨_, fun post postT q => (by unfold wp_Gr_readStatement; exact (qa0 _ ((qa1 _ _ (⟨fun q9 => absurd q9 c2_0, fun _ => (qa3 _ _ (q)), fun q9 => absurd (c2_1.symm.trans q9) (by decide), fun q9 => absurd (c2_1.symm.trans q9) (by decide), fun q9 => absurd (c2_1.symm.trans q9) (by decide), fun q9 => absurd (c2_1.symm.trans q9) (by decide), fun q9 => absurd (c2_1.symm.trans q9) (by decide), fun q9 => absurd (c2_1.symm.trans q9) (by decide), fun q9 => absurd (c2_1.symm.trans q9) (by decide), fun q9 => absurd (c2_1.symm.trans q9) (by decide), fun q9 => absurd (c2_1.symm.trans q9) (by decide), fun q9 => absurd c2_1 (q9.2.1)⟩))))), fun post postT h => (by unfold wp_Gr_readStatement at h; replace h := qb0 _ h; replace h := qb1 _ _ h; replace h := (h).2.1 c2_1; replace h := qb3 _ _ h; exact h)⟩)
      · rcases Classical.em (((z_this_words.2.2.2.2.2.2.2.2.2.2.1 - (200 : Int32)) + (10 : Int32)) = (12 : Int32)) with c2_2 | c2_2
        · replace h := (h).2.2.1 c2_2
          rcases dt_Gr_readTest (dt_Gr_readFactor d) h with ⟨r22, u22, qa3, qb3⟩ | ⟨u, qa3, qb3⟩
          · replace h := qb3 _ _ h
            obtain ⟨r23, u23, qa4, qb4⟩ := dt_Nd_endsWithSemicolon h
            replace h := qb4 _ h
            rcases br_el h with ⟨c5, h⟩ | ⟨c5, h⟩
            · obtain ⟨r24, u24, qa6, qb6⟩ := dt_Nd_add h
              replace h := qb6 _ h
              exact Or.inl ⟨_, _, fun post postT q => (by unfold wp_Gr_readStatement; exact (qa0 _ ((qa1 _ _ (⟨fun q9 => absurd q9 c2_0, fun q9 => absurd q9 c2_1, fun _ => (qa3 _ _ ((qa4 _ ((pT c5 ((qa6 _ (q)))))))), fun q9 => absurd (c2_2.symm.trans q9) (by decide), fun q9 => absurd (c2_2.symm.trans q9) (by decide), fun q9 => absurd (c2_2.symm.trans q9) (by decide), fun q9 => absurd (c2_2.symm.trans q9) (by decide), fun q9 => absurd (c2_2.symm.trans q9) (by decide), fun q9 => absurd (c2_2.symm.trans q9) (by decide), fun q9 => absurd (c2_2.symm.trans q9) (by decide), fun q9 => absurd (c2_2.symm.trans q9) (by decide), fun q9 => absurd c2_2 (q9.2.2.1)⟩))))), fun post postT h => (by unfold wp_Gr_readStatement at h; replace h := qb0 _ h; replace h := qb1 _ _ h; replace h := (h).2.2.1 c2_2; replace h := qb3 _ _ h; replace h := qb4 _ h; replace h := h.1 c5; replace h := qb6 _ h; exact h)⟩
            · rcases dt_Gr_take h with ⟨r25, u25, qa6, qb6⟩ | ⟨u, qa6, qb6⟩
              · replace h := qb6 _ _ h
                obtain ⟨r26, u26, qa7, qb7⟩ := dt_Nd_add h
                replace h := qb7 _ h
                exact Or.inl ⟨_, _, fun post postT q => (by unfold wp_Gr_readStatement; exact (qa0 _ ((qa1 _ _ (⟨fun q9 => absurd q9 c2_0, fun q9 => absurd q9 c2_1, fun _ => (qa3 _ _ ((qa4 _ ((pF c5 ((qa6 _ _ ((qa7 _ (q)))))))))), fun q9 => absurd (c2_2.symm.trans q9) (by decide), fun q9 => absurd (c2_2.symm.trans q9) (by decide), fun q9 => absurd (c2_2.symm.trans q9) (by decide), fun q9 => absurd (c2_2.symm.trans q9) (by decide), fun q9 => absurd (c2_2.symm.trans q9) (by decide), fun q9 => absurd (c2_2.symm.trans q9) (by decide), fun q9 => absurd (c2_2.symm.trans q9) (by decide), fun q9 => absurd (c2_2.symm.trans q9) (by decide), fun q9 => absurd c2_2 (q9.2.2.1)⟩))))), fun post postT h => (by unfold wp_Gr_readStatement at h; replace h := qb0 _ h; replace h := qb1 _ _ h; replace h := (h).2.2.1 c2_2; replace h := qb3 _ _ h; replace h := qb4 _ h; replace h := h.2 c5; replace h := qb6 _ _ h; replace h := qb7 _ h; exact h)⟩
              · replace h := qb6 _ _ h
                exact Or.inr (⟨_, fun post postT q => (by unfold wp_Gr_readStatement; exact (qa0 _ ((qa1 _ _ (⟨fun q9 => absurd q9 c2_0, fun q9 => absurd q9 c2_1, fun _ => (qa3 _ _ ((qa4 _ ((pF c5 ((qa6 _ _ (q)))))))), fun q9 => absurd (c2_2.symm.trans q9) (by decide), fun q9 => absurd (c2_2.symm.trans q9) (by decide), fun q9 => absurd (c2_2.symm.trans q9) (by decide), fun q9 => absurd (c2_2.symm.trans q9) (by decide), fun q9 => absurd (c2_2.symm.trans q9) (by decide), fun q9 => absurd (c2_2.symm.trans q9) (by decide), fun q9 => absurd (c2_2.symm.trans q9) (by decide), fun q9 => absurd (c2_2.symm.trans q9) (by decide), fun q9 => absurd c2_2 (q9.2.2.1)⟩))))), fun post postT h => (by unfold wp_Gr_readStatement at h; replace h := qb0 _ h; replace h := qb1 _ _ h; replace h := (h).2.2.1 c2_2; replace h := qb3 _ _ h; replace h := qb4 _ h; replace h := h.2 c5; replace h := qb6 _ _ h; exact h)⟩)
          · replace h := qb3 _ _ h
            exact Or.inr (⟨_, fun post postT q => (by unfold wp_Gr_readStatement; exact (qa0 _ ((qa1 _ _ (⟨fun q9 => absurd q9 c2_0, fun q9 => absurd q9 c2_1, fun _ => (qa3 _ _ (q)), fun q9 => absurd (c2_2.symm.trans q9) (by decide), fun q9 => absurd (c2_2.symm.trans q9) (by decide), fun q9 => absurd (c2_2.symm.trans q9) (by decide), fun q9 => absurd (c2_2.symm.trans q9) (by decide), fun q9 => absurd (c2_2.symm.trans q9) (by decide), fun q9 => absurd (c2_2.symm.trans q9) (by decide), fun q9 => absurd (c2_2.symm.trans q9) (by decide), fun q9 => absurd (c2_2.symm.trans q9) (by decide), fun q9 => absurd c2_2 (q9.2.2.1)⟩))))), fun post postT h => (by unfold wp_Gr_readStatement at h; replace h := qb0 _ h; replace h := qb1 _ _ h; replace h := (h).2.2.1 c2_2; replace h := qb3 _ _ h; exact h)⟩)
        · rcases Classical.em (((z_this_words.2.2.2.2.2.2.2.2.2.2.1 - (200 : Int32)) + (10 : Int32)) = (13 : Int32)) with c2_3 | c2_3
          · replace h := (h).2.2.2.1 c2_3
            rcases dt_Gr_readName h with ⟨r27, u27, qa3, qb3⟩ | ⟨u, qa3, qb3⟩
            · replace h := qb3 _ _ h
              obtain ⟨r28, u28, qa4, qb4⟩ := dt_Nm_use h
              replace h := qb4 _ h
              obtain ⟨r29, u29, qa5, qb5⟩ := dt_Nm_measureOf h
              replace h := qb5 _ h
              rcases dt_Gr_readSumOf (dt_Gr_readFactor d) h with ⟨r30, u30, qa6, qb6⟩ | ⟨u, qa6, qb6⟩
              · replace h := qb6 _ _ h
                rcases br_el h with ⟨c7, h⟩ | ⟨c7, h⟩
                · rcases dt_Gr_take h with ⟨r35, u35, qa8, qb8⟩ | ⟨u, qa8, qb8⟩
                  · replace h := qb8 _ _ h
                    rcases dt_Gr_readSumOf (dt_Gr_readFactor d) h with ⟨r36, u36, qa9, qb9⟩ | ⟨u, qa9, qb9⟩
                    · replace h := qb9 _ _ h
                      obtain ⟨r37, u37, qa10, qb10⟩ := dt_Nd_endsWithSemicolon h
                      replace h := qb10 _ h
                      rcases br_el h with ⟨c11, h⟩ | ⟨c11, h⟩
                      · obtain ⟨r38, u38, qa12, qb12⟩ := dt_Nd_add h
                        replace h := qb12 _ h
                        exact Or.inl ⟨_, _, fun post postT q => (by unfold wp_Gr_readStatement; exact (qa0 _ ((qa1 _ _ (⟨fun q9 => absurd q9 c2_0, fun q9 => absurd q9 c2_1, fun q9 => absurd q9 c2_2, fun _ => (qa3 _ _ ((qa4 _ ((qa5 _ ((qa6 _ _ ((pT c7 ((qa8 _ _ ((qa9 _ _ ((qa10 _ ((pT c11 ((qa12 _ (q)))))))))))))))))))), fun q9 => absurd (c2_3.symm.trans q9) (by decide), fun q9 => absurd (c2_3.symm.trans q9) (by decide), fun q9 => absurd (c2_3.symm.trans q9) (by decide), fun q9 => absurd (c2_3.symm.trans q9) (by decide), fun q9 => absurd (c2_3.symm.trans q9) (by decide), fun q9 => absurd (c2_3.symm.trans q9) (by decide), fun q9 => absurd (c2_3.symm.trans q9) (by decide), fun q9 => absurd c2_3 (q9.2.2.2.1)⟩))))), fun post postT h => (by unfold wp_Gr_readStatement at h; replace h := qb0 _ h; replace h := qb1 _ _ h; replace h := (h).2.2.2.1 c2_3; replace h := qb3 _ _ h; replace h := qb4 _ h; replace h := qb5 _ h; replace h := qb6 _ _ h; replace h := h.1 c7; replace h := qb8 _ _ h; replace h := qb9 _ _ h; replace h := qb10 _ h; replace h := h.1 c11; replace h := qb12 _ h; exact h)⟩
                      · rcases dt_Gr_take h with ⟨r39, u39, qa12, qb12⟩ | ⟨u, qa12, qb12⟩
                        · replace h := qb12 _ _ h
                          obtain ⟨r40, u40, qa13, qb13⟩ := dt_Nd_add h
                          replace h := qb13 _ h
                          exact Or.inl ⟨_, _, fun post postT q => (by unfold wp_Gr_readStatement; exact (qa0 _ ((qa1 _ _ (⟨fun q9 => absurd q9 c2_0, fun q9 => absurd q9 c2_1, fun q9 => absurd q9 c2_2, fun _ => (qa3 _ _ ((qa4 _ ((qa5 _ ((qa6 _ _ ((pT c7 ((qa8 _ _ ((qa9 _ _ ((qa10 _ ((pF c11 ((qa12 _ _ ((qa13 _ (q)))))))))))))))))))))), fun q9 => absurd (c2_3.symm.trans q9) (by decide), fun q9 => absurd (c2_3.symm.trans q9) (by decide), fun q9 => absurd (c2_3.symm.trans q9) (by decide), fun q9 => absurd (c2_3.symm.trans q9) (by decide), fun q9 => absurd (c2_3.symm.trans q9) (by decide), fun q9 => absurd (c2_3.symm.trans q9) (by decide), fun q9 => absurd (c2_3.symm.trans q9) (by decide), fun q9 => absurd c2_3 (q9.2.2.2.1)⟩))))), fun post postT h => (by unfold wp_Gr_readStatement at h; replace h := qb0 _ h; replace h := qb1 _ _ h; replace h := (h).2.2.2.1 c2_3; replace h := qb3 _ _ h; replace h := qb4 _ h; replace h := qb5 _ h; replace h := qb6 _ _ h; replace h := h.1 c7; replace h := qb8 _ _ h; replace h := qb9 _ _ h; replace h := qb10 _ h; replace h := h.2 c11; replace h := qb12 _ _ h; replace h := qb13 _ h; exact h)⟩
                        · replace h := qb12 _ _ h
                          exact Or.inr (⟨_, fun post postT q => (by unfold wp_Gr_readStatement; exact (qa0 _ ((qa1 _ _ (⟨fun q9 => absurd q9 c2_0, fun q9 => absurd q9 c2_1, fun q9 => absurd q9 c2_2, fun _ => (qa3 _ _ ((qa4 _ ((qa5 _ ((qa6 _ _ ((pT c7 ((qa8 _ _ ((qa9 _ _ ((qa10 _ ((pF c11 ((qa12 _ _ (q)))))))))))))))))))), fun q9 => absurd (c2_3.symm.trans q9) (by decide), fun q9 => absurd (c2_3.symm.trans q9) (by decide), fun q9 => absurd (c2_3.symm.trans q9) (by decide), fun q9 => absurd (c2_3.symm.trans q9) (by decide), fun q9 => absurd (c2_3.symm.trans q9) (by decide), fun q9 => absurd (c2_3.symm.trans q9) (by decide), fun q9 => absurd (c2_3.symm.trans q9) (by decide), fun q9 => absurd c2_3 (q9.2.2.2.1)⟩))))), fun post postT h => (by unfold wp_Gr_readStatement at h; replace h := qb0 _ h; replace h := qb1 _ _ h; replace h := (h).2.2.2.1 c2_3; replace h := qb3 _ _ h; replace h := qb4 _ h; replace h := qb5 _ h; replace h := qb6 _ _ h; replace h := h.1 c7; replace h := qb8 _ _ h; replace h := qb9 _ _ h; replace h := qb10 _ h; replace h := h.2 c11; replace h := qb12 _ _ h; exact h)⟩)
                    · replace h := qb9 _ _ h
                      exact Or.inr (⟨_, fun post postT q => (by unfold wp_Gr_readStatement; exact (qa0 _ ((qa1 _ _ (⟨fun q9 => absurd q9 c2_0, fun q9 => absurd q9 c2_1, fun q9 => absurd q9 c2_2, fun _ => (qa3 _ _ ((qa4 _ ((qa5 _ ((qa6 _ _ ((pT c7 ((qa8 _ _ ((qa9 _ _ (q)))))))))))))), fun q9 => absurd (c2_3.symm.trans q9) (by decide), fun q9 => absurd (c2_3.symm.trans q9) (by decide), fun q9 => absurd (c2_3.symm.trans q9) (by decide), fun q9 => absurd (c2_3.symm.trans q9) (by decide), fun q9 => absurd (c2_3.symm.trans q9) (by decide), fun q9 => absurd (c2_3.symm.trans q9) (by decide), fun q9 => absurd (c2_3.symm.trans q9) (by decide), fun q9 => absurd c2_3 (q9.2.2.2.1)⟩))))), fun post postT h => (by unfold wp_Gr_readStatement at h; replace h := qb0 _ h; replace h := qb1 _ _ h; replace h := (h).2.2.2.1 c2_3; replace h := qb3 _ _ h; replace h := qb4 _ h; replace h := qb5 _ h; replace h := qb6 _ _ h; replace h := h.1 c7; replace h := qb8 _ _ h; replace h := qb9 _ _ h; exact h)⟩)
                  · replace h := qb8 _ _ h
                    exact Or.inr (⟨_, fun post postT q => (by unfold wp_Gr_readStatement; exact (qa0 _ ((qa1 _ _ (⟨fun q9 => absurd q9 c2_0, fun q9 => absurd q9 c2_1, fun q9 => absurd q9 c2_2, fun _ => (qa3 _ _ ((qa4 _ ((qa5 _ ((qa6 _ _ ((pT c7 ((qa8 _ _ (q)))))))))))), fun q9 => absurd (c2_3.symm.trans q9) (by decide), fun q9 => absurd (c2_3.symm.trans q9) (by decide), fun q9 => absurd (c2_3.symm.trans q9) (by decide), fun q9 => absurd (c2_3.symm.trans q9) (by decide), fun q9 => absurd (c2_3.symm.trans q9) (by decide), fun q9 => absurd (c2_3.symm.trans q9) (by decide), fun q9 => absurd (c2_3.symm.trans q9) (by decide), fun q9 => absurd c2_3 (q9.2.2.2.1)⟩))))), fun post postT h => (by unfold wp_Gr_readStatement at h; replace h := qb0 _ h; replace h := qb1 _ _ h; replace h := (h).2.2.2.1 c2_3; replace h := qb3 _ _ h; replace h := qb4 _ h; replace h := qb5 _ h; replace h := qb6 _ _ h; replace h := h.1 c7; replace h := qb8 _ _ h; exact h)⟩)
                · obtain ⟨r31, u31, qa8, qb8⟩ := dt_Nd_endsWithSemicolon h
                  replace h := qb8 _ h
                  rcases br_el h with ⟨c9, h⟩ | ⟨c9, h⟩
                  · obtain ⟨r32, u32, qa10, qb10⟩ := dt_Nd_add h
                    replace h := qb10 _ h
                    exact Or.inl ⟨_, _, fun post postT q => (by unfold wp_Gr_readStatement; exact (qa0 _ ((qa1 _ _ (⟨fun q9 => absurd q9 c2_0, fun q9 => absurd q9 c2_1, fun q9 => absurd q9 c2_2, fun _ => (qa3 _ _ ((qa4 _ ((qa5 _ ((qa6 _ _ ((pF c7 ((qa8 _ ((pT c9 ((qa10 _ (q)))))))))))))))), fun q9 => absurd (c2_3.symm.trans q9) (by decide), fun q9 => absurd (c2_3.symm.trans q9) (by decide), fun q9 => absurd (c2_3.symm.trans q9) (by decide), fun q9 => absurd (c2_3.symm.trans q9) (by decide), fun q9 => absurd (c2_3.symm.trans q9) (by decide), fun q9 => absurd (c2_3.symm.trans q9) (by decide), fun q9 => absurd (c2_3.symm.trans q9) (by decide), fun q9 => absurd c2_3 (q9.2.2.2.1)⟩))))), fun post postT h => (by unfold wp_Gr_readStatement at h; replace h := qb0 _ h; replace h := qb1 _ _ h; replace h := (h).2.2.2.1 c2_3; replace h := qb3 _ _ h; replace h := qb4 _ h; replace h := qb5 _ h; replace h := qb6 _ _ h; replace h := h.2 c7; replace h := qb8 _ h; replace h := h.1 c9; replace h := qb10 _ h; exact h)⟩
                  · rcases dt_Gr_take h with ⟨r33, u33, qa10, qb10⟩ | ⟨u, qa10, qb10⟩
                    · replace h := qb10 _ _ h
                      obtain ⟨r34, u34, qa11, qb11⟩ := dt_Nd_add h
                      replace h := qb11 _ h
                      exact Or.inl ⟨_, _, fun post postT q => (by unfold wp_Gr_readStatement; exact (qa0 _ ((qa1 _ _ (⟨fun q9 => absurd q9 c2_0, fun q9 => absurd q9 c2_1, fun q9 => absurd q9 c2_2, fun _ => (qa3 _ _ ((qa4 _ ((qa5 _ ((qa6 _ _ ((pF c7 ((qa8 _ ((pF c9 ((qa10 _ _ ((qa11 _ (q)))))))))))))))))), fun q9 => absurd (c2_3.symm.trans q9) (by decide), fun q9 => absurd (c2_3.symm.trans q9) (by decide), fun q9 => absurd (c2_3.symm.trans q9) (by decide), fun q9 => absurd (c2_3.symm.trans q9) (by decide), fun q9 => absurd (c2_3.symm.trans q9) (by decide), fun q9 => absurd (c2_3.symm.trans q9) (by decide), fun q9 => absurd (c2_3.symm.trans q9) (by decide), fun q9 => absurd c2_3 (q9.2.2.2.1)⟩))))), fun post postT h => (by unfold wp_Gr_readStatement at h; replace h := qb0 _ h; replace h := qb1 _ _ h; replace h := (h).2.2.2.1 c2_3; replace h := qb3 _ _ h; replace h := qb4 _ h; replace h := qb5 _ h; replace h := qb6 _ _ h; replace h := h.2 c7; replace h := qb8 _ h; replace h := h.2 c9; replace h := qb10 _ _ h; replace h := qb11 _ h; exact h)⟩
                    · replace h := qb10 _ _ h
                      exact Or.inr (⟨_, fun post postT q => (by unfold wp_Gr_readStatement; exact (qa0 _ ((qa1 _ _ (⟨fun q9 => absurd q9 c2_0, fun q9 => absurd q9 c2_1, fun q9 => absurd q9 c2_2, fun _ => (qa3 _ _ ((qa4 _ ((qa5 _ ((qa6 _ _ ((pF c7 ((qa8 _ ((pF c9 ((qa10 _ _ (q)))))))))))))))), fun q9 => absurd (c2_3.symm.trans q9) (by decide), fun q9 => absurd (c2_3.symm.trans q9) (by decide), fun q9 => absurd (c2_3.symm.trans q9) (by decide), fun q9 => absurd (c2_3.symm.trans q9) (by decide), fun q9 => absurd (c2_3.symm.trans q9) (by decide), fun q9 => absurd (c2_3.symm.trans q9) (by decide), fun q9 => absurd (c2_3.symm.trans q9) (by decide), fun q9 => absurd c2_3 (q9.2.2.2.1)⟩))))), fun post postT h => (by unfold wp_Gr_readStatement at h; replace h := qb0 _ h; replace h := qb1 _ _ h; replace h := (h).2.2.2.1 c2_3; replace h := qb3 _ _ h; replace h := qb4 _ h; replace h := qb5 _ h; replace h := qb6 _ _ h; replace h := h.2 c7; replace h := qb8 _ h; replace h := h.2 c9; replace h := qb10 _ _ h; exact h)⟩)
              · replace h := qb6 _ _ h
                exact Or.inr (⟨_, fun post postT q => (by unfold wp_Gr_readStatement; exact (qa0 _ ((qa1 _ _ (⟨fun q9 => absurd q9 c2_0, fun q9 => absurd q9 c2_1, fun q9 => absurd q9 c2_2, fun _ => (qa3 _ _ ((qa4 _ ((qa5 _ ((qa6 _ _ (q)))))))), fun q9 => absurd (c2_3.symm.trans q9) (by decide), fun q9 => absurd (c2_3.symm.trans q9) (by decide), fun q9 => absurd (c2_3.symm.trans q9) (by decide), fun q9 => absurd (c2_3.symm.trans q9) (by decide), fun q9 => absurd (c2_3.symm.trans q9) (by decide), fun q9 => absurd (c2_3.symm.trans q9) (by decide), fun q9 => absurd (c2_3.symm.trans q9) (by decide), fun q9 => absurd c2_3 (q9.2.2.2.1)⟩))))), fun post postT h => (by unfold wp_Gr_readStatement at h; replace h := qb0 _ h; replace h := qb1 _ _ h; replace h := (h).2.2.2.1 c2_3; replace h := qb3 _ _ h; replace h := qb4 _ h; replace h := qb5 _ h; replace h := qb6 _ _ h; exact h)⟩)
            · replace h := qb3 _ _ h
              exact Or.inr (⟨_, fun post postT q => (by unfold wp_Gr_readStatement; exact (qa0 _ ((qa1 _ _ (⟨fun q9 => absurd q9 c2_0, fun q9 => absurd q9 c2_1, fun q9 => absurd q9 c2_2, fun _ => (qa3 _ _ (q)), fun q9 => absurd (c2_3.symm.trans q9) (by decide), fun q9 => absurd (c2_3.symm.trans q9) (by decide), fun q9 => absurd (c2_3.symm.trans q9) (by decide), fun q9 => absurd (c2_3.symm.trans q9) (by decide), fun q9 => absurd (c2_3.symm.trans q9) (by decide), fun q9 => absurd (c2_3.symm.trans q9) (by decide), fun q9 => absurd (c2_3.symm.trans q9) (by decide), fun q9 => absurd c2_3 (q9.2.2.2.1)⟩))))), fun post postT h => (by unfold wp_Gr_readStatement at h; replace h := qb0 _ h; replace h := qb1 _ _ h; replace h := (h).2.2.2.1 c2_3; replace h := qb3 _ _ h; exact h)⟩)
          · rcases Classical.em (((z_this_words.2.2.2.2.2.2.2.2.2.2.1 - (200 : Int32)) + (10 : Int32)) = (14 : Int32)) with c2_4 | c2_4
            · replace h := (h).2.2.2.2.1 c2_4
              rcases dt_Gr_readBranches hrf h with ⟨r41, u41, qa3, qb3⟩ | ⟨u, qa3, qb3⟩
              · replace h := qb3 _ _ h
                obtain ⟨r42, u42, qa4, qb4⟩ := dt_Nd_endsWithSemicolon h
                replace h := qb4 _ h
                rcases br_el h with ⟨c5, h⟩ | ⟨c5, h⟩
                · obtain ⟨r43, u43, qa6, qb6⟩ := dt_Nd_add h
                  replace h := qb6 _ h
                  exact Or.inl ⟨_, _, fun post postT q => (by unfold wp_Gr_readStatement; exact (qa0 _ ((qa1 _ _ (⟨fun q9 => absurd q9 c2_0, fun q9 => absurd q9 c2_1, fun q9 => absurd q9 c2_2, fun q9 => absurd q9 c2_3, fun _ => (qa3 _ _ ((qa4 _ ((pT c5 ((qa6 _ (q)))))))), fun q9 => absurd (c2_4.symm.trans q9) (by decide), fun q9 => absurd (c2_4.symm.trans q9) (by decide), fun q9 => absurd (c2_4.symm.trans q9) (by decide), fun q9 => absurd (c2_4.symm.trans q9) (by decide), fun q9 => absurd (c2_4.symm.trans q9) (by decide), fun q9 => absurd (c2_4.symm.trans q9) (by decide), fun q9 => absurd c2_4 (q9.2.2.2.2.1)⟩))))), fun post postT h => (by unfold wp_Gr_readStatement at h; replace h := qb0 _ h; replace h := qb1 _ _ h; replace h := (h).2.2.2.2.1 c2_4; replace h := qb3 _ _ h; replace h := qb4 _ h; replace h := h.1 c5; replace h := qb6 _ h; exact h)⟩
                · rcases dt_Gr_take h with ⟨r44, u44, qa6, qb6⟩ | ⟨u, qa6, qb6⟩
                  · replace h := qb6 _ _ h
                    obtain ⟨r45, u45, qa7, qb7⟩ := dt_Nd_add h
                    replace h := qb7 _ h
                    exact Or.inl ⟨_, _, fun post postT q => (by unfold wp_Gr_readStatement; exact (qa0 _ ((qa1 _ _ (⟨fun q9 => absurd q9 c2_0, fun q9 => absurd q9 c2_1, fun q9 => absurd q9 c2_2, fun q9 => absurd q9 c2_3, fun _ => (qa3 _ _ ((qa4 _ ((pF c5 ((qa6 _ _ ((qa7 _ (q)))))))))), fun q9 => absurd (c2_4.symm.trans q9) (by decide), fun q9 => absurd (c2_4.symm.trans q9) (by decide), fun q9 => absurd (c2_4.symm.trans q9) (by decide), fun q9 => absurd (c2_4.symm.trans q9) (by decide), fun q9 => absurd (c2_4.symm.trans q9) (by decide), fun q9 => absurd (c2_4.symm.trans q9) (by decide), fun q9 => absurd c2_4 (q9.2.2.2.2.1)⟩))))), fun post postT h => (by unfold wp_Gr_readStatement at h; replace h := qb0 _ h; replace h := qb1 _ _ h; replace h := (h).2.2.2.2.1 c2_4; replace h := qb3 _ _ h; replace h := qb4 _ h; replace h := h.2 c5; replace h := qb6 _ _ h; replace h := qb7 _ h; exact h)⟩
                  · replace h := qb6 _ _ h
                    exact Or.inr (⟨_, fun post postT q => (by unfold wp_Gr_readStatement; exact (qa0 _ ((qa1 _ _ (⟨fun q9 => absurd q9 c2_0, fun q9 => absurd q9 c2_1, fun q9 => absurd q9 c2_2, fun q9 => absurd q9 c2_3, fun _ => (qa3 _ _ ((qa4 _ ((pF c5 ((qa6 _ _ (q)))))))), fun q9 => absurd (c2_4.symm.trans q9) (by decide), fun q9 => absurd (c2_4.symm.trans q9) (by decide), fun q9 => absurd (c2_4.symm.trans q9) (by decide), fun q9 => absurd (c2_4.symm.trans q9) (by decide), fun q9 => absurd (c2_4.symm.trans q9) (by decide), fun q9 => absurd (c2_4.symm.trans q9) (by decide), fun q9 => absurd c2_4 (q9.2.2.2.2.1)⟩))))), fun post postT h => (by unfold wp_Gr_readStatement at h; replace h := qb0 _ h; replace h := qb1 _ _ h; replace h := (h).2.2.2.2.1 c2_4; replace h := qb3 _ _ h; replace h := qb4 _ h; replace h := h.2 c5; replace h := qb6 _ _ h; exact h)⟩)
              · replace h := qb3 _ _ h
                exact Or.inr (⟨_, fun post postT q => (by unfold wp_Gr_readStatement; exact (qa0 _ ((qa1 _ _ (⟨fun q9 => absurd q9 c2_0, fun q9 => absurd q9 c2_1, fun q9 => absurd q9 c2_2, fun q9 => absurd q9 c2_3, fun _ => (qa3 _ _ (q)), fun q9 => absurd (c2_4.symm.trans q9) (by decide), fun q9 => absurd (c2_4.symm.trans q9) (by decide), fun q9 => absurd (c2_4.symm.trans q9) (by decide), fun q9 => absurd (c2_4.symm.trans q9) (by decide), fun q9 => absurd (c2_4.symm.trans q9) (by decide), fun q9 => absurd (c2_4.symm.trans q9) (by decide), fun q9 => absurd c2_4 (q9.2.2.2.2.1)⟩))))), fun post postT h => (by unfold wp_Gr_readStatement at h; replace h := qb0 _ h; replace h := qb1 _ _ h; replace h := (h).2.2.2.2.1 c2_4; replace h := qb3 _ _ h; exact h)⟩)
            · rcases Classical.em (((z_this_words.2.2.2.2.2.2.2.2.2.2.1 - (200 : Int32)) + (10 : Int32)) = (15 : Int32)) with c2_5 | c2_5
              · replace h := (h).2.2.2.2.2.1 c2_5
                rcases dt_Gr_readBranches hrf h with ⟨r46, u46, qa3, qb3⟩ | ⟨u, qa3, qb3⟩
                · replace h := qb3 _ _ h
                  obtain ⟨r47, u47, qa4, qb4⟩ := dt_Nd_endsWithSemicolon h
                  replace h := qb4 _ h
                  rcases br_el h with ⟨c5, h⟩ | ⟨c5, h⟩
                  · obtain ⟨r48, u48, qa6, qb6⟩ := dt_Nd_add h
                    replace h := qb6 _ h
                    exact Or.inl ⟨_, _, fun post postT q => (by unfold wp_Gr_readStatement; exact (qa0 _ ((qa1 _ _ (⟨fun q9 => absurd q9 c2_0, fun q9 => absurd q9 c2_1, fun q9 => absurd q9 c2_2, fun q9 => absurd q9 c2_3, fun q9 => absurd q9 c2_4, fun _ => (qa3 _ _ ((qa4 _ ((pT c5 ((qa6 _ (q)))))))), fun q9 => absurd (c2_5.symm.trans q9) (by decide), fun q9 => absurd (c2_5.symm.trans q9) (by decide), fun q9 => absurd (c2_5.symm.trans q9) (by decide), fun q9 => absurd (c2_5.symm.trans q9) (by decide), fun q9 => absurd (c2_5.symm.trans q9) (by decide), fun q9 => absurd c2_5 (q9.2.2.2.2.2.1)⟩))))), fun post postT h => (by unfold wp_Gr_readStatement at h; replace h := qb0 _ h; replace h := qb1 _ _ h; replace h := (h).2.2.2.2.2.1 c2_5; replace h := qb3 _ _ h; replace h := qb4 _ h; replace h := h.1 c5; replace h := qb6 _ h; exact h)⟩
                  · rcases dt_Gr_take h with ⟨r49, u49, qa6, qb6⟩ | ⟨u, qa6, qb6⟩
                    · replace h := qb6 _ _ h
                      obtain ⟨r50, u50, qa7, qb7⟩ := dt_Nd_add h
                      replace h := qb7 _ h
                      exact Or.inl ⟨_, _, fun post postT q => (by unfold wp_Gr_readStatement; exact (qa0 _ ((qa1 _ _ (⟨fun q9 => absurd q9 c2_0, fun q9 => absurd q9 c2_1, fun q9 => absurd q9 c2_2, fun q9 => absurd q9 c2_3, fun q9 => absurd q9 c2_4, fun _ => (qa3 _ _ ((qa4 _ ((pF c5 ((qa6 _ _ ((qa7 _ (q)))))))))), fun q9 => absurd (c2_5.symm.trans q9) (by decide), fun q9 => absurd (c2_5.symm.trans q9) (by decide), fun q9 => absurd (c2_5.symm.trans q9) (by decide), fun q9 => absurd (c2_5.symm.trans q9) (by decide), fun q9 => absurd (c2_5.symm.trans q9) (by decide), fun q9 => absurd c2_5 (q9.2.2.2.2.2.1)⟩))))), fun post postT h => (by unfold wp_Gr_readStatement at h; replace h := qb0 _ h; replace h := qb1 _ _ h; replace h := (h).2.2.2.2.2.1 c2_5; replace h := qb3 _ _ h; replace h := qb4 _ h; replace h := h.2 c5; replace h := qb6 _ _ h; replace h := qb7 _ h; exact h)⟩
                    · replace h := qb6 _ _ h
                      exact Or.inr (⟨_, fun post postT q => (by unfold wp_Gr_readStatement; exact (qa0 _ ((qa1 _ _ (⟨fun q9 => absurd q9 c2_0, fun q9 => absurd q9 c2_1, fun q9 => absurd q9 c2_2, fun q9 => absurd q9 c2_3, fun q9 => absurd q9 c2_4, fun _ => (qa3 _ _ ((qa4 _ ((pF c5 ((qa6 _ _ (q)))))))), fun q9 => absurd (c2_5.symm.trans q9) (by decide), fun q9 => absurd (c2_5.symm.trans q9) (by decide), fun q9 => absurd (c2_5.symm.trans q9) (by decide), fun q9 => absurd (c2_5.symm.trans q9) (by decide), fun q9 => absurd (c2_5.symm.trans q9) (by decide), fun q9 => absurd c2_5 (q9.2.2.2.2.2.1)⟩))))), fun post postT h => (by unfold wp_Gr_readStatement at h; replace h := qb0 _ h; replace h := qb1 _ _ h; replace h := (h).2.2.2.2.2.1 c2_5; replace h := qb3 _ _ h; replace h := qb4 _ h; replace h := h.2 c5; replace h := qb6 _ _ h; exact h)⟩)
                · replace h := qb3 _ _ h
                  exact Or.inr (⟨_, fun post postT q => (by unfold wp_Gr_readStatement; exact (qa0 _ ((qa1 _ _ (⟨fun q9 => absurd q9 c2_0, fun q9 => absurd q9 c2_1, fun q9 => absurd q9 c2_2, fun q9 => absurd q9 c2_3, fun q9 => absurd q9 c2_4, fun _ => (qa3 _ _ (q)), fun q9 => absurd (c2_5.symm.trans q9) (by decide), fun q9 => absurd (c2_5.symm.trans q9) (by decide), fun q9 => absurd (c2_5.symm.trans q9) (by decide), fun q9 => absurd (c2_5.symm.trans q9) (by decide), fun q9 => absurd (c2_5.symm.trans q9) (by decide), fun q9 => absurd c2_5 (q9.2.2.2.2.2.1)⟩))))), fun post postT h => (by unfold wp_Gr_readStatement at h; replace h := qb0 _ h; replace h := qb1 _ _ h; replace h := (h).2.2.2.2.2.1 c2_5; replace h := qb3 _ _ h; exact h)⟩)
              · rcases Classical.em (((z_this_words.2.2.2.2.2.2.2.2.2.2.1 - (200 : Int32)) + (10 : Int32)) = (16 : Int32)) with c2_6 | c2_6
                · replace h := (h).2.2.2.2.2.2.1 c2_6
                  rcases dt_Gr_readBranches hrf h with ⟨r51, u51, qa3, qb3⟩ | ⟨u, qa3, qb3⟩
                  · replace h := qb3 _ _ h
                    obtain ⟨r52, u52, qa4, qb4⟩ := dt_Nd_endsWithSemicolon h
                    replace h := qb4 _ h
                    rcases br_el h with ⟨c5, h⟩ | ⟨c5, h⟩
                    · obtain ⟨r53, u53, qa6, qb6⟩ := dt_Nd_add h
                      replace h := qb6 _ h
                      exact Or.inl ⟨_, _, fun post postT q => (by unfold wp_Gr_readStatement; exact (qa0 _ ((qa1 _ _ (⟨fun q9 => absurd q9 c2_0, fun q9 => absurd q9 c2_1, fun q9 => absurd q9 c2_2, fun q9 => absurd q9 c2_3, fun q9 => absurd q9 c2_4, fun q9 => absurd q9 c2_5, fun _ => (qa3 _ _ ((qa4 _ ((pT c5 ((qa6 _ (q)))))))), fun q9 => absurd (c2_6.symm.trans q9) (by decide), fun q9 => absurd (c2_6.symm.trans q9) (by decide), fun q9 => absurd (c2_6.symm.trans q9) (by decide), fun q9 => absurd (c2_6.symm.trans q9) (by decide), fun q9 => absurd c2_6 (q9.2.2.2.2.2.2.1)⟩))))), fun post postT h => (by unfold wp_Gr_readStatement at h; replace h := qb0 _ h; replace h := qb1 _ _ h; replace h := (h).2.2.2.2.2.2.1 c2_6; replace h := qb3 _ _ h; replace h := qb4 _ h; replace h := h.1 c5; replace h := qb6 _ h; exact h)⟩
                    · rcases dt_Gr_take h with ⟨r54, u54, qa6, qb6⟩ | ⟨u, qa6, qb6⟩
                      · replace h := qb6 _ _ h
                        obtain ⟨r55, u55, qa7, qb7⟩ := dt_Nd_add h
                        replace h := qb7 _ h
                        exact Or.inl ⟨_, _, fun post postT q => (by unfold wp_Gr_readStatement; exact (qa0 _ ((qa1 _ _ (⟨fun q9 => absurd q9 c2_0, fun q9 => absurd q9 c2_1, fun q9 => absurd q9 c2_2, fun q9 => absurd q9 c2_3, fun q9 => absurd q9 c2_4, fun q9 => absurd q9 c2_5, fun _ => (qa3 _ _ ((qa4 _ ((pF c5 ((qa6 _ _ ((qa7 _ (q)))))))))), fun q9 => absurd (c2_6.symm.trans q9) (by decide), fun q9 => absurd (c2_6.symm.trans q9) (by decide), fun q9 => absurd (c2_6.symm.trans q9) (by decide), fun q9 => absurd (c2_6.symm.trans q9) (by decide), fun q9 => absurd c2_6 (q9.2.2.2.2.2.2.1)⟩))))), fun post postT h => (by unfold wp_Gr_readStatement at h; replace h := qb0 _ h; replace h := qb1 _ _ h; replace h := (h).2.2.2.2.2.2.1 c2_6; replace h := qb3 _ _ h; replace h := qb4 _ h; replace h := h.2 c5; replace h := qb6 _ _ h; replace h := qb7 _ h; exact h)⟩
                      · replace h := qb6 _ _ h
                        exact Or.inr (⟨_, fun post postT q => (by unfold wp_Gr_readStatement; exact (qa0 _ ((qa1 _ _ (⟨fun q9 => absurd q9 c2_0, fun q9 => absurd q9 c2_1, fun q9 => absurd q9 c2_2, fun q9 => absurd q9 c2_3, fun q9 => absurd q9 c2_4, fun q9 => absurd q9 c2_5, fun _ => (qa3 _ _ ((qa4 _ ((pF c5 ((qa6 _ _ (q)))))))), fun q9 => absurd (c2_6.symm.trans q9) (by decide), fun q9 => absurd (c2_6.symm.trans q9) (by decide), fun q9 => absurd (c2_6.symm.trans q9) (by decide), fun q9 => absurd (c2_6.symm.trans q9) (by decide), fun q9 => absurd c2_6 (q9.2.2.2.2.2.2.1)⟩))))), fun post postT h => (by unfold wp_Gr_readStatement at h; replace h := qb0 _ h; replace h := qb1 _ _ h; replace h := (h).2.2.2.2.2.2.1 c2_6; replace h := qb3 _ _ h; replace h := qb4 _ h; replace h := h.2 c5; replace h := qb6 _ _ h; exact h)⟩)
                  · replace h := qb3 _ _ h
                    exact Or.inr (⟨_, fun post postT q => (by unfold wp_Gr_readStatement; exact (qa0 _ ((qa1 _ _ (⟨fun q9 => absurd q9 c2_0, fun q9 => absurd q9 c2_1, fun q9 => absurd q9 c2_2, fun q9 => absurd q9 c2_3, fun q9 => absurd q9 c2_4, fun q9 => absurd q9 c2_5, fun _ => (qa3 _ _ (q)), fun q9 => absurd (c2_6.symm.trans q9) (by decide), fun q9 => absurd (c2_6.symm.trans q9) (by decide), fun q9 => absurd (c2_6.symm.trans q9) (by decide), fun q9 => absurd (c2_6.symm.trans q9) (by decide), fun q9 => absurd c2_6 (q9.2.2.2.2.2.2.1)⟩))))), fun post postT h => (by unfold wp_Gr_readStatement at h; replace h := qb0 _ h; replace h := qb1 _ _ h; replace h := (h).2.2.2.2.2.2.1 c2_6; replace h := qb3 _ _ h; exact h)⟩)
                · rcases Classical.em (((z_this_words.2.2.2.2.2.2.2.2.2.2.1 - (200 : Int32)) + (10 : Int32)) = (17 : Int32)) with c2_7 | c2_7
                  · replace h := (h).2.2.2.2.2.2.2.1 c2_7
                    rcases dt_Gr_readBranches hrf h with ⟨r56, u56, qa3, qb3⟩ | ⟨u, qa3, qb3⟩
                    · replace h := qb3 _ _ h
                      obtain ⟨r57, u57, qa4, qb4⟩ := dt_Nd_endsWithSemicolon h
                      replace h := qb4 _ h
                      rcases br_el h with ⟨c5, h⟩ | ⟨c5, h⟩
                      · obtain ⟨r58, u58, qa6, qb6⟩ := dt_Nd_add h
                        replace h := qb6 _ h
                        exact Or.inl ⟨_, _, fun post postT q => (by unfold wp_Gr_readStatement; exact (qa0 _ ((qa1 _ _ (⟨fun q9 => absurd q9 c2_0, fun q9 => absurd q9 c2_1, fun q9 => absurd q9 c2_2, fun q9 => absurd q9 c2_3, fun q9 => absurd q9 c2_4, fun q9 => absurd q9 c2_5, fun q9 => absurd q9 c2_6, fun _ => (qa3 _ _ ((qa4 _ ((pT c5 ((qa6 _ (q)))))))), fun q9 => absurd (c2_7.symm.trans q9) (by decide), fun q9 => absurd (c2_7.symm.trans q9) (by decide), fun q9 => absurd (c2_7.symm.trans q9) (by decide), fun q9 => absurd c2_7 (q9.2.2.2.2.2.2.2.1)⟩))))), fun post postT h => (by unfold wp_Gr_readStatement at h; replace h := qb0 _ h; replace h := qb1 _ _ h; replace h := (h).2.2.2.2.2.2.2.1 c2_7; replace h := qb3 _ _ h; replace h := qb4 _ h; replace h := h.1 c5; replace h := qb6 _ h; exact h)⟩
                      · rcases dt_Gr_take h with ⟨r59, u59, qa6, qb6⟩ | ⟨u, qa6, qb6⟩
                        · replace h := qb6 _ _ h
                          obtain ⟨r60, u60, qa7, qb7⟩ := dt_Nd_add h
                          replace h := qb7 _ h
                          exact Or.inl ⟨_, _, fun post postT q => (by unfold wp_Gr_readStatement; exact (qa0 _ ((qa1 _ _ (⟨fun q9 => absurd q9 c2_0, fun q9 => absurd q9 c2_1, fun q9 => absurd q9 c2_2, fun q9 => absurd q9 c2_3, fun q9 => absurd q9 c2_4, fun q9 => absurd q9 c2_5, fun q9 => absurd q9 c2_6, fun _ => (qa3 _ _ ((qa4 _ ((pF c5 ((qa6 _ _ ((qa7 _ (q)))))))))), fun q9 => absurd (c2_7.symm.trans q9) (by decide), fun q9 => absurd (c2_7.symm.trans q9) (by decide), fun q9 => absurd (c2_7.symm.trans q9) (by decide), fun q9 => absurd c2_7 (q9.2.2.2.2.2.2.2.1)⟩))))), fun post postT h => (by unfold wp_Gr_readStatement at h; replace h := qb0 _ h; replace h := qb1 _ _ h; replace h := (h).2.2.2.2.2.2.2.1 c2_7; replace h := qb3 _ _ h; replace h := qb4 _ h; replace h := h.2 c5; replace h := qb6 _ _ h; replace h := qb7 _ h; exact h)⟩
                        · replace h := qb6 _ _ h
                          exact Or.inr (⟨_, fun post postT q => (by unfold wp_Gr_readStatement; exact (qa0 _ ((qa1 _ _ (⟨fun q9 => absurd q9 c2_0, fun q9 => absurd q9 c2_1, fun q9 => absurd q9 c2_2, fun q9 => absurd q9 c2_3, fun q9 => absurd q9 c2_4, fun q9 => absurd q9 c2_5, fun q9 => absurd q9 c2_6, fun _ => (qa3 _ _ ((qa4 _ ((pF c5 ((qa6 _ _ (q)))))))), fun q9 => absurd (c2_7.symm.trans q9) (by decide), fun q9 => absurd (c2_7.symm.trans q9) (by decide), fun q9 => absurd (c2_7.symm.trans q9) (by decide), fun q9 => absurd c2_7 (q9.2.2.2.2.2.2.2.1)⟩))))), fun post postT h => (by unfold wp_Gr_readStatement at h; replace h := qb0 _ h; replace h := qb1 _ _ h; replace h := (h).2.2.2.2.2.2.2.1 c2_7; replace h := qb3 _ _ h; replace h := qb4 _ h; replace h := h.2 c5; replace h := qb6 _ _ h; exact h)⟩)
                    · replace h := qb3 _ _ h
                      exact Or.inr (⟨_, fun post postT q => (by unfold wp_Gr_readStatement; exact (qa0 _ ((qa1 _ _ (⟨fun q9 => absurd q9 c2_0, fun q9 => absurd q9 c2_1, fun q9 => absurd q9 c2_2, fun q9 => absurd q9 c2_3, fun q9 => absurd q9 c2_4, fun q9 => absurd q9 c2_5, fun q9 => absurd q9 c2_6, fun _ => (qa3 _ _ (q)), fun q9 => absurd (c2_7.symm.trans q9) (by decide), fun q9 => absurd (c2_7.symm.trans q9) (by decide), fun q9 => absurd (c2_7.symm.trans q9) (by decide), fun q9 => absurd c2_7 (q9.2.2.2.2.2.2.2.1)⟩))))), fun post postT h => (by unfold wp_Gr_readStatement at h; replace h := qb0 _ h; replace h := qb1 _ _ h; replace h := (h).2.2.2.2.2.2.2.1 c2_7; replace h := qb3 _ _ h; exact h)⟩)
                  · rcases Classical.em (((z_this_words.2.2.2.2.2.2.2.2.2.2.1 - (200 : Int32)) + (10 : Int32)) = (18 : Int32)) with c2_8 | c2_8
                    · replace h := (h).2.2.2.2.2.2.2.2.1 c2_8
                      rcases dt_Gr_readName h with ⟨r61, u61, qa3, qb3⟩ | ⟨u, qa3, qb3⟩
                      · replace h := qb3 _ _ h
                        obtain ⟨r62, u62, qa4, qb4⟩ := dt_Nm_use h
                        replace h := qb4 _ h
                        obtain ⟨r63, u63, qa5, qb5⟩ := dt_Nd_endsWithSemicolon h
                        replace h := qb5 _ h
                        rcases br_el h with ⟨c6, h⟩ | ⟨c6, h⟩
                        · obtain ⟨r64, u64, qa7, qb7⟩ := dt_Nd_add h
                          replace h := qb7 _ h
                          exact Or.inl ⟨_, _, fun post postT q => (by unfold wp_Gr_readStatement; exact (qa0 _ ((qa1 _ _ (⟨fun q9 => absurd q9 c2_0, fun q9 => absurd q9 c2_1, fun q9 => absurd q9 c2_2, fun q9 => absurd q9 c2_3, fun q9 => absurd q9 c2_4, fun q9 => absurd q9 c2_5, fun q9 => absurd q9 c2_6, fun q9 => absurd q9 c2_7, fun _ => (qa3 _ _ ((qa4 _ ((qa5 _ ((pT c6 ((qa7 _ (q)))))))))), fun q9 => absurd (c2_8.symm.trans q9) (by decide), fun q9 => absurd (c2_8.symm.trans q9) (by decide), fun q9 => absurd c2_8 (q9.2.2.2.2.2.2.2.2.1)⟩))))), fun post postT h => (by unfold wp_Gr_readStatement at h; replace h := qb0 _ h; replace h := qb1 _ _ h; replace h := (h).2.2.2.2.2.2.2.2.1 c2_8; replace h := qb3 _ _ h; replace h := qb4 _ h; replace h := qb5 _ h; replace h := h.1 c6; replace h := qb7 _ h; exact h)⟩
                        · rcases dt_Gr_take h with ⟨r65, u65, qa7, qb7⟩ | ⟨u, qa7, qb7⟩
                          · replace h := qb7 _ _ h
                            obtain ⟨r66, u66, qa8, qb8⟩ := dt_Nd_add h
                            replace h := qb8 _ h
                            exact Or.inl ⟨_, _, fun post postT q => (by unfold wp_Gr_readStatement; exact (qa0 _ ((qa1 _ _ (⟨fun q9 => absurd q9 c2_0, fun q9 => absurd q9 c2_1, fun q9 => absurd q9 c2_2, fun q9 => absurd q9 c2_3, fun q9 => absurd q9 c2_4, fun q9 => absurd q9 c2_5, fun q9 => absurd q9 c2_6, fun q9 => absurd q9 c2_7, fun _ => (qa3 _ _ ((qa4 _ ((qa5 _ ((pF c6 ((qa7 _ _ ((qa8 _ (q)))))))))))), fun q9 => absurd (c2_8.symm.trans q9) (by decide), fun q9 => absurd (c2_8.symm.trans q9) (by decide), fun q9 => absurd c2_8 (q9.2.2.2.2.2.2.2.2.1)⟩))))), fun post postT h => (by unfold wp_Gr_readStatement at h; replace h := qb0 _ h; replace h := qb1 _ _ h; replace h := (h).2.2.2.2.2.2.2.2.1 c2_8; replace h := qb3 _ _ h; replace h := qb4 _ h; replace h := qb5 _ h; replace h := h.2 c6; replace h := qb7 _ _ h; replace h := qb8 _ h; exact h)⟩
                          · replace h := qb7 _ _ h
                            exact Or.inr (⟨_, fun post postT q => (by unfold wp_Gr_readStatement; exact (qa0 _ ((qa1 _ _ (⟨fun q9 => absurd q9 c2_0, fun q9 => absurd q9 c2_1, fun q9 => absurd q9 c2_2, fun q9 => absurd q9 c2_3, fun q9 => absurd q9 c2_4, fun q9 => absurd q9 c2_5, fun q9 => absurd q9 c2_6, fun q9 => absurd q9 c2_7, fun _ => (qa3 _ _ ((qa4 _ ((qa5 _ ((pF c6 ((qa7 _ _ (q)))))))))), fun q9 => absurd (c2_8.symm.trans q9) (by decide), fun q9 => absurd (c2_8.symm.trans q9) (by decide), fun q9 => absurd c2_8 (q9.2.2.2.2.2.2.2.2.1)⟩))))), fun post postT h => (by unfold wp_Gr_readStatement at h; replace h := qb0 _ h; replace h := qb1 _ _ h; replace h := (h).2.2.2.2.2.2.2.2.1 c2_8; replace h := qb3 _ _ h; replace h := qb4 _ h; replace h := qb5 _ h; replace h := h.2 c6; replace h := qb7 _ _ h; exact h)⟩)
                      · replace h := qb3 _ _ h
                        exact Or.inr (⟨_, fun post postT q => (by unfold wp_Gr_readStatement; exact (qa0 _ ((qa1 _ _ (⟨fun q9 => absurd q9 c2_0, fun q9 => absurd q9 c2_1, fun q9 => absurd q9 c2_2, fun q9 => absurd q9 c2_3, fun q9 => absurd q9 c2_4, fun q9 => absurd q9 c2_5, fun q9 => absurd q9 c2_6, fun q9 => absurd q9 c2_7, fun _ => (qa3 _ _ (q)), fun q9 => absurd (c2_8.symm.trans q9) (by decide), fun q9 => absurd (c2_8.symm.trans q9) (by decide), fun q9 => absurd c2_8 (q9.2.2.2.2.2.2.2.2.1)⟩))))), fun post postT h => (by unfold wp_Gr_readStatement at h; replace h := qb0 _ h; replace h := qb1 _ _ h; replace h := (h).2.2.2.2.2.2.2.2.1 c2_8; replace h := qb3 _ _ h; exact h)⟩)
                    · rcases Classical.em (((z_this_words.2.2.2.2.2.2.2.2.2.2.1 - (200 : Int32)) + (10 : Int32)) = (19 : Int32)) with c2_9 | c2_9
                      · replace h := (h).2.2.2.2.2.2.2.2.2.1 c2_9
                        rcases dt_Gr_readName h with ⟨r67, u67, qa3, qb3⟩ | ⟨u, qa3, qb3⟩
                        · replace h := qb3 _ _ h
                          obtain ⟨r68, u68, qa4, qb4⟩ := dt_Nd_endsWithSemicolon h
                          replace h := qb4 _ h
                          rcases br_el h with ⟨c5, h⟩ | ⟨c5, h⟩
                          · obtain ⟨r69, u69, qa6, qb6⟩ := dt_Nd_add h
                            replace h := qb6 _ h
                            exact Or.inl ⟨_, _, fun post postT q => (by unfold wp_Gr_readStatement; exact (qa0 _ ((qa1 _ _ (⟨fun q9 => absurd q9 c2_0, fun q9 => absurd q9 c2_1, fun q9 => absurd q9 c2_2, fun q9 => absurd q9 c2_3, fun q9 => absurd q9 c2_4, fun q9 => absurd q9 c2_5, fun q9 => absurd q9 c2_6, fun q9 => absurd q9 c2_7, fun q9 => absurd q9 c2_8, fun _ => (qa3 _ _ ((qa4 _ ((pT c5 ((qa6 _ (q)))))))), fun q9 => absurd (c2_9.symm.trans q9) (by decide), fun q9 => absurd c2_9 (q9.2.2.2.2.2.2.2.2.2.1)⟩))))), fun post postT h => (by unfold wp_Gr_readStatement at h; replace h := qb0 _ h; replace h := qb1 _ _ h; replace h := (h).2.2.2.2.2.2.2.2.2.1 c2_9; replace h := qb3 _ _ h; replace h := qb4 _ h; replace h := h.1 c5; replace h := qb6 _ h; exact h)⟩
                          · rcases dt_Gr_take h with ⟨r70, u70, qa6, qb6⟩ | ⟨u, qa6, qb6⟩
                            · replace h := qb6 _ _ h
                              obtain ⟨r71, u71, qa7, qb7⟩ := dt_Nd_add h
                              replace h := qb7 _ h
                              exact Or.inl ⟨_, _, fun post postT q => (by unfold wp_Gr_readStatement; exact (qa0 _ ((qa1 _ _ (⟨fun q9 => absurd q9 c2_0, fun q9 => absurd q9 c2_1, fun q9 => absurd q9 c2_2, fun q9 => absurd q9 c2_3, fun q9 => absurd q9 c2_4, fun q9 => absurd q9 c2_5, fun q9 => absurd q9 c2_6, fun q9 => absurd q9 c2_7, fun q9 => absurd q9 c2_8, fun _ => (qa3 _ _ ((qa4 _ ((pF c5 ((qa6 _ _ ((qa7 _ (q)))))))))), fun q9 => absurd (c2_9.symm.trans q9) (by decide), fun q9 => absurd c2_9 (q9.2.2.2.2.2.2.2.2.2.1)⟩))))), fun post postT h => (by unfold wp_Gr_readStatement at h; replace h := qb0 _ h; replace h := qb1 _ _ h; replace h := (h).2.2.2.2.2.2.2.2.2.1 c2_9; replace h := qb3 _ _ h; replace h := qb4 _ h; replace h := h.2 c5; replace h := qb6 _ _ h; replace h := qb7 _ h; exact h)⟩
                            · replace h := qb6 _ _ h
                              exact Or.inr (⟨_, fun post postT q => (by unfold wp_Gr_readStatement; exact (qa0 _ ((qa1 _ _ (⟨fun q9 => absurd q9 c2_0, fun q9 => absurd q9 c2_1, fun q9 => absurd q9 c2_2, fun q9 => absurd q9 c2_3, fun q9 => absurd q9 c2_4, fun q9 => absurd q9 c2_5, fun q9 => absurd q9 c2_6, fun q9 => absurd q9 c2_7, fun q9 => absurd q9 c2_8, fun _ => (qa3 _ _ ((qa4 _ ((pF c5 ((qa6 _ _ (q)))))))), fun q9 => absurd (c2_9.symm.trans q9) (by decide), fun q9 => absurd c2_9 (q9.2.2.2.2.2.2.2.2.2.1)⟩))))), fun post postT h => (by unfold wp_Gr_readStatement at h; replace h := qb0 _ h; replace h := qb1 _ _ h; replace h := (h).2.2.2.2.2.2.2.2.2.1 c2_9; replace h := qb3 _ _ h; replace h := qb4 _ h; replace h := h.2 c5; replace h := qb6 _ _ h; exact h)⟩)
                        · replace h := qb3 _ _ h
                          exact Or.inr (⟨_, fun post postT q => (by unfold wp_Gr_readStatement; exact (qa0 _ ((qa1 _ _ (⟨fun q9 => absurd q9 c2_0, fun q9 => absurd q9 c2_1, fun q9 => absurd q9 c2_2, fun q9 => absurd q9 c2_3, fun q9 => absurd q9 c2_4, fun q9 => absurd q9 c2_5, fun q9 => absurd q9 c2_6, fun q9 => absurd q9 c2_7, fun q9 => absurd q9 c2_8, fun _ => (qa3 _ _ (q)), fun q9 => absurd (c2_9.symm.trans q9) (by decide), fun q9 => absurd c2_9 (q9.2.2.2.2.2.2.2.2.2.1)⟩))))), fun post postT h => (by unfold wp_Gr_readStatement at h; replace h := qb0 _ h; replace h := qb1 _ _ h; replace h := (h).2.2.2.2.2.2.2.2.2.1 c2_9; replace h := qb3 _ _ h; exact h)⟩)
                      · rcases Classical.em (((z_this_words.2.2.2.2.2.2.2.2.2.2.1 - (200 : Int32)) + (10 : Int32)) = (22 : Int32)) with c2_10 | c2_10
                        · replace h := (h).2.2.2.2.2.2.2.2.2.2.1 c2_10
                          rcases dt_Gr_readAct h with ⟨r72, u72, qa3, qb3⟩ | ⟨u, qa3, qb3⟩
                          · replace h := qb3 _ _ h
                            obtain ⟨r73, u73, qa4, qb4⟩ := dt_Nd_endsWithSemicolon h
                            replace h := qb4 _ h
                            rcases br_el h with ⟨c5, h⟩ | ⟨c5, h⟩
                            · obtain ⟨r74, u74, qa6, qb6⟩ := dt_Nd_add h
                              replace h := qb6 _ h
                              exact Or.inl ⟨_, _, fun post postT q => (by unfold wp_Gr_readStatement; exact (qa0 _ ((qa1 _ _ (⟨fun q9 => absurd q9 c2_0, fun q9 => absurd q9 c2_1, fun q9 => absurd q9 c2_2, fun q9 => absurd q9 c2_3, fun q9 => absurd q9 c2_4, fun q9 => absurd q9 c2_5, fun q9 => absurd q9 c2_6, fun q9 => absurd q9 c2_7, fun q9 => absurd q9 c2_8, fun q9 => absurd q9 c2_9, fun _ => (qa3 _ _ ((qa4 _ ((pT c5 ((qa6 _ (q)))))))), fun q9 => absurd c2_10 (q9.2.2.2.2.2.2.2.2.2.2)⟩))))), fun post postT h => (by unfold wp_Gr_readStatement at h; replace h := qb0 _ h; replace h := qb1 _ _ h; replace h := (h).2.2.2.2.2.2.2.2.2.2.1 c2_10; replace h := qb3 _ _ h; replace h := qb4 _ h; replace h := h.1 c5; replace h := qb6 _ h; exact h)⟩
                            · rcases dt_Gr_take h with ⟨r75, u75, qa6, qb6⟩ | ⟨u, qa6, qb6⟩
                              · replace h := qb6 _ _ h
                                obtain ⟨r76, u76, qa7, qb7⟩ := dt_Nd_add h
                                replace h := qb7 _ h
                                exact Or.inl ⟨_, _, fun post postT q => (by unfold wp_Gr_readStatement; exact (qa0 _ ((qa1 _ _ (⟨fun q9 => absurd q9 c2_0, fun q9 => absurd q9 c2_1, fun q9 => absurd q9 c2_2, fun q9 => absurd q9 c2_3, fun q9 => absurd q9 c2_4, fun q9 => absurd q9 c2_5, fun q9 => absurd q9 c2_6, fun q9 => absurd q9 c2_7, fun q9 => absurd q9 c2_8, fun q9 => absurd q9 c2_9, fun _ => (qa3 _ _ ((qa4 _ ((pF c5 ((qa6 _ _ ((qa7 _ (q)))))))))), fun q9 => absurd c2_10 (q9.2.2.2.2.2.2.2.2.2.2)⟩))))), fun post postT h => (by unfold wp_Gr_readStatement at h; replace h := qb0 _ h; replace h := qb1 _ _ h; replace h := (h).2.2.2.2.2.2.2.2.2.2.1 c2_10; replace h := qb3 _ _ h; replace h := qb4 _ h; replace h := h.2 c5; replace h := qb6 _ _ h; replace h := qb7 _ h; exact h)⟩
                              · replace h := qb6 _ _ h
                                exact Or.inr (⟨_, fun post postT q => (by unfold wp_Gr_readStatement; exact (qa0 _ ((qa1 _ _ (⟨fun q9 => absurd q9 c2_0, fun q9 => absurd q9 c2_1, fun q9 => absurd q9 c2_2, fun q9 => absurd q9 c2_3, fun q9 => absurd q9 c2_4, fun q9 => absurd q9 c2_5, fun q9 => absurd q9 c2_6, fun q9 => absurd q9 c2_7, fun q9 => absurd q9 c2_8, fun q9 => absurd q9 c2_9, fun _ => (qa3 _ _ ((qa4 _ ((pF c5 ((qa6 _ _ (q)))))))), fun q9 => absurd c2_10 (q9.2.2.2.2.2.2.2.2.2.2)⟩))))), fun post postT h => (by unfold wp_Gr_readStatement at h; replace h := qb0 _ h; replace h := qb1 _ _ h; replace h := (h).2.2.2.2.2.2.2.2.2.2.1 c2_10; replace h := qb3 _ _ h; replace h := qb4 _ h; replace h := h.2 c5; replace h := qb6 _ _ h; exact h)⟩)
                          · replace h := qb3 _ _ h
                            exact Or.inr (⟨_, fun post postT q => (by unfold wp_Gr_readStatement; exact (qa0 _ ((qa1 _ _ (⟨fun q9 => absurd q9 c2_0, fun q9 => absurd q9 c2_1, fun q9 => absurd q9 c2_2, fun q9 => absurd q9 c2_3, fun q9 => absurd q9 c2_4, fun q9 => absurd q9 c2_5, fun q9 => absurd q9 c2_6, fun q9 => absurd q9 c2_7, fun q9 => absurd q9 c2_8, fun q9 => absurd q9 c2_9, fun _ => (qa3 _ _ (q)), fun q9 => absurd c2_10 (q9.2.2.2.2.2.2.2.2.2.2)⟩))))), fun post postT h => (by unfold wp_Gr_readStatement at h; replace h := qb0 _ h; replace h := qb1 _ _ h; replace h := (h).2.2.2.2.2.2.2.2.2.2.1 c2_10; replace h := qb3 _ _ h; exact h)⟩)
                        · replace h := (h).2.2.2.2.2.2.2.2.2.2.2 ⟨c2_0, c2_1, c2_2, c2_3, c2_4, c2_5, c2_6, c2_7, c2_8, c2_9, c2_10⟩
                          obtain ⟨r85, u85, qa3, qb3⟩ := dt_Nd_endsWithSemicolon h
                          replace h := qb3 _ h
                          rcases br_el h with ⟨c4, h⟩ | ⟨c4, h⟩
                          · obtain ⟨r86, u86, qa5, qb5⟩ := dt_Nd_add h
                            replace h := qb5 _ h
                            exact Or.inl ⟨_, _, fun post postT q => (by unfold wp_Gr_readStatement; exact (qa0 _ ((qa1 _ _ (⟨fun q9 => absurd q9 c2_0, fun q9 => absurd q9 c2_1, fun q9 => absurd q9 c2_2, fun q9 => absurd q9 c2_3, fun q9 => absurd q9 c2_4, fun q9 => absurd q9 c2_5, fun q9 => absurd q9 c2_6, fun q9 => absurd q9 c2_7, fun q9 => absurd q9 c2_8, fun q9 => absurd q9 c2_9, fun q9 => absurd q9 c2_10, fun _ => (qa3 _ ((pT c4 ((qa5 _ (q))))))⟩))))), fun post postT h => (by unfold wp_Gr_readStatement at h; replace h := qb0 _ h; replace h := qb1 _ _ h; replace h := (h).2.2.2.2.2.2.2.2.2.2.2 ⟨c2_0, c2_1, c2_2, c2_3, c2_4, c2_5, c2_6, c2_7, c2_8, c2_9, c2_10⟩; replace h := qb3 _ h; replace h := h.1 c4; replace h := qb5 _ h; exact h)⟩
                          · rcases dt_Gr_take h with ⟨r87, u87, qa5, qb5⟩ | ⟨u, qa5, qb5⟩
                            · replace h := qb5 _ _ h
                              obtain ⟨r88, u88, qa6, qb6⟩ := dt_Nd_add h
                              replace h := qb6 _ h
                              exact Or.inl ⟨_, _, fun post postT q => (by unfold wp_Gr_readStatement; exact (qa0 _ ((qa1 _ _ (⟨fun q9 => absurd q9 c2_0, fun q9 => absurd q9 c2_1, fun q9 => absurd q9 c2_2, fun q9 => absurd q9 c2_3, fun q9 => absurd q9 c2_4, fun q9 => absurd q9 c2_5, fun q9 => absurd q9 c2_6, fun q9 => absurd q9 c2_7, fun q9 => absurd q9 c2_8, fun q9 => absurd q9 c2_9, fun q9 => absurd q9 c2_10, fun _ => (qa3 _ ((pF c4 ((qa5 _ _ ((qa6 _ (q))))))))⟩))))), fun post postT h => (by unfold wp_Gr_readStatement at h; replace h := qb0 _ h; replace h := qb1 _ _ h; replace h := (h).2.2.2.2.2.2.2.2.2.2.2 ⟨c2_0, c2_1, c2_2, c2_3, c2_4, c2_5, c2_6, c2_7, c2_8, c2_9, c2_10⟩; replace h := qb3 _ h; replace h := h.2 c4; replace h := qb5 _ _ h; replace h := qb6 _ h; exact h)⟩
                            · replace h := qb5 _ _ h
                              exact Or.inr (⟨_, fun post postT q => (by unfold wp_Gr_readStatement; exact (qa0 _ ((qa1 _ _ (⟨fun q9 => absurd q9 c2_0, fun q9 => absurd q9 c2_1, fun q9 => absurd q9 c2_2, fun q9 => absurd q9 c2_3, fun q9 => absurd q9 c2_4, fun q9 => absurd q9 c2_5, fun q9 => absurd q9 c2_6, fun q9 => absurd q9 c2_7, fun q9 => absurd q9 c2_8, fun q9 => absurd q9 c2_9, fun q9 => absurd q9 c2_10, fun _ => (qa3 _ ((pF c4 ((qa5 _ _ (q))))))⟩))))), fun post postT h => (by unfold wp_Gr_readStatement at h; replace h := qb0 _ h; replace h := qb1 _ _ h; replace h := (h).2.2.2.2.2.2.2.2.2.2.2 ⟨c2_0, c2_1, c2_2, c2_3, c2_4, c2_5, c2_6, c2_7, c2_8, c2_9, c2_10⟩; replace h := qb3 _ h; replace h := h.2 c4; replace h := qb5 _ _ h; exact h)⟩)
  · replace h := qb1 _ _ h
    exact Or.inr (⟨_, fun post postT q => (by unfold wp_Gr_readStatement; exact (qa0 _ ((qa1 _ _ (q))))), fun post postT h => (by unfold wp_Gr_readStatement at h; replace h := qb0 _ h; replace h := qb1 _ _ h; exact h)⟩)
set_option maxHeartbeats 2000000 in
theorem dt_Gr_readBlock_L30 {d : Nat} {rf : T_Gr → T_Nm → T_Nd → T_Wd → Int32 → (Unit → T_Gr × T_Nm × T_Nd × T_Wd → Prop) → (T_Gr × T_Nm × T_Nd × T_Wd → Prop) → Prop} (hrf : ∀ (v0 : T_Gr) (v1 : T_Nm) (v2 : T_Nd) (v3 : T_Wd) (v4 : Int32) (post : (Unit → T_Gr × T_Nm × T_Nd × T_Wd → Prop)) (postT : (T_Gr × T_Nm × T_Nd × T_Wd → Prop)), rf v0 v1 v2 v3 v4 post postT → (∃ (w0 : Unit) (w1 : T_Gr × T_Nm × T_Nd × T_Wd), (∀ (post : (Unit → T_Gr × T_Nm × T_Nd × T_Wd → Prop)) (postT : (T_Gr × T_Nm × T_Nd × T_Wd → Prop)), post w0 w1 → rf v0 v1 v2 v3 v4 post postT) ∧ (∀ (post : (Unit → T_Gr × T_Nm × T_Nd × T_Wd → Prop)) (postT : (T_Gr × T_Nm × T_Nd × T_Wd → Prop)), rf v0 v1 v2 v3 v4 post postT → post w0 w1)) ∨ (∃ (w0 : T_Gr × T_Nm × T_Nd × T_Wd), (∀ (post : (Unit → T_Gr × T_Nm × T_Nd × T_Wd → Prop)) (postT : (T_Gr × T_Nm × T_Nd × T_Wd → Prop)), postT w0 → rf v0 v1 v2 v3 v4 post postT) ∧ (∀ (post : (Unit → T_Gr × T_Nm × T_Nd × T_Wd → Prop)) (postT : (T_Gr × T_Nm × T_Nd × T_Wd → Prop)), rf v0 v1 v2 v3 v4 post postT → postT w0))) : ∀ (n9 : Nat) (z_this : T_Gr) (z_this_names : T_Nm) (z_this_nodes : T_Nd) (z_this_words : T_Wd) (x1 : Int32) (x2 : Int32) (x3 : Int32) (x4 : Int32) (K : T_Gr → T_Nm → T_Nd → T_Wd → Int32 → Int32 → Int32 → Int32 → Prop) (post : Unit → T_Gr × T_Nm × T_Nd × T_Wd → Prop) (postT : T_Gr × T_Nm × T_Nd × T_Wd → Prop), wp_Gr_readBlock_L30 d rf K post postT n9 z_this z_this_names z_this_nodes z_this_words x1 x2 x3 x4 → (∃ (w0 : T_Gr) (w1 : T_Nm) (w2 : T_Nd) (w3 : T_Wd) (w4 : Int32) (w5 : Int32) (w6 : Int32) (w7 : Int32), (∀ (K : T_Gr → T_Nm → T_Nd → T_Wd → Int32 → Int32 → Int32 → Int32 → Prop) (post : Unit → T_Gr × T_Nm × T_Nd × T_Wd → Prop) (postT : T_Gr × T_Nm × T_Nd × T_Wd → Prop), K w0 w1 w2 w3 w4 w5 w6 w7 → wp_Gr_readBlock_L30 d rf K post postT n9 z_this z_this_names z_this_nodes z_this_words x1 x2 x3 x4) ∧ (∀ (m9 : Nat) (K : T_Gr → T_Nm → T_Nd → T_Wd → Int32 → Int32 → Int32 → Int32 → Prop) (post : Unit → T_Gr × T_Nm × T_Nd × T_Wd → Prop) (postT : T_Gr × T_Nm × T_Nd × T_Wd → Prop), wp_Gr_readBlock_L30 d rf K post postT m9 z_this z_this_names z_this_nodes z_this_words x1 x2 x3 x4 → K w0 w1 w2 w3 w4 w5 w6 w7)) ∨ (∃ (w0 : Unit) (w1 : T_Gr × T_Nm × T_Nd × T_Wd), (∀ (K : T_Gr → T_Nm → T_Nd → T_Wd → Int32 → Int32 → Int32 → Int32 → Prop) (post : Unit → T_Gr × T_Nm × T_Nd × T_Wd → Prop) (postT : T_Gr × T_Nm × T_Nd × T_Wd → Prop), post w0 w1 → wp_Gr_readBlock_L30 d rf K post postT n9 z_this z_this_names z_this_nodes z_this_words x1 x2 x3 x4) ∧ (∀ (m9 : Nat) (K : T_Gr → T_Nm → T_Nd → T_Wd → Int32 → Int32 → Int32 → Int32 → Prop) (post : Unit → T_Gr × T_Nm × T_Nd × T_Wd → Prop) (postT : T_Gr × T_Nm × T_Nd × T_Wd → Prop), wp_Gr_readBlock_L30 d rf K post postT m9 z_this z_this_names z_this_nodes z_this_words x1 x2 x3 x4 → post w0 w1)) ∨ (∃ (w0 : T_Gr × T_Nm × T_Nd × T_Wd), (∀ (K : T_Gr → T_Nm → T_Nd → T_Wd → Int32 → Int32 → Int32 → Int32 → Prop) (post : Unit → T_Gr × T_Nm × T_Nd × T_Wd → Prop) (postT : T_Gr × T_Nm × T_Nd × T_Wd → Prop), postT w0 → wp_Gr_readBlock_L30 d rf K post postT n9 z_this z_this_names z_this_nodes z_this_words x1 x2 x3 x4) ∧ (∀ (m9 : Nat) (K : T_Gr → T_Nm → T_Nd → T_Wd → Int32 → Int32 → Int32 → Int32 → Prop) (post : Unit → T_Gr × T_Nm × T_Nd × T_Wd → Prop) (postT : T_Gr × T_Nm × T_Nd × T_Wd → Prop), wp_Gr_readBlock_L30 d rf K post postT m9 z_this z_this_names z_this_nodes z_this_words x1 x2 x3 x4 → postT w0)) := by
  intro n9
  induction n9 with
  | zero => intro z_this z_this_names z_this_nodes z_this_words x1 x2 x3 x4 K post postT h; exact False.elim h
  | succ n9 ih =>
    intro z_this z_this_names z_this_nodes z_this_words x1 x2 x3 x4 K post postT h
    rw [wp_Gr_readBlock_L30] at h
    rcases br_el h with ⟨c0, h⟩ | ⟨c0, h⟩
    · exact Or.inl ⟨_, _, _, _, _, _, _, _, fun K post postT q => (by rw [wp_Gr_readBlock_L30]; exact (pT c0 (q))), fun m9 K post postT h => (by cases m9 with | zero => exact False.elim h | succ m9 => (rw [wp_Gr_readBlock_L30] at h; replace h := h.1 c0; exact h))⟩
    · obtain ⟨r4, u4, qa1, qb1⟩ := dt_Gr_isBetween h
      replace h := qb1 _ h
      rcases br_el h with ⟨c2, h⟩ | ⟨c2, h⟩
      · exact Or.inl ⟨_, _, _, _, _, _, _, _, fun K post postT q => (by rw [wp_Gr_readBlock_L30]; exact (pF c0 ((qa1 _ ((pT c2 (q))))))), fun m9 K post postT h => (by cases m9 with | zero => exact False.elim h | succ m9 => (rw [wp_Gr_readBlock_L30] at h; replace h := h.2 c0; replace h := qb1 _ h; replace h := h.1 c2; exact h))⟩
      · rcases dt_Gr_readStatement hrf h with ⟨r5, u5, qa3, qb3⟩ | ⟨u, qa3, qb3⟩
        · replace h := qb3 _ _ h
          rcases ih _ _ _ _ _ _ _ _ _ _ _ h with ⟨w4_0, w4_1, w4_2, w4_3, w4_4, w4_5, w4_6, w4_7, qa4, qb4⟩ | ⟨w4_0, w4_1, qa4, qb4⟩ | ⟨w4_0, qa4, qb4⟩
          · exact Or.inl ⟨_, _, _, _, _, _, _, _, fun K post postT q => (by rw [wp_Gr_readBlock_L30]; exact (pF c0 ((qa1 _ ((pF c2 ((qa3 _ _ ((qa4 _ _ _ (q))))))))))), fun m9 K post postT h => (by cases m9 with | zero => exact False.elim h | succ m9 => (rw [wp_Gr_readBlock_L30] at h; replace h := h.2 c0; replace h := qb1 _ h; replace h := h.2 c2; replace h := qb3 _ _ h; replace h := qb4 m9 _ _ _ h; exact h))⟩
          · exact Or.inr (Or.inl ⟨_, _, fun K post postT q => (by rw [wp_Gr_readBlock_L30]; exact (pF c0 ((qa1 _ ((pF c2 ((qa3 _ _ ((qa4 _ _ _ (q))))))))))), fun m9 K post postT h => (by cases m9 with | zero => exact False.elim h | succ m9 => (rw [wp_Gr_readBlock_L30] at h; replace h := h.2 c0; replace h := qb1 _ h; replace h := h.2 c2; replace h := qb3 _ _ h; replace h := qb4 m9 _ _ _ h; exact h))⟩)
          · exact Or.inr (Or.inr (⟨_, fun K post postT q => (by rw [wp_Gr_readBlock_L30]; exact (pF c0 ((qa1 _ ((pF c2 ((qa3 _ _ ((qa4 _ _ _ (q))))))))))), fun m9 K post postT h => (by cases m9 with | zero => exact False.elim h | succ m9 => (rw [wp_Gr_readBlock_L30] at h; replace h := h.2 c0; replace h := qb1 _ h; replace h := h.2 c2; replace h := qb3 _ _ h; replace h := qb4 m9 _ _ _ h; exact h))⟩))
        · replace h := qb3 _ _ h
          exact Or.inr (Or.inr (⟨_, fun K post postT q => (by rw [wp_Gr_readBlock_L30]; exact (pF c0 ((qa1 _ ((pF c2 ((qa3 _ _ (q))))))))), fun m9 K post postT h => (by cases m9 with | zero => exact False.elim h | succ m9 => (rw [wp_Gr_readBlock_L30] at h; replace h := h.2 c0; replace h := qb1 _ h; replace h := h.2 c2; replace h := qb3 _ _ h; exact h))⟩))
set_option maxHeartbeats 2000000 in
theorem dt_Gr_readBlock_F {d : Nat} {rf : T_Gr → T_Nm → T_Nd → T_Wd → Int32 → (Unit → T_Gr × T_Nm × T_Nd × T_Wd → Prop) → (T_Gr × T_Nm × T_Nd × T_Wd → Prop) → Prop} {z_this : T_Gr} {z_this_names : T_Nm} {z_this_nodes : T_Nd} {z_this_words : T_Wd} {a1 : Int32} (hrf : ∀ (v0 : T_Gr) (v1 : T_Nm) (v2 : T_Nd) (v3 : T_Wd) (v4 : Int32) (post : (Unit → T_Gr × T_Nm × T_Nd × T_Wd → Prop)) (postT : (T_Gr × T_Nm × T_Nd × T_Wd → Prop)), rf v0 v1 v2 v3 v4 post postT → (∃ (w0 : Unit) (w1 : T_Gr × T_Nm × T_Nd × T_Wd), (∀ (post : (Unit → T_Gr × T_Nm × T_Nd × T_Wd → Prop)) (postT : (T_Gr × T_Nm × T_Nd × T_Wd → Prop)), post w0 w1 → rf v0 v1 v2 v3 v4 post postT) ∧ (∀ (post : (Unit → T_Gr × T_Nm × T_Nd × T_Wd → Prop)) (postT : (T_Gr × T_Nm × T_Nd × T_Wd → Prop)), rf v0 v1 v2 v3 v4 post postT → post w0 w1)) ∨ (∃ (w0 : T_Gr × T_Nm × T_Nd × T_Wd), (∀ (post : (Unit → T_Gr × T_Nm × T_Nd × T_Wd → Prop)) (postT : (T_Gr × T_Nm × T_Nd × T_Wd → Prop)), postT w0 → rf v0 v1 v2 v3 v4 post postT) ∧ (∀ (post : (Unit → T_Gr × T_Nm × T_Nd × T_Wd → Prop)) (postT : (T_Gr × T_Nm × T_Nd × T_Wd → Prop)), rf v0 v1 v2 v3 v4 post postT → postT w0))) {post : Unit → T_Gr × T_Nm × T_Nd × T_Wd → Prop} {postT : T_Gr × T_Nm × T_Nd × T_Wd → Prop} (h : wp_Gr_readBlock_F d rf z_this z_this_names z_this_nodes z_this_words a1 post postT) : (∃ (w0 : Unit) (w1 : T_Gr × T_Nm × T_Nd × T_Wd), (∀ (post : Unit → T_Gr × T_Nm × T_Nd × T_Wd → Prop) (postT : T_Gr × T_Nm × T_Nd × T_Wd → Prop), post w0 w1 → wp_Gr_readBlock_F d rf z_this z_this_names z_this_nodes z_this_words a1 post postT) ∧ (∀ (post : Unit → T_Gr × T_Nm × T_Nd × T_Wd → Prop) (postT : T_Gr × T_Nm × T_Nd × T_Wd → Prop), wp_Gr_readBlock_F d rf z_this z_this_names z_this_nodes z_this_words a1 post postT → post w0 w1)) ∨ (∃ (w0 : T_Gr × T_Nm × T_Nd × T_Wd), (∀ (post : Unit → T_Gr × T_Nm × T_Nd × T_Wd → Prop) (postT : T_Gr × T_Nm × T_Nd × T_Wd → Prop), postT w0 → wp_Gr_readBlock_F d rf z_this z_this_names z_this_nodes z_this_words a1 post postT) ∧ (∀ (post : Unit → T_Gr × T_Nm × T_Nd × T_Wd → Prop) (postT : T_Gr × T_Nm × T_Nd × T_Wd → Prop), wp_Gr_readBlock_F d rf z_this z_this_names z_this_nodes z_this_words a1 post postT → postT w0)) := by
  unfold wp_Gr_readBlock_F at h
  obtain ⟨r1, u1, qa0, qb0⟩ := dt_Nd_count h
  replace h := qb0 _ h
  rcases dt_Gr_refuseOneMore h with ⟨r2, u2, qa1, qb1⟩ | ⟨u, qa1, qb1⟩
  · replace h := qb1 _ _ h
    rcases dt_Gr_take h with ⟨r3, u3, qa2, qb2⟩ | ⟨u, qa2, qb2⟩
    · replace h := qb2 _ _ h
      obtain ⟨k3, h⟩ := h
      rcases dt_Gr_readBlock_L30 hrf k3 _ _ _ _ _ _ _ _ _ _ _ h with ⟨z_this, z_this_names, z_this_nodes, z_this_words, x1, x2, x3, x4, qa3, qb3⟩ | ⟨w3_0, w3_1, qa3, qb3⟩ | ⟨w3_0, qa3, qb3⟩
      · replace h := qb3 k3 _ _ _ h
        rcases dt_Gr_take h with ⟨r6, u6, qa4, qb4⟩ | ⟨u, qa4, qb4⟩
        · replace h := qb4 _ _ h
          obtain ⟨r7, u7, qa5, qb5⟩ := dt_Nd_add h
          replace h := qb5 _ h
          exact Or.inl ⟨_, _, fun post postT q => (by unfold wp_Gr_readBlock_F; exact (qa0 _ ((qa1 _ _ ((qa2 _ _ (⟨k3, (qa3 _ _ _ ((qa4 _ _ ((qa5 _ (q))))))⟩))))))), fun post postT h => (by unfold wp_Gr_readBlock_F at h; replace h := qb0 _ h; replace h := qb1 _ _ h; replace h := qb2 _ _ h; obtain ⟨m3, h⟩ := h; replace h := qb3 m3 _ _ _ h; replace h := qb4 _ _ h; replace h := qb5 _ h; exact h)⟩
        · replace h := qb4 _ _ h
          exact Or.inr (⟨_, fun post postT q => (by unfold wp_Gr_readBlock_F; exact (qa0 _ ((qa1 _ _ ((qa2 _ _ (⟨k3, (qa3 _ _ _ ((qa4 _ _ (q))))⟩))))))), fun post postT h => (by unfold wp_Gr_readBlock_F at h; replace h := qb0 _ h; replace h := qb1 _ _ h; replace h := qb2 _ _ h; obtain ⟨m3, h⟩ := h; replace h := qb3 m3 _ _ _ h; replace h := qb4 _ _ h; exact h)⟩)
      · exact Or.inl ⟨_, _, fun post postT q => (by unfold wp_Gr_readBlock_F; exact (qa0 _ ((qa1 _ _ ((qa2 _ _ (⟨k3, (qa3 _ _ _ (q))⟩))))))), fun post postT h => (by unfold wp_Gr_readBlock_F at h; replace h := qb0 _ h; replace h := qb1 _ _ h; replace h := qb2 _ _ h; obtain ⟨m3, h⟩ := h; replace h := qb3 m3 _ _ _ h; exact h)⟩
      · exact Or.inr (⟨_, fun post postT q => (by unfold wp_Gr_readBlock_F; exact (qa0 _ ((qa1 _ _ ((qa2 _ _ (⟨k3, (qa3 _ _ _ (q))⟩))))))), fun post postT h => (by unfold wp_Gr_readBlock_F at h; replace h := qb0 _ h; replace h := qb1 _ _ h; replace h := qb2 _ _ h; obtain ⟨m3, h⟩ := h; replace h := qb3 m3 _ _ _ h; exact h)⟩)
    · replace h := qb2 _ _ h
      exact Or.inr (⟨_, fun post postT q => (by unfold wp_Gr_readBlock_F; exact (qa0 _ ((qa1 _ _ ((qa2 _ _ (q))))))), fun post postT h => (by unfold wp_Gr_readBlock_F at h; replace h := qb0 _ h; replace h := qb1 _ _ h; replace h := qb2 _ _ h; exact h)⟩)
  · replace h := qb1 _ _ h
    exact Or.inr (⟨_, fun post postT q => (by unfold wp_Gr_readBlock_F; exact (qa0 _ ((qa1 _ _ (q))))), fun post postT h => (by unfold wp_Gr_readBlock_F at h; replace h := qb0 _ h; replace h := qb1 _ _ h; exact h)⟩)
theorem dt_Gr_readBlock (d : Nat) : ∀ (e : Nat), ∀ (v0 : T_Gr) (v1 : T_Nm) (v2 : T_Nd) (v3 : T_Wd) (v4 : Int32) (post : (Unit → T_Gr × T_Nm × T_Nd × T_Wd → Prop)) (postT : (T_Gr × T_Nm × T_Nd × T_Wd → Prop)), wp_Gr_readBlock d e v0 v1 v2 v3 v4 post postT → (∃ (w0 : Unit) (w1 : T_Gr × T_Nm × T_Nd × T_Wd), (∀ (post : (Unit → T_Gr × T_Nm × T_Nd × T_Wd → Prop)) (postT : (T_Gr × T_Nm × T_Nd × T_Wd → Prop)), post w0 w1 → wp_Gr_readBlock d e v0 v1 v2 v3 v4 post postT) ∧ (∀ (post : (Unit → T_Gr × T_Nm × T_Nd × T_Wd → Prop)) (postT : (T_Gr × T_Nm × T_Nd × T_Wd → Prop)), wp_Gr_readBlock d e v0 v1 v2 v3 v4 post postT → post w0 w1)) ∨ (∃ (w0 : T_Gr × T_Nm × T_Nd × T_Wd), (∀ (post : (Unit → T_Gr × T_Nm × T_Nd × T_Wd → Prop)) (postT : (T_Gr × T_Nm × T_Nd × T_Wd → Prop)), postT w0 → wp_Gr_readBlock d e v0 v1 v2 v3 v4 post postT) ∧ (∀ (post : (Unit → T_Gr × T_Nm × T_Nd × T_Wd → Prop)) (postT : (T_Gr × T_Nm × T_Nd × T_Wd → Prop)), wp_Gr_readBlock d e v0 v1 v2 v3 v4 post postT → postT w0)) := by
  intro e
  induction e with
  | zero => intro v0 v1 v2 v3 v4 post postT h; exact False.elim h
  | succ e ih =>
    intro v0 v1 v2 v3 v4 post postT h
    exact dt_Gr_readBlock_F ih h
set_option maxHeartbeats 2000000 in
theorem dt_Gr_readInto_L22 {d : Nat} {dB : Nat} {z_a1 : T_Pr} : ∀ (n9 : Nat) (z_a1_names : T_Nm) (z_a1_nodes : T_Nd) (z_this : T_Gr) (z_this_words : T_Wd) (x2 : Int32) (K : T_Nm → T_Nd → T_Gr → T_Wd → Int32 → Prop) (post : Unit → T_Nm × T_Nd × T_Gr × T_Wd → Prop) (postT : T_Nm × T_Nd × T_Gr × T_Wd → Prop), wp_Gr_readInto_L22 d dB z_a1 K post postT n9 z_a1_names z_a1_nodes z_this z_this_words x2 → (∃ (w0 : T_Nm) (w1 : T_Nd) (w2 : T_Gr) (w3 : T_Wd) (w4 : Int32), (∀ (K : T_Nm → T_Nd → T_Gr → T_Wd → Int32 → Prop) (post : Unit → T_Nm × T_Nd × T_Gr × T_Wd → Prop) (postT : T_Nm × T_Nd × T_Gr × T_Wd → Prop), K w0 w1 w2 w3 w4 → wp_Gr_readInto_L22 d dB z_a1 K post postT n9 z_a1_names z_a1_nodes z_this z_this_words x2) ∧ (∀ (m9 : Nat) (K : T_Nm → T_Nd → T_Gr → T_Wd → Int32 → Prop) (post : Unit → T_Nm × T_Nd × T_Gr × T_Wd → Prop) (postT : T_Nm × T_Nd × T_Gr × T_Wd → Prop), wp_Gr_readInto_L22 d dB z_a1 K post postT m9 z_a1_names z_a1_nodes z_this z_this_words x2 → K w0 w1 w2 w3 w4)) ∨ (∃ (w0 : Unit) (w1 : T_Nm × T_Nd × T_Gr × T_Wd), (∀ (K : T_Nm → T_Nd → T_Gr → T_Wd → Int32 → Prop) (post : Unit → T_Nm × T_Nd × T_Gr × T_Wd → Prop) (postT : T_Nm × T_Nd × T_Gr × T_Wd → Prop), post w0 w1 → wp_Gr_readInto_L22 d dB z_a1 K post postT n9 z_a1_names z_a1_nodes z_this z_this_words x2) ∧ (∀ (m9 : Nat) (K : T_Nm → T_Nd → T_Gr → T_Wd → Int32 → Prop) (post : Unit → T_Nm × T_Nd × T_Gr × T_Wd → Prop) (postT : T_Nm × T_Nd × T_Gr × T_Wd → Prop), wp_Gr_readInto_L22 d dB z_a1 K post postT m9 z_a1_names z_a1_nodes z_this z_this_words x2 → post w0 w1)) ∨ (∃ (w0 : T_Nm × T_Nd × T_Gr × T_Wd), (∀ (K : T_Nm → T_Nd → T_Gr → T_Wd → Int32 → Prop) (post : Unit → T_Nm × T_Nd × T_Gr × T_Wd → Prop) (postT : T_Nm × T_Nd × T_Gr × T_Wd → Prop), postT w0 → wp_Gr_readInto_L22 d dB z_a1 K post postT n9 z_a1_names z_a1_nodes z_this z_this_words x2) ∧ (∀ (m9 : Nat) (K : T_Nm → T_Nd → T_Gr → T_Wd → Int32 → Prop) (post : Unit → T_Nm × T_Nd × T_Gr × T_Wd → Prop) (postT : T_Nm × T_Nd × T_Gr × T_Wd → Prop), wp_Gr_readInto_L22 d dB z_a1 K post postT m9 z_a1_names z_a1_nodes z_this z_this_words x2 → postT w0)) := by
  intro n9
  induction n9 with
  | zero => intro z_a1_names z_a1_nodes z_this z_this_words x2 K post postT h; exact False.elim h
  | succ n9 ih =>
    intro z_a1_names z_a1_nodes z_this z_this_words x2 K post postT h
    rw [wp_Gr_readInto_L22] at h
    rcases br_el h with ⟨c0, h⟩ | ⟨c0, h⟩
    · exact Or.inl ⟨_, _, _, _, _, fun K post postT q => (by rw [wp_Gr_readInto_L22]; exact (pT c0 (q))), fun m9 K post postT h => (by cases m9 with | zero => exact False.elim h | succ m9 => (rw [wp_Gr_readInto_L22] at h; replace h := h.1 c0; exact h))⟩
    · obtain ⟨r4, u4, qa1, qb1⟩ := dt_Gr_isBetween h
      replace h := qb1 _ h
      rcases br_el h with ⟨c2, h⟩ | ⟨c2, h⟩
      · exact Or.inl ⟨_, _, _, _, _, fun K post postT q => (by rw [wp_Gr_readInto_L22]; exact (pF c0 ((qa1 _ ((pT c2 (q))))))), fun m9 K post postT h => (by cases m9 with | zero => exact False.elim h | succ m9 => (rw [wp_Gr_readInto_L22] at h; replace h := h.2 c0; replace h := qb1 _ h; replace h := h.1 c2; exact h))⟩
      · rcases dt_Gr_readNewName h with ⟨r5, u5, qa3, qb3⟩ | ⟨u, qa3, qb3⟩
        · replace h := qb3 _ _ h
          rcases br_el h with ⟨c4, h⟩ | ⟨c4, h⟩
          · obtain ⟨r9, u9, qa5, qb5⟩ := dt_Nd_count h
            replace h := qb5 _ h
            rcases dt_Gr_readBlock d dB _ _ _ _ _ _ _ h with ⟨r10, u10, qa6, qb6⟩ | ⟨u, qa6, qb6⟩
            · replace h := qb6 _ _ h
              obtain ⟨r11, u11, qa7, qb7⟩ := dt_Nm_count h
              replace h := qb7 _ h
              obtain ⟨r12, u12, qa8, qb8⟩ := dt_Nd_add h
              replace h := qb8 _ h
              obtain ⟨r13, u13, qa9, qb9⟩ := dt_Nm_tell h
              replace h := qb9 _ h
              rcases ih _ _ _ _ _ _ _ _ h with ⟨w10_0, w10_1, w10_2, w10_3, w10_4, qa10, qb10⟩ | ⟨w10_0, w10_1, qa10, qb10⟩ | ⟨w10_0, qa10, qb10⟩
              · exact Or.inl ⟨_, _, _, _, _, fun K post postT q => (by rw [wp_Gr_readInto_L22]; exact (pF c0 ((qa1 _ ((pF c2 ((qa3 _ _ ((pT c4 ((qa5 _ ((qa6 _ _ ((qa7 _ ((qa8 _ ((qa9 _ ((qa10 _ _ _ (q))))))))))))))))))))))), fun m9 K post postT h => (by cases m9 with | zero => exact False.elim h | succ m9 => (rw [wp_Gr_readInto_L22] at h; replace h := h.2 c0; replace h := qb1 _ h; replace h := h.2 c2; replace h := qb3 _ _ h; replace h := h.1 c4; replace h := qb5 _ h; replace h := qb6 _ _ h; replace h := qb7 _ h; replace h := qb8 _ h; replace h := qb9 _ h; replace h := qb10 m9 _ _ _ h; exact h))⟩
              · exact Or.inr (Or.inl ⟨_, _, fun K post postT q => (by rw [wp_Gr_readInto_L22]; exact (pF c0 ((qa1 _ ((pF c2 ((qa3 _ _ ((pT c4 ((qa5 _ ((qa6 _ _ ((qa7 _ ((qa8 _ ((qa9 _ ((qa10 _ _ _ (q))))))))))))))))))))))), fun m9 K post postT h => (by cases m9 with | zero => exact False.elim h | succ m9 => (rw [wp_Gr_readInto_L22] at h; replace h := h.2 c0; replace h := qb1 _ h; replace h := h.2 c2; replace h := qb3 _ _ h; replace h := h.1 c4; replace h := qb5 _ h; replace h := qb6 _ _ h; replace h := qb7 _ h; replace h := qb8 _ h; replace h := qb9 _ h; replace h := qb10 m9 _ _ _ h; exact h))⟩)
              · exact Or.inr (Or.inr (⟨_, fun K post postT q => (by rw [wp_Gr_readInto_L22]; exact (pF c0 ((qa1 _ ((pF c2 ((qa3 _ _ ((pT c4 ((qa5 _ ((qa6 _ _ ((qa7 _ ((qa8 _ ((qa9 _ ((qa10 _ _ _ (q))))))))))))))))))))))), fun m9 K post postT h => (by cases m9 with | zero => exact False.elim h | succ m9 => (rw [wp_Gr_readInto_L22] at h; replace h := h.2 c0; replace h := qb1 _ h; replace h := h.2 c2; replace h := qb3 _ _ h; replace h := h.1 c4; replace h := qb5 _ h; replace h := qb6 _ _ h; replace h := qb7 _ h; replace h := qb8 _ h; replace h := qb9 _ h; replace h := qb10 m9 _ _ _ h; exact h))⟩))
            · replace h := qb6 _ _ h
              exact Or.inr (Or.inr (⟨_, fun K post postT q => (by rw [wp_Gr_readInto_L22]; exact (pF c0 ((qa1 _ ((pF c2 ((qa3 _ _ ((pT c4 ((qa5 _ ((qa6 _ _ (q))))))))))))))), fun m9 K post postT h => (by cases m9 with | zero => exact False.elim h | succ m9 => (rw [wp_Gr_readInto_L22] at h; replace h := h.2 c0; replace h := qb1 _ h; replace h := h.2 c2; replace h := qb3 _ _ h; replace h := h.1 c4; replace h := qb5 _ h; replace h := qb6 _ _ h; exact h))⟩))
          · rcases dt_Gr_readUnit h with ⟨r6, u6, qa5, qb5⟩ | ⟨u, qa5, qb5⟩
            · replace h := qb5 _ _ h
              rcases dt_Gr_take h with ⟨r7, u7, qa6, qb6⟩ | ⟨u, qa6, qb6⟩
              · replace h := qb6 _ _ h
                obtain ⟨r8, u8, qa7, qb7⟩ := dt_Nm_tell h
                replace h := qb7 _ h
                rcases ih _ _ _ _ _ _ _ _ h with ⟨w8_0, w8_1, w8_2, w8_3, w8_4, qa8, qb8⟩ | ⟨w8_0, w8_1, qa8, qb8⟩ | ⟨w8_0, qa8, qb8⟩
                · exact Or.inl ⟨_, _, _, _, _, fun K post postT q => (by rw [wp_Gr_readInto_L22]; exact (pF c0 ((qa1 _ ((pF c2 ((qa3 _ _ ((pF c4 ((qa5 _ _ ((qa6 _ _ ((qa7 _ ((qa8 _ _ _ (q))))))))))))))))))), fun m9 K post postT h => (by cases m9 with | zero => exact False.elim h | succ m9 => (rw [wp_Gr_readInto_L22] at h; replace h := h.2 c0; replace h := qb1 _ h; replace h := h.2 c2; replace h := qb3 _ _ h; replace h := h.2 c4; replace h := qb5 _ _ h; replace h := qb6 _ _ h; replace h := qb7 _ h; replace h := qb8 m9 _ _ _ h; exact h))⟩
                · exact Or.inr (Or.inl ⟨_, _, fun K post postT q => (by rw [wp_Gr_readInto_L22]; exact (pF c0 ((qa1 _ ((pF c2 ((qa3 _ _ ((pF c4 ((qa5 _ _ ((qa6 _ _ ((qa7 _ ((qa8 _ _ _ (q))))))))))))))))))), fun m9 K post postT h => (by cases m9 with | zero => exact False.elim h | succ m9 => (rw [wp_Gr_readInto_L22] at h; replace h := h.2 c0; replace h := qb1 _ h; replace h := h.2 c2; replace h := qb3 _ _ h; replace h := h.2 c4; replace h := qb5 _ _ h; replace h := qb6 _ _ h; replace h := qb7 _ h; replace h := qb8 m9 _ _ _ h; exact h))⟩)
                · exact Or.inr (Or.inr (⟨_, fun K post postT q => (by rw [wp_Gr_readInto_L22]; exact (pF c0 ((qa1 _ ((pF c2 ((qa3 _ _ ((pF c4 ((qa5 _ _ ((qa6 _ _ ((qa7 _ ((qa8 _ _ _ (q))))))))))))))))))), fun m9 K post postT h => (by cases m9 with | zero => exact False.elim h | succ m9 => (rw [wp_Gr_readInto_L22] at h; replace h := h.2 c0; replace h := qb1 _ h; replace h := h.2 c2; replace h := qb3 _ _ h; replace h := h.2 c4; replace h := qb5 _ _ h; replace h := qb6 _ _ h; replace h := qb7 _ h; replace h := qb8 m9 _ _ _ h; exact h))⟩))
              · replace h := qb6 _ _ h
                exact Or.inr (Or.inr (⟨_, fun K post postT q => (by rw [wp_Gr_readInto_L22]; exact (pF c0 ((qa1 _ ((pF c2 ((qa3 _ _ ((pF c4 ((qa5 _ _ ((qa6 _ _ (q))))))))))))))), fun m9 K post postT h => (by cases m9 with | zero => exact False.elim h | succ m9 => (rw [wp_Gr_readInto_L22] at h; replace h := h.2 c0; replace h := qb1 _ h; replace h := h.2 c2; replace h := qb3 _ _ h; replace h := h.2 c4; replace h := qb5 _ _ h; replace h := qb6 _ _ h; exact h))⟩))
            · replace h := qb5 _ _ h
              exact Or.inr (Or.inr (⟨_, fun K post postT q => (by rw [wp_Gr_readInto_L22]; exact (pF c0 ((qa1 _ ((pF c2 ((qa3 _ _ ((pF c4 ((qa5 _ _ (q))))))))))))), fun m9 K post postT h => (by cases m9 with | zero => exact False.elim h | succ m9 => (rw [wp_Gr_readInto_L22] at h; replace h := h.2 c0; replace h := qb1 _ h; replace h := h.2 c2; replace h := qb3 _ _ h; replace h := h.2 c4; replace h := qb5 _ _ h; exact h))⟩))
        · replace h := qb3 _ _ h
          exact Or.inr (Or.inr (⟨_, fun K post postT q => (by rw [wp_Gr_readInto_L22]; exact (pF c0 ((qa1 _ ((pF c2 ((qa3 _ _ (q))))))))), fun m9 K post postT h => (by cases m9 with | zero => exact False.elim h | succ m9 => (rw [wp_Gr_readInto_L22] at h; replace h := h.2 c0; replace h := qb1 _ h; replace h := h.2 c2; replace h := qb3 _ _ h; exact h))⟩))
set_option maxHeartbeats 2000000 in
theorem dt_Gr_readInto_L147 {d : Nat} {dB : Nat} {z_a1 : T_Pr} : ∀ (n9 : Nat) (z_a1_names : T_Nm) (z_a1_nodes : T_Nd) (z_this : T_Gr) (z_this_words : T_Wd) (x2 : Int32) (K : T_Nm → T_Nd → T_Gr → T_Wd → Int32 → Prop) (post : Unit → T_Nm × T_Nd × T_Gr × T_Wd → Prop) (postT : T_Nm × T_Nd × T_Gr × T_Wd → Prop), wp_Gr_readInto_L147 d dB z_a1 K post postT n9 z_a1_names z_a1_nodes z_this z_this_words x2 → (∃ (w0 : T_Nm) (w1 : T_Nd) (w2 : T_Gr) (w3 : T_Wd) (w4 : Int32), (∀ (K : T_Nm → T_Nd → T_Gr → T_Wd → Int32 → Prop) (post : Unit → T_Nm × T_Nd × T_Gr × T_Wd → Prop) (postT : T_Nm × T_Nd × T_Gr × T_Wd → Prop), K w0 w1 w2 w3 w4 → wp_Gr_readInto_L147 d dB z_a1 K post postT n9 z_a1_names z_a1_nodes z_this z_this_words x2) ∧ (∀ (m9 : Nat) (K : T_Nm → T_Nd → T_Gr → T_Wd → Int32 → Prop) (post : Unit → T_Nm × T_Nd × T_Gr × T_Wd → Prop) (postT : T_Nm × T_Nd × T_Gr × T_Wd → Prop), wp_Gr_readInto_L147 d dB z_a1 K post postT m9 z_a1_names z_a1_nodes z_this z_this_words x2 → K w0 w1 w2 w3 w4)) ∨ (∃ (w0 : Unit) (w1 : T_Nm × T_Nd × T_Gr × T_Wd), (∀ (K : T_Nm → T_Nd → T_Gr → T_Wd → Int32 → Prop) (post : Unit → T_Nm × T_Nd × T_Gr × T_Wd → Prop) (postT : T_Nm × T_Nd × T_Gr × T_Wd → Prop), post w0 w1 → wp_Gr_readInto_L147 d dB z_a1 K post postT n9 z_a1_names z_a1_nodes z_this z_this_words x2) ∧ (∀ (m9 : Nat) (K : T_Nm → T_Nd → T_Gr → T_Wd → Int32 → Prop) (post : Unit → T_Nm × T_Nd × T_Gr × T_Wd → Prop) (postT : T_Nm × T_Nd × T_Gr × T_Wd → Prop), wp_Gr_readInto_L147 d dB z_a1 K post postT m9 z_a1_names z_a1_nodes z_this z_this_words x2 → post w0 w1)) ∨ (∃ (w0 : T_Nm × T_Nd × T_Gr × T_Wd), (∀ (K : T_Nm → T_Nd → T_Gr → T_Wd → Int32 → Prop) (post : Unit → T_Nm × T_Nd × T_Gr × T_Wd → Prop) (postT : T_Nm × T_Nd × T_Gr × T_Wd → Prop), postT w0 → wp_Gr_readInto_L147 d dB z_a1 K post postT n9 z_a1_names z_a1_nodes z_this z_this_words x2) ∧ (∀ (m9 : Nat) (K : T_Nm → T_Nd → T_Gr → T_Wd → Int32 → Prop) (post : Unit → T_Nm × T_Nd × T_Gr × T_Wd → Prop) (postT : T_Nm × T_Nd × T_Gr × T_Wd → Prop), wp_Gr_readInto_L147 d dB z_a1 K post postT m9 z_a1_names z_a1_nodes z_this z_this_words x2 → postT w0)) := by
  intro n9
  induction n9 with
  | zero => intro z_a1_names z_a1_nodes z_this z_this_words x2 K post postT h; exact False.elim h
  | succ n9 ih =>
    intro z_a1_names z_a1_nodes z_this z_this_words x2 K post postT h
    rw [wp_Gr_readInto_L147] at h
    rcases br_el h with ⟨c0, h⟩ | ⟨c0, h⟩
    · exact Or.inl ⟨_, _, _, _, _, fun K post postT q => (by rw [wp_Gr_readInto_L147]; exact (pT c0 (q))), fun m9 K post postT h => (by cases m9 with | zero => exact False.elim h | succ m9 => (rw [wp_Gr_readInto_L147] at h; replace h := h.1 c0; exact h))⟩
    · obtain ⟨r14, u14, qa1, qb1⟩ := dt_Gr_isBetween h
      replace h := qb1 _ h
      rcases br_el h with ⟨c2, h⟩ | ⟨c2, h⟩
      · exact Or.inl ⟨_, _, _, _, _, fun K post postT q => (by rw [wp_Gr_readInto_L147]; exact (pF c0 ((qa1 _ ((pT c2 (q))))))), fun m9 K post postT h => (by cases m9 with | zero => exact False.elim h | succ m9 => (rw [wp_Gr_readInto_L147] at h; replace h := h.2 c0; replace h := qb1 _ h; replace h := h.1 c2; exact h))⟩
      · rcases dt_Gr_readStatement (dt_Gr_readBlock d dB) h with ⟨r15, u15, qa3, qb3⟩ | ⟨u, qa3, qb3⟩
        · replace h := qb3 _ _ h
          rcases ih _ _ _ _ _ _ _ _ h with ⟨w4_0, w4_1, w4_2, w4_3, w4_4, qa4, qb4⟩ | ⟨w4_0, w4_1, qa4, qb4⟩ | ⟨w4_0, qa4, qb4⟩
          · exact Or.inl ⟨_, _, _, _, _, fun K post postT q => (by rw [wp_Gr_readInto_L147]; exact (pF c0 ((qa1 _ ((pF c2 ((qa3 _ _ ((qa4 _ _ _ (q))))))))))), fun m9 K post postT h => (by cases m9 with | zero => exact False.elim h | succ m9 => (rw [wp_Gr_readInto_L147] at h; replace h := h.2 c0; replace h := qb1 _ h; replace h := h.2 c2; replace h := qb3 _ _ h; replace h := qb4 m9 _ _ _ h; exact h))⟩
          · exact Or.inr (Or.inl ⟨_, _, fun K post postT q => (by rw [wp_Gr_readInto_L147]; exact (pF c0 ((qa1 _ ((pF c2 ((qa3 _ _ ((qa4 _ _ _ (q))))))))))), fun m9 K post postT h => (by cases m9 with | zero => exact False.elim h | succ m9 => (rw [wp_Gr_readInto_L147] at h; replace h := h.2 c0; replace h := qb1 _ h; replace h := h.2 c2; replace h := qb3 _ _ h; replace h := qb4 m9 _ _ _ h; exact h))⟩)
          · exact Or.inr (Or.inr (⟨_, fun K post postT q => (by rw [wp_Gr_readInto_L147]; exact (pF c0 ((qa1 _ ((pF c2 ((qa3 _ _ ((qa4 _ _ _ (q))))))))))), fun m9 K post postT h => (by cases m9 with | zero => exact False.elim h | succ m9 => (rw [wp_Gr_readInto_L147] at h; replace h := h.2 c0; replace h := qb1 _ h; replace h := h.2 c2; replace h := qb3 _ _ h; replace h := qb4 m9 _ _ _ h; exact h))⟩))
        · replace h := qb3 _ _ h
          exact Or.inr (Or.inr (⟨_, fun K post postT q => (by rw [wp_Gr_readInto_L147]; exact (pF c0 ((qa1 _ ((pF c2 ((qa3 _ _ (q))))))))), fun m9 K post postT h => (by cases m9 with | zero => exact False.elim h | succ m9 => (rw [wp_Gr_readInto_L147] at h; replace h := h.2 c0; replace h := qb1 _ h; replace h := h.2 c2; replace h := qb3 _ _ h; exact h))⟩))
set_option maxHeartbeats 2000000 in
theorem dt_Gr_readInto {d : Nat} {dB : Nat} {z_a1 : T_Pr} {z_a1_names : T_Nm} {z_a1_nodes : T_Nd} {z_this : T_Gr} {z_this_words : T_Wd} {post : Unit → T_Nm × T_Nd × T_Gr × T_Wd → Prop} {postT : T_Nm × T_Nd × T_Gr × T_Wd → Prop} (h : wp_Gr_readInto d dB z_a1 z_a1_names z_a1_nodes z_this z_this_words post postT) : (∃ (w0 : Unit) (w1 : T_Nm × T_Nd × T_Gr × T_Wd), (∀ (post : Unit → T_Nm × T_Nd × T_Gr × T_Wd → Prop) (postT : T_Nm × T_Nd × T_Gr × T_Wd → Prop), post w0 w1 → wp_Gr_readInto d dB z_a1 z_a1_names z_a1_nodes z_this z_this_words post postT) ∧ (∀ (post : Unit → T_Nm × T_Nd × T_Gr × T_Wd → Prop) (postT : T_Nm × T_Nd × T_Gr × T_Wd → Prop), wp_Gr_readInto d dB z_a1 z_a1_names z_a1_nodes z_this z_this_words post postT → post w0 w1)) ∨ (∃ (w0 : T_Nm × T_Nd × T_Gr × T_Wd), (∀ (post : Unit → T_Nm × T_Nd × T_Gr × T_Wd → Prop) (postT : T_Nm × T_Nd × T_Gr × T_Wd → Prop), postT w0 → wp_Gr_readInto d dB z_a1 z_a1_names z_a1_nodes z_this z_this_words post postT) ∧ (∀ (post : Unit → T_Nm × T_Nd × T_Gr × T_Wd → Prop) (postT : T_Nm × T_Nd × T_Gr × T_Wd → Prop), wp_Gr_readInto d dB z_a1 z_a1_names z_a1_nodes z_this z_this_words post postT → postT w0)) := by
  unfold wp_Gr_readInto at h
  obtain ⟨r1, u1, qa0, qb0⟩ := dt_Pr_empty h
  replace h := qb0 _ h
  obtain ⟨r2, u2, qa1, qb1⟩ := dt_Pr_names h
  replace h := qb1 _ h
  obtain ⟨r3, u3, qa2, qb2⟩ := dt_Pr_nodes h
  replace h := qb2 _ h
  obtain ⟨k3, h⟩ := h
  rcases dt_Gr_readInto_L22 k3 _ _ _ _ _ _ _ _ h with ⟨z_a1_names, z_a1_nodes, z_this, z_this_words, x2, qa3, qb3⟩ | ⟨w3_0, w3_1, qa3, qb3⟩ | ⟨w3_0, qa3, qb3⟩
  · replace h := qb3 k3 _ _ _ h
    obtain ⟨k4, h⟩ := h
    rcases dt_Gr_readInto_L147 k4 _ _ _ _ _ _ _ _ h with ⟨z_a1_names, z_a1_nodes, z_this, z_this_words, x2, qa4, qb4⟩ | ⟨w4_0, w4_1, qa4, qb4⟩ | ⟨w4_0, qa4, qb4⟩
    · replace h := qb4 k4 _ _ _ h
      rcases dt_Gr_take h with ⟨r16, u16, qa5, qb5⟩ | ⟨u, qa5, qb5⟩
      · replace h := qb5 _ _ h
        obtain ⟨r17, u17, qa6, qb6⟩ := dt_Pr_finish h
        replace h := qb6 _ h
        exact Or.inl ⟨_, _, fun post postT q => (by unfold wp_Gr_readInto; exact (qa0 _ ((qa1 _ ((qa2 _ (⟨k3, (qa3 _ _ _ (⟨k4, (qa4 _ _ _ ((qa5 _ _ ((qa6 _ (q))))))⟩))⟩))))))), fun post postT h => (by unfold wp_Gr_readInto at h; replace h := qb0 _ h; replace h := qb1 _ h; replace h := qb2 _ h; obtain ⟨m3, h⟩ := h; replace h := qb3 m3 _ _ _ h; obtain ⟨m4, h⟩ := h; replace h := qb4 m4 _ _ _ h; replace h := qb5 _ _ h; replace h := qb6 _ h; exact h)⟩
      · replace h := qb5 _ _ h
        exact Or.inr (⟨_, fun post postT q => (by unfold wp_Gr_readInto; exact (qa0 _ ((qa1 _ ((qa2 _ (⟨k3, (qa3 _ _ _ (⟨k4, (qa4 _ _ _ ((qa5 _ _ (q))))⟩))⟩))))))), fun post postT h => (by unfold wp_Gr_readInto at h; replace h := qb0 _ h; replace h := qb1 _ h; replace h := qb2 _ h; obtain ⟨m3, h⟩ := h; replace h := qb3 m3 _ _ _ h; obtain ⟨m4, h⟩ := h; replace h := qb4 m4 _ _ _ h; replace h := qb5 _ _ h; exact h)⟩)
    · exact Or.inl ⟨_, _, fun post postT q => (by unfold wp_Gr_readInto; exact (qa0 _ ((qa1 _ ((qa2 _ (⟨k3, (qa3 _ _ _ (⟨k4, (qa4 _ _ _ (q))⟩))⟩))))))), fun post postT h => (by unfold wp_Gr_readInto at h; replace h := qb0 _ h; replace h := qb1 _ h; replace h := qb2 _ h; obtain ⟨m3, h⟩ := h; replace h := qb3 m3 _ _ _ h; obtain ⟨m4, h⟩ := h; replace h := qb4 m4 _ _ _ h; exact h)⟩
    · exact Or.inr (⟨_, fun post postT q => (by unfold wp_Gr_readInto; exact (qa0 _ ((qa1 _ ((qa2 _ (⟨k3, (qa3 _ _ _ (⟨k4, (qa4 _ _ _ (q))⟩))⟩))))))), fun post postT h => (by unfold wp_Gr_readInto at h; replace h := qb0 _ h; replace h := qb1 _ h; replace h := qb2 _ h; obtain ⟨m3, h⟩ := h; replace h := qb3 m3 _ _ _ h; obtain ⟨m4, h⟩ := h; replace h := qb4 m4 _ _ _ h; exact h)⟩)
  · exact Or.inl ⟨_, _, fun post postT q => (by unfold wp_Gr_readInto; exact (qa0 _ ((qa1 _ ((qa2 _ (⟨k3, (qa3 _ _ _ (q))⟩))))))), fun post postT h => (by unfold wp_Gr_readInto at h; replace h := qb0 _ h; replace h := qb1 _ h; replace h := qb2 _ h; obtain ⟨m3, h⟩ := h; replace h := qb3 m3 _ _ _ h; exact h)⟩
  · exact Or.inr (⟨_, fun post postT q => (by unfold wp_Gr_readInto; exact (qa0 _ ((qa1 _ ((qa2 _ (⟨k3, (qa3 _ _ _ (q))⟩))))))), fun post postT h => (by unfold wp_Gr_readInto at h; replace h := qb0 _ h; replace h := qb1 _ h; replace h := qb2 _ h; obtain ⟨m3, h⟩ := h; replace h := qb3 m3 _ _ _ h; exact h)⟩)
set_option maxHeartbeats 2000000 in
theorem dt_Pg_byteAt {z_this : T_Pg} {a1 : Int32} {post : Int32 → Unit → Prop} (h : wp_Pg_byteAt z_this a1 post) : (∃ (w0 : Int32) (w1 : Unit), (∀ (post : Int32 → Unit → Prop), post w0 w1 → wp_Pg_byteAt z_this a1 post) ∧ (∀ (post : Int32 → Unit → Prop), wp_Pg_byteAt z_this a1 post → post w0 w1)) := by
  unfold wp_Pg_byteAt at h
  rcases br_el h with ⟨c0, h⟩ | ⟨c0, h⟩
  · exact ⟨_, _, fun post q => (by unfold wp_Pg_byteAt; exact (pT c0 (q))), fun post h => (by unfold wp_Pg_byteAt at h; replace h := h.1 c0; exact h)⟩
  · rcases br_el h with ⟨c1, h⟩ | ⟨c1, h⟩
    · exact ⟨_, _, fun post q => (by unfold wp_Pg_byteAt; exact (pF c0 ((pT c1 (q))))), fun post h => (by unfold wp_Pg_byteAt at h; replace h := h.2 c0; replace h := h.1 c1; exact h)⟩
    · rcases br_el h with ⟨c2, h⟩ | ⟨c2, h⟩
      · exact ⟨_, _, fun post q => (by unfold wp_Pg_byteAt; exact (pF c0 ((pF c1 ((pT c2 (q))))))), fun post h => (by unfold wp_Pg_byteAt at h; replace h := h.2 c0; replace h := h.2 c1; replace h := h.1 c2; exact h)⟩
      · obtain ⟨s3, h⟩ := h
        exact ⟨_, _, fun post q => (by unfold wp_Pg_byteAt; exact (pF c0 ((pF c1 ((pF c2 (⟨s3, q⟩))))))), fun post h => (by unfold wp_Pg_byteAt at h; replace h := h.2 c0; replace h := h.2 c1; replace h := h.2 c2; replace h := h.2; exact h)⟩
set_option maxHeartbeats 2000000 in
theorem dt_Pg_isInLine {z_this : T_Pg} {post : Int32 → Unit → Prop} (h : wp_Pg_isInLine z_this post) : (∃ (w0 : Int32) (w1 : Unit), (∀ (post : Int32 → Unit → Prop), post w0 w1 → wp_Pg_isInLine z_this post) ∧ (∀ (post : Int32 → Unit → Prop), wp_Pg_isInLine z_this post → post w0 w1)) := by
  unfold wp_Pg_isInLine at h
  rcases br_el h with ⟨c0, h⟩ | ⟨c0, h⟩
  · exact ⟨_, _, fun post q => (by unfold wp_Pg_isInLine; exact (pT c0 (q))), fun post h => (by unfold wp_Pg_isInLine at h; replace h := h.1 c0; exact h)⟩
  · rcases br_el h with ⟨c1, h⟩ | ⟨c1, h⟩
    · exact ⟨_, _, fun post q => (by unfold wp_Pg_isInLine; exact (pF c0 ((pT c1 (q))))), fun post h => (by unfold wp_Pg_isInLine at h; replace h := h.2 c0; replace h := h.1 c1; exact h)⟩
    · obtain ⟨s2, h⟩ := h
      rcases br_el h with ⟨c3, h⟩ | ⟨c3, h⟩
      · exact ⟨_, _, fun post q => (by unfold wp_Pg_isInLine; exact (pF c0 ((pF c1 (⟨s2, (pT c3 (q))⟩))))), fun post h => (by unfold wp_Pg_isInLine at h; replace h := h.2 c0; replace h := h.2 c1; replace h := h.2; replace h := h.1 c3; exact h)⟩
      · exact ⟨_, _, fun post q => (by unfold wp_Pg_isInLine; exact (pF c0 ((pF c1 (⟨s2, (pF c3 (q))⟩))))), fun post h => (by unfold wp_Pg_isInLine at h; replace h := h.2 c0; replace h := h.2 c1; replace h := h.2; replace h := h.2 c3; exact h)⟩
set_option maxHeartbeats 2000000 in
theorem dt_Pg_put {z_this : T_Pg} {a1 : Int32} {post : Unit → T_Pg → Prop} (h : wp_Pg_put z_this a1 post) : (∃ (w0 : Unit) (w1 : T_Pg), (∀ (post : Unit → T_Pg → Prop), post w0 w1 → wp_Pg_put z_this a1 post) ∧ (∀ (post : Unit → T_Pg → Prop), wp_Pg_put z_this a1 post → post w0 w1)) := by
  unfold wp_Pg_put at h
  rcases br_el h with ⟨c0, h⟩ | ⟨c0, h⟩
  · exact ⟨_, _, fun post q => (by unfold wp_Pg_put; exact (pT c0 (q))), fun post h => (by unfold wp_Pg_put at h; replace h := h.1 c0; exact h)⟩
  · obtain ⟨s1, h⟩ := h
    exact ⟨_, _, fun post q => (by unfold wp_Pg_put; exact (pF c0 (⟨s1, q⟩))), fun post h => (by unfold wp_Pg_put at h; replace h := h.2 c0; replace h := h.2; exact h)⟩
set_option maxHeartbeats 2000000 in
theorem dt_Pg_beginWord {z_this : T_Pg} {post : Unit → T_Pg → Prop} (h : wp_Pg_beginWord z_this post) : (∃ (w0 : Unit) (w1 : T_Pg), (∀ (post : Unit → T_Pg → Prop), post w0 w1 → wp_Pg_beginWord z_this post) ∧ (∀ (post : Unit → T_Pg → Prop), wp_Pg_beginWord z_this post → post w0 w1)) := by
  unfold wp_Pg_beginWord at h
  obtain ⟨r1, u1, qa0, qb0⟩ := dt_Pg_isInLine h
  replace h := qb0 _ h
  rcases br_el h with ⟨c1, h⟩ | ⟨c1, h⟩
  · exact ⟨_, _, fun post q => (by unfold wp_Pg_beginWord; exact (qa0 _ ((pT c1 (q))))), fun post h => (by unfold wp_Pg_beginWord at h; replace h := qb0 _ h; replace h := h.1 c1; exact h)⟩
  · obtain ⟨r2, u2, qa2, qb2⟩ := dt_Pg_put h
    replace h := qb2 _ h
    exact ⟨_, _, fun post q => (by unfold wp_Pg_beginWord; exact (qa0 _ ((pF c1 ((qa2 _ (q))))))), fun post h => (by unfold wp_Pg_beginWord at h; replace h := qb0 _ h; replace h := h.2 c1; replace h := qb2 _ h; exact h)⟩
set_option maxHeartbeats 2000000 in
theorem dt_Pg_putAmount_L14 : ∀ (n9 : Nat) (z_this : T_Pg) (x1 : Int64) (x3 : Int64) (x5 : Int32) (K : T_Pg → Int64 → Int64 → Int32 → Prop) (post : Unit → T_Pg → Prop), wp_Pg_putAmount_L14 K post n9 z_this x1 x3 x5 → (∃ (w0 : T_Pg) (w1 : Int64) (w2 : Int64) (w3 : Int32), (∀ (K : T_Pg → Int64 → Int64 → Int32 → Prop) (post : Unit → T_Pg → Prop), K w0 w1 w2 w3 → wp_Pg_putAmount_L14 K post n9 z_this x1 x3 x5) ∧ (∀ (m9 : Nat) (K : T_Pg → Int64 → Int64 → Int32 → Prop) (post : Unit → T_Pg → Prop), wp_Pg_putAmount_L14 K post m9 z_this x1 x3 x5 → K w0 w1 w2 w3)) ∨ (∃ (w0 : Unit) (w1 : T_Pg), (∀ (K : T_Pg → Int64 → Int64 → Int32 → Prop) (post : Unit → T_Pg → Prop), post w0 w1 → wp_Pg_putAmount_L14 K post n9 z_this x1 x3 x5) ∧ (∀ (m9 : Nat) (K : T_Pg → Int64 → Int64 → Int32 → Prop) (post : Unit → T_Pg → Prop), wp_Pg_putAmount_L14 K post m9 z_this x1 x3 x5 → post w0 w1)) := by
  intro n9
  induction n9 with
  | zero => intro z_this x1 x3 x5 K post h; exact False.elim h
  | succ n9 ih =>
    intro z_this x1 x3 x5 K post h
    rw [wp_Pg_putAmount_L14] at h
    rcases br_el h with ⟨c0, h⟩ | ⟨c0, h⟩
    · exact Or.inl ⟨_, _, _, _, fun K post q => (by rw [wp_Pg_putAmount_L14]; exact (pT c0 (q))), fun m9 K post h => (by cases m9 with | zero => exact False.elim h | succ m9 => (rw [wp_Pg_putAmount_L14] at h; replace h := h.1 c0; exact h))⟩
    · rcases br_el h with ⟨c1, h⟩ | ⟨c1, h⟩
      · obtain ⟨s2, h⟩ := h
        obtain ⟨r2, u2, qa3, qb3⟩ := dt_Pg_put h
        replace h := qb3 _ h
        rcases ih _ _ _ _ _ _ h with ⟨w4_0, w4_1, w4_2, w4_3, qa4, qb4⟩ | ⟨w4_0, w4_1, qa4, qb4⟩
        · exact Or.inl ⟨_, _, _, _, fun K post q => (by rw [wp_Pg_putAmount_L14]; exact (pF c0 ((pT c1 (⟨s2, (qa3 _ ((qa4 _ _ (q))))⟩))))), fun m9 K post h => (by cases m9 with | zero => exact False.elim h | succ m9 => (rw [wp_Pg_putAmount_L14] at h; replace h := h.2 c0; replace h := h.1 c1; replace h := h.2; replace h := qb3 _ h; replace h := qb4 m9 _ _ h; exact h))⟩
        · exact Or.inr (⟨_, _, fun K post q => (by rw [wp_Pg_putAmount_L14]; exact (pF c0 ((pT c1 (⟨s2, (qa3 _ ((qa4 _ _ (q))))⟩))))), fun m9 K post h => (by cases m9 with | zero => exact False.elim h | succ m9 => (rw [wp_Pg_putAmount_L14] at h; replace h := h.2 c0; replace h := h.1 c1; replace h := h.2; replace h := qb3 _ h; replace h := qb4 m9 _ _ h; exact h))⟩)
      · rcases br_el h with ⟨c2, h⟩ | ⟨c2, h⟩
        · obtain ⟨s3, h⟩ := h
          obtain ⟨r3, u3, qa4, qb4⟩ := dt_Pg_put h
          replace h := qb4 _ h
          rcases ih _ _ _ _ _ _ h with ⟨w5_0, w5_1, w5_2, w5_3, qa5, qb5⟩ | ⟨w5_0, w5_1, qa5, qb5⟩
          · exact Or.inl ⟨_, _, _, _, fun K post q => (by rw [wp_Pg_putAmount_L14]; exact (pF c0 ((pF c1 ((pT c2 (⟨s3, (qa4 _ ((qa5 _ _ (q))))⟩))))))), fun m9 K post h => (by cases m9 with | zero => exact False.elim h | succ m9 => (rw [wp_Pg_putAmount_L14] at h; replace h := h.2 c0; replace h := h.2 c1; replace h := h.1 c2; replace h := h.2; replace h := qb4 _ h; replace h := qb5 m9 _ _ h; exact h))⟩
          · exact Or.inr (⟨_, _, fun K post q => (by rw [wp_Pg_putAmount_L14]; exact (pF c0 ((pF c1 ((pT c2 (⟨s3, (qa4 _ ((qa5 _ _ (q))))⟩))))))), fun m9 K post h => (by cases m9 with | zero => exact False.elim h | succ m9 => (rw [wp_Pg_putAmount_L14] at h; replace h := h.2 c0; replace h := h.2 c1; replace h := h.1 c2; replace h := h.2; replace h := qb4 _ h; replace h := qb5 m9 _ _ h; exact h))⟩)
        · rcases ih _ _ _ _ _ _ h with ⟨w3_0, w3_1, w3_2, w3_3, qa3, qb3⟩ | ⟨w3_0, w3_1, qa3, qb3⟩
          · exact Or.inl ⟨_, _, _, _, fun K post q => (by rw [wp_Pg_putAmount_L14]; exact (pF c0 ((pF c1 ((pF c2 ((qa3 _ _ (q))))))))), fun m9 K post h => (by cases m9 with | zero => exact False.elim h | succ m9 => (rw [wp_Pg_putAmount_L14] at h; replace h := h.2 c0; replace h := h.2 c1; replace h := h.2 c2; replace h := qb3 m9 _ _ h; exact h))⟩
          · exact Or.inr (⟨_, _, fun K post q => (by rw [wp_Pg_putAmount_L14]; exact (pF c0 ((pF c1 ((pF c2 ((qa3 _ _ (q))))))))), fun m9 K post h => (by cases m9 with | zero => exact False.elim h | succ m9 => (rw [wp_Pg_putAmount_L14] at h; replace h := h.2 c0; replace h := h.2 c1; replace h := h.2 c2; replace h := qb3 m9 _ _ h; exact h))⟩)
set_option maxHeartbeats 2000000 in
theorem dt_Pg_putAmount_L83 : ∀ (n9 : Nat) (z_this : T_Pg) (x1 : Int64) (x3 : Int64) (x5 : Int32) (x6 : Int32) (K : T_Pg → Int64 → Int64 → Int32 → Int32 → Prop) (post : Unit → T_Pg → Prop), wp_Pg_putAmount_L83 K post n9 z_this x1 x3 x5 x6 → (∃ (w0 : T_Pg) (w1 : Int64) (w2 : Int64) (w3 : Int32) (w4 : Int32), (∀ (K : T_Pg → Int64 → Int64 → Int32 → Int32 → Prop) (post : Unit → T_Pg → Prop), K w0 w1 w2 w3 w4 → wp_Pg_putAmount_L83 K post n9 z_this x1 x3 x5 x6) ∧ (∀ (m9 : Nat) (K : T_Pg → Int64 → Int64 → Int32 → Int32 → Prop) (post : Unit → T_Pg → Prop), wp_Pg_putAmount_L83 K post m9 z_this x1 x3 x5 x6 → K w0 w1 w2 w3 w4)) ∨ (∃ (w0 : Unit) (w1 : T_Pg), (∀ (K : T_Pg → Int64 → Int64 → Int32 → Int32 → Prop) (post : Unit → T_Pg → Prop), post w0 w1 → wp_Pg_putAmount_L83 K post n9 z_this x1 x3 x5 x6) ∧ (∀ (m9 : Nat) (K : T_Pg → Int64 → Int64 → Int32 → Int32 → Prop) (post : Unit → T_Pg → Prop), wp_Pg_putAmount_L83 K post m9 z_this x1 x3 x5 x6 → post w0 w1)) := by
  intro n9
  induction n9 with
  | zero => intro z_this x1 x3 x5 x6 K post h; exact False.elim h
  | succ n9 ih =>
    intro z_this x1 x3 x5 x6 K post h
    rw [wp_Pg_putAmount_L83] at h
    rcases br_el h with ⟨c0, h⟩ | ⟨c0, h⟩
    · exact Or.inl ⟨_, _, _, _, _, fun K post q => (by rw [wp_Pg_putAmount_L83]; exact (pT c0 (q))), fun m9 K post h => (by cases m9 with | zero => exact False.elim h | succ m9 => (rw [wp_Pg_putAmount_L83] at h; replace h := h.1 c0; exact h))⟩
    · rcases br_el h with ⟨c1, h⟩ | ⟨c1, h⟩
      · exact Or.inl ⟨_, _, _, _, _, fun K post q => (by rw [wp_Pg_putAmount_L83]; exact (pF c0 ((pT c1 (q))))), fun m9 K post h => (by cases m9 with | zero => exact False.elim h | succ m9 => (rw [wp_Pg_putAmount_L83] at h; replace h := h.2 c0; replace h := h.1 c1; exact h))⟩
      · obtain ⟨s2, h⟩ := h
        obtain ⟨r4, u4, qa3, qb3⟩ := dt_Pg_put h
        replace h := qb3 _ h
        obtain ⟨s4, h⟩ := h
        rcases ih _ _ _ _ _ _ _ h with ⟨w5_0, w5_1, w5_2, w5_3, w5_4, qa5, qb5⟩ | ⟨w5_0, w5_1, qa5, qb5⟩
        · exact Or.inl ⟨_, _, _, _, _, fun K post q => (by rw [wp_Pg_putAmount_L83]; exact (pF c0 ((pF c1 (⟨s2, (qa3 _ (⟨s4, (qa5 _ _ (q))⟩))⟩))))), fun m9 K post h => (by cases m9 with | zero => exact False.elim h | succ m9 => (rw [wp_Pg_putAmount_L83] at h; replace h := h.2 c0; replace h := h.2 c1; replace h := h.2; replace h := qb3 _ h; replace h := h.2; replace h := qb5 m9 _ _ h; exact h))⟩
        · exact Or.inr (⟨_, _, fun K post q => (by rw [wp_Pg_putAmount_L83]; exact (pF c0 ((pF c1 (⟨s2, (qa3 _ (⟨s4, (qa5 _ _ (q))⟩))⟩))))), fun m9 K post h => (by cases m9 with | zero => exact False.elim h | succ m9 => (rw [wp_Pg_putAmount_L83] at h; replace h := h.2 c0; replace h := h.2 c1; replace h := h.2; replace h := qb3 _ h; replace h := h.2; replace h := qb5 m9 _ _ h; exact h))⟩)
set_option maxHeartbeats 2000000 in
theorem dt_Pg_putAmount {z_this : T_Pg} {a1 : Int64} {post : Unit → T_Pg → Prop} (h : wp_Pg_putAmount z_this a1 post) : (∃ (w0 : Unit) (w1 : T_Pg), (∀ (post : Unit → T_Pg → Prop), post w0 w1 → wp_Pg_putAmount z_this a1 post) ∧ (∀ (post : Unit → T_Pg → Prop), wp_Pg_putAmount z_this a1 post → post w0 w1)) := by
  unfold wp_Pg_putAmount at h
  obtain ⟨r1, u1, qa0, qb0⟩ := dt_Pg_beginWord h
  replace h := qb0 _ h
  obtain ⟨k1, h⟩ := h
  rcases dt_Pg_putAmount_L14 k1 _ _ _ _ _ _ h with ⟨z_this, x1, x3, x5, qa1, qb1⟩ | ⟨w1_0, w1_1, qa1, qb1⟩
  · replace h := qb1 k1 _ _ h
    rcases br_el h with ⟨c2, h⟩ | ⟨c2, h⟩
    · obtain ⟨k3, h⟩ := h
      rcases dt_Pg_putAmount_L83 k3 _ _ _ _ _ _ _ h with ⟨z_this, x1, x3, x5, x6, qa3, qb3⟩ | ⟨w3_0, w3_1, qa3, qb3⟩
      · replace h := qb3 k3 _ _ h
        exact ⟨_, _, fun post q => (by unfold wp_Pg_putAmount; exact (qa0 _ (⟨k1, (qa1 _ _ ((pT c2 (⟨k3, (qa3 _ _ (q))⟩))))⟩))), fun post h => (by unfold wp_Pg_putAmount at h; replace h := qb0 _ h; obtain ⟨m1, h⟩ := h; replace h := qb1 m1 _ _ h; replace h := h.1 c2; obtain ⟨m3, h⟩ := h; replace h := qb3 m3 _ _ h; exact h)⟩
      · exact ⟨_, _, fun post q => (by unfold wp_Pg_putAmount; exact (qa0 _ (⟨k1, (qa1 _ _ ((pT c2 (⟨k3, (qa3 _ _ (q))⟩))))⟩))), fun post h => (by unfold wp_Pg_putAmount at h; replace h := qb0 _ h; obtain ⟨m1, h⟩ := h; replace h := qb1 m1 _ _ h; replace h := h.1 c2; obtain ⟨m3, h⟩ := h; replace h := qb3 m3 _ _ h; exact h)⟩
    · obtain ⟨r5, u5, qa3, qb3⟩ := dt_Pg_put h
      replace h := qb3 _ h
      obtain ⟨k4, h⟩ := h
      rcases dt_Pg_putAmount_L83 k4 _ _ _ _ _ _ _ h with ⟨z_this, x1, x3, x5, x6, qa4, qb4⟩ | ⟨w4_0, w4_1, qa4, qb4⟩
      · replace h := qb4 k4 _ _ h
        exact ⟨_, _, fun post q => (by unfold wp_Pg_putAmount; exact (qa0 _ (⟨k1, (qa1 _ _ ((pF c2 ((qa3 _ (⟨k4, (qa4 _ _ (q))⟩))))))⟩))), fun post h => (by unfold wp_Pg_putAmount at h; replace h := qb0 _ h; obtain ⟨m1, h⟩ := h; replace h := qb1 m1 _ _ h; replace h := h.2 c2; replace h := qb3 _ h; obtain ⟨m4, h⟩ := h; replace h := qb4 m4 _ _ h; exact h)⟩
      · exact ⟨_, _, fun post q => (by unfold wp_Pg_putAmount; exact (qa0 _ (⟨k1, (qa1 _ _ ((pF c2 ((qa3 _ (⟨k4, (qa4 _ _ (q))⟩))))))⟩))), fun post h => (by unfold wp_Pg_putAmount at h; replace h := qb0 _ h; obtain ⟨m1, h⟩ := h; replace h := qb1 m1 _ _ h; replace h := h.2 c2; replace h := qb3 _ h; obtain ⟨m4, h⟩ := h; replace h := qb4 m4 _ _ h; exact h)⟩
  · exact ⟨_, _, fun post q => (by unfold wp_Pg_putAmount; exact (qa0 _ (⟨k1, (qa1 _ _ (q))⟩))), fun post h => (by unfold wp_Pg_putAmount at h; replace h := qb0 _ h; obtain ⟨m1, h⟩ := h; replace h := qb1 m1 _ _ h; exact h)⟩
set_option maxHeartbeats 2000000 in
theorem dt_Pg_putLetters_L9 : ∀ (n9 : Nat) (z_this : T_Pg) (x1 : Int64) (x3 : Int64) (x5 : Int32) (K : T_Pg → Int64 → Int64 → Int32 → Prop) (post : Unit → T_Pg → Prop), wp_Pg_putLetters_L9 K post n9 z_this x1 x3 x5 → (∃ (w0 : T_Pg) (w1 : Int64) (w2 : Int64) (w3 : Int32), (∀ (K : T_Pg → Int64 → Int64 → Int32 → Prop) (post : Unit → T_Pg → Prop), K w0 w1 w2 w3 → wp_Pg_putLetters_L9 K post n9 z_this x1 x3 x5) ∧ (∀ (m9 : Nat) (K : T_Pg → Int64 → Int64 → Int32 → Prop) (post : Unit → T_Pg → Prop), wp_Pg_putLetters_L9 K post m9 z_this x1 x3 x5 → K w0 w1 w2 w3)) ∨ (∃ (w0 : Unit) (w1 : T_Pg), (∀ (K : T_Pg → Int64 → Int64 → Int32 → Prop) (post : Unit → T_Pg → Prop), post w0 w1 → wp_Pg_putLetters_L9 K post n9 z_this x1 x3 x5) ∧ (∀ (m9 : Nat) (K : T_Pg → Int64 → Int64 → Int32 → Prop) (post : Unit → T_Pg → Prop), wp_Pg_putLetters_L9 K post m9 z_this x1 x3 x5 → post w0 w1)) := by
  intro n9
  induction n9 with
  | zero => intro z_this x1 x3 x5 K post h; exact False.elim h
  | succ n9 ih =>
    intro z_this x1 x3 x5 K post h
    rw [wp_Pg_putLetters_L9] at h
    rcases br_el h with ⟨c0, h⟩ | ⟨c0, h⟩
    · exact Or.inl ⟨_, _, _, _, fun K post q => (by rw [wp_Pg_putLetters_L9]; exact (pT c0 (q))), fun m9 K post h => (by cases m9 with | zero => exact False.elim h | succ m9 => (rw [wp_Pg_putLetters_L9] at h; replace h := h.1 c0; exact h))⟩
    · obtain ⟨s1, h⟩ := h
      rcases br_el h with ⟨c2, h⟩ | ⟨c2, h⟩
      · exact Or.inl ⟨_, _, _, _, fun K post q => (by rw [wp_Pg_putLetters_L9]; exact (pF c0 (⟨s1, (pT c2 (q))⟩))), fun m9 K post h => (by cases m9 with | zero => exact False.elim h | succ m9 => (rw [wp_Pg_putLetters_L9] at h; replace h := h.2 c0; replace h := h.2; replace h := h.1 c2; exact h))⟩
      · rcases ih _ _ _ _ _ _ h with ⟨w3_0, w3_1, w3_2, w3_3, qa3, qb3⟩ | ⟨w3_0, w3_1, qa3, qb3⟩
        · exact Or.inl ⟨_, _, _, _, fun K post q => (by rw [wp_Pg_putLetters_L9]; exact (pF c0 (⟨s1, (pF c2 ((qa3 _ _ (q))))⟩))), fun m9 K post h => (by cases m9 with | zero => exact False.elim h | succ m9 => (rw [wp_Pg_putLetters_L9] at h; replace h := h.2 c0; replace h := h.2; replace h := h.2 c2; replace h := qb3 m9 _ _ h; exact h))⟩
        · exact Or.inr (⟨_, _, fun K post q => (by rw [wp_Pg_putLetters_L9]; exact (pF c0 (⟨s1, (pF c2 ((qa3 _ _ (q))))⟩))), fun m9 K post h => (by cases m9 with | zero => exact False.elim h | succ m9 => (rw [wp_Pg_putLetters_L9] at h; replace h := h.2 c0; replace h := h.2; replace h := h.2 c2; replace h := qb3 m9 _ _ h; exact h))⟩)
set_option maxHeartbeats 2000000 in
theorem dt_Pg_putLetters_L38 : ∀ (n9 : Nat) (z_this : T_Pg) (x1 : Int64) (x3 : Int64) (x5 : Int32) (K : T_Pg → Int64 → Int64 → Int32 → Prop) (post : Unit → T_Pg → Prop), wp_Pg_putLetters_L38 K post n9 z_this x1 x3 x5 → (∃ (w0 : T_Pg) (w1 : Int64) (w2 : Int64) (w3 : Int32), (∀ (K : T_Pg → Int64 → Int64 → Int32 → Prop) (post : Unit → T_Pg → Prop), K w0 w1 w2 w3 → wp_Pg_putLetters_L38 K post n9 z_this x1 x3 x5) ∧ (∀ (m9 : Nat) (K : T_Pg → Int64 → Int64 → Int32 → Prop) (post : Unit → T_Pg → Prop), wp_Pg_putLetters_L38 K post m9 z_this x1 x3 x5 → K w0 w1 w2 w3)) ∨ (∃ (w0 : Unit) (w1 : T_Pg), (∀ (K : T_Pg → Int64 → Int64 → Int32 → Prop) (post : Unit → T_Pg → Prop), post w0 w1 → wp_Pg_putLetters_L38 K post n9 z_this x1 x3 x5) ∧ (∀ (m9 : Nat) (K : T_Pg → Int64 → Int64 → Int32 → Prop) (post : Unit → T_Pg → Prop), wp_Pg_putLetters_L38 K post m9 z_this x1 x3 x5 → post w0 w1)) := by
  intro n9
  induction n9 with
  | zero => intro z_this x1 x3 x5 K post h; exact False.elim h
  | succ n9 ih =>
    intro z_this x1 x3 x5 K post h
    rw [wp_Pg_putLetters_L38] at h
    rcases br_el h with ⟨c0, h⟩ | ⟨c0, h⟩
    · exact Or.inl ⟨_, _, _, _, fun K post q => (by rw [wp_Pg_putLetters_L38]; exact (pT c0 (q))), fun m9 K post h => (by cases m9 with | zero => exact False.elim h | succ m9 => (rw [wp_Pg_putLetters_L38] at h; replace h := h.1 c0; exact h))⟩
    · obtain ⟨s1, h⟩ := h
      obtain ⟨r2, u2, qa2, qb2⟩ := dt_Kw_unranked h
      replace h := qb2 _ h
      obtain ⟨r3, u3, qa3, qb3⟩ := dt_Pg_put h
      replace h := qb3 _ h
      rcases ih _ _ _ _ _ _ h with ⟨w4_0, w4_1, w4_2, w4_3, qa4, qb4⟩ | ⟨w4_0, w4_1, qa4, qb4⟩
      · exact Or.inl ⟨_, _, _, _, fun K post q => (by rw [wp_Pg_putLetters_L38]; exact (pF c0 (⟨s1, (qa2 _ ((qa3 _ ((qa4 _ _ (q))))))⟩))), fun m9 K post h => (by cases m9 with | zero => exact False.elim h | succ m9 => (rw [wp_Pg_putLetters_L38] at h; replace h := h.2 c0; replace h := h.2; replace h := qb2 _ h; replace h := qb3 _ h; replace h := qb4 m9 _ _ h; exact h))⟩
      · exact Or.inr (⟨_, _, fun K post q => (by rw [wp_Pg_putLetters_L38]; exact (pF c0 (⟨s1, (qa2 _ ((qa3 _ ((qa4 _ _ (q))))))⟩))), fun m9 K post h => (by cases m9 with | zero => exact False.elim h | succ m9 => (rw [wp_Pg_putLetters_L38] at h; replace h := h.2 c0; replace h := h.2; replace h := qb2 _ h; replace h := qb3 _ h; replace h := qb4 m9 _ _ h; exact h))⟩)
set_option maxHeartbeats 2000000 in
theorem dt_Pg_putLetters {z_this : T_Pg} {a1 : Int64} {post : Unit → T_Pg → Prop} (h : wp_Pg_putLetters z_this a1 post) : (∃ (w0 : Unit) (w1 : T_Pg), (∀ (post : Unit → T_Pg → Prop), post w0 w1 → wp_Pg_putLetters z_this a1 post) ∧ (∀ (post : Unit → T_Pg → Prop), wp_Pg_putLetters z_this a1 post → post w0 w1)) := by
  unfold wp_Pg_putLetters at h
  obtain ⟨r1, u1, qa0, qb0⟩ := dt_Pg_beginWord h
  replace h := qb0 _ h
  obtain ⟨k1, h⟩ := h
  rcases dt_Pg_putLetters_L9 k1 _ _ _ _ _ _ h with ⟨z_this, x1, x3, x5, qa1, qb1⟩ | ⟨w1_0, w1_1, qa1, qb1⟩
  · replace h := qb1 k1 _ _ h
    obtain ⟨k2, h⟩ := h
    rcases dt_Pg_putLetters_L38 k2 _ _ _ _ _ _ h with ⟨z_this, x1, x3, x5, qa2, qb2⟩ | ⟨w2_0, w2_1, qa2, qb2⟩
    · replace h := qb2 k2 _ _ h
      exact ⟨_, _, fun post q => (by unfold wp_Pg_putLetters; exact (qa0 _ (⟨k1, (qa1 _ _ (⟨k2, (qa2 _ _ (q))⟩))⟩))), fun post h => (by unfold wp_Pg_putLetters at h; replace h := qb0 _ h; obtain ⟨m1, h⟩ := h; replace h := qb1 m1 _ _ h; obtain ⟨m2, h⟩ := h; replace h := qb2 m2 _ _ h; exact h)⟩
    · exact ⟨_, _, fun post q => (by unfold wp_Pg_putLetters; exact (qa0 _ (⟨k1, (qa1 _ _ (⟨k2, (qa2 _ _ (q))⟩))⟩))), fun post h => (by unfold wp_Pg_putLetters at h; replace h := qb0 _ h; obtain ⟨m1, h⟩ := h; replace h := qb1 m1 _ _ h; obtain ⟨m2, h⟩ := h; replace h := qb2 m2 _ _ h; exact h)⟩
  · exact ⟨_, _, fun post q => (by unfold wp_Pg_putLetters; exact (qa0 _ (⟨k1, (qa1 _ _ (q))⟩))), fun post h => (by unfold wp_Pg_putLetters at h; replace h := qb0 _ h; obtain ⟨m1, h⟩ := h; replace h := qb1 m1 _ _ h; exact h)⟩
set_option maxHeartbeats 2000000 in
theorem dt_Pg_putUnit {z_this : T_Pg} {z_this_keywords : T_Kw} {a1 : Int32} {post : Unit → T_Pg → Prop} (h : wp_Pg_putUnit z_this z_this_keywords a1 post) : (∃ (w0 : Unit) (w1 : T_Pg), (∀ (post : Unit → T_Pg → Prop), post w0 w1 → wp_Pg_putUnit z_this z_this_keywords a1 post) ∧ (∀ (post : Unit → T_Pg → Prop), wp_Pg_putUnit z_this z_this_keywords a1 post → post w0 w1)) := by
  unfold wp_Pg_putUnit at h
  rcases br_el h with ⟨c0, h⟩ | ⟨c0, h⟩
  · exact ⟨_, _, fun post q => (by unfold wp_Pg_putUnit; exact (pT c0 (q))), fun post h => (by unfold wp_Pg_putUnit at h; replace h := h.1 c0; exact h)⟩
  · obtain ⟨r1, u1, qa1, qb1⟩ := dt_Kw_lettersOf h
    replace h := qb1 _ h
    obtain ⟨r2, u2, qa2, qb2⟩ := dt_Pg_putLetters h
    replace h := qb2 _ h
    exact ⟨_, _, fun post q => (by unfold wp_Pg_putUnit; exact (pF c0 ((qa1 _ ((qa2 _ (q))))))), fun post h => (by unfold wp_Pg_putUnit at h; replace h := h.2 c0; replace h := qb1 _ h; replace h := qb2 _ h; exact h)⟩
set_option maxHeartbeats 2000000 in
theorem dt_Pg_putSign {z_this : T_Pg} {a1 : Int32} {post : Unit → T_Pg → Prop} (h : wp_Pg_putSign z_this a1 post) : (∃ (w0 : Unit) (w1 : T_Pg), (∀ (post : Unit → T_Pg → Prop), post w0 w1 → wp_Pg_putSign z_this a1 post) ∧ (∀ (post : Unit → T_Pg → Prop), wp_Pg_putSign z_this a1 post → post w0 w1)) := by
  unfold wp_Pg_putSign at h
  obtain ⟨r1, u1, qa0, qb0⟩ := dt_Pg_beginWord h
  replace h := qb0 _ h
  obtain ⟨r2, u2, qa1, qb1⟩ := dt_Pg_put h
  replace h := qb1 _ h
  exact ⟨_, _, fun post q => (by unfold wp_Pg_putSign; exact (qa0 _ ((qa1 _ (q))))), fun post h => (by unfold wp_Pg_putSign at h; replace h := qb0 _ h; replace h := qb1 _ h; exact h)⟩
set_option maxHeartbeats 2000000 in
theorem dt_Pg_beginLine {z_this : T_Pg} {post : Unit → T_Pg → Prop} (h : wp_Pg_beginLine z_this post) : (∃ (w0 : Unit) (w1 : T_Pg), (∀ (post : Unit → T_Pg → Prop), post w0 w1 → wp_Pg_beginLine z_this post) ∧ (∀ (post : Unit → T_Pg → Prop), wp_Pg_beginLine z_this post → post w0 w1)) := by
  unfold wp_Pg_beginLine at h
  obtain ⟨r1, u1, qa0, qb0⟩ := dt_Pg_isInLine h
  replace h := qb0 _ h
  rcases br_el h with ⟨c1, h⟩ | ⟨c1, h⟩
  · exact ⟨_, _, fun post q => (by unfold wp_Pg_beginLine; exact (qa0 _ ((pT c1 (q))))), fun post h => (by unfold wp_Pg_beginLine at h; replace h := qb0 _ h; replace h := h.1 c1; exact h)⟩
  · obtain ⟨r2, u2, qa2, qb2⟩ := dt_Pg_put h
    replace h := qb2 _ h
    exact ⟨_, _, fun post q => (by unfold wp_Pg_beginLine; exact (qa0 _ ((pF c1 ((qa2 _ (q))))))), fun post h => (by unfold wp_Pg_beginLine at h; replace h := qb0 _ h; replace h := h.2 c1; replace h := qb2 _ h; exact h)⟩
set_option maxHeartbeats 2000000 in
theorem dt_Pg_beginStatement {z_this : T_Pg} {z_this_keywords : T_Kw} {z_this_names : T_Nm} {z_this_nodes : T_Nd} {a1 : Int32} {post : Unit → T_Pg → Prop} (h : wp_Pg_beginStatement z_this z_this_keywords z_this_names z_this_nodes a1 post) : (∃ (w0 : Unit) (w1 : T_Pg), (∀ (post : Unit → T_Pg → Prop), post w0 w1 → wp_Pg_beginStatement z_this z_this_keywords z_this_names z_this_nodes a1 post) ∧ (∀ (post : Unit → T_Pg → Prop), wp_Pg_beginStatement z_this z_this_keywords z_this_names z_this_nodes a1 post → post w0 w1)) := by
  unfold wp_Pg_beginStatement at h
  obtain ⟨r1, u1, qa0, qb0⟩ := dt_Nd_kindOf h
  replace h := qb0 _ h
  obtain ⟨r2, u2, qa1, qb1⟩ := dt_Pg_beginLine h
  replace h := qb1 _ h
  rcases br_el h with ⟨c2, h⟩ | ⟨c2, h⟩
  · obtain ⟨r22, u22, qa3, qb3⟩ := dt_Kw_lettersOf h
    replace h := qb3 _ h
    obtain ⟨r23, u23, qa4, qb4⟩ := dt_Pg_putLetters h
    replace h := qb4 _ h
    rcases Classical.em (r1 = (10 : Int32)) with c5_0 | c5_0
    · replace h := (h).1 c5_0
      obtain ⟨r24, u24, qa6, qb6⟩ := dt_Nd_subjectOf h
      replace h := qb6 _ h
      obtain ⟨r25, u25, qa7, qb7⟩ := dt_Nm_lettersOf h
      replace h := qb7 _ h
      obtain ⟨r26, u26, qa8, qb8⟩ := dt_Pg_putLetters h
      replace h := qb8 _ h
      exact ⟨_, _, fun post q => (by unfold wp_Pg_beginStatement; exact (qa0 _ ((qa1 _ ((pT c2 ((qa3 _ ((qa4 _ (⟨fun _ => (qa6 _ ((qa7 _ ((qa8 _ (q)))))), fun q9 => absurd (c5_0.symm.trans q9) (by decide), fun q9 => absurd (c5_0.symm.trans q9) (by decide), fun q9 => absurd (c5_0.symm.trans q9) (by decide), fun q9 => absurd (c5_0.symm.trans q9) (by decide), fun q9 => absurd (c5_0.symm.trans q9) (by decide), fun q9 => absurd c5_0 (q9.1)⟩))))))))))), fun post h => (by unfold wp_Pg_beginStatement at h; replace h := qb0 _ h; replace h := qb1 _ h; replace h := h.1 c2; replace h := qb3 _ h; replace h := qb4 _ h; replace h := (h).1 c5_0; replace h := qb6 _ h; replace h := qb7 _ h; replace h := qb8 _ h; exact h)⟩
    · rcases Classical.em (r1 = (13 : Int32)) with c5_1 | c5_1
      · replace h := (h).2.1 c5_1
        obtain ⟨r27, u27, qa6, qb6⟩ := dt_Nd_subjectOf h
        replace h := qb6 _ h
        obtain ⟨r28, u28, qa7, qb7⟩ := dt_Nm_lettersOf h
        replace h := qb7 _ h
        obtain ⟨r29, u29, qa8, qb8⟩ := dt_Pg_putLetters h
        replace h := qb8 _ h
        exact ⟨_, _, fun post q => (by unfold wp_Pg_beginStatement; exact (qa0 _ ((qa1 _ ((pT c2 ((qa3 _ ((qa4 _ (⟨fun q9 => absurd q9 c5_0, fun _ => (qa6 _ ((qa7 _ ((qa8 _ (q)))))), fun q9 => absurd (c5_1.symm.trans q9) (by decide), fun q9 => absurd (c5_1.symm.trans q9) (by decide), fun q9 => absurd (c5_1.symm.trans q9) (by decide), fun q9 => absurd (c5_1.symm.trans q9) (by decide), fun q9 => absurd c5_1 (q9.2.1)⟩))))))))))), fun post h => (by unfold wp_Pg_beginStatement at h; replace h := qb0 _ h; replace h := qb1 _ h; replace h := h.1 c2; replace h := qb3 _ h; replace h := qb4 _ h; replace h := (h).2.1 c5_1; replace h := qb6 _ h; replace h := qb7 _ h; replace h := qb8 _ h; exact h)⟩
      · rcases Classical.em (r1 = (18 : Int32)) with c5_2 | c5_2
        · replace h := (h).2.2.1 c5_2
          obtain ⟨r30, u30, qa6, qb6⟩ := dt_Nd_subjectOf h
          replace h := qb6 _ h
          obtain ⟨r31, u31, qa7, qb7⟩ := dt_Nm_lettersOf h
          replace h := qb7 _ h
          obtain ⟨r32, u32, qa8, qb8⟩ := dt_Pg_putLetters h
          replace h := qb8 _ h
          exact ⟨_, _, fun post q => (by unfold wp_Pg_beginStatement; exact (qa0 _ ((qa1 _ ((pT c2 ((qa3 _ ((qa4 _ (⟨fun q9 => absurd q9 c5_0, fun q9 => absurd q9 c5_1, fun _ => (qa6 _ ((qa7 _ ((qa8 _ (q)))))), fun q9 => absurd (c5_2.symm.trans q9) (by decide), fun q9 => absurd (c5_2.symm.trans q9) (by decide), fun q9 => absurd (c5_2.symm.trans q9) (by decide), fun q9 => absurd c5_2 (q9.2.2.1)⟩))))))))))), fun post h => (by unfold wp_Pg_beginStatement at h; replace h := qb0 _ h; replace h := qb1 _ h; replace h := h.1 c2; replace h := qb3 _ h; replace h := qb4 _ h; replace h := (h).2.2.1 c5_2; replace h := qb6 _ h; replace h := qb7 _ h; replace h := qb8 _ h; exact h)⟩
        · rcases Classical.em (r1 = (19 : Int32)) with c5_3 | c5_3
          · replace h := (h).2.2.2.1 c5_3
            obtain ⟨r33, u33, qa6, qb6⟩ := dt_Nd_subjectOf h
            replace h := qb6 _ h
            obtain ⟨r34, u34, qa7, qb7⟩ := dt_Nm_lettersOf h
            replace h := qb7 _ h
            obtain ⟨r35, u35, qa8, qb8⟩ := dt_Pg_putLetters h
            replace h := qb8 _ h
            exact ⟨_, _, fun post q => (by unfold wp_Pg_beginStatement; exact (qa0 _ ((qa1 _ ((pT c2 ((qa3 _ ((qa4 _ (⟨fun q9 => absurd q9 c5_0, fun q9 => absurd q9 c5_1, fun q9 => absurd q9 c5_2, fun _ => (qa6 _ ((qa7 _ ((qa8 _ (q)))))), fun q9 => absurd (c5_3.symm.trans q9) (by decide), fun q9 => absurd (c5_3.symm.trans q9) (by decide), fun q9 => absurd c5_3 (q9.2.2.2.1)⟩))))))))))), fun post h => (by unfold wp_Pg_beginStatement at h; replace h := qb0 _ h; replace h := qb1 _ h; replace h := h.1 c2; replace h := qb3 _ h; replace h := qb4 _ h; replace h := (h).2.2.2.1 c5_3; replace h := qb6 _ h; replace h := qb7 _ h; replace h := qb8 _ h; exact h)⟩
          · rcases Classical.em (r1 = (22 : Int32)) with c5_4 | c5_4
            · replace h := (h).2.2.2.2.1 c5_4
              obtain ⟨r36, u36, qa6, qb6⟩ := dt_Nd_valueOf h
              replace h := qb6 _ h
              obtain ⟨r37, u37, qa7, qb7⟩ := dt_Pg_putAmount h
              replace h := qb7 _ h
              exact ⟨_, _, fun post q => (by unfold wp_Pg_beginStatement; exact (qa0 _ ((qa1 _ ((pT c2 ((qa3 _ ((qa4 _ (⟨fun q9 => absurd q9 c5_0, fun q9 => absurd q9 c5_1, fun q9 => absurd q9 c5_2, fun q9 => absurd q9 c5_3, fun _ => (qa6 _ ((qa7 _ (q)))), fun q9 => absurd (c5_4.symm.trans q9) (by decide), fun q9 => absurd c5_4 (q9.2.2.2.2.1)⟩))))))))))), fun post h => (by unfold wp_Pg_beginStatement at h; replace h := qb0 _ h; replace h := qb1 _ h; replace h := h.1 c2; replace h := qb3 _ h; replace h := qb4 _ h; replace h := (h).2.2.2.2.1 c5_4; replace h := qb6 _ h; replace h := qb7 _ h; exact h)⟩
            · rcases Classical.em (r1 = (24 : Int32)) with c5_5 | c5_5
              · replace h := (h).2.2.2.2.2.1 c5_5
                obtain ⟨r38, u38, qa6, qb6⟩ := dt_Nd_subjectOf h
                replace h := qb6 _ h
                obtain ⟨r39, u39, qa7, qb7⟩ := dt_Nm_lettersOf h
                replace h := qb7 _ h
                obtain ⟨r40, u40, qa8, qb8⟩ := dt_Pg_putLetters h
                replace h := qb8 _ h
                exact ⟨_, _, fun post q => (by unfold wp_Pg_beginStatement; exact (qa0 _ ((qa1 _ ((pT c2 ((qa3 _ ((qa4 _ (⟨fun q9 => absurd q9 c5_0, fun q9 => absurd q9 c5_1, fun q9 => absurd q9 c5_2, fun q9 => absurd q9 c5_3, fun q9 => absurd q9 c5_4, fun _ => (qa6 _ ((qa7 _ ((qa8 _ (q)))))), fun q9 => absurd c5_5 (q9.2.2.2.2.2)⟩))))))))))), fun post h => (by unfold wp_Pg_beginStatement at h; replace h := qb0 _ h; replace h := qb1 _ h; replace h := h.1 c2; replace h := qb3 _ h; replace h := qb4 _ h; replace h := (h).2.2.2.2.2.1 c5_5; replace h := qb6 _ h; replace h := qb7 _ h; replace h := qb8 _ h; exact h)⟩
              · replace h := (h).2.2.2.2.2.2 ⟨c5_0, c5_1, c5_2, c5_3, c5_4, c5_5⟩
                exact ⟨_, _, fun post q => (by unfold wp_Pg_beginStatement; exact (qa0 _ ((qa1 _ ((pT c2 ((qa3 _ ((qa4 _ (⟨fun q9 => absurd q9 c5_0, fun q9 => absurd q9 c5_1, fun q9 => absurd q9 c5_2, fun q9 => absurd q9 c5_3, fun q9 => absurd q9 c5_4, fun q9 => absurd q9 c5_5, fun _ => q⟩))))))))))), fun post h => (by unfold wp_Pg_beginStatement at h; replace h := qb0 _ h; replace h := qb1 _ h; replace h := h.1 c2; replace h := qb3 _ h; replace h := qb4 _ h; replace h := (h).2.2.2.2.2.2 ⟨c5_0, c5_1, c5_2, c5_3, c5_4, c5_5⟩; exact h)⟩
  · obtain ⟨r3, u3, qa3, qb3⟩ := dt_Kw_lettersOf h
    replace h := qb3 _ h
    obtain ⟨r4, u4, qa4, qb4⟩ := dt_Pg_putLetters h
    replace h := qb4 _ h
    rcases Classical.em (r1 = (10 : Int32)) with c5_0 | c5_0
    · replace h := (h).1 c5_0
      obtain ⟨r5, u5, qa6, qb6⟩ := dt_Nd_subjectOf h
      replace h := qb6 _ h
      obtain ⟨r6, u6, qa7, qb7⟩ := dt_Nm_lettersOf h
      replace h := qb7 _ h
      obtain ⟨r7, u7, qa8, qb8⟩ := dt_Pg_putLetters h
      replace h := qb8 _ h
      exact ⟨_, _, fun post q => (by unfold wp_Pg_beginStatement; exact (qa0 _ ((qa1 _ ((pF c2 ((qa3 _ ((qa4 _ (⟨fun _ => (qa6 _ ((qa7 _ ((qa8 _ (q)))))), fun q9 => absurd (c5_0.symm.trans q9) (by decide), fun q9 => absurd (c5_0.symm.trans q9) (by decide), fun q9 => absurd (c5_0.symm.trans q9) (by decide), fun q9 => absurd (c5_0.symm.trans q9) (by decide), fun q9 => absurd (c5_0.symm.trans q9) (by decide), fun q9 => absurd c5_0 (q9.1)⟩))))))))))), fun post h => (by unfold wp_Pg_beginStatement at h; replace h := qb0 _ h; replace h := qb1 _ h; replace h := h.2 c2; replace h := qb3 _ h; replace h := qb4 _ h; replace h := (h).1 c5_0; replace h := qb6 _ h; replace h := qb7 _ h; replace h := qb8 _ h; exact h)⟩
    · rcases Classical.em (r1 = (13 : Int32)) with c5_1 | c5_1
      · replace h := (h).2.1 c5_1
        obtain ⟨r8, u8, qa6, qb6⟩ := dt_Nd_subjectOf h
        replace h := qb6 _ h
        obtain ⟨r9, u9, qa7, qb7⟩ := dt_Nm_lettersOf h
        replace h := qb7 _ h
        obtain ⟨r10, u10, qa8, qb8⟩ := dt_Pg_putLetters h
        replace h := qb8 _ h
        exact ⟨_, _, fun post q => (by unfold wp_Pg_beginStatement; exact (qa0 _ ((qa1 _ ((pF c2 ((qa3 _ ((qa4 _ (⟨fun q9 => absurd q9 c5_0, fun _ => (qa6 _ ((qa7 _ ((qa8 _ (q)))))), fun q9 => absurd (c5_1.symm.trans q9) (by decide), fun q9 => absurd (c5_1.symm.trans q9) (by decide), fun q9 => absurd (c5_1.symm.trans q9) (by decide), fun q9 => absurd (c5_1.symm.trans q9) (by decide), fun q9 => absurd c5_1 (q9.2.1)⟩))))))))))), fun post h => (by unfold wp_Pg_beginStatement at h; replace h := qb0 _ h; replace h := qb1 _ h; replace h := h.2 c2; replace h := qb3 _ h; replace h := qb4 _ h; replace h := (h).2.1 c5_1; replace h := qb6 _ h; replace h := qb7 _ h; replace h := qb8 _ h; exact h)⟩
      · rcases Classical.em (r1 = (18 : Int32)) with c5_2 | c5_2
        · replace h := (h).2.2.1 c5_2
          obtain ⟨r11, u11, qa6, qb6⟩ := dt_Nd_subjectOf h
          replace h := qb6 _ h
          obtain ⟨r12, u12, qa7, qb7⟩ := dt_Nm_lettersOf h
          replace h := qb7 _ h
          obtain ⟨r13, u13, qa8, qb8⟩ := dt_Pg_putLetters h
          replace h := qb8 _ h
          exact ⟨_, _, fun post q => (by unfold wp_Pg_beginStatement; exact (qa0 _ ((qa1 _ ((pF c2 ((qa3 _ ((qa4 _ (⟨fun q9 => absurd q9 c5_0, fun q9 => absurd q9 c5_1, fun _ => (qa6 _ ((qa7 _ ((qa8 _ (q)))))), fun q9 => absurd (c5_2.symm.trans q9) (by decide), fun q9 => absurd (c5_2.symm.trans q9) (by decide), fun q9 => absurd (c5_2.symm.trans q9) (by decide), fun q9 => absurd c5_2 (q9.2.2.1)⟩))))))))))), fun post h => (by unfold wp_Pg_beginStatement at h; replace h := qb0 _ h; replace h := qb1 _ h; replace h := h.2 c2; replace h := qb3 _ h; replace h := qb4 _ h; replace h := (h).2.2.1 c5_2; replace h := qb6 _ h; replace h := qb7 _ h; replace h := qb8 _ h; exact h)⟩
        · rcases Classical.em (r1 = (19 : Int32)) with c5_3 | c5_3
          · replace h := (h).2.2.2.1 c5_3
            obtain ⟨r14, u14, qa6, qb6⟩ := dt_Nd_subjectOf h
            replace h := qb6 _ h
            obtain ⟨r15, u15, qa7, qb7⟩ := dt_Nm_lettersOf h
            replace h := qb7 _ h
            obtain ⟨r16, u16, qa8, qb8⟩ := dt_Pg_putLetters h
            replace h := qb8 _ h
            exact ⟨_, _, fun post q => (by unfold wp_Pg_beginStatement; exact (qa0 _ ((qa1 _ ((pF c2 ((qa3 _ ((qa4 _ (⟨fun q9 => absurd q9 c5_0, fun q9 => absurd q9 c5_1, fun q9 => absurd q9 c5_2, fun _ => (qa6 _ ((qa7 _ ((qa8 _ (q)))))), fun q9 => absurd (c5_3.symm.trans q9) (by decide), fun q9 => absurd (c5_3.symm.trans q9) (by decide), fun q9 => absurd c5_3 (q9.2.2.2.1)⟩))))))))))), fun post h => (by unfold wp_Pg_beginStatement at h; replace h := qb0 _ h; replace h := qb1 _ h; replace h := h.2 c2; replace h := qb3 _ h; replace h := qb4 _ h; replace h := (h).2.2.2.1 c5_3; replace h := qb6 _ h; replace h := qb7 _ h; replace h := qb8 _ h; exact h)⟩
          · rcases Classical.em (r1 = (22 : Int32)) with c5_4 | c5_4
            · replace h := (h).2.2.2.2.1 c5_4
              obtain ⟨r17, u17, qa6, qb6⟩ := dt_Nd_valueOf h
              replace h := qb6 _ h
              obtain ⟨r18, u18, qa7, qb7⟩ := dt_Pg_putAmount h
              replace h := qb7 _ h
              exact ⟨_, _, fun post q => (by unfold wp_Pg_beginStatement; exact (qa0 _ ((qa1 _ ((pF c2 ((qa3 _ ((qa4 _ (⟨fun q9 => absurd q9 c5_0, fun q9 => absurd q9 c5_1, fun q9 => absurd q9 c5_2, fun q9 => absurd q9 c5_3, fun _ => (qa6 _ ((qa7 _ (q)))), fun q9 => absurd (c5_4.symm.trans q9) (by decide), fun q9 => absurd c5_4 (q9.2.2.2.2.1)⟩))))))))))), fun post h => (by unfold wp_Pg_beginStatement at h; replace h := qb0 _ h; replace h := qb1 _ h; replace h := h.2 c2; replace h := qb3 _ h; replace h := qb4 _ h; replace h := (h).2.2.2.2.1 c5_4; replace h := qb6 _ h; replace h := qb7 _ h; exact h)⟩
            · rcases Classical.em (r1 = (24 : Int32)) with c5_5 | c5_5
              · replace h := (h).2.2.2.2.2.1 c5_5
                obtain ⟨r19, u19, qa6, qb6⟩ := dt_Nd_subjectOf h
                replace h := qb6 _ h
                obtain ⟨r20, u20, qa7, qb7⟩ := dt_Nm_lettersOf h
                replace h := qb7 _ h
                obtain ⟨r21, u21, qa8, qb8⟩ := dt_Pg_putLetters h
                replace h := qb8 _ h
                exact ⟨_, _, fun post q => (by unfold wp_Pg_beginStatement; exact (qa0 _ ((qa1 _ ((pF c2 ((qa3 _ ((qa4 _ (⟨fun q9 => absurd q9 c5_0, fun q9 => absurd q9 c5_1, fun q9 => absurd q9 c5_2, fun q9 => absurd q9 c5_3, fun q9 => absurd q9 c5_4, fun _ => (qa6 _ ((qa7 _ ((qa8 _ (q)))))), fun q9 => absurd c5_5 (q9.2.2.2.2.2)⟩))))))))))), fun post h => (by unfold wp_Pg_beginStatement at h; replace h := qb0 _ h; replace h := qb1 _ h; replace h := h.2 c2; replace h := qb3 _ h; replace h := qb4 _ h; replace h := (h).2.2.2.2.2.1 c5_5; replace h := qb6 _ h; replace h := qb7 _ h; replace h := qb8 _ h; exact h)⟩
              · replace h := (h).2.2.2.2.2.2 ⟨c5_0, c5_1, c5_2, c5_3, c5_4, c5_5⟩
                exact ⟨_, _, fun post q => (by unfold wp_Pg_beginStatement; exact (qa0 _ ((qa1 _ ((pF c2 ((qa3 _ ((qa4 _ (⟨fun q9 => absurd q9 c5_0, fun q9 => absurd q9 c5_1, fun q9 => absurd q9 c5_2, fun q9 => absurd q9 c5_3, fun q9 => absurd q9 c5_4, fun q9 => absurd q9 c5_5, fun _ => q⟩))))))))))), fun post h => (by unfold wp_Pg_beginStatement at h; replace h := qb0 _ h; replace h := qb1 _ h; replace h := h.2 c2; replace h := qb3 _ h; replace h := qb4 _ h; replace h := (h).2.2.2.2.2.2 ⟨c5_0, c5_1, c5_2, c5_3, c5_4, c5_5⟩; exact h)⟩
set_option maxHeartbeats 2000000 in
theorem dt_Pg_binding {a0 : Int32} {post : Int32 → Unit → Prop} (h : wp_Pg_binding a0 post) : (∃ (w0 : Int32) (w1 : Unit), (∀ (post : Int32 → Unit → Prop), post w0 w1 → wp_Pg_binding a0 post) ∧ (∀ (post : Int32 → Unit → Prop), wp_Pg_binding a0 post → post w0 w1)) := by
  unfold wp_Pg_binding at h
  rcases Classical.em (a0 = (2 : Int32)) with c0_0 | c0_0
  · replace h := (h).1 c0_0
    exact ⟨_, _, fun post q => (by unfold wp_Pg_binding; exact ⟨fun _ => q, fun q9 => absurd (c0_0.symm.trans q9) (by decide), fun q9 => absurd (c0_0.symm.trans q9) (by decide), fun q9 => absurd (c0_0.symm.trans q9) (by decide), fun q9 => absurd (c0_0.symm.trans q9) (by decide), fun q9 => absurd c0_0 (q9.1)⟩), fun post h => (by unfold wp_Pg_binding at h; replace h := (h).1 c0_0; exact h)⟩
  · rcases Classical.em (a0 = (3 : Int32)) with c0_1 | c0_1
    · replace h := (h).2.1 c0_1
      exact ⟨_, _, fun post q => (by unfold wp_Pg_binding; exact ⟨fun q9 => absurd q9 c0_0, fun _ => q, fun q9 => absurd (c0_1.symm.trans q9) (by decide), fun q9 => absurd (c0_1.symm.trans q9) (by decide), fun q9 => absurd (c0_1.symm.trans q9) (by decide), fun q9 => absurd c0_1 (q9.2.1)⟩), fun post h => (by unfold wp_Pg_binding at h; replace h := (h).2.1 c0_1; exact h)⟩
    · rcases Classical.em (a0 = (4 : Int32)) with c0_2 | c0_2
      · replace h := (h).2.2.1 c0_2
        exact ⟨_, _, fun post q => (by unfold wp_Pg_binding; exact ⟨fun q9 => absurd q9 c0_0, fun q9 => absurd q9 c0_1, fun _ => q, fun q9 => absurd (c0_2.symm.trans q9) (by decide), fun q9 => absurd (c0_2.symm.trans q9) (by decide), fun q9 => absurd c0_2 (q9.2.2.1)⟩), fun post h => (by unfold wp_Pg_binding at h; replace h := (h).2.2.1 c0_2; exact h)⟩
      · rcases Classical.em (a0 = (5 : Int32)) with c0_3 | c0_3
        · replace h := (h).2.2.2.1 c0_3
          exact ⟨_, _, fun post q => (by unfold wp_Pg_binding; exact ⟨fun q9 => absurd q9 c0_0, fun q9 => absurd q9 c0_1, fun q9 => absurd q9 c0_2, fun _ => q, fun q9 => absurd (c0_3.symm.trans q9) (by decide), fun q9 => absurd c0_3 (q9.2.2.2.1)⟩), fun post h => (by unfold wp_Pg_binding at h; replace h := (h).2.2.2.1 c0_3; exact h)⟩
        · rcases Classical.em (a0 = (6 : Int32)) with c0_4 | c0_4
          · replace h := (h).2.2.2.2.1 c0_4
            exact ⟨_, _, fun post q => (by unfold wp_Pg_binding; exact ⟨fun q9 => absurd q9 c0_0, fun q9 => absurd q9 c0_1, fun q9 => absurd q9 c0_2, fun q9 => absurd q9 c0_3, fun _ => q, fun q9 => absurd c0_4 (q9.2.2.2.2)⟩), fun post h => (by unfold wp_Pg_binding at h; replace h := (h).2.2.2.2.1 c0_4; exact h)⟩
          · replace h := (h).2.2.2.2.2 ⟨c0_0, c0_1, c0_2, c0_3, c0_4⟩
            exact ⟨_, _, fun post q => (by unfold wp_Pg_binding; exact ⟨fun q9 => absurd q9 c0_0, fun q9 => absurd q9 c0_1, fun q9 => absurd q9 c0_2, fun q9 => absurd q9 c0_3, fun q9 => absurd q9 c0_4, fun _ => q⟩), fun post h => (by unfold wp_Pg_binding at h; replace h := (h).2.2.2.2.2 ⟨c0_0, c0_1, c0_2, c0_3, c0_4⟩; exact h)⟩
set_option maxHeartbeats 2000000 in
theorem dt_Pg_isBracketed {z_this : T_Pg} {z_this_nodes : T_Nd} {a1 : Int32} {post : Int32 → Unit → Prop} (h : wp_Pg_isBracketed z_this z_this_nodes a1 post) : (∃ (w0 : Int32) (w1 : Unit), (∀ (post : Int32 → Unit → Prop), post w0 w1 → wp_Pg_isBracketed z_this z_this_nodes a1 post) ∧ (∀ (post : Int32 → Unit → Prop), wp_Pg_isBracketed z_this z_this_nodes a1 post → post w0 w1)) := by
  unfold wp_Pg_isBracketed at h
  obtain ⟨r1, u1, qa0, qb0⟩ := dt_Nd_parentOf h
  replace h := qb0 _ h
  obtain ⟨r2, u2, qa1, qb1⟩ := dt_Nd_kindOf h
  replace h := qb1 _ h
  obtain ⟨r3, u3, qa2, qb2⟩ := dt_Pg_binding h
  replace h := qb2 _ h
  obtain ⟨r4, u4, qa3, qb3⟩ := dt_Nd_kindOf h
  replace h := qb3 _ h
  obtain ⟨r5, u5, qa4, qb4⟩ := dt_Pg_binding h
  replace h := qb4 _ h
  rcases br_el h with ⟨c5, h⟩ | ⟨c5, h⟩
  · exact ⟨_, _, fun post q => (by unfold wp_Pg_isBracketed; exact (qa0 _ ((qa1 _ ((qa2 _ ((qa3 _ ((qa4 _ ((pT c5 (q))))))))))))), fun post h => (by unfold wp_Pg_isBracketed at h; replace h := qb0 _ h; replace h := qb1 _ h; replace h := qb2 _ h; replace h := qb3 _ h; replace h := qb4 _ h; replace h := h.1 c5; exact h)⟩
  · obtain ⟨r6, u6, qa6, qb6⟩ := dt_Pg_binding h
    replace h := qb6 _ h
    rcases br_el h with ⟨c7, h⟩ | ⟨c7, h⟩
    · exact ⟨_, _, fun post q => (by unfold wp_Pg_isBracketed; exact (qa0 _ ((qa1 _ ((qa2 _ ((qa3 _ ((qa4 _ ((pF c5 ((qa6 _ ((pT c7 (q))))))))))))))))), fun post h => (by unfold wp_Pg_isBracketed at h; replace h := qb0 _ h; replace h := qb1 _ h; replace h := qb2 _ h; replace h := qb3 _ h; replace h := qb4 _ h; replace h := h.2 c5; replace h := qb6 _ h; replace h := h.1 c7; exact h)⟩
    · rcases br_el h with ⟨c8, h⟩ | ⟨c8, h⟩
      · exact ⟨_, _, fun post q => (by unfold wp_Pg_isBracketed; exact (qa0 _ ((qa1 _ ((qa2 _ ((qa3 _ ((qa4 _ ((pF c5 ((qa6 _ ((pF c7 ((pT c8 (q))))))))))))))))))), fun post h => (by unfold wp_Pg_isBracketed at h; replace h := qb0 _ h; replace h := qb1 _ h; replace h := qb2 _ h; replace h := qb3 _ h; replace h := qb4 _ h; replace h := h.2 c5; replace h := qb6 _ h; replace h := h.2 c7; replace h := h.1 c8; exact h)⟩
      · rcases br_el h with ⟨c9, h⟩ | ⟨c9, h⟩
        · obtain ⟨r7, u7, qa10, qb10⟩ := dt_Nd_firstOf h
          replace h := qb10 _ h
          rcases br_el h with ⟨c11, h⟩ | ⟨c11, h⟩
          · exact ⟨_, _, fun post q => (by unfold wp_Pg_isBracketed; exact (qa0 _ ((qa1 _ ((qa2 _ ((qa3 _ ((qa4 _ ((pF c5 ((qa6 _ ((pF c7 ((pF c8 ((pT c9 ((qa10 _ ((pT c11 (q))))))))))))))))))))))))), fun post h => (by unfold wp_Pg_isBracketed at h; replace h := qb0 _ h; replace h := qb1 _ h; replace h := qb2 _ h; replace h := qb3 _ h; replace h := qb4 _ h; replace h := h.2 c5; replace h := qb6 _ h; replace h := h.2 c7; replace h := h.2 c8; replace h := h.1 c9; replace h := qb10 _ h; replace h := h.1 c11; exact h)⟩
          · exact ⟨_, _, fun post q => (by unfold wp_Pg_isBracketed; exact (qa0 _ ((qa1 _ ((qa2 _ ((qa3 _ ((qa4 _ ((pF c5 ((qa6 _ ((pF c7 ((pF c8 ((pT c9 ((qa10 _ ((pF c11 (q))))))))))))))))))))))))), fun post h => (by unfold wp_Pg_isBracketed at h; replace h := qb0 _ h; replace h := qb1 _ h; replace h := qb2 _ h; replace h := qb3 _ h; replace h := qb4 _ h; replace h := h.2 c5; replace h := qb6 _ h; replace h := h.2 c7; replace h := h.2 c8; replace h := h.1 c9; replace h := qb10 _ h; replace h := h.2 c11; exact h)⟩
        · exact ⟨_, _, fun post q => (by unfold wp_Pg_isBracketed; exact (qa0 _ ((qa1 _ ((qa2 _ ((qa3 _ ((qa4 _ ((pF c5 ((qa6 _ ((pF c7 ((pF c8 ((pF c9 (q))))))))))))))))))))), fun post h => (by unfold wp_Pg_isBracketed at h; replace h := qb0 _ h; replace h := qb1 _ h; replace h := qb2 _ h; replace h := qb3 _ h; replace h := qb4 _ h; replace h := h.2 c5; replace h := qb6 _ h; replace h := h.2 c7; replace h := h.2 c8; replace h := h.2 c9; exact h)⟩
set_option maxHeartbeats 2000000 in
theorem dt_Pg_enter {z_this : T_Pg} {z_this_keywords : T_Kw} {z_this_names : T_Nm} {z_this_nodes : T_Nd} {a1 : Int32} {post : Unit → T_Pg → Prop} (h : wp_Pg_enter z_this z_this_keywords z_this_names z_this_nodes a1 post) : (∃ (w0 : Unit) (w1 : T_Pg), (∀ (post : Unit → T_Pg → Prop), post w0 w1 → wp_Pg_enter z_this z_this_keywords z_this_names z_this_nodes a1 post) ∧ (∀ (post : Unit → T_Pg → Prop), wp_Pg_enter z_this z_this_keywords z_this_names z_this_nodes a1 post → post w0 w1)) := by
  unfold wp_Pg_enter at h
  obtain ⟨r1, u1, qa0, qb0⟩ := dt_Nd_kindOf h
  replace h := qb0 _ h
  rcases Classical.em (r1 = (0 : Int32)) with c1_0 | c1_0
  · replace h := (h).1 c1_0
    obtain ⟨r2, u2, qa2, qb2⟩ := dt_Nd_valueOf h
    replace h := qb2 _ h
    obtain ⟨r3, u3, qa3, qb3⟩ := dt_Pg_putAmount h
    replace h := qb3 _ h
    obtain ⟨r4, u4, qa4, qb4⟩ := dt_Nd_measureOf h
    replace h := qb4 _ h
    obtain ⟨r5, u5, qa5, qb5⟩ := dt_Pg_putUnit h
    replace h := qb5 _ h
    exact ⟨_, _, fun post q => (by unfold wp_Pg_enter; exact (qa0 _ (⟨fun _ => (qa2 _ ((qa3 _ ((qa4 _ ((qa5 _ (q)))))))), fun q9 => absurd (c1_0.symm.trans q9) (by decide), fun q9 => absurd (c1_0.symm.trans q9) (by decide), fun q9 => absurd (c1_0.symm.trans q9) (by decide), fun q9 => absurd c1_0 (q9.1)⟩))), fun post h => (by unfold wp_Pg_enter at h; replace h := qb0 _ h; replace h := (h).1 c1_0; replace h := qb2 _ h; replace h := qb3 _ h; replace h := qb4 _ h; replace h := qb5 _ h; exact h)⟩
  · rcases Classical.em (r1 = (1 : Int32)) with c1_1 | c1_1
    · replace h := (h).2.1 c1_1
      obtain ⟨r6, u6, qa2, qb2⟩ := dt_Nd_subjectOf h
      replace h := qb2 _ h
      obtain ⟨r7, u7, qa3, qb3⟩ := dt_Nm_lettersOf h
      replace h := qb3 _ h
      obtain ⟨r8, u8, qa4, qb4⟩ := dt_Pg_putLetters h
      replace h := qb4 _ h
      exact ⟨_, _, fun post q => (by unfold wp_Pg_enter; exact (qa0 _ (⟨fun q9 => absurd q9 c1_0, fun _ => (qa2 _ ((qa3 _ ((qa4 _ (q)))))), fun q9 => absurd (c1_1.symm.trans q9) (by decide), fun q9 => absurd (c1_1.symm.trans q9) (by decide), fun q9 => absurd c1_1 (q9.2.1)⟩))), fun post h => (by unfold wp_Pg_enter at h; replace h := qb0 _ h; replace h := (h).2.1 c1_1; replace h := qb2 _ h; replace h := qb3 _ h; replace h := qb4 _ h; exact h)⟩
    · rcases Classical.em (r1 = (6 : Int32)) with c1_2 | c1_2
      · replace h := (h).2.2.1 c1_2
        obtain ⟨r9, u9, qa2, qb2⟩ := dt_Pg_putSign h
        replace h := qb2 _ h
        exact ⟨_, _, fun post q => (by unfold wp_Pg_enter; exact (qa0 _ (⟨fun q9 => absurd q9 c1_0, fun q9 => absurd q9 c1_1, fun _ => (qa2 _ (q)), fun q9 => absurd (c1_2.symm.trans q9) (by decide), fun q9 => absurd c1_2 (q9.2.2.1)⟩))), fun post h => (by unfold wp_Pg_enter at h; replace h := qb0 _ h; replace h := (h).2.2.1 c1_2; replace h := qb2 _ h; exact h)⟩
      · rcases Classical.em (r1 = (23 : Int32)) with c1_3 | c1_3
        · replace h := (h).2.2.2.1 c1_3
          obtain ⟨r10, u10, qa2, qb2⟩ := dt_Pg_putSign h
          replace h := qb2 _ h
          exact ⟨_, _, fun post q => (by unfold wp_Pg_enter; exact (qa0 _ (⟨fun q9 => absurd q9 c1_0, fun q9 => absurd q9 c1_1, fun q9 => absurd q9 c1_2, fun _ => (qa2 _ (q)), fun q9 => absurd c1_3 (q9.2.2.2)⟩))), fun post h => (by unfold wp_Pg_enter at h; replace h := qb0 _ h; replace h := (h).2.2.2.1 c1_3; replace h := qb2 _ h; exact h)⟩
        · replace h := (h).2.2.2.2 ⟨c1_0, c1_1, c1_2, c1_3⟩
          obtain ⟨r11, u11, qa2, qb2⟩ := dt_Nd_kindOf h
          replace h := qb2 _ h
          rcases br_el h with ⟨c3, h⟩ | ⟨c3, h⟩
          · obtain ⟨r12, u12, qa4, qb4⟩ := dt_Pg_isBracketed h
            replace h := qb4 _ h
            rcases br_el h with ⟨c5, h⟩ | ⟨c5, h⟩
            · exact ⟨_, _, fun post q => (by unfold wp_Pg_enter; exact (qa0 _ (⟨fun q9 => absurd q9 c1_0, fun q9 => absurd q9 c1_1, fun q9 => absurd q9 c1_2, fun q9 => absurd q9 c1_3, fun _ => (qa2 _ ((pT c3 ((qa4 _ ((pT c5 (q))))))))⟩))), fun post h => (by unfold wp_Pg_enter at h; replace h := qb0 _ h; replace h := (h).2.2.2.2 ⟨c1_0, c1_1, c1_2, c1_3⟩; replace h := qb2 _ h; replace h := h.1 c3; replace h := qb4 _ h; replace h := h.1 c5; exact h)⟩
            · obtain ⟨r13, u13, qa6, qb6⟩ := dt_Pg_putSign h
              replace h := qb6 _ h
              exact ⟨_, _, fun post q => (by unfold wp_Pg_enter; exact (qa0 _ (⟨fun q9 => absurd q9 c1_0, fun q9 => absurd q9 c1_1, fun q9 => absurd q9 c1_2, fun q9 => absurd q9 c1_3, fun _ => (qa2 _ ((pT c3 ((qa4 _ ((pF c5 ((qa6 _ (q))))))))))⟩))), fun post h => (by unfold wp_Pg_enter at h; replace h := qb0 _ h; replace h := (h).2.2.2.2 ⟨c1_0, c1_1, c1_2, c1_3⟩; replace h := qb2 _ h; replace h := h.1 c3; replace h := qb4 _ h; replace h := h.2 c5; replace h := qb6 _ h; exact h)⟩
          · obtain ⟨r14, u14, qa4, qb4⟩ := dt_Pg_beginStatement h
            replace h := qb4 _ h
            exact ⟨_, _, fun post q => (by unfold wp_Pg_enter; exact (qa0 _ (⟨fun q9 => absurd q9 c1_0, fun q9 => absurd q9 c1_1, fun q9 => absurd q9 c1_2, fun q9 => absurd q9 c1_3, fun _ => (qa2 _ ((pF c3 ((qa4 _ (q))))))⟩))), fun post h => (by unfold wp_Pg_enter at h; replace h := qb0 _ h; replace h := (h).2.2.2.2 ⟨c1_0, c1_1, c1_2, c1_3⟩; replace h := qb2 _ h; replace h := h.2 c3; replace h := qb4 _ h; exact h)⟩
set_option maxHeartbeats 2000000 in
theorem dt_Pg_leave {z_this : T_Pg} {z_this_nodes : T_Nd} {a1 : Int32} {post : Unit → T_Pg → Prop} (h : wp_Pg_leave z_this z_this_nodes a1 post) : (∃ (w0 : Unit) (w1 : T_Pg), (∀ (post : Unit → T_Pg → Prop), post w0 w1 → wp_Pg_leave z_this z_this_nodes a1 post) ∧ (∀ (post : Unit → T_Pg → Prop), wp_Pg_leave z_this z_this_nodes a1 post → post w0 w1)) := by
  unfold wp_Pg_leave at h
  obtain ⟨r1, u1, qa0, qb0⟩ := dt_Nd_kindOf h
  replace h := qb0 _ h
  rcases br_el h with ⟨c1, h⟩ | ⟨c1, h⟩
  · obtain ⟨r6, u6, qa2, qb2⟩ := dt_Pg_beginLine h
    replace h := qb2 _ h
    obtain ⟨r7, u7, qa3, qb3⟩ := dt_Pg_putSign h
    replace h := qb3 _ h
    exact ⟨_, _, fun post q => (by unfold wp_Pg_leave; exact (qa0 _ ((pT c1 ((qa2 _ ((qa3 _ (q))))))))), fun post h => (by unfold wp_Pg_leave at h; replace h := qb0 _ h; replace h := h.1 c1; replace h := qb2 _ h; replace h := qb3 _ h; exact h)⟩
  · obtain ⟨r2, u2, qa2, qb2⟩ := dt_Nd_endsWithSemicolon h
    replace h := qb2 _ h
    rcases br_el h with ⟨c3, h⟩ | ⟨c3, h⟩
    · obtain ⟨r3, u3, qa4, qb4⟩ := dt_Pg_isBracketed h
      replace h := qb4 _ h
      rcases br_el h with ⟨c5, h⟩ | ⟨c5, h⟩
      · exact ⟨_, _, fun post q => (by unfold wp_Pg_leave; exact (qa0 _ ((pF c1 ((qa2 _ ((pT c3 ((qa4 _ ((pT c5 (q))))))))))))), fun post h => (by unfold wp_Pg_leave at h; replace h := qb0 _ h; replace h := h.2 c1; replace h := qb2 _ h; replace h := h.1 c3; replace h := qb4 _ h; replace h := h.1 c5; exact h)⟩
      · obtain ⟨r4, u4, qa6, qb6⟩ := dt_Pg_putSign h
        replace h := qb6 _ h
        exact ⟨_, _, fun post q => (by unfold wp_Pg_leave; exact (qa0 _ ((pF c1 ((qa2 _ ((pT c3 ((qa4 _ ((pF c5 ((qa6 _ (q))))))))))))))), fun post h => (by unfold wp_Pg_leave at h; replace h := qb0 _ h; replace h := h.2 c1; replace h := qb2 _ h; replace h := h.1 c3; replace h := qb4 _ h; replace h := h.2 c5; replace h := qb6 _ h; exact h)⟩
    · obtain ⟨r5, u5, qa4, qb4⟩ := dt_Pg_putSign h
      replace h := qb4 _ h
      exact ⟨_, _, fun post q => (by unfold wp_Pg_leave; exact (qa0 _ ((pF c1 ((qa2 _ ((pF c3 ((qa4 _ (q))))))))))), fun post h => (by unfold wp_Pg_leave at h; replace h := qb0 _ h; replace h := h.2 c1; replace h := qb2 _ h; replace h := h.2 c3; replace h := qb4 _ h; exact h)⟩
set_option maxHeartbeats 2000000 in
theorem dt_Pg_putBehind {z_this : T_Pg} {z_this_keywords : T_Kw} {z_this_nodes : T_Nd} {a1 : Int32} {post : Unit → T_Pg → Prop} (h : wp_Pg_putBehind z_this z_this_keywords z_this_nodes a1 post) : (∃ (w0 : Unit) (w1 : T_Pg), (∀ (post : Unit → T_Pg → Prop), post w0 w1 → wp_Pg_putBehind z_this z_this_keywords z_this_nodes a1 post) ∧ (∀ (post : Unit → T_Pg → Prop), wp_Pg_putBehind z_this z_this_keywords z_this_nodes a1 post → post w0 w1)) := by
  unfold wp_Pg_putBehind at h
  obtain ⟨r1, u1, qa0, qb0⟩ := dt_Nd_parentOf h
  replace h := qb0 _ h
  obtain ⟨r2, u2, qa1, qb1⟩ := dt_Nd_kindOf h
  replace h := qb1 _ h
  obtain ⟨r3, u3, qa2, qb2⟩ := dt_Nd_kindOf h
  replace h := qb2 _ h
  rcases br_el h with ⟨c3, h⟩ | ⟨c3, h⟩
  · rcases br_el h with ⟨c4, h⟩ | ⟨c4, h⟩
    · rcases br_el h with ⟨c5, h⟩ | ⟨c5, h⟩
      · obtain ⟨r28, u28, qa6, qb6⟩ := dt_Kw_lettersOf h
        replace h := qb6 _ h
        obtain ⟨r29, u29, qa7, qb7⟩ := dt_Pg_putLetters h
        replace h := qb7 _ h
        exact ⟨_, _, fun post q => (by unfold wp_Pg_putBehind; exact (qa0 _ ((qa1 _ ((qa2 _ ((pT c3 ((pT c4 ((pT c5 ((qa6 _ ((qa7 _ (q))))))))))))))))), fun post h => (by unfold wp_Pg_putBehind at h; replace h := qb0 _ h; replace h := qb1 _ h; replace h := qb2 _ h; replace h := h.1 c3; replace h := h.1 c4; replace h := h.1 c5; replace h := qb6 _ h; replace h := qb7 _ h; exact h)⟩
      · rcases br_el h with ⟨c6, h⟩ | ⟨c6, h⟩
        · rcases br_el h with ⟨c7, h⟩ | ⟨c7, h⟩
          · exact absurd c7 (by decide)
          · obtain ⟨r26, u26, qa8, qb8⟩ := dt_Kw_lettersOf h
            replace h := qb8 _ h
            obtain ⟨r27, u27, qa9, qb9⟩ := dt_Pg_putLetters h
            replace h := qb9 _ h
            exact ⟨_, _, fun post q => (by unfold wp_Pg_putBehind; exact (qa0 _ ((qa1 _ ((qa2 _ ((pT c3 ((pT c4 ((pF c5 ((pT c6 ((pF c7 ((qa8 _ ((qa9 _ (q))))))))))))))))))))), fun post h => (by unfold wp_Pg_putBehind at h; replace h := qb0 _ h; replace h := qb1 _ h; replace h := qb2 _ h; replace h := h.1 c3; replace h := h.1 c4; replace h := h.2 c5; replace h := h.1 c6; replace h := h.2 c7; replace h := qb8 _ h; replace h := qb9 _ h; exact h)⟩
        · rcases br_el h with ⟨c7, h⟩ | ⟨c7, h⟩
          · rcases br_el h with ⟨c8, h⟩ | ⟨c8, h⟩
            · exact absurd c8 (by decide)
            · obtain ⟨r22, u22, qa9, qb9⟩ := dt_Kw_lettersOf h
              replace h := qb9 _ h
              obtain ⟨r23, u23, qa10, qb10⟩ := dt_Pg_putLetters h
              replace h := qb10 _ h
              exact ⟨_, _, fun post q => (by unfold wp_Pg_putBehind; exact (qa0 _ ((qa1 _ ((qa2 _ ((pT c3 ((pT c4 ((pF c5 ((pF c6 ((pT c7 ((pF c8 ((qa9 _ ((qa10 _ (q))))))))))))))))))))))), fun post h => (by unfold wp_Pg_putBehind at h; replace h := qb0 _ h; replace h := qb1 _ h; replace h := qb2 _ h; replace h := h.1 c3; replace h := h.1 c4; replace h := h.2 c5; replace h := h.2 c6; replace h := h.1 c7; replace h := h.2 c8; replace h := qb9 _ h; replace h := qb10 _ h; exact h)⟩
          · exact ⟨_, _, fun post q => (by unfold wp_Pg_putBehind; exact (qa0 _ ((qa1 _ ((qa2 _ ((pT c3 ((pT c4 ((pF c5 ((pF c6 ((pF c7 (q))))))))))))))))), fun post h => (by unfold wp_Pg_putBehind at h; replace h := qb0 _ h; replace h := qb1 _ h; replace h := qb2 _ h; replace h := h.1 c3; replace h := h.1 c4; replace h := h.2 c5; replace h := h.2 c6; replace h := h.2 c7; exact h)⟩
    · rcases br_el h with ⟨c5, h⟩ | ⟨c5, h⟩
      · rcases br_el h with ⟨c6, h⟩ | ⟨c6, h⟩
        · obtain ⟨r36, u36, qa7, qb7⟩ := dt_Kw_lettersOf h
          replace h := qb7 _ h
          obtain ⟨r37, u37, qa8, qb8⟩ := dt_Pg_putLetters h
          replace h := qb8 _ h
          exact ⟨_, _, fun post q => (by unfold wp_Pg_putBehind; exact (qa0 _ ((qa1 _ ((qa2 _ ((pT c3 ((pF c4 ((pT c5 ((pT c6 ((qa7 _ ((qa8 _ (q))))))))))))))))))), fun post h => (by unfold wp_Pg_putBehind at h; replace h := qb0 _ h; replace h := qb1 _ h; replace h := qb2 _ h; replace h := h.1 c3; replace h := h.2 c4; replace h := h.1 c5; replace h := h.1 c6; replace h := qb7 _ h; replace h := qb8 _ h; exact h)⟩
        · rcases br_el h with ⟨c7, h⟩ | ⟨c7, h⟩
          · rcases br_el h with ⟨c8, h⟩ | ⟨c8, h⟩
            · exact absurd c8 (by decide)
            · obtain ⟨r34, u34, qa9, qb9⟩ := dt_Kw_lettersOf h
              replace h := qb9 _ h
              obtain ⟨r35, u35, qa10, qb10⟩ := dt_Pg_putLetters h
              replace h := qb10 _ h
              exact ⟨_, _, fun post q => (by unfold wp_Pg_putBehind; exact (qa0 _ ((qa1 _ ((qa2 _ ((pT c3 ((pF c4 ((pT c5 ((pF c6 ((pT c7 ((pF c8 ((qa9 _ ((qa10 _ (q))))))))))))))))))))))), fun post h => (by unfold wp_Pg_putBehind at h; replace h := qb0 _ h; replace h := qb1 _ h; replace h := qb2 _ h; replace h := h.1 c3; replace h := h.2 c4; replace h := h.1 c5; replace h := h.2 c6; replace h := h.1 c7; replace h := h.2 c8; replace h := qb9 _ h; replace h := qb10 _ h; exact h)⟩
          · rcases br_el h with ⟨c8, h⟩ | ⟨c8, h⟩
            · rcases br_el h with ⟨c9, h⟩ | ⟨c9, h⟩
              · exact absurd c9 (by decide)
              · obtain ⟨r30, u30, qa10, qb10⟩ := dt_Kw_lettersOf h
                replace h := qb10 _ h
                obtain ⟨r31, u31, qa11, qb11⟩ := dt_Pg_putLetters h
                replace h := qb11 _ h
                exact ⟨_, _, fun post q => (by unfold wp_Pg_putBehind; exact (qa0 _ ((qa1 _ ((qa2 _ ((pT c3 ((pF c4 ((pT c5 ((pF c6 ((pF c7 ((pT c8 ((pF c9 ((qa10 _ ((qa11 _ (q))))))))))))))))))))))))), fun post h => (by unfold wp_Pg_putBehind at h; replace h := qb0 _ h; replace h := qb1 _ h; replace h := qb2 _ h; replace h := h.1 c3; replace h := h.2 c4; replace h := h.1 c5; replace h := h.2 c6; replace h := h.2 c7; replace h := h.1 c8; replace h := h.2 c9; replace h := qb10 _ h; replace h := qb11 _ h; exact h)⟩
            · exact ⟨_, _, fun post q => (by unfold wp_Pg_putBehind; exact (qa0 _ ((qa1 _ ((qa2 _ ((pT c3 ((pF c4 ((pT c5 ((pF c6 ((pF c7 ((pF c8 (q))))))))))))))))))), fun post h => (by unfold wp_Pg_putBehind at h; replace h := qb0 _ h; replace h := qb1 _ h; replace h := qb2 _ h; replace h := h.1 c3; replace h := h.2 c4; replace h := h.1 c5; replace h := h.2 c6; replace h := h.2 c7; replace h := h.2 c8; exact h)⟩
      · obtain ⟨s6, h⟩ := h
        obtain ⟨r39, u39, qa7, qb7⟩ := dt_Pg_putSign h
        replace h := qb7 _ h
        exact ⟨_, _, fun post q => (by unfold wp_Pg_putBehind; exact (qa0 _ ((qa1 _ ((qa2 _ ((pT c3 ((pF c4 ((pF c5 (⟨s6, (qa7 _ (q))⟩))))))))))))), fun post h => (by unfold wp_Pg_putBehind at h; replace h := qb0 _ h; replace h := qb1 _ h; replace h := qb2 _ h; replace h := h.1 c3; replace h := h.2 c4; replace h := h.2 c5; replace h := h.2; replace h := qb7 _ h; exact h)⟩
  · rcases br_el h with ⟨c4, h⟩ | ⟨c4, h⟩
    · rcases br_el h with ⟨c5, h⟩ | ⟨c5, h⟩
      · obtain ⟨r10, u10, qa6, qb6⟩ := dt_Kw_lettersOf h
        replace h := qb6 _ h
        obtain ⟨r11, u11, qa7, qb7⟩ := dt_Pg_putLetters h
        replace h := qb7 _ h
        exact ⟨_, _, fun post q => (by unfold wp_Pg_putBehind; exact (qa0 _ ((qa1 _ ((qa2 _ ((pF c3 ((pT c4 ((pT c5 ((qa6 _ ((qa7 _ (q))))))))))))))))), fun post h => (by unfold wp_Pg_putBehind at h; replace h := qb0 _ h; replace h := qb1 _ h; replace h := qb2 _ h; replace h := h.2 c3; replace h := h.1 c4; replace h := h.1 c5; replace h := qb6 _ h; replace h := qb7 _ h; exact h)⟩
      · rcases br_el h with ⟨c6, h⟩ | ⟨c6, h⟩
        · rcases br_el h with ⟨c7, h⟩ | ⟨c7, h⟩
          · rcases br_el h with ⟨c8, h⟩ | ⟨c8, h⟩
            · rcases br_el h with ⟨c9, h⟩ | ⟨c9, h⟩
              · exact ⟨_, _, fun post q => (by unfold wp_Pg_putBehind; exact (qa0 _ ((qa1 _ ((qa2 _ ((pF c3 ((pT c4 ((pF c5 ((pT c6 ((pT c7 ((pT c8 ((pT c9 (q))))))))))))))))))))), fun post h => (by unfold wp_Pg_putBehind at h; replace h := qb0 _ h; replace h := qb1 _ h; replace h := qb2 _ h; replace h := h.2 c3; replace h := h.1 c4; replace h := h.2 c5; replace h := h.1 c6; replace h := h.1 c7; replace h := h.1 c8; replace h := h.1 c9; exact h)⟩
              · exact absurd (by decide) c9
            · exact ⟨_, _, fun post q => (by unfold wp_Pg_putBehind; exact (qa0 _ ((qa1 _ ((qa2 _ ((pF c3 ((pT c4 ((pF c5 ((pT c6 ((pT c7 ((pF c8 (q))))))))))))))))))), fun post h => (by unfold wp_Pg_putBehind at h; replace h := qb0 _ h; replace h := qb1 _ h; replace h := qb2 _ h; replace h := h.2 c3; replace h := h.1 c4; replace h := h.2 c5; replace h := h.1 c6; replace h := h.1 c7; replace h := h.2 c8; exact h)⟩
          · exact absurd (by decide) c7
        · rcases br_el h with ⟨c7, h⟩ | ⟨c7, h⟩
          · rcases br_el h with ⟨c8, h⟩ | ⟨c8, h⟩
            · exact ⟨_, _, fun post q => (by unfold wp_Pg_putBehind; exact (qa0 _ ((qa1 _ ((qa2 _ ((pF c3 ((pT c4 ((pF c5 ((pF c6 ((pT c7 ((pT c8 (q))))))))))))))))))), fun post h => (by unfold wp_Pg_putBehind at h; replace h := qb0 _ h; replace h := qb1 _ h; replace h := qb2 _ h; replace h := h.2 c3; replace h := h.1 c4; replace h := h.2 c5; replace h := h.2 c6; replace h := h.1 c7; replace h := h.1 c8; exact h)⟩
            · exact absurd (by decide) c8
          · exact ⟨_, _, fun post q => (by unfold wp_Pg_putBehind; exact (qa0 _ ((qa1 _ ((qa2 _ ((pF c3 ((pT c4 ((pF c5 ((pF c6 ((pF c7 (q))))))))))))))))), fun post h => (by unfold wp_Pg_putBehind at h; replace h := qb0 _ h; replace h := qb1 _ h; replace h := qb2 _ h; replace h := h.2 c3; replace h := h.1 c4; replace h := h.2 c5; replace h := h.2 c6; replace h := h.2 c7; exact h)⟩
    · rcases br_el h with ⟨c5, h⟩ | ⟨c5, h⟩
      · rcases br_el h with ⟨c6, h⟩ | ⟨c6, h⟩
        · obtain ⟨r18, u18, qa7, qb7⟩ := dt_Kw_lettersOf h
          replace h := qb7 _ h
          obtain ⟨r19, u19, qa8, qb8⟩ := dt_Pg_putLetters h
          replace h := qb8 _ h
          exact ⟨_, _, fun post q => (by unfold wp_Pg_putBehind; exact (qa0 _ ((qa1 _ ((qa2 _ ((pF c3 ((pF c4 ((pT c5 ((pT c6 ((qa7 _ ((qa8 _ (q))))))))))))))))))), fun post h => (by unfold wp_Pg_putBehind at h; replace h := qb0 _ h; replace h := qb1 _ h; replace h := qb2 _ h; replace h := h.2 c3; replace h := h.2 c4; replace h := h.1 c5; replace h := h.1 c6; replace h := qb7 _ h; replace h := qb8 _ h; exact h)⟩
        · rcases br_el h with ⟨c7, h⟩ | ⟨c7, h⟩
          · rcases br_el h with ⟨c8, h⟩ | ⟨c8, h⟩
            · rcases br_el h with ⟨c9, h⟩ | ⟨c9, h⟩
              · rcases br_el h with ⟨c10, h⟩ | ⟨c10, h⟩
                · exact ⟨_, _, fun post q => (by unfold wp_Pg_putBehind; exact (qa0 _ ((qa1 _ ((qa2 _ ((pF c3 ((pF c4 ((pT c5 ((pF c6 ((pT c7 ((pT c8 ((pT c9 ((pT c10 (q))))))))))))))))))))))), fun post h => (by unfold wp_Pg_putBehind at h; replace h := qb0 _ h; replace h := qb1 _ h; replace h := qb2 _ h; replace h := h.2 c3; replace h := h.2 c4; replace h := h.1 c5; replace h := h.2 c6; replace h := h.1 c7; replace h := h.1 c8; replace h := h.1 c9; replace h := h.1 c10; exact h)⟩
                · exact absurd (by decide) c10
              · exact ⟨_, _, fun post q => (by unfold wp_Pg_putBehind; exact (qa0 _ ((qa1 _ ((qa2 _ ((pF c3 ((pF c4 ((pT c5 ((pF c6 ((pT c7 ((pT c8 ((pF c9 (q))))))))))))))))))))), fun post h => (by unfold wp_Pg_putBehind at h; replace h := qb0 _ h; replace h := qb1 _ h; replace h := qb2 _ h; replace h := h.2 c3; replace h := h.2 c4; replace h := h.1 c5; replace h := h.2 c6; replace h := h.1 c7; replace h := h.1 c8; replace h := h.2 c9; exact h)⟩
            · exact absurd (by decide) c8
          · rcases br_el h with ⟨c8, h⟩ | ⟨c8, h⟩
            · rcases br_el h with ⟨c9, h⟩ | ⟨c9, h⟩
              · exact ⟨_, _, fun post q => (by unfold wp_Pg_putBehind; exact (qa0 _ ((qa1 _ ((qa2 _ ((pF c3 ((pF c4 ((pT c5 ((pF c6 ((pF c7 ((pT c8 ((pT c9 (q))))))))))))))))))))), fun post h => (by unfold wp_Pg_putBehind at h; replace h := qb0 _ h; replace h := qb1 _ h; replace h := qb2 _ h; replace h := h.2 c3; replace h := h.2 c4; replace h := h.1 c5; replace h := h.2 c6; replace h := h.2 c7; replace h := h.1 c8; replace h := h.1 c9; exact h)⟩
              · exact absurd (by decide) c9
            · exact ⟨_, _, fun post q => (by unfold wp_Pg_putBehind; exact (qa0 _ ((qa1 _ ((qa2 _ ((pF c3 ((pF c4 ((pT c5 ((pF c6 ((pF c7 ((pF c8 (q))))))))))))))))))), fun post h => (by unfold wp_Pg_putBehind at h; replace h := qb0 _ h; replace h := qb1 _ h; replace h := qb2 _ h; replace h := h.2 c3; replace h := h.2 c4; replace h := h.1 c5; replace h := h.2 c6; replace h := h.2 c7; replace h := h.2 c8; exact h)⟩
      · obtain ⟨s6, h⟩ := h
        obtain ⟨r21, u21, qa7, qb7⟩ := dt_Pg_putSign h
        replace h := qb7 _ h
        exact ⟨_, _, fun post q => (by unfold wp_Pg_putBehind; exact (qa0 _ ((qa1 _ ((qa2 _ ((pF c3 ((pF c4 ((pF c5 (⟨s6, (qa7 _ (q))⟩))))))))))))), fun post h => (by unfold wp_Pg_putBehind at h; replace h := qb0 _ h; replace h := qb1 _ h; replace h := qb2 _ h; replace h := h.2 c3; replace h := h.2 c4; replace h := h.2 c5; replace h := h.2; replace h := qb7 _ h; exact h)⟩
set_option maxHeartbeats 2000000 in
theorem dt_Pg_leaveUpTo_L5 {z_this_keywords : T_Kw} {z_this_nodes : T_Nd} : ∀ (n9 : Nat) (z_this : T_Pg) (x1 : Int32) (x2 : Int32) (x3 : Int32) (x4 : Int32) (K : T_Pg → Int32 → Int32 → Int32 → Int32 → Prop) (post : Int32 → T_Pg → Prop), wp_Pg_leaveUpTo_L5 z_this_keywords z_this_nodes K post n9 z_this x1 x2 x3 x4 → (∃ (w0 : T_Pg) (w1 : Int32) (w2 : Int32) (w3 : Int32) (w4 : Int32), (∀ (K : T_Pg → Int32 → Int32 → Int32 → Int32 → Prop) (post : Int32 → T_Pg → Prop), K w0 w1 w2 w3 w4 → wp_Pg_leaveUpTo_L5 z_this_keywords z_this_nodes K post n9 z_this x1 x2 x3 x4) ∧ (∀ (m9 : Nat) (K : T_Pg → Int32 → Int32 → Int32 → Int32 → Prop) (post : Int32 → T_Pg → Prop), wp_Pg_leaveUpTo_L5 z_this_keywords z_this_nodes K post m9 z_this x1 x2 x3 x4 → K w0 w1 w2 w3 w4)) ∨ (∃ (w0 : Int32) (w1 : T_Pg), (∀ (K : T_Pg → Int32 → Int32 → Int32 → Int32 → Prop) (post : Int32 → T_Pg → Prop), post w0 w1 → wp_Pg_leaveUpTo_L5 z_this_keywords z_this_nodes K post n9 z_this x1 x2 x3 x4) ∧ (∀ (m9 : Nat) (K : T_Pg → Int32 → Int32 → Int32 → Int32 → Prop) (post : Int32 → T_Pg → Prop), wp_Pg_leaveUpTo_L5 z_this_keywords z_this_nodes K post m9 z_this x1 x2 x3 x4 → post w0 w1)) := by
  intro n9
  induction n9 with
  | zero => intro z_this x1 x2 x3 x4 K post h; exact False.elim h
  | succ n9 ih =>
    intro z_this x1 x2 x3 x4 K post h
    rw [wp_Pg_leaveUpTo_L5] at h
    rcases br_el h with ⟨c0, h⟩ | ⟨c0, h⟩
    · exact Or.inl ⟨_, _, _, _, _, fun K post q => (by rw [wp_Pg_leaveUpTo_L5]; exact (pT c0 (q))), fun m9 K post h => (by cases m9 with | zero => exact False.elim h | succ m9 => (rw [wp_Pg_leaveUpTo_L5] at h; replace h := h.1 c0; exact h))⟩
    · rcases br_el h with ⟨c1, h⟩ | ⟨c1, h⟩
      · exact Or.inl ⟨_, _, _, _, _, fun K post q => (by rw [wp_Pg_leaveUpTo_L5]; exact (pF c0 ((pT c1 (q))))), fun m9 K post h => (by cases m9 with | zero => exact False.elim h | succ m9 => (rw [wp_Pg_leaveUpTo_L5] at h; replace h := h.2 c0; replace h := h.1 c1; exact h))⟩
      · obtain ⟨r1, u1, qa2, qb2⟩ := dt_Pg_leave h
        replace h := qb2 _ h
        rcases br_el h with ⟨c3, h⟩ | ⟨c3, h⟩
        · exact Or.inr (⟨_, _, fun K post q => (by rw [wp_Pg_leaveUpTo_L5]; exact (pF c0 ((pF c1 ((qa2 _ ((pT c3 (q))))))))), fun m9 K post h => (by cases m9 with | zero => exact False.elim h | succ m9 => (rw [wp_Pg_leaveUpTo_L5] at h; replace h := h.2 c0; replace h := h.2 c1; replace h := qb2 _ h; replace h := h.1 c3; exact h))⟩)
        · obtain ⟨r2, u2, qa4, qb4⟩ := dt_Nd_nextOf h
          replace h := qb4 _ h
          rcases br_el h with ⟨c5, h⟩ | ⟨c5, h⟩
          · obtain ⟨r3, u3, qa6, qb6⟩ := dt_Nd_parentOf h
            replace h := qb6 _ h
            rcases ih _ _ _ _ _ _ _ h with ⟨w7_0, w7_1, w7_2, w7_3, w7_4, qa7, qb7⟩ | ⟨w7_0, w7_1, qa7, qb7⟩
            · exact Or.inl ⟨_, _, _, _, _, fun K post q => (by rw [wp_Pg_leaveUpTo_L5]; exact (pF c0 ((pF c1 ((qa2 _ ((pF c3 ((qa4 _ ((pT c5 ((qa6 _ ((qa7 _ _ (q))))))))))))))))), fun m9 K post h => (by cases m9 with | zero => exact False.elim h | succ m9 => (rw [wp_Pg_leaveUpTo_L5] at h; replace h := h.2 c0; replace h := h.2 c1; replace h := qb2 _ h; replace h := h.2 c3; replace h := qb4 _ h; replace h := h.1 c5; replace h := qb6 _ h; replace h := qb7 m9 _ _ h; exact h))⟩
            · exact Or.inr (⟨_, _, fun K post q => (by rw [wp_Pg_leaveUpTo_L5]; exact (pF c0 ((pF c1 ((qa2 _ ((pF c3 ((qa4 _ ((pT c5 ((qa6 _ ((qa7 _ _ (q))))))))))))))))), fun m9 K post h => (by cases m9 with | zero => exact False.elim h | succ m9 => (rw [wp_Pg_leaveUpTo_L5] at h; replace h := h.2 c0; replace h := h.2 c1; replace h := qb2 _ h; replace h := h.2 c3; replace h := qb4 _ h; replace h := h.1 c5; replace h := qb6 _ h; replace h := qb7 m9 _ _ h; exact h))⟩)
          · obtain ⟨r4, u4, qa6, qb6⟩ := dt_Pg_putBehind h
            replace h := qb6 _ h
            obtain ⟨r5, u5, qa7, qb7⟩ := dt_Nd_nextOf h
            replace h := qb7 _ h
            exact Or.inr (⟨_, _, fun K post q => (by rw [wp_Pg_leaveUpTo_L5]; exact (pF c0 ((pF c1 ((qa2 _ ((pF c3 ((qa4 _ ((pF c5 ((qa6 _ ((qa7 _ (q))))))))))))))))), fun m9 K post h => (by cases m9 with | zero => exact False.elim h | succ m9 => (rw [wp_Pg_leaveUpTo_L5] at h; replace h := h.2 c0; replace h := h.2 c1; replace h := qb2 _ h; replace h := h.2 c3; replace h := qb4 _ h; replace h := h.2 c5; replace h := qb6 _ h; replace h := qb7 _ h; exact h))⟩)
set_option maxHeartbeats 2000000 in
theorem dt_Pg_leaveUpTo {z_this : T_Pg} {z_this_keywords : T_Kw} {z_this_nodes : T_Nd} {a1 : Int32} {a2 : Int32} {post : Int32 → T_Pg → Prop} (h : wp_Pg_leaveUpTo z_this z_this_keywords z_this_nodes a1 a2 post) : (∃ (w0 : Int32) (w1 : T_Pg), (∀ (post : Int32 → T_Pg → Prop), post w0 w1 → wp_Pg_leaveUpTo z_this z_this_keywords z_this_nodes a1 a2 post) ∧ (∀ (post : Int32 → T_Pg → Prop), wp_Pg_leaveUpTo z_this z_this_keywords z_this_nodes a1 a2 post → post w0 w1)) := by
  unfold wp_Pg_leaveUpTo at h
  obtain ⟨k0, h⟩ := h
  rcases dt_Pg_leaveUpTo_L5 k0 _ _ _ _ _ _ _ h with ⟨z_this, x1, x2, x3, x4, qa0, qb0⟩ | ⟨w0_0, w0_1, qa0, qb0⟩
  · replace h := qb0 k0 _ _ h
    exact ⟨_, _, fun post q => (by unfold wp_Pg_leaveUpTo; exact ⟨k0, (qa0 _ _ (q))⟩), fun post h => (by unfold wp_Pg_leaveUpTo at h; obtain ⟨m0, h⟩ := h; replace h := qb0 m0 _ _ h; exact h)⟩
  · exact ⟨_, _, fun post q => (by unfold wp_Pg_leaveUpTo; exact ⟨k0, (qa0 _ _ (q))⟩), fun post h => (by unfold wp_Pg_leaveUpTo at h; obtain ⟨m0, h⟩ := h; replace h := qb0 m0 _ _ h; exact h)⟩
set_option maxHeartbeats 2000000 in
theorem dt_Pg_layNode_L4 {z_this_keywords : T_Kw} {z_this_names : T_Nm} {z_this_nodes : T_Nd} : ∀ (n9 : Nat) (z_this : T_Pg) (x1 : Int32) (x2 : Int32) (x3 : Int32) (K : T_Pg → Int32 → Int32 → Int32 → Prop) (post : Unit → T_Pg → Prop), wp_Pg_layNode_L4 z_this_keywords z_this_names z_this_nodes K post n9 z_this x1 x2 x3 → (∃ (w0 : T_Pg) (w1 : Int32) (w2 : Int32) (w3 : Int32), (∀ (K : T_Pg → Int32 → Int32 → Int32 → Prop) (post : Unit → T_Pg → Prop), K w0 w1 w2 w3 → wp_Pg_layNode_L4 z_this_keywords z_this_names z_this_nodes K post n9 z_this x1 x2 x3) ∧ (∀ (m9 : Nat) (K : T_Pg → Int32 → Int32 → Int32 → Prop) (post : Unit → T_Pg → Prop), wp_Pg_layNode_L4 z_this_keywords z_this_names z_this_nodes K post m9 z_this x1 x2 x3 → K w0 w1 w2 w3)) ∨ (∃ (w0 : Unit) (w1 : T_Pg), (∀ (K : T_Pg → Int32 → Int32 → Int32 → Prop) (post : Unit → T_Pg → Prop), post w0 w1 → wp_Pg_layNode_L4 z_this_keywords z_this_names z_this_nodes K post n9 z_this x1 x2 x3) ∧ (∀ (m9 : Nat) (K : T_Pg → Int32 → Int32 → Int32 → Prop) (post : Unit → T_Pg → Prop), wp_Pg_layNode_L4 z_this_keywords z_this_names z_this_nodes K post m9 z_this x1 x2 x3 → post w0 w1)) := by
  intro n9
  induction n9 with
  | zero => intro z_this x1 x2 x3 K post h; exact False.elim h
  | succ n9 ih =>
    intro z_this x1 x2 x3 K post h
    rw [wp_Pg_layNode_L4] at h
    rcases br_el h with ⟨c0, h⟩ | ⟨c0, h⟩
    · exact Or.inl ⟨_, _, _, _, fun K post q => (by rw [wp_Pg_layNode_L4]; exact (pT c0 (q))), fun m9 K post h => (by cases m9 with | zero => exact False.elim h | succ m9 => (rw [wp_Pg_layNode_L4] at h; replace h := h.1 c0; exact h))⟩
    · rcases br_el h with ⟨c1, h⟩ | ⟨c1, h⟩
      · exact Or.inl ⟨_, _, _, _, fun K post q => (by rw [wp_Pg_layNode_L4]; exact (pF c0 ((pT c1 (q))))), fun m9 K post h => (by cases m9 with | zero => exact False.elim h | succ m9 => (rw [wp_Pg_layNode_L4] at h; replace h := h.2 c0; replace h := h.1 c1; exact h))⟩
      · obtain ⟨r1, u1, qa2, qb2⟩ := dt_Pg_enter h
        replace h := qb2 _ h
        obtain ⟨r2, u2, qa3, qb3⟩ := dt_Nd_firstOf h
        replace h := qb3 _ h
        rcases br_el h with ⟨c4, h⟩ | ⟨c4, h⟩
        · obtain ⟨r3, u3, qa5, qb5⟩ := dt_Pg_leaveUpTo h
          replace h := qb5 _ h
          rcases ih _ _ _ _ _ _ h with ⟨w6_0, w6_1, w6_2, w6_3, qa6, qb6⟩ | ⟨w6_0, w6_1, qa6, qb6⟩
          · exact Or.inl ⟨_, _, _, _, fun K post q => (by rw [wp_Pg_layNode_L4]; exact (pF c0 ((pF c1 ((qa2 _ ((qa3 _ ((pT c4 ((qa5 _ ((qa6 _ _ (q))))))))))))))), fun m9 K post h => (by cases m9 with | zero => exact False.elim h | succ m9 => (rw [wp_Pg_layNode_L4] at h; replace h := h.2 c0; replace h := h.2 c1; replace h := qb2 _ h; replace h := qb3 _ h; replace h := h.1 c4; replace h := qb5 _ h; replace h := qb6 m9 _ _ h; exact h))⟩
          · exact Or.inr (⟨_, _, fun K post q => (by rw [wp_Pg_layNode_L4]; exact (pF c0 ((pF c1 ((qa2 _ ((qa3 _ ((pT c4 ((qa5 _ ((qa6 _ _ (q))))))))))))))), fun m9 K post h => (by cases m9 with | zero => exact False.elim h | succ m9 => (rw [wp_Pg_layNode_L4] at h; replace h := h.2 c0; replace h := h.2 c1; replace h := qb2 _ h; replace h := qb3 _ h; replace h := h.1 c4; replace h := qb5 _ h; replace h := qb6 m9 _ _ h; exact h))⟩)
        · rcases ih _ _ _ _ _ _ h with ⟨w5_0, w5_1, w5_2, w5_3, qa5, qb5⟩ | ⟨w5_0, w5_1, qa5, qb5⟩
          · exact Or.inl ⟨_, _, _, _, fun K post q => (by rw [wp_Pg_layNode_L4]; exact (pF c0 ((pF c1 ((qa2 _ ((qa3 _ ((pF c4 ((qa5 _ _ (q))))))))))))), fun m9 K post h => (by cases m9 with | zero => exact False.elim h | succ m9 => (rw [wp_Pg_layNode_L4] at h; replace h := h.2 c0; replace h := h.2 c1; replace h := qb2 _ h; replace h := qb3 _ h; replace h := h.2 c4; replace h := qb5 m9 _ _ h; exact h))⟩
          · exact Or.inr (⟨_, _, fun K post q => (by rw [wp_Pg_layNode_L4]; exact (pF c0 ((pF c1 ((qa2 _ ((qa3 _ ((pF c4 ((qa5 _ _ (q))))))))))))), fun m9 K post h => (by cases m9 with | zero => exact False.elim h | succ m9 => (rw [wp_Pg_layNode_L4] at h; replace h := h.2 c0; replace h := h.2 c1; replace h := qb2 _ h; replace h := qb3 _ h; replace h := h.2 c4; replace h := qb5 m9 _ _ h; exact h))⟩)
set_option maxHeartbeats 2000000 in
theorem dt_Pg_layNode {z_this : T_Pg} {z_this_keywords : T_Kw} {z_this_names : T_Nm} {z_this_nodes : T_Nd} {a1 : Int32} {post : Unit → T_Pg → Prop} (h : wp_Pg_layNode z_this z_this_keywords z_this_names z_this_nodes a1 post) : (∃ (w0 : Unit) (w1 : T_Pg), (∀ (post : Unit → T_Pg → Prop), post w0 w1 → wp_Pg_layNode z_this z_this_keywords z_this_names z_this_nodes a1 post) ∧ (∀ (post : Unit → T_Pg → Prop), wp_Pg_layNode z_this z_this_keywords z_this_names z_this_nodes a1 post → post w0 w1)) := by
  unfold wp_Pg_layNode at h
  obtain ⟨k0, h⟩ := h
  rcases dt_Pg_layNode_L4 k0 _ _ _ _ _ _ h with ⟨z_this, x1, x2, x3, qa0, qb0⟩ | ⟨w0_0, w0_1, qa0, qb0⟩
  · replace h := qb0 k0 _ _ h
    exact ⟨_, _, fun post q => (by unfold wp_Pg_layNode; exact ⟨k0, (qa0 _ _ (q))⟩), fun post h => (by unfold wp_Pg_layNode at h; obtain ⟨m0, h⟩ := h; replace h := qb0 m0 _ _ h; exact h)⟩
  · exact ⟨_, _, fun post q => (by unfold wp_Pg_layNode; exact ⟨k0, (qa0 _ _ (q))⟩), fun post h => (by unfold wp_Pg_layNode at h; obtain ⟨m0, h⟩ := h; replace h := qb0 m0 _ _ h; exact h)⟩
set_option maxHeartbeats 2000000 in
theorem dt_Pg_layDeclaration {z_this : T_Pg} {z_this_keywords : T_Kw} {z_this_names : T_Nm} {a1 : Int32} {post : Unit → T_Pg → Prop} (h : wp_Pg_layDeclaration z_this z_this_keywords z_this_names a1 post) : (∃ (w0 : Unit) (w1 : T_Pg), (∀ (post : Unit → T_Pg → Prop), post w0 w1 → wp_Pg_layDeclaration z_this z_this_keywords z_this_names a1 post) ∧ (∀ (post : Unit → T_Pg → Prop), wp_Pg_layDeclaration z_this z_this_keywords z_this_names a1 post → post w0 w1)) := by
  unfold wp_Pg_layDeclaration at h
  obtain ⟨r1, u1, qa0, qb0⟩ := dt_Pg_beginLine h
  replace h := qb0 _ h
  obtain ⟨r2, u2, qa1, qb1⟩ := dt_Nm_sortOf h
  replace h := qb1 _ h
  obtain ⟨r3, u3, qa2, qb2⟩ := dt_Kw_lettersOf h
  replace h := qb2 _ h
  obtain ⟨r4, u4, qa3, qb3⟩ := dt_Pg_putLetters h
  replace h := qb3 _ h
  obtain ⟨r5, u5, qa4, qb4⟩ := dt_Nm_lettersOf h
  replace h := qb4 _ h
  obtain ⟨r6, u6, qa5, qb5⟩ := dt_Pg_putLetters h
  replace h := qb5 _ h
  obtain ⟨r7, u7, qa6, qb6⟩ := dt_Nm_measureOf h
  replace h := qb6 _ h
  obtain ⟨r8, u8, qa7, qb7⟩ := dt_Pg_putUnit h
  replace h := qb7 _ h
  obtain ⟨r9, u9, qa8, qb8⟩ := dt_Pg_putSign h
  replace h := qb8 _ h
  exact ⟨_, _, fun post q => (by unfold wp_Pg_layDeclaration; exact (qa0 _ ((qa1 _ ((qa2 _ ((qa3 _ ((qa4 _ ((qa5 _ ((qa6 _ ((qa7 _ ((qa8 _ (q))))))))))))))))))), fun post h => (by unfold wp_Pg_layDeclaration at h; replace h := qb0 _ h; replace h := qb1 _ h; replace h := qb2 _ h; replace h := qb3 _ h; replace h := qb4 _ h; replace h := qb5 _ h; replace h := qb6 _ h; replace h := qb7 _ h; replace h := qb8 _ h; exact h)⟩
set_option maxHeartbeats 2000000 in
theorem dt_Pg_lay_L32 {z_a1 : T_Pr} {z_a1_names : T_Nm} {z_a1_nodes : T_Nd} {z_this_keywords : T_Kw} : ∀ (n9 : Nat) (z_this : T_Pg) (x2 : Int32) (x3 : Int32) (K : T_Pg → Int32 → Int32 → Prop) (post : Unit → T_Pg → Prop), wp_Pg_lay_L32 z_a1 z_a1_names z_a1_nodes z_this_keywords K post n9 z_this x2 x3 → (∃ (w0 : T_Pg) (w1 : Int32) (w2 : Int32), (∀ (K : T_Pg → Int32 → Int32 → Prop) (post : Unit → T_Pg → Prop), K w0 w1 w2 → wp_Pg_lay_L32 z_a1 z_a1_names z_a1_nodes z_this_keywords K post n9 z_this x2 x3) ∧ (∀ (m9 : Nat) (K : T_Pg → Int32 → Int32 → Prop) (post : Unit → T_Pg → Prop), wp_Pg_lay_L32 z_a1 z_a1_names z_a1_nodes z_this_keywords K post m9 z_this x2 x3 → K w0 w1 w2)) ∨ (∃ (w0 : Unit) (w1 : T_Pg), (∀ (K : T_Pg → Int32 → Int32 → Prop) (post : Unit → T_Pg → Prop), post w0 w1 → wp_Pg_lay_L32 z_a1 z_a1_names z_a1_nodes z_this_keywords K post n9 z_this x2 x3) ∧ (∀ (m9 : Nat) (K : T_Pg → Int32 → Int32 → Prop) (post : Unit → T_Pg → Prop), wp_Pg_lay_L32 z_a1 z_a1_names z_a1_nodes z_this_keywords K post m9 z_this x2 x3 → post w0 w1)) := by
  intro n9
  induction n9 with
  | zero => intro z_this x2 x3 K post h; exact False.elim h
  | succ n9 ih =>
    intro z_this x2 x3 K post h
    rw [wp_Pg_lay_L32] at h
    obtain ⟨r4, u4, qa0, qb0⟩ := dt_Nm_count h
    replace h := qb0 _ h
    rcases br_el h with ⟨c1, h⟩ | ⟨c1, h⟩
    · exact Or.inl ⟨_, _, _, fun K post q => (by rw [wp_Pg_lay_L32]; exact (qa0 _ ((pT c1 (q))))), fun m9 K post h => (by cases m9 with | zero => exact False.elim h | succ m9 => (rw [wp_Pg_lay_L32] at h; replace h := qb0 _ h; replace h := h.1 c1; exact h))⟩
    · obtain ⟨r5, u5, qa2, qb2⟩ := dt_Nm_sortOf h
      replace h := qb2 _ h
      rcases br_el h with ⟨c3, h⟩ | ⟨c3, h⟩
      · obtain ⟨r7, u7, qa4, qb4⟩ := dt_Pg_layNode h
        replace h := qb4 _ h
        obtain ⟨r8, u8, qa5, qb5⟩ := dt_Nd_nextOf h
        replace h := qb5 _ h
        rcases ih _ _ _ _ _ h with ⟨w6_0, w6_1, w6_2, qa6, qb6⟩ | ⟨w6_0, w6_1, qa6, qb6⟩
        · exact Or.inl ⟨_, _, _, fun K post q => (by rw [wp_Pg_lay_L32]; exact (qa0 _ ((pF c1 ((qa2 _ ((pT c3 ((qa4 _ ((qa5 _ ((qa6 _ _ (q))))))))))))))), fun m9 K post h => (by cases m9 with | zero => exact False.elim h | succ m9 => (rw [wp_Pg_lay_L32] at h; replace h := qb0 _ h; replace h := h.2 c1; replace h := qb2 _ h; replace h := h.1 c3; replace h := qb4 _ h; replace h := qb5 _ h; replace h := qb6 m9 _ _ h; exact h))⟩
        · exact Or.inr (⟨_, _, fun K post q => (by rw [wp_Pg_lay_L32]; exact (qa0 _ ((pF c1 ((qa2 _ ((pT c3 ((qa4 _ ((qa5 _ ((qa6 _ _ (q))))))))))))))), fun m9 K post h => (by cases m9 with | zero => exact False.elim h | succ m9 => (rw [wp_Pg_lay_L32] at h; replace h := qb0 _ h; replace h := h.2 c1; replace h := qb2 _ h; replace h := h.1 c3; replace h := qb4 _ h; replace h := qb5 _ h; replace h := qb6 m9 _ _ h; exact h))⟩)
      · obtain ⟨r6, u6, qa4, qb4⟩ := dt_Pg_layDeclaration h
        replace h := qb4 _ h
        rcases ih _ _ _ _ _ h with ⟨w5_0, w5_1, w5_2, qa5, qb5⟩ | ⟨w5_0, w5_1, qa5, qb5⟩
        · exact Or.inl ⟨_, _, _, fun K post q => (by rw [wp_Pg_lay_L32]; exact (qa0 _ ((pF c1 ((qa2 _ ((pF c3 ((qa4 _ ((qa5 _ _ (q))))))))))))), fun m9 K post h => (by cases m9 with | zero => exact False.elim h | succ m9 => (rw [wp_Pg_lay_L32] at h; replace h := qb0 _ h; replace h := h.2 c1; replace h := qb2 _ h; replace h := h.2 c3; replace h := qb4 _ h; replace h := qb5 m9 _ _ h; exact h))⟩
        · exact Or.inr (⟨_, _, fun K post q => (by rw [wp_Pg_lay_L32]; exact (qa0 _ ((pF c1 ((qa2 _ ((pF c3 ((qa4 _ ((qa5 _ _ (q))))))))))))), fun m9 K post h => (by cases m9 with | zero => exact False.elim h | succ m9 => (rw [wp_Pg_lay_L32] at h; replace h := qb0 _ h; replace h := h.2 c1; replace h := qb2 _ h; replace h := h.2 c3; replace h := qb4 _ h; replace h := qb5 m9 _ _ h; exact h))⟩)
set_option maxHeartbeats 2000000 in
theorem dt_Pg_lay_L87 {z_a1 : T_Pr} {z_a1_names : T_Nm} {z_a1_nodes : T_Nd} {z_this_keywords : T_Kw} : ∀ (n9 : Nat) (z_this : T_Pg) (x2 : Int32) (x3 : Int32) (K : T_Pg → Int32 → Int32 → Prop) (post : Unit → T_Pg → Prop), wp_Pg_lay_L87 z_a1 z_a1_names z_a1_nodes z_this_keywords K post n9 z_this x2 x3 → (∃ (w0 : T_Pg) (w1 : Int32) (w2 : Int32), (∀ (K : T_Pg → Int32 → Int32 → Prop) (post : Unit → T_Pg → Prop), K w0 w1 w2 → wp_Pg_lay_L87 z_a1 z_a1_names z_a1_nodes z_this_keywords K post n9 z_this x2 x3) ∧ (∀ (m9 : Nat) (K : T_Pg → Int32 → Int32 → Prop) (post : Unit → T_Pg → Prop), wp_Pg_lay_L87 z_a1 z_a1_names z_a1_nodes z_this_keywords K post m9 z_this x2 x3 → K w0 w1 w2)) ∨ (∃ (w0 : Unit) (w1 : T_Pg), (∀ (K : T_Pg → Int32 → Int32 → Prop) (post : Unit → T_Pg → Prop), post w0 w1 → wp_Pg_lay_L87 z_a1 z_a1_names z_a1_nodes z_this_keywords K post n9 z_this x2 x3) ∧ (∀ (m9 : Nat) (K : T_Pg → Int32 → Int32 → Prop) (post : Unit → T_Pg → Prop), wp_Pg_lay_L87 z_a1 z_a1_names z_a1_nodes z_this_keywords K post m9 z_this x2 x3 → post w0 w1)) := by
  intro n9
  induction n9 with
  | zero => intro z_this x2 x3 K post h; exact False.elim h
  | succ n9 ih =>
    intro z_this x2 x3 K post h
    rw [wp_Pg_lay_L87] at h
    rcases br_el h with ⟨c0, h⟩ | ⟨c0, h⟩
    · exact Or.inl ⟨_, _, _, fun K post q => (by rw [wp_Pg_lay_L87]; exact (pT c0 (q))), fun m9 K post h => (by cases m9 with | zero => exact False.elim h | succ m9 => (rw [wp_Pg_lay_L87] at h; replace h := h.1 c0; exact h))⟩
    · rcases br_el h with ⟨c1, h⟩ | ⟨c1, h⟩
      · exact Or.inl ⟨_, _, _, fun K post q => (by rw [wp_Pg_lay_L87]; exact (pF c0 ((pT c1 (q))))), fun m9 K post h => (by cases m9 with | zero => exact False.elim h | succ m9 => (rw [wp_Pg_lay_L87] at h; replace h := h.2 c0; replace h := h.1 c1; exact h))⟩
      · obtain ⟨r9, u9, qa2, qb2⟩ := dt_Pg_layNode h
        replace h := qb2 _ h
        obtain ⟨r10, u10, qa3, qb3⟩ := dt_Nd_nextOf h
        replace h := qb3 _ h
        rcases ih _ _ _ _ _ h with ⟨w4_0, w4_1, w4_2, qa4, qb4⟩ | ⟨w4_0, w4_1, qa4, qb4⟩
        · exact Or.inl ⟨_, _, _, fun K post q => (by rw [wp_Pg_lay_L87]; exact (pF c0 ((pF c1 ((qa2 _ ((qa3 _ ((qa4 _ _ (q))))))))))), fun m9 K post h => (by cases m9 with | zero => exact False.elim h | succ m9 => (rw [wp_Pg_lay_L87] at h; replace h := h.2 c0; replace h := h.2 c1; replace h := qb2 _ h; replace h := qb3 _ h; replace h := qb4 m9 _ _ h; exact h))⟩
        · exact Or.inr (⟨_, _, fun K post q => (by rw [wp_Pg_lay_L87]; exact (pF c0 ((pF c1 ((qa2 _ ((qa3 _ ((qa4 _ _ (q))))))))))), fun m9 K post h => (by cases m9 with | zero => exact False.elim h | succ m9 => (rw [wp_Pg_lay_L87] at h; replace h := h.2 c0; replace h := h.2 c1; replace h := qb2 _ h; replace h := qb3 _ h; replace h := qb4 m9 _ _ h; exact h))⟩)
set_option maxHeartbeats 2000000 in
theorem dt_Pg_lay {z_a1 : T_Pr} {z_a1_names : T_Nm} {z_a1_nodes : T_Nd} {z_this : T_Pg} {z_this_keywords : T_Kw} {post : Unit → T_Pg → Prop} (h : wp_Pg_lay z_a1 z_a1_names z_a1_nodes z_this z_this_keywords post) : (∃ (w0 : Unit) (w1 : T_Pg), (∀ (post : Unit → T_Pg → Prop), post w0 w1 → wp_Pg_lay z_a1 z_a1_names z_a1_nodes z_this z_this_keywords post) ∧ (∀ (post : Unit → T_Pg → Prop), wp_Pg_lay z_a1 z_a1_names z_a1_nodes z_this z_this_keywords post → post w0 w1)) := by
  unfold wp_Pg_lay at h
  obtain ⟨r1, u1, qa0, qb0⟩ := dt_Pr_names h
  replace h := qb0 _ h
  obtain ⟨r2, u2, qa1, qb1⟩ := dt_Pr_nodes h
  replace h := qb1 _ h
  obtain ⟨r3, u3, qa2, qb2⟩ := dt_Nd_firstOf h
  replace h := qb2 _ h
  obtain ⟨k3, h⟩ := h
  rcases dt_Pg_lay_L32 k3 _ _ _ _ _ h with ⟨z_this, x2, x3, qa3, qb3⟩ | ⟨w3_0, w3_1, qa3, qb3⟩
  · replace h := qb3 k3 _ _ h
    obtain ⟨k4, h⟩ := h
    rcases dt_Pg_lay_L87 k4 _ _ _ _ _ h with ⟨z_this, x2, x3, qa4, qb4⟩ | ⟨w4_0, w4_1, qa4, qb4⟩
    · replace h := qb4 k4 _ _ h
      obtain ⟨r11, u11, qa5, qb5⟩ := dt_Pg_beginLine h
      replace h := qb5 _ h
      exact ⟨_, _, fun post q => (by unfold wp_Pg_lay; exact (qa0 _ ((qa1 _ ((qa2 _ (⟨k3, (qa3 _ _ (⟨k4, (qa4 _ _ ((qa5 _ (q))))⟩))⟩))))))), fun post h => (by unfold wp_Pg_lay at h; replace h := qb0 _ h; replace h := qb1 _ h; replace h := qb2 _ h; obtain ⟨m3, h⟩ := h; replace h := qb3 m3 _ _ h; obtain ⟨m4, h⟩ := h; replace h := qb4 m4 _ _ h; replace h := qb5 _ h; exact h)⟩
    · exact ⟨_, _, fun post q => (by unfold wp_Pg_lay; exact (qa0 _ ((qa1 _ ((qa2 _ (⟨k3, (qa3 _ _ (⟨k4, (qa4 _ _ (q))⟩))⟩))))))), fun post h => (by unfold wp_Pg_lay at h; replace h := qb0 _ h; replace h := qb1 _ h; replace h := qb2 _ h; obtain ⟨m3, h⟩ := h; replace h := qb3 m3 _ _ h; obtain ⟨m4, h⟩ := h; replace h := qb4 m4 _ _ h; exact h)⟩
  · exact ⟨_, _, fun post q => (by unfold wp_Pg_lay; exact (qa0 _ ((qa1 _ ((qa2 _ (⟨k3, (qa3 _ _ (q))⟩))))))), fun post h => (by unfold wp_Pg_lay at h; replace h := qb0 _ h; replace h := qb1 _ h; replace h := qb2 _ h; obtain ⟨m3, h⟩ := h; replace h := qb3 m3 _ _ h; exact h)⟩
set_option maxHeartbeats 2000000 in
theorem dt_St_unit {z_this : T_St} {z_this_words : T_Wd} {a1 : Int32} {post : Int32 → T_Wd → Prop} (h : wp_St_unit z_this z_this_words a1 post) : (∃ (w0 : Int32) (w1 : T_Wd), (∀ (post : Int32 → T_Wd → Prop), post w0 w1 → wp_St_unit z_this z_this_words a1 post) ∧ (∀ (post : Int32 → T_Wd → Prop), wp_St_unit z_this z_this_words a1 post → post w0 w1)) := by
  unfold wp_St_unit at h
  obtain ⟨r1, u1, qa0, qb0⟩ := dt_Wd_append h
  replace h := qb0 _ h
  obtain ⟨s1, h⟩ := h
  exact ⟨_, _, fun post q => (by unfold wp_St_unit; exact (qa0 _ (⟨s1, q⟩))), fun post h => (by unfold wp_St_unit at h; replace h := qb0 _ h; replace h := h.2; exact h)⟩
set_option maxHeartbeats 2000000 in
theorem dt_St_what {z_this : T_St} {z_this_program : T_Pr} {z_this_program_nodes : T_Nd} {a1 : Int32} {post : Int32 → Unit → Prop} (h : wp_St_what z_this z_this_program z_this_program_nodes a1 post) : (∃ (w0 : Int32) (w1 : Unit), (∀ (post : Int32 → Unit → Prop), post w0 w1 → wp_St_what z_this z_this_program z_this_program_nodes a1 post) ∧ (∀ (post : Int32 → Unit → Prop), wp_St_what z_this z_this_program z_this_program_nodes a1 post → post w0 w1)) := by
  unfold wp_St_what at h
  obtain ⟨r1, u1, qa0, qb0⟩ := dt_Pr_nodes h
  replace h := qb0 _ h
  obtain ⟨r2, u2, qa1, qb1⟩ := dt_Nd_kindOf h
  replace h := qb1 _ h
  exact ⟨_, _, fun post q => (by unfold wp_St_what; exact (qa0 _ ((qa1 _ (q))))), fun post h => (by unfold wp_St_what at h; replace h := qb0 _ h; replace h := qb1 _ h; exact h)⟩
set_option maxHeartbeats 2000000 in
theorem dt_St_child {z_this : T_St} {z_this_program : T_Pr} {z_this_program_nodes : T_Nd} {a1 : Int32} {a2 : Int32} {post : Int32 → Unit → Prop} (h : wp_St_child z_this z_this_program z_this_program_nodes a1 a2 post) : (∃ (w0 : Int32) (w1 : Unit), (∀ (post : Int32 → Unit → Prop), post w0 w1 → wp_St_child z_this z_this_program z_this_program_nodes a1 a2 post) ∧ (∀ (post : Int32 → Unit → Prop), wp_St_child z_this z_this_program z_this_program_nodes a1 a2 post → post w0 w1)) := by
  unfold wp_St_child at h
  obtain ⟨r1, u1, qa0, qb0⟩ := dt_Pr_nodes h
  replace h := qb0 _ h
  obtain ⟨r2, u2, qa1, qb1⟩ := dt_Nd_heldBy h
  replace h := qb1 _ h
  exact ⟨_, _, fun post q => (by unfold wp_St_child; exact (qa0 _ ((qa1 _ (q))))), fun post h => (by unfold wp_St_child at h; replace h := qb0 _ h; replace h := qb1 _ h; exact h)⟩
set_option maxHeartbeats 2000000 in
theorem dt_St_line {z_this : T_St} {z_this_program : T_Pr} {z_this_program_nodes : T_Nd} {a1 : Int32} {post : Int32 → Unit → Prop} (h : wp_St_line z_this z_this_program z_this_program_nodes a1 post) : (∃ (w0 : Int32) (w1 : Unit), (∀ (post : Int32 → Unit → Prop), post w0 w1 → wp_St_line z_this z_this_program z_this_program_nodes a1 post) ∧ (∀ (post : Int32 → Unit → Prop), wp_St_line z_this z_this_program z_this_program_nodes a1 post → post w0 w1)) := by
  unfold wp_St_line at h
  obtain ⟨r1, u1, qa0, qb0⟩ := dt_Pr_nodes h
  replace h := qb0 _ h
  obtain ⟨r2, u2, qa1, qb1⟩ := dt_Nd_rowOf h
  replace h := qb1 _ h
  exact ⟨_, _, fun post q => (by unfold wp_St_line; exact (qa0 _ ((qa1 _ (q))))), fun post h => (by unfold wp_St_line at h; replace h := qb0 _ h; replace h := qb1 _ h; exact h)⟩
set_option maxHeartbeats 2000000 in
theorem dt_St_number {z_this : T_St} {z_this_program : T_Pr} {z_this_program_nodes : T_Nd} {a1 : Int32} {a2 : Int32} {post : Int64 → Unit → Prop} (h : wp_St_number z_this z_this_program z_this_program_nodes a1 a2 post) : (∃ (w0 : Int64) (w1 : Unit), (∀ (post : Int64 → Unit → Prop), post w0 w1 → wp_St_number z_this z_this_program z_this_program_nodes a1 a2 post) ∧ (∀ (post : Int64 → Unit → Prop), wp_St_number z_this z_this_program z_this_program_nodes a1 a2 post → post w0 w1)) := by
  unfold wp_St_number at h
  obtain ⟨r1, u1, qa0, qb0⟩ := dt_Pr_nodes h
  replace h := qb0 _ h
  obtain ⟨r2, u2, qa1, qb1⟩ := dt_Nd_has h
  replace h := qb1 _ h
  rcases br_el h with ⟨c2, h⟩ | ⟨c2, h⟩
  · exact ⟨_, _, fun post q => (by unfold wp_St_number; exact (qa0 _ ((qa1 _ ((pT c2 (q))))))), fun post h => (by unfold wp_St_number at h; replace h := qb0 _ h; replace h := qb1 _ h; replace h := h.1 c2; exact h)⟩
  · rcases br_el h with ⟨c3, h⟩ | ⟨c3, h⟩
    · exact ⟨_, _, fun post q => (by unfold wp_St_number; exact (qa0 _ ((qa1 _ ((pF c2 ((pT c3 (q))))))))), fun post h => (by unfold wp_St_number at h; replace h := qb0 _ h; replace h := qb1 _ h; replace h := h.2 c2; replace h := h.1 c3; exact h)⟩
    · rcases br_el h with ⟨c4, h⟩ | ⟨c4, h⟩
      · rcases br_el h with ⟨c5, h⟩ | ⟨c5, h⟩
        · obtain ⟨r4, u4, qa6, qb6⟩ := dt_Nd_valueOf h
          replace h := qb6 _ h
          exact ⟨_, _, fun post q => (by unfold wp_St_number; exact (qa0 _ ((qa1 _ ((pF c2 ((pF c3 ((pT c4 ((pT c5 ((qa6 _ (q))))))))))))))), fun post h => (by unfold wp_St_number at h; replace h := qb0 _ h; replace h := qb1 _ h; replace h := h.2 c2; replace h := h.2 c3; replace h := h.1 c4; replace h := h.1 c5; replace h := qb6 _ h; exact h)⟩
        · obtain ⟨r3, u3, qa6, qb6⟩ := dt_Nd_sizeOf h
          replace h := qb6 _ h
          exact ⟨_, _, fun post q => (by unfold wp_St_number; exact (qa0 _ ((qa1 _ ((pF c2 ((pF c3 ((pT c4 ((pF c5 ((qa6 _ (q))))))))))))))), fun post h => (by unfold wp_St_number at h; replace h := qb0 _ h; replace h := qb1 _ h; replace h := h.2 c2; replace h := h.2 c3; replace h := h.1 c4; replace h := h.2 c5; replace h := qb6 _ h; exact h)⟩
      · exact ⟨_, _, fun post q => (by unfold wp_St_number; exact (qa0 _ ((qa1 _ ((pF c2 ((pF c3 ((pF c4 (q))))))))))), fun post h => (by unfold wp_St_number at h; replace h := qb0 _ h; replace h := qb1 _ h; replace h := h.2 c2; replace h := h.2 c3; replace h := h.2 c4; exact h)⟩
set_option maxHeartbeats 2000000 in
theorem dt_St_unitOf {z_this : T_St} {z_this_program : T_Pr} {z_this_program_nodes : T_Nd} {a1 : Int32} {post : Int32 → Unit → Prop} (h : wp_St_unitOf z_this z_this_program z_this_program_nodes a1 post) : (∃ (w0 : Int32) (w1 : Unit), (∀ (post : Int32 → Unit → Prop), post w0 w1 → wp_St_unitOf z_this z_this_program z_this_program_nodes a1 post) ∧ (∀ (post : Int32 → Unit → Prop), wp_St_unitOf z_this z_this_program z_this_program_nodes a1 post → post w0 w1)) := by
  unfold wp_St_unitOf at h
  obtain ⟨r1, u1, qa0, qb0⟩ := dt_Pr_nodes h
  replace h := qb0 _ h
  obtain ⟨r2, u2, qa1, qb1⟩ := dt_Nd_has h
  replace h := qb1 _ h
  rcases br_el h with ⟨c2, h⟩ | ⟨c2, h⟩
  · exact ⟨_, _, fun post q => (by unfold wp_St_unitOf; exact (qa0 _ ((qa1 _ ((pT c2 (q))))))), fun post h => (by unfold wp_St_unitOf at h; replace h := qb0 _ h; replace h := qb1 _ h; replace h := h.1 c2; exact h)⟩
  · obtain ⟨r3, u3, qa3, qb3⟩ := dt_Nd_kindOf h
    replace h := qb3 _ h
    rcases br_el h with ⟨c4, h⟩ | ⟨c4, h⟩
    · exact ⟨_, _, fun post q => (by unfold wp_St_unitOf; exact (qa0 _ ((qa1 _ ((pF c2 ((qa3 _ ((pT c4 (q))))))))))), fun post h => (by unfold wp_St_unitOf at h; replace h := qb0 _ h; replace h := qb1 _ h; replace h := h.2 c2; replace h := qb3 _ h; replace h := h.1 c4; exact h)⟩
    · obtain ⟨r4, u4, qa5, qb5⟩ := dt_Nd_measureOf h
      replace h := qb5 _ h
      exact ⟨_, _, fun post q => (by unfold wp_St_unitOf; exact (qa0 _ ((qa1 _ ((pF c2 ((qa3 _ ((pF c4 ((qa5 _ (q))))))))))))), fun post h => (by unfold wp_St_unitOf at h; replace h := qb0 _ h; replace h := qb1 _ h; replace h := h.2 c2; replace h := qb3 _ h; replace h := h.2 c4; replace h := qb5 _ h; exact h)⟩
set_option maxHeartbeats 2000000 in
theorem dt_St_isBarred {z_this : T_St} {a1 : Int32} {post : Int32 → Unit → Prop} (h : wp_St_isBarred z_this a1 post) : (∃ (w0 : Int32) (w1 : Unit), (∀ (post : Int32 → Unit → Prop), post w0 w1 → wp_St_isBarred z_this a1 post) ∧ (∀ (post : Int32 → Unit → Prop), wp_St_isBarred z_this a1 post → post w0 w1)) := by
  unfold wp_St_isBarred at h
  rcases br_el h with ⟨c0, h⟩ | ⟨c0, h⟩
  · exact ⟨_, _, fun post q => (by unfold wp_St_isBarred; exact (pT c0 (q))), fun post h => (by unfold wp_St_isBarred at h; replace h := h.1 c0; exact h)⟩
  · rcases br_el h with ⟨c1, h⟩ | ⟨c1, h⟩
    · exact ⟨_, _, fun post q => (by unfold wp_St_isBarred; exact (pF c0 ((pT c1 (q))))), fun post h => (by unfold wp_St_isBarred at h; replace h := h.2 c0; replace h := h.1 c1; exact h)⟩
    · rcases br_el h with ⟨c2, h⟩ | ⟨c2, h⟩
      · exact ⟨_, _, fun post q => (by unfold wp_St_isBarred; exact (pF c0 ((pF c1 ((pT c2 (q))))))), fun post h => (by unfold wp_St_isBarred at h; replace h := h.2 c0; replace h := h.2 c1; replace h := h.1 c2; exact h)⟩
      · exact ⟨_, _, fun post q => (by unfold wp_St_isBarred; exact (pF c0 ((pF c1 ((pF c2 (q))))))), fun post h => (by unfold wp_St_isBarred at h; replace h := h.2 c0; replace h := h.2 c1; replace h := h.2 c2; exact h)⟩
set_option maxHeartbeats 2000000 in
theorem dt_St_bar {z_this : T_St} {a1 : Int32} {post : Int32 → T_St → Prop} (h : wp_St_bar z_this a1 post) : (∃ (w0 : Int32) (w1 : T_St), (∀ (post : Int32 → T_St → Prop), post w0 w1 → wp_St_bar z_this a1 post) ∧ (∀ (post : Int32 → T_St → Prop), wp_St_bar z_this a1 post → post w0 w1)) := by
  unfold wp_St_bar at h
  rcases br_el h with ⟨c0, h⟩ | ⟨c0, h⟩
  · exact ⟨_, _, fun post q => (by unfold wp_St_bar; exact (pT c0 (q))), fun post h => (by unfold wp_St_bar at h; replace h := h.1 c0; exact h)⟩
  · rcases br_el h with ⟨c1, h⟩ | ⟨c1, h⟩
    · exact ⟨_, _, fun post q => (by unfold wp_St_bar; exact (pF c0 ((pT c1 (q))))), fun post h => (by unfold wp_St_bar at h; replace h := h.2 c0; replace h := h.1 c1; exact h)⟩
    · obtain ⟨r1, u1, qa2, qb2⟩ := dt_St_isBarred h
      replace h := qb2 _ h
      rcases br_el h with ⟨c3, h⟩ | ⟨c3, h⟩
      · exact ⟨_, _, fun post q => (by unfold wp_St_bar; exact (pF c0 ((pF c1 ((qa2 _ ((pT c3 (q))))))))), fun post h => (by unfold wp_St_bar at h; replace h := h.2 c0; replace h := h.2 c1; replace h := qb2 _ h; replace h := h.1 c3; exact h)⟩
      · exact ⟨_, _, fun post q => (by unfold wp_St_bar; exact (pF c0 ((pF c1 ((qa2 _ ((pF c3 (q))))))))), fun post h => (by unfold wp_St_bar at h; replace h := h.2 c0; replace h := h.2 c1; replace h := qb2 _ h; replace h := h.2 c3; exact h)⟩
set_option maxHeartbeats 2000000 in
theorem dt_St_isRemarked {z_this : T_St} {z_this_program : T_Pr} {z_this_program_names : T_Nm} {z_this_program_nodes : T_Nd} {a1 : Int32} {a2 : Int32} {post : Int32 → Unit → Prop} (h : wp_St_isRemarked z_this z_this_program z_this_program_names z_this_program_nodes a1 a2 post) : (∃ (w0 : Int32) (w1 : Unit), (∀ (post : Int32 → Unit → Prop), post w0 w1 → wp_St_isRemarked z_this z_this_program z_this_program_names z_this_program_nodes a1 a2 post) ∧ (∀ (post : Int32 → Unit → Prop), wp_St_isRemarked z_this z_this_program z_this_program_names z_this_program_nodes a1 a2 post → post w0 w1)) := by
  unfold wp_St_isRemarked at h
  rcases Classical.em (a1 = (1 : Int32)) with c0_0 | c0_0
  · replace h := (h).1 c0_0
    obtain ⟨r1, u1, qa1, qb1⟩ := dt_Pr_names h
    replace h := qb1 _ h
    obtain ⟨r2, u2, qa2, qb2⟩ := dt_Nm_isUnused h
    replace h := qb2 _ h
    obtain ⟨s3, h⟩ := h
    exact ⟨_, _, fun post q => (by unfold wp_St_isRemarked; exact ⟨fun _ => (qa1 _ ((qa2 _ (⟨s3, q⟩)))), fun q9 => absurd (c0_0.symm.trans q9) (by decide), fun q9 => absurd (c0_0.symm.trans q9) (by decide), fun q9 => absurd (c0_0.symm.trans q9) (by decide), fun q9 => absurd c0_0 (q9.1)⟩), fun post h => (by unfold wp_St_isRemarked at h; replace h := (h).1 c0_0; replace h := qb1 _ h; replace h := qb2 _ h; replace h := h.2; exact h)⟩
  · rcases Classical.em (a1 = (2 : Int32)) with c0_1 | c0_1
    · replace h := (h).2.1 c0_1
      obtain ⟨r3, u3, qa1, qb1⟩ := dt_Pr_nodes h
      replace h := qb1 _ h
      obtain ⟨r4, u4, qa2, qb2⟩ := dt_Nd_isLate h
      replace h := qb2 _ h
      obtain ⟨s3, h⟩ := h
      exact ⟨_, _, fun post q => (by unfold wp_St_isRemarked; exact ⟨fun q9 => absurd q9 c0_0, fun _ => (qa1 _ ((qa2 _ (⟨s3, q⟩)))), fun q9 => absurd (c0_1.symm.trans q9) (by decide), fun q9 => absurd (c0_1.symm.trans q9) (by decide), fun q9 => absurd c0_1 (q9.2.1)⟩), fun post h => (by unfold wp_St_isRemarked at h; replace h := (h).2.1 c0_1; replace h := qb1 _ h; replace h := qb2 _ h; replace h := h.2; exact h)⟩
    · rcases Classical.em (a1 = (3 : Int32)) with c0_2 | c0_2
      · replace h := (h).2.2.1 c0_2
        obtain ⟨r5, u5, qa1, qb1⟩ := dt_Pr_nodes h
        replace h := qb1 _ h
        obtain ⟨r6, u6, qa2, qb2⟩ := dt_Nd_kindOf h
        replace h := qb2 _ h
        rcases br_el h with ⟨c3, h⟩ | ⟨c3, h⟩
        · obtain ⟨r7, u7, qa4, qb4⟩ := dt_Pr_nodes h
          replace h := qb4 _ h
          obtain ⟨r8, u8, qa5, qb5⟩ := dt_Nd_subjectOf h
          replace h := qb5 _ h
          obtain ⟨r9, u9, qa6, qb6⟩ := dt_St_isBarred h
          replace h := qb6 _ h
          rcases br_el h with ⟨c7, h⟩ | ⟨c7, h⟩
          · exact ⟨_, _, fun post q => (by unfold wp_St_isRemarked; exact ⟨fun q9 => absurd q9 c0_0, fun q9 => absurd q9 c0_1, fun _ => (qa1 _ ((qa2 _ ((pT c3 ((qa4 _ ((qa5 _ ((qa6 _ ((pT c7 (q)))))))))))))), fun q9 => absurd (c0_2.symm.trans q9) (by decide), fun q9 => absurd c0_2 (q9.2.2.1)⟩), fun post h => (by unfold wp_St_isRemarked at h; replace h := (h).2.2.1 c0_2; replace h := qb1 _ h; replace h := qb2 _ h; replace h := h.1 c3; replace h := qb4 _ h; replace h := qb5 _ h; replace h := qb6 _ h; replace h := h.1 c7; exact h)⟩
          · exact ⟨_, _, fun post q => (by unfold wp_St_isRemarked; exact ⟨fun q9 => absurd q9 c0_0, fun q9 => absurd q9 c0_1, fun _ => (qa1 _ ((qa2 _ ((pT c3 ((qa4 _ ((qa5 _ ((qa6 _ ((pF c7 (q)))))))))))))), fun q9 => absurd (c0_2.symm.trans q9) (by decide), fun q9 => absurd c0_2 (q9.2.2.1)⟩), fun post h => (by unfold wp_St_isRemarked at h; replace h := (h).2.2.1 c0_2; replace h := qb1 _ h; replace h := qb2 _ h; replace h := h.1 c3; replace h := qb4 _ h; replace h := qb5 _ h; replace h := qb6 _ h; replace h := h.2 c7; exact h)⟩
        · exact ⟨_, _, fun post q => (by unfold wp_St_isRemarked; exact ⟨fun q9 => absurd q9 c0_0, fun q9 => absurd q9 c0_1, fun _ => (qa1 _ ((qa2 _ ((pF c3 (q)))))), fun q9 => absurd (c0_2.symm.trans q9) (by decide), fun q9 => absurd c0_2 (q9.2.2.1)⟩), fun post h => (by unfold wp_St_isRemarked at h; replace h := (h).2.2.1 c0_2; replace h := qb1 _ h; replace h := qb2 _ h; replace h := h.2 c3; exact h)⟩
      · rcases Classical.em (a1 = (4 : Int32)) with c0_3 | c0_3
        · replace h := (h).2.2.2.1 c0_3
          obtain ⟨r10, u10, qa1, qb1⟩ := dt_Pr_names h
          replace h := qb1 _ h
          obtain ⟨r11, u11, qa2, qb2⟩ := dt_Nm_isUnused h
          replace h := qb2 _ h
          obtain ⟨s3, h⟩ := h
          exact ⟨_, _, fun post q => (by unfold wp_St_isRemarked; exact ⟨fun q9 => absurd q9 c0_0, fun q9 => absurd q9 c0_1, fun q9 => absurd q9 c0_2, fun _ => (qa1 _ ((qa2 _ (⟨s3, q⟩)))), fun q9 => absurd c0_3 (q9.2.2.2)⟩), fun post h => (by unfold wp_St_isRemarked at h; replace h := (h).2.2.2.1 c0_3; replace h := qb1 _ h; replace h := qb2 _ h; replace h := h.2; exact h)⟩
        · replace h := (h).2.2.2.2 ⟨c0_0, c0_1, c0_2, c0_3⟩
          obtain ⟨r12, u12, qa1, qb1⟩ := dt_Pr_names h
          replace h := qb1 _ h
          obtain ⟨r13, u13, qa2, qb2⟩ := dt_Nm_isUnused h
          replace h := qb2 _ h
          obtain ⟨s3, h⟩ := h
          exact ⟨_, _, fun post q => (by unfold wp_St_isRemarked; exact ⟨fun q9 => absurd q9 c0_0, fun q9 => absurd q9 c0_1, fun q9 => absurd q9 c0_2, fun q9 => absurd q9 c0_3, fun _ => (qa1 _ ((qa2 _ (⟨s3, q⟩))))⟩), fun post h => (by unfold wp_St_isRemarked at h; replace h := (h).2.2.2.2 ⟨c0_0, c0_1, c0_2, c0_3⟩; replace h := qb1 _ h; replace h := qb2 _ h; replace h := h.2; exact h)⟩
set_option maxHeartbeats 2000000 in
theorem dt_St_check_L78 {z_this : T_St} {z_this_program : T_Pr} {z_this_program_names : T_Nm} {z_this_program_nodes : T_Nd} : ∀ (n9 : Nat) (x1 : Int32) (x2 : Int32) (x3 : Int32) (x4 : Int32) (x5 : Int32) (x6 : Int32) (x7 : Int32) (K : Int32 → Int32 → Int32 → Int32 → Int32 → Int32 → Int32 → Prop) (post : Int32 → Unit → Prop), wp_St_check_L78 z_this z_this_program z_this_program_names z_this_program_nodes K post n9 x1 x2 x3 x4 x5 x6 x7 → (∃ (w0 : Int32) (w1 : Int32) (w2 : Int32) (w3 : Int32) (w4 : Int32) (w5 : Int32) (w6 : Int32), (∀ (K : Int32 → Int32 → Int32 → Int32 → Int32 → Int32 → Int32 → Prop) (post : Int32 → Unit → Prop), K w0 w1 w2 w3 w4 w5 w6 → wp_St_check_L78 z_this z_this_program z_this_program_names z_this_program_nodes K post n9 x1 x2 x3 x4 x5 x6 x7) ∧ (∀ (m9 : Nat) (K : Int32 → Int32 → Int32 → Int32 → Int32 → Int32 → Int32 → Prop) (post : Int32 → Unit → Prop), wp_St_check_L78 z_this z_this_program z_this_program_names z_this_program_nodes K post m9 x1 x2 x3 x4 x5 x6 x7 → K w0 w1 w2 w3 w4 w5 w6)) ∨ (∃ (w0 : Int32) (w1 : Unit), (∀ (K : Int32 → Int32 → Int32 → Int32 → Int32 → Int32 → Int32 → Prop) (post : Int32 → Unit → Prop), post w0 w1 → wp_St_check_L78 z_this z_this_program z_this_program_names z_this_program_nodes K post n9 x1 x2 x3 x4 x5 x6 x7) ∧ (∀ (m9 : Nat) (K : Int32 → Int32 → Int32 → Int32 → Int32 → Int32 → Int32 → Prop) (post : Int32 → Unit → Prop), wp_St_check_L78 z_this z_this_program z_this_program_names z_this_program_nodes K post m9 x1 x2 x3 x4 x5 x6 x7 → post w0 w1)) := by
  intro n9
  induction n9 with
  | zero => intro x1 x2 x3 x4 x5 x6 x7 K post h; exact False.elim h
  | succ n9 ih =>
    intro x1 x2 x3 x4 x5 x6 x7 K post h
    rw [wp_St_check_L78] at h
    rcases br_el h with ⟨c0, h⟩ | ⟨c0, h⟩
    · exact Or.inl ⟨_, _, _, _, _, _, _, fun K post q => (by rw [wp_St_check_L78]; exact (pT c0 (q))), fun m9 K post h => (by cases m9 with | zero => exact False.elim h | succ m9 => (rw [wp_St_check_L78] at h; replace h := h.1 c0; exact h))⟩
    · obtain ⟨r3, u3, qa1, qb1⟩ := dt_St_isRemarked h
      replace h := qb1 _ h
      rcases br_el h with ⟨c2, h⟩ | ⟨c2, h⟩
      · rcases ih _ _ _ _ _ _ _ _ _ h with ⟨w3_0, w3_1, w3_2, w3_3, w3_4, w3_5, w3_6, qa3, qb3⟩ | ⟨w3_0, w3_1, qa3, qb3⟩
        · exact Or.inl ⟨_, _, _, _, _, _, _, fun K post q => (by rw [wp_St_check_L78]; exact (pF c0 ((qa1 _ ((pT c2 ((qa3 _ _ (q))))))))), fun m9 K post h => (by cases m9 with | zero => exact False.elim h | succ m9 => (rw [wp_St_check_L78] at h; replace h := h.2 c0; replace h := qb1 _ h; replace h := h.1 c2; replace h := qb3 m9 _ _ h; exact h))⟩
        · exact Or.inr (⟨_, _, fun K post q => (by rw [wp_St_check_L78]; exact (pF c0 ((qa1 _ ((pT c2 ((qa3 _ _ (q))))))))), fun m9 K post h => (by cases m9 with | zero => exact False.elim h | succ m9 => (rw [wp_St_check_L78] at h; replace h := h.2 c0; replace h := qb1 _ h; replace h := h.1 c2; replace h := qb3 m9 _ _ h; exact h))⟩)
      · rcases br_el h with ⟨c3, h⟩ | ⟨c3, h⟩
        · rcases br_el h with ⟨c4, h⟩ | ⟨c4, h⟩
          · exact Or.inr (⟨_, _, fun K post q => (by rw [wp_St_check_L78]; exact (pF c0 ((qa1 _ ((pF c2 ((pT c3 ((pT c4 (q))))))))))), fun m9 K post h => (by cases m9 with | zero => exact False.elim h | succ m9 => (rw [wp_St_check_L78] at h; replace h := h.2 c0; replace h := qb1 _ h; replace h := h.2 c2; replace h := h.1 c3; replace h := h.1 c4; exact h))⟩)
          · exact Or.inr (⟨_, _, fun K post q => (by rw [wp_St_check_L78]; exact (pF c0 ((qa1 _ ((pF c2 ((pT c3 ((pF c4 (q))))))))))), fun m9 K post h => (by cases m9 with | zero => exact False.elim h | succ m9 => (rw [wp_St_check_L78] at h; replace h := h.2 c0; replace h := qb1 _ h; replace h := h.2 c2; replace h := h.1 c3; replace h := h.2 c4; exact h))⟩)
        · rcases ih _ _ _ _ _ _ _ _ _ h with ⟨w4_0, w4_1, w4_2, w4_3, w4_4, w4_5, w4_6, qa4, qb4⟩ | ⟨w4_0, w4_1, qa4, qb4⟩
          · exact Or.inl ⟨_, _, _, _, _, _, _, fun K post q => (by rw [wp_St_check_L78]; exact (pF c0 ((qa1 _ ((pF c2 ((pF c3 ((qa4 _ _ (q))))))))))), fun m9 K post h => (by cases m9 with | zero => exact False.elim h | succ m9 => (rw [wp_St_check_L78] at h; replace h := h.2 c0; replace h := qb1 _ h; replace h := h.2 c2; replace h := h.2 c3; replace h := qb4 m9 _ _ h; exact h))⟩
          · exact Or.inr (⟨_, _, fun K post q => (by rw [wp_St_check_L78]; exact (pF c0 ((qa1 _ ((pF c2 ((pF c3 ((qa4 _ _ (q))))))))))), fun m9 K post h => (by cases m9 with | zero => exact False.elim h | succ m9 => (rw [wp_St_check_L78] at h; replace h := h.2 c0; replace h := qb1 _ h; replace h := h.2 c2; replace h := h.2 c3; replace h := qb4 m9 _ _ h; exact h))⟩)
set_option maxHeartbeats 2000000 in
theorem dt_St_check_L20 {z_this : T_St} {z_this_program : T_Pr} {z_this_program_names : T_Nm} {z_this_program_nodes : T_Nd} : ∀ (n9 : Nat) (x1 : Int32) (x2 : Int32) (x3 : Int32) (x4 : Int32) (K : Int32 → Int32 → Int32 → Int32 → Prop) (post : Int32 → Unit → Prop), wp_St_check_L20 z_this z_this_program z_this_program_names z_this_program_nodes K post n9 x1 x2 x3 x4 → (∃ (w0 : Int32) (w1 : Int32) (w2 : Int32) (w3 : Int32), (∀ (K : Int32 → Int32 → Int32 → Int32 → Prop) (post : Int32 → Unit → Prop), K w0 w1 w2 w3 → wp_St_check_L20 z_this z_this_program z_this_program_names z_this_program_nodes K post n9 x1 x2 x3 x4) ∧ (∀ (m9 : Nat) (K : Int32 → Int32 → Int32 → Int32 → Prop) (post : Int32 → Unit → Prop), wp_St_check_L20 z_this z_this_program z_this_program_names z_this_program_nodes K post m9 x1 x2 x3 x4 → K w0 w1 w2 w3)) ∨ (∃ (w0 : Int32) (w1 : Unit), (∀ (K : Int32 → Int32 → Int32 → Int32 → Prop) (post : Int32 → Unit → Prop), post w0 w1 → wp_St_check_L20 z_this z_this_program z_this_program_names z_this_program_nodes K post n9 x1 x2 x3 x4) ∧ (∀ (m9 : Nat) (K : Int32 → Int32 → Int32 → Int32 → Prop) (post : Int32 → Unit → Prop), wp_St_check_L20 z_this z_this_program z_this_program_names z_this_program_nodes K post m9 x1 x2 x3 x4 → post w0 w1)) := by
  intro n9
  induction n9 with
  | zero => intro x1 x2 x3 x4 K post h; exact False.elim h
  | succ n9 ih =>
    intro x1 x2 x3 x4 K post h
    rw [wp_St_check_L20] at h
    rcases br_el h with ⟨c0, h⟩ | ⟨c0, h⟩
    · exact Or.inl ⟨_, _, _, _, fun K post q => (by rw [wp_St_check_L20]; exact (pT c0 (q))), fun m9 K post h => (by cases m9 with | zero => exact False.elim h | succ m9 => (rw [wp_St_check_L20] at h; replace h := h.1 c0; exact h))⟩
    · rcases br_el h with ⟨c1, h⟩ | ⟨c1, h⟩
      · rcases br_el h with ⟨c2, h⟩ | ⟨c2, h⟩
        · exact absurd c2 (by decide)
        · obtain ⟨r4, u4, qa3, qb3⟩ := dt_Pr_nodes h
          replace h := qb3 _ h
          obtain ⟨r5, u5, qa4, qb4⟩ := dt_Nd_count h
          replace h := qb4 _ h
          obtain ⟨k5, h⟩ := h
          rcases dt_St_check_L78 k5 _ _ _ _ _ _ _ _ _ h with ⟨x1, x2, x3, x4, x5, x6, x7, qa5, qb5⟩ | ⟨w5_0, w5_1, qa5, qb5⟩
          · replace h := qb5 k5 _ _ h
            rcases ih _ _ _ _ _ _ h with ⟨w6_0, w6_1, w6_2, w6_3, qa6, qb6⟩ | ⟨w6_0, w6_1, qa6, qb6⟩
            · exact Or.inl ⟨_, _, _, _, fun K post q => (by rw [wp_St_check_L20]; exact (pF c0 ((pT c1 ((pF c2 ((qa3 _ ((qa4 _ (⟨k5, (qa5 _ _ ((qa6 _ _ (q))))⟩))))))))))), fun m9 K post h => (by cases m9 with | zero => exact False.elim h | succ m9 => (rw [wp_St_check_L20] at h; replace h := h.2 c0; replace h := h.1 c1; replace h := h.2 c2; replace h := qb3 _ h; replace h := qb4 _ h; obtain ⟨m5, h⟩ := h; replace h := qb5 m5 _ _ h; replace h := qb6 m9 _ _ h; exact h))⟩
            · exact Or.inr (⟨_, _, fun K post q => (by rw [wp_St_check_L20]; exact (pF c0 ((pT c1 ((pF c2 ((qa3 _ ((qa4 _ (⟨k5, (qa5 _ _ ((qa6 _ _ (q))))⟩))))))))))), fun m9 K post h => (by cases m9 with | zero => exact False.elim h | succ m9 => (rw [wp_St_check_L20] at h; replace h := h.2 c0; replace h := h.1 c1; replace h := h.2 c2; replace h := qb3 _ h; replace h := qb4 _ h; obtain ⟨m5, h⟩ := h; replace h := qb5 m5 _ _ h; replace h := qb6 m9 _ _ h; exact h))⟩)
          · exact Or.inr (⟨_, _, fun K post q => (by rw [wp_St_check_L20]; exact (pF c0 ((pT c1 ((pF c2 ((qa3 _ ((qa4 _ (⟨k5, (qa5 _ _ (q))⟩))))))))))), fun m9 K post h => (by cases m9 with | zero => exact False.elim h | succ m9 => (rw [wp_St_check_L20] at h; replace h := h.2 c0; replace h := h.1 c1; replace h := h.2 c2; replace h := qb3 _ h; replace h := qb4 _ h; obtain ⟨m5, h⟩ := h; replace h := qb5 m5 _ _ h; exact h))⟩)
      · rcases br_el h with ⟨c2, h⟩ | ⟨c2, h⟩
        · rcases br_el h with ⟨c3, h⟩ | ⟨c3, h⟩
          · exact absurd c3 (by decide)
          · obtain ⟨r12, u12, qa4, qb4⟩ := dt_Pr_nodes h
            replace h := qb4 _ h
            obtain ⟨r13, u13, qa5, qb5⟩ := dt_Nd_count h
            replace h := qb5 _ h
            obtain ⟨k6, h⟩ := h
            rcases dt_St_check_L78 k6 _ _ _ _ _ _ _ _ _ h with ⟨x1, x2, x3, x4, x5, x6, x7, qa6, qb6⟩ | ⟨w6_0, w6_1, qa6, qb6⟩
            · replace h := qb6 k6 _ _ h
              rcases ih _ _ _ _ _ _ h with ⟨w7_0, w7_1, w7_2, w7_3, qa7, qb7⟩ | ⟨w7_0, w7_1, qa7, qb7⟩
              · exact Or.inl ⟨_, _, _, _, fun K post q => (by rw [wp_St_check_L20]; exact (pF c0 ((pF c1 ((pT c2 ((pF c3 ((qa4 _ ((qa5 _ (⟨k6, (qa6 _ _ ((qa7 _ _ (q))))⟩))))))))))))), fun m9 K post h => (by cases m9 with | zero => exact False.elim h | succ m9 => (rw [wp_St_check_L20] at h; replace h := h.2 c0; replace h := h.2 c1; replace h := h.1 c2; replace h := h.2 c3; replace h := qb4 _ h; replace h := qb5 _ h; obtain ⟨m6, h⟩ := h; replace h := qb6 m6 _ _ h; replace h := qb7 m9 _ _ h; exact h))⟩
              · exact Or.inr (⟨_, _, fun K post q => (by rw [wp_St_check_L20]; exact (pF c0 ((pF c1 ((pT c2 ((pF c3 ((qa4 _ ((qa5 _ (⟨k6, (qa6 _ _ ((qa7 _ _ (q))))⟩))))))))))))), fun m9 K post h => (by cases m9 with | zero => exact False.elim h | succ m9 => (rw [wp_St_check_L20] at h; replace h := h.2 c0; replace h := h.2 c1; replace h := h.1 c2; replace h := h.2 c3; replace h := qb4 _ h; replace h := qb5 _ h; obtain ⟨m6, h⟩ := h; replace h := qb6 m6 _ _ h; replace h := qb7 m9 _ _ h; exact h))⟩)
            · exact Or.inr (⟨_, _, fun K post q => (by rw [wp_St_check_L20]; exact (pF c0 ((pF c1 ((pT c2 ((pF c3 ((qa4 _ ((qa5 _ (⟨k6, (qa6 _ _ (q))⟩))))))))))))), fun m9 K post h => (by cases m9 with | zero => exact False.elim h | succ m9 => (rw [wp_St_check_L20] at h; replace h := h.2 c0; replace h := h.2 c1; replace h := h.1 c2; replace h := h.2 c3; replace h := qb4 _ h; replace h := qb5 _ h; obtain ⟨m6, h⟩ := h; replace h := qb6 m6 _ _ h; exact h))⟩)
        · rcases br_el h with ⟨c3, h⟩ | ⟨c3, h⟩
          · obtain ⟨r6, u6, qa4, qb4⟩ := dt_Pr_names h
            replace h := qb4 _ h
            obtain ⟨r7, u7, qa5, qb5⟩ := dt_Nm_count h
            replace h := qb5 _ h
            obtain ⟨k6, h⟩ := h
            rcases dt_St_check_L78 k6 _ _ _ _ _ _ _ _ _ h with ⟨x1, x2, x3, x4, x5, x6, x7, qa6, qb6⟩ | ⟨w6_0, w6_1, qa6, qb6⟩
            · replace h := qb6 k6 _ _ h
              rcases ih _ _ _ _ _ _ h with ⟨w7_0, w7_1, w7_2, w7_3, qa7, qb7⟩ | ⟨w7_0, w7_1, qa7, qb7⟩
              · exact Or.inl ⟨_, _, _, _, fun K post q => (by rw [wp_St_check_L20]; exact (pF c0 ((pF c1 ((pF c2 ((pT c3 ((qa4 _ ((qa5 _ (⟨k6, (qa6 _ _ ((qa7 _ _ (q))))⟩))))))))))))), fun m9 K post h => (by cases m9 with | zero => exact False.elim h | succ m9 => (rw [wp_St_check_L20] at h; replace h := h.2 c0; replace h := h.2 c1; replace h := h.2 c2; replace h := h.1 c3; replace h := qb4 _ h; replace h := qb5 _ h; obtain ⟨m6, h⟩ := h; replace h := qb6 m6 _ _ h; replace h := qb7 m9 _ _ h; exact h))⟩
              · exact Or.inr (⟨_, _, fun K post q => (by rw [wp_St_check_L20]; exact (pF c0 ((pF c1 ((pF c2 ((pT c3 ((qa4 _ ((qa5 _ (⟨k6, (qa6 _ _ ((qa7 _ _ (q))))⟩))))))))))))), fun m9 K post h => (by cases m9 with | zero => exact False.elim h | succ m9 => (rw [wp_St_check_L20] at h; replace h := h.2 c0; replace h := h.2 c1; replace h := h.2 c2; replace h := h.1 c3; replace h := qb4 _ h; replace h := qb5 _ h; obtain ⟨m6, h⟩ := h; replace h := qb6 m6 _ _ h; replace h := qb7 m9 _ _ h; exact h))⟩)
            · exact Or.inr (⟨_, _, fun K post q => (by rw [wp_St_check_L20]; exact (pF c0 ((pF c1 ((pF c2 ((pT c3 ((qa4 _ ((qa5 _ (⟨k6, (qa6 _ _ (q))⟩))))))))))))), fun m9 K post h => (by cases m9 with | zero => exact False.elim h | succ m9 => (rw [wp_St_check_L20] at h; replace h := h.2 c0; replace h := h.2 c1; replace h := h.2 c2; replace h := h.1 c3; replace h := qb4 _ h; replace h := qb5 _ h; obtain ⟨m6, h⟩ := h; replace h := qb6 m6 _ _ h; exact h))⟩)
          · exact absurd (by decide) c3
set_option maxHeartbeats 2000000 in
theorem dt_St_check {z_this : T_St} {z_this_program : T_Pr} {z_this_program_names : T_Nm} {z_this_program_nodes : T_Nd} {a1 : Int32} {a2 : Int32} {post : Int32 → Unit → Prop} (h : wp_St_check z_this z_this_program z_this_program_names z_this_program_nodes a1 a2 post) : (∃ (w0 : Int32) (w1 : Unit), (∀ (post : Int32 → Unit → Prop), post w0 w1 → wp_St_check z_this z_this_program z_this_program_names z_this_program_nodes a1 a2 post) ∧ (∀ (post : Int32 → Unit → Prop), wp_St_check z_this z_this_program z_this_program_names z_this_program_nodes a1 a2 post → post w0 w1)) := by
  unfold wp_St_check at h
  rcases br_el h with ⟨c0, h⟩ | ⟨c0, h⟩
  · exact ⟨_, _, fun post q => (by unfold wp_St_check; exact (pT c0 (q))), fun post h => (by unfold wp_St_check at h; replace h := h.1 c0; exact h)⟩
  · rcases br_el h with ⟨c1, h⟩ | ⟨c1, h⟩
    · exact ⟨_, _, fun post q => (by unfold wp_St_check; exact (pF c0 ((pT c1 (q))))), fun post h => (by unfold wp_St_check at h; replace h := h.2 c0; replace h := h.1 c1; exact h)⟩
    · rcases br_el h with ⟨c2, h⟩ | ⟨c2, h⟩
      · obtain ⟨k3, h⟩ := h
        rcases dt_St_check_L20 k3 _ _ _ _ _ _ h with ⟨x1, x2, x3, x4, qa3, qb3⟩ | ⟨w3_0, w3_1, qa3, qb3⟩
        · replace h := qb3 k3 _ _ h
          exact ⟨_, _, fun post q => (by unfold wp_St_check; exact (pF c0 ((pF c1 ((pT c2 (⟨k3, (qa3 _ _ (q))⟩))))))), fun post h => (by unfold wp_St_check at h; replace h := h.2 c0; replace h := h.2 c1; replace h := h.1 c2; obtain ⟨m3, h⟩ := h; replace h := qb3 m3 _ _ h; exact h)⟩
        · exact ⟨_, _, fun post q => (by unfold wp_St_check; exact (pF c0 ((pF c1 ((pT c2 (⟨k3, (qa3 _ _ (q))⟩))))))), fun post h => (by unfold wp_St_check at h; replace h := h.2 c0; replace h := h.2 c1; replace h := h.1 c2; obtain ⟨m3, h⟩ := h; replace h := qb3 m3 _ _ h; exact h)⟩
      · exact ⟨_, _, fun post q => (by unfold wp_St_check; exact (pF c0 ((pF c1 ((pF c2 (q))))))), fun post h => (by unfold wp_St_check at h; replace h := h.2 c0; replace h := h.2 c1; replace h := h.2 c2; exact h)⟩
set_option maxHeartbeats 2000000 in
theorem dt_St_branch {z_this : T_St} {z_this_program : T_Pr} {z_this_program_nodes : T_Nd} {a1 : Int32} {a2 : Int32} {post : Int32 → Unit → Prop} (h : wp_St_branch z_this z_this_program z_this_program_nodes a1 a2 post) : (∃ (w0 : Int32) (w1 : Unit), (∀ (post : Int32 → Unit → Prop), post w0 w1 → wp_St_branch z_this z_this_program z_this_program_nodes a1 a2 post) ∧ (∀ (post : Int32 → Unit → Prop), wp_St_branch z_this z_this_program z_this_program_nodes a1 a2 post → post w0 w1)) := by
  unfold wp_St_branch at h
  rcases br_el h with ⟨c0, h⟩ | ⟨c0, h⟩
  · obtain ⟨r1, u1, qa1, qb1⟩ := dt_Pr_nodes h
    replace h := qb1 _ h
    obtain ⟨r2, u2, qa2, qb2⟩ := dt_Nd_blockOf h
    replace h := qb2 _ h
    exact ⟨_, _, fun post q => (by unfold wp_St_branch; exact (pT c0 ((qa1 _ ((qa2 _ (q))))))), fun post h => (by unfold wp_St_branch at h; replace h := h.1 c0; replace h := qb1 _ h; replace h := qb2 _ h; exact h)⟩
  · exact ⟨_, _, fun post q => (by unfold wp_St_branch; exact (pF c0 (q))), fun post h => (by unfold wp_St_branch at h; replace h := h.2 c0; exact h)⟩
set_option maxHeartbeats 2000000 in
theorem dt_St_write {z_this : T_St} {z_this_page : T_Pg} {z_this_program : T_Pr} {z_this_program_names : T_Nm} {z_this_program_nodes : T_Nd} {z_this_words_keywords : T_Kw} {a1 : Int32} {post : Int32 → T_St × T_Pg × Nat × Nat → Prop} (h : wp_St_write z_this z_this_page z_this_program z_this_program_names z_this_program_nodes z_this_words_keywords a1 post) : (∃ (w0 : Int32) (w1 : T_St × T_Pg × Nat × Nat), (∀ (post : Int32 → T_St × T_Pg × Nat × Nat → Prop), post w0 w1 → wp_St_write z_this z_this_page z_this_program z_this_program_names z_this_program_nodes z_this_words_keywords a1 post) ∧ (∀ (post : Int32 → T_St × T_Pg × Nat × Nat → Prop), wp_St_write z_this z_this_page z_this_program z_this_program_names z_this_program_nodes z_this_words_keywords a1 post → post w0 w1)) := by
  unfold wp_St_write at h
  rcases br_el h with ⟨c0, h⟩ | ⟨c0, h⟩
  · obtain ⟨r2, u2, qa1, qb1⟩ := dt_Pg_lay h
    replace h := qb1 _ h
    obtain ⟨r3, u3, qa2, qb2⟩ := dt_Pg_byteAt h
    replace h := qb2 _ h
    exact ⟨_, _, fun post q => (by unfold wp_St_write; exact (pT c0 ((qa1 _ ((qa2 _ (q))))))), fun post h => (by unfold wp_St_write at h; replace h := h.1 c0; replace h := qb1 _ h; replace h := qb2 _ h; exact h)⟩
  · obtain ⟨r1, u1, qa1, qb1⟩ := dt_Pg_byteAt h
    replace h := qb1 _ h
    exact ⟨_, _, fun post q => (by unfold wp_St_write; exact (pF c0 ((qa1 _ (q))))), fun post h => (by unfold wp_St_write at h; replace h := h.2 c0; replace h := qb1 _ h; exact h)⟩
set_option maxHeartbeats 2000000 in
theorem dt_St_clear {z_this : T_St} {z_this_program : T_Pr} {z_this_program_names : T_Nm} {z_this_program_nodes : T_Nd} {z_this_words : T_Wd} {post : Unit → T_St × T_Nm × T_Nd × T_Wd → Prop} (h : wp_St_clear z_this z_this_program z_this_program_names z_this_program_nodes z_this_words post) : (∃ (w0 : Unit) (w1 : T_St × T_Nm × T_Nd × T_Wd), (∀ (post : Unit → T_St × T_Nm × T_Nd × T_Wd → Prop), post w0 w1 → wp_St_clear z_this z_this_program z_this_program_names z_this_program_nodes z_this_words post) ∧ (∀ (post : Unit → T_St × T_Nm × T_Nd × T_Wd → Prop), wp_St_clear z_this z_this_program z_this_program_names z_this_program_nodes z_this_words post → post w0 w1)) := by
  unfold wp_St_clear at h
  obtain ⟨r1, u1, qa0, qb0⟩ := dt_Wd_forget h
  replace h := qb0 _ h
  obtain ⟨r2, u2, qa1, qb1⟩ := dt_Pr_empty h
  replace h := qb1 _ h
  exact ⟨_, _, fun post q => (by unfold wp_St_clear; exact (qa0 _ ((qa1 _ (q))))), fun post h => (by unfold wp_St_clear at h; replace h := qb0 _ h; replace h := qb1 _ h; exact h)⟩
set_option maxHeartbeats 2000000 in
theorem dt_St_read {d : Nat} {dB : Nat} {z_this : T_St} {z_this_grammar : T_Gr} {z_this_spare : T_Pr} {z_this_spare_names : T_Nm} {z_this_spare_nodes : T_Nd} {z_this_words : T_Wd} {z_this_words_keywords : T_Kw} {post : Int32 → T_St × T_Gr × T_Nm × T_Nd × T_Wd × Nat × Nat → Prop} (h : wp_St_read d dB z_this z_this_grammar z_this_spare z_this_spare_names z_this_spare_nodes z_this_words z_this_words_keywords post) : (∃ (w0 : Int32) (w1 : T_St × T_Gr × T_Nm × T_Nd × T_Wd × Nat × Nat), (∀ (post : Int32 → T_St × T_Gr × T_Nm × T_Nd × T_Wd × Nat × Nat → Prop), post w0 w1 → wp_St_read d dB z_this z_this_grammar z_this_spare z_this_spare_names z_this_spare_nodes z_this_words z_this_words_keywords post) ∧ (∀ (post : Int32 → T_St × T_Gr × T_Nm × T_Nd × T_Wd × Nat × Nat → Prop), wp_St_read d dB z_this z_this_grammar z_this_spare z_this_spare_names z_this_spare_nodes z_this_words z_this_words_keywords post → post w0 w1)) := by
  unfold wp_St_read at h
  obtain ⟨r1, u1, qa0, qb0⟩ := dt_Wd_split h
  replace h := qb0 _ h
  rcases dt_Gr_readInto h with ⟨r2, u2, qa1, qb1⟩ | ⟨u, qa1, qb1⟩
  · replace h := qb1 _ _ h
    obtain ⟨r3, u3, qa2, qb2⟩ := dt_Pr_nodes h
    replace h := qb2 _ h
    obtain ⟨r4, u4, qa3, qb3⟩ := dt_Nd_statements h
    replace h := qb3 _ h
    exact ⟨_, _, fun post q => (by unfold wp_St_read; exact (qa0 _ ((qa1 _ _ ((qa2 _ ((qa3 _ (q))))))))), fun post h => (by unfold wp_St_read at h; replace h := qb0 _ h; replace h := qb1 _ _ h; replace h := qb2 _ h; replace h := qb3 _ h; exact h)⟩
  · replace h := qb1 _ _ h
    obtain ⟨r5, u5, qa2, qb2⟩ := dt_Gr_wrongPlace h
    replace h := qb2 _ h
    exact ⟨_, _, fun post q => (by unfold wp_St_read; exact (qa0 _ ((qa1 _ _ ((qa2 _ (q))))))), fun post h => (by unfold wp_St_read at h; replace h := qb0 _ h; replace h := qb1 _ _ h; replace h := qb2 _ h; exact h)⟩
set_option maxHeartbeats 2000000 in
theorem dt_Mo_unit {z_this : T_Mo} {a1 : Int32} {post : Int32 → T_Mo → Prop} (h : wp_Mo_unit z_this a1 post) : (∃ (w0 : Int32) (w1 : T_Mo), (∀ (post : Int32 → T_Mo → Prop), post w0 w1 → wp_Mo_unit z_this a1 post) ∧ (∀ (post : Int32 → T_Mo → Prop), wp_Mo_unit z_this a1 post → post w0 w1)) := by
  unfold wp_Mo_unit at h
  rcases br_el h with ⟨c0, h⟩ | ⟨c0, h⟩
  · exact ⟨_, _, fun post q => (by unfold wp_Mo_unit; exact (pT c0 (q))), fun post h => (by unfold wp_Mo_unit at h; replace h := h.1 c0; exact h)⟩
  · rcases br_el h with ⟨c1, h⟩ | ⟨c1, h⟩
    · exact ⟨_, _, fun post q => (by unfold wp_Mo_unit; exact (pF c0 ((pT c1 (q))))), fun post h => (by unfold wp_Mo_unit at h; replace h := h.2 c0; replace h := h.1 c1; exact h)⟩
    · rcases br_el h with ⟨c2, h⟩ | ⟨c2, h⟩
      · exact ⟨_, _, fun post q => (by unfold wp_Mo_unit; exact (pF c0 ((pF c1 ((pT c2 (q))))))), fun post h => (by unfold wp_Mo_unit at h; replace h := h.2 c0; replace h := h.2 c1; replace h := h.1 c2; exact h)⟩
      · obtain ⟨s3, h⟩ := h
        exact ⟨_, _, fun post q => (by unfold wp_Mo_unit; exact (pF c0 ((pF c1 ((pF c2 (⟨s3, q⟩))))))), fun post h => (by unfold wp_Mo_unit at h; replace h := h.2 c0; replace h := h.2 c1; replace h := h.2 c2; replace h := h.2; exact h)⟩
set_option maxHeartbeats 2000000 in
theorem dt_Mo_at {z_this : T_Mo} {a1 : Int32} {post : Int32 → Unit → Prop} (h : wp_Mo_at z_this a1 post) : (∃ (w0 : Int32) (w1 : Unit), (∀ (post : Int32 → Unit → Prop), post w0 w1 → wp_Mo_at z_this a1 post) ∧ (∀ (post : Int32 → Unit → Prop), wp_Mo_at z_this a1 post → post w0 w1)) := by
  unfold wp_Mo_at at h
  rcases br_el h with ⟨c0, h⟩ | ⟨c0, h⟩
  · exact ⟨_, _, fun post q => (by unfold wp_Mo_at; exact (pT c0 (q))), fun post h => (by unfold wp_Mo_at at h; replace h := h.1 c0; exact h)⟩
  · obtain ⟨s1, h⟩ := h
    exact ⟨_, _, fun post q => (by unfold wp_Mo_at; exact (pF c0 (⟨s1, q⟩))), fun post h => (by unfold wp_Mo_at at h; replace h := h.2 c0; replace h := h.2; exact h)⟩
set_option maxHeartbeats 2000000 in
theorem dt_Mo_isDigit {a0 : Int32} {post : Int32 → Unit → Prop} (h : wp_Mo_isDigit a0 post) : (∃ (w0 : Int32) (w1 : Unit), (∀ (post : Int32 → Unit → Prop), post w0 w1 → wp_Mo_isDigit a0 post) ∧ (∀ (post : Int32 → Unit → Prop), wp_Mo_isDigit a0 post → post w0 w1)) := by
  unfold wp_Mo_isDigit at h
  rcases br_el h with ⟨c0, h⟩ | ⟨c0, h⟩
  · exact ⟨_, _, fun post q => (by unfold wp_Mo_isDigit; exact (pT c0 (q))), fun post h => (by unfold wp_Mo_isDigit at h; replace h := h.1 c0; exact h)⟩
  · rcases br_el h with ⟨c1, h⟩ | ⟨c1, h⟩
    · exact ⟨_, _, fun post q => (by unfold wp_Mo_isDigit; exact (pF c0 ((pT c1 (q))))), fun post h => (by unfold wp_Mo_isDigit at h; replace h := h.2 c0; replace h := h.1 c1; exact h)⟩
    · exact ⟨_, _, fun post q => (by unfold wp_Mo_isDigit; exact (pF c0 ((pF c1 (q))))), fun post h => (by unfold wp_Mo_isDigit at h; replace h := h.2 c0; replace h := h.2 c1; exact h)⟩
set_option maxHeartbeats 2000000 in
theorem dt_Mo_isLetter {a0 : Int32} {post : Int32 → Unit → Prop} (h : wp_Mo_isLetter a0 post) : (∃ (w0 : Int32) (w1 : Unit), (∀ (post : Int32 → Unit → Prop), post w0 w1 → wp_Mo_isLetter a0 post) ∧ (∀ (post : Int32 → Unit → Prop), wp_Mo_isLetter a0 post → post w0 w1)) := by
  unfold wp_Mo_isLetter at h
  rcases br_el h with ⟨c0, h⟩ | ⟨c0, h⟩
  · exact ⟨_, _, fun post q => (by unfold wp_Mo_isLetter; exact (pT c0 (q))), fun post h => (by unfold wp_Mo_isLetter at h; replace h := h.1 c0; exact h)⟩
  · rcases br_el h with ⟨c1, h⟩ | ⟨c1, h⟩
    · exact ⟨_, _, fun post q => (by unfold wp_Mo_isLetter; exact (pF c0 ((pT c1 (q))))), fun post h => (by unfold wp_Mo_isLetter at h; replace h := h.2 c0; replace h := h.1 c1; exact h)⟩
    · exact ⟨_, _, fun post q => (by unfold wp_Mo_isLetter; exact (pF c0 ((pF c1 (q))))), fun post h => (by unfold wp_Mo_isLetter at h; replace h := h.2 c0; replace h := h.2 c1; exact h)⟩
set_option maxHeartbeats 2000000 in
theorem dt_Mo_is_L8 {z_this : T_Mo} : ∀ (n9 : Nat) (x1 : Int64) (x3 : Int32) (x4 : Int64) (K : Int64 → Int32 → Int64 → Prop) (post : Int32 → Unit → Prop), wp_Mo_is_L8 z_this K post n9 x1 x3 x4 → (∃ (w0 : Int64) (w1 : Int32) (w2 : Int64), (∀ (K : Int64 → Int32 → Int64 → Prop) (post : Int32 → Unit → Prop), K w0 w1 w2 → wp_Mo_is_L8 z_this K post n9 x1 x3 x4) ∧ (∀ (m9 : Nat) (K : Int64 → Int32 → Int64 → Prop) (post : Int32 → Unit → Prop), wp_Mo_is_L8 z_this K post m9 x1 x3 x4 → K w0 w1 w2)) ∨ (∃ (w0 : Int32) (w1 : Unit), (∀ (K : Int64 → Int32 → Int64 → Prop) (post : Int32 → Unit → Prop), post w0 w1 → wp_Mo_is_L8 z_this K post n9 x1 x3 x4) ∧ (∀ (m9 : Nat) (K : Int64 → Int32 → Int64 → Prop) (post : Int32 → Unit → Prop), wp_Mo_is_L8 z_this K post m9 x1 x3 x4 → post w0 w1)) := by
  intro n9
  induction n9 with
  | zero => intro x1 x3 x4 K post h; exact False.elim h
  | succ n9 ih =>
    intro x1 x3 x4 K post h
    rw [wp_Mo_is_L8] at h
    rcases br_el h with ⟨c0, h⟩ | ⟨c0, h⟩
    · exact Or.inl ⟨_, _, _, fun K post q => (by rw [wp_Mo_is_L8]; exact (pT c0 (q))), fun m9 K post h => (by cases m9 with | zero => exact False.elim h | succ m9 => (rw [wp_Mo_is_L8] at h; replace h := h.1 c0; exact h))⟩
    · rcases br_el h with ⟨c1, h⟩ | ⟨c1, h⟩
      · exact Or.inr (⟨_, _, fun K post q => (by rw [wp_Mo_is_L8]; exact (pF c0 ((pT c1 (q))))), fun m9 K post h => (by cases m9 with | zero => exact False.elim h | succ m9 => (rw [wp_Mo_is_L8] at h; replace h := h.2 c0; replace h := h.1 c1; exact h))⟩)
      · obtain ⟨s2, h⟩ := h
        rcases br_el h with ⟨c3, h⟩ | ⟨c3, h⟩
        · rcases ih _ _ _ _ _ h with ⟨w4_0, w4_1, w4_2, qa4, qb4⟩ | ⟨w4_0, w4_1, qa4, qb4⟩
          · exact Or.inl ⟨_, _, _, fun K post q => (by rw [wp_Mo_is_L8]; exact (pF c0 ((pF c1 (⟨s2, (pT c3 ((qa4 _ _ (q))))⟩))))), fun m9 K post h => (by cases m9 with | zero => exact False.elim h | succ m9 => (rw [wp_Mo_is_L8] at h; replace h := h.2 c0; replace h := h.2 c1; replace h := h.2; replace h := h.1 c3; replace h := qb4 m9 _ _ h; exact h))⟩
          · exact Or.inr (⟨_, _, fun K post q => (by rw [wp_Mo_is_L8]; exact (pF c0 ((pF c1 (⟨s2, (pT c3 ((qa4 _ _ (q))))⟩))))), fun m9 K post h => (by cases m9 with | zero => exact False.elim h | succ m9 => (rw [wp_Mo_is_L8] at h; replace h := h.2 c0; replace h := h.2 c1; replace h := h.2; replace h := h.1 c3; replace h := qb4 m9 _ _ h; exact h))⟩)
        · exact Or.inr (⟨_, _, fun K post q => (by rw [wp_Mo_is_L8]; exact (pF c0 ((pF c1 (⟨s2, (pF c3 (q))⟩))))), fun m9 K post h => (by cases m9 with | zero => exact False.elim h | succ m9 => (rw [wp_Mo_is_L8] at h; replace h := h.2 c0; replace h := h.2 c1; replace h := h.2; replace h := h.2 c3; exact h))⟩)
set_option maxHeartbeats 2000000 in
theorem dt_Mo_is {z_this : T_Mo} {a1 : Int64} {post : Int32 → Unit → Prop} (h : wp_Mo_is z_this a1 post) : (∃ (w0 : Int32) (w1 : Unit), (∀ (post : Int32 → Unit → Prop), post w0 w1 → wp_Mo_is z_this a1 post) ∧ (∀ (post : Int32 → Unit → Prop), wp_Mo_is z_this a1 post → post w0 w1)) := by
  unfold wp_Mo_is at h
  obtain ⟨k0, h⟩ := h
  rcases dt_Mo_is_L8 k0 _ _ _ _ _ h with ⟨x1, x3, x4, qa0, qb0⟩ | ⟨w0_0, w0_1, qa0, qb0⟩
  · replace h := qb0 k0 _ _ h
    rcases br_el h with ⟨c1, h⟩ | ⟨c1, h⟩
    · exact ⟨_, _, fun post q => (by unfold wp_Mo_is; exact ⟨k0, (qa0 _ _ ((pT c1 (q))))⟩), fun post h => (by unfold wp_Mo_is at h; obtain ⟨m0, h⟩ := h; replace h := qb0 m0 _ _ h; replace h := h.1 c1; exact h)⟩
    · exact ⟨_, _, fun post q => (by unfold wp_Mo_is; exact ⟨k0, (qa0 _ _ ((pF c1 (q))))⟩), fun post h => (by unfold wp_Mo_is at h; obtain ⟨m0, h⟩ := h; replace h := qb0 m0 _ _ h; replace h := h.2 c1; exact h)⟩
  · exact ⟨_, _, fun post q => (by unfold wp_Mo_is; exact ⟨k0, (qa0 _ _ (q))⟩), fun post h => (by unfold wp_Mo_is at h; obtain ⟨m0, h⟩ := h; replace h := qb0 m0 _ _ h; exact h)⟩
set_option maxHeartbeats 2000000 in
theorem dt_Mo_meaning_J415 {z_this : T_Mo} {x1 : Int32} {x2 : Int32} {x3 : Int32} {y0 : Int32} {post : Int32 → Unit → Prop} (h : wp_Mo_meaning_J415 z_this post x1 x2 x3 y0) : (∃ (w0 : Int32) (w1 : Unit), (∀ (post : Int32 → Unit → Prop), post w0 w1 → wp_Mo_meaning_J415 z_this post x1 x2 x3 y0) ∧ (∀ (post : Int32 → Unit → Prop), wp_Mo_meaning_J415 z_this post x1 x2 x3 y0 → post w0 w1)) := by
  unfold wp_Mo_meaning_J415 at h
  exact ⟨_, _, fun post q => (by unfold wp_Mo_meaning_J415; exact q), fun post h => (by unfold wp_Mo_meaning_J415 at h; exact h)⟩
set_option maxHeartbeats 2000000 in
theorem dt_Mo_meaning_J395 {z_this : T_Mo} {x1 : Int32} {x2 : Int32} {y0 : Int32} {post : Int32 → Unit → Prop} (h : wp_Mo_meaning_J395 z_this post x1 x2 y0) : (∃ (w0 : Int32) (w1 : Unit), (∀ (post : Int32 → Unit → Prop), post w0 w1 → wp_Mo_meaning_J395 z_this post x1 x2 y0) ∧ (∀ (post : Int32 → Unit → Prop), wp_Mo_meaning_J395 z_this post x1 x2 y0 → post w0 w1)) := by
  unfold wp_Mo_meaning_J395 at h
  rcases br_el h with ⟨c0, h⟩ | ⟨c0, h⟩
  · rcases br_el h with ⟨c1, h⟩ | ⟨c1, h⟩
    · obtain ⟨w2_0, w2_1, qa2, qb2⟩ := dt_Mo_meaning_J415 h
      exact ⟨_, _, fun post q => (by unfold wp_Mo_meaning_J395; exact (pT c0 ((pT c1 ((qa2 _ (q))))))), fun post h => (by unfold wp_Mo_meaning_J395 at h; replace h := h.1 c0; replace h := h.1 c1; replace h := qb2 _ h; exact h)⟩
    · obtain ⟨w2_0, w2_1, qa2, qb2⟩ := dt_Mo_meaning_J415 h
      exact ⟨_, _, fun post q => (by unfold wp_Mo_meaning_J395; exact (pT c0 ((pF c1 ((qa2 _ (q))))))), fun post h => (by unfold wp_Mo_meaning_J395 at h; replace h := h.1 c0; replace h := h.2 c1; replace h := qb2 _ h; exact h)⟩
  · obtain ⟨w1_0, w1_1, qa1, qb1⟩ := dt_Mo_meaning_J415 h
    exact ⟨_, _, fun post q => (by unfold wp_Mo_meaning_J395; exact (pF c0 ((qa1 _ (q))))), fun post h => (by unfold wp_Mo_meaning_J395 at h; replace h := h.2 c0; replace h := qb1 _ h; exact h)⟩
set_option maxHeartbeats 2000000 in
theorem dt_Mo_meaning_J258 {z_this : T_Mo} {x1 : Int32} {y0 : Int32} {post : Int32 → Unit → Prop} (h : wp_Mo_meaning_J258 z_this post x1 y0) : (∃ (w0 : Int32) (w1 : Unit), (∀ (post : Int32 → Unit → Prop), post w0 w1 → wp_Mo_meaning_J258 z_this post x1 y0) ∧ (∀ (post : Int32 → Unit → Prop), wp_Mo_meaning_J258 z_this post x1 y0 → post w0 w1)) := by
  unfold wp_Mo_meaning_J258 at h
  obtain ⟨r18, u18, qa0, qb0⟩ := dt_Mo_is h
  replace h := qb0 _ h
  rcases br_el h with ⟨c1, h⟩ | ⟨c1, h⟩
  · obtain ⟨r19, u19, qa2, qb2⟩ := dt_Mo_is h
    replace h := qb2 _ h
    rcases br_el h with ⟨c3, h⟩ | ⟨c3, h⟩
    · obtain ⟨r20, u20, qa4, qb4⟩ := dt_Mo_is h
      replace h := qb4 _ h
      rcases br_el h with ⟨c5, h⟩ | ⟨c5, h⟩
      · obtain ⟨r21, u21, qa6, qb6⟩ := dt_Mo_is h
        replace h := qb6 _ h
        rcases br_el h with ⟨c7, h⟩ | ⟨c7, h⟩
        · obtain ⟨r22, u22, qa8, qb8⟩ := dt_Mo_is h
          replace h := qb8 _ h
          rcases br_el h with ⟨c9, h⟩ | ⟨c9, h⟩
          · obtain ⟨r23, u23, qa10, qb10⟩ := dt_Mo_is h
            replace h := qb10 _ h
            rcases br_el h with ⟨c11, h⟩ | ⟨c11, h⟩
            · obtain ⟨r24, u24, qa12, qb12⟩ := dt_Mo_is h
              replace h := qb12 _ h
              rcases br_el h with ⟨c13, h⟩ | ⟨c13, h⟩
              · obtain ⟨r25, u25, qa14, qb14⟩ := dt_Mo_is h
                replace h := qb14 _ h
                rcases br_el h with ⟨c15, h⟩ | ⟨c15, h⟩
                · obtain ⟨r26, u26, qa16, qb16⟩ := dt_Mo_is h
                  replace h := qb16 _ h
                  rcases br_el h with ⟨c17, h⟩ | ⟨c17, h⟩
                  · obtain ⟨w18_0, w18_1, qa18, qb18⟩ := dt_Mo_meaning_J395 h
                    exact ⟨_, _, fun post q => (by unfold wp_Mo_meaning_J258; exact (qa0 _ ((pT c1 ((qa2 _ ((pT c3 ((qa4 _ ((pT c5 ((qa6 _ ((pT c7 ((qa8 _ ((pT c9 ((qa10 _ ((pT c11 ((qa12 _ ((pT c13 ((qa14 _ ((pT c15 ((qa16 _ ((pT c17 ((qa18 _ (q))))))))))))))))))))))))))))))))))))))), fun post h => (by unfold wp_Mo_meaning_J258 at h; replace h := qb0 _ h; replace h := h.1 c1; replace h := qb2 _ h; replace h := h.1 c3; replace h := qb4 _ h; replace h := h.1 c5; replace h := qb6 _ h; replace h := h.1 c7; replace h := qb8 _ h; replace h := h.1 c9; replace h := qb10 _ h; replace h := h.1 c11; replace h := qb12 _ h; replace h := h.1 c13; replace h := qb14 _ h; replace h := h.1 c15; replace h := qb16 _ h; replace h := h.1 c17; replace h := qb18 _ h; exact h)⟩
                  · obtain ⟨w18_0, w18_1, qa18, qb18⟩ := dt_Mo_meaning_J395 h
                    exact ⟨_, _, fun post q => (by unfold wp_Mo_meaning_J258; exact (qa0 _ ((pT c1 ((qa2 _ ((pT c3 ((qa4 _ ((pT c5 ((qa6 _ ((pT c7 ((qa8 _ ((pT c9 ((qa10 _ ((pT c11 ((qa12 _ ((pT c13 ((qa14 _ ((pT c15 ((qa16 _ ((pF c17 ((qa18 _ (q))))))))))))))))))))))))))))))))))))))), fun post h => (by unfold wp_Mo_meaning_J258 at h; replace h := qb0 _ h; replace h := h.1 c1; replace h := qb2 _ h; replace h := h.1 c3; replace h := qb4 _ h; replace h := h.1 c5; replace h := qb6 _ h; replace h := h.1 c7; replace h := qb8 _ h; replace h := h.1 c9; replace h := qb10 _ h; replace h := h.1 c11; replace h := qb12 _ h; replace h := h.1 c13; replace h := qb14 _ h; replace h := h.1 c15; replace h := qb16 _ h; replace h := h.2 c17; replace h := qb18 _ h; exact h)⟩
                · obtain ⟨w16_0, w16_1, qa16, qb16⟩ := dt_Mo_meaning_J395 h
                  exact ⟨_, _, fun post q => (by unfold wp_Mo_meaning_J258; exact (qa0 _ ((pT c1 ((qa2 _ ((pT c3 ((qa4 _ ((pT c5 ((qa6 _ ((pT c7 ((qa8 _ ((pT c9 ((qa10 _ ((pT c11 ((qa12 _ ((pT c13 ((qa14 _ ((pF c15 ((qa16 _ (q))))))))))))))))))))))))))))))))))), fun post h => (by unfold wp_Mo_meaning_J258 at h; replace h := qb0 _ h; replace h := h.1 c1; replace h := qb2 _ h; replace h := h.1 c3; replace h := qb4 _ h; replace h := h.1 c5; replace h := qb6 _ h; replace h := h.1 c7; replace h := qb8 _ h; replace h := h.1 c9; replace h := qb10 _ h; replace h := h.1 c11; replace h := qb12 _ h; replace h := h.1 c13; replace h := qb14 _ h; replace h := h.2 c15; replace h := qb16 _ h; exact h)⟩
              · obtain ⟨w14_0, w14_1, qa14, qb14⟩ := dt_Mo_meaning_J395 h
                exact ⟨_, _, fun post q => (by unfold wp_Mo_meaning_J258; exact (qa0 _ ((pT c1 ((qa2 _ ((pT c3 ((qa4 _ ((pT c5 ((qa6 _ ((pT c7 ((qa8 _ ((pT c9 ((qa10 _ ((pT c11 ((qa12 _ ((pF c13 ((qa14 _ (q))))))))))))))))))))))))))))))), fun post h => (by unfold wp_Mo_meaning_J258 at h; replace h := qb0 _ h; replace h := h.1 c1; replace h := qb2 _ h; replace h := h.1 c3; replace h := qb4 _ h; replace h := h.1 c5; replace h := qb6 _ h; replace h := h.1 c7; replace h := qb8 _ h; replace h := h.1 c9; replace h := qb10 _ h; replace h := h.1 c11; replace h := qb12 _ h; replace h := h.2 c13; replace h := qb14 _ h; exact h)⟩
            · obtain ⟨w12_0, w12_1, qa12, qb12⟩ := dt_Mo_meaning_J395 h
              exact ⟨_, _, fun post q => (by unfold wp_Mo_meaning_J258; exact (qa0 _ ((pT c1 ((qa2 _ ((pT c3 ((qa4 _ ((pT c5 ((qa6 _ ((pT c7 ((qa8 _ ((pT c9 ((qa10 _ ((pF c11 ((qa12 _ (q))))))))))))))))))))))))))), fun post h => (by unfold wp_Mo_meaning_J258 at h; replace h := qb0 _ h; replace h := h.1 c1; replace h := qb2 _ h; replace h := h.1 c3; replace h := qb4 _ h; replace h := h.1 c5; replace h := qb6 _ h; replace h := h.1 c7; replace h := qb8 _ h; replace h := h.1 c9; replace h := qb10 _ h; replace h := h.2 c11; replace h := qb12 _ h; exact h)⟩
          · obtain ⟨w10_0, w10_1, qa10, qb10⟩ := dt_Mo_meaning_J395 h
            exact ⟨_, _, fun post q => (by unfold wp_Mo_meaning_J258; exact (qa0 _ ((pT c1 ((qa2 _ ((pT c3 ((qa4 _ ((pT c5 ((qa6 _ ((pT c7 ((qa8 _ ((pF c9 ((qa10 _ (q))))))))))))))))))))))), fun post h => (by unfold wp_Mo_meaning_J258 at h; replace h := qb0 _ h; replace h := h.1 c1; replace h := qb2 _ h; replace h := h.1 c3; replace h := qb4 _ h; replace h := h.1 c5; replace h := qb6 _ h; replace h := h.1 c7; replace h := qb8 _ h; replace h := h.2 c9; replace h := qb10 _ h; exact h)⟩
        · obtain ⟨w8_0, w8_1, qa8, qb8⟩ := dt_Mo_meaning_J395 h
          exact ⟨_, _, fun post q => (by unfold wp_Mo_meaning_J258; exact (qa0 _ ((pT c1 ((qa2 _ ((pT c3 ((qa4 _ ((pT c5 ((qa6 _ ((pF c7 ((qa8 _ (q))))))))))))))))))), fun post h => (by unfold wp_Mo_meaning_J258 at h; replace h := qb0 _ h; replace h := h.1 c1; replace h := qb2 _ h; replace h := h.1 c3; replace h := qb4 _ h; replace h := h.1 c5; replace h := qb6 _ h; replace h := h.2 c7; replace h := qb8 _ h; exact h)⟩
      · obtain ⟨w6_0, w6_1, qa6, qb6⟩ := dt_Mo_meaning_J395 h
        exact ⟨_, _, fun post q => (by unfold wp_Mo_meaning_J258; exact (qa0 _ ((pT c1 ((qa2 _ ((pT c3 ((qa4 _ ((pF c5 ((qa6 _ (q))))))))))))))), fun post h => (by unfold wp_Mo_meaning_J258 at h; replace h := qb0 _ h; replace h := h.1 c1; replace h := qb2 _ h; replace h := h.1 c3; replace h := qb4 _ h; replace h := h.2 c5; replace h := qb6 _ h; exact h)⟩
    · obtain ⟨w4_0, w4_1, qa4, qb4⟩ := dt_Mo_meaning_J395 h
      exact ⟨_, _, fun post q => (by unfold wp_Mo_meaning_J258; exact (qa0 _ ((pT c1 ((qa2 _ ((pF c3 ((qa4 _ (q))))))))))), fun post h => (by unfold wp_Mo_meaning_J258 at h; replace h := qb0 _ h; replace h := h.1 c1; replace h := qb2 _ h; replace h := h.2 c3; replace h := qb4 _ h; exact h)⟩
  · obtain ⟨w2_0, w2_1, qa2, qb2⟩ := dt_Mo_meaning_J395 h
    exact ⟨_, _, fun post q => (by unfold wp_Mo_meaning_J258; exact (qa0 _ ((pF c1 ((qa2 _ (q))))))), fun post h => (by unfold wp_Mo_meaning_J258 at h; replace h := qb0 _ h; replace h := h.2 c1; replace h := qb2 _ h; exact h)⟩
set_option maxHeartbeats 2000000 in
theorem dt_Mo_meaning_J121 {z_this : T_Mo} {y0 : Int32} {post : Int32 → Unit → Prop} (h : wp_Mo_meaning_J121 z_this post y0) : (∃ (w0 : Int32) (w1 : Unit), (∀ (post : Int32 → Unit → Prop), post w0 w1 → wp_Mo_meaning_J121 z_this post y0) ∧ (∀ (post : Int32 → Unit → Prop), wp_Mo_meaning_J121 z_this post y0 → post w0 w1)) := by
  unfold wp_Mo_meaning_J121 at h
  obtain ⟨r9, u9, qa0, qb0⟩ := dt_Mo_is h
  replace h := qb0 _ h
  rcases br_el h with ⟨c1, h⟩ | ⟨c1, h⟩
  · obtain ⟨r10, u10, qa2, qb2⟩ := dt_Mo_is h
    replace h := qb2 _ h
    rcases br_el h with ⟨c3, h⟩ | ⟨c3, h⟩
    · obtain ⟨r11, u11, qa4, qb4⟩ := dt_Mo_is h
      replace h := qb4 _ h
      rcases br_el h with ⟨c5, h⟩ | ⟨c5, h⟩
      · obtain ⟨r12, u12, qa6, qb6⟩ := dt_Mo_is h
        replace h := qb6 _ h
        rcases br_el h with ⟨c7, h⟩ | ⟨c7, h⟩
        · obtain ⟨r13, u13, qa8, qb8⟩ := dt_Mo_is h
          replace h := qb8 _ h
          rcases br_el h with ⟨c9, h⟩ | ⟨c9, h⟩
          · obtain ⟨r14, u14, qa10, qb10⟩ := dt_Mo_is h
            replace h := qb10 _ h
            rcases br_el h with ⟨c11, h⟩ | ⟨c11, h⟩
            · obtain ⟨r15, u15, qa12, qb12⟩ := dt_Mo_is h
              replace h := qb12 _ h
              rcases br_el h with ⟨c13, h⟩ | ⟨c13, h⟩
              · obtain ⟨r16, u16, qa14, qb14⟩ := dt_Mo_is h
                replace h := qb14 _ h
                rcases br_el h with ⟨c15, h⟩ | ⟨c15, h⟩
                · obtain ⟨r17, u17, qa16, qb16⟩ := dt_Mo_is h
                  replace h := qb16 _ h
                  rcases br_el h with ⟨c17, h⟩ | ⟨c17, h⟩
                  · obtain ⟨w18_0, w18_1, qa18, qb18⟩ := dt_Mo_meaning_J258 h
                    exact ⟨_, _, fun post q => (by unfold wp_Mo_meaning_J121; exact (qa0 _ ((pT c1 ((qa2 _ ((pT c3 ((qa4 _ ((pT c5 ((qa6 _ ((pT c7 ((qa8 _ ((pT c9 ((qa10 _ ((pT c11 ((qa12 _ ((pT c13 ((qa14 _ ((pT c15 ((qa16 _ ((pT c17 ((qa18 _ (q))))))))))))))))))))))))))))))))))))))), fun post h => (by unfold wp_Mo_meaning_J121 at h; replace h := qb0 _ h; replace h := h.1 c1; replace h := qb2 _ h; replace h := h.1 c3; replace h := qb4 _ h; replace h := h.1 c5; replace h := qb6 _ h; replace h := h.1 c7; replace h := qb8 _ h; replace h := h.1 c9; replace h := qb10 _ h; replace h := h.1 c11; replace h := qb12 _ h; replace h := h.1 c13; replace h := qb14 _ h; replace h := h.1 c15; replace h := qb16 _ h; replace h := h.1 c17; replace h := qb18 _ h; exact h)⟩
                  · obtain ⟨w18_0, w18_1, qa18, qb18⟩ := dt_Mo_meaning_J258 h
                    exact ⟨_, _, fun post q => (by unfold wp_Mo_meaning_J121; exact (qa0 _ ((pT c1 ((qa2 _ ((pT c3 ((qa4 _ ((pT c5 ((qa6 _ ((pT c7 ((qa8 _ ((pT c9 ((qa10 _ ((pT c11 ((qa12 _ ((pT c13 ((qa14 _ ((pT c15 ((qa16 _ ((pF c17 ((qa18 _ (q))))))))))))))))))))))))))))))))))))))), fun post h => (by unfold wp_Mo_meaning_J121 at h; replace h := qb0 _ h; replace h := h.1 c1; replace h := qb2 _ h; replace h := h.1 c3; replace h := qb4 _ h; replace h := h.1 c5; replace h := qb6 _ h; replace h := h.1 c7; replace h := qb8 _ h; replace h := h.1 c9; replace h := qb10 _ h; replace h := h.1 c11; replace h := qb12 _ h; replace h := h.1 c13; replace h := qb14 _ h; replace h := h.1 c15; replace h := qb16 _ h; replace h := h.2 c17; replace h := qb18 _ h; exact h)⟩
                · obtain ⟨w16_0, w16_1, qa16, qb16⟩ := dt_Mo_meaning_J258 h
                  exact ⟨_, _, fun post q => (by unfold wp_Mo_meaning_J121; exact (qa0 _ ((pT c1 ((qa2 _ ((pT c3 ((qa4 _ ((pT c5 ((qa6 _ ((pT c7 ((qa8 _ ((pT c9 ((qa10 _ ((pT c11 ((qa12 _ ((pT c13 ((qa14 _ ((pF c15 ((qa16 _ (q))))))))))))))))))))))))))))))))))), fun post h => (by unfold wp_Mo_meaning_J121 at h; replace h := qb0 _ h; replace h := h.1 c1; replace h := qb2 _ h; replace h := h.1 c3; replace h := qb4 _ h; replace h := h.1 c5; replace h := qb6 _ h; replace h := h.1 c7; replace h := qb8 _ h; replace h := h.1 c9; replace h := qb10 _ h; replace h := h.1 c11; replace h := qb12 _ h; replace h := h.1 c13; replace h := qb14 _ h; replace h := h.2 c15; replace h := qb16 _ h; exact h)⟩
              · obtain ⟨w14_0, w14_1, qa14, qb14⟩ := dt_Mo_meaning_J258 h
                exact ⟨_, _, fun post q => (by unfold wp_Mo_meaning_J121; exact (qa0 _ ((pT c1 ((qa2 _ ((pT c3 ((qa4 _ ((pT c5 ((qa6 _ ((pT c7 ((qa8 _ ((pT c9 ((qa10 _ ((pT c11 ((qa12 _ ((pF c13 ((qa14 _ (q))))))))))))))))))))))))))))))), fun post h => (by unfold wp_Mo_meaning_J121 at h; replace h := qb0 _ h; replace h := h.1 c1; replace h := qb2 _ h; replace h := h.1 c3; replace h := qb4 _ h; replace h := h.1 c5; replace h := qb6 _ h; replace h := h.1 c7; replace h := qb8 _ h; replace h := h.1 c9; replace h := qb10 _ h; replace h := h.1 c11; replace h := qb12 _ h; replace h := h.2 c13; replace h := qb14 _ h; exact h)⟩
            · obtain ⟨w12_0, w12_1, qa12, qb12⟩ := dt_Mo_meaning_J258 h
              exact ⟨_, _, fun post q => (by unfold wp_Mo_meaning_J121; exact (qa0 _ ((pT c1 ((qa2 _ ((pT c3 ((qa4 _ ((pT c5 ((qa6 _ ((pT c7 ((qa8 _ ((pT c9 ((qa10 _ ((pF c11 ((qa12 _ (q))))))))))))))))))))))))))), fun post h => (by unfold wp_Mo_meaning_J121 at h; replace h := qb0 _ h; replace h := h.1 c1; replace h := qb2 _ h; replace h := h.1 c3; replace h := qb4 _ h; replace h := h.1 c5; replace h := qb6 _ h; replace h := h.1 c7; replace h := qb8 _ h; replace h := h.1 c9; replace h := qb10 _ h; replace h := h.2 c11; replace h := qb12 _ h; exact h)⟩
          · obtain ⟨w10_0, w10_1, qa10, qb10⟩ := dt_Mo_meaning_J258 h
            exact ⟨_, _, fun post q => (by unfold wp_Mo_meaning_J121; exact (qa0 _ ((pT c1 ((qa2 _ ((pT c3 ((qa4 _ ((pT c5 ((qa6 _ ((pT c7 ((qa8 _ ((pF c9 ((qa10 _ (q))))))))))))))))))))))), fun post h => (by unfold wp_Mo_meaning_J121 at h; replace h := qb0 _ h; replace h := h.1 c1; replace h := qb2 _ h; replace h := h.1 c3; replace h := qb4 _ h; replace h := h.1 c5; replace h := qb6 _ h; replace h := h.1 c7; replace h := qb8 _ h; replace h := h.2 c9; replace h := qb10 _ h; exact h)⟩
        · obtain ⟨w8_0, w8_1, qa8, qb8⟩ := dt_Mo_meaning_J258 h
          exact ⟨_, _, fun post q => (by unfold wp_Mo_meaning_J121; exact (qa0 _ ((pT c1 ((qa2 _ ((pT c3 ((qa4 _ ((pT c5 ((qa6 _ ((pF c7 ((qa8 _ (q))))))))))))))))))), fun post h => (by unfold wp_Mo_meaning_J121 at h; replace h := qb0 _ h; replace h := h.1 c1; replace h := qb2 _ h; replace h := h.1 c3; replace h := qb4 _ h; replace h := h.1 c5; replace h := qb6 _ h; replace h := h.2 c7; replace h := qb8 _ h; exact h)⟩
      · obtain ⟨w6_0, w6_1, qa6, qb6⟩ := dt_Mo_meaning_J258 h
        exact ⟨_, _, fun post q => (by unfold wp_Mo_meaning_J121; exact (qa0 _ ((pT c1 ((qa2 _ ((pT c3 ((qa4 _ ((pF c5 ((qa6 _ (q))))))))))))))), fun post h => (by unfold wp_Mo_meaning_J121 at h; replace h := qb0 _ h; replace h := h.1 c1; replace h := qb2 _ h; replace h := h.1 c3; replace h := qb4 _ h; replace h := h.2 c5; replace h := qb6 _ h; exact h)⟩
    · obtain ⟨w4_0, w4_1, qa4, qb4⟩ := dt_Mo_meaning_J258 h
      exact ⟨_, _, fun post q => (by unfold wp_Mo_meaning_J121; exact (qa0 _ ((pT c1 ((qa2 _ ((pF c3 ((qa4 _ (q))))))))))), fun post h => (by unfold wp_Mo_meaning_J121 at h; replace h := qb0 _ h; replace h := h.1 c1; replace h := qb2 _ h; replace h := h.2 c3; replace h := qb4 _ h; exact h)⟩
  · obtain ⟨w2_0, w2_1, qa2, qb2⟩ := dt_Mo_meaning_J258 h
    exact ⟨_, _, fun post q => (by unfold wp_Mo_meaning_J121; exact (qa0 _ ((pF c1 ((qa2 _ (q))))))), fun post h => (by unfold wp_Mo_meaning_J121 at h; replace h := qb0 _ h; replace h := h.2 c1; replace h := qb2 _ h; exact h)⟩
set_option maxHeartbeats 2000000 in
theorem dt_Mo_meaning {z_this : T_Mo} {post : Int32 → Unit → Prop} (h : wp_Mo_meaning z_this post) : (∃ (w0 : Int32) (w1 : Unit), (∀ (post : Int32 → Unit → Prop), post w0 w1 → wp_Mo_meaning z_this post) ∧ (∀ (post : Int32 → Unit → Prop), wp_Mo_meaning z_this post → post w0 w1)) := by
  unfold wp_Mo_meaning at h
  obtain ⟨r1, u1, qa0, qb0⟩ := dt_Mo_is h
  replace h := qb0 _ h
  rcases br_el h with ⟨c1, h⟩ | ⟨c1, h⟩
  · obtain ⟨r2, u2, qa2, qb2⟩ := dt_Mo_is h
    replace h := qb2 _ h
    rcases br_el h with ⟨c3, h⟩ | ⟨c3, h⟩
    · obtain ⟨r3, u3, qa4, qb4⟩ := dt_Mo_is h
      replace h := qb4 _ h
      rcases br_el h with ⟨c5, h⟩ | ⟨c5, h⟩
      · obtain ⟨r4, u4, qa6, qb6⟩ := dt_Mo_is h
        replace h := qb6 _ h
        rcases br_el h with ⟨c7, h⟩ | ⟨c7, h⟩
        · obtain ⟨r5, u5, qa8, qb8⟩ := dt_Mo_is h
          replace h := qb8 _ h
          rcases br_el h with ⟨c9, h⟩ | ⟨c9, h⟩
          · obtain ⟨r6, u6, qa10, qb10⟩ := dt_Mo_is h
            replace h := qb10 _ h
            rcases br_el h with ⟨c11, h⟩ | ⟨c11, h⟩
            · obtain ⟨r7, u7, qa12, qb12⟩ := dt_Mo_is h
              replace h := qb12 _ h
              rcases br_el h with ⟨c13, h⟩ | ⟨c13, h⟩
              · obtain ⟨r8, u8, qa14, qb14⟩ := dt_Mo_is h
                replace h := qb14 _ h
                rcases br_el h with ⟨c15, h⟩ | ⟨c15, h⟩
                · obtain ⟨w16_0, w16_1, qa16, qb16⟩ := dt_Mo_meaning_J121 h
                  exact ⟨_, _, fun post q => (by unfold wp_Mo_meaning; exact (qa0 _ ((pT c1 ((qa2 _ ((pT c3 ((qa4 _ ((pT c5 ((qa6 _ ((pT c7 ((qa8 _ ((pT c9 ((qa10 _ ((pT c11 ((qa12 _ ((pT c13 ((qa14 _ ((pT c15 ((qa16 _ (q))))))))))))))))))))))))))))))))))), fun post h => (by unfold wp_Mo_meaning at h; replace h := qb0 _ h; replace h := h.1 c1; replace h := qb2 _ h; replace h := h.1 c3; replace h := qb4 _ h; replace h := h.1 c5; replace h := qb6 _ h; replace h := h.1 c7; replace h := qb8 _ h; replace h := h.1 c9; replace h := qb10 _ h; replace h := h.1 c11; replace h := qb12 _ h; replace h := h.1 c13; replace h := qb14 _ h; replace h := h.1 c15; replace h := qb16 _ h; exact h)⟩
                · obtain ⟨w16_0, w16_1, qa16, qb16⟩ := dt_Mo_meaning_J121 h
                  exact ⟨_, _, fun post q => (by unfold wp_Mo_meaning; exact (qa0 _ ((pT c1 ((qa2 _ ((pT c3 ((qa4 _ ((pT c5 ((qa6 _ ((pT c7 ((qa8 _ ((pT c9 ((qa10 _ ((pT c11 ((qa12 _ ((pT c13 ((qa14 _ ((pF c15 ((qa16 _ (q))))))))))))))))))))))))))))))))))), fun post h => (by unfold wp_Mo_meaning at h; replace h := qb0 _ h; replace h := h.1 c1; replace h := qb2 _ h; replace h := h.1 c3; replace h := qb4 _ h; replace h := h.1 c5; replace h := qb6 _ h; replace h := h.1 c7; replace h := qb8 _ h; replace h := h.1 c9; replace h := qb10 _ h; replace h := h.1 c11; replace h := qb12 _ h; replace h := h.1 c13; replace h := qb14 _ h; replace h := h.2 c15; replace h := qb16 _ h; exact h)⟩
              · obtain ⟨w14_0, w14_1, qa14, qb14⟩ := dt_Mo_meaning_J121 h
                exact ⟨_, _, fun post q => (by unfold wp_Mo_meaning; exact (qa0 _ ((pT c1 ((qa2 _ ((pT c3 ((qa4 _ ((pT c5 ((qa6 _ ((pT c7 ((qa8 _ ((pT c9 ((qa10 _ ((pT c11 ((qa12 _ ((pF c13 ((qa14 _ (q))))))))))))))))))))))))))))))), fun post h => (by unfold wp_Mo_meaning at h; replace h := qb0 _ h; replace h := h.1 c1; replace h := qb2 _ h; replace h := h.1 c3; replace h := qb4 _ h; replace h := h.1 c5; replace h := qb6 _ h; replace h := h.1 c7; replace h := qb8 _ h; replace h := h.1 c9; replace h := qb10 _ h; replace h := h.1 c11; replace h := qb12 _ h; replace h := h.2 c13; replace h := qb14 _ h; exact h)⟩
            · obtain ⟨w12_0, w12_1, qa12, qb12⟩ := dt_Mo_meaning_J121 h
              exact ⟨_, _, fun post q => (by unfold wp_Mo_meaning; exact (qa0 _ ((pT c1 ((qa2 _ ((pT c3 ((qa4 _ ((pT c5 ((qa6 _ ((pT c7 ((qa8 _ ((pT c9 ((qa10 _ ((pF c11 ((qa12 _ (q))))))))))))))))))))))))))), fun post h => (by unfold wp_Mo_meaning at h; replace h := qb0 _ h; replace h := h.1 c1; replace h := qb2 _ h; replace h := h.1 c3; replace h := qb4 _ h; replace h := h.1 c5; replace h := qb6 _ h; replace h := h.1 c7; replace h := qb8 _ h; replace h := h.1 c9; replace h := qb10 _ h; replace h := h.2 c11; replace h := qb12 _ h; exact h)⟩
          · obtain ⟨w10_0, w10_1, qa10, qb10⟩ := dt_Mo_meaning_J121 h
            exact ⟨_, _, fun post q => (by unfold wp_Mo_meaning; exact (qa0 _ ((pT c1 ((qa2 _ ((pT c3 ((qa4 _ ((pT c5 ((qa6 _ ((pT c7 ((qa8 _ ((pF c9 ((qa10 _ (q))))))))))))))))))))))), fun post h => (by unfold wp_Mo_meaning at h; replace h := qb0 _ h; replace h := h.1 c1; replace h := qb2 _ h; replace h := h.1 c3; replace h := qb4 _ h; replace h := h.1 c5; replace h := qb6 _ h; replace h := h.1 c7; replace h := qb8 _ h; replace h := h.2 c9; replace h := qb10 _ h; exact h)⟩
        · obtain ⟨w8_0, w8_1, qa8, qb8⟩ := dt_Mo_meaning_J121 h
          exact ⟨_, _, fun post q => (by unfold wp_Mo_meaning; exact (qa0 _ ((pT c1 ((qa2 _ ((pT c3 ((qa4 _ ((pT c5 ((qa6 _ ((pF c7 ((qa8 _ (q))))))))))))))))))), fun post h => (by unfold wp_Mo_meaning at h; replace h := qb0 _ h; replace h := h.1 c1; replace h := qb2 _ h; replace h := h.1 c3; replace h := qb4 _ h; replace h := h.1 c5; replace h := qb6 _ h; replace h := h.2 c7; replace h := qb8 _ h; exact h)⟩
      · obtain ⟨w6_0, w6_1, qa6, qb6⟩ := dt_Mo_meaning_J121 h
        exact ⟨_, _, fun post q => (by unfold wp_Mo_meaning; exact (qa0 _ ((pT c1 ((qa2 _ ((pT c3 ((qa4 _ ((pF c5 ((qa6 _ (q))))))))))))))), fun post h => (by unfold wp_Mo_meaning at h; replace h := qb0 _ h; replace h := h.1 c1; replace h := qb2 _ h; replace h := h.1 c3; replace h := qb4 _ h; replace h := h.2 c5; replace h := qb6 _ h; exact h)⟩
    · obtain ⟨w4_0, w4_1, qa4, qb4⟩ := dt_Mo_meaning_J121 h
      exact ⟨_, _, fun post q => (by unfold wp_Mo_meaning; exact (qa0 _ ((pT c1 ((qa2 _ ((pF c3 ((qa4 _ (q))))))))))), fun post h => (by unfold wp_Mo_meaning at h; replace h := qb0 _ h; replace h := h.1 c1; replace h := qb2 _ h; replace h := h.2 c3; replace h := qb4 _ h; exact h)⟩
  · obtain ⟨w2_0, w2_1, qa2, qb2⟩ := dt_Mo_meaning_J121 h
    exact ⟨_, _, fun post q => (by unfold wp_Mo_meaning; exact (qa0 _ ((pF c1 ((qa2 _ (q))))))), fun post h => (by unfold wp_Mo_meaning at h; replace h := qb0 _ h; replace h := h.2 c1; replace h := qb2 _ h; exact h)⟩
set_option maxHeartbeats 2000000 in
theorem dt_Mo_digits_L5 : ∀ (n9 : Nat) (z_this : T_Mo) (K : T_Mo → Prop) (post : Unit → T_Mo → Prop), wp_Mo_digits_L5 K post n9 z_this → (∃ (w0 : T_Mo), (∀ (K : T_Mo → Prop) (post : Unit → T_Mo → Prop), K w0 → wp_Mo_digits_L5 K post n9 z_this) ∧ (∀ (m9 : Nat) (K : T_Mo → Prop) (post : Unit → T_Mo → Prop), wp_Mo_digits_L5 K post m9 z_this → K w0)) ∨ (∃ (w0 : Unit) (w1 : T_Mo), (∀ (K : T_Mo → Prop) (post : Unit → T_Mo → Prop), post w0 w1 → wp_Mo_digits_L5 K post n9 z_this) ∧ (∀ (m9 : Nat) (K : T_Mo → Prop) (post : Unit → T_Mo → Prop), wp_Mo_digits_L5 K post m9 z_this → post w0 w1)) := by
  intro n9
  induction n9 with
  | zero => intro z_this K post h; exact False.elim h
  | succ n9 ih =>
    intro z_this K post h
    rw [wp_Mo_digits_L5] at h
    obtain ⟨r1, u1, qa0, qb0⟩ := dt_Mo_at h
    replace h := qb0 _ h
    obtain ⟨r2, u2, qa1, qb1⟩ := dt_Mo_isDigit h
    replace h := qb1 _ h
    rcases br_el h with ⟨c2, h⟩ | ⟨c2, h⟩
    · exact Or.inl ⟨_, fun K post q => (by rw [wp_Mo_digits_L5]; exact (qa0 _ ((qa1 _ ((pT c2 (q))))))), fun m9 K post h => (by cases m9 with | zero => exact False.elim h | succ m9 => (rw [wp_Mo_digits_L5] at h; replace h := qb0 _ h; replace h := qb1 _ h; replace h := h.1 c2; exact h))⟩
    · rcases br_el h with ⟨c3, h⟩ | ⟨c3, h⟩
      · exact Or.inl ⟨_, fun K post q => (by rw [wp_Mo_digits_L5]; exact (qa0 _ ((qa1 _ ((pF c2 ((pT c3 (q))))))))), fun m9 K post h => (by cases m9 with | zero => exact False.elim h | succ m9 => (rw [wp_Mo_digits_L5] at h; replace h := qb0 _ h; replace h := qb1 _ h; replace h := h.2 c2; replace h := h.1 c3; exact h))⟩
      · obtain ⟨r3, u3, qa4, qb4⟩ := dt_Mo_at h
        replace h := qb4 _ h
        rcases ih _ _ _ h with ⟨w5_0, qa5, qb5⟩ | ⟨w5_0, w5_1, qa5, qb5⟩
        · exact Or.inl ⟨_, fun K post q => (by rw [wp_Mo_digits_L5]; exact (qa0 _ ((qa1 _ ((pF c2 ((pF c3 ((qa4 _ ((qa5 _ _ (q))))))))))))), fun m9 K post h => (by cases m9 with | zero => exact False.elim h | succ m9 => (rw [wp_Mo_digits_L5] at h; replace h := qb0 _ h; replace h := qb1 _ h; replace h := h.2 c2; replace h := h.2 c3; replace h := qb4 _ h; replace h := qb5 m9 _ _ h; exact h))⟩
        · exact Or.inr (⟨_, _, fun K post q => (by rw [wp_Mo_digits_L5]; exact (qa0 _ ((qa1 _ ((pF c2 ((pF c3 ((qa4 _ ((qa5 _ _ (q))))))))))))), fun m9 K post h => (by cases m9 with | zero => exact False.elim h | succ m9 => (rw [wp_Mo_digits_L5] at h; replace h := qb0 _ h; replace h := qb1 _ h; replace h := h.2 c2; replace h := h.2 c3; replace h := qb4 _ h; replace h := qb5 m9 _ _ h; exact h))⟩)
set_option maxHeartbeats 2000000 in
theorem dt_Mo_digits_J205 {z_this : T_Mo} {post : Unit → T_Mo → Prop} (h : wp_Mo_digits_J205 post z_this) : (∃ (w0 : Unit) (w1 : T_Mo), (∀ (post : Unit → T_Mo → Prop), post w0 w1 → wp_Mo_digits_J205 post z_this) ∧ (∀ (post : Unit → T_Mo → Prop), wp_Mo_digits_J205 post z_this → post w0 w1)) := by
  unfold wp_Mo_digits_J205 at h
  exact ⟨_, _, fun post q => (by unfold wp_Mo_digits_J205; exact q), fun post h => (by unfold wp_Mo_digits_J205 at h; exact h)⟩
set_option maxHeartbeats 2000000 in
theorem dt_Mo_digits_L143 : ∀ (n9 : Nat) (z_this : T_Mo) (x1 : Int64) (K : T_Mo → Int64 → Prop) (post : Unit → T_Mo → Prop), wp_Mo_digits_L143 K post n9 z_this x1 → (∃ (w0 : T_Mo) (w1 : Int64), (∀ (K : T_Mo → Int64 → Prop) (post : Unit → T_Mo → Prop), K w0 w1 → wp_Mo_digits_L143 K post n9 z_this x1) ∧ (∀ (m9 : Nat) (K : T_Mo → Int64 → Prop) (post : Unit → T_Mo → Prop), wp_Mo_digits_L143 K post m9 z_this x1 → K w0 w1)) ∨ (∃ (w0 : Unit) (w1 : T_Mo), (∀ (K : T_Mo → Int64 → Prop) (post : Unit → T_Mo → Prop), post w0 w1 → wp_Mo_digits_L143 K post n9 z_this x1) ∧ (∀ (m9 : Nat) (K : T_Mo → Int64 → Prop) (post : Unit → T_Mo → Prop), wp_Mo_digits_L143 K post m9 z_this x1 → post w0 w1)) := by
  intro n9
  induction n9 with
  | zero => intro z_this x1 K post h; exact False.elim h
  | succ n9 ih =>
    intro z_this x1 K post h
    rw [wp_Mo_digits_L143] at h
    obtain ⟨r5, u5, qa0, qb0⟩ := dt_Mo_at h
    replace h := qb0 _ h
    obtain ⟨r6, u6, qa1, qb1⟩ := dt_Mo_isDigit h
    replace h := qb1 _ h
    rcases br_el h with ⟨c2, h⟩ | ⟨c2, h⟩
    · exact Or.inl ⟨_, _, fun K post q => (by rw [wp_Mo_digits_L143]; exact (qa0 _ ((qa1 _ ((pT c2 (q))))))), fun m9 K post h => (by cases m9 with | zero => exact False.elim h | succ m9 => (rw [wp_Mo_digits_L143] at h; replace h := qb0 _ h; replace h := qb1 _ h; replace h := h.1 c2; exact h))⟩
    · rcases br_el h with ⟨c3, h⟩ | ⟨c3, h⟩
      · exact Or.inl ⟨_, _, fun K post q => (by rw [wp_Mo_digits_L143]; exact (qa0 _ ((qa1 _ ((pF c2 ((pT c3 (q))))))))), fun m9 K post h => (by cases m9 with | zero => exact False.elim h | succ m9 => (rw [wp_Mo_digits_L143] at h; replace h := qb0 _ h; replace h := qb1 _ h; replace h := h.2 c2; replace h := h.1 c3; exact h))⟩
      · obtain ⟨r7, u7, qa4, qb4⟩ := dt_Mo_at h
        replace h := qb4 _ h
        rcases ih _ _ _ _ h with ⟨w5_0, w5_1, qa5, qb5⟩ | ⟨w5_0, w5_1, qa5, qb5⟩
        · exact Or.inl ⟨_, _, fun K post q => (by rw [wp_Mo_digits_L143]; exact (qa0 _ ((qa1 _ ((pF c2 ((pF c3 ((qa4 _ ((qa5 _ _ (q))))))))))))), fun m9 K post h => (by cases m9 with | zero => exact False.elim h | succ m9 => (rw [wp_Mo_digits_L143] at h; replace h := qb0 _ h; replace h := qb1 _ h; replace h := h.2 c2; replace h := h.2 c3; replace h := qb4 _ h; replace h := qb5 m9 _ _ h; exact h))⟩
        · exact Or.inr (⟨_, _, fun K post q => (by rw [wp_Mo_digits_L143]; exact (qa0 _ ((qa1 _ ((pF c2 ((pF c3 ((qa4 _ ((qa5 _ _ (q))))))))))))), fun m9 K post h => (by cases m9 with | zero => exact False.elim h | succ m9 => (rw [wp_Mo_digits_L143] at h; replace h := qb0 _ h; replace h := qb1 _ h; replace h := h.2 c2; replace h := h.2 c3; replace h := qb4 _ h; replace h := qb5 m9 _ _ h; exact h))⟩)
set_option maxHeartbeats 2000000 in
theorem dt_Mo_digits_J119 {z_this : T_Mo} {y0 : Int32} {post : Unit → T_Mo → Prop} (h : wp_Mo_digits_J119 post z_this y0) : (∃ (w0 : Unit) (w1 : T_Mo), (∀ (post : Unit → T_Mo → Prop), post w0 w1 → wp_Mo_digits_J119 post z_this y0) ∧ (∀ (post : Unit → T_Mo → Prop), wp_Mo_digits_J119 post z_this y0 → post w0 w1)) := by
  unfold wp_Mo_digits_J119 at h
  obtain ⟨s0, h⟩ := h
  obtain ⟨s1, h⟩ := h
  rcases br_el h with ⟨c2, h⟩ | ⟨c2, h⟩
  · obtain ⟨w3_0, w3_1, qa3, qb3⟩ := dt_Mo_digits_J205 h
    exact ⟨_, _, fun post q => (by unfold wp_Mo_digits_J119; exact ⟨s0, ⟨s1, (pT c2 ((qa3 _ (q))))⟩⟩), fun post h => (by unfold wp_Mo_digits_J119 at h; replace h := h.2; replace h := h.2; replace h := h.1 c2; replace h := qb3 _ h; exact h)⟩
  · obtain ⟨k3, h⟩ := h
    rcases dt_Mo_digits_L143 k3 _ _ _ _ h with ⟨z_this, x1, qa3, qb3⟩ | ⟨w3_0, w3_1, qa3, qb3⟩
    · replace h := qb3 k3 _ _ h
      obtain ⟨w4_0, w4_1, qa4, qb4⟩ := dt_Mo_digits_J205 h
      exact ⟨_, _, fun post q => (by unfold wp_Mo_digits_J119; exact ⟨s0, ⟨s1, (pF c2 (⟨k3, (qa3 _ _ ((qa4 _ (q))))⟩))⟩⟩), fun post h => (by unfold wp_Mo_digits_J119 at h; replace h := h.2; replace h := h.2; replace h := h.2 c2; obtain ⟨m3, h⟩ := h; replace h := qb3 m3 _ _ h; replace h := qb4 _ h; exact h)⟩
    · exact ⟨_, _, fun post q => (by unfold wp_Mo_digits_J119; exact ⟨s0, ⟨s1, (pF c2 (⟨k3, (qa3 _ _ (q))⟩))⟩⟩), fun post h => (by unfold wp_Mo_digits_J119 at h; replace h := h.2; replace h := h.2; replace h := h.2 c2; obtain ⟨m3, h⟩ := h; replace h := qb3 m3 _ _ h; exact h)⟩
set_option maxHeartbeats 2000000 in
theorem dt_Mo_digits_J118 {z_this : T_Mo} {post : Unit → T_Mo → Prop} (h : wp_Mo_digits_J118 post z_this) : (∃ (w0 : Unit) (w1 : T_Mo), (∀ (post : Unit → T_Mo → Prop), post w0 w1 → wp_Mo_digits_J118 post z_this) ∧ (∀ (post : Unit → T_Mo → Prop), wp_Mo_digits_J118 post z_this → post w0 w1)) := by
  unfold wp_Mo_digits_J118 at h
  obtain ⟨w0_0, w0_1, qa0, qb0⟩ := dt_Mo_digits_J119 h
  exact ⟨_, _, fun post q => (by unfold wp_Mo_digits_J118; exact (qa0 _ (q))), fun post h => (by unfold wp_Mo_digits_J118 at h; replace h := qb0 _ h; exact h)⟩
set_option maxHeartbeats 2000000 in
theorem dt_Mo_digits_J72 {z_this : T_Mo} {post : Unit → T_Mo → Prop} (h : wp_Mo_digits_J72 post z_this) : (∃ (w0 : Unit) (w1 : T_Mo), (∀ (post : Unit → T_Mo → Prop), post w0 w1 → wp_Mo_digits_J72 post z_this) ∧ (∀ (post : Unit → T_Mo → Prop), wp_Mo_digits_J72 post z_this → post w0 w1)) := by
  unfold wp_Mo_digits_J72 at h
  obtain ⟨r4, u4, qa0, qb0⟩ := dt_Mo_at h
  replace h := qb0 _ h
  rcases br_el h with ⟨c1, h⟩ | ⟨c1, h⟩
  · obtain ⟨r8, u8, qa2, qb2⟩ := dt_Mo_at h
    replace h := qb2 _ h
    obtain ⟨r9, u9, qa3, qb3⟩ := dt_Mo_isDigit h
    replace h := qb3 _ h
    rcases br_el h with ⟨c4, h⟩ | ⟨c4, h⟩
    · obtain ⟨w5_0, w5_1, qa5, qb5⟩ := dt_Mo_digits_J118 h
      exact ⟨_, _, fun post q => (by unfold wp_Mo_digits_J72; exact (qa0 _ ((pT c1 ((qa2 _ ((qa3 _ ((pT c4 ((qa5 _ (q))))))))))))), fun post h => (by unfold wp_Mo_digits_J72 at h; replace h := qb0 _ h; replace h := h.1 c1; replace h := qb2 _ h; replace h := qb3 _ h; replace h := h.1 c4; replace h := qb5 _ h; exact h)⟩
    · obtain ⟨w5_0, w5_1, qa5, qb5⟩ := dt_Mo_digits_J119 h
      exact ⟨_, _, fun post q => (by unfold wp_Mo_digits_J72; exact (qa0 _ ((pT c1 ((qa2 _ ((qa3 _ ((pF c4 ((qa5 _ (q))))))))))))), fun post h => (by unfold wp_Mo_digits_J72 at h; replace h := qb0 _ h; replace h := h.1 c1; replace h := qb2 _ h; replace h := qb3 _ h; replace h := h.2 c4; replace h := qb5 _ h; exact h)⟩
  · obtain ⟨w2_0, w2_1, qa2, qb2⟩ := dt_Mo_digits_J118 h
    exact ⟨_, _, fun post q => (by unfold wp_Mo_digits_J72; exact (qa0 _ ((pF c1 ((qa2 _ (q))))))), fun post h => (by unfold wp_Mo_digits_J72 at h; replace h := qb0 _ h; replace h := h.2 c1; replace h := qb2 _ h; exact h)⟩
set_option maxHeartbeats 2000000 in
theorem dt_Mo_digits {z_this : T_Mo} {post : Unit → T_Mo → Prop} (h : wp_Mo_digits z_this post) : (∃ (w0 : Unit) (w1 : T_Mo), (∀ (post : Unit → T_Mo → Prop), post w0 w1 → wp_Mo_digits z_this post) ∧ (∀ (post : Unit → T_Mo → Prop), wp_Mo_digits z_this post → post w0 w1)) := by
  unfold wp_Mo_digits at h
  obtain ⟨k0, h⟩ := h
  rcases dt_Mo_digits_L5 k0 _ _ _ h with ⟨z_this, qa0, qb0⟩ | ⟨w0_0, w0_1, qa0, qb0⟩
  · replace h := qb0 k0 _ _ h
    obtain ⟨w1_0, w1_1, qa1, qb1⟩ := dt_Mo_digits_J72 h
    exact ⟨_, _, fun post q => (by unfold wp_Mo_digits; exact ⟨k0, (qa0 _ _ ((qa1 _ (q))))⟩), fun post h => (by unfold wp_Mo_digits at h; obtain ⟨m0, h⟩ := h; replace h := qb0 m0 _ _ h; replace h := qb1 _ h; exact h)⟩
  · exact ⟨_, _, fun post q => (by unfold wp_Mo_digits; exact ⟨k0, (qa0 _ _ (q))⟩), fun post h => (by unfold wp_Mo_digits at h; obtain ⟨m0, h⟩ := h; replace h := qb0 m0 _ _ h; exact h)⟩
set_option maxHeartbeats 2000000 in
theorem dt_Mo_go_L0 : ∀ (n9 : Nat) (z_this : T_Mo) (K : T_Mo → Prop) (post : Int32 → T_Mo → Prop), wp_Mo_go_L0 K post n9 z_this → (∃ (w0 : T_Mo), (∀ (K : T_Mo → Prop) (post : Int32 → T_Mo → Prop), K w0 → wp_Mo_go_L0 K post n9 z_this) ∧ (∀ (m9 : Nat) (K : T_Mo → Prop) (post : Int32 → T_Mo → Prop), wp_Mo_go_L0 K post m9 z_this → K w0)) ∨ (∃ (w0 : Int32) (w1 : T_Mo), (∀ (K : T_Mo → Prop) (post : Int32 → T_Mo → Prop), post w0 w1 → wp_Mo_go_L0 K post n9 z_this) ∧ (∀ (m9 : Nat) (K : T_Mo → Prop) (post : Int32 → T_Mo → Prop), wp_Mo_go_L0 K post m9 z_this → post w0 w1)) := by
  intro n9
  induction n9 with
  | zero => intro z_this K post h; exact False.elim h
  | succ n9 ih =>
    intro z_this K post h
    rw [wp_Mo_go_L0] at h
    obtain ⟨r1, u1, qa0, qb0⟩ := dt_Mo_at h
    replace h := qb0 _ h
    rcases br_el h with ⟨c1, h⟩ | ⟨c1, h⟩
    · obtain ⟨r2, u2, qa2, qb2⟩ := dt_Mo_at h
      replace h := qb2 _ h
      rcases br_el h with ⟨c3, h⟩ | ⟨c3, h⟩
      · rcases ih _ _ _ h with ⟨w4_0, qa4, qb4⟩ | ⟨w4_0, w4_1, qa4, qb4⟩
        · exact Or.inl ⟨_, fun K post q => (by rw [wp_Mo_go_L0]; exact (qa0 _ ((pT c1 ((qa2 _ ((pT c3 ((qa4 _ _ (q))))))))))), fun m9 K post h => (by cases m9 with | zero => exact False.elim h | succ m9 => (rw [wp_Mo_go_L0] at h; replace h := qb0 _ h; replace h := h.1 c1; replace h := qb2 _ h; replace h := h.1 c3; replace h := qb4 m9 _ _ h; exact h))⟩
        · exact Or.inr (⟨_, _, fun K post q => (by rw [wp_Mo_go_L0]; exact (qa0 _ ((pT c1 ((qa2 _ ((pT c3 ((qa4 _ _ (q))))))))))), fun m9 K post h => (by cases m9 with | zero => exact False.elim h | succ m9 => (rw [wp_Mo_go_L0] at h; replace h := qb0 _ h; replace h := h.1 c1; replace h := qb2 _ h; replace h := h.1 c3; replace h := qb4 m9 _ _ h; exact h))⟩)
      · rcases ih _ _ _ h with ⟨w4_0, qa4, qb4⟩ | ⟨w4_0, w4_1, qa4, qb4⟩
        · exact Or.inl ⟨_, fun K post q => (by rw [wp_Mo_go_L0]; exact (qa0 _ ((pT c1 ((qa2 _ ((pF c3 ((qa4 _ _ (q))))))))))), fun m9 K post h => (by cases m9 with | zero => exact False.elim h | succ m9 => (rw [wp_Mo_go_L0] at h; replace h := qb0 _ h; replace h := h.1 c1; replace h := qb2 _ h; replace h := h.2 c3; replace h := qb4 m9 _ _ h; exact h))⟩
        · exact Or.inr (⟨_, _, fun K post q => (by rw [wp_Mo_go_L0]; exact (qa0 _ ((pT c1 ((qa2 _ ((pF c3 ((qa4 _ _ (q))))))))))), fun m9 K post h => (by cases m9 with | zero => exact False.elim h | succ m9 => (rw [wp_Mo_go_L0] at h; replace h := qb0 _ h; replace h := h.1 c1; replace h := qb2 _ h; replace h := h.2 c3; replace h := qb4 m9 _ _ h; exact h))⟩)
    · obtain ⟨r3, u3, qa2, qb2⟩ := dt_Mo_at h
      replace h := qb2 _ h
      rcases br_el h with ⟨c3, h⟩ | ⟨c3, h⟩
      · obtain ⟨r4, u4, qa4, qb4⟩ := dt_Mo_at h
        replace h := qb4 _ h
        rcases br_el h with ⟨c5, h⟩ | ⟨c5, h⟩
        · rcases ih _ _ _ h with ⟨w6_0, qa6, qb6⟩ | ⟨w6_0, w6_1, qa6, qb6⟩
          · exact Or.inl ⟨_, fun K post q => (by rw [wp_Mo_go_L0]; exact (qa0 _ ((pF c1 ((qa2 _ ((pT c3 ((qa4 _ ((pT c5 ((qa6 _ _ (q))))))))))))))), fun m9 K post h => (by cases m9 with | zero => exact False.elim h | succ m9 => (rw [wp_Mo_go_L0] at h; replace h := qb0 _ h; replace h := h.2 c1; replace h := qb2 _ h; replace h := h.1 c3; replace h := qb4 _ h; replace h := h.1 c5; replace h := qb6 m9 _ _ h; exact h))⟩
          · exact Or.inr (⟨_, _, fun K post q => (by rw [wp_Mo_go_L0]; exact (qa0 _ ((pF c1 ((qa2 _ ((pT c3 ((qa4 _ ((pT c5 ((qa6 _ _ (q))))))))))))))), fun m9 K post h => (by cases m9 with | zero => exact False.elim h | succ m9 => (rw [wp_Mo_go_L0] at h; replace h := qb0 _ h; replace h := h.2 c1; replace h := qb2 _ h; replace h := h.1 c3; replace h := qb4 _ h; replace h := h.1 c5; replace h := qb6 m9 _ _ h; exact h))⟩)
        · rcases ih _ _ _ h with ⟨w6_0, qa6, qb6⟩ | ⟨w6_0, w6_1, qa6, qb6⟩
          · exact Or.inl ⟨_, fun K post q => (by rw [wp_Mo_go_L0]; exact (qa0 _ ((pF c1 ((qa2 _ ((pT c3 ((qa4 _ ((pF c5 ((qa6 _ _ (q))))))))))))))), fun m9 K post h => (by cases m9 with | zero => exact False.elim h | succ m9 => (rw [wp_Mo_go_L0] at h; replace h := qb0 _ h; replace h := h.2 c1; replace h := qb2 _ h; replace h := h.1 c3; replace h := qb4 _ h; replace h := h.2 c5; replace h := qb6 m9 _ _ h; exact h))⟩
          · exact Or.inr (⟨_, _, fun K post q => (by rw [wp_Mo_go_L0]; exact (qa0 _ ((pF c1 ((qa2 _ ((pT c3 ((qa4 _ ((pF c5 ((qa6 _ _ (q))))))))))))))), fun m9 K post h => (by cases m9 with | zero => exact False.elim h | succ m9 => (rw [wp_Mo_go_L0] at h; replace h := qb0 _ h; replace h := h.2 c1; replace h := qb2 _ h; replace h := h.1 c3; replace h := qb4 _ h; replace h := h.2 c5; replace h := qb6 m9 _ _ h; exact h))⟩)
      · exact Or.inl ⟨_, fun K post q => (by rw [wp_Mo_go_L0]; exact (qa0 _ ((pF c1 ((qa2 _ ((pF c3 (q))))))))), fun m9 K post h => (by cases m9 with | zero => exact False.elim h | succ m9 => (rw [wp_Mo_go_L0] at h; replace h := qb0 _ h; replace h := h.2 c1; replace h := qb2 _ h; replace h := h.2 c3; exact h))⟩
set_option maxHeartbeats 2000000 in
theorem dt_Mo_go_J287 {z_this : T_Mo} {x1 : Int32} {x2 : Int32} {y0 : Int32} {post : Int32 → T_Mo → Prop} (h : wp_Mo_go_J287 post z_this x1 x2 y0) : (∃ (w0 : Int32) (w1 : T_Mo), (∀ (post : Int32 → T_Mo → Prop), post w0 w1 → wp_Mo_go_J287 post z_this x1 x2 y0) ∧ (∀ (post : Int32 → T_Mo → Prop), wp_Mo_go_J287 post z_this x1 x2 y0 → post w0 w1)) := by
  unfold wp_Mo_go_J287 at h
  obtain ⟨s0, h⟩ := h
  exact ⟨_, _, fun post q => (by unfold wp_Mo_go_J287; exact ⟨s0, q⟩), fun post h => (by unfold wp_Mo_go_J287 at h; replace h := h.2; exact h)⟩
set_option maxHeartbeats 2000000 in
theorem dt_Mo_go_J270 {z_this : T_Mo} {x1 : Int32} {y0 : Int32} {post : Int32 → T_Mo → Prop} (h : wp_Mo_go_J270 post z_this x1 y0) : (∃ (w0 : Int32) (w1 : T_Mo), (∀ (post : Int32 → T_Mo → Prop), post w0 w1 → wp_Mo_go_J270 post z_this x1 y0) ∧ (∀ (post : Int32 → T_Mo → Prop), wp_Mo_go_J270 post z_this x1 y0 → post w0 w1)) := by
  unfold wp_Mo_go_J270 at h
  rcases br_el h with ⟨c0, h⟩ | ⟨c0, h⟩
  · obtain ⟨w1_0, w1_1, qa1, qb1⟩ := dt_Mo_go_J287 h
    exact ⟨_, _, fun post q => (by unfold wp_Mo_go_J270; exact (pT c0 ((qa1 _ (q))))), fun post h => (by unfold wp_Mo_go_J270 at h; replace h := h.1 c0; replace h := qb1 _ h; exact h)⟩
  · obtain ⟨w1_0, w1_1, qa1, qb1⟩ := dt_Mo_go_J287 h
    exact ⟨_, _, fun post q => (by unfold wp_Mo_go_J270; exact (pF c0 ((qa1 _ (q))))), fun post h => (by unfold wp_Mo_go_J270 at h; replace h := h.2 c0; replace h := qb1 _ h; exact h)⟩
set_option maxHeartbeats 2000000 in
theorem dt_Mo_go_J265 {z_this : T_Mo} {x1 : Int32} {post : Int32 → T_Mo → Prop} (h : wp_Mo_go_J265 post z_this x1) : (∃ (w0 : Int32) (w1 : T_Mo), (∀ (post : Int32 → T_Mo → Prop), post w0 w1 → wp_Mo_go_J265 post z_this x1) ∧ (∀ (post : Int32 → T_Mo → Prop), wp_Mo_go_J265 post z_this x1 → post w0 w1)) := by
  unfold wp_Mo_go_J265 at h
  obtain ⟨w0_0, w0_1, qa0, qb0⟩ := dt_Mo_go_J270 h
  exact ⟨_, _, fun post q => (by unfold wp_Mo_go_J265; exact (qa0 _ (q))), fun post h => (by unfold wp_Mo_go_J265 at h; replace h := qb0 _ h; exact h)⟩
set_option maxHeartbeats 2000000 in
theorem dt_Mo_go_J352 {z_this : T_Mo} {x1 : Int32} {x2 : Int32} {post : Int32 → T_Mo → Prop} (h : wp_Mo_go_J352 post z_this x1 x2) : (∃ (w0 : Int32) (w1 : T_Mo), (∀ (post : Int32 → T_Mo → Prop), post w0 w1 → wp_Mo_go_J352 post z_this x1 x2) ∧ (∀ (post : Int32 → T_Mo → Prop), wp_Mo_go_J352 post z_this x1 x2 → post w0 w1)) := by
  unfold wp_Mo_go_J352 at h
  exact ⟨_, _, fun post q => (by unfold wp_Mo_go_J352; exact q), fun post h => (by unfold wp_Mo_go_J352 at h; exact h)⟩
set_option maxHeartbeats 2000000 in
theorem dt_Mo_go_J384 {z_this : T_Mo} {x1 : Int32} {x2 : Int32} {y0 : Int32} {post : Int32 → T_Mo → Prop} (h : wp_Mo_go_J384 post z_this x1 x2 y0) : (∃ (w0 : Int32) (w1 : T_Mo), (∀ (post : Int32 → T_Mo → Prop), post w0 w1 → wp_Mo_go_J384 post z_this x1 x2 y0) ∧ (∀ (post : Int32 → T_Mo → Prop), wp_Mo_go_J384 post z_this x1 x2 y0 → post w0 w1)) := by
  unfold wp_Mo_go_J384 at h
  exact ⟨_, _, fun post q => (by unfold wp_Mo_go_J384; exact q), fun post h => (by unfold wp_Mo_go_J384 at h; exact h)⟩
set_option maxHeartbeats 2000000 in
theorem dt_Mo_go_J315 {z_this : T_Mo} {x1 : Int32} {post : Int32 → T_Mo → Prop} (h : wp_Mo_go_J315 post z_this x1) : (∃ (w0 : Int32) (w1 : T_Mo), (∀ (post : Int32 → T_Mo → Prop), post w0 w1 → wp_Mo_go_J315 post z_this x1) ∧ (∀ (post : Int32 → T_Mo → Prop), wp_Mo_go_J315 post z_this x1 → post w0 w1)) := by
  unfold wp_Mo_go_J315 at h
  obtain ⟨r9, u9, qa0, qb0⟩ := dt_Mo_at h
  replace h := qb0 _ h
  obtain ⟨r10, u10, qa1, qb1⟩ := dt_Mo_isLetter h
  replace h := qb1 _ h
  rcases br_el h with ⟨c2, h⟩ | ⟨c2, h⟩
  · obtain ⟨r11, u11, qa3, qb3⟩ := dt_Mo_isDigit h
    replace h := qb3 _ h
    rcases br_el h with ⟨c4, h⟩ | ⟨c4, h⟩
    · rcases br_el h with ⟨c5, h⟩ | ⟨c5, h⟩
      · obtain ⟨w6_0, w6_1, qa6, qb6⟩ := dt_Mo_go_J352 h
        exact ⟨_, _, fun post q => (by unfold wp_Mo_go_J315; exact (qa0 _ ((qa1 _ ((pT c2 ((qa3 _ ((pT c4 ((pT c5 ((qa6 _ (q))))))))))))))), fun post h => (by unfold wp_Mo_go_J315 at h; replace h := qb0 _ h; replace h := qb1 _ h; replace h := h.1 c2; replace h := qb3 _ h; replace h := h.1 c4; replace h := h.1 c5; replace h := qb6 _ h; exact h)⟩
      · obtain ⟨r12, u12, qa6, qb6⟩ := dt_Mo_isLetter h
        replace h := qb6 _ h
        rcases br_el h with ⟨c7, h⟩ | ⟨c7, h⟩
        · obtain ⟨w8_0, w8_1, qa8, qb8⟩ := dt_Mo_go_J384 h
          exact ⟨_, _, fun post q => (by unfold wp_Mo_go_J315; exact (qa0 _ ((qa1 _ ((pT c2 ((qa3 _ ((pT c4 ((pF c5 ((qa6 _ ((pT c7 ((qa8 _ (q))))))))))))))))))), fun post h => (by unfold wp_Mo_go_J315 at h; replace h := qb0 _ h; replace h := qb1 _ h; replace h := h.1 c2; replace h := qb3 _ h; replace h := h.1 c4; replace h := h.2 c5; replace h := qb6 _ h; replace h := h.1 c7; replace h := qb8 _ h; exact h)⟩
        · obtain ⟨r13, u13, qa8, qb8⟩ := dt_Mo_meaning h
          replace h := qb8 _ h
          obtain ⟨w9_0, w9_1, qa9, qb9⟩ := dt_Mo_go_J384 h
          exact ⟨_, _, fun post q => (by unfold wp_Mo_go_J315; exact (qa0 _ ((qa1 _ ((pT c2 ((qa3 _ ((pT c4 ((pF c5 ((qa6 _ ((pF c7 ((qa8 _ ((qa9 _ (q))))))))))))))))))))), fun post h => (by unfold wp_Mo_go_J315 at h; replace h := qb0 _ h; replace h := qb1 _ h; replace h := h.1 c2; replace h := qb3 _ h; replace h := h.1 c4; replace h := h.2 c5; replace h := qb6 _ h; replace h := h.2 c7; replace h := qb8 _ h; replace h := qb9 _ h; exact h)⟩
    · obtain ⟨w5_0, w5_1, qa5, qb5⟩ := dt_Mo_go_J352 h
      exact ⟨_, _, fun post q => (by unfold wp_Mo_go_J315; exact (qa0 _ ((qa1 _ ((pT c2 ((qa3 _ ((pF c4 ((qa5 _ (q))))))))))))), fun post h => (by unfold wp_Mo_go_J315 at h; replace h := qb0 _ h; replace h := qb1 _ h; replace h := h.1 c2; replace h := qb3 _ h; replace h := h.2 c4; replace h := qb5 _ h; exact h)⟩
  · obtain ⟨w3_0, w3_1, qa3, qb3⟩ := dt_Mo_go_J352 h
    exact ⟨_, _, fun post q => (by unfold wp_Mo_go_J315; exact (qa0 _ ((qa1 _ ((pF c2 ((qa3 _ (q))))))))), fun post h => (by unfold wp_Mo_go_J315 at h; replace h := qb0 _ h; replace h := qb1 _ h; replace h := h.2 c2; replace h := qb3 _ h; exact h)⟩
set_option maxHeartbeats 2000000 in
theorem dt_Mo_go_L124 : ∀ (n9 : Nat) (z_this : T_Mo) (x1 : Int32) (K : T_Mo → Int32 → Prop) (post : Int32 → T_Mo → Prop), wp_Mo_go_L124 K post n9 z_this x1 → (∃ (w0 : T_Mo) (w1 : Int32), (∀ (K : T_Mo → Int32 → Prop) (post : Int32 → T_Mo → Prop), K w0 w1 → wp_Mo_go_L124 K post n9 z_this x1) ∧ (∀ (m9 : Nat) (K : T_Mo → Int32 → Prop) (post : Int32 → T_Mo → Prop), wp_Mo_go_L124 K post m9 z_this x1 → K w0 w1)) ∨ (∃ (w0 : Int32) (w1 : T_Mo), (∀ (K : T_Mo → Int32 → Prop) (post : Int32 → T_Mo → Prop), post w0 w1 → wp_Mo_go_L124 K post n9 z_this x1) ∧ (∀ (m9 : Nat) (K : T_Mo → Int32 → Prop) (post : Int32 → T_Mo → Prop), wp_Mo_go_L124 K post m9 z_this x1 → post w0 w1)) := by
  intro n9
  induction n9 with
  | zero => intro z_this x1 K post h; exact False.elim h
  | succ n9 ih =>
    intro z_this x1 K post h
    rw [wp_Mo_go_L124] at h
    obtain ⟨r14, u14, qa0, qb0⟩ := dt_Mo_at h
    replace h := qb0 _ h
    obtain ⟨r15, u15, qa1, qb1⟩ := dt_Mo_isLetter h
    replace h := qb1 _ h
    rcases br_el h with ⟨c2, h⟩ | ⟨c2, h⟩
    · obtain ⟨r16, u16, qa3, qb3⟩ := dt_Mo_at h
      replace h := qb3 _ h
      obtain ⟨r17, u17, qa4, qb4⟩ := dt_Mo_isDigit h
      replace h := qb4 _ h
      rcases br_el h with ⟨c5, h⟩ | ⟨c5, h⟩
      · exact Or.inl ⟨_, _, fun K post q => (by rw [wp_Mo_go_L124]; exact (qa0 _ ((qa1 _ ((pT c2 ((qa3 _ ((qa4 _ ((pT c5 (q))))))))))))), fun m9 K post h => (by cases m9 with | zero => exact False.elim h | succ m9 => (rw [wp_Mo_go_L124] at h; replace h := qb0 _ h; replace h := qb1 _ h; replace h := h.1 c2; replace h := qb3 _ h; replace h := qb4 _ h; replace h := h.1 c5; exact h))⟩
      · rcases br_el h with ⟨c6, h⟩ | ⟨c6, h⟩
        · exact Or.inl ⟨_, _, fun K post q => (by rw [wp_Mo_go_L124]; exact (qa0 _ ((qa1 _ ((pT c2 ((qa3 _ ((qa4 _ ((pF c5 ((pT c6 (q))))))))))))))), fun m9 K post h => (by cases m9 with | zero => exact False.elim h | succ m9 => (rw [wp_Mo_go_L124] at h; replace h := qb0 _ h; replace h := qb1 _ h; replace h := h.1 c2; replace h := qb3 _ h; replace h := qb4 _ h; replace h := h.2 c5; replace h := h.1 c6; exact h))⟩
        · rcases ih _ _ _ _ h with ⟨w7_0, w7_1, qa7, qb7⟩ | ⟨w7_0, w7_1, qa7, qb7⟩
          · exact Or.inl ⟨_, _, fun K post q => (by rw [wp_Mo_go_L124]; exact (qa0 _ ((qa1 _ ((pT c2 ((qa3 _ ((qa4 _ ((pF c5 ((pF c6 ((qa7 _ _ (q))))))))))))))))), fun m9 K post h => (by cases m9 with | zero => exact False.elim h | succ m9 => (rw [wp_Mo_go_L124] at h; replace h := qb0 _ h; replace h := qb1 _ h; replace h := h.1 c2; replace h := qb3 _ h; replace h := qb4 _ h; replace h := h.2 c5; replace h := h.2 c6; replace h := qb7 m9 _ _ h; exact h))⟩
          · exact Or.inr (⟨_, _, fun K post q => (by rw [wp_Mo_go_L124]; exact (qa0 _ ((qa1 _ ((pT c2 ((qa3 _ ((qa4 _ ((pF c5 ((pF c6 ((qa7 _ _ (q))))))))))))))))), fun m9 K post h => (by cases m9 with | zero => exact False.elim h | succ m9 => (rw [wp_Mo_go_L124] at h; replace h := qb0 _ h; replace h := qb1 _ h; replace h := h.1 c2; replace h := qb3 _ h; replace h := qb4 _ h; replace h := h.2 c5; replace h := h.2 c6; replace h := qb7 m9 _ _ h; exact h))⟩)
    · rcases br_el h with ⟨c3, h⟩ | ⟨c3, h⟩
      · exact Or.inl ⟨_, _, fun K post q => (by rw [wp_Mo_go_L124]; exact (qa0 _ ((qa1 _ ((pF c2 ((pT c3 (q))))))))), fun m9 K post h => (by cases m9 with | zero => exact False.elim h | succ m9 => (rw [wp_Mo_go_L124] at h; replace h := qb0 _ h; replace h := qb1 _ h; replace h := h.2 c2; replace h := h.1 c3; exact h))⟩
      · rcases ih _ _ _ _ h with ⟨w4_0, w4_1, qa4, qb4⟩ | ⟨w4_0, w4_1, qa4, qb4⟩
        · exact Or.inl ⟨_, _, fun K post q => (by rw [wp_Mo_go_L124]; exact (qa0 _ ((qa1 _ ((pF c2 ((pF c3 ((qa4 _ _ (q))))))))))), fun m9 K post h => (by cases m9 with | zero => exact False.elim h | succ m9 => (rw [wp_Mo_go_L124] at h; replace h := qb0 _ h; replace h := qb1 _ h; replace h := h.2 c2; replace h := h.2 c3; replace h := qb4 m9 _ _ h; exact h))⟩
        · exact Or.inr (⟨_, _, fun K post q => (by rw [wp_Mo_go_L124]; exact (qa0 _ ((qa1 _ ((pF c2 ((pF c3 ((qa4 _ _ (q))))))))))), fun m9 K post h => (by cases m9 with | zero => exact False.elim h | succ m9 => (rw [wp_Mo_go_L124] at h; replace h := qb0 _ h; replace h := qb1 _ h; replace h := h.2 c2; replace h := h.2 c3; replace h := qb4 m9 _ _ h; exact h))⟩)
set_option maxHeartbeats 2000000 in
theorem dt_Mo_go {z_this : T_Mo} {post : Int32 → T_Mo → Prop} (h : wp_Mo_go z_this post) : (∃ (w0 : Int32) (w1 : T_Mo), (∀ (post : Int32 → T_Mo → Prop), post w0 w1 → wp_Mo_go z_this post) ∧ (∀ (post : Int32 → T_Mo → Prop), wp_Mo_go z_this post → post w0 w1)) := by
  unfold wp_Mo_go at h
  obtain ⟨k0, h⟩ := h
  rcases dt_Mo_go_L0 k0 _ _ _ h with ⟨z_this, qa0, qb0⟩ | ⟨w0_0, w0_1, qa0, qb0⟩
  · replace h := qb0 k0 _ _ h
    obtain ⟨r5, u5, qa1, qb1⟩ := dt_Mo_at h
    replace h := qb1 _ h
    rcases br_el h with ⟨c2, h⟩ | ⟨c2, h⟩
    · exact ⟨_, _, fun post q => (by unfold wp_Mo_go; exact ⟨k0, (qa0 _ _ ((qa1 _ ((pT c2 (q))))))⟩), fun post h => (by unfold wp_Mo_go at h; obtain ⟨m0, h⟩ := h; replace h := qb0 m0 _ _ h; replace h := qb1 _ h; replace h := h.1 c2; exact h)⟩
    · obtain ⟨r6, u6, qa3, qb3⟩ := dt_Mo_isLetter h
      replace h := qb3 _ h
      rcases br_el h with ⟨c4, h⟩ | ⟨c4, h⟩
      · obtain ⟨r7, u7, qa5, qb5⟩ := dt_Mo_isDigit h
        replace h := qb5 _ h
        rcases br_el h with ⟨c6, h⟩ | ⟨c6, h⟩
        · rcases br_el h with ⟨c7, h⟩ | ⟨c7, h⟩
          · obtain ⟨w8_0, w8_1, qa8, qb8⟩ := dt_Mo_go_J265 h
            exact ⟨_, _, fun post q => (by unfold wp_Mo_go; exact ⟨k0, (qa0 _ _ ((qa1 _ ((pF c2 ((qa3 _ ((pT c4 ((qa5 _ ((pT c6 ((pT c7 ((qa8 _ (q))))))))))))))))))⟩), fun post h => (by unfold wp_Mo_go at h; obtain ⟨m0, h⟩ := h; replace h := qb0 m0 _ _ h; replace h := qb1 _ h; replace h := h.2 c2; replace h := qb3 _ h; replace h := h.1 c4; replace h := qb5 _ h; replace h := h.1 c6; replace h := h.1 c7; replace h := qb8 _ h; exact h)⟩
          · rcases br_el h with ⟨c8, h⟩ | ⟨c8, h⟩
            · obtain ⟨w9_0, w9_1, qa9, qb9⟩ := dt_Mo_go_J265 h
              exact ⟨_, _, fun post q => (by unfold wp_Mo_go; exact ⟨k0, (qa0 _ _ ((qa1 _ ((pF c2 ((qa3 _ ((pT c4 ((qa5 _ ((pT c6 ((pF c7 ((pT c8 ((qa9 _ (q))))))))))))))))))))⟩), fun post h => (by unfold wp_Mo_go at h; obtain ⟨m0, h⟩ := h; replace h := qb0 m0 _ _ h; replace h := qb1 _ h; replace h := h.2 c2; replace h := qb3 _ h; replace h := h.1 c4; replace h := qb5 _ h; replace h := h.1 c6; replace h := h.2 c7; replace h := h.1 c8; replace h := qb9 _ h; exact h)⟩
            · rcases br_el h with ⟨c9, h⟩ | ⟨c9, h⟩
              · obtain ⟨w10_0, w10_1, qa10, qb10⟩ := dt_Mo_go_J265 h
                exact ⟨_, _, fun post q => (by unfold wp_Mo_go; exact ⟨k0, (qa0 _ _ ((qa1 _ ((pF c2 ((qa3 _ ((pT c4 ((qa5 _ ((pT c6 ((pF c7 ((pF c8 ((pT c9 ((qa10 _ (q))))))))))))))))))))))⟩), fun post h => (by unfold wp_Mo_go at h; obtain ⟨m0, h⟩ := h; replace h := qb0 m0 _ _ h; replace h := qb1 _ h; replace h := h.2 c2; replace h := qb3 _ h; replace h := h.1 c4; replace h := qb5 _ h; replace h := h.1 c6; replace h := h.2 c7; replace h := h.2 c8; replace h := h.1 c9; replace h := qb10 _ h; exact h)⟩
              · rcases br_el h with ⟨c10, h⟩ | ⟨c10, h⟩
                · obtain ⟨w11_0, w11_1, qa11, qb11⟩ := dt_Mo_go_J265 h
                  exact ⟨_, _, fun post q => (by unfold wp_Mo_go; exact ⟨k0, (qa0 _ _ ((qa1 _ ((pF c2 ((qa3 _ ((pT c4 ((qa5 _ ((pT c6 ((pF c7 ((pF c8 ((pF c9 ((pT c10 ((qa11 _ (q))))))))))))))))))))))))⟩), fun post h => (by unfold wp_Mo_go at h; obtain ⟨m0, h⟩ := h; replace h := qb0 m0 _ _ h; replace h := qb1 _ h; replace h := h.2 c2; replace h := qb3 _ h; replace h := h.1 c4; replace h := qb5 _ h; replace h := h.1 c6; replace h := h.2 c7; replace h := h.2 c8; replace h := h.2 c9; replace h := h.1 c10; replace h := qb11 _ h; exact h)⟩
                · rcases br_el h with ⟨c11, h⟩ | ⟨c11, h⟩
                  · obtain ⟨w12_0, w12_1, qa12, qb12⟩ := dt_Mo_go_J265 h
                    exact ⟨_, _, fun post q => (by unfold wp_Mo_go; exact ⟨k0, (qa0 _ _ ((qa1 _ ((pF c2 ((qa3 _ ((pT c4 ((qa5 _ ((pT c6 ((pF c7 ((pF c8 ((pF c9 ((pF c10 ((pT c11 ((qa12 _ (q))))))))))))))))))))))))))⟩), fun post h => (by unfold wp_Mo_go at h; obtain ⟨m0, h⟩ := h; replace h := qb0 m0 _ _ h; replace h := qb1 _ h; replace h := h.2 c2; replace h := qb3 _ h; replace h := h.1 c4; replace h := qb5 _ h; replace h := h.1 c6; replace h := h.2 c7; replace h := h.2 c8; replace h := h.2 c9; replace h := h.2 c10; replace h := h.1 c11; replace h := qb12 _ h; exact h)⟩
                  · rcases br_el h with ⟨c12, h⟩ | ⟨c12, h⟩
                    · obtain ⟨w13_0, w13_1, qa13, qb13⟩ := dt_Mo_go_J265 h
                      exact ⟨_, _, fun post q => (by unfold wp_Mo_go; exact ⟨k0, (qa0 _ _ ((qa1 _ ((pF c2 ((qa3 _ ((pT c4 ((qa5 _ ((pT c6 ((pF c7 ((pF c8 ((pF c9 ((pF c10 ((pF c11 ((pT c12 ((qa13 _ (q))))))))))))))))))))))))))))⟩), fun post h => (by unfold wp_Mo_go at h; obtain ⟨m0, h⟩ := h; replace h := qb0 m0 _ _ h; replace h := qb1 _ h; replace h := h.2 c2; replace h := qb3 _ h; replace h := h.1 c4; replace h := qb5 _ h; replace h := h.1 c6; replace h := h.2 c7; replace h := h.2 c8; replace h := h.2 c9; replace h := h.2 c10; replace h := h.2 c11; replace h := h.1 c12; replace h := qb13 _ h; exact h)⟩
                    · rcases br_el h with ⟨c13, h⟩ | ⟨c13, h⟩
                      · obtain ⟨w14_0, w14_1, qa14, qb14⟩ := dt_Mo_go_J265 h
                        exact ⟨_, _, fun post q => (by unfold wp_Mo_go; exact ⟨k0, (qa0 _ _ ((qa1 _ ((pF c2 ((qa3 _ ((pT c4 ((qa5 _ ((pT c6 ((pF c7 ((pF c8 ((pF c9 ((pF c10 ((pF c11 ((pF c12 ((pT c13 ((qa14 _ (q))))))))))))))))))))))))))))))⟩), fun post h => (by unfold wp_Mo_go at h; obtain ⟨m0, h⟩ := h; replace h := qb0 m0 _ _ h; replace h := qb1 _ h; replace h := h.2 c2; replace h := qb3 _ h; replace h := h.1 c4; replace h := qb5 _ h; replace h := h.1 c6; replace h := h.2 c7; replace h := h.2 c8; replace h := h.2 c9; replace h := h.2 c10; replace h := h.2 c11; replace h := h.2 c12; replace h := h.1 c13; replace h := qb14 _ h; exact h)⟩
                      · rcases br_el h with ⟨c14, h⟩ | ⟨c14, h⟩
                        · obtain ⟨w15_0, w15_1, qa15, qb15⟩ := dt_Mo_go_J265 h
                          exact ⟨_, _, fun post q => (by unfold wp_Mo_go; exact ⟨k0, (qa0 _ _ ((qa1 _ ((pF c2 ((qa3 _ ((pT c4 ((qa5 _ ((pT c6 ((pF c7 ((pF c8 ((pF c9 ((pF c10 ((pF c11 ((pF c12 ((pF c13 ((pT c14 ((qa15 _ (q))))))))))))))))))))))))))))))))⟩), fun post h => (by unfold wp_Mo_go at h; obtain ⟨m0, h⟩ := h; replace h := qb0 m0 _ _ h; replace h := qb1 _ h; replace h := h.2 c2; replace h := qb3 _ h; replace h := h.1 c4; replace h := qb5 _ h; replace h := h.1 c6; replace h := h.2 c7; replace h := h.2 c8; replace h := h.2 c9; replace h := h.2 c10; replace h := h.2 c11; replace h := h.2 c12; replace h := h.2 c13; replace h := h.1 c14; replace h := qb15 _ h; exact h)⟩
                        · rcases br_el h with ⟨c15, h⟩ | ⟨c15, h⟩
                          · obtain ⟨w16_0, w16_1, qa16, qb16⟩ := dt_Mo_go_J265 h
                            exact ⟨_, _, fun post q => (by unfold wp_Mo_go; exact ⟨k0, (qa0 _ _ ((qa1 _ ((pF c2 ((qa3 _ ((pT c4 ((qa5 _ ((pT c6 ((pF c7 ((pF c8 ((pF c9 ((pF c10 ((pF c11 ((pF c12 ((pF c13 ((pF c14 ((pT c15 ((qa16 _ (q))))))))))))))))))))))))))))))))))⟩), fun post h => (by unfold wp_Mo_go at h; obtain ⟨m0, h⟩ := h; replace h := qb0 m0 _ _ h; replace h := qb1 _ h; replace h := h.2 c2; replace h := qb3 _ h; replace h := h.1 c4; replace h := qb5 _ h; replace h := h.1 c6; replace h := h.2 c7; replace h := h.2 c8; replace h := h.2 c9; replace h := h.2 c10; replace h := h.2 c11; replace h := h.2 c12; replace h := h.2 c13; replace h := h.2 c14; replace h := h.1 c15; replace h := qb16 _ h; exact h)⟩
                          · rcases br_el h with ⟨c16, h⟩ | ⟨c16, h⟩
                            · obtain ⟨w17_0, w17_1, qa17, qb17⟩ := dt_Mo_go_J265 h
                              exact ⟨_, _, fun post q => (by unfold wp_Mo_go; exact ⟨k0, (qa0 _ _ ((qa1 _ ((pF c2 ((qa3 _ ((pT c4 ((qa5 _ ((pT c6 ((pF c7 ((pF c8 ((pF c9 ((pF c10 ((pF c11 ((pF c12 ((pF c13 ((pF c14 ((pF c15 ((pT c16 ((qa17 _ (q))))))))))))))))))))))))))))))))))))⟩), fun post h => (by unfold wp_Mo_go at h; obtain ⟨m0, h⟩ := h; replace h := qb0 m0 _ _ h; replace h := qb1 _ h; replace h := h.2 c2; replace h := qb3 _ h; replace h := h.1 c4; replace h := qb5 _ h; replace h := h.1 c6; replace h := h.2 c7; replace h := h.2 c8; replace h := h.2 c9; replace h := h.2 c10; replace h := h.2 c11; replace h := h.2 c12; replace h := h.2 c13; replace h := h.2 c14; replace h := h.2 c15; replace h := h.1 c16; replace h := qb17 _ h; exact h)⟩
                            · rcases br_el h with ⟨c17, h⟩ | ⟨c17, h⟩
                              · obtain ⟨w18_0, w18_1, qa18, qb18⟩ := dt_Mo_go_J265 h
                                exact ⟨_, _, fun post q => (by unfold wp_Mo_go; exact ⟨k0, (qa0 _ _ ((qa1 _ ((pF c2 ((qa3 _ ((pT c4 ((qa5 _ ((pT c6 ((pF c7 ((pF c8 ((pF c9 ((pF c10 ((pF c11 ((pF c12 ((pF c13 ((pF c14 ((pF c15 ((pF c16 ((pT c17 ((qa18 _ (q))))))))))))))))))))))))))))))))))))))⟩), fun post h => (by unfold wp_Mo_go at h; obtain ⟨m0, h⟩ := h; replace h := qb0 m0 _ _ h; replace h := qb1 _ h; replace h := h.2 c2; replace h := qb3 _ h; replace h := h.1 c4; replace h := qb5 _ h; replace h := h.1 c6; replace h := h.2 c7; replace h := h.2 c8; replace h := h.2 c9; replace h := h.2 c10; replace h := h.2 c11; replace h := h.2 c12; replace h := h.2 c13; replace h := h.2 c14; replace h := h.2 c15; replace h := h.2 c16; replace h := h.1 c17; replace h := qb18 _ h; exact h)⟩
                              · rcases br_el h with ⟨c18, h⟩ | ⟨c18, h⟩
                                · obtain ⟨w19_0, w19_1, qa19, qb19⟩ := dt_Mo_go_J265 h
                                  exact ⟨_, _, fun post q => (by unfold wp_Mo_go; exact ⟨k0, (qa0 _ _ ((qa1 _ ((pF c2 ((qa3 _ ((pT c4 ((qa5 _ ((pT c6 ((pF c7 ((pF c8 ((pF c9 ((pF c10 ((pF c11 ((pF c12 ((pF c13 ((pF c14 ((pF c15 ((pF c16 ((pF c17 ((pT c18 ((qa19 _ (q))))))))))))))))))))))))))))))))))))))))⟩), fun post h => (by unfold wp_Mo_go at h; obtain ⟨m0, h⟩ := h; replace h := qb0 m0 _ _ h; replace h := qb1 _ h; replace h := h.2 c2; replace h := qb3 _ h; replace h := h.1 c4; replace h := qb5 _ h; replace h := h.1 c6; replace h := h.2 c7; replace h := h.2 c8; replace h := h.2 c9; replace h := h.2 c10; replace h := h.2 c11; replace h := h.2 c12; replace h := h.2 c13; replace h := h.2 c14; replace h := h.2 c15; replace h := h.2 c16; replace h := h.2 c17; replace h := h.1 c18; replace h := qb19 _ h; exact h)⟩
                                · obtain ⟨w19_0, w19_1, qa19, qb19⟩ := dt_Mo_go_J270 h
                                  exact ⟨_, _, fun post q => (by unfold wp_Mo_go; exact ⟨k0, (qa0 _ _ ((qa1 _ ((pF c2 ((qa3 _ ((pT c4 ((qa5 _ ((pT c6 ((pF c7 ((pF c8 ((pF c9 ((pF c10 ((pF c11 ((pF c12 ((pF c13 ((pF c14 ((pF c15 ((pF c16 ((pF c17 ((pF c18 ((qa19 _ (q))))))))))))))))))))))))))))))))))))))))⟩), fun post h => (by unfold wp_Mo_go at h; obtain ⟨m0, h⟩ := h; replace h := qb0 m0 _ _ h; replace h := qb1 _ h; replace h := h.2 c2; replace h := qb3 _ h; replace h := h.1 c4; replace h := qb5 _ h; replace h := h.1 c6; replace h := h.2 c7; replace h := h.2 c8; replace h := h.2 c9; replace h := h.2 c10; replace h := h.2 c11; replace h := h.2 c12; replace h := h.2 c13; replace h := h.2 c14; replace h := h.2 c15; replace h := h.2 c16; replace h := h.2 c17; replace h := h.2 c18; replace h := qb19 _ h; exact h)⟩
        · obtain ⟨r8, u8, qa7, qb7⟩ := dt_Mo_digits h
          replace h := qb7 _ h
          obtain ⟨w8_0, w8_1, qa8, qb8⟩ := dt_Mo_go_J315 h
          exact ⟨_, _, fun post q => (by unfold wp_Mo_go; exact ⟨k0, (qa0 _ _ ((qa1 _ ((pF c2 ((qa3 _ ((pT c4 ((qa5 _ ((pF c6 ((qa7 _ ((qa8 _ (q))))))))))))))))))⟩), fun post h => (by unfold wp_Mo_go at h; obtain ⟨m0, h⟩ := h; replace h := qb0 m0 _ _ h; replace h := qb1 _ h; replace h := h.2 c2; replace h := qb3 _ h; replace h := h.1 c4; replace h := qb5 _ h; replace h := h.2 c6; replace h := qb7 _ h; replace h := qb8 _ h; exact h)⟩
      · obtain ⟨k5, h⟩ := h
        rcases dt_Mo_go_L124 k5 _ _ _ _ h with ⟨z_this, x1, qa5, qb5⟩ | ⟨w5_0, w5_1, qa5, qb5⟩
        · replace h := qb5 k5 _ _ h
          obtain ⟨w6_0, w6_1, qa6, qb6⟩ := dt_Mo_go_J315 h
          exact ⟨_, _, fun post q => (by unfold wp_Mo_go; exact ⟨k0, (qa0 _ _ ((qa1 _ ((pF c2 ((qa3 _ ((pF c4 (⟨k5, (qa5 _ _ ((qa6 _ (q))))⟩))))))))))⟩), fun post h => (by unfold wp_Mo_go at h; obtain ⟨m0, h⟩ := h; replace h := qb0 m0 _ _ h; replace h := qb1 _ h; replace h := h.2 c2; replace h := qb3 _ h; replace h := h.2 c4; obtain ⟨m5, h⟩ := h; replace h := qb5 m5 _ _ h; replace h := qb6 _ h; exact h)⟩
        · exact ⟨_, _, fun post q => (by unfold wp_Mo_go; exact ⟨k0, (qa0 _ _ ((qa1 _ ((pF c2 ((qa3 _ ((pF c4 (⟨k5, (qa5 _ _ (q))⟩))))))))))⟩), fun post h => (by unfold wp_Mo_go at h; obtain ⟨m0, h⟩ := h; replace h := qb0 m0 _ _ h; replace h := qb1 _ h; replace h := h.2 c2; replace h := qb3 _ h; replace h := h.2 c4; obtain ⟨m5, h⟩ := h; replace h := qb5 m5 _ _ h; exact h)⟩
  · exact ⟨_, _, fun post q => (by unfold wp_Mo_go; exact ⟨k0, (qa0 _ _ (q))⟩), fun post h => (by unfold wp_Mo_go at h; obtain ⟨m0, h⟩ := h; replace h := qb0 m0 _ _ h; exact h)⟩
set_option maxHeartbeats 2000000 in
theorem dt_Mo_bad {z_this : T_Mo} {post : Int32 → T_Mo → Prop} (h : wp_Mo_bad z_this post) : (∃ (w0 : Int32) (w1 : T_Mo), (∀ (post : Int32 → T_Mo → Prop), post w0 w1 → wp_Mo_bad z_this post) ∧ (∀ (post : Int32 → T_Mo → Prop), wp_Mo_bad z_this post → post w0 w1)) := by
  unfold wp_Mo_bad at h
  exact ⟨_, _, fun post q => (by unfold wp_Mo_bad; exact q), fun post h => (by unfold wp_Mo_bad at h; exact h)⟩
set_option maxHeartbeats 2000000 in
theorem dt_Mo_over {z_this : T_Mo} {a1 : Int32} {post : Int32 → T_Mo → Prop} (h : wp_Mo_over z_this a1 post) : (∃ (w0 : Int32) (w1 : T_Mo), (∀ (post : Int32 → T_Mo → Prop), post w0 w1 → wp_Mo_over z_this a1 post) ∧ (∀ (post : Int32 → T_Mo → Prop), wp_Mo_over z_this a1 post → post w0 w1)) := by
  unfold wp_Mo_over at h
  rcases br_el h with ⟨c0, h⟩ | ⟨c0, h⟩
  · obtain ⟨r1, u1, qa1, qb1⟩ := dt_Mo_go h
    replace h := qb1 _ h
    obtain ⟨s2, h⟩ := h
    exact ⟨_, _, fun post q => (by unfold wp_Mo_over; exact (pT c0 ((qa1 _ (⟨s2, q⟩))))), fun post h => (by unfold wp_Mo_over at h; replace h := h.1 c0; replace h := qb1 _ h; replace h := h.2; exact h)⟩
  · exact ⟨_, _, fun post q => (by unfold wp_Mo_over; exact (pF c0 (q))), fun post h => (by unfold wp_Mo_over at h; replace h := h.2 c0; exact h)⟩
set_option maxHeartbeats 2000000 in
theorem dt_Mo_isWord {z_this : T_Mo} {a1 : Int32} {post : Int32 → Unit → Prop} (h : wp_Mo_isWord z_this a1 post) : (∃ (w0 : Int32) (w1 : Unit), (∀ (post : Int32 → Unit → Prop), post w0 w1 → wp_Mo_isWord z_this a1 post) ∧ (∀ (post : Int32 → Unit → Prop), wp_Mo_isWord z_this a1 post → post w0 w1)) := by
  unfold wp_Mo_isWord at h
  rcases br_el h with ⟨c0, h⟩ | ⟨c0, h⟩
  · exact ⟨_, _, fun post q => (by unfold wp_Mo_isWord; exact (pT c0 (q))), fun post h => (by unfold wp_Mo_isWord at h; replace h := h.1 c0; exact h)⟩
  · exact ⟨_, _, fun post q => (by unfold wp_Mo_isWord; exact (pF c0 (q))), fun post h => (by unfold wp_Mo_isWord at h; replace h := h.2 c0; exact h)⟩
set_option maxHeartbeats 2000000 in
theorem dt_Mo_unitWord0_J27 {z_this : T_Mo} {x1 : Int32} {y0 : Int32} {post : Int32 → Unit → Prop} (h : wp_Mo_unitWord0_J27 z_this post x1 y0) : (∃ (w0 : Int32) (w1 : Unit), (∀ (post : Int32 → Unit → Prop), post w0 w1 → wp_Mo_unitWord0_J27 z_this post x1 y0) ∧ (∀ (post : Int32 → Unit → Prop), wp_Mo_unitWord0_J27 z_this post x1 y0 → post w0 w1)) := by
  unfold wp_Mo_unitWord0_J27 at h
  exact ⟨_, _, fun post q => (by unfold wp_Mo_unitWord0_J27; exact q), fun post h => (by unfold wp_Mo_unitWord0_J27 at h; exact h)⟩
set_option maxHeartbeats 2000000 in
theorem dt_Mo_unitWord0_J26 {z_this : T_Mo} {x1 : Int32} {post : Int32 → Unit → Prop} (h : wp_Mo_unitWord0_J26 z_this post x1) : (∃ (w0 : Int32) (w1 : Unit), (∀ (post : Int32 → Unit → Prop), post w0 w1 → wp_Mo_unitWord0_J26 z_this post x1) ∧ (∀ (post : Int32 → Unit → Prop), wp_Mo_unitWord0_J26 z_this post x1 → post w0 w1)) := by
  unfold wp_Mo_unitWord0_J26 at h
  obtain ⟨w0_0, w0_1, qa0, qb0⟩ := dt_Mo_unitWord0_J27 h
  exact ⟨_, _, fun post q => (by unfold wp_Mo_unitWord0_J26; exact (qa0 _ (q))), fun post h => (by unfold wp_Mo_unitWord0_J26 at h; replace h := qb0 _ h; exact h)⟩
set_option maxHeartbeats 2000000 in
theorem dt_Mo_unitWord0 {z_this : T_Mo} {post : Int32 → Unit → Prop} (h : wp_Mo_unitWord0 z_this post) : (∃ (w0 : Int32) (w1 : Unit), (∀ (post : Int32 → Unit → Prop), post w0 w1 → wp_Mo_unitWord0 z_this post) ∧ (∀ (post : Int32 → Unit → Prop), wp_Mo_unitWord0 z_this post → post w0 w1)) := by
  unfold wp_Mo_unitWord0 at h
  rcases br_el h with ⟨c0, h⟩ | ⟨c0, h⟩
  · obtain ⟨w1_0, w1_1, qa1, qb1⟩ := dt_Mo_unitWord0_J26 h
    exact ⟨_, _, fun post q => (by unfold wp_Mo_unitWord0; exact (pT c0 ((qa1 _ (q))))), fun post h => (by unfold wp_Mo_unitWord0 at h; replace h := h.1 c0; replace h := qb1 _ h; exact h)⟩
  · rcases br_el h with ⟨c1, h⟩ | ⟨c1, h⟩
    · obtain ⟨w2_0, w2_1, qa2, qb2⟩ := dt_Mo_unitWord0_J26 h
      exact ⟨_, _, fun post q => (by unfold wp_Mo_unitWord0; exact (pF c0 ((pT c1 ((qa2 _ (q))))))), fun post h => (by unfold wp_Mo_unitWord0 at h; replace h := h.2 c0; replace h := h.1 c1; replace h := qb2 _ h; exact h)⟩
    · obtain ⟨w2_0, w2_1, qa2, qb2⟩ := dt_Mo_unitWord0_J27 h
      exact ⟨_, _, fun post q => (by unfold wp_Mo_unitWord0; exact (pF c0 ((pF c1 ((qa2 _ (q))))))), fun post h => (by unfold wp_Mo_unitWord0 at h; replace h := h.2 c0; replace h := h.2 c1; replace h := qb2 _ h; exact h)⟩
set_option maxHeartbeats 2000000 in
theorem dt_Mo_base {z_this : T_Mo} {post : Int32 → Unit → Prop} (h : wp_Mo_base z_this post) : (∃ (w0 : Int32) (w1 : Unit), (∀ (post : Int32 → Unit → Prop), post w0 w1 → wp_Mo_base z_this post) ∧ (∀ (post : Int32 → Unit → Prop), wp_Mo_base z_this post → post w0 w1)) := by
  unfold wp_Mo_base at h
  exact ⟨_, _, fun post q => (by unfold wp_Mo_base; exact q), fun post h => (by unfold wp_Mo_base at h; exact h)⟩
set_option maxHeartbeats 2000000 in
theorem dt_Mo_node0_L89 : ∀ (n9 : Nat) (z_this : T_Mo) (x1 : Int32) (x2 : Int64) (x4 : Int32) (x5 : Int32) (x6 : Int32) (x7 : Int32) (x8 : Int32) (K : T_Mo → Int32 → Int64 → Int32 → Int32 → Int32 → Int32 → Int32 → Prop) (post : Int32 → T_Mo → Prop), wp_Mo_node0_L89 K post n9 z_this x1 x2 x4 x5 x6 x7 x8 → (∃ (w0 : T_Mo) (w1 : Int32) (w2 : Int64) (w3 : Int32) (w4 : Int32) (w5 : Int32) (w6 : Int32) (w7 : Int32), (∀ (K : T_Mo → Int32 → Int64 → Int32 → Int32 → Int32 → Int32 → Int32 → Prop) (post : Int32 → T_Mo → Prop), K w0 w1 w2 w3 w4 w5 w6 w7 → wp_Mo_node0_L89 K post n9 z_this x1 x2 x4 x5 x6 x7 x8) ∧ (∀ (m9 : Nat) (K : T_Mo → Int32 → Int64 → Int32 → Int32 → Int32 → Int32 → Int32 → Prop) (post : Int32 → T_Mo → Prop), wp_Mo_node0_L89 K post m9 z_this x1 x2 x4 x5 x6 x7 x8 → K w0 w1 w2 w3 w4 w5 w6 w7)) ∨ (∃ (w0 : Int32) (w1 : T_Mo), (∀ (K : T_Mo → Int32 → Int64 → Int32 → Int32 → Int32 → Int32 → Int32 → Prop) (post : Int32 → T_Mo → Prop), post w0 w1 → wp_Mo_node0_L89 K post n9 z_this x1 x2 x4 x5 x6 x7 x8) ∧ (∀ (m9 : Nat) (K : T_Mo → Int32 → Int64 → Int32 → Int32 → Int32 → Int32 → Int32 → Prop) (post : Int32 → T_Mo → Prop), wp_Mo_node0_L89 K post m9 z_this x1 x2 x4 x5 x6 x7 x8 → post w0 w1)) := by
  intro n9
  induction n9 with
  | zero => intro z_this x1 x2 x4 x5 x6 x7 x8 K post h; exact False.elim h
  | succ n9 ih =>
    intro z_this x1 x2 x4 x5 x6 x7 x8 K post h
    rw [wp_Mo_node0_L89] at h
    rcases br_el h with ⟨c0, h⟩ | ⟨c0, h⟩
    · exact Or.inl ⟨_, _, _, _, _, _, _, _, fun K post q => (by rw [wp_Mo_node0_L89]; exact (pT c0 (q))), fun m9 K post h => (by cases m9 with | zero => exact False.elim h | succ m9 => (rw [wp_Mo_node0_L89] at h; replace h := h.1 c0; exact h))⟩
    · obtain ⟨r2, u2, qa1, qb1⟩ := dt_Mo_base h
      replace h := qb1 _ h
      obtain ⟨s2, h⟩ := h
      obtain ⟨s3, h⟩ := h
      rcases ih _ _ _ _ _ _ _ _ _ _ h with ⟨w4_0, w4_1, w4_2, w4_3, w4_4, w4_5, w4_6, w4_7, qa4, qb4⟩ | ⟨w4_0, w4_1, qa4, qb4⟩
      · exact Or.inl ⟨_, _, _, _, _, _, _, _, fun K post q => (by rw [wp_Mo_node0_L89]; exact (pF c0 ((qa1 _ (⟨s2, ⟨s3, (qa4 _ _ (q))⟩⟩))))), fun m9 K post h => (by cases m9 with | zero => exact False.elim h | succ m9 => (rw [wp_Mo_node0_L89] at h; replace h := h.2 c0; replace h := qb1 _ h; replace h := h.2; replace h := h.2; replace h := qb4 m9 _ _ h; exact h))⟩
      · exact Or.inr (⟨_, _, fun K post q => (by rw [wp_Mo_node0_L89]; exact (pF c0 ((qa1 _ (⟨s2, ⟨s3, (qa4 _ _ (q))⟩⟩))))), fun m9 K post h => (by cases m9 with | zero => exact False.elim h | succ m9 => (rw [wp_Mo_node0_L89] at h; replace h := h.2 c0; replace h := qb1 _ h; replace h := h.2; replace h := h.2; replace h := qb4 m9 _ _ h; exact h))⟩)
set_option maxHeartbeats 2000000 in
theorem dt_Mo_node0 {z_this : T_Mo} {a1 : Int32} {a2 : Int64} {a4 : Int32} {a5 : Int32} {a6 : Int32} {post : Int32 → T_Mo → Prop} (h : wp_Mo_node0 z_this a1 a2 a4 a5 a6 post) : (∃ (w0 : Int32) (w1 : T_Mo), (∀ (post : Int32 → T_Mo → Prop), post w0 w1 → wp_Mo_node0 z_this a1 a2 a4 a5 a6 post) ∧ (∀ (post : Int32 → T_Mo → Prop), wp_Mo_node0 z_this a1 a2 a4 a5 a6 post → post w0 w1)) := by
  unfold wp_Mo_node0 at h
  rcases br_el h with ⟨c0, h⟩ | ⟨c0, h⟩
  · obtain ⟨r3, u3, qa1, qb1⟩ := dt_Mo_bad h
    replace h := qb1 _ h
    exact ⟨_, _, fun post q => (by unfold wp_Mo_node0; exact (pT c0 ((qa1 _ (q))))), fun post h => (by unfold wp_Mo_node0 at h; replace h := h.1 c0; replace h := qb1 _ h; exact h)⟩
  · obtain ⟨r1, u1, qa1, qb1⟩ := dt_Mo_base h
    replace h := qb1 _ h
    obtain ⟨s2, h⟩ := h
    obtain ⟨s3, h⟩ := h
    obtain ⟨s4, h⟩ := h
    obtain ⟨s5, h⟩ := h
    obtain ⟨s6, h⟩ := h
    obtain ⟨s7, h⟩ := h
    obtain ⟨k8, h⟩ := h
    rcases dt_Mo_node0_L89 k8 _ _ _ _ _ _ _ _ _ _ h with ⟨z_this, x1, x2, x4, x5, x6, x7, x8, qa8, qb8⟩ | ⟨w8_0, w8_1, qa8, qb8⟩
    · replace h := qb8 k8 _ _ h
      exact ⟨_, _, fun post q => (by unfold wp_Mo_node0; exact (pF c0 ((qa1 _ (⟨s2, ⟨s3, ⟨s4, ⟨s5, ⟨s6, ⟨s7, ⟨k8, (qa8 _ _ (q))⟩⟩⟩⟩⟩⟩⟩))))), fun post h => (by unfold wp_Mo_node0 at h; replace h := h.2 c0; replace h := qb1 _ h; replace h := h.2; replace h := h.2; replace h := h.2; replace h := h.2; replace h := h.2; replace h := h.2; obtain ⟨m8, h⟩ := h; replace h := qb8 m8 _ _ h; exact h)⟩
    · exact ⟨_, _, fun post q => (by unfold wp_Mo_node0; exact (pF c0 ((qa1 _ (⟨s2, ⟨s3, ⟨s4, ⟨s5, ⟨s6, ⟨s7, ⟨k8, (qa8 _ _ (q))⟩⟩⟩⟩⟩⟩⟩))))), fun post h => (by unfold wp_Mo_node0 at h; replace h := h.2 c0; replace h := qb1 _ h; replace h := h.2; replace h := h.2; replace h := h.2; replace h := h.2; replace h := h.2; replace h := h.2; obtain ⟨m8, h⟩ := h; replace h := qb8 m8 _ _ h; exact h)⟩
set_option maxHeartbeats 2000000 in
theorem dt_Mo_push {z_this : T_Mo} {a1 : Int32} {post : Unit → T_Mo → Prop} (h : wp_Mo_push z_this a1 post) : (∃ (w0 : Unit) (w1 : T_Mo), (∀ (post : Unit → T_Mo → Prop), post w0 w1 → wp_Mo_push z_this a1 post) ∧ (∀ (post : Unit → T_Mo → Prop), wp_Mo_push z_this a1 post → post w0 w1)) := by
  unfold wp_Mo_push at h
  obtain ⟨s0, h⟩ := h
  exact ⟨_, _, fun post q => (by unfold wp_Mo_push; exact ⟨s0, q⟩), fun post h => (by unfold wp_Mo_push at h; replace h := h.2; exact h)⟩
set_option maxHeartbeats 2000000 in
theorem dt_Mo_unitIn {z_this : T_Mo} {a1 : Int32} {post : Int32 → Unit → Prop} (h : wp_Mo_unitIn z_this a1 post) : (∃ (w0 : Int32) (w1 : Unit), (∀ (post : Int32 → Unit → Prop), post w0 w1 → wp_Mo_unitIn z_this a1 post) ∧ (∀ (post : Int32 → Unit → Prop), wp_Mo_unitIn z_this a1 post → post w0 w1)) := by
  unfold wp_Mo_unitIn at h
  obtain ⟨r1, u1, qa0, qb0⟩ := dt_Mo_base h
  replace h := qb0 _ h
  obtain ⟨s1, h⟩ := h
  exact ⟨_, _, fun post q => (by unfold wp_Mo_unitIn; exact (qa0 _ (⟨s1, q⟩))), fun post h => (by unfold wp_Mo_unitIn at h; replace h := qb0 _ h; replace h := h.2; exact h)⟩
set_option maxHeartbeats 2000000 in
theorem dt_Mo_two {z_this : T_Mo} {a1 : Int32} {a2 : Int32} {a3 : Int32} {a4 : Int32} {post : Int32 → T_Mo → Prop} (h : wp_Mo_two z_this a1 a2 a3 a4 post) : (∃ (w0 : Int32) (w1 : T_Mo), (∀ (post : Int32 → T_Mo → Prop), post w0 w1 → wp_Mo_two z_this a1 a2 a3 a4 post) ∧ (∀ (post : Int32 → T_Mo → Prop), wp_Mo_two z_this a1 a2 a3 a4 post → post w0 w1)) := by
  unfold wp_Mo_two at h
  obtain ⟨r1, u1, qa0, qb0⟩ := dt_Mo_push h
  replace h := qb0 _ h
  obtain ⟨r2, u2, qa1, qb1⟩ := dt_Mo_push h
  replace h := qb1 _ h
  obtain ⟨r3, u3, qa2, qb2⟩ := dt_Mo_base h
  replace h := qb2 _ h
  obtain ⟨s3, h⟩ := h
  obtain ⟨r4, u4, qa4, qb4⟩ := dt_Mo_node0 h
  replace h := qb4 _ h
  exact ⟨_, _, fun post q => (by unfold wp_Mo_two; exact (qa0 _ ((qa1 _ ((qa2 _ (⟨s3, (qa4 _ (q))⟩))))))), fun post h => (by unfold wp_Mo_two at h; replace h := qb0 _ h; replace h := qb1 _ h; replace h := qb2 _ h; replace h := h.2; replace h := qb4 _ h; exact h)⟩
set_option maxHeartbeats 2000000 in
theorem dt_Mo_numberNode_J101 {z_this : T_Mo} {x1 : Int32} {x2 : Int64} {x4 : Int32} {x5 : Int32} {post : Int32 → T_Mo → Prop} (h : wp_Mo_numberNode_J101 post z_this x1 x2 x4 x5) : (∃ (w0 : Int32) (w1 : T_Mo), (∀ (post : Int32 → T_Mo → Prop), post w0 w1 → wp_Mo_numberNode_J101 post z_this x1 x2 x4 x5) ∧ (∀ (post : Int32 → T_Mo → Prop), wp_Mo_numberNode_J101 post z_this x1 x2 x4 x5 → post w0 w1)) := by
  unfold wp_Mo_numberNode_J101 at h
  obtain ⟨r4, u4, qa0, qb0⟩ := dt_Mo_node0 h
  replace h := qb0 _ h
  exact ⟨_, _, fun post q => (by unfold wp_Mo_numberNode_J101; exact (qa0 _ (q))), fun post h => (by unfold wp_Mo_numberNode_J101 at h; replace h := qb0 _ h; exact h)⟩
set_option maxHeartbeats 2000000 in
theorem dt_Mo_numberNode_J87 {z_this : T_Mo} {x1 : Int32} {x2 : Int64} {x4 : Int32} {x5 : Int32} {post : Int32 → T_Mo → Prop} (h : wp_Mo_numberNode_J87 post z_this x1 x2 x4 x5) : (∃ (w0 : Int32) (w1 : T_Mo), (∀ (post : Int32 → T_Mo → Prop), post w0 w1 → wp_Mo_numberNode_J87 post z_this x1 x2 x4 x5) ∧ (∀ (post : Int32 → T_Mo → Prop), wp_Mo_numberNode_J87 post z_this x1 x2 x4 x5 → post w0 w1)) := by
  unfold wp_Mo_numberNode_J87 at h
  rcases br_el h with ⟨c0, h⟩ | ⟨c0, h⟩
  · obtain ⟨w1_0, w1_1, qa1, qb1⟩ := dt_Mo_numberNode_J101 h
    exact ⟨_, _, fun post q => (by unfold wp_Mo_numberNode_J87; exact (pT c0 ((qa1 _ (q))))), fun post h => (by unfold wp_Mo_numberNode_J87 at h; replace h := h.1 c0; replace h := qb1 _ h; exact h)⟩
  · obtain ⟨r5, u5, qa1, qb1⟩ := dt_Mo_go h
    replace h := qb1 _ h
    rcases br_el h with ⟨c2, h⟩ | ⟨c2, h⟩
    · exact ⟨_, _, fun post q => (by unfold wp_Mo_numberNode_J87; exact (pF c0 ((qa1 _ ((pT c2 (q))))))), fun post h => (by unfold wp_Mo_numberNode_J87 at h; replace h := h.2 c0; replace h := qb1 _ h; replace h := h.1 c2; exact h)⟩
    · obtain ⟨w3_0, w3_1, qa3, qb3⟩ := dt_Mo_numberNode_J101 h
      exact ⟨_, _, fun post q => (by unfold wp_Mo_numberNode_J87; exact (pF c0 ((qa1 _ ((pF c2 ((qa3 _ (q))))))))), fun post h => (by unfold wp_Mo_numberNode_J87 at h; replace h := h.2 c0; replace h := qb1 _ h; replace h := h.2 c2; replace h := qb3 _ h; exact h)⟩
set_option maxHeartbeats 2000000 in
theorem dt_Mo_numberNode_J69 {z_this : T_Mo} {x1 : Int32} {x2 : Int64} {x4 : Int32} {x5 : Int32} {y0 : Int64} {y1 : Int64} {post : Int32 → T_Mo → Prop} (h : wp_Mo_numberNode_J69 post z_this x1 x2 x4 x5 y0 y1) : (∃ (w0 : Int32) (w1 : T_Mo), (∀ (post : Int32 → T_Mo → Prop), post w0 w1 → wp_Mo_numberNode_J69 post z_this x1 x2 x4 x5 y0 y1) ∧ (∀ (post : Int32 → T_Mo → Prop), wp_Mo_numberNode_J69 post z_this x1 x2 x4 x5 y0 y1 → post w0 w1)) := by
  unfold wp_Mo_numberNode_J69 at h
  rcases br_el h with ⟨c0, h⟩ | ⟨c0, h⟩
  · obtain ⟨w1_0, w1_1, qa1, qb1⟩ := dt_Mo_numberNode_J87 h
    exact ⟨_, _, fun post q => (by unfold wp_Mo_numberNode_J69; exact (pT c0 ((qa1 _ (q))))), fun post h => (by unfold wp_Mo_numberNode_J69 at h; replace h := h.1 c0; replace h := qb1 _ h; exact h)⟩
  · obtain ⟨r7, u7, qa1, qb1⟩ := dt_Mo_bad h
    replace h := qb1 _ h
    exact ⟨_, _, fun post q => (by unfold wp_Mo_numberNode_J69; exact (pF c0 ((qa1 _ (q))))), fun post h => (by unfold wp_Mo_numberNode_J69 at h; replace h := h.2 c0; replace h := qb1 _ h; exact h)⟩
set_option maxHeartbeats 2000000 in
theorem dt_Mo_numberNode_J43 {z_this : T_Mo} {x1 : Int32} {x2 : Int64} {x4 : Int32} {y0 : Int32} {post : Int32 → T_Mo → Prop} (h : wp_Mo_numberNode_J43 post z_this x1 x2 x4 y0) : (∃ (w0 : Int32) (w1 : T_Mo), (∀ (post : Int32 → T_Mo → Prop), post w0 w1 → wp_Mo_numberNode_J43 post z_this x1 x2 x4 y0) ∧ (∀ (post : Int32 → T_Mo → Prop), wp_Mo_numberNode_J43 post z_this x1 x2 x4 y0 → post w0 w1)) := by
  unfold wp_Mo_numberNode_J43 at h
  rcases br_el h with ⟨c0, h⟩ | ⟨c0, h⟩
  · obtain ⟨w1_0, w1_1, qa1, qb1⟩ := dt_Mo_numberNode_J87 h
    exact ⟨_, _, fun post q => (by unfold wp_Mo_numberNode_J43; exact (pT c0 ((qa1 _ (q))))), fun post h => (by unfold wp_Mo_numberNode_J43 at h; replace h := h.1 c0; replace h := qb1 _ h; exact h)⟩
  · obtain ⟨r6, u6, qa1, qb1⟩ := dt_Mo_isWord h
    replace h := qb1 _ h
    rcases br_el h with ⟨c2, h⟩ | ⟨c2, h⟩
    · obtain ⟨w3_0, w3_1, qa3, qb3⟩ := dt_Mo_numberNode_J69 h
      exact ⟨_, _, fun post q => (by unfold wp_Mo_numberNode_J43; exact (pF c0 ((qa1 _ ((pT c2 ((qa3 _ (q))))))))), fun post h => (by unfold wp_Mo_numberNode_J43 at h; replace h := h.2 c0; replace h := qb1 _ h; replace h := h.1 c2; replace h := qb3 _ h; exact h)⟩
    · obtain ⟨w3_0, w3_1, qa3, qb3⟩ := dt_Mo_numberNode_J69 h
      exact ⟨_, _, fun post q => (by unfold wp_Mo_numberNode_J43; exact (pF c0 ((qa1 _ ((pF c2 ((qa3 _ (q))))))))), fun post h => (by unfold wp_Mo_numberNode_J43 at h; replace h := h.2 c0; replace h := qb1 _ h; replace h := h.2 c2; replace h := qb3 _ h; exact h)⟩
set_option maxHeartbeats 2000000 in
theorem dt_Mo_numberNode_J38 {z_this : T_Mo} {x1 : Int32} {x2 : Int64} {x4 : Int32} {post : Int32 → T_Mo → Prop} (h : wp_Mo_numberNode_J38 post z_this x1 x2 x4) : (∃ (w0 : Int32) (w1 : T_Mo), (∀ (post : Int32 → T_Mo → Prop), post w0 w1 → wp_Mo_numberNode_J38 post z_this x1 x2 x4) ∧ (∀ (post : Int32 → T_Mo → Prop), wp_Mo_numberNode_J38 post z_this x1 x2 x4 → post w0 w1)) := by
  unfold wp_Mo_numberNode_J38 at h
  obtain ⟨w0_0, w0_1, qa0, qb0⟩ := dt_Mo_numberNode_J43 h
  exact ⟨_, _, fun post q => (by unfold wp_Mo_numberNode_J38; exact (qa0 _ (q))), fun post h => (by unfold wp_Mo_numberNode_J38 at h; replace h := qb0 _ h; exact h)⟩
set_option maxHeartbeats 2000000 in
theorem dt_Mo_numberNode {z_this : T_Mo} {a1 : Int32} {post : Int32 → T_Mo → Prop} (h : wp_Mo_numberNode z_this a1 post) : (∃ (w0 : Int32) (w1 : T_Mo), (∀ (post : Int32 → T_Mo → Prop), post w0 w1 → wp_Mo_numberNode z_this a1 post) ∧ (∀ (post : Int32 → T_Mo → Prop), wp_Mo_numberNode z_this a1 post → post w0 w1)) := by
  unfold wp_Mo_numberNode at h
  obtain ⟨r1, u1, qa0, qb0⟩ := dt_Mo_go h
  replace h := qb0 _ h
  rcases br_el h with ⟨c1, h⟩ | ⟨c1, h⟩
  · exact ⟨_, _, fun post q => (by unfold wp_Mo_numberNode; exact (qa0 _ ((pT c1 (q))))), fun post h => (by unfold wp_Mo_numberNode at h; replace h := qb0 _ h; replace h := h.1 c1; exact h)⟩
  · obtain ⟨r2, u2, qa2, qb2⟩ := dt_Mo_unitWord0 h
    replace h := qb2 _ h
    obtain ⟨r3, u3, qa3, qb3⟩ := dt_Mo_isWord h
    replace h := qb3 _ h
    rcases br_el h with ⟨c4, h⟩ | ⟨c4, h⟩
    · obtain ⟨r8, u8, qa5, qb5⟩ := dt_Mo_isWord h
      replace h := qb5 _ h
      rcases br_el h with ⟨c6, h⟩ | ⟨c6, h⟩
      · obtain ⟨w7_0, w7_1, qa7, qb7⟩ := dt_Mo_numberNode_J43 h
        exact ⟨_, _, fun post q => (by unfold wp_Mo_numberNode; exact (qa0 _ ((pF c1 ((qa2 _ ((qa3 _ ((pT c4 ((qa5 _ ((pT c6 ((qa7 _ (q))))))))))))))))), fun post h => (by unfold wp_Mo_numberNode at h; replace h := qb0 _ h; replace h := h.2 c1; replace h := qb2 _ h; replace h := qb3 _ h; replace h := h.1 c4; replace h := qb5 _ h; replace h := h.1 c6; replace h := qb7 _ h; exact h)⟩
      · obtain ⟨w7_0, w7_1, qa7, qb7⟩ := dt_Mo_numberNode_J38 h
        exact ⟨_, _, fun post q => (by unfold wp_Mo_numberNode; exact (qa0 _ ((pF c1 ((qa2 _ ((qa3 _ ((pT c4 ((qa5 _ ((pF c6 ((qa7 _ (q))))))))))))))))), fun post h => (by unfold wp_Mo_numberNode at h; replace h := qb0 _ h; replace h := h.2 c1; replace h := qb2 _ h; replace h := qb3 _ h; replace h := h.1 c4; replace h := qb5 _ h; replace h := h.2 c6; replace h := qb7 _ h; exact h)⟩
    · obtain ⟨w5_0, w5_1, qa5, qb5⟩ := dt_Mo_numberNode_J38 h
      exact ⟨_, _, fun post q => (by unfold wp_Mo_numberNode; exact (qa0 _ ((pF c1 ((qa2 _ ((qa3 _ ((pF c4 ((qa5 _ (q))))))))))))), fun post h => (by unfold wp_Mo_numberNode at h; replace h := qb0 _ h; replace h := h.2 c1; replace h := qb2 _ h; replace h := qb3 _ h; replace h := h.2 c4; replace h := qb5 _ h; exact h)⟩
set_option maxHeartbeats 2000000 in
theorem dt_Mo_nameOf_L49 {z_this : T_Mo} : ∀ (n9 : Nat) (x1 : Int32) (x2 : Int32) (x3 : Int32) (x4 : Int32) (K : Int32 → Int32 → Int32 → Int32 → Prop) (post : Int32 → Unit → Prop), wp_Mo_nameOf_L49 z_this K post n9 x1 x2 x3 x4 → (∃ (w0 : Int32) (w1 : Int32) (w2 : Int32) (w3 : Int32), (∀ (K : Int32 → Int32 → Int32 → Int32 → Prop) (post : Int32 → Unit → Prop), K w0 w1 w2 w3 → wp_Mo_nameOf_L49 z_this K post n9 x1 x2 x3 x4) ∧ (∀ (m9 : Nat) (K : Int32 → Int32 → Int32 → Int32 → Prop) (post : Int32 → Unit → Prop), wp_Mo_nameOf_L49 z_this K post m9 x1 x2 x3 x4 → K w0 w1 w2 w3)) ∨ (∃ (w0 : Int32) (w1 : Unit), (∀ (K : Int32 → Int32 → Int32 → Int32 → Prop) (post : Int32 → Unit → Prop), post w0 w1 → wp_Mo_nameOf_L49 z_this K post n9 x1 x2 x3 x4) ∧ (∀ (m9 : Nat) (K : Int32 → Int32 → Int32 → Int32 → Prop) (post : Int32 → Unit → Prop), wp_Mo_nameOf_L49 z_this K post m9 x1 x2 x3 x4 → post w0 w1)) := by
  intro n9
  induction n9 with
  | zero => intro x1 x2 x3 x4 K post h; exact False.elim h
  | succ n9 ih =>
    intro x1 x2 x3 x4 K post h
    rw [wp_Mo_nameOf_L49] at h
    obtain ⟨s0, h⟩ := h
    rcases br_el h with ⟨c1, h⟩ | ⟨c1, h⟩
    · exact Or.inl ⟨_, _, _, _, fun K post q => (by rw [wp_Mo_nameOf_L49]; exact ⟨s0, (pT c1 (q))⟩), fun m9 K post h => (by cases m9 with | zero => exact False.elim h | succ m9 => (rw [wp_Mo_nameOf_L49] at h; replace h := h.2; replace h := h.1 c1; exact h))⟩
    · rcases br_el h with ⟨c2, h⟩ | ⟨c2, h⟩
      · exact Or.inl ⟨_, _, _, _, fun K post q => (by rw [wp_Mo_nameOf_L49]; exact ⟨s0, (pF c1 ((pT c2 (q))))⟩), fun m9 K post h => (by cases m9 with | zero => exact False.elim h | succ m9 => (rw [wp_Mo_nameOf_L49] at h; replace h := h.2; replace h := h.2 c1; replace h := h.1 c2; exact h))⟩
      · obtain ⟨s3, h⟩ := h
        obtain ⟨s4, h⟩ := h
        rcases br_el h with ⟨c5, h⟩ | ⟨c5, h⟩
        · rcases ih _ _ _ _ _ _ h with ⟨w6_0, w6_1, w6_2, w6_3, qa6, qb6⟩ | ⟨w6_0, w6_1, qa6, qb6⟩
          · exact Or.inl ⟨_, _, _, _, fun K post q => (by rw [wp_Mo_nameOf_L49]; exact ⟨s0, (pF c1 ((pF c2 (⟨s3, ⟨s4, (pT c5 ((qa6 _ _ (q))))⟩⟩))))⟩), fun m9 K post h => (by cases m9 with | zero => exact False.elim h | succ m9 => (rw [wp_Mo_nameOf_L49] at h; replace h := h.2; replace h := h.2 c1; replace h := h.2 c2; replace h := h.2; replace h := h.2; replace h := h.1 c5; replace h := qb6 m9 _ _ h; exact h))⟩
          · exact Or.inr (⟨_, _, fun K post q => (by rw [wp_Mo_nameOf_L49]; exact ⟨s0, (pF c1 ((pF c2 (⟨s3, ⟨s4, (pT c5 ((qa6 _ _ (q))))⟩⟩))))⟩), fun m9 K post h => (by cases m9 with | zero => exact False.elim h | succ m9 => (rw [wp_Mo_nameOf_L49] at h; replace h := h.2; replace h := h.2 c1; replace h := h.2 c2; replace h := h.2; replace h := h.2; replace h := h.1 c5; replace h := qb6 m9 _ _ h; exact h))⟩)
        · rcases ih _ _ _ _ _ _ h with ⟨w6_0, w6_1, w6_2, w6_3, qa6, qb6⟩ | ⟨w6_0, w6_1, qa6, qb6⟩
          · exact Or.inl ⟨_, _, _, _, fun K post q => (by rw [wp_Mo_nameOf_L49]; exact ⟨s0, (pF c1 ((pF c2 (⟨s3, ⟨s4, (pF c5 ((qa6 _ _ (q))))⟩⟩))))⟩), fun m9 K post h => (by cases m9 with | zero => exact False.elim h | succ m9 => (rw [wp_Mo_nameOf_L49] at h; replace h := h.2; replace h := h.2 c1; replace h := h.2 c2; replace h := h.2; replace h := h.2; replace h := h.2 c5; replace h := qb6 m9 _ _ h; exact h))⟩
          · exact Or.inr (⟨_, _, fun K post q => (by rw [wp_Mo_nameOf_L49]; exact ⟨s0, (pF c1 ((pF c2 (⟨s3, ⟨s4, (pF c5 ((qa6 _ _ (q))))⟩⟩))))⟩), fun m9 K post h => (by cases m9 with | zero => exact False.elim h | succ m9 => (rw [wp_Mo_nameOf_L49] at h; replace h := h.2; replace h := h.2 c1; replace h := h.2 c2; replace h := h.2; replace h := h.2; replace h := h.2 c5; replace h := qb6 m9 _ _ h; exact h))⟩)
set_option maxHeartbeats 2000000 in
theorem dt_Mo_nameOf_L2 {z_this : T_Mo} : ∀ (n9 : Nat) (x1 : Int32) (K : Int32 → Prop) (post : Int32 → Unit → Prop), wp_Mo_nameOf_L2 z_this K post n9 x1 → (∃ (w0 : Int32), (∀ (K : Int32 → Prop) (post : Int32 → Unit → Prop), K w0 → wp_Mo_nameOf_L2 z_this K post n9 x1) ∧ (∀ (m9 : Nat) (K : Int32 → Prop) (post : Int32 → Unit → Prop), wp_Mo_nameOf_L2 z_this K post m9 x1 → K w0)) ∨ (∃ (w0 : Int32) (w1 : Unit), (∀ (K : Int32 → Prop) (post : Int32 → Unit → Prop), post w0 w1 → wp_Mo_nameOf_L2 z_this K post n9 x1) ∧ (∀ (m9 : Nat) (K : Int32 → Prop) (post : Int32 → Unit → Prop), wp_Mo_nameOf_L2 z_this K post m9 x1 → post w0 w1)) := by
  intro n9
  induction n9 with
  | zero => intro x1 K post h; exact False.elim h
  | succ n9 ih =>
    intro x1 K post h
    rw [wp_Mo_nameOf_L2] at h
    rcases br_el h with ⟨c0, h⟩ | ⟨c0, h⟩
    · exact Or.inl ⟨_, fun K post q => (by rw [wp_Mo_nameOf_L2]; exact (pT c0 (q))), fun m9 K post h => (by cases m9 with | zero => exact False.elim h | succ m9 => (rw [wp_Mo_nameOf_L2] at h; replace h := h.1 c0; exact h))⟩
    · obtain ⟨s1, h⟩ := h
      rcases br_el h with ⟨c2, h⟩ | ⟨c2, h⟩
      · obtain ⟨k3, h⟩ := h
        rcases dt_Mo_nameOf_L49 k3 _ _ _ _ _ _ h with ⟨x1, x2, x3, x4, qa3, qb3⟩ | ⟨w3_0, w3_1, qa3, qb3⟩
        · replace h := qb3 k3 _ _ h
          rcases br_el h with ⟨c4, h⟩ | ⟨c4, h⟩
          · rcases ih _ _ _ h with ⟨w5_0, qa5, qb5⟩ | ⟨w5_0, w5_1, qa5, qb5⟩
            · exact Or.inl ⟨_, fun K post q => (by rw [wp_Mo_nameOf_L2]; exact (pF c0 (⟨s1, (pT c2 (⟨k3, (qa3 _ _ ((pT c4 ((qa5 _ _ (q))))))⟩))⟩))), fun m9 K post h => (by cases m9 with | zero => exact False.elim h | succ m9 => (rw [wp_Mo_nameOf_L2] at h; replace h := h.2 c0; replace h := h.2; replace h := h.1 c2; obtain ⟨m3, h⟩ := h; replace h := qb3 m3 _ _ h; replace h := h.1 c4; replace h := qb5 m9 _ _ h; exact h))⟩
            · exact Or.inr (⟨_, _, fun K post q => (by rw [wp_Mo_nameOf_L2]; exact (pF c0 (⟨s1, (pT c2 (⟨k3, (qa3 _ _ ((pT c4 ((qa5 _ _ (q))))))⟩))⟩))), fun m9 K post h => (by cases m9 with | zero => exact False.elim h | succ m9 => (rw [wp_Mo_nameOf_L2] at h; replace h := h.2 c0; replace h := h.2; replace h := h.1 c2; obtain ⟨m3, h⟩ := h; replace h := qb3 m3 _ _ h; replace h := h.1 c4; replace h := qb5 m9 _ _ h; exact h))⟩)
          · exact Or.inr (⟨_, _, fun K post q => (by rw [wp_Mo_nameOf_L2]; exact (pF c0 (⟨s1, (pT c2 (⟨k3, (qa3 _ _ ((pF c4 (q))))⟩))⟩))), fun m9 K post h => (by cases m9 with | zero => exact False.elim h | succ m9 => (rw [wp_Mo_nameOf_L2] at h; replace h := h.2 c0; replace h := h.2; replace h := h.1 c2; obtain ⟨m3, h⟩ := h; replace h := qb3 m3 _ _ h; replace h := h.2 c4; exact h))⟩)
        · exact Or.inr (⟨_, _, fun K post q => (by rw [wp_Mo_nameOf_L2]; exact (pF c0 (⟨s1, (pT c2 (⟨k3, (qa3 _ _ (q))⟩))⟩))), fun m9 K post h => (by cases m9 with | zero => exact False.elim h | succ m9 => (rw [wp_Mo_nameOf_L2] at h; replace h := h.2 c0; replace h := h.2; replace h := h.1 c2; obtain ⟨m3, h⟩ := h; replace h := qb3 m3 _ _ h; exact h))⟩)
      · obtain ⟨k3, h⟩ := h
        rcases dt_Mo_nameOf_L49 k3 _ _ _ _ _ _ h with ⟨x1, x2, x3, x4, qa3, qb3⟩ | ⟨w3_0, w3_1, qa3, qb3⟩
        · replace h := qb3 k3 _ _ h
          rcases br_el h with ⟨c4, h⟩ | ⟨c4, h⟩
          · rcases ih _ _ _ h with ⟨w5_0, qa5, qb5⟩ | ⟨w5_0, w5_1, qa5, qb5⟩
            · exact Or.inl ⟨_, fun K post q => (by rw [wp_Mo_nameOf_L2]; exact (pF c0 (⟨s1, (pF c2 (⟨k3, (qa3 _ _ ((pT c4 ((qa5 _ _ (q))))))⟩))⟩))), fun m9 K post h => (by cases m9 with | zero => exact False.elim h | succ m9 => (rw [wp_Mo_nameOf_L2] at h; replace h := h.2 c0; replace h := h.2; replace h := h.2 c2; obtain ⟨m3, h⟩ := h; replace h := qb3 m3 _ _ h; replace h := h.1 c4; replace h := qb5 m9 _ _ h; exact h))⟩
            · exact Or.inr (⟨_, _, fun K post q => (by rw [wp_Mo_nameOf_L2]; exact (pF c0 (⟨s1, (pF c2 (⟨k3, (qa3 _ _ ((pT c4 ((qa5 _ _ (q))))))⟩))⟩))), fun m9 K post h => (by cases m9 with | zero => exact False.elim h | succ m9 => (rw [wp_Mo_nameOf_L2] at h; replace h := h.2 c0; replace h := h.2; replace h := h.2 c2; obtain ⟨m3, h⟩ := h; replace h := qb3 m3 _ _ h; replace h := h.1 c4; replace h := qb5 m9 _ _ h; exact h))⟩)
          · exact Or.inr (⟨_, _, fun K post q => (by rw [wp_Mo_nameOf_L2]; exact (pF c0 (⟨s1, (pF c2 (⟨k3, (qa3 _ _ ((pF c4 (q))))⟩))⟩))), fun m9 K post h => (by cases m9 with | zero => exact False.elim h | succ m9 => (rw [wp_Mo_nameOf_L2] at h; replace h := h.2 c0; replace h := h.2; replace h := h.2 c2; obtain ⟨m3, h⟩ := h; replace h := qb3 m3 _ _ h; replace h := h.2 c4; exact h))⟩)
        · exact Or.inr (⟨_, _, fun K post q => (by rw [wp_Mo_nameOf_L2]; exact (pF c0 (⟨s1, (pF c2 (⟨k3, (qa3 _ _ (q))⟩))⟩))), fun m9 K post h => (by cases m9 with | zero => exact False.elim h | succ m9 => (rw [wp_Mo_nameOf_L2] at h; replace h := h.2 c0; replace h := h.2; replace h := h.2 c2; obtain ⟨m3, h⟩ := h; replace h := qb3 m3 _ _ h; exact h))⟩)
set_option maxHeartbeats 2000000 in
theorem dt_Mo_nameOf {z_this : T_Mo} {post : Int32 → Unit → Prop} (h : wp_Mo_nameOf z_this post) : (∃ (w0 : Int32) (w1 : Unit), (∀ (post : Int32 → Unit → Prop), post w0 w1 → wp_Mo_nameOf z_this post) ∧ (∀ (post : Int32 → Unit → Prop), wp_Mo_nameOf z_this post → post w0 w1)) := by
  unfold wp_Mo_nameOf at h
  obtain ⟨k0, h⟩ := h
  rcases dt_Mo_nameOf_L2 k0 _ _ _ h with ⟨x1, qa0, qb0⟩ | ⟨w0_0, w0_1, qa0, qb0⟩
  · replace h := qb0 k0 _ _ h
    exact ⟨_, _, fun post q => (by unfold wp_Mo_nameOf; exact ⟨k0, (qa0 _ _ (q))⟩), fun post h => (by unfold wp_Mo_nameOf at h; obtain ⟨m0, h⟩ := h; replace h := qb0 m0 _ _ h; exact h)⟩
  · exact ⟨_, _, fun post q => (by unfold wp_Mo_nameOf; exact ⟨k0, (qa0 _ _ (q))⟩), fun post h => (by unfold wp_Mo_nameOf at h; obtain ⟨m0, h⟩ := h; replace h := qb0 m0 _ _ h; exact h)⟩
set_option maxHeartbeats 2000000 in
theorem dt_Mo_tell_J24 {z_this : T_Mo} {x1 : Int32} {post : Int32 → T_Mo → Prop} (h : wp_Mo_tell_J24 post z_this x1) : (∃ (w0 : Int32) (w1 : T_Mo), (∀ (post : Int32 → T_Mo → Prop), post w0 w1 → wp_Mo_tell_J24 post z_this x1) ∧ (∀ (post : Int32 → T_Mo → Prop), wp_Mo_tell_J24 post z_this x1 → post w0 w1)) := by
  unfold wp_Mo_tell_J24 at h
  obtain ⟨r2, u2, qa0, qb0⟩ := dt_Mo_bad h
  replace h := qb0 _ h
  exact ⟨_, _, fun post q => (by unfold wp_Mo_tell_J24; exact (qa0 _ (q))), fun post h => (by unfold wp_Mo_tell_J24 at h; replace h := qb0 _ h; exact h)⟩
set_option maxHeartbeats 2000000 in
theorem dt_Mo_tell_L49 : ∀ (n9 : Nat) (z_this : T_Mo) (x1 : Int32) (x2 : Int32) (x3 : Int32) (K : T_Mo → Int32 → Int32 → Int32 → Prop) (post : Int32 → T_Mo → Prop), wp_Mo_tell_L49 K post n9 z_this x1 x2 x3 → (∃ (w0 : T_Mo) (w1 : Int32) (w2 : Int32) (w3 : Int32), (∀ (K : T_Mo → Int32 → Int32 → Int32 → Prop) (post : Int32 → T_Mo → Prop), K w0 w1 w2 w3 → wp_Mo_tell_L49 K post n9 z_this x1 x2 x3) ∧ (∀ (m9 : Nat) (K : T_Mo → Int32 → Int32 → Int32 → Prop) (post : Int32 → T_Mo → Prop), wp_Mo_tell_L49 K post m9 z_this x1 x2 x3 → K w0 w1 w2 w3)) ∨ (∃ (w0 : Int32) (w1 : T_Mo), (∀ (K : T_Mo → Int32 → Int32 → Int32 → Prop) (post : Int32 → T_Mo → Prop), post w0 w1 → wp_Mo_tell_L49 K post n9 z_this x1 x2 x3) ∧ (∀ (m9 : Nat) (K : T_Mo → Int32 → Int32 → Int32 → Prop) (post : Int32 → T_Mo → Prop), wp_Mo_tell_L49 K post m9 z_this x1 x2 x3 → post w0 w1)) := by
  intro n9
  induction n9 with
  | zero => intro z_this x1 x2 x3 K post h; exact False.elim h
  | succ n9 ih =>
    intro z_this x1 x2 x3 K post h
    rw [wp_Mo_tell_L49] at h
    rcases br_el h with ⟨c0, h⟩ | ⟨c0, h⟩
    · exact Or.inl ⟨_, _, _, _, fun K post q => (by rw [wp_Mo_tell_L49]; exact (pT c0 (q))), fun m9 K post h => (by cases m9 with | zero => exact False.elim h | succ m9 => (rw [wp_Mo_tell_L49] at h; replace h := h.1 c0; exact h))⟩
    · obtain ⟨s1, h⟩ := h
      obtain ⟨s2, h⟩ := h
      rcases ih _ _ _ _ _ _ h with ⟨w3_0, w3_1, w3_2, w3_3, qa3, qb3⟩ | ⟨w3_0, w3_1, qa3, qb3⟩
      · exact Or.inl ⟨_, _, _, _, fun K post q => (by rw [wp_Mo_tell_L49]; exact (pF c0 (⟨s1, ⟨s2, (qa3 _ _ (q))⟩⟩))), fun m9 K post h => (by cases m9 with | zero => exact False.elim h | succ m9 => (rw [wp_Mo_tell_L49] at h; replace h := h.2 c0; replace h := h.2; replace h := h.2; replace h := qb3 m9 _ _ h; exact h))⟩
      · exact Or.inr (⟨_, _, fun K post q => (by rw [wp_Mo_tell_L49]; exact (pF c0 (⟨s1, ⟨s2, (qa3 _ _ (q))⟩⟩))), fun m9 K post h => (by cases m9 with | zero => exact False.elim h | succ m9 => (rw [wp_Mo_tell_L49] at h; replace h := h.2 c0; replace h := h.2; replace h := h.2; replace h := qb3 m9 _ _ h; exact h))⟩)
set_option maxHeartbeats 2000000 in
theorem dt_Mo_tell {z_this : T_Mo} {a1 : Int32} {post : Int32 → T_Mo → Prop} (h : wp_Mo_tell z_this a1 post) : (∃ (w0 : Int32) (w1 : T_Mo), (∀ (post : Int32 → T_Mo → Prop), post w0 w1 → wp_Mo_tell z_this a1 post) ∧ (∀ (post : Int32 → T_Mo → Prop), wp_Mo_tell z_this a1 post → post w0 w1)) := by
  unfold wp_Mo_tell at h
  obtain ⟨r1, u1, qa0, qb0⟩ := dt_Mo_isWord h
  replace h := qb0 _ h
  rcases br_el h with ⟨c1, h⟩ | ⟨c1, h⟩
  · obtain ⟨w2_0, w2_1, qa2, qb2⟩ := dt_Mo_tell_J24 h
    exact ⟨_, _, fun post q => (by unfold wp_Mo_tell; exact (qa0 _ ((pT c1 ((qa2 _ (q))))))), fun post h => (by unfold wp_Mo_tell at h; replace h := qb0 _ h; replace h := h.1 c1; replace h := qb2 _ h; exact h)⟩
  · obtain ⟨r3, u3, qa2, qb2⟩ := dt_Mo_nameOf h
    replace h := qb2 _ h
    rcases br_el h with ⟨c3, h⟩ | ⟨c3, h⟩
    · obtain ⟨w4_0, w4_1, qa4, qb4⟩ := dt_Mo_tell_J24 h
      exact ⟨_, _, fun post q => (by unfold wp_Mo_tell; exact (qa0 _ ((pF c1 ((qa2 _ ((pT c3 ((qa4 _ (q))))))))))), fun post h => (by unfold wp_Mo_tell at h; replace h := qb0 _ h; replace h := h.2 c1; replace h := qb2 _ h; replace h := h.1 c3; replace h := qb4 _ h; exact h)⟩
    · rcases br_el h with ⟨c4, h⟩ | ⟨c4, h⟩
      · obtain ⟨w5_0, w5_1, qa5, qb5⟩ := dt_Mo_tell_J24 h
        exact ⟨_, _, fun post q => (by unfold wp_Mo_tell; exact (qa0 _ ((pF c1 ((qa2 _ ((pF c3 ((pT c4 ((qa5 _ (q))))))))))))), fun post h => (by unfold wp_Mo_tell at h; replace h := qb0 _ h; replace h := h.2 c1; replace h := qb2 _ h; replace h := h.2 c3; replace h := h.1 c4; replace h := qb5 _ h; exact h)⟩
      · obtain ⟨k5, h⟩ := h
        rcases dt_Mo_tell_L49 k5 _ _ _ _ _ _ h with ⟨z_this, x1, x2, x3, qa5, qb5⟩ | ⟨w5_0, w5_1, qa5, qb5⟩
        · replace h := qb5 k5 _ _ h
          obtain ⟨s6, h⟩ := h
          obtain ⟨s7, h⟩ := h
          obtain ⟨s8, h⟩ := h
          obtain ⟨s9, h⟩ := h
          exact ⟨_, _, fun post q => (by unfold wp_Mo_tell; exact (qa0 _ ((pF c1 ((qa2 _ ((pF c3 ((pF c4 (⟨k5, (qa5 _ _ (⟨s6, ⟨s7, ⟨s8, ⟨s9, q⟩⟩⟩⟩))⟩))))))))))), fun post h => (by unfold wp_Mo_tell at h; replace h := qb0 _ h; replace h := h.2 c1; replace h := qb2 _ h; replace h := h.2 c3; replace h := h.2 c4; obtain ⟨m5, h⟩ := h; replace h := qb5 m5 _ _ h; replace h := h.2; replace h := h.2; replace h := h.2; replace h := h.2; exact h)⟩
        · exact ⟨_, _, fun post q => (by unfold wp_Mo_tell; exact (qa0 _ ((pF c1 ((qa2 _ ((pF c3 ((pF c4 (⟨k5, (qa5 _ _ (q))⟩))))))))))), fun post h => (by unfold wp_Mo_tell at h; replace h := qb0 _ h; replace h := h.2 c1; replace h := qb2 _ h; replace h := h.2 c3; replace h := h.2 c4; obtain ⟨m5, h⟩ := h; replace h := qb5 m5 _ _ h; exact h)⟩
set_option maxHeartbeats 2000000 in
theorem dt_Mo_known_J66 {z_this : T_Mo} {x1 : Int32} {x2 : Int32} {post : Int32 → T_Mo → Prop} (h : wp_Mo_known_J66 post z_this x1 x2) : (∃ (w0 : Int32) (w1 : T_Mo), (∀ (post : Int32 → T_Mo → Prop), post w0 w1 → wp_Mo_known_J66 post z_this x1 x2) ∧ (∀ (post : Int32 → T_Mo → Prop), wp_Mo_known_J66 post z_this x1 x2 → post w0 w1)) := by
  unfold wp_Mo_known_J66 at h
  obtain ⟨r2, u2, qa0, qb0⟩ := dt_Mo_bad h
  replace h := qb0 _ h
  exact ⟨_, _, fun post q => (by unfold wp_Mo_known_J66; exact (qa0 _ (q))), fun post h => (by unfold wp_Mo_known_J66 at h; replace h := qb0 _ h; exact h)⟩
set_option maxHeartbeats 2000000 in
theorem dt_Mo_known_J83 {z_this : T_Mo} {x1 : Int32} {x2 : Int32} {y0 : Int32} {post : Int32 → T_Mo → Prop} (h : wp_Mo_known_J83 post z_this x1 x2 y0) : (∃ (w0 : Int32) (w1 : T_Mo), (∀ (post : Int32 → T_Mo → Prop), post w0 w1 → wp_Mo_known_J83 post z_this x1 x2 y0) ∧ (∀ (post : Int32 → T_Mo → Prop), wp_Mo_known_J83 post z_this x1 x2 y0 → post w0 w1)) := by
  unfold wp_Mo_known_J83 at h
  exact ⟨_, _, fun post q => (by unfold wp_Mo_known_J83; exact q), fun post h => (by unfold wp_Mo_known_J83 at h; exact h)⟩
set_option maxHeartbeats 2000000 in
theorem dt_Mo_known_J71 {z_this : T_Mo} {x1 : Int32} {x2 : Int32} {post : Int32 → T_Mo → Prop} (h : wp_Mo_known_J71 post z_this x1 x2) : (∃ (w0 : Int32) (w1 : T_Mo), (∀ (post : Int32 → T_Mo → Prop), post w0 w1 → wp_Mo_known_J71 post z_this x1 x2) ∧ (∀ (post : Int32 → T_Mo → Prop), wp_Mo_known_J71 post z_this x1 x2 → post w0 w1)) := by
  unfold wp_Mo_known_J71 at h
  obtain ⟨r3, u3, qa0, qb0⟩ := dt_Mo_go h
  replace h := qb0 _ h
  rcases br_el h with ⟨c1, h⟩ | ⟨c1, h⟩
  · obtain ⟨w2_0, w2_1, qa2, qb2⟩ := dt_Mo_known_J83 h
    exact ⟨_, _, fun post q => (by unfold wp_Mo_known_J71; exact (qa0 _ ((pT c1 ((qa2 _ (q))))))), fun post h => (by unfold wp_Mo_known_J71 at h; replace h := qb0 _ h; replace h := h.1 c1; replace h := qb2 _ h; exact h)⟩
  · obtain ⟨w2_0, w2_1, qa2, qb2⟩ := dt_Mo_known_J83 h
    exact ⟨_, _, fun post q => (by unfold wp_Mo_known_J71; exact (qa0 _ ((pF c1 ((qa2 _ (q))))))), fun post h => (by unfold wp_Mo_known_J71 at h; replace h := qb0 _ h; replace h := h.2 c1; replace h := qb2 _ h; exact h)⟩
set_option maxHeartbeats 2000000 in
theorem dt_Mo_known_J16 {z_this : T_Mo} {x1 : Int32} {y0 : Int32} {post : Int32 → T_Mo → Prop} (h : wp_Mo_known_J16 post z_this x1 y0) : (∃ (w0 : Int32) (w1 : T_Mo), (∀ (post : Int32 → T_Mo → Prop), post w0 w1 → wp_Mo_known_J16 post z_this x1 y0) ∧ (∀ (post : Int32 → T_Mo → Prop), wp_Mo_known_J16 post z_this x1 y0 → post w0 w1)) := by
  unfold wp_Mo_known_J16 at h
  rcases br_el h with ⟨c0, h⟩ | ⟨c0, h⟩
  · obtain ⟨w1_0, w1_1, qa1, qb1⟩ := dt_Mo_known_J66 h
    exact ⟨_, _, fun post q => (by unfold wp_Mo_known_J16; exact (pT c0 ((qa1 _ (q))))), fun post h => (by unfold wp_Mo_known_J16 at h; replace h := h.1 c0; replace h := qb1 _ h; exact h)⟩
  · obtain ⟨s1, h⟩ := h
    rcases br_el h with ⟨c2, h⟩ | ⟨c2, h⟩
    · rcases br_el h with ⟨c3, h⟩ | ⟨c3, h⟩
      · obtain ⟨s4, h⟩ := h
        rcases br_el h with ⟨c5, h⟩ | ⟨c5, h⟩
        · obtain ⟨w6_0, w6_1, qa6, qb6⟩ := dt_Mo_known_J71 h
          exact ⟨_, _, fun post q => (by unfold wp_Mo_known_J16; exact (pF c0 (⟨s1, (pT c2 ((pT c3 (⟨s4, (pT c5 ((qa6 _ (q))))⟩))))⟩))), fun post h => (by unfold wp_Mo_known_J16 at h; replace h := h.2 c0; replace h := h.2; replace h := h.1 c2; replace h := h.1 c3; replace h := h.2; replace h := h.1 c5; replace h := qb6 _ h; exact h)⟩
        · obtain ⟨w6_0, w6_1, qa6, qb6⟩ := dt_Mo_known_J66 h
          exact ⟨_, _, fun post q => (by unfold wp_Mo_known_J16; exact (pF c0 (⟨s1, (pT c2 ((pT c3 (⟨s4, (pF c5 ((qa6 _ (q))))⟩))))⟩))), fun post h => (by unfold wp_Mo_known_J16 at h; replace h := h.2 c0; replace h := h.2; replace h := h.1 c2; replace h := h.1 c3; replace h := h.2; replace h := h.2 c5; replace h := qb6 _ h; exact h)⟩
      · obtain ⟨w4_0, w4_1, qa4, qb4⟩ := dt_Mo_known_J71 h
        exact ⟨_, _, fun post q => (by unfold wp_Mo_known_J16; exact (pF c0 (⟨s1, (pT c2 ((pF c3 ((qa4 _ (q))))))⟩))), fun post h => (by unfold wp_Mo_known_J16 at h; replace h := h.2 c0; replace h := h.2; replace h := h.1 c2; replace h := h.2 c3; replace h := qb4 _ h; exact h)⟩
    · obtain ⟨w3_0, w3_1, qa3, qb3⟩ := dt_Mo_known_J66 h
      exact ⟨_, _, fun post q => (by unfold wp_Mo_known_J16; exact (pF c0 (⟨s1, (pF c2 ((qa3 _ (q))))⟩))), fun post h => (by unfold wp_Mo_known_J16 at h; replace h := h.2 c0; replace h := h.2; replace h := h.2 c2; replace h := qb3 _ h; exact h)⟩
set_option maxHeartbeats 2000000 in
theorem dt_Mo_known {z_this : T_Mo} {a1 : Int32} {post : Int32 → T_Mo → Prop} (h : wp_Mo_known z_this a1 post) : (∃ (w0 : Int32) (w1 : T_Mo), (∀ (post : Int32 → T_Mo → Prop), post w0 w1 → wp_Mo_known z_this a1 post) ∧ (∀ (post : Int32 → T_Mo → Prop), wp_Mo_known z_this a1 post → post w0 w1)) := by
  unfold wp_Mo_known at h
  obtain ⟨r1, u1, qa0, qb0⟩ := dt_Mo_isWord h
  replace h := qb0 _ h
  rcases br_el h with ⟨c1, h⟩ | ⟨c1, h⟩
  · obtain ⟨w2_0, w2_1, qa2, qb2⟩ := dt_Mo_known_J16 h
    exact ⟨_, _, fun post q => (by unfold wp_Mo_known; exact (qa0 _ ((pT c1 ((qa2 _ (q))))))), fun post h => (by unfold wp_Mo_known at h; replace h := qb0 _ h; replace h := h.1 c1; replace h := qb2 _ h; exact h)⟩
  · obtain ⟨r4, u4, qa2, qb2⟩ := dt_Mo_nameOf h
    replace h := qb2 _ h
    obtain ⟨w3_0, w3_1, qa3, qb3⟩ := dt_Mo_known_J16 h
    exact ⟨_, _, fun post q => (by unfold wp_Mo_known; exact (qa0 _ ((pF c1 ((qa2 _ ((qa3 _ (q))))))))), fun post h => (by unfold wp_Mo_known at h; replace h := qb0 _ h; replace h := h.2 c1; replace h := qb2 _ h; replace h := qb3 _ h; exact h)⟩
set_option maxHeartbeats 2000000 in
theorem dt_Mo_pushed {z_this : T_Mo} {a1 : Int32} {post : Int32 → T_Mo → Prop} (h : wp_Mo_pushed z_this a1 post) : (∃ (w0 : Int32) (w1 : T_Mo), (∀ (post : Int32 → T_Mo → Prop), post w0 w1 → wp_Mo_pushed z_this a1 post) ∧ (∀ (post : Int32 → T_Mo → Prop), wp_Mo_pushed z_this a1 post → post w0 w1)) := by
  unfold wp_Mo_pushed at h
  rcases br_el h with ⟨c0, h⟩ | ⟨c0, h⟩
  · obtain ⟨r1, u1, qa1, qb1⟩ := dt_Mo_push h
    replace h := qb1 _ h
    exact ⟨_, _, fun post q => (by unfold wp_Mo_pushed; exact (pT c0 ((qa1 _ (q))))), fun post h => (by unfold wp_Mo_pushed at h; replace h := h.1 c0; replace h := qb1 _ h; exact h)⟩
  · exact ⟨_, _, fun post q => (by unfold wp_Mo_pushed; exact (pF c0 (q))), fun post h => (by unfold wp_Mo_pushed at h; replace h := h.2 c0; exact h)⟩
set_option maxHeartbeats 2000000 in
theorem dt_Mo_isNode {z_this : T_Mo} {a1 : Int32} {post : Int32 → Unit → Prop} (h : wp_Mo_isNode z_this a1 post) : (∃ (w0 : Int32) (w1 : Unit), (∀ (post : Int32 → Unit → Prop), post w0 w1 → wp_Mo_isNode z_this a1 post) ∧ (∀ (post : Int32 → Unit → Prop), wp_Mo_isNode z_this a1 post → post w0 w1)) := by
  unfold wp_Mo_isNode at h
  rcases br_el h with ⟨c0, h⟩ | ⟨c0, h⟩
  · exact ⟨_, _, fun post q => (by unfold wp_Mo_isNode; exact (pT c0 (q))), fun post h => (by unfold wp_Mo_isNode at h; replace h := h.1 c0; exact h)⟩
  · rcases br_el h with ⟨c1, h⟩ | ⟨c1, h⟩
    · exact ⟨_, _, fun post q => (by unfold wp_Mo_isNode; exact (pF c0 ((pT c1 (q))))), fun post h => (by unfold wp_Mo_isNode at h; replace h := h.2 c0; replace h := h.1 c1; exact h)⟩
    · exact ⟨_, _, fun post q => (by unfold wp_Mo_isNode; exact (pF c0 ((pF c1 (q))))), fun post h => (by unfold wp_Mo_isNode at h; replace h := h.2 c0; replace h := h.2 c1; exact h)⟩
set_option maxHeartbeats 2000000 in
theorem dt_Mo_node1 {z_this : T_Mo} {a1 : Int32} {post : Int32 → Unit → Prop} (h : wp_Mo_node1 z_this a1 post) : (∃ (w0 : Int32) (w1 : Unit), (∀ (post : Int32 → Unit → Prop), post w0 w1 → wp_Mo_node1 z_this a1 post) ∧ (∀ (post : Int32 → Unit → Prop), wp_Mo_node1 z_this a1 post → post w0 w1)) := by
  unfold wp_Mo_node1 at h
  exact ⟨_, _, fun post q => (by unfold wp_Mo_node1; exact q), fun post h => (by unfold wp_Mo_node1 at h; exact h)⟩
set_option maxHeartbeats 2000000 in
theorem dt_Mo_kid {z_this : T_Mo} {a1 : Int32} {a2 : Int32} {post : Int32 → Unit → Prop} (h : wp_Mo_kid z_this a1 a2 post) : (∃ (w0 : Int32) (w1 : Unit), (∀ (post : Int32 → Unit → Prop), post w0 w1 → wp_Mo_kid z_this a1 a2 post) ∧ (∀ (post : Int32 → Unit → Prop), wp_Mo_kid z_this a1 a2 post → post w0 w1)) := by
  unfold wp_Mo_kid at h
  obtain ⟨r1, u1, qa0, qb0⟩ := dt_Mo_node1 h
  replace h := qb0 _ h
  obtain ⟨s1, h⟩ := h
  obtain ⟨s2, h⟩ := h
  exact ⟨_, _, fun post q => (by unfold wp_Mo_kid; exact (qa0 _ (⟨s1, ⟨s2, q⟩⟩))), fun post h => (by unfold wp_Mo_kid at h; replace h := qb0 _ h; replace h := h.2; replace h := h.2; exact h)⟩
set_option maxHeartbeats 2000000 in
theorem dt_Mo_what {z_this : T_Mo} {a1 : Int32} {post : Int32 → Unit → Prop} (h : wp_Mo_what z_this a1 post) : (∃ (w0 : Int32) (w1 : Unit), (∀ (post : Int32 → Unit → Prop), post w0 w1 → wp_Mo_what z_this a1 post) ∧ (∀ (post : Int32 → Unit → Prop), wp_Mo_what z_this a1 post → post w0 w1)) := by
  unfold wp_Mo_what at h
  obtain ⟨r1, u1, qa0, qb0⟩ := dt_Mo_isNode h
  replace h := qb0 _ h
  rcases br_el h with ⟨c1, h⟩ | ⟨c1, h⟩
  · exact ⟨_, _, fun post q => (by unfold wp_Mo_what; exact (qa0 _ ((pT c1 (q))))), fun post h => (by unfold wp_Mo_what at h; replace h := qb0 _ h; replace h := h.1 c1; exact h)⟩
  · obtain ⟨r2, u2, qa2, qb2⟩ := dt_Mo_node1 h
    replace h := qb2 _ h
    obtain ⟨s3, h⟩ := h
    exact ⟨_, _, fun post q => (by unfold wp_Mo_what; exact (qa0 _ ((pF c1 ((qa2 _ (⟨s3, q⟩))))))), fun post h => (by unfold wp_Mo_what at h; replace h := qb0 _ h; replace h := h.2 c1; replace h := qb2 _ h; replace h := h.2; exact h)⟩
set_option maxHeartbeats 2000000 in
theorem dt_Mo_child {z_this : T_Mo} {a1 : Int32} {a2 : Int32} {post : Int32 → Unit → Prop} (h : wp_Mo_child z_this a1 a2 post) : (∃ (w0 : Int32) (w1 : Unit), (∀ (post : Int32 → Unit → Prop), post w0 w1 → wp_Mo_child z_this a1 a2 post) ∧ (∀ (post : Int32 → Unit → Prop), wp_Mo_child z_this a1 a2 post → post w0 w1)) := by
  unfold wp_Mo_child at h
  rcases br_el h with ⟨c0, h⟩ | ⟨c0, h⟩
  · rcases br_el h with ⟨c1, h⟩ | ⟨c1, h⟩
    · exact ⟨_, _, fun post q => (by unfold wp_Mo_child; exact (pT c0 ((pT c1 (q))))), fun post h => (by unfold wp_Mo_child at h; replace h := h.1 c0; replace h := h.1 c1; exact h)⟩
    · rcases br_el h with ⟨c2, h⟩ | ⟨c2, h⟩
      · exact ⟨_, _, fun post q => (by unfold wp_Mo_child; exact (pT c0 ((pF c1 ((pT c2 (q))))))), fun post h => (by unfold wp_Mo_child at h; replace h := h.1 c0; replace h := h.2 c1; replace h := h.1 c2; exact h)⟩
      · obtain ⟨s3, h⟩ := h
        exact ⟨_, _, fun post q => (by unfold wp_Mo_child; exact (pT c0 ((pF c1 ((pF c2 (⟨s3, q⟩))))))), fun post h => (by unfold wp_Mo_child at h; replace h := h.1 c0; replace h := h.2 c1; replace h := h.2 c2; replace h := h.2; exact h)⟩
  · obtain ⟨r1, u1, qa1, qb1⟩ := dt_Mo_isNode h
    replace h := qb1 _ h
    rcases br_el h with ⟨c2, h⟩ | ⟨c2, h⟩
    · exact ⟨_, _, fun post q => (by unfold wp_Mo_child; exact (pF c0 ((qa1 _ ((pT c2 (q))))))), fun post h => (by unfold wp_Mo_child at h; replace h := h.2 c0; replace h := qb1 _ h; replace h := h.1 c2; exact h)⟩
    · rcases br_el h with ⟨c3, h⟩ | ⟨c3, h⟩
      · exact ⟨_, _, fun post q => (by unfold wp_Mo_child; exact (pF c0 ((qa1 _ ((pF c2 ((pT c3 (q))))))))), fun post h => (by unfold wp_Mo_child at h; replace h := h.2 c0; replace h := qb1 _ h; replace h := h.2 c2; replace h := h.1 c3; exact h)⟩
      · obtain ⟨r2, u2, qa4, qb4⟩ := dt_Mo_node1 h
        replace h := qb4 _ h
        obtain ⟨s5, h⟩ := h
        rcases br_el h with ⟨c6, h⟩ | ⟨c6, h⟩
        · exact ⟨_, _, fun post q => (by unfold wp_Mo_child; exact (pF c0 ((qa1 _ ((pF c2 ((pF c3 ((qa4 _ (⟨s5, (pT c6 (q))⟩))))))))))), fun post h => (by unfold wp_Mo_child at h; replace h := h.2 c0; replace h := qb1 _ h; replace h := h.2 c2; replace h := h.2 c3; replace h := qb4 _ h; replace h := h.2; replace h := h.1 c6; exact h)⟩
        · obtain ⟨r3, u3, qa7, qb7⟩ := dt_Mo_kid h
          replace h := qb7 _ h
          exact ⟨_, _, fun post q => (by unfold wp_Mo_child; exact (pF c0 ((qa1 _ ((pF c2 ((pF c3 ((qa4 _ (⟨s5, (pF c6 ((qa7 _ (q))))⟩))))))))))), fun post h => (by unfold wp_Mo_child at h; replace h := h.2 c0; replace h := qb1 _ h; replace h := h.2 c2; replace h := h.2 c3; replace h := qb4 _ h; replace h := h.2; replace h := h.2 c6; replace h := qb7 _ h; exact h)⟩
set_option maxHeartbeats 2000000 in
theorem dt_Mo_line {z_this : T_Mo} {a1 : Int32} {post : Int32 → Unit → Prop} (h : wp_Mo_line z_this a1 post) : (∃ (w0 : Int32) (w1 : Unit), (∀ (post : Int32 → Unit → Prop), post w0 w1 → wp_Mo_line z_this a1 post) ∧ (∀ (post : Int32 → Unit → Prop), wp_Mo_line z_this a1 post → post w0 w1)) := by
  unfold wp_Mo_line at h
  obtain ⟨r1, u1, qa0, qb0⟩ := dt_Mo_isNode h
  replace h := qb0 _ h
  rcases br_el h with ⟨c1, h⟩ | ⟨c1, h⟩
  · exact ⟨_, _, fun post q => (by unfold wp_Mo_line; exact (qa0 _ ((pT c1 (q))))), fun post h => (by unfold wp_Mo_line at h; replace h := qb0 _ h; replace h := h.1 c1; exact h)⟩
  · obtain ⟨r2, u2, qa2, qb2⟩ := dt_Mo_node1 h
    replace h := qb2 _ h
    obtain ⟨s3, h⟩ := h
    exact ⟨_, _, fun post q => (by unfold wp_Mo_line; exact (qa0 _ ((pF c1 ((qa2 _ (⟨s3, q⟩))))))), fun post h => (by unfold wp_Mo_line at h; replace h := qb0 _ h; replace h := h.2 c1; replace h := qb2 _ h; replace h := h.2; exact h)⟩
set_option maxHeartbeats 2000000 in
theorem dt_Mo_number {z_this : T_Mo} {a1 : Int32} {a2 : Int32} {post : Int64 → Unit → Prop} (h : wp_Mo_number z_this a1 a2 post) : (∃ (w0 : Int64) (w1 : Unit), (∀ (post : Int64 → Unit → Prop), post w0 w1 → wp_Mo_number z_this a1 a2 post) ∧ (∀ (post : Int64 → Unit → Prop), wp_Mo_number z_this a1 a2 post → post w0 w1)) := by
  unfold wp_Mo_number at h
  obtain ⟨r1, u1, qa0, qb0⟩ := dt_Mo_isNode h
  replace h := qb0 _ h
  rcases br_el h with ⟨c1, h⟩ | ⟨c1, h⟩
  · exact ⟨_, _, fun post q => (by unfold wp_Mo_number; exact (qa0 _ ((pT c1 (q))))), fun post h => (by unfold wp_Mo_number at h; replace h := qb0 _ h; replace h := h.1 c1; exact h)⟩
  · rcases br_el h with ⟨c2, h⟩ | ⟨c2, h⟩
    · exact ⟨_, _, fun post q => (by unfold wp_Mo_number; exact (qa0 _ ((pF c1 ((pT c2 (q))))))), fun post h => (by unfold wp_Mo_number at h; replace h := qb0 _ h; replace h := h.2 c1; replace h := h.1 c2; exact h)⟩
    · rcases br_el h with ⟨c3, h⟩ | ⟨c3, h⟩
      · rcases br_el h with ⟨c4, h⟩ | ⟨c4, h⟩
        · obtain ⟨r3, u3, qa5, qb5⟩ := dt_Mo_node1 h
          replace h := qb5 _ h
          obtain ⟨s6, h⟩ := h
          exact ⟨_, _, fun post q => (by unfold wp_Mo_number; exact (qa0 _ ((pF c1 ((pF c2 ((pT c3 ((pT c4 ((qa5 _ (⟨s6, q⟩))))))))))))), fun post h => (by unfold wp_Mo_number at h; replace h := qb0 _ h; replace h := h.2 c1; replace h := h.2 c2; replace h := h.1 c3; replace h := h.1 c4; replace h := qb5 _ h; replace h := h.2; exact h)⟩
        · obtain ⟨r2, u2, qa5, qb5⟩ := dt_Mo_node1 h
          replace h := qb5 _ h
          obtain ⟨s6, h⟩ := h
          exact ⟨_, _, fun post q => (by unfold wp_Mo_number; exact (qa0 _ ((pF c1 ((pF c2 ((pT c3 ((pF c4 ((qa5 _ (⟨s6, q⟩))))))))))))), fun post h => (by unfold wp_Mo_number at h; replace h := qb0 _ h; replace h := h.2 c1; replace h := h.2 c2; replace h := h.1 c3; replace h := h.2 c4; replace h := qb5 _ h; replace h := h.2; exact h)⟩
      · exact ⟨_, _, fun post q => (by unfold wp_Mo_number; exact (qa0 _ ((pF c1 ((pF c2 ((pF c3 (q))))))))), fun post h => (by unfold wp_Mo_number at h; replace h := qb0 _ h; replace h := h.2 c1; replace h := h.2 c2; replace h := h.2 c3; exact h)⟩
set_option maxHeartbeats 2000000 in
theorem dt_Mo_unitOf {z_this : T_Mo} {a1 : Int32} {post : Int32 → Unit → Prop} (h : wp_Mo_unitOf z_this a1 post) : (∃ (w0 : Int32) (w1 : Unit), (∀ (post : Int32 → Unit → Prop), post w0 w1 → wp_Mo_unitOf z_this a1 post) ∧ (∀ (post : Int32 → Unit → Prop), wp_Mo_unitOf z_this a1 post → post w0 w1)) := by
  unfold wp_Mo_unitOf at h
  obtain ⟨r1, u1, qa0, qb0⟩ := dt_Mo_isNode h
  replace h := qb0 _ h
  rcases br_el h with ⟨c1, h⟩ | ⟨c1, h⟩
  · exact ⟨_, _, fun post q => (by unfold wp_Mo_unitOf; exact (qa0 _ ((pT c1 (q))))), fun post h => (by unfold wp_Mo_unitOf at h; replace h := qb0 _ h; replace h := h.1 c1; exact h)⟩
  · obtain ⟨r2, u2, qa2, qb2⟩ := dt_Mo_node1 h
    replace h := qb2 _ h
    obtain ⟨s3, h⟩ := h
    rcases br_el h with ⟨c4, h⟩ | ⟨c4, h⟩
    · exact ⟨_, _, fun post q => (by unfold wp_Mo_unitOf; exact (qa0 _ ((pF c1 ((qa2 _ (⟨s3, (pT c4 (q))⟩))))))), fun post h => (by unfold wp_Mo_unitOf at h; replace h := qb0 _ h; replace h := h.2 c1; replace h := qb2 _ h; replace h := h.2; replace h := h.1 c4; exact h)⟩
    · obtain ⟨r3, u3, qa5, qb5⟩ := dt_Mo_node1 h
      replace h := qb5 _ h
      obtain ⟨s6, h⟩ := h
      exact ⟨_, _, fun post q => (by unfold wp_Mo_unitOf; exact (qa0 _ ((pF c1 ((qa2 _ (⟨s3, (pF c4 ((qa5 _ (⟨s6, q⟩))))⟩))))))), fun post h => (by unfold wp_Mo_unitOf at h; replace h := qb0 _ h; replace h := h.2 c1; replace h := qb2 _ h; replace h := h.2; replace h := h.2 c4; replace h := qb5 _ h; replace h := h.2; exact h)⟩
set_option maxHeartbeats 2000000 in
theorem dt_Mo_bar {z_this : T_Mo} {a1 : Int32} {post : Int32 → T_Mo → Prop} (h : wp_Mo_bar z_this a1 post) : (∃ (w0 : Int32) (w1 : T_Mo), (∀ (post : Int32 → T_Mo → Prop), post w0 w1 → wp_Mo_bar z_this a1 post) ∧ (∀ (post : Int32 → T_Mo → Prop), wp_Mo_bar z_this a1 post → post w0 w1)) := by
  unfold wp_Mo_bar at h
  rcases br_el h with ⟨c0, h⟩ | ⟨c0, h⟩
  · exact ⟨_, _, fun post q => (by unfold wp_Mo_bar; exact (pT c0 (q))), fun post h => (by unfold wp_Mo_bar at h; replace h := h.1 c0; exact h)⟩
  · rcases br_el h with ⟨c1, h⟩ | ⟨c1, h⟩
    · exact ⟨_, _, fun post q => (by unfold wp_Mo_bar; exact (pF c0 ((pT c1 (q))))), fun post h => (by unfold wp_Mo_bar at h; replace h := h.2 c0; replace h := h.1 c1; exact h)⟩
    · obtain ⟨s2, h⟩ := h
      rcases br_el h with ⟨c3, h⟩ | ⟨c3, h⟩
      · obtain ⟨s4, h⟩ := h
        exact ⟨_, _, fun post q => (by unfold wp_Mo_bar; exact (pF c0 ((pF c1 (⟨s2, (pT c3 (⟨s4, q⟩))⟩))))), fun post h => (by unfold wp_Mo_bar at h; replace h := h.2 c0; replace h := h.2 c1; replace h := h.2; replace h := h.1 c3; replace h := h.2; exact h)⟩
      · exact ⟨_, _, fun post q => (by unfold wp_Mo_bar; exact (pF c0 ((pF c1 (⟨s2, (pF c3 (q))⟩))))), fun post h => (by unfold wp_Mo_bar at h; replace h := h.2 c0; replace h := h.2 c1; replace h := h.2; replace h := h.2 c3; exact h)⟩
set_option maxHeartbeats 2000000 in
theorem dt_Mo_branch_L19 {z_this : T_Mo} : ∀ (n9 : Nat) (x1 : Int32) (x2 : Int32) (x3 : Int32) (x4 : Int32) (K : Int32 → Int32 → Int32 → Int32 → Prop) (post : Int32 → Unit → Prop), wp_Mo_branch_L19 z_this K post n9 x1 x2 x3 x4 → (∃ (w0 : Int32) (w1 : Int32) (w2 : Int32) (w3 : Int32), (∀ (K : Int32 → Int32 → Int32 → Int32 → Prop) (post : Int32 → Unit → Prop), K w0 w1 w2 w3 → wp_Mo_branch_L19 z_this K post n9 x1 x2 x3 x4) ∧ (∀ (m9 : Nat) (K : Int32 → Int32 → Int32 → Int32 → Prop) (post : Int32 → Unit → Prop), wp_Mo_branch_L19 z_this K post m9 x1 x2 x3 x4 → K w0 w1 w2 w3)) ∨ (∃ (w0 : Int32) (w1 : Unit), (∀ (K : Int32 → Int32 → Int32 → Int32 → Prop) (post : Int32 → Unit → Prop), post w0 w1 → wp_Mo_branch_L19 z_this K post n9 x1 x2 x3 x4) ∧ (∀ (m9 : Nat) (K : Int32 → Int32 → Int32 → Int32 → Prop) (post : Int32 → Unit → Prop), wp_Mo_branch_L19 z_this K post m9 x1 x2 x3 x4 → post w0 w1)) := by
  intro n9
  induction n9 with
  | zero => intro x1 x2 x3 x4 K post h; exact False.elim h
  | succ n9 ih =>
    intro x1 x2 x3 x4 K post h
    rw [wp_Mo_branch_L19] at h
    obtain ⟨r2, u2, qa0, qb0⟩ := dt_Mo_node1 h
    replace h := qb0 _ h
    obtain ⟨s1, h⟩ := h
    rcases br_el h with ⟨c2, h⟩ | ⟨c2, h⟩
    · exact Or.inl ⟨_, _, _, _, fun K post q => (by rw [wp_Mo_branch_L19]; exact (qa0 _ (⟨s1, (pT c2 (q))⟩))), fun m9 K post h => (by cases m9 with | zero => exact False.elim h | succ m9 => (rw [wp_Mo_branch_L19] at h; replace h := qb0 _ h; replace h := h.2; replace h := h.1 c2; exact h))⟩
    · obtain ⟨r3, u3, qa3, qb3⟩ := dt_Mo_kid h
      replace h := qb3 _ h
      obtain ⟨r4, u4, qa4, qb4⟩ := dt_Mo_node1 h
      replace h := qb4 _ h
      obtain ⟨s5, h⟩ := h
      rcases br_el h with ⟨c6, h⟩ | ⟨c6, h⟩
      · rcases br_el h with ⟨c7, h⟩ | ⟨c7, h⟩
        · obtain ⟨r5, u5, qa8, qb8⟩ := dt_Mo_kid h
          replace h := qb8 _ h
          exact Or.inr (⟨_, _, fun K post q => (by rw [wp_Mo_branch_L19]; exact (qa0 _ (⟨s1, (pF c2 ((qa3 _ ((qa4 _ (⟨s5, (pT c6 ((pT c7 ((qa8 _ (q))))))⟩))))))⟩))), fun m9 K post h => (by cases m9 with | zero => exact False.elim h | succ m9 => (rw [wp_Mo_branch_L19] at h; replace h := qb0 _ h; replace h := h.2; replace h := h.2 c2; replace h := qb3 _ h; replace h := qb4 _ h; replace h := h.2; replace h := h.1 c6; replace h := h.1 c7; replace h := qb8 _ h; exact h))⟩)
        · rcases ih _ _ _ _ _ _ h with ⟨w8_0, w8_1, w8_2, w8_3, qa8, qb8⟩ | ⟨w8_0, w8_1, qa8, qb8⟩
          · exact Or.inl ⟨_, _, _, _, fun K post q => (by rw [wp_Mo_branch_L19]; exact (qa0 _ (⟨s1, (pF c2 ((qa3 _ ((qa4 _ (⟨s5, (pT c6 ((pF c7 ((qa8 _ _ (q))))))⟩))))))⟩))), fun m9 K post h => (by cases m9 with | zero => exact False.elim h | succ m9 => (rw [wp_Mo_branch_L19] at h; replace h := qb0 _ h; replace h := h.2; replace h := h.2 c2; replace h := qb3 _ h; replace h := qb4 _ h; replace h := h.2; replace h := h.1 c6; replace h := h.2 c7; replace h := qb8 m9 _ _ h; exact h))⟩
          · exact Or.inr (⟨_, _, fun K post q => (by rw [wp_Mo_branch_L19]; exact (qa0 _ (⟨s1, (pF c2 ((qa3 _ ((qa4 _ (⟨s5, (pT c6 ((pF c7 ((qa8 _ _ (q))))))⟩))))))⟩))), fun m9 K post h => (by cases m9 with | zero => exact False.elim h | succ m9 => (rw [wp_Mo_branch_L19] at h; replace h := qb0 _ h; replace h := h.2; replace h := h.2 c2; replace h := qb3 _ h; replace h := qb4 _ h; replace h := h.2; replace h := h.1 c6; replace h := h.2 c7; replace h := qb8 m9 _ _ h; exact h))⟩)
      · rcases ih _ _ _ _ _ _ h with ⟨w7_0, w7_1, w7_2, w7_3, qa7, qb7⟩ | ⟨w7_0, w7_1, qa7, qb7⟩
        · exact Or.inl ⟨_, _, _, _, fun K post q => (by rw [wp_Mo_branch_L19]; exact (qa0 _ (⟨s1, (pF c2 ((qa3 _ ((qa4 _ (⟨s5, (pF c6 ((qa7 _ _ (q))))⟩))))))⟩))), fun m9 K post h => (by cases m9 with | zero => exact False.elim h | succ m9 => (rw [wp_Mo_branch_L19] at h; replace h := qb0 _ h; replace h := h.2; replace h := h.2 c2; replace h := qb3 _ h; replace h := qb4 _ h; replace h := h.2; replace h := h.2 c6; replace h := qb7 m9 _ _ h; exact h))⟩
        · exact Or.inr (⟨_, _, fun K post q => (by rw [wp_Mo_branch_L19]; exact (qa0 _ (⟨s1, (pF c2 ((qa3 _ ((qa4 _ (⟨s5, (pF c6 ((qa7 _ _ (q))))⟩))))))⟩))), fun m9 K post h => (by cases m9 with | zero => exact False.elim h | succ m9 => (rw [wp_Mo_branch_L19] at h; replace h := qb0 _ h; replace h := h.2; replace h := h.2 c2; replace h := qb3 _ h; replace h := qb4 _ h; replace h := h.2; replace h := h.2 c6; replace h := qb7 m9 _ _ h; exact h))⟩)
set_option maxHeartbeats 2000000 in
theorem dt_Mo_branch {z_this : T_Mo} {a1 : Int32} {a2 : Int32} {post : Int32 → Unit → Prop} (h : wp_Mo_branch z_this a1 a2 post) : (∃ (w0 : Int32) (w1 : Unit), (∀ (post : Int32 → Unit → Prop), post w0 w1 → wp_Mo_branch z_this a1 a2 post) ∧ (∀ (post : Int32 → Unit → Prop), wp_Mo_branch z_this a1 a2 post → post w0 w1)) := by
  unfold wp_Mo_branch at h
  obtain ⟨r1, u1, qa0, qb0⟩ := dt_Mo_isNode h
  replace h := qb0 _ h
  rcases br_el h with ⟨c1, h⟩ | ⟨c1, h⟩
  · exact ⟨_, _, fun post q => (by unfold wp_Mo_branch; exact (qa0 _ ((pT c1 (q))))), fun post h => (by unfold wp_Mo_branch at h; replace h := qb0 _ h; replace h := h.1 c1; exact h)⟩
  · rcases br_el h with ⟨c2, h⟩ | ⟨c2, h⟩
    · obtain ⟨k3, h⟩ := h
      rcases dt_Mo_branch_L19 k3 _ _ _ _ _ _ h with ⟨x1, x2, x3, x4, qa3, qb3⟩ | ⟨w3_0, w3_1, qa3, qb3⟩
      · replace h := qb3 k3 _ _ h
        exact ⟨_, _, fun post q => (by unfold wp_Mo_branch; exact (qa0 _ ((pF c1 ((pT c2 (⟨k3, (qa3 _ _ (q))⟩))))))), fun post h => (by unfold wp_Mo_branch at h; replace h := qb0 _ h; replace h := h.2 c1; replace h := h.1 c2; obtain ⟨m3, h⟩ := h; replace h := qb3 m3 _ _ h; exact h)⟩
      · exact ⟨_, _, fun post q => (by unfold wp_Mo_branch; exact (qa0 _ ((pF c1 ((pT c2 (⟨k3, (qa3 _ _ (q))⟩))))))), fun post h => (by unfold wp_Mo_branch at h; replace h := qb0 _ h; replace h := h.2 c1; replace h := h.1 c2; obtain ⟨m3, h⟩ := h; replace h := qb3 m3 _ _ h; exact h)⟩
    · exact ⟨_, _, fun post q => (by unfold wp_Mo_branch; exact (qa0 _ ((pF c1 ((pF c2 (q))))))), fun post h => (by unfold wp_Mo_branch at h; replace h := qb0 _ h; replace h := h.2 c1; replace h := h.2 c2; exact h)⟩
set_option maxHeartbeats 2000000 in
theorem dt_Mo_isBehind_L4 {z_this : T_Mo} : ∀ (n9 : Nat) (x1 : Int32) (x2 : Int32) (x3 : Int32) (K : Int32 → Int32 → Int32 → Prop) (post : Int32 → Unit → Prop), wp_Mo_isBehind_L4 z_this K post n9 x1 x2 x3 → (∃ (w0 : Int32) (w1 : Int32) (w2 : Int32), (∀ (K : Int32 → Int32 → Int32 → Prop) (post : Int32 → Unit → Prop), K w0 w1 w2 → wp_Mo_isBehind_L4 z_this K post n9 x1 x2 x3) ∧ (∀ (m9 : Nat) (K : Int32 → Int32 → Int32 → Prop) (post : Int32 → Unit → Prop), wp_Mo_isBehind_L4 z_this K post m9 x1 x2 x3 → K w0 w1 w2)) ∨ (∃ (w0 : Int32) (w1 : Unit), (∀ (K : Int32 → Int32 → Int32 → Prop) (post : Int32 → Unit → Prop), post w0 w1 → wp_Mo_isBehind_L4 z_this K post n9 x1 x2 x3) ∧ (∀ (m9 : Nat) (K : Int32 → Int32 → Int32 → Prop) (post : Int32 → Unit → Prop), wp_Mo_isBehind_L4 z_this K post m9 x1 x2 x3 → post w0 w1)) := by
  intro n9
  induction n9 with
  | zero => intro x1 x2 x3 K post h; exact False.elim h
  | succ n9 ih =>
    intro x1 x2 x3 K post h
    rw [wp_Mo_isBehind_L4] at h
    rcases br_el h with ⟨c0, h⟩ | ⟨c0, h⟩
    · exact Or.inl ⟨_, _, _, fun K post q => (by rw [wp_Mo_isBehind_L4]; exact (pT c0 (q))), fun m9 K post h => (by cases m9 with | zero => exact False.elim h | succ m9 => (rw [wp_Mo_isBehind_L4] at h; replace h := h.1 c0; exact h))⟩
    · obtain ⟨s1, h⟩ := h
      rcases br_el h with ⟨c2, h⟩ | ⟨c2, h⟩
      · obtain ⟨s3, h⟩ := h
        exact Or.inr (⟨_, _, fun K post q => (by rw [wp_Mo_isBehind_L4]; exact (pF c0 (⟨s1, (pT c2 (⟨s3, q⟩))⟩))), fun m9 K post h => (by cases m9 with | zero => exact False.elim h | succ m9 => (rw [wp_Mo_isBehind_L4] at h; replace h := h.2 c0; replace h := h.2; replace h := h.1 c2; replace h := h.2; exact h))⟩)
      · rcases br_el h with ⟨c3, h⟩ | ⟨c3, h⟩
        · obtain ⟨r1, u1, qa4, qb4⟩ := dt_Mo_node1 h
          replace h := qb4 _ h
          obtain ⟨s5, h⟩ := h
          rcases br_el h with ⟨c6, h⟩ | ⟨c6, h⟩
          · rcases ih _ _ _ _ _ h with ⟨w7_0, w7_1, w7_2, qa7, qb7⟩ | ⟨w7_0, w7_1, qa7, qb7⟩
            · exact Or.inl ⟨_, _, _, fun K post q => (by rw [wp_Mo_isBehind_L4]; exact (pF c0 (⟨s1, (pF c2 ((pT c3 ((qa4 _ (⟨s5, (pT c6 ((qa7 _ _ (q))))⟩))))))⟩))), fun m9 K post h => (by cases m9 with | zero => exact False.elim h | succ m9 => (rw [wp_Mo_isBehind_L4] at h; replace h := h.2 c0; replace h := h.2; replace h := h.2 c2; replace h := h.1 c3; replace h := qb4 _ h; replace h := h.2; replace h := h.1 c6; replace h := qb7 m9 _ _ h; exact h))⟩
            · exact Or.inr (⟨_, _, fun K post q => (by rw [wp_Mo_isBehind_L4]; exact (pF c0 (⟨s1, (pF c2 ((pT c3 ((qa4 _ (⟨s5, (pT c6 ((qa7 _ _ (q))))⟩))))))⟩))), fun m9 K post h => (by cases m9 with | zero => exact False.elim h | succ m9 => (rw [wp_Mo_isBehind_L4] at h; replace h := h.2 c0; replace h := h.2; replace h := h.2 c2; replace h := h.1 c3; replace h := qb4 _ h; replace h := h.2; replace h := h.1 c6; replace h := qb7 m9 _ _ h; exact h))⟩)
          · rcases ih _ _ _ _ _ h with ⟨w7_0, w7_1, w7_2, qa7, qb7⟩ | ⟨w7_0, w7_1, qa7, qb7⟩
            · exact Or.inl ⟨_, _, _, fun K post q => (by rw [wp_Mo_isBehind_L4]; exact (pF c0 (⟨s1, (pF c2 ((pT c3 ((qa4 _ (⟨s5, (pF c6 ((qa7 _ _ (q))))⟩))))))⟩))), fun m9 K post h => (by cases m9 with | zero => exact False.elim h | succ m9 => (rw [wp_Mo_isBehind_L4] at h; replace h := h.2 c0; replace h := h.2; replace h := h.2 c2; replace h := h.1 c3; replace h := qb4 _ h; replace h := h.2; replace h := h.2 c6; replace h := qb7 m9 _ _ h; exact h))⟩
            · exact Or.inr (⟨_, _, fun K post q => (by rw [wp_Mo_isBehind_L4]; exact (pF c0 (⟨s1, (pF c2 ((pT c3 ((qa4 _ (⟨s5, (pF c6 ((qa7 _ _ (q))))⟩))))))⟩))), fun m9 K post h => (by cases m9 with | zero => exact False.elim h | succ m9 => (rw [wp_Mo_isBehind_L4] at h; replace h := h.2 c0; replace h := h.2; replace h := h.2 c2; replace h := h.1 c3; replace h := qb4 _ h; replace h := h.2; replace h := h.2 c6; replace h := qb7 m9 _ _ h; exact h))⟩)
        · rcases ih _ _ _ _ _ h with ⟨w4_0, w4_1, w4_2, qa4, qb4⟩ | ⟨w4_0, w4_1, qa4, qb4⟩
          · exact Or.inl ⟨_, _, _, fun K post q => (by rw [wp_Mo_isBehind_L4]; exact (pF c0 (⟨s1, (pF c2 ((pF c3 ((qa4 _ _ (q))))))⟩))), fun m9 K post h => (by cases m9 with | zero => exact False.elim h | succ m9 => (rw [wp_Mo_isBehind_L4] at h; replace h := h.2 c0; replace h := h.2; replace h := h.2 c2; replace h := h.2 c3; replace h := qb4 m9 _ _ h; exact h))⟩
          · exact Or.inr (⟨_, _, fun K post q => (by rw [wp_Mo_isBehind_L4]; exact (pF c0 (⟨s1, (pF c2 ((pF c3 ((qa4 _ _ (q))))))⟩))), fun m9 K post h => (by cases m9 with | zero => exact False.elim h | succ m9 => (rw [wp_Mo_isBehind_L4] at h; replace h := h.2 c0; replace h := h.2; replace h := h.2 c2; replace h := h.2 c3; replace h := qb4 m9 _ _ h; exact h))⟩)
set_option maxHeartbeats 2000000 in
theorem dt_Mo_isBehind_L84 {z_this : T_Mo} : ∀ (n9 : Nat) (x1 : Int32) (x2 : Int32) (x3 : Int32) (x4 : Int32) (K : Int32 → Int32 → Int32 → Int32 → Prop) (post : Int32 → Unit → Prop), wp_Mo_isBehind_L84 z_this K post n9 x1 x2 x3 x4 → (∃ (w0 : Int32) (w1 : Int32) (w2 : Int32) (w3 : Int32), (∀ (K : Int32 → Int32 → Int32 → Int32 → Prop) (post : Int32 → Unit → Prop), K w0 w1 w2 w3 → wp_Mo_isBehind_L84 z_this K post n9 x1 x2 x3 x4) ∧ (∀ (m9 : Nat) (K : Int32 → Int32 → Int32 → Int32 → Prop) (post : Int32 → Unit → Prop), wp_Mo_isBehind_L84 z_this K post m9 x1 x2 x3 x4 → K w0 w1 w2 w3)) ∨ (∃ (w0 : Int32) (w1 : Unit), (∀ (K : Int32 → Int32 → Int32 → Int32 → Prop) (post : Int32 → Unit → Prop), post w0 w1 → wp_Mo_isBehind_L84 z_this K post n9 x1 x2 x3 x4) ∧ (∀ (m9 : Nat) (K : Int32 → Int32 → Int32 → Int32 → Prop) (post : Int32 → Unit → Prop), wp_Mo_isBehind_L84 z_this K post m9 x1 x2 x3 x4 → post w0 w1)) := by
  intro n9
  induction n9 with
  | zero => intro x1 x2 x3 x4 K post h; exact False.elim h
  | succ n9 ih =>
    intro x1 x2 x3 x4 K post h
    rw [wp_Mo_isBehind_L84] at h
    obtain ⟨r2, u2, qa0, qb0⟩ := dt_Mo_node1 h
    replace h := qb0 _ h
    obtain ⟨s1, h⟩ := h
    rcases br_el h with ⟨c2, h⟩ | ⟨c2, h⟩
    · exact Or.inl ⟨_, _, _, _, fun K post q => (by rw [wp_Mo_isBehind_L84]; exact (qa0 _ (⟨s1, (pT c2 (q))⟩))), fun m9 K post h => (by cases m9 with | zero => exact False.elim h | succ m9 => (rw [wp_Mo_isBehind_L84] at h; replace h := qb0 _ h; replace h := h.2; replace h := h.1 c2; exact h))⟩
    · obtain ⟨r3, u3, qa3, qb3⟩ := dt_Mo_node1 h
      replace h := qb3 _ h
      obtain ⟨s4, h⟩ := h
      rcases br_el h with ⟨c5, h⟩ | ⟨c5, h⟩
      · obtain ⟨r4, u4, qa6, qb6⟩ := dt_Mo_kid h
        replace h := qb6 _ h
        rcases br_el h with ⟨c7, h⟩ | ⟨c7, h⟩
        · obtain ⟨s8, h⟩ := h
          exact Or.inr (⟨_, _, fun K post q => (by rw [wp_Mo_isBehind_L84]; exact (qa0 _ (⟨s1, (pF c2 ((qa3 _ (⟨s4, (pT c5 ((qa6 _ ((pT c7 (⟨s8, q⟩))))))⟩))))⟩))), fun m9 K post h => (by cases m9 with | zero => exact False.elim h | succ m9 => (rw [wp_Mo_isBehind_L84] at h; replace h := qb0 _ h; replace h := h.2; replace h := h.2 c2; replace h := qb3 _ h; replace h := h.2; replace h := h.1 c5; replace h := qb6 _ h; replace h := h.1 c7; replace h := h.2; exact h))⟩)
        · rcases br_el h with ⟨c8, h⟩ | ⟨c8, h⟩
          · obtain ⟨r5, u5, qa9, qb9⟩ := dt_Mo_kid h
            replace h := qb9 _ h
            obtain ⟨r6, u6, qa10, qb10⟩ := dt_Mo_node1 h
            replace h := qb10 _ h
            obtain ⟨s11, h⟩ := h
            rcases br_el h with ⟨c12, h⟩ | ⟨c12, h⟩
            · rcases ih _ _ _ _ _ _ h with ⟨w13_0, w13_1, w13_2, w13_3, qa13, qb13⟩ | ⟨w13_0, w13_1, qa13, qb13⟩
              · exact Or.inl ⟨_, _, _, _, fun K post q => (by rw [wp_Mo_isBehind_L84]; exact (qa0 _ (⟨s1, (pF c2 ((qa3 _ (⟨s4, (pT c5 ((qa6 _ ((pF c7 ((pT c8 ((qa9 _ ((qa10 _ (⟨s11, (pT c12 ((qa13 _ _ (q))))⟩))))))))))))⟩))))⟩))), fun m9 K post h => (by cases m9 with | zero => exact False.elim h | succ m9 => (rw [wp_Mo_isBehind_L84] at h; replace h := qb0 _ h; replace h := h.2; replace h := h.2 c2; replace h := qb3 _ h; replace h := h.2; replace h := h.1 c5; replace h := qb6 _ h; replace h := h.2 c7; replace h := h.1 c8; replace h := qb9 _ h; replace h := qb10 _ h; replace h := h.2; replace h := h.1 c12; replace h := qb13 m9 _ _ h; exact h))⟩
              · exact Or.inr (⟨_, _, fun K post q => (by rw [wp_Mo_isBehind_L84]; exact (qa0 _ (⟨s1, (pF c2 ((qa3 _ (⟨s4, (pT c5 ((qa6 _ ((pF c7 ((pT c8 ((qa9 _ ((qa10 _ (⟨s11, (pT c12 ((qa13 _ _ (q))))⟩))))))))))))⟩))))⟩))), fun m9 K post h => (by cases m9 with | zero => exact False.elim h | succ m9 => (rw [wp_Mo_isBehind_L84] at h; replace h := qb0 _ h; replace h := h.2; replace h := h.2 c2; replace h := qb3 _ h; replace h := h.2; replace h := h.1 c5; replace h := qb6 _ h; replace h := h.2 c7; replace h := h.1 c8; replace h := qb9 _ h; replace h := qb10 _ h; replace h := h.2; replace h := h.1 c12; replace h := qb13 m9 _ _ h; exact h))⟩)
            · rcases ih _ _ _ _ _ _ h with ⟨w13_0, w13_1, w13_2, w13_3, qa13, qb13⟩ | ⟨w13_0, w13_1, qa13, qb13⟩
              · exact Or.inl ⟨_, _, _, _, fun K post q => (by rw [wp_Mo_isBehind_L84]; exact (qa0 _ (⟨s1, (pF c2 ((qa3 _ (⟨s4, (pT c5 ((qa6 _ ((pF c7 ((pT c8 ((qa9 _ ((qa10 _ (⟨s11, (pF c12 ((qa13 _ _ (q))))⟩))))))))))))⟩))))⟩))), fun m9 K post h => (by cases m9 with | zero => exact False.elim h | succ m9 => (rw [wp_Mo_isBehind_L84] at h; replace h := qb0 _ h; replace h := h.2; replace h := h.2 c2; replace h := qb3 _ h; replace h := h.2; replace h := h.1 c5; replace h := qb6 _ h; replace h := h.2 c7; replace h := h.1 c8; replace h := qb9 _ h; replace h := qb10 _ h; replace h := h.2; replace h := h.2 c12; replace h := qb13 m9 _ _ h; exact h))⟩
              · exact Or.inr (⟨_, _, fun K post q => (by rw [wp_Mo_isBehind_L84]; exact (qa0 _ (⟨s1, (pF c2 ((qa3 _ (⟨s4, (pT c5 ((qa6 _ ((pF c7 ((pT c8 ((qa9 _ ((qa10 _ (⟨s11, (pF c12 ((qa13 _ _ (q))))⟩))))))))))))⟩))))⟩))), fun m9 K post h => (by cases m9 with | zero => exact False.elim h | succ m9 => (rw [wp_Mo_isBehind_L84] at h; replace h := qb0 _ h; replace h := h.2; replace h := h.2 c2; replace h := qb3 _ h; replace h := h.2; replace h := h.1 c5; replace h := qb6 _ h; replace h := h.2 c7; replace h := h.1 c8; replace h := qb9 _ h; replace h := qb10 _ h; replace h := h.2; replace h := h.2 c12; replace h := qb13 m9 _ _ h; exact h))⟩)
          · rcases ih _ _ _ _ _ _ h with ⟨w9_0, w9_1, w9_2, w9_3, qa9, qb9⟩ | ⟨w9_0, w9_1, qa9, qb9⟩
            · exact Or.inl ⟨_, _, _, _, fun K post q => (by rw [wp_Mo_isBehind_L84]; exact (qa0 _ (⟨s1, (pF c2 ((qa3 _ (⟨s4, (pT c5 ((qa6 _ ((pF c7 ((pF c8 ((qa9 _ _ (q))))))))))⟩))))⟩))), fun m9 K post h => (by cases m9 with | zero => exact False.elim h | succ m9 => (rw [wp_Mo_isBehind_L84] at h; replace h := qb0 _ h; replace h := h.2; replace h := h.2 c2; replace h := qb3 _ h; replace h := h.2; replace h := h.1 c5; replace h := qb6 _ h; replace h := h.2 c7; replace h := h.2 c8; replace h := qb9 m9 _ _ h; exact h))⟩
            · exact Or.inr (⟨_, _, fun K post q => (by rw [wp_Mo_isBehind_L84]; exact (qa0 _ (⟨s1, (pF c2 ((qa3 _ (⟨s4, (pT c5 ((qa6 _ ((pF c7 ((pF c8 ((qa9 _ _ (q))))))))))⟩))))⟩))), fun m9 K post h => (by cases m9 with | zero => exact False.elim h | succ m9 => (rw [wp_Mo_isBehind_L84] at h; replace h := qb0 _ h; replace h := h.2; replace h := h.2 c2; replace h := qb3 _ h; replace h := h.2; replace h := h.1 c5; replace h := qb6 _ h; replace h := h.2 c7; replace h := h.2 c8; replace h := qb9 m9 _ _ h; exact h))⟩)
      · exact Or.inl ⟨_, _, _, _, fun K post q => (by rw [wp_Mo_isBehind_L84]; exact (qa0 _ (⟨s1, (pF c2 ((qa3 _ (⟨s4, (pF c5 (q))⟩))))⟩))), fun m9 K post h => (by cases m9 with | zero => exact False.elim h | succ m9 => (rw [wp_Mo_isBehind_L84] at h; replace h := qb0 _ h; replace h := h.2; replace h := h.2 c2; replace h := qb3 _ h; replace h := h.2; replace h := h.2 c5; exact h))⟩
set_option maxHeartbeats 2000000 in
theorem dt_Mo_isBehind_L71 {z_this : T_Mo} : ∀ (n9 : Nat) (x1 : Int32) (x2 : Int32) (x3 : Int32) (K : Int32 → Int32 → Int32 → Prop) (post : Int32 → Unit → Prop), wp_Mo_isBehind_L71 z_this K post n9 x1 x2 x3 → (∃ (w0 : Int32) (w1 : Int32) (w2 : Int32), (∀ (K : Int32 → Int32 → Int32 → Prop) (post : Int32 → Unit → Prop), K w0 w1 w2 → wp_Mo_isBehind_L71 z_this K post n9 x1 x2 x3) ∧ (∀ (m9 : Nat) (K : Int32 → Int32 → Int32 → Prop) (post : Int32 → Unit → Prop), wp_Mo_isBehind_L71 z_this K post m9 x1 x2 x3 → K w0 w1 w2)) ∨ (∃ (w0 : Int32) (w1 : Unit), (∀ (K : Int32 → Int32 → Int32 → Prop) (post : Int32 → Unit → Prop), post w0 w1 → wp_Mo_isBehind_L71 z_this K post n9 x1 x2 x3) ∧ (∀ (m9 : Nat) (K : Int32 → Int32 → Int32 → Prop) (post : Int32 → Unit → Prop), wp_Mo_isBehind_L71 z_this K post m9 x1 x2 x3 → post w0 w1)) := by
  intro n9
  induction n9 with
  | zero => intro x1 x2 x3 K post h; exact False.elim h
  | succ n9 ih =>
    intro x1 x2 x3 K post h
    rw [wp_Mo_isBehind_L71] at h
    rcases br_el h with ⟨c0, h⟩ | ⟨c0, h⟩
    · exact Or.inl ⟨_, _, _, fun K post q => (by rw [wp_Mo_isBehind_L71]; exact (pT c0 (q))), fun m9 K post h => (by cases m9 with | zero => exact False.elim h | succ m9 => (rw [wp_Mo_isBehind_L71] at h; replace h := h.1 c0; exact h))⟩
    · obtain ⟨k1, h⟩ := h
      rcases dt_Mo_isBehind_L84 k1 _ _ _ _ _ _ h with ⟨x1, x2, x3, x4, qa1, qb1⟩ | ⟨w1_0, w1_1, qa1, qb1⟩
      · replace h := qb1 k1 _ _ h
        rcases ih _ _ _ _ _ h with ⟨w2_0, w2_1, w2_2, qa2, qb2⟩ | ⟨w2_0, w2_1, qa2, qb2⟩
        · exact Or.inl ⟨_, _, _, fun K post q => (by rw [wp_Mo_isBehind_L71]; exact (pF c0 (⟨k1, (qa1 _ _ ((qa2 _ _ (q))))⟩))), fun m9 K post h => (by cases m9 with | zero => exact False.elim h | succ m9 => (rw [wp_Mo_isBehind_L71] at h; replace h := h.2 c0; obtain ⟨m1, h⟩ := h; replace h := qb1 m1 _ _ h; replace h := qb2 m9 _ _ h; exact h))⟩
        · exact Or.inr (⟨_, _, fun K post q => (by rw [wp_Mo_isBehind_L71]; exact (pF c0 (⟨k1, (qa1 _ _ ((qa2 _ _ (q))))⟩))), fun m9 K post h => (by cases m9 with | zero => exact False.elim h | succ m9 => (rw [wp_Mo_isBehind_L71] at h; replace h := h.2 c0; obtain ⟨m1, h⟩ := h; replace h := qb1 m1 _ _ h; replace h := qb2 m9 _ _ h; exact h))⟩)
      · exact Or.inr (⟨_, _, fun K post q => (by rw [wp_Mo_isBehind_L71]; exact (pF c0 (⟨k1, (qa1 _ _ (q))⟩))), fun m9 K post h => (by cases m9 with | zero => exact False.elim h | succ m9 => (rw [wp_Mo_isBehind_L71] at h; replace h := h.2 c0; obtain ⟨m1, h⟩ := h; replace h := qb1 m1 _ _ h; exact h))⟩)
set_option maxHeartbeats 2000000 in
theorem dt_Mo_isBehind {z_this : T_Mo} {a1 : Int32} {post : Int32 → Unit → Prop} (h : wp_Mo_isBehind z_this a1 post) : (∃ (w0 : Int32) (w1 : Unit), (∀ (post : Int32 → Unit → Prop), post w0 w1 → wp_Mo_isBehind z_this a1 post) ∧ (∀ (post : Int32 → Unit → Prop), wp_Mo_isBehind z_this a1 post → post w0 w1)) := by
  unfold wp_Mo_isBehind at h
  obtain ⟨k0, h⟩ := h
  rcases dt_Mo_isBehind_L4 k0 _ _ _ _ _ h with ⟨x1, x2, x3, qa0, qb0⟩ | ⟨w0_0, w0_1, qa0, qb0⟩
  · replace h := qb0 k0 _ _ h
    obtain ⟨k1, h⟩ := h
    rcases dt_Mo_isBehind_L71 k1 _ _ _ _ _ h with ⟨x1, x2, x3, qa1, qb1⟩ | ⟨w1_0, w1_1, qa1, qb1⟩
    · replace h := qb1 k1 _ _ h
      exact ⟨_, _, fun post q => (by unfold wp_Mo_isBehind; exact ⟨k0, (qa0 _ _ (⟨k1, (qa1 _ _ (q))⟩))⟩), fun post h => (by unfold wp_Mo_isBehind at h; obtain ⟨m0, h⟩ := h; replace h := qb0 m0 _ _ h; obtain ⟨m1, h⟩ := h; replace h := qb1 m1 _ _ h; exact h)⟩
    · exact ⟨_, _, fun post q => (by unfold wp_Mo_isBehind; exact ⟨k0, (qa0 _ _ (⟨k1, (qa1 _ _ (q))⟩))⟩), fun post h => (by unfold wp_Mo_isBehind at h; obtain ⟨m0, h⟩ := h; replace h := qb0 m0 _ _ h; obtain ⟨m1, h⟩ := h; replace h := qb1 m1 _ _ h; exact h)⟩
  · exact ⟨_, _, fun post q => (by unfold wp_Mo_isBehind; exact ⟨k0, (qa0 _ _ (q))⟩), fun post h => (by unfold wp_Mo_isBehind at h; obtain ⟨m0, h⟩ := h; replace h := qb0 m0 _ _ h; exact h)⟩
set_option maxHeartbeats 2000000 in
theorem dt_Mo_uses_L6 {z_this : T_Mo} : ∀ (n9 : Nat) (x1 : Int32) (x2 : Int32) (x3 : Int32) (x4 : Int32) (x5 : Int32) (K : Int32 → Int32 → Int32 → Int32 → Int32 → Prop) (post : Int32 → Unit → Prop), wp_Mo_uses_L6 z_this K post n9 x1 x2 x3 x4 x5 → (∃ (w0 : Int32) (w1 : Int32) (w2 : Int32) (w3 : Int32) (w4 : Int32), (∀ (K : Int32 → Int32 → Int32 → Int32 → Int32 → Prop) (post : Int32 → Unit → Prop), K w0 w1 w2 w3 w4 → wp_Mo_uses_L6 z_this K post n9 x1 x2 x3 x4 x5) ∧ (∀ (m9 : Nat) (K : Int32 → Int32 → Int32 → Int32 → Int32 → Prop) (post : Int32 → Unit → Prop), wp_Mo_uses_L6 z_this K post m9 x1 x2 x3 x4 x5 → K w0 w1 w2 w3 w4)) ∨ (∃ (w0 : Int32) (w1 : Unit), (∀ (K : Int32 → Int32 → Int32 → Int32 → Int32 → Prop) (post : Int32 → Unit → Prop), post w0 w1 → wp_Mo_uses_L6 z_this K post n9 x1 x2 x3 x4 x5) ∧ (∀ (m9 : Nat) (K : Int32 → Int32 → Int32 → Int32 → Int32 → Prop) (post : Int32 → Unit → Prop), wp_Mo_uses_L6 z_this K post m9 x1 x2 x3 x4 x5 → post w0 w1)) := by
  intro n9
  induction n9 with
  | zero => intro x1 x2 x3 x4 x5 K post h; exact False.elim h
  | succ n9 ih =>
    intro x1 x2 x3 x4 x5 K post h
    rw [wp_Mo_uses_L6] at h
    rcases br_el h with ⟨c0, h⟩ | ⟨c0, h⟩
    · exact Or.inl ⟨_, _, _, _, _, fun K post q => (by rw [wp_Mo_uses_L6]; exact (pT c0 (q))), fun m9 K post h => (by cases m9 with | zero => exact False.elim h | succ m9 => (rw [wp_Mo_uses_L6] at h; replace h := h.1 c0; exact h))⟩
    · obtain ⟨r1, u1, qa1, qb1⟩ := dt_Mo_node1 h
      replace h := qb1 _ h
      obtain ⟨s2, h⟩ := h
      rcases br_el h with ⟨c3, h⟩ | ⟨c3, h⟩
      · rcases br_el h with ⟨c4, h⟩ | ⟨c4, h⟩
        · obtain ⟨r2, u2, qa5, qb5⟩ := dt_Mo_node1 h
          replace h := qb5 _ h
          obtain ⟨s6, h⟩ := h
          rcases br_el h with ⟨c7, h⟩ | ⟨c7, h⟩
          · rcases ih _ _ _ _ _ _ _ h with ⟨w8_0, w8_1, w8_2, w8_3, w8_4, qa8, qb8⟩ | ⟨w8_0, w8_1, qa8, qb8⟩
            · exact Or.inl ⟨_, _, _, _, _, fun K post q => (by rw [wp_Mo_uses_L6]; exact (pF c0 ((qa1 _ (⟨s2, (pT c3 ((pT c4 ((qa5 _ (⟨s6, (pT c7 ((qa8 _ _ (q))))⟩))))))⟩))))), fun m9 K post h => (by cases m9 with | zero => exact False.elim h | succ m9 => (rw [wp_Mo_uses_L6] at h; replace h := h.2 c0; replace h := qb1 _ h; replace h := h.2; replace h := h.1 c3; replace h := h.1 c4; replace h := qb5 _ h; replace h := h.2; replace h := h.1 c7; replace h := qb8 m9 _ _ h; exact h))⟩
            · exact Or.inr (⟨_, _, fun K post q => (by rw [wp_Mo_uses_L6]; exact (pF c0 ((qa1 _ (⟨s2, (pT c3 ((pT c4 ((qa5 _ (⟨s6, (pT c7 ((qa8 _ _ (q))))⟩))))))⟩))))), fun m9 K post h => (by cases m9 with | zero => exact False.elim h | succ m9 => (rw [wp_Mo_uses_L6] at h; replace h := h.2 c0; replace h := qb1 _ h; replace h := h.2; replace h := h.1 c3; replace h := h.1 c4; replace h := qb5 _ h; replace h := h.2; replace h := h.1 c7; replace h := qb8 m9 _ _ h; exact h))⟩)
          · rcases ih _ _ _ _ _ _ _ h with ⟨w8_0, w8_1, w8_2, w8_3, w8_4, qa8, qb8⟩ | ⟨w8_0, w8_1, qa8, qb8⟩
            · exact Or.inl ⟨_, _, _, _, _, fun K post q => (by rw [wp_Mo_uses_L6]; exact (pF c0 ((qa1 _ (⟨s2, (pT c3 ((pT c4 ((qa5 _ (⟨s6, (pF c7 ((qa8 _ _ (q))))⟩))))))⟩))))), fun m9 K post h => (by cases m9 with | zero => exact False.elim h | succ m9 => (rw [wp_Mo_uses_L6] at h; replace h := h.2 c0; replace h := qb1 _ h; replace h := h.2; replace h := h.1 c3; replace h := h.1 c4; replace h := qb5 _ h; replace h := h.2; replace h := h.2 c7; replace h := qb8 m9 _ _ h; exact h))⟩
            · exact Or.inr (⟨_, _, fun K post q => (by rw [wp_Mo_uses_L6]; exact (pF c0 ((qa1 _ (⟨s2, (pT c3 ((pT c4 ((qa5 _ (⟨s6, (pF c7 ((qa8 _ _ (q))))⟩))))))⟩))))), fun m9 K post h => (by cases m9 with | zero => exact False.elim h | succ m9 => (rw [wp_Mo_uses_L6] at h; replace h := h.2 c0; replace h := qb1 _ h; replace h := h.2; replace h := h.1 c3; replace h := h.1 c4; replace h := qb5 _ h; replace h := h.2; replace h := h.2 c7; replace h := qb8 m9 _ _ h; exact h))⟩)
        · rcases br_el h with ⟨c5, h⟩ | ⟨c5, h⟩
          · obtain ⟨r3, u3, qa6, qb6⟩ := dt_Mo_node1 h
            replace h := qb6 _ h
            obtain ⟨s7, h⟩ := h
            rcases br_el h with ⟨c8, h⟩ | ⟨c8, h⟩
            · rcases ih _ _ _ _ _ _ _ h with ⟨w9_0, w9_1, w9_2, w9_3, w9_4, qa9, qb9⟩ | ⟨w9_0, w9_1, qa9, qb9⟩
              · exact Or.inl ⟨_, _, _, _, _, fun K post q => (by rw [wp_Mo_uses_L6]; exact (pF c0 ((qa1 _ (⟨s2, (pT c3 ((pF c4 ((pT c5 ((qa6 _ (⟨s7, (pT c8 ((qa9 _ _ (q))))⟩))))))))⟩))))), fun m9 K post h => (by cases m9 with | zero => exact False.elim h | succ m9 => (rw [wp_Mo_uses_L6] at h; replace h := h.2 c0; replace h := qb1 _ h; replace h := h.2; replace h := h.1 c3; replace h := h.2 c4; replace h := h.1 c5; replace h := qb6 _ h; replace h := h.2; replace h := h.1 c8; replace h := qb9 m9 _ _ h; exact h))⟩
              · exact Or.inr (⟨_, _, fun K post q => (by rw [wp_Mo_uses_L6]; exact (pF c0 ((qa1 _ (⟨s2, (pT c3 ((pF c4 ((pT c5 ((qa6 _ (⟨s7, (pT c8 ((qa9 _ _ (q))))⟩))))))))⟩))))), fun m9 K post h => (by cases m9 with | zero => exact False.elim h | succ m9 => (rw [wp_Mo_uses_L6] at h; replace h := h.2 c0; replace h := qb1 _ h; replace h := h.2; replace h := h.1 c3; replace h := h.2 c4; replace h := h.1 c5; replace h := qb6 _ h; replace h := h.2; replace h := h.1 c8; replace h := qb9 m9 _ _ h; exact h))⟩)
            · rcases ih _ _ _ _ _ _ _ h with ⟨w9_0, w9_1, w9_2, w9_3, w9_4, qa9, qb9⟩ | ⟨w9_0, w9_1, qa9, qb9⟩
              · exact Or.inl ⟨_, _, _, _, _, fun K post q => (by rw [wp_Mo_uses_L6]; exact (pF c0 ((qa1 _ (⟨s2, (pT c3 ((pF c4 ((pT c5 ((qa6 _ (⟨s7, (pF c8 ((qa9 _ _ (q))))⟩))))))))⟩))))), fun m9 K post h => (by cases m9 with | zero => exact False.elim h | succ m9 => (rw [wp_Mo_uses_L6] at h; replace h := h.2 c0; replace h := qb1 _ h; replace h := h.2; replace h := h.1 c3; replace h := h.2 c4; replace h := h.1 c5; replace h := qb6 _ h; replace h := h.2; replace h := h.2 c8; replace h := qb9 m9 _ _ h; exact h))⟩
              · exact Or.inr (⟨_, _, fun K post q => (by rw [wp_Mo_uses_L6]; exact (pF c0 ((qa1 _ (⟨s2, (pT c3 ((pF c4 ((pT c5 ((qa6 _ (⟨s7, (pF c8 ((qa9 _ _ (q))))⟩))))))))⟩))))), fun m9 K post h => (by cases m9 with | zero => exact False.elim h | succ m9 => (rw [wp_Mo_uses_L6] at h; replace h := h.2 c0; replace h := qb1 _ h; replace h := h.2; replace h := h.1 c3; replace h := h.2 c4; replace h := h.1 c5; replace h := qb6 _ h; replace h := h.2; replace h := h.2 c8; replace h := qb9 m9 _ _ h; exact h))⟩)
          · rcases ih _ _ _ _ _ _ _ h with ⟨w6_0, w6_1, w6_2, w6_3, w6_4, qa6, qb6⟩ | ⟨w6_0, w6_1, qa6, qb6⟩
            · exact Or.inl ⟨_, _, _, _, _, fun K post q => (by rw [wp_Mo_uses_L6]; exact (pF c0 ((qa1 _ (⟨s2, (pT c3 ((pF c4 ((pF c5 ((qa6 _ _ (q))))))))⟩))))), fun m9 K post h => (by cases m9 with | zero => exact False.elim h | succ m9 => (rw [wp_Mo_uses_L6] at h; replace h := h.2 c0; replace h := qb1 _ h; replace h := h.2; replace h := h.1 c3; replace h := h.2 c4; replace h := h.2 c5; replace h := qb6 m9 _ _ h; exact h))⟩
            · exact Or.inr (⟨_, _, fun K post q => (by rw [wp_Mo_uses_L6]; exact (pF c0 ((qa1 _ (⟨s2, (pT c3 ((pF c4 ((pF c5 ((qa6 _ _ (q))))))))⟩))))), fun m9 K post h => (by cases m9 with | zero => exact False.elim h | succ m9 => (rw [wp_Mo_uses_L6] at h; replace h := h.2 c0; replace h := qb1 _ h; replace h := h.2; replace h := h.1 c3; replace h := h.2 c4; replace h := h.2 c5; replace h := qb6 m9 _ _ h; exact h))⟩)
      · rcases ih _ _ _ _ _ _ _ h with ⟨w4_0, w4_1, w4_2, w4_3, w4_4, qa4, qb4⟩ | ⟨w4_0, w4_1, qa4, qb4⟩
        · exact Or.inl ⟨_, _, _, _, _, fun K post q => (by rw [wp_Mo_uses_L6]; exact (pF c0 ((qa1 _ (⟨s2, (pF c3 ((qa4 _ _ (q))))⟩))))), fun m9 K post h => (by cases m9 with | zero => exact False.elim h | succ m9 => (rw [wp_Mo_uses_L6] at h; replace h := h.2 c0; replace h := qb1 _ h; replace h := h.2; replace h := h.2 c3; replace h := qb4 m9 _ _ h; exact h))⟩
        · exact Or.inr (⟨_, _, fun K post q => (by rw [wp_Mo_uses_L6]; exact (pF c0 ((qa1 _ (⟨s2, (pF c3 ((qa4 _ _ (q))))⟩))))), fun m9 K post h => (by cases m9 with | zero => exact False.elim h | succ m9 => (rw [wp_Mo_uses_L6] at h; replace h := h.2 c0; replace h := qb1 _ h; replace h := h.2; replace h := h.2 c3; replace h := qb4 m9 _ _ h; exact h))⟩)
set_option maxHeartbeats 2000000 in
theorem dt_Mo_uses {z_this : T_Mo} {a1 : Int32} {a2 : Int32} {a3 : Int32} {post : Int32 → Unit → Prop} (h : wp_Mo_uses z_this a1 a2 a3 post) : (∃ (w0 : Int32) (w1 : Unit), (∀ (post : Int32 → Unit → Prop), post w0 w1 → wp_Mo_uses z_this a1 a2 a3 post) ∧ (∀ (post : Int32 → Unit → Prop), wp_Mo_uses z_this a1 a2 a3 post → post w0 w1)) := by
  unfold wp_Mo_uses at h
  obtain ⟨k0, h⟩ := h
  rcases dt_Mo_uses_L6 k0 _ _ _ _ _ _ _ h with ⟨x1, x2, x3, x4, x5, qa0, qb0⟩ | ⟨w0_0, w0_1, qa0, qb0⟩
  · replace h := qb0 k0 _ _ h
    obtain ⟨s1, h⟩ := h
    exact ⟨_, _, fun post q => (by unfold wp_Mo_uses; exact ⟨k0, (qa0 _ _ (⟨s1, q⟩))⟩), fun post h => (by unfold wp_Mo_uses at h; obtain ⟨m0, h⟩ := h; replace h := qb0 m0 _ _ h; replace h := h.2; exact h)⟩
  · exact ⟨_, _, fun post q => (by unfold wp_Mo_uses; exact ⟨k0, (qa0 _ _ (q))⟩), fun post h => (by unfold wp_Mo_uses at h; obtain ⟨m0, h⟩ := h; replace h := qb0 m0 _ _ h; exact h)⟩
set_option maxHeartbeats 2000000 in
theorem dt_Mo_isRemark_J104 {z_this : T_Mo} {x1 : Int32} {x2 : Int32} {x3 : Int32} {x4 : Int32} {y0 : Int32} {post : Int32 → Unit → Prop} (h : wp_Mo_isRemark_J104 z_this post x1 x2 x3 x4 y0) : (∃ (w0 : Int32) (w1 : Unit), (∀ (post : Int32 → Unit → Prop), post w0 w1 → wp_Mo_isRemark_J104 z_this post x1 x2 x3 x4 y0) ∧ (∀ (post : Int32 → Unit → Prop), wp_Mo_isRemark_J104 z_this post x1 x2 x3 x4 y0 → post w0 w1)) := by
  unfold wp_Mo_isRemark_J104 at h
  obtain ⟨s0, h⟩ := h
  exact ⟨_, _, fun post q => (by unfold wp_Mo_isRemark_J104; exact ⟨s0, q⟩), fun post h => (by unfold wp_Mo_isRemark_J104 at h; replace h := h.2; exact h)⟩
set_option maxHeartbeats 2000000 in
theorem dt_Mo_isRemark_J103 {z_this : T_Mo} {x1 : Int32} {x2 : Int32} {x3 : Int32} {x4 : Int32} {post : Int32 → Unit → Prop} (h : wp_Mo_isRemark_J103 z_this post x1 x2 x3 x4) : (∃ (w0 : Int32) (w1 : Unit), (∀ (post : Int32 → Unit → Prop), post w0 w1 → wp_Mo_isRemark_J103 z_this post x1 x2 x3 x4) ∧ (∀ (post : Int32 → Unit → Prop), wp_Mo_isRemark_J103 z_this post x1 x2 x3 x4 → post w0 w1)) := by
  unfold wp_Mo_isRemark_J103 at h
  obtain ⟨w0_0, w0_1, qa0, qb0⟩ := dt_Mo_isRemark_J104 h
  exact ⟨_, _, fun post q => (by unfold wp_Mo_isRemark_J103; exact (qa0 _ (q))), fun post h => (by unfold wp_Mo_isRemark_J103 at h; replace h := qb0 _ h; exact h)⟩
set_option maxHeartbeats 2000000 in
theorem dt_Mo_isRemark_J132 {z_this : T_Mo} {x1 : Int32} {x2 : Int32} {x3 : Int32} {x4 : Int32} {y0 : Int32} {post : Int32 → Unit → Prop} (h : wp_Mo_isRemark_J132 z_this post x1 x2 x3 x4 y0) : (∃ (w0 : Int32) (w1 : Unit), (∀ (post : Int32 → Unit → Prop), post w0 w1 → wp_Mo_isRemark_J132 z_this post x1 x2 x3 x4 y0) ∧ (∀ (post : Int32 → Unit → Prop), wp_Mo_isRemark_J132 z_this post x1 x2 x3 x4 y0 → post w0 w1)) := by
  unfold wp_Mo_isRemark_J132 at h
  obtain ⟨s0, h⟩ := h
  exact ⟨_, _, fun post q => (by unfold wp_Mo_isRemark_J132; exact ⟨s0, q⟩), fun post h => (by unfold wp_Mo_isRemark_J132 at h; replace h := h.2; exact h)⟩
set_option maxHeartbeats 2000000 in
theorem dt_Mo_isRemark_J131 {z_this : T_Mo} {x1 : Int32} {x2 : Int32} {x3 : Int32} {x4 : Int32} {post : Int32 → Unit → Prop} (h : wp_Mo_isRemark_J131 z_this post x1 x2 x3 x4) : (∃ (w0 : Int32) (w1 : Unit), (∀ (post : Int32 → Unit → Prop), post w0 w1 → wp_Mo_isRemark_J131 z_this post x1 x2 x3 x4) ∧ (∀ (post : Int32 → Unit → Prop), wp_Mo_isRemark_J131 z_this post x1 x2 x3 x4 → post w0 w1)) := by
  unfold wp_Mo_isRemark_J131 at h
  obtain ⟨w0_0, w0_1, qa0, qb0⟩ := dt_Mo_isRemark_J132 h
  exact ⟨_, _, fun post q => (by unfold wp_Mo_isRemark_J131; exact (qa0 _ (q))), fun post h => (by unfold wp_Mo_isRemark_J131 at h; replace h := qb0 _ h; exact h)⟩
set_option maxHeartbeats 2000000 in
theorem dt_Mo_isRemark_J164 {z_this : T_Mo} {x1 : Int32} {x2 : Int32} {x3 : Int32} {x4 : Int32} {y0 : Int32} {post : Int32 → Unit → Prop} (h : wp_Mo_isRemark_J164 z_this post x1 x2 x3 x4 y0) : (∃ (w0 : Int32) (w1 : Unit), (∀ (post : Int32 → Unit → Prop), post w0 w1 → wp_Mo_isRemark_J164 z_this post x1 x2 x3 x4 y0) ∧ (∀ (post : Int32 → Unit → Prop), wp_Mo_isRemark_J164 z_this post x1 x2 x3 x4 y0 → post w0 w1)) := by
  unfold wp_Mo_isRemark_J164 at h
  obtain ⟨s0, h⟩ := h
  exact ⟨_, _, fun post q => (by unfold wp_Mo_isRemark_J164; exact ⟨s0, q⟩), fun post h => (by unfold wp_Mo_isRemark_J164 at h; replace h := h.2; exact h)⟩
set_option maxHeartbeats 2000000 in
theorem dt_Mo_isRemark_J163 {z_this : T_Mo} {x1 : Int32} {x2 : Int32} {x3 : Int32} {x4 : Int32} {post : Int32 → Unit → Prop} (h : wp_Mo_isRemark_J163 z_this post x1 x2 x3 x4) : (∃ (w0 : Int32) (w1 : Unit), (∀ (post : Int32 → Unit → Prop), post w0 w1 → wp_Mo_isRemark_J163 z_this post x1 x2 x3 x4) ∧ (∀ (post : Int32 → Unit → Prop), wp_Mo_isRemark_J163 z_this post x1 x2 x3 x4 → post w0 w1)) := by
  unfold wp_Mo_isRemark_J163 at h
  obtain ⟨w0_0, w0_1, qa0, qb0⟩ := dt_Mo_isRemark_J164 h
  exact ⟨_, _, fun post q => (by unfold wp_Mo_isRemark_J163; exact (qa0 _ (q))), fun post h => (by unfold wp_Mo_isRemark_J163 at h; replace h := qb0 _ h; exact h)⟩
set_option maxHeartbeats 2000000 in
theorem dt_Mo_isRemark_J188 {z_this : T_Mo} {x1 : Int32} {x2 : Int32} {x3 : Int32} {x4 : Int32} {y0 : Int32} {post : Int32 → Unit → Prop} (h : wp_Mo_isRemark_J188 z_this post x1 x2 x3 x4 y0) : (∃ (w0 : Int32) (w1 : Unit), (∀ (post : Int32 → Unit → Prop), post w0 w1 → wp_Mo_isRemark_J188 z_this post x1 x2 x3 x4 y0) ∧ (∀ (post : Int32 → Unit → Prop), wp_Mo_isRemark_J188 z_this post x1 x2 x3 x4 y0 → post w0 w1)) := by
  unfold wp_Mo_isRemark_J188 at h
  obtain ⟨s0, h⟩ := h
  exact ⟨_, _, fun post q => (by unfold wp_Mo_isRemark_J188; exact ⟨s0, q⟩), fun post h => (by unfold wp_Mo_isRemark_J188 at h; replace h := h.2; exact h)⟩
set_option maxHeartbeats 2000000 in
theorem dt_Mo_isRemark_J187 {z_this : T_Mo} {x1 : Int32} {x2 : Int32} {x3 : Int32} {x4 : Int32} {post : Int32 → Unit → Prop} (h : wp_Mo_isRemark_J187 z_this post x1 x2 x3 x4) : (∃ (w0 : Int32) (w1 : Unit), (∀ (post : Int32 → Unit → Prop), post w0 w1 → wp_Mo_isRemark_J187 z_this post x1 x2 x3 x4) ∧ (∀ (post : Int32 → Unit → Prop), wp_Mo_isRemark_J187 z_this post x1 x2 x3 x4 → post w0 w1)) := by
  unfold wp_Mo_isRemark_J187 at h
  obtain ⟨w0_0, w0_1, qa0, qb0⟩ := dt_Mo_isRemark_J188 h
  exact ⟨_, _, fun post q => (by unfold wp_Mo_isRemark_J187; exact (qa0 _ (q))), fun post h => (by unfold wp_Mo_isRemark_J187 at h; replace h := qb0 _ h; exact h)⟩
set_option maxHeartbeats 2000000 in
theorem dt_Mo_isRemark_J211 {z_this : T_Mo} {x1 : Int32} {x2 : Int32} {x3 : Int32} {x4 : Int32} {y0 : Int32} {post : Int32 → Unit → Prop} (h : wp_Mo_isRemark_J211 z_this post x1 x2 x3 x4 y0) : (∃ (w0 : Int32) (w1 : Unit), (∀ (post : Int32 → Unit → Prop), post w0 w1 → wp_Mo_isRemark_J211 z_this post x1 x2 x3 x4 y0) ∧ (∀ (post : Int32 → Unit → Prop), wp_Mo_isRemark_J211 z_this post x1 x2 x3 x4 y0 → post w0 w1)) := by
  unfold wp_Mo_isRemark_J211 at h
  obtain ⟨s0, h⟩ := h
  exact ⟨_, _, fun post q => (by unfold wp_Mo_isRemark_J211; exact ⟨s0, q⟩), fun post h => (by unfold wp_Mo_isRemark_J211 at h; replace h := h.2; exact h)⟩
set_option maxHeartbeats 2000000 in
theorem dt_Mo_isRemark_J210 {z_this : T_Mo} {x1 : Int32} {x2 : Int32} {x3 : Int32} {x4 : Int32} {post : Int32 → Unit → Prop} (h : wp_Mo_isRemark_J210 z_this post x1 x2 x3 x4) : (∃ (w0 : Int32) (w1 : Unit), (∀ (post : Int32 → Unit → Prop), post w0 w1 → wp_Mo_isRemark_J210 z_this post x1 x2 x3 x4) ∧ (∀ (post : Int32 → Unit → Prop), wp_Mo_isRemark_J210 z_this post x1 x2 x3 x4 → post w0 w1)) := by
  unfold wp_Mo_isRemark_J210 at h
  obtain ⟨w0_0, w0_1, qa0, qb0⟩ := dt_Mo_isRemark_J211 h
  exact ⟨_, _, fun post q => (by unfold wp_Mo_isRemark_J210; exact (qa0 _ (q))), fun post h => (by unfold wp_Mo_isRemark_J210 at h; replace h := qb0 _ h; exact h)⟩
set_option maxHeartbeats 2000000 in
theorem dt_Mo_isRemark_J49 {z_this : T_Mo} {x1 : Int32} {x2 : Int32} {x3 : Int32} {y0 : Int32} {post : Int32 → Unit → Prop} (h : wp_Mo_isRemark_J49 z_this post x1 x2 x3 y0) : (∃ (w0 : Int32) (w1 : Unit), (∀ (post : Int32 → Unit → Prop), post w0 w1 → wp_Mo_isRemark_J49 z_this post x1 x2 x3 y0) ∧ (∀ (post : Int32 → Unit → Prop), wp_Mo_isRemark_J49 z_this post x1 x2 x3 y0 → post w0 w1)) := by
  unfold wp_Mo_isRemark_J49 at h
  rcases Classical.em (x1 = (1 : Int32)) with c0_0 | c0_0
  · replace h := (h).1 c0_0
    rcases br_el h with ⟨c1, h⟩ | ⟨c1, h⟩
    · obtain ⟨s2, h⟩ := h
      rcases br_el h with ⟨c3, h⟩ | ⟨c3, h⟩
      · obtain ⟨w4_0, w4_1, qa4, qb4⟩ := dt_Mo_isRemark_J104 h
        exact ⟨_, _, fun post q => (by unfold wp_Mo_isRemark_J49; exact ⟨fun _ => (pT c1 (⟨s2, (pT c3 ((qa4 _ (q))))⟩)), fun q9 => absurd (c0_0.symm.trans q9) (by decide), fun q9 => absurd (c0_0.symm.trans q9) (by decide), fun q9 => absurd (c0_0.symm.trans q9) (by decide), fun q9 => absurd c0_0 (q9.1)⟩), fun post h => (by unfold wp_Mo_isRemark_J49 at h; replace h := (h).1 c0_0; replace h := h.1 c1; replace h := h.2; replace h := h.1 c3; replace h := qb4 _ h; exact h)⟩
      · obtain ⟨w4_0, w4_1, qa4, qb4⟩ := dt_Mo_isRemark_J103 h
        exact ⟨_, _, fun post q => (by unfold wp_Mo_isRemark_J49; exact ⟨fun _ => (pT c1 (⟨s2, (pF c3 ((qa4 _ (q))))⟩)), fun q9 => absurd (c0_0.symm.trans q9) (by decide), fun q9 => absurd (c0_0.symm.trans q9) (by decide), fun q9 => absurd (c0_0.symm.trans q9) (by decide), fun q9 => absurd c0_0 (q9.1)⟩), fun post h => (by unfold wp_Mo_isRemark_J49 at h; replace h := (h).1 c0_0; replace h := h.1 c1; replace h := h.2; replace h := h.2 c3; replace h := qb4 _ h; exact h)⟩
    · obtain ⟨w2_0, w2_1, qa2, qb2⟩ := dt_Mo_isRemark_J103 h
      exact ⟨_, _, fun post q => (by unfold wp_Mo_isRemark_J49; exact ⟨fun _ => (pF c1 ((qa2 _ (q)))), fun q9 => absurd (c0_0.symm.trans q9) (by decide), fun q9 => absurd (c0_0.symm.trans q9) (by decide), fun q9 => absurd (c0_0.symm.trans q9) (by decide), fun q9 => absurd c0_0 (q9.1)⟩), fun post h => (by unfold wp_Mo_isRemark_J49 at h; replace h := (h).1 c0_0; replace h := h.2 c1; replace h := qb2 _ h; exact h)⟩
  · rcases Classical.em (x1 = (2 : Int32)) with c0_1 | c0_1
    · replace h := (h).2.1 c0_1
      rcases br_el h with ⟨c1, h⟩ | ⟨c1, h⟩
      · obtain ⟨w2_0, w2_1, qa2, qb2⟩ := dt_Mo_isRemark_J131 h
        exact ⟨_, _, fun post q => (by unfold wp_Mo_isRemark_J49; exact ⟨fun q9 => absurd q9 c0_0, fun _ => (pT c1 ((qa2 _ (q)))), fun q9 => absurd (c0_1.symm.trans q9) (by decide), fun q9 => absurd (c0_1.symm.trans q9) (by decide), fun q9 => absurd c0_1 (q9.2.1)⟩), fun post h => (by unfold wp_Mo_isRemark_J49 at h; replace h := (h).2.1 c0_1; replace h := h.1 c1; replace h := qb2 _ h; exact h)⟩
      · rcases br_el h with ⟨c2, h⟩ | ⟨c2, h⟩
        · obtain ⟨w3_0, w3_1, qa3, qb3⟩ := dt_Mo_isRemark_J131 h
          exact ⟨_, _, fun post q => (by unfold wp_Mo_isRemark_J49; exact ⟨fun q9 => absurd q9 c0_0, fun _ => (pF c1 ((pT c2 ((qa3 _ (q)))))), fun q9 => absurd (c0_1.symm.trans q9) (by decide), fun q9 => absurd (c0_1.symm.trans q9) (by decide), fun q9 => absurd c0_1 (q9.2.1)⟩), fun post h => (by unfold wp_Mo_isRemark_J49 at h; replace h := (h).2.1 c0_1; replace h := h.2 c1; replace h := h.1 c2; replace h := qb3 _ h; exact h)⟩
        · obtain ⟨r1, u1, qa3, qb3⟩ := dt_Mo_isBehind h
          replace h := qb3 _ h
          rcases br_el h with ⟨c4, h⟩ | ⟨c4, h⟩
          · obtain ⟨w5_0, w5_1, qa5, qb5⟩ := dt_Mo_isRemark_J131 h
            exact ⟨_, _, fun post q => (by unfold wp_Mo_isRemark_J49; exact ⟨fun q9 => absurd q9 c0_0, fun _ => (pF c1 ((pF c2 ((qa3 _ ((pT c4 ((qa5 _ (q)))))))))), fun q9 => absurd (c0_1.symm.trans q9) (by decide), fun q9 => absurd (c0_1.symm.trans q9) (by decide), fun q9 => absurd c0_1 (q9.2.1)⟩), fun post h => (by unfold wp_Mo_isRemark_J49 at h; replace h := (h).2.1 c0_1; replace h := h.2 c1; replace h := h.2 c2; replace h := qb3 _ h; replace h := h.1 c4; replace h := qb5 _ h; exact h)⟩
          · obtain ⟨w5_0, w5_1, qa5, qb5⟩ := dt_Mo_isRemark_J132 h
            exact ⟨_, _, fun post q => (by unfold wp_Mo_isRemark_J49; exact ⟨fun q9 => absurd q9 c0_0, fun _ => (pF c1 ((pF c2 ((qa3 _ ((pF c4 ((qa5 _ (q)))))))))), fun q9 => absurd (c0_1.symm.trans q9) (by decide), fun q9 => absurd (c0_1.symm.trans q9) (by decide), fun q9 => absurd c0_1 (q9.2.1)⟩), fun post h => (by unfold wp_Mo_isRemark_J49 at h; replace h := (h).2.1 c0_1; replace h := h.2 c1; replace h := h.2 c2; replace h := qb3 _ h; replace h := h.2 c4; replace h := qb5 _ h; exact h)⟩
    · rcases Classical.em (x1 = (3 : Int32)) with c0_2 | c0_2
      · replace h := (h).2.2.1 c0_2
        rcases br_el h with ⟨c1, h⟩ | ⟨c1, h⟩
        · obtain ⟨r2, u2, qa2, qb2⟩ := dt_Mo_node1 h
          replace h := qb2 _ h
          obtain ⟨s3, h⟩ := h
          obtain ⟨s4, h⟩ := h
          rcases br_el h with ⟨c5, h⟩ | ⟨c5, h⟩
          · obtain ⟨w6_0, w6_1, qa6, qb6⟩ := dt_Mo_isRemark_J163 h
            exact ⟨_, _, fun post q => (by unfold wp_Mo_isRemark_J49; exact ⟨fun q9 => absurd q9 c0_0, fun q9 => absurd q9 c0_1, fun _ => (pT c1 ((qa2 _ (⟨s3, ⟨s4, (pT c5 ((qa6 _ (q))))⟩⟩)))), fun q9 => absurd (c0_2.symm.trans q9) (by decide), fun q9 => absurd c0_2 (q9.2.2.1)⟩), fun post h => (by unfold wp_Mo_isRemark_J49 at h; replace h := (h).2.2.1 c0_2; replace h := h.1 c1; replace h := qb2 _ h; replace h := h.2; replace h := h.2; replace h := h.1 c5; replace h := qb6 _ h; exact h)⟩
          · obtain ⟨w6_0, w6_1, qa6, qb6⟩ := dt_Mo_isRemark_J164 h
            exact ⟨_, _, fun post q => (by unfold wp_Mo_isRemark_J49; exact ⟨fun q9 => absurd q9 c0_0, fun q9 => absurd q9 c0_1, fun _ => (pT c1 ((qa2 _ (⟨s3, ⟨s4, (pF c5 ((qa6 _ (q))))⟩⟩)))), fun q9 => absurd (c0_2.symm.trans q9) (by decide), fun q9 => absurd c0_2 (q9.2.2.1)⟩), fun post h => (by unfold wp_Mo_isRemark_J49 at h; replace h := (h).2.2.1 c0_2; replace h := h.1 c1; replace h := qb2 _ h; replace h := h.2; replace h := h.2; replace h := h.2 c5; replace h := qb6 _ h; exact h)⟩
        · obtain ⟨w2_0, w2_1, qa2, qb2⟩ := dt_Mo_isRemark_J163 h
          exact ⟨_, _, fun post q => (by unfold wp_Mo_isRemark_J49; exact ⟨fun q9 => absurd q9 c0_0, fun q9 => absurd q9 c0_1, fun _ => (pF c1 ((qa2 _ (q)))), fun q9 => absurd (c0_2.symm.trans q9) (by decide), fun q9 => absurd c0_2 (q9.2.2.1)⟩), fun post h => (by unfold wp_Mo_isRemark_J49 at h; replace h := (h).2.2.1 c0_2; replace h := h.2 c1; replace h := qb2 _ h; exact h)⟩
      · rcases Classical.em (x1 = (4 : Int32)) with c0_3 | c0_3
        · replace h := (h).2.2.2.1 c0_3
          rcases br_el h with ⟨c1, h⟩ | ⟨c1, h⟩
          · obtain ⟨r3, u3, qa2, qb2⟩ := dt_Mo_uses h
            replace h := qb2 _ h
            rcases br_el h with ⟨c3, h⟩ | ⟨c3, h⟩
            · obtain ⟨w4_0, w4_1, qa4, qb4⟩ := dt_Mo_isRemark_J188 h
              exact ⟨_, _, fun post q => (by unfold wp_Mo_isRemark_J49; exact ⟨fun q9 => absurd q9 c0_0, fun q9 => absurd q9 c0_1, fun q9 => absurd q9 c0_2, fun _ => (pT c1 ((qa2 _ ((pT c3 ((qa4 _ (q)))))))), fun q9 => absurd c0_3 (q9.2.2.2)⟩), fun post h => (by unfold wp_Mo_isRemark_J49 at h; replace h := (h).2.2.2.1 c0_3; replace h := h.1 c1; replace h := qb2 _ h; replace h := h.1 c3; replace h := qb4 _ h; exact h)⟩
            · obtain ⟨w4_0, w4_1, qa4, qb4⟩ := dt_Mo_isRemark_J187 h
              exact ⟨_, _, fun post q => (by unfold wp_Mo_isRemark_J49; exact ⟨fun q9 => absurd q9 c0_0, fun q9 => absurd q9 c0_1, fun q9 => absurd q9 c0_2, fun _ => (pT c1 ((qa2 _ ((pF c3 ((qa4 _ (q)))))))), fun q9 => absurd c0_3 (q9.2.2.2)⟩), fun post h => (by unfold wp_Mo_isRemark_J49 at h; replace h := (h).2.2.2.1 c0_3; replace h := h.1 c1; replace h := qb2 _ h; replace h := h.2 c3; replace h := qb4 _ h; exact h)⟩
          · obtain ⟨w2_0, w2_1, qa2, qb2⟩ := dt_Mo_isRemark_J187 h
            exact ⟨_, _, fun post q => (by unfold wp_Mo_isRemark_J49; exact ⟨fun q9 => absurd q9 c0_0, fun q9 => absurd q9 c0_1, fun q9 => absurd q9 c0_2, fun _ => (pF c1 ((qa2 _ (q)))), fun q9 => absurd c0_3 (q9.2.2.2)⟩), fun post h => (by unfold wp_Mo_isRemark_J49 at h; replace h := (h).2.2.2.1 c0_3; replace h := h.2 c1; replace h := qb2 _ h; exact h)⟩
        · replace h := (h).2.2.2.2 ⟨c0_0, c0_1, c0_2, c0_3⟩
          rcases br_el h with ⟨c1, h⟩ | ⟨c1, h⟩
          · obtain ⟨r4, u4, qa2, qb2⟩ := dt_Mo_uses h
            replace h := qb2 _ h
            rcases br_el h with ⟨c3, h⟩ | ⟨c3, h⟩
            · obtain ⟨w4_0, w4_1, qa4, qb4⟩ := dt_Mo_isRemark_J211 h
              exact ⟨_, _, fun post q => (by unfold wp_Mo_isRemark_J49; exact ⟨fun q9 => absurd q9 c0_0, fun q9 => absurd q9 c0_1, fun q9 => absurd q9 c0_2, fun q9 => absurd q9 c0_3, fun _ => (pT c1 ((qa2 _ ((pT c3 ((qa4 _ (q))))))))⟩), fun post h => (by unfold wp_Mo_isRemark_J49 at h; replace h := (h).2.2.2.2 ⟨c0_0, c0_1, c0_2, c0_3⟩; replace h := h.1 c1; replace h := qb2 _ h; replace h := h.1 c3; replace h := qb4 _ h; exact h)⟩
            · obtain ⟨w4_0, w4_1, qa4, qb4⟩ := dt_Mo_isRemark_J210 h
              exact ⟨_, _, fun post q => (by unfold wp_Mo_isRemark_J49; exact ⟨fun q9 => absurd q9 c0_0, fun q9 => absurd q9 c0_1, fun q9 => absurd q9 c0_2, fun q9 => absurd q9 c0_3, fun _ => (pT c1 ((qa2 _ ((pF c3 ((qa4 _ (q))))))))⟩), fun post h => (by unfold wp_Mo_isRemark_J49 at h; replace h := (h).2.2.2.2 ⟨c0_0, c0_1, c0_2, c0_3⟩; replace h := h.1 c1; replace h := qb2 _ h; replace h := h.2 c3; replace h := qb4 _ h; exact h)⟩
          · obtain ⟨w2_0, w2_1, qa2, qb2⟩ := dt_Mo_isRemark_J210 h
            exact ⟨_, _, fun post q => (by unfold wp_Mo_isRemark_J49; exact ⟨fun q9 => absurd q9 c0_0, fun q9 => absurd q9 c0_1, fun q9 => absurd q9 c0_2, fun q9 => absurd q9 c0_3, fun _ => (pF c1 ((qa2 _ (q))))⟩), fun post h => (by unfold wp_Mo_isRemark_J49 at h; replace h := (h).2.2.2.2 ⟨c0_0, c0_1, c0_2, c0_3⟩; replace h := h.2 c1; replace h := qb2 _ h; exact h)⟩
set_option maxHeartbeats 2000000 in
theorem dt_Mo_isRemark_J26 {z_this : T_Mo} {x1 : Int32} {x2 : Int32} {y0 : Int32} {post : Int32 → Unit → Prop} (h : wp_Mo_isRemark_J26 z_this post x1 x2 y0) : (∃ (w0 : Int32) (w1 : Unit), (∀ (post : Int32 → Unit → Prop), post w0 w1 → wp_Mo_isRemark_J26 z_this post x1 x2 y0) ∧ (∀ (post : Int32 → Unit → Prop), wp_Mo_isRemark_J26 z_this post x1 x2 y0 → post w0 w1)) := by
  unfold wp_Mo_isRemark_J26 at h
  rcases br_el h with ⟨c0, h⟩ | ⟨c0, h⟩
  · obtain ⟨w1_0, w1_1, qa1, qb1⟩ := dt_Mo_isRemark_J49 h
    exact ⟨_, _, fun post q => (by unfold wp_Mo_isRemark_J26; exact (pT c0 ((qa1 _ (q))))), fun post h => (by unfold wp_Mo_isRemark_J26 at h; replace h := h.1 c0; replace h := qb1 _ h; exact h)⟩
  · obtain ⟨r5, u5, qa1, qb1⟩ := dt_Mo_node1 h
    replace h := qb1 _ h
    obtain ⟨s2, h⟩ := h
    obtain ⟨w3_0, w3_1, qa3, qb3⟩ := dt_Mo_isRemark_J49 h
    exact ⟨_, _, fun post q => (by unfold wp_Mo_isRemark_J26; exact (pF c0 ((qa1 _ (⟨s2, (qa3 _ (q))⟩))))), fun post h => (by unfold wp_Mo_isRemark_J26 at h; replace h := h.2 c0; replace h := qb1 _ h; replace h := h.2; replace h := qb3 _ h; exact h)⟩
set_option maxHeartbeats 2000000 in
theorem dt_Mo_isRemark {z_this : T_Mo} {a1 : Int32} {a2 : Int32} {post : Int32 → Unit → Prop} (h : wp_Mo_isRemark z_this a1 a2 post) : (∃ (w0 : Int32) (w1 : Unit), (∀ (post : Int32 → Unit → Prop), post w0 w1 → wp_Mo_isRemark z_this a1 a2 post) ∧ (∀ (post : Int32 → Unit → Prop), wp_Mo_isRemark z_this a1 a2 post → post w0 w1)) := by
  unfold wp_Mo_isRemark at h
  rcases br_el h with ⟨c0, h⟩ | ⟨c0, h⟩
  · obtain ⟨w1_0, w1_1, qa1, qb1⟩ := dt_Mo_isRemark_J26 h
    exact ⟨_, _, fun post q => (by unfold wp_Mo_isRemark; exact (pT c0 ((qa1 _ (q))))), fun post h => (by unfold wp_Mo_isRemark at h; replace h := h.1 c0; replace h := qb1 _ h; exact h)⟩
  · obtain ⟨s1, h⟩ := h
    obtain ⟨w2_0, w2_1, qa2, qb2⟩ := dt_Mo_isRemark_J26 h
    exact ⟨_, _, fun post q => (by unfold wp_Mo_isRemark; exact (pF c0 (⟨s1, (qa2 _ (q))⟩))), fun post h => (by unfold wp_Mo_isRemark at h; replace h := h.2 c0; replace h := h.2; replace h := qb2 _ h; exact h)⟩
set_option maxHeartbeats 2000000 in
theorem dt_Mo_letter {z_this : T_Mo} {a1 : Int32} {post : Unit → T_Mo → Prop} (h : wp_Mo_letter z_this a1 post) : (∃ (w0 : Unit) (w1 : T_Mo), (∀ (post : Unit → T_Mo → Prop), post w0 w1 → wp_Mo_letter z_this a1 post) ∧ (∀ (post : Unit → T_Mo → Prop), wp_Mo_letter z_this a1 post → post w0 w1)) := by
  unfold wp_Mo_letter at h
  rcases br_el h with ⟨c0, h⟩ | ⟨c0, h⟩
  · exact ⟨_, _, fun post q => (by unfold wp_Mo_letter; exact (pT c0 (q))), fun post h => (by unfold wp_Mo_letter at h; replace h := h.1 c0; exact h)⟩
  · exact ⟨_, _, fun post q => (by unfold wp_Mo_letter; exact (pF c0 (q))), fun post h => (by unfold wp_Mo_letter at h; replace h := h.2 c0; exact h)⟩
set_option maxHeartbeats 2000000 in
theorem dt_Mo_say {z_this : T_Mo} {a1 : Int32} {post : Unit → T_Mo → Prop} (h : wp_Mo_say z_this a1 post) : (∃ (w0 : Unit) (w1 : T_Mo), (∀ (post : Unit → T_Mo → Prop), post w0 w1 → wp_Mo_say z_this a1 post) ∧ (∀ (post : Unit → T_Mo → Prop), wp_Mo_say z_this a1 post → post w0 w1)) := by
  unfold wp_Mo_say at h
  rcases br_el h with ⟨c0, h⟩ | ⟨c0, h⟩
  · obtain ⟨r1, u1, qa1, qb1⟩ := dt_Mo_letter h
    replace h := qb1 _ h
    exact ⟨_, _, fun post q => (by unfold wp_Mo_say; exact (pT c0 ((qa1 _ (q))))), fun post h => (by unfold wp_Mo_say at h; replace h := h.1 c0; replace h := qb1 _ h; exact h)⟩
  · obtain ⟨r2, u2, qa1, qb1⟩ := dt_Mo_letter h
    replace h := qb1 _ h
    obtain ⟨r3, u3, qa2, qb2⟩ := dt_Mo_letter h
    replace h := qb2 _ h
    exact ⟨_, _, fun post q => (by unfold wp_Mo_say; exact (pF c0 ((qa1 _ ((qa2 _ (q))))))), fun post h => (by unfold wp_Mo_say at h; replace h := h.2 c0; replace h := qb1 _ h; replace h := qb2 _ h; exact h)⟩
set_option maxHeartbeats 2000000 in
theorem dt_Mo_newLine {z_this : T_Mo} {post : Unit → T_Mo → Prop} (h : wp_Mo_newLine z_this post) : (∃ (w0 : Unit) (w1 : T_Mo), (∀ (post : Unit → T_Mo → Prop), post w0 w1 → wp_Mo_newLine z_this post) ∧ (∀ (post : Unit → T_Mo → Prop), wp_Mo_newLine z_this post → post w0 w1)) := by
  unfold wp_Mo_newLine at h
  obtain ⟨r1, u1, qa0, qb0⟩ := dt_Mo_letter h
  replace h := qb0 _ h
  exact ⟨_, _, fun post q => (by unfold wp_Mo_newLine; exact (qa0 _ (q))), fun post h => (by unfold wp_Mo_newLine at h; replace h := qb0 _ h; exact h)⟩
set_option maxHeartbeats 2000000 in
theorem dt_Mo_word_L2 : ∀ (n9 : Nat) (z_this : T_Mo) (x1 : Int64) (x3 : Int64) (K : T_Mo → Int64 → Int64 → Prop) (post : Unit → T_Mo → Prop), wp_Mo_word_L2 K post n9 z_this x1 x3 → (∃ (w0 : T_Mo) (w1 : Int64) (w2 : Int64), (∀ (K : T_Mo → Int64 → Int64 → Prop) (post : Unit → T_Mo → Prop), K w0 w1 w2 → wp_Mo_word_L2 K post n9 z_this x1 x3) ∧ (∀ (m9 : Nat) (K : T_Mo → Int64 → Int64 → Prop) (post : Unit → T_Mo → Prop), wp_Mo_word_L2 K post m9 z_this x1 x3 → K w0 w1 w2)) ∨ (∃ (w0 : Unit) (w1 : T_Mo), (∀ (K : T_Mo → Int64 → Int64 → Prop) (post : Unit → T_Mo → Prop), post w0 w1 → wp_Mo_word_L2 K post n9 z_this x1 x3) ∧ (∀ (m9 : Nat) (K : T_Mo → Int64 → Int64 → Prop) (post : Unit → T_Mo → Prop), wp_Mo_word_L2 K post m9 z_this x1 x3 → post w0 w1)) := by
  intro n9
  induction n9 with
  | zero => intro z_this x1 x3 K post h; exact False.elim h
  | succ n9 ih =>
    intro z_this x1 x3 K post h
    rw [wp_Mo_word_L2] at h
    rcases br_el h with ⟨c0, h⟩ | ⟨c0, h⟩
    · exact Or.inl ⟨_, _, _, fun K post q => (by rw [wp_Mo_word_L2]; exact (pT c0 (q))), fun m9 K post h => (by cases m9 with | zero => exact False.elim h | succ m9 => (rw [wp_Mo_word_L2] at h; replace h := h.1 c0; exact h))⟩
    · obtain ⟨r1, u1, qa1, qb1⟩ := dt_Mo_say h
      replace h := qb1 _ h
      rcases ih _ _ _ _ _ h with ⟨w2_0, w2_1, w2_2, qa2, qb2⟩ | ⟨w2_0, w2_1, qa2, qb2⟩
      · exact Or.inl ⟨_, _, _, fun K post q => (by rw [wp_Mo_word_L2]; exact (pF c0 ((qa1 _ ((qa2 _ _ (q))))))), fun m9 K post h => (by cases m9 with | zero => exact False.elim h | succ m9 => (rw [wp_Mo_word_L2] at h; replace h := h.2 c0; replace h := qb1 _ h; replace h := qb2 m9 _ _ h; exact h))⟩
      · exact Or.inr (⟨_, _, fun K post q => (by rw [wp_Mo_word_L2]; exact (pF c0 ((qa1 _ ((qa2 _ _ (q))))))), fun m9 K post h => (by cases m9 with | zero => exact False.elim h | succ m9 => (rw [wp_Mo_word_L2] at h; replace h := h.2 c0; replace h := qb1 _ h; replace h := qb2 m9 _ _ h; exact h))⟩)
set_option maxHeartbeats 2000000 in
theorem dt_Mo_word {z_this : T_Mo} {a1 : Int64} {post : Unit → T_Mo → Prop} (h : wp_Mo_word z_this a1 post) : (∃ (w0 : Unit) (w1 : T_Mo), (∀ (post : Unit → T_Mo → Prop), post w0 w1 → wp_Mo_word z_this a1 post) ∧ (∀ (post : Unit → T_Mo → Prop), wp_Mo_word z_this a1 post → post w0 w1)) := by
  unfold wp_Mo_word at h
  obtain ⟨k0, h⟩ := h
  rcases dt_Mo_word_L2 k0 _ _ _ _ _ h with ⟨z_this, x1, x3, qa0, qb0⟩ | ⟨w0_0, w0_1, qa0, qb0⟩
  · replace h := qb0 k0 _ _ h
    exact ⟨_, _, fun post q => (by unfold wp_Mo_word; exact ⟨k0, (qa0 _ _ (q))⟩), fun post h => (by unfold wp_Mo_word at h; obtain ⟨m0, h⟩ := h; replace h := qb0 m0 _ _ h; exact h)⟩
  · exact ⟨_, _, fun post q => (by unfold wp_Mo_word; exact ⟨k0, (qa0 _ _ (q))⟩), fun post h => (by unfold wp_Mo_word at h; obtain ⟨m0, h⟩ := h; replace h := qb0 m0 _ _ h; exact h)⟩
set_option maxHeartbeats 2000000 in
theorem dt_Mo_digitsOf_L2 : ∀ (n9 : Nat) (z_this : T_Mo) (x1 : Int64) (x3 : Int64) (K : T_Mo → Int64 → Int64 → Prop) (post : Unit → T_Mo → Prop), wp_Mo_digitsOf_L2 K post n9 z_this x1 x3 → (∃ (w0 : T_Mo) (w1 : Int64) (w2 : Int64), (∀ (K : T_Mo → Int64 → Int64 → Prop) (post : Unit → T_Mo → Prop), K w0 w1 w2 → wp_Mo_digitsOf_L2 K post n9 z_this x1 x3) ∧ (∀ (m9 : Nat) (K : T_Mo → Int64 → Int64 → Prop) (post : Unit → T_Mo → Prop), wp_Mo_digitsOf_L2 K post m9 z_this x1 x3 → K w0 w1 w2)) ∨ (∃ (w0 : Unit) (w1 : T_Mo), (∀ (K : T_Mo → Int64 → Int64 → Prop) (post : Unit → T_Mo → Prop), post w0 w1 → wp_Mo_digitsOf_L2 K post n9 z_this x1 x3) ∧ (∀ (m9 : Nat) (K : T_Mo → Int64 → Int64 → Prop) (post : Unit → T_Mo → Prop), wp_Mo_digitsOf_L2 K post m9 z_this x1 x3 → post w0 w1)) := by
  intro n9
  induction n9 with
  | zero => intro z_this x1 x3 K post h; exact False.elim h
  | succ n9 ih =>
    intro z_this x1 x3 K post h
    rw [wp_Mo_digitsOf_L2] at h
    obtain ⟨s0, h⟩ := h
    rcases br_el h with ⟨c1, h⟩ | ⟨c1, h⟩
    · exact Or.inl ⟨_, _, _, fun K post q => (by rw [wp_Mo_digitsOf_L2]; exact ⟨s0, (pT c1 (q))⟩), fun m9 K post h => (by cases m9 with | zero => exact False.elim h | succ m9 => (rw [wp_Mo_digitsOf_L2] at h; replace h := h.2; replace h := h.1 c1; exact h))⟩
    · rcases ih _ _ _ _ _ h with ⟨w2_0, w2_1, w2_2, qa2, qb2⟩ | ⟨w2_0, w2_1, qa2, qb2⟩
      · exact Or.inl ⟨_, _, _, fun K post q => (by rw [wp_Mo_digitsOf_L2]; exact ⟨s0, (pF c1 ((qa2 _ _ (q))))⟩), fun m9 K post h => (by cases m9 with | zero => exact False.elim h | succ m9 => (rw [wp_Mo_digitsOf_L2] at h; replace h := h.2; replace h := h.2 c1; replace h := qb2 m9 _ _ h; exact h))⟩
      · exact Or.inr (⟨_, _, fun K post q => (by rw [wp_Mo_digitsOf_L2]; exact ⟨s0, (pF c1 ((qa2 _ _ (q))))⟩), fun m9 K post h => (by cases m9 with | zero => exact False.elim h | succ m9 => (rw [wp_Mo_digitsOf_L2] at h; replace h := h.2; replace h := h.2 c1; replace h := qb2 m9 _ _ h; exact h))⟩)
set_option maxHeartbeats 2000000 in
theorem dt_Mo_digitsOf_L24 : ∀ (n9 : Nat) (z_this : T_Mo) (x1 : Int64) (x3 : Int64) (x5 : Int64) (K : T_Mo → Int64 → Int64 → Int64 → Prop) (post : Unit → T_Mo → Prop), wp_Mo_digitsOf_L24 K post n9 z_this x1 x3 x5 → (∃ (w0 : T_Mo) (w1 : Int64) (w2 : Int64) (w3 : Int64), (∀ (K : T_Mo → Int64 → Int64 → Int64 → Prop) (post : Unit → T_Mo → Prop), K w0 w1 w2 w3 → wp_Mo_digitsOf_L24 K post n9 z_this x1 x3 x5) ∧ (∀ (m9 : Nat) (K : T_Mo → Int64 → Int64 → Int64 → Prop) (post : Unit → T_Mo → Prop), wp_Mo_digitsOf_L24 K post m9 z_this x1 x3 x5 → K w0 w1 w2 w3)) ∨ (∃ (w0 : Unit) (w1 : T_Mo), (∀ (K : T_Mo → Int64 → Int64 → Int64 → Prop) (post : Unit → T_Mo → Prop), post w0 w1 → wp_Mo_digitsOf_L24 K post n9 z_this x1 x3 x5) ∧ (∀ (m9 : Nat) (K : T_Mo → Int64 → Int64 → Int64 → Prop) (post : Unit → T_Mo → Prop), wp_Mo_digitsOf_L24 K post m9 z_this x1 x3 x5 → post w0 w1)) := by
  intro n9
  induction n9 with
  | zero => intro z_this x1 x3 x5 K post h; exact False.elim h
  | succ n9 ih =>
    intro z_this x1 x3 x5 K post h
    rw [wp_Mo_digitsOf_L24] at h
    rcases br_el h with ⟨c0, h⟩ | ⟨c0, h⟩
    · exact Or.inl ⟨_, _, _, _, fun K post q => (by rw [wp_Mo_digitsOf_L24]; exact (pT c0 (q))), fun m9 K post h => (by cases m9 with | zero => exact False.elim h | succ m9 => (rw [wp_Mo_digitsOf_L24] at h; replace h := h.1 c0; exact h))⟩
    · obtain ⟨s1, h⟩ := h
      obtain ⟨r1, u1, qa2, qb2⟩ := dt_Mo_say h
      replace h := qb2 _ h
      rcases ih _ _ _ _ _ _ h with ⟨w3_0, w3_1, w3_2, w3_3, qa3, qb3⟩ | ⟨w3_0, w3_1, qa3, qb3⟩
      · exact Or.inl ⟨_, _, _, _, fun K post q => (by rw [wp_Mo_digitsOf_L24]; exact (pF c0 (⟨s1, (qa2 _ ((qa3 _ _ (q))))⟩))), fun m9 K post h => (by cases m9 with | zero => exact False.elim h | succ m9 => (rw [wp_Mo_digitsOf_L24] at h; replace h := h.2 c0; replace h := h.2; replace h := qb2 _ h; replace h := qb3 m9 _ _ h; exact h))⟩
      · exact Or.inr (⟨_, _, fun K post q => (by rw [wp_Mo_digitsOf_L24]; exact (pF c0 (⟨s1, (qa2 _ ((qa3 _ _ (q))))⟩))), fun m9 K post h => (by cases m9 with | zero => exact False.elim h | succ m9 => (rw [wp_Mo_digitsOf_L24] at h; replace h := h.2 c0; replace h := h.2; replace h := qb2 _ h; replace h := qb3 m9 _ _ h; exact h))⟩)
set_option maxHeartbeats 2000000 in
theorem dt_Mo_digitsOf {z_this : T_Mo} {a1 : Int64} {post : Unit → T_Mo → Prop} (h : wp_Mo_digitsOf z_this a1 post) : (∃ (w0 : Unit) (w1 : T_Mo), (∀ (post : Unit → T_Mo → Prop), post w0 w1 → wp_Mo_digitsOf z_this a1 post) ∧ (∀ (post : Unit → T_Mo → Prop), wp_Mo_digitsOf z_this a1 post → post w0 w1)) := by
  unfold wp_Mo_digitsOf at h
  obtain ⟨k0, h⟩ := h
  rcases dt_Mo_digitsOf_L2 k0 _ _ _ _ _ h with ⟨z_this, x1, x3, qa0, qb0⟩ | ⟨w0_0, w0_1, qa0, qb0⟩
  · replace h := qb0 k0 _ _ h
    obtain ⟨k1, h⟩ := h
    rcases dt_Mo_digitsOf_L24 k1 _ _ _ _ _ _ h with ⟨z_this, x1, x3, x5, qa1, qb1⟩ | ⟨w1_0, w1_1, qa1, qb1⟩
    · replace h := qb1 k1 _ _ h
      exact ⟨_, _, fun post q => (by unfold wp_Mo_digitsOf; exact ⟨k0, (qa0 _ _ (⟨k1, (qa1 _ _ (q))⟩))⟩), fun post h => (by unfold wp_Mo_digitsOf at h; obtain ⟨m0, h⟩ := h; replace h := qb0 m0 _ _ h; obtain ⟨m1, h⟩ := h; replace h := qb1 m1 _ _ h; exact h)⟩
    · exact ⟨_, _, fun post q => (by unfold wp_Mo_digitsOf; exact ⟨k0, (qa0 _ _ (⟨k1, (qa1 _ _ (q))⟩))⟩), fun post h => (by unfold wp_Mo_digitsOf at h; obtain ⟨m0, h⟩ := h; replace h := qb0 m0 _ _ h; obtain ⟨m1, h⟩ := h; replace h := qb1 m1 _ _ h; exact h)⟩
  · exact ⟨_, _, fun post q => (by unfold wp_Mo_digitsOf; exact ⟨k0, (qa0 _ _ (q))⟩), fun post h => (by unfold wp_Mo_digitsOf at h; obtain ⟨m0, h⟩ := h; replace h := qb0 m0 _ _ h; exact h)⟩
set_option maxHeartbeats 2000000 in
theorem dt_Mo_name_L14 : ∀ (n9 : Nat) (z_this : T_Mo) (x1 : Int64) (x3 : Int32) (x4 : Int32) (K : T_Mo → Int64 → Int32 → Int32 → Prop) (post : Unit → T_Mo → Prop), wp_Mo_name_L14 K post n9 z_this x1 x3 x4 → (∃ (w0 : T_Mo) (w1 : Int64) (w2 : Int32) (w3 : Int32), (∀ (K : T_Mo → Int64 → Int32 → Int32 → Prop) (post : Unit → T_Mo → Prop), K w0 w1 w2 w3 → wp_Mo_name_L14 K post n9 z_this x1 x3 x4) ∧ (∀ (m9 : Nat) (K : T_Mo → Int64 → Int32 → Int32 → Prop) (post : Unit → T_Mo → Prop), wp_Mo_name_L14 K post m9 z_this x1 x3 x4 → K w0 w1 w2 w3)) ∨ (∃ (w0 : Unit) (w1 : T_Mo), (∀ (K : T_Mo → Int64 → Int32 → Int32 → Prop) (post : Unit → T_Mo → Prop), post w0 w1 → wp_Mo_name_L14 K post n9 z_this x1 x3 x4) ∧ (∀ (m9 : Nat) (K : T_Mo → Int64 → Int32 → Int32 → Prop) (post : Unit → T_Mo → Prop), wp_Mo_name_L14 K post m9 z_this x1 x3 x4 → post w0 w1)) := by
  intro n9
  induction n9 with
  | zero => intro z_this x1 x3 x4 K post h; exact False.elim h
  | succ n9 ih =>
    intro z_this x1 x3 x4 K post h
    rw [wp_Mo_name_L14] at h
    obtain ⟨s0, h⟩ := h
    rcases br_el h with ⟨c1, h⟩ | ⟨c1, h⟩
    · exact Or.inl ⟨_, _, _, _, fun K post q => (by rw [wp_Mo_name_L14]; exact ⟨s0, (pT c1 (q))⟩), fun m9 K post h => (by cases m9 with | zero => exact False.elim h | succ m9 => (rw [wp_Mo_name_L14] at h; replace h := h.2; replace h := h.1 c1; exact h))⟩
    · obtain ⟨s2, h⟩ := h
      obtain ⟨r1, u1, qa3, qb3⟩ := dt_Mo_say h
      replace h := qb3 _ h
      rcases ih _ _ _ _ _ _ h with ⟨w4_0, w4_1, w4_2, w4_3, qa4, qb4⟩ | ⟨w4_0, w4_1, qa4, qb4⟩
      · exact Or.inl ⟨_, _, _, _, fun K post q => (by rw [wp_Mo_name_L14]; exact ⟨s0, (pF c1 (⟨s2, (qa3 _ ((qa4 _ _ (q))))⟩))⟩), fun m9 K post h => (by cases m9 with | zero => exact False.elim h | succ m9 => (rw [wp_Mo_name_L14] at h; replace h := h.2; replace h := h.2 c1; replace h := h.2; replace h := qb3 _ h; replace h := qb4 m9 _ _ h; exact h))⟩
      · exact Or.inr (⟨_, _, fun K post q => (by rw [wp_Mo_name_L14]; exact ⟨s0, (pF c1 (⟨s2, (qa3 _ ((qa4 _ _ (q))))⟩))⟩), fun m9 K post h => (by cases m9 with | zero => exact False.elim h | succ m9 => (rw [wp_Mo_name_L14] at h; replace h := h.2; replace h := h.2 c1; replace h := h.2; replace h := qb3 _ h; replace h := qb4 m9 _ _ h; exact h))⟩)
set_option maxHeartbeats 2000000 in
theorem dt_Mo_name {z_this : T_Mo} {a1 : Int64} {post : Unit → T_Mo → Prop} (h : wp_Mo_name z_this a1 post) : (∃ (w0 : Unit) (w1 : T_Mo), (∀ (post : Unit → T_Mo → Prop), post w0 w1 → wp_Mo_name z_this a1 post) ∧ (∀ (post : Unit → T_Mo → Prop), wp_Mo_name z_this a1 post → post w0 w1)) := by
  unfold wp_Mo_name at h
  obtain ⟨k0, h⟩ := h
  rcases dt_Mo_name_L14 k0 _ _ _ _ _ _ h with ⟨z_this, x1, x3, x4, qa0, qb0⟩ | ⟨w0_0, w0_1, qa0, qb0⟩
  · replace h := qb0 k0 _ _ h
    exact ⟨_, _, fun post q => (by unfold wp_Mo_name; exact ⟨k0, (qa0 _ _ (q))⟩), fun post h => (by unfold wp_Mo_name at h; obtain ⟨m0, h⟩ := h; replace h := qb0 m0 _ _ h; exact h)⟩
  · exact ⟨_, _, fun post q => (by unfold wp_Mo_name; exact ⟨k0, (qa0 _ _ (q))⟩), fun post h => (by unfold wp_Mo_name at h; obtain ⟨m0, h⟩ := h; replace h := qb0 m0 _ _ h; exact h)⟩
set_option maxHeartbeats 2000000 in
theorem dt_Mo_unitWord1_J55 {z_this : T_Mo} {x1 : Int32} {post : Unit → T_Mo → Prop} (h : wp_Mo_unitWord1_J55 post z_this x1) : (∃ (w0 : Unit) (w1 : T_Mo), (∀ (post : Unit → T_Mo → Prop), post w0 w1 → wp_Mo_unitWord1_J55 post z_this x1) ∧ (∀ (post : Unit → T_Mo → Prop), wp_Mo_unitWord1_J55 post z_this x1 → post w0 w1)) := by
  unfold wp_Mo_unitWord1_J55 at h
  exact ⟨_, _, fun post q => (by unfold wp_Mo_unitWord1_J55; exact q), fun post h => (by unfold wp_Mo_unitWord1_J55 at h; exact h)⟩
set_option maxHeartbeats 2000000 in
theorem dt_Mo_unitWord1_J52 {z_this : T_Mo} {x1 : Int32} {y0 : Int64} {post : Unit → T_Mo → Prop} (h : wp_Mo_unitWord1_J52 post z_this x1 y0) : (∃ (w0 : Unit) (w1 : T_Mo), (∀ (post : Unit → T_Mo → Prop), post w0 w1 → wp_Mo_unitWord1_J52 post z_this x1 y0) ∧ (∀ (post : Unit → T_Mo → Prop), wp_Mo_unitWord1_J52 post z_this x1 y0 → post w0 w1)) := by
  unfold wp_Mo_unitWord1_J52 at h
  obtain ⟨r1, u1, qa0, qb0⟩ := dt_Mo_word h
  replace h := qb0 _ h
  obtain ⟨w1_0, w1_1, qa1, qb1⟩ := dt_Mo_unitWord1_J55 h
  exact ⟨_, _, fun post q => (by unfold wp_Mo_unitWord1_J52; exact (qa0 _ ((qa1 _ (q))))), fun post h => (by unfold wp_Mo_unitWord1_J52 at h; replace h := qb0 _ h; replace h := qb1 _ h; exact h)⟩
set_option maxHeartbeats 2000000 in
theorem dt_Mo_unitWord1 {z_this : T_Mo} {a1 : Int32} {post : Unit → T_Mo → Prop} (h : wp_Mo_unitWord1 z_this a1 post) : (∃ (w0 : Unit) (w1 : T_Mo), (∀ (post : Unit → T_Mo → Prop), post w0 w1 → wp_Mo_unitWord1 z_this a1 post) ∧ (∀ (post : Unit → T_Mo → Prop), wp_Mo_unitWord1 z_this a1 post → post w0 w1)) := by
  unfold wp_Mo_unitWord1 at h
  rcases br_el h with ⟨c0, h⟩ | ⟨c0, h⟩
  · obtain ⟨w1_0, w1_1, qa1, qb1⟩ := dt_Mo_unitWord1_J55 h
    exact ⟨_, _, fun post q => (by unfold wp_Mo_unitWord1; exact (pT c0 ((qa1 _ (q))))), fun post h => (by unfold wp_Mo_unitWord1 at h; replace h := h.1 c0; replace h := qb1 _ h; exact h)⟩
  · rcases br_el h with ⟨c1, h⟩ | ⟨c1, h⟩
    · obtain ⟨w2_0, w2_1, qa2, qb2⟩ := dt_Mo_unitWord1_J52 h
      exact ⟨_, _, fun post q => (by unfold wp_Mo_unitWord1; exact (pF c0 ((pT c1 ((qa2 _ (q))))))), fun post h => (by unfold wp_Mo_unitWord1 at h; replace h := h.2 c0; replace h := h.1 c1; replace h := qb2 _ h; exact h)⟩
    · rcases br_el h with ⟨c2, h⟩ | ⟨c2, h⟩
      · obtain ⟨w3_0, w3_1, qa3, qb3⟩ := dt_Mo_unitWord1_J52 h
        exact ⟨_, _, fun post q => (by unfold wp_Mo_unitWord1; exact (pF c0 ((pF c1 ((pT c2 ((qa3 _ (q))))))))), fun post h => (by unfold wp_Mo_unitWord1 at h; replace h := h.2 c0; replace h := h.2 c1; replace h := h.1 c2; replace h := qb3 _ h; exact h)⟩
      · rcases br_el h with ⟨c3, h⟩ | ⟨c3, h⟩
        · obtain ⟨w4_0, w4_1, qa4, qb4⟩ := dt_Mo_unitWord1_J52 h
          exact ⟨_, _, fun post q => (by unfold wp_Mo_unitWord1; exact (pF c0 ((pF c1 ((pF c2 ((pT c3 ((qa4 _ (q))))))))))), fun post h => (by unfold wp_Mo_unitWord1 at h; replace h := h.2 c0; replace h := h.2 c1; replace h := h.2 c2; replace h := h.1 c3; replace h := qb4 _ h; exact h)⟩
        · rcases br_el h with ⟨c4, h⟩ | ⟨c4, h⟩
          · obtain ⟨w5_0, w5_1, qa5, qb5⟩ := dt_Mo_unitWord1_J52 h
            exact ⟨_, _, fun post q => (by unfold wp_Mo_unitWord1; exact (pF c0 ((pF c1 ((pF c2 ((pF c3 ((pT c4 ((qa5 _ (q))))))))))))), fun post h => (by unfold wp_Mo_unitWord1 at h; replace h := h.2 c0; replace h := h.2 c1; replace h := h.2 c2; replace h := h.2 c3; replace h := h.1 c4; replace h := qb5 _ h; exact h)⟩
          · obtain ⟨w5_0, w5_1, qa5, qb5⟩ := dt_Mo_unitWord1_J52 h
            exact ⟨_, _, fun post q => (by unfold wp_Mo_unitWord1; exact (pF c0 ((pF c1 ((pF c2 ((pF c3 ((pF c4 ((qa5 _ (q))))))))))))), fun post h => (by unfold wp_Mo_unitWord1 at h; replace h := h.2 c0; replace h := h.2 c1; replace h := h.2 c2; replace h := h.2 c3; replace h := h.2 c4; replace h := qb5 _ h; exact h)⟩
set_option maxHeartbeats 2000000 in
theorem dt_Mo_numberOut_L45 : ∀ (n9 : Nat) (z_this : T_Mo) (x1 : Int32) (x2 : Int64) (x4 : Int64) (x6 : Int64) (K : T_Mo → Int32 → Int64 → Int64 → Int64 → Prop) (post : Unit → T_Mo → Prop), wp_Mo_numberOut_L45 K post n9 z_this x1 x2 x4 x6 → (∃ (w0 : T_Mo) (w1 : Int32) (w2 : Int64) (w3 : Int64) (w4 : Int64), (∀ (K : T_Mo → Int32 → Int64 → Int64 → Int64 → Prop) (post : Unit → T_Mo → Prop), K w0 w1 w2 w3 w4 → wp_Mo_numberOut_L45 K post n9 z_this x1 x2 x4 x6) ∧ (∀ (m9 : Nat) (K : T_Mo → Int32 → Int64 → Int64 → Int64 → Prop) (post : Unit → T_Mo → Prop), wp_Mo_numberOut_L45 K post m9 z_this x1 x2 x4 x6 → K w0 w1 w2 w3 w4)) ∨ (∃ (w0 : Unit) (w1 : T_Mo), (∀ (K : T_Mo → Int32 → Int64 → Int64 → Int64 → Prop) (post : Unit → T_Mo → Prop), post w0 w1 → wp_Mo_numberOut_L45 K post n9 z_this x1 x2 x4 x6) ∧ (∀ (m9 : Nat) (K : T_Mo → Int32 → Int64 → Int64 → Int64 → Prop) (post : Unit → T_Mo → Prop), wp_Mo_numberOut_L45 K post m9 z_this x1 x2 x4 x6 → post w0 w1)) := by
  intro n9
  induction n9 with
  | zero => intro z_this x1 x2 x4 x6 K post h; exact False.elim h
  | succ n9 ih =>
    intro z_this x1 x2 x4 x6 K post h
    rw [wp_Mo_numberOut_L45] at h
    rcases br_el h with ⟨c0, h⟩ | ⟨c0, h⟩
    · exact Or.inl ⟨_, _, _, _, _, fun K post q => (by rw [wp_Mo_numberOut_L45]; exact (pT c0 (q))), fun m9 K post h => (by cases m9 with | zero => exact False.elim h | succ m9 => (rw [wp_Mo_numberOut_L45] at h; replace h := h.1 c0; exact h))⟩
    · obtain ⟨s1, h⟩ := h
      obtain ⟨r3, u3, qa2, qb2⟩ := dt_Mo_say h
      replace h := qb2 _ h
      obtain ⟨s3, h⟩ := h
      rcases ih _ _ _ _ _ _ _ h with ⟨w4_0, w4_1, w4_2, w4_3, w4_4, qa4, qb4⟩ | ⟨w4_0, w4_1, qa4, qb4⟩
      · exact Or.inl ⟨_, _, _, _, _, fun K post q => (by rw [wp_Mo_numberOut_L45]; exact (pF c0 (⟨s1, (qa2 _ (⟨s3, (qa4 _ _ (q))⟩))⟩))), fun m9 K post h => (by cases m9 with | zero => exact False.elim h | succ m9 => (rw [wp_Mo_numberOut_L45] at h; replace h := h.2 c0; replace h := h.2; replace h := qb2 _ h; replace h := h.2; replace h := qb4 m9 _ _ h; exact h))⟩
      · exact Or.inr (⟨_, _, fun K post q => (by rw [wp_Mo_numberOut_L45]; exact (pF c0 (⟨s1, (qa2 _ (⟨s3, (qa4 _ _ (q))⟩))⟩))), fun m9 K post h => (by cases m9 with | zero => exact False.elim h | succ m9 => (rw [wp_Mo_numberOut_L45] at h; replace h := h.2 c0; replace h := h.2; replace h := qb2 _ h; replace h := h.2; replace h := qb4 m9 _ _ h; exact h))⟩)
set_option maxHeartbeats 2000000 in
theorem dt_Mo_numberOut {z_this : T_Mo} {a1 : Int32} {post : Unit → T_Mo → Prop} (h : wp_Mo_numberOut z_this a1 post) : (∃ (w0 : Unit) (w1 : T_Mo), (∀ (post : Unit → T_Mo → Prop), post w0 w1 → wp_Mo_numberOut z_this a1 post) ∧ (∀ (post : Unit → T_Mo → Prop), wp_Mo_numberOut z_this a1 post → post w0 w1)) := by
  unfold wp_Mo_numberOut at h
  obtain ⟨r1, u1, qa0, qb0⟩ := dt_Mo_node1 h
  replace h := qb0 _ h
  obtain ⟨s1, h⟩ := h
  obtain ⟨r2, u2, qa2, qb2⟩ := dt_Mo_digitsOf h
  replace h := qb2 _ h
  rcases br_el h with ⟨c3, h⟩ | ⟨c3, h⟩
  · obtain ⟨k4, h⟩ := h
    rcases dt_Mo_numberOut_L45 k4 _ _ _ _ _ _ _ h with ⟨z_this, x1, x2, x4, x6, qa4, qb4⟩ | ⟨w4_0, w4_1, qa4, qb4⟩
    · replace h := qb4 k4 _ _ h
      obtain ⟨r4, u4, qa5, qb5⟩ := dt_Mo_node1 h
      replace h := qb5 _ h
      obtain ⟨s6, h⟩ := h
      obtain ⟨r5, u5, qa7, qb7⟩ := dt_Mo_unitWord1 h
      replace h := qb7 _ h
      exact ⟨_, _, fun post q => (by unfold wp_Mo_numberOut; exact (qa0 _ (⟨s1, (qa2 _ ((pT c3 (⟨k4, (qa4 _ _ ((qa5 _ (⟨s6, (qa7 _ (q))⟩))))⟩))))⟩))), fun post h => (by unfold wp_Mo_numberOut at h; replace h := qb0 _ h; replace h := h.2; replace h := qb2 _ h; replace h := h.1 c3; obtain ⟨m4, h⟩ := h; replace h := qb4 m4 _ _ h; replace h := qb5 _ h; replace h := h.2; replace h := qb7 _ h; exact h)⟩
    · exact ⟨_, _, fun post q => (by unfold wp_Mo_numberOut; exact (qa0 _ (⟨s1, (qa2 _ ((pT c3 (⟨k4, (qa4 _ _ (q))⟩))))⟩))), fun post h => (by unfold wp_Mo_numberOut at h; replace h := qb0 _ h; replace h := h.2; replace h := qb2 _ h; replace h := h.1 c3; obtain ⟨m4, h⟩ := h; replace h := qb4 m4 _ _ h; exact h)⟩
  · obtain ⟨r6, u6, qa4, qb4⟩ := dt_Mo_say h
    replace h := qb4 _ h
    obtain ⟨k5, h⟩ := h
    rcases dt_Mo_numberOut_L45 k5 _ _ _ _ _ _ _ h with ⟨z_this, x1, x2, x4, x6, qa5, qb5⟩ | ⟨w5_0, w5_1, qa5, qb5⟩
    · replace h := qb5 k5 _ _ h
      obtain ⟨r7, u7, qa6, qb6⟩ := dt_Mo_node1 h
      replace h := qb6 _ h
      obtain ⟨s7, h⟩ := h
      obtain ⟨r8, u8, qa8, qb8⟩ := dt_Mo_unitWord1 h
      replace h := qb8 _ h
      exact ⟨_, _, fun post q => (by unfold wp_Mo_numberOut; exact (qa0 _ (⟨s1, (qa2 _ ((pF c3 ((qa4 _ (⟨k5, (qa5 _ _ ((qa6 _ (⟨s7, (qa8 _ (q))⟩))))⟩))))))⟩))), fun post h => (by unfold wp_Mo_numberOut at h; replace h := qb0 _ h; replace h := h.2; replace h := qb2 _ h; replace h := h.2 c3; replace h := qb4 _ h; obtain ⟨m5, h⟩ := h; replace h := qb5 m5 _ _ h; replace h := qb6 _ h; replace h := h.2; replace h := qb8 _ h; exact h)⟩
    · exact ⟨_, _, fun post q => (by unfold wp_Mo_numberOut; exact (qa0 _ (⟨s1, (qa2 _ ((pF c3 ((qa4 _ (⟨k5, (qa5 _ _ (q))⟩))))))⟩))), fun post h => (by unfold wp_Mo_numberOut at h; replace h := qb0 _ h; replace h := h.2; replace h := qb2 _ h; replace h := h.2 c3; replace h := qb4 _ h; obtain ⟨m5, h⟩ := h; replace h := qb5 m5 _ _ h; exact h)⟩
set_option maxHeartbeats 2000000 in
theorem dt_Mo_isSum {a0 : Int32} {post : Int32 → Unit → Prop} (h : wp_Mo_isSum a0 post) : (∃ (w0 : Int32) (w1 : Unit), (∀ (post : Int32 → Unit → Prop), post w0 w1 → wp_Mo_isSum a0 post) ∧ (∀ (post : Int32 → Unit → Prop), wp_Mo_isSum a0 post → post w0 w1)) := by
  unfold wp_Mo_isSum at h
  rcases br_el h with ⟨c0, h⟩ | ⟨c0, h⟩
  · exact ⟨_, _, fun post q => (by unfold wp_Mo_isSum; exact (pT c0 (q))), fun post h => (by unfold wp_Mo_isSum at h; replace h := h.1 c0; exact h)⟩
  · rcases br_el h with ⟨c1, h⟩ | ⟨c1, h⟩
    · exact ⟨_, _, fun post q => (by unfold wp_Mo_isSum; exact (pF c0 ((pT c1 (q))))), fun post h => (by unfold wp_Mo_isSum at h; replace h := h.2 c0; replace h := h.1 c1; exact h)⟩
    · exact ⟨_, _, fun post q => (by unfold wp_Mo_isSum; exact (pF c0 ((pF c1 (q))))), fun post h => (by unfold wp_Mo_isSum at h; replace h := h.2 c0; replace h := h.2 c1; exact h)⟩
set_option maxHeartbeats 2000000 in
theorem dt_Mo_isProduct {a0 : Int32} {post : Int32 → Unit → Prop} (h : wp_Mo_isProduct a0 post) : (∃ (w0 : Int32) (w1 : Unit), (∀ (post : Int32 → Unit → Prop), post w0 w1 → wp_Mo_isProduct a0 post) ∧ (∀ (post : Int32 → Unit → Prop), wp_Mo_isProduct a0 post → post w0 w1)) := by
  unfold wp_Mo_isProduct at h
  rcases br_el h with ⟨c0, h⟩ | ⟨c0, h⟩
  · exact ⟨_, _, fun post q => (by unfold wp_Mo_isProduct; exact (pT c0 (q))), fun post h => (by unfold wp_Mo_isProduct at h; replace h := h.1 c0; exact h)⟩
  · rcases br_el h with ⟨c1, h⟩ | ⟨c1, h⟩
    · exact ⟨_, _, fun post q => (by unfold wp_Mo_isProduct; exact (pF c0 ((pT c1 (q))))), fun post h => (by unfold wp_Mo_isProduct at h; replace h := h.2 c0; replace h := h.1 c1; exact h)⟩
    · exact ⟨_, _, fun post q => (by unfold wp_Mo_isProduct; exact (pF c0 ((pF c1 (q))))), fun post h => (by unfold wp_Mo_isProduct at h; replace h := h.2 c0; replace h := h.2 c1; exact h)⟩
set_option maxHeartbeats 2000000 in
theorem dt_Mo_clear_L22 : ∀ (n9 : Nat) (z_this : T_Mo) (x1 : Int32) (K : T_Mo → Int32 → Prop) (post : Unit → T_Mo → Prop), wp_Mo_clear_L22 K post n9 z_this x1 → (∃ (w0 : T_Mo) (w1 : Int32), (∀ (K : T_Mo → Int32 → Prop) (post : Unit → T_Mo → Prop), K w0 w1 → wp_Mo_clear_L22 K post n9 z_this x1) ∧ (∀ (m9 : Nat) (K : T_Mo → Int32 → Prop) (post : Unit → T_Mo → Prop), wp_Mo_clear_L22 K post m9 z_this x1 → K w0 w1)) ∨ (∃ (w0 : Unit) (w1 : T_Mo), (∀ (K : T_Mo → Int32 → Prop) (post : Unit → T_Mo → Prop), post w0 w1 → wp_Mo_clear_L22 K post n9 z_this x1) ∧ (∀ (m9 : Nat) (K : T_Mo → Int32 → Prop) (post : Unit → T_Mo → Prop), wp_Mo_clear_L22 K post m9 z_this x1 → post w0 w1)) := by
  intro n9
  induction n9 with
  | zero => intro z_this x1 K post h; exact False.elim h
  | succ n9 ih =>
    intro z_this x1 K post h
    rw [wp_Mo_clear_L22] at h
    rcases br_el h with ⟨c0, h⟩ | ⟨c0, h⟩
    · exact Or.inl ⟨_, _, fun K post q => (by rw [wp_Mo_clear_L22]; exact (pT c0 (q))), fun m9 K post h => (by cases m9 with | zero => exact False.elim h | succ m9 => (rw [wp_Mo_clear_L22] at h; replace h := h.1 c0; exact h))⟩
    · obtain ⟨s1, h⟩ := h
      rcases ih _ _ _ _ h with ⟨w2_0, w2_1, qa2, qb2⟩ | ⟨w2_0, w2_1, qa2, qb2⟩
      · exact Or.inl ⟨_, _, fun K post q => (by rw [wp_Mo_clear_L22]; exact (pF c0 (⟨s1, (qa2 _ _ (q))⟩))), fun m9 K post h => (by cases m9 with | zero => exact False.elim h | succ m9 => (rw [wp_Mo_clear_L22] at h; replace h := h.2 c0; replace h := h.2; replace h := qb2 m9 _ _ h; exact h))⟩
      · exact Or.inr (⟨_, _, fun K post q => (by rw [wp_Mo_clear_L22]; exact (pF c0 (⟨s1, (qa2 _ _ (q))⟩))), fun m9 K post h => (by cases m9 with | zero => exact False.elim h | succ m9 => (rw [wp_Mo_clear_L22] at h; replace h := h.2 c0; replace h := h.2; replace h := qb2 m9 _ _ h; exact h))⟩)
set_option maxHeartbeats 2000000 in
theorem dt_Mo_clear {z_this : T_Mo} {post : Unit → T_Mo → Prop} (h : wp_Mo_clear z_this post) : (∃ (w0 : Unit) (w1 : T_Mo), (∀ (post : Unit → T_Mo → Prop), post w0 w1 → wp_Mo_clear z_this post) ∧ (∀ (post : Unit → T_Mo → Prop), wp_Mo_clear z_this post → post w0 w1)) := by
  unfold wp_Mo_clear at h
  obtain ⟨k0, h⟩ := h
  rcases dt_Mo_clear_L22 k0 _ _ _ _ h with ⟨z_this, x1, qa0, qb0⟩ | ⟨w0_0, w0_1, qa0, qb0⟩
  · replace h := qb0 k0 _ _ h
    exact ⟨_, _, fun post q => (by unfold wp_Mo_clear; exact ⟨k0, (qa0 _ _ (q))⟩), fun post h => (by unfold wp_Mo_clear at h; obtain ⟨m0, h⟩ := h; replace h := qb0 m0 _ _ h; exact h)⟩
  · exact ⟨_, _, fun post q => (by unfold wp_Mo_clear; exact ⟨k0, (qa0 _ _ (q))⟩), fun post h => (by unfold wp_Mo_clear at h; obtain ⟨m0, h⟩ := h; replace h := qb0 m0 _ _ h; exact h)⟩
set_option maxHeartbeats 2000000 in
theorem dt_Mo_product_L5 {rf : T_Mo → (Int32 → T_Mo → Prop) → Prop} (hrf : ∀ (v0 : T_Mo) (post : (Int32 → T_Mo → Prop)), rf v0 post → (∃ (w0 : Int32) (w1 : T_Mo), (∀ (post : (Int32 → T_Mo → Prop)), post w0 w1 → rf v0 post) ∧ (∀ (post : (Int32 → T_Mo → Prop)), rf v0 post → post w0 w1))) : ∀ (n9 : Nat) (z_this : T_Mo) (x1 : Int32) (K : T_Mo → Int32 → Prop) (post : Int32 → T_Mo → Prop), wp_Mo_product_L5 rf K post n9 z_this x1 → (∃ (w0 : T_Mo) (w1 : Int32), (∀ (K : T_Mo → Int32 → Prop) (post : Int32 → T_Mo → Prop), K w0 w1 → wp_Mo_product_L5 rf K post n9 z_this x1) ∧ (∀ (m9 : Nat) (K : T_Mo → Int32 → Prop) (post : Int32 → T_Mo → Prop), wp_Mo_product_L5 rf K post m9 z_this x1 → K w0 w1)) ∨ (∃ (w0 : Int32) (w1 : T_Mo), (∀ (K : T_Mo → Int32 → Prop) (post : Int32 → T_Mo → Prop), post w0 w1 → wp_Mo_product_L5 rf K post n9 z_this x1) ∧ (∀ (m9 : Nat) (K : T_Mo → Int32 → Prop) (post : Int32 → T_Mo → Prop), wp_Mo_product_L5 rf K post m9 z_this x1 → post w0 w1)) := by
  intro n9
  induction n9 with
  | zero => intro z_this x1 K post h; exact False.elim h
  | succ n9 ih =>
    intro z_this x1 K post h
    rw [wp_Mo_product_L5] at h
    rcases br_el h with ⟨c0, h⟩ | ⟨c0, h⟩
    · exact Or.inl ⟨_, _, fun K post q => (by rw [wp_Mo_product_L5]; exact (pT c0 (q))), fun m9 K post h => (by cases m9 with | zero => exact False.elim h | succ m9 => (rw [wp_Mo_product_L5] at h; replace h := h.1 c0; exact h))⟩
    · rcases br_el h with ⟨c1, h⟩ | ⟨c1, h⟩
      · rcases br_el h with ⟨c2, h⟩ | ⟨c2, h⟩
        · obtain ⟨r20, u20, qa3, qb3⟩ := dt_Mo_go h
          replace h := qb3 _ h
          rcases br_el h with ⟨c4, h⟩ | ⟨c4, h⟩
          · rcases br_el h with ⟨c5, h⟩ | ⟨c5, h⟩
            · exact absurd c5 (by decide)
            · exact Or.inr (⟨_, _, fun K post q => (by rw [wp_Mo_product_L5]; exact (pF c0 ((pT c1 ((pT c2 ((qa3 _ ((pT c4 ((pF c5 (q))))))))))))), fun m9 K post h => (by cases m9 with | zero => exact False.elim h | succ m9 => (rw [wp_Mo_product_L5] at h; replace h := h.2 c0; replace h := h.1 c1; replace h := h.1 c2; replace h := qb3 _ h; replace h := h.1 c4; replace h := h.2 c5; exact h))⟩)
          · obtain ⟨r29, u29, qa5, qb5⟩ := hrf _ _ h
            replace h := qb5 _ h
            rcases br_el h with ⟨c6, h⟩ | ⟨c6, h⟩
            · obtain ⟨r30, u30, qa7, qb7⟩ := dt_Mo_unitIn h
              replace h := qb7 _ h
              obtain ⟨r31, u31, qa8, qb8⟩ := dt_Mo_unitIn h
              replace h := qb8 _ h
              rcases br_el h with ⟨c9, h⟩ | ⟨c9, h⟩
              · rcases br_el h with ⟨c10, h⟩ | ⟨c10, h⟩
                · rcases br_el h with ⟨c11, h⟩ | ⟨c11, h⟩
                  · exact Or.inr (⟨_, _, fun K post q => (by rw [wp_Mo_product_L5]; exact (pF c0 ((pT c1 ((pT c2 ((qa3 _ ((pF c4 ((qa5 _ ((pT c6 ((qa7 _ ((qa8 _ ((pT c9 ((pT c10 ((pT c11 (q))))))))))))))))))))))))), fun m9 K post h => (by cases m9 with | zero => exact False.elim h | succ m9 => (rw [wp_Mo_product_L5] at h; replace h := h.2 c0; replace h := h.1 c1; replace h := h.1 c2; replace h := qb3 _ h; replace h := h.2 c4; replace h := qb5 _ h; replace h := h.1 c6; replace h := qb7 _ h; replace h := qb8 _ h; replace h := h.1 c9; replace h := h.1 c10; replace h := h.1 c11; exact h))⟩)
                  · obtain ⟨r37, u37, qa12, qb12⟩ := dt_Mo_two h
                    replace h := qb12 _ h
                    rcases ih _ _ _ _ h with ⟨w13_0, w13_1, qa13, qb13⟩ | ⟨w13_0, w13_1, qa13, qb13⟩
                    · exact Or.inl ⟨_, _, fun K post q => (by rw [wp_Mo_product_L5]; exact (pF c0 ((pT c1 ((pT c2 ((qa3 _ ((pF c4 ((qa5 _ ((pT c6 ((qa7 _ ((qa8 _ ((pT c9 ((pT c10 ((pF c11 ((qa12 _ ((qa13 _ _ (q))))))))))))))))))))))))))))), fun m9 K post h => (by cases m9 with | zero => exact False.elim h | succ m9 => (rw [wp_Mo_product_L5] at h; replace h := h.2 c0; replace h := h.1 c1; replace h := h.1 c2; replace h := qb3 _ h; replace h := h.2 c4; replace h := qb5 _ h; replace h := h.1 c6; replace h := qb7 _ h; replace h := qb8 _ h; replace h := h.1 c9; replace h := h.1 c10; replace h := h.2 c11; replace h := qb12 _ h; replace h := qb13 m9 _ _ h; exact h))⟩
                    · exact Or.inr (⟨_, _, fun K post q => (by rw [wp_Mo_product_L5]; exact (pF c0 ((pT c1 ((pT c2 ((qa3 _ ((pF c4 ((qa5 _ ((pT c6 ((qa7 _ ((qa8 _ ((pT c9 ((pT c10 ((pF c11 ((qa12 _ ((qa13 _ _ (q))))))))))))))))))))))))))))), fun m9 K post h => (by cases m9 with | zero => exact False.elim h | succ m9 => (rw [wp_Mo_product_L5] at h; replace h := h.2 c0; replace h := h.1 c1; replace h := h.1 c2; replace h := qb3 _ h; replace h := h.2 c4; replace h := qb5 _ h; replace h := h.1 c6; replace h := qb7 _ h; replace h := qb8 _ h; replace h := h.1 c9; replace h := h.1 c10; replace h := h.2 c11; replace h := qb12 _ h; replace h := qb13 m9 _ _ h; exact h))⟩)
                · rcases br_el h with ⟨c11, h⟩ | ⟨c11, h⟩
                  · rcases br_el h with ⟨c12, h⟩ | ⟨c12, h⟩
                    · exact Or.inr (⟨_, _, fun K post q => (by rw [wp_Mo_product_L5]; exact (pF c0 ((pT c1 ((pT c2 ((qa3 _ ((pF c4 ((qa5 _ ((pT c6 ((qa7 _ ((qa8 _ ((pT c9 ((pF c10 ((pT c11 ((pT c12 (q))))))))))))))))))))))))))), fun m9 K post h => (by cases m9 with | zero => exact False.elim h | succ m9 => (rw [wp_Mo_product_L5] at h; replace h := h.2 c0; replace h := h.1 c1; replace h := h.1 c2; replace h := qb3 _ h; replace h := h.2 c4; replace h := qb5 _ h; replace h := h.1 c6; replace h := qb7 _ h; replace h := qb8 _ h; replace h := h.1 c9; replace h := h.2 c10; replace h := h.1 c11; replace h := h.1 c12; exact h))⟩)
                    · obtain ⟨r36, u36, qa13, qb13⟩ := dt_Mo_two h
                      replace h := qb13 _ h
                      rcases ih _ _ _ _ h with ⟨w14_0, w14_1, qa14, qb14⟩ | ⟨w14_0, w14_1, qa14, qb14⟩
                      · exact Or.inl ⟨_, _, fun K post q => (by rw [wp_Mo_product_L5]; exact (pF c0 ((pT c1 ((pT c2 ((qa3 _ ((pF c4 ((qa5 _ ((pT c6 ((qa7 _ ((qa8 _ ((pT c9 ((pF c10 ((pT c11 ((pF c12 ((qa13 _ ((qa14 _ _ (q))))))))))))))))))))))))))))))), fun m9 K post h => (by cases m9 with | zero => exact False.elim h | succ m9 => (rw [wp_Mo_product_L5] at h; replace h := h.2 c0; replace h := h.1 c1; replace h := h.1 c2; replace h := qb3 _ h; replace h := h.2 c4; replace h := qb5 _ h; replace h := h.1 c6; replace h := qb7 _ h; replace h := qb8 _ h; replace h := h.1 c9; replace h := h.2 c10; replace h := h.1 c11; replace h := h.2 c12; replace h := qb13 _ h; replace h := qb14 m9 _ _ h; exact h))⟩
                      · exact Or.inr (⟨_, _, fun K post q => (by rw [wp_Mo_product_L5]; exact (pF c0 ((pT c1 ((pT c2 ((qa3 _ ((pF c4 ((qa5 _ ((pT c6 ((qa7 _ ((qa8 _ ((pT c9 ((pF c10 ((pT c11 ((pF c12 ((qa13 _ ((qa14 _ _ (q))))))))))))))))))))))))))))))), fun m9 K post h => (by cases m9 with | zero => exact False.elim h | succ m9 => (rw [wp_Mo_product_L5] at h; replace h := h.2 c0; replace h := h.1 c1; replace h := h.1 c2; replace h := qb3 _ h; replace h := h.2 c4; replace h := qb5 _ h; replace h := h.1 c6; replace h := qb7 _ h; replace h := qb8 _ h; replace h := h.1 c9; replace h := h.2 c10; replace h := h.1 c11; replace h := h.2 c12; replace h := qb13 _ h; replace h := qb14 m9 _ _ h; exact h))⟩)
                  · rcases br_el h with ⟨c12, h⟩ | ⟨c12, h⟩
                    · exact Or.inr (⟨_, _, fun K post q => (by rw [wp_Mo_product_L5]; exact (pF c0 ((pT c1 ((pT c2 ((qa3 _ ((pF c4 ((qa5 _ ((pT c6 ((qa7 _ ((qa8 _ ((pT c9 ((pF c10 ((pF c11 ((pT c12 (q))))))))))))))))))))))))))), fun m9 K post h => (by cases m9 with | zero => exact False.elim h | succ m9 => (rw [wp_Mo_product_L5] at h; replace h := h.2 c0; replace h := h.1 c1; replace h := h.1 c2; replace h := qb3 _ h; replace h := h.2 c4; replace h := qb5 _ h; replace h := h.1 c6; replace h := qb7 _ h; replace h := qb8 _ h; replace h := h.1 c9; replace h := h.2 c10; replace h := h.2 c11; replace h := h.1 c12; exact h))⟩)
                    · exact absurd (by decide) c12
              · exact absurd (by decide) c9
            · exact Or.inr (⟨_, _, fun K post q => (by rw [wp_Mo_product_L5]; exact (pF c0 ((pT c1 ((pT c2 ((qa3 _ ((pF c4 ((qa5 _ ((pF c6 (q))))))))))))))), fun m9 K post h => (by cases m9 with | zero => exact False.elim h | succ m9 => (rw [wp_Mo_product_L5] at h; replace h := h.2 c0; replace h := h.1 c1; replace h := h.1 c2; replace h := qb3 _ h; replace h := h.2 c4; replace h := qb5 _ h; replace h := h.2 c6; exact h))⟩)
        · obtain ⟨r2, u2, qa3, qb3⟩ := dt_Mo_go h
          replace h := qb3 _ h
          rcases br_el h with ⟨c4, h⟩ | ⟨c4, h⟩
          · rcases br_el h with ⟨c5, h⟩ | ⟨c5, h⟩
            · exact absurd c5 (by decide)
            · exact Or.inr (⟨_, _, fun K post q => (by rw [wp_Mo_product_L5]; exact (pF c0 ((pT c1 ((pF c2 ((qa3 _ ((pT c4 ((pF c5 (q))))))))))))), fun m9 K post h => (by cases m9 with | zero => exact False.elim h | succ m9 => (rw [wp_Mo_product_L5] at h; replace h := h.2 c0; replace h := h.1 c1; replace h := h.2 c2; replace h := qb3 _ h; replace h := h.1 c4; replace h := h.2 c5; exact h))⟩)
          · obtain ⟨r11, u11, qa5, qb5⟩ := hrf _ _ h
            replace h := qb5 _ h
            rcases br_el h with ⟨c6, h⟩ | ⟨c6, h⟩
            · obtain ⟨r12, u12, qa7, qb7⟩ := dt_Mo_unitIn h
              replace h := qb7 _ h
              obtain ⟨r13, u13, qa8, qb8⟩ := dt_Mo_unitIn h
              replace h := qb8 _ h
              rcases br_el h with ⟨c9, h⟩ | ⟨c9, h⟩
              · exact absurd c9 (by decide)
              · rcases br_el h with ⟨c10, h⟩ | ⟨c10, h⟩
                · rcases br_el h with ⟨c11, h⟩ | ⟨c11, h⟩
                  · exact Or.inr (⟨_, _, fun K post q => (by rw [wp_Mo_product_L5]; exact (pF c0 ((pT c1 ((pF c2 ((qa3 _ ((pF c4 ((qa5 _ ((pT c6 ((qa7 _ ((qa8 _ ((pF c9 ((pT c10 ((pT c11 (q))))))))))))))))))))))))), fun m9 K post h => (by cases m9 with | zero => exact False.elim h | succ m9 => (rw [wp_Mo_product_L5] at h; replace h := h.2 c0; replace h := h.1 c1; replace h := h.2 c2; replace h := qb3 _ h; replace h := h.2 c4; replace h := qb5 _ h; replace h := h.1 c6; replace h := qb7 _ h; replace h := qb8 _ h; replace h := h.2 c9; replace h := h.1 c10; replace h := h.1 c11; exact h))⟩)
                  · obtain ⟨r16, u16, qa12, qb12⟩ := dt_Mo_two h
                    replace h := qb12 _ h
                    rcases ih _ _ _ _ h with ⟨w13_0, w13_1, qa13, qb13⟩ | ⟨w13_0, w13_1, qa13, qb13⟩
                    · exact Or.inl ⟨_, _, fun K post q => (by rw [wp_Mo_product_L5]; exact (pF c0 ((pT c1 ((pF c2 ((qa3 _ ((pF c4 ((qa5 _ ((pT c6 ((qa7 _ ((qa8 _ ((pF c9 ((pT c10 ((pF c11 ((qa12 _ ((qa13 _ _ (q))))))))))))))))))))))))))))), fun m9 K post h => (by cases m9 with | zero => exact False.elim h | succ m9 => (rw [wp_Mo_product_L5] at h; replace h := h.2 c0; replace h := h.1 c1; replace h := h.2 c2; replace h := qb3 _ h; replace h := h.2 c4; replace h := qb5 _ h; replace h := h.1 c6; replace h := qb7 _ h; replace h := qb8 _ h; replace h := h.2 c9; replace h := h.1 c10; replace h := h.2 c11; replace h := qb12 _ h; replace h := qb13 m9 _ _ h; exact h))⟩
                    · exact Or.inr (⟨_, _, fun K post q => (by rw [wp_Mo_product_L5]; exact (pF c0 ((pT c1 ((pF c2 ((qa3 _ ((pF c4 ((qa5 _ ((pT c6 ((qa7 _ ((qa8 _ ((pF c9 ((pT c10 ((pF c11 ((qa12 _ ((qa13 _ _ (q))))))))))))))))))))))))))))), fun m9 K post h => (by cases m9 with | zero => exact False.elim h | succ m9 => (rw [wp_Mo_product_L5] at h; replace h := h.2 c0; replace h := h.1 c1; replace h := h.2 c2; replace h := qb3 _ h; replace h := h.2 c4; replace h := qb5 _ h; replace h := h.1 c6; replace h := qb7 _ h; replace h := qb8 _ h; replace h := h.2 c9; replace h := h.1 c10; replace h := h.2 c11; replace h := qb12 _ h; replace h := qb13 m9 _ _ h; exact h))⟩)
                · rcases br_el h with ⟨c11, h⟩ | ⟨c11, h⟩
                  · rcases br_el h with ⟨c12, h⟩ | ⟨c12, h⟩
                    · exact absurd c12 (by decide)
                    · obtain ⟨r15, u15, qa13, qb13⟩ := dt_Mo_two h
                      replace h := qb13 _ h
                      rcases ih _ _ _ _ h with ⟨w14_0, w14_1, qa14, qb14⟩ | ⟨w14_0, w14_1, qa14, qb14⟩
                      · exact Or.inl ⟨_, _, fun K post q => (by rw [wp_Mo_product_L5]; exact (pF c0 ((pT c1 ((pF c2 ((qa3 _ ((pF c4 ((qa5 _ ((pT c6 ((qa7 _ ((qa8 _ ((pF c9 ((pF c10 ((pT c11 ((pF c12 ((qa13 _ ((qa14 _ _ (q))))))))))))))))))))))))))))))), fun m9 K post h => (by cases m9 with | zero => exact False.elim h | succ m9 => (rw [wp_Mo_product_L5] at h; replace h := h.2 c0; replace h := h.1 c1; replace h := h.2 c2; replace h := qb3 _ h; replace h := h.2 c4; replace h := qb5 _ h; replace h := h.1 c6; replace h := qb7 _ h; replace h := qb8 _ h; replace h := h.2 c9; replace h := h.2 c10; replace h := h.1 c11; replace h := h.2 c12; replace h := qb13 _ h; replace h := qb14 m9 _ _ h; exact h))⟩
                      · exact Or.inr (⟨_, _, fun K post q => (by rw [wp_Mo_product_L5]; exact (pF c0 ((pT c1 ((pF c2 ((qa3 _ ((pF c4 ((qa5 _ ((pT c6 ((qa7 _ ((qa8 _ ((pF c9 ((pF c10 ((pT c11 ((pF c12 ((qa13 _ ((qa14 _ _ (q))))))))))))))))))))))))))))))), fun m9 K post h => (by cases m9 with | zero => exact False.elim h | succ m9 => (rw [wp_Mo_product_L5] at h; replace h := h.2 c0; replace h := h.1 c1; replace h := h.2 c2; replace h := qb3 _ h; replace h := h.2 c4; replace h := qb5 _ h; replace h := h.1 c6; replace h := qb7 _ h; replace h := qb8 _ h; replace h := h.2 c9; replace h := h.2 c10; replace h := h.1 c11; replace h := h.2 c12; replace h := qb13 _ h; replace h := qb14 m9 _ _ h; exact h))⟩)
                  · rcases br_el h with ⟨c12, h⟩ | ⟨c12, h⟩
                    · exact Or.inr (⟨_, _, fun K post q => (by rw [wp_Mo_product_L5]; exact (pF c0 ((pT c1 ((pF c2 ((qa3 _ ((pF c4 ((qa5 _ ((pT c6 ((qa7 _ ((qa8 _ ((pF c9 ((pF c10 ((pF c11 ((pT c12 (q))))))))))))))))))))))))))), fun m9 K post h => (by cases m9 with | zero => exact False.elim h | succ m9 => (rw [wp_Mo_product_L5] at h; replace h := h.2 c0; replace h := h.1 c1; replace h := h.2 c2; replace h := qb3 _ h; replace h := h.2 c4; replace h := qb5 _ h; replace h := h.1 c6; replace h := qb7 _ h; replace h := qb8 _ h; replace h := h.2 c9; replace h := h.2 c10; replace h := h.2 c11; replace h := h.1 c12; exact h))⟩)
                    · exact absurd (by decide) c12
            · exact Or.inr (⟨_, _, fun K post q => (by rw [wp_Mo_product_L5]; exact (pF c0 ((pT c1 ((pF c2 ((qa3 _ ((pF c4 ((qa5 _ ((pF c6 (q))))))))))))))), fun m9 K post h => (by cases m9 with | zero => exact False.elim h | succ m9 => (rw [wp_Mo_product_L5] at h; replace h := h.2 c0; replace h := h.1 c1; replace h := h.2 c2; replace h := qb3 _ h; replace h := h.2 c4; replace h := qb5 _ h; replace h := h.2 c6; exact h))⟩)
      · rcases br_el h with ⟨c2, h⟩ | ⟨c2, h⟩
        · rcases br_el h with ⟨c3, h⟩ | ⟨c3, h⟩
          · obtain ⟨r56, u56, qa4, qb4⟩ := dt_Mo_go h
            replace h := qb4 _ h
            rcases br_el h with ⟨c5, h⟩ | ⟨c5, h⟩
            · rcases br_el h with ⟨c6, h⟩ | ⟨c6, h⟩
              · exact absurd c6 (by decide)
              · exact Or.inr (⟨_, _, fun K post q => (by rw [wp_Mo_product_L5]; exact (pF c0 ((pF c1 ((pT c2 ((pT c3 ((qa4 _ ((pT c5 ((pF c6 (q))))))))))))))), fun m9 K post h => (by cases m9 with | zero => exact False.elim h | succ m9 => (rw [wp_Mo_product_L5] at h; replace h := h.2 c0; replace h := h.2 c1; replace h := h.1 c2; replace h := h.1 c3; replace h := qb4 _ h; replace h := h.1 c5; replace h := h.2 c6; exact h))⟩)
            · obtain ⟨r65, u65, qa6, qb6⟩ := hrf _ _ h
              replace h := qb6 _ h
              rcases br_el h with ⟨c7, h⟩ | ⟨c7, h⟩
              · obtain ⟨r66, u66, qa8, qb8⟩ := dt_Mo_unitIn h
                replace h := qb8 _ h
                obtain ⟨r67, u67, qa9, qb9⟩ := dt_Mo_unitIn h
                replace h := qb9 _ h
                rcases br_el h with ⟨c10, h⟩ | ⟨c10, h⟩
                · rcases br_el h with ⟨c11, h⟩ | ⟨c11, h⟩
                  · rcases br_el h with ⟨c12, h⟩ | ⟨c12, h⟩
                    · exact Or.inr (⟨_, _, fun K post q => (by rw [wp_Mo_product_L5]; exact (pF c0 ((pF c1 ((pT c2 ((pT c3 ((qa4 _ ((pF c5 ((qa6 _ ((pT c7 ((qa8 _ ((qa9 _ ((pT c10 ((pT c11 ((pT c12 (q))))))))))))))))))))))))))), fun m9 K post h => (by cases m9 with | zero => exact False.elim h | succ m9 => (rw [wp_Mo_product_L5] at h; replace h := h.2 c0; replace h := h.2 c1; replace h := h.1 c2; replace h := h.1 c3; replace h := qb4 _ h; replace h := h.2 c5; replace h := qb6 _ h; replace h := h.1 c7; replace h := qb8 _ h; replace h := qb9 _ h; replace h := h.1 c10; replace h := h.1 c11; replace h := h.1 c12; exact h))⟩)
                    · obtain ⟨r73, u73, qa13, qb13⟩ := dt_Mo_two h
                      replace h := qb13 _ h
                      rcases ih _ _ _ _ h with ⟨w14_0, w14_1, qa14, qb14⟩ | ⟨w14_0, w14_1, qa14, qb14⟩
                      · exact Or.inl ⟨_, _, fun K post q => (by rw [wp_Mo_product_L5]; exact (pF c0 ((pF c1 ((pT c2 ((pT c3 ((qa4 _ ((pF c5 ((qa6 _ ((pT c7 ((qa8 _ ((qa9 _ ((pT c10 ((pT c11 ((pF c12 ((qa13 _ ((qa14 _ _ (q))))))))))))))))))))))))))))))), fun m9 K post h => (by cases m9 with | zero => exact False.elim h | succ m9 => (rw [wp_Mo_product_L5] at h; replace h := h.2 c0; replace h := h.2 c1; replace h := h.1 c2; replace h := h.1 c3; replace h := qb4 _ h; replace h := h.2 c5; replace h := qb6 _ h; replace h := h.1 c7; replace h := qb8 _ h; replace h := qb9 _ h; replace h := h.1 c10; replace h := h.1 c11; replace h := h.2 c12; replace h := qb13 _ h; replace h := qb14 m9 _ _ h; exact h))⟩
                      · exact Or.inr (⟨_, _, fun K post q => (by rw [wp_Mo_product_L5]; exact (pF c0 ((pF c1 ((pT c2 ((pT c3 ((qa4 _ ((pF c5 ((qa6 _ ((pT c7 ((qa8 _ ((qa9 _ ((pT c10 ((pT c11 ((pF c12 ((qa13 _ ((qa14 _ _ (q))))))))))))))))))))))))))))))), fun m9 K post h => (by cases m9 with | zero => exact False.elim h | succ m9 => (rw [wp_Mo_product_L5] at h; replace h := h.2 c0; replace h := h.2 c1; replace h := h.1 c2; replace h := h.1 c3; replace h := qb4 _ h; replace h := h.2 c5; replace h := qb6 _ h; replace h := h.1 c7; replace h := qb8 _ h; replace h := qb9 _ h; replace h := h.1 c10; replace h := h.1 c11; replace h := h.2 c12; replace h := qb13 _ h; replace h := qb14 m9 _ _ h; exact h))⟩)
                  · rcases br_el h with ⟨c12, h⟩ | ⟨c12, h⟩
                    · rcases br_el h with ⟨c13, h⟩ | ⟨c13, h⟩
                      · exact Or.inr (⟨_, _, fun K post q => (by rw [wp_Mo_product_L5]; exact (pF c0 ((pF c1 ((pT c2 ((pT c3 ((qa4 _ ((pF c5 ((qa6 _ ((pT c7 ((qa8 _ ((qa9 _ ((pT c10 ((pF c11 ((pT c12 ((pT c13 (q))))))))))))))))))))))))))))), fun m9 K post h => (by cases m9 with | zero => exact False.elim h | succ m9 => (rw [wp_Mo_product_L5] at h; replace h := h.2 c0; replace h := h.2 c1; replace h := h.1 c2; replace h := h.1 c3; replace h := qb4 _ h; replace h := h.2 c5; replace h := qb6 _ h; replace h := h.1 c7; replace h := qb8 _ h; replace h := qb9 _ h; replace h := h.1 c10; replace h := h.2 c11; replace h := h.1 c12; replace h := h.1 c13; exact h))⟩)
                      · obtain ⟨r72, u72, qa14, qb14⟩ := dt_Mo_two h
                        replace h := qb14 _ h
                        rcases ih _ _ _ _ h with ⟨w15_0, w15_1, qa15, qb15⟩ | ⟨w15_0, w15_1, qa15, qb15⟩
                        · exact Or.inl ⟨_, _, fun K post q => (by rw [wp_Mo_product_L5]; exact (pF c0 ((pF c1 ((pT c2 ((pT c3 ((qa4 _ ((pF c5 ((qa6 _ ((pT c7 ((qa8 _ ((qa9 _ ((pT c10 ((pF c11 ((pT c12 ((pF c13 ((qa14 _ ((qa15 _ _ (q))))))))))))))))))))))))))))))))), fun m9 K post h => (by cases m9 with | zero => exact False.elim h | succ m9 => (rw [wp_Mo_product_L5] at h; replace h := h.2 c0; replace h := h.2 c1; replace h := h.1 c2; replace h := h.1 c3; replace h := qb4 _ h; replace h := h.2 c5; replace h := qb6 _ h; replace h := h.1 c7; replace h := qb8 _ h; replace h := qb9 _ h; replace h := h.1 c10; replace h := h.2 c11; replace h := h.1 c12; replace h := h.2 c13; replace h := qb14 _ h; replace h := qb15 m9 _ _ h; exact h))⟩
                        · exact Or.inr (⟨_, _, fun K post q => (by rw [wp_Mo_product_L5]; exact (pF c0 ((pF c1 ((pT c2 ((pT c3 ((qa4 _ ((pF c5 ((qa6 _ ((pT c7 ((qa8 _ ((qa9 _ ((pT c10 ((pF c11 ((pT c12 ((pF c13 ((qa14 _ ((qa15 _ _ (q))))))))))))))))))))))))))))))))), fun m9 K post h => (by cases m9 with | zero => exact False.elim h | succ m9 => (rw [wp_Mo_product_L5] at h; replace h := h.2 c0; replace h := h.2 c1; replace h := h.1 c2; replace h := h.1 c3; replace h := qb4 _ h; replace h := h.2 c5; replace h := qb6 _ h; replace h := h.1 c7; replace h := qb8 _ h; replace h := qb9 _ h; replace h := h.1 c10; replace h := h.2 c11; replace h := h.1 c12; replace h := h.2 c13; replace h := qb14 _ h; replace h := qb15 m9 _ _ h; exact h))⟩)
                    · rcases br_el h with ⟨c13, h⟩ | ⟨c13, h⟩
                      · exact Or.inr (⟨_, _, fun K post q => (by rw [wp_Mo_product_L5]; exact (pF c0 ((pF c1 ((pT c2 ((pT c3 ((qa4 _ ((pF c5 ((qa6 _ ((pT c7 ((qa8 _ ((qa9 _ ((pT c10 ((pF c11 ((pF c12 ((pT c13 (q))))))))))))))))))))))))))))), fun m9 K post h => (by cases m9 with | zero => exact False.elim h | succ m9 => (rw [wp_Mo_product_L5] at h; replace h := h.2 c0; replace h := h.2 c1; replace h := h.1 c2; replace h := h.1 c3; replace h := qb4 _ h; replace h := h.2 c5; replace h := qb6 _ h; replace h := h.1 c7; replace h := qb8 _ h; replace h := qb9 _ h; replace h := h.1 c10; replace h := h.2 c11; replace h := h.2 c12; replace h := h.1 c13; exact h))⟩)
                      · exact absurd (by decide) c13
                · exact absurd (by decide) c10
              · exact Or.inr (⟨_, _, fun K post q => (by rw [wp_Mo_product_L5]; exact (pF c0 ((pF c1 ((pT c2 ((pT c3 ((qa4 _ ((pF c5 ((qa6 _ ((pF c7 (q))))))))))))))))), fun m9 K post h => (by cases m9 with | zero => exact False.elim h | succ m9 => (rw [wp_Mo_product_L5] at h; replace h := h.2 c0; replace h := h.2 c1; replace h := h.1 c2; replace h := h.1 c3; replace h := qb4 _ h; replace h := h.2 c5; replace h := qb6 _ h; replace h := h.2 c7; exact h))⟩)
          · obtain ⟨r38, u38, qa4, qb4⟩ := dt_Mo_go h
            replace h := qb4 _ h
            rcases br_el h with ⟨c5, h⟩ | ⟨c5, h⟩
            · rcases br_el h with ⟨c6, h⟩ | ⟨c6, h⟩
              · exact absurd c6 (by decide)
              · exact Or.inr (⟨_, _, fun K post q => (by rw [wp_Mo_product_L5]; exact (pF c0 ((pF c1 ((pT c2 ((pF c3 ((qa4 _ ((pT c5 ((pF c6 (q))))))))))))))), fun m9 K post h => (by cases m9 with | zero => exact False.elim h | succ m9 => (rw [wp_Mo_product_L5] at h; replace h := h.2 c0; replace h := h.2 c1; replace h := h.1 c2; replace h := h.2 c3; replace h := qb4 _ h; replace h := h.1 c5; replace h := h.2 c6; exact h))⟩)
            · obtain ⟨r47, u47, qa6, qb6⟩ := hrf _ _ h
              replace h := qb6 _ h
              rcases br_el h with ⟨c7, h⟩ | ⟨c7, h⟩
              · obtain ⟨r48, u48, qa8, qb8⟩ := dt_Mo_unitIn h
                replace h := qb8 _ h
                obtain ⟨r49, u49, qa9, qb9⟩ := dt_Mo_unitIn h
                replace h := qb9 _ h
                rcases br_el h with ⟨c10, h⟩ | ⟨c10, h⟩
                · exact absurd c10 (by decide)
                · rcases br_el h with ⟨c11, h⟩ | ⟨c11, h⟩
                  · rcases br_el h with ⟨c12, h⟩ | ⟨c12, h⟩
                    · exact Or.inr (⟨_, _, fun K post q => (by rw [wp_Mo_product_L5]; exact (pF c0 ((pF c1 ((pT c2 ((pF c3 ((qa4 _ ((pF c5 ((qa6 _ ((pT c7 ((qa8 _ ((qa9 _ ((pF c10 ((pT c11 ((pT c12 (q))))))))))))))))))))))))))), fun m9 K post h => (by cases m9 with | zero => exact False.elim h | succ m9 => (rw [wp_Mo_product_L5] at h; replace h := h.2 c0; replace h := h.2 c1; replace h := h.1 c2; replace h := h.2 c3; replace h := qb4 _ h; replace h := h.2 c5; replace h := qb6 _ h; replace h := h.1 c7; replace h := qb8 _ h; replace h := qb9 _ h; replace h := h.2 c10; replace h := h.1 c11; replace h := h.1 c12; exact h))⟩)
                    · obtain ⟨r52, u52, qa13, qb13⟩ := dt_Mo_two h
                      replace h := qb13 _ h
                      rcases ih _ _ _ _ h with ⟨w14_0, w14_1, qa14, qb14⟩ | ⟨w14_0, w14_1, qa14, qb14⟩
                      · exact Or.inl ⟨_, _, fun K post q => (by rw [wp_Mo_product_L5]; exact (pF c0 ((pF c1 ((pT c2 ((pF c3 ((qa4 _ ((pF c5 ((qa6 _ ((pT c7 ((qa8 _ ((qa9 _ ((pF c10 ((pT c11 ((pF c12 ((qa13 _ ((qa14 _ _ (q))))))))))))))))))))))))))))))), fun m9 K post h => (by cases m9 with | zero => exact False.elim h | succ m9 => (rw [wp_Mo_product_L5] at h; replace h := h.2 c0; replace h := h.2 c1; replace h := h.1 c2; replace h := h.2 c3; replace h := qb4 _ h; replace h := h.2 c5; replace h := qb6 _ h; replace h := h.1 c7; replace h := qb8 _ h; replace h := qb9 _ h; replace h := h.2 c10; replace h := h.1 c11; replace h := h.2 c12; replace h := qb13 _ h; replace h := qb14 m9 _ _ h; exact h))⟩
                      · exact Or.inr (⟨_, _, fun K post q => (by rw [wp_Mo_product_L5]; exact (pF c0 ((pF c1 ((pT c2 ((pF c3 ((qa4 _ ((pF c5 ((qa6 _ ((pT c7 ((qa8 _ ((qa9 _ ((pF c10 ((pT c11 ((pF c12 ((qa13 _ ((qa14 _ _ (q))))))))))))))))))))))))))))))), fun m9 K post h => (by cases m9 with | zero => exact False.elim h | succ m9 => (rw [wp_Mo_product_L5] at h; replace h := h.2 c0; replace h := h.2 c1; replace h := h.1 c2; replace h := h.2 c3; replace h := qb4 _ h; replace h := h.2 c5; replace h := qb6 _ h; replace h := h.1 c7; replace h := qb8 _ h; replace h := qb9 _ h; replace h := h.2 c10; replace h := h.1 c11; replace h := h.2 c12; replace h := qb13 _ h; replace h := qb14 m9 _ _ h; exact h))⟩)
                  · rcases br_el h with ⟨c12, h⟩ | ⟨c12, h⟩
                    · rcases br_el h with ⟨c13, h⟩ | ⟨c13, h⟩
                      · exact absurd c13 (by decide)
                      · obtain ⟨r51, u51, qa14, qb14⟩ := dt_Mo_two h
                        replace h := qb14 _ h
                        rcases ih _ _ _ _ h with ⟨w15_0, w15_1, qa15, qb15⟩ | ⟨w15_0, w15_1, qa15, qb15⟩
                        · exact Or.inl ⟨_, _, fun K post q => (by rw [wp_Mo_product_L5]; exact (pF c0 ((pF c1 ((pT c2 ((pF c3 ((qa4 _ ((pF c5 ((qa6 _ ((pT c7 ((qa8 _ ((qa9 _ ((pF c10 ((pF c11 ((pT c12 ((pF c13 ((qa14 _ ((qa15 _ _ (q))))))))))))))))))))))))))))))))), fun m9 K post h => (by cases m9 with | zero => exact False.elim h | succ m9 => (rw [wp_Mo_product_L5] at h; replace h := h.2 c0; replace h := h.2 c1; replace h := h.1 c2; replace h := h.2 c3; replace h := qb4 _ h; replace h := h.2 c5; replace h := qb6 _ h; replace h := h.1 c7; replace h := qb8 _ h; replace h := qb9 _ h; replace h := h.2 c10; replace h := h.2 c11; replace h := h.1 c12; replace h := h.2 c13; replace h := qb14 _ h; replace h := qb15 m9 _ _ h; exact h))⟩
                        · exact Or.inr (⟨_, _, fun K post q => (by rw [wp_Mo_product_L5]; exact (pF c0 ((pF c1 ((pT c2 ((pF c3 ((qa4 _ ((pF c5 ((qa6 _ ((pT c7 ((qa8 _ ((qa9 _ ((pF c10 ((pF c11 ((pT c12 ((pF c13 ((qa14 _ ((qa15 _ _ (q))))))))))))))))))))))))))))))))), fun m9 K post h => (by cases m9 with | zero => exact False.elim h | succ m9 => (rw [wp_Mo_product_L5] at h; replace h := h.2 c0; replace h := h.2 c1; replace h := h.1 c2; replace h := h.2 c3; replace h := qb4 _ h; replace h := h.2 c5; replace h := qb6 _ h; replace h := h.1 c7; replace h := qb8 _ h; replace h := qb9 _ h; replace h := h.2 c10; replace h := h.2 c11; replace h := h.1 c12; replace h := h.2 c13; replace h := qb14 _ h; replace h := qb15 m9 _ _ h; exact h))⟩)
                    · rcases br_el h with ⟨c13, h⟩ | ⟨c13, h⟩
                      · exact Or.inr (⟨_, _, fun K post q => (by rw [wp_Mo_product_L5]; exact (pF c0 ((pF c1 ((pT c2 ((pF c3 ((qa4 _ ((pF c5 ((qa6 _ ((pT c7 ((qa8 _ ((qa9 _ ((pF c10 ((pF c11 ((pF c12 ((pT c13 (q))))))))))))))))))))))))))))), fun m9 K post h => (by cases m9 with | zero => exact False.elim h | succ m9 => (rw [wp_Mo_product_L5] at h; replace h := h.2 c0; replace h := h.2 c1; replace h := h.1 c2; replace h := h.2 c3; replace h := qb4 _ h; replace h := h.2 c5; replace h := qb6 _ h; replace h := h.1 c7; replace h := qb8 _ h; replace h := qb9 _ h; replace h := h.2 c10; replace h := h.2 c11; replace h := h.2 c12; replace h := h.1 c13; exact h))⟩)
                      · exact absurd (by decide) c13
              · exact Or.inr (⟨_, _, fun K post q => (by rw [wp_Mo_product_L5]; exact (pF c0 ((pF c1 ((pT c2 ((pF c3 ((qa4 _ ((pF c5 ((qa6 _ ((pF c7 (q))))))))))))))))), fun m9 K post h => (by cases m9 with | zero => exact False.elim h | succ m9 => (rw [wp_Mo_product_L5] at h; replace h := h.2 c0; replace h := h.2 c1; replace h := h.1 c2; replace h := h.2 c3; replace h := qb4 _ h; replace h := h.2 c5; replace h := qb6 _ h; replace h := h.2 c7; exact h))⟩)
        · exact Or.inl ⟨_, _, fun K post q => (by rw [wp_Mo_product_L5]; exact (pF c0 ((pF c1 ((pF c2 (q))))))), fun m9 K post h => (by cases m9 with | zero => exact False.elim h | succ m9 => (rw [wp_Mo_product_L5] at h; replace h := h.2 c0; replace h := h.2 c1; replace h := h.2 c2; exact h))⟩
set_option maxHeartbeats 2000000 in
theorem dt_Mo_product_J166 {rf : T_Mo → (Int32 → T_Mo → Prop) → Prop} {z_this : T_Mo} {x1 : Int32} (hrf : ∀ (v0 : T_Mo) (post : (Int32 → T_Mo → Prop)), rf v0 post → (∃ (w0 : Int32) (w1 : T_Mo), (∀ (post : (Int32 → T_Mo → Prop)), post w0 w1 → rf v0 post) ∧ (∀ (post : (Int32 → T_Mo → Prop)), rf v0 post → post w0 w1))) {post : Int32 → T_Mo → Prop} (h : wp_Mo_product_J166 rf post z_this x1) : (∃ (w0 : Int32) (w1 : T_Mo), (∀ (post : Int32 → T_Mo → Prop), post w0 w1 → wp_Mo_product_J166 rf post z_this x1) ∧ (∀ (post : Int32 → T_Mo → Prop), wp_Mo_product_J166 rf post z_this x1 → post w0 w1)) := by
  unfold wp_Mo_product_J166 at h
  exact ⟨_, _, fun post q => (by unfold wp_Mo_product_J166; exact q), fun post h => (by unfold wp_Mo_product_J166 at h; exact h)⟩
set_option maxHeartbeats 2000000 in
theorem dt_Mo_product {rf : T_Mo → (Int32 → T_Mo → Prop) → Prop} {z_this : T_Mo} (hrf : ∀ (v0 : T_Mo) (post : (Int32 → T_Mo → Prop)), rf v0 post → (∃ (w0 : Int32) (w1 : T_Mo), (∀ (post : (Int32 → T_Mo → Prop)), post w0 w1 → rf v0 post) ∧ (∀ (post : (Int32 → T_Mo → Prop)), rf v0 post → post w0 w1))) {post : Int32 → T_Mo → Prop} (h : wp_Mo_product rf z_this post) : (∃ (w0 : Int32) (w1 : T_Mo), (∀ (post : Int32 → T_Mo → Prop), post w0 w1 → wp_Mo_product rf z_this post) ∧ (∀ (post : Int32 → T_Mo → Prop), wp_Mo_product rf z_this post → post w0 w1)) := by
  unfold wp_Mo_product at h
  obtain ⟨r1, u1, qa0, qb0⟩ := hrf _ _ h
  replace h := qb0 _ h
  obtain ⟨k1, h⟩ := h
  rcases dt_Mo_product_L5 hrf k1 _ _ _ _ h with ⟨z_this, x1, qa1, qb1⟩ | ⟨w1_0, w1_1, qa1, qb1⟩
  · replace h := qb1 k1 _ _ h
    obtain ⟨w2_0, w2_1, qa2, qb2⟩ := dt_Mo_product_J166 hrf h
    exact ⟨_, _, fun post q => (by unfold wp_Mo_product; exact (qa0 _ (⟨k1, (qa1 _ _ ((qa2 _ (q))))⟩))), fun post h => (by unfold wp_Mo_product at h; replace h := qb0 _ h; obtain ⟨m1, h⟩ := h; replace h := qb1 m1 _ _ h; replace h := qb2 _ h; exact h)⟩
  · exact ⟨_, _, fun post q => (by unfold wp_Mo_product; exact (qa0 _ (⟨k1, (qa1 _ _ (q))⟩))), fun post h => (by unfold wp_Mo_product at h; replace h := qb0 _ h; obtain ⟨m1, h⟩ := h; replace h := qb1 m1 _ _ h; exact h)⟩
set_option maxHeartbeats 2000000 in
theorem dt_Mo_sum_L5 {rf : T_Mo → (Int32 → T_Mo → Prop) → Prop} (hrf : ∀ (v0 : T_Mo) (post : (Int32 → T_Mo → Prop)), rf v0 post → (∃ (w0 : Int32) (w1 : T_Mo), (∀ (post : (Int32 → T_Mo → Prop)), post w0 w1 → rf v0 post) ∧ (∀ (post : (Int32 → T_Mo → Prop)), rf v0 post → post w0 w1))) : ∀ (n9 : Nat) (z_this : T_Mo) (x1 : Int32) (K : T_Mo → Int32 → Prop) (post : Int32 → T_Mo → Prop), wp_Mo_sum_L5 rf K post n9 z_this x1 → (∃ (w0 : T_Mo) (w1 : Int32), (∀ (K : T_Mo → Int32 → Prop) (post : Int32 → T_Mo → Prop), K w0 w1 → wp_Mo_sum_L5 rf K post n9 z_this x1) ∧ (∀ (m9 : Nat) (K : T_Mo → Int32 → Prop) (post : Int32 → T_Mo → Prop), wp_Mo_sum_L5 rf K post m9 z_this x1 → K w0 w1)) ∨ (∃ (w0 : Int32) (w1 : T_Mo), (∀ (K : T_Mo → Int32 → Prop) (post : Int32 → T_Mo → Prop), post w0 w1 → wp_Mo_sum_L5 rf K post n9 z_this x1) ∧ (∀ (m9 : Nat) (K : T_Mo → Int32 → Prop) (post : Int32 → T_Mo → Prop), wp_Mo_sum_L5 rf K post m9 z_this x1 → post w0 w1)) := by
  intro n9
  induction n9 with
  | zero => intro z_this x1 K post h; exact False.elim h
  | succ n9 ih =>
    intro z_this x1 K post h
    rw [wp_Mo_sum_L5] at h
    rcases br_el h with ⟨c0, h⟩ | ⟨c0, h⟩
    · exact Or.inl ⟨_, _, fun K post q => (by rw [wp_Mo_sum_L5]; exact (pT c0 (q))), fun m9 K post h => (by cases m9 with | zero => exact False.elim h | succ m9 => (rw [wp_Mo_sum_L5] at h; replace h := h.1 c0; exact h))⟩
    · rcases br_el h with ⟨c1, h⟩ | ⟨c1, h⟩
      · rcases br_el h with ⟨c2, h⟩ | ⟨c2, h⟩
        · obtain ⟨r12, u12, qa3, qb3⟩ := dt_Mo_go h
          replace h := qb3 _ h
          rcases br_el h with ⟨c4, h⟩ | ⟨c4, h⟩
          · rcases br_el h with ⟨c5, h⟩ | ⟨c5, h⟩
            · exact absurd c5 (by decide)
            · exact Or.inr (⟨_, _, fun K post q => (by rw [wp_Mo_sum_L5]; exact (pF c0 ((pT c1 ((pT c2 ((qa3 _ ((pT c4 ((pF c5 (q))))))))))))), fun m9 K post h => (by cases m9 with | zero => exact False.elim h | succ m9 => (rw [wp_Mo_sum_L5] at h; replace h := h.2 c0; replace h := h.1 c1; replace h := h.1 c2; replace h := qb3 _ h; replace h := h.1 c4; replace h := h.2 c5; exact h))⟩)
          · obtain ⟨r17, u17, qa5, qb5⟩ := dt_Mo_product hrf h
            replace h := qb5 _ h
            rcases br_el h with ⟨c6, h⟩ | ⟨c6, h⟩
            · obtain ⟨r18, u18, qa7, qb7⟩ := dt_Mo_unitIn h
              replace h := qb7 _ h
              obtain ⟨r19, u19, qa8, qb8⟩ := dt_Mo_unitIn h
              replace h := qb8 _ h
              rcases br_el h with ⟨c9, h⟩ | ⟨c9, h⟩
              · obtain ⟨r20, u20, qa10, qb10⟩ := dt_Mo_unitIn h
                replace h := qb10 _ h
                obtain ⟨r21, u21, qa11, qb11⟩ := dt_Mo_two h
                replace h := qb11 _ h
                rcases ih _ _ _ _ h with ⟨w12_0, w12_1, qa12, qb12⟩ | ⟨w12_0, w12_1, qa12, qb12⟩
                · exact Or.inl ⟨_, _, fun K post q => (by rw [wp_Mo_sum_L5]; exact (pF c0 ((pT c1 ((pT c2 ((qa3 _ ((pF c4 ((qa5 _ ((pT c6 ((qa7 _ ((qa8 _ ((pT c9 ((qa10 _ ((qa11 _ ((qa12 _ _ (q))))))))))))))))))))))))))), fun m9 K post h => (by cases m9 with | zero => exact False.elim h | succ m9 => (rw [wp_Mo_sum_L5] at h; replace h := h.2 c0; replace h := h.1 c1; replace h := h.1 c2; replace h := qb3 _ h; replace h := h.2 c4; replace h := qb5 _ h; replace h := h.1 c6; replace h := qb7 _ h; replace h := qb8 _ h; replace h := h.1 c9; replace h := qb10 _ h; replace h := qb11 _ h; replace h := qb12 m9 _ _ h; exact h))⟩
                · exact Or.inr (⟨_, _, fun K post q => (by rw [wp_Mo_sum_L5]; exact (pF c0 ((pT c1 ((pT c2 ((qa3 _ ((pF c4 ((qa5 _ ((pT c6 ((qa7 _ ((qa8 _ ((pT c9 ((qa10 _ ((qa11 _ ((qa12 _ _ (q))))))))))))))))))))))))))), fun m9 K post h => (by cases m9 with | zero => exact False.elim h | succ m9 => (rw [wp_Mo_sum_L5] at h; replace h := h.2 c0; replace h := h.1 c1; replace h := h.1 c2; replace h := qb3 _ h; replace h := h.2 c4; replace h := qb5 _ h; replace h := h.1 c6; replace h := qb7 _ h; replace h := qb8 _ h; replace h := h.1 c9; replace h := qb10 _ h; replace h := qb11 _ h; replace h := qb12 m9 _ _ h; exact h))⟩)
              · exact Or.inr (⟨_, _, fun K post q => (by rw [wp_Mo_sum_L5]; exact (pF c0 ((pT c1 ((pT c2 ((qa3 _ ((pF c4 ((qa5 _ ((pT c6 ((qa7 _ ((qa8 _ ((pF c9 (q))))))))))))))))))))), fun m9 K post h => (by cases m9 with | zero => exact False.elim h | succ m9 => (rw [wp_Mo_sum_L5] at h; replace h := h.2 c0; replace h := h.1 c1; replace h := h.1 c2; replace h := qb3 _ h; replace h := h.2 c4; replace h := qb5 _ h; replace h := h.1 c6; replace h := qb7 _ h; replace h := qb8 _ h; replace h := h.2 c9; exact h))⟩)
            · exact Or.inr (⟨_, _, fun K post q => (by rw [wp_Mo_sum_L5]; exact (pF c0 ((pT c1 ((pT c2 ((qa3 _ ((pF c4 ((qa5 _ ((pF c6 (q))))))))))))))), fun m9 K post h => (by cases m9 with | zero => exact False.elim h | succ m9 => (rw [wp_Mo_sum_L5] at h; replace h := h.2 c0; replace h := h.1 c1; replace h := h.1 c2; replace h := qb3 _ h; replace h := h.2 c4; replace h := qb5 _ h; replace h := h.2 c6; exact h))⟩)
        · obtain ⟨r2, u2, qa3, qb3⟩ := dt_Mo_go h
          replace h := qb3 _ h
          rcases br_el h with ⟨c4, h⟩ | ⟨c4, h⟩
          · rcases br_el h with ⟨c5, h⟩ | ⟨c5, h⟩
            · exact absurd c5 (by decide)
            · exact Or.inr (⟨_, _, fun K post q => (by rw [wp_Mo_sum_L5]; exact (pF c0 ((pT c1 ((pF c2 ((qa3 _ ((pT c4 ((pF c5 (q))))))))))))), fun m9 K post h => (by cases m9 with | zero => exact False.elim h | succ m9 => (rw [wp_Mo_sum_L5] at h; replace h := h.2 c0; replace h := h.1 c1; replace h := h.2 c2; replace h := qb3 _ h; replace h := h.1 c4; replace h := h.2 c5; exact h))⟩)
          · obtain ⟨r7, u7, qa5, qb5⟩ := dt_Mo_product hrf h
            replace h := qb5 _ h
            rcases br_el h with ⟨c6, h⟩ | ⟨c6, h⟩
            · obtain ⟨r8, u8, qa7, qb7⟩ := dt_Mo_unitIn h
              replace h := qb7 _ h
              obtain ⟨r9, u9, qa8, qb8⟩ := dt_Mo_unitIn h
              replace h := qb8 _ h
              rcases br_el h with ⟨c9, h⟩ | ⟨c9, h⟩
              · obtain ⟨r10, u10, qa10, qb10⟩ := dt_Mo_unitIn h
                replace h := qb10 _ h
                obtain ⟨r11, u11, qa11, qb11⟩ := dt_Mo_two h
                replace h := qb11 _ h
                rcases ih _ _ _ _ h with ⟨w12_0, w12_1, qa12, qb12⟩ | ⟨w12_0, w12_1, qa12, qb12⟩
                · exact Or.inl ⟨_, _, fun K post q => (by rw [wp_Mo_sum_L5]; exact (pF c0 ((pT c1 ((pF c2 ((qa3 _ ((pF c4 ((qa5 _ ((pT c6 ((qa7 _ ((qa8 _ ((pT c9 ((qa10 _ ((qa11 _ ((qa12 _ _ (q))))))))))))))))))))))))))), fun m9 K post h => (by cases m9 with | zero => exact False.elim h | succ m9 => (rw [wp_Mo_sum_L5] at h; replace h := h.2 c0; replace h := h.1 c1; replace h := h.2 c2; replace h := qb3 _ h; replace h := h.2 c4; replace h := qb5 _ h; replace h := h.1 c6; replace h := qb7 _ h; replace h := qb8 _ h; replace h := h.1 c9; replace h := qb10 _ h; replace h := qb11 _ h; replace h := qb12 m9 _ _ h; exact h))⟩
                · exact Or.inr (⟨_, _, fun K post q => (by rw [wp_Mo_sum_L5]; exact (pF c0 ((pT c1 ((pF c2 ((qa3 _ ((pF c4 ((qa5 _ ((pT c6 ((qa7 _ ((qa8 _ ((pT c9 ((qa10 _ ((qa11 _ ((qa12 _ _ (q))))))))))))))))))))))))))), fun m9 K post h => (by cases m9 with | zero => exact False.elim h | succ m9 => (rw [wp_Mo_sum_L5] at h; replace h := h.2 c0; replace h := h.1 c1; replace h := h.2 c2; replace h := qb3 _ h; replace h := h.2 c4; replace h := qb5 _ h; replace h := h.1 c6; replace h := qb7 _ h; replace h := qb8 _ h; replace h := h.1 c9; replace h := qb10 _ h; replace h := qb11 _ h; replace h := qb12 m9 _ _ h; exact h))⟩)
              · exact Or.inr (⟨_, _, fun K post q => (by rw [wp_Mo_sum_L5]; exact (pF c0 ((pT c1 ((pF c2 ((qa3 _ ((pF c4 ((qa5 _ ((pT c6 ((qa7 _ ((qa8 _ ((pF c9 (q))))))))))))))))))))), fun m9 K post h => (by cases m9 with | zero => exact False.elim h | succ m9 => (rw [wp_Mo_sum_L5] at h; replace h := h.2 c0; replace h := h.1 c1; replace h := h.2 c2; replace h := qb3 _ h; replace h := h.2 c4; replace h := qb5 _ h; replace h := h.1 c6; replace h := qb7 _ h; replace h := qb8 _ h; replace h := h.2 c9; exact h))⟩)
            · exact Or.inr (⟨_, _, fun K post q => (by rw [wp_Mo_sum_L5]; exact (pF c0 ((pT c1 ((pF c2 ((qa3 _ ((pF c4 ((qa5 _ ((pF c6 (q))))))))))))))), fun m9 K post h => (by cases m9 with | zero => exact False.elim h | succ m9 => (rw [wp_Mo_sum_L5] at h; replace h := h.2 c0; replace h := h.1 c1; replace h := h.2 c2; replace h := qb3 _ h; replace h := h.2 c4; replace h := qb5 _ h; replace h := h.2 c6; exact h))⟩)
      · rcases br_el h with ⟨c2, h⟩ | ⟨c2, h⟩
        · rcases br_el h with ⟨c3, h⟩ | ⟨c3, h⟩
          · obtain ⟨r32, u32, qa4, qb4⟩ := dt_Mo_go h
            replace h := qb4 _ h
            rcases br_el h with ⟨c5, h⟩ | ⟨c5, h⟩
            · rcases br_el h with ⟨c6, h⟩ | ⟨c6, h⟩
              · exact absurd c6 (by decide)
              · exact Or.inr (⟨_, _, fun K post q => (by rw [wp_Mo_sum_L5]; exact (pF c0 ((pF c1 ((pT c2 ((pT c3 ((qa4 _ ((pT c5 ((pF c6 (q))))))))))))))), fun m9 K post h => (by cases m9 with | zero => exact False.elim h | succ m9 => (rw [wp_Mo_sum_L5] at h; replace h := h.2 c0; replace h := h.2 c1; replace h := h.1 c2; replace h := h.1 c3; replace h := qb4 _ h; replace h := h.1 c5; replace h := h.2 c6; exact h))⟩)
            · obtain ⟨r37, u37, qa6, qb6⟩ := dt_Mo_product hrf h
              replace h := qb6 _ h
              rcases br_el h with ⟨c7, h⟩ | ⟨c7, h⟩
              · obtain ⟨r38, u38, qa8, qb8⟩ := dt_Mo_unitIn h
                replace h := qb8 _ h
                obtain ⟨r39, u39, qa9, qb9⟩ := dt_Mo_unitIn h
                replace h := qb9 _ h
                rcases br_el h with ⟨c10, h⟩ | ⟨c10, h⟩
                · obtain ⟨r40, u40, qa11, qb11⟩ := dt_Mo_unitIn h
                  replace h := qb11 _ h
                  obtain ⟨r41, u41, qa12, qb12⟩ := dt_Mo_two h
                  replace h := qb12 _ h
                  rcases ih _ _ _ _ h with ⟨w13_0, w13_1, qa13, qb13⟩ | ⟨w13_0, w13_1, qa13, qb13⟩
                  · exact Or.inl ⟨_, _, fun K post q => (by rw [wp_Mo_sum_L5]; exact (pF c0 ((pF c1 ((pT c2 ((pT c3 ((qa4 _ ((pF c5 ((qa6 _ ((pT c7 ((qa8 _ ((qa9 _ ((pT c10 ((qa11 _ ((qa12 _ ((qa13 _ _ (q))))))))))))))))))))))))))))), fun m9 K post h => (by cases m9 with | zero => exact False.elim h | succ m9 => (rw [wp_Mo_sum_L5] at h; replace h := h.2 c0; replace h := h.2 c1; replace h := h.1 c2; replace h := h.1 c3; replace h := qb4 _ h; replace h := h.2 c5; replace h := qb6 _ h; replace h := h.1 c7; replace h := qb8 _ h; replace h := qb9 _ h; replace h := h.1 c10; replace h := qb11 _ h; replace h := qb12 _ h; replace h := qb13 m9 _ _ h; exact h))⟩
                  · exact Or.inr (⟨_, _, fun K post q => (by rw [wp_Mo_sum_L5]; exact (pF c0 ((pF c1 ((pT c2 ((pT c3 ((qa4 _ ((pF c5 ((qa6 _ ((pT c7 ((qa8 _ ((qa9 _ ((pT c10 ((qa11 _ ((qa12 _ ((qa13 _ _ (q))))))))))))))))))))))))))))), fun m9 K post h => (by cases m9 with | zero => exact False.elim h | succ m9 => (rw [wp_Mo_sum_L5] at h; replace h := h.2 c0; replace h := h.2 c1; replace h := h.1 c2; replace h := h.1 c3; replace h := qb4 _ h; replace h := h.2 c5; replace h := qb6 _ h; replace h := h.1 c7; replace h := qb8 _ h; replace h := qb9 _ h; replace h := h.1 c10; replace h := qb11 _ h; replace h := qb12 _ h; replace h := qb13 m9 _ _ h; exact h))⟩)
                · exact Or.inr (⟨_, _, fun K post q => (by rw [wp_Mo_sum_L5]; exact (pF c0 ((pF c1 ((pT c2 ((pT c3 ((qa4 _ ((pF c5 ((qa6 _ ((pT c7 ((qa8 _ ((qa9 _ ((pF c10 (q))))))))))))))))))))))), fun m9 K post h => (by cases m9 with | zero => exact False.elim h | succ m9 => (rw [wp_Mo_sum_L5] at h; replace h := h.2 c0; replace h := h.2 c1; replace h := h.1 c2; replace h := h.1 c3; replace h := qb4 _ h; replace h := h.2 c5; replace h := qb6 _ h; replace h := h.1 c7; replace h := qb8 _ h; replace h := qb9 _ h; replace h := h.2 c10; exact h))⟩)
              · exact Or.inr (⟨_, _, fun K post q => (by rw [wp_Mo_sum_L5]; exact (pF c0 ((pF c1 ((pT c2 ((pT c3 ((qa4 _ ((pF c5 ((qa6 _ ((pF c7 (q))))))))))))))))), fun m9 K post h => (by cases m9 with | zero => exact False.elim h | succ m9 => (rw [wp_Mo_sum_L5] at h; replace h := h.2 c0; replace h := h.2 c1; replace h := h.1 c2; replace h := h.1 c3; replace h := qb4 _ h; replace h := h.2 c5; replace h := qb6 _ h; replace h := h.2 c7; exact h))⟩)
          · obtain ⟨r22, u22, qa4, qb4⟩ := dt_Mo_go h
            replace h := qb4 _ h
            rcases br_el h with ⟨c5, h⟩ | ⟨c5, h⟩
            · rcases br_el h with ⟨c6, h⟩ | ⟨c6, h⟩
              · exact absurd c6 (by decide)
              · exact Or.inr (⟨_, _, fun K post q => (by rw [wp_Mo_sum_L5]; exact (pF c0 ((pF c1 ((pT c2 ((pF c3 ((qa4 _ ((pT c5 ((pF c6 (q))))))))))))))), fun m9 K post h => (by cases m9 with | zero => exact False.elim h | succ m9 => (rw [wp_Mo_sum_L5] at h; replace h := h.2 c0; replace h := h.2 c1; replace h := h.1 c2; replace h := h.2 c3; replace h := qb4 _ h; replace h := h.1 c5; replace h := h.2 c6; exact h))⟩)
            · obtain ⟨r27, u27, qa6, qb6⟩ := dt_Mo_product hrf h
              replace h := qb6 _ h
              rcases br_el h with ⟨c7, h⟩ | ⟨c7, h⟩
              · obtain ⟨r28, u28, qa8, qb8⟩ := dt_Mo_unitIn h
                replace h := qb8 _ h
                obtain ⟨r29, u29, qa9, qb9⟩ := dt_Mo_unitIn h
                replace h := qb9 _ h
                rcases br_el h with ⟨c10, h⟩ | ⟨c10, h⟩
                · obtain ⟨r30, u30, qa11, qb11⟩ := dt_Mo_unitIn h
                  replace h := qb11 _ h
                  obtain ⟨r31, u31, qa12, qb12⟩ := dt_Mo_two h
                  replace h := qb12 _ h
                  rcases ih _ _ _ _ h with ⟨w13_0, w13_1, qa13, qb13⟩ | ⟨w13_0, w13_1, qa13, qb13⟩
                  · exact Or.inl ⟨_, _, fun K post q => (by rw [wp_Mo_sum_L5]; exact (pF c0 ((pF c1 ((pT c2 ((pF c3 ((qa4 _ ((pF c5 ((qa6 _ ((pT c7 ((qa8 _ ((qa9 _ ((pT c10 ((qa11 _ ((qa12 _ ((qa13 _ _ (q))))))))))))))))))))))))))))), fun m9 K post h => (by cases m9 with | zero => exact False.elim h | succ m9 => (rw [wp_Mo_sum_L5] at h; replace h := h.2 c0; replace h := h.2 c1; replace h := h.1 c2; replace h := h.2 c3; replace h := qb4 _ h; replace h := h.2 c5; replace h := qb6 _ h; replace h := h.1 c7; replace h := qb8 _ h; replace h := qb9 _ h; replace h := h.1 c10; replace h := qb11 _ h; replace h := qb12 _ h; replace h := qb13 m9 _ _ h; exact h))⟩
                  · exact Or.inr (⟨_, _, fun K post q => (by rw [wp_Mo_sum_L5]; exact (pF c0 ((pF c1 ((pT c2 ((pF c3 ((qa4 _ ((pF c5 ((qa6 _ ((pT c7 ((qa8 _ ((qa9 _ ((pT c10 ((qa11 _ ((qa12 _ ((qa13 _ _ (q))))))))))))))))))))))))))))), fun m9 K post h => (by cases m9 with | zero => exact False.elim h | succ m9 => (rw [wp_Mo_sum_L5] at h; replace h := h.2 c0; replace h := h.2 c1; replace h := h.1 c2; replace h := h.2 c3; replace h := qb4 _ h; replace h := h.2 c5; replace h := qb6 _ h; replace h := h.1 c7; replace h := qb8 _ h; replace h := qb9 _ h; replace h := h.1 c10; replace h := qb11 _ h; replace h := qb12 _ h; replace h := qb13 m9 _ _ h; exact h))⟩)
                · exact Or.inr (⟨_, _, fun K post q => (by rw [wp_Mo_sum_L5]; exact (pF c0 ((pF c1 ((pT c2 ((pF c3 ((qa4 _ ((pF c5 ((qa6 _ ((pT c7 ((qa8 _ ((qa9 _ ((pF c10 (q))))))))))))))))))))))), fun m9 K post h => (by cases m9 with | zero => exact False.elim h | succ m9 => (rw [wp_Mo_sum_L5] at h; replace h := h.2 c0; replace h := h.2 c1; replace h := h.1 c2; replace h := h.2 c3; replace h := qb4 _ h; replace h := h.2 c5; replace h := qb6 _ h; replace h := h.1 c7; replace h := qb8 _ h; replace h := qb9 _ h; replace h := h.2 c10; exact h))⟩)
              · exact Or.inr (⟨_, _, fun K post q => (by rw [wp_Mo_sum_L5]; exact (pF c0 ((pF c1 ((pT c2 ((pF c3 ((qa4 _ ((pF c5 ((qa6 _ ((pF c7 (q))))))))))))))))), fun m9 K post h => (by cases m9 with | zero => exact False.elim h | succ m9 => (rw [wp_Mo_sum_L5] at h; replace h := h.2 c0; replace h := h.2 c1; replace h := h.1 c2; replace h := h.2 c3; replace h := qb4 _ h; replace h := h.2 c5; replace h := qb6 _ h; replace h := h.2 c7; exact h))⟩)
        · exact Or.inl ⟨_, _, fun K post q => (by rw [wp_Mo_sum_L5]; exact (pF c0 ((pF c1 ((pF c2 (q))))))), fun m9 K post h => (by cases m9 with | zero => exact False.elim h | succ m9 => (rw [wp_Mo_sum_L5] at h; replace h := h.2 c0; replace h := h.2 c1; replace h := h.2 c2; exact h))⟩
set_option maxHeartbeats 2000000 in
theorem dt_Mo_sum_J109 {rf : T_Mo → (Int32 → T_Mo → Prop) → Prop} {z_this : T_Mo} {x1 : Int32} (hrf : ∀ (v0 : T_Mo) (post : (Int32 → T_Mo → Prop)), rf v0 post → (∃ (w0 : Int32) (w1 : T_Mo), (∀ (post : (Int32 → T_Mo → Prop)), post w0 w1 → rf v0 post) ∧ (∀ (post : (Int32 → T_Mo → Prop)), rf v0 post → post w0 w1))) {post : Int32 → T_Mo → Prop} (h : wp_Mo_sum_J109 rf post z_this x1) : (∃ (w0 : Int32) (w1 : T_Mo), (∀ (post : Int32 → T_Mo → Prop), post w0 w1 → wp_Mo_sum_J109 rf post z_this x1) ∧ (∀ (post : Int32 → T_Mo → Prop), wp_Mo_sum_J109 rf post z_this x1 → post w0 w1)) := by
  unfold wp_Mo_sum_J109 at h
  exact ⟨_, _, fun post q => (by unfold wp_Mo_sum_J109; exact q), fun post h => (by unfold wp_Mo_sum_J109 at h; exact h)⟩
set_option maxHeartbeats 2000000 in
theorem dt_Mo_sum {rf : T_Mo → (Int32 → T_Mo → Prop) → Prop} {z_this : T_Mo} (hrf : ∀ (v0 : T_Mo) (post : (Int32 → T_Mo → Prop)), rf v0 post → (∃ (w0 : Int32) (w1 : T_Mo), (∀ (post : (Int32 → T_Mo → Prop)), post w0 w1 → rf v0 post) ∧ (∀ (post : (Int32 → T_Mo → Prop)), rf v0 post → post w0 w1))) {post : Int32 → T_Mo → Prop} (h : wp_Mo_sum rf z_this post) : (∃ (w0 : Int32) (w1 : T_Mo), (∀ (post : Int32 → T_Mo → Prop), post w0 w1 → wp_Mo_sum rf z_this post) ∧ (∀ (post : Int32 → T_Mo → Prop), wp_Mo_sum rf z_this post → post w0 w1)) := by
  unfold wp_Mo_sum at h
  obtain ⟨r1, u1, qa0, qb0⟩ := dt_Mo_product hrf h
  replace h := qb0 _ h
  obtain ⟨k1, h⟩ := h
  rcases dt_Mo_sum_L5 hrf k1 _ _ _ _ h with ⟨z_this, x1, qa1, qb1⟩ | ⟨w1_0, w1_1, qa1, qb1⟩
  · replace h := qb1 k1 _ _ h
    obtain ⟨w2_0, w2_1, qa2, qb2⟩ := dt_Mo_sum_J109 hrf h
    exact ⟨_, _, fun post q => (by unfold wp_Mo_sum; exact (qa0 _ (⟨k1, (qa1 _ _ ((qa2 _ (q))))⟩))), fun post h => (by unfold wp_Mo_sum at h; replace h := qb0 _ h; obtain ⟨m1, h⟩ := h; replace h := qb1 m1 _ _ h; replace h := qb2 _ h; exact h)⟩
  · exact ⟨_, _, fun post q => (by unfold wp_Mo_sum; exact (qa0 _ (⟨k1, (qa1 _ _ (q))⟩))), fun post h => (by unfold wp_Mo_sum at h; replace h := qb0 _ h; obtain ⟨m1, h⟩ := h; replace h := qb1 m1 _ _ h; exact h)⟩
set_option maxHeartbeats 2000000 in
theorem dt_Mo_factor_J120 {rf : T_Mo → (Int32 → T_Mo → Prop) → Prop} {z_this : T_Mo} {x1 : Int32} {x2 : Int32} {x3 : Int32} (hrf : ∀ (v0 : T_Mo) (post : (Int32 → T_Mo → Prop)), rf v0 post → (∃ (w0 : Int32) (w1 : T_Mo), (∀ (post : (Int32 → T_Mo → Prop)), post w0 w1 → rf v0 post) ∧ (∀ (post : (Int32 → T_Mo → Prop)), rf v0 post → post w0 w1))) {post : Int32 → T_Mo → Prop} (h : wp_Mo_factor_J120 rf post z_this x1 x2 x3) : (∃ (w0 : Int32) (w1 : T_Mo), (∀ (post : Int32 → T_Mo → Prop), post w0 w1 → wp_Mo_factor_J120 rf post z_this x1 x2 x3) ∧ (∀ (post : Int32 → T_Mo → Prop), wp_Mo_factor_J120 rf post z_this x1 x2 x3 → post w0 w1)) := by
  unfold wp_Mo_factor_J120 at h
  exact ⟨_, _, fun post q => (by unfold wp_Mo_factor_J120; exact q), fun post h => (by unfold wp_Mo_factor_J120 at h; exact h)⟩
set_option maxHeartbeats 2000000 in
theorem dt_Mo_factor_J122 {rf : T_Mo → (Int32 → T_Mo → Prop) → Prop} {z_this : T_Mo} {x1 : Int32} {x2 : Int32} {x3 : Int32} (hrf : ∀ (v0 : T_Mo) (post : (Int32 → T_Mo → Prop)), rf v0 post → (∃ (w0 : Int32) (w1 : T_Mo), (∀ (post : (Int32 → T_Mo → Prop)), post w0 w1 → rf v0 post) ∧ (∀ (post : (Int32 → T_Mo → Prop)), rf v0 post → post w0 w1))) {post : Int32 → T_Mo → Prop} (h : wp_Mo_factor_J122 rf post z_this x1 x2 x3) : (∃ (w0 : Int32) (w1 : T_Mo), (∀ (post : Int32 → T_Mo → Prop), post w0 w1 → wp_Mo_factor_J122 rf post z_this x1 x2 x3) ∧ (∀ (post : Int32 → T_Mo → Prop), wp_Mo_factor_J122 rf post z_this x1 x2 x3 → post w0 w1)) := by
  unfold wp_Mo_factor_J122 at h
  rcases br_el h with ⟨c0, h⟩ | ⟨c0, h⟩
  · exact ⟨_, _, fun post q => (by unfold wp_Mo_factor_J122; exact (pT c0 (q))), fun post h => (by unfold wp_Mo_factor_J122 at h; replace h := h.1 c0; exact h)⟩
  · obtain ⟨r3, u3, qa1, qb1⟩ := dt_Mo_push h
    replace h := qb1 _ h
    obtain ⟨r4, u4, qa2, qb2⟩ := dt_Mo_unitIn h
    replace h := qb2 _ h
    obtain ⟨r5, u5, qa3, qb3⟩ := dt_Mo_node0 h
    replace h := qb3 _ h
    exact ⟨_, _, fun post q => (by unfold wp_Mo_factor_J122; exact (pF c0 ((qa1 _ ((qa2 _ ((qa3 _ (q))))))))), fun post h => (by unfold wp_Mo_factor_J122 at h; replace h := h.2 c0; replace h := qb1 _ h; replace h := qb2 _ h; replace h := qb3 _ h; exact h)⟩
set_option maxHeartbeats 2000000 in
theorem dt_Mo_factor_J102 {rf : T_Mo → (Int32 → T_Mo → Prop) → Prop} {z_this : T_Mo} {x1 : Int32} {x2 : Int32} {y0 : Int32} (hrf : ∀ (v0 : T_Mo) (post : (Int32 → T_Mo → Prop)), rf v0 post → (∃ (w0 : Int32) (w1 : T_Mo), (∀ (post : (Int32 → T_Mo → Prop)), post w0 w1 → rf v0 post) ∧ (∀ (post : (Int32 → T_Mo → Prop)), rf v0 post → post w0 w1))) {post : Int32 → T_Mo → Prop} (h : wp_Mo_factor_J102 rf post z_this x1 x2 y0) : (∃ (w0 : Int32) (w1 : T_Mo), (∀ (post : Int32 → T_Mo → Prop), post w0 w1 → wp_Mo_factor_J102 rf post z_this x1 x2 y0) ∧ (∀ (post : Int32 → T_Mo → Prop), wp_Mo_factor_J102 rf post z_this x1 x2 y0 → post w0 w1)) := by
  unfold wp_Mo_factor_J102 at h
  rcases br_el h with ⟨c0, h⟩ | ⟨c0, h⟩
  · obtain ⟨w1_0, w1_1, qa1, qb1⟩ := dt_Mo_factor_J120 hrf h
    exact ⟨_, _, fun post q => (by unfold wp_Mo_factor_J102; exact (pT c0 ((qa1 _ (q))))), fun post h => (by unfold wp_Mo_factor_J102 at h; replace h := h.1 c0; replace h := qb1 _ h; exact h)⟩
  · rcases br_el h with ⟨c1, h⟩ | ⟨c1, h⟩
    · obtain ⟨r6, u6, qa2, qb2⟩ := dt_Mo_over h
      replace h := qb2 _ h
      rcases br_el h with ⟨c3, h⟩ | ⟨c3, h⟩
      · obtain ⟨w4_0, w4_1, qa4, qb4⟩ := dt_Mo_factor_J120 hrf h
        exact ⟨_, _, fun post q => (by unfold wp_Mo_factor_J102; exact (pF c0 ((pT c1 ((qa2 _ ((pT c3 ((qa4 _ (q))))))))))), fun post h => (by unfold wp_Mo_factor_J102 at h; replace h := h.2 c0; replace h := h.1 c1; replace h := qb2 _ h; replace h := h.1 c3; replace h := qb4 _ h; exact h)⟩
      · obtain ⟨w4_0, w4_1, qa4, qb4⟩ := dt_Mo_factor_J122 hrf h
        exact ⟨_, _, fun post q => (by unfold wp_Mo_factor_J102; exact (pF c0 ((pT c1 ((qa2 _ ((pF c3 ((qa4 _ (q))))))))))), fun post h => (by unfold wp_Mo_factor_J102 at h; replace h := h.2 c0; replace h := h.1 c1; replace h := qb2 _ h; replace h := h.2 c3; replace h := qb4 _ h; exact h)⟩
    · obtain ⟨w2_0, w2_1, qa2, qb2⟩ := dt_Mo_factor_J122 hrf h
      exact ⟨_, _, fun post q => (by unfold wp_Mo_factor_J102; exact (pF c0 ((pF c1 ((qa2 _ (q))))))), fun post h => (by unfold wp_Mo_factor_J102 at h; replace h := h.2 c0; replace h := h.2 c1; replace h := qb2 _ h; exact h)⟩
set_option maxHeartbeats 2000000 in
theorem dt_Mo_factor_J53 {rf : T_Mo → (Int32 → T_Mo → Prop) → Prop} {z_this : T_Mo} {x1 : Int32} {y0 : Int32} (hrf : ∀ (v0 : T_Mo) (post : (Int32 → T_Mo → Prop)), rf v0 post → (∃ (w0 : Int32) (w1 : T_Mo), (∀ (post : (Int32 → T_Mo → Prop)), post w0 w1 → rf v0 post) ∧ (∀ (post : (Int32 → T_Mo → Prop)), rf v0 post → post w0 w1))) {post : Int32 → T_Mo → Prop} (h : wp_Mo_factor_J53 rf post z_this x1 y0) : (∃ (w0 : Int32) (w1 : T_Mo), (∀ (post : Int32 → T_Mo → Prop), post w0 w1 → wp_Mo_factor_J53 rf post z_this x1 y0) ∧ (∀ (post : Int32 → T_Mo → Prop), wp_Mo_factor_J53 rf post z_this x1 y0 → post w0 w1)) := by
  unfold wp_Mo_factor_J53 at h
  rcases br_el h with ⟨c0, h⟩ | ⟨c0, h⟩
  · obtain ⟨r8, u8, qa1, qb1⟩ := dt_Mo_bad h
    replace h := qb1 _ h
    exact ⟨_, _, fun post q => (by unfold wp_Mo_factor_J53; exact (pT c0 ((qa1 _ (q))))), fun post h => (by unfold wp_Mo_factor_J53 at h; replace h := h.1 c0; replace h := qb1 _ h; exact h)⟩
  · obtain ⟨r1, u1, qa1, qb1⟩ := dt_Mo_go h
    replace h := qb1 _ h
    rcases br_el h with ⟨c2, h⟩ | ⟨c2, h⟩
    · exact ⟨_, _, fun post q => (by unfold wp_Mo_factor_J53; exact (pF c0 ((qa1 _ ((pT c2 (q))))))), fun post h => (by unfold wp_Mo_factor_J53 at h; replace h := h.2 c0; replace h := qb1 _ h; replace h := h.1 c2; exact h)⟩
    · rcases br_el h with ⟨c3, h⟩ | ⟨c3, h⟩
      · obtain ⟨r2, u2, qa4, qb4⟩ := dt_Mo_sum hrf h
        replace h := qb4 _ h
        obtain ⟨w5_0, w5_1, qa5, qb5⟩ := dt_Mo_factor_J102 hrf h
        exact ⟨_, _, fun post q => (by unfold wp_Mo_factor_J53; exact (pF c0 ((qa1 _ ((pF c2 ((pT c3 ((qa4 _ ((qa5 _ (q))))))))))))), fun post h => (by unfold wp_Mo_factor_J53 at h; replace h := h.2 c0; replace h := qb1 _ h; replace h := h.2 c2; replace h := h.1 c3; replace h := qb4 _ h; replace h := qb5 _ h; exact h)⟩
      · obtain ⟨r7, u7, qa4, qb4⟩ := hrf _ _ h
        replace h := qb4 _ h
        obtain ⟨w5_0, w5_1, qa5, qb5⟩ := dt_Mo_factor_J102 hrf h
        exact ⟨_, _, fun post q => (by unfold wp_Mo_factor_J53; exact (pF c0 ((qa1 _ ((pF c2 ((pF c3 ((qa4 _ ((qa5 _ (q))))))))))))), fun post h => (by unfold wp_Mo_factor_J53 at h; replace h := h.2 c0; replace h := qb1 _ h; replace h := h.2 c2; replace h := h.2 c3; replace h := qb4 _ h; replace h := qb5 _ h; exact h)⟩
set_option maxHeartbeats 2000000 in
theorem dt_Mo_factor_J39 {rf : T_Mo → (Int32 → T_Mo → Prop) → Prop} {z_this : T_Mo} {x1 : Int32} (hrf : ∀ (v0 : T_Mo) (post : (Int32 → T_Mo → Prop)), rf v0 post → (∃ (w0 : Int32) (w1 : T_Mo), (∀ (post : (Int32 → T_Mo → Prop)), post w0 w1 → rf v0 post) ∧ (∀ (post : (Int32 → T_Mo → Prop)), rf v0 post → post w0 w1))) {post : Int32 → T_Mo → Prop} (h : wp_Mo_factor_J39 rf post z_this x1) : (∃ (w0 : Int32) (w1 : T_Mo), (∀ (post : Int32 → T_Mo → Prop), post w0 w1 → wp_Mo_factor_J39 rf post z_this x1) ∧ (∀ (post : Int32 → T_Mo → Prop), wp_Mo_factor_J39 rf post z_this x1 → post w0 w1)) := by
  unfold wp_Mo_factor_J39 at h
  rcases br_el h with ⟨c0, h⟩ | ⟨c0, h⟩
  · obtain ⟨w1_0, w1_1, qa1, qb1⟩ := dt_Mo_factor_J53 hrf h
    exact ⟨_, _, fun post q => (by unfold wp_Mo_factor_J39; exact (pT c0 ((qa1 _ (q))))), fun post h => (by unfold wp_Mo_factor_J39 at h; replace h := h.1 c0; replace h := qb1 _ h; exact h)⟩
  · obtain ⟨w1_0, w1_1, qa1, qb1⟩ := dt_Mo_factor_J53 hrf h
    exact ⟨_, _, fun post q => (by unfold wp_Mo_factor_J39; exact (pF c0 ((qa1 _ (q))))), fun post h => (by unfold wp_Mo_factor_J39 at h; replace h := h.2 c0; replace h := qb1 _ h; exact h)⟩
set_option maxHeartbeats 2000000 in
theorem dt_Mo_factor_J207 {rf : T_Mo → (Int32 → T_Mo → Prop) → Prop} {z_this : T_Mo} {x1 : Int32} {x2 : Int32} (hrf : ∀ (v0 : T_Mo) (post : (Int32 → T_Mo → Prop)), rf v0 post → (∃ (w0 : Int32) (w1 : T_Mo), (∀ (post : (Int32 → T_Mo → Prop)), post w0 w1 → rf v0 post) ∧ (∀ (post : (Int32 → T_Mo → Prop)), rf v0 post → post w0 w1))) {post : Int32 → T_Mo → Prop} (h : wp_Mo_factor_J207 rf post z_this x1 x2) : (∃ (w0 : Int32) (w1 : T_Mo), (∀ (post : Int32 → T_Mo → Prop), post w0 w1 → wp_Mo_factor_J207 rf post z_this x1 x2) ∧ (∀ (post : Int32 → T_Mo → Prop), wp_Mo_factor_J207 rf post z_this x1 x2 → post w0 w1)) := by
  unfold wp_Mo_factor_J207 at h
  obtain ⟨r10, u10, qa0, qb0⟩ := dt_Mo_bad h
  replace h := qb0 _ h
  exact ⟨_, _, fun post q => (by unfold wp_Mo_factor_J207; exact (qa0 _ (q))), fun post h => (by unfold wp_Mo_factor_J207 at h; replace h := qb0 _ h; exact h)⟩
set_option maxHeartbeats 2000000 in
theorem dt_Mo_factor_J253 {rf : T_Mo → (Int32 → T_Mo → Prop) → Prop} {z_this : T_Mo} {x1 : Int32} {x2 : Int32} {x3 : Int32} {y0 : Int32} (hrf : ∀ (v0 : T_Mo) (post : (Int32 → T_Mo → Prop)), rf v0 post → (∃ (w0 : Int32) (w1 : T_Mo), (∀ (post : (Int32 → T_Mo → Prop)), post w0 w1 → rf v0 post) ∧ (∀ (post : (Int32 → T_Mo → Prop)), rf v0 post → post w0 w1))) {post : Int32 → T_Mo → Prop} (h : wp_Mo_factor_J253 rf post z_this x1 x2 x3 y0) : (∃ (w0 : Int32) (w1 : T_Mo), (∀ (post : Int32 → T_Mo → Prop), post w0 w1 → wp_Mo_factor_J253 rf post z_this x1 x2 x3 y0) ∧ (∀ (post : Int32 → T_Mo → Prop), wp_Mo_factor_J253 rf post z_this x1 x2 x3 y0 → post w0 w1)) := by
  unfold wp_Mo_factor_J253 at h
  exact ⟨_, _, fun post q => (by unfold wp_Mo_factor_J253; exact q), fun post h => (by unfold wp_Mo_factor_J253 at h; exact h)⟩
set_option maxHeartbeats 2000000 in
theorem dt_Mo_factor_J181 {rf : T_Mo → (Int32 → T_Mo → Prop) → Prop} {z_this : T_Mo} {x1 : Int32} {y0 : Int32} (hrf : ∀ (v0 : T_Mo) (post : (Int32 → T_Mo → Prop)), rf v0 post → (∃ (w0 : Int32) (w1 : T_Mo), (∀ (post : (Int32 → T_Mo → Prop)), post w0 w1 → rf v0 post) ∧ (∀ (post : (Int32 → T_Mo → Prop)), rf v0 post → post w0 w1))) {post : Int32 → T_Mo → Prop} (h : wp_Mo_factor_J181 rf post z_this x1 y0) : (∃ (w0 : Int32) (w1 : T_Mo), (∀ (post : Int32 → T_Mo → Prop), post w0 w1 → wp_Mo_factor_J181 rf post z_this x1 y0) ∧ (∀ (post : Int32 → T_Mo → Prop), wp_Mo_factor_J181 rf post z_this x1 y0 → post w0 w1)) := by
  unfold wp_Mo_factor_J181 at h
  rcases br_el h with ⟨c0, h⟩ | ⟨c0, h⟩
  · obtain ⟨w1_0, w1_1, qa1, qb1⟩ := dt_Mo_factor_J207 hrf h
    exact ⟨_, _, fun post q => (by unfold wp_Mo_factor_J181; exact (pT c0 ((qa1 _ (q))))), fun post h => (by unfold wp_Mo_factor_J181 at h; replace h := h.1 c0; replace h := qb1 _ h; exact h)⟩
  · obtain ⟨s1, h⟩ := h
    rcases br_el h with ⟨c2, h⟩ | ⟨c2, h⟩
    · obtain ⟨w3_0, w3_1, qa3, qb3⟩ := dt_Mo_factor_J207 hrf h
      exact ⟨_, _, fun post q => (by unfold wp_Mo_factor_J181; exact (pF c0 (⟨s1, (pT c2 ((qa3 _ (q))))⟩))), fun post h => (by unfold wp_Mo_factor_J181 at h; replace h := h.2 c0; replace h := h.2; replace h := h.1 c2; replace h := qb3 _ h; exact h)⟩
    · obtain ⟨s3, h⟩ := h
      obtain ⟨r11, u11, qa4, qb4⟩ := dt_Mo_go h
      replace h := qb4 _ h
      rcases br_el h with ⟨c5, h⟩ | ⟨c5, h⟩
      · obtain ⟨w6_0, w6_1, qa6, qb6⟩ := dt_Mo_factor_J253 hrf h
        exact ⟨_, _, fun post q => (by unfold wp_Mo_factor_J181; exact (pF c0 (⟨s1, (pF c2 (⟨s3, (qa4 _ ((pT c5 ((qa6 _ (q))))))⟩))⟩))), fun post h => (by unfold wp_Mo_factor_J181 at h; replace h := h.2 c0; replace h := h.2; replace h := h.2 c2; replace h := h.2; replace h := qb4 _ h; replace h := h.1 c5; replace h := qb6 _ h; exact h)⟩
      · obtain ⟨r12, u12, qa6, qb6⟩ := dt_Mo_node0 h
        replace h := qb6 _ h
        obtain ⟨w7_0, w7_1, qa7, qb7⟩ := dt_Mo_factor_J253 hrf h
        exact ⟨_, _, fun post q => (by unfold wp_Mo_factor_J181; exact (pF c0 (⟨s1, (pF c2 (⟨s3, (qa4 _ ((pF c5 ((qa6 _ ((qa7 _ (q))))))))⟩))⟩))), fun post h => (by unfold wp_Mo_factor_J181 at h; replace h := h.2 c0; replace h := h.2; replace h := h.2 c2; replace h := h.2; replace h := qb4 _ h; replace h := h.2 c5; replace h := qb6 _ h; replace h := qb7 _ h; exact h)⟩
set_option maxHeartbeats 2000000 in
theorem dt_Mo_factor_F {rf : T_Mo → (Int32 → T_Mo → Prop) → Prop} {z_this : T_Mo} (hrf : ∀ (v0 : T_Mo) (post : (Int32 → T_Mo → Prop)), rf v0 post → (∃ (w0 : Int32) (w1 : T_Mo), (∀ (post : (Int32 → T_Mo → Prop)), post w0 w1 → rf v0 post) ∧ (∀ (post : (Int32 → T_Mo → Prop)), rf v0 post → post w0 w1))) {post : Int32 → T_Mo → Prop} (h : wp_Mo_factor_F rf z_this post) : (∃ (w0 : Int32) (w1 : T_Mo), (∀ (post : Int32 → T_Mo → Prop), post w0 w1 → wp_Mo_factor_F rf z_this post) ∧ (∀ (post : Int32 → T_Mo → Prop), wp_Mo_factor_F rf z_this post → post w0 w1)) := by
  unfold wp_Mo_factor_F at h
  rcases br_el h with ⟨c0, h⟩ | ⟨c0, h⟩
  · obtain ⟨r14, u14, qa1, qb1⟩ := dt_Mo_numberNode h
    replace h := qb1 _ h
    exact ⟨_, _, fun post q => (by unfold wp_Mo_factor_F; exact (pT c0 ((qa1 _ (q))))), fun post h => (by unfold wp_Mo_factor_F at h; replace h := h.1 c0; replace h := qb1 _ h; exact h)⟩
  · rcases br_el h with ⟨c1, h⟩ | ⟨c1, h⟩
    · obtain ⟨w2_0, w2_1, qa2, qb2⟩ := dt_Mo_factor_J39 hrf h
      exact ⟨_, _, fun post q => (by unfold wp_Mo_factor_F; exact (pF c0 ((pT c1 ((qa2 _ (q))))))), fun post h => (by unfold wp_Mo_factor_F at h; replace h := h.2 c0; replace h := h.1 c1; replace h := qb2 _ h; exact h)⟩
    · rcases br_el h with ⟨c2, h⟩ | ⟨c2, h⟩
      · obtain ⟨w3_0, w3_1, qa3, qb3⟩ := dt_Mo_factor_J39 hrf h
        exact ⟨_, _, fun post q => (by unfold wp_Mo_factor_F; exact (pF c0 ((pF c1 ((pT c2 ((qa3 _ (q))))))))), fun post h => (by unfold wp_Mo_factor_F at h; replace h := h.2 c0; replace h := h.2 c1; replace h := h.1 c2; replace h := qb3 _ h; exact h)⟩
      · obtain ⟨r9, u9, qa3, qb3⟩ := dt_Mo_isWord h
        replace h := qb3 _ h
        rcases br_el h with ⟨c4, h⟩ | ⟨c4, h⟩
        · obtain ⟨w5_0, w5_1, qa5, qb5⟩ := dt_Mo_factor_J181 hrf h
          exact ⟨_, _, fun post q => (by unfold wp_Mo_factor_F; exact (pF c0 ((pF c1 ((pF c2 ((qa3 _ ((pT c4 ((qa5 _ (q))))))))))))), fun post h => (by unfold wp_Mo_factor_F at h; replace h := h.2 c0; replace h := h.2 c1; replace h := h.2 c2; replace h := qb3 _ h; replace h := h.1 c4; replace h := qb5 _ h; exact h)⟩
        · obtain ⟨r13, u13, qa5, qb5⟩ := dt_Mo_nameOf h
          replace h := qb5 _ h
          obtain ⟨w6_0, w6_1, qa6, qb6⟩ := dt_Mo_factor_J181 hrf h
          exact ⟨_, _, fun post q => (by unfold wp_Mo_factor_F; exact (pF c0 ((pF c1 ((pF c2 ((qa3 _ ((pF c4 ((qa5 _ ((qa6 _ (q))))))))))))))), fun post h => (by unfold wp_Mo_factor_F at h; replace h := h.2 c0; replace h := h.2 c1; replace h := h.2 c2; replace h := qb3 _ h; replace h := h.2 c4; replace h := qb5 _ h; replace h := qb6 _ h; exact h)⟩
theorem dt_Mo_factor : ∀ (d : Nat), ∀ (v0 : T_Mo) (post : (Int32 → T_Mo → Prop)), wp_Mo_factor d v0 post → (∃ (w0 : Int32) (w1 : T_Mo), (∀ (post : (Int32 → T_Mo → Prop)), post w0 w1 → wp_Mo_factor d v0 post) ∧ (∀ (post : (Int32 → T_Mo → Prop)), wp_Mo_factor d v0 post → post w0 w1)) := by
  intro d
  induction d with
  | zero => intro v0 post h; exact False.elim h
  | succ d ih =>
    intro v0 post h
    exact dt_Mo_factor_F ih h
set_option maxHeartbeats 2000000 in
theorem dt_Mo_test_J94 {rf : T_Mo → (Int32 → T_Mo → Prop) → Prop} {z_this : T_Mo} {x1 : Int32} {x2 : Int32} {x3 : Int32} {y0 : Int32} (hrf : ∀ (v0 : T_Mo) (post : (Int32 → T_Mo → Prop)), rf v0 post → (∃ (w0 : Int32) (w1 : T_Mo), (∀ (post : (Int32 → T_Mo → Prop)), post w0 w1 → rf v0 post) ∧ (∀ (post : (Int32 → T_Mo → Prop)), rf v0 post → post w0 w1))) {post : Int32 → T_Mo → Prop} (h : wp_Mo_test_J94 rf post z_this x1 x2 x3 y0) : (∃ (w0 : Int32) (w1 : T_Mo), (∀ (post : Int32 → T_Mo → Prop), post w0 w1 → wp_Mo_test_J94 rf post z_this x1 x2 x3 y0) ∧ (∀ (post : Int32 → T_Mo → Prop), wp_Mo_test_J94 rf post z_this x1 x2 x3 y0 → post w0 w1)) := by
  unfold wp_Mo_test_J94 at h
  rcases br_el h with ⟨c0, h⟩ | ⟨c0, h⟩
  · obtain ⟨r3, u3, qa1, qb1⟩ := dt_Mo_unitIn h
    replace h := qb1 _ h
    obtain ⟨r4, u4, qa2, qb2⟩ := dt_Mo_unitIn h
    replace h := qb2 _ h
    rcases br_el h with ⟨c3, h⟩ | ⟨c3, h⟩
    · obtain ⟨r5, u5, qa4, qb4⟩ := dt_Mo_two h
      replace h := qb4 _ h
      exact ⟨_, _, fun post q => (by unfold wp_Mo_test_J94; exact (pT c0 ((qa1 _ ((qa2 _ ((pT c3 ((qa4 _ (q))))))))))), fun post h => (by unfold wp_Mo_test_J94 at h; replace h := h.1 c0; replace h := qb1 _ h; replace h := qb2 _ h; replace h := h.1 c3; replace h := qb4 _ h; exact h)⟩
    · exact ⟨_, _, fun post q => (by unfold wp_Mo_test_J94; exact (pT c0 ((qa1 _ ((qa2 _ ((pF c3 (q))))))))), fun post h => (by unfold wp_Mo_test_J94 at h; replace h := h.1 c0; replace h := qb1 _ h; replace h := qb2 _ h; replace h := h.2 c3; exact h)⟩
  · exact ⟨_, _, fun post q => (by unfold wp_Mo_test_J94; exact (pF c0 (q))), fun post h => (by unfold wp_Mo_test_J94 at h; replace h := h.2 c0; exact h)⟩
set_option maxHeartbeats 2000000 in
theorem dt_Mo_test_J73 {rf : T_Mo → (Int32 → T_Mo → Prop) → Prop} {z_this : T_Mo} {x1 : Int32} {y0 : Int32} (hrf : ∀ (v0 : T_Mo) (post : (Int32 → T_Mo → Prop)), rf v0 post → (∃ (w0 : Int32) (w1 : T_Mo), (∀ (post : (Int32 → T_Mo → Prop)), post w0 w1 → rf v0 post) ∧ (∀ (post : (Int32 → T_Mo → Prop)), rf v0 post → post w0 w1))) {post : Int32 → T_Mo → Prop} (h : wp_Mo_test_J73 rf post z_this x1 y0) : (∃ (w0 : Int32) (w1 : T_Mo), (∀ (post : Int32 → T_Mo → Prop), post w0 w1 → wp_Mo_test_J73 rf post z_this x1 y0) ∧ (∀ (post : Int32 → T_Mo → Prop), wp_Mo_test_J73 rf post z_this x1 y0 → post w0 w1)) := by
  unfold wp_Mo_test_J73 at h
  obtain ⟨r2, u2, qa0, qb0⟩ := dt_Mo_go h
  replace h := qb0 _ h
  rcases br_el h with ⟨c1, h⟩ | ⟨c1, h⟩
  · obtain ⟨w2_0, w2_1, qa2, qb2⟩ := dt_Mo_test_J94 hrf h
    exact ⟨_, _, fun post q => (by unfold wp_Mo_test_J73; exact (qa0 _ ((pT c1 ((qa2 _ (q))))))), fun post h => (by unfold wp_Mo_test_J73 at h; replace h := qb0 _ h; replace h := h.1 c1; replace h := qb2 _ h; exact h)⟩
  · obtain ⟨r6, u6, qa2, qb2⟩ := dt_Mo_sum hrf h
    replace h := qb2 _ h
    obtain ⟨w3_0, w3_1, qa3, qb3⟩ := dt_Mo_test_J94 hrf h
    exact ⟨_, _, fun post q => (by unfold wp_Mo_test_J73; exact (qa0 _ ((pF c1 ((qa2 _ ((qa3 _ (q))))))))), fun post h => (by unfold wp_Mo_test_J73 at h; replace h := qb0 _ h; replace h := h.2 c1; replace h := qb2 _ h; replace h := qb3 _ h; exact h)⟩
set_option maxHeartbeats 2000000 in
theorem dt_Mo_test_J43 {rf : T_Mo → (Int32 → T_Mo → Prop) → Prop} {z_this : T_Mo} {x1 : Int32} (hrf : ∀ (v0 : T_Mo) (post : (Int32 → T_Mo → Prop)), rf v0 post → (∃ (w0 : Int32) (w1 : T_Mo), (∀ (post : (Int32 → T_Mo → Prop)), post w0 w1 → rf v0 post) ∧ (∀ (post : (Int32 → T_Mo → Prop)), rf v0 post → post w0 w1))) {post : Int32 → T_Mo → Prop} (h : wp_Mo_test_J43 rf post z_this x1) : (∃ (w0 : Int32) (w1 : T_Mo), (∀ (post : Int32 → T_Mo → Prop), post w0 w1 → wp_Mo_test_J43 rf post z_this x1) ∧ (∀ (post : Int32 → T_Mo → Prop), wp_Mo_test_J43 rf post z_this x1 → post w0 w1)) := by
  unfold wp_Mo_test_J43 at h
  rcases br_el h with ⟨c0, h⟩ | ⟨c0, h⟩
  · obtain ⟨w1_0, w1_1, qa1, qb1⟩ := dt_Mo_test_J73 hrf h
    exact ⟨_, _, fun post q => (by unfold wp_Mo_test_J43; exact (pT c0 ((qa1 _ (q))))), fun post h => (by unfold wp_Mo_test_J43 at h; replace h := h.1 c0; replace h := qb1 _ h; exact h)⟩
  · rcases br_el h with ⟨c1, h⟩ | ⟨c1, h⟩
    · obtain ⟨w2_0, w2_1, qa2, qb2⟩ := dt_Mo_test_J73 hrf h
      exact ⟨_, _, fun post q => (by unfold wp_Mo_test_J43; exact (pF c0 ((pT c1 ((qa2 _ (q))))))), fun post h => (by unfold wp_Mo_test_J43 at h; replace h := h.2 c0; replace h := h.1 c1; replace h := qb2 _ h; exact h)⟩
    · obtain ⟨w2_0, w2_1, qa2, qb2⟩ := dt_Mo_test_J73 hrf h
      exact ⟨_, _, fun post q => (by unfold wp_Mo_test_J43; exact (pF c0 ((pF c1 ((qa2 _ (q))))))), fun post h => (by unfold wp_Mo_test_J43 at h; replace h := h.2 c0; replace h := h.2 c1; replace h := qb2 _ h; exact h)⟩
set_option maxHeartbeats 2000000 in
theorem dt_Mo_test {rf : T_Mo → (Int32 → T_Mo → Prop) → Prop} {z_this : T_Mo} (hrf : ∀ (v0 : T_Mo) (post : (Int32 → T_Mo → Prop)), rf v0 post → (∃ (w0 : Int32) (w1 : T_Mo), (∀ (post : (Int32 → T_Mo → Prop)), post w0 w1 → rf v0 post) ∧ (∀ (post : (Int32 → T_Mo → Prop)), rf v0 post → post w0 w1))) {post : Int32 → T_Mo → Prop} (h : wp_Mo_test rf z_this post) : (∃ (w0 : Int32) (w1 : T_Mo), (∀ (post : Int32 → T_Mo → Prop), post w0 w1 → wp_Mo_test rf z_this post) ∧ (∀ (post : Int32 → T_Mo → Prop), wp_Mo_test rf z_this post → post w0 w1)) := by
  unfold wp_Mo_test at h
  obtain ⟨r1, u1, qa0, qb0⟩ := dt_Mo_sum hrf h
  replace h := qb0 _ h
  rcases br_el h with ⟨c1, h⟩ | ⟨c1, h⟩
  · rcases br_el h with ⟨c2, h⟩ | ⟨c2, h⟩
    · obtain ⟨w3_0, w3_1, qa3, qb3⟩ := dt_Mo_test_J43 hrf h
      exact ⟨_, _, fun post q => (by unfold wp_Mo_test; exact (qa0 _ ((pT c1 ((pT c2 ((qa3 _ (q))))))))), fun post h => (by unfold wp_Mo_test at h; replace h := qb0 _ h; replace h := h.1 c1; replace h := h.1 c2; replace h := qb3 _ h; exact h)⟩
    · rcases br_el h with ⟨c3, h⟩ | ⟨c3, h⟩
      · obtain ⟨w4_0, w4_1, qa4, qb4⟩ := dt_Mo_test_J43 hrf h
        exact ⟨_, _, fun post q => (by unfold wp_Mo_test; exact (qa0 _ ((pT c1 ((pF c2 ((pT c3 ((qa4 _ (q))))))))))), fun post h => (by unfold wp_Mo_test at h; replace h := qb0 _ h; replace h := h.1 c1; replace h := h.2 c2; replace h := h.1 c3; replace h := qb4 _ h; exact h)⟩
      · rcases br_el h with ⟨c4, h⟩ | ⟨c4, h⟩
        · obtain ⟨w5_0, w5_1, qa5, qb5⟩ := dt_Mo_test_J43 hrf h
          exact ⟨_, _, fun post q => (by unfold wp_Mo_test; exact (qa0 _ ((pT c1 ((pF c2 ((pF c3 ((pT c4 ((qa5 _ (q))))))))))))), fun post h => (by unfold wp_Mo_test at h; replace h := qb0 _ h; replace h := h.1 c1; replace h := h.2 c2; replace h := h.2 c3; replace h := h.1 c4; replace h := qb5 _ h; exact h)⟩
        · obtain ⟨r7, u7, qa5, qb5⟩ := dt_Mo_bad h
          replace h := qb5 _ h
          exact ⟨_, _, fun post q => (by unfold wp_Mo_test; exact (qa0 _ ((pT c1 ((pF c2 ((pF c3 ((pF c4 ((qa5 _ (q))))))))))))), fun post h => (by unfold wp_Mo_test at h; replace h := qb0 _ h; replace h := h.1 c1; replace h := h.2 c2; replace h := h.2 c3; replace h := h.2 c4; replace h := qb5 _ h; exact h)⟩
  · exact ⟨_, _, fun post q => (by unfold wp_Mo_test; exact (qa0 _ ((pF c1 (q))))), fun post h => (by unfold wp_Mo_test at h; replace h := qb0 _ h; replace h := h.2 c1; exact h)⟩
set_option maxHeartbeats 2000000 in
theorem dt_Mo_sumOf {rf : T_Mo → (Int32 → T_Mo → Prop) → Prop} {z_this : T_Mo} {a1 : Int32} (hrf : ∀ (v0 : T_Mo) (post : (Int32 → T_Mo → Prop)), rf v0 post → (∃ (w0 : Int32) (w1 : T_Mo), (∀ (post : (Int32 → T_Mo → Prop)), post w0 w1 → rf v0 post) ∧ (∀ (post : (Int32 → T_Mo → Prop)), rf v0 post → post w0 w1))) {post : Int32 → T_Mo → Prop} (h : wp_Mo_sumOf rf z_this a1 post) : (∃ (w0 : Int32) (w1 : T_Mo), (∀ (post : Int32 → T_Mo → Prop), post w0 w1 → wp_Mo_sumOf rf z_this a1 post) ∧ (∀ (post : Int32 → T_Mo → Prop), wp_Mo_sumOf rf z_this a1 post → post w0 w1)) := by
  unfold wp_Mo_sumOf at h
  obtain ⟨r1, u1, qa0, qb0⟩ := dt_Mo_sum hrf h
  replace h := qb0 _ h
  rcases br_el h with ⟨c1, h⟩ | ⟨c1, h⟩
  · obtain ⟨r2, u2, qa2, qb2⟩ := dt_Mo_unitIn h
    replace h := qb2 _ h
    rcases br_el h with ⟨c3, h⟩ | ⟨c3, h⟩
    · obtain ⟨r3, u3, qa4, qb4⟩ := dt_Mo_push h
      replace h := qb4 _ h
      exact ⟨_, _, fun post q => (by unfold wp_Mo_sumOf; exact (qa0 _ ((pT c1 ((qa2 _ ((pT c3 ((qa4 _ (q))))))))))), fun post h => (by unfold wp_Mo_sumOf at h; replace h := qb0 _ h; replace h := h.1 c1; replace h := qb2 _ h; replace h := h.1 c3; replace h := qb4 _ h; exact h)⟩
    · exact ⟨_, _, fun post q => (by unfold wp_Mo_sumOf; exact (qa0 _ ((pT c1 ((qa2 _ ((pF c3 (q))))))))), fun post h => (by unfold wp_Mo_sumOf at h; replace h := qb0 _ h; replace h := h.1 c1; replace h := qb2 _ h; replace h := h.2 c3; exact h)⟩
  · exact ⟨_, _, fun post q => (by unfold wp_Mo_sumOf; exact (qa0 _ ((pF c1 (q))))), fun post h => (by unfold wp_Mo_sumOf at h; replace h := qb0 _ h; replace h := h.2 c1; exact h)⟩
set_option maxHeartbeats 2000000 in
theorem dt_Mo_statement_J26 {d : Nat} {rf : T_Mo → (Int32 → T_Mo → Prop) → Prop} {z_this : T_Mo} {x1 : Int32} {x2 : Int32} (hrf : ∀ (v0 : T_Mo) (post : (Int32 → T_Mo → Prop)), rf v0 post → (∃ (w0 : Int32) (w1 : T_Mo), (∀ (post : (Int32 → T_Mo → Prop)), post w0 w1 → rf v0 post) ∧ (∀ (post : (Int32 → T_Mo → Prop)), rf v0 post → post w0 w1))) {post : Int32 → T_Mo → Prop} (h : wp_Mo_statement_J26 d rf post z_this x1 x2) : (∃ (w0 : Int32) (w1 : T_Mo), (∀ (post : Int32 → T_Mo → Prop), post w0 w1 → wp_Mo_statement_J26 d rf post z_this x1 x2) ∧ (∀ (post : Int32 → T_Mo → Prop), wp_Mo_statement_J26 d rf post z_this x1 x2 → post w0 w1)) := by
  unfold wp_Mo_statement_J26 at h
  obtain ⟨r1, u1, qa0, qb0⟩ := dt_Mo_bad h
  replace h := qb0 _ h
  exact ⟨_, _, fun post q => (by unfold wp_Mo_statement_J26; exact (qa0 _ (q))), fun post h => (by unfold wp_Mo_statement_J26 at h; replace h := qb0 _ h; exact h)⟩
set_option maxHeartbeats 2000000 in
theorem dt_Mo_statement_J587 {d : Nat} {rf : T_Mo → (Int32 → T_Mo → Prop) → Prop} {z_this : T_Mo} {x1 : Int32} {x2 : Int32} {x3 : Int32} {x4 : Int32} {x5 : Int32} (hrf : ∀ (v0 : T_Mo) (post : (Int32 → T_Mo → Prop)), rf v0 post → (∃ (w0 : Int32) (w1 : T_Mo), (∀ (post : (Int32 → T_Mo → Prop)), post w0 w1 → rf v0 post) ∧ (∀ (post : (Int32 → T_Mo → Prop)), rf v0 post → post w0 w1))) {post : Int32 → T_Mo → Prop} (h : wp_Mo_statement_J587 d rf post z_this x1 x2 x3 x4 x5) : (∃ (w0 : Int32) (w1 : T_Mo), (∀ (post : Int32 → T_Mo → Prop), post w0 w1 → wp_Mo_statement_J587 d rf post z_this x1 x2 x3 x4 x5) ∧ (∀ (post : Int32 → T_Mo → Prop), wp_Mo_statement_J587 d rf post z_this x1 x2 x3 x4 x5 → post w0 w1)) := by
  unfold wp_Mo_statement_J587 at h
  rcases br_el h with ⟨c0, h⟩ | ⟨c0, h⟩
  · exact ⟨_, _, fun post q => (by unfold wp_Mo_statement_J587; exact (pT c0 (q))), fun post h => (by unfold wp_Mo_statement_J587 at h; replace h := h.1 c0; exact h)⟩
  · obtain ⟨r4, u4, qa1, qb1⟩ := dt_Mo_node0 h
    replace h := qb1 _ h
    exact ⟨_, _, fun post q => (by unfold wp_Mo_statement_J587; exact (pF c0 ((qa1 _ (q))))), fun post h => (by unfold wp_Mo_statement_J587 at h; replace h := h.2 c0; replace h := qb1 _ h; exact h)⟩
set_option maxHeartbeats 2000000 in
theorem dt_Mo_statement_J195 {d : Nat} {rf : T_Mo → (Int32 → T_Mo → Prop) → Prop} {z_this : T_Mo} {x1 : Int32} {x2 : Int32} {x3 : Int32} {x4 : Int32} {x5 : Int32} {y0 : Int32} (hrf : ∀ (v0 : T_Mo) (post : (Int32 → T_Mo → Prop)), rf v0 post → (∃ (w0 : Int32) (w1 : T_Mo), (∀ (post : (Int32 → T_Mo → Prop)), post w0 w1 → rf v0 post) ∧ (∀ (post : (Int32 → T_Mo → Prop)), rf v0 post → post w0 w1))) {post : Int32 → T_Mo → Prop} (h : wp_Mo_statement_J195 d rf post z_this x1 x2 x3 x4 x5 y0) : (∃ (w0 : Int32) (w1 : T_Mo), (∀ (post : Int32 → T_Mo → Prop), post w0 w1 → wp_Mo_statement_J195 d rf post z_this x1 x2 x3 x4 x5 y0) ∧ (∀ (post : Int32 → T_Mo → Prop), wp_Mo_statement_J195 d rf post z_this x1 x2 x3 x4 x5 y0 → post w0 w1)) := by
  unfold wp_Mo_statement_J195 at h
  obtain ⟨w0_0, w0_1, qa0, qb0⟩ := dt_Mo_statement_J587 hrf h
  exact ⟨_, _, fun post q => (by unfold wp_Mo_statement_J195; exact (qa0 _ (q))), fun post h => (by unfold wp_Mo_statement_J195 at h; replace h := qb0 _ h; exact h)⟩
set_option maxHeartbeats 2000000 in
theorem dt_Mo_statement_J194 {d : Nat} {rf : T_Mo → (Int32 → T_Mo → Prop) → Prop} {z_this : T_Mo} {x1 : Int32} {x2 : Int32} {x3 : Int32} {x4 : Int32} {x5 : Int32} (hrf : ∀ (v0 : T_Mo) (post : (Int32 → T_Mo → Prop)), rf v0 post → (∃ (w0 : Int32) (w1 : T_Mo), (∀ (post : (Int32 → T_Mo → Prop)), post w0 w1 → rf v0 post) ∧ (∀ (post : (Int32 → T_Mo → Prop)), rf v0 post → post w0 w1))) {post : Int32 → T_Mo → Prop} (h : wp_Mo_statement_J194 d rf post z_this x1 x2 x3 x4 x5) : (∃ (w0 : Int32) (w1 : T_Mo), (∀ (post : Int32 → T_Mo → Prop), post w0 w1 → wp_Mo_statement_J194 d rf post z_this x1 x2 x3 x4 x5) ∧ (∀ (post : Int32 → T_Mo → Prop), wp_Mo_statement_J194 d rf post z_this x1 x2 x3 x4 x5 → post w0 w1)) := by
  unfold wp_Mo_statement_J194 at h
  obtain ⟨w0_0, w0_1, qa0, qb0⟩ := dt_Mo_statement_J195 hrf h
  exact ⟨_, _, fun post q => (by unfold wp_Mo_statement_J194; exact (qa0 _ (q))), fun post h => (by unfold wp_Mo_statement_J194 at h; replace h := qb0 _ h; exact h)⟩
set_option maxHeartbeats 2000000 in
theorem dt_Mo_statement_J181 {d : Nat} {rf : T_Mo → (Int32 → T_Mo → Prop) → Prop} {z_this : T_Mo} {x1 : Int32} {x2 : Int32} {x3 : Int32} {x4 : Int32} {x5 : Int32} (hrf : ∀ (v0 : T_Mo) (post : (Int32 → T_Mo → Prop)), rf v0 post → (∃ (w0 : Int32) (w1 : T_Mo), (∀ (post : (Int32 → T_Mo → Prop)), post w0 w1 → rf v0 post) ∧ (∀ (post : (Int32 → T_Mo → Prop)), rf v0 post → post w0 w1))) {post : Int32 → T_Mo → Prop} (h : wp_Mo_statement_J181 d rf post z_this x1 x2 x3 x4 x5) : (∃ (w0 : Int32) (w1 : T_Mo), (∀ (post : Int32 → T_Mo → Prop), post w0 w1 → wp_Mo_statement_J181 d rf post z_this x1 x2 x3 x4 x5) ∧ (∀ (post : Int32 → T_Mo → Prop), wp_Mo_statement_J181 d rf post z_this x1 x2 x3 x4 x5 → post w0 w1)) := by
  unfold wp_Mo_statement_J181 at h
  obtain ⟨r6, u6, qa0, qb0⟩ := dt_Mo_over h
  replace h := qb0 _ h
  rcases br_el h with ⟨c1, h⟩ | ⟨c1, h⟩
  · obtain ⟨w2_0, w2_1, qa2, qb2⟩ := dt_Mo_statement_J194 hrf h
    exact ⟨_, _, fun post q => (by unfold wp_Mo_statement_J181; exact (qa0 _ ((pT c1 ((qa2 _ (q))))))), fun post h => (by unfold wp_Mo_statement_J181 at h; replace h := qb0 _ h; replace h := h.1 c1; replace h := qb2 _ h; exact h)⟩
  · obtain ⟨w2_0, w2_1, qa2, qb2⟩ := dt_Mo_statement_J195 hrf h
    exact ⟨_, _, fun post q => (by unfold wp_Mo_statement_J181; exact (qa0 _ ((pF c1 ((qa2 _ (q))))))), fun post h => (by unfold wp_Mo_statement_J181 at h; replace h := qb0 _ h; replace h := h.2 c1; replace h := qb2 _ h; exact h)⟩
set_option maxHeartbeats 2000000 in
theorem dt_Mo_statement_J120 {d : Nat} {rf : T_Mo → (Int32 → T_Mo → Prop) → Prop} {z_this : T_Mo} {x1 : Int32} {x2 : Int32} {x3 : Int32} {x4 : Int32} {x5 : Int32} (hrf : ∀ (v0 : T_Mo) (post : (Int32 → T_Mo → Prop)), rf v0 post → (∃ (w0 : Int32) (w1 : T_Mo), (∀ (post : (Int32 → T_Mo → Prop)), post w0 w1 → rf v0 post) ∧ (∀ (post : (Int32 → T_Mo → Prop)), rf v0 post → post w0 w1))) {post : Int32 → T_Mo → Prop} (h : wp_Mo_statement_J120 d rf post z_this x1 x2 x3 x4 x5) : (∃ (w0 : Int32) (w1 : T_Mo), (∀ (post : Int32 → T_Mo → Prop), post w0 w1 → wp_Mo_statement_J120 d rf post z_this x1 x2 x3 x4 x5) ∧ (∀ (post : Int32 → T_Mo → Prop), wp_Mo_statement_J120 d rf post z_this x1 x2 x3 x4 x5 → post w0 w1)) := by
  unfold wp_Mo_statement_J120 at h
  obtain ⟨r3, u3, qa0, qb0⟩ := dt_Mo_known h
  replace h := qb0 _ h
  rcases br_el h with ⟨c1, h⟩ | ⟨c1, h⟩
  · obtain ⟨w2_0, w2_1, qa2, qb2⟩ := dt_Mo_statement_J194 hrf h
    exact ⟨_, _, fun post q => (by unfold wp_Mo_statement_J120; exact (qa0 _ ((pT c1 ((qa2 _ (q))))))), fun post h => (by unfold wp_Mo_statement_J120 at h; replace h := qb0 _ h; replace h := h.1 c1; replace h := qb2 _ h; exact h)⟩
  · obtain ⟨s2, h⟩ := h
    obtain ⟨r5, u5, qa3, qb3⟩ := dt_Mo_sumOf (dt_Mo_factor d) h
    replace h := qb3 _ h
    rcases br_el h with ⟨c4, h⟩ | ⟨c4, h⟩
    · obtain ⟨w5_0, w5_1, qa5, qb5⟩ := dt_Mo_statement_J194 hrf h
      exact ⟨_, _, fun post q => (by unfold wp_Mo_statement_J120; exact (qa0 _ ((pF c1 (⟨s2, (qa3 _ ((pT c4 ((qa5 _ (q))))))⟩))))), fun post h => (by unfold wp_Mo_statement_J120 at h; replace h := qb0 _ h; replace h := h.2 c1; replace h := h.2; replace h := qb3 _ h; replace h := h.1 c4; replace h := qb5 _ h; exact h)⟩
    · rcases br_el h with ⟨c5, h⟩ | ⟨c5, h⟩
      · obtain ⟨w6_0, w6_1, qa6, qb6⟩ := dt_Mo_statement_J181 hrf h
        exact ⟨_, _, fun post q => (by unfold wp_Mo_statement_J120; exact (qa0 _ ((pF c1 (⟨s2, (qa3 _ ((pF c4 ((pT c5 ((qa6 _ (q))))))))⟩))))), fun post h => (by unfold wp_Mo_statement_J120 at h; replace h := qb0 _ h; replace h := h.2 c1; replace h := h.2; replace h := qb3 _ h; replace h := h.2 c4; replace h := h.1 c5; replace h := qb6 _ h; exact h)⟩
      · obtain ⟨r7, u7, qa6, qb6⟩ := dt_Mo_over h
        replace h := qb6 _ h
        rcases br_el h with ⟨c7, h⟩ | ⟨c7, h⟩
        · obtain ⟨w8_0, w8_1, qa8, qb8⟩ := dt_Mo_statement_J194 hrf h
          exact ⟨_, _, fun post q => (by unfold wp_Mo_statement_J120; exact (qa0 _ ((pF c1 (⟨s2, (qa3 _ ((pF c4 ((pF c5 ((qa6 _ ((pT c7 ((qa8 _ (q))))))))))))⟩))))), fun post h => (by unfold wp_Mo_statement_J120 at h; replace h := qb0 _ h; replace h := h.2 c1; replace h := h.2; replace h := qb3 _ h; replace h := h.2 c4; replace h := h.2 c5; replace h := qb6 _ h; replace h := h.1 c7; replace h := qb8 _ h; exact h)⟩
        · obtain ⟨r8, u8, qa8, qb8⟩ := dt_Mo_sumOf (dt_Mo_factor d) h
          replace h := qb8 _ h
          rcases br_el h with ⟨c9, h⟩ | ⟨c9, h⟩
          · obtain ⟨w10_0, w10_1, qa10, qb10⟩ := dt_Mo_statement_J194 hrf h
            exact ⟨_, _, fun post q => (by unfold wp_Mo_statement_J120; exact (qa0 _ ((pF c1 (⟨s2, (qa3 _ ((pF c4 ((pF c5 ((qa6 _ ((pF c7 ((qa8 _ ((pT c9 ((qa10 _ (q))))))))))))))))⟩))))), fun post h => (by unfold wp_Mo_statement_J120 at h; replace h := qb0 _ h; replace h := h.2 c1; replace h := h.2; replace h := qb3 _ h; replace h := h.2 c4; replace h := h.2 c5; replace h := qb6 _ h; replace h := h.2 c7; replace h := qb8 _ h; replace h := h.1 c9; replace h := qb10 _ h; exact h)⟩
          · obtain ⟨w10_0, w10_1, qa10, qb10⟩ := dt_Mo_statement_J181 hrf h
            exact ⟨_, _, fun post q => (by unfold wp_Mo_statement_J120; exact (qa0 _ ((pF c1 (⟨s2, (qa3 _ ((pF c4 ((pF c5 ((qa6 _ ((pF c7 ((qa8 _ ((pF c9 ((qa10 _ (q))))))))))))))))⟩))))), fun post h => (by unfold wp_Mo_statement_J120 at h; replace h := qb0 _ h; replace h := h.2 c1; replace h := h.2; replace h := qb3 _ h; replace h := h.2 c4; replace h := h.2 c5; replace h := qb6 _ h; replace h := h.2 c7; replace h := qb8 _ h; replace h := h.2 c9; replace h := qb10 _ h; exact h)⟩
set_option maxHeartbeats 2000000 in
theorem dt_Mo_statement_J222 {d : Nat} {rf : T_Mo → (Int32 → T_Mo → Prop) → Prop} {z_this : T_Mo} {x1 : Int32} {x2 : Int32} {x3 : Int32} {x4 : Int32} {x5 : Int32} {y0 : Int32} (hrf : ∀ (v0 : T_Mo) (post : (Int32 → T_Mo → Prop)), rf v0 post → (∃ (w0 : Int32) (w1 : T_Mo), (∀ (post : (Int32 → T_Mo → Prop)), post w0 w1 → rf v0 post) ∧ (∀ (post : (Int32 → T_Mo → Prop)), rf v0 post → post w0 w1))) {post : Int32 → T_Mo → Prop} (h : wp_Mo_statement_J222 d rf post z_this x1 x2 x3 x4 x5 y0) : (∃ (w0 : Int32) (w1 : T_Mo), (∀ (post : Int32 → T_Mo → Prop), post w0 w1 → wp_Mo_statement_J222 d rf post z_this x1 x2 x3 x4 x5 y0) ∧ (∀ (post : Int32 → T_Mo → Prop), wp_Mo_statement_J222 d rf post z_this x1 x2 x3 x4 x5 y0 → post w0 w1)) := by
  unfold wp_Mo_statement_J222 at h
  obtain ⟨w0_0, w0_1, qa0, qb0⟩ := dt_Mo_statement_J587 hrf h
  exact ⟨_, _, fun post q => (by unfold wp_Mo_statement_J222; exact (qa0 _ (q))), fun post h => (by unfold wp_Mo_statement_J222 at h; replace h := qb0 _ h; exact h)⟩
set_option maxHeartbeats 2000000 in
theorem dt_Mo_statement_J221 {d : Nat} {rf : T_Mo → (Int32 → T_Mo → Prop) → Prop} {z_this : T_Mo} {x1 : Int32} {x2 : Int32} {x3 : Int32} {x4 : Int32} {x5 : Int32} (hrf : ∀ (v0 : T_Mo) (post : (Int32 → T_Mo → Prop)), rf v0 post → (∃ (w0 : Int32) (w1 : T_Mo), (∀ (post : (Int32 → T_Mo → Prop)), post w0 w1 → rf v0 post) ∧ (∀ (post : (Int32 → T_Mo → Prop)), rf v0 post → post w0 w1))) {post : Int32 → T_Mo → Prop} (h : wp_Mo_statement_J221 d rf post z_this x1 x2 x3 x4 x5) : (∃ (w0 : Int32) (w1 : T_Mo), (∀ (post : Int32 → T_Mo → Prop), post w0 w1 → wp_Mo_statement_J221 d rf post z_this x1 x2 x3 x4 x5) ∧ (∀ (post : Int32 → T_Mo → Prop), wp_Mo_statement_J221 d rf post z_this x1 x2 x3 x4 x5 → post w0 w1)) := by
  unfold wp_Mo_statement_J221 at h
  obtain ⟨w0_0, w0_1, qa0, qb0⟩ := dt_Mo_statement_J222 hrf h
  exact ⟨_, _, fun post q => (by unfold wp_Mo_statement_J221; exact (qa0 _ (q))), fun post h => (by unfold wp_Mo_statement_J221 at h; replace h := qb0 _ h; exact h)⟩
set_option maxHeartbeats 2000000 in
theorem dt_Mo_statement_J252 {d : Nat} {rf : T_Mo → (Int32 → T_Mo → Prop) → Prop} {z_this : T_Mo} {x1 : Int32} {x2 : Int32} {x3 : Int32} {x4 : Int32} {x5 : Int32} {y0 : Int32} (hrf : ∀ (v0 : T_Mo) (post : (Int32 → T_Mo → Prop)), rf v0 post → (∃ (w0 : Int32) (w1 : T_Mo), (∀ (post : (Int32 → T_Mo → Prop)), post w0 w1 → rf v0 post) ∧ (∀ (post : (Int32 → T_Mo → Prop)), rf v0 post → post w0 w1))) {post : Int32 → T_Mo → Prop} (h : wp_Mo_statement_J252 d rf post z_this x1 x2 x3 x4 x5 y0) : (∃ (w0 : Int32) (w1 : T_Mo), (∀ (post : Int32 → T_Mo → Prop), post w0 w1 → wp_Mo_statement_J252 d rf post z_this x1 x2 x3 x4 x5 y0) ∧ (∀ (post : Int32 → T_Mo → Prop), wp_Mo_statement_J252 d rf post z_this x1 x2 x3 x4 x5 y0 → post w0 w1)) := by
  unfold wp_Mo_statement_J252 at h
  obtain ⟨w0_0, w0_1, qa0, qb0⟩ := dt_Mo_statement_J587 hrf h
  exact ⟨_, _, fun post q => (by unfold wp_Mo_statement_J252; exact (qa0 _ (q))), fun post h => (by unfold wp_Mo_statement_J252 at h; replace h := qb0 _ h; exact h)⟩
set_option maxHeartbeats 2000000 in
theorem dt_Mo_statement_J251 {d : Nat} {rf : T_Mo → (Int32 → T_Mo → Prop) → Prop} {z_this : T_Mo} {x1 : Int32} {x2 : Int32} {x3 : Int32} {x4 : Int32} {x5 : Int32} (hrf : ∀ (v0 : T_Mo) (post : (Int32 → T_Mo → Prop)), rf v0 post → (∃ (w0 : Int32) (w1 : T_Mo), (∀ (post : (Int32 → T_Mo → Prop)), post w0 w1 → rf v0 post) ∧ (∀ (post : (Int32 → T_Mo → Prop)), rf v0 post → post w0 w1))) {post : Int32 → T_Mo → Prop} (h : wp_Mo_statement_J251 d rf post z_this x1 x2 x3 x4 x5) : (∃ (w0 : Int32) (w1 : T_Mo), (∀ (post : Int32 → T_Mo → Prop), post w0 w1 → wp_Mo_statement_J251 d rf post z_this x1 x2 x3 x4 x5) ∧ (∀ (post : Int32 → T_Mo → Prop), wp_Mo_statement_J251 d rf post z_this x1 x2 x3 x4 x5 → post w0 w1)) := by
  unfold wp_Mo_statement_J251 at h
  obtain ⟨w0_0, w0_1, qa0, qb0⟩ := dt_Mo_statement_J252 hrf h
  exact ⟨_, _, fun post q => (by unfold wp_Mo_statement_J251; exact (qa0 _ (q))), fun post h => (by unfold wp_Mo_statement_J251 at h; replace h := qb0 _ h; exact h)⟩
set_option maxHeartbeats 2000000 in
theorem dt_Mo_statement_L286 {d : Nat} {rf : T_Mo → (Int32 → T_Mo → Prop) → Prop} (hrf : ∀ (v0 : T_Mo) (post : (Int32 → T_Mo → Prop)), rf v0 post → (∃ (w0 : Int32) (w1 : T_Mo), (∀ (post : (Int32 → T_Mo → Prop)), post w0 w1 → rf v0 post) ∧ (∀ (post : (Int32 → T_Mo → Prop)), rf v0 post → post w0 w1))) : ∀ (n9 : Nat) (z_this : T_Mo) (x1 : Int32) (x2 : Int32) (x3 : Int32) (x4 : Int32) (x5 : Int32) (K : T_Mo → Int32 → Int32 → Int32 → Int32 → Int32 → Prop) (post : Int32 → T_Mo → Prop), wp_Mo_statement_L286 d rf K post n9 z_this x1 x2 x3 x4 x5 → (∃ (w0 : T_Mo) (w1 : Int32) (w2 : Int32) (w3 : Int32) (w4 : Int32) (w5 : Int32), (∀ (K : T_Mo → Int32 → Int32 → Int32 → Int32 → Int32 → Prop) (post : Int32 → T_Mo → Prop), K w0 w1 w2 w3 w4 w5 → wp_Mo_statement_L286 d rf K post n9 z_this x1 x2 x3 x4 x5) ∧ (∀ (m9 : Nat) (K : T_Mo → Int32 → Int32 → Int32 → Int32 → Int32 → Prop) (post : Int32 → T_Mo → Prop), wp_Mo_statement_L286 d rf K post m9 z_this x1 x2 x3 x4 x5 → K w0 w1 w2 w3 w4 w5)) ∨ (∃ (w0 : Int32) (w1 : T_Mo), (∀ (K : T_Mo → Int32 → Int32 → Int32 → Int32 → Int32 → Prop) (post : Int32 → T_Mo → Prop), post w0 w1 → wp_Mo_statement_L286 d rf K post n9 z_this x1 x2 x3 x4 x5) ∧ (∀ (m9 : Nat) (K : T_Mo → Int32 → Int32 → Int32 → Int32 → Int32 → Prop) (post : Int32 → T_Mo → Prop), wp_Mo_statement_L286 d rf K post m9 z_this x1 x2 x3 x4 x5 → post w0 w1)) := by
  intro n9
  induction n9 with
  | zero => intro z_this x1 x2 x3 x4 x5 K post h; exact False.elim h
  | succ n9 ih =>
    intro z_this x1 x2 x3 x4 x5 K post h
    rw [wp_Mo_statement_L286] at h
    rcases br_el h with ⟨c0, h⟩ | ⟨c0, h⟩
    · exact Or.inl ⟨_, _, _, _, _, _, fun K post q => (by rw [wp_Mo_statement_L286]; exact (pT c0 (q))), fun m9 K post h => (by cases m9 with | zero => exact False.elim h | succ m9 => (rw [wp_Mo_statement_L286] at h; replace h := h.1 c0; exact h))⟩
    · rcases br_el h with ⟨c1, h⟩ | ⟨c1, h⟩
      · obtain ⟨r16, u16, qa2, qb2⟩ := hrf _ _ h
        replace h := qb2 _ h
        obtain ⟨r17, u17, qa3, qb3⟩ := dt_Mo_pushed h
        replace h := qb3 _ h
        rcases ih _ _ _ _ _ _ _ _ h with ⟨w4_0, w4_1, w4_2, w4_3, w4_4, w4_5, qa4, qb4⟩ | ⟨w4_0, w4_1, qa4, qb4⟩
        · exact Or.inl ⟨_, _, _, _, _, _, fun K post q => (by rw [wp_Mo_statement_L286]; exact (pF c0 ((pT c1 ((qa2 _ ((qa3 _ ((qa4 _ _ (q))))))))))), fun m9 K post h => (by cases m9 with | zero => exact False.elim h | succ m9 => (rw [wp_Mo_statement_L286] at h; replace h := h.2 c0; replace h := h.1 c1; replace h := qb2 _ h; replace h := qb3 _ h; replace h := qb4 m9 _ _ h; exact h))⟩
        · exact Or.inr (⟨_, _, fun K post q => (by rw [wp_Mo_statement_L286]; exact (pF c0 ((pT c1 ((qa2 _ ((qa3 _ ((qa4 _ _ (q))))))))))), fun m9 K post h => (by cases m9 with | zero => exact False.elim h | succ m9 => (rw [wp_Mo_statement_L286] at h; replace h := h.2 c0; replace h := h.1 c1; replace h := qb2 _ h; replace h := qb3 _ h; replace h := qb4 m9 _ _ h; exact h))⟩)
      · exact Or.inl ⟨_, _, _, _, _, _, fun K post q => (by rw [wp_Mo_statement_L286]; exact (pF c0 ((pF c1 (q))))), fun m9 K post h => (by cases m9 with | zero => exact False.elim h | succ m9 => (rw [wp_Mo_statement_L286] at h; replace h := h.2 c0; replace h := h.2 c1; exact h))⟩
set_option maxHeartbeats 2000000 in
theorem dt_Mo_statement_J284 {d : Nat} {rf : T_Mo → (Int32 → T_Mo → Prop) → Prop} {z_this : T_Mo} {x1 : Int32} {x2 : Int32} {x3 : Int32} {x4 : Int32} {x5 : Int32} {y0 : Int32} (hrf : ∀ (v0 : T_Mo) (post : (Int32 → T_Mo → Prop)), rf v0 post → (∃ (w0 : Int32) (w1 : T_Mo), (∀ (post : (Int32 → T_Mo → Prop)), post w0 w1 → rf v0 post) ∧ (∀ (post : (Int32 → T_Mo → Prop)), rf v0 post → post w0 w1))) {post : Int32 → T_Mo → Prop} (h : wp_Mo_statement_J284 d rf post z_this x1 x2 x3 x4 x5 y0) : (∃ (w0 : Int32) (w1 : T_Mo), (∀ (post : Int32 → T_Mo → Prop), post w0 w1 → wp_Mo_statement_J284 d rf post z_this x1 x2 x3 x4 x5 y0) ∧ (∀ (post : Int32 → T_Mo → Prop), wp_Mo_statement_J284 d rf post z_this x1 x2 x3 x4 x5 y0 → post w0 w1)) := by
  unfold wp_Mo_statement_J284 at h
  obtain ⟨k0, h⟩ := h
  rcases dt_Mo_statement_L286 hrf k0 _ _ _ _ _ _ _ _ h with ⟨z_this, x1, x2, x3, x4, x5, qa0, qb0⟩ | ⟨w0_0, w0_1, qa0, qb0⟩
  · replace h := qb0 k0 _ _ h
    obtain ⟨w1_0, w1_1, qa1, qb1⟩ := dt_Mo_statement_J587 hrf h
    exact ⟨_, _, fun post q => (by unfold wp_Mo_statement_J284; exact ⟨k0, (qa0 _ _ ((qa1 _ (q))))⟩), fun post h => (by unfold wp_Mo_statement_J284 at h; obtain ⟨m0, h⟩ := h; replace h := qb0 m0 _ _ h; replace h := qb1 _ h; exact h)⟩
  · exact ⟨_, _, fun post q => (by unfold wp_Mo_statement_J284; exact ⟨k0, (qa0 _ _ (q))⟩), fun post h => (by unfold wp_Mo_statement_J284 at h; obtain ⟨m0, h⟩ := h; replace h := qb0 m0 _ _ h; exact h)⟩
set_option maxHeartbeats 2000000 in
theorem dt_Mo_statement_J283 {d : Nat} {rf : T_Mo → (Int32 → T_Mo → Prop) → Prop} {z_this : T_Mo} {x1 : Int32} {x2 : Int32} {x3 : Int32} {x4 : Int32} {x5 : Int32} (hrf : ∀ (v0 : T_Mo) (post : (Int32 → T_Mo → Prop)), rf v0 post → (∃ (w0 : Int32) (w1 : T_Mo), (∀ (post : (Int32 → T_Mo → Prop)), post w0 w1 → rf v0 post) ∧ (∀ (post : (Int32 → T_Mo → Prop)), rf v0 post → post w0 w1))) {post : Int32 → T_Mo → Prop} (h : wp_Mo_statement_J283 d rf post z_this x1 x2 x3 x4 x5) : (∃ (w0 : Int32) (w1 : T_Mo), (∀ (post : Int32 → T_Mo → Prop), post w0 w1 → wp_Mo_statement_J283 d rf post z_this x1 x2 x3 x4 x5) ∧ (∀ (post : Int32 → T_Mo → Prop), wp_Mo_statement_J283 d rf post z_this x1 x2 x3 x4 x5 → post w0 w1)) := by
  unfold wp_Mo_statement_J283 at h
  obtain ⟨w0_0, w0_1, qa0, qb0⟩ := dt_Mo_statement_J284 hrf h
  exact ⟨_, _, fun post q => (by unfold wp_Mo_statement_J283; exact (qa0 _ (q))), fun post h => (by unfold wp_Mo_statement_J283 at h; replace h := qb0 _ h; exact h)⟩
set_option maxHeartbeats 2000000 in
theorem dt_Mo_statement_J379 {d : Nat} {rf : T_Mo → (Int32 → T_Mo → Prop) → Prop} {z_this : T_Mo} {x1 : Int32} {x2 : Int32} {x3 : Int32} {x4 : Int32} {x5 : Int32} {y0 : Int32} (hrf : ∀ (v0 : T_Mo) (post : (Int32 → T_Mo → Prop)), rf v0 post → (∃ (w0 : Int32) (w1 : T_Mo), (∀ (post : (Int32 → T_Mo → Prop)), post w0 w1 → rf v0 post) ∧ (∀ (post : (Int32 → T_Mo → Prop)), rf v0 post → post w0 w1))) {post : Int32 → T_Mo → Prop} (h : wp_Mo_statement_J379 d rf post z_this x1 x2 x3 x4 x5 y0) : (∃ (w0 : Int32) (w1 : T_Mo), (∀ (post : Int32 → T_Mo → Prop), post w0 w1 → wp_Mo_statement_J379 d rf post z_this x1 x2 x3 x4 x5 y0) ∧ (∀ (post : Int32 → T_Mo → Prop), wp_Mo_statement_J379 d rf post z_this x1 x2 x3 x4 x5 y0 → post w0 w1)) := by
  unfold wp_Mo_statement_J379 at h
  obtain ⟨w0_0, w0_1, qa0, qb0⟩ := dt_Mo_statement_J587 hrf h
  exact ⟨_, _, fun post q => (by unfold wp_Mo_statement_J379; exact (qa0 _ (q))), fun post h => (by unfold wp_Mo_statement_J379 at h; replace h := qb0 _ h; exact h)⟩
set_option maxHeartbeats 2000000 in
theorem dt_Mo_statement_J378 {d : Nat} {rf : T_Mo → (Int32 → T_Mo → Prop) → Prop} {z_this : T_Mo} {x1 : Int32} {x2 : Int32} {x3 : Int32} {x4 : Int32} {x5 : Int32} (hrf : ∀ (v0 : T_Mo) (post : (Int32 → T_Mo → Prop)), rf v0 post → (∃ (w0 : Int32) (w1 : T_Mo), (∀ (post : (Int32 → T_Mo → Prop)), post w0 w1 → rf v0 post) ∧ (∀ (post : (Int32 → T_Mo → Prop)), rf v0 post → post w0 w1))) {post : Int32 → T_Mo → Prop} (h : wp_Mo_statement_J378 d rf post z_this x1 x2 x3 x4 x5) : (∃ (w0 : Int32) (w1 : T_Mo), (∀ (post : Int32 → T_Mo → Prop), post w0 w1 → wp_Mo_statement_J378 d rf post z_this x1 x2 x3 x4 x5) ∧ (∀ (post : Int32 → T_Mo → Prop), wp_Mo_statement_J378 d rf post z_this x1 x2 x3 x4 x5 → post w0 w1)) := by
  unfold wp_Mo_statement_J378 at h
  obtain ⟨w0_0, w0_1, qa0, qb0⟩ := dt_Mo_statement_J379 hrf h
  exact ⟨_, _, fun post q => (by unfold wp_Mo_statement_J378; exact (qa0 _ (q))), fun post h => (by unfold wp_Mo_statement_J378 at h; replace h := qb0 _ h; exact h)⟩
set_option maxHeartbeats 2000000 in
theorem dt_Mo_statement_J340 {d : Nat} {rf : T_Mo → (Int32 → T_Mo → Prop) → Prop} {z_this : T_Mo} {x1 : Int32} {x2 : Int32} {x3 : Int32} {x4 : Int32} {x5 : Int32} {y0 : Int32} (hrf : ∀ (v0 : T_Mo) (post : (Int32 → T_Mo → Prop)), rf v0 post → (∃ (w0 : Int32) (w1 : T_Mo), (∀ (post : (Int32 → T_Mo → Prop)), post w0 w1 → rf v0 post) ∧ (∀ (post : (Int32 → T_Mo → Prop)), rf v0 post → post w0 w1))) {post : Int32 → T_Mo → Prop} (h : wp_Mo_statement_J340 d rf post z_this x1 x2 x3 x4 x5 y0) : (∃ (w0 : Int32) (w1 : T_Mo), (∀ (post : Int32 → T_Mo → Prop), post w0 w1 → wp_Mo_statement_J340 d rf post z_this x1 x2 x3 x4 x5 y0) ∧ (∀ (post : Int32 → T_Mo → Prop), wp_Mo_statement_J340 d rf post z_this x1 x2 x3 x4 x5 y0 → post w0 w1)) := by
  unfold wp_Mo_statement_J340 at h
  rcases br_el h with ⟨c0, h⟩ | ⟨c0, h⟩
  · obtain ⟨w1_0, w1_1, qa1, qb1⟩ := dt_Mo_statement_J587 hrf h
    exact ⟨_, _, fun post q => (by unfold wp_Mo_statement_J340; exact (pT c0 ((qa1 _ (q))))), fun post h => (by unfold wp_Mo_statement_J340 at h; replace h := h.1 c0; replace h := qb1 _ h; exact h)⟩
  · obtain ⟨r22, u22, qa1, qb1⟩ := dt_Mo_isWord h
    replace h := qb1 _ h
    rcases br_el h with ⟨c2, h⟩ | ⟨c2, h⟩
    · obtain ⟨w3_0, w3_1, qa3, qb3⟩ := dt_Mo_statement_J587 hrf h
      exact ⟨_, _, fun post q => (by unfold wp_Mo_statement_J340; exact (pF c0 ((qa1 _ ((pT c2 ((qa3 _ (q))))))))), fun post h => (by unfold wp_Mo_statement_J340 at h; replace h := h.2 c0; replace h := qb1 _ h; replace h := h.1 c2; replace h := qb3 _ h; exact h)⟩
    · obtain ⟨r23, u23, qa3, qb3⟩ := dt_Mo_go h
      replace h := qb3 _ h
      rcases br_el h with ⟨c4, h⟩ | ⟨c4, h⟩
      · obtain ⟨w5_0, w5_1, qa5, qb5⟩ := dt_Mo_statement_J378 hrf h
        exact ⟨_, _, fun post q => (by unfold wp_Mo_statement_J340; exact (pF c0 ((qa1 _ ((pF c2 ((qa3 _ ((pT c4 ((qa5 _ (q))))))))))))), fun post h => (by unfold wp_Mo_statement_J340 at h; replace h := h.2 c0; replace h := qb1 _ h; replace h := h.2 c2; replace h := qb3 _ h; replace h := h.1 c4; replace h := qb5 _ h; exact h)⟩
      · obtain ⟨r24, u24, qa5, qb5⟩ := hrf _ _ h
        replace h := qb5 _ h
        obtain ⟨r25, u25, qa6, qb6⟩ := dt_Mo_pushed h
        replace h := qb6 _ h
        rcases br_el h with ⟨c7, h⟩ | ⟨c7, h⟩
        · obtain ⟨w8_0, w8_1, qa8, qb8⟩ := dt_Mo_statement_J378 hrf h
          exact ⟨_, _, fun post q => (by unfold wp_Mo_statement_J340; exact (pF c0 ((qa1 _ ((pF c2 ((qa3 _ ((pF c4 ((qa5 _ ((qa6 _ ((pT c7 ((qa8 _ (q))))))))))))))))))), fun post h => (by unfold wp_Mo_statement_J340 at h; replace h := h.2 c0; replace h := qb1 _ h; replace h := h.2 c2; replace h := qb3 _ h; replace h := h.2 c4; replace h := qb5 _ h; replace h := qb6 _ h; replace h := h.1 c7; replace h := qb8 _ h; exact h)⟩
        · obtain ⟨w8_0, w8_1, qa8, qb8⟩ := dt_Mo_statement_J379 hrf h
          exact ⟨_, _, fun post q => (by unfold wp_Mo_statement_J340; exact (pF c0 ((qa1 _ ((pF c2 ((qa3 _ ((pF c4 ((qa5 _ ((qa6 _ ((pF c7 ((qa8 _ (q))))))))))))))))))), fun post h => (by unfold wp_Mo_statement_J340 at h; replace h := h.2 c0; replace h := qb1 _ h; replace h := h.2 c2; replace h := qb3 _ h; replace h := h.2 c4; replace h := qb5 _ h; replace h := qb6 _ h; replace h := h.2 c7; replace h := qb8 _ h; exact h)⟩
set_option maxHeartbeats 2000000 in
theorem dt_Mo_statement_J339 {d : Nat} {rf : T_Mo → (Int32 → T_Mo → Prop) → Prop} {z_this : T_Mo} {x1 : Int32} {x2 : Int32} {x3 : Int32} {x4 : Int32} {x5 : Int32} (hrf : ∀ (v0 : T_Mo) (post : (Int32 → T_Mo → Prop)), rf v0 post → (∃ (w0 : Int32) (w1 : T_Mo), (∀ (post : (Int32 → T_Mo → Prop)), post w0 w1 → rf v0 post) ∧ (∀ (post : (Int32 → T_Mo → Prop)), rf v0 post → post w0 w1))) {post : Int32 → T_Mo → Prop} (h : wp_Mo_statement_J339 d rf post z_this x1 x2 x3 x4 x5) : (∃ (w0 : Int32) (w1 : T_Mo), (∀ (post : Int32 → T_Mo → Prop), post w0 w1 → wp_Mo_statement_J339 d rf post z_this x1 x2 x3 x4 x5) ∧ (∀ (post : Int32 → T_Mo → Prop), wp_Mo_statement_J339 d rf post z_this x1 x2 x3 x4 x5 → post w0 w1)) := by
  unfold wp_Mo_statement_J339 at h
  obtain ⟨w0_0, w0_1, qa0, qb0⟩ := dt_Mo_statement_J340 hrf h
  exact ⟨_, _, fun post q => (by unfold wp_Mo_statement_J339; exact (qa0 _ (q))), fun post h => (by unfold wp_Mo_statement_J339 at h; replace h := qb0 _ h; exact h)⟩
set_option maxHeartbeats 2000000 in
theorem dt_Mo_statement_J408 {d : Nat} {rf : T_Mo → (Int32 → T_Mo → Prop) → Prop} {z_this : T_Mo} {x1 : Int32} {x2 : Int32} {x3 : Int32} {x4 : Int32} {x5 : Int32} {y0 : Int32} (hrf : ∀ (v0 : T_Mo) (post : (Int32 → T_Mo → Prop)), rf v0 post → (∃ (w0 : Int32) (w1 : T_Mo), (∀ (post : (Int32 → T_Mo → Prop)), post w0 w1 → rf v0 post) ∧ (∀ (post : (Int32 → T_Mo → Prop)), rf v0 post → post w0 w1))) {post : Int32 → T_Mo → Prop} (h : wp_Mo_statement_J408 d rf post z_this x1 x2 x3 x4 x5 y0) : (∃ (w0 : Int32) (w1 : T_Mo), (∀ (post : Int32 → T_Mo → Prop), post w0 w1 → wp_Mo_statement_J408 d rf post z_this x1 x2 x3 x4 x5 y0) ∧ (∀ (post : Int32 → T_Mo → Prop), wp_Mo_statement_J408 d rf post z_this x1 x2 x3 x4 x5 y0 → post w0 w1)) := by
  unfold wp_Mo_statement_J408 at h
  obtain ⟨w0_0, w0_1, qa0, qb0⟩ := dt_Mo_statement_J587 hrf h
  exact ⟨_, _, fun post q => (by unfold wp_Mo_statement_J408; exact (qa0 _ (q))), fun post h => (by unfold wp_Mo_statement_J408 at h; replace h := qb0 _ h; exact h)⟩
set_option maxHeartbeats 2000000 in
theorem dt_Mo_statement_J407 {d : Nat} {rf : T_Mo → (Int32 → T_Mo → Prop) → Prop} {z_this : T_Mo} {x1 : Int32} {x2 : Int32} {x3 : Int32} {x4 : Int32} {x5 : Int32} (hrf : ∀ (v0 : T_Mo) (post : (Int32 → T_Mo → Prop)), rf v0 post → (∃ (w0 : Int32) (w1 : T_Mo), (∀ (post : (Int32 → T_Mo → Prop)), post w0 w1 → rf v0 post) ∧ (∀ (post : (Int32 → T_Mo → Prop)), rf v0 post → post w0 w1))) {post : Int32 → T_Mo → Prop} (h : wp_Mo_statement_J407 d rf post z_this x1 x2 x3 x4 x5) : (∃ (w0 : Int32) (w1 : T_Mo), (∀ (post : Int32 → T_Mo → Prop), post w0 w1 → wp_Mo_statement_J407 d rf post z_this x1 x2 x3 x4 x5) ∧ (∀ (post : Int32 → T_Mo → Prop), wp_Mo_statement_J407 d rf post z_this x1 x2 x3 x4 x5 → post w0 w1)) := by
  unfold wp_Mo_statement_J407 at h
  obtain ⟨w0_0, w0_1, qa0, qb0⟩ := dt_Mo_statement_J408 hrf h
  exact ⟨_, _, fun post q => (by unfold wp_Mo_statement_J407; exact (qa0 _ (q))), fun post h => (by unfold wp_Mo_statement_J407 at h; replace h := qb0 _ h; exact h)⟩
set_option maxHeartbeats 2000000 in
theorem dt_Mo_statement_J461 {d : Nat} {rf : T_Mo → (Int32 → T_Mo → Prop) → Prop} {z_this : T_Mo} {x1 : Int32} {x2 : Int32} {x3 : Int32} {x4 : Int32} {x5 : Int32} {y0 : Int32} (hrf : ∀ (v0 : T_Mo) (post : (Int32 → T_Mo → Prop)), rf v0 post → (∃ (w0 : Int32) (w1 : T_Mo), (∀ (post : (Int32 → T_Mo → Prop)), post w0 w1 → rf v0 post) ∧ (∀ (post : (Int32 → T_Mo → Prop)), rf v0 post → post w0 w1))) {post : Int32 → T_Mo → Prop} (h : wp_Mo_statement_J461 d rf post z_this x1 x2 x3 x4 x5 y0) : (∃ (w0 : Int32) (w1 : T_Mo), (∀ (post : Int32 → T_Mo → Prop), post w0 w1 → wp_Mo_statement_J461 d rf post z_this x1 x2 x3 x4 x5 y0) ∧ (∀ (post : Int32 → T_Mo → Prop), wp_Mo_statement_J461 d rf post z_this x1 x2 x3 x4 x5 y0 → post w0 w1)) := by
  unfold wp_Mo_statement_J461 at h
  obtain ⟨w0_0, w0_1, qa0, qb0⟩ := dt_Mo_statement_J587 hrf h
  exact ⟨_, _, fun post q => (by unfold wp_Mo_statement_J461; exact (qa0 _ (q))), fun post h => (by unfold wp_Mo_statement_J461 at h; replace h := qb0 _ h; exact h)⟩
set_option maxHeartbeats 2000000 in
theorem dt_Mo_statement_J460 {d : Nat} {rf : T_Mo → (Int32 → T_Mo → Prop) → Prop} {z_this : T_Mo} {x1 : Int32} {x2 : Int32} {x3 : Int32} {x4 : Int32} {x5 : Int32} (hrf : ∀ (v0 : T_Mo) (post : (Int32 → T_Mo → Prop)), rf v0 post → (∃ (w0 : Int32) (w1 : T_Mo), (∀ (post : (Int32 → T_Mo → Prop)), post w0 w1 → rf v0 post) ∧ (∀ (post : (Int32 → T_Mo → Prop)), rf v0 post → post w0 w1))) {post : Int32 → T_Mo → Prop} (h : wp_Mo_statement_J460 d rf post z_this x1 x2 x3 x4 x5) : (∃ (w0 : Int32) (w1 : T_Mo), (∀ (post : Int32 → T_Mo → Prop), post w0 w1 → wp_Mo_statement_J460 d rf post z_this x1 x2 x3 x4 x5) ∧ (∀ (post : Int32 → T_Mo → Prop), wp_Mo_statement_J460 d rf post z_this x1 x2 x3 x4 x5 → post w0 w1)) := by
  unfold wp_Mo_statement_J460 at h
  obtain ⟨w0_0, w0_1, qa0, qb0⟩ := dt_Mo_statement_J461 hrf h
  exact ⟨_, _, fun post q => (by unfold wp_Mo_statement_J460; exact (qa0 _ (q))), fun post h => (by unfold wp_Mo_statement_J460 at h; replace h := qb0 _ h; exact h)⟩
set_option maxHeartbeats 2000000 in
theorem dt_Mo_statement_J504 {d : Nat} {rf : T_Mo → (Int32 → T_Mo → Prop) → Prop} {z_this : T_Mo} {x1 : Int32} {x2 : Int32} {x3 : Int32} {x4 : Int32} {x5 : Int32} {y0 : Int32} (hrf : ∀ (v0 : T_Mo) (post : (Int32 → T_Mo → Prop)), rf v0 post → (∃ (w0 : Int32) (w1 : T_Mo), (∀ (post : (Int32 → T_Mo → Prop)), post w0 w1 → rf v0 post) ∧ (∀ (post : (Int32 → T_Mo → Prop)), rf v0 post → post w0 w1))) {post : Int32 → T_Mo → Prop} (h : wp_Mo_statement_J504 d rf post z_this x1 x2 x3 x4 x5 y0) : (∃ (w0 : Int32) (w1 : T_Mo), (∀ (post : Int32 → T_Mo → Prop), post w0 w1 → wp_Mo_statement_J504 d rf post z_this x1 x2 x3 x4 x5 y0) ∧ (∀ (post : Int32 → T_Mo → Prop), wp_Mo_statement_J504 d rf post z_this x1 x2 x3 x4 x5 y0 → post w0 w1)) := by
  unfold wp_Mo_statement_J504 at h
  obtain ⟨w0_0, w0_1, qa0, qb0⟩ := dt_Mo_statement_J587 hrf h
  exact ⟨_, _, fun post q => (by unfold wp_Mo_statement_J504; exact (qa0 _ (q))), fun post h => (by unfold wp_Mo_statement_J504 at h; replace h := qb0 _ h; exact h)⟩
set_option maxHeartbeats 2000000 in
theorem dt_Mo_statement_J503 {d : Nat} {rf : T_Mo → (Int32 → T_Mo → Prop) → Prop} {z_this : T_Mo} {x1 : Int32} {x2 : Int32} {x3 : Int32} {x4 : Int32} {x5 : Int32} (hrf : ∀ (v0 : T_Mo) (post : (Int32 → T_Mo → Prop)), rf v0 post → (∃ (w0 : Int32) (w1 : T_Mo), (∀ (post : (Int32 → T_Mo → Prop)), post w0 w1 → rf v0 post) ∧ (∀ (post : (Int32 → T_Mo → Prop)), rf v0 post → post w0 w1))) {post : Int32 → T_Mo → Prop} (h : wp_Mo_statement_J503 d rf post z_this x1 x2 x3 x4 x5) : (∃ (w0 : Int32) (w1 : T_Mo), (∀ (post : Int32 → T_Mo → Prop), post w0 w1 → wp_Mo_statement_J503 d rf post z_this x1 x2 x3 x4 x5) ∧ (∀ (post : Int32 → T_Mo → Prop), wp_Mo_statement_J503 d rf post z_this x1 x2 x3 x4 x5 → post w0 w1)) := by
  unfold wp_Mo_statement_J503 at h
  obtain ⟨w0_0, w0_1, qa0, qb0⟩ := dt_Mo_statement_J504 hrf h
  exact ⟨_, _, fun post q => (by unfold wp_Mo_statement_J503; exact (qa0 _ (q))), fun post h => (by unfold wp_Mo_statement_J503 at h; replace h := qb0 _ h; exact h)⟩
set_option maxHeartbeats 2000000 in
theorem dt_Mo_statement_J480 {d : Nat} {rf : T_Mo → (Int32 → T_Mo → Prop) → Prop} {z_this : T_Mo} {x1 : Int32} {x2 : Int32} {x3 : Int32} {x4 : Int32} {x5 : Int32} {y0 : Int32} (hrf : ∀ (v0 : T_Mo) (post : (Int32 → T_Mo → Prop)), rf v0 post → (∃ (w0 : Int32) (w1 : T_Mo), (∀ (post : (Int32 → T_Mo → Prop)), post w0 w1 → rf v0 post) ∧ (∀ (post : (Int32 → T_Mo → Prop)), rf v0 post → post w0 w1))) {post : Int32 → T_Mo → Prop} (h : wp_Mo_statement_J480 d rf post z_this x1 x2 x3 x4 x5 y0) : (∃ (w0 : Int32) (w1 : T_Mo), (∀ (post : Int32 → T_Mo → Prop), post w0 w1 → wp_Mo_statement_J480 d rf post z_this x1 x2 x3 x4 x5 y0) ∧ (∀ (post : Int32 → T_Mo → Prop), wp_Mo_statement_J480 d rf post z_this x1 x2 x3 x4 x5 y0 → post w0 w1)) := by
  unfold wp_Mo_statement_J480 at h
  obtain ⟨r38, u38, qa0, qb0⟩ := dt_Mo_known h
  replace h := qb0 _ h
  rcases br_el h with ⟨c1, h⟩ | ⟨c1, h⟩
  · obtain ⟨w2_0, w2_1, qa2, qb2⟩ := dt_Mo_statement_J503 hrf h
    exact ⟨_, _, fun post q => (by unfold wp_Mo_statement_J480; exact (qa0 _ ((pT c1 ((qa2 _ (q))))))), fun post h => (by unfold wp_Mo_statement_J480 at h; replace h := qb0 _ h; replace h := h.1 c1; replace h := qb2 _ h; exact h)⟩
  · obtain ⟨r39, u39, qa2, qb2⟩ := dt_Mo_over h
    replace h := qb2 _ h
    rcases br_el h with ⟨c3, h⟩ | ⟨c3, h⟩
    · obtain ⟨w4_0, w4_1, qa4, qb4⟩ := dt_Mo_statement_J503 hrf h
      exact ⟨_, _, fun post q => (by unfold wp_Mo_statement_J480; exact (qa0 _ ((pF c1 ((qa2 _ ((pT c3 ((qa4 _ (q))))))))))), fun post h => (by unfold wp_Mo_statement_J480 at h; replace h := qb0 _ h; replace h := h.2 c1; replace h := qb2 _ h; replace h := h.1 c3; replace h := qb4 _ h; exact h)⟩
    · obtain ⟨w4_0, w4_1, qa4, qb4⟩ := dt_Mo_statement_J504 hrf h
      exact ⟨_, _, fun post q => (by unfold wp_Mo_statement_J480; exact (qa0 _ ((pF c1 ((qa2 _ ((pF c3 ((qa4 _ (q))))))))))), fun post h => (by unfold wp_Mo_statement_J480 at h; replace h := qb0 _ h; replace h := h.2 c1; replace h := qb2 _ h; replace h := h.2 c3; replace h := qb4 _ h; exact h)⟩
set_option maxHeartbeats 2000000 in
theorem dt_Mo_statement_J466 {d : Nat} {rf : T_Mo → (Int32 → T_Mo → Prop) → Prop} {z_this : T_Mo} {x1 : Int32} {x2 : Int32} {x3 : Int32} {x4 : Int32} {x5 : Int32} (hrf : ∀ (v0 : T_Mo) (post : (Int32 → T_Mo → Prop)), rf v0 post → (∃ (w0 : Int32) (w1 : T_Mo), (∀ (post : (Int32 → T_Mo → Prop)), post w0 w1 → rf v0 post) ∧ (∀ (post : (Int32 → T_Mo → Prop)), rf v0 post → post w0 w1))) {post : Int32 → T_Mo → Prop} (h : wp_Mo_statement_J466 d rf post z_this x1 x2 x3 x4 x5) : (∃ (w0 : Int32) (w1 : T_Mo), (∀ (post : Int32 → T_Mo → Prop), post w0 w1 → wp_Mo_statement_J466 d rf post z_this x1 x2 x3 x4 x5) ∧ (∀ (post : Int32 → T_Mo → Prop), wp_Mo_statement_J466 d rf post z_this x1 x2 x3 x4 x5 → post w0 w1)) := by
  unfold wp_Mo_statement_J466 at h
  rcases br_el h with ⟨c0, h⟩ | ⟨c0, h⟩
  · obtain ⟨w1_0, w1_1, qa1, qb1⟩ := dt_Mo_statement_J480 hrf h
    exact ⟨_, _, fun post q => (by unfold wp_Mo_statement_J466; exact (pT c0 ((qa1 _ (q))))), fun post h => (by unfold wp_Mo_statement_J466 at h; replace h := h.1 c0; replace h := qb1 _ h; exact h)⟩
  · obtain ⟨w1_0, w1_1, qa1, qb1⟩ := dt_Mo_statement_J480 hrf h
    exact ⟨_, _, fun post q => (by unfold wp_Mo_statement_J466; exact (pF c0 ((qa1 _ (q))))), fun post h => (by unfold wp_Mo_statement_J466 at h; replace h := h.2 c0; replace h := qb1 _ h; exact h)⟩
set_option maxHeartbeats 2000000 in
theorem dt_Mo_statement_J537 {d : Nat} {rf : T_Mo → (Int32 → T_Mo → Prop) → Prop} {z_this : T_Mo} {x1 : Int32} {x2 : Int32} {x3 : Int32} {x4 : Int32} {x5 : Int32} (hrf : ∀ (v0 : T_Mo) (post : (Int32 → T_Mo → Prop)), rf v0 post → (∃ (w0 : Int32) (w1 : T_Mo), (∀ (post : (Int32 → T_Mo → Prop)), post w0 w1 → rf v0 post) ∧ (∀ (post : (Int32 → T_Mo → Prop)), rf v0 post → post w0 w1))) {post : Int32 → T_Mo → Prop} (h : wp_Mo_statement_J537 d rf post z_this x1 x2 x3 x4 x5) : (∃ (w0 : Int32) (w1 : T_Mo), (∀ (post : Int32 → T_Mo → Prop), post w0 w1 → wp_Mo_statement_J537 d rf post z_this x1 x2 x3 x4 x5) ∧ (∀ (post : Int32 → T_Mo → Prop), wp_Mo_statement_J537 d rf post z_this x1 x2 x3 x4 x5 → post w0 w1)) := by
  unfold wp_Mo_statement_J537 at h
  obtain ⟨r40, u40, qa0, qb0⟩ := dt_Mo_bad h
  replace h := qb0 _ h
  exact ⟨_, _, fun post q => (by unfold wp_Mo_statement_J537; exact (qa0 _ (q))), fun post h => (by unfold wp_Mo_statement_J537 at h; replace h := qb0 _ h; exact h)⟩
set_option maxHeartbeats 2000000 in
theorem dt_Mo_statement_J574 {d : Nat} {rf : T_Mo → (Int32 → T_Mo → Prop) → Prop} {z_this : T_Mo} {x1 : Int32} {x2 : Int32} {x3 : Int32} {x4 : Int32} {x5 : Int32} {y0 : Int32} (hrf : ∀ (v0 : T_Mo) (post : (Int32 → T_Mo → Prop)), rf v0 post → (∃ (w0 : Int32) (w1 : T_Mo), (∀ (post : (Int32 → T_Mo → Prop)), post w0 w1 → rf v0 post) ∧ (∀ (post : (Int32 → T_Mo → Prop)), rf v0 post → post w0 w1))) {post : Int32 → T_Mo → Prop} (h : wp_Mo_statement_J574 d rf post z_this x1 x2 x3 x4 x5 y0) : (∃ (w0 : Int32) (w1 : T_Mo), (∀ (post : Int32 → T_Mo → Prop), post w0 w1 → wp_Mo_statement_J574 d rf post z_this x1 x2 x3 x4 x5 y0) ∧ (∀ (post : Int32 → T_Mo → Prop), wp_Mo_statement_J574 d rf post z_this x1 x2 x3 x4 x5 y0 → post w0 w1)) := by
  unfold wp_Mo_statement_J574 at h
  obtain ⟨w0_0, w0_1, qa0, qb0⟩ := dt_Mo_statement_J587 hrf h
  exact ⟨_, _, fun post q => (by unfold wp_Mo_statement_J574; exact (qa0 _ (q))), fun post h => (by unfold wp_Mo_statement_J574 at h; replace h := qb0 _ h; exact h)⟩
set_option maxHeartbeats 2000000 in
theorem dt_Mo_statement_J573 {d : Nat} {rf : T_Mo → (Int32 → T_Mo → Prop) → Prop} {z_this : T_Mo} {x1 : Int32} {x2 : Int32} {x3 : Int32} {x4 : Int32} {x5 : Int32} (hrf : ∀ (v0 : T_Mo) (post : (Int32 → T_Mo → Prop)), rf v0 post → (∃ (w0 : Int32) (w1 : T_Mo), (∀ (post : (Int32 → T_Mo → Prop)), post w0 w1 → rf v0 post) ∧ (∀ (post : (Int32 → T_Mo → Prop)), rf v0 post → post w0 w1))) {post : Int32 → T_Mo → Prop} (h : wp_Mo_statement_J573 d rf post z_this x1 x2 x3 x4 x5) : (∃ (w0 : Int32) (w1 : T_Mo), (∀ (post : Int32 → T_Mo → Prop), post w0 w1 → wp_Mo_statement_J573 d rf post z_this x1 x2 x3 x4 x5) ∧ (∀ (post : Int32 → T_Mo → Prop), wp_Mo_statement_J573 d rf post z_this x1 x2 x3 x4 x5 → post w0 w1)) := by
  unfold wp_Mo_statement_J573 at h
  obtain ⟨w0_0, w0_1, qa0, qb0⟩ := dt_Mo_statement_J574 hrf h
  exact ⟨_, _, fun post q => (by unfold wp_Mo_statement_J573; exact (qa0 _ (q))), fun post h => (by unfold wp_Mo_statement_J573 at h; replace h := qb0 _ h; exact h)⟩
set_option maxHeartbeats 2000000 in
theorem dt_Mo_statement_J579 {d : Nat} {rf : T_Mo → (Int32 → T_Mo → Prop) → Prop} {z_this : T_Mo} {x1 : Int32} {x2 : Int32} {x3 : Int32} {x4 : Int32} {x5 : Int32} (hrf : ∀ (v0 : T_Mo) (post : (Int32 → T_Mo → Prop)), rf v0 post → (∃ (w0 : Int32) (w1 : T_Mo), (∀ (post : (Int32 → T_Mo → Prop)), post w0 w1 → rf v0 post) ∧ (∀ (post : (Int32 → T_Mo → Prop)), rf v0 post → post w0 w1))) {post : Int32 → T_Mo → Prop} (h : wp_Mo_statement_J579 d rf post z_this x1 x2 x3 x4 x5) : (∃ (w0 : Int32) (w1 : T_Mo), (∀ (post : Int32 → T_Mo → Prop), post w0 w1 → wp_Mo_statement_J579 d rf post z_this x1 x2 x3 x4 x5) ∧ (∀ (post : Int32 → T_Mo → Prop), wp_Mo_statement_J579 d rf post z_this x1 x2 x3 x4 x5 → post w0 w1)) := by
  unfold wp_Mo_statement_J579 at h
  obtain ⟨r43, u43, qa0, qb0⟩ := dt_Mo_over h
  replace h := qb0 _ h
  obtain ⟨w1_0, w1_1, qa1, qb1⟩ := dt_Mo_statement_J587 hrf h
  exact ⟨_, _, fun post q => (by unfold wp_Mo_statement_J579; exact (qa0 _ ((qa1 _ (q))))), fun post h => (by unfold wp_Mo_statement_J579 at h; replace h := qb0 _ h; replace h := qb1 _ h; exact h)⟩
set_option maxHeartbeats 2000000 in
theorem dt_Mo_statement {d : Nat} {rf : T_Mo → (Int32 → T_Mo → Prop) → Prop} {z_this : T_Mo} (hrf : ∀ (v0 : T_Mo) (post : (Int32 → T_Mo → Prop)), rf v0 post → (∃ (w0 : Int32) (w1 : T_Mo), (∀ (post : (Int32 → T_Mo → Prop)), post w0 w1 → rf v0 post) ∧ (∀ (post : (Int32 → T_Mo → Prop)), rf v0 post → post w0 w1))) {post : Int32 → T_Mo → Prop} (h : wp_Mo_statement d rf z_this post) : (∃ (w0 : Int32) (w1 : T_Mo), (∀ (post : Int32 → T_Mo → Prop), post w0 w1 → wp_Mo_statement d rf z_this post) ∧ (∀ (post : Int32 → T_Mo → Prop), wp_Mo_statement d rf z_this post → post w0 w1)) := by
  unfold wp_Mo_statement at h
  rcases br_el h with ⟨c0, h⟩ | ⟨c0, h⟩
  · obtain ⟨w1_0, w1_1, qa1, qb1⟩ := dt_Mo_statement_J26 hrf h
    exact ⟨_, _, fun post q => (by unfold wp_Mo_statement; exact (pT c0 ((qa1 _ (q))))), fun post h => (by unfold wp_Mo_statement at h; replace h := h.1 c0; replace h := qb1 _ h; exact h)⟩
  · rcases br_el h with ⟨c1, h⟩ | ⟨c1, h⟩
    · obtain ⟨r2, u2, qa2, qb2⟩ := dt_Mo_go h
      replace h := qb2 _ h
      rcases br_el h with ⟨c3, h⟩ | ⟨c3, h⟩
      · exact ⟨_, _, fun post q => (by unfold wp_Mo_statement; exact (pF c0 ((pT c1 ((qa2 _ ((pT c3 (q))))))))), fun post h => (by unfold wp_Mo_statement at h; replace h := h.2 c0; replace h := h.1 c1; replace h := qb2 _ h; replace h := h.1 c3; exact h)⟩
      · rcases Classical.em ((z_this.1.1.1.2.2.2 - (1000 : Int32)) = (10 : Int32)) with c4_0 | c4_0
        · replace h := (h).1 c4_0
          obtain ⟨w5_0, w5_1, qa5, qb5⟩ := dt_Mo_statement_J120 hrf h
          exact ⟨_, _, fun post q => (by unfold wp_Mo_statement; exact (pF c0 ((pT c1 ((qa2 _ ((pF c3 (⟨fun _ => (qa5 _ (q)), fun q9 => absurd (c4_0.symm.trans q9) (by decide), fun q9 => absurd (c4_0.symm.trans q9) (by decide), fun q9 => absurd (c4_0.symm.trans q9) (by decide), fun q9 => absurd (c4_0.symm.trans q9) (by decide), fun q9 => absurd (c4_0.symm.trans q9) (by decide), fun q9 => absurd (c4_0.symm.trans q9) (by decide), fun q9 => absurd (c4_0.symm.trans q9) (by decide), fun q9 => absurd (c4_0.symm.trans q9) (by decide), fun q9 => absurd (c4_0.symm.trans q9) (by decide), fun q9 => absurd (c4_0.symm.trans q9) (by decide), fun q9 => absurd c4_0 (q9.1)⟩))))))))), fun post h => (by unfold wp_Mo_statement at h; replace h := h.2 c0; replace h := h.1 c1; replace h := qb2 _ h; replace h := h.2 c3; replace h := (h).1 c4_0; replace h := qb5 _ h; exact h)⟩
        · rcases Classical.em ((z_this.1.1.1.2.2.2 - (1000 : Int32)) = (11 : Int32)) with c4_1 | c4_1
          · replace h := (h).2.1 c4_1
            obtain ⟨r9, u9, qa5, qb5⟩ := dt_Mo_sumOf (dt_Mo_factor d) h
            replace h := qb5 _ h
            rcases br_el h with ⟨c6, h⟩ | ⟨c6, h⟩
            · obtain ⟨w7_0, w7_1, qa7, qb7⟩ := dt_Mo_statement_J221 hrf h
              exact ⟨_, _, fun post q => (by unfold wp_Mo_statement; exact (pF c0 ((pT c1 ((qa2 _ ((pF c3 (⟨fun q9 => absurd q9 c4_0, fun _ => (qa5 _ ((pT c6 ((qa7 _ (q)))))), fun q9 => absurd (c4_1.symm.trans q9) (by decide), fun q9 => absurd (c4_1.symm.trans q9) (by decide), fun q9 => absurd (c4_1.symm.trans q9) (by decide), fun q9 => absurd (c4_1.symm.trans q9) (by decide), fun q9 => absurd (c4_1.symm.trans q9) (by decide), fun q9 => absurd (c4_1.symm.trans q9) (by decide), fun q9 => absurd (c4_1.symm.trans q9) (by decide), fun q9 => absurd (c4_1.symm.trans q9) (by decide), fun q9 => absurd (c4_1.symm.trans q9) (by decide), fun q9 => absurd c4_1 (q9.2.1)⟩))))))))), fun post h => (by unfold wp_Mo_statement at h; replace h := h.2 c0; replace h := h.1 c1; replace h := qb2 _ h; replace h := h.2 c3; replace h := (h).2.1 c4_1; replace h := qb5 _ h; replace h := h.1 c6; replace h := qb7 _ h; exact h)⟩
            · obtain ⟨r10, u10, qa7, qb7⟩ := dt_Mo_over h
              replace h := qb7 _ h
              rcases br_el h with ⟨c8, h⟩ | ⟨c8, h⟩
              · obtain ⟨w9_0, w9_1, qa9, qb9⟩ := dt_Mo_statement_J221 hrf h
                exact ⟨_, _, fun post q => (by unfold wp_Mo_statement; exact (pF c0 ((pT c1 ((qa2 _ ((pF c3 (⟨fun q9 => absurd q9 c4_0, fun _ => (qa5 _ ((pF c6 ((qa7 _ ((pT c8 ((qa9 _ (q)))))))))), fun q9 => absurd (c4_1.symm.trans q9) (by decide), fun q9 => absurd (c4_1.symm.trans q9) (by decide), fun q9 => absurd (c4_1.symm.trans q9) (by decide), fun q9 => absurd (c4_1.symm.trans q9) (by decide), fun q9 => absurd (c4_1.symm.trans q9) (by decide), fun q9 => absurd (c4_1.symm.trans q9) (by decide), fun q9 => absurd (c4_1.symm.trans q9) (by decide), fun q9 => absurd (c4_1.symm.trans q9) (by decide), fun q9 => absurd (c4_1.symm.trans q9) (by decide), fun q9 => absurd c4_1 (q9.2.1)⟩))))))))), fun post h => (by unfold wp_Mo_statement at h; replace h := h.2 c0; replace h := h.1 c1; replace h := qb2 _ h; replace h := h.2 c3; replace h := (h).2.1 c4_1; replace h := qb5 _ h; replace h := h.2 c6; replace h := qb7 _ h; replace h := h.1 c8; replace h := qb9 _ h; exact h)⟩
              · obtain ⟨w9_0, w9_1, qa9, qb9⟩ := dt_Mo_statement_J222 hrf h
                exact ⟨_, _, fun post q => (by unfold wp_Mo_statement; exact (pF c0 ((pT c1 ((qa2 _ ((pF c3 (⟨fun q9 => absurd q9 c4_0, fun _ => (qa5 _ ((pF c6 ((qa7 _ ((pF c8 ((qa9 _ (q)))))))))), fun q9 => absurd (c4_1.symm.trans q9) (by decide), fun q9 => absurd (c4_1.symm.trans q9) (by decide), fun q9 => absurd (c4_1.symm.trans q9) (by decide), fun q9 => absurd (c4_1.symm.trans q9) (by decide), fun q9 => absurd (c4_1.symm.trans q9) (by decide), fun q9 => absurd (c4_1.symm.trans q9) (by decide), fun q9 => absurd (c4_1.symm.trans q9) (by decide), fun q9 => absurd (c4_1.symm.trans q9) (by decide), fun q9 => absurd (c4_1.symm.trans q9) (by decide), fun q9 => absurd c4_1 (q9.2.1)⟩))))))))), fun post h => (by unfold wp_Mo_statement at h; replace h := h.2 c0; replace h := h.1 c1; replace h := qb2 _ h; replace h := h.2 c3; replace h := (h).2.1 c4_1; replace h := qb5 _ h; replace h := h.2 c6; replace h := qb7 _ h; replace h := h.2 c8; replace h := qb9 _ h; exact h)⟩
          · rcases Classical.em ((z_this.1.1.1.2.2.2 - (1000 : Int32)) = (12 : Int32)) with c4_2 | c4_2
            · replace h := (h).2.2.1 c4_2
              obtain ⟨r11, u11, qa5, qb5⟩ := dt_Mo_test (dt_Mo_factor d) h
              replace h := qb5 _ h
              obtain ⟨r12, u12, qa6, qb6⟩ := dt_Mo_pushed h
              replace h := qb6 _ h
              rcases br_el h with ⟨c7, h⟩ | ⟨c7, h⟩
              · obtain ⟨w8_0, w8_1, qa8, qb8⟩ := dt_Mo_statement_J251 hrf h
                exact ⟨_, _, fun post q => (by unfold wp_Mo_statement; exact (pF c0 ((pT c1 ((qa2 _ ((pF c3 (⟨fun q9 => absurd q9 c4_0, fun q9 => absurd q9 c4_1, fun _ => (qa5 _ ((qa6 _ ((pT c7 ((qa8 _ (q)))))))), fun q9 => absurd (c4_2.symm.trans q9) (by decide), fun q9 => absurd (c4_2.symm.trans q9) (by decide), fun q9 => absurd (c4_2.symm.trans q9) (by decide), fun q9 => absurd (c4_2.symm.trans q9) (by decide), fun q9 => absurd (c4_2.symm.trans q9) (by decide), fun q9 => absurd (c4_2.symm.trans q9) (by decide), fun q9 => absurd (c4_2.symm.trans q9) (by decide), fun q9 => absurd (c4_2.symm.trans q9) (by decide), fun q9 => absurd c4_2 (q9.2.2.1)⟩))))))))), fun post h => (by unfold wp_Mo_statement at h; replace h := h.2 c0; replace h := h.1 c1; replace h := qb2 _ h; replace h := h.2 c3; replace h := (h).2.2.1 c4_2; replace h := qb5 _ h; replace h := qb6 _ h; replace h := h.1 c7; replace h := qb8 _ h; exact h)⟩
              · obtain ⟨r13, u13, qa8, qb8⟩ := dt_Mo_over h
                replace h := qb8 _ h
                rcases br_el h with ⟨c9, h⟩ | ⟨c9, h⟩
                · obtain ⟨w10_0, w10_1, qa10, qb10⟩ := dt_Mo_statement_J251 hrf h
                  exact ⟨_, _, fun post q => (by unfold wp_Mo_statement; exact (pF c0 ((pT c1 ((qa2 _ ((pF c3 (⟨fun q9 => absurd q9 c4_0, fun q9 => absurd q9 c4_1, fun _ => (qa5 _ ((qa6 _ ((pF c7 ((qa8 _ ((pT c9 ((qa10 _ (q)))))))))))), fun q9 => absurd (c4_2.symm.trans q9) (by decide), fun q9 => absurd (c4_2.symm.trans q9) (by decide), fun q9 => absurd (c4_2.symm.trans q9) (by decide), fun q9 => absurd (c4_2.symm.trans q9) (by decide), fun q9 => absurd (c4_2.symm.trans q9) (by decide), fun q9 => absurd (c4_2.symm.trans q9) (by decide), fun q9 => absurd (c4_2.symm.trans q9) (by decide), fun q9 => absurd (c4_2.symm.trans q9) (by decide), fun q9 => absurd c4_2 (q9.2.2.1)⟩))))))))), fun post h => (by unfold wp_Mo_statement at h; replace h := h.2 c0; replace h := h.1 c1; replace h := qb2 _ h; replace h := h.2 c3; replace h := (h).2.2.1 c4_2; replace h := qb5 _ h; replace h := qb6 _ h; replace h := h.2 c7; replace h := qb8 _ h; replace h := h.1 c9; replace h := qb10 _ h; exact h)⟩
                · obtain ⟨w10_0, w10_1, qa10, qb10⟩ := dt_Mo_statement_J252 hrf h
                  exact ⟨_, _, fun post q => (by unfold wp_Mo_statement; exact (pF c0 ((pT c1 ((qa2 _ ((pF c3 (⟨fun q9 => absurd q9 c4_0, fun q9 => absurd q9 c4_1, fun _ => (qa5 _ ((qa6 _ ((pF c7 ((qa8 _ ((pF c9 ((qa10 _ (q)))))))))))), fun q9 => absurd (c4_2.symm.trans q9) (by decide), fun q9 => absurd (c4_2.symm.trans q9) (by decide), fun q9 => absurd (c4_2.symm.trans q9) (by decide), fun q9 => absurd (c4_2.symm.trans q9) (by decide), fun q9 => absurd (c4_2.symm.trans q9) (by decide), fun q9 => absurd (c4_2.symm.trans q9) (by decide), fun q9 => absurd (c4_2.symm.trans q9) (by decide), fun q9 => absurd (c4_2.symm.trans q9) (by decide), fun q9 => absurd c4_2 (q9.2.2.1)⟩))))))))), fun post h => (by unfold wp_Mo_statement at h; replace h := h.2 c0; replace h := h.1 c1; replace h := qb2 _ h; replace h := h.2 c3; replace h := (h).2.2.1 c4_2; replace h := qb5 _ h; replace h := qb6 _ h; replace h := h.2 c7; replace h := qb8 _ h; replace h := h.2 c9; replace h := qb10 _ h; exact h)⟩
            · rcases Classical.em ((z_this.1.1.1.2.2.2 - (1000 : Int32)) = (13 : Int32)) with c4_3 | c4_3
              · replace h := (h).2.2.2.1 c4_3
                obtain ⟨w5_0, w5_1, qa5, qb5⟩ := dt_Mo_statement_J120 hrf h
                exact ⟨_, _, fun post q => (by unfold wp_Mo_statement; exact (pF c0 ((pT c1 ((qa2 _ ((pF c3 (⟨fun q9 => absurd q9 c4_0, fun q9 => absurd q9 c4_1, fun q9 => absurd q9 c4_2, fun _ => (qa5 _ (q)), fun q9 => absurd (c4_3.symm.trans q9) (by decide), fun q9 => absurd (c4_3.symm.trans q9) (by decide), fun q9 => absurd (c4_3.symm.trans q9) (by decide), fun q9 => absurd (c4_3.symm.trans q9) (by decide), fun q9 => absurd (c4_3.symm.trans q9) (by decide), fun q9 => absurd (c4_3.symm.trans q9) (by decide), fun q9 => absurd (c4_3.symm.trans q9) (by decide), fun q9 => absurd c4_3 (q9.2.2.2.1)⟩))))))))), fun post h => (by unfold wp_Mo_statement at h; replace h := h.2 c0; replace h := h.1 c1; replace h := qb2 _ h; replace h := h.2 c3; replace h := (h).2.2.2.1 c4_3; replace h := qb5 _ h; exact h)⟩
              · rcases Classical.em ((z_this.1.1.1.2.2.2 - (1000 : Int32)) = (14 : Int32)) with c4_4 | c4_4
                · replace h := (h).2.2.2.2.1 c4_4
                  obtain ⟨r14, u14, qa5, qb5⟩ := hrf _ _ h
                  replace h := qb5 _ h
                  obtain ⟨r15, u15, qa6, qb6⟩ := dt_Mo_pushed h
                  replace h := qb6 _ h
                  rcases br_el h with ⟨c7, h⟩ | ⟨c7, h⟩
                  · obtain ⟨w8_0, w8_1, qa8, qb8⟩ := dt_Mo_statement_J283 hrf h
                    exact ⟨_, _, fun post q => (by unfold wp_Mo_statement; exact (pF c0 ((pT c1 ((qa2 _ ((pF c3 (⟨fun q9 => absurd q9 c4_0, fun q9 => absurd q9 c4_1, fun q9 => absurd q9 c4_2, fun q9 => absurd q9 c4_3, fun _ => (qa5 _ ((qa6 _ ((pT c7 ((qa8 _ (q)))))))), fun q9 => absurd (c4_4.symm.trans q9) (by decide), fun q9 => absurd (c4_4.symm.trans q9) (by decide), fun q9 => absurd (c4_4.symm.trans q9) (by decide), fun q9 => absurd (c4_4.symm.trans q9) (by decide), fun q9 => absurd (c4_4.symm.trans q9) (by decide), fun q9 => absurd (c4_4.symm.trans q9) (by decide), fun q9 => absurd c4_4 (q9.2.2.2.2.1)⟩))))))))), fun post h => (by unfold wp_Mo_statement at h; replace h := h.2 c0; replace h := h.1 c1; replace h := qb2 _ h; replace h := h.2 c3; replace h := (h).2.2.2.2.1 c4_4; replace h := qb5 _ h; replace h := qb6 _ h; replace h := h.1 c7; replace h := qb8 _ h; exact h)⟩
                  · obtain ⟨r18, u18, qa8, qb8⟩ := hrf _ _ h
                    replace h := qb8 _ h
                    obtain ⟨r19, u19, qa9, qb9⟩ := dt_Mo_pushed h
                    replace h := qb9 _ h
                    rcases br_el h with ⟨c10, h⟩ | ⟨c10, h⟩
                    · obtain ⟨w11_0, w11_1, qa11, qb11⟩ := dt_Mo_statement_J283 hrf h
                      exact ⟨_, _, fun post q => (by unfold wp_Mo_statement; exact (pF c0 ((pT c1 ((qa2 _ ((pF c3 (⟨fun q9 => absurd q9 c4_0, fun q9 => absurd q9 c4_1, fun q9 => absurd q9 c4_2, fun q9 => absurd q9 c4_3, fun _ => (qa5 _ ((qa6 _ ((pF c7 ((qa8 _ ((qa9 _ ((pT c10 ((qa11 _ (q)))))))))))))), fun q9 => absurd (c4_4.symm.trans q9) (by decide), fun q9 => absurd (c4_4.symm.trans q9) (by decide), fun q9 => absurd (c4_4.symm.trans q9) (by decide), fun q9 => absurd (c4_4.symm.trans q9) (by decide), fun q9 => absurd (c4_4.symm.trans q9) (by decide), fun q9 => absurd (c4_4.symm.trans q9) (by decide), fun q9 => absurd c4_4 (q9.2.2.2.2.1)⟩))))))))), fun post h => (by unfold wp_Mo_statement at h; replace h := h.2 c0; replace h := h.1 c1; replace h := qb2 _ h; replace h := h.2 c3; replace h := (h).2.2.2.2.1 c4_4; replace h := qb5 _ h; replace h := qb6 _ h; replace h := h.2 c7; replace h := qb8 _ h; replace h := qb9 _ h; replace h := h.1 c10; replace h := qb11 _ h; exact h)⟩
                    · obtain ⟨w11_0, w11_1, qa11, qb11⟩ := dt_Mo_statement_J284 hrf h
                      exact ⟨_, _, fun post q => (by unfold wp_Mo_statement; exact (pF c0 ((pT c1 ((qa2 _ ((pF c3 (⟨fun q9 => absurd q9 c4_0, fun q9 => absurd q9 c4_1, fun q9 => absurd q9 c4_2, fun q9 => absurd q9 c4_3, fun _ => (qa5 _ ((qa6 _ ((pF c7 ((qa8 _ ((qa9 _ ((pF c10 ((qa11 _ (q)))))))))))))), fun q9 => absurd (c4_4.symm.trans q9) (by decide), fun q9 => absurd (c4_4.symm.trans q9) (by decide), fun q9 => absurd (c4_4.symm.trans q9) (by decide), fun q9 => absurd (c4_4.symm.trans q9) (by decide), fun q9 => absurd (c4_4.symm.trans q9) (by decide), fun q9 => absurd (c4_4.symm.trans q9) (by decide), fun q9 => absurd c4_4 (q9.2.2.2.2.1)⟩))))))))), fun post h => (by unfold wp_Mo_statement at h; replace h := h.2 c0; replace h := h.1 c1; replace h := qb2 _ h; replace h := h.2 c3; replace h := (h).2.2.2.2.1 c4_4; replace h := qb5 _ h; replace h := qb6 _ h; replace h := h.2 c7; replace h := qb8 _ h; replace h := qb9 _ h; replace h := h.2 c10; replace h := qb11 _ h; exact h)⟩
                · rcases Classical.em ((z_this.1.1.1.2.2.2 - (1000 : Int32)) = (15 : Int32)) with c4_5 | c4_5
                  · replace h := (h).2.2.2.2.2.1 c4_5
                    obtain ⟨r20, u20, qa5, qb5⟩ := dt_Mo_test (dt_Mo_factor d) h
                    replace h := qb5 _ h
                    obtain ⟨r21, u21, qa6, qb6⟩ := dt_Mo_pushed h
                    replace h := qb6 _ h
                    rcases br_el h with ⟨c7, h⟩ | ⟨c7, h⟩
                    · obtain ⟨w8_0, w8_1, qa8, qb8⟩ := dt_Mo_statement_J339 hrf h
                      exact ⟨_, _, fun post q => (by unfold wp_Mo_statement; exact (pF c0 ((pT c1 ((qa2 _ ((pF c3 (⟨fun q9 => absurd q9 c4_0, fun q9 => absurd q9 c4_1, fun q9 => absurd q9 c4_2, fun q9 => absurd q9 c4_3, fun q9 => absurd q9 c4_4, fun _ => (qa5 _ ((qa6 _ ((pT c7 ((qa8 _ (q)))))))), fun q9 => absurd (c4_5.symm.trans q9) (by decide), fun q9 => absurd (c4_5.symm.trans q9) (by decide), fun q9 => absurd (c4_5.symm.trans q9) (by decide), fun q9 => absurd (c4_5.symm.trans q9) (by decide), fun q9 => absurd (c4_5.symm.trans q9) (by decide), fun q9 => absurd c4_5 (q9.2.2.2.2.2.1)⟩))))))))), fun post h => (by unfold wp_Mo_statement at h; replace h := h.2 c0; replace h := h.1 c1; replace h := qb2 _ h; replace h := h.2 c3; replace h := (h).2.2.2.2.2.1 c4_5; replace h := qb5 _ h; replace h := qb6 _ h; replace h := h.1 c7; replace h := qb8 _ h; exact h)⟩
                    · obtain ⟨r26, u26, qa8, qb8⟩ := hrf _ _ h
                      replace h := qb8 _ h
                      obtain ⟨r27, u27, qa9, qb9⟩ := dt_Mo_pushed h
                      replace h := qb9 _ h
                      rcases br_el h with ⟨c10, h⟩ | ⟨c10, h⟩
                      · obtain ⟨w11_0, w11_1, qa11, qb11⟩ := dt_Mo_statement_J339 hrf h
                        exact ⟨_, _, fun post q => (by unfold wp_Mo_statement; exact (pF c0 ((pT c1 ((qa2 _ ((pF c3 (⟨fun q9 => absurd q9 c4_0, fun q9 => absurd q9 c4_1, fun q9 => absurd q9 c4_2, fun q9 => absurd q9 c4_3, fun q9 => absurd q9 c4_4, fun _ => (qa5 _ ((qa6 _ ((pF c7 ((qa8 _ ((qa9 _ ((pT c10 ((qa11 _ (q)))))))))))))), fun q9 => absurd (c4_5.symm.trans q9) (by decide), fun q9 => absurd (c4_5.symm.trans q9) (by decide), fun q9 => absurd (c4_5.symm.trans q9) (by decide), fun q9 => absurd (c4_5.symm.trans q9) (by decide), fun q9 => absurd (c4_5.symm.trans q9) (by decide), fun q9 => absurd c4_5 (q9.2.2.2.2.2.1)⟩))))))))), fun post h => (by unfold wp_Mo_statement at h; replace h := h.2 c0; replace h := h.1 c1; replace h := qb2 _ h; replace h := h.2 c3; replace h := (h).2.2.2.2.2.1 c4_5; replace h := qb5 _ h; replace h := qb6 _ h; replace h := h.2 c7; replace h := qb8 _ h; replace h := qb9 _ h; replace h := h.1 c10; replace h := qb11 _ h; exact h)⟩
                      · obtain ⟨w11_0, w11_1, qa11, qb11⟩ := dt_Mo_statement_J340 hrf h
                        exact ⟨_, _, fun post q => (by unfold wp_Mo_statement; exact (pF c0 ((pT c1 ((qa2 _ ((pF c3 (⟨fun q9 => absurd q9 c4_0, fun q9 => absurd q9 c4_1, fun q9 => absurd q9 c4_2, fun q9 => absurd q9 c4_3, fun q9 => absurd q9 c4_4, fun _ => (qa5 _ ((qa6 _ ((pF c7 ((qa8 _ ((qa9 _ ((pF c10 ((qa11 _ (q)))))))))))))), fun q9 => absurd (c4_5.symm.trans q9) (by decide), fun q9 => absurd (c4_5.symm.trans q9) (by decide), fun q9 => absurd (c4_5.symm.trans q9) (by decide), fun q9 => absurd (c4_5.symm.trans q9) (by decide), fun q9 => absurd (c4_5.symm.trans q9) (by decide), fun q9 => absurd c4_5 (q9.2.2.2.2.2.1)⟩))))))))), fun post h => (by unfold wp_Mo_statement at h; replace h := h.2 c0; replace h := h.1 c1; replace h := qb2 _ h; replace h := h.2 c3; replace h := (h).2.2.2.2.2.1 c4_5; replace h := qb5 _ h; replace h := qb6 _ h; replace h := h.2 c7; replace h := qb8 _ h; replace h := qb9 _ h; replace h := h.2 c10; replace h := qb11 _ h; exact h)⟩
                  · rcases Classical.em ((z_this.1.1.1.2.2.2 - (1000 : Int32)) = (16 : Int32)) with c4_6 | c4_6
                    · replace h := (h).2.2.2.2.2.2.1 c4_6
                      obtain ⟨r28, u28, qa5, qb5⟩ := dt_Mo_sumOf (dt_Mo_factor d) h
                      replace h := qb5 _ h
                      rcases br_el h with ⟨c6, h⟩ | ⟨c6, h⟩
                      · obtain ⟨w7_0, w7_1, qa7, qb7⟩ := dt_Mo_statement_J407 hrf h
                        exact ⟨_, _, fun post q => (by unfold wp_Mo_statement; exact (pF c0 ((pT c1 ((qa2 _ ((pF c3 (⟨fun q9 => absurd q9 c4_0, fun q9 => absurd q9 c4_1, fun q9 => absurd q9 c4_2, fun q9 => absurd q9 c4_3, fun q9 => absurd q9 c4_4, fun q9 => absurd q9 c4_5, fun _ => (qa5 _ ((pT c6 ((qa7 _ (q)))))), fun q9 => absurd (c4_6.symm.trans q9) (by decide), fun q9 => absurd (c4_6.symm.trans q9) (by decide), fun q9 => absurd (c4_6.symm.trans q9) (by decide), fun q9 => absurd (c4_6.symm.trans q9) (by decide), fun q9 => absurd c4_6 (q9.2.2.2.2.2.2.1)⟩))))))))), fun post h => (by unfold wp_Mo_statement at h; replace h := h.2 c0; replace h := h.1 c1; replace h := qb2 _ h; replace h := h.2 c3; replace h := (h).2.2.2.2.2.2.1 c4_6; replace h := qb5 _ h; replace h := h.1 c6; replace h := qb7 _ h; exact h)⟩
                      · obtain ⟨r29, u29, qa7, qb7⟩ := hrf _ _ h
                        replace h := qb7 _ h
                        obtain ⟨r30, u30, qa8, qb8⟩ := dt_Mo_pushed h
                        replace h := qb8 _ h
                        rcases br_el h with ⟨c9, h⟩ | ⟨c9, h⟩
                        · obtain ⟨w10_0, w10_1, qa10, qb10⟩ := dt_Mo_statement_J407 hrf h
                          exact ⟨_, _, fun post q => (by unfold wp_Mo_statement; exact (pF c0 ((pT c1 ((qa2 _ ((pF c3 (⟨fun q9 => absurd q9 c4_0, fun q9 => absurd q9 c4_1, fun q9 => absurd q9 c4_2, fun q9 => absurd q9 c4_3, fun q9 => absurd q9 c4_4, fun q9 => absurd q9 c4_5, fun _ => (qa5 _ ((pF c6 ((qa7 _ ((qa8 _ ((pT c9 ((qa10 _ (q)))))))))))), fun q9 => absurd (c4_6.symm.trans q9) (by decide), fun q9 => absurd (c4_6.symm.trans q9) (by decide), fun q9 => absurd (c4_6.symm.trans q9) (by decide), fun q9 => absurd (c4_6.symm.trans q9) (by decide), fun q9 => absurd c4_6 (q9.2.2.2.2.2.2.1)⟩))))))))), fun post h => (by unfold wp_Mo_statement at h; replace h := h.2 c0; replace h := h.1 c1; replace h := qb2 _ h; replace h := h.2 c3; replace h := (h).2.2.2.2.2.2.1 c4_6; replace h := qb5 _ h; replace h := h.2 c6; replace h := qb7 _ h; replace h := qb8 _ h; replace h := h.1 c9; replace h := qb10 _ h; exact h)⟩
                        · obtain ⟨w10_0, w10_1, qa10, qb10⟩ := dt_Mo_statement_J408 hrf h
                          exact ⟨_, _, fun post q => (by unfold wp_Mo_statement; exact (pF c0 ((pT c1 ((qa2 _ ((pF c3 (⟨fun q9 => absurd q9 c4_0, fun q9 => absurd q9 c4_1, fun q9 => absurd q9 c4_2, fun q9 => absurd q9 c4_3, fun q9 => absurd q9 c4_4, fun q9 => absurd q9 c4_5, fun _ => (qa5 _ ((pF c6 ((qa7 _ ((qa8 _ ((pF c9 ((qa10 _ (q)))))))))))), fun q9 => absurd (c4_6.symm.trans q9) (by decide), fun q9 => absurd (c4_6.symm.trans q9) (by decide), fun q9 => absurd (c4_6.symm.trans q9) (by decide), fun q9 => absurd (c4_6.symm.trans q9) (by decide), fun q9 => absurd c4_6 (q9.2.2.2.2.2.2.1)⟩))))))))), fun post h => (by unfold wp_Mo_statement at h; replace h := h.2 c0; replace h := h.1 c1; replace h := qb2 _ h; replace h := h.2 c3; replace h := (h).2.2.2.2.2.2.1 c4_6; replace h := qb5 _ h; replace h := h.2 c6; replace h := qb7 _ h; replace h := qb8 _ h; replace h := h.2 c9; replace h := qb10 _ h; exact h)⟩
                    · rcases Classical.em ((z_this.1.1.1.2.2.2 - (1000 : Int32)) = (17 : Int32)) with c4_7 | c4_7
                      · replace h := (h).2.2.2.2.2.2.2.1 c4_7
                        obtain ⟨r31, u31, qa5, qb5⟩ := dt_Mo_test (dt_Mo_factor d) h
                        replace h := qb5 _ h
                        obtain ⟨r32, u32, qa6, qb6⟩ := dt_Mo_pushed h
                        replace h := qb6 _ h
                        rcases br_el h with ⟨c7, h⟩ | ⟨c7, h⟩
                        · obtain ⟨w8_0, w8_1, qa8, qb8⟩ := dt_Mo_statement_J460 hrf h
                          exact ⟨_, _, fun post q => (by unfold wp_Mo_statement; exact (pF c0 ((pT c1 ((qa2 _ ((pF c3 (⟨fun q9 => absurd q9 c4_0, fun q9 => absurd q9 c4_1, fun q9 => absurd q9 c4_2, fun q9 => absurd q9 c4_3, fun q9 => absurd q9 c4_4, fun q9 => absurd q9 c4_5, fun q9 => absurd q9 c4_6, fun _ => (qa5 _ ((qa6 _ ((pT c7 ((qa8 _ (q)))))))), fun q9 => absurd (c4_7.symm.trans q9) (by decide), fun q9 => absurd (c4_7.symm.trans q9) (by decide), fun q9 => absurd (c4_7.symm.trans q9) (by decide), fun q9 => absurd c4_7 (q9.2.2.2.2.2.2.2.1)⟩))))))))), fun post h => (by unfold wp_Mo_statement at h; replace h := h.2 c0; replace h := h.1 c1; replace h := qb2 _ h; replace h := h.2 c3; replace h := (h).2.2.2.2.2.2.2.1 c4_7; replace h := qb5 _ h; replace h := qb6 _ h; replace h := h.1 c7; replace h := qb8 _ h; exact h)⟩
                        · obtain ⟨r33, u33, qa8, qb8⟩ := hrf _ _ h
                          replace h := qb8 _ h
                          obtain ⟨r34, u34, qa9, qb9⟩ := dt_Mo_pushed h
                          replace h := qb9 _ h
                          rcases br_el h with ⟨c10, h⟩ | ⟨c10, h⟩
                          · obtain ⟨w11_0, w11_1, qa11, qb11⟩ := dt_Mo_statement_J460 hrf h
                            exact ⟨_, _, fun post q => (by unfold wp_Mo_statement; exact (pF c0 ((pT c1 ((qa2 _ ((pF c3 (⟨fun q9 => absurd q9 c4_0, fun q9 => absurd q9 c4_1, fun q9 => absurd q9 c4_2, fun q9 => absurd q9 c4_3, fun q9 => absurd q9 c4_4, fun q9 => absurd q9 c4_5, fun q9 => absurd q9 c4_6, fun _ => (qa5 _ ((qa6 _ ((pF c7 ((qa8 _ ((qa9 _ ((pT c10 ((qa11 _ (q)))))))))))))), fun q9 => absurd (c4_7.symm.trans q9) (by decide), fun q9 => absurd (c4_7.symm.trans q9) (by decide), fun q9 => absurd (c4_7.symm.trans q9) (by decide), fun q9 => absurd c4_7 (q9.2.2.2.2.2.2.2.1)⟩))))))))), fun post h => (by unfold wp_Mo_statement at h; replace h := h.2 c0; replace h := h.1 c1; replace h := qb2 _ h; replace h := h.2 c3; replace h := (h).2.2.2.2.2.2.2.1 c4_7; replace h := qb5 _ h; replace h := qb6 _ h; replace h := h.2 c7; replace h := qb8 _ h; replace h := qb9 _ h; replace h := h.1 c10; replace h := qb11 _ h; exact h)⟩
                          · obtain ⟨r35, u35, qa11, qb11⟩ := dt_Mo_over h
                            replace h := qb11 _ h
                            rcases br_el h with ⟨c12, h⟩ | ⟨c12, h⟩
                            · obtain ⟨w13_0, w13_1, qa13, qb13⟩ := dt_Mo_statement_J460 hrf h
                              exact ⟨_, _, fun post q => (by unfold wp_Mo_statement; exact (pF c0 ((pT c1 ((qa2 _ ((pF c3 (⟨fun q9 => absurd q9 c4_0, fun q9 => absurd q9 c4_1, fun q9 => absurd q9 c4_2, fun q9 => absurd q9 c4_3, fun q9 => absurd q9 c4_4, fun q9 => absurd q9 c4_5, fun q9 => absurd q9 c4_6, fun _ => (qa5 _ ((qa6 _ ((pF c7 ((qa8 _ ((qa9 _ ((pF c10 ((qa11 _ ((pT c12 ((qa13 _ (q)))))))))))))))))), fun q9 => absurd (c4_7.symm.trans q9) (by decide), fun q9 => absurd (c4_7.symm.trans q9) (by decide), fun q9 => absurd (c4_7.symm.trans q9) (by decide), fun q9 => absurd c4_7 (q9.2.2.2.2.2.2.2.1)⟩))))))))), fun post h => (by unfold wp_Mo_statement at h; replace h := h.2 c0; replace h := h.1 c1; replace h := qb2 _ h; replace h := h.2 c3; replace h := (h).2.2.2.2.2.2.2.1 c4_7; replace h := qb5 _ h; replace h := qb6 _ h; replace h := h.2 c7; replace h := qb8 _ h; replace h := qb9 _ h; replace h := h.2 c10; replace h := qb11 _ h; replace h := h.1 c12; replace h := qb13 _ h; exact h)⟩
                            · obtain ⟨r36, u36, qa13, qb13⟩ := hrf _ _ h
                              replace h := qb13 _ h
                              obtain ⟨r37, u37, qa14, qb14⟩ := dt_Mo_pushed h
                              replace h := qb14 _ h
                              rcases br_el h with ⟨c15, h⟩ | ⟨c15, h⟩
                              · obtain ⟨w16_0, w16_1, qa16, qb16⟩ := dt_Mo_statement_J460 hrf h
                                exact ⟨_, _, fun post q => (by unfold wp_Mo_statement; exact (pF c0 ((pT c1 ((qa2 _ ((pF c3 (⟨fun q9 => absurd q9 c4_0, fun q9 => absurd q9 c4_1, fun q9 => absurd q9 c4_2, fun q9 => absurd q9 c4_3, fun q9 => absurd q9 c4_4, fun q9 => absurd q9 c4_5, fun q9 => absurd q9 c4_6, fun _ => (qa5 _ ((qa6 _ ((pF c7 ((qa8 _ ((qa9 _ ((pF c10 ((qa11 _ ((pF c12 ((qa13 _ ((qa14 _ ((pT c15 ((qa16 _ (q)))))))))))))))))))))))), fun q9 => absurd (c4_7.symm.trans q9) (by decide), fun q9 => absurd (c4_7.symm.trans q9) (by decide), fun q9 => absurd (c4_7.symm.trans q9) (by decide), fun q9 => absurd c4_7 (q9.2.2.2.2.2.2.2.1)⟩))))))))), fun post h => (by unfold wp_Mo_statement at h; replace h := h.2 c0; replace h := h.1 c1; replace h := qb2 _ h; replace h := h.2 c3; replace h := (h).2.2.2.2.2.2.2.1 c4_7; replace h := qb5 _ h; replace h := qb6 _ h; replace h := h.2 c7; replace h := qb8 _ h; replace h := qb9 _ h; replace h := h.2 c10; replace h := qb11 _ h; replace h := h.2 c12; replace h := qb13 _ h; replace h := qb14 _ h; replace h := h.1 c15; replace h := qb16 _ h; exact h)⟩
                              · obtain ⟨w16_0, w16_1, qa16, qb16⟩ := dt_Mo_statement_J461 hrf h
                                exact ⟨_, _, fun post q => (by unfold wp_Mo_statement; exact (pF c0 ((pT c1 ((qa2 _ ((pF c3 (⟨fun q9 => absurd q9 c4_0, fun q9 => absurd q9 c4_1, fun q9 => absurd q9 c4_2, fun q9 => absurd q9 c4_3, fun q9 => absurd q9 c4_4, fun q9 => absurd q9 c4_5, fun q9 => absurd q9 c4_6, fun _ => (qa5 _ ((qa6 _ ((pF c7 ((qa8 _ ((qa9 _ ((pF c10 ((qa11 _ ((pF c12 ((qa13 _ ((qa14 _ ((pF c15 ((qa16 _ (q)))))))))))))))))))))))), fun q9 => absurd (c4_7.symm.trans q9) (by decide), fun q9 => absurd (c4_7.symm.trans q9) (by decide), fun q9 => absurd (c4_7.symm.trans q9) (by decide), fun q9 => absurd c4_7 (q9.2.2.2.2.2.2.2.1)⟩))))))))), fun post h => (by unfold wp_Mo_statement at h; replace h := h.2 c0; replace h := h.1 c1; replace h := qb2 _ h; replace h := h.2 c3; replace h := (h).2.2.2.2.2.2.2.1 c4_7; replace h := qb5 _ h; replace h := qb6 _ h; replace h := h.2 c7; replace h := qb8 _ h; replace h := qb9 _ h; replace h := h.2 c10; replace h := qb11 _ h; replace h := h.2 c12; replace h := qb13 _ h; replace h := qb14 _ h; replace h := h.2 c15; replace h := qb16 _ h; exact h)⟩
                      · rcases Classical.em ((z_this.1.1.1.2.2.2 - (1000 : Int32)) = (18 : Int32)) with c4_8 | c4_8
                        · replace h := (h).2.2.2.2.2.2.2.2.1 c4_8
                          obtain ⟨w5_0, w5_1, qa5, qb5⟩ := dt_Mo_statement_J466 hrf h
                          exact ⟨_, _, fun post q => (by unfold wp_Mo_statement; exact (pF c0 ((pT c1 ((qa2 _ ((pF c3 (⟨fun q9 => absurd q9 c4_0, fun q9 => absurd q9 c4_1, fun q9 => absurd q9 c4_2, fun q9 => absurd q9 c4_3, fun q9 => absurd q9 c4_4, fun q9 => absurd q9 c4_5, fun q9 => absurd q9 c4_6, fun q9 => absurd q9 c4_7, fun _ => (qa5 _ (q)), fun q9 => absurd (c4_8.symm.trans q9) (by decide), fun q9 => absurd (c4_8.symm.trans q9) (by decide), fun q9 => absurd c4_8 (q9.2.2.2.2.2.2.2.2.1)⟩))))))))), fun post h => (by unfold wp_Mo_statement at h; replace h := h.2 c0; replace h := h.1 c1; replace h := qb2 _ h; replace h := h.2 c3; replace h := (h).2.2.2.2.2.2.2.2.1 c4_8; replace h := qb5 _ h; exact h)⟩
                        · rcases Classical.em ((z_this.1.1.1.2.2.2 - (1000 : Int32)) = (19 : Int32)) with c4_9 | c4_9
                          · replace h := (h).2.2.2.2.2.2.2.2.2.1 c4_9
                            obtain ⟨w5_0, w5_1, qa5, qb5⟩ := dt_Mo_statement_J466 hrf h
                            exact ⟨_, _, fun post q => (by unfold wp_Mo_statement; exact (pF c0 ((pT c1 ((qa2 _ ((pF c3 (⟨fun q9 => absurd q9 c4_0, fun q9 => absurd q9 c4_1, fun q9 => absurd q9 c4_2, fun q9 => absurd q9 c4_3, fun q9 => absurd q9 c4_4, fun q9 => absurd q9 c4_5, fun q9 => absurd q9 c4_6, fun q9 => absurd q9 c4_7, fun q9 => absurd q9 c4_8, fun _ => (qa5 _ (q)), fun q9 => absurd (c4_9.symm.trans q9) (by decide), fun q9 => absurd c4_9 (q9.2.2.2.2.2.2.2.2.2.1)⟩))))))))), fun post h => (by unfold wp_Mo_statement at h; replace h := h.2 c0; replace h := h.1 c1; replace h := qb2 _ h; replace h := h.2 c3; replace h := (h).2.2.2.2.2.2.2.2.2.1 c4_9; replace h := qb5 _ h; exact h)⟩
                          · rcases Classical.em ((z_this.1.1.1.2.2.2 - (1000 : Int32)) = (22 : Int32)) with c4_10 | c4_10
                            · replace h := (h).2.2.2.2.2.2.2.2.2.2.1 c4_10
                              rcases br_el h with ⟨c5, h⟩ | ⟨c5, h⟩
                              · rcases br_el h with ⟨c6, h⟩ | ⟨c6, h⟩
                                · rcases br_el h with ⟨c7, h⟩ | ⟨c7, h⟩
                                  · obtain ⟨r41, u41, qa8, qb8⟩ := dt_Mo_go h
                                    replace h := qb8 _ h
                                    rcases br_el h with ⟨c9, h⟩ | ⟨c9, h⟩
                                    · obtain ⟨w10_0, w10_1, qa10, qb10⟩ := dt_Mo_statement_J573 hrf h
                                      exact ⟨_, _, fun post q => (by unfold wp_Mo_statement; exact (pF c0 ((pT c1 ((qa2 _ ((pF c3 (⟨fun q9 => absurd q9 c4_0, fun q9 => absurd q9 c4_1, fun q9 => absurd q9 c4_2, fun q9 => absurd q9 c4_3, fun q9 => absurd q9 c4_4, fun q9 => absurd q9 c4_5, fun q9 => absurd q9 c4_6, fun q9 => absurd q9 c4_7, fun q9 => absurd q9 c4_8, fun q9 => absurd q9 c4_9, fun _ => (pT c5 ((pT c6 ((pT c7 ((qa8 _ ((pT c9 ((qa10 _ (q)))))))))))), fun q9 => absurd c4_10 (q9.2.2.2.2.2.2.2.2.2.2)⟩))))))))), fun post h => (by unfold wp_Mo_statement at h; replace h := h.2 c0; replace h := h.1 c1; replace h := qb2 _ h; replace h := h.2 c3; replace h := (h).2.2.2.2.2.2.2.2.2.2.1 c4_10; replace h := h.1 c5; replace h := h.1 c6; replace h := h.1 c7; replace h := qb8 _ h; replace h := h.1 c9; replace h := qb10 _ h; exact h)⟩
                                    · obtain ⟨r42, u42, qa10, qb10⟩ := dt_Mo_over h
                                      replace h := qb10 _ h
                                      rcases br_el h with ⟨c11, h⟩ | ⟨c11, h⟩
                                      · obtain ⟨w12_0, w12_1, qa12, qb12⟩ := dt_Mo_statement_J573 hrf h
                                        exact ⟨_, _, fun post q => (by unfold wp_Mo_statement; exact (pF c0 ((pT c1 ((qa2 _ ((pF c3 (⟨fun q9 => absurd q9 c4_0, fun q9 => absurd q9 c4_1, fun q9 => absurd q9 c4_2, fun q9 => absurd q9 c4_3, fun q9 => absurd q9 c4_4, fun q9 => absurd q9 c4_5, fun q9 => absurd q9 c4_6, fun q9 => absurd q9 c4_7, fun q9 => absurd q9 c4_8, fun q9 => absurd q9 c4_9, fun _ => (pT c5 ((pT c6 ((pT c7 ((qa8 _ ((pF c9 ((qa10 _ ((pT c11 ((qa12 _ (q)))))))))))))))), fun q9 => absurd c4_10 (q9.2.2.2.2.2.2.2.2.2.2)⟩))))))))), fun post h => (by unfold wp_Mo_statement at h; replace h := h.2 c0; replace h := h.1 c1; replace h := qb2 _ h; replace h := h.2 c3; replace h := (h).2.2.2.2.2.2.2.2.2.2.1 c4_10; replace h := h.1 c5; replace h := h.1 c6; replace h := h.1 c7; replace h := qb8 _ h; replace h := h.2 c9; replace h := qb10 _ h; replace h := h.1 c11; replace h := qb12 _ h; exact h)⟩
                                      · obtain ⟨w12_0, w12_1, qa12, qb12⟩ := dt_Mo_statement_J574 hrf h
                                        exact ⟨_, _, fun post q => (by unfold wp_Mo_statement; exact (pF c0 ((pT c1 ((qa2 _ ((pF c3 (⟨fun q9 => absurd q9 c4_0, fun q9 => absurd q9 c4_1, fun q9 => absurd q9 c4_2, fun q9 => absurd q9 c4_3, fun q9 => absurd q9 c4_4, fun q9 => absurd q9 c4_5, fun q9 => absurd q9 c4_6, fun q9 => absurd q9 c4_7, fun q9 => absurd q9 c4_8, fun q9 => absurd q9 c4_9, fun _ => (pT c5 ((pT c6 ((pT c7 ((qa8 _ ((pF c9 ((qa10 _ ((pF c11 ((qa12 _ (q)))))))))))))))), fun q9 => absurd c4_10 (q9.2.2.2.2.2.2.2.2.2.2)⟩))))))))), fun post h => (by unfold wp_Mo_statement at h; replace h := h.2 c0; replace h := h.1 c1; replace h := qb2 _ h; replace h := h.2 c3; replace h := (h).2.2.2.2.2.2.2.2.2.2.1 c4_10; replace h := h.1 c5; replace h := h.1 c6; replace h := h.1 c7; replace h := qb8 _ h; replace h := h.2 c9; replace h := qb10 _ h; replace h := h.2 c11; replace h := qb12 _ h; exact h)⟩
                                  · obtain ⟨w8_0, w8_1, qa8, qb8⟩ := dt_Mo_statement_J537 hrf h
                                    exact ⟨_, _, fun post q => (by unfold wp_Mo_statement; exact (pF c0 ((pT c1 ((qa2 _ ((pF c3 (⟨fun q9 => absurd q9 c4_0, fun q9 => absurd q9 c4_1, fun q9 => absurd q9 c4_2, fun q9 => absurd q9 c4_3, fun q9 => absurd q9 c4_4, fun q9 => absurd q9 c4_5, fun q9 => absurd q9 c4_6, fun q9 => absurd q9 c4_7, fun q9 => absurd q9 c4_8, fun q9 => absurd q9 c4_9, fun _ => (pT c5 ((pT c6 ((pF c7 ((qa8 _ (q)))))))), fun q9 => absurd c4_10 (q9.2.2.2.2.2.2.2.2.2.2)⟩))))))))), fun post h => (by unfold wp_Mo_statement at h; replace h := h.2 c0; replace h := h.1 c1; replace h := qb2 _ h; replace h := h.2 c3; replace h := (h).2.2.2.2.2.2.2.2.2.2.1 c4_10; replace h := h.1 c5; replace h := h.1 c6; replace h := h.2 c7; replace h := qb8 _ h; exact h)⟩
                                · obtain ⟨w7_0, w7_1, qa7, qb7⟩ := dt_Mo_statement_J537 hrf h
                                  exact ⟨_, _, fun post q => (by unfold wp_Mo_statement; exact (pF c0 ((pT c1 ((qa2 _ ((pF c3 (⟨fun q9 => absurd q9 c4_0, fun q9 => absurd q9 c4_1, fun q9 => absurd q9 c4_2, fun q9 => absurd q9 c4_3, fun q9 => absurd q9 c4_4, fun q9 => absurd q9 c4_5, fun q9 => absurd q9 c4_6, fun q9 => absurd q9 c4_7, fun q9 => absurd q9 c4_8, fun q9 => absurd q9 c4_9, fun _ => (pT c5 ((pF c6 ((qa7 _ (q)))))), fun q9 => absurd c4_10 (q9.2.2.2.2.2.2.2.2.2.2)⟩))))))))), fun post h => (by unfold wp_Mo_statement at h; replace h := h.2 c0; replace h := h.1 c1; replace h := qb2 _ h; replace h := h.2 c3; replace h := (h).2.2.2.2.2.2.2.2.2.2.1 c4_10; replace h := h.1 c5; replace h := h.2 c6; replace h := qb7 _ h; exact h)⟩
                              · obtain ⟨w6_0, w6_1, qa6, qb6⟩ := dt_Mo_statement_J537 hrf h
                                exact ⟨_, _, fun post q => (by unfold wp_Mo_statement; exact (pF c0 ((pT c1 ((qa2 _ ((pF c3 (⟨fun q9 => absurd q9 c4_0, fun q9 => absurd q9 c4_1, fun q9 => absurd q9 c4_2, fun q9 => absurd q9 c4_3, fun q9 => absurd q9 c4_4, fun q9 => absurd q9 c4_5, fun q9 => absurd q9 c4_6, fun q9 => absurd q9 c4_7, fun q9 => absurd q9 c4_8, fun q9 => absurd q9 c4_9, fun _ => (pF c5 ((qa6 _ (q)))), fun q9 => absurd c4_10 (q9.2.2.2.2.2.2.2.2.2.2)⟩))))))))), fun post h => (by unfold wp_Mo_statement at h; replace h := h.2 c0; replace h := h.1 c1; replace h := qb2 _ h; replace h := h.2 c3; replace h := (h).2.2.2.2.2.2.2.2.2.2.1 c4_10; replace h := h.2 c5; replace h := qb6 _ h; exact h)⟩
                            · replace h := (h).2.2.2.2.2.2.2.2.2.2.2 ⟨c4_0, c4_1, c4_2, c4_3, c4_4, c4_5, c4_6, c4_7, c4_8, c4_9, c4_10⟩
                              obtain ⟨w5_0, w5_1, qa5, qb5⟩ := dt_Mo_statement_J579 hrf h
                              exact ⟨_, _, fun post q => (by unfold wp_Mo_statement; exact (pF c0 ((pT c1 ((qa2 _ ((pF c3 (⟨fun q9 => absurd q9 c4_0, fun q9 => absurd q9 c4_1, fun q9 => absurd q9 c4_2, fun q9 => absurd q9 c4_3, fun q9 => absurd q9 c4_4, fun q9 => absurd q9 c4_5, fun q9 => absurd q9 c4_6, fun q9 => absurd q9 c4_7, fun q9 => absurd q9 c4_8, fun q9 => absurd q9 c4_9, fun q9 => absurd q9 c4_10, fun _ => (qa5 _ (q))⟩))))))))), fun post h => (by unfold wp_Mo_statement at h; replace h := h.2 c0; replace h := h.1 c1; replace h := qb2 _ h; replace h := h.2 c3; replace h := (h).2.2.2.2.2.2.2.2.2.2.2 ⟨c4_0, c4_1, c4_2, c4_3, c4_4, c4_5, c4_6, c4_7, c4_8, c4_9, c4_10⟩; replace h := qb5 _ h; exact h)⟩
    · obtain ⟨w2_0, w2_1, qa2, qb2⟩ := dt_Mo_statement_J26 hrf h
      exact ⟨_, _, fun post q => (by unfold wp_Mo_statement; exact (pF c0 ((pF c1 ((qa2 _ (q))))))), fun post h => (by unfold wp_Mo_statement at h; replace h := h.2 c0; replace h := h.2 c1; replace h := qb2 _ h; exact h)⟩
set_option maxHeartbeats 2000000 in
theorem dt_Mo_block_L52 {d : Nat} {rf : T_Mo → (Int32 → T_Mo → Prop) → Prop} (hrf : ∀ (v0 : T_Mo) (post : (Int32 → T_Mo → Prop)), rf v0 post → (∃ (w0 : Int32) (w1 : T_Mo), (∀ (post : (Int32 → T_Mo → Prop)), post w0 w1 → rf v0 post) ∧ (∀ (post : (Int32 → T_Mo → Prop)), rf v0 post → post w0 w1))) : ∀ (n9 : Nat) (z_this : T_Mo) (x1 : Int32) (x2 : Int32) (K : T_Mo → Int32 → Int32 → Prop) (post : Int32 → T_Mo → Prop), wp_Mo_block_L52 d rf K post n9 z_this x1 x2 → (∃ (w0 : T_Mo) (w1 : Int32) (w2 : Int32), (∀ (K : T_Mo → Int32 → Int32 → Prop) (post : Int32 → T_Mo → Prop), K w0 w1 w2 → wp_Mo_block_L52 d rf K post n9 z_this x1 x2) ∧ (∀ (m9 : Nat) (K : T_Mo → Int32 → Int32 → Prop) (post : Int32 → T_Mo → Prop), wp_Mo_block_L52 d rf K post m9 z_this x1 x2 → K w0 w1 w2)) ∨ (∃ (w0 : Int32) (w1 : T_Mo), (∀ (K : T_Mo → Int32 → Int32 → Prop) (post : Int32 → T_Mo → Prop), post w0 w1 → wp_Mo_block_L52 d rf K post n9 z_this x1 x2) ∧ (∀ (m9 : Nat) (K : T_Mo → Int32 → Int32 → Prop) (post : Int32 → T_Mo → Prop), wp_Mo_block_L52 d rf K post m9 z_this x1 x2 → post w0 w1)) := by
  intro n9
  induction n9 with
  | zero => intro z_this x1 x2 K post h; exact False.elim h
  | succ n9 ih =>
    intro z_this x1 x2 K post h
    rw [wp_Mo_block_L52] at h
    rcases br_el h with ⟨c0, h⟩ | ⟨c0, h⟩
    · exact Or.inl ⟨_, _, _, fun K post q => (by rw [wp_Mo_block_L52]; exact (pT c0 (q))), fun m9 K post h => (by cases m9 with | zero => exact False.elim h | succ m9 => (rw [wp_Mo_block_L52] at h; replace h := h.1 c0; exact h))⟩
    · obtain ⟨r3, u3, qa1, qb1⟩ := dt_Mo_statement hrf h
      replace h := qb1 _ h
      rcases br_el h with ⟨c2, h⟩ | ⟨c2, h⟩
      · obtain ⟨r4, u4, qa3, qb3⟩ := dt_Mo_push h
        replace h := qb3 _ h
        rcases ih _ _ _ _ _ h with ⟨w4_0, w4_1, w4_2, qa4, qb4⟩ | ⟨w4_0, w4_1, qa4, qb4⟩
        · exact Or.inl ⟨_, _, _, fun K post q => (by rw [wp_Mo_block_L52]; exact (pF c0 ((qa1 _ ((pT c2 ((qa3 _ ((qa4 _ _ (q))))))))))), fun m9 K post h => (by cases m9 with | zero => exact False.elim h | succ m9 => (rw [wp_Mo_block_L52] at h; replace h := h.2 c0; replace h := qb1 _ h; replace h := h.1 c2; replace h := qb3 _ h; replace h := qb4 m9 _ _ h; exact h))⟩
        · exact Or.inr (⟨_, _, fun K post q => (by rw [wp_Mo_block_L52]; exact (pF c0 ((qa1 _ ((pT c2 ((qa3 _ ((qa4 _ _ (q))))))))))), fun m9 K post h => (by cases m9 with | zero => exact False.elim h | succ m9 => (rw [wp_Mo_block_L52] at h; replace h := h.2 c0; replace h := qb1 _ h; replace h := h.1 c2; replace h := qb3 _ h; replace h := qb4 m9 _ _ h; exact h))⟩)
      · exact Or.inr (⟨_, _, fun K post q => (by rw [wp_Mo_block_L52]; exact (pF c0 ((qa1 _ ((pF c2 (q))))))), fun m9 K post h => (by cases m9 with | zero => exact False.elim h | succ m9 => (rw [wp_Mo_block_L52] at h; replace h := h.2 c0; replace h := qb1 _ h; replace h := h.2 c2; exact h))⟩)
set_option maxHeartbeats 2000000 in
theorem dt_Mo_block_F {d : Nat} {rf : T_Mo → (Int32 → T_Mo → Prop) → Prop} {z_this : T_Mo} (hrf : ∀ (v0 : T_Mo) (post : (Int32 → T_Mo → Prop)), rf v0 post → (∃ (w0 : Int32) (w1 : T_Mo), (∀ (post : (Int32 → T_Mo → Prop)), post w0 w1 → rf v0 post) ∧ (∀ (post : (Int32 → T_Mo → Prop)), rf v0 post → post w0 w1))) {post : Int32 → T_Mo → Prop} (h : wp_Mo_block_F d rf z_this post) : (∃ (w0 : Int32) (w1 : T_Mo), (∀ (post : Int32 → T_Mo → Prop), post w0 w1 → wp_Mo_block_F d rf z_this post) ∧ (∀ (post : Int32 → T_Mo → Prop), wp_Mo_block_F d rf z_this post → post w0 w1)) := by
  unfold wp_Mo_block_F at h
  rcases br_el h with ⟨c0, h⟩ | ⟨c0, h⟩
  · rcases br_el h with ⟨c1, h⟩ | ⟨c1, h⟩
    · obtain ⟨r7, u7, qa2, qb2⟩ := dt_Mo_bad h
      replace h := qb2 _ h
      exact ⟨_, _, fun post q => (by unfold wp_Mo_block_F; exact (pT c0 ((pT c1 ((qa2 _ (q))))))), fun post h => (by unfold wp_Mo_block_F at h; replace h := h.1 c0; replace h := h.1 c1; replace h := qb2 _ h; exact h)⟩
    · obtain ⟨r2, u2, qa2, qb2⟩ := dt_Mo_go h
      replace h := qb2 _ h
      rcases br_el h with ⟨c3, h⟩ | ⟨c3, h⟩
      · exact ⟨_, _, fun post q => (by unfold wp_Mo_block_F; exact (pT c0 ((pF c1 ((qa2 _ ((pT c3 (q))))))))), fun post h => (by unfold wp_Mo_block_F at h; replace h := h.1 c0; replace h := h.2 c1; replace h := qb2 _ h; replace h := h.1 c3; exact h)⟩
      · obtain ⟨k4, h⟩ := h
        rcases dt_Mo_block_L52 hrf k4 _ _ _ _ _ h with ⟨z_this, x1, x2, qa4, qb4⟩ | ⟨w4_0, w4_1, qa4, qb4⟩
        · replace h := qb4 k4 _ _ h
          obtain ⟨r5, u5, qa5, qb5⟩ := dt_Mo_go h
          replace h := qb5 _ h
          rcases br_el h with ⟨c6, h⟩ | ⟨c6, h⟩
          · exact ⟨_, _, fun post q => (by unfold wp_Mo_block_F; exact (pT c0 ((pF c1 ((qa2 _ ((pF c3 (⟨k4, (qa4 _ _ ((qa5 _ ((pT c6 (q))))))⟩))))))))), fun post h => (by unfold wp_Mo_block_F at h; replace h := h.1 c0; replace h := h.2 c1; replace h := qb2 _ h; replace h := h.2 c3; obtain ⟨m4, h⟩ := h; replace h := qb4 m4 _ _ h; replace h := qb5 _ h; replace h := h.1 c6; exact h)⟩
          · obtain ⟨r6, u6, qa7, qb7⟩ := dt_Mo_node0 h
            replace h := qb7 _ h
            exact ⟨_, _, fun post q => (by unfold wp_Mo_block_F; exact (pT c0 ((pF c1 ((qa2 _ ((pF c3 (⟨k4, (qa4 _ _ ((qa5 _ ((pF c6 ((qa7 _ (q))))))))⟩))))))))), fun post h => (by unfold wp_Mo_block_F at h; replace h := h.1 c0; replace h := h.2 c1; replace h := qb2 _ h; replace h := h.2 c3; obtain ⟨m4, h⟩ := h; replace h := qb4 m4 _ _ h; replace h := qb5 _ h; replace h := h.2 c6; replace h := qb7 _ h; exact h)⟩
        · exact ⟨_, _, fun post q => (by unfold wp_Mo_block_F; exact (pT c0 ((pF c1 ((qa2 _ ((pF c3 (⟨k4, (qa4 _ _ (q))⟩))))))))), fun post h => (by unfold wp_Mo_block_F at h; replace h := h.1 c0; replace h := h.2 c1; replace h := qb2 _ h; replace h := h.2 c3; obtain ⟨m4, h⟩ := h; replace h := qb4 m4 _ _ h; exact h)⟩
  · obtain ⟨r1, u1, qa1, qb1⟩ := dt_Mo_bad h
    replace h := qb1 _ h
    exact ⟨_, _, fun post q => (by unfold wp_Mo_block_F; exact (pF c0 ((qa1 _ (q))))), fun post h => (by unfold wp_Mo_block_F at h; replace h := h.2 c0; replace h := qb1 _ h; exact h)⟩
theorem dt_Mo_block (d : Nat) : ∀ (e : Nat), ∀ (v0 : T_Mo) (post : (Int32 → T_Mo → Prop)), wp_Mo_block d e v0 post → (∃ (w0 : Int32) (w1 : T_Mo), (∀ (post : (Int32 → T_Mo → Prop)), post w0 w1 → wp_Mo_block d e v0 post) ∧ (∀ (post : (Int32 → T_Mo → Prop)), wp_Mo_block d e v0 post → post w0 w1)) := by
  intro e
  induction e with
  | zero => intro v0 post h; exact False.elim h
  | succ e ih =>
    intro v0 post h
    exact dt_Mo_block_F ih h
set_option maxHeartbeats 2000000 in
theorem dt_Mo_declaration_J40 {d : Nat} {dB : Nat} {z_this : T_Mo} {x1 : Int32} {x2 : Int32} {x3 : Int32} {post : Int32 → T_Mo → Prop} (h : wp_Mo_declaration_J40 d dB post z_this x1 x2 x3) : (∃ (w0 : Int32) (w1 : T_Mo), (∀ (post : Int32 → T_Mo → Prop), post w0 w1 → wp_Mo_declaration_J40 d dB post z_this x1 x2 x3) ∧ (∀ (post : Int32 → T_Mo → Prop), wp_Mo_declaration_J40 d dB post z_this x1 x2 x3 → post w0 w1)) := by
  unfold wp_Mo_declaration_J40 at h
  exact ⟨_, _, fun post q => (by unfold wp_Mo_declaration_J40; exact q), fun post h => (by unfold wp_Mo_declaration_J40 at h; exact h)⟩
set_option maxHeartbeats 2000000 in
theorem dt_Mo_declaration_J98 {d : Nat} {dB : Nat} {z_this : T_Mo} {x1 : Int32} {x2 : Int32} {x3 : Int32} {x4 : Int32} {y0 : Int32} {post : Int32 → T_Mo → Prop} (h : wp_Mo_declaration_J98 d dB post z_this x1 x2 x3 x4 y0) : (∃ (w0 : Int32) (w1 : T_Mo), (∀ (post : Int32 → T_Mo → Prop), post w0 w1 → wp_Mo_declaration_J98 d dB post z_this x1 x2 x3 x4 y0) ∧ (∀ (post : Int32 → T_Mo → Prop), wp_Mo_declaration_J98 d dB post z_this x1 x2 x3 x4 y0 → post w0 w1)) := by
  unfold wp_Mo_declaration_J98 at h
  obtain ⟨s0, h⟩ := h
  exact ⟨_, _, fun post q => (by unfold wp_Mo_declaration_J98; exact ⟨s0, q⟩), fun post h => (by unfold wp_Mo_declaration_J98 at h; replace h := h.2; exact h)⟩
set_option maxHeartbeats 2000000 in
theorem dt_Mo_declaration_J97 {d : Nat} {dB : Nat} {z_this : T_Mo} {x1 : Int32} {x2 : Int32} {x3 : Int32} {x4 : Int32} {post : Int32 → T_Mo → Prop} (h : wp_Mo_declaration_J97 d dB post z_this x1 x2 x3 x4) : (∃ (w0 : Int32) (w1 : T_Mo), (∀ (post : Int32 → T_Mo → Prop), post w0 w1 → wp_Mo_declaration_J97 d dB post z_this x1 x2 x3 x4) ∧ (∀ (post : Int32 → T_Mo → Prop), wp_Mo_declaration_J97 d dB post z_this x1 x2 x3 x4 → post w0 w1)) := by
  unfold wp_Mo_declaration_J97 at h
  obtain ⟨w0_0, w0_1, qa0, qb0⟩ := dt_Mo_declaration_J98 h
  exact ⟨_, _, fun post q => (by unfold wp_Mo_declaration_J97; exact (qa0 _ (q))), fun post h => (by unfold wp_Mo_declaration_J97 at h; replace h := qb0 _ h; exact h)⟩
set_option maxHeartbeats 2000000 in
theorem dt_Mo_declaration_J84 {d : Nat} {dB : Nat} {z_this : T_Mo} {x1 : Int32} {x2 : Int32} {x3 : Int32} {x4 : Int32} {post : Int32 → T_Mo → Prop} (h : wp_Mo_declaration_J84 d dB post z_this x1 x2 x3 x4) : (∃ (w0 : Int32) (w1 : T_Mo), (∀ (post : Int32 → T_Mo → Prop), post w0 w1 → wp_Mo_declaration_J84 d dB post z_this x1 x2 x3 x4) ∧ (∀ (post : Int32 → T_Mo → Prop), wp_Mo_declaration_J84 d dB post z_this x1 x2 x3 x4 → post w0 w1)) := by
  unfold wp_Mo_declaration_J84 at h
  obtain ⟨r9, u9, qa0, qb0⟩ := dt_Mo_over h
  replace h := qb0 _ h
  rcases br_el h with ⟨c1, h⟩ | ⟨c1, h⟩
  · obtain ⟨w2_0, w2_1, qa2, qb2⟩ := dt_Mo_declaration_J97 h
    exact ⟨_, _, fun post q => (by unfold wp_Mo_declaration_J84; exact (qa0 _ ((pT c1 ((qa2 _ (q))))))), fun post h => (by unfold wp_Mo_declaration_J84 at h; replace h := qb0 _ h; replace h := h.1 c1; replace h := qb2 _ h; exact h)⟩
  · obtain ⟨w2_0, w2_1, qa2, qb2⟩ := dt_Mo_declaration_J98 h
    exact ⟨_, _, fun post q => (by unfold wp_Mo_declaration_J84; exact (qa0 _ ((pF c1 ((qa2 _ (q))))))), fun post h => (by unfold wp_Mo_declaration_J84 at h; replace h := qb0 _ h; replace h := h.2 c1; replace h := qb2 _ h; exact h)⟩
set_option maxHeartbeats 2000000 in
theorem dt_Mo_declaration {d : Nat} {dB : Nat} {z_this : T_Mo} {post : Int32 → T_Mo → Prop} (h : wp_Mo_declaration d dB z_this post) : (∃ (w0 : Int32) (w1 : T_Mo), (∀ (post : Int32 → T_Mo → Prop), post w0 w1 → wp_Mo_declaration d dB z_this post) ∧ (∀ (post : Int32 → T_Mo → Prop), wp_Mo_declaration d dB z_this post → post w0 w1)) := by
  unfold wp_Mo_declaration at h
  obtain ⟨r1, u1, qa0, qb0⟩ := dt_Mo_go h
  replace h := qb0 _ h
  rcases br_el h with ⟨c1, h⟩ | ⟨c1, h⟩
  · exact ⟨_, _, fun post q => (by unfold wp_Mo_declaration; exact (qa0 _ ((pT c1 (q))))), fun post h => (by unfold wp_Mo_declaration at h; replace h := qb0 _ h; replace h := h.1 c1; exact h)⟩
  · obtain ⟨r2, u2, qa2, qb2⟩ := dt_Mo_tell h
    replace h := qb2 _ h
    rcases br_el h with ⟨c3, h⟩ | ⟨c3, h⟩
    · obtain ⟨w4_0, w4_1, qa4, qb4⟩ := dt_Mo_declaration_J40 h
      exact ⟨_, _, fun post q => (by unfold wp_Mo_declaration; exact (qa0 _ ((pF c1 ((qa2 _ ((pT c3 ((qa4 _ (q))))))))))), fun post h => (by unfold wp_Mo_declaration at h; replace h := qb0 _ h; replace h := h.2 c1; replace h := qb2 _ h; replace h := h.1 c3; replace h := qb4 _ h; exact h)⟩
    · obtain ⟨r3, u3, qa4, qb4⟩ := dt_Mo_go h
      replace h := qb4 _ h
      rcases br_el h with ⟨c5, h⟩ | ⟨c5, h⟩
      · obtain ⟨w6_0, w6_1, qa6, qb6⟩ := dt_Mo_declaration_J40 h
        exact ⟨_, _, fun post q => (by unfold wp_Mo_declaration; exact (qa0 _ ((pF c1 ((qa2 _ ((pF c3 ((qa4 _ ((pT c5 ((qa6 _ (q))))))))))))))), fun post h => (by unfold wp_Mo_declaration at h; replace h := qb0 _ h; replace h := h.2 c1; replace h := qb2 _ h; replace h := h.2 c3; replace h := qb4 _ h; replace h := h.1 c5; replace h := qb6 _ h; exact h)⟩
      · rcases br_el h with ⟨c6, h⟩ | ⟨c6, h⟩
        · obtain ⟨r4, u4, qa7, qb7⟩ := dt_Mo_block d dB _ _ h
          replace h := qb7 _ h
          obtain ⟨r5, u5, qa8, qb8⟩ := dt_Mo_pushed h
          replace h := qb8 _ h
          rcases br_el h with ⟨c9, h⟩ | ⟨c9, h⟩
          · exact ⟨_, _, fun post q => (by unfold wp_Mo_declaration; exact (qa0 _ ((pF c1 ((qa2 _ ((pF c3 ((qa4 _ ((pF c5 ((pT c6 ((qa7 _ ((qa8 _ ((pT c9 (q))))))))))))))))))))), fun post h => (by unfold wp_Mo_declaration at h; replace h := qb0 _ h; replace h := h.2 c1; replace h := qb2 _ h; replace h := h.2 c3; replace h := qb4 _ h; replace h := h.2 c5; replace h := h.1 c6; replace h := qb7 _ h; replace h := qb8 _ h; replace h := h.1 c9; exact h)⟩
          · obtain ⟨r6, u6, qa10, qb10⟩ := dt_Mo_node0 h
            replace h := qb10 _ h
            rcases br_el h with ⟨c11, h⟩ | ⟨c11, h⟩
            · obtain ⟨s12, h⟩ := h
              obtain ⟨r7, u7, qa13, qb13⟩ := dt_Mo_base h
              replace h := qb13 _ h
              obtain ⟨s14, h⟩ := h
              exact ⟨_, _, fun post q => (by unfold wp_Mo_declaration; exact (qa0 _ ((pF c1 ((qa2 _ ((pF c3 ((qa4 _ ((pF c5 ((pT c6 ((qa7 _ ((qa8 _ ((pF c9 ((qa10 _ ((pT c11 (⟨s12, (qa13 _ (⟨s14, q⟩))⟩))))))))))))))))))))))))), fun post h => (by unfold wp_Mo_declaration at h; replace h := qb0 _ h; replace h := h.2 c1; replace h := qb2 _ h; replace h := h.2 c3; replace h := qb4 _ h; replace h := h.2 c5; replace h := h.1 c6; replace h := qb7 _ h; replace h := qb8 _ h; replace h := h.2 c9; replace h := qb10 _ h; replace h := h.1 c11; replace h := h.2; replace h := qb13 _ h; replace h := h.2; exact h)⟩
            · exact ⟨_, _, fun post q => (by unfold wp_Mo_declaration; exact (qa0 _ ((pF c1 ((qa2 _ ((pF c3 ((qa4 _ ((pF c5 ((pT c6 ((qa7 _ ((qa8 _ ((pF c9 ((qa10 _ ((pF c11 (q))))))))))))))))))))))))), fun post h => (by unfold wp_Mo_declaration at h; replace h := qb0 _ h; replace h := h.2 c1; replace h := qb2 _ h; replace h := h.2 c3; replace h := qb4 _ h; replace h := h.2 c5; replace h := h.1 c6; replace h := qb7 _ h; replace h := qb8 _ h; replace h := h.2 c9; replace h := qb10 _ h; replace h := h.2 c11; exact h)⟩
        · obtain ⟨r8, u8, qa7, qb7⟩ := dt_Mo_unitWord0 h
          replace h := qb7 _ h
          obtain ⟨s8, h⟩ := h
          rcases br_el h with ⟨c9, h⟩ | ⟨c9, h⟩
          · obtain ⟨w10_0, w10_1, qa10, qb10⟩ := dt_Mo_declaration_J84 h
            exact ⟨_, _, fun post q => (by unfold wp_Mo_declaration; exact (qa0 _ ((pF c1 ((qa2 _ ((pF c3 ((qa4 _ ((pF c5 ((pF c6 ((qa7 _ (⟨s8, (pT c9 ((qa10 _ (q))))⟩))))))))))))))))), fun post h => (by unfold wp_Mo_declaration at h; replace h := qb0 _ h; replace h := h.2 c1; replace h := qb2 _ h; replace h := h.2 c3; replace h := qb4 _ h; replace h := h.2 c5; replace h := h.2 c6; replace h := qb7 _ h; replace h := h.2; replace h := h.1 c9; replace h := qb10 _ h; exact h)⟩
          · obtain ⟨r10, u10, qa10, qb10⟩ := dt_Mo_go h
            replace h := qb10 _ h
            rcases br_el h with ⟨c11, h⟩ | ⟨c11, h⟩
            · obtain ⟨w12_0, w12_1, qa12, qb12⟩ := dt_Mo_declaration_J97 h
              exact ⟨_, _, fun post q => (by unfold wp_Mo_declaration; exact (qa0 _ ((pF c1 ((qa2 _ ((pF c3 ((qa4 _ ((pF c5 ((pF c6 ((qa7 _ (⟨s8, (pF c9 ((qa10 _ ((pT c11 ((qa12 _ (q))))))))⟩))))))))))))))))), fun post h => (by unfold wp_Mo_declaration at h; replace h := qb0 _ h; replace h := h.2 c1; replace h := qb2 _ h; replace h := h.2 c3; replace h := qb4 _ h; replace h := h.2 c5; replace h := h.2 c6; replace h := qb7 _ h; replace h := h.2; replace h := h.2 c9; replace h := qb10 _ h; replace h := h.1 c11; replace h := qb12 _ h; exact h)⟩
            · obtain ⟨w12_0, w12_1, qa12, qb12⟩ := dt_Mo_declaration_J84 h
              exact ⟨_, _, fun post q => (by unfold wp_Mo_declaration; exact (qa0 _ ((pF c1 ((qa2 _ ((pF c3 ((qa4 _ ((pF c5 ((pF c6 ((qa7 _ (⟨s8, (pF c9 ((qa10 _ ((pF c11 ((qa12 _ (q))))))))⟩))))))))))))))))), fun post h => (by unfold wp_Mo_declaration at h; replace h := qb0 _ h; replace h := h.2 c1; replace h := qb2 _ h; replace h := h.2 c3; replace h := qb4 _ h; replace h := h.2 c5; replace h := h.2 c6; replace h := qb7 _ h; replace h := h.2; replace h := h.2 c9; replace h := qb10 _ h; replace h := h.2 c11; replace h := qb12 _ h; exact h)⟩
set_option maxHeartbeats 2000000 in
theorem dt_Mo_program_L5 {d : Nat} {dB : Nat} : ∀ (n9 : Nat) (z_this : T_Mo) (x1 : Int32) (K : T_Mo → Int32 → Prop) (post : Int32 → T_Mo → Prop), wp_Mo_program_L5 d dB K post n9 z_this x1 → (∃ (w0 : T_Mo) (w1 : Int32), (∀ (K : T_Mo → Int32 → Prop) (post : Int32 → T_Mo → Prop), K w0 w1 → wp_Mo_program_L5 d dB K post n9 z_this x1) ∧ (∀ (m9 : Nat) (K : T_Mo → Int32 → Prop) (post : Int32 → T_Mo → Prop), wp_Mo_program_L5 d dB K post m9 z_this x1 → K w0 w1)) ∨ (∃ (w0 : Int32) (w1 : T_Mo), (∀ (K : T_Mo → Int32 → Prop) (post : Int32 → T_Mo → Prop), post w0 w1 → wp_Mo_program_L5 d dB K post n9 z_this x1) ∧ (∀ (m9 : Nat) (K : T_Mo → Int32 → Prop) (post : Int32 → T_Mo → Prop), wp_Mo_program_L5 d dB K post m9 z_this x1 → post w0 w1)) := by
  intro n9
  induction n9 with
  | zero => intro z_this x1 K post h; exact False.elim h
  | succ n9 ih =>
    intro z_this x1 K post h
    rw [wp_Mo_program_L5] at h
    rcases br_el h with ⟨c0, h⟩ | ⟨c0, h⟩
    · exact Or.inl ⟨_, _, fun K post q => (by rw [wp_Mo_program_L5]; exact (pT c0 (q))), fun m9 K post h => (by cases m9 with | zero => exact False.elim h | succ m9 => (rw [wp_Mo_program_L5] at h; replace h := h.1 c0; exact h))⟩
    · obtain ⟨r2, u2, qa1, qb1⟩ := dt_Mo_isWord h
      replace h := qb1 _ h
      rcases br_el h with ⟨c2, h⟩ | ⟨c2, h⟩
      · obtain ⟨r4, u4, qa3, qb3⟩ := dt_Mo_isWord h
        replace h := qb3 _ h
        rcases br_el h with ⟨c4, h⟩ | ⟨c4, h⟩
        · obtain ⟨r6, u6, qa5, qb5⟩ := dt_Mo_isWord h
          replace h := qb5 _ h
          rcases br_el h with ⟨c6, h⟩ | ⟨c6, h⟩
          · exact Or.inl ⟨_, _, fun K post q => (by rw [wp_Mo_program_L5]; exact (pF c0 ((qa1 _ ((pT c2 ((qa3 _ ((pT c4 ((qa5 _ ((pT c6 (q))))))))))))))), fun m9 K post h => (by cases m9 with | zero => exact False.elim h | succ m9 => (rw [wp_Mo_program_L5] at h; replace h := h.2 c0; replace h := qb1 _ h; replace h := h.1 c2; replace h := qb3 _ h; replace h := h.1 c4; replace h := qb5 _ h; replace h := h.1 c6; exact h))⟩
          · obtain ⟨r7, u7, qa7, qb7⟩ := dt_Mo_declaration h
            replace h := qb7 _ h
            rcases ih _ _ _ _ h with ⟨w8_0, w8_1, qa8, qb8⟩ | ⟨w8_0, w8_1, qa8, qb8⟩
            · exact Or.inl ⟨_, _, fun K post q => (by rw [wp_Mo_program_L5]; exact (pF c0 ((qa1 _ ((pT c2 ((qa3 _ ((pT c4 ((qa5 _ ((pF c6 ((qa7 _ ((qa8 _ _ (q))))))))))))))))))), fun m9 K post h => (by cases m9 with | zero => exact False.elim h | succ m9 => (rw [wp_Mo_program_L5] at h; replace h := h.2 c0; replace h := qb1 _ h; replace h := h.1 c2; replace h := qb3 _ h; replace h := h.1 c4; replace h := qb5 _ h; replace h := h.2 c6; replace h := qb7 _ h; replace h := qb8 m9 _ _ h; exact h))⟩
            · exact Or.inr (⟨_, _, fun K post q => (by rw [wp_Mo_program_L5]; exact (pF c0 ((qa1 _ ((pT c2 ((qa3 _ ((pT c4 ((qa5 _ ((pF c6 ((qa7 _ ((qa8 _ _ (q))))))))))))))))))), fun m9 K post h => (by cases m9 with | zero => exact False.elim h | succ m9 => (rw [wp_Mo_program_L5] at h; replace h := h.2 c0; replace h := qb1 _ h; replace h := h.1 c2; replace h := qb3 _ h; replace h := h.1 c4; replace h := qb5 _ h; replace h := h.2 c6; replace h := qb7 _ h; replace h := qb8 m9 _ _ h; exact h))⟩)
        · obtain ⟨r5, u5, qa5, qb5⟩ := dt_Mo_declaration h
          replace h := qb5 _ h
          rcases ih _ _ _ _ h with ⟨w6_0, w6_1, qa6, qb6⟩ | ⟨w6_0, w6_1, qa6, qb6⟩
          · exact Or.inl ⟨_, _, fun K post q => (by rw [wp_Mo_program_L5]; exact (pF c0 ((qa1 _ ((pT c2 ((qa3 _ ((pF c4 ((qa5 _ ((qa6 _ _ (q))))))))))))))), fun m9 K post h => (by cases m9 with | zero => exact False.elim h | succ m9 => (rw [wp_Mo_program_L5] at h; replace h := h.2 c0; replace h := qb1 _ h; replace h := h.1 c2; replace h := qb3 _ h; replace h := h.2 c4; replace h := qb5 _ h; replace h := qb6 m9 _ _ h; exact h))⟩
          · exact Or.inr (⟨_, _, fun K post q => (by rw [wp_Mo_program_L5]; exact (pF c0 ((qa1 _ ((pT c2 ((qa3 _ ((pF c4 ((qa5 _ ((qa6 _ _ (q))))))))))))))), fun m9 K post h => (by cases m9 with | zero => exact False.elim h | succ m9 => (rw [wp_Mo_program_L5] at h; replace h := h.2 c0; replace h := qb1 _ h; replace h := h.1 c2; replace h := qb3 _ h; replace h := h.2 c4; replace h := qb5 _ h; replace h := qb6 m9 _ _ h; exact h))⟩)
      · obtain ⟨r3, u3, qa3, qb3⟩ := dt_Mo_declaration h
        replace h := qb3 _ h
        rcases ih _ _ _ _ h with ⟨w4_0, w4_1, qa4, qb4⟩ | ⟨w4_0, w4_1, qa4, qb4⟩
        · exact Or.inl ⟨_, _, fun K post q => (by rw [wp_Mo_program_L5]; exact (pF c0 ((qa1 _ ((pF c2 ((qa3 _ ((qa4 _ _ (q))))))))))), fun m9 K post h => (by cases m9 with | zero => exact False.elim h | succ m9 => (rw [wp_Mo_program_L5] at h; replace h := h.2 c0; replace h := qb1 _ h; replace h := h.2 c2; replace h := qb3 _ h; replace h := qb4 m9 _ _ h; exact h))⟩
        · exact Or.inr (⟨_, _, fun K post q => (by rw [wp_Mo_program_L5]; exact (pF c0 ((qa1 _ ((pF c2 ((qa3 _ ((qa4 _ _ (q))))))))))), fun m9 K post h => (by cases m9 with | zero => exact False.elim h | succ m9 => (rw [wp_Mo_program_L5] at h; replace h := h.2 c0; replace h := qb1 _ h; replace h := h.2 c2; replace h := qb3 _ h; replace h := qb4 m9 _ _ h; exact h))⟩)
set_option maxHeartbeats 2000000 in
theorem dt_Mo_program_L44 {d : Nat} {dB : Nat} : ∀ (n9 : Nat) (z_this : T_Mo) (x1 : Int32) (K : T_Mo → Int32 → Prop) (post : Int32 → T_Mo → Prop), wp_Mo_program_L44 d dB K post n9 z_this x1 → (∃ (w0 : T_Mo) (w1 : Int32), (∀ (K : T_Mo → Int32 → Prop) (post : Int32 → T_Mo → Prop), K w0 w1 → wp_Mo_program_L44 d dB K post n9 z_this x1) ∧ (∀ (m9 : Nat) (K : T_Mo → Int32 → Prop) (post : Int32 → T_Mo → Prop), wp_Mo_program_L44 d dB K post m9 z_this x1 → K w0 w1)) ∨ (∃ (w0 : Int32) (w1 : T_Mo), (∀ (K : T_Mo → Int32 → Prop) (post : Int32 → T_Mo → Prop), post w0 w1 → wp_Mo_program_L44 d dB K post n9 z_this x1) ∧ (∀ (m9 : Nat) (K : T_Mo → Int32 → Prop) (post : Int32 → T_Mo → Prop), wp_Mo_program_L44 d dB K post m9 z_this x1 → post w0 w1)) := by
  intro n9
  induction n9 with
  | zero => intro z_this x1 K post h; exact False.elim h
  | succ n9 ih =>
    intro z_this x1 K post h
    rw [wp_Mo_program_L44] at h
    rcases br_el h with ⟨c0, h⟩ | ⟨c0, h⟩
    · exact Or.inl ⟨_, _, fun K post q => (by rw [wp_Mo_program_L44]; exact (pT c0 (q))), fun m9 K post h => (by cases m9 with | zero => exact False.elim h | succ m9 => (rw [wp_Mo_program_L44] at h; replace h := h.1 c0; exact h))⟩
    · rcases br_el h with ⟨c1, h⟩ | ⟨c1, h⟩
      · exact Or.inl ⟨_, _, fun K post q => (by rw [wp_Mo_program_L44]; exact (pF c0 ((pT c1 (q))))), fun m9 K post h => (by cases m9 with | zero => exact False.elim h | succ m9 => (rw [wp_Mo_program_L44] at h; replace h := h.2 c0; replace h := h.1 c1; exact h))⟩
      · obtain ⟨r8, u8, qa2, qb2⟩ := dt_Mo_statement (dt_Mo_block d dB) h
        replace h := qb2 _ h
        rcases br_el h with ⟨c3, h⟩ | ⟨c3, h⟩
        · rcases br_el h with ⟨c4, h⟩ | ⟨c4, h⟩
          · rcases ih _ _ _ _ h with ⟨w5_0, w5_1, qa5, qb5⟩ | ⟨w5_0, w5_1, qa5, qb5⟩
            · exact Or.inl ⟨_, _, fun K post q => (by rw [wp_Mo_program_L44]; exact (pF c0 ((pF c1 ((qa2 _ ((pT c3 ((pT c4 ((qa5 _ _ (q))))))))))))), fun m9 K post h => (by cases m9 with | zero => exact False.elim h | succ m9 => (rw [wp_Mo_program_L44] at h; replace h := h.2 c0; replace h := h.2 c1; replace h := qb2 _ h; replace h := h.1 c3; replace h := h.1 c4; replace h := qb5 m9 _ _ h; exact h))⟩
            · exact Or.inr (⟨_, _, fun K post q => (by rw [wp_Mo_program_L44]; exact (pF c0 ((pF c1 ((qa2 _ ((pT c3 ((pT c4 ((qa5 _ _ (q))))))))))))), fun m9 K post h => (by cases m9 with | zero => exact False.elim h | succ m9 => (rw [wp_Mo_program_L44] at h; replace h := h.2 c0; replace h := h.2 c1; replace h := qb2 _ h; replace h := h.1 c3; replace h := h.1 c4; replace h := qb5 m9 _ _ h; exact h))⟩)
          · exact absurd (by decide) c4
        · rcases br_el h with ⟨c4, h⟩ | ⟨c4, h⟩
          · exact absurd c4 (by decide)
          · obtain ⟨r10, u10, qa5, qb5⟩ := dt_Mo_base h
            replace h := qb5 _ h
            obtain ⟨s6, h⟩ := h
            rcases ih _ _ _ _ h with ⟨w7_0, w7_1, qa7, qb7⟩ | ⟨w7_0, w7_1, qa7, qb7⟩
            · exact Or.inl ⟨_, _, fun K post q => (by rw [wp_Mo_program_L44]; exact (pF c0 ((pF c1 ((qa2 _ ((pF c3 ((pF c4 ((qa5 _ (⟨s6, (qa7 _ _ (q))⟩))))))))))))), fun m9 K post h => (by cases m9 with | zero => exact False.elim h | succ m9 => (rw [wp_Mo_program_L44] at h; replace h := h.2 c0; replace h := h.2 c1; replace h := qb2 _ h; replace h := h.2 c3; replace h := h.2 c4; replace h := qb5 _ h; replace h := h.2; replace h := qb7 m9 _ _ h; exact h))⟩
            · exact Or.inr (⟨_, _, fun K post q => (by rw [wp_Mo_program_L44]; exact (pF c0 ((pF c1 ((qa2 _ ((pF c3 ((pF c4 ((qa5 _ (⟨s6, (qa7 _ _ (q))⟩))))))))))))), fun m9 K post h => (by cases m9 with | zero => exact False.elim h | succ m9 => (rw [wp_Mo_program_L44] at h; replace h := h.2 c0; replace h := h.2 c1; replace h := qb2 _ h; replace h := h.2 c3; replace h := h.2 c4; replace h := qb5 _ h; replace h := h.2; replace h := qb7 m9 _ _ h; exact h))⟩)
set_option maxHeartbeats 2000000 in
theorem dt_Mo_program {d : Nat} {dB : Nat} {z_this : T_Mo} {post : Int32 → T_Mo → Prop} (h : wp_Mo_program d dB z_this post) : (∃ (w0 : Int32) (w1 : T_Mo), (∀ (post : Int32 → T_Mo → Prop), post w0 w1 → wp_Mo_program d dB z_this post) ∧ (∀ (post : Int32 → T_Mo → Prop), wp_Mo_program d dB z_this post → post w0 w1)) := by
  unfold wp_Mo_program at h
  obtain ⟨r1, u1, qa0, qb0⟩ := dt_Mo_go h
  replace h := qb0 _ h
  obtain ⟨k1, h⟩ := h
  rcases dt_Mo_program_L5 k1 _ _ _ _ h with ⟨z_this, x1, qa1, qb1⟩ | ⟨w1_0, w1_1, qa1, qb1⟩
  · replace h := qb1 k1 _ _ h
    obtain ⟨k2, h⟩ := h
    rcases dt_Mo_program_L44 k2 _ _ _ _ h with ⟨z_this, x1, qa2, qb2⟩ | ⟨w2_0, w2_1, qa2, qb2⟩
    · replace h := qb2 k2 _ _ h
      obtain ⟨s3, h⟩ := h
      exact ⟨_, _, fun post q => (by unfold wp_Mo_program; exact (qa0 _ (⟨k1, (qa1 _ _ (⟨k2, (qa2 _ _ (⟨s3, q⟩))⟩))⟩))), fun post h => (by unfold wp_Mo_program at h; replace h := qb0 _ h; obtain ⟨m1, h⟩ := h; replace h := qb1 m1 _ _ h; obtain ⟨m2, h⟩ := h; replace h := qb2 m2 _ _ h; replace h := h.2; exact h)⟩
    · exact ⟨_, _, fun post q => (by unfold wp_Mo_program; exact (qa0 _ (⟨k1, (qa1 _ _ (⟨k2, (qa2 _ _ (q))⟩))⟩))), fun post h => (by unfold wp_Mo_program at h; replace h := qb0 _ h; obtain ⟨m1, h⟩ := h; replace h := qb1 m1 _ _ h; obtain ⟨m2, h⟩ := h; replace h := qb2 m2 _ _ h; exact h)⟩
  · exact ⟨_, _, fun post q => (by unfold wp_Mo_program; exact (qa0 _ (⟨k1, (qa1 _ _ (q))⟩))), fun post h => (by unfold wp_Mo_program at h; replace h := qb0 _ h; obtain ⟨m1, h⟩ := h; replace h := qb1 m1 _ _ h; exact h)⟩
set_option maxHeartbeats 2000000 in
theorem dt_Mo_read {d : Nat} {dB : Nat} {z_this : T_Mo} {post : Int32 → T_Mo → Prop} (h : wp_Mo_read d dB z_this post) : (∃ (w0 : Int32) (w1 : T_Mo), (∀ (post : Int32 → T_Mo → Prop), post w0 w1 → wp_Mo_read d dB z_this post) ∧ (∀ (post : Int32 → T_Mo → Prop), wp_Mo_read d dB z_this post → post w0 w1)) := by
  unfold wp_Mo_read at h
  obtain ⟨r1, u1, qa0, qb0⟩ := dt_Mo_program h
  replace h := qb0 _ h
  rcases br_el h with ⟨c1, h⟩ | ⟨c1, h⟩
  · exact ⟨_, _, fun post q => (by unfold wp_Mo_read; exact (qa0 _ ((pT c1 (q))))), fun post h => (by unfold wp_Mo_read at h; replace h := qb0 _ h; replace h := h.1 c1; exact h)⟩
  · exact ⟨_, _, fun post q => (by unfold wp_Mo_read; exact (qa0 _ ((pF c1 (q))))), fun post h => (by unfold wp_Mo_read at h; replace h := qb0 _ h; replace h := h.2 c1; exact h)⟩
set_option maxHeartbeats 2000000 in
theorem dt_Mo_reach_L63 {rf : T_Mo → Int32 → (Unit → T_Mo → Prop) → Prop} (hrf : ∀ (v0 : T_Mo) (v1 : Int32) (post : (Unit → T_Mo → Prop)), rf v0 v1 post → (∃ (w0 : Unit) (w1 : T_Mo), (∀ (post : (Unit → T_Mo → Prop)), post w0 w1 → rf v0 v1 post) ∧ (∀ (post : (Unit → T_Mo → Prop)), rf v0 v1 post → post w0 w1))) : ∀ (n9 : Nat) (z_this : T_Mo) (x1 : Int32) (x2 : Int32) (K : T_Mo → Int32 → Int32 → Prop) (post : Unit → T_Mo → Prop), wp_Mo_reach_L63 rf K post n9 z_this x1 x2 → (∃ (w0 : T_Mo) (w1 : Int32) (w2 : Int32), (∀ (K : T_Mo → Int32 → Int32 → Prop) (post : Unit → T_Mo → Prop), K w0 w1 w2 → wp_Mo_reach_L63 rf K post n9 z_this x1 x2) ∧ (∀ (m9 : Nat) (K : T_Mo → Int32 → Int32 → Prop) (post : Unit → T_Mo → Prop), wp_Mo_reach_L63 rf K post m9 z_this x1 x2 → K w0 w1 w2)) ∨ (∃ (w0 : Unit) (w1 : T_Mo), (∀ (K : T_Mo → Int32 → Int32 → Prop) (post : Unit → T_Mo → Prop), post w0 w1 → wp_Mo_reach_L63 rf K post n9 z_this x1 x2) ∧ (∀ (m9 : Nat) (K : T_Mo → Int32 → Int32 → Prop) (post : Unit → T_Mo → Prop), wp_Mo_reach_L63 rf K post m9 z_this x1 x2 → post w0 w1)) := by
  intro n9
  induction n9 with
  | zero => intro z_this x1 x2 K post h; exact False.elim h
  | succ n9 ih =>
    intro z_this x1 x2 K post h
    rw [wp_Mo_reach_L63] at h
    obtain ⟨r2, u2, qa0, qb0⟩ := dt_Mo_node1 h
    replace h := qb0 _ h
    obtain ⟨s1, h⟩ := h
    rcases br_el h with ⟨c2, h⟩ | ⟨c2, h⟩
    · exact Or.inl ⟨_, _, _, fun K post q => (by rw [wp_Mo_reach_L63]; exact (qa0 _ (⟨s1, (pT c2 (q))⟩))), fun m9 K post h => (by cases m9 with | zero => exact False.elim h | succ m9 => (rw [wp_Mo_reach_L63] at h; replace h := qb0 _ h; replace h := h.2; replace h := h.1 c2; exact h))⟩
    · obtain ⟨r3, u3, qa3, qb3⟩ := dt_Mo_kid h
      replace h := qb3 _ h
      obtain ⟨r4, u4, qa4, qb4⟩ := hrf _ _ _ h
      replace h := qb4 _ h
      rcases ih _ _ _ _ _ h with ⟨w5_0, w5_1, w5_2, qa5, qb5⟩ | ⟨w5_0, w5_1, qa5, qb5⟩
      · exact Or.inl ⟨_, _, _, fun K post q => (by rw [wp_Mo_reach_L63]; exact (qa0 _ (⟨s1, (pF c2 ((qa3 _ ((qa4 _ ((qa5 _ _ (q))))))))⟩))), fun m9 K post h => (by cases m9 with | zero => exact False.elim h | succ m9 => (rw [wp_Mo_reach_L63] at h; replace h := qb0 _ h; replace h := h.2; replace h := h.2 c2; replace h := qb3 _ h; replace h := qb4 _ h; replace h := qb5 m9 _ _ h; exact h))⟩
      · exact Or.inr (⟨_, _, fun K post q => (by rw [wp_Mo_reach_L63]; exact (qa0 _ (⟨s1, (pF c2 ((qa3 _ ((qa4 _ ((qa5 _ _ (q))))))))⟩))), fun m9 K post h => (by cases m9 with | zero => exact False.elim h | succ m9 => (rw [wp_Mo_reach_L63] at h; replace h := qb0 _ h; replace h := h.2; replace h := h.2 c2; replace h := qb3 _ h; replace h := qb4 _ h; replace h := qb5 m9 _ _ h; exact h))⟩)
set_option maxHeartbeats 2000000 in
theorem dt_Mo_reach_F {rf : T_Mo → Int32 → (Unit → T_Mo → Prop) → Prop} {z_this : T_Mo} {a1 : Int32} (hrf : ∀ (v0 : T_Mo) (v1 : Int32) (post : (Unit → T_Mo → Prop)), rf v0 v1 post → (∃ (w0 : Unit) (w1 : T_Mo), (∀ (post : (Unit → T_Mo → Prop)), post w0 w1 → rf v0 v1 post) ∧ (∀ (post : (Unit → T_Mo → Prop)), rf v0 v1 post → post w0 w1))) {post : Unit → T_Mo → Prop} (h : wp_Mo_reach_F rf z_this a1 post) : (∃ (w0 : Unit) (w1 : T_Mo), (∀ (post : Unit → T_Mo → Prop), post w0 w1 → wp_Mo_reach_F rf z_this a1 post) ∧ (∀ (post : Unit → T_Mo → Prop), wp_Mo_reach_F rf z_this a1 post → post w0 w1)) := by
  unfold wp_Mo_reach_F at h
  obtain ⟨r1, u1, qa0, qb0⟩ := dt_Mo_node1 h
  replace h := qb0 _ h
  obtain ⟨s1, h⟩ := h
  rcases br_el h with ⟨c2, h⟩ | ⟨c2, h⟩
  · obtain ⟨r5, u5, qa3, qb3⟩ := dt_Mo_node1 h
    replace h := qb3 _ h
    obtain ⟨s4, h⟩ := h
    obtain ⟨s5, h⟩ := h
    rcases br_el h with ⟨c6, h⟩ | ⟨c6, h⟩
    · obtain ⟨s7, h⟩ := h
      obtain ⟨s8, h⟩ := h
      obtain ⟨r6, u6, qa9, qb9⟩ := hrf _ _ _ h
      replace h := qb9 _ h
      obtain ⟨k10, h⟩ := h
      rcases dt_Mo_reach_L63 hrf k10 _ _ _ _ _ h with ⟨z_this, x1, x2, qa10, qb10⟩ | ⟨w10_0, w10_1, qa10, qb10⟩
      · replace h := qb10 k10 _ _ h
        exact ⟨_, _, fun post q => (by unfold wp_Mo_reach_F; exact (qa0 _ (⟨s1, (pT c2 ((qa3 _ (⟨s4, ⟨s5, (pT c6 (⟨s7, ⟨s8, (qa9 _ (⟨k10, (qa10 _ _ (q))⟩))⟩⟩))⟩⟩))))⟩))), fun post h => (by unfold wp_Mo_reach_F at h; replace h := qb0 _ h; replace h := h.2; replace h := h.1 c2; replace h := qb3 _ h; replace h := h.2; replace h := h.2; replace h := h.1 c6; replace h := h.2; replace h := h.2; replace h := qb9 _ h; obtain ⟨m10, h⟩ := h; replace h := qb10 m10 _ _ h; exact h)⟩
      · exact ⟨_, _, fun post q => (by unfold wp_Mo_reach_F; exact (qa0 _ (⟨s1, (pT c2 ((qa3 _ (⟨s4, ⟨s5, (pT c6 (⟨s7, ⟨s8, (qa9 _ (⟨k10, (qa10 _ _ (q))⟩))⟩⟩))⟩⟩))))⟩))), fun post h => (by unfold wp_Mo_reach_F at h; replace h := qb0 _ h; replace h := h.2; replace h := h.1 c2; replace h := qb3 _ h; replace h := h.2; replace h := h.2; replace h := h.1 c6; replace h := h.2; replace h := h.2; replace h := qb9 _ h; obtain ⟨m10, h⟩ := h; replace h := qb10 m10 _ _ h; exact h)⟩
    · obtain ⟨k7, h⟩ := h
      rcases dt_Mo_reach_L63 hrf k7 _ _ _ _ _ h with ⟨z_this, x1, x2, qa7, qb7⟩ | ⟨w7_0, w7_1, qa7, qb7⟩
      · replace h := qb7 k7 _ _ h
        exact ⟨_, _, fun post q => (by unfold wp_Mo_reach_F; exact (qa0 _ (⟨s1, (pT c2 ((qa3 _ (⟨s4, ⟨s5, (pF c6 (⟨k7, (qa7 _ _ (q))⟩))⟩⟩))))⟩))), fun post h => (by unfold wp_Mo_reach_F at h; replace h := qb0 _ h; replace h := h.2; replace h := h.1 c2; replace h := qb3 _ h; replace h := h.2; replace h := h.2; replace h := h.2 c6; obtain ⟨m7, h⟩ := h; replace h := qb7 m7 _ _ h; exact h)⟩
      · exact ⟨_, _, fun post q => (by unfold wp_Mo_reach_F; exact (qa0 _ (⟨s1, (pT c2 ((qa3 _ (⟨s4, ⟨s5, (pF c6 (⟨k7, (qa7 _ _ (q))⟩))⟩⟩))))⟩))), fun post h => (by unfold wp_Mo_reach_F at h; replace h := qb0 _ h; replace h := h.2; replace h := h.1 c2; replace h := qb3 _ h; replace h := h.2; replace h := h.2; replace h := h.2 c6; obtain ⟨m7, h⟩ := h; replace h := qb7 m7 _ _ h; exact h)⟩
  · obtain ⟨k3, h⟩ := h
    rcases dt_Mo_reach_L63 hrf k3 _ _ _ _ _ h with ⟨z_this, x1, x2, qa3, qb3⟩ | ⟨w3_0, w3_1, qa3, qb3⟩
    · replace h := qb3 k3 _ _ h
      exact ⟨_, _, fun post q => (by unfold wp_Mo_reach_F; exact (qa0 _ (⟨s1, (pF c2 (⟨k3, (qa3 _ _ (q))⟩))⟩))), fun post h => (by unfold wp_Mo_reach_F at h; replace h := qb0 _ h; replace h := h.2; replace h := h.2 c2; obtain ⟨m3, h⟩ := h; replace h := qb3 m3 _ _ h; exact h)⟩
    · exact ⟨_, _, fun post q => (by unfold wp_Mo_reach_F; exact (qa0 _ (⟨s1, (pF c2 (⟨k3, (qa3 _ _ (q))⟩))⟩))), fun post h => (by unfold wp_Mo_reach_F at h; replace h := qb0 _ h; replace h := h.2; replace h := h.2 c2; obtain ⟨m3, h⟩ := h; replace h := qb3 m3 _ _ h; exact h)⟩
theorem dt_Mo_reach : ∀ (d : Nat), ∀ (v0 : T_Mo) (v1 : Int32) (post : (Unit → T_Mo → Prop)), wp_Mo_reach d v0 v1 post → (∃ (w0 : Unit) (w1 : T_Mo), (∀ (post : (Unit → T_Mo → Prop)), post w0 w1 → wp_Mo_reach d v0 v1 post) ∧ (∀ (post : (Unit → T_Mo → Prop)), wp_Mo_reach d v0 v1 post → post w0 w1)) := by
  intro d
  induction d with
  | zero => intro v0 v1 post h; exact False.elim h
  | succ d ih =>
    intro v0 v1 post h
    exact dt_Mo_reach_F ih h
set_option maxHeartbeats 2000000 in
theorem dt_Mo_sumOut_J273 {rf : T_Mo → Int32 → Int32 → Int32 → (Unit → T_Mo → Prop) → Prop} {z_this : T_Mo} {x1 : Int32} {x2 : Int32} {x3 : Int32} {x4 : Int32} {x5 : Int32} (hrf : ∀ (v0 : T_Mo) (v1 : Int32) (v2 : Int32) (v3 : Int32) (post : (Unit → T_Mo → Prop)), rf v0 v1 v2 v3 post → (∃ (w0 : Unit) (w1 : T_Mo), (∀ (post : (Unit → T_Mo → Prop)), post w0 w1 → rf v0 v1 v2 v3 post) ∧ (∀ (post : (Unit → T_Mo → Prop)), rf v0 v1 v2 v3 post → post w0 w1))) {post : Unit → T_Mo → Prop} (h : wp_Mo_sumOut_J273 rf post z_this x1 x2 x3 x4 x5) : (∃ (w0 : Unit) (w1 : T_Mo), (∀ (post : Unit → T_Mo → Prop), post w0 w1 → wp_Mo_sumOut_J273 rf post z_this x1 x2 x3 x4 x5) ∧ (∀ (post : Unit → T_Mo → Prop), wp_Mo_sumOut_J273 rf post z_this x1 x2 x3 x4 x5 → post w0 w1)) := by
  unfold wp_Mo_sumOut_J273 at h
  exact ⟨_, _, fun post q => (by unfold wp_Mo_sumOut_J273; exact q), fun post h => (by unfold wp_Mo_sumOut_J273 at h; exact h)⟩
set_option maxHeartbeats 2000000 in
theorem dt_Mo_sumOut_J261 {rf : T_Mo → Int32 → Int32 → Int32 → (Unit → T_Mo → Prop) → Prop} {z_this : T_Mo} {x1 : Int32} {x2 : Int32} {x3 : Int32} {x4 : Int32} {x5 : Int32} (hrf : ∀ (v0 : T_Mo) (v1 : Int32) (v2 : Int32) (v3 : Int32) (post : (Unit → T_Mo → Prop)), rf v0 v1 v2 v3 post → (∃ (w0 : Unit) (w1 : T_Mo), (∀ (post : (Unit → T_Mo → Prop)), post w0 w1 → rf v0 v1 v2 v3 post) ∧ (∀ (post : (Unit → T_Mo → Prop)), rf v0 v1 v2 v3 post → post w0 w1))) {post : Unit → T_Mo → Prop} (h : wp_Mo_sumOut_J261 rf post z_this x1 x2 x3 x4 x5) : (∃ (w0 : Unit) (w1 : T_Mo), (∀ (post : Unit → T_Mo → Prop), post w0 w1 → wp_Mo_sumOut_J261 rf post z_this x1 x2 x3 x4 x5) ∧ (∀ (post : Unit → T_Mo → Prop), wp_Mo_sumOut_J261 rf post z_this x1 x2 x3 x4 x5 → post w0 w1)) := by
  unfold wp_Mo_sumOut_J261 at h
  rcases br_el h with ⟨c0, h⟩ | ⟨c0, h⟩
  · obtain ⟨w1_0, w1_1, qa1, qb1⟩ := dt_Mo_sumOut_J273 hrf h
    exact ⟨_, _, fun post q => (by unfold wp_Mo_sumOut_J261; exact (pT c0 ((qa1 _ (q))))), fun post h => (by unfold wp_Mo_sumOut_J261 at h; replace h := h.1 c0; replace h := qb1 _ h; exact h)⟩
  · obtain ⟨r9, u9, qa1, qb1⟩ := dt_Mo_word h
    replace h := qb1 _ h
    obtain ⟨w2_0, w2_1, qa2, qb2⟩ := dt_Mo_sumOut_J273 hrf h
    exact ⟨_, _, fun post q => (by unfold wp_Mo_sumOut_J261; exact (pF c0 ((qa1 _ ((qa2 _ (q))))))), fun post h => (by unfold wp_Mo_sumOut_J261 at h; replace h := h.2 c0; replace h := qb1 _ h; replace h := qb2 _ h; exact h)⟩
set_option maxHeartbeats 2000000 in
theorem dt_Mo_sumOut_J245 {rf : T_Mo → Int32 → Int32 → Int32 → (Unit → T_Mo → Prop) → Prop} {z_this : T_Mo} {x1 : Int32} {x2 : Int32} {x3 : Int32} {x4 : Int32} {x5 : Int32} {y0 : Int64} (hrf : ∀ (v0 : T_Mo) (v1 : Int32) (v2 : Int32) (v3 : Int32) (post : (Unit → T_Mo → Prop)), rf v0 v1 v2 v3 post → (∃ (w0 : Unit) (w1 : T_Mo), (∀ (post : (Unit → T_Mo → Prop)), post w0 w1 → rf v0 v1 v2 v3 post) ∧ (∀ (post : (Unit → T_Mo → Prop)), rf v0 v1 v2 v3 post → post w0 w1))) {post : Unit → T_Mo → Prop} (h : wp_Mo_sumOut_J245 rf post z_this x1 x2 x3 x4 x5 y0) : (∃ (w0 : Unit) (w1 : T_Mo), (∀ (post : Unit → T_Mo → Prop), post w0 w1 → wp_Mo_sumOut_J245 rf post z_this x1 x2 x3 x4 x5 y0) ∧ (∀ (post : Unit → T_Mo → Prop), wp_Mo_sumOut_J245 rf post z_this x1 x2 x3 x4 x5 y0 → post w0 w1)) := by
  unfold wp_Mo_sumOut_J245 at h
  obtain ⟨r6, u6, qa0, qb0⟩ := dt_Mo_word h
  replace h := qb0 _ h
  obtain ⟨r7, u7, qa1, qb1⟩ := dt_Mo_kid h
  replace h := qb1 _ h
  obtain ⟨r8, u8, qa2, qb2⟩ := hrf _ _ _ _ _ h
  replace h := qb2 _ h
  obtain ⟨w3_0, w3_1, qa3, qb3⟩ := dt_Mo_sumOut_J261 hrf h
  exact ⟨_, _, fun post q => (by unfold wp_Mo_sumOut_J245; exact (qa0 _ ((qa1 _ ((qa2 _ ((qa3 _ (q))))))))), fun post h => (by unfold wp_Mo_sumOut_J245 at h; replace h := qb0 _ h; replace h := qb1 _ h; replace h := qb2 _ h; replace h := qb3 _ h; exact h)⟩
set_option maxHeartbeats 2000000 in
theorem dt_Mo_sumOut_J88 {rf : T_Mo → Int32 → Int32 → Int32 → (Unit → T_Mo → Prop) → Prop} {z_this : T_Mo} {x1 : Int32} {x2 : Int32} {x3 : Int32} {x4 : Int32} {x5 : Int32} (hrf : ∀ (v0 : T_Mo) (v1 : Int32) (v2 : Int32) (v3 : Int32) (post : (Unit → T_Mo → Prop)), rf v0 v1 v2 v3 post → (∃ (w0 : Unit) (w1 : T_Mo), (∀ (post : (Unit → T_Mo → Prop)), post w0 w1 → rf v0 v1 v2 v3 post) ∧ (∀ (post : (Unit → T_Mo → Prop)), rf v0 v1 v2 v3 post → post w0 w1))) {post : Unit → T_Mo → Prop} (h : wp_Mo_sumOut_J88 rf post z_this x1 x2 x3 x4 x5) : (∃ (w0 : Unit) (w1 : T_Mo), (∀ (post : Unit → T_Mo → Prop), post w0 w1 → wp_Mo_sumOut_J88 rf post z_this x1 x2 x3 x4 x5) ∧ (∀ (post : Unit → T_Mo → Prop), wp_Mo_sumOut_J88 rf post z_this x1 x2 x3 x4 x5 → post w0 w1)) := by
  unfold wp_Mo_sumOut_J88 at h
  rcases br_el h with ⟨c0, h⟩ | ⟨c0, h⟩
  · obtain ⟨r15, u15, qa1, qb1⟩ := dt_Mo_numberOut h
    replace h := qb1 _ h
    obtain ⟨w2_0, w2_1, qa2, qb2⟩ := dt_Mo_sumOut_J261 hrf h
    exact ⟨_, _, fun post q => (by unfold wp_Mo_sumOut_J88; exact (pT c0 ((qa1 _ ((qa2 _ (q))))))), fun post h => (by unfold wp_Mo_sumOut_J88 at h; replace h := h.1 c0; replace h := qb1 _ h; replace h := qb2 _ h; exact h)⟩
  · rcases br_el h with ⟨c1, h⟩ | ⟨c1, h⟩
    · obtain ⟨r13, u13, qa2, qb2⟩ := dt_Mo_node1 h
      replace h := qb2 _ h
      obtain ⟨s3, h⟩ := h
      obtain ⟨r14, u14, qa4, qb4⟩ := dt_Mo_name h
      replace h := qb4 _ h
      obtain ⟨w5_0, w5_1, qa5, qb5⟩ := dt_Mo_sumOut_J261 hrf h
      exact ⟨_, _, fun post q => (by unfold wp_Mo_sumOut_J88; exact (pF c0 ((pT c1 ((qa2 _ (⟨s3, (qa4 _ ((qa5 _ (q))))⟩))))))), fun post h => (by unfold wp_Mo_sumOut_J88 at h; replace h := h.2 c0; replace h := h.1 c1; replace h := qb2 _ h; replace h := h.2; replace h := qb4 _ h; replace h := qb5 _ h; exact h)⟩
    · rcases br_el h with ⟨c2, h⟩ | ⟨c2, h⟩
      · obtain ⟨r10, u10, qa3, qb3⟩ := dt_Mo_word h
        replace h := qb3 _ h
        obtain ⟨r11, u11, qa4, qb4⟩ := dt_Mo_kid h
        replace h := qb4 _ h
        obtain ⟨r12, u12, qa5, qb5⟩ := hrf _ _ _ _ _ h
        replace h := qb5 _ h
        obtain ⟨w6_0, w6_1, qa6, qb6⟩ := dt_Mo_sumOut_J261 hrf h
        exact ⟨_, _, fun post q => (by unfold wp_Mo_sumOut_J88; exact (pF c0 ((pF c1 ((pT c2 ((qa3 _ ((qa4 _ ((qa5 _ ((qa6 _ (q))))))))))))))), fun post h => (by unfold wp_Mo_sumOut_J88 at h; replace h := h.2 c0; replace h := h.2 c1; replace h := h.1 c2; replace h := qb3 _ h; replace h := qb4 _ h; replace h := qb5 _ h; replace h := qb6 _ h; exact h)⟩
      · obtain ⟨r4, u4, qa3, qb3⟩ := dt_Mo_kid h
        replace h := qb3 _ h
        obtain ⟨r5, u5, qa4, qb4⟩ := hrf _ _ _ _ _ h
        replace h := qb4 _ h
        rcases br_el h with ⟨c5, h⟩ | ⟨c5, h⟩
        · obtain ⟨w6_0, w6_1, qa6, qb6⟩ := dt_Mo_sumOut_J245 hrf h
          exact ⟨_, _, fun post q => (by unfold wp_Mo_sumOut_J88; exact (pF c0 ((pF c1 ((pF c2 ((qa3 _ ((qa4 _ ((pT c5 ((qa6 _ (q))))))))))))))), fun post h => (by unfold wp_Mo_sumOut_J88 at h; replace h := h.2 c0; replace h := h.2 c1; replace h := h.2 c2; replace h := qb3 _ h; replace h := qb4 _ h; replace h := h.1 c5; replace h := qb6 _ h; exact h)⟩
        · rcases br_el h with ⟨c6, h⟩ | ⟨c6, h⟩
          · obtain ⟨w7_0, w7_1, qa7, qb7⟩ := dt_Mo_sumOut_J245 hrf h
            exact ⟨_, _, fun post q => (by unfold wp_Mo_sumOut_J88; exact (pF c0 ((pF c1 ((pF c2 ((qa3 _ ((qa4 _ ((pF c5 ((pT c6 ((qa7 _ (q))))))))))))))))), fun post h => (by unfold wp_Mo_sumOut_J88 at h; replace h := h.2 c0; replace h := h.2 c1; replace h := h.2 c2; replace h := qb3 _ h; replace h := qb4 _ h; replace h := h.2 c5; replace h := h.1 c6; replace h := qb7 _ h; exact h)⟩
          · rcases br_el h with ⟨c7, h⟩ | ⟨c7, h⟩
            · obtain ⟨w8_0, w8_1, qa8, qb8⟩ := dt_Mo_sumOut_J245 hrf h
              exact ⟨_, _, fun post q => (by unfold wp_Mo_sumOut_J88; exact (pF c0 ((pF c1 ((pF c2 ((qa3 _ ((qa4 _ ((pF c5 ((pF c6 ((pT c7 ((qa8 _ (q))))))))))))))))))), fun post h => (by unfold wp_Mo_sumOut_J88 at h; replace h := h.2 c0; replace h := h.2 c1; replace h := h.2 c2; replace h := qb3 _ h; replace h := qb4 _ h; replace h := h.2 c5; replace h := h.2 c6; replace h := h.1 c7; replace h := qb8 _ h; exact h)⟩
            · rcases br_el h with ⟨c8, h⟩ | ⟨c8, h⟩
              · obtain ⟨w9_0, w9_1, qa9, qb9⟩ := dt_Mo_sumOut_J245 hrf h
                exact ⟨_, _, fun post q => (by unfold wp_Mo_sumOut_J88; exact (pF c0 ((pF c1 ((pF c2 ((qa3 _ ((qa4 _ ((pF c5 ((pF c6 ((pF c7 ((pT c8 ((qa9 _ (q))))))))))))))))))))), fun post h => (by unfold wp_Mo_sumOut_J88 at h; replace h := h.2 c0; replace h := h.2 c1; replace h := h.2 c2; replace h := qb3 _ h; replace h := qb4 _ h; replace h := h.2 c5; replace h := h.2 c6; replace h := h.2 c7; replace h := h.1 c8; replace h := qb9 _ h; exact h)⟩
              · rcases br_el h with ⟨c9, h⟩ | ⟨c9, h⟩
                · obtain ⟨w10_0, w10_1, qa10, qb10⟩ := dt_Mo_sumOut_J245 hrf h
                  exact ⟨_, _, fun post q => (by unfold wp_Mo_sumOut_J88; exact (pF c0 ((pF c1 ((pF c2 ((qa3 _ ((qa4 _ ((pF c5 ((pF c6 ((pF c7 ((pF c8 ((pT c9 ((qa10 _ (q))))))))))))))))))))))), fun post h => (by unfold wp_Mo_sumOut_J88 at h; replace h := h.2 c0; replace h := h.2 c1; replace h := h.2 c2; replace h := qb3 _ h; replace h := qb4 _ h; replace h := h.2 c5; replace h := h.2 c6; replace h := h.2 c7; replace h := h.2 c8; replace h := h.1 c9; replace h := qb10 _ h; exact h)⟩
                · rcases br_el h with ⟨c10, h⟩ | ⟨c10, h⟩
                  · obtain ⟨w11_0, w11_1, qa11, qb11⟩ := dt_Mo_sumOut_J245 hrf h
                    exact ⟨_, _, fun post q => (by unfold wp_Mo_sumOut_J88; exact (pF c0 ((pF c1 ((pF c2 ((qa3 _ ((qa4 _ ((pF c5 ((pF c6 ((pF c7 ((pF c8 ((pF c9 ((pT c10 ((qa11 _ (q))))))))))))))))))))))))), fun post h => (by unfold wp_Mo_sumOut_J88 at h; replace h := h.2 c0; replace h := h.2 c1; replace h := h.2 c2; replace h := qb3 _ h; replace h := qb4 _ h; replace h := h.2 c5; replace h := h.2 c6; replace h := h.2 c7; replace h := h.2 c8; replace h := h.2 c9; replace h := h.1 c10; replace h := qb11 _ h; exact h)⟩
                  · obtain ⟨w11_0, w11_1, qa11, qb11⟩ := dt_Mo_sumOut_J245 hrf h
                    exact ⟨_, _, fun post q => (by unfold wp_Mo_sumOut_J88; exact (pF c0 ((pF c1 ((pF c2 ((qa3 _ ((qa4 _ ((pF c5 ((pF c6 ((pF c7 ((pF c8 ((pF c9 ((pF c10 ((qa11 _ (q))))))))))))))))))))))))), fun post h => (by unfold wp_Mo_sumOut_J88 at h; replace h := h.2 c0; replace h := h.2 c1; replace h := h.2 c2; replace h := qb3 _ h; replace h := qb4 _ h; replace h := h.2 c5; replace h := h.2 c6; replace h := h.2 c7; replace h := h.2 c8; replace h := h.2 c9; replace h := h.2 c10; replace h := qb11 _ h; exact h)⟩
set_option maxHeartbeats 2000000 in
theorem dt_Mo_sumOut_J74 {rf : T_Mo → Int32 → Int32 → Int32 → (Unit → T_Mo → Prop) → Prop} {z_this : T_Mo} {x1 : Int32} {x2 : Int32} {x3 : Int32} {x4 : Int32} {y0 : Int32} (hrf : ∀ (v0 : T_Mo) (v1 : Int32) (v2 : Int32) (v3 : Int32) (post : (Unit → T_Mo → Prop)), rf v0 v1 v2 v3 post → (∃ (w0 : Unit) (w1 : T_Mo), (∀ (post : (Unit → T_Mo → Prop)), post w0 w1 → rf v0 v1 v2 v3 post) ∧ (∀ (post : (Unit → T_Mo → Prop)), rf v0 v1 v2 v3 post → post w0 w1))) {post : Unit → T_Mo → Prop} (h : wp_Mo_sumOut_J74 rf post z_this x1 x2 x3 x4 y0) : (∃ (w0 : Unit) (w1 : T_Mo), (∀ (post : Unit → T_Mo → Prop), post w0 w1 → wp_Mo_sumOut_J74 rf post z_this x1 x2 x3 x4 y0) ∧ (∀ (post : Unit → T_Mo → Prop), wp_Mo_sumOut_J74 rf post z_this x1 x2 x3 x4 y0 → post w0 w1)) := by
  unfold wp_Mo_sumOut_J74 at h
  rcases br_el h with ⟨c0, h⟩ | ⟨c0, h⟩
  · obtain ⟨w1_0, w1_1, qa1, qb1⟩ := dt_Mo_sumOut_J88 hrf h
    exact ⟨_, _, fun post q => (by unfold wp_Mo_sumOut_J74; exact (pT c0 ((qa1 _ (q))))), fun post h => (by unfold wp_Mo_sumOut_J74 at h; replace h := h.1 c0; replace h := qb1 _ h; exact h)⟩
  · obtain ⟨r16, u16, qa1, qb1⟩ := dt_Mo_word h
    replace h := qb1 _ h
    obtain ⟨w2_0, w2_1, qa2, qb2⟩ := dt_Mo_sumOut_J88 hrf h
    exact ⟨_, _, fun post q => (by unfold wp_Mo_sumOut_J74; exact (pF c0 ((qa1 _ ((qa2 _ (q))))))), fun post h => (by unfold wp_Mo_sumOut_J74 at h; replace h := h.2 c0; replace h := qb1 _ h; replace h := qb2 _ h; exact h)⟩
set_option maxHeartbeats 2000000 in
theorem dt_Mo_sumOut_J73 {rf : T_Mo → Int32 → Int32 → Int32 → (Unit → T_Mo → Prop) → Prop} {z_this : T_Mo} {x1 : Int32} {x2 : Int32} {x3 : Int32} {x4 : Int32} (hrf : ∀ (v0 : T_Mo) (v1 : Int32) (v2 : Int32) (v3 : Int32) (post : (Unit → T_Mo → Prop)), rf v0 v1 v2 v3 post → (∃ (w0 : Unit) (w1 : T_Mo), (∀ (post : (Unit → T_Mo → Prop)), post w0 w1 → rf v0 v1 v2 v3 post) ∧ (∀ (post : (Unit → T_Mo → Prop)), rf v0 v1 v2 v3 post → post w0 w1))) {post : Unit → T_Mo → Prop} (h : wp_Mo_sumOut_J73 rf post z_this x1 x2 x3 x4) : (∃ (w0 : Unit) (w1 : T_Mo), (∀ (post : Unit → T_Mo → Prop), post w0 w1 → wp_Mo_sumOut_J73 rf post z_this x1 x2 x3 x4) ∧ (∀ (post : Unit → T_Mo → Prop), wp_Mo_sumOut_J73 rf post z_this x1 x2 x3 x4 → post w0 w1)) := by
  unfold wp_Mo_sumOut_J73 at h
  obtain ⟨w0_0, w0_1, qa0, qb0⟩ := dt_Mo_sumOut_J74 hrf h
  exact ⟨_, _, fun post q => (by unfold wp_Mo_sumOut_J73; exact (qa0 _ (q))), fun post h => (by unfold wp_Mo_sumOut_J73 at h; replace h := qb0 _ h; exact h)⟩
set_option maxHeartbeats 2000000 in
theorem dt_Mo_sumOut_J69 {rf : T_Mo → Int32 → Int32 → Int32 → (Unit → T_Mo → Prop) → Prop} {z_this : T_Mo} {x1 : Int32} {x2 : Int32} {x3 : Int32} {x4 : Int32} (hrf : ∀ (v0 : T_Mo) (v1 : Int32) (v2 : Int32) (v3 : Int32) (post : (Unit → T_Mo → Prop)), rf v0 v1 v2 v3 post → (∃ (w0 : Unit) (w1 : T_Mo), (∀ (post : (Unit → T_Mo → Prop)), post w0 w1 → rf v0 v1 v2 v3 post) ∧ (∀ (post : (Unit → T_Mo → Prop)), rf v0 v1 v2 v3 post → post w0 w1))) {post : Unit → T_Mo → Prop} (h : wp_Mo_sumOut_J69 rf post z_this x1 x2 x3 x4) : (∃ (w0 : Unit) (w1 : T_Mo), (∀ (post : Unit → T_Mo → Prop), post w0 w1 → wp_Mo_sumOut_J69 rf post z_this x1 x2 x3 x4) ∧ (∀ (post : Unit → T_Mo → Prop), wp_Mo_sumOut_J69 rf post z_this x1 x2 x3 x4 → post w0 w1)) := by
  unfold wp_Mo_sumOut_J69 at h
  obtain ⟨w0_0, w0_1, qa0, qb0⟩ := dt_Mo_sumOut_J74 hrf h
  exact ⟨_, _, fun post q => (by unfold wp_Mo_sumOut_J69; exact (qa0 _ (q))), fun post h => (by unfold wp_Mo_sumOut_J69 at h; replace h := qb0 _ h; exact h)⟩
set_option maxHeartbeats 2000000 in
theorem dt_Mo_sumOut_J44 {rf : T_Mo → Int32 → Int32 → Int32 → (Unit → T_Mo → Prop) → Prop} {z_this : T_Mo} {x1 : Int32} {x2 : Int32} {x3 : Int32} {x4 : Int32} (hrf : ∀ (v0 : T_Mo) (v1 : Int32) (v2 : Int32) (v3 : Int32) (post : (Unit → T_Mo → Prop)), rf v0 v1 v2 v3 post → (∃ (w0 : Unit) (w1 : T_Mo), (∀ (post : (Unit → T_Mo → Prop)), post w0 w1 → rf v0 v1 v2 v3 post) ∧ (∀ (post : (Unit → T_Mo → Prop)), rf v0 v1 v2 v3 post → post w0 w1))) {post : Unit → T_Mo → Prop} (h : wp_Mo_sumOut_J44 rf post z_this x1 x2 x3 x4) : (∃ (w0 : Unit) (w1 : T_Mo), (∀ (post : Unit → T_Mo → Prop), post w0 w1 → wp_Mo_sumOut_J44 rf post z_this x1 x2 x3 x4) ∧ (∀ (post : Unit → T_Mo → Prop), wp_Mo_sumOut_J44 rf post z_this x1 x2 x3 x4 → post w0 w1)) := by
  unfold wp_Mo_sumOut_J44 at h
  obtain ⟨r3, u3, qa0, qb0⟩ := dt_Mo_isProduct h
  replace h := qb0 _ h
  rcases br_el h with ⟨c1, h⟩ | ⟨c1, h⟩
  · obtain ⟨w2_0, w2_1, qa2, qb2⟩ := dt_Mo_sumOut_J73 hrf h
    exact ⟨_, _, fun post q => (by unfold wp_Mo_sumOut_J44; exact (qa0 _ ((pT c1 ((qa2 _ (q))))))), fun post h => (by unfold wp_Mo_sumOut_J44 at h; replace h := qb0 _ h; replace h := h.1 c1; replace h := qb2 _ h; exact h)⟩
  · rcases br_el h with ⟨c2, h⟩ | ⟨c2, h⟩
    · obtain ⟨w3_0, w3_1, qa3, qb3⟩ := dt_Mo_sumOut_J69 hrf h
      exact ⟨_, _, fun post q => (by unfold wp_Mo_sumOut_J44; exact (qa0 _ ((pF c1 ((pT c2 ((qa3 _ (q))))))))), fun post h => (by unfold wp_Mo_sumOut_J44 at h; replace h := qb0 _ h; replace h := h.2 c1; replace h := h.1 c2; replace h := qb3 _ h; exact h)⟩
    · obtain ⟨r17, u17, qa3, qb3⟩ := dt_Mo_isProduct h
      replace h := qb3 _ h
      rcases br_el h with ⟨c4, h⟩ | ⟨c4, h⟩
      · obtain ⟨w5_0, w5_1, qa5, qb5⟩ := dt_Mo_sumOut_J73 hrf h
        exact ⟨_, _, fun post q => (by unfold wp_Mo_sumOut_J44; exact (qa0 _ ((pF c1 ((pF c2 ((qa3 _ ((pT c4 ((qa5 _ (q))))))))))))), fun post h => (by unfold wp_Mo_sumOut_J44 at h; replace h := qb0 _ h; replace h := h.2 c1; replace h := h.2 c2; replace h := qb3 _ h; replace h := h.1 c4; replace h := qb5 _ h; exact h)⟩
      · rcases br_el h with ⟨c5, h⟩ | ⟨c5, h⟩
        · obtain ⟨w6_0, w6_1, qa6, qb6⟩ := dt_Mo_sumOut_J69 hrf h
          exact ⟨_, _, fun post q => (by unfold wp_Mo_sumOut_J44; exact (qa0 _ ((pF c1 ((pF c2 ((qa3 _ ((pF c4 ((pT c5 ((qa6 _ (q))))))))))))))), fun post h => (by unfold wp_Mo_sumOut_J44 at h; replace h := qb0 _ h; replace h := h.2 c1; replace h := h.2 c2; replace h := qb3 _ h; replace h := h.2 c4; replace h := h.1 c5; replace h := qb6 _ h; exact h)⟩
        · obtain ⟨w6_0, w6_1, qa6, qb6⟩ := dt_Mo_sumOut_J73 hrf h
          exact ⟨_, _, fun post q => (by unfold wp_Mo_sumOut_J44; exact (qa0 _ ((pF c1 ((pF c2 ((qa3 _ ((pF c4 ((pF c5 ((qa6 _ (q))))))))))))))), fun post h => (by unfold wp_Mo_sumOut_J44 at h; replace h := qb0 _ h; replace h := h.2 c1; replace h := h.2 c2; replace h := qb3 _ h; replace h := h.2 c4; replace h := h.2 c5; replace h := qb6 _ h; exact h)⟩
set_option maxHeartbeats 2000000 in
theorem dt_Mo_sumOut_F {rf : T_Mo → Int32 → Int32 → Int32 → (Unit → T_Mo → Prop) → Prop} {z_this : T_Mo} {a1 : Int32} {a2 : Int32} {a3 : Int32} (hrf : ∀ (v0 : T_Mo) (v1 : Int32) (v2 : Int32) (v3 : Int32) (post : (Unit → T_Mo → Prop)), rf v0 v1 v2 v3 post → (∃ (w0 : Unit) (w1 : T_Mo), (∀ (post : (Unit → T_Mo → Prop)), post w0 w1 → rf v0 v1 v2 v3 post) ∧ (∀ (post : (Unit → T_Mo → Prop)), rf v0 v1 v2 v3 post → post w0 w1))) {post : Unit → T_Mo → Prop} (h : wp_Mo_sumOut_F rf z_this a1 a2 a3 post) : (∃ (w0 : Unit) (w1 : T_Mo), (∀ (post : Unit → T_Mo → Prop), post w0 w1 → wp_Mo_sumOut_F rf z_this a1 a2 a3 post) ∧ (∀ (post : Unit → T_Mo → Prop), wp_Mo_sumOut_F rf z_this a1 a2 a3 post → post w0 w1)) := by
  unfold wp_Mo_sumOut_F at h
  obtain ⟨r1, u1, qa0, qb0⟩ := dt_Mo_node1 h
  replace h := qb0 _ h
  obtain ⟨s1, h⟩ := h
  obtain ⟨r2, u2, qa2, qb2⟩ := dt_Mo_isSum h
  replace h := qb2 _ h
  rcases br_el h with ⟨c3, h⟩ | ⟨c3, h⟩
  · obtain ⟨w4_0, w4_1, qa4, qb4⟩ := dt_Mo_sumOut_J44 hrf h
    exact ⟨_, _, fun post q => (by unfold wp_Mo_sumOut_F; exact (qa0 _ (⟨s1, (qa2 _ ((pT c3 ((qa4 _ (q))))))⟩))), fun post h => (by unfold wp_Mo_sumOut_F at h; replace h := qb0 _ h; replace h := h.2; replace h := qb2 _ h; replace h := h.1 c3; replace h := qb4 _ h; exact h)⟩
  · obtain ⟨r18, u18, qa4, qb4⟩ := dt_Mo_isProduct h
    replace h := qb4 _ h
    rcases br_el h with ⟨c5, h⟩ | ⟨c5, h⟩
    · rcases br_el h with ⟨c6, h⟩ | ⟨c6, h⟩
      · obtain ⟨w7_0, w7_1, qa7, qb7⟩ := dt_Mo_sumOut_J69 hrf h
        exact ⟨_, _, fun post q => (by unfold wp_Mo_sumOut_F; exact (qa0 _ (⟨s1, (qa2 _ ((pF c3 ((qa4 _ ((pT c5 ((pT c6 ((qa7 _ (q))))))))))))⟩))), fun post h => (by unfold wp_Mo_sumOut_F at h; replace h := qb0 _ h; replace h := h.2; replace h := qb2 _ h; replace h := h.2 c3; replace h := qb4 _ h; replace h := h.1 c5; replace h := h.1 c6; replace h := qb7 _ h; exact h)⟩
      · obtain ⟨r19, u19, qa7, qb7⟩ := dt_Mo_isSum h
        replace h := qb7 _ h
        rcases br_el h with ⟨c8, h⟩ | ⟨c8, h⟩
        · obtain ⟨w9_0, w9_1, qa9, qb9⟩ := dt_Mo_sumOut_J44 hrf h
          exact ⟨_, _, fun post q => (by unfold wp_Mo_sumOut_F; exact (qa0 _ (⟨s1, (qa2 _ ((pF c3 ((qa4 _ ((pT c5 ((pF c6 ((qa7 _ ((pT c8 ((qa9 _ (q))))))))))))))))⟩))), fun post h => (by unfold wp_Mo_sumOut_F at h; replace h := qb0 _ h; replace h := h.2; replace h := qb2 _ h; replace h := h.2 c3; replace h := qb4 _ h; replace h := h.1 c5; replace h := h.2 c6; replace h := qb7 _ h; replace h := h.1 c8; replace h := qb9 _ h; exact h)⟩
        · rcases br_el h with ⟨c9, h⟩ | ⟨c9, h⟩
          · obtain ⟨w10_0, w10_1, qa10, qb10⟩ := dt_Mo_sumOut_J69 hrf h
            exact ⟨_, _, fun post q => (by unfold wp_Mo_sumOut_F; exact (qa0 _ (⟨s1, (qa2 _ ((pF c3 ((qa4 _ ((pT c5 ((pF c6 ((qa7 _ ((pF c8 ((pT c9 ((qa10 _ (q))))))))))))))))))⟩))), fun post h => (by unfold wp_Mo_sumOut_F at h; replace h := qb0 _ h; replace h := h.2; replace h := qb2 _ h; replace h := h.2 c3; replace h := qb4 _ h; replace h := h.1 c5; replace h := h.2 c6; replace h := qb7 _ h; replace h := h.2 c8; replace h := h.1 c9; replace h := qb10 _ h; exact h)⟩
          · obtain ⟨w10_0, w10_1, qa10, qb10⟩ := dt_Mo_sumOut_J44 hrf h
            exact ⟨_, _, fun post q => (by unfold wp_Mo_sumOut_F; exact (qa0 _ (⟨s1, (qa2 _ ((pF c3 ((qa4 _ ((pT c5 ((pF c6 ((qa7 _ ((pF c8 ((pF c9 ((qa10 _ (q))))))))))))))))))⟩))), fun post h => (by unfold wp_Mo_sumOut_F at h; replace h := qb0 _ h; replace h := h.2; replace h := qb2 _ h; replace h := h.2 c3; replace h := qb4 _ h; replace h := h.1 c5; replace h := h.2 c6; replace h := qb7 _ h; replace h := h.2 c8; replace h := h.2 c9; replace h := qb10 _ h; exact h)⟩
    · obtain ⟨w6_0, w6_1, qa6, qb6⟩ := dt_Mo_sumOut_J69 hrf h
      exact ⟨_, _, fun post q => (by unfold wp_Mo_sumOut_F; exact (qa0 _ (⟨s1, (qa2 _ ((pF c3 ((qa4 _ ((pF c5 ((qa6 _ (q))))))))))⟩))), fun post h => (by unfold wp_Mo_sumOut_F at h; replace h := qb0 _ h; replace h := h.2; replace h := qb2 _ h; replace h := h.2 c3; replace h := qb4 _ h; replace h := h.2 c5; replace h := qb6 _ h; exact h)⟩
theorem dt_Mo_sumOut : ∀ (d : Nat), ∀ (v0 : T_Mo) (v1 : Int32) (v2 : Int32) (v3 : Int32) (post : (Unit → T_Mo → Prop)), wp_Mo_sumOut d v0 v1 v2 v3 post → (∃ (w0 : Unit) (w1 : T_Mo), (∀ (post : (Unit → T_Mo → Prop)), post w0 w1 → wp_Mo_sumOut d v0 v1 v2 v3 post) ∧ (∀ (post : (Unit → T_Mo → Prop)), wp_Mo_sumOut d v0 v1 v2 v3 post → post w0 w1)) := by
  intro d
  induction d with
  | zero => intro v0 v1 v2 v3 post h; exact False.elim h
  | succ d ih =>
    intro v0 v1 v2 v3 post h
    exact dt_Mo_sumOut_F ih h
set_option maxHeartbeats 2000000 in
theorem dt_Mo_statementOut_L308 {d : Nat} {rf : T_Mo → Int32 → (Unit → T_Mo → Prop) → Prop} (hrf : ∀ (v0 : T_Mo) (v1 : Int32) (post : (Unit → T_Mo → Prop)), rf v0 v1 post → (∃ (w0 : Unit) (w1 : T_Mo), (∀ (post : (Unit → T_Mo → Prop)), post w0 w1 → rf v0 v1 post) ∧ (∀ (post : (Unit → T_Mo → Prop)), rf v0 v1 post → post w0 w1))) : ∀ (n9 : Nat) (z_this : T_Mo) (x1 : Int32) (x2 : Int32) (x3 : Int32) (x4 : Int32) (x5 : Int32) (K : T_Mo → Int32 → Int32 → Int32 → Int32 → Int32 → Prop) (post : Unit → T_Mo → Prop), wp_Mo_statementOut_L308 d rf K post n9 z_this x1 x2 x3 x4 x5 → (∃ (w0 : T_Mo) (w1 : Int32) (w2 : Int32) (w3 : Int32) (w4 : Int32) (w5 : Int32), (∀ (K : T_Mo → Int32 → Int32 → Int32 → Int32 → Int32 → Prop) (post : Unit → T_Mo → Prop), K w0 w1 w2 w3 w4 w5 → wp_Mo_statementOut_L308 d rf K post n9 z_this x1 x2 x3 x4 x5) ∧ (∀ (m9 : Nat) (K : T_Mo → Int32 → Int32 → Int32 → Int32 → Int32 → Prop) (post : Unit → T_Mo → Prop), wp_Mo_statementOut_L308 d rf K post m9 z_this x1 x2 x3 x4 x5 → K w0 w1 w2 w3 w4 w5)) ∨ (∃ (w0 : Unit) (w1 : T_Mo), (∀ (K : T_Mo → Int32 → Int32 → Int32 → Int32 → Int32 → Prop) (post : Unit → T_Mo → Prop), post w0 w1 → wp_Mo_statementOut_L308 d rf K post n9 z_this x1 x2 x3 x4 x5) ∧ (∀ (m9 : Nat) (K : T_Mo → Int32 → Int32 → Int32 → Int32 → Int32 → Prop) (post : Unit → T_Mo → Prop), wp_Mo_statementOut_L308 d rf K post m9 z_this x1 x2 x3 x4 x5 → post w0 w1)) := by
  intro n9
  induction n9 with
  | zero => intro z_this x1 x2 x3 x4 x5 K post h; exact False.elim h
  | succ n9 ih =>
    intro z_this x1 x2 x3 x4 x5 K post h
    rw [wp_Mo_statementOut_L308] at h
    rcases br_el h with ⟨c0, h⟩ | ⟨c0, h⟩
    · exact Or.inl ⟨_, _, _, _, _, _, fun K post q => (by rw [wp_Mo_statementOut_L308]; exact (pT c0 (q))), fun m9 K post h => (by cases m9 with | zero => exact False.elim h | succ m9 => (rw [wp_Mo_statementOut_L308] at h; replace h := h.1 c0; exact h))⟩
    · obtain ⟨r6, u6, qa1, qb1⟩ := dt_Mo_kid h
      replace h := qb1 _ h
      obtain ⟨r7, u7, qa2, qb2⟩ := dt_Mo_node1 h
      replace h := qb2 _ h
      obtain ⟨s3, h⟩ := h
      rcases br_el h with ⟨c4, h⟩ | ⟨c4, h⟩
      · rcases br_el h with ⟨c5, h⟩ | ⟨c5, h⟩
        · rcases br_el h with ⟨c6, h⟩ | ⟨c6, h⟩
          · obtain ⟨r25, u25, qa7, qb7⟩ := dt_Mo_word h
            replace h := qb7 _ h
            obtain ⟨r26, u26, qa8, qb8⟩ := dt_Mo_kid h
            replace h := qb8 _ h
            obtain ⟨r27, u27, qa9, qb9⟩ := hrf _ _ _ h
            replace h := qb9 _ h
            rcases ih _ _ _ _ _ _ _ _ h with ⟨w10_0, w10_1, w10_2, w10_3, w10_4, w10_5, qa10, qb10⟩ | ⟨w10_0, w10_1, qa10, qb10⟩
            · exact Or.inl ⟨_, _, _, _, _, _, fun K post q => (by rw [wp_Mo_statementOut_L308]; exact (pF c0 ((qa1 _ ((qa2 _ (⟨s3, (pT c4 ((pT c5 ((pT c6 ((qa7 _ ((qa8 _ ((qa9 _ ((qa10 _ _ (q))))))))))))))⟩))))))), fun m9 K post h => (by cases m9 with | zero => exact False.elim h | succ m9 => (rw [wp_Mo_statementOut_L308] at h; replace h := h.2 c0; replace h := qb1 _ h; replace h := qb2 _ h; replace h := h.2; replace h := h.1 c4; replace h := h.1 c5; replace h := h.1 c6; replace h := qb7 _ h; replace h := qb8 _ h; replace h := qb9 _ h; replace h := qb10 m9 _ _ h; exact h))⟩
            · exact Or.inr (⟨_, _, fun K post q => (by rw [wp_Mo_statementOut_L308]; exact (pF c0 ((qa1 _ ((qa2 _ (⟨s3, (pT c4 ((pT c5 ((pT c6 ((qa7 _ ((qa8 _ ((qa9 _ ((qa10 _ _ (q))))))))))))))⟩))))))), fun m9 K post h => (by cases m9 with | zero => exact False.elim h | succ m9 => (rw [wp_Mo_statementOut_L308] at h; replace h := h.2 c0; replace h := qb1 _ h; replace h := qb2 _ h; replace h := h.2; replace h := h.1 c4; replace h := h.1 c5; replace h := h.1 c6; replace h := qb7 _ h; replace h := qb8 _ h; replace h := qb9 _ h; replace h := qb10 m9 _ _ h; exact h))⟩)
          · rcases br_el h with ⟨c7, h⟩ | ⟨c7, h⟩
            · rcases br_el h with ⟨c8, h⟩ | ⟨c8, h⟩
              · obtain ⟨r22, u22, qa9, qb9⟩ := dt_Mo_word h
                replace h := qb9 _ h
                obtain ⟨r23, u23, qa10, qb10⟩ := dt_Mo_kid h
                replace h := qb10 _ h
                obtain ⟨r24, u24, qa11, qb11⟩ := hrf _ _ _ h
                replace h := qb11 _ h
                rcases ih _ _ _ _ _ _ _ _ h with ⟨w12_0, w12_1, w12_2, w12_3, w12_4, w12_5, qa12, qb12⟩ | ⟨w12_0, w12_1, qa12, qb12⟩
                · exact Or.inl ⟨_, _, _, _, _, _, fun K post q => (by rw [wp_Mo_statementOut_L308]; exact (pF c0 ((qa1 _ ((qa2 _ (⟨s3, (pT c4 ((pT c5 ((pF c6 ((pT c7 ((pT c8 ((qa9 _ ((qa10 _ ((qa11 _ ((qa12 _ _ (q))))))))))))))))))⟩))))))), fun m9 K post h => (by cases m9 with | zero => exact False.elim h | succ m9 => (rw [wp_Mo_statementOut_L308] at h; replace h := h.2 c0; replace h := qb1 _ h; replace h := qb2 _ h; replace h := h.2; replace h := h.1 c4; replace h := h.1 c5; replace h := h.2 c6; replace h := h.1 c7; replace h := h.1 c8; replace h := qb9 _ h; replace h := qb10 _ h; replace h := qb11 _ h; replace h := qb12 m9 _ _ h; exact h))⟩
                · exact Or.inr (⟨_, _, fun K post q => (by rw [wp_Mo_statementOut_L308]; exact (pF c0 ((qa1 _ ((qa2 _ (⟨s3, (pT c4 ((pT c5 ((pF c6 ((pT c7 ((pT c8 ((qa9 _ ((qa10 _ ((qa11 _ ((qa12 _ _ (q))))))))))))))))))⟩))))))), fun m9 K post h => (by cases m9 with | zero => exact False.elim h | succ m9 => (rw [wp_Mo_statementOut_L308] at h; replace h := h.2 c0; replace h := qb1 _ h; replace h := qb2 _ h; replace h := h.2; replace h := h.1 c4; replace h := h.1 c5; replace h := h.2 c6; replace h := h.1 c7; replace h := h.1 c8; replace h := qb9 _ h; replace h := qb10 _ h; replace h := qb11 _ h; replace h := qb12 m9 _ _ h; exact h))⟩)
              · obtain ⟨r20, u20, qa9, qb9⟩ := dt_Mo_kid h
                replace h := qb9 _ h
                obtain ⟨r21, u21, qa10, qb10⟩ := hrf _ _ _ h
                replace h := qb10 _ h
                rcases ih _ _ _ _ _ _ _ _ h with ⟨w11_0, w11_1, w11_2, w11_3, w11_4, w11_5, qa11, qb11⟩ | ⟨w11_0, w11_1, qa11, qb11⟩
                · exact Or.inl ⟨_, _, _, _, _, _, fun K post q => (by rw [wp_Mo_statementOut_L308]; exact (pF c0 ((qa1 _ ((qa2 _ (⟨s3, (pT c4 ((pT c5 ((pF c6 ((pT c7 ((pF c8 ((qa9 _ ((qa10 _ ((qa11 _ _ (q))))))))))))))))⟩))))))), fun m9 K post h => (by cases m9 with | zero => exact False.elim h | succ m9 => (rw [wp_Mo_statementOut_L308] at h; replace h := h.2 c0; replace h := qb1 _ h; replace h := qb2 _ h; replace h := h.2; replace h := h.1 c4; replace h := h.1 c5; replace h := h.2 c6; replace h := h.1 c7; replace h := h.2 c8; replace h := qb9 _ h; replace h := qb10 _ h; replace h := qb11 m9 _ _ h; exact h))⟩
                · exact Or.inr (⟨_, _, fun K post q => (by rw [wp_Mo_statementOut_L308]; exact (pF c0 ((qa1 _ ((qa2 _ (⟨s3, (pT c4 ((pT c5 ((pF c6 ((pT c7 ((pF c8 ((qa9 _ ((qa10 _ ((qa11 _ _ (q))))))))))))))))⟩))))))), fun m9 K post h => (by cases m9 with | zero => exact False.elim h | succ m9 => (rw [wp_Mo_statementOut_L308] at h; replace h := h.2 c0; replace h := qb1 _ h; replace h := qb2 _ h; replace h := h.2; replace h := h.1 c4; replace h := h.1 c5; replace h := h.2 c6; replace h := h.1 c7; replace h := h.2 c8; replace h := qb9 _ h; replace h := qb10 _ h; replace h := qb11 m9 _ _ h; exact h))⟩)
            · obtain ⟨r18, u18, qa8, qb8⟩ := dt_Mo_kid h
              replace h := qb8 _ h
              obtain ⟨r19, u19, qa9, qb9⟩ := hrf _ _ _ h
              replace h := qb9 _ h
              rcases ih _ _ _ _ _ _ _ _ h with ⟨w10_0, w10_1, w10_2, w10_3, w10_4, w10_5, qa10, qb10⟩ | ⟨w10_0, w10_1, qa10, qb10⟩
              · exact Or.inl ⟨_, _, _, _, _, _, fun K post q => (by rw [wp_Mo_statementOut_L308]; exact (pF c0 ((qa1 _ ((qa2 _ (⟨s3, (pT c4 ((pT c5 ((pF c6 ((pF c7 ((qa8 _ ((qa9 _ ((qa10 _ _ (q))))))))))))))⟩))))))), fun m9 K post h => (by cases m9 with | zero => exact False.elim h | succ m9 => (rw [wp_Mo_statementOut_L308] at h; replace h := h.2 c0; replace h := qb1 _ h; replace h := qb2 _ h; replace h := h.2; replace h := h.1 c4; replace h := h.1 c5; replace h := h.2 c6; replace h := h.2 c7; replace h := qb8 _ h; replace h := qb9 _ h; replace h := qb10 m9 _ _ h; exact h))⟩
              · exact Or.inr (⟨_, _, fun K post q => (by rw [wp_Mo_statementOut_L308]; exact (pF c0 ((qa1 _ ((qa2 _ (⟨s3, (pT c4 ((pT c5 ((pF c6 ((pF c7 ((qa8 _ ((qa9 _ ((qa10 _ _ (q))))))))))))))⟩))))))), fun m9 K post h => (by cases m9 with | zero => exact False.elim h | succ m9 => (rw [wp_Mo_statementOut_L308] at h; replace h := h.2 c0; replace h := qb1 _ h; replace h := qb2 _ h; replace h := h.2; replace h := h.1 c4; replace h := h.1 c5; replace h := h.2 c6; replace h := h.2 c7; replace h := qb8 _ h; replace h := qb9 _ h; replace h := qb10 m9 _ _ h; exact h))⟩)
        · rcases br_el h with ⟨c6, h⟩ | ⟨c6, h⟩
          · rcases br_el h with ⟨c7, h⟩ | ⟨c7, h⟩
            · obtain ⟨r15, u15, qa8, qb8⟩ := dt_Mo_word h
              replace h := qb8 _ h
              obtain ⟨r16, u16, qa9, qb9⟩ := dt_Mo_kid h
              replace h := qb9 _ h
              obtain ⟨r17, u17, qa10, qb10⟩ := hrf _ _ _ h
              replace h := qb10 _ h
              rcases ih _ _ _ _ _ _ _ _ h with ⟨w11_0, w11_1, w11_2, w11_3, w11_4, w11_5, qa11, qb11⟩ | ⟨w11_0, w11_1, qa11, qb11⟩
              · exact Or.inl ⟨_, _, _, _, _, _, fun K post q => (by rw [wp_Mo_statementOut_L308]; exact (pF c0 ((qa1 _ ((qa2 _ (⟨s3, (pT c4 ((pF c5 ((pT c6 ((pT c7 ((qa8 _ ((qa9 _ ((qa10 _ ((qa11 _ _ (q))))))))))))))))⟩))))))), fun m9 K post h => (by cases m9 with | zero => exact False.elim h | succ m9 => (rw [wp_Mo_statementOut_L308] at h; replace h := h.2 c0; replace h := qb1 _ h; replace h := qb2 _ h; replace h := h.2; replace h := h.1 c4; replace h := h.2 c5; replace h := h.1 c6; replace h := h.1 c7; replace h := qb8 _ h; replace h := qb9 _ h; replace h := qb10 _ h; replace h := qb11 m9 _ _ h; exact h))⟩
              · exact Or.inr (⟨_, _, fun K post q => (by rw [wp_Mo_statementOut_L308]; exact (pF c0 ((qa1 _ ((qa2 _ (⟨s3, (pT c4 ((pF c5 ((pT c6 ((pT c7 ((qa8 _ ((qa9 _ ((qa10 _ ((qa11 _ _ (q))))))))))))))))⟩))))))), fun m9 K post h => (by cases m9 with | zero => exact False.elim h | succ m9 => (rw [wp_Mo_statementOut_L308] at h; replace h := h.2 c0; replace h := qb1 _ h; replace h := qb2 _ h; replace h := h.2; replace h := h.1 c4; replace h := h.2 c5; replace h := h.1 c6; replace h := h.1 c7; replace h := qb8 _ h; replace h := qb9 _ h; replace h := qb10 _ h; replace h := qb11 m9 _ _ h; exact h))⟩)
            · obtain ⟨r13, u13, qa8, qb8⟩ := dt_Mo_kid h
              replace h := qb8 _ h
              obtain ⟨r14, u14, qa9, qb9⟩ := hrf _ _ _ h
              replace h := qb9 _ h
              rcases ih _ _ _ _ _ _ _ _ h with ⟨w10_0, w10_1, w10_2, w10_3, w10_4, w10_5, qa10, qb10⟩ | ⟨w10_0, w10_1, qa10, qb10⟩
              · exact Or.inl ⟨_, _, _, _, _, _, fun K post q => (by rw [wp_Mo_statementOut_L308]; exact (pF c0 ((qa1 _ ((qa2 _ (⟨s3, (pT c4 ((pF c5 ((pT c6 ((pF c7 ((qa8 _ ((qa9 _ ((qa10 _ _ (q))))))))))))))⟩))))))), fun m9 K post h => (by cases m9 with | zero => exact False.elim h | succ m9 => (rw [wp_Mo_statementOut_L308] at h; replace h := h.2 c0; replace h := qb1 _ h; replace h := qb2 _ h; replace h := h.2; replace h := h.1 c4; replace h := h.2 c5; replace h := h.1 c6; replace h := h.2 c7; replace h := qb8 _ h; replace h := qb9 _ h; replace h := qb10 m9 _ _ h; exact h))⟩
              · exact Or.inr (⟨_, _, fun K post q => (by rw [wp_Mo_statementOut_L308]; exact (pF c0 ((qa1 _ ((qa2 _ (⟨s3, (pT c4 ((pF c5 ((pT c6 ((pF c7 ((qa8 _ ((qa9 _ ((qa10 _ _ (q))))))))))))))⟩))))))), fun m9 K post h => (by cases m9 with | zero => exact False.elim h | succ m9 => (rw [wp_Mo_statementOut_L308] at h; replace h := h.2 c0; replace h := qb1 _ h; replace h := qb2 _ h; replace h := h.2; replace h := h.1 c4; replace h := h.2 c5; replace h := h.1 c6; replace h := h.2 c7; replace h := qb8 _ h; replace h := qb9 _ h; replace h := qb10 m9 _ _ h; exact h))⟩)
          · obtain ⟨r11, u11, qa7, qb7⟩ := dt_Mo_kid h
            replace h := qb7 _ h
            obtain ⟨r12, u12, qa8, qb8⟩ := hrf _ _ _ h
            replace h := qb8 _ h
            rcases ih _ _ _ _ _ _ _ _ h with ⟨w9_0, w9_1, w9_2, w9_3, w9_4, w9_5, qa9, qb9⟩ | ⟨w9_0, w9_1, qa9, qb9⟩
            · exact Or.inl ⟨_, _, _, _, _, _, fun K post q => (by rw [wp_Mo_statementOut_L308]; exact (pF c0 ((qa1 _ ((qa2 _ (⟨s3, (pT c4 ((pF c5 ((pF c6 ((qa7 _ ((qa8 _ ((qa9 _ _ (q))))))))))))⟩))))))), fun m9 K post h => (by cases m9 with | zero => exact False.elim h | succ m9 => (rw [wp_Mo_statementOut_L308] at h; replace h := h.2 c0; replace h := qb1 _ h; replace h := qb2 _ h; replace h := h.2; replace h := h.1 c4; replace h := h.2 c5; replace h := h.2 c6; replace h := qb7 _ h; replace h := qb8 _ h; replace h := qb9 m9 _ _ h; exact h))⟩
            · exact Or.inr (⟨_, _, fun K post q => (by rw [wp_Mo_statementOut_L308]; exact (pF c0 ((qa1 _ ((qa2 _ (⟨s3, (pT c4 ((pF c5 ((pF c6 ((qa7 _ ((qa8 _ ((qa9 _ _ (q))))))))))))⟩))))))), fun m9 K post h => (by cases m9 with | zero => exact False.elim h | succ m9 => (rw [wp_Mo_statementOut_L308] at h; replace h := h.2 c0; replace h := qb1 _ h; replace h := qb2 _ h; replace h := h.2; replace h := h.1 c4; replace h := h.2 c5; replace h := h.2 c6; replace h := qb7 _ h; replace h := qb8 _ h; replace h := qb9 m9 _ _ h; exact h))⟩)
      · obtain ⟨r8, u8, qa5, qb5⟩ := dt_Mo_kid h
        replace h := qb5 _ h
        obtain ⟨r9, u9, qa6, qb6⟩ := dt_Mo_sumOut d _ _ _ _ _ h
        replace h := qb6 _ h
        rcases br_el h with ⟨c7, h⟩ | ⟨c7, h⟩
        · rcases br_el h with ⟨c8, h⟩ | ⟨c8, h⟩
          · obtain ⟨r10, u10, qa9, qb9⟩ := dt_Mo_word h
            replace h := qb9 _ h
            rcases ih _ _ _ _ _ _ _ _ h with ⟨w10_0, w10_1, w10_2, w10_3, w10_4, w10_5, qa10, qb10⟩ | ⟨w10_0, w10_1, qa10, qb10⟩
            · exact Or.inl ⟨_, _, _, _, _, _, fun K post q => (by rw [wp_Mo_statementOut_L308]; exact (pF c0 ((qa1 _ ((qa2 _ (⟨s3, (pF c4 ((qa5 _ ((qa6 _ ((pT c7 ((pT c8 ((qa9 _ ((qa10 _ _ (q))))))))))))))⟩))))))), fun m9 K post h => (by cases m9 with | zero => exact False.elim h | succ m9 => (rw [wp_Mo_statementOut_L308] at h; replace h := h.2 c0; replace h := qb1 _ h; replace h := qb2 _ h; replace h := h.2; replace h := h.2 c4; replace h := qb5 _ h; replace h := qb6 _ h; replace h := h.1 c7; replace h := h.1 c8; replace h := qb9 _ h; replace h := qb10 m9 _ _ h; exact h))⟩
            · exact Or.inr (⟨_, _, fun K post q => (by rw [wp_Mo_statementOut_L308]; exact (pF c0 ((qa1 _ ((qa2 _ (⟨s3, (pF c4 ((qa5 _ ((qa6 _ ((pT c7 ((pT c8 ((qa9 _ ((qa10 _ _ (q))))))))))))))⟩))))))), fun m9 K post h => (by cases m9 with | zero => exact False.elim h | succ m9 => (rw [wp_Mo_statementOut_L308] at h; replace h := h.2 c0; replace h := qb1 _ h; replace h := qb2 _ h; replace h := h.2; replace h := h.2 c4; replace h := qb5 _ h; replace h := qb6 _ h; replace h := h.1 c7; replace h := h.1 c8; replace h := qb9 _ h; replace h := qb10 m9 _ _ h; exact h))⟩)
          · rcases ih _ _ _ _ _ _ _ _ h with ⟨w9_0, w9_1, w9_2, w9_3, w9_4, w9_5, qa9, qb9⟩ | ⟨w9_0, w9_1, qa9, qb9⟩
            · exact Or.inl ⟨_, _, _, _, _, _, fun K post q => (by rw [wp_Mo_statementOut_L308]; exact (pF c0 ((qa1 _ ((qa2 _ (⟨s3, (pF c4 ((qa5 _ ((qa6 _ ((pT c7 ((pF c8 ((qa9 _ _ (q))))))))))))⟩))))))), fun m9 K post h => (by cases m9 with | zero => exact False.elim h | succ m9 => (rw [wp_Mo_statementOut_L308] at h; replace h := h.2 c0; replace h := qb1 _ h; replace h := qb2 _ h; replace h := h.2; replace h := h.2 c4; replace h := qb5 _ h; replace h := qb6 _ h; replace h := h.1 c7; replace h := h.2 c8; replace h := qb9 m9 _ _ h; exact h))⟩
            · exact Or.inr (⟨_, _, fun K post q => (by rw [wp_Mo_statementOut_L308]; exact (pF c0 ((qa1 _ ((qa2 _ (⟨s3, (pF c4 ((qa5 _ ((qa6 _ ((pT c7 ((pF c8 ((qa9 _ _ (q))))))))))))⟩))))))), fun m9 K post h => (by cases m9 with | zero => exact False.elim h | succ m9 => (rw [wp_Mo_statementOut_L308] at h; replace h := h.2 c0; replace h := qb1 _ h; replace h := qb2 _ h; replace h := h.2; replace h := h.2 c4; replace h := qb5 _ h; replace h := qb6 _ h; replace h := h.1 c7; replace h := h.2 c8; replace h := qb9 m9 _ _ h; exact h))⟩)
        · rcases ih _ _ _ _ _ _ _ _ h with ⟨w8_0, w8_1, w8_2, w8_3, w8_4, w8_5, qa8, qb8⟩ | ⟨w8_0, w8_1, qa8, qb8⟩
          · exact Or.inl ⟨_, _, _, _, _, _, fun K post q => (by rw [wp_Mo_statementOut_L308]; exact (pF c0 ((qa1 _ ((qa2 _ (⟨s3, (pF c4 ((qa5 _ ((qa6 _ ((pF c7 ((qa8 _ _ (q))))))))))⟩))))))), fun m9 K post h => (by cases m9 with | zero => exact False.elim h | succ m9 => (rw [wp_Mo_statementOut_L308] at h; replace h := h.2 c0; replace h := qb1 _ h; replace h := qb2 _ h; replace h := h.2; replace h := h.2 c4; replace h := qb5 _ h; replace h := qb6 _ h; replace h := h.2 c7; replace h := qb8 m9 _ _ h; exact h))⟩
          · exact Or.inr (⟨_, _, fun K post q => (by rw [wp_Mo_statementOut_L308]; exact (pF c0 ((qa1 _ ((qa2 _ (⟨s3, (pF c4 ((qa5 _ ((qa6 _ ((pF c7 ((qa8 _ _ (q))))))))))⟩))))))), fun m9 K post h => (by cases m9 with | zero => exact False.elim h | succ m9 => (rw [wp_Mo_statementOut_L308] at h; replace h := h.2 c0; replace h := qb1 _ h; replace h := qb2 _ h; replace h := h.2; replace h := h.2 c4; replace h := qb5 _ h; replace h := qb6 _ h; replace h := h.2 c7; replace h := qb8 m9 _ _ h; exact h))⟩)
set_option maxHeartbeats 2000000 in
theorem dt_Mo_statementOut_J439 {d : Nat} {rf : T_Mo → Int32 → (Unit → T_Mo → Prop) → Prop} {z_this : T_Mo} {x1 : Int32} {x2 : Int32} {x3 : Int32} {x4 : Int32} {x5 : Int32} (hrf : ∀ (v0 : T_Mo) (v1 : Int32) (post : (Unit → T_Mo → Prop)), rf v0 v1 post → (∃ (w0 : Unit) (w1 : T_Mo), (∀ (post : (Unit → T_Mo → Prop)), post w0 w1 → rf v0 v1 post) ∧ (∀ (post : (Unit → T_Mo → Prop)), rf v0 v1 post → post w0 w1))) {post : Unit → T_Mo → Prop} (h : wp_Mo_statementOut_J439 d rf post z_this x1 x2 x3 x4 x5) : (∃ (w0 : Unit) (w1 : T_Mo), (∀ (post : Unit → T_Mo → Prop), post w0 w1 → wp_Mo_statementOut_J439 d rf post z_this x1 x2 x3 x4 x5) ∧ (∀ (post : Unit → T_Mo → Prop), wp_Mo_statementOut_J439 d rf post z_this x1 x2 x3 x4 x5 → post w0 w1)) := by
  unfold wp_Mo_statementOut_J439 at h
  obtain ⟨r28, u28, qa0, qb0⟩ := dt_Mo_newLine h
  replace h := qb0 _ h
  exact ⟨_, _, fun post q => (by unfold wp_Mo_statementOut_J439; exact (qa0 _ (q))), fun post h => (by unfold wp_Mo_statementOut_J439 at h; replace h := qb0 _ h; exact h)⟩
set_option maxHeartbeats 2000000 in
theorem dt_Mo_statementOut_J303 {d : Nat} {rf : T_Mo → Int32 → (Unit → T_Mo → Prop) → Prop} {z_this : T_Mo} {x1 : Int32} {x2 : Int32} {x3 : Int32} {y0 : Int32} (hrf : ∀ (v0 : T_Mo) (v1 : Int32) (post : (Unit → T_Mo → Prop)), rf v0 v1 post → (∃ (w0 : Unit) (w1 : T_Mo), (∀ (post : (Unit → T_Mo → Prop)), post w0 w1 → rf v0 v1 post) ∧ (∀ (post : (Unit → T_Mo → Prop)), rf v0 v1 post → post w0 w1))) {post : Unit → T_Mo → Prop} (h : wp_Mo_statementOut_J303 d rf post z_this x1 x2 x3 y0) : (∃ (w0 : Unit) (w1 : T_Mo), (∀ (post : Unit → T_Mo → Prop), post w0 w1 → wp_Mo_statementOut_J303 d rf post z_this x1 x2 x3 y0) ∧ (∀ (post : Unit → T_Mo → Prop), wp_Mo_statementOut_J303 d rf post z_this x1 x2 x3 y0 → post w0 w1)) := by
  unfold wp_Mo_statementOut_J303 at h
  obtain ⟨k0, h⟩ := h
  rcases dt_Mo_statementOut_L308 hrf k0 _ _ _ _ _ _ _ _ h with ⟨z_this, x1, x2, x3, x4, x5, qa0, qb0⟩ | ⟨w0_0, w0_1, qa0, qb0⟩
  · replace h := qb0 k0 _ _ h
    rcases br_el h with ⟨c1, h⟩ | ⟨c1, h⟩
    · obtain ⟨r29, u29, qa2, qb2⟩ := dt_Mo_word h
      replace h := qb2 _ h
      obtain ⟨w3_0, w3_1, qa3, qb3⟩ := dt_Mo_statementOut_J439 hrf h
      exact ⟨_, _, fun post q => (by unfold wp_Mo_statementOut_J303; exact ⟨k0, (qa0 _ _ ((pT c1 ((qa2 _ ((qa3 _ (q))))))))⟩), fun post h => (by unfold wp_Mo_statementOut_J303 at h; obtain ⟨m0, h⟩ := h; replace h := qb0 m0 _ _ h; replace h := h.1 c1; replace h := qb2 _ h; replace h := qb3 _ h; exact h)⟩
    · obtain ⟨w2_0, w2_1, qa2, qb2⟩ := dt_Mo_statementOut_J439 hrf h
      exact ⟨_, _, fun post q => (by unfold wp_Mo_statementOut_J303; exact ⟨k0, (qa0 _ _ ((pF c1 ((qa2 _ (q))))))⟩), fun post h => (by unfold wp_Mo_statementOut_J303 at h; obtain ⟨m0, h⟩ := h; replace h := qb0 m0 _ _ h; replace h := h.2 c1; replace h := qb2 _ h; exact h)⟩
  · exact ⟨_, _, fun post q => (by unfold wp_Mo_statementOut_J303; exact ⟨k0, (qa0 _ _ (q))⟩), fun post h => (by unfold wp_Mo_statementOut_J303 at h; obtain ⟨m0, h⟩ := h; replace h := qb0 m0 _ _ h; exact h)⟩
set_option maxHeartbeats 2000000 in
theorem dt_Mo_statementOut_J302 {d : Nat} {rf : T_Mo → Int32 → (Unit → T_Mo → Prop) → Prop} {z_this : T_Mo} {x1 : Int32} {x2 : Int32} {x3 : Int32} (hrf : ∀ (v0 : T_Mo) (v1 : Int32) (post : (Unit → T_Mo → Prop)), rf v0 v1 post → (∃ (w0 : Unit) (w1 : T_Mo), (∀ (post : (Unit → T_Mo → Prop)), post w0 w1 → rf v0 v1 post) ∧ (∀ (post : (Unit → T_Mo → Prop)), rf v0 v1 post → post w0 w1))) {post : Unit → T_Mo → Prop} (h : wp_Mo_statementOut_J302 d rf post z_this x1 x2 x3) : (∃ (w0 : Unit) (w1 : T_Mo), (∀ (post : Unit → T_Mo → Prop), post w0 w1 → wp_Mo_statementOut_J302 d rf post z_this x1 x2 x3) ∧ (∀ (post : Unit → T_Mo → Prop), wp_Mo_statementOut_J302 d rf post z_this x1 x2 x3 → post w0 w1)) := by
  unfold wp_Mo_statementOut_J302 at h
  obtain ⟨w0_0, w0_1, qa0, qb0⟩ := dt_Mo_statementOut_J303 hrf h
  exact ⟨_, _, fun post q => (by unfold wp_Mo_statementOut_J302; exact (qa0 _ (q))), fun post h => (by unfold wp_Mo_statementOut_J302 at h; replace h := qb0 _ h; exact h)⟩
set_option maxHeartbeats 2000000 in
theorem dt_Mo_statementOut_J286 {d : Nat} {rf : T_Mo → Int32 → (Unit → T_Mo → Prop) → Prop} {z_this : T_Mo} {x1 : Int32} {x2 : Int32} {x3 : Int32} (hrf : ∀ (v0 : T_Mo) (v1 : Int32) (post : (Unit → T_Mo → Prop)), rf v0 v1 post → (∃ (w0 : Unit) (w1 : T_Mo), (∀ (post : (Unit → T_Mo → Prop)), post w0 w1 → rf v0 v1 post) ∧ (∀ (post : (Unit → T_Mo → Prop)), rf v0 v1 post → post w0 w1))) {post : Unit → T_Mo → Prop} (h : wp_Mo_statementOut_J286 d rf post z_this x1 x2 x3) : (∃ (w0 : Unit) (w1 : T_Mo), (∀ (post : Unit → T_Mo → Prop), post w0 w1 → wp_Mo_statementOut_J286 d rf post z_this x1 x2 x3) ∧ (∀ (post : Unit → T_Mo → Prop), wp_Mo_statementOut_J286 d rf post z_this x1 x2 x3 → post w0 w1)) := by
  unfold wp_Mo_statementOut_J286 at h
  rcases br_el h with ⟨c0, h⟩ | ⟨c0, h⟩
  · obtain ⟨w1_0, w1_1, qa1, qb1⟩ := dt_Mo_statementOut_J302 hrf h
    exact ⟨_, _, fun post q => (by unfold wp_Mo_statementOut_J286; exact (pT c0 ((qa1 _ (q))))), fun post h => (by unfold wp_Mo_statementOut_J286 at h; replace h := h.1 c0; replace h := qb1 _ h; exact h)⟩
  · rcases br_el h with ⟨c1, h⟩ | ⟨c1, h⟩
    · obtain ⟨w2_0, w2_1, qa2, qb2⟩ := dt_Mo_statementOut_J302 hrf h
      exact ⟨_, _, fun post q => (by unfold wp_Mo_statementOut_J286; exact (pF c0 ((pT c1 ((qa2 _ (q))))))), fun post h => (by unfold wp_Mo_statementOut_J286 at h; replace h := h.2 c0; replace h := h.1 c1; replace h := qb2 _ h; exact h)⟩
    · obtain ⟨w2_0, w2_1, qa2, qb2⟩ := dt_Mo_statementOut_J303 hrf h
      exact ⟨_, _, fun post q => (by unfold wp_Mo_statementOut_J286; exact (pF c0 ((pF c1 ((qa2 _ (q))))))), fun post h => (by unfold wp_Mo_statementOut_J286 at h; replace h := h.2 c0; replace h := h.2 c1; replace h := qb2 _ h; exact h)⟩
set_option maxHeartbeats 2000000 in
theorem dt_Mo_statementOut {d : Nat} {rf : T_Mo → Int32 → (Unit → T_Mo → Prop) → Prop} {z_this : T_Mo} {a1 : Int32} (hrf : ∀ (v0 : T_Mo) (v1 : Int32) (post : (Unit → T_Mo → Prop)), rf v0 v1 post → (∃ (w0 : Unit) (w1 : T_Mo), (∀ (post : (Unit → T_Mo → Prop)), post w0 w1 → rf v0 v1 post) ∧ (∀ (post : (Unit → T_Mo → Prop)), rf v0 v1 post → post w0 w1))) {post : Unit → T_Mo → Prop} (h : wp_Mo_statementOut d rf z_this a1 post) : (∃ (w0 : Unit) (w1 : T_Mo), (∀ (post : Unit → T_Mo → Prop), post w0 w1 → wp_Mo_statementOut d rf z_this a1 post) ∧ (∀ (post : Unit → T_Mo → Prop), wp_Mo_statementOut d rf z_this a1 post → post w0 w1)) := by
  unfold wp_Mo_statementOut at h
  obtain ⟨r1, u1, qa0, qb0⟩ := dt_Mo_node1 h
  replace h := qb0 _ h
  obtain ⟨s1, h⟩ := h
  obtain ⟨r2, u2, qa2, qb2⟩ := dt_Mo_node1 h
  replace h := qb2 _ h
  obtain ⟨s3, h⟩ := h
  rcases Classical.em ((z_this.1.2.1.2.2.2 (r1).toNatClampNeg) = (10 : Int32)) with c4_0 | c4_0
  · replace h := (h).1 c4_0
    obtain ⟨r3, u3, qa5, qb5⟩ := dt_Mo_word h
    replace h := qb5 _ h
    obtain ⟨r4, u4, qa6, qb6⟩ := dt_Mo_node1 h
    replace h := qb6 _ h
    obtain ⟨s7, h⟩ := h
    obtain ⟨r5, u5, qa8, qb8⟩ := dt_Mo_name h
    replace h := qb8 _ h
    obtain ⟨w9_0, w9_1, qa9, qb9⟩ := dt_Mo_statementOut_J286 hrf h
    exact ⟨_, _, fun post q => (by unfold wp_Mo_statementOut; exact (qa0 _ (⟨s1, (qa2 _ (⟨s3, ⟨fun _ => (qa5 _ ((qa6 _ (⟨s7, (qa8 _ ((qa9 _ (q))))⟩)))), fun q9 => absurd (c4_0.symm.trans q9) (by decide), fun q9 => absurd (c4_0.symm.trans q9) (by decide), fun q9 => absurd (c4_0.symm.trans q9) (by decide), fun q9 => absurd (c4_0.symm.trans q9) (by decide), fun q9 => absurd (c4_0.symm.trans q9) (by decide), fun q9 => absurd (c4_0.symm.trans q9) (by decide), fun q9 => absurd (c4_0.symm.trans q9) (by decide), fun q9 => absurd (c4_0.symm.trans q9) (by decide), fun q9 => absurd (c4_0.symm.trans q9) (by decide), fun q9 => absurd (c4_0.symm.trans q9) (by decide), fun q9 => absurd (c4_0.symm.trans q9) (by decide), fun q9 => absurd c4_0 (q9.1)⟩⟩))⟩))), fun post h => (by unfold wp_Mo_statementOut at h; replace h := qb0 _ h; replace h := h.2; replace h := qb2 _ h; replace h := h.2; replace h := (h).1 c4_0; replace h := qb5 _ h; replace h := qb6 _ h; replace h := h.2; replace h := qb8 _ h; replace h := qb9 _ h; exact h)⟩
  · rcases Classical.em ((z_this.1.2.1.2.2.2 (r1).toNatClampNeg) = (11 : Int32)) with c4_1 | c4_1
    · replace h := (h).2.1 c4_1
      obtain ⟨r30, u30, qa5, qb5⟩ := dt_Mo_word h
      replace h := qb5 _ h
      obtain ⟨w6_0, w6_1, qa6, qb6⟩ := dt_Mo_statementOut_J286 hrf h
      exact ⟨_, _, fun post q => (by unfold wp_Mo_statementOut; exact (qa0 _ (⟨s1, (qa2 _ (⟨s3, ⟨fun q9 => absurd q9 c4_0, fun _ => (qa5 _ ((qa6 _ (q)))), fun q9 => absurd (c4_1.symm.trans q9) (by decide), fun q9 => absurd (c4_1.symm.trans q9) (by decide), fun q9 => absurd (c4_1.symm.trans q9) (by decide), fun q9 => absurd (c4_1.symm.trans q9) (by decide), fun q9 => absurd (c4_1.symm.trans q9) (by decide), fun q9 => absurd (c4_1.symm.trans q9) (by decide), fun q9 => absurd (c4_1.symm.trans q9) (by decide), fun q9 => absurd (c4_1.symm.trans q9) (by decide), fun q9 => absurd (c4_1.symm.trans q9) (by decide), fun q9 => absurd (c4_1.symm.trans q9) (by decide), fun q9 => absurd c4_1 (q9.2.1)⟩⟩))⟩))), fun post h => (by unfold wp_Mo_statementOut at h; replace h := qb0 _ h; replace h := h.2; replace h := qb2 _ h; replace h := h.2; replace h := (h).2.1 c4_1; replace h := qb5 _ h; replace h := qb6 _ h; exact h)⟩
    · rcases Classical.em ((z_this.1.2.1.2.2.2 (r1).toNatClampNeg) = (12 : Int32)) with c4_2 | c4_2
      · replace h := (h).2.2.1 c4_2
        obtain ⟨r31, u31, qa5, qb5⟩ := dt_Mo_word h
        replace h := qb5 _ h
        obtain ⟨w6_0, w6_1, qa6, qb6⟩ := dt_Mo_statementOut_J286 hrf h
        exact ⟨_, _, fun post q => (by unfold wp_Mo_statementOut; exact (qa0 _ (⟨s1, (qa2 _ (⟨s3, ⟨fun q9 => absurd q9 c4_0, fun q9 => absurd q9 c4_1, fun _ => (qa5 _ ((qa6 _ (q)))), fun q9 => absurd (c4_2.symm.trans q9) (by decide), fun q9 => absurd (c4_2.symm.trans q9) (by decide), fun q9 => absurd (c4_2.symm.trans q9) (by decide), fun q9 => absurd (c4_2.symm.trans q9) (by decide), fun q9 => absurd (c4_2.symm.trans q9) (by decide), fun q9 => absurd (c4_2.symm.trans q9) (by decide), fun q9 => absurd (c4_2.symm.trans q9) (by decide), fun q9 => absurd (c4_2.symm.trans q9) (by decide), fun q9 => absurd (c4_2.symm.trans q9) (by decide), fun q9 => absurd c4_2 (q9.2.2.1)⟩⟩))⟩))), fun post h => (by unfold wp_Mo_statementOut at h; replace h := qb0 _ h; replace h := h.2; replace h := qb2 _ h; replace h := h.2; replace h := (h).2.2.1 c4_2; replace h := qb5 _ h; replace h := qb6 _ h; exact h)⟩
      · rcases Classical.em ((z_this.1.2.1.2.2.2 (r1).toNatClampNeg) = (13 : Int32)) with c4_3 | c4_3
        · replace h := (h).2.2.2.1 c4_3
          obtain ⟨r32, u32, qa5, qb5⟩ := dt_Mo_word h
          replace h := qb5 _ h
          obtain ⟨r33, u33, qa6, qb6⟩ := dt_Mo_node1 h
          replace h := qb6 _ h
          obtain ⟨s7, h⟩ := h
          obtain ⟨r34, u34, qa8, qb8⟩ := dt_Mo_name h
          replace h := qb8 _ h
          obtain ⟨w9_0, w9_1, qa9, qb9⟩ := dt_Mo_statementOut_J286 hrf h
          exact ⟨_, _, fun post q => (by unfold wp_Mo_statementOut; exact (qa0 _ (⟨s1, (qa2 _ (⟨s3, ⟨fun q9 => absurd q9 c4_0, fun q9 => absurd q9 c4_1, fun q9 => absurd q9 c4_2, fun _ => (qa5 _ ((qa6 _ (⟨s7, (qa8 _ ((qa9 _ (q))))⟩)))), fun q9 => absurd (c4_3.symm.trans q9) (by decide), fun q9 => absurd (c4_3.symm.trans q9) (by decide), fun q9 => absurd (c4_3.symm.trans q9) (by decide), fun q9 => absurd (c4_3.symm.trans q9) (by decide), fun q9 => absurd (c4_3.symm.trans q9) (by decide), fun q9 => absurd (c4_3.symm.trans q9) (by decide), fun q9 => absurd (c4_3.symm.trans q9) (by decide), fun q9 => absurd (c4_3.symm.trans q9) (by decide), fun q9 => absurd c4_3 (q9.2.2.2.1)⟩⟩))⟩))), fun post h => (by unfold wp_Mo_statementOut at h; replace h := qb0 _ h; replace h := h.2; replace h := qb2 _ h; replace h := h.2; replace h := (h).2.2.2.1 c4_3; replace h := qb5 _ h; replace h := qb6 _ h; replace h := h.2; replace h := qb8 _ h; replace h := qb9 _ h; exact h)⟩
        · rcases Classical.em ((z_this.1.2.1.2.2.2 (r1).toNatClampNeg) = (14 : Int32)) with c4_4 | c4_4
          · replace h := (h).2.2.2.2.1 c4_4
            obtain ⟨r35, u35, qa5, qb5⟩ := dt_Mo_word h
            replace h := qb5 _ h
            obtain ⟨w6_0, w6_1, qa6, qb6⟩ := dt_Mo_statementOut_J286 hrf h
            exact ⟨_, _, fun post q => (by unfold wp_Mo_statementOut; exact (qa0 _ (⟨s1, (qa2 _ (⟨s3, ⟨fun q9 => absurd q9 c4_0, fun q9 => absurd q9 c4_1, fun q9 => absurd q9 c4_2, fun q9 => absurd q9 c4_3, fun _ => (qa5 _ ((qa6 _ (q)))), fun q9 => absurd (c4_4.symm.trans q9) (by decide), fun q9 => absurd (c4_4.symm.trans q9) (by decide), fun q9 => absurd (c4_4.symm.trans q9) (by decide), fun q9 => absurd (c4_4.symm.trans q9) (by decide), fun q9 => absurd (c4_4.symm.trans q9) (by decide), fun q9 => absurd (c4_4.symm.trans q9) (by decide), fun q9 => absurd (c4_4.symm.trans q9) (by decide), fun q9 => absurd c4_4 (q9.2.2.2.2.1)⟩⟩))⟩))), fun post h => (by unfold wp_Mo_statementOut at h; replace h := qb0 _ h; replace h := h.2; replace h := qb2 _ h; replace h := h.2; replace h := (h).2.2.2.2.1 c4_4; replace h := qb5 _ h; replace h := qb6 _ h; exact h)⟩
          · rcases Classical.em ((z_this.1.2.1.2.2.2 (r1).toNatClampNeg) = (15 : Int32)) with c4_5 | c4_5
            · replace h := (h).2.2.2.2.2.1 c4_5
              obtain ⟨r36, u36, qa5, qb5⟩ := dt_Mo_word h
              replace h := qb5 _ h
              obtain ⟨w6_0, w6_1, qa6, qb6⟩ := dt_Mo_statementOut_J286 hrf h
              exact ⟨_, _, fun post q => (by unfold wp_Mo_statementOut; exact (qa0 _ (⟨s1, (qa2 _ (⟨s3, ⟨fun q9 => absurd q9 c4_0, fun q9 => absurd q9 c4_1, fun q9 => absurd q9 c4_2, fun q9 => absurd q9 c4_3, fun q9 => absurd q9 c4_4, fun _ => (qa5 _ ((qa6 _ (q)))), fun q9 => absurd (c4_5.symm.trans q9) (by decide), fun q9 => absurd (c4_5.symm.trans q9) (by decide), fun q9 => absurd (c4_5.symm.trans q9) (by decide), fun q9 => absurd (c4_5.symm.trans q9) (by decide), fun q9 => absurd (c4_5.symm.trans q9) (by decide), fun q9 => absurd (c4_5.symm.trans q9) (by decide), fun q9 => absurd c4_5 (q9.2.2.2.2.2.1)⟩⟩))⟩))), fun post h => (by unfold wp_Mo_statementOut at h; replace h := qb0 _ h; replace h := h.2; replace h := qb2 _ h; replace h := h.2; replace h := (h).2.2.2.2.2.1 c4_5; replace h := qb5 _ h; replace h := qb6 _ h; exact h)⟩
            · rcases Classical.em ((z_this.1.2.1.2.2.2 (r1).toNatClampNeg) = (16 : Int32)) with c4_6 | c4_6
              · replace h := (h).2.2.2.2.2.2.1 c4_6
                obtain ⟨r37, u37, qa5, qb5⟩ := dt_Mo_word h
                replace h := qb5 _ h
                obtain ⟨w6_0, w6_1, qa6, qb6⟩ := dt_Mo_statementOut_J286 hrf h
                exact ⟨_, _, fun post q => (by unfold wp_Mo_statementOut; exact (qa0 _ (⟨s1, (qa2 _ (⟨s3, ⟨fun q9 => absurd q9 c4_0, fun q9 => absurd q9 c4_1, fun q9 => absurd q9 c4_2, fun q9 => absurd q9 c4_3, fun q9 => absurd q9 c4_4, fun q9 => absurd q9 c4_5, fun _ => (qa5 _ ((qa6 _ (q)))), fun q9 => absurd (c4_6.symm.trans q9) (by decide), fun q9 => absurd (c4_6.symm.trans q9) (by decide), fun q9 => absurd (c4_6.symm.trans q9) (by decide), fun q9 => absurd (c4_6.symm.trans q9) (by decide), fun q9 => absurd (c4_6.symm.trans q9) (by decide), fun q9 => absurd c4_6 (q9.2.2.2.2.2.2.1)⟩⟩))⟩))), fun post h => (by unfold wp_Mo_statementOut at h; replace h := qb0 _ h; replace h := h.2; replace h := qb2 _ h; replace h := h.2; replace h := (h).2.2.2.2.2.2.1 c4_6; replace h := qb5 _ h; replace h := qb6 _ h; exact h)⟩
              · rcases Classical.em ((z_this.1.2.1.2.2.2 (r1).toNatClampNeg) = (17 : Int32)) with c4_7 | c4_7
                · replace h := (h).2.2.2.2.2.2.2.1 c4_7
                  obtain ⟨r38, u38, qa5, qb5⟩ := dt_Mo_word h
                  replace h := qb5 _ h
                  obtain ⟨w6_0, w6_1, qa6, qb6⟩ := dt_Mo_statementOut_J286 hrf h
                  exact ⟨_, _, fun post q => (by unfold wp_Mo_statementOut; exact (qa0 _ (⟨s1, (qa2 _ (⟨s3, ⟨fun q9 => absurd q9 c4_0, fun q9 => absurd q9 c4_1, fun q9 => absurd q9 c4_2, fun q9 => absurd q9 c4_3, fun q9 => absurd q9 c4_4, fun q9 => absurd q9 c4_5, fun q9 => absurd q9 c4_6, fun _ => (qa5 _ ((qa6 _ (q)))), fun q9 => absurd (c4_7.symm.trans q9) (by decide), fun q9 => absurd (c4_7.symm.trans q9) (by decide), fun q9 => absurd (c4_7.symm.trans q9) (by decide), fun q9 => absurd (c4_7.symm.trans q9) (by decide), fun q9 => absurd c4_7 (q9.2.2.2.2.2.2.2.1)⟩⟩))⟩))), fun post h => (by unfold wp_Mo_statementOut at h; replace h := qb0 _ h; replace h := h.2; replace h := qb2 _ h; replace h := h.2; replace h := (h).2.2.2.2.2.2.2.1 c4_7; replace h := qb5 _ h; replace h := qb6 _ h; exact h)⟩
                · rcases Classical.em ((z_this.1.2.1.2.2.2 (r1).toNatClampNeg) = (18 : Int32)) with c4_8 | c4_8
                  · replace h := (h).2.2.2.2.2.2.2.2.1 c4_8
                    obtain ⟨r39, u39, qa5, qb5⟩ := dt_Mo_word h
                    replace h := qb5 _ h
                    obtain ⟨r40, u40, qa6, qb6⟩ := dt_Mo_node1 h
                    replace h := qb6 _ h
                    obtain ⟨s7, h⟩ := h
                    obtain ⟨r41, u41, qa8, qb8⟩ := dt_Mo_name h
                    replace h := qb8 _ h
                    obtain ⟨w9_0, w9_1, qa9, qb9⟩ := dt_Mo_statementOut_J286 hrf h
                    exact ⟨_, _, fun post q => (by unfold wp_Mo_statementOut; exact (qa0 _ (⟨s1, (qa2 _ (⟨s3, ⟨fun q9 => absurd q9 c4_0, fun q9 => absurd q9 c4_1, fun q9 => absurd q9 c4_2, fun q9 => absurd q9 c4_3, fun q9 => absurd q9 c4_4, fun q9 => absurd q9 c4_5, fun q9 => absurd q9 c4_6, fun q9 => absurd q9 c4_7, fun _ => (qa5 _ ((qa6 _ (⟨s7, (qa8 _ ((qa9 _ (q))))⟩)))), fun q9 => absurd (c4_8.symm.trans q9) (by decide), fun q9 => absurd (c4_8.symm.trans q9) (by decide), fun q9 => absurd (c4_8.symm.trans q9) (by decide), fun q9 => absurd c4_8 (q9.2.2.2.2.2.2.2.2.1)⟩⟩))⟩))), fun post h => (by unfold wp_Mo_statementOut at h; replace h := qb0 _ h; replace h := h.2; replace h := qb2 _ h; replace h := h.2; replace h := (h).2.2.2.2.2.2.2.2.1 c4_8; replace h := qb5 _ h; replace h := qb6 _ h; replace h := h.2; replace h := qb8 _ h; replace h := qb9 _ h; exact h)⟩
                  · rcases Classical.em ((z_this.1.2.1.2.2.2 (r1).toNatClampNeg) = (19 : Int32)) with c4_9 | c4_9
                    · replace h := (h).2.2.2.2.2.2.2.2.2.1 c4_9
                      obtain ⟨r42, u42, qa5, qb5⟩ := dt_Mo_word h
                      replace h := qb5 _ h
                      obtain ⟨r43, u43, qa6, qb6⟩ := dt_Mo_node1 h
                      replace h := qb6 _ h
                      obtain ⟨s7, h⟩ := h
                      obtain ⟨r44, u44, qa8, qb8⟩ := dt_Mo_name h
                      replace h := qb8 _ h
                      obtain ⟨w9_0, w9_1, qa9, qb9⟩ := dt_Mo_statementOut_J286 hrf h
                      exact ⟨_, _, fun post q => (by unfold wp_Mo_statementOut; exact (qa0 _ (⟨s1, (qa2 _ (⟨s3, ⟨fun q9 => absurd q9 c4_0, fun q9 => absurd q9 c4_1, fun q9 => absurd q9 c4_2, fun q9 => absurd q9 c4_3, fun q9 => absurd q9 c4_4, fun q9 => absurd q9 c4_5, fun q9 => absurd q9 c4_6, fun q9 => absurd q9 c4_7, fun q9 => absurd q9 c4_8, fun _ => (qa5 _ ((qa6 _ (⟨s7, (qa8 _ ((qa9 _ (q))))⟩)))), fun q9 => absurd (c4_9.symm.trans q9) (by decide), fun q9 => absurd (c4_9.symm.trans q9) (by decide), fun q9 => absurd c4_9 (q9.2.2.2.2.2.2.2.2.2.1)⟩⟩))⟩))), fun post h => (by unfold wp_Mo_statementOut at h; replace h := qb0 _ h; replace h := h.2; replace h := qb2 _ h; replace h := h.2; replace h := (h).2.2.2.2.2.2.2.2.2.1 c4_9; replace h := qb5 _ h; replace h := qb6 _ h; replace h := h.2; replace h := qb8 _ h; replace h := qb9 _ h; exact h)⟩
                    · rcases Classical.em ((z_this.1.2.1.2.2.2 (r1).toNatClampNeg) = (20 : Int32)) with c4_10 | c4_10
                      · replace h := (h).2.2.2.2.2.2.2.2.2.2.1 c4_10
                        obtain ⟨r45, u45, qa5, qb5⟩ := dt_Mo_word h
                        replace h := qb5 _ h
                        obtain ⟨w6_0, w6_1, qa6, qb6⟩ := dt_Mo_statementOut_J286 hrf h
                        exact ⟨_, _, fun post q => (by unfold wp_Mo_statementOut; exact (qa0 _ (⟨s1, (qa2 _ (⟨s3, ⟨fun q9 => absurd q9 c4_0, fun q9 => absurd q9 c4_1, fun q9 => absurd q9 c4_2, fun q9 => absurd q9 c4_3, fun q9 => absurd q9 c4_4, fun q9 => absurd q9 c4_5, fun q9 => absurd q9 c4_6, fun q9 => absurd q9 c4_7, fun q9 => absurd q9 c4_8, fun q9 => absurd q9 c4_9, fun _ => (qa5 _ ((qa6 _ (q)))), fun q9 => absurd (c4_10.symm.trans q9) (by decide), fun q9 => absurd c4_10 (q9.2.2.2.2.2.2.2.2.2.2.1)⟩⟩))⟩))), fun post h => (by unfold wp_Mo_statementOut at h; replace h := qb0 _ h; replace h := h.2; replace h := qb2 _ h; replace h := h.2; replace h := (h).2.2.2.2.2.2.2.2.2.2.1 c4_10; replace h := qb5 _ h; replace h := qb6 _ h; exact h)⟩
                      · rcases Classical.em ((z_this.1.2.1.2.2.2 (r1).toNatClampNeg) = (21 : Int32)) with c4_11 | c4_11
                        · replace h := (h).2.2.2.2.2.2.2.2.2.2.2.1 c4_11
                          obtain ⟨r46, u46, qa5, qb5⟩ := dt_Mo_word h
                          replace h := qb5 _ h
                          obtain ⟨w6_0, w6_1, qa6, qb6⟩ := dt_Mo_statementOut_J286 hrf h
                          exact ⟨_, _, fun post q => (by unfold wp_Mo_statementOut; exact (qa0 _ (⟨s1, (qa2 _ (⟨s3, ⟨fun q9 => absurd q9 c4_0, fun q9 => absurd q9 c4_1, fun q9 => absurd q9 c4_2, fun q9 => absurd q9 c4_3, fun q9 => absurd q9 c4_4, fun q9 => absurd q9 c4_5, fun q9 => absurd q9 c4_6, fun q9 => absurd q9 c4_7, fun q9 => absurd q9 c4_8, fun q9 => absurd q9 c4_9, fun q9 => absurd q9 c4_10, fun _ => (qa5 _ ((qa6 _ (q)))), fun q9 => absurd c4_11 (q9.2.2.2.2.2.2.2.2.2.2.2)⟩⟩))⟩))), fun post h => (by unfold wp_Mo_statementOut at h; replace h := qb0 _ h; replace h := h.2; replace h := qb2 _ h; replace h := h.2; replace h := (h).2.2.2.2.2.2.2.2.2.2.2.1 c4_11; replace h := qb5 _ h; replace h := qb6 _ h; exact h)⟩
                        · replace h := (h).2.2.2.2.2.2.2.2.2.2.2.2 ⟨c4_0, c4_1, c4_2, c4_3, c4_4, c4_5, c4_6, c4_7, c4_8, c4_9, c4_10, c4_11⟩
                          obtain ⟨r47, u47, qa5, qb5⟩ := dt_Mo_word h
                          replace h := qb5 _ h
                          obtain ⟨r48, u48, qa6, qb6⟩ := dt_Mo_node1 h
                          replace h := qb6 _ h
                          obtain ⟨s7, h⟩ := h
                          obtain ⟨r49, u49, qa8, qb8⟩ := dt_Mo_digitsOf h
                          replace h := qb8 _ h
                          obtain ⟨w9_0, w9_1, qa9, qb9⟩ := dt_Mo_statementOut_J286 hrf h
                          exact ⟨_, _, fun post q => (by unfold wp_Mo_statementOut; exact (qa0 _ (⟨s1, (qa2 _ (⟨s3, ⟨fun q9 => absurd q9 c4_0, fun q9 => absurd q9 c4_1, fun q9 => absurd q9 c4_2, fun q9 => absurd q9 c4_3, fun q9 => absurd q9 c4_4, fun q9 => absurd q9 c4_5, fun q9 => absurd q9 c4_6, fun q9 => absurd q9 c4_7, fun q9 => absurd q9 c4_8, fun q9 => absurd q9 c4_9, fun q9 => absurd q9 c4_10, fun q9 => absurd q9 c4_11, fun _ => (qa5 _ ((qa6 _ (⟨s7, (qa8 _ ((qa9 _ (q))))⟩))))⟩⟩))⟩))), fun post h => (by unfold wp_Mo_statementOut at h; replace h := qb0 _ h; replace h := h.2; replace h := qb2 _ h; replace h := h.2; replace h := (h).2.2.2.2.2.2.2.2.2.2.2.2 ⟨c4_0, c4_1, c4_2, c4_3, c4_4, c4_5, c4_6, c4_7, c4_8, c4_9, c4_10, c4_11⟩; replace h := qb5 _ h; replace h := qb6 _ h; replace h := h.2; replace h := qb8 _ h; replace h := qb9 _ h; exact h)⟩
set_option maxHeartbeats 2000000 in
theorem dt_Mo_blockOut_L12 {d : Nat} {rf : T_Mo → Int32 → (Unit → T_Mo → Prop) → Prop} (hrf : ∀ (v0 : T_Mo) (v1 : Int32) (post : (Unit → T_Mo → Prop)), rf v0 v1 post → (∃ (w0 : Unit) (w1 : T_Mo), (∀ (post : (Unit → T_Mo → Prop)), post w0 w1 → rf v0 v1 post) ∧ (∀ (post : (Unit → T_Mo → Prop)), rf v0 v1 post → post w0 w1))) : ∀ (n9 : Nat) (z_this : T_Mo) (x1 : Int32) (x2 : Int32) (K : T_Mo → Int32 → Int32 → Prop) (post : Unit → T_Mo → Prop), wp_Mo_blockOut_L12 d rf K post n9 z_this x1 x2 → (∃ (w0 : T_Mo) (w1 : Int32) (w2 : Int32), (∀ (K : T_Mo → Int32 → Int32 → Prop) (post : Unit → T_Mo → Prop), K w0 w1 w2 → wp_Mo_blockOut_L12 d rf K post n9 z_this x1 x2) ∧ (∀ (m9 : Nat) (K : T_Mo → Int32 → Int32 → Prop) (post : Unit → T_Mo → Prop), wp_Mo_blockOut_L12 d rf K post m9 z_this x1 x2 → K w0 w1 w2)) ∨ (∃ (w0 : Unit) (w1 : T_Mo), (∀ (K : T_Mo → Int32 → Int32 → Prop) (post : Unit → T_Mo → Prop), post w0 w1 → wp_Mo_blockOut_L12 d rf K post n9 z_this x1 x2) ∧ (∀ (m9 : Nat) (K : T_Mo → Int32 → Int32 → Prop) (post : Unit → T_Mo → Prop), wp_Mo_blockOut_L12 d rf K post m9 z_this x1 x2 → post w0 w1)) := by
  intro n9
  induction n9 with
  | zero => intro z_this x1 x2 K post h; exact False.elim h
  | succ n9 ih =>
    intro z_this x1 x2 K post h
    rw [wp_Mo_blockOut_L12] at h
    obtain ⟨r3, u3, qa0, qb0⟩ := dt_Mo_node1 h
    replace h := qb0 _ h
    obtain ⟨s1, h⟩ := h
    rcases br_el h with ⟨c2, h⟩ | ⟨c2, h⟩
    · exact Or.inl ⟨_, _, _, fun K post q => (by rw [wp_Mo_blockOut_L12]; exact (qa0 _ (⟨s1, (pT c2 (q))⟩))), fun m9 K post h => (by cases m9 with | zero => exact False.elim h | succ m9 => (rw [wp_Mo_blockOut_L12] at h; replace h := qb0 _ h; replace h := h.2; replace h := h.1 c2; exact h))⟩
    · obtain ⟨r4, u4, qa3, qb3⟩ := dt_Mo_kid h
      replace h := qb3 _ h
      obtain ⟨r5, u5, qa4, qb4⟩ := dt_Mo_statementOut hrf h
      replace h := qb4 _ h
      rcases ih _ _ _ _ _ h with ⟨w5_0, w5_1, w5_2, qa5, qb5⟩ | ⟨w5_0, w5_1, qa5, qb5⟩
      · exact Or.inl ⟨_, _, _, fun K post q => (by rw [wp_Mo_blockOut_L12]; exact (qa0 _ (⟨s1, (pF c2 ((qa3 _ ((qa4 _ ((qa5 _ _ (q))))))))⟩))), fun m9 K post h => (by cases m9 with | zero => exact False.elim h | succ m9 => (rw [wp_Mo_blockOut_L12] at h; replace h := qb0 _ h; replace h := h.2; replace h := h.2 c2; replace h := qb3 _ h; replace h := qb4 _ h; replace h := qb5 m9 _ _ h; exact h))⟩
      · exact Or.inr (⟨_, _, fun K post q => (by rw [wp_Mo_blockOut_L12]; exact (qa0 _ (⟨s1, (pF c2 ((qa3 _ ((qa4 _ ((qa5 _ _ (q))))))))⟩))), fun m9 K post h => (by cases m9 with | zero => exact False.elim h | succ m9 => (rw [wp_Mo_blockOut_L12] at h; replace h := qb0 _ h; replace h := h.2; replace h := h.2 c2; replace h := qb3 _ h; replace h := qb4 _ h; replace h := qb5 m9 _ _ h; exact h))⟩)
set_option maxHeartbeats 2000000 in
theorem dt_Mo_blockOut_F {d : Nat} {rf : T_Mo → Int32 → (Unit → T_Mo → Prop) → Prop} {z_this : T_Mo} {a1 : Int32} (hrf : ∀ (v0 : T_Mo) (v1 : Int32) (post : (Unit → T_Mo → Prop)), rf v0 v1 post → (∃ (w0 : Unit) (w1 : T_Mo), (∀ (post : (Unit → T_Mo → Prop)), post w0 w1 → rf v0 v1 post) ∧ (∀ (post : (Unit → T_Mo → Prop)), rf v0 v1 post → post w0 w1))) {post : Unit → T_Mo → Prop} (h : wp_Mo_blockOut_F d rf z_this a1 post) : (∃ (w0 : Unit) (w1 : T_Mo), (∀ (post : Unit → T_Mo → Prop), post w0 w1 → wp_Mo_blockOut_F d rf z_this a1 post) ∧ (∀ (post : Unit → T_Mo → Prop), wp_Mo_blockOut_F d rf z_this a1 post → post w0 w1)) := by
  unfold wp_Mo_blockOut_F at h
  obtain ⟨r1, u1, qa0, qb0⟩ := dt_Mo_say h
  replace h := qb0 _ h
  obtain ⟨r2, u2, qa1, qb1⟩ := dt_Mo_newLine h
  replace h := qb1 _ h
  obtain ⟨k2, h⟩ := h
  rcases dt_Mo_blockOut_L12 hrf k2 _ _ _ _ _ h with ⟨z_this, x1, x2, qa2, qb2⟩ | ⟨w2_0, w2_1, qa2, qb2⟩
  · replace h := qb2 k2 _ _ h
    obtain ⟨r6, u6, qa3, qb3⟩ := dt_Mo_say h
    replace h := qb3 _ h
    exact ⟨_, _, fun post q => (by unfold wp_Mo_blockOut_F; exact (qa0 _ ((qa1 _ (⟨k2, (qa2 _ _ ((qa3 _ (q))))⟩))))), fun post h => (by unfold wp_Mo_blockOut_F at h; replace h := qb0 _ h; replace h := qb1 _ h; obtain ⟨m2, h⟩ := h; replace h := qb2 m2 _ _ h; replace h := qb3 _ h; exact h)⟩
  · exact ⟨_, _, fun post q => (by unfold wp_Mo_blockOut_F; exact (qa0 _ ((qa1 _ (⟨k2, (qa2 _ _ (q))⟩))))), fun post h => (by unfold wp_Mo_blockOut_F at h; replace h := qb0 _ h; replace h := qb1 _ h; obtain ⟨m2, h⟩ := h; replace h := qb2 m2 _ _ h; exact h)⟩
theorem dt_Mo_blockOut (d : Nat) : ∀ (e : Nat), ∀ (v0 : T_Mo) (v1 : Int32) (post : (Unit → T_Mo → Prop)), wp_Mo_blockOut d e v0 v1 post → (∃ (w0 : Unit) (w1 : T_Mo), (∀ (post : (Unit → T_Mo → Prop)), post w0 w1 → wp_Mo_blockOut d e v0 v1 post) ∧ (∀ (post : (Unit → T_Mo → Prop)), wp_Mo_blockOut d e v0 v1 post → post w0 w1)) := by
  intro e
  induction e with
  | zero => intro v0 v1 post h; exact False.elim h
  | succ e ih =>
    intro v0 v1 post h
    exact dt_Mo_blockOut_F ih h
set_option maxHeartbeats 2000000 in
theorem dt_Mo_check_L17 {d : Nat} : ∀ (n9 : Nat) (z_this : T_Mo) (x1 : Int32) (x2 : Int32) (x3 : Int32) (K : T_Mo → Int32 → Int32 → Int32 → Prop) (post : Int32 → T_Mo → Prop), wp_Mo_check_L17 d K post n9 z_this x1 x2 x3 → (∃ (w0 : T_Mo) (w1 : Int32) (w2 : Int32) (w3 : Int32), (∀ (K : T_Mo → Int32 → Int32 → Int32 → Prop) (post : Int32 → T_Mo → Prop), K w0 w1 w2 w3 → wp_Mo_check_L17 d K post n9 z_this x1 x2 x3) ∧ (∀ (m9 : Nat) (K : T_Mo → Int32 → Int32 → Int32 → Prop) (post : Int32 → T_Mo → Prop), wp_Mo_check_L17 d K post m9 z_this x1 x2 x3 → K w0 w1 w2 w3)) ∨ (∃ (w0 : Int32) (w1 : T_Mo), (∀ (K : T_Mo → Int32 → Int32 → Int32 → Prop) (post : Int32 → T_Mo → Prop), post w0 w1 → wp_Mo_check_L17 d K post n9 z_this x1 x2 x3) ∧ (∀ (m9 : Nat) (K : T_Mo → Int32 → Int32 → Int32 → Prop) (post : Int32 → T_Mo → Prop), wp_Mo_check_L17 d K post m9 z_this x1 x2 x3 → post w0 w1)) := by
  intro n9
  induction n9 with
  | zero => intro z_this x1 x2 x3 K post h; exact False.elim h
  | succ n9 ih =>
    intro z_this x1 x2 x3 K post h
    rw [wp_Mo_check_L17] at h
    rcases br_el h with ⟨c0, h⟩ | ⟨c0, h⟩
    · exact Or.inl ⟨_, _, _, _, fun K post q => (by rw [wp_Mo_check_L17]; exact (pT c0 (q))), fun m9 K post h => (by cases m9 with | zero => exact False.elim h | succ m9 => (rw [wp_Mo_check_L17] at h; replace h := h.1 c0; exact h))⟩
    · obtain ⟨s1, h⟩ := h
      rcases ih _ _ _ _ _ _ h with ⟨w2_0, w2_1, w2_2, w2_3, qa2, qb2⟩ | ⟨w2_0, w2_1, qa2, qb2⟩
      · exact Or.inl ⟨_, _, _, _, fun K post q => (by rw [wp_Mo_check_L17]; exact (pF c0 (⟨s1, (qa2 _ _ (q))⟩))), fun m9 K post h => (by cases m9 with | zero => exact False.elim h | succ m9 => (rw [wp_Mo_check_L17] at h; replace h := h.2 c0; replace h := h.2; replace h := qb2 m9 _ _ h; exact h))⟩
      · exact Or.inr (⟨_, _, fun K post q => (by rw [wp_Mo_check_L17]; exact (pF c0 (⟨s1, (qa2 _ _ (q))⟩))), fun m9 K post h => (by cases m9 with | zero => exact False.elim h | succ m9 => (rw [wp_Mo_check_L17] at h; replace h := h.2 c0; replace h := h.2; replace h := qb2 m9 _ _ h; exact h))⟩)
set_option maxHeartbeats 2000000 in
theorem dt_Mo_check_L38 {d : Nat} : ∀ (n9 : Nat) (z_this : T_Mo) (x1 : Int32) (x2 : Int32) (x3 : Int32) (K : T_Mo → Int32 → Int32 → Int32 → Prop) (post : Int32 → T_Mo → Prop), wp_Mo_check_L38 d K post n9 z_this x1 x2 x3 → (∃ (w0 : T_Mo) (w1 : Int32) (w2 : Int32) (w3 : Int32), (∀ (K : T_Mo → Int32 → Int32 → Int32 → Prop) (post : Int32 → T_Mo → Prop), K w0 w1 w2 w3 → wp_Mo_check_L38 d K post n9 z_this x1 x2 x3) ∧ (∀ (m9 : Nat) (K : T_Mo → Int32 → Int32 → Int32 → Prop) (post : Int32 → T_Mo → Prop), wp_Mo_check_L38 d K post m9 z_this x1 x2 x3 → K w0 w1 w2 w3)) ∨ (∃ (w0 : Int32) (w1 : T_Mo), (∀ (K : T_Mo → Int32 → Int32 → Int32 → Prop) (post : Int32 → T_Mo → Prop), post w0 w1 → wp_Mo_check_L38 d K post n9 z_this x1 x2 x3) ∧ (∀ (m9 : Nat) (K : T_Mo → Int32 → Int32 → Int32 → Prop) (post : Int32 → T_Mo → Prop), wp_Mo_check_L38 d K post m9 z_this x1 x2 x3 → post w0 w1)) := by
  intro n9
  induction n9 with
  | zero => intro z_this x1 x2 x3 K post h; exact False.elim h
  | succ n9 ih =>
    intro z_this x1 x2 x3 K post h
    rw [wp_Mo_check_L38] at h
    rcases br_el h with ⟨c0, h⟩ | ⟨c0, h⟩
    · exact Or.inl ⟨_, _, _, _, fun K post q => (by rw [wp_Mo_check_L38]; exact (pT c0 (q))), fun m9 K post h => (by cases m9 with | zero => exact False.elim h | succ m9 => (rw [wp_Mo_check_L38] at h; replace h := h.1 c0; exact h))⟩
    · obtain ⟨s1, h⟩ := h
      obtain ⟨r1, u1, qa2, qb2⟩ := dt_Mo_node1 h
      replace h := qb2 _ h
      obtain ⟨s3, h⟩ := h
      rcases br_el h with ⟨c4, h⟩ | ⟨c4, h⟩
      · rcases ih _ _ _ _ _ _ h with ⟨w5_0, w5_1, w5_2, w5_3, qa5, qb5⟩ | ⟨w5_0, w5_1, qa5, qb5⟩
        · exact Or.inl ⟨_, _, _, _, fun K post q => (by rw [wp_Mo_check_L38]; exact (pF c0 (⟨s1, (qa2 _ (⟨s3, (pT c4 ((qa5 _ _ (q))))⟩))⟩))), fun m9 K post h => (by cases m9 with | zero => exact False.elim h | succ m9 => (rw [wp_Mo_check_L38] at h; replace h := h.2 c0; replace h := h.2; replace h := qb2 _ h; replace h := h.2; replace h := h.1 c4; replace h := qb5 m9 _ _ h; exact h))⟩
        · exact Or.inr (⟨_, _, fun K post q => (by rw [wp_Mo_check_L38]; exact (pF c0 (⟨s1, (qa2 _ (⟨s3, (pT c4 ((qa5 _ _ (q))))⟩))⟩))), fun m9 K post h => (by cases m9 with | zero => exact False.elim h | succ m9 => (rw [wp_Mo_check_L38] at h; replace h := h.2 c0; replace h := h.2; replace h := qb2 _ h; replace h := h.2; replace h := h.1 c4; replace h := qb5 m9 _ _ h; exact h))⟩)
      · obtain ⟨r2, u2, qa5, qb5⟩ := dt_Mo_reach d _ _ _ h
        replace h := qb5 _ h
        rcases ih _ _ _ _ _ _ h with ⟨w6_0, w6_1, w6_2, w6_3, qa6, qb6⟩ | ⟨w6_0, w6_1, qa6, qb6⟩
        · exact Or.inl ⟨_, _, _, _, fun K post q => (by rw [wp_Mo_check_L38]; exact (pF c0 (⟨s1, (qa2 _ (⟨s3, (pF c4 ((qa5 _ ((qa6 _ _ (q))))))⟩))⟩))), fun m9 K post h => (by cases m9 with | zero => exact False.elim h | succ m9 => (rw [wp_Mo_check_L38] at h; replace h := h.2 c0; replace h := h.2; replace h := qb2 _ h; replace h := h.2; replace h := h.2 c4; replace h := qb5 _ h; replace h := qb6 m9 _ _ h; exact h))⟩
        · exact Or.inr (⟨_, _, fun K post q => (by rw [wp_Mo_check_L38]; exact (pF c0 (⟨s1, (qa2 _ (⟨s3, (pF c4 ((qa5 _ ((qa6 _ _ (q))))))⟩))⟩))), fun m9 K post h => (by cases m9 with | zero => exact False.elim h | succ m9 => (rw [wp_Mo_check_L38] at h; replace h := h.2 c0; replace h := h.2; replace h := qb2 _ h; replace h := h.2; replace h := h.2 c4; replace h := qb5 _ h; replace h := qb6 m9 _ _ h; exact h))⟩)
set_option maxHeartbeats 2000000 in
theorem dt_Mo_check_L131 {d : Nat} : ∀ (n9 : Nat) (z_this : T_Mo) (x1 : Int32) (x2 : Int32) (x3 : Int32) (x4 : Int32) (x5 : Int32) (x6 : Int32) (K : T_Mo → Int32 → Int32 → Int32 → Int32 → Int32 → Int32 → Prop) (post : Int32 → T_Mo → Prop), wp_Mo_check_L131 d K post n9 z_this x1 x2 x3 x4 x5 x6 → (∃ (w0 : T_Mo) (w1 : Int32) (w2 : Int32) (w3 : Int32) (w4 : Int32) (w5 : Int32) (w6 : Int32), (∀ (K : T_Mo → Int32 → Int32 → Int32 → Int32 → Int32 → Int32 → Prop) (post : Int32 → T_Mo → Prop), K w0 w1 w2 w3 w4 w5 w6 → wp_Mo_check_L131 d K post n9 z_this x1 x2 x3 x4 x5 x6) ∧ (∀ (m9 : Nat) (K : T_Mo → Int32 → Int32 → Int32 → Int32 → Int32 → Int32 → Prop) (post : Int32 → T_Mo → Prop), wp_Mo_check_L131 d K post m9 z_this x1 x2 x3 x4 x5 x6 → K w0 w1 w2 w3 w4 w5 w6)) ∨ (∃ (w0 : Int32) (w1 : T_Mo), (∀ (K : T_Mo → Int32 → Int32 → Int32 → Int32 → Int32 → Int32 → Prop) (post : Int32 → T_Mo → Prop), post w0 w1 → wp_Mo_check_L131 d K post n9 z_this x1 x2 x3 x4 x5 x6) ∧ (∀ (m9 : Nat) (K : T_Mo → Int32 → Int32 → Int32 → Int32 → Int32 → Int32 → Prop) (post : Int32 → T_Mo → Prop), wp_Mo_check_L131 d K post m9 z_this x1 x2 x3 x4 x5 x6 → post w0 w1)) := by
  intro n9
  induction n9 with
  | zero => intro z_this x1 x2 x3 x4 x5 x6 K post h; exact False.elim h
  | succ n9 ih =>
    intro z_this x1 x2 x3 x4 x5 x6 K post h
    rw [wp_Mo_check_L131] at h
    rcases br_el h with ⟨c0, h⟩ | ⟨c0, h⟩
    · exact Or.inl ⟨_, _, _, _, _, _, _, fun K post q => (by rw [wp_Mo_check_L131]; exact (pT c0 (q))), fun m9 K post h => (by cases m9 with | zero => exact False.elim h | succ m9 => (rw [wp_Mo_check_L131] at h; replace h := h.1 c0; exact h))⟩
    · obtain ⟨r3, u3, qa1, qb1⟩ := dt_Mo_isRemark h
      replace h := qb1 _ h
      rcases br_el h with ⟨c2, h⟩ | ⟨c2, h⟩
      · rcases ih _ _ _ _ _ _ _ _ _ h with ⟨w3_0, w3_1, w3_2, w3_3, w3_4, w3_5, w3_6, qa3, qb3⟩ | ⟨w3_0, w3_1, qa3, qb3⟩
        · exact Or.inl ⟨_, _, _, _, _, _, _, fun K post q => (by rw [wp_Mo_check_L131]; exact (pF c0 ((qa1 _ ((pT c2 ((qa3 _ _ (q))))))))), fun m9 K post h => (by cases m9 with | zero => exact False.elim h | succ m9 => (rw [wp_Mo_check_L131] at h; replace h := h.2 c0; replace h := qb1 _ h; replace h := h.1 c2; replace h := qb3 m9 _ _ h; exact h))⟩
        · exact Or.inr (⟨_, _, fun K post q => (by rw [wp_Mo_check_L131]; exact (pF c0 ((qa1 _ ((pT c2 ((qa3 _ _ (q))))))))), fun m9 K post h => (by cases m9 with | zero => exact False.elim h | succ m9 => (rw [wp_Mo_check_L131] at h; replace h := h.2 c0; replace h := qb1 _ h; replace h := h.1 c2; replace h := qb3 m9 _ _ h; exact h))⟩)
      · rcases br_el h with ⟨c3, h⟩ | ⟨c3, h⟩
        · rcases br_el h with ⟨c4, h⟩ | ⟨c4, h⟩
          · exact Or.inr (⟨_, _, fun K post q => (by rw [wp_Mo_check_L131]; exact (pF c0 ((qa1 _ ((pF c2 ((pT c3 ((pT c4 (q))))))))))), fun m9 K post h => (by cases m9 with | zero => exact False.elim h | succ m9 => (rw [wp_Mo_check_L131] at h; replace h := h.2 c0; replace h := qb1 _ h; replace h := h.2 c2; replace h := h.1 c3; replace h := h.1 c4; exact h))⟩)
          · exact Or.inr (⟨_, _, fun K post q => (by rw [wp_Mo_check_L131]; exact (pF c0 ((qa1 _ ((pF c2 ((pT c3 ((pF c4 (q))))))))))), fun m9 K post h => (by cases m9 with | zero => exact False.elim h | succ m9 => (rw [wp_Mo_check_L131] at h; replace h := h.2 c0; replace h := qb1 _ h; replace h := h.2 c2; replace h := h.1 c3; replace h := h.2 c4; exact h))⟩)
        · rcases ih _ _ _ _ _ _ _ _ _ h with ⟨w4_0, w4_1, w4_2, w4_3, w4_4, w4_5, w4_6, qa4, qb4⟩ | ⟨w4_0, w4_1, qa4, qb4⟩
          · exact Or.inl ⟨_, _, _, _, _, _, _, fun K post q => (by rw [wp_Mo_check_L131]; exact (pF c0 ((qa1 _ ((pF c2 ((pF c3 ((qa4 _ _ (q))))))))))), fun m9 K post h => (by cases m9 with | zero => exact False.elim h | succ m9 => (rw [wp_Mo_check_L131] at h; replace h := h.2 c0; replace h := qb1 _ h; replace h := h.2 c2; replace h := h.2 c3; replace h := qb4 m9 _ _ h; exact h))⟩
          · exact Or.inr (⟨_, _, fun K post q => (by rw [wp_Mo_check_L131]; exact (pF c0 ((qa1 _ ((pF c2 ((pF c3 ((qa4 _ _ (q))))))))))), fun m9 K post h => (by cases m9 with | zero => exact False.elim h | succ m9 => (rw [wp_Mo_check_L131] at h; replace h := h.2 c0; replace h := qb1 _ h; replace h := h.2 c2; replace h := h.2 c3; replace h := qb4 m9 _ _ h; exact h))⟩)
set_option maxHeartbeats 2000000 in
theorem dt_Mo_check_L96 {d : Nat} : ∀ (n9 : Nat) (z_this : T_Mo) (x1 : Int32) (x2 : Int32) (x3 : Int32) (x4 : Int32) (K : T_Mo → Int32 → Int32 → Int32 → Int32 → Prop) (post : Int32 → T_Mo → Prop), wp_Mo_check_L96 d K post n9 z_this x1 x2 x3 x4 → (∃ (w0 : T_Mo) (w1 : Int32) (w2 : Int32) (w3 : Int32) (w4 : Int32), (∀ (K : T_Mo → Int32 → Int32 → Int32 → Int32 → Prop) (post : Int32 → T_Mo → Prop), K w0 w1 w2 w3 w4 → wp_Mo_check_L96 d K post n9 z_this x1 x2 x3 x4) ∧ (∀ (m9 : Nat) (K : T_Mo → Int32 → Int32 → Int32 → Int32 → Prop) (post : Int32 → T_Mo → Prop), wp_Mo_check_L96 d K post m9 z_this x1 x2 x3 x4 → K w0 w1 w2 w3 w4)) ∨ (∃ (w0 : Int32) (w1 : T_Mo), (∀ (K : T_Mo → Int32 → Int32 → Int32 → Int32 → Prop) (post : Int32 → T_Mo → Prop), post w0 w1 → wp_Mo_check_L96 d K post n9 z_this x1 x2 x3 x4) ∧ (∀ (m9 : Nat) (K : T_Mo → Int32 → Int32 → Int32 → Int32 → Prop) (post : Int32 → T_Mo → Prop), wp_Mo_check_L96 d K post m9 z_this x1 x2 x3 x4 → post w0 w1)) := by
  intro n9
  induction n9 with
  | zero => intro z_this x1 x2 x3 x4 K post h; exact False.elim h
  | succ n9 ih =>
    intro z_this x1 x2 x3 x4 K post h
    rw [wp_Mo_check_L96] at h
    rcases br_el h with ⟨c0, h⟩ | ⟨c0, h⟩
    · exact Or.inl ⟨_, _, _, _, _, fun K post q => (by rw [wp_Mo_check_L96]; exact (pT c0 (q))), fun m9 K post h => (by cases m9 with | zero => exact False.elim h | succ m9 => (rw [wp_Mo_check_L96] at h; replace h := h.1 c0; exact h))⟩
    · rcases br_el h with ⟨c1, h⟩ | ⟨c1, h⟩
      · obtain ⟨k2, h⟩ := h
        rcases dt_Mo_check_L131 k2 _ _ _ _ _ _ _ _ _ h with ⟨z_this, x1, x2, x3, x4, x5, x6, qa2, qb2⟩ | ⟨w2_0, w2_1, qa2, qb2⟩
        · replace h := qb2 k2 _ _ h
          rcases ih _ _ _ _ _ _ _ h with ⟨w3_0, w3_1, w3_2, w3_3, w3_4, qa3, qb3⟩ | ⟨w3_0, w3_1, qa3, qb3⟩
          · exact Or.inl ⟨_, _, _, _, _, fun K post q => (by rw [wp_Mo_check_L96]; exact (pF c0 ((pT c1 (⟨k2, (qa2 _ _ ((qa3 _ _ (q))))⟩))))), fun m9 K post h => (by cases m9 with | zero => exact False.elim h | succ m9 => (rw [wp_Mo_check_L96] at h; replace h := h.2 c0; replace h := h.1 c1; obtain ⟨m2, h⟩ := h; replace h := qb2 m2 _ _ h; replace h := qb3 m9 _ _ h; exact h))⟩
          · exact Or.inr (⟨_, _, fun K post q => (by rw [wp_Mo_check_L96]; exact (pF c0 ((pT c1 (⟨k2, (qa2 _ _ ((qa3 _ _ (q))))⟩))))), fun m9 K post h => (by cases m9 with | zero => exact False.elim h | succ m9 => (rw [wp_Mo_check_L96] at h; replace h := h.2 c0; replace h := h.1 c1; obtain ⟨m2, h⟩ := h; replace h := qb2 m2 _ _ h; replace h := qb3 m9 _ _ h; exact h))⟩)
        · exact Or.inr (⟨_, _, fun K post q => (by rw [wp_Mo_check_L96]; exact (pF c0 ((pT c1 (⟨k2, (qa2 _ _ (q))⟩))))), fun m9 K post h => (by cases m9 with | zero => exact False.elim h | succ m9 => (rw [wp_Mo_check_L96] at h; replace h := h.2 c0; replace h := h.1 c1; obtain ⟨m2, h⟩ := h; replace h := qb2 m2 _ _ h; exact h))⟩)
      · rcases br_el h with ⟨c2, h⟩ | ⟨c2, h⟩
        · obtain ⟨k3, h⟩ := h
          rcases dt_Mo_check_L131 k3 _ _ _ _ _ _ _ _ _ h with ⟨z_this, x1, x2, x3, x4, x5, x6, qa3, qb3⟩ | ⟨w3_0, w3_1, qa3, qb3⟩
          · replace h := qb3 k3 _ _ h
            rcases ih _ _ _ _ _ _ _ h with ⟨w4_0, w4_1, w4_2, w4_3, w4_4, qa4, qb4⟩ | ⟨w4_0, w4_1, qa4, qb4⟩
            · exact Or.inl ⟨_, _, _, _, _, fun K post q => (by rw [wp_Mo_check_L96]; exact (pF c0 ((pF c1 ((pT c2 (⟨k3, (qa3 _ _ ((qa4 _ _ (q))))⟩))))))), fun m9 K post h => (by cases m9 with | zero => exact False.elim h | succ m9 => (rw [wp_Mo_check_L96] at h; replace h := h.2 c0; replace h := h.2 c1; replace h := h.1 c2; obtain ⟨m3, h⟩ := h; replace h := qb3 m3 _ _ h; replace h := qb4 m9 _ _ h; exact h))⟩
            · exact Or.inr (⟨_, _, fun K post q => (by rw [wp_Mo_check_L96]; exact (pF c0 ((pF c1 ((pT c2 (⟨k3, (qa3 _ _ ((qa4 _ _ (q))))⟩))))))), fun m9 K post h => (by cases m9 with | zero => exact False.elim h | succ m9 => (rw [wp_Mo_check_L96] at h; replace h := h.2 c0; replace h := h.2 c1; replace h := h.1 c2; obtain ⟨m3, h⟩ := h; replace h := qb3 m3 _ _ h; replace h := qb4 m9 _ _ h; exact h))⟩)
          · exact Or.inr (⟨_, _, fun K post q => (by rw [wp_Mo_check_L96]; exact (pF c0 ((pF c1 ((pT c2 (⟨k3, (qa3 _ _ (q))⟩))))))), fun m9 K post h => (by cases m9 with | zero => exact False.elim h | succ m9 => (rw [wp_Mo_check_L96] at h; replace h := h.2 c0; replace h := h.2 c1; replace h := h.1 c2; obtain ⟨m3, h⟩ := h; replace h := qb3 m3 _ _ h; exact h))⟩)
        · obtain ⟨k3, h⟩ := h
          rcases dt_Mo_check_L131 k3 _ _ _ _ _ _ _ _ _ h with ⟨z_this, x1, x2, x3, x4, x5, x6, qa3, qb3⟩ | ⟨w3_0, w3_1, qa3, qb3⟩
          · replace h := qb3 k3 _ _ h
            rcases ih _ _ _ _ _ _ _ h with ⟨w4_0, w4_1, w4_2, w4_3, w4_4, qa4, qb4⟩ | ⟨w4_0, w4_1, qa4, qb4⟩
            · exact Or.inl ⟨_, _, _, _, _, fun K post q => (by rw [wp_Mo_check_L96]; exact (pF c0 ((pF c1 ((pF c2 (⟨k3, (qa3 _ _ ((qa4 _ _ (q))))⟩))))))), fun m9 K post h => (by cases m9 with | zero => exact False.elim h | succ m9 => (rw [wp_Mo_check_L96] at h; replace h := h.2 c0; replace h := h.2 c1; replace h := h.2 c2; obtain ⟨m3, h⟩ := h; replace h := qb3 m3 _ _ h; replace h := qb4 m9 _ _ h; exact h))⟩
            · exact Or.inr (⟨_, _, fun K post q => (by rw [wp_Mo_check_L96]; exact (pF c0 ((pF c1 ((pF c2 (⟨k3, (qa3 _ _ ((qa4 _ _ (q))))⟩))))))), fun m9 K post h => (by cases m9 with | zero => exact False.elim h | succ m9 => (rw [wp_Mo_check_L96] at h; replace h := h.2 c0; replace h := h.2 c1; replace h := h.2 c2; obtain ⟨m3, h⟩ := h; replace h := qb3 m3 _ _ h; replace h := qb4 m9 _ _ h; exact h))⟩)
          · exact Or.inr (⟨_, _, fun K post q => (by rw [wp_Mo_check_L96]; exact (pF c0 ((pF c1 ((pF c2 (⟨k3, (qa3 _ _ (q))⟩))))))), fun m9 K post h => (by cases m9 with | zero => exact False.elim h | succ m9 => (rw [wp_Mo_check_L96] at h; replace h := h.2 c0; replace h := h.2 c1; replace h := h.2 c2; obtain ⟨m3, h⟩ := h; replace h := qb3 m3 _ _ h; exact h))⟩)
set_option maxHeartbeats 2000000 in
theorem dt_Mo_check {d : Nat} {z_this : T_Mo} {a1 : Int32} {a2 : Int32} {post : Int32 → T_Mo → Prop} (h : wp_Mo_check d z_this a1 a2 post) : (∃ (w0 : Int32) (w1 : T_Mo), (∀ (post : Int32 → T_Mo → Prop), post w0 w1 → wp_Mo_check d z_this a1 a2 post) ∧ (∀ (post : Int32 → T_Mo → Prop), wp_Mo_check d z_this a1 a2 post → post w0 w1)) := by
  unfold wp_Mo_check at h
  rcases br_el h with ⟨c0, h⟩ | ⟨c0, h⟩
  · exact ⟨_, _, fun post q => (by unfold wp_Mo_check; exact (pT c0 (q))), fun post h => (by unfold wp_Mo_check at h; replace h := h.1 c0; exact h)⟩
  · rcases br_el h with ⟨c1, h⟩ | ⟨c1, h⟩
    · exact ⟨_, _, fun post q => (by unfold wp_Mo_check; exact (pF c0 ((pT c1 (q))))), fun post h => (by unfold wp_Mo_check at h; replace h := h.2 c0; replace h := h.1 c1; exact h)⟩
    · rcases br_el h with ⟨c2, h⟩ | ⟨c2, h⟩
      · obtain ⟨k3, h⟩ := h
        rcases dt_Mo_check_L17 k3 _ _ _ _ _ _ h with ⟨z_this, x1, x2, x3, qa3, qb3⟩ | ⟨w3_0, w3_1, qa3, qb3⟩
        · replace h := qb3 k3 _ _ h
          obtain ⟨k4, h⟩ := h
          rcases dt_Mo_check_L38 k4 _ _ _ _ _ _ h with ⟨z_this, x1, x2, x3, qa4, qb4⟩ | ⟨w4_0, w4_1, qa4, qb4⟩
          · replace h := qb4 k4 _ _ h
            obtain ⟨k5, h⟩ := h
            rcases dt_Mo_check_L96 k5 _ _ _ _ _ _ _ h with ⟨z_this, x1, x2, x3, x4, qa5, qb5⟩ | ⟨w5_0, w5_1, qa5, qb5⟩
            · replace h := qb5 k5 _ _ h
              exact ⟨_, _, fun post q => (by unfold wp_Mo_check; exact (pF c0 ((pF c1 ((pT c2 (⟨k3, (qa3 _ _ (⟨k4, (qa4 _ _ (⟨k5, (qa5 _ _ (q))⟩))⟩))⟩))))))), fun post h => (by unfold wp_Mo_check at h; replace h := h.2 c0; replace h := h.2 c1; replace h := h.1 c2; obtain ⟨m3, h⟩ := h; replace h := qb3 m3 _ _ h; obtain ⟨m4, h⟩ := h; replace h := qb4 m4 _ _ h; obtain ⟨m5, h⟩ := h; replace h := qb5 m5 _ _ h; exact h)⟩
            · exact ⟨_, _, fun post q => (by unfold wp_Mo_check; exact (pF c0 ((pF c1 ((pT c2 (⟨k3, (qa3 _ _ (⟨k4, (qa4 _ _ (⟨k5, (qa5 _ _ (q))⟩))⟩))⟩))))))), fun post h => (by unfold wp_Mo_check at h; replace h := h.2 c0; replace h := h.2 c1; replace h := h.1 c2; obtain ⟨m3, h⟩ := h; replace h := qb3 m3 _ _ h; obtain ⟨m4, h⟩ := h; replace h := qb4 m4 _ _ h; obtain ⟨m5, h⟩ := h; replace h := qb5 m5 _ _ h; exact h)⟩
          · exact ⟨_, _, fun post q => (by unfold wp_Mo_check; exact (pF c0 ((pF c1 ((pT c2 (⟨k3, (qa3 _ _ (⟨k4, (qa4 _ _ (q))⟩))⟩))))))), fun post h => (by unfold wp_Mo_check at h; replace h := h.2 c0; replace h := h.2 c1; replace h := h.1 c2; obtain ⟨m3, h⟩ := h; replace h := qb3 m3 _ _ h; obtain ⟨m4, h⟩ := h; replace h := qb4 m4 _ _ h; exact h)⟩
        · exact ⟨_, _, fun post q => (by unfold wp_Mo_check; exact (pF c0 ((pF c1 ((pT c2 (⟨k3, (qa3 _ _ (q))⟩))))))), fun post h => (by unfold wp_Mo_check at h; replace h := h.2 c0; replace h := h.2 c1; replace h := h.1 c2; obtain ⟨m3, h⟩ := h; replace h := qb3 m3 _ _ h; exact h)⟩
      · exact ⟨_, _, fun post q => (by unfold wp_Mo_check; exact (pF c0 ((pF c1 ((pF c2 (q))))))), fun post h => (by unfold wp_Mo_check at h; replace h := h.2 c0; replace h := h.2 c1; replace h := h.2 c2; exact h)⟩
set_option maxHeartbeats 2000000 in
theorem dt_Mo_write_L17 {d : Nat} {dB : Nat} : ∀ (n9 : Nat) (z_this : T_Mo) (x1 : Int32) (x2 : Int32) (K : T_Mo → Int32 → Int32 → Prop) (post : Int32 → T_Mo → Prop), wp_Mo_write_L17 d dB K post n9 z_this x1 x2 → (∃ (w0 : T_Mo) (w1 : Int32) (w2 : Int32), (∀ (K : T_Mo → Int32 → Int32 → Prop) (post : Int32 → T_Mo → Prop), K w0 w1 w2 → wp_Mo_write_L17 d dB K post n9 z_this x1 x2) ∧ (∀ (m9 : Nat) (K : T_Mo → Int32 → Int32 → Prop) (post : Int32 → T_Mo → Prop), wp_Mo_write_L17 d dB K post m9 z_this x1 x2 → K w0 w1 w2)) ∨ (∃ (w0 : Int32) (w1 : T_Mo), (∀ (K : T_Mo → Int32 → Int32 → Prop) (post : Int32 → T_Mo → Prop), post w0 w1 → wp_Mo_write_L17 d dB K post n9 z_this x1 x2) ∧ (∀ (m9 : Nat) (K : T_Mo → Int32 → Int32 → Prop) (post : Int32 → T_Mo → Prop), wp_Mo_write_L17 d dB K post m9 z_this x1 x2 → post w0 w1)) := by
  intro n9
  induction n9 with
  | zero => intro z_this x1 x2 K post h; exact False.elim h
  | succ n9 ih =>
    intro z_this x1 x2 K post h
    rw [wp_Mo_write_L17] at h
    rcases br_el h with ⟨c0, h⟩ | ⟨c0, h⟩
    · exact Or.inl ⟨_, _, _, fun K post q => (by rw [wp_Mo_write_L17]; exact (pT c0 (q))), fun m9 K post h => (by cases m9 with | zero => exact False.elim h | succ m9 => (rw [wp_Mo_write_L17] at h; replace h := h.1 c0; exact h))⟩
    · rcases br_el h with ⟨c1, h⟩ | ⟨c1, h⟩
      · exact Or.inl ⟨_, _, _, fun K post q => (by rw [wp_Mo_write_L17]; exact (pF c0 ((pT c1 (q))))), fun m9 K post h => (by cases m9 with | zero => exact False.elim h | succ m9 => (rw [wp_Mo_write_L17] at h; replace h := h.2 c0; replace h := h.1 c1; exact h))⟩
      · obtain ⟨s2, h⟩ := h
        rcases br_el h with ⟨c3, h⟩ | ⟨c3, h⟩
        · obtain ⟨r17, u17, qa4, qb4⟩ := dt_Mo_word h
          replace h := qb4 _ h
          obtain ⟨r18, u18, qa5, qb5⟩ := dt_Mo_name h
          replace h := qb5 _ h
          obtain ⟨s6, h⟩ := h
          rcases br_el h with ⟨c7, h⟩ | ⟨c7, h⟩
          · obtain ⟨s8, h⟩ := h
            obtain ⟨r22, u22, qa9, qb9⟩ := dt_Mo_kid h
            replace h := qb9 _ h
            obtain ⟨r23, u23, qa10, qb10⟩ := dt_Mo_blockOut d dB _ _ _ h
            replace h := qb10 _ h
            obtain ⟨r24, u24, qa11, qb11⟩ := dt_Mo_newLine h
            replace h := qb11 _ h
            rcases ih _ _ _ _ _ h with ⟨w12_0, w12_1, w12_2, qa12, qb12⟩ | ⟨w12_0, w12_1, qa12, qb12⟩
            · exact Or.inl ⟨_, _, _, fun K post q => (by rw [wp_Mo_write_L17]; exact (pF c0 ((pF c1 (⟨s2, (pT c3 ((qa4 _ ((qa5 _ (⟨s6, (pT c7 (⟨s8, (qa9 _ ((qa10 _ ((qa11 _ ((qa12 _ _ (q))))))))⟩))⟩))))))⟩))))), fun m9 K post h => (by cases m9 with | zero => exact False.elim h | succ m9 => (rw [wp_Mo_write_L17] at h; replace h := h.2 c0; replace h := h.2 c1; replace h := h.2; replace h := h.1 c3; replace h := qb4 _ h; replace h := qb5 _ h; replace h := h.2; replace h := h.1 c7; replace h := h.2; replace h := qb9 _ h; replace h := qb10 _ h; replace h := qb11 _ h; replace h := qb12 m9 _ _ h; exact h))⟩
            · exact Or.inr (⟨_, _, fun K post q => (by rw [wp_Mo_write_L17]; exact (pF c0 ((pF c1 (⟨s2, (pT c3 ((qa4 _ ((qa5 _ (⟨s6, (pT c7 (⟨s8, (qa9 _ ((qa10 _ ((qa11 _ ((qa12 _ _ (q))))))))⟩))⟩))))))⟩))))), fun m9 K post h => (by cases m9 with | zero => exact False.elim h | succ m9 => (rw [wp_Mo_write_L17] at h; replace h := h.2 c0; replace h := h.2 c1; replace h := h.2; replace h := h.1 c3; replace h := qb4 _ h; replace h := qb5 _ h; replace h := h.2; replace h := h.1 c7; replace h := h.2; replace h := qb9 _ h; replace h := qb10 _ h; replace h := qb11 _ h; replace h := qb12 m9 _ _ h; exact h))⟩)
          · obtain ⟨s8, h⟩ := h
            obtain ⟨r19, u19, qa9, qb9⟩ := dt_Mo_unitWord1 h
            replace h := qb9 _ h
            obtain ⟨r20, u20, qa10, qb10⟩ := dt_Mo_word h
            replace h := qb10 _ h
            obtain ⟨r21, u21, qa11, qb11⟩ := dt_Mo_newLine h
            replace h := qb11 _ h
            rcases ih _ _ _ _ _ h with ⟨w12_0, w12_1, w12_2, qa12, qb12⟩ | ⟨w12_0, w12_1, qa12, qb12⟩
            · exact Or.inl ⟨_, _, _, fun K post q => (by rw [wp_Mo_write_L17]; exact (pF c0 ((pF c1 (⟨s2, (pT c3 ((qa4 _ ((qa5 _ (⟨s6, (pF c7 (⟨s8, (qa9 _ ((qa10 _ ((qa11 _ ((qa12 _ _ (q))))))))⟩))⟩))))))⟩))))), fun m9 K post h => (by cases m9 with | zero => exact False.elim h | succ m9 => (rw [wp_Mo_write_L17] at h; replace h := h.2 c0; replace h := h.2 c1; replace h := h.2; replace h := h.1 c3; replace h := qb4 _ h; replace h := qb5 _ h; replace h := h.2; replace h := h.2 c7; replace h := h.2; replace h := qb9 _ h; replace h := qb10 _ h; replace h := qb11 _ h; replace h := qb12 m9 _ _ h; exact h))⟩
            · exact Or.inr (⟨_, _, fun K post q => (by rw [wp_Mo_write_L17]; exact (pF c0 ((pF c1 (⟨s2, (pT c3 ((qa4 _ ((qa5 _ (⟨s6, (pF c7 (⟨s8, (qa9 _ ((qa10 _ ((qa11 _ ((qa12 _ _ (q))))))))⟩))⟩))))))⟩))))), fun m9 K post h => (by cases m9 with | zero => exact False.elim h | succ m9 => (rw [wp_Mo_write_L17] at h; replace h := h.2 c0; replace h := h.2 c1; replace h := h.2; replace h := h.1 c3; replace h := qb4 _ h; replace h := qb5 _ h; replace h := h.2; replace h := h.2 c7; replace h := h.2; replace h := qb9 _ h; replace h := qb10 _ h; replace h := qb11 _ h; replace h := qb12 m9 _ _ h; exact h))⟩)
        · obtain ⟨s4, h⟩ := h
          rcases br_el h with ⟨c5, h⟩ | ⟨c5, h⟩
          · obtain ⟨r9, u9, qa6, qb6⟩ := dt_Mo_word h
            replace h := qb6 _ h
            obtain ⟨r10, u10, qa7, qb7⟩ := dt_Mo_name h
            replace h := qb7 _ h
            obtain ⟨s8, h⟩ := h
            rcases br_el h with ⟨c9, h⟩ | ⟨c9, h⟩
            · obtain ⟨s10, h⟩ := h
              obtain ⟨r14, u14, qa11, qb11⟩ := dt_Mo_kid h
              replace h := qb11 _ h
              obtain ⟨r15, u15, qa12, qb12⟩ := dt_Mo_blockOut d dB _ _ _ h
              replace h := qb12 _ h
              obtain ⟨r16, u16, qa13, qb13⟩ := dt_Mo_newLine h
              replace h := qb13 _ h
              rcases ih _ _ _ _ _ h with ⟨w14_0, w14_1, w14_2, qa14, qb14⟩ | ⟨w14_0, w14_1, qa14, qb14⟩
              · exact Or.inl ⟨_, _, _, fun K post q => (by rw [wp_Mo_write_L17]; exact (pF c0 ((pF c1 (⟨s2, (pF c3 (⟨s4, (pT c5 ((qa6 _ ((qa7 _ (⟨s8, (pT c9 (⟨s10, (qa11 _ ((qa12 _ ((qa13 _ ((qa14 _ _ (q))))))))⟩))⟩))))))⟩))⟩))))), fun m9 K post h => (by cases m9 with | zero => exact False.elim h | succ m9 => (rw [wp_Mo_write_L17] at h; replace h := h.2 c0; replace h := h.2 c1; replace h := h.2; replace h := h.2 c3; replace h := h.2; replace h := h.1 c5; replace h := qb6 _ h; replace h := qb7 _ h; replace h := h.2; replace h := h.1 c9; replace h := h.2; replace h := qb11 _ h; replace h := qb12 _ h; replace h := qb13 _ h; replace h := qb14 m9 _ _ h; exact h))⟩
              · exact Or.inr (⟨_, _, fun K post q => (by rw [wp_Mo_write_L17]; exact (pF c0 ((pF c1 (⟨s2, (pF c3 (⟨s4, (pT c5 ((qa6 _ ((qa7 _ (⟨s8, (pT c9 (⟨s10, (qa11 _ ((qa12 _ ((qa13 _ ((qa14 _ _ (q))))))))⟩))⟩))))))⟩))⟩))))), fun m9 K post h => (by cases m9 with | zero => exact False.elim h | succ m9 => (rw [wp_Mo_write_L17] at h; replace h := h.2 c0; replace h := h.2 c1; replace h := h.2; replace h := h.2 c3; replace h := h.2; replace h := h.1 c5; replace h := qb6 _ h; replace h := qb7 _ h; replace h := h.2; replace h := h.1 c9; replace h := h.2; replace h := qb11 _ h; replace h := qb12 _ h; replace h := qb13 _ h; replace h := qb14 m9 _ _ h; exact h))⟩)
            · obtain ⟨s10, h⟩ := h
              obtain ⟨r11, u11, qa11, qb11⟩ := dt_Mo_unitWord1 h
              replace h := qb11 _ h
              obtain ⟨r12, u12, qa12, qb12⟩ := dt_Mo_word h
              replace h := qb12 _ h
              obtain ⟨r13, u13, qa13, qb13⟩ := dt_Mo_newLine h
              replace h := qb13 _ h
              rcases ih _ _ _ _ _ h with ⟨w14_0, w14_1, w14_2, qa14, qb14⟩ | ⟨w14_0, w14_1, qa14, qb14⟩
              · exact Or.inl ⟨_, _, _, fun K post q => (by rw [wp_Mo_write_L17]; exact (pF c0 ((pF c1 (⟨s2, (pF c3 (⟨s4, (pT c5 ((qa6 _ ((qa7 _ (⟨s8, (pF c9 (⟨s10, (qa11 _ ((qa12 _ ((qa13 _ ((qa14 _ _ (q))))))))⟩))⟩))))))⟩))⟩))))), fun m9 K post h => (by cases m9 with | zero => exact False.elim h | succ m9 => (rw [wp_Mo_write_L17] at h; replace h := h.2 c0; replace h := h.2 c1; replace h := h.2; replace h := h.2 c3; replace h := h.2; replace h := h.1 c5; replace h := qb6 _ h; replace h := qb7 _ h; replace h := h.2; replace h := h.2 c9; replace h := h.2; replace h := qb11 _ h; replace h := qb12 _ h; replace h := qb13 _ h; replace h := qb14 m9 _ _ h; exact h))⟩
              · exact Or.inr (⟨_, _, fun K post q => (by rw [wp_Mo_write_L17]; exact (pF c0 ((pF c1 (⟨s2, (pF c3 (⟨s4, (pT c5 ((qa6 _ ((qa7 _ (⟨s8, (pF c9 (⟨s10, (qa11 _ ((qa12 _ ((qa13 _ ((qa14 _ _ (q))))))))⟩))⟩))))))⟩))⟩))))), fun m9 K post h => (by cases m9 with | zero => exact False.elim h | succ m9 => (rw [wp_Mo_write_L17] at h; replace h := h.2 c0; replace h := h.2 c1; replace h := h.2; replace h := h.2 c3; replace h := h.2; replace h := h.1 c5; replace h := qb6 _ h; replace h := qb7 _ h; replace h := h.2; replace h := h.2 c9; replace h := h.2; replace h := qb11 _ h; replace h := qb12 _ h; replace h := qb13 _ h; replace h := qb14 m9 _ _ h; exact h))⟩)
          · obtain ⟨r1, u1, qa6, qb6⟩ := dt_Mo_word h
            replace h := qb6 _ h
            obtain ⟨r2, u2, qa7, qb7⟩ := dt_Mo_name h
            replace h := qb7 _ h
            obtain ⟨s8, h⟩ := h
            rcases br_el h with ⟨c9, h⟩ | ⟨c9, h⟩
            · obtain ⟨s10, h⟩ := h
              obtain ⟨r6, u6, qa11, qb11⟩ := dt_Mo_kid h
              replace h := qb11 _ h
              obtain ⟨r7, u7, qa12, qb12⟩ := dt_Mo_blockOut d dB _ _ _ h
              replace h := qb12 _ h
              obtain ⟨r8, u8, qa13, qb13⟩ := dt_Mo_newLine h
              replace h := qb13 _ h
              rcases ih _ _ _ _ _ h with ⟨w14_0, w14_1, w14_2, qa14, qb14⟩ | ⟨w14_0, w14_1, qa14, qb14⟩
              · exact Or.inl ⟨_, _, _, fun K post q => (by rw [wp_Mo_write_L17]; exact (pF c0 ((pF c1 (⟨s2, (pF c3 (⟨s4, (pF c5 ((qa6 _ ((qa7 _ (⟨s8, (pT c9 (⟨s10, (qa11 _ ((qa12 _ ((qa13 _ ((qa14 _ _ (q))))))))⟩))⟩))))))⟩))⟩))))), fun m9 K post h => (by cases m9 with | zero => exact False.elim h | succ m9 => (rw [wp_Mo_write_L17] at h; replace h := h.2 c0; replace h := h.2 c1; replace h := h.2; replace h := h.2 c3; replace h := h.2; replace h := h.2 c5; replace h := qb6 _ h; replace h := qb7 _ h; replace h := h.2; replace h := h.1 c9; replace h := h.2; replace h := qb11 _ h; replace h := qb12 _ h; replace h := qb13 _ h; replace h := qb14 m9 _ _ h; exact h))⟩
              · exact Or.inr (⟨_, _, fun K post q => (by rw [wp_Mo_write_L17]; exact (pF c0 ((pF c1 (⟨s2, (pF c3 (⟨s4, (pF c5 ((qa6 _ ((qa7 _ (⟨s8, (pT c9 (⟨s10, (qa11 _ ((qa12 _ ((qa13 _ ((qa14 _ _ (q))))))))⟩))⟩))))))⟩))⟩))))), fun m9 K post h => (by cases m9 with | zero => exact False.elim h | succ m9 => (rw [wp_Mo_write_L17] at h; replace h := h.2 c0; replace h := h.2 c1; replace h := h.2; replace h := h.2 c3; replace h := h.2; replace h := h.2 c5; replace h := qb6 _ h; replace h := qb7 _ h; replace h := h.2; replace h := h.1 c9; replace h := h.2; replace h := qb11 _ h; replace h := qb12 _ h; replace h := qb13 _ h; replace h := qb14 m9 _ _ h; exact h))⟩)
            · obtain ⟨s10, h⟩ := h
              obtain ⟨r3, u3, qa11, qb11⟩ := dt_Mo_unitWord1 h
              replace h := qb11 _ h
              obtain ⟨r4, u4, qa12, qb12⟩ := dt_Mo_word h
              replace h := qb12 _ h
              obtain ⟨r5, u5, qa13, qb13⟩ := dt_Mo_newLine h
              replace h := qb13 _ h
              rcases ih _ _ _ _ _ h with ⟨w14_0, w14_1, w14_2, qa14, qb14⟩ | ⟨w14_0, w14_1, qa14, qb14⟩
              · exact Or.inl ⟨_, _, _, fun K post q => (by rw [wp_Mo_write_L17]; exact (pF c0 ((pF c1 (⟨s2, (pF c3 (⟨s4, (pF c5 ((qa6 _ ((qa7 _ (⟨s8, (pF c9 (⟨s10, (qa11 _ ((qa12 _ ((qa13 _ ((qa14 _ _ (q))))))))⟩))⟩))))))⟩))⟩))))), fun m9 K post h => (by cases m9 with | zero => exact False.elim h | succ m9 => (rw [wp_Mo_write_L17] at h; replace h := h.2 c0; replace h := h.2 c1; replace h := h.2; replace h := h.2 c3; replace h := h.2; replace h := h.2 c5; replace h := qb6 _ h; replace h := qb7 _ h; replace h := h.2; replace h := h.2 c9; replace h := h.2; replace h := qb11 _ h; replace h := qb12 _ h; replace h := qb13 _ h; replace h := qb14 m9 _ _ h; exact h))⟩
              · exact Or.inr (⟨_, _, fun K post q => (by rw [wp_Mo_write_L17]; exact (pF c0 ((pF c1 (⟨s2, (pF c3 (⟨s4, (pF c5 ((qa6 _ ((qa7 _ (⟨s8, (pF c9 (⟨s10, (qa11 _ ((qa12 _ ((qa13 _ ((qa14 _ _ (q))))))))⟩))⟩))))))⟩))⟩))))), fun m9 K post h => (by cases m9 with | zero => exact False.elim h | succ m9 => (rw [wp_Mo_write_L17] at h; replace h := h.2 c0; replace h := h.2 c1; replace h := h.2; replace h := h.2 c3; replace h := h.2; replace h := h.2 c5; replace h := qb6 _ h; replace h := qb7 _ h; replace h := h.2; replace h := h.2 c9; replace h := h.2; replace h := qb11 _ h; replace h := qb12 _ h; replace h := qb13 _ h; replace h := qb14 m9 _ _ h; exact h))⟩)
set_option maxHeartbeats 2000000 in
theorem dt_Mo_write_L144 {d : Nat} {dB : Nat} : ∀ (n9 : Nat) (z_this : T_Mo) (x1 : Int32) (x2 : Int32) (K : T_Mo → Int32 → Int32 → Prop) (post : Int32 → T_Mo → Prop), wp_Mo_write_L144 d dB K post n9 z_this x1 x2 → (∃ (w0 : T_Mo) (w1 : Int32) (w2 : Int32), (∀ (K : T_Mo → Int32 → Int32 → Prop) (post : Int32 → T_Mo → Prop), K w0 w1 w2 → wp_Mo_write_L144 d dB K post n9 z_this x1 x2) ∧ (∀ (m9 : Nat) (K : T_Mo → Int32 → Int32 → Prop) (post : Int32 → T_Mo → Prop), wp_Mo_write_L144 d dB K post m9 z_this x1 x2 → K w0 w1 w2)) ∨ (∃ (w0 : Int32) (w1 : T_Mo), (∀ (K : T_Mo → Int32 → Int32 → Prop) (post : Int32 → T_Mo → Prop), post w0 w1 → wp_Mo_write_L144 d dB K post n9 z_this x1 x2) ∧ (∀ (m9 : Nat) (K : T_Mo → Int32 → Int32 → Prop) (post : Int32 → T_Mo → Prop), wp_Mo_write_L144 d dB K post m9 z_this x1 x2 → post w0 w1)) := by
  intro n9
  induction n9 with
  | zero => intro z_this x1 x2 K post h; exact False.elim h
  | succ n9 ih =>
    intro z_this x1 x2 K post h
    rw [wp_Mo_write_L144] at h
    rcases br_el h with ⟨c0, h⟩ | ⟨c0, h⟩
    · exact Or.inl ⟨_, _, _, fun K post q => (by rw [wp_Mo_write_L144]; exact (pT c0 (q))), fun m9 K post h => (by cases m9 with | zero => exact False.elim h | succ m9 => (rw [wp_Mo_write_L144] at h; replace h := h.1 c0; exact h))⟩
    · rcases br_el h with ⟨c1, h⟩ | ⟨c1, h⟩
      · exact Or.inl ⟨_, _, _, fun K post q => (by rw [wp_Mo_write_L144]; exact (pF c0 ((pT c1 (q))))), fun m9 K post h => (by cases m9 with | zero => exact False.elim h | succ m9 => (rw [wp_Mo_write_L144] at h; replace h := h.2 c0; replace h := h.1 c1; exact h))⟩
      · obtain ⟨s2, h⟩ := h
        obtain ⟨r25, u25, qa3, qb3⟩ := dt_Mo_node1 h
        replace h := qb3 _ h
        obtain ⟨s4, h⟩ := h
        rcases br_el h with ⟨c5, h⟩ | ⟨c5, h⟩
        · rcases ih _ _ _ _ _ h with ⟨w6_0, w6_1, w6_2, qa6, qb6⟩ | ⟨w6_0, w6_1, qa6, qb6⟩
          · exact Or.inl ⟨_, _, _, fun K post q => (by rw [wp_Mo_write_L144]; exact (pF c0 ((pF c1 (⟨s2, (qa3 _ (⟨s4, (pT c5 ((qa6 _ _ (q))))⟩))⟩))))), fun m9 K post h => (by cases m9 with | zero => exact False.elim h | succ m9 => (rw [wp_Mo_write_L144] at h; replace h := h.2 c0; replace h := h.2 c1; replace h := h.2; replace h := qb3 _ h; replace h := h.2; replace h := h.1 c5; replace h := qb6 m9 _ _ h; exact h))⟩
          · exact Or.inr (⟨_, _, fun K post q => (by rw [wp_Mo_write_L144]; exact (pF c0 ((pF c1 (⟨s2, (qa3 _ (⟨s4, (pT c5 ((qa6 _ _ (q))))⟩))⟩))))), fun m9 K post h => (by cases m9 with | zero => exact False.elim h | succ m9 => (rw [wp_Mo_write_L144] at h; replace h := h.2 c0; replace h := h.2 c1; replace h := h.2; replace h := qb3 _ h; replace h := h.2; replace h := h.1 c5; replace h := qb6 m9 _ _ h; exact h))⟩)
        · obtain ⟨r26, u26, qa6, qb6⟩ := dt_Mo_statementOut (dt_Mo_blockOut d dB) h
          replace h := qb6 _ h
          rcases ih _ _ _ _ _ h with ⟨w7_0, w7_1, w7_2, qa7, qb7⟩ | ⟨w7_0, w7_1, qa7, qb7⟩
          · exact Or.inl ⟨_, _, _, fun K post q => (by rw [wp_Mo_write_L144]; exact (pF c0 ((pF c1 (⟨s2, (qa3 _ (⟨s4, (pF c5 ((qa6 _ ((qa7 _ _ (q))))))⟩))⟩))))), fun m9 K post h => (by cases m9 with | zero => exact False.elim h | succ m9 => (rw [wp_Mo_write_L144] at h; replace h := h.2 c0; replace h := h.2 c1; replace h := h.2; replace h := qb3 _ h; replace h := h.2; replace h := h.2 c5; replace h := qb6 _ h; replace h := qb7 m9 _ _ h; exact h))⟩
          · exact Or.inr (⟨_, _, fun K post q => (by rw [wp_Mo_write_L144]; exact (pF c0 ((pF c1 (⟨s2, (qa3 _ (⟨s4, (pF c5 ((qa6 _ ((qa7 _ _ (q))))))⟩))⟩))))), fun m9 K post h => (by cases m9 with | zero => exact False.elim h | succ m9 => (rw [wp_Mo_write_L144] at h; replace h := h.2 c0; replace h := h.2 c1; replace h := h.2; replace h := qb3 _ h; replace h := h.2; replace h := h.2 c5; replace h := qb6 _ h; replace h := qb7 m9 _ _ h; exact h))⟩)
set_option maxHeartbeats 2000000 in
theorem dt_Mo_write {d : Nat} {dB : Nat} {z_this : T_Mo} {a1 : Int32} {post : Int32 → T_Mo → Prop} (h : wp_Mo_write d dB z_this a1 post) : (∃ (w0 : Int32) (w1 : T_Mo), (∀ (post : Int32 → T_Mo → Prop), post w0 w1 → wp_Mo_write d dB z_this a1 post) ∧ (∀ (post : Int32 → T_Mo → Prop), wp_Mo_write d dB z_this a1 post → post w0 w1)) := by
  unfold wp_Mo_write at h
  obtain ⟨k0, h⟩ := h
  rcases dt_Mo_write_L17 k0 _ _ _ _ _ h with ⟨z_this, x1, x2, qa0, qb0⟩ | ⟨w0_0, w0_1, qa0, qb0⟩
  · replace h := qb0 k0 _ _ h
    obtain ⟨k1, h⟩ := h
    rcases dt_Mo_write_L144 k1 _ _ _ _ _ h with ⟨z_this, x1, x2, qa1, qb1⟩ | ⟨w1_0, w1_1, qa1, qb1⟩
    · replace h := qb1 k1 _ _ h
      exact ⟨_, _, fun post q => (by unfold wp_Mo_write; exact ⟨k0, (qa0 _ _ (⟨k1, (qa1 _ _ (q))⟩))⟩), fun post h => (by unfold wp_Mo_write at h; obtain ⟨m0, h⟩ := h; replace h := qb0 m0 _ _ h; obtain ⟨m1, h⟩ := h; replace h := qb1 m1 _ _ h; exact h)⟩
    · exact ⟨_, _, fun post q => (by unfold wp_Mo_write; exact ⟨k0, (qa0 _ _ (⟨k1, (qa1 _ _ (q))⟩))⟩), fun post h => (by unfold wp_Mo_write at h; obtain ⟨m0, h⟩ := h; replace h := qb0 m0 _ _ h; obtain ⟨m1, h⟩ := h; replace h := qb1 m1 _ _ h; exact h)⟩
  · exact ⟨_, _, fun post q => (by unfold wp_Mo_write; exact ⟨k0, (qa0 _ _ (q))⟩), fun post h => (by unfold wp_Mo_write at h; obtain ⟨m0, h⟩ := h; replace h := qb0 m0 _ _ h; exact h)⟩
