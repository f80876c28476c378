set_option maxHeartbeats 4000000 in
theorem s_Gr_wrongPlace {z_this : T_Gr} {post : Int32 → Unit → Prop} (hp : ∀ r u, True → post r u) : wp_Gr_wrongPlace z_this post := by
  unfold wp_Gr_wrongPlace
  exact hp _ _ (by first | assumption | trivial | grind [I_Nm, I_Nd, I_Wd, I_Wd0, I_Pg, bt])
set_option maxHeartbeats 4000000 in
theorem s_Gr_isBetween {z_this : T_Gr} {z_this_words : T_Wd} {a1 : Int32} {a2 : Int32} {post : Int32 → Unit → Prop} (hp : ∀ r u, (r = 0 ∨ r = 1) → post r u) : wp_Gr_isBetween z_this z_this_words a1 a2 post := by
  unfold wp_Gr_isBetween
  refine ⟨fun h0 => ?_, fun h1 => ?_⟩
  · exact hp _ _ (by first | assumption | trivial | grind [I_Nm, I_Nd, I_Wd, I_Wd0, I_Pg, bt])
  · refine ⟨fun h2 => ?_, fun h3 => ?_⟩
    · exact hp _ _ (by first | assumption | trivial | grind [I_Nm, I_Nd, I_Wd, I_Wd0, I_Pg, bt])
    · exact hp _ _ (by first | assumption | trivial | grind [I_Nm, I_Nd, I_Wd, I_Wd0, I_Pg, bt])
set_option maxHeartbeats 4000000 in
theorem s_Gr_refuse {z_this : T_Gr} {a1 : Int32} {postT : T_Gr → Prop} (hpT : ∀ u, True → postT u) : wp_Gr_refuse z_this a1 postT := by
  unfold wp_Gr_refuse
  exact hpT _ (by first | assumption | trivial | grind [I_Nm, I_Nd, I_Wd, I_Wd0, I_Pg, bt])
set_option maxHeartbeats 4000000 in
theorem s_Gr_pass {z_this : T_Gr} {z_this_nodes : T_Nd} {z_this_words : T_Wd} {post : Unit → T_Gr × T_Wd → Prop} {postT : T_Gr × T_Wd → Prop} (p0 : I_Wd0 z_this_words) (hp : ∀ r u, I_Wd0 u.2 → post r u) (hpT : ∀ u, I_Wd0 u.2 → postT u) : wp_Gr_pass z_this z_this_nodes z_this_words post postT := by
  unfold wp_Gr_pass
  refine s_Nd_isTooMany (fun r1 u1 hq0 => ?_)
  refine ⟨fun h1 => ?_, fun h2 => ?_⟩
  · refine s_Wd_advance (by first | assumption | trivial | grind [I_Nm, I_Nd, I_Wd, I_Wd0, I_Pg, bt]) (fun r2 u2 hq3 => ?_)
    refine ⟨fun h4 => ?_, fun h5 => ?_⟩
    · refine s_Gr_refuse (fun u hq6 => ?_)
      exact hpT _ (by first | assumption | trivial | grind [I_Nm, I_Nd, I_Wd, I_Wd0, I_Pg, bt])
    · exact hp _ _ (by first | assumption | trivial | grind [I_Nm, I_Nd, I_Wd, I_Wd0, I_Pg, bt])
  · refine s_Gr_refuse (fun u hq3 => ?_)
    exact hpT _ (by first | assumption | trivial | grind [I_Nm, I_Nd, I_Wd, I_Wd0, I_Pg, bt])
set_option maxHeartbeats 4000000 in
theorem s_Gr_readNewName {z_this : T_Gr} {z_this_names : T_Nm} {z_this_nodes : T_Nd} {z_this_words : T_Wd} {post : Int64 → T_Gr × T_Wd → Prop} {postT : T_Gr × T_Wd → Prop} (p0 : I_Nm z_this_names) (p1 : I_Wd0 z_this_words) (hp : ∀ r u, I_Wd0 u.2 → post r u) (hpT : ∀ u, I_Wd0 u.2 → postT u) : wp_Gr_readNewName z_this z_this_names z_this_nodes z_this_words post postT := by
  unfold wp_Gr_readNewName
  refine s_Gr_pass (by first | assumption | trivial | grind [I_Nm, I_Nd, I_Wd, I_Wd0, I_Pg, bt]) (fun r1 u1 hq0 => ?_) (fun u hq0 => ?_)
  · refine ⟨fun h1 => ?_, fun h2 => ?_⟩
    · refine s_Nm_canTell (by first | assumption | trivial | grind [I_Nm, I_Nd, I_Wd, I_Wd0, I_Pg, bt]) (fun r3 u3 hq3 => ?_)
      refine ⟨fun h4 => ?_, fun h5 => ?_⟩
      · refine s_Gr_refuse (fun u hq6 => ?_)
        exact hpT _ (by first | assumption | trivial | grind [I_Nm, I_Nd, I_Wd, I_Wd0, I_Pg, bt])
      · refine s_Gr_pass (by first | assumption | trivial | grind [I_Nm, I_Nd, I_Wd, I_Wd0, I_Pg, bt]) (fun r4 u4 hq6 => ?_) (fun u hq6 => ?_)
        · exact hp _ _ (by first | assumption | trivial | grind [I_Nm, I_Nd, I_Wd, I_Wd0, I_Pg, bt])
        · exact hpT _ (by first | assumption | trivial | grind [I_Nm, I_Nd, I_Wd, I_Wd0, I_Pg, bt])
    · refine s_Gr_refuse (fun u hq3 => ?_)
      exact hpT _ (by first | assumption | trivial | grind [I_Nm, I_Nd, I_Wd, I_Wd0, I_Pg, bt])
  · exact hpT _ (by first | assumption | trivial | grind [I_Nm, I_Nd, I_Wd, I_Wd0, I_Pg, bt])
set_option maxHeartbeats 4000000 in
theorem s_Gr_refuseOneMore {z_this : T_Gr} {z_this_words : T_Wd} {a1 : Int32} {post : Unit → T_Gr → Prop} {postT : T_Gr → Prop} (hp : ∀ r u, a1 < (60 : Int32) → post r u) (hpT : ∀ u, True → postT u) : wp_Gr_refuseOneMore z_this z_this_words a1 post postT := by
  unfold wp_Gr_refuseOneMore
  refine ⟨fun h0 => ?_, fun h1 => ?_⟩
  · exact hp _ _ (by first | assumption | trivial | grind [I_Nm, I_Nd, I_Wd, I_Wd0, I_Pg, bt])
  · refine s_Gr_refuse (fun u hq2 => ?_)
    exact hpT _ (by first | assumption | trivial | grind [I_Nm, I_Nd, I_Wd, I_Wd0, I_Pg, bt])
set_option maxHeartbeats 4000000 in
theorem s_Gr_take {z_this : T_Gr} {z_this_nodes : T_Nd} {z_this_words : T_Wd} {a1 : Int32} {post : Unit → T_Gr × T_Wd → Prop} {postT : T_Gr × T_Wd → Prop} (p0 : I_Wd0 z_this_words) (hp : ∀ r u, I_Wd0 u.2 → post r u) (hpT : ∀ u, I_Wd0 u.2 → postT u) : wp_Gr_take z_this z_this_nodes z_this_words a1 post postT := by
  unfold wp_Gr_take
  refine ⟨fun h0 => ?_, fun h1 => ?_⟩
  · refine s_Gr_pass (by first | assumption | trivial | grind [I_Nm, I_Nd, I_Wd, I_Wd0, I_Pg, bt]) (fun r1 u1 hq2 => ?_) (fun u hq2 => ?_)
    · exact hp _ _ (by first | assumption | trivial | grind [I_Nm, I_Nd, I_Wd, I_Wd0, I_Pg, bt])
    · exact hpT _ (by first | assumption | trivial | grind [I_Nm, I_Nd, I_Wd, I_Wd0, I_Pg, bt])
  · refine s_Gr_refuse (fun u hq2 => ?_)
    exact hpT _ (by first | assumption | trivial | grind [I_Nm, I_Nd, I_Wd, I_Wd0, I_Pg, bt])
set_option maxHeartbeats 4000000 in
theorem s_Gr_readName {z_this : T_Gr} {z_this_names : T_Nm} {z_this_nodes : T_Nd} {z_this_words : T_Wd} {a1 : Int32} {post : Int32 → T_Gr × T_Wd → Prop} {postT : T_Gr × T_Wd → Prop} (p0 : I_Wd0 z_this_words) (hp : ∀ r u, I_Wd0 u.2 → post r u) (hpT : ∀ u, I_Wd0 u.2 → postT u) : wp_Gr_readName z_this z_this_names z_this_nodes z_this_words a1 post postT := by
  unfold wp_Gr_readName
  refine ⟨fun h0 => ?_, fun h1 => ?_⟩
  · refine s_Nm_find (fun r5 u5 hq2 => ?_)
    refine ⟨fun h3 => ?_, fun h4 => ?_⟩
    · refine s_Gr_refuse (fun u hq5 => ?_)
      exact hpT _ (by first | assumption | trivial | grind [I_Nm, I_Nd, I_Wd, I_Wd0, I_Pg, bt])
    · refine s_Nm_sortOf (fun r7 u7 hq5 => ?_)
      refine ⟨fun h6 => ?_, fun h7 => ?_⟩
      · refine s_Gr_pass (by first | assumption | trivial | grind [I_Nm, I_Nd, I_Wd, I_Wd0, I_Pg, bt]) (fun r8 u8 hq8 => ?_) (fun u hq8 => ?_)
        · exact hp _ _ (by first | assumption | trivial | grind [I_Nm, I_Nd, I_Wd, I_Wd0, I_Pg, bt])
        · exact hpT _ (by first | assumption | trivial | grind [I_Nm, I_Nd, I_Wd, I_Wd0, I_Pg, bt])
      · refine s_Gr_refuse (fun u hq8 => ?_)
        exact hpT _ (by first | assumption | trivial | grind [I_Nm, I_Nd, I_Wd, I_Wd0, I_Pg, bt])
  · refine ⟨fun h2 => ?_, fun h3 => ?_⟩
    · refine s_Gr_refuse (fun u hq4 => ?_)
      exact hpT _ (by first | assumption | trivial | grind [I_Nm, I_Nd, I_Wd, I_Wd0, I_Pg, bt])
    · refine s_Nm_sortOf (fun r2 u2 hq4 => ?_)
      refine ⟨fun h5 => ?_, fun h6 => ?_⟩
      · refine s_Gr_pass (by first | assumption | trivial | grind [I_Nm, I_Nd, I_Wd, I_Wd0, I_Pg, bt]) (fun r3 u3 hq7 => ?_) (fun u hq7 => ?_)
        · exact hp _ _ (by first | assumption | trivial | grind [I_Nm, I_Nd, I_Wd, I_Wd0, I_Pg, bt])
        · exact hpT _ (by first | assumption | trivial | grind [I_Nm, I_Nd, I_Wd, I_Wd0, I_Pg, bt])
      · refine s_Gr_refuse (fun u hq7 => ?_)
        exact hpT _ (by first | assumption | trivial | grind [I_Nm, I_Nd, I_Wd, I_Wd0, I_Pg, bt])
set_option maxHeartbeats 4000000 in
theorem s_Gr_measureHere {z_this : T_Gr} {z_this_words : T_Wd} {post : Int32 → Unit → Prop} (hp : ∀ r u, True → post r u) : wp_Gr_measureHere z_this z_this_words post := by
  unfold wp_Gr_measureHere
  refine s_Gr_isBetween (fun r1 u1 hq0 => ?_)
  refine ⟨fun h1 => ?_, fun h2 => ?_⟩
  · exact hp _ _ (by first | assumption | trivial | grind [I_Nm, I_Nd, I_Wd, I_Wd0, I_Pg, bt])
  · exact hp _ _ (by first | assumption | trivial | grind [I_Nm, I_Nd, I_Wd, I_Wd0, I_Pg, bt])
set_option maxHeartbeats 4000000 in
theorem s_Gr_readAmount {z_this : T_Gr} {z_this_nodes : T_Nd} {z_this_words : T_Wd} {post : Int32 → T_Gr × T_Nd × T_Wd → Prop} {postT : T_Gr × T_Nd × T_Wd → Prop} (p0 : I_Nd z_this_nodes) (p1 : I_Wd0 z_this_words) (hp : ∀ r u, (I_Nd u.2.1 ∧ I_Wd0 u.2.2) → post r u) (hpT : ∀ u, (I_Nd u.2.1 ∧ I_Wd0 u.2.2) → postT u) : wp_Gr_readAmount z_this z_this_nodes z_this_words post postT := by
  unfold wp_Gr_readAmount
  refine s_Gr_pass (by first | assumption | trivial | grind [I_Nm, I_Nd, I_Wd, I_Wd0, I_Pg, bt]) (fun r1 u1 hq0 => ?_) (fun u hq0 => ?_)
  · refine s_Gr_measureHere (fun r2 u2 hq1 => ?_)
    refine s_Gr_isBetween (fun r3 u3 hq2 => ?_)
    refine ⟨fun h3 => ?_, fun h4 => ?_⟩
    · refine ⟨fun h5 => ?_, fun h6 => ?_⟩
      · refine ⟨fun h7 => ?_, fun h8 => ?_⟩
        · refine s_Nd_count (by first | assumption | trivial | grind [I_Nm, I_Nd, I_Wd, I_Wd0, I_Pg, bt]) (fun r4 u4 hq9 => ?_)
          refine s_Nd_add (by first | assumption | trivial | grind [I_Nm, I_Nd, I_Wd, I_Wd0, I_Pg, bt]) (fun r5 u5 hq10 => ?_)
          exact hp _ _ (by first | assumption | trivial | grind [I_Nm, I_Nd, I_Wd, I_Wd0, I_Pg, bt])
        · refine s_Gr_pass (by first | assumption | trivial | grind [I_Nm, I_Nd, I_Wd, I_Wd0, I_Pg, bt]) (fun r6 u6 hq9 => ?_) (fun u hq9 => ?_)
          · refine s_Nd_count (by first | assumption | trivial | grind [I_Nm, I_Nd, I_Wd, I_Wd0, I_Pg, bt]) (fun r7 u7 hq10 => ?_)
            refine s_Nd_add (by first | assumption | trivial | grind [I_Nm, I_Nd, I_Wd, I_Wd0, I_Pg, bt]) (fun r8 u8 hq11 => ?_)
            exact hp _ _ (by first | assumption | trivial | grind [I_Nm, I_Nd, I_Wd, I_Wd0, I_Pg, bt])
          · exact hpT _ (by first | assumption | trivial | grind [I_Nm, I_Nd, I_Wd, I_Wd0, I_Pg, bt])
      · refine s_Gr_refuse (fun u hq7 => ?_)
        exact hpT _ (by first | assumption | trivial | grind [I_Nm, I_Nd, I_Wd, I_Wd0, I_Pg, bt])
    · refine ⟨fun h5 => ?_, fun h6 => ?_⟩
      · refine ⟨fun h7 => ?_, fun h8 => ?_⟩
        · refine ⟨fun h9 => ?_, fun h10 => ?_⟩
          · refine s_Nd_count (by first | assumption | trivial | grind [I_Nm, I_Nd, I_Wd, I_Wd0, I_Pg, bt]) (fun r16 u16 hq11 => ?_)
            refine s_Nd_add (by first | assumption | trivial | grind [I_Nm, I_Nd, I_Wd, I_Wd0, I_Pg, bt]) (fun r17 u17 hq12 => ?_)
            exact hp _ _ (by first | assumption | trivial | grind [I_Nm, I_Nd, I_Wd, I_Wd0, I_Pg, bt])
          · refine s_Gr_pass (by first | assumption | trivial | grind [I_Nm, I_Nd, I_Wd, I_Wd0, I_Pg, bt]) (fun r18 u18 hq11 => ?_) (fun u hq11 => ?_)
            · refine s_Nd_count (by first | assumption | trivial | grind [I_Nm, I_Nd, I_Wd, I_Wd0, I_Pg, bt]) (fun r19 u19 hq12 => ?_)
              refine s_Nd_add (by first | assumption | trivial | grind [I_Nm, I_Nd, I_Wd, I_Wd0, I_Pg, bt]) (fun r20 u20 hq13 => ?_)
              exact hp _ _ (by first | assumption | trivial | grind [I_Nm, I_Nd, I_Wd, I_Wd0, I_Pg, bt])
            · exact hpT _ (by first | assumption | trivial | grind [I_Nm, I_Nd, I_Wd, I_Wd0, I_Pg, bt])
        · refine s_Gr_refuse (fun u hq9 => ?_)
          exact hpT _ (by first | assumption | trivial | grind [I_Nm, I_Nd, I_Wd, I_Wd0, I_Pg, bt])
      · refine ⟨fun h7 => ?_, fun h8 => ?_⟩
        · refine ⟨fun h9 => ?_, fun h10 => ?_⟩
          · refine s_Nd_count (by first | assumption | trivial | grind [I_Nm, I_Nd, I_Wd, I_Wd0, I_Pg, bt]) (fun r10 u10 hq11 => ?_)
            refine s_Nd_add (by first | assumption | trivial | grind [I_Nm, I_Nd, I_Wd, I_Wd0, I_Pg, bt]) (fun r11 u11 hq12 => ?_)
            exact hp _ _ (by first | assumption | trivial | grind [I_Nm, I_Nd, I_Wd, I_Wd0, I_Pg, bt])
          · refine s_Gr_pass (by first | assumption | trivial | grind [I_Nm, I_Nd, I_Wd, I_Wd0, I_Pg, bt]) (fun r12 u12 hq11 => ?_) (fun u hq11 => ?_)
            · refine s_Nd_count (by first | assumption | trivial | grind [I_Nm, I_Nd, I_Wd, I_Wd0, I_Pg, bt]) (fun r13 u13 hq12 => ?_)
              refine s_Nd_add (by first | assumption | trivial | grind [I_Nm, I_Nd, I_Wd, I_Wd0, I_Pg, bt]) (fun r14 u14 hq13 => ?_)
              exact hp _ _ (by first | assumption | trivial | grind [I_Nm, I_Nd, I_Wd, I_Wd0, I_Pg, bt])
            · exact hpT _ (by first | assumption | trivial | grind [I_Nm, I_Nd, I_Wd, I_Wd0, I_Pg, bt])
        · refine s_Gr_refuse (fun u hq9 => ?_)
          exact hpT _ (by first | assumption | trivial | grind [I_Nm, I_Nd, I_Wd, I_Wd0, I_Pg, bt])
  · exact hpT _ (by first | assumption | trivial | grind [I_Nm, I_Nd, I_Wd, I_Wd0, I_Pg, bt])
set_option maxHeartbeats 4000000 in
theorem s_Gr_readMeasured {z_this : T_Gr} {z_this_names : T_Nm} {z_this_nodes : T_Nd} {z_this_words : T_Wd} {post : Int32 → T_Gr × T_Nm × T_Nd × T_Wd → Prop} {postT : T_Gr × T_Nm × T_Nd × T_Wd → Prop} (p0 : I_Nm z_this_names) (p1 : I_Nd z_this_nodes) (p2 : I_Wd0 z_this_words) (hp : ∀ r u, (I_Nm u.2.1 ∧ I_Nd u.2.2.1 ∧ I_Wd0 u.2.2.2) → post r u) (hpT : ∀ u, (I_Nm u.2.1 ∧ I_Nd u.2.2.1 ∧ I_Wd0 u.2.2.2) → postT u) : wp_Gr_readMeasured z_this z_this_names z_this_nodes z_this_words post postT := by
  unfold wp_Gr_readMeasured
  refine ⟨fun h0 => ?_, fun h1 => ?_⟩
  · refine s_Nm_find (fun r14 u14 hq2 => ?_)
    refine ⟨fun h3 => ?_, fun h4 => ?_⟩
    · refine s_Gr_refuse (fun u hq5 => ?_)
      exact hpT _ (by first | assumption | trivial | grind [I_Nm, I_Nd, I_Wd, I_Wd0, I_Pg, bt])
    · refine s_Nm_sortOf (fun r16 u16 hq5 => ?_)
      refine ⟨fun h6 => ?_, fun h7 => ?_⟩
      · refine s_Gr_refuse (fun u hq8 => ?_)
        exact hpT _ (by first | assumption | trivial | grind [I_Nm, I_Nd, I_Wd, I_Wd0, I_Pg, bt])
      · refine s_Nm_sortOf (fun r17 u17 hq8 => ?_)
        refine ⟨fun h9 => ?_, fun h10 => ?_⟩
        · refine s_Nm_use (by first | assumption | trivial | grind [I_Nm, I_Nd, I_Wd, I_Wd0, I_Pg, bt]) (fun r22 u22 hq11 => ?_)
          refine s_Gr_pass (by first | assumption | trivial | grind [I_Nm, I_Nd, I_Wd, I_Wd0, I_Pg, bt]) (fun r23 u23 hq12 => ?_) (fun u hq12 => ?_)
          · refine s_Nd_count (by first | assumption | trivial | grind [I_Nm, I_Nd, I_Wd, I_Wd0, I_Pg, bt]) (fun r24 u24 hq13 => ?_)
            refine s_Nm_measureOf (fun r25 u25 hq14 => ?_)
            refine s_Nd_add (by first | assumption | trivial | grind [I_Nm, I_Nd, I_Wd, I_Wd0, I_Pg, bt]) (fun r26 u26 hq15 => ?_)
            exact hp _ _ (by first | assumption | trivial | grind [I_Nm, I_Nd, I_Wd, I_Wd0, I_Pg, bt])
          · exact hpT _ (by first | assumption | trivial | grind [I_Nm, I_Nd, I_Wd, I_Wd0, I_Pg, bt])
        · refine s_Gr_pass (by first | assumption | trivial | grind [I_Nm, I_Nd, I_Wd, I_Wd0, I_Pg, bt]) (fun r18 u18 hq11 => ?_) (fun u hq11 => ?_)
          · refine s_Nd_count (by first | assumption | trivial | grind [I_Nm, I_Nd, I_Wd, I_Wd0, I_Pg, bt]) (fun r19 u19 hq12 => ?_)
            refine s_Nm_measureOf (fun r20 u20 hq13 => ?_)
            refine s_Nd_add (by first | assumption | trivial | grind [I_Nm, I_Nd, I_Wd, I_Wd0, I_Pg, bt]) (fun r21 u21 hq14 => ?_)
            exact hp _ _ (by first | assumption | trivial | grind [I_Nm, I_Nd, I_Wd, I_Wd0, I_Pg, bt])
          · exact hpT _ (by first | assumption | trivial | grind [I_Nm, I_Nd, I_Wd, I_Wd0, I_Pg, bt])
  · refine ⟨fun h2 => ?_, fun h3 => ?_⟩
    · refine s_Gr_refuse (fun u hq4 => ?_)
      exact hpT _ (by first | assumption | trivial | grind [I_Nm, I_Nd, I_Wd, I_Wd0, I_Pg, bt])
    · refine s_Nm_sortOf (fun r2 u2 hq4 => ?_)
      refine ⟨fun h5 => ?_, fun h6 => ?_⟩
      · refine s_Gr_refuse (fun u hq7 => ?_)
        exact hpT _ (by first | assumption | trivial | grind [I_Nm, I_Nd, I_Wd, I_Wd0, I_Pg, bt])
      · refine s_Nm_sortOf (fun r3 u3 hq7 => ?_)
        refine ⟨fun h8 => ?_, fun h9 => ?_⟩
        · refine s_Nm_use (by first | assumption | trivial | grind [I_Nm, I_Nd, I_Wd, I_Wd0, I_Pg, bt]) (fun r8 u8 hq10 => ?_)
          refine s_Gr_pass (by first | assumption | trivial | grind [I_Nm, I_Nd, I_Wd, I_Wd0, I_Pg, bt]) (fun r9 u9 hq11 => ?_) (fun u hq11 => ?_)
          · refine s_Nd_count (by first | assumption | trivial | grind [I_Nm, I_Nd, I_Wd, I_Wd0, I_Pg, bt]) (fun r10 u10 hq12 => ?_)
            refine s_Nm_measureOf (fun r11 u11 hq13 => ?_)
            refine s_Nd_add (by first | assumption | trivial | grind [I_Nm, I_Nd, I_Wd, I_Wd0, I_Pg, bt]) (fun r12 u12 hq14 => ?_)
            exact hp _ _ (by first | assumption | trivial | grind [I_Nm, I_Nd, I_Wd, I_Wd0, I_Pg, bt])
          · exact hpT _ (by first | assumption | trivial | grind [I_Nm, I_Nd, I_Wd, I_Wd0, I_Pg, bt])
        · refine s_Gr_pass (by first | assumption | trivial | grind [I_Nm, I_Nd, I_Wd, I_Wd0, I_Pg, bt]) (fun r4 u4 hq10 => ?_) (fun u hq10 => ?_)
          · refine s_Nd_count (by first | assumption | trivial | grind [I_Nm, I_Nd, I_Wd, I_Wd0, I_Pg, bt]) (fun r5 u5 hq11 => ?_)
            refine s_Nm_measureOf (fun r6 u6 hq12 => ?_)
            refine s_Nd_add (by first | assumption | trivial | grind [I_Nm, I_Nd, I_Wd, I_Wd0, I_Pg, bt]) (fun r7 u7 hq13 => ?_)
            exact hp _ _ (by first | assumption | trivial | grind [I_Nm, I_Nd, I_Wd, I_Wd0, I_Pg, bt])
          · exact hpT _ (by first | assumption | trivial | grind [I_Nm, I_Nd, I_Wd, I_Wd0, I_Pg, bt])
set_option maxHeartbeats 4000000 in
theorem l_Gr_operator_L2 {z_this : T_Gr} {z_this_words : T_Wd} {K : Int32 → Int32 → Int32 → Prop} {post : Int32 → Unit → Prop} (hK : ∀ x1 x2 x3, ((0 : Int32) ≤ x3 ∧ x3 ≤ 10) → K x1 x2 x3) (hp : ∀ r u, True → post r u) : ∀ (n9 : Nat) (x1 : Int32) (x2 : Int32) (x3 : Int32), (0 : Int32) ≤ x3 → x3 ≤ 10 → (10 : Int32).toInt - (x3).toInt < ((n9 : Nat) : Int) → wp_Gr_operator_L2 z_this z_this_words K post n9 x1 x2 x3 := by
  intro n9
  induction n9 with
  | zero => intro x1 x2 x3 i0 i1 hm; exact (i_meas0 i1 hm).elim
  | succ n9 ih =>
    intro x1 x2 x3 i0 i1 hm
    rw [wp_Gr_operator_L2]
    refine ⟨fun h0 => ?_, fun h1 => ?_⟩
    · exact hK _ _ _ (by first | assumption | trivial | grind [I_Nm, I_Nd, I_Wd, I_Wd0, I_Pg, bt])
    · refine ⟨fun h2 => ?_, fun h3 => ?_⟩
      · exact hK _ _ _ (by first | assumption | trivial | grind [I_Nm, I_Nd, I_Wd, I_Wd0, I_Pg, bt])
      · refine ⟨(vin (c := 10) (by first | assumption | trivial | grind [I_Nm, I_Nd, I_Wd, I_Wd0, I_Pg, bt]) (by first | assumption | trivial | grind [I_Nm, I_Nd, I_Wd, I_Wd0, I_Pg, bt]) rfl), ?_⟩
        refine ⟨fun h4 => ?_, fun h5 => ?_⟩
        · exact hp _ _ (by first | assumption | trivial | grind [I_Nm, I_Nd, I_Wd, I_Wd0, I_Pg, bt])
        · exact ih _ _ _ (by first | assumption | trivial | grind [I_Nm, I_Nd, I_Wd, I_Wd0, I_Pg, bt]) (by first | assumption | trivial | grind [I_Nm, I_Nd, I_Wd, I_Wd0, I_Pg, bt]) (i_meas (by first | assumption | trivial | grind [I_Nm, I_Nd, I_Wd, I_Wd0, I_Pg, bt]) (by first | assumption | trivial | grind [I_Nm, I_Nd, I_Wd, I_Wd0, I_Pg, bt]) hm)
set_option maxHeartbeats 4000000 in
theorem s_Gr_operator {z_this : T_Gr} {z_this_words : T_Wd} {a1 : Int32} {a2 : Int32} {post : Int32 → Unit → Prop} (p0 : (0 : Int32) ≤ a1) (p1 : a1 ≤ 10) (hp : ∀ r u, True → post r u) : wp_Gr_operator z_this z_this_words a1 a2 post := by
  unfold wp_Gr_operator
  refine ⟨5000, l_Gr_operator_L2 (fun x1 x2 x3 hv0 => ?_) (fun r u hq => hp r u hq) 5000 _ _ _ (by first | assumption | trivial | grind [I_Nm, I_Nd, I_Wd, I_Wd0, I_Pg, bt]) (by first | assumption | trivial | grind [I_Nm, I_Nd, I_Wd, I_Wd0, I_Pg, bt]) (o_ent (by first | assumption | trivial | grind [I_Nm, I_Nd, I_Wd, I_Wd0, I_Pg, bt]))⟩
  exact hp _ _ (by first | assumption | trivial | grind [I_Nm, I_Nd, I_Wd, I_Wd0, I_Pg, bt])
set_option maxHeartbeats 4000000 in
theorem s_Gr_joined {a0 : Int32} {a1 : Int32} {a2 : Int32} {post : Int32 → Unit → Prop} (hp : ∀ r u, True → post r u) : wp_Gr_joined a0 a1 a2 post := by
  unfold wp_Gr_joined
  refine ⟨fun h0 => ?_, fun h1 => ?_⟩
  · refine ⟨fun h2 => ?_, fun h3 => ?_⟩
    · exact hp _ _ (by first | assumption | trivial | grind [I_Nm, I_Nd, I_Wd, I_Wd0, I_Pg, bt])
    · refine ⟨fun h4 => ?_, fun h5 => ?_⟩
      · refine ⟨fun h6 => ?_, fun h7 => ?_⟩
        · exact hp _ _ (by first | assumption | trivial | grind [I_Nm, I_Nd, I_Wd, I_Wd0, I_Pg, bt])
        · refine ⟨fun h8 => ?_, fun h9 => ?_⟩
          · exact hp _ _ (by first | assumption | trivial | grind [I_Nm, I_Nd, I_Wd, I_Wd0, I_Pg, bt])
          · refine ⟨fun h10 => ?_, fun h11 => ?_⟩
            · refine ⟨fun h12 => ?_, fun h13 => ?_⟩
              · exact hp _ _ (by first | assumption | trivial | grind [I_Nm, I_Nd, I_Wd, I_Wd0, I_Pg, bt])
              · exact hp _ _ (by first | assumption | trivial | grind [I_Nm, I_Nd, I_Wd, I_Wd0, I_Pg, bt])
            · exact hp _ _ (by first | assumption | trivial | grind [I_Nm, I_Nd, I_Wd, I_Wd0, I_Pg, bt])
      · refine ⟨fun h6 => ?_, fun h7 => ?_⟩
        · refine ⟨fun h8 => ?_, fun h9 => ?_⟩
          · exact hp _ _ (by first | assumption | trivial | grind [I_Nm, I_Nd, I_Wd, I_Wd0, I_Pg, bt])
          · refine ⟨fun h10 => ?_, fun h11 => ?_⟩
            · exact hp _ _ (by first | assumption | trivial | grind [I_Nm, I_Nd, I_Wd, I_Wd0, I_Pg, bt])
            · refine ⟨fun h12 => ?_, fun h13 => ?_⟩
              · refine ⟨fun h14 => ?_, fun h15 => ?_⟩
                · exact hp _ _ (by first | assumption | trivial | grind [I_Nm, I_Nd, I_Wd, I_Wd0, I_Pg, bt])
                · exact hp _ _ (by first | assumption | trivial | grind [I_Nm, I_Nd, I_Wd, I_Wd0, I_Pg, bt])
              · exact hp _ _ (by first | assumption | trivial | grind [I_Nm, I_Nd, I_Wd, I_Wd0, I_Pg, bt])
        · refine ⟨fun h8 => ?_, fun h9 => ?_⟩
          · exact hp _ _ (by first | assumption | trivial | grind [I_Nm, I_Nd, I_Wd, I_Wd0, I_Pg, bt])
          · refine ⟨fun h10 => ?_, fun h11 => ?_⟩
            · refine ⟨fun h12 => ?_, fun h13 => ?_⟩
              · exact hp _ _ (by first | assumption | trivial | grind [I_Nm, I_Nd, I_Wd, I_Wd0, I_Pg, bt])
              · exact hp _ _ (by first | assumption | trivial | grind [I_Nm, I_Nd, I_Wd, I_Wd0, I_Pg, bt])
            · exact hp _ _ (by first | assumption | trivial | grind [I_Nm, I_Nd, I_Wd, I_Wd0, I_Pg, bt])
  · refine ⟨fun h2 => ?_, fun h3 => ?_⟩
    · refine ⟨fun h4 => ?_, fun h5 => ?_⟩
      · exact hp _ _ (by first | assumption | trivial | grind [I_Nm, I_Nd, I_Wd, I_Wd0, I_Pg, bt])
      · refine ⟨fun h6 => ?_, fun h7 => ?_⟩
        · exact hp _ _ (by first | assumption | trivial | grind [I_Nm, I_Nd, I_Wd, I_Wd0, I_Pg, bt])
        · refine ⟨fun h8 => ?_, fun h9 => ?_⟩
          · refine ⟨fun h10 => ?_, fun h11 => ?_⟩
            · exact hp _ _ (by first | assumption | trivial | grind [I_Nm, I_Nd, I_Wd, I_Wd0, I_Pg, bt])
            · exact hp _ _ (by first | assumption | trivial | grind [I_Nm, I_Nd, I_Wd, I_Wd0, I_Pg, bt])
          · exact hp _ _ (by first | assumption | trivial | grind [I_Nm, I_Nd, I_Wd, I_Wd0, I_Pg, bt])
    · refine ⟨fun h4 => ?_, fun h5 => ?_⟩
      · refine ⟨fun h6 => ?_, fun h7 => ?_⟩
        · exact hp _ _ (by first | assumption | trivial | grind [I_Nm, I_Nd, I_Wd, I_Wd0, I_Pg, bt])
        · refine ⟨fun h8 => ?_, fun h9 => ?_⟩
          · exact hp _ _ (by first | assumption | trivial | grind [I_Nm, I_Nd, I_Wd, I_Wd0, I_Pg, bt])
          · refine ⟨fun h10 => ?_, fun h11 => ?_⟩
            · refine ⟨fun h12 => ?_, fun h13 => ?_⟩
              · exact hp _ _ (by first | assumption | trivial | grind [I_Nm, I_Nd, I_Wd, I_Wd0, I_Pg, bt])
              · exact hp _ _ (by first | assumption | trivial | grind [I_Nm, I_Nd, I_Wd, I_Wd0, I_Pg, bt])
            · exact hp _ _ (by first | assumption | trivial | grind [I_Nm, I_Nd, I_Wd, I_Wd0, I_Pg, bt])
      · refine ⟨fun h6 => ?_, fun h7 => ?_⟩
        · exact hp _ _ (by first | assumption | trivial | grind [I_Nm, I_Nd, I_Wd, I_Wd0, I_Pg, bt])
        · refine ⟨fun h8 => ?_, fun h9 => ?_⟩
          · refine ⟨fun h10 => ?_, fun h11 => ?_⟩
            · exact hp _ _ (by first | assumption | trivial | grind [I_Nm, I_Nd, I_Wd, I_Wd0, I_Pg, bt])
            · exact hp _ _ (by first | assumption | trivial | grind [I_Nm, I_Nd, I_Wd, I_Wd0, I_Pg, bt])
          · exact hp _ _ (by first | assumption | trivial | grind [I_Nm, I_Nd, I_Wd, I_Wd0, I_Pg, bt])
set_option maxHeartbeats 4000000 in
theorem s_Gr_join {z_this : T_Gr} {z_this_nodes : T_Nd} {a1 : Int32} {a2 : Int32} {a3 : Int32} {a4 : Int32} {post : Int32 → T_Gr × T_Nd → Prop} {postT : T_Gr × T_Nd → Prop} (p0 : I_Nd z_this_nodes) (hp : ∀ r u, I_Nd u.2 → post r u) (hpT : ∀ u, I_Nd u.2 → postT u) : wp_Gr_join z_this z_this_nodes a1 a2 a3 a4 post postT := by
  unfold wp_Gr_join
  refine s_Nd_measureOf (fun r1 u1 hq0 => ?_)
  refine s_Nd_measureOf (fun r2 u2 hq1 => ?_)
  refine s_Gr_joined (fun r3 u3 hq2 => ?_)
  refine ⟨fun h3 => ?_, fun h4 => ?_⟩
  · refine s_Gr_refuse (fun u hq5 => ?_)
    exact hpT _ (by first | assumption | trivial | grind [I_Nm, I_Nd, I_Wd, I_Wd0, I_Pg, bt])
  · refine s_Nd_lowOf (fun r4 u4 hq5 => ?_)
    refine s_Nd_rowOf (fun r5 u5 hq6 => ?_)
    refine s_Nd_add (by first | assumption | trivial | grind [I_Nm, I_Nd, I_Wd, I_Wd0, I_Pg, bt]) (fun r6 u6 hq7 => ?_)
    exact hp _ _ (by first | assumption | trivial | grind [I_Nm, I_Nd, I_Wd, I_Wd0, I_Pg, bt])
set_option maxHeartbeats 4000000 in
theorem s_Gr_readAct {z_this : T_Gr} {z_this_nodes : T_Nd} {z_this_words : T_Wd} {post : Int32 → T_Gr × T_Wd → Prop} {postT : T_Gr × T_Wd → Prop} (p0 : I_Wd0 z_this_words) (hp : ∀ r u, I_Wd0 u.2 → post r u) (hpT : ∀ u, I_Wd0 u.2 → postT u) : wp_Gr_readAct z_this z_this_nodes z_this_words post postT := by
  unfold wp_Gr_readAct
  refine ⟨fun h0 => ?_, fun h1 => ?_⟩
  · refine ⟨fun h2 => ?_, fun h3 => ?_⟩
    · refine s_Gr_pass (by first | assumption | trivial | grind [I_Nm, I_Nd, I_Wd, I_Wd0, I_Pg, bt]) (fun r2 u2 hq4 => ?_) (fun u hq4 => ?_)
      · exact hp _ _ (by first | assumption | trivial | grind [I_Nm, I_Nd, I_Wd, I_Wd0, I_Pg, bt])
      · exact hpT _ (by first | assumption | trivial | grind [I_Nm, I_Nd, I_Wd, I_Wd0, I_Pg, bt])
    · refine s_Gr_refuse (fun u hq4 => ?_)
      exact hpT _ (by first | assumption | trivial | grind [I_Nm, I_Nd, I_Wd, I_Wd0, I_Pg, bt])
  · refine s_Gr_refuse (fun u hq2 => ?_)
    exact hpT _ (by first | assumption | trivial | grind [I_Nm, I_Nd, I_Wd, I_Wd0, I_Pg, bt])
set_option maxHeartbeats 4000000 in
theorem s_Gr_readUnit {z_this : T_Gr} {z_this_nodes : T_Nd} {z_this_words : T_Wd} {post : Int32 → T_Gr × T_Wd → Prop} {postT : T_Gr × T_Wd → Prop} (p0 : I_Wd0 z_this_words) (hp : ∀ r u, I_Wd0 u.2 → post r u) (hpT : ∀ u, I_Wd0 u.2 → postT u) : wp_Gr_readUnit z_this z_this_nodes z_this_words post postT := by
  unfold wp_Gr_readUnit
  refine s_Gr_measureHere (fun r1 u1 hq0 => ?_)
  refine ⟨fun h1 => ?_, fun h2 => ?_⟩
  · exact hp _ _ (by first | assumption | trivial | grind [I_Nm, I_Nd, I_Wd, I_Wd0, I_Pg, bt])
  · refine s_Gr_pass (by first | assumption | trivial | grind [I_Nm, I_Nd, I_Wd, I_Wd0, I_Pg, bt]) (fun r2 u2 hq3 => ?_) (fun u hq3 => ?_)
    · exact hp _ _ (by first | assumption | trivial | grind [I_Nm, I_Nd, I_Wd, I_Wd0, I_Pg, bt])
    · exact hpT _ (by first | assumption | trivial | grind [I_Nm, I_Nd, I_Wd, I_Wd0, I_Pg, bt])
set_option maxHeartbeats 4000000 in
theorem l_Gr_readProduct_L16 {rf : T_Gr → T_Nm → T_Nd → T_Wd → Int32 → (Int32 → T_Gr × T_Nm × T_Nd × T_Wd → Prop) → (T_Gr × T_Nm × T_Nd × T_Wd → Prop) → Prop} {K : T_Gr → T_Nm → T_Nd → T_Wd → Int32 → Int32 → Int32 → Int32 → Prop} {post : Int32 → T_Gr × T_Nm × T_Nd × T_Wd → Prop} {postT : T_Gr × T_Nm × T_Nd × T_Wd → Prop} {Bp : Int32 → Prop} (hrf : ∀ (z : T_Gr) (zn : T_Nm) (zd : T_Nd) (zw : T_Wd) (a : Int32) (post : Int32 → T_Gr × T_Nm × T_Nd × T_Wd → Prop) (postT : T_Gr × T_Nm × T_Nd × T_Wd → Prop), I_Nm zn → I_Nd zd → I_Wd0 zw → Bp a → a ≤ (60 : Int32) → (∀ r u, (I_Nm u.2.1 ∧ I_Nd u.2.2.1 ∧ I_Wd0 u.2.2.2) → post r u) → (∀ u, (I_Nm u.2.1 ∧ I_Nd u.2.2.1 ∧ I_Wd0 u.2.2.2) → postT u) → rf z zn zd zw a post postT) (hK : ∀ z_this z_this_names z_this_nodes z_this_words x1 x2 x3 x4, ((0 : Int32) ≤ x4 ∧ x4 ≤ 4000 ∧ I_Nm z_this_names ∧ I_Nd z_this_nodes ∧ I_Wd0 z_this_words ∧ Bp x1 ∧ x1 ≤ (60 : Int32)) → K z_this z_this_names z_this_nodes z_this_words x1 x2 x3 x4) (hp : ∀ r u, (I_Nm u.2.1 ∧ I_Nd u.2.2.1 ∧ I_Wd0 u.2.2.2) → post r u) (hpT : ∀ u, (I_Nm u.2.1 ∧ I_Nd u.2.2.1 ∧ I_Wd0 u.2.2.2) → postT u) : ∀ (n9 : Nat) (z_this : T_Gr) (z_this_names : T_Nm) (z_this_nodes : T_Nd) (z_this_words : T_Wd) (x1 : Int32) (x2 : Int32) (x3 : Int32) (x4 : Int32), (0 : Int32) ≤ x4 → x4 ≤ 4000 → I_Nm z_this_names → I_Nd z_this_nodes → I_Wd0 z_this_words → Bp x1 → x1 ≤ (60 : Int32) → (4000 : Int32).toInt - (x4).toInt < ((n9 : Nat) : Int) → wp_Gr_readProduct_L16 rf K post postT n9 z_this z_this_names z_this_nodes z_this_words x1 x2 x3 x4 := by
  intro n9
  induction n9 with
  | zero => intro z_this z_this_names z_this_nodes z_this_words x1 x2 x3 x4 i0 i1 i2 i3 i4 i5 i6 hm; exact (i_meas0 i1 hm).elim
  | succ n9 ih =>
    intro z_this z_this_names z_this_nodes z_this_words x1 x2 x3 x4 i0 i1 i2 i3 i4 i5 i6 hm
    rw [wp_Gr_readProduct_L16]
    refine ⟨fun h0 => ?_, fun h1 => ?_⟩
    · exact hK _ _ _ _ _ _ _ _ (by first | assumption | trivial | grind [I_Nm, I_Nd, I_Wd, I_Wd0, I_Pg, bt])
    · refine ⟨fun h2 => ?_, fun h3 => ?_⟩
      · exact hK _ _ _ _ _ _ _ _ (by first | assumption | trivial | grind [I_Nm, I_Nd, I_Wd, I_Wd0, I_Pg, bt])
      · refine s_Gr_pass (by first | assumption | trivial | grind [I_Nm, I_Nd, I_Wd, I_Wd0, I_Pg, bt]) (fun r3 u3 hq4 => ?_) (fun u hq4 => ?_)
        · refine hrf _ _ _ _ _ _ _ (by first | assumption | trivial | grind [I_Nm, I_Nd, I_Wd, I_Wd0, I_Pg, bt]) (by first | assumption | trivial | grind [I_Nm, I_Nd, I_Wd, I_Wd0, I_Pg, bt]) (by first | assumption | trivial | grind [I_Nm, I_Nd, I_Wd, I_Wd0, I_Pg, bt]) (by first | assumption | trivial | grind [I_Nm, I_Nd, I_Wd, I_Wd0, I_Pg, bt]) (by first | assumption | trivial | grind [I_Nm, I_Nd, I_Wd, I_Wd0, I_Pg, bt]) (fun r4 u4 hq5 => ?_) (fun u hq5 => ?_)
          · refine s_Gr_join (by first | assumption | trivial | grind [I_Nm, I_Nd, I_Wd, I_Wd0, I_Pg, bt]) (fun r5 u5 hq6 => ?_) (fun u hq6 => ?_)
            · refine s_Gr_operator (by first | assumption | trivial | grind [I_Nm, I_Nd, I_Wd, I_Wd0, I_Pg, bt]) (by first | assumption | trivial | grind [I_Nm, I_Nd, I_Wd, I_Wd0, I_Pg, bt]) (fun r6 u6 hq7 => ?_)
              exact ih _ _ _ _ _ _ _ _ (by first | assumption | trivial | grind [I_Nm, I_Nd, I_Wd, I_Wd0, I_Pg, bt]) (by first | assumption | trivial | grind [I_Nm, I_Nd, I_Wd, I_Wd0, I_Pg, bt]) (by first | assumption | trivial | grind [I_Nm, I_Nd, I_Wd, I_Wd0, I_Pg, bt]) (by first | assumption | trivial | grind [I_Nm, I_Nd, I_Wd, I_Wd0, I_Pg, bt]) (by first | assumption | trivial | grind [I_Nm, I_Nd, I_Wd, I_Wd0, I_Pg, bt]) (by first | assumption | trivial | grind [I_Nm, I_Nd, I_Wd, I_Wd0, I_Pg, bt]) (by first | assumption | trivial | grind [I_Nm, I_Nd, I_Wd, I_Wd0, I_Pg, bt]) (i_meas (by first | assumption | trivial | grind [I_Nm, I_Nd, I_Wd, I_Wd0, I_Pg, bt]) (by first | assumption | trivial | grind [I_Nm, I_Nd, I_Wd, I_Wd0, I_Pg, bt]) hm)
            · exact hpT _ (by first | assumption | trivial | grind [I_Nm, I_Nd, I_Wd, I_Wd0, I_Pg, bt])
          · exact hpT _ (by first | assumption | trivial | grind [I_Nm, I_Nd, I_Wd, I_Wd0, I_Pg, bt])
        · exact hpT _ (by first | assumption | trivial | grind [I_Nm, I_Nd, I_Wd, I_Wd0, I_Pg, bt])
set_option maxHeartbeats 4000000 in
theorem s_Gr_readProduct {rf : T_Gr → T_Nm → T_Nd → T_Wd → Int32 → (Int32 → T_Gr × T_Nm × T_Nd × T_Wd → Prop) → (T_Gr × T_Nm × T_Nd × T_Wd → Prop) → Prop} {z_this : T_Gr} {z_this_names : T_Nm} {z_this_nodes : T_Nd} {z_this_words : T_Wd} {a1 : Int32} {post : Int32 → T_Gr × T_Nm × T_Nd × T_Wd → Prop} {postT : T_Gr × T_Nm × T_Nd × T_Wd → Prop} {Bp : Int32 → Prop} (hrf : ∀ (z : T_Gr) (zn : T_Nm) (zd : T_Nd) (zw : T_Wd) (a : Int32) (post : Int32 → T_Gr × T_Nm × T_Nd × T_Wd → Prop) (postT : T_Gr × T_Nm × T_Nd × T_Wd → Prop), I_Nm zn → I_Nd zd → I_Wd0 zw → Bp a → a ≤ (60 : Int32) → (∀ r u, (I_Nm u.2.1 ∧ I_Nd u.2.2.1 ∧ I_Wd0 u.2.2.2) → post r u) → (∀ u, (I_Nm u.2.1 ∧ I_Nd u.2.2.1 ∧ I_Wd0 u.2.2.2) → postT u) → rf z zn zd zw a post postT) (p0 : I_Nm z_this_names) (p1 : I_Nd z_this_nodes) (p2 : I_Wd0 z_this_words) (p3 : Bp a1) (p4 : a1 ≤ (60 : Int32)) (hp : ∀ r u, (I_Nm u.2.1 ∧ I_Nd u.2.2.1 ∧ I_Wd0 u.2.2.2) → post r u) (hpT : ∀ u, (I_Nm u.2.1 ∧ I_Nd u.2.2.1 ∧ I_Wd0 u.2.2.2) → postT u) : wp_Gr_readProduct rf z_this z_this_names z_this_nodes z_this_words a1 post postT := by
  unfold wp_Gr_readProduct
  refine hrf _ _ _ _ _ _ _ (by first | assumption | trivial | grind [I_Nm, I_Nd, I_Wd, I_Wd0, I_Pg, bt]) (by first | assumption | trivial | grind [I_Nm, I_Nd, I_Wd, I_Wd0, I_Pg, bt]) (by first | assumption | trivial | grind [I_Nm, I_Nd, I_Wd, I_Wd0, I_Pg, bt]) (by first | assumption | trivial | grind [I_Nm, I_Nd, I_Wd, I_Wd0, I_Pg, bt]) (by first | assumption | trivial | grind [I_Nm, I_Nd, I_Wd, I_Wd0, I_Pg, bt]) (fun r1 u1 hq0 => ?_) (fun u hq0 => ?_)
  · refine s_Gr_operator (by first | assumption | trivial | grind [I_Nm, I_Nd, I_Wd, I_Wd0, I_Pg, bt]) (by first | assumption | trivial | grind [I_Nm, I_Nd, I_Wd, I_Wd0, I_Pg, bt]) (fun r2 u2 hq1 => ?_)
    refine ⟨5000, l_Gr_readProduct_L16 hrf (fun z_this z_this_names z_this_nodes z_this_words x1 x2 x3 x4 hv2 => ?_) (fun r u hq => hp r u hq) (fun u hq => hpT u hq) 5000 _ _ _ _ _ _ _ _ (by first | assumption | trivial | grind [I_Nm, I_Nd, I_Wd, I_Wd0, I_Pg, bt]) (by first | assumption | trivial | grind [I_Nm, I_Nd, I_Wd, I_Wd0, I_Pg, bt]) (by first | assumption | trivial | grind [I_Nm, I_Nd, I_Wd, I_Wd0, I_Pg, bt]) (by first | assumption | trivial | grind [I_Nm, I_Nd, I_Wd, I_Wd0, I_Pg, bt]) (by first | assumption | trivial | grind [I_Nm, I_Nd, I_Wd, I_Wd0, I_Pg, bt]) (by first | assumption | trivial | grind [I_Nm, I_Nd, I_Wd, I_Wd0, I_Pg, bt]) (by first | assumption | trivial | grind [I_Nm, I_Nd, I_Wd, I_Wd0, I_Pg, bt]) (by decide)⟩
    exact hp _ _ (by first | assumption | trivial | grind [I_Nm, I_Nd, I_Wd, I_Wd0, I_Pg, bt])
  · exact hpT _ (by first | assumption | trivial | grind [I_Nm, I_Nd, I_Wd, I_Wd0, I_Pg, bt])
set_option maxHeartbeats 4000000 in
theorem l_Gr_readSum_L16 {rf : T_Gr → T_Nm → T_Nd → T_Wd → Int32 → (Int32 → T_Gr × T_Nm × T_Nd × T_Wd → Prop) → (T_Gr × T_Nm × T_Nd × T_Wd → Prop) → Prop} {K : T_Gr → T_Nm → T_Nd → T_Wd → Int32 → Int32 → Int32 → Int32 → Prop} {post : Int32 → T_Gr × T_Nm × T_Nd × T_Wd → Prop} {postT : T_Gr × T_Nm × T_Nd × T_Wd → Prop} {Bp : Int32 → Prop} (hrf : ∀ (z : T_Gr) (zn : T_Nm) (zd : T_Nd) (zw : T_Wd) (a : Int32) (post : Int32 → T_Gr × T_Nm × T_Nd × T_Wd → Prop) (postT : T_Gr × T_Nm × T_Nd × T_Wd → Prop), I_Nm zn → I_Nd zd → I_Wd0 zw → Bp a → a ≤ (60 : Int32) → (∀ r u, (I_Nm u.2.1 ∧ I_Nd u.2.2.1 ∧ I_Wd0 u.2.2.2) → post r u) → (∀ u, (I_Nm u.2.1 ∧ I_Nd u.2.2.1 ∧ I_Wd0 u.2.2.2) → postT u) → rf z zn zd zw a post postT) (hK : ∀ z_this z_this_names z_this_nodes z_this_words x1 x2 x3 x4, ((0 : Int32) ≤ x4 ∧ x4 ≤ 4000 ∧ I_Nm z_this_names ∧ I_Nd z_this_nodes ∧ I_Wd0 z_this_words ∧ Bp x1 ∧ x1 ≤ (60 : Int32)) → K z_this z_this_names z_this_nodes z_this_words x1 x2 x3 x4) (hp : ∀ r u, (I_Nm u.2.1 ∧ I_Nd u.2.2.1 ∧ I_Wd0 u.2.2.2) → post r u) (hpT : ∀ u, (I_Nm u.2.1 ∧ I_Nd u.2.2.1 ∧ I_Wd0 u.2.2.2) → postT u) : ∀ (n9 : Nat) (z_this : T_Gr) (z_this_names : T_Nm) (z_this_nodes : T_Nd) (z_this_words : T_Wd) (x1 : Int32) (x2 : Int32) (x3 : Int32) (x4 : Int32), (0 : Int32) ≤ x4 → x4 ≤ 4000 → I_Nm z_this_names → I_Nd z_this_nodes → I_Wd0 z_this_words → Bp x1 → x1 ≤ (60 : Int32) → (4000 : Int32).toInt - (x4).toInt < ((n9 : Nat) : Int) → wp_Gr_readSum_L16 rf K post postT n9 z_this z_this_names z_this_nodes z_this_words x1 x2 x3 x4 := by
  intro n9
  induction n9 with
  | zero => intro z_this z_this_names z_this_nodes z_this_words x1 x2 x3 x4 i0 i1 i2 i3 i4 i5 i6 hm; exact (i_meas0 i1 hm).elim
  | succ n9 ih =>
    intro z_this z_this_names z_this_nodes z_this_words x1 x2 x3 x4 i0 i1 i2 i3 i4 i5 i6 hm
    rw [wp_Gr_readSum_L16]
    refine ⟨fun h0 => ?_, fun h1 => ?_⟩
    · exact hK _ _ _ _ _ _ _ _ (by first | assumption | trivial | grind [I_Nm, I_Nd, I_Wd, I_Wd0, I_Pg, bt])
    · refine ⟨fun h2 => ?_, fun h3 => ?_⟩
      · exact hK _ _ _ _ _ _ _ _ (by first | assumption | trivial | grind [I_Nm, I_Nd, I_Wd, I_Wd0, I_Pg, bt])
      · refine s_Gr_pass (by first | assumption | trivial | grind [I_Nm, I_Nd, I_Wd, I_Wd0, I_Pg, bt]) (fun r3 u3 hq4 => ?_) (fun u hq4 => ?_)
        · refine s_Gr_readProduct hrf (by first | assumption | trivial | grind [I_Nm, I_Nd, I_Wd, I_Wd0, I_Pg, bt]) (by first | assumption | trivial | grind [I_Nm, I_Nd, I_Wd, I_Wd0, I_Pg, bt]) (by first | assumption | trivial | grind [I_Nm, I_Nd, I_Wd, I_Wd0, I_Pg, bt]) (by first | assumption | trivial | grind [I_Nm, I_Nd, I_Wd, I_Wd0, I_Pg, bt]) (by first | assumption | trivial | grind [I_Nm, I_Nd, I_Wd, I_Wd0, I_Pg, bt]) (fun r4 u4 hq5 => ?_) (fun u hq5 => ?_)
          · refine s_Gr_join (by first | assumption | trivial | grind [I_Nm, I_Nd, I_Wd, I_Wd0, I_Pg, bt]) (fun r5 u5 hq6 => ?_) (fun u hq6 => ?_)
            · refine s_Gr_operator (by first | assumption | trivial | grind [I_Nm, I_Nd, I_Wd, I_Wd0, I_Pg, bt]) (by first | assumption | trivial | grind [I_Nm, I_Nd, I_Wd, I_Wd0, I_Pg, bt]) (fun r6 u6 hq7 => ?_)
              exact ih _ _ _ _ _ _ _ _ (by first | assumption | trivial | grind [I_Nm, I_Nd, I_Wd, I_Wd0, I_Pg, bt]) (by first | assumption | trivial | grind [I_Nm, I_Nd, I_Wd, I_Wd0, I_Pg, bt]) (by first | assumption | trivial | grind [I_Nm, I_Nd, I_Wd, I_Wd0, I_Pg, bt]) (by first | assumption | trivial | grind [I_Nm, I_Nd, I_Wd, I_Wd0, I_Pg, bt]) (by first | assumption | trivial | grind [I_Nm, I_Nd, I_Wd, I_Wd0, I_Pg, bt]) (by first | assumption | trivial | grind [I_Nm, I_Nd, I_Wd, I_Wd0, I_Pg, bt]) (by first | assumption | trivial | grind [I_Nm, I_Nd, I_Wd, I_Wd0, I_Pg, bt]) (i_meas (by first | assumption | trivial | grind [I_Nm, I_Nd, I_Wd, I_Wd0, I_Pg, bt]) (by first | assumption | trivial | grind [I_Nm, I_Nd, I_Wd, I_Wd0, I_Pg, bt]) hm)
            · exact hpT _ (by first | assumption | trivial | grind [I_Nm, I_Nd, I_Wd, I_Wd0, I_Pg, bt])
          · exact hpT _ (by first | assumption | trivial | grind [I_Nm, I_Nd, I_Wd, I_Wd0, I_Pg, bt])
        · exact hpT _ (by first | assumption | trivial | grind [I_Nm, I_Nd, I_Wd, I_Wd0, I_Pg, bt])
set_option maxHeartbeats 4000000 in
theorem s_Gr_readSum {rf : T_Gr → T_Nm → T_Nd → T_Wd → Int32 → (Int32 → T_Gr × T_Nm × T_Nd × T_Wd → Prop) → (T_Gr × T_Nm × T_Nd × T_Wd → Prop) → Prop} {z_this : T_Gr} {z_this_names : T_Nm} {z_this_nodes : T_Nd} {z_this_words : T_Wd} {a1 : Int32} {post : Int32 → T_Gr × T_Nm × T_Nd × T_Wd → Prop} {postT : T_Gr × T_Nm × T_Nd × T_Wd → Prop} {Bp : Int32 → Prop} (hrf : ∀ (z : T_Gr) (zn : T_Nm) (zd : T_Nd) (zw : T_Wd) (a : Int32) (post : Int32 → T_Gr × T_Nm × T_Nd × T_Wd → Prop) (postT : T_Gr × T_Nm × T_Nd × T_Wd → Prop), I_Nm zn → I_Nd zd → I_Wd0 zw → Bp a → a ≤ (60 : Int32) → (∀ r u, (I_Nm u.2.1 ∧ I_Nd u.2.2.1 ∧ I_Wd0 u.2.2.2) → post r u) → (∀ u, (I_Nm u.2.1 ∧ I_Nd u.2.2.1 ∧ I_Wd0 u.2.2.2) → postT u) → rf z zn zd zw a post postT) (p0 : I_Nm z_this_names) (p1 : I_Nd z_this_nodes) (p2 : I_Wd0 z_this_words) (p3 : Bp a1) (p4 : a1 ≤ (60 : Int32)) (hp : ∀ r u, (I_Nm u.2.1 ∧ I_Nd u.2.2.1 ∧ I_Wd0 u.2.2.2) → post r u) (hpT : ∀ u, (I_Nm u.2.1 ∧ I_Nd u.2.2.1 ∧ I_Wd0 u.2.2.2) → postT u) : wp_Gr_readSum rf z_this z_this_names z_this_nodes z_this_words a1 post postT := by
  unfold wp_Gr_readSum
  refine s_Gr_readProduct hrf (by first | assumption | trivial | grind [I_Nm, I_Nd, I_Wd, I_Wd0, I_Pg, bt]) (by first | assumption | trivial | grind [I_Nm, I_Nd, I_Wd, I_Wd0, I_Pg, bt]) (by first | assumption | trivial | grind [I_Nm, I_Nd, I_Wd, I_Wd0, I_Pg, bt]) (by first | assumption | trivial | grind [I_Nm, I_Nd, I_Wd, I_Wd0, I_Pg, bt]) (by first | assumption | trivial | grind [I_Nm, I_Nd, I_Wd, I_Wd0, I_Pg, bt]) (fun r1 u1 hq0 => ?_) (fun u hq0 => ?_)
  · refine s_Gr_operator (by first | assumption | trivial | grind [I_Nm, I_Nd, I_Wd, I_Wd0, I_Pg, bt]) (by first | assumption | trivial | grind [I_Nm, I_Nd, I_Wd, I_Wd0, I_Pg, bt]) (fun r2 u2 hq1 => ?_)
    refine ⟨5000, l_Gr_readSum_L16 hrf (fun z_this z_this_names z_this_nodes z_this_words x1 x2 x3 x4 hv2 => ?_) (fun r u hq => hp r u hq) (fun u hq => hpT u hq) 5000 _ _ _ _ _ _ _ _ (by first | assumption | trivial | grind [I_Nm, I_Nd, I_Wd, I_Wd0, I_Pg, bt]) (by first | assumption | trivial | grind [I_Nm, I_Nd, I_Wd, I_Wd0, I_Pg, bt]) (by first | assumption | trivial | grind [I_Nm, I_Nd, I_Wd, I_Wd0, I_Pg, bt]) (by first | assumption | trivial | grind [I_Nm, I_Nd, I_Wd, I_Wd0, I_Pg, bt]) (by first | assumption | trivial | grind [I_Nm, I_Nd, I_Wd, I_Wd0, I_Pg, bt]) (by first | assumption | trivial | grind [I_Nm, I_Nd, I_Wd, I_Wd0, I_Pg, bt]) (by first | assumption | trivial | grind [I_Nm, I_Nd, I_Wd, I_Wd0, I_Pg, bt]) (by decide)⟩
    exact hp _ _ (by first | assumption | trivial | grind [I_Nm, I_Nd, I_Wd, I_Wd0, I_Pg, bt])
  · exact hpT _ (by first | assumption | trivial | grind [I_Nm, I_Nd, I_Wd, I_Wd0, I_Pg, bt])
set_option maxHeartbeats 4000000 in
theorem s_Gr_readFactor_F {rf : T_Gr → T_Nm → T_Nd → T_Wd → Int32 → (Int32 → T_Gr × T_Nm × T_Nd × T_Wd → Prop) → (T_Gr × T_Nm × T_Nd × T_Wd → Prop) → Prop} {z_this : T_Gr} {z_this_names : T_Nm} {z_this_nodes : T_Nd} {z_this_words : T_Wd} {a1 : Int32} {post : Int32 → T_Gr × T_Nm × T_Nd × T_Wd → Prop} {postT : T_Gr × T_Nm × T_Nd × T_Wd → Prop} {Bp : Int32 → Prop} (hrf : ∀ (z : T_Gr) (zn : T_Nm) (zd : T_Nd) (zw : T_Wd) (a : Int32) (post : Int32 → T_Gr × T_Nm × T_Nd × T_Wd → Prop) (postT : T_Gr × T_Nm × T_Nd × T_Wd → Prop), I_Nm zn → I_Nd zd → I_Wd0 zw → Bp a → a ≤ (60 : Int32) → (∀ r u, (I_Nm u.2.1 ∧ I_Nd u.2.2.1 ∧ I_Wd0 u.2.2.2) → post r u) → (∀ u, (I_Nm u.2.1 ∧ I_Nd u.2.2.1 ∧ I_Wd0 u.2.2.2) → postT u) → rf z zn zd zw a post postT) (p0 : I_Nm z_this_names) (p1 : I_Nd z_this_nodes) (p2 : I_Wd0 z_this_words) (p3 : a1 < (60 : Int32) → Bp (a1 + (1 : Int32))) (p4 : a1 ≤ (60 : Int32)) (hp : ∀ r u, (I_Nm u.2.1 ∧ I_Nd u.2.2.1 ∧ I_Wd0 u.2.2.2) → post r u) (hpT : ∀ u, (I_Nm u.2.1 ∧ I_Nd u.2.2.1 ∧ I_Wd0 u.2.2.2) → postT u) : wp_Gr_readFactor_F rf z_this z_this_names z_this_nodes z_this_words a1 post postT := by
  unfold wp_Gr_readFactor_F
  refine s_Nd_count (by first | assumption | trivial | grind [I_Nm, I_Nd, I_Wd, I_Wd0, I_Pg, bt]) (fun r1 u1 hq0 => ?_)
  refine ⟨fun h1 => ?_, fun h2 => ?_, fun h3 => ?_, fun h4 => ?_, fun h5 => ?_⟩
  · refine s_Gr_refuseOneMore (fun r2 u2 hq6 => ?_) (fun u hq6 => ?_)
    · refine s_Gr_pass (by first | assumption | trivial | grind [I_Nm, I_Nd, I_Wd, I_Wd0, I_Pg, bt]) (fun r3 u3 hq7 => ?_) (fun u hq7 => ?_)
      · refine s_Gr_readSum hrf (by first | assumption | trivial | grind [I_Nm, I_Nd, I_Wd, I_Wd0, I_Pg, bt]) (by first | assumption | trivial | grind [I_Nm, I_Nd, I_Wd, I_Wd0, I_Pg, bt]) (by first | assumption | trivial | grind [I_Nm, I_Nd, I_Wd, I_Wd0, I_Pg, bt]) (by first | assumption | trivial | grind [I_Nm, I_Nd, I_Wd, I_Wd0, I_Pg, bt]) (by first | assumption | trivial | grind [I_Nm, I_Nd, I_Wd, I_Wd0, I_Pg, bt]) (fun r4 u4 hq8 => ?_) (fun u hq8 => ?_)
        · refine s_Gr_take (by first | assumption | trivial | grind [I_Nm, I_Nd, I_Wd, I_Wd0, I_Pg, bt]) (fun r5 u5 hq9 => ?_) (fun u hq9 => ?_)
          · exact hp _ _ (by first | assumption | trivial | grind [I_Nm, I_Nd, I_Wd, I_Wd0, I_Pg, bt])
          · exact hpT _ (by first | assumption | trivial | grind [I_Nm, I_Nd, I_Wd, I_Wd0, I_Pg, bt])
        · exact hpT _ (by first | assumption | trivial | grind [I_Nm, I_Nd, I_Wd, I_Wd0, I_Pg, bt])
      · exact hpT _ (by first | assumption | trivial | grind [I_Nm, I_Nd, I_Wd, I_Wd0, I_Pg, bt])
    · exact hpT _ (by first | assumption | trivial | grind [I_Nm, I_Nd, I_Wd, I_Wd0, I_Pg, bt])
  · refine s_Gr_refuseOneMore (fun r6 u6 hq6 => ?_) (fun u hq6 => ?_)
    · refine s_Gr_pass (by first | assumption | trivial | grind [I_Nm, I_Nd, I_Wd, I_Wd0, I_Pg, bt]) (fun r7 u7 hq7 => ?_) (fun u hq7 => ?_)
      · refine hrf _ _ _ _ _ _ _ (by first | assumption | trivial | grind [I_Nm, I_Nd, I_Wd, I_Wd0, I_Pg, bt]) (by first | assumption | trivial | grind [I_Nm, I_Nd, I_Wd, I_Wd0, I_Pg, bt]) (by first | assumption | trivial | grind [I_Nm, I_Nd, I_Wd, I_Wd0, I_Pg, bt]) (by first | assumption | trivial | grind [I_Nm, I_Nd, I_Wd, I_Wd0, I_Pg, bt]) (by first | assumption | trivial | grind [I_Nm, I_Nd, I_Wd, I_Wd0, I_Pg, bt]) (fun r8 u8 hq8 => ?_) (fun u hq8 => ?_)
        · refine s_Nd_measureOf (fun r9 u9 hq9 => ?_)
          refine s_Nd_add (by first | assumption | trivial | grind [I_Nm, I_Nd, I_Wd, I_Wd0, I_Pg, bt]) (fun r10 u10 hq10 => ?_)
          exact hp _ _ (by first | assumption | trivial | grind [I_Nm, I_Nd, I_Wd, I_Wd0, I_Pg, bt])
        · exact hpT _ (by first | assumption | trivial | grind [I_Nm, I_Nd, I_Wd, I_Wd0, I_Pg, bt])
      · exact hpT _ (by first | assumption | trivial | grind [I_Nm, I_Nd, I_Wd, I_Wd0, I_Pg, bt])
    · exact hpT _ (by first | assumption | trivial | grind [I_Nm, I_Nd, I_Wd, I_Wd0, I_Pg, bt])
  · refine s_Gr_readAmount (by first | assumption | trivial | grind [I_Nm, I_Nd, I_Wd, I_Wd0, I_Pg, bt]) (by first | assumption | trivial | grind [I_Nm, I_Nd, I_Wd, I_Wd0, I_Pg, bt]) (fun r11 u11 hq6 => ?_) (fun u hq6 => ?_)
    · exact hp _ _ (by first | assumption | trivial | grind [I_Nm, I_Nd, I_Wd, I_Wd0, I_Pg, bt])
    · exact hpT _ (by first | assumption | trivial | grind [I_Nm, I_Nd, I_Wd, I_Wd0, I_Pg, bt])
  · refine s_Gr_readAmount (by first | assumption | trivial | grind [I_Nm, I_Nd, I_Wd, I_Wd0, I_Pg, bt]) (by first | assumption | trivial | grind [I_Nm, I_Nd, I_Wd, I_Wd0, I_Pg, bt]) (fun r12 u12 hq6 => ?_) (fun u hq6 => ?_)
    · exact hp _ _ (by first | assumption | trivial | grind [I_Nm, I_Nd, I_Wd, I_Wd0, I_Pg, bt])
    · exact hpT _ (by first | assumption | trivial | grind [I_Nm, I_Nd, I_Wd, I_Wd0, I_Pg, bt])
  · refine s_Gr_readMeasured (by first | assumption | trivial | grind [I_Nm, I_Nd, I_Wd, I_Wd0, I_Pg, bt]) (by first | assumption | trivial | grind [I_Nm, I_Nd, I_Wd, I_Wd0, I_Pg, bt]) (by first | assumption | trivial | grind [I_Nm, I_Nd, I_Wd, I_Wd0, I_Pg, bt]) (fun r13 u13 hq6 => ?_) (fun u hq6 => ?_)
    · exact hp _ _ (by first | assumption | trivial | grind [I_Nm, I_Nd, I_Wd, I_Wd0, I_Pg, bt])
    · exact hpT _ (by first | assumption | trivial | grind [I_Nm, I_Nd, I_Wd, I_Wd0, I_Pg, bt])
set_option maxHeartbeats 4000000 in
theorem s_Gr_readTest {rf : T_Gr → T_Nm → T_Nd → T_Wd → Int32 → (Int32 → T_Gr × T_Nm × T_Nd × T_Wd → Prop) → (T_Gr × T_Nm × T_Nd × T_Wd → Prop) → Prop} {z_this : T_Gr} {z_this_names : T_Nm} {z_this_nodes : T_Nd} {z_this_words : T_Wd} {a1 : Int32} {post : Unit → T_Gr × T_Nm × T_Nd × T_Wd → Prop} {postT : T_Gr × T_Nm × T_Nd × T_Wd → Prop} {Bp : Int32 → Prop} (hrf : ∀ (z : T_Gr) (zn : T_Nm) (zd : T_Nd) (zw : T_Wd) (a : Int32) (post : Int32 → T_Gr × T_Nm × T_Nd × T_Wd → Prop) (postT : T_Gr × T_Nm × T_Nd × T_Wd → Prop), I_Nm zn → I_Nd zd → I_Wd0 zw → Bp a → a ≤ (60 : Int32) → (∀ r u, (I_Nm u.2.1 ∧ I_Nd u.2.2.1 ∧ I_Wd0 u.2.2.2) → post r u) → (∀ u, (I_Nm u.2.1 ∧ I_Nd u.2.2.1 ∧ I_Wd0 u.2.2.2) → postT u) → rf z zn zd zw a post postT) (p0 : I_Nm z_this_names) (p1 : I_Nd z_this_nodes) (p2 : I_Wd0 z_this_words) (p3 : Bp a1) (p4 : a1 ≤ (60 : Int32)) (hp : ∀ r u, (I_Nm u.2.1 ∧ I_Nd u.2.2.1 ∧ I_Wd0 u.2.2.2) → post r u) (hpT : ∀ u, (I_Nm u.2.1 ∧ I_Nd u.2.2.1 ∧ I_Wd0 u.2.2.2) → postT u) : wp_Gr_readTest rf z_this z_this_names z_this_nodes z_this_words a1 post postT := by
  unfold wp_Gr_readTest
  refine s_Gr_readSum hrf (by first | assumption | trivial | grind [I_Nm, I_Nd, I_Wd, I_Wd0, I_Pg, bt]) (by first | assumption | trivial | grind [I_Nm, I_Nd, I_Wd, I_Wd0, I_Pg, bt]) (by first | assumption | trivial | grind [I_Nm, I_Nd, I_Wd, I_Wd0, I_Pg, bt]) (by first | assumption | trivial | grind [I_Nm, I_Nd, I_Wd, I_Wd0, I_Pg, bt]) (by first | assumption | trivial | grind [I_Nm, I_Nd, I_Wd, I_Wd0, I_Pg, bt]) (fun r1 u1 hq0 => ?_) (fun u hq0 => ?_)
  · refine s_Gr_operator (by first | assumption | trivial | grind [I_Nm, I_Nd, I_Wd, I_Wd0, I_Pg, bt]) (by first | assumption | trivial | grind [I_Nm, I_Nd, I_Wd, I_Wd0, I_Pg, bt]) (fun r2 u2 hq1 => ?_)
    refine ⟨fun h2 => ?_, fun h3 => ?_⟩
    · refine s_Gr_refuse (fun u hq4 => ?_)
      exact hpT _ (by first | assumption | trivial | grind [I_Nm, I_Nd, I_Wd, I_Wd0, I_Pg, bt])
    · refine s_Gr_pass (by first | assumption | trivial | grind [I_Nm, I_Nd, I_Wd, I_Wd0, I_Pg, bt]) (fun r3 u3 hq4 => ?_) (fun u hq4 => ?_)
      · refine s_Gr_readSum hrf (by first | assumption | trivial | grind [I_Nm, I_Nd, I_Wd, I_Wd0, I_Pg, bt]) (by first | assumption | trivial | grind [I_Nm, I_Nd, I_Wd, I_Wd0, I_Pg, bt]) (by first | assumption | trivial | grind [I_Nm, I_Nd, I_Wd, I_Wd0, I_Pg, bt]) (by first | assumption | trivial | grind [I_Nm, I_Nd, I_Wd, I_Wd0, I_Pg, bt]) (by first | assumption | trivial | grind [I_Nm, I_Nd, I_Wd, I_Wd0, I_Pg, bt]) (fun r4 u4 hq5 => ?_) (fun u hq5 => ?_)
        · refine s_Gr_join (by first | assumption | trivial | grind [I_Nm, I_Nd, I_Wd, I_Wd0, I_Pg, bt]) (fun r5 u5 hq6 => ?_) (fun u hq6 => ?_)
          · exact hp _ _ (by first | assumption | trivial | grind [I_Nm, I_Nd, I_Wd, I_Wd0, I_Pg, bt])
          · exact hpT _ (by first | assumption | trivial | grind [I_Nm, I_Nd, I_Wd, I_Wd0, I_Pg, bt])
        · exact hpT _ (by first | assumption | trivial | grind [I_Nm, I_Nd, I_Wd, I_Wd0, I_Pg, bt])
      · exact hpT _ (by first | assumption | trivial | grind [I_Nm, I_Nd, I_Wd, I_Wd0, I_Pg, bt])
  · exact hpT _ (by first | assumption | trivial | grind [I_Nm, I_Nd, I_Wd, I_Wd0, I_Pg, bt])
set_option maxHeartbeats 4000000 in
theorem s_Gr_readSumOf {rf : T_Gr → T_Nm → T_Nd → T_Wd → Int32 → (Int32 → T_Gr × T_Nm × T_Nd × T_Wd → Prop) → (T_Gr × T_Nm × T_Nd × T_Wd → Prop) → Prop} {z_this : T_Gr} {z_this_names : T_Nm} {z_this_nodes : T_Nd} {z_this_words : T_Wd} {a1 : Int32} {a2 : Int32} {post : Unit → T_Gr × T_Nm × T_Nd × T_Wd → Prop} {postT : T_Gr × T_Nm × T_Nd × T_Wd → Prop} {Bp : Int32 → Prop} (hrf : ∀ (z : T_Gr) (zn : T_Nm) (zd : T_Nd) (zw : T_Wd) (a : Int32) (post : Int32 → T_Gr × T_Nm × T_Nd × T_Wd → Prop) (postT : T_Gr × T_Nm × T_Nd × T_Wd → Prop), I_Nm zn → I_Nd zd → I_Wd0 zw → Bp a → a ≤ (60 : Int32) → (∀ r u, (I_Nm u.2.1 ∧ I_Nd u.2.2.1 ∧ I_Wd0 u.2.2.2) → post r u) → (∀ u, (I_Nm u.2.1 ∧ I_Nd u.2.2.1 ∧ I_Wd0 u.2.2.2) → postT u) → rf z zn zd zw a post postT) (p0 : I_Nm z_this_names) (p1 : I_Nd z_this_nodes) (p2 : I_Wd0 z_this_words) (p3 : Bp a2) (p4 : a2 ≤ (60 : Int32)) (hp : ∀ r u, (I_Nm u.2.1 ∧ I_Nd u.2.2.1 ∧ I_Wd0 u.2.2.2) → post r u) (hpT : ∀ u, (I_Nm u.2.1 ∧ I_Nd u.2.2.1 ∧ I_Wd0 u.2.2.2) → postT u) : wp_Gr_readSumOf rf z_this z_this_names z_this_nodes z_this_words a1 a2 post postT := by
  unfold wp_Gr_readSumOf
  refine s_Gr_readSum hrf (by first | assumption | trivial | grind [I_Nm, I_Nd, I_Wd, I_Wd0, I_Pg, bt]) (by first | assumption | trivial | grind [I_Nm, I_Nd, I_Wd, I_Wd0, I_Pg, bt]) (by first | assumption | trivial | grind [I_Nm, I_Nd, I_Wd, I_Wd0, I_Pg, bt]) (by first | assumption | trivial | grind [I_Nm, I_Nd, I_Wd, I_Wd0, I_Pg, bt]) (by first | assumption | trivial | grind [I_Nm, I_Nd, I_Wd, I_Wd0, I_Pg, bt]) (fun r1 u1 hq0 => ?_) (fun u hq0 => ?_)
  · refine s_Nd_measureOf (fun r2 u2 hq1 => ?_)
    refine ⟨fun h2 => ?_, fun h3 => ?_⟩
    · exact hp _ _ (by first | assumption | trivial | grind [I_Nm, I_Nd, I_Wd, I_Wd0, I_Pg, bt])
    · refine s_Gr_refuse (fun u hq4 => ?_)
      exact hpT _ (by first | assumption | trivial | grind [I_Nm, I_Nd, I_Wd, I_Wd0, I_Pg, bt])
  · exact hpT _ (by first | assumption | trivial | grind [I_Nm, I_Nd, I_Wd, I_Wd0, I_Pg, bt])
