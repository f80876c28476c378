set_option maxHeartbeats 4000000 in
theorem l_Gr_readBranches_L96 {d : Nat} {rf : T_Gr → T_Nm → T_Nd → T_Wd → Int32 → (Unit → T_Gr × T_Nm × T_Nd × T_Wd → Prop) → (T_Gr × T_Nm × T_Nd × T_Wd → Prop) → Prop} {K : T_Gr → T_Nm → T_Nd → T_Wd → Int32 → Int32 → Int32 → Prop} {post : Unit → T_Gr × T_Nm × T_Nd × T_Wd → Prop} {postT : T_Gr × T_Nm × T_Nd × T_Wd → Prop} {Bp : Int32 → Prop} (hF : ∀ (z : T_Gr) (zn : T_Nm) (zd : T_Nd) (zw : T_Wd) (a : Int32) (post : Int32 → T_Gr × T_Nm × T_Nd × T_Wd → Prop) (postT : T_Gr × T_Nm × T_Nd × T_Wd → Prop), I_Nm zn → I_Nd zd → I_Wd0 zw → (fun a : Int32 => (0 : Int32) ≤ a) a → a ≤ (60 : Int32) → (∀ r u, (I_Nm u.2.1 ∧ I_Nd u.2.2.1 ∧ I_Wd0 u.2.2.2) → post r u) → (∀ u, (I_Nm u.2.1 ∧ I_Nd u.2.2.1 ∧ I_Wd0 u.2.2.2) → postT u) → (wp_Gr_readFactor d) z zn zd zw a post postT) (hrf : ∀ (z : T_Gr) (zn : T_Nm) (zd : T_Nd) (zw : T_Wd) (a : Int32) (post : Unit → T_Gr × T_Nm × T_Nd × T_Wd → Prop) (postT : T_Gr × T_Nm × T_Nd × T_Wd → Prop), I_Nm zn → I_Nd zd → I_Wd0 zw → Bp a → a ≤ (60 : Int32) → (0 : Int32) ≤ a → (∀ r u, (I_Nm u.2.1 ∧ I_Nd u.2.2.1 ∧ I_Wd0 u.2.2.2) → post r u) → (∀ u, (I_Nm u.2.1 ∧ I_Nd u.2.2.1 ∧ I_Wd0 u.2.2.2) → postT u) → rf z zn zd zw a post postT) (hK : ∀ z_this z_this_names z_this_nodes z_this_words x1 x2 x3, ((0 : Int32) ≤ x3 ∧ x3 ≤ 4000 ∧ I_Nm z_this_names ∧ I_Nd z_this_nodes ∧ I_Wd0 z_this_words ∧ Bp x2 ∧ x2 ≤ (60 : Int32) ∧ (0 : Int32) ≤ x2) → K z_this z_this_names z_this_nodes z_this_words x1 x2 x3) (hp : ∀ r u, (I_Nm u.2.1 ∧ I_Nd u.2.2.1 ∧ I_Wd0 u.2.2.2) → post r u) (hpT : ∀ u, (I_Nm u.2.1 ∧ I_Nd u.2.2.1 ∧ I_Wd0 u.2.2.2) → postT u) : ∀ (n9 : Nat) (z_this : T_Gr) (z_this_names : T_Nm) (z_this_nodes : T_Nd) (z_this_words : T_Wd) (x1 : Int32) (x2 : Int32) (x3 : Int32), (0 : Int32) ≤ x3 → x3 ≤ 4000 → I_Nm z_this_names → I_Nd z_this_nodes → I_Wd0 z_this_words → Bp x2 → x2 ≤ (60 : Int32) → (0 : Int32) ≤ x2 → (4000 : Int32).toInt - (x3).toInt < ((n9 : Nat) : Int) → wp_Gr_readBranches_L96 d rf K post postT n9 z_this z_this_names z_this_nodes z_this_words x1 x2 x3 := by
  intro n9
  induction n9 with
  | zero => intro z_this z_this_names z_this_nodes z_this_words x1 x2 x3 i0 i1 i2 i3 i4 i5 i6 i7 hm; exact (i_meas0 i1 hm).elim
  | succ n9 ih =>
    intro z_this z_this_names z_this_nodes z_this_words x1 x2 x3 i0 i1 i2 i3 i4 i5 i6 i7 hm
    rw [wp_Gr_readBranches_L96]
    refine ⟨fun h0 => ?_, fun h1 => ?_⟩
    · exact hK _ _ _ _ _ _ _ (by first | assumption | trivial | grind [I_Nm, I_Nd, I_Wd, I_Wd0, I_Pg, bt])
    · refine ⟨fun h2 => ?_, fun h3 => ?_⟩
      · refine hrf _ _ _ _ _ _ _ (by first | assumption | trivial | grind [I_Nm, I_Nd, I_Wd, I_Wd0, I_Pg, bt]) (by first | assumption | trivial | grind [I_Nm, I_Nd, I_Wd, I_Wd0, I_Pg, bt]) (by first | assumption | trivial | grind [I_Nm, I_Nd, I_Wd, I_Wd0, I_Pg, bt]) (by first | assumption | trivial | grind [I_Nm, I_Nd, I_Wd, I_Wd0, I_Pg, bt]) (by first | assumption | trivial | grind [I_Nm, I_Nd, I_Wd, I_Wd0, I_Pg, bt]) (by first | assumption | trivial | grind [I_Nm, I_Nd, I_Wd, I_Wd0, I_Pg, bt]) (fun r3 u3 hq4 => ?_) (fun u hq4 => ?_)
        · exact ih _ _ _ _ _ _ _ (by first | assumption | trivial | grind [I_Nm, I_Nd, I_Wd, I_Wd0, I_Pg, bt]) (by first | assumption | trivial | grind [I_Nm, I_Nd, I_Wd, I_Wd0, I_Pg, bt]) (by first | assumption | trivial | grind [I_Nm, I_Nd, I_Wd, I_Wd0, I_Pg, bt]) (by first | assumption | trivial | grind [I_Nm, I_Nd, I_Wd, I_Wd0, I_Pg, bt]) (by first | assumption | trivial | grind [I_Nm, I_Nd, I_Wd, I_Wd0, I_Pg, bt]) (by first | assumption | trivial | grind [I_Nm, I_Nd, I_Wd, I_Wd0, I_Pg, bt]) (by first | assumption | trivial | grind [I_Nm, I_Nd, I_Wd, I_Wd0, I_Pg, bt]) (by first | assumption | trivial | grind [I_Nm, I_Nd, I_Wd, I_Wd0, I_Pg, bt]) (i_meas (by first | assumption | trivial | grind [I_Nm, I_Nd, I_Wd, I_Wd0, I_Pg, bt]) (by first | assumption | trivial | grind [I_Nm, I_Nd, I_Wd, I_Wd0, I_Pg, bt]) hm)
        · exact hpT _ (by first | assumption | trivial | grind [I_Nm, I_Nd, I_Wd, I_Wd0, I_Pg, bt])
      · exact hK _ _ _ _ _ _ _ (by first | assumption | trivial | grind [I_Nm, I_Nd, I_Wd, I_Wd0, I_Pg, bt])
set_option maxHeartbeats 4000000 in
theorem s_Gr_readBranches {d : Nat} {rf : T_Gr → T_Nm → T_Nd → T_Wd → Int32 → (Unit → T_Gr × T_Nm × T_Nd × T_Wd → Prop) → (T_Gr × T_Nm × T_Nd × T_Wd → Prop) → Prop} {z_this : T_Gr} {z_this_names : T_Nm} {z_this_nodes : T_Nd} {z_this_words : T_Wd} {a1 : Int32} {a2 : Int32} {post : Unit → T_Gr × T_Nm × T_Nd × T_Wd → Prop} {postT : T_Gr × T_Nm × T_Nd × T_Wd → Prop} {Bp : Int32 → Prop} (hF : ∀ (z : T_Gr) (zn : T_Nm) (zd : T_Nd) (zw : T_Wd) (a : Int32) (post : Int32 → T_Gr × T_Nm × T_Nd × T_Wd → Prop) (postT : T_Gr × T_Nm × T_Nd × T_Wd → Prop), I_Nm zn → I_Nd zd → I_Wd0 zw → (fun a : Int32 => (0 : Int32) ≤ a) a → a ≤ (60 : Int32) → (∀ r u, (I_Nm u.2.1 ∧ I_Nd u.2.2.1 ∧ I_Wd0 u.2.2.2) → post r u) → (∀ u, (I_Nm u.2.1 ∧ I_Nd u.2.2.1 ∧ I_Wd0 u.2.2.2) → postT u) → (wp_Gr_readFactor d) z zn zd zw a post postT) (hrf : ∀ (z : T_Gr) (zn : T_Nm) (zd : T_Nd) (zw : T_Wd) (a : Int32) (post : Unit → T_Gr × T_Nm × T_Nd × T_Wd → Prop) (postT : T_Gr × T_Nm × T_Nd × T_Wd → Prop), I_Nm zn → I_Nd zd → I_Wd0 zw → Bp a → a ≤ (60 : Int32) → (0 : Int32) ≤ a → (∀ r u, (I_Nm u.2.1 ∧ I_Nd u.2.2.1 ∧ I_Wd0 u.2.2.2) → post r u) → (∀ u, (I_Nm u.2.1 ∧ I_Nd u.2.2.1 ∧ I_Wd0 u.2.2.2) → postT u) → rf z zn zd zw a post postT) (p0 : I_Nm z_this_names) (p1 : I_Nd z_this_nodes) (p2 : I_Wd0 z_this_words) (p3 : Bp a2) (p4 : a2 ≤ (60 : Int32)) (p5 : (0 : Int32) ≤ a2) (hp : ∀ r u, (I_Nm u.2.1 ∧ I_Nd u.2.2.1 ∧ I_Wd0 u.2.2.2) → post r u) (hpT : ∀ u, (I_Nm u.2.1 ∧ I_Nd u.2.2.1 ∧ I_Wd0 u.2.2.2) → postT u) : wp_Gr_readBranches d rf z_this z_this_names z_this_nodes z_this_words a1 a2 post postT := by
  unfold wp_Gr_readBranches
  refine ⟨fun h0 => ?_, fun h1 => ?_⟩
  · refine s_Gr_readSumOf hF (by first | assumption | trivial | grind [I_Nm, I_Nd, I_Wd, I_Wd0, I_Pg, bt]) (by first | assumption | trivial | grind [I_Nm, I_Nd, I_Wd, I_Wd0, I_Pg, bt]) (by first | assumption | trivial | grind [I_Nm, I_Nd, I_Wd, I_Wd0, I_Pg, bt]) (by first | assumption | trivial | grind [I_Nm, I_Nd, I_Wd, I_Wd0, I_Pg, bt]) (by first | assumption | trivial | grind [I_Nm, I_Nd, I_Wd, I_Wd0, I_Pg, bt]) (fun r17 u17 hq2 => ?_) (fun u hq2 => ?_)
    · refine hrf _ _ _ _ _ _ _ (by first | assumption | trivial | grind [I_Nm, I_Nd, I_Wd, I_Wd0, I_Pg, bt]) (by first | assumption | trivial | grind [I_Nm, I_Nd, I_Wd, I_Wd0, I_Pg, bt]) (by first | assumption | trivial | grind [I_Nm, I_Nd, I_Wd, I_Wd0, I_Pg, bt]) (by first | assumption | trivial | grind [I_Nm, I_Nd, I_Wd, I_Wd0, I_Pg, bt]) (by first | assumption | trivial | grind [I_Nm, I_Nd, I_Wd, I_Wd0, I_Pg, bt]) (by first | assumption | trivial | grind [I_Nm, I_Nd, I_Wd, I_Wd0, I_Pg, bt]) (fun r18 u18 hq3 => ?_) (fun u hq3 => ?_)
      · refine ⟨fun h4 => ?_, fun h5 => ?_⟩
        · refine s_Gr_take (by first | assumption | trivial | grind [I_Nm, I_Nd, I_Wd, I_Wd0, I_Pg, bt]) (fun r23 u23 hq6 => ?_) (fun u hq6 => ?_)
          · refine hrf _ _ _ _ _ _ _ (by first | assumption | trivial | grind [I_Nm, I_Nd, I_Wd, I_Wd0, I_Pg, bt]) (by first | assumption | trivial | grind [I_Nm, I_Nd, I_Wd, I_Wd0, I_Pg, bt]) (by first | assumption | trivial | grind [I_Nm, I_Nd, I_Wd, I_Wd0, I_Pg, bt]) (by first | assumption | trivial | grind [I_Nm, I_Nd, I_Wd, I_Wd0, I_Pg, bt]) (by first | assumption | trivial | grind [I_Nm, I_Nd, I_Wd, I_Wd0, I_Pg, bt]) (by first | assumption | trivial | grind [I_Nm, I_Nd, I_Wd, I_Wd0, I_Pg, bt]) (fun r24 u24 hq7 => ?_) (fun u hq7 => ?_)
            · exact hp _ _ (by first | assumption | trivial | grind [I_Nm, I_Nd, I_Wd, I_Wd0, I_Pg, bt])
            · exact hpT _ (by first | assumption | trivial | grind [I_Nm, I_Nd, I_Wd, I_Wd0, I_Pg, bt])
          · exact hpT _ (by first | assumption | trivial | grind [I_Nm, I_Nd, I_Wd, I_Wd0, I_Pg, bt])
        · refine ⟨fun h6 => ?_, fun h7 => ?_⟩
          · refine ⟨fun h8 => ?_, fun h9 => ?_⟩
            · refine s_Gr_pass (by first | assumption | trivial | grind [I_Nm, I_Nd, I_Wd, I_Wd0, I_Pg, bt]) (fun r21 u21 hq10 => ?_) (fun u hq10 => ?_)
              · refine hrf _ _ _ _ _ _ _ (by first | assumption | trivial | grind [I_Nm, I_Nd, I_Wd, I_Wd0, I_Pg, bt]) (by first | assumption | trivial | grind [I_Nm, I_Nd, I_Wd, I_Wd0, I_Pg, bt]) (by first | assumption | trivial | grind [I_Nm, I_Nd, I_Wd, I_Wd0, I_Pg, bt]) (by first | assumption | trivial | grind [I_Nm, I_Nd, I_Wd, I_Wd0, I_Pg, bt]) (by first | assumption | trivial | grind [I_Nm, I_Nd, I_Wd, I_Wd0, I_Pg, bt]) (by first | assumption | trivial | grind [I_Nm, I_Nd, I_Wd, I_Wd0, I_Pg, bt]) (fun r22 u22 hq11 => ?_) (fun u hq11 => ?_)
                · exact hp _ _ (by first | assumption | trivial | grind [I_Nm, I_Nd, I_Wd, I_Wd0, I_Pg, bt])
                · exact hpT _ (by first | assumption | trivial | grind [I_Nm, I_Nd, I_Wd, I_Wd0, I_Pg, bt])
              · exact hpT _ (by first | assumption | trivial | grind [I_Nm, I_Nd, I_Wd, I_Wd0, I_Pg, bt])
            · refine ⟨fun h10 => ?_, fun h11 => ?_⟩
              · refine hrf _ _ _ _ _ _ _ (by first | assumption | trivial | grind [I_Nm, I_Nd, I_Wd, I_Wd0, I_Pg, bt]) (by first | assumption | trivial | grind [I_Nm, I_Nd, I_Wd, I_Wd0, I_Pg, bt]) (by first | assumption | trivial | grind [I_Nm, I_Nd, I_Wd, I_Wd0, I_Pg, bt]) (by first | assumption | trivial | grind [I_Nm, I_Nd, I_Wd, I_Wd0, I_Pg, bt]) (by first | assumption | trivial | grind [I_Nm, I_Nd, I_Wd, I_Wd0, I_Pg, bt]) (by first | assumption | trivial | grind [I_Nm, I_Nd, I_Wd, I_Wd0, I_Pg, bt]) (fun r20 u20 hq12 => ?_) (fun u hq12 => ?_)
                · refine ⟨5000, l_Gr_readBranches_L96 hF hrf (fun z_this z_this_names z_this_nodes z_this_words x1 x2 x3 hv13 => ?_) (fun r u hq => hp r u hq) (fun u hq => hpT u hq) 5000 _ _ _ _ _ _ _ (by first | assumption | trivial | grind [I_Nm, I_Nd, I_Wd, I_Wd0, I_Pg, bt]) (by first | assumption | trivial | grind [I_Nm, I_Nd, I_Wd, I_Wd0, I_Pg, bt]) (by first | assumption | trivial | grind [I_Nm, I_Nd, I_Wd, I_Wd0, I_Pg, bt]) (by first | assumption | trivial | grind [I_Nm, I_Nd, I_Wd, I_Wd0, I_Pg, bt]) (by first | assumption | trivial | grind [I_Nm, I_Nd, I_Wd, I_Wd0, I_Pg, bt]) (by first | assumption | trivial | grind [I_Nm, I_Nd, I_Wd, I_Wd0, I_Pg, bt]) (by first | assumption | trivial | grind [I_Nm, I_Nd, I_Wd, I_Wd0, I_Pg, bt]) (by first | assumption | trivial | grind [I_Nm, I_Nd, I_Wd, I_Wd0, I_Pg, bt]) (by decide)⟩
                  exact hp _ _ (by first | assumption | trivial | grind [I_Nm, I_Nd, I_Wd, I_Wd0, I_Pg, bt])
                · exact hpT _ (by first | assumption | trivial | grind [I_Nm, I_Nd, I_Wd, I_Wd0, I_Pg, bt])
              · exact hp _ _ (by first | assumption | trivial | grind [I_Nm, I_Nd, I_Wd, I_Wd0, I_Pg, bt])
          · refine ⟨fun h8 => ?_, fun h9 => ?_⟩
            · refine hrf _ _ _ _ _ _ _ (by first | assumption | trivial | grind [I_Nm, I_Nd, I_Wd, I_Wd0, I_Pg, bt]) (by first | assumption | trivial | grind [I_Nm, I_Nd, I_Wd, I_Wd0, I_Pg, bt]) (by first | assumption | trivial | grind [I_Nm, I_Nd, I_Wd, I_Wd0, I_Pg, bt]) (by first | assumption | trivial | grind [I_Nm, I_Nd, I_Wd, I_Wd0, I_Pg, bt]) (by first | assumption | trivial | grind [I_Nm, I_Nd, I_Wd, I_Wd0, I_Pg, bt]) (by first | assumption | trivial | grind [I_Nm, I_Nd, I_Wd, I_Wd0, I_Pg, bt]) (fun r19 u19 hq10 => ?_) (fun u hq10 => ?_)
              · refine ⟨5000, l_Gr_readBranches_L96 hF hrf (fun z_this z_this_names z_this_nodes z_this_words x1 x2 x3 hv11 => ?_) (fun r u hq => hp r u hq) (fun u hq => hpT u hq) 5000 _ _ _ _ _ _ _ (by first | assumption | trivial | grind [I_Nm, I_Nd, I_Wd, I_Wd0, I_Pg, bt]) (by first | assumption | trivial | grind [I_Nm, I_Nd, I_Wd, I_Wd0, I_Pg, bt]) (by first | assumption | trivial | grind [I_Nm, I_Nd, I_Wd, I_Wd0, I_Pg, bt]) (by first | assumption | trivial | grind [I_Nm, I_Nd, I_Wd, I_Wd0, I_Pg, bt]) (by first | assumption | trivial | grind [I_Nm, I_Nd, I_Wd, I_Wd0, I_Pg, bt]) (by first | assumption | trivial | grind [I_Nm, I_Nd, I_Wd, I_Wd0, I_Pg, bt]) (by first | assumption | trivial | grind [I_Nm, I_Nd, I_Wd, I_Wd0, I_Pg, bt]) (by first | assumption | trivial | grind [I_Nm, I_Nd, I_Wd, I_Wd0, I_Pg, bt]) (by decide)⟩
                exact hp _ _ (by first | assumption | trivial | grind [I_Nm, I_Nd, I_Wd, I_Wd0, I_Pg, bt])
              · exact hpT _ (by first | assumption | trivial | grind [I_Nm, I_Nd, I_Wd, I_Wd0, I_Pg, bt])
            · exact hp _ _ (by first | assumption | trivial | grind [I_Nm, I_Nd, I_Wd, I_Wd0, I_Pg, bt])
      · exact hpT _ (by first | assumption | trivial | grind [I_Nm, I_Nd, I_Wd, I_Wd0, I_Pg, bt])
    · exact hpT _ (by first | assumption | trivial | grind [I_Nm, I_Nd, I_Wd, I_Wd0, I_Pg, bt])
  · refine ⟨fun h2 => ?_, fun h3 => ?_⟩
    · refine hrf _ _ _ _ _ _ _ (by first | assumption | trivial | grind [I_Nm, I_Nd, I_Wd, I_Wd0, I_Pg, bt]) (by first | assumption | trivial | grind [I_Nm, I_Nd, I_Wd, I_Wd0, I_Pg, bt]) (by first | assumption | trivial | grind [I_Nm, I_Nd, I_Wd, I_Wd0, I_Pg, bt]) (by first | assumption | trivial | grind [I_Nm, I_Nd, I_Wd, I_Wd0, I_Pg, bt]) (by first | assumption | trivial | grind [I_Nm, I_Nd, I_Wd, I_Wd0, I_Pg, bt]) (by first | assumption | trivial | grind [I_Nm, I_Nd, I_Wd, I_Wd0, I_Pg, bt]) (fun r1 u1 hq4 => ?_) (fun u hq4 => ?_)
      · refine ⟨fun h5 => ?_, fun h6 => ?_⟩
        · refine s_Gr_take (by first | assumption | trivial | grind [I_Nm, I_Nd, I_Wd, I_Wd0, I_Pg, bt]) (fun r7 u7 hq7 => ?_) (fun u hq7 => ?_)
          · refine hrf _ _ _ _ _ _ _ (by first | assumption | trivial | grind [I_Nm, I_Nd, I_Wd, I_Wd0, I_Pg, bt]) (by first | assumption | trivial | grind [I_Nm, I_Nd, I_Wd, I_Wd0, I_Pg, bt]) (by first | assumption | trivial | grind [I_Nm, I_Nd, I_Wd, I_Wd0, I_Pg, bt]) (by first | assumption | trivial | grind [I_Nm, I_Nd, I_Wd, I_Wd0, I_Pg, bt]) (by first | assumption | trivial | grind [I_Nm, I_Nd, I_Wd, I_Wd0, I_Pg, bt]) (by first | assumption | trivial | grind [I_Nm, I_Nd, I_Wd, I_Wd0, I_Pg, bt]) (fun r8 u8 hq8 => ?_) (fun u hq8 => ?_)
            · exact hp _ _ (by first | assumption | trivial | grind [I_Nm, I_Nd, I_Wd, I_Wd0, I_Pg, bt])
            · exact hpT _ (by first | assumption | trivial | grind [I_Nm, I_Nd, I_Wd, I_Wd0, I_Pg, bt])
          · exact hpT _ (by first | assumption | trivial | grind [I_Nm, I_Nd, I_Wd, I_Wd0, I_Pg, bt])
        · refine ⟨fun h7 => ?_, fun h8 => ?_⟩
          · refine ⟨fun h9 => ?_, fun h10 => ?_⟩
            · refine s_Gr_pass (by first | assumption | trivial | grind [I_Nm, I_Nd, I_Wd, I_Wd0, I_Pg, bt]) (fun r5 u5 hq11 => ?_) (fun u hq11 => ?_)
              · refine hrf _ _ _ _ _ _ _ (by first | assumption | trivial | grind [I_Nm, I_Nd, I_Wd, I_Wd0, I_Pg, bt]) (by first | assumption | trivial | grind [I_Nm, I_Nd, I_Wd, I_Wd0, I_Pg, bt]) (by first | assumption | trivial | grind [I_Nm, I_Nd, I_Wd, I_Wd0, I_Pg, bt]) (by first | assumption | trivial | grind [I_Nm, I_Nd, I_Wd, I_Wd0, I_Pg, bt]) (by first | assumption | trivial | grind [I_Nm, I_Nd, I_Wd, I_Wd0, I_Pg, bt]) (by first | assumption | trivial | grind [I_Nm, I_Nd, I_Wd, I_Wd0, I_Pg, bt]) (fun r6 u6 hq12 => ?_) (fun u hq12 => ?_)
                · exact hp _ _ (by first | assumption | trivial | grind [I_Nm, I_Nd, I_Wd, I_Wd0, I_Pg, bt])
                · exact hpT _ (by first | assumption | trivial | grind [I_Nm, I_Nd, I_Wd, I_Wd0, I_Pg, bt])
              · exact hpT _ (by first | assumption | trivial | grind [I_Nm, I_Nd, I_Wd, I_Wd0, I_Pg, bt])
            · refine ⟨fun h11 => ?_, fun h12 => ?_⟩
              · refine hrf _ _ _ _ _ _ _ (by first | assumption | trivial | grind [I_Nm, I_Nd, I_Wd, I_Wd0, I_Pg, bt]) (by first | assumption | trivial | grind [I_Nm, I_Nd, I_Wd, I_Wd0, I_Pg, bt]) (by first | assumption | trivial | grind [I_Nm, I_Nd, I_Wd, I_Wd0, I_Pg, bt]) (by first | assumption | trivial | grind [I_Nm, I_Nd, I_Wd, I_Wd0, I_Pg, bt]) (by first | assumption | trivial | grind [I_Nm, I_Nd, I_Wd, I_Wd0, I_Pg, bt]) (by first | assumption | trivial | grind [I_Nm, I_Nd, I_Wd, I_Wd0, I_Pg, bt]) (fun r4 u4 hq13 => ?_) (fun u hq13 => ?_)
                · refine ⟨5000, l_Gr_readBranches_L96 hF hrf (fun z_this z_this_names z_this_nodes z_this_words x1 x2 x3 hv14 => ?_) (fun r u hq => hp r u hq) (fun u hq => hpT u hq) 5000 _ _ _ _ _ _ _ (by first | assumption | trivial | grind [I_Nm, I_Nd, I_Wd, I_Wd0, I_Pg, bt]) (by first | assumption | trivial | grind [I_Nm, I_Nd, I_Wd, I_Wd0, I_Pg, bt]) (by first | assumption | trivial | grind [I_Nm, I_Nd, I_Wd, I_Wd0, I_Pg, bt]) (by first | assumption | trivial | grind [I_Nm, I_Nd, I_Wd, I_Wd0, I_Pg, bt]) (by first | assumption | trivial | grind [I_Nm, I_Nd, I_Wd, I_Wd0, I_Pg, bt]) (by first | assumption | trivial | grind [I_Nm, I_Nd, I_Wd, I_Wd0, I_Pg, bt]) (by first | assumption | trivial | grind [I_Nm, I_Nd, I_Wd, I_Wd0, I_Pg, bt]) (by first | assumption | trivial | grind [I_Nm, I_Nd, I_Wd, I_Wd0, I_Pg, bt]) (by decide)⟩
                  exact hp _ _ (by first | assumption | trivial | grind [I_Nm, I_Nd, I_Wd, I_Wd0, I_Pg, bt])
                · exact hpT _ (by first | assumption | trivial | grind [I_Nm, I_Nd, I_Wd, I_Wd0, I_Pg, bt])
              · exact hp _ _ (by first | assumption | trivial | grind [I_Nm, I_Nd, I_Wd, I_Wd0, I_Pg, bt])
          · refine ⟨fun h9 => ?_, fun h10 => ?_⟩
            · refine hrf _ _ _ _ _ _ _ (by first | assumption | trivial | grind [I_Nm, I_Nd, I_Wd, I_Wd0, I_Pg, bt]) (by first | assumption | trivial | grind [I_Nm, I_Nd, I_Wd, I_Wd0, I_Pg, bt]) (by first | assumption | trivial | grind [I_Nm, I_Nd, I_Wd, I_Wd0, I_Pg, bt]) (by first | assumption | trivial | grind [I_Nm, I_Nd, I_Wd, I_Wd0, I_Pg, bt]) (by first | assumption | trivial | grind [I_Nm, I_Nd, I_Wd, I_Wd0, I_Pg, bt]) (by first | assumption | trivial | grind [I_Nm, I_Nd, I_Wd, I_Wd0, I_Pg, bt]) (fun r2 u2 hq11 => ?_) (fun u hq11 => ?_)
              · refine ⟨5000, l_Gr_readBranches_L96 hF hrf (fun z_this z_this_names z_this_nodes z_this_words x1 x2 x3 hv12 => ?_) (fun r u hq => hp r u hq) (fun u hq => hpT u hq) 5000 _ _ _ _ _ _ _ (by first | assumption | trivial | grind [I_Nm, I_Nd, I_Wd, I_Wd0, I_Pg, bt]) (by first | assumption | trivial | grind [I_Nm, I_Nd, I_Wd, I_Wd0, I_Pg, bt]) (by first | assumption | trivial | grind [I_Nm, I_Nd, I_Wd, I_Wd0, I_Pg, bt]) (by first | assumption | trivial | grind [I_Nm, I_Nd, I_Wd, I_Wd0, I_Pg, bt]) (by first | assumption | trivial | grind [I_Nm, I_Nd, I_Wd, I_Wd0, I_Pg, bt]) (by first | assumption | trivial | grind [I_Nm, I_Nd, I_Wd, I_Wd0, I_Pg, bt]) (by first | assumption | trivial | grind [I_Nm, I_Nd, I_Wd, I_Wd0, I_Pg, bt]) (by first | assumption | trivial | grind [I_Nm, I_Nd, I_Wd, I_Wd0, I_Pg, bt]) (by decide)⟩
                exact hp _ _ (by first | assumption | trivial | grind [I_Nm, I_Nd, I_Wd, I_Wd0, I_Pg, bt])
              · exact hpT _ (by first | assumption | trivial | grind [I_Nm, I_Nd, I_Wd, I_Wd0, I_Pg, bt])
            · exact hp _ _ (by first | assumption | trivial | grind [I_Nm, I_Nd, I_Wd, I_Wd0, I_Pg, bt])
      · exact hpT _ (by first | assumption | trivial | grind [I_Nm, I_Nd, I_Wd, I_Wd0, I_Pg, bt])
    · refine s_Gr_readTest hF (by first | assumption | trivial | grind [I_Nm, I_Nd, I_Wd, I_Wd0, I_Pg, bt]) (by first | assumption | trivial | grind [I_Nm, I_Nd, I_Wd, I_Wd0, I_Pg, bt]) (by first | assumption | trivial | grind [I_Nm, I_Nd, I_Wd, I_Wd0, I_Pg, bt]) (by first | assumption | trivial | grind [I_Nm, I_Nd, I_Wd, I_Wd0, I_Pg, bt]) (by first | assumption | trivial | grind [I_Nm, I_Nd, I_Wd, I_Wd0, I_Pg, bt]) (fun r9 u9 hq4 => ?_) (fun u hq4 => ?_)
      · refine hrf _ _ _ _ _ _ _ (by first | assumption | trivial | grind [I_Nm, I_Nd, I_Wd, I_Wd0, I_Pg, bt]) (by first | assumption | trivial | grind [I_Nm, I_Nd, I_Wd, I_Wd0, I_Pg, bt]) (by first | assumption | trivial | grind [I_Nm, I_Nd, I_Wd, I_Wd0, I_Pg, bt]) (by first | assumption | trivial | grind [I_Nm, I_Nd, I_Wd, I_Wd0, I_Pg, bt]) (by first | assumption | trivial | grind [I_Nm, I_Nd, I_Wd, I_Wd0, I_Pg, bt]) (by first | assumption | trivial | grind [I_Nm, I_Nd, I_Wd, I_Wd0, I_Pg, bt]) (fun r10 u10 hq5 => ?_) (fun u hq5 => ?_)
        · refine ⟨fun h6 => ?_, fun h7 => ?_⟩
          · refine s_Gr_take (by first | assumption | trivial | grind [I_Nm, I_Nd, I_Wd, I_Wd0, I_Pg, bt]) (fun r15 u15 hq8 => ?_) (fun u hq8 => ?_)
            · refine hrf _ _ _ _ _ _ _ (by first | assumption | trivial | grind [I_Nm, I_Nd, I_Wd, I_Wd0, I_Pg, bt]) (by first | assumption | trivial | grind [I_Nm, I_Nd, I_Wd, I_Wd0, I_Pg, bt]) (by first | assumption | trivial | grind [I_Nm, I_Nd, I_Wd, I_Wd0, I_Pg, bt]) (by first | assumption | trivial | grind [I_Nm, I_Nd, I_Wd, I_Wd0, I_Pg, bt]) (by first | assumption | trivial | grind [I_Nm, I_Nd, I_Wd, I_Wd0, I_Pg, bt]) (by first | assumption | trivial | grind [I_Nm, I_Nd, I_Wd, I_Wd0, I_Pg, bt]) (fun r16 u16 hq9 => ?_) (fun u hq9 => ?_)
              · exact hp _ _ (by first | assumption | trivial | grind [I_Nm, I_Nd, I_Wd, I_Wd0, I_Pg, bt])
              · exact hpT _ (by first | assumption | trivial | grind [I_Nm, I_Nd, I_Wd, I_Wd0, I_Pg, bt])
            · exact hpT _ (by first | assumption | trivial | grind [I_Nm, I_Nd, I_Wd, I_Wd0, I_Pg, bt])
          · refine ⟨fun h8 => ?_, fun h9 => ?_⟩
            · refine ⟨fun h10 => ?_, fun h11 => ?_⟩
              · refine s_Gr_pass (by first | assumption | trivial | grind [I_Nm, I_Nd, I_Wd, I_Wd0, I_Pg, bt]) (fun r13 u13 hq12 => ?_) (fun u hq12 => ?_)
                · refine hrf _ _ _ _ _ _ _ (by first | assumption | trivial | grind [I_Nm, I_Nd, I_Wd, I_Wd0, I_Pg, bt]) (by first | assumption | trivial | grind [I_Nm, I_Nd, I_Wd, I_Wd0, I_Pg, bt]) (by first | assumption | trivial | grind [I_Nm, I_Nd, I_Wd, I_Wd0, I_Pg, bt]) (by first | assumption | trivial | grind [I_Nm, I_Nd, I_Wd, I_Wd0, I_Pg, bt]) (by first | assumption | trivial | grind [I_Nm, I_Nd, I_Wd, I_Wd0, I_Pg, bt]) (by first | assumption | trivial | grind [I_Nm, I_Nd, I_Wd, I_Wd0, I_Pg, bt]) (fun r14 u14 hq13 => ?_) (fun u hq13 => ?_)
                  · exact hp _ _ (by first | assumption | trivial | grind [I_Nm, I_Nd, I_Wd, I_Wd0, I_Pg, bt])
                  · exact hpT _ (by first | assumption | trivial | grind [I_Nm, I_Nd, I_Wd, I_Wd0, I_Pg, bt])
                · exact hpT _ (by first | assumption | trivial | grind [I_Nm, I_Nd, I_Wd, I_Wd0, I_Pg, bt])
              · refine ⟨fun h12 => ?_, fun h13 => ?_⟩
                · refine hrf _ _ _ _ _ _ _ (by first | assumption | trivial | grind [I_Nm, I_Nd, I_Wd, I_Wd0, I_Pg, bt]) (by first | assumption | trivial | grind [I_Nm, I_Nd, I_Wd, I_Wd0, I_Pg, bt]) (by first | assumption | trivial | grind [I_Nm, I_Nd, I_Wd, I_Wd0, I_Pg, bt]) (by first | assumption | trivial | grind [I_Nm, I_Nd, I_Wd, I_Wd0, I_Pg, bt]) (by first | assumption | trivial | grind [I_Nm, I_Nd, I_Wd, I_Wd0, I_Pg, bt]) (by first | assumption | trivial | grind [I_Nm, I_Nd, I_Wd, I_Wd0, I_Pg, bt]) (fun r12 u12 hq14 => ?_) (fun u hq14 => ?_)
                  · refine ⟨5000, l_Gr_readBranches_L96 hF hrf (fun z_this z_this_names z_this_nodes z_this_words x1 x2 x3 hv15 => ?_) (fun r u hq => hp r u hq) (fun u hq => hpT u hq) 5000 _ _ _ _ _ _ _ (by first | assumption | trivial | grind [I_Nm, I_Nd, I_Wd, I_Wd0, I_Pg, bt]) (by first | assumption | trivial | grind [I_Nm, I_Nd, I_Wd, I_Wd0, I_Pg, bt]) (by first | assumption | trivial | grind [I_Nm, I_Nd, I_Wd, I_Wd0, I_Pg, bt]) (by first | assumption | trivial | grind [I_Nm, I_Nd, I_Wd, I_Wd0, I_Pg, bt]) (by first | assumption | trivial | grind [I_Nm, I_Nd, I_Wd, I_Wd0, I_Pg, bt]) (by first | assumption | trivial | grind [I_Nm, I_Nd, I_Wd, I_Wd0, I_Pg, bt]) (by first | assumption | trivial | grind [I_Nm, I_Nd, I_Wd, I_Wd0, I_Pg, bt]) (by first | assumption | trivial | grind [I_Nm, I_Nd, I_Wd, I_Wd0, I_Pg, bt]) (by decide)⟩
                    exact hp _ _ (by first | assumption | trivial | grind [I_Nm, I_Nd, I_Wd, I_Wd0, I_Pg, bt])
                  · exact hpT _ (by first | assumption | trivial | grind [I_Nm, I_Nd, I_Wd, I_Wd0, I_Pg, bt])
                · exact hp _ _ (by first | assumption | trivial | grind [I_Nm, I_Nd, I_Wd, I_Wd0, I_Pg, bt])
            · refine ⟨fun h10 => ?_, fun h11 => ?_⟩
              · refine hrf _ _ _ _ _ _ _ (by first | assumption | trivial | grind [I_Nm, I_Nd, I_Wd, I_Wd0, I_Pg, bt]) (by first | assumption | trivial | grind [I_Nm, I_Nd, I_Wd, I_Wd0, I_Pg, bt]) (by first | assumption | trivial | grind [I_Nm, I_Nd, I_Wd, I_Wd0, I_Pg, bt]) (by first | assumption | trivial | grind [I_Nm, I_Nd, I_Wd, I_Wd0, I_Pg, bt]) (by first | assumption | trivial | grind [I_Nm, I_Nd, I_Wd, I_Wd0, I_Pg, bt]) (by first | assumption | trivial | grind [I_Nm, I_Nd, I_Wd, I_Wd0, I_Pg, bt]) (fun r11 u11 hq12 => ?_) (fun u hq12 => ?_)
                · refine ⟨5000, l_Gr_readBranches_L96 hF hrf (fun z_this z_this_names z_this_nodes z_this_words x1 x2 x3 hv13 => ?_) (fun r u hq => hp r u hq) (fun u hq => hpT u hq) 5000 _ _ _ _ _ _ _ (by first | assumption | trivial | grind [I_Nm, I_Nd, I_Wd, I_Wd0, I_Pg, bt]) (by first | assumption | trivial | grind [I_Nm, I_Nd, I_Wd, I_Wd0, I_Pg, bt]) (by first | assumption | trivial | grind [I_Nm, I_Nd, I_Wd, I_Wd0, I_Pg, bt]) (by first | assumption | trivial | grind [I_Nm, I_Nd, I_Wd, I_Wd0, I_Pg, bt]) (by first | assumption | trivial | grind [I_Nm, I_Nd, I_Wd, I_Wd0, I_Pg, bt]) (by first | assumption | trivial | grind [I_Nm, I_Nd, I_Wd, I_Wd0, I_Pg, bt]) (by first | assumption | trivial | grind [I_Nm, I_Nd, I_Wd, I_Wd0, I_Pg, bt]) (by first | assumption | trivial | grind [I_Nm, I_Nd, I_Wd, I_Wd0, I_Pg, bt]) (by decide)⟩
                  exact hp _ _ (by first | assumption | trivial | grind [I_Nm, I_Nd, I_Wd, I_Wd0, I_Pg, bt])
                · exact hpT _ (by first | assumption | trivial | grind [I_Nm, I_Nd, I_Wd, I_Wd0, I_Pg, bt])
              · exact hp _ _ (by first | assumption | trivial | grind [I_Nm, I_Nd, I_Wd, I_Wd0, I_Pg, bt])
        · exact hpT _ (by first | assumption | trivial | grind [I_Nm, I_Nd, I_Wd, I_Wd0, I_Pg, bt])
      · exact hpT _ (by first | assumption | trivial | grind [I_Nm, I_Nd, I_Wd, I_Wd0, I_Pg, bt])
set_option maxHeartbeats 4000000 in
theorem s_Gr_readStatement {d : Nat} {rf : T_Gr → T_Nm → T_Nd → T_Wd → Int32 → (Unit → T_Gr × T_Nm × T_Nd × T_Wd → Prop) → (T_Gr × T_Nm × T_Nd × T_Wd → Prop) → Prop} {z_this : T_Gr} {z_this_names : T_Nm} {z_this_nodes : T_Nd} {z_this_words : T_Wd} {a1 : Int32} {post : Unit → T_Gr × T_Nm × T_Nd × T_Wd → Prop} {postT : T_Gr × T_Nm × T_Nd × T_Wd → Prop} {Bp : Int32 → Prop} (hF : ∀ (z : T_Gr) (zn : T_Nm) (zd : T_Nd) (zw : T_Wd) (a : Int32) (post : Int32 → T_Gr × T_Nm × T_Nd × T_Wd → Prop) (postT : T_Gr × T_Nm × T_Nd × T_Wd → Prop), I_Nm zn → I_Nd zd → I_Wd0 zw → (fun a : Int32 => (0 : Int32) ≤ a) a → a ≤ (60 : Int32) → (∀ r u, (I_Nm u.2.1 ∧ I_Nd u.2.2.1 ∧ I_Wd0 u.2.2.2) → post r u) → (∀ u, (I_Nm u.2.1 ∧ I_Nd u.2.2.1 ∧ I_Wd0 u.2.2.2) → postT u) → (wp_Gr_readFactor d) z zn zd zw a post postT) (hrf : ∀ (z : T_Gr) (zn : T_Nm) (zd : T_Nd) (zw : T_Wd) (a : Int32) (post : Unit → T_Gr × T_Nm × T_Nd × T_Wd → Prop) (postT : T_Gr × T_Nm × T_Nd × T_Wd → Prop), I_Nm zn → I_Nd zd → I_Wd0 zw → Bp a → a ≤ (60 : Int32) → (0 : Int32) ≤ a → (∀ r u, (I_Nm u.2.1 ∧ I_Nd u.2.2.1 ∧ I_Wd0 u.2.2.2) → post r u) → (∀ u, (I_Nm u.2.1 ∧ I_Nd u.2.2.1 ∧ I_Wd0 u.2.2.2) → postT u) → rf z zn zd zw a post postT) (p0 : I_Nm z_this_names) (p1 : I_Nd z_this_nodes) (p2 : I_Wd0 z_this_words) (p3 : Bp a1) (p4 : a1 ≤ (60 : Int32)) (p5 : (0 : Int32) ≤ a1) (hp : ∀ r u, (I_Nm u.2.1 ∧ I_Nd u.2.2.1 ∧ I_Wd0 u.2.2.2) → post r u) (hpT : ∀ u, (I_Nm u.2.1 ∧ I_Nd u.2.2.1 ∧ I_Wd0 u.2.2.2) → postT u) : wp_Gr_readStatement d rf z_this z_this_names z_this_nodes z_this_words a1 post postT := by
  unfold wp_Gr_readStatement
  refine s_Nd_count (by first | assumption | trivial | grind [I_Nm, I_Nd, I_Wd, I_Wd0, I_Pg, bt]) (fun r1 u1 hq0 => ?_)
  refine s_Gr_pass (by first | assumption | trivial | grind [I_Nm, I_Nd, I_Wd, I_Wd0, I_Pg, bt]) (fun r2 u2 hq1 => ?_) (fun u hq1 => ?_)
  · refine ⟨fun h2 => ?_, fun h3 => ?_, fun h4 => ?_, fun h5 => ?_, fun h6 => ?_, fun h7 => ?_, fun h8 => ?_, fun h9 => ?_, fun h10 => ?_, fun h11 => ?_, fun h12 => ?_, fun h13 => ?_⟩
    · refine s_Gr_readName (by first | assumption | trivial | grind [I_Nm, I_Nd, I_Wd, I_Wd0, I_Pg, bt]) (fun r3 u3 hq14 => ?_) (fun u hq14 => ?_)
      · refine s_Nm_use (by first | assumption | trivial | grind [I_Nm, I_Nd, I_Wd, I_Wd0, I_Pg, bt]) (fun r4 u4 hq15 => ?_)
        refine s_Nm_measureOf (fun r5 u5 hq16 => ?_)
        refine s_Gr_readSumOf hF (by first | assumption | trivial | grind [I_Nm, I_Nd, I_Wd, I_Wd0, I_Pg, bt]) (by first | assumption | trivial | grind [I_Nm, I_Nd, I_Wd, I_Wd0, I_Pg, bt]) (by first | assumption | trivial | grind [I_Nm, I_Nd, I_Wd, I_Wd0, I_Pg, bt]) (by first | assumption | trivial | grind [I_Nm, I_Nd, I_Wd, I_Wd0, I_Pg, bt]) (by first | assumption | trivial | grind [I_Nm, I_Nd, I_Wd, I_Wd0, I_Pg, bt]) (fun r6 u6 hq17 => ?_) (fun u hq17 => ?_)
        · refine ⟨fun h18 => ?_, fun h19 => ?_⟩
          · refine s_Gr_take (by first | assumption | trivial | grind [I_Nm, I_Nd, I_Wd, I_Wd0, I_Pg, bt]) (fun r11 u11 hq20 => ?_) (fun u hq20 => ?_)
            · refine s_Gr_readSumOf hF (by first | assumption | trivial | grind [I_Nm, I_Nd, I_Wd, I_Wd0, I_Pg, bt]) (by first | assumption | trivial | grind [I_Nm, I_Nd, I_Wd, I_Wd0, I_Pg, bt]) (by first | assumption | trivial | grind [I_Nm, I_Nd, I_Wd, I_Wd0, I_Pg, bt]) (by first | assumption | trivial | grind [I_Nm, I_Nd, I_Wd, I_Wd0, I_Pg, bt]) (by first | assumption | trivial | grind [I_Nm, I_Nd, I_Wd, I_Wd0, I_Pg, bt]) (fun r12 u12 hq21 => ?_) (fun u hq21 => ?_)
              · refine s_Nd_endsWithSemicolon (fun r13 u13 hq22 => ?_)
                refine ⟨fun h23 => ?_, fun h24 => ?_⟩
                · refine s_Nd_add (by first | assumption | trivial | grind [I_Nm, I_Nd, I_Wd, I_Wd0, I_Pg, bt]) (fun r14 u14 hq25 => ?_)
                  exact hp _ _ (by first | assumption | trivial | grind [I_Nm, I_Nd, I_Wd, I_Wd0, I_Pg, bt])
                · refine s_Gr_take (by first | assumption | trivial | grind [I_Nm, I_Nd, I_Wd, I_Wd0, I_Pg, bt]) (fun r15 u15 hq25 => ?_) (fun u hq25 => ?_)
                  · refine s_Nd_add (by first | assumption | trivial | grind [I_Nm, I_Nd, I_Wd, I_Wd0, I_Pg, bt]) (fun r16 u16 hq26 => ?_)
                    exact hp _ _ (by first | assumption | trivial | grind [I_Nm, I_Nd, I_Wd, I_Wd0, I_Pg, bt])
                  · exact hpT _ (by first | assumption | trivial | grind [I_Nm, I_Nd, I_Wd, I_Wd0, I_Pg, bt])
              · exact hpT _ (by first | assumption | trivial | grind [I_Nm, I_Nd, I_Wd, I_Wd0, I_Pg, bt])
            · exact hpT _ (by first | assumption | trivial | grind [I_Nm, I_Nd, I_Wd, I_Wd0, I_Pg, bt])
          · refine s_Nd_endsWithSemicolon (fun r7 u7 hq20 => ?_)
            refine ⟨fun h21 => ?_, fun h22 => ?_⟩
            · refine s_Nd_add (by first | assumption | trivial | grind [I_Nm, I_Nd, I_Wd, I_Wd0, I_Pg, bt]) (fun r8 u8 hq23 => ?_)
              exact hp _ _ (by first | assumption | trivial | grind [I_Nm, I_Nd, I_Wd, I_Wd0, I_Pg, bt])
            · refine s_Gr_take (by first | assumption | trivial | grind [I_Nm, I_Nd, I_Wd, I_Wd0, I_Pg, bt]) (fun r9 u9 hq23 => ?_) (fun u hq23 => ?_)
              · refine s_Nd_add (by first | assumption | trivial | grind [I_Nm, I_Nd, I_Wd, I_Wd0, I_Pg, bt]) (fun r10 u10 hq24 => ?_)
                exact hp _ _ (by first | assumption | trivial | grind [I_Nm, I_Nd, I_Wd, I_Wd0, I_Pg, bt])
              · exact hpT _ (by first | assumption | trivial | grind [I_Nm, I_Nd, I_Wd, I_Wd0, I_Pg, bt])
        · exact hpT _ (by first | assumption | trivial | grind [I_Nm, I_Nd, I_Wd, I_Wd0, I_Pg, bt])
      · exact hpT _ (by first | assumption | trivial | grind [I_Nm, I_Nd, I_Wd, I_Wd0, I_Pg, bt])
    · refine s_Gr_readSumOf hF (by first | assumption | trivial | grind [I_Nm, I_Nd, I_Wd, I_Wd0, I_Pg, bt]) (by first | assumption | trivial | grind [I_Nm, I_Nd, I_Wd, I_Wd0, I_Pg, bt]) (by first | assumption | trivial | grind [I_Nm, I_Nd, I_Wd, I_Wd0, I_Pg, bt]) (by first | assumption | trivial | grind [I_Nm, I_Nd, I_Wd, I_Wd0, I_Pg, bt]) (by first | assumption | trivial | grind [I_Nm, I_Nd, I_Wd, I_Wd0, I_Pg, bt]) (fun r17 u17 hq14 => ?_) (fun u hq14 => ?_)
      · refine s_Nd_endsWithSemicolon (fun r18 u18 hq15 => ?_)
        refine ⟨fun h16 => ?_, fun h17 => ?_⟩
        · refine s_Nd_add (by first | assumption | trivial | grind [I_Nm, I_Nd, I_Wd, I_Wd0, I_Pg, bt]) (fun r19 u19 hq18 => ?_)
          exact hp _ _ (by first | assumption | trivial | grind [I_Nm, I_Nd, I_Wd, I_Wd0, I_Pg, bt])
        · refine s_Gr_take (by first | assumption | trivial | grind [I_Nm, I_Nd, I_Wd, I_Wd0, I_Pg, bt]) (fun r20 u20 hq18 => ?_) (fun u hq18 => ?_)
          · refine s_Nd_add (by first | assumption | trivial | grind [I_Nm, I_Nd, I_Wd, I_Wd0, I_Pg, bt]) (fun r21 u21 hq19 => ?_)
            exact hp _ _ (by first | assumption | trivial | grind [I_Nm, I_Nd, I_Wd, I_Wd0, I_Pg, bt])
          · exact hpT _ (by first | assumption | trivial | grind [I_Nm, I_Nd, I_Wd, I_Wd0, I_Pg, bt])
      · exact hpT _ (by first | assumption | trivial | grind [I_Nm, I_Nd, I_Wd, I_Wd0, I_Pg, bt])
    · refine s_Gr_readTest hF (by first | assumption | trivial | grind [I_Nm, I_Nd, I_Wd, I_Wd0, I_Pg, bt]) (by first | assumption | trivial | grind [I_Nm, I_Nd, I_Wd, I_Wd0, I_Pg, bt]) (by first | assumption | trivial | grind [I_Nm, I_Nd, I_Wd, I_Wd0, I_Pg, bt]) (by first | assumption | trivial | grind [I_Nm, I_Nd, I_Wd, I_Wd0, I_Pg, bt]) (by first | assumption | trivial | grind [I_Nm, I_Nd, I_Wd, I_Wd0, I_Pg, bt]) (fun r22 u22 hq14 => ?_) (fun u hq14 => ?_)
      · refine s_Nd_endsWithSemicolon (fun r23 u23 hq15 => ?_)
        refine ⟨fun h16 => ?_, fun h17 => ?_⟩
        · refine s_Nd_add (by first | assumption | trivial | grind [I_Nm, I_Nd, I_Wd, I_Wd0, I_Pg, bt]) (fun r24 u24 hq18 => ?_)
          exact hp _ _ (by first | assumption | trivial | grind [I_Nm, I_Nd, I_Wd, I_Wd0, I_Pg, bt])
        · refine s_Gr_take (by first | assumption | trivial | grind [I_Nm, I_Nd, I_Wd, I_Wd0, I_Pg, bt]) (fun r25 u25 hq18 => ?_) (fun u hq18 => ?_)
          · refine s_Nd_add (by first | assumption | trivial | grind [I_Nm, I_Nd, I_Wd, I_Wd0, I_Pg, bt]) (fun r26 u26 hq19 => ?_)
            exact hp _ _ (by first | assumption | trivial | grind [I_Nm, I_Nd, I_Wd, I_Wd0, I_Pg, bt])
          · exact hpT _ (by first | assumption | trivial | grind [I_Nm, I_Nd, I_Wd, I_Wd0, I_Pg, bt])
      · exact hpT _ (by first | assumption | trivial | grind [I_Nm, I_Nd, I_Wd, I_Wd0, I_Pg, bt])
    · refine s_Gr_readName (by first | assumption | trivial | grind [I_Nm, I_Nd, I_Wd, I_Wd0, I_Pg, bt]) (fun r27 u27 hq14 => ?_) (fun u hq14 => ?_)
      · refine s_Nm_use (by first | assumption | trivial | grind [I_Nm, I_Nd, I_Wd, I_Wd0, I_Pg, bt]) (fun r28 u28 hq15 => ?_)
        refine s_Nm_measureOf (fun r29 u29 hq16 => ?_)
        refine s_Gr_readSumOf hF (by first | assumption | trivial | grind [I_Nm, I_Nd, I_Wd, I_Wd0, I_Pg, bt]) (by first | assumption | trivial | grind [I_Nm, I_Nd, I_Wd, I_Wd0, I_Pg, bt]) (by first | assumption | trivial | grind [I_Nm, I_Nd, I_Wd, I_Wd0, I_Pg, bt]) (by first | assumption | trivial | grind [I_Nm, I_Nd, I_Wd, I_Wd0, I_Pg, bt]) (by first | assumption | trivial | grind [I_Nm, I_Nd, I_Wd, I_Wd0, I_Pg, bt]) (fun r30 u30 hq17 => ?_) (fun u hq17 => ?_)
        · refine ⟨fun h18 => ?_, fun h19 => ?_⟩
          · refine s_Gr_take (by first | assumption | trivial | grind [I_Nm, I_Nd, I_Wd, I_Wd0, I_Pg, bt]) (fun r35 u35 hq20 => ?_) (fun u hq20 => ?_)
            · refine s_Gr_readSumOf hF (by first | assumption | trivial | grind [I_Nm, I_Nd, I_Wd, I_Wd0, I_Pg, bt]) (by first | assumption | trivial | grind [I_Nm, I_Nd, I_Wd, I_Wd0, I_Pg, bt]) (by first | assumption | trivial | grind [I_Nm, I_Nd, I_Wd, I_Wd0, I_Pg, bt]) (by first | assumption | trivial | grind [I_Nm, I_Nd, I_Wd, I_Wd0, I_Pg, bt]) (by first | assumption | trivial | grind [I_Nm, I_Nd, I_Wd, I_Wd0, I_Pg, bt]) (fun r36 u36 hq21 => ?_) (fun u hq21 => ?_)
              · refine s_Nd_endsWithSemicolon (fun r37 u37 hq22 => ?_)
                refine ⟨fun h23 => ?_, fun h24 => ?_⟩
                · refine s_Nd_add (by first | assumption | trivial | grind [I_Nm, I_Nd, I_Wd, I_Wd0, I_Pg, bt]) (fun r38 u38 hq25 => ?_)
                  exact hp _ _ (by first | assumption | trivial | grind [I_Nm, I_Nd, I_Wd, I_Wd0, I_Pg, bt])
                · refine s_Gr_take (by first | assumption | trivial | grind [I_Nm, I_Nd, I_Wd, I_Wd0, I_Pg, bt]) (fun r39 u39 hq25 => ?_) (fun u hq25 => ?_)
                  · refine s_Nd_add (by first | assumption | trivial | grind [I_Nm, I_Nd, I_Wd, I_Wd0, I_Pg, bt]) (fun r40 u40 hq26 => ?_)
                    exact hp _ _ (by first | assumption | trivial | grind [I_Nm, I_Nd, I_Wd, I_Wd0, I_Pg, bt])
                  · exact hpT _ (by first | assumption | trivial | grind [I_Nm, I_Nd, I_Wd, I_Wd0, I_Pg, bt])
              · exact hpT _ (by first | assumption | trivial | grind [I_Nm, I_Nd, I_Wd, I_Wd0, I_Pg, bt])
            · exact hpT _ (by first | assumption | trivial | grind [I_Nm, I_Nd, I_Wd, I_Wd0, I_Pg, bt])
          · refine s_Nd_endsWithSemicolon (fun r31 u31 hq20 => ?_)
            refine ⟨fun h21 => ?_, fun h22 => ?_⟩
            · refine s_Nd_add (by first | assumption | trivial | grind [I_Nm, I_Nd, I_Wd, I_Wd0, I_Pg, bt]) (fun r32 u32 hq23 => ?_)
              exact hp _ _ (by first | assumption | trivial | grind [I_Nm, I_Nd, I_Wd, I_Wd0, I_Pg, bt])
            · refine s_Gr_take (by first | assumption | trivial | grind [I_Nm, I_Nd, I_Wd, I_Wd0, I_Pg, bt]) (fun r33 u33 hq23 => ?_) (fun u hq23 => ?_)
              · refine s_Nd_add (by first | assumption | trivial | grind [I_Nm, I_Nd, I_Wd, I_Wd0, I_Pg, bt]) (fun r34 u34 hq24 => ?_)
                exact hp _ _ (by first | assumption | trivial | grind [I_Nm, I_Nd, I_Wd, I_Wd0, I_Pg, bt])
              · exact hpT _ (by first | assumption | trivial | grind [I_Nm, I_Nd, I_Wd, I_Wd0, I_Pg, bt])
        · exact hpT _ (by first | assumption | trivial | grind [I_Nm, I_Nd, I_Wd, I_Wd0, I_Pg, bt])
      · exact hpT _ (by first | assumption | trivial | grind [I_Nm, I_Nd, I_Wd, I_Wd0, I_Pg, bt])
    · refine s_Gr_readBranches hF hrf (by first | assumption | trivial | grind [I_Nm, I_Nd, I_Wd, I_Wd0, I_Pg, bt]) (by first | assumption | trivial | grind [I_Nm, I_Nd, I_Wd, I_Wd0, I_Pg, bt]) (by first | assumption | trivial | grind [I_Nm, I_Nd, I_Wd, I_Wd0, I_Pg, bt]) (by first | assumption | trivial | grind [I_Nm, I_Nd, I_Wd, I_Wd0, I_Pg, bt]) (by first | assumption | trivial | grind [I_Nm, I_Nd, I_Wd, I_Wd0, I_Pg, bt]) (by first | assumption | trivial | grind [I_Nm, I_Nd, I_Wd, I_Wd0, I_Pg, bt]) (fun r41 u41 hq14 => ?_) (fun u hq14 => ?_)
      · refine s_Nd_endsWithSemicolon (fun r42 u42 hq15 => ?_)
        refine ⟨fun h16 => ?_, fun h17 => ?_⟩
        · refine s_Nd_add (by first | assumption | trivial | grind [I_Nm, I_Nd, I_Wd, I_Wd0, I_Pg, bt]) (fun r43 u43 hq18 => ?_)
          exact hp _ _ (by first | assumption | trivial | grind [I_Nm, I_Nd, I_Wd, I_Wd0, I_Pg, bt])
        · refine s_Gr_take (by first | assumption | trivial | grind [I_Nm, I_Nd, I_Wd, I_Wd0, I_Pg, bt]) (fun r44 u44 hq18 => ?_) (fun u hq18 => ?_)
          · refine s_Nd_add (by first | assumption | trivial | grind [I_Nm, I_Nd, I_Wd, I_Wd0, I_Pg, bt]) (fun r45 u45 hq19 => ?_)
            exact hp _ _ (by first | assumption | trivial | grind [I_Nm, I_Nd, I_Wd, I_Wd0, I_Pg, bt])
          · exact hpT _ (by first | assumption | trivial | grind [I_Nm, I_Nd, I_Wd, I_Wd0, I_Pg, bt])
      · exact hpT _ (by first | assumption | trivial | grind [I_Nm, I_Nd, I_Wd, I_Wd0, I_Pg, bt])
    · refine s_Gr_readBranches hF hrf (by first | assumption | trivial | grind [I_Nm, I_Nd, I_Wd, I_Wd0, I_Pg, bt]) (by first | assumption | trivial | grind [I_Nm, I_Nd, I_Wd, I_Wd0, I_Pg, bt]) (by first | assumption | trivial | grind [I_Nm, I_Nd, I_Wd, I_Wd0, I_Pg, bt]) (by first | assumption | trivial | grind [I_Nm, I_Nd, I_Wd, I_Wd0, I_Pg, bt]) (by first | assumption | trivial | grind [I_Nm, I_Nd, I_Wd, I_Wd0, I_Pg, bt]) (by first | assumption | trivial | grind [I_Nm, I_Nd, I_Wd, I_Wd0, I_Pg, bt]) (fun r46 u46 hq14 => ?_) (fun u hq14 => ?_)
      · refine s_Nd_endsWithSemicolon (fun r47 u47 hq15 => ?_)
        refine ⟨fun h16 => ?_, fun h17 => ?_⟩
        · refine s_Nd_add (by first | assumption | trivial | grind [I_Nm, I_Nd, I_Wd, I_Wd0, I_Pg, bt]) (fun r48 u48 hq18 => ?_)
          exact hp _ _ (by first | assumption | trivial | grind [I_Nm, I_Nd, I_Wd, I_Wd0, I_Pg, bt])
        · refine s_Gr_take (by first | assumption | trivial | grind [I_Nm, I_Nd, I_Wd, I_Wd0, I_Pg, bt]) (fun r49 u49 hq18 => ?_) (fun u hq18 => ?_)
          · refine s_Nd_add (by first | assumption | trivial | grind [I_Nm, I_Nd, I_Wd, I_Wd0, I_Pg, bt]) (fun r50 u50 hq19 => ?_)
            exact hp _ _ (by first | assumption | trivial | grind [I_Nm, I_Nd, I_Wd, I_Wd0, I_Pg, bt])
          · exact hpT _ (by first | assumption | trivial | grind [I_Nm, I_Nd, I_Wd, I_Wd0, I_Pg, bt])
      · exact hpT _ (by first | assumption | trivial | grind [I_Nm, I_Nd, I_Wd, I_Wd0, I_Pg, bt])
    · refine s_Gr_readBranches hF hrf (by first | assumption | trivial | grind [I_Nm, I_Nd, I_Wd, I_Wd0, I_Pg, bt]) (by first | assumption | trivial | grind [I_Nm, I_Nd, I_Wd, I_Wd0, I_Pg, bt]) (by first | assumption | trivial | grind [I_Nm, I_Nd, I_Wd, I_Wd0, I_Pg, bt]) (by first | assumption | trivial | grind [I_Nm, I_Nd, I_Wd, I_Wd0, I_Pg, bt]) (by first | assumption | trivial | grind [I_Nm, I_Nd, I_Wd, I_Wd0, I_Pg, bt]) (by first | assumption | trivial | grind [I_Nm, I_Nd, I_Wd, I_Wd0, I_Pg, bt]) (fun r51 u51 hq14 => ?_) (fun u hq14 => ?_)
      · refine s_Nd_endsWithSemicolon (fun r52 u52 hq15 => ?_)
        refine ⟨fun h16 => ?_, fun h17 => ?_⟩
        · refine s_Nd_add (by first | assumption | trivial | grind [I_Nm, I_Nd, I_Wd, I_Wd0, I_Pg, bt]) (fun r53 u53 hq18 => ?_)
          exact hp _ _ (by first | assumption | trivial | grind [I_Nm, I_Nd, I_Wd, I_Wd0, I_Pg, bt])
        · refine s_Gr_take (by first | assumption | trivial | grind [I_Nm, I_Nd, I_Wd, I_Wd0, I_Pg, bt]) (fun r54 u54 hq18 => ?_) (fun u hq18 => ?_)
          · refine s_Nd_add (by first | assumption | trivial | grind [I_Nm, I_Nd, I_Wd, I_Wd0, I_Pg, bt]) (fun r55 u55 hq19 => ?_)
            exact hp _ _ (by first | assumption | trivial | grind [I_Nm, I_Nd, I_Wd, I_Wd0, I_Pg, bt])
          · exact hpT _ (by first | assumption | trivial | grind [I_Nm, I_Nd, I_Wd, I_Wd0, I_Pg, bt])
      · exact hpT _ (by first | assumption | trivial | grind [I_Nm, I_Nd, I_Wd, I_Wd0, I_Pg, bt])
    · refine s_Gr_readBranches hF hrf (by first | assumption | trivial | grind [I_Nm, I_Nd, I_Wd, I_Wd0, I_Pg, bt]) (by first | assumption | trivial | grind [I_Nm, I_Nd, I_Wd, I_Wd0, I_Pg, bt]) (by first | assumption | trivial | grind [I_Nm, I_Nd, I_Wd, I_Wd0, I_Pg, bt]) (by first | assumption | trivial | grind [I_Nm, I_Nd, I_Wd, I_Wd0, I_Pg, bt]) (by first | assumption | trivial | grind [I_Nm, I_Nd, I_Wd, I_Wd0, I_Pg, bt]) (by first | assumption | trivial | grind [I_Nm, I_Nd, I_Wd, I_Wd0, I_Pg, bt]) (fun r56 u56 hq14 => ?_) (fun u hq14 => ?_)
      · refine s_Nd_endsWithSemicolon (fun r57 u57 hq15 => ?_)
        refine ⟨fun h16 => ?_, fun h17 => ?_⟩
        · refine s_Nd_add (by first | assumption | trivial | grind [I_Nm, I_Nd, I_Wd, I_Wd0, I_Pg, bt]) (fun r58 u58 hq18 => ?_)
          exact hp _ _ (by first | assumption | trivial | grind [I_Nm, I_Nd, I_Wd, I_Wd0, I_Pg, bt])
        · refine s_Gr_take (by first | assumption | trivial | grind [I_Nm, I_Nd, I_Wd, I_Wd0, I_Pg, bt]) (fun r59 u59 hq18 => ?_) (fun u hq18 => ?_)
          · refine s_Nd_add (by first | assumption | trivial | grind [I_Nm, I_Nd, I_Wd, I_Wd0, I_Pg, bt]) (fun r60 u60 hq19 => ?_)
            exact hp _ _ (by first | assumption | trivial | grind [I_Nm, I_Nd, I_Wd, I_Wd0, I_Pg, bt])
          · exact hpT _ (by first | assumption | trivial | grind [I_Nm, I_Nd, I_Wd, I_Wd0, I_Pg, bt])
      · exact hpT _ (by first | assumption | trivial | grind [I_Nm, I_Nd, I_Wd, I_Wd0, I_Pg, bt])
    · refine s_Gr_readName (by first | assumption | trivial | grind [I_Nm, I_Nd, I_Wd, I_Wd0, I_Pg, bt]) (fun r61 u61 hq14 => ?_) (fun u hq14 => ?_)
      · refine s_Nm_use (by first | assumption | trivial | grind [I_Nm, I_Nd, I_Wd, I_Wd0, I_Pg, bt]) (fun r62 u62 hq15 => ?_)
        refine s_Nd_endsWithSemicolon (fun r63 u63 hq16 => ?_)
        refine ⟨fun h17 => ?_, fun h18 => ?_⟩
        · refine s_Nd_add (by first | assumption | trivial | grind [I_Nm, I_Nd, I_Wd, I_Wd0, I_Pg, bt]) (fun r64 u64 hq19 => ?_)
          exact hp _ _ (by first | assumption | trivial | grind [I_Nm, I_Nd, I_Wd, I_Wd0, I_Pg, bt])
        · refine s_Gr_take (by first | assumption | trivial | grind [I_Nm, I_Nd, I_Wd, I_Wd0, I_Pg, bt]) (fun r65 u65 hq19 => ?_) (fun u hq19 => ?_)
          · refine s_Nd_add (by first | assumption | trivial | grind [I_Nm, I_Nd, I_Wd, I_Wd0, I_Pg, bt]) (fun r66 u66 hq20 => ?_)
            exact hp _ _ (by first | assumption | trivial | grind [I_Nm, I_Nd, I_Wd, I_Wd0, I_Pg, bt])
          · exact hpT _ (by first | assumption | trivial | grind [I_Nm, I_Nd, I_Wd, I_Wd0, I_Pg, bt])
      · exact hpT _ (by first | assumption | trivial | grind [I_Nm, I_Nd, I_Wd, I_Wd0, I_Pg, bt])
    · refine s_Gr_readName (by first | assumption | trivial | grind [I_Nm, I_Nd, I_Wd, I_Wd0, I_Pg, bt]) (fun r67 u67 hq14 => ?_) (fun u hq14 => ?_)
      · refine s_Nd_endsWithSemicolon (fun r68 u68 hq15 => ?_)
        refine ⟨fun h16 => ?_, fun h17 => ?_⟩
        · refine s_Nd_add (by first | assumption | trivial | grind [I_Nm, I_Nd, I_Wd, I_Wd0, I_Pg, bt]) (fun r69 u69 hq18 => ?_)
          exact hp _ _ (by first | assumption | trivial | grind [I_Nm, I_Nd, I_Wd, I_Wd0, I_Pg, bt])
        · refine s_Gr_take (by first | assumption | trivial | grind [I_Nm, I_Nd, I_Wd, I_Wd0, I_Pg, bt]) (fun r70 u70 hq18 => ?_) (fun u hq18 => ?_)
          · refine s_Nd_add (by first | assumption | trivial | grind [I_Nm, I_Nd, I_Wd, I_Wd0, I_Pg, bt]) (fun r71 u71 hq19 => ?_)
            exact hp _ _ (by first | assumption | trivial | grind [I_Nm, I_Nd, I_Wd, I_Wd0, I_Pg, bt])
          · exact hpT _ (by first | assumption | trivial | grind [I_Nm, I_Nd, I_Wd, I_Wd0, I_Pg, bt])
      · exact hpT _ (by first | assumption | trivial | grind [I_Nm, I_Nd, I_Wd, I_Wd0, I_Pg, bt])
    · refine s_Gr_readAct (by first | assumption | trivial | grind [I_Nm, I_Nd, I_Wd, I_Wd0, I_Pg, bt]) (fun r72 u72 hq14 => ?_) (fun u hq14 => ?_)
      · refine s_Nd_endsWithSemicolon (fun r73 u73 hq15 => ?_)
        refine ⟨fun h16 => ?_, fun h17 => ?_⟩
        · refine s_Nd_add (by first | assumption | trivial | grind [I_Nm, I_Nd, I_Wd, I_Wd0, I_Pg, bt]) (fun r74 u74 hq18 => ?_)
          exact hp _ _ (by first | assumption | trivial | grind [I_Nm, I_Nd, I_Wd, I_Wd0, I_Pg, bt])
        · refine s_Gr_take (by first | assumption | trivial | grind [I_Nm, I_Nd, I_Wd, I_Wd0, I_Pg, bt]) (fun r75 u75 hq18 => ?_) (fun u hq18 => ?_)
          · refine s_Nd_add (by first | assumption | trivial | grind [I_Nm, I_Nd, I_Wd, I_Wd0, I_Pg, bt]) (fun r76 u76 hq19 => ?_)
            exact hp _ _ (by first | assumption | trivial | grind [I_Nm, I_Nd, I_Wd, I_Wd0, I_Pg, bt])
          · exact hpT _ (by first | assumption | trivial | grind [I_Nm, I_Nd, I_Wd, I_Wd0, I_Pg, bt])
      · exact hpT _ (by first | assumption | trivial | grind [I_Nm, I_Nd, I_Wd, I_Wd0, I_Pg, bt])
    · refine s_Nd_endsWithSemicolon (fun r85 u85 hq14 => ?_)
      refine ⟨fun h15 => ?_, fun h16 => ?_⟩
      · refine s_Nd_add (by first | assumption | trivial | grind [I_Nm, I_Nd, I_Wd, I_Wd0, I_Pg, bt]) (fun r86 u86 hq17 => ?_)
        exact hp _ _ (by first | assumption | trivial | grind [I_Nm, I_Nd, I_Wd, I_Wd0, I_Pg, bt])
      · refine s_Gr_take (by first | assumption | trivial | grind [I_Nm, I_Nd, I_Wd, I_Wd0, I_Pg, bt]) (fun r87 u87 hq17 => ?_) (fun u hq17 => ?_)
        · refine s_Nd_add (by first | assumption | trivial | grind [I_Nm, I_Nd, I_Wd, I_Wd0, I_Pg, bt]) (fun r88 u88 hq18 => ?_)
          exact hp _ _ (by first | assumption | trivial | grind [I_Nm, I_Nd, I_Wd, I_Wd0, I_Pg, bt])
        · exact hpT _ (by first | assumption | trivial | grind [I_Nm, I_Nd, I_Wd, I_Wd0, I_Pg, bt])
  · exact hpT _ (by first | assumption | trivial | grind [I_Nm, I_Nd, I_Wd, I_Wd0, I_Pg, bt])
