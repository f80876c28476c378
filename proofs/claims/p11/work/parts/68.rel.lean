def RB (tx : Nat → Int32) (sz : Int32) (pl ln : Nat → Int32) (kx : Int32) (bC : T_Gr → T_Nm → T_Nd → T_Wd → Int32 → (Unit → T_Gr × T_Nm × T_Nd × T_Wd → Prop) → (T_Gr × T_Nm × T_Nd × T_Wd → Prop) → Prop) (bM : T_Mo → (Int32 → T_Mo → Prop) → Prop) : Prop := ∀ (g : T_Gr) (nm : T_Nm) (nd : T_Nd) (w : T_Wd) (op : Int32) (m : T_Mo) (PC : Unit → T_Gr × T_Nm × T_Nd × T_Wd → Prop) (PT : T_Gr × T_Nm × T_Nd × T_Wd → Prop) (PM : Int32 → T_Mo → Prop) (n km hi tp c : Nat), RG tx sz pl ln nm nd w m n km hi tp c → m.1.2.1.1.2 = op → (0 : Int32) ≤ op → op ≤ 60 → bC g nm nd w op PC PT → bM m PM → OT kx tx sz pl ln PC PT PM nd w m n km hi tp c
def RDB (bC : T_Gr → T_Nm → T_Nd → T_Wd → Int32 → (Unit → T_Gr × T_Nm × T_Nd × T_Wd → Prop) → (T_Gr × T_Nm × T_Nd × T_Wd → Prop) → Prop) : Prop := ∀ (g : T_Gr) (nm : T_Nm) (nd : T_Nd) (w : T_Wd) (op : Int32) (PC : Unit → T_Gr × T_Nm × T_Nd × T_Wd → Prop) (PT : T_Gr × T_Nm × T_Nd × T_Wd → Prop), DM nd w → bC g nm nd w op PC PT → ∃ u, PT u
set_option maxHeartbeats 1000000 in
theorem st_node {tx : Nat → Int32} {sz : Int32} {pl ln : Nat → Int32} {nm0 : T_Nm} {nd0 : T_Nd} {w0 : T_Wd} {m0 : T_Mo} {n0 km0 hi tp c : Nat} {g : T_Gr} {nm : T_Nm} {nd : T_Nd} {w : T_Wd} {m : T_Mo} {n km : Nat} {asc : List Nat} {k row : Int32} {v : Int64} {kx un : Int32} {PC : Unit → T_Gr × T_Nm × T_Nd × T_Wd → Prop} {PT : T_Gr × T_Nm × T_Nd × T_Wd → Prop} {PM : Int32 → T_Mo → Prop} (rg0 : RG tx sz pl ln nm0 nd0 w0 m0 n0 km0 hi tp c) (s : SS tx sz pl ln nd0 m0 n0 km0 hi tp c nm nd w m n km asc) (em : m.1.2.1.1.2 = m0.1.2.1.1.2) (cw : w0.2.2.2.2.2.2.2.1 < w.2.2.2.2.2.2.2.1) (k7 : ¬ k ≤ 6) (k22 : k ≤ kx) (hC : wp_Nd_add nd k (Int32.ofNat n0) row v (0 : Int32) (fun (r10 : Int32) (u10 : T_Nd) => PC () (g, nm, u10, w))) (hM : wp_Mo_node0 m k v row un (Int32.ofNat hi) PM) : OT kx tx sz pl ln PC PT PM nd0 w0 m0 n0 km0 hi tp c := by
  obtain ⟨s1, s2, s3, s4, s5, s6, s7, s8, s9, s10⟩ := s
  rcases rl_mk (asc := asc) (mark := hi) s1 rfl s2 s3 hC hM (fun q => absurd q k7) with ⟨n8, nd', m', hC, hM, rg2, ad, e1, e2, e3, e4, e5, fo⟩ | ⟨r, nd', m', hC, hM, cn, fo⟩
  · have an := AD_new ad
    have ao := AD_old ad
    have fp : FP m0 m' hi := ⟨fun j hj => by rw [e1]; exact s4 j hj, e2.trans em, e3.trans s6, rg2.2.2.2.2.2.1.trans rg0.2.2.2.2.2.1.symm, rg2.2.2.2.2.1.trans rg0.2.2.2.2.1.symm, NmF_trans s10 e5⟩
    exact Or.inl ⟨g, nm, nd', w, m', n, km + asc.length, hC, hM, rg2, s8, s9, an.1, by rw [an.2.1]; exact k22, by rw [an.2.2.1]; decide, fun j hj => ⟨(ao j (by omega)).1.trans (s5 j hj).1, (ao j (by omega)).2.1.trans (s5 j hj).2.1, (ao j (by omega)).2.2.trans (s5 j hj).2.2⟩, fp, FO_trans s7 fo, cw⟩
  · exact Or.inr (Or.inr ⟨g, nm, nd', w, -1, m', hC, Or.inr cn, hM, by decide, FO_trans s7 fo⟩)
set_option maxHeartbeats 1000000 in
theorem st_semi {tx : Nat → Int32} {sz : Int32} {pl ln : Nat → Int32} {nm0 : T_Nm} {nd0 : T_Nd} {w0 : T_Wd} {m0 : T_Mo} {n0 km0 hi tp c : Nat} {g : T_Gr} {nm : T_Nm} {nd : T_Nd} {w : T_Wd} {m : T_Mo} {n km : Nat} {asc : List Nat} {k row : Int32} {v : Int64} {PC : Unit → T_Gr × T_Nm × T_Nd × T_Wd → Prop} {PT : T_Gr × T_Nm × T_Nd × T_Wd → Prop} {PM PMo : Int32 → T_Mo → Prop} (rg0 : RG tx sz pl ln nm0 nd0 w0 m0 n0 km0 hi tp c) (s : SS tx sz pl ln nd0 m0 n0 km0 hi tp c nm nd w m n km asc) (em : m.1.2.1.1.2 = m0.1.2.1.1.2) (cw : w0.2.2.2.2.2.2.2.1 < w.2.2.2.2.2.2.2.1) (k7 : ¬ k ≤ 6) (k22 : k ≤ 22) (hC : wp_Gr_take g nd w (59 : Int32) (fun (r9 : Unit) (u9 : T_Gr × T_Wd) => wp_Nd_add nd k (Int32.ofNat n0) row v (0 : Int32) (fun (r10 : Int32) (u10 : T_Nd) => PC () (u9.1, nm, u10, u9.2))) (fun (u : T_Gr × T_Wd) => PT (u.1, nm, nd, u.2))) (hM : wp_Mo_over m (59 : Int32) PMo) (hp0 : ∀ u, PMo 0 u → PM (-1) u) (hp1 : ∀ u, PMo 1 u → wp_Mo_node0 (((((u.1.1.1.1.1, u.1.1.1.1.2), (u.1.1.1.2.1, (u.1.1.1.2.2.1, u.1.1.1.2.2.2))), ((u.1.1.2.1.1, u.1.1.2.1.2), (u.1.1.2.2.1, (u.1.1.2.2.2.1, u.1.1.2.2.2.2)))), (((u.1.2.1.1.1, u.1.2.1.1.2), (u.1.2.1.2.1, (u.1.2.1.2.2.1, u.1.2.1.2.2.2))), ((u.1.2.2.1.1, (u.1.2.2.1.2.1, u.1.2.2.1.2.2)), (u.1.2.2.2.1, (u.1.2.2.2.2.1, u.1.2.2.2.2.2))))), ((((u.2.1.1.1.1, u.2.1.1.1.2), (u.2.1.1.2.1, (u.2.1.1.2.2.1, u.2.1.1.2.2.2))), ((u.2.1.2.1.1, u.2.1.2.1.2), (u.2.1.2.2.1, (u.2.1.2.2.2.1, u.2.1.2.2.2.2)))), (((u.2.2.1.1.1, u.2.2.1.1.2), (u.2.2.1.2.1, (u.2.2.1.2.2.1, u.2.2.1.2.2.2))), ((u.2.2.2.1.1, (u.2.2.2.1.2.1, u.2.2.2.1.2.2)), (u.2.2.2.2.1, (u.2.2.2.2.2.1, (u.2.2.2.2.2.2 + (1 : Int32)))))))) k v row (-1 : Int32) (Int32.ofNat hi) PM) : OT 22 tx sz pl ln PC PT PM nd0 w0 m0 n0 km0 hi tp c := by
  have s7 := s.2.2.2.2.2.2.1
  have t59 := RW_sg s.1.1 (x := 59) (by unfold sg; decide)
  rcases rl_take s.1.1 t59 (by decide) (NR_cnt s.1.2.1) hC hM with ⟨w1, m1, hC, hM, rw1, fr, cw1⟩ | ⟨u, m1, hC, hM, fr⟩ | ⟨w1, m1, hC, hM, dd, fr⟩
  · have s1' := SS_Fr s rw1 fr
    have s1 : SS tx sz pl ln nd0 m0 n0 km0 hi tp c nm nd w1 (((((m1.1.1.1.1.1, m1.1.1.1.1.2), (m1.1.1.1.2.1, (m1.1.1.1.2.2.1, m1.1.1.1.2.2.2))), ((m1.1.1.2.1.1, m1.1.1.2.1.2), (m1.1.1.2.2.1, (m1.1.1.2.2.2.1, m1.1.1.2.2.2.2)))), (((m1.1.2.1.1.1, m1.1.2.1.1.2), (m1.1.2.1.2.1, (m1.1.2.1.2.2.1, m1.1.2.1.2.2.2))), ((m1.1.2.2.1.1, (m1.1.2.2.1.2.1, m1.1.2.2.1.2.2)), (m1.1.2.2.2.1, (m1.1.2.2.2.2.1, m1.1.2.2.2.2.2))))), ((((m1.2.1.1.1.1, m1.2.1.1.1.2), (m1.2.1.1.2.1, (m1.2.1.1.2.2.1, m1.2.1.1.2.2.2))), ((m1.2.1.2.1.1, m1.2.1.2.1.2), (m1.2.1.2.2.1, (m1.2.1.2.2.2.1, m1.2.1.2.2.2.2)))), (((m1.2.2.1.1.1, m1.2.2.1.1.2), (m1.2.2.1.2.1, (m1.2.2.1.2.2.1, m1.2.2.1.2.2.2))), ((m1.2.2.2.1.1, (m1.2.2.2.1.2.1, m1.2.2.2.1.2.2)), (m1.2.2.2.2.1, (m1.2.2.2.2.2.1, (m1.2.2.2.2.2.2 + (1 : Int32)))))))) n km asc := s1'
    exact st_node rg0 s1 ((FP_Fr (hi := 0) fr).2.1.trans em) (Int32.lt_trans cw (cur_up s.1.1 cw1)) k7 k22 hC (hp1 _ hM)
  · exact Or.inr (Or.inl ⟨_, -1, m1, hC, hp0 _ hM, by decide, FO_trans s7 (FO_Fr fr)⟩)
  · obtain ⟨r, nd', hC, -⟩ := dm_add hC
    exact Or.inr (Or.inr ⟨_, nm, nd', w1, -1, m1, hC, Or.inl dd, hp0 _ hM, by decide, FO_trans s7 (FO_Fr fr)⟩)
theorem dm_name {g : T_Gr} {nm : T_Nm} {nd : T_Nd} {w : T_Wd} {so : Int32} {PC : Int32 → T_Gr × T_Wd → Prop} {PT : T_Gr × T_Wd → Prop} (d : dead w.2.2.2.2.2.2.2.2.2.2.1) (h : wp_Gr_readName g nm nd w so PC PT) : ∃ u, PT u := by
  unfold wp_Gr_readName wp_Gr_refuse at h
  exact ⟨_, (h.2 (fun q => (dead_n d).1 (by rw [q]; decide))).1 rfl⟩
theorem dm_act {g : T_Gr} {nd : T_Nd} {w : T_Wd} {PC : Int32 → T_Gr × T_Wd → Prop} {PT : T_Gr × T_Wd → Prop} (d : dead w.2.2.2.2.2.2.2.2.2.2.1) (h : wp_Gr_readAct g nd w PC PT) : ∃ u, PT u := by
  unfold wp_Gr_readAct wp_Gr_refuse at h
  exact ⟨_, h.2 (fun q => (dead_n d).1 (by rw [q]; decide))⟩
theorem rd_branches {d : Nat} {bC : T_Gr → T_Nm → T_Nd → T_Wd → Int32 → (Unit → T_Gr × T_Nm × T_Nd × T_Wd → Prop) → (T_Gr × T_Nm × T_Nd × T_Wd → Prop) → Prop} (rdb : RDB bC) {g : T_Gr} {nm : T_Nm} {nd : T_Nd} {w : T_Wd} {k op : Int32} {PC : Unit → T_Gr × T_Nm × T_Nd × T_Wd → Prop} {PT : T_Gr × T_Nm × T_Nd × T_Wd → Prop} (d9 : DM nd w) (h : wp_Gr_readBranches d bC g nm nd w k op PC PT) : ∃ u, PT u := by
  unfold wp_Gr_readBranches at h
  rcases br_el h with ⟨q, h⟩ | ⟨q, h⟩
  · obtain ⟨u, h⟩ := rd_sumOf (rd_factor d) d9 h
    exact ⟨_, h⟩
  · rcases br_el h with ⟨q, h⟩ | ⟨q, h⟩
    · obtain ⟨u, h⟩ := rdb _ _ _ _ _ _ _ d9 h
      exact ⟨_, h⟩
    · obtain ⟨u, h⟩ := rd_test (rd_factor d) d9 h
      exact ⟨_, h⟩
theorem K_cases {k : Int32} (h0 : (10 : Int32) ≤ k) (h9 : k ≤ 22) : k = 10 ∨ k = 11 ∨ k = 12 ∨ k = 13 ∨ k = 14 ∨ k = 15 ∨ k = 16 ∨ k = 17 ∨ k = 18 ∨ k = 19 ∨ k = 20 ∨ k = 21 ∨ k = 22 := by
  rw [Int32.le_iff_toInt_le] at h0 h9
  have e0 : (10 : Int32).toInt = 10 := rfl
  have e9 : (22 : Int32).toInt = 22 := rfl
  have q : k.toInt = 10 ∨ k.toInt = 11 ∨ k.toInt = 12 ∨ k.toInt = 13 ∨ k.toInt = 14 ∨ k.toInt = 15 ∨ k.toInt = 16 ∨ k.toInt = 17 ∨ k.toInt = 18 ∨ k.toInt = 19 ∨ k.toInt = 20 ∨ k.toInt = 21 ∨ k.toInt = 22 := by omega
  rcases q with q | q | q | q | q | q | q | q | q | q | q | q | q
  · exact Or.inl (Int32.toInt_inj.mp (q.trans rfl))
  · exact Or.inr (Or.inl (Int32.toInt_inj.mp (q.trans rfl)))
  · exact Or.inr (Or.inr (Or.inl (Int32.toInt_inj.mp (q.trans rfl))))
  · exact Or.inr (Or.inr (Or.inr (Or.inl (Int32.toInt_inj.mp (q.trans rfl)))))
  · exact Or.inr (Or.inr (Or.inr (Or.inr (Or.inl (Int32.toInt_inj.mp (q.trans rfl))))))
  · exact Or.inr (Or.inr (Or.inr (Or.inr (Or.inr (Or.inl (Int32.toInt_inj.mp (q.trans rfl)))))))
  · exact Or.inr (Or.inr (Or.inr (Or.inr (Or.inr (Or.inr (Or.inl (Int32.toInt_inj.mp (q.trans rfl))))))))
  · exact Or.inr (Or.inr (Or.inr (Or.inr (Or.inr (Or.inr (Or.inr (Or.inl (Int32.toInt_inj.mp (q.trans rfl)))))))))
  · exact Or.inr (Or.inr (Or.inr (Or.inr (Or.inr (Or.inr (Or.inr (Or.inr (Or.inl (Int32.toInt_inj.mp (q.trans rfl))))))))))
  · exact Or.inr (Or.inr (Or.inr (Or.inr (Or.inr (Or.inr (Or.inr (Or.inr (Or.inr (Or.inl (Int32.toInt_inj.mp (q.trans rfl)))))))))))
  · exact Or.inr (Or.inr (Or.inr (Or.inr (Or.inr (Or.inr (Or.inr (Or.inr (Or.inr (Or.inr (Or.inl (Int32.toInt_inj.mp (q.trans rfl))))))))))))
  · exact Or.inr (Or.inr (Or.inr (Or.inr (Or.inr (Or.inr (Or.inr (Or.inr (Or.inr (Or.inr (Or.inr (Or.inl (Int32.toInt_inj.mp (q.trans rfl)))))))))))))
  · exact Or.inr (Or.inr (Or.inr (Or.inr (Or.inr (Or.inr (Or.inr (Or.inr (Or.inr (Or.inr (Or.inr (Or.inr ((Int32.toInt_inj.mp (q.trans rfl))))))))))))))
theorem K_of {c : Int32} (h0 : (200 : Int32) ≤ c) (h9 : c ≤ 212) : ((c + 810) - (1000 : Int32)) = (c - (200 : Int32)) + (10 : Int32) ∧ (10 : Int32) ≤ (c - (200 : Int32)) + (10 : Int32) ∧ (c - (200 : Int32)) + (10 : Int32) ≤ 22 ∧ ¬ c = 0 := by
  refine ⟨?_, ?_, ?_, ?_⟩ <;> grind
theorem act_rel {v : Int64} (v0 : 0 ≤ v.toInt) : lg_cmp (v / (1000 : Int64)) (64 : Int64) < 0 ↔ lg_cmp v (64000 : Int64) < 0 := by
  rw [lg_cmp_lt, lg_cmp_lt, Int64.lt_iff_toInt_lt, Int64.lt_iff_toInt_lt, lg_ldiv_nonneg v0 (by decide), show (1000 : Int64).toInt = 1000 from rfl, show (64 : Int64).toInt = 64 from rfl, show (64000 : Int64).toInt = 64000 from rfl]
  omega
theorem RW_act {tx : Nat → Int32} {sz : Int32} {pl ln : Nat → Int32} {w : T_Wd} {m : T_Mo} (h : RW tx sz pl ln w m) : (w.2.2.2.2.2.2.2.2.2.2.1 = 129 ↔ (m.1.1.1.2.2.2 = 2000 ∧ m.1.1.2.2.2.2 = 0)) ∧ (w.2.2.2.2.2.2.2.2.2.2.1 = 129 → m.1.1.2.2.2.1 = w.2.2.2.2.2.2.2.2.2.2.2.2.2 ∧ 0 ≤ w.2.2.2.2.2.2.2.2.2.2.2.2.2.toInt) := by
  have z := Z_2000 (RW_z h)
  rcases h.2.2.2.2.2.2.2.2.2 with ⟨q, q2⟩ | ⟨q, -, -⟩
  · rw [q, q2]
    exact ⟨⟨fun z => absurd z (by decide), fun z => absurd z.1 (by decide)⟩, fun z => absurd z (by decide)⟩
  · rcases q with ⟨q, q2⟩ | ⟨q, q2, q3, q4, q5, -⟩ | ⟨q, q2, q3, -⟩ | ⟨q, -⟩
    · have n1 : ¬ w.2.2.2.2.2.2.2.2.2.2.1 = 129 := fun e => by rw [e] at q; exact absurd (sg_b q) (by decide)
      have n2 : ¬ w.2.2.2.2.2.2.2.2.2.2.1 = 130 := fun e => by rw [e] at q; exact absurd (sg_b q) (by decide)
      exact ⟨⟨fun e => absurd e n1, fun e => ((z.mp e.1).elim n1 n2).elim⟩, fun e => absurd e n1⟩
    · exact ⟨⟨fun _ => ⟨q2, q3⟩, fun _ => q⟩, fun _ => ⟨q4, q5⟩⟩
    · have n1 : ¬ w.2.2.2.2.2.2.2.2.2.2.1 = 129 := by rw [q]; decide
      refine ⟨⟨fun e => absurd e n1, fun e => ?_⟩, fun e => absurd e n1⟩
      rw [q3] at e; exact absurd e.2 (by decide)
    · have b := (KP_b (KP_all (wo m))).1
      rw [← q] at b
      have n1 : ¬ w.2.2.2.2.2.2.2.2.2.2.1 = 129 := fun e => by rw [e] at b; exact absurd b (by decide)
      have n2 : ¬ w.2.2.2.2.2.2.2.2.2.2.1 = 130 := fun e => by rw [e] at b; exact absurd b (by decide)
      exact ⟨⟨fun e => absurd e n1, fun e => ((z.mp e.1).elim n1 n2).elim⟩, fun e => absurd e n1⟩
theorem par_fail {d' : Nat} {bM : T_Mo → (Int32 → T_Mo → Prop) → Prop} {PM : Int32 → T_Mo → Prop} {m : T_Mo} {x1 x2 x3 x4 x5 : Int32} (h : wp_Mo_statement_J283 d' bM PM m x1 x2 x3 x4 x5) : PM (-1) m := by
  unfold wp_Mo_statement_J283 wp_Mo_statement_J284 at h
  obtain ⟨k, h⟩ := h
  cases k with
  | zero => exact False.elim h
  | succ k =>
  rw [wp_Mo_statement_L286] at h
  replace h := h.1 rfl
  unfold wp_Mo_statement_J587 at h
  exact h.1 rfl
def PEND (PC : Unit → T_Gr × T_Nm × T_Nd × T_Wd → Prop) (PT : T_Gr × T_Nm × T_Nd × T_Wd → Prop) (r1 row : Int32) (u : T_Gr × T_Nm × T_Nd × T_Wd) : Prop := wp_Nd_endsWithSemicolon (14 : Int32) (fun (r42 : Int32) (u42 : Unit) => (r42 = 0 → (wp_Nd_add u.2.2.1 (14 : Int32) r1 row ((0 : Int32).toInt64) (0 : Int32) (fun (r43 : Int32) (u43 : T_Nd) => PC () (u.1, u.2.1, u43, u.2.2.2)))) ∧ (¬ r42 = 0 → (wp_Gr_take u.1 u.2.2.1 u.2.2.2 (59 : Int32) (fun (r44 : Unit) (u44 : T_Gr × T_Wd) => wp_Nd_add u.2.2.1 (14 : Int32) r1 row ((0 : Int32).toInt64) (0 : Int32) (fun (r45 : Int32) (u45 : T_Nd) => PC () (u44.1, u.2.1, u45, u44.2))) (fun (u9 : T_Gr × T_Wd) => PT (u9.1, u.2.1, u.2.2.1, u9.2)))))
theorem dm_par {d : Nat} {bC : T_Gr → T_Nm → T_Nd → T_Wd → Int32 → (Unit → T_Gr × T_Nm × T_Nd × T_Wd → Prop) → (T_Gr × T_Nm × T_Nd × T_Wd → Prop) → Prop} (rdb : RDB bC) {n : Nat} {g : T_Gr} {nm : T_Nm} {nd : T_Nd} {w : T_Wd} {x1 op x3 r1 row : Int32} {PC : Unit → T_Gr × T_Nm × T_Nd × T_Wd → Prop} {PT : T_Gr × T_Nm × T_Nd × T_Wd → Prop} (d9 : DM nd w) (h : wp_Gr_readBranches_L96 d bC (fun (z : T_Gr) (nm : T_Nm) (nd : T_Nd) (w : T_Wd) (x1 : Int32) (x2 : Int32) (x3 : Int32) => PEND PC PT r1 row (z, nm, nd, w)) (fun (r : Unit) (u : T_Gr × T_Nm × T_Nd × T_Wd) => PEND PC PT r1 row u) (fun (u : T_Gr × T_Nm × T_Nd × T_Wd) => PT (u.1, u.2.1, u.2.2.1, u.2.2.2)) n g nm nd w x1 op x3) : (∃ u, PT u) ∨ (∃ g' nm' nd' w', PC () (g', nm', nd', w') ∧ DM nd' w') := by
  cases n with
  | zero => exact False.elim h
  | succ n =>
  rw [wp_Gr_readBranches_L96] at h
  have fin : PEND PC PT r1 row (g, nm, nd, w) → (∃ u, PT u) ∨ (∃ g' nm' nd' w', PC () (g', nm', nd', w') ∧ DM nd' w') := by
    intro h
    unfold PEND wp_Nd_endsWithSemicolon at h
    replace h := (((h.2 (by decide)).2 (by decide)).1 (by decide)).1 rfl
    obtain ⟨r, nd', h, k⟩ := dm_add h
    exact Or.inr ⟨g, nm, nd', w, h, d9.elim Or.inl (fun q => Or.inr (k q))⟩
  rcases br_el h with ⟨q, h⟩ | ⟨q, h⟩
  · exact fin h
  · rcases br_el h with ⟨q, h⟩ | ⟨q, h⟩
    · obtain ⟨u, h⟩ := rdb _ _ _ _ _ _ _ d9 h
      exact Or.inl ⟨_, h⟩
    · exact fin h
set_option maxHeartbeats 2000000 in
theorem rl_par {tx : Nat → Int32} {sz : Int32} {pl ln : Nat → Int32} {d d' : Nat} {bC : T_Gr → T_Nm → T_Nd → T_Wd → Int32 → (Unit → T_Gr × T_Nm × T_Nd × T_Wd → Prop) → (T_Gr × T_Nm × T_Nd × T_Wd → Prop) → Prop} {bM : T_Mo → (Int32 → T_Mo → Prop) → Prop} (rb : RB tx sz pl ln 23 bC bM) (rdb : RDB bC) {nm0 : T_Nm} {nd0 : T_Nd} {w0 : T_Wd} {m0 : T_Mo} {n0 km0 hi tp c : Nat} {op row : Int32} {PC : Unit → T_Gr × T_Nm × T_Nd × T_Wd → Prop} {PT : T_Gr × T_Nm × T_Nd × T_Wd → Prop} {PM : Int32 → T_Mo → Prop} (rg : RG tx sz pl ln nm0 nd0 w0 m0 n0 km0 hi tp c) (s0 : km0 + hi + tp ≤ n0) (eo : m0.1.2.1.1.2 = op) (o0 : (0 : Int32) ≤ op) (o9 : op ≤ 60) : ∀ (kC kM : Nat) (g : T_Gr) (nm : T_Nm) (nd : T_Nd) (w : T_Wd) (m : T_Mo) (n km : Nat) (asc : List Nat) (x3 : Int32), wp_Gr_readBranches_L96 d bC (fun (z : T_Gr) (nm : T_Nm) (nd : T_Nd) (w : T_Wd) (x1 : Int32) (x2 : Int32) (x3 : Int32) => PEND PC PT (Int32.ofNat n0) row (z, nm, nd, w)) (fun (r : Unit) (u : T_Gr × T_Nm × T_Nd × T_Wd) => PEND PC PT (Int32.ofNat n0) row u) (fun (u : T_Gr × T_Nm × T_Nd × T_Wd) => PT (u.1, u.2.1, u.2.2.1, u.2.2.2)) kC g nm nd w (14 : Int32) op x3 → wp_Mo_statement_L286 d' bM (fun (z : T_Mo) (x1 : Int32) (x2 : Int32) (x3 : Int32) (x4 : Int32) (x5 : Int32) => wp_Mo_statement_J587 d' bM PM z x1 x2 x3 x4 x5) PM kM m (14 : Int32) row (Int32.ofNat hi) (0 : Int32) (1 : Int32) → SS tx sz pl ln nd0 m0 n0 km0 hi tp c nm nd w m n km asc → m.1.2.1.1.2 = op → w0.2.2.2.2.2.2.2.1 < w.2.2.2.2.2.2.2.1 → (0 : Int32) ≤ x3 → x3 ≤ w.2.2.2.2.2.2.2.1 → OT 22 tx sz pl ln PC PT PM nd0 w0 m0 n0 km0 hi tp c := by
  intro kC
  induction kC with
  | zero => intro kM g nm nd w m n km asc x3 h; exact False.elim h
  | succ kC ih =>
    intro kM g nm nd w m n km asc x3 hC hM s eo1 cw x0 xc
    cases kM with
    | zero => exact False.elim hM
    | succ kM =>
    rw [wp_Gr_readBranches_L96] at hC
    rw [wp_Mo_statement_L286] at hM
    replace hM := hM.2 (by decide)
    have t := RW_sg s.1.1 (x := 123) (by unfold sg; decide)
    have fin : PEND PC PT (Int32.ofNat n0) row (g, nm, nd, w) → ¬ w.2.2.2.2.2.2.2.2.2.2.1 = 123 → OT 22 tx sz pl ln PC PT PM nd0 w0 m0 n0 km0 hi tp c := by
      intro hC q
      replace hM := hM.2 (fun z => q (t.mpr z))
      unfold wp_Mo_statement_J587 at hM
      unfold PEND wp_Nd_endsWithSemicolon at hC
      replace hC := (((hC.2 (by decide)).2 (by decide)).1 (by decide)).1 rfl
      exact st_node rg (show SS tx sz pl ln nd0 m0 n0 km0 hi tp c nm nd w (((((m.1.1.1.1.1, m.1.1.1.1.2), (m.1.1.1.2.1, (m.1.1.1.2.2.1, m.1.1.1.2.2.2))), ((m.1.1.2.1.1, m.1.1.2.1.2), (m.1.1.2.2.1, (m.1.1.2.2.2.1, m.1.1.2.2.2.2)))), (((m.1.2.1.1.1, m.1.2.1.1.2), (m.1.2.1.2.1, (m.1.2.1.2.2.1, m.1.2.1.2.2.2))), ((m.1.2.2.1.1, (m.1.2.2.1.2.1, m.1.2.2.1.2.2)), (m.1.2.2.2.1, (m.1.2.2.2.2.1, m.1.2.2.2.2.2))))), ((((m.2.1.1.1.1, m.2.1.1.1.2), (m.2.1.1.2.1, (m.2.1.1.2.2.1, m.2.1.1.2.2.2))), ((m.2.1.2.1.1, m.2.1.2.1.2), (m.2.1.2.2.1, (m.2.1.2.2.2.1, m.2.1.2.2.2.2)))), (((m.2.2.1.1.1, m.2.2.1.1.2), (m.2.2.1.2.1, (m.2.2.1.2.2.1, m.2.2.1.2.2.2))), ((m.2.2.2.1.1, (m.2.2.2.1.2.1, m.2.2.2.1.2.2)), (m.2.2.2.2.1, (m.2.2.2.2.2.1, (m.2.2.2.2.2.2 + (1 : Int32)))))))) n km asc from s) (eo1.trans eo.symm) cw (by decide) (by decide) hC (hM.2 (by decide))
    by_cases e : w.2.2.2.2.2.2.2.2.2.2.1 = 123
    · have nx : ¬ (4000 : Int32) ≤ x3 := fun q => absurd (Int32.le_trans q xc) (Int32.not_le.mpr (op_next s.1.1 (by rw [e]; decide)))
      replace hC := (hC.2 nx).1 e
      replace hM := hM.1 (t.mp e)
      rcases rl_pushed s s0 (rb _ _ _ _ _ _ _ _ _ _ _ _ _ _ s.1 eo1 o0 o9 hC hM) with ⟨g2, nm2, nd2, w2, m2, n2, km2, hC, hM, s2, em2, cw2⟩ | ⟨u, m2, hC, hM, fo2⟩ | ⟨g2, nm2, nd2, w2, m2, hC, d2, hM, fo2⟩
      · have xs := x_up x0 xc cw2 (cur9 s2.1.1).1
        exact ih kM _ _ _ _ _ _ _ _ _ hC hM s2 (em2.trans eo1) (Int32.lt_trans cw cw2) xs.1 xs.2
      · have hM2 : PM (-1) m2 := par_fail (x5 := 0) (by unfold wp_Mo_statement_J283 wp_Mo_statement_J284; exact ⟨kM, hM⟩)
        exact Or.inr (Or.inl ⟨_, -1, m2, hC, hM2, by decide, fo2⟩)
      · have hM2 : PM (-1) m2 := par_fail (x5 := 0) (by unfold wp_Mo_statement_J283 wp_Mo_statement_J284; exact ⟨kM, hM⟩)
        rcases dm_par rdb d2 hC with ⟨u, hC⟩ | ⟨g9, nm9, nd9, w9, hC, d9⟩
        · exact Or.inr (Or.inl ⟨_, -1, m2, hC, hM2, by decide, fo2⟩)
        · exact Or.inr (Or.inr ⟨g9, nm9, nd9, w9, -1, m2, hC, d9, hM2, by decide, fo2⟩)
    · by_cases q : (4000 : Int32) ≤ x3
      · exact fin (hC.1 q) e
      · exact fin ((hC.2 q).2 e) e
set_option maxHeartbeats 8000000 in
theorem rl_statement {tx : Nat → Int32} {sz : Int32} {pl ln : Nat → Int32} {d d' : Nat} {bC : T_Gr → T_Nm → T_Nd → T_Wd → Int32 → (Unit → T_Gr × T_Nm × T_Nd × T_Wd → Prop) → (T_Gr × T_Nm × T_Nd × T_Wd → Prop) → Prop} {bM : T_Mo → (Int32 → T_Mo → Prop) → Prop} (rb : RB tx sz pl ln 23 bC bM) (rdb : RDB bC) {g : T_Gr} {nm : T_Nm} {nd : T_Nd} {w : T_Wd} {op : Int32} {m : T_Mo} {PC : Unit → T_Gr × T_Nm × T_Nd × T_Wd → Prop} {PT : T_Gr × T_Nm × T_Nd × T_Wd → Prop} {PM : Int32 → T_Mo → Prop} {n km hi tp c : Nat} (rg : RG tx sz pl ln nm nd w m n km hi tp c) (cs : (200 : Int32) ≤ w.2.2.2.2.2.2.2.2.2.2.1 ∧ w.2.2.2.2.2.2.2.2.2.2.1 ≤ 212) (eo : m.1.2.1.1.2 = op) (o0 : (0 : Int32) ≤ op) (o9 : op ≤ 60) (hC : wp_Gr_readStatement d bC g nm nd w op PC PT) (hM : wp_Mo_statement d' bM m PM) : OT 22 tx sz pl ln PC PT PM nd w m n km hi tp c := by
  have rw1 := rg.1
  have n9 := NR_cnt rg.2.1
  have en : nd.2.2.2.2.2.2.2.2.2.2.1 = Int32.ofNat n := rg.2.1.2.1
  have row : m.1.1.2.2.1 = w.2.2.2.2.2.2.2.2.2.2.2.2.1 := rw1.2.2.2.2.2.2.2.2.1
  have s0 := rg.2.2.2.2.2.2
  have hdt := dt_Mo_factor d'
  have re := rl_factor (tx := tx) (sz := sz) (pl := pl) (ln := ln) d d'
  have rd := rd_factor d
  have tz : m.1.1.1.2.2.2 = w.2.2.2.2.2.2.2.2.2.2.1 + 810 := by
    rcases Z_st (RW_z rw1) with ⟨-, -, q⟩ | ⟨q, -⟩
    · exact q
    · exact absurd cs q
  have kof := K_of cs.1 cs.2
  unfold wp_Gr_readStatement wp_Nd_count at hC
  unfold wp_Mo_statement at hM
  rw [tz, kof.1, row] at hM
  rw [en] at hC
  obtain ⟨K0, K9, nz⟩ := kof.2
  generalize (w.2.2.2.2.2.2.2.2.2.2.1 - (200 : Int32)) + (10 : Int32) = K at hC hM K0 K9
  replace hM := (hM.2 (Int32.not_lt.mpr K0)).1 K9
  rcases rl_pass rw1 nz n9 hC hM with ⟨w1, m1, hC, hM, rw2, fr, cw⟩ | ⟨u, m1, hC, hM, fr⟩ | ⟨w1, m1, hC, hM, dd, fr⟩
  · have rg1 := RG_Fr rg rw2 fr
    have fp1 := FP_Fr (hi := 0) fr
    have cw1 := cur_up rw1 cw
    have eo1 : m1.1.2.1.1.2 = op := fp1.2.1.trans eo
    have rh1 : m1.2.2.1.2.2.2 = Int32.ofNat hi := rg1.2.2.2.2.1
    have s1 : SS tx sz pl ln nd m n km hi tp c nm nd w1 m1 n km [] := ⟨rg1, trivial, rfl, fun j _ => by rw [fr.2.2.2.2], fun _ _ => ⟨rfl, rfl, rfl⟩, fp1.2.2.1, FO_Fr fr, Nat.le_refl _, Nat.le_refl _, fp1.2.2.2.2.2⟩
    replace hM := hM.2 (by decide)
    rw [rh1] at hM
    dsimp only at hC
    rcases K_cases K0 K9 with rfl | rfl | rfl | rfl | rfl | rfl | rfl | rfl | rfl | rfl | rfl | rfl | rfl
    · replace hC := (hC.1) rfl
      replace hM := (hM.1) rfl
      unfold wp_Mo_statement_J120 at hM
      rcases rl_name rg1 (Or.inr (Or.inl ⟨rfl, rfl⟩)) hC hM with ⟨k, w2, m2, kc, hC, hM, rw3, fr2, cw2⟩ | ⟨u, r', m2, hC, hM, rn, fo2⟩ | ⟨k, w2, r', m2, kc, hC, dd, hM, rn, fo2⟩
      · have hn := rg1.2.2.1
        have c1 := hn.1
        have c9 := hn.2.1
        have on1 := on_n1 (k := k) (by omega)
        have rg2 := RG_Fr rg1 rw3 fr2
        have hn2 := rg2.2.2.1.2.2.1 k kc
        replace hC := iv_use hC c1 kc c9
        replace hC := iv_measN (c := c) hC c1 kc c9
        have na := Ns_at rg2.2.1.1 (x := Int32.ofNat k) rfl (by omega)
        replace hM := (hM.2 on1.2.1).2
        rw [na.1, ← hn2.2.2.2.2.2.1] at hM
        have s2 : SS tx sz pl ln nd m n km hi tp c (nm.1, nm.2.1, nm.2.2.1, (upd nm.2.2.2.1 k (vp_nar .boolean (1 : Int32))), nm.2.2.2.2) nd w2 m2 n km [] := SS_Fr s1 rw3 fr2
        have eo2 : m2.1.2.1.1.2 = op := (FP_Fr (hi := 0) fr2).2.1.trans eo1
        have cw2' := Int32.lt_trans cw1 (cur_up rw2 cw2)
        rcases rl_sumOf hdt re rd s2 s0 eo2 o0 o9 hC hM with ⟨g3, nm3, nd3, w3, m3, n3, km3, hC, hM, s3, em3, cw3⟩ | ⟨u, m3, hC, hM, fo3⟩ | ⟨g3, nm3, nd3, w3, m3, hC, d3, hM, fo3⟩
        · replace hC := hC.2 (by decide)
          replace hM := (hM.2 (by decide)).1 rfl
          unfold wp_Nd_endsWithSemicolon at hC
          replace hC := ((hC.2 (by decide)).1 (by decide)).2 (by decide)
          unfold wp_Mo_statement_J181 wp_Mo_statement_J194 wp_Mo_statement_J195 wp_Mo_statement_J587 at hM
          exact st_semi rg s3 ((em3.trans eo2).trans eo.symm) (Int32.lt_trans cw2' cw3) (by decide) (by decide) hC hM (fun u q => (q.1 rfl).1 rfl) (fun u q => (q.2 (by decide)).2 (by decide))
        · replace hM := hM.1 rfl
          unfold wp_Mo_statement_J194 wp_Mo_statement_J195 wp_Mo_statement_J587 at hM
          replace hM := hM.1 rfl
          exact Or.inr (Or.inl ⟨_, -1, m3, hC, hM, by decide, fo3⟩)
        · replace hC := hC.2 (by decide)
          unfold wp_Nd_endsWithSemicolon at hC
          replace hC := ((hC.2 (by decide)).1 (by decide)).2 (by decide)
          obtain ⟨u, hC⟩ := dm_take d3 (by unfold dead sg; decide) hC
          replace hM := hM.1 rfl
          unfold wp_Mo_statement_J194 wp_Mo_statement_J195 wp_Mo_statement_J587 at hM
          replace hM := hM.1 rfl
          exact Or.inr (Or.inl ⟨_, -1, m3, hC, hM, by decide, fo3⟩)
      · replace hM := hM.1 rn
        unfold wp_Mo_statement_J194 wp_Mo_statement_J195 wp_Mo_statement_J587 at hM
        replace hM := hM.1 rfl
        exact Or.inr (Or.inl ⟨_, -1, m2, hC, hM, by decide, FO_trans (FO_Fr fr) fo2⟩)
      · replace hM := hM.1 rn
        unfold wp_Mo_statement_J194 wp_Mo_statement_J195 wp_Mo_statement_J587 at hM
        replace hM := hM.1 rfl
        have c1 := rg1.2.2.1.1
        have c9 := rg1.2.2.1.2.1
        replace hC := iv_use hC c1 kc c9
        replace hC := iv_measN (c := c) hC c1 kc c9
        obtain ⟨u, hC⟩ := rd_sumOf rd (Or.inl dd) hC
        exact Or.inr (Or.inl ⟨_, -1, m2, hC, hM, by decide, FO_trans (FO_Fr fr) fo2⟩)
    · replace hC := (hC.2.1) rfl
      replace hM := (hM.2.1) rfl
      rcases rl_sumOf hdt re rd s1 s0 eo1 o0 o9 hC hM with ⟨g3, nm3, nd3, w3, m3, n3, km3, hC, hM, s3, em3, cw3⟩ | ⟨u, m3, hC, hM, fo3⟩ | ⟨g3, nm3, nd3, w3, m3, hC, d3, hM, fo3⟩
      · replace hM := hM.2 (by decide)
        unfold wp_Nd_endsWithSemicolon at hC
        replace hC := ((hC.2 (by decide)).1 (by decide)).2 (by decide)
        unfold wp_Mo_statement_J221 wp_Mo_statement_J222 wp_Mo_statement_J587 at hM
        exact st_semi rg s3 ((em3.trans eo1).trans eo.symm) (Int32.lt_trans cw1 cw3) (by decide) (by decide) hC hM (fun u q => (q.1 rfl).1 rfl) (fun u q => (q.2 (by decide)).2 (by decide))
      · replace hM := hM.1 rfl
        unfold wp_Mo_statement_J221 wp_Mo_statement_J222 wp_Mo_statement_J587 at hM
        replace hM := hM.1 rfl
        exact Or.inr (Or.inl ⟨_, -1, m3, hC, hM, by decide, fo3⟩)
      · unfold wp_Nd_endsWithSemicolon at hC
        replace hC := ((hC.2 (by decide)).1 (by decide)).2 (by decide)
        obtain ⟨u, hC⟩ := dm_take d3 (by unfold dead sg; decide) hC
        replace hM := hM.1 rfl
        unfold wp_Mo_statement_J221 wp_Mo_statement_J222 wp_Mo_statement_J587 at hM
        replace hM := hM.1 rfl
        exact Or.inr (Or.inl ⟨_, -1, m3, hC, hM, by decide, fo3⟩)
    · replace hC := (hC.2.2.1) rfl
      replace hM := (hM.2.2.1) rfl
      rcases rl_pushed s1 s0 (rl_test hdt re rd rg1 eo1 o0 o9 hC hM) with ⟨g3, nm3, nd3, w3, m3, n3, km3, hC, hM, s3, em3, cw3⟩ | ⟨u, m3, hC, hM, fo3⟩ | ⟨g3, nm3, nd3, w3, m3, hC, d3, hM, fo3⟩
      · replace hM := hM.2 (by decide)
        unfold wp_Nd_endsWithSemicolon at hC
        replace hC := ((hC.2 (by decide)).1 (by decide)).2 (by decide)
        unfold wp_Mo_statement_J251 wp_Mo_statement_J252 wp_Mo_statement_J587 at hM
        exact st_semi rg s3 ((em3.trans eo1).trans eo.symm) (Int32.lt_trans cw1 cw3) (by decide) (by decide) hC hM (fun u q => (q.1 rfl).1 rfl) (fun u q => (q.2 (by decide)).2 (by decide))
      · replace hM := hM.1 rfl
        unfold wp_Mo_statement_J251 wp_Mo_statement_J252 wp_Mo_statement_J587 at hM
        replace hM := hM.1 rfl
        exact Or.inr (Or.inl ⟨_, -1, m3, hC, hM, by decide, fo3⟩)
      · unfold wp_Nd_endsWithSemicolon at hC
        replace hC := ((hC.2 (by decide)).1 (by decide)).2 (by decide)
        obtain ⟨u, hC⟩ := dm_take d3 (by unfold dead sg; decide) hC
        replace hM := hM.1 rfl
        unfold wp_Mo_statement_J251 wp_Mo_statement_J252 wp_Mo_statement_J587 at hM
        replace hM := hM.1 rfl
        exact Or.inr (Or.inl ⟨_, -1, m3, hC, hM, by decide, fo3⟩)
    · replace hC := (hC.2.2.2.1) rfl
      replace hM := (hM.2.2.2.1) rfl
      unfold wp_Mo_statement_J120 at hM
      rcases rl_name rg1 (Or.inr (Or.inl ⟨rfl, rfl⟩)) hC hM with ⟨k, w2, m2, kc, hC, hM, rw3, fr2, cw2⟩ | ⟨u, r', m2, hC, hM, rn, fo2⟩ | ⟨k, w2, r', m2, kc, hC, dd, hM, rn, fo2⟩
      · have hn := rg1.2.2.1
        have c1 := hn.1
        have c9 := hn.2.1
        have on1 := on_n1 (k := k) (by omega)
        have rg2 := RG_Fr rg1 rw3 fr2
        have hn2 := rg2.2.2.1.2.2.1 k kc
        replace hC := iv_use hC c1 kc c9
        replace hC := iv_measN (c := c) hC c1 kc c9
        have na := Ns_at rg2.2.1.1 (x := Int32.ofNat k) rfl (by omega)
        replace hM := (hM.2 on1.2.1).2
        rw [na.1, ← hn2.2.2.2.2.2.1] at hM
        have s2 : SS tx sz pl ln nd m n km hi tp c (nm.1, nm.2.1, nm.2.2.1, (upd nm.2.2.2.1 k (vp_nar .boolean (1 : Int32))), nm.2.2.2.2) nd w2 m2 n km [] := SS_Fr s1 rw3 fr2
        have eo2 : m2.1.2.1.1.2 = op := (FP_Fr (hi := 0) fr2).2.1.trans eo1
        have cw2' := Int32.lt_trans cw1 (cur_up rw2 cw2)
        rcases rl_sumOf hdt re rd s2 s0 eo2 o0 o9 hC hM with ⟨g3, nm3, nd3, w3, m3, n3, km3, hC, hM, s3, em3, cw3⟩ | ⟨u, m3, hC, hM, fo3⟩ | ⟨g3, nm3, nd3, w3, m3, hC, d3, hM, fo3⟩
        · replace hC := hC.1 rfl
          replace hM := (hM.2 (by decide)).2 (by decide)
          have z3 : w3.2.2.2.2.2.2.2.2.2.2.1 = 216 ↔ m3.1.1.1.2.2.2 = 1032 := Z_eq (RW_z s3.1.1) (by decide) (by decide) (by decide)
          have fo3 := s3.2.2.2.2.2.2.1
          try dsimp only at hC
          rcases rl_take s3.1.1 z3 (by decide) (NR_cnt s3.1.2.1) hC hM with ⟨w4, m4, hC, hM, rw5, fr4, cw4⟩ | ⟨u, m4, hC, hM, fr4⟩ | ⟨w4, m4, hC, hM, dd, fr4⟩
          · have s4 := SS_Fr s3 rw5 fr4
            have eo4 : m4.1.2.1.1.2 = op := (FP_Fr (hi := 0) fr4).2.1.trans (em3.trans eo2)
            have cw4' := cur_up s3.1.1 cw4
            rcases rl_sumOf hdt re rd s4 s0 eo4 o0 o9 hC (hM.2 (by decide)) with ⟨g5, nm5, nd5, w5, m5, n5, km5, hC, hM, s5, em5, cw5⟩ | ⟨u, m5, hC, hM, fo5⟩ | ⟨g5, nm5, nd5, w5, m5, hC, d5, hM, fo5⟩
            · replace hM := hM.2 (by decide)
              unfold wp_Nd_endsWithSemicolon at hC
              replace hC := ((hC.2 (by decide)).1 (by decide)).2 (by decide)
              unfold wp_Mo_statement_J181 wp_Mo_statement_J194 wp_Mo_statement_J195 wp_Mo_statement_J587 at hM
              exact st_semi rg s5 ((em5.trans eo4).trans eo.symm) (Int32.lt_trans cw2' (Int32.lt_trans cw3 (Int32.lt_trans cw4' cw5))) (by decide) (by decide) hC hM (fun u q => (q.1 rfl).1 rfl) (fun u q => (q.2 (by decide)).2 (by decide))
            · replace hM := hM.1 rfl
              unfold wp_Mo_statement_J194 wp_Mo_statement_J195 wp_Mo_statement_J587 at hM
              replace hM := hM.1 rfl
              exact Or.inr (Or.inl ⟨_, -1, m5, hC, hM, by decide, fo5⟩)
            · unfold wp_Nd_endsWithSemicolon at hC
              replace hC := ((hC.2 (by decide)).1 (by decide)).2 (by decide)
              obtain ⟨u, hC⟩ := dm_take d5 (by unfold dead sg; decide) hC
              replace hM := hM.1 rfl
              unfold wp_Mo_statement_J194 wp_Mo_statement_J195 wp_Mo_statement_J587 at hM
              replace hM := hM.1 rfl
              exact Or.inr (Or.inl ⟨_, -1, m5, hC, hM, by decide, fo5⟩)
          · replace hM := hM.1 rfl
            unfold wp_Mo_statement_J194 wp_Mo_statement_J195 wp_Mo_statement_J587 at hM
            replace hM := hM.1 rfl
            exact Or.inr (Or.inl ⟨_, -1, m4, hC, hM, by decide, FO_trans fo3 (FO_Fr fr4)⟩)
          · obtain ⟨u, hC⟩ := rd_sumOf rd (Or.inl dd) hC
            replace hM := hM.1 rfl
            unfold wp_Mo_statement_J194 wp_Mo_statement_J195 wp_Mo_statement_J587 at hM
            replace hM := hM.1 rfl
            exact Or.inr (Or.inl ⟨_, -1, m4, hC, hM, by decide, FO_trans fo3 (FO_Fr fr4)⟩)
        · replace hM := hM.1 rfl
          unfold wp_Mo_statement_J194 wp_Mo_statement_J195 wp_Mo_statement_J587 at hM
          replace hM := hM.1 rfl
          exact Or.inr (Or.inl ⟨_, -1, m3, hC, hM, by decide, fo3⟩)
        · replace hC := hC.1 rfl
          obtain ⟨u, hC⟩ := dm_take d3 (by unfold dead sg; decide) hC
          replace hM := hM.1 rfl
          unfold wp_Mo_statement_J194 wp_Mo_statement_J195 wp_Mo_statement_J587 at hM
          replace hM := hM.1 rfl
          exact Or.inr (Or.inl ⟨_, -1, m3, hC, hM, by decide, fo3⟩)
      · replace hM := hM.1 rn
        unfold wp_Mo_statement_J194 wp_Mo_statement_J195 wp_Mo_statement_J587 at hM
        replace hM := hM.1 rfl
        exact Or.inr (Or.inl ⟨_, -1, m2, hC, hM, by decide, FO_trans (FO_Fr fr) fo2⟩)
      · replace hM := hM.1 rn
        unfold wp_Mo_statement_J194 wp_Mo_statement_J195 wp_Mo_statement_J587 at hM
        replace hM := hM.1 rfl
        have c1 := rg1.2.2.1.1
        have c9 := rg1.2.2.1.2.1
        replace hC := iv_use hC c1 kc c9
        replace hC := iv_measN (c := c) hC c1 kc c9
        obtain ⟨u, hC⟩ := rd_sumOf rd (Or.inl dd) hC
        exact Or.inr (Or.inl ⟨_, -1, m2, hC, hM, by decide, FO_trans (FO_Fr fr) fo2⟩)
    · replace hC := (hC.2.2.2.2.1) rfl
      replace hM := (hM.2.2.2.2.1) rfl
      unfold wp_Gr_readBranches at hC
      replace hC := (hC.2 (by decide)).1 rfl
      have cx1 := cw1
      rcases rl_pushed s1 s0 (rb _ _ _ _ _ _ _ _ _ _ _ _ _ _ s1.1 eo1 o0 o9 hC hM) with ⟨g3, nm3, nd3, w3, m3, n3, km3, hC, hM, s3, em3, cw3⟩ | ⟨u, m3, hC, hM, fo3⟩ | ⟨g3, nm3, nd3, w3, m3, hC, d3, hM, fo3⟩
      · replace hM := hM.2 (by decide)
        have eo3 : m3.1.2.1.1.2 = op := em3.trans eo1
        have cx3 := Int32.lt_trans cx1 cw3
        replace hC := ((hC.2 (by decide)).2 (by decide)).1 rfl
        try dsimp only at hC
        rcases rl_pushed s3 s0 (rb _ _ _ _ _ _ _ _ _ _ _ _ _ _ s3.1 eo3 o0 o9 hC hM) with ⟨g4, nm4, nd4, w4, m4, n4, km4, hC, hM, s4, em4, cw4⟩ | ⟨u, m4, hC, hM, fo4⟩ | ⟨g4, nm4, nd4, w4, m4, hC, d4, hM, fo4⟩
        · have eo4 : m4.1.2.1.1.2 = op := em4.trans eo3
          have cx4 := Int32.lt_trans cx3 cw4
          replace hM := hM.2 (by decide)
          unfold wp_Mo_statement_J284 at hM
          obtain ⟨kC, hC⟩ := hC
          obtain ⟨kM, hM⟩ := hM
          exact rl_par rb rdb rg s0 eo o0 o9 kC kM _ _ _ _ _ _ _ _ _ hC hM s4 eo4 cx4 (by decide) (cur9 s4.1.1).2
        · replace hM := hM.1 rfl
          replace hM := par_fail hM
          exact Or.inr (Or.inl ⟨_, -1, m4, hC, hM, by decide, fo4⟩)
        · replace hM := hM.1 rfl
          replace hM := par_fail hM
          obtain ⟨kC, hC⟩ := hC
          rcases dm_par rdb d4 hC with ⟨u, hC⟩ | ⟨g9, nm9, nd9, w9, hC, d9⟩
          · exact Or.inr (Or.inl ⟨_, -1, m4, hC, hM, by decide, fo4⟩)
          · exact Or.inr (Or.inr ⟨g9, nm9, nd9, w9, -1, m4, hC, d9, hM, by decide, fo4⟩)
      · replace hM := hM.1 rfl
        replace hM := par_fail hM
        exact Or.inr (Or.inl ⟨_, -1, m3, hC, hM, by decide, fo3⟩)
      · replace hC := ((hC.2 (by decide)).2 (by decide)).1 rfl
        obtain ⟨u, hC⟩ := rdb _ _ _ _ _ _ _ d3 hC
        replace hM := hM.1 rfl
        replace hM := par_fail hM
        exact Or.inr (Or.inl ⟨_, -1, m3, hC, hM, by decide, fo3⟩)
    · replace hC := (hC.2.2.2.2.2.1) rfl
      replace hM := (hM.2.2.2.2.2.1) rfl
      unfold wp_Gr_readBranches at hC
      replace hC := (hC.2 (by decide)).2 (by decide)
      have cx1 := cw1
      rcases rl_pushed s1 s0 (rl_test hdt re rd rg1 eo1 o0 o9 hC hM) with ⟨g3, nm3, nd3, w3, m3, n3, km3, hC, hM, s3, em3, cw3⟩ | ⟨u, m3, hC, hM, fo3⟩ | ⟨g3, nm3, nd3, w3, m3, hC, d3, hM, fo3⟩
      · replace hM := hM.2 (by decide)
        have eo3 : m3.1.2.1.1.2 = op := em3.trans eo1
        have cx3 := Int32.lt_trans cx1 cw3
        try dsimp only at hC
        rcases rl_pushed s3 s0 (rb _ _ _ _ _ _ _ _ _ _ _ _ _ _ s3.1 eo3 o0 o9 hC hM) with ⟨g4, nm4, nd4, w4, m4, n4, km4, hC, hM, s4, em4, cw4⟩ | ⟨u, m4, hC, hM, fo4⟩ | ⟨g4, nm4, nd4, w4, m4, hC, d4, hM, fo4⟩
        · have eo4 : m4.1.2.1.1.2 = op := em4.trans eo3
          have cx4 := Int32.lt_trans cx3 cw4
          replace hM := hM.2 (by decide)
          unfold wp_Mo_statement_J340 at hM
          replace hM := hM.2 (by decide)
          replace hC := (hC.2 (by decide)).1 rfl
          have z4 : w4.2.2.2.2.2.2.2.2.2.2.1 = 217 ↔ m4.1.1.1.2.2.2 = (1000 : Int32) + 33 := Z_eq (RW_z s4.1.1) (by decide) (by decide) (by decide)
          have fo4 := s4.2.2.2.2.2.2.1
          try dsimp only at hC
          rcases br_el hC with ⟨e, hC⟩ | ⟨e, hC⟩
          · rcases iv_isWord hM with ⟨-, hM⟩ | ⟨q, -⟩
            · rcases rl_pass s4.1.1 (by rw [e]; decide) (NR_cnt s4.1.2.1) hC (hM.2 (by decide)) with ⟨w5, m5, hC, hM, rw5, fr5, cw5⟩ | ⟨u, m5, hC, hM, fr5⟩ | ⟨w5, m5, hC, hM, dd, fr5⟩
              · have s5 := SS_Fr s4 rw5 fr5
                have eo5 : m5.1.2.1.1.2 = op := (FP_Fr (hi := 0) fr5).2.1.trans eo4
                have cx5 := Int32.lt_trans cx4 (cur_up s4.1.1 cw5)
                replace hM := hM.2 (by decide)
                rcases rl_pushed s5 s0 (rb _ _ _ _ _ _ _ _ _ _ _ _ _ _ s5.1 eo5 o0 o9 hC hM) with ⟨g6, nm6, nd6, w6, m6, n6, km6, hC, hM, s6, em6, cw6⟩ | ⟨u, m6, hC, hM, fo6⟩ | ⟨g6, nm6, nd6, w6, m6, hC, d6, hM, fo6⟩
                · have eo6 : m6.1.2.1.1.2 = op := em6.trans eo5
                  have cx6 := Int32.lt_trans cx5 cw6
                  replace hM := hM.2 (by decide)
                  unfold wp_Mo_statement_J379 wp_Mo_statement_J587 at hM
                  try dsimp only at hC
                  unfold wp_Nd_endsWithSemicolon at hC
                  replace hC := (((hC.2 (by decide)).2 (by decide)).1 (by decide)).1 rfl
                  exact st_node rg (show SS tx sz pl ln nd m n km hi tp c nm6 nd6 w6 (((((m6.1.1.1.1.1, m6.1.1.1.1.2), (m6.1.1.1.2.1, (m6.1.1.1.2.2.1, m6.1.1.1.2.2.2))), ((m6.1.1.2.1.1, m6.1.1.2.1.2), (m6.1.1.2.2.1, (m6.1.1.2.2.2.1, m6.1.1.2.2.2.2)))), (((m6.1.2.1.1.1, m6.1.2.1.1.2), (m6.1.2.1.2.1, (m6.1.2.1.2.2.1, m6.1.2.1.2.2.2))), ((m6.1.2.2.1.1, (m6.1.2.2.1.2.1, m6.1.2.2.1.2.2)), (m6.1.2.2.2.1, (m6.1.2.2.2.2.1, m6.1.2.2.2.2.2))))), ((((m6.2.1.1.1.1, m6.2.1.1.1.2), (m6.2.1.1.2.1, (m6.2.1.1.2.2.1, m6.2.1.1.2.2.2))), ((m6.2.1.2.1.1, m6.2.1.2.1.2), (m6.2.1.2.2.1, (m6.2.1.2.2.2.1, m6.2.1.2.2.2.2)))), (((m6.2.2.1.1.1, m6.2.2.1.1.2), (m6.2.2.1.2.1, (m6.2.2.1.2.2.1, m6.2.2.1.2.2.2))), ((m6.2.2.2.1.1, (m6.2.2.2.1.2.1, m6.2.2.2.1.2.2)), (m6.2.2.2.2.1, (m6.2.2.2.2.2.1, (m6.2.2.2.2.2.2 + (1 : Int32)))))))) (n6 + 1) km6 _ from s6) (eo6.trans eo.symm) cx6 (by decide) (by decide) hC (hM.2 (by decide))
                · replace hM := hM.1 rfl
                  unfold wp_Mo_statement_J378 wp_Mo_statement_J379 wp_Mo_statement_J587 at hM
                  replace hM := hM.1 rfl
                  exact Or.inr (Or.inl ⟨_, -1, m6, hC, hM, by decide, fo6⟩)
                · try dsimp only at hC
                  unfold wp_Nd_endsWithSemicolon at hC
                  replace hC := (((hC.2 (by decide)).2 (by decide)).1 (by decide)).1 rfl
                  obtain ⟨r, nd7, hC, k7⟩ := dm_add hC
                  replace hM := hM.1 rfl
                  unfold wp_Mo_statement_J378 wp_Mo_statement_J379 wp_Mo_statement_J587 at hM
                  exact Or.inr (Or.inr ⟨g6, nm6, nd7, w6, -1, m6, hC, d6.elim Or.inl (fun q => Or.inr (k7 q)), hM.1 rfl, by decide, fo6⟩)
              · replace hM := hM.1 rfl
                unfold wp_Mo_statement_J378 wp_Mo_statement_J379 wp_Mo_statement_J587 at hM
                replace hM := hM.1 rfl
                exact Or.inr (Or.inl ⟨_, -1, m5, hC, hM, by decide, FO_trans fo4 (FO_Fr fr5)⟩)
              · obtain ⟨u, hC⟩ := rdb _ _ _ _ _ _ _ (Or.inl dd) hC
                replace hM := hM.1 rfl
                unfold wp_Mo_statement_J378 wp_Mo_statement_J379 wp_Mo_statement_J587 at hM
                replace hM := hM.1 rfl
                exact Or.inr (Or.inl ⟨_, -1, m5, hC, hM, by decide, FO_trans fo4 (FO_Fr fr5)⟩)
            · exact absurd (z4.mp e) q
          · rcases iv_isWord hM with ⟨q, -⟩ | ⟨-, hM⟩
            · exact absurd (z4.mpr q) e
            · replace hM := hM.1 rfl
              unfold wp_Mo_statement_J587 at hM
              replace hC := hC.2 (by decide)
              try dsimp only at hC
              unfold wp_Nd_endsWithSemicolon at hC
              replace hC := (((hC.2 (by decide)).2 (by decide)).1 (by decide)).1 rfl
              exact st_node rg (show SS tx sz pl ln nd m n km hi tp c nm4 nd4 w4 (((((m4.1.1.1.1.1, m4.1.1.1.1.2), (m4.1.1.1.2.1, (m4.1.1.1.2.2.1, m4.1.1.1.2.2.2))), ((m4.1.1.2.1.1, m4.1.1.2.1.2), (m4.1.1.2.2.1, (m4.1.1.2.2.2.1, m4.1.1.2.2.2.2)))), (((m4.1.2.1.1.1, m4.1.2.1.1.2), (m4.1.2.1.2.1, (m4.1.2.1.2.2.1, m4.1.2.1.2.2.2))), ((m4.1.2.2.1.1, (m4.1.2.2.1.2.1, m4.1.2.2.1.2.2)), (m4.1.2.2.2.1, (m4.1.2.2.2.2.1, m4.1.2.2.2.2.2))))), ((((m4.2.1.1.1.1, m4.2.1.1.1.2), (m4.2.1.1.2.1, (m4.2.1.1.2.2.1, m4.2.1.1.2.2.2))), ((m4.2.1.2.1.1, m4.2.1.2.1.2), (m4.2.1.2.2.1, (m4.2.1.2.2.2.1, m4.2.1.2.2.2.2)))), (((m4.2.2.1.1.1, m4.2.2.1.1.2), (m4.2.2.1.2.1, (m4.2.2.1.2.2.1, m4.2.2.1.2.2.2))), ((m4.2.2.2.1.1, (m4.2.2.2.1.2.1, m4.2.2.2.1.2.2)), (m4.2.2.2.2.1, (m4.2.2.2.2.2.1, (m4.2.2.2.2.2.2 + (1 : Int32)))))))) (n4 + 1) km4 _ from s4) (eo4.trans eo.symm) cx4 (by decide) (by decide) hC (hM.2 (by decide))
        · replace hM := hM.1 rfl
          unfold wp_Mo_statement_J339 wp_Mo_statement_J340 wp_Mo_statement_J587 at hM
          replace hM := (hM.1 rfl).1 rfl
          exact Or.inr (Or.inl ⟨_, -1, m4, hC, hM, by decide, fo4⟩)
        · replace hM := hM.1 rfl
          unfold wp_Mo_statement_J339 wp_Mo_statement_J340 wp_Mo_statement_J587 at hM
          replace hM := (hM.1 rfl).1 rfl
          replace hC := (hC.2 (by decide)).1 rfl
          rcases br_el hC with ⟨e, hC⟩ | ⟨e, hC⟩
          · have big : (1000 : Int32) < nd4.2.2.2.2.2.2.2.2.2.2.1 := d4.elim (fun q => absurd (show (128 : Int32) ≤ w4.2.2.2.2.2.2.2.2.2.2.1 by have e : w4.2.2.2.2.2.2.2.2.2.2.1 = 217 := e; rw [e]; decide) (dead_n q).1) id
            obtain ⟨u, hC⟩ := dm_pass big hC
            exact Or.inr (Or.inl ⟨_, -1, m4, hC, hM, by decide, fo4⟩)
          · replace hC := hC.2 (by decide)
            try dsimp only at hC
            unfold wp_Nd_endsWithSemicolon at hC
            replace hC := (((hC.2 (by decide)).2 (by decide)).1 (by decide)).1 rfl
            obtain ⟨r, nd7, hC, k7⟩ := dm_add hC
            exact Or.inr (Or.inr ⟨g4, nm4, nd7, w4, -1, m4, hC, d4.elim Or.inl (fun q => Or.inr (k7 q)), hM, by decide, fo4⟩)
      · replace hM := hM.1 rfl
        unfold wp_Mo_statement_J339 wp_Mo_statement_J340 wp_Mo_statement_J587 at hM
        replace hM := (hM.1 rfl).1 rfl
        exact Or.inr (Or.inl ⟨_, -1, m3, hC, hM, by decide, fo3⟩)
      · obtain ⟨u, hC⟩ := rdb _ _ _ _ _ _ _ d3 hC
        replace hM := hM.1 rfl
        unfold wp_Mo_statement_J339 wp_Mo_statement_J340 wp_Mo_statement_J587 at hM
        replace hM := (hM.1 rfl).1 rfl
        exact Or.inr (Or.inl ⟨_, -1, m3, hC, hM, by decide, fo3⟩)
    · replace hC := (hC.2.2.2.2.2.2.1) rfl
      replace hM := (hM.2.2.2.2.2.2.1) rfl
      unfold wp_Gr_readBranches at hC
      replace hC := hC.1 rfl
      have cx1 := cw1
      rcases rl_sumOf hdt re rd s1 s0 eo1 o0 o9 hC hM with ⟨g3, nm3, nd3, w3, m3, n3, km3, hC, hM, s3, em3, cw3⟩ | ⟨u, m3, hC, hM, fo3⟩ | ⟨g3, nm3, nd3, w3, m3, hC, d3, hM, fo3⟩
      · replace hM := hM.2 (by decide)
        have eo3 : m3.1.2.1.1.2 = op := em3.trans eo1
        have cx3 := Int32.lt_trans cx1 cw3
        try dsimp only at hC
        rcases rl_pushed s3 s0 (rb _ _ _ _ _ _ _ _ _ _ _ _ _ _ s3.1 eo3 o0 o9 hC hM) with ⟨g4, nm4, nd4, w4, m4, n4, km4, hC, hM, s4, em4, cw4⟩ | ⟨u, m4, hC, hM, fo4⟩ | ⟨g4, nm4, nd4, w4, m4, hC, d4, hM, fo4⟩
        · have eo4 : m4.1.2.1.1.2 = op := em4.trans eo3
          have cx4 := Int32.lt_trans cx3 cw4
          replace hM := hM.2 (by decide)
          unfold wp_Mo_statement_J408 wp_Mo_statement_J587 at hM
          replace hC := ((hC.2 (by decide)).2 (by decide)).2 (by decide)
          try dsimp only at hC
          unfold wp_Nd_endsWithSemicolon at hC
          replace hC := (((hC.2 (by decide)).2 (by decide)).1 (by decide)).1 rfl
          exact st_node rg (show SS tx sz pl ln nd m n km hi tp c nm4 nd4 w4 (((((m4.1.1.1.1.1, m4.1.1.1.1.2), (m4.1.1.1.2.1, (m4.1.1.1.2.2.1, m4.1.1.1.2.2.2))), ((m4.1.1.2.1.1, m4.1.1.2.1.2), (m4.1.1.2.2.1, (m4.1.1.2.2.2.1, m4.1.1.2.2.2.2)))), (((m4.1.2.1.1.1, m4.1.2.1.1.2), (m4.1.2.1.2.1, (m4.1.2.1.2.2.1, m4.1.2.1.2.2.2))), ((m4.1.2.2.1.1, (m4.1.2.2.1.2.1, m4.1.2.2.1.2.2)), (m4.1.2.2.2.1, (m4.1.2.2.2.2.1, m4.1.2.2.2.2.2))))), ((((m4.2.1.1.1.1, m4.2.1.1.1.2), (m4.2.1.1.2.1, (m4.2.1.1.2.2.1, m4.2.1.1.2.2.2))), ((m4.2.1.2.1.1, m4.2.1.2.1.2), (m4.2.1.2.2.1, (m4.2.1.2.2.2.1, m4.2.1.2.2.2.2)))), (((m4.2.2.1.1.1, m4.2.2.1.1.2), (m4.2.2.1.2.1, (m4.2.2.1.2.2.1, m4.2.2.1.2.2.2))), ((m4.2.2.2.1.1, (m4.2.2.2.1.2.1, m4.2.2.2.1.2.2)), (m4.2.2.2.2.1, (m4.2.2.2.2.2.1, (m4.2.2.2.2.2.2 + (1 : Int32)))))))) (n4 + 1) km4 _ from s4) (eo4.trans eo.symm) cx4 (by decide) (by decide) hC (hM.2 (by decide))
        · replace hM := hM.1 rfl
          unfold wp_Mo_statement_J407 wp_Mo_statement_J408 wp_Mo_statement_J587 at hM
          replace hM := hM.1 rfl
          exact Or.inr (Or.inl ⟨_, -1, m4, hC, hM, by decide, fo4⟩)
        · replace hC := ((hC.2 (by decide)).2 (by decide)).2 (by decide)
          try dsimp only at hC
          unfold wp_Nd_endsWithSemicolon at hC
          replace hC := (((hC.2 (by decide)).2 (by decide)).1 (by decide)).1 rfl
          obtain ⟨r, nd5, hC, k5⟩ := dm_add hC
          replace hM := hM.1 rfl
          unfold wp_Mo_statement_J407 wp_Mo_statement_J408 wp_Mo_statement_J587 at hM
          exact Or.inr (Or.inr ⟨g4, nm4, nd5, w4, -1, m4, hC, d4.elim Or.inl (fun q => Or.inr (k5 q)), hM.1 rfl, by decide, fo4⟩)
      · replace hM := hM.1 rfl
        unfold wp_Mo_statement_J407 wp_Mo_statement_J408 wp_Mo_statement_J587 at hM
        replace hM := hM.1 rfl
        exact Or.inr (Or.inl ⟨_, -1, m3, hC, hM, by decide, fo3⟩)
      · obtain ⟨u, hC⟩ := rdb _ _ _ _ _ _ _ d3 hC
        replace hM := hM.1 rfl
        unfold wp_Mo_statement_J407 wp_Mo_statement_J408 wp_Mo_statement_J587 at hM
        replace hM := hM.1 rfl
        exact Or.inr (Or.inl ⟨_, -1, m3, hC, hM, by decide, fo3⟩)
    · replace hC := (hC.2.2.2.2.2.2.2.1) rfl
      replace hM := (hM.2.2.2.2.2.2.2.1) rfl
      unfold wp_Gr_readBranches at hC
      replace hC := (hC.2 (by decide)).2 (by decide)
      have cx1 := cw1
      rcases rl_pushed s1 s0 (rl_test hdt re rd rg1 eo1 o0 o9 hC hM) with ⟨g3, nm3, nd3, w3, m3, n3, km3, hC, hM, s3, em3, cw3⟩ | ⟨u, m3, hC, hM, fo3⟩ | ⟨g3, nm3, nd3, w3, m3, hC, d3, hM, fo3⟩
      · replace hM := hM.2 (by decide)
        have eo3 : m3.1.2.1.1.2 = op := em3.trans eo1
        have cx3 := Int32.lt_trans cx1 cw3
        try dsimp only at hC
        rcases rl_pushed s3 s0 (rb _ _ _ _ _ _ _ _ _ _ _ _ _ _ s3.1 eo3 o0 o9 hC hM) with ⟨g4, nm4, nd4, w4, m4, n4, km4, hC, hM, s4, em4, cw4⟩ | ⟨u, m4, hC, hM, fo4⟩ | ⟨g4, nm4, nd4, w4, m4, hC, d4, hM, fo4⟩
        · have eo4 : m4.1.2.1.1.2 = op := em4.trans eo3
          have cx4 := Int32.lt_trans cx3 cw4
          replace hM := hM.2 (by decide)
          replace hC := hC.1 rfl
          have z4 : w4.2.2.2.2.2.2.2.2.2.2.1 = 218 ↔ m4.1.1.1.2.2.2 = 1034 := Z_eq (RW_z s4.1.1) (by decide) (by decide) (by decide)
          have fo4 := s4.2.2.2.2.2.2.1
          try dsimp only at hC
          rcases rl_take s4.1.1 z4 (by decide) (NR_cnt s4.1.2.1) hC hM with ⟨w5, m5, hC, hM, rw5, fr5, cw5⟩ | ⟨u, m5, hC, hM, fr5⟩ | ⟨w5, m5, hC, hM, dd, fr5⟩
          · have s5 := SS_Fr s4 rw5 fr5
            have eo5 : m5.1.2.1.1.2 = op := (FP_Fr (hi := 0) fr5).2.1.trans eo4
            have cx5 := Int32.lt_trans cx4 (cur_up s4.1.1 cw5)
            replace hM := hM.2 (by decide)
            rcases rl_pushed s5 s0 (rb _ _ _ _ _ _ _ _ _ _ _ _ _ _ s5.1 eo5 o0 o9 hC hM) with ⟨g6, nm6, nd6, w6, m6, n6, km6, hC, hM, s6, em6, cw6⟩ | ⟨u, m6, hC, hM, fo6⟩ | ⟨g6, nm6, nd6, w6, m6, hC, d6, hM, fo6⟩
            · have eo6 : m6.1.2.1.1.2 = op := em6.trans eo5
              have cx6 := Int32.lt_trans cx5 cw6
              replace hM := hM.2 (by decide)
              unfold wp_Mo_statement_J461 wp_Mo_statement_J587 at hM
              try dsimp only at hC
              unfold wp_Nd_endsWithSemicolon at hC
              replace hC := (((hC.2 (by decide)).2 (by decide)).1 (by decide)).1 rfl
              exact st_node rg (show SS tx sz pl ln nd m n km hi tp c nm6 nd6 w6 (((((m6.1.1.1.1.1, m6.1.1.1.1.2), (m6.1.1.1.2.1, (m6.1.1.1.2.2.1, m6.1.1.1.2.2.2))), ((m6.1.1.2.1.1, m6.1.1.2.1.2), (m6.1.1.2.2.1, (m6.1.1.2.2.2.1, m6.1.1.2.2.2.2)))), (((m6.1.2.1.1.1, m6.1.2.1.1.2), (m6.1.2.1.2.1, (m6.1.2.1.2.2.1, m6.1.2.1.2.2.2))), ((m6.1.2.2.1.1, (m6.1.2.2.1.2.1, m6.1.2.2.1.2.2)), (m6.1.2.2.2.1, (m6.1.2.2.2.2.1, m6.1.2.2.2.2.2))))), ((((m6.2.1.1.1.1, m6.2.1.1.1.2), (m6.2.1.1.2.1, (m6.2.1.1.2.2.1, m6.2.1.1.2.2.2))), ((m6.2.1.2.1.1, m6.2.1.2.1.2), (m6.2.1.2.2.1, (m6.2.1.2.2.2.1, m6.2.1.2.2.2.2)))), (((m6.2.2.1.1.1, m6.2.2.1.1.2), (m6.2.2.1.2.1, (m6.2.2.1.2.2.1, m6.2.2.1.2.2.2))), ((m6.2.2.2.1.1, (m6.2.2.2.1.2.1, m6.2.2.2.1.2.2)), (m6.2.2.2.2.1, (m6.2.2.2.2.2.1, (m6.2.2.2.2.2.2 + (1 : Int32)))))))) (n6 + 1) km6 _ from s6) (eo6.trans eo.symm) cx6 (by decide) (by decide) hC (hM.2 (by decide))
            · replace hM := hM.1 rfl
              unfold wp_Mo_statement_J460 wp_Mo_statement_J461 wp_Mo_statement_J587 at hM
              replace hM := hM.1 rfl
              exact Or.inr (Or.inl ⟨_, -1, m6, hC, hM, by decide, fo6⟩)
            · try dsimp only at hC
              unfold wp_Nd_endsWithSemicolon at hC
              replace hC := (((hC.2 (by decide)).2 (by decide)).1 (by decide)).1 rfl
              obtain ⟨r, nd7, hC, k7⟩ := dm_add hC
              replace hM := hM.1 rfl
              unfold wp_Mo_statement_J460 wp_Mo_statement_J461 wp_Mo_statement_J587 at hM
              exact Or.inr (Or.inr ⟨g6, nm6, nd7, w6, -1, m6, hC, d6.elim Or.inl (fun q => Or.inr (k7 q)), hM.1 rfl, by decide, fo6⟩)
          · replace hM := hM.1 rfl
            unfold wp_Mo_statement_J460 wp_Mo_statement_J461 wp_Mo_statement_J587 at hM
            replace hM := hM.1 rfl
            exact Or.inr (Or.inl ⟨_, -1, m5, hC, hM, by decide, FO_trans fo4 (FO_Fr fr5)⟩)
          · obtain ⟨u, hC⟩ := rdb _ _ _ _ _ _ _ (Or.inl dd) hC
            replace hM := hM.1 rfl
            unfold wp_Mo_statement_J460 wp_Mo_statement_J461 wp_Mo_statement_J587 at hM
            replace hM := hM.1 rfl
            exact Or.inr (Or.inl ⟨_, -1, m5, hC, hM, by decide, FO_trans fo4 (FO_Fr fr5)⟩)
        · replace hM := hM.1 rfl
          unfold wp_Mo_statement_J460 wp_Mo_statement_J461 wp_Mo_statement_J587 at hM
          replace hM := hM.1 rfl
          exact Or.inr (Or.inl ⟨_, -1, m4, hC, hM, by decide, fo4⟩)
        · replace hC := hC.1 rfl
          obtain ⟨u, hC⟩ := dm_take d4 (by unfold dead sg; decide) hC
          replace hM := hM.1 rfl
          unfold wp_Mo_statement_J460 wp_Mo_statement_J461 wp_Mo_statement_J587 at hM
          replace hM := hM.1 rfl
          exact Or.inr (Or.inl ⟨_, -1, m4, hC, hM, by decide, fo4⟩)
      · replace hM := hM.1 rfl
        unfold wp_Mo_statement_J460 wp_Mo_statement_J461 wp_Mo_statement_J587 at hM
        replace hM := hM.1 rfl
        exact Or.inr (Or.inl ⟨_, -1, m3, hC, hM, by decide, fo3⟩)
      · obtain ⟨u, hC⟩ := rdb _ _ _ _ _ _ _ d3 hC
        replace hM := hM.1 rfl
        unfold wp_Mo_statement_J460 wp_Mo_statement_J461 wp_Mo_statement_J587 at hM
        replace hM := hM.1 rfl
        exact Or.inr (Or.inl ⟨_, -1, m3, hC, hM, by decide, fo3⟩)
    · replace hC := (hC.2.2.2.2.2.2.2.2.1) rfl
      replace hM := (hM.2.2.2.2.2.2.2.2.1) rfl
      unfold wp_Mo_statement_J466 at hM
      replace hM := hM.1 rfl
      unfold wp_Mo_statement_J480 at hM
      rcases rl_name rg1 (Or.inl ⟨rfl, rfl⟩) hC hM with ⟨k, w2, m2, kc, hC, hM, rw3, fr2, cw2⟩ | ⟨u, r', m2, hC, hM, rn, fo2⟩ | ⟨k, w2, r', m2, kc, hC, dd, hM, rn, fo2⟩
      · have c9 := rg1.2.2.1.2.1
        have on1 := on_n1 (k := k) (by omega)
        replace hC := iv_use hC rg1.2.2.1.1 kc rg1.2.2.1.2.1
        have s2 : SS tx sz pl ln nd m n km hi tp c (nm.1, nm.2.1, nm.2.2.1, (upd nm.2.2.2.1 k (vp_nar .boolean (1 : Int32))), nm.2.2.2.2) nd w2 m2 n km [] := SS_Fr s1 rw3 fr2
        have eo2 : m2.1.2.1.1.2 = op := (FP_Fr (hi := 0) fr2).2.1.trans eo1
        have cw2' := Int32.lt_trans cw1 (cur_up rw2 cw2)
        replace hM := hM.2 on1.2.1
        unfold wp_Nd_endsWithSemicolon at hC
        replace hC := ((((hC.2 (by decide)).2 (by decide)).2 (by decide)).2 (by decide)).2 (by decide)
        unfold wp_Mo_statement_J503 wp_Mo_statement_J504 wp_Mo_statement_J587 at hM
        exact st_semi rg s2 (eo2.trans eo.symm) cw2' (by decide) (by decide) hC hM (fun u q => (q.1 rfl).1 rfl) (fun u q => (q.2 (by decide)).2 (by decide))
      · replace hM := hM.1 rn
        unfold wp_Mo_statement_J503 wp_Mo_statement_J504 wp_Mo_statement_J587 at hM
        replace hM := hM.1 rfl
        exact Or.inr (Or.inl ⟨_, -1, m2, hC, hM, by decide, FO_trans (FO_Fr fr) fo2⟩)
      · replace hM := hM.1 rn
        unfold wp_Mo_statement_J503 wp_Mo_statement_J504 wp_Mo_statement_J587 at hM
        replace hM := hM.1 rfl
        replace hC := iv_use hC rg1.2.2.1.1 kc rg1.2.2.1.2.1
        unfold wp_Nd_endsWithSemicolon at hC
        replace hC := ((((hC.2 (by decide)).2 (by decide)).2 (by decide)).2 (by decide)).2 (by decide)
        obtain ⟨u, hC⟩ := dm_take (Or.inl dd) (by unfold dead sg; decide) hC
        exact Or.inr (Or.inl ⟨_, -1, m2, hC, hM, by decide, FO_trans (FO_Fr fr) fo2⟩)
    · replace hC := (hC.2.2.2.2.2.2.2.2.2.1) rfl
      replace hM := (hM.2.2.2.2.2.2.2.2.2.1) rfl
      unfold wp_Mo_statement_J466 at hM
      replace hM := hM.2 (by decide)
      unfold wp_Mo_statement_J480 at hM
      rcases rl_name rg1 (Or.inr (Or.inr ⟨rfl, rfl⟩)) hC hM with ⟨k, w2, m2, kc, hC, hM, rw3, fr2, cw2⟩ | ⟨u, r', m2, hC, hM, rn, fo2⟩ | ⟨k, w2, r', m2, kc, hC, dd, hM, rn, fo2⟩
      · have c9 := rg1.2.2.1.2.1
        have on1 := on_n1 (k := k) (by omega)
        have s2 : SS tx sz pl ln nd m n km hi tp c nm nd w2 m2 n km [] := SS_Fr s1 rw3 fr2
        have eo2 : m2.1.2.1.1.2 = op := (FP_Fr (hi := 0) fr2).2.1.trans eo1
        have cw2' := Int32.lt_trans cw1 (cur_up rw2 cw2)
        replace hM := hM.2 on1.2.1
        unfold wp_Nd_endsWithSemicolon at hC
        replace hC := ((((hC.2 (by decide)).2 (by decide)).2 (by decide)).2 (by decide)).2 (by decide)
        unfold wp_Mo_statement_J503 wp_Mo_statement_J504 wp_Mo_statement_J587 at hM
        exact st_semi rg s2 (eo2.trans eo.symm) cw2' (by decide) (by decide) hC hM (fun u q => (q.1 rfl).1 rfl) (fun u q => (q.2 (by decide)).2 (by decide))
      · replace hM := hM.1 rn
        unfold wp_Mo_statement_J503 wp_Mo_statement_J504 wp_Mo_statement_J587 at hM
        replace hM := hM.1 rfl
        exact Or.inr (Or.inl ⟨_, -1, m2, hC, hM, by decide, FO_trans (FO_Fr fr) fo2⟩)
      · replace hM := hM.1 rn
        unfold wp_Mo_statement_J503 wp_Mo_statement_J504 wp_Mo_statement_J587 at hM
        replace hM := hM.1 rfl
        unfold wp_Nd_endsWithSemicolon at hC
        replace hC := ((((hC.2 (by decide)).2 (by decide)).2 (by decide)).2 (by decide)).2 (by decide)
        obtain ⟨u, hC⟩ := dm_take (Or.inl dd) (by unfold dead sg; decide) hC
        exact Or.inr (Or.inl ⟨_, -1, m2, hC, hM, by decide, FO_trans (FO_Fr fr) fo2⟩)
    · replace hC := (hC.2.2.2.2.2.2.2.2.2.2.2) (by decide)
      replace hM := (hM.2.2.2.2.2.2.2.2.2.2.2) (by decide)
      unfold wp_Mo_statement_J579 wp_Mo_statement_J587 at hM
      unfold wp_Nd_endsWithSemicolon at hC
      replace hC := ((((hC.2 (by decide)).2 (by decide)).2 (by decide)).2 (by decide)).2 (by decide)
      exact st_semi rg s1 (eo1.trans eo.symm) cw1 (by decide) (by decide) hC hM (fun u q => q.1 rfl) (fun u q => q.2 (by decide))
    · replace hC := (hC.2.2.2.2.2.2.2.2.2.2.2) (by decide)
      replace hM := (hM.2.2.2.2.2.2.2.2.2.2.2) (by decide)
      unfold wp_Mo_statement_J579 wp_Mo_statement_J587 at hM
      unfold wp_Nd_endsWithSemicolon at hC
      replace hC := ((((hC.2 (by decide)).2 (by decide)).2 (by decide)).2 (by decide)).2 (by decide)
      exact st_semi rg s1 (eo1.trans eo.symm) cw1 (by decide) (by decide) hC hM (fun u q => q.1 rfl) (fun u q => q.2 (by decide))
    · replace hC := (hC.2.2.2.2.2.2.2.2.2.2.1) rfl
      replace hM := (hM.2.2.2.2.2.2.2.2.2.2.1) rfl
      have ra := RW_act rw2
      unfold wp_Gr_readAct wp_Gr_refuse at hC
      unfold wp_Mo_statement_J537 wp_Mo_bad at hM
      rcases br_el hC with ⟨e, hC⟩ | ⟨e, hC⟩
      · obtain ⟨tk, pt⟩ := ra.1.mp e
        obtain ⟨ev, v0⟩ := ra.2 e
        have ar := act_rel v0
        replace hM := (hM.1 tk).1 pt
        rw [ev] at hM
        rcases br_el hC with ⟨q, hC⟩ | ⟨q, hC⟩
        · rcases rl_pass rw2 (by rw [e]; decide) n9 hC (hM.1 (ar.mp q)) with ⟨w2, m2, hC, hM, rw3, fr2, cw2⟩ | ⟨u, m2, hC, hM, fr2⟩ | ⟨w2, m2, hC, hM, dd, fr2⟩
          · have s2 := SS_Fr s1 rw3 fr2
            have eo2 : m2.1.2.1.1.2 = op := (FP_Fr (hi := 0) fr2).2.1.trans eo1
            replace hM := hM.2 (by decide)
            try dsimp only at hC
            unfold wp_Nd_endsWithSemicolon at hC
            replace hC := ((((hC.2 (by decide)).2 (by decide)).2 (by decide)).2 (by decide)).2 (by decide)
            unfold wp_Mo_statement_J573 wp_Mo_statement_J574 wp_Mo_statement_J587 at hM
            exact st_semi rg s2 (eo2.trans eo.symm) (Int32.lt_trans cw1 (cur_up rw2 cw2)) (by decide) (by decide) hC hM (fun u q => (q.1 rfl).1 rfl) (fun u q => (q.2 (by decide)).2 (by decide))
          · replace hM := hM.1 rfl
            unfold wp_Mo_statement_J573 wp_Mo_statement_J574 wp_Mo_statement_J587 at hM
            replace hM := hM.1 rfl
            exact Or.inr (Or.inl ⟨_, -1, m2, hC, hM, by decide, FO_trans (FO_Fr fr) (FO_Fr fr2)⟩)
          · try dsimp only at hC
            unfold wp_Nd_endsWithSemicolon at hC
            replace hC := ((((hC.2 (by decide)).2 (by decide)).2 (by decide)).2 (by decide)).2 (by decide)
            obtain ⟨u, hC⟩ := dm_take (Or.inl dd) (by unfold dead sg; decide) hC
            replace hM := hM.1 rfl
            unfold wp_Mo_statement_J573 wp_Mo_statement_J574 wp_Mo_statement_J587 at hM
            replace hM := hM.1 rfl
            exact Or.inr (Or.inl ⟨_, -1, m2, hC, hM, by decide, FO_trans (FO_Fr fr) (FO_Fr fr2)⟩)
        · exact Or.inr (Or.inl ⟨_, -1, _, hC, hM.2 (fun z => q (ar.mpr z)), by decide, FO_Fr fr⟩)
      · have hM2 : PM (-1) (((((m1.1.1.1.1.1, m1.1.1.1.1.2), (m1.1.1.1.2.1, (m1.1.1.1.2.2.1, m1.1.1.1.2.2.2))), ((m1.1.1.2.1.1, m1.1.1.2.1.2), (m1.1.1.2.2.1, (m1.1.1.2.2.2.1, m1.1.1.2.2.2.2)))), (((m1.1.1.2.1.1, m1.1.2.1.1.2), (m1.1.2.1.2.1, (m1.1.2.1.2.2.1, m1.1.2.1.2.2.2))), ((m1.1.2.2.1.1, (m1.1.2.2.1.2.1, m1.1.2.2.1.2.2)), (m1.1.2.2.2.1, (m1.1.2.2.2.2.1, m1.1.2.2.2.2.2))))), ((((m1.2.1.1.1.1, m1.2.1.1.1.2), (m1.2.1.1.2.1, (m1.2.1.1.2.2.1, m1.2.1.1.2.2.2))), ((m1.2.1.2.1.1, m1.2.1.2.1.2), (m1.2.1.2.2.1, (m1.2.1.2.2.2.1, m1.2.1.2.2.2.2)))), (((m1.2.2.1.1.1, m1.2.2.1.1.2), (m1.2.2.1.2.1, (m1.2.2.1.2.2.1, m1.2.2.1.2.2.2))), ((m1.2.2.2.1.1, (m1.2.2.2.1.2.1, m1.2.2.2.1.2.2)), (m1.2.2.2.2.1, (m1.2.2.2.2.2.1, m1.2.2.2.2.2.2)))))) := by
          by_cases tk : m1.1.1.1.2.2.2 = 2000
          · by_cases pt : m1.1.1.2.2.2.2 = 0
            · exact absurd (ra.1.mpr ⟨tk, pt⟩) e
            · exact (hM.1 tk).2 pt
          · exact hM.2 tk
        exact Or.inr (Or.inl ⟨_, -1, _, hC, hM2, by decide, FO_Fr fr⟩)
  · exact Or.inr (Or.inl ⟨_, -1, m1, hC, hM.1 rfl, by decide, FO_Fr fr⟩)
  · replace hM := hM.1 rfl
    have dn := dead_n dd
    have fin : (∃ u, PT u) → OT 22 tx sz pl ln PC PT PM nd w m n km hi tp c := fun q => q.elim (fun u q => Or.inr (Or.inl ⟨u, -1, m1, q, hM, by decide, FO_Fr fr⟩))
    dsimp only at hC
    apply fin
    rcases K_cases K0 K9 with rfl | rfl | rfl | rfl | rfl | rfl | rfl | rfl | rfl | rfl | rfl | rfl | rfl
    · replace hC := (hC.1) rfl
      obtain ⟨u, hC⟩ := dm_name dd hC
      exact ⟨_, hC⟩
    · replace hC := (hC.2.1) rfl
      obtain ⟨u, hC⟩ := rd_sumOf rd (Or.inl dd) hC
      exact ⟨_, hC⟩
    · replace hC := (hC.2.2.1) rfl
      obtain ⟨u, hC⟩ := rd_test rd (Or.inl dd) hC
      exact ⟨_, hC⟩
    · replace hC := (hC.2.2.2.1) rfl
      obtain ⟨u, hC⟩ := dm_name dd hC
      exact ⟨_, hC⟩
    · replace hC := (hC.2.2.2.2.1) rfl
      obtain ⟨u, hC⟩ := rd_branches rdb (Or.inl dd) hC
      exact ⟨_, hC⟩
    · replace hC := (hC.2.2.2.2.2.1) rfl
      obtain ⟨u, hC⟩ := rd_branches rdb (Or.inl dd) hC
      exact ⟨_, hC⟩
    · replace hC := (hC.2.2.2.2.2.2.1) rfl
      obtain ⟨u, hC⟩ := rd_branches rdb (Or.inl dd) hC
      exact ⟨_, hC⟩
    · replace hC := (hC.2.2.2.2.2.2.2.1) rfl
      obtain ⟨u, hC⟩ := rd_branches rdb (Or.inl dd) hC
      exact ⟨_, hC⟩
    · replace hC := (hC.2.2.2.2.2.2.2.2.1) rfl
      obtain ⟨u, hC⟩ := dm_name dd hC
      exact ⟨_, hC⟩
    · replace hC := (hC.2.2.2.2.2.2.2.2.2.1) rfl
      obtain ⟨u, hC⟩ := dm_name dd hC
      exact ⟨_, hC⟩
    · replace hC := (hC.2.2.2.2.2.2.2.2.2.2.2) (by decide)
      unfold wp_Nd_endsWithSemicolon at hC
      replace hC := ((((hC.2 (by decide)).2 (by decide)).2 (by decide)).2 (by decide)).2 (by decide)
      obtain ⟨u, hC⟩ := dm_take (Or.inl dd) (by unfold dead sg; decide) hC
      exact ⟨_, hC⟩
    · replace hC := (hC.2.2.2.2.2.2.2.2.2.2.2) (by decide)
      unfold wp_Nd_endsWithSemicolon at hC
      replace hC := ((((hC.2 (by decide)).2 (by decide)).2 (by decide)).2 (by decide)).2 (by decide)
      obtain ⟨u, hC⟩ := dm_take (Or.inl dd) (by unfold dead sg; decide) hC
      exact ⟨_, hC⟩
    · replace hC := (hC.2.2.2.2.2.2.2.2.2.2.1) rfl
      obtain ⟨u, hC⟩ := dm_act dd hC
      exact ⟨_, hC⟩

