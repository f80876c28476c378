theorem rd_blockF {d : Nat} {bC : T_Gr → T_Nm → T_Nd → T_Wd → Int32 → (Unit → T_Gr × T_Nm × T_Nd × T_Wd → Prop) → (T_Gr × T_Nm × T_Nd × T_Wd → Prop) → Prop} : RDB (wp_Gr_readBlock_F d bC) := by
  intro g nm nd w op PC PT d9 h
  unfold wp_Gr_readBlock_F wp_Nd_count wp_Gr_refuseOneMore wp_Gr_refuse at h
  rcases br_el h with ⟨q, h⟩ | ⟨q, h⟩
  · obtain ⟨u, h⟩ := dm_take d9 (by unfold dead sg; decide) h
    exact ⟨_, h⟩
  · exact ⟨_, h⟩
theorem nost {t : Int32} (b : (1 : Int32) ≤ t ∧ t ≤ 2000) (h : ¬ ((1010 : Int32) ≤ t ∧ t ≤ 1022)) : (t - (1000 : Int32)) < 10 ∨ ¬ (t - (1000 : Int32)) ≤ 22 := by
  obtain ⟨b1, b2⟩ := b
  by_cases q : t < 1010
  · left; grind
  · right
    have : ¬ t ≤ 1022 := fun z => h ⟨Int32.not_lt.mp q, z⟩
    grind
/-- no statement begins here: the reference says so -/
theorem st_none {tx : Nat → Int32} {sz : Int32} {pl ln : Nat → Int32} {d' : Nat} {bM : T_Mo → (Int32 → T_Mo → Prop) → Prop} {w : T_Wd} {m : T_Mo} {PM : Int32 → T_Mo → Prop} (r : RW tx sz pl ln w m) (h : ¬ ((200 : Int32) ≤ w.2.2.2.2.2.2.2.2.2.2.1 ∧ w.2.2.2.2.2.2.2.2.2.2.1 ≤ 212)) (hM : wp_Mo_statement d' bM m PM) : PM (-1) (((((m.1.1.1.1.1, m.1.1.1.1.2), (m.1.1.1.2.1, (m.1.1.1.2.2.1, m.1.1.1.2.2.2))), ((m.1.1.2.1.1, m.1.1.2.1.2), (m.1.1.2.2.1, (m.1.1.2.2.2.1, m.1.1.2.2.2.2)))), (((m.1.1.2.1.1, m.1.2.1.1.2), (m.1.2.1.2.1, (m.1.2.1.2.2.1, m.1.2.1.2.2.2))), ((m.1.2.2.1.1, (m.1.2.2.1.2.1, m.1.2.2.1.2.2)), (m.1.2.2.2.1, (m.1.2.2.2.2.1, m.1.2.2.2.2.2))))), ((((m.2.1.1.1.1, m.2.1.1.1.2), (m.2.1.1.2.1, (m.2.1.1.2.2.1, m.2.1.1.2.2.2))), ((m.2.1.2.1.1, m.2.1.2.1.2), (m.2.1.2.2.1, (m.2.1.2.2.2.1, m.2.1.2.2.2.2)))), (((m.2.2.1.1.1, m.2.2.1.1.2), (m.2.2.1.2.1, (m.2.2.1.2.2.1, m.2.2.1.2.2.2))), ((m.2.2.2.1.1, (m.2.2.2.1.2.1, m.2.2.2.1.2.2)), (m.2.2.2.2.1, (m.2.2.2.2.2.1, m.2.2.2.2.2.2)))))) := by
  have z := RW_z r
  have q : ¬ ((1010 : Int32) ≤ m.1.1.1.2.2.2 ∧ m.1.1.1.2.2.2 ≤ 1022) := by
    rcases Z_st z with ⟨a, b, -⟩ | ⟨-, b⟩
    · exact absurd ⟨a, b⟩ h
    · exact b
  unfold wp_Mo_statement wp_Mo_statement_J26 wp_Mo_bad at hM
  rcases nost (KPZ_b z) q with n | n
  · exact hM.1 n
  · by_cases n2 : (m.1.1.1.2.2.2 - (1000 : Int32)) < 10
    · exact hM.1 n2
    · exact (hM.2 n2).2 n
theorem rd_statement {d : Nat} {bC : T_Gr → T_Nm → T_Nd → T_Wd → Int32 → (Unit → T_Gr × T_Nm × T_Nd × T_Wd → Prop) → (T_Gr × T_Nm × T_Nd × T_Wd → Prop) → Prop} {g : T_Gr} {nm : T_Nm} {nd : T_Nd} {w : T_Wd} {op : Int32} {PC : Unit → T_Gr × T_Nm × T_Nd × T_Wd → Prop} {PT : T_Gr × T_Nm × T_Nd × T_Wd → Prop} (d9 : (1000 : Int32) < nd.2.2.2.2.2.2.2.2.2.2.1) (h : wp_Gr_readStatement d bC g nm nd w op PC PT) : ∃ u, PT u := by
  unfold wp_Gr_readStatement wp_Nd_count at h
  obtain ⟨u, h⟩ := dm_pass d9 h
  exact ⟨_, h⟩
theorem dm_blockL {d : Nat} {bC : T_Gr → T_Nm → T_Nd → T_Wd → Int32 → (Unit → T_Gr × T_Nm × T_Nd × T_Wd → Prop) → (T_Gr × T_Nm × T_Nd × T_Wd → Prop) → Prop} {n : Nat} {g : T_Gr} {nm : T_Nm} {nd : T_Nd} {w : T_Wd} {x1 x2 x3 x4 : Int32} {PC : Unit → T_Gr × T_Nm × T_Nd × T_Wd → Prop} {PT : T_Gr × T_Nm × T_Nd × T_Wd → Prop} (d9 : DM nd w) (h : wp_Gr_readBlock_L30 d bC (fun (z : T_Gr) (nm : T_Nm) (nd : T_Nd) (w : T_Wd) (x1 : Int32) (x2 : Int32) (x3 : Int32) (x4 : Int32) => wp_Gr_take z nd w (125 : Int32) (fun (r6 : Unit) (u6 : T_Gr × T_Wd) => wp_Nd_add nd (23 : Int32) x2 x3 (0 : Int64) (0 : Int32) (fun (r7 : Int32) (u7 : T_Nd) => PC () (u6.1, nm, u7, u6.2))) (fun (u : T_Gr × T_Wd) => PT (u.1, nm, nd, u.2))) PC PT n g nm nd w x1 x2 x3 x4) : ∃ u, PT u := by
  cases n with
  | zero => exact False.elim h
  | succ n =>
  rw [wp_Gr_readBlock_L30] at h
  have fin : ∀ {z : T_Gr}, wp_Gr_take z nd w (125 : Int32) (fun (r6 : Unit) (u6 : T_Gr × T_Wd) => wp_Nd_add nd (23 : Int32) x2 x3 (0 : Int64) (0 : Int32) (fun (r7 : Int32) (u7 : T_Nd) => PC () (u6.1, nm, u7, u6.2))) (fun (u : T_Gr × T_Wd) => PT (u.1, nm, nd, u.2)) → ∃ u, PT u := by
    intro z h
    obtain ⟨u, h⟩ := dm_take d9 (by unfold dead sg; decide) h
    exact ⟨_, h⟩
  rcases br_el h with ⟨q, h⟩ | ⟨q, h⟩
  · exact fin h
  · rcases iv_isBetween h with ⟨b, h⟩ | ⟨b, h⟩
    · have big : (1000 : Int32) < nd.2.2.2.2.2.2.2.2.2.2.1 := d9.elim (fun q => absurd (Int32.le_trans (by decide) b.1) (dead_n q).1) id
      obtain ⟨u, h⟩ := rd_statement big (h.2 (by decide))
      exact ⟨_, h⟩
    · exact fin (h.1 rfl)
set_option maxHeartbeats 4000000 in
theorem rl_blockL {tx : Nat → Int32} {sz : Int32} {pl ln : Nat → Int32} {d d' : Nat} {bC : T_Gr → T_Nm → T_Nd → T_Wd → Int32 → (Unit → T_Gr × T_Nm × T_Nd × T_Wd → Prop) → (T_Gr × T_Nm × T_Nd × T_Wd → Prop) → Prop} {bM : T_Mo → (Int32 → T_Mo → Prop) → Prop} (rb : RB tx sz pl ln 23 bC bM) (rdb : RDB bC) {nm0 : T_Nm} {nd0 : T_Nd} {w0 : T_Wd} {m0 : T_Mo} {n0 km0 hi tp c : Nat} {op row : Int32} {PC : Unit → T_Gr × T_Nm × T_Nd × T_Wd → Prop} {PT : T_Gr × T_Nm × T_Nd × T_Wd → Prop} {PM : Int32 → T_Mo → Prop} (rg : RG tx sz pl ln nm0 nd0 w0 m0 n0 km0 hi tp c) (eo : m0.1.2.1.1.2 = op) (o0 : (0 : Int32) ≤ op) (o9 : op < 60) : ∀ (kC kM : Nat) (g : T_Gr) (nm : T_Nm) (nd : T_Nd) (w : T_Wd) (m : T_Mo) (n km : Nat) (asc : List Nat) (x4 : Int32), wp_Gr_readBlock_L30 d bC (fun (z : T_Gr) (nm : T_Nm) (nd : T_Nd) (w : T_Wd) (x1 : Int32) (x2 : Int32) (x3 : Int32) (x4 : Int32) => wp_Gr_take z nd w (125 : Int32) (fun (r6 : Unit) (u6 : T_Gr × T_Wd) => wp_Nd_add nd (23 : Int32) x2 x3 (0 : Int64) (0 : Int32) (fun (r7 : Int32) (u7 : T_Nd) => PC () (u6.1, nm, u7, u6.2))) (fun (u : T_Gr × T_Wd) => PT (u.1, nm, nd, u.2))) PC PT kC g nm nd w op (Int32.ofNat n0) row x4 → wp_Mo_block_L52 d' bM (fun (z : T_Mo) (x1 : Int32) (x2 : Int32) => wp_Mo_go (((((z.1.1.1.1.1, z.1.1.1.1.2), (z.1.1.1.2.1, (z.1.1.1.2.2.1, z.1.1.1.2.2.2))), ((z.1.1.2.1.1, z.1.1.2.1.2), (z.1.1.2.2.1, (z.1.1.2.2.2.1, z.1.1.2.2.2.2)))), (((z.1.2.1.1.1, (z.1.2.1.1.2 - (1 : Int32))), (z.1.2.1.2.1, (z.1.2.1.2.2.1, z.1.2.1.2.2.2))), ((z.1.2.2.1.1, (z.1.2.2.1.2.1, z.1.2.2.1.2.2)), (z.1.2.2.2.1, (z.1.2.2.2.2.1, z.1.2.2.2.2.2))))), ((((z.2.1.1.1.1, z.2.1.1.1.2), (z.2.1.1.2.1, (z.2.1.1.2.2.1, z.2.1.1.2.2.2))), ((z.2.1.2.1.1, z.2.1.2.1.2), (z.2.1.2.2.1, (z.2.1.2.2.2.1, z.2.1.2.2.2.2)))), (((z.2.2.1.1.1, z.2.2.1.1.2), (z.2.2.1.2.1, (z.2.2.1.2.2.1, z.2.2.1.2.2.2))), ((z.2.2.2.1.1, (z.2.2.2.1.2.1, z.2.2.2.1.2.2)), (z.2.2.2.2.1, (z.2.2.2.2.2.1, z.2.2.2.2.2.2)))))) (fun (r5 : Int32) (u5 : T_Mo) => (r5 = 0 → (PM (-1 : Int32) u5)) ∧ (¬ r5 = 0 → (wp_Mo_node0 u5 (23 : Int32) (0 : Int64) x1 (-1 : Int32) x2 (fun (r6 : Int32) (u6 : T_Mo) => PM r6 u6))))) PM kM m row (Int32.ofNat hi) → SS tx sz pl ln nd0 m0 n0 km0 hi tp c nm nd w m n km asc → m.1.2.1.1.2 = op + 1 → w0.2.2.2.2.2.2.2.1 < w.2.2.2.2.2.2.2.1 → (0 : Int32) ≤ x4 → x4 ≤ w.2.2.2.2.2.2.2.1 → OT 23 tx sz pl ln PC PT PM nd0 w0 m0 n0 km0 hi tp c := by
  have ou := open_up o0 o9
  have s0 := rg.2.2.2.2.2.2
  intro kC
  induction kC with
  | zero => intro kM g nm nd w m n km asc x4 h; exact False.elim h
  | succ kC ih =>
    intro kM g nm nd w m n km asc x4 hC hM s eo1 cw x0 xc
    cases kM with
    | zero => exact False.elim hM
    | succ kM =>
    have fo0 := s.2.2.2.2.2.2.1
    rw [wp_Gr_readBlock_L30] at hC
    rw [wp_Mo_block_L52] at hM
    have t := RW_sg s.1.1 (x := 125) (by unfold sg; decide)
    have fin : wp_Gr_take g nd w (125 : Int32) (fun (r6 : Unit) (u6 : T_Gr × T_Wd) => wp_Nd_add nd (23 : Int32) (Int32.ofNat n0) row (0 : Int64) (0 : Int32) (fun (r7 : Int32) (u7 : T_Nd) => PC () (u6.1, nm, u7, u6.2))) (fun (u : T_Gr × T_Wd) => PT (u.1, nm, nd, u.2)) → ¬ ((200 : Int32) ≤ w.2.2.2.2.2.2.2.2.2.2.1 ∧ w.2.2.2.2.2.2.2.2.2.2.1 ≤ 212) → OT 23 tx sz pl ln PC PT PM nd0 w0 m0 n0 km0 hi tp c := by
      intro hC nb
      unfold wp_Gr_take wp_Gr_refuse at hC
      rcases br_el hC with ⟨e, hC⟩ | ⟨e, hC⟩
      · replace hM := hM.1 (t.mp e)
        have s' : SS tx sz pl ln nd0 m0 n0 km0 hi tp c nm nd w (((((m.1.1.1.1.1, m.1.1.1.1.2), (m.1.1.1.2.1, (m.1.1.1.2.2.1, m.1.1.1.2.2.2))), ((m.1.1.2.1.1, m.1.1.2.1.2), (m.1.1.2.2.1, (m.1.1.2.2.2.1, m.1.1.2.2.2.2)))), (((m.1.2.1.1.1, (m.1.2.1.1.2 - (1 : Int32))), (m.1.2.1.2.1, (m.1.2.1.2.2.1, m.1.2.1.2.2.2))), ((m.1.2.2.1.1, (m.1.2.2.1.2.1, m.1.2.2.1.2.2)), (m.1.2.2.2.1, (m.1.2.2.2.2.1, m.1.2.2.2.2.2))))), ((((m.2.1.1.1.1, m.2.1.1.1.2), (m.2.1.1.2.1, (m.2.1.1.2.2.1, m.2.1.1.2.2.2))), ((m.2.1.2.1.1, m.2.1.2.1.2), (m.2.1.2.2.1, (m.2.1.2.2.2.1, m.2.1.2.2.2.2)))), (((m.2.2.1.1.1, m.2.2.1.1.2), (m.2.2.1.2.1, (m.2.2.1.2.2.1, m.2.2.1.2.2.2))), ((m.2.2.2.1.1, (m.2.2.2.1.2.1, m.2.2.2.1.2.2)), (m.2.2.2.2.1, (m.2.2.2.2.2.1, m.2.2.2.2.2.2)))))) n km asc := s
        rcases rl_pass s'.1.1 (by rw [e]; decide) (NR_cnt s.1.2.1) hC hM with ⟨w2, m2, hC, hM, rw2, fr, cw2⟩ | ⟨u, m2, hC, hM, fr⟩ | ⟨w2, m2, hC, hM, dd, fr⟩
        · have s2 := SS_Fr s' rw2 fr
          have e2 : m2.1.2.1.1.2 = m0.1.2.1.1.2 := by
            rw [(FP_Fr (hi := 0) fr).2.1]
            show m.1.2.1.1.2 - (1 : Int32) = m0.1.2.1.1.2
            rw [eo1, eo]; exact ou.2.2.1
          exact st_node rg s2 e2 (Int32.lt_trans cw (cur_up s.1.1 cw2)) (by decide) (by decide) hC (hM.2 (by decide))
        · have f0 := FO_Fr fr
          have f : FO m0 m2 := FO_trans fo0 (show FO m m2 from f0)
          exact Or.inr (Or.inl ⟨_, -1, m2, hC, hM.1 rfl, by decide, f⟩)
        · obtain ⟨r, nd', hC, -⟩ := dm_add hC
          have f0 := FO_Fr fr
          have f : FO m0 m2 := FO_trans fo0 (show FO m m2 from f0)
          exact Or.inr (Or.inr ⟨_, nm, nd', w2, -1, m2, hC, Or.inl dd, hM.1 rfl, by decide, f⟩)
      · replace hM := st_none s.1.1 nb (hM.2 (fun q => e (t.mpr q)))
        exact Or.inr (Or.inl ⟨_, -1, _, hC, hM.2 (by decide), by decide, fo0⟩)
    by_cases b : (200 : Int32) ≤ w.2.2.2.2.2.2.2.2.2.2.1 ∧ w.2.2.2.2.2.2.2.2.2.2.1 ≤ 212
    · have nz : ¬ w.2.2.2.2.2.2.2.2.2.2.1 = 0 := fun q => by rw [q] at b; exact absurd b.1 (by decide)
      have nx : ¬ (4000 : Int32) ≤ x4 := fun q => absurd (Int32.le_trans q xc) (Int32.not_le.mpr (op_next s.1.1 nz))
      have n125 : ¬ w.2.2.2.2.2.2.2.2.2.2.1 = 125 := fun q => by rw [q] at b; exact absurd b.1 (by decide)
      rcases iv_isBetween (hC.2 nx) with ⟨-, hC⟩ | ⟨q, -⟩
      · replace hC := hC.2 (by decide)
        replace hM := hM.2 (fun q => n125 (t.mpr q))
        rcases rl_statement rb rdb s.1 b eo1 ou.1 ou.2.1 hC hM with ⟨g2, nm2, nd2, w2, m2, n2, km2, hC, hM, rg2, e2⟩ | ⟨u, r', m2, hC, hM, rn, fo2⟩ | ⟨g2, nm2, nd2, w2, r', m2, hC, d2, hM, rn, fo2⟩
        · have n92 : n2 + 1 ≤ 1000 := rg2.2.1.2.2.2.1
          have s2r := rg2.2.2.2.2.2.2
          have on2 := on_n1 (k := n2) (by omega)
          replace hM := hM.1 on2.2.2
          unfold wp_Mo_push at hM
          replace hM := hM.2
          rw [rg2.2.2.2.2.1, ix_on (by omega), on_succ (by omega)] at hM
          have xs := x_up x0 xc e2.2.2.2.2.2.2.2.2 (cur9 rg2.1).1
          exact ih kM _ _ _ _ _ _ _ _ _ hC hM (SS_push s s0 rg2 e2) (e2.2.2.2.2.2.2.1.2.1.trans eo1) (Int32.lt_trans cw e2.2.2.2.2.2.2.2.2) xs.1 xs.2
        · exact Or.inr (Or.inl ⟨_, -1, m2, hC, hM.2 (Int32.not_le.mpr rn), by decide, FO_trans fo0 fo2⟩)
        · obtain ⟨u, hC⟩ := dm_blockL d2 hC
          exact Or.inr (Or.inl ⟨_, -1, m2, hC, hM.2 (Int32.not_le.mpr rn), by decide, FO_trans fo0 fo2⟩)
      · exact absurd b q
    · by_cases q : (4000 : Int32) ≤ x4
      · exact fin (hC.1 q) b
      · rcases iv_isBetween (hC.2 q) with ⟨q2, -⟩ | ⟨-, hC⟩
        · exact absurd q2 b
        · exact fin (hC.1 rfl) b
set_option maxHeartbeats 2000000 in
theorem rl_blockF {tx : Nat → Int32} {sz : Int32} {pl ln : Nat → Int32} {d d' : Nat} {bC : T_Gr → T_Nm → T_Nd → T_Wd → Int32 → (Unit → T_Gr × T_Nm × T_Nd × T_Wd → Prop) → (T_Gr × T_Nm × T_Nd × T_Wd → Prop) → Prop} {bM : T_Mo → (Int32 → T_Mo → Prop) → Prop} (rb : RB tx sz pl ln 23 bC bM) (rdb : RDB bC) : RB tx sz pl ln 23 (wp_Gr_readBlock_F d bC) (wp_Mo_block_F d' bM) := by
  intro g nm nd w op m PC PT PM n km hi tp c rg eo o0 o9 hC hM
  have rw1 := rg.1
  have n9 := NR_cnt rg.2.1
  have en : nd.2.2.2.2.2.2.2.2.2.2.1 = Int32.ofNat n := rg.2.1.2.1
  have row : m.1.1.2.2.1 = w.2.2.2.2.2.2.2.2.2.2.2.2.1 := rw1.2.2.2.2.2.2.2.2.1
  have t := RW_sg rw1 (x := 123) (by unfold sg; decide)
  unfold wp_Gr_readBlock_F wp_Nd_count wp_Gr_refuseOneMore wp_Gr_refuse at hC
  unfold wp_Mo_block_F wp_Mo_bad at hM
  rw [en] at hC
  rw [eo] at hM
  rcases br_el hC with ⟨q, hC⟩ | ⟨q, hC⟩
  · have ou := open_up o0 q
    unfold wp_Gr_take wp_Gr_refuse at hC
    rcases br_el hC with ⟨e, hC⟩ | ⟨e, hC⟩
    · replace hM := (hM.1 (t.mp e)).2 ou.2.2.2
      have rg' : RG tx sz pl ln nm nd w (((((m.1.1.1.1.1, m.1.1.1.1.2), (m.1.1.1.2.1, (m.1.1.1.2.2.1, m.1.1.1.2.2.2))), ((m.1.1.2.1.1, m.1.1.2.1.2), (m.1.1.2.2.1, (m.1.1.2.2.2.1, m.1.1.2.2.2.2)))), (((m.1.2.1.1.1, (op + (1 : Int32))), (m.1.2.1.2.1, (m.1.2.1.2.2.1, m.1.2.1.2.2.2))), ((m.1.2.2.1.1, (m.1.2.2.1.2.1, m.1.2.2.1.2.2)), (m.1.2.2.2.1, (m.1.2.2.2.2.1, m.1.2.2.2.2.2))))), ((((m.2.1.1.1.1, m.2.1.1.1.2), (m.2.1.1.2.1, (m.2.1.1.2.2.1, m.2.1.1.2.2.2))), ((m.2.1.2.1.1, m.2.1.2.1.2), (m.2.1.2.2.1, (m.2.1.2.2.2.1, m.2.1.2.2.2.2)))), (((m.2.2.1.1.1, m.2.2.1.1.2), (m.2.2.1.2.1, (m.2.2.1.2.2.1, m.2.2.1.2.2.2))), ((m.2.2.2.1.1, (m.2.2.2.1.2.1, m.2.2.2.1.2.2)), (m.2.2.2.2.1, (m.2.2.2.2.2.1, m.2.2.2.2.2.2)))))) n km hi tp c := rg
      rcases rl_pass rg'.1 (by rw [e]; decide) n9 hC hM with ⟨w2, m2, hC, hM, rw2, fr, cw2⟩ | ⟨u, m2, hC, hM, fr⟩ | ⟨w2, m2, hC, hM, dd, fr⟩
      · have rg1 := RG_Fr rg' rw2 fr
        have fp1 := FP_Fr (hi := hi) fr
        have f := FO_Fr fr
        have s1 : SS tx sz pl ln nd m n km hi tp c nm nd w2 m2 n km [] := ⟨rg1, trivial, rfl, fun j hj => fp1.1 j hj, fun _ _ => ⟨rfl, rfl, rfl⟩, fp1.2.2.1, f, Nat.le_refl _, Nat.le_refl _, fp1.2.2.2.2.2⟩
        obtain ⟨kC, hC⟩ := hC
        obtain ⟨kM, hM⟩ := hM.2 (by decide)
        rw [row, rg.2.2.2.2.1] at hM
        exact rl_blockL rb rdb rg eo o0 q kC kM _ _ _ _ _ _ _ _ _ hC hM s1 fp1.2.1 (cur_up rw1 cw2) (by decide) (cur9 rg1.1).2
      · have f := FO_Fr fr
        exact Or.inr (Or.inl ⟨_, -1, m2, hC, hM.1 rfl, by decide, f⟩)
      · obtain ⟨kC, hC⟩ := hC
        obtain ⟨u, hC⟩ := dm_blockL (Or.inl dd) hC
        have f := FO_Fr fr
        exact Or.inr (Or.inl ⟨_, -1, m2, hC, hM.1 rfl, by decide, f⟩)
    · exact Or.inr (Or.inl ⟨_, -1, _, hC, hM.2 (fun z => e (t.mpr z)), by decide, FO_refl⟩)
  · rcases br_el hM with ⟨e, hM⟩ | ⟨e, hM⟩
    · exact Or.inr (Or.inl ⟨_, -1, _, hC, hM.1 (open_60 o9 q), by decide, FO_refl⟩)
    · exact Or.inr (Or.inl ⟨_, -1, _, hC, hM, by decide, FO_refl⟩)
theorem rd_block (d : Nat) : ∀ e, RDB (wp_Gr_readBlock d e)
  | 0 => fun _ _ _ _ _ _ _ _ h => False.elim h
  | e + 1 => fun g nm nd w op PC PT d9 h => rd_blockF (d := d) (bC := wp_Gr_readBlock d e) g nm nd w op PC PT d9 h
theorem rl_block {tx : Nat → Int32} {sz : Int32} {pl ln : Nat → Int32} (d d' : Nat) : ∀ e e', RB tx sz pl ln 23 (wp_Gr_readBlock d e) (wp_Mo_block d' e')
  | 0, _ => fun _ _ _ _ _ _ _ _ _ _ _ _ _ _ _ _ _ _ h => False.elim h
  | e + 1, 0 => fun _ _ _ _ _ _ _ _ _ _ _ _ _ _ _ _ _ _ _ h => False.elim h
  | e + 1, e' + 1 => fun g nm nd w op m PC PT PM n km hi tp c rg eo o0 o9 hC hM => rl_blockF (rl_block d d' e e') (rd_block d e) g nm nd w op m PC PT PM n km hi tp c rg eo o0 o9 hC hM

