theorem adv0 {c k : Int32} (c0 : (0 : Int32) ≤ c) (e : c + 1 = k) (k9 : k ≤ 4001) (cl : c < k) : (k - (1 : Int32)) ≤ c ∧ ¬ c < 0 := by
  constructor <;> grind
/-- at the end nothing is passed -/
theorem rl_pass0 {tx : Nat → Int32} {sz : Int32} {pl ln : Nat → Int32} {g : T_Gr} {nd : T_Nd} {w : T_Wd} {m : T_Mo} {PC : Unit → T_Gr × T_Wd → Prop} {PT : T_Gr × T_Wd → Prop} (rw_ : RW tx sz pl ln w m) (z : w.2.2.2.2.2.2.2.2.2.2.1 = 0) (n9 : nd.2.2.2.2.2.2.2.2.2.2.1 ≤ 1000) (hC : wp_Gr_pass g nd w PC PT) : ∃ w', PC () (g, w') := by
  obtain ⟨r1, r2, r3, r4, r5, r6, r7, r8, r9, r10⟩ := rw_
  have ci : w.2.2.2.2.2.2.2.1.toNatClampNeg < w.2.2.2.2.2.2.1.toNatClampNeg := by
    rw [Int32.lt_iff_toInt_lt] at r5
    rw [Int32.le_iff_toInt_le, show (0 : Int32).toInt = 0 from rfl] at r4
    show w.2.2.2.2.2.2.2.1.toInt.toNat < w.2.2.2.2.2.2.1.toInt.toNat
    omega
  have nl : w.2.2.2.2.2.2.2.1.toNatClampNeg + 1 = w.2.2.2.2.2.2.1.toNatClampNeg := (r2 _ ci).mp (Or.inl (r6.1.symm.trans z))
  have iu : (w.2.2.2.2.2.2.2.1 + (1 : Int32)).toNatClampNeg = w.2.2.2.2.2.2.2.1.toNatClampNeg + 1 := by
    rcases Int32.le_iff_lt_or_eq.mp (show w.2.2.2.2.2.2.2.1 ≤ 4000 by grind) with q | q
    · exact ix_up r4 q
    · rw [q]; decide
  have e1 : w.2.2.2.2.2.2.2.1 + (1 : Int32) = w.2.2.2.2.2.2.1 := by
    apply Int32.toInt_inj.mp
    have e : (w.2.2.2.2.2.2.2.1 + (1 : Int32)).toInt.toNat = w.2.2.2.2.2.2.1.toInt.toNat := iu.trans nl
    have a : (0 : Int32) ≤ w.2.2.2.2.2.2.2.1 + (1 : Int32) := by grind
    rw [Int32.le_iff_toInt_le, show (0 : Int32).toInt = 0 from rfl] at a
    have b : (0 : Int32) ≤ w.2.2.2.2.2.2.1 := by grind
    rw [Int32.le_iff_toInt_le, show (0 : Int32).toInt = 0 from rfl] at b
    omega
  obtain ⟨a, b⟩ := adv0 r4 e1 r3 r5
  unfold wp_Gr_pass wp_Nd_isTooMany wp_Wd_advance at hC
  replace hC := (((((hC.1 n9).1 rfl).1 a).2 b).2.2.2.2)
  have z' : w.2.1 w.2.2.2.2.2.2.2.1.toNatClampNeg = 0 := r6.1.symm.trans z
  exact ⟨_, hC.2 (by show ¬ w.2.1 w.2.2.2.2.2.2.2.1.toNatClampNeg = 131; rw [z']; decide)⟩
/-- what is left of readInto behind the words -/
def KF (pr : T_Pr) (PC : Unit → T_Nm × T_Nd × T_Gr × T_Wd → Prop) (PT : T_Nm × T_Nd × T_Gr × T_Wd → Prop) : T_Nm → T_Nd → T_Gr → T_Wd → Int32 → Prop := fun nm nd g w _ => wp_Gr_take g nd w (0 : Int32) (fun (r16 : Unit) (u16 : T_Gr × T_Wd) => wp_Pr_finish pr nm nd (fun (r17 : Unit) (u17 : T_Nm × T_Nd) => PC () (u17.1, u17.2, u16.1, u16.2))) (fun (u : T_Gr × T_Wd) => PT (nm, nd, u.1, u.2))
def KG (PM : Int32 → T_Mo → Prop) : T_Mo → Int32 → Prop := fun z x1 => narrow .boolean (.int x1) = .int x1 ∧ PM x1 z
/-- how a text ends for both -/
def OF (tx : Nat → Int32) (sz : Int32) (pl ln : Nat → Int32) (m0 : T_Mo) (pr : T_Pr) (PC : Unit → T_Nm × T_Nd × T_Gr × T_Wd → Prop) (PT : T_Nm × T_Nd × T_Gr × T_Wd → Prop) (PM : Int32 → T_Mo → Prop) : Prop := (∃ nm nd w m n km c asc g' w', wp_Pr_finish pr nm nd (fun (r17 : Unit) (u17 : T_Nm × T_Nd) => PC () (u17.1, u17.2, g', w')) ∧ PM 1 m ∧ TP tx sz pl ln m0 nm nd w m n km c asc) ∨ (∃ u m', PT u ∧ PM 0 m' ∧ FO m0 m')
theorem dm_KF {pr : T_Pr} {PC : Unit → T_Nm × T_Nd × T_Gr × T_Wd → Prop} {PT : T_Nm × T_Nd × T_Gr × T_Wd → Prop} {nm : T_Nm} {nd : T_Nd} {g : T_Gr} {w : T_Wd} {x : Int32} (d9 : DM nd w) (h : KF pr PC PT nm nd g w x) : ∃ u, PT u := by
  unfold KF at h
  obtain ⟨u, h⟩ := dm_take d9 (by unfold dead sg; decide) h
  exact ⟨_, h⟩
theorem dm_147 {d dB : Nat} {pr : T_Pr} {PC : Unit → T_Nm × T_Nd × T_Gr × T_Wd → Prop} {PT : T_Nm × T_Nd × T_Gr × T_Wd → Prop} {n : Nat} {nm : T_Nm} {nd : T_Nd} {g : T_Gr} {w : T_Wd} {x : Int32} (d9 : DM nd w) (h : wp_Gr_readInto_L147 d dB pr (KF pr PC PT) PC PT n nm nd g w x) : ∃ u, PT u := by
  cases n with
  | zero => exact False.elim h
  | succ n =>
  rw [wp_Gr_readInto_L147] at h
  rcases br_el h with ⟨q, h⟩ | ⟨q, h⟩
  · exact dm_KF d9 h
  · rcases iv_isBetween h with ⟨b, h⟩ | ⟨b, h⟩
    · have big : (1000 : Int32) < nd.2.2.2.2.2.2.2.2.2.2.1 := d9.elim (fun q => absurd (Int32.le_trans (by decide) b.1) (dead_n q).1) id
      obtain ⟨u, h⟩ := rd_statement big (h.2 (by decide))
      exact ⟨_, h⟩
    · exact dm_KF d9 (h.1 rfl)
theorem dm_22 {d dB : Nat} {pr : T_Pr} {PC : Unit → T_Nm × T_Nd × T_Gr × T_Wd → Prop} {PT : T_Nm × T_Nd × T_Gr × T_Wd → Prop} {n : Nat} {nm : T_Nm} {nd : T_Nd} {g : T_Gr} {w : T_Wd} {x : Int32} (d9 : DM nd w) (h : wp_Gr_readInto_L22 d dB pr (fun nm nd g w _ => ∃ k9 : Nat, wp_Gr_readInto_L147 d dB pr (KF pr PC PT) PC PT k9 nm nd g w (0 : Int32)) PC PT n nm nd g w x) : ∃ u, PT u := by
  cases n with
  | zero => exact False.elim h
  | succ n =>
  rw [wp_Gr_readInto_L22] at h
  rcases br_el h with ⟨q, h⟩ | ⟨q, h⟩
  · obtain ⟨k, h⟩ := h
    exact dm_147 d9 h
  · rcases iv_isBetween h with ⟨b, h⟩ | ⟨b, h⟩
    · have big : (1000 : Int32) < nd.2.2.2.2.2.2.2.2.2.2.1 := d9.elim (fun q => absurd (Int32.le_trans (by decide) b.1) (dead_n q).1) id
      replace h := h.2 (by decide)
      unfold wp_Gr_readNewName at h
      obtain ⟨u, h⟩ := dm_pass big h
      exact ⟨_, h⟩
    · obtain ⟨k, h⟩ := h.1 rfl
      exact dm_147 d9 h
theorem fl_44 {d dB : Nat} {PM : Int32 → T_Mo → Prop} {n : Nat} {m : T_Mo} (h : wp_Mo_program_L44 d dB (KG PM) PM n m 0) : PM 0 m := by
  cases n with
  | zero => exact False.elim h
  | succ n =>
  rw [wp_Mo_program_L44] at h
  exact (h.1 rfl).2
theorem fl_5 {d dB : Nat} {PM : Int32 → T_Mo → Prop} {n : Nat} {m : T_Mo} (h : wp_Mo_program_L5 d dB (fun z x1 => ∃ k9 : Nat, wp_Mo_program_L44 d dB (KG PM) PM k9 z x1) PM n m 0) : PM 0 m := by
  cases n with
  | zero => exact False.elim h
  | succ n =>
  rw [wp_Mo_program_L5] at h
  obtain ⟨k, h⟩ := h.1 rfl
  exact fl_44 h
set_option maxHeartbeats 2000000 in
theorem rl_147 {tx : Nat → Int32} {sz : Int32} {pl ln : Nat → Int32} {d d' dB dB' : Nat} {m0 : T_Mo} {pr : T_Pr} {PC : Unit → T_Nm × T_Nd × T_Gr × T_Wd → Prop} {PT : T_Nm × T_Nd × T_Gr × T_Wd → Prop} {PM : Int32 → T_Mo → Prop} : ∀ (kC kM : Nat) (g : T_Gr) (nm : T_Nm) (nd : T_Nd) (w : T_Wd) (m : T_Mo) (n km c : Nat) (asc : List Nat) (x2 : Int32), wp_Gr_readInto_L147 d dB pr (KF pr PC PT) PC PT kC nm nd g w x2 → wp_Mo_program_L44 d' dB' (KG PM) PM kM m 1 → TP tx sz pl ln m0 nm nd w m n km c asc → (0 : Int32) ≤ x2 → x2 ≤ w.2.2.2.2.2.2.2.1 → OF tx sz pl ln m0 pr PC PT PM := by
  intro kC
  induction kC with
  | zero => intro kM g nm nd w m n km c asc x2 h; exact False.elim h
  | succ kC ih =>
    intro kM g nm nd w m n km c asc x2 hC hM t x0 xc
    cases kM with
    | zero => exact False.elim hM
    | succ kM =>
    have t' := t
    obtain ⟨rg, np, op0, kl, ch, fo0⟩ := t'
    have n9 := NR_cnt rg.2.1
    have z0 : w.2.2.2.2.2.2.2.2.2.2.1 = 0 ↔ m.1.1.1.2.2.2 = 1 := Z_eq (RW_z rg.1) (by decide) (by decide) (by decide)
    rw [wp_Gr_readInto_L147] at hC
    rw [wp_Mo_program_L44] at hM
    replace hM := hM.2 (by decide)
    have fin : KF pr PC PT nm nd g w x2 → ¬ ((200 : Int32) ≤ w.2.2.2.2.2.2.2.2.2.2.1 ∧ w.2.2.2.2.2.2.2.2.2.2.1 ≤ 212) → OF tx sz pl ln m0 pr PC PT PM := by
      intro hC nb
      unfold KF wp_Gr_take wp_Gr_refuse at hC
      rcases br_el hC with ⟨e, hC⟩ | ⟨e, hC⟩
      · obtain ⟨w', hC⟩ := rl_pass0 rg.1 e n9 hC
        exact Or.inl ⟨nm, nd, w, m, n, km, c, asc, _, w', hC, (hM.1 (z0.mp e)).2, t⟩
      · replace hM := st_none rg.1 nb (hM.2 (fun q => e (z0.mpr q)))
        have hM := fl_44 ((hM.1 (by decide)).1 rfl)
        exact Or.inr ⟨_, _, hC, hM, fo0⟩
    by_cases b : (200 : Int32) ≤ w.2.2.2.2.2.2.2.2.2.2.1 ∧ w.2.2.2.2.2.2.2.2.2.2.1 ≤ 212
    · have nz : ¬ w.2.2.2.2.2.2.2.2.2.2.1 = 0 := fun q => by rw [q] at b; exact absurd b.1 (by decide)
      have nx : ¬ (4000 : Int32) ≤ x2 := fun q => absurd (Int32.le_trans q xc) (Int32.not_le.mpr (op_next rg.1 nz))
      rcases iv_isBetween (hC.2 nx) with ⟨-, hC⟩ | ⟨q, -⟩
      · replace hC := hC.2 (by decide)
        replace hM := hM.2 (fun q => nz (z0.mpr q))
        rcases rl_statement (rl_block d d' dB dB') (rd_block d dB) rg b op0 (by decide) (by decide) hC hM with ⟨g2, nm2, nd2, w2, m2, n2, km2, hC, hM, rg2, e2⟩ | ⟨u, r', m2, hC, hM, rn, fo2⟩ | ⟨g2, nm2, nd2, w2, r', m2, hC, dd, hM, rn, fo2⟩
        · obtain ⟨f1, f2, f3, f4, f5, f6, f7, f8, f9⟩ := e2
          have n92 : n2 + 1 ≤ 1000 := rg2.2.1.2.2.2.1
          have s2r := rg2.2.2.2.2.2.2
          have s0 := rg.2.2.2.2.2.2
          have on2 := on_n1 (k := n2) (by omega)
          replace hM := (hM.2 on2.2.1).2 (by decide)
          unfold wp_Mo_base at hM
          dsimp only at hM
          replace hM := hM.2
          have al9 : asc.length < 1000 := by omega
          rw [Bs_at rg2.2.1.1 rg2.2.2.2.2.2.1 al9, rg2.2.2.2.2.2.1, on_succ (by omega)] at hM
          have xs := x_up x0 xc f9 (cur9 rg2.1).1
          have ct : m2.2.1.1.1.2 = m.2.1.1.1.2 := f7.2.2.1
          have bs : Bs m2.1.2.1.2.1 = Bs m.1.2.1.2.1 := by rw [f8.1]
          have el : (asc ++ [n2]).length = asc.length + 1 := by rw [List.length_append]; rfl
          have ixn : (Int32.ofNat n).toNatClampNeg = n := ix_on (by omega)
          have np2 : m2.2.1.1.2.2.1 = Int32.ofNat c := f7.2.2.2.2.2.1.trans np
          have tN : TP tx sz pl ln m0 nm2 nd2 w2 (((((m2.1.1.1.1.1, m2.1.1.1.1.2), (m2.1.1.1.2.1, (m2.1.1.1.2.2.1, m2.1.1.1.2.2.2))), ((m2.1.1.2.1.1, m2.1.1.2.1.2), (m2.1.1.2.2.1, (m2.1.1.2.2.2.1, m2.1.1.2.2.2.2)))), (((m2.1.2.1.1.1, m2.1.2.1.1.2), (m2.1.2.1.2.1, (m2.1.2.1.2.2.1, m2.1.2.1.2.2.2))), ((m2.1.2.2.1.1, (m2.1.2.2.1.2.1, m2.1.2.2.1.2.2)), (m2.1.2.2.2.1, (m2.1.2.2.2.2.1, m2.1.2.2.2.2.2))))), ((((m2.2.1.1.1.1, (upd m2.2.1.1.1.2 (Bs m2.1.2.1.2.1 + asc.length) (Int32.ofNat n2))), ((Int32.ofNat (asc.length + 1)), (m2.2.1.1.2.2.1, m2.2.1.1.2.2.2))), ((m2.2.1.2.1.1, m2.2.1.2.1.2), (m2.2.1.2.2.1, (m2.2.1.2.2.2.1, m2.2.1.2.2.2.2)))), (((m2.2.2.1.1.1, m2.2.2.1.1.2), (m2.2.2.1.2.1, (m2.2.2.1.2.2.1, m2.2.2.1.2.2.2))), ((m2.2.2.2.1.1, (m2.2.2.2.1.2.1, m2.2.2.2.1.2.2)), (m2.2.2.2.2.1, (m2.2.2.2.2.2.1, m2.2.2.2.2.2.2)))))) (n2 + 1) km2 c (asc ++ [n2]) := by
            refine ⟨⟨rg2.1, rg2.2.1, rg2.2.2.1, rg2.2.2.2.1, rg2.2.2.2.2.1, ?_, by rw [el]; omega⟩, np2, f7.2.1.trans op0, ?_, ?_, ?_⟩
            · rw [el]
            · refine KL_app asc [n2] _ (KL_congr asc _ (show KL m.2.1.1.1.2 (Bs m2.1.2.1.2.1) asc by rw [bs]; exact kl) (fun j h1 h2 => ?_)) ⟨upd_at, trivial⟩
              show upd m2.2.1.1.1.2 (Bs m2.1.2.1.2.1 + asc.length) (Int32.ofNat n2) j = m.2.1.1.1.2 j
              have h2' : j < Bs m2.1.2.1.2.1 + asc.length := h2
              rw [upd_ltx h2', ct]
            · rw [List.reverse_append]
              refine ⟨rfl, ?_, ?_, ?_⟩
              · rw [f3, ixn]
              · rw [f3, ixn]; exact f1
              · rw [f3, ixn]
                exact CH_congr _ _ ch (fun k hk => (f6 k hk).1)
            · refine FO_trans (FO_trans fo0 f8) ⟨rfl, rfl, rfl, rfl, rfl, fun j hj => ⟨rfl, rfl, rfl, rfl, rfl, rfl, rfl, ?_⟩, fun j hj => ⟨rfl, rfl, rfl, rfl⟩, fun j hj => rfl⟩
              exact upd_ne (by omega)
          exact ih kM _ _ _ _ _ _ _ _ _ _ hC hM tN xs.1 xs.2
        · exact Or.inr ⟨_, m2, hC, fl_44 ((hM.1 rn).1 rfl), FO_trans fo0 fo2⟩
        · obtain ⟨u, hC⟩ := dm_147 dd hC
          exact Or.inr ⟨_, m2, hC, fl_44 ((hM.1 rn).1 rfl), FO_trans fo0 fo2⟩
      · exact absurd b q
    · by_cases q : (4000 : Int32) ≤ x2
      · exact fin (hC.1 q) b
      · rcases iv_isBetween (hC.2 q) with ⟨q2, -⟩ | ⟨-, hC⟩
        · exact absurd q2 b
        · exact fin (hC.1 rfl) b
theorem cs_of {c : Int32} (h : (213 : Int32) ≤ c ∧ c ≤ 215) : c = 213 ∨ c = 214 ∨ c = 215 := by
  obtain ⟨a, b⟩ := h
  grind
set_option maxHeartbeats 2000000 in
theorem rl_22 {tx : Nat → Int32} {sz : Int32} {pl ln : Nat → Int32} {d d' dB dB' : Nat} {m0 : T_Mo} {pr : T_Pr} {PC : Unit → T_Nm × T_Nd × T_Gr × T_Wd → Prop} {PT : T_Nm × T_Nd × T_Gr × T_Wd → Prop} {PM : Int32 → T_Mo → Prop} : ∀ (kC kM : Nat) (g : T_Gr) (nm : T_Nm) (nd : T_Nd) (w : T_Wd) (m : T_Mo) (n km c : Nat) (asc : List Nat) (x2 : Int32), wp_Gr_readInto_L22 d dB pr (fun nm nd g w _ => ∃ k9 : Nat, wp_Gr_readInto_L147 d dB pr (KF pr PC PT) PC PT k9 nm nd g w (0 : Int32)) PC PT kC nm nd g w x2 → wp_Mo_program_L5 d' dB' (fun z x1 => ∃ k9 : Nat, wp_Mo_program_L44 d' dB' (KG PM) PM k9 z x1) PM kM m 1 → TP tx sz pl ln m0 nm nd w m n km c asc → (0 : Int32) ≤ x2 → x2 ≤ w.2.2.2.2.2.2.2.1 → OF tx sz pl ln m0 pr PC PT PM := by
  intro kC
  induction kC with
  | zero => intro kM g nm nd w m n km c asc x2 h; exact False.elim h
  | succ kC ih =>
    intro kM g nm nd w m n km c asc x2 hC hM t x0 xc
    cases kM with
    | zero => exact False.elim hM
    | succ kM =>
    have rg := t.1
    have z := RW_z rg.1
    have z24 : w.2.2.2.2.2.2.2.2.2.2.1 = 215 ↔ m.1.1.1.2.2.2 = (1000 : Int32) + 24 := Z_eq z (by decide) (by decide) (by decide)
    have z30 : w.2.2.2.2.2.2.2.2.2.2.1 = 213 ↔ m.1.1.1.2.2.2 = (1000 : Int32) + 30 := Z_eq z (by decide) (by decide) (by decide)
    have z31 : w.2.2.2.2.2.2.2.2.2.2.1 = 214 ↔ m.1.1.1.2.2.2 = (1000 : Int32) + 31 := Z_eq z (by decide) (by decide) (by decide)
    rw [wp_Gr_readInto_L22] at hC
    rw [wp_Mo_program_L5] at hM
    replace hM := hM.2 (by decide)
    have mh : ((w.2.2.2.2.2.2.2.2.2.2.1 = 213 ∨ w.2.2.2.2.2.2.2.2.2.2.1 = 214 ∨ w.2.2.2.2.2.2.2.2.2.2.1 = 215) ∧ wp_Mo_declaration d' dB' m (fun (r7 : Int32) (u7 : T_Mo) => wp_Mo_program_L5 d' dB' (fun z x1 => ∃ k9 : Nat, wp_Mo_program_L44 d' dB' (KG PM) PM k9 z x1) PM kM u7 r7)) ∨ (¬ (w.2.2.2.2.2.2.2.2.2.2.1 = 213 ∨ w.2.2.2.2.2.2.2.2.2.2.1 = 214 ∨ w.2.2.2.2.2.2.2.2.2.2.1 = 215) ∧ ∃ k9 : Nat, wp_Mo_program_L44 d' dB' (KG PM) PM k9 m 1) := by
      rcases iv_isWord hM with ⟨q, hM⟩ | ⟨q, hM⟩
      · exact Or.inl ⟨Or.inl (z30.mpr q), hM.2 (by decide)⟩
      · rcases iv_isWord (hM.1 rfl) with ⟨q1, hM⟩ | ⟨q1, hM⟩
        · exact Or.inl ⟨Or.inr (Or.inl (z31.mpr q1)), hM.2 (by decide)⟩
        · rcases iv_isWord (hM.1 rfl) with ⟨q2, hM⟩ | ⟨q2, hM⟩
          · exact Or.inl ⟨Or.inr (Or.inr (z24.mpr q2)), hM.2 (by decide)⟩
          · refine Or.inr ⟨?_, hM.1 rfl⟩
            rintro (e | e | e)
            · exact q (z30.mp e)
            · exact q1 (z31.mp e)
            · exact q2 (z24.mp e)
    by_cases b : (213 : Int32) ≤ w.2.2.2.2.2.2.2.2.2.2.1 ∧ w.2.2.2.2.2.2.2.2.2.2.1 ≤ 215
    · have nz : ¬ w.2.2.2.2.2.2.2.2.2.2.1 = 0 := fun q => by rw [q] at b; exact absurd b.1 (by decide)
      have nx : ¬ (4000 : Int32) ≤ x2 := fun q => absurd (Int32.le_trans q xc) (Int32.not_le.mpr (op_next rg.1 nz))
      rcases iv_isBetween (hC.2 nx) with ⟨-, hC⟩ | ⟨q, -⟩
      · replace hC := hC.2 (by decide)
        rcases mh with ⟨cs, hM⟩ | ⟨q, -⟩
        · rcases rl_decl (CT := fun nm nd g w => wp_Gr_readInto_L22 d dB pr (fun nm nd g w _ => ∃ k9 : Nat, wp_Gr_readInto_L147 d dB pr (KF pr PC PT) PC PT k9 nm nd g w (0 : Int32)) PC PT kC nm nd g w (x2 + (1 : Int32))) t cs hC hM with ⟨nm2, nd2, g2, w2, m2, n2, km2, c2, asc2, hC, hM, t2, cw⟩ | ⟨u, m2, hC, hM, fo⟩ | ⟨nm2, nd2, g2, w2, m2, hC, dd, hM, fo⟩
          · have xs := x_up x0 xc cw (cur9 t2.1.1).1
            exact ih kM _ _ _ _ _ _ _ _ _ _ hC hM t2 xs.1 xs.2
          · exact Or.inr ⟨_, m2, hC, fl_5 hM, fo⟩
          · obtain ⟨u, hC⟩ := dm_22 dd hC
            exact Or.inr ⟨_, m2, hC, fl_5 hM, fo⟩
        · exact absurd (cs_of b) q
      · exact absurd b q
    · rcases mh with ⟨cs, -⟩ | ⟨-, kM2, hM⟩
      · exact absurd (by rcases cs with e | e | e <;> rw [e] <;> decide) b
      · by_cases q : (4000 : Int32) ≤ x2
        · obtain ⟨kC2, hC⟩ := hC.1 q
          exact rl_147 kC2 kM2 _ _ _ _ _ _ _ _ _ _ hC hM t (by decide) (cur9 rg.1).2
        · rcases iv_isBetween (hC.2 q) with ⟨q2, -⟩ | ⟨-, hC⟩
          · exact absurd q2 b
          · obtain ⟨kC2, hC⟩ := hC.1 rfl
            exact rl_147 kC2 kM2 _ _ _ _ _ _ _ _ _ _ hC hM t (by decide) (cur9 rg.1).2

