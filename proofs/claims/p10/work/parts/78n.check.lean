theorem iv_unused {nm : T_Nm} {j c : Nat} {so : Int32} {P : Int32 → Unit → Prop} (e : nm.2.2.2.2 = Int32.ofNat c) (hj : j < c) (c9 : c ≤ 100) (h : wp_Nm_isUnused nm (Int32.ofNat j) so P) : ∃ r, P r () ∧ (¬ r = 0 ↔ (nm.2.1 j = so ∧ nm.2.2.2.1 j = 0)) := by
  unfold wp_Nm_isUnused at h
  replace h := ((iv_hasN h e hj c9).2 (by decide)).2
  rw [ix_on (by omega)] at h
  rcases br_el h with ⟨q, h⟩ | ⟨q, h⟩
  · rcases br_el h.2 with ⟨q2, h⟩ | ⟨q2, h⟩
    · exact ⟨_, h, fun _ => ⟨q, q2⟩, fun _ => by decide⟩
    · exact ⟨_, h, fun z => absurd rfl z, fun z => absurd z.2 q2⟩
  · exact ⟨_, h, fun z => absurd rfl z, fun z => absurd z.1 q⟩
theorem iv_late {nd : T_Nd} {i n : Nat} {P : Int32 → Unit → Prop} (e : nd.2.2.2.2.2.2.2.2.2.2.1 = Int32.ofNat n) (n9 : n ≤ 1000) (hi : i < n) (h : wp_Nd_isLate nd (Int32.ofNat i) P) : ∃ r, P r () ∧ (¬ r = 0 ↔ ¬ nd.2.2.2.2.2.2.2.2.2.1 i = 0) := by
  unfold wp_Nd_isLate at h
  replace h := ((iv_hasG e n9 hi h).2 (by decide)).2
  rw [ix_on (by omega)] at h
  rcases br_el h with ⟨q, h⟩ | ⟨q, h⟩
  · exact ⟨_, h, fun z => absurd rfl z, fun z => absurd q z⟩
  · exact ⟨_, h, fun _ => q, fun _ => by decide⟩
theorem iv_barred {st : T_St} {a : Int32} {P : Int32 → Unit → Prop} (a0 : (0 : Int32) ≤ a) (a9 : a < 64) (h : wp_St_isBarred st a P) : ∃ r, P r () ∧ (¬ r = 0 ↔ bt st.2 a) := by
  unfold wp_St_isBarred at h
  replace h := (h.2 (Int32.not_lt.mpr a0)).2 (Int32.not_le.mpr a9)
  rcases br_el h with ⟨q, h⟩ | ⟨q, h⟩
  · exact ⟨_, h, fun _ => q, fun _ => by decide⟩
  · exact ⟨_, h, fun z => absurd rfl z, fun z => absurd z q⟩
theorem sr_eq {s r : Int32} (h : sr s r) : (r = 24 ↔ s = 215) ∧ (r = 31 ↔ s = 214) ∧ (r = 30 ↔ s = 213) := by
  rcases h with ⟨e1, e2⟩ | ⟨e1, e2⟩ | ⟨e1, e2⟩ <;> rw [e1, e2] <;> decide
theorem act_in {nd : T_Nd} {m : T_Mo} {n : Nat} {kf : Nat → List Nat} {asc : List Nat} (fin : Fin m) (f : FK nd m n kf asc) {i : Nat} (hi : i < n) (k : nd.1 i = 22) : (0 : Int32) ≤ (nd.2.2.1 i).toInt32 ∧ (nd.2.2.1 i).toInt32 < 64 := by
  obtain ⟨hh, e1, e2, n9, per, -⟩ := f
  obtain ⟨p1, pv, -⟩ := per i hi
  obtain ⟨-, ⟨km, -, -, pr⟩, -⟩ := fin
  have no := pr.1 (Int32.ofNat i) (i_nn (by omega)) (by rw [e2, on_lt (by omega) (by omega)]; exact hi)
  unfold NOk at no
  have x1 : ((1000 : Int32) * m.1.2.1.2.1 + Int32.ofNat i).toNatClampNeg = Bs ((1 : Int32) - m.1.2.1.2.1) + i := no_ix hh (by omega)
  rw [x1, ← p1, ← pv] at no
  exact no.2.2.2.2.2.1.2 k
/-- a row that can be remarked on -/
def RO (k : Int32) (n c j : Nat) : Prop := ((k = 2 ∨ k = 3) ∧ j < n) ∨ ((k = 1 ∨ k = 4 ∨ k = 5) ∧ j < c)
theorem iv_remark {nm : T_Nm} {nd : T_Nd} {m : T_Mo} {n c : Nat} {kf : Nat → List Nat} {asc : List Nat} (pa : PA nm nd m n c kf asc) {M : Nat → Int32} {k : Int32} {j : Nat} (j9 : j < 1000) {PM : Int32 → Unit → Prop} (h : wp_Mo_isRemark (((((m.1.1.1.1.1, m.1.1.1.1.2), (m.1.1.1.2.1, (m.1.1.1.2.2.1, m.1.1.1.2.2.2))), ((m.1.1.2.1.1, m.1.1.2.1.2), (m.1.1.2.2.1, (m.1.1.2.2.2.1, m.1.1.2.2.2.2)))), (((m.1.2.1.1.1, m.1.2.1.1.2), (m.1.2.1.2.1, (m.1.2.1.2.2.1, m.1.2.1.2.2.2))), ((m.1.2.2.1.1, (m.1.2.2.1.2.1, m.1.2.2.1.2.2)), (m.1.2.2.2.1, (m.1.2.2.2.2.1, m.1.2.2.2.2.2))))), ((((m.2.1.1.1.1, m.2.1.1.1.2), (m.2.1.1.2.1, (m.2.1.1.2.2.1, m.2.1.1.2.2.2))), ((m.2.1.2.1.1, m.2.1.2.1.2), (m.2.1.2.2.1, (m.2.1.2.2.2.1, m.2.1.2.2.2.2)))), (((m.2.2.1.1.1, m.2.2.1.1.2), (m.2.2.1.2.1, (m.2.2.1.2.2.1, m.2.2.1.2.2.2))), ((m.2.2.2.1.1, (M, m.2.2.2.1.2.2)), (m.2.2.2.2.1, (m.2.2.2.2.2.1, m.2.2.2.2.2.2)))))) k (Int32.ofNat j) PM) : ∃ x3 y0, wp_Mo_isRemark_J49 (((((m.1.1.1.1.1, m.1.1.1.1.2), (m.1.1.1.2.1, (m.1.1.1.2.2.1, m.1.1.1.2.2.2))), ((m.1.1.2.1.1, m.1.1.2.1.2), (m.1.1.2.2.1, (m.1.1.2.2.2.1, m.1.1.2.2.2.2)))), (((m.1.2.1.1.1, m.1.2.1.1.2), (m.1.2.1.2.1, (m.1.2.1.2.2.1, m.1.2.1.2.2.2))), ((m.1.2.2.1.1, (m.1.2.2.1.2.1, m.1.2.2.1.2.2)), (m.1.2.2.2.1, (m.1.2.2.2.2.1, m.1.2.2.2.2.2))))), ((((m.2.1.1.1.1, m.2.1.1.1.2), (m.2.1.1.2.1, (m.2.1.1.2.2.1, m.2.1.1.2.2.2))), ((m.2.1.2.1.1, m.2.1.2.1.2), (m.2.1.2.2.1, (m.2.1.2.2.2.1, m.2.1.2.2.2.2)))), (((m.2.2.1.1.1, m.2.2.1.1.2), (m.2.2.1.2.1, (m.2.2.1.2.2.1, m.2.2.1.2.2.2))), ((m.2.2.2.1.1, (M, m.2.2.2.1.2.2)), (m.2.2.2.2.1, (m.2.2.2.2.2.1, m.2.2.2.2.2.2)))))) PM k (Int32.ofNat j) x3 y0 ∧ (j < c → x3 = m.2.1.2.1.2 (Ns ((1 : Int32) - m.1.2.1.2.1) + j)) ∧ (j < n → y0 = nd.1 j) := by
  obtain ⟨⟨hh, e1, e2, n9, per, -⟩, -, -, b1, b2, c9, -⟩ := pa
  have zz : ∃ z : T_Mo, z = (((((m.1.1.1.1.1, m.1.1.1.1.2), (m.1.1.1.2.1, (m.1.1.1.2.2.1, m.1.1.1.2.2.2))), ((m.1.1.2.1.1, m.1.1.2.1.2), (m.1.1.2.2.1, (m.1.1.2.2.2.1, m.1.1.2.2.2.2)))), (((m.1.2.1.1.1, m.1.2.1.1.2), (m.1.2.1.2.1, (m.1.2.1.2.2.1, m.1.2.1.2.2.2))), ((m.1.2.2.1.1, (m.1.2.2.1.2.1, m.1.2.2.1.2.2)), (m.1.2.2.2.1, (m.1.2.2.2.2.1, m.1.2.2.2.2.2))))), ((((m.2.1.1.1.1, m.2.1.1.1.2), (m.2.1.1.2.1, (m.2.1.1.2.2.1, m.2.1.1.2.2.2))), ((m.2.1.2.1.1, m.2.1.2.1.2), (m.2.1.2.2.1, (m.2.1.2.2.2.1, m.2.1.2.2.2.2)))), (((m.2.2.1.1.1, m.2.2.1.1.2), (m.2.2.1.2.1, (m.2.2.1.2.2.1, m.2.2.1.2.2.2))), ((m.2.2.2.1.1, (M, m.2.2.2.1.2.2)), (m.2.2.2.2.1, (m.2.2.2.2.2.1, m.2.2.2.2.2.2)))))) ∧ wp_Mo_isRemark z k (Int32.ofNat j) PM ∧ z.2.1.2.2.2.2 = Int32.ofNat n ∧ z.2.2.1.1.2 = Int32.ofNat c ∧ z.1.2.1.2.1 = m.1.2.1.2.1 ∧ z.1.2.1.2.2.2 = m.1.2.1.2.2.2 ∧ z.2.1.2.1.2 = m.2.1.2.1.2 := ⟨_, rfl, h, e2, b2, rfl, rfl, rfl⟩
  obtain ⟨z, ez, h, z1, z2, z3, z4, z5⟩ := zz
  rw [← ez]
  unfold wp_Mo_isRemark wp_Mo_isRemark_J26 wp_Mo_node1 at h
  rw [z2, z1, z3, z4, z5] at h
  have key : ∀ x3 : Int32, ((Int32.ofNat n ≤ Int32.ofNat j → wp_Mo_isRemark_J49 z PM k (Int32.ofNat j) x3 (-1 : Int32)) ∧ (¬ Int32.ofNat n ≤ Int32.ofNat j → vp_in ((1000 : Int32) * m.1.2.1.2.1 + Int32.ofNat j) 2000 ∧ wp_Mo_isRemark_J49 z PM k (Int32.ofNat j) x3 (m.1.2.1.2.2.2 ((1000 : Int32) * m.1.2.1.2.1 + Int32.ofNat j).toNatClampNeg))) → ∃ y0, wp_Mo_isRemark_J49 z PM k (Int32.ofNat j) x3 y0 ∧ (j < n → y0 = nd.1 j) := by
    intro x3 h
    rcases br_el h with ⟨q, h⟩ | ⟨q, h⟩
    · exact ⟨_, h, fun z => by rw [on_le (by omega) (by omega)] at q; omega⟩
    · rw [on_le (by omega) (by omega)] at q
      refine ⟨_, h.2, fun z => ?_⟩
      rw [no_ix hh (by omega)]; exact (per j z).1.symm
  rcases br_el h with ⟨q, h⟩ | ⟨q, h⟩
  · obtain ⟨y0, h, k1⟩ := key _ h
    exact ⟨_, y0, h, fun z => by rw [on_le (by omega) (by omega)] at q; omega, k1⟩
  · obtain ⟨y0, h, k1⟩ := key _ h.2
    refine ⟨_, y0, h, fun z => ?_, k1⟩
    rw [nn_ix hh (by omega)]
set_option maxHeartbeats 1000000 in
/-- both remark on the same -/
theorem rl_remark {nm : T_Nm} {nd : T_Nd} {m : T_Mo} {n c : Nat} {kf : Nat → List Nat} {asc : List Nat} (pa : PA nm nd m n c kf asc) {st : T_St} {pr : T_Pr} {M : Nat → Int32} (br : ∀ i : Int32, (0 : Int32) ≤ i → i < 64 → (bt st.2 i ↔ ¬ m.2.2.2.1.1 i.toNatClampNeg = 0)) (mu : ∀ s, s < c → nm.2.1 s = 215 → (¬ M s = 0 ↔ ¬ nm.2.2.2.1 s = 0)) {k : Int32} {j : Nat} (ro : RO k n c j) {PC PM : Int32 → Unit → Prop} (hC : wp_St_isRemarked st pr nm nd k (Int32.ofNat j) PC) (hM : wp_Mo_isRemark (((((m.1.1.1.1.1, m.1.1.1.1.2), (m.1.1.1.2.1, (m.1.1.1.2.2.1, m.1.1.1.2.2.2))), ((m.1.1.2.1.1, m.1.1.2.1.2), (m.1.1.2.2.1, (m.1.1.2.2.2.1, m.1.1.2.2.2.2)))), (((m.1.2.1.1.1, m.1.2.1.1.2), (m.1.2.1.2.1, (m.1.2.1.2.2.1, m.1.2.1.2.2.2))), ((m.1.2.2.1.1, (m.1.2.2.1.2.1, m.1.2.2.1.2.2)), (m.1.2.2.2.1, (m.1.2.2.2.2.1, m.1.2.2.2.2.2))))), ((((m.2.1.1.1.1, m.2.1.1.1.2), (m.2.1.1.2.1, (m.2.1.1.2.2.1, m.2.1.1.2.2.2))), ((m.2.1.2.1.1, m.2.1.2.1.2), (m.2.1.2.2.1, (m.2.1.2.2.2.1, m.2.1.2.2.2.2)))), (((m.2.2.1.1.1, m.2.2.1.1.2), (m.2.2.1.2.1, (m.2.2.1.2.2.1, m.2.2.1.2.2.2))), ((m.2.2.2.1.1, (M, m.2.2.2.1.2.2)), (m.2.2.2.2.1, (m.2.2.2.2.2.1, m.2.2.2.2.2.2)))))) k (Int32.ofNat j) PM) : ∃ r r', PC r () ∧ PM r' () ∧ (¬ r = 0 ↔ ¬ r' = 0) := by
  have pa0 := pa
  obtain ⟨fk, fin, sf, b1, b2, c9, b4, hk, hs, hn, hd, sn⟩ := pa
  have n9 := fk.2.2.2.1
  have j9 : j < 1000 := by
    rcases ro with ⟨-, z⟩ | ⟨-, z⟩ <;> omega
  obtain ⟨x3, y0, hM, g1, g2⟩ := iv_remark pa0 j9 hM
  unfold wp_Mo_isRemark_J49 wp_Mo_isRemark_J103 wp_Mo_isRemark_J104 wp_Mo_isRemark_J131 wp_Mo_isRemark_J132 wp_Mo_isRemark_J163 wp_Mo_isRemark_J164 wp_Mo_isRemark_J187 wp_Mo_isRemark_J188 wp_Mo_isRemark_J210 wp_Mo_isRemark_J211 at hM
  unfold wp_St_isRemarked wp_Pr_names wp_Pr_nodes at hC
  rcases ro with ⟨e | e, hj⟩ | ⟨e | e | e, hj⟩
  · -- late
    subst e
    replace hC := hC.2.1 rfl
    replace hM := hM.2.1 rfl
    rw [g2 hj] at hM
    obtain ⟨r, hC, kr⟩ := iv_late fk.2.1 n9 hj hC
    rcases br_el hM with ⟨q, hM⟩ | ⟨q, hM⟩
    · have z := late_no fin fk sf hj (fun w => absurd q (Int32.not_lt.mpr w.1))
      exact ⟨_, _, hC.2, hM.2, fun w => absurd z (kr.mp w), fun w => absurd rfl w⟩
    · rcases br_el hM with ⟨q2, hM⟩ | ⟨q2, hM⟩
      · have z := late_no fin fk sf hj (fun w => absurd q2 (Int32.not_lt.mpr w.2))
        exact ⟨_, _, hC.2, hM.2, fun w => absurd z (kr.mp w), fun w => absurd rfl w⟩
      · obtain ⟨r2, hM, k2⟩ := rl_behind (m := (((((m.1.1.1.1.1, m.1.1.1.1.2), (m.1.1.1.2.1, (m.1.1.1.2.2.1, m.1.1.1.2.2.2))), ((m.1.1.2.1.1, m.1.1.2.1.2), (m.1.1.2.2.1, (m.1.1.2.2.2.1, m.1.1.2.2.2.2)))), (((m.1.2.1.1.1, m.1.2.1.1.2), (m.1.2.1.2.1, (m.1.2.1.2.2.1, m.1.2.1.2.2.2))), ((m.1.2.2.1.1, (m.1.2.2.1.2.1, m.1.2.2.1.2.2)), (m.1.2.2.2.1, (m.1.2.2.2.2.1, m.1.2.2.2.2.2))))), ((((m.2.1.1.1.1, m.2.1.1.1.2), (m.2.1.1.2.1, (m.2.1.1.2.2.1, m.2.1.1.2.2.2))), ((m.2.1.2.1.1, m.2.1.2.1.2), (m.2.1.2.2.1, (m.2.1.2.2.2.1, m.2.1.2.2.2.2)))), (((m.2.2.1.1.1, m.2.2.1.1.2), (m.2.2.1.2.1, (m.2.2.1.2.2.1, m.2.2.1.2.2.2))), ((m.2.2.2.1.1, (M, m.2.2.2.1.2.2)), (m.2.2.2.2.1, (m.2.2.2.2.2.1, m.2.2.2.2.2.2))))))) fin fk hj (Int32.not_lt.mp q) (Int32.not_lt.mp q2) hM
        rcases br_el hM with ⟨q3, hM⟩ | ⟨q3, hM⟩
        · exact ⟨_, _, hC.2, hM.2, fun w => absurd q3 (k2.mpr (kr.mp w)), fun w => absurd rfl w⟩
        · exact ⟨_, _, hC.2, hM.2, fun _ => by decide, fun _ => kr.mpr (k2.mp q3)⟩
  · -- barred
    subst e
    replace hC := hC.2.2.1 rfl
    replace hM := hM.2.2.1 rfl
    rw [g2 hj] at hM
    unfold wp_Nd_kindOf at hC
    replace hC := ((iv_hasG fk.2.1 n9 hj hC).2 (by decide)).2
    rw [ix_on (by omega)] at hC
    rcases br_el hC with ⟨q, hC⟩ | ⟨q, hC⟩
    · replace hC := iv_subj fk.2.1 n9 hj hC
      obtain ⟨a0, a9⟩ := act_in fin fk hj q
      obtain ⟨r, hC, kr⟩ := iv_barred a0 a9 hC
      replace hM := hM.1 q
      unfold wp_Mo_node1 at hM
      try dsimp only at hM
      replace hM := hM.2.2
      rw [no_ix fk.1 (by omega), ← (fk.2.2.2.2.1 j hj).2.1] at hM
      have bb := br _ a0 a9
      rcases br_el hC with ⟨q2, hC⟩ | ⟨q2, hC⟩
      · rcases br_el hM with ⟨q3, hM⟩ | ⟨q3, hM⟩
        · exact ⟨_, _, hC, hM.2, Iff.rfl⟩
        · exact absurd q2 (kr.mpr (bb.mpr q3))
      · rcases br_el hM with ⟨q3, hM⟩ | ⟨q3, hM⟩
        · exact absurd q3 (bb.mp (kr.mp q2))
        · exact ⟨_, _, hC, hM.2, Iff.rfl⟩
    · replace hM := (hM.2 q).2
      exact ⟨_, _, hC, hM, Iff.rfl⟩
  · -- a step that is never done
    subst e
    replace hC := hC.1 rfl
    replace hM := hM.1 rfl
    rw [g1 hj] at hM
    have se := sr_eq (b4 j hj)
    obtain ⟨r, hC, kr⟩ := iv_unused b1 hj c9 hC
    rcases br_el hM with ⟨q, hM⟩ | ⟨q, hM⟩
    · replace hM := hM.2
      try dsimp only at hM
      rw [ix_on (by omega)] at hM
      have so := se.1.mp q
      have mj := mu j hj so
      rcases br_el hM with ⟨q2, hM⟩ | ⟨q2, hM⟩
      · exact ⟨_, _, hC.2, hM.2, fun _ => by decide, fun _ => kr.mpr ⟨so, Classical.byContradiction (fun z => absurd q2 (mj.mpr z))⟩⟩
      · exact ⟨_, _, hC.2, hM.2, fun w => absurd (kr.mp w).2 (mj.mp q2), fun w => absurd rfl w⟩
    · exact ⟨_, _, hC.2, hM.2, fun w => absurd (se.1.mpr (kr.mp w).1) q, fun w => absurd rfl w⟩
  · -- an output
    subst e
    replace hC := hC.2.2.2.1 rfl
    replace hM := hM.2.2.2.1 rfl
    rw [g1 hj] at hM
    have se := sr_eq (b4 j hj)
    obtain ⟨r, hC, kr⟩ := iv_unused b1 hj c9 hC
    rcases br_el hM with ⟨q, hM⟩ | ⟨q, hM⟩
    · have so := se.2.1.mp q
      obtain ⟨r2, hM, k2⟩ := iv_uses (m := (((((m.1.1.1.1.1, m.1.1.1.1.2), (m.1.1.1.2.1, (m.1.1.1.2.2.1, m.1.1.1.2.2.2))), ((m.1.1.2.1.1, m.1.1.2.1.2), (m.1.1.2.2.1, (m.1.1.2.2.2.1, m.1.1.2.2.2.2)))), (((m.1.2.1.1.1, m.1.2.1.1.2), (m.1.2.1.2.1, (m.1.2.1.2.2.1, m.1.2.1.2.2.2))), ((m.1.2.2.1.1, (m.1.2.2.1.2.1, m.1.2.2.1.2.2)), (m.1.2.2.2.1, (m.1.2.2.2.2.1, m.1.2.2.2.2.2))))), ((((m.2.1.1.1.1, m.2.1.1.1.2), (m.2.1.1.2.1, (m.2.1.1.2.2.1, m.2.1.1.2.2.2))), ((m.2.1.2.1.1, m.2.1.2.1.2), (m.2.1.2.2.1, (m.2.1.2.2.2.1, m.2.1.2.2.2.2)))), (((m.2.2.1.1.1, m.2.2.1.1.2), (m.2.2.1.2.1, (m.2.2.1.2.2.1, m.2.2.1.2.2.2))), ((m.2.2.2.1.1, (M, m.2.2.2.1.2.2)), (m.2.2.2.2.1, (m.2.2.2.2.2.1, m.2.2.2.2.2.2))))))) (n := n) fk.1 fk.2.2.1 n9 (by omega) hM
      have hj2 := hn j hj (by rw [so]; decide)
      have eq : ¬ r2 = 0 ↔ ¬ nm.2.2.2.1 j = 0 := k2.trans (Iff.trans ⟨fun ⟨i, i1, i2, i3⟩ => ⟨i, i1, by rw [so, (fk.2.2.2.2.1 i i1).1]; exact Or.inr ⟨rfl, i2⟩, by rw [(fk.2.2.2.2.1 i i1).2.1]; exact i3⟩, fun ⟨i, i1, i2, i3⟩ => ⟨i, i1, by
        rw [so, (fk.2.2.2.2.1 i i1).1] at i2
        rcases i2 with ⟨z, -⟩ | ⟨-, z⟩
        · exact absurd z (by decide)
        · exact z, by rw [(fk.2.2.2.2.1 i i1).2.1] at i3; exact i3⟩⟩ hj2.symm)
      rcases br_el hM with ⟨q2, hM⟩ | ⟨q2, hM⟩
      · exact ⟨_, _, hC.2, hM.2, fun _ => by decide, fun _ => kr.mpr ⟨so, Classical.byContradiction (fun z => absurd q2 (eq.mpr z))⟩⟩
      · exact ⟨_, _, hC.2, hM.2, fun w => absurd (kr.mp w).2 (eq.mp q2), fun w => absurd rfl w⟩
    · exact ⟨_, _, hC.2, hM.2, fun w => absurd (se.2.1.mpr (kr.mp w).1) q, fun w => absurd rfl w⟩
  · -- a signal
    subst e
    replace hC := hC.2.2.2.2 (by decide)
    replace hM := hM.2.2.2.2 (by decide)
    rw [g1 hj] at hM
    have se := sr_eq (b4 j hj)
    obtain ⟨r, hC, kr⟩ := iv_unused b1 hj c9 hC
    rcases br_el hM with ⟨q, hM⟩ | ⟨q, hM⟩
    · have so := se.2.2.mp q
      obtain ⟨r2, hM, k2⟩ := iv_uses (m := (((((m.1.1.1.1.1, m.1.1.1.1.2), (m.1.1.1.2.1, (m.1.1.1.2.2.1, m.1.1.1.2.2.2))), ((m.1.1.2.1.1, m.1.1.2.1.2), (m.1.1.2.2.1, (m.1.1.2.2.2.1, m.1.1.2.2.2.2)))), (((m.1.2.1.1.1, m.1.2.1.1.2), (m.1.2.1.2.1, (m.1.2.1.2.2.1, m.1.2.1.2.2.2))), ((m.1.2.2.1.1, (m.1.2.2.1.2.1, m.1.2.2.1.2.2)), (m.1.2.2.2.1, (m.1.2.2.2.2.1, m.1.2.2.2.2.2))))), ((((m.2.1.1.1.1, m.2.1.1.1.2), (m.2.1.1.2.1, (m.2.1.1.2.2.1, m.2.1.1.2.2.2))), ((m.2.1.2.1.1, m.2.1.2.1.2), (m.2.1.2.2.1, (m.2.1.2.2.2.1, m.2.1.2.2.2.2)))), (((m.2.2.1.1.1, m.2.2.1.1.2), (m.2.2.1.2.1, (m.2.2.1.2.2.1, m.2.2.1.2.2.2))), ((m.2.2.2.1.1, (M, m.2.2.2.1.2.2)), (m.2.2.2.2.1, (m.2.2.2.2.2.1, m.2.2.2.2.2.2))))))) (n := n) fk.1 fk.2.2.1 n9 (by omega) hM
      have hj2 := hn j hj (by rw [so]; decide)
      have eq : ¬ r2 = 0 ↔ ¬ nm.2.2.2.1 j = 0 := k2.trans (Iff.trans ⟨fun ⟨i, i1, i2, i3⟩ => ⟨i, i1, by rw [so, (fk.2.2.2.2.1 i i1).1]; exact Or.inl ⟨rfl, i2⟩, by rw [(fk.2.2.2.2.1 i i1).2.1]; exact i3⟩, fun ⟨i, i1, i2, i3⟩ => ⟨i, i1, by
        rw [so, (fk.2.2.2.2.1 i i1).1] at i2
        rcases i2 with ⟨-, z⟩ | ⟨z, -⟩
        · exact z
        · exact absurd z (by decide), by rw [(fk.2.2.2.2.1 i i1).2.1] at i3; exact i3⟩⟩ hj2.symm)
      rcases br_el hM with ⟨q2, hM⟩ | ⟨q2, hM⟩
      · exact ⟨_, _, hC.2, hM.2, fun _ => by decide, fun _ => kr.mpr ⟨so, Classical.byContradiction (fun z => absurd q2 (eq.mpr z))⟩⟩
      · exact ⟨_, _, hC.2, hM.2, fun w => absurd (kr.mp w).2 (eq.mp q2), fun w => absurd rfl w⟩
    · exact ⟨_, _, hC.2, hM.2, fun w => absurd (se.2.2.mpr (kr.mp w).1) q, fun w => absurd rfl w⟩
theorem rl_rows {nm : T_Nm} {nd : T_Nd} {m : T_Mo} {n c : Nat} {kf : Nat → List Nat} {asc : List Nat} (pa : PA nm nd m n c kf asc) {st : T_St} {pr : T_Pr} {M : Nat → Int32} (br : ∀ i : Int32, (0 : Int32) ≤ i → i < 64 → (bt st.2 i ↔ ¬ m.2.2.2.1.1 i.toNatClampNeg = 0)) (mu : ∀ s, s < c → nm.2.1 s = 215 → (¬ M s = 0 ↔ ¬ nm.2.2.2.1 s = 0)) {d T : Nat} (T9 : T ≤ 1000) {k x1 x2 x5 : Int32} (ro : ∀ j, j < T → RO k n c j) {KC : Int32 → Int32 → Int32 → Int32 → Int32 → Int32 → Int32 → Prop} {KM : T_Mo → Int32 → Int32 → Int32 → Int32 → Int32 → Int32 → Prop} {PC : Int32 → Unit → Prop} {PM : Int32 → T_Mo → Prop} : ∀ (e s gC gM : Nat) (x3 : Int32), s + e = T → wp_St_check_L78 st pr nm nd KC PC gC x1 x2 x3 k x5 (Int32.ofNat T) (Int32.ofNat s) → wp_Mo_check_L131 d KM PM gM (((((m.1.1.1.1.1, m.1.1.1.1.2), (m.1.1.1.2.1, (m.1.1.1.2.2.1, m.1.1.1.2.2.2))), ((m.1.1.2.1.1, m.1.1.2.1.2), (m.1.1.2.2.1, (m.1.1.2.2.2.1, m.1.1.2.2.2.2)))), (((m.1.2.1.1.1, m.1.2.1.1.2), (m.1.2.1.2.1, (m.1.2.1.2.2.1, m.1.2.1.2.2.2))), ((m.1.2.2.1.1, (m.1.2.2.1.2.1, m.1.2.2.1.2.2)), (m.1.2.2.2.1, (m.1.2.2.2.2.1, m.1.2.2.2.2.2))))), ((((m.2.1.1.1.1, m.2.1.1.1.2), (m.2.1.1.2.1, (m.2.1.1.2.2.1, m.2.1.1.2.2.2))), ((m.2.1.2.1.1, m.2.1.2.1.2), (m.2.1.2.2.1, (m.2.1.2.2.2.1, m.2.1.2.2.2.2)))), (((m.2.2.1.1.1, m.2.2.1.1.2), (m.2.2.1.2.1, (m.2.2.1.2.2.1, m.2.2.1.2.2.2))), ((m.2.2.2.1.1, (M, m.2.2.2.1.2.2)), (m.2.2.2.2.1, (m.2.2.2.2.2.1, m.2.2.2.2.2.2)))))) x1 x2 x3 k (Int32.ofNat T) (Int32.ofNat s) → (∃ r, PC r () ∧ PM r (((((m.1.1.1.1.1, m.1.1.1.1.2), (m.1.1.1.2.1, (m.1.1.1.2.2.1, m.1.1.1.2.2.2))), ((m.1.1.2.1.1, m.1.1.2.1.2), (m.1.1.2.2.1, (m.1.1.2.2.2.1, m.1.1.2.2.2.2)))), (((m.1.2.1.1.1, m.1.2.1.1.2), (m.1.2.1.2.1, (m.1.2.1.2.2.1, m.1.2.1.2.2.2))), ((m.1.2.2.1.1, (m.1.2.2.1.2.1, m.1.2.2.1.2.2)), (m.1.2.2.2.1, (m.1.2.2.2.2.1, m.1.2.2.2.2.2))))), ((((m.2.1.1.1.1, m.2.1.1.1.2), (m.2.1.1.2.1, (m.2.1.1.2.2.1, m.2.1.1.2.2.2))), ((m.2.1.2.1.1, m.2.1.2.1.2), (m.2.1.2.2.1, (m.2.1.2.2.2.1, m.2.1.2.2.2.2)))), (((m.2.2.1.1.1, m.2.2.1.1.2), (m.2.2.1.2.1, (m.2.2.1.2.2.1, m.2.2.1.2.2.2))), ((m.2.2.2.1.1, (M, m.2.2.2.1.2.2)), (m.2.2.2.2.1, (m.2.2.2.2.2.1, m.2.2.2.2.2.2))))))) ∨ (∃ y3 y7 y6, KC x1 x2 y3 k x5 (Int32.ofNat T) y7 ∧ KM (((((m.1.1.1.1.1, m.1.1.1.1.2), (m.1.1.1.2.1, (m.1.1.1.2.2.1, m.1.1.1.2.2.2))), ((m.1.1.2.1.1, m.1.1.2.1.2), (m.1.1.2.2.1, (m.1.1.2.2.2.1, m.1.1.2.2.2.2)))), (((m.1.2.1.1.1, m.1.2.1.1.2), (m.1.2.1.2.1, (m.1.2.1.2.2.1, m.1.2.1.2.2.2))), ((m.1.2.2.1.1, (m.1.2.2.1.2.1, m.1.2.2.1.2.2)), (m.1.2.2.2.1, (m.1.2.2.2.2.1, m.1.2.2.2.2.2))))), ((((m.2.1.1.1.1, m.2.1.1.1.2), (m.2.1.1.2.1, (m.2.1.1.2.2.1, m.2.1.1.2.2.2))), ((m.2.1.2.1.1, m.2.1.2.1.2), (m.2.1.2.2.1, (m.2.1.2.2.2.1, m.2.1.2.2.2.2)))), (((m.2.2.1.1.1, m.2.2.1.1.2), (m.2.2.1.2.1, (m.2.2.1.2.2.1, m.2.2.1.2.2.2))), ((m.2.2.2.1.1, (M, m.2.2.2.1.2.2)), (m.2.2.2.2.1, (m.2.2.2.2.2.1, m.2.2.2.2.2.2)))))) x1 x2 y3 k (Int32.ofNat T) y6) := by
  intro e
  induction e with
  | zero =>
    intro s gC gM x3 es hC hM
    cases gC with
    | zero => exact False.elim hC
    | succ gC =>
    cases gM with
    | zero => exact False.elim hM
    | succ gM =>
    rw [wp_St_check_L78] at hC
    rw [wp_Mo_check_L131] at hM
    have q : Int32.ofNat T ≤ Int32.ofNat s := by rw [on_le (by omega) (by omega)]; omega
    exact Or.inr ⟨_, _, _, hC.1 q, hM.1 q⟩
  | succ e ih =>
    intro s gC gM x3 es hC hM
    cases gC with
    | zero => exact False.elim hC
    | succ gC =>
    cases gM with
    | zero => exact False.elim hM
    | succ gM =>
    rw [wp_St_check_L78] at hC
    rw [wp_Mo_check_L131] at hM
    have q : ¬ Int32.ofNat T ≤ Int32.ofNat s := by rw [on_le (by omega) (by omega)]; omega
    obtain ⟨r, r', hC, hM, rr⟩ := rl_remark pa br mu (ro s (by omega)) (hC.2 q) (hM.2 q)
    rw [on_succ (by omega)] at hC hM
    rcases br_el hC with ⟨q1, hC⟩ | ⟨q1, hC⟩
    · have q1' : r' = 0 := Classical.byContradiction (fun z => (rr.mpr z) q1)
      exact ih (s + 1) gC gM x3 (by omega) hC (hM.1 q1')
    · replace hM := hM.2 (rr.mp q1)
      rcases br_el hC with ⟨q2, hC⟩ | ⟨q2, hC⟩
      · replace hM := hM.1 q2
        rcases br_el hC with ⟨q3, hC⟩ | ⟨q3, hC⟩
        · exact Or.inl ⟨_, hC, hM.1 q3⟩
        · exact Or.inl ⟨_, hC, hM.2 q3⟩
      · exact ih (s + 1) gC gM _ (by omega) hC (hM.2 q2)
set_option maxHeartbeats 1000000 in
theorem rl_kinds {nm : T_Nm} {nd : T_Nd} {m : T_Mo} {n c : Nat} {kf : Nat → List Nat} {asc : List Nat} (pa : PA nm nd m n c kf asc) {st : T_St} {pr : T_Pr} {M : Nat → Int32} (br : ∀ i : Int32, (0 : Int32) ≤ i → i < 64 → (bt st.2 i ↔ ¬ m.2.2.2.1.1 i.toNatClampNeg = 0)) (mu : ∀ s, s < c → nm.2.1 s = 215 → (¬ M s = 0 ↔ ¬ nm.2.2.2.1 s = 0)) {d : Nat} {x1 x2 : Int32} {z : T_Mo} (ez : z = (((((m.1.1.1.1.1, m.1.1.1.1.2), (m.1.1.1.2.1, (m.1.1.1.2.2.1, m.1.1.1.2.2.2))), ((m.1.1.2.1.1, m.1.1.2.1.2), (m.1.1.2.2.1, (m.1.1.2.2.2.1, m.1.1.2.2.2.2)))), (((m.1.2.1.1.1, m.1.2.1.1.2), (m.1.2.1.2.1, (m.1.2.1.2.2.1, m.1.2.1.2.2.2))), ((m.1.2.2.1.1, (m.1.2.2.1.2.1, m.1.2.2.1.2.2)), (m.1.2.2.2.1, (m.1.2.2.2.2.1, m.1.2.2.2.2.2))))), ((((m.2.1.1.1.1, m.2.1.1.1.2), (m.2.1.1.2.1, (m.2.1.1.2.2.1, m.2.1.1.2.2.2))), ((m.2.1.2.1.1, m.2.1.2.1.2), (m.2.1.2.2.1, (m.2.1.2.2.2.1, m.2.1.2.2.2.2)))), (((m.2.2.1.1.1, m.2.2.1.1.2), (m.2.2.1.2.1, (m.2.2.1.2.2.1, m.2.2.1.2.2.2))), ((m.2.2.2.1.1, (M, m.2.2.2.1.2.2)), (m.2.2.2.2.1, (m.2.2.2.2.2.1, m.2.2.2.2.2.2))))))) {PC : Int32 → Unit → Prop} {PM : Int32 → T_Mo → Prop} : ∀ (e kk gC gM : Nat) (x3 : Int32), kk + e = 6 → 1 ≤ kk → wp_St_check_L20 st pr nm nd (fun (x1 : Int32) (x2 : Int32) (x3 : Int32) (x4 : Int32) => PC (-1 : Int32) ()) PC gC x1 x2 x3 (Int32.ofNat kk) → wp_Mo_check_L96 d (fun (z_this : T_Mo) (x1 : Int32) (x2 : Int32) (x3 : Int32) (x4 : Int32) => PM (-1 : Int32) z_this) PM gM z x1 x2 x3 (Int32.ofNat kk) → ∃ r, PC r () ∧ PM r z := by
  have n9 := pa.1.2.2.2.1
  have e1 := pa.1.2.1
  have e2 : z.2.1.2.2.2.2 = Int32.ofNat n := by rw [ez]; exact pa.1.2.2.1
  have b1 := pa.2.2.2.1
  have b2 : z.2.2.1.1.2 = Int32.ofNat c := by rw [ez]; exact pa.2.2.2.2.1
  have c9 := pa.2.2.2.2.2.1
  intro e
  induction e with
  | zero =>
    intro kk gC gM x3 ek k1 hC hM
    have ek' : kk = 6 := ek
    subst ek'
    cases gC with
    | zero => exact False.elim hC
    | succ gC =>
    cases gM with
    | zero => exact False.elim hM
    | succ gM =>
    rw [wp_St_check_L20] at hC
    rw [wp_Mo_check_L96] at hM
    exact ⟨_, hC.1 (by decide), hM.1 (by decide)⟩
  | succ e ih =>
    intro kk gC gM x3 ek k1 hC hM
    cases gC with
    | zero => exact False.elim hC
    | succ gC =>
    cases gM with
    | zero => exact False.elim hM
    | succ gM =>
    rw [wp_St_check_L20] at hC
    rw [wp_Mo_check_L96] at hM
    unfold wp_Pr_names wp_Pr_nodes wp_Nm_count wp_Nd_count at hC
    rw [e1, b1] at hC
    rw [e2, b2] at hM
    have go : ∀ (T : Nat) (x5 : Int32), T ≤ 1000 → (∀ j, j < T → RO (Int32.ofNat kk) n c j) → (∃ k9 : Nat, wp_St_check_L78 st pr nm nd (fun (x1 : Int32) (x2 : Int32) (x3 : Int32) (x4 : Int32) (x5 : Int32) (x6 : Int32) (x7 : Int32) => wp_St_check_L20 st pr nm nd (fun (x1 : Int32) (x2 : Int32) (x3 : Int32) (x4 : Int32) => PC (-1 : Int32) ()) PC gC x1 x2 x3 (x4 + (1 : Int32))) PC k9 x1 x2 x3 (Int32.ofNat kk) x5 (Int32.ofNat T) (0 : Int32)) → (∃ k9 : Nat, wp_Mo_check_L131 d (fun (z_this : T_Mo) (x1 : Int32) (x2 : Int32) (x3 : Int32) (x4 : Int32) (x5 : Int32) (x6 : Int32) => wp_Mo_check_L96 d (fun (z_this : T_Mo) (x1 : Int32) (x2 : Int32) (x3 : Int32) (x4 : Int32) => PM (-1 : Int32) z_this) PM gM z_this x1 x2 x3 (x4 + (1 : Int32))) PM k9 z x1 x2 x3 (Int32.ofNat kk) (Int32.ofNat T) (0 : Int32)) → ∃ r, PC r () ∧ PM r z := by
      intro T x5 T9 ro hC hM
      obtain ⟨kC, hC⟩ := hC
      obtain ⟨kM, hM⟩ := hM
      rw [ez] at hM
      rcases rl_rows pa br mu T9 ro T 0 kC kM x3 (by omega) hC hM with z | ⟨y3, y7, y6, hC, hM⟩
      · rw [ez]; exact z
      · rw [on_succ (by omega)] at hC hM
        rw [← ez] at hM
        exact ih (kk + 1) gC gM y3 (by omega) (by omega) hC hM
    have kc : kk = 1 ∨ kk = 2 ∨ kk = 3 ∨ kk = 4 ∨ kk = 5 := by omega
    rcases kc with w | w | w | w | w
    · subst w
      exact go c _ (by omega) (fun j hj => Or.inr ⟨Or.inl rfl, hj⟩) ((((hC.2 (by decide)).2 (by decide)).2 (by decide)).1 rfl) (((hM.2 (by decide)).2 (by decide)).2 (by decide))
    · subst w
      exact go n _ n9 (fun j hj => Or.inl ⟨Or.inl rfl, hj⟩) (((hC.2 (by decide)).1 (by decide)).2 (by decide)) ((hM.2 (by decide)).1 (by decide))
    · subst w
      exact go n _ n9 (fun j hj => Or.inl ⟨Or.inr rfl, hj⟩) ((((hC.2 (by decide)).2 (by decide)).1 (by decide)).2 (by decide)) (((hM.2 (by decide)).2 (by decide)).1 (by decide))
    · subst w
      exact go c _ (by omega) (fun j hj => Or.inr ⟨Or.inr (Or.inl rfl), hj⟩) ((((hC.2 (by decide)).2 (by decide)).2 (by decide)).1 rfl) (((hM.2 (by decide)).2 (by decide)).2 (by decide))
    · subst w
      exact go c _ (by omega) (fun j hj => Or.inr ⟨Or.inr (Or.inr rfl), hj⟩) ((((hC.2 (by decide)).2 (by decide)).2 (by decide)).1 rfl) (((hM.2 (by decide)).2 (by decide)).2 (by decide))
/-- check, of both -/
theorem rl_check {nm : T_Nm} {nd : T_Nd} {m : T_Mo} {st : T_St} {pr : T_Pr} {d : Nat} {a b : Int32} {PC : Int32 → Unit → Prop} {PM : Int32 → T_Mo → Prop} (f : FN nm nd m) (fin : Fin m) (s : SF m) (u : FU nm nd) (br : ∀ i : Int32, (0 : Int32) ≤ i → i < 64 → (bt st.2 i ↔ ¬ m.2.2.2.1.1 i.toNatClampNeg = 0)) (hC : wp_St_check st pr nm nd a b PC) (hM : wp_Mo_check d m a b PM) : ∃ r M, PC r () ∧ PM r (((((m.1.1.1.1.1, m.1.1.1.1.2), (m.1.1.1.2.1, (m.1.1.1.2.2.1, m.1.1.1.2.2.2))), ((m.1.1.2.1.1, m.1.1.2.1.2), (m.1.1.2.2.1, (m.1.1.2.2.2.1, m.1.1.2.2.2.2)))), (((m.1.2.1.1.1, m.1.2.1.1.2), (m.1.2.1.2.1, (m.1.2.1.2.2.1, m.1.2.1.2.2.2))), ((m.1.2.2.1.1, (m.1.2.2.1.2.1, m.1.2.2.1.2.2)), (m.1.2.2.2.1, (m.1.2.2.2.2.1, m.1.2.2.2.2.2))))), ((((m.2.1.1.1.1, m.2.1.1.1.2), (m.2.1.1.2.1, (m.2.1.1.2.2.1, m.2.1.1.2.2.2))), ((m.2.1.2.1.1, m.2.1.2.1.2), (m.2.1.2.2.1, (m.2.1.2.2.2.1, m.2.1.2.2.2.2)))), (((m.2.2.1.1.1, m.2.2.1.1.2), (m.2.2.1.2.1, (m.2.2.1.2.2.1, m.2.2.1.2.2.2))), ((m.2.2.2.1.1, (M, m.2.2.2.1.2.2)), (m.2.2.2.2.1, (m.2.2.2.2.2.1, m.2.2.2.2.2.2)))))) := by
  obtain ⟨n, c, kf, asc, pa⟩ := PA_of f fin s u
  unfold wp_St_check at hC
  unfold wp_Mo_check at hM
  rcases br_el hC with ⟨q, hC⟩ | ⟨q, hC⟩
  · exact ⟨_, m.2.2.2.1.2.1, hC, hM.1 q⟩
  · replace hM := hM.2 q
    rcases br_el hC with ⟨q, hC⟩ | ⟨q, hC⟩
    · exact ⟨_, m.2.2.2.1.2.1, hC, hM.1 q⟩
    · replace hM := hM.2 q
      rcases br_el hC with ⟨q, hC⟩ | ⟨q, hC⟩
      · obtain ⟨k, hM⟩ := hM.1 q
        obtain ⟨kC, hC⟩ := hC
        obtain ⟨M0, y, ⟨k1, hM⟩, z0⟩ := iv_ck17 (m := m) 100 0 k m.2.2.2.1.2.1 (by omega) hM (fun j hj => absurd hj (Nat.not_lt_zero _))
        obtain ⟨M1, y1, ls, ⟨k2, hM⟩, ms, l1, l2⟩ := iv_ck38 pa asc 0 k1 M0 hM (by omega) pa.1.2.2.2.2.2.2.2.1 (fun k hk => hk)
        obtain ⟨r, hC, hM⟩ := rl_kinds pa br (mk_used pa z0 ms l1 l2) rfl 5 1 kC k2 _ (by omega) (by omega) hC hM
        exact ⟨r, M1, hC, hM⟩
      · exact ⟨_, m.2.2.2.1.2.1, hC, hM.2 q⟩

