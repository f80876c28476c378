/-- how the two end that read a test, a block or a statement: the class answers nothing -/
def OT (kx : Int32) (tx : Nat → Int32) (sz : Int32) (pl ln : Nat → Int32) (PC : Unit → T_Gr × T_Nm × T_Nd × T_Wd → Prop) (PT : T_Gr × T_Nm × T_Nd × T_Wd → Prop) (PM : Int32 → T_Mo → Prop) (nd : T_Nd) (w : T_Wd) (m : T_Mo) (n km hi tp c : Nat) : Prop := (∃ g' nm' nd' w' m' n' km', PC () (g', nm', nd', w') ∧ PM (Int32.ofNat n') m' ∧ RG tx sz pl ln nm' nd' w' m' (n' + 1) km' hi tp c ∧ EE kx nd nd' m m' w w' n n' km km' hi) ∨ (∃ u r' m', PT u ∧ PM r' m' ∧ r' < 0 ∧ FO m m') ∨ (∃ g' nm' nd' w' r' m', PC () (g', nm', nd', w') ∧ DM nd' w' ∧ PM r' m' ∧ r' < 0 ∧ FO m m')
theorem k79 {k : Int32} (h : k = 7 ∨ k = 8 ∨ k = 9) : ¬ k = 4 ∧ ¬ k = 5 ∧ ¬ k ≤ 6 ∧ k ≤ 9 ∧ ¬ k = -1 := by
  rcases h with h | h | h <;> rw [h] <;> decide
set_option maxHeartbeats 4000000 in
theorem rl_test {tx : Nat → Int32} {sz : Int32} {pl ln : Nat → Int32} {rC : T_Gr → T_Nm → T_Nd → T_Wd → Int32 → (Int32 → T_Gr × T_Nm × T_Nd × T_Wd → Prop) → (T_Gr × T_Nm × T_Nd × T_Wd → Prop) → Prop} {rM : T_Mo → (Int32 → T_Mo → Prop) → Prop} (hdt : HDT rM) (re : RE tx sz pl ln 6 rC rM) (rd : RD rC) {g : T_Gr} {nm : T_Nm} {nd : T_Nd} {w : T_Wd} {op : Int32} {m : T_Mo} {PC : Unit → T_Gr × T_Nm × T_Nd × T_Wd → Prop} {PT : T_Gr × T_Nm × T_Nd × T_Wd → Prop} {PM : Int32 → T_Mo → Prop} {n km hi tp c : Nat} (rg : RG tx sz pl ln nm nd w m n km hi tp c) (eo : m.1.2.1.1.2 = op) (o0 : (0 : Int32) ≤ op) (o9 : op ≤ 60) (hC : wp_Gr_readTest rC g nm nd w op PC PT) (hM : wp_Mo_test rM m PM) : OT 9 tx sz pl ln PC PT PM nd w m n km hi tp c := by
  have rS := rl_sum hdt (rl_prod hdt re rd) (rd_prod rd)
  have dS := rd_sum (rd_prod rd)
  unfold wp_Gr_readTest wp_Gr_refuse at hC
  unfold wp_Mo_test at hM
  rcases rS _ _ _ _ _ _ _ _ _ _ _ _ _ _ rg eo o0 o9 hC hM with ⟨g1, nm1, nd1, w1, m1, n1, km1, hC, hM, rg1, e1⟩ | ⟨u, r', m1, hC, hM, rn, fo1⟩ | ⟨r, g1, nm1, nd1, w1, r', m1, hC, d1, hM, rn, fo1⟩
  · obtain ⟨ee1, ee2, ee3, ee4, ee5, ee6, ee7, ee8, ee9⟩ := e1
    have n91 : n1 + 1 ≤ 1000 := rg1.2.1.2.2.2.1
    have s0 := rg.2.2.2.2.2.2
    have on1 := on_n1 (k := n1) (by omega)
    replace hM := hM.1 on1.2.2
    have t60 := RW_sg rg1.1 (x := 60) (by unfold sg; decide)
    have t61 := RW_sg rg1.1 (x := 61) (by unfold sg; decide)
    have t62 := RW_sg rg1.1 (x := 62) (by unfold sg; decide)
    have stepk : ∀ k : Int32, (k = 7 ∨ k = 8 ∨ k = 9) → ¬ w1.2.2.2.2.2.2.2.2.2.2.1 = 0 → wp_Gr_pass g1 nd1 w1 (fun (r3 : Unit) (u3 : T_Gr × T_Wd) => wp_Gr_readSum rC u3.1 nm1 nd1 u3.2 op (fun (r4 : Int32) (u4 : T_Gr × T_Nm × T_Nd × T_Wd) => wp_Gr_join u4.1 u4.2.2.1 k (Int32.ofNat n1) r4 w1.2.2.2.2.2.2.2.2.2.2.2.1 (fun (r5 : Int32) (u5 : T_Gr × T_Nd) => PC () (u5.1, u4.2.1, u5.2, u4.2.2.2)) (fun (u : T_Gr × T_Nd) => PT (u.1, u4.2.1, u.2, u4.2.2.2))) (fun (u : T_Gr × T_Nm × T_Nd × T_Wd) => PT (u.1, u.2.1, u.2.2.1, u.2.2.2))) (fun (u : T_Gr × T_Wd) => PT (u.1, nm1, nd1, u.2)) → wp_Mo_test_J73 rM PM m1 (Int32.ofNat n1) k → OT 9 tx sz pl ln PC PT PM nd w m n km hi tp c := by
      intro k hk nz hC hM
      have kk := k79 hk
      unfold wp_Mo_test_J73 at hM
      rcases rl_pass rg1.1 nz (NR_cnt rg1.2.1) hC hM with ⟨w2, m2, hC, hM, rw2, fr, cw⟩ | ⟨u, m2, hC, hM, fr⟩ | ⟨w2, m2, hC, hM, dd, fr⟩
      · have rg2 := RG_Fr rg1 rw2 fr
        have fo2 := FO_trans ee8 (FO_Fr fr)
        have cw2 := cur_up rg1.1 cw
        rcases rS _ _ _ _ _ _ _ _ _ _ _ _ _ _ rg2 ((FP_Fr (hi := 0) fr).2.1.trans (ee7.2.1.trans eo)) o0 o9 hC (hM.2 (by decide)) with ⟨g3, nm3, nd3, w3, m3, n3, km3, hC, hM, rg3, e3⟩ | ⟨u, r', m3, hC, hM, rn, fo3⟩ | ⟨r, g3, nm3, nd3, w3, r', m3, hC, d3, hM, rn, fo3⟩
        · obtain ⟨f1, f2, f3, f4, f5, f6, f7, f8, f9⟩ := e3
          have n93 : n3 + 1 ≤ 1000 := rg3.2.1.2.2.2.1
          have on3 := on_n1 (k := n3) (by omega)
          have a1 := f6 n1 (by omega)
          have ua := NR_unit rg3.2.1 (i := n1) (by omega) (by rw [a1.2.1]; exact ee4)
          have ub := NR_unit rg3.2.1 (i := n3) (by omega) f4
          have ma0 : (0 : Int32) ≤ nd3.2.2.2.1 n1 := by rw [a1.2.2]; exact ee5
          have js := jd_sum (k := k) (y := nd3.2.2.2.1 n3) kk.1 kk.2.1 ma0
          unfold wp_Mo_test_J94 at hM
          replace hM := iv_unitIn (iv_unitIn (hM.1 on3.2.2) rg3.2.1.1 (by omega)) rg3.2.1.1 (by omega)
          rw [ua, ub] at hM
          dsimp only at hC
          have fpA : FP m m3 hi := FP_trans ee7 (FP_trans (FP_Fr fr) f7)
          have foA : FO m m3 := FO_trans fo2 f8
          rcases iv_join (n := n3 + 1) rg3.2.1.2.1 (by omega) (by omega) n93 hC with ⟨q, hC⟩ | ⟨q, hC⟩
          · exact Or.inr (Or.inl ⟨_, -1, _, hC, hM.2 (js.1.mp q), by decide, foA⟩)
          · have eq : nd3.2.2.2.1 n1 = nd3.2.2.2.1 n3 := Classical.byContradiction (fun z => q (js.1.mpr z))
            rcases rl_two rg3 (by omega) (a1.1.trans ee3) (by omega) f3 (by omega) hC (hM.1 eq) (fun z => absurd z kk.2.2.1) with ⟨b9, nd4, m4, hC, hM, rg4, ad, fp4, eh4, fo4⟩ | ⟨r, nd4, m4, hC, hM, cn, fo4⟩
            · have an := AD_new ad
              have ao := AD_old ad
              exact Or.inl ⟨_, nm3, nd4, w3, m4, n3 + 1, km3 + 2, hC, hM, rg4, by omega, by omega, an.1, by rw [an.2.1]; exact kk.2.2.2.1, by rw [an.2.2.1]; exact jd_nn ma0 f5 q, fun j hj => ⟨(ao j (by omega)).1.trans ((f6 j (by omega)).1.trans (ee6 j hj).1), (ao j (by omega)).2.1.trans ((f6 j (by omega)).2.1.trans (ee6 j hj).2.1), (ao j (by omega)).2.2.trans ((f6 j (by omega)).2.2.trans (ee6 j hj).2.2)⟩, FP_trans fpA fp4, FO_trans foA fo4, Int32.lt_trans ee9 (Int32.lt_trans cw2 f9)⟩
            · exact Or.inr (Or.inr ⟨_, nm3, nd4, w3, -1, m4, hC, Or.inr cn, hM, by decide, FO_trans foA fo4⟩)
        · unfold wp_Mo_test_J94 at hM
          exact Or.inr (Or.inl ⟨_, -1, m3, hC, hM.2 (Int32.not_le.mpr rn), by decide, FO_trans fo2 fo3⟩)
        · unfold wp_Mo_test_J94 at hM
          replace hM := hM.2 (Int32.not_le.mpr rn)
          dsimp only at hC
          rcases dm_join hC with ⟨u, hC⟩ | ⟨r5, nd4, hC, cn⟩
          · exact Or.inr (Or.inl ⟨_, -1, m3, hC, hM, by decide, FO_trans fo2 fo3⟩)
          · exact Or.inr (Or.inr ⟨_, nm3, nd4, w3, -1, m3, hC, d3.elim Or.inl (fun q => Or.inr (cn q)), hM, by decide, FO_trans fo2 fo3⟩)
      · have hM := hM.1 rfl
        unfold wp_Mo_test_J94 at hM
        exact Or.inr (Or.inl ⟨_, -1, m2, hC, hM.2 (by decide), by decide, FO_trans ee8 (FO_Fr fr)⟩)
      · have hM := hM.1 rfl
        unfold wp_Mo_test_J94 at hM
        obtain ⟨u, hC⟩ := dS _ _ _ _ _ _ _ (Or.inl dd) hC
        exact Or.inr (Or.inl ⟨_, -1, m2, hC, hM.2 (by decide), by decide, FO_trans ee8 (FO_Fr fr)⟩)
    rcases iv_op79 hC with ⟨e, hC⟩ | ⟨e, hC⟩ | ⟨e, hC⟩ | ⟨e, hC⟩
    · have tk := t60.mp e
      replace hM := hM.1 tk
      unfold wp_Mo_test_J43 at hM
      exact stepk 7 (by decide) (by rw [e]; decide) (hC.2 (by decide)) (hM.1 tk)
    · have tk := t61.mp e
      have tn : ¬ m1.1.1.1.2.2.2 = 60 := by rw [tk]; decide
      replace hM := (hM.2 tn).1 tk
      unfold wp_Mo_test_J43 at hM
      exact stepk 8 (by decide) (by rw [e]; decide) (hC.2 (by decide)) ((hM.2 tn).1 tk)
    · have tk := t62.mp e
      have tn : ¬ m1.1.1.1.2.2.2 = 60 := by rw [tk]; decide
      have tn2 : ¬ m1.1.1.1.2.2.2 = 61 := by rw [tk]; decide
      replace hM := ((hM.2 tn).2 tn2).1 tk
      unfold wp_Mo_test_J43 at hM
      exact stepk 9 (by decide) (by rw [e]; decide) (hC.2 (by decide)) ((hM.2 tn).2 tn2)
    · replace hM := ((hM.2 (fun q => e.1 (t60.mpr q))).2 (fun q => e.2.1 (t61.mpr q))).2 (fun q => e.2.2 (t62.mpr q))
      unfold wp_Mo_bad at hM
      exact Or.inr (Or.inl ⟨_, -1, _, hC.1 rfl, hM, by decide, ee8⟩)
  · exact Or.inr (Or.inl ⟨_, -1, m1, hC, hM.2 (Int32.not_le.mpr rn), by decide, fo1⟩)
  · replace hM := hM.2 (Int32.not_le.mpr rn)
    have big : sg w1.2.2.2.2.2.2.2.2.2.2.1 → (1000 : Int32) < nd1.2.2.2.2.2.2.2.2.2.2.1 := fun s => d1.elim (fun q => absurd s q.2.2) id
    rcases iv_op79 hC with ⟨e, hC⟩ | ⟨e, hC⟩ | ⟨e, hC⟩ | ⟨e, hC⟩
    · obtain ⟨u, hC⟩ := dm_pass (big (by rw [e]; unfold sg; decide)) (hC.2 (by decide))
      exact Or.inr (Or.inl ⟨_, -1, m1, hC, hM, by decide, fo1⟩)
    · obtain ⟨u, hC⟩ := dm_pass (big (by rw [e]; unfold sg; decide)) (hC.2 (by decide))
      exact Or.inr (Or.inl ⟨_, -1, m1, hC, hM, by decide, fo1⟩)
    · obtain ⟨u, hC⟩ := dm_pass (big (by rw [e]; unfold sg; decide)) (hC.2 (by decide))
      exact Or.inr (Or.inl ⟨_, -1, m1, hC, hM, by decide, fo1⟩)
    · exact Or.inr (Or.inl ⟨_, -1, m1, hC.1 rfl, hM, by decide, fo1⟩)
theorem rd_test {rC : T_Gr → T_Nm → T_Nd → T_Wd → Int32 → (Int32 → T_Gr × T_Nm × T_Nd × T_Wd → Prop) → (T_Gr × T_Nm × T_Nd × T_Wd → Prop) → Prop} (rd : RD rC) {g : T_Gr} {nm : T_Nm} {nd : T_Nd} {w : T_Wd} {op : Int32} {PC : Unit → T_Gr × T_Nm × T_Nd × T_Wd → Prop} {PT : T_Gr × T_Nm × T_Nd × T_Wd → Prop} (d : DM nd w) (h : wp_Gr_readTest rC g nm nd w op PC PT) : ∃ u, PT u := by
  unfold wp_Gr_readTest at h
  obtain ⟨u, h⟩ := rd_sum (rd_prod rd) _ _ _ _ _ _ _ d h
  exact ⟨_, h⟩
theorem rd_sumOf {rC : T_Gr → T_Nm → T_Nd → T_Wd → Int32 → (Int32 → T_Gr × T_Nm × T_Nd × T_Wd → Prop) → (T_Gr × T_Nm × T_Nd × T_Wd → Prop) → Prop} (rd : RD rC) {g : T_Gr} {nm : T_Nm} {nd : T_Nd} {w : T_Wd} {me op : Int32} {PC : Unit → T_Gr × T_Nm × T_Nd × T_Wd → Prop} {PT : T_Gr × T_Nm × T_Nd × T_Wd → Prop} (d : DM nd w) (h : wp_Gr_readSumOf rC g nm nd w me op PC PT) : ∃ u, PT u := by
  unfold wp_Gr_readSumOf at h
  obtain ⟨u, h⟩ := rd_sum (rd_prod rd) _ _ _ _ _ _ _ d h
  exact ⟨_, h⟩
/-- the pieces of a node that is being read: their roots lie on the pile from hi on -/
def SS (tx : Nat → Int32) (sz : Int32) (pl ln : Nat → Int32) (nd0 : T_Nd) (m0 : T_Mo) (n0 km0 hi tp c : Nat) (nm : T_Nm) (nd : T_Nd) (w : T_Wd) (m : T_Mo) (n km : Nat) (asc : List Nat) : Prop := RG tx sz pl ln nm nd w m n km (hi + asc.length) tp c ∧ KL m.2.2.1.2.2.1 hi asc ∧ CH nd.2.2.2.2.1 n0 n asc.reverse ∧ (∀ j, j < hi → m.2.2.1.2.2.1 j = m0.2.2.1.2.2.1 j) ∧ (∀ k, k < n0 → nd.2.2.2.2.1 k = nd0.2.2.2.2.1 k ∧ nd.1 k = nd0.1 k ∧ nd.2.2.2.1 k = nd0.2.2.2.1 k) ∧ m.2.1.1.1.2 = m0.2.1.1.1.2 ∧ FO m0 m ∧ n0 ≤ n ∧ km + asc.length + n0 ≤ km0 + n ∧ NmF m0 m
theorem SS_Fr {tx : Nat → Int32} {sz : Int32} {pl ln : Nat → Int32} {nd0 : T_Nd} {m0 : T_Mo} {n0 km0 hi tp c : Nat} {nm : T_Nm} {nd : T_Nd} {w w' : T_Wd} {m m' : T_Mo} {n km : Nat} {asc : List Nat} (s : SS tx sz pl ln nd0 m0 n0 km0 hi tp c nm nd w m n km asc) (r : RW tx sz pl ln w' m') (fr : Fr m m') : SS tx sz pl ln nd0 m0 n0 km0 hi tp c nm nd w' m' n km asc := by
  obtain ⟨s1, s2, s3, s4, s5, s6, s7, s8, s9, s10⟩ := s
  have fp := FP_Fr (hi := hi) fr
  have ep : m'.2.2.1.2.2.1 = m.2.2.1.2.2.1 := by rw [fr.2.2.2.2]
  exact ⟨RG_Fr s1 r fr, by rw [ep]; exact s2, s3, fun j hj => by rw [ep]; exact s4 j hj, s5, fp.2.2.1.trans s6, FO_trans s7 (FO_Fr fr), s8, s9, NmF_trans s10 fp.2.2.2.2.2⟩
/-- one root more -/
theorem SS_push {tx : Nat → Int32} {sz : Int32} {pl ln : Nat → Int32} {kx : Int32} {nd0 : T_Nd} {m0 : T_Mo} {n0 km0 hi tp c : Nat} {nm nm' : T_Nm} {nd nd' : T_Nd} {w w' : T_Wd} {m m' : T_Mo} {n km n' km' : Nat} {asc : List Nat} (s : SS tx sz pl ln nd0 m0 n0 km0 hi tp c nm nd w m n km asc) (s0 : km0 + hi + tp ≤ n0) (rg : RG tx sz pl ln nm' nd' w' m' (n' + 1) km' (hi + asc.length) tp c) (ee : EE kx nd nd' m m' w w' n n' km km' (hi + asc.length)) : SS tx sz pl ln nd0 m0 n0 km0 hi tp c nm' nd' w' (((((m'.1.1.1.1.1, m'.1.1.1.1.2), (m'.1.1.1.2.1, (m'.1.1.1.2.2.1, m'.1.1.1.2.2.2))), ((m'.1.1.2.1.1, m'.1.1.2.1.2), (m'.1.1.2.2.1, (m'.1.1.2.2.2.1, m'.1.1.2.2.2.2)))), (((m'.1.2.1.1.1, m'.1.2.1.1.2), (m'.1.2.1.2.1, (m'.1.2.1.2.2.1, m'.1.2.1.2.2.2))), ((m'.1.2.2.1.1, (m'.1.2.2.1.2.1, m'.1.2.2.1.2.2)), (m'.1.2.2.2.1, (m'.1.2.2.2.2.1, m'.1.2.2.2.2.2))))), ((((m'.2.1.1.1.1, m'.2.1.1.1.2), (m'.2.1.1.2.1, (m'.2.1.1.2.2.1, m'.2.1.1.2.2.2))), ((m'.2.1.2.1.1, m'.2.1.2.1.2), (m'.2.1.2.2.1, (m'.2.1.2.2.2.1, m'.2.1.2.2.2.2)))), (((m'.2.2.1.1.1, m'.2.2.1.1.2), (m'.2.2.1.2.1, ((upd m'.2.2.1.2.2.1 (hi + asc.length) (Int32.ofNat n')), (Int32.ofNat (hi + asc.length + 1))))), ((m'.2.2.2.1.1, (m'.2.2.2.1.2.1, m'.2.2.2.1.2.2)), (m'.2.2.2.2.1, (m'.2.2.2.2.2.1, m'.2.2.2.2.2.2)))))) (n' + 1) km' (asc ++ [n']) := by
  obtain ⟨s1, s2, s3, s4, s5, s6, s7, s8, s9, s10⟩ := s
  obtain ⟨f1, f2, f3, f4, f5, f6, f7, f8, f9⟩ := ee
  obtain ⟨r1, r2, r3, r4, r5, r6, r7⟩ := rg
  have n9 : n' + 1 ≤ 1000 := r2.2.2.2.1
  have el : (asc ++ [n']).length = asc.length + 1 := by rw [List.length_append]; rfl
  have ixn : (Int32.ofNat n).toNatClampNeg = n := ix_on (by omega)
  refine ⟨⟨r1, r2, r3, r4, ?_, r6, by rw [el]; omega⟩, ?_, ?_, fun j hj => ?_, fun k hk => ?_, f7.2.2.1.trans s6, FO_trans s7 f8, by omega, by rw [el]; omega, NmF_trans s10 f7.2.2.2.2.2⟩
  · rw [el]; rfl
  · refine KL_app asc [n'] hi (KL_congr asc hi s2 (fun j h1 h2 => ?_)) ⟨upd_at, trivial⟩
    show upd m'.2.2.1.2.2.1 (hi + asc.length) (Int32.ofNat n') j = m.2.2.1.2.2.1 j
    rw [upd_ltx (by omega)]; exact f7.1 j (by omega)
  · rw [List.reverse_append]
    refine ⟨rfl, ?_, ?_, ?_⟩
    · rw [f3, ixn]
    · rw [f3, ixn]; exact f1
    · rw [f3, ixn]
      exact CH_congr _ _ s3 (fun k hk => (f6 k hk).1)
  · show upd m'.2.2.1.2.2.1 (hi + asc.length) (Int32.ofNat n') j = m0.2.2.1.2.2.1 j
    rw [upd_ltx (by omega)]; exact (f7.1 j (by omega)).trans (s4 j hj)
  · have a := f6 k (by omega)
    have b := s5 k hk
    exact ⟨a.1.trans b.1, a.2.1.trans b.2.1, a.2.2.trans b.2.2⟩
/-- how the two end that read one piece and push it -/
def OP (tx : Nat → Int32) (sz : Int32) (pl ln : Nat → Int32) (nd0 : T_Nd) (m0 : T_Mo) (n0 km0 hi tp c : Nat) (PC : Unit → T_Gr × T_Nm × T_Nd × T_Wd → Prop) (PT : T_Gr × T_Nm × T_Nd × T_Wd → Prop) (PM : Int32 → T_Mo → Prop) (w : T_Wd) (m : T_Mo) (asc : List Nat) : Prop := (∃ g' nm' nd' w' m' n' km', PC () (g', nm', nd', w') ∧ PM 1 m' ∧ SS tx sz pl ln nd0 m0 n0 km0 hi tp c nm' nd' w' m' (n' + 1) km' (asc ++ [n']) ∧ m'.1.2.1.1.2 = m.1.2.1.1.2 ∧ w.2.2.2.2.2.2.2.1 < w'.2.2.2.2.2.2.2.1) ∨ (∃ u m', PT u ∧ PM 0 m' ∧ FO m0 m') ∨ (∃ g' nm' nd' w' m', PC () (g', nm', nd', w') ∧ DM nd' w' ∧ PM 0 m' ∧ FO m0 m')
theorem rl_sumOf {tx : Nat → Int32} {sz : Int32} {pl ln : Nat → Int32} {rC : T_Gr → T_Nm → T_Nd → T_Wd → Int32 → (Int32 → T_Gr × T_Nm × T_Nd × T_Wd → Prop) → (T_Gr × T_Nm × T_Nd × T_Wd → Prop) → Prop} {rM : T_Mo → (Int32 → T_Mo → Prop) → Prop} (hdt : HDT rM) (re : RE tx sz pl ln 6 rC rM) (rd : RD rC) {nd0 : T_Nd} {m0 : T_Mo} {n0 km0 hi tp c : Nat} {g : T_Gr} {nm : T_Nm} {nd : T_Nd} {w : T_Wd} {op me : Int32} {m : T_Mo} {n km : Nat} {asc : List Nat} {PC : Unit → T_Gr × T_Nm × T_Nd × T_Wd → Prop} {PT : T_Gr × T_Nm × T_Nd × T_Wd → Prop} {PM : Int32 → T_Mo → Prop} (s : SS tx sz pl ln nd0 m0 n0 km0 hi tp c nm nd w m n km asc) (s0 : km0 + hi + tp ≤ n0) (eo : m.1.2.1.1.2 = op) (o0 : (0 : Int32) ≤ op) (o9 : op ≤ 60) (hC : wp_Gr_readSumOf rC g nm nd w me op PC PT) (hM : wp_Mo_sumOf rM m me PM) : OP tx sz pl ln nd0 m0 n0 km0 hi tp c PC PT PM w m asc := by
  have rS := rl_sum hdt (rl_prod hdt re rd) (rd_prod rd)
  have fo0 := s.2.2.2.2.2.2.1
  unfold wp_Gr_readSumOf wp_Gr_refuse at hC
  unfold wp_Mo_sumOf at hM
  rcases rS _ _ _ _ _ _ _ _ _ _ _ _ _ _ s.1 eo o0 o9 hC hM with ⟨g1, nm1, nd1, w1, m1, n1, km1, hC, hM, rg1, e1⟩ | ⟨u, r', m1, hC, hM, rn, fo1⟩ | ⟨r, g1, nm1, nd1, w1, r', m1, hC, d1, hM, rn, fo1⟩
  · have n91 : n1 + 1 ≤ 1000 := rg1.2.1.2.2.2.1
    have s2 := rg1.2.2.2.2.2.2
    have on1 := on_n1 (k := n1) (by omega)
    replace hM := iv_unitIn (hM.1 on1.2.2) rg1.2.1.1 (by omega)
    have ua := NR_unit rg1.2.1 (i := n1) (by omega) e1.2.2.2.1
    rw [ua] at hM
    dsimp only at hC
    replace hC := iv_measureOf hC rg1.2.1.2.1 (by omega) (by omega)
    rcases br_el hC with ⟨q, hC⟩ | ⟨q, hC⟩
    · replace hM := hM.1 q
      unfold wp_Mo_push at hM
      replace hM := hM.2
      rw [rg1.2.2.2.2.1, ix_on (by omega), on_succ (by omega)] at hM
      exact Or.inl ⟨_, nm1, nd1, w1, _, n1, km1, hC, hM, SS_push s s0 rg1 e1, e1.2.2.2.2.2.2.1.2.1, e1.2.2.2.2.2.2.2.2⟩
    · have fo9 := FO_trans fo0 e1.2.2.2.2.2.2.2.1
      exact Or.inr (Or.inl ⟨_, _, hC, hM.2 q, fo9⟩)
  · exact Or.inr (Or.inl ⟨_, m1, hC, hM.2 (Int32.not_le.mpr rn), FO_trans fo0 fo1⟩)
  · replace hM := hM.2 (Int32.not_le.mpr rn)
    obtain ⟨r2, u2, qa, qb⟩ := dt_Nd_measureOf hC
    replace hC := qb _ hC
    rcases br_el hC with ⟨q, hC⟩ | ⟨q, hC⟩
    · exact Or.inr (Or.inr ⟨_, nm1, nd1, w1, m1, hC, d1, hM, FO_trans fo0 fo1⟩)
    · exact Or.inr (Or.inl ⟨_, m1, hC, hM, FO_trans fo0 fo1⟩)
/-- a test or a block, pushed -/
theorem rl_pushed {kx : Int32} {tx : Nat → Int32} {sz : Int32} {pl ln : Nat → Int32} {nd0 : T_Nd} {m0 : T_Mo} {n0 km0 hi tp c : Nat} {nm : T_Nm} {nd : T_Nd} {w : T_Wd} {m : T_Mo} {n km : Nat} {asc : List Nat} {PC : Unit → T_Gr × T_Nm × T_Nd × T_Wd → Prop} {PT : T_Gr × T_Nm × T_Nd × T_Wd → Prop} {PM : Int32 → T_Mo → Prop} (s : SS tx sz pl ln nd0 m0 n0 km0 hi tp c nm nd w m n km asc) (s0 : km0 + hi + tp ≤ n0) (ot : OT kx tx sz pl ln PC PT (fun (r : Int32) (u : T_Mo) => wp_Mo_pushed u r PM) nd w m n km (hi + asc.length) tp c) : OP tx sz pl ln nd0 m0 n0 km0 hi tp c PC PT PM w m asc := by
  have fo0 := s.2.2.2.2.2.2.1
  rcases ot with ⟨g1, nm1, nd1, w1, m1, n1, km1, hC, hM, rg1, e1⟩ | ⟨u, r', m1, hC, hM, rn, fo1⟩ | ⟨g1, nm1, nd1, w1, r', m1, hC, d1, hM, rn, fo1⟩
  · have n91 : n1 + 1 ≤ 1000 := rg1.2.1.2.2.2.1
    have s2 := rg1.2.2.2.2.2.2
    have on1 := on_n1 (k := n1) (by omega)
    unfold wp_Mo_pushed wp_Mo_push at hM
    replace hM := (hM.1 on1.2.2).2
    rw [rg1.2.2.2.2.1, ix_on (by omega), on_succ (by omega)] at hM
    exact Or.inl ⟨_, nm1, nd1, w1, _, n1, km1, hC, hM, SS_push s s0 rg1 e1, e1.2.2.2.2.2.2.1.2.1, e1.2.2.2.2.2.2.2.2⟩
  · unfold wp_Mo_pushed at hM
    exact Or.inr (Or.inl ⟨_, m1, hC, hM.2 (Int32.not_le.mpr rn), FO_trans fo0 fo1⟩)
  · unfold wp_Mo_pushed at hM
    exact Or.inr (Or.inr ⟨_, nm1, nd1, w1, m1, hC, d1, hM.2 (Int32.not_le.mpr rn), FO_trans fo0 fo1⟩)
/-- a name where one must stand -/
theorem rl_name {tx : Nat → Int32} {sz : Int32} {pl ln : Nat → Int32} {g : T_Gr} {nm : T_Nm} {nd : T_Nd} {w : T_Wd} {m : T_Mo} {n km hi tp c : Nat} {so ro : Int32} {PC : Int32 → T_Gr × T_Wd → Prop} {PT : T_Gr × T_Wd → Prop} {PM : Int32 → T_Mo → Prop} (rg : RG tx sz pl ln nm nd w m n km hi tp c) (sr_ : sr so ro) (hC : wp_Gr_readName g nm nd w so PC PT) (hM : wp_Mo_known m ro PM) : (∃ k w' m', k < c ∧ PC (Int32.ofNat k) (g, w') ∧ PM (Int32.ofNat k) m' ∧ RW tx sz pl ln w' m' ∧ Fr m m' ∧ w'.2.2.2.2.2.2.2.1 = w.2.2.2.2.2.2.2.1 + 1) ∨ (∃ u r' m', PT u ∧ PM r' m' ∧ r' < 0 ∧ FO m m') ∨ (∃ k w' r' m', k < c ∧ PC (Int32.ofNat k) (g, w') ∧ dead w'.2.2.2.2.2.2.2.2.2.2.1 ∧ PM r' m' ∧ r' < 0 ∧ FO m m') := by
  have rw1 := rg.1
  have n9 := NR_cnt rg.2.1
  have hh := rg.2.1.1
  have hn := rg.2.2.1
  have z := RW_z rw1
  have z999 : w.2.2.2.2.2.2.2.2.2.2.1 = 128 ↔ m.1.1.1.2.2.2 = (1000 : Int32) + (-1) := Z_eq z (by decide) (by decide) (by decide)
  unfold wp_Gr_readName wp_Gr_refuse at hC
  unfold wp_Mo_known wp_Mo_known_J16 wp_Mo_known_J66 wp_Mo_bad at hM
  rcases br_el hC with ⟨e, hC⟩ | ⟨e, hC⟩
  · rcases iv_isWord hM with ⟨-, hM⟩ | ⟨q, -⟩
    · replace hM := hM.2 (by decide)
      obtain ⟨hv, hw, lb⟩ := RW_name rw1 e
      rcases rl_find hh hn rg.2.2.2.1 hv hw lb hC hM with ⟨k, kc, kw, hC, hM⟩ | ⟨hC, hM⟩
      · obtain ⟨c1, c9, per, -⟩ := hn
        obtain ⟨-, -, -, -, srk, -, -, stp⟩ := per k kc
        have o1 := on_n1 (k := k) (by omega)
        have na := Ns_at hh (x := Int32.ofNat k) rfl (by omega)
        replace hC := iv_sortOf (hC.2 o1.1) c1 kc c9
        replace hM := (hM.2 o1.2.1).2
        rw [na.1] at hM
        have iff : nm.2.1 k = so ↔ m.2.1.2.1.2 (Ns m.1.2.1.2.1 + k) = ro := by
          rcases srk with ⟨a, b⟩ | ⟨a, b⟩ | ⟨a, b⟩ <;> rcases sr_ with ⟨x, y⟩ | ⟨x, y⟩ | ⟨x, y⟩ <;> rw [a, b, x, y] <;> decide
        rcases br_el hC with ⟨q, hC⟩ | ⟨q, hC⟩
        · have rq := iff.mp q
          replace hM := hM.1 rq
          have hM2 : wp_Mo_known_J71 PM m ro (Int32.ofNat k) := by
            by_cases r24 : ro = 24
            · exact ((hM.1 r24).2).1 (stp (rq.trans r24))
            · exact hM.2 r24
          unfold wp_Mo_known_J71 wp_Mo_known_J83 at hM2
          rcases rl_pass rw1 (by rw [e]; decide) n9 hC hM2 with ⟨w1, m1, hC, hM, rw2, fr, cw⟩ | ⟨u, m1, hC, hM, fr⟩ | ⟨w1, m1, hC, hM, dd, fr⟩
          · exact Or.inl ⟨k, w1, m1, kc, hC, hM.2 (by decide), rw2, fr, cw⟩
          · exact Or.inr (Or.inl ⟨_, -1, m1, hC, hM.1 rfl, by decide, FO_Fr fr⟩)
          · exact Or.inr (Or.inr ⟨k, w1, -1, m1, kc, hC, dd, hM.1 rfl, by decide, FO_Fr fr⟩)
        · exact Or.inr (Or.inl ⟨_, -1, _, hC, hM.2 (fun q2 => q (iff.mpr q2)), by decide, FO_refl⟩)
      · have hC := hC.1 rfl
        rcases hM with hM | ⟨pe, hM⟩
        · exact Or.inr (Or.inl ⟨_, -1, _, hC, hM.1 (by decide), by decide, FO_refl⟩)
        · obtain ⟨c1, c9, per, pend⟩ := hn
          have pend := pend.resolve_left (fun q => by
            rw [q] at pe; exact absurd (on_inj (by omega) (by omega) pe) (by omega))
          have o1 := on_n1 (k := c) (by omega)
          have na := Ns_at hh (x := Int32.ofNat c) rfl (by omega)
          replace hM := (hM.2 o1.2.1).2
          rw [na.1] at hM
          rcases br_el hM with ⟨q, hM⟩ | ⟨q, hM⟩
          · have r24 : ro = 24 := q.symm.trans pend.2.2.1
            have hM := ((hM.1 r24).2).2 (by rw [pend.2.2.2]; decide)
            exact Or.inr (Or.inl ⟨_, -1, _, hC, hM, by decide, FO_refl⟩)
          · exact Or.inr (Or.inl ⟨_, -1, _, hC, hM, by decide, FO_refl⟩)
    · exact absurd (z999.mp e) q
  · rcases iv_isWord hM with ⟨q, -⟩ | ⟨-, hM⟩
    · exact absurd (z999.mpr q) e
    · exact Or.inr (Or.inl ⟨_, -1, _, hC.1 rfl, (hM.1 rfl).1 (by decide), by decide, FO_refl⟩)

