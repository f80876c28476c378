def EE (kx : Int32) (nd nd' : T_Nd) (m m' : T_Mo) (w w' : T_Wd) (n n' km km' hi : Nat) : Prop := n ≤ n' ∧ km' + n ≤ km + n' ∧ nd'.2.2.2.2.1 n' = Int32.ofNat n ∧ nd'.1 n' ≤ kx ∧ (0 : Int32) ≤ nd'.2.2.2.1 n' ∧ (∀ k, k < n → nd'.2.2.2.2.1 k = nd.2.2.2.2.1 k ∧ nd'.1 k = nd.1 k ∧ nd'.2.2.2.1 k = nd.2.2.2.1 k) ∧ FP m m' hi ∧ FO m m' ∧ w.2.2.2.2.2.2.2.1 < w'.2.2.2.2.2.2.2.1
/-- how the two end that read one expression -/
def OE (kx : Int32) (tx : Nat → Int32) (sz : Int32) (pl ln : Nat → Int32) (PC : Int32 → T_Gr × T_Nm × T_Nd × T_Wd → Prop) (PT : T_Gr × T_Nm × T_Nd × T_Wd → Prop) (PM : Int32 → T_Mo → Prop) (nd : T_Nd) (w : T_Wd) (m : T_Mo) (n km hi tp c : Nat) : Prop := (∃ g' nm' nd' w' m' n' km', PC (Int32.ofNat n') (g', nm', nd', w') ∧ PM (Int32.ofNat n') m' ∧ RG tx sz pl ln nm' nd' w' m' (n' + 1) km' hi tp c ∧ EE kx nd nd' m m' w w' n n' km km' hi) ∨ (∃ u r' m', PT u ∧ PM r' m' ∧ r' < 0 ∧ FO m m') ∨ (∃ r g' nm' nd' w' r' m', PC r (g', nm', nd', w') ∧ DM nd' w' ∧ PM r' m' ∧ r' < 0 ∧ FO m m')
theorem AD_old {nd nd' : T_Nd} {n low : Nat} {kind row me : Int32} {v : Int64} {l : List Nat} (ad : AD nd nd' n kind row v me low l) : ∀ k, k < n → nd'.2.2.2.2.1 k = nd.2.2.2.2.1 k ∧ nd'.1 k = nd.1 k ∧ nd'.2.2.2.1 k = nd.2.2.2.1 k := by
  obtain ⟨a1, a2, a3, a4, a5, -⟩ := ad
  intro k hk
  have ne : k ≠ n := by omega
  rw [a1, a4, a5, upd_ne ne, upd_ne ne, upd_ne ne]
  exact ⟨rfl, rfl, rfl⟩
theorem AD_new {nd nd' : T_Nd} {n low : Nat} {kind row me : Int32} {v : Int64} {l : List Nat} (ad : AD nd nd' n kind row v me low l) : nd'.2.2.2.2.1 n = Int32.ofNat low ∧ nd'.1 n = kind ∧ nd'.2.2.2.1 n = me ∧ nd'.2.1 n = row := by
  obtain ⟨a1, a2, a3, a4, a5, -⟩ := ad
  rw [a1, a2, a4, a5, upd_at, upd_at, upd_at, upd_at]
  exact ⟨rfl, rfl, rfl, rfl⟩
theorem NR_cnt {nd : T_Nd} {m : T_Mo} {n km : Nat} (h : NR nd m n km) : nd.2.2.2.2.2.2.2.2.2.2.1 ≤ 1000 := by
  obtain ⟨-, a, -, b, -⟩ := h
  rw [a, show (1000 : Int32) = Int32.ofNat 1000 from rfl, on_le (by omega) (by omega)]; exact b
theorem RG_Fr {tx : Nat → Int32} {sz : Int32} {pl ln : Nat → Int32} {nm : T_Nm} {nd : T_Nd} {w w' : T_Wd} {m m' : T_Mo} {n km hi tp c : Nat} (rg : RG tx sz pl ln nm nd w m n km hi tp c) (r : RW tx sz pl ln w' m') (fr : Fr m m') : RG tx sz pl ln nm nd w' m' n km hi tp c := by
  obtain ⟨r1, r2, r3, r4, r5, r6, r7⟩ := rg
  have f := FP_Fr (hi := hi) fr
  exact ⟨r, NR_Fr r2 fr, NM_Fr r3 fr, PLn_Fr r4 fr, f.2.2.2.2.1.trans r5, f.2.2.2.1.trans r6, r7⟩
set_option maxHeartbeats 1000000 in
theorem rl_leaf {tx : Nat → Int32} {sz : Int32} {pl ln : Nat → Int32} {g : T_Gr} {nm : T_Nm} {nd : T_Nd} {w w' : T_Wd} {m m' : T_Mo} {n km hi tp c : Nat} {kind row me un : Int32} {v : Int64} {PC : Int32 → T_Gr × T_Nm × T_Nd × T_Wd → Prop} {PT : T_Gr × T_Nm × T_Nd × T_Wd → Prop} {PM : Int32 → T_Mo → Prop} (k6 : kind ≤ 6) (me0 : (0 : Int32) ≤ me) (rg : RG tx sz pl ln nm nd w' m' n km hi tp c) (fp : FP m m' hi) (fo : FO m m') (cw : w.2.2.2.2.2.2.2.1 < w'.2.2.2.2.2.2.2.1) (hC : wp_Nd_add nd kind (Int32.ofNat n) row v me (fun (r5 : Int32) (u5 : T_Nd) => PC r5 (g, nm, u5, w'))) (hM : wp_Mo_node0 m' kind v row un m'.2.2.1.2.2.2 PM) (um : me = un) : OE 6 tx sz pl ln PC PT PM nd w m n km hi tp c := by
  have rh := rg.2.2.2.2.1
  have rt := rg.2.2.2.2.2.1
  rw [rh] at hM
  rcases rl_mk (asc := []) rg rfl trivial (show CH nd.2.2.2.2.1 n n [] from rfl) hC hM (fun _ => um) with ⟨n8, nd', m2, hC, hM, rg2, ad, e1, e2, e3, e4, e5, fo2⟩ | ⟨r, nd', m2, hC, hM, cn, fo2⟩
  · have an := AD_new ad
    have fp2 : FP m' m2 hi := ⟨fun j _ => by rw [e1], e2, e3, rg2.2.2.2.2.2.1.trans rt.symm, rg2.2.2.2.2.1.trans rh.symm, e5⟩
    exact Or.inl ⟨g, nm, nd', w', m2, n, km, hC, hM, rg2, Nat.le_refl _, Nat.le_refl _, an.1, by rw [an.2.1]; exact k6, by rw [an.2.2.1]; exact me0, AD_old ad, FP_trans fp fp2, FO_trans fo fo2, cw⟩
  · exact Or.inr (Or.inr ⟨r, g, nm, nd', w', -1, m2, hC, Or.inr cn, hM, by decide, FO_trans fo fo2⟩)
theorem lt_trans' {a b c : Int32} (h : b = a + 1) (h0 : (0 : Int32) ≤ a) (h9 : a < 4001) (g : b < c ∨ b = c) : a < c := by
  rcases g with g | g <;> grind
theorem cur_up {tx : Nat → Int32} {sz : Int32} {pl ln : Nat → Int32} {w w' : T_Wd} {m : T_Mo} (r : RW tx sz pl ln w m) (e : w'.2.2.2.2.2.2.2.1 = w.2.2.2.2.2.2.2.1 + 1) : w.2.2.2.2.2.2.2.1 < w'.2.2.2.2.2.2.2.1 := by
  obtain ⟨-, -, a, b, c, -⟩ := r
  rw [e]
  exact lt_trans' rfl b (Int32.lt_of_lt_of_le c a) (Or.inr rfl)
set_option maxHeartbeats 1000000 in
/-- the end of a number: its unit -/
theorem am_end {tx : Nat → Int32} {sz : Int32} {pl ln : Nat → Int32} {g : T_Gr} {nm : T_Nm} {nd : T_Nd} {w w1 : T_Wd} {m m1 : T_Mo} {n km hi tp c : Nat} {row u x5 : Int32} {v : Int64} {PC : Int32 → T_Gr × T_Nm × T_Nd × T_Wd → Prop} {PT : T_Gr × T_Nm × T_Nd × T_Wd → Prop} {PM : Int32 → T_Mo → Prop} (rg : RG tx sz pl ln nm nd w1 m1 n km hi tp c) (fr : Fr m m1) (cw : w.2.2.2.2.2.2.2.1 < w1.2.2.2.2.2.2.2.1) (u0 : (0 : Int32) ≤ u) (nz : ¬ u ≤ 0 → ¬ w1.2.2.2.2.2.2.2.2.2.2.1 = 0) (hC : (u ≤ 0 → wp_Nd_count nd (fun (r4 : Int32) (u4 : Unit) => wp_Nd_add nd (0 : Int32) r4 row v u (fun (r5 : Int32) (u5 : T_Nd) => PC r5 (g, nm, u5, w1)))) ∧ (¬ u ≤ 0 → wp_Gr_pass g nd w1 (fun (r6 : Unit) (u6 : T_Gr × T_Wd) => wp_Nd_count nd (fun (r7 : Int32) (u7 : Unit) => wp_Nd_add nd (0 : Int32) r7 row v u (fun (r8 : Int32) (u8 : T_Nd) => PC r8 (u6.1, nm, u8, u6.2)))) (fun (u : T_Gr × T_Wd) => PT (u.1, nm, nd, u.2)))) (hM : wp_Mo_numberNode_J87 PM m1 row v u x5) : OE 6 tx sz pl ln PC PT PM nd w m n km hi tp c := by
  have en : nd.2.2.2.2.2.2.2.2.2.2.1 = Int32.ofNat n := rg.2.1.2.1
  have n9 := NR_cnt rg.2.1
  unfold wp_Mo_numberNode_J87 wp_Mo_numberNode_J101 at hM
  rcases br_el hC with ⟨q, hC⟩ | ⟨q, hC⟩
  · unfold wp_Nd_count at hC
    rw [en] at hC
    exact rl_leaf (by decide) u0 rg (FP_Fr fr) (FO_Fr fr) cw hC (hM.1 q) rfl
  · rcases rl_pass rg.1 (nz q) n9 hC (hM.2 q) with ⟨w2, m2, hC, hM, rw2, fr2, cw2⟩ | ⟨u2, m2, hC, hM, fr2⟩ | ⟨w2, m2, hC, hM, dd, fr2⟩
    · unfold wp_Nd_count at hC
      rw [en] at hC
      have rg2 := RG_Fr rg rw2 fr2
      exact rl_leaf (by decide) u0 rg2 (FP_trans (FP_Fr fr) (FP_Fr fr2)) (FO_trans (FO_Fr fr) (FO_Fr fr2)) (Int32.lt_trans cw (cur_up rg.1 cw2)) hC (hM.2 (by decide)) rfl
    · exact Or.inr (Or.inl ⟨_, -1, m2, hC, hM.1 rfl, by decide, FO_trans (FO_Fr fr) (FO_Fr fr2)⟩)
    · unfold wp_Nd_count at hC
      obtain ⟨r, nd', hC, -⟩ := dm_add hC
      exact Or.inr (Or.inr ⟨r, g, nm, nd', w2, -1, m2, hC, Or.inl dd, hM.1 rfl, by decide, FO_trans (FO_Fr fr) (FO_Fr fr2)⟩)
theorem lg_most {v : Int64} (h : v.toInt < 1000000000000) : lg_cmp v (999999999999 : Int64) ≤ 0 := by
  rcases Int32.le_iff_lt_or_eq.mp (Int32.le_refl (lg_cmp v (999999999999 : Int64))) with q | q
  · exact absurd q (fun z => Int32.lt_irrefl z)
  · by_cases e : v = (999999999999 : Int64)
    · rw [e]; decide
    · have l : v < (999999999999 : Int64) := by
        rw [Int64.lt_iff_toInt_lt, show (999999999999 : Int64).toInt = 999999999999 from rfl]
        have ne : ¬ v.toInt = 999999999999 := fun z => e (Int64.toInt_inj.mp (by rw [z]; rfl))
        omega
      exact Int32.le_of_lt (by rw [lg_cmp_lt]; exact l)
theorem mh_0 {c : Int32} (h : ¬ ((219 : Int32) ≤ c ∧ c ≤ 223)) : mh c = 0 := if_neg h
theorem mh_nn {c : Int32} : (0 : Int32) ≤ mh c := by
  unfold mh
  by_cases h : (219 : Int32) ≤ c ∧ c ≤ 223
  · rw [if_pos h]; obtain ⟨a, b⟩ := h; grind
  · rw [if_neg h]; decide
theorem mh_nz {c : Int32} (h : ¬ mh c ≤ 0) : ¬ c = 0 := fun q => h (by rw [q]; decide)
set_option maxHeartbeats 2000000 in
/-- a number of a text -/
theorem rl_amount {tx : Nat → Int32} {sz : Int32} {pl ln : Nat → Int32} {g : T_Gr} {nm : T_Nm} {nd : T_Nd} {w : T_Wd} {m : T_Mo} {n km hi tp c : Nat} {PC : Int32 → T_Gr × T_Nm × T_Nd × T_Wd → Prop} {PT : T_Gr × T_Nm × T_Nd × T_Wd → Prop} {PM : Int32 → T_Mo → Prop} (rg : RG tx sz pl ln nm nd w m n km hi tp c) (ca : w.2.2.2.2.2.2.2.2.2.2.1 = 129 ∨ w.2.2.2.2.2.2.2.2.2.2.1 = 130) (hC : wp_Gr_readAmount g nd w (fun (r : Int32) (u : T_Gr × T_Nd × T_Wd) => PC r (u.1, nm, u.2.1, u.2.2)) (fun (u : T_Gr × T_Nd × T_Wd) => PT (u.1, nm, u.2.1, u.2.2))) (hM : wp_Mo_numberNode m m.1.1.2.2.1 PM) : OE 6 tx sz pl ln PC PT PM nd w m n km hi tp c := by
  have rw1 := rg.1
  have row : m.1.1.2.2.1 = w.2.2.2.2.2.2.2.2.2.2.2.2.1 := rw1.2.2.2.2.2.2.2.2.1
  have n9 := NR_cnt rg.2.1
  have nz : ¬ w.2.2.2.2.2.2.2.2.2.2.1 = 0 := fun q => by rw [q] at ca; exact absurd ca (by decide)
  have tk : m.1.1.2.2.2.1 = w.2.2.2.2.2.2.2.2.2.2.2.2.2 ∧ 0 ≤ w.2.2.2.2.2.2.2.2.2.2.2.2.2.toInt ∧ w.2.2.2.2.2.2.2.2.2.2.2.2.2.toInt < 1000000000000 := by
    rcases rw1.2.2.2.2.2.2.2.2.2 with ⟨q, -⟩ | ⟨q, -, -⟩
    · exact absurd q nz
    · rcases q with ⟨q, -⟩ | ⟨-, -, -, h⟩ | ⟨-, -, -, h⟩ | ⟨q, -⟩
      · have b := sg_b q
        rcases ca with e | e <;> rw [e] at b <;> exact absurd b (by decide)
      · exact h
      · exact h
      · have b := (KP_b (KP_all (wo m))).1
        rw [← q] at b
        rcases ca with e | e <;> rw [e] at b <;> exact absurd b (by decide)
  obtain ⟨ev, v0, v9⟩ := tk
  have lv := lg_most v9
  unfold wp_Gr_readAmount at hC
  unfold wp_Mo_numberNode at hM
  rw [row, ev] at hM
  rcases rl_pass rw1 nz n9 hC hM with ⟨w1, m1, hC, hM, rw2, fr, cw⟩ | ⟨u, m1, hC, hM, fr⟩ | ⟨w1, m1, hC, hM, dd, fr⟩
  · have z := RW_z rw2
    have cw' := cur_up rw1 cw
    have rg1 := RG_Fr rg rw2 fr
    dsimp only at hC
    replace hM := iv_unitWord0 z (hM.2 (by decide))
    replace hC := iv_measureHere hC
    have z45 : w1.2.2.2.2.2.2.2.2.2.2.1 = 224 ↔ m1.1.1.1.2.2.2 = (1000 : Int32) + 45 := Z_eq z (by decide) (by decide) (by decide)
    have z46 : w1.2.2.2.2.2.2.2.2.2.2.1 = 225 ↔ m1.1.1.1.2.2.2 = (1000 : Int32) + 46 := Z_eq z (by decide) (by decide) (by decide)
    have time : ∀ k : Int64, ¬ w1.2.2.2.2.2.2.2.2.2.2.1 = 0 → wp_Mo_numberNode_J69 PM m1 w.2.2.2.2.2.2.2.2.2.2.2.2.1 w.2.2.2.2.2.2.2.2.2.2.2.2.2 (mh w1.2.2.2.2.2.2.2.2.2.2.1) 1 k w.2.2.2.2.2.2.2.2.2.2.2.2.2 → ((lg_cmp (w.2.2.2.2.2.2.2.2.2.2.2.2.2 * k) (999999999999 : Int64) ≤ 0 → (((3 : Int32) ≤ 0 → wp_Nd_count nd (fun (r4 : Int32) (u4 : Unit) => wp_Nd_add nd (0 : Int32) r4 w.2.2.2.2.2.2.2.2.2.2.2.2.1 (w.2.2.2.2.2.2.2.2.2.2.2.2.2 * k) (3 : Int32) (fun (r5 : Int32) (u5 : T_Nd) => PC r5 (g, nm, u5, w1)))) ∧ (¬ (3 : Int32) ≤ 0 → wp_Gr_pass g nd w1 (fun (r6 : Unit) (u6 : T_Gr × T_Wd) => wp_Nd_count nd (fun (r7 : Int32) (u7 : Unit) => wp_Nd_add nd (0 : Int32) r7 w.2.2.2.2.2.2.2.2.2.2.2.2.1 (w.2.2.2.2.2.2.2.2.2.2.2.2.2 * k) (3 : Int32) (fun (r8 : Int32) (u8 : T_Nd) => PC r8 (u6.1, nm, u8, u6.2)))) (fun (u : T_Gr × T_Wd) => PT (u.1, nm, nd, u.2))))) ∧ (¬ lg_cmp (w.2.2.2.2.2.2.2.2.2.2.2.2.2 * k) (999999999999 : Int64) ≤ 0 → wp_Gr_refuse g w1.2.2.2.2.2.2.2.2.2.2.2.1 (fun (u : T_Gr) => PT (u, nm, nd, w1)))) → OE 6 tx sz pl ln PC PT PM nd w m n km hi tp c := by
      intro k nz1 hM hC
      unfold wp_Mo_numberNode_J69 at hM
      rcases br_el hC with ⟨q, hC⟩ | ⟨q, hC⟩
      · exact am_end rg1 fr cw' (by decide) (fun _ => nz1) hC (hM.1 q)
      · have hM := hM.2 q
        unfold wp_Mo_bad at hM
        unfold wp_Gr_refuse at hC
        exact Or.inr (Or.inl ⟨_, -1, _, hC, hM, by decide, FO_Fr fr⟩)
    by_cases c1 : w1.2.2.2.2.2.2.2.2.2.2.1 = 224
    · rcases iv_isBetween hC with ⟨-, hC⟩ | ⟨q, hC⟩
      · replace hC := (hC.2 (by decide)).1 c1
        rcases iv_isWord hM with ⟨-, hM⟩ | ⟨q, -⟩
        · replace hM := hM.2 (by decide)
          unfold wp_Mo_numberNode_J38 wp_Mo_numberNode_J43 at hM
          rcases iv_isWord (hM.2 (by decide)) with ⟨-, hM⟩ | ⟨q, -⟩
          · exact time 60 (by rw [c1]; decide) (hM.2 (by decide)) hC
          · exact absurd (z45.mp c1) q
        · exact absurd (z45.mp c1) q
      · exact absurd (show (224 : Int32) ≤ w1.2.2.2.2.2.2.2.2.2.2.1 ∧ w1.2.2.2.2.2.2.2.2.2.2.1 ≤ 225 by rw [c1]; decide) q
    · by_cases c2 : w1.2.2.2.2.2.2.2.2.2.2.1 = 225
      · rcases iv_isBetween hC with ⟨-, hC⟩ | ⟨q, hC⟩
        · replace hC := (hC.2 (by decide)).2 c1
          rcases iv_isWord hM with ⟨q, -⟩ | ⟨-, hM⟩
          · exact absurd (z45.mpr q) c1
          · rcases iv_isWord (hM.1 rfl) with ⟨-, hM⟩ | ⟨q, -⟩
            · replace hM := hM.2 (by decide)
              unfold wp_Mo_numberNode_J38 wp_Mo_numberNode_J43 at hM
              rcases iv_isWord (hM.2 (by decide)) with ⟨q, -⟩ | ⟨-, hM⟩
              · exact absurd (z45.mpr q) c1
              · exact time 3600 (by rw [c2]; decide) (hM.1 rfl) hC
            · exact absurd (z46.mp c2) q
        · exact absurd (show (224 : Int32) ≤ w1.2.2.2.2.2.2.2.2.2.2.1 ∧ w1.2.2.2.2.2.2.2.2.2.2.1 ≤ 225 by rw [c2]; decide) q
      · rcases iv_isBetween hC with ⟨q, -⟩ | ⟨-, hC⟩
        · exfalso
          generalize w1.2.2.2.2.2.2.2.2.2.2.1 = x at q c1 c2
          obtain ⟨q1, q2⟩ := q
          clear time z45 z46 hM
          grind
        · replace hC := (hC.1 rfl).1 lv
          rcases iv_isWord hM with ⟨q, -⟩ | ⟨-, hM⟩
          · exact absurd (z45.mpr q) c1
          · rcases iv_isWord (hM.1 rfl) with ⟨q, -⟩ | ⟨-, hM⟩
            · exact absurd (z46.mpr q) c2
            · replace hM := hM.1 rfl
              unfold wp_Mo_numberNode_J43 at hM
              exact am_end rg1 fr cw' mh_nn mh_nz hC (hM.1 rfl)
  · exact Or.inr (Or.inl ⟨_, -1, m1, hC, hM.1 rfl, by decide, FO_Fr fr⟩)
  · dsimp only at hC
    have dn := dead_n dd
    replace hC := iv_measureHere hC
    rw [mh_0 (fun q => dn.1 (Int32.le_trans (by decide) q.1))] at hC
    rcases iv_isBetween hC with ⟨q, -⟩ | ⟨-, hC⟩
    · exact absurd (Int32.le_trans (by decide) q.1) dn.1
    · replace hC := ((hC.1 rfl).1 lv).1 (by decide)
      unfold wp_Nd_count at hC
      obtain ⟨r, nd', hC, -⟩ := dm_add hC
      exact Or.inr (Or.inr ⟨r, g, nm, nd', w1, -1, m1, hC, Or.inl dd, hM.1 rfl, by decide, FO_Fr fr⟩)
/-- names of the class -/
theorem iv_hasN {nm : T_Nm} {k c : Nat} {P : Int32 → Unit → Prop} (h : wp_Nm_has nm (Int32.ofNat k) P) (e : nm.2.2.2.2 = Int32.ofNat c) (kn : k < c) (n9 : c ≤ 100) : P 1 () := by
  unfold wp_Nm_has at h
  rw [e] at h
  have a : ¬ Int32.ofNat k < 0 := by rw [Int32.lt_iff_toInt_lt, on_toInt (by omega), show (0 : Int32).toInt = 0 from rfl]; omega
  have b : ¬ Int32.ofNat c ≤ Int32.ofNat k := by rw [on_le (by omega) (by omega)]; omega
  have d : ¬ (100 : Int32) ≤ Int32.ofNat k := by rw [show (100 : Int32) = Int32.ofNat 100 from rfl, on_le (by omega) (by omega)]; omega
  exact ((h.2 a).2 b).2 d
theorem iv_sortOf {nm : T_Nm} {k c : Nat} {P : Int32 → Unit → Prop} (h : wp_Nm_sortOf nm (Int32.ofNat k) P) (e : nm.2.2.2.2 = Int32.ofNat c) (kn : k < c) (n9 : c ≤ 100) : P (nm.2.1 k) () := by
  unfold wp_Nm_sortOf at h
  have h := ((iv_hasN h e kn n9).2 (by decide)).2
  rw [ix_on (by omega)] at h; exact h
theorem iv_measN {nm : T_Nm} {k c : Nat} {P : Int32 → Unit → Prop} (h : wp_Nm_measureOf nm (Int32.ofNat k) P) (e : nm.2.2.2.2 = Int32.ofNat c) (kn : k < c) (n9 : c ≤ 100) : P (nm.2.2.1 k) () := by
  unfold wp_Nm_measureOf at h
  have h := ((iv_hasN h e kn n9).2 (by decide)).2
  rw [ix_on (by omega)] at h; exact h
theorem iv_use {nm : T_Nm} {k c : Nat} {P : Unit → T_Nm → Prop} (h : wp_Nm_use nm (Int32.ofNat k) P) (e : nm.2.2.2.2 = Int32.ofNat c) (kn : k < c) (n9 : c ≤ 100) : P () (nm.1, nm.2.1, nm.2.2.1, (upd nm.2.2.2.1 k (vp_nar .boolean (1 : Int32))), nm.2.2.2.2) := by
  unfold wp_Nm_use at h
  have h := ((iv_hasN h e kn n9).2 (by decide)).2
  rw [ix_on (by omega)] at h; exact h
theorem on_n1 {k : Nat} (h : k < 2147483648) : ¬ Int32.ofNat k = -1 ∧ ¬ Int32.ofNat k < 0 ∧ (0 : Int32) ≤ Int32.ofNat k := by
  have t := on_toInt h
  refine ⟨fun q => ?_, ?_, ?_⟩
  · rw [q] at t
    have e : (-1 : Int32).toInt = -1 := rfl
    omega
  · rw [Int32.lt_iff_toInt_lt, t, show (0 : Int32).toInt = 0 from rfl]; omega
  · rw [Int32.le_iff_toInt_le, t, show (0 : Int32).toInt = 0 from rfl]; omega
theorem sr_24 {s r : Int32} (h : sr s r) : (s = 215 ↔ r = 24) ∧ (s = 214 ↔ r = 31) ∧ (s = 213 ↔ r = 30) := by
  rcases h with ⟨a, b⟩ | ⟨a, b⟩ | ⟨a, b⟩ <;> rw [a, b] <;> decide
theorem RW_name {tx : Nat → Int32} {sz : Int32} {pl ln : Nat → Int32} {w : T_Wd} {m : T_Mo} (h : RW tx sz pl ln w m) (e : w.2.2.2.2.2.2.2.2.2.2.1 = 128) : w.2.2.2.2.2.2.2.2.2.2.2.2.2.toInt = pk (wo m) ∧ wl (wo m) ∧ LB m := by
  rcases h.2.2.2.2.2.2.2.2.2 with ⟨q, -⟩ | ⟨q, -, -⟩
  · rw [e] at q; exact absurd q (by decide)
  · rcases q with ⟨q, -⟩ | ⟨q, -⟩ | ⟨q, -⟩ | ⟨-, -, a, b, -, d⟩
    · rw [e] at q; exact absurd (sg_b q) (by decide)
    · rw [e] at q; exact absurd q (by decide)
    · rw [e] at q; exact absurd q (by decide)
    · exact ⟨a, b, d⟩
set_option maxHeartbeats 2000000 in
/-- a signal or an output in a sum -/
theorem rl_measured {tx : Nat → Int32} {sz : Int32} {pl ln : Nat → Int32} {rM : T_Mo → (Int32 → T_Mo → Prop) → Prop} {g : T_Gr} {nm : T_Nm} {nd : T_Nd} {w : T_Wd} {m : T_Mo} {n km hi tp c : Nat} {PC : Int32 → T_Gr × T_Nm × T_Nd × T_Wd → Prop} {PT : T_Gr × T_Nm × T_Nd × T_Wd → Prop} {PM : Int32 → T_Mo → Prop} (rg : RG tx sz pl ln nm nd w m n km hi tp c) (hC : wp_Gr_readMeasured g nm nd w (fun (r13 : Int32) (u13 : T_Gr × T_Nm × T_Nd × T_Wd) => PC r13 (u13.1, u13.2.1, u13.2.2.1, u13.2.2.2)) (fun (u : T_Gr × T_Nm × T_Nd × T_Wd) => PT (u.1, u.2.1, u.2.2.1, u.2.2.2))) (hM : wp_Mo_isWord m (-1 : Int32) (fun (r9 : Int32) (u9 : Unit) => (r9 = 0 → (wp_Mo_factor_J181 rM PM m m.1.1.2.2.1 (-1 : Int32))) ∧ (¬ r9 = 0 → (wp_Mo_nameOf m (fun (r13 : Int32) (u13 : Unit) => wp_Mo_factor_J181 rM PM m m.1.1.2.2.1 r13))))) : OE 6 tx sz pl ln PC PT PM nd w m n km hi tp c := by
  have rw1 := rg.1
  have row : m.1.1.2.2.1 = w.2.2.2.2.2.2.2.2.2.2.2.2.1 := rw1.2.2.2.2.2.2.2.2.1
  have n9 := NR_cnt rg.2.1
  have en : nd.2.2.2.2.2.2.2.2.2.2.1 = Int32.ofNat n := rg.2.1.2.1
  have hh := rg.2.1.1
  have hn := rg.2.2.1
  have z := RW_z rw1
  have z999 : w.2.2.2.2.2.2.2.2.2.2.1 = 128 ↔ m.1.1.1.2.2.2 = (1000 : Int32) + (-1) := Z_eq z (by decide) (by decide) (by decide)
  have neg : ∀ y : Int32, y < 0 → wp_Mo_factor_J181 rM PM m m.1.1.2.2.1 y → PM (-1) (((((m.1.1.1.1.1, m.1.1.1.1.2), (m.1.1.1.2.1, (m.1.1.1.2.2.1, m.1.1.1.2.2.2))), ((m.1.1.2.1.1, m.1.1.2.1.2), (m.1.1.2.2.1, (m.1.1.2.2.2.1, m.1.1.2.2.2.2)))), (((m.1.1.2.1.1, m.1.2.1.1.2), (m.1.2.1.2.1, (m.1.2.1.2.2.1, m.1.2.1.2.2.2))), ((m.1.2.2.1.1, (m.1.2.2.1.2.1, m.1.2.2.1.2.2)), (m.1.2.2.2.1, (m.1.2.2.2.2.1, m.1.2.2.2.2.2))))), ((((m.2.1.1.1.1, m.2.1.1.1.2), (m.2.1.1.2.1, (m.2.1.1.2.2.1, m.2.1.1.2.2.2))), ((m.2.1.2.1.1, m.2.1.2.1.2), (m.2.1.2.2.1, (m.2.1.2.2.2.1, m.2.1.2.2.2.2)))), (((m.2.2.1.1.1, m.2.2.1.1.2), (m.2.2.1.2.1, (m.2.2.1.2.2.1, m.2.2.1.2.2.2))), ((m.2.2.2.1.1, (m.2.2.2.1.2.1, m.2.2.2.1.2.2)), (m.2.2.2.2.1, (m.2.2.2.2.2.1, m.2.2.2.2.2.2)))))) := by
    intro y hy h
    unfold wp_Mo_factor_J181 wp_Mo_factor_J207 wp_Mo_bad at h
    exact h.1 hy
  unfold wp_Gr_readMeasured wp_Gr_refuse at hC
  rcases br_el hC with ⟨e, hC⟩ | ⟨e, hC⟩
  · rcases iv_isWord hM with ⟨-, hM⟩ | ⟨q, -⟩
    · replace hM := hM.2 (by decide)
      obtain ⟨hv, hw, lb⟩ := RW_name rw1 e
      rcases rl_find hh hn rg.2.2.2.1 hv hw lb hC hM with ⟨k, kc, kw, hC, hM⟩ | ⟨hC, hM⟩
      · obtain ⟨c1, c9, per, -⟩ := hn
        obtain ⟨-, -, -, -, srk, mek, me0, -⟩ := per k kc
        have o1 := on_n1 (k := k) (by omega)
        have s24 := sr_24 srk
        have na := Ns_at hh (x := Int32.ofNat k) rfl (by omega)
        replace hC := iv_sortOf (hC.2 o1.1) c1 kc c9
        unfold wp_Mo_factor_J181 wp_Mo_factor_J207 wp_Mo_factor_J253 wp_Mo_bad at hM
        replace hM := (hM.2 o1.2.1).2
        rw [na.1] at hM
        rcases br_el hC with ⟨q, hC⟩ | ⟨q, hC⟩
        · exact Or.inr (Or.inl ⟨_, -1, _, hC, hM.1 (s24.1.mp q), by decide, FO_refl⟩)
        · replace hM := (hM.2 (fun z => q (s24.1.mpr z))).2
          replace hC := iv_sortOf hC c1 kc c9
          have nz : ¬ w.2.2.2.2.2.2.2.2.2.2.1 = 0 := by rw [e]; decide
          -- both branches: the names may be marked as used
          have fin : ∀ nm2 : T_Nm, nm2.2.2.2.2 = nm.2.2.2.2 → nm2.2.2.1 = nm.2.2.1 → NM nm2 m c → wp_Gr_pass g nd w (fun (r18 : Unit) (u18 : T_Gr × T_Wd) => wp_Nd_count nd (fun (r19 : Int32) (u19 : Unit) => wp_Nm_measureOf nm2 (Int32.ofNat k) (fun (r20 : Int32) (u20 : Unit) => wp_Nd_add nd (1 : Int32) r19 w.2.2.2.2.2.2.2.2.2.2.2.2.1 ((Int32.ofNat k).toInt64) r20 (fun (r21 : Int32) (u21 : T_Nd) => PC r21 (u18.1, nm2, u21, u18.2))))) (fun (u : T_Gr × T_Wd) => PT (u.1, nm2, nd, u.2)) → OE 6 tx sz pl ln PC PT PM nd w m n km hi tp c := by
            intro nm2 ec em hn2 hC
            rcases rl_pass rw1 nz n9 hC hM with ⟨w1, m1, hC, hM, rw2, fr, cw⟩ | ⟨u, m1, hC, hM, fr⟩ | ⟨w1, m1, hC, hM, dd, fr⟩
            · unfold wp_Nd_count at hC
              replace hC := iv_measN hC (ec.trans c1) kc c9
              rw [en, em] at hC
              have rg1 : RG tx sz pl ln nm2 nd w1 m1 n km hi tp c := RG_Fr ⟨rw1, rg.2.1, hn2, rg.2.2.2⟩ rw2 fr
              replace hM := hM.2 (by decide)
              rw [row] at hM
              exact rl_leaf (by decide) me0 rg1 (FP_Fr fr) (FO_Fr fr) (cur_up rw1 cw) hC hM mek
            · exact Or.inr (Or.inl ⟨_, -1, m1, hC, hM.1 rfl, by decide, FO_Fr fr⟩)
            · unfold wp_Nd_count at hC
              replace hC := iv_measN hC (ec.trans c1) kc c9
              obtain ⟨r, nd', hC, -⟩ := dm_add hC
              exact Or.inr (Or.inr ⟨r, g, nm2, nd', w1, -1, m1, hC, Or.inl dd, hM.1 rfl, by decide, FO_Fr fr⟩)
          rcases br_el hC with ⟨q2, hC⟩ | ⟨q2, hC⟩
          · exact fin (nm.1, nm.2.1, nm.2.2.1, (upd nm.2.2.2.1 k (vp_nar .boolean (1 : Int32))), nm.2.2.2.2) rfl rfl rg.2.2.1 (iv_use hC c1 kc c9)
          · exact fin nm rfl rfl rg.2.2.1 hC
      · have hC := hC.1 rfl
        rcases hM with hM | ⟨pe, hM⟩
        · exact Or.inr (Or.inl ⟨_, -1, _, hC, neg _ (by decide) hM, by decide, FO_refl⟩)
        · obtain ⟨c1, c9, per, pend⟩ := hn
          have pend := pend.resolve_left (fun q => by
            rw [q] at pe; exact absurd (on_inj (by omega) (by omega) pe) (by omega))
          have o1 := on_n1 (k := c) (by omega)
          have na := Ns_at hh (x := Int32.ofNat c) rfl (by omega)
          unfold wp_Mo_factor_J181 wp_Mo_factor_J207 wp_Mo_bad at hM
          replace hM := (hM.2 o1.2.1).2
          rw [na.1] at hM
          exact Or.inr (Or.inl ⟨_, -1, _, hC, hM.1 pend.2.2.1, by decide, FO_refl⟩)
    · exact absurd (z999.mp e) q
  · rcases iv_isWord hM with ⟨q, -⟩ | ⟨-, hM⟩
    · exact absurd (z999.mpr q) e
    · exact Or.inr (Or.inl ⟨_, -1, _, hC.1 rfl, neg _ (by decide) (hM.1 rfl), by decide, FO_refl⟩)

/-- what the two do that read one factor, and what the class does where the reference has given up -/
def RE (tx : Nat → Int32) (sz : Int32) (pl ln : Nat → Int32) (kx : Int32) (rC : T_Gr → T_Nm → T_Nd → T_Wd → Int32 → (Int32 → T_Gr × T_Nm × T_Nd × T_Wd → Prop) → (T_Gr × T_Nm × T_Nd × T_Wd → Prop) → Prop) (rM : T_Mo → (Int32 → T_Mo → Prop) → Prop) : Prop := ∀ (g : T_Gr) (nm : T_Nm) (nd : T_Nd) (w : T_Wd) (op : Int32) (m : T_Mo) (PC : Int32 → T_Gr × T_Nm × T_Nd × T_Wd → Prop) (PT : T_Gr × T_Nm × T_Nd × T_Wd → Prop) (PM : Int32 → T_Mo → Prop) (n km hi tp c : Nat), RG tx sz pl ln nm nd w m n km hi tp c → m.1.2.1.1.2 = op → (0 : Int32) ≤ op → op ≤ 60 → rC g nm nd w op PC PT → rM m PM → OE kx tx sz pl ln PC PT PM nd w m n km hi tp c
def RD (rC : T_Gr → T_Nm → T_Nd → T_Wd → Int32 → (Int32 → T_Gr × T_Nm × T_Nd × T_Wd → Prop) → (T_Gr × T_Nm × T_Nd × T_Wd → Prop) → Prop) : Prop := ∀ (g : T_Gr) (nm : T_Nm) (nd : T_Nd) (w : T_Wd) (op : Int32) (PC : Int32 → T_Gr × T_Nm × T_Nd × T_Wd → Prop) (PT : T_Gr × T_Nm × T_Nd × T_Wd → Prop), DM nd w → rC g nm nd w op PC PT → ∃ u, PT u
theorem dm_join {g : T_Gr} {nd : T_Nd} {k a b p : Int32} {PC : Int32 → T_Gr × T_Nd → Prop} {PT : T_Gr × T_Nd → Prop} (h : wp_Gr_join g nd k a b p PC PT) : (∃ u, PT u) ∨ (∃ r nd', PC r (g, nd') ∧ ((1000 : Int32) < nd.2.2.2.2.2.2.2.2.2.2.1 → (1000 : Int32) < nd'.2.2.2.2.2.2.2.2.2.2.1)) := by
  unfold wp_Gr_join at h
  obtain ⟨r1, u1, qa1, qb1⟩ := dt_Nd_measureOf h
  replace h := qb1 _ h
  obtain ⟨r2, u2, qa2, qb2⟩ := dt_Nd_measureOf h
  replace h := qb2 _ h
  replace h := iv_joined h
  rcases br_el h with ⟨c, h⟩ | ⟨c, h⟩
  · unfold wp_Gr_refuse at h; exact Or.inl ⟨_, h⟩
  · obtain ⟨r3, u3, qa3, qb3⟩ := dt_Nd_lowOf h
    replace h := qb3 _ h
    obtain ⟨r4, u4, qa4, qb4⟩ := dt_Nd_rowOf h
    replace h := qb4 _ h
    obtain ⟨r, nd', h, k⟩ := dm_add h
    exact Or.inr ⟨r, nd', h, k⟩
theorem upd_ltx {P : Nat → Int32} {k j : Nat} {x : Int32} (h : j < k) : upd P k x j = P j := upd_ne (by omega)
set_option maxHeartbeats 2000000 in
/-- a node of two -/
theorem rl_two {tx : Nat → Int32} {sz : Int32} {pl ln : Nat → Int32} {nm : T_Nm} {nd : T_Nd} {w : T_Wd} {m : T_Mo} {a b km hi tp c low : Nat} {kind me un : Int32} {PC : Int32 → T_Nd → Prop} {PM : Int32 → T_Mo → Prop} (rg : RG tx sz pl ln nm nd w m (b + 1) km hi tp c) (sl2 : km + hi + tp + 2 ≤ b + 1) (la : nd.2.2.2.2.1 a = Int32.ofNat low) (lowa : low ≤ a) (lb : nd.2.2.2.2.1 b = Int32.ofNat (a + 1)) (ab : a < b) (hC : wp_Nd_add nd kind (nd.2.2.2.2.1 a) (nd.2.1 a) (0 : Int64) me PC) (hM : wp_Mo_two m kind (Int32.ofNat a) (Int32.ofNat b) un PM) (um : kind ≤ 6 → me = un) : (b < 999 ∧ ∃ nd' m', PC (Int32.ofNat (b + 1)) nd' ∧ PM (Int32.ofNat (b + 1)) m' ∧ RG tx sz pl ln nm nd' w m' (b + 2) (km + 2) hi tp c ∧ AD nd nd' (b + 1) kind (nd.2.1 a) 0 me low [b, a] ∧ FP m m' hi ∧ m'.1.2.1.2.1 = m.1.2.1.2.1 ∧ FO m m') ∨ (∃ r nd' m', PC r nd' ∧ PM (-1) m' ∧ (1000 : Int32) < nd'.2.2.2.2.2.2.2.2.2.2.1 ∧ FO m m') := by
  obtain ⟨r1, r2, r3, r4, r5, r6, r7⟩ := rg
  have n9 := r2.2.2.2.1
  have hh := r2.1
  rw [la] at hC
  unfold wp_Mo_two wp_Mo_push wp_Mo_base at hM
  replace hM := hM.2.2.2
  have h1 : m.2.2.1.2.2.2 + (1 : Int32) = Int32.ofNat (hi + 1) := by rw [r5]; exact on_succ (by omega)
  have ih : m.2.2.1.2.2.2.toNatClampNeg = hi := by rw [r5]; exact ix_on (by omega)
  have ih1 : (m.2.2.1.2.2.2 + (1 : Int32)).toNatClampNeg = hi + 1 := by rw [h1]; exact ix_on (by omega)
  have h2 : m.2.2.1.2.2.2 + (1 : Int32) + (1 : Int32) = Int32.ofNat (hi + 2) := by rw [h1]; exact on_succ (by omega)
  have ba : ((1000 : Int32) * ((1 : Int32) - m.1.2.1.2.1) + Int32.ofNat a).toNatClampNeg = Bs m.1.2.1.2.1 + a := Bs_at hh rfl (by omega)
  have lna : m.1.2.2.1.2.1 (Bs m.1.2.1.2.1 + a) = nd.2.1 a := (r2.2.2.2.2.2.2 a (by omega)).2.1.symm
  dsimp only at hM
  rw [ih, ih1, ba, lna, r5] at hM
  have h3 : Int32.ofNat hi + (1 : Int32) + (1 : Int32) = Int32.ofNat (hi + 2) := by rw [on_succ (by omega), on_succ (by omega)]
  rw [h3] at hM
  have rgp : RG tx sz pl ln nm nd w (((((m.1.1.1.1.1, m.1.1.1.1.2), (m.1.1.1.2.1, (m.1.1.1.2.2.1, m.1.1.1.2.2.2))), ((m.1.1.2.1.1, m.1.1.2.1.2), (m.1.1.2.2.1, (m.1.1.2.2.2.1, m.1.1.2.2.2.2)))), (((m.1.2.1.1.1, m.1.2.1.1.2), (m.1.2.1.2.1, (m.1.2.1.2.2.1, m.1.2.1.2.2.2))), ((m.1.2.2.1.1, (m.1.2.2.1.2.1, m.1.2.2.1.2.2)), (m.1.2.2.2.1, (m.1.2.2.2.2.1, m.1.2.2.2.2.2))))), ((((m.2.1.1.1.1, m.2.1.1.1.2), (m.2.1.1.2.1, (m.2.1.1.2.2.1, m.2.1.1.2.2.2))), ((m.2.1.2.1.1, m.2.1.2.1.2), (m.2.1.2.2.1, (m.2.1.2.2.2.1, m.2.1.2.2.2.2)))), (((m.2.2.1.1.1, m.2.2.1.1.2), (m.2.2.1.2.1, ((upd (upd m.2.2.1.2.2.1 hi (Int32.ofNat a)) (hi + 1) (Int32.ofNat b)), (Int32.ofNat (hi + 2))))), ((m.2.2.2.1.1, (m.2.2.2.1.2.1, m.2.2.2.1.2.2)), (m.2.2.2.2.1, (m.2.2.2.2.2.1, m.2.2.2.2.2.2)))))) (b + 1) km (hi + 2) tp c := ⟨r1, r2, r3, r4, rfl, r6, by omega⟩
  have kl : KL (upd (upd m.2.2.1.2.2.1 hi (Int32.ofNat a)) (hi + 1) (Int32.ofNat b)) hi [a, b] := ⟨by rw [upd_ne (by omega), upd_at], upd_at, trivial⟩
  have ixa : (Int32.ofNat (a + 1)).toNatClampNeg = a + 1 := ix_on (by omega)
  have ixl : (Int32.ofNat low).toNatClampNeg = low := ix_on (by omega)
  have ch : CH nd.2.2.2.2.1 low (b + 1) [b, a] := by
    refine ⟨rfl, ?_, ?_, ?_⟩
    · rw [lb, ixa]
    · rw [lb, ixa]; omega
    · rw [lb, ixa]
      refine ⟨rfl, ?_, ?_, ?_⟩
      · rw [la, ixl]
      · rw [la, ixl]; exact lowa
      · rw [la, ixl]; rfl
  rcases rl_mk (asc := [a, b]) (mark := hi) rgp rfl kl ch hC hM um with ⟨n8, nd', m', hC, hM, rg2, ad, e1, e2, e3, e4, e5, fo⟩ | ⟨r, nd', m', hC, hM, cn, fo⟩
  · refine Or.inl ⟨by omega, nd', m', hC, hM, rg2, ad, ⟨fun j hj => ?_, e2, e3, rg2.2.2.2.2.2.1.trans r6.symm, rg2.2.2.2.2.1.trans r5.symm, e5⟩, e4, fo⟩
    rw [e1]
    show upd (upd m.2.2.1.2.2.1 hi (Int32.ofNat a)) (hi + 1) (Int32.ofNat b) j = m.2.2.1.2.2.1 j
    rw [upd_ltx (by omega), upd_ltx hj]
  · exact Or.inr ⟨r, nd', m', hC, hM, cn, fo⟩
theorem EE_measure {kx : Int32} {nd nd' : T_Nd} {m m' : T_Mo} {w w' : T_Wd} {n n' km km' hi : Nat} (h : EE kx nd nd' m m' w w' n n' km km' hi) : (0 : Int32) ≤ nd'.2.2.2.1 n' := h.2.2.2.2.1
/-- unit of a node that is an expression -/
theorem NR_unit {nd : T_Nd} {m : T_Mo} {n km i : Nat} (h : NR nd m n km) (hi : i < n) (k6 : nd.1 i ≤ 6) : m.1.2.2.1.2.2 (Bs m.1.2.1.2.1 + i) = nd.2.2.2.1 i := by
  obtain ⟨a, -, -, b, -⟩ := h.2.2.2.2.2.2 i hi
  rw [a] at k6
  have := (h.2.2.2.2.2.2 i hi).2.2.2.1 k6
  exact this.symm
/-- an operator stands here: it isn't the last word -/
theorem op_next {tx : Nat → Int32} {sz : Int32} {pl ln : Nat → Int32} {w : T_Wd} {m : T_Mo} (h : RW tx sz pl ln w m) (nz : ¬ w.2.2.2.2.2.2.2.2.2.2.1 = 0) : w.2.2.2.2.2.2.2.1 < 4000 := by
  obtain ⟨r1, r2, r3, r4, r5, r6, r7, r8, r9, r10⟩ := h
  have tk : Tok w.2.2.2.2.2.2.2.2.2.2.1 w.2.2.2.2.2.2.2.2.2.2.2.2.2 m := by
    rcases r10 with q | q
    · exact absurd q.1 nz
    · exact q.1
  rcases Int32.le_iff_lt_or_eq.mp (show w.2.2.2.2.2.2.2.1 ≤ 4000 by grind) with q | q
  · exact q
  · exfalso
    have e : w.2.2.2.2.2.2.1 = 4001 := by grind
    have ci : w.2.2.2.2.2.2.2.1.toNatClampNeg < w.2.2.2.2.2.2.1.toNatClampNeg := by rw [q, e]; decide
    have := (r2 _ ci).mpr (by rw [q, e]; decide)
    rw [← r6.1] at this
    exact Tok_nl tk this

