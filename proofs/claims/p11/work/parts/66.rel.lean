theorem Z_2000 {c t : Int32} (h : KPZ c t) : t = 2000 ↔ (c = 129 ∨ c = 130) := by
  rcases h with ⟨a, b⟩ | ⟨a, b⟩ | ⟨a, b⟩ | ⟨a, b⟩ | h
  · rw [a, b]; decide
  · rw [b]; unfold sg at a
    rcases a with a | a | a | a | a | a | a | a | a | a | a | a <;> rw [a] <;> decide
  · rw [a, b]; decide
  · rw [a, b]; decide
  · rcases h with ⟨a, b⟩ | ⟨a, a2, b⟩ | ⟨a, b⟩ | ⟨a, b⟩ | ⟨a, b⟩ | ⟨a, b⟩ | ⟨a, b⟩ | ⟨a, b⟩ | ⟨a, a2, b⟩ | ⟨a, b⟩ | ⟨a, b⟩
    · rw [a, b]; decide
    · rw [b]; constructor <;> intro q <;> exfalso <;> grind
    · rw [a, b]; decide
    · rw [a, b]; decide
    · rw [a, b]; decide
    · rw [a, b]; decide
    · rw [a, b]; decide
    · rw [a, b]; decide
    · rw [b]; constructor <;> intro q <;> exfalso <;> grind
    · rw [a, b]; decide
    · rw [a, b]; decide
theorem open_up {op : Int32} (o0 : (0 : Int32) ≤ op) (h : op < 60) : (0 : Int32) ≤ op + 1 ∧ op + 1 ≤ 60 ∧ op + 1 - 1 = op ∧ ¬ op = 60 := by
  refine ⟨?_, ?_, ?_, ?_⟩ <;> grind
theorem open_60 {op : Int32} (o9 : op ≤ 60) (h : ¬ op < 60) : op = 60 := by grind
theorem dm_amount {g : T_Gr} {nd : T_Nd} {w : T_Wd} {PC : Int32 → T_Gr × T_Nd × T_Wd → Prop} {PT : T_Gr × T_Nd × T_Wd → Prop} (d : (1000 : Int32) < nd.2.2.2.2.2.2.2.2.2.2.1) (h : wp_Gr_readAmount g nd w PC PT) : ∃ u, PT u := by
  unfold wp_Gr_readAmount at h
  obtain ⟨u, h⟩ := dm_pass d h
  exact ⟨_, h⟩
theorem dm_measured {g : T_Gr} {nm : T_Nm} {nd : T_Nd} {w : T_Wd} {PC : Int32 → T_Gr × T_Nm × T_Nd × T_Wd → Prop} {PT : T_Gr × T_Nm × T_Nd × T_Wd → Prop} (d : DM nd w) (h : wp_Gr_readMeasured g nm nd w PC PT) : ∃ u, PT u := by
  unfold wp_Gr_readMeasured wp_Gr_refuse at h
  rcases br_el h with ⟨e, h⟩ | ⟨e, h⟩
  · have d1 : (1000 : Int32) < nd.2.2.2.2.2.2.2.2.2.2.1 := by
      rcases d with d | d
      · rw [e] at d; exact absurd d.2.1 (by decide)
      · exact d
    obtain ⟨r1, u1, a1, b1⟩ := dt_Nm_find h
    replace h := b1 _ h
    rcases br_el h with ⟨q, h⟩ | ⟨q, h⟩
    · exact ⟨_, h⟩
    · obtain ⟨r2, u2, a2, b2⟩ := dt_Nm_sortOf h
      replace h := b2 _ h
      rcases br_el h with ⟨q, h⟩ | ⟨q, h⟩
      · exact ⟨_, h⟩
      · obtain ⟨r3, u3, a3, b3⟩ := dt_Nm_sortOf h
        replace h := b3 _ h
        rcases br_el h with ⟨q, h⟩ | ⟨q, h⟩
        · obtain ⟨r4, u4, a4, b4⟩ := dt_Nm_use h
          replace h := b4 _ h
          obtain ⟨u, h⟩ := dm_pass d1 h
          exact ⟨_, h⟩
        · obtain ⟨u, h⟩ := dm_pass d1 h
          exact ⟨_, h⟩
  · exact ⟨_, h.1 rfl⟩
theorem rd_factorF {rC : T_Gr → T_Nm → T_Nd → T_Wd → Int32 → (Int32 → T_Gr × T_Nm × T_Nd × T_Wd → Prop) → (T_Gr × T_Nm × T_Nd × T_Wd → Prop) → Prop} : RD (wp_Gr_readFactor_F rC) := by
  intro g nm nd w op PC PT d h
  unfold wp_Gr_readFactor_F wp_Nd_count at h
  have cnt : ∀ x : Int32, sg x ∨ (128 : Int32) ≤ x → w.2.2.2.2.2.2.2.2.2.2.1 = x → (1000 : Int32) < nd.2.2.2.2.2.2.2.2.2.2.1 := by
    intro x hx e
    rcases d with d | d
    · rw [e] at d
      rcases hx with hx | hx
      · exact absurd hx d.2.2
      · exact absurd (Int32.le_trans hx d.2.1) (by decide)
    · exact d
  by_cases c1 : w.2.2.2.2.2.2.2.2.2.2.1 = 40
  · have d1 := cnt _ (Or.inl (by unfold sg; decide)) c1
    replace h := h.1 c1
    unfold wp_Gr_refuseOneMore wp_Gr_refuse at h
    rcases br_el h with ⟨q, h⟩ | ⟨q, h⟩
    · obtain ⟨u, h⟩ := dm_pass d1 h
      exact ⟨_, h⟩
    · exact ⟨_, h⟩
  · by_cases c2 : w.2.2.2.2.2.2.2.2.2.2.1 = 45
    · have d1 := cnt _ (Or.inl (by unfold sg; decide)) c2
      replace h := h.2.1 c2
      unfold wp_Gr_refuseOneMore wp_Gr_refuse at h
      rcases br_el h with ⟨q, h⟩ | ⟨q, h⟩
      · obtain ⟨u, h⟩ := dm_pass d1 h
        exact ⟨_, h⟩
      · exact ⟨_, h⟩
    · by_cases c3 : w.2.2.2.2.2.2.2.2.2.2.1 = 129
      · obtain ⟨u, h⟩ := dm_amount (cnt _ (Or.inr (by decide)) c3) (h.2.2.1 c3)
        exact ⟨_, h⟩
      · by_cases c4 : w.2.2.2.2.2.2.2.2.2.2.1 = 130
        · obtain ⟨u, h⟩ := dm_amount (cnt _ (Or.inr (by decide)) c4) (h.2.2.2.1 c4)
          exact ⟨_, h⟩
        · obtain ⟨u, h⟩ := dm_measured d (h.2.2.2.2 ⟨c1, c2, c3, c4⟩)
          exact ⟨_, h⟩
def HDT (rM : T_Mo → (Int32 → T_Mo → Prop) → Prop) : Prop := ∀ (v0 : T_Mo) (post : Int32 → T_Mo → Prop), rM v0 post → (∃ (w0 : Int32) (w1 : T_Mo), (∀ (post : Int32 → T_Mo → Prop), post w0 w1 → rM v0 post) ∧ (∀ (post : Int32 → T_Mo → Prop), rM v0 post → post w0 w1))
theorem FP_open {m m' : T_Mo} {hi : Nat} {x : Int32} (h : FP (((((m.1.1.1.1.1, m.1.1.1.1.2), (m.1.1.1.2.1, (m.1.1.1.2.2.1, m.1.1.1.2.2.2))), ((m.1.1.2.1.1, m.1.1.2.1.2), (m.1.1.2.2.1, (m.1.1.2.2.2.1, m.1.1.2.2.2.2)))), (((m.1.2.1.1.1, (m.1.2.1.1.2 + (1 : Int32))), (m.1.2.1.2.1, (m.1.2.1.2.2.1, m.1.2.1.2.2.2))), ((m.1.2.2.1.1, (m.1.2.2.1.2.1, m.1.2.2.1.2.2)), (m.1.2.2.2.1, (m.1.2.2.2.2.1, m.1.2.2.2.2.2))))), ((((m.2.1.1.1.1, m.2.1.1.1.2), (m.2.1.1.2.1, (m.2.1.1.2.2.1, m.2.1.1.2.2.2))), ((m.2.1.2.1.1, m.2.1.2.1.2), (m.2.1.2.2.1, (m.2.1.2.2.2.1, m.2.1.2.2.2.2)))), (((m.2.2.1.1.1, m.2.2.1.1.2), (m.2.2.1.2.1, (m.2.2.1.2.2.1, m.2.2.1.2.2.2))), ((m.2.2.2.1.1, (m.2.2.2.1.2.1, m.2.2.2.1.2.2)), (m.2.2.2.2.1, (m.2.2.2.2.2.1, m.2.2.2.2.2.2)))))) m' hi) (e : x = m.1.2.1.1.2) : FP m (((((m'.1.1.1.1.1, m'.1.1.1.1.2), (m'.1.1.1.2.1, (m'.1.1.1.2.2.1, m'.1.1.1.2.2.2))), ((m'.1.1.2.1.1, m'.1.1.2.1.2), (m'.1.1.2.2.1, (m'.1.1.2.2.2.1, m'.1.1.2.2.2.2)))), (((m'.1.2.1.1.1, x), (m'.1.2.1.2.1, (m'.1.2.1.2.2.1, m'.1.2.1.2.2.2))), ((m'.1.2.2.1.1, (m'.1.2.2.1.2.1, m'.1.2.2.1.2.2)), (m'.1.2.2.2.1, (m'.1.2.2.2.2.1, m'.1.2.2.2.2.2))))), ((((m'.2.1.1.1.1, m'.2.1.1.1.2), (m'.2.1.1.2.1, (m'.2.1.1.2.2.1, m'.2.1.1.2.2.2))), ((m'.2.1.2.1.1, m'.2.1.2.1.2), (m'.2.1.2.2.1, (m'.2.1.2.2.2.1, m'.2.1.2.2.2.2)))), (((m'.2.2.1.1.1, m'.2.2.1.1.2), (m'.2.2.1.2.1, (m'.2.2.1.2.2.1, m'.2.2.1.2.2.2))), ((m'.2.2.2.1.1, (m'.2.2.2.1.2.1, m'.2.2.2.1.2.2)), (m'.2.2.2.2.1, (m'.2.2.2.2.2.1, m'.2.2.2.2.2.2)))))) hi := ⟨h.1, e, h.2.2.1, h.2.2.2.1, h.2.2.2.2⟩
set_option maxHeartbeats 4000000 in
theorem rl_factorF {tx : Nat → Int32} {sz : Int32} {pl ln : Nat → Int32} {rC : T_Gr → T_Nm → T_Nd → T_Wd → Int32 → (Int32 → T_Gr × T_Nm × T_Nd × T_Wd → Prop) → (T_Gr × T_Nm × T_Nd × T_Wd → Prop) → Prop} {rM : T_Mo → (Int32 → T_Mo → Prop) → Prop} (hdt : HDT rM) (re : RE tx sz pl ln 6 rC rM) (rd : RD rC) : RE tx sz pl ln 6 (wp_Gr_readFactor_F rC) (wp_Mo_factor_F rM) := by
  intro g nm nd w op m PC PT PM n km hi tp c rg eo o0 o9 hC hM
  have rw1 := rg.1
  have n9 := NR_cnt rg.2.1
  have en : nd.2.2.2.2.2.2.2.2.2.2.1 = Int32.ofNat n := rg.2.1.2.1
  have n99 : n ≤ 1000 := rg.2.1.2.2.2.1
  have hh := rg.2.1.1
  have row : m.1.1.2.2.1 = w.2.2.2.2.2.2.2.2.2.2.2.2.1 := rw1.2.2.2.2.2.2.2.2.1
  have z := RW_z rw1
  have z20 := Z_2000 z
  have t40 := RW_sg rw1 (x := 40) (by unfold sg; decide)
  have t45 := RW_sg rw1 (x := 45) (by unfold sg; decide)
  unfold wp_Gr_readFactor_F wp_Nd_count at hC
  unfold wp_Mo_factor_F at hM
  by_cases c1 : w.2.2.2.2.2.2.2.2.2.2.1 = 40
  · have tk : m.1.1.1.2.2.2 = 40 := t40.mp c1
    have nz : ¬ w.2.2.2.2.2.2.2.2.2.2.1 = 0 := by rw [c1]; decide
    replace hC := hC.1 c1
    replace hM := (hM.2 (by rw [tk]; decide)).1 tk
    unfold wp_Mo_factor_J39 at hM
    replace hM := hM.2 (by rw [tk]; decide)
    unfold wp_Mo_factor_J53 at hM
    unfold wp_Gr_refuseOneMore wp_Gr_refuse at hC
    rw [eo] at hM
    rcases br_el hC with ⟨q, hC⟩ | ⟨q, hC⟩
    · have ou := open_up o0 q
      replace hM := hM.2 ou.2.2.2
      have rg' : RG tx sz pl ln nm nd w (((((m.1.1.1.1.1, m.1.1.1.1.2), (m.1.1.1.2.1, (m.1.1.1.2.2.1, m.1.1.1.2.2.2))), ((m.1.1.2.1.1, m.1.1.2.1.2), (m.1.1.2.2.1, (m.1.1.2.2.2.1, m.1.1.2.2.2.2)))), (((m.1.2.1.1.1, (op + (1 : Int32))), (m.1.2.1.2.1, (m.1.2.1.2.2.1, m.1.2.1.2.2.2))), ((m.1.2.2.1.1, (m.1.2.2.1.2.1, m.1.2.2.1.2.2)), (m.1.2.2.2.1, (m.1.2.2.2.2.1, m.1.2.2.2.2.2))))), ((((m.2.1.1.1.1, m.2.1.1.1.2), (m.2.1.1.2.1, (m.2.1.1.2.2.1, m.2.1.1.2.2.2))), ((m.2.1.2.1.1, m.2.1.2.1.2), (m.2.1.2.2.1, (m.2.1.2.2.2.1, m.2.1.2.2.2.2)))), (((m.2.2.1.1.1, m.2.2.1.1.2), (m.2.2.1.2.1, (m.2.2.1.2.2.1, m.2.2.1.2.2.2))), ((m.2.2.2.1.1, (m.2.2.2.1.2.1, m.2.2.2.1.2.2)), (m.2.2.2.2.1, (m.2.2.2.2.2.1, m.2.2.2.2.2.2)))))) n km hi tp c := rg
      rcases rl_pass rg'.1 nz n9 hC hM with ⟨w1, m1, hC, hM, rw2, fr, cw⟩ | ⟨u, m1, hC, hM, fr⟩ | ⟨w1, m1, hC, hM, dd, fr⟩
      · have rg1 := RG_Fr rg' rw2 fr
        have fp1 := FP_Fr (hi := hi) fr
        have fo1 := FO_Fr fr
        rcases rl_sum hdt (rl_prod hdt re rd) (rd_prod rd) _ _ _ _ _ _ _ _ _ _ _ _ _ _ rg1 fp1.2.1 ou.1 ou.2.1 hC ((hM.2 (by decide)).1 rfl) with ⟨g2, nm2, nd2, w2, m2, n2, km2, hC, hM, rg2, e2⟩ | ⟨u, r', m2, hC, hM, rn, fo2⟩ | ⟨r, g2, nm2, nd2, w2, r', m2, hC, d2, hM, rn, fo2⟩
        · obtain ⟨f1, f2, f3, f4, f5, f6, f7, f8, f9⟩ := e2
          have n92 : n2 + 1 ≤ 1000 := rg2.2.1.2.2.2.1
          have on2 := on_n1 (k := n2) (by omega)
          unfold wp_Mo_factor_J102 at hM
          replace hM := (hM.2 on2.2.1).1 rfl
          have t41 := RW_sg rg2.1 (x := 41) (by unfold sg; decide)
          dsimp only at hC
          rcases rl_take rg2.1 t41 (by decide) (NR_cnt rg2.2.1) hC hM with ⟨w3, m3, hC, hM, rw3, fr3, cw3⟩ | ⟨u, m3, hC, hM, fr3⟩ | ⟨w3, m3, hC, hM, dd, fr3⟩
          · replace hM := hM.2 (by decide)
            unfold wp_Mo_factor_J122 at hM
            replace hM := hM.1 rfl
            have rg3 := RG_Fr rg2 rw3 fr3
            have fp3 := FP_Fr (hi := hi) fr3
            have e3 : m3.1.2.1.1.2 - (1 : Int32) = m.1.2.1.1.2 := by rw [fp3.2.1, f7.2.1, fp1.2.1, eo]; exact ou.2.2.1
            have fpA : FP (((((m.1.1.1.1.1, m.1.1.1.1.2), (m.1.1.1.2.1, (m.1.1.1.2.2.1, m.1.1.1.2.2.2))), ((m.1.1.2.1.1, m.1.1.2.1.2), (m.1.1.2.2.1, (m.1.1.2.2.2.1, m.1.1.2.2.2.2)))), (((m.1.2.1.1.1, (m.1.2.1.1.2 + (1 : Int32))), (m.1.2.1.2.1, (m.1.2.1.2.2.1, m.1.2.1.2.2.2))), ((m.1.2.2.1.1, (m.1.2.2.1.2.1, m.1.2.2.1.2.2)), (m.1.2.2.2.1, (m.1.2.2.2.2.1, m.1.2.2.2.2.2))))), ((((m.2.1.1.1.1, m.2.1.1.1.2), (m.2.1.1.2.1, (m.2.1.1.2.2.1, m.2.1.1.2.2.2))), ((m.2.1.2.1.1, m.2.1.2.1.2), (m.2.1.2.2.1, (m.2.1.2.2.2.1, m.2.1.2.2.2.2)))), (((m.2.2.1.1.1, m.2.2.1.1.2), (m.2.2.1.2.1, (m.2.2.1.2.2.1, m.2.2.1.2.2.2))), ((m.2.2.2.1.1, (m.2.2.2.1.2.1, m.2.2.2.1.2.2)), (m.2.2.2.2.1, (m.2.2.2.2.2.1, m.2.2.2.2.2.2)))))) m3 hi := by rw [eo]; exact FP_trans fp1 (FP_trans f7 fp3)
            have fo9 := FO_trans fo1 (FO_trans f8 (FO_Fr fr3))
            exact Or.inl ⟨g2, nm2, nd2, w3, _, n2, km2, hC, hM, rg3, f1, f2, f3, f4, f5, f6, FP_open fpA e3, fo9, Int32.lt_trans (cur_up rw1 cw) (Int32.lt_trans f9 (cur_up rg2.1 cw3))⟩
          · replace hM := hM.1 rfl
            unfold wp_Mo_factor_J120 at hM
            exact Or.inr (Or.inl ⟨_, -1, m3, hC, hM, by decide, FO_trans fo1 (FO_trans f8 (FO_Fr fr3))⟩)
          · replace hM := hM.1 rfl
            unfold wp_Mo_factor_J120 at hM
            exact Or.inr (Or.inr ⟨_, g2, nm2, nd2, w3, -1, m3, hC, Or.inl dd, hM, by decide, FO_trans fo1 (FO_trans f8 (FO_Fr fr3))⟩)
        · unfold wp_Mo_factor_J102 wp_Mo_factor_J120 at hM
          exact Or.inr (Or.inl ⟨_, -1, m2, hC, hM.1 rn, by decide, FO_trans fo1 fo2⟩)
        · unfold wp_Mo_factor_J102 wp_Mo_factor_J120 at hM
          obtain ⟨u, hC⟩ := dm_take d2 (by unfold dead sg; decide) hC
          exact Or.inr (Or.inl ⟨_, -1, m2, hC, hM.1 rn, by decide, FO_trans fo1 fo2⟩)
      · have fo1 := FO_Fr fr
        exact Or.inr (Or.inl ⟨_, -1, m1, hC, hM.1 rfl, by decide, fo1⟩)
      · obtain ⟨u, hC⟩ := rd_sum (rd_prod rd) _ _ _ _ _ _ _ (Or.inl dd) hC
        have fo1 := FO_Fr fr
        exact Or.inr (Or.inl ⟨_, -1, m1, hC, hM.1 rfl, by decide, fo1⟩)
    · replace hM := hM.1 (open_60 o9 q)
      unfold wp_Mo_bad at hM
      exact Or.inr (Or.inl ⟨_, -1, _, hC, hM, by decide, FO_refl⟩)
  · by_cases c2 : w.2.2.2.2.2.2.2.2.2.2.1 = 45
    · have tk : m.1.1.1.2.2.2 = 45 := t45.mp c2
      have nz : ¬ w.2.2.2.2.2.2.2.2.2.2.1 = 0 := by rw [c2]; decide
      replace hC := hC.2.1 c2
      replace hM := ((hM.2 (by rw [tk]; decide)).2 (by rw [tk]; decide)).1 tk
      unfold wp_Mo_factor_J39 at hM
      replace hM := hM.1 tk
      unfold wp_Mo_factor_J53 at hM
      unfold wp_Gr_refuseOneMore wp_Gr_refuse at hC
      rw [eo] at hM
      rcases br_el hC with ⟨q, hC⟩ | ⟨q, hC⟩
      · have ou := open_up o0 q
        replace hM := hM.2 ou.2.2.2
        have rg' : RG tx sz pl ln nm nd w (((((m.1.1.1.1.1, m.1.1.1.1.2), (m.1.1.1.2.1, (m.1.1.1.2.2.1, m.1.1.1.2.2.2))), ((m.1.1.2.1.1, m.1.1.2.1.2), (m.1.1.2.2.1, (m.1.1.2.2.2.1, m.1.1.2.2.2.2)))), (((m.1.2.1.1.1, (op + (1 : Int32))), (m.1.2.1.2.1, (m.1.2.1.2.2.1, m.1.2.1.2.2.2))), ((m.1.2.2.1.1, (m.1.2.2.1.2.1, m.1.2.2.1.2.2)), (m.1.2.2.2.1, (m.1.2.2.2.2.1, m.1.2.2.2.2.2))))), ((((m.2.1.1.1.1, m.2.1.1.1.2), (m.2.1.1.2.1, (m.2.1.1.2.2.1, m.2.1.1.2.2.2))), ((m.2.1.2.1.1, m.2.1.2.1.2), (m.2.1.2.2.1, (m.2.1.2.2.2.1, m.2.1.2.2.2.2)))), (((m.2.2.1.1.1, m.2.2.1.1.2), (m.2.2.1.2.1, (m.2.2.1.2.2.1, m.2.2.1.2.2.2))), ((m.2.2.2.1.1, (m.2.2.2.1.2.1, m.2.2.2.1.2.2)), (m.2.2.2.2.1, (m.2.2.2.2.2.1, m.2.2.2.2.2.2)))))) n km hi tp c := rg
        rcases rl_pass rg'.1 nz n9 hC hM with ⟨w1, m1, hC, hM, rw2, fr, cw⟩ | ⟨u, m1, hC, hM, fr⟩ | ⟨w1, m1, hC, hM, dd, fr⟩
        · have rg1 := RG_Fr rg' rw2 fr
          have fp1 := FP_Fr (hi := hi) fr
          have fo1 := FO_Fr fr
          rcases re _ _ _ _ _ _ _ _ _ _ _ _ _ _ rg1 fp1.2.1 ou.1 ou.2.1 hC ((hM.2 (by decide)).2 (by decide)) with ⟨g2, nm2, nd2, w2, m2, n2, km2, hC, hM, rg2, e2⟩ | ⟨u, r', m2, hC, hM, rn, fo2⟩ | ⟨r, g2, nm2, nd2, w2, r', m2, hC, d2, hM, rn, fo2⟩
          · obtain ⟨f1, f2, f3, f4, f5, f6, f7, f8, f9⟩ := e2
            have n92 : n2 + 1 ≤ 1000 := rg2.2.1.2.2.2.1
            have on2 := on_n1 (k := n2) (by omega)
            have rh2 := rg2.2.2.2.2.1
            have s2 := rg2.2.2.2.2.2.2
            have s0 := rg.2.2.2.2.2.2
            unfold wp_Mo_factor_J102 at hM
            replace hM := (hM.2 on2.2.1).2 (by decide)
            unfold wp_Mo_factor_J122 at hM
            replace hM := hM.2 (by decide)
            unfold wp_Mo_push at hM
            replace hM := iv_unitIn hM.2 rg2.2.1.1 (by omega)
            have ub := NR_unit rg2.2.1 (i := n2) (by omega) f4
            dsimp only at hM
            rw [ub, rh2, ix_on (by omega), on_succ (by omega), row] at hM
            dsimp only at hC
            replace hC := iv_measureOf hC rg2.2.1.2.1 (by omega) (by omega)
            rw [en] at hC
            have rgp : RG tx sz pl ln nm2 nd2 w2 (((((m2.1.1.1.1.1, m2.1.1.1.1.2), (m2.1.1.1.2.1, (m2.1.1.1.2.2.1, m2.1.1.1.2.2.2))), ((m2.1.1.2.1.1, m2.1.1.2.1.2), (m2.1.1.2.2.1, (m2.1.1.2.2.2.1, m2.1.1.2.2.2.2)))), (((m2.1.2.1.1.1, (m2.1.2.1.1.2 - (1 : Int32))), (m2.1.2.1.2.1, (m2.1.2.1.2.2.1, m2.1.2.1.2.2.2))), ((m2.1.2.2.1.1, (m2.1.2.2.1.2.1, m2.1.2.2.1.2.2)), (m2.1.2.2.2.1, (m2.1.2.2.2.2.1, m2.1.2.2.2.2.2))))), ((((m2.2.1.1.1.1, m2.2.1.1.1.2), (m2.2.1.1.2.1, (m2.2.1.1.2.2.1, m2.2.1.1.2.2.2))), ((m2.2.1.2.1.1, m2.2.1.2.1.2), (m2.2.1.2.2.1, (m2.2.1.2.2.2.1, m2.2.1.2.2.2.2)))), (((m2.2.2.1.1.1, m2.2.2.1.1.2), (m2.2.2.1.2.1, ((upd m2.2.2.1.2.2.1 hi (Int32.ofNat n2)), (Int32.ofNat (hi + 1))))), ((m2.2.2.2.1.1, (m2.2.2.2.1.2.1, m2.2.2.2.1.2.2)), (m2.2.2.2.2.1, (m2.2.2.2.2.2.1, m2.2.2.2.2.2.2)))))) (n2 + 1) km2 (hi + 1) tp c := ⟨rg2.1, rg2.2.1, rg2.2.2.1, rg2.2.2.2.1, rfl, rg2.2.2.2.2.2.1, by omega⟩
            have ixn : (Int32.ofNat n).toNatClampNeg = n := ix_on (by omega)
            have ch : CH nd2.2.2.2.2.1 n (n2 + 1) [n2] := ⟨rfl, by rw [f3, ixn], by rw [f3, ixn]; exact f1, by rw [f3, ixn]; rfl⟩
            rcases rl_mk (asc := [n2]) (mark := hi) rgp rfl ⟨upd_at, trivial⟩ ch hC hM (fun _ => rfl) with ⟨n8, nd3, m3, hC, hM, rg3, ad, e1, e2, e3, e4, e5, fo3⟩ | ⟨r, nd3, m3, hC, hM, cn, fo3⟩
            · have an := AD_new ad
              have ao := AD_old ad
              have eop : m3.1.2.1.1.2 = m.1.2.1.1.2 := by
                rw [e2]
                show m2.1.2.1.1.2 - (1 : Int32) = m.1.2.1.1.2
                rw [f7.2.1, fp1.2.1, eo]; exact ou.2.2.1
              have fp3 : FP m m3 hi := ⟨fun j hj => by rw [e1]; show upd m2.2.2.1.2.2.1 hi _ j = _; rw [upd_ltx hj]; exact (FP_trans fp1 f7).1 j hj, eop, e3.trans (FP_trans fp1 f7).2.2.1, rg3.2.2.2.2.2.1.trans rg.2.2.2.2.2.1.symm, rg3.2.2.2.2.1.trans rg.2.2.2.2.1.symm, NmF_trans (FP_trans fp1 f7).2.2.2.2.2 e5⟩
              exact Or.inl ⟨g2, nm2, nd3, w2, m3, n2 + 1, km2 + 1, hC, hM, rg3, by omega, by omega, an.1, by rw [an.2.1]; decide, by rw [an.2.2.1]; exact f5, fun j hj => ⟨(ao j (by omega)).1.trans (f6 j hj).1, (ao j (by omega)).2.1.trans (f6 j hj).2.1, (ao j (by omega)).2.2.trans (f6 j hj).2.2⟩, fp3, FO_trans fo1 (FO_trans f8 fo3), Int32.lt_trans (cur_up rw1 cw) f9⟩
            · exact Or.inr (Or.inr ⟨r, g2, nm2, nd3, w2, -1, m3, hC, Or.inr cn, hM, by decide, FO_trans fo1 (FO_trans f8 fo3)⟩)
          · unfold wp_Mo_factor_J102 wp_Mo_factor_J120 at hM
            exact Or.inr (Or.inl ⟨_, -1, m2, hC, hM.1 rn, by decide, FO_trans fo1 fo2⟩)
          · unfold wp_Mo_factor_J102 wp_Mo_factor_J120 at hM
            obtain ⟨r9, u9, qa9, qb9⟩ := dt_Nd_measureOf hC
            replace hC := qb9 _ hC
            obtain ⟨r3, nd3, hC, k3⟩ := dm_add hC
            exact Or.inr (Or.inr ⟨r3, g2, nm2, nd3, w2, -1, m2, hC, d2.elim Or.inl (fun q => Or.inr (k3 q)), hM.1 rn, by decide, FO_trans fo1 fo2⟩)
        · have fo1 := FO_Fr fr
          exact Or.inr (Or.inl ⟨_, -1, m1, hC, hM.1 rfl, by decide, fo1⟩)
        · obtain ⟨u, hC⟩ := rd _ _ _ _ _ _ _ (Or.inl dd) hC
          have fo1 := FO_Fr fr
          exact Or.inr (Or.inl ⟨_, -1, m1, hC, hM.1 rfl, by decide, fo1⟩)
      · replace hM := hM.1 (open_60 o9 q)
        unfold wp_Mo_bad at hM
        exact Or.inr (Or.inl ⟨_, -1, _, hC, hM, by decide, FO_refl⟩)
    · by_cases c3 : w.2.2.2.2.2.2.2.2.2.2.1 = 129
      · exact rl_amount rg (Or.inl c3) (hC.2.2.1 c3) (hM.1 (z20.mpr (Or.inl c3)))
      · by_cases c4 : w.2.2.2.2.2.2.2.2.2.2.1 = 130
        · exact rl_amount rg (Or.inr c4) (hC.2.2.2.1 c4) (hM.1 (z20.mpr (Or.inr c4)))
        · have nt : ¬ m.1.1.1.2.2.2 = 2000 := fun q => (z20.mp q).elim c3 c4
          exact rl_measured rg (hC.2.2.2.2 ⟨c1, c2, c3, c4⟩) (((hM.2 nt).2 (fun q => c1 (t40.mpr q))).2 (fun q => c2 (t45.mpr q)))
theorem rd_factor : ∀ d, RD (wp_Gr_readFactor d)
  | 0 => fun _ _ _ _ _ _ _ _ h => False.elim h
  | d + 1 => fun g nm nd w op PC PT d9 h => rd_factorF (rC := wp_Gr_readFactor d) g nm nd w op PC PT d9 h
theorem rl_factor {tx : Nat → Int32} {sz : Int32} {pl ln : Nat → Int32} : ∀ d d', RE tx sz pl ln 6 (wp_Gr_readFactor d) (wp_Mo_factor d')
  | 0, _ => fun _ _ _ _ _ _ _ _ _ _ _ _ _ _ _ _ _ _ h => False.elim h
  | d + 1, 0 => fun _ _ _ _ _ _ _ _ _ _ _ _ _ _ _ _ _ _ _ h => False.elim h
  | d + 1, d' + 1 => fun g nm nd w op m PC PT PM n km hi tp c rg eo o0 o9 hC hM => rl_factorF (dt_Mo_factor d') (rl_factor d d') (rd_factor d) g nm nd w op m PC PT PM n km hi tp c rg eo o0 o9 hC hM

