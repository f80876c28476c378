theorem byte_id {x : Int32} (h : lt x ∨ dg x) : vp_nar .byte x = x := by
  rw [vp_nar_byte]
  have b : 0 ≤ x.toInt ∧ x.toInt ≤ 127 := by
    unfold lt dg at h
    rw [Int32.le_iff_toInt_le, Int32.le_iff_toInt_le, Int32.le_iff_toInt_le, Int32.le_iff_toInt_le, show (97 : Int32).toInt = 97 from rfl, show (122 : Int32).toInt = 122 from rfl, show (48 : Int32).toInt = 48 from rfl, show (57 : Int32).toInt = 57 from rfl] at h
    omega
  apply Int32.toInt_inj.mp
  rw [Int8.toInt_toInt32, Int32.toInt_toInt8]
  exact Int.bmod_eq_of_le (by omega) (by omega)
theorem on_subr {x y : Nat} (h : x + y < 2147483648) : Int32.ofNat (x + y) - Int32.ofNat y = Int32.ofNat x := by
  apply Int32.toInt_inj.mp
  rw [Int32.toInt_sub, on_toInt (by omega), on_toInt (by omega), on_toInt (by omega), Int.bmod_eq_of_le (by omega) (by omega)]; omega
theorem iv_tell_L {role : Int32} {at_ b len : Nat} {K : T_Mo → Int32 → Int32 → Int32 → Prop} {post : Int32 → T_Mo → Prop} (a9 : at_ < 200) (b9 : b + len ≤ 4000) (l9 : len ≤ 12) : ∀ (r n : Nat) (z : T_Mo) (i : Nat), wp_Mo_tell_L49 K post n z role (Int32.ofNat at_) (Int32.ofNat (b + i)) → z.1.1.2.1.1 = Int32.ofNat b → z.1.1.2.1.2 = Int32.ofNat (b + len) → i + r = len → ∃ L x3, K (((((z.1.1.1.1.1, z.1.1.1.1.2), (z.1.1.1.2.1, (z.1.1.1.2.2.1, z.1.1.1.2.2.2))), ((z.1.1.2.1.1, z.1.1.2.1.2), (z.1.1.2.2.1, (z.1.1.2.2.2.1, z.1.1.2.2.2.2)))), (((z.1.2.1.1.1, z.1.2.1.1.2), (z.1.2.1.2.1, (z.1.2.1.2.2.1, z.1.2.1.2.2.2))), ((z.1.2.2.1.1, (z.1.2.2.1.2.1, z.1.2.2.1.2.2)), (z.1.2.2.2.1, (z.1.2.2.2.2.1, z.1.2.2.2.2.2))))), ((((z.2.1.1.1.1, z.2.1.1.1.2), (z.2.1.1.2.1, (z.2.1.1.2.2.1, L))), ((z.2.1.2.1.1, z.2.1.2.1.2), (z.2.1.2.2.1, (z.2.1.2.2.2.1, z.2.1.2.2.2.2)))), (((z.2.2.1.1.1, z.2.2.1.1.2), (z.2.2.1.2.1, (z.2.2.1.2.2.1, z.2.2.1.2.2.2))), ((z.2.2.2.1.1, (z.2.2.2.1.2.1, z.2.2.2.1.2.2)), (z.2.2.2.2.1, (z.2.2.2.2.2.1, z.2.2.2.2.2.2)))))) role (Int32.ofNat at_) x3 ∧ (∀ j, j < r → L (12 * at_ + i + j) = vp_nar .byte (z.1.1.1.1.1 (b + i + j))) ∧ (∀ j, (j < 12 * at_ + i ∨ 12 * at_ + i + r ≤ j) → L j = z.2.1.1.2.2.2 j) := by
  intro r
  induction r with
  | zero =>
    intro n z i h eb ee e
    cases n with
    | zero => exact False.elim h
    | succ n =>
    rw [wp_Mo_tell_L49] at h
    exact ⟨z.2.1.1.2.2.2, _, h.1 (by rw [ee, on_le (by omega) (by omega)]; omega), fun j hj => absurd hj (Nat.not_lt_zero _), fun _ _ => rfl⟩
  | succ r ih =>
    intro n z i h eb ee e
    cases n with
    | zero => exact False.elim h
    | succ n =>
    rw [wp_Mo_tell_L49] at h
    replace h := (h.2 (by rw [ee, on_le (by omega) (by omega)]; omega)).2.2
    have ix1 : ((12 : Int32) * Int32.ofNat at_ + Int32.ofNat (b + i) - z.1.1.2.1.1).toNatClampNeg = 12 * at_ + i := by
      rw [eb, on_mul12 (by omega), on_add (by omega), show 12 * at_ + (b + i) = (12 * at_ + i) + b by omega, on_subr (by omega), ix_on (by omega)]
    rw [ix1, ix_on (by omega), on_succ (by omega)] at h
    obtain ⟨L, x3, k, g1, g2⟩ := ih n _ (i + 1) h eb ee (by omega)
    refine ⟨L, x3, k, fun j hj => ?_, fun j hj => ?_⟩
    · cases j with
      | zero =>
        rw [g2 _ (Or.inl (by omega))]
        show upd z.2.1.1.2.2.2 (12 * at_ + i) _ (12 * at_ + i + 0) = _
        rw [Nat.add_zero, Nat.add_zero, upd_at]
      | succ j =>
        have := g1 j (by omega)
        rw [show 12 * at_ + i + (j + 1) = 12 * at_ + (i + 1) + j by omega, show b + i + (j + 1) = b + (i + 1) + j by omega]
        exact this
    · rw [g2 j (by omega)]
      exact upd_ne (by omega)
theorem tl_start {K : T_Mo → Int32 → Int32 → Int32 → Prop} {post : Int32 → T_Mo → Prop} {n : Nat} {z : T_Mo} {role a x y : Int32} (h : wp_Mo_tell_L49 K post n z role a x) (e : x = y) : wp_Mo_tell_L49 K post n z role a y := e ▸ h
theorem fs_mem {tx : Nat → Int32} : ∀ {n b i : Nat}, i < n → tx (b + i) ∈ fs tx b n
  | 0, _, _, h => absurd h (Nat.not_lt_zero _)
  | n + 1, b, 0, _ => List.mem_cons_self
  | n + 1, b, i + 1, h => by
    rw [fs, show b + (i + 1) = b + 1 + i by omega]
    exact List.mem_cons_of_mem _ (fs_mem (by omega))
/-- a name more of the reference -/
def TL (m m' : T_Mo) (role : Int32) (c : Nat) : Prop := ∃ L, m' = (((((m.1.1.1.1.1, m.1.1.1.1.2), (m.1.1.1.2.1, (m.1.1.1.2.2.1, m.1.1.1.2.2.2))), ((m.1.1.2.1.1, m.1.1.2.1.2), (m.1.1.2.2.1, (m.1.1.2.2.2.1, m.1.1.2.2.2.2)))), (((m.1.2.1.1.1, m.1.2.1.1.2), (m.1.2.1.2.1, (m.1.2.1.2.2.1, m.1.2.1.2.2.2))), ((m.1.2.2.1.1, (m.1.2.2.1.2.1, m.1.2.2.1.2.2)), (m.1.2.2.2.1, (m.1.2.2.2.2.1, m.1.2.2.2.2.2))))), ((((m.2.1.1.1.1, m.2.1.1.1.2), (m.2.1.1.2.1, ((Int32.ofNat (c + 1)), L))), (((upd m.2.1.2.1.1 (Ns m.1.2.1.2.1 + c) (Int32.ofNat (wo m).length)), (upd m.2.1.2.1.2 (Ns m.1.2.1.2.1 + c) role)), ((upd m.2.1.2.2.1 (Ns m.1.2.1.2.1 + c) (0 : Int32)), ((upd m.2.1.2.2.2.1 (Ns m.1.2.1.2.1 + c) (-1 : Int32)), m.2.1.2.2.2.2)))), (((m.2.2.1.1.1, m.2.2.1.1.2), (m.2.2.1.2.1, (m.2.2.1.2.2.1, m.2.2.1.2.2.2))), ((m.2.2.2.1.1, (m.2.2.2.1.2.1, m.2.2.2.1.2.2)), (m.2.2.2.2.1, (m.2.2.2.2.2.1, m.2.2.2.2.2.2)))))) ∧ fs L (12 * (Ns m.1.2.1.2.1 + c)) (wo m).length = wo m ∧ (∀ j, (j < 12 * (Ns m.1.2.1.2.1 + c) ∨ 12 * (Ns m.1.2.1.2.1 + c) + (wo m).length ≤ j) → L j = m.2.1.1.2.2.2 j)
set_option maxHeartbeats 1000000 in
theorem rl_tell {nm : T_Nm} {m : T_Mo} {c : Nat} {v : Int64} {role : Int32} {PC : Int32 → Unit → Prop} {PM : Int32 → T_Mo → Prop} (hh : m.1.2.1.2.1 = 0 ∨ m.1.2.1.2.1 = 1) (hn : NM nm m c) (np : m.2.1.1.2.2.1 = Int32.ofNat c) (hv : v.toInt = pk (wo m)) (hw : wl (wo m)) (wl9 : (wo m).length ≤ 12) (lb : LB m) (tk : m.1.1.1.2.2.2 = (1000 : Int32) + (-1)) (hC : wp_Nm_canTell nm v PC) (hM : wp_Mo_tell m role PM) : (PC 0 () ∧ PM (-1) (((((m.1.1.1.1.1, m.1.1.1.1.2), (m.1.1.1.2.1, (m.1.1.1.2.2.1, m.1.1.1.2.2.2))), ((m.1.1.2.1.1, m.1.1.2.1.2), (m.1.1.2.2.1, (m.1.1.2.2.2.1, m.1.1.2.2.2.2)))), (((m.1.1.2.1.1, m.1.2.1.1.2), (m.1.2.1.2.1, (m.1.2.1.2.2.1, m.1.2.1.2.2.2))), ((m.1.2.2.1.1, (m.1.2.2.1.2.1, m.1.2.2.1.2.2)), (m.1.2.2.2.1, (m.1.2.2.2.2.1, m.1.2.2.2.2.2))))), ((((m.2.1.1.1.1, m.2.1.1.1.2), (m.2.1.1.2.1, (m.2.1.1.2.2.1, m.2.1.1.2.2.2))), ((m.2.1.2.1.1, m.2.1.2.1.2), (m.2.1.2.2.1, (m.2.1.2.2.2.1, m.2.1.2.2.2.2)))), (((m.2.2.1.1.1, m.2.2.1.1.2), (m.2.2.1.2.1, (m.2.2.1.2.2.1, m.2.2.1.2.2.2))), ((m.2.2.2.1.1, (m.2.2.2.1.2.1, m.2.2.2.1.2.2)), (m.2.2.2.2.1, (m.2.2.2.2.2.1, m.2.2.2.2.2.2))))))) ∨ (c < 100 ∧ PC 1 () ∧ ∃ m', PM (Int32.ofNat c) m' ∧ TL m m' role c) := by
  have c1 := hn.1
  have c9 := hn.2.1
  have pn : PLn m c := fun q => by rw [np] at q; exact absurd (on_inj (by omega) (by omega) q) (by omega)
  unfold wp_Mo_tell wp_Mo_tell_J24 wp_Mo_bad at hM
  rcases iv_isWord hM with ⟨-, hM⟩ | ⟨q, -⟩
  · replace hM := hM.2 (by decide)
    unfold wp_Nm_canTell at hC
    rw [c1] at hC
    rcases br_el hC with ⟨q, hC⟩ | ⟨q, hC⟩
    · have e : c = 100 := by rw [show (100 : Int32) = Int32.ofNat 100 from rfl, on_le (by omega) (by omega)] at q; omega
      obtain ⟨r, u, qa, qb⟩ := dt_Mo_nameOf hM
      replace hM := qb _ hM
      rcases br_el hM with ⟨z, hM⟩ | ⟨z, hM⟩
      · exact Or.inl ⟨hC, hM⟩
      · exact Or.inl ⟨hC, hM.1 (np.trans (by rw [e]; rfl))⟩
    · have c8 : c < 100 := by rw [show (100 : Int32) = Int32.ofNat 100 from rfl, on_le (by omega) (by omega)] at q; omega
      rcases rl_find hh hn pn hv hw lb hC hM with ⟨k, kc, kw, hC, hM⟩ | ⟨hC, hM⟩
      · have o1 := on_n1 (k := k) (by omega)
        exact Or.inl ⟨hC.2 o1.1, hM.1 o1.2.2⟩
      · rcases hM with hM | ⟨pe, -⟩
        · refine Or.inr ⟨c8, hC.1 rfl, ?_⟩
          have nc : ¬ m.2.1.1.2.2.1 = 100 := fun q => absurd (on_inj (by omega) (by omega) ((np.symm.trans q).trans (show (100 : Int32) = Int32.ofNat 100 from rfl))) (by omega)
          obtain ⟨k, hM⟩ := (hM.2 (by decide)).2 nc
          have na := Ns_at hh (x := m.2.1.1.2.2.1) np (by omega)
          obtain ⟨b1, b2, b3, b4⟩ := LB_len lb
          rw [na.2.1] at hM
          have a9 : Ns m.1.2.1.2.1 + c < 200 := by have := na.2.2; omega
          have ee : m.1.1.2.1.2 = Int32.ofNat (m.1.1.2.1.1.toNatClampNeg + (wo m).length) := by rw [b3]; exact (on_ix (Int32.le_trans lb.1 lb.2.1)).symm
          have hM2 := tl_start hM (y := Int32.ofNat (m.1.1.2.1.1.toNatClampNeg + 0)) b2
          obtain ⟨L, x3, hM, g1, g2⟩ := iv_tell_L a9 (by omega) wl9 (wo m).length k m 0 hM2 b2 ee (by omega)
          replace hM := hM.2.2.2.2
          dsimp only at hM
          rw [np, on_succ (by omega), on_pred (by omega), ix_on (by omega), b1] at hM
          refine ⟨_, hM, L, rfl, ?_, fun j hj => g2 j (by omega)⟩
          have e0 : wo m = fs m.1.1.1.1.1 m.1.1.2.1.1.toNatClampNeg (wo m).length := by rw [wo_len]; rfl
          conv => rhs; rw [e0]
          refine fs_congr _ _ _ (fun i hi => ?_)
          have := g1 i hi
          rw [Nat.add_zero, Nat.add_zero] at this
          rw [this]
          refine byte_id (hw _ ?_)
          rw [e0]
          exact fs_mem hi
        · rw [np] at pe
          exact absurd (on_inj (by omega) (by omega) pe) (by omega)
  · exact absurd tk q

theorem FO_TL {m m' : T_Mo} {role : Int32} {c : Nat} (t : TL m m' role c) (c8 : c < 100) (l9 : (wo m).length ≤ 12) : FO m m' := by
  obtain ⟨L, e, g1, g2⟩ := t
  subst e
  refine ⟨rfl, rfl, rfl, rfl, rfl, fun j hj => ⟨rfl, rfl, rfl, rfl, rfl, rfl, rfl, rfl⟩, fun j hj => ?_, fun j hj => g2 j (by omega)⟩
  have ne : j ≠ Ns m.1.2.1.2.1 + c := by omega
  exact ⟨upd_ne ne, upd_ne ne, upd_ne ne, upd_ne ne⟩
theorem RW_TL {tx : Nat → Int32} {sz : Int32} {pl ln : Nat → Int32} {w : T_Wd} {m m' : T_Mo} {role : Int32} {c : Nat} (r : RW tx sz pl ln w m) (t : TL m m' role c) : RW tx sz pl ln w m' := by
  obtain ⟨L, e, -⟩ := t
  subst e
  exact r
set_option maxHeartbeats 2000000 in
/-- the name behind the first word of a declaration -/
theorem rl_newname {tx : Nat → Int32} {sz : Int32} {pl ln : Nat → Int32} {g : T_Gr} {nm : T_Nm} {nd : T_Nd} {w : T_Wd} {m : T_Mo} {n km hi tp c : Nat} {role : Int32} {RS : Int32 → T_Mo → Prop} {PC : Int64 → T_Gr × T_Wd → Prop} {PT : T_Gr × T_Wd → Prop} {PM : Int32 → T_Mo → Prop} (rg : RG tx sz pl ln nm nd w m n km hi tp c) (np : m.2.1.1.2.2.1 = Int32.ofNat c) (nz : ¬ w.2.2.2.2.2.2.2.2.2.2.1 = 0) (hC : wp_Gr_readNewName g nm nd w PC PT) (hM : wp_Mo_go m (fun (r1 : Int32) (u1 : T_Mo) => (r1 = 0 → PM 0 u1) ∧ (¬ r1 = 0 → wp_Mo_tell u1 role (fun (r2 : Int32) (u2 : T_Mo) => (r2 < 0 → PM 0 u2) ∧ (¬ r2 < 0 → wp_Mo_go u2 (fun (r3 : Int32) (u3 : T_Mo) => (r3 = 0 → PM 0 u3) ∧ (¬ r3 = 0 → RS r2 u3))))))) : (∃ v w2 m1 mt m2, c < 100 ∧ PC v (g, w2) ∧ RS (Int32.ofNat c) m2 ∧ RW tx sz pl ln w2 m2 ∧ Fr m m1 ∧ TL m1 mt role c ∧ Fr mt m2 ∧ v.toInt = pk (wo m1) ∧ wl (wo m1) ∧ (wo m1).length ≤ 12 ∧ w.2.2.2.2.2.2.2.1 < w2.2.2.2.2.2.2.2.1) ∨ (∃ u m', PT u ∧ PM 0 m' ∧ FO m m') ∨ (∃ v w2 m', PC v (g, w2) ∧ dead w2.2.2.2.2.2.2.2.2.2.2.1 ∧ PM 0 m' ∧ FO m m') := by
  have rw1 := rg.1
  have n9 := NR_cnt rg.2.1
  unfold wp_Gr_readNewName wp_Gr_refuse at hC
  rcases rl_pass rw1 nz n9 hC hM with ⟨w1, m1, hC, hM, rw2, fr, cw⟩ | ⟨u, m1, hC, hM, fr⟩ | ⟨w1, m1, hC, hM, dd, fr⟩
  · replace hM := hM.2 (by decide)
    have z := RW_z rw2
    have z999 : w1.2.2.2.2.2.2.2.2.2.2.1 = 128 ↔ m1.1.1.1.2.2.2 = (1000 : Int32) + (-1) := Z_eq z (by decide) (by decide) (by decide)
    have rg1 := RG_Fr rg rw2 fr
    have np1 : m1.2.1.1.2.2.1 = Int32.ofNat c := (FP_Fr (hi := 0) fr).2.2.2.2.2.1.trans np
    rcases br_el hC with ⟨e, hC⟩ | ⟨e, hC⟩
    · have e' : w1.2.2.2.2.2.2.2.2.2.2.1 = 128 := e
      obtain ⟨hv, hw, lb⟩ := RW_name rw2 e'
      have l9 : (wo m1).length ≤ 12 := by
        rcases rw2.2.2.2.2.2.2.2.2.2 with ⟨q, -⟩ | ⟨q, -, -⟩
        · rw [e'] at q; exact absurd q (by decide)
        · rcases q with ⟨q, -⟩ | ⟨q, -⟩ | ⟨q, -⟩ | ⟨-, -, -, -, q, -⟩
          · rw [e'] at q; exact absurd (sg_b q) (by decide)
          · rw [e'] at q; exact absurd q (by decide)
          · rw [e'] at q; exact absurd q (by decide)
          · exact q
      rcases rl_tell rg1.2.1.1 rg1.2.2.1 np1 hv hw l9 lb (z999.mp e') hC hM with ⟨hC, hM⟩ | ⟨c8, hC, mt, hM, tl⟩
      · have f := FO_Fr fr
        exact Or.inr (Or.inl ⟨_, _, hC.1 rfl, hM.1 (by decide), f⟩)
      · have o1 := on_n1 (k := c) (by omega)
        have fo := FO_trans (FO_Fr fr) (FO_TL tl c8 l9)
        rcases rl_pass (RW_TL rw2 tl) (by rw [e']; decide) n9 (hC.2 (by decide)) (hM.2 o1.2.1) with ⟨w3, m3, hC, hM, rw3, fr3, cw3⟩ | ⟨u, m3, hC, hM, fr3⟩ | ⟨w3, m3, hC, hM, dd, fr3⟩
        · exact Or.inl ⟨_, w3, m1, mt, m3, c8, hC, hM.2 (by decide), rw3, fr, tl, fr3, hv, hw, l9, Int32.lt_trans (cur_up rw1 cw) (cur_up rw2 cw3)⟩
        · exact Or.inr (Or.inl ⟨_, m3, hC, hM.1 rfl, FO_trans fo (FO_Fr fr3)⟩)
        · exact Or.inr (Or.inr ⟨_, w3, m3, hC, dd, hM.1 rfl, FO_trans fo (FO_Fr fr3)⟩)
    · have e' : ¬ w1.2.2.2.2.2.2.2.2.2.2.1 = 128 := e
      unfold wp_Mo_tell wp_Mo_tell_J24 wp_Mo_bad at hM
      rcases iv_isWord hM with ⟨q, -⟩ | ⟨-, hM⟩
      · exact absurd (z999.mpr q) e'
      · have f := FO_Fr fr
        exact Or.inr (Or.inl ⟨_, _, hC, (hM.1 rfl).1 (by decide), f⟩)
  · exact Or.inr (Or.inl ⟨_, m1, hC, hM.1 rfl, FO_Fr fr⟩)
  · have e' : ¬ w1.2.2.2.2.2.2.2.2.2.2.1 = 128 := fun q => (dead_n dd).1 (by rw [q]; decide)
    exact Or.inr (Or.inl ⟨_, m1, hC.2 e', hM.1 rfl, FO_Fr fr⟩)
theorem nw_TL {m m' : T_Mo} {role : Int32} {c : Nat} (t : TL m m' role c) (l9 : (wo m).length ≤ 12) : nw m' c = wo m ∧ m'.2.1.2.1.1 (Ns m'.1.2.1.2.1 + c) = Int32.ofNat (wo m).length := by
  obtain ⟨L, e, g1, g2⟩ := t
  subst e
  have el : upd m.2.1.2.1.1 (Ns m.1.2.1.2.1 + c) (Int32.ofNat (wo m).length) (Ns m.1.2.1.2.1 + c) = Int32.ofNat (wo m).length := upd_at
  refine ⟨?_, el⟩
  unfold nw
  show fs L (12 * (Ns m.1.2.1.2.1 + c)) (upd m.2.1.2.1.1 (Ns m.1.2.1.2.1 + c) (Int32.ofNat (wo m).length) (Ns m.1.2.1.2.1 + c)).toNatClampNeg = wo m
  rw [el, ix_on (by omega)]; exact g1
theorem NMi_TL {nm : T_Nm} {m m' : T_Mo} {role : Int32} {c j : Nat} (t : TL m m' role c) (hj : j < c) (h : NMi nm m j) : NMi nm m' j := by
  obtain ⟨L, e, g1, g2⟩ := t
  subst e
  have ne : Ns m.1.2.1.2.1 + j ≠ Ns m.1.2.1.2.1 + c := by omega
  obtain ⟨a1, a2, a3, a4, a5, a6, a7, a8⟩ := h
  have l12 : (m.2.1.2.1.1 (Ns m.1.2.1.2.1 + j)).toNatClampNeg ≤ 12 := by have := ix_le a3; rw [show (12 : Int32).toNatClampNeg = 12 from rfl] at this; exact this
  have en : nw (((((m.1.1.1.1.1, m.1.1.1.1.2), (m.1.1.1.2.1, (m.1.1.1.2.2.1, m.1.1.1.2.2.2))), ((m.1.1.2.1.1, m.1.1.2.1.2), (m.1.1.2.2.1, (m.1.1.2.2.2.1, m.1.1.2.2.2.2)))), (((m.1.2.1.1.1, m.1.2.1.1.2), (m.1.2.1.2.1, (m.1.2.1.2.2.1, m.1.2.1.2.2.2))), ((m.1.2.2.1.1, (m.1.2.2.1.2.1, m.1.2.2.1.2.2)), (m.1.2.2.2.1, (m.1.2.2.2.2.1, m.1.2.2.2.2.2))))), ((((m.2.1.1.1.1, m.2.1.1.1.2), (m.2.1.1.2.1, ((Int32.ofNat (c + 1)), L))), (((upd m.2.1.2.1.1 (Ns m.1.2.1.2.1 + c) (Int32.ofNat (wo m).length)), (upd m.2.1.2.1.2 (Ns m.1.2.1.2.1 + c) role)), ((upd m.2.1.2.2.1 (Ns m.1.2.1.2.1 + c) (0 : Int32)), ((upd m.2.1.2.2.2.1 (Ns m.1.2.1.2.1 + c) (-1 : Int32)), m.2.1.2.2.2.2)))), (((m.2.2.1.1.1, m.2.2.1.1.2), (m.2.2.1.2.1, (m.2.2.1.2.2.1, m.2.2.1.2.2.2))), ((m.2.2.2.1.1, (m.2.2.2.1.2.1, m.2.2.2.1.2.2)), (m.2.2.2.2.1, (m.2.2.2.2.2.1, m.2.2.2.2.2.2)))))) j = nw m j := by
    unfold nw
    show fs L (12 * (Ns m.1.2.1.2.1 + j)) (upd m.2.1.2.1.1 (Ns m.1.2.1.2.1 + c) (Int32.ofNat (wo m).length) (Ns m.1.2.1.2.1 + j)).toNatClampNeg = _
    rw [upd_ne ne]
    exact fs_congr _ _ _ (fun i hi => g2 _ (Or.inl (by omega)))
  unfold NMi
  rw [en]
  refine ⟨a1, ?_, ?_, a4, ?_, ?_, a7, ?_⟩
  · show (0 : Int32) ≤ upd m.2.1.2.1.1 (Ns m.1.2.1.2.1 + c) _ (Ns m.1.2.1.2.1 + j); rw [upd_ne ne]; exact a2
  · show upd m.2.1.2.1.1 (Ns m.1.2.1.2.1 + c) _ (Ns m.1.2.1.2.1 + j) ≤ 12; rw [upd_ne ne]; exact a3
  · show sr _ (upd m.2.1.2.1.2 (Ns m.1.2.1.2.1 + c) _ (Ns m.1.2.1.2.1 + j)); rw [upd_ne ne]; exact a5
  · show _ = upd m.2.1.2.2.1 (Ns m.1.2.1.2.1 + c) _ (Ns m.1.2.1.2.1 + j); rw [upd_ne ne]; exact a6
  · show upd m.2.1.2.1.2 (Ns m.1.2.1.2.1 + c) _ (Ns m.1.2.1.2.1 + j) = 24 → (0 : Int32) ≤ upd m.2.1.2.2.2.1 (Ns m.1.2.1.2.1 + c) _ (Ns m.1.2.1.2.1 + j)
    rw [upd_ne ne, upd_ne ne]; exact a8
/-- a name that both know now -/
theorem NM_tell {nm : T_Nm} {m4 m5 : T_Mo} {c : Nat} {v : Int64} {so me x : Int32} (hn : ∀ j, j < c → NMi nm m4 j) (c8 : c < 100) (eh : m5.1.2.1.2.1 = m4.1.2.1.2.1) (en : m5.2.1.1.2.2.1 = Int32.ofNat (c + 1)) (eL : m5.2.1.1.2.2.2 = m4.2.1.1.2.2.2) (eN : m5.2.1.2.1.1 = m4.2.1.2.1.1) (eR : m5.2.1.2.1.2 = m4.2.1.2.1.2) (eU : ∀ j, j ≠ Ns m4.1.2.1.2.1 + c → m5.2.1.2.2.1 j = m4.2.1.2.2.1 j) (eS : ∀ j, j ≠ Ns m4.1.2.1.2.1 + c → m5.2.1.2.2.2.1 j = m4.2.1.2.2.2.1 j) (hu : m5.2.1.2.2.1 (Ns m4.1.2.1.2.1 + c) = me) (me0 : (0 : Int32) ≤ me) (hs : m4.2.1.2.1.2 (Ns m4.1.2.1.2.1 + c) = 24 → (0 : Int32) ≤ m5.2.1.2.2.2.1 (Ns m4.1.2.1.2.1 + c)) (hw : wl (nw m4 c)) (hl : (0 : Int32) ≤ m4.2.1.2.1.1 (Ns m4.1.2.1.2.1 + c) ∧ m4.2.1.2.1.1 (Ns m4.1.2.1.2.1 + c) ≤ 12) (hv : v.toInt = pk (nw m4 c)) (hr : sr so (m4.2.1.2.1.2 (Ns m4.1.2.1.2.1 + c))) : NM ((vp_updL nm.1 c v), (upd nm.2.1 c so), (upd nm.2.2.1 c me), (upd nm.2.2.2.1 c x), (Int32.ofNat (c + 1))) m5 (c + 1) := by
  have ew : ∀ j, nw m5 j = nw m4 j := fun j => by unfold nw; rw [eh, eL, eN]
  refine ⟨rfl, by omega, fun j hj => ?_, Or.inl en⟩
  unfold NMi
  rw [ew, eh, eN, eR]
  rcases Nat.lt_or_ge j c with q | q
  · have ne : j ≠ c := by omega
    have ne2 : Ns m4.1.2.1.2.1 + j ≠ Ns m4.1.2.1.2.1 + c := by omega
    obtain ⟨a1, a2, a3, a4, a5, a6, a7, a8⟩ := hn j q
    rw [eU _ ne2, eS _ ne2]
    refine ⟨a1, a2, a3, ?_, ?_, ?_, ?_, a8⟩
    · show (vp_updL nm.1 c v j).toInt = _; rw [updL_ne ne]; exact a4
    · show sr (upd nm.2.1 c so j) _; rw [upd_ne ne]; exact a5
    · show upd nm.2.2.1 c me j = _; rw [upd_ne ne]; exact a6
    · show (0 : Int32) ≤ upd nm.2.2.1 c me j; rw [upd_ne ne]; exact a7
  · have e : j = c := by omega
    subst e
    refine ⟨hw, hl.1, hl.2, ?_, ?_, ?_, ?_, hs⟩
    · show (vp_updL nm.1 j v j).toInt = _; rw [updL_at]; exact hv
    · show sr (upd nm.2.1 j so j) _; rw [upd_at]; exact hr
    · show upd nm.2.2.1 j me j = _; rw [upd_at]; exact hu.symm
    · show (0 : Int32) ≤ upd nm.2.2.1 j me j; rw [upd_at]; exact me0
theorem iv_nmtell {nm : T_Nm} {v : Int64} {so me : Int32} {c : Nat} {P : Unit → T_Nm → Prop} (h : wp_Nm_tell nm v so me P) (e : nm.2.2.2.2 = Int32.ofNat c) (c8 : c < 100) : P () ((vp_updL nm.1 c v), (upd nm.2.1 c so), (upd nm.2.2.1 c me), (upd nm.2.2.2.1 c (vp_nar .boolean (0 : Int32))), (Int32.ofNat (c + 1))) := by
  unfold wp_Nm_tell at h
  rw [e, ix_on (by omega), on_succ (by omega)] at h
  exact (h.2 (by rw [show (100 : Int32) = Int32.ofNat 100 from rfl, on_le (by omega) (by omega)]; omega)).2.2.2.2
theorem dm_nmtell {nm : T_Nm} {v : Int64} {so me : Int32} {P : Unit → T_Nm → Prop} (h : wp_Nm_tell nm v so me P) : ∃ nm', P () nm' := by
  unfold wp_Nm_tell at h
  rcases br_el h with ⟨q, h⟩ | ⟨q, h⟩
  · exact ⟨_, h⟩
  · exact ⟨_, h.2.2.2.2⟩
/-- class and reference between two declarations or two statements outside of blocks -/
def TP (tx : Nat → Int32) (sz : Int32) (pl ln : Nat → Int32) (m0 : T_Mo) (nm : T_Nm) (nd : T_Nd) (w : T_Wd) (m : T_Mo) (n km c : Nat) (asc : List Nat) : Prop := RG tx sz pl ln nm nd w m n km 0 asc.length c ∧ m.2.1.1.2.2.1 = Int32.ofNat c ∧ m.1.2.1.1.2 = 0 ∧ KL m.2.1.1.1.2 (Bs m.1.2.1.2.1) asc ∧ CH nd.2.2.2.2.1 0 n asc.reverse ∧ FO m0 m
set_option maxHeartbeats 4000000 in
theorem rl_decl {tx : Nat → Int32} {sz : Int32} {pl ln : Nat → Int32} {d dB d' dB' : Nat} {m0 : T_Mo} {g : T_Gr} {nm : T_Nm} {nd : T_Nd} {w : T_Wd} {m : T_Mo} {n km c : Nat} {asc : List Nat} {CT : T_Nm → T_Nd → T_Gr → T_Wd → Prop} {PT : T_Nm × T_Nd × T_Gr × T_Wd → Prop} {PM : Int32 → T_Mo → Prop} (t : TP tx sz pl ln m0 nm nd w m n km c asc) (cs : w.2.2.2.2.2.2.2.2.2.2.1 = 213 ∨ w.2.2.2.2.2.2.2.2.2.2.1 = 214 ∨ w.2.2.2.2.2.2.2.2.2.2.1 = 215) (hC : wp_Gr_readNewName g nm nd w (fun (r5 : Int64) (u5 : T_Gr × T_Wd) => (w.2.2.2.2.2.2.2.2.2.2.1 = (215 : Int32) → (wp_Nd_count nd (fun (r9 : Int32) (u9 : Unit) => wp_Gr_readBlock d dB u5.1 nm nd u5.2 (0 : Int32) (fun (r10 : Unit) (u10 : T_Gr × T_Nm × T_Nd × T_Wd) => wp_Nm_count u10.2.1 (fun (r11 : Int32) (u11 : Unit) => wp_Nd_add u10.2.2.1 (24 : Int32) r9 w.2.2.2.2.2.2.2.2.2.2.2.2.1 ((r11).toInt64) (0 : Int32) (fun (r12 : Int32) (u12 : T_Nd) => wp_Nm_tell u10.2.1 r5 w.2.2.2.2.2.2.2.2.2.2.1 (0 : Int32) (fun (r13 : Unit) (u13 : T_Nm) => CT u13 u12 u10.1 u10.2.2.2)))) (fun (u : T_Gr × T_Nm × T_Nd × T_Wd) => PT (u.2.1, u.2.2.1, u.1, u.2.2.2))))) ∧ (¬ w.2.2.2.2.2.2.2.2.2.2.1 = (215 : Int32) → (wp_Gr_readUnit u5.1 nd u5.2 (fun (r6 : Int32) (u6 : T_Gr × T_Wd) => wp_Gr_take u6.1 nd u6.2 (59 : Int32) (fun (r7 : Unit) (u7 : T_Gr × T_Wd) => wp_Nm_tell nm r5 w.2.2.2.2.2.2.2.2.2.2.1 r6 (fun (r8 : Unit) (u8 : T_Nm) => CT u8 nd u7.1 u7.2)) (fun (u : T_Gr × T_Wd) => PT (nm, nd, u.1, u.2))) (fun (u : T_Gr × T_Wd) => PT (nm, nd, u.1, u.2))))) (fun (u : T_Gr × T_Wd) => PT (nm, nd, u.1, u.2))) (hM : wp_Mo_declaration d' dB' m PM) : (∃ nm' nd' g' w' m' n' km' c' asc', CT nm' nd' g' w' ∧ PM 1 m' ∧ TP tx sz pl ln m0 nm' nd' w' m' n' km' c' asc' ∧ w.2.2.2.2.2.2.2.1 < w'.2.2.2.2.2.2.2.1) ∨ (∃ u m', PT u ∧ PM 0 m' ∧ FO m0 m') ∨ (∃ nm' nd' g' w' m', CT nm' nd' g' w' ∧ DM nd' w' ∧ PM 0 m' ∧ FO m0 m') := by
  obtain ⟨rg, np, op0, kl, ch, fo0⟩ := t
  have rw1 := rg.1
  have z := RW_z rw1
  have row : m.1.1.2.2.1 = w.2.2.2.2.2.2.2.2.2.2.2.2.1 := rw1.2.2.2.2.2.2.2.2.1
  have s0 := rg.2.2.2.2.2.2
  have nz : ¬ w.2.2.2.2.2.2.2.2.2.2.1 = 0 := fun q => by rw [q] at cs; exact absurd cs (by decide)
  have z24 : w.2.2.2.2.2.2.2.2.2.2.1 = 215 ↔ m.1.1.1.2.2.2 = 1024 := Z_eq z (by decide) (by decide) (by decide)
  have z30 : w.2.2.2.2.2.2.2.2.2.2.1 = 213 ↔ m.1.1.1.2.2.2 = 1030 := Z_eq z (by decide) (by decide) (by decide)
  have z31 : w.2.2.2.2.2.2.2.2.2.2.1 = 214 ↔ m.1.1.1.2.2.2 = 1031 := Z_eq z (by decide) (by decide) (by decide)
  have ror : sr w.2.2.2.2.2.2.2.2.2.2.1 (m.1.1.1.2.2.2 - (1000 : Int32)) := by
    rcases cs with e | e | e
    · rw [e, z30.mp e]; exact Or.inl ⟨rfl, by decide⟩
    · rw [e, z31.mp e]; exact Or.inr (Or.inl ⟨rfl, by decide⟩)
    · rw [e, z24.mp e]; exact Or.inr (Or.inr ⟨rfl, by decide⟩)
  have r24 := (sr_24 ror).1
  unfold wp_Mo_declaration wp_Mo_declaration_J40 at hM
  rw [row] at hM
  generalize m.1.1.1.2.2.2 - (1000 : Int32) = role at hM ror r24
  rcases rl_newname rg np nz hC hM with ⟨v, w2, m1, mt, m2, c8, hC, hM, rw2, fr, tl, fr2, hv, hw, l9, cw⟩ | ⟨u, m2, hC, hM, fo⟩ | ⟨v, w2, m2, hC, dd, hM, fo⟩
  · have fo1 := FO_Fr fr
    have foT := FO_trans fo1 (FO_TL tl c8 l9)
    have fo2 := FO_trans foT (FO_Fr fr2)
    have nr1 := NR_Fr rg.2.1 fr
    have hn1 := NM_Fr rg.2.2.1 fr
    have nT := nw_TL tl l9
    have hnT : ∀ j, j < c → NMi nm mt j := fun j hj => NMi_TL tl hj (hn1.2.2.1 j hj)
    have fpT := FP_Fr (hi := 0) fr2
    have nmf := fpT.2.2.2.2.2
    have hn2 : ∀ j, j < c → NMi nm m2 j := fun j hj => by
      have := hnT j hj
      unfold NMi nw at this ⊢
      rw [fr2.2.2.1, fr2.2.2.2.2]; exact this
    have eh2 : m2.1.2.1.2.1 = mt.1.2.1.2.1 := fo2.1.trans foT.1.symm
    have nw2 : nw m2 c = wo m1 := by
      rw [← nT.1]; unfold nw; rw [eh2, nmf.2.1, nmf.2.2.1]
    have ln2 : m2.2.1.2.1.1 (Ns m2.1.2.1.2.1 + c) = Int32.ofNat (wo m1).length := by rw [eh2, nmf.2.2.1]; exact nT.2
    have lnb : (0 : Int32) ≤ m2.2.1.2.1.1 (Ns m2.1.2.1.2.1 + c) ∧ m2.2.1.2.1.1 (Ns m2.1.2.1.2.1 + c) ≤ 12 := by
      rw [ln2]
      exact ⟨(on_n1 (by omega)).2.2, by rw [show (12 : Int32) = Int32.ofNat 12 from rfl, on_le (by omega) (by omega)]; exact l9⟩
    have tlf : mt.2.1.1.2.2.1 = Int32.ofNat (c + 1) ∧ mt.2.1.2.1.2 (Ns mt.1.2.1.2.1 + c) = role ∧ mt.2.1.2.2.2.1 (Ns mt.1.2.1.2.1 + c) = -1 ∧ mt.2.1.2.2.1 (Ns mt.1.2.1.2.1 + c) = 0 ∧ mt.1.2.1.1.2 = m1.1.2.1.1.2 ∧ mt.2.1.1.1.2 = m1.2.1.1.1.2 ∧ mt.2.1.1.2.1 = m1.2.1.1.2.1 ∧ mt.2.2.1.2.2.2 = m1.2.2.1.2.2.2 := by
      obtain ⟨L, e, -⟩ := tl
      subst e
      exact ⟨rfl, upd_at, upd_at, upd_at, rfl, rfl, rfl, rfl⟩
    have nrT : NR nd mt n km := by
      obtain ⟨L, e, -⟩ := tl
      subst e
      exact nr1
    have nr2 := NR_Fr nrT fr2
    have fp1 := FP_Fr (hi := 0) fr
    have n2 : m2.2.1.1.2.2.1 = Int32.ofNat (c + 1) := nmf.1.trans tlf.1
    have ro2 : m2.2.1.2.1.2 (Ns m2.1.2.1.2.1 + c) = role := by rw [eh2, nmf.2.2.2.1]; exact tlf.2.1
    have sn2 : m2.2.1.2.2.2.1 (Ns m2.1.2.1.2.1 + c) = -1 := by rw [eh2, nmf.2.2.2.2.2]; exact tlf.2.2.1
    have nu2 : m2.2.1.2.2.1 (Ns m2.1.2.1.2.1 + c) = 0 := by rw [eh2, nmf.2.2.2.2.1]; exact tlf.2.2.2.1
    have op2 : m2.1.2.1.1.2 = 0 := fpT.2.1.trans (tlf.2.2.2.2.1.trans (fp1.2.1.trans op0))
    have tp2 : m2.2.1.1.1.2 = m.2.1.1.1.2 := fpT.2.2.1.trans (tlf.2.2.2.2.2.1.trans fp1.2.2.1)
    have tm2 : m2.2.1.1.2.1 = Int32.ofNat asc.length := (fpT.2.2.2.1.trans (tlf.2.2.2.2.2.2.1.trans fp1.2.2.2.1)).trans rg.2.2.2.2.2.1
    have hi2 : m2.2.2.1.2.2.2 = Int32.ofNat 0 := (fpT.2.2.2.2.1.trans (tlf.2.2.2.2.2.2.2.trans fp1.2.2.2.2.1)).trans rg.2.2.2.2.1
    have ehm : m2.1.2.1.2.1 = m.1.2.1.2.1 := fo2.1
    have na := Ns_at nr2.1 (x := Int32.ofNat c) rfl (by omega)
    have c1 := rg.2.2.1.1
    rcases br_el hC with ⟨e, hC⟩ | ⟨e, hC⟩
    · -- a step
      replace hM := hM.1 (r24.mp e)
      have rg2 : RG tx sz pl ln nm nd w2 m2 n km 0 asc.length c := ⟨rw2, nr2, ⟨c1, by omega, hn2, Or.inr ⟨c8, n2, ro2.trans (r24.mp e), sn2⟩⟩, fun _ => lnb, hi2, tm2, s0⟩
      unfold wp_Nd_count at hC
      dsimp only at hC
      rw [rg.2.1.2.1] at hC
      have hM' : wp_Mo_block d' dB' m2 (fun (r4 : Int32) (u4 : T_Mo) => wp_Mo_pushed u4 r4 (fun (r5 : Int32) (u5 : T_Mo) => (r5 = 0 → (PM (0 : Int32) u5)) ∧ (¬ r5 = 0 → (wp_Mo_node0 u5 (24 : Int32) ((Int32.ofNat c).toInt64) w.2.2.2.2.2.2.2.2.2.2.2.2.1 (-1 : Int32) m2.2.2.1.2.2.2 (fun (r6 : Int32) (u6 : T_Mo) => (0 ≤ r6 → (vp_in (((100 : Int32) * ((1 : Int32) - u6.1.2.1.2.1)) + Int32.ofNat c) 200 ∧ (wp_Mo_base (((((u6.1.1.1.1.1, u6.1.1.1.1.2), (u6.1.1.1.2.1, (u6.1.1.1.2.2.1, u6.1.1.1.2.2.2))), ((u6.1.1.2.1.1, u6.1.1.2.1.2), (u6.1.1.2.2.1, (u6.1.1.2.2.2.1, u6.1.1.2.2.2.2)))), (((u6.1.2.1.1.1, u6.1.2.1.1.2), (u6.1.2.1.2.1, (u6.1.2.1.2.2.1, u6.1.2.1.2.2.2))), ((u6.1.2.2.1.1, (u6.1.2.2.1.2.1, u6.1.2.2.1.2.2)), (u6.1.2.2.2.1, (u6.1.2.2.2.2.1, u6.1.2.2.2.2.2))))), ((((u6.2.1.1.1.1, u6.2.1.1.1.2), (u6.2.1.1.2.1, (u6.2.1.1.2.2.1, u6.2.1.1.2.2.2))), ((u6.2.1.2.1.1, u6.2.1.2.1.2), (u6.2.1.2.2.1, ((upd u6.2.1.2.2.2.1 (((100 : Int32) * ((1 : Int32) - u6.1.2.1.2.1)) + Int32.ofNat c).toNatClampNeg r6), u6.2.1.2.2.2.2)))), (((u6.2.2.1.1.1, u6.2.2.1.1.2), (u6.2.2.1.2.1, (u6.2.2.1.2.2.1, u6.2.2.1.2.2.2))), ((u6.2.2.2.1.1, (u6.2.2.2.1.2.1, u6.2.2.2.1.2.2)), (u6.2.2.2.2.1, (u6.2.2.2.2.2.1, u6.2.2.2.2.2.2)))))) (fun (r7 : Int32) (u7 : Unit) => vp_in (r7 + u6.2.1.1.2.1) 2000 ∧ (PM (1 : Int32) (((((u6.1.1.1.1.1, u6.1.1.1.1.2), (u6.1.1.1.2.1, (u6.1.1.1.2.2.1, u6.1.1.1.2.2.2))), ((u6.1.1.2.1.1, u6.1.1.2.1.2), (u6.1.1.2.2.1, (u6.1.1.2.2.2.1, u6.1.1.2.2.2.2)))), (((u6.1.2.1.1.1, u6.1.2.1.1.2), (u6.1.2.1.2.1, (u6.1.2.1.2.2.1, u6.1.2.1.2.2.2))), ((u6.1.2.2.1.1, (u6.1.2.2.1.2.1, u6.1.2.2.1.2.2)), (u6.1.2.2.2.1, (u6.1.2.2.2.2.1, u6.1.2.2.2.2.2))))), ((((u6.2.1.1.1.1, (upd u6.2.1.1.1.2 (r7 + u6.2.1.1.2.1).toNatClampNeg r6)), ((u6.2.1.1.2.1 + (1 : Int32)), (u6.2.1.1.2.2.1, u6.2.1.1.2.2.2))), ((u6.2.1.2.1.1, u6.2.1.2.1.2), (u6.2.1.2.2.1, ((upd u6.2.1.2.2.2.1 (((100 : Int32) * ((1 : Int32) - u6.1.2.1.2.1)) + Int32.ofNat c).toNatClampNeg r6), u6.2.1.2.2.2.2)))), (((u6.2.2.1.1.1, u6.2.2.1.1.2), (u6.2.2.1.2.1, (u6.2.2.1.2.2.1, u6.2.2.1.2.2.2))), ((u6.2.2.2.1.1, (u6.2.2.2.1.2.1, u6.2.2.2.1.2.2)), (u6.2.2.2.2.1, (u6.2.2.2.2.2.1, u6.2.2.2.2.2.2))))))))))) ∧ (¬ 0 ≤ r6 → (PM (0 : Int32) u6))))))) := hM
      rcases rl_block d d' dB dB' _ _ _ _ _ _ _ _ _ _ _ _ _ _ rg2 op2 (by decide) (by decide) hC hM' with ⟨g3, nm3, nd3, w3, m3, n3, km3, hC, hM, rg3, e3⟩ | ⟨u, r', m3, hC, hM, rn, fo3⟩ | ⟨g3, nm3, nd3, w3, r', m3, hC, d3, hM, rn, fo3⟩
      · obtain ⟨f1, f2, f3, f4, f5, f6, f7, f8, f9⟩ := e3
        have n93 : n3 + 1 ≤ 1000 := rg3.2.1.2.2.2.1
        have s3 := rg3.2.2.2.2.2.2
        have on3 := on_n1 (k := n3) (by omega)
        unfold wp_Mo_pushed wp_Mo_push at hM
        replace hM := ((hM.1 on3.2.2).2).2 (by decide)
        rw [rg3.2.2.2.2.1, ix_on (by omega), on_succ (by omega), hi2] at hM
        unfold wp_Nm_count at hC
        dsimp only at hC
        rw [rg3.2.2.1.1] at hC
        have rgp : RG tx sz pl ln nm3 nd3 w3 (((((m3.1.1.1.1.1, m3.1.1.1.1.2), (m3.1.1.1.2.1, (m3.1.1.1.2.2.1, m3.1.1.1.2.2.2))), ((m3.1.1.2.1.1, m3.1.1.2.1.2), (m3.1.1.2.2.1, (m3.1.1.2.2.2.1, m3.1.1.2.2.2.2)))), (((m3.1.2.1.1.1, m3.1.2.1.1.2), (m3.1.2.1.2.1, (m3.1.2.1.2.2.1, m3.1.2.1.2.2.2))), ((m3.1.2.2.1.1, (m3.1.2.2.1.2.1, m3.1.2.2.1.2.2)), (m3.1.2.2.2.1, (m3.1.2.2.2.2.1, m3.1.2.2.2.2.2))))), ((((m3.2.1.1.1.1, m3.2.1.1.1.2), (m3.2.1.1.2.1, (m3.2.1.1.2.2.1, m3.2.1.1.2.2.2))), ((m3.2.1.2.1.1, m3.2.1.2.1.2), (m3.2.1.2.2.1, (m3.2.1.2.2.2.1, m3.2.1.2.2.2.2)))), (((m3.2.2.1.1.1, m3.2.2.1.1.2), (m3.2.2.1.2.1, ((upd m3.2.2.1.2.2.1 0 (Int32.ofNat n3)), (Int32.ofNat (0 + 1))))), ((m3.2.2.2.1.1, (m3.2.2.2.1.2.1, m3.2.2.2.1.2.2)), (m3.2.2.2.2.1, (m3.2.2.2.2.2.1, m3.2.2.2.2.2.2)))))) (n3 + 1) km3 (0 + 1) asc.length c := ⟨rg3.1, rg3.2.1, rg3.2.2.1, rg3.2.2.2.1, rfl, rg3.2.2.2.2.2.1, by omega⟩
        have n9' : n ≤ 1000 := rg.2.1.2.2.2.1
        have ixn : (Int32.ofNat n).toNatClampNeg = n := ix_on (by omega)
        have ch3 : CH nd3.2.2.2.2.1 n (n3 + 1) [n3] := ⟨rfl, by rw [f3, ixn], by rw [f3, ixn]; exact f1, by rw [f3, ixn]; rfl⟩
        have kl1 : KL (upd m3.2.2.1.2.2.1 0 (Int32.ofNat n3)) 0 [n3] := ⟨upd_at, trivial⟩
        rcases rl_mk (asc := [n3]) (mark := 0) rgp rfl kl1 ch3 hC hM (fun q => absurd q (by decide)) with ⟨n8, nd4, m4, hC, hM, rg4, ad, e1, e2, e3', e4, e5, fo4⟩ | ⟨r, nd4, m4, hC, hM, cn, fo4⟩
        · have an := AD_new ad
          have ao := AD_old ad
          have foA : FO m0 m4 := FO_trans fo0 (FO_trans fo2 (FO_trans f8 (show FO m3 m4 from fo4)))
          have nmA : NmF m2 m4 := NmF_trans f7.2.2.2.2.2 (show NmF m3 m4 from e5)
          have eh4 : m4.1.2.1.2.1 = m2.1.2.1.2.1 := e4.trans f8.1
          have on4 := on_n1 (k := n3 + 1) (by omega)
          have na4 := Ns_at rg4.2.1.1 (x := Int32.ofNat c) rfl (by omega)
          replace hM := (hM.1 on4.2.2).2
          unfold wp_Mo_base at hM
          dsimp only at hM
          replace hM := hM.2
          have al9 : asc.length < 1000 := by omega
          rw [na4.1, Bs_at rg4.2.1.1 rg4.2.2.2.2.2.1 al9, rg4.2.2.2.2.2.1, on_succ (by omega)] at hM
          replace hC := iv_nmtell hC rg4.2.2.1.1 c8
          have ct4 : m4.2.1.1.1.2 = m.2.1.1.1.2 := e3'.trans (f7.2.2.1.trans tp2)
          have bs4 : Bs m4.1.2.1.2.1 = Bs m.1.2.1.2.1 := by rw [eh4, ehm]
          have el : (asc ++ [n3 + 1]).length = asc.length + 1 := by rw [List.length_append]; rfl
          have nm5 : NM ((vp_updL nm3.1 c v), (upd nm3.2.1 c w.2.2.2.2.2.2.2.2.2.2.1), (upd nm3.2.2.1 c (0 : Int32)), (upd nm3.2.2.2.1 c (vp_nar .boolean (0 : Int32))), (Int32.ofNat (c + 1))) (((((m4.1.1.1.1.1, m4.1.1.1.1.2), (m4.1.1.1.2.1, (m4.1.1.1.2.2.1, m4.1.1.1.2.2.2))), ((m4.1.1.2.1.1, m4.1.1.2.1.2), (m4.1.1.2.2.1, (m4.1.1.2.2.2.1, m4.1.1.2.2.2.2)))), (((m4.1.2.1.1.1, m4.1.2.1.1.2), (m4.1.2.1.2.1, (m4.1.2.1.2.2.1, m4.1.2.1.2.2.2))), ((m4.1.2.2.1.1, (m4.1.2.2.1.2.1, m4.1.2.2.1.2.2)), (m4.1.2.2.2.1, (m4.1.2.2.2.2.1, m4.1.2.2.2.2.2))))), ((((m4.2.1.1.1.1, (upd m4.2.1.1.1.2 (Bs m4.1.2.1.2.1 + asc.length) (Int32.ofNat (n3 + 1)))), ((Int32.ofNat (asc.length + 1)), (m4.2.1.1.2.2.1, m4.2.1.1.2.2.2))), ((m4.2.1.2.1.1, m4.2.1.2.1.2), (m4.2.1.2.2.1, ((upd m4.2.1.2.2.2.1 (Ns m4.1.2.1.2.1 + c) (Int32.ofNat (n3 + 1))), m4.2.1.2.2.2.2)))), (((m4.2.2.1.1.1, m4.2.2.1.1.2), (m4.2.2.1.2.1, (m4.2.2.1.2.2.1, m4.2.2.1.2.2.2))), ((m4.2.2.2.1.1, (m4.2.2.2.1.2.1, m4.2.2.2.1.2.2)), (m4.2.2.2.2.1, (m4.2.2.2.2.2.1, m4.2.2.2.2.2.2)))))) (c + 1) := by
            have w4 : nw m4 c = wo m1 := by rw [← nw2]; unfold nw; rw [eh4, nmA.2.1, nmA.2.2.1]
            have r4 : m4.2.1.2.1.2 (Ns m4.1.2.1.2.1 + c) = role := by rw [eh4, nmA.2.2.2.1]; exact ro2
            refine NM_tell (m4 := m4) rg4.2.2.1.2.2.1 c8 rfl (nmA.1.trans n2) rfl rfl rfl (fun _ _ => rfl) (fun j hj => upd_ne hj) ?_ (by decide) (fun _ => ?_) ?_ ?_ ?_ ?_
            · show m4.2.1.2.2.1 (Ns m4.1.2.1.2.1 + c) = 0
              rw [eh4, nmA.2.2.2.2.1]; exact nu2
            · show (0 : Int32) ≤ upd m4.2.1.2.2.2.1 (Ns m4.1.2.1.2.1 + c) (Int32.ofNat (n3 + 1)) (Ns m4.1.2.1.2.1 + c)
              rw [upd_at]; exact on4.2.2
            · rw [w4]; exact hw
            · rw [eh4, nmA.2.2.1]; exact lnb
            · rw [w4]; exact hv
            · rw [r4]; exact ror
          refine Or.inl ⟨_, nd4, _, w3, _, n3 + 2, km3 + 1, c + 1, asc ++ [n3 + 1], hC, hM, ⟨⟨rg4.1, rg4.2.1, nm5, ?_, rg4.2.2.2.2.1, ?_, by rw [el]; omega⟩, nmA.1.trans n2, ?_, ?_, ?_, ?_⟩, Int32.lt_trans cw f9⟩
          · intro q
            have q2 : m4.2.1.1.2.2.1 = Int32.ofNat (c + 1 + 1) := q
            rw [nmA.1, n2] at q2
            exact absurd (on_inj (by omega) (by omega) q2) (by omega)
          · rw [el]
          · exact e2.trans (f7.2.1.trans op2)
          · refine KL_app asc [n3 + 1] _ (KL_congr asc _ (show KL m.2.1.1.1.2 (Bs m4.1.2.1.2.1) asc by rw [bs4]; exact kl) (fun j h1 h2 => ?_)) ⟨upd_at, trivial⟩
            show upd m4.2.1.1.1.2 (Bs m4.1.2.1.2.1 + asc.length) (Int32.ofNat (n3 + 1)) j = m.2.1.1.1.2 j
            have h2' : j < Bs m4.1.2.1.2.1 + asc.length := h2
            rw [upd_ltx h2', ct4]
          · rw [List.reverse_append]
            refine ⟨rfl, ?_, ?_, ?_⟩
            · rw [an.1, ixn]
            · rw [an.1, ixn]; omega
            · rw [an.1, ixn]
              exact CH_congr _ _ ch (fun k hk => (ao k (by omega)).1.trans (f6 k hk).1)
          · refine FO_trans foA ⟨rfl, rfl, rfl, rfl, rfl, fun j hj => ⟨rfl, rfl, rfl, rfl, rfl, rfl, rfl, ?_⟩, fun j hj => ⟨rfl, rfl, rfl, ?_⟩, fun j hj => rfl⟩
            · exact upd_ne (by omega)
            · exact upd_ne (by omega)
        · have foA : FO m0 m4 := FO_trans fo0 (FO_trans fo2 (FO_trans f8 (show FO m3 m4 from fo4)))
          obtain ⟨nm', hC⟩ := dm_nmtell hC
          exact Or.inr (Or.inr ⟨nm', nd4, _, w3, m4, hC, Or.inr cn, hM.2 (by decide), foA⟩)
      · unfold wp_Mo_pushed at hM
        exact Or.inr (Or.inl ⟨_, m3, hC, (hM.2 (Int32.not_le.mpr rn)).1 rfl, FO_trans fo0 (FO_trans fo2 fo3)⟩)
      · unfold wp_Mo_pushed at hM
        unfold wp_Nm_count at hC
        obtain ⟨r, nd4, hC, k4⟩ := dm_add hC
        obtain ⟨nm', hC⟩ := dm_nmtell hC
        exact Or.inr (Or.inr ⟨nm', nd4, _, w3, m3, hC, d3.elim Or.inl (fun q => Or.inr (k4 q)), (hM.2 (Int32.not_le.mpr rn)).1 rfl, FO_trans fo0 (FO_trans fo2 fo3)⟩)
    · -- a signal or an output
      have nr24 : ¬ role = 24 := fun q => e (r24.mpr q)
      replace hM := iv_unitWord0 (RW_z rw2) (hM.2 nr24)
      rw [na.1] at hM
      unfold wp_Gr_readUnit at hC
      dsimp only at hC
      replace hC := iv_measureHere hC
      have n9 := NR_cnt rg.2.1
      -- the end: a semicolon
      have fin : ∀ (w3 : T_Wd) (m3 : T_Mo) (g3 : T_Gr), RW tx sz pl ln w3 m3 → Fr (((((m2.1.1.1.1.1, m2.1.1.1.1.2), (m2.1.1.1.2.1, (m2.1.1.1.2.2.1, m2.1.1.1.2.2.2))), ((m2.1.1.2.1.1, m2.1.1.2.1.2), (m2.1.1.2.2.1, (m2.1.1.2.2.2.1, m2.1.1.2.2.2.2)))), (((m2.1.2.1.1.1, m2.1.2.1.1.2), (m2.1.2.1.2.1, (m2.1.2.1.2.2.1, m2.1.2.1.2.2.2))), ((m2.1.2.2.1.1, (m2.1.2.2.1.2.1, m2.1.2.2.1.2.2)), (m2.1.2.2.2.1, (m2.1.2.2.2.2.1, m2.1.2.2.2.2.2))))), ((((m2.2.1.1.1.1, m2.2.1.1.1.2), (m2.2.1.1.2.1, (m2.2.1.1.2.2.1, m2.2.1.1.2.2.2))), ((m2.2.1.2.1.1, m2.2.1.2.1.2), ((upd m2.2.1.2.2.1 (Ns m2.1.2.1.2.1 + c) (mh w2.2.2.2.2.2.2.2.2.2.2.1)), (m2.2.1.2.2.2.1, m2.2.1.2.2.2.2)))), (((m2.2.2.1.1.1, m2.2.2.1.1.2), (m2.2.2.1.2.1, (m2.2.2.1.2.2.1, m2.2.2.1.2.2.2))), ((m2.2.2.2.1.1, (m2.2.2.2.1.2.1, m2.2.2.2.1.2.2)), (m2.2.2.2.2.1, (m2.2.2.2.2.2.1, m2.2.2.2.2.2.2)))))) m3 → (w.2.2.2.2.2.2.2.1 < w3.2.2.2.2.2.2.2.1) → wp_Gr_take g3 nd w3 (59 : Int32) (fun (r7 : Unit) (u7 : T_Gr × T_Wd) => wp_Nm_tell nm v w.2.2.2.2.2.2.2.2.2.2.1 (mh w2.2.2.2.2.2.2.2.2.2.2.1) (fun (r8 : Unit) (u8 : T_Nm) => CT u8 nd u7.1 u7.2)) (fun (u : T_Gr × T_Wd) => PT (nm, nd, u.1, u.2)) → wp_Mo_declaration_J84 d' dB' PM m3 role w.2.2.2.2.2.2.2.2.2.2.2.2.1 (Int32.ofNat c) (mh w2.2.2.2.2.2.2.2.2.2.2.1) → (∃ nm' nd' g' w' m' n' km' c' asc', CT nm' nd' g' w' ∧ PM 1 m' ∧ TP tx sz pl ln m0 nm' nd' w' m' n' km' c' asc' ∧ w.2.2.2.2.2.2.2.1 < w'.2.2.2.2.2.2.2.1) ∨ (∃ u m', PT u ∧ PM 0 m' ∧ FO m0 m') ∨ (∃ nm' nd' g' w' m', CT nm' nd' g' w' ∧ DM nd' w' ∧ PM 0 m' ∧ FO m0 m') := by
        intro w3 m3 g3 rw3 fr3 cw3 hC hM
        unfold wp_Mo_declaration_J84 wp_Mo_declaration_J97 wp_Mo_declaration_J98 at hM
        have t59 := RW_sg rw3 (x := 59) (by unfold sg; decide)
        have foU : FO m2 (((((m2.1.1.1.1.1, m2.1.1.1.1.2), (m2.1.1.1.2.1, (m2.1.1.1.2.2.1, m2.1.1.1.2.2.2))), ((m2.1.1.2.1.1, m2.1.1.2.1.2), (m2.1.1.2.2.1, (m2.1.1.2.2.2.1, m2.1.1.2.2.2.2)))), (((m2.1.2.1.1.1, m2.1.2.1.1.2), (m2.1.2.1.2.1, (m2.1.2.1.2.2.1, m2.1.2.1.2.2.2))), ((m2.1.2.2.1.1, (m2.1.2.2.1.2.1, m2.1.2.2.1.2.2)), (m2.1.2.2.2.1, (m2.1.2.2.2.2.1, m2.1.2.2.2.2.2))))), ((((m2.2.1.1.1.1, m2.2.1.1.1.2), (m2.2.1.1.2.1, (m2.2.1.1.2.2.1, m2.2.1.1.2.2.2))), ((m2.2.1.2.1.1, m2.2.1.2.1.2), ((upd m2.2.1.2.2.1 (Ns m2.1.2.1.2.1 + c) (mh w2.2.2.2.2.2.2.2.2.2.2.1)), (m2.2.1.2.2.2.1, m2.2.1.2.2.2.2)))), (((m2.2.2.1.1.1, m2.2.2.1.1.2), (m2.2.2.1.2.1, (m2.2.2.1.2.2.1, m2.2.2.1.2.2.2))), ((m2.2.2.2.1.1, (m2.2.2.2.1.2.1, m2.2.2.2.1.2.2)), (m2.2.2.2.2.1, (m2.2.2.2.2.2.1, m2.2.2.2.2.2.2)))))) := ⟨rfl, rfl, rfl, rfl, rfl, fun j hj => ⟨rfl, rfl, rfl, rfl, rfl, rfl, rfl, rfl⟩, fun j hj => ⟨rfl, rfl, upd_ne (by omega), rfl⟩, fun j hj => rfl⟩
        have fo3 : FO m0 m3 := FO_trans fo0 (FO_trans fo2 (FO_trans foU (FO_Fr fr3)))
        rcases rl_take rw3 t59 (by decide) n9 hC hM with ⟨w4, m4, hC, hM, rw4, fr4, cw4⟩ | ⟨u, m4, hC, hM, fr4⟩ | ⟨w4, m4, hC, hM, dd, fr4⟩
        · replace hM := (hM.2 (by decide)).2
          replace hC := iv_nmtell hC c1 c8
          have fp3 := FP_Fr (hi := 0) fr3
          have fp4 := FP_Fr (hi := 0) fr4
          have nf : NmF (((((m2.1.1.1.1.1, m2.1.1.1.1.2), (m2.1.1.1.2.1, (m2.1.1.1.2.2.1, m2.1.1.1.2.2.2))), ((m2.1.1.2.1.1, m2.1.1.2.1.2), (m2.1.1.2.2.1, (m2.1.1.2.2.2.1, m2.1.1.2.2.2.2)))), (((m2.1.2.1.1.1, m2.1.2.1.1.2), (m2.1.2.1.2.1, (m2.1.2.1.2.2.1, m2.1.2.1.2.2.2))), ((m2.1.2.2.1.1, (m2.1.2.2.1.2.1, m2.1.2.2.1.2.2)), (m2.1.2.2.2.1, (m2.1.2.2.2.2.1, m2.1.2.2.2.2.2))))), ((((m2.2.1.1.1.1, m2.2.1.1.1.2), (m2.2.1.1.2.1, (m2.2.1.1.2.2.1, m2.2.1.1.2.2.2))), ((m2.2.1.2.1.1, m2.2.1.2.1.2), ((upd m2.2.1.2.2.1 (Ns m2.1.2.1.2.1 + c) (mh w2.2.2.2.2.2.2.2.2.2.2.1)), (m2.2.1.2.2.2.1, m2.2.1.2.2.2.2)))), (((m2.2.2.1.1.1, m2.2.2.1.1.2), (m2.2.2.1.2.1, (m2.2.2.1.2.2.1, m2.2.2.1.2.2.2))), ((m2.2.2.2.1.1, (m2.2.2.2.1.2.1, m2.2.2.2.1.2.2)), (m2.2.2.2.2.1, (m2.2.2.2.2.2.1, m2.2.2.2.2.2.2)))))) m4 := NmF_trans fp3.2.2.2.2.2 fp4.2.2.2.2.2
          have eh4 : m4.1.2.1.2.1 = m2.1.2.1.2.1 := (FO_trans (FO_Fr fr3) (FO_Fr fr4)).1
          have nr4 : NR nd m4 n km := NR_Fr (NR_Fr (show NR nd (((((m2.1.1.1.1.1, m2.1.1.1.1.2), (m2.1.1.1.2.1, (m2.1.1.1.2.2.1, m2.1.1.1.2.2.2))), ((m2.1.1.2.1.1, m2.1.1.2.1.2), (m2.1.1.2.2.1, (m2.1.1.2.2.2.1, m2.1.1.2.2.2.2)))), (((m2.1.2.1.1.1, m2.1.2.1.1.2), (m2.1.2.1.2.1, (m2.1.2.1.2.2.1, m2.1.2.1.2.2.2))), ((m2.1.2.2.1.1, (m2.1.2.2.1.2.1, m2.1.2.2.1.2.2)), (m2.1.2.2.2.1, (m2.1.2.2.2.2.1, m2.1.2.2.2.2.2))))), ((((m2.2.1.1.1.1, m2.2.1.1.1.2), (m2.2.1.1.2.1, (m2.2.1.1.2.2.1, m2.2.1.1.2.2.2))), ((m2.2.1.2.1.1, m2.2.1.2.1.2), ((upd m2.2.1.2.2.1 (Ns m2.1.2.1.2.1 + c) (mh w2.2.2.2.2.2.2.2.2.2.2.1)), (m2.2.1.2.2.2.1, m2.2.1.2.2.2.2)))), (((m2.2.2.1.1.1, m2.2.2.1.1.2), (m2.2.2.1.2.1, (m2.2.2.1.2.2.1, m2.2.2.1.2.2.2))), ((m2.2.2.2.1.1, (m2.2.2.2.1.2.1, m2.2.2.2.1.2.2)), (m2.2.2.2.2.1, (m2.2.2.2.2.2.1, m2.2.2.2.2.2.2)))))) n km from nr2) fr3) fr4
          have nm5 : NM ((vp_updL nm.1 c v), (upd nm.2.1 c w.2.2.2.2.2.2.2.2.2.2.1), (upd nm.2.2.1 c (mh w2.2.2.2.2.2.2.2.2.2.2.1)), (upd nm.2.2.2.1 c (vp_nar .boolean (0 : Int32))), (Int32.ofNat (c + 1))) m4 (c + 1) := by
            refine NM_tell (m4 := m2) hn2 c8 eh4 (nf.1.trans n2) nf.2.1 nf.2.2.1 nf.2.2.2.1 (fun j hj => ?_) (fun j hj => by rw [nf.2.2.2.2.2]) ?_ mh_nn (fun q => ?_) ?_ lnb ?_ ?_
            · rw [nf.2.2.2.2.1]; exact upd_ne hj
            · rw [nf.2.2.2.2.1]
              show upd m2.2.1.2.2.1 (Ns m2.1.2.1.2.1 + c) (mh w2.2.2.2.2.2.2.2.2.2.2.1) (Ns m2.1.2.1.2.1 + c) = mh w2.2.2.2.2.2.2.2.2.2.2.1
              exact upd_at
            · rw [ro2] at q; exact absurd q nr24
            · rw [nw2]; exact hw
            · rw [nw2]; exact hv
            · rw [ro2]; exact ror
          have tops4 : m4.2.1.1.1.2 = m.2.1.1.1.2 := fp4.2.2.1.trans (fp3.2.2.1.trans tp2)
          refine Or.inl ⟨_, nd, _, w4, m4, n, km, c + 1, asc, hC, hM, ⟨⟨rw4, nr4, nm5, ?_, fp4.2.2.2.2.1.trans (fp3.2.2.2.2.1.trans hi2), fp4.2.2.2.1.trans (fp3.2.2.2.1.trans tm2), s0⟩, nf.1.trans n2, fp4.2.1.trans (fp3.2.1.trans op2), ?_, ch, FO_trans fo3 (FO_Fr fr4)⟩, Int32.lt_trans cw3 (cur_up rw3 cw4)⟩
          · intro q
            rw [nf.1.trans n2] at q
            exact absurd (on_inj (by omega) (by omega) q) (by omega)
          · rw [tops4, eh4, ehm]; exact kl
        · exact Or.inr (Or.inl ⟨_, m4, hC, (hM.1 rfl).2, FO_trans fo3 (FO_Fr fr4)⟩)
        · obtain ⟨nm', hC⟩ := dm_nmtell hC
          exact Or.inr (Or.inr ⟨nm', nd, _, w4, m4, hC, Or.inl dd, (hM.1 rfl).2, FO_trans fo3 (FO_Fr fr4)⟩)
      replace hM := hM.2
      have rwu : RW tx sz pl ln w2 (((((m2.1.1.1.1.1, m2.1.1.1.1.2), (m2.1.1.1.2.1, (m2.1.1.1.2.2.1, m2.1.1.1.2.2.2))), ((m2.1.1.2.1.1, m2.1.1.2.1.2), (m2.1.1.2.2.1, (m2.1.1.2.2.2.1, m2.1.1.2.2.2.2)))), (((m2.1.2.1.1.1, m2.1.2.1.1.2), (m2.1.2.1.2.1, (m2.1.2.1.2.2.1, m2.1.2.1.2.2.2))), ((m2.1.2.2.1.1, (m2.1.2.2.1.2.1, m2.1.2.2.1.2.2)), (m2.1.2.2.2.1, (m2.1.2.2.2.2.1, m2.1.2.2.2.2.2))))), ((((m2.2.1.1.1.1, m2.2.1.1.1.2), (m2.2.1.1.2.1, (m2.2.1.1.2.2.1, m2.2.1.1.2.2.2))), ((m2.2.1.2.1.1, m2.2.1.2.1.2), ((upd m2.2.1.2.2.1 (Ns m2.1.2.1.2.1 + c) (mh w2.2.2.2.2.2.2.2.2.2.2.1)), (m2.2.1.2.2.2.1, m2.2.1.2.2.2.2)))), (((m2.2.2.1.1.1, m2.2.2.1.1.2), (m2.2.2.1.2.1, (m2.2.2.1.2.2.1, m2.2.2.1.2.2.2))), ((m2.2.2.2.1.1, (m2.2.2.2.1.2.1, m2.2.2.2.1.2.2)), (m2.2.2.2.2.1, (m2.2.2.2.2.2.1, m2.2.2.2.2.2.2)))))) := rw2
      rcases br_el hC with ⟨q, hC⟩ | ⟨q, hC⟩
      · have u0 : mh w2.2.2.2.2.2.2.2.2.2.2.1 = 0 := by
          have := mh_nn (c := w2.2.2.2.2.2.2.2.2.2.2.1)
          generalize mh w2.2.2.2.2.2.2.2.2.2.2.1 = x at this q
          grind
        exact fin w2 _ _ rwu ⟨rfl, rfl, rfl, rfl, rfl⟩ cw hC (hM.1 u0)
      · have un : ¬ mh w2.2.2.2.2.2.2.2.2.2.2.1 = 0 := fun z => q (by rw [z]; decide)
        have foU : FO m2 (((((m2.1.1.1.1.1, m2.1.1.1.1.2), (m2.1.1.1.2.1, (m2.1.1.1.2.2.1, m2.1.1.1.2.2.2))), ((m2.1.1.2.1.1, m2.1.1.2.1.2), (m2.1.1.2.2.1, (m2.1.1.2.2.2.1, m2.1.1.2.2.2.2)))), (((m2.1.2.1.1.1, m2.1.2.1.1.2), (m2.1.2.1.2.1, (m2.1.2.1.2.2.1, m2.1.2.1.2.2.2))), ((m2.1.2.2.1.1, (m2.1.2.2.1.2.1, m2.1.2.2.1.2.2)), (m2.1.2.2.2.1, (m2.1.2.2.2.2.1, m2.1.2.2.2.2.2))))), ((((m2.2.1.1.1.1, m2.2.1.1.1.2), (m2.2.1.1.2.1, (m2.2.1.1.2.2.1, m2.2.1.1.2.2.2))), ((m2.2.1.2.1.1, m2.2.1.2.1.2), ((upd m2.2.1.2.2.1 (Ns m2.1.2.1.2.1 + c) (mh w2.2.2.2.2.2.2.2.2.2.2.1)), (m2.2.1.2.2.2.1, m2.2.1.2.2.2.2)))), (((m2.2.2.1.1.1, m2.2.2.1.1.2), (m2.2.2.1.2.1, (m2.2.2.1.2.2.1, m2.2.2.1.2.2.2))), ((m2.2.2.2.1.1, (m2.2.2.2.1.2.1, m2.2.2.2.1.2.2)), (m2.2.2.2.2.1, (m2.2.2.2.2.2.1, m2.2.2.2.2.2.2)))))) := ⟨rfl, rfl, rfl, rfl, rfl, fun j hj => ⟨rfl, rfl, rfl, rfl, rfl, rfl, rfl, rfl⟩, fun j hj => ⟨rfl, rfl, upd_ne (by omega), rfl⟩, fun j hj => rfl⟩
        rcases rl_pass rwu (mh_nz q) n9 hC (hM.2 un) with ⟨w3, m3, hC, hM, rw3, fr3, cw3⟩ | ⟨u, m3, hC, hM, fr3⟩ | ⟨w3, m3, hC, hM, dd, fr3⟩
        · exact fin w3 m3 _ rw3 fr3 (Int32.lt_trans cw (cur_up rw2 cw3)) hC (hM.2 (by decide))
        · have hM := hM.1 rfl
          unfold wp_Mo_declaration_J97 wp_Mo_declaration_J98 at hM
          exact Or.inr (Or.inl ⟨_, m3, hC, hM.2, FO_trans fo0 (FO_trans fo2 (FO_trans foU (FO_Fr fr3)))⟩)
        · have hM := hM.1 rfl
          unfold wp_Mo_declaration_J97 wp_Mo_declaration_J98 at hM
          obtain ⟨u, hC⟩ := dm_take (Or.inl dd) (by unfold dead sg; decide) hC
          exact Or.inr (Or.inl ⟨_, m3, hC, hM.2, FO_trans fo0 (FO_trans fo2 (FO_trans foU (FO_Fr fr3)))⟩)
  · exact Or.inr (Or.inl ⟨_, m2, hC, hM, FO_trans fo0 fo⟩)
  · rcases br_el hC with ⟨e, hC⟩ | ⟨e, hC⟩
    · unfold wp_Nd_count at hC
      obtain ⟨u, hC⟩ := rd_block d dB _ _ _ _ _ _ _ (Or.inl dd) hC
      exact Or.inr (Or.inl ⟨_, m2, hC, hM, FO_trans fo0 fo⟩)
    · unfold wp_Gr_readUnit at hC
      dsimp only at hC
      replace hC := iv_measureHere hC
      rw [mh_0 (fun q => (dead_n dd).1 (Int32.le_trans (by decide) q.1))] at hC
      obtain ⟨u, hC⟩ := dm_take (Or.inl dd) (by unfold dead sg; decide) (hC.1 (by decide))
      exact Or.inr (Or.inl ⟨_, m2, hC, hM, FO_trans fo0 fo⟩)

