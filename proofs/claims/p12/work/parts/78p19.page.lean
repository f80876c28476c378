theorem FC_ge {L : Nat → Int32} {hi : Nat} : ∀ (l : List Nat) (lo : Nat), FC L hi lo l → ∀ y, y ∈ l → lo ≤ y
  | [], lo, h, y, hy => absurd hy List.not_mem_nil
  | k :: t, lo, h, y, hy => by
    rcases List.mem_cons.mp hy with e | e
    · have := h.2.1; omega
    · have := FC_ge t _ h.2.2 y e; have := h.2.1; omega
theorem FC_pw {L : Nat → Int32} {hi : Nat} : ∀ (l : List Nat) (lo : Nat), FC L hi lo l → ∀ a b (ha : a < l.length) (hb : b < l.length), a < b → l[a] < l[b]
  | [], lo, h, a, b, ha, hb, ab => absurd ha (Nat.not_lt_zero _)
  | k :: t, lo, h, 0, b + 1, ha, hb, ab => by
    rw [List.getElem_cons_zero, List.getElem_cons_succ]
    have hb' : b < t.length := by rw [List.length_cons] at hb; omega
    have := FC_ge t _ h.2.2 t[b] (List.getElem_mem hb')
    omega
  | k :: t, lo, h, a + 1, b + 1, ha, hb, ab => by
    rw [List.getElem_cons_succ, List.getElem_cons_succ]
    exact FC_pw t _ h.2.2 a b (by rw [List.length_cons] at ha; omega) (by rw [List.length_cons] at hb; omega) (by omega)
theorem NS_mono {m : T_Mo} {cn : Nat} {NS : Nat → Nat} (h : ∀ j, j < cn → NJ m NS j) {i : Nat} : ∀ j, i ≤ j → j ≤ cn → NS i ≤ NS j
  | 0, h1, h2 => by have : i = 0 := by omega
                    rw [this]; exact Nat.le_refl _
  | j + 1, h1, h2 => by
    rcases Nat.lt_or_ge i (j + 1) with q | q
    · have a := NS_mono h (i := i) j (by omega) (by omega)
      have := (h j (by omega)).1
      omega
    · have : i = j + 1 := by omega
      rw [this]; exact Nat.le_refl _
/-- the value of a step -/
theorem TA_step {kw : T_Kw} {nm : T_Nm} {nd : T_Nd} {m : T_Mo} {n cn : Nat} {kf : Nat → List Nat} {asc : List Nat} {PS NS : Nat → Nat} (ta : TA nm nd m kw n cn kf asc PS NS) {p : Nat} (hp : p < n) (e : nd.1 p = 24) : ∃ t, t < cn ∧ (nd.2.2.1 p).toInt = (t : Int) ∧ nm.2.1 t = 215 ∧ ∀ i, i < p → nd.1 i = 24 → (nd.2.2.1 i).toInt < (t : Int) := by
  obtain ⟨t, h1, h2, h3, h4⟩ := ta.1.2.2.2.2.2.2.2.2.1 p hp e
  exact ⟨t, h1, h2, h3, fun i hi ei => h4 i hi (Or.inr ei)⟩
theorem TA_asc {kw : T_Kw} {nm : T_Nm} {nd : T_Nd} {m : T_Mo} {n cn : Nat} {kf : Nat → List Nat} {asc : List Nat} {PS NS : Nat → Nat} (ta : TA nm nd m kw n cn kf asc PS NS) {p : Nat} (hp : p < n) (e : nd.1 p = 24) : p ∈ asc := by
  have fk := ta.1.1
  have fin := ta.1.2.1
  rcases in_some fk hp with q | ⟨b, hb, q⟩
  · exact q
  · have kk := kk_of fin fk hb q
    rw [e] at kk
    exact absurd (KK_24 kk.1 kk.2) id
set_option maxHeartbeats 4000000 in
/-- the names' loop, of both -/
theorem ln_loop {kw : T_Kw} {nm : T_Nm} {nd : T_Nd} {m : T_Mo} {n cn : Nat} {kf : Nat → List Nat} {asc : List Nat} {PS NS : Nat → Nat} (ta : TA nm nd m kw n cn kf asc PS NS) {i d dB t0 : Nat} (i9 : i < 2147483648) (t0l : t0 ≤ asc.length) (tp : ∀ q (hq : q < asc.length), nd.1 asc[q] = 24 ↔ q < t0) {z1 : T_Pr} {KC : T_Pg → Int32 → Int32 → Prop} {pc : Unit → T_Pg → Prop} {KM : T_Mo → Int32 → Int32 → Prop} {pm : Int32 → T_Mo → Prop} : ∀ (r j k lo f f' : Nat) (x2 : Int32) (pg : T_Pg) (a b c : Int32), cn = j + r → k ≤ t0 → (∀ q (hq : q < asc.length), q < t0 → (q < k ↔ (nd.2.2.1 asc[q]).toInt < (j : Int))) → FC nd.2.2.2.2.1 n lo (asc.drop k) → NX nd.2.2.2.2.2.2.2.2.1 x2 (asc.drop k) → (B2 i pg a b c (PS lo + NS j) ∨ C2 i pg a b c (PS lo + NS j)) → wp_Pg_lay_L32 z1 nm nd kw KC pc f pg x2 (Int32.ofNat j) → wp_Mo_write_L17 d dB KM pm f' (((((m.1.1.1.1.1, m.1.1.1.1.2), (m.1.1.1.2.1, (m.1.1.1.2.2.1, m.1.1.1.2.2.2))), ((m.1.1.2.1.1, m.1.1.2.1.2), (m.1.1.2.2.1, (m.1.1.2.2.2.1, m.1.1.2.2.2.2)))), (((m.1.2.1.1.1, m.1.2.1.1.2), (m.1.2.1.2.1, (m.1.2.1.2.2.1, m.1.2.1.2.2.2))), ((m.1.2.2.1.1, (m.1.2.2.1.2.1, m.1.2.2.1.2.2)), (m.1.2.2.2.1, (m.1.2.2.2.2.1, m.1.2.2.2.2.2))))), ((((m.2.1.1.1.1, m.2.1.1.1.2), (m.2.1.1.2.1, (m.2.1.1.2.2.1, m.2.1.1.2.2.2))), ((m.2.1.2.1.1, m.2.1.2.1.2), (m.2.1.2.2.1, (m.2.1.2.2.2.1, m.2.1.2.2.2.2)))), (((m.2.2.1.1.1, m.2.2.1.1.2), (m.2.2.1.2.1, (m.2.2.1.2.2.1, m.2.2.1.2.2.2))), ((m.2.2.2.1.1, (m.2.2.2.1.2.1, a)), (b, (c, m.2.2.2.2.2.2)))))) (Int32.ofNat i) (Int32.ofNat j) → ∃ pg' a' b' c' lo' x2', FC nd.2.2.2.2.1 n lo' (asc.drop t0) ∧ NX nd.2.2.2.2.2.2.2.2.1 x2' (asc.drop t0) ∧ (B2 i pg' a' b' c' (PS lo' + NS cn) ∨ C2 i pg' a' b' c' (PS lo' + NS cn)) ∧ KC pg' x2' (Int32.ofNat cn) ∧ KM (((((m.1.1.1.1.1, m.1.1.1.1.2), (m.1.1.1.2.1, (m.1.1.1.2.2.1, m.1.1.1.2.2.2))), ((m.1.1.2.1.1, m.1.1.2.1.2), (m.1.1.2.2.1, (m.1.1.2.2.2.1, m.1.1.2.2.2.2)))), (((m.1.2.1.1.1, m.1.2.1.1.2), (m.1.2.1.2.1, (m.1.2.1.2.2.1, m.1.2.1.2.2.2))), ((m.1.2.2.1.1, (m.1.2.2.1.2.1, m.1.2.2.1.2.2)), (m.1.2.2.2.1, (m.1.2.2.2.2.1, m.1.2.2.2.2.2))))), ((((m.2.1.1.1.1, m.2.1.1.1.2), (m.2.1.1.2.1, (m.2.1.1.2.2.1, m.2.1.1.2.2.2))), ((m.2.1.2.1.1, m.2.1.2.1.2), (m.2.1.2.2.1, (m.2.1.2.2.2.1, m.2.1.2.2.2.2)))), (((m.2.2.1.1.1, m.2.2.1.1.2), (m.2.2.1.2.1, (m.2.2.1.2.2.1, m.2.2.1.2.2.2))), ((m.2.2.2.1.1, (m.2.2.2.1.2.1, a')), (b', (c', m.2.2.2.2.2.2)))))) (Int32.ofNat i) (Int32.ofNat cn) := by
  have ta0 := ta
  obtain ⟨pa, tr, nj, tot, nx0, fc0⟩ := ta
  have tr0 := tr
  obtain ⟨hh, kz, ec, n9, em, c9, per, nam⟩ := tr
  have pmc := pa.2.2.2.2.1
  have fk := pa.1
  have al := fk.2.2.2.2.2.2.1
  have nsm := fun {x : Nat} (y : Nat) => NS_mono (m := mr m) (fun j hj => (nj j hj).1) (i := x) y
  intro r
  induction r with
  | zero =>
    intro j k lo f f' x2 pg a b c hr kt inv fc nx w2 hC hM
    have ej : j = cn := by omega
    subst ej
    have ekt : k = t0 := by
      rcases Nat.lt_or_ge k t0 with q | q
      · obtain ⟨t, h1, h2, -⟩ := TA_step ta0 (asc_n fk (List.getElem_mem (show k < asc.length by omega))) ((tp k (by omega)).mpr q)
        have := (inv k (by omega) q).mpr (by rw [h2]; omega)
        omega
      · omega
    subst ekt
    cases f with
    | zero => exact False.elim hC
    | succ f =>
    cases f' with
    | zero => exact False.elim hM
    | succ f' =>
    rw [wp_Pg_lay_L32] at hC
    unfold wp_Nm_count at hC
    have hC := hC.1 (by rw [show nm.2.2.2.2 = nm.2.2.2.2 from rfl, em]; exact Int32.le_refl _)
    rw [wp_Mo_write_L17] at hM
    dsimp only at hM
    replace hM := hM.1 (by rw [pmc]; exact Int32.le_refl _)
    exact ⟨pg, a, b, c, lo, x2, fc, nx, w2, hC, hM⟩
  | succ r ih =>
    intro j k lo f f' x2 pg a b c hr kt inv fc nx w2 hC hM
    have hj : j < cn := by omega
    obtain ⟨nj1, mi⟩ := nj j hj
    have fl := FC_le _ _ fc
    have pl := TR_ps tr0 (i := lo) n fl (Nat.le_refl _)
    have nl := nsm (x := j + 1) cn (by omega) (Nat.le_refl _)
    cases f with
    | zero => exact False.elim hC
    | succ f =>
    cases f' with
    | zero => exact False.elim hM
    | succ f' =>
    rw [wp_Pg_lay_L32] at hC
    unfold wp_Nm_count at hC
    have hC := hC.2 (by rw [show nm.2.2.2.2 = nm.2.2.2.2 from rfl, em, on_le (by omega) (by omega)]; omega)
    replace hC := na_sort em c9 hj hC
    rw [wp_Mo_write_L17] at hM
    dsimp only at hM
    replace hM := ((hM.2 (by rw [pmc, on_le (by omega) (by omega)]; omega)).2 (on_n1 i9).2.1).2
    rw [on_succ (by omega)] at hC hM
    obtain ⟨nj0, njd⟩ := nj1
    have sr0 := mi.2.2.2.2.1
    have njd : m.2.1.2.1.2 (Ns ((1 : Int32) - m.1.2.1.2.1) + j) = 24 ∨ ((m.2.1.2.1.2 (Ns ((1 : Int32) - m.1.2.1.2.1) + j) = 30 ∨ m.2.1.2.1.2 (Ns ((1 : Int32) - m.1.2.1.2.1) + j) = 31) ∧ (0 : Int32) ≤ m.2.1.2.2.1 (Ns ((1 : Int32) - m.1.2.1.2.1) + j) ∧ m.2.1.2.2.1 (Ns ((1 : Int32) - m.1.2.1.2.1) + j) ≤ 5 ∧ NS j + (7 + (m.2.1.2.1.1 (Ns ((1 : Int32) - m.1.2.1.2.1) + j)).toNatClampNeg + 1 + uc (m.2.1.2.2.1 (Ns ((1 : Int32) - m.1.2.1.2.1) + j)) + 2) ≤ NS (j + 1)) := njd
    have sr0 : sr (nm.2.1 j) (m.2.1.2.1.2 (Ns ((1 : Int32) - m.1.2.1.2.1) + j)) := sr0
    have inv2 : ¬ nm.2.1 j = 215 → ∀ q (hq : q < asc.length), q < t0 → (q < k ↔ (nd.2.2.1 asc[q]).toInt < ((j + 1 : Nat) : Int)) := by
      intro ns q hq qt
      obtain ⟨t, h1, h2, h3, -⟩ := TA_step ta0 (asc_n fk (List.getElem_mem hq)) ((tp q hq).mpr qt)
      have tj : ¬ t = j := fun z => ns (by rw [← z]; exact h3)
      rw [inv q hq qt, h2]
      constructor <;> intro z <;> omega
    have decl : ∀ {pg' : T_Pg} {a' b' c' : Int32}, ¬ nm.2.1 j = 215 → NS j + (7 + (m.2.1.2.1.1 (Ns ((1 : Int32) - m.1.2.1.2.1) + j)).toNatClampNeg + 1 + uc (m.2.1.2.2.1 (Ns ((1 : Int32) - m.1.2.1.2.1) + j)) + 2) ≤ NS (j + 1) → wp_Pg_lay_L32 z1 nm nd kw KC pc f pg' x2 (Int32.ofNat (j + 1)) → wp_Mo_write_L17 d dB KM pm f' (((((m.1.1.1.1.1, m.1.1.1.1.2), (m.1.1.1.2.1, (m.1.1.1.2.2.1, m.1.1.1.2.2.2))), ((m.1.1.2.1.1, m.1.1.2.1.2), (m.1.1.2.2.1, (m.1.1.2.2.2.1, m.1.1.2.2.2.2)))), (((m.1.2.1.1.1, m.1.2.1.1.2), (m.1.2.1.2.1, (m.1.2.1.2.2.1, m.1.2.1.2.2.2))), ((m.1.2.2.1.1, (m.1.2.2.1.2.1, m.1.2.2.1.2.2)), (m.1.2.2.2.1, (m.1.2.2.2.2.1, m.1.2.2.2.2.2))))), ((((m.2.1.1.1.1, m.2.1.1.1.2), (m.2.1.1.2.1, (m.2.1.1.2.2.1, m.2.1.1.2.2.2))), ((m.2.1.2.1.1, m.2.1.2.1.2), (m.2.1.2.2.1, (m.2.1.2.2.2.1, m.2.1.2.2.2.2)))), (((m.2.2.1.1.1, m.2.2.1.1.2), (m.2.2.1.2.1, (m.2.2.1.2.2.1, m.2.2.1.2.2.2))), ((m.2.2.2.1.1, (m.2.2.2.1.2.1, a')), (b', (c', m.2.2.2.2.2.2)))))) (Int32.ofNat i) (Int32.ofNat (j + 1)) → B2 i pg' a' b' c' (PS lo + NS j + (7 + (m.2.1.2.1.1 (Ns ((1 : Int32) - m.1.2.1.2.1) + j)).toNatClampNeg + 1 + uc (m.2.1.2.2.1 (Ns ((1 : Int32) - m.1.2.1.2.1) + j)) + 2)) → ∃ pg' a' b' c' lo' x2', FC nd.2.2.2.2.1 n lo' (asc.drop t0) ∧ NX nd.2.2.2.2.2.2.2.2.1 x2' (asc.drop t0) ∧ (B2 i pg' a' b' c' (PS lo' + NS cn) ∨ C2 i pg' a' b' c' (PS lo' + NS cn)) ∧ KC pg' x2' (Int32.ofNat cn) ∧ KM (((((m.1.1.1.1.1, m.1.1.1.1.2), (m.1.1.1.2.1, (m.1.1.1.2.2.1, m.1.1.1.2.2.2))), ((m.1.1.2.1.1, m.1.1.2.1.2), (m.1.1.2.2.1, (m.1.1.2.2.2.1, m.1.1.2.2.2.2)))), (((m.1.2.1.1.1, m.1.2.1.1.2), (m.1.2.1.2.1, (m.1.2.1.2.2.1, m.1.2.1.2.2.2))), ((m.1.2.2.1.1, (m.1.2.2.1.2.1, m.1.2.2.1.2.2)), (m.1.2.2.2.1, (m.1.2.2.2.2.1, m.1.2.2.2.2.2))))), ((((m.2.1.1.1.1, m.2.1.1.1.2), (m.2.1.1.2.1, (m.2.1.1.2.2.1, m.2.1.1.2.2.2))), ((m.2.1.2.1.1, m.2.1.2.1.2), (m.2.1.2.2.1, (m.2.1.2.2.2.1, m.2.1.2.2.2.2)))), (((m.2.2.1.1.1, m.2.2.1.1.2), (m.2.2.1.2.1, (m.2.2.1.2.2.1, m.2.2.1.2.2.2))), ((m.2.2.2.1.1, (m.2.2.2.1.2.1, a')), (b', (c', m.2.2.2.2.2.2)))))) (Int32.ofNat i) (Int32.ofNat cn) := by
      intro pg' a' b' c' ns cost hC hM w3
      exact ih (j + 1) k lo f f' x2 pg' a' b' c' (by omega) kt (inv2 ns) fc nx (Or.inl (B2_le w3 (by omega))) hC hM
    rcases sr0 with ⟨so, ro⟩ | ⟨so, ro⟩ | ⟨so, ro⟩
    · have ro' : m.2.1.2.1.2 ((100 : Int32) * m.1.2.1.2.1 + (Int32.ofNat j)).toNatClampNeg = 30 := by rw [nn_ix hh (by omega)]; exact ro
      have njd := njd.resolve_left (by rw [ro]; decide)
      replace hC := hC.2 (by rw [so]; decide)
      replace hM := hM.1 ro'
      obtain ⟨pg1, a1, b1, c1, hC, hM, w3⟩ := dc_signal (m := m) (R := fun u => wp_Mo_write_L17 d dB KM pm f' u (Int32.ofNat i) (Int32.ofNat (j + 1))) tr0 hj mi so njd.2.2.1 w2 (by omega) hC hM
      exact decl (by rw [so]; decide) njd.2.2.2 hC hM w3
    · have ro' : m.2.1.2.1.2 ((100 : Int32) * m.1.2.1.2.1 + (Int32.ofNat j)).toNatClampNeg = 31 := by rw [nn_ix hh (by omega)]; exact ro
      have njd := njd.resolve_left (by rw [ro]; decide)
      replace hC := hC.2 (by rw [so]; decide)
      replace hM := (hM.2 (by rw [ro']; decide)).2.1 ro'
      obtain ⟨pg1, a1, b1, c1, hC, hM, w3⟩ := dc_output (m := m) (R := fun u => wp_Mo_write_L17 d dB KM pm f' u (Int32.ofNat i) (Int32.ofNat (j + 1))) tr0 hj mi so njd.2.2.1 w2 (by omega) hC hM
      exact decl (by rw [so]; decide) njd.2.2.2 hC hM w3
    · have ro' : m.2.1.2.1.2 ((100 : Int32) * m.1.2.1.2.1 + (Int32.ofNat j)).toNatClampNeg = 24 := by rw [nn_ix hh (by omega)]; exact ro
      obtain ⟨p, pn, esn, ek, ev⟩ := pa.2.2.2.2.2.2.2.2.2.2.2 j hj so
      obtain ⟨a0, ha0, ea0⟩ := List.getElem_of_mem (TA_asc ta0 pn ek)
      have a0t : a0 < t0 := (tp a0 ha0).mp (by rw [ea0]; exact ek)
      have na0 : ¬ a0 < k := fun z => by
        have := (inv a0 ha0 a0t).mp z
        rw [ea0, ev] at this
        omega
      have ka : k = a0 := by
        rcases Nat.lt_or_ge k a0 with q | q
        · have lt := FC_pw _ _ fc0 k a0 (by omega) ha0 q
          rw [ea0] at lt
          obtain ⟨t, h1, h2, -, h4⟩ := TA_step ta0 pn ek
          have := h4 _ lt ((tp k (by omega)).mpr (by omega))
          have := (inv k (by omega) (by omega)).mpr (by rw [ev] at h2; omega)
          omega
        · omega
      subst ka
      rw [List.drop_eq_getElem_cons ha0, ea0] at fc nx
      obtain ⟨fc1, fc2, fc3⟩ := fc
      obtain ⟨ex, nx⟩ := nx
      rw [ex] at hC
      replace hC := hC.1 so
      replace hM := (hM.2 (by rw [ro']; decide)).2.2 (by rw [ro']; decide)
      have fl3 := FC_le _ _ fc3
      have pl3 := TR_ps tr0 (i := p + 1) n (by omega) (Nat.le_refl _)
      obtain ⟨pg1, a1, b1, c1, hC, hM, w3⟩ := st_sim (m := m) (Y := PS (p + 1) + NS j) (R := fun u => wp_Mo_write_L17 d dB KM pm f' u (Int32.ofNat i) (Int32.ofNat (j + 1))) tr0 pn ek hj ev esn ro w2 (by rw [fc1]; omega) (by omega) hC hM
      replace hC := na_next ec n9 pn hC
      refine ih (j + 1) (k + 1) (p + 1) f f' _ pg1 a1 b1 c1 (by omega) (by omega) (fun q hq qt => ?_) fc3 nx (Or.inl (B2_le w3 (by omega))) hC hM
      obtain ⟨t, h1, h2, h3, h4⟩ := TA_step ta0 (asc_n fk (List.getElem_mem hq)) ((tp q hq).mpr qt)
      constructor
      · intro z
        rcases Nat.lt_or_ge q k with y | y
        · have := (inv q hq qt).mp y; omega
        · have eq : q = k := by omega
          subst eq
          rw [ea0, ev]; omega
      · intro z
        rcases Nat.lt_or_ge q (k + 1) with y | y
        · exact y
        · have lt := FC_pw _ _ fc0 k q ha0 hq (by omega)
          have := h4 _ lt (by rw [ea0]; exact ek)
          rw [ea0, ev] at this
          omega
theorem wr_skip {kw : T_Kw} {nm : T_Nm} {nd : T_Nd} {m : T_Mo} {n cn : Nat} {kf : Nat → List Nat} {asc : List Nat} {PS NS : Nat → Nat} (ta : TA nm nd m kw n cn kf asc PS NS) {i d dB t0 : Nat} {a b c : Int32} (i9 : i < 2147483648) (t0l : t0 ≤ asc.length) (tp : ∀ q (hq : q < asc.length), nd.1 asc[q] = 24 ↔ q < t0) {KM : T_Mo → Int32 → Int32 → Prop} {pm : Int32 → T_Mo → Prop} : ∀ (r k f' : Nat), t0 = k + r → wp_Mo_write_L144 d dB KM pm f' (((((m.1.1.1.1.1, m.1.1.1.1.2), (m.1.1.1.2.1, (m.1.1.1.2.2.1, m.1.1.1.2.2.2))), ((m.1.1.2.1.1, m.1.1.2.1.2), (m.1.1.2.2.1, (m.1.1.2.2.2.1, m.1.1.2.2.2.2)))), (((m.1.2.1.1.1, m.1.2.1.1.2), (m.1.2.1.2.1, (m.1.2.1.2.2.1, m.1.2.1.2.2.2))), ((m.1.2.2.1.1, (m.1.2.2.1.2.1, m.1.2.2.1.2.2)), (m.1.2.2.2.1, (m.1.2.2.2.2.1, m.1.2.2.2.2.2))))), ((((m.2.1.1.1.1, m.2.1.1.1.2), (m.2.1.1.2.1, (m.2.1.1.2.2.1, m.2.1.1.2.2.2))), ((m.2.1.2.1.1, m.2.1.2.1.2), (m.2.1.2.2.1, (m.2.1.2.2.2.1, m.2.1.2.2.2.2)))), (((m.2.2.1.1.1, m.2.2.1.1.2), (m.2.2.1.2.1, (m.2.2.1.2.2.1, m.2.2.1.2.2.2))), ((m.2.2.2.1.1, (m.2.2.2.1.2.1, a)), (b, (c, m.2.2.2.2.2.2)))))) (Int32.ofNat i) (Int32.ofNat k) → ∃ f2, wp_Mo_write_L144 d dB KM pm f2 (((((m.1.1.1.1.1, m.1.1.1.1.2), (m.1.1.1.2.1, (m.1.1.1.2.2.1, m.1.1.1.2.2.2))), ((m.1.1.2.1.1, m.1.1.2.1.2), (m.1.1.2.2.1, (m.1.1.2.2.2.1, m.1.1.2.2.2.2)))), (((m.1.2.1.1.1, m.1.2.1.1.2), (m.1.2.1.2.1, (m.1.2.1.2.2.1, m.1.2.1.2.2.2))), ((m.1.2.2.1.1, (m.1.2.2.1.2.1, m.1.2.2.1.2.2)), (m.1.2.2.2.1, (m.1.2.2.2.2.1, m.1.2.2.2.2.2))))), ((((m.2.1.1.1.1, m.2.1.1.1.2), (m.2.1.1.2.1, (m.2.1.1.2.2.1, m.2.1.1.2.2.2))), ((m.2.1.2.1.1, m.2.1.2.1.2), (m.2.1.2.2.1, (m.2.1.2.2.2.1, m.2.1.2.2.2.2)))), (((m.2.2.1.1.1, m.2.2.1.1.2), (m.2.2.1.2.1, (m.2.2.1.2.2.1, m.2.2.1.2.2.2))), ((m.2.2.2.1.1, (m.2.2.2.1.2.1, a)), (b, (c, m.2.2.2.2.2.2)))))) (Int32.ofNat i) (Int32.ofNat t0) := by
  obtain ⟨hh, f1, f2, n9, fper, f3, f4, f5, f6, f7⟩ := ta.1.1
  intro r
  induction r with
  | zero =>
    intro k f' hr h
    have e : t0 = k := by omega
    rw [e]; exact ⟨f', h⟩
  | succ r ih =>
    intro k f' hr h
    cases f' with
    | zero => exact False.elim h
    | succ f' =>
    have hk : k < asc.length := by omega
    have kn := asc_n ta.1.1 (List.getElem_mem hk)
    rw [wp_Mo_write_L144] at h
    dsimp only at h
    replace h := ((h.2 (by rw [f3, on_le (by omega) (by omega)]; omega)).2 (on_n1 i9).2.1).2
    unfold wp_Mo_node1 at h
    dsimp only at h
    rw [no_ix hh (show k < 1000 by omega), KL_get _ _ f5 k hk, no_ix hh (by omega), ← (fper _ kn).1, on_succ (by omega)] at h
    exact ih (k + 1) f' (by omega) (h.2.1 ((tp k hk).mpr (by omega)))
set_option maxHeartbeats 1000000 in
/-- the loop over the other tops, of both -/
theorem lo_loop {kw : T_Kw} {nm : T_Nm} {nd : T_Nd} {m : T_Mo} {n cn : Nat} {kf : Nat → List Nat} {asc : List Nat} {PS NS : Nat → Nat} (ta : TA nm nd m kw n cn kf asc PS NS) {i d dB t0 : Nat} (i9 : i < 2147483648) (tp : ∀ q (hq : q < asc.length), nd.1 asc[q] = 24 ↔ q < t0) {z1 : T_Pr} {KC : T_Pg → Int32 → Int32 → Prop} {pc : Unit → T_Pg → Prop} {KM : T_Mo → Int32 → Int32 → Prop} {pm : Int32 → T_Mo → Prop} : ∀ (r k s lo f f' : Nat) (x2 : Int32) (pg : T_Pg) (a b c : Int32), asc.length = k + r → t0 ≤ k → s ≤ k → FC nd.2.2.2.2.1 n lo (asc.drop k) → NX nd.2.2.2.2.2.2.2.2.1 x2 (asc.drop k) → (B2 i pg a b c (PS lo + NS cn) ∨ C2 i pg a b c (PS lo + NS cn)) → wp_Pg_lay_L87 z1 nm nd kw KC pc f pg x2 (Int32.ofNat s) → wp_Mo_write_L144 d dB KM pm f' (((((m.1.1.1.1.1, m.1.1.1.1.2), (m.1.1.1.2.1, (m.1.1.1.2.2.1, m.1.1.1.2.2.2))), ((m.1.1.2.1.1, m.1.1.2.1.2), (m.1.1.2.2.1, (m.1.1.2.2.2.1, m.1.1.2.2.2.2)))), (((m.1.2.1.1.1, m.1.2.1.1.2), (m.1.2.1.2.1, (m.1.2.1.2.2.1, m.1.2.1.2.2.2))), ((m.1.2.2.1.1, (m.1.2.2.1.2.1, m.1.2.2.1.2.2)), (m.1.2.2.2.1, (m.1.2.2.2.2.1, m.1.2.2.2.2.2))))), ((((m.2.1.1.1.1, m.2.1.1.1.2), (m.2.1.1.2.1, (m.2.1.1.2.2.1, m.2.1.1.2.2.2))), ((m.2.1.2.1.1, m.2.1.2.1.2), (m.2.1.2.2.1, (m.2.1.2.2.2.1, m.2.1.2.2.2.2)))), (((m.2.2.1.1.1, m.2.2.1.1.2), (m.2.2.1.2.1, (m.2.2.1.2.2.1, m.2.2.1.2.2.2))), ((m.2.2.2.1.1, (m.2.2.2.1.2.1, a)), (b, (c, m.2.2.2.2.2.2)))))) (Int32.ofNat i) (Int32.ofNat k) → ∃ pg' a' b' c' y1 y2, (B2 i pg' a' b' c' (PS n + NS cn) ∨ C2 i pg' a' b' c' (PS n + NS cn)) ∧ KC pg' y1 y2 ∧ KM (((((m.1.1.1.1.1, m.1.1.1.1.2), (m.1.1.1.2.1, (m.1.1.1.2.2.1, m.1.1.1.2.2.2))), ((m.1.1.2.1.1, m.1.1.2.1.2), (m.1.1.2.2.1, (m.1.1.2.2.2.1, m.1.1.2.2.2.2)))), (((m.1.2.1.1.1, m.1.2.1.1.2), (m.1.2.1.2.1, (m.1.2.1.2.2.1, m.1.2.1.2.2.2))), ((m.1.2.2.1.1, (m.1.2.2.1.2.1, m.1.2.2.1.2.2)), (m.1.2.2.2.1, (m.1.2.2.2.2.1, m.1.2.2.2.2.2))))), ((((m.2.1.1.1.1, m.2.1.1.1.2), (m.2.1.1.2.1, (m.2.1.1.2.2.1, m.2.1.1.2.2.2))), ((m.2.1.2.1.1, m.2.1.2.1.2), (m.2.1.2.2.1, (m.2.1.2.2.2.1, m.2.1.2.2.2.2)))), (((m.2.2.1.1.1, m.2.2.1.1.2), (m.2.2.1.2.1, (m.2.2.1.2.2.1, m.2.2.1.2.2.2))), ((m.2.2.2.1.1, (m.2.2.2.1.2.1, a')), (b', (c', m.2.2.2.2.2.2)))))) (Int32.ofNat i) (Int32.ofNat asc.length) := by
  have ta0 := ta
  obtain ⟨pa, tr, nj, tot, nx0, fc0⟩ := ta
  have tr0 := tr
  have fk := pa.1
  have fin := pa.2.1
  obtain ⟨hh, f1, f2, n9, fper, f3, f4, f5, f6, f7⟩ := pa.1
  intro r
  induction r with
  | zero =>
    intro k s lo f f' x2 pg a b c hr kt sk fc nx w2 hC hM
    have ek : asc.length = k := by omega
    rw [List.drop_eq_nil_of_le (by omega)] at fc nx
    have fc : lo = n := fc
    have nx : x2 = -1 := nx
    subst fc
    cases f with
    | zero => exact False.elim hC
    | succ f =>
    cases f' with
    | zero => exact False.elim hM
    | succ f' =>
    rw [wp_Pg_lay_L87] at hC
    rw [wp_Mo_write_L144] at hM
    dsimp only at hM
    replace hM := hM.1 (by rw [f3, ek]; exact Int32.le_refl _)
    refine ⟨pg, a, b, c, x2, (Int32.ofNat s), w2, ?_, by rw [ek]; exact hM⟩
    rcases br_el hC with ⟨q, hC⟩ | ⟨q, hC⟩
    · exact hC
    · exact hC.1 nx
  | succ r ih =>
    intro k s lo f f' x2 pg a b c hr kt sk fc nx w2 hC hM
    have hk : k < asc.length := by omega
    have kn := asc_n fk (List.getElem_mem hk)
    have kd : 10 ≤ nd.1 asc[k] ∧ nd.1 asc[k] ≤ 22 := (top_of fin fk (List.getElem_mem hk)).resolve_right (fun z => by have := (tp k hk).mp z; omega)
    rw [List.drop_eq_getElem_cons hk] at fc nx
    obtain ⟨fc1, fc2, fc3⟩ := fc
    obtain ⟨ex, nx⟩ := nx
    rw [ex] at hC
    have fl3 := FC_le _ _ fc3
    have pl3 := TR_ps tr0 (i := asc[k] + 1) n (by omega) (Nat.le_refl _)
    cases f with
    | zero => exact False.elim hC
    | succ f =>
    cases f' with
    | zero => exact False.elim hM
    | succ f' =>
    rw [wp_Pg_lay_L87] at hC
    replace hC := (hC.2 (lt1000 (by omega))).2 (on_n1 (by omega)).1
    rw [on_succ (by omega)] at hC
    rw [wp_Mo_write_L144] at hM
    dsimp only at hM
    replace hM := ((hM.2 (by rw [f3, on_le (by omega) (by omega)]; omega)).2 (on_n1 i9).2.1).2
    unfold wp_Mo_node1 at hM
    dsimp only at hM
    rw [no_ix hh (show k < 1000 by omega), KL_get _ _ f5 k hk, no_ix hh (by omega), ← (fper _ kn).1, on_succ (by omega)] at hM
    replace hM := hM.2.2 (fun z => by have := (tp k hk).mp z; omega)
    obtain ⟨pg1, a1, b1, c1, hC, hM, w3⟩ := ot_sim (m := m) (Y := PS (asc[k] + 1) + NS cn) tr0 kn kd.1 kd.2 w2 (by rw [fc1]; omega) (by omega) hC hM
    replace hC := na_next f1 n9 kn hC
    exact ih (k + 1) (s + 1) (asc[k] + 1) f f' _ pg1 a1 b1 c1 (by omega) (by omega) (by omega) fc3 nx (Or.inl w3) hC hM
set_option maxHeartbeats 1000000 in
/-- the page is what the reference writes -/
theorem lay_sim {kw : T_Kw} {nm : T_Nm} {nd : T_Nd} {m : T_Mo} {n cn : Nat} {kf : Nat → List Nat} {asc : List Nat} {PS NS : Nat → Nat} (ta : TA nm nd m kw n cn kf asc PS NS) {i d dB : Nat} {z1 : T_Pr} {pg : T_Pg} {P : Unit → T_Pg → Prop} {PM : Int32 → T_Mo → Prop} (i9 : i < 2147483648) (hC : wp_Pg_lay z1 nm nd pg kw P) (hM : wp_Mo_write d dB m (Int32.ofNat i) PM) : ∃ pg' l w f b, P () pg' ∧ PM f (((((m.1.1.1.1.1, m.1.1.1.1.2), (m.1.1.1.2.1, (m.1.1.1.2.2.1, m.1.1.1.2.2.2))), ((m.1.1.2.1.1, m.1.1.2.1.2), (m.1.1.2.2.1, (m.1.1.2.2.2.1, m.1.1.2.2.2.2)))), (((m.1.2.1.1.1, m.1.2.1.1.2), (m.1.2.1.2.1, (m.1.2.1.2.2.1, m.1.2.1.2.2.2))), ((m.1.2.2.1.1, (m.1.2.2.1.2.1, m.1.2.2.1.2.2)), (m.1.2.2.2.1, (m.1.2.2.2.2.1, m.1.2.2.2.2.2))))), ((((m.2.1.1.1.1, m.2.1.1.1.2), (m.2.1.1.2.1, (m.2.1.1.2.2.1, m.2.1.1.2.2.2))), ((m.2.1.2.1.1, m.2.1.2.1.2), (m.2.1.2.2.1, (m.2.1.2.2.2.1, m.2.1.2.2.2.2)))), (((m.2.2.1.1.1, m.2.2.1.1.2), (m.2.2.1.2.1, (m.2.2.1.2.2.1, m.2.2.1.2.2.2))), ((m.2.2.2.1.1, (m.2.2.2.1.2.1, w)), (f, (b, m.2.2.2.2.2.2)))))) ∧ PG pg' l ∧ f = (l[i]?).getD (-1) := by
  have ta0 := ta
  obtain ⟨pa, tr, nj, tot, nx0, fc0⟩ := ta
  obtain ⟨t1, ht1⟩ := tp_step pa.1 pa.2.2.1
  have tp : ∀ q (hq : q < asc.length), nd.1 asc[q] = 24 ↔ q < min t1 asc.length := fun q hq => (ht1 q hq).trans ⟨fun z => by omega, fun z => by omega⟩
  have t0l : min t1 asc.length ≤ asc.length := by omega
  generalize min t1 asc.length = t0 at tp t0l
  unfold wp_Pg_lay wp_Pr_names wp_Pr_nodes wp_Nd_firstOf at hC
  obtain ⟨f, hC⟩ := hC.1 rfl
  unfold wp_Mo_write at hM
  obtain ⟨f', hM⟩ := hM
  have st : C2 i (pg.1, (0 : Int32)) (Int32.ofNat i) (-1) 0 (PS 0 + NS 0) := ⟨[], ⟨⟨rfl, by show 0 ≤ 12000; omega, fun j hj => absurd hj (Nat.not_lt_zero _)⟩, ⟨by rw [on_toInt i9]; show (i : Int) = (i : Int) - 0; omega, by rfl, by show 0 ≤ 100000; omega, i9⟩, rfl, rfl⟩, Nat.zero_le _⟩
  obtain ⟨pg1, a1, b1, c1, lo, x2, fc, nx, w2, ⟨f2, hC⟩, ⟨f3, hM⟩⟩ := ln_loop ta0 i9 t0l tp cn 0 0 0 f f' nd.2.2.2.2.2.2.2.2.2.2.2.1 (pg.1, (0 : Int32)) (Int32.ofNat i) (-1) 0 (by omega) (Nat.zero_le _) (fun q hq qt => ⟨fun z => absurd z (Nat.not_lt_zero _), fun z => by
    obtain ⟨t, -, h2, -⟩ := TA_step ta0 (asc_n pa.1 (List.getElem_mem hq)) ((tp q hq).mpr qt)
    rw [h2] at z
    have z : (t : Int) < ((0 : Nat) : Int) := z
    omega⟩) (by rw [List.drop_zero]; exact fc0) (by rw [List.drop_zero]; exact nx0) (Or.inr st) hC hM
  obtain ⟨f4, hM⟩ := wr_skip ta0 i9 t0l tp t0 0 f3 (by omega) hM
  obtain ⟨pg2, a2, b2, c2, y1, y2, w3, hC, hM⟩ := lo_loop ta0 i9 tp (asc.length - t0) t0 0 lo f2 f4 x2 pg1 a1 b1 c1 (by omega) (Nat.le_refl _) (Nat.zero_le _) fc nx w2 hC hM
  obtain ⟨pg3, hC, l, ⟨j1, j2, j3, j4⟩, -⟩ := t_line w3 tot hC
  obtain ⟨e1, e2, e3, e4⟩ := j2
  exact ⟨pg3, l, a2, b2, c2, hC, hM, j1, e2⟩
theorem by_at {pg : T_Pg} {l : List Int32} {i : Nat} {P : Int32 → Unit → Prop} (g : PG pg l) (i9 : i < 2147483648) (h : wp_Pg_byteAt pg (Int32.ofNat i) P) : P ((l[i]?).getD (-1)) () := by
  obtain ⟨g1, g2, g3⟩ := g
  unfold wp_Pg_byteAt at h
  replace h := h.2 (on_n1 i9).2.1
  rw [show pg.2 = pg.2 from rfl, g1] at h
  rcases Nat.lt_or_ge i l.length with q | q
  · have h := ((h.2 (by rw [on_le (by omega) (by omega)]; omega)).2 (by rw [show (12000 : Int32) = Int32.ofNat 12000 from rfl, on_le (by omega) (by omega)]; omega)).2
    rw [ix_on (by omega)] at h
    have e := g3 i q
    rw [List.getElem?_eq_getElem q]
    show P l[i] ()
    rw [← e]; exact h
  · rw [List.getElem?_eq_none q]
    exact h.1 (by rw [on_le (by omega) (by omega)]; exact q)
/-- the page is what laying the shown program leaves -/
def PTD (kw : T_Kw) (nm : T_Nm) (nd : T_Nd) (pg : T_Pg) : Prop := ∃ (z1 : T_Pr) (pg0 : T_Pg), wp_Pg_lay z1 nm nd pg0 kw (fun (_ : Unit) (x : T_Pg) => x = pg)
set_option maxHeartbeats 1000000 in
theorem rl_write {kw : T_Kw} {nm : T_Nm} {nd : T_Nd} {m : T_Mo} {st : T_St} {pg : T_Pg} {z1 : T_Pr} {d dB : Nat} {x : Int32} {PC : Int32 → T_St × T_Pg × Nat × Nat → Prop} {PM : Int32 → T_Mo → Prop} (kz : KWz kw) (fn : FN nm nd m) (fin : Fin m) (sf : SF m) (fu : FU nm nd) (pf : PF m) (pt : ¬ st.1 = 0 → PTD kw nm nd pg) (hC : wp_St_write st pg z1 nm nd kw x PC) (hM : wp_Mo_write d dB m x PM) : ∃ r u w f b, PC r u ∧ PM r (((((m.1.1.1.1.1, m.1.1.1.1.2), (m.1.1.1.2.1, (m.1.1.1.2.2.1, m.1.1.1.2.2.2))), ((m.1.1.2.1.1, m.1.1.2.1.2), (m.1.1.2.2.1, (m.1.1.2.2.2.1, m.1.1.2.2.2.2)))), (((m.1.2.1.1.1, m.1.2.1.1.2), (m.1.2.1.2.1, (m.1.2.1.2.2.1, m.1.2.1.2.2.2))), ((m.1.2.2.1.1, (m.1.2.2.1.2.1, m.1.2.2.1.2.2)), (m.1.2.2.2.1, (m.1.2.2.2.2.1, m.1.2.2.2.2.2))))), ((((m.2.1.1.1.1, m.2.1.1.1.2), (m.2.1.1.2.1, (m.2.1.1.2.2.1, m.2.1.1.2.2.2))), ((m.2.1.2.1.1, m.2.1.2.1.2), (m.2.1.2.2.1, (m.2.1.2.2.2.1, m.2.1.2.2.2.2)))), (((m.2.2.1.1.1, m.2.2.1.1.2), (m.2.2.1.2.1, (m.2.2.1.2.2.1, m.2.2.1.2.2.2))), ((m.2.2.2.1.1, (m.2.2.2.1.2.1, w)), (f, (b, m.2.2.2.2.2.2)))))) ∧ (¬ u.1.1 = 0 → PTD kw nm nd u.2.1) := by
  obtain ⟨n, cn, kf, asc, pa⟩ := PA_of fn fin sf fu
  obtain ⟨PS, NS, ta⟩ := TA_of pa fn pf kz
  have page : ∃ st' pg' z, PTD kw nm nd pg' ∧ wp_Pg_byteAt pg' x (fun (r : Int32) (_ : Unit) => PC r (st', pg', z)) := by
    unfold wp_St_write at hC
    rcases br_el hC with ⟨q, hC⟩ | ⟨q, hC⟩
    · obtain ⟨r, u, A, B⟩ := dt_Pg_lay hC
      exact ⟨_, u, _, ⟨z1, pg, A _ rfl⟩, B _ hC⟩
    · exact ⟨_, pg, _, pt q, hC⟩
  obtain ⟨st', pg', z, ⟨z2, pg0, ptd⟩, hC⟩ := page
  rcases Classical.em (x < 0) with q | q
  · unfold wp_Pg_byteAt at hC
    unfold wp_Mo_write at hM
    obtain ⟨f, hM⟩ := hM
    cases f with
    | zero => exact False.elim hM
    | succ f =>
    rw [wp_Mo_write_L17] at hM
    have hM : ∃ k9, wp_Mo_write_L144 d dB (fun (z_this : T_Mo) (_ : Int32) (_ : Int32) => PM z_this.2.2.2.2.1 z_this) PM k9 (((((m.1.1.1.1.1, m.1.1.1.1.2), (m.1.1.1.2.1, (m.1.1.1.2.2.1, m.1.1.1.2.2.2))), ((m.1.1.2.1.1, m.1.1.2.1.2), (m.1.1.2.2.1, (m.1.1.2.2.2.1, m.1.1.2.2.2.2)))), (((m.1.2.1.1.1, m.1.2.1.1.2), (m.1.2.1.2.1, (m.1.2.1.2.2.1, m.1.2.1.2.2.2))), ((m.1.2.2.1.1, (m.1.2.2.1.2.1, m.1.2.2.1.2.2)), (m.1.2.2.2.1, (m.1.2.2.2.2.1, m.1.2.2.2.2.2))))), ((((m.2.1.1.1.1, m.2.1.1.1.2), (m.2.1.1.2.1, (m.2.1.1.2.2.1, m.2.1.1.2.2.2))), ((m.2.1.2.1.1, m.2.1.2.1.2), (m.2.1.2.2.1, (m.2.1.2.2.2.1, m.2.1.2.2.2.2)))), (((m.2.2.1.1.1, m.2.2.1.1.2), (m.2.2.1.2.1, (m.2.2.1.2.2.1, m.2.2.1.2.2.2))), ((m.2.2.2.1.1, (m.2.2.2.1.2.1, x)), ((-1 : Int32), ((0 : Int32), m.2.2.2.2.2.2)))))) x (0 : Int32) := by
      rcases br_el hM with ⟨y, hM⟩ | ⟨y, hM⟩
      · exact hM
      · exact hM.1 q
    obtain ⟨f2, hM⟩ := hM
    cases f2 with
    | zero => exact False.elim hM
    | succ f2 =>
    rw [wp_Mo_write_L144] at hM
    refine ⟨-1, _, x, -1, 0, hC.1 q, ?_, fun _ => ⟨z2, pg0, ptd⟩⟩
    rcases br_el hM with ⟨y, hM⟩ | ⟨y, hM⟩
    · exact hM
    · exact hM.1 q
  · have x0 : (0 : Int32) ≤ x := Int32.not_lt.mp q
    have ex : x = Int32.ofNat x.toNatClampNeg := (on_ix x0).symm
    have x9 : x.toNatClampNeg < 2147483648 := by
      have := Int32.toInt_lt x
      have h0 := Int32.le_iff_toInt_le.mp x0
      show x.toInt.toNat < _
      omega
    rw [ex] at hM hC
    obtain ⟨pg2, l, w, f, b, e, hM, g, ef⟩ := lay_sim ta x9 ptd hM
    subst e
    have hC := by_at g x9 hC
    rw [← ef] at hC
    exact ⟨_, _, w, f, b, hC, hM, fun _ => ⟨z2, pg0, ptd⟩⟩

