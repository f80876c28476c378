theorem pb_none {kw : T_Kw} {nd : T_Nd} {n k p : Nat} {pg : T_Pg} {v : Int32} {P : Unit → T_Pg → Prop} (ec : nd.2.2.2.2.2.2.2.2.2.2.1 = Int32.ofNat n) (n9 : n ≤ 1000) (hk : k < n) (hp : p < n) (ep : nd.2.2.2.2.2.2.1 k = (Int32.ofNat p)) (ev : nd.1 p = v) (v0 : ¬ v < 0) (v9 : 9 < v) (v13 : ¬ v = 13) (k23 : nd.1 k = 23 → ¬ v = 15 ∧ ¬ v = 17) (h : wp_Pg_putBehind pg kw nd (Int32.ofNat k) P) : P () pg := by
  unfold wp_Pg_putBehind at h
  replace h := na_par ec n9 hk h
  rw [ep] at h
  replace h := na_kind ec n9 hk (na_kind ec n9 hp h)
  rw [ev] at h
  rcases br_el h with ⟨q, h⟩ | ⟨q, h⟩
  · have k23 := k23 q
    exact ((((h.2 v0).1 v9).2 v13).2 k23.1).2 k23.2
  · replace h := ((h.2 v0).1 v9).2 v13
    rcases br_el h with ⟨q5, h⟩ | ⟨q5, h⟩
    · replace h := h.1 rfl
      exact h.2 (by rw [q5]; decide)
    · rcases br_el h with ⟨q7, h⟩ | ⟨q7, h⟩
      · exact h.1 rfl
      · exact h
theorem pb_in {kw : T_Kw} {nd : T_Nd} {n k p : Nat} {pg : T_Pg} {P : Unit → T_Pg → Prop} (ec : nd.2.2.2.2.2.2.2.2.2.2.1 = Int32.ofNat n) (n9 : n ≤ 1000) (hk : k < n) (hp : p < n) (ep : nd.2.2.2.2.2.2.1 k = (Int32.ofNat p)) (ev : nd.1 p = 13) (h : wp_Pg_putBehind pg kw nd (Int32.ofNat k) P) : wp_Kw_lettersOf kw (216 : Int32) (fun (r : Int64) (_ : Unit) => wp_Pg_putLetters pg r (fun (_ : Unit) (u : T_Pg) => P () u)) := by
  unfold wp_Pg_putBehind at h
  replace h := na_par ec n9 hk h
  rw [ep] at h
  replace h := na_kind ec n9 hk (na_kind ec n9 hp h)
  rw [ev] at h
  rcases br_el h with ⟨q, h⟩ | ⟨q, h⟩
  · exact ((h.2 (by decide)).1 (by decide)).1 rfl
  · exact ((h.2 (by decide)).1 (by decide)).1 rfl
theorem pb_else {kw : T_Kw} {nd : T_Nd} {n k p : Nat} {pg : T_Pg} {P : Unit → T_Pg → Prop} (ec : nd.2.2.2.2.2.2.2.2.2.2.1 = Int32.ofNat n) (n9 : n ≤ 1000) (hk : k < n) (hp : p < n) (ep : nd.2.2.2.2.2.2.1 k = (Int32.ofNat p)) (ev : nd.1 p = 15) (ek : nd.1 k = 23) (h : wp_Pg_putBehind pg kw nd (Int32.ofNat k) P) : wp_Kw_lettersOf kw (217 : Int32) (fun (r : Int64) (_ : Unit) => wp_Pg_putLetters pg r (fun (_ : Unit) (u : T_Pg) => P () u)) := by
  unfold wp_Pg_putBehind at h
  replace h := na_par ec n9 hk h
  rw [ep] at h
  replace h := na_kind ec n9 hk (na_kind ec n9 hp h)
  rw [ev] at h
  exact (((((h.1 ek).2 (by decide)).1 (by decide)).2 (by decide)).1 rfl).2 (by decide)
theorem pb_then {kw : T_Kw} {nd : T_Nd} {n k p : Nat} {pg : T_Pg} {P : Unit → T_Pg → Prop} (ec : nd.2.2.2.2.2.2.2.2.2.2.1 = Int32.ofNat n) (n9 : n ≤ 1000) (hk : k < n) (hp : p < n) (ep : nd.2.2.2.2.2.2.1 k = (Int32.ofNat p)) (ev : nd.1 p = 17) (ek : nd.1 k = 23) (h : wp_Pg_putBehind pg kw nd (Int32.ofNat k) P) : wp_Kw_lettersOf kw (218 : Int32) (fun (r : Int64) (_ : Unit) => wp_Pg_putLetters pg r (fun (_ : Unit) (u : T_Pg) => P () u)) := by
  unfold wp_Pg_putBehind at h
  replace h := na_par ec n9 hk h
  rw [ep] at h
  replace h := na_kind ec n9 hk (na_kind ec n9 hp h)
  rw [ev] at h
  exact ((((((h.1 ek).2 (by decide)).1 (by decide)).2 (by decide)).2 (by decide)).1 rfl).2 (by decide)
set_option maxHeartbeats 1000000 in
theorem stw_set {kw : T_Kw} {nm : T_Nm} {nd : T_Nd} {m : T_Mo} {n cn : Nat} {kf : Nat → List Nat} {PS : Nat → Nat} (tr : TR nm nd m kw n cn kf PS) {i X k dd tail d : Nat} {pg : T_Pg} {a b c : Int32} {rf : T_Mo → Int32 → (Unit → T_Mo → Prop) → Prop} {P : Unit → T_Pg → Prop} {Q : Unit → T_Mo → Prop} (hk : k < n) (e : nd.1 k = 10) {j : Nat} (hj : j < cn) (ev : (nd.2.2.1 k).toInt = (j : Int)) (hd : 4 + ((m.2.1.2.1.1 (Ns ((1 : Int32) - m.1.2.1.2.1) + j)).toNatClampNeg + 1) + tail ≤ dd) (w2 : B2 i pg a b c X ∨ C2 i pg a b c X) (r : X + dd ≤ 12000) (hC : wp_Pg_enter pg kw nm nd (Int32.ofNat k) P) (hM : wp_Mo_statementOut d rf (((((m.1.1.1.1.1, m.1.1.1.1.2), (m.1.1.1.2.1, (m.1.1.1.2.2.1, m.1.1.1.2.2.2))), ((m.1.1.2.1.1, m.1.1.2.1.2), (m.1.1.2.2.1, (m.1.1.2.2.2.1, m.1.1.2.2.2.2)))), (((m.1.2.1.1.1, m.1.2.1.1.2), (m.1.2.1.2.1, (m.1.2.1.2.2.1, m.1.2.1.2.2.2))), ((m.1.2.2.1.1, (m.1.2.2.1.2.1, m.1.2.2.1.2.2)), (m.1.2.2.2.1, (m.1.2.2.2.2.1, m.1.2.2.2.2.2))))), ((((m.2.1.1.1.1, m.2.1.1.1.2), (m.2.1.1.2.1, (m.2.1.1.2.2.1, m.2.1.1.2.2.2))), ((m.2.1.2.1.1, m.2.1.2.1.2), (m.2.1.2.2.1, (m.2.1.2.2.2.1, m.2.1.2.2.2.2)))), (((m.2.2.1.1.1, m.2.2.1.1.2), (m.2.2.1.2.1, (m.2.2.1.2.2.1, m.2.2.1.2.2.2))), ((m.2.2.2.1.1, (m.2.2.2.1.2.1, a)), (b, (c, m.2.2.2.2.2.2)))))) (Int32.ofNat k) Q) : ∃ pg' a' b' X', P () pg' ∧ wp_Mo_statementOut_J286 d rf Q (((((m.1.1.1.1.1, m.1.1.1.1.2), (m.1.1.1.2.1, (m.1.1.1.2.2.1, m.1.1.1.2.2.2))), ((m.1.1.2.1.1, m.1.1.2.1.2), (m.1.1.2.2.1, (m.1.1.2.2.2.1, m.1.1.2.2.2.2)))), (((m.1.2.1.1.1, m.1.2.1.1.2), (m.1.2.1.2.1, (m.1.2.1.2.2.1, m.1.2.1.2.2.2))), ((m.1.2.2.1.1, (m.1.2.2.1.2.1, m.1.2.2.1.2.2)), (m.1.2.2.2.1, (m.1.2.2.2.2.1, m.1.2.2.2.2.2))))), ((((m.2.1.1.1.1, m.2.1.1.1.2), (m.2.1.1.2.1, (m.2.1.1.2.2.1, m.2.1.1.2.2.2))), ((m.2.1.2.1.1, m.2.1.2.1.2), (m.2.1.2.2.1, (m.2.1.2.2.2.1, m.2.1.2.2.2.2)))), (((m.2.2.1.1.1, m.2.2.1.1.2), (m.2.2.1.2.1, (m.2.2.1.2.2.1, m.2.2.1.2.2.2))), ((m.2.2.2.1.1, (m.2.2.2.1.2.1, a')), (b', ((1 : Int32), m.2.2.2.2.2.2)))))) (Int32.ofNat k) (nd.1 k) (Int32.ofNat (kf k).length) ∧ A2 i pg' a' b' 1 X' ∧ X' + tail ≤ X + dd := by
  obtain ⟨hh, kz, ec, n9, em, c9, per, nam⟩ := tr
  obtain ⟨t1, t2, t3, ⟨q0, q1, q2, q3, q4⟩, -⟩ := per k hk
  unfold wp_Mo_statementOut wp_Mo_node1 at hM
  dsimp only at hM
  replace hM := hM.2.2
  rw [no_ix hh (by omega), ← t1, q2, e] at hM
  replace hM := hM.1 rfl
  replace hC := en_s ec n9 hk (by rw [e]; decide) (by rw [e]; decide) hC
  unfold wp_Pg_beginStatement wp_Nd_subjectOf at hC
  replace hC := na_kind ec n9 hk hC
  rw [e] at hC
  obtain ⟨pg1, hC, w1⟩ := t_line w2 (by omega) hC
  replace hC := hC.2 (by decide)
  rw [show ((10 : Int32) - (10 : Int32)) + (200 : Int32) = (200 : Int32) from by decide] at hC
  obtain ⟨pg2, a2, b2, hC, hM, w3⟩ := tk_set (m := m) kz (C2_W w1) (by omega) hC hM
  replace hC := hC.1 rfl
  replace hC := na_val ec n9 hk hC
  rw [v_nat ev (by omega)] at hC
  replace hC := na_let em c9 hj hC
  dsimp only at hM
  replace hM := hM.2
  rw [no_ix hh (by omega), ← t2] at hM
  obtain ⟨y1, y2, y3, y4, y5⟩ := nam j hj
  obtain ⟨pg3, a3, b3, hC, hM, w4⟩ := t_name (m := m) hh (A2_W w3) (by omega) ev y2 y3 y4 y5 y1 (by omega) hC hM
  rw [e]
  exact ⟨pg3, a3, b3, _, hC, hM, w4, by omega⟩
set_option maxHeartbeats 1000000 in
theorem stw_wait {kw : T_Kw} {nm : T_Nm} {nd : T_Nd} {m : T_Mo} {n cn : Nat} {kf : Nat → List Nat} {PS : Nat → Nat} (tr : TR nm nd m kw n cn kf PS) {i X k dd tail d : Nat} {pg : T_Pg} {a b c : Int32} {rf : T_Mo → Int32 → (Unit → T_Mo → Prop) → Prop} {P : Unit → T_Pg → Prop} {Q : Unit → T_Mo → Prop} (hk : k < n) (e : nd.1 k = 11) (hd : 5 + tail ≤ dd) (w2 : B2 i pg a b c X ∨ C2 i pg a b c X) (r : X + dd ≤ 12000) (hC : wp_Pg_enter pg kw nm nd (Int32.ofNat k) P) (hM : wp_Mo_statementOut d rf (((((m.1.1.1.1.1, m.1.1.1.1.2), (m.1.1.1.2.1, (m.1.1.1.2.2.1, m.1.1.1.2.2.2))), ((m.1.1.2.1.1, m.1.1.2.1.2), (m.1.1.2.2.1, (m.1.1.2.2.2.1, m.1.1.2.2.2.2)))), (((m.1.2.1.1.1, m.1.2.1.1.2), (m.1.2.1.2.1, (m.1.2.1.2.2.1, m.1.2.1.2.2.2))), ((m.1.2.2.1.1, (m.1.2.2.1.2.1, m.1.2.2.1.2.2)), (m.1.2.2.2.1, (m.1.2.2.2.2.1, m.1.2.2.2.2.2))))), ((((m.2.1.1.1.1, m.2.1.1.1.2), (m.2.1.1.2.1, (m.2.1.1.2.2.1, m.2.1.1.2.2.2))), ((m.2.1.2.1.1, m.2.1.2.1.2), (m.2.1.2.2.1, (m.2.1.2.2.2.1, m.2.1.2.2.2.2)))), (((m.2.2.1.1.1, m.2.2.1.1.2), (m.2.2.1.2.1, (m.2.2.1.2.2.1, m.2.2.1.2.2.2))), ((m.2.2.2.1.1, (m.2.2.2.1.2.1, a)), (b, (c, m.2.2.2.2.2.2)))))) (Int32.ofNat k) Q) : ∃ pg' a' b' X', P () pg' ∧ wp_Mo_statementOut_J286 d rf Q (((((m.1.1.1.1.1, m.1.1.1.1.2), (m.1.1.1.2.1, (m.1.1.1.2.2.1, m.1.1.1.2.2.2))), ((m.1.1.2.1.1, m.1.1.2.1.2), (m.1.1.2.2.1, (m.1.1.2.2.2.1, m.1.1.2.2.2.2)))), (((m.1.2.1.1.1, m.1.2.1.1.2), (m.1.2.1.2.1, (m.1.2.1.2.2.1, m.1.2.1.2.2.2))), ((m.1.2.2.1.1, (m.1.2.2.1.2.1, m.1.2.2.1.2.2)), (m.1.2.2.2.1, (m.1.2.2.2.2.1, m.1.2.2.2.2.2))))), ((((m.2.1.1.1.1, m.2.1.1.1.2), (m.2.1.1.2.1, (m.2.1.1.2.2.1, m.2.1.1.2.2.2))), ((m.2.1.2.1.1, m.2.1.2.1.2), (m.2.1.2.2.1, (m.2.1.2.2.2.1, m.2.1.2.2.2.2)))), (((m.2.2.1.1.1, m.2.2.1.1.2), (m.2.2.1.2.1, (m.2.2.1.2.2.1, m.2.2.1.2.2.2))), ((m.2.2.2.1.1, (m.2.2.2.1.2.1, a')), (b', ((1 : Int32), m.2.2.2.2.2.2)))))) (Int32.ofNat k) (nd.1 k) (Int32.ofNat (kf k).length) ∧ A2 i pg' a' b' 1 X' ∧ X' + tail ≤ X + dd := by
  obtain ⟨hh, kz, ec, n9, em, c9, per, nam⟩ := tr
  obtain ⟨t1, t2, t3, ⟨q0, q1, q2, q3, q4⟩, -⟩ := per k hk
  unfold wp_Mo_statementOut wp_Mo_node1 at hM
  dsimp only at hM
  replace hM := hM.2.2
  rw [no_ix hh (by omega), ← t1, q2, e] at hM
  replace hM := hM.2.1 rfl
  replace hC := en_s ec n9 hk (by rw [e]; decide) (by rw [e]; decide) hC
  unfold wp_Pg_beginStatement wp_Nd_subjectOf at hC
  replace hC := na_kind ec n9 hk hC
  rw [e] at hC
  obtain ⟨pg1, hC, w1⟩ := t_line w2 (by omega) hC
  replace hC := hC.2 (by decide)
  rw [show ((11 : Int32) - (10 : Int32)) + (200 : Int32) = (201 : Int32) from by decide] at hC
  obtain ⟨pg2, a2, b2, hC, hM, w3⟩ := tk_wait (m := m) kz (C2_W w1) (by omega) hC hM
  replace hC := hC.2.2.2.2.2.2 ⟨by decide, by decide, by decide, by decide, by decide, by decide⟩
  rw [e]
  exact ⟨pg2, a2, b2, _, hC, hM, w3, by omega⟩
set_option maxHeartbeats 1000000 in
theorem stw_until {kw : T_Kw} {nm : T_Nm} {nd : T_Nd} {m : T_Mo} {n cn : Nat} {kf : Nat → List Nat} {PS : Nat → Nat} (tr : TR nm nd m kw n cn kf PS) {i X k dd tail d : Nat} {pg : T_Pg} {a b c : Int32} {rf : T_Mo → Int32 → (Unit → T_Mo → Prop) → Prop} {P : Unit → T_Pg → Prop} {Q : Unit → T_Mo → Prop} (hk : k < n) (e : nd.1 k = 12) (hd : 6 + tail ≤ dd) (w2 : B2 i pg a b c X ∨ C2 i pg a b c X) (r : X + dd ≤ 12000) (hC : wp_Pg_enter pg kw nm nd (Int32.ofNat k) P) (hM : wp_Mo_statementOut d rf (((((m.1.1.1.1.1, m.1.1.1.1.2), (m.1.1.1.2.1, (m.1.1.1.2.2.1, m.1.1.1.2.2.2))), ((m.1.1.2.1.1, m.1.1.2.1.2), (m.1.1.2.2.1, (m.1.1.2.2.2.1, m.1.1.2.2.2.2)))), (((m.1.2.1.1.1, m.1.2.1.1.2), (m.1.2.1.2.1, (m.1.2.1.2.2.1, m.1.2.1.2.2.2))), ((m.1.2.2.1.1, (m.1.2.2.1.2.1, m.1.2.2.1.2.2)), (m.1.2.2.2.1, (m.1.2.2.2.2.1, m.1.2.2.2.2.2))))), ((((m.2.1.1.1.1, m.2.1.1.1.2), (m.2.1.1.2.1, (m.2.1.1.2.2.1, m.2.1.1.2.2.2))), ((m.2.1.2.1.1, m.2.1.2.1.2), (m.2.1.2.2.1, (m.2.1.2.2.2.1, m.2.1.2.2.2.2)))), (((m.2.2.1.1.1, m.2.2.1.1.2), (m.2.2.1.2.1, (m.2.2.1.2.2.1, m.2.2.1.2.2.2))), ((m.2.2.2.1.1, (m.2.2.2.1.2.1, a)), (b, (c, m.2.2.2.2.2.2)))))) (Int32.ofNat k) Q) : ∃ pg' a' b' X', P () pg' ∧ wp_Mo_statementOut_J286 d rf Q (((((m.1.1.1.1.1, m.1.1.1.1.2), (m.1.1.1.2.1, (m.1.1.1.2.2.1, m.1.1.1.2.2.2))), ((m.1.1.2.1.1, m.1.1.2.1.2), (m.1.1.2.2.1, (m.1.1.2.2.2.1, m.1.1.2.2.2.2)))), (((m.1.2.1.1.1, m.1.2.1.1.2), (m.1.2.1.2.1, (m.1.2.1.2.2.1, m.1.2.1.2.2.2))), ((m.1.2.2.1.1, (m.1.2.2.1.2.1, m.1.2.2.1.2.2)), (m.1.2.2.2.1, (m.1.2.2.2.2.1, m.1.2.2.2.2.2))))), ((((m.2.1.1.1.1, m.2.1.1.1.2), (m.2.1.1.2.1, (m.2.1.1.2.2.1, m.2.1.1.2.2.2))), ((m.2.1.2.1.1, m.2.1.2.1.2), (m.2.1.2.2.1, (m.2.1.2.2.2.1, m.2.1.2.2.2.2)))), (((m.2.2.1.1.1, m.2.2.1.1.2), (m.2.2.1.2.1, (m.2.2.1.2.2.1, m.2.2.1.2.2.2))), ((m.2.2.2.1.1, (m.2.2.2.1.2.1, a')), (b', ((1 : Int32), m.2.2.2.2.2.2)))))) (Int32.ofNat k) (nd.1 k) (Int32.ofNat (kf k).length) ∧ A2 i pg' a' b' 1 X' ∧ X' + tail ≤ X + dd := by
  obtain ⟨hh, kz, ec, n9, em, c9, per, nam⟩ := tr
  obtain ⟨t1, t2, t3, ⟨q0, q1, q2, q3, q4⟩, -⟩ := per k hk
  unfold wp_Mo_statementOut wp_Mo_node1 at hM
  dsimp only at hM
  replace hM := hM.2.2
  rw [no_ix hh (by omega), ← t1, q2, e] at hM
  replace hM := hM.2.2.1 rfl
  replace hC := en_s ec n9 hk (by rw [e]; decide) (by rw [e]; decide) hC
  unfold wp_Pg_beginStatement wp_Nd_subjectOf at hC
  replace hC := na_kind ec n9 hk hC
  rw [e] at hC
  obtain ⟨pg1, hC, w1⟩ := t_line w2 (by omega) hC
  replace hC := hC.2 (by decide)
  rw [show ((12 : Int32) - (10 : Int32)) + (200 : Int32) = (202 : Int32) from by decide] at hC
  obtain ⟨pg2, a2, b2, hC, hM, w3⟩ := tk_until (m := m) kz (C2_W w1) (by omega) hC hM
  replace hC := hC.2.2.2.2.2.2 ⟨by decide, by decide, by decide, by decide, by decide, by decide⟩
  rw [e]
  exact ⟨pg2, a2, b2, _, hC, hM, w3, by omega⟩
set_option maxHeartbeats 1000000 in
theorem stw_ramp {kw : T_Kw} {nm : T_Nm} {nd : T_Nd} {m : T_Mo} {n cn : Nat} {kf : Nat → List Nat} {PS : Nat → Nat} (tr : TR nm nd m kw n cn kf PS) {i X k dd tail d : Nat} {pg : T_Pg} {a b c : Int32} {rf : T_Mo → Int32 → (Unit → T_Mo → Prop) → Prop} {P : Unit → T_Pg → Prop} {Q : Unit → T_Mo → Prop} (hk : k < n) (e : nd.1 k = 13) {j : Nat} (hj : j < cn) (ev : (nd.2.2.1 k).toInt = (j : Int)) (hd : 5 + ((m.2.1.2.1.1 (Ns ((1 : Int32) - m.1.2.1.2.1) + j)).toNatClampNeg + 1) + tail ≤ dd) (w2 : B2 i pg a b c X ∨ C2 i pg a b c X) (r : X + dd ≤ 12000) (hC : wp_Pg_enter pg kw nm nd (Int32.ofNat k) P) (hM : wp_Mo_statementOut d rf (((((m.1.1.1.1.1, m.1.1.1.1.2), (m.1.1.1.2.1, (m.1.1.1.2.2.1, m.1.1.1.2.2.2))), ((m.1.1.2.1.1, m.1.1.2.1.2), (m.1.1.2.2.1, (m.1.1.2.2.2.1, m.1.1.2.2.2.2)))), (((m.1.2.1.1.1, m.1.2.1.1.2), (m.1.2.1.2.1, (m.1.2.1.2.2.1, m.1.2.1.2.2.2))), ((m.1.2.2.1.1, (m.1.2.2.1.2.1, m.1.2.2.1.2.2)), (m.1.2.2.2.1, (m.1.2.2.2.2.1, m.1.2.2.2.2.2))))), ((((m.2.1.1.1.1, m.2.1.1.1.2), (m.2.1.1.2.1, (m.2.1.1.2.2.1, m.2.1.1.2.2.2))), ((m.2.1.2.1.1, m.2.1.2.1.2), (m.2.1.2.2.1, (m.2.1.2.2.2.1, m.2.1.2.2.2.2)))), (((m.2.2.1.1.1, m.2.2.1.1.2), (m.2.2.1.2.1, (m.2.2.1.2.2.1, m.2.2.1.2.2.2))), ((m.2.2.2.1.1, (m.2.2.2.1.2.1, a)), (b, (c, m.2.2.2.2.2.2)))))) (Int32.ofNat k) Q) : ∃ pg' a' b' X', P () pg' ∧ wp_Mo_statementOut_J286 d rf Q (((((m.1.1.1.1.1, m.1.1.1.1.2), (m.1.1.1.2.1, (m.1.1.1.2.2.1, m.1.1.1.2.2.2))), ((m.1.1.2.1.1, m.1.1.2.1.2), (m.1.1.2.2.1, (m.1.1.2.2.2.1, m.1.1.2.2.2.2)))), (((m.1.2.1.1.1, m.1.2.1.1.2), (m.1.2.1.2.1, (m.1.2.1.2.2.1, m.1.2.1.2.2.2))), ((m.1.2.2.1.1, (m.1.2.2.1.2.1, m.1.2.2.1.2.2)), (m.1.2.2.2.1, (m.1.2.2.2.2.1, m.1.2.2.2.2.2))))), ((((m.2.1.1.1.1, m.2.1.1.1.2), (m.2.1.1.2.1, (m.2.1.1.2.2.1, m.2.1.1.2.2.2))), ((m.2.1.2.1.1, m.2.1.2.1.2), (m.2.1.2.2.1, (m.2.1.2.2.2.1, m.2.1.2.2.2.2)))), (((m.2.2.1.1.1, m.2.2.1.1.2), (m.2.2.1.2.1, (m.2.2.1.2.2.1, m.2.2.1.2.2.2))), ((m.2.2.2.1.1, (m.2.2.2.1.2.1, a')), (b', ((1 : Int32), m.2.2.2.2.2.2)))))) (Int32.ofNat k) (nd.1 k) (Int32.ofNat (kf k).length) ∧ A2 i pg' a' b' 1 X' ∧ X' + tail ≤ X + dd := by
  obtain ⟨hh, kz, ec, n9, em, c9, per, nam⟩ := tr
  obtain ⟨t1, t2, t3, ⟨q0, q1, q2, q3, q4⟩, -⟩ := per k hk
  unfold wp_Mo_statementOut wp_Mo_node1 at hM
  dsimp only at hM
  replace hM := hM.2.2
  rw [no_ix hh (by omega), ← t1, q2, e] at hM
  replace hM := hM.2.2.2.1 rfl
  replace hC := en_s ec n9 hk (by rw [e]; decide) (by rw [e]; decide) hC
  unfold wp_Pg_beginStatement wp_Nd_subjectOf at hC
  replace hC := na_kind ec n9 hk hC
  rw [e] at hC
  obtain ⟨pg1, hC, w1⟩ := t_line w2 (by omega) hC
  replace hC := hC.2 (by decide)
  rw [show ((13 : Int32) - (10 : Int32)) + (200 : Int32) = (203 : Int32) from by decide] at hC
  obtain ⟨pg2, a2, b2, hC, hM, w3⟩ := tk_ramp (m := m) kz (C2_W w1) (by omega) hC hM
  replace hC := hC.2.1 rfl
  replace hC := na_val ec n9 hk hC
  rw [v_nat ev (by omega)] at hC
  replace hC := na_let em c9 hj hC
  dsimp only at hM
  replace hM := hM.2
  rw [no_ix hh (by omega), ← t2] at hM
  obtain ⟨y1, y2, y3, y4, y5⟩ := nam j hj
  obtain ⟨pg3, a3, b3, hC, hM, w4⟩ := t_name (m := m) hh (A2_W w3) (by omega) ev y2 y3 y4 y5 y1 (by omega) hC hM
  rw [e]
  exact ⟨pg3, a3, b3, _, hC, hM, w4, by omega⟩
set_option maxHeartbeats 1000000 in
theorem stw_par {kw : T_Kw} {nm : T_Nm} {nd : T_Nd} {m : T_Mo} {n cn : Nat} {kf : Nat → List Nat} {PS : Nat → Nat} (tr : TR nm nd m kw n cn kf PS) {i X k dd tail d : Nat} {pg : T_Pg} {a b c : Int32} {rf : T_Mo → Int32 → (Unit → T_Mo → Prop) → Prop} {P : Unit → T_Pg → Prop} {Q : Unit → T_Mo → Prop} (hk : k < n) (e : nd.1 k = 14) (hd : 4 + tail ≤ dd) (w2 : B2 i pg a b c X ∨ C2 i pg a b c X) (r : X + dd ≤ 12000) (hC : wp_Pg_enter pg kw nm nd (Int32.ofNat k) P) (hM : wp_Mo_statementOut d rf (((((m.1.1.1.1.1, m.1.1.1.1.2), (m.1.1.1.2.1, (m.1.1.1.2.2.1, m.1.1.1.2.2.2))), ((m.1.1.2.1.1, m.1.1.2.1.2), (m.1.1.2.2.1, (m.1.1.2.2.2.1, m.1.1.2.2.2.2)))), (((m.1.2.1.1.1, m.1.2.1.1.2), (m.1.2.1.2.1, (m.1.2.1.2.2.1, m.1.2.1.2.2.2))), ((m.1.2.2.1.1, (m.1.2.2.1.2.1, m.1.2.2.1.2.2)), (m.1.2.2.2.1, (m.1.2.2.2.2.1, m.1.2.2.2.2.2))))), ((((m.2.1.1.1.1, m.2.1.1.1.2), (m.2.1.1.2.1, (m.2.1.1.2.2.1, m.2.1.1.2.2.2))), ((m.2.1.2.1.1, m.2.1.2.1.2), (m.2.1.2.2.1, (m.2.1.2.2.2.1, m.2.1.2.2.2.2)))), (((m.2.2.1.1.1, m.2.2.1.1.2), (m.2.2.1.2.1, (m.2.2.1.2.2.1, m.2.2.1.2.2.2))), ((m.2.2.2.1.1, (m.2.2.2.1.2.1, a)), (b, (c, m.2.2.2.2.2.2)))))) (Int32.ofNat k) Q) : ∃ pg' a' b' X', P () pg' ∧ wp_Mo_statementOut_J286 d rf Q (((((m.1.1.1.1.1, m.1.1.1.1.2), (m.1.1.1.2.1, (m.1.1.1.2.2.1, m.1.1.1.2.2.2))), ((m.1.1.2.1.1, m.1.1.2.1.2), (m.1.1.2.2.1, (m.1.1.2.2.2.1, m.1.1.2.2.2.2)))), (((m.1.2.1.1.1, m.1.2.1.1.2), (m.1.2.1.2.1, (m.1.2.1.2.2.1, m.1.2.1.2.2.2))), ((m.1.2.2.1.1, (m.1.2.2.1.2.1, m.1.2.2.1.2.2)), (m.1.2.2.2.1, (m.1.2.2.2.2.1, m.1.2.2.2.2.2))))), ((((m.2.1.1.1.1, m.2.1.1.1.2), (m.2.1.1.2.1, (m.2.1.1.2.2.1, m.2.1.1.2.2.2))), ((m.2.1.2.1.1, m.2.1.2.1.2), (m.2.1.2.2.1, (m.2.1.2.2.2.1, m.2.1.2.2.2.2)))), (((m.2.2.1.1.1, m.2.2.1.1.2), (m.2.2.1.2.1, (m.2.2.1.2.2.1, m.2.2.1.2.2.2))), ((m.2.2.2.1.1, (m.2.2.2.1.2.1, a')), (b', ((1 : Int32), m.2.2.2.2.2.2)))))) (Int32.ofNat k) (nd.1 k) (Int32.ofNat (kf k).length) ∧ A2 i pg' a' b' 1 X' ∧ X' + tail ≤ X + dd := by
  obtain ⟨hh, kz, ec, n9, em, c9, per, nam⟩ := tr
  obtain ⟨t1, t2, t3, ⟨q0, q1, q2, q3, q4⟩, -⟩ := per k hk
  unfold wp_Mo_statementOut wp_Mo_node1 at hM
  dsimp only at hM
  replace hM := hM.2.2
  rw [no_ix hh (by omega), ← t1, q2, e] at hM
  replace hM := hM.2.2.2.2.1 rfl
  replace hC := en_s ec n9 hk (by rw [e]; decide) (by rw [e]; decide) hC
  unfold wp_Pg_beginStatement wp_Nd_subjectOf at hC
  replace hC := na_kind ec n9 hk hC
  rw [e] at hC
  obtain ⟨pg1, hC, w1⟩ := t_line w2 (by omega) hC
  replace hC := hC.2 (by decide)
  rw [show ((14 : Int32) - (10 : Int32)) + (200 : Int32) = (204 : Int32) from by decide] at hC
  obtain ⟨pg2, a2, b2, hC, hM, w3⟩ := tk_par (m := m) kz (C2_W w1) (by omega) hC hM
  replace hC := hC.2.2.2.2.2.2 ⟨by decide, by decide, by decide, by decide, by decide, by decide⟩
  rw [e]
  exact ⟨pg2, a2, b2, _, hC, hM, w3, by omega⟩
set_option maxHeartbeats 1000000 in
theorem stw_if {kw : T_Kw} {nm : T_Nm} {nd : T_Nd} {m : T_Mo} {n cn : Nat} {kf : Nat → List Nat} {PS : Nat → Nat} (tr : TR nm nd m kw n cn kf PS) {i X k dd tail d : Nat} {pg : T_Pg} {a b c : Int32} {rf : T_Mo → Int32 → (Unit → T_Mo → Prop) → Prop} {P : Unit → T_Pg → Prop} {Q : Unit → T_Mo → Prop} (hk : k < n) (e : nd.1 k = 15) (hd : 3 + tail ≤ dd) (w2 : B2 i pg a b c X ∨ C2 i pg a b c X) (r : X + dd ≤ 12000) (hC : wp_Pg_enter pg kw nm nd (Int32.ofNat k) P) (hM : wp_Mo_statementOut d rf (((((m.1.1.1.1.1, m.1.1.1.1.2), (m.1.1.1.2.1, (m.1.1.1.2.2.1, m.1.1.1.2.2.2))), ((m.1.1.2.1.1, m.1.1.2.1.2), (m.1.1.2.2.1, (m.1.1.2.2.2.1, m.1.1.2.2.2.2)))), (((m.1.2.1.1.1, m.1.2.1.1.2), (m.1.2.1.2.1, (m.1.2.1.2.2.1, m.1.2.1.2.2.2))), ((m.1.2.2.1.1, (m.1.2.2.1.2.1, m.1.2.2.1.2.2)), (m.1.2.2.2.1, (m.1.2.2.2.2.1, m.1.2.2.2.2.2))))), ((((m.2.1.1.1.1, m.2.1.1.1.2), (m.2.1.1.2.1, (m.2.1.1.2.2.1, m.2.1.1.2.2.2))), ((m.2.1.2.1.1, m.2.1.2.1.2), (m.2.1.2.2.1, (m.2.1.2.2.2.1, m.2.1.2.2.2.2)))), (((m.2.2.1.1.1, m.2.2.1.1.2), (m.2.2.1.2.1, (m.2.2.1.2.2.1, m.2.2.1.2.2.2))), ((m.2.2.2.1.1, (m.2.2.2.1.2.1, a)), (b, (c, m.2.2.2.2.2.2)))))) (Int32.ofNat k) Q) : ∃ pg' a' b' X', P () pg' ∧ wp_Mo_statementOut_J286 d rf Q (((((m.1.1.1.1.1, m.1.1.1.1.2), (m.1.1.1.2.1, (m.1.1.1.2.2.1, m.1.1.1.2.2.2))), ((m.1.1.2.1.1, m.1.1.2.1.2), (m.1.1.2.2.1, (m.1.1.2.2.2.1, m.1.1.2.2.2.2)))), (((m.1.2.1.1.1, m.1.2.1.1.2), (m.1.2.1.2.1, (m.1.2.1.2.2.1, m.1.2.1.2.2.2))), ((m.1.2.2.1.1, (m.1.2.2.1.2.1, m.1.2.2.1.2.2)), (m.1.2.2.2.1, (m.1.2.2.2.2.1, m.1.2.2.2.2.2))))), ((((m.2.1.1.1.1, m.2.1.1.1.2), (m.2.1.1.2.1, (m.2.1.1.2.2.1, m.2.1.1.2.2.2))), ((m.2.1.2.1.1, m.2.1.2.1.2), (m.2.1.2.2.1, (m.2.1.2.2.2.1, m.2.1.2.2.2.2)))), (((m.2.2.1.1.1, m.2.2.1.1.2), (m.2.2.1.2.1, (m.2.2.1.2.2.1, m.2.2.1.2.2.2))), ((m.2.2.2.1.1, (m.2.2.2.1.2.1, a')), (b', ((1 : Int32), m.2.2.2.2.2.2)))))) (Int32.ofNat k) (nd.1 k) (Int32.ofNat (kf k).length) ∧ A2 i pg' a' b' 1 X' ∧ X' + tail ≤ X + dd := by
  obtain ⟨hh, kz, ec, n9, em, c9, per, nam⟩ := tr
  obtain ⟨t1, t2, t3, ⟨q0, q1, q2, q3, q4⟩, -⟩ := per k hk
  unfold wp_Mo_statementOut wp_Mo_node1 at hM
  dsimp only at hM
  replace hM := hM.2.2
  rw [no_ix hh (by omega), ← t1, q2, e] at hM
  replace hM := hM.2.2.2.2.2.1 rfl
  replace hC := en_s ec n9 hk (by rw [e]; decide) (by rw [e]; decide) hC
  unfold wp_Pg_beginStatement wp_Nd_subjectOf at hC
  replace hC := na_kind ec n9 hk hC
  rw [e] at hC
  obtain ⟨pg1, hC, w1⟩ := t_line w2 (by omega) hC
  replace hC := hC.2 (by decide)
  rw [show ((15 : Int32) - (10 : Int32)) + (200 : Int32) = (205 : Int32) from by decide] at hC
  obtain ⟨pg2, a2, b2, hC, hM, w3⟩ := tk_if (m := m) kz (C2_W w1) (by omega) hC hM
  replace hC := hC.2.2.2.2.2.2 ⟨by decide, by decide, by decide, by decide, by decide, by decide⟩
  rw [e]
  exact ⟨pg2, a2, b2, _, hC, hM, w3, by omega⟩
set_option maxHeartbeats 1000000 in
theorem stw_repeat {kw : T_Kw} {nm : T_Nm} {nd : T_Nd} {m : T_Mo} {n cn : Nat} {kf : Nat → List Nat} {PS : Nat → Nat} (tr : TR nm nd m kw n cn kf PS) {i X k dd tail d : Nat} {pg : T_Pg} {a b c : Int32} {rf : T_Mo → Int32 → (Unit → T_Mo → Prop) → Prop} {P : Unit → T_Pg → Prop} {Q : Unit → T_Mo → Prop} (hk : k < n) (e : nd.1 k = 16) (hd : 7 + tail ≤ dd) (w2 : B2 i pg a b c X ∨ C2 i pg a b c X) (r : X + dd ≤ 12000) (hC : wp_Pg_enter pg kw nm nd (Int32.ofNat k) P) (hM : wp_Mo_statementOut d rf (((((m.1.1.1.1.1, m.1.1.1.1.2), (m.1.1.1.2.1, (m.1.1.1.2.2.1, m.1.1.1.2.2.2))), ((m.1.1.2.1.1, m.1.1.2.1.2), (m.1.1.2.2.1, (m.1.1.2.2.2.1, m.1.1.2.2.2.2)))), (((m.1.2.1.1.1, m.1.2.1.1.2), (m.1.2.1.2.1, (m.1.2.1.2.2.1, m.1.2.1.2.2.2))), ((m.1.2.2.1.1, (m.1.2.2.1.2.1, m.1.2.2.1.2.2)), (m.1.2.2.2.1, (m.1.2.2.2.2.1, m.1.2.2.2.2.2))))), ((((m.2.1.1.1.1, m.2.1.1.1.2), (m.2.1.1.2.1, (m.2.1.1.2.2.1, m.2.1.1.2.2.2))), ((m.2.1.2.1.1, m.2.1.2.1.2), (m.2.1.2.2.1, (m.2.1.2.2.2.1, m.2.1.2.2.2.2)))), (((m.2.2.1.1.1, m.2.2.1.1.2), (m.2.2.1.2.1, (m.2.2.1.2.2.1, m.2.2.1.2.2.2))), ((m.2.2.2.1.1, (m.2.2.2.1.2.1, a)), (b, (c, m.2.2.2.2.2.2)))))) (Int32.ofNat k) Q) : ∃ pg' a' b' X', P () pg' ∧ wp_Mo_statementOut_J286 d rf Q (((((m.1.1.1.1.1, m.1.1.1.1.2), (m.1.1.1.2.1, (m.1.1.1.2.2.1, m.1.1.1.2.2.2))), ((m.1.1.2.1.1, m.1.1.2.1.2), (m.1.1.2.2.1, (m.1.1.2.2.2.1, m.1.1.2.2.2.2)))), (((m.1.2.1.1.1, m.1.2.1.1.2), (m.1.2.1.2.1, (m.1.2.1.2.2.1, m.1.2.1.2.2.2))), ((m.1.2.2.1.1, (m.1.2.2.1.2.1, m.1.2.2.1.2.2)), (m.1.2.2.2.1, (m.1.2.2.2.2.1, m.1.2.2.2.2.2))))), ((((m.2.1.1.1.1, m.2.1.1.1.2), (m.2.1.1.2.1, (m.2.1.1.2.2.1, m.2.1.1.2.2.2))), ((m.2.1.2.1.1, m.2.1.2.1.2), (m.2.1.2.2.1, (m.2.1.2.2.2.1, m.2.1.2.2.2.2)))), (((m.2.2.1.1.1, m.2.2.1.1.2), (m.2.2.1.2.1, (m.2.2.1.2.2.1, m.2.2.1.2.2.2))), ((m.2.2.2.1.1, (m.2.2.2.1.2.1, a')), (b', ((1 : Int32), m.2.2.2.2.2.2)))))) (Int32.ofNat k) (nd.1 k) (Int32.ofNat (kf k).length) ∧ A2 i pg' a' b' 1 X' ∧ X' + tail ≤ X + dd := by
  obtain ⟨hh, kz, ec, n9, em, c9, per, nam⟩ := tr
  obtain ⟨t1, t2, t3, ⟨q0, q1, q2, q3, q4⟩, -⟩ := per k hk
  unfold wp_Mo_statementOut wp_Mo_node1 at hM
  dsimp only at hM
  replace hM := hM.2.2
  rw [no_ix hh (by omega), ← t1, q2, e] at hM
  replace hM := hM.2.2.2.2.2.2.1 rfl
  replace hC := en_s ec n9 hk (by rw [e]; decide) (by rw [e]; decide) hC
  unfold wp_Pg_beginStatement wp_Nd_subjectOf at hC
  replace hC := na_kind ec n9 hk hC
  rw [e] at hC
  obtain ⟨pg1, hC, w1⟩ := t_line w2 (by omega) hC
  replace hC := hC.2 (by decide)
  rw [show ((16 : Int32) - (10 : Int32)) + (200 : Int32) = (206 : Int32) from by decide] at hC
  obtain ⟨pg2, a2, b2, hC, hM, w3⟩ := tk_repeat (m := m) kz (C2_W w1) (by omega) hC hM
  replace hC := hC.2.2.2.2.2.2 ⟨by decide, by decide, by decide, by decide, by decide, by decide⟩
  rw [e]
  exact ⟨pg2, a2, b2, _, hC, hM, w3, by omega⟩
set_option maxHeartbeats 1000000 in
theorem stw_limit {kw : T_Kw} {nm : T_Nm} {nd : T_Nd} {m : T_Mo} {n cn : Nat} {kf : Nat → List Nat} {PS : Nat → Nat} (tr : TR nm nd m kw n cn kf PS) {i X k dd tail d : Nat} {pg : T_Pg} {a b c : Int32} {rf : T_Mo → Int32 → (Unit → T_Mo → Prop) → Prop} {P : Unit → T_Pg → Prop} {Q : Unit → T_Mo → Prop} (hk : k < n) (e : nd.1 k = 17) (hd : 6 + tail ≤ dd) (w2 : B2 i pg a b c X ∨ C2 i pg a b c X) (r : X + dd ≤ 12000) (hC : wp_Pg_enter pg kw nm nd (Int32.ofNat k) P) (hM : wp_Mo_statementOut d rf (((((m.1.1.1.1.1, m.1.1.1.1.2), (m.1.1.1.2.1, (m.1.1.1.2.2.1, m.1.1.1.2.2.2))), ((m.1.1.2.1.1, m.1.1.2.1.2), (m.1.1.2.2.1, (m.1.1.2.2.2.1, m.1.1.2.2.2.2)))), (((m.1.2.1.1.1, m.1.2.1.1.2), (m.1.2.1.2.1, (m.1.2.1.2.2.1, m.1.2.1.2.2.2))), ((m.1.2.2.1.1, (m.1.2.2.1.2.1, m.1.2.2.1.2.2)), (m.1.2.2.2.1, (m.1.2.2.2.2.1, m.1.2.2.2.2.2))))), ((((m.2.1.1.1.1, m.2.1.1.1.2), (m.2.1.1.2.1, (m.2.1.1.2.2.1, m.2.1.1.2.2.2))), ((m.2.1.2.1.1, m.2.1.2.1.2), (m.2.1.2.2.1, (m.2.1.2.2.2.1, m.2.1.2.2.2.2)))), (((m.2.2.1.1.1, m.2.2.1.1.2), (m.2.2.1.2.1, (m.2.2.1.2.2.1, m.2.2.1.2.2.2))), ((m.2.2.2.1.1, (m.2.2.2.1.2.1, a)), (b, (c, m.2.2.2.2.2.2)))))) (Int32.ofNat k) Q) : ∃ pg' a' b' X', P () pg' ∧ wp_Mo_statementOut_J286 d rf Q (((((m.1.1.1.1.1, m.1.1.1.1.2), (m.1.1.1.2.1, (m.1.1.1.2.2.1, m.1.1.1.2.2.2))), ((m.1.1.2.1.1, m.1.1.2.1.2), (m.1.1.2.2.1, (m.1.1.2.2.2.1, m.1.1.2.2.2.2)))), (((m.1.2.1.1.1, m.1.2.1.1.2), (m.1.2.1.2.1, (m.1.2.1.2.2.1, m.1.2.1.2.2.2))), ((m.1.2.2.1.1, (m.1.2.2.1.2.1, m.1.2.2.1.2.2)), (m.1.2.2.2.1, (m.1.2.2.2.2.1, m.1.2.2.2.2.2))))), ((((m.2.1.1.1.1, m.2.1.1.1.2), (m.2.1.1.2.1, (m.2.1.1.2.2.1, m.2.1.1.2.2.2))), ((m.2.1.2.1.1, m.2.1.2.1.2), (m.2.1.2.2.1, (m.2.1.2.2.2.1, m.2.1.2.2.2.2)))), (((m.2.2.1.1.1, m.2.2.1.1.2), (m.2.2.1.2.1, (m.2.2.1.2.2.1, m.2.2.1.2.2.2))), ((m.2.2.2.1.1, (m.2.2.2.1.2.1, a')), (b', ((1 : Int32), m.2.2.2.2.2.2)))))) (Int32.ofNat k) (nd.1 k) (Int32.ofNat (kf k).length) ∧ A2 i pg' a' b' 1 X' ∧ X' + tail ≤ X + dd := by
  obtain ⟨hh, kz, ec, n9, em, c9, per, nam⟩ := tr
  obtain ⟨t1, t2, t3, ⟨q0, q1, q2, q3, q4⟩, -⟩ := per k hk
  unfold wp_Mo_statementOut wp_Mo_node1 at hM
  dsimp only at hM
  replace hM := hM.2.2
  rw [no_ix hh (by omega), ← t1, q2, e] at hM
  replace hM := hM.2.2.2.2.2.2.2.1 rfl
  replace hC := en_s ec n9 hk (by rw [e]; decide) (by rw [e]; decide) hC
  unfold wp_Pg_beginStatement wp_Nd_subjectOf at hC
  replace hC := na_kind ec n9 hk hC
  rw [e] at hC
  obtain ⟨pg1, hC, w1⟩ := t_line w2 (by omega) hC
  replace hC := hC.2 (by decide)
  rw [show ((17 : Int32) - (10 : Int32)) + (200 : Int32) = (207 : Int32) from by decide] at hC
  obtain ⟨pg2, a2, b2, hC, hM, w3⟩ := tk_limit (m := m) kz (C2_W w1) (by omega) hC hM
  replace hC := hC.2.2.2.2.2.2 ⟨by decide, by decide, by decide, by decide, by decide, by decide⟩
  rw [e]
  exact ⟨pg2, a2, b2, _, hC, hM, w3, by omega⟩
set_option maxHeartbeats 1000000 in
theorem stw_ask {kw : T_Kw} {nm : T_Nm} {nd : T_Nd} {m : T_Mo} {n cn : Nat} {kf : Nat → List Nat} {PS : Nat → Nat} (tr : TR nm nd m kw n cn kf PS) {i X k dd tail d : Nat} {pg : T_Pg} {a b c : Int32} {rf : T_Mo → Int32 → (Unit → T_Mo → Prop) → Prop} {P : Unit → T_Pg → Prop} {Q : Unit → T_Mo → Prop} (hk : k < n) (e : nd.1 k = 18) {j : Nat} (hj : j < cn) (ev : (nd.2.2.1 k).toInt = (j : Int)) (hd : 4 + ((m.2.1.2.1.1 (Ns ((1 : Int32) - m.1.2.1.2.1) + j)).toNatClampNeg + 1) + tail ≤ dd) (w2 : B2 i pg a b c X ∨ C2 i pg a b c X) (r : X + dd ≤ 12000) (hC : wp_Pg_enter pg kw nm nd (Int32.ofNat k) P) (hM : wp_Mo_statementOut d rf (((((m.1.1.1.1.1, m.1.1.1.1.2), (m.1.1.1.2.1, (m.1.1.1.2.2.1, m.1.1.1.2.2.2))), ((m.1.1.2.1.1, m.1.1.2.1.2), (m.1.1.2.2.1, (m.1.1.2.2.2.1, m.1.1.2.2.2.2)))), (((m.1.2.1.1.1, m.1.2.1.1.2), (m.1.2.1.2.1, (m.1.2.1.2.2.1, m.1.2.1.2.2.2))), ((m.1.2.2.1.1, (m.1.2.2.1.2.1, m.1.2.2.1.2.2)), (m.1.2.2.2.1, (m.1.2.2.2.2.1, m.1.2.2.2.2.2))))), ((((m.2.1.1.1.1, m.2.1.1.1.2), (m.2.1.1.2.1, (m.2.1.1.2.2.1, m.2.1.1.2.2.2))), ((m.2.1.2.1.1, m.2.1.2.1.2), (m.2.1.2.2.1, (m.2.1.2.2.2.1, m.2.1.2.2.2.2)))), (((m.2.2.1.1.1, m.2.2.1.1.2), (m.2.2.1.2.1, (m.2.2.1.2.2.1, m.2.2.1.2.2.2))), ((m.2.2.2.1.1, (m.2.2.2.1.2.1, a)), (b, (c, m.2.2.2.2.2.2)))))) (Int32.ofNat k) Q) : ∃ pg' a' b' X', P () pg' ∧ wp_Mo_statementOut_J286 d rf Q (((((m.1.1.1.1.1, m.1.1.1.1.2), (m.1.1.1.2.1, (m.1.1.1.2.2.1, m.1.1.1.2.2.2))), ((m.1.1.2.1.1, m.1.1.2.1.2), (m.1.1.2.2.1, (m.1.1.2.2.2.1, m.1.1.2.2.2.2)))), (((m.1.2.1.1.1, m.1.2.1.1.2), (m.1.2.1.2.1, (m.1.2.1.2.2.1, m.1.2.1.2.2.2))), ((m.1.2.2.1.1, (m.1.2.2.1.2.1, m.1.2.2.1.2.2)), (m.1.2.2.2.1, (m.1.2.2.2.2.1, m.1.2.2.2.2.2))))), ((((m.2.1.1.1.1, m.2.1.1.1.2), (m.2.1.1.2.1, (m.2.1.1.2.2.1, m.2.1.1.2.2.2))), ((m.2.1.2.1.1, m.2.1.2.1.2), (m.2.1.2.2.1, (m.2.1.2.2.2.1, m.2.1.2.2.2.2)))), (((m.2.2.1.1.1, m.2.2.1.1.2), (m.2.2.1.2.1, (m.2.2.1.2.2.1, m.2.2.1.2.2.2))), ((m.2.2.2.1.1, (m.2.2.2.1.2.1, a')), (b', ((1 : Int32), m.2.2.2.2.2.2)))))) (Int32.ofNat k) (nd.1 k) (Int32.ofNat (kf k).length) ∧ A2 i pg' a' b' 1 X' ∧ X' + tail ≤ X + dd := by
  obtain ⟨hh, kz, ec, n9, em, c9, per, nam⟩ := tr
  obtain ⟨t1, t2, t3, ⟨q0, q1, q2, q3, q4⟩, -⟩ := per k hk
  unfold wp_Mo_statementOut wp_Mo_node1 at hM
  dsimp only at hM
  replace hM := hM.2.2
  rw [no_ix hh (by omega), ← t1, q2, e] at hM
  replace hM := hM.2.2.2.2.2.2.2.2.1 rfl
  replace hC := en_s ec n9 hk (by rw [e]; decide) (by rw [e]; decide) hC
  unfold wp_Pg_beginStatement wp_Nd_subjectOf at hC
  replace hC := na_kind ec n9 hk hC
  rw [e] at hC
  obtain ⟨pg1, hC, w1⟩ := t_line w2 (by omega) hC
  replace hC := hC.2 (by decide)
  rw [show ((18 : Int32) - (10 : Int32)) + (200 : Int32) = (208 : Int32) from by decide] at hC
  obtain ⟨pg2, a2, b2, hC, hM, w3⟩ := tk_ask (m := m) kz (C2_W w1) (by omega) hC hM
  replace hC := hC.2.2.1 rfl
  replace hC := na_val ec n9 hk hC
  rw [v_nat ev (by omega)] at hC
  replace hC := na_let em c9 hj hC
  dsimp only at hM
  replace hM := hM.2
  rw [no_ix hh (by omega), ← t2] at hM
  obtain ⟨y1, y2, y3, y4, y5⟩ := nam j hj
  obtain ⟨pg3, a3, b3, hC, hM, w4⟩ := t_name (m := m) hh (A2_W w3) (by omega) ev y2 y3 y4 y5 y1 (by omega) hC hM
  rw [e]
  exact ⟨pg3, a3, b3, _, hC, hM, w4, by omega⟩
set_option maxHeartbeats 1000000 in
theorem stw_do {kw : T_Kw} {nm : T_Nm} {nd : T_Nd} {m : T_Mo} {n cn : Nat} {kf : Nat → List Nat} {PS : Nat → Nat} (tr : TR nm nd m kw n cn kf PS) {i X k dd tail d : Nat} {pg : T_Pg} {a b c : Int32} {rf : T_Mo → Int32 → (Unit → T_Mo → Prop) → Prop} {P : Unit → T_Pg → Prop} {Q : Unit → T_Mo → Prop} (hk : k < n) (e : nd.1 k = 19) {j : Nat} (hj : j < cn) (ev : (nd.2.2.1 k).toInt = (j : Int)) (hd : 3 + ((m.2.1.2.1.1 (Ns ((1 : Int32) - m.1.2.1.2.1) + j)).toNatClampNeg + 1) + tail ≤ dd) (w2 : B2 i pg a b c X ∨ C2 i pg a b c X) (r : X + dd ≤ 12000) (hC : wp_Pg_enter pg kw nm nd (Int32.ofNat k) P) (hM : wp_Mo_statementOut d rf (((((m.1.1.1.1.1, m.1.1.1.1.2), (m.1.1.1.2.1, (m.1.1.1.2.2.1, m.1.1.1.2.2.2))), ((m.1.1.2.1.1, m.1.1.2.1.2), (m.1.1.2.2.1, (m.1.1.2.2.2.1, m.1.1.2.2.2.2)))), (((m.1.2.1.1.1, m.1.2.1.1.2), (m.1.2.1.2.1, (m.1.2.1.2.2.1, m.1.2.1.2.2.2))), ((m.1.2.2.1.1, (m.1.2.2.1.2.1, m.1.2.2.1.2.2)), (m.1.2.2.2.1, (m.1.2.2.2.2.1, m.1.2.2.2.2.2))))), ((((m.2.1.1.1.1, m.2.1.1.1.2), (m.2.1.1.2.1, (m.2.1.1.2.2.1, m.2.1.1.2.2.2))), ((m.2.1.2.1.1, m.2.1.2.1.2), (m.2.1.2.2.1, (m.2.1.2.2.2.1, m.2.1.2.2.2.2)))), (((m.2.2.1.1.1, m.2.2.1.1.2), (m.2.2.1.2.1, (m.2.2.1.2.2.1, m.2.2.1.2.2.2))), ((m.2.2.2.1.1, (m.2.2.2.1.2.1, a)), (b, (c, m.2.2.2.2.2.2)))))) (Int32.ofNat k) Q) : ∃ pg' a' b' X', P () pg' ∧ wp_Mo_statementOut_J286 d rf Q (((((m.1.1.1.1.1, m.1.1.1.1.2), (m.1.1.1.2.1, (m.1.1.1.2.2.1, m.1.1.1.2.2.2))), ((m.1.1.2.1.1, m.1.1.2.1.2), (m.1.1.2.2.1, (m.1.1.2.2.2.1, m.1.1.2.2.2.2)))), (((m.1.2.1.1.1, m.1.2.1.1.2), (m.1.2.1.2.1, (m.1.2.1.2.2.1, m.1.2.1.2.2.2))), ((m.1.2.2.1.1, (m.1.2.2.1.2.1, m.1.2.2.1.2.2)), (m.1.2.2.2.1, (m.1.2.2.2.2.1, m.1.2.2.2.2.2))))), ((((m.2.1.1.1.1, m.2.1.1.1.2), (m.2.1.1.2.1, (m.2.1.1.2.2.1, m.2.1.1.2.2.2))), ((m.2.1.2.1.1, m.2.1.2.1.2), (m.2.1.2.2.1, (m.2.1.2.2.2.1, m.2.1.2.2.2.2)))), (((m.2.2.1.1.1, m.2.2.1.1.2), (m.2.2.1.2.1, (m.2.2.1.2.2.1, m.2.2.1.2.2.2))), ((m.2.2.2.1.1, (m.2.2.2.1.2.1, a')), (b', ((1 : Int32), m.2.2.2.2.2.2)))))) (Int32.ofNat k) (nd.1 k) (Int32.ofNat (kf k).length) ∧ A2 i pg' a' b' 1 X' ∧ X' + tail ≤ X + dd := by
  obtain ⟨hh, kz, ec, n9, em, c9, per, nam⟩ := tr
  obtain ⟨t1, t2, t3, ⟨q0, q1, q2, q3, q4⟩, -⟩ := per k hk
  unfold wp_Mo_statementOut wp_Mo_node1 at hM
  dsimp only at hM
  replace hM := hM.2.2
  rw [no_ix hh (by omega), ← t1, q2, e] at hM
  replace hM := hM.2.2.2.2.2.2.2.2.2.1 rfl
  replace hC := en_s ec n9 hk (by rw [e]; decide) (by rw [e]; decide) hC
  unfold wp_Pg_beginStatement wp_Nd_subjectOf at hC
  replace hC := na_kind ec n9 hk hC
  rw [e] at hC
  obtain ⟨pg1, hC, w1⟩ := t_line w2 (by omega) hC
  replace hC := hC.2 (by decide)
  rw [show ((19 : Int32) - (10 : Int32)) + (200 : Int32) = (209 : Int32) from by decide] at hC
  obtain ⟨pg2, a2, b2, hC, hM, w3⟩ := tk_do (m := m) kz (C2_W w1) (by omega) hC hM
  replace hC := hC.2.2.2.1 rfl
  replace hC := na_val ec n9 hk hC
  rw [v_nat ev (by omega)] at hC
  replace hC := na_let em c9 hj hC
  dsimp only at hM
  replace hM := hM.2
  rw [no_ix hh (by omega), ← t2] at hM
  obtain ⟨y1, y2, y3, y4, y5⟩ := nam j hj
  obtain ⟨pg3, a3, b3, hC, hM, w4⟩ := t_name (m := m) hh (A2_W w3) (by omega) ev y2 y3 y4 y5 y1 (by omega) hC hM
  rw [e]
  exact ⟨pg3, a3, b3, _, hC, hM, w4, by omega⟩
set_option maxHeartbeats 1000000 in
theorem stw_stop {kw : T_Kw} {nm : T_Nm} {nd : T_Nd} {m : T_Mo} {n cn : Nat} {kf : Nat → List Nat} {PS : Nat → Nat} (tr : TR nm nd m kw n cn kf PS) {i X k dd tail d : Nat} {pg : T_Pg} {a b c : Int32} {rf : T_Mo → Int32 → (Unit → T_Mo → Prop) → Prop} {P : Unit → T_Pg → Prop} {Q : Unit → T_Mo → Prop} (hk : k < n) (e : nd.1 k = 20) (hd : 5 + tail ≤ dd) (w2 : B2 i pg a b c X ∨ C2 i pg a b c X) (r : X + dd ≤ 12000) (hC : wp_Pg_enter pg kw nm nd (Int32.ofNat k) P) (hM : wp_Mo_statementOut d rf (((((m.1.1.1.1.1, m.1.1.1.1.2), (m.1.1.1.2.1, (m.1.1.1.2.2.1, m.1.1.1.2.2.2))), ((m.1.1.2.1.1, m.1.1.2.1.2), (m.1.1.2.2.1, (m.1.1.2.2.2.1, m.1.1.2.2.2.2)))), (((m.1.2.1.1.1, m.1.2.1.1.2), (m.1.2.1.2.1, (m.1.2.1.2.2.1, m.1.2.1.2.2.2))), ((m.1.2.2.1.1, (m.1.2.2.1.2.1, m.1.2.2.1.2.2)), (m.1.2.2.2.1, (m.1.2.2.2.2.1, m.1.2.2.2.2.2))))), ((((m.2.1.1.1.1, m.2.1.1.1.2), (m.2.1.1.2.1, (m.2.1.1.2.2.1, m.2.1.1.2.2.2))), ((m.2.1.2.1.1, m.2.1.2.1.2), (m.2.1.2.2.1, (m.2.1.2.2.2.1, m.2.1.2.2.2.2)))), (((m.2.2.1.1.1, m.2.2.1.1.2), (m.2.2.1.2.1, (m.2.2.1.2.2.1, m.2.2.1.2.2.2))), ((m.2.2.2.1.1, (m.2.2.2.1.2.1, a)), (b, (c, m.2.2.2.2.2.2)))))) (Int32.ofNat k) Q) : ∃ pg' a' b' X', P () pg' ∧ wp_Mo_statementOut_J286 d rf Q (((((m.1.1.1.1.1, m.1.1.1.1.2), (m.1.1.1.2.1, (m.1.1.1.2.2.1, m.1.1.1.2.2.2))), ((m.1.1.2.1.1, m.1.1.2.1.2), (m.1.1.2.2.1, (m.1.1.2.2.2.1, m.1.1.2.2.2.2)))), (((m.1.2.1.1.1, m.1.2.1.1.2), (m.1.2.1.2.1, (m.1.2.1.2.2.1, m.1.2.1.2.2.2))), ((m.1.2.2.1.1, (m.1.2.2.1.2.1, m.1.2.2.1.2.2)), (m.1.2.2.2.1, (m.1.2.2.2.2.1, m.1.2.2.2.2.2))))), ((((m.2.1.1.1.1, m.2.1.1.1.2), (m.2.1.1.2.1, (m.2.1.1.2.2.1, m.2.1.1.2.2.2))), ((m.2.1.2.1.1, m.2.1.2.1.2), (m.2.1.2.2.1, (m.2.1.2.2.2.1, m.2.1.2.2.2.2)))), (((m.2.2.1.1.1, m.2.2.1.1.2), (m.2.2.1.2.1, (m.2.2.1.2.2.1, m.2.2.1.2.2.2))), ((m.2.2.2.1.1, (m.2.2.2.1.2.1, a')), (b', ((1 : Int32), m.2.2.2.2.2.2)))))) (Int32.ofNat k) (nd.1 k) (Int32.ofNat (kf k).length) ∧ A2 i pg' a' b' 1 X' ∧ X' + tail ≤ X + dd := by
  obtain ⟨hh, kz, ec, n9, em, c9, per, nam⟩ := tr
  obtain ⟨t1, t2, t3, ⟨q0, q1, q2, q3, q4⟩, -⟩ := per k hk
  unfold wp_Mo_statementOut wp_Mo_node1 at hM
  dsimp only at hM
  replace hM := hM.2.2
  rw [no_ix hh (by omega), ← t1, q2, e] at hM
  replace hM := hM.2.2.2.2.2.2.2.2.2.2.1 rfl
  replace hC := en_s ec n9 hk (by rw [e]; decide) (by rw [e]; decide) hC
  unfold wp_Pg_beginStatement wp_Nd_subjectOf at hC
  replace hC := na_kind ec n9 hk hC
  rw [e] at hC
  obtain ⟨pg1, hC, w1⟩ := t_line w2 (by omega) hC
  replace hC := hC.2 (by decide)
  rw [show ((20 : Int32) - (10 : Int32)) + (200 : Int32) = (210 : Int32) from by decide] at hC
  obtain ⟨pg2, a2, b2, hC, hM, w3⟩ := tk_stop (m := m) kz (C2_W w1) (by omega) hC hM
  replace hC := hC.2.2.2.2.2.2 ⟨by decide, by decide, by decide, by decide, by decide, by decide⟩
  rw [e]
  exact ⟨pg2, a2, b2, _, hC, hM, w3, by omega⟩
set_option maxHeartbeats 1000000 in
theorem stw_hold {kw : T_Kw} {nm : T_Nm} {nd : T_Nd} {m : T_Mo} {n cn : Nat} {kf : Nat → List Nat} {PS : Nat → Nat} (tr : TR nm nd m kw n cn kf PS) {i X k dd tail d : Nat} {pg : T_Pg} {a b c : Int32} {rf : T_Mo → Int32 → (Unit → T_Mo → Prop) → Prop} {P : Unit → T_Pg → Prop} {Q : Unit → T_Mo → Prop} (hk : k < n) (e : nd.1 k = 21) (hd : 5 + tail ≤ dd) (w2 : B2 i pg a b c X ∨ C2 i pg a b c X) (r : X + dd ≤ 12000) (hC : wp_Pg_enter pg kw nm nd (Int32.ofNat k) P) (hM : wp_Mo_statementOut d rf (((((m.1.1.1.1.1, m.1.1.1.1.2), (m.1.1.1.2.1, (m.1.1.1.2.2.1, m.1.1.1.2.2.2))), ((m.1.1.2.1.1, m.1.1.2.1.2), (m.1.1.2.2.1, (m.1.1.2.2.2.1, m.1.1.2.2.2.2)))), (((m.1.2.1.1.1, m.1.2.1.1.2), (m.1.2.1.2.1, (m.1.2.1.2.2.1, m.1.2.1.2.2.2))), ((m.1.2.2.1.1, (m.1.2.2.1.2.1, m.1.2.2.1.2.2)), (m.1.2.2.2.1, (m.1.2.2.2.2.1, m.1.2.2.2.2.2))))), ((((m.2.1.1.1.1, m.2.1.1.1.2), (m.2.1.1.2.1, (m.2.1.1.2.2.1, m.2.1.1.2.2.2))), ((m.2.1.2.1.1, m.2.1.2.1.2), (m.2.1.2.2.1, (m.2.1.2.2.2.1, m.2.1.2.2.2.2)))), (((m.2.2.1.1.1, m.2.2.1.1.2), (m.2.2.1.2.1, (m.2.2.1.2.2.1, m.2.2.1.2.2.2))), ((m.2.2.2.1.1, (m.2.2.2.1.2.1, a)), (b, (c, m.2.2.2.2.2.2)))))) (Int32.ofNat k) Q) : ∃ pg' a' b' X', P () pg' ∧ wp_Mo_statementOut_J286 d rf Q (((((m.1.1.1.1.1, m.1.1.1.1.2), (m.1.1.1.2.1, (m.1.1.1.2.2.1, m.1.1.1.2.2.2))), ((m.1.1.2.1.1, m.1.1.2.1.2), (m.1.1.2.2.1, (m.1.1.2.2.2.1, m.1.1.2.2.2.2)))), (((m.1.2.1.1.1, m.1.2.1.1.2), (m.1.2.1.2.1, (m.1.2.1.2.2.1, m.1.2.1.2.2.2))), ((m.1.2.2.1.1, (m.1.2.2.1.2.1, m.1.2.2.1.2.2)), (m.1.2.2.2.1, (m.1.2.2.2.2.1, m.1.2.2.2.2.2))))), ((((m.2.1.1.1.1, m.2.1.1.1.2), (m.2.1.1.2.1, (m.2.1.1.2.2.1, m.2.1.1.2.2.2))), ((m.2.1.2.1.1, m.2.1.2.1.2), (m.2.1.2.2.1, (m.2.1.2.2.2.1, m.2.1.2.2.2.2)))), (((m.2.2.1.1.1, m.2.2.1.1.2), (m.2.2.1.2.1, (m.2.2.1.2.2.1, m.2.2.1.2.2.2))), ((m.2.2.2.1.1, (m.2.2.2.1.2.1, a')), (b', ((1 : Int32), m.2.2.2.2.2.2)))))) (Int32.ofNat k) (nd.1 k) (Int32.ofNat (kf k).length) ∧ A2 i pg' a' b' 1 X' ∧ X' + tail ≤ X + dd := by
  obtain ⟨hh, kz, ec, n9, em, c9, per, nam⟩ := tr
  obtain ⟨t1, t2, t3, ⟨q0, q1, q2, q3, q4⟩, -⟩ := per k hk
  unfold wp_Mo_statementOut wp_Mo_node1 at hM
  dsimp only at hM
  replace hM := hM.2.2
  rw [no_ix hh (by omega), ← t1, q2, e] at hM
  replace hM := hM.2.2.2.2.2.2.2.2.2.2.2.1 rfl
  replace hC := en_s ec n9 hk (by rw [e]; decide) (by rw [e]; decide) hC
  unfold wp_Pg_beginStatement wp_Nd_subjectOf at hC
  replace hC := na_kind ec n9 hk hC
  rw [e] at hC
  obtain ⟨pg1, hC, w1⟩ := t_line w2 (by omega) hC
  replace hC := hC.2 (by decide)
  rw [show ((21 : Int32) - (10 : Int32)) + (200 : Int32) = (211 : Int32) from by decide] at hC
  obtain ⟨pg2, a2, b2, hC, hM, w3⟩ := tk_hold (m := m) kz (C2_W w1) (by omega) hC hM
  replace hC := hC.2.2.2.2.2.2 ⟨by decide, by decide, by decide, by decide, by decide, by decide⟩
  rw [e]
  exact ⟨pg2, a2, b2, _, hC, hM, w3, by omega⟩
set_option maxHeartbeats 1000000 in
theorem stw_act {kw : T_Kw} {nm : T_Nm} {nd : T_Nd} {m : T_Mo} {n cn : Nat} {kf : Nat → List Nat} {PS : Nat → Nat} (tr : TR nm nd m kw n cn kf PS) {i X k dd tail d : Nat} {pg : T_Pg} {a b c : Int32} {rf : T_Mo → Int32 → (Unit → T_Mo → Prop) → Prop} {P : Unit → T_Pg → Prop} {Q : Unit → T_Mo → Prop} (hk : k < n) (e : nd.1 k = 22) {v : Nat} (ev : (nd.2.2.1 k).toInt = (v : Int)) (v9 : v < 64) (hd : 4 + ((nb (1000 * v)).length + 1) + tail ≤ dd) (w2 : B2 i pg a b c X ∨ C2 i pg a b c X) (r : X + dd ≤ 12000) (hC : wp_Pg_enter pg kw nm nd (Int32.ofNat k) P) (hM : wp_Mo_statementOut d rf (((((m.1.1.1.1.1, m.1.1.1.1.2), (m.1.1.1.2.1, (m.1.1.1.2.2.1, m.1.1.1.2.2.2))), ((m.1.1.2.1.1, m.1.1.2.1.2), (m.1.1.2.2.1, (m.1.1.2.2.2.1, m.1.1.2.2.2.2)))), (((m.1.2.1.1.1, m.1.2.1.1.2), (m.1.2.1.2.1, (m.1.2.1.2.2.1, m.1.2.1.2.2.2))), ((m.1.2.2.1.1, (m.1.2.2.1.2.1, m.1.2.2.1.2.2)), (m.1.2.2.2.1, (m.1.2.2.2.2.1, m.1.2.2.2.2.2))))), ((((m.2.1.1.1.1, m.2.1.1.1.2), (m.2.1.1.2.1, (m.2.1.1.2.2.1, m.2.1.1.2.2.2))), ((m.2.1.2.1.1, m.2.1.2.1.2), (m.2.1.2.2.1, (m.2.1.2.2.2.1, m.2.1.2.2.2.2)))), (((m.2.2.1.1.1, m.2.2.1.1.2), (m.2.2.1.2.1, (m.2.2.1.2.2.1, m.2.2.1.2.2.2))), ((m.2.2.2.1.1, (m.2.2.2.1.2.1, a)), (b, (c, m.2.2.2.2.2.2)))))) (Int32.ofNat k) Q) : ∃ pg' a' b' X', P () pg' ∧ wp_Mo_statementOut_J286 d rf Q (((((m.1.1.1.1.1, m.1.1.1.1.2), (m.1.1.1.2.1, (m.1.1.1.2.2.1, m.1.1.1.2.2.2))), ((m.1.1.2.1.1, m.1.1.2.1.2), (m.1.1.2.2.1, (m.1.1.2.2.2.1, m.1.1.2.2.2.2)))), (((m.1.2.1.1.1, m.1.2.1.1.2), (m.1.2.1.2.1, (m.1.2.1.2.2.1, m.1.2.1.2.2.2))), ((m.1.2.2.1.1, (m.1.2.2.1.2.1, m.1.2.2.1.2.2)), (m.1.2.2.2.1, (m.1.2.2.2.2.1, m.1.2.2.2.2.2))))), ((((m.2.1.1.1.1, m.2.1.1.1.2), (m.2.1.1.2.1, (m.2.1.1.2.2.1, m.2.1.1.2.2.2))), ((m.2.1.2.1.1, m.2.1.2.1.2), (m.2.1.2.2.1, (m.2.1.2.2.2.1, m.2.1.2.2.2.2)))), (((m.2.2.1.1.1, m.2.2.1.1.2), (m.2.2.1.2.1, (m.2.2.1.2.2.1, m.2.2.1.2.2.2))), ((m.2.2.2.1.1, (m.2.2.2.1.2.1, a')), (b', ((1 : Int32), m.2.2.2.2.2.2)))))) (Int32.ofNat k) (nd.1 k) (Int32.ofNat (kf k).length) ∧ A2 i pg' a' b' 1 X' ∧ X' + tail ≤ X + dd := by
  obtain ⟨hh, kz, ec, n9, em, c9, per, nam⟩ := tr
  obtain ⟨t1, t2, t3, ⟨q0, q1, q2, q3, q4⟩, -⟩ := per k hk
  unfold wp_Mo_statementOut wp_Mo_node1 at hM
  dsimp only at hM
  replace hM := hM.2.2
  rw [no_ix hh (by omega), ← t1, q2, e] at hM
  replace hM := hM.2.2.2.2.2.2.2.2.2.2.2.2 ⟨by decide, by decide, by decide, by decide, by decide, by decide, by decide, by decide, by decide, by decide, by decide, by decide⟩
  replace hC := en_s ec n9 hk (by rw [e]; decide) (by rw [e]; decide) hC
  unfold wp_Pg_beginStatement wp_Nd_subjectOf at hC
  replace hC := na_kind ec n9 hk hC
  rw [e] at hC
  obtain ⟨pg1, hC, w1⟩ := t_line w2 (by omega) hC
  replace hC := hC.2 (by decide)
  rw [show ((22 : Int32) - (10 : Int32)) + (200 : Int32) = (212 : Int32) from by decide] at hC
  obtain ⟨pg2, a2, b2, hC, hM, w3⟩ := tk_act (m := m) kz (C2_W w1) (by omega) hC hM
  replace hC := hC.2.2.2.2.1 rfl
  replace hC := na_val ec n9 hk hC
  dsimp only at hM
  replace hM := hM.2
  rw [no_ix hh (by omega), ← t2] at hM
  obtain ⟨pg3, a3, b3, hC, hM, w4⟩ := t_actn (m := m) (Q := fun (_ : Unit) (u : T_Mo) => wp_Mo_statementOut_J286 d rf Q u (Int32.ofNat k) (22 : Int32) (Int32.ofNat (kf k).length)) ev v9 (A2_W w3) (by omega) hC hM
  rw [e]
  exact ⟨pg3, a3, b3, _, hC, hM, w4, by omega⟩
/-- what a block's writer does at a block -/
def HB (kw : T_Kw) (nm : T_Nm) (nd : T_Nd) (K : T_Pg → Int32 → Int32 → Int32 → Prop) (post : Unit → T_Pg → Prop) (top : Nat) (m : T_Mo) (i : Nat) (PS : Nat → Nat) (rf : T_Mo → Int32 → (Unit → T_Mo → Prop) → Prop) (q : Nat) : Prop := ∀ (f s X Y : Nat) (pg : T_Pg) (a b c : Int32) (Q : Unit → T_Mo → Prop), s + (q + 1) ≤ 1000 + (nd.2.2.2.2.1 q).toNatClampNeg → X + PS (q + 1) ≤ Y + PS (nd.2.2.2.2.1 q).toNatClampNeg → Y ≤ 12000 → W2 i pg a b c X → wp_Pg_layNode_L4 kw nm nd K post f pg (Int32.ofNat top) (Int32.ofNat q) (Int32.ofNat s) → rf (((((m.1.1.1.1.1, m.1.1.1.1.2), (m.1.1.1.2.1, (m.1.1.1.2.2.1, m.1.1.1.2.2.2))), ((m.1.1.2.1.1, m.1.1.2.1.2), (m.1.1.2.2.1, (m.1.1.2.2.2.1, m.1.1.2.2.2.2)))), (((m.1.2.1.1.1, m.1.2.1.1.2), (m.1.2.1.2.1, (m.1.2.1.2.2.1, m.1.2.1.2.2.2))), ((m.1.2.2.1.1, (m.1.2.2.1.2.1, m.1.2.2.1.2.2)), (m.1.2.2.2.1, (m.1.2.2.2.2.1, m.1.2.2.2.2.2))))), ((((m.2.1.1.1.1, m.2.1.1.1.2), (m.2.1.1.2.1, (m.2.1.1.2.2.1, m.2.1.1.2.2.2))), ((m.2.1.2.1.1, m.2.1.2.1.2), (m.2.1.2.2.1, (m.2.1.2.2.2.1, m.2.1.2.2.2.2)))), (((m.2.2.1.1.1, m.2.2.1.1.2), (m.2.2.1.2.1, (m.2.2.1.2.2.1, m.2.2.1.2.2.2))), ((m.2.2.2.1.1, (m.2.2.2.1.2.1, a)), (b, (c, m.2.2.2.2.2.2)))))) (Int32.ofNat q) Q → ∃ pg' a' b' c', AF kw nm nd K post top q (s + (q + 1 - (nd.2.2.2.2.1 q).toNatClampNeg)) pg' ∧ Q () (((((m.1.1.1.1.1, m.1.1.1.1.2), (m.1.1.1.2.1, (m.1.1.1.2.2.1, m.1.1.1.2.2.2))), ((m.1.1.2.1.1, m.1.1.2.1.2), (m.1.1.2.2.1, (m.1.1.2.2.2.1, m.1.1.2.2.2.2)))), (((m.1.2.1.1.1, m.1.2.1.1.2), (m.1.2.1.2.1, (m.1.2.1.2.2.1, m.1.2.1.2.2.2))), ((m.1.2.2.1.1, (m.1.2.2.1.2.1, m.1.2.2.1.2.2)), (m.1.2.2.2.1, (m.1.2.2.2.2.1, m.1.2.2.2.2.2))))), ((((m.2.1.1.1.1, m.2.1.1.1.2), (m.2.1.1.2.1, (m.2.1.1.2.2.1, m.2.1.1.2.2.2))), ((m.2.1.2.1.1, m.2.1.2.1.2), (m.2.1.2.2.1, (m.2.1.2.2.2.1, m.2.1.2.2.2.2)))), (((m.2.2.1.1.1, m.2.2.1.1.2), (m.2.2.1.2.1, (m.2.2.1.2.2.1, m.2.2.1.2.2.2))), ((m.2.2.2.1.1, (m.2.2.2.1.2.1, a')), (b', (c', m.2.2.2.2.2.2)))))) ∧ A2 i pg' a' b' c' Y
def HS (kw : T_Kw) (nm : T_Nm) (nd : T_Nd) (K : T_Pg → Int32 → Int32 → Int32 → Prop) (post : Unit → T_Pg → Prop) (top : Nat) (m : T_Mo) (i : Nat) (PS : Nat → Nat) (d : Nat) (rf : T_Mo → Int32 → (Unit → T_Mo → Prop) → Prop) (q : Nat) : Prop := ∀ (f s X Y : Nat) (pg : T_Pg) (a b c : Int32) (Q : Unit → T_Mo → Prop), s + (q + 1) ≤ 1000 + (nd.2.2.2.2.1 q).toNatClampNeg → X + PS (q + 1) ≤ Y + PS (nd.2.2.2.2.1 q).toNatClampNeg → Y ≤ 12000 → (B2 i pg a b c X ∨ C2 i pg a b c X) → wp_Pg_layNode_L4 kw nm nd K post f pg (Int32.ofNat top) (Int32.ofNat q) (Int32.ofNat s) → wp_Mo_statementOut d rf (((((m.1.1.1.1.1, m.1.1.1.1.2), (m.1.1.1.2.1, (m.1.1.1.2.2.1, m.1.1.1.2.2.2))), ((m.1.1.2.1.1, m.1.1.2.1.2), (m.1.1.2.2.1, (m.1.1.2.2.2.1, m.1.1.2.2.2.2)))), (((m.1.2.1.1.1, m.1.2.1.1.2), (m.1.2.1.2.1, (m.1.2.1.2.2.1, m.1.2.1.2.2.2))), ((m.1.2.2.1.1, (m.1.2.2.1.2.1, m.1.2.2.1.2.2)), (m.1.2.2.2.1, (m.1.2.2.2.2.1, m.1.2.2.2.2.2))))), ((((m.2.1.1.1.1, m.2.1.1.1.2), (m.2.1.1.2.1, (m.2.1.1.2.2.1, m.2.1.1.2.2.2))), ((m.2.1.2.1.1, m.2.1.2.1.2), (m.2.1.2.2.1, (m.2.1.2.2.2.1, m.2.1.2.2.2.2)))), (((m.2.2.1.1.1, m.2.2.1.1.2), (m.2.2.1.2.1, (m.2.2.1.2.2.1, m.2.2.1.2.2.2))), ((m.2.2.2.1.1, (m.2.2.2.1.2.1, a)), (b, (c, m.2.2.2.2.2.2)))))) (Int32.ofNat q) Q → ∃ pg' a' b' c', AF kw nm nd K post top q (s + (q + 1 - (nd.2.2.2.2.1 q).toNatClampNeg)) pg' ∧ Q () (((((m.1.1.1.1.1, m.1.1.1.1.2), (m.1.1.1.2.1, (m.1.1.1.2.2.1, m.1.1.1.2.2.2))), ((m.1.1.2.1.1, m.1.1.2.1.2), (m.1.1.2.2.1, (m.1.1.2.2.2.1, m.1.1.2.2.2.2)))), (((m.1.2.1.1.1, m.1.2.1.1.2), (m.1.2.1.2.1, (m.1.2.1.2.2.1, m.1.2.1.2.2.2))), ((m.1.2.2.1.1, (m.1.2.2.1.2.1, m.1.2.2.1.2.2)), (m.1.2.2.2.1, (m.1.2.2.2.2.1, m.1.2.2.2.2.2))))), ((((m.2.1.1.1.1, m.2.1.1.1.2), (m.2.1.1.2.1, (m.2.1.1.2.2.1, m.2.1.1.2.2.2))), ((m.2.1.2.1.1, m.2.1.2.1.2), (m.2.1.2.2.1, (m.2.1.2.2.2.1, m.2.1.2.2.2.2)))), (((m.2.2.1.1.1, m.2.2.1.1.2), (m.2.2.1.2.1, (m.2.2.1.2.2.1, m.2.2.1.2.2.2))), ((m.2.2.2.1.1, (m.2.2.2.1.2.1, a')), (b', (c', m.2.2.2.2.2.2)))))) ∧ B2 i pg' a' b' c' Y
/-- the reference at a kid of a statement -/
theorem l308_in {kw : T_Kw} {nm : T_Nm} {nd : T_Nd} {m : T_Mo} {n cn : Nat} {kf : Nat → List Nat} {PS : Nat → Nat} (tr : TR nm nd m kw n cn kf PS) {d k f j : Nat} {a b c w y0 : Int32} {rf : T_Mo → Int32 → (Unit → T_Mo → Prop) → Prop} {KM : T_Mo → Int32 → Int32 → Int32 → Int32 → Int32 → Prop} {pq : Unit → T_Mo → Prop} (hk : k < n) (hj : j < (kf k).length) (h : wp_Mo_statementOut_L308 d rf KM pq f (((((m.1.1.1.1.1, m.1.1.1.1.2), (m.1.1.1.2.1, (m.1.1.1.2.2.1, m.1.1.1.2.2.2))), ((m.1.1.2.1.1, m.1.1.2.1.2), (m.1.1.2.2.1, (m.1.1.2.2.2.1, m.1.1.2.2.2.2)))), (((m.1.2.1.1.1, m.1.2.1.1.2), (m.1.2.1.2.1, (m.1.2.1.2.2.1, m.1.2.1.2.2.2))), ((m.1.2.2.1.1, (m.1.2.2.1.2.1, m.1.2.2.1.2.2)), (m.1.2.2.2.1, (m.1.2.2.2.2.1, m.1.2.2.2.2.2))))), ((((m.2.1.1.1.1, m.2.1.1.1.2), (m.2.1.1.2.1, (m.2.1.1.2.2.1, m.2.1.1.2.2.2))), ((m.2.1.2.1.1, m.2.1.2.1.2), (m.2.1.2.2.1, (m.2.1.2.2.2.1, m.2.1.2.2.2.2)))), (((m.2.2.1.1.1, m.2.2.1.1.2), (m.2.2.1.2.1, (m.2.2.1.2.2.1, m.2.2.1.2.2.2))), ((m.2.2.2.1.1, (m.2.2.2.1.2.1, a)), (b, (c, m.2.2.2.2.2.2)))))) (Int32.ofNat k) w (Int32.ofNat (kf k).length) y0 (Int32.ofNat j)) : ∃ f', (nd.1 (kf k)[j] = 23 ∧ ((¬ (j = 2 ∧ (w = 15 ∨ w = 17)) ∧ rf (((((m.1.1.1.1.1, m.1.1.1.1.2), (m.1.1.1.2.1, (m.1.1.1.2.2.1, m.1.1.1.2.2.2))), ((m.1.1.2.1.1, m.1.1.2.1.2), (m.1.1.2.2.1, (m.1.1.2.2.2.1, m.1.1.2.2.2.2)))), (((m.1.2.1.1.1, m.1.2.1.1.2), (m.1.2.1.2.1, (m.1.2.1.2.2.1, m.1.2.1.2.2.2))), ((m.1.2.2.1.1, (m.1.2.2.1.2.1, m.1.2.2.1.2.2)), (m.1.2.2.2.1, (m.1.2.2.2.2.1, m.1.2.2.2.2.2))))), ((((m.2.1.1.1.1, m.2.1.1.1.2), (m.2.1.1.2.1, (m.2.1.1.2.2.1, m.2.1.1.2.2.2))), ((m.2.1.2.1.1, m.2.1.2.1.2), (m.2.1.2.2.1, (m.2.1.2.2.2.1, m.2.1.2.2.2.2)))), (((m.2.2.1.1.1, m.2.2.1.1.2), (m.2.2.1.2.1, (m.2.2.1.2.2.1, m.2.2.1.2.2.2))), ((m.2.2.2.1.1, (m.2.2.2.1.2.1, a)), (b, (c, m.2.2.2.2.2.2)))))) (Int32.ofNat (kf k)[j]) (fun (_ : Unit) (u : T_Mo) => wp_Mo_statementOut_L308 d rf KM pq f' u (Int32.ofNat k) w (Int32.ofNat (kf k).length) y0 (Int32.ofNat (j + 1)))) ∨ (j = 2 ∧ w = 15 ∧ wp_Mo_word (((((m.1.1.1.1.1, m.1.1.1.1.2), (m.1.1.1.2.1, (m.1.1.1.2.2.1, m.1.1.1.2.2.2))), ((m.1.1.2.1.1, m.1.1.2.1.2), (m.1.1.2.2.1, (m.1.1.2.2.2.1, m.1.1.2.2.2.2)))), (((m.1.2.1.1.1, m.1.2.1.1.2), (m.1.2.1.2.1, (m.1.2.1.2.2.1, m.1.2.1.2.2.2))), ((m.1.2.2.1.1, (m.1.2.2.1.2.1, m.1.2.2.1.2.2)), (m.1.2.2.2.1, (m.1.2.2.2.2.1, m.1.2.2.2.2.2))))), ((((m.2.1.1.1.1, m.2.1.1.1.2), (m.2.1.1.2.1, (m.2.1.1.2.2.1, m.2.1.1.2.2.2))), ((m.2.1.2.1.1, m.2.1.2.1.2), (m.2.1.2.2.1, (m.2.1.2.2.2.1, m.2.1.2.2.2.2)))), (((m.2.2.1.1.1, m.2.2.1.1.2), (m.2.2.1.2.1, (m.2.2.1.2.2.1, m.2.2.1.2.2.2))), ((m.2.2.2.1.1, (m.2.2.2.1.2.1, a)), (b, (c, m.2.2.2.2.2.2)))))) (1702063205 : Int64) (fun (_ : Unit) (u25 : T_Mo) => wp_Mo_kid u25 (Int32.ofNat k) (Int32.ofNat j) (fun (r26 : Int32) (_ : Unit) => rf u25 r26 (fun (_ : Unit) (u : T_Mo) => wp_Mo_statementOut_L308 d rf KM pq f' u (Int32.ofNat k) w (Int32.ofNat (kf k).length) y0 (Int32.ofNat (j + 1)))))) ∨ (j = 2 ∧ w = 17 ∧ wp_Mo_word (((((m.1.1.1.1.1, m.1.1.1.1.2), (m.1.1.1.2.1, (m.1.1.1.2.2.1, m.1.1.1.2.2.2))), ((m.1.1.2.1.1, m.1.1.2.1.2), (m.1.1.2.2.1, (m.1.1.2.2.2.1, m.1.1.2.2.2.2)))), (((m.1.2.1.1.1, m.1.2.1.1.2), (m.1.2.1.2.1, (m.1.2.1.2.2.1, m.1.2.1.2.2.2))), ((m.1.2.2.1.1, (m.1.2.2.1.2.1, m.1.2.2.1.2.2)), (m.1.2.2.2.1, (m.1.2.2.2.2.1, m.1.2.2.2.2.2))))), ((((m.2.1.1.1.1, m.2.1.1.1.2), (m.2.1.1.2.1, (m.2.1.1.2.2.1, m.2.1.1.2.2.2))), ((m.2.1.2.1.1, m.2.1.2.1.2), (m.2.1.2.2.1, (m.2.1.2.2.2.1, m.2.1.2.2.2.2)))), (((m.2.2.1.1.1, m.2.2.1.1.2), (m.2.2.1.2.1, (m.2.2.1.2.2.1, m.2.2.1.2.2.2))), ((m.2.2.2.1.1, (m.2.2.2.1.2.1, a)), (b, (c, m.2.2.2.2.2.2)))))) (1852139636 : Int64) (fun (_ : Unit) (u25 : T_Mo) => wp_Mo_kid u25 (Int32.ofNat k) (Int32.ofNat j) (fun (r26 : Int32) (_ : Unit) => rf u25 r26 (fun (_ : Unit) (u : T_Mo) => wp_Mo_statementOut_L308 d rf KM pq f' u (Int32.ofNat k) w (Int32.ofNat (kf k).length) y0 (Int32.ofNat (j + 1)))))))) ∨ (¬ nd.1 (kf k)[j] = 23 ∧ wp_Mo_sumOut d (((((m.1.1.1.1.1, m.1.1.1.1.2), (m.1.1.1.2.1, (m.1.1.1.2.2.1, m.1.1.1.2.2.2))), ((m.1.1.2.1.1, m.1.1.2.1.2), (m.1.1.2.2.1, (m.1.1.2.2.2.1, m.1.1.2.2.2.2)))), (((m.1.2.1.1.1, m.1.2.1.1.2), (m.1.2.1.2.1, (m.1.2.1.2.2.1, m.1.2.1.2.2.2))), ((m.1.2.2.1.1, (m.1.2.2.1.2.1, m.1.2.2.1.2.2)), (m.1.2.2.2.1, (m.1.2.2.2.2.1, m.1.2.2.2.2.2))))), ((((m.2.1.1.1.1, m.2.1.1.1.2), (m.2.1.1.2.1, (m.2.1.1.2.2.1, m.2.1.1.2.2.2))), ((m.2.1.2.1.1, m.2.1.2.1.2), (m.2.1.2.2.1, (m.2.1.2.2.2.1, m.2.1.2.2.2.2)))), (((m.2.2.1.1.1, m.2.2.1.1.2), (m.2.2.1.2.1, (m.2.2.1.2.2.1, m.2.2.1.2.2.2))), ((m.2.2.2.1.1, (m.2.2.2.1.2.1, a)), (b, (c, m.2.2.2.2.2.2)))))) (Int32.ofNat (kf k)[j]) (-1) 1 (fun (_ : Unit) (u9 : T_Mo) => ((Int32.ofNat j) = 0 → ((w = (13 : Int32) → wp_Mo_word u9 (28265 : Int64) (fun (_ : Unit) (u : T_Mo) => wp_Mo_statementOut_L308 d rf KM pq f' u (Int32.ofNat k) w (Int32.ofNat (kf k).length) y0 (Int32.ofNat (j + 1)))) ∧ (¬ w = (13 : Int32) → wp_Mo_statementOut_L308 d rf KM pq f' u9 (Int32.ofNat k) w (Int32.ofNat (kf k).length) y0 (Int32.ofNat (j + 1))))) ∧ (¬ (Int32.ofNat j) = 0 → wp_Mo_statementOut_L308 d rf KM pq f' u9 (Int32.ofNat k) w (Int32.ofNat (kf k).length) y0 (Int32.ofNat (j + 1))))) := by
  have tr0 := tr
  obtain ⟨hh, kz, ec, n9, em, c9, per, nam⟩ := tr
  have l9 : (kf k).length ≤ 1000 := by
    obtain ⟨-, -, -, ⟨x, -, -, -, q⟩, -⟩ := per k hk
    omega
  have mj : (kf k)[j] ∈ kf k := List.getElem_mem hj
  have lj := TR_lt tr0 hk mj
  cases f with
  | zero => exact False.elim h
  | succ f' =>
  refine ⟨f', ?_⟩
  rw [wp_Mo_statementOut_L308] at h
  replace h := h.2 (by rw [on_le (by omega) (by omega)]; omega)
  rw [on_succ (by omega)] at h
  replace h := ko_kid tr0 hk hj rfl h
  unfold wp_Mo_node1 at h
  dsimp only at h
  replace h := h.2
  rw [no_ix hh (by omega), ← (per _ (show (kf k)[j] < n by omega)).1] at h
  rcases br_el h with ⟨q, h⟩ | ⟨q, h⟩
  · refine Or.inl ⟨q, ?_⟩
    rcases br_el h with ⟨q2, h⟩ | ⟨q2, h⟩
    · have j2 : j = 2 := on_inj (by omega) (by omega) q2
      rcases br_el h with ⟨q3, h⟩ | ⟨q3, h⟩
      · exact Or.inr (Or.inl ⟨j2, q3, h⟩)
      · replace h := h.1 q2
        rcases br_el h with ⟨q4, h⟩ | ⟨q4, h⟩
        · exact Or.inr (Or.inr ⟨j2, q4, h⟩)
        · exact Or.inl ⟨fun z => z.2.elim q3 q4, ko_kid tr0 hk hj rfl h⟩
    · replace h := h.2 q2
      exact Or.inl ⟨fun z => q2 (by rw [z.1]; rfl), ko_kid tr0 hk hj rfl h⟩
  · exact Or.inr ⟨q, ko_kid tr0 hk hj rfl h⟩
set_option maxHeartbeats 4000000 in
/-- the kids of a statement -/
theorem ks_loop {kw : T_Kw} {nm : T_Nm} {nd : T_Nd} {m : T_Mo} {n cn : Nat} {kf : Nat → List Nat} {PS : Nat → Nat} {K : T_Pg → Int32 → Int32 → Int32 → Prop} {post : Unit → T_Pg → Prop} {top : Nat} {i d k : Nat} (tr : TR nm nd m kw n cn kf PS) (tn : top < n) (kt : k ≤ top) {w y0 : Int32} {rf : T_Mo → Int32 → (Unit → T_Mo → Prop) → Prop} {KM : T_Mo → Int32 → Int32 → Int32 → Int32 → Int32 → Prop} {pq : Unit → T_Mo → Prop} (ew : nd.1 k = w) (w1 : 10 ≤ w) (w9 : w ≤ 22) (hrf : ∀ q, q < k → nd.1 q = 23 → HB kw nm nd K post top m i PS rf q) (s13 : w = 13 → (kf k).length = 2 ∧ ∀ h0, nd.1 ((kf k)[0]'h0) ≤ 9) (s15 : w = 15 ∨ w = 17 → (kf k).length ≤ 3 ∧ ∀ j (hj : j < (kf k).length), (j = 0 → nd.1 (kf k)[j] ≤ 9) ∧ (1 ≤ j → nd.1 (kf k)[j] = 23)) : ∀ (r j : Nat) (hj : j < (kf k).length), (kf k).length = j + 1 + r → ∀ (lo s X Y wr f f' : Nat) (pg : T_Pg) (a b c : Int32), FC nd.2.2.2.2.1 k lo ((kf k).drop j) → NX nd.2.2.2.2.2.2.2.2.1 (Int32.ofNat (kf k)[j]) ((kf k).drop j) → s + k ≤ 1000 + lo → (w = 13 → 1 ≤ r → 3 ≤ wr) → (w = 15 ∨ w = 17 → (kf k).length = 3 → 1 ≤ r → 5 ≤ wr) → X + PS k + wr ≤ Y + PS lo → Y ≤ 12000 → W2 i pg a b c X → wp_Pg_layNode_L4 kw nm nd K post f pg (Int32.ofNat top) (Int32.ofNat (kf k)[j]) (Int32.ofNat s) → ((nd.1 (kf k)[j] = 23 ∧ rf (((((m.1.1.1.1.1, m.1.1.1.1.2), (m.1.1.1.2.1, (m.1.1.1.2.2.1, m.1.1.1.2.2.2))), ((m.1.1.2.1.1, m.1.1.2.1.2), (m.1.1.2.2.1, (m.1.1.2.2.2.1, m.1.1.2.2.2.2)))), (((m.1.2.1.1.1, m.1.2.1.1.2), (m.1.2.1.2.1, (m.1.2.1.2.2.1, m.1.2.1.2.2.2))), ((m.1.2.2.1.1, (m.1.2.2.1.2.1, m.1.2.2.1.2.2)), (m.1.2.2.2.1, (m.1.2.2.2.2.1, m.1.2.2.2.2.2))))), ((((m.2.1.1.1.1, m.2.1.1.1.2), (m.2.1.1.2.1, (m.2.1.1.2.2.1, m.2.1.1.2.2.2))), ((m.2.1.2.1.1, m.2.1.2.1.2), (m.2.1.2.2.1, (m.2.1.2.2.2.1, m.2.1.2.2.2.2)))), (((m.2.2.1.1.1, m.2.2.1.1.2), (m.2.2.1.2.1, (m.2.2.1.2.2.1, m.2.2.1.2.2.2))), ((m.2.2.2.1.1, (m.2.2.2.1.2.1, a)), (b, (c, m.2.2.2.2.2.2)))))) (Int32.ofNat (kf k)[j]) (fun (_ : Unit) (u : T_Mo) => wp_Mo_statementOut_L308 d rf KM pq f' u (Int32.ofNat k) w (Int32.ofNat (kf k).length) y0 (Int32.ofNat (j + 1)))) ∨ (¬ nd.1 (kf k)[j] = 23 ∧ wp_Mo_sumOut d (((((m.1.1.1.1.1, m.1.1.1.1.2), (m.1.1.1.2.1, (m.1.1.1.2.2.1, m.1.1.1.2.2.2))), ((m.1.1.2.1.1, m.1.1.2.1.2), (m.1.1.2.2.1, (m.1.1.2.2.2.1, m.1.1.2.2.2.2)))), (((m.1.2.1.1.1, m.1.2.1.1.2), (m.1.2.1.2.1, (m.1.2.1.2.2.1, m.1.2.1.2.2.2))), ((m.1.2.2.1.1, (m.1.2.2.1.2.1, m.1.2.2.1.2.2)), (m.1.2.2.2.1, (m.1.2.2.2.2.1, m.1.2.2.2.2.2))))), ((((m.2.1.1.1.1, m.2.1.1.1.2), (m.2.1.1.2.1, (m.2.1.1.2.2.1, m.2.1.1.2.2.2))), ((m.2.1.2.1.1, m.2.1.2.1.2), (m.2.1.2.2.1, (m.2.1.2.2.2.1, m.2.1.2.2.2.2)))), (((m.2.2.1.1.1, m.2.2.1.1.2), (m.2.2.1.2.1, (m.2.2.1.2.2.1, m.2.2.1.2.2.2))), ((m.2.2.2.1.1, (m.2.2.2.1.2.1, a)), (b, (c, m.2.2.2.2.2.2)))))) (Int32.ofNat (kf k)[j]) (-1) 1 (fun (_ : Unit) (u9 : T_Mo) => ((Int32.ofNat j) = 0 → ((w = (13 : Int32) → wp_Mo_word u9 (28265 : Int64) (fun (_ : Unit) (u : T_Mo) => wp_Mo_statementOut_L308 d rf KM pq f' u (Int32.ofNat k) w (Int32.ofNat (kf k).length) y0 (Int32.ofNat (j + 1)))) ∧ (¬ w = (13 : Int32) → wp_Mo_statementOut_L308 d rf KM pq f' u9 (Int32.ofNat k) w (Int32.ofNat (kf k).length) y0 (Int32.ofNat (j + 1))))) ∧ (¬ (Int32.ofNat j) = 0 → wp_Mo_statementOut_L308 d rf KM pq f' u9 (Int32.ofNat k) w (Int32.ofNat (kf k).length) y0 (Int32.ofNat (j + 1)))))) → ∃ pg' a' b' c' f2, GO kw nm nd K post top k (s + (k - lo)) pg' [] ∧ wp_Mo_statementOut_L308 d rf KM pq f2 (((((m.1.1.1.1.1, m.1.1.1.1.2), (m.1.1.1.2.1, (m.1.1.1.2.2.1, m.1.1.1.2.2.2))), ((m.1.1.2.1.1, m.1.1.2.1.2), (m.1.1.2.2.1, (m.1.1.2.2.2.1, m.1.1.2.2.2.2)))), (((m.1.2.1.1.1, m.1.2.1.1.2), (m.1.2.1.2.1, (m.1.2.1.2.2.1, m.1.2.1.2.2.2))), ((m.1.2.2.1.1, (m.1.2.2.1.2.1, m.1.2.2.1.2.2)), (m.1.2.2.2.1, (m.1.2.2.2.2.1, m.1.2.2.2.2.2))))), ((((m.2.1.1.1.1, m.2.1.1.1.2), (m.2.1.1.2.1, (m.2.1.1.2.2.1, m.2.1.1.2.2.2))), ((m.2.1.2.1.1, m.2.1.2.1.2), (m.2.1.2.2.1, (m.2.1.2.2.2.1, m.2.1.2.2.2.2)))), (((m.2.2.1.1.1, m.2.2.1.1.2), (m.2.2.1.2.1, (m.2.2.1.2.2.1, m.2.2.1.2.2.2))), ((m.2.2.2.1.1, (m.2.2.2.1.2.1, a')), (b', (c', m.2.2.2.2.2.2)))))) (Int32.ofNat k) w (Int32.ofNat (kf k).length) y0 (Int32.ofNat (kf k).length) ∧ A2 i pg' a' b' c' Y := by
  have tr0 := tr
  obtain ⟨hh, kz, ec, n9, em, c9, per, nam⟩ := tr
  have kn : k < n := by omega
  obtain ⟨t1, t2, t3, ⟨a0, -, -, -, l9⟩, -, t6, t7, t8, -⟩ := per k kn
  have nw : ¬ w < 0 ∧ 9 < w := by constructor <;> grind
  have bo : ¬ w = 2 ∧ ¬ w = 3 ∧ ¬ w = 4 ∧ ¬ w = 5 ∧ ¬ w = 6 := by refine ⟨?_, ?_, ?_, ?_, ?_⟩ <;> grind
  intro r
  induction r with
  | zero =>
    intro j hj hr lo s X Y wr f f' pg a b c fc nx sb h13 h15 bud Y9 w2 hC hM
    have mj : (kf k)[j] ∈ kf k := List.getElem_mem hj
    have lj := TR_lt tr0 kn mj
    have kk := (t8 _ mj).2.1 (by rw [ew]; exact w1) (by rw [ew]; exact w9)
    rw [List.drop_eq_getElem_cons hj, List.drop_eq_nil_of_le (by omega)] at fc nx
    obtain ⟨fc1, fc2, fc3⟩ := fc
    have fc3 : (kf k)[j] + 1 = k := fc3
    obtain ⟨-, nx⟩ := nx
    have nx : nd.2.2.2.2.2.2.2.2.1 (kf k)[j] = -1 := nx
    have pk : PS ((kf k)[j] + 1) = PS k := by rw [fc3]
    have el : (kf k).length = j + 1 := by omega
    rcases hM with ⟨q, hM⟩ | ⟨q, hM⟩
    · obtain ⟨pg1, a1, b1, c1, hC, hM, w3⟩ := hrf _ lj q f s X Y pg a b c _ (by omega) (by rw [fc1]; omega) Y9 w2 hC hM
      refine ⟨pg1, a1, b1, c1, f', ?_, by rw [el] at hM ⊢; exact hM, w3⟩
      have es : s + (k - lo) = s + ((kf k)[j] + 1 - (nd.2.2.2.2.1 (kf k)[j]).toNatClampNeg) := by omega
      rw [es]; exact AF_end ec n9 lj kt tn (t7 _ mj) nx hC
    · obtain ⟨pg1, a1, b1, c1, hC, hM, w3⟩ := sim_expr tr0 tn (kf k)[j] d f s X Y 0 k pg a b c (-1) 1 _ (by omega) (kk.resolve_right q) kn (t7 _ mj) ⟨fun z => absurd z (BK_out (by decide)), fun z => absurd z (BK_out (by rw [ew]; exact bo))⟩ (fun z => absurd z (BK_out (by decide))) (by omega) (by rw [fc1]; omega) Y9 w2 hC hM
      have hM : wp_Mo_statementOut_L308 d rf KM pq f' (((((m.1.1.1.1.1, m.1.1.1.1.2), (m.1.1.1.2.1, (m.1.1.1.2.2.1, m.1.1.1.2.2.2))), ((m.1.1.2.1.1, m.1.1.2.1.2), (m.1.1.2.2.1, (m.1.1.2.2.2.1, m.1.1.2.2.2.2)))), (((m.1.2.1.1.1, m.1.2.1.1.2), (m.1.2.1.2.1, (m.1.2.1.2.2.1, m.1.2.1.2.2.2))), ((m.1.2.2.1.1, (m.1.2.2.1.2.1, m.1.2.2.1.2.2)), (m.1.2.2.2.1, (m.1.2.2.2.2.1, m.1.2.2.2.2.2))))), ((((m.2.1.1.1.1, m.2.1.1.1.2), (m.2.1.1.2.1, (m.2.1.1.2.2.1, m.2.1.1.2.2.2))), ((m.2.1.2.1.1, m.2.1.2.1.2), (m.2.1.2.2.1, (m.2.1.2.2.2.1, m.2.1.2.2.2.2)))), (((m.2.2.1.1.1, m.2.2.1.1.2), (m.2.2.1.2.1, (m.2.2.1.2.2.1, m.2.2.1.2.2.2))), ((m.2.2.2.1.1, (m.2.2.2.1.2.1, a1)), (b1, (c1, m.2.2.2.2.2.2)))))) (Int32.ofNat k) w (Int32.ofNat (kf k).length) y0 (Int32.ofNat (j + 1)) := by
        rcases br_el hM with ⟨z, hM⟩ | ⟨z, hM⟩
        · have z : j = 0 := on_inj (by omega) (by omega) z
          exact hM.2 (fun y => by have := (s13 y).1; omega)
        · exact hM
      refine ⟨pg1, a1, b1, c1, f', ?_, by rw [el] at hM ⊢; exact hM, w3⟩
      have es : s + (k - lo) = s + ((kf k)[j] + 1 - (nd.2.2.2.2.1 (kf k)[j]).toNatClampNeg) := by omega
      rw [es]; exact AF_end ec n9 lj kt tn (t7 _ mj) nx hC
  | succ r ih =>
    intro j hj hr lo s X Y wr f f' pg a b c fc nx sb h13 h15 bud Y9 w2 hC hM
    have mj : (kf k)[j] ∈ kf k := List.getElem_mem hj
    have lj := TR_lt tr0 kn mj
    have kk := (t8 _ mj).2.1 (by rw [ew]; exact w1) (by rw [ew]; exact w9)
    have hj1 : j + 1 < (kf k).length := by omega
    have my : (kf k)[j + 1] ∈ kf k := List.getElem_mem hj1
    have ly := TR_lt tr0 kn my
    rw [List.drop_eq_getElem_cons hj] at fc nx
    obtain ⟨fc1, fc2, fc3⟩ := fc
    obtain ⟨-, nx⟩ := nx
    have nxy : nd.2.2.2.2.2.2.2.2.1 (kf k)[j] = Int32.ofNat (kf k)[j + 1] := by
      rw [List.drop_eq_getElem_cons hj1] at nx; exact nx.1
    rw [nxy] at nx
    have fle := FC_le _ _ fc3
    have pm1 := TR_ps tr0 (i := lo) ((kf k)[j] + 1) (by omega) (by omega)
    have pm2 := TR_ps tr0 (i := (kf k)[j] + 1) k (by omega) (by omega)
    have bud1 : X + PS ((kf k)[j] + 1) ≤ (X + PS ((kf k)[j] + 1) - PS lo) + PS lo := by omega
    have es : s + (k - lo) = s + ((kf k)[j] + 1 - (nd.2.2.2.2.1 (kf k)[j]).toNatClampNeg) + (k - ((kf k)[j] + 1)) := by omega
    rw [es]
    -- what comes behind the kid
    have rest : ∀ {pg1 : T_Pg} {a1 b1 c1 : Int32}, AF kw nm nd K post top (kf k)[j] (s + ((kf k)[j] + 1 - (nd.2.2.2.2.1 (kf k)[j]).toNatClampNeg)) pg1 → A2 i pg1 a1 b1 c1 (X + PS ((kf k)[j] + 1) - PS lo) → ((j = 0 ∧ w = 13 ∧ wp_Mo_word (((((m.1.1.1.1.1, m.1.1.1.1.2), (m.1.1.1.2.1, (m.1.1.1.2.2.1, m.1.1.1.2.2.2))), ((m.1.1.2.1.1, m.1.1.2.1.2), (m.1.1.2.2.1, (m.1.1.2.2.2.1, m.1.1.2.2.2.2)))), (((m.1.2.1.1.1, m.1.2.1.1.2), (m.1.2.1.2.1, (m.1.2.1.2.2.1, m.1.2.1.2.2.2))), ((m.1.2.2.1.1, (m.1.2.2.1.2.1, m.1.2.2.1.2.2)), (m.1.2.2.2.1, (m.1.2.2.2.2.1, m.1.2.2.2.2.2))))), ((((m.2.1.1.1.1, m.2.1.1.1.2), (m.2.1.1.2.1, (m.2.1.1.2.2.1, m.2.1.1.2.2.2))), ((m.2.1.2.1.1, m.2.1.2.1.2), (m.2.1.2.2.1, (m.2.1.2.2.2.1, m.2.1.2.2.2.2)))), (((m.2.2.1.1.1, m.2.2.1.1.2), (m.2.2.1.2.1, (m.2.2.1.2.2.1, m.2.2.1.2.2.2))), ((m.2.2.2.1.1, (m.2.2.2.1.2.1, a1)), (b1, (c1, m.2.2.2.2.2.2)))))) (28265 : Int64) (fun (_ : Unit) (u : T_Mo) => wp_Mo_statementOut_L308 d rf KM pq f' u (Int32.ofNat k) w (Int32.ofNat (kf k).length) y0 (Int32.ofNat (j + 1)))) ∨ (¬ (j = 0 ∧ w = 13) ∧ wp_Mo_statementOut_L308 d rf KM pq f' (((((m.1.1.1.1.1, m.1.1.1.1.2), (m.1.1.1.2.1, (m.1.1.1.2.2.1, m.1.1.1.2.2.2))), ((m.1.1.2.1.1, m.1.1.2.1.2), (m.1.1.2.2.1, (m.1.1.2.2.2.1, m.1.1.2.2.2.2)))), (((m.1.2.1.1.1, m.1.2.1.1.2), (m.1.2.1.2.1, (m.1.2.1.2.2.1, m.1.2.1.2.2.2))), ((m.1.2.2.1.1, (m.1.2.2.1.2.1, m.1.2.2.1.2.2)), (m.1.2.2.2.1, (m.1.2.2.2.2.1, m.1.2.2.2.2.2))))), ((((m.2.1.1.1.1, m.2.1.1.1.2), (m.2.1.1.2.1, (m.2.1.1.2.2.1, m.2.1.1.2.2.2))), ((m.2.1.2.1.1, m.2.1.2.1.2), (m.2.1.2.2.1, (m.2.1.2.2.2.1, m.2.1.2.2.2.2)))), (((m.2.2.1.1.1, m.2.2.1.1.2), (m.2.2.1.2.1, (m.2.2.1.2.2.1, m.2.2.1.2.2.2))), ((m.2.2.2.1.1, (m.2.2.2.1.2.1, a1)), (b1, (c1, m.2.2.2.2.2.2)))))) (Int32.ofNat k) w (Int32.ofNat (kf k).length) y0 (Int32.ofNat (j + 1)))) → ∃ pg' a' b' c' f2, GO kw nm nd K post top k (s + ((kf k)[j] + 1 - (nd.2.2.2.2.1 (kf k)[j]).toNatClampNeg) + (k - ((kf k)[j] + 1))) pg' [] ∧ wp_Mo_statementOut_L308 d rf KM pq f2 (((((m.1.1.1.1.1, m.1.1.1.1.2), (m.1.1.1.2.1, (m.1.1.1.2.2.1, m.1.1.1.2.2.2))), ((m.1.1.2.1.1, m.1.1.2.1.2), (m.1.1.2.2.1, (m.1.1.2.2.2.1, m.1.1.2.2.2.2)))), (((m.1.2.1.1.1, m.1.2.1.1.2), (m.1.2.1.2.1, (m.1.2.1.2.2.1, m.1.2.1.2.2.2))), ((m.1.2.2.1.1, (m.1.2.2.1.2.1, m.1.2.2.1.2.2)), (m.1.2.2.2.1, (m.1.2.2.2.2.1, m.1.2.2.2.2.2))))), ((((m.2.1.1.1.1, m.2.1.1.1.2), (m.2.1.1.2.1, (m.2.1.1.2.2.1, m.2.1.1.2.2.2))), ((m.2.1.2.1.1, m.2.1.2.1.2), (m.2.1.2.2.1, (m.2.1.2.2.2.1, m.2.1.2.2.2.2)))), (((m.2.2.1.1.1, m.2.2.1.1.2), (m.2.2.1.2.1, (m.2.2.1.2.2.1, m.2.2.1.2.2.2))), ((m.2.2.2.1.1, (m.2.2.2.1.2.1, a')), (b', (c', m.2.2.2.2.2.2)))))) (Int32.ofNat k) w (Int32.ofNat (kf k).length) y0 (Int32.ofNat (kf k).length) ∧ A2 i pg' a' b' c' Y := by
      intro pg1 a1 b1 c1 hC w3 hM
      obtain ⟨f3, hC⟩ := AF_next ec n9 (k' := (kf k)[j + 1]) (by omega) tn (by omega) nxy hC
      rcases hM with ⟨j0, e13, hM⟩ | ⟨n13, hM⟩
      · have len2 := (s13 e13).1
        have h3 := h13 e13 (by omega)
        obtain ⟨pg2, a2, b2, hC, hM, w4⟩ := tk_in (m := m) kz (A2_W w3) (by omega) (pb_in ec n9 (by omega) kn (t7 _ mj) (by rw [ew, e13]) hC) hM
        obtain ⟨f4, hM⟩ := l308_in tr0 kn hj1 hM
        refine ih (j + 1) hj1 (by omega) _ _ _ Y (wr - 3) f3 f4 pg2 a2 b2 1 fc3 nx (by omega) (fun _ _ => by omega) (fun _ _ _ => by omega) (by omega) Y9 (A2_W w4) hC ?_
        rcases hM with ⟨q, hM⟩ | ⟨q, hM⟩
        · rcases hM with ⟨-, hM⟩ | ⟨z, -⟩ | ⟨z, -⟩
          · exact Or.inl ⟨q, hM⟩
          · omega
          · omega
        · exact Or.inr ⟨q, hM⟩
      · obtain ⟨f4, hM⟩ := l308_in tr0 kn hj1 hM
        rcases Classical.em (nd.1 (kf k)[j] = 23 ∧ (w = 15 ∨ w = 17)) with ⟨k23, e15⟩ | nsp
        · obtain ⟨len3, sh⟩ := s15 e15
          have j1 : j = 1 := by
            rcases Nat.lt_or_ge 0 j with z | z
            · omega
            · have := (sh j hj).1 (by omega)
              rw [k23] at this
              exact absurd this (by decide)
          have y23 := (sh (j + 1) hj1).2 (by omega)
          have h5 := h15 e15 (by omega) (by omega)
          rcases hM with ⟨q, hM⟩ | ⟨q, -⟩
          · rcases hM with ⟨z, -⟩ | ⟨z, e5, hM⟩ | ⟨z, e7, hM⟩
            · exact absurd ⟨by omega, e15⟩ z
            · obtain ⟨pg2, a2, b2, hC, hM, w4⟩ := tk_else (m := m) kz (A2_W w3) (by omega) (pb_else ec n9 (by omega) kn (t7 _ mj) (by rw [ew, e5]) k23 hC) hM
              exact ih (j + 1) hj1 (by omega) _ _ _ Y (wr - 5) f3 f4 pg2 a2 b2 1 fc3 nx (by omega) (fun _ _ => by omega) (fun _ _ _ => by omega) (by omega) Y9 (A2_W w4) hC (Or.inl ⟨q, ko_kid tr0 kn hj1 rfl hM⟩)
            · obtain ⟨pg2, a2, b2, hC, hM, w4⟩ := tk_then (m := m) kz (A2_W w3) (by omega) (pb_then ec n9 (by omega) kn (t7 _ mj) (by rw [ew, e7]) k23 hC) hM
              exact ih (j + 1) hj1 (by omega) _ _ _ Y (wr - 5) f3 f4 pg2 a2 b2 1 fc3 nx (by omega) (fun _ _ => by omega) (fun _ _ _ => by omega) (by omega) Y9 (A2_W w4) hC (Or.inl ⟨q, ko_kid tr0 kn hj1 rfl hM⟩)
          · exact absurd y23 q
        · have v13 : ¬ w = 13 := fun z => by
            have := (s13 z).1
            exact n13 ⟨by omega, z⟩
          replace hC := pb_none ec n9 (by omega) kn (t7 _ mj) ew nw.1 nw.2 v13 (fun z => ⟨fun y => nsp ⟨z, Or.inl y⟩, fun y => nsp ⟨z, Or.inr y⟩⟩) hC
          refine ih (j + 1) hj1 (by omega) _ _ _ Y wr f3 f4 pg1 a1 b1 c1 fc3 nx (by omega) (fun z => absurd z v13) (fun z1 z2 _ => h15 z1 z2 (by omega)) (by omega) Y9 (A2_W w3) hC ?_
          rcases hM with ⟨q, hM⟩ | ⟨q, hM⟩
          · rcases hM with ⟨-, hM⟩ | ⟨z, e5, -⟩ | ⟨z, e7, -⟩
            · exact Or.inl ⟨q, hM⟩
            · exact absurd ⟨((s15 (Or.inl e5)).2 j hj).2 (by omega), Or.inl e5⟩ nsp
            · exact absurd ⟨((s15 (Or.inr e7)).2 j hj).2 (by omega), Or.inr e7⟩ nsp
          · exact Or.inr ⟨q, hM⟩
    rcases hM with ⟨q, hM⟩ | ⟨q, hM⟩
    · obtain ⟨pg1, a1, b1, c1, hC, hM, w3⟩ := hrf _ lj q f s X (X + PS ((kf k)[j] + 1) - PS lo) pg a b c _ (by omega) (by rw [fc1]; omega) (by omega) w2 hC hM
      exact rest hC w3 (Or.inr ⟨fun z => by
        obtain ⟨z1, z2⟩ := z
        subst z1
        have := (s13 z2).2 hj
        rw [q] at this
        exact absurd this (by decide), hM⟩)
    · obtain ⟨pg1, a1, b1, c1, hC, hM, w3⟩ := sim_expr tr0 tn (kf k)[j] d f s X (X + PS ((kf k)[j] + 1) - PS lo) 0 k pg a b c (-1) 1 _ (by omega) (kk.resolve_right q) kn (t7 _ mj) ⟨fun z => absurd z (BK_out (by decide)), fun z => absurd z (BK_out (by rw [ew]; exact bo))⟩ (fun z => absurd z (BK_out (by decide))) (by omega) (by rw [fc1]; omega) (by omega) w2 hC hM
      refine rest hC w3 ?_
      rcases br_el hM with ⟨z, hM⟩ | ⟨z, hM⟩
      · have z : j = 0 := on_inj (by omega) (by omega) z
        rcases br_el hM with ⟨y, hM⟩ | ⟨y, hM⟩
        · exact Or.inl ⟨z, y, hM⟩
        · exact Or.inr ⟨fun x => y x.2, hM⟩
      · exact Or.inr ⟨fun x => z (by rw [x.1]; rfl), hM⟩

