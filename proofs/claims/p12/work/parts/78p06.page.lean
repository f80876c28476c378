theorem ld_up {n : Nat} : ∀ k, n < 10 ^ (k + 1) → n < 10 ^ (ld n k + 1)
  | 0, h => h
  | k + 1, h => by
    show n < 10 ^ ((if 10 ^ (k + 1) ≤ n then k + 1 else ld n k) + 1)
    split
    · exact h
    · rename_i q
      exact ld_up k (by omega)
theorem fr_low {F : Nat} : (¬ F = 0 → 1 ≤ (fr F 3).length) ∧ (¬ F % 100 = 0 → 2 ≤ (fr F 3).length) ∧ (¬ F % 10 = 0 → 3 ≤ (fr F 3).length) := by
  have e3 : fr F 3 = if F = 0 then [] else Int32.ofNat (48 + F / 10 ^ 2) :: fr (F % 10 ^ 2) 2 := rfl
  have e2 : fr (F % 10 ^ 2) 2 = if F % 10 ^ 2 = 0 then [] else Int32.ofNat (48 + F % 10 ^ 2 / 10 ^ 1) :: fr (F % 10 ^ 2 % 10 ^ 1) 1 := rfl
  have e1 : fr (F % 10 ^ 2 % 10 ^ 1) 1 = if F % 10 ^ 2 % 10 ^ 1 = 0 then [] else Int32.ofNat (48 + F % 10 ^ 2 % 10 ^ 1 / 10 ^ 0) :: fr (F % 10 ^ 2 % 10 ^ 1 % 10 ^ 0) 0 := rfl
  have p2 : 10 ^ 2 = 100 := rfl
  have p1 : 10 ^ 1 = 10 := rfl
  rw [p2] at e3 e2 e1
  rw [p1] at e2 e1
  refine ⟨fun h => ?_, fun h => ?_, fun h => ?_⟩
  · rw [e3, if_neg h, List.length_cons]; omega
  · rw [e3, if_neg (by omega), List.length_cons, e2, if_neg h, List.length_cons]; omega
  · rw [e3, if_neg (by omega), List.length_cons, e2, if_neg (by omega), List.length_cons, e1, if_neg (by omega), List.length_cons]; omega
theorem nb_eq (v : Nat) : (nb v).length = ld (v / 1000) 8 + 1 + (if v % 1000 = 0 then 0 else 1 + (fr (v % 1000) 3).length) := by
  unfold nb
  rw [List.length_append, ds_len]
  split
  · rfl
  · rw [List.length_cons]; omega
theorem nb_mul {v q t : Nat} (q1 : 1 ≤ q) (qt : q ≤ 10 ^ t) (v9 : v * q < 1000000000000) : (nb (v * q)).length ≤ (nb v).length + t := by
  have vv : v ≤ v * q := Nat.le_mul_of_pos_right v q1
  have hW := ld_up (n := v / 1000) 8 (by have : 10 ^ 9 = 1000000000 := by decide
                                         omega)
  have w1 : v * q / 1000 < 10 ^ (ld (v / 1000) 8 + 1 + t) := by
    have a : v < 1000 * (v / 1000 + 1) := by omega
    have b : v * q < 1000 * (v / 1000 + 1) * q := Nat.mul_lt_mul_of_pos_right a q1
    have c : v * q / 1000 < (v / 1000 + 1) * q := by
      rw [Nat.div_lt_iff_lt_mul (by omega)]
      calc v * q < 1000 * (v / 1000 + 1) * q := b
        _ = (v / 1000 + 1) * q * 1000 := by rw [Nat.mul_comm, ← Nat.mul_assoc, Nat.mul_comm q 1000, Nat.mul_assoc, Nat.mul_comm]; rw [Nat.mul_comm q]
    have d : (v / 1000 + 1) * q ≤ 10 ^ (ld (v / 1000) 8 + 1) * 10 ^ t := Nat.mul_le_mul hW qt
    rw [Nat.pow_add]; omega
  have l1 := ld_lt 8 _ w1 (by omega)
  have fm : v * q % 1000 = (v % 1000 * q) % 1000 := by rw [Nat.mod_mul_mod]
  rw [nb_eq, nb_eq]
  have f9 : v * q % 1000 < 1000 := Nat.mod_lt _ (by omega)
  have g9 : v % 1000 < 1000 := Nat.mod_lt _ (by omega)
  have lo := fr_low (F := v % 1000)
  have key : (if v * q % 1000 = 0 then 0 else 1 + (fr (v * q % 1000) 3).length) ≤ (if v % 1000 = 0 then 0 else 1 + (fr (v % 1000) 3).length) := by
    by_cases z : v % 1000 = 0
    · have fz : v * q % 1000 = 0 := by rw [fm, z, Nat.zero_mul]
      rw [if_pos z, if_pos fz]
      exact Nat.le_refl _
    · rw [if_neg z]
      split
      · omega
      · have up3 := fr_len 3 (v * q % 1000)
        by_cases z1 : v % 1000 % 100 = 0
        · have : v * q % 1000 % 10 ^ 2 = 0 := by
            rw [fm, show 10 ^ 2 = 100 from rfl, Nat.mod_mod_of_dvd _ (show 100 ∣ 1000 by decide), Nat.mul_mod, z1, Nat.zero_mul]
          have := fr_mul 3 (v * q % 1000) 2 this f9 (by omega)
          have := lo.1 z
          omega
        · by_cases z2 : v % 1000 % 10 = 0
          · have : v * q % 1000 % 10 ^ 1 = 0 := by
              rw [fm, show 10 ^ 1 = 10 from rfl, Nat.mod_mod_of_dvd _ (show 10 ∣ 1000 by decide), Nat.mul_mod, z2, Nat.zero_mul]
            have := fr_mul 3 (v * q % 1000) 1 this f9 (by omega)
            have := lo.2.1 z1
            omega
          · have := lo.2.2 z2
            omega
  omega
theorem tw_sg {m : T_Mo} {x : Int32} (t : TW m) (e : m.1.1.1.2.2.2 = x) (h1 : ¬ x = 1) (h2 : x < 999) : m.1.1.2.1.2.toNatClampNeg - m.1.1.2.1.1.toNatClampNeg = 1 := by
  rcases t with t | ⟨-, t⟩ | ⟨t, -⟩ | ⟨t, -⟩
  · exact absurd (e.symm.trans t) h1
  · omega
  · rw [e] at t; rw [t] at h2; exact absurd h2 (by decide)
  · have b := (KP_b (KP_all (wo m))).2
    rw [← t, e] at b
    exact absurd h2 (Int32.not_lt.mpr b)
theorem add_inj {a b c : Int32} (h : a + b = a + c) : b = c := by
  have := congrArg (fun x => x - a) h
  simp only [Int32.add_comm a, Int32.add_sub_cancel] at this
  exact this
theorem tw_kw {m : T_Mo} {k : Int32} (t : TW m) (e : m.1.1.1.2.2.2 = (1000 : Int32) + k) (h1 : ¬ k = -1) (h2 : ¬ (1000 : Int32) + k = 1) (h3 : ¬ sg ((1000 : Int32) + k)) (h4 : ¬ (1000 : Int32) + k = 2000) : m.1.1.2.1.2.toNatClampNeg - m.1.1.2.1.1.toNatClampNeg = kln k := by
  rcases t with t | ⟨t, -⟩ | ⟨t, -⟩ | ⟨t, -⟩
  · exact absurd (e.symm.trans t) h2
  · rw [e] at t; exact absurd t h3
  · exact absurd (e.symm.trans t) h4
  · have ek : mn1 (wo m) = k := add_inj (t.symm.trans e)
    rcases mn_len (wo m) with q | q
    · rw [ek] at q; exact absurd q h1
    · rw [wo_len, ek] at q; exact q
theorem LQ_ix {m : T_Mo} (h : LQ m) : m.1.1.2.1.2 - m.1.1.2.1.1 = Int32.ofNat (m.1.1.2.1.2.toNatClampNeg - m.1.1.2.1.1.toNatClampNeg) ∧ m.1.1.2.1.2.toNatClampNeg ≤ 4000 ∧ m.1.1.2.1.1.toNatClampNeg ≤ m.1.1.2.1.2.toNatClampNeg := by
  obtain ⟨q1, q2, q3, q4, q5⟩ := h
  have a := ix_le q2
  have b := ix_le (Int32.le_trans (q3 ▸ q4) q5)
  rw [show (4000 : Int32).toNatClampNeg = 4000 from rfl] at b
  refine ⟨?_, b, a⟩
  have e1 := on_ix q1
  have e2 := on_ix (Int32.le_trans q1 q2)
  apply Int32.toInt_inj.mp
  rw [← e1, ← e2, Int32.toInt_sub, on_toInt (by omega), on_toInt (by omega), ix_on (by omega), ix_on (by omega), on_toInt (by omega), Int.bmod_eq_of_le (by omega) (by omega)]
  omega
theorem nm_49 {m : T_Mo} {x1 x2 : Int32} {K : Int32 → Int32 → Int32 → Int32 → Prop} {post : Int32 → Unit → Prop} : ∀ (n : Nat) (x3 x4 : Int32), wp_Mo_nameOf_L49 m K post n x1 x2 x3 x4 → ∃ y3 y4, K x1 x2 y3 y4 ∧ (x3 = 0 → y3 = 0) := by
  intro n
  induction n with
  | zero => intro x3 x4 h; exact False.elim h
  | succ n ih =>
    intro x3 x4 h
    rw [wp_Mo_nameOf_L49] at h
    rcases br_el h.2 with ⟨q, h⟩ | ⟨q, h⟩
    · exact ⟨_, _, h, id⟩
    · rcases br_el h with ⟨q1, h⟩ | ⟨q1, h⟩
      · exact ⟨_, _, h, id⟩
      · rcases br_el h.2.2 with ⟨q2, h⟩ | ⟨q2, h⟩
        · obtain ⟨y3, y4, h, -⟩ := ih _ _ h
          exact ⟨y3, y4, h, fun z => absurd z q1⟩
        · obtain ⟨y3, y4, h, -⟩ := ih _ _ h
          exact ⟨y3, y4, h, fun z => absurd z q1⟩
theorem nm_len {m : T_Mo} {c : Nat} {P : Int32 → Unit → Prop} (hh : m.1.2.1.2.1 = 0 ∨ m.1.2.1.2.1 = 1) (ec : m.2.1.1.2.2.1 = Int32.ofNat c) (c9 : c ≤ 100) (h : wp_Mo_nameOf m P) : P (-1) () ∨ ∃ j, j < c ∧ P (Int32.ofNat j) () ∧ m.2.1.2.1.1 (Ns m.1.2.1.2.1 + j) = m.1.1.2.1.2 - m.1.1.2.1.1 := by
  unfold wp_Mo_nameOf at h
  obtain ⟨n, h⟩ := h
  have go : ∀ (d s n : Nat), s + d = c → wp_Mo_nameOf_L2 m (fun (x1 : Int32) => P (-1 : Int32) ()) P n (Int32.ofNat s) → P (-1) () ∨ ∃ j, j < c ∧ P (Int32.ofNat j) () ∧ m.2.1.2.1.1 (Ns m.1.2.1.2.1 + j) = m.1.1.2.1.2 - m.1.1.2.1.1 := by
    intro d
    induction d with
    | zero =>
      intro s n es h
      cases n with
      | zero => exact False.elim h
      | succ n =>
      rw [wp_Mo_nameOf_L2, ec] at h
      exact Or.inl (h.1 (by rw [on_le (by omega) (by omega)]; omega))
    | succ d ih =>
      intro s n es h
      cases n with
      | zero => exact False.elim h
      | succ n =>
      rw [wp_Mo_nameOf_L2, ec] at h
      replace h := (h.2 (by rw [on_le (by omega) (by omega)]; omega)).2
      rw [Ns_ix hh rfl (by omega)] at h
      rcases br_el h with ⟨q, k, h⟩ | ⟨q, k, h⟩
      · obtain ⟨y3, y4, h, -⟩ := nm_49 k _ _ h
        rcases br_el h with ⟨w, h⟩ | ⟨w, h⟩
        · rw [on_succ (by omega)] at h
          exact ih (s + 1) n (by omega) h
        · exact Or.inr ⟨s, by omega, h, q⟩
      · obtain ⟨y3, y4, h, z⟩ := nm_49 k _ _ h
        replace h := h.1 (z rfl)
        rw [on_succ (by omega)] at h
        exact ih (s + 1) n (by omega) h
  exact go c 0 n (by omega) h
theorem PQ_over {m : T_Mo} {hi s e : Nat} {a : Int32} {P : Int32 → T_Mo → Prop} (p : PQ m hi s e) (h : wp_Mo_over m a P) : ∃ r u, P r u ∧ (r = 0 ∨ (r = 1 ∧ m.1.1.1.2.2.2 = a ∧ PQ u hi (s + 2 * (m.1.1.2.1.2.toNatClampNeg - m.1.1.2.1.1.toNatClampNeg)) e ∧ FY m u hi)) := by
  unfold wp_Mo_over at h
  rcases br_el h with ⟨q, h⟩ | ⟨q, h⟩
  · obtain ⟨r, u, h, k⟩ := PQ_go p h
    exact ⟨r, u, h.2, k.imp id (fun ⟨k1, k2, k3⟩ => ⟨k1, q, k2, k3⟩)⟩
  · exact ⟨_, _, h, Or.inl rfl⟩
/-- a name that is told, of a role -/
theorem PQ_known {m : T_Mo} {hi s e : Nat} {a : Int32} {P : Int32 → T_Mo → Prop} (p : PQ m hi s e) (h : wp_Mo_known m a P) : ∃ r u, P r u ∧ (r < 0 ∨ ∃ j c : Nat, r = Int32.ofNat j ∧ j < c ∧ c ≤ 100 ∧ m.2.1.1.2.2.1 = Int32.ofNat c ∧ PQ u hi (s + 2 * (m.2.1.2.1.1 (Ns m.1.2.1.2.1 + j)).toNatClampNeg) e ∧ FY m u hi) := by
  have p0 := p
  obtain ⟨h1, lq, h3, n, km, tp, c, PS, a1, a2, a3, a4, a5, a6, a7, a8, a9, a10, a11⟩ := p
  unfold wp_Mo_known at h
  obtain ⟨r1, x1, -, q1⟩ := dt_Mo_isWord h
  replace h := q1 _ h
  unfold wp_Mo_known_J16 wp_Mo_known_J66 wp_Mo_bad at h
  rcases br_el h with ⟨b, h⟩ | ⟨b, h⟩
  · exact ⟨_, _, h.1 (by decide), Or.inl (by decide)⟩
  · rcases nm_len h1 a7 a8 h with h | ⟨j, hj, h, el⟩
    · exact ⟨_, _, h.1 (by decide), Or.inl (by decide)⟩
    · replace h := (h.2 (on_n1 (by omega)).2.1).2
      have fin : wp_Mo_known_J71 P m a (Int32.ofNat j) → ∃ r u, P r u ∧ (r < 0 ∨ ∃ j c : Nat, r = Int32.ofNat j ∧ j < c ∧ c ≤ 100 ∧ m.2.1.1.2.2.1 = Int32.ofNat c ∧ PQ u hi (s + 2 * (m.2.1.2.1.1 (Ns m.1.2.1.2.1 + j)).toNatClampNeg) e ∧ FY m u hi) := by
        intro h
        unfold wp_Mo_known_J71 wp_Mo_known_J83 at h
        obtain ⟨r, u, h, k⟩ := PQ_go p0 h
        rcases k with k | ⟨k1, k2, k3⟩
        · exact ⟨_, _, h.1 k, Or.inl (by decide)⟩
        · refine ⟨_, _, h.2 (by rw [k1]; decide), Or.inr ⟨j, c, rfl, hj, a8, a7, ?_, k3⟩⟩
          have b := LQ_ix lq
          rw [el, b.1, ix_on (by omega)]; exact k2
      rcases br_el h with ⟨b1, h⟩ | ⟨b1, h⟩
      · rcases br_el h with ⟨b2, h⟩ | ⟨b2, h⟩
        · rcases br_el h.2 with ⟨b3, h⟩ | ⟨b3, h⟩
          · exact fin h
          · exact ⟨_, _, h, Or.inl (by decide)⟩
        · exact fin h
      · exact ⟨_, _, h, Or.inl (by decide)⟩
theorem uw_of {m : T_Mo} {P : Int32 → Unit → Prop} (h : wp_Mo_unitWord0 m P) : P 0 () ∨ ∃ u : Int32, P u () ∧ (u = 1 ∨ u = 2 ∨ u = 3 ∨ u = 4 ∨ u = 5) ∧ m.1.1.1.2.2.2 = (1000 : Int32) + ((39 : Int32) + u) := by
  unfold wp_Mo_unitWord0 wp_Mo_unitWord0_J26 wp_Mo_unitWord0_J27 at h
  rcases br_el h with ⟨q, h⟩ | ⟨q, h⟩
  · exact Or.inl h
  · rcases br_el h with ⟨q1, h⟩ | ⟨q1, h⟩
    · exact Or.inl h
    · refine Or.inr ⟨_, h, ?_, ?_⟩
      · generalize m.1.1.1.2.2.2 - (1000 : Int32) - (39 : Int32) = x at q q1
        have a := Int32.not_lt.mp q
        have b := Int32.not_lt.mp q1
        rw [Int32.le_iff_toInt_le, show (1 : Int32).toInt = 1 from rfl] at a
        rw [Int32.le_iff_toInt_le, show (5 : Int32).toInt = 5 from rfl] at b
        have c : x.toInt = 1 ∨ x.toInt = 2 ∨ x.toInt = 3 ∨ x.toInt = 4 ∨ x.toInt = 5 := by omega
        rcases c with c | c | c | c | c
        · exact Or.inl (Int32.toInt_inj.mp c)
        · exact Or.inr (Or.inl (Int32.toInt_inj.mp c))
        · exact Or.inr (Or.inr (Or.inl (Int32.toInt_inj.mp c)))
        · exact Or.inr (Or.inr (Or.inr (Or.inl (Int32.toInt_inj.mp c))))
        · exact Or.inr (Or.inr (Or.inr (Or.inr (Int32.toInt_inj.mp c))))
      · generalize m.1.1.1.2.2.2 = x
        grind
theorem uln_k {u : Int32} (h : u = 1 ∨ u = 2 ∨ u = 3 ∨ u = 4 ∨ u = 5) : kln ((39 : Int32) + u) = uln u ∧ uc u = uln u + 1 ∧ 1 ≤ uln u ∧ (0 : Int32) ≤ u ∧ u ≤ 5 ∧ ¬ u ≤ 0 ∧ ¬ (39 : Int32) + u = -1 ∧ ¬ (1000 : Int32) + ((39 : Int32) + u) = 1 ∧ ¬ sg ((1000 : Int32) + ((39 : Int32) + u)) ∧ ¬ (1000 : Int32) + ((39 : Int32) + u) = 2000 := by
  unfold sg
  rcases h with e | e | e | e | e <;> rw [e] <;> decide
theorem tw_nd {m : T_Mo} (tw : TW m) (tk : m.1.1.1.2.2.2 = 2000) : ND m (m.1.1.2.1.2.toNatClampNeg - m.1.1.2.1.1.toNatClampNeg) := by
  rcases tw with t | ⟨t, -⟩ | ⟨-, t⟩ | ⟨t, -⟩
  · rw [tk] at t; exact absurd t (by decide)
  · rw [tk] at t; exact absurd t (by unfold sg; decide)
  · exact t
  · exfalso
    have := KP_all (wo m)
    rw [← t, tk] at this
    rcases this with ⟨-, z⟩ | ⟨z0, z9, z⟩ | ⟨-, z⟩ | ⟨-, z⟩ | ⟨-, z⟩ | ⟨-, z⟩ | ⟨-, z⟩ | ⟨-, z⟩ | ⟨z0, z9, z⟩ | ⟨-, z⟩ | ⟨-, z⟩
    · exact absurd z (by decide)
    · generalize cdK (wo m) = x at z0 z9 z; grind
    · exact absurd z (by decide)
    · exact absurd z (by decide)
    · exact absurd z (by decide)
    · exact absurd z (by decide)
    · exact absurd z (by decide)
    · exact absurd z (by decide)
    · generalize cdK (wo m) = x at z0 z9 z; grind
    · exact absurd z (by decide)
    · exact absurd z (by decide)
set_option maxHeartbeats 1000000 in
/-- a number -/
theorem fy_number {m : T_Mo} {hi s e : Nat} {line : Int32} {P : Int32 → T_Mo → Prop} (p : PQ m hi s e) (tk : m.1.1.1.2.2.2 = 2000) (h : wp_Mo_numberNode m line P) : ∃ r u, P r u ∧ (r < 0 ∨ EO m u hi s e r 0 6 sl4) := by
  have nd : ND m (m.1.1.2.1.2.toNatClampNeg - m.1.1.2.1.1.toNatClampNeg) := tw_nd p.2.2.1 tk
  obtain ⟨v, ev, v9, vl, v1⟩ := nd
  unfold wp_Mo_numberNode at h
  obtain ⟨r1, u1, h, k⟩ := PQ_go p h
  rcases k with k | ⟨k1, p1, f1⟩
  · exact ⟨_, _, h.1 k, Or.inl (by decide)⟩
  · replace h := h.2 (by rw [k1]; decide)
    have last : ∀ {u : T_Mo} {x2 : Int64} {x4 x5 : Int32} {v' s' : Nat}, PQ u hi s' e → FY m u hi → x2.toInt = (v' : Int) → v' < 1000000000000 → (0 : Int32) ≤ x4 → x4 ≤ 5 → s + (nb v').length + 1 + uc x4 ≤ s' + 4 → wp_Mo_numberNode_J101 P u line x2 x4 x5 → ∃ r u, P r u ∧ (r < 0 ∨ EO m u hi s e r 0 6 sl4) := by
      intro u x2 x4 x5 v' s' pu fu e2 v9' x0 x5' bs h
      unfold wp_Mo_numberNode_J101 at h
      have eh : u.2.2.1.2.2.2 = Int32.ofNat hi := by
        obtain ⟨-, -, -, n, km, tp, c, PS, a1, a2, a3, a4, -⟩ := pu
        exact a4
      rw [eh] at h
      obtain ⟨r, w, h, k⟩ := PQ_node (l := []) (mark := hi) (d := (nb v').length + 1 + uc x4) pu trivial (fun k hk => absurd hk List.not_mem_nil) (fun c _ _ => Or.inl ⟨rfl, rfl, x0, x5', v', e2, v9', Nat.le_refl _⟩) (by omega) h
      rcases k with k | ⟨n, k1, k2, k3, k4, k5, k6, k7⟩
      · exact ⟨_, _, h, Or.inl (by rw [k]; decide)⟩
      · refine ⟨_, _, h, Or.inr ?_⟩
        rw [k1]
        exact EO_pre fu (EO_new (w := 0) k2 k3 k4 k5 k6 k7 (by decide) (by decide) (by show s + 0 ≤ _; omega))
    have goon : ∀ {x2 : Int64} {x4 x5 : Int32} {v' : Nat}, x2.toInt = (v' : Int) → v' < 1000000000000 → (0 : Int32) ≤ x4 → x4 ≤ 5 → (x4 = 0 → (nb v').length ≤ (nb v).length) → (¬ x4 = 0 → (nb v').length + 1 + uc x4 ≤ 2 * (m.1.1.2.1.2.toNatClampNeg - m.1.1.2.1.1.toNatClampNeg) + 2 * (u1.1.1.2.1.2.toNatClampNeg - u1.1.1.2.1.1.toNatClampNeg) + 4) → wp_Mo_numberNode_J87 P u1 line x2 x4 x5 → ∃ r u, P r u ∧ (r < 0 ∨ EO m u hi s e r 0 6 sl4) := by
      intro x2 x4 x5 v' e2 v9' x0 x5' b0 b1 h
      unfold wp_Mo_numberNode_J87 at h
      rcases br_el h with ⟨q, h⟩ | ⟨q, h⟩
      · have z : x4 = 0 := Int32.le_antisymm q x0
        have := b0 z
        refine last p1 f1 e2 v9' x0 x5' ?_ h
        rw [z]; show _ + _ + 1 + 0 ≤ _; omega
      · have z : ¬ x4 = 0 := fun z => q (by rw [z]; decide)
        have := b1 z
        obtain ⟨r2, u2, h, k⟩ := PQ_go p1 h
        rcases k with k | ⟨k1, p2, f2⟩
        · exact ⟨_, _, h.1 k, Or.inl (by decide)⟩
        · exact last p2 (FY_trans f1 f2) e2 v9' x0 x5' (by omega) (h.2 (by rw [k1]; decide))
    have time : ∀ {x4 x5 : Int32} {q t : Nat} {y : Int64}, y.toInt = (q : Int) → 1 ≤ q → q ≤ 10 ^ t → q ≤ 3600 → t + 3 ≤ 2 * (u1.1.1.2.1.2.toNatClampNeg - u1.1.1.2.1.1.toNatClampNeg) + 5 → wp_Mo_numberNode_J69 P u1 line m.1.1.2.2.2.1 x4 x5 y m.1.1.2.2.2.1 → ∃ r u, P r u ∧ (r < 0 ∨ EO m u hi s e r 0 6 sl4) := by
      intro x4 x5 q t y ey q1 qt q36 ht h
      unfold wp_Mo_numberNode_J69 at h
      have vq : v * q ≤ v * 3600 := Nat.mul_le_mul_left v q36
      have em : (m.1.1.2.2.2.1 * y).toInt = ((v * q : Nat) : Int) := by
        rw [Int64.toInt_mul, ev, ey, ← Int.natCast_mul]
        generalize v * q = z at vq
        exact Int.bmod_eq_of_le (by omega) (by omega)
      rcases br_el h with ⟨b, h⟩ | ⟨b, h⟩
      · have b' := (lg_cmp_le _ _).mp b
        rw [Int64.le_iff_toInt_le, em, show (999999999999 : Int64).toInt = 999999999999 from rfl] at b'
        have b9 : v * q < 1000000000000 := by omega
        have nl := nb_mul q1 qt b9
        have u3 : uc 3 = 2 := by decide
        exact goon em b9 (by decide) (by decide) (fun z => absurd z (by decide)) (fun _ => by rw [u3]; omega) h
      · unfold wp_Mo_bad at h
        exact ⟨_, _, h, Or.inl (by decide)⟩
    have tw1 := p1.2.2.1
    have tm : ∀ {x4 : Int32}, wp_Mo_numberNode_J38 P u1 line m.1.1.2.2.2.1 x4 → (u1.1.1.1.2.2.2 = (1000 : Int32) + 45 ∨ u1.1.1.1.2.2.2 = (1000 : Int32) + 46) → ∃ r u, P r u ∧ (r < 0 ∨ EO m u hi s e r 0 6 sl4) := by
      intro x4 h tt
      unfold wp_Mo_numberNode_J38 wp_Mo_numberNode_J43 at h
      rcases iv_isWord (h.2 (by decide)) with ⟨b, h⟩ | ⟨b, h⟩
      · have l := tw_kw tw1 b (by decide) (by decide) (by unfold sg; decide) (by decide)
        have k3 : kln 45 = 3 := by decide
        exact time (q := 60) (t := 2) rfl (by omega) (by decide) (by omega) (by rw [l, k3]; omega) (h.2 (by decide))
      · have l := tw_kw tw1 (tt.resolve_left b) (by decide) (by decide) (by unfold sg; decide) (by decide)
        have k1 : kln 46 = 1 := by decide
        exact time (q := 3600) (t := 4) rfl (by omega) (by decide) (by omega) (by rw [l, k1]; omega) (h.1 rfl)
    have plain : ∀ {u : Int32}, (u = 0 ∨ ((u = 1 ∨ u = 2 ∨ u = 3 ∨ u = 4 ∨ u = 5) ∧ u1.1.1.1.2.2.2 = (1000 : Int32) + ((39 : Int32) + u))) → wp_Mo_isWord u1 (45 : Int32) (fun (r3 : Int32) (u3 : Unit) => (r3 = 0 → (wp_Mo_isWord u1 (46 : Int32) (fun (r8 : Int32) (u8 : Unit) => (r8 = 0 → (wp_Mo_numberNode_J43 P u1 line m.1.1.2.2.2.1 u (0 : Int32))) ∧ (¬ r8 = 0 → (wp_Mo_numberNode_J38 P u1 line m.1.1.2.2.2.1 u))))) ∧ (¬ r3 = 0 → (wp_Mo_numberNode_J38 P u1 line m.1.1.2.2.2.1 u))) → ∃ r u, P r u ∧ (r < 0 ∨ EO m u hi s e r 0 6 sl4) := by
      intro u hu h
      rcases iv_isWord h with ⟨b, h⟩ | ⟨b, h⟩
      · exact tm (h.2 (by decide)) (Or.inl b)
      · rcases iv_isWord (h.1 rfl) with ⟨b2, h⟩ | ⟨b2, h⟩
        · exact tm (h.2 (by decide)) (Or.inr b2)
        · replace h := h.1 rfl
          unfold wp_Mo_numberNode_J43 at h
          replace h := h.1 rfl
          rcases hu with e0 | ⟨hu, tt⟩
          · refine goon ev v9 (by rw [e0]; decide) (by rw [e0]; decide) (fun _ => Nat.le_refl _) (fun z => absurd e0 z) h
          · obtain ⟨c1, c2, c3, c4, c5, c6, c7, c8, c9, c10⟩ := uln_k hu
            have l := tw_kw tw1 tt c7 c8 c9 c10
            exact goon ev v9 c4 c5 (fun z => absurd (by rw [z]; decide) c6) (fun _ => by rw [l, c1, c2]; omega) h
    rcases uw_of h with h | ⟨u, h, hu, tt⟩
    · exact plain (Or.inl rfl) h
    · exact plain (Or.inr ⟨hu, tt⟩) h

