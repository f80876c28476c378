def rkG (a : Int32) : Int32 := if a < 97 then (if a < 48 then 0 else if 57 < a then 0 else (a - 48) + 27) else if 122 < a then (if a < 48 then 0 else if 57 < a then 0 else (a - 48) + 27) else (a - 97) + 1
theorem kw_rankG {a : Int32} {post : Int32 → Unit → Prop} (h : post (rkG a) ()) : wp_Kw_rank a post := by
  unfold wp_Kw_rank
  unfold rkG at h
  by_cases c1 : a < 97
  · rw [if_pos c1] at h
    refine pT c1 ?_
    by_cases c2 : a < 48
    · rw [if_pos c2] at h; exact pT c2 h
    · rw [if_neg c2] at h
      refine pF c2 ?_
      by_cases c3 : 57 < a
      · rw [if_pos c3] at h; exact pT c3 h
      · rw [if_neg c3] at h; exact pF c3 h
  · rw [if_neg c1] at h
    refine pF c1 ?_
    by_cases c4 : 122 < a
    · rw [if_pos c4] at h
      refine pT c4 ?_
      by_cases c2 : a < 48
      · rw [if_pos c2] at h; exact pT c2 h
      · rw [if_neg c2] at h
        refine pF c2 ?_
        by_cases c3 : 57 < a
        · rw [if_pos c3] at h; exact pT c3 h
        · rw [if_neg c3] at h; exact pF c3 h
    · rw [if_neg c4] at h; exact pF c4 h
/-- the keywords' array, computed -/
def kwG : Nat → T_Kw → Int32 → Int64 → Int32 → T_Kw
  | 0, z, _, _, _ => z
  | n + 1, z, x1, x2, x4 => if (114 : Int32) ≤ x4 then z else if (xq_ch 0 x4) = (32 : Int32) then (if (26 : Int32) ≤ x1 then kwG n z x1 x2 (x4 + 1) else kwG n (vp_updL z (x1).toNatClampNeg x2) (x1 + 1) 0 (x4 + 1)) else kwG n z x1 ((x2 * 37) + (rkG (xq_ch 0 x4)).toInt64) (x4 + 1)
theorem kw_loopG {K : T_Kw → Int32 → Int64 → Int32 → Prop} {post : Unit → T_Kw → Prop} : ∀ (n : Nat) (z : T_Kw) (x1 : Int32) (x2 : Int64) (x4 : Int32), (∀ a b c, K (kwG n z x1 x2 x4) a b c) → 0 ≤ x4.toInt → x4.toInt ≤ 114 → 0 ≤ x1.toInt → x1.toInt ≤ 26 → 114 < x4.toInt + n → wp_Kw_init_L19 K post n z x1 x2 x4 := by
  intro n
  induction n with
  | zero => intro z x1 x2 x4 _ h1 h2 h3 h4 h5; exfalso; omega
  | succ n ih =>
    intro z x1 x2 x4 h h1 h2 h3 h4 h5
    rw [wp_Kw_init_L19]
    rw [kwG] at h
    by_cases hc : (114 : Int32) ≤ x4
    · rw [if_pos hc] at h; exact pT hc (h _ _ _)
    · rw [if_neg hc] at h
      refine pF hc ?_
      have e1 := i_nle hc
      rw [show (114 : Int32).toInt = 114 from rfl] at e1
      have e2 : (x4 + (1 : Int32)).toInt = x4.toInt + 1 := i_add1 (by omega) (by omega)
      refine ⟨vp_in_iff.mpr ⟨h1, by omega⟩, ?_⟩
      by_cases hs : (xq_ch 0 x4) = (32 : Int32)
      · rw [if_pos hs] at h
        refine pT hs ?_
        by_cases hd : (26 : Int32) ≤ x1
        · rw [if_pos hd] at h
          exact pT hd (ih _ _ _ _ h (by omega) (by omega) (by omega) (by omega) (by omega))
        · rw [if_neg hd] at h
          have e3 := i_nle hd
          rw [show (26 : Int32).toInt = 26 from rfl] at e3
          have e4 : (x1 + (1 : Int32)).toInt = x1.toInt + 1 := i_add1 (by omega) (by omega)
          exact pF hd ⟨vp_in_iff.mpr ⟨h3, by omega⟩, ih _ _ _ _ h (by omega) (by omega) (by omega) (by omega) (by omega)⟩
      · rw [if_neg hs] at h
        exact pF hs (kw_rankG (ih _ _ _ _ h (by omega) (by omega) (by omega) (by omega) (by omega)))
theorem kw_G : KWz (kwG 120 (fun _ => 0) 0 0 0) := by
  unfold KWz
  decide +kernel
theorem kw_exact {post : Unit → T_Kw → Prop} (h : ∀ z, KWz z → post () z) : wp_Kw_init post := by
  unfold wp_Kw_init
  exact ⟨120, kw_loopG 120 _ _ _ _ (fun _ _ _ => h _ kw_G) (by decide) (by decide) (by decide) (by decide) (by decide)⟩

theorem nat_of {a : Int32} {n : Nat} (n9 : n < 2147483648) (h0 : ¬ a < 0) (h : ¬ Int32.ofNat n ≤ a) : ∃ j, j < n ∧ a = Int32.ofNat j := by
  rw [Int32.lt_iff_toInt_lt, show (0 : Int32).toInt = 0 from rfl] at h0
  rw [Int32.le_iff_toInt_le, on_toInt n9] at h
  refine ⟨a.toInt.toNat, by omega, ?_⟩
  apply Int32.toInt_inj.mp
  rw [on_toInt (by omega)]; omega
theorem of_nat {a : Int32} {n j : Nat} (n9 : n < 2147483648) (hj : j < n) (e : a = Int32.ofNat j) : ¬ a < 0 ∧ ¬ Int32.ofNat n ≤ a := by
  rw [e]
  exact ⟨fun q => by rw [Int32.lt_iff_toInt_lt, on_toInt (by omega), show (0 : Int32).toInt = 0 from rfl] at q; omega, fun q => by rw [on_le (by omega) (by omega)] at q; omega⟩
theorem iv_hasF {nd : T_Nd} {a : Int32} {n : Nat} {P : Int32 → Unit → Prop} (e : nd.2.2.2.2.2.2.2.2.2.2.1 = Int32.ofNat n) (n9 : n ≤ 1000) (h : wp_Nd_has nd a P) : (∃ i, i < n ∧ a = Int32.ofNat i ∧ P 1 ()) ∨ ((∀ i, i < n → ¬ a = Int32.ofNat i) ∧ P 0 ()) := by
  unfold wp_Nd_has at h
  rw [e] at h
  rcases br_el h with ⟨q, h⟩ | ⟨q, h⟩
  · exact Or.inr ⟨fun i hi ei => (of_nat (by omega) hi ei).1 q, h⟩
  · rcases br_el h with ⟨q1, h⟩ | ⟨q1, h⟩
    · exact Or.inr ⟨fun i hi ei => (of_nat (by omega) hi ei).2 q1, h⟩
    · obtain ⟨i, hi, ei⟩ := nat_of (by omega) q q1
      have nb : ¬ (1070 : Int32) ≤ a := by rw [ei, show (1070 : Int32) = Int32.ofNat 1070 from rfl, on_le (by omega) (by omega)]; omega
      exact Or.inl ⟨i, hi, ei, h.2 nb⟩
theorem iv_isNode {m : T_Mo} {a : Int32} {n : Nat} {P : Int32 → Unit → Prop} (e : m.2.1.2.2.2.2 = Int32.ofNat n) (n9 : n ≤ 1000) (h : wp_Mo_isNode m a P) : (∃ i, i < n ∧ a = Int32.ofNat i ∧ P 1 ()) ∨ ((∀ i, i < n → ¬ a = Int32.ofNat i) ∧ P 0 ()) := by
  unfold wp_Mo_isNode at h
  rw [e] at h
  rcases br_el h with ⟨q, h⟩ | ⟨q, h⟩
  · exact Or.inr ⟨fun i hi ei => (of_nat (by omega) hi ei).1 q, h⟩
  · rcases br_el h with ⟨q1, h⟩ | ⟨q1, h⟩
    · exact Or.inr ⟨fun i hi ei => (of_nat (by omega) hi ei).2 q1, h⟩
    · obtain ⟨i, hi, ei⟩ := nat_of (by omega) q q1
      exact Or.inl ⟨i, hi, ei, h⟩
/-- both have the node, or neither -/
theorem rl_has {nd : T_Nd} {m : T_Mo} {a : Int32} {n : Nat} {PC PM : Int32 → Unit → Prop} (e1 : nd.2.2.2.2.2.2.2.2.2.2.1 = Int32.ofNat n) (e2 : m.2.1.2.2.2.2 = Int32.ofNat n) (n9 : n ≤ 1000) (hC : wp_Nd_has nd a PC) (hM : wp_Mo_isNode m a PM) : (∃ i, i < n ∧ a = Int32.ofNat i ∧ PC 1 () ∧ PM 1 ()) ∨ (PC 0 () ∧ PM 0 ()) := by
  rcases iv_hasF e1 n9 hC with ⟨i, hi, ei, hC⟩ | ⟨ne, hC⟩
  · rcases iv_isNode e2 n9 hM with ⟨j, hj, ej, hM⟩ | ⟨ne, hM⟩
    · exact Or.inl ⟨i, hi, ei, hC, hM⟩
    · exact absurd ei (ne i hi)
  · rcases iv_isNode e2 n9 hM with ⟨j, hj, ej, hM⟩ | ⟨-, hM⟩
    · exact absurd ej (ne j hj)
    · exact Or.inr ⟨hC, hM⟩
theorem iv_hasG {nd : T_Nd} {i n : Nat} {P : Int32 → Unit → Prop} (e : nd.2.2.2.2.2.2.2.2.2.2.1 = Int32.ofNat n) (n9 : n ≤ 1000) (hi : i < n) (h : wp_Nd_has nd (Int32.ofNat i) P) : P 1 () := by
  rcases iv_hasF e n9 h with ⟨j, hj, ej, h⟩ | ⟨ne, h⟩
  · exact h
  · exact absurd rfl (ne i hi)
theorem no_ix {half : Int32} (hh : half = 0 ∨ half = 1) {i : Nat} (hi : i < 1000) : ((1000 : Int32) * half + Int32.ofNat i).toNatClampNeg = Bs ((1 : Int32) - half) + i := by
  have := Bs_at (h11 hh).2 (x := Int32.ofNat i) rfl hi
  rw [(h11 hh).1] at this; exact this
theorem rl_what {nm : T_Nm} {nd : T_Nd} {m : T_Mo} {st : T_St} {pr : T_Pr} {a : Int32} {PC PM : Int32 → Unit → Prop} (f : FN nm nd m) (hC : wp_St_what st pr nd a PC) (hM : wp_Mo_what m a PM) : ∃ r, PC r () ∧ PM r () := by
  obtain ⟨hh, n, km, c, asc, a1, a2, a3, a4, a5, -⟩ := f
  unfold wp_St_what wp_Pr_nodes wp_Nd_kindOf at hC
  unfold wp_Mo_what at hM
  rcases rl_has a1 a2 a3 hC hM with ⟨i, hi, ei, hC, hM⟩ | ⟨hC, hM⟩
  · replace hC := (hC.2 (by decide)).2
    replace hM := hM.2 (by decide)
    unfold wp_Mo_node1 at hM
    replace hM := hM.2
    rw [ei, no_ix hh (by omega)] at hM
    rw [ei, ix_on (by omega)] at hC
    have g : nd.1 i = m.1.2.1.2.2.2 (Bs ((1 : Int32) - m.1.2.1.2.1) + i) := (a5 i hi).1
    rw [g] at hC
    exact ⟨_, hC, hM⟩
  · exact ⟨_, hC.1 rfl, hM.1 rfl⟩
theorem rl_line {nm : T_Nm} {nd : T_Nd} {m : T_Mo} {st : T_St} {pr : T_Pr} {a : Int32} {PC PM : Int32 → Unit → Prop} (f : FN nm nd m) (hC : wp_St_line st pr nd a PC) (hM : wp_Mo_line m a PM) : ∃ r, PC r () ∧ PM r () := by
  obtain ⟨hh, n, km, c, asc, a1, a2, a3, a4, a5, -⟩ := f
  unfold wp_St_line wp_Pr_nodes wp_Nd_rowOf at hC
  unfold wp_Mo_line at hM
  rcases rl_has a1 a2 a3 hC hM with ⟨i, hi, ei, hC, hM⟩ | ⟨hC, hM⟩
  · replace hC := (hC.2 (by decide)).2
    replace hM := hM.2 (by decide)
    unfold wp_Mo_node1 at hM
    replace hM := hM.2
    rw [ei, no_ix hh (by omega)] at hM
    rw [ei, ix_on (by omega)] at hC
    have g : nd.2.1 i = m.1.2.2.1.2.1 (Bs ((1 : Int32) - m.1.2.1.2.1) + i) := (a5 i hi).2.1
    rw [g] at hC
    exact ⟨_, hC, hM⟩
  · exact ⟨_, hC.1 rfl, hM.1 rfl⟩
theorem rl_number {nm : T_Nm} {nd : T_Nd} {m : T_Mo} {st : T_St} {pr : T_Pr} {a b : Int32} {PC PM : Int64 → Unit → Prop} (f : FN nm nd m) (hC : wp_St_number st pr nd a b PC) (hM : wp_Mo_number m a b PM) : ∃ r, PC r () ∧ PM r () := by
  obtain ⟨hh, n, km, c, asc, a1, a2, a3, a4, a5, -⟩ := f
  unfold wp_St_number wp_Pr_nodes wp_Nd_valueOf wp_Nd_sizeOf at hC
  unfold wp_Mo_number at hM
  rcases rl_has a1 a2 a3 hC hM with ⟨i, hi, ei, hC, hM⟩ | ⟨hC, hM⟩
  · replace hC := hC.2 (by decide)
    replace hM := hM.2 (by decide)
    obtain ⟨-, -, g3, -, kl, x, -, g6, g7, -⟩ := a5 i hi
    rcases br_el hC with ⟨q, hC⟩ | ⟨q, hC⟩
    · exact ⟨_, hC, hM.1 q⟩
    · replace hM := hM.2 q
      rcases br_el hC with ⟨q1, hC⟩ | ⟨q1, hC⟩
      · replace hM := hM.1 q1
        rcases br_el hC with ⟨q2, hC⟩ | ⟨q2, hC⟩
        · replace hM := hM.1 q2
          rw [ei] at hC hM
          replace hC := ((iv_hasG a1 a3 hi hC).2 (by decide)).2
          unfold wp_Mo_node1 at hM
          replace hM := hM.2
          rw [no_ix hh (by omega)] at hM
          rw [ix_on (by omega)] at hC
          have g : nd.2.2.1 i = m.1.2.2.1.1 (Bs ((1 : Int32) - m.1.2.1.2.1) + i) := g3
          rw [g] at hC
          exact ⟨_, hC, hM⟩
        · replace hM := hM.2 q2
          rw [ei] at hC hM
          replace hC := ((iv_hasG a1 a3 hi hC).2 (by decide)).2
          unfold wp_Mo_node1 at hM
          replace hM := hM.2
          rw [no_ix hh (by omega)] at hM
          rw [ix_on (by omega)] at hC
          have g : m.1.2.2.2.2.1 (Bs ((1 : Int32) - m.1.2.1.2.1) + i) = Int32.ofNat kl.length := g6
          rw [g] at hM
          rw [g7] at hC
          exact ⟨_, hC, hM⟩
      · exact ⟨_, hC, hM.2 q1⟩
  · exact ⟨_, hC.1 rfl, hM.1 rfl⟩
theorem rl_unitOf {nm : T_Nm} {nd : T_Nd} {m : T_Mo} {st : T_St} {pr : T_Pr} {a : Int32} {PC PM : Int32 → Unit → Prop} (f : FN nm nd m) (hC : wp_St_unitOf st pr nd a PC) (hM : wp_Mo_unitOf m a PM) : ∃ r, PC r () ∧ PM r () := by
  obtain ⟨hh, n, km, c, asc, a1, a2, a3, a4, a5, -⟩ := f
  unfold wp_St_unitOf wp_Pr_nodes wp_Nd_kindOf wp_Nd_measureOf at hC
  unfold wp_Mo_unitOf at hM
  rcases rl_has a1 a2 a3 hC hM with ⟨i, hi, ei, hC, hM⟩ | ⟨hC, hM⟩
  · replace hC := hC.2 (by decide)
    replace hM := hM.2 (by decide)
    obtain ⟨g1, -, -, g4, -⟩ := a5 i hi
    have g1' : nd.1 i = m.1.2.1.2.2.2 (Bs ((1 : Int32) - m.1.2.1.2.1) + i) := g1
    have g4' : m.1.2.1.2.2.2 (Bs ((1 : Int32) - m.1.2.1.2.1) + i) ≤ 6 → nd.2.2.2.1 i = m.1.2.2.1.2.2 (Bs ((1 : Int32) - m.1.2.1.2.1) + i) := g4
    rw [ei] at hC hM
    replace hC := ((iv_hasG a1 a3 hi hC).2 (by decide)).2
    unfold wp_Mo_node1 at hM
    replace hM := hM.2
    rw [no_ix hh (by omega)] at hM
    rw [ix_on (by omega), g1'] at hC
    rcases br_el hC with ⟨q, hC⟩ | ⟨q, hC⟩
    · exact ⟨_, hC, hM.1 q⟩
    · replace hM := (hM.2 q).2
      rw [no_ix hh (by omega)] at hM
      replace hC := ((iv_hasG a1 a3 hi hC).2 (by decide)).2
      rw [g4' (Int32.not_lt.mp q)] at hC
      exact ⟨_, hC, hM⟩
  · exact ⟨_, hC.1 rfl, hM.1 rfl⟩

