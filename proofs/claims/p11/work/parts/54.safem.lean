theorem z_lt0 {a : Int32} (h : (0 : Int32) ≤ a) (hb : a.toInt < ((0 : Nat) : Int)) : False := by
  rw [Int32.le_iff_toInt_le] at h
  have e : (0 : Int32).toInt = 0 := rfl
  omega
theorem z_ltS {a v : Int32} {d : Nat} (hb : a.toInt < ((d + 1 : Nat) : Int)) (hv : v < a) : v.toInt < (d : Int) := by
  rw [Int32.lt_iff_toInt_lt] at hv; omega
theorem z_lt1000 {a : Int32} (h : a < 1000) : a.toInt < ((1001 : Nat) : Int) := by
  rw [Int32.lt_iff_toInt_lt] at h
  have e : (1000 : Int32).toInt = 1000 := rfl
  omega
theorem z_lt2 {a v : Int32} {e : Nat} (hb : a.toInt < 2 * ((e + 1 : Nat) : Int)) (h0 : (0 : Int32) ≤ v) (h9 : a < 1000) (hv : v + 1 < a) (hv9 : v < a) : v.toInt < 2 * (e : Int) := by
  rw [Int32.lt_iff_toInt_lt] at hv hv9 h9
  rw [Int32.le_iff_toInt_le] at h0
  have e0 : (0 : Int32).toInt = 0 := rfl
  have e1 : (1000 : Int32).toInt = 1000 := rfl
  rw [i_add1 (by omega) (by omega)] at hv
  omega
set_option maxHeartbeats 4000000 in
theorem s_Mo_letter {z_this : T_Mo} {a1 : Int32} {post : Unit → T_Mo → Prop} (hp : ∀ r u, FrW z_this u → post r u) : wp_Mo_letter z_this a1 post := by
  unfold wp_Mo_letter
  refine ⟨fun h0 => ?_, fun h1 => ?_⟩
  · exact hp _ _ (by first | assumption | trivial | grind [Fin, I_Mo, NF, FrM, FrW, KK, NmOk])
  · exact hp _ _ (by first | assumption | trivial | grind [Fin, I_Mo, NF, FrM, FrW, KK, NmOk])
set_option maxHeartbeats 4000000 in
theorem s_Mo_say {z_this : T_Mo} {a1 : Int32} {post : Unit → T_Mo → Prop} (hp : ∀ r u, FrW z_this u → post r u) : wp_Mo_say z_this a1 post := by
  unfold wp_Mo_say
  refine ⟨fun h0 => ?_, fun h1 => ?_⟩
  · refine s_Mo_letter (fun r1 u1 hq2 => ?_)
    exact hp _ _ (by first | assumption | trivial | grind [Fin, I_Mo, NF, FrM, FrW, KK, NmOk])
  · refine s_Mo_letter (fun r2 u2 hq2 => ?_)
    refine s_Mo_letter (fun r3 u3 hq3 => ?_)
    exact hp _ _ (by first | assumption | trivial | grind [Fin, I_Mo, NF, FrM, FrW, KK, NmOk])
set_option maxHeartbeats 4000000 in
theorem s_Mo_newLine {z_this : T_Mo} {post : Unit → T_Mo → Prop} (hp : ∀ r u, FrW z_this u → post r u) : wp_Mo_newLine z_this post := by
  unfold wp_Mo_newLine
  refine s_Mo_letter (fun r1 u1 hq0 => ?_)
  exact hp _ _ (by first | assumption | trivial | grind [Fin, I_Mo, NF, FrM, FrW, KK, NmOk])
theorem shr8 {x : Int64} {n : Nat} (h : ¬ lg_cmp x (0 : Int64) = 0) (hm : x.toUInt64.toNat < n + 1) : (((x).toUInt64 >>> (((8 : Int32)).toInt64.toUInt64 &&& Int64.toUInt64 63)).toInt64).toUInt64.toNat < n := by
  rw [lg_cmp_eq] at h
  have e : (((8 : Int32)).toInt64.toUInt64 &&& Int64.toUInt64 63) = (8 : UInt64) := by decide
  rw [e]
  have e2 : ∀ y : UInt64, (y.toInt64).toUInt64 = y := fun y => by simp
  rw [e2, UInt64.toNat_shiftRight, show ((8 : UInt64).toNat % 64) = 8 from rfl, Nat.shiftRight_eq_div_pow]
  have hx : x.toUInt64.toNat ≠ 0 := fun h0 => h (by
    have h1 : x.toUInt64 = 0 := UInt64.toNat_inj.mp (by rw [h0]; rfl)
    have h2 : x.toUInt64.toInt64 = (0 : UInt64).toInt64 := by rw [h1]
    have e3 : ∀ y : Int64, y.toUInt64.toInt64 = y := fun y => by simp
    rw [e3] at h2
    rw [h2]; rfl)
  omega
theorem l_Mo_word_L2 {e0 : T_Mo} {K : T_Mo → Int64 → Int64 → Prop} {post : Unit → T_Mo → Prop} {x1 : Int64} (hK : ∀ z x3, FrW e0 z → K z x1 x3) : ∀ (n9 : Nat) (z : T_Mo) (x3 : Int64), FrW e0 z → x3.toUInt64.toNat < n9 → wp_Mo_word_L2 K post n9 z x1 x3 := by
  intro n9
  induction n9 with
  | zero => intro z x3 _ hm; exact absurd hm (Nat.not_lt_zero _)
  | succ n9 ih =>
    intro z x3 f hm
    rw [wp_Mo_word_L2]
    exact ⟨fun _ => hK _ _ f, fun h => s_Mo_say (fun r u hq => ih _ _ (by grind [FrW]) (shr8 h hm))⟩
theorem s_Mo_word {z_this : T_Mo} {a1 : Int64} {post : Unit → T_Mo → Prop} (hp : ∀ r u, FrW z_this u → post r u) : wp_Mo_word z_this a1 post := by
  unfold wp_Mo_word
  exact ⟨18446744073709551616, l_Mo_word_L2 (e0 := z_this) (fun z x3 f => hp _ _ (by grind [FrW])) _ _ _ ⟨rfl, rfl, rfl, rfl, rfl, rfl⟩ (UInt64.toNat_lt _)⟩
def pw10 (p : Int64) (m : Nat) : Prop := m ≤ 18 ∧ p.toInt = 10 ^ m
theorem pw10_b {m : Nat} (h : m ≤ 18) : (10 : Int) ^ m ≤ 10 ^ 18 ∧ 0 < (10 : Int) ^ m := match m, h with | 0, _ => by decide | 1, _ => by decide | 2, _ => by decide | 3, _ => by decide | 4, _ => by decide | 5, _ => by decide | 6, _ => by decide | 7, _ => by decide | 8, _ => by decide | 9, _ => by decide | 10, _ => by decide | 11, _ => by decide | 12, _ => by decide | 13, _ => by decide | 14, _ => by decide | 15, _ => by decide | 16, _ => by decide | 17, _ => by decide | 18, _ => by decide | n + 19, h => absurd h (by omega)
theorem pw10_pos {p : Int64} {m : Nat} (h : pw10 p m) : (0 : Int64) < p := by
  rw [Int64.lt_iff_toInt_lt, h.2]; exact (pw10_b h.1).2
theorem pw10_step {x p : Int64} {m : Nat} (h : pw10 p m) (hc : ¬ lg_cmp (x / p) (10 : Int64) < 0) : pw10 (p * (10 : Int64)) (m + 1) := by
  have h9 : (10 : Int64) ≤ x / p := by rw [lg_cmp_lt] at hc; exact Int64.not_lt.mp hc
  have hb := pw10_b h.1
  have hp : 0 < p.toInt := by rw [h.2]; exact hb.2
  have hx9 := Int64.toInt_lt x
  rw [Int64.le_iff_toInt_le, show (10 : Int64).toInt = 10 from rfl] at h9
  have hm : m ≤ 17 := by
    rcases Nat.lt_or_ge m 18 with h1 | h1
    · omega
    · exfalso
      have em : m = 18 := by have := h.1; omega
      have ep : p.toInt = 10 ^ 18 := by rw [h.2, em]
      by_cases hx : 0 ≤ x.toInt
      · rw [lg_ldiv_nonneg hx (by omega), ep] at h9
        omega
      · have e9 : (x / p).toInt = x.toInt.tdiv p.toInt := Jvm.Kit.i64_div (by omega)
        have t9 : 0 ≤ (-x.toInt).tdiv p.toInt := Int.tdiv_nonneg (by omega) (by omega)
        rw [Int.neg_tdiv] at t9
        omega
  have hb2 := pw10_b (m := m + 1) (by omega)
  refine ⟨by omega, ?_⟩
  rw [Int64.toInt_mul, h.2, show (10 : Int64).toInt = 10 from rfl, ← Int.pow_succ]
  exact Int.bmod_eq_of_le (by omega) (by omega)
theorem l_Mo_digitsOf_L2 {e0 : T_Mo} {K : T_Mo → Int64 → Int64 → Prop} {post : Unit → T_Mo → Prop} {x1 : Int64} (hK : ∀ x3, K e0 x1 x3) : ∀ (n9 m : Nat) (x3 : Int64), pw10 x3 m → 18 - m < n9 → wp_Mo_digitsOf_L2 K post n9 e0 x1 x3 := by
  intro n9
  induction n9 with
  | zero => intro m x3 _ hm; exact absurd hm (Nat.not_lt_zero _)
  | succ n9 ih =>
    intro m x3 f hm
    rw [wp_Mo_digitsOf_L2]
    refine ⟨w_ne (pw10_pos f), fun _ => hK _, fun h => ?_⟩
    have s := pw10_step f h
    exact ih (m + 1) _ s (by have := s.1; omega)
theorem l_Mo_digitsOf_L24 {e0 : T_Mo} {K : T_Mo → Int64 → Int64 → Int64 → Prop} {post : Unit → T_Mo → Prop} {x1 x3 : Int64} (hK : ∀ z x5, FrW e0 z → K z x1 x3 x5) : ∀ (n9 : Nat) (z : T_Mo) (x5 : Int64), FrW e0 z → x5.toInt < ((n9 : Nat) : Int) → wp_Mo_digitsOf_L24 K post (n9 + 1) z x1 x3 x5 := by
  intro n9
  induction n9 with
  | zero =>
    intro z x5 f hm
    rw [wp_Mo_digitsOf_L24]
    refine ⟨fun _ => hK _ _ f, fun h => ?_⟩
    have h1 := cmp0 h
    rw [Int64.lt_iff_toInt_lt, show (0 : Int64).toInt = 0 from rfl] at h1
    exfalso; omega
  | succ n9 ih =>
    intro z x5 f hm
    rw [wp_Mo_digitsOf_L24]
    refine ⟨fun _ => hK _ _ f, fun h => ⟨w_ne (cmp0 h), s_Mo_say (fun r u hq => ih _ _ (by grind [FrW]) ?_)⟩⟩
    have h1 := cmp0 h
    rw [Int64.lt_iff_toInt_lt, show (0 : Int64).toInt = 0 from rfl] at h1
    rw [lg_ldiv_nonneg (by omega) (by decide), show (10 : Int64).toInt = 10 from rfl]
    omega
theorem s_Mo_digitsOf {z_this : T_Mo} {a1 : Int64} {post : Unit → T_Mo → Prop} (hp : ∀ r u, FrW z_this u → post r u) : wp_Mo_digitsOf z_this a1 post := by
  unfold wp_Mo_digitsOf
  exact ⟨30, l_Mo_digitsOf_L2 (fun x3 => ⟨9223372036854775808 + 1, l_Mo_digitsOf_L24 (e0 := z_this) (fun z x5 f => hp _ _ f) _ _ _ ⟨rfl, rfl, rfl, rfl, rfl, rfl⟩ (w_ent _)⟩) 30 0 _ ⟨by decide, rfl⟩ (by decide)⟩
theorem lrem_lt {x b : Int64} (hx : (0 : Int64) < x) (hb : (0 : Int64) < b) : x - x / b * b < b := by
  rw [Int64.lt_iff_toInt_lt] at hx hb ⊢
  rw [show (0 : Int64).toInt = 0 from rfl] at hx hb
  have h9 := Int64.toInt_lt x
  have e1 : (x / b).toInt = x.toInt / b.toInt := lg_ldiv_nonneg (by omega) (by omega)
  have m1 := Int.emod_add_mul_ediv x.toInt b.toInt
  have m2 := Int.emod_nonneg x.toInt (show b.toInt ≠ 0 by omega)
  have m3 := Int.emod_lt_of_pos x.toInt hb
  have m4 : x.toInt / b.toInt * b.toInt = b.toInt * (x.toInt / b.toInt) := Int.mul_comm _ _
  have m5 : 0 ≤ x.toInt / b.toInt * b.toInt := Int.mul_nonneg (Int.ediv_nonneg (by omega) (by omega)) (by omega)
  have hb9 := Int64.toInt_lt b
  have e2 : (x / b * b).toInt = x.toInt / b.toInt * b.toInt := by
    rw [Int64.toInt_mul, e1]; exact Int.bmod_eq_of_le (by omega) (by omega)
  have e3 : (x - x / b * b).toInt = x.toInt - x.toInt / b.toInt * b.toInt := by
    rw [Int64.toInt_sub, e2]; exact Int.bmod_eq_of_le (by omega) (by omega)
  rw [e3]; omega

set_option maxHeartbeats 4000000 in
theorem l_Mo_name_L14 {K : T_Mo → Int64 → Int32 → Int32 → Prop} {post : Unit → T_Mo → Prop} {e0 : T_Mo} (hK : ∀ z_this x1 x3 x4, (((0 : Int32) ≤ x4) ∧ (x4 ≤ 12) ∧ (FrW e0 z_this) ∧ (e0.2.1.2.1.1 (x3).toNatClampNeg ≤ 12) ∧ ((0 : Int32) ≤ x3) ∧ (x3 < 200)) → K z_this x1 x3 x4) (hp : ∀ r u, FrW e0 u → post r u) : ∀ (n9 : Nat) (z_this : T_Mo) (x1 : Int64) (x3 : Int32) (x4 : Int32), ((0 : Int32) ≤ x4) → (x4 ≤ 12) → (FrW e0 z_this) → (e0.2.1.2.1.1 (x3).toNatClampNeg ≤ 12) → ((0 : Int32) ≤ x3) → (x3 < 200) → (12 : Int32).toInt - (x4).toInt < ((n9 : Nat) : Int) → wp_Mo_name_L14 K post n9 z_this x1 x3 x4 := by
  intro n9
  induction n9 with
  | zero => intro z_this x1 x3 x4 i0 i1 i2 i3 i4 i5 hm; exact (i_meas0 i1 hm).elim
  | succ n9 ih =>
    intro z_this x1 x3 x4 i0 i1 i2 i3 i4 i5 hm
    rw [wp_Mo_name_L14]
    refine ⟨(vin (c := 200) (by first | assumption | trivial | grind [Fin, I_Mo, NF, FrM, FrW, KK, NmOk]) (by first | assumption | trivial | grind [Fin, I_Mo, NF, FrM, FrW, KK, NmOk]) rfl), ?_⟩
    refine ⟨fun h0 => ?_, fun h1 => ?_⟩
    · exact hK _ _ _ _ (by first | assumption | trivial | grind [Fin, I_Mo, NF, FrM, FrW, KK, NmOk])
    · refine ⟨(vin (c := 2400) (by first | assumption | trivial | grind [Fin, I_Mo, NF, FrM, FrW, KK, NmOk]) (by first | assumption | trivial | grind [Fin, I_Mo, NF, FrM, FrW, KK, NmOk]) rfl), ?_⟩
      refine s_Mo_say (fun r1 u1 hq2 => ?_)
      exact ih _ _ _ _ (by first | assumption | trivial | grind [Fin, I_Mo, NF, FrM, FrW, KK, NmOk]) (by first | assumption | trivial | grind [Fin, I_Mo, NF, FrM, FrW, KK, NmOk]) (by first | assumption | trivial | grind [Fin, I_Mo, NF, FrM, FrW, KK, NmOk]) (by first | assumption | trivial | grind [Fin, I_Mo, NF, FrM, FrW, KK, NmOk]) (by first | assumption | trivial | grind [Fin, I_Mo, NF, FrM, FrW, KK, NmOk]) (by first | assumption | trivial | grind [Fin, I_Mo, NF, FrM, FrW, KK, NmOk]) (i_meas (by first | assumption | trivial | grind [Fin, I_Mo, NF, FrM, FrW, KK, NmOk]) (by first | assumption | trivial | grind [Fin, I_Mo, NF, FrM, FrW, KK, NmOk]) hm)
set_option maxHeartbeats 4000000 in
theorem s_Mo_name {e0 : T_Mo} {a1 : Int64} {post : Unit → T_Mo → Prop} (p0 : Fin e0) (p1 : ((0 : Int32) ≤ (a1).toInt32 ∧ (a1).toInt32 < e0.2.2.1.1.2)) (hp : ∀ r u, FrW e0 u → post r u) : wp_Mo_name e0 a1 post := by
  unfold wp_Mo_name
  have hT := Fin_name (z := e0) (k := (a1).toInt32) (by first | assumption | trivial | grind [Fin, I_Mo, NF, FrM, FrW, KK, NmOk]) (by first | assumption | trivial | grind [Fin, I_Mo, NF, FrM, FrW, KK, NmOk]) (by first | assumption | trivial | grind [Fin, I_Mo, NF, FrM, FrW, KK, NmOk])
  refine ⟨5000, l_Mo_name_L14 (e0 := e0) (fun z_this x1 x3 x4 hv0 => ?_) (fun r u hq => hp r u hq) 5000 _ _ _ _ (by first | assumption | trivial | grind [Fin, I_Mo, NF, FrM, FrW, KK, NmOk]) (by first | assumption | trivial | grind [Fin, I_Mo, NF, FrM, FrW, KK, NmOk]) (by first | assumption | trivial | grind [Fin, I_Mo, NF, FrM, FrW, KK, NmOk]) (by first | assumption | trivial | grind [Fin, I_Mo, NF, FrM, FrW, KK, NmOk]) (by first | assumption | trivial | grind [Fin, I_Mo, NF, FrM, FrW, KK, NmOk]) (by first | assumption | trivial | grind [Fin, I_Mo, NF, FrM, FrW, KK, NmOk]) (by decide)⟩
  exact hp _ _ (by first | assumption | trivial | grind [Fin, I_Mo, NF, FrM, FrW, KK, NmOk])
set_option maxHeartbeats 4000000 in
theorem s_Mo_unitWord1_J55 {post : Unit → T_Mo → Prop} {z_this : T_Mo} {x1 : Int32} {e0 : T_Mo} (p0 : FrW e0 z_this) (hp : ∀ r u, FrW e0 u → post r u) : wp_Mo_unitWord1_J55 post z_this x1 := by
  unfold wp_Mo_unitWord1_J55
  exact hp _ _ (by first | assumption | trivial | grind [Fin, I_Mo, NF, FrM, FrW, KK, NmOk])
set_option maxHeartbeats 4000000 in
theorem s_Mo_unitWord1_J52 {post : Unit → T_Mo → Prop} {z_this : T_Mo} {x1 : Int32} {y0 : Int64} {e0 : T_Mo} (p0 : FrW e0 z_this) (hp : ∀ r u, FrW e0 u → post r u) : wp_Mo_unitWord1_J52 post z_this x1 y0 := by
  unfold wp_Mo_unitWord1_J52
  refine s_Mo_word (fun r1 u1 hq0 => ?_)
  exact s_Mo_unitWord1_J55 (e0 := e0) (by first | assumption | trivial | grind [Fin, I_Mo, NF, FrM, FrW, KK, NmOk]) (fun r u hq => hp r u hq)
set_option maxHeartbeats 4000000 in
theorem s_Mo_unitWord1 {e0 : T_Mo} {a1 : Int32} {post : Unit → T_Mo → Prop} (hp : ∀ r u, FrW e0 u → post r u) : wp_Mo_unitWord1 e0 a1 post := by
  unfold wp_Mo_unitWord1
  refine ⟨fun h0 => ?_, fun h1 => ?_⟩
  · exact s_Mo_unitWord1_J55 (e0 := e0) (by first | assumption | trivial | grind [Fin, I_Mo, NF, FrM, FrW, KK, NmOk]) (fun r u hq => hp r u hq)
  · refine ⟨fun h2 => ?_, fun h3 => ?_⟩
    · exact s_Mo_unitWord1_J52 (e0 := e0) (by first | assumption | trivial | grind [Fin, I_Mo, NF, FrM, FrW, KK, NmOk]) (fun r u hq => hp r u hq)
    · refine ⟨fun h4 => ?_, fun h5 => ?_⟩
      · exact s_Mo_unitWord1_J52 (e0 := e0) (by first | assumption | trivial | grind [Fin, I_Mo, NF, FrM, FrW, KK, NmOk]) (fun r u hq => hp r u hq)
      · refine ⟨fun h6 => ?_, fun h7 => ?_⟩
        · exact s_Mo_unitWord1_J52 (e0 := e0) (by first | assumption | trivial | grind [Fin, I_Mo, NF, FrM, FrW, KK, NmOk]) (fun r u hq => hp r u hq)
        · refine ⟨fun h8 => ?_, fun h9 => ?_⟩
          · exact s_Mo_unitWord1_J52 (e0 := e0) (by first | assumption | trivial | grind [Fin, I_Mo, NF, FrM, FrW, KK, NmOk]) (fun r u hq => hp r u hq)
          · exact s_Mo_unitWord1_J52 (e0 := e0) (by first | assumption | trivial | grind [Fin, I_Mo, NF, FrM, FrW, KK, NmOk]) (fun r u hq => hp r u hq)
def no45 (x4 x6 : Int64) (n : Nat) : Prop := (x6 = 100 ∧ x4 < 1000 ∧ 4 ≤ n) ∨ (x6 = 10 ∧ x4 < 100 ∧ 3 ≤ n) ∨ (x6 = 1 ∧ x4 < 10 ∧ 2 ≤ n) ∨ (x6 = 0 ∧ x4 < 1 ∧ 1 ≤ n)
theorem l_Mo_numberOut_L45 {e0 : T_Mo} {K : T_Mo → Int32 → Int64 → Int64 → Int64 → Prop} {post : Unit → T_Mo → Prop} {x1 : Int32} {x2 : Int64} (hK : ∀ z x4 x6, FrW e0 z → K z x1 x2 x4 x6) : ∀ (n9 : Nat) (z : T_Mo) (x4 x6 : Int64), FrW e0 z → no45 x4 x6 n9 → wp_Mo_numberOut_L45 K post n9 z x1 x2 x4 x6 := by
  intro n9
  induction n9 with
  | zero => intro z x4 x6 _ hm; unfold no45 at hm; exfalso; omega
  | succ n9 ih =>
    intro z x4 x6 f hm
    rw [wp_Mo_numberOut_L45]
    refine ⟨fun _ => hK _ _ _ f, fun h => ?_⟩
    have h0 := cmp0 h
    have hb : (0 : Int64) < x6 := by
      rcases hm with ⟨e, -⟩ | ⟨e, -⟩ | ⟨e, -⟩ | ⟨e, h1, -⟩
      · rw [e]; decide
      · rw [e]; decide
      · rw [e]; decide
      · exfalso; grind
    have hr := lrem_lt h0 hb
    refine ⟨w_ne hb, s_Mo_say (fun r u hq => ⟨w_ne hb, ih _ _ _ (by grind [FrW]) ?_⟩)⟩
    generalize x4 - x4 / x6 * x6 = y at hr
    rcases hm with ⟨e, -, h2⟩ | ⟨e, -, h2⟩ | ⟨e, -, h2⟩ | ⟨e, h1, -⟩
    · subst e; exact Or.inr (Or.inl ⟨by decide, hr, by omega⟩)
    · subst e; exact Or.inr (Or.inr (Or.inl ⟨by decide, hr, by omega⟩))
    · subst e; exact Or.inr (Or.inr (Or.inr ⟨by decide, hr, by omega⟩))
    · exfalso; grind
theorem rem1000 (v : Int64) : v - v / (1000 : Int64) * (1000 : Int64) < 1000 := by
  by_cases h : (0 : Int64) < v
  · exact lrem_lt h (by decide)
  · have h1 : v.toInt ≤ 0 := by
      have := Int64.not_lt.mp h
      rw [Int64.le_iff_toInt_le] at this
      exact this
    have h2 := Int64.le_toInt v
    have e1 : (v / (1000 : Int64)).toInt = v.toInt.tdiv 1000 := Jvm.Kit.i64_div (fun h => absurd h.2 (by decide))
    have t1 := Int.tdiv_mul_add_tmod v.toInt 1000
    have t2 : 0 ≤ (-v.toInt).tmod 1000 := Int.tmod_nonneg 1000 (by omega)
    rw [Int.neg_tmod] at t2
    have t3 : -1000 < v.toInt.tmod 1000 := Int.lt_tmod_of_pos v.toInt (by decide)
    rw [Int64.lt_iff_toInt_lt, show (1000 : Int64).toInt = 1000 from rfl]
    have e2 : (v / (1000 : Int64) * (1000 : Int64)).toInt = v.toInt.tdiv 1000 * 1000 := by
      rw [Int64.toInt_mul, e1, show (1000 : Int64).toInt = 1000 from rfl]; exact Int.bmod_eq_of_le (by omega) (by omega)
    rw [Int64.toInt_sub, e2, Int.bmod_eq_of_le (by omega) (by omega)]
    omega
theorem s_Mo_numberOut {z_this : T_Mo} {a1 : Int32} {post : Unit → T_Mo → Prop} (p0 : Fin z_this) (p1 : ((0 : Int32) ≤ a1 ∧ a1 < z_this.2.1.2.2.2.2)) (hp : ∀ r u, FrW z_this u → post r u) : wp_Mo_numberOut z_this a1 post := by
  have fin : ∀ z : T_Mo, FrW z_this z → ∀ (x4 x6 : Int64), wp_Mo_node1 (((((z.1.1.1.1.1, z.1.1.1.1.2), (z.1.1.1.2.1, (z.1.1.1.2.2.1, z.1.1.1.2.2.2))), ((z.1.1.2.1.1, z.1.1.2.1.2), (z.1.1.2.2.1, (z.1.1.2.2.2.1, z.1.1.2.2.2.2)))), (((z.1.2.1.1.1, z.1.2.1.1.2), (z.1.2.1.2.1, (z.1.2.1.2.2.1, z.1.2.1.2.2.2))), ((z.1.2.2.1.1, (z.1.2.2.1.2.1, z.1.2.2.1.2.2)), (z.1.2.2.2.1, (z.1.2.2.2.2.1, z.1.2.2.2.2.2))))), ((((z.2.1.1.1.1, z.2.1.1.1.2), (z.2.1.1.2.1, (z.2.1.1.2.2.1, z.2.1.1.2.2.2))), ((z.2.1.2.1.1, z.2.1.2.1.2), (z.2.1.2.2.1, (z.2.1.2.2.2.1, z.2.1.2.2.2.2)))), (((z.2.2.1.1.1, z.2.2.1.1.2), (z.2.2.1.2.1, (z.2.2.1.2.2.1, z.2.2.1.2.2.2))), ((z.2.2.2.1.1, (z.2.2.2.1.2.1, z.2.2.2.1.2.2)), (z.2.2.2.2.1, ((1 : Int32), z.2.2.2.2.2.2)))))) a1 (fun (r4 : Int32) (u4 : Unit) => vp_in r4 2000 ∧ (wp_Mo_unitWord1 (((((z.1.1.1.1.1, z.1.1.1.1.2), (z.1.1.1.2.1, (z.1.1.1.2.2.1, z.1.1.1.2.2.2))), ((z.1.1.2.1.1, z.1.1.2.1.2), (z.1.1.2.2.1, (z.1.1.2.2.2.1, z.1.1.2.2.2.2)))), (((z.1.2.1.1.1, z.1.2.1.1.2), (z.1.2.1.2.1, (z.1.2.1.2.2.1, z.1.2.1.2.2.2))), ((z.1.2.2.1.1, (z.1.2.2.1.2.1, z.1.2.2.1.2.2)), (z.1.2.2.2.1, (z.1.2.2.2.2.1, z.1.2.2.2.2.2))))), ((((z.2.1.1.1.1, z.2.1.1.1.2), (z.2.1.1.2.1, (z.2.1.1.2.2.1, z.2.1.1.2.2.2))), ((z.2.1.2.1.1, z.2.1.2.1.2), (z.2.1.2.2.1, (z.2.1.2.2.2.1, z.2.1.2.2.2.2)))), (((z.2.2.1.1.1, z.2.2.1.1.2), (z.2.2.1.2.1, (z.2.2.1.2.2.1, z.2.2.1.2.2.2))), ((z.2.2.2.1.1, (z.2.2.2.1.2.1, z.2.2.2.1.2.2)), (z.2.2.2.2.1, ((1 : Int32), z.2.2.2.2.2.2)))))) (z.1.2.2.1.2.2 (r4).toNatClampNeg) (fun (r5 : Unit) (u5 : T_Mo) => post () u5))) := by
    intro z f x4 x6
    refine s_Mo_node1F (by grind [Fin, I_Mo, FrW]) (by grind [FrW]) (fun r u hq => ⟨vin (c := 2000) hq.2.1 hq.2.2.1 rfl, s_Mo_unitWord1 (fun r u hu => hp _ _ (by grind [FrW]))⟩)
  unfold wp_Mo_numberOut
  refine s_Mo_node1F p0 p1 (fun r1 u1 hq => ⟨vin (c := 2000) hq.2.1 hq.2.2.1 rfl, ?_⟩)
  refine s_Mo_digitsOf (fun r2 u2 h2 => ?_)
  exact ⟨fun _ => ⟨4, l_Mo_numberOut_L45 (e0 := z_this) (fun z x4 x6 f => fin z f x4 x6) 4 _ _ _ h2 (Or.inl ⟨rfl, rem1000 _, by decide⟩)⟩, fun _ => s_Mo_say (fun r6 u6 h6 => ⟨4, l_Mo_numberOut_L45 (e0 := z_this) (fun z x4 x6 f => fin z f x4 x6) 4 _ _ _ (by grind [FrW]) (Or.inl ⟨rfl, rem1000 _, by decide⟩)⟩)⟩

set_option maxHeartbeats 4000000 in
theorem s_Mo_isSum {a0 : Int32} {post : Int32 → Unit → Prop} (hp : ∀ r u, (r = 0 ∨ r = 1) → post r u) : wp_Mo_isSum a0 post := by
  unfold wp_Mo_isSum
  refine ⟨fun h0 => ?_, fun h1 => ?_⟩
  · exact hp _ _ (by first | assumption | trivial | grind [Fin, I_Mo, NF, FrM, FrW, KK, NmOk])
  · refine ⟨fun h2 => ?_, fun h3 => ?_⟩
    · exact hp _ _ (by first | assumption | trivial | grind [Fin, I_Mo, NF, FrM, FrW, KK, NmOk])
    · exact hp _ _ (by first | assumption | trivial | grind [Fin, I_Mo, NF, FrM, FrW, KK, NmOk])
set_option maxHeartbeats 4000000 in
theorem s_Mo_isProduct {a0 : Int32} {post : Int32 → Unit → Prop} (hp : ∀ r u, (r = 0 ∨ r = 1) → post r u) : wp_Mo_isProduct a0 post := by
  unfold wp_Mo_isProduct
  refine ⟨fun h0 => ?_, fun h1 => ?_⟩
  · exact hp _ _ (by first | assumption | trivial | grind [Fin, I_Mo, NF, FrM, FrW, KK, NmOk])
  · refine ⟨fun h2 => ?_, fun h3 => ?_⟩
    · exact hp _ _ (by first | assumption | trivial | grind [Fin, I_Mo, NF, FrM, FrW, KK, NmOk])
    · exact hp _ _ (by first | assumption | trivial | grind [Fin, I_Mo, NF, FrM, FrW, KK, NmOk])
