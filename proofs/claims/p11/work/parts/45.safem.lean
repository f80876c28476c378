def I_Mo (z : T_Mo) : Prop := (0 : Int32) ≤ z.1.1.1.1.2 ∧ z.1.1.1.1.2 ≤ 4000 ∧ (z.1.2.1.2.1 = 0 ∨ z.1.2.1.2.1 = 1) ∧ (0 : Int32) ≤ z.2.1.2.2.2.2 ∧ z.2.1.2.2.2.2 ≤ 1000 ∧ (0 : Int32) ≤ z.2.2.1.1.1 ∧ z.2.2.1.1.1 ≤ 1000 ∧ (0 : Int32) ≤ z.2.2.1.1.2 ∧ z.2.2.1.1.2 ≤ 100
def I_Lx (z : T_Mo) : Prop := (0 : Int32) ≤ z.1.1.2.1.1 ∧ z.1.1.2.1.1 ≤ z.1.1.2.1.2 ∧ z.1.1.2.1.2 ≤ z.1.1.1.1.2 ∧ z.1.1.1.1.2 ≤ 4000
theorem e4_ent {x : Int32} (h : (0 : Int32) ≤ x) : (4000 : Int32).toInt - x.toInt < ((5000 : Nat) : Int) := by
  rw [Int32.le_iff_toInt_le] at h
  have e : (0 : Int32).toInt = 0 := rfl
  have e1 : (4000 : Int32).toInt = 4000 := rfl
  omega
def P0 (z : T_Mo) : Prop := (0 : Int32) ≤ z.1.1.2.1.1 ∧ z.1.1.2.1.1 ≤ z.1.1.1.2.1 ∧ z.1.1.1.2.1 ≤ z.1.1.1.1.2 ∧ z.1.1.1.1.2 ≤ 4000
def Fr (g z : T_Mo) : Prop := z.1.1.1.1 = g.1.1.1.1 ∧ z.1.2.1.1.2 = g.1.2.1.1.2 ∧ z.1.2.1.2 = g.1.2.1.2 ∧ z.1.2.2 = g.1.2.2 ∧ z.2 = g.2
def Pl (z : T_Mo) : Prop := (0 : Int32) ≤ z.1.1.1.2.1 ∧ z.1.1.1.2.1 ≤ z.1.1.1.1.2 ∧ z.1.1.1.1.2 ≤ 4000
def Lx2 (z : T_Mo) : Prop := (0 : Int32) ≤ z.1.1.2.1.1 ∧ z.1.1.2.1.1 ≤ z.1.1.2.1.2 ∧ z.1.1.2.1.2 ≤ z.1.1.1.2.1 ∧ z.1.1.1.2.1 ≤ z.1.1.1.1.2 ∧ z.1.1.1.1.2 ≤ 4000
def VN (z : T_Mo) : Prop := z.1.1.2.2.2.2 = 0 → (0 : Int64) ≤ z.1.1.2.2.2.1
/-- a number of k digits -/
def vb (v : Int64) (k : Int32) : Prop := ∃ n : Nat, k.toInt = n ∧ n ≤ 9 ∧ 0 ≤ v.toInt ∧ v.toInt < 10 ^ n
theorem vb_0 {k : Int32} (h : k = 0) : vb (0 : Int64) k := ⟨0, by rw [h]; rfl, by decide, by decide, by decide⟩
theorem vb_pow {n : Nat} (h : n ≤ 9) : (10 : Int) ^ n ≤ 1000000000 := match n, h with | 0, _ => by decide | 1, _ => by decide | 2, _ => by decide | 3, _ => by decide | 4, _ => by decide | 5, _ => by decide | 6, _ => by decide | 7, _ => by decide | 8, _ => by decide | 9, _ => by decide
theorem vb_step {v : Int64} {k k' r : Int32} (h : vb v k) (d0 : (48 : Int32) ≤ r) (d9 : r ≤ 57) (hk : k < 9) (e : k' = k + 1) : vb ((((10 : Int64) * v) + (r).toInt64) - (48 : Int64)) k' := by
  obtain ⟨n, h1, h2, h3, h4⟩ := h
  rw [Int32.le_iff_toInt_le] at d0 d9
  rw [Int32.lt_iff_toInt_lt] at hk
  rw [show (48 : Int32).toInt = 48 from rfl] at d0
  rw [show (57 : Int32).toInt = 57 from rfl] at d9
  rw [show (9 : Int32).toInt = 9 from rfl] at hk
  have hb := vb_pow h2
  have e1 : (((10 : Int64) * v) + (r).toInt64 - (48 : Int64)).toInt = 10 * v.toInt + r.toInt - 48 := by
    have a1 : ((10 : Int64) * v).toInt = 10 * v.toInt := by
      rw [Int64.toInt_mul, show (10 : Int64).toInt = 10 from rfl]; exact Int.bmod_eq_of_le (by omega) (by omega)
    have a2 : (((10 : Int64) * v) + (r).toInt64).toInt = 10 * v.toInt + r.toInt := by
      rw [Int64.toInt_add, a1, Int32.toInt_toInt64]; exact Int.bmod_eq_of_le (by omega) (by omega)
    rw [Int64.toInt_sub, a2, show (48 : Int64).toInt = 48 from rfl]; exact Int.bmod_eq_of_le (by omega) (by omega)
  refine ⟨n + 1, ?_, by omega, by rw [e1]; omega, by rw [e1, Int.pow_succ]; omega⟩
  rw [e, Int32.toInt_add, h1, show (1 : Int32).toInt = 1 from rfl]
  exact Int.bmod_eq_of_le (by omega) (by omega)
theorem vb_mul {v : Int64} {k : Int32} (h : vb v k) : (0 : Int64) ≤ v * (1000 : Int64) := by
  obtain ⟨n, h1, h2, h3, h4⟩ := h
  have hb := vb_pow h2
  rw [Int64.le_iff_toInt_le, Int64.toInt_mul, show (1000 : Int64).toInt = 1000 from rfl, show (0 : Int64).toInt = 0 from rfl, Int.bmod_eq_of_le (by omega) (by omega)]
  omega
set_option maxHeartbeats 4000000 in
theorem s_Mo_unit {z_this : T_Mo} {a1 : Int32} {post : Int32 → T_Mo → Prop} (p0 : I_Mo z_this) (hp : ∀ r u, ((r = 0 ∨ r = 1) ∧ I_Mo u) → post r u) : wp_Mo_unit z_this a1 post := by
  unfold wp_Mo_unit
  refine ⟨fun h0 => ?_, fun h1 => ?_⟩
  · exact hp _ _ (by first | assumption | trivial | grind [I_Mo, I_Lx, P0, Fr, Pl, Lx2, VN, → vb_mul])
  · refine ⟨fun h2 => ?_, fun h3 => ?_⟩
    · exact hp _ _ (by first | assumption | trivial | grind [I_Mo, I_Lx, P0, Fr, Pl, Lx2, VN, → vb_mul])
    · refine ⟨fun h4 => ?_, fun h5 => ?_⟩
      · exact hp _ _ (by first | assumption | trivial | grind [I_Mo, I_Lx, P0, Fr, Pl, Lx2, VN, → vb_mul])
      · refine ⟨(vin (c := 4000) (by first | assumption | trivial | grind [I_Mo, I_Lx, P0, Fr, Pl, Lx2, VN, → vb_mul]) (by first | assumption | trivial | grind [I_Mo, I_Lx, P0, Fr, Pl, Lx2, VN, → vb_mul]) rfl), ?_⟩
        exact hp _ _ (by first | assumption | trivial | grind [I_Mo, I_Lx, P0, Fr, Pl, Lx2, VN, → vb_mul])
set_option maxHeartbeats 4000000 in
theorem s_Mo_at {z_this : T_Mo} {a1 : Int32} {post : Int32 → Unit → Prop} (p0 : z_this.1.1.1.1.2 ≤ 4000) (p1 : (0 : Int32) ≤ a1) (hp : ∀ r u, ((z_this.1.1.1.1.2 ≤ a1 ∧ r = 0) ∨ (a1 < z_this.1.1.1.1.2 ∧ r = z_this.1.1.1.1.1 (a1).toNatClampNeg)) → post r u) : wp_Mo_at z_this a1 post := by
  unfold wp_Mo_at
  refine ⟨fun h0 => ?_, fun h1 => ?_⟩
  · exact hp _ _ (by first | assumption | trivial | grind [I_Mo, I_Lx, P0, Fr, Pl, Lx2, VN, → vb_mul])
  · refine ⟨(vin (c := 4000) (by first | assumption | trivial | grind [I_Mo, I_Lx, P0, Fr, Pl, Lx2, VN, → vb_mul]) (by first | assumption | trivial | grind [I_Mo, I_Lx, P0, Fr, Pl, Lx2, VN, → vb_mul]) rfl), ?_⟩
    exact hp _ _ (by first | assumption | trivial | grind [I_Mo, I_Lx, P0, Fr, Pl, Lx2, VN, → vb_mul])
set_option maxHeartbeats 4000000 in
theorem s_Mo_isDigit {a0 : Int32} {post : Int32 → Unit → Prop} (hp : ∀ r u, (r = 0 ∨ (r = 1 ∧ (48 : Int32) ≤ a0 ∧ a0 ≤ 57)) → post r u) : wp_Mo_isDigit a0 post := by
  unfold wp_Mo_isDigit
  refine ⟨fun h0 => ?_, fun h1 => ?_⟩
  · exact hp _ _ (by first | assumption | trivial | grind [I_Mo, I_Lx, P0, Fr, Pl, Lx2, VN, → vb_mul])
  · refine ⟨fun h2 => ?_, fun h3 => ?_⟩
    · exact hp _ _ (by first | assumption | trivial | grind [I_Mo, I_Lx, P0, Fr, Pl, Lx2, VN, → vb_mul])
    · exact hp _ _ (by first | assumption | trivial | grind [I_Mo, I_Lx, P0, Fr, Pl, Lx2, VN, → vb_mul])
set_option maxHeartbeats 4000000 in
theorem s_Mo_isLetter {a0 : Int32} {post : Int32 → Unit → Prop} (hp : ∀ r u, ((r = 0 ∧ ¬ ((97 : Int32) ≤ a0 ∧ a0 ≤ 122)) ∨ (r = 1 ∧ (97 : Int32) ≤ a0 ∧ a0 ≤ 122)) → post r u) : wp_Mo_isLetter a0 post := by
  unfold wp_Mo_isLetter
  refine ⟨fun h0 => ?_, fun h1 => ?_⟩
  · exact hp _ _ (by first | assumption | trivial | grind [I_Mo, I_Lx, P0, Fr, Pl, Lx2, VN, → vb_mul])
  · refine ⟨fun h2 => ?_, fun h3 => ?_⟩
    · exact hp _ _ (by first | assumption | trivial | grind [I_Mo, I_Lx, P0, Fr, Pl, Lx2, VN, → vb_mul])
    · exact hp _ _ (by first | assumption | trivial | grind [I_Mo, I_Lx, P0, Fr, Pl, Lx2, VN, → vb_mul])
set_option maxHeartbeats 4000000 in
theorem l_Mo_is_L8 {z_this : T_Mo} {K : Int64 → Int32 → Int64 → Prop} {post : Int32 → Unit → Prop} (hK : ∀ x1 x3 x4, ((0 : Int32) ≤ x3 ∧ x3 ≤ 4000 ∧ I_Lx z_this) → K x1 x3 x4) (hp : ∀ r u, (r = 0 ∨ r = 1) → post r u) : ∀ (n9 : Nat) (x1 : Int64) (x3 : Int32) (x4 : Int64), (0 : Int32) ≤ x3 → x3 ≤ 4000 → I_Lx z_this → (4000 : Int32).toInt - (x3).toInt < ((n9 : Nat) : Int) → wp_Mo_is_L8 z_this K post n9 x1 x3 x4 := by
  intro n9
  induction n9 with
  | zero => intro x1 x3 x4 i0 i1 i2 hm; exact (i_meas0 i1 hm).elim
  | succ n9 ih =>
    intro x1 x3 x4 i0 i1 i2 hm
    rw [wp_Mo_is_L8]
    refine ⟨fun h0 => ?_, fun h1 => ?_⟩
    · exact hK _ _ _ (by first | assumption | trivial | grind [I_Mo, I_Lx, P0, Fr, Pl, Lx2, VN, → vb_mul])
    · refine ⟨fun h2 => ?_, fun h3 => ?_⟩
      · exact hp _ _ (by first | assumption | trivial | grind [I_Mo, I_Lx, P0, Fr, Pl, Lx2, VN, → vb_mul])
      · refine ⟨(vin (c := 4000) (by first | assumption | trivial | grind [I_Mo, I_Lx, P0, Fr, Pl, Lx2, VN, → vb_mul]) (by first | assumption | trivial | grind [I_Mo, I_Lx, P0, Fr, Pl, Lx2, VN, → vb_mul]) rfl), ?_⟩
        refine ⟨fun h4 => ?_, fun h5 => ?_⟩
        · exact ih _ _ _ (by first | assumption | trivial | grind [I_Mo, I_Lx, P0, Fr, Pl, Lx2, VN, → vb_mul]) (by first | assumption | trivial | grind [I_Mo, I_Lx, P0, Fr, Pl, Lx2, VN, → vb_mul]) (by first | assumption | trivial | grind [I_Mo, I_Lx, P0, Fr, Pl, Lx2, VN, → vb_mul]) (i_meas (by first | assumption | trivial | grind [I_Mo, I_Lx, P0, Fr, Pl, Lx2, VN, → vb_mul]) (by first | assumption | trivial | grind [I_Mo, I_Lx, P0, Fr, Pl, Lx2, VN, → vb_mul]) hm)
        · exact hp _ _ (by first | assumption | trivial | grind [I_Mo, I_Lx, P0, Fr, Pl, Lx2, VN, → vb_mul])
set_option maxHeartbeats 4000000 in
theorem s_Mo_is {z_this : T_Mo} {a1 : Int64} {post : Int32 → Unit → Prop} (p0 : I_Lx z_this) (hp : ∀ r u, (r = 0 ∨ r = 1) → post r u) : wp_Mo_is z_this a1 post := by
  unfold wp_Mo_is
  refine ⟨5000, l_Mo_is_L8 (fun x1 x3 x4 hv0 => ?_) (fun r u hq => hp r u hq) 5000 _ _ _ (by first | assumption | trivial | grind [I_Mo, I_Lx, P0, Fr, Pl, Lx2, VN, → vb_mul]) (by first | assumption | trivial | grind [I_Mo, I_Lx, P0, Fr, Pl, Lx2, VN, → vb_mul]) (by first | assumption | trivial | grind [I_Mo, I_Lx, P0, Fr, Pl, Lx2, VN, → vb_mul]) (e4_ent (by first | assumption | trivial | grind [I_Mo, I_Lx, P0, Fr, Pl, Lx2, VN, → vb_mul]))⟩
  refine ⟨fun h1 => ?_, fun h2 => ?_⟩
  · exact hp _ _ (by first | assumption | trivial | grind [I_Mo, I_Lx, P0, Fr, Pl, Lx2, VN, → vb_mul])
  · exact hp _ _ (by first | assumption | trivial | grind [I_Mo, I_Lx, P0, Fr, Pl, Lx2, VN, → vb_mul])
set_option maxHeartbeats 4000000 in
theorem s_Mo_meaning_J415 {z_this : T_Mo} {post : Int32 → Unit → Prop} {x1 : Int32} {x2 : Int32} {x3 : Int32} {y0 : Int32} (p0 : I_Lx z_this) (p1 : ((-1 : Int32) ≤ y0 ∧ y0 ≤ 46)) (hp : ∀ r u, ((-1 : Int32) ≤ r ∧ r ≤ 46) → post r u) : wp_Mo_meaning_J415 z_this post x1 x2 x3 y0 := by
  unfold wp_Mo_meaning_J415
  exact hp _ _ (by first | assumption | trivial | grind [I_Mo, I_Lx, P0, Fr, Pl, Lx2, VN, → vb_mul])
set_option maxHeartbeats 4000000 in
theorem s_Mo_meaning_J395 {z_this : T_Mo} {post : Int32 → Unit → Prop} {x1 : Int32} {x2 : Int32} {y0 : Int32} (p0 : I_Lx z_this) (p1 : ((-1 : Int32) ≤ x1 ∧ x1 ≤ 46)) (p2 : ((-1 : Int32) ≤ x2 ∧ x2 ≤ 46)) (p3 : ((-1 : Int32) ≤ y0 ∧ y0 ≤ 46)) (hp : ∀ r u, ((-1 : Int32) ≤ r ∧ r ≤ 46) → post r u) : wp_Mo_meaning_J395 z_this post x1 x2 y0 := by
  unfold wp_Mo_meaning_J395
  refine ⟨fun h0 => ?_, fun h1 => ?_⟩
  · refine ⟨fun h2 => ?_, fun h3 => ?_⟩
    · exact s_Mo_meaning_J415 (by first | assumption | trivial | grind [I_Mo, I_Lx, P0, Fr, Pl, Lx2, VN, → vb_mul]) (by first | assumption | trivial | grind [I_Mo, I_Lx, P0, Fr, Pl, Lx2, VN, → vb_mul]) (fun r u hq => hp r u hq)
    · exact s_Mo_meaning_J415 (by first | assumption | trivial | grind [I_Mo, I_Lx, P0, Fr, Pl, Lx2, VN, → vb_mul]) (by first | assumption | trivial | grind [I_Mo, I_Lx, P0, Fr, Pl, Lx2, VN, → vb_mul]) (fun r u hq => hp r u hq)
  · exact s_Mo_meaning_J415 (by first | assumption | trivial | grind [I_Mo, I_Lx, P0, Fr, Pl, Lx2, VN, → vb_mul]) (by first | assumption | trivial | grind [I_Mo, I_Lx, P0, Fr, Pl, Lx2, VN, → vb_mul]) (fun r u hq => hp r u hq)
set_option maxHeartbeats 4000000 in
theorem s_Mo_meaning_J258 {z_this : T_Mo} {post : Int32 → Unit → Prop} {x1 : Int32} {y0 : Int32} (p0 : I_Lx z_this) (p1 : ((-1 : Int32) ≤ x1 ∧ x1 ≤ 46)) (p2 : ((-1 : Int32) ≤ y0 ∧ y0 ≤ 46)) (hp : ∀ r u, ((-1 : Int32) ≤ r ∧ r ≤ 46) → post r u) : wp_Mo_meaning_J258 z_this post x1 y0 := by
  unfold wp_Mo_meaning_J258
  refine s_Mo_is (by first | assumption | trivial | grind [I_Mo, I_Lx, P0, Fr, Pl, Lx2, VN, → vb_mul]) (fun r18 u18 hq0 => ?_)
  refine ⟨fun h1 => ?_, fun h2 => ?_⟩
  · refine s_Mo_is (by first | assumption | trivial | grind [I_Mo, I_Lx, P0, Fr, Pl, Lx2, VN, → vb_mul]) (fun r19 u19 hq3 => ?_)
    refine ⟨fun h4 => ?_, fun h5 => ?_⟩
    · refine s_Mo_is (by first | assumption | trivial | grind [I_Mo, I_Lx, P0, Fr, Pl, Lx2, VN, → vb_mul]) (fun r20 u20 hq6 => ?_)
      refine ⟨fun h7 => ?_, fun h8 => ?_⟩
      · refine s_Mo_is (by first | assumption | trivial | grind [I_Mo, I_Lx, P0, Fr, Pl, Lx2, VN, → vb_mul]) (fun r21 u21 hq9 => ?_)
        refine ⟨fun h10 => ?_, fun h11 => ?_⟩
        · refine s_Mo_is (by first | assumption | trivial | grind [I_Mo, I_Lx, P0, Fr, Pl, Lx2, VN, → vb_mul]) (fun r22 u22 hq12 => ?_)
          refine ⟨fun h13 => ?_, fun h14 => ?_⟩
          · refine s_Mo_is (by first | assumption | trivial | grind [I_Mo, I_Lx, P0, Fr, Pl, Lx2, VN, → vb_mul]) (fun r23 u23 hq15 => ?_)
            refine ⟨fun h16 => ?_, fun h17 => ?_⟩
            · refine s_Mo_is (by first | assumption | trivial | grind [I_Mo, I_Lx, P0, Fr, Pl, Lx2, VN, → vb_mul]) (fun r24 u24 hq18 => ?_)
              refine ⟨fun h19 => ?_, fun h20 => ?_⟩
              · refine s_Mo_is (by first | assumption | trivial | grind [I_Mo, I_Lx, P0, Fr, Pl, Lx2, VN, → vb_mul]) (fun r25 u25 hq21 => ?_)
                refine ⟨fun h22 => ?_, fun h23 => ?_⟩
                · refine s_Mo_is (by first | assumption | trivial | grind [I_Mo, I_Lx, P0, Fr, Pl, Lx2, VN, → vb_mul]) (fun r26 u26 hq24 => ?_)
                  refine ⟨fun h25 => ?_, fun h26 => ?_⟩
                  · exact s_Mo_meaning_J395 (by first | assumption | trivial | grind [I_Mo, I_Lx, P0, Fr, Pl, Lx2, VN, → vb_mul]) (by first | assumption | trivial | grind [I_Mo, I_Lx, P0, Fr, Pl, Lx2, VN, → vb_mul]) (by first | assumption | trivial | grind [I_Mo, I_Lx, P0, Fr, Pl, Lx2, VN, → vb_mul]) (by first | assumption | trivial | grind [I_Mo, I_Lx, P0, Fr, Pl, Lx2, VN, → vb_mul]) (fun r u hq => hp r u hq)
                  · exact s_Mo_meaning_J395 (by first | assumption | trivial | grind [I_Mo, I_Lx, P0, Fr, Pl, Lx2, VN, → vb_mul]) (by first | assumption | trivial | grind [I_Mo, I_Lx, P0, Fr, Pl, Lx2, VN, → vb_mul]) (by first | assumption | trivial | grind [I_Mo, I_Lx, P0, Fr, Pl, Lx2, VN, → vb_mul]) (by first | assumption | trivial | grind [I_Mo, I_Lx, P0, Fr, Pl, Lx2, VN, → vb_mul]) (fun r u hq => hp r u hq)
                · exact s_Mo_meaning_J395 (by first | assumption | trivial | grind [I_Mo, I_Lx, P0, Fr, Pl, Lx2, VN, → vb_mul]) (by first | assumption | trivial | grind [I_Mo, I_Lx, P0, Fr, Pl, Lx2, VN, → vb_mul]) (by first | assumption | trivial | grind [I_Mo, I_Lx, P0, Fr, Pl, Lx2, VN, → vb_mul]) (by first | assumption | trivial | grind [I_Mo, I_Lx, P0, Fr, Pl, Lx2, VN, → vb_mul]) (fun r u hq => hp r u hq)
              · exact s_Mo_meaning_J395 (by first | assumption | trivial | grind [I_Mo, I_Lx, P0, Fr, Pl, Lx2, VN, → vb_mul]) (by first | assumption | trivial | grind [I_Mo, I_Lx, P0, Fr, Pl, Lx2, VN, → vb_mul]) (by first | assumption | trivial | grind [I_Mo, I_Lx, P0, Fr, Pl, Lx2, VN, → vb_mul]) (by first | assumption | trivial | grind [I_Mo, I_Lx, P0, Fr, Pl, Lx2, VN, → vb_mul]) (fun r u hq => hp r u hq)
            · exact s_Mo_meaning_J395 (by first | assumption | trivial | grind [I_Mo, I_Lx, P0, Fr, Pl, Lx2, VN, → vb_mul]) (by first | assumption | trivial | grind [I_Mo, I_Lx, P0, Fr, Pl, Lx2, VN, → vb_mul]) (by first | assumption | trivial | grind [I_Mo, I_Lx, P0, Fr, Pl, Lx2, VN, → vb_mul]) (by first | assumption | trivial | grind [I_Mo, I_Lx, P0, Fr, Pl, Lx2, VN, → vb_mul]) (fun r u hq => hp r u hq)
          · exact s_Mo_meaning_J395 (by first | assumption | trivial | grind [I_Mo, I_Lx, P0, Fr, Pl, Lx2, VN, → vb_mul]) (by first | assumption | trivial | grind [I_Mo, I_Lx, P0, Fr, Pl, Lx2, VN, → vb_mul]) (by first | assumption | trivial | grind [I_Mo, I_Lx, P0, Fr, Pl, Lx2, VN, → vb_mul]) (by first | assumption | trivial | grind [I_Mo, I_Lx, P0, Fr, Pl, Lx2, VN, → vb_mul]) (fun r u hq => hp r u hq)
        · exact s_Mo_meaning_J395 (by first | assumption | trivial | grind [I_Mo, I_Lx, P0, Fr, Pl, Lx2, VN, → vb_mul]) (by first | assumption | trivial | grind [I_Mo, I_Lx, P0, Fr, Pl, Lx2, VN, → vb_mul]) (by first | assumption | trivial | grind [I_Mo, I_Lx, P0, Fr, Pl, Lx2, VN, → vb_mul]) (by first | assumption | trivial | grind [I_Mo, I_Lx, P0, Fr, Pl, Lx2, VN, → vb_mul]) (fun r u hq => hp r u hq)
      · exact s_Mo_meaning_J395 (by first | assumption | trivial | grind [I_Mo, I_Lx, P0, Fr, Pl, Lx2, VN, → vb_mul]) (by first | assumption | trivial | grind [I_Mo, I_Lx, P0, Fr, Pl, Lx2, VN, → vb_mul]) (by first | assumption | trivial | grind [I_Mo, I_Lx, P0, Fr, Pl, Lx2, VN, → vb_mul]) (by first | assumption | trivial | grind [I_Mo, I_Lx, P0, Fr, Pl, Lx2, VN, → vb_mul]) (fun r u hq => hp r u hq)
    · exact s_Mo_meaning_J395 (by first | assumption | trivial | grind [I_Mo, I_Lx, P0, Fr, Pl, Lx2, VN, → vb_mul]) (by first | assumption | trivial | grind [I_Mo, I_Lx, P0, Fr, Pl, Lx2, VN, → vb_mul]) (by first | assumption | trivial | grind [I_Mo, I_Lx, P0, Fr, Pl, Lx2, VN, → vb_mul]) (by first | assumption | trivial | grind [I_Mo, I_Lx, P0, Fr, Pl, Lx2, VN, → vb_mul]) (fun r u hq => hp r u hq)
  · exact s_Mo_meaning_J395 (by first | assumption | trivial | grind [I_Mo, I_Lx, P0, Fr, Pl, Lx2, VN, → vb_mul]) (by first | assumption | trivial | grind [I_Mo, I_Lx, P0, Fr, Pl, Lx2, VN, → vb_mul]) (by first | assumption | trivial | grind [I_Mo, I_Lx, P0, Fr, Pl, Lx2, VN, → vb_mul]) (by first | assumption | trivial | grind [I_Mo, I_Lx, P0, Fr, Pl, Lx2, VN, → vb_mul]) (fun r u hq => hp r u hq)
set_option maxHeartbeats 4000000 in
theorem s_Mo_meaning_J121 {z_this : T_Mo} {post : Int32 → Unit → Prop} {y0 : Int32} (p0 : I_Lx z_this) (p1 : ((-1 : Int32) ≤ y0 ∧ y0 ≤ 46)) (hp : ∀ r u, ((-1 : Int32) ≤ r ∧ r ≤ 46) → post r u) : wp_Mo_meaning_J121 z_this post y0 := by
  unfold wp_Mo_meaning_J121
  refine s_Mo_is (by first | assumption | trivial | grind [I_Mo, I_Lx, P0, Fr, Pl, Lx2, VN, → vb_mul]) (fun r9 u9 hq0 => ?_)
  refine ⟨fun h1 => ?_, fun h2 => ?_⟩
  · refine s_Mo_is (by first | assumption | trivial | grind [I_Mo, I_Lx, P0, Fr, Pl, Lx2, VN, → vb_mul]) (fun r10 u10 hq3 => ?_)
    refine ⟨fun h4 => ?_, fun h5 => ?_⟩
    · refine s_Mo_is (by first | assumption | trivial | grind [I_Mo, I_Lx, P0, Fr, Pl, Lx2, VN, → vb_mul]) (fun r11 u11 hq6 => ?_)
      refine ⟨fun h7 => ?_, fun h8 => ?_⟩
      · refine s_Mo_is (by first | assumption | trivial | grind [I_Mo, I_Lx, P0, Fr, Pl, Lx2, VN, → vb_mul]) (fun r12 u12 hq9 => ?_)
        refine ⟨fun h10 => ?_, fun h11 => ?_⟩
        · refine s_Mo_is (by first | assumption | trivial | grind [I_Mo, I_Lx, P0, Fr, Pl, Lx2, VN, → vb_mul]) (fun r13 u13 hq12 => ?_)
          refine ⟨fun h13 => ?_, fun h14 => ?_⟩
          · refine s_Mo_is (by first | assumption | trivial | grind [I_Mo, I_Lx, P0, Fr, Pl, Lx2, VN, → vb_mul]) (fun r14 u14 hq15 => ?_)
            refine ⟨fun h16 => ?_, fun h17 => ?_⟩
            · refine s_Mo_is (by first | assumption | trivial | grind [I_Mo, I_Lx, P0, Fr, Pl, Lx2, VN, → vb_mul]) (fun r15 u15 hq18 => ?_)
              refine ⟨fun h19 => ?_, fun h20 => ?_⟩
              · refine s_Mo_is (by first | assumption | trivial | grind [I_Mo, I_Lx, P0, Fr, Pl, Lx2, VN, → vb_mul]) (fun r16 u16 hq21 => ?_)
                refine ⟨fun h22 => ?_, fun h23 => ?_⟩
                · refine s_Mo_is (by first | assumption | trivial | grind [I_Mo, I_Lx, P0, Fr, Pl, Lx2, VN, → vb_mul]) (fun r17 u17 hq24 => ?_)
                  refine ⟨fun h25 => ?_, fun h26 => ?_⟩
                  · exact s_Mo_meaning_J258 (by first | assumption | trivial | grind [I_Mo, I_Lx, P0, Fr, Pl, Lx2, VN, → vb_mul]) (by first | assumption | trivial | grind [I_Mo, I_Lx, P0, Fr, Pl, Lx2, VN, → vb_mul]) (by first | assumption | trivial | grind [I_Mo, I_Lx, P0, Fr, Pl, Lx2, VN, → vb_mul]) (fun r u hq => hp r u hq)
                  · exact s_Mo_meaning_J258 (by first | assumption | trivial | grind [I_Mo, I_Lx, P0, Fr, Pl, Lx2, VN, → vb_mul]) (by first | assumption | trivial | grind [I_Mo, I_Lx, P0, Fr, Pl, Lx2, VN, → vb_mul]) (by first | assumption | trivial | grind [I_Mo, I_Lx, P0, Fr, Pl, Lx2, VN, → vb_mul]) (fun r u hq => hp r u hq)
                · exact s_Mo_meaning_J258 (by first | assumption | trivial | grind [I_Mo, I_Lx, P0, Fr, Pl, Lx2, VN, → vb_mul]) (by first | assumption | trivial | grind [I_Mo, I_Lx, P0, Fr, Pl, Lx2, VN, → vb_mul]) (by first | assumption | trivial | grind [I_Mo, I_Lx, P0, Fr, Pl, Lx2, VN, → vb_mul]) (fun r u hq => hp r u hq)
              · exact s_Mo_meaning_J258 (by first | assumption | trivial | grind [I_Mo, I_Lx, P0, Fr, Pl, Lx2, VN, → vb_mul]) (by first | assumption | trivial | grind [I_Mo, I_Lx, P0, Fr, Pl, Lx2, VN, → vb_mul]) (by first | assumption | trivial | grind [I_Mo, I_Lx, P0, Fr, Pl, Lx2, VN, → vb_mul]) (fun r u hq => hp r u hq)
            · exact s_Mo_meaning_J258 (by first | assumption | trivial | grind [I_Mo, I_Lx, P0, Fr, Pl, Lx2, VN, → vb_mul]) (by first | assumption | trivial | grind [I_Mo, I_Lx, P0, Fr, Pl, Lx2, VN, → vb_mul]) (by first | assumption | trivial | grind [I_Mo, I_Lx, P0, Fr, Pl, Lx2, VN, → vb_mul]) (fun r u hq => hp r u hq)
          · exact s_Mo_meaning_J258 (by first | assumption | trivial | grind [I_Mo, I_Lx, P0, Fr, Pl, Lx2, VN, → vb_mul]) (by first | assumption | trivial | grind [I_Mo, I_Lx, P0, Fr, Pl, Lx2, VN, → vb_mul]) (by first | assumption | trivial | grind [I_Mo, I_Lx, P0, Fr, Pl, Lx2, VN, → vb_mul]) (fun r u hq => hp r u hq)
        · exact s_Mo_meaning_J258 (by first | assumption | trivial | grind [I_Mo, I_Lx, P0, Fr, Pl, Lx2, VN, → vb_mul]) (by first | assumption | trivial | grind [I_Mo, I_Lx, P0, Fr, Pl, Lx2, VN, → vb_mul]) (by first | assumption | trivial | grind [I_Mo, I_Lx, P0, Fr, Pl, Lx2, VN, → vb_mul]) (fun r u hq => hp r u hq)
      · exact s_Mo_meaning_J258 (by first | assumption | trivial | grind [I_Mo, I_Lx, P0, Fr, Pl, Lx2, VN, → vb_mul]) (by first | assumption | trivial | grind [I_Mo, I_Lx, P0, Fr, Pl, Lx2, VN, → vb_mul]) (by first | assumption | trivial | grind [I_Mo, I_Lx, P0, Fr, Pl, Lx2, VN, → vb_mul]) (fun r u hq => hp r u hq)
    · exact s_Mo_meaning_J258 (by first | assumption | trivial | grind [I_Mo, I_Lx, P0, Fr, Pl, Lx2, VN, → vb_mul]) (by first | assumption | trivial | grind [I_Mo, I_Lx, P0, Fr, Pl, Lx2, VN, → vb_mul]) (by first | assumption | trivial | grind [I_Mo, I_Lx, P0, Fr, Pl, Lx2, VN, → vb_mul]) (fun r u hq => hp r u hq)
  · exact s_Mo_meaning_J258 (by first | assumption | trivial | grind [I_Mo, I_Lx, P0, Fr, Pl, Lx2, VN, → vb_mul]) (by first | assumption | trivial | grind [I_Mo, I_Lx, P0, Fr, Pl, Lx2, VN, → vb_mul]) (by first | assumption | trivial | grind [I_Mo, I_Lx, P0, Fr, Pl, Lx2, VN, → vb_mul]) (fun r u hq => hp r u hq)
set_option maxHeartbeats 4000000 in
theorem s_Mo_meaning {z_this : T_Mo} {post : Int32 → Unit → Prop} (p0 : I_Lx z_this) (hp : ∀ r u, ((-1 : Int32) ≤ r ∧ r ≤ 46) → post r u) : wp_Mo_meaning z_this post := by
  unfold wp_Mo_meaning
  refine s_Mo_is (by first | assumption | trivial | grind [I_Mo, I_Lx, P0, Fr, Pl, Lx2, VN, → vb_mul]) (fun r1 u1 hq0 => ?_)
  refine ⟨fun h1 => ?_, fun h2 => ?_⟩
  · refine s_Mo_is (by first | assumption | trivial | grind [I_Mo, I_Lx, P0, Fr, Pl, Lx2, VN, → vb_mul]) (fun r2 u2 hq3 => ?_)
    refine ⟨fun h4 => ?_, fun h5 => ?_⟩
    · refine s_Mo_is (by first | assumption | trivial | grind [I_Mo, I_Lx, P0, Fr, Pl, Lx2, VN, → vb_mul]) (fun r3 u3 hq6 => ?_)
      refine ⟨fun h7 => ?_, fun h8 => ?_⟩
      · refine s_Mo_is (by first | assumption | trivial | grind [I_Mo, I_Lx, P0, Fr, Pl, Lx2, VN, → vb_mul]) (fun r4 u4 hq9 => ?_)
        refine ⟨fun h10 => ?_, fun h11 => ?_⟩
        · refine s_Mo_is (by first | assumption | trivial | grind [I_Mo, I_Lx, P0, Fr, Pl, Lx2, VN, → vb_mul]) (fun r5 u5 hq12 => ?_)
          refine ⟨fun h13 => ?_, fun h14 => ?_⟩
          · refine s_Mo_is (by first | assumption | trivial | grind [I_Mo, I_Lx, P0, Fr, Pl, Lx2, VN, → vb_mul]) (fun r6 u6 hq15 => ?_)
            refine ⟨fun h16 => ?_, fun h17 => ?_⟩
            · refine s_Mo_is (by first | assumption | trivial | grind [I_Mo, I_Lx, P0, Fr, Pl, Lx2, VN, → vb_mul]) (fun r7 u7 hq18 => ?_)
              refine ⟨fun h19 => ?_, fun h20 => ?_⟩
              · refine s_Mo_is (by first | assumption | trivial | grind [I_Mo, I_Lx, P0, Fr, Pl, Lx2, VN, → vb_mul]) (fun r8 u8 hq21 => ?_)
                refine ⟨fun h22 => ?_, fun h23 => ?_⟩
                · exact s_Mo_meaning_J121 (by first | assumption | trivial | grind [I_Mo, I_Lx, P0, Fr, Pl, Lx2, VN, → vb_mul]) (by first | assumption | trivial | grind [I_Mo, I_Lx, P0, Fr, Pl, Lx2, VN, → vb_mul]) (fun r u hq => hp r u hq)
                · exact s_Mo_meaning_J121 (by first | assumption | trivial | grind [I_Mo, I_Lx, P0, Fr, Pl, Lx2, VN, → vb_mul]) (by first | assumption | trivial | grind [I_Mo, I_Lx, P0, Fr, Pl, Lx2, VN, → vb_mul]) (fun r u hq => hp r u hq)
              · exact s_Mo_meaning_J121 (by first | assumption | trivial | grind [I_Mo, I_Lx, P0, Fr, Pl, Lx2, VN, → vb_mul]) (by first | assumption | trivial | grind [I_Mo, I_Lx, P0, Fr, Pl, Lx2, VN, → vb_mul]) (fun r u hq => hp r u hq)
            · exact s_Mo_meaning_J121 (by first | assumption | trivial | grind [I_Mo, I_Lx, P0, Fr, Pl, Lx2, VN, → vb_mul]) (by first | assumption | trivial | grind [I_Mo, I_Lx, P0, Fr, Pl, Lx2, VN, → vb_mul]) (fun r u hq => hp r u hq)
          · exact s_Mo_meaning_J121 (by first | assumption | trivial | grind [I_Mo, I_Lx, P0, Fr, Pl, Lx2, VN, → vb_mul]) (by first | assumption | trivial | grind [I_Mo, I_Lx, P0, Fr, Pl, Lx2, VN, → vb_mul]) (fun r u hq => hp r u hq)
        · exact s_Mo_meaning_J121 (by first | assumption | trivial | grind [I_Mo, I_Lx, P0, Fr, Pl, Lx2, VN, → vb_mul]) (by first | assumption | trivial | grind [I_Mo, I_Lx, P0, Fr, Pl, Lx2, VN, → vb_mul]) (fun r u hq => hp r u hq)
      · exact s_Mo_meaning_J121 (by first | assumption | trivial | grind [I_Mo, I_Lx, P0, Fr, Pl, Lx2, VN, → vb_mul]) (by first | assumption | trivial | grind [I_Mo, I_Lx, P0, Fr, Pl, Lx2, VN, → vb_mul]) (fun r u hq => hp r u hq)
    · exact s_Mo_meaning_J121 (by first | assumption | trivial | grind [I_Mo, I_Lx, P0, Fr, Pl, Lx2, VN, → vb_mul]) (by first | assumption | trivial | grind [I_Mo, I_Lx, P0, Fr, Pl, Lx2, VN, → vb_mul]) (fun r u hq => hp r u hq)
  · exact s_Mo_meaning_J121 (by first | assumption | trivial | grind [I_Mo, I_Lx, P0, Fr, Pl, Lx2, VN, → vb_mul]) (by first | assumption | trivial | grind [I_Mo, I_Lx, P0, Fr, Pl, Lx2, VN, → vb_mul]) (fun r u hq => hp r u hq)
set_option maxHeartbeats 4000000 in
theorem l_Mo_digits_L5 {K : T_Mo → Prop} {post : Unit → T_Mo → Prop} {g : T_Mo} (hK : ∀ z_this, ((0 : Int32) ≤ z_this.1.1.1.2.1 ∧ z_this.1.1.1.2.1 ≤ 4000 ∧ P0 z_this ∧ Fr g z_this ∧ vb z_this.1.1.2.2.2.1 (z_this.1.1.1.2.1 - z_this.1.1.2.1.1)) → K z_this) (hp : ∀ r u, (P0 u ∧ Fr g u ∧ VN u) → post r u) : ∀ (n9 : Nat) (z_this : T_Mo), (0 : Int32) ≤ z_this.1.1.1.2.1 → z_this.1.1.1.2.1 ≤ 4000 → P0 z_this → Fr g z_this → vb z_this.1.1.2.2.2.1 (z_this.1.1.1.2.1 - z_this.1.1.2.1.1) → (4000 : Int32).toInt - (z_this.1.1.1.2.1).toInt < ((n9 : Nat) : Int) → wp_Mo_digits_L5 K post n9 z_this := by
  intro n9
  induction n9 with
  | zero => intro z_this i0 i1 i2 i3 i4 hm; exact (i_meas0 i1 hm).elim
  | succ n9 ih =>
    intro z_this i0 i1 i2 i3 i4 hm
    rw [wp_Mo_digits_L5]
    refine s_Mo_at (by first | assumption | trivial | grind [I_Mo, I_Lx, P0, Fr, Pl, Lx2, VN, → vb_mul]) (by first | assumption | trivial | grind [I_Mo, I_Lx, P0, Fr, Pl, Lx2, VN, → vb_mul]) (fun r1 u1 hq0 => ?_)
    refine s_Mo_isDigit (fun r2 u2 hq1 => ?_)
    refine ⟨fun h2 => ?_, fun h3 => ?_⟩
    · exact hK _ (by first | assumption | trivial | grind [I_Mo, I_Lx, P0, Fr, Pl, Lx2, VN, → vb_mul])
    · refine ⟨fun h4 => ?_, fun h5 => ?_⟩
      · exact hK _ (by first | assumption | trivial | grind [I_Mo, I_Lx, P0, Fr, Pl, Lx2, VN, → vb_mul])
      · refine s_Mo_at (by first | assumption | trivial | grind [I_Mo, I_Lx, P0, Fr, Pl, Lx2, VN, → vb_mul]) (by first | assumption | trivial | grind [I_Mo, I_Lx, P0, Fr, Pl, Lx2, VN, → vb_mul]) (fun r3 u3 hq6 => ?_)
        exact ih _ (by first | assumption | trivial | grind [I_Mo, I_Lx, P0, Fr, Pl, Lx2, VN, → vb_mul]) (by first | assumption | trivial | grind [I_Mo, I_Lx, P0, Fr, Pl, Lx2, VN, → vb_mul]) (by first | assumption | trivial | grind [I_Mo, I_Lx, P0, Fr, Pl, Lx2, VN, → vb_mul]) (by first | assumption | trivial | grind [I_Mo, I_Lx, P0, Fr, Pl, Lx2, VN, → vb_mul]) (vb_step (by assumption) (by first | assumption | trivial | grind [I_Mo, I_Lx, P0, Fr, Pl, Lx2, VN, → vb_mul]) (by first | assumption | trivial | grind [I_Mo, I_Lx, P0, Fr, Pl, Lx2, VN, → vb_mul]) (by first | assumption | trivial | grind [I_Mo, I_Lx, P0, Fr, Pl, Lx2, VN, → vb_mul]) (by first | assumption | trivial | grind [I_Mo, I_Lx, P0, Fr, Pl, Lx2, VN, → vb_mul])) (i_meas (by first | assumption | trivial | grind [I_Mo, I_Lx, P0, Fr, Pl, Lx2, VN, → vb_mul]) (by first | assumption | trivial | grind [I_Mo, I_Lx, P0, Fr, Pl, Lx2, VN, → vb_mul]) hm)
set_option maxHeartbeats 4000000 in
theorem s_Mo_digits_J205 {post : Unit → T_Mo → Prop} {z_this : T_Mo} {g : T_Mo} (p0 : P0 z_this) (p1 : Fr g z_this) (p2 : VN z_this) (hp : ∀ r u, (P0 u ∧ Fr g u ∧ VN u) → post r u) : wp_Mo_digits_J205 post z_this := by
  unfold wp_Mo_digits_J205
  exact hp _ _ (by first | assumption | trivial | grind [I_Mo, I_Lx, P0, Fr, Pl, Lx2, VN, → vb_mul])
set_option maxHeartbeats 4000000 in
theorem l_Mo_digits_L143 {K : T_Mo → Int64 → Prop} {post : Unit → T_Mo → Prop} {g : T_Mo} (hK : ∀ z_this x1, ((0 : Int32) ≤ z_this.1.1.1.2.1 ∧ z_this.1.1.1.2.1 ≤ 4000 ∧ P0 z_this ∧ Fr g z_this ∧ ¬ z_this.1.1.2.2.2.2 = 0) → K z_this x1) (hp : ∀ r u, (P0 u ∧ Fr g u ∧ VN u) → post r u) : ∀ (n9 : Nat) (z_this : T_Mo) (x1 : Int64), (0 : Int32) ≤ z_this.1.1.1.2.1 → z_this.1.1.1.2.1 ≤ 4000 → P0 z_this → Fr g z_this → ¬ z_this.1.1.2.2.2.2 = 0 → (4000 : Int32).toInt - (z_this.1.1.1.2.1).toInt < ((n9 : Nat) : Int) → wp_Mo_digits_L143 K post n9 z_this x1 := by
  intro n9
  induction n9 with
  | zero => intro z_this x1 i0 i1 i2 i3 i4 hm; exact (i_meas0 i1 hm).elim
  | succ n9 ih =>
    intro z_this x1 i0 i1 i2 i3 i4 hm
    rw [wp_Mo_digits_L143]
    refine s_Mo_at (by first | assumption | trivial | grind [I_Mo, I_Lx, P0, Fr, Pl, Lx2, VN, → vb_mul]) (by first | assumption | trivial | grind [I_Mo, I_Lx, P0, Fr, Pl, Lx2, VN, → vb_mul]) (fun r5 u5 hq0 => ?_)
    refine s_Mo_isDigit (fun r6 u6 hq1 => ?_)
    refine ⟨fun h2 => ?_, fun h3 => ?_⟩
    · exact hK _ _ (by first | assumption | trivial | grind [I_Mo, I_Lx, P0, Fr, Pl, Lx2, VN, → vb_mul])
    · refine ⟨fun h4 => ?_, fun h5 => ?_⟩
      · exact hK _ _ (by first | assumption | trivial | grind [I_Mo, I_Lx, P0, Fr, Pl, Lx2, VN, → vb_mul])
      · refine s_Mo_at (by first | assumption | trivial | grind [I_Mo, I_Lx, P0, Fr, Pl, Lx2, VN, → vb_mul]) (by first | assumption | trivial | grind [I_Mo, I_Lx, P0, Fr, Pl, Lx2, VN, → vb_mul]) (fun r7 u7 hq6 => ?_)
        exact ih _ _ (by first | assumption | trivial | grind [I_Mo, I_Lx, P0, Fr, Pl, Lx2, VN, → vb_mul]) (by first | assumption | trivial | grind [I_Mo, I_Lx, P0, Fr, Pl, Lx2, VN, → vb_mul]) (by first | assumption | trivial | grind [I_Mo, I_Lx, P0, Fr, Pl, Lx2, VN, → vb_mul]) (by first | assumption | trivial | grind [I_Mo, I_Lx, P0, Fr, Pl, Lx2, VN, → vb_mul]) (by first | assumption | trivial | grind [I_Mo, I_Lx, P0, Fr, Pl, Lx2, VN, → vb_mul]) (i_meas (by first | assumption | trivial | grind [I_Mo, I_Lx, P0, Fr, Pl, Lx2, VN, → vb_mul]) (by first | assumption | trivial | grind [I_Mo, I_Lx, P0, Fr, Pl, Lx2, VN, → vb_mul]) hm)
set_option maxHeartbeats 4000000 in
theorem s_Mo_digits_J119 {post : Unit → T_Mo → Prop} {z_this : T_Mo} {y0 : Int32} {g : T_Mo} (p0 : P0 z_this) (p1 : Fr g z_this) (p2 : ((y0 = 0 ∧ (0 : Int64) ≤ z_this.1.1.2.2.2.1) ∨ (y0 = 1 ∧ z_this.1.1.1.2.1 < z_this.1.1.1.1.2))) (hp : ∀ r u, (P0 u ∧ Fr g u ∧ VN u) → post r u) : wp_Mo_digits_J119 post z_this y0 := by
  unfold wp_Mo_digits_J119
  refine ⟨(nar01 (by first | assumption | trivial | grind [I_Mo, I_Lx, P0, Fr, Pl, Lx2, VN, → vb_mul])), ?_⟩
  refine ⟨(fit01 (by first | assumption | trivial | grind [I_Mo, I_Lx, P0, Fr, Pl, Lx2, VN, → vb_mul])), ?_⟩
  refine ⟨fun h0 => ?_, fun h1 => ?_⟩
  · exact s_Mo_digits_J205 (g := g) (by first | assumption | trivial | grind [I_Mo, I_Lx, P0, Fr, Pl, Lx2, VN, → vb_mul]) (by first | assumption | trivial | grind [I_Mo, I_Lx, P0, Fr, Pl, Lx2, VN, → vb_mul]) (by first | assumption | trivial | grind [I_Mo, I_Lx, P0, Fr, Pl, Lx2, VN, → vb_mul]) (fun r u hq => hp r u hq)
  · refine ⟨5000, l_Mo_digits_L143 (g := g) (fun z_this x1 hv2 => ?_) (fun r u hq => hp r u hq) 5000 _ _ (by first | assumption | trivial | grind [I_Mo, I_Lx, P0, Fr, Pl, Lx2, VN, → vb_mul]) (by first | assumption | trivial | grind [I_Mo, I_Lx, P0, Fr, Pl, Lx2, VN, → vb_mul]) (by first | assumption | trivial | grind [I_Mo, I_Lx, P0, Fr, Pl, Lx2, VN, → vb_mul]) (by first | assumption | trivial | grind [I_Mo, I_Lx, P0, Fr, Pl, Lx2, VN, → vb_mul]) (by first | assumption | trivial | grind [I_Mo, I_Lx, P0, Fr, Pl, Lx2, VN, → vb_mul]) (e4_ent (by first | assumption | trivial | grind [I_Mo, I_Lx, P0, Fr, Pl, Lx2, VN, → vb_mul]))⟩
    exact s_Mo_digits_J205 (g := g) (by first | assumption | trivial | grind [I_Mo, I_Lx, P0, Fr, Pl, Lx2, VN, → vb_mul]) (by first | assumption | trivial | grind [I_Mo, I_Lx, P0, Fr, Pl, Lx2, VN, → vb_mul]) (by first | assumption | trivial | grind [I_Mo, I_Lx, P0, Fr, Pl, Lx2, VN, → vb_mul]) (fun r u hq => hp r u hq)
set_option maxHeartbeats 4000000 in
theorem s_Mo_digits_J118 {post : Unit → T_Mo → Prop} {z_this : T_Mo} {g : T_Mo} (p0 : P0 z_this) (p1 : Fr g z_this) (p2 : (0 : Int64) ≤ z_this.1.1.2.2.2.1) (hp : ∀ r u, (P0 u ∧ Fr g u ∧ VN u) → post r u) : wp_Mo_digits_J118 post z_this := by
  unfold wp_Mo_digits_J118
  exact s_Mo_digits_J119 (g := g) (by first | assumption | trivial | grind [I_Mo, I_Lx, P0, Fr, Pl, Lx2, VN, → vb_mul]) (by first | assumption | trivial | grind [I_Mo, I_Lx, P0, Fr, Pl, Lx2, VN, → vb_mul]) (by first | assumption | trivial | grind [I_Mo, I_Lx, P0, Fr, Pl, Lx2, VN, → vb_mul]) (fun r u hq => hp r u hq)
set_option maxHeartbeats 4000000 in
theorem s_Mo_digits_J72 {post : Unit → T_Mo → Prop} {z_this : T_Mo} {g : T_Mo} (p0 : P0 z_this) (p1 : Fr g z_this) (p2 : vb z_this.1.1.2.2.2.1 (z_this.1.1.1.2.1 - z_this.1.1.2.1.1)) (hp : ∀ r u, (P0 u ∧ Fr g u ∧ VN u) → post r u) : wp_Mo_digits_J72 post z_this := by
  unfold wp_Mo_digits_J72
  refine s_Mo_at (by first | assumption | trivial | grind [I_Mo, I_Lx, P0, Fr, Pl, Lx2, VN, → vb_mul]) (by first | assumption | trivial | grind [I_Mo, I_Lx, P0, Fr, Pl, Lx2, VN, → vb_mul]) (fun r4 u4 hq0 => ?_)
  refine ⟨fun h1 => ?_, fun h2 => ?_⟩
  · refine s_Mo_at (by first | assumption | trivial | grind [I_Mo, I_Lx, P0, Fr, Pl, Lx2, VN, → vb_mul]) (by first | assumption | trivial | grind [I_Mo, I_Lx, P0, Fr, Pl, Lx2, VN, → vb_mul]) (fun r8 u8 hq3 => ?_)
    refine s_Mo_isDigit (fun r9 u9 hq4 => ?_)
    refine ⟨fun h5 => ?_, fun h6 => ?_⟩
    · exact s_Mo_digits_J118 (g := g) (by first | assumption | trivial | grind [I_Mo, I_Lx, P0, Fr, Pl, Lx2, VN, → vb_mul]) (by first | assumption | trivial | grind [I_Mo, I_Lx, P0, Fr, Pl, Lx2, VN, → vb_mul]) (by first | assumption | trivial | grind [I_Mo, I_Lx, P0, Fr, Pl, Lx2, VN, → vb_mul]) (fun r u hq => hp r u hq)
    · exact s_Mo_digits_J119 (g := g) (by first | assumption | trivial | grind [I_Mo, I_Lx, P0, Fr, Pl, Lx2, VN, → vb_mul]) (by first | assumption | trivial | grind [I_Mo, I_Lx, P0, Fr, Pl, Lx2, VN, → vb_mul]) (by first | assumption | trivial | grind [I_Mo, I_Lx, P0, Fr, Pl, Lx2, VN, → vb_mul]) (fun r u hq => hp r u hq)
  · exact s_Mo_digits_J118 (g := g) (by first | assumption | trivial | grind [I_Mo, I_Lx, P0, Fr, Pl, Lx2, VN, → vb_mul]) (by first | assumption | trivial | grind [I_Mo, I_Lx, P0, Fr, Pl, Lx2, VN, → vb_mul]) (by first | assumption | trivial | grind [I_Mo, I_Lx, P0, Fr, Pl, Lx2, VN, → vb_mul]) (fun r u hq => hp r u hq)
set_option maxHeartbeats 4000000 in
theorem s_Mo_digits {z_this : T_Mo} {post : Unit → T_Mo → Prop} {g : T_Mo} (p0 : P0 z_this) (p1 : Fr g z_this) (p2 : z_this.1.1.1.2.1 = z_this.1.1.2.1.1) (hp : ∀ r u, (P0 u ∧ Fr g u ∧ VN u) → post r u) : wp_Mo_digits z_this post := by
  unfold wp_Mo_digits
  refine ⟨5000, l_Mo_digits_L5 (g := g) (fun z_this hv0 => ?_) (fun r u hq => hp r u hq) 5000 _ (by first | assumption | trivial | grind [I_Mo, I_Lx, P0, Fr, Pl, Lx2, VN, → vb_mul]) (by first | assumption | trivial | grind [I_Mo, I_Lx, P0, Fr, Pl, Lx2, VN, → vb_mul]) (by first | assumption | trivial | grind [I_Mo, I_Lx, P0, Fr, Pl, Lx2, VN, → vb_mul]) (by first | assumption | trivial | grind [I_Mo, I_Lx, P0, Fr, Pl, Lx2, VN, → vb_mul]) (vb_0 (by first | assumption | trivial | grind [I_Mo, I_Lx, P0, Fr, Pl, Lx2, VN, → vb_mul])) (e4_ent (by first | assumption | trivial | grind [I_Mo, I_Lx, P0, Fr, Pl, Lx2, VN, → vb_mul]))⟩
  exact s_Mo_digits_J72 (g := g) (by first | assumption | trivial | grind [I_Mo, I_Lx, P0, Fr, Pl, Lx2, VN, → vb_mul]) (by first | assumption | trivial | grind [I_Mo, I_Lx, P0, Fr, Pl, Lx2, VN, → vb_mul]) (by first | assumption | trivial | grind [I_Mo, I_Lx, P0, Fr, Pl, Lx2, VN, → vb_mul]) (fun r u hq => hp r u hq)
set_option maxHeartbeats 4000000 in
theorem l_Mo_go_L0 {K : T_Mo → Prop} {post : Int32 → T_Mo → Prop} {g : T_Mo} (hK : ∀ z_this, ((0 : Int32) ≤ z_this.1.1.1.2.1 ∧ z_this.1.1.1.2.1 ≤ 4000 ∧ Pl z_this ∧ Fr g z_this) → K z_this) (hp : ∀ r u, ((r = 0 ∨ r = 1) ∧ Lx2 u ∧ Fr g u ∧ (r = 1 → (u.1.1.1.2.2.2 = 999 → u.1.1.2.1.2 - u.1.1.2.1.1 ≤ 12) ∧ (u.1.1.1.2.2.2 = 2000 → VN u))) → post r u) : ∀ (n9 : Nat) (z_this : T_Mo), (0 : Int32) ≤ z_this.1.1.1.2.1 → z_this.1.1.1.2.1 ≤ 4000 → Pl z_this → Fr g z_this → (4000 : Int32).toInt - (z_this.1.1.1.2.1).toInt < ((n9 : Nat) : Int) → wp_Mo_go_L0 K post n9 z_this := by
  intro n9
  induction n9 with
  | zero => intro z_this i0 i1 i2 i3 hm; exact (i_meas0 i1 hm).elim
  | succ n9 ih =>
    intro z_this i0 i1 i2 i3 hm
    rw [wp_Mo_go_L0]
    refine s_Mo_at (by first | assumption | trivial | grind [I_Mo, I_Lx, P0, Fr, Pl, Lx2, VN, → vb_mul]) (by first | assumption | trivial | grind [I_Mo, I_Lx, P0, Fr, Pl, Lx2, VN, → vb_mul]) (fun r1 u1 hq0 => ?_)
    refine ⟨fun h1 => ?_, fun h2 => ?_⟩
    · refine s_Mo_at (by first | assumption | trivial | grind [I_Mo, I_Lx, P0, Fr, Pl, Lx2, VN, → vb_mul]) (by first | assumption | trivial | grind [I_Mo, I_Lx, P0, Fr, Pl, Lx2, VN, → vb_mul]) (fun r2 u2 hq3 => ?_)
      refine ⟨fun h4 => ?_, fun h5 => ?_⟩
      · exact ih _ (by first | assumption | trivial | grind [I_Mo, I_Lx, P0, Fr, Pl, Lx2, VN, → vb_mul]) (by first | assumption | trivial | grind [I_Mo, I_Lx, P0, Fr, Pl, Lx2, VN, → vb_mul]) (by first | assumption | trivial | grind [I_Mo, I_Lx, P0, Fr, Pl, Lx2, VN, → vb_mul]) (by first | assumption | trivial | grind [I_Mo, I_Lx, P0, Fr, Pl, Lx2, VN, → vb_mul]) (i_meas (by first | assumption | trivial | grind [I_Mo, I_Lx, P0, Fr, Pl, Lx2, VN, → vb_mul]) (by first | assumption | trivial | grind [I_Mo, I_Lx, P0, Fr, Pl, Lx2, VN, → vb_mul]) hm)
      · exact ih _ (by first | assumption | trivial | grind [I_Mo, I_Lx, P0, Fr, Pl, Lx2, VN, → vb_mul]) (by first | assumption | trivial | grind [I_Mo, I_Lx, P0, Fr, Pl, Lx2, VN, → vb_mul]) (by first | assumption | trivial | grind [I_Mo, I_Lx, P0, Fr, Pl, Lx2, VN, → vb_mul]) (by first | assumption | trivial | grind [I_Mo, I_Lx, P0, Fr, Pl, Lx2, VN, → vb_mul]) (i_meas (by first | assumption | trivial | grind [I_Mo, I_Lx, P0, Fr, Pl, Lx2, VN, → vb_mul]) (by first | assumption | trivial | grind [I_Mo, I_Lx, P0, Fr, Pl, Lx2, VN, → vb_mul]) hm)
    · refine s_Mo_at (by first | assumption | trivial | grind [I_Mo, I_Lx, P0, Fr, Pl, Lx2, VN, → vb_mul]) (by first | assumption | trivial | grind [I_Mo, I_Lx, P0, Fr, Pl, Lx2, VN, → vb_mul]) (fun r3 u3 hq3 => ?_)
      refine ⟨fun h4 => ?_, fun h5 => ?_⟩
      · refine s_Mo_at (by first | assumption | trivial | grind [I_Mo, I_Lx, P0, Fr, Pl, Lx2, VN, → vb_mul]) (by first | assumption | trivial | grind [I_Mo, I_Lx, P0, Fr, Pl, Lx2, VN, → vb_mul]) (fun r4 u4 hq6 => ?_)
        refine ⟨fun h7 => ?_, fun h8 => ?_⟩
        · exact ih _ (by first | assumption | trivial | grind [I_Mo, I_Lx, P0, Fr, Pl, Lx2, VN, → vb_mul]) (by first | assumption | trivial | grind [I_Mo, I_Lx, P0, Fr, Pl, Lx2, VN, → vb_mul]) (by first | assumption | trivial | grind [I_Mo, I_Lx, P0, Fr, Pl, Lx2, VN, → vb_mul]) (by first | assumption | trivial | grind [I_Mo, I_Lx, P0, Fr, Pl, Lx2, VN, → vb_mul]) (i_meas (by first | assumption | trivial | grind [I_Mo, I_Lx, P0, Fr, Pl, Lx2, VN, → vb_mul]) (by first | assumption | trivial | grind [I_Mo, I_Lx, P0, Fr, Pl, Lx2, VN, → vb_mul]) hm)
        · exact ih _ (by first | assumption | trivial | grind [I_Mo, I_Lx, P0, Fr, Pl, Lx2, VN, → vb_mul]) (by first | assumption | trivial | grind [I_Mo, I_Lx, P0, Fr, Pl, Lx2, VN, → vb_mul]) (by first | assumption | trivial | grind [I_Mo, I_Lx, P0, Fr, Pl, Lx2, VN, → vb_mul]) (by first | assumption | trivial | grind [I_Mo, I_Lx, P0, Fr, Pl, Lx2, VN, → vb_mul]) (i_meas (by first | assumption | trivial | grind [I_Mo, I_Lx, P0, Fr, Pl, Lx2, VN, → vb_mul]) (by first | assumption | trivial | grind [I_Mo, I_Lx, P0, Fr, Pl, Lx2, VN, → vb_mul]) hm)
      · exact hK _ (by first | assumption | trivial | grind [I_Mo, I_Lx, P0, Fr, Pl, Lx2, VN, → vb_mul])
set_option maxHeartbeats 4000000 in
theorem s_Mo_go_J287 {post : Int32 → T_Mo → Prop} {z_this : T_Mo} {x1 : Int32} {x2 : Int32} {y0 : Int32} {g : T_Mo} (p0 : P0 z_this) (p1 : Fr g z_this) (p2 : z_this.1.1.1.2.1 < z_this.1.1.1.1.2) (p3 : (x2 = 0 ∨ x2 = 1)) (p4 : (x2 = 1 → x1 ≤ 200)) (hp : ∀ r u, ((r = 0 ∨ r = 1) ∧ Lx2 u ∧ Fr g u ∧ (r = 1 → (u.1.1.1.2.2.2 = 999 → u.1.1.2.1.2 - u.1.1.2.1.1 ≤ 12) ∧ (u.1.1.1.2.2.2 = 2000 → VN u))) → post r u) : wp_Mo_go_J287 post z_this x1 x2 y0 := by
  unfold wp_Mo_go_J287
  refine ⟨(nar01 (by first | assumption | trivial | grind [I_Mo, I_Lx, P0, Fr, Pl, Lx2, VN, → vb_mul])), ?_⟩
  exact hp _ _ (by first | assumption | trivial | grind [I_Mo, I_Lx, P0, Fr, Pl, Lx2, VN, → vb_mul])
set_option maxHeartbeats 4000000 in
theorem s_Mo_go_J270 {post : Int32 → T_Mo → Prop} {z_this : T_Mo} {x1 : Int32} {y0 : Int32} {g : T_Mo} (p0 : P0 z_this) (p1 : Fr g z_this) (p2 : z_this.1.1.1.2.1 < z_this.1.1.1.1.2) (p3 : (y0 = 0 ∨ y0 = 1)) (p4 : (y0 = 1 → x1 ≤ 200)) (hp : ∀ r u, ((r = 0 ∨ r = 1) ∧ Lx2 u ∧ Fr g u ∧ (r = 1 → (u.1.1.1.2.2.2 = 999 → u.1.1.2.1.2 - u.1.1.2.1.1 ≤ 12) ∧ (u.1.1.1.2.2.2 = 2000 → VN u))) → post r u) : wp_Mo_go_J270 post z_this x1 y0 := by
  unfold wp_Mo_go_J270
  refine ⟨fun h0 => ?_, fun h1 => ?_⟩
  · exact s_Mo_go_J287 (g := g) (by first | assumption | trivial | grind [I_Mo, I_Lx, P0, Fr, Pl, Lx2, VN, → vb_mul]) (by first | assumption | trivial | grind [I_Mo, I_Lx, P0, Fr, Pl, Lx2, VN, → vb_mul]) (by first | assumption | trivial | grind [I_Mo, I_Lx, P0, Fr, Pl, Lx2, VN, → vb_mul]) (by first | assumption | trivial | grind [I_Mo, I_Lx, P0, Fr, Pl, Lx2, VN, → vb_mul]) (by first | assumption | trivial | grind [I_Mo, I_Lx, P0, Fr, Pl, Lx2, VN, → vb_mul]) (fun r u hq => hp r u hq)
  · exact s_Mo_go_J287 (g := g) (by first | assumption | trivial | grind [I_Mo, I_Lx, P0, Fr, Pl, Lx2, VN, → vb_mul]) (by first | assumption | trivial | grind [I_Mo, I_Lx, P0, Fr, Pl, Lx2, VN, → vb_mul]) (by first | assumption | trivial | grind [I_Mo, I_Lx, P0, Fr, Pl, Lx2, VN, → vb_mul]) (by first | assumption | trivial | grind [I_Mo, I_Lx, P0, Fr, Pl, Lx2, VN, → vb_mul]) (by first | assumption | trivial | grind [I_Mo, I_Lx, P0, Fr, Pl, Lx2, VN, → vb_mul]) (fun r u hq => hp r u hq)
set_option maxHeartbeats 4000000 in
theorem s_Mo_go_J265 {post : Int32 → T_Mo → Prop} {z_this : T_Mo} {x1 : Int32} {g : T_Mo} (p0 : P0 z_this) (p1 : Fr g z_this) (p2 : z_this.1.1.1.2.1 < z_this.1.1.1.1.2) (p3 : x1 ≤ 200) (hp : ∀ r u, ((r = 0 ∨ r = 1) ∧ Lx2 u ∧ Fr g u ∧ (r = 1 → (u.1.1.1.2.2.2 = 999 → u.1.1.2.1.2 - u.1.1.2.1.1 ≤ 12) ∧ (u.1.1.1.2.2.2 = 2000 → VN u))) → post r u) : wp_Mo_go_J265 post z_this x1 := by
  unfold wp_Mo_go_J265
  exact s_Mo_go_J270 (g := g) (by first | assumption | trivial | grind [I_Mo, I_Lx, P0, Fr, Pl, Lx2, VN, → vb_mul]) (by first | assumption | trivial | grind [I_Mo, I_Lx, P0, Fr, Pl, Lx2, VN, → vb_mul]) (by first | assumption | trivial | grind [I_Mo, I_Lx, P0, Fr, Pl, Lx2, VN, → vb_mul]) (by first | assumption | trivial | grind [I_Mo, I_Lx, P0, Fr, Pl, Lx2, VN, → vb_mul]) (by first | assumption | trivial | grind [I_Mo, I_Lx, P0, Fr, Pl, Lx2, VN, → vb_mul]) (fun r u hq => hp r u hq)
set_option maxHeartbeats 4000000 in
theorem s_Mo_go_J352 {post : Int32 → T_Mo → Prop} {z_this : T_Mo} {x1 : Int32} {x2 : Int32} {g : T_Mo} (p0 : Lx2 z_this) (p1 : Fr g z_this) (hp : ∀ r u, ((r = 0 ∨ r = 1) ∧ Lx2 u ∧ Fr g u ∧ (r = 1 → (u.1.1.1.2.2.2 = 999 → u.1.1.2.1.2 - u.1.1.2.1.1 ≤ 12) ∧ (u.1.1.1.2.2.2 = 2000 → VN u))) → post r u) : wp_Mo_go_J352 post z_this x1 x2 := by
  unfold wp_Mo_go_J352
  exact hp _ _ (by first | assumption | trivial | grind [I_Mo, I_Lx, P0, Fr, Pl, Lx2, VN, → vb_mul])
set_option maxHeartbeats 4000000 in
theorem s_Mo_go_J384 {post : Int32 → T_Mo → Prop} {z_this : T_Mo} {x1 : Int32} {x2 : Int32} {y0 : Int32} {g : T_Mo} (p0 : Lx2 z_this) (p1 : Fr g z_this) (p2 : (y0 = 999 → z_this.1.1.2.1.2 - z_this.1.1.2.1.1 ≤ 12)) (p3 : (y0 = 2000 → VN z_this)) (hp : ∀ r u, ((r = 0 ∨ r = 1) ∧ Lx2 u ∧ Fr g u ∧ (r = 1 → (u.1.1.1.2.2.2 = 999 → u.1.1.2.1.2 - u.1.1.2.1.1 ≤ 12) ∧ (u.1.1.1.2.2.2 = 2000 → VN u))) → post r u) : wp_Mo_go_J384 post z_this x1 x2 y0 := by
  unfold wp_Mo_go_J384
  exact hp _ _ (by first | assumption | trivial | grind [I_Mo, I_Lx, P0, Fr, Pl, Lx2, VN, → vb_mul])
set_option maxHeartbeats 4000000 in
theorem s_Mo_go_J315 {post : Int32 → T_Mo → Prop} {z_this : T_Mo} {x1 : Int32} {g : T_Mo} (p0 : P0 z_this) (p1 : Fr g z_this) (p2 : ((97 : Int32) ≤ x1 ∧ x1 ≤ 122 → z_this.1.1.1.2.1 - z_this.1.1.2.1.1 ≤ 12)) (p3 : (¬ ((97 : Int32) ≤ x1 ∧ x1 ≤ 122) → VN z_this)) (hp : ∀ r u, ((r = 0 ∨ r = 1) ∧ Lx2 u ∧ Fr g u ∧ (r = 1 → (u.1.1.1.2.2.2 = 999 → u.1.1.2.1.2 - u.1.1.2.1.1 ≤ 12) ∧ (u.1.1.1.2.2.2 = 2000 → VN u))) → post r u) : wp_Mo_go_J315 post z_this x1 := by
  unfold wp_Mo_go_J315
  refine s_Mo_at (by first | assumption | trivial | grind [I_Mo, I_Lx, P0, Fr, Pl, Lx2, VN, → vb_mul]) (by first | assumption | trivial | grind [I_Mo, I_Lx, P0, Fr, Pl, Lx2, VN, → vb_mul]) (fun r9 u9 hq0 => ?_)
  refine s_Mo_isLetter (fun r10 u10 hq1 => ?_)
  refine ⟨fun h2 => ?_, fun h3 => ?_⟩
  · refine s_Mo_isDigit (fun r11 u11 hq4 => ?_)
    refine ⟨fun h5 => ?_, fun h6 => ?_⟩
    · refine ⟨fun h7 => ?_, fun h8 => ?_⟩
      · exact s_Mo_go_J352 (g := g) (by first | assumption | trivial | grind [I_Mo, I_Lx, P0, Fr, Pl, Lx2, VN, → vb_mul]) (by first | assumption | trivial | grind [I_Mo, I_Lx, P0, Fr, Pl, Lx2, VN, → vb_mul]) (fun r u hq => hp r u hq)
      · refine s_Mo_isLetter (fun r12 u12 hq9 => ?_)
        refine ⟨fun h10 => ?_, fun h11 => ?_⟩
        · exact s_Mo_go_J384 (g := g) (by first | assumption | trivial | grind [I_Mo, I_Lx, P0, Fr, Pl, Lx2, VN, → vb_mul]) (by first | assumption | trivial | grind [I_Mo, I_Lx, P0, Fr, Pl, Lx2, VN, → vb_mul]) (by first | assumption | trivial | grind [I_Mo, I_Lx, P0, Fr, Pl, Lx2, VN, → vb_mul]) (by first | assumption | trivial | grind [I_Mo, I_Lx, P0, Fr, Pl, Lx2, VN, → vb_mul]) (fun r u hq => hp r u hq)
        · refine s_Mo_meaning (by first | assumption | trivial | grind [I_Mo, I_Lx, P0, Fr, Pl, Lx2, VN, → vb_mul]) (fun r13 u13 hq12 => ?_)
          exact s_Mo_go_J384 (g := g) (by first | assumption | trivial | grind [I_Mo, I_Lx, P0, Fr, Pl, Lx2, VN, → vb_mul]) (by first | assumption | trivial | grind [I_Mo, I_Lx, P0, Fr, Pl, Lx2, VN, → vb_mul]) (by first | assumption | trivial | grind [I_Mo, I_Lx, P0, Fr, Pl, Lx2, VN, → vb_mul]) (by first | assumption | trivial | grind [I_Mo, I_Lx, P0, Fr, Pl, Lx2, VN, → vb_mul]) (fun r u hq => hp r u hq)
    · exact s_Mo_go_J352 (g := g) (by first | assumption | trivial | grind [I_Mo, I_Lx, P0, Fr, Pl, Lx2, VN, → vb_mul]) (by first | assumption | trivial | grind [I_Mo, I_Lx, P0, Fr, Pl, Lx2, VN, → vb_mul]) (fun r u hq => hp r u hq)
  · exact s_Mo_go_J352 (g := g) (by first | assumption | trivial | grind [I_Mo, I_Lx, P0, Fr, Pl, Lx2, VN, → vb_mul]) (by first | assumption | trivial | grind [I_Mo, I_Lx, P0, Fr, Pl, Lx2, VN, → vb_mul]) (fun r u hq => hp r u hq)
set_option maxHeartbeats 4000000 in
theorem l_Mo_go_L124 {K : T_Mo → Int32 → Prop} {post : Int32 → T_Mo → Prop} {g : T_Mo} (hK : ∀ z_this x1, ((0 : Int32) ≤ z_this.1.1.1.2.1 ∧ z_this.1.1.1.2.1 ≤ 4000 ∧ P0 z_this ∧ Fr g z_this ∧ z_this.1.1.1.2.1 - z_this.1.1.2.1.1 ≤ 12 ∧ ((97 : Int32) ≤ x1 ∧ x1 ≤ 122)) → K z_this x1) (hp : ∀ r u, ((r = 0 ∨ r = 1) ∧ Lx2 u ∧ Fr g u ∧ (r = 1 → (u.1.1.1.2.2.2 = 999 → u.1.1.2.1.2 - u.1.1.2.1.1 ≤ 12) ∧ (u.1.1.1.2.2.2 = 2000 → VN u))) → post r u) : ∀ (n9 : Nat) (z_this : T_Mo) (x1 : Int32), (0 : Int32) ≤ z_this.1.1.1.2.1 → z_this.1.1.1.2.1 ≤ 4000 → P0 z_this → Fr g z_this → z_this.1.1.1.2.1 - z_this.1.1.2.1.1 ≤ 12 → ((97 : Int32) ≤ x1 ∧ x1 ≤ 122) → (4000 : Int32).toInt - (z_this.1.1.1.2.1).toInt < ((n9 : Nat) : Int) → wp_Mo_go_L124 K post n9 z_this x1 := by
  intro n9
  induction n9 with
  | zero => intro z_this x1 i0 i1 i2 i3 i4 i5 hm; exact (i_meas0 i1 hm).elim
  | succ n9 ih =>
    intro z_this x1 i0 i1 i2 i3 i4 i5 hm
    rw [wp_Mo_go_L124]
    refine s_Mo_at (by first | assumption | trivial | grind [I_Mo, I_Lx, P0, Fr, Pl, Lx2, VN, → vb_mul]) (by first | assumption | trivial | grind [I_Mo, I_Lx, P0, Fr, Pl, Lx2, VN, → vb_mul]) (fun r14 u14 hq0 => ?_)
    refine s_Mo_isLetter (fun r15 u15 hq1 => ?_)
    refine ⟨fun h2 => ?_, fun h3 => ?_⟩
    · refine s_Mo_at (by first | assumption | trivial | grind [I_Mo, I_Lx, P0, Fr, Pl, Lx2, VN, → vb_mul]) (by first | assumption | trivial | grind [I_Mo, I_Lx, P0, Fr, Pl, Lx2, VN, → vb_mul]) (fun r16 u16 hq4 => ?_)
      refine s_Mo_isDigit (fun r17 u17 hq5 => ?_)
      refine ⟨fun h6 => ?_, fun h7 => ?_⟩
      · exact hK _ _ (by first | assumption | trivial | grind [I_Mo, I_Lx, P0, Fr, Pl, Lx2, VN, → vb_mul])
      · refine ⟨fun h8 => ?_, fun h9 => ?_⟩
        · exact hK _ _ (by first | assumption | trivial | grind [I_Mo, I_Lx, P0, Fr, Pl, Lx2, VN, → vb_mul])
        · exact ih _ _ (by first | assumption | trivial | grind [I_Mo, I_Lx, P0, Fr, Pl, Lx2, VN, → vb_mul]) (by first | assumption | trivial | grind [I_Mo, I_Lx, P0, Fr, Pl, Lx2, VN, → vb_mul]) (by first | assumption | trivial | grind [I_Mo, I_Lx, P0, Fr, Pl, Lx2, VN, → vb_mul]) (by first | assumption | trivial | grind [I_Mo, I_Lx, P0, Fr, Pl, Lx2, VN, → vb_mul]) (by first | assumption | trivial | grind [I_Mo, I_Lx, P0, Fr, Pl, Lx2, VN, → vb_mul]) (by first | assumption | trivial | grind [I_Mo, I_Lx, P0, Fr, Pl, Lx2, VN, → vb_mul]) (i_meas (by first | assumption | trivial | grind [I_Mo, I_Lx, P0, Fr, Pl, Lx2, VN, → vb_mul]) (by first | assumption | trivial | grind [I_Mo, I_Lx, P0, Fr, Pl, Lx2, VN, → vb_mul]) hm)
    · refine ⟨fun h4 => ?_, fun h5 => ?_⟩
      · exact hK _ _ (by first | assumption | trivial | grind [I_Mo, I_Lx, P0, Fr, Pl, Lx2, VN, → vb_mul])
      · exact ih _ _ (by first | assumption | trivial | grind [I_Mo, I_Lx, P0, Fr, Pl, Lx2, VN, → vb_mul]) (by first | assumption | trivial | grind [I_Mo, I_Lx, P0, Fr, Pl, Lx2, VN, → vb_mul]) (by first | assumption | trivial | grind [I_Mo, I_Lx, P0, Fr, Pl, Lx2, VN, → vb_mul]) (by first | assumption | trivial | grind [I_Mo, I_Lx, P0, Fr, Pl, Lx2, VN, → vb_mul]) (by first | assumption | trivial | grind [I_Mo, I_Lx, P0, Fr, Pl, Lx2, VN, → vb_mul]) (by first | assumption | trivial | grind [I_Mo, I_Lx, P0, Fr, Pl, Lx2, VN, → vb_mul]) (i_meas (by first | assumption | trivial | grind [I_Mo, I_Lx, P0, Fr, Pl, Lx2, VN, → vb_mul]) (by first | assumption | trivial | grind [I_Mo, I_Lx, P0, Fr, Pl, Lx2, VN, → vb_mul]) hm)
set_option maxHeartbeats 4000000 in
theorem s_Mo_go {z_this : T_Mo} {post : Int32 → T_Mo → Prop} {g : T_Mo} (p0 : Pl z_this) (p1 : Fr g z_this) (hp : ∀ r u, ((r = 0 ∨ r = 1) ∧ Lx2 u ∧ Fr g u ∧ (r = 1 → (u.1.1.1.2.2.2 = 999 → u.1.1.2.1.2 - u.1.1.2.1.1 ≤ 12) ∧ (u.1.1.1.2.2.2 = 2000 → VN u))) → post r u) : wp_Mo_go z_this post := by
  unfold wp_Mo_go
  refine ⟨5000, l_Mo_go_L0 (g := g) (fun z_this hv0 => ?_) (fun r u hq => hp r u hq) 5000 _ (by first | assumption | trivial | grind [I_Mo, I_Lx, P0, Fr, Pl, Lx2, VN, → vb_mul]) (by first | assumption | trivial | grind [I_Mo, I_Lx, P0, Fr, Pl, Lx2, VN, → vb_mul]) (by first | assumption | trivial | grind [I_Mo, I_Lx, P0, Fr, Pl, Lx2, VN, → vb_mul]) (by first | assumption | trivial | grind [I_Mo, I_Lx, P0, Fr, Pl, Lx2, VN, → vb_mul]) (e4_ent (by first | assumption | trivial | grind [I_Mo, I_Lx, P0, Fr, Pl, Lx2, VN, → vb_mul]))⟩
  refine s_Mo_at (by first | assumption | trivial | grind [I_Mo, I_Lx, P0, Fr, Pl, Lx2, VN, → vb_mul]) (by first | assumption | trivial | grind [I_Mo, I_Lx, P0, Fr, Pl, Lx2, VN, → vb_mul]) (fun r5 u5 hq1 => ?_)
  refine ⟨fun h2 => ?_, fun h3 => ?_⟩
  · exact hp _ _ (by first | assumption | trivial | grind [I_Mo, I_Lx, P0, Fr, Pl, Lx2, VN, → vb_mul])
  · refine s_Mo_isLetter (fun r6 u6 hq4 => ?_)
    refine ⟨fun h5 => ?_, fun h6 => ?_⟩
    · refine s_Mo_isDigit (fun r7 u7 hq7 => ?_)
      refine ⟨fun h8 => ?_, fun h9 => ?_⟩
      · refine ⟨fun h10 => ?_, fun h11 => ?_⟩
        · exact s_Mo_go_J265 (g := g) (by first | assumption | trivial | grind [I_Mo, I_Lx, P0, Fr, Pl, Lx2, VN, → vb_mul]) (by first | assumption | trivial | grind [I_Mo, I_Lx, P0, Fr, Pl, Lx2, VN, → vb_mul]) (by first | assumption | trivial | grind [I_Mo, I_Lx, P0, Fr, Pl, Lx2, VN, → vb_mul]) (by first | assumption | trivial | grind [I_Mo, I_Lx, P0, Fr, Pl, Lx2, VN, → vb_mul]) (fun r u hq => hp r u hq)
        · refine ⟨fun h12 => ?_, fun h13 => ?_⟩
          · exact s_Mo_go_J265 (g := g) (by first | assumption | trivial | grind [I_Mo, I_Lx, P0, Fr, Pl, Lx2, VN, → vb_mul]) (by first | assumption | trivial | grind [I_Mo, I_Lx, P0, Fr, Pl, Lx2, VN, → vb_mul]) (by first | assumption | trivial | grind [I_Mo, I_Lx, P0, Fr, Pl, Lx2, VN, → vb_mul]) (by first | assumption | trivial | grind [I_Mo, I_Lx, P0, Fr, Pl, Lx2, VN, → vb_mul]) (fun r u hq => hp r u hq)
          · refine ⟨fun h14 => ?_, fun h15 => ?_⟩
            · exact s_Mo_go_J265 (g := g) (by first | assumption | trivial | grind [I_Mo, I_Lx, P0, Fr, Pl, Lx2, VN, → vb_mul]) (by first | assumption | trivial | grind [I_Mo, I_Lx, P0, Fr, Pl, Lx2, VN, → vb_mul]) (by first | assumption | trivial | grind [I_Mo, I_Lx, P0, Fr, Pl, Lx2, VN, → vb_mul]) (by first | assumption | trivial | grind [I_Mo, I_Lx, P0, Fr, Pl, Lx2, VN, → vb_mul]) (fun r u hq => hp r u hq)
            · refine ⟨fun h16 => ?_, fun h17 => ?_⟩
              · exact s_Mo_go_J265 (g := g) (by first | assumption | trivial | grind [I_Mo, I_Lx, P0, Fr, Pl, Lx2, VN, → vb_mul]) (by first | assumption | trivial | grind [I_Mo, I_Lx, P0, Fr, Pl, Lx2, VN, → vb_mul]) (by first | assumption | trivial | grind [I_Mo, I_Lx, P0, Fr, Pl, Lx2, VN, → vb_mul]) (by first | assumption | trivial | grind [I_Mo, I_Lx, P0, Fr, Pl, Lx2, VN, → vb_mul]) (fun r u hq => hp r u hq)
              · refine ⟨fun h18 => ?_, fun h19 => ?_⟩
                · exact s_Mo_go_J265 (g := g) (by first | assumption | trivial | grind [I_Mo, I_Lx, P0, Fr, Pl, Lx2, VN, → vb_mul]) (by first | assumption | trivial | grind [I_Mo, I_Lx, P0, Fr, Pl, Lx2, VN, → vb_mul]) (by first | assumption | trivial | grind [I_Mo, I_Lx, P0, Fr, Pl, Lx2, VN, → vb_mul]) (by first | assumption | trivial | grind [I_Mo, I_Lx, P0, Fr, Pl, Lx2, VN, → vb_mul]) (fun r u hq => hp r u hq)
                · refine ⟨fun h20 => ?_, fun h21 => ?_⟩
                  · exact s_Mo_go_J265 (g := g) (by first | assumption | trivial | grind [I_Mo, I_Lx, P0, Fr, Pl, Lx2, VN, → vb_mul]) (by first | assumption | trivial | grind [I_Mo, I_Lx, P0, Fr, Pl, Lx2, VN, → vb_mul]) (by first | assumption | trivial | grind [I_Mo, I_Lx, P0, Fr, Pl, Lx2, VN, → vb_mul]) (by first | assumption | trivial | grind [I_Mo, I_Lx, P0, Fr, Pl, Lx2, VN, → vb_mul]) (fun r u hq => hp r u hq)
                  · refine ⟨fun h22 => ?_, fun h23 => ?_⟩
                    · exact s_Mo_go_J265 (g := g) (by first | assumption | trivial | grind [I_Mo, I_Lx, P0, Fr, Pl, Lx2, VN, → vb_mul]) (by first | assumption | trivial | grind [I_Mo, I_Lx, P0, Fr, Pl, Lx2, VN, → vb_mul]) (by first | assumption | trivial | grind [I_Mo, I_Lx, P0, Fr, Pl, Lx2, VN, → vb_mul]) (by first | assumption | trivial | grind [I_Mo, I_Lx, P0, Fr, Pl, Lx2, VN, → vb_mul]) (fun r u hq => hp r u hq)
                    · refine ⟨fun h24 => ?_, fun h25 => ?_⟩
                      · exact s_Mo_go_J265 (g := g) (by first | assumption | trivial | grind [I_Mo, I_Lx, P0, Fr, Pl, Lx2, VN, → vb_mul]) (by first | assumption | trivial | grind [I_Mo, I_Lx, P0, Fr, Pl, Lx2, VN, → vb_mul]) (by first | assumption | trivial | grind [I_Mo, I_Lx, P0, Fr, Pl, Lx2, VN, → vb_mul]) (by first | assumption | trivial | grind [I_Mo, I_Lx, P0, Fr, Pl, Lx2, VN, → vb_mul]) (fun r u hq => hp r u hq)
                      · refine ⟨fun h26 => ?_, fun h27 => ?_⟩
                        · exact s_Mo_go_J265 (g := g) (by first | assumption | trivial | grind [I_Mo, I_Lx, P0, Fr, Pl, Lx2, VN, → vb_mul]) (by first | assumption | trivial | grind [I_Mo, I_Lx, P0, Fr, Pl, Lx2, VN, → vb_mul]) (by first | assumption | trivial | grind [I_Mo, I_Lx, P0, Fr, Pl, Lx2, VN, → vb_mul]) (by first | assumption | trivial | grind [I_Mo, I_Lx, P0, Fr, Pl, Lx2, VN, → vb_mul]) (fun r u hq => hp r u hq)
                        · refine ⟨fun h28 => ?_, fun h29 => ?_⟩
                          · exact s_Mo_go_J265 (g := g) (by first | assumption | trivial | grind [I_Mo, I_Lx, P0, Fr, Pl, Lx2, VN, → vb_mul]) (by first | assumption | trivial | grind [I_Mo, I_Lx, P0, Fr, Pl, Lx2, VN, → vb_mul]) (by first | assumption | trivial | grind [I_Mo, I_Lx, P0, Fr, Pl, Lx2, VN, → vb_mul]) (by first | assumption | trivial | grind [I_Mo, I_Lx, P0, Fr, Pl, Lx2, VN, → vb_mul]) (fun r u hq => hp r u hq)
                          · refine ⟨fun h30 => ?_, fun h31 => ?_⟩
                            · exact s_Mo_go_J265 (g := g) (by first | assumption | trivial | grind [I_Mo, I_Lx, P0, Fr, Pl, Lx2, VN, → vb_mul]) (by first | assumption | trivial | grind [I_Mo, I_Lx, P0, Fr, Pl, Lx2, VN, → vb_mul]) (by first | assumption | trivial | grind [I_Mo, I_Lx, P0, Fr, Pl, Lx2, VN, → vb_mul]) (by first | assumption | trivial | grind [I_Mo, I_Lx, P0, Fr, Pl, Lx2, VN, → vb_mul]) (fun r u hq => hp r u hq)
                            · refine ⟨fun h32 => ?_, fun h33 => ?_⟩
                              · exact s_Mo_go_J265 (g := g) (by first | assumption | trivial | grind [I_Mo, I_Lx, P0, Fr, Pl, Lx2, VN, → vb_mul]) (by first | assumption | trivial | grind [I_Mo, I_Lx, P0, Fr, Pl, Lx2, VN, → vb_mul]) (by first | assumption | trivial | grind [I_Mo, I_Lx, P0, Fr, Pl, Lx2, VN, → vb_mul]) (by first | assumption | trivial | grind [I_Mo, I_Lx, P0, Fr, Pl, Lx2, VN, → vb_mul]) (fun r u hq => hp r u hq)
                              · exact s_Mo_go_J270 (g := g) (by first | assumption | trivial | grind [I_Mo, I_Lx, P0, Fr, Pl, Lx2, VN, → vb_mul]) (by first | assumption | trivial | grind [I_Mo, I_Lx, P0, Fr, Pl, Lx2, VN, → vb_mul]) (by first | assumption | trivial | grind [I_Mo, I_Lx, P0, Fr, Pl, Lx2, VN, → vb_mul]) (by first | assumption | trivial | grind [I_Mo, I_Lx, P0, Fr, Pl, Lx2, VN, → vb_mul]) (by first | assumption | trivial | grind [I_Mo, I_Lx, P0, Fr, Pl, Lx2, VN, → vb_mul]) (fun r u hq => hp r u hq)
      · refine s_Mo_digits (g := g) (by first | assumption | trivial | grind [I_Mo, I_Lx, P0, Fr, Pl, Lx2, VN, → vb_mul]) (by first | assumption | trivial | grind [I_Mo, I_Lx, P0, Fr, Pl, Lx2, VN, → vb_mul]) (by first | assumption | trivial | grind [I_Mo, I_Lx, P0, Fr, Pl, Lx2, VN, → vb_mul]) (fun r8 u8 hq10 => ?_)
        exact s_Mo_go_J315 (g := g) (by first | assumption | trivial | grind [I_Mo, I_Lx, P0, Fr, Pl, Lx2, VN, → vb_mul]) (by first | assumption | trivial | grind [I_Mo, I_Lx, P0, Fr, Pl, Lx2, VN, → vb_mul]) (by first | assumption | trivial | grind [I_Mo, I_Lx, P0, Fr, Pl, Lx2, VN, → vb_mul]) (by first | assumption | trivial | grind [I_Mo, I_Lx, P0, Fr, Pl, Lx2, VN, → vb_mul]) (fun r u hq => hp r u hq)
    · refine ⟨5000, l_Mo_go_L124 (g := g) (fun z_this x1 hv7 => ?_) (fun r u hq => hp r u hq) 5000 _ _ (by first | assumption | trivial | grind [I_Mo, I_Lx, P0, Fr, Pl, Lx2, VN, → vb_mul]) (by first | assumption | trivial | grind [I_Mo, I_Lx, P0, Fr, Pl, Lx2, VN, → vb_mul]) (by first | assumption | trivial | grind [I_Mo, I_Lx, P0, Fr, Pl, Lx2, VN, → vb_mul]) (by first | assumption | trivial | grind [I_Mo, I_Lx, P0, Fr, Pl, Lx2, VN, → vb_mul]) (by first | assumption | trivial | grind [I_Mo, I_Lx, P0, Fr, Pl, Lx2, VN, → vb_mul]) (by first | assumption | trivial | grind [I_Mo, I_Lx, P0, Fr, Pl, Lx2, VN, → vb_mul]) (e4_ent (by first | assumption | trivial | grind [I_Mo, I_Lx, P0, Fr, Pl, Lx2, VN, → vb_mul]))⟩
      exact s_Mo_go_J315 (g := g) (by first | assumption | trivial | grind [I_Mo, I_Lx, P0, Fr, Pl, Lx2, VN, → vb_mul]) (by first | assumption | trivial | grind [I_Mo, I_Lx, P0, Fr, Pl, Lx2, VN, → vb_mul]) (by first | assumption | trivial | grind [I_Mo, I_Lx, P0, Fr, Pl, Lx2, VN, → vb_mul]) (by first | assumption | trivial | grind [I_Mo, I_Lx, P0, Fr, Pl, Lx2, VN, → vb_mul]) (fun r u hq => hp r u hq)
set_option maxHeartbeats 4000000 in
theorem s_Mo_bad {z_this : T_Mo} {post : Int32 → T_Mo → Prop} {g : T_Mo} (p0 : Lx2 z_this) (p1 : Fr g z_this) (hp : ∀ r u, (r = -1 ∧ Lx2 u ∧ Fr g u) → post r u) : wp_Mo_bad z_this post := by
  unfold wp_Mo_bad
  exact hp _ _ (by first | assumption | trivial | grind [I_Mo, I_Lx, P0, Fr, Pl, Lx2, VN, → vb_mul])
set_option maxHeartbeats 4000000 in
theorem s_Mo_over {z_this : T_Mo} {a1 : Int32} {post : Int32 → T_Mo → Prop} {g : T_Mo} (p0 : Lx2 z_this) (p1 : Fr g z_this) (hp : ∀ r u, ((r = 0 ∨ r = 1) ∧ Lx2 u ∧ Fr g u ∧ (r = 1 → (u.1.1.1.2.2.2 = 999 → u.1.1.2.1.2 - u.1.1.2.1.1 ≤ 12) ∧ (u.1.1.1.2.2.2 = 2000 → VN u))) → post r u) : wp_Mo_over z_this a1 post := by
  unfold wp_Mo_over
  refine ⟨fun h0 => ?_, fun h1 => ?_⟩
  · refine s_Mo_go (g := g) (by first | assumption | trivial | grind [I_Mo, I_Lx, P0, Fr, Pl, Lx2, VN, → vb_mul]) (by first | assumption | trivial | grind [I_Mo, I_Lx, P0, Fr, Pl, Lx2, VN, → vb_mul]) (fun r1 u1 hq2 => ?_)
    refine ⟨(nar01 (by first | assumption | trivial | grind [I_Mo, I_Lx, P0, Fr, Pl, Lx2, VN, → vb_mul])), ?_⟩
    exact hp _ _ (by first | assumption | trivial | grind [I_Mo, I_Lx, P0, Fr, Pl, Lx2, VN, → vb_mul])
  · exact hp _ _ (by first | assumption | trivial | grind [I_Mo, I_Lx, P0, Fr, Pl, Lx2, VN, → vb_mul])
set_option maxHeartbeats 4000000 in
theorem s_Mo_isWord {z_this : T_Mo} {a1 : Int32} {post : Int32 → Unit → Prop} (hp : ∀ r u, (r = 0 ∨ (r = 1 ∧ z_this.1.1.1.2.2.2 = 1000 + a1)) → post r u) : wp_Mo_isWord z_this a1 post := by
  unfold wp_Mo_isWord
  refine ⟨fun h0 => ?_, fun h1 => ?_⟩
  · exact hp _ _ (by first | assumption | trivial | grind [I_Mo, I_Lx, P0, Fr, Pl, Lx2, VN, → vb_mul])
  · exact hp _ _ (by first | assumption | trivial | grind [I_Mo, I_Lx, P0, Fr, Pl, Lx2, VN, → vb_mul])
set_option maxHeartbeats 4000000 in
theorem s_Mo_unitWord0_J27 {z_this : T_Mo} {post : Int32 → Unit → Prop} {x1 : Int32} {y0 : Int32} (p0 : ((0 : Int32) ≤ y0 ∧ y0 ≤ 5)) (hp : ∀ r u, ((0 : Int32) ≤ r ∧ r ≤ 5) → post r u) : wp_Mo_unitWord0_J27 z_this post x1 y0 := by
  unfold wp_Mo_unitWord0_J27
  exact hp _ _ (by first | assumption | trivial | grind [I_Mo, I_Lx, P0, Fr, Pl, Lx2, VN, → vb_mul])
set_option maxHeartbeats 4000000 in
theorem s_Mo_unitWord0_J26 {z_this : T_Mo} {post : Int32 → Unit → Prop} {x1 : Int32} (hp : ∀ r u, ((0 : Int32) ≤ r ∧ r ≤ 5) → post r u) : wp_Mo_unitWord0_J26 z_this post x1 := by
  unfold wp_Mo_unitWord0_J26
  exact s_Mo_unitWord0_J27 (by first | assumption | trivial | grind [I_Mo, I_Lx, P0, Fr, Pl, Lx2, VN, → vb_mul]) (fun r u hq => hp r u hq)
set_option maxHeartbeats 4000000 in
theorem s_Mo_unitWord0 {z_this : T_Mo} {post : Int32 → Unit → Prop} (hp : ∀ r u, ((0 : Int32) ≤ r ∧ r ≤ 5) → post r u) : wp_Mo_unitWord0 z_this post := by
  unfold wp_Mo_unitWord0
  refine ⟨fun h0 => ?_, fun h1 => ?_⟩
  · exact s_Mo_unitWord0_J26 (fun r u hq => hp r u hq)
  · refine ⟨fun h2 => ?_, fun h3 => ?_⟩
    · exact s_Mo_unitWord0_J26 (fun r u hq => hp r u hq)
    · exact s_Mo_unitWord0_J27 (by first | assumption | trivial | grind [I_Mo, I_Lx, P0, Fr, Pl, Lx2, VN, → vb_mul]) (fun r u hq => hp r u hq)
set_option maxHeartbeats 4000000 in
theorem s_Mo_base {z_this : T_Mo} {post : Int32 → Unit → Prop} (p0 : (z_this.1.2.1.2.1 = 0 ∨ z_this.1.2.1.2.1 = 1)) (hp : ∀ r u, ((z_this.1.2.1.2.1 = 0 ∧ r = 1000) ∨ (z_this.1.2.1.2.1 = 1 ∧ r = 0)) → post r u) : wp_Mo_base z_this post := by
  unfold wp_Mo_base
  exact hp _ _ (by first | assumption | trivial | grind [I_Mo, I_Lx, P0, Fr, Pl, Lx2, VN, → vb_mul])
set_option maxHeartbeats 4000000 in
theorem s_Mo_unitIn {z_this : T_Mo} {a1 : Int32} {post : Int32 → Unit → Prop} (p0 : (z_this.1.2.1.2.1 = 0 ∨ z_this.1.2.1.2.1 = 1)) (p1 : (0 : Int32) ≤ a1) (p2 : a1 < 1000) (hp : ∀ r u, True → post r u) : wp_Mo_unitIn z_this a1 post := by
  unfold wp_Mo_unitIn
  refine s_Mo_base (by first | assumption | trivial | grind [I_Mo, I_Lx, P0, Fr, Pl, Lx2, VN, → vb_mul]) (fun r1 u1 hq0 => ?_)
  refine ⟨(vin (c := 2000) (by first | assumption | trivial | grind [I_Mo, I_Lx, P0, Fr, Pl, Lx2, VN, → vb_mul]) (by first | assumption | trivial | grind [I_Mo, I_Lx, P0, Fr, Pl, Lx2, VN, → vb_mul]) rfl), ?_⟩
  exact hp _ _ (by first | assumption | trivial | grind [I_Mo, I_Lx, P0, Fr, Pl, Lx2, VN, → vb_mul])
set_option maxHeartbeats 4000000 in
theorem s_Mo_isNode {z_this : T_Mo} {a1 : Int32} {post : Int32 → Unit → Prop} (p0 : I_Mo z_this) (hp : ∀ r u, (r = 0 ∨ (r = 1 ∧ (0 : Int32) ≤ a1 ∧ a1 < z_this.2.1.2.2.2.2)) → post r u) : wp_Mo_isNode z_this a1 post := by
  unfold wp_Mo_isNode
  refine ⟨fun h0 => ?_, fun h1 => ?_⟩
  · exact hp _ _ (by first | assumption | trivial | grind [I_Mo, I_Lx, P0, Fr, Pl, Lx2, VN, → vb_mul])
  · refine ⟨fun h2 => ?_, fun h3 => ?_⟩
    · exact hp _ _ (by first | assumption | trivial | grind [I_Mo, I_Lx, P0, Fr, Pl, Lx2, VN, → vb_mul])
    · exact hp _ _ (by first | assumption | trivial | grind [I_Mo, I_Lx, P0, Fr, Pl, Lx2, VN, → vb_mul])
set_option maxHeartbeats 4000000 in
theorem s_Mo_node1 {z_this : T_Mo} {a1 : Int32} {post : Int32 → Unit → Prop} (p0 : I_Mo z_this) (hp : ∀ r u, ((z_this.1.2.1.2.1 = 0 ∧ r = a1) ∨ (z_this.1.2.1.2.1 = 1 ∧ r = 1000 + a1)) → post r u) : wp_Mo_node1 z_this a1 post := by
  unfold wp_Mo_node1
  exact hp _ _ (by first | assumption | trivial | grind [I_Mo, I_Lx, P0, Fr, Pl, Lx2, VN, → vb_mul])
set_option maxHeartbeats 4000000 in
theorem s_Mo_what {z_this : T_Mo} {a1 : Int32} {post : Int32 → Unit → Prop} (p0 : I_Mo z_this) (hp : ∀ r u, True → post r u) : wp_Mo_what z_this a1 post := by
  unfold wp_Mo_what
  refine s_Mo_isNode (by first | assumption | trivial | grind [I_Mo, I_Lx, P0, Fr, Pl, Lx2, VN, → vb_mul]) (fun r1 u1 hq0 => ?_)
  refine ⟨fun h1 => ?_, fun h2 => ?_⟩
  · exact hp _ _ (by first | assumption | trivial | grind [I_Mo, I_Lx, P0, Fr, Pl, Lx2, VN, → vb_mul])
  · refine s_Mo_node1 (by first | assumption | trivial | grind [I_Mo, I_Lx, P0, Fr, Pl, Lx2, VN, → vb_mul]) (fun r2 u2 hq3 => ?_)
    refine ⟨(vin (c := 2000) (by first | assumption | trivial | grind [I_Mo, I_Lx, P0, Fr, Pl, Lx2, VN, → vb_mul]) (by first | assumption | trivial | grind [I_Mo, I_Lx, P0, Fr, Pl, Lx2, VN, → vb_mul]) rfl), ?_⟩
    exact hp _ _ (by first | assumption | trivial | grind [I_Mo, I_Lx, P0, Fr, Pl, Lx2, VN, → vb_mul])
set_option maxHeartbeats 4000000 in
theorem s_Mo_line {z_this : T_Mo} {a1 : Int32} {post : Int32 → Unit → Prop} (p0 : I_Mo z_this) (hp : ∀ r u, True → post r u) : wp_Mo_line z_this a1 post := by
  unfold wp_Mo_line
  refine s_Mo_isNode (by first | assumption | trivial | grind [I_Mo, I_Lx, P0, Fr, Pl, Lx2, VN, → vb_mul]) (fun r1 u1 hq0 => ?_)
  refine ⟨fun h1 => ?_, fun h2 => ?_⟩
  · exact hp _ _ (by first | assumption | trivial | grind [I_Mo, I_Lx, P0, Fr, Pl, Lx2, VN, → vb_mul])
  · refine s_Mo_node1 (by first | assumption | trivial | grind [I_Mo, I_Lx, P0, Fr, Pl, Lx2, VN, → vb_mul]) (fun r2 u2 hq3 => ?_)
    refine ⟨(vin (c := 2000) (by first | assumption | trivial | grind [I_Mo, I_Lx, P0, Fr, Pl, Lx2, VN, → vb_mul]) (by first | assumption | trivial | grind [I_Mo, I_Lx, P0, Fr, Pl, Lx2, VN, → vb_mul]) rfl), ?_⟩
    exact hp _ _ (by first | assumption | trivial | grind [I_Mo, I_Lx, P0, Fr, Pl, Lx2, VN, → vb_mul])
set_option maxHeartbeats 4000000 in
theorem s_Mo_number {z_this : T_Mo} {a1 : Int32} {a2 : Int32} {post : Int64 → Unit → Prop} (p0 : I_Mo z_this) (hp : ∀ r u, True → post r u) : wp_Mo_number z_this a1 a2 post := by
  unfold wp_Mo_number
  refine s_Mo_isNode (by first | assumption | trivial | grind [I_Mo, I_Lx, P0, Fr, Pl, Lx2, VN, → vb_mul]) (fun r1 u1 hq0 => ?_)
  refine ⟨fun h1 => ?_, fun h2 => ?_⟩
  · exact hp _ _ (by first | assumption | trivial | grind [I_Mo, I_Lx, P0, Fr, Pl, Lx2, VN, → vb_mul])
  · refine ⟨fun h3 => ?_, fun h4 => ?_⟩
    · exact hp _ _ (by first | assumption | trivial | grind [I_Mo, I_Lx, P0, Fr, Pl, Lx2, VN, → vb_mul])
    · refine ⟨fun h5 => ?_, fun h6 => ?_⟩
      · refine ⟨fun h7 => ?_, fun h8 => ?_⟩
        · refine s_Mo_node1 (by first | assumption | trivial | grind [I_Mo, I_Lx, P0, Fr, Pl, Lx2, VN, → vb_mul]) (fun r3 u3 hq9 => ?_)
          refine ⟨(vin (c := 2000) (by first | assumption | trivial | grind [I_Mo, I_Lx, P0, Fr, Pl, Lx2, VN, → vb_mul]) (by first | assumption | trivial | grind [I_Mo, I_Lx, P0, Fr, Pl, Lx2, VN, → vb_mul]) rfl), ?_⟩
          exact hp _ _ (by first | assumption | trivial | grind [I_Mo, I_Lx, P0, Fr, Pl, Lx2, VN, → vb_mul])
        · refine s_Mo_node1 (by first | assumption | trivial | grind [I_Mo, I_Lx, P0, Fr, Pl, Lx2, VN, → vb_mul]) (fun r2 u2 hq9 => ?_)
          refine ⟨(vin (c := 2000) (by first | assumption | trivial | grind [I_Mo, I_Lx, P0, Fr, Pl, Lx2, VN, → vb_mul]) (by first | assumption | trivial | grind [I_Mo, I_Lx, P0, Fr, Pl, Lx2, VN, → vb_mul]) rfl), ?_⟩
          exact hp _ _ (by first | assumption | trivial | grind [I_Mo, I_Lx, P0, Fr, Pl, Lx2, VN, → vb_mul])
      · exact hp _ _ (by first | assumption | trivial | grind [I_Mo, I_Lx, P0, Fr, Pl, Lx2, VN, → vb_mul])
set_option maxHeartbeats 4000000 in
theorem s_Mo_unitOf {z_this : T_Mo} {a1 : Int32} {post : Int32 → Unit → Prop} (p0 : I_Mo z_this) (hp : ∀ r u, True → post r u) : wp_Mo_unitOf z_this a1 post := by
  unfold wp_Mo_unitOf
  refine s_Mo_isNode (by first | assumption | trivial | grind [I_Mo, I_Lx, P0, Fr, Pl, Lx2, VN, → vb_mul]) (fun r1 u1 hq0 => ?_)
  refine ⟨fun h1 => ?_, fun h2 => ?_⟩
  · exact hp _ _ (by first | assumption | trivial | grind [I_Mo, I_Lx, P0, Fr, Pl, Lx2, VN, → vb_mul])
  · refine s_Mo_node1 (by first | assumption | trivial | grind [I_Mo, I_Lx, P0, Fr, Pl, Lx2, VN, → vb_mul]) (fun r2 u2 hq3 => ?_)
    refine ⟨(vin (c := 2000) (by first | assumption | trivial | grind [I_Mo, I_Lx, P0, Fr, Pl, Lx2, VN, → vb_mul]) (by first | assumption | trivial | grind [I_Mo, I_Lx, P0, Fr, Pl, Lx2, VN, → vb_mul]) rfl), ?_⟩
    refine ⟨fun h4 => ?_, fun h5 => ?_⟩
    · exact hp _ _ (by first | assumption | trivial | grind [I_Mo, I_Lx, P0, Fr, Pl, Lx2, VN, → vb_mul])
    · refine s_Mo_node1 (by first | assumption | trivial | grind [I_Mo, I_Lx, P0, Fr, Pl, Lx2, VN, → vb_mul]) (fun r3 u3 hq6 => ?_)
      refine ⟨(vin (c := 2000) (by first | assumption | trivial | grind [I_Mo, I_Lx, P0, Fr, Pl, Lx2, VN, → vb_mul]) (by first | assumption | trivial | grind [I_Mo, I_Lx, P0, Fr, Pl, Lx2, VN, → vb_mul]) rfl), ?_⟩
      exact hp _ _ (by first | assumption | trivial | grind [I_Mo, I_Lx, P0, Fr, Pl, Lx2, VN, → vb_mul])
set_option maxHeartbeats 4000000 in
theorem s_Mo_bar {z_this : T_Mo} {a1 : Int32} {post : Int32 → T_Mo → Prop} (p0 : I_Mo z_this) (hp : ∀ r u, ((r = 0 ∨ r = 1) ∧ I_Mo u) → post r u) : wp_Mo_bar z_this a1 post := by
  unfold wp_Mo_bar
  refine ⟨fun h0 => ?_, fun h1 => ?_⟩
  · exact hp _ _ (by first | assumption | trivial | grind [I_Mo, I_Lx, P0, Fr, Pl, Lx2, VN, → vb_mul])
  · refine ⟨fun h2 => ?_, fun h3 => ?_⟩
    · exact hp _ _ (by first | assumption | trivial | grind [I_Mo, I_Lx, P0, Fr, Pl, Lx2, VN, → vb_mul])
    · refine ⟨(vin (c := 64) (by first | assumption | trivial | grind [I_Mo, I_Lx, P0, Fr, Pl, Lx2, VN, → vb_mul]) (by first | assumption | trivial | grind [I_Mo, I_Lx, P0, Fr, Pl, Lx2, VN, → vb_mul]) rfl), ?_⟩
      refine ⟨fun h4 => ?_, fun h5 => ?_⟩
      · refine ⟨(vin (c := 64) (by first | assumption | trivial | grind [I_Mo, I_Lx, P0, Fr, Pl, Lx2, VN, → vb_mul]) (by first | assumption | trivial | grind [I_Mo, I_Lx, P0, Fr, Pl, Lx2, VN, → vb_mul]) rfl), ?_⟩
        exact hp _ _ (by first | assumption | trivial | grind [I_Mo, I_Lx, P0, Fr, Pl, Lx2, VN, → vb_mul])
      · exact hp _ _ (by first | assumption | trivial | grind [I_Mo, I_Lx, P0, Fr, Pl, Lx2, VN, → vb_mul])
set_option maxHeartbeats 4000000 in
theorem l_Mo_clear_L22 {K : T_Mo → Int32 → Prop} {post : Unit → T_Mo → Prop} (hK : ∀ z_this x1, ((0 : Int32) ≤ x1 ∧ x1 ≤ 64 ∧ I_Mo z_this) → K z_this x1) (hp : ∀ r u, I_Mo u → post r u) : ∀ (n9 : Nat) (z_this : T_Mo) (x1 : Int32), (0 : Int32) ≤ x1 → x1 ≤ 64 → I_Mo z_this → (64 : Int32).toInt - (x1).toInt < ((n9 : Nat) : Int) → wp_Mo_clear_L22 K post n9 z_this x1 := by
  intro n9
  induction n9 with
  | zero => intro z_this x1 i0 i1 i2 hm; exact (i_meas0 i1 hm).elim
  | succ n9 ih =>
    intro z_this x1 i0 i1 i2 hm
    rw [wp_Mo_clear_L22]
    refine ⟨fun h0 => ?_, fun h1 => ?_⟩
    · exact hK _ _ (by first | assumption | trivial | grind [I_Mo, I_Lx, P0, Fr, Pl, Lx2, VN, → vb_mul])
    · refine ⟨(vin (c := 64) (by first | assumption | trivial | grind [I_Mo, I_Lx, P0, Fr, Pl, Lx2, VN, → vb_mul]) (by first | assumption | trivial | grind [I_Mo, I_Lx, P0, Fr, Pl, Lx2, VN, → vb_mul]) rfl), ?_⟩
      exact ih _ _ (by first | assumption | trivial | grind [I_Mo, I_Lx, P0, Fr, Pl, Lx2, VN, → vb_mul]) (by first | assumption | trivial | grind [I_Mo, I_Lx, P0, Fr, Pl, Lx2, VN, → vb_mul]) (by first | assumption | trivial | grind [I_Mo, I_Lx, P0, Fr, Pl, Lx2, VN, → vb_mul]) (i_meas (by first | assumption | trivial | grind [I_Mo, I_Lx, P0, Fr, Pl, Lx2, VN, → vb_mul]) (by first | assumption | trivial | grind [I_Mo, I_Lx, P0, Fr, Pl, Lx2, VN, → vb_mul]) hm)
set_option maxHeartbeats 4000000 in
theorem s_Mo_clear {z_this : T_Mo} {post : Unit → T_Mo → Prop} (p0 : I_Mo z_this) (hp : ∀ r u, I_Mo u → post r u) : wp_Mo_clear z_this post := by
  unfold wp_Mo_clear
  refine ⟨5000, l_Mo_clear_L22 (fun z_this x1 hv0 => ?_) (fun r u hq => hp r u hq) 5000 _ _ (by first | assumption | trivial | grind [I_Mo, I_Lx, P0, Fr, Pl, Lx2, VN, → vb_mul]) (by first | assumption | trivial | grind [I_Mo, I_Lx, P0, Fr, Pl, Lx2, VN, → vb_mul]) (by first | assumption | trivial | grind [I_Mo, I_Lx, P0, Fr, Pl, Lx2, VN, → vb_mul]) (by decide)⟩
  exact hp _ _ (by first | assumption | trivial | grind [I_Mo, I_Lx, P0, Fr, Pl, Lx2, VN, → vb_mul])
