theorem nar01 {r : Int32} (h : r = 0 ∨ r = 1) : narrow .boolean (.int r) = .int r := by rcases h with h | h <;> rw [h] <;> rfl
theorem fit01 {r : Int32} (h : r = 0 ∨ r = 1) : fits .boolean (.int r) = true := by rcases h with h | h <;> rw [h] <;> rfl
theorem i_meas0 {x c : Int32} (h : x ≤ c) (hm : c.toInt - x.toInt < ((0 : Nat) : Int)) : False := by
  rw [Int32.le_iff_toInt_le] at h; omega
theorem i_meas {x c : Int32} {n : Nat} (h0 : (0 : Int32) ≤ x) (h1 : x < c) (hm : c.toInt - x.toInt < ((n + 1 : Nat) : Int)) : c.toInt - (x + (1 : Int32)).toInt < ((n : Nat) : Int) := by
  rw [Int32.le_iff_toInt_le] at h0; rw [Int32.lt_iff_toInt_lt] at h1
  have e : (0 : Int32).toInt = 0 := rfl
  have hc := Int32.toInt_lt c
  have e2 : (x + (1 : Int32)).toInt = x.toInt + 1 := i_add1 (by omega) (by omega)
  omega
theorem d_meas0 {x : Int32} (h : (-1 : Int32) ≤ x) (hm : x.toInt + 1 < ((0 : Nat) : Int)) : False := by
  rw [Int32.le_iff_toInt_le] at h
  have e : (-1 : Int32).toInt = -1 := rfl
  omega
theorem d_meas {x : Int32} {n : Nat} (h : (0 : Int32) ≤ x) (hm : x.toInt + 1 < ((n + 1 : Nat) : Int)) : (x + (-1 : Int32)).toInt + 1 < ((n : Nat) : Int) := by
  rw [Int32.le_iff_toInt_le] at h
  have e : (0 : Int32).toInt = 0 := rfl
  have hc := Int32.toInt_lt x
  have e2 : (x + (-1 : Int32)).toInt = x.toInt + -1 := by
    rw [Int32.toInt_add, show (-1 : Int32).toInt = -1 from rfl]; exact Int.bmod_eq_of_le (by omega) (by omega)
  omega
theorem d_ent {x : Int32} (h : x ≤ 1070) : x.toInt + 1 < ((2000 : Nat) : Int) := by
  rw [Int32.le_iff_toInt_le] at h
  have e : (1070 : Int32).toInt = 1070 := rfl
  omega
theorem v_meas0 {x : Int32} (h : (0 : Int32) ≤ x) (hm : x.toInt < ((0 : Nat) : Int)) : False := by
  rw [Int32.le_iff_toInt_le] at h
  have e : (0 : Int32).toInt = 0 := rfl
  omega
theorem v_nn {x : Int32} (h : (0 : Int32) ≤ x) : (0 : Int32) ≤ x / (10 : Int32) := by
  rw [Int32.le_iff_toInt_le] at h ⊢
  have e : (0 : Int32).toInt = 0 := rfl
  have e1 : (10 : Int32).toInt = 10 := rfl
  rw [lg_idiv_nonneg (by omega) (by omega), e1]; omega
theorem v_meas {x : Int32} {n : Nat} (h : (0 : Int32) < x) (hm : x.toInt < ((n + 1 : Nat) : Int)) : (x / (10 : Int32)).toInt < ((n : Nat) : Int) := by
  rw [Int32.lt_iff_toInt_lt] at h
  have e : (0 : Int32).toInt = 0 := rfl
  have e1 : (10 : Int32).toInt = 10 := rfl
  rw [lg_idiv_nonneg (by omega) (by omega), e1]; omega
theorem w_meas0 {x : Int64} (h : (0 : Int64) ≤ x) (hm : x.toInt < ((0 : Nat) : Int)) : False := by
  rw [Int64.le_iff_toInt_le] at h
  have e : (0 : Int64).toInt = 0 := rfl
  omega
theorem w_nn {x : Int64} (h : (0 : Int64) ≤ x) : (0 : Int64) ≤ x / (37 : Int64) := by
  rw [Int64.le_iff_toInt_le] at h ⊢
  have e : (0 : Int64).toInt = 0 := rfl
  have e1 : (37 : Int64).toInt = 37 := rfl
  rw [lg_ldiv_nonneg (by omega) (by omega), e1]; omega
theorem w_meas {x : Int64} {n : Nat} (h : (0 : Int64) < x) (hm : x.toInt < ((n + 1 : Nat) : Int)) : (x / (37 : Int64)).toInt < ((n : Nat) : Int) := by
  rw [Int64.lt_iff_toInt_lt] at h
  have e : (0 : Int64).toInt = 0 := rfl
  have e1 : (37 : Int64).toInt = 37 := rfl
  rw [lg_ldiv_nonneg (by omega) (by omega), e1]; omega
theorem w_ent (x : Int64) : x.toInt < ((9223372036854775808 : Nat) : Int) := by have := Int64.toInt_lt x; omega
theorem cmp0 {x : Int64} (h : ¬ lg_cmp x (0 : Int64) ≤ 0) : (0 : Int64) < x := by rw [lg_cmp_le] at h; exact Int64.not_le.mp h
theorem cmp1 {x y : Int64} (h : (0 : Int32) ≤ lg_cmp x y) : y ≤ x := (lg_cmp_ge x y).mp h
theorem d_nn {x : Int32} (h : ¬ x < 0) : (-1 : Int32) ≤ x + (-1 : Int32) := by
  rw [Int32.lt_iff_toInt_lt] at h; rw [Int32.le_iff_toInt_le]
  have e : (0 : Int32).toInt = 0 := rfl
  have e1 : (-1 : Int32).toInt = -1 := rfl
  have hc := Int32.toInt_lt x
  rw [Int32.toInt_add, e1, Int.bmod_eq_of_le (by omega) (by omega)]; omega
/-- powers of 37 below the greatest long -/
def pw37 (p : Int64) (i : Int32) : Prop := ∃ n : Nat, i.toInt = n + 1 ∧ p.toInt = 37 ^ n ∧ n ≤ 11
theorem pw_1 : pw37 (1 : Int64) (1 : Int32) := ⟨0, rfl, rfl, by decide⟩
theorem pw_pos {p : Int64} {i : Int32} (h : pw37 p i) : (0 : Int64) < p := by
  obtain ⟨n, h1, h2, h3⟩ := h
  rw [Int64.lt_iff_toInt_lt, h2]
  exact Int.pow_pos (by decide)
theorem pw_ne {p : Int64} {i : Int32} (h : pw37 p i) : ¬ p = 0 := fun e => absurd (pw_pos h) (by rw [e]; decide)
theorem pw_step {p : Int64} {i : Int32} (h : pw37 p i) (hi : i < (12 : Int32)) : pw37 (p * (37 : Int64)) (i + (1 : Int32)) := by
  obtain ⟨n, h1, h2, h3⟩ := h
  rw [Int32.lt_iff_toInt_lt] at hi
  have e : (12 : Int32).toInt = 12 := rfl
  have hn : n ≤ 10 := by omega
  have hb : (37 : Int) ^ n ≤ 37 ^ 10 := match n, hn with | 0, _ => by decide | 1, _ => by decide | 2, _ => by decide | 3, _ => by decide | 4, _ => by decide | 5, _ => by decide | 6, _ => by decide | 7, _ => by decide | 8, _ => by decide | 9, _ => by decide | 10, _ => by decide
  have hb0 : (0 : Int) < 37 ^ n := Int.pow_pos (by decide)
  refine ⟨n + 1, by rw [i_add1 (by omega) (by omega)]; omega, ?_, by omega⟩
  rw [Int64.toInt_mul, h2, show (37 : Int64).toInt = 37 from rfl, Int.pow_succ]
  exact Int.bmod_eq_of_le (by omega) (by omega)
theorem o_ent {x : Int32} (h : (0 : Int32) ≤ x) : (10 : Int32).toInt - x.toInt < ((5000 : Nat) : Int) := by
  rw [Int32.le_iff_toInt_le] at h
  have e : (0 : Int32).toInt = 0 := rfl
  have e1 : (10 : Int32).toInt = 10 := rfl
  omega
theorem pw_nn {p : Int64} {i : Int32} (h : pw37 p i) : (0 : Int64) ≤ p := Int64.le_of_lt (pw_pos h)
theorem c_ent {x : Int32} (h : x ≤ 1070) : x.toInt - (0 : Int32).toInt < ((5000 : Nat) : Int) := by
  rw [Int32.le_iff_toInt_le] at h
  have e : (1070 : Int32).toInt = 1070 := rfl
  have e0 : (0 : Int32).toInt = 0 := rfl
  omega
theorem k_zero {a : Int32} (hb : 61 - ((0 : Nat) : Int) ≤ a.toInt) (ha : a ≤ (60 : Int32)) : False := by
  rw [Int32.le_iff_toInt_le] at ha
  have e : (60 : Int32).toInt = 60 := rfl
  omega
theorem k_step {a : Int32} {d : Nat} (hb : 61 - ((d + 1 : Nat) : Int) ≤ a.toInt) (hl : a < (60 : Int32)) : 61 - (d : Int) ≤ (a + (1 : Int32)).toInt := by
  rw [Int32.lt_iff_toInt_lt] at hl
  have e : (60 : Int32).toInt = 60 := rfl
  have hm := Int32.le_toInt a
  have e2 : (a + (1 : Int32)).toInt = a.toInt + 1 := by
    rw [Int32.toInt_add, show (1 : Int32).toInt = 1 from rfl]; exact Int.bmod_eq_of_le (by omega) (by omega)
  omega
theorem w_ne {x : Int64} (h : (0 : Int64) < x) : ¬ x = 0 := fun e => by rw [e] at h; exact absurd h (by decide)
theorem i2l_ne {x : Int32} (h : ¬ x ≤ 0) : ¬ x.toInt64 = 0 := by
  intro e
  have e2 := congrArg Int64.toInt e
  rw [Int32.toInt_toInt64] at e2
  rw [Int32.le_iff_toInt_le] at h
  have e0 : (0 : Int32).toInt = 0 := rfl
  have e1 : (0 : Int64).toInt = 0 := rfl
  omega
def I_Pg (z : T_Pg) : Prop := (0 : Int32) ≤ z.2 ∧ z.2 ≤ 12000
def I_Nd (z : T_Nd) : Prop := (0 : Int32) ≤ z.2.2.2.2.2.2.2.2.2.2.1 ∧ z.2.2.2.2.2.2.2.2.2.2.1 ≤ 1070
def I_Wd (z : T_Wd) : Prop := (0 : Int32) ≤ z.2.2.2.2.2.1 ∧ z.2.2.2.2.2.1 ≤ 4000 ∧ (0 : Int32) ≤ z.2.2.2.2.2.2.1 ∧ z.2.2.2.2.2.2.1 ≤ 4001 ∧ (-1 : Int32) ≤ z.2.2.2.2.2.2.2.1 ∧ z.2.2.2.2.2.2.2.1 ≤ 4000
def I_Wd0 (z : T_Wd) : Prop := I_Wd z ∧ z.2.2.2.2.2.1 = 0
def I_Nm (z : T_Nm) : Prop := (0 : Int32) ≤ z.2.2.2.2 ∧ z.2.2.2.2 ≤ 100
theorem s_Nm_empty {z_this : T_Nm} {post : Unit → T_Nm → Prop} (hp : ∀ r u, I_Nm u → post r u) : wp_Nm_empty z_this post := by
  unfold wp_Nm_empty
  exact hp _ _ (by first | assumption | trivial | grind [I_Nm, I_Nd, I_Wd, I_Wd0, I_Pg, bt])
theorem s_Nm_count {z_this : T_Nm} {post : Int32 → Unit → Prop} (p0 : I_Nm z_this) (hp : ∀ r u, r = z_this.2.2.2.2 → post r u) : wp_Nm_count z_this post := by
  unfold wp_Nm_count
  exact hp _ _ (by first | assumption | trivial | grind [I_Nm, I_Nd, I_Wd, I_Wd0, I_Pg, bt])
theorem s_Nm_has {z_this : T_Nm} {a1 : Int32} {post : Int32 → Unit → Prop} (hp : ∀ r u, (r = 0 ∨ (r = 1 ∧ (0 : Int32) ≤ a1 ∧ a1 < 100)) → post r u) : wp_Nm_has z_this a1 post := by
  unfold wp_Nm_has
  refine ⟨fun h0 => ?_, fun h1 => ?_⟩
  · exact hp _ _ (by first | assumption | trivial | grind [I_Nm, I_Nd, I_Wd, I_Wd0, I_Pg, bt])
  · refine ⟨fun h2 => ?_, fun h3 => ?_⟩
    · exact hp _ _ (by first | assumption | trivial | grind [I_Nm, I_Nd, I_Wd, I_Wd0, I_Pg, bt])
    · refine ⟨fun h4 => ?_, fun h5 => ?_⟩
      · exact hp _ _ (by first | assumption | trivial | grind [I_Nm, I_Nd, I_Wd, I_Wd0, I_Pg, bt])
      · exact hp _ _ (by first | assumption | trivial | grind [I_Nm, I_Nd, I_Wd, I_Wd0, I_Pg, bt])
theorem l_Nm_find_L2 {z_this : T_Nm} {K : Int64 → Int32 → Prop} {post : Int32 → Unit → Prop} (hK : ∀ x1 x3, ((0 : Int32) ≤ x3 ∧ x3 ≤ 100) → K x1 x3) (hp : ∀ r u, True → post r u) : ∀ (n9 : Nat) (x1 : Int64) (x3 : Int32), (0 : Int32) ≤ x3 → x3 ≤ 100 → (100 : Int32).toInt - (x3).toInt < ((n9 : Nat) : Int) → wp_Nm_find_L2 z_this K post n9 x1 x3 := by
  intro n9
  induction n9 with
  | zero => intro x1 x3 i0 i1 hm; exact (i_meas0 i1 hm).elim
  | succ n9 ih =>
    intro x1 x3 i0 i1 hm
    rw [wp_Nm_find_L2]
    refine ⟨fun h0 => ?_, fun h1 => ?_⟩
    · exact hK _ _ (by first | assumption | trivial | grind [I_Nm, I_Nd, I_Wd, I_Wd0, I_Pg, bt])
    · refine ⟨fun h2 => ?_, fun h3 => ?_⟩
      · exact hK _ _ (by first | assumption | trivial | grind [I_Nm, I_Nd, I_Wd, I_Wd0, I_Pg, bt])
      · refine ⟨(vin (c := 100) (by first | assumption | trivial | grind [I_Nm, I_Nd, I_Wd, I_Wd0, I_Pg, bt]) (by first | assumption | trivial | grind [I_Nm, I_Nd, I_Wd, I_Wd0, I_Pg, bt]) rfl), ?_⟩
        refine ⟨fun h4 => ?_, fun h5 => ?_⟩
        · exact hp _ _ (by first | assumption | trivial | grind [I_Nm, I_Nd, I_Wd, I_Wd0, I_Pg, bt])
        · exact ih _ _ (by first | assumption | trivial | grind [I_Nm, I_Nd, I_Wd, I_Wd0, I_Pg, bt]) (by first | assumption | trivial | grind [I_Nm, I_Nd, I_Wd, I_Wd0, I_Pg, bt]) (i_meas (by first | assumption | trivial | grind [I_Nm, I_Nd, I_Wd, I_Wd0, I_Pg, bt]) (by first | assumption | trivial | grind [I_Nm, I_Nd, I_Wd, I_Wd0, I_Pg, bt]) hm)
theorem s_Nm_find {z_this : T_Nm} {a1 : Int64} {post : Int32 → Unit → Prop} (hp : ∀ r u, True → post r u) : wp_Nm_find z_this a1 post := by
  unfold wp_Nm_find
  refine ⟨5000, l_Nm_find_L2 (fun x1 x3 hv0 => ?_) (fun r u hq => hp r u hq) 5000 _ _ (by first | assumption | trivial | grind [I_Nm, I_Nd, I_Wd, I_Wd0, I_Pg, bt]) (by first | assumption | trivial | grind [I_Nm, I_Nd, I_Wd, I_Wd0, I_Pg, bt]) (by decide)⟩
  exact hp _ _ (by first | assumption | trivial | grind [I_Nm, I_Nd, I_Wd, I_Wd0, I_Pg, bt])
theorem s_Nm_canTell {z_this : T_Nm} {a1 : Int64} {post : Int32 → Unit → Prop} (p0 : I_Nm z_this) (hp : ∀ r u, (r = 0 ∨ r = 1) → post r u) : wp_Nm_canTell z_this a1 post := by
  unfold wp_Nm_canTell
  refine ⟨fun h0 => ?_, fun h1 => ?_⟩
  · exact hp _ _ (by first | assumption | trivial | grind [I_Nm, I_Nd, I_Wd, I_Wd0, I_Pg, bt])
  · refine s_Nm_find (fun r1 u1 hq2 => ?_)
    refine ⟨fun h3 => ?_, fun h4 => ?_⟩
    · exact hp _ _ (by first | assumption | trivial | grind [I_Nm, I_Nd, I_Wd, I_Wd0, I_Pg, bt])
    · exact hp _ _ (by first | assumption | trivial | grind [I_Nm, I_Nd, I_Wd, I_Wd0, I_Pg, bt])
theorem s_Nm_tell {z_this : T_Nm} {a1 : Int64} {a3 : Int32} {a4 : Int32} {post : Unit → T_Nm → Prop} (p0 : I_Nm z_this) (hp : ∀ r u, I_Nm u → post r u) : wp_Nm_tell z_this a1 a3 a4 post := by
  unfold wp_Nm_tell
  refine ⟨fun h0 => ?_, fun h1 => ?_⟩
  · exact hp _ _ (by first | assumption | trivial | grind [I_Nm, I_Nd, I_Wd, I_Wd0, I_Pg, bt])
  · refine ⟨(vin (c := 100) (by first | assumption | trivial | grind [I_Nm, I_Nd, I_Wd, I_Wd0, I_Pg, bt]) (by first | assumption | trivial | grind [I_Nm, I_Nd, I_Wd, I_Wd0, I_Pg, bt]) rfl), ?_⟩
    refine ⟨(vin (c := 100) (by first | assumption | trivial | grind [I_Nm, I_Nd, I_Wd, I_Wd0, I_Pg, bt]) (by first | assumption | trivial | grind [I_Nm, I_Nd, I_Wd, I_Wd0, I_Pg, bt]) rfl), ?_⟩
    refine ⟨(vin (c := 100) (by first | assumption | trivial | grind [I_Nm, I_Nd, I_Wd, I_Wd0, I_Pg, bt]) (by first | assumption | trivial | grind [I_Nm, I_Nd, I_Wd, I_Wd0, I_Pg, bt]) rfl), ?_⟩
    refine ⟨(vin (c := 100) (by first | assumption | trivial | grind [I_Nm, I_Nd, I_Wd, I_Wd0, I_Pg, bt]) (by first | assumption | trivial | grind [I_Nm, I_Nd, I_Wd, I_Wd0, I_Pg, bt]) rfl), ?_⟩
    exact hp _ _ (by first | assumption | trivial | grind [I_Nm, I_Nd, I_Wd, I_Wd0, I_Pg, bt])
theorem s_Nm_use {z_this : T_Nm} {a1 : Int32} {post : Unit → T_Nm → Prop} (p0 : I_Nm z_this) (hp : ∀ r u, I_Nm u → post r u) : wp_Nm_use z_this a1 post := by
  unfold wp_Nm_use
  refine s_Nm_has (fun r1 u1 hq0 => ?_)
  refine ⟨fun h1 => ?_, fun h2 => ?_⟩
  · exact hp _ _ (by first | assumption | trivial | grind [I_Nm, I_Nd, I_Wd, I_Wd0, I_Pg, bt])
  · refine ⟨(vin (c := 100) (by first | assumption | trivial | grind [I_Nm, I_Nd, I_Wd, I_Wd0, I_Pg, bt]) (by first | assumption | trivial | grind [I_Nm, I_Nd, I_Wd, I_Wd0, I_Pg, bt]) rfl), ?_⟩
    exact hp _ _ (by first | assumption | trivial | grind [I_Nm, I_Nd, I_Wd, I_Wd0, I_Pg, bt])
theorem s_Nm_isUsed {z_this : T_Nm} {a1 : Int32} {post : Int32 → Unit → Prop} (hp : ∀ r u, (r = 0 ∨ r = 1) → post r u) : wp_Nm_isUsed z_this a1 post := by
  unfold wp_Nm_isUsed
  refine s_Nm_has (fun r1 u1 hq0 => ?_)
  refine ⟨fun h1 => ?_, fun h2 => ?_⟩
  · exact hp _ _ (by first | assumption | trivial | grind [I_Nm, I_Nd, I_Wd, I_Wd0, I_Pg, bt])
  · refine ⟨(vin (c := 100) (by first | assumption | trivial | grind [I_Nm, I_Nd, I_Wd, I_Wd0, I_Pg, bt]) (by first | assumption | trivial | grind [I_Nm, I_Nd, I_Wd, I_Wd0, I_Pg, bt]) rfl), ?_⟩
    refine ⟨fun h3 => ?_, fun h4 => ?_⟩
    · exact hp _ _ (by first | assumption | trivial | grind [I_Nm, I_Nd, I_Wd, I_Wd0, I_Pg, bt])
    · exact hp _ _ (by first | assumption | trivial | grind [I_Nm, I_Nd, I_Wd, I_Wd0, I_Pg, bt])
theorem s_Nm_isUnused {z_this : T_Nm} {a1 : Int32} {a2 : Int32} {post : Int32 → Unit → Prop} (hp : ∀ r u, (r = 0 ∨ r = 1) → post r u) : wp_Nm_isUnused z_this a1 a2 post := by
  unfold wp_Nm_isUnused
  refine s_Nm_has (fun r1 u1 hq0 => ?_)
  refine ⟨fun h1 => ?_, fun h2 => ?_⟩
  · exact hp _ _ (by first | assumption | trivial | grind [I_Nm, I_Nd, I_Wd, I_Wd0, I_Pg, bt])
  · refine ⟨(vin (c := 100) (by first | assumption | trivial | grind [I_Nm, I_Nd, I_Wd, I_Wd0, I_Pg, bt]) (by first | assumption | trivial | grind [I_Nm, I_Nd, I_Wd, I_Wd0, I_Pg, bt]) rfl), ?_⟩
    refine ⟨fun h3 => ?_, fun h4 => ?_⟩
    · refine ⟨(vin (c := 100) (by first | assumption | trivial | grind [I_Nm, I_Nd, I_Wd, I_Wd0, I_Pg, bt]) (by first | assumption | trivial | grind [I_Nm, I_Nd, I_Wd, I_Wd0, I_Pg, bt]) rfl), ?_⟩
      refine ⟨fun h5 => ?_, fun h6 => ?_⟩
      · exact hp _ _ (by first | assumption | trivial | grind [I_Nm, I_Nd, I_Wd, I_Wd0, I_Pg, bt])
      · exact hp _ _ (by first | assumption | trivial | grind [I_Nm, I_Nd, I_Wd, I_Wd0, I_Pg, bt])
    · exact hp _ _ (by first | assumption | trivial | grind [I_Nm, I_Nd, I_Wd, I_Wd0, I_Pg, bt])
theorem s_Nm_lettersOf {z_this : T_Nm} {a1 : Int32} {post : Int64 → Unit → Prop} (hp : ∀ r u, True → post r u) : wp_Nm_lettersOf z_this a1 post := by
  unfold wp_Nm_lettersOf
  refine s_Nm_has (fun r1 u1 hq0 => ?_)
  refine ⟨fun h1 => ?_, fun h2 => ?_⟩
  · exact hp _ _ (by first | assumption | trivial | grind [I_Nm, I_Nd, I_Wd, I_Wd0, I_Pg, bt])
  · refine ⟨(vin (c := 100) (by first | assumption | trivial | grind [I_Nm, I_Nd, I_Wd, I_Wd0, I_Pg, bt]) (by first | assumption | trivial | grind [I_Nm, I_Nd, I_Wd, I_Wd0, I_Pg, bt]) rfl), ?_⟩
    exact hp _ _ (by first | assumption | trivial | grind [I_Nm, I_Nd, I_Wd, I_Wd0, I_Pg, bt])
theorem s_Nm_sortOf {z_this : T_Nm} {a1 : Int32} {post : Int32 → Unit → Prop} (hp : ∀ r u, True → post r u) : wp_Nm_sortOf z_this a1 post := by
  unfold wp_Nm_sortOf
  refine s_Nm_has (fun r1 u1 hq0 => ?_)
  refine ⟨fun h1 => ?_, fun h2 => ?_⟩
  · exact hp _ _ (by first | assumption | trivial | grind [I_Nm, I_Nd, I_Wd, I_Wd0, I_Pg, bt])
  · refine ⟨(vin (c := 100) (by first | assumption | trivial | grind [I_Nm, I_Nd, I_Wd, I_Wd0, I_Pg, bt]) (by first | assumption | trivial | grind [I_Nm, I_Nd, I_Wd, I_Wd0, I_Pg, bt]) rfl), ?_⟩
    exact hp _ _ (by first | assumption | trivial | grind [I_Nm, I_Nd, I_Wd, I_Wd0, I_Pg, bt])
theorem s_Nm_measureOf {z_this : T_Nm} {a1 : Int32} {post : Int32 → Unit → Prop} (hp : ∀ r u, True → post r u) : wp_Nm_measureOf z_this a1 post := by
  unfold wp_Nm_measureOf
  refine s_Nm_has (fun r1 u1 hq0 => ?_)
  refine ⟨fun h1 => ?_, fun h2 => ?_⟩
  · exact hp _ _ (by first | assumption | trivial | grind [I_Nm, I_Nd, I_Wd, I_Wd0, I_Pg, bt])
  · refine ⟨(vin (c := 100) (by first | assumption | trivial | grind [I_Nm, I_Nd, I_Wd, I_Wd0, I_Pg, bt]) (by first | assumption | trivial | grind [I_Nm, I_Nd, I_Wd, I_Wd0, I_Pg, bt]) rfl), ?_⟩
    exact hp _ _ (by first | assumption | trivial | grind [I_Nm, I_Nd, I_Wd, I_Wd0, I_Pg, bt])
theorem s_Nd_empty {z_this : T_Nd} {post : Unit → T_Nd → Prop} (hp : ∀ r u, I_Nd u → post r u) : wp_Nd_empty z_this post := by
  unfold wp_Nd_empty
  exact hp _ _ (by first | assumption | trivial | grind [I_Nm, I_Nd, I_Wd, I_Wd0, I_Pg, bt])
theorem s_Nd_count {z_this : T_Nd} {post : Int32 → Unit → Prop} (p0 : I_Nd z_this) (hp : ∀ r u, (r = z_this.2.2.2.2.2.2.2.2.2.2.1 ∧ (0 : Int32) ≤ r ∧ r ≤ 1070) → post r u) : wp_Nd_count z_this post := by
  unfold wp_Nd_count
  exact hp _ _ (by first | assumption | trivial | grind [I_Nm, I_Nd, I_Wd, I_Wd0, I_Pg, bt])
theorem s_Nd_statements {z_this : T_Nd} {post : Int32 → Unit → Prop} (hp : ∀ r u, True → post r u) : wp_Nd_statements z_this post := by
  unfold wp_Nd_statements
  exact hp _ _ (by first | assumption | trivial | grind [I_Nm, I_Nd, I_Wd, I_Wd0, I_Pg, bt])
theorem s_Nd_isTooMany {z_this : T_Nd} {post : Int32 → Unit → Prop} (hp : ∀ r u, (r = 0 ∨ r = 1) → post r u) : wp_Nd_isTooMany z_this post := by
  unfold wp_Nd_isTooMany
  refine ⟨fun h0 => ?_, fun h1 => ?_⟩
  · exact hp _ _ (by first | assumption | trivial | grind [I_Nm, I_Nd, I_Wd, I_Wd0, I_Pg, bt])
  · exact hp _ _ (by first | assumption | trivial | grind [I_Nm, I_Nd, I_Wd, I_Wd0, I_Pg, bt])
theorem s_Nd_has {z_this : T_Nd} {a1 : Int32} {post : Int32 → Unit → Prop} (hp : ∀ r u, (r = 0 ∨ (r = 1 ∧ (0 : Int32) ≤ a1 ∧ a1 < 1070)) → post r u) : wp_Nd_has z_this a1 post := by
  unfold wp_Nd_has
  refine ⟨fun h0 => ?_, fun h1 => ?_⟩
  · exact hp _ _ (by first | assumption | trivial | grind [I_Nm, I_Nd, I_Wd, I_Wd0, I_Pg, bt])
  · refine ⟨fun h2 => ?_, fun h3 => ?_⟩
    · exact hp _ _ (by first | assumption | trivial | grind [I_Nm, I_Nd, I_Wd, I_Wd0, I_Pg, bt])
    · refine ⟨fun h4 => ?_, fun h5 => ?_⟩
      · exact hp _ _ (by first | assumption | trivial | grind [I_Nm, I_Nd, I_Wd, I_Wd0, I_Pg, bt])
      · exact hp _ _ (by first | assumption | trivial | grind [I_Nm, I_Nd, I_Wd, I_Wd0, I_Pg, bt])
theorem l_Nd_chainFrom_L13 {K : T_Nd → Int32 → Int32 → Int32 → Int32 → Int32 → Prop} {post : Int32 → T_Nd → Prop} {c0 : Int32} (hK : ∀ z_this x1 x2 x3 x4 x5, ((0 : Int32) ≤ x5 ∧ x5 ≤ 1070 ∧ I_Nd z_this ∧ z_this.2.2.2.2.2.2.2.2.2.2.1 = c0) → K z_this x1 x2 x3 x4 x5) (hp : ∀ r u, (I_Nd u ∧ u.2.2.2.2.2.2.2.2.2.2.1 = c0) → post r u) : ∀ (n9 : Nat) (z_this : T_Nd) (x1 : Int32) (x2 : Int32) (x3 : Int32) (x4 : Int32) (x5 : Int32), (0 : Int32) ≤ x5 → x5 ≤ 1070 → I_Nd z_this → z_this.2.2.2.2.2.2.2.2.2.2.1 = c0 → (1070 : Int32).toInt - (x5).toInt < ((n9 : Nat) : Int) → wp_Nd_chainFrom_L13 K post n9 z_this x1 x2 x3 x4 x5 := by
  intro n9
  induction n9 with
  | zero => intro z_this x1 x2 x3 x4 x5 i0 i1 i2 i3 hm; exact (i_meas0 i1 hm).elim
  | succ n9 ih =>
    intro z_this x1 x2 x3 x4 x5 i0 i1 i2 i3 hm
    rw [wp_Nd_chainFrom_L13]
    refine ⟨fun h0 => ?_, fun h1 => ?_⟩
    · exact hK _ _ _ _ _ _ (by first | assumption | trivial | grind [I_Nm, I_Nd, I_Wd, I_Wd0, I_Pg, bt])
    · refine ⟨fun h2 => ?_, fun h3 => ?_⟩
      · exact hK _ _ _ _ _ _ (by first | assumption | trivial | grind [I_Nm, I_Nd, I_Wd, I_Wd0, I_Pg, bt])
      · refine ⟨fun h4 => ?_, fun h5 => ?_⟩
        · exact hK _ _ _ _ _ _ (by first | assumption | trivial | grind [I_Nm, I_Nd, I_Wd, I_Wd0, I_Pg, bt])
        · refine ⟨fun h6 => ?_, fun h7 => ?_⟩
          · exact hK _ _ _ _ _ _ (by first | assumption | trivial | grind [I_Nm, I_Nd, I_Wd, I_Wd0, I_Pg, bt])
          · refine ⟨(vin (c := 1070) (by first | assumption | trivial | grind [I_Nm, I_Nd, I_Wd, I_Wd0, I_Pg, bt]) (by first | assumption | trivial | grind [I_Nm, I_Nd, I_Wd, I_Wd0, I_Pg, bt]) rfl), ?_⟩
            refine ⟨(vin (c := 1070) (by first | assumption | trivial | grind [I_Nm, I_Nd, I_Wd, I_Wd0, I_Pg, bt]) (by first | assumption | trivial | grind [I_Nm, I_Nd, I_Wd, I_Wd0, I_Pg, bt]) rfl), ?_⟩
            refine ⟨(vin (c := 1070) (by first | assumption | trivial | grind [I_Nm, I_Nd, I_Wd, I_Wd0, I_Pg, bt]) (by first | assumption | trivial | grind [I_Nm, I_Nd, I_Wd, I_Wd0, I_Pg, bt]) rfl), ?_⟩
            exact ih _ _ _ _ _ _ (by first | assumption | trivial | grind [I_Nm, I_Nd, I_Wd, I_Wd0, I_Pg, bt]) (by first | assumption | trivial | grind [I_Nm, I_Nd, I_Wd, I_Wd0, I_Pg, bt]) (by first | assumption | trivial | grind [I_Nm, I_Nd, I_Wd, I_Wd0, I_Pg, bt]) (by first | assumption | trivial | grind [I_Nm, I_Nd, I_Wd, I_Wd0, I_Pg, bt]) (i_meas (by first | assumption | trivial | grind [I_Nm, I_Nd, I_Wd, I_Wd0, I_Pg, bt]) (by first | assumption | trivial | grind [I_Nm, I_Nd, I_Wd, I_Wd0, I_Pg, bt]) hm)
theorem s_Nd_chainFrom {z_this : T_Nd} {a1 : Int32} {a2 : Int32} {post : Int32 → T_Nd → Prop} (p0 : I_Nd z_this) (hp : ∀ r u, (I_Nd u ∧ u.2.2.2.2.2.2.2.2.2.2.1 = z_this.2.2.2.2.2.2.2.2.2.2.1) → post r u) : wp_Nd_chainFrom z_this a1 a2 post := by
  unfold wp_Nd_chainFrom
  refine ⟨5000, l_Nd_chainFrom_L13 (c0 := (z_this).2.2.2.2.2.2.2.2.2.2.1) (fun z_this x1 x2 x3 x4 x5 hv0 => ?_) (fun r u hq => hp r u hq) 5000 _ _ _ _ _ _ (by first | assumption | trivial | grind [I_Nm, I_Nd, I_Wd, I_Wd0, I_Pg, bt]) (by first | assumption | trivial | grind [I_Nm, I_Nd, I_Wd, I_Wd0, I_Pg, bt]) (by first | assumption | trivial | grind [I_Nm, I_Nd, I_Wd, I_Wd0, I_Pg, bt]) (by first | assumption | trivial | grind [I_Nm, I_Nd, I_Wd, I_Wd0, I_Pg, bt]) (by decide)⟩
  exact hp _ _ (by first | assumption | trivial | grind [I_Nm, I_Nd, I_Wd, I_Wd0, I_Pg, bt])
theorem l_Nd_followChain_L7 {K : T_Nd → Int32 → Int32 → Int32 → Int32 → Prop} {post : Int32 → T_Nd → Prop} {c0 : Int32} (hK : ∀ z_this x1 x2 x3 x4, ((0 : Int32) ≤ x3 ∧ x3 ≤ 1070 ∧ I_Nd z_this ∧ z_this.2.2.2.2.2.2.2.2.2.2.1 = c0) → K z_this x1 x2 x3 x4) (hp : ∀ r u, (I_Nd u ∧ u.2.2.2.2.2.2.2.2.2.2.1 = c0) → post r u) : ∀ (n9 : Nat) (z_this : T_Nd) (x1 : Int32) (x2 : Int32) (x3 : Int32) (x4 : Int32), (0 : Int32) ≤ x3 → x3 ≤ 1070 → I_Nd z_this → z_this.2.2.2.2.2.2.2.2.2.2.1 = c0 → (1070 : Int32).toInt - (x3).toInt < ((n9 : Nat) : Int) → wp_Nd_followChain_L7 K post n9 z_this x1 x2 x3 x4 := by
  intro n9
  induction n9 with
  | zero => intro z_this x1 x2 x3 x4 i0 i1 i2 i3 hm; exact (i_meas0 i1 hm).elim
  | succ n9 ih =>
    intro z_this x1 x2 x3 x4 i0 i1 i2 i3 hm
    rw [wp_Nd_followChain_L7]
    refine ⟨fun h0 => ?_, fun h1 => ?_⟩
    · exact hK _ _ _ _ _ (by first | assumption | trivial | grind [I_Nm, I_Nd, I_Wd, I_Wd0, I_Pg, bt])
    · refine ⟨fun h2 => ?_, fun h3 => ?_⟩
      · exact hK _ _ _ _ _ (by first | assumption | trivial | grind [I_Nm, I_Nd, I_Wd, I_Wd0, I_Pg, bt])
      · refine ⟨fun h4 => ?_, fun h5 => ?_⟩
        · exact hK _ _ _ _ _ (by first | assumption | trivial | grind [I_Nm, I_Nd, I_Wd, I_Wd0, I_Pg, bt])
        · refine ⟨(vin (c := 1070) (by first | assumption | trivial | grind [I_Nm, I_Nd, I_Wd, I_Wd0, I_Pg, bt]) (by first | assumption | trivial | grind [I_Nm, I_Nd, I_Wd, I_Wd0, I_Pg, bt]) rfl), ?_⟩
          refine ⟨fun h6 => ?_, fun h7 => ?_⟩
          · refine ⟨(vin (c := 1070) (by first | assumption | trivial | grind [I_Nm, I_Nd, I_Wd, I_Wd0, I_Pg, bt]) (by first | assumption | trivial | grind [I_Nm, I_Nd, I_Wd, I_Wd0, I_Pg, bt]) rfl), ?_⟩
            refine ⟨fun h8 => ?_, fun h9 => ?_⟩
            · refine ⟨(vin (c := 1070) (by first | assumption | trivial | grind [I_Nm, I_Nd, I_Wd, I_Wd0, I_Pg, bt]) (by first | assumption | trivial | grind [I_Nm, I_Nd, I_Wd, I_Wd0, I_Pg, bt]) rfl), ?_⟩
              exact ih _ _ _ _ _ (by first | assumption | trivial | grind [I_Nm, I_Nd, I_Wd, I_Wd0, I_Pg, bt]) (by first | assumption | trivial | grind [I_Nm, I_Nd, I_Wd, I_Wd0, I_Pg, bt]) (by first | assumption | trivial | grind [I_Nm, I_Nd, I_Wd, I_Wd0, I_Pg, bt]) (by first | assumption | trivial | grind [I_Nm, I_Nd, I_Wd, I_Wd0, I_Pg, bt]) (i_meas (by first | assumption | trivial | grind [I_Nm, I_Nd, I_Wd, I_Wd0, I_Pg, bt]) (by first | assumption | trivial | grind [I_Nm, I_Nd, I_Wd, I_Wd0, I_Pg, bt]) hm)
            · refine ⟨(vin (c := 1070) (by first | assumption | trivial | grind [I_Nm, I_Nd, I_Wd, I_Wd0, I_Pg, bt]) (by first | assumption | trivial | grind [I_Nm, I_Nd, I_Wd, I_Wd0, I_Pg, bt]) rfl), ?_⟩
              exact ih _ _ _ _ _ (by first | assumption | trivial | grind [I_Nm, I_Nd, I_Wd, I_Wd0, I_Pg, bt]) (by first | assumption | trivial | grind [I_Nm, I_Nd, I_Wd, I_Wd0, I_Pg, bt]) (by first | assumption | trivial | grind [I_Nm, I_Nd, I_Wd, I_Wd0, I_Pg, bt]) (by first | assumption | trivial | grind [I_Nm, I_Nd, I_Wd, I_Wd0, I_Pg, bt]) (i_meas (by first | assumption | trivial | grind [I_Nm, I_Nd, I_Wd, I_Wd0, I_Pg, bt]) (by first | assumption | trivial | grind [I_Nm, I_Nd, I_Wd, I_Wd0, I_Pg, bt]) hm)
          · refine ⟨(vin (c := 1070) (by first | assumption | trivial | grind [I_Nm, I_Nd, I_Wd, I_Wd0, I_Pg, bt]) (by first | assumption | trivial | grind [I_Nm, I_Nd, I_Wd, I_Wd0, I_Pg, bt]) rfl), ?_⟩
            exact ih _ _ _ _ _ (by first | assumption | trivial | grind [I_Nm, I_Nd, I_Wd, I_Wd0, I_Pg, bt]) (by first | assumption | trivial | grind [I_Nm, I_Nd, I_Wd, I_Wd0, I_Pg, bt]) (by first | assumption | trivial | grind [I_Nm, I_Nd, I_Wd, I_Wd0, I_Pg, bt]) (by first | assumption | trivial | grind [I_Nm, I_Nd, I_Wd, I_Wd0, I_Pg, bt]) (i_meas (by first | assumption | trivial | grind [I_Nm, I_Nd, I_Wd, I_Wd0, I_Pg, bt]) (by first | assumption | trivial | grind [I_Nm, I_Nd, I_Wd, I_Wd0, I_Pg, bt]) hm)
theorem s_Nd_followChain {z_this : T_Nd} {a1 : Int32} {post : Int32 → T_Nd → Prop} (p0 : I_Nd z_this) (hp : ∀ r u, (I_Nd u ∧ u.2.2.2.2.2.2.2.2.2.2.1 = z_this.2.2.2.2.2.2.2.2.2.2.1) → post r u) : wp_Nd_followChain z_this a1 post := by
  unfold wp_Nd_followChain
  refine ⟨5000, l_Nd_followChain_L7 (c0 := (z_this).2.2.2.2.2.2.2.2.2.2.1) (fun z_this x1 x2 x3 x4 hv0 => ?_) (fun r u hq => hp r u hq) 5000 _ _ _ _ _ (by first | assumption | trivial | grind [I_Nm, I_Nd, I_Wd, I_Wd0, I_Pg, bt]) (by first | assumption | trivial | grind [I_Nm, I_Nd, I_Wd, I_Wd0, I_Pg, bt]) (by first | assumption | trivial | grind [I_Nm, I_Nd, I_Wd, I_Wd0, I_Pg, bt]) (by first | assumption | trivial | grind [I_Nm, I_Nd, I_Wd, I_Wd0, I_Pg, bt]) (by decide)⟩
  exact hp _ _ (by first | assumption | trivial | grind [I_Nm, I_Nd, I_Wd, I_Wd0, I_Pg, bt])
theorem s_Nd_add {z_this : T_Nd} {a1 : Int32} {a2 : Int32} {a3 : Int32} {a4 : Int64} {a6 : Int32} {post : Int32 → T_Nd → Prop} (p0 : I_Nd z_this) (hp : ∀ r u, I_Nd u → post r u) : wp_Nd_add z_this a1 a2 a3 a4 a6 post := by
  unfold wp_Nd_add
  refine ⟨fun h0 => ?_, fun h1 => ?_⟩
  · refine ⟨(vin (c := 1070) (by first | assumption | trivial | grind [I_Nm, I_Nd, I_Wd, I_Wd0, I_Pg, bt]) (by first | assumption | trivial | grind [I_Nm, I_Nd, I_Wd, I_Wd0, I_Pg, bt]) rfl), ?_⟩
    refine ⟨(vin (c := 1070) (by first | assumption | trivial | grind [I_Nm, I_Nd, I_Wd, I_Wd0, I_Pg, bt]) (by first | assumption | trivial | grind [I_Nm, I_Nd, I_Wd, I_Wd0, I_Pg, bt]) rfl), ?_⟩
    refine ⟨(vin (c := 1070) (by first | assumption | trivial | grind [I_Nm, I_Nd, I_Wd, I_Wd0, I_Pg, bt]) (by first | assumption | trivial | grind [I_Nm, I_Nd, I_Wd, I_Wd0, I_Pg, bt]) rfl), ?_⟩
    refine ⟨(vin (c := 1070) (by first | assumption | trivial | grind [I_Nm, I_Nd, I_Wd, I_Wd0, I_Pg, bt]) (by first | assumption | trivial | grind [I_Nm, I_Nd, I_Wd, I_Wd0, I_Pg, bt]) rfl), ?_⟩
    refine ⟨(vin (c := 1070) (by first | assumption | trivial | grind [I_Nm, I_Nd, I_Wd, I_Wd0, I_Pg, bt]) (by first | assumption | trivial | grind [I_Nm, I_Nd, I_Wd, I_Wd0, I_Pg, bt]) rfl), ?_⟩
    refine s_Nd_chainFrom (by first | assumption | trivial | grind [I_Nm, I_Nd, I_Wd, I_Wd0, I_Pg, bt]) (fun r1 u1 hq2 => ?_)
    refine ⟨(vin (c := 1070) (by first | assumption | trivial | grind [I_Nm, I_Nd, I_Wd, I_Wd0, I_Pg, bt]) (by first | assumption | trivial | grind [I_Nm, I_Nd, I_Wd, I_Wd0, I_Pg, bt]) rfl), ?_⟩
    refine ⟨(vin (c := 1070) (by first | assumption | trivial | grind [I_Nm, I_Nd, I_Wd, I_Wd0, I_Pg, bt]) (by first | assumption | trivial | grind [I_Nm, I_Nd, I_Wd, I_Wd0, I_Pg, bt]) rfl), ?_⟩
    refine s_Nd_followChain (by first | assumption | trivial | grind [I_Nm, I_Nd, I_Wd, I_Wd0, I_Pg, bt]) (fun r2 u2 hq3 => ?_)
    refine ⟨(vin (c := 1070) (by first | assumption | trivial | grind [I_Nm, I_Nd, I_Wd, I_Wd0, I_Pg, bt]) (by first | assumption | trivial | grind [I_Nm, I_Nd, I_Wd, I_Wd0, I_Pg, bt]) rfl), ?_⟩
    refine ⟨fun h4 => ?_, fun h5 => ?_⟩
    · exact hp _ _ (by first | assumption | trivial | grind [I_Nm, I_Nd, I_Wd, I_Wd0, I_Pg, bt])
    · refine ⟨fun h6 => ?_, fun h7 => ?_⟩
      · exact hp _ _ (by first | assumption | trivial | grind [I_Nm, I_Nd, I_Wd, I_Wd0, I_Pg, bt])
      · exact hp _ _ (by first | assumption | trivial | grind [I_Nm, I_Nd, I_Wd, I_Wd0, I_Pg, bt])
  · exact hp _ _ (by first | assumption | trivial | grind [I_Nm, I_Nd, I_Wd, I_Wd0, I_Pg, bt])
theorem s_Nd_finish {z_this : T_Nd} {post : Unit → T_Nd → Prop} (p0 : I_Nd z_this) (hp : ∀ r u, I_Nd u → post r u) : wp_Nd_finish z_this post := by
  unfold wp_Nd_finish
  refine s_Nd_chainFrom (by first | assumption | trivial | grind [I_Nm, I_Nd, I_Wd, I_Wd0, I_Pg, bt]) (fun r1 u1 hq0 => ?_)
  refine s_Nd_followChain (by first | assumption | trivial | grind [I_Nm, I_Nd, I_Wd, I_Wd0, I_Pg, bt]) (fun r2 u2 hq1 => ?_)
  exact hp _ _ (by first | assumption | trivial | grind [I_Nm, I_Nd, I_Wd, I_Wd0, I_Pg, bt])
theorem s_Nd_endsWithSemicolon {a0 : Int32} {post : Int32 → Unit → Prop} (hp : ∀ r u, (r = 0 ∨ r = 1) → post r u) : wp_Nd_endsWithSemicolon a0 post := by
  unfold wp_Nd_endsWithSemicolon
  refine ⟨fun h0 => ?_, fun h1 => ?_⟩
  · refine ⟨fun h2 => ?_, fun h3 => ?_⟩
    · exact hp _ _ (by first | assumption | trivial | grind [I_Nm, I_Nd, I_Wd, I_Wd0, I_Pg, bt])
    · refine ⟨fun h4 => ?_, fun h5 => ?_⟩
      · exact hp _ _ (by first | assumption | trivial | grind [I_Nm, I_Nd, I_Wd, I_Wd0, I_Pg, bt])
      · exact hp _ _ (by first | assumption | trivial | grind [I_Nm, I_Nd, I_Wd, I_Wd0, I_Pg, bt])
  · refine ⟨fun h2 => ?_, fun h3 => ?_⟩
    · exact hp _ _ (by first | assumption | trivial | grind [I_Nm, I_Nd, I_Wd, I_Wd0, I_Pg, bt])
    · refine ⟨fun h4 => ?_, fun h5 => ?_⟩
      · exact hp _ _ (by first | assumption | trivial | grind [I_Nm, I_Nd, I_Wd, I_Wd0, I_Pg, bt])
      · refine ⟨fun h6 => ?_, fun h7 => ?_⟩
        · exact hp _ _ (by first | assumption | trivial | grind [I_Nm, I_Nd, I_Wd, I_Wd0, I_Pg, bt])
        · exact hp _ _ (by first | assumption | trivial | grind [I_Nm, I_Nd, I_Wd, I_Wd0, I_Pg, bt])
theorem s_Nd_kindOf {z_this : T_Nd} {a1 : Int32} {post : Int32 → Unit → Prop} (hp : ∀ r u, True → post r u) : wp_Nd_kindOf z_this a1 post := by
  unfold wp_Nd_kindOf
  refine s_Nd_has (fun r1 u1 hq0 => ?_)
  refine ⟨fun h1 => ?_, fun h2 => ?_⟩
  · exact hp _ _ (by first | assumption | trivial | grind [I_Nm, I_Nd, I_Wd, I_Wd0, I_Pg, bt])
  · refine ⟨(vin (c := 1070) (by first | assumption | trivial | grind [I_Nm, I_Nd, I_Wd, I_Wd0, I_Pg, bt]) (by first | assumption | trivial | grind [I_Nm, I_Nd, I_Wd, I_Wd0, I_Pg, bt]) rfl), ?_⟩
    exact hp _ _ (by first | assumption | trivial | grind [I_Nm, I_Nd, I_Wd, I_Wd0, I_Pg, bt])
theorem s_Nd_lowOf {z_this : T_Nd} {a1 : Int32} {post : Int32 → Unit → Prop} (hp : ∀ r u, True → post r u) : wp_Nd_lowOf z_this a1 post := by
  unfold wp_Nd_lowOf
  refine s_Nd_has (fun r1 u1 hq0 => ?_)
  refine ⟨fun h1 => ?_, fun h2 => ?_⟩
  · exact hp _ _ (by first | assumption | trivial | grind [I_Nm, I_Nd, I_Wd, I_Wd0, I_Pg, bt])
  · refine ⟨(vin (c := 1070) (by first | assumption | trivial | grind [I_Nm, I_Nd, I_Wd, I_Wd0, I_Pg, bt]) (by first | assumption | trivial | grind [I_Nm, I_Nd, I_Wd, I_Wd0, I_Pg, bt]) rfl), ?_⟩
    exact hp _ _ (by first | assumption | trivial | grind [I_Nm, I_Nd, I_Wd, I_Wd0, I_Pg, bt])
theorem s_Nd_rowOf {z_this : T_Nd} {a1 : Int32} {post : Int32 → Unit → Prop} (hp : ∀ r u, True → post r u) : wp_Nd_rowOf z_this a1 post := by
  unfold wp_Nd_rowOf
  refine s_Nd_has (fun r1 u1 hq0 => ?_)
  refine ⟨fun h1 => ?_, fun h2 => ?_⟩
  · exact hp _ _ (by first | assumption | trivial | grind [I_Nm, I_Nd, I_Wd, I_Wd0, I_Pg, bt])
  · refine ⟨(vin (c := 1070) (by first | assumption | trivial | grind [I_Nm, I_Nd, I_Wd, I_Wd0, I_Pg, bt]) (by first | assumption | trivial | grind [I_Nm, I_Nd, I_Wd, I_Wd0, I_Pg, bt]) rfl), ?_⟩
    exact hp _ _ (by first | assumption | trivial | grind [I_Nm, I_Nd, I_Wd, I_Wd0, I_Pg, bt])
theorem s_Nd_valueOf {z_this : T_Nd} {a1 : Int32} {post : Int64 → Unit → Prop} (hp : ∀ r u, True → post r u) : wp_Nd_valueOf z_this a1 post := by
  unfold wp_Nd_valueOf
  refine s_Nd_has (fun r1 u1 hq0 => ?_)
  refine ⟨fun h1 => ?_, fun h2 => ?_⟩
  · exact hp _ _ (by first | assumption | trivial | grind [I_Nm, I_Nd, I_Wd, I_Wd0, I_Pg, bt])
  · refine ⟨(vin (c := 1070) (by first | assumption | trivial | grind [I_Nm, I_Nd, I_Wd, I_Wd0, I_Pg, bt]) (by first | assumption | trivial | grind [I_Nm, I_Nd, I_Wd, I_Wd0, I_Pg, bt]) rfl), ?_⟩
    exact hp _ _ (by first | assumption | trivial | grind [I_Nm, I_Nd, I_Wd, I_Wd0, I_Pg, bt])
theorem s_Nd_subjectOf {z_this : T_Nd} {a1 : Int32} {post : Int32 → Unit → Prop} (hp : ∀ r u, True → post r u) : wp_Nd_subjectOf z_this a1 post := by
  unfold wp_Nd_subjectOf
  refine s_Nd_valueOf (fun r1 u1 hq0 => ?_)
  exact hp _ _ (by first | assumption | trivial | grind [I_Nm, I_Nd, I_Wd, I_Wd0, I_Pg, bt])
theorem s_Nd_measureOf {z_this : T_Nd} {a1 : Int32} {post : Int32 → Unit → Prop} (hp : ∀ r u, True → post r u) : wp_Nd_measureOf z_this a1 post := by
  unfold wp_Nd_measureOf
  refine s_Nd_has (fun r1 u1 hq0 => ?_)
  refine ⟨fun h1 => ?_, fun h2 => ?_⟩
  · exact hp _ _ (by first | assumption | trivial | grind [I_Nm, I_Nd, I_Wd, I_Wd0, I_Pg, bt])
  · refine ⟨(vin (c := 1070) (by first | assumption | trivial | grind [I_Nm, I_Nd, I_Wd, I_Wd0, I_Pg, bt]) (by first | assumption | trivial | grind [I_Nm, I_Nd, I_Wd, I_Wd0, I_Pg, bt]) rfl), ?_⟩
    exact hp _ _ (by first | assumption | trivial | grind [I_Nm, I_Nd, I_Wd, I_Wd0, I_Pg, bt])
theorem s_Nd_sizeOf {z_this : T_Nd} {a1 : Int32} {post : Int32 → Unit → Prop} (hp : ∀ r u, True → post r u) : wp_Nd_sizeOf z_this a1 post := by
  unfold wp_Nd_sizeOf
  refine s_Nd_has (fun r1 u1 hq0 => ?_)
  refine ⟨fun h1 => ?_, fun h2 => ?_⟩
  · exact hp _ _ (by first | assumption | trivial | grind [I_Nm, I_Nd, I_Wd, I_Wd0, I_Pg, bt])
  · refine ⟨(vin (c := 1070) (by first | assumption | trivial | grind [I_Nm, I_Nd, I_Wd, I_Wd0, I_Pg, bt]) (by first | assumption | trivial | grind [I_Nm, I_Nd, I_Wd, I_Wd0, I_Pg, bt]) rfl), ?_⟩
    exact hp _ _ (by first | assumption | trivial | grind [I_Nm, I_Nd, I_Wd, I_Wd0, I_Pg, bt])
theorem s_Nd_parentOf {z_this : T_Nd} {a1 : Int32} {post : Int32 → Unit → Prop} (hp : ∀ r u, True → post r u) : wp_Nd_parentOf z_this a1 post := by
  unfold wp_Nd_parentOf
  refine s_Nd_has (fun r1 u1 hq0 => ?_)
  refine ⟨fun h1 => ?_, fun h2 => ?_⟩
  · exact hp _ _ (by first | assumption | trivial | grind [I_Nm, I_Nd, I_Wd, I_Wd0, I_Pg, bt])
  · refine ⟨(vin (c := 1070) (by first | assumption | trivial | grind [I_Nm, I_Nd, I_Wd, I_Wd0, I_Pg, bt]) (by first | assumption | trivial | grind [I_Nm, I_Nd, I_Wd, I_Wd0, I_Pg, bt]) rfl), ?_⟩
    exact hp _ _ (by first | assumption | trivial | grind [I_Nm, I_Nd, I_Wd, I_Wd0, I_Pg, bt])
theorem s_Nd_nextOf {z_this : T_Nd} {a1 : Int32} {post : Int32 → Unit → Prop} (hp : ∀ r u, True → post r u) : wp_Nd_nextOf z_this a1 post := by
  unfold wp_Nd_nextOf
  refine s_Nd_has (fun r1 u1 hq0 => ?_)
  refine ⟨fun h1 => ?_, fun h2 => ?_⟩
  · exact hp _ _ (by first | assumption | trivial | grind [I_Nm, I_Nd, I_Wd, I_Wd0, I_Pg, bt])
  · refine ⟨(vin (c := 1070) (by first | assumption | trivial | grind [I_Nm, I_Nd, I_Wd, I_Wd0, I_Pg, bt]) (by first | assumption | trivial | grind [I_Nm, I_Nd, I_Wd, I_Wd0, I_Pg, bt]) rfl), ?_⟩
    exact hp _ _ (by first | assumption | trivial | grind [I_Nm, I_Nd, I_Wd, I_Wd0, I_Pg, bt])
theorem s_Nd_isLate {z_this : T_Nd} {a1 : Int32} {post : Int32 → Unit → Prop} (hp : ∀ r u, (r = 0 ∨ r = 1) → post r u) : wp_Nd_isLate z_this a1 post := by
  unfold wp_Nd_isLate
  refine s_Nd_has (fun r1 u1 hq0 => ?_)
  refine ⟨fun h1 => ?_, fun h2 => ?_⟩
  · exact hp _ _ (by first | assumption | trivial | grind [I_Nm, I_Nd, I_Wd, I_Wd0, I_Pg, bt])
  · refine ⟨(vin (c := 1070) (by first | assumption | trivial | grind [I_Nm, I_Nd, I_Wd, I_Wd0, I_Pg, bt]) (by first | assumption | trivial | grind [I_Nm, I_Nd, I_Wd, I_Wd0, I_Pg, bt]) rfl), ?_⟩
    refine ⟨fun h3 => ?_, fun h4 => ?_⟩
    · exact hp _ _ (by first | assumption | trivial | grind [I_Nm, I_Nd, I_Wd, I_Wd0, I_Pg, bt])
    · exact hp _ _ (by first | assumption | trivial | grind [I_Nm, I_Nd, I_Wd, I_Wd0, I_Pg, bt])
theorem s_Nd_firstOf {z_this : T_Nd} {a1 : Int32} {post : Int32 → Unit → Prop} (hp : ∀ r u, True → post r u) : wp_Nd_firstOf z_this a1 post := by
  unfold wp_Nd_firstOf
  refine ⟨fun h0 => ?_, fun h1 => ?_⟩
  · exact hp _ _ (by first | assumption | trivial | grind [I_Nm, I_Nd, I_Wd, I_Wd0, I_Pg, bt])
  · refine s_Nd_has (fun r1 u1 hq2 => ?_)
    refine ⟨fun h3 => ?_, fun h4 => ?_⟩
    · exact hp _ _ (by first | assumption | trivial | grind [I_Nm, I_Nd, I_Wd, I_Wd0, I_Pg, bt])
    · refine ⟨(vin (c := 1070) (by first | assumption | trivial | grind [I_Nm, I_Nd, I_Wd, I_Wd0, I_Pg, bt]) (by first | assumption | trivial | grind [I_Nm, I_Nd, I_Wd, I_Wd0, I_Pg, bt]) rfl), ?_⟩
      exact hp _ _ (by first | assumption | trivial | grind [I_Nm, I_Nd, I_Wd, I_Wd0, I_Pg, bt])
theorem l_Nd_heldBy_L39 {z_this : T_Nd} {K : Int32 → Int32 → Int32 → Int32 → Int32 → Prop} {post : Int32 → Unit → Prop} (hK : ∀ x1 x2 x3 x4 x5, ((0 : Int32) ≤ x5 ∧ x5 ≤ x2) → K x1 x2 x3 x4 x5) (hp : ∀ r u, True → post r u) : ∀ (n9 : Nat) (x1 : Int32) (x2 : Int32) (x3 : Int32) (x4 : Int32) (x5 : Int32), (0 : Int32) ≤ x5 → x5 ≤ x2 → (x2 : Int32).toInt - (x5).toInt < ((n9 : Nat) : Int) → wp_Nd_heldBy_L39 z_this K post n9 x1 x2 x3 x4 x5 := by
  intro n9
  induction n9 with
  | zero => intro x1 x2 x3 x4 x5 i0 i1 hm; exact (i_meas0 i1 hm).elim
  | succ n9 ih =>
    intro x1 x2 x3 x4 x5 i0 i1 hm
    rw [wp_Nd_heldBy_L39]
    refine ⟨fun h0 => ?_, fun h1 => ?_⟩
    · exact hK _ _ _ _ _ (by first | assumption | trivial | grind [I_Nm, I_Nd, I_Wd, I_Wd0, I_Pg, bt])
    · refine s_Nd_nextOf (fun r3 u3 hq2 => ?_)
      exact ih _ _ _ _ _ (by first | assumption | trivial | grind [I_Nm, I_Nd, I_Wd, I_Wd0, I_Pg, bt]) (by first | assumption | trivial | grind [I_Nm, I_Nd, I_Wd, I_Wd0, I_Pg, bt]) (i_meas (by first | assumption | trivial | grind [I_Nm, I_Nd, I_Wd, I_Wd0, I_Pg, bt]) (by first | assumption | trivial | grind [I_Nm, I_Nd, I_Wd, I_Wd0, I_Pg, bt]) hm)
theorem s_Nd_heldBy {z_this : T_Nd} {a1 : Int32} {a2 : Int32} {post : Int32 → Unit → Prop} (hp : ∀ r u, True → post r u) : wp_Nd_heldBy z_this a1 a2 post := by
  unfold wp_Nd_heldBy
  refine ⟨fun h0 => ?_, fun h1 => ?_⟩
  · refine ⟨fun h2 => ?_, fun h3 => ?_⟩
    · exact hp _ _ (by first | assumption | trivial | grind [I_Nm, I_Nd, I_Wd, I_Wd0, I_Pg, bt])
    · refine ⟨fun h4 => ?_, fun h5 => ?_⟩
      · refine s_Nd_firstOf (fun r4 u4 hq6 => ?_)
        refine ⟨(a2.toInt.toNat + 1), l_Nd_heldBy_L39 (fun x1 x2 x3 x4 x5 hv7 => ?_) (fun r u hq => hp r u hq) (a2.toInt.toNat + 1) _ _ _ _ _ (by first | assumption | trivial | grind [I_Nm, I_Nd, I_Wd, I_Wd0, I_Pg, bt]) (by first | assumption | trivial | grind [I_Nm, I_Nd, I_Wd, I_Wd0, I_Pg, bt]) (by have e : (0 : Int32).toInt = 0 := rfl; omega)⟩
        exact hp _ _ (by first | assumption | trivial | grind [I_Nm, I_Nd, I_Wd, I_Wd0, I_Pg, bt])
      · exact hp _ _ (by first | assumption | trivial | grind [I_Nm, I_Nd, I_Wd, I_Wd0, I_Pg, bt])
  · refine s_Nd_sizeOf (fun r1 u1 hq2 => ?_)
    refine ⟨fun h3 => ?_, fun h4 => ?_⟩
    · exact hp _ _ (by first | assumption | trivial | grind [I_Nm, I_Nd, I_Wd, I_Wd0, I_Pg, bt])
    · refine ⟨fun h5 => ?_, fun h6 => ?_⟩
      · refine s_Nd_firstOf (fun r2 u2 hq7 => ?_)
        refine ⟨(a2.toInt.toNat + 1), l_Nd_heldBy_L39 (fun x1 x2 x3 x4 x5 hv8 => ?_) (fun r u hq => hp r u hq) (a2.toInt.toNat + 1) _ _ _ _ _ (by first | assumption | trivial | grind [I_Nm, I_Nd, I_Wd, I_Wd0, I_Pg, bt]) (by first | assumption | trivial | grind [I_Nm, I_Nd, I_Wd, I_Wd0, I_Pg, bt]) (by have e : (0 : Int32).toInt = 0 := rfl; omega)⟩
        exact hp _ _ (by first | assumption | trivial | grind [I_Nm, I_Nd, I_Wd, I_Wd0, I_Pg, bt])
      · exact hp _ _ (by first | assumption | trivial | grind [I_Nm, I_Nd, I_Wd, I_Wd0, I_Pg, bt])
theorem l_Nd_blockOf_L25 {z_this : T_Nd} {K : Int32 → Int32 → Int32 → Int32 → Int32 → Prop} {post : Int32 → Unit → Prop} (hK : ∀ x1 x2 x3 x4 x5, ((0 : Int32) ≤ x5 ∧ x5 ≤ 1070) → K x1 x2 x3 x4 x5) (hp : ∀ r u, True → post r u) : ∀ (n9 : Nat) (x1 : Int32) (x2 : Int32) (x3 : Int32) (x4 : Int32) (x5 : Int32), (0 : Int32) ≤ x5 → x5 ≤ 1070 → (1070 : Int32).toInt - (x5).toInt < ((n9 : Nat) : Int) → wp_Nd_blockOf_L25 z_this K post n9 x1 x2 x3 x4 x5 := by
  intro n9
  induction n9 with
  | zero => intro x1 x2 x3 x4 x5 i0 i1 hm; exact (i_meas0 i1 hm).elim
  | succ n9 ih =>
    intro x1 x2 x3 x4 x5 i0 i1 hm
    rw [wp_Nd_blockOf_L25]
    refine ⟨fun h0 => ?_, fun h1 => ?_⟩
    · exact hK _ _ _ _ _ (by first | assumption | trivial | grind [I_Nm, I_Nd, I_Wd, I_Wd0, I_Pg, bt])
    · refine s_Nd_has (fun r2 u2 hq2 => ?_)
      refine ⟨fun h3 => ?_, fun h4 => ?_⟩
      · exact hK _ _ _ _ _ (by first | assumption | trivial | grind [I_Nm, I_Nd, I_Wd, I_Wd0, I_Pg, bt])
      · refine ⟨(vin (c := 1070) (by first | assumption | trivial | grind [I_Nm, I_Nd, I_Wd, I_Wd0, I_Pg, bt]) (by first | assumption | trivial | grind [I_Nm, I_Nd, I_Wd, I_Wd0, I_Pg, bt]) rfl), ?_⟩
        refine ⟨fun h5 => ?_, fun h6 => ?_⟩
        · refine ⟨fun h7 => ?_, fun h8 => ?_⟩
          · exact hp _ _ (by first | assumption | trivial | grind [I_Nm, I_Nd, I_Wd, I_Wd0, I_Pg, bt])
          · refine ⟨(vin (c := 1070) (by first | assumption | trivial | grind [I_Nm, I_Nd, I_Wd, I_Wd0, I_Pg, bt]) (by first | assumption | trivial | grind [I_Nm, I_Nd, I_Wd, I_Wd0, I_Pg, bt]) rfl), ?_⟩
            exact ih _ _ _ _ _ (by first | assumption | trivial | grind [I_Nm, I_Nd, I_Wd, I_Wd0, I_Pg, bt]) (by first | assumption | trivial | grind [I_Nm, I_Nd, I_Wd, I_Wd0, I_Pg, bt]) (i_meas (by first | assumption | trivial | grind [I_Nm, I_Nd, I_Wd, I_Wd0, I_Pg, bt]) (by first | assumption | trivial | grind [I_Nm, I_Nd, I_Wd, I_Wd0, I_Pg, bt]) hm)
        · refine ⟨(vin (c := 1070) (by first | assumption | trivial | grind [I_Nm, I_Nd, I_Wd, I_Wd0, I_Pg, bt]) (by first | assumption | trivial | grind [I_Nm, I_Nd, I_Wd, I_Wd0, I_Pg, bt]) rfl), ?_⟩
          exact ih _ _ _ _ _ (by first | assumption | trivial | grind [I_Nm, I_Nd, I_Wd, I_Wd0, I_Pg, bt]) (by first | assumption | trivial | grind [I_Nm, I_Nd, I_Wd, I_Wd0, I_Pg, bt]) (i_meas (by first | assumption | trivial | grind [I_Nm, I_Nd, I_Wd, I_Wd0, I_Pg, bt]) (by first | assumption | trivial | grind [I_Nm, I_Nd, I_Wd, I_Wd0, I_Pg, bt]) hm)
theorem s_Nd_blockOf {z_this : T_Nd} {a1 : Int32} {a2 : Int32} {post : Int32 → Unit → Prop} (hp : ∀ r u, True → post r u) : wp_Nd_blockOf z_this a1 a2 post := by
  unfold wp_Nd_blockOf
  refine s_Nd_has (fun r1 u1 hq0 => ?_)
  refine ⟨fun h1 => ?_, fun h2 => ?_⟩
  · refine ⟨5000, l_Nd_blockOf_L25 (fun x1 x2 x3 x4 x5 hv3 => ?_) (fun r u hq => hp r u hq) 5000 _ _ _ _ _ (by first | assumption | trivial | grind [I_Nm, I_Nd, I_Wd, I_Wd0, I_Pg, bt]) (by first | assumption | trivial | grind [I_Nm, I_Nd, I_Wd, I_Wd0, I_Pg, bt]) (by decide)⟩
    exact hp _ _ (by first | assumption | trivial | grind [I_Nm, I_Nd, I_Wd, I_Wd0, I_Pg, bt])
  · refine ⟨(vin (c := 1070) (by first | assumption | trivial | grind [I_Nm, I_Nd, I_Wd, I_Wd0, I_Pg, bt]) (by first | assumption | trivial | grind [I_Nm, I_Nd, I_Wd, I_Wd0, I_Pg, bt]) rfl), ?_⟩
    refine ⟨5000, l_Nd_blockOf_L25 (fun x1 x2 x3 x4 x5 hv3 => ?_) (fun r u hq => hp r u hq) 5000 _ _ _ _ _ (by first | assumption | trivial | grind [I_Nm, I_Nd, I_Wd, I_Wd0, I_Pg, bt]) (by first | assumption | trivial | grind [I_Nm, I_Nd, I_Wd, I_Wd0, I_Pg, bt]) (by decide)⟩
    exact hp _ _ (by first | assumption | trivial | grind [I_Nm, I_Nd, I_Wd, I_Wd0, I_Pg, bt])
theorem s_Kw_rank {a0 : Int32} {post : Int32 → Unit → Prop} (hp : ∀ r u, True → post r u) : wp_Kw_rank a0 post := by
  unfold wp_Kw_rank
  refine ⟨fun h0 => ?_, fun h1 => ?_⟩
  · refine ⟨fun h2 => ?_, fun h3 => ?_⟩
    · exact hp _ _ (by first | assumption | trivial | grind [I_Nm, I_Nd, I_Wd, I_Wd0, I_Pg, bt])
    · refine ⟨fun h4 => ?_, fun h5 => ?_⟩
      · exact hp _ _ (by first | assumption | trivial | grind [I_Nm, I_Nd, I_Wd, I_Wd0, I_Pg, bt])
      · exact hp _ _ (by first | assumption | trivial | grind [I_Nm, I_Nd, I_Wd, I_Wd0, I_Pg, bt])
  · refine ⟨fun h2 => ?_, fun h3 => ?_⟩
    · refine ⟨fun h4 => ?_, fun h5 => ?_⟩
      · exact hp _ _ (by first | assumption | trivial | grind [I_Nm, I_Nd, I_Wd, I_Wd0, I_Pg, bt])
      · refine ⟨fun h6 => ?_, fun h7 => ?_⟩
        · exact hp _ _ (by first | assumption | trivial | grind [I_Nm, I_Nd, I_Wd, I_Wd0, I_Pg, bt])
        · exact hp _ _ (by first | assumption | trivial | grind [I_Nm, I_Nd, I_Wd, I_Wd0, I_Pg, bt])
    · exact hp _ _ (by first | assumption | trivial | grind [I_Nm, I_Nd, I_Wd, I_Wd0, I_Pg, bt])
theorem s_Kw_unranked {a0 : Int32} {post : Int32 → Unit → Prop} (hp : ∀ r u, True → post r u) : wp_Kw_unranked a0 post := by
  unfold wp_Kw_unranked
  refine ⟨fun h0 => ?_, fun h1 => ?_⟩
  · exact hp _ _ (by first | assumption | trivial | grind [I_Nm, I_Nd, I_Wd, I_Wd0, I_Pg, bt])
  · exact hp _ _ (by first | assumption | trivial | grind [I_Nm, I_Nd, I_Wd, I_Wd0, I_Pg, bt])
theorem l_Kw_codeOf_L2 {z_this : T_Kw} {K : Int64 → Int32 → Prop} {post : Int32 → Unit → Prop} (hK : ∀ x1 x3, ((0 : Int32) ≤ x3 ∧ x3 ≤ 26) → K x1 x3) (hp : ∀ r u, True → post r u) : ∀ (n9 : Nat) (x1 : Int64) (x3 : Int32), (0 : Int32) ≤ x3 → x3 ≤ 26 → (26 : Int32).toInt - (x3).toInt < ((n9 : Nat) : Int) → wp_Kw_codeOf_L2 z_this K post n9 x1 x3 := by
  intro n9
  induction n9 with
  | zero => intro x1 x3 i0 i1 hm; exact (i_meas0 i1 hm).elim
  | succ n9 ih =>
    intro x1 x3 i0 i1 hm
    rw [wp_Kw_codeOf_L2]
    refine ⟨fun h0 => ?_, fun h1 => ?_⟩
    · exact hK _ _ (by first | assumption | trivial | grind [I_Nm, I_Nd, I_Wd, I_Wd0, I_Pg, bt])
    · refine ⟨(vin (c := 26) (by first | assumption | trivial | grind [I_Nm, I_Nd, I_Wd, I_Wd0, I_Pg, bt]) (by first | assumption | trivial | grind [I_Nm, I_Nd, I_Wd, I_Wd0, I_Pg, bt]) rfl), ?_⟩
      refine ⟨fun h2 => ?_, fun h3 => ?_⟩
      · exact hp _ _ (by first | assumption | trivial | grind [I_Nm, I_Nd, I_Wd, I_Wd0, I_Pg, bt])
      · exact ih _ _ (by first | assumption | trivial | grind [I_Nm, I_Nd, I_Wd, I_Wd0, I_Pg, bt]) (by first | assumption | trivial | grind [I_Nm, I_Nd, I_Wd, I_Wd0, I_Pg, bt]) (i_meas (by first | assumption | trivial | grind [I_Nm, I_Nd, I_Wd, I_Wd0, I_Pg, bt]) (by first | assumption | trivial | grind [I_Nm, I_Nd, I_Wd, I_Wd0, I_Pg, bt]) hm)
theorem s_Kw_codeOf {z_this : T_Kw} {a1 : Int64} {post : Int32 → Unit → Prop} (hp : ∀ r u, True → post r u) : wp_Kw_codeOf z_this a1 post := by
  unfold wp_Kw_codeOf
  refine ⟨5000, l_Kw_codeOf_L2 (fun x1 x3 hv0 => ?_) (fun r u hq => hp r u hq) 5000 _ _ (by first | assumption | trivial | grind [I_Nm, I_Nd, I_Wd, I_Wd0, I_Pg, bt]) (by first | assumption | trivial | grind [I_Nm, I_Nd, I_Wd, I_Wd0, I_Pg, bt]) (by decide)⟩
  exact hp _ _ (by first | assumption | trivial | grind [I_Nm, I_Nd, I_Wd, I_Wd0, I_Pg, bt])
theorem s_Kw_lettersOf {z_this : T_Kw} {a1 : Int32} {post : Int64 → Unit → Prop} (hp : ∀ r u, True → post r u) : wp_Kw_lettersOf z_this a1 post := by
  unfold wp_Kw_lettersOf
  refine ⟨fun h0 => ?_, fun h1 => ?_⟩
  · exact hp _ _ (by first | assumption | trivial | grind [I_Nm, I_Nd, I_Wd, I_Wd0, I_Pg, bt])
  · refine ⟨fun h2 => ?_, fun h3 => ?_⟩
    · exact hp _ _ (by first | assumption | trivial | grind [I_Nm, I_Nd, I_Wd, I_Wd0, I_Pg, bt])
    · refine ⟨(vin (c := 26) (by first | assumption | trivial | grind [I_Nm, I_Nd, I_Wd, I_Wd0, I_Pg, bt]) (by first | assumption | trivial | grind [I_Nm, I_Nd, I_Wd, I_Wd0, I_Pg, bt]) rfl), ?_⟩
      exact hp _ _ (by first | assumption | trivial | grind [I_Nm, I_Nd, I_Wd, I_Wd0, I_Pg, bt])
theorem s_Wd_append {z_this : T_Wd} {a1 : Int32} {post : Int32 → T_Wd → Prop} (p0 : I_Wd z_this) (hp : ∀ r u, (I_Wd u ∧ ((((1 : Int32) ≤ a1 ∧ a1 ≤ 127 ∧ z_this.2.2.2.2.2.1 < 4000) ∧ r = 1 ∧ u.2.2.2.2.2.1 = z_this.2.2.2.2.2.1 + 1) ∨ (¬ ((1 : Int32) ≤ a1 ∧ a1 ≤ 127 ∧ z_this.2.2.2.2.2.1 < 4000) ∧ r = 0 ∧ u.2.2.2.2.2.1 = z_this.2.2.2.2.2.1))) → post r u) : wp_Wd_append z_this a1 post := by
  unfold wp_Wd_append
  refine ⟨fun h0 => ?_, fun h1 => ?_⟩
  · exact hp _ _ (by first | assumption | trivial | grind [I_Nm, I_Nd, I_Wd, I_Wd0, I_Pg, bt])
  · refine ⟨fun h2 => ?_, fun h3 => ?_⟩
    · exact hp _ _ (by first | assumption | trivial | grind [I_Nm, I_Nd, I_Wd, I_Wd0, I_Pg, bt])
    · refine ⟨fun h4 => ?_, fun h5 => ?_⟩
      · refine ⟨(vin (c := 4000) (by first | assumption | trivial | grind [I_Nm, I_Nd, I_Wd, I_Wd0, I_Pg, bt]) (by first | assumption | trivial | grind [I_Nm, I_Nd, I_Wd, I_Wd0, I_Pg, bt]) rfl), ?_⟩
        exact hp _ _ (by first | assumption | trivial | grind [I_Nm, I_Nd, I_Wd, I_Wd0, I_Pg, bt])
      · exact hp _ _ (by first | assumption | trivial | grind [I_Nm, I_Nd, I_Wd, I_Wd0, I_Pg, bt])
theorem s_Wd_forget {z_this : T_Wd} {post : Unit → T_Wd → Prop} (p0 : I_Wd z_this) (hp : ∀ r u, I_Wd0 u → post r u) : wp_Wd_forget z_this post := by
  unfold wp_Wd_forget
  exact hp _ _ (by first | assumption | trivial | grind [I_Nm, I_Nd, I_Wd, I_Wd0, I_Pg, bt])
theorem s_Wd_byteAt {z_this : T_Wd} {a1 : Int32} {post : Int32 → Unit → Prop} (hp : ∀ r u, True → post r u) : wp_Wd_byteAt z_this a1 post := by
  unfold wp_Wd_byteAt
  refine ⟨fun h0 => ?_, fun h1 => ?_⟩
  · exact hp _ _ (by first | assumption | trivial | grind [I_Nm, I_Nd, I_Wd, I_Wd0, I_Pg, bt])
  · refine ⟨fun h2 => ?_, fun h3 => ?_⟩
    · exact hp _ _ (by first | assumption | trivial | grind [I_Nm, I_Nd, I_Wd, I_Wd0, I_Pg, bt])
    · refine ⟨fun h4 => ?_, fun h5 => ?_⟩
      · exact hp _ _ (by first | assumption | trivial | grind [I_Nm, I_Nd, I_Wd, I_Wd0, I_Pg, bt])
      · refine ⟨(vin (c := 4000) (by first | assumption | trivial | grind [I_Nm, I_Nd, I_Wd, I_Wd0, I_Pg, bt]) (by first | assumption | trivial | grind [I_Nm, I_Nd, I_Wd, I_Wd0, I_Pg, bt]) rfl), ?_⟩
        exact hp _ _ (by first | assumption | trivial | grind [I_Nm, I_Nd, I_Wd, I_Wd0, I_Pg, bt])
theorem s_Wd_isBlank {a0 : Int32} {post : Int32 → Unit → Prop} (hp : ∀ r u, (r = 0 ∨ r = 1) → post r u) : wp_Wd_isBlank a0 post := by
  unfold wp_Wd_isBlank
  refine ⟨fun h0 => ?_, fun h1 => ?_⟩
  · exact hp _ _ (by first | assumption | trivial | grind [I_Nm, I_Nd, I_Wd, I_Wd0, I_Pg, bt])
  · refine ⟨fun h2 => ?_, fun h3 => ?_⟩
    · exact hp _ _ (by first | assumption | trivial | grind [I_Nm, I_Nd, I_Wd, I_Wd0, I_Pg, bt])
    · exact hp _ _ (by first | assumption | trivial | grind [I_Nm, I_Nd, I_Wd, I_Wd0, I_Pg, bt])
theorem l_Wd_skipBlanks_L2 {K : T_Wd → Int32 → Prop} {post : Unit → T_Wd → Prop} (hK : ∀ z_this x1, ((0 : Int32) ≤ x1 ∧ x1 ≤ 4000 ∧ I_Wd z_this) → K z_this x1) (hp : ∀ r u, I_Wd u → post r u) : ∀ (n9 : Nat) (z_this : T_Wd) (x1 : Int32), (0 : Int32) ≤ x1 → x1 ≤ 4000 → I_Wd z_this → (4000 : Int32).toInt - (x1).toInt < ((n9 : Nat) : Int) → wp_Wd_skipBlanks_L2 K post n9 z_this x1 := by
  intro n9
  induction n9 with
  | zero => intro z_this x1 i0 i1 i2 hm; exact (i_meas0 i1 hm).elim
  | succ n9 ih =>
    intro z_this x1 i0 i1 i2 hm
    rw [wp_Wd_skipBlanks_L2]
    refine ⟨fun h0 => ?_, fun h1 => ?_⟩
    · exact hK _ _ (by first | assumption | trivial | grind [I_Nm, I_Nd, I_Wd, I_Wd0, I_Pg, bt])
    · refine s_Wd_byteAt (fun r1 u1 hq2 => ?_)
      refine s_Wd_isBlank (fun r2 u2 hq3 => ?_)
      refine ⟨fun h4 => ?_, fun h5 => ?_⟩
      · exact hK _ _ (by first | assumption | trivial | grind [I_Nm, I_Nd, I_Wd, I_Wd0, I_Pg, bt])
      · refine s_Wd_byteAt (fun r3 u3 hq6 => ?_)
        refine ⟨fun h7 => ?_, fun h8 => ?_⟩
        · exact ih _ _ (by first | assumption | trivial | grind [I_Nm, I_Nd, I_Wd, I_Wd0, I_Pg, bt]) (by first | assumption | trivial | grind [I_Nm, I_Nd, I_Wd, I_Wd0, I_Pg, bt]) (by first | assumption | trivial | grind [I_Nm, I_Nd, I_Wd, I_Wd0, I_Pg, bt]) (i_meas (by first | assumption | trivial | grind [I_Nm, I_Nd, I_Wd, I_Wd0, I_Pg, bt]) (by first | assumption | trivial | grind [I_Nm, I_Nd, I_Wd, I_Wd0, I_Pg, bt]) hm)
        · exact ih _ _ (by first | assumption | trivial | grind [I_Nm, I_Nd, I_Wd, I_Wd0, I_Pg, bt]) (by first | assumption | trivial | grind [I_Nm, I_Nd, I_Wd, I_Wd0, I_Pg, bt]) (by first | assumption | trivial | grind [I_Nm, I_Nd, I_Wd, I_Wd0, I_Pg, bt]) (i_meas (by first | assumption | trivial | grind [I_Nm, I_Nd, I_Wd, I_Wd0, I_Pg, bt]) (by first | assumption | trivial | grind [I_Nm, I_Nd, I_Wd, I_Wd0, I_Pg, bt]) hm)
theorem s_Wd_skipBlanks {z_this : T_Wd} {post : Unit → T_Wd → Prop} (p0 : I_Wd z_this) (hp : ∀ r u, I_Wd u → post r u) : wp_Wd_skipBlanks z_this post := by
  unfold wp_Wd_skipBlanks
  refine ⟨5000, l_Wd_skipBlanks_L2 (fun z_this x1 hv0 => ?_) (fun r u hq => hp r u hq) 5000 _ _ (by first | assumption | trivial | grind [I_Nm, I_Nd, I_Wd, I_Wd0, I_Pg, bt]) (by first | assumption | trivial | grind [I_Nm, I_Nd, I_Wd, I_Wd0, I_Pg, bt]) (by first | assumption | trivial | grind [I_Nm, I_Nd, I_Wd, I_Wd0, I_Pg, bt]) (by decide)⟩
  exact hp _ _ (by first | assumption | trivial | grind [I_Nm, I_Nd, I_Wd, I_Wd0, I_Pg, bt])
theorem s_Wd_isDigit {a0 : Int32} {post : Int32 → Unit → Prop} (hp : ∀ r u, (r = 0 ∨ r = 1) → post r u) : wp_Wd_isDigit a0 post := by
  unfold wp_Wd_isDigit
  refine ⟨fun h0 => ?_, fun h1 => ?_⟩
  · exact hp _ _ (by first | assumption | trivial | grind [I_Nm, I_Nd, I_Wd, I_Wd0, I_Pg, bt])
  · refine ⟨fun h2 => ?_, fun h3 => ?_⟩
    · exact hp _ _ (by first | assumption | trivial | grind [I_Nm, I_Nd, I_Wd, I_Wd0, I_Pg, bt])
    · exact hp _ _ (by first | assumption | trivial | grind [I_Nm, I_Nd, I_Wd, I_Wd0, I_Pg, bt])
theorem s_Wd_keep {z_this : T_Wd} {a1 : Int32} {a2 : Int32} {a3 : Int64} {post : Unit → T_Wd → Prop} (p0 : I_Wd z_this) (hp : ∀ r u, I_Wd u → post r u) : wp_Wd_keep z_this a1 a2 a3 post := by
  unfold wp_Wd_keep
  refine ⟨fun h0 => ?_, fun h1 => ?_⟩
  · exact hp _ _ (by first | assumption | trivial | grind [I_Nm, I_Nd, I_Wd, I_Wd0, I_Pg, bt])
  · refine ⟨(vin (c := 4001) (by first | assumption | trivial | grind [I_Nm, I_Nd, I_Wd, I_Wd0, I_Pg, bt]) (by first | assumption | trivial | grind [I_Nm, I_Nd, I_Wd, I_Wd0, I_Pg, bt]) rfl), ?_⟩
    refine ⟨(vin (c := 4001) (by first | assumption | trivial | grind [I_Nm, I_Nd, I_Wd, I_Wd0, I_Pg, bt]) (by first | assumption | trivial | grind [I_Nm, I_Nd, I_Wd, I_Wd0, I_Pg, bt]) rfl), ?_⟩
    refine ⟨(vin (c := 4001) (by first | assumption | trivial | grind [I_Nm, I_Nd, I_Wd, I_Wd0, I_Pg, bt]) (by first | assumption | trivial | grind [I_Nm, I_Nd, I_Wd, I_Wd0, I_Pg, bt]) rfl), ?_⟩
    refine ⟨(vin (c := 4001) (by first | assumption | trivial | grind [I_Nm, I_Nd, I_Wd, I_Wd0, I_Pg, bt]) (by first | assumption | trivial | grind [I_Nm, I_Nd, I_Wd, I_Wd0, I_Pg, bt]) rfl), ?_⟩
    exact hp _ _ (by first | assumption | trivial | grind [I_Nm, I_Nd, I_Wd, I_Wd0, I_Pg, bt])
theorem s_Wd_keepJoined {z_this : T_Wd} {a1 : Int32} {a2 : Int32} {a3 : Int64} {post : Int32 → T_Wd → Prop} (p0 : I_Wd z_this) (hp : ∀ r u, ((r = 0 ∨ r = 1) ∧ I_Wd u) → post r u) : wp_Wd_keepJoined z_this a1 a2 a3 post := by
  unfold wp_Wd_keepJoined
  refine s_Wd_byteAt (fun r1 u1 hq0 => ?_)
  refine ⟨fun h1 => ?_, fun h2 => ?_⟩
  · refine s_Wd_keep (by first | assumption | trivial | grind [I_Nm, I_Nd, I_Wd, I_Wd0, I_Pg, bt]) (fun r2 u2 hq3 => ?_)
    exact hp _ _ (by first | assumption | trivial | grind [I_Nm, I_Nd, I_Wd, I_Wd0, I_Pg, bt])
  · refine s_Kw_rank (fun r3 u3 hq3 => ?_)
    refine ⟨fun h4 => ?_, fun h5 => ?_⟩
    · refine s_Wd_keep (by first | assumption | trivial | grind [I_Nm, I_Nd, I_Wd, I_Wd0, I_Pg, bt]) (fun r4 u4 hq6 => ?_)
      exact hp _ _ (by first | assumption | trivial | grind [I_Nm, I_Nd, I_Wd, I_Wd0, I_Pg, bt])
    · refine s_Wd_keep (by first | assumption | trivial | grind [I_Nm, I_Nd, I_Wd, I_Wd0, I_Pg, bt]) (fun r5 u5 hq6 => ?_)
      exact hp _ _ (by first | assumption | trivial | grind [I_Nm, I_Nd, I_Wd, I_Wd0, I_Pg, bt])
theorem l_Wd_splitNumber_L10 {K : T_Wd → Int32 → Int64 → Int32 → Prop} {post : Int32 → T_Wd → Prop} (hK : ∀ z_this x1 x2 x4, ((0 : Int32) ≤ x4 ∧ x4 ≤ 9 ∧ I_Wd z_this) → K z_this x1 x2 x4) (hp : ∀ r u, ((r = 0 ∨ r = 1) ∧ I_Wd u) → post r u) : ∀ (n9 : Nat) (z_this : T_Wd) (x1 : Int32) (x2 : Int64) (x4 : Int32), (0 : Int32) ≤ x4 → x4 ≤ 9 → I_Wd z_this → (9 : Int32).toInt - (x4).toInt < ((n9 : Nat) : Int) → wp_Wd_splitNumber_L10 K post n9 z_this x1 x2 x4 := by
  intro n9
  induction n9 with
  | zero => intro z_this x1 x2 x4 i0 i1 i2 hm; exact (i_meas0 i1 hm).elim
  | succ n9 ih =>
    intro z_this x1 x2 x4 i0 i1 i2 hm
    rw [wp_Wd_splitNumber_L10]
    refine ⟨fun h0 => ?_, fun h1 => ?_⟩
    · exact hK _ _ _ _ (by first | assumption | trivial | grind [I_Nm, I_Nd, I_Wd, I_Wd0, I_Pg, bt])
    · refine s_Wd_byteAt (fun r1 u1 hq2 => ?_)
      refine s_Wd_isDigit (fun r2 u2 hq3 => ?_)
      refine ⟨fun h4 => ?_, fun h5 => ?_⟩
      · exact hK _ _ _ _ (by first | assumption | trivial | grind [I_Nm, I_Nd, I_Wd, I_Wd0, I_Pg, bt])
      · refine s_Wd_byteAt (fun r3 u3 hq6 => ?_)
        exact ih _ _ _ _ (by first | assumption | trivial | grind [I_Nm, I_Nd, I_Wd, I_Wd0, I_Pg, bt]) (by first | assumption | trivial | grind [I_Nm, I_Nd, I_Wd, I_Wd0, I_Pg, bt]) (by first | assumption | trivial | grind [I_Nm, I_Nd, I_Wd, I_Wd0, I_Pg, bt]) (i_meas (by first | assumption | trivial | grind [I_Nm, I_Nd, I_Wd, I_Wd0, I_Pg, bt]) (by first | assumption | trivial | grind [I_Nm, I_Nd, I_Wd, I_Wd0, I_Pg, bt]) hm)
theorem l_Wd_splitNumber_L125 {K : T_Wd → Int32 → Int64 → Int32 → Int32 → Int32 → Prop} {post : Int32 → T_Wd → Prop} (hK : ∀ z_this x1 x2 x4 x5 x6, ((0 : Int32) ≤ x6 ∧ x6 ≤ 3 ∧ I_Wd z_this) → K z_this x1 x2 x4 x5 x6) (hp : ∀ r u, ((r = 0 ∨ r = 1) ∧ I_Wd u) → post r u) : ∀ (n9 : Nat) (z_this : T_Wd) (x1 : Int32) (x2 : Int64) (x4 : Int32) (x5 : Int32) (x6 : Int32), (0 : Int32) ≤ x6 → x6 ≤ 3 → I_Wd z_this → (3 : Int32).toInt - (x6).toInt < ((n9 : Nat) : Int) → wp_Wd_splitNumber_L125 K post n9 z_this x1 x2 x4 x5 x6 := by
  intro n9
  induction n9 with
  | zero => intro z_this x1 x2 x4 x5 x6 i0 i1 i2 hm; exact (i_meas0 i1 hm).elim
  | succ n9 ih =>
    intro z_this x1 x2 x4 x5 x6 i0 i1 i2 hm
    rw [wp_Wd_splitNumber_L125]
    refine ⟨fun h0 => ?_, fun h1 => ?_⟩
    · exact hK _ _ _ _ _ _ (by first | assumption | trivial | grind [I_Nm, I_Nd, I_Wd, I_Wd0, I_Pg, bt])
    · refine ⟨fun h2 => ?_, fun h3 => ?_⟩
      · refine ⟨fun h4 => ?_, fun h5 => ?_⟩
        · refine ⟨fun h6 => ?_, fun h7 => ?_⟩
          · exact ih _ _ _ _ _ _ (by first | assumption | trivial | grind [I_Nm, I_Nd, I_Wd, I_Wd0, I_Pg, bt]) (by first | assumption | trivial | grind [I_Nm, I_Nd, I_Wd, I_Wd0, I_Pg, bt]) (by first | assumption | trivial | grind [I_Nm, I_Nd, I_Wd, I_Wd0, I_Pg, bt]) (i_meas (by first | assumption | trivial | grind [I_Nm, I_Nd, I_Wd, I_Wd0, I_Pg, bt]) (by first | assumption | trivial | grind [I_Nm, I_Nd, I_Wd, I_Wd0, I_Pg, bt]) hm)
          · exact ih _ _ _ _ _ _ (by first | assumption | trivial | grind [I_Nm, I_Nd, I_Wd, I_Wd0, I_Pg, bt]) (by first | assumption | trivial | grind [I_Nm, I_Nd, I_Wd, I_Wd0, I_Pg, bt]) (by first | assumption | trivial | grind [I_Nm, I_Nd, I_Wd, I_Wd0, I_Pg, bt]) (i_meas (by first | assumption | trivial | grind [I_Nm, I_Nd, I_Wd, I_Wd0, I_Pg, bt]) (by first | assumption | trivial | grind [I_Nm, I_Nd, I_Wd, I_Wd0, I_Pg, bt]) hm)
        · refine s_Wd_byteAt (fun r5 u5 hq6 => ?_)
          refine ⟨fun h7 => ?_, fun h8 => ?_⟩
          · exact ih _ _ _ _ _ _ (by first | assumption | trivial | grind [I_Nm, I_Nd, I_Wd, I_Wd0, I_Pg, bt]) (by first | assumption | trivial | grind [I_Nm, I_Nd, I_Wd, I_Wd0, I_Pg, bt]) (by first | assumption | trivial | grind [I_Nm, I_Nd, I_Wd, I_Wd0, I_Pg, bt]) (i_meas (by first | assumption | trivial | grind [I_Nm, I_Nd, I_Wd, I_Wd0, I_Pg, bt]) (by first | assumption | trivial | grind [I_Nm, I_Nd, I_Wd, I_Wd0, I_Pg, bt]) hm)
          · exact ih _ _ _ _ _ _ (by first | assumption | trivial | grind [I_Nm, I_Nd, I_Wd, I_Wd0, I_Pg, bt]) (by first | assumption | trivial | grind [I_Nm, I_Nd, I_Wd, I_Wd0, I_Pg, bt]) (by first | assumption | trivial | grind [I_Nm, I_Nd, I_Wd, I_Wd0, I_Pg, bt]) (i_meas (by first | assumption | trivial | grind [I_Nm, I_Nd, I_Wd, I_Wd0, I_Pg, bt]) (by first | assumption | trivial | grind [I_Nm, I_Nd, I_Wd, I_Wd0, I_Pg, bt]) hm)
      · refine s_Wd_byteAt (fun r6 u6 hq4 => ?_)
        refine s_Wd_isDigit (fun r7 u7 hq5 => ?_)
        refine ⟨fun h6 => ?_, fun h7 => ?_⟩
        · refine ⟨fun h8 => ?_, fun h9 => ?_⟩
          · refine ⟨fun h10 => ?_, fun h11 => ?_⟩
            · exact ih _ _ _ _ _ _ (by first | assumption | trivial | grind [I_Nm, I_Nd, I_Wd, I_Wd0, I_Pg, bt]) (by first | assumption | trivial | grind [I_Nm, I_Nd, I_Wd, I_Wd0, I_Pg, bt]) (by first | assumption | trivial | grind [I_Nm, I_Nd, I_Wd, I_Wd0, I_Pg, bt]) (i_meas (by first | assumption | trivial | grind [I_Nm, I_Nd, I_Wd, I_Wd0, I_Pg, bt]) (by first | assumption | trivial | grind [I_Nm, I_Nd, I_Wd, I_Wd0, I_Pg, bt]) hm)
            · exact ih _ _ _ _ _ _ (by first | assumption | trivial | grind [I_Nm, I_Nd, I_Wd, I_Wd0, I_Pg, bt]) (by first | assumption | trivial | grind [I_Nm, I_Nd, I_Wd, I_Wd0, I_Pg, bt]) (by first | assumption | trivial | grind [I_Nm, I_Nd, I_Wd, I_Wd0, I_Pg, bt]) (i_meas (by first | assumption | trivial | grind [I_Nm, I_Nd, I_Wd, I_Wd0, I_Pg, bt]) (by first | assumption | trivial | grind [I_Nm, I_Nd, I_Wd, I_Wd0, I_Pg, bt]) hm)
          · refine s_Wd_byteAt (fun r8 u8 hq10 => ?_)
            refine ⟨fun h11 => ?_, fun h12 => ?_⟩
            · exact ih _ _ _ _ _ _ (by first | assumption | trivial | grind [I_Nm, I_Nd, I_Wd, I_Wd0, I_Pg, bt]) (by first | assumption | trivial | grind [I_Nm, I_Nd, I_Wd, I_Wd0, I_Pg, bt]) (by first | assumption | trivial | grind [I_Nm, I_Nd, I_Wd, I_Wd0, I_Pg, bt]) (i_meas (by first | assumption | trivial | grind [I_Nm, I_Nd, I_Wd, I_Wd0, I_Pg, bt]) (by first | assumption | trivial | grind [I_Nm, I_Nd, I_Wd, I_Wd0, I_Pg, bt]) hm)
            · exact ih _ _ _ _ _ _ (by first | assumption | trivial | grind [I_Nm, I_Nd, I_Wd, I_Wd0, I_Pg, bt]) (by first | assumption | trivial | grind [I_Nm, I_Nd, I_Wd, I_Wd0, I_Pg, bt]) (by first | assumption | trivial | grind [I_Nm, I_Nd, I_Wd, I_Wd0, I_Pg, bt]) (i_meas (by first | assumption | trivial | grind [I_Nm, I_Nd, I_Wd, I_Wd0, I_Pg, bt]) (by first | assumption | trivial | grind [I_Nm, I_Nd, I_Wd, I_Wd0, I_Pg, bt]) hm)
        · refine ⟨fun h8 => ?_, fun h9 => ?_⟩
          · refine ⟨fun h10 => ?_, fun h11 => ?_⟩
            · exact ih _ _ _ _ _ _ (by first | assumption | trivial | grind [I_Nm, I_Nd, I_Wd, I_Wd0, I_Pg, bt]) (by first | assumption | trivial | grind [I_Nm, I_Nd, I_Wd, I_Wd0, I_Pg, bt]) (by first | assumption | trivial | grind [I_Nm, I_Nd, I_Wd, I_Wd0, I_Pg, bt]) (i_meas (by first | assumption | trivial | grind [I_Nm, I_Nd, I_Wd, I_Wd0, I_Pg, bt]) (by first | assumption | trivial | grind [I_Nm, I_Nd, I_Wd, I_Wd0, I_Pg, bt]) hm)
            · exact ih _ _ _ _ _ _ (by first | assumption | trivial | grind [I_Nm, I_Nd, I_Wd, I_Wd0, I_Pg, bt]) (by first | assumption | trivial | grind [I_Nm, I_Nd, I_Wd, I_Wd0, I_Pg, bt]) (by first | assumption | trivial | grind [I_Nm, I_Nd, I_Wd, I_Wd0, I_Pg, bt]) (i_meas (by first | assumption | trivial | grind [I_Nm, I_Nd, I_Wd, I_Wd0, I_Pg, bt]) (by first | assumption | trivial | grind [I_Nm, I_Nd, I_Wd, I_Wd0, I_Pg, bt]) hm)
          · refine s_Wd_byteAt (fun r9 u9 hq10 => ?_)
            refine ⟨fun h11 => ?_, fun h12 => ?_⟩
            · exact ih _ _ _ _ _ _ (by first | assumption | trivial | grind [I_Nm, I_Nd, I_Wd, I_Wd0, I_Pg, bt]) (by first | assumption | trivial | grind [I_Nm, I_Nd, I_Wd, I_Wd0, I_Pg, bt]) (by first | assumption | trivial | grind [I_Nm, I_Nd, I_Wd, I_Wd0, I_Pg, bt]) (i_meas (by first | assumption | trivial | grind [I_Nm, I_Nd, I_Wd, I_Wd0, I_Pg, bt]) (by first | assumption | trivial | grind [I_Nm, I_Nd, I_Wd, I_Wd0, I_Pg, bt]) hm)
            · exact ih _ _ _ _ _ _ (by first | assumption | trivial | grind [I_Nm, I_Nd, I_Wd, I_Wd0, I_Pg, bt]) (by first | assumption | trivial | grind [I_Nm, I_Nd, I_Wd, I_Wd0, I_Pg, bt]) (by first | assumption | trivial | grind [I_Nm, I_Nd, I_Wd, I_Wd0, I_Pg, bt]) (i_meas (by first | assumption | trivial | grind [I_Nm, I_Nd, I_Wd, I_Wd0, I_Pg, bt]) (by first | assumption | trivial | grind [I_Nm, I_Nd, I_Wd, I_Wd0, I_Pg, bt]) hm)
theorem s_Wd_splitNumber {z_this : T_Wd} {post : Int32 → T_Wd → Prop} (p0 : I_Wd z_this) (hp : ∀ r u, ((r = 0 ∨ r = 1) ∧ I_Wd u) → post r u) : wp_Wd_splitNumber z_this post := by
  unfold wp_Wd_splitNumber
  refine ⟨5000, l_Wd_splitNumber_L10 (fun z_this x1 x2 x4 hv0 => ?_) (fun r u hq => hp r u hq) 5000 _ _ _ _ (by first | assumption | trivial | grind [I_Nm, I_Nd, I_Wd, I_Wd0, I_Pg, bt]) (by first | assumption | trivial | grind [I_Nm, I_Nd, I_Wd, I_Wd0, I_Pg, bt]) (by first | assumption | trivial | grind [I_Nm, I_Nd, I_Wd, I_Wd0, I_Pg, bt]) (by decide)⟩
  refine s_Wd_byteAt (fun r4 u4 hq1 => ?_)
  refine ⟨fun h2 => ?_, fun h3 => ?_⟩
  · refine s_Wd_byteAt (fun r14 u14 hq4 => ?_)
    refine s_Wd_isDigit (fun r15 u15 hq5 => ?_)
    refine ⟨fun h6 => ?_, fun h7 => ?_⟩
    · refine ⟨fun h8 => ?_, fun h9 => ?_⟩
      · refine ⟨5000, l_Wd_splitNumber_L125 (fun z_this x1 x2 x4 x5 x6 hv10 => ?_) (fun r u hq => hp r u hq) 5000 _ _ _ _ _ _ (by first | assumption | trivial | grind [I_Nm, I_Nd, I_Wd, I_Wd0, I_Pg, bt]) (by first | assumption | trivial | grind [I_Nm, I_Nd, I_Wd, I_Wd0, I_Pg, bt]) (by first | assumption | trivial | grind [I_Nm, I_Nd, I_Wd, I_Wd0, I_Pg, bt]) (by decide)⟩
        refine ⟨fun h11 => ?_, fun h12 => ?_⟩
        · refine s_Wd_keepJoined (by first | assumption | trivial | grind [I_Nm, I_Nd, I_Wd, I_Wd0, I_Pg, bt]) (fun r16 u16 hq13 => ?_)
          refine ⟨(nar01 (by first | assumption | trivial | grind [I_Nm, I_Nd, I_Wd, I_Wd0, I_Pg, bt])), ?_⟩
          exact hp _ _ (by first | assumption | trivial | grind [I_Nm, I_Nd, I_Wd, I_Wd0, I_Pg, bt])
        · refine s_Wd_keepJoined (by first | assumption | trivial | grind [I_Nm, I_Nd, I_Wd, I_Wd0, I_Pg, bt]) (fun r17 u17 hq13 => ?_)
          refine ⟨(nar01 (by first | assumption | trivial | grind [I_Nm, I_Nd, I_Wd, I_Wd0, I_Pg, bt])), ?_⟩
          exact hp _ _ (by first | assumption | trivial | grind [I_Nm, I_Nd, I_Wd, I_Wd0, I_Pg, bt])
      · refine ⟨5000, l_Wd_splitNumber_L125 (fun z_this x1 x2 x4 x5 x6 hv10 => ?_) (fun r u hq => hp r u hq) 5000 _ _ _ _ _ _ (by first | assumption | trivial | grind [I_Nm, I_Nd, I_Wd, I_Wd0, I_Pg, bt]) (by first | assumption | trivial | grind [I_Nm, I_Nd, I_Wd, I_Wd0, I_Pg, bt]) (by first | assumption | trivial | grind [I_Nm, I_Nd, I_Wd, I_Wd0, I_Pg, bt]) (by decide)⟩
        refine ⟨fun h11 => ?_, fun h12 => ?_⟩
        · refine s_Wd_keepJoined (by first | assumption | trivial | grind [I_Nm, I_Nd, I_Wd, I_Wd0, I_Pg, bt]) (fun r18 u18 hq13 => ?_)
          refine ⟨(nar01 (by first | assumption | trivial | grind [I_Nm, I_Nd, I_Wd, I_Wd0, I_Pg, bt])), ?_⟩
          exact hp _ _ (by first | assumption | trivial | grind [I_Nm, I_Nd, I_Wd, I_Wd0, I_Pg, bt])
        · refine s_Wd_keepJoined (by first | assumption | trivial | grind [I_Nm, I_Nd, I_Wd, I_Wd0, I_Pg, bt]) (fun r19 u19 hq13 => ?_)
          refine ⟨(nar01 (by first | assumption | trivial | grind [I_Nm, I_Nd, I_Wd, I_Wd0, I_Pg, bt])), ?_⟩
          exact hp _ _ (by first | assumption | trivial | grind [I_Nm, I_Nd, I_Wd, I_Wd0, I_Pg, bt])
    · refine ⟨fun h8 => ?_, fun h9 => ?_⟩
      · refine ⟨5000, l_Wd_splitNumber_L125 (fun z_this x1 x2 x4 x5 x6 hv10 => ?_) (fun r u hq => hp r u hq) 5000 _ _ _ _ _ _ (by first | assumption | trivial | grind [I_Nm, I_Nd, I_Wd, I_Wd0, I_Pg, bt]) (by first | assumption | trivial | grind [I_Nm, I_Nd, I_Wd, I_Wd0, I_Pg, bt]) (by first | assumption | trivial | grind [I_Nm, I_Nd, I_Wd, I_Wd0, I_Pg, bt]) (by decide)⟩
        refine ⟨fun h11 => ?_, fun h12 => ?_⟩
        · refine s_Wd_keepJoined (by first | assumption | trivial | grind [I_Nm, I_Nd, I_Wd, I_Wd0, I_Pg, bt]) (fun r20 u20 hq13 => ?_)
          refine ⟨(nar01 (by first | assumption | trivial | grind [I_Nm, I_Nd, I_Wd, I_Wd0, I_Pg, bt])), ?_⟩
          exact hp _ _ (by first | assumption | trivial | grind [I_Nm, I_Nd, I_Wd, I_Wd0, I_Pg, bt])
        · refine s_Wd_keepJoined (by first | assumption | trivial | grind [I_Nm, I_Nd, I_Wd, I_Wd0, I_Pg, bt]) (fun r21 u21 hq13 => ?_)
          refine ⟨(nar01 (by first | assumption | trivial | grind [I_Nm, I_Nd, I_Wd, I_Wd0, I_Pg, bt])), ?_⟩
          exact hp _ _ (by first | assumption | trivial | grind [I_Nm, I_Nd, I_Wd, I_Wd0, I_Pg, bt])
      · refine ⟨5000, l_Wd_splitNumber_L125 (fun z_this x1 x2 x4 x5 x6 hv10 => ?_) (fun r u hq => hp r u hq) 5000 _ _ _ _ _ _ (by first | assumption | trivial | grind [I_Nm, I_Nd, I_Wd, I_Wd0, I_Pg, bt]) (by first | assumption | trivial | grind [I_Nm, I_Nd, I_Wd, I_Wd0, I_Pg, bt]) (by first | assumption | trivial | grind [I_Nm, I_Nd, I_Wd, I_Wd0, I_Pg, bt]) (by decide)⟩
        refine ⟨fun h11 => ?_, fun h12 => ?_⟩
        · refine s_Wd_keepJoined (by first | assumption | trivial | grind [I_Nm, I_Nd, I_Wd, I_Wd0, I_Pg, bt]) (fun r22 u22 hq13 => ?_)
          refine ⟨(nar01 (by first | assumption | trivial | grind [I_Nm, I_Nd, I_Wd, I_Wd0, I_Pg, bt])), ?_⟩
          exact hp _ _ (by first | assumption | trivial | grind [I_Nm, I_Nd, I_Wd, I_Wd0, I_Pg, bt])
        · refine s_Wd_keepJoined (by first | assumption | trivial | grind [I_Nm, I_Nd, I_Wd, I_Wd0, I_Pg, bt]) (fun r23 u23 hq13 => ?_)
          refine ⟨(nar01 (by first | assumption | trivial | grind [I_Nm, I_Nd, I_Wd, I_Wd0, I_Pg, bt])), ?_⟩
          exact hp _ _ (by first | assumption | trivial | grind [I_Nm, I_Nd, I_Wd, I_Wd0, I_Pg, bt])
  · refine ⟨fun h4 => ?_, fun h5 => ?_⟩
    · refine ⟨5000, l_Wd_splitNumber_L125 (fun z_this x1 x2 x4 x5 x6 hv6 => ?_) (fun r u hq => hp r u hq) 5000 _ _ _ _ _ _ (by first | assumption | trivial | grind [I_Nm, I_Nd, I_Wd, I_Wd0, I_Pg, bt]) (by first | assumption | trivial | grind [I_Nm, I_Nd, I_Wd, I_Wd0, I_Pg, bt]) (by first | assumption | trivial | grind [I_Nm, I_Nd, I_Wd, I_Wd0, I_Pg, bt]) (by decide)⟩
      refine ⟨fun h7 => ?_, fun h8 => ?_⟩
      · refine s_Wd_keepJoined (by first | assumption | trivial | grind [I_Nm, I_Nd, I_Wd, I_Wd0, I_Pg, bt]) (fun r10 u10 hq9 => ?_)
        refine ⟨(nar01 (by first | assumption | trivial | grind [I_Nm, I_Nd, I_Wd, I_Wd0, I_Pg, bt])), ?_⟩
        exact hp _ _ (by first | assumption | trivial | grind [I_Nm, I_Nd, I_Wd, I_Wd0, I_Pg, bt])
      · refine s_Wd_keepJoined (by first | assumption | trivial | grind [I_Nm, I_Nd, I_Wd, I_Wd0, I_Pg, bt]) (fun r11 u11 hq9 => ?_)
        refine ⟨(nar01 (by first | assumption | trivial | grind [I_Nm, I_Nd, I_Wd, I_Wd0, I_Pg, bt])), ?_⟩
        exact hp _ _ (by first | assumption | trivial | grind [I_Nm, I_Nd, I_Wd, I_Wd0, I_Pg, bt])
    · refine ⟨5000, l_Wd_splitNumber_L125 (fun z_this x1 x2 x4 x5 x6 hv6 => ?_) (fun r u hq => hp r u hq) 5000 _ _ _ _ _ _ (by first | assumption | trivial | grind [I_Nm, I_Nd, I_Wd, I_Wd0, I_Pg, bt]) (by first | assumption | trivial | grind [I_Nm, I_Nd, I_Wd, I_Wd0, I_Pg, bt]) (by first | assumption | trivial | grind [I_Nm, I_Nd, I_Wd, I_Wd0, I_Pg, bt]) (by decide)⟩
      refine ⟨fun h7 => ?_, fun h8 => ?_⟩
      · refine s_Wd_keepJoined (by first | assumption | trivial | grind [I_Nm, I_Nd, I_Wd, I_Wd0, I_Pg, bt]) (fun r12 u12 hq9 => ?_)
        refine ⟨(nar01 (by first | assumption | trivial | grind [I_Nm, I_Nd, I_Wd, I_Wd0, I_Pg, bt])), ?_⟩
        exact hp _ _ (by first | assumption | trivial | grind [I_Nm, I_Nd, I_Wd, I_Wd0, I_Pg, bt])
      · refine s_Wd_keepJoined (by first | assumption | trivial | grind [I_Nm, I_Nd, I_Wd, I_Wd0, I_Pg, bt]) (fun r13 u13 hq9 => ?_)
        refine ⟨(nar01 (by first | assumption | trivial | grind [I_Nm, I_Nd, I_Wd, I_Wd0, I_Pg, bt])), ?_⟩
        exact hp _ _ (by first | assumption | trivial | grind [I_Nm, I_Nd, I_Wd, I_Wd0, I_Pg, bt])
theorem l_Wd_splitLetters_L10 {z_this_keywords : T_Kw} {K : T_Wd → Int32 → Int64 → Int32 → Prop} {post : Int32 → T_Wd → Prop} (hK : ∀ z_this x1 x2 x4, ((0 : Int32) ≤ x4 ∧ x4 ≤ 12 ∧ I_Wd z_this) → K z_this x1 x2 x4) (hp : ∀ r u, ((r = 0 ∨ r = 1) ∧ I_Wd u) → post r u) : ∀ (n9 : Nat) (z_this : T_Wd) (x1 : Int32) (x2 : Int64) (x4 : Int32), (0 : Int32) ≤ x4 → x4 ≤ 12 → I_Wd z_this → (12 : Int32).toInt - (x4).toInt < ((n9 : Nat) : Int) → wp_Wd_splitLetters_L10 z_this_keywords K post n9 z_this x1 x2 x4 := by
  intro n9
  induction n9 with
  | zero => intro z_this x1 x2 x4 i0 i1 i2 hm; exact (i_meas0 i1 hm).elim
  | succ n9 ih =>
    intro z_this x1 x2 x4 i0 i1 i2 hm
    rw [wp_Wd_splitLetters_L10]
    refine ⟨fun h0 => ?_, fun h1 => ?_⟩
    · exact hK _ _ _ _ (by first | assumption | trivial | grind [I_Nm, I_Nd, I_Wd, I_Wd0, I_Pg, bt])
    · refine s_Wd_byteAt (fun r1 u1 hq2 => ?_)
      refine s_Kw_rank (fun r2 u2 hq3 => ?_)
      refine ⟨fun h4 => ?_, fun h5 => ?_⟩
      · exact hK _ _ _ _ (by first | assumption | trivial | grind [I_Nm, I_Nd, I_Wd, I_Wd0, I_Pg, bt])
      · refine s_Wd_byteAt (fun r3 u3 hq6 => ?_)
        refine s_Kw_rank (fun r4 u4 hq7 => ?_)
        exact ih _ _ _ _ (by first | assumption | trivial | grind [I_Nm, I_Nd, I_Wd, I_Wd0, I_Pg, bt]) (by first | assumption | trivial | grind [I_Nm, I_Nd, I_Wd, I_Wd0, I_Pg, bt]) (by first | assumption | trivial | grind [I_Nm, I_Nd, I_Wd, I_Wd0, I_Pg, bt]) (i_meas (by first | assumption | trivial | grind [I_Nm, I_Nd, I_Wd, I_Wd0, I_Pg, bt]) (by first | assumption | trivial | grind [I_Nm, I_Nd, I_Wd, I_Wd0, I_Pg, bt]) hm)
theorem s_Wd_splitLetters {z_this : T_Wd} {z_this_keywords : T_Kw} {post : Int32 → T_Wd → Prop} (p0 : I_Wd z_this) (hp : ∀ r u, ((r = 0 ∨ r = 1) ∧ I_Wd u) → post r u) : wp_Wd_splitLetters z_this z_this_keywords post := by
  unfold wp_Wd_splitLetters
  refine ⟨5000, l_Wd_splitLetters_L10 (fun z_this x1 x2 x4 hv0 => ?_) (fun r u hq => hp r u hq) 5000 _ _ _ _ (by first | assumption | trivial | grind [I_Nm, I_Nd, I_Wd, I_Wd0, I_Pg, bt]) (by first | assumption | trivial | grind [I_Nm, I_Nd, I_Wd, I_Wd0, I_Pg, bt]) (by first | assumption | trivial | grind [I_Nm, I_Nd, I_Wd, I_Wd0, I_Pg, bt]) (by decide)⟩
  refine s_Kw_codeOf (fun r5 u5 hq1 => ?_)
  refine s_Wd_keepJoined (by first | assumption | trivial | grind [I_Nm, I_Nd, I_Wd, I_Wd0, I_Pg, bt]) (fun r6 u6 hq2 => ?_)
  refine ⟨(nar01 (by first | assumption | trivial | grind [I_Nm, I_Nd, I_Wd, I_Wd0, I_Pg, bt])), ?_⟩
  exact hp _ _ (by first | assumption | trivial | grind [I_Nm, I_Nd, I_Wd, I_Wd0, I_Pg, bt])
theorem s_Wd_splitWord {z_this : T_Wd} {z_this_keywords : T_Kw} {post : Int32 → T_Wd → Prop} (p0 : I_Wd z_this) (hp : ∀ r u, ((r = 0 ∨ r = 1) ∧ I_Wd u) → post r u) : wp_Wd_splitWord z_this z_this_keywords post := by
  unfold wp_Wd_splitWord
  refine s_Wd_byteAt (fun r1 u1 hq0 => ?_)
  refine s_Wd_isDigit (fun r2 u2 hq1 => ?_)
  refine ⟨fun h2 => ?_, fun h3 => ?_⟩
  · refine s_Kw_rank (fun r3 u3 hq4 => ?_)
    refine ⟨fun h5 => ?_, fun h6 => ?_⟩
    · refine s_Wd_keep (by first | assumption | trivial | grind [I_Nm, I_Nd, I_Wd, I_Wd0, I_Pg, bt]) (fun r4 u4 hq7 => ?_)
      refine ⟨fun h8 => ?_, fun h9 => ?_⟩
      · exact hp _ _ (by first | assumption | trivial | grind [I_Nm, I_Nd, I_Wd, I_Wd0, I_Pg, bt])
      · exact hp _ _ (by first | assumption | trivial | grind [I_Nm, I_Nd, I_Wd, I_Wd0, I_Pg, bt])
    · refine s_Wd_splitLetters (by first | assumption | trivial | grind [I_Nm, I_Nd, I_Wd, I_Wd0, I_Pg, bt]) (fun r5 u5 hq7 => ?_)
      refine ⟨(nar01 (by first | assumption | trivial | grind [I_Nm, I_Nd, I_Wd, I_Wd0, I_Pg, bt])), ?_⟩
      exact hp _ _ (by first | assumption | trivial | grind [I_Nm, I_Nd, I_Wd, I_Wd0, I_Pg, bt])
  · refine s_Wd_splitNumber (by first | assumption | trivial | grind [I_Nm, I_Nd, I_Wd, I_Wd0, I_Pg, bt]) (fun r6 u6 hq4 => ?_)
    refine ⟨(nar01 (by first | assumption | trivial | grind [I_Nm, I_Nd, I_Wd, I_Wd0, I_Pg, bt])), ?_⟩
    exact hp _ _ (by first | assumption | trivial | grind [I_Nm, I_Nd, I_Wd, I_Wd0, I_Pg, bt])
theorem s_Wd_advance {z_this : T_Wd} {post : Unit → T_Wd → Prop} (p0 : I_Wd0 z_this) (hp : ∀ r u, I_Wd0 u → post r u) : wp_Wd_advance z_this post := by
  unfold wp_Wd_advance
  refine ⟨fun h0 => ?_, fun h1 => ?_⟩
  · refine ⟨fun h2 => ?_, fun h3 => ?_⟩
    · exact hp _ _ (by first | assumption | trivial | grind [I_Nm, I_Nd, I_Wd, I_Wd0, I_Pg, bt])
    · refine ⟨(vin (c := 4001) (by first | assumption | trivial | grind [I_Nm, I_Nd, I_Wd, I_Wd0, I_Pg, bt]) (by first | assumption | trivial | grind [I_Nm, I_Nd, I_Wd, I_Wd0, I_Pg, bt]) rfl), ?_⟩
      refine ⟨(vin (c := 4001) (by first | assumption | trivial | grind [I_Nm, I_Nd, I_Wd, I_Wd0, I_Pg, bt]) (by first | assumption | trivial | grind [I_Nm, I_Nd, I_Wd, I_Wd0, I_Pg, bt]) rfl), ?_⟩
      refine ⟨(vin (c := 4001) (by first | assumption | trivial | grind [I_Nm, I_Nd, I_Wd, I_Wd0, I_Pg, bt]) (by first | assumption | trivial | grind [I_Nm, I_Nd, I_Wd, I_Wd0, I_Pg, bt]) rfl), ?_⟩
      refine ⟨(vin (c := 4001) (by first | assumption | trivial | grind [I_Nm, I_Nd, I_Wd, I_Wd0, I_Pg, bt]) (by first | assumption | trivial | grind [I_Nm, I_Nd, I_Wd, I_Wd0, I_Pg, bt]) rfl), ?_⟩
      exact hp _ _ (by first | assumption | trivial | grind [I_Nm, I_Nd, I_Wd, I_Wd0, I_Pg, bt])
  · refine ⟨fun h2 => ?_, fun h3 => ?_⟩
    · refine ⟨fun h4 => ?_, fun h5 => ?_⟩
      · exact hp _ _ (by first | assumption | trivial | grind [I_Nm, I_Nd, I_Wd, I_Wd0, I_Pg, bt])
      · refine ⟨(vin (c := 4001) (by first | assumption | trivial | grind [I_Nm, I_Nd, I_Wd, I_Wd0, I_Pg, bt]) (by first | assumption | trivial | grind [I_Nm, I_Nd, I_Wd, I_Wd0, I_Pg, bt]) rfl), ?_⟩
        refine ⟨(vin (c := 4001) (by first | assumption | trivial | grind [I_Nm, I_Nd, I_Wd, I_Wd0, I_Pg, bt]) (by first | assumption | trivial | grind [I_Nm, I_Nd, I_Wd, I_Wd0, I_Pg, bt]) rfl), ?_⟩
        refine ⟨(vin (c := 4001) (by first | assumption | trivial | grind [I_Nm, I_Nd, I_Wd, I_Wd0, I_Pg, bt]) (by first | assumption | trivial | grind [I_Nm, I_Nd, I_Wd, I_Wd0, I_Pg, bt]) rfl), ?_⟩
        refine ⟨(vin (c := 4001) (by first | assumption | trivial | grind [I_Nm, I_Nd, I_Wd, I_Wd0, I_Pg, bt]) (by first | assumption | trivial | grind [I_Nm, I_Nd, I_Wd, I_Wd0, I_Pg, bt]) rfl), ?_⟩
        exact hp _ _ (by first | assumption | trivial | grind [I_Nm, I_Nd, I_Wd, I_Wd0, I_Pg, bt])
    · refine ⟨fun h4 => ?_, fun h5 => ?_⟩
      · exact hp _ _ (by first | assumption | trivial | grind [I_Nm, I_Nd, I_Wd, I_Wd0, I_Pg, bt])
      · refine ⟨(vin (c := 4001) (by first | assumption | trivial | grind [I_Nm, I_Nd, I_Wd, I_Wd0, I_Pg, bt]) (by first | assumption | trivial | grind [I_Nm, I_Nd, I_Wd, I_Wd0, I_Pg, bt]) rfl), ?_⟩
        refine ⟨(vin (c := 4001) (by first | assumption | trivial | grind [I_Nm, I_Nd, I_Wd, I_Wd0, I_Pg, bt]) (by first | assumption | trivial | grind [I_Nm, I_Nd, I_Wd, I_Wd0, I_Pg, bt]) rfl), ?_⟩
        refine ⟨(vin (c := 4001) (by first | assumption | trivial | grind [I_Nm, I_Nd, I_Wd, I_Wd0, I_Pg, bt]) (by first | assumption | trivial | grind [I_Nm, I_Nd, I_Wd, I_Wd0, I_Pg, bt]) rfl), ?_⟩
        refine ⟨(vin (c := 4001) (by first | assumption | trivial | grind [I_Nm, I_Nd, I_Wd, I_Wd0, I_Pg, bt]) (by first | assumption | trivial | grind [I_Nm, I_Nd, I_Wd, I_Wd0, I_Pg, bt]) rfl), ?_⟩
        exact hp _ _ (by first | assumption | trivial | grind [I_Nm, I_Nd, I_Wd, I_Wd0, I_Pg, bt])
theorem l_Wd_split_L19 {z_this_keywords : T_Kw} {K : T_Wd → Int32 → Int32 → Prop} {post : Unit → T_Wd → Prop} (hK : ∀ z_this x1 x2, ((0 : Int32) ≤ x2 ∧ x2 ≤ 4001 ∧ I_Wd z_this) → K z_this x1 x2) (hp : ∀ r u, I_Wd0 u → post r u) : ∀ (n9 : Nat) (z_this : T_Wd) (x1 : Int32) (x2 : Int32), (0 : Int32) ≤ x2 → x2 ≤ 4001 → I_Wd z_this → (4001 : Int32).toInt - (x2).toInt < ((n9 : Nat) : Int) → wp_Wd_split_L19 z_this_keywords K post n9 z_this x1 x2 := by
  intro n9
  induction n9 with
  | zero => intro z_this x1 x2 i0 i1 i2 hm; exact (i_meas0 i1 hm).elim
  | succ n9 ih =>
    intro z_this x1 x2 i0 i1 i2 hm
    rw [wp_Wd_split_L19]
    refine ⟨fun h0 => ?_, fun h1 => ?_⟩
    · exact hK _ _ _ (by first | assumption | trivial | grind [I_Nm, I_Nd, I_Wd, I_Wd0, I_Pg, bt])
    · refine ⟨fun h2 => ?_, fun h3 => ?_⟩
      · exact hK _ _ _ (by first | assumption | trivial | grind [I_Nm, I_Nd, I_Wd, I_Wd0, I_Pg, bt])
      · refine s_Wd_skipBlanks (by first | assumption | trivial | grind [I_Nm, I_Nd, I_Wd, I_Wd0, I_Pg, bt]) (fun r1 u1 hq4 => ?_)
        refine s_Wd_splitWord (by first | assumption | trivial | grind [I_Nm, I_Nd, I_Wd, I_Wd0, I_Pg, bt]) (fun r2 u2 hq5 => ?_)
        exact ih _ _ _ (by first | assumption | trivial | grind [I_Nm, I_Nd, I_Wd, I_Wd0, I_Pg, bt]) (by first | assumption | trivial | grind [I_Nm, I_Nd, I_Wd, I_Wd0, I_Pg, bt]) (by first | assumption | trivial | grind [I_Nm, I_Nd, I_Wd, I_Wd0, I_Pg, bt]) (i_meas (by first | assumption | trivial | grind [I_Nm, I_Nd, I_Wd, I_Wd0, I_Pg, bt]) (by first | assumption | trivial | grind [I_Nm, I_Nd, I_Wd, I_Wd0, I_Pg, bt]) hm)
theorem s_Wd_split {z_this : T_Wd} {z_this_keywords : T_Kw} {post : Unit → T_Wd → Prop} (p0 : I_Wd z_this) (hp : ∀ r u, I_Wd0 u → post r u) : wp_Wd_split z_this z_this_keywords post := by
  unfold wp_Wd_split
  refine ⟨5000, l_Wd_split_L19 (fun z_this x1 x2 hv0 => ?_) (fun r u hq => hp r u hq) 5000 _ _ _ (by first | assumption | trivial | grind [I_Nm, I_Nd, I_Wd, I_Wd0, I_Pg, bt]) (by first | assumption | trivial | grind [I_Nm, I_Nd, I_Wd, I_Wd0, I_Pg, bt]) (by first | assumption | trivial | grind [I_Nm, I_Nd, I_Wd, I_Wd0, I_Pg, bt]) (by decide)⟩
  refine s_Wd_forget (by first | assumption | trivial | grind [I_Nm, I_Nd, I_Wd, I_Wd0, I_Pg, bt]) (fun r3 u3 hq1 => ?_)
  refine s_Wd_advance (by first | assumption | trivial | grind [I_Nm, I_Nd, I_Wd, I_Wd0, I_Pg, bt]) (fun r4 u4 hq2 => ?_)
  exact hp _ _ (by first | assumption | trivial | grind [I_Nm, I_Nd, I_Wd, I_Wd0, I_Pg, bt])
theorem s_Pr_names {z_this : T_Pr} {post : Unit → Unit → Prop} (hp : ∀ r u, True → post r u) : wp_Pr_names z_this post := by
  unfold wp_Pr_names
  exact hp _ _ (by first | assumption | trivial | grind [I_Nm, I_Nd, I_Wd, I_Wd0, I_Pg, bt])
theorem s_Pr_nodes {z_this : T_Pr} {post : Unit → Unit → Prop} (hp : ∀ r u, True → post r u) : wp_Pr_nodes z_this post := by
  unfold wp_Pr_nodes
  exact hp _ _ (by first | assumption | trivial | grind [I_Nm, I_Nd, I_Wd, I_Wd0, I_Pg, bt])
theorem s_Pr_empty {z_this : T_Pr} {z_this_names : T_Nm} {z_this_nodes : T_Nd} {post : Unit → T_Nm × T_Nd → Prop} (hp : ∀ r u, (I_Nm u.1 ∧ I_Nd u.2) → post r u) : wp_Pr_empty z_this z_this_names z_this_nodes post := by
  unfold wp_Pr_empty
  refine s_Nm_empty (fun r1 u1 hq0 => ?_)
  refine s_Nd_empty (fun r2 u2 hq1 => ?_)
  exact hp _ _ (by first | assumption | trivial | grind [I_Nm, I_Nd, I_Wd, I_Wd0, I_Pg, bt])
theorem l_Pr_useDoneSteps_L12 {z_this : T_Pr} {z_this_nodes : T_Nd} {K : T_Nm → Int32 → Int32 → Prop} {post : Unit → T_Nm → Prop} (hK : ∀ z_this_names x1 x2, ((-1 : Int32) ≤ x2 ∧ I_Nm z_this_names) → K z_this_names x1 x2) (hp : ∀ r u, I_Nm u → post r u) : ∀ (n9 : Nat) (z_this_names : T_Nm) (x1 : Int32) (x2 : Int32), (-1 : Int32) ≤ x2 → I_Nm z_this_names → (x2).toInt + 1 < ((n9 : Nat) : Int) → wp_Pr_useDoneSteps_L12 z_this z_this_nodes K post n9 z_this_names x1 x2 := by
  intro n9
  induction n9 with
  | zero => intro z_this_names x1 x2 i0 i1 hm; exact (d_meas0 i0 hm).elim
  | succ n9 ih =>
    intro z_this_names x1 x2 i0 i1 hm
    rw [wp_Pr_useDoneSteps_L12]
    refine ⟨fun h0 => ?_, fun h1 => ?_⟩
    · exact hK _ _ _ (by first | assumption | trivial | grind [I_Nm, I_Nd, I_Wd, I_Wd0, I_Pg, bt])
    · refine s_Nd_kindOf (fun r2 u2 hq2 => ?_)
      refine ⟨fun h3 => ?_, fun h4 => ?_⟩
      · refine s_Nd_subjectOf (fun r5 u5 hq5 => ?_)
        refine s_Nm_isUsed (fun r6 u6 hq6 => ?_)
        exact ih _ _ _ (d_nn (by assumption)) (by first | assumption | trivial | grind [I_Nm, I_Nd, I_Wd, I_Wd0, I_Pg, bt]) (d_meas (by first | assumption | trivial | grind [I_Nm, I_Nd, I_Wd, I_Wd0, I_Pg, bt]) hm)
      · refine ⟨fun h5 => ?_, fun h6 => ?_⟩
        · refine ⟨fun h7 => ?_, fun h8 => ?_⟩
          · exact ih _ _ _ (d_nn (by assumption)) (by first | assumption | trivial | grind [I_Nm, I_Nd, I_Wd, I_Wd0, I_Pg, bt]) (d_meas (by first | assumption | trivial | grind [I_Nm, I_Nd, I_Wd, I_Wd0, I_Pg, bt]) hm)
          · refine s_Nd_subjectOf (fun r3 u3 hq9 => ?_)
            refine s_Nm_use (by first | assumption | trivial | grind [I_Nm, I_Nd, I_Wd, I_Wd0, I_Pg, bt]) (fun r4 u4 hq10 => ?_)
            exact ih _ _ _ (d_nn (by assumption)) (by first | assumption | trivial | grind [I_Nm, I_Nd, I_Wd, I_Wd0, I_Pg, bt]) (d_meas (by first | assumption | trivial | grind [I_Nm, I_Nd, I_Wd, I_Wd0, I_Pg, bt]) hm)
        · exact ih _ _ _ (d_nn (by assumption)) (by first | assumption | trivial | grind [I_Nm, I_Nd, I_Wd, I_Wd0, I_Pg, bt]) (d_meas (by first | assumption | trivial | grind [I_Nm, I_Nd, I_Wd, I_Wd0, I_Pg, bt]) hm)
theorem s_Pr_useDoneSteps {z_this : T_Pr} {z_this_names : T_Nm} {z_this_nodes : T_Nd} {post : Unit → T_Nm → Prop} (p0 : I_Nm z_this_names) (p1 : I_Nd z_this_nodes) (hp : ∀ r u, I_Nm u → post r u) : wp_Pr_useDoneSteps z_this z_this_names z_this_nodes post := by
  unfold wp_Pr_useDoneSteps
  refine s_Nd_count (by first | assumption | trivial | grind [I_Nm, I_Nd, I_Wd, I_Wd0, I_Pg, bt]) (fun r1 u1 hq0 => ?_)
  refine ⟨2000, l_Pr_useDoneSteps_L12 (fun z_this_names x1 x2 hv1 => ?_) (fun r u hq => hp r u hq) 2000 _ _ _ (by first | assumption | trivial | grind [I_Nm, I_Nd, I_Wd, I_Wd0, I_Pg, bt]) (by first | assumption | trivial | grind [I_Nm, I_Nd, I_Wd, I_Wd0, I_Pg, bt]) (d_ent (by first | assumption | trivial | grind [I_Nm, I_Nd, I_Wd, I_Wd0, I_Pg, bt]))⟩
  exact hp _ _ (by first | assumption | trivial | grind [I_Nm, I_Nd, I_Wd, I_Wd0, I_Pg, bt])
theorem s_Pr_finish {z_this : T_Pr} {z_this_names : T_Nm} {z_this_nodes : T_Nd} {post : Unit → T_Nm × T_Nd → Prop} (p0 : I_Nm z_this_names) (p1 : I_Nd z_this_nodes) (hp : ∀ r u, (I_Nm u.1 ∧ I_Nd u.2) → post r u) : wp_Pr_finish z_this z_this_names z_this_nodes post := by
  unfold wp_Pr_finish
  refine s_Nd_finish (by first | assumption | trivial | grind [I_Nm, I_Nd, I_Wd, I_Wd0, I_Pg, bt]) (fun r1 u1 hq0 => ?_)
  refine s_Pr_useDoneSteps (by first | assumption | trivial | grind [I_Nm, I_Nd, I_Wd, I_Wd0, I_Pg, bt]) (by first | assumption | trivial | grind [I_Nm, I_Nd, I_Wd, I_Wd0, I_Pg, bt]) (fun r2 u2 hq1 => ?_)
  exact hp _ _ (by first | assumption | trivial | grind [I_Nm, I_Nd, I_Wd, I_Wd0, I_Pg, bt])
theorem s_Pg_byteAt {z_this : T_Pg} {a1 : Int32} {post : Int32 → Unit → Prop} (hp : ∀ r u, True → post r u) : wp_Pg_byteAt z_this a1 post := by
  unfold wp_Pg_byteAt
  refine ⟨fun h0 => ?_, fun h1 => ?_⟩
  · exact hp _ _ (by first | assumption | trivial | grind [I_Nm, I_Nd, I_Wd, I_Wd0, I_Pg, bt])
  · refine ⟨fun h2 => ?_, fun h3 => ?_⟩
    · exact hp _ _ (by first | assumption | trivial | grind [I_Nm, I_Nd, I_Wd, I_Wd0, I_Pg, bt])
    · refine ⟨fun h4 => ?_, fun h5 => ?_⟩
      · exact hp _ _ (by first | assumption | trivial | grind [I_Nm, I_Nd, I_Wd, I_Wd0, I_Pg, bt])
      · refine ⟨(vin (c := 12000) (by first | assumption | trivial | grind [I_Nm, I_Nd, I_Wd, I_Wd0, I_Pg, bt]) (by first | assumption | trivial | grind [I_Nm, I_Nd, I_Wd, I_Wd0, I_Pg, bt]) rfl), ?_⟩
        exact hp _ _ (by first | assumption | trivial | grind [I_Nm, I_Nd, I_Wd, I_Wd0, I_Pg, bt])
theorem s_Pg_isInLine {z_this : T_Pg} {post : Int32 → Unit → Prop} (p0 : I_Pg z_this) (hp : ∀ r u, (r = 0 ∨ r = 1) → post r u) : wp_Pg_isInLine z_this post := by
  unfold wp_Pg_isInLine
  refine ⟨fun h0 => ?_, fun h1 => ?_⟩
  · exact hp _ _ (by first | assumption | trivial | grind [I_Nm, I_Nd, I_Wd, I_Wd0, I_Pg, bt])
  · refine ⟨fun h2 => ?_, fun h3 => ?_⟩
    · exact hp _ _ (by first | assumption | trivial | grind [I_Nm, I_Nd, I_Wd, I_Wd0, I_Pg, bt])
    · refine ⟨(vin (c := 12000) (by first | assumption | trivial | grind [I_Nm, I_Nd, I_Wd, I_Wd0, I_Pg, bt]) (by first | assumption | trivial | grind [I_Nm, I_Nd, I_Wd, I_Wd0, I_Pg, bt]) rfl), ?_⟩
      refine ⟨fun h4 => ?_, fun h5 => ?_⟩
      · exact hp _ _ (by first | assumption | trivial | grind [I_Nm, I_Nd, I_Wd, I_Wd0, I_Pg, bt])
      · exact hp _ _ (by first | assumption | trivial | grind [I_Nm, I_Nd, I_Wd, I_Wd0, I_Pg, bt])
theorem s_Pg_put {z_this : T_Pg} {a1 : Int32} {post : Unit → T_Pg → Prop} (p0 : I_Pg z_this) (hp : ∀ r u, I_Pg u → post r u) : wp_Pg_put z_this a1 post := by
  unfold wp_Pg_put
  refine ⟨fun h0 => ?_, fun h1 => ?_⟩
  · exact hp _ _ (by first | assumption | trivial | grind [I_Nm, I_Nd, I_Wd, I_Wd0, I_Pg, bt])
  · refine ⟨(vin (c := 12000) (by first | assumption | trivial | grind [I_Nm, I_Nd, I_Wd, I_Wd0, I_Pg, bt]) (by first | assumption | trivial | grind [I_Nm, I_Nd, I_Wd, I_Wd0, I_Pg, bt]) rfl), ?_⟩
    exact hp _ _ (by first | assumption | trivial | grind [I_Nm, I_Nd, I_Wd, I_Wd0, I_Pg, bt])
theorem s_Pg_beginWord {z_this : T_Pg} {post : Unit → T_Pg → Prop} (p0 : I_Pg z_this) (hp : ∀ r u, I_Pg u → post r u) : wp_Pg_beginWord z_this post := by
  unfold wp_Pg_beginWord
  refine s_Pg_isInLine (by first | assumption | trivial | grind [I_Nm, I_Nd, I_Wd, I_Wd0, I_Pg, bt]) (fun r1 u1 hq0 => ?_)
  refine ⟨fun h1 => ?_, fun h2 => ?_⟩
  · exact hp _ _ (by first | assumption | trivial | grind [I_Nm, I_Nd, I_Wd, I_Wd0, I_Pg, bt])
  · refine s_Pg_put (by first | assumption | trivial | grind [I_Nm, I_Nd, I_Wd, I_Wd0, I_Pg, bt]) (fun r2 u2 hq3 => ?_)
    exact hp _ _ (by first | assumption | trivial | grind [I_Nm, I_Nd, I_Wd, I_Wd0, I_Pg, bt])
theorem l_Pg_putAmount_L14 {K : T_Pg → Int64 → Int64 → Int32 → Prop} {post : Unit → T_Pg → Prop} (hK : ∀ z_this x1 x3 x5, ((0 : Int32) ≤ x5 ∧ I_Pg z_this) → K z_this x1 x3 x5) (hp : ∀ r u, I_Pg u → post r u) : ∀ (n9 : Nat) (z_this : T_Pg) (x1 : Int64) (x3 : Int64) (x5 : Int32), (0 : Int32) ≤ x5 → I_Pg z_this → (x5).toInt < ((n9 : Nat) : Int) → wp_Pg_putAmount_L14 K post n9 z_this x1 x3 x5 := by
  intro n9
  induction n9 with
  | zero => intro z_this x1 x3 x5 i0 i1 hm; exact (v_meas0 i0 hm).elim
  | succ n9 ih =>
    intro z_this x1 x3 x5 i0 i1 hm
    rw [wp_Pg_putAmount_L14]
    refine ⟨fun h0 => ?_, fun h1 => ?_⟩
    · exact hK _ _ _ _ (by first | assumption | trivial | grind [I_Nm, I_Nd, I_Wd, I_Wd0, I_Pg, bt])
    · refine ⟨fun h2 => ?_, fun h3 => ?_⟩
      · refine ⟨(i2l_ne (by assumption)), ?_⟩
        refine s_Pg_put (by first | assumption | trivial | grind [I_Nm, I_Nd, I_Wd, I_Wd0, I_Pg, bt]) (fun r2 u2 hq4 => ?_)
        exact ih _ _ _ _ (v_nn (by assumption)) (by first | assumption | trivial | grind [I_Nm, I_Nd, I_Wd, I_Wd0, I_Pg, bt]) (v_meas (by first | assumption | trivial | grind [I_Nm, I_Nd, I_Wd, I_Wd0, I_Pg, bt]) hm)
      · refine ⟨fun h4 => ?_, fun h5 => ?_⟩
        · refine ⟨(i2l_ne (by assumption)), ?_⟩
          refine s_Pg_put (by first | assumption | trivial | grind [I_Nm, I_Nd, I_Wd, I_Wd0, I_Pg, bt]) (fun r3 u3 hq6 => ?_)
          exact ih _ _ _ _ (v_nn (by assumption)) (by first | assumption | trivial | grind [I_Nm, I_Nd, I_Wd, I_Wd0, I_Pg, bt]) (v_meas (by first | assumption | trivial | grind [I_Nm, I_Nd, I_Wd, I_Wd0, I_Pg, bt]) hm)
        · exact ih _ _ _ _ (v_nn (by assumption)) (by first | assumption | trivial | grind [I_Nm, I_Nd, I_Wd, I_Wd0, I_Pg, bt]) (v_meas (by first | assumption | trivial | grind [I_Nm, I_Nd, I_Wd, I_Wd0, I_Pg, bt]) hm)
theorem l_Pg_putAmount_L83 {K : T_Pg → Int64 → Int64 → Int32 → Int32 → Prop} {post : Unit → T_Pg → Prop} (hK : ∀ z_this x1 x3 x5 x6, ((0 : Int32) ≤ x6 ∧ I_Pg z_this) → K z_this x1 x3 x5 x6) (hp : ∀ r u, I_Pg u → post r u) : ∀ (n9 : Nat) (z_this : T_Pg) (x1 : Int64) (x3 : Int64) (x5 : Int32) (x6 : Int32), (0 : Int32) ≤ x6 → I_Pg z_this → (x6).toInt < ((n9 : Nat) : Int) → wp_Pg_putAmount_L83 K post n9 z_this x1 x3 x5 x6 := by
  intro n9
  induction n9 with
  | zero => intro z_this x1 x3 x5 x6 i0 i1 hm; exact (v_meas0 i0 hm).elim
  | succ n9 ih =>
    intro z_this x1 x3 x5 x6 i0 i1 hm
    rw [wp_Pg_putAmount_L83]
    refine ⟨fun h0 => ?_, fun h1 => ?_⟩
    · exact hK _ _ _ _ _ (by first | assumption | trivial | grind [I_Nm, I_Nd, I_Wd, I_Wd0, I_Pg, bt])
    · refine ⟨fun h2 => ?_, fun h3 => ?_⟩
      · exact hK _ _ _ _ _ (by first | assumption | trivial | grind [I_Nm, I_Nd, I_Wd, I_Wd0, I_Pg, bt])
      · refine ⟨(by first | assumption | trivial | grind [I_Nm, I_Nd, I_Wd, I_Wd0, I_Pg, bt]), ?_⟩
        refine s_Pg_put (by first | assumption | trivial | grind [I_Nm, I_Nd, I_Wd, I_Wd0, I_Pg, bt]) (fun r4 u4 hq4 => ?_)
        refine ⟨(by first | assumption | trivial | grind [I_Nm, I_Nd, I_Wd, I_Wd0, I_Pg, bt]), ?_⟩
        exact ih _ _ _ _ _ (v_nn (by assumption)) (by first | assumption | trivial | grind [I_Nm, I_Nd, I_Wd, I_Wd0, I_Pg, bt]) (v_meas (by first | assumption | trivial | grind [I_Nm, I_Nd, I_Wd, I_Wd0, I_Pg, bt]) hm)
theorem s_Pg_putAmount {z_this : T_Pg} {a1 : Int64} {post : Unit → T_Pg → Prop} (p0 : I_Pg z_this) (hp : ∀ r u, I_Pg u → post r u) : wp_Pg_putAmount z_this a1 post := by
  unfold wp_Pg_putAmount
  refine s_Pg_beginWord (by first | assumption | trivial | grind [I_Nm, I_Nd, I_Wd, I_Wd0, I_Pg, bt]) (fun r1 u1 hq0 => ?_)
  refine ⟨100000001, l_Pg_putAmount_L14 (fun z_this x1 x3 x5 hv1 => ?_) (fun r u hq => hp r u hq) 100000001 _ _ _ _ (by first | assumption | trivial | grind [I_Nm, I_Nd, I_Wd, I_Wd0, I_Pg, bt]) (by first | assumption | trivial | grind [I_Nm, I_Nd, I_Wd, I_Wd0, I_Pg, bt]) (by decide)⟩
  refine ⟨fun h2 => ?_, fun h3 => ?_⟩
  · refine ⟨1001, l_Pg_putAmount_L83 (fun z_this x1 x3 x5 x6 hv4 => ?_) (fun r u hq => hp r u hq) 1001 _ _ _ _ _ (by first | assumption | trivial | grind [I_Nm, I_Nd, I_Wd, I_Wd0, I_Pg, bt]) (by first | assumption | trivial | grind [I_Nm, I_Nd, I_Wd, I_Wd0, I_Pg, bt]) (by decide)⟩
    exact hp _ _ (by first | assumption | trivial | grind [I_Nm, I_Nd, I_Wd, I_Wd0, I_Pg, bt])
  · refine s_Pg_put (by first | assumption | trivial | grind [I_Nm, I_Nd, I_Wd, I_Wd0, I_Pg, bt]) (fun r5 u5 hq4 => ?_)
    refine ⟨1001, l_Pg_putAmount_L83 (fun z_this x1 x3 x5 x6 hv5 => ?_) (fun r u hq => hp r u hq) 1001 _ _ _ _ _ (by first | assumption | trivial | grind [I_Nm, I_Nd, I_Wd, I_Wd0, I_Pg, bt]) (by first | assumption | trivial | grind [I_Nm, I_Nd, I_Wd, I_Wd0, I_Pg, bt]) (by decide)⟩
    exact hp _ _ (by first | assumption | trivial | grind [I_Nm, I_Nd, I_Wd, I_Wd0, I_Pg, bt])
theorem l_Pg_putLetters_L9 {K : T_Pg → Int64 → Int64 → Int32 → Prop} {post : Unit → T_Pg → Prop} (hK : ∀ z_this x1 x3 x5, ((0 : Int32) ≤ x5 ∧ x5 ≤ 12 ∧ I_Pg z_this ∧ pw37 x3 x5) → K z_this x1 x3 x5) (hp : ∀ r u, I_Pg u → post r u) : ∀ (n9 : Nat) (z_this : T_Pg) (x1 : Int64) (x3 : Int64) (x5 : Int32), (0 : Int32) ≤ x5 → x5 ≤ 12 → I_Pg z_this → pw37 x3 x5 → (12 : Int32).toInt - (x5).toInt < ((n9 : Nat) : Int) → wp_Pg_putLetters_L9 K post n9 z_this x1 x3 x5 := by
  intro n9
  induction n9 with
  | zero => intro z_this x1 x3 x5 i0 i1 i2 i3 hm; exact (i_meas0 i1 hm).elim
  | succ n9 ih =>
    intro z_this x1 x3 x5 i0 i1 i2 i3 hm
    rw [wp_Pg_putLetters_L9]
    refine ⟨fun h0 => ?_, fun h1 => ?_⟩
    · exact hK _ _ _ _ (by first | assumption | trivial | grind [I_Nm, I_Nd, I_Wd, I_Wd0, I_Pg, bt])
    · refine ⟨(pw_ne (by assumption)), ?_⟩
      refine ⟨fun h2 => ?_, fun h3 => ?_⟩
      · exact hK _ _ _ _ (by first | assumption | trivial | grind [I_Nm, I_Nd, I_Wd, I_Wd0, I_Pg, bt])
      · exact ih _ _ _ _ (by first | assumption | trivial | grind [I_Nm, I_Nd, I_Wd, I_Wd0, I_Pg, bt]) (by first | assumption | trivial | grind [I_Nm, I_Nd, I_Wd, I_Wd0, I_Pg, bt]) (by first | assumption | trivial | grind [I_Nm, I_Nd, I_Wd, I_Wd0, I_Pg, bt]) (pw_step (by assumption) (by first | assumption | trivial | grind [I_Nm, I_Nd, I_Wd, I_Wd0, I_Pg, bt])) (i_meas (by first | assumption | trivial | grind [I_Nm, I_Nd, I_Wd, I_Wd0, I_Pg, bt]) (by first | assumption | trivial | grind [I_Nm, I_Nd, I_Wd, I_Wd0, I_Pg, bt]) hm)
theorem l_Pg_putLetters_L38 {K : T_Pg → Int64 → Int64 → Int32 → Prop} {post : Unit → T_Pg → Prop} (hK : ∀ z_this x1 x3 x5, ((0 : Int64) ≤ x3 ∧ I_Pg z_this) → K z_this x1 x3 x5) (hp : ∀ r u, I_Pg u → post r u) : ∀ (n9 : Nat) (z_this : T_Pg) (x1 : Int64) (x3 : Int64) (x5 : Int32), (0 : Int64) ≤ x3 → I_Pg z_this → (x3).toInt < ((n9 : Nat) : Int) → wp_Pg_putLetters_L38 K post n9 z_this x1 x3 x5 := by
  intro n9
  induction n9 with
  | zero => intro z_this x1 x3 x5 i0 i1 hm; exact (w_meas0 i0 hm).elim
  | succ n9 ih =>
    intro z_this x1 x3 x5 i0 i1 hm
    rw [wp_Pg_putLetters_L38]
    refine ⟨fun h0 => ?_, fun h1 => ?_⟩
    · exact hK _ _ _ _ (by first | assumption | trivial | grind [I_Nm, I_Nd, I_Wd, I_Wd0, I_Pg, bt])
    · refine ⟨(w_ne (cmp0 (by assumption))), ?_⟩
      refine s_Kw_unranked (fun r2 u2 hq2 => ?_)
      refine s_Pg_put (by first | assumption | trivial | grind [I_Nm, I_Nd, I_Wd, I_Wd0, I_Pg, bt]) (fun r3 u3 hq3 => ?_)
      exact ih _ _ _ _ (w_nn (by assumption)) (by first | assumption | trivial | grind [I_Nm, I_Nd, I_Wd, I_Wd0, I_Pg, bt]) (w_meas (cmp0 (by assumption)) hm)
theorem s_Pg_putLetters {z_this : T_Pg} {a1 : Int64} {post : Unit → T_Pg → Prop} (p0 : I_Pg z_this) (hp : ∀ r u, I_Pg u → post r u) : wp_Pg_putLetters z_this a1 post := by
  unfold wp_Pg_putLetters
  refine s_Pg_beginWord (by first | assumption | trivial | grind [I_Nm, I_Nd, I_Wd, I_Wd0, I_Pg, bt]) (fun r1 u1 hq0 => ?_)
  refine ⟨100, l_Pg_putLetters_L9 (fun z_this x1 x3 x5 hv1 => ?_) (fun r u hq => hp r u hq) 100 _ _ _ _ (by first | assumption | trivial | grind [I_Nm, I_Nd, I_Wd, I_Wd0, I_Pg, bt]) (by first | assumption | trivial | grind [I_Nm, I_Nd, I_Wd, I_Wd0, I_Pg, bt]) (by first | assumption | trivial | grind [I_Nm, I_Nd, I_Wd, I_Wd0, I_Pg, bt]) pw_1 (by decide)⟩
  refine ⟨9223372036854775808, l_Pg_putLetters_L38 (fun z_this x1 x3 x5 hv2 => ?_) (fun r u hq => hp r u hq) 9223372036854775808 _ _ _ _ (pw_nn (i := x5) (by grind)) (by first | assumption | trivial | grind [I_Nm, I_Nd, I_Wd, I_Wd0, I_Pg, bt]) (w_ent _)⟩
  exact hp _ _ (by first | assumption | trivial | grind [I_Nm, I_Nd, I_Wd, I_Wd0, I_Pg, bt])
theorem s_Pg_putUnit {z_this : T_Pg} {z_this_keywords : T_Kw} {a1 : Int32} {post : Unit → T_Pg → Prop} (p0 : I_Pg z_this) (hp : ∀ r u, I_Pg u → post r u) : wp_Pg_putUnit z_this z_this_keywords a1 post := by
  unfold wp_Pg_putUnit
  refine ⟨fun h0 => ?_, fun h1 => ?_⟩
  · exact hp _ _ (by first | assumption | trivial | grind [I_Nm, I_Nd, I_Wd, I_Wd0, I_Pg, bt])
  · refine s_Kw_lettersOf (fun r1 u1 hq2 => ?_)
    refine s_Pg_putLetters (by first | assumption | trivial | grind [I_Nm, I_Nd, I_Wd, I_Wd0, I_Pg, bt]) (fun r2 u2 hq3 => ?_)
    exact hp _ _ (by first | assumption | trivial | grind [I_Nm, I_Nd, I_Wd, I_Wd0, I_Pg, bt])
theorem s_Pg_putSign {z_this : T_Pg} {a1 : Int32} {post : Unit → T_Pg → Prop} (p0 : I_Pg z_this) (hp : ∀ r u, I_Pg u → post r u) : wp_Pg_putSign z_this a1 post := by
  unfold wp_Pg_putSign
  refine s_Pg_beginWord (by first | assumption | trivial | grind [I_Nm, I_Nd, I_Wd, I_Wd0, I_Pg, bt]) (fun r1 u1 hq0 => ?_)
  refine s_Pg_put (by first | assumption | trivial | grind [I_Nm, I_Nd, I_Wd, I_Wd0, I_Pg, bt]) (fun r2 u2 hq1 => ?_)
  exact hp _ _ (by first | assumption | trivial | grind [I_Nm, I_Nd, I_Wd, I_Wd0, I_Pg, bt])
theorem s_Pg_beginLine {z_this : T_Pg} {post : Unit → T_Pg → Prop} (p0 : I_Pg z_this) (hp : ∀ r u, I_Pg u → post r u) : wp_Pg_beginLine z_this post := by
  unfold wp_Pg_beginLine
  refine s_Pg_isInLine (by first | assumption | trivial | grind [I_Nm, I_Nd, I_Wd, I_Wd0, I_Pg, bt]) (fun r1 u1 hq0 => ?_)
  refine ⟨fun h1 => ?_, fun h2 => ?_⟩
  · exact hp _ _ (by first | assumption | trivial | grind [I_Nm, I_Nd, I_Wd, I_Wd0, I_Pg, bt])
  · refine s_Pg_put (by first | assumption | trivial | grind [I_Nm, I_Nd, I_Wd, I_Wd0, I_Pg, bt]) (fun r2 u2 hq3 => ?_)
    exact hp _ _ (by first | assumption | trivial | grind [I_Nm, I_Nd, I_Wd, I_Wd0, I_Pg, bt])
theorem s_Pg_beginStatement {z_this : T_Pg} {z_this_keywords : T_Kw} {z_this_names : T_Nm} {z_this_nodes : T_Nd} {a1 : Int32} {post : Unit → T_Pg → Prop} (p0 : I_Pg z_this) (hp : ∀ r u, I_Pg u → post r u) : wp_Pg_beginStatement z_this z_this_keywords z_this_names z_this_nodes a1 post := by
  unfold wp_Pg_beginStatement
  refine s_Nd_kindOf (fun r1 u1 hq0 => ?_)
  refine s_Pg_beginLine (by first | assumption | trivial | grind [I_Nm, I_Nd, I_Wd, I_Wd0, I_Pg, bt]) (fun r2 u2 hq1 => ?_)
  refine ⟨fun h2 => ?_, fun h3 => ?_⟩
  · refine s_Kw_lettersOf (fun r22 u22 hq4 => ?_)
    refine s_Pg_putLetters (by first | assumption | trivial | grind [I_Nm, I_Nd, I_Wd, I_Wd0, I_Pg, bt]) (fun r23 u23 hq5 => ?_)
    refine ⟨fun h6 => ?_, fun h7 => ?_, fun h8 => ?_, fun h9 => ?_, fun h10 => ?_, fun h11 => ?_, fun h12 => ?_⟩
    · refine s_Nd_subjectOf (fun r24 u24 hq13 => ?_)
      refine s_Nm_lettersOf (fun r25 u25 hq14 => ?_)
      refine s_Pg_putLetters (by first | assumption | trivial | grind [I_Nm, I_Nd, I_Wd, I_Wd0, I_Pg, bt]) (fun r26 u26 hq15 => ?_)
      exact hp _ _ (by first | assumption | trivial | grind [I_Nm, I_Nd, I_Wd, I_Wd0, I_Pg, bt])
    · refine s_Nd_subjectOf (fun r27 u27 hq13 => ?_)
      refine s_Nm_lettersOf (fun r28 u28 hq14 => ?_)
      refine s_Pg_putLetters (by first | assumption | trivial | grind [I_Nm, I_Nd, I_Wd, I_Wd0, I_Pg, bt]) (fun r29 u29 hq15 => ?_)
      exact hp _ _ (by first | assumption | trivial | grind [I_Nm, I_Nd, I_Wd, I_Wd0, I_Pg, bt])
    · refine s_Nd_subjectOf (fun r30 u30 hq13 => ?_)
      refine s_Nm_lettersOf (fun r31 u31 hq14 => ?_)
      refine s_Pg_putLetters (by first | assumption | trivial | grind [I_Nm, I_Nd, I_Wd, I_Wd0, I_Pg, bt]) (fun r32 u32 hq15 => ?_)
      exact hp _ _ (by first | assumption | trivial | grind [I_Nm, I_Nd, I_Wd, I_Wd0, I_Pg, bt])
    · refine s_Nd_subjectOf (fun r33 u33 hq13 => ?_)
      refine s_Nm_lettersOf (fun r34 u34 hq14 => ?_)
      refine s_Pg_putLetters (by first | assumption | trivial | grind [I_Nm, I_Nd, I_Wd, I_Wd0, I_Pg, bt]) (fun r35 u35 hq15 => ?_)
      exact hp _ _ (by first | assumption | trivial | grind [I_Nm, I_Nd, I_Wd, I_Wd0, I_Pg, bt])
    · refine s_Nd_valueOf (fun r36 u36 hq13 => ?_)
      refine s_Pg_putAmount (by first | assumption | trivial | grind [I_Nm, I_Nd, I_Wd, I_Wd0, I_Pg, bt]) (fun r37 u37 hq14 => ?_)
      exact hp _ _ (by first | assumption | trivial | grind [I_Nm, I_Nd, I_Wd, I_Wd0, I_Pg, bt])
    · refine s_Nd_subjectOf (fun r38 u38 hq13 => ?_)
      refine s_Nm_lettersOf (fun r39 u39 hq14 => ?_)
      refine s_Pg_putLetters (by first | assumption | trivial | grind [I_Nm, I_Nd, I_Wd, I_Wd0, I_Pg, bt]) (fun r40 u40 hq15 => ?_)
      exact hp _ _ (by first | assumption | trivial | grind [I_Nm, I_Nd, I_Wd, I_Wd0, I_Pg, bt])
    · exact hp _ _ (by first | assumption | trivial | grind [I_Nm, I_Nd, I_Wd, I_Wd0, I_Pg, bt])
  · refine s_Kw_lettersOf (fun r3 u3 hq4 => ?_)
    refine s_Pg_putLetters (by first | assumption | trivial | grind [I_Nm, I_Nd, I_Wd, I_Wd0, I_Pg, bt]) (fun r4 u4 hq5 => ?_)
    refine ⟨fun h6 => ?_, fun h7 => ?_, fun h8 => ?_, fun h9 => ?_, fun h10 => ?_, fun h11 => ?_, fun h12 => ?_⟩
    · refine s_Nd_subjectOf (fun r5 u5 hq13 => ?_)
      refine s_Nm_lettersOf (fun r6 u6 hq14 => ?_)
      refine s_Pg_putLetters (by first | assumption | trivial | grind [I_Nm, I_Nd, I_Wd, I_Wd0, I_Pg, bt]) (fun r7 u7 hq15 => ?_)
      exact hp _ _ (by first | assumption | trivial | grind [I_Nm, I_Nd, I_Wd, I_Wd0, I_Pg, bt])
    · refine s_Nd_subjectOf (fun r8 u8 hq13 => ?_)
      refine s_Nm_lettersOf (fun r9 u9 hq14 => ?_)
      refine s_Pg_putLetters (by first | assumption | trivial | grind [I_Nm, I_Nd, I_Wd, I_Wd0, I_Pg, bt]) (fun r10 u10 hq15 => ?_)
      exact hp _ _ (by first | assumption | trivial | grind [I_Nm, I_Nd, I_Wd, I_Wd0, I_Pg, bt])
    · refine s_Nd_subjectOf (fun r11 u11 hq13 => ?_)
      refine s_Nm_lettersOf (fun r12 u12 hq14 => ?_)
      refine s_Pg_putLetters (by first | assumption | trivial | grind [I_Nm, I_Nd, I_Wd, I_Wd0, I_Pg, bt]) (fun r13 u13 hq15 => ?_)
      exact hp _ _ (by first | assumption | trivial | grind [I_Nm, I_Nd, I_Wd, I_Wd0, I_Pg, bt])
    · refine s_Nd_subjectOf (fun r14 u14 hq13 => ?_)
      refine s_Nm_lettersOf (fun r15 u15 hq14 => ?_)
      refine s_Pg_putLetters (by first | assumption | trivial | grind [I_Nm, I_Nd, I_Wd, I_Wd0, I_Pg, bt]) (fun r16 u16 hq15 => ?_)
      exact hp _ _ (by first | assumption | trivial | grind [I_Nm, I_Nd, I_Wd, I_Wd0, I_Pg, bt])
    · refine s_Nd_valueOf (fun r17 u17 hq13 => ?_)
      refine s_Pg_putAmount (by first | assumption | trivial | grind [I_Nm, I_Nd, I_Wd, I_Wd0, I_Pg, bt]) (fun r18 u18 hq14 => ?_)
      exact hp _ _ (by first | assumption | trivial | grind [I_Nm, I_Nd, I_Wd, I_Wd0, I_Pg, bt])
    · refine s_Nd_subjectOf (fun r19 u19 hq13 => ?_)
      refine s_Nm_lettersOf (fun r20 u20 hq14 => ?_)
      refine s_Pg_putLetters (by first | assumption | trivial | grind [I_Nm, I_Nd, I_Wd, I_Wd0, I_Pg, bt]) (fun r21 u21 hq15 => ?_)
      exact hp _ _ (by first | assumption | trivial | grind [I_Nm, I_Nd, I_Wd, I_Wd0, I_Pg, bt])
    · exact hp _ _ (by first | assumption | trivial | grind [I_Nm, I_Nd, I_Wd, I_Wd0, I_Pg, bt])
theorem s_Pg_binding {a0 : Int32} {post : Int32 → Unit → Prop} (hp : ∀ r u, True → post r u) : wp_Pg_binding a0 post := by
  unfold wp_Pg_binding
  refine ⟨fun h0 => ?_, fun h1 => ?_, fun h2 => ?_, fun h3 => ?_, fun h4 => ?_, fun h5 => ?_⟩
  · exact hp _ _ (by first | assumption | trivial | grind [I_Nm, I_Nd, I_Wd, I_Wd0, I_Pg, bt])
  · exact hp _ _ (by first | assumption | trivial | grind [I_Nm, I_Nd, I_Wd, I_Wd0, I_Pg, bt])
  · exact hp _ _ (by first | assumption | trivial | grind [I_Nm, I_Nd, I_Wd, I_Wd0, I_Pg, bt])
  · exact hp _ _ (by first | assumption | trivial | grind [I_Nm, I_Nd, I_Wd, I_Wd0, I_Pg, bt])
  · exact hp _ _ (by first | assumption | trivial | grind [I_Nm, I_Nd, I_Wd, I_Wd0, I_Pg, bt])
  · exact hp _ _ (by first | assumption | trivial | grind [I_Nm, I_Nd, I_Wd, I_Wd0, I_Pg, bt])
theorem s_Pg_isBracketed {z_this : T_Pg} {z_this_nodes : T_Nd} {a1 : Int32} {post : Int32 → Unit → Prop} (hp : ∀ r u, (r = 0 ∨ r = 1) → post r u) : wp_Pg_isBracketed z_this z_this_nodes a1 post := by
  unfold wp_Pg_isBracketed
  refine s_Nd_parentOf (fun r1 u1 hq0 => ?_)
  refine s_Nd_kindOf (fun r2 u2 hq1 => ?_)
  refine s_Pg_binding (fun r3 u3 hq2 => ?_)
  refine s_Nd_kindOf (fun r4 u4 hq3 => ?_)
  refine s_Pg_binding (fun r5 u5 hq4 => ?_)
  refine ⟨fun h5 => ?_, fun h6 => ?_⟩
  · exact hp _ _ (by first | assumption | trivial | grind [I_Nm, I_Nd, I_Wd, I_Wd0, I_Pg, bt])
  · refine s_Pg_binding (fun r6 u6 hq7 => ?_)
    refine ⟨fun h8 => ?_, fun h9 => ?_⟩
    · exact hp _ _ (by first | assumption | trivial | grind [I_Nm, I_Nd, I_Wd, I_Wd0, I_Pg, bt])
    · refine ⟨fun h10 => ?_, fun h11 => ?_⟩
      · exact hp _ _ (by first | assumption | trivial | grind [I_Nm, I_Nd, I_Wd, I_Wd0, I_Pg, bt])
      · refine ⟨fun h12 => ?_, fun h13 => ?_⟩
        · refine s_Nd_firstOf (fun r7 u7 hq14 => ?_)
          refine ⟨fun h15 => ?_, fun h16 => ?_⟩
          · exact hp _ _ (by first | assumption | trivial | grind [I_Nm, I_Nd, I_Wd, I_Wd0, I_Pg, bt])
          · exact hp _ _ (by first | assumption | trivial | grind [I_Nm, I_Nd, I_Wd, I_Wd0, I_Pg, bt])
        · exact hp _ _ (by first | assumption | trivial | grind [I_Nm, I_Nd, I_Wd, I_Wd0, I_Pg, bt])
theorem s_Pg_enter {z_this : T_Pg} {z_this_keywords : T_Kw} {z_this_names : T_Nm} {z_this_nodes : T_Nd} {a1 : Int32} {post : Unit → T_Pg → Prop} (p0 : I_Pg z_this) (hp : ∀ r u, I_Pg u → post r u) : wp_Pg_enter z_this z_this_keywords z_this_names z_this_nodes a1 post := by
  unfold wp_Pg_enter
  refine s_Nd_kindOf (fun r1 u1 hq0 => ?_)
  refine ⟨fun h1 => ?_, fun h2 => ?_, fun h3 => ?_, fun h4 => ?_, fun h5 => ?_⟩
  · refine s_Nd_valueOf (fun r2 u2 hq6 => ?_)
    refine s_Pg_putAmount (by first | assumption | trivial | grind [I_Nm, I_Nd, I_Wd, I_Wd0, I_Pg, bt]) (fun r3 u3 hq7 => ?_)
    refine s_Nd_measureOf (fun r4 u4 hq8 => ?_)
    refine s_Pg_putUnit (by first | assumption | trivial | grind [I_Nm, I_Nd, I_Wd, I_Wd0, I_Pg, bt]) (fun r5 u5 hq9 => ?_)
    exact hp _ _ (by first | assumption | trivial | grind [I_Nm, I_Nd, I_Wd, I_Wd0, I_Pg, bt])
  · refine s_Nd_subjectOf (fun r6 u6 hq6 => ?_)
    refine s_Nm_lettersOf (fun r7 u7 hq7 => ?_)
    refine s_Pg_putLetters (by first | assumption | trivial | grind [I_Nm, I_Nd, I_Wd, I_Wd0, I_Pg, bt]) (fun r8 u8 hq8 => ?_)
    exact hp _ _ (by first | assumption | trivial | grind [I_Nm, I_Nd, I_Wd, I_Wd0, I_Pg, bt])
  · refine s_Pg_putSign (by first | assumption | trivial | grind [I_Nm, I_Nd, I_Wd, I_Wd0, I_Pg, bt]) (fun r9 u9 hq6 => ?_)
    exact hp _ _ (by first | assumption | trivial | grind [I_Nm, I_Nd, I_Wd, I_Wd0, I_Pg, bt])
  · refine s_Pg_putSign (by first | assumption | trivial | grind [I_Nm, I_Nd, I_Wd, I_Wd0, I_Pg, bt]) (fun r10 u10 hq6 => ?_)
    exact hp _ _ (by first | assumption | trivial | grind [I_Nm, I_Nd, I_Wd, I_Wd0, I_Pg, bt])
  · refine s_Nd_kindOf (fun r11 u11 hq6 => ?_)
    refine ⟨fun h7 => ?_, fun h8 => ?_⟩
    · refine s_Pg_isBracketed (fun r12 u12 hq9 => ?_)
      refine ⟨fun h10 => ?_, fun h11 => ?_⟩
      · exact hp _ _ (by first | assumption | trivial | grind [I_Nm, I_Nd, I_Wd, I_Wd0, I_Pg, bt])
      · refine s_Pg_putSign (by first | assumption | trivial | grind [I_Nm, I_Nd, I_Wd, I_Wd0, I_Pg, bt]) (fun r13 u13 hq12 => ?_)
        exact hp _ _ (by first | assumption | trivial | grind [I_Nm, I_Nd, I_Wd, I_Wd0, I_Pg, bt])
    · refine s_Pg_beginStatement (by first | assumption | trivial | grind [I_Nm, I_Nd, I_Wd, I_Wd0, I_Pg, bt]) (fun r14 u14 hq9 => ?_)
      exact hp _ _ (by first | assumption | trivial | grind [I_Nm, I_Nd, I_Wd, I_Wd0, I_Pg, bt])
theorem s_Pg_leave {z_this : T_Pg} {z_this_nodes : T_Nd} {a1 : Int32} {post : Unit → T_Pg → Prop} (p0 : I_Pg z_this) (hp : ∀ r u, I_Pg u → post r u) : wp_Pg_leave z_this z_this_nodes a1 post := by
  unfold wp_Pg_leave
  refine s_Nd_kindOf (fun r1 u1 hq0 => ?_)
  refine ⟨fun h1 => ?_, fun h2 => ?_⟩
  · refine s_Pg_beginLine (by first | assumption | trivial | grind [I_Nm, I_Nd, I_Wd, I_Wd0, I_Pg, bt]) (fun r6 u6 hq3 => ?_)
    refine s_Pg_putSign (by first | assumption | trivial | grind [I_Nm, I_Nd, I_Wd, I_Wd0, I_Pg, bt]) (fun r7 u7 hq4 => ?_)
    exact hp _ _ (by first | assumption | trivial | grind [I_Nm, I_Nd, I_Wd, I_Wd0, I_Pg, bt])
  · refine s_Nd_endsWithSemicolon (fun r2 u2 hq3 => ?_)
    refine ⟨fun h4 => ?_, fun h5 => ?_⟩
    · refine s_Pg_isBracketed (fun r3 u3 hq6 => ?_)
      refine ⟨fun h7 => ?_, fun h8 => ?_⟩
      · exact hp _ _ (by first | assumption | trivial | grind [I_Nm, I_Nd, I_Wd, I_Wd0, I_Pg, bt])
      · refine s_Pg_putSign (by first | assumption | trivial | grind [I_Nm, I_Nd, I_Wd, I_Wd0, I_Pg, bt]) (fun r4 u4 hq9 => ?_)
        exact hp _ _ (by first | assumption | trivial | grind [I_Nm, I_Nd, I_Wd, I_Wd0, I_Pg, bt])
    · refine s_Pg_putSign (by first | assumption | trivial | grind [I_Nm, I_Nd, I_Wd, I_Wd0, I_Pg, bt]) (fun r5 u5 hq6 => ?_)
      exact hp _ _ (by first | assumption | trivial | grind [I_Nm, I_Nd, I_Wd, I_Wd0, I_Pg, bt])
theorem s_Pg_putBehind {z_this : T_Pg} {z_this_keywords : T_Kw} {z_this_nodes : T_Nd} {a1 : Int32} {post : Unit → T_Pg → Prop} (p0 : I_Pg z_this) (hp : ∀ r u, I_Pg u → post r u) : wp_Pg_putBehind z_this z_this_keywords z_this_nodes a1 post := by
  unfold wp_Pg_putBehind
  refine s_Nd_parentOf (fun r1 u1 hq0 => ?_)
  refine s_Nd_kindOf (fun r2 u2 hq1 => ?_)
  refine s_Nd_kindOf (fun r3 u3 hq2 => ?_)
  refine ⟨fun h3 => ?_, fun h4 => ?_⟩
  · refine ⟨fun h5 => ?_, fun h6 => ?_⟩
    · refine ⟨fun h7 => ?_, fun h8 => ?_⟩
      · refine s_Kw_lettersOf (fun r28 u28 hq9 => ?_)
        refine s_Pg_putLetters (by first | assumption | trivial | grind [I_Nm, I_Nd, I_Wd, I_Wd0, I_Pg, bt]) (fun r29 u29 hq10 => ?_)
        exact hp _ _ (by first | assumption | trivial | grind [I_Nm, I_Nd, I_Wd, I_Wd0, I_Pg, bt])
      · refine ⟨fun h9 => ?_, fun h10 => ?_⟩
        · refine ⟨fun h11 => ?_, fun h12 => ?_⟩
          · refine ⟨fun h13 => ?_, fun h14 => ?_⟩
            · refine ⟨fun h15 => ?_, fun h16 => ?_⟩
              · exact hp _ _ (by first | assumption | trivial | grind [I_Nm, I_Nd, I_Wd, I_Wd0, I_Pg, bt])
              · refine s_Kw_lettersOf (fun r24 u24 hq17 => ?_)
                refine s_Pg_putLetters (by first | assumption | trivial | grind [I_Nm, I_Nd, I_Wd, I_Wd0, I_Pg, bt]) (fun r25 u25 hq18 => ?_)
                exact hp _ _ (by first | assumption | trivial | grind [I_Nm, I_Nd, I_Wd, I_Wd0, I_Pg, bt])
            · exact hp _ _ (by first | assumption | trivial | grind [I_Nm, I_Nd, I_Wd, I_Wd0, I_Pg, bt])
          · refine s_Kw_lettersOf (fun r26 u26 hq13 => ?_)
            refine s_Pg_putLetters (by first | assumption | trivial | grind [I_Nm, I_Nd, I_Wd, I_Wd0, I_Pg, bt]) (fun r27 u27 hq14 => ?_)
            exact hp _ _ (by first | assumption | trivial | grind [I_Nm, I_Nd, I_Wd, I_Wd0, I_Pg, bt])
        · refine ⟨fun h11 => ?_, fun h12 => ?_⟩
          · refine ⟨fun h13 => ?_, fun h14 => ?_⟩
            · exact hp _ _ (by first | assumption | trivial | grind [I_Nm, I_Nd, I_Wd, I_Wd0, I_Pg, bt])
            · refine s_Kw_lettersOf (fun r22 u22 hq15 => ?_)
              refine s_Pg_putLetters (by first | assumption | trivial | grind [I_Nm, I_Nd, I_Wd, I_Wd0, I_Pg, bt]) (fun r23 u23 hq16 => ?_)
              exact hp _ _ (by first | assumption | trivial | grind [I_Nm, I_Nd, I_Wd, I_Wd0, I_Pg, bt])
          · exact hp _ _ (by first | assumption | trivial | grind [I_Nm, I_Nd, I_Wd, I_Wd0, I_Pg, bt])
    · refine ⟨fun h7 => ?_, fun h8 => ?_⟩
      · refine ⟨fun h9 => ?_, fun h10 => ?_⟩
        · refine s_Kw_lettersOf (fun r36 u36 hq11 => ?_)
          refine s_Pg_putLetters (by first | assumption | trivial | grind [I_Nm, I_Nd, I_Wd, I_Wd0, I_Pg, bt]) (fun r37 u37 hq12 => ?_)
          exact hp _ _ (by first | assumption | trivial | grind [I_Nm, I_Nd, I_Wd, I_Wd0, I_Pg, bt])
        · refine ⟨fun h11 => ?_, fun h12 => ?_⟩
          · refine ⟨fun h13 => ?_, fun h14 => ?_⟩
            · refine ⟨fun h15 => ?_, fun h16 => ?_⟩
              · refine ⟨fun h17 => ?_, fun h18 => ?_⟩
                · exact hp _ _ (by first | assumption | trivial | grind [I_Nm, I_Nd, I_Wd, I_Wd0, I_Pg, bt])
                · refine s_Kw_lettersOf (fun r32 u32 hq19 => ?_)
                  refine s_Pg_putLetters (by first | assumption | trivial | grind [I_Nm, I_Nd, I_Wd, I_Wd0, I_Pg, bt]) (fun r33 u33 hq20 => ?_)
                  exact hp _ _ (by first | assumption | trivial | grind [I_Nm, I_Nd, I_Wd, I_Wd0, I_Pg, bt])
              · exact hp _ _ (by first | assumption | trivial | grind [I_Nm, I_Nd, I_Wd, I_Wd0, I_Pg, bt])
            · refine s_Kw_lettersOf (fun r34 u34 hq15 => ?_)
              refine s_Pg_putLetters (by first | assumption | trivial | grind [I_Nm, I_Nd, I_Wd, I_Wd0, I_Pg, bt]) (fun r35 u35 hq16 => ?_)
              exact hp _ _ (by first | assumption | trivial | grind [I_Nm, I_Nd, I_Wd, I_Wd0, I_Pg, bt])
          · refine ⟨fun h13 => ?_, fun h14 => ?_⟩
            · refine ⟨fun h15 => ?_, fun h16 => ?_⟩
              · exact hp _ _ (by first | assumption | trivial | grind [I_Nm, I_Nd, I_Wd, I_Wd0, I_Pg, bt])
              · refine s_Kw_lettersOf (fun r30 u30 hq17 => ?_)
                refine s_Pg_putLetters (by first | assumption | trivial | grind [I_Nm, I_Nd, I_Wd, I_Wd0, I_Pg, bt]) (fun r31 u31 hq18 => ?_)
                exact hp _ _ (by first | assumption | trivial | grind [I_Nm, I_Nd, I_Wd, I_Wd0, I_Pg, bt])
            · exact hp _ _ (by first | assumption | trivial | grind [I_Nm, I_Nd, I_Wd, I_Wd0, I_Pg, bt])
      · refine ⟨(vin (c := 10) (by first | assumption | trivial | grind [I_Nm, I_Nd, I_Wd, I_Wd0, I_Pg, bt]) (by first | assumption | trivial | grind [I_Nm, I_Nd, I_Wd, I_Wd0, I_Pg, bt]) rfl), ?_⟩
        refine s_Pg_putSign (by first | assumption | trivial | grind [I_Nm, I_Nd, I_Wd, I_Wd0, I_Pg, bt]) (fun r39 u39 hq9 => ?_)
        exact hp _ _ (by first | assumption | trivial | grind [I_Nm, I_Nd, I_Wd, I_Wd0, I_Pg, bt])
  · refine ⟨fun h5 => ?_, fun h6 => ?_⟩
    · refine ⟨fun h7 => ?_, fun h8 => ?_⟩
      · refine s_Kw_lettersOf (fun r10 u10 hq9 => ?_)
        refine s_Pg_putLetters (by first | assumption | trivial | grind [I_Nm, I_Nd, I_Wd, I_Wd0, I_Pg, bt]) (fun r11 u11 hq10 => ?_)
        exact hp _ _ (by first | assumption | trivial | grind [I_Nm, I_Nd, I_Wd, I_Wd0, I_Pg, bt])
      · refine ⟨fun h9 => ?_, fun h10 => ?_⟩
        · refine ⟨fun h11 => ?_, fun h12 => ?_⟩
          · refine ⟨fun h13 => ?_, fun h14 => ?_⟩
            · refine ⟨fun h15 => ?_, fun h16 => ?_⟩
              · exact hp _ _ (by first | assumption | trivial | grind [I_Nm, I_Nd, I_Wd, I_Wd0, I_Pg, bt])
              · refine s_Kw_lettersOf (fun r6 u6 hq17 => ?_)
                refine s_Pg_putLetters (by first | assumption | trivial | grind [I_Nm, I_Nd, I_Wd, I_Wd0, I_Pg, bt]) (fun r7 u7 hq18 => ?_)
                exact hp _ _ (by first | assumption | trivial | grind [I_Nm, I_Nd, I_Wd, I_Wd0, I_Pg, bt])
            · exact hp _ _ (by first | assumption | trivial | grind [I_Nm, I_Nd, I_Wd, I_Wd0, I_Pg, bt])
          · refine s_Kw_lettersOf (fun r8 u8 hq13 => ?_)
            refine s_Pg_putLetters (by first | assumption | trivial | grind [I_Nm, I_Nd, I_Wd, I_Wd0, I_Pg, bt]) (fun r9 u9 hq14 => ?_)
            exact hp _ _ (by first | assumption | trivial | grind [I_Nm, I_Nd, I_Wd, I_Wd0, I_Pg, bt])
        · refine ⟨fun h11 => ?_, fun h12 => ?_⟩
          · refine ⟨fun h13 => ?_, fun h14 => ?_⟩
            · exact hp _ _ (by first | assumption | trivial | grind [I_Nm, I_Nd, I_Wd, I_Wd0, I_Pg, bt])
            · refine s_Kw_lettersOf (fun r4 u4 hq15 => ?_)
              refine s_Pg_putLetters (by first | assumption | trivial | grind [I_Nm, I_Nd, I_Wd, I_Wd0, I_Pg, bt]) (fun r5 u5 hq16 => ?_)
              exact hp _ _ (by first | assumption | trivial | grind [I_Nm, I_Nd, I_Wd, I_Wd0, I_Pg, bt])
          · exact hp _ _ (by first | assumption | trivial | grind [I_Nm, I_Nd, I_Wd, I_Wd0, I_Pg, bt])
    · refine ⟨fun h7 => ?_, fun h8 => ?_⟩
      · refine ⟨fun h9 => ?_, fun h10 => ?_⟩
        · refine s_Kw_lettersOf (fun r18 u18 hq11 => ?_)
          refine s_Pg_putLetters (by first | assumption | trivial | grind [I_Nm, I_Nd, I_Wd, I_Wd0, I_Pg, bt]) (fun r19 u19 hq12 => ?_)
          exact hp _ _ (by first | assumption | trivial | grind [I_Nm, I_Nd, I_Wd, I_Wd0, I_Pg, bt])
        · refine ⟨fun h11 => ?_, fun h12 => ?_⟩
          · refine ⟨fun h13 => ?_, fun h14 => ?_⟩
            · refine ⟨fun h15 => ?_, fun h16 => ?_⟩
              · refine ⟨fun h17 => ?_, fun h18 => ?_⟩
                · exact hp _ _ (by first | assumption | trivial | grind [I_Nm, I_Nd, I_Wd, I_Wd0, I_Pg, bt])
                · refine s_Kw_lettersOf (fun r14 u14 hq19 => ?_)
                  refine s_Pg_putLetters (by first | assumption | trivial | grind [I_Nm, I_Nd, I_Wd, I_Wd0, I_Pg, bt]) (fun r15 u15 hq20 => ?_)
                  exact hp _ _ (by first | assumption | trivial | grind [I_Nm, I_Nd, I_Wd, I_Wd0, I_Pg, bt])
              · exact hp _ _ (by first | assumption | trivial | grind [I_Nm, I_Nd, I_Wd, I_Wd0, I_Pg, bt])
            · refine s_Kw_lettersOf (fun r16 u16 hq15 => ?_)
              refine s_Pg_putLetters (by first | assumption | trivial | grind [I_Nm, I_Nd, I_Wd, I_Wd0, I_Pg, bt]) (fun r17 u17 hq16 => ?_)
              exact hp _ _ (by first | assumption | trivial | grind [I_Nm, I_Nd, I_Wd, I_Wd0, I_Pg, bt])
          · refine ⟨fun h13 => ?_, fun h14 => ?_⟩
            · refine ⟨fun h15 => ?_, fun h16 => ?_⟩
              · exact hp _ _ (by first | assumption | trivial | grind [I_Nm, I_Nd, I_Wd, I_Wd0, I_Pg, bt])
              · refine s_Kw_lettersOf (fun r12 u12 hq17 => ?_)
                refine s_Pg_putLetters (by first | assumption | trivial | grind [I_Nm, I_Nd, I_Wd, I_Wd0, I_Pg, bt]) (fun r13 u13 hq18 => ?_)
                exact hp _ _ (by first | assumption | trivial | grind [I_Nm, I_Nd, I_Wd, I_Wd0, I_Pg, bt])
            · exact hp _ _ (by first | assumption | trivial | grind [I_Nm, I_Nd, I_Wd, I_Wd0, I_Pg, bt])
      · refine ⟨(vin (c := 10) (by first | assumption | trivial | grind [I_Nm, I_Nd, I_Wd, I_Wd0, I_Pg, bt]) (by first | assumption | trivial | grind [I_Nm, I_Nd, I_Wd, I_Wd0, I_Pg, bt]) rfl), ?_⟩
        refine s_Pg_putSign (by first | assumption | trivial | grind [I_Nm, I_Nd, I_Wd, I_Wd0, I_Pg, bt]) (fun r21 u21 hq9 => ?_)
        exact hp _ _ (by first | assumption | trivial | grind [I_Nm, I_Nd, I_Wd, I_Wd0, I_Pg, bt])
theorem l_Pg_leaveUpTo_L5 {z_this_keywords : T_Kw} {z_this_nodes : T_Nd} {K : T_Pg → Int32 → Int32 → Int32 → Int32 → Prop} {post : Int32 → T_Pg → Prop} (hK : ∀ z_this x1 x2 x3 x4, ((0 : Int32) ≤ x4 ∧ x4 ≤ 1000 ∧ I_Pg z_this) → K z_this x1 x2 x3 x4) (hp : ∀ r u, I_Pg u → post r u) : ∀ (n9 : Nat) (z_this : T_Pg) (x1 : Int32) (x2 : Int32) (x3 : Int32) (x4 : Int32), (0 : Int32) ≤ x4 → x4 ≤ 1000 → I_Pg z_this → (1000 : Int32).toInt - (x4).toInt < ((n9 : Nat) : Int) → wp_Pg_leaveUpTo_L5 z_this_keywords z_this_nodes K post n9 z_this x1 x2 x3 x4 := by
  intro n9
  induction n9 with
  | zero => intro z_this x1 x2 x3 x4 i0 i1 i2 hm; exact (i_meas0 i1 hm).elim
  | succ n9 ih =>
    intro z_this x1 x2 x3 x4 i0 i1 i2 hm
    rw [wp_Pg_leaveUpTo_L5]
    refine ⟨fun h0 => ?_, fun h1 => ?_⟩
    · exact hK _ _ _ _ _ (by first | assumption | trivial | grind [I_Nm, I_Nd, I_Wd, I_Wd0, I_Pg, bt])
    · refine ⟨fun h2 => ?_, fun h3 => ?_⟩
      · exact hK _ _ _ _ _ (by first | assumption | trivial | grind [I_Nm, I_Nd, I_Wd, I_Wd0, I_Pg, bt])
      · refine s_Pg_leave (by first | assumption | trivial | grind [I_Nm, I_Nd, I_Wd, I_Wd0, I_Pg, bt]) (fun r1 u1 hq4 => ?_)
        refine ⟨fun h5 => ?_, fun h6 => ?_⟩
        · exact hp _ _ (by first | assumption | trivial | grind [I_Nm, I_Nd, I_Wd, I_Wd0, I_Pg, bt])
        · refine s_Nd_nextOf (fun r2 u2 hq7 => ?_)
          refine ⟨fun h8 => ?_, fun h9 => ?_⟩
          · refine s_Nd_parentOf (fun r3 u3 hq10 => ?_)
            exact ih _ _ _ _ _ (by first | assumption | trivial | grind [I_Nm, I_Nd, I_Wd, I_Wd0, I_Pg, bt]) (by first | assumption | trivial | grind [I_Nm, I_Nd, I_Wd, I_Wd0, I_Pg, bt]) (by first | assumption | trivial | grind [I_Nm, I_Nd, I_Wd, I_Wd0, I_Pg, bt]) (i_meas (by first | assumption | trivial | grind [I_Nm, I_Nd, I_Wd, I_Wd0, I_Pg, bt]) (by first | assumption | trivial | grind [I_Nm, I_Nd, I_Wd, I_Wd0, I_Pg, bt]) hm)
          · refine s_Pg_putBehind (by first | assumption | trivial | grind [I_Nm, I_Nd, I_Wd, I_Wd0, I_Pg, bt]) (fun r4 u4 hq10 => ?_)
            refine s_Nd_nextOf (fun r5 u5 hq11 => ?_)
            exact hp _ _ (by first | assumption | trivial | grind [I_Nm, I_Nd, I_Wd, I_Wd0, I_Pg, bt])
theorem s_Pg_leaveUpTo {z_this : T_Pg} {z_this_keywords : T_Kw} {z_this_nodes : T_Nd} {a1 : Int32} {a2 : Int32} {post : Int32 → T_Pg → Prop} (p0 : I_Pg z_this) (hp : ∀ r u, I_Pg u → post r u) : wp_Pg_leaveUpTo z_this z_this_keywords z_this_nodes a1 a2 post := by
  unfold wp_Pg_leaveUpTo
  refine ⟨5000, l_Pg_leaveUpTo_L5 (fun z_this x1 x2 x3 x4 hv0 => ?_) (fun r u hq => hp r u hq) 5000 _ _ _ _ _ (by first | assumption | trivial | grind [I_Nm, I_Nd, I_Wd, I_Wd0, I_Pg, bt]) (by first | assumption | trivial | grind [I_Nm, I_Nd, I_Wd, I_Wd0, I_Pg, bt]) (by first | assumption | trivial | grind [I_Nm, I_Nd, I_Wd, I_Wd0, I_Pg, bt]) (by decide)⟩
  exact hp _ _ (by first | assumption | trivial | grind [I_Nm, I_Nd, I_Wd, I_Wd0, I_Pg, bt])
theorem l_Pg_layNode_L4 {z_this_keywords : T_Kw} {z_this_names : T_Nm} {z_this_nodes : T_Nd} {K : T_Pg → Int32 → Int32 → Int32 → Prop} {post : Unit → T_Pg → Prop} (hK : ∀ z_this x1 x2 x3, ((0 : Int32) ≤ x3 ∧ x3 ≤ 1000 ∧ I_Pg z_this) → K z_this x1 x2 x3) (hp : ∀ r u, I_Pg u → post r u) : ∀ (n9 : Nat) (z_this : T_Pg) (x1 : Int32) (x2 : Int32) (x3 : Int32), (0 : Int32) ≤ x3 → x3 ≤ 1000 → I_Pg z_this → (1000 : Int32).toInt - (x3).toInt < ((n9 : Nat) : Int) → wp_Pg_layNode_L4 z_this_keywords z_this_names z_this_nodes K post n9 z_this x1 x2 x3 := by
  intro n9
  induction n9 with
  | zero => intro z_this x1 x2 x3 i0 i1 i2 hm; exact (i_meas0 i1 hm).elim
  | succ n9 ih =>
    intro z_this x1 x2 x3 i0 i1 i2 hm
    rw [wp_Pg_layNode_L4]
    refine ⟨fun h0 => ?_, fun h1 => ?_⟩
    · exact hK _ _ _ _ (by first | assumption | trivial | grind [I_Nm, I_Nd, I_Wd, I_Wd0, I_Pg, bt])
    · refine ⟨fun h2 => ?_, fun h3 => ?_⟩
      · exact hK _ _ _ _ (by first | assumption | trivial | grind [I_Nm, I_Nd, I_Wd, I_Wd0, I_Pg, bt])
      · refine s_Pg_enter (by first | assumption | trivial | grind [I_Nm, I_Nd, I_Wd, I_Wd0, I_Pg, bt]) (fun r1 u1 hq4 => ?_)
        refine s_Nd_firstOf (fun r2 u2 hq5 => ?_)
        refine ⟨fun h6 => ?_, fun h7 => ?_⟩
        · refine s_Pg_leaveUpTo (by first | assumption | trivial | grind [I_Nm, I_Nd, I_Wd, I_Wd0, I_Pg, bt]) (fun r3 u3 hq8 => ?_)
          exact ih _ _ _ _ (by first | assumption | trivial | grind [I_Nm, I_Nd, I_Wd, I_Wd0, I_Pg, bt]) (by first | assumption | trivial | grind [I_Nm, I_Nd, I_Wd, I_Wd0, I_Pg, bt]) (by first | assumption | trivial | grind [I_Nm, I_Nd, I_Wd, I_Wd0, I_Pg, bt]) (i_meas (by first | assumption | trivial | grind [I_Nm, I_Nd, I_Wd, I_Wd0, I_Pg, bt]) (by first | assumption | trivial | grind [I_Nm, I_Nd, I_Wd, I_Wd0, I_Pg, bt]) hm)
        · exact ih _ _ _ _ (by first | assumption | trivial | grind [I_Nm, I_Nd, I_Wd, I_Wd0, I_Pg, bt]) (by first | assumption | trivial | grind [I_Nm, I_Nd, I_Wd, I_Wd0, I_Pg, bt]) (by first | assumption | trivial | grind [I_Nm, I_Nd, I_Wd, I_Wd0, I_Pg, bt]) (i_meas (by first | assumption | trivial | grind [I_Nm, I_Nd, I_Wd, I_Wd0, I_Pg, bt]) (by first | assumption | trivial | grind [I_Nm, I_Nd, I_Wd, I_Wd0, I_Pg, bt]) hm)
theorem s_Pg_layNode {z_this : T_Pg} {z_this_keywords : T_Kw} {z_this_names : T_Nm} {z_this_nodes : T_Nd} {a1 : Int32} {post : Unit → T_Pg → Prop} (p0 : I_Pg z_this) (hp : ∀ r u, I_Pg u → post r u) : wp_Pg_layNode z_this z_this_keywords z_this_names z_this_nodes a1 post := by
  unfold wp_Pg_layNode
  refine ⟨5000, l_Pg_layNode_L4 (fun z_this x1 x2 x3 hv0 => ?_) (fun r u hq => hp r u hq) 5000 _ _ _ _ (by first | assumption | trivial | grind [I_Nm, I_Nd, I_Wd, I_Wd0, I_Pg, bt]) (by first | assumption | trivial | grind [I_Nm, I_Nd, I_Wd, I_Wd0, I_Pg, bt]) (by first | assumption | trivial | grind [I_Nm, I_Nd, I_Wd, I_Wd0, I_Pg, bt]) (by decide)⟩
  exact hp _ _ (by first | assumption | trivial | grind [I_Nm, I_Nd, I_Wd, I_Wd0, I_Pg, bt])
theorem s_Pg_layDeclaration {z_this : T_Pg} {z_this_keywords : T_Kw} {z_this_names : T_Nm} {a1 : Int32} {post : Unit → T_Pg → Prop} (p0 : I_Pg z_this) (hp : ∀ r u, I_Pg u → post r u) : wp_Pg_layDeclaration z_this z_this_keywords z_this_names a1 post := by
  unfold wp_Pg_layDeclaration
  refine s_Pg_beginLine (by first | assumption | trivial | grind [I_Nm, I_Nd, I_Wd, I_Wd0, I_Pg, bt]) (fun r1 u1 hq0 => ?_)
  refine s_Nm_sortOf (fun r2 u2 hq1 => ?_)
  refine s_Kw_lettersOf (fun r3 u3 hq2 => ?_)
  refine s_Pg_putLetters (by first | assumption | trivial | grind [I_Nm, I_Nd, I_Wd, I_Wd0, I_Pg, bt]) (fun r4 u4 hq3 => ?_)
  refine s_Nm_lettersOf (fun r5 u5 hq4 => ?_)
  refine s_Pg_putLetters (by first | assumption | trivial | grind [I_Nm, I_Nd, I_Wd, I_Wd0, I_Pg, bt]) (fun r6 u6 hq5 => ?_)
  refine s_Nm_measureOf (fun r7 u7 hq6 => ?_)
  refine s_Pg_putUnit (by first | assumption | trivial | grind [I_Nm, I_Nd, I_Wd, I_Wd0, I_Pg, bt]) (fun r8 u8 hq7 => ?_)
  refine s_Pg_putSign (by first | assumption | trivial | grind [I_Nm, I_Nd, I_Wd, I_Wd0, I_Pg, bt]) (fun r9 u9 hq8 => ?_)
  exact hp _ _ (by first | assumption | trivial | grind [I_Nm, I_Nd, I_Wd, I_Wd0, I_Pg, bt])
theorem l_Pg_lay_L32 {z_a1 : T_Pr} {z_a1_names : T_Nm} {z_a1_nodes : T_Nd} {z_this_keywords : T_Kw} {K : T_Pg → Int32 → Int32 → Prop} {post : Unit → T_Pg → Prop} (hK : ∀ z_this x2 x3, ((0 : Int32) ≤ x3 ∧ x3 ≤ 100 ∧ I_Pg z_this ∧ I_Nm z_a1_names) → K z_this x2 x3) (hp : ∀ r u, I_Pg u → post r u) : ∀ (n9 : Nat) (z_this : T_Pg) (x2 : Int32) (x3 : Int32), (0 : Int32) ≤ x3 → x3 ≤ 100 → I_Pg z_this → I_Nm z_a1_names → (100 : Int32).toInt - (x3).toInt < ((n9 : Nat) : Int) → wp_Pg_lay_L32 z_a1 z_a1_names z_a1_nodes z_this_keywords K post n9 z_this x2 x3 := by
  intro n9
  induction n9 with
  | zero => intro z_this x2 x3 i0 i1 i2 i3 hm; exact (i_meas0 i1 hm).elim
  | succ n9 ih =>
    intro z_this x2 x3 i0 i1 i2 i3 hm
    rw [wp_Pg_lay_L32]
    refine s_Nm_count (by first | assumption | trivial | grind [I_Nm, I_Nd, I_Wd, I_Wd0, I_Pg, bt]) (fun r4 u4 hq0 => ?_)
    refine ⟨fun h1 => ?_, fun h2 => ?_⟩
    · exact hK _ _ _ (by first | assumption | trivial | grind [I_Nm, I_Nd, I_Wd, I_Wd0, I_Pg, bt])
    · refine s_Nm_sortOf (fun r5 u5 hq3 => ?_)
      refine ⟨fun h4 => ?_, fun h5 => ?_⟩
      · refine s_Pg_layNode (by first | assumption | trivial | grind [I_Nm, I_Nd, I_Wd, I_Wd0, I_Pg, bt]) (fun r7 u7 hq6 => ?_)
        refine s_Nd_nextOf (fun r8 u8 hq7 => ?_)
        exact ih _ _ _ (by first | assumption | trivial | grind [I_Nm, I_Nd, I_Wd, I_Wd0, I_Pg, bt]) (by first | assumption | trivial | grind [I_Nm, I_Nd, I_Wd, I_Wd0, I_Pg, bt]) (by first | assumption | trivial | grind [I_Nm, I_Nd, I_Wd, I_Wd0, I_Pg, bt]) (by first | assumption | trivial | grind [I_Nm, I_Nd, I_Wd, I_Wd0, I_Pg, bt]) (i_meas (by first | assumption | trivial | grind [I_Nm, I_Nd, I_Wd, I_Wd0, I_Pg, bt]) (by first | assumption | trivial | grind [I_Nm, I_Nd, I_Wd, I_Wd0, I_Pg, bt]) hm)
      · refine s_Pg_layDeclaration (by first | assumption | trivial | grind [I_Nm, I_Nd, I_Wd, I_Wd0, I_Pg, bt]) (fun r6 u6 hq6 => ?_)
        exact ih _ _ _ (by first | assumption | trivial | grind [I_Nm, I_Nd, I_Wd, I_Wd0, I_Pg, bt]) (by first | assumption | trivial | grind [I_Nm, I_Nd, I_Wd, I_Wd0, I_Pg, bt]) (by first | assumption | trivial | grind [I_Nm, I_Nd, I_Wd, I_Wd0, I_Pg, bt]) (by first | assumption | trivial | grind [I_Nm, I_Nd, I_Wd, I_Wd0, I_Pg, bt]) (i_meas (by first | assumption | trivial | grind [I_Nm, I_Nd, I_Wd, I_Wd0, I_Pg, bt]) (by first | assumption | trivial | grind [I_Nm, I_Nd, I_Wd, I_Wd0, I_Pg, bt]) hm)
theorem l_Pg_lay_L87 {z_a1 : T_Pr} {z_a1_names : T_Nm} {z_a1_nodes : T_Nd} {z_this_keywords : T_Kw} {K : T_Pg → Int32 → Int32 → Prop} {post : Unit → T_Pg → Prop} (hK : ∀ z_this x2 x3, ((0 : Int32) ≤ x3 ∧ x3 ≤ 1000 ∧ I_Pg z_this) → K z_this x2 x3) (hp : ∀ r u, I_Pg u → post r u) : ∀ (n9 : Nat) (z_this : T_Pg) (x2 : Int32) (x3 : Int32), (0 : Int32) ≤ x3 → x3 ≤ 1000 → I_Pg z_this → (1000 : Int32).toInt - (x3).toInt < ((n9 : Nat) : Int) → wp_Pg_lay_L87 z_a1 z_a1_names z_a1_nodes z_this_keywords K post n9 z_this x2 x3 := by
  intro n9
  induction n9 with
  | zero => intro z_this x2 x3 i0 i1 i2 hm; exact (i_meas0 i1 hm).elim
  | succ n9 ih =>
    intro z_this x2 x3 i0 i1 i2 hm
    rw [wp_Pg_lay_L87]
    refine ⟨fun h0 => ?_, fun h1 => ?_⟩
    · exact hK _ _ _ (by first | assumption | trivial | grind [I_Nm, I_Nd, I_Wd, I_Wd0, I_Pg, bt])
    · refine ⟨fun h2 => ?_, fun h3 => ?_⟩
      · exact hK _ _ _ (by first | assumption | trivial | grind [I_Nm, I_Nd, I_Wd, I_Wd0, I_Pg, bt])
      · refine s_Pg_layNode (by first | assumption | trivial | grind [I_Nm, I_Nd, I_Wd, I_Wd0, I_Pg, bt]) (fun r9 u9 hq4 => ?_)
        refine s_Nd_nextOf (fun r10 u10 hq5 => ?_)
        exact ih _ _ _ (by first | assumption | trivial | grind [I_Nm, I_Nd, I_Wd, I_Wd0, I_Pg, bt]) (by first | assumption | trivial | grind [I_Nm, I_Nd, I_Wd, I_Wd0, I_Pg, bt]) (by first | assumption | trivial | grind [I_Nm, I_Nd, I_Wd, I_Wd0, I_Pg, bt]) (i_meas (by first | assumption | trivial | grind [I_Nm, I_Nd, I_Wd, I_Wd0, I_Pg, bt]) (by first | assumption | trivial | grind [I_Nm, I_Nd, I_Wd, I_Wd0, I_Pg, bt]) hm)
theorem s_Pg_lay {z_a1 : T_Pr} {z_a1_names : T_Nm} {z_a1_nodes : T_Nd} {z_this : T_Pg} {z_this_keywords : T_Kw} {post : Unit → T_Pg → Prop} (p0 : I_Nm z_a1_names) (p1 : I_Nd z_a1_nodes) (p2 : I_Pg z_this) (hp : ∀ r u, I_Pg u → post r u) : wp_Pg_lay z_a1 z_a1_names z_a1_nodes z_this z_this_keywords post := by
  unfold wp_Pg_lay
  refine s_Pr_names (fun r1 u1 hq0 => ?_)
  refine s_Pr_nodes (fun r2 u2 hq1 => ?_)
  refine s_Nd_firstOf (fun r3 u3 hq2 => ?_)
  refine ⟨5000, l_Pg_lay_L32 (fun z_this x2 x3 hv3 => ?_) (fun r u hq => hp r u hq) 5000 _ _ _ (by first | assumption | trivial | grind [I_Nm, I_Nd, I_Wd, I_Wd0, I_Pg, bt]) (by first | assumption | trivial | grind [I_Nm, I_Nd, I_Wd, I_Wd0, I_Pg, bt]) (by first | assumption | trivial | grind [I_Nm, I_Nd, I_Wd, I_Wd0, I_Pg, bt]) (by first | assumption | trivial | grind [I_Nm, I_Nd, I_Wd, I_Wd0, I_Pg, bt]) (by decide)⟩
  refine ⟨5000, l_Pg_lay_L87 (fun z_this x2 x3 hv4 => ?_) (fun r u hq => hp r u hq) 5000 _ _ _ (by first | assumption | trivial | grind [I_Nm, I_Nd, I_Wd, I_Wd0, I_Pg, bt]) (by first | assumption | trivial | grind [I_Nm, I_Nd, I_Wd, I_Wd0, I_Pg, bt]) (by first | assumption | trivial | grind [I_Nm, I_Nd, I_Wd, I_Wd0, I_Pg, bt]) (by decide)⟩
  refine s_Pg_beginLine (by first | assumption | trivial | grind [I_Nm, I_Nd, I_Wd, I_Wd0, I_Pg, bt]) (fun r11 u11 hq5 => ?_)
  exact hp _ _ (by first | assumption | trivial | grind [I_Nm, I_Nd, I_Wd, I_Wd0, I_Pg, bt])
