theorem pT {c X Y : Prop} (hc : c) (x : X) : (c → X) ∧ (¬ c → Y) := ⟨fun _ => x, fun h => absurd hc h⟩
theorem pF {c X Y : Prop} (hc : ¬ c) (y : Y) : (c → X) ∧ (¬ c → Y) := ⟨fun h => absurd h hc, fun _ => y⟩
theorem i_nle {a b : Int32} (h : ¬ a ≤ b) : b.toInt < a.toInt := by rw [Int32.le_iff_toInt_le] at h; omega
theorem i_add1 {a : Int32} (h0 : 0 ≤ a.toInt) (h : a.toInt < 2147483647) : (a + (1 : Int32)).toInt = a.toInt + 1 := by
  rw [Int32.toInt_add, show (1 : Int32).toInt = 1 from rfl]; exact Int.bmod_eq_of_le (by omega) (by omega)
theorem kw_rank_any {a : Int32} {post : Int32 → Unit → Prop} (h : ∀ r, post r ()) : wp_Kw_rank a post := by
  unfold wp_Kw_rank
  exact ⟨fun _ => ⟨fun _ => h _, fun _ => ⟨fun _ => h _, fun _ => h _⟩⟩, fun _ => ⟨fun _ => ⟨fun _ => h _, fun _ => ⟨fun _ => h _, fun _ => h _⟩⟩, fun _ => h _⟩⟩
theorem kw_loop {K : T_Kw → Int32 → Int64 → Int32 → Prop} {post : Unit → T_Kw → Prop} (h : ∀ z x1 x2 x4, K z x1 x2 x4) : ∀ (n : Nat) (z : T_Kw) (x1 : Int32) (x2 : Int64) (x4 : Int32), 0 ≤ x4.toInt → x4.toInt ≤ 114 → 0 ≤ x1.toInt → x1.toInt ≤ 26 → 114 < x4.toInt + n → wp_Kw_init_L19 K post n z x1 x2 x4 := by
  intro n
  induction n with
  | zero => intro z x1 x2 x4 h1 h2 h3 h4 h5; exfalso; omega
  | succ n ih =>
    intro z x1 x2 x4 h1 h2 h3 h4 h5
    rw [wp_Kw_init_L19]
    refine ⟨fun _ => h _ _ _ _, fun hc => ?_⟩
    have e1 := i_nle hc
    rw [show (114 : Int32).toInt = 114 from rfl] at e1
    have e2 : (x4 + (1 : Int32)).toInt = x4.toInt + 1 := i_add1 (by omega) (by omega)
    refine ⟨vp_in_iff.mpr ⟨h1, by omega⟩, fun _ => ⟨fun hd => ih _ _ _ _ (by omega) (by omega) (by omega) (by omega) (by omega), fun hd => ?_⟩, fun _ => kw_rank_any (fun r => ih _ _ _ _ (by omega) (by omega) (by omega) (by omega) (by omega))⟩
    have e3 := i_nle hd
    rw [show (26 : Int32).toInt = 26 from rfl] at e3
    have e4 : (x1 + (1 : Int32)).toInt = x1.toInt + 1 := i_add1 (by omega) (by omega)
    exact ⟨vp_in_iff.mpr ⟨h3, by omega⟩, ih _ _ _ _ (by omega) (by omega) (by omega) (by omega) (by omega)⟩
theorem kw_any {post : Unit → T_Kw → Prop} (h : ∀ z, post () z) : wp_Kw_init post := by
  unfold wp_Kw_init
  exact ⟨120, kw_loop (fun z _ _ _ => h z) 120 _ _ _ _ (by decide) (by decide) (by decide) (by decide) (by decide)⟩
theorem p_clear {K : T_Mo → Int32 → Prop} {post : Unit → T_Mo → Prop} (h : ∀ z x, K z x) : ∀ (n : Nat) (z : T_Mo) (x1 : Int32), 0 ≤ x1.toInt → x1.toInt ≤ 64 → 64 < x1.toInt + n → wp_Mo_clear_L22 K post n z x1 := by
  intro n
  induction n with
  | zero => intro z x1 h1 h2 h3; exfalso; omega
  | succ n ih =>
    intro z x1 h1 h2 h3
    rw [wp_Mo_clear_L22]
    refine ⟨fun _ => h _ _, fun hc => ?_⟩
    have e1 := i_nle hc
    rw [show (64 : Int32).toInt = 64 from rfl] at e1
    have e2 : (x1 + (1 : Int32)).toInt = x1.toInt + 1 := i_add1 (by omega) (by omega)
    exact ⟨vp_in_iff.mpr ⟨h1, by omega⟩, ih _ _ (by omega) (by omega) (by omega)⟩
theorem p_marks {d : Nat} {K : T_Mo → Int32 → Int32 → Int32 → Prop} {post : Int32 → T_Mo → Prop} {x1 x2 : Int32} (h : ∀ z x, z.2.1.2.2.2.2 = 0 → z.2.2.1.1.1 = 0 → z.2.2.1.1.2 = 0 → K z x1 x2 x) : ∀ (n : Nat) (z : T_Mo) (x3 : Int32), z.2.1.2.2.2.2 = 0 → z.2.2.1.1.1 = 0 → z.2.2.1.1.2 = 0 → 0 ≤ x3.toInt → x3.toInt ≤ 100 → 100 < x3.toInt + n → wp_Mo_check_L17 d K post n z x1 x2 x3 := by
  intro n
  induction n with
  | zero => intro z x3 _ _ _ h1 h2 h3; exfalso; omega
  | succ n ih =>
    intro z x3 hz1 hz2 hz3 h1 h2 h3
    rw [wp_Mo_check_L17]
    refine ⟨fun _ => h _ _ hz1 hz2 hz3, fun hc => ?_⟩
    have e1 := i_nle hc
    rw [show (100 : Int32).toInt = 100 from rfl] at e1
    have e2 : (x3 + (1 : Int32)).toInt = x3.toInt + 1 := i_add1 (by omega) (by omega)
    exact ⟨vp_in_iff.mpr ⟨h1, by omega⟩, ih _ _ hz1 hz2 hz3 (by omega) (by omega) (by omega)⟩
theorem vin {x c : Int32} {n : Nat} (h0 : (0 : Int32) ≤ x) (h1 : x < c) (hc : c.toInt = n) : vp_in x n := by
  rw [Int32.le_iff_toInt_le] at h0; rw [Int32.lt_iff_toInt_lt] at h1
  have e : (0 : Int32).toInt = 0 := rfl
  exact vp_in_iff.mpr ⟨by omega, by omega⟩
theorem bar0 (a : Int64) : ¬ lg_cmp (((0 : Int64) >>> a) &&& (1 : Int64)) (1 : Int64) = 0 := by
  rw [lg_cmp_eq]
  have e : (0 : Int64) >>> a = 0 := by first | simp | (apply Int64.toBitVec_inj.mp; simp)
  rw [e]; decide
