/-- the digits of n from the power k on -/
def ds (n : Nat) : Nat → List Int32
  | 0 => [Int32.ofNat (48 + n % 10)]
  | k + 1 => Int32.ofNat (48 + n / 10 ^ (k + 1) % 10) :: ds n k
/-- the power of its first digit, k at most -/
def ld (n : Nat) : Nat → Nat
  | 0 => 0
  | k + 1 => if 10 ^ (k + 1) ≤ n then k + 1 else ld n k
theorem ds_len (n : Nat) : ∀ k, (ds n k).length = k + 1
  | 0 => rfl
  | k + 1 => by show (ds n k).length + 1 = _; rw [ds_len n k]
theorem ld_le (n : Nat) : ∀ k, ld n k ≤ k
  | 0 => Nat.le_refl _
  | k + 1 => by
    show (if 10 ^ (k + 1) ≤ n then k + 1 else ld n k) ≤ k + 1
    split
    · exact Nat.le_refl _
    · exact Nat.le_succ_of_le (ld_le n k)
theorem ld_pow (n : Nat) : ∀ k, ld n k = 0 ∨ 10 ^ (ld n k) ≤ n
  | 0 => Or.inl rfl
  | k + 1 => by
    show (if 10 ^ (k + 1) ≤ n then k + 1 else ld n k) = 0 ∨ 10 ^ (if 10 ^ (k + 1) ≤ n then k + 1 else ld n k) ≤ n
    split
    · rename_i h; exact Or.inr h
    · exact ld_pow n k
theorem ld_eq (n : Nat) : ∀ (k j : Nat), j ≤ k → (j = 0 ∨ 10 ^ j ≤ n) → n < 10 ^ (j + 1) → ld n k = j
  | 0, j, h1, h2, h3 => by have e : j = 0 := by omega
                           rw [e]; rfl
  | k + 1, j, h1, h2, h3 => by
    show (if 10 ^ (k + 1) ≤ n then k + 1 else ld n k) = j
    split
    · rename_i h
      rcases Nat.lt_or_ge j (k + 1) with q | q
      · have : 10 ^ (j + 1) ≤ 10 ^ (k + 1) := Nat.pow_le_pow_right (by omega) (by omega)
        omega
      · omega
    · rename_i h
      rcases Nat.lt_or_ge j (k + 1) with q | q
      · exact ld_eq n k j (by omega) h2 h3
      · have e : j = k + 1 := by omega
        rw [e] at h2
        rcases h2 with z | z
        · omega
        · exact absurd z h
theorem ds_dig {n : Nat} : ∀ (k : Nat) (c : Int32), c ∈ ds n k → 48 ≤ c.toInt ∧ c.toInt ≤ 57
  | 0, c, h => by
    have e : c = Int32.ofNat (48 + n % 10) := List.mem_singleton.mp h
    rw [e, on_toInt (by omega)]; omega
  | k + 1, c, h => by
    rcases List.mem_cons.mp h with e | e
    · rw [e, on_toInt (by omega)]; omega
    · exact ds_dig k c e
theorem pt10 {k : Nat} (h : k ≤ 8) : 10 ^ k ≤ 100000000 ∧ 0 < 10 ^ k := ⟨by
  have : 10 ^ k ≤ 10 ^ 8 := Nat.pow_le_pow_right (by omega) h
  exact this, Nat.pow_pos (by omega)⟩
theorem ofd {q : Nat} (h : q < 10) : 48 ≤ (Int32.ofNat (48 + q)).toInt ∧ (Int32.ofNat (48 + q)).toInt ≤ 57 ∧ (Int32.ofNat (48 + q)).toInt = 48 + (q : Int) := by
  rw [on_toInt (by omega)]; omega
theorem l64 {x : Int64} {n : Nat} (e : x.toInt = (n : Int)) : (0 : Int) ≤ x.toInt := by omega
theorem d64 {x y : Int64} {n p : Nat} (e : x.toInt = (n : Int)) (f : y.toInt = (p : Int)) (n9 : n < 9223372036854775808) (p0 : 0 < p) : (x / y).toInt = ((n / p : Nat) : Int) := by
  rw [Int64.toInt_div, e, f]
  have h : (n : Int).tdiv (p : Int) = ((n / p : Nat) : Int) := by
    rw [Int.tdiv_eq_ediv_of_nonneg (by omega)]; exact (Int.natCast_ediv n p).symm
  rw [h]
  have : n / p ≤ n := Nat.div_le_self _ _
  generalize n / p = q at this
  exact Int.bmod_eq_of_le (by omega) (by omega)
theorem m64 {x : Int64} {n p : Nat} {y : Int64} (e : x.toInt = (n : Int)) (f : y.toInt = (p : Int)) (n9 : n < 9223372036854775808) (p0 : 0 < p) (p9 : p < 9223372036854775808) : (x - x / y * y).toInt = ((n % p : Nat) : Int) := by
  have d := d64 e f n9 p0
  have dm := Nat.div_add_mod n p
  have le : p * (n / p) ≤ n := Nat.mul_div_le n p
  have hm : (x / y * y).toInt = ((p * (n / p) : Nat) : Int) := by
    rw [Int64.toInt_mul, d, f]
    have : ((n / p : Nat) : Int) * (p : Int) = ((p * (n / p) : Nat) : Int) := by rw [Nat.mul_comm, Int.natCast_mul]
    rw [this]
    exact Int.bmod_eq_of_le (by omega) (by omega)
  rw [Int64.toInt_sub, e, hm]
  rw [Int.bmod_eq_of_le (by omega) (by omega)]; omega
theorem dgt {x : Int64} {n : Nat} (e : x.toInt = (n : Int)) (n9 : n < 1000000000000000) : (48 : Int32) + (x - x / (10 : Int64) * (10 : Int64)).toInt32 = Int32.ofNat (48 + n % 10) := by
  have m := m64 e (show (10 : Int64).toInt = ((10 : Nat) : Int) from rfl) (by omega) (by omega) (by omega)
  apply Int32.toInt_inj.mp
  rw [Int32.toInt_add, Int64.toInt_toInt32, m, on_toInt (by omega), show (48 : Int32).toInt = 48 from rfl]
  rw [Int.bmod_eq_of_le (n := ((n % 10 : Nat) : Int)) (by omega) (by omega), Int.bmod_eq_of_le (by omega) (by omega)]; omega
theorem dgt64 {x : Int64} {n : Nat} (e : x.toInt = (n : Int)) (n9 : n < 1000000000000000) : ((48 : Int64) + (x - x / (10 : Int64) * (10 : Int64))).toInt32 = Int32.ofNat (48 + n % 10) := by
  have m := m64 e (show (10 : Int64).toInt = ((10 : Nat) : Int) from rfl) (by omega) (by omega) (by omega)
  apply Int32.toInt_inj.mp
  rw [Int64.toInt_toInt32, Int64.toInt_add, m, on_toInt (by omega), show (48 : Int64).toInt = 48 from rfl]
  rw [Int.bmod_eq_of_le (n := 48 + ((n % 10 : Nat) : Int)) (by omega) (by omega), Int.bmod_eq_of_le (by omega) (by omega)]; omega
theorem pw32 {k : Nat} (h : k ≤ 8) : (Int32.ofNat (10 ^ k)).toInt64.toInt = ((10 ^ k : Nat) : Int) := by
  have := pt10 h
  rw [Int32.toInt_toInt64, on_toInt (by omega)]
theorem pw_div {k : Nat} (h : k < 8) : Int32.ofNat (10 ^ (k + 1)) / (10 : Int32) = Int32.ofNat (10 ^ k) := by
  have a := pt10 (k := k) (by omega)
  have b := pt10 (k := k + 1) (by omega)
  apply Int32.toInt_inj.mp
  rw [Int32.toInt_div, on_toInt (by omega), on_toInt (by omega), show (10 : Int32).toInt = ((10 : Nat) : Int) from rfl]
  have e : (((10 ^ (k + 1) : Nat) : Int)).tdiv ((10 : Nat) : Int) = ((10 ^ k : Nat) : Int) := by
    rw [Int.tdiv_eq_ediv_of_nonneg (by omega), ← Int.natCast_ediv, Nat.pow_succ, Nat.mul_div_cancel _ (by omega)]
  rw [e]
  exact Int.bmod_eq_of_le (by omega) (by omega)
set_option maxHeartbeats 1000000 in
/-- the class's digits, once it puts them -/
theorem pa_all {K : T_Pg → Int64 → Int64 → Int32 → Prop} {post : Unit → T_Pg → Prop} {x1 x3 : Int64} {n : Nat} (e : x3.toInt = (n : Int)) (n9 : n < 1000000000) : ∀ (k f : Nat) (pg : T_Pg) (l : List Int32), k ≤ 8 → (k = 0 ∨ 10 ^ k ≤ n) → wp_Pg_putAmount_L14 K post f pg x1 x3 (Int32.ofNat (10 ^ k)) → PG pg l → l.length + k + 1 ≤ 12000 → ∃ pg' y, K pg' x1 x3 y ∧ PG pg' (l ++ ds n k)
  | k, 0, pg, l, _, _, h, _, _ => False.elim h
  | k, f + 1, pg, l, k8, kn, h, g, r => by
    have p := pt10 k8
    rw [wp_Pg_putAmount_L14] at h
    replace h := h.2 (by rw [show (0 : Int32) = Int32.ofNat 0 from rfl, on_le (by omega) (by omega)]; omega)
    have dv := d64 e (pw32 k8) (by omega) p.2
    have q10 : n / 10 ^ k ≤ n := Nat.div_le_self _ _
    have dg := dgt dv (by omega)
    rw [dg] at h
    have go : wp_Pg_put pg (Int32.ofNat (48 + n / 10 ^ k % 10)) (fun (r2 : Unit) (u2 : T_Pg) => wp_Pg_putAmount_L14 K post f u2 x1 x3 (Int32.ofNat (10 ^ k) / (10 : Int32))) → ∃ pg' y, K pg' x1 x3 y ∧ PG pg' (l ++ ds n k) := by
      intro h
      obtain ⟨pg1, h, g1⟩ := pg_put g (by omega) (by rw [on_toInt (by omega)]; omega) (by rw [on_toInt (by omega)]; omega) h
      cases k with
      | zero =>
        cases f with
        | zero => exact False.elim h
        | succ f =>
        rw [wp_Pg_putAmount_L14] at h
        have z : Int32.ofNat (10 ^ 0) / (10 : Int32) = 0 := by decide
        rw [z] at h
        refine ⟨pg1, _, h.1 (by decide), ?_⟩
        have : ds n 0 = [Int32.ofNat (48 + n / 10 ^ 0 % 10)] := by show [_] = [_]; rw [Nat.pow_zero, Nat.div_one]
        rw [this]; exact g1
      | succ k =>
        rw [pw_div (by omega)] at h
        have kn' : 10 ^ (k + 1) ≤ n := kn.resolve_left (by omega)
        have le : 10 ^ k ≤ 10 ^ (k + 1) := Nat.pow_le_pow_right (by omega) (by omega)
        obtain ⟨pg2, y, h, g2⟩ := pa_all e n9 k f pg1 _ (by omega) (Or.inr (by omega)) h g1 (by rw [List.length_append]; show l.length + 1 + k + 1 ≤ _; omega)
        refine ⟨pg2, y, h, ?_⟩
        have : l ++ ds n (k + 1) = l ++ [Int32.ofNat (48 + n / 10 ^ (k + 1) % 10)] ++ ds n k := by rw [List.append_assoc]; rfl
        rw [this]; exact g2
    rcases br_el h with ⟨q, h⟩ | ⟨q, h⟩
    · exact go h.2
    · rcases br_el h with ⟨q2, h⟩ | ⟨q2, h⟩
      · exact go h.2
      · exfalso
        rcases kn with z | z
        · apply q2; rw [z]; rfl
        · apply q
          exact (lg_cmp_ge _ _).mpr (Int64.le_iff_toInt_le.mpr (by rw [e, pw32 k8]; omega))
theorem pa_lead {K : T_Pg → Int64 → Int64 → Int32 → Prop} {post : Unit → T_Pg → Prop} {x1 x3 : Int64} {n : Nat} (e : x3.toInt = (n : Int)) (n9 : n < 1000000000) : ∀ (k f : Nat) (pg : T_Pg) (l : List Int32), k ≤ 8 → wp_Pg_putAmount_L14 K post f pg x1 x3 (Int32.ofNat (10 ^ k)) → PG pg l → l.length + ld n k + 1 ≤ 12000 → ∃ pg' y, K pg' x1 x3 y ∧ PG pg' (l ++ ds n (ld n k))
  | 0, f, pg, l, _, h, g, r => pa_all e n9 0 f pg l (by omega) (Or.inl rfl) h g (by have : ld n 0 = 0 := rfl; omega)
  | k + 1, 0, pg, l, _, h, g, r => False.elim h
  | k + 1, f + 1, pg, l, k8, h, g, r => by
    by_cases c : 10 ^ (k + 1) ≤ n
    · have el : ld n (k + 1) = k + 1 := if_pos c
      rw [el] at r ⊢
      exact pa_all e n9 (k + 1) (f + 1) pg l k8 (Or.inr c) h g (by omega)
    · have el : ld n (k + 1) = ld n k := if_neg c
      rw [el] at r ⊢
      have p := pt10 k8
      have p1 : 10 ≤ 10 ^ (k + 1) := by rw [Nat.pow_succ]; have := (pt10 (k := k) (by omega)).2; omega
      rw [wp_Pg_putAmount_L14] at h
      replace h := h.2 (by rw [show (0 : Int32) = Int32.ofNat 0 from rfl, on_le (by omega) (by omega)]; omega)
      replace h := h.2 (fun z => by
        have := (lg_cmp_ge _ _).mp z
        rw [Int64.le_iff_toInt_le, e, pw32 k8] at this
        omega)
      replace h := h.2 (fun z => by
        have := on_inj (k := 1) (by omega) (by omega) z
        omega)
      rw [pw_div (by omega)] at h
      exact pa_lead e n9 k f pg l (by omega) h g r
/-- the reference's digits -/
theorem em_run {m : T_Mo} {i : Nat} {x1 x3 : Int64} {n : Nat} {K : T_Mo → Int64 → Int64 → Int64 → Prop} {post : Unit → T_Mo → Prop} (e : x1.toInt = (n : Int)) (n9 : n < 1000000000) : ∀ (k f : Nat) (x5 : Int64) (a b c : Int32) (l : List Int32), k ≤ 8 → x5.toInt = ((10 ^ k : Nat) : Int) → wp_Mo_digitsOf_L24 K post f (((((m.1.1.1.1.1, m.1.1.1.1.2), (m.1.1.1.2.1, (m.1.1.1.2.2.1, m.1.1.1.2.2.2))), ((m.1.1.2.1.1, m.1.1.2.1.2), (m.1.1.2.2.1, (m.1.1.2.2.2.1, m.1.1.2.2.2.2)))), (((m.1.2.1.1.1, m.1.2.1.1.2), (m.1.2.1.2.1, (m.1.2.1.2.2.1, m.1.2.1.2.2.2))), ((m.1.2.2.1.1, (m.1.2.2.1.2.1, m.1.2.2.1.2.2)), (m.1.2.2.2.1, (m.1.2.2.2.2.1, m.1.2.2.2.2.2))))), ((((m.2.1.1.1.1, m.2.1.1.1.2), (m.2.1.1.2.1, (m.2.1.1.2.2.1, m.2.1.1.2.2.2))), ((m.2.1.2.1.1, m.2.1.2.1.2), (m.2.1.2.2.1, (m.2.1.2.2.2.1, m.2.1.2.2.2.2)))), (((m.2.2.1.1.1, m.2.2.1.1.2), (m.2.2.1.2.1, (m.2.2.1.2.2.1, m.2.2.1.2.2.2))), ((m.2.2.2.1.1, (m.2.2.2.1.2.1, a)), (b, (c, m.2.2.2.2.2.2)))))) x1 x3 x5 → EM i a b l → l.length + 2 * k + 3 ≤ 100000 → ∃ a' b' y, K (((((m.1.1.1.1.1, m.1.1.1.1.2), (m.1.1.1.2.1, (m.1.1.1.2.2.1, m.1.1.1.2.2.2))), ((m.1.1.2.1.1, m.1.1.2.1.2), (m.1.1.2.2.1, (m.1.1.2.2.2.1, m.1.1.2.2.2.2)))), (((m.1.2.1.1.1, m.1.2.1.1.2), (m.1.2.1.2.1, (m.1.2.1.2.2.1, m.1.2.1.2.2.2))), ((m.1.2.2.1.1, (m.1.2.2.1.2.1, m.1.2.2.1.2.2)), (m.1.2.2.2.1, (m.1.2.2.2.2.1, m.1.2.2.2.2.2))))), ((((m.2.1.1.1.1, m.2.1.1.1.2), (m.2.1.1.2.1, (m.2.1.1.2.2.1, m.2.1.1.2.2.2))), ((m.2.1.2.1.1, m.2.1.2.1.2), (m.2.1.2.2.1, (m.2.1.2.2.2.1, m.2.1.2.2.2.2)))), (((m.2.2.1.1.1, m.2.2.1.1.2), (m.2.2.1.2.1, (m.2.2.1.2.2.1, m.2.2.1.2.2.2))), ((m.2.2.2.1.1, (m.2.2.2.1.2.1, a')), (b', ((0 : Int32), m.2.2.2.2.2.2)))))) x1 x3 y ∧ EM i a' b' (l ++ bl c ++ ds n k)
  | k, 0, x5, a, b, c, l, _, _, h, _, _ => False.elim h
  | k, f + 1, x5, a, b, c, l, k8, e5, h, em, r => by
    have p := pt10 k8
    rw [wp_Mo_digitsOf_L24] at h
    have ps : ¬ (lg_cmp x5 (0 : Int64)) ≤ 0 := fun z => by
      have := (lg_cmp_le _ _).mp z
      rw [Int64.le_iff_toInt_le, e5, show (0 : Int64).toInt = 0 from rfl] at this
      omega
    replace h := (h.2 ps).2
    have dv := d64 e e5 (by omega) p.2
    have q10 : n / 10 ^ k ≤ n := Nat.div_le_self _ _
    rw [dgt64 dv (by omega)] at h
    obtain ⟨a1, b1, hL, em1⟩ := em_say (m := m) em (by omega) h
    have bb : (bl c).length ≤ 1 := by unfold bl; split <;> decide
    have x10 : (x5 / (10 : Int64)).toInt = ((10 ^ k / 10 : Nat) : Int) := d64 e5 (show (10 : Int64).toInt = ((10 : Nat) : Int) from rfl) (by omega) (by omega)
    cases k with
    | zero =>
      cases f with
      | zero => exact False.elim hL
      | succ f =>
      rw [wp_Mo_digitsOf_L24] at hL
      have z0 : (lg_cmp (x5 / (10 : Int64)) (0 : Int64)) ≤ 0 := (lg_cmp_le _ _).mpr (Int64.le_iff_toInt_le.mpr (by rw [x10]; decide))
      refine ⟨a1, b1, _, hL.1 z0, ?_⟩
      have : ds n 0 = [Int32.ofNat (48 + n / 10 ^ 0 % 10)] := by show [_] = [_]; rw [Nat.pow_zero, Nat.div_one]
      rw [this]; exact em1
    | succ k =>
      have x10' : (x5 / (10 : Int64)).toInt = ((10 ^ k : Nat) : Int) := by
        rw [x10, Nat.pow_succ, Nat.mul_div_cancel _ (by omega)]
      obtain ⟨a2, b2, y, h, em2⟩ := em_run e n9 k f _ a1 b1 0 _ (by omega) x10' hL em1 (by rw [List.length_append, List.length_append]; show l.length + (bl c).length + 1 + 2 * k + 3 ≤ _; omega)
      refine ⟨a2, b2, y, h, ?_⟩
      have eb : bl 0 = [] := rfl
      rw [eb, List.append_nil] at em2
      have : l ++ bl c ++ ds n (k + 1) = l ++ bl c ++ [Int32.ofNat (48 + n / 10 ^ (k + 1) % 10)] ++ ds n k := by rw [List.append_assoc _ [_]]; rfl
      rw [this]; exact em2
theorem em_lead {m : T_Mo} {x1 : Int64} {n : Nat} {K : T_Mo → Int64 → Int64 → Prop} {post : Unit → T_Mo → Prop} (e : x1.toInt = (n : Int)) (n9 : n < 1000000000) : ∀ (d k f : Nat) (x3 : Int64), k + d = 9 → x3.toInt = ((10 ^ k : Nat) : Int) → (k = 0 ∨ 10 ^ k ≤ n) → wp_Mo_digitsOf_L2 K post f m x1 x3 → ∃ y : Int64, K m x1 y ∧ y.toInt = ((10 ^ (ld n 8) : Nat) : Int)
  | 0, k, f, x3, kd, e3, kn, h => by
    have ek : k = 9 := by omega
    subst ek
    rcases kn with z | z
    · omega
    · have : 10 ^ 9 = 1000000000 := by decide
      omega
  | d + 1, k, 0, x3, kd, e3, kn, h => False.elim h
  | d + 1, k, f + 1, x3, kd, e3, kn, h => by
    have p := pt10 (k := k) (by omega)
    rw [wp_Mo_digitsOf_L2] at h
    replace h := h.2
    have dv := d64 e e3 (by omega) p.2
    have lg : lg_cmp (x1 / x3) (10 : Int64) < 0 ↔ n / 10 ^ k < 10 := by
      rw [lg_cmp_lt, Int64.lt_iff_toInt_lt, dv, show (10 : Int64).toInt = 10 from rfl]; omega
    have mul : 10 ^ (k + 1) = 10 ^ k * 10 := Nat.pow_succ _ _
    have dlt : n / 10 ^ k < 10 ↔ n < 10 ^ (k + 1) := by rw [Nat.div_lt_iff_lt_mul p.2, mul, Nat.mul_comm]
    rcases br_el h with ⟨q, h⟩ | ⟨q, h⟩
    · refine ⟨x3, h, ?_⟩
      rw [ld_eq n 8 k (by omega) kn (dlt.mp (lg.mp q))]; exact e3
    · have nq : ¬ n < 10 ^ (k + 1) := fun z => q (lg.mpr (dlt.mpr z))
      have e3' : (x3 * (10 : Int64)).toInt = ((10 ^ (k + 1) : Nat) : Int) := by
        rw [Int64.toInt_mul, e3, show (10 : Int64).toInt = ((10 : Nat) : Int) from rfl, ← Int.natCast_mul, ← mul]
        have := Nat.pow_le_pow_right (n := 10) (by omega) (show k + 1 ≤ 9 by omega)
        have e9 : 10 ^ 9 = 1000000000 := by decide
        exact Int.bmod_eq_of_le (by omega) (by omega)
      exact em_lead e n9 d (k + 1) f _ (by omega) e3' (Or.inr (by omega)) h
theorem em_digits {m : T_Mo} {i : Nat} {x1 : Int64} {n : Nat} {a b c : Int32} {l : List Int32} {P : Unit → T_Mo → Prop} (e : x1.toInt = (n : Int)) (n9 : n < 1000000000) (em : EM i a b l) (r : l.length + 20 ≤ 100000) (h : wp_Mo_digitsOf (((((m.1.1.1.1.1, m.1.1.1.1.2), (m.1.1.1.2.1, (m.1.1.1.2.2.1, m.1.1.1.2.2.2))), ((m.1.1.2.1.1, m.1.1.2.1.2), (m.1.1.2.2.1, (m.1.1.2.2.2.1, m.1.1.2.2.2.2)))), (((m.1.2.1.1.1, m.1.2.1.1.2), (m.1.2.1.2.1, (m.1.2.1.2.2.1, m.1.2.1.2.2.2))), ((m.1.2.2.1.1, (m.1.2.2.1.2.1, m.1.2.2.1.2.2)), (m.1.2.2.2.1, (m.1.2.2.2.2.1, m.1.2.2.2.2.2))))), ((((m.2.1.1.1.1, m.2.1.1.1.2), (m.2.1.1.2.1, (m.2.1.1.2.2.1, m.2.1.1.2.2.2))), ((m.2.1.2.1.1, m.2.1.2.1.2), (m.2.1.2.2.1, (m.2.1.2.2.2.1, m.2.1.2.2.2.2)))), (((m.2.2.1.1.1, m.2.2.1.1.2), (m.2.2.1.2.1, (m.2.2.1.2.2.1, m.2.2.1.2.2.2))), ((m.2.2.2.1.1, (m.2.2.2.1.2.1, a)), (b, (c, m.2.2.2.2.2.2)))))) x1 P) : ∃ a' b', P () (((((m.1.1.1.1.1, m.1.1.1.1.2), (m.1.1.1.2.1, (m.1.1.1.2.2.1, m.1.1.1.2.2.2))), ((m.1.1.2.1.1, m.1.1.2.1.2), (m.1.1.2.2.1, (m.1.1.2.2.2.1, m.1.1.2.2.2.2)))), (((m.1.2.1.1.1, m.1.2.1.1.2), (m.1.2.1.2.1, (m.1.2.1.2.2.1, m.1.2.1.2.2.2))), ((m.1.2.2.1.1, (m.1.2.2.1.2.1, m.1.2.2.1.2.2)), (m.1.2.2.2.1, (m.1.2.2.2.2.1, m.1.2.2.2.2.2))))), ((((m.2.1.1.1.1, m.2.1.1.1.2), (m.2.1.1.2.1, (m.2.1.1.2.2.1, m.2.1.1.2.2.2))), ((m.2.1.2.1.1, m.2.1.2.1.2), (m.2.1.2.2.1, (m.2.1.2.2.2.1, m.2.1.2.2.2.2)))), (((m.2.2.1.1.1, m.2.2.1.1.2), (m.2.2.1.2.1, (m.2.2.1.2.2.1, m.2.2.1.2.2.2))), ((m.2.2.2.1.1, (m.2.2.2.1.2.1, a')), (b', ((0 : Int32), m.2.2.2.2.2.2)))))) ∧ EM i a' b' (l ++ bl c ++ ds n (ld n 8)) := by
  unfold wp_Mo_digitsOf at h
  obtain ⟨f, h⟩ := h
  obtain ⟨y, ⟨f2, h⟩, ey⟩ := em_lead e n9 9 0 f 1 (by omega) rfl (Or.inl rfl) h
  have l8 := ld_le n 8
  obtain ⟨a', b', y2, h, em'⟩ := em_run (m := m) e n9 (ld n 8) f2 y a b c l l8 ey h em (by omega)
  exact ⟨a', b', h, em'⟩
/-- the digits behind the point -/
def fr (r : Nat) : Nat → List Int32
  | 0 => []
  | k + 1 => if r = 0 then [] else Int32.ofNat (48 + r / 10 ^ k) :: fr (r % 10 ^ k) k
theorem fr_0 : ∀ k, fr 0 k = []
  | 0 => rfl
  | k + 1 => if_pos rfl
theorem fr_len : ∀ (k r : Nat), (fr r k).length ≤ k
  | 0, r => Nat.le_refl _
  | k + 1, r => by
    show (if r = 0 then [] else Int32.ofNat (48 + r / 10 ^ k) :: fr (r % 10 ^ k) k).length ≤ k + 1
    split
    · exact Nat.zero_le _
    · rw [List.length_cons]; have := fr_len k (r % 10 ^ k); omega
theorem fr_dig : ∀ (k r : Nat) (c : Int32), r < 10 ^ k → k ≤ 8 → c ∈ fr r k → 48 ≤ c.toInt ∧ c.toInt ≤ 57
  | 0, r, c, _, _, h => absurd h List.not_mem_nil
  | k + 1, r, c, r9, k8, h => by
    have p := pt10 (k := k) (by omega)
    have h : c ∈ (if r = 0 then [] else Int32.ofNat (48 + r / 10 ^ k) :: fr (r % 10 ^ k) k) := h
    split at h
    · exact absurd h List.not_mem_nil
    · rcases List.mem_cons.mp h with e | e
      · have : r / 10 ^ k < 10 := by rw [Nat.div_lt_iff_lt_mul p.2, Nat.mul_comm, ← Nat.pow_succ]; exact r9
        rw [e]; exact ⟨(ofd this).1, (ofd this).2.1⟩
      · exact fr_dig k _ c (Nat.mod_lt _ p.2) (by omega) e
theorem i32_div {x y : Int32} {n p : Nat} (e : x.toInt = (n : Int)) (f : y.toInt = (p : Int)) (n9 : n < 1000000000) (p0 : 0 < p) : (x / y).toInt = ((n / p : Nat) : Int) := by
  rw [Int32.toInt_div, e, f]
  have h : (n : Int).tdiv (p : Int) = ((n / p : Nat) : Int) := by
    rw [Int.tdiv_eq_ediv_of_nonneg (by omega)]; exact (Int.natCast_ediv n p).symm
  rw [h]
  have : n / p ≤ n := Nat.div_le_self _ _
  generalize n / p = q at this
  exact Int.bmod_eq_of_le (by omega) (by omega)
theorem i32_mod {x y : Int32} {n p : Nat} (e : x.toInt = (n : Int)) (f : y.toInt = (p : Int)) (n9 : n < 1000000000) (p0 : 0 < p) (p9 : p < 1000000000) : (x - x / y * y).toInt = ((n % p : Nat) : Int) := by
  have d := i32_div e f n9 p0
  have dm := Nat.div_add_mod n p
  have le : p * (n / p) ≤ n := Nat.mul_div_le n p
  have hm : (x / y * y).toInt = ((p * (n / p) : Nat) : Int) := by
    rw [Int32.toInt_mul, d, f]
    have : ((n / p : Nat) : Int) * (p : Int) = ((p * (n / p) : Nat) : Int) := by rw [Nat.mul_comm, Int.natCast_mul]
    rw [this]
    exact Int.bmod_eq_of_le (by omega) (by omega)
  rw [Int32.toInt_sub, e, hm]
  rw [Int.bmod_eq_of_le (by omega) (by omega)]; omega
theorem p10d {k : Nat} (h : k < 8) : 10 ^ (k + 1) / 10 = 10 ^ k := by rw [Nat.pow_succ, Nat.mul_div_cancel _ (by omega)]
theorem pa_frac {K : T_Pg → Int64 → Int64 → Int32 → Int32 → Prop} {post : Unit → T_Pg → Prop} {x1 x3 : Int64} : ∀ (k f r : Nat) (pg : T_Pg) (l : List Int32) (x5 x6 : Int32), k ≤ 3 → r < 10 ^ k → x5.toInt = (r : Int) → x6.toInt = ((10 ^ k / 10 : Nat) : Int) → wp_Pg_putAmount_L83 K post f pg x1 x3 x5 x6 → PG pg l → l.length + (fr r k).length ≤ 12000 → ∃ pg' y5 y6, K pg' x1 x3 y5 y6 ∧ PG pg' (l ++ fr r k)
  | k, 0, r, pg, l, x5, x6, _, _, _, _, h, _, _ => False.elim h
  | 0, f + 1, r, pg, l, x5, x6, _, r9, e5, e6, h, g, rm => by
    rw [wp_Pg_putAmount_L83] at h
    have z : x6 ≤ 0 := by rw [Int32.le_iff_toInt_le, e6]; decide
    exact ⟨pg, _, _, h.1 z, by show PG pg (l ++ []); rw [List.append_nil]; exact g⟩
  | k + 1, f + 1, r, pg, l, x5, x6, k3, r9, e5, e6, h, g, rm => by
    have p := pt10 (k := k) (by omega)
    have p2 := pt10 (k := k + 1) (by omega)
    rw [p10d (by omega)] at e6
    rw [wp_Pg_putAmount_L83] at h
    have z : ¬ x6 ≤ 0 := by rw [Int32.le_iff_toInt_le, e6, show (0 : Int32).toInt = 0 from rfl]; omega
    replace h := h.2 z
    rcases br_el h with ⟨q, h⟩ | ⟨q, h⟩
    · have r0 : r = 0 := by rw [Int32.le_iff_toInt_le, e5, show (0 : Int32).toInt = 0 from rfl] at q; omega
      refine ⟨pg, _, _, h, ?_⟩
      rw [r0, fr_0, List.append_nil]; exact g
    · have r0 : ¬ r = 0 := by rw [Int32.le_iff_toInt_le, e5, show (0 : Int32).toInt = 0 from rfl] at q; omega
      have dl : r / 10 ^ k < 10 := by rw [Nat.div_lt_iff_lt_mul p.2, Nat.mul_comm, ← Nat.pow_succ]; exact r9
      have dv := i32_div e5 e6 (by omega) p.2
      have ed : (48 : Int32) + x5 / x6 = Int32.ofNat (48 + r / 10 ^ k) := by
        apply Int32.toInt_inj.mp
        rw [Int32.toInt_add, dv, (ofd dl).2.2, show (48 : Int32).toInt = 48 from rfl]
        generalize r / 10 ^ k = q at dl
        exact Int.bmod_eq_of_le (by omega) (by omega)
      have fe : fr r (k + 1) = Int32.ofNat (48 + r / 10 ^ k) :: fr (r % 10 ^ k) k := if_neg r0
      rw [fe, List.length_cons] at rm
      replace h := h.2
      rw [ed] at h
      have od := ofd dl
      obtain ⟨pg1, h, g1⟩ := pg_put g (by omega) (by omega) (by omega) h
      have ex : (x6 / (10 : Int32)).toInt = ((10 ^ k / 10 : Nat) : Int) := i32_div e6 (show (10 : Int32).toInt = ((10 : Nat) : Int) from rfl) (by omega) (by omega)
      obtain ⟨pg2, y5, y6, h, g2⟩ := pa_frac k f (r % 10 ^ k) pg1 _ _ _ (by omega) (Nat.mod_lt _ p.2) (i32_mod e5 e6 (by omega) p.2 (by omega)) ex h.2 g1 (by rw [List.length_append]; show l.length + 1 + _ ≤ _; omega)
      refine ⟨pg2, y5, y6, h, ?_⟩
      have : l ++ fr r (k + 1) = l ++ [Int32.ofNat (48 + r / 10 ^ k)] ++ fr (r % 10 ^ k) k := by
        show l ++ (if r = 0 then [] else Int32.ofNat (48 + r / 10 ^ k) :: fr (r % 10 ^ k) k) = _
        rw [if_neg r0, List.append_assoc]; rfl
      rw [this]; exact g2
/-- how a value is written -/
def nb (v : Nat) : List Int32 := ds (v / 1000) (ld (v / 1000) 8) ++ if v % 1000 = 0 then [] else 46 :: fr (v % 1000) 3
theorem nb_len (v : Nat) : (nb v).length ≤ ld (v / 1000) 8 + 5 ∧ (v % 1000 = 0 → (nb v).length = ld (v / 1000) 8 + 1) ∧ ld (v / 1000) 8 + 1 ≤ (nb v).length := by
  unfold nb
  rw [List.length_append, ds_len]
  split
  · exact ⟨by show _ + 0 ≤ _; omega, fun _ => rfl, by omega⟩
  · rename_i h
    have := fr_len 3 (v % 1000)
    rw [List.length_cons]
    exact ⟨by omega, fun q => absurd q h, by omega⟩
theorem nb_b {v : Nat} : ∀ c, c ∈ nb v → 46 ≤ c.toInt ∧ c.toInt ≤ 57 := by
  intro c h
  unfold nb at h
  rcases List.mem_append.mp h with h | h
  · have := ds_dig _ c h; omega
  · split at h
    · exact absurd h List.not_mem_nil
    · rcases List.mem_cons.mp h with e | e
      · rw [e]; decide
      · have := fr_dig 3 _ c (Nat.mod_lt _ (by omega)) (by omega) e; omega
theorem nb_ne (v : Nat) : ¬ nb v = [] := fun h => by
  have := (nb_len v).2.2
  rw [h] at this
  have z : ([] : List Int32).length = 0 := rfl
  omega
set_option maxHeartbeats 1000000 in
theorem pa_amount {pg : T_Pg} {v : Int64} {n : Nat} {l : List Int32} {P : Unit → T_Pg → Prop} (e : v.toInt = (n : Int)) (n9 : n < 1000000000000) (g : PG pg l) (r : l.length + 1 + (nb n).length ≤ 12000) (h : wp_Pg_putAmount pg v P) : ∃ pg', P () pg' ∧ PG pg' (l ++ sp l ++ nb n) := by
  unfold wp_Pg_putAmount at h
  have s1 : (sp l).length ≤ 1 := by unfold sp; split <;> decide
  have nl := nb_len n
  obtain ⟨pg1, ⟨f, h⟩, g1⟩ := pg_word g (by omega) h
  have e1 : (v / (1000 : Int64)).toInt = ((n / 1000 : Nat) : Int) := d64 e (show (1000 : Int64).toInt = ((1000 : Nat) : Int) from rfl) (by omega) (by omega)
  have em : (v - v / (1000 : Int64) * (1000 : Int64)).toInt = ((n % 1000 : Nat) : Int) := m64 e (show (1000 : Int64).toInt = ((1000 : Nat) : Int) from rfl) (by omega) (by omega) (by omega)
  have er : (v - v / (1000 : Int64) * (1000 : Int64)).toInt32.toInt = ((n % 1000 : Nat) : Int) := by
    rw [Int64.toInt_toInt32, em]; exact Int.bmod_eq_of_le (by omega) (by omega)
  have lw : (ds (n / 1000) (ld (n / 1000) 8)).length = ld (n / 1000) 8 + 1 := ds_len _ _
  obtain ⟨pg2, y, h, g2⟩ := pa_lead e1 (by omega) 8 f pg1 _ (by omega) h g1 (by rw [List.length_append]; omega)
  have e0 : (0 : Int32).toInt = 0 := rfl
  rcases br_el h with ⟨q, h⟩ | ⟨q, h⟩
  · have z : n % 1000 = 0 := by rw [Int32.le_iff_toInt_le, er, e0] at q; omega
    obtain ⟨f2, h⟩ := h
    have fz : fr (n % 1000) 3 = [] := by rw [z]; exact fr_0 3
    have g2l := g2.2.1
    obtain ⟨pg3, y5, y6, h, g3⟩ := pa_frac 3 f2 (n % 1000) pg2 _ _ _ (by omega) (Nat.mod_lt _ (by omega)) er rfl h g2 (by rw [fz]; exact g2l)
    refine ⟨pg3, h, ?_⟩
    rw [fz, List.append_nil] at g3
    unfold nb
    rw [if_pos z, List.append_nil]
    exact g3
  · have z : ¬ n % 1000 = 0 := by rw [Int32.le_iff_toInt_le, er, e0] at q; omega
    have ll : (nb n).length = ld (n / 1000) 8 + 2 + (fr (n % 1000) 3).length := by
      unfold nb
      rw [if_neg z, List.length_append, lw, List.length_cons]; omega
    have l2 : (l ++ sp l ++ ds (n / 1000) (ld (n / 1000) 8)).length = l.length + (sp l).length + (ld (n / 1000) 8 + 1) := by rw [List.length_append, List.length_append, lw]
    obtain ⟨pg3, ⟨f2, h⟩, g3⟩ := pg_put g2 (by rw [l2]; omega) (by decide) (by decide) h
    obtain ⟨pg4, y5, y6, h, g4⟩ := pa_frac 3 f2 (n % 1000) pg3 _ _ _ (by omega) (Nat.mod_lt _ (by omega)) er rfl h g3 (by rw [List.length_append, l2]; show _ + 1 + _ ≤ _; omega)
    refine ⟨pg4, h, ?_⟩
    have : l ++ sp l ++ nb n = l ++ sp l ++ ds (n / 1000) (ld (n / 1000) 8) ++ [46] ++ fr (n % 1000) 3 := by
      unfold nb
      rw [if_neg z, List.append_assoc _ [46], ← List.append_assoc]; rfl
    rw [this]; exact g4
theorem em_frac {m : T_Mo} {i : Nat} {x1 : Int32} {x2 : Int64} {K : T_Mo → Int32 → Int64 → Int64 → Int64 → Prop} {post : Unit → T_Mo → Prop} : ∀ (k f r : Nat) (a b : Int32) (l : List Int32) (x4 x6 : Int64), k ≤ 3 → r < 10 ^ k → x4.toInt = (r : Int) → x6.toInt = ((10 ^ k / 10 : Nat) : Int) → wp_Mo_numberOut_L45 K post f (((((m.1.1.1.1.1, m.1.1.1.1.2), (m.1.1.1.2.1, (m.1.1.1.2.2.1, m.1.1.1.2.2.2))), ((m.1.1.2.1.1, m.1.1.2.1.2), (m.1.1.2.2.1, (m.1.1.2.2.2.1, m.1.1.2.2.2.2)))), (((m.1.2.1.1.1, m.1.2.1.1.2), (m.1.2.1.2.1, (m.1.2.1.2.2.1, m.1.2.1.2.2.2))), ((m.1.2.2.1.1, (m.1.2.2.1.2.1, m.1.2.2.1.2.2)), (m.1.2.2.2.1, (m.1.2.2.2.2.1, m.1.2.2.2.2.2))))), ((((m.2.1.1.1.1, m.2.1.1.1.2), (m.2.1.1.2.1, (m.2.1.1.2.2.1, m.2.1.1.2.2.2))), ((m.2.1.2.1.1, m.2.1.2.1.2), (m.2.1.2.2.1, (m.2.1.2.2.2.1, m.2.1.2.2.2.2)))), (((m.2.2.1.1.1, m.2.2.1.1.2), (m.2.2.1.2.1, (m.2.2.1.2.2.1, m.2.2.1.2.2.2))), ((m.2.2.2.1.1, (m.2.2.2.1.2.1, a)), (b, ((0 : Int32), m.2.2.2.2.2.2)))))) x1 x2 x4 x6 → EM i a b l → l.length + k + 2 ≤ 100000 → ∃ a' b' y4 y6, K (((((m.1.1.1.1.1, m.1.1.1.1.2), (m.1.1.1.2.1, (m.1.1.1.2.2.1, m.1.1.1.2.2.2))), ((m.1.1.2.1.1, m.1.1.2.1.2), (m.1.1.2.2.1, (m.1.1.2.2.2.1, m.1.1.2.2.2.2)))), (((m.1.2.1.1.1, m.1.2.1.1.2), (m.1.2.1.2.1, (m.1.2.1.2.2.1, m.1.2.1.2.2.2))), ((m.1.2.2.1.1, (m.1.2.2.1.2.1, m.1.2.2.1.2.2)), (m.1.2.2.2.1, (m.1.2.2.2.2.1, m.1.2.2.2.2.2))))), ((((m.2.1.1.1.1, m.2.1.1.1.2), (m.2.1.1.2.1, (m.2.1.1.2.2.1, m.2.1.1.2.2.2))), ((m.2.1.2.1.1, m.2.1.2.1.2), (m.2.1.2.2.1, (m.2.1.2.2.2.1, m.2.1.2.2.2.2)))), (((m.2.2.1.1.1, m.2.2.1.1.2), (m.2.2.1.2.1, (m.2.2.1.2.2.1, m.2.2.1.2.2.2))), ((m.2.2.2.1.1, (m.2.2.2.1.2.1, a')), (b', ((0 : Int32), m.2.2.2.2.2.2)))))) x1 x2 y4 y6 ∧ EM i a' b' (l ++ fr r k)
  | k, 0, r, a, b, l, x4, x6, _, _, _, _, h, _, _ => False.elim h
  | 0, f + 1, r, a, b, l, x4, x6, _, r9, e4, e6, h, em, rm => by
    rw [wp_Mo_numberOut_L45] at h
    have r0 : r = 0 := by have : 10 ^ 0 = 1 := rfl; omega
    have z : (lg_cmp x4 (0 : Int64)) ≤ 0 := (lg_cmp_le _ _).mpr (Int64.le_iff_toInt_le.mpr (by rw [e4, r0]; decide))
    exact ⟨a, b, _, _, h.1 z, by show EM i a b (l ++ []); rw [List.append_nil]; exact em⟩
  | k + 1, f + 1, r, a, b, l, x4, x6, k3, r9, e4, e6, h, em, rm => by
    have p := pt10 (k := k) (by omega)
    have p2 := pt10 (k := k + 1) (by omega)
    rw [p10d (by omega)] at e6
    rw [wp_Mo_numberOut_L45] at h
    have e0 : (0 : Int64).toInt = 0 := rfl
    rcases br_el h with ⟨q, h⟩ | ⟨q, h⟩
    · have r0 : r = 0 := by
        have := (lg_cmp_le _ _).mp q
        rw [Int64.le_iff_toInt_le, e4, e0] at this; omega
      refine ⟨a, b, _, _, h, ?_⟩
      rw [r0, fr_0, List.append_nil]; exact em
    · have r0 : ¬ r = 0 := fun z => q ((lg_cmp_le _ _).mpr (Int64.le_iff_toInt_le.mpr (by rw [e4, e0]; omega)))
      have dl : r / 10 ^ k < 10 := by rw [Nat.div_lt_iff_lt_mul p.2, Nat.mul_comm, ← Nat.pow_succ]; exact r9
      have dv := d64 e4 e6 (by omega) p.2
      have ed : ((48 : Int64) + x4 / x6).toInt32 = Int32.ofNat (48 + r / 10 ^ k) := by
        apply Int32.toInt_inj.mp
        rw [Int64.toInt_toInt32, Int64.toInt_add, dv, (ofd dl).2.2, show (48 : Int64).toInt = 48 from rfl]
        generalize r / 10 ^ k = q at dl
        rw [Int.bmod_eq_of_le (n := 48 + (q : Int)) (by omega) (by omega)]
        exact Int.bmod_eq_of_le (by omega) (by omega)
      replace h := h.2
      rw [ed] at h
      obtain ⟨a1, b1, h, em1⟩ := em_say (m := m) em (by omega) h
      have eb : bl 0 = [] := rfl
      rw [eb, List.append_nil] at em1
      have ex : (x6 / (10 : Int64)).toInt = ((10 ^ k / 10 : Nat) : Int) := d64 e6 (show (10 : Int64).toInt = ((10 : Nat) : Int) from rfl) (by omega) (by omega)
      obtain ⟨a2, b2, y4, y6, h, em2⟩ := em_frac k f (r % 10 ^ k) a1 b1 _ _ _ (by omega) (Nat.mod_lt _ p.2) (m64 e4 e6 (by omega) p.2 (by omega)) ex h.2 em1 (by rw [List.length_append]; show l.length + 1 + k + 2 ≤ _; omega)
      refine ⟨a2, b2, y4, y6, h, ?_⟩
      have : l ++ fr r (k + 1) = l ++ [Int32.ofNat (48 + r / 10 ^ k)] ++ fr (r % 10 ^ k) k := by
        show l ++ (if r = 0 then [] else Int32.ofNat (48 + r / 10 ^ k) :: fr (r % 10 ^ k) k) = _
        rw [if_neg r0, List.append_assoc]; rfl
      rw [this]; exact em2

