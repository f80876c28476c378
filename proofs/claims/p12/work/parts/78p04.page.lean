theorem ld_lt {n : Nat} : ∀ (j k : Nat), n < 10 ^ k → 1 ≤ k → ld n j + 1 ≤ k
  | 0, k, _, h => h
  | j + 1, k, h, h1 => by
    show (if 10 ^ (j + 1) ≤ n then j + 1 else ld n j) + 1 ≤ k
    split
    · rename_i q
      rcases Nat.lt_or_ge (j + 1) k with w | w
      · exact w
      · have : 10 ^ k ≤ 10 ^ (j + 1) := Nat.pow_le_pow_right (by omega) w
        omega
    · exact ld_lt j k h h1
theorem fr_mul : ∀ (k r j : Nat), r % 10 ^ j = 0 → r < 10 ^ k → j ≤ k → (fr r k).length ≤ k - j
  | 0, r, j, _, _, _ => Nat.zero_le _
  | k + 1, r, j, h1, h2, h3 => by
    show (if r = 0 then [] else Int32.ofNat (48 + r / 10 ^ k) :: fr (r % 10 ^ k) k).length ≤ k + 1 - j
    split
    · exact Nat.zero_le _
    · rename_i r0
      rcases Nat.lt_or_ge k j with q | q
      · have e : j = k + 1 := by omega
        subst e
        rw [Nat.mod_eq_of_lt h2] at h1
        exact absurd h1 r0
      · have d : 10 ^ j ∣ 10 ^ k := Nat.pow_dvd_pow 10 q
        have m : (r % 10 ^ k) % 10 ^ j = 0 := by rw [Nat.mod_mod_of_dvd r d]; exact h1
        have := fr_mul k (r % 10 ^ k) j m (Nat.mod_lt _ (Nat.pow_pos (by omega))) q
        rw [List.length_cons]; omega
/-- digits of a value that was read: k before the point, f behind it -/
theorem nb_read {V F k f : Nat} (hV : V < 10 ^ k) (k1 : 1 ≤ k) (f3 : f ≤ 3) (hF : F < 1000) (hm : F % 10 ^ (3 - f) = 0) : (nb (1000 * V + F)).length ≤ k + (if f = 0 then 0 else 1 + f) := by
  unfold nb
  have e1 : (1000 * V + F) / 1000 = V := by omega
  have e2 : (1000 * V + F) % 1000 = F := by omega
  rw [e1, e2, List.length_append, ds_len]
  have l1 := ld_lt (n := V) 8 k hV k1
  have l2 := fr_mul 3 F (3 - f) hm hF (by omega)
  split
  · show _ + 0 ≤ _; omega
  · rename_i z
    rw [List.length_cons]
    split
    · rename_i f0
      subst f0
      exfalso
      have e : 10 ^ (3 - 0) = 1000 := rfl
      rw [e, Nat.mod_eq_of_lt hF] at hm
      exact z hm
    · omega
def Lp (m : T_Mo) : Prop := (0 : Int32) ≤ m.1.1.1.2.1 ∧ m.1.1.1.2.1 ≤ m.1.1.1.1.2 ∧ m.1.1.1.1.2 ≤ 4000
theorem lg_L0 {K : T_Mo → Prop} {post : Int32 → T_Mo → Prop} : ∀ (f : Nat) (m : T_Mo), wp_Mo_go_L0 K post f m → Lp m → ∃ p nl, K (((((m.1.1.1.1.1, m.1.1.1.1.2), (p, (nl, m.1.1.1.2.2.2))), ((m.1.1.2.1.1, m.1.1.2.1.2), (m.1.1.2.2.1, (m.1.1.2.2.2.1, m.1.1.2.2.2.2)))), (((m.1.2.1.1.1, m.1.2.1.1.2), (m.1.2.1.2.1, (m.1.2.1.2.2.1, m.1.2.1.2.2.2))), ((m.1.2.2.1.1, (m.1.2.2.1.2.1, m.1.2.2.1.2.2)), (m.1.2.2.2.1, (m.1.2.2.2.2.1, m.1.2.2.2.2.2))))), ((((m.2.1.1.1.1, m.2.1.1.1.2), (m.2.1.1.2.1, (m.2.1.1.2.2.1, m.2.1.1.2.2.2))), ((m.2.1.2.1.1, m.2.1.2.1.2), (m.2.1.2.2.1, (m.2.1.2.2.2.1, m.2.1.2.2.2.2)))), (((m.2.2.1.1.1, m.2.2.1.1.2), (m.2.2.1.2.1, (m.2.2.1.2.2.1, m.2.2.1.2.2.2))), ((m.2.2.2.1.1, (m.2.2.2.1.2.1, m.2.2.2.1.2.2)), (m.2.2.2.2.1, (m.2.2.2.2.2.1, m.2.2.2.2.2.2)))))) ∧ m.1.1.1.2.1 ≤ p ∧ p ≤ m.1.1.1.1.2 := by
  intro f
  induction f with
  | zero => intro m h; exact False.elim h
  | succ f ih =>
    intro m h lp
    obtain ⟨p0, p1, p9⟩ := lp
    rw [wp_Mo_go_L0] at h
    replace h := iv_Mo_at h
    have step : ∀ nl : Int32, ¬ txat m.1.1.1.1.1 m.1.1.1.1.2 m.1.1.1.2.1 = 0 → wp_Mo_go_L0 K post f (((((m.1.1.1.1.1, m.1.1.1.1.2), ((m.1.1.1.2.1 + (1 : Int32)), (nl, m.1.1.1.2.2.2))), ((m.1.1.2.1.1, m.1.1.2.1.2), (m.1.1.2.2.1, (m.1.1.2.2.2.1, m.1.1.2.2.2.2)))), (((m.1.2.1.1.1, m.1.2.1.1.2), (m.1.2.1.2.1, (m.1.2.1.2.2.1, m.1.2.1.2.2.2))), ((m.1.2.2.1.1, (m.1.2.2.1.2.1, m.1.2.2.1.2.2)), (m.1.2.2.2.1, (m.1.2.2.2.2.1, m.1.2.2.2.2.2))))), ((((m.2.1.1.1.1, m.2.1.1.1.2), (m.2.1.1.2.1, (m.2.1.1.2.2.1, m.2.1.1.2.2.2))), ((m.2.1.2.1.1, m.2.1.2.1.2), (m.2.1.2.2.1, (m.2.1.2.2.2.1, m.2.1.2.2.2.2)))), (((m.2.2.1.1.1, m.2.2.1.1.2), (m.2.2.1.2.1, (m.2.2.1.2.2.1, m.2.2.1.2.2.2))), ((m.2.2.2.1.1, (m.2.2.2.1.2.1, m.2.2.2.1.2.2)), (m.2.2.2.2.1, (m.2.2.2.2.2.1, m.2.2.2.2.2.2)))))) → ∃ p nl, K (((((m.1.1.1.1.1, m.1.1.1.1.2), (p, (nl, m.1.1.1.2.2.2))), ((m.1.1.2.1.1, m.1.1.2.1.2), (m.1.1.2.2.1, (m.1.1.2.2.2.1, m.1.1.2.2.2.2)))), (((m.1.2.1.1.1, m.1.2.1.1.2), (m.1.2.1.2.1, (m.1.2.1.2.2.1, m.1.2.1.2.2.2))), ((m.1.2.2.1.1, (m.1.2.2.1.2.1, m.1.2.2.1.2.2)), (m.1.2.2.2.1, (m.1.2.2.2.2.1, m.1.2.2.2.2.2))))), ((((m.2.1.1.1.1, m.2.1.1.1.2), (m.2.1.1.2.1, (m.2.1.1.2.2.1, m.2.1.1.2.2.2))), ((m.2.1.2.1.1, m.2.1.2.1.2), (m.2.1.2.2.1, (m.2.1.2.2.2.1, m.2.1.2.2.2.2)))), (((m.2.2.1.1.1, m.2.2.1.1.2), (m.2.2.1.2.1, (m.2.2.1.2.2.1, m.2.2.1.2.2.2))), ((m.2.2.2.1.1, (m.2.2.2.1.2.1, m.2.2.2.1.2.2)), (m.2.2.2.2.1, (m.2.2.2.2.2.1, m.2.2.2.2.2.2)))))) ∧ m.1.1.1.2.1 ≤ p ∧ p ≤ m.1.1.1.1.2 := by
      intro nl nz h
      have up := up_le p0 (txat_in nz) p9
      obtain ⟨p, nl', h, k1, k2⟩ := ih _ h ⟨up.1, up.2.1, p9⟩
      exact ⟨p, nl', h, Int32.le_trans up.2.2 k1, k2⟩
    rcases br_el h with ⟨q, h⟩ | ⟨q, h⟩
    · have nz : ¬ txat m.1.1.1.1.1 m.1.1.1.1.2 m.1.1.1.2.1 = 0 := by rw [q]; decide
      replace h := iv_Mo_at h
      rcases br_el h with ⟨q1, h⟩ | ⟨q1, h⟩
      · exact step _ nz h
      · exact step _ nz h
    · replace h := iv_Mo_at h
      rcases br_el h with ⟨q1, h⟩ | ⟨q1, h⟩
      · have nz : ¬ txat m.1.1.1.1.1 m.1.1.1.1.2 m.1.1.1.2.1 = 0 := by rw [q1]; decide
        replace h := iv_Mo_at h
        rcases br_el h with ⟨q2, h⟩ | ⟨q2, h⟩
        · exact step _ nz h
        · exact step _ nz h
      · exact ⟨m.1.1.1.2.1, m.1.1.1.2.2.1, h, Int32.le_refl _, p1⟩
theorem lg_L124 {K : T_Mo → Int32 → Prop} {post : Int32 → T_Mo → Prop} {x1 : Int32} : ∀ (f : Nat) (m : T_Mo), wp_Mo_go_L124 K post f m x1 → Lp m → ∃ p, K (((((m.1.1.1.1.1, m.1.1.1.1.2), (p, (m.1.1.1.2.2.1, m.1.1.1.2.2.2))), ((m.1.1.2.1.1, m.1.1.2.1.2), (m.1.1.2.2.1, (m.1.1.2.2.2.1, m.1.1.2.2.2.2)))), (((m.1.2.1.1.1, m.1.2.1.1.2), (m.1.2.1.2.1, (m.1.2.1.2.2.1, m.1.2.1.2.2.2))), ((m.1.2.2.1.1, (m.1.2.2.1.2.1, m.1.2.2.1.2.2)), (m.1.2.2.2.1, (m.1.2.2.2.2.1, m.1.2.2.2.2.2))))), ((((m.2.1.1.1.1, m.2.1.1.1.2), (m.2.1.1.2.1, (m.2.1.1.2.2.1, m.2.1.1.2.2.2))), ((m.2.1.2.1.1, m.2.1.2.1.2), (m.2.1.2.2.1, (m.2.1.2.2.2.1, m.2.1.2.2.2.2)))), (((m.2.2.1.1.1, m.2.2.1.1.2), (m.2.2.1.2.1, (m.2.2.1.2.2.1, m.2.2.1.2.2.2))), ((m.2.2.2.1.1, (m.2.2.2.1.2.1, m.2.2.2.1.2.2)), (m.2.2.2.2.1, (m.2.2.2.2.2.1, m.2.2.2.2.2.2)))))) x1 ∧ m.1.1.1.2.1 ≤ p ∧ p ≤ m.1.1.1.1.2 ∧ (m.1.1.1.2.1 = m.1.1.2.1.1 → lt (txat m.1.1.1.1.1 m.1.1.1.1.2 m.1.1.1.2.1) → m.1.1.1.2.1 < p) := by
  intro f
  induction f with
  | zero => intro m h; exact False.elim h
  | succ f ih =>
    intro m h lp
    obtain ⟨p0, p1, p9⟩ := lp
    rw [wp_Mo_go_L124] at h
    replace h := iv_Mo_at h
    have stop : ((12 : Int32) ≤ m.1.1.1.2.1 - m.1.1.2.1.1 ∨ ¬ lt (txat m.1.1.1.1.1 m.1.1.1.1.2 m.1.1.1.2.1)) → K m x1 → ∃ p, K (((((m.1.1.1.1.1, m.1.1.1.1.2), (p, (m.1.1.1.2.2.1, m.1.1.1.2.2.2))), ((m.1.1.2.1.1, m.1.1.2.1.2), (m.1.1.2.2.1, (m.1.1.2.2.2.1, m.1.1.2.2.2.2)))), (((m.1.2.1.1.1, m.1.2.1.1.2), (m.1.2.1.2.1, (m.1.2.1.2.2.1, m.1.2.1.2.2.2))), ((m.1.2.2.1.1, (m.1.2.2.1.2.1, m.1.2.2.1.2.2)), (m.1.2.2.2.1, (m.1.2.2.2.2.1, m.1.2.2.2.2.2))))), ((((m.2.1.1.1.1, m.2.1.1.1.2), (m.2.1.1.2.1, (m.2.1.1.2.2.1, m.2.1.1.2.2.2))), ((m.2.1.2.1.1, m.2.1.2.1.2), (m.2.1.2.2.1, (m.2.1.2.2.2.1, m.2.1.2.2.2.2)))), (((m.2.2.1.1.1, m.2.2.1.1.2), (m.2.2.1.2.1, (m.2.2.1.2.2.1, m.2.2.1.2.2.2))), ((m.2.2.2.1.1, (m.2.2.2.1.2.1, m.2.2.2.1.2.2)), (m.2.2.2.2.1, (m.2.2.2.2.2.1, m.2.2.2.2.2.2)))))) x1 ∧ m.1.1.1.2.1 ≤ p ∧ p ≤ m.1.1.1.1.2 ∧ (m.1.1.1.2.1 = m.1.1.2.1.1 → lt (txat m.1.1.1.1.1 m.1.1.1.1.2 m.1.1.1.2.1) → m.1.1.1.2.1 < p) := fun w h => ⟨m.1.1.1.2.1, h, Int32.le_refl _, p1, fun e l => by
      rcases w with w | w
      · rw [e, Int32.sub_self] at w; exact absurd w (by decide)
      · exact absurd l w⟩
    have step : ¬ txat m.1.1.1.1.1 m.1.1.1.1.2 m.1.1.1.2.1 = 0 → wp_Mo_go_L124 K post f (((((m.1.1.1.1.1, m.1.1.1.1.2), ((m.1.1.1.2.1 + (1 : Int32)), (m.1.1.1.2.2.1, m.1.1.1.2.2.2))), ((m.1.1.2.1.1, m.1.1.2.1.2), (m.1.1.2.2.1, (m.1.1.2.2.2.1, m.1.1.2.2.2.2)))), (((m.1.2.1.1.1, m.1.2.1.1.2), (m.1.2.1.2.1, (m.1.2.1.2.2.1, m.1.2.1.2.2.2))), ((m.1.2.2.1.1, (m.1.2.2.1.2.1, m.1.2.2.1.2.2)), (m.1.2.2.2.1, (m.1.2.2.2.2.1, m.1.2.2.2.2.2))))), ((((m.2.1.1.1.1, m.2.1.1.1.2), (m.2.1.1.2.1, (m.2.1.1.2.2.1, m.2.1.1.2.2.2))), ((m.2.1.2.1.1, m.2.1.2.1.2), (m.2.1.2.2.1, (m.2.1.2.2.2.1, m.2.1.2.2.2.2)))), (((m.2.2.1.1.1, m.2.2.1.1.2), (m.2.2.1.2.1, (m.2.2.1.2.2.1, m.2.2.1.2.2.2))), ((m.2.2.2.1.1, (m.2.2.2.1.2.1, m.2.2.2.1.2.2)), (m.2.2.2.2.1, (m.2.2.2.2.2.1, m.2.2.2.2.2.2)))))) x1 → ∃ p, K (((((m.1.1.1.1.1, m.1.1.1.1.2), (p, (m.1.1.1.2.2.1, m.1.1.1.2.2.2))), ((m.1.1.2.1.1, m.1.1.2.1.2), (m.1.1.2.2.1, (m.1.1.2.2.2.1, m.1.1.2.2.2.2)))), (((m.1.2.1.1.1, m.1.2.1.1.2), (m.1.2.1.2.1, (m.1.2.1.2.2.1, m.1.2.1.2.2.2))), ((m.1.2.2.1.1, (m.1.2.2.1.2.1, m.1.2.2.1.2.2)), (m.1.2.2.2.1, (m.1.2.2.2.2.1, m.1.2.2.2.2.2))))), ((((m.2.1.1.1.1, m.2.1.1.1.2), (m.2.1.1.2.1, (m.2.1.1.2.2.1, m.2.1.1.2.2.2))), ((m.2.1.2.1.1, m.2.1.2.1.2), (m.2.1.2.2.1, (m.2.1.2.2.2.1, m.2.1.2.2.2.2)))), (((m.2.2.1.1.1, m.2.2.1.1.2), (m.2.2.1.2.1, (m.2.2.1.2.2.1, m.2.2.1.2.2.2))), ((m.2.2.2.1.1, (m.2.2.2.1.2.1, m.2.2.2.1.2.2)), (m.2.2.2.2.1, (m.2.2.2.2.2.1, m.2.2.2.2.2.2)))))) x1 ∧ m.1.1.1.2.1 ≤ p ∧ p ≤ m.1.1.1.1.2 ∧ (m.1.1.1.2.1 = m.1.1.2.1.1 → lt (txat m.1.1.1.1.1 m.1.1.1.1.2 m.1.1.1.2.1) → m.1.1.1.2.1 < p) := by
      intro nz h
      have pin := txat_in nz
      have up := up_le p0 pin p9
      obtain ⟨p, h, k1, k2, -⟩ := ih _ h ⟨up.1, up.2.1, p9⟩
      have k1' : m.1.1.1.2.1 + (1 : Int32) ≤ p := k1
      have s1 := ix_up p0 (Int32.lt_of_lt_of_le pin p9)
      refine ⟨p, h, Int32.le_trans up.2.2 k1, k2, fun _ _ => ?_⟩
      refine Int32.lt_of_lt_of_le ?_ k1'
      rw [Int32.lt_iff_toInt_lt]
      rw [Int32.le_iff_toInt_le, show (0 : Int32).toInt = 0 from rfl] at p0
      have u1 := up.1
      rw [Int32.le_iff_toInt_le, show (0 : Int32).toInt = 0 from rfl] at u1
      have s2 : (m.1.1.1.2.1 + (1 : Int32)).toInt.toNat = m.1.1.1.2.1.toInt.toNat + 1 := s1
      omega
    rcases iv_Mo_isLetter h with ⟨q, h⟩ | ⟨q, h⟩
    · replace h := h.2 (by decide)
      rcases br_el h with ⟨q1, h⟩ | ⟨q1, h⟩
      · exact stop (Or.inl q1) h
      · exact step (lt_nz q) h
    · replace h := iv_Mo_at (h.1 rfl)
      rcases iv_Mo_isDigit h with ⟨q1, h⟩ | ⟨q1, h⟩
      · replace h := h.2 (by decide)
        rcases br_el h with ⟨q2, h⟩ | ⟨q2, h⟩
        · exact stop (Or.inl q2) h
        · exact step (dg_nz q1) h
      · exact stop (Or.inr q) (h.1 rfl)
theorem dgv {c : Int32} (h : dg c) : ∃ d : Nat, d ≤ 9 ∧ c.toInt = 48 + (d : Int) := by
  unfold dg at h
  rw [Int32.le_iff_toInt_le, Int32.le_iff_toInt_le, show (48 : Int32).toInt = 48 from rfl, show (57 : Int32).toInt = 57 from rfl] at h
  exact ⟨(c.toInt - 48).toNat, by omega, by omega⟩
set_option maxHeartbeats 1000000 in
theorem lg_L5 {K : T_Mo → Prop} {post : Unit → T_Mo → Prop} {b z : Nat} (z9 : z ≤ 4000) : ∀ (d k f V : Nat) (m : T_Mo), k + d = 9 → wp_Mo_digits_L5 K post f m → m.1.1.2.1.1 = Int32.ofNat b → m.1.1.1.1.2 = Int32.ofNat z → m.1.1.1.2.1 = Int32.ofNat (b + k) → b + k ≤ z → m.1.1.2.2.2.1.toInt = (V : Int) → V < 10 ^ k → ∃ (k' V' : Nat) (v : Int64), K (((((m.1.1.1.1.1, m.1.1.1.1.2), ((Int32.ofNat (b + k')), (m.1.1.1.2.2.1, m.1.1.1.2.2.2))), ((m.1.1.2.1.1, m.1.1.2.1.2), (m.1.1.2.2.1, (v, m.1.1.2.2.2.2)))), (((m.1.2.1.1.1, m.1.2.1.1.2), (m.1.2.1.2.1, (m.1.2.1.2.2.1, m.1.2.1.2.2.2))), ((m.1.2.2.1.1, (m.1.2.2.1.2.1, m.1.2.2.1.2.2)), (m.1.2.2.2.1, (m.1.2.2.2.2.1, m.1.2.2.2.2.2))))), ((((m.2.1.1.1.1, m.2.1.1.1.2), (m.2.1.1.2.1, (m.2.1.1.2.2.1, m.2.1.1.2.2.2))), ((m.2.1.2.1.1, m.2.1.2.1.2), (m.2.1.2.2.1, (m.2.1.2.2.2.1, m.2.1.2.2.2.2)))), (((m.2.2.1.1.1, m.2.2.1.1.2), (m.2.2.1.2.1, (m.2.2.1.2.2.1, m.2.2.1.2.2.2))), ((m.2.2.2.1.1, (m.2.2.2.1.2.1, m.2.2.2.1.2.2)), (m.2.2.2.2.1, (m.2.2.2.2.2.1, m.2.2.2.2.2.2)))))) ∧ k ≤ k' ∧ k' ≤ 9 ∧ b + k' ≤ z ∧ v.toInt = (V' : Int) ∧ V' < 10 ^ k' ∧ (k' = 0 → ¬ dg (txat m.1.1.1.1.1 m.1.1.1.1.2 m.1.1.1.2.1)) := by
  intro d
  induction d with
  | zero =>
    intro k f V m kd h eb ez ep bz ev hV
    cases f with
    | zero => exact False.elim h
    | succ f =>
    rw [wp_Mo_digits_L5] at h
    replace h := iv_Mo_at h
    have ek : k = 9 := by omega
    have fin : K m := by
      rcases iv_Mo_isDigit h with ⟨q, h⟩ | ⟨q, h⟩
      · replace h := h.2 (by decide)
        refine h.1 ?_
        rw [ep, eb, ek, Int32.le_iff_toInt_le, Int32.toInt_sub, on_toInt (by omega), on_toInt (by omega), show (9 : Int32).toInt = 9 from rfl, Int.bmod_eq_of_le (by omega) (by omega)]; omega
      · exact h.1 rfl
    refine ⟨k, V, m.1.1.2.2.2.1, ?_, Nat.le_refl _, by omega, bz, ev, hV, fun e => by omega⟩
    rw [← ep]; exact fin
  | succ d ih =>
    intro k f V m kd h eb ez ep bz ev hV
    cases f with
    | zero => exact False.elim h
    | succ f =>
    rw [wp_Mo_digits_L5] at h
    replace h := iv_Mo_at h
    rcases iv_Mo_isDigit h with ⟨q, h⟩ | ⟨q, h⟩
    · replace h := h.2 (by decide)
      have pin := txat_in (dg_nz q)
      rw [ep, ez, on_lt (by omega) (by omega)] at pin
      have np : ¬ (9 : Int32) ≤ m.1.1.1.2.1 - m.1.1.2.1.1 := by
        rw [ep, eb, Int32.le_iff_toInt_le, Int32.toInt_sub, on_toInt (by omega), on_toInt (by omega), show (9 : Int32).toInt = 9 from rfl, Int.bmod_eq_of_le (by omega) (by omega)]; omega
      replace h := iv_Mo_at (h.2 np)
      obtain ⟨g, g9, eg⟩ := dgv q
      have p9 : 10 ^ k ≤ 100000000 := (pt10 (by omega)).1
      have pe : 10 ^ (k + 1) = 10 ^ k * 10 := Nat.pow_succ _ _
      have ev' : ((10 : Int64) * m.1.1.2.2.2.1 + (txat m.1.1.1.1.1 m.1.1.1.1.2 m.1.1.1.2.1).toInt64 - (48 : Int64)).toInt = ((10 * V + g : Nat) : Int) := by
        rw [Int64.toInt_sub, Int64.toInt_add, Int64.toInt_mul, ev, Int32.toInt_toInt64, eg, show (10 : Int64).toInt = 10 from rfl, show (48 : Int64).toInt = 48 from rfl]
        rw [Int.bmod_eq_of_le (n := 10 * (V : Int)) (by omega) (by omega), Int.bmod_eq_of_le (n := 10 * (V : Int) + (48 + (g : Int))) (by omega) (by omega), Int.bmod_eq_of_le (by omega) (by omega)]; omega
      have ep' : m.1.1.1.2.1 + (1 : Int32) = Int32.ofNat (b + (k + 1)) := by rw [ep, on_succ (by omega)]; rfl
      obtain ⟨k', V', v, h, k1, k2, k3, k4, k5, -⟩ := ih (k + 1) f (10 * V + g) _ (by omega) h eb ez ep' (by omega) ev' (by omega)
      exact ⟨k', V', v, h, by omega, k2, k3, k4, k5, fun e => by omega⟩
    · refine ⟨k, V, m.1.1.2.2.2.1, ?_, Nat.le_refl _, by omega, bz, ev, hV, fun e => q⟩
      rw [← ep]; exact h.1 rfl
set_option maxHeartbeats 1000000 in
theorem lg_L143 {K : T_Mo → Int64 → Prop} {post : Unit → T_Mo → Prop} {z V : Nat} (z9 : z ≤ 4000) (V9 : V < 1000000000) : ∀ (j f p F : Nat) (m : T_Mo) (x1 : Int64), wp_Mo_digits_L143 K post f m x1 → j ≤ 3 → m.1.1.1.1.2 = Int32.ofNat z → m.1.1.1.2.1 = Int32.ofNat p → p ≤ z → x1.toInt = ((10 ^ j / 10 : Nat) : Int) → m.1.1.2.2.2.1.toInt = ((1000 * V + F : Nat) : Int) → F + 10 ^ j ≤ 1000 → F % 10 ^ j = 0 → ∃ (j' p' F' : Nat) (v y : Int64), K (((((m.1.1.1.1.1, m.1.1.1.1.2), ((Int32.ofNat p'), (m.1.1.1.2.2.1, m.1.1.1.2.2.2))), ((m.1.1.2.1.1, m.1.1.2.1.2), (m.1.1.2.2.1, (v, m.1.1.2.2.2.2)))), (((m.1.2.1.1.1, m.1.2.1.1.2), (m.1.2.1.2.1, (m.1.2.1.2.2.1, m.1.2.1.2.2.2))), ((m.1.2.2.1.1, (m.1.2.2.1.2.1, m.1.2.2.1.2.2)), (m.1.2.2.2.1, (m.1.2.2.2.2.1, m.1.2.2.2.2.2))))), ((((m.2.1.1.1.1, m.2.1.1.1.2), (m.2.1.1.2.1, (m.2.1.1.2.2.1, m.2.1.1.2.2.2))), ((m.2.1.2.1.1, m.2.1.2.1.2), (m.2.1.2.2.1, (m.2.1.2.2.2.1, m.2.1.2.2.2.2)))), (((m.2.2.1.1.1, m.2.2.1.1.2), (m.2.2.1.2.1, (m.2.2.1.2.2.1, m.2.2.1.2.2.2))), ((m.2.2.2.1.1, (m.2.2.2.1.2.1, m.2.2.2.1.2.2)), (m.2.2.2.2.1, (m.2.2.2.2.2.1, m.2.2.2.2.2.2)))))) y ∧ j' ≤ j ∧ p' = p + (j - j') ∧ p' ≤ z ∧ v.toInt = ((1000 * V + F' : Nat) : Int) ∧ F' + 10 ^ j' ≤ 1000 ∧ F' % 10 ^ j' = 0 ∧ (dg (txat m.1.1.1.1.1 m.1.1.1.1.2 m.1.1.1.2.1) → 1 ≤ j → j' < j) := by
  intro j
  induction j with
  | zero =>
    intro f p F m x1 h j3 ez ep pz ex ev hF hm
    cases f with
    | zero => exact False.elim h
    | succ f =>
    rw [wp_Mo_digits_L143] at h
    replace h := iv_Mo_at h
    have fin : K m x1 := by
      rcases iv_Mo_isDigit h with ⟨q, h⟩ | ⟨q, h⟩
      · exact (h.2 (by decide)).1 ((lg_cmp_le _ _).mpr (Int64.le_iff_toInt_le.mpr (by rw [ex]; decide)))
      · exact h.1 rfl
    refine ⟨0, p, F, m.1.1.2.2.2.1, x1, ?_, Nat.le_refl _, by omega, pz, ev, hF, hm, fun _ w => by omega⟩
    rw [← ep]; exact fin
  | succ j ih =>
    intro f p F m x1 h j3 ez ep pz ex ev hF hm
    cases f with
    | zero => exact False.elim h
    | succ f =>
    rw [wp_Mo_digits_L143] at h
    replace h := iv_Mo_at h
    rw [p10d (by omega)] at ex
    have pj := pt10 (k := j) (by omega)
    have pe : 10 ^ (j + 1) = 10 ^ j * 10 := Nat.pow_succ _ _
    rcases iv_Mo_isDigit h with ⟨q, h⟩ | ⟨q, h⟩
    · replace h := h.2 (by decide)
      have pin := txat_in (dg_nz q)
      rw [ep, ez, on_lt (by omega) (by omega)] at pin
      have nz : ¬ lg_cmp x1 (0 : Int64) ≤ 0 := fun w => by
        have := (lg_cmp_le _ _).mp w
        rw [Int64.le_iff_toInt_le, ex, show (0 : Int64).toInt = 0 from rfl] at this
        omega
      replace h := iv_Mo_at (h.2 nz)
      obtain ⟨g, g9, eg⟩ := dgv q
      have ed : (txat m.1.1.1.1.1 m.1.1.1.1.2 m.1.1.1.2.1 - (48 : Int32)).toInt64.toInt = (g : Int) := by
        rw [Int32.toInt_toInt64, Int32.toInt_sub, eg, show (48 : Int32).toInt = 48 from rfl, Int.bmod_eq_of_le (by omega) (by omega)]; omega
      have gm : 10 ^ j * g ≤ 10 ^ j * 9 := Nat.mul_le_mul_left _ g9
      have em : (x1 * (txat m.1.1.1.1.1 m.1.1.1.1.2 m.1.1.1.2.1 - (48 : Int32)).toInt64).toInt = ((10 ^ j * g : Nat) : Int) := by
        rw [Int64.toInt_mul, ex, ed, ← Int.natCast_mul]
        generalize 10 ^ j * g = q at gm
        exact Int.bmod_eq_of_le (by omega) (by omega)
      have ev' : (m.1.1.2.2.2.1 + x1 * (txat m.1.1.1.1.1 m.1.1.1.1.2 m.1.1.1.2.1 - (48 : Int32)).toInt64).toInt = ((1000 * V + (F + 10 ^ j * g) : Nat) : Int) := by
        rw [Int64.toInt_add, ev, em]
        generalize 10 ^ j * g = q at gm
        rw [Int.bmod_eq_of_le (by omega) (by omega)]; omega
      have ex' : (x1 / (10 : Int64)).toInt = ((10 ^ j / 10 : Nat) : Int) := d64 ex (show (10 : Int64).toInt = ((10 : Nat) : Int) from rfl) (by omega) (by omega)
      have ep' : m.1.1.1.2.1 + (1 : Int32) = Int32.ofNat (p + 1) := by rw [ep, on_succ (by omega)]
      have hm' : (F + 10 ^ j * g) % 10 ^ j = 0 := by
        rw [Nat.add_mul_mod_self_left]
        have d : 10 ^ j ∣ 10 ^ (j + 1) := Nat.pow_dvd_pow 10 (by omega)
        have := Nat.mod_mod_of_dvd F d
        rw [hm, Nat.zero_mod] at this
        exact this.symm
      obtain ⟨j', p', F', v, y, h, k1, k2, k3, k4, k5, k6, -⟩ := ih f (p + 1) (F + 10 ^ j * g) _ _ h (by omega) ez ep' (by omega) ex' ev' (by omega) hm'
      exact ⟨j', p', F', v, y, h, by omega, by omega, k3, k4, k5, k6, fun _ _ => by omega⟩
    · refine ⟨j + 1, p, F, m.1.1.2.2.2.1, x1, ?_, Nat.le_refl _, by omega, pz, ev, hF, hm, fun w => absurd w q⟩
      rw [← ep]; exact h.1 rfl
/-- a number of the reference: how it is written takes no more bytes than it has -/
def ND (m : T_Mo) (L : Nat) : Prop := ∃ v : Nat, m.1.1.2.2.2.1.toInt = (v : Int) ∧ v < 1000000000000 ∧ (nb v).length ≤ L ∧ 1 ≤ L
set_option maxHeartbeats 1000000 in
theorem lg_digits {m : T_Mo} {b z : Nat} {P : Unit → T_Mo → Prop} (z9 : z ≤ 4000) (eb : m.1.1.2.1.1 = Int32.ofNat b) (ep : m.1.1.1.2.1 = Int32.ofNat b) (ez : m.1.1.1.1.2 = Int32.ofNat z) (bz : b ≤ z) (dg0 : dg (txat m.1.1.1.1.1 m.1.1.1.1.2 m.1.1.1.2.1)) (h : wp_Mo_digits m P) : ∃ (p : Nat) (v : Int64) (po : Int32), P () (((((m.1.1.1.1.1, m.1.1.1.1.2), ((Int32.ofNat p), (m.1.1.1.2.2.1, m.1.1.1.2.2.2))), ((m.1.1.2.1.1, m.1.1.2.1.2), (m.1.1.2.2.1, (v, po)))), (((m.1.2.1.1.1, m.1.2.1.1.2), (m.1.2.1.2.1, (m.1.2.1.2.2.1, m.1.2.1.2.2.2))), ((m.1.2.2.1.1, (m.1.2.2.1.2.1, m.1.2.2.1.2.2)), (m.1.2.2.2.1, (m.1.2.2.2.2.1, m.1.2.2.2.2.2))))), ((((m.2.1.1.1.1, m.2.1.1.1.2), (m.2.1.1.2.1, (m.2.1.1.2.2.1, m.2.1.1.2.2.2))), ((m.2.1.2.1.1, m.2.1.2.1.2), (m.2.1.2.2.1, (m.2.1.2.2.2.1, m.2.1.2.2.2.2)))), (((m.2.2.1.1.1, m.2.2.1.1.2), (m.2.2.1.2.1, (m.2.2.1.2.2.1, m.2.2.1.2.2.2))), ((m.2.2.2.1.1, (m.2.2.2.1.2.1, m.2.2.2.1.2.2)), (m.2.2.2.2.1, (m.2.2.2.2.2.1, m.2.2.2.2.2.2)))))) ∧ b < p ∧ p ≤ z ∧ ∃ n : Nat, v.toInt = (n : Int) ∧ n < 1000000000000 ∧ (nb n).length ≤ p - b := by
  unfold wp_Mo_digits at h
  obtain ⟨f, h⟩ := h
  obtain ⟨k, V, v, h, -, k9, kz, ev, hV, kd⟩ := lg_L5 z9 9 0 f 0 _ (by omega) h eb ez ep (by omega) rfl (by decide)
  have k1 : 1 ≤ k := by
    rcases Nat.eq_zero_or_pos k with q | q
    · exact absurd dg0 (kd q)
    · exact q
  have V9 : V < 1000000000 := by
    have : 10 ^ k ≤ 10 ^ 9 := Nat.pow_le_pow_right (by omega) k9
    have e : 10 ^ 9 = 1000000000 := by decide
    omega
  have ev3 : (v * (1000 : Int64)).toInt = ((1000 * V + 0 : Nat) : Int) := by
    rw [Int64.toInt_mul, ev, show (1000 : Int64).toInt = 1000 from rfl, Int.bmod_eq_of_le (by omega) (by omega)]; omega
  have plain : ∀ po : Int32, P () (((((m.1.1.1.1.1, m.1.1.1.1.2), ((Int32.ofNat (b + k)), (m.1.1.1.2.2.1, m.1.1.1.2.2.2))), ((m.1.1.2.1.1, m.1.1.2.1.2), (m.1.1.2.2.1, ((v * (1000 : Int64)), po)))), (((m.1.2.1.1.1, m.1.2.1.1.2), (m.1.2.1.2.1, (m.1.2.1.2.2.1, m.1.2.1.2.2.2))), ((m.1.2.2.1.1, (m.1.2.2.1.2.1, m.1.2.2.1.2.2)), (m.1.2.2.2.1, (m.1.2.2.2.2.1, m.1.2.2.2.2.2))))), ((((m.2.1.1.1.1, m.2.1.1.1.2), (m.2.1.1.2.1, (m.2.1.1.2.2.1, m.2.1.1.2.2.2))), ((m.2.1.2.1.1, m.2.1.2.1.2), (m.2.1.2.2.1, (m.2.1.2.2.2.1, m.2.1.2.2.2.2)))), (((m.2.2.1.1.1, m.2.2.1.1.2), (m.2.2.1.2.1, (m.2.2.1.2.2.1, m.2.2.1.2.2.2))), ((m.2.2.2.1.1, (m.2.2.2.1.2.1, m.2.2.2.1.2.2)), (m.2.2.2.2.1, (m.2.2.2.2.2.1, m.2.2.2.2.2.2)))))) → ∃ (p : Nat) (v : Int64) (po : Int32), P () (((((m.1.1.1.1.1, m.1.1.1.1.2), ((Int32.ofNat p), (m.1.1.1.2.2.1, m.1.1.1.2.2.2))), ((m.1.1.2.1.1, m.1.1.2.1.2), (m.1.1.2.2.1, (v, po)))), (((m.1.2.1.1.1, m.1.2.1.1.2), (m.1.2.1.2.1, (m.1.2.1.2.2.1, m.1.2.1.2.2.2))), ((m.1.2.2.1.1, (m.1.2.2.1.2.1, m.1.2.2.1.2.2)), (m.1.2.2.2.1, (m.1.2.2.2.2.1, m.1.2.2.2.2.2))))), ((((m.2.1.1.1.1, m.2.1.1.1.2), (m.2.1.1.2.1, (m.2.1.1.2.2.1, m.2.1.1.2.2.2))), ((m.2.1.2.1.1, m.2.1.2.1.2), (m.2.1.2.2.1, (m.2.1.2.2.2.1, m.2.1.2.2.2.2)))), (((m.2.2.1.1.1, m.2.2.1.1.2), (m.2.2.1.2.1, (m.2.2.1.2.2.1, m.2.2.1.2.2.2))), ((m.2.2.2.1.1, (m.2.2.2.1.2.1, m.2.2.2.1.2.2)), (m.2.2.2.2.1, (m.2.2.2.2.2.1, m.2.2.2.2.2.2)))))) ∧ b < p ∧ p ≤ z ∧ ∃ n : Nat, v.toInt = (n : Int) ∧ n < 1000000000000 ∧ (nb n).length ≤ p - b := by
    intro po h
    refine ⟨b + k, _, po, h, by omega, kz, 1000 * V + 0, ev3, by omega, ?_⟩
    have := nb_read (V := V) (F := 0) (k := k) (f := 0) hV k1 (by omega) (by omega) (Nat.zero_mod _)
    rw [if_pos rfl] at this
    omega
  unfold wp_Mo_digits_J72 at h
  replace h := iv_Mo_at h
  dsimp only at h
  rcases br_el h with ⟨q, h⟩ | ⟨q, h⟩
  · have pin := txat_in (tx := m.1.1.1.1.1) (sz := m.1.1.1.1.2) (p := Int32.ofNat (b + k)) (by rw [q]; decide)
    rw [ez, on_lt (by omega) (by omega)] at pin
    replace h := iv_Mo_at h
    dsimp only at h
    rw [on_succ (by omega)] at h
    rcases iv_Mo_isDigit h with ⟨g, h⟩ | ⟨g, h⟩
    · replace h := h.2 (by decide)
      unfold wp_Mo_digits_J119 wp_Mo_digits_J205 at h
      obtain ⟨f2, h⟩ := h.2.2.2 (by decide)
      rw [on_succ (by omega)] at h
      obtain ⟨j', p', F', v', y, h, j1, j2, j3, j4, j5, j6, j7⟩ := lg_L143 z9 V9 3 f2 (b + k + 1) 0 _ _ h (by omega) ez rfl (by omega) rfl ev3 (by decide) (by decide)
      have jl := j7 g (by omega)
      have pj := pt10 (k := j') (by omega)
      refine ⟨p', v', _, h, by omega, j3, 1000 * V + F', j4, by omega, ?_⟩
      have := nb_read (V := V) (F := F') (k := k) (f := 3 - j') hV k1 (by omega) (by omega) (by rw [show 3 - (3 - j') = j' by omega]; exact j6)
      rw [if_neg (by omega)] at this
      omega
    · replace h := h.1 rfl
      unfold wp_Mo_digits_J118 wp_Mo_digits_J119 wp_Mo_digits_J205 at h
      exact plain _ (h.2.2.1 rfl)
  · unfold wp_Mo_digits_J118 wp_Mo_digits_J119 wp_Mo_digits_J205 at h
    exact plain _ (h.2.2.1 rfl)
/-- the word that the reference has just read -/
def TW (m : T_Mo) : Prop := m.1.1.1.2.2.2 = 1 ∨ (sg m.1.1.1.2.2.2 ∧ m.1.1.2.1.2.toNatClampNeg = m.1.1.2.1.1.toNatClampNeg + 1) ∨ (m.1.1.1.2.2.2 = 2000 ∧ ND m (m.1.1.2.1.2.toNatClampNeg - m.1.1.2.1.1.toNatClampNeg)) ∨ (m.1.1.1.2.2.2 = (1000 : Int32) + mn1 (wo m) ∧ m.1.1.2.1.1.toNatClampNeg < m.1.1.2.1.2.toNatClampNeg)
/-- where it stands -/
def LQ (m : T_Mo) : Prop := (0 : Int32) ≤ m.1.1.2.1.1 ∧ m.1.1.2.1.1 ≤ m.1.1.2.1.2 ∧ m.1.1.2.1.2 = m.1.1.1.2.1 ∧ m.1.1.1.2.1 ≤ m.1.1.1.1.2 ∧ m.1.1.1.1.2 ≤ 4000
def kln (k : Int32) : Nat := if k = 10 then 3 else if k = 11 then 4 else if k = 12 then 5 else if k = 13 then 4 else if k = 14 then 3 else if k = 15 then 2 else if k = 16 then 6 else if k = 17 then 5 else if k = 18 then 3 else if k = 19 then 2 else if k = 20 then 4 else if k = 21 then 4 else if k = 22 then 3 else if k = 30 then 6 else if k = 31 then 6 else if k = 24 then 4 else if k = 32 then 2 else if k = 33 then 4 else if k = 34 then 4 else if k = 40 then 1 else if k = 41 then 1 else if k = 42 then 1 else if k = 43 then 3 else if k = 44 then 4 else if k = 45 then 3 else if k = 46 then 1 else 0
theorem mn_len (l : List Int32) : mn1 l = -1 ∨ l.length = kln (mn1 l) := by
  by_cases h0 : l = [115, 101, 116]
  · subst h0; exact Or.inr (by decide)
  by_cases h1 : l = [119, 97, 105, 116]
  · subst h1; exact Or.inr (by decide)
  by_cases h2 : l = [117, 110, 116, 105, 108]
  · subst h2; exact Or.inr (by decide)
  by_cases h3 : l = [114, 97, 109, 112]
  · subst h3; exact Or.inr (by decide)
  by_cases h4 : l = [112, 97, 114]
  · subst h4; exact Or.inr (by decide)
  by_cases h5 : l = [105, 102]
  · subst h5; exact Or.inr (by decide)
  by_cases h6 : l = [114, 101, 112, 101, 97, 116]
  · subst h6; exact Or.inr (by decide)
  by_cases h7 : l = [108, 105, 109, 105, 116]
  · subst h7; exact Or.inr (by decide)
  by_cases h8 : l = [97, 115, 107]
  · subst h8; exact Or.inr (by decide)
  by_cases h9 : l = [100, 111]
  · subst h9; exact Or.inr (by decide)
  by_cases h10 : l = [115, 116, 111, 112]
  · subst h10; exact Or.inr (by decide)
  by_cases h11 : l = [104, 111, 108, 100]
  · subst h11; exact Or.inr (by decide)
  by_cases h12 : l = [97, 99, 116]
  · subst h12; exact Or.inr (by decide)
  by_cases h13 : l = [115, 105, 103, 110, 97, 108]
  · subst h13; exact Or.inr (by decide)
  by_cases h14 : l = [111, 117, 116, 112, 117, 116]
  · subst h14; exact Or.inr (by decide)
  by_cases h15 : l = [115, 116, 101, 112]
  · subst h15; exact Or.inr (by decide)
  by_cases h16 : l = [105, 110]
  · subst h16; exact Or.inr (by decide)
  by_cases h17 : l = [101, 108, 115, 101]
  · subst h17; exact Or.inr (by decide)
  by_cases h18 : l = [116, 104, 101, 110]
  · subst h18; exact Or.inr (by decide)
  by_cases h19 : l = [108]
  · subst h19; exact Or.inr (by decide)
  by_cases h20 : l = [99]
  · subst h20; exact Or.inr (by decide)
  by_cases h21 : l = [115]
  · subst h21; exact Or.inr (by decide)
  by_cases h22 : l = [98, 97, 114]
  · subst h22; exact Or.inr (by decide)
  by_cases h23 : l = [112, 97, 114, 116]
  · subst h23; exact Or.inr (by decide)
  by_cases h24 : l = [109, 105, 110]
  · subst h24; exact Or.inr (by decide)
  by_cases h25 : l = [104]
  · subst h25; exact Or.inr (by decide)
  refine Or.inl ?_
  unfold mn1 mn2 mn3
  rw [if_neg h0, if_neg h1, if_neg h2, if_neg h3, if_neg h4, if_neg h5, if_neg h6, if_neg h7, if_neg h8, if_neg h9, if_neg h10, if_neg h11, if_neg h12, if_neg h15, if_neg h13, if_neg h14, if_neg h16, if_neg h17, if_neg h18, if_neg h19, if_neg h20, if_neg h21, if_neg h22, if_neg h23, if_neg h24, if_neg h25]
set_option maxHeartbeats 2000000 in
/-- the reference goes on by a word -/
theorem lg_go {m : T_Mo} {P : Int32 → T_Mo → Prop} (lp : Lp m) (h : wp_Mo_go m P) : ∃ r u, P r u ∧ Fr m u ∧ (r = 0 ∨ (r = 1 ∧ LQ u ∧ TW u ∧ m.1.1.1.2.1 ≤ u.1.1.2.1.1)) := by
  unfold wp_Mo_go at h
  obtain ⟨f, h⟩ := h
  obtain ⟨p, nl, h, p1, p2⟩ := lg_L0 f m h lp
  obtain ⟨p0, -, z9⟩ := lp
  have pp : (0 : Int32) ≤ p := Int32.le_trans p0 p1
  have zz : (0 : Int32) ≤ m.1.1.1.1.2 := Int32.le_trans pp p2
  dsimp only at h
  replace h := iv_Mo_at h
  dsimp only at h
  have ep := (on_ix pp).symm
  have ez := (on_ix zz).symm
  have pz := ix_le p2
  have z9' : m.1.1.1.1.2.toNatClampNeg ≤ 4000 := by have := ix_le z9; rw [show (4000 : Int32).toNatClampNeg = 4000 from rfl] at this; exact this
  rcases br_el h with ⟨q, h⟩ | ⟨q, h⟩
  · exact ⟨_, _, h, ⟨rfl, rfl, rfl, rfl, rfl⟩, Or.inr ⟨rfl, ⟨pp, Int32.le_refl _, rfl, p2, z9⟩, Or.inl rfl, p1⟩⟩
  · have pin : p < m.1.1.1.1.2 := Int32.lt_of_le_of_ne p2 q
    have up := up_le pp pin z9
    have iu := ix_up pp (Int32.lt_of_lt_of_le pin z9)
    have sign : ∀ {s : Int32}, sg s → wp_Mo_go_J265 P (((((m.1.1.1.1.1, m.1.1.1.1.2), (p, (nl, m.1.1.1.2.2.2))), ((p, m.1.1.2.1.2), (nl, (m.1.1.2.2.2.1, m.1.1.2.2.2.2)))), (((m.1.2.1.1.1, m.1.2.1.1.2), (m.1.2.1.2.1, (m.1.2.1.2.2.1, m.1.2.1.2.2.2))), ((m.1.2.2.1.1, (m.1.2.2.1.2.1, m.1.2.2.1.2.2)), (m.1.2.2.2.1, (m.1.2.2.2.2.1, m.1.2.2.2.2.2))))), ((((m.2.1.1.1.1, m.2.1.1.1.2), (m.2.1.1.2.1, (m.2.1.1.2.2.1, m.2.1.1.2.2.2))), ((m.2.1.2.1.1, m.2.1.2.1.2), (m.2.1.2.2.1, (m.2.1.2.2.2.1, m.2.1.2.2.2.2)))), (((m.2.2.1.1.1, m.2.2.1.1.2), (m.2.2.1.2.1, (m.2.2.1.2.2.1, m.2.2.1.2.2.2))), ((m.2.2.2.1.1, (m.2.2.2.1.2.1, m.2.2.2.1.2.2)), (m.2.2.2.2.1, (m.2.2.2.2.2.1, m.2.2.2.2.2.2)))))) s → ∃ r u, P r u ∧ Fr m u ∧ (r = 0 ∨ (r = 1 ∧ LQ u ∧ TW u ∧ m.1.1.1.2.1 ≤ u.1.1.2.1.1)) := by
      intro s ss h
      unfold wp_Mo_go_J265 wp_Mo_go_J270 wp_Mo_go_J287 at h
      replace h := (h.2 (by decide)).2
      exact ⟨_, _, h, ⟨rfl, rfl, rfl, rfl, rfl⟩, Or.inr ⟨rfl, ⟨pp, up.2.2, rfl, up.2.1, z9⟩, Or.inr (Or.inl ⟨ss, iu⟩), p1⟩⟩
    have fin : ∀ {x1 : Int32} {p' : Nat} {v : Int64} {po : Int32}, p.toNatClampNeg < p' → p' ≤ m.1.1.1.1.2.toNatClampNeg → (¬ lt x1 → ∃ n : Nat, v.toInt = (n : Int) ∧ n < 1000000000000 ∧ (nb n).length ≤ p' - p.toNatClampNeg) → wp_Mo_go_J315 P (((((m.1.1.1.1.1, m.1.1.1.1.2), ((Int32.ofNat p'), (nl, m.1.1.1.2.2.2))), ((p, m.1.1.2.1.2), (nl, (v, po)))), (((m.1.2.1.1.1, m.1.2.1.1.2), (m.1.2.1.2.1, (m.1.2.1.2.2.1, m.1.2.1.2.2.2))), ((m.1.2.2.1.1, (m.1.2.2.1.2.1, m.1.2.2.1.2.2)), (m.1.2.2.2.1, (m.1.2.2.2.2.1, m.1.2.2.2.2.2))))), ((((m.2.1.1.1.1, m.2.1.1.1.2), (m.2.1.1.2.1, (m.2.1.1.2.2.1, m.2.1.1.2.2.2))), ((m.2.1.2.1.1, m.2.1.2.1.2), (m.2.1.2.2.1, (m.2.1.2.2.2.1, m.2.1.2.2.2.2)))), (((m.2.2.1.1.1, m.2.2.1.1.2), (m.2.2.1.2.1, (m.2.2.1.2.2.1, m.2.2.1.2.2.2))), ((m.2.2.2.1.1, (m.2.2.2.1.2.1, m.2.2.2.1.2.2)), (m.2.2.2.2.1, (m.2.2.2.2.2.1, m.2.2.2.2.2.2)))))) x1 → ∃ r u, P r u ∧ Fr m u ∧ (r = 0 ∨ (r = 1 ∧ LQ u ∧ TW u ∧ m.1.1.1.2.1 ≤ u.1.1.2.1.1)) := by
      intro x1 p' v po l1 l2 hn h
      have ip : (Int32.ofNat p').toNatClampNeg = p' := ix_on (by omega)
      have le : p ≤ Int32.ofNat p' := by rw [ep, on_le (by omega) (by omega)]; omega
      have le2 : Int32.ofNat p' ≤ m.1.1.1.1.2 := by rw [ez, on_le (by omega) (by omega)]; exact l2
      rcases iv_J315 h with ⟨-, h⟩ | ⟨-, ⟨lx, h⟩ | ⟨lx, h⟩⟩
      · exact ⟨_, _, h, ⟨rfl, rfl, rfl, rfl, rfl⟩, Or.inl rfl⟩
      · have lb : LB (((((m.1.1.1.1.1, m.1.1.1.1.2), ((Int32.ofNat p'), (nl, m.1.1.1.2.2.2))), ((p, (Int32.ofNat p')), (nl, (v, po)))), (((m.1.2.1.1.1, m.1.2.1.1.2), (m.1.2.1.2.1, (m.1.2.1.2.2.1, m.1.2.1.2.2.2))), ((m.1.2.2.1.1, (m.1.2.2.1.2.1, m.1.2.2.1.2.2)), (m.1.2.2.2.1, (m.1.2.2.2.2.1, m.1.2.2.2.2.2))))), ((((m.2.1.1.1.1, m.2.1.1.1.2), (m.2.1.1.2.1, (m.2.1.1.2.2.1, m.2.1.1.2.2.2))), ((m.2.1.2.1.1, m.2.1.2.1.2), (m.2.1.2.2.1, (m.2.1.2.2.2.1, m.2.1.2.2.2.2)))), (((m.2.2.1.1.1, m.2.2.1.1.2), (m.2.2.1.2.1, (m.2.2.1.2.2.1, m.2.2.1.2.2.2))), ((m.2.2.2.1.1, (m.2.2.2.1.2.1, m.2.2.2.1.2.2)), (m.2.2.2.2.1, (m.2.2.2.2.2.1, m.2.2.2.2.2.2)))))) := ⟨pp, le, Int32.le_trans le2 z9⟩
        replace h := iv_meaning lb h
        refine ⟨_, _, h, ⟨rfl, rfl, rfl, rfl, rfl⟩, Or.inr ⟨rfl, ⟨pp, le, rfl, le2, z9⟩, Or.inr (Or.inr (Or.inr ⟨rfl, ?_⟩)), p1⟩⟩
        show p.toNatClampNeg < (Int32.ofNat p').toNatClampNeg
        rw [ip]; exact l1
      · obtain ⟨n, e1, e2, e3⟩ := hn lx
        refine ⟨_, _, h, ⟨rfl, rfl, rfl, rfl, rfl⟩, Or.inr ⟨rfl, ⟨pp, le, rfl, le2, z9⟩, Or.inr (Or.inr (Or.inl ⟨rfl, n, e1, e2, ?_, ?_⟩)), p1⟩⟩
        · show (nb n).length ≤ (Int32.ofNat p').toNatClampNeg - p.toNatClampNeg
          rw [ip]; exact e3
        · show 1 ≤ (Int32.ofNat p').toNatClampNeg - p.toNatClampNeg
          rw [ip]; omega
    rcases iv_Mo_isLetter h with ⟨l, h⟩ | ⟨l, h⟩
    · obtain ⟨f2, h⟩ := h.2 (by decide)
      obtain ⟨p', h, k1, k2, k3⟩ := lg_L124 f2 _ h ⟨pp, p2, z9⟩
      have k3' := k3 rfl l
      have e' : p' = Int32.ofNat p'.toNatClampNeg := (on_ix (Int32.le_trans pp k1)).symm
      rw [e'] at h
      refine fin (x1 := txat m.1.1.1.1.1 m.1.1.1.1.2 p) (p' := p'.toNatClampNeg) (v := m.1.1.2.2.2.1) (po := m.1.1.2.2.2.2) ?_ (ix_le k2) (fun w => absurd l w) h
      have k3'' : p < p' := k3'
      rw [Int32.lt_iff_toInt_lt] at k3''
      rw [Int32.le_iff_toInt_le, show (0 : Int32).toInt = 0 from rfl] at pp
      show p.toInt.toNat < p'.toInt.toNat
      omega
    · rcases iv_Mo_isDigit (h.1 rfl) with ⟨g, h⟩ | ⟨g, h⟩
      · obtain ⟨p', v, po, h, k1, k2, n, e1, e2, e3⟩ := lg_digits (m := (((((m.1.1.1.1.1, m.1.1.1.1.2), (p, (nl, m.1.1.1.2.2.2))), ((p, m.1.1.2.1.2), (nl, (m.1.1.2.2.2.1, m.1.1.2.2.2.2)))), (((m.1.2.1.1.1, m.1.2.1.1.2), (m.1.2.1.2.1, (m.1.2.1.2.2.1, m.1.2.1.2.2.2))), ((m.1.2.2.1.1, (m.1.2.2.1.2.1, m.1.2.2.1.2.2)), (m.1.2.2.2.1, (m.1.2.2.2.2.1, m.1.2.2.2.2.2))))), ((((m.2.1.1.1.1, m.2.1.1.1.2), (m.2.1.1.2.1, (m.2.1.1.2.2.1, m.2.1.1.2.2.2))), ((m.2.1.2.1.1, m.2.1.2.1.2), (m.2.1.2.2.1, (m.2.1.2.2.2.1, m.2.1.2.2.2.2)))), (((m.2.2.1.1.1, m.2.2.1.1.2), (m.2.2.1.2.1, (m.2.2.1.2.2.1, m.2.2.1.2.2.2))), ((m.2.2.2.1.1, (m.2.2.2.1.2.1, m.2.2.2.1.2.2)), (m.2.2.2.2.1, (m.2.2.2.2.2.1, m.2.2.2.2.2.2))))))) (b := p.toNatClampNeg) (z := m.1.1.1.1.2.toNatClampNeg) z9' ep ep ez pz g (h.2 (by decide))
        exact fin k1 k2 (fun _ => ⟨n, e1, e2, e3⟩) h
      · replace h := h.1 rfl
        rcases br_el h with ⟨s0, h⟩ | ⟨s0, h⟩
        · exact sign (by rw [s0]; unfold sg; decide) h
        rcases br_el h with ⟨s1, h⟩ | ⟨s1, h⟩
        · exact sign (by rw [s1]; unfold sg; decide) h
        rcases br_el h with ⟨s2, h⟩ | ⟨s2, h⟩
        · exact sign (by rw [s2]; unfold sg; decide) h
        rcases br_el h with ⟨s3, h⟩ | ⟨s3, h⟩
        · exact sign (by rw [s3]; unfold sg; decide) h
        rcases br_el h with ⟨s4, h⟩ | ⟨s4, h⟩
        · exact sign (by rw [s4]; unfold sg; decide) h
        rcases br_el h with ⟨s5, h⟩ | ⟨s5, h⟩
        · exact sign (by rw [s5]; unfold sg; decide) h
        rcases br_el h with ⟨s6, h⟩ | ⟨s6, h⟩
        · exact sign (by rw [s6]; unfold sg; decide) h
        rcases br_el h with ⟨s7, h⟩ | ⟨s7, h⟩
        · exact sign (by rw [s7]; unfold sg; decide) h
        rcases br_el h with ⟨s8, h⟩ | ⟨s8, h⟩
        · exact sign (by rw [s8]; unfold sg; decide) h
        rcases br_el h with ⟨s9, h⟩ | ⟨s9, h⟩
        · exact sign (by rw [s9]; unfold sg; decide) h
        rcases br_el h with ⟨s10, h⟩ | ⟨s10, h⟩
        · exact sign (by rw [s10]; unfold sg; decide) h
        rcases br_el h with ⟨s11, h⟩ | ⟨s11, h⟩
        · exact sign (by rw [s11]; unfold sg; decide) h
        unfold wp_Mo_go_J270 wp_Mo_go_J287 at h
        replace h := (h.1 rfl).2
        exact ⟨_, _, h, ⟨rfl, rfl, rfl, rfl, rfl⟩, Or.inl rfl⟩
