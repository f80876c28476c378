def txat (tx : Nat → Int32) (sz p : Int32) : Int32 := if sz ≤ p then 0 else tx p.toNatClampNeg
def dg (a : Int32) : Prop := (48 : Int32) ≤ a ∧ a ≤ 57
def lt (a : Int32) : Prop := (97 : Int32) ≤ a ∧ a ≤ 122
theorem iv_Wd_byteAt {w : T_Wd} {p : Int32} {P : Int32 → Unit → Prop} (h : wp_Wd_byteAt w p P) (p0 : (0 : Int32) ≤ p) (l9 : w.2.2.2.2.2.1 ≤ 4000) : P (txat w.1 w.2.2.2.2.2.1 p) () := by
  unfold wp_Wd_byteAt at h
  replace h := h.2 (Int32.not_lt.mpr p0)
  unfold txat
  by_cases c : w.2.2.2.2.2.1 ≤ p
  · rw [if_pos c]; exact h.1 c
  · rw [if_neg c]; exact ((h.2 c).2 (by grind)).2
theorem iv_Mo_at {m : T_Mo} {p : Int32} {P : Int32 → Unit → Prop} (h : wp_Mo_at m p P) : P (txat m.1.1.1.1.1 m.1.1.1.1.2 p) () := by
  unfold wp_Mo_at at h
  unfold txat
  by_cases c : m.1.1.1.1.2 ≤ p
  · rw [if_pos c]; exact h.1 c
  · rw [if_neg c]; exact (h.2 c).2
theorem iv_Wd_isBlank {a : Int32} {P : Int32 → Unit → Prop} (h : wp_Wd_isBlank a P) : ((a = 32 ∨ a = 10) ∧ P 1 ()) ∨ ((¬ a = 32 ∧ ¬ a = 10) ∧ P 0 ()) := by
  unfold wp_Wd_isBlank at h
  by_cases c : a = 32
  · exact Or.inl ⟨Or.inl c, h.1 c⟩
  · replace h := h.2 c
    by_cases d : a = 10
    · exact Or.inl ⟨Or.inr d, h.1 d⟩
    · exact Or.inr ⟨⟨c, d⟩, h.2 d⟩
theorem iv_Wd_isDigit {a : Int32} {P : Int32 → Unit → Prop} (h : wp_Wd_isDigit a P) : (dg a ∧ P 1 ()) ∨ (¬ dg a ∧ P 0 ()) := by
  unfold wp_Wd_isDigit at h
  unfold dg
  by_cases c : a < 48
  · exact Or.inr ⟨fun d => absurd c (Int32.not_lt.mpr d.1), h.1 c⟩
  · replace h := h.2 c
    by_cases d : 57 < a
    · exact Or.inr ⟨fun e => absurd d (Int32.not_lt.mpr e.2), h.1 d⟩
    · exact Or.inl ⟨⟨Int32.not_lt.mp c, Int32.not_lt.mp d⟩, h.2 d⟩
theorem iv_Mo_isDigit {a : Int32} {P : Int32 → Unit → Prop} (h : wp_Mo_isDigit a P) : (dg a ∧ P 1 ()) ∨ (¬ dg a ∧ P 0 ()) := by
  unfold wp_Mo_isDigit at h
  unfold dg
  by_cases c : a < 48
  · exact Or.inr ⟨fun d => absurd c (Int32.not_lt.mpr d.1), h.1 c⟩
  · replace h := h.2 c
    by_cases d : 57 < a
    · exact Or.inr ⟨fun e => absurd d (Int32.not_lt.mpr e.2), h.1 d⟩
    · exact Or.inl ⟨⟨Int32.not_lt.mp c, Int32.not_lt.mp d⟩, h.2 d⟩
theorem iv_Mo_isLetter {a : Int32} {P : Int32 → Unit → Prop} (h : wp_Mo_isLetter a P) : (lt a ∧ P 1 ()) ∨ (¬ lt a ∧ P 0 ()) := by
  unfold wp_Mo_isLetter at h
  unfold lt
  by_cases c : a < 97
  · exact Or.inr ⟨fun d => absurd c (Int32.not_lt.mpr d.1), h.1 c⟩
  · replace h := h.2 c
    by_cases d : 122 < a
    · exact Or.inr ⟨fun e => absurd d (Int32.not_lt.mpr e.2), h.1 d⟩
    · exact Or.inl ⟨⟨Int32.not_lt.mp c, Int32.not_lt.mp d⟩, h.2 d⟩
theorem iv_Kw_rank {a : Int32} {P : Int32 → Unit → Prop} (h : wp_Kw_rank a P) : (lt a ∧ P ((a - (97 : Int32)) + (1 : Int32)) ()) ∨ (dg a ∧ P ((a - (48 : Int32)) + (27 : Int32)) ()) ∨ ((¬ lt a ∧ ¬ dg a) ∧ P 0 ()) := by
  have q : ∀ X Y : Prop, ((a < (48 : Int32) → X) ∧ (¬ a < (48 : Int32) → ((57 : Int32) < a → X) ∧ (¬ (57 : Int32) < a → Y))) → (dg a ∧ Y) ∨ (¬ dg a ∧ X) := by
    intro X Y h
    unfold dg
    by_cases c : a < 48
    · exact Or.inr ⟨fun d => absurd c (Int32.not_lt.mpr d.1), h.1 c⟩
    · replace h := h.2 c
      by_cases d : 57 < a
      · exact Or.inr ⟨fun e => absurd d (Int32.not_lt.mpr e.2), h.1 d⟩
      · exact Or.inl ⟨⟨Int32.not_lt.mp c, Int32.not_lt.mp d⟩, h.2 d⟩
  unfold wp_Kw_rank at h
  by_cases c : a < 97
  · have nl : ¬ lt a := fun d => absurd c (Int32.not_lt.mpr d.1)
    rcases q _ _ (h.1 c) with ⟨d, y⟩ | ⟨d, x⟩
    · exact Or.inr (Or.inl ⟨d, y⟩)
    · exact Or.inr (Or.inr ⟨⟨nl, d⟩, x⟩)
  · replace h := h.2 c
    by_cases e : 122 < a
    · have nl : ¬ lt a := fun d => absurd e (Int32.not_lt.mpr d.2)
      rcases q _ _ (h.1 e) with ⟨d, y⟩ | ⟨d, x⟩
      · exact Or.inr (Or.inl ⟨d, y⟩)
      · exact Or.inr (Or.inr ⟨⟨nl, d⟩, x⟩)
    · exact Or.inl ⟨⟨Int32.not_lt.mp c, Int32.not_lt.mp e⟩, h.2 e⟩
theorem rk_pos {a : Int32} (h : lt a) : ¬ ((a - (97 : Int32)) + (1 : Int32)) ≤ 0 := by unfold lt at h; grind
theorem rk_posd {a : Int32} (h : dg a) : ¬ ((a - (48 : Int32)) + (27 : Int32)) ≤ 0 := by unfold dg at h; grind
/-- class and reference stand at the same place of the same text -/
def LM (w : T_Wd) (m : T_Mo) : Prop := w.1 = m.1.1.1.1.1 ∧ w.2.2.2.2.2.1 = m.1.1.1.1.2 ∧ w.2.2.2.2.2.2.2.2.1 = m.1.1.1.2.1 ∧ w.2.2.2.2.2.2.2.2.2.1 = m.1.1.1.2.2.1 ∧ (0 : Int32) ≤ w.2.2.2.2.2.2.2.2.1 ∧ w.2.2.2.2.2.2.2.2.1 ≤ w.2.2.2.2.2.1 ∧ w.2.2.2.2.2.1 ≤ 4000
def here (w : T_Wd) : Int32 := txat w.1 w.2.2.2.2.2.1 w.2.2.2.2.2.2.2.2.1
theorem LM_at {w : T_Wd} {m : T_Mo} (h : LM w m) : txat m.1.1.1.1.1 m.1.1.1.1.2 m.1.1.1.2.1 = txat w.1 w.2.2.2.2.2.1 w.2.2.2.2.2.2.2.2.1 := by
  obtain ⟨e1, e2, e3, -⟩ := h
  rw [e1, e2, e3]
theorem txat_in {tx : Nat → Int32} {sz p : Int32} (h : ¬ txat tx sz p = 0) : p < sz := by
  unfold txat at h
  by_cases c : sz ≤ p
  · rw [if_pos c] at h; exact absurd rfl h
  · exact Int32.not_le.mp c
theorem mo_eta {m : T_Mo} {p l : Int32} (hp : p = m.1.1.1.2.1) (hl : l = m.1.1.1.2.2.1) : (((((m.1.1.1.1.1, m.1.1.1.1.2), (p, (l, m.1.1.1.2.2.2))), ((m.1.1.2.1.1, m.1.1.2.1.2), (m.1.1.2.2.1, (m.1.1.2.2.2.1, m.1.1.2.2.2.2)))), (((m.1.2.1.1.1, m.1.2.1.1.2), (m.1.2.1.2.1, (m.1.2.1.2.2.1, m.1.2.1.2.2.2))), ((m.1.2.2.1.1, (m.1.2.2.1.2.1, m.1.2.2.1.2.2)), (m.1.2.2.2.1, (m.1.2.2.2.2.1, m.1.2.2.2.2.2))))), ((((m.2.1.1.1.1, m.2.1.1.1.2), (m.2.1.1.2.1, (m.2.1.1.2.2.1, m.2.1.1.2.2.2))), ((m.2.1.2.1.1, m.2.1.2.1.2), (m.2.1.2.2.1, (m.2.1.2.2.2.1, m.2.1.2.2.2.2)))), (((m.2.2.1.1.1, m.2.2.1.1.2), (m.2.2.1.2.1, (m.2.2.1.2.2.1, m.2.2.1.2.2.2))), ((m.2.2.2.1.1, (m.2.2.2.1.2.1, m.2.2.2.1.2.2)), (m.2.2.2.2.1, (m.2.2.2.2.2.1, m.2.2.2.2.2.2)))))) = m := by
  subst hp; subst hl; rfl
theorem lt_dg {a : Int32} (h : lt a) (g : dg a) : False := by unfold lt at h; unfold dg at g; grind
theorem up_le {p q : Int32} (h0 : (0 : Int32) ≤ p) (h : p < q) (h9 : q ≤ 4000) : (0 : Int32) ≤ p + 1 ∧ p + 1 ≤ q ∧ p ≤ p + 1 := by
  refine ⟨?_, ?_, ?_⟩ <;> grind
set_option maxHeartbeats 1000000 in
theorem rl_skip : ∀ (n : Nat) (w : T_Wd) (x1 : Int32) (m : T_Mo) (n' : Nat) (K : T_Wd → Int32 → Prop) (post : Unit → T_Wd → Prop) (K' : T_Mo → Prop) (post' : Int32 → T_Mo → Prop), wp_Wd_skipBlanks_L2 K post n w x1 → wp_Mo_go_L0 K' post' n' m → LM w m → (0 : Int32) ≤ x1 → x1 ≤ w.2.2.2.2.2.2.2.2.1 → ∃ x p l, K (w.1, w.2.1, w.2.2.1, w.2.2.2.1, w.2.2.2.2.1, w.2.2.2.2.2.1, w.2.2.2.2.2.2.1, w.2.2.2.2.2.2.2.1, p, l, w.2.2.2.2.2.2.2.2.2.2.1, w.2.2.2.2.2.2.2.2.2.2.2.1, w.2.2.2.2.2.2.2.2.2.2.2.2.1, w.2.2.2.2.2.2.2.2.2.2.2.2.2) x ∧ K' (((((m.1.1.1.1.1, m.1.1.1.1.2), (p, (l, m.1.1.1.2.2.2))), ((m.1.1.2.1.1, m.1.1.2.1.2), (m.1.1.2.2.1, (m.1.1.2.2.2.1, m.1.1.2.2.2.2)))), (((m.1.2.1.1.1, m.1.2.1.1.2), (m.1.2.1.2.1, (m.1.2.1.2.2.1, m.1.2.1.2.2.2))), ((m.1.2.2.1.1, (m.1.2.2.1.2.1, m.1.2.2.1.2.2)), (m.1.2.2.2.1, (m.1.2.2.2.2.1, m.1.2.2.2.2.2))))), ((((m.2.1.1.1.1, m.2.1.1.1.2), (m.2.1.1.2.1, (m.2.1.1.2.2.1, m.2.1.1.2.2.2))), ((m.2.1.2.1.1, m.2.1.2.1.2), (m.2.1.2.2.1, (m.2.1.2.2.2.1, m.2.1.2.2.2.2)))), (((m.2.2.1.1.1, m.2.2.1.1.2), (m.2.2.1.2.1, (m.2.2.1.2.2.1, m.2.2.1.2.2.2))), ((m.2.2.2.1.1, (m.2.2.2.1.2.1, m.2.2.2.1.2.2)), (m.2.2.2.2.1, (m.2.2.2.2.2.1, m.2.2.2.2.2.2)))))) ∧ w.2.2.2.2.2.2.2.2.1 ≤ p ∧ p ≤ w.2.2.2.2.2.1 ∧ ¬ txat w.1 w.2.2.2.2.2.1 p = 32 ∧ ¬ txat w.1 w.2.2.2.2.2.1 p = 10 := by
  intro n
  induction n with
  | zero => intro w x1 m n' K post K' post' hC; exact False.elim hC
  | succ n ih =>
    intro w x1 m n' K post K' post' hC hM lm x0 xs
    cases n' with
    | zero => exact False.elim hM
    | succ n' =>
    have hb := LM_at lm
    obtain ⟨e1, e2, e3, e4, s0, s1, l9⟩ := lm
    rw [wp_Wd_skipBlanks_L2] at hC
    rw [wp_Mo_go_L0] at hM
    replace hM := iv_Mo_at hM
    rw [hb] at hM
    have stop : ∀ x, K w x → ¬ txat w.1 w.2.2.2.2.2.1 w.2.2.2.2.2.2.2.2.1 = 32 → ¬ txat w.1 w.2.2.2.2.2.1 w.2.2.2.2.2.2.2.2.1 = 10 → ∃ x p l, K (w.1, w.2.1, w.2.2.1, w.2.2.2.1, w.2.2.2.2.1, w.2.2.2.2.2.1, w.2.2.2.2.2.2.1, w.2.2.2.2.2.2.2.1, p, l, w.2.2.2.2.2.2.2.2.2.2.1, w.2.2.2.2.2.2.2.2.2.2.2.1, w.2.2.2.2.2.2.2.2.2.2.2.2.1, w.2.2.2.2.2.2.2.2.2.2.2.2.2) x ∧ K' (((((m.1.1.1.1.1, m.1.1.1.1.2), (p, (l, m.1.1.1.2.2.2))), ((m.1.1.2.1.1, m.1.1.2.1.2), (m.1.1.2.2.1, (m.1.1.2.2.2.1, m.1.1.2.2.2.2)))), (((m.1.2.1.1.1, m.1.2.1.1.2), (m.1.2.1.2.1, (m.1.2.1.2.2.1, m.1.2.1.2.2.2))), ((m.1.2.2.1.1, (m.1.2.2.1.2.1, m.1.2.2.1.2.2)), (m.1.2.2.2.1, (m.1.2.2.2.2.1, m.1.2.2.2.2.2))))), ((((m.2.1.1.1.1, m.2.1.1.1.2), (m.2.1.1.2.1, (m.2.1.1.2.2.1, m.2.1.1.2.2.2))), ((m.2.1.2.1.1, m.2.1.2.1.2), (m.2.1.2.2.1, (m.2.1.2.2.2.1, m.2.1.2.2.2.2)))), (((m.2.2.1.1.1, m.2.2.1.1.2), (m.2.2.1.2.1, (m.2.2.1.2.2.1, m.2.2.1.2.2.2))), ((m.2.2.2.1.1, (m.2.2.2.1.2.1, m.2.2.2.1.2.2)), (m.2.2.2.2.1, (m.2.2.2.2.2.1, m.2.2.2.2.2.2)))))) ∧ w.2.2.2.2.2.2.2.2.1 ≤ p ∧ p ≤ w.2.2.2.2.2.1 ∧ ¬ txat w.1 w.2.2.2.2.2.1 p = 32 ∧ ¬ txat w.1 w.2.2.2.2.2.1 p = 10 := by
      intro x hK n1 n2
      replace hM := iv_Mo_at (hM.2 n1)
      rw [hb] at hM
      exact ⟨x, w.2.2.2.2.2.2.2.2.1, w.2.2.2.2.2.2.2.2.2.1, hK, (mo_eta e3 e4).symm ▸ (hM.2 n2), Int32.le_refl _, s1, n1, n2⟩
    by_cases c : (4000 : Int32) ≤ x1
    · have z : txat w.1 w.2.2.2.2.2.1 w.2.2.2.2.2.2.2.2.1 = 0 := if_pos (by grind)
      exact stop _ (hC.1 c) (by rw [z]; decide) (by rw [z]; decide)
    · replace hC := iv_Wd_byteAt (hC.2 c) s0 l9
      rcases iv_Wd_isBlank hC with ⟨b, hC⟩ | ⟨b, hC⟩
      · replace hC := iv_Wd_byteAt (hC.2 (by decide)) s0 l9
        have nz : ¬ txat w.1 w.2.2.2.2.2.1 w.2.2.2.2.2.2.2.2.1 = 0 := by rcases b with b | b <;> rw [b] <;> decide
        have up := up_le s0 (txat_in nz) l9
        have xs' : x1 + 1 ≤ w.2.2.2.2.2.2.2.2.1 + 1 := by grind
        have x0' : (0 : Int32) ≤ x1 + 1 := by grind
        by_cases d : txat w.1 w.2.2.2.2.2.1 w.2.2.2.2.2.2.2.2.1 = 10
        · replace hC := hC.1 d
          replace hM := iv_Mo_at (hM.2 (by rw [d]; decide))
          rw [hb] at hM
          replace hM := iv_Mo_at (hM.1 d)
          rw [hb] at hM
          replace hM := hM.1 d
          obtain ⟨x, p, l, k1, k2, k3, k4, k5, k6⟩ := ih _ _ _ _ _ _ _ _ hC hM ⟨e1, e2, congrArg (· + (1 : Int32)) e3, congrArg (· + (1 : Int32)) e4, up.1, up.2.1, l9⟩ x0' xs'
          exact ⟨x, p, l, k1, k2, Int32.le_trans up.2.2 k3, k4, k5, k6⟩
        · replace hC := hC.2 d
          have b32 := b.resolve_right d
          replace hM := iv_Mo_at (hM.1 b32)
          rw [hb] at hM
          replace hM := hM.2 d
          obtain ⟨x, p, l, k1, k2, k3, k4, k5, k6⟩ := ih _ _ _ _ _ _ _ _ hC hM ⟨e1, e2, congrArg (· + (1 : Int32)) e3, e4.trans (Int32.add_zero _).symm, up.1, up.2.1, l9⟩ x0' xs'
          exact ⟨x, p, l, k1, k2, Int32.le_trans up.2.2 k3, k4, k5, k6⟩
      · exact stop _ (hC.1 rfl) b.1 b.2
/-- whole digits -/
theorem mo_eta2 {m : T_Mo} {p : Int32} {v : Int64} (hp : p = m.1.1.1.2.1) (hv : v = m.1.1.2.2.2.1) : (((((m.1.1.1.1.1, m.1.1.1.1.2), (p, (m.1.1.1.2.2.1, m.1.1.1.2.2.2))), ((m.1.1.2.1.1, m.1.1.2.1.2), (m.1.1.2.2.1, (v, m.1.1.2.2.2.2)))), (((m.1.2.1.1.1, m.1.2.1.1.2), (m.1.2.1.2.1, (m.1.2.1.2.2.1, m.1.2.1.2.2.2))), ((m.1.2.2.1.1, (m.1.2.2.1.2.1, m.1.2.2.1.2.2)), (m.1.2.2.2.1, (m.1.2.2.2.2.1, m.1.2.2.2.2.2))))), ((((m.2.1.1.1.1, m.2.1.1.1.2), (m.2.1.1.2.1, (m.2.1.1.2.2.1, m.2.1.1.2.2.2))), ((m.2.1.2.1.1, m.2.1.2.1.2), (m.2.1.2.2.1, (m.2.1.2.2.2.1, m.2.1.2.2.2.2)))), (((m.2.2.1.1.1, m.2.2.1.1.2), (m.2.2.1.2.1, (m.2.2.1.2.2.1, m.2.2.1.2.2.2))), ((m.2.2.2.1.1, (m.2.2.2.1.2.1, m.2.2.2.1.2.2)), (m.2.2.2.2.1, (m.2.2.2.2.2.1, m.2.2.2.2.2.2)))))) = m := by
  subst hp; subst hv; rfl
theorem i64_digit {v : Int64} {b : Int32} (h : dg b) (v0 : 0 ≤ v.toInt) (v9 : v.toInt < 1000000000) : (((v * (10 : Int64)) + b.toInt64) - (48 : Int64)).toInt = v.toInt * 10 + (b.toInt - 48) := by
  unfold dg at h
  rw [Int32.le_iff_toInt_le, Int32.le_iff_toInt_le, show (48 : Int32).toInt = 48 from rfl, show (57 : Int32).toInt = 57 from rfl] at h
  rw [Int64.toInt_sub, Int64.toInt_add, Int64.toInt_mul, Int32.toInt_toInt64, show (10 : Int64).toInt = 10 from rfl, show (48 : Int64).toInt = 48 from rfl]
  have m1 : (v.toInt * 10).bmod (2 ^ 64) = v.toInt * 10 := Int.bmod_eq_of_le (by omega) (by omega)
  rw [m1]
  have m2 : (v.toInt * 10 + b.toInt).bmod (2 ^ 64) = v.toInt * 10 + b.toInt := Int.bmod_eq_of_le (by omega) (by omega)
  rw [m2, Int.bmod_eq_of_le (by omega) (by omega)]
  omega
theorem p10 {k : Nat} (h : k ≤ 9) : (10 : Int) ^ k ≤ 1000000000 ∧ (10 : Int) ^ (k + 1) = 10 ^ k * 10 := by
  refine ⟨?_, Int.pow_succ _ _⟩
  match k, h with
  | 0, _ => decide
  | 1, _ => decide
  | 2, _ => decide
  | 3, _ => decide
  | 4, _ => decide
  | 5, _ => decide
  | 6, _ => decide
  | 7, _ => decide
  | 8, _ => decide
  | 9, _ => decide
  | n + 10, h => omega
theorem sub_up {p b x : Int32} (h : x = p - b) : x + (1 : Int32) = (p + (1 : Int32)) - b := by grind
set_option maxHeartbeats 1000000 in
theorem rl_digits : ∀ (n : Nat) (w : T_Wd) (x1 : Int32) (x2 : Int64) (x4 : Int32) (m : T_Mo) (n' : Nat) (K : T_Wd → Int32 → Int64 → Int32 → Prop) (post : Int32 → T_Wd → Prop) (K' : T_Mo → Prop) (post' : Unit → T_Mo → Prop), wp_Wd_splitNumber_L10 K post n w x1 x2 x4 → wp_Mo_digits_L5 K' post' n' m → LM w m → m.1.1.2.1.1 = x1 → x2 = m.1.1.2.2.2.1 → x4 = w.2.2.2.2.2.2.2.2.1 - x1 → (0 : Int32) ≤ x4 → x4 ≤ 9 → 0 ≤ x2.toInt → x2.toInt < 10 ^ x4.toInt.toNat → ∃ p v x, K (w.1, w.2.1, w.2.2.1, w.2.2.2.1, w.2.2.2.2.1, w.2.2.2.2.2.1, w.2.2.2.2.2.2.1, w.2.2.2.2.2.2.2.1, p, w.2.2.2.2.2.2.2.2.2.1, w.2.2.2.2.2.2.2.2.2.2.1, w.2.2.2.2.2.2.2.2.2.2.2.1, w.2.2.2.2.2.2.2.2.2.2.2.2.1, w.2.2.2.2.2.2.2.2.2.2.2.2.2) x1 v x ∧ K' (((((m.1.1.1.1.1, m.1.1.1.1.2), (p, (m.1.1.1.2.2.1, m.1.1.1.2.2.2))), ((m.1.1.2.1.1, m.1.1.2.1.2), (m.1.1.2.2.1, (v, m.1.1.2.2.2.2)))), (((m.1.2.1.1.1, m.1.2.1.1.2), (m.1.2.1.2.1, (m.1.2.1.2.2.1, m.1.2.1.2.2.2))), ((m.1.2.2.1.1, (m.1.2.2.1.2.1, m.1.2.2.1.2.2)), (m.1.2.2.2.1, (m.1.2.2.2.2.1, m.1.2.2.2.2.2))))), ((((m.2.1.1.1.1, m.2.1.1.1.2), (m.2.1.1.2.1, (m.2.1.1.2.2.1, m.2.1.1.2.2.2))), ((m.2.1.2.1.1, m.2.1.2.1.2), (m.2.1.2.2.1, (m.2.1.2.2.2.1, m.2.1.2.2.2.2)))), (((m.2.2.1.1.1, m.2.2.1.1.2), (m.2.2.1.2.1, (m.2.2.1.2.2.1, m.2.2.1.2.2.2))), ((m.2.2.2.1.1, (m.2.2.2.1.2.1, m.2.2.2.1.2.2)), (m.2.2.2.2.1, (m.2.2.2.2.2.1, m.2.2.2.2.2.2)))))) ∧ w.2.2.2.2.2.2.2.2.1 ≤ p ∧ p ≤ w.2.2.2.2.2.1 ∧ (p = w.2.2.2.2.2.2.2.2.1 → x4 < 9 → ¬ dg (txat w.1 w.2.2.2.2.2.1 w.2.2.2.2.2.2.2.2.1)) ∧ 0 ≤ v.toInt ∧ v.toInt < 1000000000 := by
  intro n
  induction n with
  | zero => intro w x1 x2 x4 m n' K post K' post' hC; exact False.elim hC
  | succ n ih =>
    intro w x1 x2 x4 m n' K post K' post' hC hM lm eb ev ex x0 x9 v0 v9
    cases n' with
    | zero => exact False.elim hM
    | succ n' =>
    have hb := LM_at lm
    obtain ⟨e1, e2, e3, e4, s0, s1, l9⟩ := lm
    have xn : x4.toInt.toNat ≤ 9 := by
      rw [Int32.le_iff_toInt_le, show (9 : Int32).toInt = 9 from rfl] at x9; omega
    have pw := p10 xn
    rw [wp_Wd_splitNumber_L10] at hC
    rw [wp_Mo_digits_L5] at hM
    replace hM := iv_Mo_at hM
    rw [hb] at hM
    have em : (((((m.1.1.1.1.1, m.1.1.1.1.2), (w.2.2.2.2.2.2.2.2.1, (m.1.1.1.2.2.1, m.1.1.1.2.2.2))), ((m.1.1.2.1.1, m.1.1.2.1.2), (m.1.1.2.2.1, (x2, m.1.1.2.2.2.2)))), (((m.1.2.1.1.1, m.1.2.1.1.2), (m.1.2.1.2.1, (m.1.2.1.2.2.1, m.1.2.1.2.2.2))), ((m.1.2.2.1.1, (m.1.2.2.1.2.1, m.1.2.2.1.2.2)), (m.1.2.2.2.1, (m.1.2.2.2.2.1, m.1.2.2.2.2.2))))), ((((m.2.1.1.1.1, m.2.1.1.1.2), (m.2.1.1.2.1, (m.2.1.1.2.2.1, m.2.1.1.2.2.2))), ((m.2.1.2.1.1, m.2.1.2.1.2), (m.2.1.2.2.1, (m.2.1.2.2.2.1, m.2.1.2.2.2.2)))), (((m.2.2.1.1.1, m.2.2.1.1.2), (m.2.2.1.2.1, (m.2.2.1.2.2.1, m.2.2.1.2.2.2))), ((m.2.2.2.1.1, (m.2.2.2.1.2.1, m.2.2.2.1.2.2)), (m.2.2.2.2.1, (m.2.2.2.2.2.1, m.2.2.2.2.2.2)))))) = m := mo_eta2 e3 ev
    have exm : x4 = m.1.1.1.2.1 - m.1.1.2.1.1 := by rw [eb, ← e3]; exact ex
    by_cases c : (9 : Int32) ≤ x4
    · refine ⟨w.2.2.2.2.2.2.2.2.1, x2, x4, hC.1 c, em.symm ▸ ?_, Int32.le_refl _, s1, fun _ q => absurd c (Int32.not_le.mpr q), v0, by omega⟩
      rcases iv_Mo_isDigit hM with ⟨d, hM⟩ | ⟨d, hM⟩
      · exact (hM.2 (by decide)).1 (by rw [← exm]; exact c)
      · exact hM.1 rfl
    · replace hC := iv_Wd_byteAt (hC.2 c) s0 l9
      rcases iv_Wd_isDigit hC with ⟨d, hC⟩ | ⟨d, hC⟩
      · replace hC := iv_Wd_byteAt (hC.2 (by decide)) s0 l9
        rcases iv_Mo_isDigit hM with ⟨d', hM⟩ | ⟨d', hM⟩
        · replace hM := iv_Mo_at ((hM.2 (by decide)).2 (by rw [← exm]; exact c))
          rw [hb] at hM
          have nz : ¬ txat w.1 w.2.2.2.2.2.1 w.2.2.2.2.2.2.2.2.1 = 0 := fun q => by rw [q] at d; unfold dg at d; exact absurd d.1 (by decide)
          have up := up_le s0 (txat_in nz) l9
          have x4s : x4 + 1 ≤ 9 ∧ (0 : Int32) ≤ x4 + 1 := by constructor <;> grind
          have v99 : x2.toInt < 1000000000 := by omega
          have dv := i64_digit d v0 v99
          have d2 := d
          unfold dg at d2
          rw [Int32.le_iff_toInt_le, Int32.le_iff_toInt_le, show (48 : Int32).toInt = 48 from rfl, show (57 : Int32).toInt = 57 from rfl] at d2
          have xt : (x4 + (1 : Int32)).toInt = x4.toInt + 1 := i_add1 (by rw [Int32.le_iff_toInt_le] at x0; exact x0) (by have := x9; rw [Int32.le_iff_toInt_le, show (9 : Int32).toInt = 9 from rfl] at this; omega)
          have xt0 : 0 ≤ x4.toInt := by rw [Int32.le_iff_toInt_le] at x0; exact x0
          have pe : (10 : Int) ^ (x4 + (1 : Int32)).toInt.toNat = 10 ^ x4.toInt.toNat * 10 := by
            rw [xt, show (x4.toInt + 1).toNat = x4.toInt.toNat + 1 by omega]; exact pw.2
          obtain ⟨p, v, x, k1, k2, k3, k4, k5, k6, k7⟩ := ih _ _ _ _ _ _ _ _ _ _ hC hM ⟨e1, e2, congrArg (· + (1 : Int32)) e3, e4, up.1, up.2.1, l9⟩ eb (by rw [ev, Int64.mul_comm]) (sub_up ex) x4s.2 x4s.1 (by rw [dv]; omega) (by rw [dv, pe]; omega)
          exact ⟨p, v, x, k1, k2, Int32.le_trans up.2.2 k3, k4, fun q => absurd q (by grind), k6, k7⟩
        · exact absurd d d'
      · rcases iv_Mo_isDigit hM with ⟨d', hM⟩ | ⟨d', hM⟩
        · exact absurd d' d
        · exact ⟨w.2.2.2.2.2.2.2.2.1, x2, x4, hC.1 rfl, em.symm ▸ (hM.1 rfl), Int32.le_refl _, s1, fun _ _ => d, v0, by omega⟩

theorem wd_eta0 {w : T_Wd} : (w.1, w.2.1, w.2.2.1, w.2.2.2.1, w.2.2.2.2.1, w.2.2.2.2.2.1, w.2.2.2.2.2.2.1, w.2.2.2.2.2.2.2.1, (w.2.2.2.2.2.2.2.2.1 + (0 : Int32)), w.2.2.2.2.2.2.2.2.2.1, w.2.2.2.2.2.2.2.2.2.2.1, w.2.2.2.2.2.2.2.2.2.2.2.1, w.2.2.2.2.2.2.2.2.2.2.2.2.1, w.2.2.2.2.2.2.2.2.2.2.2.2.2) = w := (congrArg (fun q : Int32 => ((w.1, w.2.1, w.2.2.1, w.2.2.2.1, w.2.2.2.2.1, w.2.2.2.2.2.1, w.2.2.2.2.2.2.1, w.2.2.2.2.2.2.2.1, q, w.2.2.2.2.2.2.2.2.2.1, w.2.2.2.2.2.2.2.2.2.2.1, w.2.2.2.2.2.2.2.2.2.2.2.1, w.2.2.2.2.2.2.2.2.2.2.2.2.1, w.2.2.2.2.2.2.2.2.2.2.2.2.2) : T_Wd)) (Int32.add_zero w.2.2.2.2.2.2.2.2.1)).trans rfl
theorem L125_0 {K : T_Wd → Int32 → Int64 → Int32 → Int32 → Int32 → Prop} {post : Int32 → T_Wd → Prop} {n : Nat} {w : T_Wd} {x1 : Int32} {x2 : Int64} {x4 x6 y : Int32} (h : wp_Wd_splitNumber_L125 K post n w x1 x2 x4 0 x6) (c : ¬ (3 : Int32) ≤ x6) (hy : x6 + 1 = y) : ∃ n', wp_Wd_splitNumber_L125 K post n' w x1 (x2 * 10) x4 0 y := by
  subst hy
  cases n with
  | zero => exact False.elim h
  | succ n =>
    rw [wp_Wd_splitNumber_L125] at h
    replace h := (((h.2 c).1 rfl).1 rfl).1 rfl
    rw [wd_eta0, show ((0 : Int32)).toInt64 = 0 from rfl, Int64.add_zero] at h
    exact ⟨n, h⟩
theorem L125_1 {K : T_Wd → Int32 → Int64 → Int32 → Int32 → Int32 → Prop} {post : Int32 → T_Wd → Prop} {n : Nat} {w : T_Wd} {x1 : Int32} {x2 : Int64} {x4 x6 y : Int32} (h : wp_Wd_splitNumber_L125 K post n w x1 x2 x4 1 x6) (c : ¬ (3 : Int32) ≤ x6) (hy : x6 + 1 = y) (s0 : (0 : Int32) ≤ w.2.2.2.2.2.2.2.2.1) (l9 : w.2.2.2.2.2.1 ≤ 4000) : (dg (txat w.1 w.2.2.2.2.2.1 w.2.2.2.2.2.2.2.2.1) ∧ ∃ n', wp_Wd_splitNumber_L125 K post n' (w.1, w.2.1, w.2.2.1, w.2.2.2.1, w.2.2.2.2.1, w.2.2.2.2.2.1, w.2.2.2.2.2.2.1, w.2.2.2.2.2.2.2.1, (w.2.2.2.2.2.2.2.2.1 + (1 : Int32)), w.2.2.2.2.2.2.2.2.2.1, w.2.2.2.2.2.2.2.2.2.2.1, w.2.2.2.2.2.2.2.2.2.2.2.1, w.2.2.2.2.2.2.2.2.2.2.2.2.1, w.2.2.2.2.2.2.2.2.2.2.2.2.2) x1 ((x2 * 10) + (txat w.1 w.2.2.2.2.2.1 w.2.2.2.2.2.2.2.2.1 - (48 : Int32)).toInt64) x4 1 y) ∨ (¬ dg (txat w.1 w.2.2.2.2.2.1 w.2.2.2.2.2.2.2.2.1) ∧ ∃ n', wp_Wd_splitNumber_L125 K post n' w x1 (x2 * 10) x4 0 y) := by
  subst hy
  cases n with
  | zero => exact False.elim h
  | succ n =>
    rw [wp_Wd_splitNumber_L125] at h
    replace h := iv_Wd_byteAt ((h.2 c).2 (by decide)) s0 l9
    rcases iv_Wd_isDigit h with ⟨d, h⟩ | ⟨d, h⟩
    · replace h := iv_Wd_byteAt ((h.2 (by decide)).2 (by decide)) s0 l9
      exact Or.inl ⟨d, n, h.2 (by decide)⟩
    · replace h := ((h.1 rfl).1 rfl).1 rfl
      rw [wd_eta0, show ((0 : Int32)).toInt64 = 0 from rfl, Int64.add_zero] at h
      exact Or.inr ⟨d, n, h⟩
theorem L125_9 {K : T_Wd → Int32 → Int64 → Int32 → Int32 → Int32 → Prop} {post : Int32 → T_Wd → Prop} {n : Nat} {w : T_Wd} {x1 : Int32} {x2 : Int64} {x4 x5 x6 : Int32} (h : wp_Wd_splitNumber_L125 K post n w x1 x2 x4 x5 x6) (c : (3 : Int32) ≤ x6) : K w x1 x2 x4 x5 x6 := by
  cases n with
  | zero => exact False.elim h
  | succ n =>
    rw [wp_Wd_splitNumber_L125] at h
    exact h.1 c
theorem L143_1 {K : T_Mo → Int64 → Prop} {post : Unit → T_Mo → Prop} {n : Nat} {m : T_Mo} {b : Int64} (h : wp_Mo_digits_L143 K post n m b) : ((dg (txat m.1.1.1.1.1 m.1.1.1.1.2 m.1.1.1.2.1) ∧ ¬ lg_cmp b (0 : Int64) ≤ 0) ∧ ∃ n', wp_Mo_digits_L143 K post n' (((((m.1.1.1.1.1, m.1.1.1.1.2), ((m.1.1.1.2.1 + (1 : Int32)), (m.1.1.1.2.2.1, m.1.1.1.2.2.2))), ((m.1.1.2.1.1, m.1.1.2.1.2), (m.1.1.2.2.1, ((m.1.1.2.2.2.1 + (b * (txat m.1.1.1.1.1 m.1.1.1.1.2 m.1.1.1.2.1 - (48 : Int32)).toInt64)), m.1.1.2.2.2.2)))), (((m.1.2.1.1.1, m.1.2.1.1.2), (m.1.2.1.2.1, (m.1.2.1.2.2.1, m.1.2.1.2.2.2))), ((m.1.2.2.1.1, (m.1.2.2.1.2.1, m.1.2.2.1.2.2)), (m.1.2.2.2.1, (m.1.2.2.2.2.1, m.1.2.2.2.2.2))))), ((((m.2.1.1.1.1, m.2.1.1.1.2), (m.2.1.1.2.1, (m.2.1.1.2.2.1, m.2.1.1.2.2.2))), ((m.2.1.2.1.1, m.2.1.2.1.2), (m.2.1.2.2.1, (m.2.1.2.2.2.1, m.2.1.2.2.2.2)))), (((m.2.2.1.1.1, m.2.2.1.1.2), (m.2.2.1.2.1, (m.2.2.1.2.2.1, m.2.2.1.2.2.2))), ((m.2.2.2.1.1, (m.2.2.2.1.2.1, m.2.2.2.1.2.2)), (m.2.2.2.2.1, (m.2.2.2.2.2.1, m.2.2.2.2.2.2)))))) (b / (10 : Int64))) ∨ ((¬ dg (txat m.1.1.1.1.1 m.1.1.1.1.2 m.1.1.1.2.1) ∨ lg_cmp b (0 : Int64) ≤ 0) ∧ K m b) := by
  cases n with
  | zero => exact False.elim h
  | succ n =>
    rw [wp_Mo_digits_L143] at h
    replace h := iv_Mo_at h
    rcases iv_Mo_isDigit h with ⟨d, h⟩ | ⟨d, h⟩
    · replace h := h.2 (by decide)
      by_cases c : lg_cmp b (0 : Int64) ≤ 0
      · exact Or.inr ⟨Or.inr c, h.1 c⟩
      · exact Or.inl ⟨⟨d, c⟩, n, iv_Mo_at (h.2 c)⟩
    · exact Or.inr ⟨Or.inl d, h.1 rfl⟩
theorem i64_dec {v : Int64} {b : Int32} (h : dg b) (v0 : 0 ≤ v.toInt) (v9 : v.toInt < 100000000000) : ((v * 10) + (b - (48 : Int32)).toInt64).toInt = v.toInt * 10 + (b.toInt - 48) ∧ 48 ≤ b.toInt ∧ b.toInt ≤ 57 := by
  unfold dg at h
  rw [Int32.le_iff_toInt_le, Int32.le_iff_toInt_le, show (48 : Int32).toInt = 48 from rfl, show (57 : Int32).toInt = 57 from rfl] at h
  refine ⟨?_, h⟩
  have e : (b - (48 : Int32)).toInt = b.toInt - 48 := by
    rw [Int32.toInt_sub, show (48 : Int32).toInt = 48 from rfl]; exact Int.bmod_eq_of_le (by omega) (by omega)
  rw [Int64.toInt_add, Int64.toInt_mul, Int32.toInt_toInt64, e, show (10 : Int64).toInt = 10 from rfl]
  have m1 : (v.toInt * 10).bmod (2 ^ 64) = v.toInt * 10 := Int.bmod_eq_of_le (by omega) (by omega)
  rw [m1, Int.bmod_eq_of_le (by omega) (by omega)]
theorem i64_m10 {v : Int64} (v0 : 0 ≤ v.toInt) (v9 : v.toInt < 100000000000) : (v * 10).toInt = v.toInt * 10 := by
  rw [Int64.toInt_mul, show (10 : Int64).toInt = 10 from rfl]; exact Int.bmod_eq_of_le (by omega) (by omega)

set_option maxHeartbeats 1000000 in
theorem rl_dec3 {K : T_Wd → Int32 → Int64 → Int32 → Int32 → Int32 → Prop} {post : Int32 → T_Wd → Prop} {K' : T_Mo → Int64 → Prop} {post' : Unit → T_Mo → Prop} {n n' : Nat} {w : T_Wd} {m : T_Mo} {x1 : Int32} {x2 : Int64} {x4 : Int32} (hC : wp_Wd_splitNumber_L125 K post n w x1 x2 x4 1 3) (hM : wp_Mo_digits_L143 K' post' n' m 0) (lm : LM w m) (ev : m.1.1.2.2.2.1 = x2) (v0 : 0 ≤ x2.toInt) (v9 : x2.toInt < 1000000000000) : ∃ p v x5 x6 b, K (w.1, w.2.1, w.2.2.1, w.2.2.2.1, w.2.2.2.2.1, w.2.2.2.2.2.1, w.2.2.2.2.2.2.1, w.2.2.2.2.2.2.2.1, p, w.2.2.2.2.2.2.2.2.2.1, w.2.2.2.2.2.2.2.2.2.2.1, w.2.2.2.2.2.2.2.2.2.2.2.1, w.2.2.2.2.2.2.2.2.2.2.2.2.1, w.2.2.2.2.2.2.2.2.2.2.2.2.2) x1 v x4 x5 x6 ∧ K' (((((m.1.1.1.1.1, m.1.1.1.1.2), (p, (m.1.1.1.2.2.1, m.1.1.1.2.2.2))), ((m.1.1.2.1.1, m.1.1.2.1.2), (m.1.1.2.2.1, (v, m.1.1.2.2.2.2)))), (((m.1.2.1.1.1, m.1.2.1.1.2), (m.1.2.1.2.1, (m.1.2.1.2.2.1, m.1.2.1.2.2.2))), ((m.1.2.2.1.1, (m.1.2.2.1.2.1, m.1.2.2.1.2.2)), (m.1.2.2.2.1, (m.1.2.2.2.2.1, m.1.2.2.2.2.2))))), ((((m.2.1.1.1.1, m.2.1.1.1.2), (m.2.1.1.2.1, (m.2.1.1.2.2.1, m.2.1.1.2.2.2))), ((m.2.1.2.1.1, m.2.1.2.1.2), (m.2.1.2.2.1, (m.2.1.2.2.2.1, m.2.1.2.2.2.2)))), (((m.2.2.1.1.1, m.2.2.1.1.2), (m.2.2.1.2.1, (m.2.2.1.2.2.1, m.2.2.1.2.2.2))), ((m.2.2.2.1.1, (m.2.2.2.1.2.1, m.2.2.2.1.2.2)), (m.2.2.2.2.1, (m.2.2.2.2.2.1, m.2.2.2.2.2.2)))))) b ∧ w.2.2.2.2.2.2.2.2.1 ≤ p ∧ p ≤ w.2.2.2.2.2.1 ∧ 0 ≤ v.toInt ∧ v.toInt < 1000000000000 := by
  have hb := LM_at lm
  obtain ⟨e1, e2, e3, e4, s0, s1, l9⟩ := lm
  rcases L143_1 hM with ⟨⟨-, q⟩, -⟩ | ⟨-, hM⟩
  · exact absurd (by decide) q
  · exact ⟨w.2.2.2.2.2.2.2.2.1, x2, 1, 3, 0, L125_9 hC (by decide), (mo_eta2 e3 ev.symm).symm ▸ hM, Int32.le_refl _, s1, v0, v9⟩

set_option maxHeartbeats 1000000 in
theorem rl_dec2 {K : T_Wd → Int32 → Int64 → Int32 → Int32 → Int32 → Prop} {post : Int32 → T_Wd → Prop} {K' : T_Mo → Int64 → Prop} {post' : Unit → T_Mo → Prop} {n n' : Nat} {w : T_Wd} {m : T_Mo} {x1 : Int32} {x2 : Int64} {x4 : Int32} (hC : wp_Wd_splitNumber_L125 K post n w x1 x2 x4 1 2) (hM : wp_Mo_digits_L143 K' post' n' m 1) (lm : LM w m) (ev : m.1.1.2.2.2.1 = x2 * 10) (v0 : 0 ≤ x2.toInt) (v9 : x2.toInt < 100000000000) : ∃ p v x5 x6 b, K (w.1, w.2.1, w.2.2.1, w.2.2.2.1, w.2.2.2.2.1, w.2.2.2.2.2.1, w.2.2.2.2.2.2.1, w.2.2.2.2.2.2.2.1, p, w.2.2.2.2.2.2.2.2.2.1, w.2.2.2.2.2.2.2.2.2.2.1, w.2.2.2.2.2.2.2.2.2.2.2.1, w.2.2.2.2.2.2.2.2.2.2.2.2.1, w.2.2.2.2.2.2.2.2.2.2.2.2.2) x1 v x4 x5 x6 ∧ K' (((((m.1.1.1.1.1, m.1.1.1.1.2), (p, (m.1.1.1.2.2.1, m.1.1.1.2.2.2))), ((m.1.1.2.1.1, m.1.1.2.1.2), (m.1.1.2.2.1, (v, m.1.1.2.2.2.2)))), (((m.1.2.1.1.1, m.1.2.1.1.2), (m.1.2.1.2.1, (m.1.2.1.2.2.1, m.1.2.1.2.2.2))), ((m.1.2.2.1.1, (m.1.2.2.1.2.1, m.1.2.2.1.2.2)), (m.1.2.2.2.1, (m.1.2.2.2.2.1, m.1.2.2.2.2.2))))), ((((m.2.1.1.1.1, m.2.1.1.1.2), (m.2.1.1.2.1, (m.2.1.1.2.2.1, m.2.1.1.2.2.2))), ((m.2.1.2.1.1, m.2.1.2.1.2), (m.2.1.2.2.1, (m.2.1.2.2.2.1, m.2.1.2.2.2.2)))), (((m.2.2.1.1.1, m.2.2.1.1.2), (m.2.2.1.2.1, (m.2.2.1.2.2.1, m.2.2.1.2.2.2))), ((m.2.2.2.1.1, (m.2.2.2.1.2.1, m.2.2.2.1.2.2)), (m.2.2.2.2.1, (m.2.2.2.2.2.1, m.2.2.2.2.2.2)))))) b ∧ w.2.2.2.2.2.2.2.2.1 ≤ p ∧ p ≤ w.2.2.2.2.2.1 ∧ 0 ≤ v.toInt ∧ v.toInt < 1000000000000 := by
  have hb := LM_at lm
  obtain ⟨e1, e2, e3, e4, s0, s1, l9⟩ := lm
  rcases L125_1 (y := 3) hC (by decide) rfl s0 l9 with ⟨d, n2, hC⟩ | ⟨d, n2, hC⟩
  · rcases L143_1 hM with ⟨-, n3, hM⟩ | ⟨q, -⟩
    · have nz : ¬ txat w.1 w.2.2.2.2.2.1 w.2.2.2.2.2.2.2.2.1 = 0 := fun q => by rw [q] at d; unfold dg at d; exact absurd d.1 (by decide)
      have up := up_le s0 (txat_in nz) l9
      have dv := i64_dec d v0 (by omega)
      rw [hb, show (1 : Int64) / (10 : Int64) = 0 from by decide] at hM
      obtain ⟨p, v, x5, x6, b, k1, k2, k3, k4, k5, k6⟩ := rl_dec3 hC hM ⟨e1, e2, congrArg (· + (1 : Int32)) e3, e4, up.1, up.2.1, l9⟩ (by show m.1.1.2.2.2.1 + _ = _; rw [ev]; grind) (by rw [dv.1]; omega) (by rw [dv.1]; omega)
      exact ⟨p, v, x5, x6, b, k1, k2, Int32.le_trans up.2.2 k3, k4, k5, k6⟩
    · rw [hb] at q
      rcases q with q | q
      · exact absurd d q
      · exact absurd q (by decide)
  · rcases L143_1 hM with ⟨⟨q, -⟩, -⟩ | ⟨-, hM⟩
    · rw [hb] at q; exact absurd q d
    · have b1 := i64_m10 (v := x2) v0 (by omega)
      have k := L125_9 hC (by decide)
      have evv : m.1.1.2.2.2.1 = x2 * 10 := by first | exact ev | (rw [ev]; grind)
      exact ⟨w.2.2.2.2.2.2.2.2.1, x2 * 10, 0, _, _, k, (mo_eta2 e3 evv.symm).symm ▸ hM, Int32.le_refl _, s1, by rw [b1]; omega, by rw [b1]; omega⟩

set_option maxHeartbeats 1000000 in
theorem rl_dec1 {K : T_Wd → Int32 → Int64 → Int32 → Int32 → Int32 → Prop} {post : Int32 → T_Wd → Prop} {K' : T_Mo → Int64 → Prop} {post' : Unit → T_Mo → Prop} {n n' : Nat} {w : T_Wd} {m : T_Mo} {x1 : Int32} {x2 : Int64} {x4 : Int32} (hC : wp_Wd_splitNumber_L125 K post n w x1 x2 x4 1 1) (hM : wp_Mo_digits_L143 K' post' n' m 10) (lm : LM w m) (ev : m.1.1.2.2.2.1 = x2 * 100) (v0 : 0 ≤ x2.toInt) (v9 : x2.toInt < 10000000000) : ∃ p v x5 x6 b, K (w.1, w.2.1, w.2.2.1, w.2.2.2.1, w.2.2.2.2.1, w.2.2.2.2.2.1, w.2.2.2.2.2.2.1, w.2.2.2.2.2.2.2.1, p, w.2.2.2.2.2.2.2.2.2.1, w.2.2.2.2.2.2.2.2.2.2.1, w.2.2.2.2.2.2.2.2.2.2.2.1, w.2.2.2.2.2.2.2.2.2.2.2.2.1, w.2.2.2.2.2.2.2.2.2.2.2.2.2) x1 v x4 x5 x6 ∧ K' (((((m.1.1.1.1.1, m.1.1.1.1.2), (p, (m.1.1.1.2.2.1, m.1.1.1.2.2.2))), ((m.1.1.2.1.1, m.1.1.2.1.2), (m.1.1.2.2.1, (v, m.1.1.2.2.2.2)))), (((m.1.2.1.1.1, m.1.2.1.1.2), (m.1.2.1.2.1, (m.1.2.1.2.2.1, m.1.2.1.2.2.2))), ((m.1.2.2.1.1, (m.1.2.2.1.2.1, m.1.2.2.1.2.2)), (m.1.2.2.2.1, (m.1.2.2.2.2.1, m.1.2.2.2.2.2))))), ((((m.2.1.1.1.1, m.2.1.1.1.2), (m.2.1.1.2.1, (m.2.1.1.2.2.1, m.2.1.1.2.2.2))), ((m.2.1.2.1.1, m.2.1.2.1.2), (m.2.1.2.2.1, (m.2.1.2.2.2.1, m.2.1.2.2.2.2)))), (((m.2.2.1.1.1, m.2.2.1.1.2), (m.2.2.1.2.1, (m.2.2.1.2.2.1, m.2.2.1.2.2.2))), ((m.2.2.2.1.1, (m.2.2.2.1.2.1, m.2.2.2.1.2.2)), (m.2.2.2.2.1, (m.2.2.2.2.2.1, m.2.2.2.2.2.2)))))) b ∧ w.2.2.2.2.2.2.2.2.1 ≤ p ∧ p ≤ w.2.2.2.2.2.1 ∧ 0 ≤ v.toInt ∧ v.toInt < 1000000000000 := by
  have hb := LM_at lm
  obtain ⟨e1, e2, e3, e4, s0, s1, l9⟩ := lm
  rcases L125_1 (y := 2) hC (by decide) rfl s0 l9 with ⟨d, n2, hC⟩ | ⟨d, n2, hC⟩
  · rcases L143_1 hM with ⟨-, n3, hM⟩ | ⟨q, -⟩
    · have nz : ¬ txat w.1 w.2.2.2.2.2.1 w.2.2.2.2.2.2.2.2.1 = 0 := fun q => by rw [q] at d; unfold dg at d; exact absurd d.1 (by decide)
      have up := up_le s0 (txat_in nz) l9
      have dv := i64_dec d v0 (by omega)
      rw [hb, show (10 : Int64) / (10 : Int64) = 1 from by decide] at hM
      obtain ⟨p, v, x5, x6, b, k1, k2, k3, k4, k5, k6⟩ := rl_dec2 hC hM ⟨e1, e2, congrArg (· + (1 : Int32)) e3, e4, up.1, up.2.1, l9⟩ (by show m.1.1.2.2.2.1 + _ = _; rw [ev]; grind) (by rw [dv.1]; omega) (by rw [dv.1]; omega)
      exact ⟨p, v, x5, x6, b, k1, k2, Int32.le_trans up.2.2 k3, k4, k5, k6⟩
    · rw [hb] at q
      rcases q with q | q
      · exact absurd d q
      · exact absurd q (by decide)
  · rcases L143_1 hM with ⟨⟨q, -⟩, -⟩ | ⟨-, hM⟩
    · rw [hb] at q; exact absurd q d
    · obtain ⟨n3, hC⟩ := L125_0 (y := 3) hC (by decide) rfl
      have b1 := i64_m10 (v := x2) v0 (by omega)
      have b2 := i64_m10 (v := x2 * 10) (by rw [b1]; omega) (by rw [b1]; omega)
      have k := L125_9 hC (by decide)
      have evv : m.1.1.2.2.2.1 = x2 * 10 * 10 := by first | exact ev | (rw [ev]; grind)
      exact ⟨w.2.2.2.2.2.2.2.2.1, x2 * 10 * 10, 0, _, _, k, (mo_eta2 e3 evv.symm).symm ▸ hM, Int32.le_refl _, s1, by rw [b2, b1]; omega, by rw [b2, b1]; omega⟩

set_option maxHeartbeats 1000000 in
theorem rl_dec0 {K : T_Wd → Int32 → Int64 → Int32 → Int32 → Int32 → Prop} {post : Int32 → T_Wd → Prop} {K' : T_Mo → Int64 → Prop} {post' : Unit → T_Mo → Prop} {n n' : Nat} {w : T_Wd} {m : T_Mo} {x1 : Int32} {x2 : Int64} {x4 : Int32} (hC : wp_Wd_splitNumber_L125 K post n w x1 x2 x4 1 0) (hM : wp_Mo_digits_L143 K' post' n' m 100) (lm : LM w m) (ev : m.1.1.2.2.2.1 = x2 * 1000) (v0 : 0 ≤ x2.toInt) (v9 : x2.toInt < 1000000000) : ∃ p v x5 x6 b, K (w.1, w.2.1, w.2.2.1, w.2.2.2.1, w.2.2.2.2.1, w.2.2.2.2.2.1, w.2.2.2.2.2.2.1, w.2.2.2.2.2.2.2.1, p, w.2.2.2.2.2.2.2.2.2.1, w.2.2.2.2.2.2.2.2.2.2.1, w.2.2.2.2.2.2.2.2.2.2.2.1, w.2.2.2.2.2.2.2.2.2.2.2.2.1, w.2.2.2.2.2.2.2.2.2.2.2.2.2) x1 v x4 x5 x6 ∧ K' (((((m.1.1.1.1.1, m.1.1.1.1.2), (p, (m.1.1.1.2.2.1, m.1.1.1.2.2.2))), ((m.1.1.2.1.1, m.1.1.2.1.2), (m.1.1.2.2.1, (v, m.1.1.2.2.2.2)))), (((m.1.2.1.1.1, m.1.2.1.1.2), (m.1.2.1.2.1, (m.1.2.1.2.2.1, m.1.2.1.2.2.2))), ((m.1.2.2.1.1, (m.1.2.2.1.2.1, m.1.2.2.1.2.2)), (m.1.2.2.2.1, (m.1.2.2.2.2.1, m.1.2.2.2.2.2))))), ((((m.2.1.1.1.1, m.2.1.1.1.2), (m.2.1.1.2.1, (m.2.1.1.2.2.1, m.2.1.1.2.2.2))), ((m.2.1.2.1.1, m.2.1.2.1.2), (m.2.1.2.2.1, (m.2.1.2.2.2.1, m.2.1.2.2.2.2)))), (((m.2.2.1.1.1, m.2.2.1.1.2), (m.2.2.1.2.1, (m.2.2.1.2.2.1, m.2.2.1.2.2.2))), ((m.2.2.2.1.1, (m.2.2.2.1.2.1, m.2.2.2.1.2.2)), (m.2.2.2.2.1, (m.2.2.2.2.2.1, m.2.2.2.2.2.2)))))) b ∧ w.2.2.2.2.2.2.2.2.1 ≤ p ∧ p ≤ w.2.2.2.2.2.1 ∧ 0 ≤ v.toInt ∧ v.toInt < 1000000000000 := by
  have hb := LM_at lm
  obtain ⟨e1, e2, e3, e4, s0, s1, l9⟩ := lm
  rcases L125_1 (y := 1) hC (by decide) rfl s0 l9 with ⟨d, n2, hC⟩ | ⟨d, n2, hC⟩
  · rcases L143_1 hM with ⟨-, n3, hM⟩ | ⟨q, -⟩
    · have nz : ¬ txat w.1 w.2.2.2.2.2.1 w.2.2.2.2.2.2.2.2.1 = 0 := fun q => by rw [q] at d; unfold dg at d; exact absurd d.1 (by decide)
      have up := up_le s0 (txat_in nz) l9
      have dv := i64_dec d v0 (by omega)
      rw [hb, show (100 : Int64) / (10 : Int64) = 10 from by decide] at hM
      obtain ⟨p, v, x5, x6, b, k1, k2, k3, k4, k5, k6⟩ := rl_dec1 hC hM ⟨e1, e2, congrArg (· + (1 : Int32)) e3, e4, up.1, up.2.1, l9⟩ (by show m.1.1.2.2.2.1 + _ = _; rw [ev]; grind) (by rw [dv.1]; omega) (by rw [dv.1]; omega)
      exact ⟨p, v, x5, x6, b, k1, k2, Int32.le_trans up.2.2 k3, k4, k5, k6⟩
    · rw [hb] at q
      rcases q with q | q
      · exact absurd d q
      · exact absurd q (by decide)
  · rcases L143_1 hM with ⟨⟨q, -⟩, -⟩ | ⟨-, hM⟩
    · rw [hb] at q; exact absurd q d
    · obtain ⟨n3, hC⟩ := L125_0 (y := 2) hC (by decide) rfl
      obtain ⟨n3, hC⟩ := L125_0 (y := 3) hC (by decide) rfl
      have b1 := i64_m10 (v := x2) v0 (by omega)
      have b2 := i64_m10 (v := x2 * 10) (by rw [b1]; omega) (by rw [b1]; omega)
      have b3 := i64_m10 (v := x2 * 10 * 10) (by rw [b2, b1]; omega) (by rw [b2, b1]; omega)
      have k := L125_9 hC (by decide)
      have evv : m.1.1.2.2.2.1 = x2 * 10 * 10 * 10 := by first | exact ev | (rw [ev]; grind)
      exact ⟨w.2.2.2.2.2.2.2.2.1, x2 * 10 * 10 * 10, 0, _, _, k, (mo_eta2 e3 evv.symm).symm ▸ hM, Int32.le_refl _, s1, by rw [b3, b2, b1]; omega, by rw [b3, b2, b1]; omega⟩

def kept (w : T_Wd) (c p : Int32) (v : Int64) : T_Wd := (w.1, (upd w.2.1 w.2.2.2.2.2.2.1.toNatClampNeg c), (upd w.2.2.1 w.2.2.2.2.2.2.1.toNatClampNeg p), (upd w.2.2.2.1 w.2.2.2.2.2.2.1.toNatClampNeg w.2.2.2.2.2.2.2.2.2.1), (vp_updL w.2.2.2.2.1 w.2.2.2.2.2.2.1.toNatClampNeg v), w.2.2.2.2.2.1, (w.2.2.2.2.2.2.1 + (1 : Int32)), w.2.2.2.2.2.2.2.1, w.2.2.2.2.2.2.2.2.1, w.2.2.2.2.2.2.2.2.2.1, w.2.2.2.2.2.2.2.2.2.2.1, w.2.2.2.2.2.2.2.2.2.2.2.1, w.2.2.2.2.2.2.2.2.2.2.2.2.1, w.2.2.2.2.2.2.2.2.2.2.2.2.2)
def jn (b : Int32) : Prop := b = 46 ∨ lt b ∨ dg b
theorem iv_keep {w : T_Wd} {c p : Int32} {v : Int64} {P : Unit → T_Wd → Prop} (h : wp_Wd_keep w c p v P) (k9 : w.2.2.2.2.2.2.1 ≤ 4000) : P () (kept w c p v) := by
  unfold wp_Wd_keep at h
  exact ((((h.2 (Int32.not_lt.mpr k9)).2).2).2).2
theorem iv_keepJoined {w : T_Wd} {c s : Int32} {v : Int64} {P : Int32 → T_Wd → Prop} (h : wp_Wd_keepJoined w c s v P) (s0 : (0 : Int32) ≤ w.2.2.2.2.2.2.2.2.1) (l9 : w.2.2.2.2.2.1 ≤ 4000) (k9 : w.2.2.2.2.2.2.1 ≤ 4000) : (jn (txat w.1 w.2.2.2.2.2.1 w.2.2.2.2.2.2.2.2.1) ∧ P 0 (kept w 131 w.2.2.2.2.2.2.2.2.1 0)) ∨ (¬ jn (txat w.1 w.2.2.2.2.2.1 w.2.2.2.2.2.2.2.2.1) ∧ P 1 (kept w c s v)) := by
  unfold wp_Wd_keepJoined at h
  replace h := iv_Wd_byteAt h s0 l9
  unfold jn
  by_cases d : txat w.1 w.2.2.2.2.2.1 w.2.2.2.2.2.2.2.2.1 = 46
  · exact Or.inl ⟨Or.inl d, iv_keep (h.1 d) k9⟩
  · rcases iv_Kw_rank (h.2 d) with ⟨q, h⟩ | ⟨q, h⟩ | ⟨q, h⟩
    · exact Or.inl ⟨Or.inr (Or.inl q), iv_keep (h.2 (rk_pos q)) k9⟩
    · exact Or.inl ⟨Or.inr (Or.inr q), iv_keep (h.2 (rk_posd q)) k9⟩
    · exact Or.inr ⟨fun j => j.elim d (fun j => j.elim q.1 q.2), iv_keep (h.1 (by decide)) k9⟩
theorem iv_J315 {m : T_Mo} {x1 : Int32} {P : Int32 → T_Mo → Prop} (h : wp_Mo_go_J315 P m x1) : (jn (txat m.1.1.1.1.1 m.1.1.1.1.2 m.1.1.1.2.1) ∧ P 0 (((((m.1.1.1.1.1, m.1.1.1.1.2), (m.1.1.1.2.1, (m.1.1.1.2.2.1, m.1.1.1.2.2.2))), ((m.1.1.2.1.1, m.1.1.1.2.1), (m.1.1.2.2.1, (m.1.1.2.2.2.1, m.1.1.2.2.2.2)))), (((m.1.1.1.2.1, m.1.2.1.1.2), (m.1.2.1.2.1, (m.1.2.1.2.2.1, m.1.2.1.2.2.2))), ((m.1.2.2.1.1, (m.1.2.2.1.2.1, m.1.2.2.1.2.2)), (m.1.2.2.2.1, (m.1.2.2.2.2.1, m.1.2.2.2.2.2))))), ((((m.2.1.1.1.1, m.2.1.1.1.2), (m.2.1.1.2.1, (m.2.1.1.2.2.1, m.2.1.1.2.2.2))), ((m.2.1.2.1.1, m.2.1.2.1.2), (m.2.1.2.2.1, (m.2.1.2.2.2.1, m.2.1.2.2.2.2)))), (((m.2.2.1.1.1, m.2.2.1.1.2), (m.2.2.1.2.1, (m.2.2.1.2.2.1, m.2.2.1.2.2.2))), ((m.2.2.2.1.1, (m.2.2.2.1.2.1, m.2.2.2.1.2.2)), (m.2.2.2.2.1, (m.2.2.2.2.2.1, m.2.2.2.2.2.2))))))) ∨ (¬ jn (txat m.1.1.1.1.1 m.1.1.1.1.2 m.1.1.1.2.1) ∧ ((lt x1 ∧ wp_Mo_meaning (((((m.1.1.1.1.1, m.1.1.1.1.2), (m.1.1.1.2.1, (m.1.1.1.2.2.1, m.1.1.1.2.2.2))), ((m.1.1.2.1.1, m.1.1.1.2.1), (m.1.1.2.2.1, (m.1.1.2.2.2.1, m.1.1.2.2.2.2)))), (((m.1.2.1.1.1, m.1.2.1.1.2), (m.1.2.1.2.1, (m.1.2.1.2.2.1, m.1.2.1.2.2.2))), ((m.1.2.2.1.1, (m.1.2.2.1.2.1, m.1.2.2.1.2.2)), (m.1.2.2.2.1, (m.1.2.2.2.2.1, m.1.2.2.2.2.2))))), ((((m.2.1.1.1.1, m.2.1.1.1.2), (m.2.1.1.2.1, (m.2.1.1.2.2.1, m.2.1.1.2.2.2))), ((m.2.1.2.1.1, m.2.1.2.1.2), (m.2.1.2.2.1, (m.2.1.2.2.2.1, m.2.1.2.2.2.2)))), (((m.2.2.1.1.1, m.2.2.1.1.2), (m.2.2.1.2.1, (m.2.2.1.2.2.1, m.2.2.1.2.2.2))), ((m.2.2.2.1.1, (m.2.2.2.1.2.1, m.2.2.2.1.2.2)), (m.2.2.2.2.1, (m.2.2.2.2.2.1, m.2.2.2.2.2.2)))))) (fun r _ => P 1 (((((m.1.1.1.1.1, m.1.1.1.1.2), (m.1.1.1.2.1, (m.1.1.1.2.2.1, (1000 : Int32) + r))), ((m.1.1.2.1.1, m.1.1.1.2.1), (m.1.1.2.2.1, (m.1.1.2.2.2.1, m.1.1.2.2.2.2)))), (((m.1.2.1.1.1, m.1.2.1.1.2), (m.1.2.1.2.1, (m.1.2.1.2.2.1, m.1.2.1.2.2.2))), ((m.1.2.2.1.1, (m.1.2.2.1.2.1, m.1.2.2.1.2.2)), (m.1.2.2.2.1, (m.1.2.2.2.2.1, m.1.2.2.2.2.2))))), ((((m.2.1.1.1.1, m.2.1.1.1.2), (m.2.1.1.2.1, (m.2.1.1.2.2.1, m.2.1.1.2.2.2))), ((m.2.1.2.1.1, m.2.1.2.1.2), (m.2.1.2.2.1, (m.2.1.2.2.2.1, m.2.1.2.2.2.2)))), (((m.2.2.1.1.1, m.2.2.1.1.2), (m.2.2.1.2.1, (m.2.2.1.2.2.1, m.2.2.1.2.2.2))), ((m.2.2.2.1.1, (m.2.2.2.1.2.1, m.2.2.2.1.2.2)), (m.2.2.2.2.1, (m.2.2.2.2.2.1, m.2.2.2.2.2.2)))))))) ∨ (¬ lt x1 ∧ P 1 (((((m.1.1.1.1.1, m.1.1.1.1.2), (m.1.1.1.2.1, (m.1.1.1.2.2.1, (2000 : Int32)))), ((m.1.1.2.1.1, m.1.1.1.2.1), (m.1.1.2.2.1, (m.1.1.2.2.2.1, m.1.1.2.2.2.2)))), (((m.1.2.1.1.1, m.1.2.1.1.2), (m.1.2.1.2.1, (m.1.2.1.2.2.1, m.1.2.1.2.2.2))), ((m.1.2.2.1.1, (m.1.2.2.1.2.1, m.1.2.2.1.2.2)), (m.1.2.2.2.1, (m.1.2.2.2.2.1, m.1.2.2.2.2.2))))), ((((m.2.1.1.1.1, m.2.1.1.1.2), (m.2.1.1.2.1, (m.2.1.1.2.2.1, m.2.1.1.2.2.2))), ((m.2.1.2.1.1, m.2.1.2.1.2), (m.2.1.2.2.1, (m.2.1.2.2.2.1, m.2.1.2.2.2.2)))), (((m.2.2.1.1.1, m.2.2.1.1.2), (m.2.2.1.2.1, (m.2.2.1.2.2.1, m.2.2.1.2.2.2))), ((m.2.2.2.1.1, (m.2.2.2.1.2.1, m.2.2.2.1.2.2)), (m.2.2.2.2.1, (m.2.2.2.2.2.1, m.2.2.2.2.2.2))))))))) := by
  unfold wp_Mo_go_J315 at h
  replace h := iv_Mo_at h
  unfold jn
  rcases iv_Mo_isLetter h with ⟨q, h⟩ | ⟨q, h⟩
  · exact Or.inl ⟨Or.inr (Or.inl q), h.2 (by decide)⟩
  · rcases iv_Mo_isDigit (h.1 rfl) with ⟨d, h⟩ | ⟨d, h⟩
    · exact Or.inl ⟨Or.inr (Or.inr d), h.2 (by decide)⟩
    · replace h := h.1 rfl
      by_cases e : txat m.1.1.1.1.1 m.1.1.1.1.2 m.1.1.1.2.1 = 46
      · exact Or.inl ⟨Or.inl e, h.1 e⟩
      · refine Or.inr ⟨fun j => j.elim e (fun j => j.elim q d), ?_⟩
        rcases iv_Mo_isLetter (h.2 e) with ⟨g, h⟩ | ⟨g, h⟩
        · exact Or.inl ⟨g, h.2 (by decide)⟩
        · exact Or.inr ⟨g, h.1 rfl⟩
/-- words as lists of bytes, forward -/
def fs (tx : Nat → Int32) : Nat → Nat → List Int32
  | _, 0 => []
  | b, n + 1 => tx b :: fs tx (b + 1) n
def rkI (a : Int32) : Int := if (97 : Int32) ≤ a ∧ a ≤ 122 then a.toInt - 96 else if (48 : Int32) ≤ a ∧ a ≤ 57 then a.toInt - 21 else 0
def pr : List Int32 → Int
  | [] => 0
  | c :: t => pr t * 37 + rkI c
/-- the number of a word -/
def pk (l : List Int32) : Int := pr l.reverse
def wl (l : List Int32) : Prop := ∀ c, c ∈ l → lt c ∨ dg c
theorem fs_snoc {tx : Nat → Int32} : ∀ (n b : Nat), fs tx b (n + 1) = fs tx b n ++ [tx (b + n)]
  | 0, b => rfl
  | n + 1, b => by
    rw [fs, fs_snoc n (b + 1), fs, show b + 1 + n = b + (n + 1) by omega]; rfl
theorem fs_len {tx : Nat → Int32} : ∀ (n b : Nat), (fs tx b n).length = n
  | 0, b => rfl
  | n + 1, b => by rw [fs, List.length_cons, fs_len n (b + 1)]
theorem pk_snoc {l : List Int32} {c : Int32} : pk (l ++ [c]) = pk l * 37 + rkI c := by
  unfold pk
  rw [List.reverse_append]; rfl
theorem rkI_b {c : Int32} (h : lt c ∨ dg c) : 1 ≤ rkI c ∧ rkI c ≤ 36 := by
  unfold rkI
  unfold lt dg at h
  by_cases a : (97 : Int32) ≤ c ∧ c ≤ 122
  · rw [if_pos a]
    rw [Int32.le_iff_toInt_le, Int32.le_iff_toInt_le, show (97 : Int32).toInt = 97 from rfl, show (122 : Int32).toInt = 122 from rfl] at a
    omega
  · rw [if_neg a]
    have d := h.resolve_left a
    rw [if_pos d]
    rw [Int32.le_iff_toInt_le, Int32.le_iff_toInt_le, show (48 : Int32).toInt = 48 from rfl, show (57 : Int32).toInt = 57 from rfl] at d
    omega
theorem rkI_inj {c e : Int32} (h : lt c ∨ dg c) (g : lt e ∨ dg e) (q : rkI c = rkI e) : c = e := by
  unfold rkI at q
  unfold lt dg at h g
  apply Int32.toInt_inj.mp
  by_cases a : (97 : Int32) ≤ c ∧ c ≤ 122
  · rw [if_pos a] at q
    by_cases b : (97 : Int32) ≤ e ∧ e ≤ 122
    · rw [if_pos b] at q; omega
    · have d := g.resolve_left b
      rw [if_neg b, if_pos d] at q
      rw [Int32.le_iff_toInt_le, Int32.le_iff_toInt_le, show (48 : Int32).toInt = 48 from rfl, show (57 : Int32).toInt = 57 from rfl] at d
      rw [Int32.le_iff_toInt_le, Int32.le_iff_toInt_le, show (97 : Int32).toInt = 97 from rfl, show (122 : Int32).toInt = 122 from rfl] at a
      omega
  · have d := h.resolve_left a
    rw [if_neg a, if_pos d] at q
    by_cases b : (97 : Int32) ≤ e ∧ e ≤ 122
    · rw [if_pos b] at q
      rw [Int32.le_iff_toInt_le, Int32.le_iff_toInt_le, show (48 : Int32).toInt = 48 from rfl, show (57 : Int32).toInt = 57 from rfl] at d
      rw [Int32.le_iff_toInt_le, Int32.le_iff_toInt_le, show (97 : Int32).toInt = 97 from rfl, show (122 : Int32).toInt = 122 from rfl] at b
      omega
    · have d2 := g.resolve_left b
      rw [if_neg b, if_pos d2] at q; omega
theorem pr_nn : ∀ (l : List Int32), wl l → 0 ≤ pr l
  | [], _ => Int.le_refl _
  | c :: t, h => by
    have a := pr_nn t (fun x hx => h x (List.mem_cons_of_mem _ hx))
    have b := rkI_b (h c List.mem_cons_self)
    rw [pr]; omega
theorem pr_inj : ∀ (l k : List Int32), wl l → wl k → pr l = pr k → l = k
  | [], [], _, _, _ => rfl
  | [], c :: t, _, h, q => by
    have a := pr_nn t (fun x hx => h x (List.mem_cons_of_mem _ hx))
    have b := rkI_b (h c List.mem_cons_self)
    rw [pr, pr] at q; omega
  | c :: t, [], h, _, q => by
    have a := pr_nn t (fun x hx => h x (List.mem_cons_of_mem _ hx))
    have b := rkI_b (h c List.mem_cons_self)
    rw [pr, pr] at q; omega
  | c :: t, e :: s, h, g, q => by
    have b := rkI_b (h c List.mem_cons_self)
    have d := rkI_b (g e List.mem_cons_self)
    rw [pr, pr] at q
    have q1 : pr t = pr s := by omega
    have q2 : rkI c = rkI e := by omega
    rw [rkI_inj (h c List.mem_cons_self) (g e List.mem_cons_self) q2, pr_inj t s (fun x hx => h x (List.mem_cons_of_mem _ hx)) (fun x hx => g x (List.mem_cons_of_mem _ hx)) q1]
theorem wl_rev {l : List Int32} (h : wl l) : wl l.reverse := fun c hc => h c (List.mem_reverse.mp hc)
theorem pk_inj {l k : List Int32} (h : wl l) (g : wl k) (q : pk l = pk k) : l = k := by
  have e := pr_inj _ _ (wl_rev h) (wl_rev g) q
  have e2 := congrArg List.reverse e
  rw [List.reverse_reverse, List.reverse_reverse] at e2
  exact e2
theorem pr_top : ∀ (l : List Int32), wl l → pr l < 37 ^ l.length
  | [], _ => by decide
  | c :: t, h => by
    have a := pr_top t (fun x hx => h x (List.mem_cons_of_mem _ hx))
    have b := rkI_b (h c List.mem_cons_self)
    rw [pr, List.length_cons, Int.pow_succ]
    omega
theorem pw37_12 {k : Nat} (h : k ≤ 12) : (37 : Int) ^ k ≤ 37 ^ 12 := match k, h with | 0, _ => by decide | 1, _ => by decide | 2, _ => by decide | 3, _ => by decide | 4, _ => by decide | 5, _ => by decide | 6, _ => by decide | 7, _ => by decide | 8, _ => by decide | 9, _ => by decide | 10, _ => by decide | 11, _ => by decide | 12, _ => by decide | n + 13, h => absurd h (by omega)
theorem pw37_11 {k : Nat} (h : k ≤ 11) : (37 : Int) ^ k ≤ 37 ^ 11 := match k, h with | 0, _ => by decide | 1, _ => by decide | 2, _ => by decide | 3, _ => by decide | 4, _ => by decide | 5, _ => by decide | 6, _ => by decide | 7, _ => by decide | 8, _ => by decide | 9, _ => by decide | 10, _ => by decide | 11, _ => by decide | n + 12, h => absurd h (by omega)
theorem pk_b {l : List Int32} (h : wl l) (n : l.length ≤ 12) : 0 ≤ pk l ∧ pk l < 37 ^ 12 := by
  refine ⟨pr_nn _ (wl_rev h), ?_⟩
  have a := pr_top _ (wl_rev h)
  rw [List.length_reverse] at a
  have b : (37 : Int) ^ l.length ≤ 37 ^ 12 := pw37_12 n
  unfold pk
  omega

theorem txat_pos {tx : Nat → Int32} {sz p : Int32} (h : p < sz) : txat tx sz p = tx p.toNatClampNeg := if_neg (Int32.not_le.mpr h)
theorem mo_eta1 {m : T_Mo} {p : Int32} (hp : p = m.1.1.1.2.1) : (((((m.1.1.1.1.1, m.1.1.1.1.2), (p, (m.1.1.1.2.2.1, m.1.1.1.2.2.2))), ((m.1.1.2.1.1, m.1.1.2.1.2), (m.1.1.2.2.1, (m.1.1.2.2.2.1, m.1.1.2.2.2.2)))), (((m.1.2.1.1.1, m.1.2.1.1.2), (m.1.2.1.2.1, (m.1.2.1.2.2.1, m.1.2.1.2.2.2))), ((m.1.2.2.1.1, (m.1.2.2.1.2.1, m.1.2.2.1.2.2)), (m.1.2.2.2.1, (m.1.2.2.2.2.1, m.1.2.2.2.2.2))))), ((((m.2.1.1.1.1, m.2.1.1.1.2), (m.2.1.1.2.1, (m.2.1.1.2.2.1, m.2.1.1.2.2.2))), ((m.2.1.2.1.1, m.2.1.2.1.2), (m.2.1.2.2.1, (m.2.1.2.2.2.1, m.2.1.2.2.2.2)))), (((m.2.2.1.1.1, m.2.2.1.1.2), (m.2.2.1.2.1, (m.2.2.1.2.2.1, m.2.2.1.2.2.2))), ((m.2.2.2.1.1, (m.2.2.2.1.2.1, m.2.2.2.1.2.2)), (m.2.2.2.2.1, (m.2.2.2.2.2.1, m.2.2.2.2.2.2)))))) = m := by
  subst hp; rfl
theorem i64_letter {v : Int64} {r : Int32} (v0 : 0 ≤ v.toInt) (v9 : v.toInt < 37 ^ 11) (r0 : 0 ≤ r.toInt) (r9 : r.toInt ≤ 36) : ((v * (37 : Int64)) + r.toInt64).toInt = v.toInt * 37 + r.toInt := by
  have e11 : (37 : Int) ^ 11 = 177917621779460413 := by decide
  rw [e11] at v9
  rw [Int64.toInt_add, Int64.toInt_mul, Int32.toInt_toInt64, show (37 : Int64).toInt = 37 from rfl]
  have m1 : (v.toInt * 37).bmod (2 ^ 64) = v.toInt * 37 := Int.bmod_eq_of_le (by omega) (by omega)
  rw [m1, Int.bmod_eq_of_le (by omega) (by omega)]
theorem rk_lt {a : Int32} (h : lt a) : ((a - (97 : Int32)) + (1 : Int32)).toInt = rkI a := by
  unfold rkI
  unfold lt at h
  rw [if_pos h]
  rw [Int32.le_iff_toInt_le, Int32.le_iff_toInt_le, show (97 : Int32).toInt = 97 from rfl, show (122 : Int32).toInt = 122 from rfl] at h
  rw [Int32.toInt_add, Int32.toInt_sub, show (97 : Int32).toInt = 97 from rfl, show (1 : Int32).toInt = 1 from rfl]
  have m1 : (a.toInt - 97).bmod (2 ^ 32) = a.toInt - 97 := Int.bmod_eq_of_le (by omega) (by omega)
  rw [m1, Int.bmod_eq_of_le (by omega) (by omega)]
  omega
theorem rk_dg {a : Int32} (h : dg a) : ((a - (48 : Int32)) + (27 : Int32)).toInt = rkI a := by
  unfold rkI
  have n : ¬ ((97 : Int32) ≤ a ∧ a ≤ 122) := fun q => lt_dg q h
  unfold dg at h
  rw [if_neg n, if_pos h]
  rw [Int32.le_iff_toInt_le, Int32.le_iff_toInt_le, show (48 : Int32).toInt = 48 from rfl, show (57 : Int32).toInt = 57 from rfl] at h
  rw [Int32.toInt_add, Int32.toInt_sub, show (48 : Int32).toInt = 48 from rfl, show (27 : Int32).toInt = 27 from rfl]
  have m1 : (a.toInt - 48).bmod (2 ^ 32) = a.toInt - 48 := Int.bmod_eq_of_le (by omega) (by omega)
  rw [m1, Int.bmod_eq_of_le (by omega) (by omega)]
  omega
/-- what is read of a word so far: from b up to p -/
def WS (tx : Nat → Int32) (b p : Int32) (v : Int64) : Prop := wl (fs tx b.toNatClampNeg (p.toNatClampNeg - b.toNatClampNeg)) ∧ v.toInt = pk (fs tx b.toNatClampNeg (p.toNatClampNeg - b.toNatClampNeg)) ∧ p.toNatClampNeg - b.toNatClampNeg ≤ 12
theorem ix_up {p : Int32} (h0 : (0 : Int32) ≤ p) (h9 : p < 4000) : (p + (1 : Int32)).toNatClampNeg = p.toNatClampNeg + 1 := by
  rw [Int32.le_iff_toInt_le] at h0
  rw [Int32.lt_iff_toInt_lt] at h9
  have e : (p + (1 : Int32)).toInt = p.toInt + 1 := i_add1 h0 (by have : (4000 : Int32).toInt = 4000 := rfl; omega)
  show (p + (1 : Int32)).toInt.toNat = p.toInt.toNat + 1
  have e0 : (0 : Int32).toInt = 0 := rfl
  rw [e]; omega
theorem ix_le {p q : Int32} (h : p ≤ q) : p.toNatClampNeg ≤ q.toNatClampNeg := by
  rw [Int32.le_iff_toInt_le] at h
  show p.toInt.toNat ≤ q.toInt.toNat
  omega
theorem WS_step {tx : Nat → Int32} {b p sz : Int32} {v : Int64} {r : Int32} (h : WS tx b p v) (b0 : (0 : Int32) ≤ b) (bp : b ≤ p) (p9 : p < sz) (s9 : sz ≤ 4000) (l : lt (txat tx sz p) ∨ dg (txat tx sz p)) (n : p.toNatClampNeg - b.toNatClampNeg < 12) (hr : r.toInt = rkI (txat tx sz p)) : WS tx b (p + (1 : Int32)) ((v * (37 : Int64)) + r.toInt64) := by
  obtain ⟨h1, h2, h3⟩ := h
  have e := ix_up (Int32.le_trans b0 bp) (Int32.lt_of_lt_of_le p9 s9)
  have q := ix_le bp
  rw [txat_pos p9] at l hr
  have k : (p + (1 : Int32)).toNatClampNeg - b.toNatClampNeg = (p.toNatClampNeg - b.toNatClampNeg) + 1 := by rw [e]; omega
  have t : tx (b.toNatClampNeg + (p.toNatClampNeg - b.toNatClampNeg)) = tx p.toNatClampNeg := by congr 1; omega
  have rb := rkI_b l
  have pb := pr_nn _ (wl_rev h1)
  have pt := pr_top _ (wl_rev h1)
  rw [List.length_reverse, fs_len] at pt
  have pw : (37 : Int) ^ (p.toNatClampNeg - b.toNatClampNeg) ≤ 37 ^ 11 := pw37_11 (by omega)
  unfold WS
  rw [k, fs_snoc, t]
  refine ⟨fun c hc => ?_, ?_, by omega⟩
  · rcases List.mem_append.mp hc with hc | hc
    · exact h1 c hc
    · rw [List.mem_singleton.mp hc]; exact l
  · rw [pk_snoc, i64_letter (by rw [h2]; exact pb) (by rw [h2]; unfold pk; omega) (by omega) (by omega), h2, hr]
theorem dif12 {b p : Int32} (b0 : (0 : Int32) ≤ b) (bp : b ≤ p) (p9 : p ≤ 4000) : ((12 : Int32) ≤ p - b ↔ 12 ≤ p.toNatClampNeg - b.toNatClampNeg) ∧ (p - b).toInt = ((p.toNatClampNeg - b.toNatClampNeg : Nat) : Int) := by
  rw [Int32.le_iff_toInt_le] at b0 bp p9
  have e0 : (0 : Int32).toInt = 0 := rfl
  have e4 : (4000 : Int32).toInt = 4000 := rfl
  have e : (p - b).toInt = p.toInt - b.toInt := by
    rw [Int32.toInt_sub]; exact Int.bmod_eq_of_le (by omega) (by omega)
  have f : p.toNatClampNeg - b.toNatClampNeg = p.toInt.toNat - b.toInt.toNat := rfl
  rw [f, Int32.le_iff_toInt_le, e, show (12 : Int32).toInt = 12 from rfl]
  constructor
  · omega
  · omega
set_option maxHeartbeats 1000000 in
theorem rl_letters {kw : T_Kw} : ∀ (n : Nat) (w : T_Wd) (x1 : Int32) (x2 : Int64) (x4 : Int32) (m : T_Mo) (c1 : Int32) (n' : Nat) (K : T_Wd → Int32 → Int64 → Int32 → Prop) (post : Int32 → T_Wd → Prop) (K' : T_Mo → Int32 → Prop) (post' : Int32 → T_Mo → Prop), wp_Wd_splitLetters_L10 kw K post n w x1 x2 x4 → wp_Mo_go_L124 K' post' n' m c1 → LM w m → m.1.1.2.1.1 = x1 → x4 = w.2.2.2.2.2.2.2.2.1 - x1 → (0 : Int32) ≤ x1 → x1 ≤ w.2.2.2.2.2.2.2.2.1 → WS w.1 x1 w.2.2.2.2.2.2.2.2.1 x2 → ∃ p v x, K (w.1, w.2.1, w.2.2.1, w.2.2.2.1, w.2.2.2.2.1, w.2.2.2.2.2.1, w.2.2.2.2.2.2.1, w.2.2.2.2.2.2.2.1, p, w.2.2.2.2.2.2.2.2.2.1, w.2.2.2.2.2.2.2.2.2.2.1, w.2.2.2.2.2.2.2.2.2.2.2.1, w.2.2.2.2.2.2.2.2.2.2.2.2.1, w.2.2.2.2.2.2.2.2.2.2.2.2.2) x1 v x ∧ K' (((((m.1.1.1.1.1, m.1.1.1.1.2), (p, (m.1.1.1.2.2.1, m.1.1.1.2.2.2))), ((m.1.1.2.1.1, m.1.1.2.1.2), (m.1.1.2.2.1, (m.1.1.2.2.2.1, m.1.1.2.2.2.2)))), (((m.1.2.1.1.1, m.1.2.1.1.2), (m.1.2.1.2.1, (m.1.2.1.2.2.1, m.1.2.1.2.2.2))), ((m.1.2.2.1.1, (m.1.2.2.1.2.1, m.1.2.2.1.2.2)), (m.1.2.2.2.1, (m.1.2.2.2.2.1, m.1.2.2.2.2.2))))), ((((m.2.1.1.1.1, m.2.1.1.1.2), (m.2.1.1.2.1, (m.2.1.1.2.2.1, m.2.1.1.2.2.2))), ((m.2.1.2.1.1, m.2.1.2.1.2), (m.2.1.2.2.1, (m.2.1.2.2.2.1, m.2.1.2.2.2.2)))), (((m.2.2.1.1.1, m.2.2.1.1.2), (m.2.2.1.2.1, (m.2.2.1.2.2.1, m.2.2.1.2.2.2))), ((m.2.2.2.1.1, (m.2.2.2.1.2.1, m.2.2.2.1.2.2)), (m.2.2.2.2.1, (m.2.2.2.2.2.1, m.2.2.2.2.2.2)))))) c1 ∧ w.2.2.2.2.2.2.2.2.1 ≤ p ∧ p ≤ w.2.2.2.2.2.1 ∧ WS w.1 x1 p v ∧ (p = w.2.2.2.2.2.2.2.2.1 → (12 : Int32) ≤ x4 ∨ ¬ lt (txat w.1 w.2.2.2.2.2.1 w.2.2.2.2.2.2.2.2.1)) := by
  intro n
  induction n with
  | zero => intro w x1 x2 x4 m c1 n' K post K' post' hC; exact False.elim hC
  | succ n ih =>
    intro w x1 x2 x4 m c1 n' K post K' post' hC hM lm eb ex b0 bp ws
    cases n' with
    | zero => exact False.elim hM
    | succ n' =>
    have hb := LM_at lm
    obtain ⟨e1, e2, e3, e4, s0, s1, l9⟩ := lm
    have exm : x4 = m.1.1.1.2.1 - m.1.1.2.1.1 := by rw [eb, ← e3]; exact ex
    have em := mo_eta1 e3
    have d12 := dif12 b0 bp (Int32.le_trans s1 l9)
    rw [← ex] at d12
    rw [wp_Wd_splitLetters_L10] at hC
    rw [wp_Mo_go_L124] at hM
    replace hM := iv_Mo_at hM
    rw [hb] at hM
    have halt : (12 : Int32) ≤ x4 ∨ (¬ lt (txat w.1 w.2.2.2.2.2.1 w.2.2.2.2.2.2.2.2.1) ∧ ¬ dg (txat w.1 w.2.2.2.2.2.1 w.2.2.2.2.2.2.2.2.1)) → K' m c1 := by
      intro q
      rcases iv_Mo_isLetter hM with ⟨d, hM⟩ | ⟨d, hM⟩
      · exact (hM.2 (by decide)).1 (by rw [← exm]; exact q.elim id (fun q => absurd d q.1))
      · replace hM := iv_Mo_at (hM.1 rfl)
        rw [hb] at hM
        rcases iv_Mo_isDigit hM with ⟨d', hM⟩ | ⟨d', hM⟩
        · exact (hM.2 (by decide)).1 (by rw [← exm]; exact q.elim id (fun q => absurd d' q.2))
        · exact hM.1 rfl
    by_cases c : (12 : Int32) ≤ x4
    · exact ⟨w.2.2.2.2.2.2.2.2.1, x2, x4, hC.1 c, em.symm ▸ (halt (Or.inl c)), Int32.le_refl _, s1, ws, fun _ => Or.inl c⟩
    · have go1 : ∀ r : Int32, r.toInt = rkI (txat w.1 w.2.2.2.2.2.1 w.2.2.2.2.2.2.2.2.1) → (lt (txat w.1 w.2.2.2.2.2.1 w.2.2.2.2.2.2.2.2.1) ∨ dg (txat w.1 w.2.2.2.2.2.1 w.2.2.2.2.2.2.2.2.1)) → wp_Wd_splitLetters_L10 kw K post n (w.1, w.2.1, w.2.2.1, w.2.2.2.1, w.2.2.2.2.1, w.2.2.2.2.2.1, w.2.2.2.2.2.2.1, w.2.2.2.2.2.2.2.1, (w.2.2.2.2.2.2.2.2.1 + (1 : Int32)), w.2.2.2.2.2.2.2.2.2.1, w.2.2.2.2.2.2.2.2.2.2.1, w.2.2.2.2.2.2.2.2.2.2.2.1, w.2.2.2.2.2.2.2.2.2.2.2.2.1, w.2.2.2.2.2.2.2.2.2.2.2.2.2) x1 ((x2 * (37 : Int64)) + r.toInt64) (x4 + (1 : Int32)) → ∃ p v x, K (w.1, w.2.1, w.2.2.1, w.2.2.2.1, w.2.2.2.2.1, w.2.2.2.2.2.1, w.2.2.2.2.2.2.1, w.2.2.2.2.2.2.2.1, p, w.2.2.2.2.2.2.2.2.2.1, w.2.2.2.2.2.2.2.2.2.2.1, w.2.2.2.2.2.2.2.2.2.2.2.1, w.2.2.2.2.2.2.2.2.2.2.2.2.1, w.2.2.2.2.2.2.2.2.2.2.2.2.2) x1 v x ∧ K' (((((m.1.1.1.1.1, m.1.1.1.1.2), (p, (m.1.1.1.2.2.1, m.1.1.1.2.2.2))), ((m.1.1.2.1.1, m.1.1.2.1.2), (m.1.1.2.2.1, (m.1.1.2.2.2.1, m.1.1.2.2.2.2)))), (((m.1.2.1.1.1, m.1.2.1.1.2), (m.1.2.1.2.1, (m.1.2.1.2.2.1, m.1.2.1.2.2.2))), ((m.1.2.2.1.1, (m.1.2.2.1.2.1, m.1.2.2.1.2.2)), (m.1.2.2.2.1, (m.1.2.2.2.2.1, m.1.2.2.2.2.2))))), ((((m.2.1.1.1.1, m.2.1.1.1.2), (m.2.1.1.2.1, (m.2.1.1.2.2.1, m.2.1.1.2.2.2))), ((m.2.1.2.1.1, m.2.1.2.1.2), (m.2.1.2.2.1, (m.2.1.2.2.2.1, m.2.1.2.2.2.2)))), (((m.2.2.1.1.1, m.2.2.1.1.2), (m.2.2.1.2.1, (m.2.2.1.2.2.1, m.2.2.1.2.2.2))), ((m.2.2.2.1.1, (m.2.2.2.1.2.1, m.2.2.2.1.2.2)), (m.2.2.2.2.1, (m.2.2.2.2.2.1, m.2.2.2.2.2.2)))))) c1 ∧ w.2.2.2.2.2.2.2.2.1 ≤ p ∧ p ≤ w.2.2.2.2.2.1 ∧ WS w.1 x1 p v ∧ (p = w.2.2.2.2.2.2.2.2.1 → (12 : Int32) ≤ x4 ∨ ¬ lt (txat w.1 w.2.2.2.2.2.1 w.2.2.2.2.2.2.2.2.1)) := by
        intro r hr l hC
        have nz : ¬ txat w.1 w.2.2.2.2.2.1 w.2.2.2.2.2.2.2.2.1 = 0 := fun q => by
          rw [q] at l; unfold lt dg at l; exact l.elim (fun l => absurd l.1 (by decide)) (fun l => absurd l.1 (by decide))
        have pin := txat_in nz
        have up := up_le s0 pin l9
        have hM2 : wp_Mo_go_L124 K' post' n' (((((m.1.1.1.1.1, m.1.1.1.1.2), ((m.1.1.1.2.1 + (1 : Int32)), (m.1.1.1.2.2.1, m.1.1.1.2.2.2))), ((m.1.1.2.1.1, m.1.1.2.1.2), (m.1.1.2.2.1, (m.1.1.2.2.2.1, m.1.1.2.2.2.2)))), (((m.1.2.1.1.1, m.1.2.1.1.2), (m.1.2.1.2.1, (m.1.2.1.2.2.1, m.1.2.1.2.2.2))), ((m.1.2.2.1.1, (m.1.2.2.1.2.1, m.1.2.2.1.2.2)), (m.1.2.2.2.1, (m.1.2.2.2.2.1, m.1.2.2.2.2.2))))), ((((m.2.1.1.1.1, m.2.1.1.1.2), (m.2.1.1.2.1, (m.2.1.1.2.2.1, m.2.1.1.2.2.2))), ((m.2.1.2.1.1, m.2.1.2.1.2), (m.2.1.2.2.1, (m.2.1.2.2.2.1, m.2.1.2.2.2.2)))), (((m.2.2.1.1.1, m.2.2.1.1.2), (m.2.2.1.2.1, (m.2.2.1.2.2.1, m.2.2.1.2.2.2))), ((m.2.2.2.1.1, (m.2.2.2.1.2.1, m.2.2.2.1.2.2)), (m.2.2.2.2.1, (m.2.2.2.2.2.1, m.2.2.2.2.2.2)))))) c1 := by
          rcases iv_Mo_isLetter hM with ⟨d, hM⟩ | ⟨d, hM⟩
          · exact (hM.2 (by decide)).2 (by rw [← exm]; exact c)
          · replace hM := iv_Mo_at (hM.1 rfl)
            rw [hb] at hM
            rcases iv_Mo_isDigit hM with ⟨d', hM⟩ | ⟨d', hM⟩
            · exact (hM.2 (by decide)).2 (by rw [← exm]; exact c)
            · exact absurd (l.resolve_left d) d'
        obtain ⟨p, v, x, k1, k2, k3, k4, k5, k6⟩ := ih _ _ _ _ _ _ _ _ _ _ _ hC hM2 ⟨e1, e2, congrArg (· + (1 : Int32)) e3, e4, up.1, up.2.1, l9⟩ eb (sub_up ex) b0 (Int32.le_trans bp up.2.2) (WS_step ws b0 bp pin l9 l (by have := mt d12.1.mpr c; omega) hr)
        exact ⟨p, v, x, k1, k2, Int32.le_trans up.2.2 k3, k4, k5, fun q => absurd q (by grind)⟩
      replace hC := iv_Wd_byteAt (hC.2 c) s0 l9
      rcases iv_Kw_rank hC with ⟨q, hC⟩ | ⟨q, hC⟩ | ⟨q, hC⟩
      · replace hC := iv_Wd_byteAt (hC.2 (rk_pos q)) s0 l9
        rcases iv_Kw_rank hC with ⟨-, hC⟩ | ⟨q2, hC⟩ | ⟨q2, hC⟩
        · exact go1 _ (rk_lt q) (Or.inl q) hC
        · exact (lt_dg q q2).elim
        · exact absurd q q2.1
      · replace hC := iv_Wd_byteAt (hC.2 (rk_posd q)) s0 l9
        rcases iv_Kw_rank hC with ⟨q2, hC⟩ | ⟨-, hC⟩ | ⟨q2, hC⟩
        · exact (lt_dg q2 q).elim
        · exact go1 _ (rk_dg q) (Or.inr q) hC
        · exact absurd q q2.2
      · exact ⟨w.2.2.2.2.2.2.2.2.1, x2, x4, hC.1 (by decide), em.symm ▸ (halt (Or.inr q)), Int32.le_refl _, s1, ws, fun _ => Or.inr q.1⟩
/-- the bytes of a word's number, as the reference has it -/
def WB : Int64 → List Int32 → Prop
  | x, [] => lg_cmp x (0 : Int64) = 0
  | x, c :: t => ¬ lg_cmp x (0 : Int64) = 0 ∧ (x &&& (255 : Int64)).toInt32 = c ∧ WB (((x).toUInt64 >>> (((8 : Int32)).toInt64.toUInt64 &&& Int64.toUInt64 63)).toInt64) t
theorem rl_is {m : T_Mo} {post : Int32 → Unit → Prop} (e9 : m.1.1.2.1.2 ≤ 4000) : ∀ (l : List Int32) (n : Nat) (x1 : Int64) (x3 : Int32) (x4 : Int64), WB x4 l → wp_Mo_is_L8 m (fun (x1 : Int64) (x3 : Int32) (x4 : Int64) => (x3 = m.1.1.2.1.2 → (post (1 : Int32) ())) ∧ (¬ x3 = m.1.1.2.1.2 → (post (0 : Int32) ()))) post n x1 x3 x4 → (0 : Int32) ≤ x3 → x3 ≤ m.1.1.2.1.2 → (fs m.1.1.1.1.1 x3.toNatClampNeg (m.1.1.2.1.2.toNatClampNeg - x3.toNatClampNeg) = l ∧ post 1 ()) ∨ (¬ fs m.1.1.1.1.1 x3.toNatClampNeg (m.1.1.2.1.2.toNatClampNeg - x3.toNatClampNeg) = l ∧ post 0 ()) := by
  intro l
  induction l with
  | nil =>
    intro n x1 x3 x4 wb h x0 xe
    cases n with
    | zero => exact False.elim h
    | succ n =>
    rw [wp_Mo_is_L8] at h
    replace h := h.1 wb
    by_cases c : x3 = m.1.1.2.1.2
    · refine Or.inl ⟨?_, h.1 c⟩
      rw [c, Nat.sub_self]; rfl
    · refine Or.inr ⟨fun q => ?_, h.2 c⟩
      have ql := congrArg List.length q
      rw [fs_len] at ql
      apply c
      rw [Int32.le_iff_toInt_le] at x0 xe
      have e0 : (0 : Int32).toInt = 0 := rfl
      have ql2 : m.1.1.2.1.2.toInt.toNat - x3.toInt.toNat = 0 := ql
      exact Int32.toInt_inj.mp (by omega)
  | cons b t ih =>
    intro n x1 x3 x4 wb h x0 xe
    cases n with
    | zero => exact False.elim h
    | succ n =>
    obtain ⟨w1, w2, w3⟩ := wb
    rw [wp_Mo_is_L8] at h
    replace h := h.2 w1
    by_cases c : m.1.1.2.1.2 ≤ x3
    · refine Or.inr ⟨fun q => ?_, h.1 c⟩
      have := ix_le c
      rw [show m.1.1.2.1.2.toNatClampNeg - x3.toNatClampNeg = 0 by omega] at q
      exact List.cons_ne_nil _ _ q.symm
    · have up := up_le x0 (Int32.not_le.mp c) e9
      have eu := ix_up x0 (Int32.lt_of_lt_of_le (Int32.not_le.mp c) e9)
      have le := ix_le up.2.1
      replace h := (h.2 c).2
      rw [w2] at h
      have sp : m.1.1.2.1.2.toNatClampNeg - x3.toNatClampNeg = (m.1.1.2.1.2.toNatClampNeg - (x3 + (1 : Int32)).toNatClampNeg) + 1 := by rw [eu] at le ⊢; omega
      rw [sp, fs, ← eu]
      by_cases d : m.1.1.1.1.1 x3.toNatClampNeg = b
      · rcases ih _ _ _ _ w3 (h.1 d) up.1 up.2.1 with ⟨q, h⟩ | ⟨q, h⟩
        · exact Or.inl ⟨by rw [q, d], h⟩
        · exact Or.inr ⟨fun z => q (List.cons.inj z).2, h⟩
      · exact Or.inr ⟨fun z => d (List.cons.inj z).1, h.2 d⟩
/-- the word that the reference holds -/
def wo (m : T_Mo) : List Int32 := fs m.1.1.1.1.1 m.1.1.2.1.1.toNatClampNeg (m.1.1.2.1.2.toNatClampNeg - m.1.1.2.1.1.toNatClampNeg)
def LB (m : T_Mo) : Prop := (0 : Int32) ≤ m.1.1.2.1.1 ∧ m.1.1.2.1.1 ≤ m.1.1.2.1.2 ∧ m.1.1.2.1.2 ≤ 4000
theorem iv_is {m : T_Mo} {x : Int64} {l : List Int32} {P : Int32 → Unit → Prop} (lb : LB m) (wb : WB x l) (h : wp_Mo_is m x P) : (wo m = l ∧ P 1 ()) ∨ (¬ wo m = l ∧ P 0 ()) := by
  unfold wp_Mo_is at h
  obtain ⟨n, h⟩ := h
  exact rl_is lb.2.2 _ _ _ _ _ wb h lb.1 lb.2.1

theorem WB_set : WB 7628147 [115, 101, 116] := ⟨by decide, by decide, ⟨by decide, by decide, ⟨by decide, by decide, by unfold WB; decide⟩⟩⟩
theorem WB_wait : WB 1953063287 [119, 97, 105, 116] := ⟨by decide, by decide, ⟨by decide, by decide, ⟨by decide, by decide, ⟨by decide, by decide, by unfold WB; decide⟩⟩⟩⟩
theorem WB_until : WB 465625706101 [117, 110, 116, 105, 108] := ⟨by decide, by decide, ⟨by decide, by decide, ⟨by decide, by decide, ⟨by decide, by decide, ⟨by decide, by decide, by unfold WB; decide⟩⟩⟩⟩⟩
theorem WB_ramp : WB 1886216562 [114, 97, 109, 112] := ⟨by decide, by decide, ⟨by decide, by decide, ⟨by decide, by decide, ⟨by decide, by decide, by unfold WB; decide⟩⟩⟩⟩
theorem WB_par : WB 7496048 [112, 97, 114] := ⟨by decide, by decide, ⟨by decide, by decide, ⟨by decide, by decide, by unfold WB; decide⟩⟩⟩
theorem WB_if : WB 26217 [105, 102] := ⟨by decide, by decide, ⟨by decide, by decide, by unfold WB; decide⟩⟩
theorem WB_repeat : WB 127961662514546 [114, 101, 112, 101, 97, 116] := ⟨by decide, by decide, ⟨by decide, by decide, ⟨by decide, by decide, ⟨by decide, by decide, ⟨by decide, by decide, ⟨by decide, by decide, by unfold WB; decide⟩⟩⟩⟩⟩⟩
theorem WB_limit : WB 499984984428 [108, 105, 109, 105, 116] := ⟨by decide, by decide, ⟨by decide, by decide, ⟨by decide, by decide, ⟨by decide, by decide, ⟨by decide, by decide, by unfold WB; decide⟩⟩⟩⟩⟩
theorem WB_ask : WB 7041889 [97, 115, 107] := ⟨by decide, by decide, ⟨by decide, by decide, ⟨by decide, by decide, by unfold WB; decide⟩⟩⟩
theorem WB_do : WB 28516 [100, 111] := ⟨by decide, by decide, ⟨by decide, by decide, by unfold WB; decide⟩⟩
theorem WB_stop : WB 1886352499 [115, 116, 111, 112] := ⟨by decide, by decide, ⟨by decide, by decide, ⟨by decide, by decide, ⟨by decide, by decide, by unfold WB; decide⟩⟩⟩⟩
theorem WB_hold : WB 1684828008 [104, 111, 108, 100] := ⟨by decide, by decide, ⟨by decide, by decide, ⟨by decide, by decide, ⟨by decide, by decide, by unfold WB; decide⟩⟩⟩⟩
theorem WB_act : WB 7627617 [97, 99, 116] := ⟨by decide, by decide, ⟨by decide, by decide, ⟨by decide, by decide, by unfold WB; decide⟩⟩⟩
theorem WB_signal : WB 119165719898483 [115, 105, 103, 110, 97, 108] := ⟨by decide, by decide, ⟨by decide, by decide, ⟨by decide, by decide, ⟨by decide, by decide, ⟨by decide, by decide, ⟨by decide, by decide, by unfold WB; decide⟩⟩⟩⟩⟩⟩
theorem WB_output : WB 128047746676079 [111, 117, 116, 112, 117, 116] := ⟨by decide, by decide, ⟨by decide, by decide, ⟨by decide, by decide, ⟨by decide, by decide, ⟨by decide, by decide, ⟨by decide, by decide, by unfold WB; decide⟩⟩⟩⟩⟩⟩
theorem WB_step : WB 1885697139 [115, 116, 101, 112] := ⟨by decide, by decide, ⟨by decide, by decide, ⟨by decide, by decide, ⟨by decide, by decide, by unfold WB; decide⟩⟩⟩⟩
theorem WB_in : WB 28265 [105, 110] := ⟨by decide, by decide, ⟨by decide, by decide, by unfold WB; decide⟩⟩
theorem WB_else : WB 1702063205 [101, 108, 115, 101] := ⟨by decide, by decide, ⟨by decide, by decide, ⟨by decide, by decide, ⟨by decide, by decide, by unfold WB; decide⟩⟩⟩⟩
theorem WB_then : WB 1852139636 [116, 104, 101, 110] := ⟨by decide, by decide, ⟨by decide, by decide, ⟨by decide, by decide, ⟨by decide, by decide, by unfold WB; decide⟩⟩⟩⟩
theorem WB_l : WB 108 [108] := ⟨by decide, by decide, by unfold WB; decide⟩
theorem WB_c : WB 99 [99] := ⟨by decide, by decide, by unfold WB; decide⟩
theorem WB_s : WB 115 [115] := ⟨by decide, by decide, by unfold WB; decide⟩
theorem WB_bar : WB 7496034 [98, 97, 114] := ⟨by decide, by decide, ⟨by decide, by decide, ⟨by decide, by decide, by unfold WB; decide⟩⟩⟩
theorem WB_part : WB 1953653104 [112, 97, 114, 116] := ⟨by decide, by decide, ⟨by decide, by decide, ⟨by decide, by decide, ⟨by decide, by decide, by unfold WB; decide⟩⟩⟩⟩
theorem WB_min : WB 7235949 [109, 105, 110] := ⟨by decide, by decide, ⟨by decide, by decide, ⟨by decide, by decide, by unfold WB; decide⟩⟩⟩
theorem WB_h : WB 104 [104] := ⟨by decide, by decide, by unfold WB; decide⟩
def mn3 (l : List Int32) : Int32 := if l = [101, 108, 115, 101] then 33 else if l = [116, 104, 101, 110] then 34 else if l = [108] then 40 else if l = [99] then 41 else if l = [115] then 42 else if l = [98, 97, 114] then 43 else if l = [112, 97, 114, 116] then 44 else if l = [109, 105, 110] then 45 else if l = [104] then 46 else -1
def mn2 (l : List Int32) : Int32 := if l = [97, 115, 107] then 18 else if l = [100, 111] then 19 else if l = [115, 116, 111, 112] then 20 else if l = [104, 111, 108, 100] then 21 else if l = [97, 99, 116] then 22 else if l = [115, 116, 101, 112] then 24 else if l = [115, 105, 103, 110, 97, 108] then 30 else if l = [111, 117, 116, 112, 117, 116] then 31 else if l = [105, 110] then 32 else mn3 l
def mn1 (l : List Int32) : Int32 := if l = [115, 101, 116] then 10 else if l = [119, 97, 105, 116] then 11 else if l = [117, 110, 116, 105, 108] then 12 else if l = [114, 97, 109, 112] then 13 else if l = [112, 97, 114] then 14 else if l = [105, 102] then 15 else if l = [114, 101, 112, 101, 97, 116] then 16 else if l = [108, 105, 109, 105, 116] then 17 else mn2 l
def cdK (l : List Int32) : Int32 := if l = [115, 101, 116] then 200 else if l = [119, 97, 105, 116] then 201 else if l = [117, 110, 116, 105, 108] then 202 else if l = [114, 97, 109, 112] then 203 else if l = [112, 97, 114] then 204 else if l = [105, 102] then 205 else if l = [114, 101, 112, 101, 97, 116] then 206 else if l = [108, 105, 109, 105, 116] then 207 else if l = [97, 115, 107] then 208 else if l = [100, 111] then 209 else if l = [115, 116, 111, 112] then 210 else if l = [104, 111, 108, 100] then 211 else if l = [97, 99, 116] then 212 else if l = [115, 105, 103, 110, 97, 108] then 213 else if l = [111, 117, 116, 112, 117, 116] then 214 else if l = [115, 116, 101, 112] then 215 else if l = [105, 110] then 216 else if l = [101, 108, 115, 101] then 217 else if l = [116, 104, 101, 110] then 218 else if l = [108] then 219 else if l = [99] then 220 else if l = [115] then 221 else if l = [98, 97, 114] then 222 else if l = [112, 97, 114, 116] then 223 else if l = [109, 105, 110] then 224 else if l = [104] then 225 else 128
theorem iv_J395 {m : T_Mo} {x1 x2 y0 : Int32} {P : Int32 → Unit → Prop} (h : wp_Mo_meaning_J395 m P x1 x2 y0) : P (if x1 = -1 then (if x2 = -1 then y0 else x2) else x1) () := by
  unfold wp_Mo_meaning_J395 wp_Mo_meaning_J415 at h
  by_cases a : x1 = -1
  · rw [if_pos a]
    by_cases b : x2 = -1
    · rw [if_pos b]; exact (h.1 a).1 b
    · rw [if_neg b]; exact (h.1 a).2 b
  · rw [if_neg a]; exact h.2 a
theorem iv_J258 {m : T_Mo} {x1 y0 : Int32} {P : Int32 → Unit → Prop} (lb : LB m) (h : wp_Mo_meaning_J258 m P x1 y0) : P (if x1 = -1 then (if y0 = -1 then mn3 (wo m) else y0) else x1) () := by
  unfold wp_Mo_meaning_J258 at h
  rcases iv_is lb WB_else h with ⟨q0, h⟩ | ⟨q0, h⟩
  · replace h := iv_J395 (h.2 (by decide))
    have e : mn3 (wo m) = 33 := by unfold mn3; rw [if_pos q0]
    rw [e]; exact h
  · replace h := h.1 rfl
    rcases iv_is lb WB_then h with ⟨q1, h⟩ | ⟨q1, h⟩
    · replace h := iv_J395 (h.2 (by decide))
      have e : mn3 (wo m) = 34 := by unfold mn3; rw [if_neg q0, if_pos q1]
      rw [e]; exact h
    · replace h := h.1 rfl
      rcases iv_is lb WB_l h with ⟨q2, h⟩ | ⟨q2, h⟩
      · replace h := iv_J395 (h.2 (by decide))
        have e : mn3 (wo m) = 40 := by unfold mn3; rw [if_neg q0, if_neg q1, if_pos q2]
        rw [e]; exact h
      · replace h := h.1 rfl
        rcases iv_is lb WB_c h with ⟨q3, h⟩ | ⟨q3, h⟩
        · replace h := iv_J395 (h.2 (by decide))
          have e : mn3 (wo m) = 41 := by unfold mn3; rw [if_neg q0, if_neg q1, if_neg q2, if_pos q3]
          rw [e]; exact h
        · replace h := h.1 rfl
          rcases iv_is lb WB_s h with ⟨q4, h⟩ | ⟨q4, h⟩
          · replace h := iv_J395 (h.2 (by decide))
            have e : mn3 (wo m) = 42 := by unfold mn3; rw [if_neg q0, if_neg q1, if_neg q2, if_neg q3, if_pos q4]
            rw [e]; exact h
          · replace h := h.1 rfl
            rcases iv_is lb WB_bar h with ⟨q5, h⟩ | ⟨q5, h⟩
            · replace h := iv_J395 (h.2 (by decide))
              have e : mn3 (wo m) = 43 := by unfold mn3; rw [if_neg q0, if_neg q1, if_neg q2, if_neg q3, if_neg q4, if_pos q5]
              rw [e]; exact h
            · replace h := h.1 rfl
              rcases iv_is lb WB_part h with ⟨q6, h⟩ | ⟨q6, h⟩
              · replace h := iv_J395 (h.2 (by decide))
                have e : mn3 (wo m) = 44 := by unfold mn3; rw [if_neg q0, if_neg q1, if_neg q2, if_neg q3, if_neg q4, if_neg q5, if_pos q6]
                rw [e]; exact h
              · replace h := h.1 rfl
                rcases iv_is lb WB_min h with ⟨q7, h⟩ | ⟨q7, h⟩
                · replace h := iv_J395 (h.2 (by decide))
                  have e : mn3 (wo m) = 45 := by unfold mn3; rw [if_neg q0, if_neg q1, if_neg q2, if_neg q3, if_neg q4, if_neg q5, if_neg q6, if_pos q7]
                  rw [e]; exact h
                · replace h := h.1 rfl
                  rcases iv_is lb WB_h h with ⟨q8, h⟩ | ⟨q8, h⟩
                  · replace h := iv_J395 (h.2 (by decide))
                    have e : mn3 (wo m) = 46 := by unfold mn3; rw [if_neg q0, if_neg q1, if_neg q2, if_neg q3, if_neg q4, if_neg q5, if_neg q6, if_neg q7, if_pos q8]
                    rw [e]; exact h
                  · replace h := h.1 rfl
                    replace h := iv_J395 h
                    have e : mn3 (wo m) = -1 := by unfold mn3; rw [if_neg q0, if_neg q1, if_neg q2, if_neg q3, if_neg q4, if_neg q5, if_neg q6, if_neg q7, if_neg q8]
                    rw [e]; exact h
theorem iv_J121 {m : T_Mo} {y0 : Int32} {P : Int32 → Unit → Prop} (lb : LB m) (h : wp_Mo_meaning_J121 m P y0) : P (if y0 = -1 then mn2 (wo m) else y0) () := by
  unfold wp_Mo_meaning_J121 at h
  rcases iv_is lb WB_ask h with ⟨q0, h⟩ | ⟨q0, h⟩
  · replace h := iv_J258 lb (h.2 (by decide))
    have e : mn2 (wo m) = 18 := by unfold mn2; rw [if_pos q0]
    rw [e]; by_cases a : y0 = -1
    · rw [if_pos a, if_neg (by decide)] at h; rw [if_pos a]; exact h
    · rw [if_neg a] at h ⊢; exact h
  · replace h := h.1 rfl
    rcases iv_is lb WB_do h with ⟨q1, h⟩ | ⟨q1, h⟩
    · replace h := iv_J258 lb (h.2 (by decide))
      have e : mn2 (wo m) = 19 := by unfold mn2; rw [if_neg q0, if_pos q1]
      rw [e]; by_cases a : y0 = -1
      · rw [if_pos a, if_neg (by decide)] at h; rw [if_pos a]; exact h
      · rw [if_neg a] at h ⊢; exact h
    · replace h := h.1 rfl
      rcases iv_is lb WB_stop h with ⟨q2, h⟩ | ⟨q2, h⟩
      · replace h := iv_J258 lb (h.2 (by decide))
        have e : mn2 (wo m) = 20 := by unfold mn2; rw [if_neg q0, if_neg q1, if_pos q2]
        rw [e]; by_cases a : y0 = -1
        · rw [if_pos a, if_neg (by decide)] at h; rw [if_pos a]; exact h
        · rw [if_neg a] at h ⊢; exact h
      · replace h := h.1 rfl
        rcases iv_is lb WB_hold h with ⟨q3, h⟩ | ⟨q3, h⟩
        · replace h := iv_J258 lb (h.2 (by decide))
          have e : mn2 (wo m) = 21 := by unfold mn2; rw [if_neg q0, if_neg q1, if_neg q2, if_pos q3]
          rw [e]; by_cases a : y0 = -1
          · rw [if_pos a, if_neg (by decide)] at h; rw [if_pos a]; exact h
          · rw [if_neg a] at h ⊢; exact h
        · replace h := h.1 rfl
          rcases iv_is lb WB_act h with ⟨q4, h⟩ | ⟨q4, h⟩
          · replace h := iv_J258 lb (h.2 (by decide))
            have e : mn2 (wo m) = 22 := by unfold mn2; rw [if_neg q0, if_neg q1, if_neg q2, if_neg q3, if_pos q4]
            rw [e]; by_cases a : y0 = -1
            · rw [if_pos a, if_neg (by decide)] at h; rw [if_pos a]; exact h
            · rw [if_neg a] at h ⊢; exact h
          · replace h := h.1 rfl
            rcases iv_is lb WB_step h with ⟨q5, h⟩ | ⟨q5, h⟩
            · replace h := iv_J258 lb (h.2 (by decide))
              have e : mn2 (wo m) = 24 := by unfold mn2; rw [if_neg q0, if_neg q1, if_neg q2, if_neg q3, if_neg q4, if_pos q5]
              rw [e]; by_cases a : y0 = -1
              · rw [if_pos a, if_neg (by decide)] at h; rw [if_pos a]; exact h
              · rw [if_neg a] at h ⊢; exact h
            · replace h := h.1 rfl
              rcases iv_is lb WB_signal h with ⟨q6, h⟩ | ⟨q6, h⟩
              · replace h := iv_J258 lb (h.2 (by decide))
                have e : mn2 (wo m) = 30 := by unfold mn2; rw [if_neg q0, if_neg q1, if_neg q2, if_neg q3, if_neg q4, if_neg q5, if_pos q6]
                rw [e]; by_cases a : y0 = -1
                · rw [if_pos a, if_neg (by decide)] at h; rw [if_pos a]; exact h
                · rw [if_neg a] at h ⊢; exact h
              · replace h := h.1 rfl
                rcases iv_is lb WB_output h with ⟨q7, h⟩ | ⟨q7, h⟩
                · replace h := iv_J258 lb (h.2 (by decide))
                  have e : mn2 (wo m) = 31 := by unfold mn2; rw [if_neg q0, if_neg q1, if_neg q2, if_neg q3, if_neg q4, if_neg q5, if_neg q6, if_pos q7]
                  rw [e]; by_cases a : y0 = -1
                  · rw [if_pos a, if_neg (by decide)] at h; rw [if_pos a]; exact h
                  · rw [if_neg a] at h ⊢; exact h
                · replace h := h.1 rfl
                  rcases iv_is lb WB_in h with ⟨q8, h⟩ | ⟨q8, h⟩
                  · replace h := iv_J258 lb (h.2 (by decide))
                    have e : mn2 (wo m) = 32 := by unfold mn2; rw [if_neg q0, if_neg q1, if_neg q2, if_neg q3, if_neg q4, if_neg q5, if_neg q6, if_neg q7, if_pos q8]
                    rw [e]; by_cases a : y0 = -1
                    · rw [if_pos a, if_neg (by decide)] at h; rw [if_pos a]; exact h
                    · rw [if_neg a] at h ⊢; exact h
                  · replace h := h.1 rfl
                    replace h := iv_J258 lb h
                    have e : mn2 (wo m) = mn3 (wo m) := by unfold mn2; rw [if_neg q0, if_neg q1, if_neg q2, if_neg q3, if_neg q4, if_neg q5, if_neg q6, if_neg q7, if_neg q8]
                    rw [if_pos rfl] at h
                    rw [e]; exact h
theorem iv_meaning {m : T_Mo} {P : Int32 → Unit → Prop} (lb : LB m) (h : wp_Mo_meaning m P) : P (mn1 (wo m)) () := by
  unfold wp_Mo_meaning at h
  rcases iv_is lb WB_set h with ⟨q0, h⟩ | ⟨q0, h⟩
  · replace h := iv_J121 lb (h.2 (by decide))
    have e : mn1 (wo m) = 10 := by unfold mn1; rw [if_pos q0]
    rw [if_neg (by decide)] at h; rw [e]; exact h
  · replace h := h.1 rfl
    rcases iv_is lb WB_wait h with ⟨q1, h⟩ | ⟨q1, h⟩
    · replace h := iv_J121 lb (h.2 (by decide))
      have e : mn1 (wo m) = 11 := by unfold mn1; rw [if_neg q0, if_pos q1]
      rw [if_neg (by decide)] at h; rw [e]; exact h
    · replace h := h.1 rfl
      rcases iv_is lb WB_until h with ⟨q2, h⟩ | ⟨q2, h⟩
      · replace h := iv_J121 lb (h.2 (by decide))
        have e : mn1 (wo m) = 12 := by unfold mn1; rw [if_neg q0, if_neg q1, if_pos q2]
        rw [if_neg (by decide)] at h; rw [e]; exact h
      · replace h := h.1 rfl
        rcases iv_is lb WB_ramp h with ⟨q3, h⟩ | ⟨q3, h⟩
        · replace h := iv_J121 lb (h.2 (by decide))
          have e : mn1 (wo m) = 13 := by unfold mn1; rw [if_neg q0, if_neg q1, if_neg q2, if_pos q3]
          rw [if_neg (by decide)] at h; rw [e]; exact h
        · replace h := h.1 rfl
          rcases iv_is lb WB_par h with ⟨q4, h⟩ | ⟨q4, h⟩
          · replace h := iv_J121 lb (h.2 (by decide))
            have e : mn1 (wo m) = 14 := by unfold mn1; rw [if_neg q0, if_neg q1, if_neg q2, if_neg q3, if_pos q4]
            rw [if_neg (by decide)] at h; rw [e]; exact h
          · replace h := h.1 rfl
            rcases iv_is lb WB_if h with ⟨q5, h⟩ | ⟨q5, h⟩
            · replace h := iv_J121 lb (h.2 (by decide))
              have e : mn1 (wo m) = 15 := by unfold mn1; rw [if_neg q0, if_neg q1, if_neg q2, if_neg q3, if_neg q4, if_pos q5]
              rw [if_neg (by decide)] at h; rw [e]; exact h
            · replace h := h.1 rfl
              rcases iv_is lb WB_repeat h with ⟨q6, h⟩ | ⟨q6, h⟩
              · replace h := iv_J121 lb (h.2 (by decide))
                have e : mn1 (wo m) = 16 := by unfold mn1; rw [if_neg q0, if_neg q1, if_neg q2, if_neg q3, if_neg q4, if_neg q5, if_pos q6]
                rw [if_neg (by decide)] at h; rw [e]; exact h
              · replace h := h.1 rfl
                rcases iv_is lb WB_limit h with ⟨q7, h⟩ | ⟨q7, h⟩
                · replace h := iv_J121 lb (h.2 (by decide))
                  have e : mn1 (wo m) = 17 := by unfold mn1; rw [if_neg q0, if_neg q1, if_neg q2, if_neg q3, if_neg q4, if_neg q5, if_neg q6, if_pos q7]
                  rw [if_neg (by decide)] at h; rw [e]; exact h
                · replace h := h.1 rfl
                  replace h := iv_J121 lb h
                  have e : mn1 (wo m) = mn2 (wo m) := by unfold mn1; rw [if_neg q0, if_neg q1, if_neg q2, if_neg q3, if_neg q4, if_neg q5, if_neg q6, if_neg q7]
                  rw [if_pos rfl] at h
                  rw [e]; exact h
/-- code of the class, token of the reference -/
def KP (c t : Int32) : Prop := (c = 128 ∧ t = 999) ∨ ((200 : Int32) ≤ c ∧ c ≤ 212 ∧ t = c + 810) ∨ (c = 213 ∧ t = 1030) ∨ (c = 214 ∧ t = 1031) ∨ (c = 215 ∧ t = 1024) ∨ (c = 216 ∧ t = 1032) ∨ (c = 217 ∧ t = 1033) ∨ (c = 218 ∧ t = 1034) ∨ ((219 : Int32) ≤ c ∧ c ≤ 223 ∧ t = c + 821) ∨ (c = 224 ∧ t = 1045) ∨ (c = 225 ∧ t = 1046)
theorem le_add810 {c : Int32} (h0 : (200 : Int32) ≤ c) (h9 : c ≤ 212) : (999 : Int32) ≤ c + 810 := by grind
theorem le_add821 {c : Int32} (h0 : (219 : Int32) ≤ c) (h9 : c ≤ 223) : (999 : Int32) ≤ c + 821 := by grind
theorem KP_b {c t : Int32} (h : KP c t) : (c = 128 ∨ (200 : Int32) ≤ c) ∧ (999 : Int32) ≤ t := by
  rcases h with ⟨a, b⟩ | ⟨a, a2, b⟩ | ⟨a, b⟩ | ⟨a, b⟩ | ⟨a, b⟩ | ⟨a, b⟩ | ⟨a, b⟩ | ⟨a, b⟩ | ⟨a, a2, b⟩ | ⟨a, b⟩ | ⟨a, b⟩
  · rw [a, b]; decide
  · rw [b]; exact ⟨Or.inr a, le_add810 a a2⟩
  · rw [a, b]; decide
  · rw [a, b]; decide
  · rw [a, b]; decide
  · rw [a, b]; decide
  · rw [a, b]; decide
  · rw [a, b]; decide
  · rw [b]; exact ⟨Or.inr (Int32.le_trans (by decide) a), le_add821 a a2⟩
  · rw [a, b]; decide
  · rw [a, b]; decide
theorem KP_nl {c t : Int32} (h : KP c t) : ¬ (c = 0 ∨ c = 131) := by
  intro q
  have b := (KP_b h).1
  rcases q with q | q <;> rw [q] at b <;> exact absurd b (by decide)
theorem KP_all (l : List Int32) : KP (cdK l) ((1000 : Int32) + mn1 l) := by
  by_cases h0 : l = [115, 101, 116]
  · subst h0; unfold KP; decide
  by_cases h1 : l = [119, 97, 105, 116]
  · subst h1; unfold KP; decide
  by_cases h2 : l = [117, 110, 116, 105, 108]
  · subst h2; unfold KP; decide
  by_cases h3 : l = [114, 97, 109, 112]
  · subst h3; unfold KP; decide
  by_cases h4 : l = [112, 97, 114]
  · subst h4; unfold KP; decide
  by_cases h5 : l = [105, 102]
  · subst h5; unfold KP; decide
  by_cases h6 : l = [114, 101, 112, 101, 97, 116]
  · subst h6; unfold KP; decide
  by_cases h7 : l = [108, 105, 109, 105, 116]
  · subst h7; unfold KP; decide
  by_cases h8 : l = [97, 115, 107]
  · subst h8; unfold KP; decide
  by_cases h9 : l = [100, 111]
  · subst h9; unfold KP; decide
  by_cases h10 : l = [115, 116, 111, 112]
  · subst h10; unfold KP; decide
  by_cases h11 : l = [104, 111, 108, 100]
  · subst h11; unfold KP; decide
  by_cases h12 : l = [97, 99, 116]
  · subst h12; unfold KP; decide
  by_cases h13 : l = [115, 105, 103, 110, 97, 108]
  · subst h13; unfold KP; decide
  by_cases h14 : l = [111, 117, 116, 112, 117, 116]
  · subst h14; unfold KP; decide
  by_cases h15 : l = [115, 116, 101, 112]
  · subst h15; unfold KP; decide
  by_cases h16 : l = [105, 110]
  · subst h16; unfold KP; decide
  by_cases h17 : l = [101, 108, 115, 101]
  · subst h17; unfold KP; decide
  by_cases h18 : l = [116, 104, 101, 110]
  · subst h18; unfold KP; decide
  by_cases h19 : l = [108]
  · subst h19; unfold KP; decide
  by_cases h20 : l = [99]
  · subst h20; unfold KP; decide
  by_cases h21 : l = [115]
  · subst h21; unfold KP; decide
  by_cases h22 : l = [98, 97, 114]
  · subst h22; unfold KP; decide
  by_cases h23 : l = [112, 97, 114, 116]
  · subst h23; unfold KP; decide
  by_cases h24 : l = [109, 105, 110]
  · subst h24; unfold KP; decide
  by_cases h25 : l = [104]
  · subst h25; unfold KP; decide
  unfold cdK mn1 mn2 mn3 KP
  rw [if_neg h0, if_neg h1, if_neg h2, if_neg h3, if_neg h4, if_neg h5, if_neg h6, if_neg h7, if_neg h8, if_neg h9, if_neg h10, if_neg h11, if_neg h12, if_neg h13, if_neg h14, if_neg h15, if_neg h16, if_neg h17, if_neg h18, if_neg h19, if_neg h20, if_neg h21, if_neg h22, if_neg h23, if_neg h24, if_neg h25, if_neg h0, if_neg h1, if_neg h2, if_neg h3, if_neg h4, if_neg h5, if_neg h6, if_neg h7, if_neg h8, if_neg h9, if_neg h10, if_neg h11, if_neg h12, if_neg h15, if_neg h13, if_neg h14, if_neg h16, if_neg h17, if_neg h18, if_neg h19, if_neg h20, if_neg h21, if_neg h22, if_neg h23, if_neg h24, if_neg h25]
  decide
def KWz (kw : T_Kw) : Prop := kw 0 = 26216 ∧ kw 1 = 1166741 ∧ kw 2 = 40094248 ∧ kw 3 = 913620 ∧ kw 4 = 21959 ∧ kw 5 = 339 ∧ kw 6 = 1258379381 ∧ kw 7 = 22963959 ∧ kw 8 = 2083 ∧ kw 9 = 163 ∧ kw 10 = 990358 ∧ kw 11 = 426207 ∧ kw 12 = 1500 ∧ kw 13 = 1334776418 ∧ kw 14 = 1080552497 ∧ kw 15 = 989988 ∧ kw 16 = 347 ∧ kw 17 = 270401 ∧ kw 18 = 1024211 ∧ kw 19 = 12 ∧ kw 20 = 3 ∧ kw 21 = 19 ∧ kw 22 = 2793 ∧ kw 23 = 812503 ∧ kw 24 = 18144 ∧ kw 25 = 8
theorem wl_set : wl [115, 101, 116] := by
  intro c hc
  simp only [List.mem_cons, List.not_mem_nil, or_false] at hc
  unfold lt dg
  rcases hc with rfl | rfl | rfl <;> decide
theorem wl_wait : wl [119, 97, 105, 116] := by
  intro c hc
  simp only [List.mem_cons, List.not_mem_nil, or_false] at hc
  unfold lt dg
  rcases hc with rfl | rfl | rfl | rfl <;> decide
theorem wl_until : wl [117, 110, 116, 105, 108] := by
  intro c hc
  simp only [List.mem_cons, List.not_mem_nil, or_false] at hc
  unfold lt dg
  rcases hc with rfl | rfl | rfl | rfl | rfl <;> decide
theorem wl_ramp : wl [114, 97, 109, 112] := by
  intro c hc
  simp only [List.mem_cons, List.not_mem_nil, or_false] at hc
  unfold lt dg
  rcases hc with rfl | rfl | rfl | rfl <;> decide
theorem wl_par : wl [112, 97, 114] := by
  intro c hc
  simp only [List.mem_cons, List.not_mem_nil, or_false] at hc
  unfold lt dg
  rcases hc with rfl | rfl | rfl <;> decide
theorem wl_if : wl [105, 102] := by
  intro c hc
  simp only [List.mem_cons, List.not_mem_nil, or_false] at hc
  unfold lt dg
  rcases hc with rfl | rfl <;> decide
theorem wl_repeat : wl [114, 101, 112, 101, 97, 116] := by
  intro c hc
  simp only [List.mem_cons, List.not_mem_nil, or_false] at hc
  unfold lt dg
  rcases hc with rfl | rfl | rfl | rfl | rfl | rfl <;> decide
theorem wl_limit : wl [108, 105, 109, 105, 116] := by
  intro c hc
  simp only [List.mem_cons, List.not_mem_nil, or_false] at hc
  unfold lt dg
  rcases hc with rfl | rfl | rfl | rfl | rfl <;> decide
theorem wl_ask : wl [97, 115, 107] := by
  intro c hc
  simp only [List.mem_cons, List.not_mem_nil, or_false] at hc
  unfold lt dg
  rcases hc with rfl | rfl | rfl <;> decide
theorem wl_do : wl [100, 111] := by
  intro c hc
  simp only [List.mem_cons, List.not_mem_nil, or_false] at hc
  unfold lt dg
  rcases hc with rfl | rfl <;> decide
theorem wl_stop : wl [115, 116, 111, 112] := by
  intro c hc
  simp only [List.mem_cons, List.not_mem_nil, or_false] at hc
  unfold lt dg
  rcases hc with rfl | rfl | rfl | rfl <;> decide
theorem wl_hold : wl [104, 111, 108, 100] := by
  intro c hc
  simp only [List.mem_cons, List.not_mem_nil, or_false] at hc
  unfold lt dg
  rcases hc with rfl | rfl | rfl | rfl <;> decide
theorem wl_act : wl [97, 99, 116] := by
  intro c hc
  simp only [List.mem_cons, List.not_mem_nil, or_false] at hc
  unfold lt dg
  rcases hc with rfl | rfl | rfl <;> decide
theorem wl_signal : wl [115, 105, 103, 110, 97, 108] := by
  intro c hc
  simp only [List.mem_cons, List.not_mem_nil, or_false] at hc
  unfold lt dg
  rcases hc with rfl | rfl | rfl | rfl | rfl | rfl <;> decide
theorem wl_output : wl [111, 117, 116, 112, 117, 116] := by
  intro c hc
  simp only [List.mem_cons, List.not_mem_nil, or_false] at hc
  unfold lt dg
  rcases hc with rfl | rfl | rfl | rfl | rfl | rfl <;> decide
theorem wl_step : wl [115, 116, 101, 112] := by
  intro c hc
  simp only [List.mem_cons, List.not_mem_nil, or_false] at hc
  unfold lt dg
  rcases hc with rfl | rfl | rfl | rfl <;> decide
theorem wl_in : wl [105, 110] := by
  intro c hc
  simp only [List.mem_cons, List.not_mem_nil, or_false] at hc
  unfold lt dg
  rcases hc with rfl | rfl <;> decide
theorem wl_else : wl [101, 108, 115, 101] := by
  intro c hc
  simp only [List.mem_cons, List.not_mem_nil, or_false] at hc
  unfold lt dg
  rcases hc with rfl | rfl | rfl | rfl <;> decide
theorem wl_then : wl [116, 104, 101, 110] := by
  intro c hc
  simp only [List.mem_cons, List.not_mem_nil, or_false] at hc
  unfold lt dg
  rcases hc with rfl | rfl | rfl | rfl <;> decide
theorem wl_l : wl [108] := by
  intro c hc
  simp only [List.mem_cons, List.not_mem_nil, or_false] at hc
  unfold lt dg
  rcases hc with rfl <;> decide
theorem wl_c : wl [99] := by
  intro c hc
  simp only [List.mem_cons, List.not_mem_nil, or_false] at hc
  unfold lt dg
  rcases hc with rfl <;> decide
theorem wl_s : wl [115] := by
  intro c hc
  simp only [List.mem_cons, List.not_mem_nil, or_false] at hc
  unfold lt dg
  rcases hc with rfl <;> decide
theorem wl_bar : wl [98, 97, 114] := by
  intro c hc
  simp only [List.mem_cons, List.not_mem_nil, or_false] at hc
  unfold lt dg
  rcases hc with rfl | rfl | rfl <;> decide
theorem wl_part : wl [112, 97, 114, 116] := by
  intro c hc
  simp only [List.mem_cons, List.not_mem_nil, or_false] at hc
  unfold lt dg
  rcases hc with rfl | rfl | rfl | rfl <;> decide
theorem wl_min : wl [109, 105, 110] := by
  intro c hc
  simp only [List.mem_cons, List.not_mem_nil, or_false] at hc
  unfold lt dg
  rcases hc with rfl | rfl | rfl <;> decide
theorem wl_h : wl [104] := by
  intro c hc
  simp only [List.mem_cons, List.not_mem_nil, or_false] at hc
  unfold lt dg
  rcases hc with rfl <;> decide
theorem pkw_set : pk [115, 101, 116] = 26216 := by decide
theorem pkw_wait : pk [119, 97, 105, 116] = 1166741 := by decide
theorem pkw_until : pk [117, 110, 116, 105, 108] = 40094248 := by decide
theorem pkw_ramp : pk [114, 97, 109, 112] = 913620 := by decide
theorem pkw_par : pk [112, 97, 114] = 21959 := by decide
theorem pkw_if : pk [105, 102] = 339 := by decide
theorem pkw_repeat : pk [114, 101, 112, 101, 97, 116] = 1258379381 := by decide
theorem pkw_limit : pk [108, 105, 109, 105, 116] = 22963959 := by decide
theorem pkw_ask : pk [97, 115, 107] = 2083 := by decide
theorem pkw_do : pk [100, 111] = 163 := by decide
theorem pkw_stop : pk [115, 116, 111, 112] = 990358 := by decide
theorem pkw_hold : pk [104, 111, 108, 100] = 426207 := by decide
theorem pkw_act : pk [97, 99, 116] = 1500 := by decide
theorem pkw_signal : pk [115, 105, 103, 110, 97, 108] = 1334776418 := by decide
theorem pkw_output : pk [111, 117, 116, 112, 117, 116] = 1080552497 := by decide
theorem pkw_step : pk [115, 116, 101, 112] = 989988 := by decide
theorem pkw_in : pk [105, 110] = 347 := by decide
theorem pkw_else : pk [101, 108, 115, 101] = 270401 := by decide
theorem pkw_then : pk [116, 104, 101, 110] = 1024211 := by decide
theorem pkw_l : pk [108] = 12 := by decide
theorem pkw_c : pk [99] = 3 := by decide
theorem pkw_s : pk [115] = 19 := by decide
theorem pkw_bar : pk [98, 97, 114] = 2793 := by decide
theorem pkw_part : pk [112, 97, 114, 116] = 812503 := by decide
theorem pkw_min : pk [109, 105, 110] = 18144 := by decide
theorem pkw_h : pk [104] = 8 := by decide
theorem lg_ne {x y : Int64} (h : ¬ x.toInt = y.toInt) : ¬ lg_cmp x y = 0 := by
  rw [lg_cmp_eq]; exact fun q => h (by rw [q])
theorem cd_step {kw : T_Kw} {K : Int64 → Int32 → Prop} {post : Int32 → Unit → Prop} {n : Nat} {v : Int64} {x y : Int32} {i : Nat} {p : Int64} (h : wp_Kw_codeOf_L2 kw K post n v x) (c : ¬ (26 : Int32) ≤ x) (hi : x.toNatClampNeg = i) (hk : kw i = p) (hy : x + (1 : Int32) = y) : (v.toInt = p.toInt ∧ post ((200 : Int32) + x) ()) ∨ (¬ v.toInt = p.toInt ∧ ∃ n', wp_Kw_codeOf_L2 kw K post n' v y) := by
  subst hy
  cases n with
  | zero => exact False.elim h
  | succ n =>
    rw [wp_Kw_codeOf_L2] at h
    replace h := (h.2 c).2
    rw [hi, hk] at h
    by_cases q : v.toInt = p.toInt
    · exact Or.inl ⟨q, h.1 (by rw [lg_cmp_eq]; exact (Int64.toInt_inj.mp q).symm)⟩
    · exact Or.inr ⟨q, n, h.2 (lg_ne (fun z => q z.symm))⟩
set_option maxHeartbeats 2000000 in
theorem iv_codeOf {kw : T_Kw} {v : Int64} {l : List Int32} {P : Int32 → Unit → Prop} (hk : KWz kw) (hl : wl l) (hv : v.toInt = pk l) (h : wp_Kw_codeOf kw v P) : P (cdK l) () := by
  unfold wp_Kw_codeOf at h
  obtain ⟨n, h⟩ := h
  unfold KWz at hk
  obtain ⟨k0, k1, k2, k3, k4, k5, k6, k7, k8, k9, k10, k11, k12, k13, k14, k15, k16, k17, k18, k19, k20, k21, k22, k23, k24, k25⟩ := hk
  rcases cd_step (y := 1) (i := 0) (p := 26216) h (by decide) rfl k0 rfl with ⟨q, h⟩ | ⟨q0, n0, h⟩
  · have e : l = [115, 101, 116] := pk_inj hl wl_set (by rw [← hv, q, pkw_set]; rfl)
    have ec : cdK l = 200 := by rw [e]; decide
    rw [ec]; exact h
  · have q0 : ¬ l = [115, 101, 116] := fun z => q0 (by rw [hv, z, pkw_set]; rfl)
    rcases cd_step (y := 2) (i := 1) (p := 1166741) h (by decide) rfl k1 rfl with ⟨q, h⟩ | ⟨q1, n1, h⟩
    · have e : l = [119, 97, 105, 116] := pk_inj hl wl_wait (by rw [← hv, q, pkw_wait]; rfl)
      have ec : cdK l = 201 := by rw [e]; decide
      rw [ec]; exact h
    · have q1 : ¬ l = [119, 97, 105, 116] := fun z => q1 (by rw [hv, z, pkw_wait]; rfl)
      rcases cd_step (y := 3) (i := 2) (p := 40094248) h (by decide) rfl k2 rfl with ⟨q, h⟩ | ⟨q2, n2, h⟩
      · have e : l = [117, 110, 116, 105, 108] := pk_inj hl wl_until (by rw [← hv, q, pkw_until]; rfl)
        have ec : cdK l = 202 := by rw [e]; decide
        rw [ec]; exact h
      · have q2 : ¬ l = [117, 110, 116, 105, 108] := fun z => q2 (by rw [hv, z, pkw_until]; rfl)
        rcases cd_step (y := 4) (i := 3) (p := 913620) h (by decide) rfl k3 rfl with ⟨q, h⟩ | ⟨q3, n3, h⟩
        · have e : l = [114, 97, 109, 112] := pk_inj hl wl_ramp (by rw [← hv, q, pkw_ramp]; rfl)
          have ec : cdK l = 203 := by rw [e]; decide
          rw [ec]; exact h
        · have q3 : ¬ l = [114, 97, 109, 112] := fun z => q3 (by rw [hv, z, pkw_ramp]; rfl)
          rcases cd_step (y := 5) (i := 4) (p := 21959) h (by decide) rfl k4 rfl with ⟨q, h⟩ | ⟨q4, n4, h⟩
          · have e : l = [112, 97, 114] := pk_inj hl wl_par (by rw [← hv, q, pkw_par]; rfl)
            have ec : cdK l = 204 := by rw [e]; decide
            rw [ec]; exact h
          · have q4 : ¬ l = [112, 97, 114] := fun z => q4 (by rw [hv, z, pkw_par]; rfl)
            rcases cd_step (y := 6) (i := 5) (p := 339) h (by decide) rfl k5 rfl with ⟨q, h⟩ | ⟨q5, n5, h⟩
            · have e : l = [105, 102] := pk_inj hl wl_if (by rw [← hv, q, pkw_if]; rfl)
              have ec : cdK l = 205 := by rw [e]; decide
              rw [ec]; exact h
            · have q5 : ¬ l = [105, 102] := fun z => q5 (by rw [hv, z, pkw_if]; rfl)
              rcases cd_step (y := 7) (i := 6) (p := 1258379381) h (by decide) rfl k6 rfl with ⟨q, h⟩ | ⟨q6, n6, h⟩
              · have e : l = [114, 101, 112, 101, 97, 116] := pk_inj hl wl_repeat (by rw [← hv, q, pkw_repeat]; rfl)
                have ec : cdK l = 206 := by rw [e]; decide
                rw [ec]; exact h
              · have q6 : ¬ l = [114, 101, 112, 101, 97, 116] := fun z => q6 (by rw [hv, z, pkw_repeat]; rfl)
                rcases cd_step (y := 8) (i := 7) (p := 22963959) h (by decide) rfl k7 rfl with ⟨q, h⟩ | ⟨q7, n7, h⟩
                · have e : l = [108, 105, 109, 105, 116] := pk_inj hl wl_limit (by rw [← hv, q, pkw_limit]; rfl)
                  have ec : cdK l = 207 := by rw [e]; decide
                  rw [ec]; exact h
                · have q7 : ¬ l = [108, 105, 109, 105, 116] := fun z => q7 (by rw [hv, z, pkw_limit]; rfl)
                  rcases cd_step (y := 9) (i := 8) (p := 2083) h (by decide) rfl k8 rfl with ⟨q, h⟩ | ⟨q8, n8, h⟩
                  · have e : l = [97, 115, 107] := pk_inj hl wl_ask (by rw [← hv, q, pkw_ask]; rfl)
                    have ec : cdK l = 208 := by rw [e]; decide
                    rw [ec]; exact h
                  · have q8 : ¬ l = [97, 115, 107] := fun z => q8 (by rw [hv, z, pkw_ask]; rfl)
                    rcases cd_step (y := 10) (i := 9) (p := 163) h (by decide) rfl k9 rfl with ⟨q, h⟩ | ⟨q9, n9, h⟩
                    · have e : l = [100, 111] := pk_inj hl wl_do (by rw [← hv, q, pkw_do]; rfl)
                      have ec : cdK l = 209 := by rw [e]; decide
                      rw [ec]; exact h
                    · have q9 : ¬ l = [100, 111] := fun z => q9 (by rw [hv, z, pkw_do]; rfl)
                      rcases cd_step (y := 11) (i := 10) (p := 990358) h (by decide) rfl k10 rfl with ⟨q, h⟩ | ⟨q10, n10, h⟩
                      · have e : l = [115, 116, 111, 112] := pk_inj hl wl_stop (by rw [← hv, q, pkw_stop]; rfl)
                        have ec : cdK l = 210 := by rw [e]; decide
                        rw [ec]; exact h
                      · have q10 : ¬ l = [115, 116, 111, 112] := fun z => q10 (by rw [hv, z, pkw_stop]; rfl)
                        rcases cd_step (y := 12) (i := 11) (p := 426207) h (by decide) rfl k11 rfl with ⟨q, h⟩ | ⟨q11, n11, h⟩
                        · have e : l = [104, 111, 108, 100] := pk_inj hl wl_hold (by rw [← hv, q, pkw_hold]; rfl)
                          have ec : cdK l = 211 := by rw [e]; decide
                          rw [ec]; exact h
                        · have q11 : ¬ l = [104, 111, 108, 100] := fun z => q11 (by rw [hv, z, pkw_hold]; rfl)
                          rcases cd_step (y := 13) (i := 12) (p := 1500) h (by decide) rfl k12 rfl with ⟨q, h⟩ | ⟨q12, n12, h⟩
                          · have e : l = [97, 99, 116] := pk_inj hl wl_act (by rw [← hv, q, pkw_act]; rfl)
                            have ec : cdK l = 212 := by rw [e]; decide
                            rw [ec]; exact h
                          · have q12 : ¬ l = [97, 99, 116] := fun z => q12 (by rw [hv, z, pkw_act]; rfl)
                            rcases cd_step (y := 14) (i := 13) (p := 1334776418) h (by decide) rfl k13 rfl with ⟨q, h⟩ | ⟨q13, n13, h⟩
                            · have e : l = [115, 105, 103, 110, 97, 108] := pk_inj hl wl_signal (by rw [← hv, q, pkw_signal]; rfl)
                              have ec : cdK l = 213 := by rw [e]; decide
                              rw [ec]; exact h
                            · have q13 : ¬ l = [115, 105, 103, 110, 97, 108] := fun z => q13 (by rw [hv, z, pkw_signal]; rfl)
                              rcases cd_step (y := 15) (i := 14) (p := 1080552497) h (by decide) rfl k14 rfl with ⟨q, h⟩ | ⟨q14, n14, h⟩
                              · have e : l = [111, 117, 116, 112, 117, 116] := pk_inj hl wl_output (by rw [← hv, q, pkw_output]; rfl)
                                have ec : cdK l = 214 := by rw [e]; decide
                                rw [ec]; exact h
                              · have q14 : ¬ l = [111, 117, 116, 112, 117, 116] := fun z => q14 (by rw [hv, z, pkw_output]; rfl)
                                rcases cd_step (y := 16) (i := 15) (p := 989988) h (by decide) rfl k15 rfl with ⟨q, h⟩ | ⟨q15, n15, h⟩
                                · have e : l = [115, 116, 101, 112] := pk_inj hl wl_step (by rw [← hv, q, pkw_step]; rfl)
                                  have ec : cdK l = 215 := by rw [e]; decide
                                  rw [ec]; exact h
                                · have q15 : ¬ l = [115, 116, 101, 112] := fun z => q15 (by rw [hv, z, pkw_step]; rfl)
                                  rcases cd_step (y := 17) (i := 16) (p := 347) h (by decide) rfl k16 rfl with ⟨q, h⟩ | ⟨q16, n16, h⟩
                                  · have e : l = [105, 110] := pk_inj hl wl_in (by rw [← hv, q, pkw_in]; rfl)
                                    have ec : cdK l = 216 := by rw [e]; decide
                                    rw [ec]; exact h
                                  · have q16 : ¬ l = [105, 110] := fun z => q16 (by rw [hv, z, pkw_in]; rfl)
                                    rcases cd_step (y := 18) (i := 17) (p := 270401) h (by decide) rfl k17 rfl with ⟨q, h⟩ | ⟨q17, n17, h⟩
                                    · have e : l = [101, 108, 115, 101] := pk_inj hl wl_else (by rw [← hv, q, pkw_else]; rfl)
                                      have ec : cdK l = 217 := by rw [e]; decide
                                      rw [ec]; exact h
                                    · have q17 : ¬ l = [101, 108, 115, 101] := fun z => q17 (by rw [hv, z, pkw_else]; rfl)
                                      rcases cd_step (y := 19) (i := 18) (p := 1024211) h (by decide) rfl k18 rfl with ⟨q, h⟩ | ⟨q18, n18, h⟩
                                      · have e : l = [116, 104, 101, 110] := pk_inj hl wl_then (by rw [← hv, q, pkw_then]; rfl)
                                        have ec : cdK l = 218 := by rw [e]; decide
                                        rw [ec]; exact h
                                      · have q18 : ¬ l = [116, 104, 101, 110] := fun z => q18 (by rw [hv, z, pkw_then]; rfl)
                                        rcases cd_step (y := 20) (i := 19) (p := 12) h (by decide) rfl k19 rfl with ⟨q, h⟩ | ⟨q19, n19, h⟩
                                        · have e : l = [108] := pk_inj hl wl_l (by rw [← hv, q, pkw_l]; rfl)
                                          have ec : cdK l = 219 := by rw [e]; decide
                                          rw [ec]; exact h
                                        · have q19 : ¬ l = [108] := fun z => q19 (by rw [hv, z, pkw_l]; rfl)
                                          rcases cd_step (y := 21) (i := 20) (p := 3) h (by decide) rfl k20 rfl with ⟨q, h⟩ | ⟨q20, n20, h⟩
                                          · have e : l = [99] := pk_inj hl wl_c (by rw [← hv, q, pkw_c]; rfl)
                                            have ec : cdK l = 220 := by rw [e]; decide
                                            rw [ec]; exact h
                                          · have q20 : ¬ l = [99] := fun z => q20 (by rw [hv, z, pkw_c]; rfl)
                                            rcases cd_step (y := 22) (i := 21) (p := 19) h (by decide) rfl k21 rfl with ⟨q, h⟩ | ⟨q21, n21, h⟩
                                            · have e : l = [115] := pk_inj hl wl_s (by rw [← hv, q, pkw_s]; rfl)
                                              have ec : cdK l = 221 := by rw [e]; decide
                                              rw [ec]; exact h
                                            · have q21 : ¬ l = [115] := fun z => q21 (by rw [hv, z, pkw_s]; rfl)
                                              rcases cd_step (y := 23) (i := 22) (p := 2793) h (by decide) rfl k22 rfl with ⟨q, h⟩ | ⟨q22, n22, h⟩
                                              · have e : l = [98, 97, 114] := pk_inj hl wl_bar (by rw [← hv, q, pkw_bar]; rfl)
                                                have ec : cdK l = 222 := by rw [e]; decide
                                                rw [ec]; exact h
                                              · have q22 : ¬ l = [98, 97, 114] := fun z => q22 (by rw [hv, z, pkw_bar]; rfl)
                                                rcases cd_step (y := 24) (i := 23) (p := 812503) h (by decide) rfl k23 rfl with ⟨q, h⟩ | ⟨q23, n23, h⟩
                                                · have e : l = [112, 97, 114, 116] := pk_inj hl wl_part (by rw [← hv, q, pkw_part]; rfl)
                                                  have ec : cdK l = 223 := by rw [e]; decide
                                                  rw [ec]; exact h
                                                · have q23 : ¬ l = [112, 97, 114, 116] := fun z => q23 (by rw [hv, z, pkw_part]; rfl)
                                                  rcases cd_step (y := 25) (i := 24) (p := 18144) h (by decide) rfl k24 rfl with ⟨q, h⟩ | ⟨q24, n24, h⟩
                                                  · have e : l = [109, 105, 110] := pk_inj hl wl_min (by rw [← hv, q, pkw_min]; rfl)
                                                    have ec : cdK l = 224 := by rw [e]; decide
                                                    rw [ec]; exact h
                                                  · have q24 : ¬ l = [109, 105, 110] := fun z => q24 (by rw [hv, z, pkw_min]; rfl)
                                                    rcases cd_step (y := 26) (i := 25) (p := 8) h (by decide) rfl k25 rfl with ⟨q, h⟩ | ⟨q25, n25, h⟩
                                                    · have e : l = [104] := pk_inj hl wl_h (by rw [← hv, q, pkw_h]; rfl)
                                                      have ec : cdK l = 225 := by rw [e]; decide
                                                      rw [ec]; exact h
                                                    · have q25 : ¬ l = [104] := fun z => q25 (by rw [hv, z, pkw_h]; rfl)
                                                      cases n25 with
                                                      | zero => exact False.elim h
                                                      | succ n =>
                                                      rw [wp_Kw_codeOf_L2] at h
                                                      replace h := h.1 (by decide)
                                                      have ec : cdK l = 128 := by unfold cdK; rw [if_neg q0, if_neg q1, if_neg q2, if_neg q3, if_neg q4, if_neg q5, if_neg q6, if_neg q7, if_neg q8, if_neg q9, if_neg q10, if_neg q11, if_neg q12, if_neg q13, if_neg q14, if_neg q15, if_neg q16, if_neg q17, if_neg q18, if_neg q19, if_neg q20, if_neg q21, if_neg q22, if_neg q23, if_neg q24, if_neg q25]
                                                      rw [ec]; exact h
def sg (c : Int32) : Prop := c = 123 ∨ c = 125 ∨ c = 40 ∨ c = 41 ∨ c = 59 ∨ c = 43 ∨ c = 45 ∨ c = 42 ∨ c = 47 ∨ c = 60 ∨ c = 61 ∨ c = 62
def dead (c : Int32) : Prop := (1 : Int32) ≤ c ∧ c ≤ 127 ∧ ¬ sg c
def BTx (tx : Nat → Int32) (sz : Int32) : Prop := ∀ p : Int32, (0 : Int32) ≤ p → p < sz → (1 : Int32) ≤ tx p.toNatClampNeg ∧ tx p.toNatClampNeg ≤ 127
def nxt (w : T_Wd) (c q : Int32) (v : Int64) (s l : Int32) : T_Wd := (w.1, (upd w.2.1 w.2.2.2.2.2.2.1.toNatClampNeg c), (upd w.2.2.1 w.2.2.2.2.2.2.1.toNatClampNeg q), (upd w.2.2.2.1 w.2.2.2.2.2.2.1.toNatClampNeg l), (vp_updL w.2.2.2.2.1 w.2.2.2.2.2.2.1.toNatClampNeg v), w.2.2.2.2.2.1, (w.2.2.2.2.2.2.1 + (1 : Int32)), w.2.2.2.2.2.2.2.1, s, l, w.2.2.2.2.2.2.2.2.2.2.1, w.2.2.2.2.2.2.2.2.2.2.2.1, w.2.2.2.2.2.2.2.2.2.2.2.2.1, w.2.2.2.2.2.2.2.2.2.2.2.2.2)
/-- a word of the class that may stand somewhere, and the reference's -/
def Tok (c : Int32) (v : Int64) (m : T_Mo) : Prop := (sg c ∧ m.1.1.1.2.2.2 = c) ∨ (c = 129 ∧ m.1.1.1.2.2.2 = 2000 ∧ m.1.1.2.2.2.2 = 0 ∧ m.1.1.2.2.2.1 = v ∧ 0 ≤ v.toInt ∧ v.toInt < 1000000000000) ∨ (c = 130 ∧ m.1.1.1.2.2.2 = 2000 ∧ m.1.1.2.2.2.2 = 1 ∧ m.1.1.2.2.2.1 = v ∧ 0 ≤ v.toInt ∧ v.toInt < 1000000000000) ∨ (c = cdK (wo m) ∧ m.1.1.1.2.2.2 = (1000 : Int32) + mn1 (wo m) ∧ v.toInt = pk (wo m) ∧ wl (wo m) ∧ (wo m).length ≤ 12 ∧ LB m)
def TKR (w : T_Wd) (l c : Int32) (v : Int64) (s r2 r' : Int32) (m' : T_Mo) : Prop := (c = 0 ∧ r2 = 0 ∧ r' = 1 ∧ m'.1.1.1.2.2.2 = 1 ∧ m'.1.1.2.2.1 = l) ∨ (r' = 0 ∧ c = 131 ∧ r2 = 0) ∨ (r' = 0 ∧ dead c ∧ r2 = 1 ∧ w.2.2.2.2.2.2.2.2.1 < s ∧ s ≤ w.2.2.2.2.2.1) ∨ (r' = 1 ∧ r2 = 1 ∧ w.2.2.2.2.2.2.2.2.1 < s ∧ s ≤ w.2.2.2.2.2.1 ∧ m'.1.1.1.2.1 = s ∧ m'.1.1.1.2.2.1 = l ∧ m'.1.1.2.2.1 = l ∧ Tok c v m')
theorem rl_end {w : T_Wd} {m : T_Mo} {c st b : Int32} {v : Int64} {PC : Int32 → T_Wd → Prop} {PM : Int32 → T_Mo → Prop} (hC : wp_Wd_keepJoined w c st v (fun (r : Int32) (u : T_Wd) => narrow .boolean (.int r) = .int r ∧ PC r u)) (hM : wp_Mo_go_J315 PM m b) (lm : LM w m) (k9 : w.2.2.2.2.2.2.1 ≤ 4000) : (PC 0 (kept w 131 w.2.2.2.2.2.2.2.2.1 0) ∧ PM 0 (((((m.1.1.1.1.1, m.1.1.1.1.2), (m.1.1.1.2.1, (m.1.1.1.2.2.1, m.1.1.1.2.2.2))), ((m.1.1.2.1.1, m.1.1.1.2.1), (m.1.1.2.2.1, (m.1.1.2.2.2.1, m.1.1.2.2.2.2)))), (((m.1.1.1.2.1, m.1.2.1.1.2), (m.1.2.1.2.1, (m.1.2.1.2.2.1, m.1.2.1.2.2.2))), ((m.1.2.2.1.1, (m.1.2.2.1.2.1, m.1.2.2.1.2.2)), (m.1.2.2.2.1, (m.1.2.2.2.2.1, m.1.2.2.2.2.2))))), ((((m.2.1.1.1.1, m.2.1.1.1.2), (m.2.1.1.2.1, (m.2.1.1.2.2.1, m.2.1.1.2.2.2))), ((m.2.1.2.1.1, m.2.1.2.1.2), (m.2.1.2.2.1, (m.2.1.2.2.2.1, m.2.1.2.2.2.2)))), (((m.2.2.1.1.1, m.2.2.1.1.2), (m.2.2.1.2.1, (m.2.2.1.2.2.1, m.2.2.1.2.2.2))), ((m.2.2.2.1.1, (m.2.2.2.1.2.1, m.2.2.2.1.2.2)), (m.2.2.2.2.1, (m.2.2.2.2.2.1, m.2.2.2.2.2.2))))))) ∨ (PC 1 (kept w c st v) ∧ ((lt b ∧ wp_Mo_meaning (((((m.1.1.1.1.1, m.1.1.1.1.2), (m.1.1.1.2.1, (m.1.1.1.2.2.1, m.1.1.1.2.2.2))), ((m.1.1.2.1.1, m.1.1.1.2.1), (m.1.1.2.2.1, (m.1.1.2.2.2.1, m.1.1.2.2.2.2)))), (((m.1.2.1.1.1, m.1.2.1.1.2), (m.1.2.1.2.1, (m.1.2.1.2.2.1, m.1.2.1.2.2.2))), ((m.1.2.2.1.1, (m.1.2.2.1.2.1, m.1.2.2.1.2.2)), (m.1.2.2.2.1, (m.1.2.2.2.2.1, m.1.2.2.2.2.2))))), ((((m.2.1.1.1.1, m.2.1.1.1.2), (m.2.1.1.2.1, (m.2.1.1.2.2.1, m.2.1.1.2.2.2))), ((m.2.1.2.1.1, m.2.1.2.1.2), (m.2.1.2.2.1, (m.2.1.2.2.2.1, m.2.1.2.2.2.2)))), (((m.2.2.1.1.1, m.2.2.1.1.2), (m.2.2.1.2.1, (m.2.2.1.2.2.1, m.2.2.1.2.2.2))), ((m.2.2.2.1.1, (m.2.2.2.1.2.1, m.2.2.2.1.2.2)), (m.2.2.2.2.1, (m.2.2.2.2.2.1, m.2.2.2.2.2.2)))))) (fun r _ => PM 1 (((((m.1.1.1.1.1, m.1.1.1.1.2), (m.1.1.1.2.1, (m.1.1.1.2.2.1, (1000 : Int32) + r))), ((m.1.1.2.1.1, m.1.1.1.2.1), (m.1.1.2.2.1, (m.1.1.2.2.2.1, m.1.1.2.2.2.2)))), (((m.1.2.1.1.1, m.1.2.1.1.2), (m.1.2.1.2.1, (m.1.2.1.2.2.1, m.1.2.1.2.2.2))), ((m.1.2.2.1.1, (m.1.2.2.1.2.1, m.1.2.2.1.2.2)), (m.1.2.2.2.1, (m.1.2.2.2.2.1, m.1.2.2.2.2.2))))), ((((m.2.1.1.1.1, m.2.1.1.1.2), (m.2.1.1.2.1, (m.2.1.1.2.2.1, m.2.1.1.2.2.2))), ((m.2.1.2.1.1, m.2.1.2.1.2), (m.2.1.2.2.1, (m.2.1.2.2.2.1, m.2.1.2.2.2.2)))), (((m.2.2.1.1.1, m.2.2.1.1.2), (m.2.2.1.2.1, (m.2.2.1.2.2.1, m.2.2.1.2.2.2))), ((m.2.2.2.1.1, (m.2.2.2.1.2.1, m.2.2.2.1.2.2)), (m.2.2.2.2.1, (m.2.2.2.2.2.1, m.2.2.2.2.2.2)))))))) ∨ (¬ lt b ∧ PM 1 (((((m.1.1.1.1.1, m.1.1.1.1.2), (m.1.1.1.2.1, (m.1.1.1.2.2.1, (2000 : Int32)))), ((m.1.1.2.1.1, m.1.1.1.2.1), (m.1.1.2.2.1, (m.1.1.2.2.2.1, m.1.1.2.2.2.2)))), (((m.1.2.1.1.1, m.1.2.1.1.2), (m.1.2.1.2.1, (m.1.2.1.2.2.1, m.1.2.1.2.2.2))), ((m.1.2.2.1.1, (m.1.2.2.1.2.1, m.1.2.2.1.2.2)), (m.1.2.2.2.1, (m.1.2.2.2.2.1, m.1.2.2.2.2.2))))), ((((m.2.1.1.1.1, m.2.1.1.1.2), (m.2.1.1.2.1, (m.2.1.1.2.2.1, m.2.1.1.2.2.2))), ((m.2.1.2.1.1, m.2.1.2.1.2), (m.2.1.2.2.1, (m.2.1.2.2.2.1, m.2.1.2.2.2.2)))), (((m.2.2.1.1.1, m.2.2.1.1.2), (m.2.2.1.2.1, (m.2.2.1.2.2.1, m.2.2.1.2.2.2))), ((m.2.2.2.1.1, (m.2.2.2.1.2.1, m.2.2.2.1.2.2)), (m.2.2.2.2.1, (m.2.2.2.2.2.1, m.2.2.2.2.2.2))))))))) := by
  have hb := LM_at lm
  obtain ⟨e1, e2, e3, e4, s0, s1, l9⟩ := lm
  rcases iv_keepJoined hC s0 l9 k9 with ⟨j, hC⟩ | ⟨j, hC⟩
  · rcases iv_J315 hM with ⟨-, hM⟩ | ⟨j2, -⟩
    · exact Or.inl ⟨hC.2, hM⟩
    · rw [hb] at j2; exact absurd j j2
  · rcases iv_J315 hM with ⟨j2, -⟩ | ⟨-, hM⟩
    · rw [hb] at j2; exact absurd j2 j
    · exact Or.inr ⟨hC.2, hM⟩
theorem dg_nz {b : Int32} (h : dg b) : ¬ b = 0 := fun q => by rw [q] at h; unfold dg at h; exact absurd h.1 (by decide)
theorem lt_nz {b : Int32} (h : lt b) : ¬ b = 0 := fun q => by rw [q] at h; unfold lt at h; exact absurd h.1 (by decide)
theorem ne_size {tx : Nat → Int32} {sz p : Int32} (h : ¬ txat tx sz p = 0) : ¬ p = sz := fun q => by
  have := txat_in h; rw [q] at this; exact Int32.lt_irrefl this
set_option maxHeartbeats 4000000 in
/-- a number -/
theorem rl_num {w : T_Wd} {m : T_Mo} {b : Int32} {PC : Int32 → T_Wd → Prop} {PM : Int32 → T_Mo → Prop} (hC : wp_Wd_splitNumber w (fun (r : Int32) (u : T_Wd) => narrow .boolean (.int r) = .int r ∧ PC r u)) (hM : wp_Mo_digits m (fun (r8 : Unit) (u8 : T_Mo) => wp_Mo_go_J315 PM u8 b)) (lm : LM w m) (k9 : w.2.2.2.2.2.2.1 ≤ 4000) (eb : m.1.1.2.1.1 = w.2.2.2.2.2.2.2.2.1) (d : dg (txat w.1 w.2.2.2.2.2.1 w.2.2.2.2.2.2.2.2.1)) (nl : ¬ lt b) : ∃ c q v s r2 r' m', PC r2 (nxt w c q v s w.2.2.2.2.2.2.2.2.2.1) ∧ PM r' m' ∧ Fr m m' ∧ ((r' = 0 ∧ c = 131 ∧ r2 = 0) ∨ (r' = 1 ∧ r2 = 1 ∧ w.2.2.2.2.2.2.2.2.1 < s ∧ s ≤ w.2.2.2.2.2.1 ∧ m'.1.1.1.2.1 = s ∧ m'.1.1.1.2.2.1 = w.2.2.2.2.2.2.2.2.2.1 ∧ m'.1.1.2.2.1 = m.1.1.2.2.1 ∧ Tok c v m')) := by
  unfold wp_Wd_splitNumber at hC
  obtain ⟨n1, hC⟩ := hC
  unfold wp_Mo_digits at hM
  obtain ⟨n2, hM⟩ := hM
  have lm0 := lm
  obtain ⟨e1, e2, e3, e4, s0, s1, l9⟩ := lm
  obtain ⟨p, v, x, hC, hM, p1, p2, pn, v0, v9⟩ := rl_digits n1 w w.2.2.2.2.2.2.2.2.1 0 0 _ n2 _ _ _ _ hC hM ⟨e1, e2, e3, e4, s0, s1, l9⟩ eb rfl (Int32.sub_self _).symm (by decide) (by decide) (by decide) (by decide)
  have p0 : (0 : Int32) ≤ p := Int32.le_trans s0 p1
  have p9 : p ≤ 4000 := Int32.le_trans p2 l9
  have pl : w.2.2.2.2.2.2.2.2.1 < p := by
    rcases Int32.le_iff_lt_or_eq.mp p1 with h | h
    · exact h
    · exact absurd d (pn h.symm (by decide))
  unfold wp_Mo_digits_J72 at hM
  replace hM := iv_Mo_at hM
  replace hC := iv_Wd_byteAt hC p0 l9
  dsimp only at hM hC
  have hb : txat m.1.1.1.1.1 m.1.1.1.1.2 p = txat w.1 w.2.2.2.2.2.1 p := by rw [e1, e2]
  have hb1 : txat m.1.1.1.1.1 m.1.1.1.1.2 (p + (1 : Int32)) = txat w.1 w.2.2.2.2.2.1 (p + (1 : Int32)) := by rw [e1, e2]
  rw [hb] at hM
  have b1 := i64_m10 (v := v) v0 (by omega)
  have b2 := i64_m10 (v := v * 10) (by rw [b1]; omega) (by rw [b1]; omega)
  have b3 := i64_m10 (v := v * 10 * 10) (by rw [b2, b1]; omega) (by rw [b2, b1]; omega)
  have ev : v * (1000 : Int64) = v * 10 * 10 * 10 := by grind
  -- no point: three zeros
  have plain : ∀ n3, wp_Wd_splitNumber_L125 (fun (z_this : T_Wd) (x1 : Int32) (x2 : Int64) (x4 : Int32) (x5 : Int32) (x6 : Int32) => (x4 = 0 → (wp_Wd_keepJoined z_this (129 : Int32) x1 x2 (fun (r16 : Int32) (u16 : T_Wd) => narrow .boolean (.int r16) = .int r16 ∧ narrow .boolean (.int r16) = .int r16 ∧ PC r16 u16))) ∧ (¬ x4 = 0 → (wp_Wd_keepJoined z_this (130 : Int32) x1 x2 (fun (r17 : Int32) (u17 : T_Wd) => narrow .boolean (.int r17) = .int r17 ∧ narrow .boolean (.int r17) = .int r17 ∧ PC r17 u17)))) (fun (r : Int32) (u : T_Wd) => narrow .boolean (.int r) = .int r ∧ PC r u) n3 (w.1, w.2.1, w.2.2.1, w.2.2.2.1, w.2.2.2.2.1, w.2.2.2.2.2.1, w.2.2.2.2.2.2.1, w.2.2.2.2.2.2.2.1, p, w.2.2.2.2.2.2.2.2.2.1, w.2.2.2.2.2.2.2.2.2.2.1, w.2.2.2.2.2.2.2.2.2.2.2.1, w.2.2.2.2.2.2.2.2.2.2.2.2.1, w.2.2.2.2.2.2.2.2.2.2.2.2.2) w.2.2.2.2.2.2.2.2.1 v 0 0 0 → wp_Mo_digits_J118 (fun (r8 : Unit) (u8 : T_Mo) => wp_Mo_go_J315 PM u8 b) (((((m.1.1.1.1.1, m.1.1.1.1.2), (p, (m.1.1.1.2.2.1, m.1.1.1.2.2.2))), ((m.1.1.2.1.1, m.1.1.2.1.2), (m.1.1.2.2.1, ((v * (1000 : Int64)), m.1.1.2.2.2.2)))), (((m.1.2.1.1.1, m.1.2.1.1.2), (m.1.2.1.2.1, (m.1.2.1.2.2.1, m.1.2.1.2.2.2))), ((m.1.2.2.1.1, (m.1.2.2.1.2.1, m.1.2.2.1.2.2)), (m.1.2.2.2.1, (m.1.2.2.2.2.1, m.1.2.2.2.2.2))))), ((((m.2.1.1.1.1, m.2.1.1.1.2), (m.2.1.1.2.1, (m.2.1.1.2.2.1, m.2.1.1.2.2.2))), ((m.2.1.2.1.1, m.2.1.2.1.2), (m.2.1.2.2.1, (m.2.1.2.2.2.1, m.2.1.2.2.2.2)))), (((m.2.2.1.1.1, m.2.2.1.1.2), (m.2.2.1.2.1, (m.2.2.1.2.2.1, m.2.2.1.2.2.2))), ((m.2.2.2.1.1, (m.2.2.2.1.2.1, m.2.2.2.1.2.2)), (m.2.2.2.2.1, (m.2.2.2.2.2.1, m.2.2.2.2.2.2)))))) → ∃ c q v s r2 r' m', PC r2 (nxt w c q v s w.2.2.2.2.2.2.2.2.2.1) ∧ PM r' m' ∧ Fr m m' ∧ ((r' = 0 ∧ c = 131 ∧ r2 = 0) ∨ (r' = 1 ∧ r2 = 1 ∧ w.2.2.2.2.2.2.2.2.1 < s ∧ s ≤ w.2.2.2.2.2.1 ∧ m'.1.1.1.2.1 = s ∧ m'.1.1.1.2.2.1 = w.2.2.2.2.2.2.2.2.2.1 ∧ m'.1.1.2.2.1 = m.1.1.2.2.1 ∧ Tok c v m')) := by
    intro n3 hC hM
    obtain ⟨n4, hC⟩ := L125_0 (y := 1) hC (by decide) rfl
    obtain ⟨n5, hC⟩ := L125_0 (y := 2) hC (by decide) rfl
    obtain ⟨n6, hC⟩ := L125_0 (y := 3) hC (by decide) rfl
    replace hC := (L125_9 hC (by decide)).1 rfl
    unfold wp_Mo_digits_J118 wp_Mo_digits_J119 wp_Mo_digits_J205 at hM
    replace hM := hM.2.2.1 rfl
    have hC2 : wp_Wd_keepJoined (w.1, w.2.1, w.2.2.1, w.2.2.2.1, w.2.2.2.2.1, w.2.2.2.2.2.1, w.2.2.2.2.2.2.1, w.2.2.2.2.2.2.2.1, p, w.2.2.2.2.2.2.2.2.2.1, w.2.2.2.2.2.2.2.2.2.2.1, w.2.2.2.2.2.2.2.2.2.2.2.1, w.2.2.2.2.2.2.2.2.2.2.2.2.1, w.2.2.2.2.2.2.2.2.2.2.2.2.2) (129 : Int32) w.2.2.2.2.2.2.2.2.1 (v * 10 * 10 * 10) (fun (r16 : Int32) (u16 : T_Wd) => narrow .boolean (.int r16) = .int r16 ∧ (narrow .boolean (.int r16) = .int r16 ∧ PC r16 u16)) := hC
    rcases rl_end (PC := fun r16 u16 => narrow .boolean (.int r16) = .int r16 ∧ PC r16 u16) hC2 hM ⟨e1, e2, rfl, e4, p0, p2, l9⟩ k9 with ⟨hC, hM⟩ | ⟨hC, hM⟩
    · exact ⟨131, p, 0, p, 0, 0, _, hC.2, hM, ⟨rfl, rfl, rfl, rfl, rfl⟩, Or.inl ⟨rfl, rfl, rfl⟩⟩
    · rcases hM with ⟨q, -⟩ | ⟨-, hM⟩
      · exact absurd q nl
      · exact ⟨129, w.2.2.2.2.2.2.2.2.1, v * 10 * 10 * 10, p, 1, 1, _, hC.2, hM, ⟨rfl, rfl, rfl, rfl, rfl⟩, Or.inr ⟨rfl, rfl, pl, p2, rfl, e4.symm, rfl, Or.inr (Or.inl ⟨rfl, rfl, rfl, ev, by rw [b3, b2, b1]; omega, by rw [b3, b2, b1]; omega⟩)⟩⟩
  by_cases c : txat w.1 w.2.2.2.2.2.1 p = 46
  · have pin := txat_in (tx := w.1) (sz := w.2.2.2.2.2.1) (p := p) (by rw [c]; decide)
    have up := up_le p0 pin l9
    replace hC := iv_Wd_byteAt (hC.1 c) up.1 l9
    replace hM := iv_Mo_at (hM.1 c)
    dsimp only at hM hC
    rw [hb1] at hM
    rcases iv_Wd_isDigit hC with ⟨g, hC⟩ | ⟨g, hC⟩
    · rcases iv_Mo_isDigit hM with ⟨g2, hM⟩ | ⟨g2, hM⟩
      · obtain ⟨n3, hC⟩ := (hC.2 (by decide)).2 (by decide)
        replace hM := hM.2 (by decide)
        unfold wp_Mo_digits_J119 at hM
        obtain ⟨n4, hM⟩ := hM.2.2.2 (by decide)
        obtain ⟨p3, v3, x5, x6, b9, hC, hM, q1, q2, v30, v39⟩ := rl_dec0 hC hM ⟨e1, e2, rfl, e4, up.1, up.2.1, l9⟩ rfl v0 v9
        replace hC := hC.2 (by decide)
        unfold wp_Mo_digits_J205 at hM
        have q1' : p + (1 : Int32) ≤ p3 := q1
        rcases rl_end (PC := fun r16 u16 => narrow .boolean (.int r16) = .int r16 ∧ PC r16 u16) hC hM ⟨e1, e2, rfl, e4, Int32.le_trans up.1 q1', q2, l9⟩ k9 with ⟨hC, hM⟩ | ⟨hC, hM⟩
        · exact ⟨131, p3, 0, p3, 0, 0, _, hC.2, hM, ⟨rfl, rfl, rfl, rfl, rfl⟩, Or.inl ⟨rfl, rfl, rfl⟩⟩
        · rcases hM with ⟨q, -⟩ | ⟨-, hM⟩
          · exact absurd q nl
          · exact ⟨130, w.2.2.2.2.2.2.2.2.1, v3, p3, 1, 1, _, hC.2, hM, ⟨rfl, rfl, rfl, rfl, rfl⟩, Or.inr ⟨rfl, rfl, Int32.lt_of_lt_of_le pl (Int32.le_trans up.2.2 q1'), q2, rfl, e4.symm, rfl, Or.inr (Or.inr (Or.inl ⟨rfl, rfl, rfl, rfl, v30, v39⟩))⟩⟩
      · exact absurd g g2
    · rcases iv_Mo_isDigit hM with ⟨g2, hM⟩ | ⟨g2, hM⟩
      · exact absurd g2 g
      · obtain ⟨n3, hC⟩ := (hC.1 rfl).1 rfl
        exact plain n3 hC (hM.1 rfl)
  · obtain ⟨n3, hC⟩ := (hC.2 c).1 rfl
    exact plain n3 hC (hM.2 c)
set_option maxHeartbeats 4000000 in
/-- a word of letters -/
theorem rl_ltrs {kw : T_Kw} {w : T_Wd} {m : T_Mo} {b : Int32} {n2 : Nat} {PC : Int32 → T_Wd → Prop} {PM : Int32 → T_Mo → Prop} (hk : KWz kw) (hC : wp_Wd_splitLetters w kw (fun (r : Int32) (u : T_Wd) => narrow .boolean (.int r) = .int r ∧ PC r u)) (hM : wp_Mo_go_L124 (fun (z_this : T_Mo) (x1 : Int32) => wp_Mo_go_J315 PM z_this x1) PM n2 m b) (lm : LM w m) (k9 : w.2.2.2.2.2.2.1 ≤ 4000) (eb : m.1.1.2.1.1 = w.2.2.2.2.2.2.2.2.1) (d : lt (txat w.1 w.2.2.2.2.2.1 w.2.2.2.2.2.2.2.2.1)) (hl : lt b) : ∃ c q v s r2 r' m', PC r2 (nxt w c q v s w.2.2.2.2.2.2.2.2.2.1) ∧ PM r' m' ∧ Fr m m' ∧ ((r' = 0 ∧ c = 131 ∧ r2 = 0) ∨ (r' = 1 ∧ r2 = 1 ∧ w.2.2.2.2.2.2.2.2.1 < s ∧ s ≤ w.2.2.2.2.2.1 ∧ m'.1.1.1.2.1 = s ∧ m'.1.1.1.2.2.1 = w.2.2.2.2.2.2.2.2.2.1 ∧ m'.1.1.2.2.1 = m.1.1.2.2.1 ∧ Tok c v m')) := by
  unfold wp_Wd_splitLetters at hC
  obtain ⟨n1, hC⟩ := hC
  obtain ⟨e1, e2, e3, e4, s0, s1, l9⟩ := lm
  have ws0 : WS w.1 w.2.2.2.2.2.2.2.2.1 w.2.2.2.2.2.2.2.2.1 0 := by
    unfold WS
    rw [Nat.sub_self]
    exact ⟨fun c hc => absurd hc (List.not_mem_nil), rfl, by decide⟩
  obtain ⟨p, v, x, hC, hM, p1, p2, ws, pn⟩ := rl_letters n1 w w.2.2.2.2.2.2.2.2.1 0 0 m b n2 _ _ _ _ hC hM ⟨e1, e2, e3, e4, s0, s1, l9⟩ eb (Int32.sub_self _).symm s0 (Int32.le_refl _) ws0
  have p0 : (0 : Int32) ≤ p := Int32.le_trans s0 p1
  have pl : w.2.2.2.2.2.2.2.2.1 < p := by
    rcases Int32.le_iff_lt_or_eq.mp p1 with h | h
    · exact h
    · exact absurd d ((pn h.symm).resolve_left (by decide))
  obtain ⟨w1, w2, w3⟩ := ws
  replace hC := iv_codeOf hk w1 w2 hC
  rcases rl_end (PC := fun r16 u16 => narrow .boolean (.int r16) = .int r16 ∧ PC r16 u16) hC hM ⟨e1, e2, rfl, e4, p0, p2, l9⟩ k9 with ⟨hC, hM⟩ | ⟨hC, hM⟩
  · exact ⟨131, p, 0, p, 0, 0, _, hC.2, hM, ⟨rfl, rfl, rfl, rfl, rfl⟩, Or.inl ⟨rfl, rfl, rfl⟩⟩
  · rcases hM with ⟨-, hM⟩ | ⟨q, -⟩
    · have lb : LB (((((m.1.1.1.1.1, m.1.1.1.1.2), (p, (m.1.1.1.2.2.1, m.1.1.1.2.2.2))), ((m.1.1.2.1.1, p), (m.1.1.2.2.1, (m.1.1.2.2.2.1, m.1.1.2.2.2.2)))), (((m.1.2.1.1.1, m.1.2.1.1.2), (m.1.2.1.2.1, (m.1.2.1.2.2.1, m.1.2.1.2.2.2))), ((m.1.2.2.1.1, (m.1.2.2.1.2.1, m.1.2.2.1.2.2)), (m.1.2.2.2.1, (m.1.2.2.2.2.1, m.1.2.2.2.2.2))))), ((((m.2.1.1.1.1, m.2.1.1.1.2), (m.2.1.1.2.1, (m.2.1.1.2.2.1, m.2.1.1.2.2.2))), ((m.2.1.2.1.1, m.2.1.2.1.2), (m.2.1.2.2.1, (m.2.1.2.2.2.1, m.2.1.2.2.2.2)))), (((m.2.2.1.1.1, m.2.2.1.1.2), (m.2.2.1.2.1, (m.2.2.1.2.2.1, m.2.2.1.2.2.2))), ((m.2.2.2.1.1, (m.2.2.2.1.2.1, m.2.2.2.1.2.2)), (m.2.2.2.2.1, (m.2.2.2.2.2.1, m.2.2.2.2.2.2)))))) := ⟨by show (0 : Int32) ≤ m.1.1.2.1.1; rw [eb]; exact s0, by show m.1.1.2.1.1 ≤ p; rw [eb]; exact p1, Int32.le_trans p2 l9⟩
      replace hM := iv_meaning lb hM
      have ew : ∀ t, wo (((((m.1.1.1.1.1, m.1.1.1.1.2), (p, (m.1.1.1.2.2.1, t))), ((m.1.1.2.1.1, p), (m.1.1.2.2.1, (m.1.1.2.2.2.1, m.1.1.2.2.2.2)))), (((m.1.2.1.1.1, m.1.2.1.1.2), (m.1.2.1.2.1, (m.1.2.1.2.2.1, m.1.2.1.2.2.2))), ((m.1.2.2.1.1, (m.1.2.2.1.2.1, m.1.2.2.1.2.2)), (m.1.2.2.2.1, (m.1.2.2.2.2.1, m.1.2.2.2.2.2))))), ((((m.2.1.1.1.1, m.2.1.1.1.2), (m.2.1.1.2.1, (m.2.1.1.2.2.1, m.2.1.1.2.2.2))), ((m.2.1.2.1.1, m.2.1.2.1.2), (m.2.1.2.2.1, (m.2.1.2.2.2.1, m.2.1.2.2.2.2)))), (((m.2.2.1.1.1, m.2.2.1.1.2), (m.2.2.1.2.1, (m.2.2.1.2.2.1, m.2.2.1.2.2.2))), ((m.2.2.2.1.1, (m.2.2.2.1.2.1, m.2.2.2.1.2.2)), (m.2.2.2.2.1, (m.2.2.2.2.2.1, m.2.2.2.2.2.2)))))) = fs w.1 w.2.2.2.2.2.2.2.2.1.toNatClampNeg (p.toNatClampNeg - w.2.2.2.2.2.2.2.2.1.toNatClampNeg) := by
        intro t
        unfold wo
        show fs m.1.1.1.1.1 m.1.1.2.1.1.toNatClampNeg (p.toNatClampNeg - m.1.1.2.1.1.toNatClampNeg) = _
        rw [eb, e1]
      have ew0 : wo (((((m.1.1.1.1.1, m.1.1.1.1.2), (p, (m.1.1.1.2.2.1, m.1.1.1.2.2.2))), ((m.1.1.2.1.1, p), (m.1.1.2.2.1, (m.1.1.2.2.2.1, m.1.1.2.2.2.2)))), (((m.1.2.1.1.1, m.1.2.1.1.2), (m.1.2.1.2.1, (m.1.2.1.2.2.1, m.1.2.1.2.2.2))), ((m.1.2.2.1.1, (m.1.2.2.1.2.1, m.1.2.2.1.2.2)), (m.1.2.2.2.1, (m.1.2.2.2.2.1, m.1.2.2.2.2.2))))), ((((m.2.1.1.1.1, m.2.1.1.1.2), (m.2.1.1.2.1, (m.2.1.1.2.2.1, m.2.1.1.2.2.2))), ((m.2.1.2.1.1, m.2.1.2.1.2), (m.2.1.2.2.1, (m.2.1.2.2.2.1, m.2.1.2.2.2.2)))), (((m.2.2.1.1.1, m.2.2.1.1.2), (m.2.2.1.2.1, (m.2.2.1.2.2.1, m.2.2.1.2.2.2))), ((m.2.2.2.1.1, (m.2.2.2.1.2.1, m.2.2.2.1.2.2)), (m.2.2.2.2.1, (m.2.2.2.2.2.1, m.2.2.2.2.2.2)))))) = fs w.1 w.2.2.2.2.2.2.2.2.1.toNatClampNeg (p.toNatClampNeg - w.2.2.2.2.2.2.2.2.1.toNatClampNeg) := ew m.1.1.1.2.2.2
      rw [ew0] at hM
      refine ⟨_, w.2.2.2.2.2.2.2.2.1, v, p, 1, 1, _, hC.2, hM, ⟨rfl, rfl, rfl, rfl, rfl⟩, Or.inr ⟨rfl, rfl, pl, p2, rfl, e4.symm, rfl, Or.inr (Or.inr (Or.inr ⟨?_, ?_, ?_, ?_, ?_, ?_⟩))⟩⟩
      · rw [ew]
      · rw [ew]
      · rw [ew]; exact w2
      · rw [ew]; exact w1
      · rw [ew, fs_len]; exact w3
      · exact lb
    · exact absurd hl q
theorem rl_signs {m : T_Mo} {b : Int32} {PM : Int32 → T_Mo → Prop} (h : (b = (123 : Int32) → (wp_Mo_go_J265 PM m b)) ∧ (¬ b = (123 : Int32) → ((b = (125 : Int32) → (wp_Mo_go_J265 PM m b)) ∧ (¬ b = (125 : Int32) → ((b = (40 : Int32) → (wp_Mo_go_J265 PM m b)) ∧ (¬ b = (40 : Int32) → ((b = (41 : Int32) → (wp_Mo_go_J265 PM m b)) ∧ (¬ b = (41 : Int32) → ((b = (59 : Int32) → (wp_Mo_go_J265 PM m b)) ∧ (¬ b = (59 : Int32) → ((b = (43 : Int32) → (wp_Mo_go_J265 PM m b)) ∧ (¬ b = (43 : Int32) → ((b = (45 : Int32) → (wp_Mo_go_J265 PM m b)) ∧ (¬ b = (45 : Int32) → ((b = (42 : Int32) → (wp_Mo_go_J265 PM m b)) ∧ (¬ b = (42 : Int32) → ((b = (47 : Int32) → (wp_Mo_go_J265 PM m b)) ∧ (¬ b = (47 : Int32) → ((b = (60 : Int32) → (wp_Mo_go_J265 PM m b)) ∧ (¬ b = (60 : Int32) → ((b = (61 : Int32) → (wp_Mo_go_J265 PM m b)) ∧ (¬ b = (61 : Int32) → ((b = (62 : Int32) → (wp_Mo_go_J265 PM m b)) ∧ (¬ b = (62 : Int32) → (wp_Mo_go_J270 PM m b (0 : Int32)))))))))))))))))))))))))) : (sg b ∧ ∃ y, PM 1 (((((m.1.1.1.1.1, m.1.1.1.1.2), ((m.1.1.1.2.1 + (1 : Int32)), (m.1.1.1.2.2.1, b))), ((m.1.1.2.1.1, (m.1.1.1.2.1 + (1 : Int32))), (m.1.1.2.2.1, (m.1.1.2.2.2.1, m.1.1.2.2.2.2)))), (((y, m.1.2.1.1.2), (m.1.2.1.2.1, (m.1.2.1.2.2.1, m.1.2.1.2.2.2))), ((m.1.2.2.1.1, (m.1.2.2.1.2.1, m.1.2.2.1.2.2)), (m.1.2.2.2.1, (m.1.2.2.2.2.1, m.1.2.2.2.2.2))))), ((((m.2.1.1.1.1, m.2.1.1.1.2), (m.2.1.1.2.1, (m.2.1.1.2.2.1, m.2.1.1.2.2.2))), ((m.2.1.2.1.1, m.2.1.2.1.2), (m.2.1.2.2.1, (m.2.1.2.2.2.1, m.2.1.2.2.2.2)))), (((m.2.2.1.1.1, m.2.2.1.1.2), (m.2.2.1.2.1, (m.2.2.1.2.2.1, m.2.2.1.2.2.2))), ((m.2.2.2.1.1, (m.2.2.2.1.2.1, m.2.2.2.1.2.2)), (m.2.2.2.2.1, (m.2.2.2.2.2.1, m.2.2.2.2.2.2))))))) ∨ (¬ sg b ∧ ∃ y, PM 0 (((((m.1.1.1.1.1, m.1.1.1.1.2), ((m.1.1.1.2.1 + (1 : Int32)), (m.1.1.1.2.2.1, b))), ((m.1.1.2.1.1, (m.1.1.1.2.1 + (1 : Int32))), (m.1.1.2.2.1, (m.1.1.2.2.2.1, m.1.1.2.2.2.2)))), (((y, m.1.2.1.1.2), (m.1.2.1.2.1, (m.1.2.1.2.2.1, m.1.2.1.2.2.2))), ((m.1.2.2.1.1, (m.1.2.2.1.2.1, m.1.2.2.1.2.2)), (m.1.2.2.2.1, (m.1.2.2.2.2.1, m.1.2.2.2.2.2))))), ((((m.2.1.1.1.1, m.2.1.1.1.2), (m.2.1.1.2.1, (m.2.1.1.2.2.1, m.2.1.1.2.2.2))), ((m.2.1.2.1.1, m.2.1.2.1.2), (m.2.1.2.2.1, (m.2.1.2.2.2.1, m.2.1.2.2.2.2)))), (((m.2.2.1.1.1, m.2.2.1.1.2), (m.2.2.1.2.1, (m.2.2.1.2.2.1, m.2.2.1.2.2.2))), ((m.2.2.2.1.1, (m.2.2.2.1.2.1, m.2.2.2.1.2.2)), (m.2.2.2.2.1, (m.2.2.2.2.2.1, m.2.2.2.2.2.2))))))) := by
  have sgn : wp_Mo_go_J265 PM m b → ∃ y, PM 1 (((((m.1.1.1.1.1, m.1.1.1.1.2), ((m.1.1.1.2.1 + (1 : Int32)), (m.1.1.1.2.2.1, b))), ((m.1.1.2.1.1, (m.1.1.1.2.1 + (1 : Int32))), (m.1.1.2.2.1, (m.1.1.2.2.2.1, m.1.1.2.2.2.2)))), (((y, m.1.2.1.1.2), (m.1.2.1.2.1, (m.1.2.1.2.2.1, m.1.2.1.2.2.2))), ((m.1.2.2.1.1, (m.1.2.2.1.2.1, m.1.2.2.1.2.2)), (m.1.2.2.2.1, (m.1.2.2.2.2.1, m.1.2.2.2.2.2))))), ((((m.2.1.1.1.1, m.2.1.1.1.2), (m.2.1.1.2.1, (m.2.1.1.2.2.1, m.2.1.1.2.2.2))), ((m.2.1.2.1.1, m.2.1.2.1.2), (m.2.1.2.2.1, (m.2.1.2.2.2.1, m.2.1.2.2.2.2)))), (((m.2.2.1.1.1, m.2.2.1.1.2), (m.2.2.1.2.1, (m.2.2.1.2.2.1, m.2.2.1.2.2.2))), ((m.2.2.2.1.1, (m.2.2.2.1.2.1, m.2.2.2.1.2.2)), (m.2.2.2.2.1, (m.2.2.2.2.2.1, m.2.2.2.2.2.2)))))) := by
    intro h
    unfold wp_Mo_go_J265 wp_Mo_go_J270 wp_Mo_go_J287 at h
    exact ⟨_, (h.2 (by decide)).2⟩
  by_cases c0 : b = 123
  · exact Or.inl ⟨Or.inl c0, sgn (h.1 c0)⟩
  · replace h := h.2 c0
    by_cases c1 : b = 125
    · exact Or.inl ⟨Or.inr (Or.inl c1), sgn (h.1 c1)⟩
    · replace h := h.2 c1
      by_cases c2 : b = 40
      · exact Or.inl ⟨Or.inr (Or.inr (Or.inl c2)), sgn (h.1 c2)⟩
      · replace h := h.2 c2
        by_cases c3 : b = 41
        · exact Or.inl ⟨Or.inr (Or.inr (Or.inr (Or.inl c3))), sgn (h.1 c3)⟩
        · replace h := h.2 c3
          by_cases c4 : b = 59
          · exact Or.inl ⟨Or.inr (Or.inr (Or.inr (Or.inr (Or.inl c4)))), sgn (h.1 c4)⟩
          · replace h := h.2 c4
            by_cases c5 : b = 43
            · exact Or.inl ⟨Or.inr (Or.inr (Or.inr (Or.inr (Or.inr (Or.inl c5))))), sgn (h.1 c5)⟩
            · replace h := h.2 c5
              by_cases c6 : b = 45
              · exact Or.inl ⟨Or.inr (Or.inr (Or.inr (Or.inr (Or.inr (Or.inr (Or.inl c6)))))), sgn (h.1 c6)⟩
              · replace h := h.2 c6
                by_cases c7 : b = 42
                · exact Or.inl ⟨Or.inr (Or.inr (Or.inr (Or.inr (Or.inr (Or.inr (Or.inr (Or.inl c7))))))), sgn (h.1 c7)⟩
                · replace h := h.2 c7
                  by_cases c8 : b = 47
                  · exact Or.inl ⟨Or.inr (Or.inr (Or.inr (Or.inr (Or.inr (Or.inr (Or.inr (Or.inr (Or.inl c8)))))))), sgn (h.1 c8)⟩
                  · replace h := h.2 c8
                    by_cases c9 : b = 60
                    · exact Or.inl ⟨Or.inr (Or.inr (Or.inr (Or.inr (Or.inr (Or.inr (Or.inr (Or.inr (Or.inr (Or.inl c9))))))))), sgn (h.1 c9)⟩
                    · replace h := h.2 c9
                      by_cases c10 : b = 61
                      · exact Or.inl ⟨Or.inr (Or.inr (Or.inr (Or.inr (Or.inr (Or.inr (Or.inr (Or.inr (Or.inr (Or.inr (Or.inl c10)))))))))), sgn (h.1 c10)⟩
                      · replace h := h.2 c10
                        by_cases c11 : b = 62
                        · exact Or.inl ⟨Or.inr (Or.inr (Or.inr (Or.inr (Or.inr (Or.inr (Or.inr (Or.inr (Or.inr (Or.inr (Or.inr (c11))))))))))), sgn (h.1 c11)⟩
                        · replace h := h.2 c11
                          refine Or.inr ⟨fun q => ?_, ?_⟩
                          · unfold sg at q
                            rcases q with q | q | q | q | q | q | q | q | q | q | q | q
                            · exact c0 q
                            · exact c1 q
                            · exact c2 q
                            · exact c3 q
                            · exact c4 q
                            · exact c5 q
                            · exact c6 q
                            · exact c7 q
                            · exact c8 q
                            · exact c9 q
                            · exact c10 q
                            · exact c11 q
                          · unfold wp_Mo_go_J270 wp_Mo_go_J287 at h
                            exact ⟨_, (h.1 rfl).2⟩
set_option maxHeartbeats 4000000 in
/-- one word of the class, one go of the reference -/
theorem rl_word {kw : T_Kw} {w : T_Wd} {m : T_Mo} {PC : Int32 → T_Wd → Prop} {PM : Int32 → T_Mo → Prop} (hk : KWz kw) (lm : LM w m) (bt : BTx w.1 w.2.2.2.2.2.1) (k9 : w.2.2.2.2.2.2.1 ≤ 4000) (hC : wp_Wd_skipBlanks w (fun (r1 : Unit) (u1 : T_Wd) => wp_Wd_splitWord u1 kw PC)) (hM : wp_Mo_go m PM) : ∃ l c q v s r2 r' m', PC r2 (nxt w c q v s l) ∧ PM r' m' ∧ Fr m m' ∧ TKR w l c v s r2 r' m' := by
  unfold wp_Wd_skipBlanks at hC
  obtain ⟨n, hC⟩ := hC
  unfold wp_Mo_go at hM
  obtain ⟨n', hM⟩ := hM
  obtain ⟨x, p, l, hC, hM, p1, p2, nb1, nb2⟩ := rl_skip n w 0 m n' _ _ _ _ hC hM lm (by decide) lm.2.2.2.2.1
  obtain ⟨e1, e2, e3, e4, s0, s1, l9⟩ := lm
  have p0 : (0 : Int32) ≤ p := Int32.le_trans s0 p1
  unfold wp_Wd_splitWord at hC
  replace hC := iv_Wd_byteAt hC p0 l9
  replace hM := iv_Mo_at hM
  dsimp only at hC hM
  have hb : txat m.1.1.1.1.1 m.1.1.1.1.2 p = txat w.1 w.2.2.2.2.2.1 p := by rw [e1, e2]
  rw [hb] at hM
  rcases iv_Wd_isDigit hC with ⟨d, hC⟩ | ⟨d, hC⟩
  · have ns : ¬ p = m.1.1.1.1.2 := by rw [← e2]; exact ne_size (dg_nz d)
    rcases iv_Mo_isLetter (hM.2 ns) with ⟨q, hM⟩ | ⟨nl, hM⟩
    · exact (lt_dg q d).elim
    · rcases iv_Mo_isDigit (hM.1 rfl) with ⟨-, hM⟩ | ⟨q, hM⟩
      · obtain ⟨c, q, v, s, r2, r', m', k1, k2, fr, k3⟩ := rl_num (w := (w.1, w.2.1, w.2.2.1, w.2.2.2.1, w.2.2.2.2.1, w.2.2.2.2.2.1, w.2.2.2.2.2.2.1, w.2.2.2.2.2.2.2.1, p, l, w.2.2.2.2.2.2.2.2.2.2.1, w.2.2.2.2.2.2.2.2.2.2.2.1, w.2.2.2.2.2.2.2.2.2.2.2.2.1, w.2.2.2.2.2.2.2.2.2.2.2.2.2)) (hC.2 (by decide)) (hM.2 (by decide)) ⟨e1, e2, rfl, rfl, p0, p2, l9⟩ k9 rfl d nl
        refine ⟨l, c, q, v, s, r2, r', m', k1, k2, fr, ?_⟩
        rcases k3 with k3 | ⟨k3, k4, k5, k6, k7, k8, k9', k10⟩
        · exact Or.inr (Or.inl k3)
        · exact Or.inr (Or.inr (Or.inr ⟨k3, k4, Int32.lt_of_le_of_lt p1 k5, k6, k7, k8, k9', k10⟩))
      · exact absurd d q
  · rcases iv_Kw_rank (hC.1 rfl) with ⟨g, hC⟩ | ⟨g, hC⟩ | ⟨g, hC⟩
    · have ns : ¬ p = m.1.1.1.1.2 := by rw [← e2]; exact ne_size (lt_nz g)
      rcases iv_Mo_isLetter (hM.2 ns) with ⟨hl, hM⟩ | ⟨q, hM⟩
      · obtain ⟨n2, hM⟩ := hM.2 (by decide)
        obtain ⟨c, q, v, s, r2, r', m', k1, k2, fr, k3⟩ := rl_ltrs (w := (w.1, w.2.1, w.2.2.1, w.2.2.2.1, w.2.2.2.2.1, w.2.2.2.2.2.1, w.2.2.2.2.2.2.1, w.2.2.2.2.2.2.2.1, p, l, w.2.2.2.2.2.2.2.2.2.2.1, w.2.2.2.2.2.2.2.2.2.2.2.1, w.2.2.2.2.2.2.2.2.2.2.2.2.1, w.2.2.2.2.2.2.2.2.2.2.2.2.2)) hk (hC.2 (rk_pos g)) hM ⟨e1, e2, rfl, rfl, p0, p2, l9⟩ k9 rfl g hl
        refine ⟨l, c, q, v, s, r2, r', m', k1, k2, fr, ?_⟩
        rcases k3 with k3 | ⟨k3, k4, k5, k6, k7, k8, k9', k10⟩
        · exact Or.inr (Or.inl k3)
        · exact Or.inr (Or.inr (Or.inr ⟨k3, k4, Int32.lt_of_le_of_lt p1 k5, k6, k7, k8, k9', k10⟩))
      · exact absurd g q
    · exact absurd g d
    · replace hC := iv_keep (hC.1 (by decide)) k9
      by_cases z : p = m.1.1.1.1.2
      · have b0 : txat w.1 w.2.2.2.2.2.1 p = 0 := if_pos (by rw [e2, z]; exact Int32.le_refl _)
        exact ⟨l, txat w.1 w.2.2.2.2.2.1 p, p, 0, p + 1, 0, 1, _, hC.1 b0, hM.1 z, ⟨rfl, rfl, rfl, rfl, rfl⟩, Or.inl ⟨b0, rfl, rfl, rfl, rfl⟩⟩
      · have pin : p < w.2.2.2.2.2.1 := by
          rcases Int32.le_iff_lt_or_eq.mp p2 with h | h
          · exact h
          · exact absurd (h.trans e2) z
        have bb := bt p p0 pin
        have be := txat_pos (tx := w.1) pin
        rw [← be] at bb
        have bn : ¬ txat w.1 w.2.2.2.2.2.1 p = 0 := fun q => by rw [q] at bb; exact absurd bb.1 (by decide)
        have up := up_le p0 pin l9
        have sp : w.2.2.2.2.2.2.2.2.1 < p + 1 := Int32.lt_of_le_of_lt p1 (by grind)
        rcases iv_Mo_isLetter (hM.2 z) with ⟨q, hM⟩ | ⟨-, hM⟩
        · exact absurd q g.1
        · rcases iv_Mo_isDigit (hM.1 rfl) with ⟨q, hM⟩ | ⟨-, hM⟩
          · exact absurd q d
          · rcases rl_signs (hM.1 rfl) with ⟨sc, y, hM⟩ | ⟨sc, y, hM⟩
            · exact ⟨l, txat w.1 w.2.2.2.2.2.1 p, p, 0, p + 1, 1, 1, _, hC.2 bn, hM, ⟨rfl, rfl, rfl, rfl, rfl⟩, Or.inr (Or.inr (Or.inr ⟨rfl, rfl, sp, up.2.1, rfl, rfl, rfl, Or.inl ⟨sc, rfl⟩⟩))⟩
            · exact ⟨l, txat w.1 w.2.2.2.2.2.1 p, p, 0, p + 1, 1, 0, _, hC.2 bn, hM, ⟨rfl, rfl, rfl, rfl, rfl⟩, Or.inr (Or.inr (Or.inl ⟨rfl, ⟨bb.1, bb.2, sc⟩, rfl, sp, up.2.1⟩))⟩
/-- a word of the class and what go does there -/
def STP (tx : Nat → Int32) (sz p l c q : Int32) (v : Int64) (p' l' : Int32) : Prop := ∀ (m : T_Mo) (PM : Int32 → T_Mo → Prop), m.1.1.1.1.1 = tx → m.1.1.1.1.2 = sz → m.1.1.1.2.1 = p → m.1.1.1.2.2.1 = l → wp_Mo_go m PM → ∃ r' m', PM r' m' ∧ Fr m m' ∧ ((c = 0 ∧ r' = 1 ∧ m'.1.1.1.2.2.2 = 1 ∧ m'.1.1.2.2.1 = q) ∨ (r' = 0 ∧ (c = 131 ∨ dead c)) ∨ (r' = 1 ∧ m'.1.1.1.2.1 = p' ∧ m'.1.1.1.2.2.1 = l' ∧ m'.1.1.2.2.1 = q ∧ Tok c v m'))
def LX (w : T_Wd) (tx : Nat → Int32) (sz : Int32) (pl ln : Nat → Int32) (n : Nat) : Prop := ∀ k : Nat, k < n → STP tx sz (pl k) (ln k) (w.2.1 k) (w.2.2.2.1 k) (w.2.2.2.2.1 k) (pl (k + 1)) (ln (k + 1))
def lastc (c : Int32) : Prop := c = 0 ∨ c = 131
def WE (w : T_Wd) (n : Nat) : Prop := ∀ k : Nat, k < n → (lastc (w.2.1 k) ↔ k + 1 = n)
def SPI (w : T_Wd) (tx : Nat → Int32) (sz : Int32) (x1 x2 : Int32) : Prop := w.1 = tx ∧ w.2.2.2.2.2.1 = sz ∧ sz ≤ 4000 ∧ w.2.2.2.2.2.2.1 = x2 ∧ (0 : Int32) ≤ x2 ∧ x2 ≤ 4001 ∧ (¬ x1 = 0 → (0 : Int32) ≤ w.2.2.2.2.2.2.2.2.1 ∧ x2 ≤ w.2.2.2.2.2.2.2.2.1 ∧ w.2.2.2.2.2.2.2.2.1 ≤ sz) ∧ (x1 = 0 → WE w x2.toNatClampNeg ∧ (1 : Int32) ≤ x2) ∧ (¬ x1 = 0 → ∀ k : Nat, k < x2.toNatClampNeg → ¬ lastc (w.2.1 k)) ∧ ∃ pl ln : Nat → Int32, pl 0 = 0 ∧ ln 0 = 1 ∧ pl x2.toNatClampNeg = w.2.2.2.2.2.2.2.2.1 ∧ ln x2.toNatClampNeg = w.2.2.2.2.2.2.2.2.2.1 ∧ LX w tx sz pl ln x2.toNatClampNeg
def md (m : T_Mo) (tx : Nat → Int32) (sz p l : Int32) : T_Mo := (((((tx, sz), (p, (l, m.1.1.1.2.2.2))), ((m.1.1.2.1.1, m.1.1.2.1.2), (m.1.1.2.2.1, (m.1.1.2.2.2.1, m.1.1.2.2.2.2)))), (((m.1.2.1.1.1, m.1.2.1.1.2), (m.1.2.1.2.1, (m.1.2.1.2.2.1, m.1.2.1.2.2.2))), ((m.1.2.2.1.1, (m.1.2.2.1.2.1, m.1.2.2.1.2.2)), (m.1.2.2.2.1, (m.1.2.2.2.2.1, m.1.2.2.2.2.2))))), ((((m.2.1.1.1.1, m.2.1.1.1.2), (m.2.1.1.2.1, (m.2.1.1.2.2.1, m.2.1.1.2.2.2))), ((m.2.1.2.1.1, m.2.1.2.1.2), (m.2.1.2.2.1, (m.2.1.2.2.2.1, m.2.1.2.2.2.2)))), (((m.2.2.1.1.1, m.2.2.1.1.2), (m.2.2.1.2.1, (m.2.2.1.2.2.1, m.2.2.1.2.2.2))), ((m.2.2.2.1.1, (m.2.2.2.1.2.1, m.2.2.2.1.2.2)), (m.2.2.2.2.1, (m.2.2.2.2.2.1, m.2.2.2.2.2.2))))))
theorem sg_nl {c : Int32} (h : sg c) : ¬ (c = 0 ∨ c = 131) := by
  intro q
  unfold sg at h
  rcases q with q | q <;> rw [q] at h <;> exact absurd h (by decide)
theorem Tok_nl {c : Int32} {v : Int64} {m : T_Mo} (h : Tok c v m) : ¬ lastc c := by
  unfold lastc
  rcases h with ⟨h, -⟩ | ⟨h, -⟩ | ⟨h, -⟩ | ⟨h, -⟩
  · exact sg_nl h
  · rw [h]; decide
  · rw [h]; decide
  · rw [h]; exact KP_nl (KP_all (wo m))
theorem rl_word1 (m0 : T_Mo) {kw : T_Kw} {w : T_Wd} {PC : Int32 → T_Wd → Prop} (hk : KWz kw) (s0 : (0 : Int32) ≤ w.2.2.2.2.2.2.2.2.1) (s1 : w.2.2.2.2.2.2.2.2.1 ≤ w.2.2.2.2.2.1) (l9 : w.2.2.2.2.2.1 ≤ 4000) (bt : BTx w.1 w.2.2.2.2.2.1) (k9 : w.2.2.2.2.2.2.1 ≤ 4000) (hC : wp_Wd_skipBlanks w (fun (r1 : Unit) (u1 : T_Wd) => wp_Wd_splitWord u1 kw PC)) : ∃ l c q v s r2, PC r2 (nxt w c q v s l) ∧ (∀ (m : T_Mo) (PM : Int32 → T_Mo → Prop), LM w m → wp_Mo_go m PM → ∃ r' m', PM r' m' ∧ Fr m m' ∧ TKR w l c v s r2 r' m') ∧ ((c = 0 ∧ r2 = 0) ∨ (c = 131 ∧ r2 = 0) ∨ (¬ lastc c ∧ r2 = 1 ∧ w.2.2.2.2.2.2.2.2.1 < s ∧ s ≤ w.2.2.2.2.2.1)) := by
  obtain ⟨r1, u1, a1, b1⟩ := dt_Wd_skipBlanks hC
  have h1 := b1 _ hC
  obtain ⟨r2, u2, a2, b2⟩ := dt_Wd_splitWord h1
  have hP := b2 _ h1
  have hC2 : wp_Wd_skipBlanks w (fun (r1 : Unit) (u1 : T_Wd) => wp_Wd_splitWord u1 kw (fun r u => r = r2 ∧ u = u2)) := a1 _ (a2 _ ⟨rfl, rfl⟩)
  have all : ∀ (m : T_Mo) (PM : Int32 → T_Mo → Prop), LM w m → wp_Mo_go m PM → ∃ l c q v s r' m', (u2 = nxt w c q v s l) ∧ PM r' m' ∧ Fr m m' ∧ TKR w l c v s r2 r' m' := by
    intro m PM lm hM
    obtain ⟨l, c, q, v, s, r3, r', m', ⟨e1, e2⟩, k2, fr, k3⟩ := rl_word hk lm bt k9 hC2 hM
    rw [e1] at k3
    exact ⟨l, c, q, v, s, r', m', e2.symm, k2, fr, k3⟩
  obtain ⟨l, c, q, v, s, r', m', e, -, -, k⟩ := all (md m0 w.1 w.2.2.2.2.2.1 w.2.2.2.2.2.2.2.2.1 w.2.2.2.2.2.2.2.2.2.1) (fun _ _ => True) ⟨rfl, rfl, rfl, rfl, s0, s1, l9⟩ (s_Mo_go (g := md m0 w.1 w.2.2.2.2.2.1 w.2.2.2.2.2.2.2.2.1 w.2.2.2.2.2.2.2.2.2.1) ⟨s0, s1, l9⟩ ⟨rfl, rfl, rfl, rfl, rfl⟩ (fun _ _ _ => trivial))
  refine ⟨l, c, q, v, s, r2, e ▸ hP, fun m PM lm hM => ?_, ?_⟩
  · obtain ⟨l', c', q', v', s', r', m', e', k1, fr, k2⟩ := all m PM lm hM
    rw [e] at e'
    have el : l = l' := congrArg (fun z : T_Wd => z.2.2.2.2.2.2.2.2.2.1) e'
    have es : s = s' := congrArg (fun z : T_Wd => z.2.2.2.2.2.2.2.2.1) e'
    have ec : c = c' := by
      have h := congrArg (fun z : T_Wd => z.2.1 w.2.2.2.2.2.2.1.toNatClampNeg) e'
      have h2 : upd w.2.1 w.2.2.2.2.2.2.1.toNatClampNeg c w.2.2.2.2.2.2.1.toNatClampNeg = upd w.2.1 w.2.2.2.2.2.2.1.toNatClampNeg c' w.2.2.2.2.2.2.1.toNatClampNeg := h
      rw [upd_at, upd_at] at h2; exact h2
    have ev : v = v' := by
      have h := congrArg (fun z : T_Wd => z.2.2.2.2.1 w.2.2.2.2.2.2.1.toNatClampNeg) e'
      have h2 : vp_updL w.2.2.2.2.1 w.2.2.2.2.2.2.1.toNatClampNeg v w.2.2.2.2.2.2.1.toNatClampNeg = vp_updL w.2.2.2.2.1 w.2.2.2.2.2.2.1.toNatClampNeg v' w.2.2.2.2.2.2.1.toNatClampNeg := h
      rw [updL_at, updL_at] at h2; exact h2
    subst el; subst es; subst ec; subst ev
    exact ⟨r', m', k1, fr, k2⟩
  · rcases k with ⟨h1, h2, -⟩ | ⟨-, h1, h2⟩ | ⟨-, h1, h2, h3, h4⟩ | ⟨-, h2, h3, h4, -, -, -, h5⟩
    · exact Or.inl ⟨h1, h2⟩
    · exact Or.inr (Or.inl ⟨h1, h2⟩)
    · refine Or.inr (Or.inr ⟨fun q => ?_, h2, h3, h4⟩)
      unfold dead at h1; unfold lastc at q
      rcases q with q | q
      · rw [q] at h1; exact absurd h1.1 (by decide)
      · rw [q] at h1; exact absurd h1.2.1 (by decide)
    · exact Or.inr (Or.inr ⟨Tok_nl h5, h2, h3, h4⟩)
/-- what the words' loop leaves -/
def SPE (w : T_Wd) (tx : Nat → Int32) (sz : Int32) : Prop := w.1 = tx ∧ w.2.2.2.2.2.1 = sz ∧ (1 : Int32) ≤ w.2.2.2.2.2.2.1 ∧ w.2.2.2.2.2.2.1 ≤ 4001 ∧ WE w w.2.2.2.2.2.2.1.toNatClampNeg ∧ ∃ pl ln : Nat → Int32, pl 0 = 0 ∧ ln 0 = 1 ∧ LX w tx sz pl ln w.2.2.2.2.2.2.1.toNatClampNeg
set_option maxHeartbeats 1000000 in
theorem rl_split_L (m0 : T_Mo) {kw : T_Kw} {tx : Nat → Int32} {sz : Int32} (hk : KWz kw) (bt : BTx tx sz) : ∀ (n : Nat) (w : T_Wd) (x1 x2 : Int32) (K : T_Wd → Int32 → Int32 → Prop) (post : Unit → T_Wd → Prop), wp_Wd_split_L19 kw K post n w x1 x2 → SPI w tx sz x1 x2 → ∃ w' y1 y2, K w' y1 y2 ∧ SPE w' tx sz := by
  intro n
  induction n with
  | zero => intro w x1 x2 K post h; exact False.elim h
  | succ n ih =>
    intro w x1 x2 K post h inv
    obtain ⟨i1, i2, i3, i4, i5, i6, i8, i9, i10, pl, ln, j1, j2, j3, j4, j5⟩ := inv
    rw [wp_Wd_split_L19] at h
    by_cases z : x1 = 0
    · have hK : K w x1 x2 := by
        by_cases c : (4000 : Int32) < x2
        · exact h.1 c
        · exact (h.2 c).1 z
      have := i9 z
      refine ⟨w, x1, x2, hK, i1, i2, ?_, ?_, ?_, pl, ln, j1, j2, ?_⟩
      · rw [i4]; exact this.2
      · rw [i4]; exact i6
      · rw [i4]; exact this.1
      · rw [i4]; exact j5
    · obtain ⟨i7, s⟩ := i8 z
      have nm := i10 z
      have c : ¬ (4000 : Int32) < x2 := Int32.not_lt.mpr (Int32.le_trans s.1 (Int32.le_trans s.2 i3))
      replace h := (h.2 c).2 z
      have c' : x2 ≤ 4000 := Int32.not_lt.mp c
      obtain ⟨l, c0, q, v, s', r2, hP, all, kind⟩ := rl_word1 m0 hk i7 (by rw [i2]; exact s.2) (by rw [i2]; exact i3) (by rw [i1, i2]; exact bt) (by rw [i4]; exact c') h
      have x2s : (0 : Int32) ≤ x2 + 1 ∧ x2 + 1 ≤ 4001 ∧ (1 : Int32) ≤ x2 + 1 ∧ ∀ y : Int32, w.2.2.2.2.2.2.2.2.1 < y → y ≤ 4000 → x2 + 1 ≤ y := by
        refine ⟨?_, ?_, ?_, fun y hy hy9 => ?_⟩
        · grind
        · grind
        · grind
        · have := s.1; grind
      have xu : (x2 + (1 : Int32)).toNatClampNeg = x2.toNatClampNeg + 1 := by
        rcases Int32.le_iff_lt_or_eq.mp c' with hlt | heq
        · exact ix_up i5 hlt
        · rw [heq]; decide
      have stp : ∀ p' l' : Int32, (r2 = 1 → p' = s' ∧ l' = l) → STP tx sz w.2.2.2.2.2.2.2.2.1 w.2.2.2.2.2.2.2.2.2.1 c0 l v p' l' := by
        intro p' l' hp m PM e1 e2 e3 e4 hM
        obtain ⟨r', m', k1, fr, k2⟩ := all m PM ⟨i1.trans e1.symm, i2.trans e2.symm, e3.symm, e4.symm, i7, by rw [i2]; exact s.2, by rw [i2]; exact i3⟩ hM
        refine ⟨r', m', k1, fr, ?_⟩
        rcases k2 with ⟨h1, -, h3, h4, h5⟩ | ⟨h1, h2, -⟩ | ⟨h1, h2, -⟩ | ⟨h1, h2, -, -, h5, h6, h7, h8⟩
        · exact Or.inl ⟨h1, h3, h4, h5⟩
        · exact Or.inr (Or.inl ⟨h1, Or.inl h2⟩)
        · exact Or.inr (Or.inl ⟨h1, Or.inr h2⟩)
        · obtain ⟨p1, p2⟩ := hp h2
          exact Or.inr (Or.inr ⟨h1, by rw [p1]; exact h5, by rw [p2]; exact h6, h7, h8⟩)
      have old : ∀ k : Nat, k < x2.toNatClampNeg → (nxt w c0 q v s' l).2.1 k = w.2.1 k ∧ (nxt w c0 q v s' l).2.2.2.1 k = w.2.2.2.1 k ∧ (nxt w c0 q v s' l).2.2.2.2.1 k = w.2.2.2.2.1 k := by
        intro k hk9
        have ne : k ≠ w.2.2.2.2.2.2.1.toNatClampNeg := by rw [i4]; omega
        exact ⟨upd_ne ne, upd_ne ne, updL_ne ne⟩
      have new : (nxt w c0 q v s' l).2.1 x2.toNatClampNeg = c0 ∧ (nxt w c0 q v s' l).2.2.2.1 x2.toNatClampNeg = l ∧ (nxt w c0 q v s' l).2.2.2.2.1 x2.toNatClampNeg = v := by
        rw [← i4]; exact ⟨upd_at, upd_at, updL_at⟩
      refine ih _ _ _ _ _ hP ⟨i1, i2, i3, ?_, x2s.1, x2s.2.1, ?_, ?_, ?_, (fun k => if k = x2.toNatClampNeg + 1 then s' else pl k), (fun k => if k = x2.toNatClampNeg + 1 then l else ln k), ?_, ?_, ?_, ?_, ?_⟩
      · show w.2.2.2.2.2.2.1 + 1 = x2 + 1; rw [i4]
      · intro r0
        rcases kind with ⟨-, k2⟩ | ⟨-, k2⟩ | ⟨-, -, k3, k4⟩
        · exact absurd k2 r0
        · exact absurd k2 r0
        · rw [i2] at k4; exact ⟨Int32.le_trans i7 (Int32.le_of_lt k3), x2s.2.2.2 s' k3 (Int32.le_trans k4 i3), k4⟩
      · intro r0
        refine ⟨fun k hk9 => ?_, x2s.2.2.1⟩
        rw [xu] at hk9 ⊢
        rcases Nat.lt_or_ge k x2.toNatClampNeg with hlt | hge
        · rw [(old k hlt).1]
          exact ⟨fun q => absurd q (nm k hlt), fun q => by omega⟩
        · have ek : k = x2.toNatClampNeg := by omega
          rw [ek, new.1]
          refine ⟨fun _ => rfl, fun _ => ?_⟩
          rcases kind with ⟨k1, -⟩ | ⟨k1, -⟩ | ⟨-, k2, -⟩
          · exact Or.inl k1
          · exact Or.inr k1
          · rw [k2] at r0; exact absurd r0 (by decide)
      · intro r0 k hk9
        rw [xu] at hk9
        rcases Nat.lt_or_ge k x2.toNatClampNeg with hlt | hge
        · rw [(old k hlt).1]; exact nm k hlt
        · have ek : k = x2.toNatClampNeg := by omega
          rw [ek, new.1]
          rcases kind with ⟨-, k2⟩ | ⟨-, k2⟩ | ⟨k1, -⟩
          · exact absurd k2 r0
          · exact absurd k2 r0
          · exact k1
      · show (if 0 = x2.toNatClampNeg + 1 then s' else pl 0) = 0
        rw [if_neg (by omega)]; exact j1
      · show (if 0 = x2.toNatClampNeg + 1 then l else ln 0) = 1
        rw [if_neg (by omega)]; exact j2
      · show (if (x2 + 1).toNatClampNeg = x2.toNatClampNeg + 1 then s' else _) = s'
        rw [if_pos xu]
      · show (if (x2 + 1).toNatClampNeg = x2.toNatClampNeg + 1 then l else _) = l
        rw [if_pos xu]
      · intro k hk9
        rw [xu] at hk9
        rcases Nat.lt_or_ge k x2.toNatClampNeg with hlt | hge
        · obtain ⟨o1, o2, o3⟩ := old k hlt
          rw [o1, o2, o3]
          show STP tx sz (if k = x2.toNatClampNeg + 1 then s' else pl k) (if k = x2.toNatClampNeg + 1 then l else ln k) _ _ _ (if k + 1 = x2.toNatClampNeg + 1 then s' else pl (k + 1)) (if k + 1 = x2.toNatClampNeg + 1 then l else ln (k + 1))
          rw [if_neg (by omega), if_neg (by omega), if_neg (by omega), if_neg (by omega)]
          exact j5 k hlt
        · have ek : k = x2.toNatClampNeg := by omega
          rw [ek, new.1, new.2.1, new.2.2]
          show STP tx sz (if x2.toNatClampNeg = x2.toNatClampNeg + 1 then s' else pl x2.toNatClampNeg) (if x2.toNatClampNeg = x2.toNatClampNeg + 1 then l else ln x2.toNatClampNeg) _ _ _ (if x2.toNatClampNeg + 1 = x2.toNatClampNeg + 1 then s' else pl (x2.toNatClampNeg + 1)) (if x2.toNatClampNeg + 1 = x2.toNatClampNeg + 1 then l else ln (x2.toNatClampNeg + 1))
          rw [if_neg (by omega), if_neg (by omega), if_pos rfl, if_pos rfl, j3, j4]
          exact stp s' l (fun _ => ⟨rfl, rfl⟩)
/-- the current word is that at its place -/
def CUR (w : T_Wd) : Prop := w.2.2.2.2.2.2.2.2.2.2.1 = w.2.1 w.2.2.2.2.2.2.2.1.toNatClampNeg ∧ w.2.2.2.2.2.2.2.2.2.2.2.2.1 = w.2.2.2.1 w.2.2.2.2.2.2.2.1.toNatClampNeg ∧ w.2.2.2.2.2.2.2.2.2.2.2.2.2 = w.2.2.2.2.1 w.2.2.2.2.2.2.2.1.toNatClampNeg
theorem cnt_neg {c : Int32} (h : (1 : Int32) ≤ c) (h9 : c ≤ 4001) : ¬ c - (1 : Int32) ≤ -1 := by grind
set_option maxHeartbeats 1000000 in
theorem rl_split (m0 : T_Mo) {kw : T_Kw} {w : T_Wd} {PC : Unit → T_Wd → Prop} (hk : KWz kw) (bt : BTx w.1 w.2.2.2.2.2.1) (l0 : (0 : Int32) ≤ w.2.2.2.2.2.1) (l9 : w.2.2.2.2.2.1 ≤ 4000) (h : wp_Wd_split w kw PC) : ∃ u : T_Wd, PC () u ∧ u.1 = w.1 ∧ u.2.2.2.2.2.1 = 0 ∧ u.2.2.2.2.2.2.2.1 = 0 ∧ CUR u ∧ (1 : Int32) ≤ u.2.2.2.2.2.2.1 ∧ u.2.2.2.2.2.2.1 ≤ 4001 ∧ WE u u.2.2.2.2.2.2.1.toNatClampNeg ∧ ∃ pl ln : Nat → Int32, pl 0 = 0 ∧ ln 0 = 1 ∧ LX u w.1 w.2.2.2.2.2.1 pl ln u.2.2.2.2.2.2.1.toNatClampNeg := by
  have z0 : (0 : Int32).toNatClampNeg = 0 := rfl
  have ini : SPI (w.1, w.2.1, w.2.2.1, w.2.2.2.1, w.2.2.2.2.1, w.2.2.2.2.2.1, (0 : Int32), w.2.2.2.2.2.2.2.1, (0 : Int32), (1 : Int32), w.2.2.2.2.2.2.2.2.2.2.1, w.2.2.2.2.2.2.2.2.2.2.2.1, w.2.2.2.2.2.2.2.2.2.2.2.2.1, w.2.2.2.2.2.2.2.2.2.2.2.2.2) w.1 w.2.2.2.2.2.1 1 0 := by
    refine ⟨rfl, rfl, l9, rfl, Int32.le_refl _, by decide, fun _ => ⟨Int32.le_refl _, Int32.le_refl _, l0⟩, fun q => absurd q (by decide), fun _ k hk9 => ?_, (fun _ => 0), (fun _ => 1), rfl, rfl, rfl, rfl, fun k hk9 => ?_⟩
    · rw [z0] at hk9; exact absurd hk9 (Nat.not_lt_zero _)
    · rw [z0] at hk9; exact absurd hk9 (Nat.not_lt_zero _)
  unfold wp_Wd_split at h
  obtain ⟨n, h⟩ := h
  obtain ⟨w', y1, y2, h, e1, e2, e3, e4, e5, pl, ln, e6, e7, e8⟩ := rl_split_L m0 hk bt n _ _ _ _ _ h ini
  unfold wp_Wd_forget wp_Wd_advance at h
  dsimp only at h
  replace h := ((h.2 (cnt_neg e3 e4)).2 (by decide)).2 (by decide)
  have m1 : (-1 : Int32) + (1 : Int32) = 0 := by decide
  rw [m1] at h
  exact ⟨_, h.2.2.2.2, e1, rfl, rfl, ⟨rfl, rfl, rfl⟩, e3, e4, e5, pl, ln, e6, e7, e8⟩

theorem on_toInt {k : Nat} (h : k < 2147483648) : (Int32.ofNat k).toInt = (k : Int) := by
  exact Int32.toInt_ofNat_of_lt (by omega)
theorem ix_on {k : Nat} (h : k < 2147483648) : (Int32.ofNat k).toNatClampNeg = k := by
  show (Int32.ofNat k).toInt.toNat = k
  rw [on_toInt h]; rfl
theorem on_ix {x : Int32} (h : (0 : Int32) ≤ x) : Int32.ofNat x.toNatClampNeg = x := by
  rw [Int32.le_iff_toInt_le] at h
  have e0 : (0 : Int32).toInt = 0 := rfl
  have h9 := Int32.toInt_lt x
  apply Int32.toInt_inj.mp
  have e : x.toNatClampNeg = x.toInt.toNat := rfl
  rw [on_toInt (by rw [e]; omega), e]; omega
theorem on_sub {k : Nat} (h : k < 2147483648) : (Int32.ofNat k - (1 : Int32)).toInt = (k : Int) - 1 := by
  rw [Int32.toInt_sub, on_toInt h, show (1 : Int32).toInt = 1 from rfl]; exact Int.bmod_eq_of_le (by omega) (by omega)
theorem on_succ {k : Nat} (h : k < 2147483647) : Int32.ofNat k + (1 : Int32) = Int32.ofNat (k + 1) := by
  apply Int32.toInt_inj.mp
  rw [Int32.toInt_add, on_toInt (by omega), on_toInt (by omega), show (1 : Int32).toInt = 1 from rfl]
  rw [Int.bmod_eq_of_le (by omega) (by omega)]; omega
theorem on_pred {k : Nat} (h : k < 2147483647) : Int32.ofNat (k + 1) - (1 : Int32) = Int32.ofNat k := by
  apply Int32.toInt_inj.mp
  rw [on_sub (by omega), on_toInt (by omega)]; omega
theorem on_inj {j k : Nat} (hj : j < 2147483648) (hk : k < 2147483648) (e : Int32.ofNat j = Int32.ofNat k) : j = k := by
  have := congrArg Int32.toInt e
  rw [on_toInt hj, on_toInt hk] at this; omega
theorem on_le {j k : Nat} (hj : j < 2147483648) (hk : k < 2147483648) : Int32.ofNat j ≤ Int32.ofNat k ↔ j ≤ k := by
  rw [Int32.le_iff_toInt_le, on_toInt hj, on_toInt hk]; omega
theorem on_lt {j k : Nat} (hj : j < 2147483648) (hk : k < 2147483648) : Int32.ofNat j < Int32.ofNat k ↔ j < k := by
  rw [Int32.lt_iff_toInt_lt, on_toInt hj, on_toInt hk]; omega
/-- roots, the last first: from the boundary c down to low -/
def CH (L : Nat → Int32) (low : Nat) : Nat → List Nat → Prop
  | c, [] => c = low
  | c, r :: t => c = r + 1 ∧ L r = Int32.ofNat (L r).toNatClampNeg ∧ (L r).toNatClampNeg ≤ r ∧ CH L low (L r).toNatClampNeg t
/-- nodes chained by nexts -/
def NX (N : Nat → Int32) : Int32 → List Nat → Prop
  | f, [] => f = -1
  | f, k :: t => f = Int32.ofNat k ∧ NX N (N k) t
/-- nodes side by side in an array -/
def KL (K : Nat → Int32) : Nat → List Nat → Prop
  | _, [] => True
  | s, k :: t => K s = Int32.ofNat k ∧ KL K (s + 1) t
theorem CH_low {L : Nat → Int32} {low : Nat} : ∀ (l : List Nat) (c : Nat), CH L low c l → low ≤ c
  | [], c, h => by have h : c = low := h; omega
  | r :: t, c, h => by have a := CH_low t _ h.2.2.2; have b := h.2.2.1; have e := h.1; omega
theorem CH_in {L : Nat → Int32} {low : Nat} : ∀ (l : List Nat) (c : Nat), CH L low c l → ∀ k, k ∈ l → low ≤ k ∧ k < c
  | [], c, h, k, hk => absurd hk List.not_mem_nil
  | r :: t, c, h, k, hk => by
    obtain ⟨h1, h2, h3, h4⟩ := h
    have a := CH_low t _ h4
    rcases List.mem_cons.mp hk with e | e
    · omega
    · have := CH_in t _ h4 k e; omega
theorem CH_len {L : Nat → Int32} {low : Nat} : ∀ (l : List Nat) (c : Nat), CH L low c l → low + l.length ≤ c
  | [], c, h => by have h : c = low := h; show low + 0 ≤ c; omega
  | r :: t, c, h => by have a := CH_len t _ h.2.2.2; have b := h.2.2.1; have e := h.1; rw [List.length_cons]; omega
theorem CH_congr {L M : Nat → Int32} {low : Nat} : ∀ (l : List Nat) (c : Nat), CH L low c l → (∀ k, k < c → M k = L k) → CH M low c l
  | [], c, h, _ => h
  | r :: t, c, h, e => by
    obtain ⟨h1, h2, h3, h4⟩ := h
    have er := e r (by omega)
    refine ⟨h1, ?_, ?_, ?_⟩
    · rw [er]; exact h2
    · rw [er]; exact h3
    · rw [er]; exact CH_congr t _ h4 (fun k hk => e k (by omega))
theorem CH_cover {L : Nat → Int32} {low : Nat} : ∀ (l : List Nat) (c : Nat), CH L low c l → ∀ k, low ≤ k → k < c → ∃ r, r ∈ l ∧ (L r).toNatClampNeg ≤ k ∧ k ≤ r
  | [], c, h, k, h1, h2 => by have h : c = low := h; omega
  | r :: t, c, h, k, h1, h2 => by
    obtain ⟨g1, g2, g3, g4⟩ := h
    rcases Nat.lt_or_ge k (L r).toNatClampNeg with q | q
    · obtain ⟨s, s1, s2, s3⟩ := CH_cover t _ g4 k h1 q
      exact ⟨s, List.mem_cons_of_mem _ s1, s2, s3⟩
    · exact ⟨r, List.mem_cons_self, q, by omega⟩
/-- no node of the chain lies within a later node -/
def LAM (L : Nat → Int32) (n : Nat) : Prop := ∀ i, i < n → L i = Int32.ofNat (L i).toNatClampNeg ∧ (L i).toNatClampNeg ≤ i ∧ ∀ k, (L i).toNatClampNeg ≤ k → k ≤ i → (L i).toNatClampNeg ≤ (L k).toNatClampNeg
theorem CH_cross {L : Nat → Int32} {low n : Nat} (lam : LAM L n) : ∀ (l : List Nat) (c : Nat), CH L low c l → c ≤ n → (∀ i, c ≤ i → i < n → c ≤ (L i).toNatClampNeg) → ∀ r, r ∈ l → ∀ i, r < i → i < n → r < (L i).toNatClampNeg
  | [], c, h, _, _, r, hr => absurd hr List.not_mem_nil
  | s :: t, c, h, cn, hc, r, hr => by
    obtain ⟨h1, h2, h3, h4⟩ := h
    rcases List.mem_cons.mp hr with e | e
    · intro i hi hn
      subst e
      have := hc i (by omega) hn; omega
    · refine CH_cross lam t _ h4 (by omega) (fun i hi hn => ?_) r e
      rcases Nat.lt_or_ge i c with q | q
      · exact (lam s (by omega)).2.2 i hi (by omega)
      · have := hc i q hn; omega
theorem NX_congr {N M : Nat → Int32} : ∀ (l : List Nat) (f : Int32), NX N f l → (∀ k, k ∈ l → M k = N k) → NX M f l
  | [], f, h, _ => h
  | k :: t, f, h, e => by
    refine ⟨h.1, ?_⟩
    rw [e k List.mem_cons_self]
    exact NX_congr t _ h.2 (fun j hj => e j (List.mem_cons_of_mem _ hj))
theorem KL_congr {K M : Nat → Int32} : ∀ (l : List Nat) (s : Nat), KL K s l → (∀ j, s ≤ j → j < s + l.length → M j = K j) → KL M s l
  | [], s, _, _ => trivial
  | k :: t, s, h, e => by
    rw [List.length_cons] at e
    exact ⟨(e s (by omega) (by omega)).trans h.1, KL_congr t _ h.2 (fun j h1 h2 => e j (by omega) (by omega))⟩
theorem KL_app {K : Nat → Int32} : ∀ (l m : List Nat) (s : Nat), KL K s l → KL K (s + l.length) m → KL K s (l ++ m)
  | [], m, s, _, h => by have e : s + ([] : List Nat).length = s := rfl; rw [e] at h; exact h
  | k :: t, m, s, h, g => ⟨h.1, KL_app t m (s + 1) h.2 (by rw [List.length_cons, show s + (t.length + 1) = s + 1 + t.length by omega] at g; exact g)⟩
theorem KL_get {K : Nat → Int32} : ∀ (l : List Nat) (s : Nat), KL K s l → ∀ j (hj : j < l.length), K (s + j) = Int32.ofNat l[j]
  | [], s, _, j, hj => absurd hj (Nat.not_lt_zero _)
  | k :: t, s, h, 0, hj => h.1
  | k :: t, s, h, j + 1, hj => by
    have := KL_get t (s + 1) h.2 j (by rw [List.length_cons] at hj; omega)
    rw [show s + (j + 1) = s + 1 + j by omega, this]; rfl
theorem KL_mk {K : Nat → Int32} : ∀ (l : List Nat) (s : Nat), (∀ j (hj : j < l.length), K (s + j) = Int32.ofNat l[j]) → KL K s l
  | [], s, _ => trivial
  | k :: t, s, h => by
    refine ⟨?_, KL_mk t (s + 1) (fun j hj => ?_)⟩
    · have := h 0 (by rw [List.length_cons]; omega); exact this
    · have := h (j + 1) (by rw [List.length_cons]; omega)
      rw [show s + (j + 1) = s + 1 + j by omega] at this; exact this
set_option maxHeartbeats 1000000 in
theorem iv_chain {low : Nat} {par : Int32} (l9 : low < 1070) : ∀ (n : Nat) (z : T_Nd) (x3 x4 x5 : Int32) (K : T_Nd → Int32 → Int32 → Int32 → Int32 → Int32 → Prop) (post : Int32 → T_Nd → Prop) (c : Nat) (l a : List Nat), wp_Nd_chainFrom_L13 K post n z (Int32.ofNat low) par x3 x4 x5 → CH z.2.2.2.2.1 low c l → x4 = Int32.ofNat c - (1 : Int32) → NX z.2.2.2.2.2.2.2.2.1 x3 a → (∀ k, k ∈ a → c ≤ k) → 0 ≤ x5.toInt → x5.toInt + c ≤ 1069 → ∃ x3' x4' x5' nx pa, K (z.1, z.2.1, z.2.2.1, z.2.2.2.1, z.2.2.2.2.1, z.2.2.2.2.2.1, pa, z.2.2.2.2.2.2.2.1, nx, z.2.2.2.2.2.2.2.2.2.1, z.2.2.2.2.2.2.2.2.2.2.1, z.2.2.2.2.2.2.2.2.2.2.2.1, z.2.2.2.2.2.2.2.2.2.2.2.2.1, z.2.2.2.2.2.2.2.2.2.2.2.2.2) (Int32.ofNat low) par x3' x4' x5' ∧ NX nx x3' (l.reverse ++ a) ∧ (∀ k, ¬ k ∈ l → nx k = z.2.2.2.2.2.2.2.2.1 k ∧ pa k = z.2.2.2.2.2.2.1 k) ∧ (∀ k, k ∈ l → pa k = par) := by
  intro n
  induction n with
  | zero => intro z x3 x4 x5 K post c l a h; exact False.elim h
  | succ n ih =>
    intro z x3 x4 x5 K post c l a h ch e4 nx ac x0 x9
    rw [wp_Nd_chainFrom_L13] at h
    have nx5 : ¬ (1070 : Int32) ≤ x5 := by
      rw [Int32.le_iff_toInt_le, show (1070 : Int32).toInt = 1070 from rfl]; omega
    replace h := h.2 nx5
    have t4 : x4.toInt = (c : Int) - 1 := by rw [e4]; exact on_sub (by omega)
    cases l with
    | nil =>
      have ec : c = low := ch
      have q : x4 < Int32.ofNat low := by rw [Int32.lt_iff_toInt_lt, t4, on_toInt (by omega)]; omega
      exact ⟨x3, x4, x5, z.2.2.2.2.2.2.2.2.1, z.2.2.2.2.2.2.1, h.1 q, nx, fun k _ => ⟨rfl, rfl⟩, fun k hk => absurd hk List.not_mem_nil⟩
    | cons r t =>
      obtain ⟨h1, h2, h3, h4⟩ := ch
      have lr := CH_low t _ h4
      have er : x4 = Int32.ofNat r := by
        apply Int32.toInt_inj.mp
        rw [t4, on_toInt (by omega)]; omega
      have ir : x4.toNatClampNeg = r := by rw [er]; exact ix_on (by omega)
      have q1 : ¬ x4 < Int32.ofNat low := by rw [Int32.lt_iff_toInt_lt, t4, on_toInt (by omega)]; omega
      have q2 : ¬ x4 < 0 := by rw [Int32.lt_iff_toInt_lt, t4, show (0 : Int32).toInt = 0 from rfl]; omega
      have q3 : ¬ (1070 : Int32) ≤ x4 := by rw [Int32.le_iff_toInt_le, t4, show (1070 : Int32).toInt = 1070 from rfl]; omega
      replace h := (((h.2 q1).2 q2).2 q3).2.2.2
      rw [ir] at h
      have x5s : (x5 + (1 : Int32)).toInt = x5.toInt + 1 := i_add1 x0 (by omega)
      obtain ⟨x3', x4', x5', nx', pa', k1, k2, k3, k4⟩ := ih _ _ _ _ _ _ (z.2.2.2.2.1 r).toNatClampNeg t (r :: a) h h4 (by rw [← h2]) ⟨er, by
        show NX (upd z.2.2.2.2.2.2.2.2.1 r x3) (upd z.2.2.2.2.2.2.2.2.1 r x3 r) a
        rw [upd_at]
        exact NX_congr a _ nx (fun k hk => upd_ne (by have := ac k hk; omega))⟩ (fun k hk => by
          rcases List.mem_cons.mp hk with e | e
          · omega
          · have := ac k e; omega) (by omega) (by omega)
      have rt : ¬ r ∈ t := fun q => by have := CH_in t _ h4 r q; omega
      refine ⟨x3', x4', x5', nx', pa', k1, ?_, fun k hk => ?_, fun k hk => ?_⟩
      · rw [List.reverse_cons, List.append_assoc]; exact k2
      · have kr : k ≠ r := fun e => hk (by rw [e]; exact List.mem_cons_self)
        have kt : ¬ k ∈ t := fun e => hk (List.mem_cons_of_mem _ e)
        obtain ⟨u1, u2⟩ := k3 k kt
        exact ⟨u1.trans (upd_ne kr), u2.trans (upd_ne kr)⟩
      · rcases List.mem_cons.mp hk with e | e
        · rw [e]; exact (k3 r rt).2.trans upd_at
        · exact k4 k e
/-- who stands behind a stop -/
def LT (kd la : Nat → Int32) : Prop → List Nat → Prop
  | _, [] => True
  | s, k :: t => (¬ la k = 0 ↔ s) ∧ LT kd la (s ∨ kd k = 20) t
theorem LT_congr {kd la kd' la' : Nat → Int32} : ∀ (l : List Nat) (s s' : Prop), (s ↔ s') → LT kd la s l → (∀ k, k ∈ l → kd' k = kd k ∧ la' k = la k) → LT kd' la' s' l
  | [], _, _, _, _, _ => trivial
  | k :: t, s, s', es, h, e => by
    obtain ⟨e1, e2⟩ := e k List.mem_cons_self
    refine ⟨by rw [e2]; exact h.1.trans es, LT_congr t _ _ ?_ h.2 (fun j hj => e j (List.mem_cons_of_mem _ hj))⟩
    rw [e1, es]
theorem nd_rev {l : List Nat} (h : l.Nodup) : l.reverse.Nodup := by
  unfold List.Nodup at h ⊢
  rw [List.pairwise_reverse]
  exact List.Pairwise.imp (fun h => Ne.symm h) h
theorem CH_nodup {L : Nat → Int32} {low : Nat} : ∀ (l : List Nat) (c : Nat), CH L low c l → l.Nodup
  | [], _, _ => List.nodup_nil
  | r :: t, c, h => by
    obtain ⟨h1, h2, h3, h4⟩ := h
    refine List.nodup_cons.mpr ⟨fun q => ?_, CH_nodup t _ h4⟩
    have := (CH_in t _ h4 r q).2
    omega
set_option maxHeartbeats 1000000 in
theorem iv_follow {x1 : Int32} {K : T_Nd → Int32 → Int32 → Int32 → Int32 → Prop} {post : Int32 → T_Nd → Prop} : ∀ (t : List Nat) (n : Nat) (z : T_Nd) (x2 x3 x4 : Int32), wp_Nd_followChain_L7 K post n z x1 x2 x3 x4 → NX z.2.2.2.2.2.2.2.2.1 x4 t → t.Nodup → (x2 = 0 ∨ x2 = 1) → (∀ k, k ∈ t → k < 1070) → 0 ≤ x3.toInt → x3.toInt + t.length ≤ 1069 → ∃ la x2' x4', K (z.1, z.2.1, z.2.2.1, z.2.2.2.1, z.2.2.2.2.1, z.2.2.2.2.2.1, z.2.2.2.2.2.2.1, z.2.2.2.2.2.2.2.1, z.2.2.2.2.2.2.2.2.1, la, z.2.2.2.2.2.2.2.2.2.2.1, z.2.2.2.2.2.2.2.2.2.2.2.1, z.2.2.2.2.2.2.2.2.2.2.2.2.1, z.2.2.2.2.2.2.2.2.2.2.2.2.2) x1 x2' (x3 + Int32.ofNat t.length) x4' ∧ LT z.1 la (¬ x2 = 0) t ∧ ∀ k, ¬ k ∈ t → la k = z.2.2.2.2.2.2.2.2.2.1 k := by
  intro t
  induction t with
  | nil =>
    intro n z x2 x3 x4 h nx _ _ _ _ x9
    cases n with
    | zero => exact False.elim h
    | succ n =>
    have e4 : x4 = -1 := nx
    have e3 : x3 + Int32.ofNat ([] : List Nat).length = x3 := Int32.add_zero x3
    have nx3 : ¬ (1070 : Int32) ≤ x3 := by
      rw [Int32.le_iff_toInt_le, show (1070 : Int32).toInt = 1070 from rfl]
      have : ([] : List Nat).length = 0 := rfl
      omega
    rw [wp_Nd_followChain_L7] at h
    rw [e3]
    exact ⟨z.2.2.2.2.2.2.2.2.2.1, x2, x4, (h.2 nx3).1 (by rw [e4]; decide), trivial, fun _ _ => rfl⟩
  | cons k t ih =>
    intro n z x2 x3 x4 h nx nd9 b2 kb x0 x9
    cases n with
    | zero => exact False.elim h
    | succ n =>
    rw [List.length_cons] at x9
    obtain ⟨e4, nx⟩ := nx
    obtain ⟨nk, nd9⟩ := List.nodup_cons.mp nd9
    have k9 := kb k List.mem_cons_self
    have nx3 : ¬ (1070 : Int32) ≤ x3 := by
      rw [Int32.le_iff_toInt_le, show (1070 : Int32).toInt = 1070 from rfl]; omega
    have t4 : x4.toInt = (k : Int) := by rw [e4]; exact on_toInt (by omega)
    have q2 : ¬ x4 < 0 := by rw [Int32.lt_iff_toInt_lt, t4, show (0 : Int32).toInt = 0 from rfl]; omega
    have q3 : ¬ (1070 : Int32) ≤ x4 := by rw [Int32.le_iff_toInt_le, t4, show (1070 : Int32).toInt = 1070 from rfl]; omega
    have ik : x4.toNatClampNeg = k := by rw [e4]; exact ix_on (by omega)
    have x3s : (x3 + (1 : Int32)).toInt = x3.toInt + 1 := i_add1 x0 (by omega)
    have e3 : x3 + Int32.ofNat (k :: t).length = (x3 + (1 : Int32)) + Int32.ofNat t.length := by
      rw [List.length_cons, ← on_succ (by omega), Int32.add_comm (Int32.ofNat t.length) 1, Int32.add_assoc]
    rw [wp_Nd_followChain_L7] at h
    replace h := (((h.2 nx3).2 q2).2 q3).2
    rw [ik] at h
    rw [e3]
    have vb : ¬ vp_nar .boolean x2 = 0 ↔ ¬ x2 = 0 := by rcases b2 with e | e <;> rw [e] <;> decide
    have go1 : ∀ (y : Int32), (y = 0 ∨ y = 1) → (¬ y = 0 ↔ (¬ x2 = 0 ∨ z.1 k = 20)) → wp_Nd_followChain_L7 K post n (z.1, z.2.1, z.2.2.1, z.2.2.2.1, z.2.2.2.2.1, z.2.2.2.2.2.1, z.2.2.2.2.2.2.1, z.2.2.2.2.2.2.2.1, z.2.2.2.2.2.2.2.2.1, (upd z.2.2.2.2.2.2.2.2.2.1 k (vp_nar .boolean x2)), z.2.2.2.2.2.2.2.2.2.2.1, z.2.2.2.2.2.2.2.2.2.2.2.1, z.2.2.2.2.2.2.2.2.2.2.2.2.1, z.2.2.2.2.2.2.2.2.2.2.2.2.2) x1 y (x3 + (1 : Int32)) (z.2.2.2.2.2.2.2.2.1 k) → ∃ la x2' x4', K (z.1, z.2.1, z.2.2.1, z.2.2.2.1, z.2.2.2.2.1, z.2.2.2.2.2.1, z.2.2.2.2.2.2.1, z.2.2.2.2.2.2.2.1, z.2.2.2.2.2.2.2.2.1, la, z.2.2.2.2.2.2.2.2.2.2.1, z.2.2.2.2.2.2.2.2.2.2.2.1, z.2.2.2.2.2.2.2.2.2.2.2.2.1, z.2.2.2.2.2.2.2.2.2.2.2.2.2) x1 x2' ((x3 + (1 : Int32)) + Int32.ofNat t.length) x4' ∧ LT z.1 la (¬ x2 = 0) (k :: t) ∧ ∀ j, ¬ j ∈ k :: t → la j = z.2.2.2.2.2.2.2.2.2.1 j := by
      intro y yb ye h
      obtain ⟨la', y', x4', h, lt, lo⟩ := ih _ _ _ _ _ h nx nd9 yb (fun j hj => kb j (List.mem_cons_of_mem _ hj)) (by omega) (by omega)
      have lk : la' k = vp_nar .boolean x2 := (lo k nk).trans upd_at
      refine ⟨la', y', x4', h, ⟨by rw [lk]; exact vb, LT_congr t _ _ ye lt (fun _ _ => ⟨rfl, rfl⟩)⟩, fun j hj => ?_⟩
      have ne : j ≠ k := fun e => hj (by rw [e]; exact List.mem_cons_self)
      exact (lo j (fun q => hj (List.mem_cons_of_mem _ q))).trans (upd_ne ne)
    by_cases c : x2 = 0
    · replace h := (h.1 c).2
      by_cases d : z.1 k = 20
      · exact go1 _ (Or.inr rfl) ⟨fun _ => Or.inr d, fun _ => by decide⟩ (h.1 d).2
      · exact go1 _ (Or.inl rfl) ⟨fun q => absurd rfl q, fun q => q.elim (fun q => absurd c q) (fun q => absurd q d)⟩ (h.2 d).2
    · exact go1 _ (Or.inr rfl) ⟨fun _ => Or.inl c, fun _ => by decide⟩ (h.2 c).2
/-- a node more -/
def AD (nd nd' : T_Nd) (n : Nat) (kind row : Int32) (value : Int64) (measure : Int32) (low : Nat) (l : List Nat) : Prop := nd'.1 = upd nd.1 n kind ∧ nd'.2.1 = upd nd.2.1 n row ∧ nd'.2.2.1 = vp_updL nd.2.2.1 n value ∧ nd'.2.2.2.1 = upd nd.2.2.2.1 n measure ∧ nd'.2.2.2.2.1 = upd nd.2.2.2.2.1 n (Int32.ofNat low) ∧ nd'.2.2.2.2.2.1 = upd nd.2.2.2.2.2.1 n (Int32.ofNat l.length) ∧ (∃ f, nd'.2.2.2.2.2.2.2.1 = upd nd.2.2.2.2.2.2.2.1 n f ∧ NX nd'.2.2.2.2.2.2.2.2.1 f l.reverse ∧ LT nd'.1 nd'.2.2.2.2.2.2.2.2.2.1 False l.reverse ∧ (∀ k, ¬ k ∈ l → nd'.2.2.2.2.2.2.2.2.2.1 k = nd.2.2.2.2.2.2.2.2.2.1 k) ∧ (∀ k, k ∈ l → nd'.2.2.2.2.2.2.1 k = Int32.ofNat n) ∧ ∀ k, ¬ k ∈ l → nd'.2.2.2.2.2.2.1 k = nd.2.2.2.2.2.2.1 k) ∧ (∀ k, ¬ k ∈ l → nd'.2.2.2.2.2.2.2.2.1 k = nd.2.2.2.2.2.2.2.2.1 k) ∧ nd'.2.2.2.2.2.2.2.2.2.2.1 = Int32.ofNat (n + 1)
set_option maxHeartbeats 2000000 in
theorem iv_add {nd : T_Nd} {kind row measure : Int32} {value : Int64} {n low : Nat} {l : List Nat} {PC : Int32 → T_Nd → Prop} (h : wp_Nd_add nd kind (Int32.ofNat low) row value measure PC) (n0 : nd.2.2.2.2.2.2.2.2.2.2.1 = Int32.ofNat n) (n9 : n < 1069) (ch : CH nd.2.2.2.2.1 low n l) : ∃ nd', PC (Int32.ofNat n) nd' ∧ AD nd nd' n kind row value measure low l := by
  unfold wp_Nd_add at h
  rw [n0, ix_on (by omega)] at h
  have lc := CH_low l _ ch
  have ll := CH_len l _ ch
  have q : Int32.ofNat n < (1070 : Int32) := by rw [Int32.lt_iff_toInt_lt, on_toInt (by omega), show (1070 : Int32).toInt = 1070 from rfl]; omega
  replace h := (h.1 q).2.2.2.2.2
  unfold wp_Nd_chainFrom at h
  obtain ⟨k1, h⟩ := h
  have ch2 : CH (upd nd.2.2.2.2.1 n (Int32.ofNat low)) low n l := CH_congr l _ ch (fun k hk => upd_ne (by omega))
  obtain ⟨f, x4, x5, nx, pa, h, g1, g2, g3⟩ := iv_chain (by omega) k1 _ _ _ _ _ _ n l [] h ch2 rfl rfl (fun k hk => absurd hk List.not_mem_nil) (by decide) (by have e : (0 : Int32).toInt = 0 := rfl; omega)
  rw [List.append_nil] at g1
  replace h := h.2.2
  unfold wp_Nd_followChain at h
  obtain ⟨k2, h⟩ := h
  dsimp only at h
  rw [upd_at] at h
  obtain ⟨la, y2, y4, h, lt, lo⟩ := iv_follow l.reverse k2 _ _ _ _ h g1 (nd_rev (CH_nodup l _ ch)) (Or.inl rfl) (fun k hk => by have := CH_in l _ ch k (List.mem_reverse.mp hk); omega) (by decide) (by rw [List.length_reverse]; have e : (0 : Int32).toInt = 0 := rfl; omega)
  rw [List.length_reverse, Int32.zero_add] at h
  replace h := h.2
  have ec : Int32.ofNat n + (1 : Int32) = Int32.ofNat (n + 1) := on_succ (by omega)
  dsimp only at h
  by_cases c : kind < 10
  · exact ⟨_, h.1 c, rfl, rfl, rfl, rfl, rfl, rfl, ⟨f, rfl, g1, LT_congr _ _ _ ⟨fun q => absurd rfl q, False.elim⟩ lt (fun _ _ => ⟨rfl, rfl⟩), fun k hk => lo k (fun q => hk (List.mem_reverse.mp q)), g3, fun k hk => (g2 k hk).2⟩, fun k hk => (g2 k hk).1, ec⟩
  · replace h := h.2 c
    by_cases d : (22 : Int32) < kind
    · exact ⟨_, h.1 d, rfl, rfl, rfl, rfl, rfl, rfl, ⟨f, rfl, g1, LT_congr _ _ _ ⟨fun q => absurd rfl q, False.elim⟩ lt (fun _ _ => ⟨rfl, rfl⟩), fun k hk => lo k (fun q => hk (List.mem_reverse.mp q)), g3, fun k hk => (g2 k hk).2⟩, fun k hk => (g2 k hk).1, ec⟩
    · exact ⟨_, h.2 d, rfl, rfl, rfl, rfl, rfl, rfl, ⟨f, rfl, g1, LT_congr _ _ _ ⟨fun q => absurd rfl q, False.elim⟩ lt (fun _ _ => ⟨rfl, rfl⟩), fun k hk => lo k (fun q => hk (List.mem_reverse.mp q)), g3, fun k hk => (g2 k hk).2⟩, fun k hk => (g2 k hk).1, ec⟩
/-- the reference's arrays of the half that is being built begin at B -/
def Bs (h : Int32) : Nat := (bb h).toNatClampNeg
theorem Bs_at {h : Int32} (hh : h = 0 ∨ h = 1) {x : Int32} {k : Nat} (e : x = Int32.ofNat k) (k9 : k < 1000) : ((1000 : Int32) * ((1 : Int32) - h) + x).toNatClampNeg = Bs h + k := by
  unfold Bs bb
  subst e
  rcases hh with e | e
  · rw [e, show (1000 : Int32) * ((1 : Int32) - 0) = Int32.ofNat 1000 from by decide]
    show (Int32.ofNat 1000 + Int32.ofNat k).toInt.toNat = (Int32.ofNat 1000).toInt.toNat + k
    rw [Int32.toInt_add, on_toInt (by omega), on_toInt (by omega), Int.bmod_eq_of_le (by omega) (by omega)]; omega
  · rw [e, show (1000 : Int32) * ((1 : Int32) - 1) = 0 from by decide, Int32.zero_add]
    rw [ix_on (by omega)]; show k = (0 : Int32).toInt.toNat + k
    rw [show (0 : Int32).toInt = 0 from rfl]; omega
set_option maxHeartbeats 1000000 in
theorem iv_node0_L {x1 : Int32} {x2 : Int64} {x4 x5 x6 x7 : Int32} {K : T_Mo → Int32 → Int64 → Int32 → Int32 → Int32 → Int32 → Int32 → Prop} {post : Int32 → T_Mo → Prop} : ∀ (l : List Nat) (n : Nat) (z : T_Mo) (x8 : Int32) (s km : Nat), wp_Mo_node0_L89 K post n z x1 x2 x4 x5 x6 x7 x8 → (z.1.2.1.2.1 = 0 ∨ z.1.2.1.2.1 = 1) → KL z.2.2.1.2.2.1 s l → x8 = Int32.ofNat s → z.2.2.1.2.2.2 = Int32.ofNat (s + l.length) → s + l.length ≤ 1000 → z.2.1.1.1.1 = Int32.ofNat km → km + l.length ≤ 1000 → ∃ x8' ks, K (((((z.1.1.1.1.1, z.1.1.1.1.2), (z.1.1.1.2.1, (z.1.1.1.2.2.1, z.1.1.1.2.2.2))), ((z.1.1.2.1.1, z.1.1.2.1.2), (z.1.1.2.2.1, (z.1.1.2.2.2.1, z.1.1.2.2.2.2)))), (((z.1.2.1.1.1, z.1.2.1.1.2), (z.1.2.1.2.1, (z.1.2.1.2.2.1, z.1.2.1.2.2.2))), ((z.1.2.2.1.1, (z.1.2.2.1.2.1, z.1.2.2.1.2.2)), (z.1.2.2.2.1, (z.1.2.2.2.2.1, ks))))), (((((Int32.ofNat (km + l.length)), z.2.1.1.1.2), (z.2.1.1.2.1, (z.2.1.1.2.2.1, z.2.1.1.2.2.2))), ((z.2.1.2.1.1, z.2.1.2.1.2), (z.2.1.2.2.1, (z.2.1.2.2.2.1, z.2.1.2.2.2.2)))), (((z.2.2.1.1.1, z.2.2.1.1.2), (z.2.2.1.2.1, (z.2.2.1.2.2.1, z.2.2.1.2.2.2))), ((z.2.2.2.1.1, (z.2.2.2.1.2.1, z.2.2.2.1.2.2)), (z.2.2.2.2.1, (z.2.2.2.2.2.1, z.2.2.2.2.2.2)))))) x1 x2 x4 x5 x6 x7 x8' ∧ KL ks (Bs z.1.2.1.2.1 + km) l ∧ (∀ j, (j < Bs z.1.2.1.2.1 + km ∨ Bs z.1.2.1.2.1 + km + l.length ≤ j) → ks j = z.1.2.2.2.2.2 j) := by
  intro l
  induction l with
  | nil =>
    intro n z x8 s km h hh kl e8 eh s9 ek k9
    cases n with
    | zero => exact False.elim h
    | succ n =>
    rw [wp_Mo_node0_L89] at h
    have q : z.2.2.1.2.2.2 ≤ x8 := by rw [eh, e8]; exact Int32.le_refl _
    have ez : (((((z.1.1.1.1.1, z.1.1.1.1.2), (z.1.1.1.2.1, (z.1.1.1.2.2.1, z.1.1.1.2.2.2))), ((z.1.1.2.1.1, z.1.1.2.1.2), (z.1.1.2.2.1, (z.1.1.2.2.2.1, z.1.1.2.2.2.2)))), (((z.1.2.1.1.1, z.1.2.1.1.2), (z.1.2.1.2.1, (z.1.2.1.2.2.1, z.1.2.1.2.2.2))), ((z.1.2.2.1.1, (z.1.2.2.1.2.1, z.1.2.2.1.2.2)), (z.1.2.2.2.1, (z.1.2.2.2.2.1, z.1.2.2.2.2.2))))), (((((Int32.ofNat (km + ([] : List Nat).length)), z.2.1.1.1.2), (z.2.1.1.2.1, (z.2.1.1.2.2.1, z.2.1.1.2.2.2))), ((z.2.1.2.1.1, z.2.1.2.1.2), (z.2.1.2.2.1, (z.2.1.2.2.2.1, z.2.1.2.2.2.2)))), (((z.2.2.1.1.1, z.2.2.1.1.2), (z.2.2.1.2.1, (z.2.2.1.2.2.1, z.2.2.1.2.2.2))), ((z.2.2.2.1.1, (z.2.2.2.1.2.1, z.2.2.2.1.2.2)), (z.2.2.2.2.1, (z.2.2.2.2.2.1, z.2.2.2.2.2.2)))))) = z := by
      rw [show km + ([] : List Nat).length = km from rfl, ← ek]
    exact ⟨x8, z.1.2.2.2.2.2, ez.symm ▸ (h.1 q), trivial, fun _ _ => rfl⟩
  | cons k t ih =>
    intro n z x8 s km h hh kl e8 eh s9 ek k9
    cases n with
    | zero => exact False.elim h
    | succ n =>
    rw [List.length_cons] at eh s9 k9
    rw [wp_Mo_node0_L89] at h
    have q : ¬ z.2.2.1.2.2.2 ≤ x8 := by rw [eh, e8, on_le (by omega) (by omega)]; omega
    replace h := h.2 q
    unfold wp_Mo_base at h
    replace h := h.2.2
    have e1 : x8.toNatClampNeg = s := by rw [e8]; exact ix_on (by omega)
    have e2 := Bs_at hh ek (by omega)
    rw [e1, e2, kl.1] at h
    obtain ⟨x8', ks, h, g1, g2⟩ := ih n _ _ (s + 1) (km + 1) h hh kl.2 (by rw [e8]; exact on_succ (by omega)) (by show z.2.2.1.2.2.2 = _; rw [eh]; congr 1; omega) (by omega) (by show z.2.1.1.1.1 + 1 = _; rw [ek]; exact on_succ (by omega)) (by omega)
    refine ⟨x8', ks, ?_, ⟨?_, ?_⟩, fun j hj => ?_⟩
    · rw [List.length_cons, show km + (t.length + 1) = km + 1 + t.length by omega]; exact h
    · rw [g2 _ (Or.inl (by show _ < Bs z.1.2.1.2.1 + (km + 1); omega))]; exact upd_at
    · exact g1
    · rw [List.length_cons] at hj
      rw [g2 j (by show j < Bs z.1.2.1.2.1 + (km + 1) ∨ Bs z.1.2.1.2.1 + (km + 1) + t.length ≤ j; omega)]
      exact upd_ne (by omega)
/-- a node more of the reference -/
def AN (m m' : T_Mo) (n km mark : Nat) (w : Int32) (v : Int64) (ln un : Int32) (l : List Nat) : Prop := ∃ ks, m' = (((((m.1.1.1.1.1, m.1.1.1.1.2), (m.1.1.1.2.1, (m.1.1.1.2.2.1, m.1.1.1.2.2.2))), ((m.1.1.2.1.1, m.1.1.2.1.2), (m.1.1.2.2.1, (m.1.1.2.2.2.1, m.1.1.2.2.2.2)))), (((m.1.2.1.1.1, m.1.2.1.1.2), (m.1.2.1.2.1, ((Int32.ofNat (n + 1)), (upd m.1.2.1.2.2.2 (Bs m.1.2.1.2.1 + n) w)))), (((vp_updL m.1.2.2.1.1 (Bs m.1.2.1.2.1 + n) v), ((upd m.1.2.2.1.2.1 (Bs m.1.2.1.2.1 + n) ln), (upd m.1.2.2.1.2.2 (Bs m.1.2.1.2.1 + n) un))), ((upd m.1.2.2.2.1 (Bs m.1.2.1.2.1 + n) (Int32.ofNat km)), ((upd m.1.2.2.2.2.1 (Bs m.1.2.1.2.1 + n) (Int32.ofNat l.length)), ks))))), (((((Int32.ofNat (km + l.length)), m.2.1.1.1.2), (m.2.1.1.2.1, (m.2.1.1.2.2.1, m.2.1.1.2.2.2))), ((m.2.1.2.1.1, m.2.1.2.1.2), (m.2.1.2.2.1, (m.2.1.2.2.2.1, m.2.1.2.2.2.2)))), (((m.2.2.1.1.1, m.2.2.1.1.2), (m.2.2.1.2.1, (m.2.2.1.2.2.1, (Int32.ofNat mark)))), ((m.2.2.2.1.1, (m.2.2.2.1.2.1, m.2.2.2.1.2.2)), (m.2.2.2.2.1, (m.2.2.2.2.2.1, m.2.2.2.2.2.2)))))) ∧ KL ks (Bs m.1.2.1.2.1 + km) l ∧ (∀ j, (j < Bs m.1.2.1.2.1 + km ∨ Bs m.1.2.1.2.1 + km + l.length ≤ j) → ks j = m.1.2.2.2.2.2 j)
set_option maxHeartbeats 2000000 in
theorem iv_node0 {m : T_Mo} {w : Int32} {v : Int64} {ln un : Int32} {n km mark : Nat} {l : List Nat} {PM : Int32 → T_Mo → Prop} (h : wp_Mo_node0 m w v ln un (Int32.ofNat mark) PM) (hh : m.1.2.1.2.1 = 0 ∨ m.1.2.1.2.1 = 1) (en : m.1.2.1.2.2.1 = Int32.ofNat n) (n9 : n ≤ 1000) (ek : m.2.1.1.1.1 = Int32.ofNat km) (eh : m.2.2.1.2.2.2 = Int32.ofNat (mark + l.length)) (kl : KL m.2.2.1.2.2.1 mark l) (h9 : mark + l.length ≤ 1000) (k9 : km + l.length ≤ 1000) : (n = 1000 ∧ PM (-1) (((((m.1.1.1.1.1, m.1.1.1.1.2), (m.1.1.1.2.1, (m.1.1.1.2.2.1, m.1.1.1.2.2.2))), ((m.1.1.2.1.1, m.1.1.2.1.2), (m.1.1.2.2.1, (m.1.1.2.2.2.1, m.1.1.2.2.2.2)))), (((m.1.1.2.1.1, m.1.2.1.1.2), (m.1.2.1.2.1, (m.1.2.1.2.2.1, m.1.2.1.2.2.2))), ((m.1.2.2.1.1, (m.1.2.2.1.2.1, m.1.2.2.1.2.2)), (m.1.2.2.2.1, (m.1.2.2.2.2.1, m.1.2.2.2.2.2))))), ((((m.2.1.1.1.1, m.2.1.1.1.2), (m.2.1.1.2.1, (m.2.1.1.2.2.1, m.2.1.1.2.2.2))), ((m.2.1.2.1.1, m.2.1.2.1.2), (m.2.1.2.2.1, (m.2.1.2.2.2.1, m.2.1.2.2.2.2)))), (((m.2.2.1.1.1, m.2.2.1.1.2), (m.2.2.1.2.1, (m.2.2.1.2.2.1, m.2.2.1.2.2.2))), ((m.2.2.2.1.1, (m.2.2.2.1.2.1, m.2.2.2.1.2.2)), (m.2.2.2.2.1, (m.2.2.2.2.2.1, m.2.2.2.2.2.2))))))) ∨ (n < 1000 ∧ ∃ m', PM (Int32.ofNat n) m' ∧ AN m m' n km mark w v ln un l) := by
  unfold wp_Mo_node0 at h
  by_cases c : m.1.2.1.2.2.1 = 1000
  · refine Or.inl ⟨?_, ?_⟩
    · rw [en] at c; exact on_inj (by omega) (by decide) c
    · have h := h.1 c
      unfold wp_Mo_bad at h
      exact h
  · have nn : n ≠ 1000 := fun e => c (by rw [en, e]; decide)
    have n8 : n < 1000 := by omega
    refine Or.inr ⟨n8, ?_⟩
    replace h := h.2 c
    unfold wp_Mo_base at h
    dsimp only at h
    have e2 := Bs_at hh en n8
    rw [e2] at h
    obtain ⟨k1, h⟩ := h.2.2.2.2.2.2
    have ed : m.2.2.1.2.2.2 - Int32.ofNat mark = Int32.ofNat l.length := by
      rw [eh]
      apply Int32.toInt_inj.mp
      rw [Int32.toInt_sub, on_toInt (by omega), on_toInt (by omega), on_toInt (by omega), Int.bmod_eq_of_le (by omega) (by omega)]; omega
    rw [ed, ek] at h
    obtain ⟨x8, ks, h, g1, g2⟩ := iv_node0_L l k1 _ _ mark km h hh kl rfl eh h9 rfl k9
    dsimp only at h
    have er : (m.1.2.1.2.2.1 + (1 : Int32)) - (1 : Int32) = Int32.ofNat n := by rw [en, on_succ (by omega), on_pred (by omega)]
    have es : m.1.2.1.2.2.1 + (1 : Int32) = Int32.ofNat (n + 1) := by rw [en]; exact on_succ (by omega)
    rw [er, es] at h
    exact ⟨_, h, ks, rfl, g1, g2⟩

/-- node i of the class and of the reference -/
def NRi (nd : T_Nd) (m : T_Mo) (km i : Nat) : Prop := nd.1 i = m.1.2.1.2.2.2 (Bs m.1.2.1.2.1 + i) ∧ nd.2.1 i = m.1.2.2.1.2.1 (Bs m.1.2.1.2.1 + i) ∧ nd.2.2.1 i = m.1.2.2.1.1 (Bs m.1.2.1.2.1 + i) ∧ (m.1.2.1.2.2.2 (Bs m.1.2.1.2.1 + i) ≤ 6 → nd.2.2.2.1 i = m.1.2.2.1.2.2 (Bs m.1.2.1.2.1 + i)) ∧ ∃ (kl : List Nat) (a : Nat), m.1.2.2.2.1 (Bs m.1.2.1.2.1 + i) = Int32.ofNat a ∧ m.1.2.2.2.2.1 (Bs m.1.2.1.2.1 + i) = Int32.ofNat kl.length ∧ nd.2.2.2.2.2.1 i = Int32.ofNat kl.length ∧ KL m.1.2.2.2.2.2 (Bs m.1.2.1.2.1 + a) kl ∧ a + kl.length ≤ km ∧ NX nd.2.2.2.2.2.2.2.2.1 (nd.2.2.2.2.2.2.2.1 i) kl ∧ (LT nd.1 nd.2.2.2.2.2.2.2.2.2.1 False kl ∧ CH nd.2.2.2.2.1 (nd.2.2.2.2.1 i).toNatClampNeg i kl.reverse ∧ ∀ k, k ∈ kl → nd.2.2.2.2.2.2.1 k = Int32.ofNat i) ∧ ∀ k, k ∈ kl → (nd.2.2.2.2.1 i).toNatClampNeg ≤ k ∧ k < i
def NR (nd : T_Nd) (m : T_Mo) (n km : Nat) : Prop := (m.1.2.1.2.1 = 0 ∨ m.1.2.1.2.1 = 1) ∧ nd.2.2.2.2.2.2.2.2.2.2.1 = Int32.ofNat n ∧ m.1.2.1.2.2.1 = Int32.ofNat n ∧ n ≤ 1000 ∧ m.2.1.1.1.1 = Int32.ofNat km ∧ LAM nd.2.2.2.2.1 n ∧ ∀ i, i < n → NRi nd m km i
/-- the pile from mark on is the chain of roots from low on -/
def PIL (nd : T_Nd) (m : T_Mo) (n mark low : Nat) (asc : List Nat) : Prop := KL m.2.2.1.2.2.1 mark asc ∧ m.2.2.1.2.2.2 = Int32.ofNat (mark + asc.length) ∧ CH nd.2.2.2.2.1 low n asc.reverse
theorem CH_lows {L : Nat → Int32} {low : Nat} : ∀ (l : List Nat) (c : Nat), CH L low c l → ∀ r, r ∈ l → low ≤ (L r).toNatClampNeg
  | [], c, h, k, hk => absurd hk List.not_mem_nil
  | r :: t, c, h, k, hk => by
    obtain ⟨h1, h2, h3, h4⟩ := h
    rcases List.mem_cons.mp hk with e | e
    · rw [e]; exact CH_low t _ h4
    · exact CH_lows t _ h4 k e
theorem LAM_add {L : Nat → Int32} {n low : Nat} {l : List Nat} (lam : LAM L n) (n9 : n ≤ 1069) (ch : CH L low n l) : LAM (upd L n (Int32.ofNat low)) (n + 1) := by
  have lc := CH_low l _ ch
  intro i hi
  rcases Nat.lt_or_ge i n with q | q
  · obtain ⟨a1, a2, a3⟩ := lam i q
    rw [upd_ne (by omega)]
    refine ⟨a1, a2, fun k h1 h2 => ?_⟩
    rw [upd_ne (by omega)]; exact a3 k h1 h2
  · have e : i = n := by omega
    subst e
    rw [upd_at, ix_on (by omega)]
    refine ⟨rfl, lc, fun k h1 h2 => ?_⟩
    rcases Nat.lt_or_ge k i with q2 | q2
    · rw [upd_ne (by omega)]
      obtain ⟨r, r1, r2, r3⟩ := CH_cover l _ ch k h1 q2
      have b := (CH_in l _ ch r r1).2
      have c := (lam r b).2.2 k r2 r3
      have d := CH_lows l _ ch r r1
      omega
    · have e : k = i := by omega
      rw [e, upd_at, ix_on (by omega)]; exact Nat.le_refl _
set_option maxHeartbeats 2000000 in
theorem NR_add {nd nd' : T_Nd} {m m' : T_Mo} {n km mark low : Nat} {kind row me un : Int32} {value : Int64} {asc : List Nat} (nr : NR nd m n km) (n9 : n < 1000) (pil : PIL nd m n mark low asc) (um : kind ≤ 6 → me = un) (ad : AD nd nd' n kind row value me low asc.reverse) (an : AN m m' n km mark kind value row un asc) : NR nd' m' (n + 1) (km + asc.length) := by
  obtain ⟨hh, c1, c2, -, c3, lam, per⟩ := nr
  obtain ⟨p1, p2, p3⟩ := pil
  obtain ⟨a1, a2, a3, a4, a5, a6, ⟨f, a7, a8, aL, aO⟩, a9, a10⟩ := ad
  obtain ⟨ks, em, k1, k2⟩ := an
  subst em
  rw [List.reverse_reverse] at a8 aL
  rw [a1] at aL
  refine ⟨hh, a10, rfl, by omega, rfl, ?_, fun i hi => ?_⟩
  · rw [a5]; exact LAM_add lam (by omega) p3
  · rcases Nat.lt_or_ge i n with q | q
    · obtain ⟨b1, b2, b3, b4, kl, a, b5, b6, b7, b8, b9, b10, bL, b11⟩ := per i q
      have ne : i ≠ n := by omega
      have ne2 : Bs m.1.2.1.2.1 + i ≠ Bs m.1.2.1.2.1 + n := by omega
      have cr : ∀ k, k ∈ kl → ¬ k ∈ asc.reverse := fun k hk q9 => by
        have b := b11 k hk
        have x := CH_cross lam asc.reverse n p3 (Nat.le_refl _) (fun i h1 h2 => by omega) k q9 i b.2 q
        omega
      unfold NRi
      rw [a1, a2, a3, a4, a5, a6, a7, upd_ne ne, upd_ne ne, updL_ne ne, upd_ne ne, upd_ne ne, upd_ne ne, upd_ne ne]
      show nd.1 i = upd m.1.2.1.2.2.2 (Bs m.1.2.1.2.1 + n) kind (Bs m.1.2.1.2.1 + i) ∧ nd.2.1 i = upd m.1.2.2.1.2.1 (Bs m.1.2.1.2.1 + n) row (Bs m.1.2.1.2.1 + i) ∧ nd.2.2.1 i = vp_updL m.1.2.2.1.1 (Bs m.1.2.1.2.1 + n) value (Bs m.1.2.1.2.1 + i) ∧ (upd m.1.2.1.2.2.2 (Bs m.1.2.1.2.1 + n) kind (Bs m.1.2.1.2.1 + i) ≤ 6 → nd.2.2.2.1 i = upd m.1.2.2.1.2.2 (Bs m.1.2.1.2.1 + n) un (Bs m.1.2.1.2.1 + i)) ∧ ∃ (kl : List Nat) (a : Nat), upd m.1.2.2.2.1 (Bs m.1.2.1.2.1 + n) (Int32.ofNat km) (Bs m.1.2.1.2.1 + i) = Int32.ofNat a ∧ upd m.1.2.2.2.2.1 (Bs m.1.2.1.2.1 + n) (Int32.ofNat asc.length) (Bs m.1.2.1.2.1 + i) = Int32.ofNat kl.length ∧ nd.2.2.2.2.2.1 i = Int32.ofNat kl.length ∧ KL ks (Bs m.1.2.1.2.1 + a) kl ∧ a + kl.length ≤ km + asc.length ∧ NX nd'.2.2.2.2.2.2.2.2.1 (nd.2.2.2.2.2.2.2.1 i) kl ∧ (LT (upd nd.1 n kind) nd'.2.2.2.2.2.2.2.2.2.1 False kl ∧ CH (upd nd.2.2.2.2.1 n (Int32.ofNat low)) (nd.2.2.2.2.1 i).toNatClampNeg i kl.reverse ∧ ∀ k, k ∈ kl → nd'.2.2.2.2.2.2.1 k = Int32.ofNat i) ∧ ∀ k, k ∈ kl → (nd.2.2.2.2.1 i).toNatClampNeg ≤ k ∧ k < i
      rw [upd_ne ne2, upd_ne ne2, updL_ne ne2, upd_ne ne2, upd_ne ne2, upd_ne ne2]
      refine ⟨b1, b2, b3, b4, kl, a, b5, b6, b7, KL_congr kl _ b8 (fun j _ h2 => k2 j (Or.inl (by omega))), by omega, NX_congr kl _ b10 (fun k hk => a9 k (cr k hk)), ⟨LT_congr kl _ _ Iff.rfl bL.1 (fun k hk => ⟨upd_ne (by have := (b11 k hk).2; omega), aO.1 k (cr k hk)⟩), CH_congr kl.reverse _ bL.2.1 (fun k hk => upd_ne (by omega)), fun k hk => (aO.2.2 k (cr k hk)).trans (bL.2.2 k hk)⟩, b11⟩
    · have e : i = n := by omega
      subst e
      unfold NRi
      rw [a1, a2, a3, a4, a5, a6, a7, upd_at, upd_at, updL_at, upd_at, upd_at, upd_at, upd_at]
      show kind = upd m.1.2.1.2.2.2 (Bs m.1.2.1.2.1 + i) kind (Bs m.1.2.1.2.1 + i) ∧ row = upd m.1.2.2.1.2.1 (Bs m.1.2.1.2.1 + i) row (Bs m.1.2.1.2.1 + i) ∧ value = vp_updL m.1.2.2.1.1 (Bs m.1.2.1.2.1 + i) value (Bs m.1.2.1.2.1 + i) ∧ (upd m.1.2.1.2.2.2 (Bs m.1.2.1.2.1 + i) kind (Bs m.1.2.1.2.1 + i) ≤ 6 → me = upd m.1.2.2.1.2.2 (Bs m.1.2.1.2.1 + i) un (Bs m.1.2.1.2.1 + i)) ∧ ∃ (kl : List Nat) (a : Nat), upd m.1.2.2.2.1 (Bs m.1.2.1.2.1 + i) (Int32.ofNat km) (Bs m.1.2.1.2.1 + i) = Int32.ofNat a ∧ upd m.1.2.2.2.2.1 (Bs m.1.2.1.2.1 + i) (Int32.ofNat asc.length) (Bs m.1.2.1.2.1 + i) = Int32.ofNat kl.length ∧ Int32.ofNat asc.reverse.length = Int32.ofNat kl.length ∧ KL ks (Bs m.1.2.1.2.1 + a) kl ∧ a + kl.length ≤ km + asc.length ∧ NX nd'.2.2.2.2.2.2.2.2.1 f kl ∧ (LT (upd nd.1 i kind) nd'.2.2.2.2.2.2.2.2.2.1 False kl ∧ CH (upd nd.2.2.2.2.1 i (Int32.ofNat low)) (Int32.ofNat low).toNatClampNeg i kl.reverse ∧ ∀ k, k ∈ kl → nd'.2.2.2.2.2.2.1 k = Int32.ofNat i) ∧ ∀ k, k ∈ kl → (Int32.ofNat low).toNatClampNeg ≤ k ∧ k < i
      rw [upd_at, upd_at, updL_at, upd_at, upd_at, upd_at]
      have lc := CH_low _ _ p3
      refine ⟨rfl, rfl, rfl, um, asc, km, rfl, rfl, by rw [List.length_reverse], k1, Nat.le_refl _, a8, ⟨aL, by rw [ix_on (by omega)]; exact CH_congr asc.reverse _ p3 (fun k hk => upd_ne (by omega)), fun k hk => aO.2.1 k (List.mem_reverse.mpr hk)⟩, fun k hk => ?_⟩
      rw [ix_on (by omega)]
      exact CH_in _ _ p3 k (List.mem_reverse.mpr hk)
/-- both make a node, or there are too many -/
theorem rl_node {nd : T_Nd} {m : T_Mo} {n km mark low : Nat} {kind row me un : Int32} {value : Int64} {asc : List Nat} {PC : Int32 → T_Nd → Prop} {PM : Int32 → T_Mo → Prop} (nr : NR nd m n km) (hC : wp_Nd_add nd kind (Int32.ofNat low) row value me PC) (hM : wp_Mo_node0 m kind value row un (Int32.ofNat mark) PM) (pil : PIL nd m n mark low asc) (h9 : mark + asc.length ≤ 1000) (k9 : km + asc.length ≤ 1000) (um : kind ≤ 6 → me = un) : (n < 1000 ∧ ∃ nd' m', PC (Int32.ofNat n) nd' ∧ PM (Int32.ofNat n) m' ∧ NR nd' m' (n + 1) (km + asc.length) ∧ AD nd nd' n kind row value me low asc.reverse ∧ AN m m' n km mark kind value row un asc) ∨ (n = 1000 ∧ ∃ nd', PC (Int32.ofNat n) nd' ∧ PM (-1) (((((m.1.1.1.1.1, m.1.1.1.1.2), (m.1.1.1.2.1, (m.1.1.1.2.2.1, m.1.1.1.2.2.2))), ((m.1.1.2.1.1, m.1.1.2.1.2), (m.1.1.2.2.1, (m.1.1.2.2.2.1, m.1.1.2.2.2.2)))), (((m.1.1.2.1.1, m.1.2.1.1.2), (m.1.2.1.2.1, (m.1.2.1.2.2.1, m.1.2.1.2.2.2))), ((m.1.2.2.1.1, (m.1.2.2.1.2.1, m.1.2.2.1.2.2)), (m.1.2.2.2.1, (m.1.2.2.2.2.1, m.1.2.2.2.2.2))))), ((((m.2.1.1.1.1, m.2.1.1.1.2), (m.2.1.1.2.1, (m.2.1.1.2.2.1, m.2.1.1.2.2.2))), ((m.2.1.2.1.1, m.2.1.2.1.2), (m.2.1.2.2.1, (m.2.1.2.2.2.1, m.2.1.2.2.2.2)))), (((m.2.2.1.1.1, m.2.2.1.1.2), (m.2.2.1.2.1, (m.2.2.1.2.2.1, m.2.2.1.2.2.2))), ((m.2.2.2.1.1, (m.2.2.2.1.2.1, m.2.2.2.1.2.2)), (m.2.2.2.2.1, (m.2.2.2.2.2.1, m.2.2.2.2.2.2)))))) ∧ nd'.2.2.2.2.2.2.2.2.2.2.1 = 1001) := by
  have nr0 := nr
  obtain ⟨hh, c1, c2, c9, c3, lam, per⟩ := nr
  have pil0 := pil
  obtain ⟨p1, p2, p3⟩ := pil
  obtain ⟨nd', hC, ad⟩ := iv_add hC c1 (by omega) p3
  rcases iv_node0 hM hh c2 c9 c3 p2 p1 h9 k9 with ⟨e, hM⟩ | ⟨lt, m', hM, an⟩
  · refine Or.inr ⟨e, nd', hC, hM, ?_⟩
    rw [ad.2.2.2.2.2.2.2.2, e]; rfl
  · exact Or.inl ⟨lt, nd', m', hC, hM, NR_add nr0 lt pil0 um ad an, ad, an⟩
/-- a name of the class and of the reference -/
def sr (s r : Int32) : Prop := (s = 213 ∧ r = 30) ∨ (s = 214 ∧ r = 31) ∨ (s = 215 ∧ r = 24)
def Ns (h : Int32) : Nat := (bnn h).toNatClampNeg
def nw (m : T_Mo) (j : Nat) : List Int32 := fs m.2.1.1.2.2.2 (12 * (Ns m.1.2.1.2.1 + j)) (m.2.1.2.1.1 (Ns m.1.2.1.2.1 + j)).toNatClampNeg
def NMi (nm : T_Nm) (m : T_Mo) (j : Nat) : Prop := wl (nw m j) ∧ (0 : Int32) ≤ m.2.1.2.1.1 (Ns m.1.2.1.2.1 + j) ∧ m.2.1.2.1.1 (Ns m.1.2.1.2.1 + j) ≤ 12 ∧ (nm.1 j).toInt = pk (nw m j) ∧ sr (nm.2.1 j) (m.2.1.2.1.2 (Ns m.1.2.1.2.1 + j)) ∧ nm.2.2.1 j = m.2.1.2.2.1 (Ns m.1.2.1.2.1 + j) ∧ (0 : Int32) ≤ nm.2.2.1 j ∧ (m.2.1.2.1.2 (Ns m.1.2.1.2.1 + j) = 24 → (0 : Int32) ≤ m.2.1.2.2.2.1 (Ns m.1.2.1.2.1 + j))
/-- c names are known to both; one more of a step, not yet done, may be the reference's -/
def NM (nm : T_Nm) (m : T_Mo) (c : Nat) : Prop := nm.2.2.2.2 = Int32.ofNat c ∧ c ≤ 100 ∧ (∀ j, j < c → NMi nm m j) ∧ (m.2.1.1.2.2.1 = Int32.ofNat c ∨ (c < 100 ∧ m.2.1.1.2.2.1 = Int32.ofNat (c + 1) ∧ m.2.1.2.1.2 (Ns m.1.2.1.2.1 + c) = 24 ∧ m.2.1.2.2.2.1 (Ns m.1.2.1.2.1 + c) = -1))
theorem Ns_at {h : Int32} (hh : h = 0 ∨ h = 1) {x : Int32} {k : Nat} (e : x = Int32.ofNat k) (k9 : k ≤ 100) : ((100 : Int32) * ((1 : Int32) - h) + x).toNatClampNeg = Ns h + k ∧ ((100 : Int32) * ((1 : Int32) - h) + x) = Int32.ofNat (Ns h + k) ∧ (Ns h = 0 ∨ Ns h = 100) := by
  unfold Ns bnn
  subst e
  rcases hh with e | e
  · rw [e, show (100 : Int32) * ((1 : Int32) - 0) = Int32.ofNat 100 from by decide, ix_on (by decide)]
    have q : Int32.ofNat 100 + Int32.ofNat k = Int32.ofNat (100 + k) := by
      apply Int32.toInt_inj.mp
      rw [Int32.toInt_add, on_toInt (by omega), on_toInt (by omega), on_toInt (by omega), Int.bmod_eq_of_le (by omega) (by omega)]; omega
    rw [q, ix_on (by omega)]
    exact ⟨rfl, rfl, Or.inr rfl⟩
  · rw [e, show (100 : Int32) * ((1 : Int32) - 1) = Int32.ofNat 0 from by decide, ix_on (by decide)]
    have q : Int32.ofNat 0 + Int32.ofNat k = Int32.ofNat (0 + k) := by
      rw [Nat.zero_add]; exact Int32.zero_add _
    rw [q, ix_on (by omega)]
    exact ⟨rfl, rfl, Or.inl rfl⟩

theorem fs_congr {f h : Nat → Int32} : ∀ (n b c : Nat), (∀ i, i < n → f (b + i) = h (c + i)) → fs f b n = fs h c n
  | 0, _, _, _ => rfl
  | n + 1, b, c, e => by
    have e0 := e 0 (by omega)
    rw [fs, fs, show f b = h c from e0]
    congr 1
    exact fs_congr n (b + 1) (c + 1) (fun i hi => by have := e (i + 1) (by omega); rw [show b + 1 + i = b + (i + 1) by omega, show c + 1 + i = c + (i + 1) by omega]; exact this)
theorem iv_cmp0 {m : T_Mo} {x1 x2 x4 : Int32} {n : Nat} {K : Int32 → Int32 → Int32 → Int32 → Prop} {post : Int32 → Unit → Prop} (h : wp_Mo_nameOf_L49 m K post n x1 x2 0 x4) : K x1 x2 0 x4 := by
  cases n with
  | zero => exact False.elim h
  | succ n =>
  rw [wp_Mo_nameOf_L49] at h
  replace h := h.2
  by_cases c : m.2.1.2.1.1 x2.toNatClampNeg ≤ x4
  · exact h.1 c
  · exact (h.2 c).1 rfl
theorem on_add {j k : Nat} (h : j + k < 2147483648) : Int32.ofNat j + Int32.ofNat k = Int32.ofNat (j + k) := by
  apply Int32.toInt_inj.mp
  rw [Int32.toInt_add, on_toInt (by omega), on_toInt (by omega), on_toInt (by omega), Int.bmod_eq_of_le (by omega) (by omega)]; omega
theorem on_mul12 {k : Nat} (h : k < 1000) : (12 : Int32) * Int32.ofNat k = Int32.ofNat (12 * k) := by
  apply Int32.toInt_inj.mp
  rw [Int32.toInt_mul, on_toInt (by omega), on_toInt (by omega), show (12 : Int32).toInt = 12 from rfl, Int.bmod_eq_of_le (by omega) (by omega)]; omega
theorem iv_cmp {m : T_Mo} {x1 : Int32} {at_ len b : Nat} {K : Int32 → Int32 → Int32 → Int32 → Prop} {post : Int32 → Unit → Prop} (hl : m.2.1.2.1.1 at_ = Int32.ofNat len) (l9 : len ≤ 12) (a9 : at_ < 200) (hb : m.1.1.2.1.1 = Int32.ofNat b) (b9 : b + len ≤ 4000) : ∀ (r n i : Nat), wp_Mo_nameOf_L49 m K post n x1 (Int32.ofNat at_) 1 (Int32.ofNat i) → i + r = len → (fs m.2.1.1.2.2.2 (12 * at_ + i) r = fs m.1.1.1.1.1 (b + i) r ∧ ∃ x4, K x1 (Int32.ofNat at_) 1 x4) ∨ (¬ fs m.2.1.1.2.2.2 (12 * at_ + i) r = fs m.1.1.1.1.1 (b + i) r ∧ ∃ x4, K x1 (Int32.ofNat at_) 0 x4) := by
  intro r
  induction r with
  | zero =>
    intro n i h e
    cases n with
    | zero => exact False.elim h
    | succ n =>
    rw [wp_Mo_nameOf_L49, ix_on (by omega), hl] at h
    exact Or.inl ⟨rfl, _, h.2.1 (by rw [on_le (by omega) (by omega)]; omega)⟩
  | succ r ih =>
    intro n i h e
    cases n with
    | zero => exact False.elim h
    | succ n =>
    rw [wp_Mo_nameOf_L49, ix_on (by omega), hl] at h
    replace h := ((h.2.2 (by rw [on_le (by omega) (by omega)]; omega)).2 (by decide)).2.2
    rw [hb, on_mul12 (by omega), on_add (by omega), on_add (by omega), ix_on (by omega), ix_on (by omega), on_succ (by omega)] at h
    rw [fs, fs]
    by_cases c : m.2.1.1.2.2.2 (12 * at_ + i) = m.1.1.1.1.1 (b + i)
    · rcases ih n (i + 1) (h.1 c) (by omega) with ⟨q, k⟩ | ⟨q, k⟩
      · refine Or.inl ⟨?_, k⟩
        rw [c]; congr 1
      · exact Or.inr ⟨fun z => q (List.cons.inj z).2, k⟩
    · exact Or.inr ⟨fun z => c (List.cons.inj z).1, _, iv_cmp0 (h.2 c)⟩
theorem wo_len {m : T_Mo} : (wo m).length = m.1.1.2.1.2.toNatClampNeg - m.1.1.2.1.1.toNatClampNeg := fs_len _ _
theorem LB_len {m : T_Mo} (lb : LB m) : m.1.1.2.1.2 - m.1.1.2.1.1 = Int32.ofNat (wo m).length ∧ m.1.1.2.1.1 = Int32.ofNat m.1.1.2.1.1.toNatClampNeg ∧ m.1.1.2.1.1.toNatClampNeg + (wo m).length = m.1.1.2.1.2.toNatClampNeg ∧ m.1.1.2.1.2.toNatClampNeg ≤ 4000 := by
  obtain ⟨l0, l1, l2⟩ := lb
  rw [wo_len]
  have q := ix_le l1
  have d := (dif12 l0 l1 l2).2
  have e4 := ix_le l2
  rw [show (4000 : Int32).toNatClampNeg = 4000 from rfl] at e4
  refine ⟨?_, (on_ix l0).symm, by omega, e4⟩
  apply Int32.toInt_inj.mp
  rw [on_toInt (by omega)]; exact d
/-- name j is the word that is held, or it isn't -/
theorem nm_cmp {m : T_Mo} {j n : Nat} {K : Int32 → Prop} {post : Int32 → Unit → Prop} (hh : m.1.2.1.2.1 = 0 ∨ m.1.2.1.2.1 = 1) (j9 : j < 100) (jn_ : ¬ m.2.1.1.2.2.1 ≤ Int32.ofNat j) (l0 : (0 : Int32) ≤ m.2.1.2.1.1 (Ns m.1.2.1.2.1 + j)) (l9 : m.2.1.2.1.1 (Ns m.1.2.1.2.1 + j) ≤ 12) (lb : LB m) (h : wp_Mo_nameOf_L2 m K post (n + 1) (Int32.ofNat j)) : (nw m j = wo m ∧ post (Int32.ofNat j) ()) ∨ (¬ nw m j = wo m ∧ wp_Mo_nameOf_L2 m K post n (Int32.ofNat (j + 1))) := by
  have na := Ns_at hh (x := Int32.ofNat j) rfl (by omega)
  obtain ⟨b1, b2, b3, b4⟩ := LB_len lb
  rw [wp_Mo_nameOf_L2] at h
  replace h := (h.2 jn_).2
  rw [na.1, na.2.1, b1] at h
  have hl : m.2.1.2.1.1 (Ns m.1.2.1.2.1 + j) = Int32.ofNat (m.2.1.2.1.1 (Ns m.1.2.1.2.1 + j)).toNatClampNeg := (on_ix l0).symm
  have l12 : (m.2.1.2.1.1 (Ns m.1.2.1.2.1 + j)).toNatClampNeg ≤ 12 := by have := ix_le l9; rw [show (12 : Int32).toNatClampNeg = 12 from rfl] at this; exact this
  have a9 : Ns m.1.2.1.2.1 + j < 200 := by have := na.2.2; omega
  have es : Int32.ofNat j + (1 : Int32) = Int32.ofNat (j + 1) := on_succ (by omega)
  by_cases c : m.2.1.2.1.1 (Ns m.1.2.1.2.1 + j) = Int32.ofNat (wo m).length
  · have el : (m.2.1.2.1.1 (Ns m.1.2.1.2.1 + j)).toNatClampNeg = (wo m).length := by rw [c]; exact ix_on (by omega)
    obtain ⟨k, h⟩ := h.1 c
    have e0 : nw m j = fs m.2.1.1.2.2.2 (12 * (Ns m.1.2.1.2.1 + j) + 0) (m.2.1.2.1.1 (Ns m.1.2.1.2.1 + j)).toNatClampNeg := rfl
    have e1 : wo m = fs m.1.1.1.1.1 (m.1.1.2.1.1.toNatClampNeg + 0) (m.2.1.2.1.1 (Ns m.1.2.1.2.1 + j)).toNatClampNeg := by rw [el, wo_len]; rfl
    rw [e0, e1]
    rcases iv_cmp hl l12 a9 b2 (by omega) (m.2.1.2.1.1 (Ns m.1.2.1.2.1 + j)).toNatClampNeg k 0 h (by omega) with ⟨q, x4, h⟩ | ⟨q, x4, h⟩
    · exact Or.inl ⟨q, h.2 (by decide)⟩
    · refine Or.inr ⟨q, ?_⟩
      rw [← es]; exact h.1 rfl
  · obtain ⟨k, h⟩ := h.2 c
    replace h := (iv_cmp0 h).1 rfl
    refine Or.inr ⟨fun q => c ?_, by rw [← es]; exact h⟩
    have ql := congrArg List.length q
    rw [show (nw m j).length = (m.2.1.2.1.1 (Ns m.1.2.1.2.1 + j)).toNatClampNeg from fs_len _ _] at ql
    rw [hl, ql]
/-- a name is looked for -/
theorem rl_find_L {nm : T_Nm} {m : T_Mo} {c : Nat} {v : Int64} {PC PM : Int32 → Unit → Prop} (hh : m.1.2.1.2.1 = 0 ∨ m.1.2.1.2.1 = 1) (hn : NM nm m c) (pl9 : ∀ j, m.2.1.1.2.2.1 = Int32.ofNat (c + 1) → j = c → (0 : Int32) ≤ m.2.1.2.1.1 (Ns m.1.2.1.2.1 + j) ∧ m.2.1.2.1.1 (Ns m.1.2.1.2.1 + j) ≤ 12) (hv : v.toInt = pk (wo m)) (hw : wl (wo m)) (lb : LB m) : ∀ (n n' j : Nat), wp_Nm_find_L2 nm (fun (x1 : Int64) (x3 : Int32) => PC (-1 : Int32) ()) PC n v (Int32.ofNat j) → wp_Mo_nameOf_L2 m (fun (x1 : Int32) => PM (-1 : Int32) ()) PM n' (Int32.ofNat j) → j ≤ c → (∃ k, k < c ∧ nw m k = wo m ∧ PC (Int32.ofNat k) () ∧ PM (Int32.ofNat k) ()) ∨ (PC (-1) () ∧ (PM (-1) () ∨ (m.2.1.1.2.2.1 = Int32.ofNat (c + 1) ∧ PM (Int32.ofNat c) ()))) := by
  obtain ⟨n1, n2, n3, n4⟩ := hn
  intro n
  induction n with
  | zero => intro n' j h; exact False.elim h
  | succ n ih =>
    intro n' j hC hM jc
    cases n' with
    | zero => exact False.elim hM
    | succ n' =>
    rw [wp_Nm_find_L2, n1] at hC
    rcases Nat.lt_or_ge j c with q | q
    · have nc : ¬ Int32.ofNat c ≤ Int32.ofNat j := by rw [on_le (by omega) (by omega)]; omega
      have n100 : ¬ (100 : Int32) ≤ Int32.ofNat j := by rw [show (100 : Int32) = Int32.ofNat 100 from rfl, on_le (by omega) (by omega)]; omega
      replace hC := ((hC.2 nc).2 n100).2
      rw [ix_on (by omega), on_succ (by omega)] at hC
      obtain ⟨w1, w2, w3, w4, -⟩ := n3 j q
      have nn : ¬ m.2.1.1.2.2.1 ≤ Int32.ofNat j := by
        rcases n4 with e | ⟨-, e, -⟩
        · rw [e, on_le (by omega) (by omega)]; omega
        · rw [e, on_le (by omega) (by omega)]; omega
      rcases nm_cmp hh (by omega) nn w2 w3 lb hM with ⟨g, hM⟩ | ⟨g, hM⟩
      · refine Or.inl ⟨j, q, g, hC.1 ?_, hM⟩
        rw [lg_cmp_eq]
        exact Int64.toInt_inj.mp (by rw [w4, hv, g])
      · refine ih n' (j + 1) (hC.2 (fun z => g ?_)) hM (by omega)
        rw [lg_cmp_eq] at z
        exact pk_inj w1 hw (by rw [← w4, ← hv, z])
    · have ej : j = c := by omega
      subst ej
      have hC := hC.1 (Int32.le_refl _)
      refine Or.inr ⟨hC, ?_⟩
      rcases n4 with e | ⟨c9, e, -⟩
      · rw [wp_Mo_nameOf_L2] at hM
        exact Or.inl (hM.1 (by rw [e]; exact Int32.le_refl _))
      · have pb := pl9 j e rfl
        have nn : ¬ m.2.1.1.2.2.1 ≤ Int32.ofNat j := by rw [e, on_le (by omega) (by omega)]; omega
        rcases nm_cmp hh c9 nn pb.1 pb.2 lb hM with ⟨g, hM⟩ | ⟨g, hM⟩
        · exact Or.inr ⟨e, hM⟩
        · cases n' with
          | zero => exact False.elim hM
          | succ n' =>
          rw [wp_Mo_nameOf_L2] at hM
          exact Or.inl (hM.1 (by rw [e]; exact Int32.le_refl _))
def PLn (m : T_Mo) (c : Nat) : Prop := m.2.1.1.2.2.1 = Int32.ofNat (c + 1) → (0 : Int32) ≤ m.2.1.2.1.1 (Ns m.1.2.1.2.1 + c) ∧ m.2.1.2.1.1 (Ns m.1.2.1.2.1 + c) ≤ 12
theorem rl_find {nm : T_Nm} {m : T_Mo} {c : Nat} {v : Int64} {PC PM : Int32 → Unit → Prop} (hh : m.1.2.1.2.1 = 0 ∨ m.1.2.1.2.1 = 1) (hn : NM nm m c) (pn : PLn m c) (hv : v.toInt = pk (wo m)) (hw : wl (wo m)) (lb : LB m) (hC : wp_Nm_find nm v PC) (hM : wp_Mo_nameOf m PM) : (∃ k, k < c ∧ nw m k = wo m ∧ PC (Int32.ofNat k) () ∧ PM (Int32.ofNat k) ()) ∨ (PC (-1) () ∧ (PM (-1) () ∨ (m.2.1.1.2.2.1 = Int32.ofNat (c + 1) ∧ PM (Int32.ofNat c) ()))) := by
  unfold wp_Nm_find at hC
  obtain ⟨n, hC⟩ := hC
  unfold wp_Mo_nameOf at hM
  obtain ⟨n', hM⟩ := hM
  exact rl_find_L hh hn (fun j e ej => by subst ej; exact pn e) hv hw lb n n' 0 hC hM (Nat.zero_le _)
/-- the words of the class, and where the reference stands among them -/
def RW (tx : Nat → Int32) (sz : Int32) (pl ln : Nat → Int32) (w : T_Wd) (m : T_Mo) : Prop := LX w tx sz pl ln w.2.2.2.2.2.2.1.toNatClampNeg ∧ WE w w.2.2.2.2.2.2.1.toNatClampNeg ∧ w.2.2.2.2.2.2.1 ≤ 4001 ∧ (0 : Int32) ≤ w.2.2.2.2.2.2.2.1 ∧ w.2.2.2.2.2.2.2.1 < w.2.2.2.2.2.2.1 ∧ CUR w ∧ m.1.1.1.1.1 = tx ∧ m.1.1.1.1.2 = sz ∧ m.1.1.2.2.1 = w.2.2.2.2.2.2.2.2.2.2.2.2.1 ∧ ((w.2.2.2.2.2.2.2.2.2.2.1 = 0 ∧ m.1.1.1.2.2.2 = 1) ∨ (Tok w.2.2.2.2.2.2.2.2.2.2.1 w.2.2.2.2.2.2.2.2.2.2.2.2.2 m ∧ m.1.1.1.2.1 = pl (w.2.2.2.2.2.2.2.1.toNatClampNeg + 1) ∧ m.1.1.1.2.2.1 = ln (w.2.2.2.2.2.2.2.1.toNatClampNeg + 1)))
theorem adv1 {c k : Int32} (c0 : (0 : Int32) ≤ c) (c2 : c < k) (c1 : c + (1 : Int32) < k) (c9 : k ≤ 4001) : ¬ (k - (1 : Int32)) ≤ c ∧ ¬ (4000 : Int32) ≤ c ∧ ¬ (c + (1 : Int32)) < 0 := by
  refine ⟨?_, ?_, ?_⟩ <;> grind
theorem iv_advance {w : T_Wd} {PC : Unit → T_Wd → Prop} (h : wp_Wd_advance w PC) (c0 : (0 : Int32) ≤ w.2.2.2.2.2.2.2.1) (c2 : w.2.2.2.2.2.2.2.1 < w.2.2.2.2.2.2.1) (c1 : w.2.2.2.2.2.2.2.1 + (1 : Int32) < w.2.2.2.2.2.2.1) (c9 : w.2.2.2.2.2.2.1 ≤ 4001) : PC () (w.1, w.2.1, w.2.2.1, w.2.2.2.1, w.2.2.2.2.1, w.2.2.2.2.2.1, w.2.2.2.2.2.2.1, (w.2.2.2.2.2.2.2.1 + (1 : Int32)), w.2.2.2.2.2.2.2.2.1, w.2.2.2.2.2.2.2.2.2.1, (w.2.1 (w.2.2.2.2.2.2.2.1 + (1 : Int32)).toNatClampNeg), (w.2.2.1 (w.2.2.2.2.2.2.2.1 + (1 : Int32)).toNatClampNeg), (w.2.2.2.1 (w.2.2.2.2.2.2.2.1 + (1 : Int32)).toNatClampNeg), (w.2.2.2.2.1 (w.2.2.2.2.2.2.2.1 + (1 : Int32)).toNatClampNeg)) := by
  obtain ⟨a, b, c⟩ := adv1 c0 c2 c1 c9
  unfold wp_Wd_advance at h
  exact (((h.2 a).2 b).2 c).2.2.2.2
set_option maxHeartbeats 1000000 in
theorem rl_pass {tx : Nat → Int32} {sz : Int32} {pl ln : Nat → Int32} {g : T_Gr} {nd : T_Nd} {w : T_Wd} {m : T_Mo} {PC : Unit → T_Gr × T_Wd → Prop} {PT : T_Gr × T_Wd → Prop} {PM : Int32 → T_Mo → Prop} (rw_ : RW tx sz pl ln w m) (nz : ¬ w.2.2.2.2.2.2.2.2.2.2.1 = 0) (n9 : nd.2.2.2.2.2.2.2.2.2.2.1 ≤ 1000) (hC : wp_Gr_pass g nd w PC PT) (hM : wp_Mo_go m PM) : (∃ w' m', PC () (g, w') ∧ PM 1 m' ∧ RW tx sz pl ln w' m' ∧ Fr m m' ∧ w'.2.2.2.2.2.2.2.1 = w.2.2.2.2.2.2.2.1 + 1) ∨ (∃ u m', PT u ∧ PM 0 m' ∧ Fr m m') ∨ (∃ w' m', PC () (g, w') ∧ PM 0 m' ∧ dead w'.2.2.2.2.2.2.2.2.2.2.1 ∧ Fr m m') := by
  obtain ⟨r1, r2, r3, r4, r5, r6, r7, r8, r9, r10⟩ := rw_
  have tk : Tok w.2.2.2.2.2.2.2.2.2.2.1 w.2.2.2.2.2.2.2.2.2.2.2.2.2 m ∧ m.1.1.1.2.1 = pl (w.2.2.2.2.2.2.2.1.toNatClampNeg + 1) ∧ m.1.1.1.2.2.1 = ln (w.2.2.2.2.2.2.2.1.toNatClampNeg + 1) := by
    rcases r10 with q | q
    · exact absurd q.1 nz
    · exact q
  have iu : (w.2.2.2.2.2.2.2.1 + (1 : Int32)).toNatClampNeg = w.2.2.2.2.2.2.2.1.toNatClampNeg + 1 := by
    rcases Int32.le_iff_lt_or_eq.mp (show w.2.2.2.2.2.2.2.1 ≤ 4000 by grind) with q | q
    · exact ix_up r4 q
    · rw [q]; decide
  have ci : w.2.2.2.2.2.2.2.1.toNatClampNeg < w.2.2.2.2.2.2.1.toNatClampNeg := by
    rw [Int32.lt_iff_toInt_lt] at r5
    rw [Int32.le_iff_toInt_le, show (0 : Int32).toInt = 0 from rfl] at r4
    show w.2.2.2.2.2.2.2.1.toInt.toNat < w.2.2.2.2.2.2.1.toInt.toNat
    omega
  have nl : ¬ w.2.2.2.2.2.2.2.1.toNatClampNeg + 1 = w.2.2.2.2.2.2.1.toNatClampNeg := fun q => by
    have := (r2 _ ci).mpr q
    rw [← r6.1] at this
    exact Tok_nl tk.1 this
  have cl : w.2.2.2.2.2.2.2.1 + (1 : Int32) < w.2.2.2.2.2.2.1 := by
    rw [Int32.lt_iff_toInt_lt]
    have e : (w.2.2.2.2.2.2.2.1 + (1 : Int32)).toInt.toNat = w.2.2.2.2.2.2.2.1.toInt.toNat + 1 := iu
    have n2 : ¬ w.2.2.2.2.2.2.2.1.toInt.toNat + 1 = w.2.2.2.2.2.2.1.toInt.toNat := nl
    have ci2 : w.2.2.2.2.2.2.2.1.toInt.toNat < w.2.2.2.2.2.2.1.toInt.toNat := ci
    omega
  unfold wp_Gr_pass wp_Nd_isTooMany at hC
  replace hC := iv_advance ((hC.1 n9).1 rfl) r4 r5 cl r3
  obtain ⟨r', m', hM, fr, k⟩ := r1 (w.2.2.2.2.2.2.2.1.toNatClampNeg + 1) (by omega) m PM r7 r8 tk.2.1 tk.2.2 hM
  rw [← iu] at k
  have frt : m'.1.1.1.1.1 = tx ∧ m'.1.1.1.1.2 = sz := by
    have := fr.1
    exact ⟨(congrArg Prod.fst this).trans r7, (congrArg Prod.snd this).trans r8⟩
  have c0' : (0 : Int32) ≤ w.2.2.2.2.2.2.2.1 + (1 : Int32) := by grind
  rcases k with ⟨k1, k2, k3, k4⟩ | ⟨k1, k2⟩ | ⟨k1, k2, k3, k4, k5⟩
  · subst k2
    have n131 : ¬ w.2.1 (w.2.2.2.2.2.2.2.1 + (1 : Int32)).toNatClampNeg = 131 := by rw [k1]; decide
    exact Or.inl ⟨_, m', hC.2 n131, hM, ⟨r1, r2, r3, c0', cl, ⟨rfl, rfl, rfl⟩, frt.1, frt.2, k4, Or.inl ⟨k1, k3⟩⟩, fr, rfl⟩
  · subst k1
    rcases k2 with k2 | k2
    · have := hC.1 k2
      unfold wp_Gr_refuse at this
      exact Or.inr (Or.inl ⟨_, m', this, hM, fr⟩)
    · have n131 : ¬ w.2.1 (w.2.2.2.2.2.2.2.1 + (1 : Int32)).toNatClampNeg = 131 := fun q => by
        rw [q] at k2; unfold dead at k2; exact absurd k2.2.1 (by decide)
      exact Or.inr (Or.inr ⟨_, m', hC.2 n131, hM, k2, fr⟩)
  · subst k1
    have n131 : ¬ w.2.1 (w.2.2.2.2.2.2.2.1 + (1 : Int32)).toNatClampNeg = 131 := fun q => Tok_nl k5 (Or.inr q)
    refine Or.inl ⟨_, m', hC.2 n131, hM, ⟨r1, r2, r3, c0', cl, ⟨rfl, rfl, rfl⟩, frt.1, frt.2, k4, Or.inr ⟨k5, ?_, ?_⟩⟩, fr, rfl⟩
    · show m'.1.1.1.2.1 = pl ((w.2.2.2.2.2.2.2.1 + (1 : Int32)).toNatClampNeg + 1)
      exact k2
    · show m'.1.1.1.2.2.1 = ln ((w.2.2.2.2.2.2.2.1 + (1 : Int32)).toNatClampNeg + 1)
      exact k3

/-- frames: what the other half keeps, and the counts of the finished program -/
def FO (m m' : T_Mo) : Prop := m'.1.2.1.2.1 = m.1.2.1.2.1 ∧ m'.2.1.2.2.2.2 = m.2.1.2.2.2.2 ∧ m'.2.2.1.1.1 = m.2.2.1.1.1 ∧ m'.2.2.1.1.2 = m.2.2.1.1.2 ∧ m'.2.2.2.1.1 = m.2.2.2.1.1 ∧ (∀ j, (j < Bs m.1.2.1.2.1 ∨ Bs m.1.2.1.2.1 + 1000 ≤ j) → m'.1.2.1.2.2.2 j = m.1.2.1.2.2.2 j ∧ m'.1.2.2.1.1 j = m.1.2.2.1.1 j ∧ m'.1.2.2.1.2.1 j = m.1.2.2.1.2.1 j ∧ m'.1.2.2.1.2.2 j = m.1.2.2.1.2.2 j ∧ m'.1.2.2.2.1 j = m.1.2.2.2.1 j ∧ m'.1.2.2.2.2.1 j = m.1.2.2.2.2.1 j ∧ m'.1.2.2.2.2.2 j = m.1.2.2.2.2.2 j ∧ m'.2.1.1.1.2 j = m.2.1.1.1.2 j) ∧ (∀ j, (j < Ns m.1.2.1.2.1 ∨ Ns m.1.2.1.2.1 + 100 ≤ j) → m'.2.1.2.1.1 j = m.2.1.2.1.1 j ∧ m'.2.1.2.1.2 j = m.2.1.2.1.2 j ∧ m'.2.1.2.2.1 j = m.2.1.2.2.1 j ∧ m'.2.1.2.2.2.1 j = m.2.1.2.2.2.1 j) ∧ (∀ j, (j < 12 * Ns m.1.2.1.2.1 ∨ 12 * (Ns m.1.2.1.2.1 + 100) ≤ j) → m'.2.1.1.2.2.2 j = m.2.1.1.2.2.2 j)
theorem FO_refl {m : T_Mo} : FO m m := ⟨rfl, rfl, rfl, rfl, rfl, fun _ _ => ⟨rfl, rfl, rfl, rfl, rfl, rfl, rfl, rfl⟩, fun _ _ => ⟨rfl, rfl, rfl, rfl⟩, fun _ _ => rfl⟩
theorem FO_trans {m u v : T_Mo} (a : FO m u) (b : FO u v) : FO m v := by
  obtain ⟨a1, a2, a3, a4, a5, a6, a7, a8⟩ := a
  obtain ⟨b1, b2, b3, b4, b5, b6, b7, b8⟩ := b
  rw [a1] at b6 b7 b8
  refine ⟨b1.trans a1, b2.trans a2, b3.trans a3, b4.trans a4, b5.trans a5, fun j hj => ?_, fun j hj => ?_, fun j hj => ?_⟩
  · obtain ⟨x1, x2, x3, x4, x5, x6, x7, x8⟩ := a6 j hj
    obtain ⟨y1, y2, y3, y4, y5, y6, y7, y8⟩ := b6 j hj
    exact ⟨y1.trans x1, y2.trans x2, y3.trans x3, y4.trans x4, y5.trans x5, y6.trans x6, y7.trans x7, y8.trans x8⟩
  · obtain ⟨x1, x2, x3, x4⟩ := a7 j hj
    obtain ⟨y1, y2, y3, y4⟩ := b7 j hj
    exact ⟨y1.trans x1, y2.trans x2, y3.trans x3, y4.trans x4⟩
  · exact (b8 j hj).trans (a8 j hj)
theorem FO_Fr {m u : T_Mo} (f : Fr m u) : FO m u := by
  obtain ⟨f1, f2, f3, f4, f5⟩ := f
  unfold FO
  rw [f3, f4, f5]
  exact FO_refl
theorem FO_AN {m m' : T_Mo} {n km mark : Nat} {w : Int32} {v : Int64} {ln un : Int32} {l : List Nat} (an : AN m m' n km mark w v ln un l) (n9 : n < 1000) (k9 : km + l.length ≤ 1000) : FO m m' := by
  obtain ⟨ks, e, g1, g2⟩ := an
  subst e
  refine ⟨rfl, rfl, rfl, rfl, rfl, fun j hj => ?_, fun j hj => ⟨rfl, rfl, rfl, rfl⟩, fun j hj => rfl⟩
  have ne : j ≠ Bs m.1.2.1.2.1 + n := by omega
  exact ⟨upd_ne ne, updL_ne ne, upd_ne ne, upd_ne ne, upd_ne ne, upd_ne ne, g2 j (by omega), rfl⟩
/-- the names as they were -/
def NmF (m m' : T_Mo) : Prop := m'.2.1.1.2.2.1 = m.2.1.1.2.2.1 ∧ m'.2.1.1.2.2.2 = m.2.1.1.2.2.2 ∧ m'.2.1.2.1.1 = m.2.1.2.1.1 ∧ m'.2.1.2.1.2 = m.2.1.2.1.2 ∧ m'.2.1.2.2.1 = m.2.1.2.2.1 ∧ m'.2.1.2.2.2.1 = m.2.1.2.2.2.1
theorem NmF_refl {m : T_Mo} : NmF m m := ⟨rfl, rfl, rfl, rfl, rfl, rfl⟩
theorem NmF_trans {m u v : T_Mo} (a : NmF m u) (b : NmF u v) : NmF m v := ⟨b.1.trans a.1, b.2.1.trans a.2.1, b.2.2.1.trans a.2.2.1, b.2.2.2.1.trans a.2.2.2.1, b.2.2.2.2.1.trans a.2.2.2.2.1, b.2.2.2.2.2.trans a.2.2.2.2.2⟩
/-- frames: pile below hi, tops, what is open -/
def FP (m m' : T_Mo) (hi : Nat) : Prop := (∀ j, j < hi → m'.2.2.1.2.2.1 j = m.2.2.1.2.2.1 j) ∧ m'.1.2.1.1.2 = m.1.2.1.1.2 ∧ m'.2.1.1.1.2 = m.2.1.1.1.2 ∧ m'.2.1.1.2.1 = m.2.1.1.2.1 ∧ m'.2.2.1.2.2.2 = m.2.2.1.2.2.2 ∧ NmF m m'
theorem FP_refl {m : T_Mo} {hi : Nat} : FP m m hi := ⟨fun _ _ => rfl, rfl, rfl, rfl, rfl, NmF_refl⟩
theorem FP_trans {m u v : T_Mo} {hi : Nat} (a : FP m u hi) (b : FP u v hi) : FP m v hi := ⟨fun j hj => (b.1 j hj).trans (a.1 j hj), b.2.1.trans a.2.1, b.2.2.1.trans a.2.2.1, b.2.2.2.1.trans a.2.2.2.1, b.2.2.2.2.1.trans a.2.2.2.2.1, NmF_trans a.2.2.2.2.2 b.2.2.2.2.2⟩
theorem FP_Fr {m u : T_Mo} {hi : Nat} (f : Fr m u) : FP m u hi := by
  obtain ⟨f1, f2, f3, f4, f5⟩ := f
  unfold FP NmF
  rw [f2, f5]
  exact ⟨fun _ _ => rfl, rfl, rfl, rfl, rfl, rfl, rfl, rfl, rfl, rfl, rfl⟩
theorem NR_Fr {nd : T_Nd} {m u : T_Mo} {n km : Nat} (h : NR nd m n km) (f : Fr m u) : NR nd u n km := by
  obtain ⟨f1, f2, f3, f4, f5⟩ := f
  unfold NR NRi at h ⊢
  rw [f3, f4, f5]
  exact h
theorem NM_Fr {nm : T_Nm} {m u : T_Mo} {c : Nat} (h : NM nm m c) (f : Fr m u) : NM nm u c := by
  obtain ⟨f1, f2, f3, f4, f5⟩ := f
  unfold NM NMi nw at h ⊢
  rw [f3, f5]
  exact h
theorem PLn_Fr {m u : T_Mo} {c : Nat} (h : PLn m c) (f : Fr m u) : PLn u c := by
  obtain ⟨f1, f2, f3, f4, f5⟩ := f
  unfold PLn at h ⊢
  rw [f3, f5]
  exact h
theorem NM_AN {nm : T_Nm} {m m' : T_Mo} {c n km mark : Nat} {w : Int32} {v : Int64} {ln un : Int32} {l : List Nat} (h : NM nm m c) (an : AN m m' n km mark w v ln un l) : NM nm m' c := by
  obtain ⟨ks, e, -⟩ := an
  subst e
  exact h
theorem PLn_AN {m m' : T_Mo} {c n km mark : Nat} {w : Int32} {v : Int64} {ln un : Int32} {l : List Nat} (h : PLn m c) (an : AN m m' n km mark w v ln un l) : PLn m' c := by
  obtain ⟨ks, e, -⟩ := an
  subst e
  exact h
theorem RW_AN {tx : Nat → Int32} {sz : Int32} {pl ln : Nat → Int32} {w : T_Wd} {m m' : T_Mo} {n km mark : Nat} {k : Int32} {v : Int64} {li un : Int32} {l : List Nat} (h : RW tx sz pl ln w m) (an : AN m m' n km mark k v li un l) : RW tx sz pl ln w m' := by
  obtain ⟨ks, e, -⟩ := an
  subst e
  exact h
/-- class and reference in the midst of reading -/
def RG (tx : Nat → Int32) (sz : Int32) (pl ln : Nat → Int32) (nm : T_Nm) (nd : T_Nd) (w : T_Wd) (m : T_Mo) (n km hi tp c : Nat) : Prop := RW tx sz pl ln w m ∧ NR nd m n km ∧ NM nm m c ∧ PLn m c ∧ m.2.2.1.2.2.2 = Int32.ofNat hi ∧ m.2.1.1.2.1 = Int32.ofNat tp ∧ km + hi + tp ≤ n
def DM (nd : T_Nd) (w : T_Wd) : Prop := dead w.2.2.2.2.2.2.2.2.2.2.1 ∨ (1000 : Int32) < nd.2.2.2.2.2.2.2.2.2.2.1
theorem iv_has {nd : T_Nd} {k n : Nat} {P : Int32 → Unit → Prop} (h : wp_Nd_has nd (Int32.ofNat k) P) (e : nd.2.2.2.2.2.2.2.2.2.2.1 = Int32.ofNat n) (kn : k < n) (n9 : n ≤ 1070) : P 1 () := by
  unfold wp_Nd_has at h
  rw [e] at h
  have a : ¬ Int32.ofNat k < 0 := by rw [Int32.lt_iff_toInt_lt, on_toInt (by omega), show (0 : Int32).toInt = 0 from rfl]; omega
  have b : ¬ Int32.ofNat n ≤ Int32.ofNat k := by rw [on_le (by omega) (by omega)]; omega
  have c : ¬ (1070 : Int32) ≤ Int32.ofNat k := by rw [show (1070 : Int32) = Int32.ofNat 1070 from rfl, on_le (by omega) (by omega)]; omega
  exact ((h.2 a).2 b).2 c
theorem iv_measureOf {nd : T_Nd} {k n : Nat} {P : Int32 → Unit → Prop} (h : wp_Nd_measureOf nd (Int32.ofNat k) P) (e : nd.2.2.2.2.2.2.2.2.2.2.1 = Int32.ofNat n) (kn : k < n) (n9 : n ≤ 1070) : P (nd.2.2.2.1 k) () := by
  unfold wp_Nd_measureOf at h
  have h := ((iv_has h e kn n9).2 (by decide)).2
  rw [ix_on (by omega)] at h; exact h
theorem iv_lowOf {nd : T_Nd} {k n : Nat} {P : Int32 → Unit → Prop} (h : wp_Nd_lowOf nd (Int32.ofNat k) P) (e : nd.2.2.2.2.2.2.2.2.2.2.1 = Int32.ofNat n) (kn : k < n) (n9 : n ≤ 1070) : P (nd.2.2.2.2.1 k) () := by
  unfold wp_Nd_lowOf at h
  have h := ((iv_has h e kn n9).2 (by decide)).2
  rw [ix_on (by omega)] at h; exact h
theorem iv_rowOf {nd : T_Nd} {k n : Nat} {P : Int32 → Unit → Prop} (h : wp_Nd_rowOf nd (Int32.ofNat k) P) (e : nd.2.2.2.2.2.2.2.2.2.2.1 = Int32.ofNat n) (kn : k < n) (n9 : n ≤ 1070) : P (nd.2.1 k) () := by
  unfold wp_Nd_rowOf at h
  have h := ((iv_has h e kn n9).2 (by decide)).2
  rw [ix_on (by omega)] at h; exact h
theorem iv_unitIn {m : T_Mo} {k : Nat} {P : Int32 → Unit → Prop} (h : wp_Mo_unitIn m (Int32.ofNat k) P) (hh : m.1.2.1.2.1 = 0 ∨ m.1.2.1.2.1 = 1) (k9 : k < 1000) : P (m.1.2.2.1.2.2 (Bs m.1.2.1.2.1 + k)) () := by
  unfold wp_Mo_unitIn wp_Mo_base at h
  have h := h.2
  rw [Bs_at hh rfl k9] at h; exact h
/-- an operator of the class -/
theorem op_step {g : T_Gr} {w : T_Wd} {K : Int32 → Int32 → Int32 → Prop} {post : Int32 → Unit → Prop} {n : Nat} {x1 x2 x3 y ch : Int32} (h : wp_Gr_operator_L2 g w K post n x1 x2 x3) (a : ¬ x2 < x3) (b : ¬ (10 : Int32) ≤ x3) (hc : xq_ch 1 x3 = ch) (hy : x3 + (1 : Int32) = y) : (w.2.2.2.2.2.2.2.2.2.2.1 = ch ∧ post x3 ()) ∨ (¬ w.2.2.2.2.2.2.2.2.2.2.1 = ch ∧ ∃ n', wp_Gr_operator_L2 g w K post n' x1 x2 y) := by
  subst hy
  cases n with
  | zero => exact False.elim h
  | succ n =>
  rw [wp_Gr_operator_L2, hc] at h
  replace h := ((h.2 a).2 b).2
  by_cases c : ch = w.2.2.2.2.2.2.2.2.2.2.1
  · exact Or.inl ⟨c.symm, h.1 c⟩
  · exact Or.inr ⟨fun q => c q.symm, n, h.2 c⟩
theorem op_end {g : T_Gr} {w : T_Wd} {K : Int32 → Int32 → Int32 → Prop} {post : Int32 → Unit → Prop} {n : Nat} {x1 x2 x3 : Int32} (h : wp_Gr_operator_L2 g w K post n x1 x2 x3) (a : x2 < x3) : K x1 x2 x3 := by
  cases n with
  | zero => exact False.elim h
  | succ n =>
  rw [wp_Gr_operator_L2] at h
  exact h.1 a
theorem iv_op23 {g : T_Gr} {w : T_Wd} {P : Int32 → Unit → Prop} (h : wp_Gr_operator g w 2 3 P) : (w.2.2.2.2.2.2.2.2.2.2.1 = 43 ∧ P 2 ()) ∨ (w.2.2.2.2.2.2.2.2.2.2.1 = 45 ∧ P 3 ()) ∨ ((¬ w.2.2.2.2.2.2.2.2.2.2.1 = 43 ∧ ¬ w.2.2.2.2.2.2.2.2.2.2.1 = 45) ∧ P (-1) ()) := by
  unfold wp_Gr_operator at h
  obtain ⟨n, h⟩ := h
  rcases op_step (y := 3) (ch := 43) h (by decide) (by decide) (by decide) rfl with q | ⟨q1, n1, h⟩
  · exact Or.inl q
  · rcases op_step (y := 4) (ch := 45) h (by decide) (by decide) (by decide) rfl with q | ⟨q2, n2, h⟩
    · exact Or.inr (Or.inl q)
    · exact Or.inr (Or.inr ⟨⟨q1, q2⟩, op_end h (by decide)⟩)
theorem iv_op45 {g : T_Gr} {w : T_Wd} {P : Int32 → Unit → Prop} (h : wp_Gr_operator g w 4 5 P) : (w.2.2.2.2.2.2.2.2.2.2.1 = 42 ∧ P 4 ()) ∨ (w.2.2.2.2.2.2.2.2.2.2.1 = 47 ∧ P 5 ()) ∨ ((¬ w.2.2.2.2.2.2.2.2.2.2.1 = 42 ∧ ¬ w.2.2.2.2.2.2.2.2.2.2.1 = 47) ∧ P (-1) ()) := by
  unfold wp_Gr_operator at h
  obtain ⟨n, h⟩ := h
  rcases op_step (y := 5) (ch := 42) h (by decide) (by decide) (by decide) rfl with q | ⟨q1, n1, h⟩
  · exact Or.inl q
  · rcases op_step (y := 6) (ch := 47) h (by decide) (by decide) (by decide) rfl with q | ⟨q2, n2, h⟩
    · exact Or.inr (Or.inl q)
    · exact Or.inr (Or.inr ⟨⟨q1, q2⟩, op_end h (by decide)⟩)
theorem iv_op79 {g : T_Gr} {w : T_Wd} {P : Int32 → Unit → Prop} (h : wp_Gr_operator g w 7 9 P) : (w.2.2.2.2.2.2.2.2.2.2.1 = 60 ∧ P 7 ()) ∨ (w.2.2.2.2.2.2.2.2.2.2.1 = 61 ∧ P 8 ()) ∨ (w.2.2.2.2.2.2.2.2.2.2.1 = 62 ∧ P 9 ()) ∨ ((¬ w.2.2.2.2.2.2.2.2.2.2.1 = 60 ∧ ¬ w.2.2.2.2.2.2.2.2.2.2.1 = 61 ∧ ¬ w.2.2.2.2.2.2.2.2.2.2.1 = 62) ∧ P (-1) ()) := by
  unfold wp_Gr_operator at h
  obtain ⟨n, h⟩ := h
  rcases op_step (y := 8) (ch := 60) h (by decide) (by decide) (by decide) rfl with q | ⟨q1, n1, h⟩
  · exact Or.inl q
  · rcases op_step (y := 9) (ch := 61) h (by decide) (by decide) (by decide) rfl with q | ⟨q2, n2, h⟩
    · exact Or.inr (Or.inl q)
    · rcases op_step (y := 10) (ch := 62) h (by decide) (by decide) (by decide) rfl with q | ⟨q3, n3, h⟩
      · exact Or.inr (Or.inr (Or.inl q))
      · exact Or.inr (Or.inr (Or.inr ⟨⟨q1, q2, q3⟩, op_end h (by decide)⟩))
def jd (k a b : Int32) : Int32 := if k = 4 ∧ a = 0 then b else if (k = 4 ∨ k = 5) ∧ b = 0 then a else if k = 4 ∨ ¬ a = b then -1 else if k = 5 then 0 else a
theorem iv_joined {k a b : Int32} {P : Int32 → Unit → Prop} (h : wp_Gr_joined k a b P) : P (jd k a b) () := by
  unfold wp_Gr_joined at h
  unfold jd
  by_cases k4 : k = 4
  · replace h := h.1 k4
    by_cases a0 : a = 0
    · rw [if_pos ⟨k4, a0⟩]; exact h.1 a0
    · rw [if_neg (fun q => a0 q.2)]
      replace h := (h.2 a0).1 k4
      by_cases b0 : b = 0
      · rw [if_pos ⟨Or.inl k4, b0⟩]; exact h.1 b0
      · rw [if_neg (fun q => b0 q.2), if_pos (Or.inl k4)]; exact (h.2 b0).1 k4
  · rw [if_neg (fun q => k4 q.1)]
    replace h := (h.2 k4).2 k4
    by_cases k5 : k = 5
    · replace h := h.1 k5
      by_cases b0 : b = 0
      · rw [if_pos ⟨Or.inr k5, b0⟩]; exact h.1 b0
      · rw [if_neg (fun q => b0 q.2)]
        replace h := (h.2 b0).2 k4
        by_cases e : a = b
        · rw [if_neg (fun q => q.elim k4 (fun q => q e)), if_pos k5]; exact (h.1 e).1 k5
        · rw [if_pos (Or.inr e)]; exact h.2 e
    · rw [if_neg (fun q => q.1.elim k4 k5)]
      replace h := (h.2 k5).2 k4
      by_cases e : a = b
      · rw [if_neg (fun q => q.elim k4 (fun q => q e)), if_neg k5]; exact (h.1 e).2 k5
      · rw [if_pos (Or.inr e)]; exact h.2 e
theorem sg_b {x : Int32} (h : sg x) : x ≤ 125 := by
  unfold sg at h
  rcases h with h | h | h | h | h | h | h | h | h | h | h | h <;> rw [h] <;> decide
theorem KP_sg {c t x : Int32} (h : KP c t) (hx : sg x) : c = x ↔ t = x := by
  have b := KP_b h
  have e := sg_b hx
  constructor
  · intro q
    rw [q] at b
    rcases b.1 with b | b
    · rw [b] at e; exact absurd e (by decide)
    · exact absurd (Int32.le_trans b e) (by decide)
  · intro q
    rw [q] at b
    exact absurd (Int32.le_trans b.2 e) (by decide)
/-- codes and tokens: what stands here -/
theorem RW_sg {tx : Nat → Int32} {sz : Int32} {pl ln : Nat → Int32} {w : T_Wd} {m : T_Mo} (h : RW tx sz pl ln w m) {x : Int32} (hx : sg x) : w.2.2.2.2.2.2.2.2.2.2.1 = x ↔ m.1.1.1.2.2.2 = x := by
  obtain ⟨-, -, -, -, -, -, -, -, -, k⟩ := h
  have tk : ∀ l : List Int32, KP (cdK l) ((1000 : Int32) + mn1 l) := KP_all
  rcases k with ⟨k1, k2⟩ | ⟨k, -, -⟩
  · rw [k1, k2]
    unfold sg at hx
    constructor
    · intro q; rw [← q] at hx; exact absurd hx (by decide)
    · intro q; rw [← q] at hx; exact absurd hx (by decide)
  · rcases k with ⟨k1, k2⟩ | ⟨k1, k2, -⟩ | ⟨k1, k2, -⟩ | ⟨k1, k2, -⟩
    · rw [k2]
    · rw [k1, k2]; unfold sg at hx; constructor <;> intro q <;> rw [← q] at hx <;> exact absurd hx (by decide)
    · rw [k1, k2]; unfold sg at hx; constructor <;> intro q <;> rw [← q] at hx <;> exact absurd hx (by decide)
    · have kp := tk (wo m)
      rw [← k1, ← k2] at kp
      exact KP_sg kp hx

