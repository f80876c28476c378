def rN (c : Int32) : Nat := (rkI c).toNat
def pn : List Int32 → Nat
  | [] => 0
  | c :: t => rN c * 37 ^ t.length + pn t
theorem rN_b {c : Int32} (h : lt c ∨ dg c) : rkI c = (rN c : Int) ∧ 1 ≤ rN c ∧ rN c ≤ 36 := by
  have := rkI_b h
  unfold rN
  omega
theorem pr_app {c : Int32} : ∀ (a : List Int32), pr (a ++ [c]) = pr a + rkI c * ((37 ^ a.length : Nat) : Int)
  | [] => by show pr [] * 37 + rkI c = pr [] + rkI c * ((37 ^ 0 : Nat) : Int); show 0 * 37 + rkI c = 0 + rkI c * 1; omega
  | x :: a => by
    show pr (a ++ [c]) * 37 + rkI x = (pr a * 37 + rkI x) + rkI c * ((37 ^ (a.length + 1) : Nat) : Int)
    rw [pr_app a, Nat.pow_succ, Int.natCast_mul, Int.add_mul, Int.mul_assoc]
    show pr a * 37 + rkI c * (((37 ^ a.length : Nat) : Int) * 37) + rkI x = pr a * 37 + rkI x + rkI c * (((37 ^ a.length : Nat) : Int) * ((37 : Nat) : Int))
    have : ((37 : Nat) : Int) = 37 := rfl
    rw [this]; omega
theorem pk_pn : ∀ (w : List Int32), wl w → pk w = (pn w : Int)
  | [], _ => rfl
  | c :: t, h => by
    have ih := pk_pn t (fun x hx => h x (List.mem_cons_of_mem _ hx))
    have b := rN_b (h c List.mem_cons_self)
    unfold pk at ih ⊢
    rw [List.reverse_cons, pr_app, ih, List.length_reverse, b.1]
    show (pn t : Int) + (rN c : Int) * ((37 ^ t.length : Nat) : Int) = ((rN c * 37 ^ t.length + pn t : Nat) : Int)
    rw [Int.natCast_add, Int.natCast_mul]; omega
theorem pn_lt : ∀ (w : List Int32), wl w → pn w < 37 ^ w.length
  | [], _ => by decide
  | c :: t, h => by
    have ih := pn_lt t (fun x hx => h x (List.mem_cons_of_mem _ hx))
    have b := rN_b (h c List.mem_cons_self)
    show rN c * 37 ^ t.length + pn t < 37 ^ (t.length + 1)
    rw [Nat.pow_succ, Nat.mul_comm _ 37]
    have : rN c * 37 ^ t.length ≤ 36 * 37 ^ t.length := Nat.mul_le_mul_right _ b.2.2
    omega
theorem pn_ge {c : Int32} {t : List Int32} (h : wl (c :: t)) : 37 ^ t.length ≤ pn (c :: t) := by
  have b := rN_b (h c List.mem_cons_self)
  show _ ≤ rN c * 37 ^ t.length + pn t
  have : 1 * 37 ^ t.length ≤ rN c * 37 ^ t.length := Nat.mul_le_mul_right _ b.2.1
  omega
theorem p37 {k : Nat} (h : k ≤ 12) : 37 ^ k ≤ 6582952005840035281 ∧ 0 < 37 ^ k := ⟨by
  have : 37 ^ k ≤ 37 ^ 12 := Nat.pow_le_pow_right (by omega) h
  exact this, Nat.pow_pos (by omega)⟩
theorem unrank {c : Int32} {x : Int32} {P : Int32 → Unit → Prop} (h : lt c ∨ dg c) (e : x.toInt = (rN c : Int)) (hp : wp_Kw_unranked x P) : P c () := by
  have b := rN_b h
  unfold wp_Kw_unranked at hp
  have e26 : (26 : Int32).toInt = 26 := rfl
  unfold rkI at b
  by_cases a : (97 : Int32) ≤ c ∧ c ≤ 122
  · rw [if_pos a] at b
    have a' := a
    rw [Int32.le_iff_toInt_le, Int32.le_iff_toInt_le, show (97 : Int32).toInt = 97 from rfl, show (122 : Int32).toInt = 122 from rfl] at a'
    replace hp := hp.2 (by rw [Int32.lt_iff_toInt_lt, e, e26]; omega)
    have : ((97 : Int32) + x) - (1 : Int32) = c := by
      apply Int32.toInt_inj.mp
      rw [Int32.toInt_sub, Int32.toInt_add, e, show (97 : Int32).toInt = 97 from rfl, show (1 : Int32).toInt = 1 from rfl]
      rw [Int.bmod_eq_of_le (n := 97 + (rN c : Int)) (by omega) (by omega), Int.bmod_eq_of_le (by omega) (by omega)]; omega
    rw [this] at hp; exact hp
  · have d := h.resolve_left a
    have d' := d
    unfold dg at d'
    rw [if_neg a, if_pos d'] at b
    rw [Int32.le_iff_toInt_le, Int32.le_iff_toInt_le, show (48 : Int32).toInt = 48 from rfl, show (57 : Int32).toInt = 57 from rfl] at d'
    replace hp := hp.1 (by rw [Int32.lt_iff_toInt_lt, e, e26]; omega)
    have : ((48 : Int32) + x) - (27 : Int32) = c := by
      apply Int32.toInt_inj.mp
      rw [Int32.toInt_sub, Int32.toInt_add, e, show (48 : Int32).toInt = 48 from rfl, show (27 : Int32).toInt = 27 from rfl]
      rw [Int.bmod_eq_of_le (n := 48 + (rN c : Int)) (by omega) (by omega), Int.bmod_eq_of_le (by omega) (by omega)]; omega
    rw [this] at hp; exact hp
theorem ltr_b {c : Int32} (h : lt c ∨ dg c) : 48 ≤ c.toInt ∧ c.toInt ≤ 122 := by
  unfold lt dg at h
  rw [Int32.le_iff_toInt_le, Int32.le_iff_toInt_le, Int32.le_iff_toInt_le, Int32.le_iff_toInt_le, show (97 : Int32).toInt = 97 from rfl, show (122 : Int32).toInt = 122 from rfl, show (48 : Int32).toInt = 48 from rfl, show (57 : Int32).toInt = 57 from rfl] at h
  omega
theorem p37d {k : Nat} : 37 ^ (k + 1) / 37 = 37 ^ k := by rw [Nat.pow_succ, Nat.mul_div_cancel _ (by omega)]
set_option maxHeartbeats 1000000 in
theorem pl_run {K : T_Pg → Int64 → Int64 → Int32 → Prop} {post : Unit → T_Pg → Prop} {x1 : Int64} {x5 : Int32} {V : Nat} (e1 : x1.toInt = (V : Int)) (V9 : V < 9223372036854775808) : ∀ (s : List Int32) (f q : Nat) (pg : T_Pg) (l : List Int32) (x3 : Int64), wl s → s.length ≤ 12 → V = q * 37 ^ s.length + pn s → x3.toInt = ((37 ^ s.length / 37 : Nat) : Int) → wp_Pg_putLetters_L38 K post f pg x1 x3 x5 → PG pg l → l.length + s.length ≤ 12000 → ∃ pg' y, K pg' x1 y x5 ∧ PG pg' (l ++ s)
  | s, 0, q, pg, l, x3, _, _, _, _, h, _, _ => False.elim h
  | [], f + 1, q, pg, l, x3, ws, s9, eV, e3, h, g, r => by
    rw [wp_Pg_putLetters_L38] at h
    have z : (lg_cmp x3 (0 : Int64)) ≤ 0 := (lg_cmp_le _ _).mpr (Int64.le_iff_toInt_le.mpr (by rw [e3]; decide))
    exact ⟨pg, _, h.1 z, by rw [List.append_nil]; exact g⟩
  | c :: t, f + 1, q, pg, l, x3, ws, s9, eV, e3, h, g, r => by
    rw [List.length_cons] at s9 r e3 eV
    have p := p37 (k := t.length) (by omega)
    rw [p37d] at e3
    have wt : wl t := fun x hx => ws x (List.mem_cons_of_mem _ hx)
    have b := rN_b (ws c List.mem_cons_self)
    have tl := pn_lt t wt
    have ePn : pn (c :: t) = rN c * 37 ^ t.length + pn t := rfl
    rw [wp_Pg_putLetters_L38] at h
    have z : ¬ (lg_cmp x3 (0 : Int64)) ≤ 0 := fun z => by
      have := (lg_cmp_le _ _).mp z
      rw [Int64.le_iff_toInt_le, e3, show (0 : Int64).toInt = 0 from rfl] at this
      omega
    replace h := (h.2 z).2
    have dv := d64 e1 e3 V9 p.2
    have eq : V = 37 ^ t.length * (q * 37 + rN c) + pn t := by
      rw [eV, ePn, Nat.pow_succ, Nat.mul_add, Nat.mul_comm (rN c)]
      have : q * (37 ^ t.length * 37) = 37 ^ t.length * (q * 37) := by rw [Nat.mul_left_comm]
      omega
    have dq : V / 37 ^ t.length = q * 37 + rN c := by
      rw [eq, Nat.mul_add_div p.2, Nat.div_eq_of_lt tl, Nat.add_zero]
    have mq : V / 37 ^ t.length % 37 = rN c := by rw [dq]; omega
    have vl : V / 37 ^ t.length ≤ V := Nat.div_le_self _ _
    have mm := m64 dv (show (37 : Int64).toInt = ((37 : Nat) : Int) from rfl) (by omega) (by omega) (by omega)
    rw [mq] at mm
    have m32 : (x1 / x3 - x1 / x3 / (37 : Int64) * (37 : Int64)).toInt32.toInt = (rN c : Int) := by
      rw [Int64.toInt_toInt32, mm]; exact Int.bmod_eq_of_le (by omega) (by omega)
    replace h := unrank (ws c List.mem_cons_self) m32 h
    have cb := ltr_b (ws c List.mem_cons_self)
    obtain ⟨pg1, h, g1⟩ := pg_put g (by omega) (by omega) (by omega) h
    have ex : (x3 / (37 : Int64)).toInt = ((37 ^ t.length / 37 : Nat) : Int) := d64 e3 (show (37 : Int64).toInt = ((37 : Nat) : Int) from rfl) (by omega) (by omega)
    obtain ⟨pg2, y, h, g2⟩ := pl_run e1 V9 t f (q * 37 + rN c) pg1 _ _ wt (by omega) (by rw [Nat.mul_comm]; exact eq) ex h g1 (by rw [List.length_append]; show l.length + 1 + _ ≤ _; omega)
    refine ⟨pg2, y, h, ?_⟩
    have : l ++ c :: t = l ++ [c] ++ t := by rw [List.append_assoc]; rfl
    rw [this]; exact g2
theorem pl_pow {K : T_Pg → Int64 → Int64 → Int32 → Prop} {post : Unit → T_Pg → Prop} {x1 : Int64} {V L : Nat} (e1 : x1.toInt = (V : Int)) (L9 : L < 12) (V1 : 37 ^ L ≤ V) (V2 : V < 37 ^ (L + 1)) {pg : T_Pg} : ∀ (d j f : Nat) (x3 : Int64), j + d = L → x3.toInt = ((37 ^ j : Nat) : Int) → wp_Pg_putLetters_L9 K post f pg x1 x3 (Int32.ofNat (j + 1)) → ∃ y y5, K pg x1 y y5 ∧ y.toInt = ((37 ^ L : Nat) : Int)
  | d, j, 0, x3, _, _, h => False.elim h
  | 0, j, f + 1, x3, jd, e3, h => by
    have ej : j = L := by omega
    subst ej
    have pj := p37 (k := j) (by omega)
    have pj1 := p37 (k := j + 1) (by omega)
    rw [wp_Pg_putLetters_L9] at h
    rcases br_el h with ⟨q, h⟩ | ⟨q, h⟩
    · exact ⟨_, _, h, e3⟩
    · have dv := d64 e1 e3 (by omega) pj.2
      replace h := h.2.1 ((lg_cmp_lt _ _).mpr (Int64.lt_iff_toInt_lt.mpr (by
        rw [dv, show (37 : Int64).toInt = ((37 : Nat) : Int) from rfl]
        have : V / 37 ^ j < 37 := by rw [Nat.div_lt_iff_lt_mul pj.2, Nat.mul_comm, ← Nat.pow_succ]; exact V2
        omega)))
      exact ⟨_, _, h, e3⟩
  | d + 1, j, f + 1, x3, jd, e3, h => by
    have pj := p37 (k := j) (by omega)
    have pj1 := p37 (k := j + 1) (by omega)
    have pL := p37 (k := L + 1) (by omega)
    have le : 37 ^ (j + 1) ≤ 37 ^ L := Nat.pow_le_pow_right (by omega) (by omega)
    rw [wp_Pg_putLetters_L9] at h
    replace h := (h.2 (by rw [show (12 : Int32) = Int32.ofNat 12 from rfl, on_le (by omega) (by omega)]; omega)).2
    have dv := d64 e1 e3 (by omega) pj.2
    replace h := h.2 (fun z => by
      have := (lg_cmp_lt _ _).mp z
      rw [Int64.lt_iff_toInt_lt, dv, show (37 : Int64).toInt = ((37 : Nat) : Int) from rfl] at this
      have q : V / 37 ^ j < 37 := by omega
      rw [Nat.div_lt_iff_lt_mul pj.2, Nat.mul_comm, ← Nat.pow_succ] at q
      omega)
    rw [on_succ (by omega)] at h
    have e3' : (x3 * (37 : Int64)).toInt = ((37 ^ (j + 1) : Nat) : Int) := by
      rw [Int64.toInt_mul, e3, show (37 : Int64).toInt = ((37 : Nat) : Int) from rfl, ← Int.natCast_mul, ← Nat.pow_succ]
      exact Int.bmod_eq_of_le (by omega) (by omega)
    exact pl_pow e1 L9 V1 V2 d (j + 1) f _ (by omega) e3' h
/-- a word of letters that the class puts -/
theorem pl_word {pg : T_Pg} {v : Int64} {w l : List Int32} {P : Unit → T_Pg → Prop} (e : v.toInt = pk w) (ww : wl w) (ne : ¬ w = []) (w9 : w.length ≤ 12) (g : PG pg l) (r : l.length + 1 + w.length ≤ 12000) (h : wp_Pg_putLetters pg v P) : ∃ pg', P () pg' ∧ PG pg' (l ++ sp l ++ w) := by
  unfold wp_Pg_putLetters at h
  have s1 : (sp l).length ≤ 1 := by unfold sp; split <;> decide
  obtain ⟨pg1, ⟨f, h⟩, g1⟩ := pg_word g (by omega) h
  rw [pk_pn w ww] at e
  have wlt := pn_lt w ww
  have p := p37 w9
  cases w with
  | nil => exact absurd rfl ne
  | cons c t =>
    have wge := pn_ge ww
    rw [List.length_cons] at w9 wlt p r
    obtain ⟨y, y5, ⟨f2, h⟩, ey⟩ := pl_pow (L := t.length) e (by omega) wge wlt t.length 0 f 1 (by omega) rfl h
    obtain ⟨pg2, y2, h, g2⟩ := pl_run (x5 := y5) e (by omega) (c :: t) f2 0 pg1 _ y ww (by rw [List.length_cons]; omega) (by rw [Nat.zero_mul, Nat.zero_add]) (by rw [List.length_cons, p37d]; exact ey) h g1 (by rw [List.length_append, List.length_cons]; omega)
    exact ⟨pg2, h, g2⟩
/-- the reference's name -/
theorem em_name_L {m : T_Mo} {i j : Nat} {x1 : Int64} {len : Nat} {K : T_Mo → Int64 → Int32 → Int32 → Prop} {post : Unit → T_Mo → Prop} (j9 : j < 200) (el : m.2.1.2.1.1 j = Int32.ofNat len) (l12 : len ≤ 12) : ∀ (d s f : Nat) (a b c : Int32) (l : List Int32), s + d = len → wp_Mo_name_L14 K post f (((((m.1.1.1.1.1, m.1.1.1.1.2), (m.1.1.1.2.1, (m.1.1.1.2.2.1, m.1.1.1.2.2.2))), ((m.1.1.2.1.1, m.1.1.2.1.2), (m.1.1.2.2.1, (m.1.1.2.2.2.1, m.1.1.2.2.2.2)))), (((m.1.2.1.1.1, m.1.2.1.1.2), (m.1.2.1.2.1, (m.1.2.1.2.2.1, m.1.2.1.2.2.2))), ((m.1.2.2.1.1, (m.1.2.2.1.2.1, m.1.2.2.1.2.2)), (m.1.2.2.2.1, (m.1.2.2.2.2.1, m.1.2.2.2.2.2))))), ((((m.2.1.1.1.1, m.2.1.1.1.2), (m.2.1.1.2.1, (m.2.1.1.2.2.1, m.2.1.1.2.2.2))), ((m.2.1.2.1.1, m.2.1.2.1.2), (m.2.1.2.2.1, (m.2.1.2.2.2.1, m.2.1.2.2.2.2)))), (((m.2.2.1.1.1, m.2.2.1.1.2), (m.2.2.1.2.1, (m.2.2.1.2.2.1, m.2.2.1.2.2.2))), ((m.2.2.2.1.1, (m.2.2.2.1.2.1, a)), (b, (c, m.2.2.2.2.2.2)))))) x1 (Int32.ofNat j) (Int32.ofNat s) → EM i a b l → l.length + 2 * d + 2 ≤ 100000 → ∃ a' b' c' y, K (((((m.1.1.1.1.1, m.1.1.1.1.2), (m.1.1.1.2.1, (m.1.1.1.2.2.1, m.1.1.1.2.2.2))), ((m.1.1.2.1.1, m.1.1.2.1.2), (m.1.1.2.2.1, (m.1.1.2.2.2.1, m.1.1.2.2.2.2)))), (((m.1.2.1.1.1, m.1.2.1.1.2), (m.1.2.1.2.1, (m.1.2.1.2.2.1, m.1.2.1.2.2.2))), ((m.1.2.2.1.1, (m.1.2.2.1.2.1, m.1.2.2.1.2.2)), (m.1.2.2.2.1, (m.1.2.2.2.2.1, m.1.2.2.2.2.2))))), ((((m.2.1.1.1.1, m.2.1.1.1.2), (m.2.1.1.2.1, (m.2.1.1.2.2.1, m.2.1.1.2.2.2))), ((m.2.1.2.1.1, m.2.1.2.1.2), (m.2.1.2.2.1, (m.2.1.2.2.2.1, m.2.1.2.2.2.2)))), (((m.2.2.1.1.1, m.2.2.1.1.2), (m.2.2.1.2.1, (m.2.2.1.2.2.1, m.2.2.1.2.2.2))), ((m.2.2.2.1.1, (m.2.2.2.1.2.1, a')), (b', (c', m.2.2.2.2.2.2)))))) x1 (Int32.ofNat j) y ∧ EM i a' b' (if d = 0 then l else l ++ bl c ++ fs m.2.1.1.2.2.2 (12 * j + s) d)
  | d, s, 0, a, b, c, l, _, h, _, _ => False.elim h
  | 0, s, f + 1, a, b, c, l, sd, h, em, r => by
    rw [wp_Mo_name_L14] at h
    replace h := h.2
    try dsimp only at h
    rw [ix_on (by omega), el] at h
    exact ⟨a, b, c, _, h.1 (by rw [on_le (by omega) (by omega)]; omega), em⟩
  | d + 1, s, f + 1, a, b, c, l, sd, h, em, r => by
    rw [wp_Mo_name_L14] at h
    replace h := h.2
    try dsimp only at h
    rw [ix_on (by omega), el] at h
    replace h := (h.2 (by rw [on_le (by omega) (by omega)]; omega)).2
    have ei : ((12 : Int32) * Int32.ofNat j + Int32.ofNat s).toNatClampNeg = 12 * j + s := by
      show ((12 : Int32) * Int32.ofNat j + Int32.ofNat s).toInt.toNat = _
      rw [Int32.toInt_add, Int32.toInt_mul, on_toInt (by omega), on_toInt (by omega), show (12 : Int32).toInt = 12 from rfl]
      rw [Int.bmod_eq_of_le (n := 12 * (j : Int)) (by omega) (by omega), Int.bmod_eq_of_le (by omega) (by omega)]; omega
    rw [ei, on_succ (by omega)] at h
    obtain ⟨a1, b1, h, em1⟩ := em_say (m := m) em (by omega) h
    have bb : (bl c).length ≤ 1 := by unfold bl; split <;> decide
    obtain ⟨a2, b2, c2, y, h, em2⟩ := em_name_L j9 el l12 d (s + 1) f a1 b1 0 _ (by omega) h em1 (by rw [List.length_append, List.length_append]; show l.length + (bl c).length + 1 + 2 * d + 2 ≤ _; omega)
    refine ⟨a2, b2, c2, y, h, ?_⟩
    rw [if_neg (by omega)]
    have eb : bl 0 = [] := rfl
    rw [eb, List.append_nil] at em2
    have fe : l ++ bl c ++ fs m.2.1.1.2.2.2 (12 * j + s) (d + 1) = l ++ bl c ++ [m.2.1.1.2.2.2 (12 * j + s)] ++ fs m.2.1.1.2.2.2 (12 * j + s + 1) d := by
      rw [List.append_assoc _ [_]]; rfl
    rw [fe]
    cases d with
    | zero =>
      rw [if_pos rfl] at em2
      have : fs m.2.1.1.2.2.2 (12 * j + s + 1) 0 = [] := rfl
      rw [this, List.append_nil]; exact em2
    | succ d =>
      rw [if_neg (by omega)] at em2
      exact em2

