/-- kids from the first to the last -/
def FC (L : Nat → Int32) (hi : Nat) : Nat → List Nat → Prop
  | lo, [] => lo = hi
  | lo, k :: t => (L k).toNatClampNeg = lo ∧ lo ≤ k ∧ FC L hi (k + 1) t
theorem CH_last {L : Nat → Int32} {lo k : Nat} : ∀ (r : List Nat) (c : Nat), CH L lo c (r ++ [k]) → (L k).toNatClampNeg = lo ∧ lo ≤ k ∧ CH L (k + 1) c r
  | [], c, h => by
    obtain ⟨h1, h2, h3, h4⟩ := h
    have h4 : (L k).toNatClampNeg = lo := h4
    exact ⟨h4, by omega, h1⟩
  | x :: r, c, h => by
    obtain ⟨h1, h2, h3, h4⟩ := h
    obtain ⟨q1, q2, q3⟩ := CH_last r _ h4
    exact ⟨q1, q2, h1, h2, h3, q3⟩
theorem FC_of {L : Nat → Int32} {hi : Nat} : ∀ (l : List Nat) (lo : Nat), CH L lo hi l.reverse → FC L hi lo l
  | [], lo, h => by have h : hi = lo := h; exact h.symm
  | k :: t, lo, h => by
    rw [List.reverse_cons] at h
    obtain ⟨q1, q2, q3⟩ := CH_last _ _ h
    exact ⟨q1, q2, FC_of t _ q3⟩
theorem FC_le {L : Nat → Int32} {hi : Nat} : ∀ (l : List Nat) (lo : Nat), FC L hi lo l → lo ≤ hi
  | [], lo, h => Nat.le_of_eq h
  | k :: t, lo, h => by have := FC_le t _ h.2.2; have := h.2.1; omega
theorem FC_in {L : Nat → Int32} {hi : Nat} : ∀ (l : List Nat) (lo : Nat), FC L hi lo l → ∀ k, k ∈ l → k < hi
  | [], lo, h, k, hk => absurd hk List.not_mem_nil
  | x :: t, lo, h, k, hk => by
    rcases List.mem_cons.mp hk with e | e
    · have := FC_le t _ h.2.2; omega
    · exact FC_in t _ h.2.2 k e
/-- behind a node that was left: what the page does then -/
def RS (kw : T_Kw) (nm : T_Nm) (nd : T_Nd) (K : T_Pg → Int32 → Int32 → Int32 → Prop) (post : Unit → T_Pg → Prop) (top k s f f2 : Nat) (x2 : Int32) (e : Nat) (pg : T_Pg) : Prop := ((Int32.ofNat k) = (Int32.ofNat top) → wp_Pg_layNode_L4 kw nm nd K post f pg (Int32.ofNat top) (-1) (Int32.ofNat s)) ∧ (¬ (Int32.ofNat k) = (Int32.ofNat top) → wp_Nd_nextOf nd (Int32.ofNat k) (fun (r2 : Int32) (_ : Unit) => (r2 = (-1 : Int32) → wp_Nd_parentOf nd (Int32.ofNat k) (fun (r3 : Int32) (_ : Unit) => wp_Pg_leaveUpTo_L5 kw nd (fun (z : T_Pg) (_ : Int32) (_ : Int32) (_ : Int32) (_ : Int32) => wp_Pg_layNode_L4 kw nm nd K post f z (Int32.ofNat top) (-1) (Int32.ofNat s)) (fun (r : Int32) (u : T_Pg) => wp_Pg_layNode_L4 kw nm nd K post f u (Int32.ofNat top) r (Int32.ofNat s)) f2 pg (Int32.ofNat top) x2 r3 (Int32.ofNat (e + 1)))) ∧ (¬ r2 = (-1 : Int32) → wp_Pg_putBehind pg kw nd (Int32.ofNat k) (fun (_ : Unit) (u4 : T_Pg) => wp_Nd_nextOf nd (Int32.ofNat k) (fun (r5 : Int32) (_ : Unit) => wp_Pg_layNode_L4 kw nm nd K post f u4 (Int32.ofNat top) r5 (Int32.ofNat s))))))
def AF (kw : T_Kw) (nm : T_Nm) (nd : T_Nd) (K : T_Pg → Int32 → Int32 → Int32 → Prop) (post : Unit → T_Pg → Prop) (top k s : Nat) (pg : T_Pg) : Prop := ∃ (f f2 : Nat) (x2 : Int32) (e : Nat), e ≤ k ∧ RS kw nm nd K post top k s f f2 x2 e pg
/-- a node was entered: to its first kid, or out again -/
def FEN (kw : T_Kw) (nm : T_Nm) (nd : T_Nd) (K : T_Pg → Int32 → Int32 → Int32 → Prop) (post : Unit → T_Pg → Prop) (top k s f : Nat) (pg : T_Pg) : Prop := wp_Nd_firstOf nd (Int32.ofNat k) (fun (r2 : Int32) (_ : Unit) => (r2 = (-1 : Int32) → wp_Pg_leaveUpTo pg kw nd (Int32.ofNat top) (Int32.ofNat k) (fun (r3 : Int32) (u3 : T_Pg) => wp_Pg_layNode_L4 kw nm nd K post f u3 (Int32.ofNat top) r3 (Int32.ofNat (s + 1)))) ∧ (¬ r2 = (-1 : Int32) → wp_Pg_layNode_L4 kw nm nd K post f pg (Int32.ofNat top) r2 (Int32.ofNat (s + 1))))
/-- the page stands at the first of these kids of k, or leaves k -/
def GO (kw : T_Kw) (nm : T_Nm) (nd : T_Nd) (K : T_Pg → Int32 → Int32 → Int32 → Prop) (post : Unit → T_Pg → Prop) (top k s : Nat) (pg : T_Pg) : List Nat → Prop
  | [] => ∃ (f f2 : Nat) (x2 : Int32) (e : Nat), e ≤ k ∧ wp_Pg_leave pg nd (Int32.ofNat k) (fun (_ : Unit) (u : T_Pg) => RS kw nm nd K post top k s f f2 x2 e u)
  | k' :: _ => ∃ f, wp_Pg_layNode_L4 kw nm nd K post f pg (Int32.ofNat top) (Int32.ofNat k') (Int32.ofNat s)
theorem lt1000 {e : Nat} (h : e < 1000) : ¬ (1000 : Int32) ≤ (Int32.ofNat e) := by
  rw [show (1000 : Int32) = Int32.ofNat 1000 from rfl, on_le (by omega) (by omega)]; omega
theorem l5_in {kw : T_Kw} {nm : T_Nm} {nd : T_Nd} {K : T_Pg → Int32 → Int32 → Int32 → Prop} {post : Unit → T_Pg → Prop} {top : Nat} {p s f f2 e : Nat} {x2 : Int32} {pg : T_Pg} (e9 : e < 1000) (p9 : p < 1000) (h : wp_Pg_leaveUpTo_L5 kw nd (fun (z : T_Pg) (_ : Int32) (_ : Int32) (_ : Int32) (_ : Int32) => wp_Pg_layNode_L4 kw nm nd K post f z (Int32.ofNat top) (-1) (Int32.ofNat s)) (fun (r : Int32) (u : T_Pg) => wp_Pg_layNode_L4 kw nm nd K post f u (Int32.ofNat top) r (Int32.ofNat s)) f2 pg (Int32.ofNat top) x2 (Int32.ofNat p) (Int32.ofNat e)) : ∃ f3, wp_Pg_leave pg nd (Int32.ofNat p) (fun (_ : Unit) (u : T_Pg) => RS kw nm nd K post top p s f f3 x2 e u) := by
  cases f2 with
  | zero => exact False.elim h
  | succ f3 =>
    rw [wp_Pg_leaveUpTo_L5] at h
    replace h := (h.2 (lt1000 e9)).2 (on_n1 (by omega)).1
    rw [on_succ (by omega)] at h
    exact ⟨f3, h⟩
theorem lay_in {kw : T_Kw} {nm : T_Nm} {nd : T_Nd} {K : T_Pg → Int32 → Int32 → Int32 → Prop} {post : Unit → T_Pg → Prop} {top : Nat} {k s f : Nat} {pg : T_Pg} (s9 : s < 1000) (k9 : k < 1000) (h : wp_Pg_layNode_L4 kw nm nd K post f pg (Int32.ofNat top) (Int32.ofNat k) (Int32.ofNat s)) : ∃ f', wp_Pg_enter pg kw nm nd (Int32.ofNat k) (fun (_ : Unit) (u : T_Pg) => FEN kw nm nd K post top k s f' u) := by
  cases f with
  | zero => exact False.elim h
  | succ f3 =>
    rw [wp_Pg_layNode_L4] at h
    replace h := (h.2 (lt1000 s9)).2 (on_n1 (by omega)).1
    rw [on_succ (by omega)] at h
    exact ⟨f3, h⟩
theorem GO_first {kw : T_Kw} {nm : T_Nm} {nd : T_Nd} {K : T_Pg → Int32 → Int32 → Int32 → Prop} {post : Unit → T_Pg → Prop} {top : Nat} {n k s f : Nat} {pg : T_Pg} {l : List Nat} (ec : nd.2.2.2.2.2.2.2.2.2.2.1 = Int32.ofNat n) (n9 : n ≤ 1000) (hk : k < n) (nx : NX nd.2.2.2.2.2.2.2.2.1 (nd.2.2.2.2.2.2.2.1 k) l) (ll : ∀ x, x ∈ l → x < n) (h : FEN kw nm nd K post top k s f pg) : GO kw nm nd K post top k (s + 1) pg l := by
  unfold FEN at h
  replace h := na_first ec n9 hk h
  cases l with
  | nil =>
    replace h := h.1 nx
    unfold wp_Pg_leaveUpTo at h
    obtain ⟨f2, h⟩ := h
    obtain ⟨f3, h⟩ := l5_in (e := 0) (p := k) (by omega) (by omega) h
    exact ⟨f, f3, _, 0, Nat.zero_le _, h⟩
  | cons x t =>
    have x9 := ll x List.mem_cons_self
    obtain ⟨nx, -⟩ := nx
    rw [nx] at h
    exact ⟨f, h.2 (on_n1 (by omega)).1⟩
theorem AF_end {kw : T_Kw} {nm : T_Nm} {nd : T_Nd} {K : T_Pg → Int32 → Int32 → Int32 → Prop} {post : Unit → T_Pg → Prop} {top : Nat} {n k p s : Nat} {pg : T_Pg} (ec : nd.2.2.2.2.2.2.2.2.2.2.1 = Int32.ofNat n) (n9 : n ≤ 1000) (kp : k < p) (pt : p ≤ top) (tn : top < n) (ep : nd.2.2.2.2.2.2.1 k = (Int32.ofNat p)) (ex : nd.2.2.2.2.2.2.2.2.1 k = -1) (h : AF kw nm nd K post top k s pg) : GO kw nm nd K post top p s pg [] := by
  obtain ⟨f, f2, x2, e, he, -, h⟩ := h
  replace h := na_next ec n9 (by omega) (h (fun z => by have := on_inj (by omega) (by omega) z; omega))
  replace h := na_par ec n9 (by omega) (h.1 ex)
  rw [ep] at h
  obtain ⟨f3, h⟩ := l5_in (e := e + 1) (p := p) (by omega) (by omega) h
  exact ⟨f, f3, _, e + 1, by omega, h⟩
theorem AF_next {kw : T_Kw} {nm : T_Nm} {nd : T_Nd} {K : T_Pg → Int32 → Int32 → Int32 → Prop} {post : Unit → T_Pg → Prop} {top : Nat} {n k k' s : Nat} {pg : T_Pg} (ec : nd.2.2.2.2.2.2.2.2.2.2.1 = Int32.ofNat n) (n9 : n ≤ 1000) (kt : k < top) (tn : top < n) (k9 : k' < n) (ex : nd.2.2.2.2.2.2.2.2.1 k = (Int32.ofNat k')) (h : AF kw nm nd K post top k s pg) : ∃ f, wp_Pg_putBehind pg kw nd (Int32.ofNat k) (fun (_ : Unit) (u : T_Pg) => wp_Pg_layNode_L4 kw nm nd K post f u (Int32.ofNat top) (Int32.ofNat k') (Int32.ofNat s)) := by
  obtain ⟨f, f2, x2, e, he, -, h⟩ := h
  replace h := na_next ec n9 (by omega) (h (fun z => by have := on_inj (by omega) (by omega) z; omega))
  replace h := h.2 (by rw [ex]; exact (on_n1 (by omega)).1)
  obtain ⟨r, u, A, B⟩ := dt_Pg_putBehind h
  replace h := na_next ec n9 (by omega) (B _ h)
  rw [ex] at h
  exact ⟨f, A (fun (_ : Unit) (u : T_Pg) => wp_Pg_layNode_L4 kw nm nd K post f u (Int32.ofNat top) (Int32.ofNat k') (Int32.ofNat s)) h⟩
/-- a top was left: the walk ends -/
theorem AF_top {kw : T_Kw} {nm : T_Nm} {nd : T_Nd} {K : T_Pg → Int32 → Int32 → Int32 → Prop} {post : Unit → T_Pg → Prop} {top : Nat} {s : Nat} {pg : T_Pg} (h : AF kw nm nd K post top top s pg) : K pg (Int32.ofNat top) (-1) (Int32.ofNat s) := by
  obtain ⟨f, f2, x2, e, he, h, -⟩ := h
  replace h := h rfl
  cases f with
  | zero => exact False.elim h
  | succ f =>
    rw [wp_Pg_layNode_L4] at h
    rcases Classical.em ((1000 : Int32) ≤ (Int32.ofNat s)) with q | q
    · exact h.1 q
    · exact (h.2 q).1 rfl
theorem en_0 {kw : T_Kw} {nm : T_Nm} {nd : T_Nd} {n k : Nat} {pg : T_Pg} {P : Unit → T_Pg → Prop} (ec : nd.2.2.2.2.2.2.2.2.2.2.1 = Int32.ofNat n) (n9 : n ≤ 1000) (hk : k < n) (e : nd.1 k = 0) (h : wp_Pg_enter pg kw nm nd (Int32.ofNat k) P) : wp_Pg_putAmount pg (nd.2.2.1 k) (fun (_ : Unit) (u3 : T_Pg) => wp_Pg_putUnit u3 kw (nd.2.2.2.1 k) (fun (_ : Unit) (u5 : T_Pg) => P () u5)) := by
  unfold wp_Pg_enter at h
  replace h := na_val ec n9 hk ((na_kind ec n9 hk h).1 e)
  obtain ⟨r, u, A, B⟩ := dt_Pg_putAmount h
  exact A _ (na_meas ec n9 hk (B _ h))
theorem en_1 {kw : T_Kw} {nm : T_Nm} {nd : T_Nd} {n k j cn : Nat} {pg : T_Pg} {P : Unit → T_Pg → Prop} (ec : nd.2.2.2.2.2.2.2.2.2.2.1 = Int32.ofNat n) (n9 : n ≤ 1000) (em : nm.2.2.2.2 = (Int32.ofNat cn)) (c9 : cn ≤ 100) (hj : j < cn) (ev : (nd.2.2.1 k).toInt = (j : Int)) (hk : k < n) (e : nd.1 k = 1) (h : wp_Pg_enter pg kw nm nd (Int32.ofNat k) P) : wp_Pg_putLetters pg (nm.1 j) (fun (_ : Unit) (u5 : T_Pg) => P () u5) := by
  unfold wp_Pg_enter wp_Nd_subjectOf at h
  replace h := na_val ec n9 hk ((na_kind ec n9 hk h).2.1 e)
  rw [v_nat ev (by omega)] at h
  exact na_let em c9 hj h
theorem en_6 {kw : T_Kw} {nm : T_Nm} {nd : T_Nd} {n k : Nat} {pg : T_Pg} {P : Unit → T_Pg → Prop} (ec : nd.2.2.2.2.2.2.2.2.2.2.1 = Int32.ofNat n) (n9 : n ≤ 1000) (hk : k < n) (e : nd.1 k = 6) (h : wp_Pg_enter pg kw nm nd (Int32.ofNat k) P) : wp_Pg_putSign pg (45 : Int32) (fun (_ : Unit) (u5 : T_Pg) => P () u5) := by
  unfold wp_Pg_enter at h
  exact (na_kind ec n9 hk h).2.2.1 e
theorem en_23 {kw : T_Kw} {nm : T_Nm} {nd : T_Nd} {n k : Nat} {pg : T_Pg} {P : Unit → T_Pg → Prop} (ec : nd.2.2.2.2.2.2.2.2.2.2.1 = Int32.ofNat n) (n9 : n ≤ 1000) (hk : k < n) (e : nd.1 k = 23) (h : wp_Pg_enter pg kw nm nd (Int32.ofNat k) P) : wp_Pg_putSign pg (123 : Int32) (fun (_ : Unit) (u5 : T_Pg) => P () u5) := by
  unfold wp_Pg_enter at h
  exact (na_kind ec n9 hk h).2.2.2.1 e
theorem en_b {kw : T_Kw} {nm : T_Nm} {nd : T_Nd} {n k : Nat} {pg : T_Pg} {P : Unit → T_Pg → Prop} (ec : nd.2.2.2.2.2.2.2.2.2.2.1 = Int32.ofNat n) (n9 : n ≤ 1000) (hk : k < n) (e : ¬ nd.1 k = 0 ∧ ¬ nd.1 k = 1 ∧ ¬ nd.1 k = 6 ∧ ¬ nd.1 k = 23) (e2 : nd.1 k < 10) (h : wp_Pg_enter pg kw nm nd (Int32.ofNat k) P) : wp_Pg_isBracketed pg nd (Int32.ofNat k) (fun (r12 : Int32) (_ : Unit) => (r12 = 0 → P () pg) ∧ (¬ r12 = 0 → wp_Pg_putSign pg (40 : Int32) (fun (_ : Unit) (u5 : T_Pg) => P () u5))) := by
  unfold wp_Pg_enter at h
  exact (na_kind ec n9 hk ((na_kind ec n9 hk h).2.2.2.2 e)).1 e2
theorem en_s {kw : T_Kw} {nm : T_Nm} {nd : T_Nd} {n k : Nat} {pg : T_Pg} {P : Unit → T_Pg → Prop} (ec : nd.2.2.2.2.2.2.2.2.2.2.1 = Int32.ofNat n) (n9 : n ≤ 1000) (hk : k < n) (e : ¬ nd.1 k = 0 ∧ ¬ nd.1 k = 1 ∧ ¬ nd.1 k = 6 ∧ ¬ nd.1 k = 23) (e2 : ¬ nd.1 k < 10) (h : wp_Pg_enter pg kw nm nd (Int32.ofNat k) P) : wp_Pg_beginStatement pg kw nm nd (Int32.ofNat k) (fun (_ : Unit) (u5 : T_Pg) => P () u5) := by
  unfold wp_Pg_enter at h
  exact (na_kind ec n9 hk ((na_kind ec n9 hk h).2.2.2.2 e)).2 e2
theorem lv_23 {nd : T_Nd} {n k : Nat} {pg : T_Pg} {P : Unit → T_Pg → Prop} (ec : nd.2.2.2.2.2.2.2.2.2.2.1 = Int32.ofNat n) (n9 : n ≤ 1000) (hk : k < n) (e : nd.1 k = 23) (h : wp_Pg_leave pg nd (Int32.ofNat k) P) : wp_Pg_beginLine pg (fun (_ : Unit) (u6 : T_Pg) => wp_Pg_putSign u6 (125 : Int32) (fun (_ : Unit) (u5 : T_Pg) => P () u5)) := by
  unfold wp_Pg_leave at h
  exact (na_kind ec n9 hk h).1 e
theorem lv_e {nd : T_Nd} {n k : Nat} {pg : T_Pg} {P : Unit → T_Pg → Prop} (ec : nd.2.2.2.2.2.2.2.2.2.2.1 = Int32.ofNat n) (n9 : n ≤ 1000) (hk : k < n) (e2 : nd.1 k ≤ 9) (h : wp_Pg_leave pg nd (Int32.ofNat k) P) : wp_Pg_isBracketed pg nd (Int32.ofNat k) (fun (r12 : Int32) (_ : Unit) => (r12 = 0 → P () pg) ∧ (¬ r12 = 0 → wp_Pg_putSign pg (41 : Int32) (fun (_ : Unit) (u5 : T_Pg) => P () u5))) := by
  unfold wp_Pg_leave wp_Nd_endsWithSemicolon at h
  replace h := (na_kind ec n9 hk h).2 (fun z => by rw [z] at e2; exact absurd e2 (by decide))
  have q1 : nd.1 k < 10 := by generalize nd.1 k = x at *; grind
  have q2 : nd.1 k ≤ 17 := by generalize nd.1 k = x at *; grind
  exact ((h.1 q1).1 q2).1 rfl
theorem lv_semi {nd : T_Nd} {n k : Nat} {pg : T_Pg} {P : Unit → T_Pg → Prop} (ec : nd.2.2.2.2.2.2.2.2.2.2.1 = Int32.ofNat n) (n9 : n ≤ 1000) (hk : k < n) (e2 : (10 ≤ nd.1 k ∧ nd.1 k ≤ 13) ∨ (18 ≤ nd.1 k ∧ nd.1 k ≤ 22)) (h : wp_Pg_leave pg nd (Int32.ofNat k) P) : wp_Pg_putSign pg (59 : Int32) (fun (_ : Unit) (u5 : T_Pg) => P () u5) := by
  unfold wp_Pg_leave wp_Nd_endsWithSemicolon at h
  replace h := (na_kind ec n9 hk h).2 (fun z => by rw [z] at e2; exact absurd e2 (by decide))
  have q1 : ¬ nd.1 k < 10 := by generalize nd.1 k = x at *; grind
  replace h := h.2 q1
  rcases e2 with ⟨a1, a2⟩ | ⟨a1, a2⟩
  · exact (h.1 (by generalize nd.1 k = x at *; grind)).2 (by decide)
  · exact (((h.2 (by generalize nd.1 k = x at *; grind)).2 (by generalize nd.1 k = x at *; grind)).2 (by generalize nd.1 k = x at *; grind)).2 (by decide)
theorem lv_none {nd : T_Nd} {n k : Nat} {pg : T_Pg} {P : Unit → T_Pg → Prop} (ec : nd.2.2.2.2.2.2.2.2.2.2.1 = Int32.ofNat n) (n9 : n ≤ 1000) (hk : k < n) (e2 : (14 ≤ nd.1 k ∧ nd.1 k ≤ 17) ∨ nd.1 k = 24) (h : wp_Pg_leave pg nd (Int32.ofNat k) P) : P () pg := by
  unfold wp_Pg_leave wp_Nd_endsWithSemicolon at h
  replace h := (na_kind ec n9 hk h).2 (fun z => by rw [z] at e2; exact absurd e2 (by decide))
  have q1 : ¬ nd.1 k < 10 := by generalize nd.1 k = x at *; grind
  have q2 : ¬ nd.1 k < 14 := by generalize nd.1 k = x at *; grind
  replace h := (h.2 q1).2 q2
  have b0 : bnd (nd.1 k) = 0 := by
    rcases bnd_c (nd.1 k) with ⟨z, -⟩ | ⟨z, -⟩ | ⟨z, -⟩ | ⟨-, z⟩
    · generalize nd.1 k = x at *; grind
    · generalize nd.1 k = x at *; grind
    · generalize nd.1 k = x at *; grind
    · exact z
  have fin : wp_Pg_isBracketed pg nd (Int32.ofNat k) (fun (r3 : Int32) (_ : Unit) => (r3 = 0 → P () pg) ∧ (¬ r3 = 0 → wp_Pg_putSign pg (41 : Int32) (fun (_ : Unit) (u4 : T_Pg) => P () u4))) → P () pg := by
    intro h
    unfold wp_Pg_isBracketed at h
    replace h := iv_bnd (na_kind ec n9 hk (na_par ec n9 hk h))
    obtain ⟨r4, u4, -, B⟩ := dt_Nd_kindOf h
    replace h := iv_bnd (B _ h)
    exact (h.1 b0).1 rfl
  rcases e2 with ⟨a1, a2⟩ | a
  · exact fin ((h.1 a2).1 rfl)
  · rw [a] at h
    exact fin (((h.2 (by decide)).1 (by decide)).1 rfl)
/-- a kid, the reference's -/
theorem ko_kid {kw : T_Kw} {nm : T_Nm} {nd : T_Nd} {m : T_Mo} {n cn : Nat} {kf : Nat → List Nat} {PS : Nat → Nat} (tr : TR nm nd m kw n cn kf PS) {a b c jx : Int32} {k j : Nat} {P : Int32 → Unit → Prop} (hk : k < n) (hj : j < (kf k).length) (ej : jx = (Int32.ofNat j)) (h : wp_Mo_kid (((((m.1.1.1.1.1, m.1.1.1.1.2), (m.1.1.1.2.1, (m.1.1.1.2.2.1, m.1.1.1.2.2.2))), ((m.1.1.2.1.1, m.1.1.2.1.2), (m.1.1.2.2.1, (m.1.1.2.2.2.1, m.1.1.2.2.2.2)))), (((m.1.2.1.1.1, m.1.2.1.1.2), (m.1.2.1.2.1, (m.1.2.1.2.2.1, m.1.2.1.2.2.2))), ((m.1.2.2.1.1, (m.1.2.2.1.2.1, m.1.2.2.1.2.2)), (m.1.2.2.2.1, (m.1.2.2.2.2.1, m.1.2.2.2.2.2))))), ((((m.2.1.1.1.1, m.2.1.1.1.2), (m.2.1.1.2.1, (m.2.1.1.2.2.1, m.2.1.1.2.2.2))), ((m.2.1.2.1.1, m.2.1.2.1.2), (m.2.1.2.2.1, (m.2.1.2.2.2.1, m.2.1.2.2.2.2)))), (((m.2.2.1.1.1, m.2.2.1.1.2), (m.2.2.1.2.1, (m.2.2.1.2.2.1, m.2.2.1.2.2.2))), ((m.2.2.2.1.1, (m.2.2.2.1.2.1, a)), (b, (c, m.2.2.2.2.2.2)))))) (Int32.ofNat k) jx P) : P (Int32.ofNat (kf k)[j]) () := by
  obtain ⟨hh, kz, e1, n9, e2, c9, per, nam⟩ := tr
  obtain ⟨p1, p2, p3, ⟨x, q1, q2, q3, q4⟩, -⟩ := per k hk
  unfold wp_Mo_kid wp_Mo_node1 at h
  dsimp only at h
  replace h := h.2.2
  rw [no_ix hh (by omega), q1, ej, kid_ix hh (by omega), KL_get _ _ q3 j hj] at h
  exact h
theorem TR_lt {kw : T_Kw} {nm : T_Nm} {nd : T_Nd} {m : T_Mo} {n cn : Nat} {kf : Nat → List Nat} {PS : Nat → Nat} (tr : TR nm nd m kw n cn kf PS) {i k : Nat} (hi : i < n) (hk : k ∈ kf i) : k < i := by
  obtain ⟨-, -, -, -, -, ch, -⟩ := tr.2.2.2.2.2.2.1 i hi
  exact (CH_in _ _ ch k (List.mem_reverse.mpr hk)).2
theorem TR_fc {kw : T_Kw} {nm : T_Nm} {nd : T_Nd} {m : T_Mo} {n cn : Nat} {kf : Nat → List Nat} {PS : Nat → Nat} (tr : TR nm nd m kw n cn kf PS) {i : Nat} (hi : i < n) : FC nd.2.2.2.2.1 i (nd.2.2.2.2.1 i).toNatClampNeg (kf i) := by
  obtain ⟨-, -, -, -, -, ch, -⟩ := tr.2.2.2.2.2.2.1 i hi
  exact FC_of _ _ ch
theorem TR_ps {kw : T_Kw} {nm : T_Nm} {nd : T_Nd} {m : T_Mo} {n cn : Nat} {kf : Nat → List Nat} {PS : Nat → Nat} (tr : TR nm nd m kw n cn kf PS) {i : Nat} : ∀ j, i ≤ j → j ≤ n → PS i ≤ PS j
  | 0, h1, h2 => by have : i = 0 := by omega
                    rw [this]; exact Nat.le_refl _
  | j + 1, h1, h2 => by
    rcases Nat.lt_or_ge i (j + 1) with q | q
    · have a := TR_ps (i := i) tr j (by omega) (by omega)
      obtain ⟨-, -, -, -, -, -, -, -, d, hd, -⟩ := tr.2.2.2.2.2.2.1 j (by omega)
      omega
    · have : i = j + 1 := by omega
      rw [this]; exact Nat.le_refl _

