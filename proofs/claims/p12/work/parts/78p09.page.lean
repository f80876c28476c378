/-- pushed: one more on the pile -/
def PUs (m u : T_Mo) (hi s e : Nat) (lo up : Int32) : Prop := ∃ k : Nat, u.2.2.1.2.2.1 hi = Int32.ofNat k ∧ k < u.1.2.1.2.2.1.toNatClampNeg ∧ lo ≤ u.1.2.1.2.2.2 (Bs m.1.2.1.2.1 + k) ∧ u.1.2.1.2.2.2 (Bs m.1.2.1.2.1 + k) ≤ up ∧ PQ u (hi + 1) s e ∧ FY m u hi
theorem EO_PU {m u : T_Mo} {hi s e k : Nat} {lo up : Int32} {P : Unit → T_Mo → Prop} (l1 : k < u.1.2.1.2.2.1.toNatClampNeg) (w1 : lo ≤ u.1.2.1.2.2.2 (Bs m.1.2.1.2.1 + k)) (w2 : u.1.2.1.2.2.2 (Bs m.1.2.1.2.1 + k) ≤ up) (p : PQ u hi s (e + 1)) (f : FY m u hi) (h : wp_Mo_push u (Int32.ofNat k) P) : ∃ v, P () v ∧ PUs m v hi s e lo up := by
  obtain ⟨v, h, p1, f1, e1, n1⟩ := PQ_push p h
  have ew : v.1.2.1.2.2.2 (Bs m.1.2.1.2.1 + k) = u.1.2.1.2.2.2 (Bs m.1.2.1.2.1 + k) := by
    have := FY_w f1 l1
    rw [f.1] at this; exact this
  exact ⟨v, h, k, e1, by rw [n1]; exact l1, by rw [ew]; exact w1, by rw [ew]; exact w2, p1, FY_trans f f1⟩
theorem fy_sumOf {rf : T_Mo → (Int32 → T_Mo → Prop) → Prop} (hrf : FEx rf 0 6 sl4) {m : T_Mo} {hi s e : Nat} {un : Int32} {P : Int32 → T_Mo → Prop} (p : PQ m hi s e) (h : wp_Mo_sumOf rf m un P) : ∃ r u, P r u ∧ (r = 0 ∨ (r = 1 ∧ PUs m u hi s e 0 6)) := by
  unfold wp_Mo_sumOf at h
  obtain ⟨r, u, h, k⟩ := fy_sum hrf _ _ _ _ _ p h
  rcases k with k | eo
  · exact ⟨_, _, h.2 (Int32.not_le.mpr k), Or.inl rfl⟩
  · replace h := h.1 (EO_nn eo).2
    obtain ⟨k1, e1, l1, k9, w1, w2, p1, f1⟩ := eo
    obtain ⟨y1, x1', -, qb⟩ := dt_Mo_unitIn h
    replace h := qb _ h
    rcases br_el h with ⟨c, h⟩ | ⟨c, h⟩
    · rw [e1] at h
      obtain ⟨v, h, pu⟩ := EO_PU l1 w1 w2 p1 f1 h
      exact ⟨_, _, h, Or.inr ⟨rfl, pu⟩⟩
    · exact ⟨_, _, h, Or.inl rfl⟩
theorem fy_pushed {m u : T_Mo} {hi s e : Nat} {r lo up : Int32} {P : Int32 → T_Mo → Prop} (k : r < 0 ∨ EO m u hi s e r lo up sl0) (h : wp_Mo_pushed u r P) : ∃ r' u', P r' u' ∧ (r' = 0 ∨ (r' = 1 ∧ PUs m u' hi s e lo up)) := by
  unfold wp_Mo_pushed at h
  rcases k with k | eo
  · exact ⟨_, _, h.2 (Int32.not_le.mpr k), Or.inl rfl⟩
  · replace h := h.1 (EO_nn eo).2
    obtain ⟨k1, e1, l1, k9, w1, w2, p1, f1⟩ := eo
    rw [e1] at h
    obtain ⟨v, h, pu⟩ := EO_PU l1 w1 w2 p1 f1 h
    exact ⟨_, _, h, Or.inr ⟨rfl, pu⟩⟩
/-- the kids so far, and what they are -/
def KS (m u : T_Mo) (hi s e : Nat) (l : List Nat) (ks : List Int32) : Prop := PQ u (hi + l.length) s e ∧ FY m u hi ∧ KL u.2.2.1.2.2.1 hi l ∧ (∀ k, k ∈ l → k < u.1.2.1.2.2.1.toNatClampNeg) ∧ l.map (fun k => u.1.2.1.2.2.2 (Bs m.1.2.1.2.1 + k)) = ks
theorem KS_0 {m u : T_Mo} {hi s e : Nat} (p : PQ u hi s e) (f : FY m u hi) : KS m u hi s e [] [] := ⟨p, f, trivial, fun k hk => absurd hk List.not_mem_nil, rfl⟩
theorem KS_go {m u v : T_Mo} {hi s e s' e' : Nat} {l : List Nat} {ks : List Int32} (k : KS m u hi s e l ks) (p : PQ v (hi + l.length) s' e') (f : FY u v (hi + l.length)) : KS m v hi s' e' l ks := by
  obtain ⟨k1, k2, k3, k4, k5⟩ := k
  refine ⟨p, FY_trans k2 (FY_le f (by omega)), KL_congr l _ k3 (fun j j1 j2 => f.2.2.2.1 j (by omega)), fun k hk => Nat.lt_of_lt_of_le (k4 k hk) f.2.1, ?_⟩
  rw [← k5]
  exact List.map_congr_left (fun k hk => by
    have := FY_w f (k4 k hk)
    rw [k2.1] at this; exact this)
theorem KS_push {m u v : T_Mo} {hi s e s' e' : Nat} {l : List Nat} {ks : List Int32} {lo up : Int32} (k : KS m u hi s e l ks) (pu : PUs u v (hi + l.length) s' e' lo up) : ∃ k x, lo ≤ x ∧ x ≤ up ∧ KS m v hi s' e' (l ++ [k]) (ks ++ [x]) := by
  obtain ⟨j, p1, p2, p3, p4, p5, p6⟩ := pu
  have eh : u.1.2.1.2.1 = m.1.2.1.2.1 := k.2.1.1
  rw [eh] at p3 p4
  refine ⟨j, v.1.2.1.2.2.2 (Bs m.1.2.1.2.1 + j), p3, p4, ?_⟩
  have ll : (l ++ [j]).length = l.length + 1 := by rw [List.length_append]; rfl
  obtain ⟨k1, k2, k3, k4, k5⟩ := k
  refine ⟨by rw [ll]; exact p5, FY_trans k2 (FY_le p6 (by omega)), KL_app l [j] _ (KL_congr l _ k3 (fun j j1 j2 => p6.2.2.2.1 j (by omega))) ⟨p1, trivial⟩, fun k hk => ?_, ?_⟩
  · rcases List.mem_append.mp hk with z | z
    · exact Nat.lt_of_lt_of_le (k4 k z) p6.2.1
    · rw [List.mem_singleton.mp z]; exact p2
  · rw [List.map_append, ← k5]
    congr 1
    exact List.map_congr_left (fun k hk => by
      have := FY_w p6 (k4 k hk)
      rw [k2.1] at this; exact this)
theorem PQ_hi {m : T_Mo} {hi s e : Nat} (p : PQ m hi s e) : m.2.2.1.2.2.2 = Int32.ofNat hi ∧ (m.1.2.1.2.1 = 0 ∨ m.1.2.1.2.1 = 1) := by
  obtain ⟨h1, -, -, n, km, tp, c, PS, a1, a2, a3, a4, -⟩ := p
  exact ⟨a4, h1⟩
/-- a node out of its kids -/
theorem KS_node {m u : T_Mo} {hi s s' e d : Nat} {l : List Nat} {ks : List Int32} {w lo up : Int32} {v : Int64} {li un : Int32} {P : Int32 → T_Mo → Prop} (k : KS m u hi s' e l ks) (sc : ∀ c : Nat, c ≤ 100 → m.2.1.1.2.2.1 = Int32.ofNat c → SC w v un ks (fun j => m.2.1.2.1.1 (Ns m.1.2.1.2.1 + j)) c d) (b : s + d ≤ s' + 4) (w1 : lo ≤ w) (w2 : w ≤ up) (h : wp_Mo_node0 u w v li un (Int32.ofNat hi) P) : ∃ r u, P r u ∧ (r < 0 ∨ EO m u hi s e r lo up sl0) := by
  obtain ⟨k1, k2, k3, k4, k5⟩ := k
  obtain ⟨r, u', h, k⟩ := PQ_node (mark := hi) (d := d) k1 k3 k4 (fun c c9 ec => by
    have := sc c c9 (k2.2.2.2.2.1.symm.trans ec)
    rw [k2.1, k2.2.2.2.2.2.1, k5]; exact this) (by omega) h
  rcases k with k | ⟨n, c1, c2, c3, c4, c5, c6, c7⟩
  · exact ⟨_, _, h, Or.inl (by rw [k]; decide)⟩
  · refine ⟨_, _, h, Or.inr ?_⟩
    rw [c1]
    exact EO_pre k2 (EO_new (w := w) c2 c3 c4 c5 c6 c7 w1 w2 (by show s + 0 ≤ _; omega))
theorem st_fin {m u : T_Mo} {hi s s' e d dd : Nat} {rf : T_Mo → (Int32 → T_Mo → Prop) → Prop} {l : List Nat} {ks : List Int32} {w x2 x4 x5 : Int32} {P : Int32 → T_Mo → Prop} (k : KS m u hi s' e l ks) (nz : ¬ x5 = 0) (sc : ∀ c : Nat, c ≤ 100 → m.2.1.1.2.2.1 = Int32.ofNat c → SC w (x4).toInt64 (-1) ks (fun j => m.2.1.2.1.1 (Ns m.1.2.1.2.1 + j)) c d) (b : s + d ≤ s' + 4) (w1 : 10 ≤ w) (w2 : w ≤ 22) (h : wp_Mo_statement_J587 dd rf P u w x2 (Int32.ofNat hi) x4 x5) : ∃ r u, P r u ∧ (r < 0 ∨ EO m u hi s e r 10 22 sl0) := by
  unfold wp_Mo_statement_J587 at h
  exact KS_node (u := (((((u.1.1.1.1.1, u.1.1.1.1.2), (u.1.1.1.2.1, (u.1.1.1.2.2.1, u.1.1.1.2.2.2))), ((u.1.1.2.1.1, u.1.1.2.1.2), (u.1.1.2.2.1, (u.1.1.2.2.2.1, u.1.1.2.2.2.2)))), (((u.1.2.1.1.1, u.1.2.1.1.2), (u.1.2.1.2.1, (u.1.2.1.2.2.1, u.1.2.1.2.2.2))), ((u.1.2.2.1.1, (u.1.2.2.1.2.1, u.1.2.2.1.2.2)), (u.1.2.2.2.1, (u.1.2.2.2.2.1, u.1.2.2.2.2.2))))), ((((u.2.1.1.1.1, u.2.1.1.1.2), (u.2.1.1.2.1, (u.2.1.1.2.2.1, u.2.1.1.2.2.2))), ((u.2.1.2.1.1, u.2.1.2.1.2), (u.2.1.2.2.1, (u.2.1.2.2.2.1, u.2.1.2.2.2.2)))), (((u.2.2.1.1.1, u.2.2.1.1.2), (u.2.2.1.2.1, (u.2.2.1.2.2.1, u.2.2.1.2.2.2))), ((u.2.2.2.1.1, (u.2.2.2.1.2.1, u.2.2.2.1.2.2)), (u.2.2.2.2.1, (u.2.2.2.2.2.1, (u.2.2.2.2.2.2 + (1 : Int32))))))))) k sc b w1 w2 (h.2 nz)
theorem st_no {dd : Nat} {rf : T_Mo → (Int32 → T_Mo → Prop) → Prop} {u m : T_Mo} {hi s e : Nat} {x1 x2 x3 x4 : Int32} {P : Int32 → T_Mo → Prop} (h : wp_Mo_statement_J587 dd rf P u x1 x2 x3 x4 0) : ∃ r u, P r u ∧ (r < 0 ∨ EO m u hi s e r 10 22 sl0) := by
  unfold wp_Mo_statement_J587 at h
  exact ⟨_, _, h.1 rfl, Or.inl (by decide)⟩
/-- over a sign at the end -/
theorem KS_over {m u : T_Mo} {hi s e : Nat} {l : List Nat} {ks : List Int32} {a : Int32} {P : Int32 → T_Mo → Prop} (k : KS m u hi s e l ks) (h : wp_Mo_over u a P) : ∃ r v, P r v ∧ (r = 0 ∨ (r = 1 ∧ u.1.1.1.2.2.2 = a ∧ KS m v hi (s + 2 * (u.1.1.2.1.2.toNatClampNeg - u.1.1.2.1.1.toNatClampNeg)) e l ks)) := by
  obtain ⟨r, v, h, q⟩ := PQ_over k.1 h
  exact ⟨r, v, h, q.imp id (fun ⟨q1, q2, q3, q4⟩ => ⟨q1, q2, KS_go k q3 q4⟩)⟩
theorem KS_semi {m u : T_Mo} {hi s e : Nat} {l : List Nat} {ks : List Int32} {P : Int32 → T_Mo → Prop} (k : KS m u hi s e l ks) (h : wp_Mo_over u (59 : Int32) P) : ∃ r v, P r v ∧ (r = 0 ∨ (r = 1 ∧ KS m v hi (s + 2) e l ks)) := by
  obtain ⟨r, v, h, q⟩ := KS_over k h
  refine ⟨r, v, h, q.imp id (fun ⟨q1, q2, q3⟩ => ⟨q1, ?_⟩)⟩
  rw [tw_sg k.1.2.2.1 q2 (by decide) (by decide)] at q3
  exact q3
theorem KS_sum {dd : Nat} {m u : T_Mo} {hi s e : Nat} {l : List Nat} {ks : List Int32} {un : Int32} {P : Int32 → T_Mo → Prop} (k : KS m u hi s e l ks) (h : wp_Mo_sumOf (wp_Mo_factor dd) u un P) : ∃ r v, P r v ∧ (r = 0 ∨ (r = 1 ∧ ∃ j x, (0 : Int32) ≤ x ∧ x ≤ 6 ∧ KS m v hi s e (l ++ [j]) (ks ++ [x]))) := by
  obtain ⟨r, v, h, q⟩ := fy_sumOf (fy_factor dd) k.1 h
  exact ⟨r, v, h, q.imp id (fun ⟨q1, q2⟩ => ⟨q1, KS_push k q2⟩)⟩
theorem KS_call {m u : T_Mo} {hi s e : Nat} {l : List Nat} {ks : List Int32} {lo up : Int32} {wp : T_Mo → (Int32 → T_Mo → Prop) → Prop} {P : Int32 → T_Mo → Prop} (fe : FEx wp lo up sl0) (k : KS m u hi s e l ks) (h : wp u (fun (r : Int32) (v : T_Mo) => wp_Mo_pushed v r P)) : ∃ r v, P r v ∧ (r = 0 ∨ (r = 1 ∧ ∃ j x, lo ≤ x ∧ x ≤ up ∧ KS m v hi s e (l ++ [j]) (ks ++ [x]))) := by
  obtain ⟨r, v, h, q⟩ := fe _ _ _ _ _ k.1 h
  obtain ⟨r', v', h, q⟩ := fy_pushed q h
  exact ⟨r', v', h, q.imp id (fun ⟨q1, q2⟩ => ⟨q1, KS_push k q2⟩)⟩
theorem le6_9 {x : Int32} (h : x ≤ 6) : x ≤ 9 := Int32.le_trans h (by decide)
theorem eq23 {x : Int32} (h : 23 ≤ x) (h2 : x ≤ 23) : x = 23 := Int32.le_antisymm h2 h
theorem st_L286 {dd : Nat} {rf : T_Mo → (Int32 → T_Mo → Prop) → Prop} (hrf : FEx rf 23 23 sl0) {m : T_Mo} {hi s e : Nat} {x1 x2 x3 x4 : Int32} {K : T_Mo → Int32 → Int32 → Int32 → Int32 → Int32 → Prop} {post : Int32 → T_Mo → Prop} : ∀ (f : Nat) (u : T_Mo) (x5 : Int32), wp_Mo_statement_L286 dd rf K post f u x1 x2 x3 x4 x5 → (x5 = 0 ∨ ∃ l ks, KS m u hi s e l ks) → ∃ v y5, K v x1 x2 x3 x4 y5 ∧ (y5 = 0 ∨ ∃ l ks, KS m v hi s e l ks) := by
  intro f
  induction f with
  | zero => intro u x5 h; exact False.elim h
  | succ f ih =>
    intro u x5 h k
    rw [wp_Mo_statement_L286] at h
    rcases br_el h with ⟨q, h⟩ | ⟨q, h⟩
    · exact ⟨_, _, h, k⟩
    · obtain ⟨l, ks, k⟩ := k.resolve_left q
      rcases br_el h with ⟨q1, h⟩ | ⟨q1, h⟩
      · obtain ⟨r, v, h, q⟩ := KS_call hrf k h
        exact ih _ _ h (q.imp id (fun ⟨_, j, x, _, _, q⟩ => ⟨_, _, q⟩))
      · exact ⟨_, _, h, Or.inr ⟨l, ks, k⟩⟩
set_option maxHeartbeats 4000000 in
/-- a statement -/
theorem fy_statement {dd : Nat} {rf : T_Mo → (Int32 → T_Mo → Prop) → Prop} (hrf : FEx rf 23 23 sl0) : FEx (wp_Mo_statement dd rf) 10 22 sl0 := by
  intro m hi s e post p h
  have tw := p.2.2.1
  unfold wp_Mo_statement wp_Mo_statement_J26 wp_Mo_bad at h
  rcases br_el h with ⟨q, h⟩ | ⟨q, h⟩
  · exact ⟨_, _, h, Or.inl (by decide)⟩
  · rcases br_el h with ⟨q9, h⟩ | ⟨q9, h⟩
    · have K0 := Int32.not_lt.mp q
      have et : m.1.1.1.2.2.2 = (1000 : Int32) + (m.1.1.1.2.2.2 - (1000 : Int32)) := by generalize m.1.1.1.2.2.2 = x; grind
      generalize m.1.1.1.2.2.2 - (1000 : Int32) = K at h K0 q9 et
      obtain ⟨r2, u2, h, k⟩ := PQ_go p h
      rcases k with k | ⟨k, p2, f2⟩
      · exact ⟨_, _, h.1 k, Or.inl (by decide)⟩
      · replace h := h.2 (by rw [k]; decide)
        rw [(PQ_hi p2).1] at h
        have fail : ∀ {u : T_Mo} {x1 x2 x3 x4 : Int32}, wp_Mo_statement_J587 dd rf post u x1 x2 x3 x4 0 → ∃ r u, post r u ∧ (r < 0 ∨ EO m u hi s e r 10 22 sl0) := fun h => st_no h
        rcases K_cases K0 q9 with rfl | rfl | rfl | rfl | rfl | rfl | rfl | rfl | rfl | rfl | rfl | rfl | rfl
        all_goals (have tl := tw_kw tw et (by decide) (by decide) (by unfold sg; decide) (by decide); rw [tl] at p2; have ks := KS_0 p2 f2; clear q q9 K0)
        · -- set
          replace h := h.1 rfl
          unfold wp_Mo_statement_J120 wp_Mo_statement_J194 wp_Mo_statement_J195 wp_Mo_statement_J181 wp_Mo_statement_J195 at h
          obtain ⟨r3, u3, h, k⟩ := PQ_known p2 h
          rcases k with k | ⟨j, c, e3, jc, c9, ec, p3, f3⟩
          · exact fail (h.1 k)
          · have n3 := on_n1 (k := j) (by omega)
            rw [e3] at h
            replace h := (h.2 n3.2.1).2
            have ks3 := KS_go ks p3 f3
            obtain ⟨r5, u5, h, k⟩ := KS_sum ks3 h
            rcases k with k | ⟨k, j5, x5, a5, b5, ks5⟩
            · exact fail (h.1 k)
            · replace h := (h.2 (by rw [k]; decide)).1 rfl
              obtain ⟨r6, u6, h, k⟩ := KS_semi ks5 h
              rcases k with k | ⟨k, ks6⟩
              · exact fail (h.1 k)
              · have jv : (Int32.ofNat j).toInt64.toInt = (j : Int) := by rw [Int32.toInt_toInt64, on_toInt (by omega)]
                have el : (u2.2.1.2.1.1 (Ns u2.1.2.1.2.1 + j)).toNatClampNeg = (m.2.1.2.1.1 (Ns m.1.2.1.2.1 + j)).toNatClampNeg := by rw [f2.2.2.2.2.2.1, f2.1]
                rw [el] at ks6
                refine st_fin (d := kln 10 + 1 + (m.2.1.2.1.1 (Ns m.1.2.1.2.1 + j)).toNatClampNeg + 1 + 2) ks6 (by decide) (fun c' c9' ec' => Or.inr (Or.inr (Or.inr (Or.inr (Or.inr (Or.inr (Or.inl ⟨Or.inl rfl, j, by have : c = c' := on_inj (by omega) (by omega) (ec.symm.trans (f2.2.2.2.2.1.trans ec')); omega, jv, Nat.le_refl _⟩))))))) ?_ (by decide) (by decide) (h.2 (by rw [k]; decide))
                have z : kln 10 = 3 := by decide
                rw [z]; omega
        · -- wait
          replace h := h.2.1 rfl
          unfold wp_Mo_statement_J221 wp_Mo_statement_J222 at h
          obtain ⟨r5, u5, h, k⟩ := KS_sum ks h
          rcases k with k | ⟨k, j5, x5, a5, b5, ks5⟩
          · exact fail (h.1 k)
          · obtain ⟨r6, u6, h, k⟩ := KS_semi ks5 (h.2 (by rw [k]; decide))
            rcases k with k | ⟨k, ks6⟩
            · exact fail (h.1 k)
            · have z : kln 11 = 4 := by decide
              exact st_fin ks6 (by decide) (fun c' c9' ec' => Or.inr (Or.inr (Or.inr (Or.inr (Or.inr (Or.inr (Or.inr (Or.inl ⟨Or.inl rfl, Nat.le_refl _⟩)))))))) (by rw [z]; omega) (by decide) (by decide) (h.2 (by rw [k]; decide))
        · -- until
          replace h := h.2.2.1 rfl
          unfold wp_Mo_statement_J251 wp_Mo_statement_J252 at h
          obtain ⟨r5, u5, h, k⟩ := KS_call (fy_test (fy_factor dd)) ks h
          rcases k with k | ⟨k, j5, x5, a5, b5, ks5⟩
          · exact fail (h.1 k)
          · obtain ⟨r6, u6, h, k⟩ := KS_semi ks5 (h.2 (by rw [k]; decide))
            rcases k with k | ⟨k, ks6⟩
            · exact fail (h.1 k)
            · have z : kln 12 = 5 := by decide
              exact st_fin ks6 (by decide) (fun c' c9' ec' => Or.inr (Or.inr (Or.inr (Or.inr (Or.inr (Or.inr (Or.inr (Or.inl ⟨Or.inr (Or.inl rfl), Nat.le_refl _⟩)))))))) (by rw [z]; omega) (by decide) (by decide) (h.2 (by rw [k]; decide))
        · -- ramp
          replace h := h.2.2.2.1 rfl
          unfold wp_Mo_statement_J120 wp_Mo_statement_J194 wp_Mo_statement_J195 wp_Mo_statement_J181 wp_Mo_statement_J195 at h
          obtain ⟨r3, u3, h, k⟩ := PQ_known p2 h
          rcases k with k | ⟨j, c, e3, jc, c9, ec, p3, f3⟩
          · exact fail (h.1 k)
          · have n3 := on_n1 (k := j) (by omega)
            rw [e3] at h
            replace h := (h.2 n3.2.1).2
            have ks3 := KS_go ks p3 f3
            obtain ⟨r5, u5, h, k⟩ := KS_sum ks3 h
            rcases k with k | ⟨k, j5, x5, a5, b5, ks5⟩
            · exact fail (h.1 k)
            · replace h := (h.2 (by rw [k]; decide)).2 (by decide)
              obtain ⟨r7, u7, h, k⟩ := KS_over ks5 h
              rcases k with k | ⟨k, t7, ks7⟩
              · exact fail (h.1 k)
              · rw [tw_kw (k := 32) ks5.1.2.2.1 t7 (by decide) (by decide) (by unfold sg; decide) (by decide)] at ks7
                obtain ⟨r8, u8, h, k⟩ := KS_sum ks7 (h.2 (by rw [k]; decide))
                rcases k with k | ⟨k, j8, x8, a8, b8, ks8⟩
                · exact fail (h.1 k)
                · obtain ⟨r6, u6, h, k⟩ := KS_semi ks8 (h.2 (by rw [k]; decide))
                  rcases k with k | ⟨k, ks6⟩
                  · exact fail (h.1 k)
                  · have jv : (Int32.ofNat j).toInt64.toInt = (j : Int) := by rw [Int32.toInt_toInt64, on_toInt (by omega)]
                    have el : (u2.2.1.2.1.1 (Ns u2.1.2.1.2.1 + j)).toNatClampNeg = (m.2.1.2.1.1 (Ns m.1.2.1.2.1 + j)).toNatClampNeg := by rw [f2.2.2.2.2.2.1, f2.1]
                    rw [el] at ks6
                    refine st_fin (d := 5 + (m.2.1.2.1.1 (Ns m.1.2.1.2.1 + j)).toNatClampNeg + 1 + 3 + 2) ks6 (by decide) (fun c' c9' ec' => Or.inr (Or.inr (Or.inr (Or.inr (Or.inr (Or.inr (Or.inr (Or.inr (Or.inl ⟨rfl, ⟨x5, x8, rfl, le6_9 b5⟩, j, by have : c = c' := on_inj (by omega) (by omega) (ec.symm.trans (f2.2.2.2.2.1.trans ec')); omega, jv, Nat.le_refl _⟩))))))))) ?_ (by decide) (by decide) (h.2 (by rw [k]; decide))
                    have z : kln 13 = 4 := by decide
                    have z2 : kln 32 = 2 := by decide
                    rw [z, z2]; omega
        · -- par
          replace h := h.2.2.2.2.1 rfl
          have z : kln 14 = 3 := by decide
          have loop : ∀ {u : T_Mo} {x5 y0 : Int32}, (y0 = 0 ∨ ∃ l ks, KS m u hi (s + 2 * kln 14) e l ks) → wp_Mo_statement_J284 dd rf post u 14 m.1.1.2.2.1 (Int32.ofNat hi) 0 x5 y0 → ∃ r u, post r u ∧ (r < 0 ∨ EO m u hi s e r 10 22 sl0) := by
            intro u x5 y0 kk h
            unfold wp_Mo_statement_J284 at h
            obtain ⟨f, h⟩ := h
            obtain ⟨v, y5, h, k⟩ := st_L286 hrf f _ _ h kk
            by_cases y : y5 = 0
            · rw [y] at h; exact fail h
            · obtain ⟨l, ks, k⟩ := k.resolve_left y
              exact st_fin k y (fun c' c9' ec' => Or.inr (Or.inr (Or.inr (Or.inr (Or.inr (Or.inr (Or.inr (Or.inr (Or.inr (Or.inl ⟨Or.inl rfl, Nat.le_refl _⟩)))))))))) (by rw [z]; omega) (by decide) (by decide) h
          unfold wp_Mo_statement_J283 at h
          obtain ⟨r5, u5, h, k⟩ := KS_call hrf ks h
          rcases k with k | ⟨k, j5, x5, a5, b5, ks5⟩
          · exact loop (Or.inl rfl) (h.1 k)
          · obtain ⟨r6, u6, h, k⟩ := KS_call hrf ks5 (h.2 (by rw [k]; decide))
            rcases k with k | ⟨k, j6, x6, a6, b6, ks6⟩
            · exact loop (Or.inl rfl) (h.1 k)
            · exact loop (Or.inr ⟨_, _, ks6⟩) (h.2 (by rw [k]; decide))
        · -- if
          replace h := h.2.2.2.2.2.1 rfl
          have z : kln 15 = 2 := by decide
          have z33 : kln 33 = 4 := by decide
          unfold wp_Mo_statement_J339 wp_Mo_statement_J340 wp_Mo_statement_J378 wp_Mo_statement_J379 at h
          obtain ⟨r5, u5, h, k⟩ := KS_call (fy_test (fy_factor dd)) ks h
          rcases k with k | ⟨k, j5, x5, a5, b5, ks5⟩
          · exact fail ((h.1 k).1 rfl)
          · obtain ⟨r6, u6, h, k⟩ := KS_call hrf ks5 (h.2 (by rw [k]; decide))
            rcases k with k | ⟨k, j6, x6, a6, b6, ks6⟩
            · exact fail ((h.1 k).1 rfl)
            · replace h := (h.2 (by rw [k]; decide)).2 (by decide)
              have e6 := eq23 a6 b6
              subst e6
              rcases iv_isWord h with ⟨t, h⟩ | ⟨t, h⟩
              · obtain ⟨r7, u7, h, k⟩ := PQ_go ks6.1 (h.2 (by decide))
                rcases k with k | ⟨k, p7, f7⟩
                · exact fail (h.1 k)
                · rw [tw_kw ks6.1.2.2.1 t (by decide) (by decide) (by unfold sg; decide) (by decide)] at p7
                  have ks7 := KS_go ks6 p7 f7
                  obtain ⟨r8, u8, h, k⟩ := KS_call hrf ks7 (h.2 (by rw [k]; decide))
                  rcases k with k | ⟨k, j8, x8, a8, b8, ks8⟩
                  · exact fail (h.1 k)
                  · have e8 := eq23 a8 b8
                    subst e8
                    exact st_fin ks8 (by decide) (fun c' c9' ec' => Or.inr (Or.inr (Or.inr (Or.inr (Or.inr (Or.inr (Or.inr (Or.inr (Or.inr (Or.inr (Or.inl ⟨rfl, x5, b5, Or.inr ⟨rfl, Nat.le_refl _⟩⟩))))))))))) (by rw [z, z33]; omega) (by decide) (by decide) (h.2 (by rw [k]; decide))
              · exact st_fin ks6 (by decide) (fun c' c9' ec' => Or.inr (Or.inr (Or.inr (Or.inr (Or.inr (Or.inr (Or.inr (Or.inr (Or.inr (Or.inr (Or.inl ⟨rfl, x5, b5, Or.inl ⟨rfl, Nat.le_refl _⟩⟩))))))))))) (by rw [z]; omega) (by decide) (by decide) (h.1 rfl)
        · -- repeat
          replace h := h.2.2.2.2.2.2.1 rfl
          have z : kln 16 = 6 := by decide
          unfold wp_Mo_statement_J407 wp_Mo_statement_J408 at h
          obtain ⟨r5, u5, h, k⟩ := KS_sum ks h
          rcases k with k | ⟨k, j5, x5, a5, b5, ks5⟩
          · exact fail (h.1 k)
          · obtain ⟨r6, u6, h, k⟩ := KS_call hrf ks5 (h.2 (by rw [k]; decide))
            rcases k with k | ⟨k, j6, x6, a6, b6, ks6⟩
            · exact fail (h.1 k)
            · exact st_fin ks6 (by decide) (fun c' c9' ec' => Or.inr (Or.inr (Or.inr (Or.inr (Or.inr (Or.inr (Or.inr (Or.inr (Or.inr (Or.inl ⟨Or.inr rfl, Nat.le_refl _⟩)))))))))) (by rw [z]; omega) (by decide) (by decide) (h.2 (by rw [k]; decide))
        · -- limit
          replace h := h.2.2.2.2.2.2.2.1 rfl
          have z : kln 17 = 5 := by decide
          have z34 : kln 34 = 4 := by decide
          unfold wp_Mo_statement_J460 wp_Mo_statement_J461 at h
          obtain ⟨r5, u5, h, k⟩ := KS_call (fy_test (fy_factor dd)) ks h
          rcases k with k | ⟨k, j5, x5, a5, b5, ks5⟩
          · exact fail (h.1 k)
          · obtain ⟨r6, u6, h, k⟩ := KS_call hrf ks5 (h.2 (by rw [k]; decide))
            rcases k with k | ⟨k, j6, x6, a6, b6, ks6⟩
            · exact fail (h.1 k)
            · obtain ⟨r7, u7, h, k⟩ := KS_over ks6 (h.2 (by rw [k]; decide))
              rcases k with k | ⟨k, t7, ks7⟩
              · exact fail (h.1 k)
              · rw [tw_kw (k := 34) ks6.1.2.2.1 t7 (by decide) (by decide) (by unfold sg; decide) (by decide)] at ks7
                obtain ⟨r8, u8, h, k⟩ := KS_call hrf ks7 (h.2 (by rw [k]; decide))
                rcases k with k | ⟨k, j8, x8, a8, b8, ks8⟩
                · exact fail (h.1 k)
                · have e6 := eq23 a6 b6
                  have e8 := eq23 a8 b8
                  subst e6 e8
                  exact st_fin ks8 (by decide) (fun c' c9' ec' => Or.inr (Or.inr (Or.inr (Or.inr (Or.inr (Or.inr (Or.inr (Or.inr (Or.inr (Or.inr (Or.inr (Or.inl ⟨rfl, x5, b5, rfl, Nat.le_refl _⟩)))))))))))) (by rw [z, z34]; omega) (by decide) (by decide) (h.2 (by rw [k]; decide))
        · -- ask
          replace h := h.2.2.2.2.2.2.2.2.1 rfl
          have z : kln 18 = 3 := by decide
          unfold wp_Mo_statement_J466 at h
          replace h := h.1 rfl
          unfold wp_Mo_statement_J480 wp_Mo_statement_J503 wp_Mo_statement_J504 at h
          obtain ⟨r3, u3, h, k⟩ := PQ_known p2 h
          rcases k with k | ⟨j, c, e3, jc, c9, ec, p3, f3⟩
          · exact fail (h.1 k)
          · have n3 := on_n1 (k := j) (by omega)
            rw [e3] at h
            have ks3 := KS_go ks p3 f3
            obtain ⟨r6, u6, h, k⟩ := KS_semi ks3 (h.2 n3.2.1)
            rcases k with k | ⟨k, ks6⟩
            · exact fail (h.1 k)
            · have jv : (Int32.ofNat j).toInt64.toInt = (j : Int) := by rw [Int32.toInt_toInt64, on_toInt (by omega)]
              have el : (u2.2.1.2.1.1 (Ns u2.1.2.1.2.1 + j)).toNatClampNeg = (m.2.1.2.1.1 (Ns m.1.2.1.2.1 + j)).toNatClampNeg := by rw [f2.2.2.2.2.2.1, f2.1]
              rw [el] at ks6
              refine st_fin (d := kln 18 + 1 + (m.2.1.2.1.1 (Ns m.1.2.1.2.1 + j)).toNatClampNeg + 1 + 2) ks6 (by decide) (fun c' c9' ec' => Or.inr (Or.inr (Or.inr (Or.inr (Or.inr (Or.inr (Or.inl ⟨Or.inr (Or.inl rfl), j, by have : c = c' := on_inj (by omega) (by omega) (ec.symm.trans (f2.2.2.2.2.1.trans ec')); omega, jv, Nat.le_refl _⟩))))))) ?_ (by decide) (by decide) (h.2 (by rw [k]; decide))
              rw [z]; omega
        · -- do
          replace h := h.2.2.2.2.2.2.2.2.2.1 rfl
          have z : kln 19 = 2 := by decide
          unfold wp_Mo_statement_J466 at h
          replace h := h.2 (by decide)
          unfold wp_Mo_statement_J480 wp_Mo_statement_J503 wp_Mo_statement_J504 at h
          obtain ⟨r3, u3, h, k⟩ := PQ_known p2 h
          rcases k with k | ⟨j, c, e3, jc, c9, ec, p3, f3⟩
          · exact fail (h.1 k)
          · have n3 := on_n1 (k := j) (by omega)
            rw [e3] at h
            have ks3 := KS_go ks p3 f3
            obtain ⟨r6, u6, h, k⟩ := KS_semi ks3 (h.2 n3.2.1)
            rcases k with k | ⟨k, ks6⟩
            · exact fail (h.1 k)
            · have jv : (Int32.ofNat j).toInt64.toInt = (j : Int) := by rw [Int32.toInt_toInt64, on_toInt (by omega)]
              have el : (u2.2.1.2.1.1 (Ns u2.1.2.1.2.1 + j)).toNatClampNeg = (m.2.1.2.1.1 (Ns m.1.2.1.2.1 + j)).toNatClampNeg := by rw [f2.2.2.2.2.2.1, f2.1]
              rw [el] at ks6
              refine st_fin (d := kln 19 + 1 + (m.2.1.2.1.1 (Ns m.1.2.1.2.1 + j)).toNatClampNeg + 1 + 2) ks6 (by decide) (fun c' c9' ec' => Or.inr (Or.inr (Or.inr (Or.inr (Or.inr (Or.inr (Or.inl ⟨Or.inr (Or.inr rfl), j, by have : c = c' := on_inj (by omega) (by omega) (ec.symm.trans (f2.2.2.2.2.1.trans ec')); omega, jv, Nat.le_refl _⟩))))))) ?_ (by decide) (by decide) (h.2 (by rw [k]; decide))
              rw [z]; omega
        · -- stop
          replace h := h.2.2.2.2.2.2.2.2.2.2.2 (by decide)
          have z : kln 20 = 4 := by decide
          unfold wp_Mo_statement_J579 at h
          obtain ⟨r6, u6, h, k⟩ := KS_semi ks h
          rcases k with k | ⟨k, ks6⟩
          · rw [k] at h; exact fail h
          · exact st_fin ks6 (by rw [k]; decide) (fun c' c9' ec' => Or.inr (Or.inr (Or.inr (Or.inr (Or.inr (Or.inr (Or.inr (Or.inl ⟨Or.inr (Or.inr (Or.inl rfl)), Nat.le_refl _⟩)))))))) (by rw [z]; omega) (by decide) (by decide) h
        · -- hold
          replace h := h.2.2.2.2.2.2.2.2.2.2.2 (by decide)
          have z : kln 21 = 4 := by decide
          unfold wp_Mo_statement_J579 at h
          obtain ⟨r6, u6, h, k⟩ := KS_semi ks h
          rcases k with k | ⟨k, ks6⟩
          · rw [k] at h; exact fail h
          · exact st_fin ks6 (by rw [k]; decide) (fun c' c9' ec' => Or.inr (Or.inr (Or.inr (Or.inr (Or.inr (Or.inr (Or.inr (Or.inl ⟨Or.inr (Or.inr (Or.inr rfl)), Nat.le_refl _⟩)))))))) (by rw [z]; omega) (by decide) (by decide) h
        · -- act
          replace h := h.2.2.2.2.2.2.2.2.2.2.1 rfl
          have z : kln 22 = 3 := by decide
          unfold wp_Mo_statement_J537 wp_Mo_statement_J573 wp_Mo_statement_J574 wp_Mo_bad at h
          rcases br_el h with ⟨b1, h⟩ | ⟨b1, h⟩
          · rcases br_el h with ⟨b2, h⟩ | ⟨b2, h⟩
            · rcases br_el h with ⟨b3, h⟩ | ⟨b3, h⟩
              · have nd : ND u2 (u2.1.1.2.1.2.toNatClampNeg - u2.1.1.2.1.1.toNatClampNeg) := tw_nd p2.2.2.1 b1
                obtain ⟨v, ev, v9, vl, v1⟩ := nd
                have b3' := (lg_cmp_lt _ _).mp b3
                rw [Int64.lt_iff_toInt_lt, ev, show (64000 : Int64).toInt = 64000 from rfl] at b3'
                have dv : (u2.1.1.2.2.2.1 / (1000 : Int64)).toInt = ((v / 1000 : Nat) : Int) := d64 ev (show (1000 : Int64).toInt = ((1000 : Nat) : Int) from rfl) (by omega) (by omega)
                have d32 : ((u2.1.1.2.2.2.1 / (1000 : Int64)).toInt32).toInt64.toInt = ((v / 1000 : Nat) : Int) := by
                  rw [Int32.toInt_toInt64, Int64.toInt_toInt32, dv]; exact Int.bmod_eq_of_le (by omega) (by omega)
                have nl : (nb (1000 * (v / 1000))).length ≤ (nb v).length := by
                  rw [nb_eq, nb_eq, show 1000 * (v / 1000) / 1000 = v / 1000 by omega, show 1000 * (v / 1000) % 1000 = 0 by omega, if_pos rfl]; omega
                obtain ⟨r5, u5, h, k⟩ := PQ_go p2 h
                rcases k with k | ⟨k, p5, f5⟩
                · exact fail (h.1 k)
                · have ks5 := KS_go ks p5 f5
                  obtain ⟨r6, u6, h, k⟩ := KS_semi ks5 (h.2 (by rw [k]; decide))
                  rcases k with k | ⟨k, ks6⟩
                  · exact fail (h.1 k)
                  · exact st_fin ks6 (by decide) (fun c' c9' ec' => Or.inr (Or.inr (Or.inr (Or.inr (Or.inr (Or.inr (Or.inr (Or.inr (Or.inr (Or.inr (Or.inr (Or.inr ⟨rfl, v / 1000, d32, by omega, Nat.le_refl _⟩)))))))))))) (by rw [z]; omega) (by decide) (by decide) (h.2 (by rw [k]; decide))
              · exact ⟨_, _, h, Or.inl (by decide)⟩
            · exact ⟨_, _, h, Or.inl (by decide)⟩
          · exact ⟨_, _, h, Or.inl (by decide)⟩
    · exact ⟨_, _, h, Or.inl (by decide)⟩
theorem fy_block_L {dd : Nat} {rf : T_Mo → (Int32 → T_Mo → Prop) → Prop} (hrf : FEx rf 23 23 sl0) {m : T_Mo} {hi s e : Nat} {x1 x2 : Int32} {K : T_Mo → Int32 → Int32 → Prop} {post : Int32 → T_Mo → Prop} : ∀ (f : Nat) (u : T_Mo), wp_Mo_block_L52 dd rf K post f u x1 x2 → (∃ l ks, KS m u hi s e l ks) → (∃ v, K v x1 x2 ∧ v.1.1.1.2.2.2 = 125 ∧ ∃ l ks, KS m v hi s e l ks) ∨ (∃ u, post (-1) u) := by
  intro f
  induction f with
  | zero => intro u h; exact False.elim h
  | succ f ih =>
    intro u h k
    rw [wp_Mo_block_L52] at h
    rcases br_el h with ⟨q, h⟩ | ⟨q, h⟩
    · exact Or.inl ⟨_, h, q, k⟩
    · obtain ⟨l, ks, k⟩ := k
      obtain ⟨r, v, h, q⟩ := fy_statement hrf _ _ _ _ _ k.1 h
      rcases q with q | eo
      · exact Or.inr ⟨_, h.2 (Int32.not_le.mpr q)⟩
      · replace h := h.1 (EO_nn eo).2
        obtain ⟨k1, e1, l1, k9, w1, w2, p1, f1⟩ := eo
        rw [e1] at h
        obtain ⟨v', h, pu⟩ := EO_PU l1 w1 w2 p1 f1 h
        obtain ⟨j, x, -, -, k'⟩ := KS_push k pu
        exact ih _ h ⟨_, _, k'⟩
set_option maxHeartbeats 1000000 in
theorem fy_block_F {dd : Nat} {rf : T_Mo → (Int32 → T_Mo → Prop) → Prop} (hrf : FEx rf 23 23 sl0) : FEx (wp_Mo_block_F dd rf) 23 23 sl0 := by
  intro m hi s e post p h
  unfold wp_Mo_block_F wp_Mo_bad at h
  rcases br_el h with ⟨q, h⟩ | ⟨q, h⟩
  · rcases br_el h with ⟨o, h⟩ | ⟨o, h⟩
    · exact ⟨_, _, h, Or.inl (by decide)⟩
    · obtain ⟨r1, u1, h, k⟩ := PQ_go (m := (((((m.1.1.1.1.1, m.1.1.1.1.2), (m.1.1.1.2.1, (m.1.1.1.2.2.1, m.1.1.1.2.2.2))), ((m.1.1.2.1.1, m.1.1.2.1.2), (m.1.1.2.2.1, (m.1.1.2.2.2.1, m.1.1.2.2.2.2)))), (((m.1.2.1.1.1, (m.1.2.1.1.2 + (1 : Int32))), (m.1.2.1.2.1, (m.1.2.1.2.2.1, m.1.2.1.2.2.2))), ((m.1.2.2.1.1, (m.1.2.2.1.2.1, m.1.2.2.1.2.2)), (m.1.2.2.2.1, (m.1.2.2.2.2.1, m.1.2.2.2.2.2))))), ((((m.2.1.1.1.1, m.2.1.1.1.2), (m.2.1.1.2.1, (m.2.1.1.2.2.1, m.2.1.1.2.2.2))), ((m.2.1.2.1.1, m.2.1.2.1.2), (m.2.1.2.2.1, (m.2.1.2.2.2.1, m.2.1.2.2.2.2)))), (((m.2.2.1.1.1, m.2.2.1.1.2), (m.2.2.1.2.1, (m.2.2.1.2.2.1, m.2.2.1.2.2.2))), ((m.2.2.2.1.1, (m.2.2.2.1.2.1, m.2.2.2.1.2.2)), (m.2.2.2.2.1, (m.2.2.2.2.2.1, m.2.2.2.2.2.2))))))) (hi := hi) (s := s) (e := e) p h
      rcases k with k | ⟨k, p1, f1⟩
      · exact ⟨_, _, h.1 k, Or.inl (by decide)⟩
      · have tl := tw_sg p.2.2.1 q (by decide) (by decide)
        have p1' : PQ u1 hi (s + 2 * 1) e := by rw [← tl]; exact p1
        have f1' : FY m u1 hi := f1
        rw [(PQ_hi p).1] at h
        obtain ⟨f, h⟩ := h.2 (by rw [k]; decide)
        rcases fy_block_L hrf f _ h ⟨_, _, KS_0 p1' f1'⟩ with ⟨v, h, t, l, ks, k2⟩ | ⟨u, h⟩
        · obtain ⟨r3, u3, h, k⟩ := PQ_go (m := (((((v.1.1.1.1.1, v.1.1.1.1.2), (v.1.1.1.2.1, (v.1.1.1.2.2.1, v.1.1.1.2.2.2))), ((v.1.1.2.1.1, v.1.1.2.1.2), (v.1.1.2.2.1, (v.1.1.2.2.2.1, v.1.1.2.2.2.2)))), (((v.1.2.1.1.1, (v.1.2.1.1.2 - (1 : Int32))), (v.1.2.1.2.1, (v.1.2.1.2.2.1, v.1.2.1.2.2.2))), ((v.1.2.2.1.1, (v.1.2.2.1.2.1, v.1.2.2.1.2.2)), (v.1.2.2.2.1, (v.1.2.2.2.2.1, v.1.2.2.2.2.2))))), ((((v.2.1.1.1.1, v.2.1.1.1.2), (v.2.1.1.2.1, (v.2.1.1.2.2.1, v.2.1.1.2.2.2))), ((v.2.1.2.1.1, v.2.1.2.1.2), (v.2.1.2.2.1, (v.2.1.2.2.2.1, v.2.1.2.2.2.2)))), (((v.2.2.1.1.1, v.2.2.1.1.2), (v.2.2.1.2.1, (v.2.2.1.2.2.1, v.2.2.1.2.2.2))), ((v.2.2.2.1.1, (v.2.2.2.1.2.1, v.2.2.2.1.2.2)), (v.2.2.2.2.1, (v.2.2.2.2.2.1, v.2.2.2.2.2.2))))))) (hi := hi + l.length) (s := s + 2 * 1) (e := e) k2.1 h
          rcases k with k | ⟨k, p3, f3⟩
          · exact ⟨_, _, h.1 k, Or.inl (by decide)⟩
          · have tl3 := tw_sg k2.1.2.2.1 t (by decide) (by decide)
            have p3' : PQ u3 (hi + l.length) (s + 2 * 1 + 2 * 1) e := by
              have : PQ u3 (hi + l.length) (s + 2 * 1 + 2 * (v.1.1.2.1.2.toNatClampNeg - v.1.1.2.1.1.toNatClampNeg)) e := p3
              rw [tl3] at this; exact this
            have k3 := KS_go k2 p3' f3
            exact KS_node (d := 4) (s := s) k3 (fun c c9 ec => Or.inr (Or.inr (Or.inr (Or.inr (Or.inl ⟨rfl, Nat.le_refl _⟩))))) (by omega) (by decide) (by decide) (h.2 (by rw [k]; decide))
        · exact ⟨_, _, h, Or.inl (by decide)⟩
  · exact ⟨_, _, h, Or.inl (by decide)⟩
theorem fy_block (dd : Nat) : ∀ d : Nat, FEx (wp_Mo_block dd d) 23 23 sl0
  | 0 => fun m hi s e post p h => False.elim h
  | d + 1 => fy_block_F (fy_block dd d)

