set_option maxHeartbeats 2000000 in
theorem fy_sum_L {rf : T_Mo → (Int32 → T_Mo → Prop) → Prop} (hrf : FEx rf 0 6 sl4) {g : T_Mo} {hi s e : Nat} {K : T_Mo → Int32 → Prop} {post : Int32 → T_Mo → Prop} : ∀ (f : Nat) (z : T_Mo) (x1 : Int32), wp_Mo_sum_L5 rf K post f z x1 → (x1 < 0 ∨ EO g z hi s e x1 0 6 sl0) → (∃ z' x', K z' x' ∧ (x' < 0 ∨ EO g z' hi s e x' 0 6 sl0)) ∨ (∃ u, post (-1) u) := by
  intro f
  induction f with
  | zero => intro z x1 h; exact False.elim h
  | succ f ih =>
    intro z x1 h iv
    rw [wp_Mo_sum_L5] at h
    rcases br_el h with ⟨q, h⟩ | ⟨q, h⟩
    · exact Or.inl ⟨_, _, h, iv⟩
    · have eo := iv.resolve_left q
      obtain ⟨k1, e1, l1, k9, w1, w2, p, fy⟩ := eo
      have core : ∀ {FAIL : T_Mo → Prop} {BODY : Int32 → T_Mo → Prop}, (z.1.1.1.2.2.2 = 43 ∨ z.1.1.1.2.2.2 = 45) → wp_Mo_go z (fun (r2 : Int32) (u2 : T_Mo) => (r2 = 0 → FAIL u2) ∧ (¬ r2 = 0 → wp_Mo_product rf u2 (fun (r7 : Int32) (u7 : T_Mo) => BODY r7 u7))) → (∃ u, FAIL u) ∨ ∃ r u, BODY r u ∧ (r < 0 ∨ (0 ≤ r ∧ ∀ {w un : Int32}, (w = 2 ∨ w = 3) → wp_Mo_two u w x1 r un (fun (r16 : Int32) (u16 : T_Mo) => wp_Mo_sum_L5 rf K post f u16 r16) → (∃ z' x', K z' x' ∧ (x' < 0 ∨ EO g z' hi s e x' 0 6 sl0)) ∨ (∃ u, post (-1) u))) := by
        intro FAIL BODY tk h
        obtain ⟨r1, u1, h, k⟩ := PQ_go p h
        rcases k with k | ⟨k, p1, f1⟩
        · exact Or.inl ⟨_, h.1 k⟩
        · replace h := h.2 (by rw [k]; decide)
          have tl : z.1.1.2.1.2.toNatClampNeg - z.1.1.2.1.1.toNatClampNeg = 1 := by
            rcases tk with tk | tk
            · exact tw_sg p.2.2.1 tk (by decide) (by decide)
            · exact tw_sg p.2.2.1 tk (by decide) (by decide)
          rw [tl] at p1
          obtain ⟨r, u, h, k⟩ := fy_product hrf _ _ _ _ _ p1 h
          refine Or.inr ⟨r, u, h, k.imp id (fun eo => ⟨(EO_nn eo).2, fun {w un} hw h => ?_⟩)⟩
          obtain ⟨k2, e2, l2, k29, v1, v2, p2, f2⟩ := eo
          have fz : FY z u hi := FY_trans f1 f2
          have l1' : k1 < u.1.2.1.2.2.1.toNatClampNeg := Nat.lt_of_lt_of_le l1 fz.2.1
          have eg : z.1.2.1.2.1 = g.1.2.1.2.1 := fy.1
          have eu : u.1.2.1.2.1 = g.1.2.1.2.1 := fz.1.trans eg
          have e1h : u1.1.2.1.2.1 = g.1.2.1.2.1 := f1.1.trans eg
          rw [e1h] at p2
          have b1 := bc1_s (w := w) (v := u.1.2.1.2.2.2 (Bs u.1.2.1.2.1 + k1)) (by rcases hw with z | z <;> rw [z] <;> decide)
          have b2 := bc2_s (v := u.1.2.1.2.2.2 (Bs u.1.2.1.2.1 + k2)) hw
          have z0 : sl0 (z.1.2.1.2.2.2 (Bs g.1.2.1.2.1 + k1)) = 0 := rfl
          rw [eu] at b1 b2
          rw [e1, e2] at h
          obtain ⟨r', u', h, k⟩ := PQ_two (d := 2 + bc1 w (u.1.2.1.2.2.2 (Bs u.1.2.1.2.1 + k1)) + bc2 w (u.1.2.1.2.2.2 (Bs u.1.2.1.2.1 + k2))) p2 l1' l2 (by rcases hw with z | z <;> rw [z] <;> decide) (Nat.le_refl _) (by rw [eu, b1]; omega) h
          refine ih _ _ h ?_
          rcases k with k | ⟨n, c1, c2, c3, c4, c5, c6, c7⟩
          · exact Or.inl (by rw [k]; decide)
          · refine Or.inr ?_
            rw [c1]
            refine EO_pre (FY_trans fy fz) (EO_new (w := w) c2 c3 c4 c5 c6 c7 (by rcases hw with z | z <;> rw [z] <;> decide) (by rcases hw with z | z <;> rw [z] <;> decide) ?_)
            have sw : sl0 w = 0 := rfl
            rw [sw, eu, b1]; omega
      have ff : ∀ {A B : Prop}, (0 ≤ (-1 : Int32) → A) ∧ (¬ 0 ≤ (-1 : Int32) → B) → B := fun h => h.2 (by decide)
      have nz : ∀ {r : Int32}, r < 0 → ¬ 0 ≤ r := fun h => Int32.not_le.mpr h
      have go : (z.1.1.1.2.2.2 = 43 ∨ z.1.1.1.2.2.2 = 45) → (∃ (FAIL : T_Mo → Prop) (BODY : Int32 → T_Mo → Prop), wp_Mo_go z (fun (r2 : Int32) (u2 : T_Mo) => (r2 = 0 → FAIL u2) ∧ (¬ r2 = 0 → wp_Mo_product rf u2 (fun (r7 : Int32) (u7 : T_Mo) => BODY r7 u7))) ∧ (∀ u, FAIL u → ∃ u, post (-1) u) ∧ (∀ r u, BODY r u → (r < 0 → ∃ u, post (-1) u) ∧ (0 ≤ r → (∃ u, post (-1) u) ∨ ∃ w un, (w = 2 ∨ w = 3) ∧ wp_Mo_two u w x1 r un (fun (r16 : Int32) (u16 : T_Mo) => wp_Mo_sum_L5 rf K post f u16 r16)))) → (∃ z' x', K z' x' ∧ (x' < 0 ∨ EO g z' hi s e x' 0 6 sl0)) ∨ (∃ u, post (-1) u) := by
        rintro tk ⟨FAIL, BODY, h, hf, hb⟩
        rcases core tk h with ⟨u, h⟩ | ⟨r, u, h, k⟩
        · exact Or.inr (hf u h)
        · obtain ⟨b1, b2⟩ := hb r u h
          rcases k with k | ⟨k0, k⟩
          · exact Or.inr (b1 k)
          · rcases b2 k0 with w | ⟨w, un, hw, h⟩
            · exact Or.inr w
            · exact k hw h
      rcases br_el h with ⟨t, h⟩ | ⟨t, h⟩
      · refine go (Or.inl t) ?_
        replace h := h.1 t
        refine ⟨_, _, h, fun u w => ⟨_, ff w⟩, fun r u w => ⟨fun r0 => ⟨_, w.2 (nz r0)⟩, fun r0 => ?_⟩⟩
        replace w := w.1 r0
        obtain ⟨y1, x1', -, qb⟩ := dt_Mo_unitIn w
        replace w := qb _ w
        obtain ⟨y2, x2', -, qb2⟩ := dt_Mo_unitIn w
        replace w := qb2 _ w
        clear qb qb2
        rcases br_el w with ⟨c1, w⟩ | ⟨c1, w⟩
        · obtain ⟨y3, x3', -, qb3⟩ := dt_Mo_unitIn w
          exact Or.inr ⟨_, _, Or.inl rfl, qb3 _ w⟩
        · exact Or.inl ⟨_, w⟩
      · rcases br_el h with ⟨t2, h⟩ | ⟨t2, h⟩
        · refine go (Or.inr t2) ?_
          replace h := h.2 t
          refine ⟨_, _, h, fun u w => ⟨_, ff w⟩, fun r u w => ⟨fun r0 => ⟨_, w.2 (nz r0)⟩, fun r0 => ?_⟩⟩
          replace w := w.1 r0
          obtain ⟨y1, x1', -, qb⟩ := dt_Mo_unitIn w
          replace w := qb _ w
          obtain ⟨y2, x2', -, qb2⟩ := dt_Mo_unitIn w
          replace w := qb2 _ w
          clear qb qb2
          rcases br_el w with ⟨c1, w⟩ | ⟨c1, w⟩
          · obtain ⟨y3, x3', -, qb3⟩ := dt_Mo_unitIn w
            exact Or.inr ⟨_, _, Or.inr rfl, qb3 _ w⟩
          · exact Or.inl ⟨_, w⟩
        · exact Or.inl ⟨_, _, h, iv⟩
theorem fy_sum {rf : T_Mo → (Int32 → T_Mo → Prop) → Prop} (hrf : FEx rf 0 6 sl4) : FEx (wp_Mo_sum rf) 0 6 sl0 := by
  intro m hi s e post p h
  unfold wp_Mo_sum wp_Mo_sum_J109 at h
  obtain ⟨r, u, ⟨f, h⟩, k⟩ := fy_product hrf _ _ _ _ _ p h
  have k' : r < 0 ∨ EO m u hi s e r 0 6 sl0 := k.imp id (fun eo => by
    obtain ⟨k, e1, l1, k9, w1, w2, p, fy⟩ := eo
    exact ⟨k, e1, l1, k9, w1, w2, PQ_le p (by show s + 0 ≤ _; omega) (Nat.le_refl _), fy⟩)
  rcases fy_sum_L hrf f _ _ h k' with ⟨z, x, h, k⟩ | ⟨u, h⟩
  · exact ⟨x, z, h, k⟩
  · exact ⟨_, u, h, Or.inl (by decide)⟩
set_option maxHeartbeats 1000000 in
theorem fy_test {rf : T_Mo → (Int32 → T_Mo → Prop) → Prop} (hrf : FEx rf 0 6 sl4) : FEx (wp_Mo_test rf) 7 9 sl0 := by
  intro m hi s e post p h
  unfold wp_Mo_test at h
  obtain ⟨r, u, h, k⟩ := fy_sum hrf _ _ _ _ _ p h
  rcases k with k | eo
  · exact ⟨_, _, h.2 (Int32.not_le.mpr k), Or.inl (by decide)⟩
  · replace h := h.1 (EO_nn eo).2
    obtain ⟨k1, e1, l1, k9, w1, w2, p1, f1⟩ := eo
    have j73 : ∀ {w : Int32}, (w = 7 ∨ w = 8 ∨ w = 9) → (u.1.1.1.2.2.2 = 60 ∨ u.1.1.1.2.2.2 = 61 ∨ u.1.1.1.2.2.2 = 62) → wp_Mo_test_J73 rf post u r w → ∃ r u, post r u ∧ (r < 0 ∨ EO m u hi s e r 7 9 sl0) := by
      intro w hw tk h
      unfold wp_Mo_test_J73 wp_Mo_test_J94 at h
      have tl : u.1.1.2.1.2.toNatClampNeg - u.1.1.2.1.1.toNatClampNeg = 1 := by
        rcases tk with tk | tk | tk
        · exact tw_sg p1.2.2.1 tk (by decide) (by decide)
        · exact tw_sg p1.2.2.1 tk (by decide) (by decide)
        · exact tw_sg p1.2.2.1 tk (by decide) (by decide)
      obtain ⟨r2, u2, h, k⟩ := PQ_go p1 h
      rcases k with k | ⟨k, p2, f2⟩
      · exact ⟨_, _, (h.1 k).2 (by decide), Or.inl (by decide)⟩
      · rw [tl] at p2
        obtain ⟨r3, u3, h, k⟩ := fy_sum hrf _ _ _ _ _ p2 (h.2 (by rw [k]; decide))
        rcases k with k | eo
        · exact ⟨_, _, h.2 (Int32.not_le.mpr k), Or.inl (by decide)⟩
        · replace h := h.1 (EO_nn eo).2
          obtain ⟨k2, e2, l2, k29, v1, v2, p3, f3⟩ := eo
          obtain ⟨y1, x1', -, qb⟩ := dt_Mo_unitIn h
          replace h := qb _ h
          obtain ⟨y2, x2', -, qb2⟩ := dt_Mo_unitIn h
          replace h := qb2 _ h
          rcases br_el h with ⟨c1, h⟩ | ⟨c1, h⟩
          · have fz : FY u u3 hi := FY_trans f2 f3
            have b1 := bc1_s (w := w) (v := u3.1.2.1.2.2.2 (Bs u3.1.2.1.2.1 + k1)) (by rcases hw with z | z | z <;> rw [z] <;> decide)
            have b2 := bc2_t (w := w) (v := u3.1.2.1.2.2.2 (Bs u3.1.2.1.2.1 + k2)) hw
            have z0 : sl0 (u.1.2.1.2.2.2 (Bs m.1.2.1.2.1 + k1)) = 0 := rfl
            rw [e1, e2] at h
            obtain ⟨r', u', h, k⟩ := PQ_two (d := 2) p3 (Nat.lt_of_lt_of_le l1 fz.2.1) l2 (by rcases hw with z | z | z <;> rw [z] <;> decide) (by rw [b1, b2]; omega) (by omega) h
            rcases k with k | ⟨n, c1, c2, c3, c4, c5, c6, c7⟩
            · exact ⟨_, _, h, Or.inl (by rw [k]; decide)⟩
            · refine ⟨_, _, h, Or.inr ?_⟩
              rw [c1]
              exact EO_pre (FY_trans f1 fz) (EO_new (w := w) c2 c3 c4 c5 c6 c7 (by rcases hw with z | z | z <;> rw [z] <;> decide) (by rcases hw with z | z | z <;> rw [z] <;> decide) (by show s + 0 ≤ _; omega))
          · exact ⟨_, _, h, Or.inl (by decide)⟩
    have j43 : (u.1.1.1.2.2.2 = 60 ∨ u.1.1.1.2.2.2 = 61 ∨ u.1.1.1.2.2.2 = 62) → wp_Mo_test_J43 rf post u r → ∃ r u, post r u ∧ (r < 0 ∨ EO m u hi s e r 7 9 sl0) := by
      intro tk h
      unfold wp_Mo_test_J43 at h
      rcases br_el h with ⟨q, h⟩ | ⟨q, h⟩
      · exact j73 (Or.inl rfl) tk h
      · rcases br_el h with ⟨q2, h⟩ | ⟨q2, h⟩
        · exact j73 (Or.inr (Or.inl rfl)) tk h
        · exact j73 (Or.inr (Or.inr rfl)) tk h
    rcases br_el h with ⟨q, h⟩ | ⟨q, h⟩
    · exact j43 (Or.inl q) h
    · rcases br_el h with ⟨q2, h⟩ | ⟨q2, h⟩
      · exact j43 (Or.inr (Or.inl q2)) h
      · rcases br_el h with ⟨q3, h⟩ | ⟨q3, h⟩
        · exact j43 (Or.inr (Or.inr q3)) h
        · unfold wp_Mo_bad at h
          exact ⟨_, _, h, Or.inl (by decide)⟩
set_option maxHeartbeats 2000000 in
theorem fy_factor_F {rf : T_Mo → (Int32 → T_Mo → Prop) → Prop} (hrf : FEx rf 0 6 sl4) : FEx (wp_Mo_factor_F rf) 0 6 sl4 := by
  intro m hi s e post p h
  unfold wp_Mo_factor_F at h
  rcases br_el h with ⟨t, h⟩ | ⟨t, h⟩
  · exact fy_number p t h
  · have j39 : (m.1.1.1.2.2.2 = 40 ∨ m.1.1.1.2.2.2 = 45) → wp_Mo_factor_J39 rf post m m.1.1.2.2.1 → ∃ r u, post r u ∧ (r < 0 ∨ EO m u hi s e r 0 6 sl4) := by
      intro tk h
      have tl : m.1.1.2.1.2.toNatClampNeg - m.1.1.2.1.1.toNatClampNeg = 1 := by
        rcases tk with tk | tk
        · exact tw_sg p.2.2.1 tk (by decide) (by decide)
        · exact tw_sg p.2.2.1 tk (by decide) (by decide)
      unfold wp_Mo_factor_J39 at h
      rcases br_el h with ⟨q, h⟩ | ⟨q, h⟩
      · -- a minus
        unfold wp_Mo_factor_J53 wp_Mo_factor_J102 wp_Mo_factor_J120 wp_Mo_factor_J122 wp_Mo_bad at h
        rcases br_el h with ⟨o, h⟩ | ⟨o, h⟩
        · exact ⟨_, _, h, Or.inl (by decide)⟩
        · obtain ⟨r1, u1, h, k⟩ := PQ_go (m := (((((m.1.1.1.1.1, m.1.1.1.1.2), (m.1.1.1.2.1, (m.1.1.1.2.2.1, m.1.1.1.2.2.2))), ((m.1.1.2.1.1, m.1.1.2.1.2), (m.1.1.2.2.1, (m.1.1.2.2.2.1, m.1.1.2.2.2.2)))), (((m.1.2.1.1.1, (m.1.2.1.1.2 + (1 : Int32))), (m.1.2.1.2.1, (m.1.2.1.2.2.1, m.1.2.1.2.2.2))), ((m.1.2.2.1.1, (m.1.2.2.1.2.1, m.1.2.2.1.2.2)), (m.1.2.2.2.1, (m.1.2.2.2.2.1, m.1.2.2.2.2.2))))), ((((m.2.1.1.1.1, m.2.1.1.1.2), (m.2.1.1.2.1, (m.2.1.1.2.2.1, m.2.1.1.2.2.2))), ((m.2.1.2.1.1, m.2.1.2.1.2), (m.2.1.2.2.1, (m.2.1.2.2.2.1, m.2.1.2.2.2.2)))), (((m.2.2.1.1.1, m.2.2.1.1.2), (m.2.2.1.2.1, (m.2.2.1.2.2.1, m.2.2.1.2.2.2))), ((m.2.2.2.1.1, (m.2.2.2.1.2.1, m.2.2.2.1.2.2)), (m.2.2.2.2.1, (m.2.2.2.2.2.1, m.2.2.2.2.2.2))))))) (hi := hi) (s := s) (e := e) p h
          rcases k with k | ⟨k, p1, f1⟩
          · exact ⟨_, _, h.1 k, Or.inl (by decide)⟩
          · have p1' : PQ u1 hi (s + 2 * 1) e := by rw [← tl]; exact p1
            have f1' : FY m u1 hi := f1
            obtain ⟨r2, u2, h, k⟩ := hrf _ _ _ _ _ p1' ((h.2 (by rw [k]; decide)).2 (by decide))
            rcases k with k | eo
            · exact ⟨_, _, h.1 k, Or.inl (by decide)⟩
            · replace h := ((h.2 (EO_nn eo).1).2 (by decide)).2 (by decide)
              obtain ⟨k1, e1, l1, k9, w1, w2, p2, f2⟩ := eo
              rw [e1] at h
              obtain ⟨u3, h, p3, f3, e3, n3⟩ := PQ_push (m := (((((u2.1.1.1.1.1, u2.1.1.1.1.2), (u2.1.1.1.2.1, (u2.1.1.1.2.2.1, u2.1.1.1.2.2.2))), ((u2.1.1.2.1.1, u2.1.1.2.1.2), (u2.1.1.2.2.1, (u2.1.1.2.2.2.1, u2.1.1.2.2.2.2)))), (((u2.1.2.1.1.1, (u2.1.2.1.1.2 - (1 : Int32))), (u2.1.2.1.2.1, (u2.1.2.1.2.2.1, u2.1.2.1.2.2.2))), ((u2.1.2.2.1.1, (u2.1.2.2.1.2.1, u2.1.2.2.1.2.2)), (u2.1.2.2.2.1, (u2.1.2.2.2.2.1, u2.1.2.2.2.2.2))))), ((((u2.2.1.1.1.1, u2.2.1.1.1.2), (u2.2.1.1.2.1, (u2.2.1.1.2.2.1, u2.2.1.1.2.2.2))), ((u2.2.1.2.1.1, u2.2.1.2.1.2), (u2.2.1.2.2.1, (u2.2.1.2.2.2.1, u2.2.1.2.2.2.2)))), (((u2.2.2.1.1.1, u2.2.2.1.1.2), (u2.2.2.1.2.1, (u2.2.2.1.2.2.1, u2.2.2.1.2.2.2))), ((u2.2.2.2.1.1, (u2.2.2.2.1.2.1, u2.2.2.2.1.2.2)), (u2.2.2.2.2.1, (u2.2.2.2.2.2.1, u2.2.2.2.2.2.2))))))) (hi := hi) (s := s + 2 * 1 + sl4 (u2.1.2.1.2.2.2 (Bs u1.1.2.1.2.1 + k1))) (e := e) p2 h
              obtain ⟨y1, x1', -, qb⟩ := dt_Mo_unitIn h
              replace h := qb _ h
              have f3' : FY u2 u3 hi := f3
              have eh : u2.2.2.1.2.2.2 = Int32.ofNat hi := by
                obtain ⟨-, -, -, n, km, tp, c, PS, a1, a2, a3, a4, -⟩ := p2
                exact a4
              rw [eh] at h
              have ew : u3.1.2.1.2.2.2 (Bs u3.1.2.1.2.1 + k1) = u2.1.2.1.2.2.2 (Bs u1.1.2.1.2.1 + k1) := by
                have := FY_w f3' l1
                rw [f3'.1, this, f2.1]
              have b := bc1_6 (v := u2.1.2.1.2.2.2 (Bs u1.1.2.1.2.1 + k1))
              obtain ⟨r4, u4, h, k⟩ := PQ_node (l := [k1]) (mark := hi) (d := 2 + bc1 6 (u2.1.2.1.2.2.2 (Bs u1.1.2.1.2.1 + k1))) p3 ⟨e3, trivial⟩ (fun k hk => by rw [List.mem_singleton.mp hk]; exact Nat.lt_of_lt_of_le l1 f3'.2.1) (fun c _ _ => Or.inr (Or.inr (Or.inl ⟨rfl, _, rfl, by show 2 + bc1 6 (u3.1.2.1.2.2.2 (Bs u3.1.2.1.2.1 + k1)) ≤ _; rw [ew]; exact Nat.le_refl _⟩))) (by omega) h
              rcases k with k | ⟨n, c1, c2, c3, c4, c5, c6, c7⟩
              · exact ⟨_, _, h, Or.inl (by rw [k]; decide)⟩
              · refine ⟨_, _, h, Or.inr ?_⟩
                rw [c1]
                exact EO_pre (FY_trans f1' (FY_trans f2 f3')) (EO_new (w := 6) c2 c3 c4 c5 c6 c7 (by decide) (by decide) (by show s + 0 ≤ _; omega))
      · -- brackets
        unfold wp_Mo_factor_J53 wp_Mo_factor_J102 wp_Mo_factor_J120 wp_Mo_factor_J122 wp_Mo_bad at h
        rcases br_el h with ⟨o, h⟩ | ⟨o, h⟩
        · exact ⟨_, _, h, Or.inl (by decide)⟩
        · obtain ⟨r1, u1, h, k⟩ := PQ_go (m := (((((m.1.1.1.1.1, m.1.1.1.1.2), (m.1.1.1.2.1, (m.1.1.1.2.2.1, m.1.1.1.2.2.2))), ((m.1.1.2.1.1, m.1.1.2.1.2), (m.1.1.2.2.1, (m.1.1.2.2.2.1, m.1.1.2.2.2.2)))), (((m.1.2.1.1.1, (m.1.2.1.1.2 + (1 : Int32))), (m.1.2.1.2.1, (m.1.2.1.2.2.1, m.1.2.1.2.2.2))), ((m.1.2.2.1.1, (m.1.2.2.1.2.1, m.1.2.2.1.2.2)), (m.1.2.2.2.1, (m.1.2.2.2.2.1, m.1.2.2.2.2.2))))), ((((m.2.1.1.1.1, m.2.1.1.1.2), (m.2.1.1.2.1, (m.2.1.1.2.2.1, m.2.1.1.2.2.2))), ((m.2.1.2.1.1, m.2.1.2.1.2), (m.2.1.2.2.1, (m.2.1.2.2.2.1, m.2.1.2.2.2.2)))), (((m.2.2.1.1.1, m.2.2.1.1.2), (m.2.2.1.2.1, (m.2.2.1.2.2.1, m.2.2.1.2.2.2))), ((m.2.2.2.1.1, (m.2.2.2.1.2.1, m.2.2.2.1.2.2)), (m.2.2.2.2.1, (m.2.2.2.2.2.1, m.2.2.2.2.2.2))))))) (hi := hi) (s := s) (e := e) p h
          rcases k with k | ⟨k, p1, f1⟩
          · exact ⟨_, _, h.1 k, Or.inl (by decide)⟩
          · have p1' : PQ u1 hi (s + 2 * 1) e := by rw [← tl]; exact p1
            have f1' : FY m u1 hi := f1
            obtain ⟨r2, u2, h, k⟩ := fy_sum hrf _ _ _ _ _ p1' ((h.2 (by rw [k]; decide)).1 rfl)
            rcases k with k | eo
            · exact ⟨_, _, h.1 k, Or.inl (by decide)⟩
            · replace h := (h.2 (EO_nn eo).1).1 rfl
              have p2 := eo.choose_spec.2.2.2.2.2.1
              obtain ⟨r3, u3, h, k⟩ := PQ_over p2 h
              rcases k with k | ⟨k, t3, p3, f3⟩
              · exact ⟨_, _, h.1 k, Or.inl (by decide)⟩
              · replace h := (h.2 (by rw [k]; decide)).1 rfl
                rw [tw_sg p2.2.2.1 t3 (by decide) (by decide)] at p3
                refine ⟨_, _, h, Or.inr ?_⟩
                have fin := EO_to (s' := s) (sl' := sl4) eo f3 p3 (fun v => by have := sl4_4 (v := v); show s + _ ≤ s + 2 * 1 + 0 + 2 * 1; omega)
                exact EO_pre f1' fin
    rcases br_el h with ⟨t1, h⟩ | ⟨t1, h⟩
    · exact j39 (Or.inl t1) h
    · rcases br_el h with ⟨t2, h⟩ | ⟨t2, h⟩
      · exact j39 (Or.inr t2) h
      · -- a name
        obtain ⟨r1, x1, -, q1⟩ := dt_Mo_isWord h
        replace h := q1 _ h
        unfold wp_Mo_factor_J181 wp_Mo_factor_J207 wp_Mo_factor_J253 wp_Mo_bad at h
        rcases br_el h with ⟨b, h⟩ | ⟨b, h⟩
        · exact ⟨_, _, h.1 (by decide), Or.inl (by decide)⟩
        · have p0 := p
          obtain ⟨h1, lq, h3, n, km, tp, c, PS, a1, a2, a3, a4, a5, a6, a7, a8, a9, a10, a11⟩ := p
          rcases nm_len h1 a7 a8 h with h | ⟨j, hj, h, el⟩
          · exact ⟨_, _, h.1 (by decide), Or.inl (by decide)⟩
          · replace h := (h.2 (on_n1 (by omega)).2.1).2
            rcases br_el h with ⟨b1, h⟩ | ⟨b1, h⟩
            · exact ⟨_, _, h, Or.inl (by decide)⟩
            · obtain ⟨r2, u2, h, k⟩ := PQ_go p0 h.2
              rcases k with k | ⟨k, p2, f2⟩
              · exact ⟨_, _, h.1 k, Or.inl (by decide)⟩
              · replace h := h.2 (by rw [k]; decide)
                have eh : u2.2.2.1.2.2.2 = Int32.ofNat hi := by
                  obtain ⟨-, -, -, n, km, tp, c, PS, a1, a2, a3, a4, -⟩ := p2
                  exact a4
                rw [eh] at h
                have lx := LQ_ix lq
                have len : (m.2.1.2.1.1 (Ns m.1.2.1.2.1 + j)).toNatClampNeg = m.1.1.2.1.2.toNatClampNeg - m.1.1.2.1.1.toNatClampNeg := by rw [el, lx.1, ix_on (by omega)]
                have l1 := a9 j hj
                have jv : (Int32.ofNat j).toInt64.toInt = (j : Int) := by rw [Int32.toInt_toInt64, on_toInt (by omega)]
                obtain ⟨r4, u4, h, k⟩ := PQ_node (l := []) (mark := hi) (d := (m.2.1.2.1.1 (Ns m.1.2.1.2.1 + j)).toNatClampNeg + 1) p2 trivial (fun k hk => absurd hk List.not_mem_nil) (fun c' c9' ec' => Or.inr (Or.inl ⟨rfl, rfl, j, by
                  have : c = c' := on_inj (by omega) (by omega) (a7.symm.trans (f2.2.2.2.2.1.symm.trans ec'))
                  omega, jv, by
                  show (u2.2.1.2.1.1 (Ns u2.1.2.1.2.1 + j)).toNatClampNeg + 1 ≤ _
                  rw [f2.2.2.2.2.2.1, f2.1]; exact Nat.le_refl _⟩)) (by omega) h
                rcases k with k | ⟨n, c1, c2, c3, c4, c5, c6, c7⟩
                · exact ⟨_, _, h, Or.inl (by rw [k]; decide)⟩
                · refine ⟨_, _, h, Or.inr ?_⟩
                  rw [c1]
                  exact EO_pre f2 (EO_new (w := 1) c2 c3 c4 c5 c6 c7 (by decide) (by decide) (by show s + 0 ≤ _; omega))
theorem fy_factor : ∀ d : Nat, FEx (wp_Mo_factor d) 0 6 sl4
  | 0 => fun m hi s e post p h => False.elim h
  | d + 1 => fy_factor_F (fy_factor d)

