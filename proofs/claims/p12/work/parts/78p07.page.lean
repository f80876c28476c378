theorem sl4_4 {v : Int32} : sl4 v ≤ 4 := by unfold sl4; split <;> omega
theorem FY_w {m u : T_Mo} {hi k : Nat} (f : FY m u hi) (hk : k < m.1.2.1.2.2.1.toNatClampNeg) : u.1.2.1.2.2.2 (Bs m.1.2.1.2.1 + k) = m.1.2.1.2.2.2 (Bs m.1.2.1.2.1 + k) := f.2.2.1 k hk
theorem EO_to {m u u' : T_Mo} {hi s e s' s2 : Nat} {r lo up : Int32} {sl sl' : Int32 → Nat} (h : EO m u hi s e r lo up sl) (f : FY u u' hi) (p : PQ u' hi s2 (e + 1)) (b : ∀ v : Int32, s' + sl' v ≤ s2) : EO m u' hi s' e r lo up sl' := by
  obtain ⟨k, h1, h2, h3, h4, h5, h6, h7⟩ := h
  have ew : u'.1.2.1.2.2.2 (Bs m.1.2.1.2.1 + k) = u.1.2.1.2.2.2 (Bs m.1.2.1.2.1 + k) := by
    have := FY_w f h2
    rw [h7.1] at this; exact this
  exact ⟨k, h1, Nat.lt_of_lt_of_le h2 f.2.1, h3, by rw [ew]; exact h4, by rw [ew]; exact h5, PQ_le p (b _) (Nat.le_refl _), FY_trans h7 f⟩
theorem EO_nn {m u : T_Mo} {hi s e : Nat} {r lo up : Int32} {sl : Int32 → Nat} (h : EO m u hi s e r lo up sl) : ¬ r < 0 ∧ 0 ≤ r := by
  obtain ⟨k, h1, h2, h3, -⟩ := h
  rw [h1]
  exact ⟨(on_n1 (by omega)).2.1, (on_n1 (by omega)).2.2⟩
set_option maxHeartbeats 1000000 in
theorem PQ_two {m : T_Mo} {hi s e k1 k2 d : Nat} {w un : Int32} {P : Int32 → T_Mo → Prop} (p : PQ m hi s (e + 2)) (l1 : k1 < m.1.2.1.2.2.1.toNatClampNeg) (l2 : k2 < m.1.2.1.2.2.1.toNatClampNeg) (hw : w = 2 ∨ w = 3 ∨ w = 4 ∨ w = 5 ∨ w = 7 ∨ w = 8 ∨ w = 9) (ed : 2 + bc1 w (m.1.2.1.2.2.2 (Bs m.1.2.1.2.1 + k1)) + bc2 w (m.1.2.1.2.2.2 (Bs m.1.2.1.2.1 + k2)) ≤ d) (ds : d ≤ s + 4) (h : wp_Mo_two m w (Int32.ofNat k1) (Int32.ofNat k2) un P) : ∃ r u, P r u ∧ (r = -1 ∨ ∃ n : Nat, r = Int32.ofNat n ∧ m.1.2.1.2.2.1 = Int32.ofNat n ∧ u.1.2.1.2.2.1 = Int32.ofNat (n + 1) ∧ n < 1000 ∧ PQ u hi (s + 4 - d) (e + 1) ∧ FY m u hi ∧ u.1.2.1.2.2.2 (Bs m.1.2.1.2.1 + n) = w) := by
  have eh : m.2.2.1.2.2.2 = Int32.ofNat hi := by
    obtain ⟨-, -, -, n, km, tp, c, PS, a1, a2, a3, a4, -⟩ := p
    exact a4
  unfold wp_Mo_two at h
  rw [eh] at h
  obtain ⟨u1, h, p1, f1, e1, n1⟩ := PQ_push p h
  obtain ⟨u2, h, p2, f2, e2, n2⟩ := PQ_push p1 h
  unfold wp_Mo_base at h
  replace h := h.2
  have f12 : FY m u2 hi := FY_trans f1 (FY_le f2 (by omega))
  have eh2 : u2.1.2.1.2.1 = m.1.2.1.2.1 := f12.1
  have en2 : u2.1.2.1.2.2.1 = m.1.2.1.2.2.1 := n2.trans n1
  have ep : u2.2.2.1.2.2.1 hi = Int32.ofNat k1 := (f2.2.2.2.1 hi (by omega)).trans e1
  obtain ⟨r, u, h, k⟩ := PQ_node (l := [k1, k2]) (mark := hi) (d := d) p2 ⟨ep, e2, trivial⟩ (fun k hk => by
    rw [en2]
    rcases List.mem_cons.mp hk with z | z
    · rw [z]; exact l1
    · rw [List.mem_singleton.mp z]; exact l2) (fun c _ _ => Or.inr (Or.inr (Or.inr (Or.inl ⟨hw, _, _, rfl, by
      show 2 + bc1 w (u2.1.2.1.2.2.2 (Bs u2.1.2.1.2.1 + k1)) + bc2 w (u2.1.2.1.2.2.2 (Bs u2.1.2.1.2.1 + k2)) ≤ d
      rw [eh2, FY_w f12 l1, FY_w f12 l2]; exact ed⟩)))) ds h
  refine ⟨r, u, h, k.imp id (fun ⟨n, k1, k2, k3, k4, k5, k6, k7⟩ => ⟨n, k1, en2 ▸ k2, k3, k4, k5, FY_trans f12 k6, ?_⟩)⟩
  rw [eh2] at k7; exact k7
set_option maxHeartbeats 2000000 in
theorem fy_product_L {rf : T_Mo → (Int32 → T_Mo → Prop) → Prop} (hrf : FEx rf 0 6 sl4) {g : T_Mo} {hi s e : Nat} {K : T_Mo → Int32 → Prop} {post : Int32 → T_Mo → Prop} : ∀ (f : Nat) (z : T_Mo) (x1 : Int32), wp_Mo_product_L5 rf K post f z x1 → (x1 < 0 ∨ EO g z hi s e x1 0 6 sl2) → (∃ z' x', K z' x' ∧ (x' < 0 ∨ EO g z' hi s e x' 0 6 sl2)) ∨ (∃ u, post (-1) u) := by
  intro f
  induction f with
  | zero => intro z x1 h; exact False.elim h
  | succ f ih =>
    intro z x1 h iv
    rw [wp_Mo_product_L5] at h
    rcases br_el h with ⟨q, h⟩ | ⟨q, h⟩
    · exact Or.inl ⟨_, _, h, iv⟩
    · have eo := iv.resolve_left q
      obtain ⟨k1, e1, l1, k9, w1, w2, p, fy⟩ := eo
      have core : ∀ {FAIL : T_Mo → Prop} {BODY : Int32 → T_Mo → Prop}, (z.1.1.1.2.2.2 = 42 ∨ z.1.1.1.2.2.2 = 47) → wp_Mo_go z (fun (r2 : Int32) (u2 : T_Mo) => (r2 = 0 → FAIL u2) ∧ (¬ r2 = 0 → rf u2 (fun (r7 : Int32) (u7 : T_Mo) => BODY r7 u7))) → (∃ u, FAIL u) ∨ ∃ r u, BODY r u ∧ (r < 0 ∨ (0 ≤ r ∧ ∀ {w un : Int32}, (w = 4 ∨ w = 5) → wp_Mo_two u w x1 r un (fun (r16 : Int32) (u16 : T_Mo) => wp_Mo_product_L5 rf K post f u16 r16) → (∃ z' x', K z' x' ∧ (x' < 0 ∨ EO g z' hi s e x' 0 6 sl2)) ∨ (∃ u, post (-1) u))) := by
        intro FAIL BODY tk h
        obtain ⟨r1, u1, h, k⟩ := PQ_go p h
        rcases k with k | ⟨k, p1, f1⟩
        · exact Or.inl ⟨_, h.1 k⟩
        · replace h := h.2 (by rw [k]; decide)
          have tl : z.1.1.2.1.2.toNatClampNeg - z.1.1.2.1.1.toNatClampNeg = 1 := by
            rcases tk with tk | tk
            · exact tw_sg p.2.2.1 tk (by decide) (by decide)
            · exact tw_sg p.2.2.1 tk (by decide) (by decide)
          rw [tl] at p1
          obtain ⟨r, u, h, k⟩ := hrf _ _ _ _ _ p1 h
          refine Or.inr ⟨r, u, h, k.imp id (fun eo => ⟨(EO_nn eo).2, fun {w un} hw h => ?_⟩)⟩
          obtain ⟨k2, e2, l2, k29, v1, v2, p2, f2⟩ := eo
          have fz : FY z u hi := FY_trans f1 f2
          have l1' : k1 < u.1.2.1.2.2.1.toNatClampNeg := Nat.lt_of_lt_of_le l1 fz.2.1
          have eg : z.1.2.1.2.1 = g.1.2.1.2.1 := fy.1
          have eu : u.1.2.1.2.1 = g.1.2.1.2.1 := fz.1.trans eg
          have e1h : u1.1.2.1.2.1 = g.1.2.1.2.1 := f1.1.trans eg
          have ew : u.1.2.1.2.2.2 (Bs g.1.2.1.2.1 + k1) = z.1.2.1.2.2.2 (Bs g.1.2.1.2.1 + k1) := by
            have := FY_w fz l1
            rw [eg] at this; exact this
          rw [e1h] at p2
          have b1 := bc1_p (v := u.1.2.1.2.2.2 (Bs u.1.2.1.2.1 + k1)) hw
          have b2 := bc2_p (w := w) (v := u.1.2.1.2.2.2 (Bs u.1.2.1.2.1 + k2))
          rw [eu] at b1 b2
          rw [ew] at b1
          rw [e1, e2] at h
          obtain ⟨r', u', h, k⟩ := PQ_two (d := 2 + bc1 w (u.1.2.1.2.2.2 (Bs u.1.2.1.2.1 + k1)) + bc2 w (u.1.2.1.2.2.2 (Bs u.1.2.1.2.1 + k2))) p2 l1' l2 (by rcases hw with z | z <;> rw [z] <;> decide) (Nat.le_refl _) (by rw [eu, ew]; omega) h
          refine ih _ _ h ?_
          rcases k with k | ⟨n, c1, c2, c3, c4, c5, c6, c7⟩
          · exact Or.inl (by rw [k]; decide)
          · refine Or.inr ?_
            rw [c1]
            refine EO_pre (FY_trans fy fz) (EO_new (w := w) c2 c3 c4 c5 c6 c7 (by rcases hw with z | z <;> rw [z] <;> decide) (by rcases hw with z | z <;> rw [z] <;> decide) ?_)
            have sw : sl2 w = 0 := by rcases hw with z | z <;> rw [z] <;> rfl
            rw [sw, eu, ew]; omega
      have leaf : ∀ {FAIL : T_Mo → Prop} {BODY : Int32 → T_Mo → Prop}, (z.1.1.1.2.2.2 = 42 ∨ z.1.1.1.2.2.2 = 47) → wp_Mo_go z (fun (r2 : Int32) (u2 : T_Mo) => (r2 = 0 → FAIL u2) ∧ (¬ r2 = 0 → rf u2 (fun (r7 : Int32) (u7 : T_Mo) => BODY r7 u7))) → (∀ u, FAIL u → ∃ u, post (-1) u) → (∀ r u, BODY r u → (r < 0 → ∃ u, post (-1) u) ∧ (0 ≤ r → (∃ u, post (-1) u) ∨ ∃ w un, (w = 4 ∨ w = 5) ∧ wp_Mo_two u w x1 r un (fun (r16 : Int32) (u16 : T_Mo) => wp_Mo_product_L5 rf K post f u16 r16))) → (∃ z' x', K z' x' ∧ (x' < 0 ∨ EO g z' hi s e x' 0 6 sl2)) ∨ (∃ u, post (-1) u) := by
        intro FAIL BODY tk h hf hb
        rcases core tk h with ⟨u, h⟩ | ⟨r, u, h, k⟩
        · exact Or.inr (hf u h)
        · obtain ⟨b1, b2⟩ := hb r u h
          rcases k with k | ⟨k0, k⟩
          · exact Or.inr (b1 k)
          · rcases b2 k0 with w | ⟨w, un, hw, h⟩
            · exact Or.inr w
            · exact k hw h
      have ff : ∀ {A B : Prop}, (0 ≤ (-1 : Int32) → A) ∧ (¬ 0 ≤ (-1 : Int32) → B) → B := fun h => h.2 (by decide)
      have nz : ∀ {r : Int32}, r < 0 → ¬ 0 ≤ r := fun h => Int32.not_le.mpr h
      have go : (z.1.1.1.2.2.2 = 42 ∨ z.1.1.1.2.2.2 = 47) → (∃ (FAIL : T_Mo → Prop) (BODY : Int32 → T_Mo → Prop), wp_Mo_go z (fun (r2 : Int32) (u2 : T_Mo) => (r2 = 0 → FAIL u2) ∧ (¬ r2 = 0 → rf u2 (fun (r7 : Int32) (u7 : T_Mo) => BODY r7 u7))) ∧ (∀ u, FAIL u → ∃ u, post (-1) u) ∧ (∀ r u, BODY r u → (r < 0 → ∃ u, post (-1) u) ∧ (0 ≤ r → (∃ u, post (-1) u) ∨ ∃ w un, (w = 4 ∨ w = 5) ∧ wp_Mo_two u w x1 r un (fun (r16 : Int32) (u16 : T_Mo) => wp_Mo_product_L5 rf K post f u16 r16)))) → (∃ z' x', K z' x' ∧ (x' < 0 ∨ EO g z' hi s e x' 0 6 sl2)) ∨ (∃ u, post (-1) u) := fun tk ⟨_, _, h, hf, hb⟩ => leaf tk h hf hb
      rcases br_el h with ⟨t, h⟩ | ⟨t, h⟩
      · refine go (Or.inl t) ?_
        replace h := h.1 t
        refine ⟨_, _, h, fun u w => ⟨_, ff w⟩, fun r u w => ⟨fun r0 => ⟨_, w.2 (nz r0)⟩, fun r0 => ?_⟩⟩
        replace w := w.1 r0
        obtain ⟨y1, x1', -, qb⟩ := dt_Mo_unitIn w
        replace w := qb _ w
        obtain ⟨y2, x2', -, qb2⟩ := dt_Mo_unitIn w
        replace w := qb2 _ w
        clear qb qb2
        replace w := w.1 rfl
        rcases br_el w with ⟨c1, w⟩ | ⟨c1, w⟩
        · rcases br_el w with ⟨c2, w⟩ | ⟨c2, w⟩
          · exact Or.inl ⟨_, w⟩
          · exact Or.inr ⟨_, _, Or.inl rfl, w⟩
        · rcases br_el w with ⟨c2, w⟩ | ⟨c2, w⟩
          · rcases br_el w with ⟨c3, w⟩ | ⟨c3, w⟩
            · exact Or.inl ⟨_, w⟩
            · exact Or.inr ⟨_, _, Or.inl rfl, w⟩
          · exact Or.inl ⟨_, w.1 rfl⟩
      · rcases br_el h with ⟨t2, h⟩ | ⟨t2, h⟩
        · refine go (Or.inr t2) ?_
          replace h := h.2 t
          refine ⟨_, _, h, fun u w => ⟨_, ff w⟩, fun r u w => ⟨fun r0 => ⟨_, w.2 (nz r0)⟩, fun r0 => ?_⟩⟩
          replace w := w.1 r0
          obtain ⟨y1, x1', -, qb⟩ := dt_Mo_unitIn w
          replace w := qb _ w
          obtain ⟨y2, x2', -, qb2⟩ := dt_Mo_unitIn w
          replace w := qb2 _ w
          clear qb qb2
          replace w := w.2 (by decide)
          rcases br_el w with ⟨c1, w⟩ | ⟨c1, w⟩
          · rcases br_el w with ⟨c2, w⟩ | ⟨c2, w⟩
            · exact Or.inl ⟨_, w⟩
            · exact Or.inr ⟨_, _, Or.inr rfl, w⟩
          · rcases br_el w with ⟨c2, w⟩ | ⟨c2, w⟩
            · exact Or.inr ⟨_, _, Or.inr rfl, w.2 (by decide)⟩
            · exact Or.inl ⟨_, w.1 rfl⟩
        · exact Or.inl ⟨_, _, h, iv⟩
theorem fy_product {rf : T_Mo → (Int32 → T_Mo → Prop) → Prop} (hrf : FEx rf 0 6 sl4) : FEx (wp_Mo_product rf) 0 6 sl2 := by
  intro m hi s e post p h
  unfold wp_Mo_product wp_Mo_product_J166 at h
  obtain ⟨r, u, ⟨f, h⟩, k⟩ := hrf _ _ _ _ _ p h
  have k' : r < 0 ∨ EO m u hi s e r 0 6 sl2 := k.imp id (fun eo => by
    obtain ⟨k, e1, l1, k9, w1, w2, p, fy⟩ := eo
    refine ⟨k, e1, l1, k9, w1, w2, PQ_le p ?_ (Nat.le_refl _), fy⟩
    generalize u.1.2.1.2.2.2 (Bs m.1.2.1.2.1 + k) = v
    have : sl2 v ≤ sl4 v := by
      unfold sl2 sl4
      split
      · rename_i h
        rw [if_pos (by rcases h with h | h <;> simp [h])]; exact Nat.le_refl _
      · exact Nat.zero_le _
    omega)
  rcases fy_product_L hrf f _ _ h k' with ⟨z, x, h, k⟩ | ⟨u, h⟩
  · exact ⟨x, z, h, k⟩
  · exact ⟨_, u, h, Or.inl (by decide)⟩

