theorem BK_cg {w v : Int32} {f g : Prop} (h : f ↔ g) : BK w v f ↔ BK w v g := by rw [propext h]
theorem BK_no {w v : Int32} {f : Prop} (h : ¬ v = 2 ∧ ¬ v = 3 ∧ ¬ v = 4 ∧ ¬ v = 5) : ¬ BK w v f := fun z => by
  rcases z with ⟨z | z, -⟩ | ⟨z | z, -⟩
  · exact h.1 z
  · exact h.2.1 z
  · exact h.2.2.1 z
  · exact h.2.2.2 z
theorem BK_out {w v : Int32} {f : Prop} (h : ¬ w = 2 ∧ ¬ w = 3 ∧ ¬ w = 4 ∧ ¬ w = 5 ∧ ¬ w = 6) : ¬ BK w v f := fun z => by
  rcases z with ⟨-, z | z | z | ⟨z | z, -⟩⟩ | ⟨-, z | ⟨z | z, -⟩⟩
  · exact h.2.2.1 z
  · exact h.2.2.2.1 z
  · exact h.2.2.2.2 z
  · exact h.1 z
  · exact h.2.1 z
  · exact h.2.2.2.2 z
  · exact h.2.2.1 z
  · exact h.2.2.2.1 z
theorem map0 {l : List Nat} {g : Nat → Int32} (h : l.map g = []) : l = [] := List.map_eq_nil_iff.mp h
theorem map1 {l : List Nat} {g : Nat → Int32} {v : Int32} (h : l.map g = [v]) : ∃ k, l = [k] ∧ g k = v := by
  match l, h with
  | [x], h => exact ⟨x, rfl, List.cons.inj h |>.1⟩
theorem map2 {l : List Nat} {g : Nat → Int32} {v1 v2 : Int32} (h : l.map g = [v1, v2]) : ∃ k1 k2, l = [k1, k2] ∧ g k1 = v1 ∧ g k2 = v2 := by
  match l, h with
  | [x, y], h => exact ⟨x, y, rfl, (List.cons.inj h).1, (List.cons.inj (List.cons.inj h).2).1⟩
theorem map3 {l : List Nat} {g : Nat → Int32} {v1 v2 v3 : Int32} (h : l.map g = [v1, v2, v3]) : ∃ k1 k2 k3, l = [k1, k2, k3] ∧ g k1 = v1 ∧ g k2 = v2 ∧ g k3 = v3 := by
  match l, h with
  | [x, y, z], h => exact ⟨x, y, z, rfl, (List.cons.inj h).1, (List.cons.inj (List.cons.inj h).2).1, (List.cons.inj (List.cons.inj (List.cons.inj h).2).2).1⟩
theorem WB_c40 : WB (40 : Int64) [(40 : Int32)] := ⟨by decide, by decide, (by decide : lg_cmp _ (0 : Int64) = 0)⟩
theorem WB_c41 : WB (41 : Int64) [(41 : Int32)] := ⟨by decide, by decide, (by decide : lg_cmp _ (0 : Int64) = 0)⟩
theorem WB_c42 : WB (42 : Int64) [(42 : Int32)] := ⟨by decide, by decide, (by decide : lg_cmp _ (0 : Int64) = 0)⟩
theorem WB_c43 : WB (43 : Int64) [(43 : Int32)] := ⟨by decide, by decide, (by decide : lg_cmp _ (0 : Int64) = 0)⟩
theorem WB_c45 : WB (45 : Int64) [(45 : Int32)] := ⟨by decide, by decide, (by decide : lg_cmp _ (0 : Int64) = 0)⟩
theorem WB_c47 : WB (47 : Int64) [(47 : Int32)] := ⟨by decide, by decide, (by decide : lg_cmp _ (0 : Int64) = 0)⟩
theorem WB_c59 : WB (59 : Int64) [(59 : Int32)] := ⟨by decide, by decide, (by decide : lg_cmp _ (0 : Int64) = 0)⟩
theorem WB_c60 : WB (60 : Int64) [(60 : Int32)] := ⟨by decide, by decide, (by decide : lg_cmp _ (0 : Int64) = 0)⟩
theorem WB_c61 : WB (61 : Int64) [(61 : Int32)] := ⟨by decide, by decide, (by decide : lg_cmp _ (0 : Int64) = 0)⟩
theorem WB_c62 : WB (62 : Int64) [(62 : Int32)] := ⟨by decide, by decide, (by decide : lg_cmp _ (0 : Int64) = 0)⟩

/-- an opening bracket, or none, of both -/
theorem br_open {nd : T_Nd} {m : T_Mo} {rf : T_Mo → Int32 → Int32 → Int32 → (Unit → T_Mo → Prop) → Prop} {i n k p X : Nat} {pg : T_Pg} {a b c w fi v : Int32} {P : Unit → T_Pg → Prop} {Q : Unit → T_Mo → Prop} (ec : nd.2.2.2.2.2.2.2.2.2.2.1 = Int32.ofNat n) (n9 : n ≤ 1000) (hk : k < n) (hp : p < n) (ep : nd.2.2.2.2.2.2.1 k = (Int32.ofNat p)) (ev : nd.1 k = v) (ib : BK w v (¬ fi = 0) ↔ BK (nd.1 p) v (nd.2.2.2.2.2.2.2.1 p = (Int32.ofNat k))) (w2 : W2 i pg a b c X) (r : BK w v (¬ fi = 0) → X + 2 ≤ 12000) (hC : wp_Pg_isBracketed pg nd (Int32.ofNat k) (fun (r12 : Int32) (_ : Unit) => (r12 = 0 → P () pg) ∧ (¬ r12 = 0 → wp_Pg_putSign pg (40 : Int32) (fun (_ : Unit) (u5 : T_Pg) => P () u5)))) (hM : (BK w v (¬ fi = 0) ∧ wp_Mo_sumOut_J74 rf Q (((((m.1.1.1.1.1, m.1.1.1.1.2), (m.1.1.1.2.1, (m.1.1.1.2.2.1, m.1.1.1.2.2.2))), ((m.1.1.2.1.1, m.1.1.2.1.2), (m.1.1.2.2.1, (m.1.1.2.2.2.1, m.1.1.2.2.2.2)))), (((m.1.2.1.1.1, m.1.2.1.1.2), (m.1.2.1.2.1, (m.1.2.1.2.2.1, m.1.2.1.2.2.2))), ((m.1.2.2.1.1, (m.1.2.2.1.2.1, m.1.2.2.1.2.2)), (m.1.2.2.2.1, (m.1.2.2.2.2.1, m.1.2.2.2.2.2))))), ((((m.2.1.1.1.1, m.2.1.1.1.2), (m.2.1.1.2.1, (m.2.1.1.2.2.1, m.2.1.1.2.2.2))), ((m.2.1.2.1.1, m.2.1.2.1.2), (m.2.1.2.2.1, (m.2.1.2.2.2.1, m.2.1.2.2.2.2)))), (((m.2.2.1.1.1, m.2.2.1.1.2), (m.2.2.1.2.1, (m.2.2.1.2.2.1, m.2.2.1.2.2.2))), ((m.2.2.2.1.1, (m.2.2.2.1.2.1, a)), (b, (c, m.2.2.2.2.2.2)))))) (Int32.ofNat k) w fi v 1) ∨ (¬ BK w v (¬ fi = 0) ∧ wp_Mo_sumOut_J74 rf Q (((((m.1.1.1.1.1, m.1.1.1.1.2), (m.1.1.1.2.1, (m.1.1.1.2.2.1, m.1.1.1.2.2.2))), ((m.1.1.2.1.1, m.1.1.2.1.2), (m.1.1.2.2.1, (m.1.1.2.2.2.1, m.1.1.2.2.2.2)))), (((m.1.2.1.1.1, m.1.2.1.1.2), (m.1.2.1.2.1, (m.1.2.1.2.2.1, m.1.2.1.2.2.2))), ((m.1.2.2.1.1, (m.1.2.2.1.2.1, m.1.2.2.1.2.2)), (m.1.2.2.2.1, (m.1.2.2.2.2.1, m.1.2.2.2.2.2))))), ((((m.2.1.1.1.1, m.2.1.1.1.2), (m.2.1.1.2.1, (m.2.1.1.2.2.1, m.2.1.1.2.2.2))), ((m.2.1.2.1.1, m.2.1.2.1.2), (m.2.1.2.2.1, (m.2.1.2.2.2.1, m.2.1.2.2.2.2)))), (((m.2.2.1.1.1, m.2.2.1.1.2), (m.2.2.1.2.1, (m.2.2.1.2.2.1, m.2.2.1.2.2.2))), ((m.2.2.2.1.1, (m.2.2.2.1.2.1, a)), (b, (c, m.2.2.2.2.2.2)))))) (Int32.ofNat k) w fi v 0)) : ∃ pg' a' b' c' y X', P () pg' ∧ wp_Mo_sumOut_J88 rf Q (((((m.1.1.1.1.1, m.1.1.1.1.2), (m.1.1.1.2.1, (m.1.1.1.2.2.1, m.1.1.1.2.2.2))), ((m.1.1.2.1.1, m.1.1.2.1.2), (m.1.1.2.2.1, (m.1.1.2.2.2.1, m.1.1.2.2.2.2)))), (((m.1.2.1.1.1, m.1.2.1.1.2), (m.1.2.1.2.1, (m.1.2.1.2.2.1, m.1.2.1.2.2.2))), ((m.1.2.2.1.1, (m.1.2.2.1.2.1, m.1.2.2.1.2.2)), (m.1.2.2.2.1, (m.1.2.2.2.2.1, m.1.2.2.2.2.2))))), ((((m.2.1.1.1.1, m.2.1.1.1.2), (m.2.1.1.2.1, (m.2.1.1.2.2.1, m.2.1.1.2.2.2))), ((m.2.1.2.1.1, m.2.1.2.1.2), (m.2.1.2.2.1, (m.2.1.2.2.2.1, m.2.1.2.2.2.2)))), (((m.2.2.1.1.1, m.2.2.1.1.2), (m.2.2.1.2.1, (m.2.2.1.2.2.1, m.2.2.1.2.2.2))), ((m.2.2.2.1.1, (m.2.2.2.1.2.1, a')), (b', (c', m.2.2.2.2.2.2)))))) (Int32.ofNat k) w fi v y ∧ W2 i pg' a' b' c' X' ∧ ((BK w v (¬ fi = 0) ∧ y = 1 ∧ X' = X + 2) ∨ (¬ BK w v (¬ fi = 0) ∧ y = 0 ∧ X' = X)) := by
  have hb := pg_brk ec n9 hk hp ep hC
  rw [ev] at hb
  rcases hM with ⟨q, hM⟩ | ⟨q, hM⟩
  · unfold wp_Mo_sumOut_J74 at hM
    replace hM := hM.2 (by decide)
    rcases hb with ⟨z, hC⟩ | ⟨z, hC⟩
    · replace hC := hC.2 (by decide)
      obtain ⟨pg', a', b', hC, hM, w'⟩ := t_sign (m := m) w2 (r q) (by decide) (by decide) (by decide) WB_c40 hC hM
      exact ⟨pg', a', b', 1, 1, _, hC, hM, A2_W w', Or.inl ⟨q, rfl, rfl⟩⟩
    · exact absurd (ib.mp q) z
  · unfold wp_Mo_sumOut_J74 at hM
    replace hM := hM.1 rfl
    rcases hb with ⟨z, hC⟩ | ⟨z, hC⟩
    · exact absurd (ib.mpr z) q
    · exact ⟨pg, a, b, c, 0, X, hC.1 rfl, hM, w2, Or.inr ⟨q, rfl, rfl⟩⟩
/-- a closing bracket, or none, of both -/
theorem br_close {kw : T_Kw} {nm : T_Nm} {nd : T_Nd} {m : T_Mo} {K : T_Pg → Int32 → Int32 → Int32 → Prop} {post : Unit → T_Pg → Prop} {top : Nat} {rf : T_Mo → Int32 → Int32 → Int32 → (Unit → T_Mo → Prop) → Prop} {i n k p s X : Nat} {pg : T_Pg} {a b c w fi v y : Int32} {Q : Unit → T_Mo → Prop} (ec : nd.2.2.2.2.2.2.2.2.2.2.1 = Int32.ofNat n) (n9 : n ≤ 1000) (hk : k < n) (hp : p < n) (ep : nd.2.2.2.2.2.2.1 k = (Int32.ofNat p)) (ev : nd.1 k = v) (v9 : v ≤ 9) (ib : BK w v (¬ fi = 0) ↔ BK (nd.1 p) v (nd.2.2.2.2.2.2.2.1 p = (Int32.ofNat k))) (w2 : A2 i pg a b c X) (r : BK w v (¬ fi = 0) → X + 2 ≤ 12000) (yy : (BK w v (¬ fi = 0) ∧ y = 1) ∨ (¬ BK w v (¬ fi = 0) ∧ y = 0)) (hC : GO kw nm nd K post top k s pg []) (hM : wp_Mo_sumOut_J261 rf Q (((((m.1.1.1.1.1, m.1.1.1.1.2), (m.1.1.1.2.1, (m.1.1.1.2.2.1, m.1.1.1.2.2.2))), ((m.1.1.2.1.1, m.1.1.2.1.2), (m.1.1.2.2.1, (m.1.1.2.2.2.1, m.1.1.2.2.2.2)))), (((m.1.2.1.1.1, m.1.2.1.1.2), (m.1.2.1.2.1, (m.1.2.1.2.2.1, m.1.2.1.2.2.2))), ((m.1.2.2.1.1, (m.1.2.2.1.2.1, m.1.2.2.1.2.2)), (m.1.2.2.2.1, (m.1.2.2.2.2.1, m.1.2.2.2.2.2))))), ((((m.2.1.1.1.1, m.2.1.1.1.2), (m.2.1.1.2.1, (m.2.1.1.2.2.1, m.2.1.1.2.2.2))), ((m.2.1.2.1.1, m.2.1.2.1.2), (m.2.1.2.2.1, (m.2.1.2.2.2.1, m.2.1.2.2.2.2)))), (((m.2.2.1.1.1, m.2.2.1.1.2), (m.2.2.1.2.1, (m.2.2.1.2.2.1, m.2.2.1.2.2.2))), ((m.2.2.2.1.1, (m.2.2.2.1.2.1, a)), (b, (c, m.2.2.2.2.2.2)))))) (Int32.ofNat k) w fi v y) : ∃ pg' a' b' c' X', AF kw nm nd K post top k s pg' ∧ Q () (((((m.1.1.1.1.1, m.1.1.1.1.2), (m.1.1.1.2.1, (m.1.1.1.2.2.1, m.1.1.1.2.2.2))), ((m.1.1.2.1.1, m.1.1.2.1.2), (m.1.1.2.2.1, (m.1.1.2.2.2.1, m.1.1.2.2.2.2)))), (((m.1.2.1.1.1, m.1.2.1.1.2), (m.1.2.1.2.1, (m.1.2.1.2.2.1, m.1.2.1.2.2.2))), ((m.1.2.2.1.1, (m.1.2.2.1.2.1, m.1.2.2.1.2.2)), (m.1.2.2.2.1, (m.1.2.2.2.2.1, m.1.2.2.2.2.2))))), ((((m.2.1.1.1.1, m.2.1.1.1.2), (m.2.1.1.2.1, (m.2.1.1.2.2.1, m.2.1.1.2.2.2))), ((m.2.1.2.1.1, m.2.1.2.1.2), (m.2.1.2.2.1, (m.2.1.2.2.2.1, m.2.1.2.2.2.2)))), (((m.2.2.1.1.1, m.2.2.1.1.2), (m.2.2.1.2.1, (m.2.2.1.2.2.1, m.2.2.1.2.2.2))), ((m.2.2.2.1.1, (m.2.2.2.1.2.1, a')), (b', (c', m.2.2.2.2.2.2)))))) ∧ A2 i pg' a' b' c' X' ∧ ((BK w v (¬ fi = 0) ∧ X' = X + 2) ∨ (¬ BK w v (¬ fi = 0) ∧ X' = X)) := by
  obtain ⟨f, f2, x2, e, he, hC⟩ := hC
  have hb := pg_brk ec n9 hk hp ep (lv_e ec n9 hk (by rw [ev]; exact v9) hC)
  rw [ev] at hb
  unfold wp_Mo_sumOut_J261 wp_Mo_sumOut_J273 at hM
  rcases yy with ⟨q, ey⟩ | ⟨q, ey⟩
  · replace hM := hM.2 (by rw [ey]; decide)
    rcases hb with ⟨z, hC⟩ | ⟨z, hC⟩
    · replace hC := hC.2 (by decide)
      obtain ⟨pg', a', b', hC, hM, w'⟩ := t_sign (m := m) (A2_W w2) (r q) (by decide) (by decide) (by decide) WB_c41 hC hM
      exact ⟨pg', a', b', 1, _, ⟨f, f2, x2, e, he, hC⟩, hM, w', Or.inl ⟨q, rfl⟩⟩
    · exact absurd (ib.mp q) z
  · replace hM := hM.1 ey
    rcases hb with ⟨z, hC⟩ | ⟨z, hC⟩
    · exact absurd (ib.mpr z) q
    · exact ⟨pg, a, b, c, X, ⟨f, f2, x2, e, he, hC.1 rfl⟩, hM, w2, Or.inr ⟨q, rfl⟩⟩
/-- the sign between two -/
theorem sg_of {rf : T_Mo → Int32 → Int32 → Int32 → (Unit → T_Mo → Prop) → Prop} {Q : Unit → T_Mo → Prop} {z : T_Mo} {x1 w fi v y : Int32} (hv : v = 2 ∨ v = 3 ∨ v = 4 ∨ v = 5 ∨ v = 7 ∨ v = 8 ∨ v = 9) (h : (v = (2 : Int32) → (wp_Mo_sumOut_J245 rf Q z x1 w fi v y (43 : Int64))) ∧ (¬ v = (2 : Int32) → ((v = (3 : Int32) → (wp_Mo_sumOut_J245 rf Q z x1 w fi v y (45 : Int64))) ∧ (¬ v = (3 : Int32) → ((v = (4 : Int32) → (wp_Mo_sumOut_J245 rf Q z x1 w fi v y (42 : Int64))) ∧ (¬ v = (4 : Int32) → ((v = (5 : Int32) → (wp_Mo_sumOut_J245 rf Q z x1 w fi v y (47 : Int64))) ∧ (¬ v = (5 : Int32) → ((v = (7 : Int32) → (wp_Mo_sumOut_J245 rf Q z x1 w fi v y (60 : Int64))) ∧ (¬ v = (7 : Int32) → ((v = (8 : Int32) → (wp_Mo_sumOut_J245 rf Q z x1 w fi v y (61 : Int64))) ∧ (¬ v = (8 : Int32) → (wp_Mo_sumOut_J245 rf Q z x1 w fi v y (62 : Int64)))))))))))))) : ∃ (s : Int32) (x : Int64), xq_ch 2 v = s ∧ WB x [s] ∧ 0 ≤ s.toInt ∧ s.toInt ≤ 127 ∧ ¬ s = 10 ∧ wp_Mo_sumOut_J245 rf Q z x1 w fi v y x := by
  rcases hv with rfl | rfl | rfl | rfl | rfl | rfl | rfl
  · exact ⟨43, 43, by decide, WB_c43, by decide, by decide, by decide, h.1 rfl⟩
  · exact ⟨45, 45, by decide, WB_c45, by decide, by decide, by decide, (h.2 (by decide)).1 rfl⟩
  · exact ⟨42, 42, by decide, WB_c42, by decide, by decide, by decide, ((h.2 (by decide)).2 (by decide)).1 rfl⟩
  · exact ⟨47, 47, by decide, WB_c47, by decide, by decide, by decide, (((h.2 (by decide)).2 (by decide)).2 (by decide)).1 rfl⟩
  · exact ⟨60, 60, by decide, WB_c60, by decide, by decide, by decide, ((((h.2 (by decide)).2 (by decide)).2 (by decide)).2 (by decide)).1 rfl⟩
  · exact ⟨61, 61, by decide, WB_c61, by decide, by decide, by decide, (((((h.2 (by decide)).2 (by decide)).2 (by decide)).2 (by decide)).2 (by decide)).1 rfl⟩
  · exact ⟨62, 62, by decide, WB_c62, by decide, by decide, by decide, (((((h.2 (by decide)).2 (by decide)).2 (by decide)).2 (by decide)).2 (by decide)).2 (by decide)⟩
theorem pb_sign {kw : T_Kw} {nd : T_Nd} {n k p : Nat} {pg : T_Pg} {v : Int32} {P : Unit → T_Pg → Prop} (ec : nd.2.2.2.2.2.2.2.2.2.2.1 = Int32.ofNat n) (n9 : n ≤ 1000) (hk : k < n) (hp : p < n) (ep : nd.2.2.2.2.2.2.1 k = (Int32.ofNat p)) (ev : nd.1 p = v) (v0 : ¬ v < 0) (v9 : ¬ 9 < v) (k23 : ¬ nd.1 k = 23) (h : wp_Pg_putBehind pg kw nd (Int32.ofNat k) P) : wp_Pg_putSign pg (xq_ch 2 v) (fun (_ : Unit) (u5 : T_Pg) => P () u5) := by
  unfold wp_Pg_putBehind at h
  replace h := na_par ec n9 hk h
  rw [ep] at h
  replace h := na_kind ec n9 hk (na_kind ec n9 hp h)
  rw [ev] at h
  exact (((h.2 k23).2 v0).2 v9).2
set_option maxHeartbeats 4000000 in
theorem sim_expr {kw : T_Kw} {nm : T_Nm} {nd : T_Nd} {m : T_Mo} {n cn : Nat} {kf : Nat → List Nat} {PS : Nat → Nat} {K : T_Pg → Int32 → Int32 → Int32 → Prop} {post : Unit → T_Pg → Prop} {top : Nat} {i : Nat} (tr : TR nm nd m kw n cn kf PS) (tn : top < n) : ∀ (k d f s X Y g p : Nat) (pg : T_Pg) (a b c w fi : Int32) (Q : Unit → T_Mo → Prop), k < top → nd.1 k ≤ 9 → p < n → nd.2.2.2.2.2.2.1 k = (Int32.ofNat p) → (BK w (nd.1 k) (¬ fi = 0) ↔ BK (nd.1 p) (nd.1 k) (nd.2.2.2.2.2.2.2.1 p = (Int32.ofNat k))) → (BK w (nd.1 k) (¬ fi = 0) → 4 ≤ g) → s + (k + 1) ≤ 1000 + (nd.2.2.2.2.1 k).toNatClampNeg → X + PS (k + 1) + g ≤ Y + PS (nd.2.2.2.2.1 k).toNatClampNeg → Y ≤ 12000 → W2 i pg a b c X → wp_Pg_layNode_L4 kw nm nd K post f pg (Int32.ofNat top) (Int32.ofNat k) (Int32.ofNat s) → wp_Mo_sumOut d (((((m.1.1.1.1.1, m.1.1.1.1.2), (m.1.1.1.2.1, (m.1.1.1.2.2.1, m.1.1.1.2.2.2))), ((m.1.1.2.1.1, m.1.1.2.1.2), (m.1.1.2.2.1, (m.1.1.2.2.2.1, m.1.1.2.2.2.2)))), (((m.1.2.1.1.1, m.1.2.1.1.2), (m.1.2.1.2.1, (m.1.2.1.2.2.1, m.1.2.1.2.2.2))), ((m.1.2.2.1.1, (m.1.2.2.1.2.1, m.1.2.2.1.2.2)), (m.1.2.2.2.1, (m.1.2.2.2.2.1, m.1.2.2.2.2.2))))), ((((m.2.1.1.1.1, m.2.1.1.1.2), (m.2.1.1.2.1, (m.2.1.1.2.2.1, m.2.1.1.2.2.2))), ((m.2.1.2.1.1, m.2.1.2.1.2), (m.2.1.2.2.1, (m.2.1.2.2.2.1, m.2.1.2.2.2.2)))), (((m.2.2.1.1.1, m.2.2.1.1.2), (m.2.2.1.2.1, (m.2.2.1.2.2.1, m.2.2.1.2.2.2))), ((m.2.2.2.1.1, (m.2.2.2.1.2.1, a)), (b, (c, m.2.2.2.2.2.2)))))) (Int32.ofNat k) w fi Q → ∃ pg' a' b' c', AF kw nm nd K post top k (s + (k + 1 - (nd.2.2.2.2.1 k).toNatClampNeg)) pg' ∧ Q () (((((m.1.1.1.1.1, m.1.1.1.1.2), (m.1.1.1.2.1, (m.1.1.1.2.2.1, m.1.1.1.2.2.2))), ((m.1.1.2.1.1, m.1.1.2.1.2), (m.1.1.2.2.1, (m.1.1.2.2.2.1, m.1.1.2.2.2.2)))), (((m.1.2.1.1.1, m.1.2.1.1.2), (m.1.2.1.2.1, (m.1.2.1.2.2.1, m.1.2.1.2.2.2))), ((m.1.2.2.1.1, (m.1.2.2.1.2.1, m.1.2.2.1.2.2)), (m.1.2.2.2.1, (m.1.2.2.2.2.1, m.1.2.2.2.2.2))))), ((((m.2.1.1.1.1, m.2.1.1.1.2), (m.2.1.1.2.1, (m.2.1.1.2.2.1, m.2.1.1.2.2.2))), ((m.2.1.2.1.1, m.2.1.2.1.2), (m.2.1.2.2.1, (m.2.1.2.2.2.1, m.2.1.2.2.2.2)))), (((m.2.2.1.1.1, m.2.2.1.1.2), (m.2.2.1.2.1, (m.2.2.1.2.2.1, m.2.2.1.2.2.2))), ((m.2.2.2.1.1, (m.2.2.2.1.2.1, a')), (b', (c', m.2.2.2.2.2.2)))))) ∧ A2 i pg' a' b' c' Y := by
  intro k
  induction k using Nat.strongRecOn with
  | ind k ih =>
  intro d f s X Y g p pg a b c w fi Q kt k9 pn ep ib hg sb bud Y9 w2 hC hM
  have tr0 := tr
  obtain ⟨hh, kz, ec, n9, em, c9, per, nam⟩ := tr
  have kn : k < n := by omega
  obtain ⟨t1, t2, t3, t4, t5, t6, t7, t8, dd, t9, sc⟩ := per k kn
  have fc := TR_fc tr0 kn
  have ll := FC_le _ _ fc
  have pm := TR_ps tr0 k ll (by omega)
  cases d with
  | zero => exact False.elim hM
  | succ d =>
  have hM' : wp_Mo_sumOut_F (wp_Mo_sumOut d) (((((m.1.1.1.1.1, m.1.1.1.1.2), (m.1.1.1.2.1, (m.1.1.1.2.2.1, m.1.1.1.2.2.2))), ((m.1.1.2.1.1, m.1.1.2.1.2), (m.1.1.2.2.1, (m.1.1.2.2.2.1, m.1.1.2.2.2.2)))), (((m.1.2.1.1.1, m.1.2.1.1.2), (m.1.2.1.2.1, (m.1.2.1.2.2.1, m.1.2.1.2.2.2))), ((m.1.2.2.1.1, (m.1.2.2.1.2.1, m.1.2.2.1.2.2)), (m.1.2.2.2.1, (m.1.2.2.2.2.1, m.1.2.2.2.2.2))))), ((((m.2.1.1.1.1, m.2.1.1.1.2), (m.2.1.1.2.1, (m.2.1.1.2.2.1, m.2.1.1.2.2.2))), ((m.2.1.2.1.1, m.2.1.2.1.2), (m.2.1.2.2.1, (m.2.1.2.2.2.1, m.2.1.2.2.2.2)))), (((m.2.2.1.1.1, m.2.2.1.1.2), (m.2.2.1.2.1, (m.2.2.1.2.2.1, m.2.2.1.2.2.2))), ((m.2.2.2.1.1, (m.2.2.2.1.2.1, a)), (b, (c, m.2.2.2.2.2.2)))))) (Int32.ofNat k) w fi Q := hM
  have hb := so_brk (z := (((((m.1.1.1.1.1, m.1.1.1.1.2), (m.1.1.1.2.1, (m.1.1.1.2.2.1, m.1.1.1.2.2.2))), ((m.1.1.2.1.1, m.1.1.2.1.2), (m.1.1.2.2.1, (m.1.1.2.2.2.1, m.1.1.2.2.2.2)))), (((m.1.2.1.1.1, m.1.2.1.1.2), (m.1.2.1.2.1, (m.1.2.1.2.2.1, m.1.2.1.2.2.2))), ((m.1.2.2.1.1, (m.1.2.2.1.2.1, m.1.2.2.1.2.2)), (m.1.2.2.2.1, (m.1.2.2.2.2.1, m.1.2.2.2.2.2))))), ((((m.2.1.1.1.1, m.2.1.1.1.2), (m.2.1.1.2.1, (m.2.1.1.2.2.1, m.2.1.1.2.2.2))), ((m.2.1.2.1.1, m.2.1.2.1.2), (m.2.1.2.2.1, (m.2.1.2.2.2.1, m.2.1.2.2.2.2)))), (((m.2.2.1.1.1, m.2.2.1.1.2), (m.2.2.1.2.1, (m.2.2.1.2.2.1, m.2.2.1.2.2.2))), ((m.2.2.2.1.1, (m.2.2.2.1.2.1, a)), (b, (c, m.2.2.2.2.2.2))))))) (v := nd.1 k) hh (by omega) t1.symm hM'
  obtain ⟨f', hC⟩ := lay_in (by omega) (by omega) hC
  have go := fun {pg1 : T_Pg} (h : FEN kw nm nd K post top k s f' pg1) => GO_first ec n9 kn t5 (fun x hx => by have := TR_lt tr0 kn hx; omega) h
  rcases sc with ⟨e, ek, u0, u5, v, ev, v9, hd⟩ | ⟨e, ek, j, hj, ev, hd⟩ | ⟨e, v, ek, hd⟩ | ⟨e, v1, v2, ek, hd⟩ | ⟨e, -⟩ | ⟨e, -⟩ | ⟨e, -⟩ | ⟨e, -⟩ | ⟨e, -⟩ | ⟨e, -⟩ | ⟨e, -⟩ | ⟨e, -⟩ | ⟨e, -⟩
  · -- an amount
    have hl := map0 ek
    rw [hl] at fc go
    have fc : (nd.2.2.2.2.1 k).toNatClampNeg = k := fc
    have nb0 : ¬ BK w (nd.1 k) (¬ fi = 0) := BK_no (by rw [e]; decide)
    rcases hb with ⟨z, -⟩ | ⟨-, hM⟩
    · exact absurd z nb0
    unfold wp_Mo_sumOut_J74 wp_Mo_sumOut_J88 at hM
    replace hM := (hM.1 rfl).1 e
    have emz := t3 (by rw [e]; decide)
    rw [← emz] at hd u0 u5
    obtain ⟨pg1, a1, b1, c1, hC, hM, w1⟩ := t_num (m := m) kz hh (by omega) ev (by rw [← t2]; exact ev) v9 emz u0 u5 w2 (by omega) (en_0 ec n9 kn e hC) hM
    obtain ⟨pg2, a2, b2, c2, X2, hC, hM, w3, q⟩ := br_close (m := m) ec n9 kn pn ep rfl k9 ib w1 (fun z => absurd z nb0) (Or.inr ⟨nb0, rfl⟩) (go hC) hM
    refine ⟨pg2, a2, b2, c2, ?_, hM, A2_le w3 ?_⟩
    · have es : s + (k + 1 - (nd.2.2.2.2.1 k).toNatClampNeg) = s + 1 := by omega
      rw [es]; exact hC
    · rcases q with ⟨z, -⟩ | ⟨-, q⟩
      · exact absurd z nb0
      · omega
  · -- a name
    have hl := map0 ek
    dsimp only at hd
    rw [hl] at fc go
    have fc : (nd.2.2.2.2.1 k).toNatClampNeg = k := fc
    have nb0 : ¬ BK w (nd.1 k) (¬ fi = 0) := BK_no (by rw [e]; decide)
    rcases hb with ⟨z, -⟩ | ⟨-, hM⟩
    · exact absurd z nb0
    unfold wp_Mo_sumOut_J74 wp_Mo_sumOut_J88 wp_Mo_node1 at hM
    replace hM := (((hM.1 rfl).2 (by rw [e]; decide)).1 e).2
    dsimp only at hM
    rw [no_ix hh (by omega), ← t2] at hM
    obtain ⟨y1, y2, y3, y4, y5⟩ := nam j hj
    obtain ⟨pg1, a1, b1, hC, hM, w1⟩ := t_name (m := m) hh w2 (by omega) ev y2 y3 y4 y5 y1 (by omega) (en_1 ec n9 em c9 hj ev kn e hC) hM
    obtain ⟨pg2, a2, b2, c2, X2, hC, hM, w3, q⟩ := br_close (m := m) ec n9 kn pn ep rfl k9 ib w1 (fun z => absurd z nb0) (Or.inr ⟨nb0, rfl⟩) (go hC) hM
    refine ⟨pg2, a2, b2, c2, ?_, hM, A2_le w3 ?_⟩
    · have es : s + (k + 1 - (nd.2.2.2.2.1 k).toNatClampNeg) = s + 1 := by omega
      rw [es]; exact hC
    · rcases q with ⟨z, -⟩ | ⟨-, q⟩
      · exact absurd z nb0
      · omega
  · -- a minus before
    obtain ⟨k1, hl, ek1⟩ := map1 ek
    rw [hl] at fc go t5
    obtain ⟨fc1, fc2, fc3⟩ := fc
    have fc3 : k1 + 1 = k := fc3
    obtain ⟨nx1, nx2⟩ := t5
    have nx2 : nd.2.2.2.2.2.2.2.2.1 k1 = -1 := nx2
    have m1 : k1 ∈ kf k := by rw [hl]; exact List.mem_cons_self
    have nb0 : ¬ BK w (nd.1 k) (¬ fi = 0) := BK_no (by rw [e]; decide)
    rcases hb with ⟨z, -⟩ | ⟨-, hM⟩
    · exact absurd z nb0
    unfold wp_Mo_sumOut_J74 wp_Mo_sumOut_J88 at hM
    replace hM := (((hM.1 rfl).2 (by rw [e]; decide)).2 (by rw [e]; decide)).1 e
    obtain ⟨pg1, a1, b1, hC, hM, w1⟩ := t_sign (m := m) w2 (by omega) (by decide) (by decide) (by decide) WB_c45 (en_6 ec n9 kn e hC) hM
    obtain ⟨f2, hC⟩ := go hC
    have hM := ko_kid tr0 (j := 0) kn (by rw [hl]; exact Nat.zero_lt_succ _) rfl hM
    have e0 : (kf k)[0]'(by rw [hl]; exact Nat.zero_lt_succ _) = k1 := by simp only [hl, List.getElem_cons_zero]
    rw [e0] at hM
    have kk := (t8 k1 m1).1 k9
    have ib1 : BK 6 (nd.1 k1) (¬ (1 : Int32) = 0) ↔ BK (nd.1 k) (nd.1 k1) (nd.2.2.2.2.2.2.2.1 k = (Int32.ofNat k1)) := by
      rw [e]; exact BK_cg ⟨fun _ => nx1, fun _ => by decide⟩
    have pk1 : PS (k1 + 1) = PS k := by rw [fc3]
    rw [← ek1] at hd
    obtain ⟨pg2, a2, b2, c2, hC, hM, w3⟩ := ih k1 (by omega) d f2 (s + 1) (X + 2) (X + 2 + PS k + bc1 6 (nd.1 k1) - PS (nd.2.2.2.2.1 k).toNatClampNeg) (bc1 6 (nd.1 k1)) k pg1 a1 b1 1 6 1 _ (by omega) kk kn (t7 k1 m1) ib1 (fun z => by have := bc1_K.1 ((BK_cg (g := True) ⟨fun _ => trivial, fun _ => by decide⟩).mp z); omega) (by omega) (by rw [fc1]; omega) (by omega) (A2_W w1) hC hM
    have hC := AF_end ec n9 (p := k) (by omega) (by omega) tn (t7 k1 m1) nx2 hC
    obtain ⟨pg3, a3, b3, c3, X3, hC, hM, w4, q⟩ := br_close (m := m) ec n9 kn pn ep rfl k9 ib w3 (fun z => absurd z nb0) (Or.inr ⟨nb0, rfl⟩) hC hM
    refine ⟨pg3, a3, b3, c3, ?_, hM, A2_le w4 ?_⟩
    · have es : s + (k + 1 - (nd.2.2.2.2.1 k).toNatClampNeg) = s + 1 + (k1 + 1 - (nd.2.2.2.2.1 k1).toNatClampNeg) := by omega
      rw [es]; exact hC
    · rcases q with ⟨z, -⟩ | ⟨-, q⟩
      · exact absurd z nb0
      · omega
  · -- two and a sign
    obtain ⟨k1, k2, hl, ek1, ek2⟩ := map2 ek
    rw [hl] at fc go t5
    obtain ⟨fc1, fc2, fc3, fc4, fc5⟩ := fc
    have fc5 : k2 + 1 = k := fc5
    obtain ⟨nx1, nx2, nx3⟩ := t5
    have nx3 : nd.2.2.2.2.2.2.2.2.1 k2 = -1 := nx3
    have m1 : k1 ∈ kf k := by rw [hl]; exact List.mem_cons_self
    have m2 : k2 ∈ kf k := by rw [hl]; exact List.mem_cons_of_mem _ List.mem_cons_self
    have nv : ¬ nd.1 k = 0 ∧ ¬ nd.1 k = 1 ∧ ¬ nd.1 k = 6 ∧ ¬ nd.1 k = 23 := by rcases e with e | e | e | e | e | e | e <;> rw [e] <;> decide
    have n10 : nd.1 k < 10 := by rcases e with e | e | e | e | e | e | e <;> rw [e] <;> decide
    have v0 : ¬ nd.1 k < 0 ∧ ¬ 9 < nd.1 k := by rcases e with e | e | e | e | e | e | e <;> rw [e] <;> decide
    obtain ⟨pg1, a1, b1, c1, y, X1, hC, hM, w1, q1⟩ := br_open (m := m) ec n9 kn pn ep rfl ib w2 (fun z => by have := hg z; omega) (en_b ec n9 kn nv n10 hC) hb
    unfold wp_Mo_sumOut_J88 at hM
    replace hM := ((hM.2 nv.1).2 nv.2.1).2 nv.2.2.1
    obtain ⟨f2, hC⟩ := go hC
    have hM := ko_kid tr0 (j := 0) kn (by rw [hl]; exact Nat.zero_lt_succ _) rfl hM
    have e0 : (kf k)[0]'(by rw [hl]; exact Nat.zero_lt_succ _) = k1 := by simp only [hl, List.getElem_cons_zero]
    rw [e0] at hM
    have kk1 := (t8 k1 m1).1 k9
    have kk2 := (t8 k2 m2).1 k9
    have ib1 : BK (nd.1 k) (nd.1 k1) (¬ (1 : Int32) = 0) ↔ BK (nd.1 k) (nd.1 k1) (nd.2.2.2.2.2.2.2.1 k = (Int32.ofNat k1)) := BK_cg ⟨fun _ => nx1, fun _ => by decide⟩
    have ib2 : BK (nd.1 k) (nd.1 k2) (¬ (0 : Int32) = 0) ↔ BK (nd.1 k) (nd.1 k2) (nd.2.2.2.2.2.2.2.1 k = (Int32.ofNat k2)) := BK_cg ⟨fun z => absurd rfl z, fun z => by
      rw [nx1] at z
      have := on_inj (by omega) (by omega) z
      omega⟩
    have pk2 : PS (k2 + 1) = PS k := by rw [fc5]
    have pm1 := TR_ps tr0 (i := (nd.2.2.2.2.1 k).toNatClampNeg) (k1 + 1) (by omega) (by omega)
    have pm2 := TR_ps tr0 (i := k1 + 1) k (by omega) (by omega)
    rw [← ek1, ← ek2] at hd
    have x1 : X1 + PS (k + 1) ≤ Y + PS (nd.2.2.2.2.1 k).toNatClampNeg := by
      rcases q1 with ⟨z, -, q⟩ | ⟨-, -, q⟩
      · have := hg z
        omega
      · omega
    obtain ⟨pg2, a2, b2, c2, hC, hM, w3⟩ := ih k1 (by omega) d f2 (s + 1) X1 (X1 + PS (k1 + 1) + bc1 (nd.1 k) (nd.1 k1) - PS (nd.2.2.2.2.1 k).toNatClampNeg) (bc1 (nd.1 k) (nd.1 k1)) k pg1 a1 b1 c1 (nd.1 k) 1 _ (by omega) kk1 kn (t7 k1 m1) ib1 (fun z => by have := bc1_K.1 ((BK_cg (g := True) ⟨fun _ => trivial, fun _ => by decide⟩).mp z); omega) (by omega) (by rw [fc1]; omega) (by omega) w1 hC hM
    obtain ⟨sg, x, sg1, sg2, sg3, sg4, sg5, hM⟩ := sg_of e hM
    obtain ⟨f3, hC⟩ := AF_next ec n9 (k' := k2) (by omega) tn (by omega) nx2 hC
    replace hC := pb_sign ec n9 (by omega) kn (t7 k1 m1) rfl v0.1 v0.2 (fun z => by rw [z] at kk1; exact absurd kk1 (by decide)) hC
    rw [sg1] at hC
    unfold wp_Mo_sumOut_J245 at hM
    obtain ⟨pg3, a3, b3, hC, hM, w4⟩ := t_sign (m := m) (A2_W w3) (by omega) sg3 sg4 sg5 sg2 hC hM
    have hM := ko_kid tr0 (j := 1) kn (by rw [hl]; exact Nat.succ_lt_succ (Nat.zero_lt_succ _)) rfl hM
    have e1 : (kf k)[1]'(by rw [hl]; exact Nat.succ_lt_succ (Nat.zero_lt_succ _)) = k2 := by simp only [hl, List.getElem_cons_succ, List.getElem_cons_zero]
    rw [e1] at hM
    obtain ⟨pg4, a4, b4, c4, hC, hM, w5⟩ := ih k2 (by omega) d f3 _ _ (X1 + PS k + bc1 (nd.1 k) (nd.1 k1) + 2 + bc2 (nd.1 k) (nd.1 k2) - PS (nd.2.2.2.2.1 k).toNatClampNeg) (bc2 (nd.1 k) (nd.1 k2)) k pg3 a3 b3 1 (nd.1 k) 0 _ (by omega) kk2 kn (t7 k2 m2) ib2 (fun z => by have := bc1_K.2 ((BK_cg (g := False) ⟨fun z => absurd rfl z, fun z => z.elim⟩).mp z); omega) (by omega) (by rw [fc3]; omega) (by omega) (A2_W w4) hC hM
    have hC := AF_end ec n9 (p := k) (by omega) (by omega) tn (t7 k2 m2) nx3 hC
    obtain ⟨pg5, a5, b5, c5, X5, hC, hM, w6, q⟩ := br_close (m := m) ec n9 kn pn ep rfl k9 ib w5 (fun z => by
      have := hg z
      rcases q1 with ⟨-, -, q⟩ | ⟨z', -, -⟩
      · omega
      · exact absurd z z') (by
      rcases q1 with ⟨z, q, -⟩ | ⟨z, q, -⟩
      · exact Or.inl ⟨z, q⟩
      · exact Or.inr ⟨z, q⟩) hC hM
    refine ⟨pg5, a5, b5, c5, ?_, hM, A2_le w6 ?_⟩
    · have es : s + (k + 1 - (nd.2.2.2.2.1 k).toNatClampNeg) = s + 1 + (k1 + 1 - (nd.2.2.2.2.1 k1).toNatClampNeg) + (k2 + 1 - (nd.2.2.2.2.1 k2).toNatClampNeg) := by omega
      rw [es]; exact hC
    · rcases q with ⟨z, q⟩ | ⟨z, q⟩
      · have := hg z
        rcases q1 with ⟨-, -, q'⟩ | ⟨z', -, -⟩
        · omega
        · exact absurd z z'
      · rcases q1 with ⟨z', -, q'⟩ | ⟨-, -, q'⟩
        · exact absurd z' z
        · omega
  · rw [e] at k9; exact absurd k9 (by decide)
  · rw [e] at k9; exact absurd k9 (by decide)
  · rcases e with e | e | e <;> rw [e] at k9 <;> exact absurd k9 (by decide)
  · rcases e with e | e | e | e <;> rw [e] at k9 <;> exact absurd k9 (by decide)
  · rw [e] at k9; exact absurd k9 (by decide)
  · rcases e with e | e <;> rw [e] at k9 <;> exact absurd k9 (by decide)
  · rw [e] at k9; exact absurd k9 (by decide)
  · rw [e] at k9; exact absurd k9 (by decide)
  · rw [e] at k9; exact absurd k9 (by decide)

