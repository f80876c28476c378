theorem GO_head {kw : T_Kw} {nm : T_Nm} {nd : T_Nd} {K : T_Pg → Int32 → Int32 → Int32 → Prop} {post : Unit → T_Pg → Prop} {top : Nat} {k s : Nat} {pg : T_Pg} {l : List Nat} (h0 : 0 < l.length) (h : GO kw nm nd K post top k s pg l) : ∃ f, wp_Pg_layNode_L4 kw nm nd K post f pg (Int32.ofNat top) (Int32.ofNat l[0]) (Int32.ofNat s) := by
  cases l with
  | nil => exact absurd h0 (Nat.lt_irrefl _)
  | cons x t => exact h
theorem NX_head {N : Nat → Int32} {f : Int32} {l : List Nat} (h0 : 0 < l.length) (h : NX N f l) : NX N (Int32.ofNat l[0]) (l.drop 0) := by
  cases l with
  | nil => exact absurd h0 (Nat.lt_irrefl _)
  | cons x t => exact ⟨rfl, h.2⟩
set_option maxHeartbeats 2000000 in
/-- the statements of a block -/
theorem kb_loop {kw : T_Kw} {nm : T_Nm} {nd : T_Nd} {m : T_Mo} {n cn : Nat} {kf : Nat → List Nat} {PS : Nat → Nat} {K : T_Pg → Int32 → Int32 → Int32 → Prop} {post : Unit → T_Pg → Prop} {top : Nat} {i d k : Nat} (tr : TR nm nd m kw n cn kf PS) (tn : top < n) (kt : k ≤ top) {rf : T_Mo → Int32 → (Unit → T_Mo → Prop) → Prop} {KM : T_Mo → Int32 → Int32 → Prop} {pq : Unit → T_Mo → Prop} (ew : nd.1 k = 23) (hrf : ∀ q, q < k → 10 ≤ nd.1 q → nd.1 q ≤ 22 → HS kw nm nd K post top m i PS d rf q) : ∀ (r j : Nat), (kf k).length = j + r → ∀ (lo s X Y f : Nat) (fx : Int32) (pg : T_Pg) (a b c : Int32), FC nd.2.2.2.2.1 k lo ((kf k).drop j) → NX nd.2.2.2.2.2.2.2.2.1 fx ((kf k).drop j) → s + k ≤ 1000 + lo → X + PS k ≤ Y + PS lo → Y ≤ 12000 → B2 i pg a b c X → GO kw nm nd K post top k s pg ((kf k).drop j) → wp_Mo_blockOut_L12 d rf KM pq f (((((m.1.1.1.1.1, m.1.1.1.1.2), (m.1.1.1.2.1, (m.1.1.1.2.2.1, m.1.1.1.2.2.2))), ((m.1.1.2.1.1, m.1.1.2.1.2), (m.1.1.2.2.1, (m.1.1.2.2.2.1, m.1.1.2.2.2.2)))), (((m.1.2.1.1.1, m.1.2.1.1.2), (m.1.2.1.2.1, (m.1.2.1.2.2.1, m.1.2.1.2.2.2))), ((m.1.2.2.1.1, (m.1.2.2.1.2.1, m.1.2.2.1.2.2)), (m.1.2.2.2.1, (m.1.2.2.2.2.1, m.1.2.2.2.2.2))))), ((((m.2.1.1.1.1, m.2.1.1.1.2), (m.2.1.1.2.1, (m.2.1.1.2.2.1, m.2.1.1.2.2.2))), ((m.2.1.2.1.1, m.2.1.2.1.2), (m.2.1.2.2.1, (m.2.1.2.2.2.1, m.2.1.2.2.2.2)))), (((m.2.2.1.1.1, m.2.2.1.1.2), (m.2.2.1.2.1, (m.2.2.1.2.2.1, m.2.2.1.2.2.2))), ((m.2.2.2.1.1, (m.2.2.2.1.2.1, a)), (b, (c, m.2.2.2.2.2.2)))))) (Int32.ofNat k) (Int32.ofNat j) → ∃ pg' a' b' c', GO kw nm nd K post top k (s + (k - lo)) pg' [] ∧ KM (((((m.1.1.1.1.1, m.1.1.1.1.2), (m.1.1.1.2.1, (m.1.1.1.2.2.1, m.1.1.1.2.2.2))), ((m.1.1.2.1.1, m.1.1.2.1.2), (m.1.1.2.2.1, (m.1.1.2.2.2.1, m.1.1.2.2.2.2)))), (((m.1.2.1.1.1, m.1.2.1.1.2), (m.1.2.1.2.1, (m.1.2.1.2.2.1, m.1.2.1.2.2.2))), ((m.1.2.2.1.1, (m.1.2.2.1.2.1, m.1.2.2.1.2.2)), (m.1.2.2.2.1, (m.1.2.2.2.2.1, m.1.2.2.2.2.2))))), ((((m.2.1.1.1.1, m.2.1.1.1.2), (m.2.1.1.2.1, (m.2.1.1.2.2.1, m.2.1.1.2.2.2))), ((m.2.1.2.1.1, m.2.1.2.1.2), (m.2.1.2.2.1, (m.2.1.2.2.2.1, m.2.1.2.2.2.2)))), (((m.2.2.1.1.1, m.2.2.1.1.2), (m.2.2.1.2.1, (m.2.2.1.2.2.1, m.2.2.1.2.2.2))), ((m.2.2.2.1.1, (m.2.2.2.1.2.1, a')), (b', (c', m.2.2.2.2.2.2)))))) (Int32.ofNat k) (Int32.ofNat (kf k).length) ∧ B2 i pg' a' b' c' Y := by
  have tr0 := tr
  obtain ⟨hh, kz, ec, n9, em, c9, per, nam⟩ := tr
  have kn : k < n := by omega
  obtain ⟨t1, t2, t3, ⟨a0, -, q2, -, l9⟩, -, t6, t7, t8, -⟩ := per k kn
  intro r
  induction r with
  | zero =>
    intro j hr lo s X Y f fx pg a b c fc nx sb bud Y9 w2 hC hM
    rw [List.drop_eq_nil_of_le (by omega)] at fc hC
    have fc : lo = k := fc
    cases f with
    | zero => exact False.elim hM
    | succ f =>
    rw [wp_Mo_blockOut_L12] at hM
    unfold wp_Mo_node1 at hM
    dsimp only at hM
    replace hM := hM.2
    rw [no_ix hh (by omega), q2] at hM
    replace hM := hM.1 (by rw [on_le (by omega) (by omega)]; omega)
    have ej : j = (kf k).length := by omega
    subst fc
    refine ⟨pg, a, b, c, ?_, by rw [← ej]; exact hM, B2_le w2 (by omega)⟩
    rw [Nat.sub_self, Nat.add_zero]; exact hC
  | succ r ih =>
    intro j hr lo s X Y f fx pg a b c fc nx sb bud Y9 w2 hC hM
    have hj : j < (kf k).length := by omega
    have mj : (kf k)[j] ∈ kf k := List.getElem_mem hj
    have lj := TR_lt tr0 kn mj
    have kk := (t8 _ mj).2.2.1 ew
    rw [List.drop_eq_getElem_cons hj] at fc nx hC
    obtain ⟨fc1, fc2, fc3⟩ := fc
    obtain ⟨-, nx⟩ := nx
    obtain ⟨f1, hC⟩ := hC
    have fle := FC_le _ _ fc3
    have pm1 := TR_ps tr0 (i := lo) ((kf k)[j] + 1) (by omega) (by omega)
    have pm2 := TR_ps tr0 (i := (kf k)[j] + 1) k (by omega) (by omega)
    cases f with
    | zero => exact False.elim hM
    | succ f =>
    rw [wp_Mo_blockOut_L12] at hM
    unfold wp_Mo_node1 at hM
    dsimp only at hM
    replace hM := hM.2
    rw [no_ix hh (by omega), q2] at hM
    replace hM := hM.2 (by rw [on_le (by omega) (by omega)]; omega)
    rw [on_succ (by omega)] at hM
    replace hM := ko_kid tr0 kn hj rfl hM
    obtain ⟨pg1, a1, b1, c1, hC, hM, w3⟩ := hrf _ lj kk.1 kk.2 f1 s X (X + PS ((kf k)[j] + 1) - PS lo) pg a b c _ (by omega) (by rw [fc1]; omega) (by omega) (Or.inl w2) hC hM
    have es : s + (k - lo) = s + ((kf k)[j] + 1 - (nd.2.2.2.2.1 (kf k)[j]).toNatClampNeg) + (k - ((kf k)[j] + 1)) := by omega
    rw [es]
    refine ih (j + 1) (by omega) _ _ _ Y f _ pg1 a1 b1 c1 fc3 nx (by omega) (by omega) Y9 w3 ?_ hM
    rcases Nat.lt_or_ge (j + 1) (kf k).length with q | q
    · have my : (kf k)[j + 1] ∈ kf k := List.getElem_mem q
      have ly := TR_lt tr0 kn my
      rw [List.drop_eq_getElem_cons q] at nx ⊢
      obtain ⟨f3, hC⟩ := AF_next ec n9 (k' := (kf k)[j + 1]) (by omega) tn (by omega) nx.1 hC
      exact ⟨f3, pb_none ec n9 (by omega) kn (t7 _ mj) ew (by decide) (by decide) (by decide) (fun _ => by decide) hC⟩
    · rw [List.drop_eq_nil_of_le q] at nx ⊢
      exact AF_end ec n9 lj kt tn (t7 _ mj) nx hC
set_option maxHeartbeats 1000000 in
theorem sim_block {kw : T_Kw} {nm : T_Nm} {nd : T_Nd} {m : T_Mo} {n cn : Nat} {kf : Nat → List Nat} {PS : Nat → Nat} {K : T_Pg → Int32 → Int32 → Int32 → Prop} {post : Unit → T_Pg → Prop} {top : Nat} {i d k e : Nat} (tr : TR nm nd m kw n cn kf PS) (tn : top < n) (kt : k ≤ top) (ew : nd.1 k = 23) (hrf : ∀ q, q < k → 10 ≤ nd.1 q → nd.1 q ≤ 22 → HS kw nm nd K post top m i PS d (wp_Mo_blockOut d e) q) : HB kw nm nd K post top m i PS (wp_Mo_blockOut d (e + 1)) k := by
  intro f s X Y pg a b c Q sb bud Y9 w2 hC hM
  have tr0 := tr
  obtain ⟨hh, kz, ec, n9, em, c9, per, nam⟩ := tr
  have kn : k < n := by omega
  obtain ⟨t1, t2, t3, ⟨a0, -, q2, -, l9⟩, t5, t6, t7, t8, dd, t9, sc⟩ := per k kn
  have fc := TR_fc tr0 kn
  have ll := FC_le _ _ fc
  have pm := TR_ps tr0 k ll (by omega)
  have d4 : 4 ≤ dd := by
    rw [ew] at sc
    rcases sc with ⟨z, -⟩ | ⟨z, -⟩ | ⟨z, -⟩ | ⟨z, -⟩ | ⟨-, z⟩ | ⟨z, -⟩ | ⟨z, -⟩ | ⟨z, -⟩ | ⟨z, -⟩ | ⟨z, -⟩ | ⟨z, -⟩ | ⟨z, -⟩ | ⟨z, -⟩ <;> first | exact z | exact absurd z (by decide)
  obtain ⟨f', hC⟩ := lay_in (by omega) (by omega) hC
  have hM' : wp_Mo_blockOut_F d (wp_Mo_blockOut d e) (((((m.1.1.1.1.1, m.1.1.1.1.2), (m.1.1.1.2.1, (m.1.1.1.2.2.1, m.1.1.1.2.2.2))), ((m.1.1.2.1.1, m.1.1.2.1.2), (m.1.1.2.2.1, (m.1.1.2.2.2.1, m.1.1.2.2.2.2)))), (((m.1.2.1.1.1, m.1.2.1.1.2), (m.1.2.1.2.1, (m.1.2.1.2.2.1, m.1.2.1.2.2.2))), ((m.1.2.2.1.1, (m.1.2.2.1.2.1, m.1.2.2.1.2.2)), (m.1.2.2.2.1, (m.1.2.2.2.2.1, m.1.2.2.2.2.2))))), ((((m.2.1.1.1.1, m.2.1.1.1.2), (m.2.1.1.2.1, (m.2.1.1.2.2.1, m.2.1.1.2.2.2))), ((m.2.1.2.1.1, m.2.1.2.1.2), (m.2.1.2.2.1, (m.2.1.2.2.2.1, m.2.1.2.2.2.2)))), (((m.2.2.1.1.1, m.2.2.1.1.2), (m.2.2.1.2.1, (m.2.2.1.2.2.1, m.2.2.1.2.2.2))), ((m.2.2.2.1.1, (m.2.2.2.1.2.1, a)), (b, (c, m.2.2.2.2.2.2)))))) (Int32.ofNat k) Q := hM
  unfold wp_Mo_blockOut_F at hM'
  obtain ⟨pg1, a1, b1, hC, ⟨f2, hM⟩, w3⟩ := t_open (m := m) w2 (by omega) (en_23 ec n9 kn ew hC) hM'
  have go := GO_first ec n9 kn t5 (fun x hx => by have := TR_lt tr0 kn hx; omega) hC
  rw [← List.drop_zero (l := kf k)] at fc t5 go
  obtain ⟨pg2, a2, b2, c2, hC, hM, w4⟩ := kb_loop tr0 tn kt ew hrf (kf k).length 0 (by omega) _ (s + 1) (X + 2) (X + 2 + PS k - PS (nd.2.2.2.2.1 k).toNatClampNeg) f2 _ pg1 a1 b1 0 fc t5 (by omega) (by omega) (by omega) w3 go hM
  obtain ⟨f3, f4, x2, e2, he, hC⟩ := hC
  obtain ⟨pg3, hC, w5⟩ := t_line (Or.inl w4) (by omega) (lv_23 ec n9 kn ew hC)
  obtain ⟨pg4, a4, b4, hC, hM, w6⟩ := t_close (m := m) w5 (by omega) hC hM
  refine ⟨pg4, a4, b4, 1, ⟨f3, f4, x2, e2, he, ?_⟩, hM, A2_le w6 (by omega)⟩
  have es : s + (k + 1 - (nd.2.2.2.2.1 k).toNatClampNeg) = s + 1 + (k - (nd.2.2.2.2.1 k).toNatClampNeg) := by omega
  rw [es]; exact hC
set_option maxHeartbeats 2000000 in
/-- a statement behind its first words -/
theorem st_rest {kw : T_Kw} {nm : T_Nm} {nd : T_Nd} {m : T_Mo} {n cn : Nat} {kf : Nat → List Nat} {PS : Nat → Nat} {K : T_Pg → Int32 → Int32 → Int32 → Prop} {post : Unit → T_Pg → Prop} {top : Nat} {i d k X Y s f tail wr : Nat} {pg : T_Pg} {a b c : Int32} {rf : T_Mo → Int32 → (Unit → T_Mo → Prop) → Prop} {Q : Unit → T_Mo → Prop} (tr : TR nm nd m kw n cn kf PS) (tn : top < n) (kt : k ≤ top) (w1 : 10 ≤ nd.1 k) (w9 : nd.1 k ≤ 22) (hrf : ∀ q, q < k → nd.1 q = 23 → HB kw nm nd K post top m i PS rf q) (s13 : nd.1 k = 13 → (kf k).length = 2 ∧ ∀ h0, nd.1 ((kf k)[0]'h0) ≤ 9) (s15 : nd.1 k = 15 ∨ nd.1 k = 17 → (kf k).length ≤ 3 ∧ ∀ j (hj : j < (kf k).length), (j = 0 → nd.1 (kf k)[j] ≤ 9) ∧ (1 ≤ j → nd.1 (kf k)[j] = 23)) (h13 : nd.1 k = 13 → 3 ≤ wr) (h15 : nd.1 k = 15 ∨ nd.1 k = 17 → (kf k).length = 3 → 5 ≤ wr) (hf : nd.1 k < 14 ∨ 17 < nd.1 k → wr + 2 ≤ tail) (hf2 : wr ≤ tail) (sb : s + (k + 1) ≤ 1000 + (nd.2.2.2.2.1 k).toNatClampNeg) (bud : X + PS k + tail ≤ Y + PS (nd.2.2.2.2.1 k).toNatClampNeg) (Y9 : Y ≤ 12000) (w2 : A2 i pg a b c X) (hC : FEN kw nm nd K post top k s f pg) (hM : wp_Mo_statementOut_J286 d rf Q (((((m.1.1.1.1.1, m.1.1.1.1.2), (m.1.1.1.2.1, (m.1.1.1.2.2.1, m.1.1.1.2.2.2))), ((m.1.1.2.1.1, m.1.1.2.1.2), (m.1.1.2.2.1, (m.1.1.2.2.2.1, m.1.1.2.2.2.2)))), (((m.1.2.1.1.1, m.1.2.1.1.2), (m.1.2.1.2.1, (m.1.2.1.2.2.1, m.1.2.1.2.2.2))), ((m.1.2.2.1.1, (m.1.2.2.1.2.1, m.1.2.2.1.2.2)), (m.1.2.2.2.1, (m.1.2.2.2.2.1, m.1.2.2.2.2.2))))), ((((m.2.1.1.1.1, m.2.1.1.1.2), (m.2.1.1.2.1, (m.2.1.1.2.2.1, m.2.1.1.2.2.2))), ((m.2.1.2.1.1, m.2.1.2.1.2), (m.2.1.2.2.1, (m.2.1.2.2.2.1, m.2.1.2.2.2.2)))), (((m.2.2.1.1.1, m.2.2.1.1.2), (m.2.2.1.2.1, (m.2.2.1.2.2.1, m.2.2.1.2.2.2))), ((m.2.2.2.1.1, (m.2.2.2.1.2.1, a)), (b, (c, m.2.2.2.2.2.2)))))) (Int32.ofNat k) (nd.1 k) (Int32.ofNat (kf k).length)) : ∃ pg' a' b' c', AF kw nm nd K post top k (s + (k + 1 - (nd.2.2.2.2.1 k).toNatClampNeg)) pg' ∧ Q () (((((m.1.1.1.1.1, m.1.1.1.1.2), (m.1.1.1.2.1, (m.1.1.1.2.2.1, m.1.1.1.2.2.2))), ((m.1.1.2.1.1, m.1.1.2.1.2), (m.1.1.2.2.1, (m.1.1.2.2.2.1, m.1.1.2.2.2.2)))), (((m.1.2.1.1.1, m.1.2.1.1.2), (m.1.2.1.2.1, (m.1.2.1.2.2.1, m.1.2.1.2.2.2))), ((m.1.2.2.1.1, (m.1.2.2.1.2.1, m.1.2.2.1.2.2)), (m.1.2.2.2.1, (m.1.2.2.2.2.1, m.1.2.2.2.2.2))))), ((((m.2.1.1.1.1, m.2.1.1.1.2), (m.2.1.1.2.1, (m.2.1.1.2.2.1, m.2.1.1.2.2.2))), ((m.2.1.2.1.1, m.2.1.2.1.2), (m.2.1.2.2.1, (m.2.1.2.2.2.1, m.2.1.2.2.2.2)))), (((m.2.2.1.1.1, m.2.2.1.1.2), (m.2.2.1.2.1, (m.2.2.1.2.2.1, m.2.2.1.2.2.2))), ((m.2.2.2.1.1, (m.2.2.2.1.2.1, a')), (b', (c', m.2.2.2.2.2.2)))))) ∧ B2 i pg' a' b' c' Y := by
  have tr0 := tr
  obtain ⟨hh, kz, ec, n9, em, c9, per, nam⟩ := tr
  have kn : k < n := by omega
  obtain ⟨t1, t2, t3, ⟨a0, -, q2, -, l9⟩, t5, t6, t7, t8, dd, t9, sc⟩ := per k kn
  have fc := TR_fc tr0 kn
  have ll := FC_le _ _ fc
  have pm := TR_ps tr0 k ll (by omega)
  have go := GO_first ec n9 kn t5 (fun x hx => by have := TR_lt tr0 kn hx; omega) hC
  have es : s + (k + 1 - (nd.2.2.2.2.1 k).toNatClampNeg) = s + 1 + (k - (nd.2.2.2.2.1 k).toNatClampNeg) := by omega
  rw [es]
  -- the kids
  have mid : ∀ {y0 : Int32} {KM : T_Mo → Int32 → Int32 → Int32 → Int32 → Int32 → Prop} {f2 : Nat}, wp_Mo_statementOut_L308 d rf KM Q f2 (((((m.1.1.1.1.1, m.1.1.1.1.2), (m.1.1.1.2.1, (m.1.1.1.2.2.1, m.1.1.1.2.2.2))), ((m.1.1.2.1.1, m.1.1.2.1.2), (m.1.1.2.2.1, (m.1.1.2.2.2.1, m.1.1.2.2.2.2)))), (((m.1.2.1.1.1, m.1.2.1.1.2), (m.1.2.1.2.1, (m.1.2.1.2.2.1, m.1.2.1.2.2.2))), ((m.1.2.2.1.1, (m.1.2.2.1.2.1, m.1.2.2.1.2.2)), (m.1.2.2.2.1, (m.1.2.2.2.2.1, m.1.2.2.2.2.2))))), ((((m.2.1.1.1.1, m.2.1.1.1.2), (m.2.1.1.2.1, (m.2.1.1.2.2.1, m.2.1.1.2.2.2))), ((m.2.1.2.1.1, m.2.1.2.1.2), (m.2.1.2.2.1, (m.2.1.2.2.2.1, m.2.1.2.2.2.2)))), (((m.2.2.1.1.1, m.2.2.1.1.2), (m.2.2.1.2.1, (m.2.2.1.2.2.1, m.2.2.1.2.2.2))), ((m.2.2.2.1.1, (m.2.2.2.1.2.1, a)), (b, (c, m.2.2.2.2.2.2)))))) (Int32.ofNat k) (nd.1 k) (Int32.ofNat (kf k).length) y0 (Int32.ofNat 0) → ∃ pg' a' b' c', GO kw nm nd K post top k (s + 1 + (k - (nd.2.2.2.2.1 k).toNatClampNeg)) pg' [] ∧ KM (((((m.1.1.1.1.1, m.1.1.1.1.2), (m.1.1.1.2.1, (m.1.1.1.2.2.1, m.1.1.1.2.2.2))), ((m.1.1.2.1.1, m.1.1.2.1.2), (m.1.1.2.2.1, (m.1.1.2.2.2.1, m.1.1.2.2.2.2)))), (((m.1.2.1.1.1, m.1.2.1.1.2), (m.1.2.1.2.1, (m.1.2.1.2.2.1, m.1.2.1.2.2.2))), ((m.1.2.2.1.1, (m.1.2.2.1.2.1, m.1.2.2.1.2.2)), (m.1.2.2.2.1, (m.1.2.2.2.2.1, m.1.2.2.2.2.2))))), ((((m.2.1.1.1.1, m.2.1.1.1.2), (m.2.1.1.2.1, (m.2.1.1.2.2.1, m.2.1.1.2.2.2))), ((m.2.1.2.1.1, m.2.1.2.1.2), (m.2.1.2.2.1, (m.2.1.2.2.2.1, m.2.1.2.2.2.2)))), (((m.2.2.1.1.1, m.2.2.1.1.2), (m.2.2.1.2.1, (m.2.2.1.2.2.1, m.2.2.1.2.2.2))), ((m.2.2.2.1.1, (m.2.2.2.1.2.1, a')), (b', (c', m.2.2.2.2.2.2)))))) (Int32.ofNat k) (nd.1 k) (Int32.ofNat (kf k).length) y0 (Int32.ofNat (kf k).length) ∧ A2 i pg' a' b' c' (X + PS k + wr - PS (nd.2.2.2.2.1 k).toNatClampNeg) := by
    intro y0 KM f2 hM
    rcases Nat.eq_zero_or_pos (kf k).length with z | z
    · have hl := List.eq_nil_of_length_eq_zero z
      rw [hl] at fc go
      have fc : (nd.2.2.2.2.1 k).toNatClampNeg = k := fc
      cases f2 with
      | zero => exact False.elim hM
      | succ f2 =>
      rw [wp_Mo_statementOut_L308] at hM
      replace hM := hM.1 (by rw [z]; exact Int32.le_refl _)
      refine ⟨pg, a, b, c, ?_, ?_, A2_le w2 (by rw [fc]; omega)⟩
      · rw [fc, Nat.sub_self, Nat.add_zero]; exact go
      · rw [z] at hM ⊢; exact hM
    · obtain ⟨f3, hC⟩ := GO_head z go
      obtain ⟨f4, hM⟩ := l308_in tr0 (j := 0) kn z hM
      have fc' : FC nd.2.2.2.2.1 k (nd.2.2.2.2.1 k).toNatClampNeg ((kf k).drop 0) := by rw [List.drop_zero]; exact fc
      have br : ((nd.1 (kf k)[0] = 23 ∧ rf (((((m.1.1.1.1.1, m.1.1.1.1.2), (m.1.1.1.2.1, (m.1.1.1.2.2.1, m.1.1.1.2.2.2))), ((m.1.1.2.1.1, m.1.1.2.1.2), (m.1.1.2.2.1, (m.1.1.2.2.2.1, m.1.1.2.2.2.2)))), (((m.1.2.1.1.1, m.1.2.1.1.2), (m.1.2.1.2.1, (m.1.2.1.2.2.1, m.1.2.1.2.2.2))), ((m.1.2.2.1.1, (m.1.2.2.1.2.1, m.1.2.2.1.2.2)), (m.1.2.2.2.1, (m.1.2.2.2.2.1, m.1.2.2.2.2.2))))), ((((m.2.1.1.1.1, m.2.1.1.1.2), (m.2.1.1.2.1, (m.2.1.1.2.2.1, m.2.1.1.2.2.2))), ((m.2.1.2.1.1, m.2.1.2.1.2), (m.2.1.2.2.1, (m.2.1.2.2.2.1, m.2.1.2.2.2.2)))), (((m.2.2.1.1.1, m.2.2.1.1.2), (m.2.2.1.2.1, (m.2.2.1.2.2.1, m.2.2.1.2.2.2))), ((m.2.2.2.1.1, (m.2.2.2.1.2.1, a)), (b, (c, m.2.2.2.2.2.2)))))) (Int32.ofNat (kf k)[0]) (fun (_ : Unit) (u : T_Mo) => wp_Mo_statementOut_L308 d rf KM Q f4 u (Int32.ofNat k) (nd.1 k) (Int32.ofNat (kf k).length) y0 (Int32.ofNat (0 + 1)))) ∨ (¬ nd.1 (kf k)[0] = 23 ∧ wp_Mo_sumOut d (((((m.1.1.1.1.1, m.1.1.1.1.2), (m.1.1.1.2.1, (m.1.1.1.2.2.1, m.1.1.1.2.2.2))), ((m.1.1.2.1.1, m.1.1.2.1.2), (m.1.1.2.2.1, (m.1.1.2.2.2.1, m.1.1.2.2.2.2)))), (((m.1.2.1.1.1, m.1.2.1.1.2), (m.1.2.1.2.1, (m.1.2.1.2.2.1, m.1.2.1.2.2.2))), ((m.1.2.2.1.1, (m.1.2.2.1.2.1, m.1.2.2.1.2.2)), (m.1.2.2.2.1, (m.1.2.2.2.2.1, m.1.2.2.2.2.2))))), ((((m.2.1.1.1.1, m.2.1.1.1.2), (m.2.1.1.2.1, (m.2.1.1.2.2.1, m.2.1.1.2.2.2))), ((m.2.1.2.1.1, m.2.1.2.1.2), (m.2.1.2.2.1, (m.2.1.2.2.2.1, m.2.1.2.2.2.2)))), (((m.2.2.1.1.1, m.2.2.1.1.2), (m.2.2.1.2.1, (m.2.2.1.2.2.1, m.2.2.1.2.2.2))), ((m.2.2.2.1.1, (m.2.2.2.1.2.1, a)), (b, (c, m.2.2.2.2.2.2)))))) (Int32.ofNat (kf k)[0]) (-1) 1 (fun (_ : Unit) (u9 : T_Mo) => ((Int32.ofNat 0) = 0 → ((nd.1 k = (13 : Int32) → wp_Mo_word u9 (28265 : Int64) (fun (_ : Unit) (u : T_Mo) => wp_Mo_statementOut_L308 d rf KM Q f4 u (Int32.ofNat k) (nd.1 k) (Int32.ofNat (kf k).length) y0 (Int32.ofNat (0 + 1)))) ∧ (¬ nd.1 k = (13 : Int32) → wp_Mo_statementOut_L308 d rf KM Q f4 u9 (Int32.ofNat k) (nd.1 k) (Int32.ofNat (kf k).length) y0 (Int32.ofNat (0 + 1))))) ∧ (¬ (Int32.ofNat 0) = 0 → wp_Mo_statementOut_L308 d rf KM Q f4 u9 (Int32.ofNat k) (nd.1 k) (Int32.ofNat (kf k).length) y0 (Int32.ofNat (0 + 1)))))) := by
        rcases hM with ⟨q, hM⟩ | ⟨q, hM⟩
        · rcases hM with ⟨-, hM⟩ | ⟨y, -⟩ | ⟨y, -⟩
          · exact Or.inl ⟨q, hM⟩
          · omega
          · omega
        · exact Or.inr ⟨q, hM⟩
      obtain ⟨pg2, a2, b2, c2, f5, hC, hM, w3⟩ := ks_loop tr0 tn kt rfl w1 w9 hrf s13 s15 ((kf k).length - 1) 0 z (by omega) _ (s + 1) X (X + PS k + wr - PS (nd.2.2.2.2.1 k).toNatClampNeg) wr f3 f4 pg a b c fc' (NX_head z t5) (by omega) (fun y _ => h13 y) (fun y1 y2 _ => h15 y1 y2) (by omega) (by omega) (A2_W w2) hC br
      refine ⟨pg2, a2, b2, c2, hC, ?_, w3⟩
      cases f5 with
      | zero => exact False.elim hM
      | succ f5 =>
      rw [wp_Mo_statementOut_L308] at hM
      exact hM.1 (Int32.le_refl _)
  unfold wp_Mo_statementOut_J286 wp_Mo_statementOut_J302 wp_Mo_statementOut_J303 at hM
  have semi : (nd.1 k < 14 ∨ 17 < nd.1 k) → (∃ k9 : Nat, wp_Mo_statementOut_L308 d rf (fun (z_this : T_Mo) (x1 : Int32) (x2 : Int32) (x3 : Int32) (x4 : Int32) (x5 : Int32) => (x4 = 0 → (wp_Mo_word z_this (59 : Int64) (fun (_ : Unit) (u29 : T_Mo) => wp_Mo_statementOut_J439 d rf Q u29 x1 x2 x3 x4 x5))) ∧ (¬ x4 = 0 → (wp_Mo_statementOut_J439 d rf Q z_this x1 x2 x3 x4 x5))) Q k9 (((((m.1.1.1.1.1, m.1.1.1.1.2), (m.1.1.1.2.1, (m.1.1.1.2.2.1, m.1.1.1.2.2.2))), ((m.1.1.2.1.1, m.1.1.2.1.2), (m.1.1.2.2.1, (m.1.1.2.2.2.1, m.1.1.2.2.2.2)))), (((m.1.2.1.1.1, m.1.2.1.1.2), (m.1.2.1.2.1, (m.1.2.1.2.2.1, m.1.2.1.2.2.2))), ((m.1.2.2.1.1, (m.1.2.2.1.2.1, m.1.2.2.1.2.2)), (m.1.2.2.2.1, (m.1.2.2.2.2.1, m.1.2.2.2.2.2))))), ((((m.2.1.1.1.1, m.2.1.1.1.2), (m.2.1.1.2.1, (m.2.1.1.2.2.1, m.2.1.1.2.2.2))), ((m.2.1.2.1.1, m.2.1.2.1.2), (m.2.1.2.2.1, (m.2.1.2.2.2.1, m.2.1.2.2.2.2)))), (((m.2.2.1.1.1, m.2.2.1.1.2), (m.2.2.1.2.1, (m.2.2.1.2.2.1, m.2.2.1.2.2.2))), ((m.2.2.2.1.1, (m.2.2.2.1.2.1, a)), (b, (c, m.2.2.2.2.2.2)))))) (Int32.ofNat k) (nd.1 k) (Int32.ofNat (kf k).length) (0 : Int32) (0 : Int32)) → ∃ pg' a' b' c', AF kw nm nd K post top k (s + 1 + (k - (nd.2.2.2.2.1 k).toNatClampNeg)) pg' ∧ Q () (((((m.1.1.1.1.1, m.1.1.1.1.2), (m.1.1.1.2.1, (m.1.1.1.2.2.1, m.1.1.1.2.2.2))), ((m.1.1.2.1.1, m.1.1.2.1.2), (m.1.1.2.2.1, (m.1.1.2.2.2.1, m.1.1.2.2.2.2)))), (((m.1.2.1.1.1, m.1.2.1.1.2), (m.1.2.1.2.1, (m.1.2.1.2.2.1, m.1.2.1.2.2.2))), ((m.1.2.2.1.1, (m.1.2.2.1.2.1, m.1.2.2.1.2.2)), (m.1.2.2.2.1, (m.1.2.2.2.2.1, m.1.2.2.2.2.2))))), ((((m.2.1.1.1.1, m.2.1.1.1.2), (m.2.1.1.2.1, (m.2.1.1.2.2.1, m.2.1.1.2.2.2))), ((m.2.1.2.1.1, m.2.1.2.1.2), (m.2.1.2.2.1, (m.2.1.2.2.2.1, m.2.1.2.2.2.2)))), (((m.2.2.1.1.1, m.2.2.1.1.2), (m.2.2.1.2.1, (m.2.2.1.2.2.1, m.2.2.1.2.2.2))), ((m.2.2.2.1.1, (m.2.2.2.1.2.1, a')), (b', (c', m.2.2.2.2.2.2)))))) ∧ B2 i pg' a' b' c' Y := by
    intro q ⟨f2, hM⟩
    obtain ⟨pg1, a1, b1, c1, ⟨f3, f4, x2, e2, he, hC⟩, hM, w3⟩ := mid hM
    have := hf q
    obtain ⟨pg2, a2, b2, hC, hM, w4⟩ := t_sign (m := m) (A2_W w3) (by omega) (by decide) (by decide) (by decide) WB_c59 (lv_semi ec n9 kn (by generalize nd.1 k = x at *; grind) hC) (hM.1 rfl)
    unfold wp_Mo_statementOut_J439 at hM
    obtain ⟨a3, b3, hM, w5⟩ := t_nl (m := m) w4 (by omega) hM
    exact ⟨pg2, a3, b3, 0, ⟨f3, f4, x2, e2, he, hC⟩, hM, B2_le w5 (by omega)⟩
  rcases br_el hM with ⟨q, hM⟩ | ⟨q, hM⟩
  · exact semi (Or.inl q) hM
  · rcases br_el hM with ⟨q2, hM⟩ | ⟨q2, hM⟩
    · exact semi (Or.inr q2) hM
    · obtain ⟨f2, hM⟩ := hM
      obtain ⟨pg1, a1, b1, c1, ⟨f3, f4, x2, e2, he, hC⟩, hM, w3⟩ := mid hM
      replace hC := lv_none ec n9 kn (by generalize nd.1 k = x at *; grind) hC
      replace hM := hM.2 (by decide)
      unfold wp_Mo_statementOut_J439 at hM
      obtain ⟨a3, b3, hM, w5⟩ := t_nl (m := m) w3 (by omega) hM
      exact ⟨pg1, a3, b3, 0, ⟨f3, f4, x2, e2, he, hC⟩, hM, B2_le w5 (by omega)⟩
set_option maxHeartbeats 2000000 in
theorem sim_stmt {kw : T_Kw} {nm : T_Nm} {nd : T_Nd} {m : T_Mo} {n cn : Nat} {kf : Nat → List Nat} {PS : Nat → Nat} {K : T_Pg → Int32 → Int32 → Int32 → Prop} {post : Unit → T_Pg → Prop} {top : Nat} {i d k : Nat} {rf : T_Mo → Int32 → (Unit → T_Mo → Prop) → Prop} (tr : TR nm nd m kw n cn kf PS) (tn : top < n) (kt : k ≤ top) (w1 : 10 ≤ nd.1 k) (w9 : nd.1 k ≤ 22) (hrf : ∀ q, q < k → nd.1 q = 23 → HB kw nm nd K post top m i PS rf q) : HS kw nm nd K post top m i PS d rf k := by
  intro f s X Y pg a b c Q sb bud Y9 w2 hC hM
  have tr0 := tr
  obtain ⟨hh, kz, ec, n9, em, c9, per, nam⟩ := tr
  have kn : k < n := by omega
  obtain ⟨t1, t2, t3, ⟨a0, -, q2, -, l9⟩, t5, t6, t7, t8, dd, t9, sc⟩ := per k kn
  have fc := TR_fc tr0 kn
  have ll := FC_le _ _ fc
  have pm := TR_ps tr0 k ll (by omega)
  obtain ⟨f', hC⟩ := lay_in (by omega) (by omega) hC
  have go := fun {X1 tail wr : Nat} {pg1 : T_Pg} {a1 b1 c1 : Int32} s13 s15 h13 h15 hf hf2 (w3 : A2 i pg1 a1 b1 c1 X1) (b3 : X1 + tail ≤ X + dd) hC hM => st_rest (d := d) (Q := Q) (f := f') (X := X1) (Y := Y) (tail := tail) (wr := wr) (pg := pg1) (a := a1) (b := b1) (c := c1) tr0 tn kt w1 w9 hrf s13 s15 h13 h15 hf hf2 sb (by omega) Y9 w3 hC hM
  have no : ∀ {w : Int32} {p : Prop}, nd.1 k = w → ¬ w = 13 → nd.1 k = 13 → p := fun e h z => absurd (e.symm.trans z) h
  have no5 : ∀ {w : Int32} {p : Prop}, nd.1 k = w → ¬ (w = 15 ∨ w = 17) → nd.1 k = 15 ∨ nd.1 k = 17 → p := fun e h z => absurd (by rw [e] at z; exact z) h
  rcases sc with ⟨z, -⟩ | ⟨z, -⟩ | ⟨z, -⟩ | ⟨z, -⟩ | ⟨z, -⟩ | ⟨z, -⟩ | ⟨e, j, hj, ev, hd⟩ | ⟨e, hd⟩ | ⟨e, ⟨v1, v2, ek, v9⟩, j, hj, ev, hd⟩ | ⟨e, hd⟩ | ⟨e, v1, v9, sh⟩ | ⟨e, v1, v9, ek, hd⟩ | ⟨e, v, ev, v9, hd⟩
  · rw [z] at w1; exact absurd w1 (by decide)
  · rw [z] at w1; exact absurd w1 (by decide)
  · rw [z] at w1; exact absurd w1 (by decide)
  · rcases z with z | z | z | z | z | z | z <;> rw [z] at w1 <;> exact absurd w1 (by decide)
  · rw [z] at w9; exact absurd w9 (by decide)
  · rw [z] at w9; exact absurd w9 (by decide)
  · dsimp only at hd
    rcases e with e | e | e
    · rw [e] at hd
      have kl : kln 10 = 3 := by decide
      obtain ⟨pg1, a1, b1, X1, hC, hM, w3, b3⟩ := stw_set (dd := dd) (tail := 2) tr0 kn e hj ev (by omega) w2 (by omega) hC hM
      exact go (wr := 0) (no e (by decide)) (no5 e (by decide)) (no e (by decide)) (no5 e (by decide)) (fun _ => Nat.le_refl _) (by omega) w3 b3 hC hM
    · rw [e] at hd
      have kl : kln 18 = 3 := by decide
      obtain ⟨pg1, a1, b1, X1, hC, hM, w3, b3⟩ := stw_ask (dd := dd) (tail := 2) tr0 kn e hj ev (by omega) w2 (by omega) hC hM
      exact go (wr := 0) (no e (by decide)) (no5 e (by decide)) (no e (by decide)) (no5 e (by decide)) (fun _ => Nat.le_refl _) (by omega) w3 b3 hC hM
    · rw [e] at hd
      have kl : kln 19 = 2 := by decide
      obtain ⟨pg1, a1, b1, X1, hC, hM, w3, b3⟩ := stw_do (dd := dd) (tail := 2) tr0 kn e hj ev (by omega) w2 (by omega) hC hM
      exact go (wr := 0) (no e (by decide)) (no5 e (by decide)) (no e (by decide)) (no5 e (by decide)) (fun _ => Nat.le_refl _) (by omega) w3 b3 hC hM
  · rcases e with e | e | e | e
    · rw [e] at hd
      have kl : kln 11 = 4 := by decide
      obtain ⟨pg1, a1, b1, X1, hC, hM, w3, b3⟩ := stw_wait (dd := dd) (tail := 2) tr0 kn e (by omega) w2 (by omega) hC hM
      exact go (wr := 0) (no e (by decide)) (no5 e (by decide)) (no e (by decide)) (no5 e (by decide)) (fun _ => Nat.le_refl _) (by omega) w3 b3 hC hM
    · rw [e] at hd
      have kl : kln 12 = 5 := by decide
      obtain ⟨pg1, a1, b1, X1, hC, hM, w3, b3⟩ := stw_until (dd := dd) (tail := 2) tr0 kn e (by omega) w2 (by omega) hC hM
      exact go (wr := 0) (no e (by decide)) (no5 e (by decide)) (no e (by decide)) (no5 e (by decide)) (fun _ => Nat.le_refl _) (by omega) w3 b3 hC hM
    · rw [e] at hd
      have kl : kln 20 = 4 := by decide
      obtain ⟨pg1, a1, b1, X1, hC, hM, w3, b3⟩ := stw_stop (dd := dd) (tail := 2) tr0 kn e (by omega) w2 (by omega) hC hM
      exact go (wr := 0) (no e (by decide)) (no5 e (by decide)) (no e (by decide)) (no5 e (by decide)) (fun _ => Nat.le_refl _) (by omega) w3 b3 hC hM
    · rw [e] at hd
      have kl : kln 21 = 4 := by decide
      obtain ⟨pg1, a1, b1, X1, hC, hM, w3, b3⟩ := stw_hold (dd := dd) (tail := 2) tr0 kn e (by omega) w2 (by omega) hC hM
      exact go (wr := 0) (no e (by decide)) (no5 e (by decide)) (no e (by decide)) (no5 e (by decide)) (fun _ => Nat.le_refl _) (by omega) w3 b3 hC hM
  · dsimp only at hd
    obtain ⟨k1, k2, hl, ek1, ek2⟩ := map2 ek
    obtain ⟨pg1, a1, b1, X1, hC, hM, w3, b3⟩ := stw_ramp (dd := dd) (tail := 5) tr0 kn e hj ev (by omega) w2 (by omega) hC hM
    exact go (wr := 3) (fun _ => ⟨by rw [hl]; rfl, fun h0 => by simp only [hl, List.getElem_cons_zero]; rw [ek1]; exact v9⟩) (no5 e (by decide)) (fun _ => Nat.le_refl _) (no5 e (by decide)) (fun _ => Nat.le_refl _) (by omega) w3 b3 hC hM
  · rcases e with e | e
    · rw [e] at hd
      have kl : kln 14 = 3 := by decide
      obtain ⟨pg1, a1, b1, X1, hC, hM, w3, b3⟩ := stw_par (dd := dd) (tail := 0) tr0 kn e (by omega) w2 (by omega) hC hM
      exact go (wr := 0) (no e (by decide)) (no5 e (by decide)) (no e (by decide)) (no5 e (by decide)) (fun z => by rw [e] at z; exact absurd z (by decide)) (by omega) w3 b3 hC hM
    · rw [e] at hd
      have kl : kln 16 = 6 := by decide
      obtain ⟨pg1, a1, b1, X1, hC, hM, w3, b3⟩ := stw_repeat (dd := dd) (tail := 0) tr0 kn e (by omega) w2 (by omega) hC hM
      exact go (wr := 0) (no e (by decide)) (no5 e (by decide)) (no e (by decide)) (no5 e (by decide)) (fun z => by rw [e] at z; exact absurd z (by decide)) (by omega) w3 b3 hC hM
  · rcases sh with ⟨ek, hd⟩ | ⟨ek, hd⟩
    · obtain ⟨k1, k2, hl, ek1, ek2⟩ := map2 ek
      obtain ⟨pg1, a1, b1, X1, hC, hM, w3, b3⟩ := stw_if (dd := dd) (tail := 0) tr0 kn e (by omega) w2 (by omega) hC hM
      refine go (wr := 0) (no e (by decide)) (fun _ => ⟨by rw [hl]; show 2 ≤ 3; decide, fun j hj => ?_⟩) (no e (by decide)) (fun _ z => by rw [hl] at z; exact absurd z (show ¬ (2 = 3) by decide)) (fun z => by rw [e] at z; exact absurd z (by decide)) (by omega) w3 b3 hC hM
      revert hj
      rw [hl]
      intro hj
      match j, hj with
      | 0, hj => exact ⟨fun _ => by show nd.1 k1 ≤ 9; rw [ek1]; exact v9, fun z => absurd z (by decide)⟩
      | 1, hj => exact ⟨fun z => absurd z (by decide), fun _ => ek2⟩
      | j + 2, hj => exact absurd hj (by show ¬ j + 2 < 2; omega)
    · obtain ⟨k1, k2, k3, hl, ek1, ek2, ek3⟩ := map3 ek
      obtain ⟨pg1, a1, b1, X1, hC, hM, w3, b3⟩ := stw_if (dd := dd) (tail := 5) tr0 kn e (by omega) w2 (by omega) hC hM
      refine go (wr := 5) (no e (by decide)) (fun _ => ⟨by rw [hl]; show 3 ≤ 3; decide, fun j hj => ?_⟩) (no e (by decide)) (fun _ _ => Nat.le_refl _) (fun z => by rw [e] at z; exact absurd z (by decide)) (by omega) w3 b3 hC hM
      revert hj
      rw [hl]
      intro hj
      match j, hj with
      | 0, hj => exact ⟨fun _ => by show nd.1 k1 ≤ 9; rw [ek1]; exact v9, fun z => absurd z (by decide)⟩
      | 1, hj => exact ⟨fun z => absurd z (by decide), fun _ => ek2⟩
      | 2, hj => exact ⟨fun z => absurd z (by decide), fun _ => ek3⟩
      | j + 3, hj => exact absurd hj (by show ¬ j + 3 < 3; omega)
  · obtain ⟨k1, k2, k3, hl, ek1, ek2, ek3⟩ := map3 ek
    obtain ⟨pg1, a1, b1, X1, hC, hM, w3, b3⟩ := stw_limit (dd := dd) (tail := 5) tr0 kn e (by omega) w2 (by omega) hC hM
    refine go (wr := 5) (no e (by decide)) (fun _ => ⟨by rw [hl]; show 3 ≤ 3; decide, fun j hj => ?_⟩) (no e (by decide)) (fun _ _ => Nat.le_refl _) (fun z => by rw [e] at z; exact absurd z (by decide)) (by omega) w3 b3 hC hM
    revert hj
    rw [hl]
    intro hj
    match j, hj with
    | 0, hj => exact ⟨fun _ => by show nd.1 k1 ≤ 9; rw [ek1]; exact v9, fun z => absurd z (by decide)⟩
    | 1, hj => exact ⟨fun z => absurd z (by decide), fun _ => ek2⟩
    | 2, hj => exact ⟨fun z => absurd z (by decide), fun _ => ek3⟩
    | j + 3, hj => exact absurd hj (by show ¬ j + 3 < 3; omega)
  · obtain ⟨pg1, a1, b1, X1, hC, hM, w3, b3⟩ := stw_act (dd := dd) (tail := 2) tr0 kn e ev v9 (by omega) w2 (by omega) hC hM
    exact go (wr := 0) (no e (by decide)) (no5 e (by decide)) (no e (by decide)) (no5 e (by decide)) (fun _ => Nat.le_refl _) (by omega) w3 b3 hC hM
/-- statements and blocks, whatever lies in them -/
theorem sim_all {kw : T_Kw} {nm : T_Nm} {nd : T_Nd} {m : T_Mo} {n cn : Nat} {kf : Nat → List Nat} {PS : Nat → Nat} {K : T_Pg → Int32 → Int32 → Int32 → Prop} {post : Unit → T_Pg → Prop} {top : Nat} {i d : Nat} (tr : TR nm nd m kw n cn kf PS) (tn : top < n) : ∀ (k : Nat), k ≤ top → (∀ e, nd.1 k = 23 → HB kw nm nd K post top m i PS (wp_Mo_blockOut d e) k) ∧ (∀ e, 10 ≤ nd.1 k → nd.1 k ≤ 22 → HS kw nm nd K post top m i PS d (wp_Mo_blockOut d e) k) := by
  intro k
  induction k using Nat.strongRecOn with
  | ind k ih =>
  intro kt
  refine ⟨fun e ew => ?_, fun e w1 w9 => sim_stmt tr tn kt w1 w9 (fun q hq eq => (ih q hq (by omega)).1 e eq)⟩
  cases e with
  | zero => intro f s X Y pg a b c Q sb bud Y9 w2 hC hM; exact False.elim hM
  | succ e => exact sim_block tr tn kt ew (fun q hq z1 z2 => (ih q hq (by omega)).2 e z1 z2)

