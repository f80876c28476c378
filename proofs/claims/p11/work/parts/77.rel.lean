theorem iv_held_L {nd : T_Nd} {n9 : Nat} (e : nd.2.2.2.2.2.2.2.2.2.2.1 = Int32.ofNat n9) (b9 : n9 ≤ 1000) {K : Int32 → Int32 → Int32 → Int32 → Int32 → Prop} {post : Int32 → Unit → Prop} {x1 x3 : Int32} {j : Nat} (j9 : j ≤ 1000) : ∀ (d : Nat) (l : List Nat) (n s : Nat) (x4 : Int32), wp_Nd_heldBy_L39 nd K post n x1 (Int32.ofNat j) x3 x4 (Int32.ofNat s) → NX nd.2.2.2.2.2.2.2.2.1 x4 l → (∀ k, k ∈ l → k < n9) → s + d = j → ∀ (hd : d < l.length), ∃ x5, K x1 (Int32.ofNat j) x3 (Int32.ofNat l[d]) x5 := by
  intro d
  induction d with
  | zero =>
    intro l n s x4 h nx kb es hd
    cases n with
    | zero => exact False.elim h
    | succ n =>
    rw [wp_Nd_heldBy_L39] at h
    cases l with
    | nil => exact absurd hd (Nat.not_lt_zero _)
    | cons k t =>
    obtain ⟨e4, -⟩ := nx
    have h2 := h.1 (by rw [on_le (by omega) (by omega)]; omega)
    rw [e4] at h2
    exact ⟨_, h2⟩
  | succ d ih =>
    intro l n s x4 h nx kb es hd
    cases n with
    | zero => exact False.elim h
    | succ n =>
    rw [wp_Nd_heldBy_L39] at h
    cases l with
    | nil => exact absurd hd (Nat.not_lt_zero _)
    | cons k t =>
    obtain ⟨e4, nx⟩ := nx
    replace h := h.2 (by rw [on_le (by omega) (by omega)]; omega)
    unfold wp_Nd_nextOf at h
    have kn := kb k List.mem_cons_self
    rw [e4] at h
    replace h := ((iv_hasG e b9 kn h).2 (by decide)).2
    rw [ix_on (by omega), on_succ (by omega)] at h
    rw [List.length_cons] at hd
    exact ih t n (s + 1) _ h nx (fun k hk => kb k (List.mem_cons_of_mem _ hk)) (by omega) (by omega)
theorem kid_ix {half : Int32} (hh : half = 0 ∨ half = 1) {x y : Nat} (h9 : x + y < 1000) : ((1000 : Int32) * half + Int32.ofNat x + Int32.ofNat y).toNatClampNeg = Bs ((1 : Int32) - half) + x + y := by
  rw [Int32.add_assoc, on_add (by omega), no_ix hh h9]; omega
set_option maxHeartbeats 1000000 in
theorem rl_child {nm : T_Nm} {nd : T_Nd} {m : T_Mo} {st : T_St} {pr : T_Pr} {a b : Int32} {PC PM : Int32 → Unit → Prop} (f : FN nm nd m) (hC : wp_St_child st pr nd a b PC) (hM : wp_Mo_child m a b PM) : ∃ r, PC r () ∧ PM r () := by
  obtain ⟨hh, n, km, c, asc, a1, a2, a3, a4, a5, -, -, -, -, a10, a11, a12, a13, a14, a15, -⟩ := f
  unfold wp_St_child wp_Pr_nodes wp_Nd_heldBy at hC
  unfold wp_Mo_child at hM
  rcases br_el hC with ⟨q, hC⟩ | ⟨q, hC⟩
  · replace hM := hM.1 q
    rcases br_el hC with ⟨q1, hC⟩ | ⟨q1, hC⟩
    · exact ⟨_, hC, hM.1 q1⟩
    · replace hM := hM.2 q1
      rw [a12] at hC
      rw [a10] at hM
      rcases br_el hC with ⟨q2, hC⟩ | ⟨q2, hC⟩
      · replace hM := hM.2 (Int32.not_le.mpr q2)
        obtain ⟨j, hj, ej⟩ := nat_of (by omega) q1 (Int32.not_le.mpr q2)
        unfold wp_Nd_firstOf at hC
        obtain ⟨k, hC⟩ := hC.1 q
        rw [ej] at hC
        obtain ⟨x5, hC⟩ := iv_held_L a1 a3 (by omega) j asc k 0 _ hC a14 a15 (by omega) hj
        replace hM := hM.2
        rw [ej, no_ix hh (by omega), KL_get asc _ a13 j hj] at hM
        exact ⟨_, hC, hM⟩
      · exact ⟨_, hC, hM.1 (Int32.not_lt.mp q2)⟩
  · replace hM := hM.2 q
    unfold wp_Nd_sizeOf at hC
    rcases rl_has a1 a2 a3 hC hM with ⟨i, hi, ei, hC, hM⟩ | ⟨hC, hM⟩
    · replace hC := (hC.2 (by decide)).2
      replace hM := hM.2 (by decide)
      obtain ⟨-, -, -, -, kl, x, g5, g6, g7, g8, g9, g10, -, g11⟩ := a5 i hi
      have g5' : m.1.2.2.2.1 (Bs ((1 : Int32) - m.1.2.1.2.1) + i) = Int32.ofNat x := g5
      have g6' : m.1.2.2.2.2.1 (Bs ((1 : Int32) - m.1.2.1.2.1) + i) = Int32.ofNat kl.length := g6
      have g8' : KL m.1.2.2.2.2.2 (Bs ((1 : Int32) - m.1.2.1.2.1) + x) kl := g8
      rw [ei, ix_on (by omega), g7] at hC
      rcases br_el hC with ⟨q1, hC⟩ | ⟨q1, hC⟩
      · exact ⟨_, hC, hM.1 q1⟩
      · replace hM := hM.2 q1
        unfold wp_Mo_node1 at hM
        replace hM := hM.2
        rw [ei, no_ix hh (by omega), g6'] at hM
        rcases br_el hC with ⟨q2, hC⟩ | ⟨q2, hC⟩
        · replace hM := hM.2 (Int32.not_le.mpr q2)
          obtain ⟨j, hj, ej⟩ := nat_of (by omega) q1 (Int32.not_le.mpr q2)
          unfold wp_Nd_firstOf at hC
          replace hC := hC.2 (by rw [← ei]; exact q)
          replace hC := ((iv_hasG a1 a3 hi hC).2 (by decide)).2
          obtain ⟨k, hC⟩ := hC
          rw [ej, ix_on (by omega)] at hC
          obtain ⟨x5, hC⟩ := iv_held_L a1 a3 (by omega) j kl k 0 _ hC g10 (fun k hk => by have := g11 k hk; omega) (by omega) hj
          unfold wp_Mo_kid wp_Mo_node1 at hM
          replace hM := hM.2.2
          rw [no_ix hh (by omega), g5', ej, kid_ix hh (by omega), KL_get kl _ g8' j hj] at hM
          exact ⟨_, hC, hM⟩
        · exact ⟨_, hC, hM.1 (Int32.not_lt.mp q2)⟩
    · replace hC := hC.1 rfl
      replace hM := hM.1 rfl
      rcases br_el hC with ⟨q1, hC⟩ | ⟨q1, hC⟩
      · exact ⟨_, hC, hM⟩
      · exact ⟨_, hC.2 (fun q2 => q1 (Int32.lt_trans q2 (by decide))), hM⟩
theorem iv_noblock {nd : T_Nd} {K : Int32 → Int32 → Int32 → Int32 → Int32 → Prop} {post : Int32 → Unit → Prop} {n : Nat} {x1 x2 x3 x5 : Int32} (h : wp_Nd_blockOf_L25 nd K post n x1 x2 x3 (-1 : Int32) x5) : K x1 x2 x3 (-1 : Int32) x5 := by
  cases n with
  | zero => exact False.elim h
  | succ n =>
  rw [wp_Nd_blockOf_L25] at h
  rcases br_el h with ⟨q, h⟩ | ⟨q, h⟩
  · exact h
  · unfold wp_Nd_has at h
    exact (h.1 (by decide)).1 rfl
set_option maxHeartbeats 1000000 in
/-- along the nodes held by one -/
theorem rl_block_L {nm : T_Nm} {nd : T_Nd} {m : T_Mo} {n9 km i x : Nat} {kl : List Nat} {PC PM : Int32 → Unit → Prop} {b : Int32} (hh : m.1.2.1.2.1 = 0 ∨ m.1.2.1.2.1 = 1) (e : nd.2.2.2.2.2.2.2.2.2.2.1 = Int32.ofNat n9) (b9 : n9 ≤ 1000) (k9 : x + kl.length ≤ km) (km9 : km ≤ n9) (hi : i < n9) (a5 : ∀ i, i < n9 → NRi nd (mr m) km i) (g5 : m.1.2.2.2.1 (Bs ((1 : Int32) - m.1.2.1.2.1) + i) = Int32.ofNat x) (g6 : m.1.2.2.2.2.1 (Bs ((1 : Int32) - m.1.2.1.2.1) + i) = Int32.ofNat kl.length) (g8 : KL m.1.2.2.2.2.2 (Bs ((1 : Int32) - m.1.2.1.2.1) + x) kl) (kb : ∀ k, k ∈ kl → k < n9) : ∀ (t : List Nat) (kC kM s : Nat) (x3 x4 : Int32), wp_Nd_blockOf_L25 nd (fun (x1 : Int32) (x2 : Int32) (x3 : Int32) (x4 : Int32) (x5 : Int32) => PC (-1 : Int32) ()) PC kC (Int32.ofNat i) b x3 x4 (Int32.ofNat s) → wp_Mo_branch_L19 m (fun (x1 : Int32) (x2 : Int32) (x3 : Int32) (x4 : Int32) => PM (-1 : Int32) ()) PM kM (Int32.ofNat i) b x3 (Int32.ofNat s) → NX nd.2.2.2.2.2.2.2.2.1 x4 t → s + t.length = kl.length → (∀ j (h1 : j < t.length) (h2 : s + j < kl.length), t[j] = kl[s + j]) → ∃ r, PC r () ∧ PM r () := by
  intro t
  induction t with
  | nil =>
    intro kC kM s x3 x4 hC hM nx es _
    have e4 : x4 = -1 := nx
    have es' : s = kl.length := es
    cases kM with
    | zero => exact False.elim hM
    | succ kM =>
    rw [wp_Mo_branch_L19] at hM
    unfold wp_Mo_node1 at hM
    replace hM := hM.2
    rw [no_ix hh (by omega), g6] at hM
    rw [e4] at hC
    exact ⟨_, iv_noblock hC, hM.1 (by rw [on_le (by omega) (by omega)]; omega)⟩
  | cons k t ih =>
    intro kC kM s x3 x4 hC hM nx es et
    rw [List.length_cons] at es
    obtain ⟨e4, nx⟩ := nx
    have sk : s < kl.length := by omega
    have ek : k = kl[s] := et 0 (by rw [List.length_cons]; omega) (by omega)
    have kn : k < n9 := kb k (by rw [ek]; exact List.getElem_mem _)
    cases kM with
    | zero => exact False.elim hM
    | succ kM =>
    cases kC with
    | zero => exact False.elim hC
    | succ kC =>
    rw [wp_Mo_branch_L19] at hM
    unfold wp_Mo_kid wp_Mo_node1 at hM
    dsimp only at hM
    replace hM := hM.2
    rw [no_ix hh (by omega), g6] at hM
    replace hM := (hM.2 (by rw [on_le (by omega) (by omega)]; omega)).2.2
    rw [g5, kid_ix hh (by omega), KL_get kl _ g8 s sk, ← ek] at hM
    replace hM := hM.2
    rw [no_ix hh (by omega)] at hM
    have gk : nd.1 k = m.1.2.1.2.2.2 (Bs ((1 : Int32) - m.1.2.1.2.1) + k) := (a5 k kn).1
    rw [← gk] at hM
    rw [wp_Nd_blockOf_L25] at hC
    replace hC := hC.2 (by rw [show (1070 : Int32) = Int32.ofNat 1070 from rfl, on_le (by omega) (by omega)]; omega)
    rw [e4] at hC
    replace hC := ((iv_hasG e b9 kn hC).2 (by decide)).2
    rw [ix_on (by omega), on_succ (by omega)] at hC
    rw [on_succ (by omega)] at hM
    have et' : ∀ j (h1 : j < t.length) (h2 : s + 1 + j < kl.length), t[j] = kl[s + 1 + j] := fun j h1 h2 => by
      have := et (j + 1) (by rw [List.length_cons]; omega) (by omega)
      rw [List.getElem_cons_succ] at this
      rw [this]
      congr 1
      omega
    rcases br_el hC with ⟨q, hC⟩ | ⟨q, hC⟩
    · replace hM := hM.1 q
      rcases br_el hC with ⟨q1, hC⟩ | ⟨q1, hC⟩
      · replace hM := (hM.1 q1).2.2
        exact ⟨_, hC, hM⟩
      · exact ih kC kM (s + 1) _ _ hC.2 (hM.2 q1) nx (by omega) et'
    · exact ih kC kM (s + 1) _ _ hC.2 (hM.2 q) nx (by omega) et'
set_option maxHeartbeats 1000000 in
theorem rl_branch {nm : T_Nm} {nd : T_Nd} {m : T_Mo} {st : T_St} {pr : T_Pr} {a b : Int32} {PC PM : Int32 → Unit → Prop} (f : FN nm nd m) (hC : wp_St_branch st pr nd a b PC) (hM : wp_Mo_branch m a b PM) : ∃ r, PC r () ∧ PM r () := by
  obtain ⟨hh, n, km, c, asc, a1, a2, a3, a4, a5, -⟩ := f
  unfold wp_St_branch wp_Pr_nodes wp_Nd_blockOf at hC
  unfold wp_Mo_branch at hM
  rcases br_el hC with ⟨q, hC⟩ | ⟨q, hC⟩
  · rcases rl_has a1 a2 a3 hC hM with ⟨i, hi, ei, hC, hM⟩ | ⟨hC, hM⟩
    · replace hC := (hC.2 (by decide)).2
      replace hM := (hM.2 (by decide)).1 q
      obtain ⟨kC, hC⟩ := hC
      obtain ⟨kM, hM⟩ := hM
      obtain ⟨-, -, -, -, kl, x, g5, g6, g7, g8, g9, g10, -, g11⟩ := a5 i hi
      rw [ei, ix_on (by omega)] at hC
      rw [ei] at hM
      exact rl_block_L (nm := nm) hh a1 a3 g9 a4 hi a5 g5 g6 g8 (fun k hk => by have := g11 k hk; omega) kl kC kM 0 _ _ hC hM g10 (by omega) (fun j h1 h2 => by congr 1; omega)
    · obtain ⟨kC, hC⟩ := hC.1 rfl
      exact ⟨_, iv_noblock hC, hM.1 rfl⟩
  · obtain ⟨r, u, -, qb⟩ := dt_Mo_isNode hM
    replace hM := qb _ hM
    rcases br_el hM with ⟨q1, hM⟩ | ⟨q1, hM⟩
    · exact ⟨_, hC, hM⟩
    · exact ⟨_, hC, hM.2 q⟩

