theorem LT_get {kd la : Nat → Int32} : ∀ (l : List Nat) (s : Prop), LT kd la s l → ∀ j (hj : j < l.length), (¬ la l[j] = 0 ↔ (s ∨ ∃ i, ∃ (hi : i < l.length), i < j ∧ kd l[i] = 20))
  | [], s, _, j, hj => absurd hj (Nat.not_lt_zero _)
  | k :: t, s, h, 0, hj => h.1.trans ⟨Or.inl, fun z => z.elim id (fun ⟨i, _, q, _⟩ => absurd q (Nat.not_lt_zero _))⟩
  | k :: t, s, h, j + 1, hj => by
    have := LT_get t _ h.2 j (by rw [List.length_cons] at hj; omega)
    rw [List.getElem_cons_succ]
    refine this.trans ⟨fun z => ?_, fun z => ?_⟩
    · rcases z with (z | z) | ⟨i, h1, h2, h3⟩
      · exact Or.inl z
      · exact Or.inr ⟨0, by rw [List.length_cons]; omega, by omega, z⟩
      · exact Or.inr ⟨i + 1, by rw [List.length_cons]; omega, by omega, by rw [List.getElem_cons_succ]; exact h3⟩
    · rcases z with z | ⟨i, h1, h2, h3⟩
      · exact Or.inl (Or.inl z)
      · cases i with
        | zero => exact Or.inl (Or.inr h3)
        | succ i =>
          rw [List.getElem_cons_succ] at h3
          exact Or.inr ⟨i, by rw [List.length_cons] at h1; omega, by omega, h3⟩
/-- the shown program's nodes, each with the list of its kids -/
def FK (nd : T_Nd) (m : T_Mo) (n : Nat) (kf : Nat → List Nat) (asc : List Nat) : Prop := (m.1.2.1.2.1 = 0 ∨ m.1.2.1.2.1 = 1) ∧ nd.2.2.2.2.2.2.2.2.2.2.1 = Int32.ofNat n ∧ m.2.1.2.2.2.2 = Int32.ofNat n ∧ n ≤ 1000 ∧ (∀ i, i < n → nd.1 i = m.1.2.1.2.2.2 (Bs ((1 : Int32) - m.1.2.1.2.1) + i) ∧ nd.2.2.1 i = m.1.2.2.1.1 (Bs ((1 : Int32) - m.1.2.1.2.1) + i) ∧ ∃ a, m.1.2.2.2.1 (Bs ((1 : Int32) - m.1.2.1.2.1) + i) = Int32.ofNat a ∧ m.1.2.2.2.2.1 (Bs ((1 : Int32) - m.1.2.1.2.1) + i) = Int32.ofNat (kf i).length ∧ KL m.1.2.2.2.2.2 (Bs ((1 : Int32) - m.1.2.1.2.1) + a) (kf i) ∧ a + (kf i).length ≤ 1000 ∧ LT nd.1 nd.2.2.2.2.2.2.2.2.2.1 False (kf i) ∧ CH nd.2.2.2.2.1 (nd.2.2.2.2.1 i).toNatClampNeg i (kf i).reverse) ∧ m.2.2.1.1.1 = Int32.ofNat asc.length ∧ asc.length ≤ n ∧ KL m.2.1.1.1.2 (Bs ((1 : Int32) - m.1.2.1.2.1)) asc ∧ LT nd.1 nd.2.2.2.2.2.2.2.2.2.1 False asc ∧ CH nd.2.2.2.2.1 0 n asc.reverse
theorem pick {n : Nat} {P : Nat → List Nat → Prop} (h : ∀ i, i < n → ∃ l, P i l) : ∃ f : Nat → List Nat, ∀ i, i < n → P i (f i) := by
  refine ⟨fun i => if hi : i < n then Classical.choose (h i hi) else [], fun i hi => ?_⟩
  have e : (if hi : i < n then Classical.choose (h i hi) else []) = Classical.choose (h i hi) := dif_pos hi
  show P i (if hi : i < n then Classical.choose (h i hi) else [])
  rw [e]
  exact Classical.choose_spec (h i hi)
theorem FK_FN {nm : T_Nm} {nd : T_Nd} {m : T_Mo} (f : FN nm nd m) : ∃ (n c : Nat) (kf : Nat → List Nat) (asc : List Nat), FK nd m n kf asc ∧ nm.2.2.2.2 = Int32.ofNat c ∧ m.2.2.1.1.2 = Int32.ofNat c ∧ c ≤ 100 ∧ ∀ j, j < c → sr (nm.2.1 j) (m.2.1.2.1.2 (Ns ((1 : Int32) - m.1.2.1.2.1) + j)) := by
  obtain ⟨hh, n, km, c, asc, a1, a2, a3, a4, a5, a6, a7, a8, a9, a10, a11, a12, a13, a14, a15, a16, a17, a18⟩ := f
  obtain ⟨kf, hk⟩ := pick (n := n) (P := fun i l => ∃ a, m.1.2.2.2.1 (Bs ((1 : Int32) - m.1.2.1.2.1) + i) = Int32.ofNat a ∧ m.1.2.2.2.2.1 (Bs ((1 : Int32) - m.1.2.1.2.1) + i) = Int32.ofNat l.length ∧ KL m.1.2.2.2.2.2 (Bs ((1 : Int32) - m.1.2.1.2.1) + a) l ∧ a + l.length ≤ 1000 ∧ LT nd.1 nd.2.2.2.2.2.2.2.2.2.1 False l ∧ CH nd.2.2.2.2.1 (nd.2.2.2.2.1 i).toNatClampNeg i l.reverse) (fun i hi => by
    obtain ⟨h1, h2, h3, h4, kl, a, h5, h6, h7, h8, h9, h10, hL, h11⟩ := a5 i hi
    exact ⟨kl, a, h5, h6, h8, by omega, hL.1, hL.2.1⟩)
  exact ⟨n, c, kf, asc, ⟨hh, a1, a2, a3, fun i hi => ⟨(a5 i hi).1, (a5 i hi).2.2.1, hk i hi⟩, a10, a11, a13, a16, a17⟩, a6, a7, a8, fun j hj => (a9 j hj).2.2.2.2.1⟩
theorem kl_lt {nd : T_Nd} {m : T_Mo} {n : Nat} {kf : Nat → List Nat} {asc : List Nat} (f : FK nd m n kf asc) {i k : Nat} (hi : i < n) (hk : k ∈ kf i) : k < i := by
  obtain ⟨-, -, -, -, per, -⟩ := f
  obtain ⟨-, -, a, -, -, -, -, -, ch⟩ := per i hi
  exact (CH_in _ _ ch k (List.mem_reverse.mpr hk)).2
theorem asc_n {nd : T_Nd} {m : T_Mo} {n : Nat} {kf : Nat → List Nat} {asc : List Nat} (f : FK nd m n kf asc) {k : Nat} (hk : k ∈ asc) : k < n := (CH_in _ _ f.2.2.2.2.2.2.2.2.2 k (List.mem_reverse.mpr hk)).2
/-- what lies within a node's numbers is a kid of some node -/
theorem in_kid {nd : T_Nd} {m : T_Mo} {n : Nat} {kf : Nat → List Nat} {asc : List Nat} (f : FK nd m n kf asc) : ∀ (d r : Nat), r ≤ d → r < n → ∀ i, (nd.2.2.2.2.1 r).toNatClampNeg ≤ i → i < r → ∃ b, b < n ∧ i ∈ kf b
  | 0, r, hd, hr, i, h1, h2 => by omega
  | d + 1, r, hd, hr, i, h1, h2 => by
    have f0 := f
    obtain ⟨-, -, -, -, per, -⟩ := f
    obtain ⟨-, -, a, -, -, -, -, -, ch⟩ := per r hr
    obtain ⟨s, s1, s2, s3⟩ := CH_cover _ _ ch i h1 h2
    have sl := (CH_in _ _ ch s s1).2
    rcases Nat.lt_or_ge i s with q | q
    · exact in_kid f0 d s (by omega) (by omega) i s2 q
    · have e : i = s := by omega
      subst e
      exact ⟨r, hr, List.mem_reverse.mp s1⟩
/-- each node lies within a top -/
theorem in_top {nd : T_Nd} {m : T_Mo} {n : Nat} {kf : Nat → List Nat} {asc : List Nat} (f : FK nd m n kf asc) {i : Nat} (hi : i < n) : ∃ r, r ∈ asc ∧ r < n ∧ (nd.2.2.2.2.1 r).toNatClampNeg ≤ i ∧ i ≤ r := by
  obtain ⟨s, s1, s2, s3⟩ := CH_cover _ _ f.2.2.2.2.2.2.2.2.2 i (Nat.zero_le _) hi
  exact ⟨s, List.mem_reverse.mp s1, asc_n f (List.mem_reverse.mp s1), s2, s3⟩
theorem in_some {nd : T_Nd} {m : T_Mo} {n : Nat} {kf : Nat → List Nat} {asc : List Nat} (f : FK nd m n kf asc) {i : Nat} (hi : i < n) : i ∈ asc ∨ ∃ b, b < n ∧ i ∈ kf b := by
  obtain ⟨r, r1, r2, r3, r4⟩ := in_top f hi
  rcases Nat.lt_or_ge i r with q | q
  · exact Or.inr (in_kid f r r (Nat.le_refl _) r2 i r3 q)
  · have e : i = r := by omega
    rw [e]; exact Or.inl r1
theorem i_nn {k : Nat} (h : k < 1000) : (0 : Int32) ≤ Int32.ofNat k := (on_n1 (by omega)).2.2
/-- what may be a kid of what -/
theorem kk_of {nd : T_Nd} {m : T_Mo} {n : Nat} {kf : Nat → List Nat} {asc : List Nat} (fin : Fin m) (f : FK nd m n kf asc) {i k : Nat} (hi : i < n) (hk : k ∈ kf i) : KK (nd.1 i) (nd.1 k) ∧ nd.1 i ≤ 24 := by
  have kl := kl_lt f hi hk
  obtain ⟨hh, e1, e2, n9, per, -⟩ := f
  obtain ⟨p1, -, a, p2, p3, p4, p5, -⟩ := per i hi
  have p1k := (per k (by omega)).1
  obtain ⟨j, hj, ej⟩ := List.getElem_of_mem hk
  obtain ⟨-, ⟨km, -, -, pr⟩, -⟩ := fin
  have no := pr.1 (Int32.ofNat i) (i_nn (by omega)) (by rw [e2, on_lt (by omega) (by omega)]; exact hi)
  unfold NOk at no
  have x1 := no_ix hh (i := i) (by omega)
  have x1' : ((1000 : Int32) * m.1.2.1.2.1 + Int32.ofNat i).toNatClampNeg = Bs ((1 : Int32) - m.1.2.1.2.1) + i := x1
  rw [x1', ← p1, p2, p3] at no
  obtain ⟨⟨-, w9⟩, -, q3, -⟩ := no
  have q := (q3 (Int32.ofNat j) (i_nn (by omega)) (by rw [on_lt (by omega) (by omega)]; exact hj)).2.2
  rw [on_add (by omega)] at q
  have x2 : ((1000 : Int32) * m.1.2.1.2.1 + Int32.ofNat (a + j)).toNatClampNeg = Bs ((1 : Int32) - m.1.2.1.2.1) + (a + j) := no_ix hh (by omega)
  rw [x2, ← Nat.add_assoc, KL_get _ _ p4 j hj, ej] at q
  have x3 : ((1000 : Int32) * m.1.2.1.2.1 + Int32.ofNat k).toNatClampNeg = Bs ((1 : Int32) - m.1.2.1.2.1) + k := no_ix hh (by omega)
  rw [x3, ← p1k] at q
  exact ⟨q, w9⟩
theorem top_of {nd : T_Nd} {m : T_Mo} {n : Nat} {kf : Nat → List Nat} {asc : List Nat} (fin : Fin m) (f : FK nd m n kf asc) {k : Nat} (hk : k ∈ asc) : (10 ≤ nd.1 k ∧ nd.1 k ≤ 22) ∨ nd.1 k = 24 := by
  have kn := asc_n f hk
  obtain ⟨hh, e1, e2, n9, per, t1, t2, t3, -⟩ := f
  have p1k := (per k kn).1
  obtain ⟨j, hj, ej⟩ := List.getElem_of_mem hk
  obtain ⟨-, ⟨km, -, -, pr⟩, -⟩ := fin
  have to := (pr.2.1 (Int32.ofNat j) (i_nn (by omega)) (by rw [t1, on_lt (by omega) (by omega)]; exact hj)).2.2
  have x1 : ((1000 : Int32) * m.1.2.1.2.1 + Int32.ofNat j).toNatClampNeg = Bs ((1 : Int32) - m.1.2.1.2.1) + j := no_ix hh (by omega)
  rw [x1, KL_get _ _ t3 j hj, ej] at to
  have x3 : ((1000 : Int32) * m.1.2.1.2.1 + Int32.ofNat k).toNatClampNeg = Bs ((1 : Int32) - m.1.2.1.2.1) + k := no_ix hh (by omega)
  rw [x3, ← p1k] at to
  exact to
theorem KK_block {w v : Int32} (h : KK w v) (w9 : w ≤ 24) (h1 : 10 ≤ v) (h2 : v ≤ 22) : w = 23 := by unfold KK at h; grind
theorem KK_stop {w v : Int32} (h : KK w 20) (w9 : w ≤ 24) (h2 : KK w v) : 10 ≤ v ∧ v ≤ 22 := by unfold KK at h h2; grind
theorem KK_24 {w : Int32} (h : KK w 24) (w9 : w ≤ 24) : False := by unfold KK at h; grind
/-- the first tops are steps, the others not -/
theorem tp_step {nd : T_Nd} {m : T_Mo} {n : Nat} {kf : Nat → List Nat} {asc : List Nat} (f : FK nd m n kf asc) (s : SF m) : ∃ t0 : Nat, ∀ j (hj : j < asc.length), (nd.1 asc[j] = 24 ↔ j < t0) := by
  have f0 := f
  obtain ⟨hh, e1, e2, n9, per, t1, t2, t3, -⟩ := f
  obtain ⟨n', c, t, t0, b1, b2, b3, b4, b5, b6, b7, b8⟩ := s
  have et : t = asc.length := on_inj (by omega) (by omega) (b5.symm.trans t1)
  refine ⟨t0, fun j hj => ?_⟩
  obtain ⟨p, p1, p2, p3⟩ := b8 j (by omega)
  have ka := asc_n f0 (List.getElem_mem hj)
  rw [KL_get _ _ t3 j hj] at p2
  have ep : asc[j] = p := on_inj (by omega) (by omega) p2
  rw [ep, (per p (by omega)).1]; exact p3
/-- a node that is no statement is not late -/
theorem late_no {nd : T_Nd} {m : T_Mo} {n : Nat} {kf : Nat → List Nat} {asc : List Nat} (fin : Fin m) (f : FK nd m n kf asc) (s : SF m) {i : Nat} (hi : i < n) (ns : ¬ (10 ≤ nd.1 i ∧ nd.1 i ≤ 22)) : nd.2.2.2.2.2.2.2.2.2.1 i = 0 := by
  apply Classical.byContradiction
  intro q
  rcases in_some f hi with h | ⟨b, hb, h⟩
  · have k24 := (top_of fin f h).resolve_left ns
    obtain ⟨j, hj, ej⟩ := List.getElem_of_mem h
    rw [← ej] at q
    rcases (LT_get _ _ f.2.2.2.2.2.2.2.2.1 j hj).mp q with z | ⟨i', h1, h2, h3⟩
    · exact z
    · obtain ⟨t0, tp⟩ := tp_step f s
      rw [← ej] at k24
      have a := (tp j hj).mp k24
      have b := (tp i' h1).mpr (by omega)
      rw [h3] at b
      exact absurd b (by decide)
  · have kk := kk_of fin f hb h
    obtain ⟨j, hj, ej⟩ := List.getElem_of_mem h
    rw [← ej] at q
    obtain ⟨-, -, a, -, -, -, -, lt, -⟩ := f.2.2.2.2.1 b hb
    rcases (LT_get _ _ lt j hj).mp q with z | ⟨i', h1, h2, h3⟩
    · exact z
    · have k2 := (kk_of fin f hb (List.getElem_mem h1)).1
      rw [h3] at k2
      exact ns (KK_stop k2 kk.2 kk.1)
theorem iv_bh4 {nd : T_Nd} {m : T_Mo} {n : Nat} {kf : Nat → List Nat} {asc : List Nat} {i : Nat} {K : Int32 → Int32 → Int32 → Prop} {post : Int32 → Unit → Prop} (f : FK nd m n kf asc) (hi : i < n) : ∀ (t : List Nat) (s g : Nat) (x2 : Int32), wp_Mo_isBehind_L4 m K post g (Int32.ofNat i) x2 (Int32.ofNat s) → s + t.length = asc.length → KL m.2.1.1.1.2 (Bs ((1 : Int32) - m.1.2.1.2.1) + s) t → (∀ k, k ∈ t → k < n) → LT nd.1 nd.2.2.2.2.2.2.2.2.2.1 (¬ x2 = 0) t → (∃ r, post r () ∧ (¬ r = 0 ↔ ¬ nd.2.2.2.2.2.2.2.2.2.1 i = 0)) ∨ (¬ i ∈ t ∧ ∃ y2 y3, K (Int32.ofNat i) y2 y3) := by
  intro t
  obtain ⟨hh, e1, e2, n9, per, t1, t2, -⟩ := f
  induction t with
  | nil =>
    intro s g x2 h es _ _ _
    cases g with
    | zero => exact False.elim h
    | succ g =>
    rw [wp_Mo_isBehind_L4, t1] at h
    have es' : s = asc.length := es
    exact Or.inr ⟨List.not_mem_nil, _, _, h.1 (by rw [on_le (by omega) (by omega)]; omega)⟩
  | cons k t ih =>
    intro s g x2 h es kl kb lt
    cases g with
    | zero => exact False.elim h
    | succ g =>
    rw [List.length_cons] at es
    rw [wp_Mo_isBehind_L4, t1] at h
    replace h := (h.2 (by rw [on_le (by omega) (by omega)]; omega)).2
    have kn := kb k List.mem_cons_self
    unfold wp_Mo_node1 at h
    try dsimp only at h
    rw [no_ix hh (by omega), kl.1, no_ix hh (by omega), on_succ (by omega), ← (per k kn).1] at h
    rcases br_el h with ⟨q, h⟩ | ⟨q, h⟩
    · have ek : k = i := on_inj (by omega) (by omega) q
      exact Or.inl ⟨_, h.2, by rw [← ek]; exact lt.1.symm⟩
    · have ne : ¬ i = k := fun e => q (by rw [e])
      have go : ∀ y : Int32, (¬ y = 0 ↔ (¬ x2 = 0 ∨ nd.1 k = 20)) → wp_Mo_isBehind_L4 m K post g (Int32.ofNat i) y (Int32.ofNat (s + 1)) → (∃ r, post r () ∧ (¬ r = 0 ↔ ¬ nd.2.2.2.2.2.2.2.2.2.1 i = 0)) ∨ (¬ i ∈ k :: t ∧ ∃ y2 y3, K (Int32.ofNat i) y2 y3) := by
        intro y ye h
        rcases ih (s + 1) g y h (by omega) kl.2 (fun k hk => kb k (List.mem_cons_of_mem _ hk)) (LT_congr t _ _ ye.symm lt.2 (fun _ _ => ⟨rfl, rfl⟩)) with z | ⟨z1, z2⟩
        · exact Or.inl z
        · exact Or.inr ⟨fun w => (List.mem_cons.mp w).elim ne z1, z2⟩
      rcases br_el h with ⟨q2, h⟩ | ⟨q2, h⟩
      · rcases br_el h.2 with ⟨q3, h⟩ | ⟨q3, h⟩
        · exact go _ ⟨fun _ => Or.inr q3, fun _ => by decide⟩ h
        · exact go _ ⟨fun w => absurd rfl w, fun w => w.elim (fun w => absurd q2 w) (fun w => absurd w q3)⟩ h
      · exact go _ ⟨fun _ => Or.inl q2, fun _ => by decide⟩ h
set_option maxHeartbeats 1000000 in
theorem iv_bh84 {nd : T_Nd} {m : T_Mo} {n : Nat} {kf : Nat → List Nat} {asc : List Nat} {i b : Nat} {K : Int32 → Int32 → Int32 → Int32 → Prop} {post : Int32 → Unit → Prop} (f : FK nd m n kf asc) (hi : i < n) (hb : b < n) : ∀ (t : List Nat) (s g : Nat) (x2 : Int32), wp_Mo_isBehind_L84 m K post g (Int32.ofNat i) x2 (Int32.ofNat b) (Int32.ofNat s) → s + t.length = (kf b).length → (∀ j (h1 : j < t.length) (h2 : s + j < (kf b).length), t[j] = (kf b)[s + j]) → LT nd.1 nd.2.2.2.2.2.2.2.2.2.1 (¬ x2 = 0) t → (∃ r, post r () ∧ (¬ r = 0 ↔ ¬ nd.2.2.2.2.2.2.2.2.2.1 i = 0)) ∨ ((nd.1 b = 23 → ¬ i ∈ t) ∧ ∃ y2 y4, K (Int32.ofNat i) y2 (Int32.ofNat b) y4) := by
  intro t
  have f0 := f
  obtain ⟨hh, e1, e2, n9, per, -⟩ := f
  obtain ⟨p1, -, a, p2, p3, p4, p5, -⟩ := per b hb
  induction t with
  | nil =>
    intro s g x2 h es _ _
    cases g with
    | zero => exact False.elim h
    | succ g =>
    rw [wp_Mo_isBehind_L84] at h
    unfold wp_Mo_node1 at h
    try dsimp only at h
    replace h := h.2
    rw [no_ix hh (by omega), p3] at h
    have es' : s = (kf b).length := es
    exact Or.inr ⟨fun _ => List.not_mem_nil, _, _, h.1 (by rw [on_le (by omega) (by omega)]; omega)⟩
  | cons k t ih =>
    intro s g x2 h es et lt
    cases g with
    | zero => exact False.elim h
    | succ g =>
    rw [List.length_cons] at es
    rw [wp_Mo_isBehind_L84] at h
    unfold wp_Mo_kid wp_Mo_node1 at h
    try dsimp only at h
    replace h := h.2
    rw [no_ix hh (by omega), p3] at h
    replace h := (h.2 (by rw [on_le (by omega) (by omega)]; omega)).2
    have sk : s < (kf b).length := by omega
    have ek : k = (kf b)[s] := et 0 (by rw [List.length_cons]; omega) (by omega)
    have kn : k < n := by have := kl_lt (k := k) f0 hb (by rw [ek]; exact List.getElem_mem sk); omega
    rw [← p1] at h
    rcases br_el h with ⟨q, h⟩ | ⟨q, h⟩
    · replace h := h.2.2
      rw [p2, kid_ix hh (by omega), KL_get _ _ p4 s sk, ← ek, no_ix hh (by omega), ← (per k kn).1, on_succ (by omega)] at h
      have et' : ∀ j (h1 : j < t.length) (h2 : s + 1 + j < (kf b).length), t[j] = (kf b)[s + 1 + j] := fun j h1 h2 => by
        have := et (j + 1) (by rw [List.length_cons]; omega) (by omega)
        rw [List.getElem_cons_succ] at this
        rw [this]
        congr 1
        omega
      rcases br_el h with ⟨q1, h⟩ | ⟨q1, h⟩
      · have ek : k = i := on_inj (by omega) (by omega) q1
        exact Or.inl ⟨_, h.2, by rw [← ek]; exact lt.1.symm⟩
      · have ne : ¬ i = k := fun e => q1 (by rw [e])
        have go : ∀ y : Int32, (¬ y = 0 ↔ (¬ x2 = 0 ∨ nd.1 k = 20)) → wp_Mo_isBehind_L84 m K post g (Int32.ofNat i) y (Int32.ofNat b) (Int32.ofNat (s + 1)) → (∃ r, post r () ∧ (¬ r = 0 ↔ ¬ nd.2.2.2.2.2.2.2.2.2.1 i = 0)) ∨ ((nd.1 b = 23 → ¬ i ∈ k :: t) ∧ ∃ y2 y4, K (Int32.ofNat i) y2 (Int32.ofNat b) y4) := by
          intro y ye h
          rcases ih (s + 1) g y h (by omega) et' (LT_congr t _ _ ye.symm lt.2 (fun _ _ => ⟨rfl, rfl⟩)) with z | ⟨z1, z2⟩
          · exact Or.inl z
          · exact Or.inr ⟨fun u w => (List.mem_cons.mp w).elim ne (z1 u), z2⟩
        rcases br_el h with ⟨q2, h⟩ | ⟨q2, h⟩
        · replace h := h.2.2.2
          rcases br_el h with ⟨q3, h⟩ | ⟨q3, h⟩
          · exact go _ ⟨fun _ => Or.inr q3, fun _ => by decide⟩ h
          · exact go _ ⟨fun w => absurd rfl w, fun w => w.elim (fun w => absurd q2 w) (fun w => absurd w q3)⟩ h
        · exact go _ ⟨fun _ => Or.inl q2, fun _ => by decide⟩ h
    · exact Or.inr ⟨fun u => absurd u q, _, _, h⟩
theorem iv_bh71 {nd : T_Nd} {m : T_Mo} {n : Nat} {kf : Nat → List Nat} {asc : List Nat} {i : Nat} {K : Int32 → Int32 → Int32 → Prop} {post : Int32 → Unit → Prop} (f : FK nd m n kf asc) (hi : i < n) : ∀ (d s g : Nat) (x2 : Int32), s + d = n → wp_Mo_isBehind_L71 m K post g (Int32.ofNat i) x2 (Int32.ofNat s) → (∃ r, post r () ∧ (¬ r = 0 ↔ ¬ nd.2.2.2.2.2.2.2.2.2.1 i = 0)) ∨ ((∀ b, s ≤ b → b < n → nd.1 b = 23 → ¬ i ∈ kf b) ∧ ∃ y2 y3, K (Int32.ofNat i) y2 y3) := by
  intro d
  have e2 := f.2.2.1
  have n9 := f.2.2.2.1
  induction d with
  | zero =>
    intro s g x2 es h
    cases g with
    | zero => exact False.elim h
    | succ g =>
    rw [wp_Mo_isBehind_L71, e2] at h
    exact Or.inr ⟨fun b h1 h2 => by omega, _, _, h.1 (by rw [on_le (by omega) (by omega)]; omega)⟩
  | succ d ih =>
    intro s g x2 es h
    cases g with
    | zero => exact False.elim h
    | succ g =>
    rw [wp_Mo_isBehind_L71, e2] at h
    obtain ⟨k, h⟩ := h.2 (by rw [on_le (by omega) (by omega)]; omega)
    obtain ⟨-, -, a, -, -, -, -, lt, -⟩ := f.2.2.2.2.1 s (by omega)
    rcases iv_bh84 (b := s) f hi (by omega) (kf s) 0 k _ h (by omega) (fun j h1 h2 => by congr 1; omega) (LT_congr _ _ _ ⟨False.elim, fun w => absurd rfl w⟩ lt (fun _ _ => ⟨rfl, rfl⟩)) with z | ⟨z1, y2, y4, h⟩
    · exact Or.inl z
    · rw [on_succ (by omega)] at h
      rcases ih (s + 1) g _ (by omega) h with z | ⟨w1, w2⟩
      · exact Or.inl z
      · refine Or.inr ⟨fun b h1 h2 h3 => ?_, w2⟩
        rcases Nat.lt_or_ge s b with q | q
        · exact w1 b q h2 h3
        · have e : b = s := by omega
          subst e
          exact z1 h3
/-- a statement is behind a stop: late -/
theorem rl_behind {nd : T_Nd} {m : T_Mo} {n : Nat} {kf : Nat → List Nat} {asc : List Nat} {i : Nat} {P : Int32 → Unit → Prop} (fin : Fin m) (f : FK nd m n kf asc) (hi : i < n) (k1 : 10 ≤ nd.1 i) (k2 : nd.1 i ≤ 22) (h : wp_Mo_isBehind m (Int32.ofNat i) P) : ∃ r, P r () ∧ (¬ r = 0 ↔ ¬ nd.2.2.2.2.2.2.2.2.2.1 i = 0) := by
  unfold wp_Mo_isBehind at h
  obtain ⟨g, h⟩ := h
  rcases iv_bh4 f hi asc 0 g _ h (by omega) f.2.2.2.2.2.2.2.1 (fun k hk => asc_n f hk) (LT_congr _ _ _ ⟨False.elim, fun w => absurd rfl w⟩ f.2.2.2.2.2.2.2.2.1 (fun _ _ => ⟨rfl, rfl⟩)) with z | ⟨z1, y2, y3, g2, h⟩
  · exact z
  · rcases iv_bh71 f hi n 0 g2 _ (by omega) h with z | ⟨w1, -⟩
    · exact z
    · rcases in_some f hi with q | ⟨b, hb, q⟩
      · exact absurd q z1
      · have kk := kk_of fin f hb q
        exact absurd q (w1 b (Nat.zero_le _) hb (KK_block kk.1 kk.2 k1 k2))

