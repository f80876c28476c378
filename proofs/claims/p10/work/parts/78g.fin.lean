/-- which names of a finished program are used -/
def FU (nm : T_Nm) (nd : T_Nd) : Prop := ∃ c n : Nat, nm.2.2.2.2 = Int32.ofNat c ∧ c ≤ 100 ∧ nd.2.2.2.2.2.2.2.2.2.2.1 = Int32.ofNat n ∧ n ≤ 1000 ∧ (∀ i, i < n → UK (nd.1 i) → ∃ j, j < c ∧ (nd.2.2.1 i).toInt = (j : Int) ∧ (nd.1 i = 19 → nm.2.1 j = 215)) ∧ (∀ p, p < n → nd.1 p = 24 → ∃ t, t < c ∧ (nd.2.2.1 p).toInt = (t : Int) ∧ nm.2.1 t = 215 ∧ ∀ i, i < p → UK2 (nd.1 i) → (nd.2.2.1 i).toInt < (t : Int)) ∧ (∀ j, j < c → ¬ nm.2.1 j = 215 → (¬ nm.2.2.2.1 j = 0 ↔ ∃ i, i < n ∧ UF (nd.1 i) (nm.2.1 j) ∧ (nd.2.2.1 i).toInt = (j : Int))) ∧ (∀ s, s < c → nm.2.1 s = 215 → (¬ nm.2.2.2.1 s = 0 ↔ ∃ i, i < n ∧ nd.1 i = 19 ∧ (nd.2.2.1 i).toInt = (s : Int) ∧ DN nd.1 nd.2.2.1 n nm.2.2.2.1 (i + 1)))
set_option maxHeartbeats 1000000 in
theorem uu_finish {pr : T_Pr} {nm : T_Nm} {nd : T_Nd} {c n : Nat} {P : Unit → T_Nm × T_Nd → Prop} (c1 : nm.2.2.2.2 = Int32.ofNat c) (c9 : c ≤ 100) (n1 : nd.2.2.2.2.2.2.2.2.2.2.1 = Int32.ofNat n) (n9 : n ≤ 1000) (hk : ∀ i, i < n → UK (nd.1 i) → ∃ j, j < c ∧ (nd.2.2.1 i).toInt = (j : Int) ∧ (nd.1 i = 19 → nm.2.1 j = 215)) (hs : ∀ p, p < n → nd.1 p = 24 → ∃ t, t < c ∧ (nd.2.2.1 p).toInt = (t : Int) ∧ nm.2.1 t = 215 ∧ ∀ i, i < p → UK2 (nd.1 i) → (nd.2.2.1 i).toInt < (t : Int)) (hu : ∀ j, j < c → (nm.2.1 j = 215 → nm.2.2.2.1 j = 0) ∧ (¬ nm.2.1 j = 215 → (¬ nm.2.2.2.1 j = 0 ↔ (∃ i, i < n ∧ UF (nd.1 i) (nm.2.1 j) ∧ (nd.2.2.1 i).toInt = (j : Int)) ∨ NoPend j))) (h : wp_Pr_finish pr nm nd P) : ∃ nm' nd', P () (nm', nd') ∧ FU nm' nd' := by
  unfold wp_Pr_finish wp_Nd_finish wp_Nd_chainFrom at h
  obtain ⟨k, h⟩ := h
  obtain ⟨pa, nx, y3, y4, y5, h⟩ := cv_chain k _ _ _ _ _ _ _ _ h
  unfold wp_Nd_followChain at h
  obtain ⟨k2, h⟩ := h
  obtain ⟨la, z2, z3, z4, h⟩ := cv_follow k2 _ _ _ _ _ _ _ h
  unfold wp_Pr_useDoneSteps wp_Nd_count at h
  obtain ⟨k3, h⟩ := h
  dsimp only at h
  have di : DI (nd.1, nd.2.1, nd.2.2.1, nd.2.2.2.1, nd.2.2.2.2.1, nd.2.2.2.2.2.1, pa, nd.2.2.2.2.2.2.2.1, nx, la, nd.2.2.2.2.2.2.2.2.2.2.1, y3, z3, nd.2.2.2.2.2.2.2.2.2.2.2.2.2) nm.2.1 nm.2.2.2.1 c n nm 1 n := ⟨rfl, c1, fun _ _ _ => rfl, fun s s1 s2 => ⟨fun q => absurd ((hu s s1).1 s2) q, fun ⟨i, i1, i2, _⟩ => by omega⟩, ⟨fun _ => DN_end, fun _ => by decide⟩⟩
  obtain ⟨nm', w1, w2, h, d1, d2, d3, d4, -⟩ := ud_L (nd := (nd.1, nd.2.1, nd.2.2.1, nd.2.2.2.1, nd.2.2.2.2.1, nd.2.2.2.2.2.1, pa, nd.2.2.2.2.2.2.2.1, nx, la, nd.2.2.2.2.2.2.2.2.2.2.1, y3, z3, nd.2.2.2.2.2.2.2.2.2.2.2.2.2)) c9 n1 n9 hk hs n k3 nm 1 _ h (Nat.le_refl _) (by rw [n1]) di
  refine ⟨nm', _, h, c, n, d2, c9, n1, n9, ?_, ?_, ?_, ?_⟩
  · rw [d1]; exact hk
  · rw [d1]; exact hs
  · intro j hj ns
    rw [d1] at ns ⊢
    rw [d3 j hj ns]
    refine ((hu j hj).2 ns).trans ⟨fun z => z.elim id (fun z => False.elim z), Or.inl⟩
  · intro s hs1 es
    rw [d1] at es
    refine (d4 s hs1 es).trans ⟨fun ⟨i, _, i2⟩ => ⟨i, i2⟩, fun ⟨i, i2⟩ => ⟨i, Nat.zero_le _, i2⟩⟩
/-- a text that is taken: its program's names -/
theorem fu_into {d dB : Nat} {pr : T_Pr} {g : T_Gr} {nm : T_Nm} {nd : T_Nd} {w : T_Wd} {PC : Unit → T_Nm × T_Nd × T_Gr × T_Wd → Prop} {PT : T_Nm × T_Nd × T_Gr × T_Wd → Prop} (h : wp_Gr_readInto d dB pr nm nd g w PC PT) : (∃ nm' nd' g' w', PC () (nm', nd', g', w') ∧ FU nm' nd') ∨ (∃ u, PT u) := by
  unfold wp_Gr_readInto wp_Pr_empty wp_Nm_empty wp_Nd_empty wp_Pr_names wp_Pr_nodes at h
  dsimp only at h
  obtain ⟨k, h⟩ := h
  have u0 : UU (nm.1, nm.2.1, nm.2.2.1, nm.2.2.2.1, (0 : Int32)) (nd.1, nd.2.1, nd.2.2.1, nd.2.2.2.1, nd.2.2.2.2.1, nd.2.2.2.2.2.1, nd.2.2.2.2.2.2.1, nd.2.2.2.2.2.2.2.1, nd.2.2.2.2.2.2.2.2.1, nd.2.2.2.2.2.2.2.2.2.1, (0 : Int32), (-1 : Int32), (0 : Int32), (0 : Int32)) NoPend := Or.inr ⟨0, 0, rfl, by omega, rfl, by omega, fun i hi => absurd hi (Nat.not_lt_zero _), fun i hi => absurd hi (Nat.not_lt_zero _), fun i hi => absurd hi (Nat.not_lt_zero _)⟩
  rcases uu_22 k _ _ _ _ _ h u0 with ⟨nm1, nd1, g1, w1, y1, ⟨k2, h⟩, u1⟩ | ⟨x, h⟩
  · rcases uu_147 k2 _ _ _ _ _ h u1 with ⟨nm2, nd2, g2, w2, y2, h, u2⟩ | ⟨x, h⟩
    · rcases u2 with big | ⟨c, n, c1, c9, n1, n9, hk, hs, hu⟩
      · obtain ⟨x, h⟩ := dm_take (Or.inr big) (by unfold dead sg; decide) h
        exact Or.inr ⟨_, h⟩
      · rcases dt_Gr_take h with ⟨r, x, -, qb⟩ | ⟨x, -, qb⟩
        · obtain ⟨nm', nd', h, f⟩ := uu_finish c1 c9 n1 n9 hk hs hu (qb _ _ h)
          exact Or.inl ⟨_, _, _, _, h, f⟩
        · exact Or.inr ⟨_, qb _ _ h⟩
    · exact Or.inr ⟨_, h⟩
  · exact Or.inr ⟨_, h⟩
/-- the class's read: the program that is shown then knows which of its names are used -/
theorem fu_read {d dB : Nat} {st : T_St} {g : T_Gr} {pr : T_Pr} {nm : T_Nm} {nd : T_Nd} {w : T_Wd} {kw : T_Kw} {PC : Int32 → T_St × T_Gr × T_Nm × T_Nd × T_Wd × Nat × Nat → Prop} (h : wp_St_read d dB st g pr nm nd w kw PC) : ∃ r u, PC r u ∧ (u.2.2.2.2.2.1 = 0 → FU u.2.2.1 u.2.2.2.1) := by
  unfold wp_St_read at h
  obtain ⟨r1, u1, -, qb⟩ := dt_Wd_split h
  replace h := qb _ h
  rcases fu_into h with ⟨nm', nd', g', w', h, f⟩ | ⟨u, h⟩
  · unfold wp_Pr_nodes wp_Nd_statements at h
    exact ⟨_, _, h, fun _ => f⟩
  · unfold wp_Gr_wrongPlace at h
    exact ⟨_, _, h, fun q => absurd (show (1 : Nat) = 0 from q) (by decide)⟩

