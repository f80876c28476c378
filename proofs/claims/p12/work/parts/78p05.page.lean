def uln (u : Int32) : Nat := if u = 1 then 1 else if u = 2 then 1 else if u = 3 then 1 else if u = 4 then 3 else 4
def uc (u : Int32) : Nat := if u = 0 then 0 else uln u + 1
/-- what brackets take: of the first in a node, of the second -/
def bc1 (w v : Int32) : Nat := if ((v = 2 ∨ v = 3) ∧ (w = 4 ∨ w = 5 ∨ w = 6)) ∨ ((v = 4 ∨ v = 5) ∧ w = 6) then 4 else 0
def bc2 (w v : Int32) : Nat := if ((v = 2 ∨ v = 3) ∧ (w = 2 ∨ w = 3 ∨ w = 4 ∨ w = 5 ∨ w = 6)) ∨ ((v = 4 ∨ v = 5) ∧ (w = 4 ∨ w = 5 ∨ w = 6)) then 4 else 0
def sl4 (v : Int32) : Nat := if v = 2 ∨ v = 3 ∨ v = 4 ∨ v = 5 then 4 else 0
def sl2 (v : Int32) : Nat := if v = 2 ∨ v = 3 then 4 else 0
def sl0 (_ : Int32) : Nat := 0
theorem bc1_6 {v : Int32} : bc1 6 v ≤ sl4 v := by
  unfold bc1 sl4
  split
  · rename_i h
    rw [if_pos (by rcases h with ⟨h | h, -⟩ | ⟨h | h, -⟩ <;> simp [h])]; exact Nat.le_refl _
  · exact Nat.zero_le _
theorem bc1_p {w v : Int32} (hw : w = 4 ∨ w = 5) : bc1 w v ≤ sl2 v := by
  unfold bc1 sl2
  split
  · rename_i h
    have n6 : ¬ w = 6 := by rcases hw with e | e <;> rw [e] <;> decide
    rw [if_pos (by rcases h with ⟨h, -⟩ | ⟨-, h⟩; exact h; exact absurd h n6)]; exact Nat.le_refl _
  · exact Nat.zero_le _
theorem bc2_p {w v : Int32} : bc2 w v ≤ sl4 v := by
  unfold bc2 sl4
  split
  · rename_i h
    rw [if_pos (by rcases h with ⟨h | h, -⟩ | ⟨h | h, -⟩ <;> simp [h])]; exact Nat.le_refl _
  · exact Nat.zero_le _
theorem bc1_s {w v : Int32} (hw : w = 2 ∨ w = 3 ∨ w = 7 ∨ w = 8 ∨ w = 9) : bc1 w v = 0 := by
  unfold bc1
  rw [if_neg]
  intro h
  rcases h with ⟨-, h⟩ | ⟨-, h⟩
  · rcases hw with e | e | e | e | e <;> rw [e] at h <;> exact absurd h (by decide)
  · rcases hw with e | e | e | e | e <;> rw [e] at h <;> exact absurd h (by decide)
theorem bc2_s {w v : Int32} (hw : w = 2 ∨ w = 3) : bc2 w v ≤ sl2 v := by
  unfold bc2 sl2
  split
  · rename_i h
    rw [if_pos]
    · exact Nat.le_refl _
    · rcases h with ⟨h, -⟩ | ⟨-, h⟩
      · exact h
      · rcases hw with e | e <;> rw [e] at h <;> exact absurd h (by decide)
  · exact Nat.zero_le _
theorem bc2_t {w v : Int32} (hw : w = 7 ∨ w = 8 ∨ w = 9) : bc2 w v = 0 := by
  unfold bc2
  rw [if_neg]
  intro h
  rcases h with ⟨-, h⟩ | ⟨-, h⟩ <;> rcases hw with e | e | e <;> rw [e] at h <;> exact absurd h (by decide)
/-- what a node is made of, and that writing its own words takes d bytes at most -/
def SC (w : Int32) (x : Int64) (u : Int32) (ks : List Int32) (ln : Nat → Int32) (c d : Nat) : Prop := (w = 0 ∧ ks = [] ∧ (0 : Int32) ≤ u ∧ u ≤ 5 ∧ ∃ v : Nat, x.toInt = (v : Int) ∧ v < 1000000000000 ∧ (nb v).length + 1 + uc u ≤ d) ∨ (w = 1 ∧ ks = [] ∧ ∃ j, j < c ∧ x.toInt = (j : Int) ∧ (ln j).toNatClampNeg + 1 ≤ d) ∨ (w = 6 ∧ ∃ v, ks = [v] ∧ 2 + bc1 6 v ≤ d) ∨ ((w = 2 ∨ w = 3 ∨ w = 4 ∨ w = 5 ∨ w = 7 ∨ w = 8 ∨ w = 9) ∧ ∃ v1 v2, ks = [v1, v2] ∧ 2 + bc1 w v1 + bc2 w v2 ≤ d) ∨ (w = 23 ∧ 4 ≤ d) ∨ (w = 24 ∧ ∃ v, ks = [v] ∧ ∃ j, j < c ∧ x.toInt = (j : Int) ∧ 5 + (ln j).toNatClampNeg + 1 ≤ d) ∨ ((w = 10 ∨ w = 18 ∨ w = 19) ∧ ∃ j, j < c ∧ x.toInt = (j : Int) ∧ kln w + 1 + (ln j).toNatClampNeg + 1 + 2 ≤ d) ∨ ((w = 11 ∨ w = 12 ∨ w = 20 ∨ w = 21) ∧ kln w + 1 + 2 ≤ d) ∨ (w = 13 ∧ (∃ v1 v2, ks = [v1, v2] ∧ v1 ≤ 9) ∧ ∃ j, j < c ∧ x.toInt = (j : Int) ∧ 5 + (ln j).toNatClampNeg + 1 + 3 + 2 ≤ d) ∨ ((w = 14 ∨ w = 16) ∧ kln w + 1 ≤ d) ∨ (w = 15 ∧ ∃ v1, v1 ≤ 9 ∧ ((ks = [v1, 23] ∧ 3 ≤ d) ∨ (ks = [v1, 23, 23] ∧ 8 ≤ d))) ∨ (w = 17 ∧ ∃ v1, v1 ≤ 9 ∧ ks = [v1, 23, 23] ∧ 11 ≤ d) ∨ (w = 22 ∧ ∃ v : Nat, x.toInt = (v : Int) ∧ v < 64 ∧ 4 + (nb (1000 * v)).length + 1 + 2 ≤ d)
def NI (m : T_Mo) (PS : Nat → Nat) (km c i : Nat) : Prop := ∃ (a d : Nat) (l : List Nat), m.1.2.2.2.1 (Bs m.1.2.1.2.1 + i) = Int32.ofNat a ∧ m.1.2.2.2.2.1 (Bs m.1.2.1.2.1 + i) = Int32.ofNat l.length ∧ KL m.1.2.2.2.2.2 (Bs m.1.2.1.2.1 + a) l ∧ a + l.length ≤ km ∧ (∀ k, k ∈ l → k < i) ∧ PS i + d ≤ PS (i + 1) ∧ SC (m.1.2.1.2.2.2 (Bs m.1.2.1.2.1 + i)) (m.1.2.2.1.1 (Bs m.1.2.1.2.1 + i)) (m.1.2.2.1.2.2 (Bs m.1.2.1.2.1 + i)) (l.map (fun k => m.1.2.1.2.2.2 (Bs m.1.2.1.2.1 + k))) (fun j => m.2.1.2.1.1 (Ns m.1.2.1.2.1 + j)) c d
/-- the nodes so far, and that what they take to be written is paid for by the bytes that were read -/
def PQ (m : T_Mo) (hi s e : Nat) : Prop := (m.1.2.1.2.1 = 0 ∨ m.1.2.1.2.1 = 1) ∧ LQ m ∧ TW m ∧ ∃ (n km tp c : Nat) (PS : Nat → Nat), m.1.2.1.2.2.1 = Int32.ofNat n ∧ n ≤ 1000 ∧ m.2.1.1.1.1 = Int32.ofNat km ∧ m.2.2.1.2.2.2 = Int32.ofNat hi ∧ m.2.1.1.2.1 = Int32.ofNat tp ∧ km + hi + tp + e ≤ n ∧ m.2.1.1.2.2.1 = Int32.ofNat c ∧ c ≤ 100 ∧ (∀ j, j < c → 1 ≤ (m.2.1.2.1.1 (Ns m.1.2.1.2.1 + j)).toNatClampNeg) ∧ (∀ i, i < n → NI m PS km c i) ∧ PS n + s ≤ 2 * m.1.1.2.1.1.toNatClampNeg + 4 * n
theorem PQ_le {m : T_Mo} {hi s e s' e' : Nat} (p : PQ m hi s e) (hs : s' ≤ s) (he : e' ≤ e) : PQ m hi s' e' := by
  obtain ⟨h1, h2, h3, n, km, tp, c, PS, a1, a2, a3, a4, a5, a6, a7, a8, a9, a10, a11⟩ := p
  exact ⟨h1, h2, h3, n, km, tp, c, PS, a1, a2, a3, a4, a5, by omega, a7, a8, a9, a10, by omega⟩
/-- what stays -/
def FY (g u : T_Mo) (hi : Nat) : Prop := u.1.2.1.2.1 = g.1.2.1.2.1 ∧ g.1.2.1.2.2.1.toNatClampNeg ≤ u.1.2.1.2.2.1.toNatClampNeg ∧ (∀ p, p < g.1.2.1.2.2.1.toNatClampNeg → u.1.2.1.2.2.2 (Bs g.1.2.1.2.1 + p) = g.1.2.1.2.2.2 (Bs g.1.2.1.2.1 + p)) ∧ (∀ j, j < hi → u.2.2.1.2.2.1 j = g.2.2.1.2.2.1 j) ∧ u.2.1.1.2.2.1 = g.2.1.1.2.2.1 ∧ u.2.1.2.1.1 = g.2.1.2.1.1 ∧ u.2.1.2.1.2 = g.2.1.2.1.2 ∧ u.2.1.2.2.1 = g.2.1.2.2.1 ∧ u.2.1.1.2.1 = g.2.1.1.2.1
theorem FY_refl {g : T_Mo} {hi : Nat} : FY g g hi := ⟨rfl, Nat.le_refl _, fun _ _ => rfl, fun _ _ => rfl, rfl, rfl, rfl, rfl, rfl⟩
theorem FY_trans {g u v : T_Mo} {hi : Nat} (a : FY g u hi) (b : FY u v hi) : FY g v hi := by
  obtain ⟨a1, a2, a3, a4, a5, a6, a7, a8, a9⟩ := a
  obtain ⟨b1, b2, b3, b4, b5, b6, b7, b8, b9⟩ := b
  refine ⟨b1.trans a1, Nat.le_trans a2 b2, fun p hp => ?_, fun j hj => (b4 j hj).trans (a4 j hj), b5.trans a5, b6.trans a6, b7.trans a7, b8.trans a8, b9.trans a9⟩
  have := b3 p (by omega)
  rw [a1] at this
  exact this.trans (a3 p hp)
theorem FY_le {g u : T_Mo} {hi hi' : Nat} (a : FY g u hi) (h : hi' ≤ hi) : FY g u hi' := ⟨a.1, a.2.1, a.2.2.1, fun j hj => a.2.2.2.1 j (by omega), a.2.2.2.2⟩
theorem FY_Fr {g u : T_Mo} {hi : Nat} (f : Fr g u) : FY g u hi := by
  obtain ⟨f1, f2, f3, f4, f5⟩ := f
  unfold FY
  rw [f3, f5]
  exact ⟨rfl, Nat.le_refl _, fun _ _ => rfl, fun _ _ => rfl, rfl, rfl, rfl, rfl, rfl⟩
theorem PQ_go {m : T_Mo} {hi s e : Nat} {P : Int32 → T_Mo → Prop} (p : PQ m hi s e) (h : wp_Mo_go m P) : ∃ r u, P r u ∧ (r = 0 ∨ (r = 1 ∧ PQ u hi (s + 2 * (m.1.1.2.1.2.toNatClampNeg - m.1.1.2.1.1.toNatClampNeg)) e ∧ FY m u hi)) := by
  obtain ⟨h1, ⟨q1, q2, q3, q4, q5⟩, h3, n, km, tp, c, PS, a1, a2, a3, a4, a5, a6, a7, a8, a9, a10, a11⟩ := p
  obtain ⟨r, u, h, fr, k⟩ := lg_go ⟨by rw [← q3]; exact Int32.le_trans q1 q2, q4, q5⟩ h
  refine ⟨r, u, h, k.imp id (fun ⟨k1, k2, k3, k4⟩ => ⟨k1, ?_, FY_Fr fr⟩)⟩
  have b1 := ix_le k4
  rw [← q3] at b1
  have b2 := ix_le q2
  obtain ⟨f1, f2, f3, f4, f5⟩ := fr
  refine ⟨by rw [f3]; exact h1, k2, k3, n, km, tp, c, PS, by rw [f3]; exact a1, a2, by rw [f5]; exact a3, by rw [f5]; exact a4, by rw [f5]; exact a5, a6, by rw [f5]; exact a7, a8, ?_, fun i hi => ?_, by omega⟩
  · rw [f3, f5]; exact a9
  · have := a10 i hi
    unfold NI at this ⊢
    rw [f3, f4, f5]; exact this
theorem PQ_push {m : T_Mo} {hi s e k : Nat} {P : Unit → T_Mo → Prop} (p : PQ m hi s (e + 1)) (h : wp_Mo_push m (Int32.ofNat k) P) : ∃ u, P () u ∧ PQ u (hi + 1) s e ∧ FY m u hi ∧ u.2.2.1.2.2.1 hi = Int32.ofNat k ∧ u.1.2.1.2.2.1 = m.1.2.1.2.2.1 := by
  obtain ⟨h1, h2, h3, n, km, tp, c, PS, a1, a2, a3, a4, a5, a6, a7, a8, a9, a10, a11⟩ := p
  unfold wp_Mo_push at h
  replace h := h.2
  rw [a4, ix_on (by omega), on_succ (by omega)] at h
  exact ⟨_, h, ⟨h1, h2, h3, n, km, tp, c, PS, a1, a2, a3, rfl, a5, by omega, a7, a8, a9, a10, a11⟩, ⟨rfl, Nat.le_refl _, fun _ _ => rfl, fun j hj => upd_ne (by omega), rfl, rfl, rfl, rfl, rfl⟩, upd_at, rfl⟩
theorem KL_mono {K M : Nat → Int32} {l : List Nat} {s : Nat} (h : KL K s l) (e : ∀ j, s ≤ j → j < s + l.length → M j = K j) : KL M s l := KL_congr l s h e
set_option maxHeartbeats 1000000 in
/-- a node more -/
theorem PQ_node {m : T_Mo} {mark s e d : Nat} {l : List Nat} {w : Int32} {v : Int64} {li un : Int32} {P : Int32 → T_Mo → Prop} (p : PQ m (mark + l.length) s e) (kl : KL m.2.2.1.2.2.1 mark l) (lk : ∀ k, k ∈ l → k < m.1.2.1.2.2.1.toNatClampNeg) (sc : ∀ c : Nat, c ≤ 100 → m.2.1.1.2.2.1 = Int32.ofNat c → SC w v un (l.map (fun k => m.1.2.1.2.2.2 (Bs m.1.2.1.2.1 + k))) (fun j => m.2.1.2.1.1 (Ns m.1.2.1.2.1 + j)) c d) (ds : d ≤ s + 4) (h : wp_Mo_node0 m w v li un (Int32.ofNat mark) P) : ∃ r u, P r u ∧ (r = -1 ∨ ∃ n : Nat, r = Int32.ofNat n ∧ m.1.2.1.2.2.1 = Int32.ofNat n ∧ u.1.2.1.2.2.1 = Int32.ofNat (n + 1) ∧ n < 1000 ∧ PQ u mark (s + 4 - d) (e + 1) ∧ FY m u mark ∧ u.1.2.1.2.2.2 (Bs m.1.2.1.2.1 + n) = w) := by
  obtain ⟨h1, h2, h3, n, km, tp, c, PS, a1, a2, a3, a4, a5, a6, a7, a8, a9, a10, a11⟩ := p
  rw [a1, ix_on (by omega)] at lk
  rcases iv_node0 h h1 a1 a2 a3 a4 kl (by omega) (by omega) with ⟨-, h⟩ | ⟨n8, u, h, ks, eu, k1, k2⟩
  · exact ⟨_, _, h, Or.inl rfl⟩
  · have scc := sc c a8 a7
    subst eu
    refine ⟨_, _, h, Or.inr ⟨n, rfl, a1, rfl, n8, ⟨h1, h2, h3, n + 1, km + l.length, tp, c, fun i => if i = n + 1 then PS n + d else PS i, rfl, by omega, rfl, rfl, a5, by omega, a7, a8, a9, fun i hi => ?_, ?_⟩, ⟨rfl, ?_, fun p hp => ?_, fun _ _ => rfl, rfl, rfl, rfl, rfl, rfl⟩, upd_at⟩⟩
    · rcases Nat.lt_or_ge i n with q | q
      · obtain ⟨a, d', l', b1, b2, b3, b4, b5, b6, b7⟩ := a10 i q
        have ne : Bs m.1.2.1.2.1 + i ≠ Bs m.1.2.1.2.1 + n := by omega
        refine ⟨a, d', l', ?_, ?_, ?_, by omega, b5, ?_, ?_⟩
        · show upd m.1.2.2.2.1 (Bs m.1.2.1.2.1 + n) (Int32.ofNat km) (Bs m.1.2.1.2.1 + i) = _; rw [upd_ne ne]; exact b1
        · show upd m.1.2.2.2.2.1 (Bs m.1.2.1.2.1 + n) (Int32.ofNat l.length) (Bs m.1.2.1.2.1 + i) = _; rw [upd_ne ne]; exact b2
        · show KL ks (Bs m.1.2.1.2.1 + a) l'
          exact KL_congr l' _ b3 (fun j j1 j2 => k2 j (Or.inl (by omega)))
        · show (if i = n + 1 then PS n + d else PS i) + d' ≤ (if i + 1 = n + 1 then PS n + d else PS (i + 1))
          rw [if_neg (by omega), if_neg (by omega)]; exact b6
        · show SC (upd m.1.2.1.2.2.2 (Bs m.1.2.1.2.1 + n) w (Bs m.1.2.1.2.1 + i)) (vp_updL m.1.2.2.1.1 (Bs m.1.2.1.2.1 + n) v (Bs m.1.2.1.2.1 + i)) (upd m.1.2.2.1.2.2 (Bs m.1.2.1.2.1 + n) un (Bs m.1.2.1.2.1 + i)) (l'.map (fun k => upd m.1.2.1.2.2.2 (Bs m.1.2.1.2.1 + n) w (Bs m.1.2.1.2.1 + k))) (fun j => m.2.1.2.1.1 (Ns m.1.2.1.2.1 + j)) c d'
          rw [upd_ne ne, updL_ne ne, upd_ne ne]
          have : l'.map (fun k => upd m.1.2.1.2.2.2 (Bs m.1.2.1.2.1 + n) w (Bs m.1.2.1.2.1 + k)) = l'.map (fun k => m.1.2.1.2.2.2 (Bs m.1.2.1.2.1 + k)) := List.map_congr_left (fun k hk => upd_ne (by have := b5 k hk; omega))
          rw [this]; exact b7
      · have ei : i = n := by omega
        subst ei
        refine ⟨km, d, l, upd_at, upd_at, k1, Nat.le_refl _, lk, ?_, ?_⟩
        · show (if i = i + 1 then PS i + d else PS i) + d ≤ (if i + 1 = i + 1 then PS i + d else PS (i + 1))
          rw [if_neg (by omega), if_pos rfl]; exact Nat.le_refl _
        · show SC (upd m.1.2.1.2.2.2 (Bs m.1.2.1.2.1 + i) w (Bs m.1.2.1.2.1 + i)) (vp_updL m.1.2.2.1.1 (Bs m.1.2.1.2.1 + i) v (Bs m.1.2.1.2.1 + i)) (upd m.1.2.2.1.2.2 (Bs m.1.2.1.2.1 + i) un (Bs m.1.2.1.2.1 + i)) (l.map (fun k => upd m.1.2.1.2.2.2 (Bs m.1.2.1.2.1 + i) w (Bs m.1.2.1.2.1 + k))) (fun j => m.2.1.2.1.1 (Ns m.1.2.1.2.1 + j)) c d
          rw [upd_at, updL_at, upd_at]
          have : l.map (fun k => upd m.1.2.1.2.2.2 (Bs m.1.2.1.2.1 + i) w (Bs m.1.2.1.2.1 + k)) = l.map (fun k => m.1.2.1.2.2.2 (Bs m.1.2.1.2.1 + k)) := List.map_congr_left (fun k hk => upd_ne (by have := lk k hk; omega))
          rw [this]; exact scc
    · show (if n + 1 = n + 1 then PS n + d else PS (n + 1)) + (s + 4 - d) ≤ 2 * m.1.1.2.1.1.toNatClampNeg + 4 * (n + 1)
      rw [if_pos rfl]; omega
    · show m.1.2.1.2.2.1.toNatClampNeg ≤ (Int32.ofNat (n + 1)).toNatClampNeg
      rw [a1, ix_on (by omega), ix_on (by omega)]; omega
    · show upd m.1.2.1.2.2.2 (Bs m.1.2.1.2.1 + n) w (Bs m.1.2.1.2.1 + p) = _
      rw [a1, ix_on (by omega)] at hp
      exact upd_ne (by omega)
/-- what a piece of a sum leaves -/
def EO (m u : T_Mo) (hi s e : Nat) (r lo up : Int32) (sl : Int32 → Nat) : Prop := ∃ k : Nat, r = Int32.ofNat k ∧ k < u.1.2.1.2.2.1.toNatClampNeg ∧ k < 1000 ∧ lo ≤ u.1.2.1.2.2.2 (Bs m.1.2.1.2.1 + k) ∧ u.1.2.1.2.2.2 (Bs m.1.2.1.2.1 + k) ≤ up ∧ PQ u hi (s + sl (u.1.2.1.2.2.2 (Bs m.1.2.1.2.1 + k))) (e + 1) ∧ FY m u hi
def FEx (rf : T_Mo → (Int32 → T_Mo → Prop) → Prop) (lo up : Int32) (sl : Int32 → Nat) : Prop := ∀ (m : T_Mo) (hi s e : Nat) (post : Int32 → T_Mo → Prop), PQ m hi s e → rf m post → ∃ r u, post r u ∧ (r < 0 ∨ EO m u hi s e r lo up sl)
/-- a node that was just made -/
theorem EO_new {m u : T_Mo} {hi s e s' n : Nat} {w lo up : Int32} {sl : Int32 → Nat} (en : m.1.2.1.2.2.1 = Int32.ofNat n) (eu : u.1.2.1.2.2.1 = Int32.ofNat (n + 1)) (n9 : n < 1000) (p : PQ u hi s' (e + 1)) (f : FY m u hi) (ew : u.1.2.1.2.2.2 (Bs m.1.2.1.2.1 + n) = w) (w1 : lo ≤ w) (w2 : w ≤ up) (hs : s + sl w ≤ s') : EO m u hi s e (Int32.ofNat n) lo up sl := by
  refine ⟨n, rfl, by rw [eu, ix_on (by omega)]; omega, n9, by rw [ew]; exact w1, by rw [ew]; exact w2, ?_, f⟩
  rw [ew]; exact PQ_le p hs (Nat.le_refl _)
theorem EO_pre {g m u : T_Mo} {hi s e : Nat} {r lo up : Int32} {sl : Int32 → Nat} (f : FY g m hi) (h : EO m u hi s e r lo up sl) : EO g u hi s e r lo up sl := by
  obtain ⟨k, h1, h2, h3, h4, h5, h6, h7⟩ := h
  rw [f.1] at h4 h5 h6
  exact ⟨k, h1, h2, h3, h4, h5, h6, FY_trans f h7⟩

