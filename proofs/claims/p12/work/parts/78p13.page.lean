/-- a node of the shown program, as the page needs it -/
def TN (nd : T_Nd) (m : T_Mo) (c : Nat) (kf : Nat → List Nat) (PS : Nat → Nat) (i : Nat) : Prop := nd.1 i = m.1.2.1.2.2.2 (Bs ((1 : Int32) - m.1.2.1.2.1) + i) ∧ nd.2.2.1 i = m.1.2.2.1.1 (Bs ((1 : Int32) - m.1.2.1.2.1) + i) ∧ (nd.1 i ≤ 6 → nd.2.2.2.1 i = m.1.2.2.1.2.2 (Bs ((1 : Int32) - m.1.2.1.2.1) + i)) ∧ (∃ a, m.1.2.2.2.1 (Bs ((1 : Int32) - m.1.2.1.2.1) + i) = Int32.ofNat a ∧ m.1.2.2.2.2.1 (Bs ((1 : Int32) - m.1.2.1.2.1) + i) = Int32.ofNat (kf i).length ∧ KL m.1.2.2.2.2.2 (Bs ((1 : Int32) - m.1.2.1.2.1) + a) (kf i) ∧ a + (kf i).length ≤ 1000) ∧ NX nd.2.2.2.2.2.2.2.2.1 (nd.2.2.2.2.2.2.2.1 i) (kf i) ∧ CH nd.2.2.2.2.1 (nd.2.2.2.2.1 i).toNatClampNeg i (kf i).reverse ∧ (∀ k, k ∈ kf i → nd.2.2.2.2.2.2.1 k = Int32.ofNat i) ∧ (∀ k, k ∈ kf i → KK (nd.1 i) (nd.1 k)) ∧ ∃ d, PS i + d ≤ PS (i + 1) ∧ SC (nd.1 i) (nd.2.2.1 i) (m.1.2.2.1.2.2 (Bs ((1 : Int32) - m.1.2.1.2.1) + i)) ((kf i).map nd.1) (fun j => m.2.1.2.1.1 (Ns ((1 : Int32) - m.1.2.1.2.1) + j)) c d
def TM (nm : T_Nm) (m : T_Mo) (j : Nat) : Prop := wl (nw (mr m) j) ∧ (0 : Int32) ≤ m.2.1.2.1.1 (Ns ((1 : Int32) - m.1.2.1.2.1) + j) ∧ 1 ≤ (m.2.1.2.1.1 (Ns ((1 : Int32) - m.1.2.1.2.1) + j)).toNatClampNeg ∧ (m.2.1.2.1.1 (Ns ((1 : Int32) - m.1.2.1.2.1) + j)).toNatClampNeg ≤ 12 ∧ (nm.1 j).toInt = pk (nw (mr m) j)
def TR (nm : T_Nm) (nd : T_Nd) (m : T_Mo) (kw : T_Kw) (n c : Nat) (kf : Nat → List Nat) (PS : Nat → Nat) : Prop := (m.1.2.1.2.1 = 0 ∨ m.1.2.1.2.1 = 1) ∧ KWz kw ∧ nd.2.2.2.2.2.2.2.2.2.2.1 = Int32.ofNat n ∧ n ≤ 1000 ∧ nm.2.2.2.2 = Int32.ofNat c ∧ c ≤ 100 ∧ (∀ i, i < n → TN nd m c kf PS i) ∧ (∀ j, j < c → TM nm m j)
theorem na_kind {nd : T_Nd} {i n : Nat} {P : Int32 → Unit → Prop} (e : nd.2.2.2.2.2.2.2.2.2.2.1 = Int32.ofNat n) (n9 : n ≤ 1000) (hi : i < n) (h : wp_Nd_kindOf nd (Int32.ofNat i) P) : P (nd.1 i) () := by
  unfold wp_Nd_kindOf at h
  replace h := ((iv_hasG e n9 hi h).2 (by decide)).2
  rw [ix_on (by omega)] at h; exact h
theorem na_val {nd : T_Nd} {i n : Nat} {P : Int64 → Unit → Prop} (e : nd.2.2.2.2.2.2.2.2.2.2.1 = Int32.ofNat n) (n9 : n ≤ 1000) (hi : i < n) (h : wp_Nd_valueOf nd (Int32.ofNat i) P) : P (nd.2.2.1 i) () := by
  unfold wp_Nd_valueOf at h
  replace h := ((iv_hasG e n9 hi h).2 (by decide)).2
  rw [ix_on (by omega)] at h; exact h
theorem na_meas {nd : T_Nd} {i n : Nat} {P : Int32 → Unit → Prop} (e : nd.2.2.2.2.2.2.2.2.2.2.1 = Int32.ofNat n) (n9 : n ≤ 1000) (hi : i < n) (h : wp_Nd_measureOf nd (Int32.ofNat i) P) : P (nd.2.2.2.1 i) () := by
  unfold wp_Nd_measureOf at h
  replace h := ((iv_hasG e n9 hi h).2 (by decide)).2
  rw [ix_on (by omega)] at h; exact h
theorem na_next {nd : T_Nd} {i n : Nat} {P : Int32 → Unit → Prop} (e : nd.2.2.2.2.2.2.2.2.2.2.1 = Int32.ofNat n) (n9 : n ≤ 1000) (hi : i < n) (h : wp_Nd_nextOf nd (Int32.ofNat i) P) : P (nd.2.2.2.2.2.2.2.2.1 i) () := by
  unfold wp_Nd_nextOf at h
  replace h := ((iv_hasG e n9 hi h).2 (by decide)).2
  rw [ix_on (by omega)] at h; exact h
theorem na_par {nd : T_Nd} {i n : Nat} {P : Int32 → Unit → Prop} (e : nd.2.2.2.2.2.2.2.2.2.2.1 = Int32.ofNat n) (n9 : n ≤ 1000) (hi : i < n) (h : wp_Nd_parentOf nd (Int32.ofNat i) P) : P (nd.2.2.2.2.2.2.1 i) () := by
  unfold wp_Nd_parentOf at h
  replace h := ((iv_hasG e n9 hi h).2 (by decide)).2
  rw [ix_on (by omega)] at h; exact h
theorem na_first {nd : T_Nd} {i n : Nat} {P : Int32 → Unit → Prop} (e : nd.2.2.2.2.2.2.2.2.2.2.1 = Int32.ofNat n) (n9 : n ≤ 1000) (hi : i < n) (h : wp_Nd_firstOf nd (Int32.ofNat i) P) : P (nd.2.2.2.2.2.2.2.1 i) () := by
  unfold wp_Nd_firstOf at h
  replace h := ((iv_hasG e n9 hi (h.2 (on_n1 (by omega)).1)).2 (by decide)).2
  rw [ix_on (by omega)] at h; exact h
theorem na_let {nm : T_Nm} {j c : Nat} {P : Int64 → Unit → Prop} (e : nm.2.2.2.2 = Int32.ofNat c) (c9 : c ≤ 100) (hj : j < c) (h : wp_Nm_lettersOf nm (Int32.ofNat j) P) : P (nm.1 j) () := by
  unfold wp_Nm_lettersOf at h
  replace h := ((iv_hasN h e hj c9).2 (by decide)).2
  rw [ix_on (by omega)] at h; exact h
/-- whether brackets stand around what is v within w -/
def BK (w v : Int32) (f : Prop) : Prop := ((v = 2 ∨ v = 3) ∧ (w = 4 ∨ w = 5 ∨ w = 6 ∨ ((w = 2 ∨ w = 3) ∧ ¬ f))) ∨ ((v = 4 ∨ v = 5) ∧ (w = 6 ∨ ((w = 4 ∨ w = 5) ∧ ¬ f)))
/-- how tightly a kind binds -/
def bnd (k : Int32) : Int32 := if k = 2 then 1 else if k = 3 then 1 else if k = 4 then 2 else if k = 5 then 2 else if k = 6 then 3 else 0
theorem iv_bnd {k : Int32} {P : Int32 → Unit → Prop} (h : wp_Pg_binding k P) : P (bnd k) () := by
  unfold wp_Pg_binding at h
  unfold bnd
  split
  · rename_i q; exact h.1 q
  · split
    · rename_i q; exact h.2.1 q
    · split
      · rename_i q; exact h.2.2.1 q
      · split
        · rename_i q; exact h.2.2.2.1 q
        · split
          · rename_i q; exact h.2.2.2.2.1 q
          · rename_i q1 q2 q3 q4 q5
            exact h.2.2.2.2.2 ⟨q1, q2, q3, q4, q5⟩
theorem bnd_c (k : Int32) : ((k = 2 ∨ k = 3) ∧ bnd k = 1) ∨ ((k = 4 ∨ k = 5) ∧ bnd k = 2) ∨ (k = 6 ∧ bnd k = 3) ∨ ((¬ k = 2 ∧ ¬ k = 3 ∧ ¬ k = 4 ∧ ¬ k = 5 ∧ ¬ k = 6) ∧ bnd k = 0) := by
  by_cases h2 : k = 2
  · subst h2; exact Or.inl ⟨Or.inl rfl, rfl⟩
  · by_cases h3 : k = 3
    · subst h3; exact Or.inl ⟨Or.inr rfl, rfl⟩
    · by_cases h4 : k = 4
      · subst h4; exact Or.inr (Or.inl ⟨Or.inl rfl, rfl⟩)
      · by_cases h5 : k = 5
        · subst h5; exact Or.inr (Or.inl ⟨Or.inr rfl, rfl⟩)
        · by_cases h6 : k = 6
          · subst h6; exact Or.inr (Or.inr (Or.inl ⟨rfl, rfl⟩))
          · refine Or.inr (Or.inr (Or.inr ⟨⟨h2, h3, h4, h5, h6⟩, ?_⟩))
            unfold bnd
            rw [if_neg h2, if_neg h3, if_neg h4, if_neg h5, if_neg h6]
theorem BK_b {w v : Int32} {f : Prop} : BK w v f ↔ ((bnd v = 1 ∨ bnd v = 2) ∧ (bnd v < bnd w ∨ (bnd w = bnd v ∧ ¬ f))) := by
  unfold BK
  rcases bnd_c v with ⟨a, ea⟩ | ⟨a, ea⟩ | ⟨a, ea⟩ | ⟨a, ea⟩ <;> rcases bnd_c w with ⟨b, eb⟩ | ⟨b, eb⟩ | ⟨b, eb⟩ | ⟨b, eb⟩ <;> rw [ea, eb] <;> constructor <;> intro h <;> grind
set_option maxHeartbeats 1000000 in
/-- brackets, the class's -/
theorem pg_brk {pg : T_Pg} {nd : T_Nd} {n k p : Nat} {P : Int32 → Unit → Prop} (e : nd.2.2.2.2.2.2.2.2.2.2.1 = Int32.ofNat n) (n9 : n ≤ 1000) (hk : k < n) (hp : p < n) (ep : nd.2.2.2.2.2.2.1 k = Int32.ofNat p) (h : wp_Pg_isBracketed pg nd (Int32.ofNat k) P) : (BK (nd.1 p) (nd.1 k) (nd.2.2.2.2.2.2.2.1 p = Int32.ofNat k) ∧ P 1 ()) ∨ (¬ BK (nd.1 p) (nd.1 k) (nd.2.2.2.2.2.2.2.1 p = Int32.ofNat k) ∧ P 0 ()) := by
  unfold wp_Pg_isBracketed at h
  replace h := na_par e n9 hk h
  rw [ep] at h
  replace h := iv_bnd (na_kind e n9 hk h)
  replace h := iv_bnd (na_kind e n9 hp h)
  rw [BK_b]
  rcases br_el h with ⟨q, h⟩ | ⟨q, h⟩
  · exact Or.inr ⟨fun z => by rw [q] at z; exact absurd z.1 (by decide), h⟩
  · replace h := iv_bnd h
    have b6 : bnd 6 = 3 := by decide
    rw [b6] at h
    have own : bnd (nd.1 k) = 3 ∨ bnd (nd.1 k) = 1 ∨ bnd (nd.1 k) = 2 := by
      rcases bnd_c (nd.1 k) with ⟨-, z⟩ | ⟨-, z⟩ | ⟨-, z⟩ | ⟨-, z⟩
      · exact Or.inr (Or.inl z)
      · exact Or.inr (Or.inr z)
      · exact Or.inl z
      · exact absurd z q
    rcases br_el h with ⟨q3, h⟩ | ⟨q3, h⟩
    · exact Or.inr ⟨fun z => by rw [q3] at z; exact absurd z.1 (by decide), h⟩
    · have o2 := own.resolve_left q3
      rcases br_el h with ⟨q4, h⟩ | ⟨q4, h⟩
      · exact Or.inl ⟨⟨o2, Or.inl q4⟩, h⟩
      · rcases br_el h with ⟨q5, h⟩ | ⟨q5, h⟩
        · replace h := na_first e n9 hp h
          rcases br_el h with ⟨q6, h⟩ | ⟨q6, h⟩
          · exact Or.inr ⟨fun z => z.2.elim q4 (fun z => z.2 q6), h⟩
          · exact Or.inl ⟨⟨o2, Or.inr ⟨q5, q6⟩⟩, h⟩
        · exact Or.inr ⟨fun z => z.2.elim q4 (fun z => q5 z.1), h⟩
/-- brackets, the reference's -/
theorem so_brk {rf : T_Mo → Int32 → Int32 → Int32 → (Unit → T_Mo → Prop) → Prop} {z : T_Mo} {k : Nat} {w fi v : Int32} {post : Unit → T_Mo → Prop} (hh : z.1.2.1.2.1 = 0 ∨ z.1.2.1.2.1 = 1) (k9 : k < 1000) (ev : z.1.2.1.2.2.2 (Bs ((1 : Int32) - z.1.2.1.2.1) + k) = v) (h : wp_Mo_sumOut_F rf z (Int32.ofNat k) w fi post) : (BK w v (¬ fi = 0) ∧ wp_Mo_sumOut_J74 rf post z (Int32.ofNat k) w fi v 1) ∨ (¬ BK w v (¬ fi = 0) ∧ wp_Mo_sumOut_J74 rf post z (Int32.ofNat k) w fi v 0) := by
  have s1 : ∀ {x : Int32} {P : Int32 → Unit → Prop}, wp_Mo_isSum x P → ((x = 2 ∨ x = 3) ∧ P 1 ()) ∨ (¬ (x = 2 ∨ x = 3) ∧ P 0 ()) := by
    intro x P h
    unfold wp_Mo_isSum at h
    rcases br_el h with ⟨q, h⟩ | ⟨q, h⟩
    · exact Or.inl ⟨Or.inl q, h⟩
    · rcases br_el h with ⟨q2, h⟩ | ⟨q2, h⟩
      · exact Or.inl ⟨Or.inr q2, h⟩
      · exact Or.inr ⟨fun z => z.elim q q2, h⟩
  have s2 : ∀ {x : Int32} {P : Int32 → Unit → Prop}, wp_Mo_isProduct x P → ((x = 4 ∨ x = 5) ∧ P 1 ()) ∨ (¬ (x = 4 ∨ x = 5) ∧ P 0 ()) := by
    intro x P h
    unfold wp_Mo_isProduct at h
    rcases br_el h with ⟨q, h⟩ | ⟨q, h⟩
    · exact Or.inl ⟨Or.inl q, h⟩
    · rcases br_el h with ⟨q2, h⟩ | ⟨q2, h⟩
      · exact Or.inl ⟨Or.inr q2, h⟩
      · exact Or.inr ⟨fun z => z.elim q q2, h⟩
  have j44 : ¬ ((v = 2 ∨ v = 3) ∧ (w = 4 ∨ w = 5 ∨ w = 6 ∨ ((w = 2 ∨ w = 3) ∧ ¬ ¬ fi = 0))) → wp_Mo_sumOut_J44 rf post z (Int32.ofNat k) w fi v → (BK w v (¬ fi = 0) ∧ wp_Mo_sumOut_J74 rf post z (Int32.ofNat k) w fi v 1) ∨ (¬ BK w v (¬ fi = 0) ∧ wp_Mo_sumOut_J74 rf post z (Int32.ofNat k) w fi v 0) := by
    intro n1 h
    unfold wp_Mo_sumOut_J44 wp_Mo_sumOut_J69 wp_Mo_sumOut_J73 at h
    rcases s2 h with ⟨q, h⟩ | ⟨q, h⟩
    · replace h := h.2 (by decide)
      rcases br_el h with ⟨q6, h⟩ | ⟨q6, h⟩
      · exact Or.inl ⟨Or.inr ⟨q, Or.inl q6⟩, h⟩
      · rcases s2 h with ⟨p, h⟩ | ⟨p, h⟩
        · replace h := h.2 (by decide)
          rcases br_el h with ⟨f0, h⟩ | ⟨f0, h⟩
          · exact Or.inl ⟨Or.inr ⟨q, Or.inr ⟨p, fun z => z f0⟩⟩, h⟩
          · exact Or.inr ⟨fun z => z.elim n1 (fun z => z.2.elim q6 (fun z => z.2 f0)), h⟩
        · exact Or.inr ⟨fun z => z.elim n1 (fun z => z.2.elim q6 (fun z => p z.1)), h.1 rfl⟩
    · exact Or.inr ⟨fun z => z.elim n1 (fun z => q z.1), h.1 rfl⟩
  unfold wp_Mo_sumOut_F wp_Mo_node1 at h
  replace h := h.2
  rw [no_ix hh k9, ev] at h
  rcases s1 h with ⟨q, h⟩ | ⟨q, h⟩
  · replace h := h.2 (by decide)
    rcases s2 h with ⟨p, h⟩ | ⟨p, h⟩
    · replace h := h.2 (by decide)
      unfold wp_Mo_sumOut_J69 at h
      exact Or.inl ⟨Or.inl ⟨q, p.elim Or.inl (fun p => Or.inr (Or.inl p))⟩, h⟩
    · replace h := h.1 rfl
      rcases br_el h with ⟨p6, h⟩ | ⟨p6, h⟩
      · unfold wp_Mo_sumOut_J69 at h
        exact Or.inl ⟨Or.inl ⟨q, Or.inr (Or.inr (Or.inl p6))⟩, h⟩
      · rcases s1 h with ⟨ps, h⟩ | ⟨ps, h⟩
        · replace h := h.2 (by decide)
          rcases br_el h with ⟨f0, h⟩ | ⟨f0, h⟩
          · unfold wp_Mo_sumOut_J69 at h
            exact Or.inl ⟨Or.inl ⟨q, Or.inr (Or.inr (Or.inr ⟨ps, fun z => z f0⟩))⟩, h⟩
          · refine j44 (fun z => ?_) h
            rcases z.2 with y | y | y | y
            · exact p (Or.inl y)
            · exact p (Or.inr y)
            · exact p6 y
            · exact y.2 f0
        · refine j44 (fun z => ?_) (h.1 rfl)
          rcases z.2 with y | y | y | y
          · exact p (Or.inl y)
          · exact p (Or.inr y)
          · exact p6 y
          · exact ps y.1
  · exact j44 (fun z => q z.1) (h.1 rfl)
theorem bc1_K {w v : Int32} : (BK w v True → bc1 w v = 4) ∧ (BK w v False → bc2 w v = 4) := by
  unfold BK bc1 bc2
  constructor
  · intro h
    rw [if_pos]
    rcases h with ⟨h, k⟩ | ⟨h, k⟩
    · refine Or.inl ⟨h, ?_⟩
      rcases k with k | k | k | k
      · exact Or.inl k
      · exact Or.inr (Or.inl k)
      · exact Or.inr (Or.inr k)
      · exact absurd trivial k.2
    · refine Or.inr ⟨h, ?_⟩
      rcases k with k | k
      · exact k
      · exact absurd trivial k.2
  · intro h
    rw [if_pos]
    rcases h with ⟨h, k⟩ | ⟨h, k⟩
    · refine Or.inl ⟨h, ?_⟩
      rcases k with k | k | k | ⟨k | k, -⟩
      · exact Or.inr (Or.inr (Or.inl k))
      · exact Or.inr (Or.inr (Or.inr (Or.inl k)))
      · exact Or.inr (Or.inr (Or.inr (Or.inr k)))
      · exact Or.inl k
      · exact Or.inr (Or.inl k)
    · refine Or.inr ⟨h, ?_⟩
      rcases k with k | ⟨k | k, -⟩
      · exact Or.inr (Or.inr k)
      · exact Or.inl k
      · exact Or.inr (Or.inl k)

