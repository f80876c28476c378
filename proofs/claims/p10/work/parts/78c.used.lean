/-- the like, with sorts and count that stay -/
def UV (S : Nat → Int32) (C : Int32) (nm : T_Nm) (nd : T_Nd) (P : Nat → Prop) : Prop := UU nm nd P ∧ nm.2.1 = S ∧ nm.2.2.2.2 = C
/-- r is a name of sort so -/
def NK (S : Nat → Int32) (C r so : Int32) : Prop := ∃ k c : Nat, r = Int32.ofNat k ∧ C = Int32.ofNat c ∧ k < c ∧ c ≤ 100 ∧ S k = so
def PD (P : Nat → Prop) (r : Int32) : Nat → Prop := fun j => P j ∨ r.toInt = (j : Int)
theorem uu_addV {S : Nat → Int32} {C : Int32} {nm : T_Nm} {nd : T_Nd} {kind low row me : Int32} {v : Int64} {P : Nat → Prop} {PC : Int32 → T_Nd → Prop} (u : UV S C nm nd P) (nk : ¬ UK2 kind) (h : wp_Nd_add nd kind low row v me PC) : ∃ r nd', PC r nd' ∧ UV S C nm nd' P := by
  obtain ⟨r, nd', h, u'⟩ := uu_add u.1 nk h
  exact ⟨r, nd', h, u', u.2⟩
theorem uu_addA {S : Nat → Int32} {C : Int32} {nm : T_Nm} {nd : T_Nd} {kind low row me r so : Int32} {P : Nat → Prop} {PC : Int32 → T_Nd → Prop} (u : UV S C nm nd P) (q : NK S C r so) (nf : ¬ UF kind so) (k24 : ¬ kind = 24) (k19 : kind = 19 → so = 215) (h : wp_Nd_add nd kind low row (r).toInt64 me PC) : ∃ x nd', PC x nd' ∧ UV S C nm nd' P := by
  obtain ⟨k, c, e1, e2, kc, c9, e3⟩ := q
  obtain ⟨u1, u2, u3⟩ := u
  have rt : r.toInt64.toInt = (k : Int) := by rw [Int32.toInt_toInt64, e1, on_toInt (by omega)]
  obtain ⟨x, nd', h, u'⟩ := uu_addG (P := P) u1 k24 (fun _ => ⟨k, by rw [u3, e2, on_lt (by omega) (by omega)]; exact kc, by omega, rt, fun z => by rw [u2, e3]; exact k19 z⟩) (fun j => ⟨Or.inl, fun z => z.elim id (fun z => by
    have ej : j = k := by have := z.2; rw [rt] at this; omega
    rw [u2, ej, e3] at z
    exact absurd z.1 nf)⟩) h
  exact ⟨x, nd', h, u', u2, u3⟩
theorem UF_n {k so : Int32} (h : UF k so) : k = 1 ∨ k = 18 ∨ k = 10 ∨ k = 13 := by
  rcases h with ⟨-, h | h⟩ | ⟨-, h | h⟩
  · exact Or.inl h
  · exact Or.inr (Or.inl h)
  · exact Or.inr (Or.inr (Or.inl h))
  · exact Or.inr (Or.inr (Or.inr h))
theorem uu_addB {S : Nat → Int32} {C : Int32} {nm : T_Nm} {nd : T_Nd} {kind low row me r so : Int32} {P : Nat → Prop} {PC : Int32 → T_Nd → Prop} (u : UV S C nm nd (PD P r)) (q : NK S C r so) (uf : UF kind so) (h : wp_Nd_add nd kind low row (r).toInt64 me PC) : ∃ x nd', PC x nd' ∧ UV S C nm nd' P := by
  obtain ⟨k, c, e1, e2, kc, c9, e3⟩ := q
  obtain ⟨u1, u2, u3⟩ := u
  have r1 : r.toInt = (k : Int) := by rw [e1, on_toInt (by omega)]
  have rt : r.toInt64.toInt = (k : Int) := by rw [Int32.toInt_toInt64]; exact r1
  obtain ⟨x, nd', h, u'⟩ := uu_addG (P := P) u1 (fun z => by rw [z] at uf; exact absurd (UF_n uf) (by decide)) (fun _ => ⟨k, by rw [u3, e2, on_lt (by omega) (by omega)]; exact kc, by omega, rt, fun z => by rw [z] at uf; exact absurd (UF_n uf) (by decide)⟩) (fun j => ⟨fun z => z.elim Or.inl (fun z => Or.inr (by
    have ej : j = k := by rw [r1] at z; omega
    rw [u2, ej, e3, rt]
    exact ⟨uf, rfl⟩)), fun z => z.elim Or.inl (fun z => Or.inr (by rw [r1, ← rt]; exact z.2))⟩) h
  exact ⟨x, nd', h, u', u2, u3⟩
theorem uu_find {nm : T_Nm} {v : Int64} {c : Nat} {P : Int32 → Unit → Prop} (e : nm.2.2.2.2 = Int32.ofNat c) (c9 : c ≤ 100) (h : wp_Nm_find nm v P) : P (-1) () ∨ ∃ k, k < c ∧ P (Int32.ofNat k) () := by
  unfold wp_Nm_find at h
  obtain ⟨n, h⟩ := h
  have go : ∀ (n : Nat) (s : Nat) (K : Int64 → Int32 → Prop) (P : Int32 → Unit → Prop), s ≤ c → wp_Nm_find_L2 nm K P n v (Int32.ofNat s) → (∃ x y, K x y) ∨ ∃ k, k < c ∧ P (Int32.ofNat k) () := by
    intro n
    induction n with
    | zero => intro s K P _ h; exact False.elim h
    | succ n ih =>
      intro s K P sc h
      rw [wp_Nm_find_L2, e] at h
      rcases br_el h with ⟨q, h⟩ | ⟨q, h⟩
      · exact Or.inl ⟨_, _, h⟩
      · rcases br_el h with ⟨q1, h⟩ | ⟨q1, h⟩
        · exact Or.inl ⟨_, _, h⟩
        · have sl : s < c := by rw [on_le (by omega) (by omega)] at q; omega
          replace h := h.2
          rcases br_el h with ⟨q2, h⟩ | ⟨q2, h⟩
          · exact Or.inr ⟨s, sl, h⟩
          · rw [on_succ (by omega)] at h
            exact ih (s + 1) K P (by omega) h
  rcases go n 0 _ _ (by omega) h with ⟨x, y, h⟩ | h
  · exact Or.inl h
  · exact Or.inr h
theorem uu_sort {nm : T_Nm} {k c : Nat} {P : Int32 → Unit → Prop} (e : nm.2.2.2.2 = Int32.ofNat c) (kn : k < c) (c9 : c ≤ 100) (h : wp_Nm_sortOf nm (Int32.ofNat k) P) : P (nm.2.1 k) () := by
  unfold wp_Nm_sortOf at h
  have h := ((iv_hasN h e kn c9).2 (by decide)).2
  rw [ix_on (by omega)] at h; exact h
/-- a name that stands there -/
theorem uu_Gr_readName {S : Nat → Int32} {C : Int32} {g : T_Gr} {nm : T_Nm} {nd : T_Nd} {w : T_Wd} {so : Int32} {P : Nat → Prop} {PC : Int32 → T_Gr × T_Wd → Prop} {PT : T_Gr × T_Wd → Prop} (u : UV S C nm nd P) (h : wp_Gr_readName g nm nd w so PC PT) : (∃ r u', PC r u' ∧ NK S C r so) ∨ (∃ u', PT u' ∧ True) := by
  obtain ⟨u1, u2, u3⟩ := u
  unfold wp_Gr_readName wp_Gr_refuse at h
  rcases br_el h with ⟨q, h⟩ | ⟨q, h⟩
  · rcases u1 with big | ⟨c, n, c1, c9, -⟩
    · obtain ⟨r, x, -, qb⟩ := dt_Nm_find h
      replace h := qb _ h
      rcases br_el h with ⟨q, h⟩ | ⟨q, h⟩
      · exact Or.inr ⟨_, h, trivial⟩
      · obtain ⟨r, x, -, qb⟩ := dt_Nm_sortOf h
        replace h := qb _ h
        rcases br_el h with ⟨q, h⟩ | ⟨q, h⟩
        · obtain ⟨x, h⟩ := dm_pass big h
          exact Or.inr ⟨_, h, trivial⟩
        · exact Or.inr ⟨_, h, trivial⟩
    · rcases uu_find c1 c9 h with h | ⟨k, kc, h⟩
      · exact Or.inr ⟨_, h.1 rfl, trivial⟩
      · have o1 := on_n1 (k := k) (by omega)
        replace h := uu_sort c1 kc c9 (h.2 o1.1)
        rcases br_el h with ⟨q, h⟩ | ⟨q, h⟩
        · rcases dt_Gr_pass h with ⟨r, x, -, qb⟩ | ⟨x, -, qb⟩
          · exact Or.inl ⟨_, _, qb _ _ h, k, c, rfl, u3.symm.trans c1, kc, c9, by rw [← u2]; exact q⟩
          · exact Or.inr ⟨_, qb _ _ h, trivial⟩
        · exact Or.inr ⟨_, h, trivial⟩
  · exact Or.inr ⟨_, h.1 rfl, trivial⟩
theorem uu_Nm_use {S : Nat → Int32} {C r so : Int32} {nm : T_Nm} {nd : T_Nd} {P : Nat → Prop} {PC : Unit → T_Nm → Prop} (u : UV S C nm nd P) (q : NK S C r so) (ns : ¬ so = 215) (h : wp_Nm_use nm r PC) : ∃ x nm', PC x nm' ∧ UV S C nm' nd (PD P r) := by
  obtain ⟨k, c, e1, e2, kc, c9, e3⟩ := q
  obtain ⟨u1, u2, u3⟩ := u
  have r1 : r.toInt = (k : Int) := by rw [e1, on_toInt (by omega)]
  rw [e1] at h
  have h := iv_use h (u3.trans e2) kc c9
  refine ⟨_, _, h, ?_, u2, u3⟩
  rcases u1 with big | ⟨c', n, c1, c9', n1, n9, hk, hs, hu⟩
  · exact Or.inl big
  · refine Or.inr ⟨c', n, c1, c9', n1, n9, hk, hs, fun j hj => ?_⟩
    show (nm.2.1 j = 215 → upd nm.2.2.2.1 k (vp_nar .boolean (1 : Int32)) j = 0) ∧ (¬ nm.2.1 j = 215 → (¬ upd nm.2.2.2.1 k (vp_nar .boolean (1 : Int32)) j = 0 ↔ (∃ i, i < n ∧ UF (nd.1 i) (nm.2.1 j) ∧ (nd.2.2.1 i).toInt = (j : Int)) ∨ PD P r j))
    by_cases ej : j = k
    · subst ej
      rw [upd_at]
      refine ⟨fun z => ?_, fun _ => ⟨fun _ => Or.inr (Or.inr r1), fun _ => by decide⟩⟩
      rw [u2, e3] at z
      exact absurd z ns
    · rw [upd_ne ej]
      refine ⟨(hu j hj).1, fun z => ((hu j hj).2 z).trans ?_⟩
      have np : ¬ r.toInt = (j : Int) := fun z => ej (by rw [r1] at z; omega)
      exact ⟨fun x => x.elim Or.inl (fun x => Or.inr (Or.inl x)), fun x => x.elim Or.inl (fun x => x.elim Or.inr (fun x => absurd x np))⟩
theorem uu_Gr_join {S : Nat → Int32} {C : Int32} {nm : T_Nm} {g : T_Gr} {nd : T_Nd} {k a b p : Int32} {P : Nat → Prop} {PC : Int32 → T_Gr × T_Nd → Prop} {PT : T_Gr × T_Nd → Prop} (u : UV S C nm nd P) (nk : ¬ UK2 k) (h : wp_Gr_join g nd k a b p PC PT) : (∃ r u', PC r u' ∧ UV S C nm u'.2 P) ∨ (∃ u', PT u' ∧ True) := by
  unfold wp_Gr_join wp_Gr_refuse at h
  obtain ⟨r1, u1, -, q1⟩ := dt_Nd_measureOf h
  replace h := q1 _ h
  obtain ⟨r2, u2, -, q2⟩ := dt_Nd_measureOf h
  replace h := q2 _ h
  obtain ⟨r3, u3, -, q3⟩ := dt_Gr_joined h
  replace h := q3 _ h
  rcases br_el h with ⟨c, h⟩ | ⟨c, h⟩
  · exact Or.inr ⟨_, h, trivial⟩
  · obtain ⟨r4, u4, -, q4⟩ := dt_Nd_lowOf h
    replace h := q4 _ h
    obtain ⟨r5, u5, -, q5⟩ := dt_Nd_rowOf h
    replace h := q5 _ h
    obtain ⟨r, nd', h, u'⟩ := uu_addV u nk h
    exact Or.inl ⟨_, _, h, u'⟩
theorem UF1 {so : Int32} (h : ¬ so = 213) : ¬ UF 1 so := by
  rintro (⟨q, -⟩ | ⟨-, q⟩)
  · exact h q
  · exact absurd q (by decide)
theorem uu_Gr_readMeasured {S : Nat → Int32} {C : Int32} {g : T_Gr} {nm : T_Nm} {nd : T_Nd} {w : T_Wd} {P : Nat → Prop} {PC : Int32 → T_Gr × T_Nm × T_Nd × T_Wd → Prop} {PT : T_Gr × T_Nm × T_Nd × T_Wd → Prop} (u : UV S C nm nd P) (h : wp_Gr_readMeasured g nm nd w PC PT) : (∃ r u', PC r u' ∧ UV S C u'.2.1 u'.2.2.1 P) ∨ (∃ u', PT u' ∧ True) := by
  have u0 := u
  obtain ⟨u1, u2, u3⟩ := u
  rcases u1 with big | ⟨c, n, c1, c9, -⟩
  · obtain ⟨x, h⟩ := dm_measured (Or.inr big) h
    exact Or.inr ⟨_, h, trivial⟩
  · unfold wp_Gr_readMeasured wp_Gr_refuse at h
    rcases br_el h with ⟨q, h⟩ | ⟨q, h⟩
    · rcases uu_find c1 c9 h with h | ⟨k, kc, h⟩
      · exact Or.inr ⟨_, h.1 rfl, trivial⟩
      · have o1 := on_n1 (k := k) (by omega)
        replace h := uu_sort c1 kc c9 (h.2 o1.1)
        rcases br_el h with ⟨q, h⟩ | ⟨q, h⟩
        · exact Or.inr ⟨_, h, trivial⟩
        · replace h := uu_sort c1 kc c9 h
          have nk : NK S C (Int32.ofNat k) (nm.2.1 k) := ⟨k, c, rfl, u3.symm.trans c1, kc, c9, by rw [u2]⟩
          rcases br_el h with ⟨q1, h⟩ | ⟨q1, h⟩
          · obtain ⟨x, nm', h, uv⟩ := uu_Nm_use u0 nk q h
            rcases dt_Gr_pass h with ⟨r, x, -, qb⟩ | ⟨x, -, qb⟩
            · replace h := qb _ _ h
              unfold wp_Nd_count at h
              obtain ⟨r2, x2, -, qb2⟩ := dt_Nm_measureOf h
              replace h := qb2 _ h
              obtain ⟨y, nd', h, uv'⟩ := uu_addB uv nk (by rw [q1]; exact Or.inl ⟨rfl, Or.inl rfl⟩) h
              exact Or.inl ⟨_, _, h, uv'⟩
            · exact Or.inr ⟨_, qb _ _ h, trivial⟩
          · rcases dt_Gr_pass h with ⟨r, x, -, qb⟩ | ⟨x, -, qb⟩
            · replace h := qb _ _ h
              unfold wp_Nd_count at h
              obtain ⟨r2, x2, -, qb2⟩ := dt_Nm_measureOf h
              replace h := qb2 _ h
              obtain ⟨y, nd', h, uv'⟩ := uu_addA u0 nk (UF1 q1) (by decide) (fun z => absurd z (by decide)) h
              exact Or.inl ⟨_, _, h, uv'⟩
            · exact Or.inr ⟨_, qb _ _ h, trivial⟩
    · exact Or.inr ⟨_, h.1 rfl, trivial⟩

