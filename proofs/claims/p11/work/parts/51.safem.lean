theorem EX_tell {h n m p s r : Int32} {W P S R : Nat → Int32} (hh : h = 0 ∨ h = 1) (m0 : (0 : Int32) ≤ m) (m9 : m < 100) : EXx h n W m P S R n W (m + (1 : Int32)) P (upd S (bnn h + m).toNatClampNeg s) (upd R (bnn h + m).toNatClampNeg r) p := by
  refine ⟨fun _ _ _ => rfl, fun _ _ _ => rfl, fun k k0 k1 => ?_, Int32.le_refl _, by grind⟩
  have ne := bnn_ne hh k0 m0 (by grind) m9 (by grind)
  rw [upd_ne ne, upd_ne ne]
  exact ⟨rfl, rfl⟩
theorem SD_new {h m s : Int32} {S R : Nat → Int32} (hh : h = 0 ∨ h = 1) (d : SDx h m S R) (m0 : (0 : Int32) ≤ m) (m9 : m < 100) (s0 : (0 : Int32) ≤ s) : SDx h (m + (1 : Int32)) (upd S (bnn h + m).toNatClampNeg s) R := by
  intro k k0 k1 k2
  by_cases e : k = m
  · subst e; rw [upd_at]; exact s0
  · rw [upd_ne (bnn_ne hh k0 m0 (by grind) m9 e)]; exact d k k0 (by grind) k2
theorem Jq_0 {h : Int32} {W A C K T L S P : Nat → Int32} {N : Nat → Int64} : Jqx h 0 W N A C K 0 T 0 0 L S P 0 := ⟨⟨fun _ i0 i1 => absurd i1 (by grind), fun _ i0 i1 => absurd i1 (by grind), fun _ i0 i1 => absurd i1 (by grind)⟩, fun _ i0 i1 => absurd i1 (by grind)⟩
theorem Prg_FE {b bn n m t km : Int32} {W A C K T L S R W' A' C' K' T' L' S' R' : Nat → Int32} {N N' : Nat → Int64} (p : Prg W N A C K T L S b bn n m t km) (n9 : n ≤ 1000) (m9 : m ≤ 100) (t9 : t ≤ 1000) (k0 : (0 : Int32) ≤ km) (k9 : km ≤ 1000) (fa : FEa b W N A C K T W' N' A' C' K' T') (fb : FEb bn L S R L' S' R') : Prg W' N' A' C' K' T' L' S' b bn n m t km := by
  obtain ⟨p1, p2, p3⟩ := p
  refine ⟨fun i i0 i1 => ?_, fun k k0 k1 => ?_, fun k k0 k1 => ?_⟩
  · obtain ⟨f1, f2, f3, f4, f5, f6⟩ := fa i i0 (by grind)
    have old := p1 i i0 i1
    unfold NOk at old ⊢
    rw [f1, f2, f3, f4]
    exact NOv_mono old (Int32.le_refl _) k0 (Int32.le_refl _) k9 (fun v v0 v1 => (fa v v0 (by grind)).1) (fun q q0 q1 => (fa q q0 (by grind)).2.2.2.2.1) (fun k k0 k1 _ => (fb k k0 (by grind)).2.1)
  · obtain ⟨t1, t2, t3⟩ := p2 k k0 k1
    unfold TopOk
    rw [(fa k k0 (by grind)).2.2.2.2.2, (fa _ t1 (by grind)).1]
    exact ⟨t1, t2, t3⟩
  · obtain ⟨t1, t2, t3, t4⟩ := p3 k k0 k1
    obtain ⟨g1, g2, g3⟩ := fb k k0 (by grind)
    unfold NameOk
    rw [g1, g2]
    refine ⟨t1, t2, t3, fun s0 => ?_⟩
    rw [(fa _ s0 (by grind)).1]
    exact t4 s0
/-- a finished program -/
def FQx (h : Int32) (W : Nat → Int32) (N : Nat → Int64) (A C K T L S R : Nat → Int32) (n t m : Int32) : Prop := (∃ km : Int32, (0 : Int32) ≤ km ∧ km ≤ 1000 ∧ Prg W N A C K T L S ((1000 : Int32) * h) ((100 : Int32) * h) n m t km) ∧ (∀ k : Int32, (0 : Int32) ≤ k → k < m → R ((100 : Int32) * h + k).toNatClampNeg = 24 → (0 : Int32) ≤ S ((100 : Int32) * h + k).toNatClampNeg)
theorem FQ_FE {h n t m : Int32} {W A C K T L S R W' A' C' K' T' L' S' R' : Nat → Int32} {N N' : Nat → Int64} (q : FQx h W N A C K T L S R n t m) (n9 : n ≤ 1000) (m9 : m ≤ 100) (t9 : t ≤ 1000) (fa : FEa ((1000 : Int32) * h) W N A C K T W' N' A' C' K' T') (fb : FEb ((100 : Int32) * h) L S R L' S' R') : FQx h W' N' A' C' K' T' L' S' R' n t m := by
  obtain ⟨⟨km, k0, k9, p⟩, s⟩ := q
  refine ⟨⟨km, k0, k9, Prg_FE p n9 m9 t9 k0 k9 fa fb⟩, fun k k0 k1 k2 => ?_⟩
  obtain ⟨g1, g2, g3⟩ := fb k k0 (by grind)
  rw [g2]; rw [g3] at k2
  exact s k k0 k1 k2
theorem FQ_new {h n t m km hi : Int32} {W A C K T L S R P : Nat → Int32} {N : Nat → Int64} (hh : h = 0 ∨ h = 1) (j : Jqx h n W N A C K km T t m L S P hi) (k0 : (0 : Int32) ≤ km) (k9 : km ≤ 1000) (sd : SDx h m S R) : FQx ((1 : Int32) - h) W N A C K T L S R n t m := ⟨⟨km, k0, k9, j.1⟩, sd⟩
def FrL (e z : T_Mo) : Prop := z.1 = e.1 ∧ z.2.1.1.1 = e.2.1.1.1 ∧ z.2.1.1.2.1 = e.2.1.1.2.1 ∧ z.2.1.1.2.2.1 = e.2.1.1.2.2.1 ∧ z.2.1.2 = e.2.1.2 ∧ z.2.2 = e.2.2
theorem lt100 {m : Int32} (h : m ≤ 100) (n : ¬ m = 100) : m < 100 := by grind
theorem er1 {m : Int32} (h0 : (0 : Int32) ≤ m) (h9 : m < 100) : m + 1 - 1 = m := by grind
theorem er2 {m : Int32} (h0 : (0 : Int32) ≤ m) (h9 : m < 100) : (0 : Int32) ≤ m + 1 ∧ m + 1 ≤ 100 := by grind
theorem lt_s1 {m : Int32} (h0 : (0 : Int32) ≤ m) (h9 : m < 100) : m < m + 1 := by grind
theorem top_end {g z u : T_Mo} {r : Int32} (h : RT g z 10 22 r u) (r0 : (0 : Int32) ≤ r) (sd : SDx z.1.2.1.2.1 z.2.1.1.2.2.1 z.2.1.2.2.2.1 z.2.1.2.1.2) : Ok g (((((u.1.1.1.1.1, u.1.1.1.1.2), (u.1.1.1.2.1, (u.1.1.1.2.2.1, u.1.1.1.2.2.2))), ((u.1.1.2.1.1, u.1.1.2.1.2), (u.1.1.2.2.1, (u.1.1.2.2.2.1, u.1.1.2.2.2.2)))), (((u.1.2.1.1.1, u.1.2.1.1.2), (u.1.2.1.2.1, (u.1.2.1.2.2.1, u.1.2.1.2.2.2))), ((u.1.2.2.1.1, (u.1.2.2.1.2.1, u.1.2.2.1.2.2)), (u.1.2.2.2.1, (u.1.2.2.2.2.1, u.1.2.2.2.2.2))))), ((((u.2.1.1.1.1, (upd u.2.1.1.1.2 (bb u.1.2.1.2.1 + u.2.1.1.2.1).toNatClampNeg r)), ((u.2.1.1.2.1 + (1 : Int32)), (u.2.1.1.2.2.1, u.2.1.1.2.2.2))), ((u.2.1.2.1.1, u.2.1.2.1.2), (u.2.1.2.2.1, (u.2.1.2.2.2.1, u.2.1.2.2.2.2)))), (((u.2.2.1.1.1, u.2.2.1.1.2), (u.2.2.1.2.1, (u.2.2.1.2.2.1, u.2.2.1.2.2.2))), ((u.2.2.2.1.1, (u.2.2.2.1.2.1, u.2.2.2.1.2.2)), (u.2.2.2.2.1, (u.2.2.2.2.2.1, u.2.2.2.2.2.2)))))) ∧ SDx u.1.2.1.2.1 u.2.1.1.2.2.1 u.2.1.2.2.2.1 u.2.1.2.1.2 := by
  rcases h with ⟨h1, -⟩ | ⟨-, h2, h3, h4, h5⟩
  · exfalso; subst h1; exact absurd r0 (by decide)
  · obtain ⟨⟨o1, o2, o3, o4, o5, o6⟩, ⟨x1, x2, x3, x4, x5, x6, x7⟩, k1, k2⟩ := h3
    obtain ⟨hh, N0, N9, K0, H0, T0, m0, m9, SM⟩ := o2
    unfold sl at h4 k1 k2
    have t0 : (0 : Int32) ≤ u.2.1.1.2.1 := l32 T0
    have t9 : u.2.1.1.2.1 < 1000 := Int32.lt_iff_toInt_lt.mpr (by show (u.2.1.1.2.1).toInt < 1000; omega)
    have et : (u.2.1.1.2.1 + (1 : Int32)).toInt = (u.2.1.1.2.1).toInt + 1 := by rw [ta (by rw [i1]; omega) (by rw [i1]; omega), i1]
    have hJ := Jq_top (s := r) hh o3 t0 t9 (Or.inl h5)
    have hF := FEa_top (s := r) hh o1.2.2.2.2.2.1 t0 t9
    have hn : z.1.2.1.2.1 = u.1.2.1.2.1 := x1.symm
    have hm : z.2.1.1.2.2.1 = u.2.1.1.2.2.1 := x2.symm
    have sd2 := SD_EX x7 sd
    rw [hn, hm] at sd2
    exact ⟨⟨⟨o1.1, o1.2.1, o1.2.2.1, o1.2.2.2.1, o1.2.2.2.2.1, hF, o1.2.2.2.2.2.2⟩, ⟨hh, N0, N9, K0, H0, by show 0 ≤ (u.2.1.1.2.1 + (1 : Int32)).toInt; omega, m0, m9, by show (u.2.1.1.1.1).toInt + (u.2.2.1.2.2.2).toInt + (u.2.1.1.2.1 + (1 : Int32)).toInt ≤ (u.1.2.1.2.2.1).toInt; omega⟩, hJ, o4, o5, o6⟩, sd2⟩
theorem step_end {g e u : T_Mo} {k r : Int32} (ok : Ok g u) (ty : Tyx u.1.2.1.2.1 u.1.2.1.2.2.1 u.1.2.1.2.2.2 r 24 24) (hs : 1 ≤ sl u) (sd : SDx u.1.2.1.2.1 e.2.1.1.2.2.1 u.2.1.2.2.2.1 u.2.1.2.1.2) (ek : k = e.2.1.1.2.2.1) (k0 : (0 : Int32) ≤ k) (k9 : k < 100) (hn : u.2.1.1.2.2.1 = e.2.1.1.2.2.1 + 1) (hS : u.2.1.2.2.2.1 (bnn u.1.2.1.2.1 + k).toNatClampNeg = -1) : Ok g (((((u.1.1.1.1.1, u.1.1.1.1.2), (u.1.1.1.2.1, (u.1.1.1.2.2.1, u.1.1.1.2.2.2))), ((u.1.1.2.1.1, u.1.1.2.1.2), (u.1.1.2.2.1, (u.1.1.2.2.2.1, u.1.1.2.2.2.2)))), (((u.1.2.1.1.1, u.1.2.1.1.2), (u.1.2.1.2.1, (u.1.2.1.2.2.1, u.1.2.1.2.2.2))), ((u.1.2.2.1.1, (u.1.2.2.1.2.1, u.1.2.2.1.2.2)), (u.1.2.2.2.1, (u.1.2.2.2.2.1, u.1.2.2.2.2.2))))), ((((u.2.1.1.1.1, (upd u.2.1.1.1.2 (bb u.1.2.1.2.1 + u.2.1.1.2.1).toNatClampNeg r)), ((u.2.1.1.2.1 + (1 : Int32)), (u.2.1.1.2.2.1, u.2.1.1.2.2.2))), ((u.2.1.2.1.1, u.2.1.2.1.2), (u.2.1.2.2.1, ((upd u.2.1.2.2.2.1 (((100 : Int32) * ((1 : Int32) - u.1.2.1.2.1)) + k).toNatClampNeg r), u.2.1.2.2.2.2)))), (((u.2.2.1.1.1, u.2.2.1.1.2), (u.2.2.1.2.1, (u.2.2.1.2.2.1, u.2.2.1.2.2.2))), ((u.2.2.2.1.1, (u.2.2.2.1.2.1, u.2.2.2.1.2.2)), (u.2.2.2.2.1, (u.2.2.2.2.2.1, u.2.2.2.2.2.2)))))) ∧ SDx ((((((u.1.1.1.1.1, u.1.1.1.1.2), (u.1.1.1.2.1, (u.1.1.1.2.2.1, u.1.1.1.2.2.2))), ((u.1.1.2.1.1, u.1.1.2.1.2), (u.1.1.2.2.1, (u.1.1.2.2.2.1, u.1.1.2.2.2.2)))), (((u.1.2.1.1.1, u.1.2.1.1.2), (u.1.2.1.2.1, (u.1.2.1.2.2.1, u.1.2.1.2.2.2))), ((u.1.2.2.1.1, (u.1.2.2.1.2.1, u.1.2.2.1.2.2)), (u.1.2.2.2.1, (u.1.2.2.2.2.1, u.1.2.2.2.2.2))))), ((((u.2.1.1.1.1, (upd u.2.1.1.1.2 (bb u.1.2.1.2.1 + u.2.1.1.2.1).toNatClampNeg r)), ((u.2.1.1.2.1 + (1 : Int32)), (u.2.1.1.2.2.1, u.2.1.1.2.2.2))), ((u.2.1.2.1.1, u.2.1.2.1.2), (u.2.1.2.2.1, ((upd u.2.1.2.2.2.1 (((100 : Int32) * ((1 : Int32) - u.1.2.1.2.1)) + k).toNatClampNeg r), u.2.1.2.2.2.2)))), (((u.2.2.1.1.1, u.2.2.1.1.2), (u.2.2.1.2.1, (u.2.2.1.2.2.1, u.2.2.1.2.2.2))), ((u.2.2.2.1.1, (u.2.2.2.1.2.1, u.2.2.2.1.2.2)), (u.2.2.2.2.1, (u.2.2.2.2.2.1, u.2.2.2.2.2.2))))))).1.2.1.2.1 ((((((u.1.1.1.1.1, u.1.1.1.1.2), (u.1.1.1.2.1, (u.1.1.1.2.2.1, u.1.1.1.2.2.2))), ((u.1.1.2.1.1, u.1.1.2.1.2), (u.1.1.2.2.1, (u.1.1.2.2.2.1, u.1.1.2.2.2.2)))), (((u.1.2.1.1.1, u.1.2.1.1.2), (u.1.2.1.2.1, (u.1.2.1.2.2.1, u.1.2.1.2.2.2))), ((u.1.2.2.1.1, (u.1.2.2.1.2.1, u.1.2.2.1.2.2)), (u.1.2.2.2.1, (u.1.2.2.2.2.1, u.1.2.2.2.2.2))))), ((((u.2.1.1.1.1, (upd u.2.1.1.1.2 (bb u.1.2.1.2.1 + u.2.1.1.2.1).toNatClampNeg r)), ((u.2.1.1.2.1 + (1 : Int32)), (u.2.1.1.2.2.1, u.2.1.1.2.2.2))), ((u.2.1.2.1.1, u.2.1.2.1.2), (u.2.1.2.2.1, ((upd u.2.1.2.2.2.1 (((100 : Int32) * ((1 : Int32) - u.1.2.1.2.1)) + k).toNatClampNeg r), u.2.1.2.2.2.2)))), (((u.2.2.1.1.1, u.2.2.1.1.2), (u.2.2.1.2.1, (u.2.2.1.2.2.1, u.2.2.1.2.2.2))), ((u.2.2.2.1.1, (u.2.2.2.1.2.1, u.2.2.2.1.2.2)), (u.2.2.2.2.1, (u.2.2.2.2.2.1, u.2.2.2.2.2.2))))))).2.1.1.2.2.1 ((((((u.1.1.1.1.1, u.1.1.1.1.2), (u.1.1.1.2.1, (u.1.1.1.2.2.1, u.1.1.1.2.2.2))), ((u.1.1.2.1.1, u.1.1.2.1.2), (u.1.1.2.2.1, (u.1.1.2.2.2.1, u.1.1.2.2.2.2)))), (((u.1.2.1.1.1, u.1.2.1.1.2), (u.1.2.1.2.1, (u.1.2.1.2.2.1, u.1.2.1.2.2.2))), ((u.1.2.2.1.1, (u.1.2.2.1.2.1, u.1.2.2.1.2.2)), (u.1.2.2.2.1, (u.1.2.2.2.2.1, u.1.2.2.2.2.2))))), ((((u.2.1.1.1.1, (upd u.2.1.1.1.2 (bb u.1.2.1.2.1 + u.2.1.1.2.1).toNatClampNeg r)), ((u.2.1.1.2.1 + (1 : Int32)), (u.2.1.1.2.2.1, u.2.1.1.2.2.2))), ((u.2.1.2.1.1, u.2.1.2.1.2), (u.2.1.2.2.1, ((upd u.2.1.2.2.2.1 (((100 : Int32) * ((1 : Int32) - u.1.2.1.2.1)) + k).toNatClampNeg r), u.2.1.2.2.2.2)))), (((u.2.2.1.1.1, u.2.2.1.1.2), (u.2.2.1.2.1, (u.2.2.1.2.2.1, u.2.2.1.2.2.2))), ((u.2.2.2.1.1, (u.2.2.2.1.2.1, u.2.2.2.1.2.2)), (u.2.2.2.2.1, (u.2.2.2.2.2.1, u.2.2.2.2.2.2))))))).2.1.2.2.2.1 ((((((u.1.1.1.1.1, u.1.1.1.1.2), (u.1.1.1.2.1, (u.1.1.1.2.2.1, u.1.1.1.2.2.2))), ((u.1.1.2.1.1, u.1.1.2.1.2), (u.1.1.2.2.1, (u.1.1.2.2.2.1, u.1.1.2.2.2.2)))), (((u.1.2.1.1.1, u.1.2.1.1.2), (u.1.2.1.2.1, (u.1.2.1.2.2.1, u.1.2.1.2.2.2))), ((u.1.2.2.1.1, (u.1.2.2.1.2.1, u.1.2.2.1.2.2)), (u.1.2.2.2.1, (u.1.2.2.2.2.1, u.1.2.2.2.2.2))))), ((((u.2.1.1.1.1, (upd u.2.1.1.1.2 (bb u.1.2.1.2.1 + u.2.1.1.2.1).toNatClampNeg r)), ((u.2.1.1.2.1 + (1 : Int32)), (u.2.1.1.2.2.1, u.2.1.1.2.2.2))), ((u.2.1.2.1.1, u.2.1.2.1.2), (u.2.1.2.2.1, ((upd u.2.1.2.2.2.1 (((100 : Int32) * ((1 : Int32) - u.1.2.1.2.1)) + k).toNatClampNeg r), u.2.1.2.2.2.2)))), (((u.2.2.1.1.1, u.2.2.1.1.2), (u.2.2.1.2.1, (u.2.2.1.2.2.1, u.2.2.1.2.2.2))), ((u.2.2.2.1.1, (u.2.2.2.1.2.1, u.2.2.2.1.2.2)), (u.2.2.2.2.1, (u.2.2.2.2.2.1, u.2.2.2.2.2.2))))))).2.1.2.1.2 := by
  obtain ⟨o1, o2, o3, o4, o5, o6⟩ := ok
  obtain ⟨hh, N0, N9, K0, H0, T0, m0, m9, SM⟩ := o2
  unfold sl at hs
  have t0 : (0 : Int32) ≤ u.2.1.1.2.1 := l32 T0
  have t9 : u.2.1.1.2.1 < 1000 := Int32.lt_iff_toInt_lt.mpr (by show (u.2.1.1.2.1).toInt < 1000; omega)
  have et : (u.2.1.1.2.1 + (1 : Int32)).toInt = (u.2.1.1.2.1).toInt + 1 := by rw [ta (by rw [i1]; omega) (by rw [i1]; omega), i1]
  have kk9 : u.2.1.1.1.1 ≤ 1000 := l32 (by show (u.2.1.1.1.1).toInt ≤ 1000; omega)
  have km : k < u.2.1.1.2.2.1 := by rw [hn, ek]; rw [ek] at k0 k9; exact lt_s1 k0 k9
  have hJ0 := Jq_step (k := k) (s := r) hh o3 m9 (l32 K0) kk9 k0 km (by rw [hS]; decide) ty
  have hJ := Jq_top (s := r) hh hJ0 t0 t9 (Or.inr ty)
  have hF := FEa_top (s := r) hh o1.2.2.2.2.2.1 t0 t9
  have hG := FEb_step (m := k) (s := r) hh o1.2.2.2.2.2.2 k0 k9
  subst ek
  have hD := SD_new (s := r) hh sd k0 k9 ty.1
  rw [← hn] at hD
  exact ⟨⟨⟨o1.1, o1.2.1, o1.2.2.1, o1.2.2.2.1, o1.2.2.2.2.1, hF, hG⟩, ⟨hh, N0, N9, K0, H0, by show 0 ≤ (u.2.1.1.2.1 + (1 : Int32)).toInt; omega, m0, m9, by show (u.2.1.1.1.1).toInt + (u.2.2.1.2.2.2).toInt + (u.2.1.1.2.1 + (1 : Int32)).toInt ≤ (u.1.2.1.2.2.1).toInt; omega⟩, hJ, o4, o5, o6⟩, hD⟩
theorem SD_plain {h n m n' p q : Int32} {W P S R W' P' S' R' : Nat → Int32} (a : EXx h n W m P S R n' W' (m + (1 : Int32)) P' S' R' p) (s : SDx h m S R) (r : R' (bnn h + m).toNatClampNeg = q) (hq : ¬ q = 24) (m9 : m ≤ 100) : SDx h (m + (1 : Int32)) S' R' := SD_one (SD_EX a s) (fun e => absurd (r.symm.trans e) hq) m9
def Fin (z : T_Mo) : Prop := I_Mo z ∧ FQx z.1.2.1.2.1 z.1.2.1.2.2.2 z.1.2.2.1.1 z.1.2.2.2.1 z.1.2.2.2.2.1 z.1.2.2.2.2.2 z.2.1.1.1.2 z.2.1.2.1.1 z.2.1.2.2.2.1 z.2.1.2.1.2 z.2.1.2.2.2.2 z.2.2.1.1.1 z.2.2.1.1.2
theorem s_Mo_goP {z_this : T_Mo} {post : Int32 → T_Mo → Prop} (p0 : Pl z_this) (hp : ∀ r u, ((r = 0 ∨ r = 1) ∧ Fr z_this u ∧ (r = 1 → Lx3 u)) → post r u) : wp_Mo_go z_this post :=
  s_Mo_go (g := z_this) p0 (Fr_self _) (fun r u hq => hp r u ⟨hq.1, hq.2.2.1, fun h => ⟨hq.2.1, hq.2.2.2 h⟩⟩)

def setL (z : T_Mo) (L : Nat → Int32) : T_Mo := (((((z.1.1.1.1.1, z.1.1.1.1.2), (z.1.1.1.2.1, (z.1.1.1.2.2.1, z.1.1.1.2.2.2))), ((z.1.1.2.1.1, z.1.1.2.1.2), (z.1.1.2.2.1, (z.1.1.2.2.2.1, z.1.1.2.2.2.2)))), (((z.1.2.1.1.1, z.1.2.1.1.2), (z.1.2.1.2.1, (z.1.2.1.2.2.1, z.1.2.1.2.2.2))), ((z.1.2.2.1.1, (z.1.2.2.1.2.1, z.1.2.2.1.2.2)), (z.1.2.2.2.1, (z.1.2.2.2.2.1, z.1.2.2.2.2.2))))), ((((z.2.1.1.1.1, z.2.1.1.1.2), (z.2.1.1.2.1, (z.2.1.1.2.2.1, L))), ((z.2.1.2.1.1, z.2.1.2.1.2), (z.2.1.2.2.1, (z.2.1.2.2.2.1, z.2.1.2.2.2.2)))), (((z.2.2.1.1.1, z.2.2.1.1.2), (z.2.2.1.2.1, (z.2.2.1.2.2.1, z.2.2.1.2.2.2))), ((z.2.2.2.1.1, (z.2.2.2.1.2.1, z.2.2.2.1.2.2)), (z.2.2.2.2.1, (z.2.2.2.2.2.1, z.2.2.2.2.2.2))))))
theorem tl_in {x2 x3 b : Int32} (h2 : 0 ≤ x2.toInt) (h2' : x2.toInt < 200) (b0 : 0 ≤ b.toInt) (bx : b.toInt ≤ x3.toInt) (x9 : x3.toInt ≤ 4000) (xb : x3.toInt - b.toInt < 12) : vp_in ((((12 : Int32) * x2) + x3) - b) 2400 := by
  have e0 : ((12 : Int32) * x2).toInt = 12 * x2.toInt := by
    rw [Int32.toInt_mul, show (12 : Int32).toInt = 12 from rfl]; exact Int.bmod_eq_of_le (by omega) (by omega)
  have e1 : (((12 : Int32) * x2) + x3).toInt = 12 * x2.toInt + x3.toInt := by rw [ta (by omega) (by omega), e0]
  have e2 : ((((12 : Int32) * x2) + x3) - b).toInt = 12 * x2.toInt + x3.toInt - b.toInt := by rw [ts (by omega) (by omega), e1]
  exact vp_in_iff.mpr ⟨by omega, by omega⟩
theorem l_Mo_tell_L49 {e0 : T_Mo} {K : T_Mo → Int32 → Int32 → Int32 → Prop} {post : Int32 → T_Mo → Prop} {x1 x2 : Int32} (h2 : 0 ≤ x2.toInt) (h2' : x2.toInt < 200) (b0 : 0 ≤ (e0.1.1.2.1.1).toInt) (e9 : (e0.1.1.2.1.2).toInt ≤ 4000) (el : (e0.1.1.2.1.2).toInt - (e0.1.1.2.1.1).toInt ≤ 12) (hK : ∀ L x3, K (setL e0 L) x1 x2 x3) : ∀ (n9 : Nat) (L : Nat → Int32) (x3 : Int32), (e0.1.1.2.1.1).toInt ≤ x3.toInt → x3.toInt ≤ (e0.1.1.2.1.2).toInt → (e0.1.1.2.1.2).toInt - x3.toInt < ((n9 : Nat) : Int) → wp_Mo_tell_L49 K post n9 (setL e0 L) x1 x2 x3 := by
  intro n9
  induction n9 with
  | zero => intro L x3 i0 i1 hm; exfalso; omega
  | succ n9 ih =>
    intro L x3 i0 i1 hm
    rw [wp_Mo_tell_L49]
    refine ⟨fun h => hK _ _, fun h => ?_⟩
    have h' : ¬ e0.1.1.2.1.2 ≤ x3 := h
    rw [Int32.le_iff_toInt_le] at h'
    have c1i : (1 : Int32).toInt = 1 := rfl
    have e1 : (x3 + (1 : Int32)).toInt = x3.toInt + 1 := by rw [ta (by rw [c1i]; omega) (by rw [c1i]; omega), c1i]
    exact ⟨vp_in_iff.mpr ⟨by omega, by omega⟩, tl_in (b := e0.1.1.2.1.1) h2 h2' b0 i0 (by omega) (by omega), ih _ _ (by omega) (by omega) (by omega)⟩
theorem nm_in {h m : Int32} (hh : h = 0 ∨ h = 1) (m0 : (0 : Int32) ≤ m) (m9 : m < 100) : 0 ≤ (((100 : Int32) * ((1 : Int32) - h)) + m).toInt ∧ (((100 : Int32) * ((1 : Int32) - h)) + m).toInt < 200 := by
  rw [Int32.le_iff_toInt_le] at m0
  rw [Int32.lt_iff_toInt_lt] at m9
  have c0 : (0 : Int32).toInt = 0 := rfl
  have c1 : (100 : Int32).toInt = 100 := rfl
  rcases hh with rfl | rfl
  · have e : ((100 : Int32) * ((1 : Int32) - 0)) = 100 := by decide
    rw [e, ta (by omega) (by omega)]; omega
  · have e : ((100 : Int32) * ((1 : Int32) - 1)) = 0 := by decide
    rw [e, ta (by omega) (by omega)]; omega
theorem s_Mo_tell {g e0 : T_Mo} {a1 : Int32} {post : Int32 → T_Mo → Prop} (p0 : Ok g e0) (hp : ∀ r u, ((r = -1 ∧ FE g u) ∨ (r = e0.2.1.1.2.2.1 ∧ (0 : Int32) ≤ r ∧ r < 100 ∧ Ok g u ∧ u.2.1.1.2.2.1 = e0.2.1.1.2.2.1 + 1 ∧ u.1.2.1.2.1 = e0.1.2.1.2.1 ∧ u.1.2.1.2.2.1 = e0.1.2.1.2.2.1 ∧ u.2.2.1.2.2.2 = e0.2.2.1.2.2.2 ∧ u.2.1.1.2.1 = e0.2.1.1.2.1 ∧ u.2.1.1.1.1 = e0.2.1.1.1.1 ∧ u.1.2.1.1.2 = e0.1.2.1.1.2 ∧ u.2.1.2.2.2.1 (bnn e0.1.2.1.2.1 + r).toNatClampNeg = -1 ∧ u.2.1.2.1.2 (bnn e0.1.2.1.2.1 + r).toNatClampNeg = a1 ∧ EXx e0.1.2.1.2.1 e0.1.2.1.2.2.1 e0.1.2.1.2.2.2 e0.2.1.1.2.2.1 e0.2.2.1.2.2.1 e0.2.1.2.2.2.1 e0.2.1.2.1.2 u.1.2.1.2.2.1 u.1.2.1.2.2.2 u.2.1.1.2.2.1 u.2.2.1.2.2.1 u.2.1.2.2.2.1 u.2.1.2.1.2 e0.2.2.1.2.2.2)) → post r u) : wp_Mo_tell e0 a1 post := by
  have j24 : wp_Mo_tell_J24 post e0 a1 := by
    unfold wp_Mo_tell_J24
    exact s_Mo_badS p0.2.2.2.1 (fun r u hq => hp r u (Or.inl ⟨hq.1, FE_Fr p0.1 hq.2⟩))
  unfold wp_Mo_tell
  refine s_Mo_isWord (fun r1 u1 hq0 => ?_)
  refine ⟨fun _ => j24, fun h2 => ?_⟩
  have tk : e0.1.1.1.2.2.2 = 999 := by
    rcases hq0 with q | ⟨-, q⟩
    · exact absurd q h2
    · rw [q]; decide
  refine s_Mo_nameOf (g := g) p0 tk (fun r3 u3 hq3 => ?_)
  refine ⟨fun _ => j24, fun _ => ⟨fun _ => j24, fun h => ?_⟩⟩
  clear j24
  obtain ⟨o1, ⟨hh, N0, N9, K0, H0, T0, m0, m9', SM⟩, o3, o4, o5, o6⟩ := p0
  obtain ⟨⟨l1, l2, l3, l4, l5⟩, l6, l7⟩ := o4
  have m9 : e0.2.1.1.2.2.1 < 100 := by
    exact lt100 m9' h
  have kk9 : e0.2.1.1.1.1 ≤ 1000 := l32 (by show (e0.2.1.1.1.1).toInt ≤ 1000; omega)
  have n2 := nm_in hh m0 m9
  have l6' := l6 tk
  have b0 : 0 ≤ (e0.1.1.2.1.1).toInt := Int32.le_iff_toInt_le.mp l1
  have be : (e0.1.1.2.1.1).toInt ≤ (e0.1.1.2.1.2).toInt := Int32.le_iff_toInt_le.mp l2
  have ep : (e0.1.1.2.1.2).toInt ≤ (e0.1.1.1.2.1).toInt := Int32.le_iff_toInt_le.mp l3
  have ps : (e0.1.1.1.2.1).toInt ≤ (e0.1.1.1.1.2).toInt := Int32.le_iff_toInt_le.mp l4
  have s9 : (e0.1.1.1.1.2).toInt ≤ 4000 := Int32.le_iff_toInt_le.mp l5
  have ed : (e0.1.1.2.1.2 - e0.1.1.2.1.1).toInt = (e0.1.1.2.1.2).toInt - (e0.1.1.2.1.1).toInt := ts (by omega) (by omega)
  have el : (e0.1.1.2.1.2).toInt - (e0.1.1.2.1.1).toInt ≤ 12 := by rw [← ed]; exact Int32.le_iff_toInt_le.mp l6'
  have hl0 : (0 : Int32) ≤ e0.1.1.2.1.2 - e0.1.1.2.1.1 := l32 (by show 0 ≤ (e0.1.1.2.1.2 - e0.1.1.2.1.1).toInt; omega)
  have hJ := Jq_tell (l := e0.1.1.2.1.2 - e0.1.1.2.1.1) hh o3 (l32 N0) m0 m9 (l32 K0) kk9 hl0 l6'
  have hF := FEb_tell (l := e0.1.1.2.1.2 - e0.1.1.2.1.1) (s := (-1 : Int32)) (r := a1) hh o1.2.2.2.2.2.2 m0 m9
  have hE := EX_tell (n := e0.1.2.1.2.2.1) (W := e0.1.2.1.2.2.2) (P := e0.2.2.1.2.2.1) (S := e0.2.1.2.2.2.1) (R := e0.2.1.2.1.2) (p := e0.2.2.1.2.2.2) (s := (-1 : Int32)) (r := a1) hh m0 m9
  have hS : upd e0.2.1.2.2.2.1 (bnn e0.1.2.1.2.1 + e0.2.1.1.2.2.1).toNatClampNeg (-1 : Int32) (bnn e0.1.2.1.2.1 + e0.2.1.1.2.2.1).toNatClampNeg = -1 := upd_at
  have hR : upd e0.2.1.2.1.2 (bnn e0.1.2.1.2.1 + e0.2.1.1.2.2.1).toNatClampNeg a1 (bnn e0.1.2.1.2.1 + e0.2.1.1.2.2.1).toNatClampNeg = a1 := upd_at
  have em : (e0.2.1.1.2.2.1 + (1 : Int32)) - (1 : Int32) = e0.2.1.1.2.2.1 := er1 m0 m9
  have m01 : (0 : Int32) ≤ e0.2.1.1.2.2.1 + 1 ∧ e0.2.1.1.2.2.1 + 1 ≤ 100 := er2 m0 m9
  have v : vp_in (((100 : Int32) * ((1 : Int32) - e0.1.2.1.2.1)) + e0.2.1.1.2.2.1) 200 := vp_in_iff.mpr n2
  refine ⟨5000, l_Mo_tell_L49 (e0 := e0) n2.1 n2.2 b0 (by omega) el (fun L x3 => ?_) 5000 e0.2.1.1.2.2.2 _ (Int.le_refl _) be (by omega)⟩
  refine ⟨v, v, v, v, ?_⟩
  have key : post (e0.2.1.1.2.2.1) (((((e0.1.1.1.1.1, e0.1.1.1.1.2), (e0.1.1.1.2.1, (e0.1.1.1.2.2.1, e0.1.1.1.2.2.2))), ((e0.1.1.2.1.1, e0.1.1.2.1.2), (e0.1.1.2.2.1, (e0.1.1.2.2.2.1, e0.1.1.2.2.2.2)))), (((e0.1.2.1.1.1, e0.1.2.1.1.2), (e0.1.2.1.2.1, (e0.1.2.1.2.2.1, e0.1.2.1.2.2.2))), ((e0.1.2.2.1.1, (e0.1.2.2.1.2.1, e0.1.2.2.1.2.2)), (e0.1.2.2.2.1, (e0.1.2.2.2.2.1, e0.1.2.2.2.2.2))))), ((((e0.2.1.1.1.1, e0.2.1.1.1.2), (e0.2.1.1.2.1, ((e0.2.1.1.2.2.1 + (1 : Int32)), L))), (((upd e0.2.1.2.1.1 ((((100 : Int32) * ((1 : Int32) - e0.1.2.1.2.1)) + e0.2.1.1.2.2.1)).toNatClampNeg (e0.1.1.2.1.2 - e0.1.1.2.1.1)), (upd e0.2.1.2.1.2 ((((100 : Int32) * ((1 : Int32) - e0.1.2.1.2.1)) + e0.2.1.1.2.2.1)).toNatClampNeg a1)), ((upd e0.2.1.2.2.1 ((((100 : Int32) * ((1 : Int32) - e0.1.2.1.2.1)) + e0.2.1.1.2.2.1)).toNatClampNeg (0 : Int32)), ((upd e0.2.1.2.2.2.1 ((((100 : Int32) * ((1 : Int32) - e0.1.2.1.2.1)) + e0.2.1.1.2.2.1)).toNatClampNeg (-1 : Int32)), e0.2.1.2.2.2.2)))), (((e0.2.2.1.1.1, e0.2.2.1.1.2), (e0.2.2.1.2.1, (e0.2.2.1.2.2.1, e0.2.2.1.2.2.2))), ((e0.2.2.2.1.1, (e0.2.2.2.1.2.1, e0.2.2.2.1.2.2)), (e0.2.2.2.2.1, (e0.2.2.2.2.2.1, e0.2.2.2.2.2.2)))))) := hp _ _ (Or.inr ⟨rfl, m0, m9, ⟨⟨o1.1, o1.2.1, o1.2.2.1, o1.2.2.2.1, o1.2.2.2.2.1, o1.2.2.2.2.2.1, hF⟩, ⟨hh, N0, N9, K0, H0, T0, m01.1, m01.2, SM⟩, hJ, ⟨⟨l1, l2, l3, l4, l5⟩, l6, l7⟩, o5, o6⟩, rfl, rfl, rfl, rfl, rfl, rfl, rfl, hS, hR, hE⟩)
  have key2 : post ((e0.2.1.1.2.2.1 + (1 : Int32)) - (1 : Int32)) (((((e0.1.1.1.1.1, e0.1.1.1.1.2), (e0.1.1.1.2.1, (e0.1.1.1.2.2.1, e0.1.1.1.2.2.2))), ((e0.1.1.2.1.1, e0.1.1.2.1.2), (e0.1.1.2.2.1, (e0.1.1.2.2.2.1, e0.1.1.2.2.2.2)))), (((e0.1.2.1.1.1, e0.1.2.1.1.2), (e0.1.2.1.2.1, (e0.1.2.1.2.2.1, e0.1.2.1.2.2.2))), ((e0.1.2.2.1.1, (e0.1.2.2.1.2.1, e0.1.2.2.1.2.2)), (e0.1.2.2.2.1, (e0.1.2.2.2.2.1, e0.1.2.2.2.2.2))))), ((((e0.2.1.1.1.1, e0.2.1.1.1.2), (e0.2.1.1.2.1, ((e0.2.1.1.2.2.1 + (1 : Int32)), L))), (((upd e0.2.1.2.1.1 ((((100 : Int32) * ((1 : Int32) - e0.1.2.1.2.1)) + e0.2.1.1.2.2.1)).toNatClampNeg (e0.1.1.2.1.2 - e0.1.1.2.1.1)), (upd e0.2.1.2.1.2 ((((100 : Int32) * ((1 : Int32) - e0.1.2.1.2.1)) + e0.2.1.1.2.2.1)).toNatClampNeg a1)), ((upd e0.2.1.2.2.1 ((((100 : Int32) * ((1 : Int32) - e0.1.2.1.2.1)) + e0.2.1.1.2.2.1)).toNatClampNeg (0 : Int32)), ((upd e0.2.1.2.2.2.1 ((((100 : Int32) * ((1 : Int32) - e0.1.2.1.2.1)) + e0.2.1.1.2.2.1)).toNatClampNeg (-1 : Int32)), e0.2.1.2.2.2.2)))), (((e0.2.2.1.1.1, e0.2.2.1.1.2), (e0.2.2.1.2.1, (e0.2.2.1.2.2.1, e0.2.2.1.2.2.2))), ((e0.2.2.2.1.1, (e0.2.2.2.1.2.1, e0.2.2.2.1.2.2)), (e0.2.2.2.2.1, (e0.2.2.2.2.2.1, e0.2.2.2.2.2.2)))))) := by rw [em]; exact key
  exact key2

theorem s_Mo_factor {g : T_Mo} : ∀ (d : Nat), ∀ (z : T_Mo) (post : Int32 → T_Mo → Prop), Ok g z → (fun a : Int32 => 61 - (d : Int) ≤ a.toInt) z.1.2.1.1.2 → (∀ r u, RT g z 0 6 r u → post r u) → wp_Mo_factor d z post := by
  intro d
  induction d with
  | zero => intro z post h1 hb _; exact (k_zero hb h1.2.2.2.2.2).elim
  | succ d ih =>
    intro z post h1 hb hp
    show wp_Mo_factor_F (wp_Mo_factor d) z post
    exact s_Mo_factor_F (g := g) (Bp := fun a : Int32 => 61 - (d : Int) ≤ a.toInt) ih h1 (fun hl => k_step hb hl) hp
theorem s_Mo_factor62 {g : T_Mo} : ∀ (z : T_Mo) (post : Int32 → T_Mo → Prop), Ok g z → (fun a : Int32 => (0 : Int32) ≤ a) z.1.2.1.1.2 → (∀ r u, RT g z 0 6 r u → post r u) → wp_Mo_factor 62 z post := fun z post h1 hb hp => s_Mo_factor 62 z post h1 (by have hb : (0 : Int32) ≤ z.1.2.1.1.2 := hb; rw [Int32.le_iff_toInt_le] at hb; have e : (0 : Int32).toInt = 0 := rfl; show 61 - ((62 : Nat) : Int) ≤ (z.1.2.1.1.2).toInt; omega) hp
