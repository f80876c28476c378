/-- kinds of nodes whose number is a name -/
def UK (k : Int32) : Prop := k = 1 ∨ k = 10 ∨ k = 13 ∨ k = 18 ∨ k = 19
def UK2 (k : Int32) : Prop := UK k ∨ k = 24
/-- a node of kind k is a use of a name of sort so -/
def UF (k so : Int32) : Prop := (so = 213 ∧ (k = 1 ∨ k = 18)) ∨ (so = 214 ∧ (k = 10 ∨ k = 13))
/-- names are used where a node says so, but those of P, whose nodes are still to come; no step is used yet -/
def UU (nm : T_Nm) (nd : T_Nd) (P : Nat → Prop) : Prop := (1000 : Int32) < nd.2.2.2.2.2.2.2.2.2.2.1 ∨ ∃ c n : Nat, nm.2.2.2.2 = Int32.ofNat c ∧ c ≤ 100 ∧ nd.2.2.2.2.2.2.2.2.2.2.1 = Int32.ofNat n ∧ n ≤ 1000 ∧ (∀ i, i < n → UK (nd.1 i) → ∃ j, j < c ∧ (nd.2.2.1 i).toInt = (j : Int) ∧ (nd.1 i = 19 → nm.2.1 j = 215)) ∧ (∀ p, p < n → nd.1 p = 24 → ∃ t, t < c ∧ (nd.2.2.1 p).toInt = (t : Int) ∧ nm.2.1 t = 215 ∧ ∀ i, i < p → UK2 (nd.1 i) → (nd.2.2.1 i).toInt < (t : Int)) ∧ ∀ j, j < c → (nm.2.1 j = 215 → nm.2.2.2.1 j = 0) ∧ (¬ nm.2.1 j = 215 → (¬ nm.2.2.2.1 j = 0 ↔ (∃ i, i < n ∧ UF (nd.1 i) (nm.2.1 j) ∧ (nd.2.2.1 i).toInt = (j : Int)) ∨ P j))
theorem cv_chain : ∀ (n : Nat) (z : T_Nd) (x1 x2 x3 x4 x5 : Int32) (K : T_Nd → Int32 → Int32 → Int32 → Int32 → Int32 → Prop) (post : Int32 → T_Nd → Prop), wp_Nd_chainFrom_L13 K post n z x1 x2 x3 x4 x5 → ∃ pa nx y3 y4 y5, K (z.1, z.2.1, z.2.2.1, z.2.2.2.1, z.2.2.2.2.1, z.2.2.2.2.2.1, pa, z.2.2.2.2.2.2.2.1, nx, z.2.2.2.2.2.2.2.2.2.1, z.2.2.2.2.2.2.2.2.2.2.1, z.2.2.2.2.2.2.2.2.2.2.2.1, z.2.2.2.2.2.2.2.2.2.2.2.2.1, z.2.2.2.2.2.2.2.2.2.2.2.2.2) x1 x2 y3 y4 y5 := by
  intro n
  induction n with
  | zero => intro z x1 x2 x3 x4 x5 K post h; exact False.elim h
  | succ n ih =>
    intro z x1 x2 x3 x4 x5 K post h
    rw [wp_Nd_chainFrom_L13] at h
    rcases br_el h with ⟨c, h⟩ | ⟨c, h⟩
    · exact ⟨z.2.2.2.2.2.2.1, z.2.2.2.2.2.2.2.2.1, _, _, _, h⟩
    · rcases br_el h with ⟨c, h⟩ | ⟨c, h⟩
      · exact ⟨z.2.2.2.2.2.2.1, z.2.2.2.2.2.2.2.2.1, _, _, _, h⟩
      · rcases br_el h with ⟨c, h⟩ | ⟨c, h⟩
        · exact ⟨z.2.2.2.2.2.2.1, z.2.2.2.2.2.2.2.2.1, _, _, _, h⟩
        · rcases br_el h with ⟨c, h⟩ | ⟨c, h⟩
          · exact ⟨z.2.2.2.2.2.2.1, z.2.2.2.2.2.2.2.2.1, _, _, _, h⟩
          · obtain ⟨pa, nx, y3, y4, y5, h⟩ := ih _ _ _ _ _ _ _ _ h.2.2.2
            exact ⟨pa, nx, y3, y4, y5, h⟩
theorem cv_follow : ∀ (n : Nat) (z : T_Nd) (x1 x2 x3 x4 : Int32) (K : T_Nd → Int32 → Int32 → Int32 → Int32 → Prop) (post : Int32 → T_Nd → Prop), wp_Nd_followChain_L7 K post n z x1 x2 x3 x4 → ∃ la y2 y3 y4, K (z.1, z.2.1, z.2.2.1, z.2.2.2.1, z.2.2.2.2.1, z.2.2.2.2.2.1, z.2.2.2.2.2.2.1, z.2.2.2.2.2.2.2.1, z.2.2.2.2.2.2.2.2.1, la, z.2.2.2.2.2.2.2.2.2.2.1, z.2.2.2.2.2.2.2.2.2.2.2.1, z.2.2.2.2.2.2.2.2.2.2.2.2.1, z.2.2.2.2.2.2.2.2.2.2.2.2.2) x1 y2 y3 y4 := by
  intro n
  induction n with
  | zero => intro z x1 x2 x3 x4 K post h; exact False.elim h
  | succ n ih =>
    intro z x1 x2 x3 x4 K post h
    rw [wp_Nd_followChain_L7] at h
    rcases br_el h with ⟨c, h⟩ | ⟨c, h⟩
    · exact ⟨z.2.2.2.2.2.2.2.2.2.1, _, _, _, h⟩
    · rcases br_el h with ⟨c, h⟩ | ⟨c, h⟩
      · exact ⟨z.2.2.2.2.2.2.2.2.2.1, _, _, _, h⟩
      · rcases br_el h with ⟨c, h⟩ | ⟨c, h⟩
        · exact ⟨z.2.2.2.2.2.2.2.2.2.1, _, _, _, h⟩
        · replace h := h.2
          rcases br_el h with ⟨c, h⟩ | ⟨c, h⟩
          · replace h := h.2
            rcases br_el h with ⟨c, h⟩ | ⟨c, h⟩
            · obtain ⟨la, y2, y3, y4, h⟩ := ih _ _ _ _ _ _ _ h.2
              exact ⟨la, y2, y3, y4, h⟩
            · obtain ⟨la, y2, y3, y4, h⟩ := ih _ _ _ _ _ _ _ h.2
              exact ⟨la, y2, y3, y4, h⟩
          · obtain ⟨la, y2, y3, y4, h⟩ := ih _ _ _ _ _ _ _ h.2
            exact ⟨la, y2, y3, y4, h⟩
/-- what add does to kinds, numbers and count -/
theorem cv_add {nd : T_Nd} {kind low row me : Int32} {v : Int64} {PC : Int32 → T_Nd → Prop} (h : wp_Nd_add nd kind low row v me PC) : ∃ r nd', PC r nd' ∧ ((nd.2.2.2.2.2.2.2.2.2.2.1 < 1070 ∧ nd'.1 = upd nd.1 nd.2.2.2.2.2.2.2.2.2.2.1.toNatClampNeg kind ∧ nd'.2.2.1 = vp_updL nd.2.2.1 nd.2.2.2.2.2.2.2.2.2.2.1.toNatClampNeg v ∧ nd'.2.2.2.2.2.2.2.2.2.2.1 = nd.2.2.2.2.2.2.2.2.2.2.1 + 1) ∨ (¬ nd.2.2.2.2.2.2.2.2.2.2.1 < 1070 ∧ nd' = nd)) := by
  unfold wp_Nd_add at h
  rcases br_el h with ⟨c, h⟩ | ⟨c, h⟩
  · replace h := h.2.2.2.2.2
    unfold wp_Nd_chainFrom at h
    obtain ⟨k1, h⟩ := h
    obtain ⟨pa, nx, a1, a2, a3, h⟩ := cv_chain k1 _ _ _ _ _ _ _ _ h
    replace h := h.2.2
    unfold wp_Nd_followChain at h
    obtain ⟨k2, h⟩ := h
    obtain ⟨la, b1, b2, b3, h⟩ := cv_follow k2 _ _ _ _ _ _ _ h
    replace h := h.2
    rcases br_el h with ⟨d, h⟩ | ⟨d, h⟩
    · exact ⟨_, _, h, Or.inl ⟨c, rfl, rfl, rfl⟩⟩
    · rcases br_el h with ⟨d, h⟩ | ⟨d, h⟩
      · exact ⟨_, _, h, Or.inl ⟨c, rfl, rfl, rfl⟩⟩
      · exact ⟨_, _, h, Or.inl ⟨c, rfl, rfl, rfl⟩⟩
  · exact ⟨_, _, h, Or.inr ⟨c, rfl⟩⟩
theorem uu_addG {nm : T_Nm} {nd : T_Nd} {kind low row me : Int32} {v : Int64} {P Q : Nat → Prop} {PC : Int32 → T_Nd → Prop} (u : UU nm nd Q) (k24 : ¬ kind = 24) (hv : UK kind → ∃ j : Nat, Int32.ofNat j < nm.2.2.2.2 ∧ j < 100 ∧ v.toInt = (j : Int) ∧ (kind = 19 → nm.2.1 j = 215)) (hq : ∀ j : Nat, Q j ↔ (P j ∨ (UF kind (nm.2.1 j) ∧ v.toInt = (j : Int)))) (h : wp_Nd_add nd kind low row v me PC) : ∃ r nd', PC r nd' ∧ UU nm nd' P := by
  obtain ⟨r, nd', h, k⟩ := cv_add h
  refine ⟨r, nd', h, ?_⟩
  rcases u with u | ⟨c, n, c1, c9, n1, n9, hk, hs, hu⟩
  · rcases k with ⟨c, -, -, e⟩ | ⟨-, e⟩
    · exact Or.inl (by rw [e]; exact dm_cnt u c)
    · exact Or.inl (by rw [e]; exact u)
  · rcases k with ⟨-, e1, e2, e3⟩ | ⟨q, -⟩
    · rw [n1, ix_on (by omega)] at e1 e2
      rw [n1, on_succ (by omega)] at e3
      rcases Nat.lt_or_ge n 1000 with q | q
      · refine Or.inr ⟨c, n + 1, c1, c9, e3, by omega, fun i hi uk => ?_, fun p hp pk => ?_, fun j hj => ⟨(hu j hj).1, fun ns => ?_⟩⟩
        · rw [e1] at uk ⊢
          rw [e2]
          rcases Nat.lt_or_ge i n with qi | qi
          · rw [upd_ne (by omega)] at uk ⊢
            rw [updL_ne (by omega)]; exact hk i qi uk
          · have ei : i = n := by omega
            subst ei
            rw [upd_at] at uk ⊢
            obtain ⟨j, j1, j2, j3⟩ := hv uk
            rw [updL_at]
            rw [c1, on_lt (by omega) (by omega)] at j1
            exact ⟨j, j1, j3⟩
        · rw [e1] at pk ⊢
          rw [e2]
          rcases Nat.lt_or_ge p n with qi | qi
          · rw [upd_ne (by omega)] at pk
            rw [updL_ne (by omega)]
            obtain ⟨t, t1, t2, t3, t4⟩ := hs p qi pk
            refine ⟨t, t1, t2, t3, fun i hi uk => ?_⟩
            rw [upd_ne (by omega)] at uk
            rw [updL_ne (by omega)]
            exact t4 i hi uk
          · have ei : p = n := by omega
            subst ei
            rw [upd_at] at pk
            exact absurd pk k24
        · rw [(hu j hj).2 ns, e1, e2, hq]
          constructor
          · rintro (⟨i, i1, i2, i3⟩ | p | ⟨i2, i3⟩)
            · exact Or.inl ⟨i, by omega, by rw [upd_ne (by omega)]; exact i2, by rw [updL_ne (by omega)]; exact i3⟩
            · exact Or.inr p
            · exact Or.inl ⟨n, by omega, by rw [upd_at]; exact i2, by rw [updL_at]; exact i3⟩
          · rintro (⟨i, i1, i2, i3⟩ | p)
            · rcases Nat.lt_or_ge i n with qi | qi
              · rw [upd_ne (by omega)] at i2
                rw [updL_ne (by omega)] at i3
                exact Or.inl ⟨i, qi, i2, i3⟩
              · have ei : i = n := by omega
                subst ei
                rw [upd_at] at i2
                rw [updL_at] at i3
                exact Or.inr (Or.inr ⟨i2, i3⟩)
            · exact Or.inr (Or.inl p)
      · refine Or.inl ?_
        rw [e3, show (1000 : Int32) = Int32.ofNat 1000 from rfl, on_lt (by omega) (by omega)]; omega
    · exfalso
      rw [n1, show (1070 : Int32) = Int32.ofNat 1070 from rfl, on_lt (by omega) (by omega)] at q
      omega
theorem UF_UK {k so : Int32} (h : UF k so) : UK k := by
  rcases h with ⟨-, h | h⟩ | ⟨-, h | h⟩
  · exact Or.inl h
  · exact Or.inr (Or.inr (Or.inr (Or.inl h)))
  · exact Or.inr (Or.inl h)
  · exact Or.inr (Or.inr (Or.inl h))
theorem uu_add {nm : T_Nm} {nd : T_Nd} {kind low row me : Int32} {v : Int64} {P : Nat → Prop} {PC : Int32 → T_Nd → Prop} (u : UU nm nd P) (nk : ¬ UK2 kind) (h : wp_Nd_add nd kind low row v me PC) : ∃ r nd', PC r nd' ∧ UU nm nd' P := uu_addG u (fun q => nk (Or.inr q)) (fun q => absurd (Or.inl q) nk) (fun j => ⟨Or.inl, fun q => q.elim id (fun q => absurd (Or.inl (UF_UK q.1)) nk)⟩) h
theorem uu_oper_L {g : T_Gr} {w : T_Wd} {K : Int32 → Int32 → Int32 → Prop} {post : Int32 → Unit → Prop} {a b : Int32} (a2 : (2 : Int32) ≤ a) : ∀ (n : Nat) (x3 : Int32), wp_Gr_operator_L2 g w K post n a b x3 → (2 : Int32) ≤ x3 → (∃ y, K a b y) ∨ (∃ y, post y () ∧ (2 : Int32) ≤ y ∧ y < 10) := by
  intro n
  induction n with
  | zero => intro x3 h; exact False.elim h
  | succ n ih =>
    intro x3 h q
    rw [wp_Gr_operator_L2] at h
    rcases br_el h with ⟨c, h⟩ | ⟨c, h⟩
    · exact Or.inl ⟨_, h⟩
    · rcases br_el h with ⟨c1, h⟩ | ⟨c1, h⟩
      · exact Or.inl ⟨_, h⟩
      · replace h := h.2
        rcases br_el h with ⟨c2, h⟩ | ⟨c2, h⟩
        · exact Or.inr ⟨_, h, q, Int32.not_le.mp c1⟩
        · exact ih _ h (by grind)
theorem UK_no {r : Int32} (h1 : (2 : Int32) ≤ r) (h2 : r < 10) : ¬ UK2 r := by
  rintro ((h | h | h | h | h) | h) <;> subst h <;> revert h1 h2 <;> decide
theorem uu_oper {g : T_Gr} {w : T_Wd} {a b : Int32} {P : Int32 → Unit → Prop} (a2 : (2 : Int32) ≤ a) (h : wp_Gr_operator g w a b P) : ∃ r u, P r u ∧ (r = -1 ∨ ¬ UK2 r) := by
  unfold wp_Gr_operator at h
  obtain ⟨k, h⟩ := h
  rcases uu_oper_L a2 k _ h a2 with ⟨y, h⟩ | ⟨y, h, h1, h2⟩
  · exact ⟨_, _, h, Or.inl rfl⟩
  · exact ⟨_, _, h, Or.inr (UK_no h1 h2)⟩

