def NoPend : Nat → Prop := fun _ => False
theorem uu_147 {d dB : Nat} {pr : T_Pr} {K : T_Nm → T_Nd → T_Gr → T_Wd → Int32 → Prop} {PC : Unit → T_Nm × T_Nd × T_Gr × T_Wd → Prop} {PT : T_Nm × T_Nd × T_Gr × T_Wd → Prop} : ∀ (n : Nat) (nm : T_Nm) (nd : T_Nd) (g : T_Gr) (w : T_Wd) (x : Int32), wp_Gr_readInto_L147 d dB pr K PC PT n nm nd g w x → UU nm nd NoPend → (∃ nm' nd' g' w' y, K nm' nd' g' w' y ∧ UU nm' nd' NoPend) ∨ (∃ u, PT u) := by
  intro n
  induction n with
  | zero => intro nm nd g w x h; exact False.elim h
  | succ n ih =>
    intro nm nd g w x h u
    rw [wp_Gr_readInto_L147] at h
    rcases br_el h with ⟨q, h⟩ | ⟨q, h⟩
    · exact Or.inl ⟨_, _, _, _, _, h, u⟩
    · obtain ⟨r, x, h, b⟩ := uu_between h
      rcases br_el h with ⟨q1, h⟩ | ⟨q1, h⟩
      · exact Or.inl ⟨_, _, _, _, _, h, u⟩
      · rcases uu_Gr_readStatement (S := nm.2.1) (C := nm.2.2.2.2) (P := NoPend) (uu_Gr_readBlock d dB) ⟨u, rfl, rfl⟩ (kd_of b q1) h with ⟨r2, u2, h, uv⟩ | ⟨u2, h, -⟩
        · exact ih _ _ _ _ _ h uv.1
        · exact Or.inr ⟨_, h⟩
theorem uu_newname {g : T_Gr} {nm : T_Nm} {nd : T_Nd} {w : T_Wd} {PC : Int64 → T_Gr × T_Wd → Prop} {PT : T_Gr × T_Wd → Prop} (h : wp_Gr_readNewName g nm nd w PC PT) : (∃ v u, PC v u ∧ ¬ (100 : Int32) ≤ nm.2.2.2.2) ∨ (∃ u, PT u) := by
  unfold wp_Gr_readNewName wp_Gr_refuse at h
  rcases dt_Gr_pass h with ⟨r, x, -, qb⟩ | ⟨x, -, qb⟩
  · replace h := qb _ _ h
    rcases br_el h with ⟨q, h⟩ | ⟨q, h⟩
    · unfold wp_Nm_canTell at h
      rcases br_el h with ⟨q1, h⟩ | ⟨q1, h⟩
      · exact Or.inr ⟨_, h.1 rfl⟩
      · obtain ⟨r2, x2, -, qb2⟩ := dt_Nm_find h
        replace h := qb2 _ h
        rcases br_el h with ⟨q2, h⟩ | ⟨q2, h⟩
        · replace h := h.2 (by decide)
          rcases dt_Gr_pass h with ⟨r3, x3, -, qb3⟩ | ⟨x3, -, qb3⟩
          · exact Or.inl ⟨_, _, qb3 _ _ h, q1⟩
          · exact Or.inr ⟨_, qb3 _ _ h⟩
        · exact Or.inr ⟨_, h.1 rfl⟩
    · exact Or.inr ⟨_, h⟩
  · exact Or.inr ⟨_, qb _ _ h⟩
theorem uu_tell {nm : T_Nm} {nd : T_Nd} {v : Int64} {so me : Int32} {P : Unit → T_Nm → Prop} (u : UU nm nd NoPend) (c8 : ¬ (100 : Int32) ≤ nm.2.2.2.2) (ns : ¬ so = 215) (h : wp_Nm_tell nm v so me P) : ∃ nm', P () nm' ∧ UU nm' nd NoPend := by
  rcases u with big | ⟨c, n, c1, c9, n1, n9, hk, hs, hu⟩
  · obtain ⟨nm', h⟩ := dm_nmtell h
    exact ⟨nm', h, Or.inl big⟩
  · have c8' : c < 100 := by rw [c1, show (100 : Int32) = Int32.ofNat 100 from rfl, on_le (by omega) (by omega)] at c8; omega
    replace h := iv_nmtell h c1 c8'
    refine ⟨_, h, Or.inr ⟨c + 1, n, rfl, by omega, n1, n9, fun i hi uk => ?_, fun p hp pk => ?_, fun j hj => ?_⟩⟩
    · obtain ⟨j, j1, j2, j3⟩ := hk i hi uk
      refine ⟨j, by omega, j2, fun z => ?_⟩
      show upd nm.2.1 c so j = 215
      rw [upd_ne (by omega)]; exact j3 z
    · obtain ⟨t, t1, t2, t3, t4⟩ := hs p hp pk
      refine ⟨t, by omega, t2, ?_, t4⟩
      show upd nm.2.1 c so t = 215
      rw [upd_ne (by omega)]; exact t3
    · show (upd nm.2.1 c so j = 215 → upd nm.2.2.2.1 c (vp_nar .boolean (0 : Int32)) j = 0) ∧ (¬ upd nm.2.1 c so j = 215 → (¬ upd nm.2.2.2.1 c (vp_nar .boolean (0 : Int32)) j = 0 ↔ (∃ i, i < n ∧ UF (nd.1 i) (upd nm.2.1 c so j) ∧ (nd.2.2.1 i).toInt = (j : Int)) ∨ NoPend j))
      rcases Nat.lt_or_ge j c with q | q
      · have ne : j ≠ c := by omega
        rw [upd_ne ne, upd_ne ne]; exact hu j q
      · have e : j = c := by omega
        subst e
        rw [upd_at, upd_at]
        refine ⟨fun z => absurd z ns, fun _ => ⟨fun z => absurd (by decide) z, fun z => ?_⟩⟩
        rcases z with ⟨i, i1, i2, i3⟩ | z
        · obtain ⟨k, k1, k2, -⟩ := hk i i1 (UF_UK i2)
          rw [i3] at k2
          exfalso; omega
        · exact False.elim z
set_option maxHeartbeats 1000000 in
theorem uu_step {nm : T_Nm} {nd : T_Nd} {v : Int64} {low row so : Int32} {CT : T_Nm → T_Nd → Prop} (u : UU nm nd NoPend) (c8 : ¬ (100 : Int32) ≤ nm.2.2.2.2) (es : so = 215) (h : wp_Nd_add nd (24 : Int32) low row ((nm.2.2.2.2).toInt64) (0 : Int32) (fun (r12 : Int32) (u12 : T_Nd) => wp_Nm_tell nm v so (0 : Int32) (fun (r13 : Unit) (u13 : T_Nm) => CT u13 u12))) : ∃ nm' nd', CT nm' nd' ∧ UU nm' nd' NoPend := by
  obtain ⟨r, nd', h, k⟩ := cv_add h
  rcases u with big | ⟨c, n, c1, c9, n1, n9, hk, hs, hu⟩
  · obtain ⟨nm', h⟩ := dm_nmtell h
    refine ⟨nm', nd', h, Or.inl ?_⟩
    rcases k with ⟨c, -, -, e⟩ | ⟨-, e⟩
    · rw [e]; exact dm_cnt big c
    · rw [e]; exact big
  · have c8' : c < 100 := by rw [c1, show (100 : Int32) = Int32.ofNat 100 from rfl, on_le (by omega) (by omega)] at c8; omega
    replace h := iv_nmtell h c1 c8'
    subst es
    rcases k with ⟨-, e1, e2, e3⟩ | ⟨q, -⟩
    · rw [n1, ix_on (by omega)] at e1 e2
      rw [n1, on_succ (by omega)] at e3
      have vc : (nm.2.2.2.2).toInt64.toInt = (c : Int) := by rw [Int32.toInt_toInt64, c1, on_toInt (by omega)]
      rcases Nat.lt_or_ge n 1000 with q | q
      · refine ⟨_, nd', h, Or.inr ⟨c + 1, n + 1, rfl, by omega, e3, by omega, fun i hi uk => ?_, fun p hp pk => ?_, fun j hj => ?_⟩⟩
        · rw [e1] at uk ⊢
          rw [e2]
          rcases Nat.lt_or_ge i n with qi | qi
          · rw [upd_ne (by omega)] at uk ⊢
            rw [updL_ne (by omega)]
            obtain ⟨j, j1, j2, j3⟩ := hk i qi uk
            refine ⟨j, by omega, j2, fun z => ?_⟩
            show upd nm.2.1 c 215 j = 215
            rw [upd_ne (by omega)]; exact j3 z
          · have ei : i = n := by omega
            subst ei
            rw [upd_at] at uk
            exfalso; revert uk; unfold UK; decide
        · rw [e1] at pk ⊢
          rw [e2]
          rcases Nat.lt_or_ge p n with qi | qi
          · rw [upd_ne (by omega)] at pk
            rw [updL_ne (by omega)]
            obtain ⟨t, t1, t2, t3, t4⟩ := hs p qi pk
            refine ⟨t, by omega, t2, ?_, fun i hi uk => ?_⟩
            · show upd nm.2.1 c 215 t = 215
              rw [upd_ne (by omega)]; exact t3
            · rw [upd_ne (by omega)] at uk
              rw [updL_ne (by omega)]
              exact t4 i hi uk
          · have ei : p = n := by omega
            subst ei
            rw [updL_at]
            refine ⟨c, by omega, vc, ?_, fun i hi uk => ?_⟩
            · show upd nm.2.1 c 215 c = 215
              rw [upd_at]
            · rw [upd_ne (by omega)] at uk
              rw [updL_ne (by omega)]
              rcases uk with uk | uk
              · obtain ⟨j, j1, j2, -⟩ := hk i hi uk
                rw [j2]; omega
              · obtain ⟨j, j1, j2, -⟩ := hs i hi uk
                rw [j2]; omega
        · show (upd nm.2.1 c 215 j = 215 → upd nm.2.2.2.1 c (vp_nar .boolean (0 : Int32)) j = 0) ∧ (¬ upd nm.2.1 c 215 j = 215 → (¬ upd nm.2.2.2.1 c (vp_nar .boolean (0 : Int32)) j = 0 ↔ (∃ i, i < n + 1 ∧ UF (nd'.1 i) (upd nm.2.1 c 215 j) ∧ (nd'.2.2.1 i).toInt = (j : Int)) ∨ NoPend j))
          rw [e1, e2]
          rcases Nat.lt_or_ge j c with qj | qj
          · have ne : j ≠ c := by omega
            rw [upd_ne ne, upd_ne ne]
            refine ⟨(hu j qj).1, fun ns => ((hu j qj).2 ns).trans ⟨fun z => ?_, fun z => ?_⟩⟩
            · rcases z with ⟨i, i1, i2, i3⟩ | z
              · exact Or.inl ⟨i, by omega, by rw [upd_ne (by omega)]; exact i2, by rw [updL_ne (by omega)]; exact i3⟩
              · exact Or.inr z
            · rcases z with ⟨i, i1, i2, i3⟩ | z
              · rcases Nat.lt_or_ge i n with qi | qi
                · rw [upd_ne (by omega)] at i2
                  rw [updL_ne (by omega)] at i3
                  exact Or.inl ⟨i, qi, i2, i3⟩
                · have ei : i = n := by omega
                  subst ei
                  rw [upd_at] at i2
                  exact absurd (UF_n i2) (by decide)
              · exact Or.inr z
          · have e : j = c := by omega
            subst e
            rw [upd_at, upd_at]
            exact ⟨fun _ => by decide, fun z => absurd rfl z⟩
      · refine ⟨_, nd', h, Or.inl ?_⟩
        rw [e3, show (1000 : Int32) = Int32.ofNat 1000 from rfl, on_lt (by omega) (by omega)]; omega
    · exfalso
      rw [n1, show (1070 : Int32) = Int32.ofNat 1070 from rfl, on_lt (by omega) (by omega)] at q
      omega
theorem uu_22 {d dB : Nat} {pr : T_Pr} {K : T_Nm → T_Nd → T_Gr → T_Wd → Int32 → Prop} {PC : Unit → T_Nm × T_Nd × T_Gr × T_Wd → Prop} {PT : T_Nm × T_Nd × T_Gr × T_Wd → Prop} : ∀ (n : Nat) (nm : T_Nm) (nd : T_Nd) (g : T_Gr) (w : T_Wd) (x : Int32), wp_Gr_readInto_L22 d dB pr K PC PT n nm nd g w x → UU nm nd NoPend → (∃ nm' nd' g' w' y, K nm' nd' g' w' y ∧ UU nm' nd' NoPend) ∨ (∃ u, PT u) := by
  intro n
  induction n with
  | zero => intro nm nd g w x h; exact False.elim h
  | succ n ih =>
    intro nm nd g w x h u
    rw [wp_Gr_readInto_L22] at h
    rcases br_el h with ⟨q, h⟩ | ⟨q, h⟩
    · exact Or.inl ⟨_, _, _, _, _, h, u⟩
    · obtain ⟨r, x, h, b⟩ := uu_between h
      rcases br_el h with ⟨q1, h⟩ | ⟨q1, h⟩
      · exact Or.inl ⟨_, _, _, _, _, h, u⟩
      · rcases uu_newname h with ⟨v, x1, h, c8⟩ | ⟨x1, h⟩
        · rcases br_el h with ⟨q2, h⟩ | ⟨q2, h⟩
          · unfold wp_Nd_count at h
            rcases uu_Gr_readBlock (S := nm.2.1) (C := nm.2.2.2.2) (P := NoPend) d dB _ _ _ _ _ _ _ ⟨u, rfl, rfl⟩ h with ⟨r2, u2, h, uv⟩ | ⟨u2, h, -⟩
            · unfold wp_Nm_count at h
              obtain ⟨nm', nd', h, u'⟩ := uu_step uv.1 (by rw [uv.2.2]; exact c8) q2 h
              exact ih _ _ _ _ _ h u'
            · exact Or.inr ⟨_, h⟩
          · rcases dt_Gr_readUnit h with ⟨r2, x2, -, qb⟩ | ⟨x2, -, qb⟩
            · replace h := qb _ _ h
              rcases dt_Gr_take h with ⟨r3, x3, -, qb3⟩ | ⟨x3, -, qb3⟩
              · replace h := qb3 _ _ h
                obtain ⟨nm', h, u'⟩ := uu_tell u c8 q2 h
                exact ih _ _ _ _ _ h u'
              · exact Or.inr ⟨_, qb3 _ _ h⟩
            · exact Or.inr ⟨_, qb _ _ h⟩
        · exact Or.inr ⟨_, h⟩
/-- at the end of a text, before finish -/
theorem uu_into {d dB : Nat} {pr : T_Pr} {g : T_Gr} {nm : T_Nm} {nd : T_Nd} {w : T_Wd} {PC : Unit → T_Nm × T_Nd × T_Gr × T_Wd → Prop} {PT : T_Nm × T_Nd × T_Gr × T_Wd → Prop} (h : wp_Gr_readInto d dB pr nm nd g w PC PT) : (∃ nm' nd' g' w', wp_Pr_finish pr nm' nd' (fun (r17 : Unit) (u17 : T_Nm × T_Nd) => PC () (u17.1, u17.2, g', w')) ∧ UU nm' nd' NoPend) ∨ (∃ u, PT u) := by
  unfold wp_Gr_readInto wp_Pr_empty wp_Nm_empty wp_Nd_empty wp_Pr_names wp_Pr_nodes at h
  dsimp only at h
  obtain ⟨k, h⟩ := h
  have u0 : UU (nm.1, nm.2.1, nm.2.2.1, nm.2.2.2.1, (0 : Int32)) (nd.1, nd.2.1, nd.2.2.1, nd.2.2.2.1, nd.2.2.2.2.1, nd.2.2.2.2.2.1, nd.2.2.2.2.2.2.1, nd.2.2.2.2.2.2.2.1, nd.2.2.2.2.2.2.2.2.1, nd.2.2.2.2.2.2.2.2.2.1, (0 : Int32), (-1 : Int32), (0 : Int32), (0 : Int32)) NoPend := Or.inr ⟨0, 0, rfl, by omega, rfl, by omega, fun i hi => absurd hi (Nat.not_lt_zero _), fun i hi => absurd hi (Nat.not_lt_zero _), fun i hi => absurd hi (Nat.not_lt_zero _)⟩
  rcases uu_22 k _ _ _ _ _ h u0 with ⟨nm1, nd1, g1, w1, y1, ⟨k2, h⟩, u1⟩ | ⟨x, h⟩
  · rcases uu_147 k2 _ _ _ _ _ h u1 with ⟨nm2, nd2, g2, w2, y2, h, u2⟩ | ⟨x, h⟩
    · rcases dt_Gr_take h with ⟨r, x, -, qb⟩ | ⟨x, -, qb⟩
      · exact Or.inl ⟨_, _, _, _, qb _ _ h, u2⟩
      · exact Or.inr ⟨_, qb _ _ h⟩
    · exact Or.inr ⟨_, h⟩
  · exact Or.inr ⟨_, h⟩

