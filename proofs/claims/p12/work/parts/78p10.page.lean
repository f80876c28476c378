theorem SC_mono {w : Int32} {x : Int64} {u : Int32} {ks : List Int32} {ln ln' : Nat → Int32} {c c' d : Nat} (h : SC w x u ks ln c d) (e : ∀ j, j < c → ln' j = ln j) (cc : c ≤ c') : SC w x u ks ln' c' d := by
  rcases h with h | ⟨h1, h2, j, h3, h4, h5⟩ | h | h | h | ⟨h1, v, h2, j, h3, h4, h5⟩ | ⟨h1, j, h3, h4, h5⟩ | h | ⟨h1, h2, j, h3, h4, h5⟩ | h | h | h | h
  · exact Or.inl h
  · exact Or.inr (Or.inl ⟨h1, h2, j, by omega, h4, by rw [e j h3]; exact h5⟩)
  · exact Or.inr (Or.inr (Or.inl h))
  · exact Or.inr (Or.inr (Or.inr (Or.inl h)))
  · exact Or.inr (Or.inr (Or.inr (Or.inr (Or.inl h))))
  · exact Or.inr (Or.inr (Or.inr (Or.inr (Or.inr (Or.inl ⟨h1, v, h2, j, by omega, h4, by rw [e j h3]; exact h5⟩)))))
  · exact Or.inr (Or.inr (Or.inr (Or.inr (Or.inr (Or.inr (Or.inl ⟨h1, j, by omega, h4, by rw [e j h3]; exact h5⟩))))))
  · exact Or.inr (Or.inr (Or.inr (Or.inr (Or.inr (Or.inr (Or.inr (Or.inl h)))))))
  · exact Or.inr (Or.inr (Or.inr (Or.inr (Or.inr (Or.inr (Or.inr (Or.inr (Or.inl ⟨h1, h2, j, by omega, h4, by rw [e j h3]; exact h5⟩))))))))
  · exact Or.inr (Or.inr (Or.inr (Or.inr (Or.inr (Or.inr (Or.inr (Or.inr (Or.inr (Or.inl h)))))))))
  · exact Or.inr (Or.inr (Or.inr (Or.inr (Or.inr (Or.inr (Or.inr (Or.inr (Or.inr (Or.inr (Or.inl h))))))))))
  · exact Or.inr (Or.inr (Or.inr (Or.inr (Or.inr (Or.inr (Or.inr (Or.inr (Or.inr (Or.inr (Or.inr (Or.inl h)))))))))))
  · exact Or.inr (Or.inr (Or.inr (Or.inr (Or.inr (Or.inr (Or.inr (Or.inr (Or.inr (Or.inr (Or.inr (Or.inr h)))))))))))
/-- tell, all of it -/
theorem cw_tell {z : T_Mo} {role : Int32} {c : Nat} {post : Int32 → T_Mo → Prop} (hh : z.1.2.1.2.1 = 0 ∨ z.1.2.1.2.1 = 1) (ec : z.2.1.1.2.2.1 = Int32.ofNat c) (c9 : c ≤ 100) (h : wp_Mo_tell z role post) : (∃ r u, post r u ∧ r < 0) ∨ (c < 100 ∧ z.1.1.1.2.2.2 = (1000 : Int32) + (-1) ∧ ∃ L, post (Int32.ofNat c) (((((z.1.1.1.1.1, z.1.1.1.1.2), (z.1.1.1.2.1, (z.1.1.1.2.2.1, z.1.1.1.2.2.2))), ((z.1.1.2.1.1, z.1.1.2.1.2), (z.1.1.2.2.1, (z.1.1.2.2.2.1, z.1.1.2.2.2.2)))), (((z.1.2.1.1.1, z.1.2.1.1.2), (z.1.2.1.2.1, (z.1.2.1.2.2.1, z.1.2.1.2.2.2))), ((z.1.2.2.1.1, (z.1.2.2.1.2.1, z.1.2.2.1.2.2)), (z.1.2.2.2.1, (z.1.2.2.2.2.1, z.1.2.2.2.2.2))))), ((((z.2.1.1.1.1, z.2.1.1.1.2), (z.2.1.1.2.1, ((Int32.ofNat (c + 1)), L))), (((upd z.2.1.2.1.1 (Ns z.1.2.1.2.1 + c) (z.1.1.2.1.2 - z.1.1.2.1.1)), (upd z.2.1.2.1.2 (Ns z.1.2.1.2.1 + c) role)), ((upd z.2.1.2.2.1 (Ns z.1.2.1.2.1 + c) (0 : Int32)), ((upd z.2.1.2.2.2.1 (Ns z.1.2.1.2.1 + c) (-1 : Int32)), z.2.1.2.2.2.2)))), (((z.2.2.1.1.1, z.2.2.1.1.2), (z.2.2.1.2.1, (z.2.2.1.2.2.1, z.2.2.1.2.2.2))), ((z.2.2.2.1.1, (z.2.2.2.1.2.1, z.2.2.2.1.2.2)), (z.2.2.2.2.1, (z.2.2.2.2.2.1, z.2.2.2.2.2.2))))))) := by
  unfold wp_Mo_tell wp_Mo_tell_J24 wp_Mo_bad at h
  rcases iv_isWord h with ⟨tk, h⟩ | ⟨tk, h⟩
  · replace h := h.2 (by decide)
    obtain ⟨r2, x2, -, q2⟩ := dt_Mo_nameOf h
    replace h := q2 _ h
    rcases br_el h with ⟨b, h⟩ | ⟨b, h⟩
    · exact Or.inl ⟨_, _, h, by decide⟩
    · rcases br_el h with ⟨b, h⟩ | ⟨b, h⟩
      · exact Or.inl ⟨_, _, h, by decide⟩
      · have c8 : c < 100 := by
          rcases Nat.lt_or_ge c 100 with q | q
          · exact q
          · have e : c = 100 := by omega
            exact absurd (by rw [ec, e]; rfl) b
        have e2 := Ns_ix hh ec c8
        obtain ⟨k, h⟩ := h
        obtain ⟨L, y3, h⟩ := cv_tell_L k _ _ h
        replace h := h.2.2.2.2
        dsimp only at h
        rw [e2, fx_i4, ec, on_succ (by omega)] at h
        exact Or.inr ⟨c8, tk, L, h⟩
  · exact Or.inl ⟨_, _, h.1 rfl, by decide⟩
/-- what a name's declaration takes -/
def NJ (m : T_Mo) (NS : Nat → Nat) (j : Nat) : Prop := NS j ≤ NS (j + 1) ∧ (m.2.1.2.1.2 (Ns m.1.2.1.2.1 + j) = 24 ∨ ((m.2.1.2.1.2 (Ns m.1.2.1.2.1 + j) = 30 ∨ m.2.1.2.1.2 (Ns m.1.2.1.2.1 + j) = 31) ∧ (0 : Int32) ≤ m.2.1.2.2.1 (Ns m.1.2.1.2.1 + j) ∧ m.2.1.2.2.1 (Ns m.1.2.1.2.1 + j) ≤ 5 ∧ NS j + (7 + (m.2.1.2.1.1 (Ns m.1.2.1.2.1 + j)).toNatClampNeg + 1 + uc (m.2.1.2.2.1 (Ns m.1.2.1.2.1 + j)) + 2) ≤ NS (j + 1)))
def PE (m : T_Mo) : Prop := ∃ (c : Nat) (NS : Nat → Nat), m.2.1.1.2.2.1 = Int32.ofNat c ∧ c ≤ 100 ∧ (∀ j, j < c → NJ m NS j) ∧ PQ m 0 (NS c) 0
theorem NJ_FY {m u : T_Mo} {NS : Nat → Nat} {j hi : Nat} (f : FY m u hi) (h : NJ m NS j) : NJ u NS j := by
  obtain ⟨f1, -, -, -, -, f6, f7, f8, -⟩ := f
  unfold NJ at h ⊢
  rw [f1, f6, f7, f8]; exact h
theorem NJ_to {m v : T_Mo} {NS NS' : Nat → Nat} {j : Nat} (h : NJ m NS j) (e1 : v.2.1.2.1.2 (Ns v.1.2.1.2.1 + j) = m.2.1.2.1.2 (Ns m.1.2.1.2.1 + j)) (e2 : v.2.1.2.2.1 (Ns v.1.2.1.2.1 + j) = m.2.1.2.2.1 (Ns m.1.2.1.2.1 + j)) (e3 : v.2.1.2.1.1 (Ns v.1.2.1.2.1 + j) = m.2.1.2.1.1 (Ns m.1.2.1.2.1 + j)) (e4 : NS' j = NS j) (e5 : NS' (j + 1) = NS (j + 1)) : NJ v NS' j := by
  unfold NJ at h ⊢
  rw [e1, e2, e3, e4, e5]; exact h
theorem PE_FY {m u : T_Mo} {c : Nat} {NS : Nat → Nat} (ec : m.2.1.1.2.2.1 = Int32.ofNat c) (c9 : c ≤ 100) (nj : ∀ j, j < c → NJ m NS j) (f : FY m u 0) (p : PQ u 0 (NS c) 0) : PE u := ⟨c, NS, f.2.2.2.2.1.trans ec, c9, fun j hj => NJ_FY f (nj j hj), p⟩
theorem PQ_top {u : T_Mo} {hi s e : Nat} {S T : Nat → Int32} (p : PQ u hi s (e + 1)) : PQ (((((u.1.1.1.1.1, u.1.1.1.1.2), (u.1.1.1.2.1, (u.1.1.1.2.2.1, u.1.1.1.2.2.2))), ((u.1.1.2.1.1, u.1.1.2.1.2), (u.1.1.2.2.1, (u.1.1.2.2.2.1, u.1.1.2.2.2.2)))), (((u.1.2.1.1.1, u.1.2.1.1.2), (u.1.2.1.2.1, (u.1.2.1.2.2.1, u.1.2.1.2.2.2))), ((u.1.2.2.1.1, (u.1.2.2.1.2.1, u.1.2.2.1.2.2)), (u.1.2.2.2.1, (u.1.2.2.2.2.1, u.1.2.2.2.2.2))))), ((((u.2.1.1.1.1, T), ((u.2.1.1.2.1 + (1 : Int32)), (u.2.1.1.2.2.1, u.2.1.1.2.2.2))), ((u.2.1.2.1.1, u.2.1.2.1.2), (u.2.1.2.2.1, (S, u.2.1.2.2.2.2)))), (((u.2.2.1.1.1, u.2.2.1.1.2), (u.2.2.1.2.1, (u.2.2.1.2.2.1, u.2.2.1.2.2.2))), ((u.2.2.2.1.1, (u.2.2.2.1.2.1, u.2.2.2.1.2.2)), (u.2.2.2.2.1, (u.2.2.2.2.2.1, u.2.2.2.2.2.2)))))) hi s e := by
  obtain ⟨h1, h2, h3, n, km, tp, c, PS, a1, a2, a3, a4, a5, a6, a7, a8, a9, a10, a11⟩ := p
  exact ⟨h1, h2, h3, n, km, tp + 1, c, PS, a1, a2, a3, a4, by show u.2.1.1.2.1 + 1 = _; rw [a5]; exact on_succ (by omega), by omega, a7, a8, a9, a10, a11⟩
set_option maxHeartbeats 2000000 in
theorem PQ_tell {z : T_Mo} {hi s e c : Nat} {role : Int32} {L : Nat → Int32} (p : PQ z hi s e) (ec : z.2.1.1.2.2.1 = Int32.ofNat c) (c8 : c < 100) (l1 : 1 ≤ z.1.1.2.1.2.toNatClampNeg - z.1.1.2.1.1.toNatClampNeg) : PQ (((((z.1.1.1.1.1, z.1.1.1.1.2), (z.1.1.1.2.1, (z.1.1.1.2.2.1, z.1.1.1.2.2.2))), ((z.1.1.2.1.1, z.1.1.2.1.2), (z.1.1.2.2.1, (z.1.1.2.2.2.1, z.1.1.2.2.2.2)))), (((z.1.2.1.1.1, z.1.2.1.1.2), (z.1.2.1.2.1, (z.1.2.1.2.2.1, z.1.2.1.2.2.2))), ((z.1.2.2.1.1, (z.1.2.2.1.2.1, z.1.2.2.1.2.2)), (z.1.2.2.2.1, (z.1.2.2.2.2.1, z.1.2.2.2.2.2))))), ((((z.2.1.1.1.1, z.2.1.1.1.2), (z.2.1.1.2.1, ((Int32.ofNat (c + 1)), L))), (((upd z.2.1.2.1.1 (Ns z.1.2.1.2.1 + c) (z.1.1.2.1.2 - z.1.1.2.1.1)), (upd z.2.1.2.1.2 (Ns z.1.2.1.2.1 + c) role)), ((upd z.2.1.2.2.1 (Ns z.1.2.1.2.1 + c) (0 : Int32)), ((upd z.2.1.2.2.2.1 (Ns z.1.2.1.2.1 + c) (-1 : Int32)), z.2.1.2.2.2.2)))), (((z.2.2.1.1.1, z.2.2.1.1.2), (z.2.2.1.2.1, (z.2.2.1.2.2.1, z.2.2.1.2.2.2))), ((z.2.2.2.1.1, (z.2.2.2.1.2.1, z.2.2.2.1.2.2)), (z.2.2.2.2.1, (z.2.2.2.2.2.1, z.2.2.2.2.2.2)))))) hi s e := by
  obtain ⟨h1, h2, h3, n, km, tp, c', PS, a1, a2, a3, a4, a5, a6, a7, a8, a9, a10, a11⟩ := p
  have cc : c' = c := on_inj (by omega) (by omega) (a7.symm.trans ec)
  subst cc
  have lx := LQ_ix h2
  refine ⟨h1, h2, h3, n, km, tp, c' + 1, PS, a1, a2, a3, a4, a5, a6, rfl, by omega, fun j hj => ?_, fun i hi => ?_, a11⟩
  · show 1 ≤ (upd z.2.1.2.1.1 (Ns z.1.2.1.2.1 + c') (z.1.1.2.1.2 - z.1.1.2.1.1) (Ns z.1.2.1.2.1 + j)).toNatClampNeg
    rcases Nat.lt_or_ge j c' with q | q
    · rw [upd_ne (by omega)]; exact a9 j q
    · have ej : j = c' := by omega
      rw [ej, upd_at, lx.1, ix_on (by omega)]; exact l1
  · obtain ⟨a, d, l, b1, b2, b3, b4, b5, b6, b7⟩ := a10 i hi
    refine ⟨a, d, l, b1, b2, b3, b4, b5, b6, SC_mono b7 (fun j hj => ?_) (by omega)⟩
    show upd z.2.1.2.1.1 (Ns z.1.2.1.2.1 + c') (z.1.1.2.1.2 - z.1.1.2.1.1) (Ns z.1.2.1.2.1 + j) = _
    exact upd_ne (by omega)
set_option maxHeartbeats 2000000 in
theorem fy_decl {d dB : Nat} {z : T_Mo} {post : Int32 → T_Mo → Prop} (pe : PE z) (rl : z.1.1.1.2.2.2 = (1000 : Int32) + 30 ∨ z.1.1.1.2.2.2 = (1000 : Int32) + 31 ∨ z.1.1.1.2.2.2 = (1000 : Int32) + 24) (h : wp_Mo_declaration d dB z post) : ∃ r u, post r u ∧ (r = 0 ∨ PE u) := by
  obtain ⟨c, NS, ec, c9, nj, p⟩ := pe
  unfold wp_Mo_declaration wp_Mo_declaration_J40 at h
  obtain ⟨r1, u1, h, k⟩ := PQ_go p h
  rcases k with k | ⟨k, p1, f1⟩
  · exact ⟨_, _, h.1 k, Or.inl rfl⟩
  · replace h := h.2 (by rw [k]; decide)
    have ec1 : u1.2.1.1.2.2.1 = Int32.ofNat c := f1.2.2.2.2.1.trans ec
    rcases cw_tell (PQ_hi p1).2 ec1 c9 h with ⟨r2, u2, h, r20⟩ | ⟨c8, tk1, L, h⟩
    · exact ⟨_, _, h.1 r20, Or.inl rfl⟩
    · have oc := on_n1 (k := c) (by omega)
      replace h := h.2 oc.2.1
      have l1 : 1 ≤ u1.1.1.2.1.2.toNatClampNeg - u1.1.1.2.1.1.toNatClampNeg := by
        rcases p1.2.2.1 with t | ⟨t, t2⟩ | ⟨t, t2⟩ | ⟨t, t2⟩
        · rw [tk1] at t; exact absurd t (by decide)
        · omega
        · rw [tk1] at t; exact absurd t (by decide)
        · omega
      have p2 := PQ_tell (role := z.1.1.1.2.2.2 - (1000 : Int32)) (L := L) p1 ec1 c8 l1
      obtain ⟨r3, u3, h, k⟩ := PQ_go p2 h
      rcases k with k | ⟨k, p3, f3⟩
      · exact ⟨_, _, h.1 k, Or.inl rfl⟩
      · replace h := h.2 (by rw [k]; decide)
        have p3' : PQ u3 0 (NS c + 2 * (z.1.1.2.1.2.toNatClampNeg - z.1.1.2.1.1.toNatClampNeg) + 2 * (u1.1.1.2.1.2.toNatClampNeg - u1.1.1.2.1.1.toNatClampNeg)) 0 := p3
        have eh3 : u3.1.2.1.2.1 = u1.1.2.1.2.1 := f3.1
        have eh1 : u1.1.2.1.2.1 = z.1.2.1.2.1 := f1.1
        have en3 : u3.2.1.1.2.2.1 = Int32.ofNat (c + 1) := f3.2.2.2.2.1
        have el3 : u3.2.1.2.1.1 = upd u1.2.1.2.1.1 (Ns u1.1.2.1.2.1 + c) (u1.1.1.2.1.2 - u1.1.1.2.1.1) := f3.2.2.2.2.2.1
        have er3 : u3.2.1.2.1.2 = upd u1.2.1.2.1.2 (Ns u1.1.2.1.2.1 + c) (z.1.1.1.2.2.2 - (1000 : Int32)) := f3.2.2.2.2.2.2.1
        have eu3 : u3.2.1.2.2.1 = upd u1.2.1.2.2.1 (Ns u1.1.2.1.2.1 + c) (0 : Int32) := f3.2.2.2.2.2.2.2.1
        have lx := LQ_ix p1.2.1
        have len : (u3.2.1.2.1.1 (Ns u3.1.2.1.2.1 + c)).toNatClampNeg = u1.1.1.2.1.2.toNatClampNeg - u1.1.1.2.1.1.toNatClampNeg := by rw [el3, eh3, upd_at, lx.1, ix_on (by omega)]
        have nj1 : ∀ j, j < c → NJ u3 NS j := by
          intro j hj
          have := NJ_FY f1 (nj j hj)
          unfold NJ at this ⊢
          rw [eh3, el3, er3, eu3, upd_ne (by omega), upd_ne (by omega), upd_ne (by omega)]; exact this
        rcases br_el h with ⟨b4, h⟩ | ⟨b4, h⟩
        · -- a step
          have tz : z.1.1.1.2.2.2 = (1000 : Int32) + 24 := by rw [← b4]; generalize z.1.1.1.2.2.2 = x; grind
          have tl := tw_kw p.2.2.1 tz (by decide) (by decide) (by unfold sg; decide) (by decide)
          have z24 : kln 24 = 4 := by decide
          rw [tl, z24] at p3'
          obtain ⟨r5, u5, h, k⟩ := KS_call (fy_block d dB) (KS_0 p3' FY_refl) h
          rcases k with k | ⟨k, j5, x5, a5, b5, ks5⟩
          · exact ⟨_, _, h.1 k, Or.inl rfl⟩
          · replace h := h.2 (by rw [k]; decide)
            rw [(PQ_hi p3').1] at h
            have jv : (Int32.ofNat c).toInt64.toInt = (c : Int) := by rw [Int32.toInt_toInt64, on_toInt (by omega)]
            obtain ⟨r6, u6, h, k⟩ := KS_node (s := NS c) (d := 5 + (u3.2.1.2.1.1 (Ns u3.1.2.1.2.1 + c)).toNatClampNeg + 1) (lo := 24) (up := 24) ks5 (fun c' c9' ec' => Or.inr (Or.inr (Or.inr (Or.inr (Or.inr (Or.inl ⟨rfl, x5, rfl, c, by have : c + 1 = c' := on_inj (by omega) (by omega) (en3.symm.trans ec'); omega, jv, Nat.le_refl _⟩)))))) (by rw [len]; omega) (by decide) (by decide) h
            rcases k with k | eo
            · exact ⟨_, _, h.2 (Int32.not_le.mpr k), Or.inl rfl⟩
            · replace h := h.1 (EO_nn eo).2
              obtain ⟨k1, e1, l1', k9, w1, w2, p6, f6⟩ := eo
              unfold wp_Mo_base at h
              replace h := h.2.2
              refine ⟨_, _, h, Or.inr ⟨c + 1, fun i => if i = c + 1 then NS c else NS i, f6.2.2.2.2.1.trans en3, by omega, fun j hj => ?_, PQ_top (PQ_le p6 (by show (if c + 1 = c + 1 then NS c else NS (c + 1)) ≤ NS c + 0; rw [if_pos rfl]; omega) (Nat.le_refl _))⟩⟩
              rcases Nat.lt_or_ge j c with q | q
              · exact NJ_to (NJ_FY f6 (nj1 j q)) rfl rfl rfl (if_neg (by omega)) (if_neg (by omega))
              · have ej : j = c := by omega
                subst ej
                refine ⟨?_, Or.inl ?_⟩
                · show (if j = j + 1 then NS j else NS j) ≤ (if j + 1 = j + 1 then NS j else NS (j + 1))
                  rw [if_neg (by omega), if_pos rfl]; exact Nat.le_refl _
                · show u6.2.1.2.1.2 (Ns u6.1.2.1.2.1 + j) = 24
                  rw [f6.2.2.2.2.2.2.1, f6.1, er3, eh3, upd_at]; exact b4
        · -- a signal or an output
          have rz : (z.1.1.1.2.2.2 = (1000 : Int32) + 30 ∨ z.1.1.1.2.2.2 = (1000 : Int32) + 31) := by
            rcases rl with q | q | q
            · exact Or.inl q
            · exact Or.inr q
            · rw [q] at b4; exact absurd (by decide) b4
          have tl : z.1.1.2.1.2.toNatClampNeg - z.1.1.2.1.1.toNatClampNeg = 6 := by
            rcases rz with q | q
            · exact tw_kw p.2.2.1 q (by decide) (by decide) (by unfold sg; decide) (by decide)
            · exact tw_kw p.2.2.1 q (by decide) (by decide) (by unfold sg; decide) (by decide)
          rw [tl] at p3'
          have ro : z.1.1.1.2.2.2 - (1000 : Int32) = 30 ∨ z.1.1.1.2.2.2 - (1000 : Int32) = 31 := by
            rcases rz with q | q <;> rw [q] <;> decide
          have fin : ∀ {v : T_Mo} {u : Int32} {s' : Nat}, PQ v 0 s' 0 → v.1.2.1.2.1 = u3.1.2.1.2.1 → v.2.1.1.2.2.1 = u3.2.1.1.2.2.1 → v.2.1.2.1.1 = u3.2.1.2.1.1 → v.2.1.2.1.2 = u3.2.1.2.1.2 → v.2.1.2.2.1 = upd u3.2.1.2.2.1 (Ns u3.1.2.1.2.1 + c) u → (0 : Int32) ≤ u → u ≤ 5 → NS c + (7 + (u1.1.1.2.1.2.toNatClampNeg - u1.1.1.2.1.1.toNatClampNeg) + 1 + uc u + 2) ≤ s' → PE v := by
            intro v u s' pv g1 g2 g3 g4 g5 u0 u5 bs
            refine ⟨c + 1, fun i => if i = c + 1 then NS c + (7 + (u1.1.1.2.1.2.toNatClampNeg - u1.1.1.2.1.1.toNatClampNeg) + 1 + uc u + 2) else NS i, g2.trans en3, by omega, fun j hj => ?_, PQ_le pv (by show (if c + 1 = c + 1 then _ else NS (c + 1)) ≤ _; rw [if_pos rfl]; exact bs) (Nat.le_refl _)⟩
            rcases Nat.lt_or_ge j c with q | q
            · exact NJ_to (nj1 j q) (by rw [g4, g1]) (by rw [g5, g1, upd_ne (by omega)]) (by rw [g3, g1]) (if_neg (by omega)) (if_neg (by omega))
            · have ej : j = c := by omega
              subst ej
              have eu : v.2.1.2.2.1 (Ns v.1.2.1.2.1 + j) = u := by rw [g5, g1, upd_at]
              refine ⟨?_, Or.inr ⟨?_, by rw [eu]; exact u0, by rw [eu]; exact u5, ?_⟩⟩
              · show (if j = j + 1 then _ else NS j) ≤ (if j + 1 = j + 1 then _ else NS (j + 1))
                rw [if_neg (by omega), if_pos rfl]; omega
              · rw [g4, g1, er3, eh3, upd_at]; exact ro
              · show (if j = j + 1 then _ else NS j) + (7 + (v.2.1.2.1.1 (Ns v.1.2.1.2.1 + j)).toNatClampNeg + 1 + uc (v.2.1.2.2.1 (Ns v.1.2.1.2.1 + j)) + 2) ≤ (if j + 1 = j + 1 then _ else NS (j + 1))
                rw [if_neg (by omega), if_pos rfl, eu, g3, g1, len]; omega
          have semi : ∀ {v : T_Mo} {x1 x2 x3 x4 u : Int32} {s' : Nat}, PQ v 0 s' 0 → v.1.2.1.2.1 = u3.1.2.1.2.1 → v.2.1.1.2.2.1 = u3.2.1.1.2.2.1 → v.2.1.2.1.1 = u3.2.1.2.1.1 → v.2.1.2.1.2 = u3.2.1.2.1.2 → v.2.1.2.2.1 = upd u3.2.1.2.2.1 (Ns u3.1.2.1.2.1 + c) u → (0 : Int32) ≤ u → u ≤ 5 → NS c + (7 + (u1.1.1.2.1.2.toNatClampNeg - u1.1.1.2.1.1.toNatClampNeg) + 1 + uc u + 2) ≤ s' + 2 → wp_Mo_declaration_J84 d dB post v x1 x2 x3 x4 → ∃ r u, post r u ∧ (r = 0 ∨ PE u) := by
            intro v x1 x2 x3 x4 u s' pv g1 g2 g3 g4 g5 u0 u5 bs h
            unfold wp_Mo_declaration_J84 wp_Mo_declaration_J97 wp_Mo_declaration_J98 at h
            obtain ⟨r9, u9, h, k⟩ := PQ_over pv h
            rcases k with k | ⟨k, t9, p9, f9⟩
            · exact ⟨_, _, (h.1 k).2, Or.inl rfl⟩
            · rw [tw_sg pv.2.2.1 t9 (by decide) (by decide)] at p9
              exact ⟨_, _, (h.2 (by rw [k]; decide)).2, Or.inr (fin p9 (f9.1.trans g1) (f9.2.2.2.2.1.trans g2) (f9.2.2.2.2.2.1.trans g3) (f9.2.2.2.2.2.2.1.trans g4) (f9.2.2.2.2.2.2.2.1.trans g5) u0 u5 bs)⟩
          have ni := Ns_ix (PQ_hi p3').2 (x := Int32.ofNat c) rfl c8
          rcases uw_of h with h | ⟨u, h, hu, tt⟩
          · replace h := h.2.1 rfl
            rw [ni] at h
            refine semi (u := 0) (v := (((((u3.1.1.1.1.1, u3.1.1.1.1.2), (u3.1.1.1.2.1, (u3.1.1.1.2.2.1, u3.1.1.1.2.2.2))), ((u3.1.1.2.1.1, u3.1.1.2.1.2), (u3.1.1.2.2.1, (u3.1.1.2.2.2.1, u3.1.1.2.2.2.2)))), (((u3.1.2.1.1.1, u3.1.2.1.1.2), (u3.1.2.1.2.1, (u3.1.2.1.2.2.1, u3.1.2.1.2.2.2))), ((u3.1.2.2.1.1, (u3.1.2.2.1.2.1, u3.1.2.2.1.2.2)), (u3.1.2.2.2.1, (u3.1.2.2.2.2.1, u3.1.2.2.2.2.2))))), ((((u3.2.1.1.1.1, u3.2.1.1.1.2), (u3.2.1.1.2.1, (u3.2.1.1.2.2.1, u3.2.1.1.2.2.2))), ((u3.2.1.2.1.1, u3.2.1.2.1.2), ((upd u3.2.1.2.2.1 (Ns u3.1.2.1.2.1 + c) (0 : Int32)), (u3.2.1.2.2.2.1, u3.2.1.2.2.2.2)))), (((u3.2.2.1.1.1, u3.2.2.1.1.2), (u3.2.2.1.2.1, (u3.2.2.1.2.2.1, u3.2.2.1.2.2.2))), ((u3.2.2.2.1.1, (u3.2.2.2.1.2.1, u3.2.2.2.1.2.2)), (u3.2.2.2.2.1, (u3.2.2.2.2.2.1, u3.2.2.2.2.2.2))))))) p3' rfl rfl rfl rfl rfl (by decide) (by decide) ?_ h
            show _ + (7 + _ + 1 + 0 + 2) ≤ _
            omega
          · obtain ⟨c1, c2, c3, c4, c5, c6, c7, c8', c9', c10⟩ := uln_k hu
            have l := tw_kw p3'.2.2.1 tt c7 c8' c9' c10
            replace h := h.2.2 (fun z => c6 (by rw [z]; decide))
            rw [ni] at h
            obtain ⟨r10, u10, h, k⟩ := PQ_go (m := (((((u3.1.1.1.1.1, u3.1.1.1.1.2), (u3.1.1.1.2.1, (u3.1.1.1.2.2.1, u3.1.1.1.2.2.2))), ((u3.1.1.2.1.1, u3.1.1.2.1.2), (u3.1.1.2.2.1, (u3.1.1.2.2.2.1, u3.1.1.2.2.2.2)))), (((u3.1.2.1.1.1, u3.1.2.1.1.2), (u3.1.2.1.2.1, (u3.1.2.1.2.2.1, u3.1.2.1.2.2.2))), ((u3.1.2.2.1.1, (u3.1.2.2.1.2.1, u3.1.2.2.1.2.2)), (u3.1.2.2.2.1, (u3.1.2.2.2.2.1, u3.1.2.2.2.2.2))))), ((((u3.2.1.1.1.1, u3.2.1.1.1.2), (u3.2.1.1.2.1, (u3.2.1.1.2.2.1, u3.2.1.1.2.2.2))), ((u3.2.1.2.1.1, u3.2.1.2.1.2), ((upd u3.2.1.2.2.1 (Ns u3.1.2.1.2.1 + c) u), (u3.2.1.2.2.2.1, u3.2.1.2.2.2.2)))), (((u3.2.2.1.1.1, u3.2.2.1.1.2), (u3.2.2.1.2.1, (u3.2.2.1.2.2.1, u3.2.2.1.2.2.2))), ((u3.2.2.2.1.1, (u3.2.2.2.1.2.1, u3.2.2.2.1.2.2)), (u3.2.2.2.2.1, (u3.2.2.2.2.2.1, u3.2.2.2.2.2.2))))))) (hi := 0) (s := NS c + 2 * 6 + 2 * (u1.1.1.2.1.2.toNatClampNeg - u1.1.1.2.1.1.toNatClampNeg)) (e := 0) p3' h
            rcases k with k | ⟨k, p10, f10⟩
            · replace h := h.1 k
              unfold wp_Mo_declaration_J97 wp_Mo_declaration_J98 at h
              exact ⟨_, _, h.2, Or.inl rfl⟩
            · have p10' : PQ u10 0 (NS c + 2 * 6 + 2 * (u1.1.1.2.1.2.toNatClampNeg - u1.1.1.2.1.1.toNatClampNeg) + 2 * uln u) 0 := by rw [← c1, ← l]; exact p10
              exact semi (u := u) p10' f10.1 f10.2.2.2.2.1 f10.2.2.2.2.2.1 f10.2.2.2.2.2.2.1 f10.2.2.2.2.2.2.2.1 c4 c5 (by rw [c2]; omega) (h.2 (by rw [k]; decide))
theorem fy_5 {d dB : Nat} {K : T_Mo → Int32 → Prop} {post : Int32 → T_Mo → Prop} : ∀ (k : Nat) (z : T_Mo) (x : Int32), wp_Mo_program_L5 d dB K post k z x → (x = 0 ∨ PE z) → ∃ z' x', K z' x' ∧ (x' = 0 ∨ PE z') := by
  intro k
  induction k with
  | zero => intro z x h; exact False.elim h
  | succ k ih =>
    intro z x h s
    rw [wp_Mo_program_L5] at h
    rcases br_el h with ⟨b, h⟩ | ⟨b, h⟩
    · exact ⟨_, _, h, s⟩
    · have s := s.resolve_left b
      have go : (z.1.1.1.2.2.2 = (1000 : Int32) + 30 ∨ z.1.1.1.2.2.2 = (1000 : Int32) + 31 ∨ z.1.1.1.2.2.2 = (1000 : Int32) + 24) → wp_Mo_declaration d dB z (fun (r5 : Int32) (u5 : T_Mo) => wp_Mo_program_L5 d dB K post k u5 r5) → ∃ z' x', K z' x' ∧ (x' = 0 ∨ PE z') := by
        intro t h
        obtain ⟨r, u, h, s'⟩ := fy_decl s t h
        exact ih _ _ h s'
      rcases iv_isWord h with ⟨t, h⟩ | ⟨t, h⟩
      · exact go (Or.inl t) (h.2 (by decide))
      · rcases iv_isWord (h.1 rfl) with ⟨t, h⟩ | ⟨t, h⟩
        · exact go (Or.inr (Or.inl t)) (h.2 (by decide))
        · rcases iv_isWord (h.1 rfl) with ⟨t, h⟩ | ⟨t, h⟩
          · exact go (Or.inr (Or.inr t)) (h.2 (by decide))
          · exact ⟨_, _, h.1 rfl, Or.inr s⟩
theorem fy_44 {d dB : Nat} {K : T_Mo → Int32 → Prop} {post : Int32 → T_Mo → Prop} : ∀ (k : Nat) (z : T_Mo) (x : Int32), wp_Mo_program_L44 d dB K post k z x → (x = 0 ∨ PE z) → ∃ z' x', K z' x' ∧ (x' = 0 ∨ PE z') := by
  intro k
  induction k with
  | zero => intro z x h; exact False.elim h
  | succ k ih =>
    intro z x h s
    rw [wp_Mo_program_L44] at h
    rcases br_el h with ⟨b, h⟩ | ⟨b, h⟩
    · exact ⟨_, _, h, s⟩
    · have s := s.resolve_left b
      rcases br_el h with ⟨b1, h⟩ | ⟨b1, h⟩
      · exact ⟨_, _, h, Or.inr s⟩
      · obtain ⟨c, NS, ec, c9, nj, p⟩ := s
        obtain ⟨r8, u8, h, q⟩ := fy_statement (fy_block d dB) _ _ _ _ _ p h
        rcases q with q | eo
        · exact ih _ _ ((h.1 q).1 rfl) (Or.inl rfl)
        · replace h := (h.2 (EO_nn eo).1).2 (by decide)
          obtain ⟨k1, e1, l1', k9, w1, w2, p6, f6⟩ := eo
          unfold wp_Mo_base at h
          refine ih _ _ h.2 (Or.inr ⟨c, NS, f6.2.2.2.2.1.trans ec, c9, fun j hj => NJ_to (NJ_FY f6 (nj j hj)) rfl rfl rfl rfl rfl, PQ_top (S := u8.2.1.2.2.2.1) (PQ_le p6 (by show NS c ≤ NS c + 0; omega) (Nat.le_refl _))⟩)
/-- of the program that is shown: what it takes to be written is no more than the page's room -/
def PF (m : T_Mo) : Prop := ∃ (n km c : Nat) (PS NS : Nat → Nat), m.2.1.2.2.2.2 = Int32.ofNat n ∧ n ≤ 1000 ∧ km ≤ 1000 ∧ m.2.2.1.1.2 = Int32.ofNat c ∧ c ≤ 100 ∧ (∀ j, j < c → 1 ≤ (m.2.1.2.1.1 (Ns ((1 : Int32) - m.1.2.1.2.1) + j)).toNatClampNeg ∧ NJ (mr m) NS j) ∧ (∀ i, i < n → NI (mr m) PS km c i) ∧ PS n + NS c ≤ 12000
theorem fx_program {d dB : Nat} {z : T_Mo} {post : Int32 → T_Mo → Prop} (s0 : SQ z 0 0 0 0) (n0 : z.2.1.1.2.2.1 = Int32.ofNat 0) (h : wp_Mo_program d dB z post) : ∃ r u, post r u ∧ u.1.2.1.2.1 = z.1.2.1.2.1 := by
  unfold wp_Mo_program at h
  obtain ⟨r1, u1, h, f1⟩ := fx_Mo_go (g := z) (SQ_refl s0) h
  have h1 : u1.1.2.1.2.1 = z.1.2.1.2.1 := f1.2.1
  obtain ⟨n1, -, s1⟩ := SQ_FX s0 f1
  obtain ⟨k, h⟩ := h
  obtain ⟨u2, x2, ⟨k2, h⟩, h2, s2⟩ := fx_5 k _ _ h (Or.inr ⟨n1, 0, 0, s1, f1.2.2.2.2.2.1.trans n0, by omega⟩)
  obtain ⟨u3, x3, h, h3, s3⟩ := fx_44 k2 _ _ h (s2.imp id (fun ⟨n, c, t, a, b, e⟩ => ⟨n, c, t, t, a, Nat.le_refl _, b, e⟩))
  exact ⟨_, _, h.2, h3.trans (h2.trans h1)⟩
theorem fy_program {d dB : Nat} {z : T_Mo} {post : Int32 → T_Mo → Prop} (hh : z.1.2.1.2.1 = 0 ∨ z.1.2.1.2.1 = 1) (lp : Lp z) (n0 : z.1.2.1.2.2.1 = 0) (k0 : z.2.1.1.1.1 = 0) (h0 : z.2.2.1.2.2.2 = 0) (t0 : z.2.1.1.2.1 = 0) (c0 : z.2.1.1.2.2.1 = 0) (h : wp_Mo_program d dB z post) : ∃ r u, post r u ∧ (r = 0 ∨ PE u) := by
  unfold wp_Mo_program at h
  obtain ⟨r1, u1, h, fr, k⟩ := lg_go lp h
  obtain ⟨f, h⟩ := h
  have pe : r1 = 0 ∨ PE u1 := k.imp id (fun ⟨_, lq, tw, _⟩ => by
    obtain ⟨f1, f2, f3, f4, f5⟩ := fr
    refine ⟨0, fun _ => 0, by rw [f5]; exact c0, by omega, fun j hj => absurd hj (Nat.not_lt_zero _), by rw [f3]; exact hh, lq, tw, 0, 0, 0, 0, fun _ => 0, by rw [f3]; exact n0, by omega, by rw [f5]; exact k0, by rw [f5]; exact h0, by rw [f5]; exact t0, by omega, by rw [f5]; exact c0, by omega, fun j hj => absurd hj (Nat.not_lt_zero _), fun j hj => absurd hj (Nat.not_lt_zero _), by show 0 + 0 ≤ _; omega⟩)
  obtain ⟨u2, x2, ⟨k2, h⟩, s2⟩ := fy_5 f _ _ h pe
  obtain ⟨u3, x3, h, s3⟩ := fy_44 k2 _ _ h s2
  exact ⟨_, _, h.2, s3⟩
set_option maxHeartbeats 1000000 in
theorem fy_read {d dB : Nat} {m : T_Mo} {post : Int32 → T_Mo → Prop} (hh : m.1.2.1.2.1 = 0 ∨ m.1.2.1.2.1 = 1) (z0 : (0 : Int32) ≤ m.1.1.1.1.2) (z9 : m.1.1.1.1.2 ≤ 4000) (h : wp_Mo_read d dB m post) : ∃ r u, post r u ∧ (u.1.2.1.2.1 = m.1.2.1.2.1 ∨ PF u) := by
  unfold wp_Mo_read at h
  obtain ⟨r, u, qa, qb⟩ := dt_Mo_program h
  have c2 := qa (fun a b => a = r ∧ b = u) ⟨rfl, rfl⟩
  have s0 : SQ (((((m.1.1.1.1.1, m.1.1.1.1.2), ((0 : Int32), ((1 : Int32), m.1.1.1.2.2.2))), ((m.1.1.2.1.1, m.1.1.2.1.2), (m.1.1.2.2.1, (m.1.1.2.2.2.1, m.1.1.2.2.2.2)))), ((((-1 : Int32), (0 : Int32)), (m.1.2.1.2.1, ((0 : Int32), m.1.2.1.2.2.2))), ((m.1.2.2.1.1, (m.1.2.2.1.2.1, m.1.2.2.1.2.2)), (m.1.2.2.2.1, (m.1.2.2.2.2.1, m.1.2.2.2.2.2))))), (((((0 : Int32), m.2.1.1.1.2), ((0 : Int32), ((0 : Int32), m.2.1.1.2.2.2))), ((m.2.1.2.1.1, m.2.1.2.1.2), (m.2.1.2.2.1, (m.2.1.2.2.2.1, m.2.1.2.2.2.2)))), (((m.2.2.1.1.1, m.2.2.1.1.2), (m.2.2.1.2.1, (m.2.2.1.2.2.1, (0 : Int32)))), ((m.2.2.2.1.1, (m.2.2.2.1.2.1, m.2.2.2.1.2.2)), (m.2.2.2.2.1, (m.2.2.2.2.2.1, (0 : Int32))))))) 0 0 0 0 := ⟨hh, rfl, by omega, rfl, by omega, fun j hj => absurd hj (Nat.not_lt_zero _), fun j hj => absurd hj (Nat.not_lt_zero _)⟩
  obtain ⟨r1, u1, ⟨-, e1⟩, f1⟩ := fx_program s0 rfl c2
  obtain ⟨r2, u2, ⟨e3, e2⟩, f2⟩ := fy_program (z := (((((m.1.1.1.1.1, m.1.1.1.1.2), ((0 : Int32), ((1 : Int32), m.1.1.1.2.2.2))), ((m.1.1.2.1.1, m.1.1.2.1.2), (m.1.1.2.2.1, (m.1.1.2.2.2.1, m.1.1.2.2.2.2)))), ((((-1 : Int32), (0 : Int32)), (m.1.2.1.2.1, ((0 : Int32), m.1.2.1.2.2.2))), ((m.1.2.2.1.1, (m.1.2.2.1.2.1, m.1.2.2.1.2.2)), (m.1.2.2.2.1, (m.1.2.2.2.2.1, m.1.2.2.2.2.2))))), (((((0 : Int32), m.2.1.1.1.2), ((0 : Int32), ((0 : Int32), m.2.1.1.2.2.2))), ((m.2.1.2.1.1, m.2.1.2.1.2), (m.2.1.2.2.1, (m.2.1.2.2.2.1, m.2.1.2.2.2.2)))), (((m.2.2.1.1.1, m.2.2.1.1.2), (m.2.2.1.2.1, (m.2.2.1.2.2.1, (0 : Int32)))), ((m.2.2.2.1.1, (m.2.2.2.1.2.1, m.2.2.2.1.2.2)), (m.2.2.2.2.1, (m.2.2.2.2.2.1, (0 : Int32)))))))) hh (show Lp (((((m.1.1.1.1.1, m.1.1.1.1.2), ((0 : Int32), ((1 : Int32), m.1.1.1.2.2.2))), ((m.1.1.2.1.1, m.1.1.2.1.2), (m.1.1.2.2.1, (m.1.1.2.2.2.1, m.1.1.2.2.2.2)))), ((((-1 : Int32), (0 : Int32)), (m.1.2.1.2.1, ((0 : Int32), m.1.2.1.2.2.2))), ((m.1.2.2.1.1, (m.1.2.2.1.2.1, m.1.2.2.1.2.2)), (m.1.2.2.2.1, (m.1.2.2.2.2.1, m.1.2.2.2.2.2))))), (((((0 : Int32), m.2.1.1.1.2), ((0 : Int32), ((0 : Int32), m.2.1.1.2.2.2))), ((m.2.1.2.1.1, m.2.1.2.1.2), (m.2.1.2.2.1, (m.2.1.2.2.2.1, m.2.1.2.2.2.2)))), (((m.2.2.1.1.1, m.2.2.1.1.2), (m.2.2.1.2.1, (m.2.2.1.2.2.1, (0 : Int32)))), ((m.2.2.2.1.1, (m.2.2.2.1.2.1, m.2.2.2.1.2.2)), (m.2.2.2.2.1, (m.2.2.2.2.2.1, (0 : Int32))))))) from ⟨Int32.le_refl (0 : Int32), z0, z9⟩) rfl rfl rfl rfl rfl c2
  subst e1 e2 e3
  have f1' : u2.1.2.1.2.1 = m.1.2.1.2.1 := f1
  replace h := qb _ h
  rcases br_el h with ⟨b, h⟩ | ⟨b, h⟩
  · exact ⟨_, _, h, Or.inl f1'⟩
  · obtain ⟨c, NS, ec, c9, nj, g1, g2, g3, n, km, tp, c', PS, a1, a2, a3, a4, a5, a6, a7, a8, a9, a10, a11⟩ := f2.resolve_left b
    have cc : c' = c := on_inj (by omega) (by omega) (a7.symm.trans ec)
    subst cc
    have lx := LQ_ix g2
    have hx := (h11 g1).1
    refine ⟨_, _, h, Or.inr ⟨n, km, c', PS, NS, a1, a2, by omega, a7, a8, fun j hj => ⟨?_, ?_⟩, fun i hi => ?_, by omega⟩⟩
    · show 1 ≤ (u2.2.1.2.1.1 (Ns ((1 : Int32) - ((1 : Int32) - u2.1.2.1.2.1)) + j)).toNatClampNeg
      rw [hx]; exact a9 j hj
    · have := nj j hj
      unfold NJ mr at *
      dsimp only
      rw [hx]; exact this
    · have := a10 i hi
      unfold NI mr at *
      dsimp only
      rw [hx]; exact this
theorem NI_FO {m m' : T_Mo} {PS : Nat → Nat} {km c i : Nat} (f : FO m m') (hh : m.1.2.1.2.1 = 0 ∨ m.1.2.1.2.1 = 1) (hi : i < 1000) (km9 : km ≤ 1000) (c9 : c ≤ 100) (h : NI (mr m) PS km c i) : NI (mr m') PS km c i := by
  have eh : m'.1.2.1.2.1 = m.1.2.1.2.1 := f.1
  have b := Bs2 hh
  have b2 := Ns2 hh
  obtain ⟨g1, g2, g3, g4, g5, g6, -, -⟩ := f.2.2.2.2.2.1 (Bs ((1 : Int32) - m.1.2.1.2.1) + i) (by omega)
  obtain ⟨a, d, l, h1, h2, h3, h4, h5, h6, h7⟩ := h
  have h3' : KL m.1.2.2.2.2.2 (Bs ((1 : Int32) - m.1.2.1.2.1) + a) l := h3
  have em : l.map (fun k => m'.1.2.1.2.2.2 (Bs ((1 : Int32) - m.1.2.1.2.1) + k)) = l.map (fun k => m.1.2.1.2.2.2 (Bs ((1 : Int32) - m.1.2.1.2.1) + k)) := List.map_congr_left (fun k hk => (f.2.2.2.2.2.1 _ (by have := h5 k hk; omega)).1)
  refine ⟨a, d, l, ?_, ?_, ?_, h4, h5, h6, ?_⟩
  · show m'.1.2.2.2.1 (Bs ((1 : Int32) - m'.1.2.1.2.1) + i) = _; rw [eh, g5]; exact h1
  · show m'.1.2.2.2.2.1 (Bs ((1 : Int32) - m'.1.2.1.2.1) + i) = _; rw [eh, g6]; exact h2
  · show KL m'.1.2.2.2.2.2 (Bs ((1 : Int32) - m'.1.2.1.2.1) + a) l
    rw [eh]
    exact KL_congr l _ h3' (fun j j1 j2 => (f.2.2.2.2.2.1 j (by omega)).2.2.2.2.2.2.1)
  · show SC (m'.1.2.1.2.2.2 (Bs ((1 : Int32) - m'.1.2.1.2.1) + i)) (m'.1.2.2.1.1 (Bs ((1 : Int32) - m'.1.2.1.2.1) + i)) (m'.1.2.2.1.2.2 (Bs ((1 : Int32) - m'.1.2.1.2.1) + i)) (l.map (fun k => m'.1.2.1.2.2.2 (Bs ((1 : Int32) - m'.1.2.1.2.1) + k))) (fun j => m'.2.1.2.1.1 (Ns ((1 : Int32) - m'.1.2.1.2.1) + j)) c d
    rw [eh, g1, g2, g4, em]
    exact SC_mono h7 (fun j hj => (f.2.2.2.2.2.2.1 _ (by omega)).1) (Nat.le_refl _)
theorem PF_FO {m m' : T_Mo} (f : FO m m') (hh : m.1.2.1.2.1 = 0 ∨ m.1.2.1.2.1 = 1) (p : PF m) : PF m' := by
  obtain ⟨n, km, c, PS, NS, a1, a2, a3, a4, a5, a6, a7, a8⟩ := p
  have eh : m'.1.2.1.2.1 = m.1.2.1.2.1 := f.1
  have b2 := Ns2 hh
  refine ⟨n, km, c, PS, NS, f.2.1.trans a1, a2, a3, f.2.2.2.1.trans a4, a5, fun j hj => ?_, fun i hi => NI_FO f hh (by omega) a3 a5 (a7 i hi), a8⟩
  obtain ⟨g1, g2, g3, g4⟩ := f.2.2.2.2.2.2.1 (Ns ((1 : Int32) - m.1.2.1.2.1) + j) (by omega)
  obtain ⟨h1, h2⟩ := a6 j hj
  refine ⟨by rw [eh, g1]; exact h1, ?_⟩
  unfold NJ mr at h2 ⊢
  dsimp only at h2 ⊢
  rw [eh, g1, g2, g3]; exact h2
theorem PF_F {z u : T_Mo} (e1 : u.1 = z.1) (e2 : u.2.1 = z.2.1) (e3 : u.2.2.1 = z.2.2.1) (h : PF z) : PF u := by
  obtain ⟨z1, z2, z3, z4⟩ := z
  obtain ⟨u1, u2, u3, u4⟩ := u
  dsimp only at e1 e2 e3
  subst e1 e2 e3
  exact h
theorem PF_0 {m : T_Mo} (a1 : m.2.1.2.2.2.2 = 0) (a2 : m.2.2.1.1.2 = 0) : PF m := ⟨0, 0, 0, fun _ => 0, fun _ => 0, a1, by omega, by omega, a2, by omega, fun i hi => absurd hi (Nat.not_lt_zero _), fun i hi => absurd hi (Nat.not_lt_zero _), by show 0 + 0 ≤ 12000; omega⟩

