/-- the steps that are told and the tops, in the half that is being built: the first t0 tops are steps, the others not -/
def SQ (m : T_Mo) (n c t t0 : Nat) : Prop := (m.1.2.1.2.1 = 0 ∨ m.1.2.1.2.1 = 1) ∧ m.1.2.1.2.2.1 = Int32.ofNat n ∧ n ≤ 1000 ∧ m.2.1.1.2.1 = Int32.ofNat t ∧ t ≤ n ∧ (∀ j, j < c → m.2.1.2.1.2 (Ns m.1.2.1.2.1 + j) = 24 → ∃ p, p < n ∧ m.2.1.2.2.2.1 (Ns m.1.2.1.2.1 + j) = Int32.ofNat p ∧ (m.1.2.2.1.1 (Bs m.1.2.1.2.1 + p)).toInt = (j : Int)) ∧ ∀ k, k < t → ∃ p, p < n ∧ m.2.1.1.1.2 (Bs m.1.2.1.2.1 + k) = Int32.ofNat p ∧ (m.1.2.1.2.2.2 (Bs m.1.2.1.2.1 + p) = 24 ↔ k < t0)
theorem SQ_refl {m : T_Mo} {n c t t0 : Nat} (s : SQ m n c t t0) : FX m m := FX_refl s.1 (by rw [s.2.1]; exact (on_n1 (by have := s.2.2.1; omega)).2.2) (by rw [s.2.1, show (1000 : Int32) = Int32.ofNat 1000 from rfl, on_le (by have := s.2.2.1; omega) (by omega)]; exact s.2.2.1)
theorem SQ_FX {m u : T_Mo} {n c t t0 : Nat} (s : SQ m n c t t0) (f : FX m u) : ∃ n', n ≤ n' ∧ SQ u n' c t t0 := by
  obtain ⟨s1, s2, s3, s4, s5, s6, s7⟩ := s
  obtain ⟨-, eh, g0, gn, n9, ec, eR, eS, eT, et, fr⟩ := f
  have u0 : (0 : Int32) ≤ u.1.2.1.2.2.1 := Int32.le_trans g0 gn
  have ni : n ≤ u.1.2.1.2.2.1.toNatClampNeg := by
    have := ix_le gn
    rw [s2, ix_on (by omega)] at this; exact this
  have n9' : u.1.2.1.2.2.1.toNatClampNeg ≤ 1000 := by
    have := ix_le n9
    rw [show (1000 : Int32).toNatClampNeg = 1000 from rfl] at this; exact this
  have eg : m.1.2.1.2.2.1.toNatClampNeg = n := by rw [s2]; exact ix_on (by omega)
  rw [eg] at fr
  refine ⟨u.1.2.1.2.2.1.toNatClampNeg, ni, by rw [eh]; exact s1, (on_ix u0).symm, n9', et.trans s4, by omega, fun j hj => ?_, fun k hk => ?_⟩
  · rw [eR, eS, eh]
    intro q
    obtain ⟨p, p1, p2, p3⟩ := s6 j hj q
    refine ⟨p, by omega, p2, ?_⟩
    have := (fr p p1).2
    rw [eh] at this
    rw [this]; exact p3
  · obtain ⟨p, p1, p2, p3⟩ := s7 k hk
    rw [eT, eh]
    refine ⟨p, by omega, p2, ?_⟩
    have := (fr p p1).1
    rw [eh] at this
    rw [this]; exact p3
theorem cv_tell_L {x1 x2 : Int32} {K : T_Mo → Int32 → Int32 → Int32 → Prop} {post : Int32 → T_Mo → Prop} : ∀ (n : Nat) (z : T_Mo) (x3 : Int32), wp_Mo_tell_L49 K post n z x1 x2 x3 → ∃ L y3, K (((((z.1.1.1.1.1, z.1.1.1.1.2), (z.1.1.1.2.1, (z.1.1.1.2.2.1, z.1.1.1.2.2.2))), ((z.1.1.2.1.1, z.1.1.2.1.2), (z.1.1.2.2.1, (z.1.1.2.2.2.1, z.1.1.2.2.2.2)))), (((z.1.2.1.1.1, z.1.2.1.1.2), (z.1.2.1.2.1, (z.1.2.1.2.2.1, z.1.2.1.2.2.2))), ((z.1.2.2.1.1, (z.1.2.2.1.2.1, z.1.2.2.1.2.2)), (z.1.2.2.2.1, (z.1.2.2.2.2.1, z.1.2.2.2.2.2))))), ((((z.2.1.1.1.1, z.2.1.1.1.2), (z.2.1.1.2.1, (z.2.1.1.2.2.1, L))), ((z.2.1.2.1.1, z.2.1.2.1.2), (z.2.1.2.2.1, (z.2.1.2.2.2.1, z.2.1.2.2.2.2)))), (((z.2.2.1.1.1, z.2.2.1.1.2), (z.2.2.1.2.1, (z.2.2.1.2.2.1, z.2.2.1.2.2.2))), ((z.2.2.2.1.1, (z.2.2.2.1.2.1, z.2.2.2.1.2.2)), (z.2.2.2.2.1, (z.2.2.2.2.2.1, z.2.2.2.2.2.2)))))) x1 x2 y3 := by
  intro n
  induction n with
  | zero => intro z x3 h; exact False.elim h
  | succ n ih =>
    intro z x3 h
    rw [wp_Mo_tell_L49] at h
    rcases br_el h with ⟨q, h⟩ | ⟨q, h⟩
    · exact ⟨z.2.1.1.2.2.2, _, h⟩
    · obtain ⟨L, y3, h⟩ := ih _ _ h.2.2
      exact ⟨L, y3, h⟩
theorem Ns_ix {h : Int32} (hh : h = 0 ∨ h = 1) {x : Int32} {k : Nat} (e : x = Int32.ofNat k) (k9 : k < 100) : ((100 : Int32) * ((1 : Int32) - h) + x).toNatClampNeg = Ns h + k := by
  unfold Ns bnn
  subst e
  rcases hh with e | e
  · rw [e, show (100 : Int32) * ((1 : Int32) - 0) = Int32.ofNat 100 from by decide]
    show (Int32.ofNat 100 + Int32.ofNat k).toInt.toNat = (Int32.ofNat 100).toInt.toNat + k
    rw [Int32.toInt_add, on_toInt (by omega), on_toInt (by omega), Int.bmod_eq_of_le (by omega) (by omega)]; omega
  · rw [e, show (100 : Int32) * ((1 : Int32) - 1) = 0 from by decide, Int32.zero_add]
    rw [ix_on (by omega)]; show k = (0 : Int32).toInt.toNat + k
    rw [show (0 : Int32).toInt = 0 from rfl]; omega
/-- the name that tell makes -/
theorem cv_tell {z : T_Mo} {role : Int32} {c : Nat} {post : Int32 → T_Mo → Prop} (hh : z.1.2.1.2.1 = 0 ∨ z.1.2.1.2.1 = 1) (ec : z.2.1.1.2.2.1 = Int32.ofNat c) (c9 : c ≤ 100) (h : wp_Mo_tell z role post) : ∃ r u, post r u ∧ u.1.2.1.2.1 = z.1.2.1.2.1 ∧ (r < 0 ∨ (c < 100 ∧ r = Int32.ofNat c ∧ u.2.1.1.2.2.1 = Int32.ofNat (c + 1) ∧ u.1.2.1.2.2.1 = z.1.2.1.2.2.1 ∧ u.1.2.1.2.2.2 = z.1.2.1.2.2.2 ∧ u.1.2.2.1.1 = z.1.2.2.1.1 ∧ u.2.1.1.1.2 = z.2.1.1.1.2 ∧ u.2.1.1.2.1 = z.2.1.1.2.1 ∧ u.2.1.2.1.2 = upd z.2.1.2.1.2 (Ns z.1.2.1.2.1 + c) role ∧ u.2.1.2.2.2.1 = upd z.2.1.2.2.2.1 (Ns z.1.2.1.2.1 + c) (-1))) := by
  unfold wp_Mo_tell wp_Mo_tell_J24 wp_Mo_bad at h
  obtain ⟨r1, x1, -, q1⟩ := dt_Mo_isWord h
  replace h := q1 _ h
  rcases br_el h with ⟨b, h⟩ | ⟨b, h⟩
  · exact ⟨_, _, h, rfl, Or.inl (by decide)⟩
  · obtain ⟨r2, x2, -, q2⟩ := dt_Mo_nameOf h
    replace h := q2 _ h
    rcases br_el h with ⟨b, h⟩ | ⟨b, h⟩
    · exact ⟨_, _, h, rfl, Or.inl (by decide)⟩
    · rcases br_el h with ⟨b, h⟩ | ⟨b, h⟩
      · exact ⟨_, _, h, rfl, Or.inl (by decide)⟩
      · have c8 : c < 100 := by
          rcases Nat.lt_or_ge c 100 with q | q
          · exact q
          · have e : c = 100 := by omega
            exact absurd (by rw [ec, e]; rfl) b
        have e2 := Ns_ix hh ec c8
        obtain ⟨k, h⟩ := h
        obtain ⟨L, y3, h⟩ := cv_tell_L k _ _ h
        replace h := h.2.2.2.2
        dsimp only at h
        rw [e2, fx_i4] at h
        refine ⟨_, _, h, rfl, Or.inr ⟨c8, ec, ?_, rfl, rfl, rfl, rfl, rfl, rfl, rfl⟩⟩
        show z.2.1.1.2.2.1 + 1 = _
        rw [ec]; exact on_succ (by omega)
/-- a declaration that is taken -/
def DC (u : T_Mo) : Prop := ∃ n c t, SQ u n c t t ∧ u.2.1.1.2.2.1 = Int32.ofNat c ∧ c ≤ 100
set_option maxHeartbeats 2000000 in
theorem fx_decl {d dB : Nat} {z : T_Mo} {post : Int32 → T_Mo → Prop} (s : DC z) (h : wp_Mo_declaration d dB z post) : ∃ r u, post r u ∧ u.1.2.1.2.1 = z.1.2.1.2.1 ∧ (r = 0 ∨ DC u) := by
  obtain ⟨n, c, t, s, ec, c9⟩ := s
  unfold wp_Mo_declaration wp_Mo_declaration_J40 at h
  obtain ⟨r1, u1, h, f1⟩ := fx_Mo_go (g := z) (SQ_refl s) h
  have h1 : u1.1.2.1.2.1 = z.1.2.1.2.1 := f1.2.1
  rcases br_el h with ⟨b, h⟩ | ⟨b, h⟩
  · exact ⟨_, _, h, h1, Or.inl rfl⟩
  · obtain ⟨n1, n1', s1⟩ := SQ_FX s f1
    have ec1 : u1.2.1.1.2.2.1 = Int32.ofNat c := f1.2.2.2.2.2.1.trans ec
    obtain ⟨r2, u2, h, h2, k2⟩ := cv_tell s1.1 ec1 c9 h
    rcases br_el h with ⟨b2, h⟩ | ⟨b2, h⟩
    · exact ⟨_, _, h, h2.trans h1, Or.inl rfl⟩
    · rcases k2 with k2 | ⟨c8, er, k1, k2, k3, k4, k5, k6, k7, k8⟩
      · exact absurd k2 b2
      · have s2 : SQ u2 n1 c t t := by
          obtain ⟨s1, s2, s3, s4, s5, s6, s7⟩ := s1
          refine ⟨by rw [h2]; exact s1, k2.trans s2, s3, k6.trans s4, s5, fun j hj => ?_, fun k hk => ?_⟩
          · rw [k7, k8, k4, h2, upd_ne (by omega), upd_ne (by omega)]; exact s6 j hj
          · rw [k5, k3, h2]; exact s7 k hk
        obtain ⟨r3, u3, h, f3⟩ := fx_Mo_go (g := u2) (SQ_refl s2) h
        have h3 : u3.1.2.1.2.1 = z.1.2.1.2.1 := (show u3.1.2.1.2.1 = u2.1.2.1.2.1 from f3.2.1).trans (h2.trans h1)
        rcases br_el h with ⟨b3, h⟩ | ⟨b3, h⟩
        · exact ⟨_, _, h, h3, Or.inl rfl⟩
        · obtain ⟨n3, n3', s3⟩ := SQ_FX s2 f3
          have R3 : u3.2.1.2.1.2 (Ns u3.1.2.1.2.1 + c) = z.1.1.1.2.2.2 - 1000 := by
            rw [show u3.2.1.2.1.2 = u2.2.1.2.1.2 from f3.2.2.2.2.2.2.1, k7, show u3.1.2.1.2.1 = u1.1.2.1.2.1 from h3.trans h1.symm, upd_at]
          have N3 : u3.2.1.1.2.2.1 = Int32.ofNat (c + 1) := (show u3.2.1.1.2.2.1 = u2.2.1.1.2.2.1 from f3.2.2.2.2.2.1).trans k1
          rcases br_el h with ⟨b4, h⟩ | ⟨b4, h⟩
          · -- a step
            obtain ⟨r4, u4, h, f4⟩ := fx_Mo_block (g := u3) d dB _ _ (SQ_refl s3) h
            obtain ⟨r5, u5, h, f5⟩ := fx_Mo_pushed (g := u3) f4 h
            have h5 : u5.1.2.1.2.1 = z.1.2.1.2.1 := (show u5.1.2.1.2.1 = u3.1.2.1.2.1 from f5.2.1).trans h3
            rcases br_el h with ⟨b5, h⟩ | ⟨b5, h⟩
            · exact ⟨_, _, h, h5, Or.inl rfl⟩
            · obtain ⟨r6, u6, h, f6, k6'⟩ := fx_Mo_node0 (g := u3) f5 h
              have h6 : u6.1.2.1.2.1 = z.1.2.1.2.1 := (show u6.1.2.1.2.1 = u3.1.2.1.2.1 from f6.2.1).trans h3
              rcases br_el h with ⟨b6, h⟩ | ⟨b6, h⟩
              · rcases k6' with e6 | ⟨e1, e2, e3, e4, e5⟩
                · rw [e6] at b6; exact absurd b6 (by decide)
                · unfold wp_Mo_base at h
                  replace h := h.2.2
                  obtain ⟨n6, n6', s6⟩ := SQ_FX s3 f6
                  obtain ⟨a1, a2, a3, a4, a5, a6, a7⟩ := s6
                  have p5 : u5.1.2.1.2.2.1 = Int32.ofNat (n6 - 1) ∧ 0 < n6 := by
                    have g0 : (0 : Int32) ≤ u5.1.2.1.2.2.1 := Int32.le_trans f5.2.2.1 f5.2.2.2.1
                    rw [Int32.le_iff_toInt_le] at g0
                    rw [Int32.lt_iff_toInt_lt] at e5
                    have e0 : (0 : Int32).toInt = 0 := rfl
                    have e00 : (1000 : Int32).toInt = 1000 := rfl
                    have e7 := congrArg Int32.toInt (e2.symm.trans a2)
                    rw [Int32.toInt_add, show (1 : Int32).toInt = 1 from rfl, on_toInt (by omega), Int.bmod_eq_of_le (by omega) (by omega)] at e7
                    refine ⟨?_, by omega⟩
                    apply Int32.toInt_inj.mp
                    rw [on_toInt (by omega)]; omega
                  have er6 : r6 = Int32.ofNat (n6 - 1) := e1.trans p5.1
                  have n3l : n3 ≤ n6 - 1 := by
                    have := ix_le (show u3.1.2.1.2.2.1 ≤ u5.1.2.1.2.2.1 from f5.2.2.2.1)
                    rw [s3.2.1, p5.1, ix_on (by have := s3.2.2.1; omega), ix_on (by omega)] at this; exact this
                  have t9 : t < 1000 := by have := s3.2.2.2.2.1; omega
                  rw [er, Ns_ix a1 rfl c8, Bs_at a1 a4 t9, er6] at h
                  have i6 : r6.toNatClampNeg = n6 - 1 := by rw [er6]; exact ix_on (by omega)
                  rw [i6] at e3 e4
                  have vr : (r2).toInt64.toInt = (c : Int) := by rw [Int32.toInt_toInt64, er, on_toInt (by omega)]
                  refine ⟨_, _, h, h6, Or.inr ⟨n6, c + 1, t + 1, ⟨a1, a2, a3, ?_, ?_, fun j hj => ?_, fun k hk => ?_⟩, ?_, by omega⟩⟩
                  · show u6.2.1.1.2.1 + 1 = _
                    rw [a4]; exact on_succ (by omega)
                  · have := s3.2.2.2.2.1; omega
                  · show u6.2.1.2.1.2 (Ns u6.1.2.1.2.1 + j) = 24 → ∃ p, p < n6 ∧ upd u6.2.1.2.2.2.1 (Ns u6.1.2.1.2.1 + c) (Int32.ofNat (n6 - 1)) (Ns u6.1.2.1.2.1 + j) = Int32.ofNat p ∧ (u6.1.2.2.1.1 (Bs u6.1.2.1.2.1 + p)).toInt = (j : Int)
                    rcases Nat.lt_or_ge j c with q | q
                    · rw [upd_ne (by omega)]; exact a6 j q
                    · have ej : j = c := by omega
                      subst ej
                      intro _
                      exact ⟨n6 - 1, by omega, upd_at, by rw [e4]; exact vr⟩
                  · show ∃ p, p < n6 ∧ upd u6.2.1.1.1.2 (Bs u6.1.2.1.2.1 + t) (Int32.ofNat (n6 - 1)) (Bs u6.1.2.1.2.1 + k) = Int32.ofNat p ∧ (u6.1.2.1.2.2.2 (Bs u6.1.2.1.2.1 + p) = 24 ↔ k < t + 1)
                    rcases Nat.lt_or_ge k t with q | q
                    · rw [upd_ne (by omega)]
                      obtain ⟨p, p1, p2, p3⟩ := a7 k q
                      exact ⟨p, p1, p2, p3.trans ⟨fun _ => by omega, fun _ => q⟩⟩
                    · have ek : k = t := by omega
                      subst ek
                      exact ⟨n6 - 1, by omega, upd_at, ⟨fun _ => by omega, fun _ => e3⟩⟩
                  · exact (show u6.2.1.1.2.2.1 = u3.2.1.1.2.2.1 from f6.2.2.2.2.2.1).trans N3
              · exact ⟨_, _, h, h6, Or.inl rfl⟩
          · -- a signal or an output
            have fin : ∀ {u : T_Mo} {m : Nat}, SQ u m c t t → u.1.2.1.2.1 = u3.1.2.1.2.1 → u.2.1.2.1.2 = u3.2.1.2.1.2 → u.2.1.1.2.2.1 = u3.2.1.1.2.2.1 → DC u := by
              intro u m su e1 e2 e3
              refine ⟨m, c + 1, t, ⟨su.1, su.2.1, su.2.2.1, su.2.2.2.1, su.2.2.2.2.1, fun j hj => ?_, su.2.2.2.2.2.2⟩, e3.trans N3, by omega⟩
              rcases Nat.lt_or_ge j c with q | q
              · exact su.2.2.2.2.2.1 j q
              · have ej : j = c := by omega
                subst ej
                intro q2
                rw [e2, e1, R3] at q2
                exact absurd q2 b4
            have last : ∀ {u : T_Mo} {x1 x2 x3 x4 : Int32} {m : Nat}, SQ u m c t t → u.1.2.1.2.1 = u3.1.2.1.2.1 → u.2.1.2.1.2 = u3.2.1.2.1.2 → u.2.1.1.2.2.1 = u3.2.1.1.2.2.1 → wp_Mo_declaration_J84 d dB post u x1 x2 x3 x4 → ∃ r u, post r u ∧ u.1.2.1.2.1 = z.1.2.1.2.1 ∧ (r = 0 ∨ DC u) := by
              intro u x1 x2 x3 x4 m su e1 e2 e3 h
              unfold wp_Mo_declaration_J84 wp_Mo_declaration_J97 wp_Mo_declaration_J98 at h
              obtain ⟨r9, u9, h, f9⟩ := fx_Mo_over (g := u) (SQ_refl su) h
              have h9 : u9.1.2.1.2.1 = z.1.2.1.2.1 := (show u9.1.2.1.2.1 = u.1.2.1.2.1 from f9.2.1).trans (e1.trans h3)
              rcases br_el h with ⟨b9, h⟩ | ⟨b9, h⟩
              · exact ⟨_, _, h.2, h9, Or.inl rfl⟩
              · obtain ⟨n9, -, s9⟩ := SQ_FX su f9
                exact ⟨_, _, h.2, h9, Or.inr (fin s9 ((show u9.1.2.1.2.1 = u.1.2.1.2.1 from f9.2.1).trans e1) ((show u9.2.1.2.1.2 = u.2.1.2.1.2 from f9.2.2.2.2.2.2.1).trans e2) ((show u9.2.1.1.2.2.1 = u.2.1.1.2.2.1 from f9.2.2.2.2.2.1).trans e3))⟩
            obtain ⟨r8, x8, -, q8⟩ := dt_Mo_unitWord0 h
            replace h := (q8 _ h).2
            rcases br_el h with ⟨b8, h⟩ | ⟨b8, h⟩
            · exact last (u := (((((u3.1.1.1.1.1, u3.1.1.1.1.2), (u3.1.1.1.2.1, (u3.1.1.1.2.2.1, u3.1.1.1.2.2.2))), ((u3.1.1.2.1.1, u3.1.1.2.1.2), (u3.1.1.2.2.1, (u3.1.1.2.2.2.1, u3.1.1.2.2.2.2)))), (((u3.1.2.1.1.1, u3.1.2.1.1.2), (u3.1.2.1.2.1, (u3.1.2.1.2.2.1, u3.1.2.1.2.2.2))), ((u3.1.2.2.1.1, (u3.1.2.2.1.2.1, u3.1.2.2.1.2.2)), (u3.1.2.2.2.1, (u3.1.2.2.2.2.1, u3.1.2.2.2.2.2))))), ((((u3.2.1.1.1.1, u3.2.1.1.1.2), (u3.2.1.1.2.1, (u3.2.1.1.2.2.1, u3.2.1.1.2.2.2))), ((u3.2.1.2.1.1, u3.2.1.2.1.2), ((upd u3.2.1.2.2.1 ((100 : Int32) * ((1 : Int32) - u3.1.2.1.2.1) + r2).toNatClampNeg r8), (u3.2.1.2.2.2.1, u3.2.1.2.2.2.2)))), (((u3.2.2.1.1.1, u3.2.2.1.1.2), (u3.2.2.1.2.1, (u3.2.2.1.2.2.1, u3.2.2.1.2.2.2))), ((u3.2.2.2.1.1, (u3.2.2.2.1.2.1, u3.2.2.2.1.2.2)), (u3.2.2.2.2.1, (u3.2.2.2.2.2.1, u3.2.2.2.2.2.2))))))) (m := n3) s3 rfl rfl rfl h
            · obtain ⟨r10, u10, h, f10⟩ := fx_Mo_go (g := (((((u3.1.1.1.1.1, u3.1.1.1.1.2), (u3.1.1.1.2.1, (u3.1.1.1.2.2.1, u3.1.1.1.2.2.2))), ((u3.1.1.2.1.1, u3.1.1.2.1.2), (u3.1.1.2.2.1, (u3.1.1.2.2.2.1, u3.1.1.2.2.2.2)))), (((u3.1.2.1.1.1, u3.1.2.1.1.2), (u3.1.2.1.2.1, (u3.1.2.1.2.2.1, u3.1.2.1.2.2.2))), ((u3.1.2.2.1.1, (u3.1.2.2.1.2.1, u3.1.2.2.1.2.2)), (u3.1.2.2.2.1, (u3.1.2.2.2.2.1, u3.1.2.2.2.2.2))))), ((((u3.2.1.1.1.1, u3.2.1.1.1.2), (u3.2.1.1.2.1, (u3.2.1.1.2.2.1, u3.2.1.1.2.2.2))), ((u3.2.1.2.1.1, u3.2.1.2.1.2), ((upd u3.2.1.2.2.1 ((100 : Int32) * ((1 : Int32) - u3.1.2.1.2.1) + r2).toNatClampNeg r8), (u3.2.1.2.2.2.1, u3.2.1.2.2.2.2)))), (((u3.2.2.1.1.1, u3.2.2.1.1.2), (u3.2.2.1.2.1, (u3.2.2.1.2.2.1, u3.2.2.1.2.2.2))), ((u3.2.2.2.1.1, (u3.2.2.2.1.2.1, u3.2.2.2.1.2.2)), (u3.2.2.2.2.1, (u3.2.2.2.2.2.1, u3.2.2.2.2.2.2))))))) (SQ_refl (n := n3) (c := c) (t := t) (t0 := t) s3) h
              have h10 : u10.1.2.1.2.1 = u3.1.2.1.2.1 := f10.2.1
              rcases br_el h with ⟨b10, h⟩ | ⟨b10, h⟩
              · unfold wp_Mo_declaration_J97 wp_Mo_declaration_J98 at h
                exact ⟨_, _, h.2, h10.trans h3, Or.inl rfl⟩
              · obtain ⟨n10, -, s10⟩ := SQ_FX (m := (((((u3.1.1.1.1.1, u3.1.1.1.1.2), (u3.1.1.1.2.1, (u3.1.1.1.2.2.1, u3.1.1.1.2.2.2))), ((u3.1.1.2.1.1, u3.1.1.2.1.2), (u3.1.1.2.2.1, (u3.1.1.2.2.2.1, u3.1.1.2.2.2.2)))), (((u3.1.2.1.1.1, u3.1.2.1.1.2), (u3.1.2.1.2.1, (u3.1.2.1.2.2.1, u3.1.2.1.2.2.2))), ((u3.1.2.2.1.1, (u3.1.2.2.1.2.1, u3.1.2.2.1.2.2)), (u3.1.2.2.2.1, (u3.1.2.2.2.2.1, u3.1.2.2.2.2.2))))), ((((u3.2.1.1.1.1, u3.2.1.1.1.2), (u3.2.1.1.2.1, (u3.2.1.1.2.2.1, u3.2.1.1.2.2.2))), ((u3.2.1.2.1.1, u3.2.1.2.1.2), ((upd u3.2.1.2.2.1 ((100 : Int32) * ((1 : Int32) - u3.1.2.1.2.1) + r2).toNatClampNeg r8), (u3.2.1.2.2.2.1, u3.2.1.2.2.2.2)))), (((u3.2.2.1.1.1, u3.2.2.1.1.2), (u3.2.2.1.2.1, (u3.2.2.1.2.2.1, u3.2.2.1.2.2.2))), ((u3.2.2.2.1.1, (u3.2.2.2.1.2.1, u3.2.2.2.1.2.2)), (u3.2.2.2.2.1, (u3.2.2.2.2.2.1, u3.2.2.2.2.2.2))))))) (n := n3) (c := c) (t := t) (t0 := t) s3 f10
                exact last s10 h10 f10.2.2.2.2.2.2.1 f10.2.2.2.2.2.1 h
theorem fx_5 {d dB : Nat} {K : T_Mo → Int32 → Prop} {post : Int32 → T_Mo → Prop} : ∀ (k : Nat) (z : T_Mo) (x : Int32), wp_Mo_program_L5 d dB K post k z x → (x = 0 ∨ DC z) → ∃ z' x', K z' x' ∧ z'.1.2.1.2.1 = z.1.2.1.2.1 ∧ (x' = 0 ∨ DC z') := by
  intro k
  induction k with
  | zero => intro z x h; exact False.elim h
  | succ k ih =>
    intro z x h s
    rw [wp_Mo_program_L5] at h
    rcases br_el h with ⟨b, h⟩ | ⟨b, h⟩
    · exact ⟨_, _, h, rfl, s⟩
    · have s := s.resolve_left b
      have go : wp_Mo_declaration d dB z (fun (r5 : Int32) (u5 : T_Mo) => wp_Mo_program_L5 d dB K post k u5 r5) → ∃ z' x', K z' x' ∧ z'.1.2.1.2.1 = z.1.2.1.2.1 ∧ (x' = 0 ∨ DC z') := by
        intro h
        obtain ⟨r, u, h, e, s'⟩ := fx_decl s h
        obtain ⟨z', x', h, e', s''⟩ := ih _ _ h s'
        exact ⟨z', x', h, e'.trans e, s''⟩
      obtain ⟨r2, x2, -, q2⟩ := dt_Mo_isWord h
      replace h := q2 _ h
      rcases br_el h with ⟨b2, h⟩ | ⟨b2, h⟩
      · obtain ⟨r4, x4, -, q4⟩ := dt_Mo_isWord h
        replace h := q4 _ h
        rcases br_el h with ⟨b4, h⟩ | ⟨b4, h⟩
        · obtain ⟨r6, x6, -, q6⟩ := dt_Mo_isWord h
          replace h := q6 _ h
          rcases br_el h with ⟨b6, h⟩ | ⟨b6, h⟩
          · exact ⟨_, _, h, rfl, Or.inr s⟩
          · exact go h
        · exact go h
      · exact go h
def DS (u : T_Mo) : Prop := ∃ n c t t0, SQ u n c t t0 ∧ t0 ≤ t ∧ u.2.1.1.2.2.1 = Int32.ofNat c ∧ c ≤ 100
theorem fx_44 {d dB : Nat} {K : T_Mo → Int32 → Prop} {post : Int32 → T_Mo → Prop} : ∀ (k : Nat) (z : T_Mo) (x : Int32), wp_Mo_program_L44 d dB K post k z x → (x = 0 ∨ DS z) → ∃ z' x', K z' x' ∧ z'.1.2.1.2.1 = z.1.2.1.2.1 ∧ (x' = 0 ∨ DS z') := by
  intro k
  induction k with
  | zero => intro z x h; exact False.elim h
  | succ k ih =>
    intro z x h s
    rw [wp_Mo_program_L44] at h
    rcases br_el h with ⟨b, h⟩ | ⟨b, h⟩
    · exact ⟨_, _, h, rfl, s⟩
    · have s := s.resolve_left b
      rcases br_el h with ⟨b1, h⟩ | ⟨b1, h⟩
      · exact ⟨_, _, h, rfl, Or.inr s⟩
      · obtain ⟨n, c, t, t0, s, tt, ec, c9⟩ := s
        obtain ⟨r8, u8, h, f8, x8⟩ := fx_Mo_statement (g := z) (d := d) (fx_Mo_block d dB) (SQ_refl s) h
        have h8 : u8.1.2.1.2.1 = z.1.2.1.2.1 := f8.2.1
        rcases br_el h with ⟨b8, h⟩ | ⟨b8, h⟩
        · obtain ⟨z', x', h, e', s'⟩ := ih _ _ (h.1 rfl) (Or.inl rfl)
          exact ⟨z', x', h, e'.trans h8, s'⟩
        · replace h := h.2 (by decide)
          unfold wp_Mo_base at h
          replace h := h.2
          obtain ⟨n8, n8', s8⟩ := SQ_FX s f8
          obtain ⟨a1, a2, a3, a4, a5, a6, a7⟩ := s8
          rcases x8 with x8 | ⟨y1, y2, y3⟩
          · exact absurd x8 b8
          · have r0 : (0 : Int32) ≤ r8 := Int32.not_lt.mp b8
            have er : r8 = Int32.ofNat r8.toNatClampNeg := (on_ix r0).symm
            have y2' : n ≤ r8.toNatClampNeg := by
              have := ix_le y2
              rw [s.2.1, ix_on (by have := s.2.2.1; omega)] at this; exact this
            have y3' : r8.toNatClampNeg < n8 := by
              rw [a2, er, on_lt (by have := Int32.toInt_lt r8; show r8.toInt.toNat < _; omega) (by omega)] at y3
              exact y3
            have t9 : t < 1000 := by have := s.2.2.2.2.1; omega
            rw [Bs_at a1 a4 t9] at h
            obtain ⟨z', x', h, e', s'⟩ := ih _ _ h (Or.inr ⟨n8, c, t + 1, t0, ⟨a1, a2, a3, by show u8.2.1.1.2.1 + 1 = _; rw [a4]; exact on_succ (by omega), by have := s.2.2.2.2.1; omega, a6, fun k hk => by
              show ∃ p, p < n8 ∧ upd u8.2.1.1.1.2 (Bs u8.1.2.1.2.1 + t) r8 (Bs u8.1.2.1.2.1 + k) = Int32.ofNat p ∧ (u8.1.2.1.2.2.2 (Bs u8.1.2.1.2.1 + p) = 24 ↔ k < t0)
              rcases Nat.lt_or_ge k t with q | q
              · rw [upd_ne (by omega)]; exact a7 k q
              · have ek : k = t := by omega
                subst ek
                exact ⟨r8.toNatClampNeg, y3', by rw [upd_at]; exact er, ⟨fun w => absurd w y1, fun w => by omega⟩⟩⟩, by omega, f8.2.2.2.2.2.1.trans ec, c9⟩)
            exact ⟨z', x', h, e'.trans h8, s'⟩
/-- of the program that is shown: a step's node has its number; the first tops are steps, the others not -/
def SF (m : T_Mo) : Prop := ∃ n c t t0 : Nat, m.2.1.2.2.2.2 = Int32.ofNat n ∧ n ≤ 1000 ∧ m.2.2.1.1.2 = Int32.ofNat c ∧ c ≤ 100 ∧ m.2.2.1.1.1 = Int32.ofNat t ∧ t ≤ n ∧ (∀ j, j < c → m.2.1.2.1.2 (Ns ((1 : Int32) - m.1.2.1.2.1) + j) = 24 → ∃ p, p < n ∧ m.2.1.2.2.2.1 (Ns ((1 : Int32) - m.1.2.1.2.1) + j) = Int32.ofNat p ∧ (m.1.2.2.1.1 (Bs ((1 : Int32) - m.1.2.1.2.1) + p)).toInt = (j : Int)) ∧ ∀ k, k < t → ∃ p, p < n ∧ m.2.1.1.1.2 (Bs ((1 : Int32) - m.1.2.1.2.1) + k) = Int32.ofNat p ∧ (m.1.2.1.2.2.2 (Bs ((1 : Int32) - m.1.2.1.2.1) + p) = 24 ↔ k < t0)
set_option maxHeartbeats 1000000 in
theorem fx_read {d dB : Nat} {m : T_Mo} {post : Int32 → T_Mo → Prop} (hh : m.1.2.1.2.1 = 0 ∨ m.1.2.1.2.1 = 1) (h : wp_Mo_read d dB m post) : ∃ r u, post r u ∧ (u.1.2.1.2.1 = m.1.2.1.2.1 ∨ SF u) := by
  unfold wp_Mo_read wp_Mo_program at h
  have s0 : SQ (((((m.1.1.1.1.1, m.1.1.1.1.2), ((0 : Int32), ((1 : Int32), m.1.1.1.2.2.2))), ((m.1.1.2.1.1, m.1.1.2.1.2), (m.1.1.2.2.1, (m.1.1.2.2.2.1, m.1.1.2.2.2.2)))), ((((-1 : Int32), (0 : Int32)), (m.1.2.1.2.1, ((0 : Int32), m.1.2.1.2.2.2))), ((m.1.2.2.1.1, (m.1.2.2.1.2.1, m.1.2.2.1.2.2)), (m.1.2.2.2.1, (m.1.2.2.2.2.1, m.1.2.2.2.2.2))))), (((((0 : Int32), m.2.1.1.1.2), ((0 : Int32), ((0 : Int32), m.2.1.1.2.2.2))), ((m.2.1.2.1.1, m.2.1.2.1.2), (m.2.1.2.2.1, (m.2.1.2.2.2.1, m.2.1.2.2.2.2)))), (((m.2.2.1.1.1, m.2.2.1.1.2), (m.2.2.1.2.1, (m.2.2.1.2.2.1, (0 : Int32)))), ((m.2.2.2.1.1, (m.2.2.2.1.2.1, m.2.2.2.1.2.2)), (m.2.2.2.2.1, (m.2.2.2.2.2.1, (0 : Int32))))))) 0 0 0 0 := ⟨hh, rfl, by omega, rfl, by omega, fun j hj => absurd hj (Nat.not_lt_zero _), fun j hj => absurd hj (Nat.not_lt_zero _)⟩
  obtain ⟨r1, u1, h, f1⟩ := fx_Mo_go (g := (((((m.1.1.1.1.1, m.1.1.1.1.2), ((0 : Int32), ((1 : Int32), m.1.1.1.2.2.2))), ((m.1.1.2.1.1, m.1.1.2.1.2), (m.1.1.2.2.1, (m.1.1.2.2.2.1, m.1.1.2.2.2.2)))), ((((-1 : Int32), (0 : Int32)), (m.1.2.1.2.1, ((0 : Int32), m.1.2.1.2.2.2))), ((m.1.2.2.1.1, (m.1.2.2.1.2.1, m.1.2.2.1.2.2)), (m.1.2.2.2.1, (m.1.2.2.2.2.1, m.1.2.2.2.2.2))))), (((((0 : Int32), m.2.1.1.1.2), ((0 : Int32), ((0 : Int32), m.2.1.1.2.2.2))), ((m.2.1.2.1.1, m.2.1.2.1.2), (m.2.1.2.2.1, (m.2.1.2.2.2.1, m.2.1.2.2.2.2)))), (((m.2.2.1.1.1, m.2.2.1.1.2), (m.2.2.1.2.1, (m.2.2.1.2.2.1, (0 : Int32)))), ((m.2.2.2.1.1, (m.2.2.2.1.2.1, m.2.2.2.1.2.2)), (m.2.2.2.2.1, (m.2.2.2.2.2.1, (0 : Int32)))))))) (SQ_refl s0) h
  have h1 : u1.1.2.1.2.1 = m.1.2.1.2.1 := f1.2.1
  obtain ⟨n1, -, s1⟩ := SQ_FX s0 f1
  obtain ⟨k, h⟩ := h
  obtain ⟨u2, x2, ⟨k2, h⟩, h2, s2⟩ := fx_5 k _ _ h (Or.inr ⟨n1, 0, 0, s1, f1.2.2.2.2.2.1, by omega⟩)
  obtain ⟨u3, x3, h, h3, s3⟩ := fx_44 k2 _ _ h (s2.imp id (fun ⟨n, c, t, a, b, e⟩ => ⟨n, c, t, t, a, Nat.le_refl _, b, e⟩))
  replace h := h.2
  have h9 : u3.1.2.1.2.1 = m.1.2.1.2.1 := h3.trans (h2.trans h1)
  rcases br_el h with ⟨b, h⟩ | ⟨b, h⟩
  · exact ⟨_, _, h, Or.inl h9⟩
  · rcases s3 with s3 | ⟨n, c, t, t0, ⟨a1, a2, a3, a4, a5, a6, a7⟩, tt, ec, c9⟩
    · exact absurd s3 b
    · refine ⟨_, _, h, Or.inr ⟨n, c, t, t0, a2, a3, ec, c9, a4, a5, ?_, ?_⟩⟩
      · show ∀ j, j < c → u3.2.1.2.1.2 (Ns ((1 : Int32) - ((1 : Int32) - u3.1.2.1.2.1)) + j) = 24 → ∃ p, p < n ∧ u3.2.1.2.2.2.1 (Ns ((1 : Int32) - ((1 : Int32) - u3.1.2.1.2.1)) + j) = Int32.ofNat p ∧ (u3.1.2.2.1.1 (Bs ((1 : Int32) - ((1 : Int32) - u3.1.2.1.2.1)) + p)).toInt = (j : Int)
        rw [(h11 a1).1]; exact a6
      · show ∀ k, k < t → ∃ p, p < n ∧ u3.2.1.1.1.2 (Bs ((1 : Int32) - ((1 : Int32) - u3.1.2.1.2.1)) + k) = Int32.ofNat p ∧ (u3.1.2.1.2.2.2 (Bs ((1 : Int32) - ((1 : Int32) - u3.1.2.1.2.1)) + p) = 24 ↔ k < t0)
        rw [(h11 a1).1]; exact a7
theorem SF_FO {m m' : T_Mo} (f : FO m m') (hh : m.1.2.1.2.1 = 0 ∨ m.1.2.1.2.1 = 1) (s : SF m) : SF m' := by
  obtain ⟨n, c, t, t0, a1, a2, a3, a4, a5, a6, a7, a8⟩ := s
  have eh : m'.1.2.1.2.1 = m.1.2.1.2.1 := f.1
  have b := Bs2 hh
  have b2 := Ns2 hh
  refine ⟨n, c, t, t0, f.2.1.trans a1, a2, f.2.2.2.1.trans a3, a4, f.2.2.1.trans a5, a6, fun j hj => ?_, fun k hk => ?_⟩
  · obtain ⟨g1, g2, g3, g4⟩ := f.2.2.2.2.2.2.1 (Ns ((1 : Int32) - m.1.2.1.2.1) + j) (by omega)
    rw [eh, g2, g4]
    intro q
    obtain ⟨p, p1, p2, p3⟩ := a7 j hj q
    refine ⟨p, p1, p2, ?_⟩
    rw [(f.2.2.2.2.2.1 (Bs ((1 : Int32) - m.1.2.1.2.1) + p) (by omega)).2.1]; exact p3
  · obtain ⟨p, p1, p2, p3⟩ := a8 k hk
    rw [eh, (f.2.2.2.2.2.1 (Bs ((1 : Int32) - m.1.2.1.2.1) + k) (by omega)).2.2.2.2.2.2.2]
    refine ⟨p, p1, p2, ?_⟩
    rw [(f.2.2.2.2.2.1 (Bs ((1 : Int32) - m.1.2.1.2.1) + p) (by omega)).1]; exact p3

