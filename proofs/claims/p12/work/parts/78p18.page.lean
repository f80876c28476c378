theorem KL_uniq {K : Nat → Int32} {s : Nat} {l l' : List Nat} (h : KL K s l) (h' : KL K s l') (e : l.length = l'.length) (b : ∀ k, k ∈ l → k < 1000) (b' : ∀ k, k ∈ l' → k < 1000) : l = l' := by
  apply List.ext_getElem e
  intro j h1 h2
  have x1 := KL_get _ _ h j h1
  have x2 := KL_get _ _ h' j h2
  have c1 := b _ (List.getElem_mem h1)
  have c2 := b' _ (List.getElem_mem h2)
  exact on_inj (by omega) (by omega) (x1.symm.trans x2)
/-- all that the page needs of the shown program -/
def TA (nm : T_Nm) (nd : T_Nd) (m : T_Mo) (kw : T_Kw) (n cn : Nat) (kf : Nat → List Nat) (asc : List Nat) (PS NS : Nat → Nat) : Prop := PA nm nd m n cn kf asc ∧ TR nm nd m kw n cn kf PS ∧ (∀ j, j < cn → NJ (mr m) NS j ∧ NMi nm (mr m) j) ∧ PS n + NS cn ≤ 12000 ∧ NX nd.2.2.2.2.2.2.2.2.1 nd.2.2.2.2.2.2.2.2.2.2.2.1 asc ∧ FC nd.2.2.2.2.1 n 0 asc
set_option maxHeartbeats 1000000 in
theorem TA_of {nm : T_Nm} {nd : T_Nd} {m : T_Mo} {kw : T_Kw} {n cn : Nat} {kf : Nat → List Nat} {asc : List Nat} (pa : PA nm nd m n cn kf asc) (f : FN nm nd m) (p : PF m) (kz : KWz kw) : ∃ PS NS, TA nm nd m kw n cn kf asc PS NS := by
  have fk := pa.1
  have fin := pa.2.1
  have pc := pa.2.2.2.1
  have pmc := pa.2.2.2.2.1
  have c9 := pa.2.2.2.2.2.1
  obtain ⟨hh, f1, f2, n9, fper, f3, f4, f5, f6, f7⟩ := id fk
  obtain ⟨-, n', km, c', asc', a1, a2, a3, a4, a5, a6, a7, a8, a9, a10, a11, a12, a13, a14, a15, a16, a17, a18⟩ := f
  have en : n' = n := on_inj (by omega) (by omega) (a2.symm.trans f2)
  have ecn : c' = cn := on_inj (by omega) (by omega) (a7.symm.trans pmc)
  subst en ecn
  have el : asc'.length = asc.length := on_inj (by omega) (by omega) (a10.symm.trans f3)
  have ea : asc' = asc := KL_uniq a13 f5 el (fun k hk => by have := a15 k hk; omega) (fun k hk => by have := asc_n fk hk; omega)
  subst ea
  obtain ⟨n2, km2, c2, PS, NS, b1, b2, b3, b4, b5, b6, b7, b8⟩ := p
  have en2 : n2 = n' := on_inj (by omega) (by omega) (b1.symm.trans f2)
  have ec2 : c2 = c' := on_inj (by omega) (by omega) (b4.symm.trans pmc)
  subst en2 ec2
  refine ⟨PS, NS, pa, ⟨hh, kz, f1, n9, pc, c9, fun i hi => ?_, fun j hj => ?_⟩, fun j hj => ⟨(b6 j hj).2, a9 j hj⟩, b8, a14, FC_of _ _ a17⟩
  · obtain ⟨g1, g2, x, g3, g4, g5, g6, -, -⟩ := fper i hi
    obtain ⟨h1, h2, h3, h4, kl, y, h5, h6, h7, h8, h9, h10, ⟨-, h11, h12⟩, h13⟩ := a5 i hi
    have h5 : m.1.2.2.2.1 (Bs ((1 : Int32) - m.1.2.1.2.1) + i) = Int32.ofNat y := h5
    have h6 : m.1.2.2.2.2.1 (Bs ((1 : Int32) - m.1.2.1.2.1) + i) = Int32.ofNat kl.length := h6
    have h8 : KL m.1.2.2.2.2.2 (Bs ((1 : Int32) - m.1.2.1.2.1) + y) kl := h8
    have exy : y = x := on_inj (by omega) (by omega) (h5.symm.trans g3)
    subst exy
    have ekl : kl = kf i := KL_uniq h8 g5 (on_inj (by omega) (by omega) (h6.symm.trans g4)) (fun k hk => by have := h13 k hk; omega) (fun k hk => by have := kl_lt fk hi hk; omega)
    subst ekl
    obtain ⟨z, d, l, q1, q2, q3, q4, q5, q6, q7⟩ := b7 i hi
    have q1 : m.1.2.2.2.1 (Bs ((1 : Int32) - m.1.2.1.2.1) + i) = Int32.ofNat z := q1
    have q2 : m.1.2.2.2.2.1 (Bs ((1 : Int32) - m.1.2.1.2.1) + i) = Int32.ofNat l.length := q2
    have q3 : KL m.1.2.2.2.2.2 (Bs ((1 : Int32) - m.1.2.1.2.1) + z) l := q3
    have ezy : z = y := on_inj (by omega) (by omega) (q1.symm.trans g3)
    subst ezy
    have ell : l = kf i := KL_uniq q3 g5 (on_inj (by omega) (by omega) (q2.symm.trans g4)) (fun k hk => by have := q5 k hk; omega) (fun k hk => by have := kl_lt fk hi hk; omega)
    refine ⟨g1, g2, fun w6 => h4 (by rw [g1] at w6; exact w6), ⟨z, g3, g4, g5, g6⟩, h10, h11, h12, fun k hk => (kk_of fin fk hi hk).1, d, q6, ?_⟩
    have q7 : SC (m.1.2.1.2.2.2 (Bs ((1 : Int32) - m.1.2.1.2.1) + i)) (m.1.2.2.1.1 (Bs ((1 : Int32) - m.1.2.1.2.1) + i)) (m.1.2.2.1.2.2 (Bs ((1 : Int32) - m.1.2.1.2.1) + i)) (l.map (fun k => m.1.2.1.2.2.2 (Bs ((1 : Int32) - m.1.2.1.2.1) + k))) (fun j => m.2.1.2.1.1 (Ns ((1 : Int32) - m.1.2.1.2.1) + j)) c2 d := q7
    rw [ell] at q7
    have em : (kf i).map (fun k => m.1.2.1.2.2.2 (Bs ((1 : Int32) - m.1.2.1.2.1) + k)) = (kf i).map nd.1 := List.map_congr_left (fun k hk => (fper k (by have := kl_lt fk hi hk; omega)).1.symm)
    rw [em, ← g1, ← g2] at q7
    exact q7
  · obtain ⟨h1, h2, h3, h4, -⟩ := a9 j hj
    have h3 : m.2.1.2.1.1 (Ns ((1 : Int32) - m.1.2.1.2.1) + j) ≤ 12 := h3
    refine ⟨h1, h2, (b6 j hj).1, ?_, h4⟩
    have := ix_le h3
    have e12 : (12 : Int32).toNatClampNeg = 12 := by decide
    omega
theorem na_sort {nm : T_Nm} {j c : Nat} {P : Int32 → Unit → Prop} (e : nm.2.2.2.2 = Int32.ofNat c) (c9 : c ≤ 100) (hj : j < c) (h : wp_Nm_sortOf nm (Int32.ofNat j) P) : P (nm.2.1 j) () := by
  unfold wp_Nm_sortOf at h
  replace h := ((iv_hasN h e hj c9).2 (by decide)).2
  rw [ix_on (by omega)] at h; exact h
theorem na_nme {nm : T_Nm} {j c : Nat} {P : Int32 → Unit → Prop} (e : nm.2.2.2.2 = Int32.ofNat c) (c9 : c ≤ 100) (hj : j < c) (h : wp_Nm_measureOf nm (Int32.ofNat j) P) : P (nm.2.2.1 j) () := by
  unfold wp_Nm_measureOf at h
  replace h := ((iv_hasN h e hj c9).2 (by decide)).2
  rw [ix_on (by omega)] at h; exact h
set_option maxHeartbeats 1000000 in
/-- a declaration, of both -/
theorem dc_signal {kw : T_Kw} {nm : T_Nm} {nd : T_Nd} {m : T_Mo} {n cn : Nat} {kf : Nat → List Nat} {PS : Nat → Nat} (tr : TR nm nd m kw n cn kf PS) {i j X : Nat} {pg : T_Pg} {a b c : Int32} {P : Unit → T_Pg → Prop} {V1 V2 : Prop} {B R : T_Mo → Prop} (hj : j < cn) (mi : NMi nm (mr m) j) (so : nm.2.1 j = 213) (u5 : m.2.1.2.2.1 (Ns ((1 : Int32) - m.1.2.1.2.1) + j) ≤ 5) (w2 : B2 i pg a b c X ∨ C2 i pg a b c X) (r : X + (7 + (m.2.1.2.1.1 (Ns ((1 : Int32) - m.1.2.1.2.1) + j)).toNatClampNeg + 1 + uc (m.2.1.2.2.1 (Ns ((1 : Int32) - m.1.2.1.2.1) + j)) + 2) ≤ 12000) (hC : wp_Pg_layDeclaration pg kw nm (Int32.ofNat j) P) (hM : wp_Mo_word (((((m.1.1.1.1.1, m.1.1.1.1.2), (m.1.1.1.2.1, (m.1.1.1.2.2.1, m.1.1.1.2.2.2))), ((m.1.1.2.1.1, m.1.1.2.1.2), (m.1.1.2.2.1, (m.1.1.2.2.2.1, m.1.1.2.2.2.2)))), (((m.1.2.1.1.1, m.1.2.1.1.2), (m.1.2.1.2.1, (m.1.2.1.2.2.1, m.1.2.1.2.2.2))), ((m.1.2.2.1.1, (m.1.2.2.1.2.1, m.1.2.2.1.2.2)), (m.1.2.2.2.1, (m.1.2.2.2.2.1, m.1.2.2.2.2.2))))), ((((m.2.1.1.1.1, m.2.1.1.1.2), (m.2.1.1.2.1, (m.2.1.1.2.2.1, m.2.1.1.2.2.2))), ((m.2.1.2.1.1, m.2.1.2.1.2), (m.2.1.2.2.1, (m.2.1.2.2.2.1, m.2.1.2.2.2.2)))), (((m.2.2.1.1.1, m.2.2.1.1.2), (m.2.2.1.2.1, (m.2.2.1.2.2.1, m.2.2.1.2.2.2))), ((m.2.2.2.1.1, (m.2.2.2.1.2.1, a)), (b, (c, m.2.2.2.2.2.2)))))) (119165719898483 : Int64) (fun (_ : Unit) (u17 : T_Mo) => wp_Mo_name u17 ((Int32.ofNat j)).toInt64 (fun (_ : Unit) (u18 : T_Mo) => V1 ∧ (((u18.2.1.2.1.2 ((((100 : Int32) * m.1.2.1.2.1) + (Int32.ofNat j))).toNatClampNeg) = (24 : Int32) → B u18) ∧ (¬ (u18.2.1.2.1.2 ((((100 : Int32) * m.1.2.1.2.1) + (Int32.ofNat j))).toNatClampNeg) = (24 : Int32) → (V2 ∧ (wp_Mo_unitWord1 u18 (u18.2.1.2.2.1 ((((100 : Int32) * m.1.2.1.2.1) + (Int32.ofNat j))).toNatClampNeg) (fun (_ : Unit) (u19 : T_Mo) => wp_Mo_word u19 (59 : Int64) (fun (_ : Unit) (u20 : T_Mo) => wp_Mo_newLine u20 (fun (_ : Unit) (u21 : T_Mo) => R u21)))))))))) : ∃ pg' a' b' c', P () pg' ∧ R (((((m.1.1.1.1.1, m.1.1.1.1.2), (m.1.1.1.2.1, (m.1.1.1.2.2.1, m.1.1.1.2.2.2))), ((m.1.1.2.1.1, m.1.1.2.1.2), (m.1.1.2.2.1, (m.1.1.2.2.2.1, m.1.1.2.2.2.2)))), (((m.1.2.1.1.1, m.1.2.1.1.2), (m.1.2.1.2.1, (m.1.2.1.2.2.1, m.1.2.1.2.2.2))), ((m.1.2.2.1.1, (m.1.2.2.1.2.1, m.1.2.2.1.2.2)), (m.1.2.2.2.1, (m.1.2.2.2.2.1, m.1.2.2.2.2.2))))), ((((m.2.1.1.1.1, m.2.1.1.1.2), (m.2.1.1.2.1, (m.2.1.1.2.2.1, m.2.1.1.2.2.2))), ((m.2.1.2.1.1, m.2.1.2.1.2), (m.2.1.2.2.1, (m.2.1.2.2.2.1, m.2.1.2.2.2.2)))), (((m.2.2.1.1.1, m.2.2.1.1.2), (m.2.2.1.2.1, (m.2.2.1.2.2.1, m.2.2.1.2.2.2))), ((m.2.2.2.1.1, (m.2.2.2.1.2.1, a')), (b', (c', m.2.2.2.2.2.2)))))) ∧ B2 i pg' a' b' c' (X + (7 + (m.2.1.2.1.1 (Ns ((1 : Int32) - m.1.2.1.2.1) + j)).toNatClampNeg + 1 + uc (m.2.1.2.2.1 (Ns ((1 : Int32) - m.1.2.1.2.1) + j)) + 2)) := by
  obtain ⟨hh, kz, ec, n9, em, c9, per, nam⟩ := tr
  obtain ⟨y1, y2, y3, y4, y5⟩ := nam j hj
  obtain ⟨-, -, -, -, sr0, mz, m0, -⟩ := mi
  have mz : nm.2.2.1 j = m.2.1.2.2.1 (Ns ((1 : Int32) - m.1.2.1.2.1) + j) := mz
  have ro : m.2.1.2.1.2 (Ns ((1 : Int32) - m.1.2.1.2.1) + j) = 30 := by
    rcases sr0 with ⟨z, y⟩ | ⟨z, y⟩ | ⟨z, y⟩
    all_goals first | exact y | (rw [so] at z; exact absurd z (by decide))
  unfold wp_Pg_layDeclaration at hC
  obtain ⟨pg1, hC, w3⟩ := t_line w2 (by omega) hC
  replace hC := na_sort em c9 hj hC
  rw [so] at hC
  obtain ⟨pg2, a2, b2, hC, hM, w4⟩ := tk_signal (m := m) kz (C2_W w3) (by omega) hC hM
  replace hC := na_let em c9 hj hC
  have jx : ((Int32.ofNat j)).toInt64.toInt = (j : Int) := by rw [Int32.toInt_toInt64, on_toInt (by omega)]
  obtain ⟨pg3, a3, b3, hC, hM, w5⟩ := t_name (m := m) hh (A2_W w4) (by omega) jx y2 y3 y4 y5 y1 (by omega) hC hM
  replace hC := na_nme em c9 hj hC
  rw [mz] at hC m0
  dsimp only at hM
  rw [nn_ix hh (by omega), ro] at hM
  replace hM := (hM.2.2 (by decide)).2
  obtain ⟨pg4, a4, b4, c4, hC, hM, w6⟩ := t_un (m := m) kz w5 m0 u5 (by omega) hC hM
  obtain ⟨pg5, a5, b5, hC, hM, w7⟩ := t_sign (m := m) (A2_W w6) (by omega) (by decide) (by decide) (by decide) WB_c59 hC hM
  obtain ⟨a6, b6, hM, w8⟩ := t_nl (m := m) w7 (by omega) hM
  exact ⟨pg5, a6, b6, 0, hC, hM, B2_le w8 (by omega)⟩
set_option maxHeartbeats 1000000 in
/-- a declaration, of both -/
theorem dc_output {kw : T_Kw} {nm : T_Nm} {nd : T_Nd} {m : T_Mo} {n cn : Nat} {kf : Nat → List Nat} {PS : Nat → Nat} (tr : TR nm nd m kw n cn kf PS) {i j X : Nat} {pg : T_Pg} {a b c : Int32} {P : Unit → T_Pg → Prop} {V1 V2 : Prop} {B R : T_Mo → Prop} (hj : j < cn) (mi : NMi nm (mr m) j) (so : nm.2.1 j = 214) (u5 : m.2.1.2.2.1 (Ns ((1 : Int32) - m.1.2.1.2.1) + j) ≤ 5) (w2 : B2 i pg a b c X ∨ C2 i pg a b c X) (r : X + (7 + (m.2.1.2.1.1 (Ns ((1 : Int32) - m.1.2.1.2.1) + j)).toNatClampNeg + 1 + uc (m.2.1.2.2.1 (Ns ((1 : Int32) - m.1.2.1.2.1) + j)) + 2) ≤ 12000) (hC : wp_Pg_layDeclaration pg kw nm (Int32.ofNat j) P) (hM : wp_Mo_word (((((m.1.1.1.1.1, m.1.1.1.1.2), (m.1.1.1.2.1, (m.1.1.1.2.2.1, m.1.1.1.2.2.2))), ((m.1.1.2.1.1, m.1.1.2.1.2), (m.1.1.2.2.1, (m.1.1.2.2.2.1, m.1.1.2.2.2.2)))), (((m.1.2.1.1.1, m.1.2.1.1.2), (m.1.2.1.2.1, (m.1.2.1.2.2.1, m.1.2.1.2.2.2))), ((m.1.2.2.1.1, (m.1.2.2.1.2.1, m.1.2.2.1.2.2)), (m.1.2.2.2.1, (m.1.2.2.2.2.1, m.1.2.2.2.2.2))))), ((((m.2.1.1.1.1, m.2.1.1.1.2), (m.2.1.1.2.1, (m.2.1.1.2.2.1, m.2.1.1.2.2.2))), ((m.2.1.2.1.1, m.2.1.2.1.2), (m.2.1.2.2.1, (m.2.1.2.2.2.1, m.2.1.2.2.2.2)))), (((m.2.2.1.1.1, m.2.2.1.1.2), (m.2.2.1.2.1, (m.2.2.1.2.2.1, m.2.2.1.2.2.2))), ((m.2.2.2.1.1, (m.2.2.2.1.2.1, a)), (b, (c, m.2.2.2.2.2.2)))))) (128047746676079 : Int64) (fun (_ : Unit) (u17 : T_Mo) => wp_Mo_name u17 ((Int32.ofNat j)).toInt64 (fun (_ : Unit) (u18 : T_Mo) => V1 ∧ (((u18.2.1.2.1.2 ((((100 : Int32) * m.1.2.1.2.1) + (Int32.ofNat j))).toNatClampNeg) = (24 : Int32) → B u18) ∧ (¬ (u18.2.1.2.1.2 ((((100 : Int32) * m.1.2.1.2.1) + (Int32.ofNat j))).toNatClampNeg) = (24 : Int32) → (V2 ∧ (wp_Mo_unitWord1 u18 (u18.2.1.2.2.1 ((((100 : Int32) * m.1.2.1.2.1) + (Int32.ofNat j))).toNatClampNeg) (fun (_ : Unit) (u19 : T_Mo) => wp_Mo_word u19 (59 : Int64) (fun (_ : Unit) (u20 : T_Mo) => wp_Mo_newLine u20 (fun (_ : Unit) (u21 : T_Mo) => R u21)))))))))) : ∃ pg' a' b' c', P () pg' ∧ R (((((m.1.1.1.1.1, m.1.1.1.1.2), (m.1.1.1.2.1, (m.1.1.1.2.2.1, m.1.1.1.2.2.2))), ((m.1.1.2.1.1, m.1.1.2.1.2), (m.1.1.2.2.1, (m.1.1.2.2.2.1, m.1.1.2.2.2.2)))), (((m.1.2.1.1.1, m.1.2.1.1.2), (m.1.2.1.2.1, (m.1.2.1.2.2.1, m.1.2.1.2.2.2))), ((m.1.2.2.1.1, (m.1.2.2.1.2.1, m.1.2.2.1.2.2)), (m.1.2.2.2.1, (m.1.2.2.2.2.1, m.1.2.2.2.2.2))))), ((((m.2.1.1.1.1, m.2.1.1.1.2), (m.2.1.1.2.1, (m.2.1.1.2.2.1, m.2.1.1.2.2.2))), ((m.2.1.2.1.1, m.2.1.2.1.2), (m.2.1.2.2.1, (m.2.1.2.2.2.1, m.2.1.2.2.2.2)))), (((m.2.2.1.1.1, m.2.2.1.1.2), (m.2.2.1.2.1, (m.2.2.1.2.2.1, m.2.2.1.2.2.2))), ((m.2.2.2.1.1, (m.2.2.2.1.2.1, a')), (b', (c', m.2.2.2.2.2.2)))))) ∧ B2 i pg' a' b' c' (X + (7 + (m.2.1.2.1.1 (Ns ((1 : Int32) - m.1.2.1.2.1) + j)).toNatClampNeg + 1 + uc (m.2.1.2.2.1 (Ns ((1 : Int32) - m.1.2.1.2.1) + j)) + 2)) := by
  obtain ⟨hh, kz, ec, n9, em, c9, per, nam⟩ := tr
  obtain ⟨y1, y2, y3, y4, y5⟩ := nam j hj
  obtain ⟨-, -, -, -, sr0, mz, m0, -⟩ := mi
  have mz : nm.2.2.1 j = m.2.1.2.2.1 (Ns ((1 : Int32) - m.1.2.1.2.1) + j) := mz
  have ro : m.2.1.2.1.2 (Ns ((1 : Int32) - m.1.2.1.2.1) + j) = 31 := by
    rcases sr0 with ⟨z, y⟩ | ⟨z, y⟩ | ⟨z, y⟩
    all_goals first | exact y | (rw [so] at z; exact absurd z (by decide))
  unfold wp_Pg_layDeclaration at hC
  obtain ⟨pg1, hC, w3⟩ := t_line w2 (by omega) hC
  replace hC := na_sort em c9 hj hC
  rw [so] at hC
  obtain ⟨pg2, a2, b2, hC, hM, w4⟩ := tk_output (m := m) kz (C2_W w3) (by omega) hC hM
  replace hC := na_let em c9 hj hC
  have jx : ((Int32.ofNat j)).toInt64.toInt = (j : Int) := by rw [Int32.toInt_toInt64, on_toInt (by omega)]
  obtain ⟨pg3, a3, b3, hC, hM, w5⟩ := t_name (m := m) hh (A2_W w4) (by omega) jx y2 y3 y4 y5 y1 (by omega) hC hM
  replace hC := na_nme em c9 hj hC
  rw [mz] at hC m0
  dsimp only at hM
  rw [nn_ix hh (by omega), ro] at hM
  replace hM := (hM.2.2 (by decide)).2
  obtain ⟨pg4, a4, b4, c4, hC, hM, w6⟩ := t_un (m := m) kz w5 m0 u5 (by omega) hC hM
  obtain ⟨pg5, a5, b5, hC, hM, w7⟩ := t_sign (m := m) (A2_W w6) (by omega) (by decide) (by decide) (by decide) WB_c59 hC hM
  obtain ⟨a6, b6, hM, w8⟩ := t_nl (m := m) w7 (by omega) hM
  exact ⟨pg5, a6, b6, 0, hC, hM, B2_le w8 (by omega)⟩
set_option maxHeartbeats 1000000 in
/-- a step, of both -/
theorem st_sim {kw : T_Kw} {nm : T_Nm} {nd : T_Nd} {m : T_Mo} {n cn : Nat} {kf : Nat → List Nat} {PS : Nat → Nat} (tr : TR nm nd m kw n cn kf PS) {i j d dB p X Y : Nat} {pg : T_Pg} {a b c : Int32} {P : Unit → T_Pg → Prop} {V1 V2 : Prop} {B R : T_Mo → Prop} (hp : p < n) (ek : nd.1 p = 24) (hj : j < cn) (ev : (nd.2.2.1 p).toInt = (j : Int)) (esn : m.2.1.2.2.2.1 (Ns ((1 : Int32) - m.1.2.1.2.1) + j) = (Int32.ofNat p)) (ro : m.2.1.2.1.2 (Ns ((1 : Int32) - m.1.2.1.2.1) + j) = 24) (w2 : B2 i pg a b c X ∨ C2 i pg a b c X) (bud : X + PS (p + 1) ≤ Y + PS (nd.2.2.2.2.1 p).toNatClampNeg) (Y9 : Y ≤ 12000) (hC : wp_Pg_layNode pg kw nm nd (Int32.ofNat p) P) (hM : wp_Mo_word (((((m.1.1.1.1.1, m.1.1.1.1.2), (m.1.1.1.2.1, (m.1.1.1.2.2.1, m.1.1.1.2.2.2))), ((m.1.1.2.1.1, m.1.1.2.1.2), (m.1.1.2.2.1, (m.1.1.2.2.2.1, m.1.1.2.2.2.2)))), (((m.1.2.1.1.1, m.1.2.1.1.2), (m.1.2.1.2.1, (m.1.2.1.2.2.1, m.1.2.1.2.2.2))), ((m.1.2.2.1.1, (m.1.2.2.1.2.1, m.1.2.2.1.2.2)), (m.1.2.2.2.1, (m.1.2.2.2.2.1, m.1.2.2.2.2.2))))), ((((m.2.1.1.1.1, m.2.1.1.1.2), (m.2.1.1.2.1, (m.2.1.1.2.2.1, m.2.1.1.2.2.2))), ((m.2.1.2.1.1, m.2.1.2.1.2), (m.2.1.2.2.1, (m.2.1.2.2.2.1, m.2.1.2.2.2.2)))), (((m.2.2.1.1.1, m.2.2.1.1.2), (m.2.2.1.2.1, (m.2.2.1.2.2.1, m.2.2.1.2.2.2))), ((m.2.2.2.1.1, (m.2.2.2.1.2.1, a)), (b, (c, m.2.2.2.2.2.2)))))) (1885697139 : Int64) (fun (_ : Unit) (u1 : T_Mo) => wp_Mo_name u1 ((Int32.ofNat j)).toInt64 (fun (_ : Unit) (u18 : T_Mo) => V1 ∧ (((u18.2.1.2.1.2 ((((100 : Int32) * m.1.2.1.2.1) + (Int32.ofNat j))).toNatClampNeg) = (24 : Int32) → (V2 ∧ (wp_Mo_kid u18 (u18.2.1.2.2.2.1 ((((100 : Int32) * m.1.2.1.2.1) + (Int32.ofNat j))).toNatClampNeg) (0 : Int32) (fun (r6 : Int32) (_ : Unit) => wp_Mo_blockOut d dB u18 r6 (fun (_ : Unit) (u7 : T_Mo) => wp_Mo_newLine u7 (fun (_ : Unit) (u8 : T_Mo) => R u8)))))) ∧ (¬ (u18.2.1.2.1.2 ((((100 : Int32) * m.1.2.1.2.1) + (Int32.ofNat j))).toNatClampNeg) = (24 : Int32) → B u18))))) : ∃ pg' a' b' c', P () pg' ∧ R (((((m.1.1.1.1.1, m.1.1.1.1.2), (m.1.1.1.2.1, (m.1.1.1.2.2.1, m.1.1.1.2.2.2))), ((m.1.1.2.1.1, m.1.1.2.1.2), (m.1.1.2.2.1, (m.1.1.2.2.2.1, m.1.1.2.2.2.2)))), (((m.1.2.1.1.1, m.1.2.1.1.2), (m.1.2.1.2.1, (m.1.2.1.2.2.1, m.1.2.1.2.2.2))), ((m.1.2.2.1.1, (m.1.2.2.1.2.1, m.1.2.2.1.2.2)), (m.1.2.2.2.1, (m.1.2.2.2.2.1, m.1.2.2.2.2.2))))), ((((m.2.1.1.1.1, m.2.1.1.1.2), (m.2.1.1.2.1, (m.2.1.1.2.2.1, m.2.1.1.2.2.2))), ((m.2.1.2.1.1, m.2.1.2.1.2), (m.2.1.2.2.1, (m.2.1.2.2.2.1, m.2.1.2.2.2.2)))), (((m.2.2.1.1.1, m.2.2.1.1.2), (m.2.2.1.2.1, (m.2.2.1.2.2.1, m.2.2.1.2.2.2))), ((m.2.2.2.1.1, (m.2.2.2.1.2.1, a')), (b', (c', m.2.2.2.2.2.2)))))) ∧ B2 i pg' a' b' c' Y := by
  have tr0 := tr
  obtain ⟨hh, kz, ec, n9, em, c9, per, nam⟩ := tr
  obtain ⟨y1, y2, y3, y4, y5⟩ := nam j hj
  obtain ⟨t1, t2, t3, ⟨a0, -, q2, -, l9⟩, t5, t6, t7, t8, dd, t9, sc⟩ := per p hp
  have fc := TR_fc tr0 hp
  have ll := FC_le _ _ fc
  have pm := TR_ps tr0 p ll (by omega)
  have sc' : ∃ v, (kf p).map nd.1 = [v] ∧ ∃ j', j' < cn ∧ (nd.2.2.1 p).toInt = (j' : Int) ∧ 5 + (m.2.1.2.1.1 (Ns ((1 : Int32) - m.1.2.1.2.1) + j')).toNatClampNeg + 1 ≤ dd := by
    rw [ek] at sc
    rcases sc with ⟨z, -⟩ | ⟨z, -⟩ | ⟨z, -⟩ | ⟨z, -⟩ | ⟨z, -⟩ | ⟨-, z⟩ | ⟨z, -⟩ | ⟨z, -⟩ | ⟨z, -⟩ | ⟨z, -⟩ | ⟨z, -⟩ | ⟨z, -⟩ | ⟨z, -⟩ <;> first | exact z | exact absurd z (by decide)
  obtain ⟨v, ekv, j', hj', ev', hd⟩ := sc'
  have ejj : j' = j := by omega
  subst ejj
  obtain ⟨q, hl, eq⟩ := map1 ekv
  have mq : q ∈ kf p := by rw [hl]; exact List.mem_cons_self
  have q23 := (t8 q mq).2.2.2 ek
  have lq := TR_lt tr0 hp mq
  unfold wp_Pg_layNode at hC
  obtain ⟨f, hC⟩ := hC
  obtain ⟨f', hC⟩ := lay_in (s := 0) (top := p) (k := p) (by omega) (by omega) hC
  replace hC := en_s ec n9 hp (by rw [ek]; decide) (by rw [ek]; decide) hC
  unfold wp_Pg_beginStatement wp_Nd_subjectOf at hC
  replace hC := na_kind ec n9 hp hC
  rw [ek] at hC
  obtain ⟨pg1, hC, w3⟩ := t_line w2 (by omega) hC
  replace hC := hC.1 rfl
  obtain ⟨pg2, a2, b2, hC, hM, w4⟩ := tk_step (m := m) kz (C2_W w3) (by omega) hC hM
  replace hC := na_val ec n9 hp (hC.2.2.2.2.2.1 rfl)
  rw [v_nat ev (by omega)] at hC
  replace hC := na_let em c9 hj hC
  have jx : ((Int32.ofNat j')).toInt64.toInt = (j' : Int) := by rw [Int32.toInt_toInt64, on_toInt (by omega)]
  obtain ⟨pg3, a3, b3, hC, hM, w5⟩ := t_name (m := m) hh (A2_W w4) (by omega) jx y2 y3 y4 y5 y1 (by omega) hC hM
  dsimp only at hM
  rw [nn_ix hh (by omega), ro, esn] at hM
  replace hM := (hM.2.1 rfl).2
  replace hM := ko_kid tr0 (j := 0) hp (by rw [hl]; exact Nat.zero_lt_succ _) rfl hM
  have e0 : (kf p)[0]'(by rw [hl]; exact Nat.zero_lt_succ _) = q := by simp only [hl, List.getElem_cons_zero]
  rw [e0] at hM
  have go := GO_first ec n9 hp t5 (fun x hx => by have := TR_lt tr0 hp hx; omega) hC
  rw [hl] at fc go t5
  obtain ⟨fc1, fc2, fc3⟩ := fc
  have fc3 : q + 1 = p := fc3
  obtain ⟨nx1, nx2⟩ := t5
  have nx2 : nd.2.2.2.2.2.2.2.2.1 q = -1 := nx2
  obtain ⟨f2, hC⟩ := go
  have pq : PS (q + 1) = PS p := by rw [fc3]
  obtain ⟨pg4, a4, b4, c4, hC, hM, w6⟩ := (sim_all (d := d) tr0 hp q (by omega)).1 dB q23 f2 (0 + 1) _ Y pg3 a3 b3 1 _ (by omega) (by rw [fc1]; omega) Y9 (A2_W w5) hC hM
  obtain ⟨f3, f4, x2, e2, he, hC⟩ := AF_end ec n9 (p := p) (by omega) (Nat.le_refl _) hp (t7 q mq) nx2 hC
  replace hC := lv_none ec n9 hp (Or.inr ek) hC
  obtain ⟨a5, b5, hM, w7⟩ := t_nl (m := m) w6 (by omega) hM
  exact ⟨pg4, a5, b5, 0, AF_top ⟨f3, f4, x2, e2, he, hC⟩, hM, w7⟩
set_option maxHeartbeats 1000000 in
/-- an outer statement, of both -/
theorem ot_sim {kw : T_Kw} {nm : T_Nm} {nd : T_Nd} {m : T_Mo} {n cn : Nat} {kf : Nat → List Nat} {PS : Nat → Nat} (tr : TR nm nd m kw n cn kf PS) {i d dB p X Y : Nat} {pg : T_Pg} {a b c : Int32} {P : Unit → T_Pg → Prop} {Q : Unit → T_Mo → Prop} (hp : p < n) (k1 : 10 ≤ nd.1 p) (k2 : nd.1 p ≤ 22) (w2 : B2 i pg a b c X ∨ C2 i pg a b c X) (bud : X + PS (p + 1) ≤ Y + PS (nd.2.2.2.2.1 p).toNatClampNeg) (Y9 : Y ≤ 12000) (hC : wp_Pg_layNode pg kw nm nd (Int32.ofNat p) P) (hM : wp_Mo_statementOut d (wp_Mo_blockOut d dB) (((((m.1.1.1.1.1, m.1.1.1.1.2), (m.1.1.1.2.1, (m.1.1.1.2.2.1, m.1.1.1.2.2.2))), ((m.1.1.2.1.1, m.1.1.2.1.2), (m.1.1.2.2.1, (m.1.1.2.2.2.1, m.1.1.2.2.2.2)))), (((m.1.2.1.1.1, m.1.2.1.1.2), (m.1.2.1.2.1, (m.1.2.1.2.2.1, m.1.2.1.2.2.2))), ((m.1.2.2.1.1, (m.1.2.2.1.2.1, m.1.2.2.1.2.2)), (m.1.2.2.2.1, (m.1.2.2.2.2.1, m.1.2.2.2.2.2))))), ((((m.2.1.1.1.1, m.2.1.1.1.2), (m.2.1.1.2.1, (m.2.1.1.2.2.1, m.2.1.1.2.2.2))), ((m.2.1.2.1.1, m.2.1.2.1.2), (m.2.1.2.2.1, (m.2.1.2.2.2.1, m.2.1.2.2.2.2)))), (((m.2.2.1.1.1, m.2.2.1.1.2), (m.2.2.1.2.1, (m.2.2.1.2.2.1, m.2.2.1.2.2.2))), ((m.2.2.2.1.1, (m.2.2.2.1.2.1, a)), (b, (c, m.2.2.2.2.2.2)))))) (Int32.ofNat p) Q) : ∃ pg' a' b' c', P () pg' ∧ Q () (((((m.1.1.1.1.1, m.1.1.1.1.2), (m.1.1.1.2.1, (m.1.1.1.2.2.1, m.1.1.1.2.2.2))), ((m.1.1.2.1.1, m.1.1.2.1.2), (m.1.1.2.2.1, (m.1.1.2.2.2.1, m.1.1.2.2.2.2)))), (((m.1.2.1.1.1, m.1.2.1.1.2), (m.1.2.1.2.1, (m.1.2.1.2.2.1, m.1.2.1.2.2.2))), ((m.1.2.2.1.1, (m.1.2.2.1.2.1, m.1.2.2.1.2.2)), (m.1.2.2.2.1, (m.1.2.2.2.2.1, m.1.2.2.2.2.2))))), ((((m.2.1.1.1.1, m.2.1.1.1.2), (m.2.1.1.2.1, (m.2.1.1.2.2.1, m.2.1.1.2.2.2))), ((m.2.1.2.1.1, m.2.1.2.1.2), (m.2.1.2.2.1, (m.2.1.2.2.2.1, m.2.1.2.2.2.2)))), (((m.2.2.1.1.1, m.2.2.1.1.2), (m.2.2.1.2.1, (m.2.2.1.2.2.1, m.2.2.1.2.2.2))), ((m.2.2.2.1.1, (m.2.2.2.1.2.1, a')), (b', (c', m.2.2.2.2.2.2)))))) ∧ B2 i pg' a' b' c' Y := by
  have n9 := tr.2.2.2.1
  unfold wp_Pg_layNode at hC
  obtain ⟨f, hC⟩ := hC
  obtain ⟨pg1, a1, b1, c1, hC, hM, w3⟩ := (sim_all (d := d) tr hp p (Nat.le_refl _)).2 dB k1 k2 f 0 X Y pg a b c Q (by omega) bud Y9 w2 hC hM
  exact ⟨pg1, a1, b1, c1, AF_top hC, hM, w3⟩

