/-- the reference, seen from the half that it shows -/
def mr (m : T_Mo) : T_Mo := (((((m.1.1.1.1.1, m.1.1.1.1.2), (m.1.1.1.2.1, (m.1.1.1.2.2.1, m.1.1.1.2.2.2))), ((m.1.1.2.1.1, m.1.1.2.1.2), (m.1.1.2.2.1, (m.1.1.2.2.2.1, m.1.1.2.2.2.2)))), (((m.1.2.1.1.1, m.1.2.1.1.2), ((1 : Int32) - m.1.2.1.2.1, (m.1.2.1.2.2.1, m.1.2.1.2.2.2))), ((m.1.2.2.1.1, (m.1.2.2.1.2.1, m.1.2.2.1.2.2)), (m.1.2.2.2.1, (m.1.2.2.2.2.1, m.1.2.2.2.2.2))))), ((((m.2.1.1.1.1, m.2.1.1.1.2), (m.2.1.1.2.1, (m.2.1.1.2.2.1, m.2.1.1.2.2.2))), ((m.2.1.2.1.1, m.2.1.2.1.2), (m.2.1.2.2.1, (m.2.1.2.2.2.1, m.2.1.2.2.2.2)))), (((m.2.2.1.1.1, m.2.2.1.1.2), (m.2.2.1.2.1, (m.2.2.1.2.2.1, m.2.2.1.2.2.2))), ((m.2.2.2.1.1, (m.2.2.2.1.2.1, m.2.2.2.1.2.2)), (m.2.2.2.2.1, (m.2.2.2.2.2.1, m.2.2.2.2.2.2))))))
/-- what both show -/
def FN (nm : T_Nm) (nd : T_Nd) (m : T_Mo) : Prop := (m.1.2.1.2.1 = 0 ∨ m.1.2.1.2.1 = 1) ∧ ∃ (n km c : Nat) (asc : List Nat), nd.2.2.2.2.2.2.2.2.2.2.1 = Int32.ofNat n ∧ m.2.1.2.2.2.2 = Int32.ofNat n ∧ n ≤ 1000 ∧ km ≤ n ∧ (∀ i, i < n → NRi nd (mr m) km i) ∧ nm.2.2.2.2 = Int32.ofNat c ∧ m.2.2.1.1.2 = Int32.ofNat c ∧ c ≤ 100 ∧ (∀ j, j < c → NMi nm (mr m) j) ∧ m.2.2.1.1.1 = Int32.ofNat asc.length ∧ asc.length ≤ n ∧ nd.2.2.2.2.2.2.2.2.2.2.2.2.1 = Int32.ofNat asc.length ∧ KL m.2.1.1.1.2 (Bs ((1 : Int32) - m.1.2.1.2.1)) asc ∧ NX nd.2.2.2.2.2.2.2.2.1 nd.2.2.2.2.2.2.2.2.2.2.2.1 asc ∧ (∀ k, k ∈ asc → k < n) ∧ LT nd.1 nd.2.2.2.2.2.2.2.2.2.1 False asc ∧ CH nd.2.2.2.2.1 0 n asc.reverse ∧ ∀ k, k ∈ asc → nd.2.2.2.2.2.2.1 k = -1
theorem Bs2 {h : Int32} (hh : h = 0 ∨ h = 1) : (Bs h = 1000 ∧ Bs ((1 : Int32) - h) = 0) ∨ (Bs h = 0 ∧ Bs ((1 : Int32) - h) = 1000) := by
  rcases hh with e | e
  · exact Or.inl (by rw [e]; decide)
  · exact Or.inr (by rw [e]; decide)
theorem Ns2 {h : Int32} (hh : h = 0 ∨ h = 1) : (Ns h = 100 ∧ Ns ((1 : Int32) - h) = 0) ∨ (Ns h = 0 ∧ Ns ((1 : Int32) - h) = 100) := by
  rcases hh with e | e
  · exact Or.inl (by rw [e]; decide)
  · exact Or.inr (by rw [e]; decide)
theorem h11 {h : Int32} (hh : h = 0 ∨ h = 1) : (1 : Int32) - ((1 : Int32) - h) = h ∧ ((1 : Int32) - h = 0 ∨ (1 : Int32) - h = 1) := by
  rcases hh with e | e <;> rw [e] <;> decide
theorem NRi_FO {nd : T_Nd} {m m' : T_Mo} {km i : Nat} (f : FO m m') (hh : m.1.2.1.2.1 = 0 ∨ m.1.2.1.2.1 = 1) (hi : i < 1000) (km9 : km ≤ 1000) (h : NRi nd (mr m) km i) : NRi nd (mr m') km i := by
  have eh : m'.1.2.1.2.1 = m.1.2.1.2.1 := f.1
  have b := Bs2 hh
  obtain ⟨g1, g2, g3, g4, g5, g6, -, -⟩ := f.2.2.2.2.2.1 (Bs ((1 : Int32) - m.1.2.1.2.1) + i) (by omega)
  obtain ⟨h1, h2, h3, h4, kl, a, h5, h6, h7, h8, h9, h10, hL, h11⟩ := h
  have h8' : KL m.1.2.2.2.2.2 (Bs ((1 : Int32) - m.1.2.1.2.1) + a) kl := h8
  unfold NRi mr
  dsimp only
  rw [eh, g1, g2, g3, g4, g5, g6]
  exact ⟨h1, h2, h3, h4, kl, a, h5, h6, h7, KL_congr kl _ h8' (fun j j1 j2 => (f.2.2.2.2.2.1 j (by omega)).2.2.2.2.2.2.1), h9, h10, hL, h11⟩
theorem NMi_FO {nm : T_Nm} {m m' : T_Mo} {j : Nat} (f : FO m m') (hh : m.1.2.1.2.1 = 0 ∨ m.1.2.1.2.1 = 1) (hj : j < 100) (h : NMi nm (mr m) j) : NMi nm (mr m') j := by
  have eh : m'.1.2.1.2.1 = m.1.2.1.2.1 := f.1
  have b := Ns2 hh
  obtain ⟨g1, g2, g3, g4⟩ := f.2.2.2.2.2.2.1 (Ns ((1 : Int32) - m.1.2.1.2.1) + j) (by omega)
  obtain ⟨a1, a2, a3, a4, a5, a6, a7, a8⟩ := h
  have l12 : (m.2.1.2.1.1 (Ns ((1 : Int32) - m.1.2.1.2.1) + j)).toNatClampNeg ≤ 12 := by have := ix_le a3; rw [show (12 : Int32).toNatClampNeg = 12 from rfl] at this; exact this
  have en : nw (mr m') j = nw (mr m) j := by
    unfold nw mr
    dsimp only
    rw [eh, g1]
    exact fs_congr _ _ _ (fun i hi => f.2.2.2.2.2.2.2 _ (by omega))
  unfold NMi
  rw [en]
  unfold mr
  dsimp only
  rw [eh, g1, g2, g3, g4]
  exact ⟨a1, a2, a3, a4, a5, a6, a7, a8⟩
theorem FN_FO {nm : T_Nm} {nd : T_Nd} {m m' : T_Mo} (f : FO m m') (h : FN nm nd m) : FN nm nd m' := by
  obtain ⟨hh, n, km, c, asc, a1, a2, a3, a4, a5, a6, a7, a8, a9, a10, a11, a12, a13, a14, a15⟩ := h
  have eh : m'.1.2.1.2.1 = m.1.2.1.2.1 := f.1
  have b := Bs2 hh
  refine ⟨by rw [eh]; exact hh, n, km, c, asc, a1, f.2.1.trans a2, a3, a4, fun i hi => NRi_FO f hh (by omega) (by omega) (a5 i hi), a6, f.2.2.2.1.trans a7, a8, fun j hj => NMi_FO f hh (by omega) (a9 j hj), f.2.2.1.trans a10, a11, a12, ?_, a14, a15⟩
  rw [eh]
  exact KL_congr asc _ a13 (fun j j1 j2 => (f.2.2.2.2.2.1 j (by omega)).2.2.2.2.2.2.2)
theorem ch_start {K : T_Nd → Int32 → Int32 → Int32 → Int32 → Int32 → Prop} {post : Int32 → T_Nd → Prop} {n : Nat} {z : T_Nd} {a b x2 x3 x4 x5 : Int32} (h : wp_Nd_chainFrom_L13 K post n z a x2 x3 x4 x5) (e : a = b) : wp_Nd_chainFrom_L13 K post n z b x2 x3 x4 x5 := e ▸ h
/-- names that are but used -/
def NU (nm nm' : T_Nm) : Prop := nm'.1 = nm.1 ∧ nm'.2.1 = nm.2.1 ∧ nm'.2.2.1 = nm.2.2.1 ∧ nm'.2.2.2.2 = nm.2.2.2.2
theorem NU_trans {a b c : T_Nm} (h : NU a b) (k : NU b c) : NU a c := ⟨k.1.trans h.1, k.2.1.trans h.2.1, k.2.2.1.trans h.2.2.1, k.2.2.2.trans h.2.2.2⟩
theorem iv_useNU {nm : T_Nm} {a : Int32} {P : Unit → T_Nm → Prop} (h : wp_Nm_use nm a P) : ∃ nm', P () nm' ∧ NU nm nm' := by
  unfold wp_Nm_use at h
  obtain ⟨r, u, -, qb⟩ := dt_Nm_has h
  replace h := qb _ h
  rcases br_el h with ⟨q, h⟩ | ⟨q, h⟩
  · exact ⟨_, h, rfl, rfl, rfl, rfl⟩
  · exact ⟨_, h.2, rfl, rfl, rfl, rfl⟩
theorem iv_done_L {pr : T_Pr} {nd : T_Nd} {K : T_Nm → Int32 → Int32 → Prop} {post : Unit → T_Nm → Prop} : ∀ (n : Nat) (nm : T_Nm) (x1 x2 : Int32), wp_Pr_useDoneSteps_L12 pr nd K post n nm x1 x2 → ∃ nm' y1 y2, K nm' y1 y2 ∧ NU nm nm' := by
  intro n
  induction n with
  | zero => intro nm x1 x2 h; exact False.elim h
  | succ n ih =>
    intro nm x1 x2 h
    rw [wp_Pr_useDoneSteps_L12] at h
    rcases br_el h with ⟨q, h⟩ | ⟨q, h⟩
    · exact ⟨_, _, _, h, rfl, rfl, rfl, rfl⟩
    · obtain ⟨r, u, -, qb⟩ := dt_Nd_kindOf h
      replace h := qb _ h
      rcases br_el h with ⟨q1, h⟩ | ⟨q1, h⟩
      · obtain ⟨r2, u2, -, qb2⟩ := dt_Nd_subjectOf h
        replace h := qb2 _ h
        obtain ⟨r3, u3, -, qb3⟩ := dt_Nm_isUsed h
        replace h := qb3 _ h
        exact ih _ _ _ h
      · rcases br_el h with ⟨q2, h⟩ | ⟨q2, h⟩
        · rcases br_el h with ⟨q3, h⟩ | ⟨q3, h⟩
          · exact ih _ _ _ h
          · obtain ⟨r2, u2, -, qb2⟩ := dt_Nd_subjectOf h
            replace h := qb2 _ h
            obtain ⟨nm1, h, nu⟩ := iv_useNU h
            obtain ⟨nm', y1, y2, h, nu2⟩ := ih _ _ _ h
            exact ⟨nm', y1, y2, h, NU_trans nu nu2⟩
        · exact ih _ _ _ h
theorem NMi_NU {nm nm' : T_Nm} {m : T_Mo} {j : Nat} (u : NU nm nm') (h : NMi nm m j) : NMi nm' m j := by
  obtain ⟨u1, u2, u3, u4⟩ := u
  unfold NMi at h ⊢
  rw [u1, u2, u3]; exact h
set_option maxHeartbeats 1000000 in
/-- the end of a text that both take -/
theorem rl_finish {tx : Nat → Int32} {sz : Int32} {pl ln : Nat → Int32} {m0 m : T_Mo} {pr : T_Pr} {nm : T_Nm} {nd : T_Nd} {w : T_Wd} {n km c : Nat} {asc : List Nat} {P : Unit → T_Nm × T_Nd → Prop} (t : TP tx sz pl ln m0 nm nd w m n km c asc) (h : wp_Pr_finish pr nm nd P) : ∃ nm' nd', P () (nm', nd') ∧ FN nm' nd' (((((m.1.1.1.1.1, (0 : Int32)), (m.1.1.1.2.1, (m.1.1.1.2.2.1, m.1.1.1.2.2.2))), ((m.1.1.2.1.1, m.1.1.2.1.2), (m.1.1.2.2.1, (m.1.1.2.2.2.1, m.1.1.2.2.2.2)))), (((m.1.2.1.1.1, m.1.2.1.1.2), ((1 : Int32) - m.1.2.1.2.1, (m.1.2.1.2.2.1, m.1.2.1.2.2.2))), ((m.1.2.2.1.1, (m.1.2.2.1.2.1, m.1.2.2.1.2.2)), (m.1.2.2.2.1, (m.1.2.2.2.2.1, m.1.2.2.2.2.2))))), ((((m.2.1.1.1.1, m.2.1.1.1.2), (m.2.1.1.2.1, (m.2.1.1.2.2.1, m.2.1.1.2.2.2))), ((m.2.1.2.1.1, m.2.1.2.1.2), (m.2.1.2.2.1, (m.2.1.2.2.2.1, m.1.2.1.2.2.1)))), (((m.2.1.1.2.1, m.2.1.1.2.2.1), (m.2.2.1.2.1, (m.2.2.1.2.2.1, m.2.2.1.2.2.2))), ((m.2.2.2.1.1, (m.2.2.2.1.2.1, m.2.2.2.1.2.2)), (m.2.2.2.2.1, (m.2.2.2.2.2.1, m.2.2.2.2.2.2)))))) := by
  obtain ⟨⟨rw1, ⟨hh, c1, c2, c9, c3, lam, per⟩, ⟨b1, b2, b3, b4⟩, pn, hi, tm, s0⟩, np, op0, kl, ch, fo0⟩ := t
  have al : asc.length ≤ n := by omega
  unfold wp_Pr_finish wp_Nd_finish wp_Nd_chainFrom at h
  obtain ⟨k, h⟩ := h
  rw [c1] at h
  replace h := ch_start h (b := Int32.ofNat 0) rfl
  have nil : NX nd.2.2.2.2.2.2.2.2.1 (-1 : Int32) [] := rfl
  obtain ⟨f, x4, x5, nx, pa, h, g1, g2, g3⟩ := iv_chain (low := 0) (by omega) k nd _ _ _ _ _ n asc.reverse [] h ch rfl nil (fun k hk => absurd hk List.not_mem_nil) (by decide) (by have : (0 : Int32).toInt = 0 := rfl; omega)
  rw [List.reverse_reverse, List.append_nil] at g1
  have ain : ∀ k, k ∈ asc → k < n := fun k hk => (CH_in _ _ ch k (List.mem_reverse.mpr hk)).2
  unfold wp_Nd_followChain at h
  obtain ⟨k2, h⟩ := h
  obtain ⟨la, x2', x4', h, lt, lo⟩ := iv_follow asc k2 _ _ _ _ h g1 (by have := nd_rev (CH_nodup _ _ ch); rw [List.reverse_reverse] at this; exact this) (Or.inl rfl) (fun k hk => by have := ain k hk; omega) (by decide) (by have : (0 : Int32).toInt = 0 := rfl; omega)
  unfold wp_Pr_useDoneSteps wp_Nd_count at h
  obtain ⟨k3, h⟩ := h
  obtain ⟨nm', y1, y2, h, nu⟩ := iv_done_L k3 _ _ _ h
  rw [Int32.zero_add] at h
  have hx := h11 hh
  refine ⟨nm', _, h, hx.2, n, km, c, asc, c1, c2, c9, by omega, fun i hi => ?_, nu.2.2.2.trans b1, np, b2, fun j hj => ?_, tm, al, rfl, ?_, g1, ain, LT_congr asc _ _ ⟨fun q => absurd rfl q, False.elim⟩ lt (fun _ _ => ⟨rfl, rfl⟩), ch, fun k hk => g3 k (List.mem_reverse.mpr hk)⟩
  · obtain ⟨h1, h2, h3, h4, kl2, a, h5, h6, h7, h8, h9, h10, hL, h11⟩ := per i hi
    have cr : ∀ k, k ∈ kl2 → ¬ k ∈ asc.reverse := fun k hk q9 => by
      have b := h11 k hk
      have x := CH_cross lam asc.reverse n ch (Nat.le_refl _) (fun i h1 h2 => by omega) k q9 i b.2 hi
      omega
    unfold NRi mr
    dsimp only
    rw [hx.1]
    exact ⟨h1, h2, h3, h4, kl2, a, h5, h6, h7, h8, h9, NX_congr kl2 _ h10 (fun k hk => (g2 k (cr k hk)).1), ⟨LT_congr kl2 _ _ Iff.rfl hL.1 (fun k hk => ⟨rfl, lo k (fun q => cr k hk (List.mem_reverse.mpr q))⟩), hL.2.1, fun k hk => (g2 k (cr k hk)).2.trans (hL.2.2 k hk)⟩, h11⟩
  · refine NMi_NU nu ?_
    have := b3 j hj
    unfold NMi nw mr
    dsimp only
    rw [hx.1]
    exact this
  · show KL m.2.1.1.1.2 (Bs ((1 : Int32) - ((1 : Int32) - m.1.2.1.2.1))) asc
    rw [hx.1]; exact kl

