theorem fx_i1 {a b : Int32} (h : a ≤ b) (h0 : (0 : Int32) ≤ a) (b9 : b < 1000) : a ≤ b + 1 := by grind
theorem fx_i2 {b : Int32} (h : b ≤ 1000) (n : ¬ b = 1000) : b < 1000 := by grind
theorem fx_i3 {b : Int32} (h0 : (0 : Int32) ≤ b) (h : b < 1000) : b + 1 ≤ 1000 := by grind
theorem fx_i4 {b : Int32} : b + 1 - 1 = b := by grind
theorem fx_i5 {b : Int32} (h0 : (0 : Int32) ≤ b) (h : b < 1000) : b < b + 1 := by grind
theorem le22 {x : Int32} (h : x ≤ 22) : ¬ x = 24 := fun e => by rw [e] at h; exact absurd h (by decide)
/-- what stays as it was in g: names, roles, steps' nodes, tops, the nodes that g has -/
def FXx (g : T_Mo) (h n c : Int32) (W : Nat → Int32) (N : Nat → Int64) (R S T : Nat → Int32) (t : Int32) : Prop := (g.1.2.1.2.1 = 0 ∨ g.1.2.1.2.1 = 1) ∧ h = g.1.2.1.2.1 ∧ (0 : Int32) ≤ g.1.2.1.2.2.1 ∧ g.1.2.1.2.2.1 ≤ n ∧ n ≤ 1000 ∧ c = g.2.1.1.2.2.1 ∧ R = g.2.1.2.1.2 ∧ S = g.2.1.2.2.2.1 ∧ T = g.2.1.1.1.2 ∧ t = g.2.1.1.2.1 ∧ ∀ p, p < g.1.2.1.2.2.1.toNatClampNeg → W (Bs h + p) = g.1.2.1.2.2.2 (Bs h + p) ∧ N (Bs h + p) = g.1.2.2.1.1 (Bs h + p)
def FX (g u : T_Mo) : Prop := FXx g u.1.2.1.2.1 u.1.2.1.2.2.1 u.2.1.1.2.2.1 u.1.2.1.2.2.2 u.1.2.2.1.1 u.2.1.2.1.2 u.2.1.2.2.2.1 u.2.1.1.1.2 u.2.1.1.2.1
def RXx (g : T_Mo) (r h n : Int32) (W : Nat → Int32) : Prop := r < 0 ∨ (¬ W (Bs h + r.toNatClampNeg) = 24 ∧ g.1.2.1.2.2.1 ≤ r ∧ r < n)
theorem FX_refl {g : T_Mo} (hh : g.1.2.1.2.1 = 0 ∨ g.1.2.1.2.1 = 1) (h0 : (0 : Int32) ≤ g.1.2.1.2.2.1) (h9 : g.1.2.1.2.2.1 ≤ 1000) : FX g g := ⟨hh, rfl, h0, Int32.le_refl _, h9, rfl, rfl, rfl, rfl, rfl, fun _ _ => ⟨rfl, rfl⟩⟩
theorem cv_node_L {x1 : Int32} {x2 : Int64} {x4 x5 x6 x7 : Int32} {K : T_Mo → Int32 → Int64 → Int32 → Int32 → Int32 → Int32 → Int32 → Prop} {post : Int32 → T_Mo → Prop} : ∀ (n : Nat) (z : T_Mo) (x8 : Int32), wp_Mo_node0_L89 K post n z x1 x2 x4 x5 x6 x7 x8 → ∃ ks km y8, K (((((z.1.1.1.1.1, z.1.1.1.1.2), (z.1.1.1.2.1, (z.1.1.1.2.2.1, z.1.1.1.2.2.2))), ((z.1.1.2.1.1, z.1.1.2.1.2), (z.1.1.2.2.1, (z.1.1.2.2.2.1, z.1.1.2.2.2.2)))), (((z.1.2.1.1.1, z.1.2.1.1.2), (z.1.2.1.2.1, (z.1.2.1.2.2.1, z.1.2.1.2.2.2))), ((z.1.2.2.1.1, (z.1.2.2.1.2.1, z.1.2.2.1.2.2)), (z.1.2.2.2.1, (z.1.2.2.2.2.1, ks))))), ((((km, z.2.1.1.1.2), (z.2.1.1.2.1, (z.2.1.1.2.2.1, z.2.1.1.2.2.2))), ((z.2.1.2.1.1, z.2.1.2.1.2), (z.2.1.2.2.1, (z.2.1.2.2.2.1, z.2.1.2.2.2.2)))), (((z.2.2.1.1.1, z.2.2.1.1.2), (z.2.2.1.2.1, (z.2.2.1.2.2.1, z.2.2.1.2.2.2))), ((z.2.2.2.1.1, (z.2.2.2.1.2.1, z.2.2.2.1.2.2)), (z.2.2.2.2.1, (z.2.2.2.2.2.1, z.2.2.2.2.2.2)))))) x1 x2 x4 x5 x6 x7 y8 := by
  intro n
  induction n with
  | zero => intro z x8 h; exact False.elim h
  | succ n ih =>
    intro z x8 h
    rw [wp_Mo_node0_L89] at h
    rcases br_el h with ⟨q, h⟩ | ⟨q, h⟩
    · exact ⟨z.1.2.2.2.2.2, z.2.1.1.1.1, _, h⟩
    · unfold wp_Mo_base at h
      obtain ⟨ks, km, y8, h⟩ := ih _ _ h.2.2
      exact ⟨ks, km, y8, h⟩
set_option maxHeartbeats 1000000 in
theorem fx_Mo_node0 {g z : T_Mo} {a1 : Int32} {a2 : Int64} {a4 a5 a6 : Int32} {post : Int32 → T_Mo → Prop} (e : FXx g z.1.2.1.2.1 z.1.2.1.2.2.1 z.2.1.1.2.2.1 z.1.2.1.2.2.2 z.1.2.2.1.1 z.2.1.2.1.2 z.2.1.2.2.2.1 z.2.1.1.1.2 z.2.1.1.2.1) (h : wp_Mo_node0 z a1 a2 a4 a5 a6 post) : ∃ (r : Int32) (u : T_Mo), post r u ∧ FXx g u.1.2.1.2.1 u.1.2.1.2.2.1 u.2.1.1.2.2.1 u.1.2.1.2.2.2 u.1.2.2.1.1 u.2.1.2.1.2 u.2.1.2.2.2.1 u.2.1.1.1.2 u.2.1.1.2.1 ∧ (r = -1 ∨ (r = z.1.2.1.2.2.1 ∧ u.1.2.1.2.2.1 = z.1.2.1.2.2.1 + 1 ∧ u.1.2.1.2.2.2 (Bs u.1.2.1.2.1 + r.toNatClampNeg) = a1 ∧ u.1.2.2.1.1 (Bs u.1.2.1.2.1 + r.toNatClampNeg) = a2 ∧ z.1.2.1.2.2.1 < 1000)) := by
  obtain ⟨hh, eh, g0, gn, n9, ec, eR, eS, eT, et, fr⟩ := e
  unfold wp_Mo_node0 at h
  rcases br_el h with ⟨q, h⟩ | ⟨q, h⟩
  · unfold wp_Mo_bad at h
    exact ⟨_, _, h, ⟨hh, eh, g0, gn, n9, ec, eR, eS, eT, et, fr⟩, Or.inl rfl⟩
  · unfold wp_Mo_base at h
    dsimp only at h
    have z0 : (0 : Int32) ≤ z.1.2.1.2.2.1 := Int32.le_trans g0 gn
    have n8 : z.1.2.1.2.2.1 < 1000 := fx_i2 n9 q
    have k9 : z.1.2.1.2.2.1.toNatClampNeg < 1000 := by
      rw [Int32.lt_iff_toInt_lt, show (1000 : Int32).toInt = 1000 from rfl] at n8
      show z.1.2.1.2.2.1.toInt.toNat < 1000
      omega
    have e2 := Bs_at (h := z.1.2.1.2.1) (by rw [eh]; exact hh) (on_ix z0).symm k9
    rw [e2] at h
    obtain ⟨k, h⟩ := h.2.2.2.2.2.2
    obtain ⟨ks, km, y8, h⟩ := cv_node_L k _ _ h
    dsimp only at h
    rw [fx_i4] at h
    have gi := ix_le gn
    refine ⟨_, _, h, ⟨hh, eh, g0, fx_i1 gn g0 n8, fx_i3 z0 n8, ec, eR, eS, eT, et, fun p hp => ?_⟩, Or.inr ⟨rfl, rfl, upd_at, updL_at, n8⟩⟩
    show upd z.1.2.1.2.2.2 (Bs z.1.2.1.2.1 + z.1.2.1.2.2.1.toNatClampNeg) a1 (Bs z.1.2.1.2.1 + p) = _ ∧ vp_updL z.1.2.2.1.1 (Bs z.1.2.1.2.1 + z.1.2.1.2.2.1.toNatClampNeg) a2 (Bs z.1.2.1.2.1 + p) = _
    rw [upd_ne (by omega), updL_ne (by omega)]
    exact fr p hp
theorem rx_of {g : T_Mo} {h n c t r uh un a : Int32} {W uW R S T : Nat → Int32} {N : Nat → Int64} {X : Prop} (e : FXx g h n c W N R S T t) (x : r = -1 ∨ (r = n ∧ un = n + 1 ∧ uW (Bs uh + r.toNatClampNeg) = a ∧ X ∧ n < 1000)) (k : ¬ a = 24) : RXx g r uh un uW := by
  rcases x with x | ⟨x1, x2, x3, -, x4⟩
  · exact Or.inl (by rw [x]; decide)
  · refine Or.inr ⟨by rw [x3]; exact k, ?_, ?_⟩
    · rw [x1]; exact e.2.2.2.1
    · rw [x1, x2]; exact fx_i5 (Int32.le_trans e.2.2.1 e.2.2.2.1) x4

