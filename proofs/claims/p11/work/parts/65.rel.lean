theorem jd_nn {k a b : Int32} (a0 : (0 : Int32) ≤ a) (b0 : (0 : Int32) ≤ b) (h : ¬ jd k a b = -1) : (0 : Int32) ≤ jd k a b := by
  unfold jd at h ⊢
  by_cases h1 : k = 4 ∧ a = 0
  · rw [if_pos h1]; exact b0
  · rw [if_neg h1] at h ⊢
    by_cases h2 : (k = 4 ∨ k = 5) ∧ b = 0
    · rw [if_pos h2]; exact a0
    · rw [if_neg h2] at h ⊢
      by_cases h3 : k = 4 ∨ ¬ a = b
      · rw [if_pos h3] at h; exact absurd rfl h
      · rw [if_neg h3]
        by_cases h4 : k = 5
        · rw [if_pos h4]; decide
        · rw [if_neg h4]; exact a0
theorem iv_join {g : T_Gr} {nd : T_Nd} {k p : Int32} {a b n : Nat} {PC : Int32 → T_Gr × T_Nd → Prop} {PT : T_Gr × T_Nd → Prop} (e : nd.2.2.2.2.2.2.2.2.2.2.1 = Int32.ofNat n) (an : a < n) (bn : b < n) (n9 : n ≤ 1000) (h : wp_Gr_join g nd k (Int32.ofNat a) (Int32.ofNat b) p PC PT) : (jd k (nd.2.2.2.1 a) (nd.2.2.2.1 b) = -1 ∧ PT (p, nd)) ∨ (¬ jd k (nd.2.2.2.1 a) (nd.2.2.2.1 b) = -1 ∧ wp_Nd_add nd k (nd.2.2.2.2.1 a) (nd.2.1 a) (0 : Int64) (jd k (nd.2.2.2.1 a) (nd.2.2.2.1 b)) (fun (r6 : Int32) (u6 : T_Nd) => PC r6 (g, u6))) := by
  unfold wp_Gr_join wp_Gr_refuse at h
  replace h := iv_joined (iv_measureOf (iv_measureOf h e an (by omega)) e bn (by omega))
  rcases br_el h with ⟨c, h⟩ | ⟨c, h⟩
  · exact Or.inl ⟨c, h⟩
  · exact Or.inr ⟨c, iv_rowOf (iv_lowOf h e an (by omega)) e an (by omega)⟩
theorem un4 {x y : Int32} {F Z : Prop} (T : Int32 → Prop) (h : ((4 : Int32) = (4 : Int32) → ((x = 0 → ((y = (-1 : Int32) → F) ∧ (¬ y = (-1 : Int32) → T y))) ∧ (¬ x = 0 → ((y = 0 → ((x = (-1 : Int32) → F) ∧ (¬ x = (-1 : Int32) → T x))) ∧ (¬ y = 0 → (((-1 : Int32) = (-1 : Int32) → F) ∧ (¬ (-1 : Int32) = (-1 : Int32) → T (-1)))))))) ∧ Z) : (jd 4 x y = -1 ∧ F) ∨ (¬ jd 4 x y = -1 ∧ T (jd 4 x y)) := by
  unfold jd
  replace h := h.1 rfl
  by_cases x0 : x = 0
  · rw [if_pos ⟨rfl, x0⟩]
    by_cases q : y = -1
    · exact Or.inl ⟨q, (h.1 x0).1 q⟩
    · exact Or.inr ⟨q, (h.1 x0).2 q⟩
  · rw [if_neg (fun q => x0 q.2)]
    by_cases y0 : y = 0
    · rw [if_pos ⟨Or.inl rfl, y0⟩]
      by_cases q : x = -1
      · exact Or.inl ⟨q, ((h.2 x0).1 y0).1 q⟩
      · exact Or.inr ⟨q, ((h.2 x0).1 y0).2 q⟩
    · rw [if_neg (fun q => y0 q.2), if_pos (Or.inl rfl)]
      exact Or.inl ⟨rfl, ((h.2 x0).2 y0).1 rfl⟩
theorem un5 {x y : Int32} {F Z : Prop} (T : Int32 → Prop) (h : Z ∧ (¬ (5 : Int32) = (4 : Int32) → ((y = 0 → ((x = (-1 : Int32) → F) ∧ (¬ x = (-1 : Int32) → T x))) ∧ (¬ y = 0 → ((x = y → (((0 : Int32) = (-1 : Int32) → F) ∧ (¬ (0 : Int32) = (-1 : Int32) → T 0))) ∧ (¬ x = y → (((-1 : Int32) = (-1 : Int32) → F) ∧ (¬ (-1 : Int32) = (-1 : Int32) → T (-1))))))))) : (jd 5 x y = -1 ∧ F) ∨ (¬ jd 5 x y = -1 ∧ T (jd 5 x y)) := by
  unfold jd
  replace h := h.2 (by decide)
  rw [if_neg (fun q => absurd q.1 (by decide))]
  by_cases y0 : y = 0
  · rw [if_pos ⟨Or.inr rfl, y0⟩]
    by_cases q : x = -1
    · exact Or.inl ⟨q, (h.1 y0).1 q⟩
    · exact Or.inr ⟨q, (h.1 y0).2 q⟩
  · rw [if_neg (fun q => y0 q.2)]
    replace h := h.2 y0
    by_cases q : x = y
    · rw [if_neg (fun z => z.elim (by decide) (fun z => z q)), if_pos rfl]
      exact Or.inr ⟨by decide, (h.1 q).2 (by decide)⟩
    · rw [if_pos (Or.inr q)]
      exact Or.inl ⟨rfl, (h.2 q).1 rfl⟩
theorem jd_sum {k x y : Int32} (k4 : ¬ k = 4) (k5 : ¬ k = 5) (x0 : (0 : Int32) ≤ x) : (jd k x y = -1 ↔ ¬ x = y) ∧ (x = y → jd k x y = x) := by
  unfold jd
  rw [if_neg (fun q => k4 q.1), if_neg (fun q => q.1.elim k4 k5)]
  by_cases q : x = y
  · rw [if_neg (fun z => z.elim k4 (fun z => z q)), if_neg k5]
    refine ⟨⟨fun z => ?_, fun z => absurd q z⟩, fun _ => rfl⟩
    rw [z] at x0; exact absurd x0 (by decide)
  · rw [if_pos (Or.inr q)]
    exact ⟨⟨fun _ => q, fun _ => rfl⟩, fun z => absurd z q⟩
theorem x_up {x a b : Int32} (x0 : (0 : Int32) ≤ x) (xa : x ≤ a) (ab : a < b) (b9 : b ≤ 4001) : (0 : Int32) ≤ x + 1 ∧ x + 1 ≤ b := by constructor <;> grind
theorem cur9 {tx : Nat → Int32} {sz : Int32} {pl ln : Nat → Int32} {w : T_Wd} {m : T_Mo} (r : RW tx sz pl ln w m) : w.2.2.2.2.2.2.2.1 ≤ 4001 ∧ (0 : Int32) ≤ w.2.2.2.2.2.2.2.1 := ⟨Int32.le_of_lt (Int32.lt_of_lt_of_le r.2.2.2.2.1 r.2.2.1), r.2.2.2.1⟩
theorem op_nd {c : Int32} (h : c = 42 ∨ c = 47 ∨ c = 43 ∨ c = 45 ∨ c = 60 ∨ c = 61 ∨ c = 62) : sg c ∧ ¬ dead c ∧ ¬ c = 0 := by
  have s : sg c := by unfold sg; rcases h with h | h | h | h | h | h | h <;> rw [h] <;> decide
  exact ⟨s, fun d => d.2.2 s, fun q => by rw [q] at h; exact absurd h (by decide)⟩
def KP45 (c k : Int32) : Prop := (c = 42 ∧ k = 4) ∨ (c = 47 ∧ k = 5) ∨ ((¬ c = 42 ∧ ¬ c = 47) ∧ k = -1)
theorem dm_prodL {rC : T_Gr → T_Nm → T_Nd → T_Wd → Int32 → (Int32 → T_Gr × T_Nm × T_Nd × T_Wd → Prop) → (T_Gr × T_Nm × T_Nd × T_Wd → Prop) → Prop} {n : Nat} {g : T_Gr} {nm : T_Nm} {nd : T_Nd} {w : T_Wd} {op x2 x3 x4 : Int32} {PC : Int32 → T_Gr × T_Nm × T_Nd × T_Wd → Prop} {PT : T_Gr × T_Nm × T_Nd × T_Wd → Prop} (d : DM nd w) (ko : KP45 w.2.2.2.2.2.2.2.2.2.2.1 x3) (h : wp_Gr_readProduct_L16 rC (fun (z : T_Gr) (nm : T_Nm) (nd : T_Nd) (w : T_Wd) (x1 : Int32) (x2 : Int32) (x3 : Int32) (x4 : Int32) => PC x2 (z, nm, nd, w)) PC PT n g nm nd w op x2 x3 x4) : (∃ u, PT u) ∨ (∃ r g' nm' nd' w', PC r (g', nm', nd', w') ∧ DM nd' w') := by
  cases n with
  | zero => exact False.elim h
  | succ n =>
  rw [wp_Gr_readProduct_L16] at h
  rcases br_el h with ⟨q, h⟩ | ⟨q, h⟩
  · exact Or.inr ⟨_, _, _, _, _, h, d⟩
  · rcases br_el h with ⟨q, h⟩ | ⟨q, h⟩
    · exact Or.inr ⟨_, _, _, _, _, h, d⟩
    · have nd_ : (1000 : Int32) < nd.2.2.2.2.2.2.2.2.2.2.1 := by
        rcases d with d | d
        · rcases ko with ⟨e, -⟩ | ⟨e, -⟩ | ⟨-, e⟩
          · rw [e] at d; exact absurd d (op_nd (by decide)).2.1
          · rw [e] at d; exact absurd d (op_nd (by decide)).2.1
          · exact absurd e q
        · exact d
      obtain ⟨u, h⟩ := dm_pass nd_ h
      exact Or.inl ⟨_, h⟩
set_option maxHeartbeats 4000000 in
theorem rl_prodL {tx : Nat → Int32} {sz : Int32} {pl ln : Nat → Int32} {rC : T_Gr → T_Nm → T_Nd → T_Wd → Int32 → (Int32 → T_Gr × T_Nm × T_Nd × T_Wd → Prop) → (T_Gr × T_Nm × T_Nd × T_Wd → Prop) → Prop} {rM : T_Mo → (Int32 → T_Mo → Prop) → Prop} (hdt : ∀ (v0 : T_Mo) (post : Int32 → T_Mo → Prop), rM v0 post → (∃ (w0 : Int32) (w1 : T_Mo), (∀ (post : Int32 → T_Mo → Prop), post w0 w1 → rM v0 post) ∧ (∀ (post : Int32 → T_Mo → Prop), rM v0 post → post w0 w1))) (re : RE tx sz pl ln 6 (rC) (rM)) (rd : RD (rC)) {nd0 : T_Nd} {w0 : T_Wd} {m0 : T_Mo} {n0 km0 hi tp c : Nat} {PC : Int32 → T_Gr × T_Nm × T_Nd × T_Wd → Prop} {PT : T_Gr × T_Nm × T_Nd × T_Wd → Prop} {PM : Int32 → T_Mo → Prop} (s0 : km0 + hi + tp ≤ n0) : ∀ (nC nM : Nat) (g : T_Gr) (nm : T_Nm) (nd : T_Nd) (w : T_Wd) (op x3 x4 : Int32) (m : T_Mo) (n1 km : Nat), wp_Gr_readProduct_L16 rC (fun (z : T_Gr) (nm : T_Nm) (nd : T_Nd) (w : T_Wd) (x1 : Int32) (x2 : Int32) (x3 : Int32) (x4 : Int32) => PC x2 (z, nm, nd, w)) PC PT nC g nm nd w op (Int32.ofNat n1) x3 x4 → wp_Mo_product_L5 rM (fun (z : T_Mo) (x1 : Int32) => wp_Mo_product_J166 rM PM z x1) PM nM m (Int32.ofNat n1) → RG tx sz pl ln nm nd w m (n1 + 1) km hi tp c → EE 6 nd0 nd m0 m w0 w n0 n1 km0 km hi → KP45 w.2.2.2.2.2.2.2.2.2.2.1 x3 → m.1.2.1.1.2 = op → (0 : Int32) ≤ op → op ≤ 60 → (0 : Int32) ≤ x4 → x4 ≤ w.2.2.2.2.2.2.2.1 → OE 6 tx sz pl ln PC PT PM nd0 w0 m0 n0 km0 hi tp c := by
  intro nC
  induction nC with
  | zero => intro nM g nm nd w op x3 x4 m n1 km h; exact False.elim h
  | succ nC ih =>
    intro nM g nm nd w op x3 x4 m n1 km hC hM rg ee ko eo o0 o9 x0 xc
    cases nM with
    | zero => exact False.elim hM
    | succ nM =>
    have rw1 := rg.1
    have n9 := NR_cnt rg.2.1
    have n99 : n1 + 1 ≤ 1000 := rg.2.1.2.2.2.1
    have hh := rg.2.1.1
    have o1 := on_n1 (k := n1) (by omega)
    rw [wp_Gr_readProduct_L16] at hC
    rw [wp_Mo_product_L5] at hM
    replace hM := hM.2 o1.2.1
    have t1 := RW_sg rw1 (x := 42) (op_nd (by decide)).1
    have t2 := RW_sg rw1 (x := 47) (op_nd (by decide)).1
    have stepk : ∀ k : Int32, k ≤ 6 → ¬ w.2.2.2.2.2.2.2.2.2.2.1 = 0 → wp_Gr_pass g nd w (fun (r3 : Unit) (u3 : T_Gr × T_Wd) => rC u3.1 nm nd u3.2 op (fun (r4 : Int32) (u4 : T_Gr × T_Nm × T_Nd × T_Wd) => wp_Gr_join u4.1 u4.2.2.1 k (Int32.ofNat n1) r4 w.2.2.2.2.2.2.2.2.2.2.2.1 (fun (r5 : Int32) (u5 : T_Gr × T_Nd) => wp_Gr_operator u5.1 u4.2.2.2 (4 : Int32) (5 : Int32) (fun (r6 : Int32) (u6 : Unit) => wp_Gr_readProduct_L16 rC (fun (z : T_Gr) (nm : T_Nm) (nd : T_Nd) (w : T_Wd) (x1 : Int32) (x2 : Int32) (x3 : Int32) (x4 : Int32) => PC x2 (z, nm, nd, w)) PC PT nC u5.1 u4.2.1 u5.2 u4.2.2.2 op r5 r6 (x4 + (1 : Int32)))) (fun (u : T_Gr × T_Nd) => PT (u.1, u4.2.1, u.2, u4.2.2.2))) (fun (u : T_Gr × T_Nm × T_Nd × T_Wd) => PT (u.1, u.2.1, u.2.2.1, u.2.2.2))) (fun (u : T_Gr × T_Wd) => PT (u.1, nm, nd, u.2)) → wp_Mo_go m (fun (r : Int32) (u : T_Mo) => (r = 0 → PM (-1) u) ∧ (¬ r = 0 → rM u (fun (r2 : Int32) (u2 : T_Mo) => (¬ (0 : Int32) ≤ r2 → PM (-1) u2) ∧ (∀ n2 : Nat, r2 = Int32.ofNat n2 → n2 < 1000 → (u2.1.2.1.2.1 = 0 ∨ u2.1.2.1.2.1 = 1) → (0 : Int32) ≤ u2.1.2.2.1.2.2 (Bs u2.1.2.1.2.1 + n1) → (jd k (u2.1.2.2.1.2.2 (Bs u2.1.2.1.2.1 + n1)) (u2.1.2.2.1.2.2 (Bs u2.1.2.1.2.1 + n2)) = -1 ∧ ∃ y, PM (-1) (((((u2.1.1.1.1.1, u2.1.1.1.1.2), (u2.1.1.1.2.1, (u2.1.1.1.2.2.1, u2.1.1.1.2.2.2))), ((u2.1.1.2.1.1, u2.1.1.2.1.2), (u2.1.1.2.2.1, (u2.1.1.2.2.2.1, u2.1.1.2.2.2.2)))), (((y, u2.1.2.1.1.2), (u2.1.2.1.2.1, (u2.1.2.1.2.2.1, u2.1.2.1.2.2.2))), ((u2.1.2.2.1.1, (u2.1.2.2.1.2.1, u2.1.2.2.1.2.2)), (u2.1.2.2.2.1, (u2.1.2.2.2.2.1, u2.1.2.2.2.2.2))))), ((((u2.2.1.1.1.1, u2.2.1.1.1.2), (u2.2.1.1.2.1, (u2.2.1.1.2.2.1, u2.2.1.1.2.2.2))), ((u2.2.1.2.1.1, u2.2.1.2.1.2), (u2.2.1.2.2.1, (u2.2.1.2.2.2.1, u2.2.1.2.2.2.2)))), (((u2.2.2.1.1.1, u2.2.2.1.1.2), (u2.2.2.1.2.1, (u2.2.2.1.2.2.1, u2.2.2.1.2.2.2))), ((u2.2.2.2.1.1, (u2.2.2.2.1.2.1, u2.2.2.2.1.2.2)), (u2.2.2.2.2.1, (u2.2.2.2.2.2.1, u2.2.2.2.2.2.2))))))) ∨ (¬ jd k (u2.1.2.2.1.2.2 (Bs u2.1.2.1.2.1 + n1)) (u2.1.2.2.1.2.2 (Bs u2.1.2.1.2.1 + n2)) = -1 ∧ wp_Mo_two u2 k (Int32.ofNat n1) (Int32.ofNat n2) (jd k (u2.1.2.2.1.2.2 (Bs u2.1.2.1.2.1 + n1)) (u2.1.2.2.1.2.2 (Bs u2.1.2.1.2.1 + n2))) (fun (r3 : Int32) (u3 : T_Mo) => wp_Mo_product_L5 rM (fun (z : T_Mo) (x1 : Int32) => wp_Mo_product_J166 rM PM z x1) PM nM u3 r3)))))) → OE 6 tx sz pl ln PC PT PM nd0 w0 m0 n0 km0 hi tp c := by
      intro k k6 nz hC hM
      obtain ⟨ee1, ee2, ee3, ee4, ee5, ee6, ee7, ee8, ee9⟩ := ee
      rcases rl_pass rw1 nz n9 hC hM with ⟨w1, m1, hC, hM, rw2, fr, cw⟩ | ⟨u, m1, hC, hM, fr⟩ | ⟨w1, m1, hC, hM, dd, fr⟩
      · have rg1 := RG_Fr rg rw2 fr
        have fo1 := FO_trans ee8 (FO_Fr fr)
        have cw1 := cur_up rw1 cw
        rcases re _ _ _ _ _ _ _ _ _ _ _ _ _ _ rg1 ((FP_Fr (hi := 0) fr).2.1.trans eo) o0 o9 hC (hM.2 (by decide)) with ⟨g2, nm2, nd2, w2, m2, n2, km2, hC, hM, rg2, e2⟩ | ⟨u, r', m2, hC, hM, rn, fo2⟩ | ⟨r, g2, nm2, nd2, w2, r', m2, hC, d2, hM, rn, fo2⟩
        · obtain ⟨f1, f2, f3, f4, f5, f6, f7, f8, f9⟩ := e2
          have hh2 := rg2.2.1.1
          have n92 : n2 + 1 ≤ 1000 := rg2.2.1.2.2.2.1
          have a1 := f6 n1 (by omega)
          have ua := NR_unit rg2.2.1 (i := n1) (by omega) (by rw [a1.2.1]; exact ee4)
          have ub := NR_unit rg2.2.1 (i := n2) (by omega) f4
          have c2 := cur9 rg2.1
          have la : nd2.2.2.2.2.1 n1 = Int32.ofNat n0 := a1.1.trans ee3
          dsimp only at hC
          have fpo : m2.1.2.1.1.2 = op := f7.2.1.trans ((FP_Fr (hi := 0) fr).2.1.trans eo)
          have fpA : FP m0 m2 hi := FP_trans ee7 (FP_trans (FP_Fr fr) f7)
          have foA : FO m0 m2 := FO_trans fo1 f8
          have cwA : w0.2.2.2.2.2.2.2.1 < w2.2.2.2.2.2.2.2.1 := Int32.lt_trans ee9 (Int32.lt_trans cw1 f9)
          have ma0 : (0 : Int32) ≤ nd2.2.2.2.1 n1 := by rw [a1.2.2]; exact ee5
          replace hM := hM.2 n2 rfl (by omega) hh2 (by rw [ua]; exact ma0)
          rw [ua, ub] at hM
          rcases iv_join (n := n2 + 1) rg2.2.1.2.1 (by omega) (by omega) n92 hC with ⟨q, hC⟩ | ⟨q, hC⟩
          · rcases hM with ⟨-, y, hM⟩ | ⟨q2, -⟩
            · exact Or.inr (Or.inl ⟨_, -1, _, hC, hM, by decide, foA⟩)
            · exact absurd q q2
          · rcases hM with ⟨q2, -⟩ | ⟨-, hM⟩
            · exact absurd q2 q
            · rcases rl_two rg2 (by omega) la (by omega) f3 (by omega) hC hM (fun _ => rfl) with ⟨b9, nd3, m3, hC, hM, rg3, ad, fp3, eh3, fo3⟩ | ⟨r, nd3, m3, hC, hM, cn, fo3⟩
              · dsimp only at hC
                have an := AD_new ad
                have ao := AD_old ad
                have ee' : EE 6 nd0 nd3 m0 m3 w0 w2 n0 (n2 + 1) km0 (km2 + 2) hi := ⟨by omega, by omega, an.1, by rw [an.2.1]; exact k6, by rw [an.2.2.1]; exact jd_nn ma0 f5 q, fun j hj => ⟨(ao j (by omega)).1.trans ((f6 j (by omega)).1.trans (ee6 j hj).1), (ao j (by omega)).2.1.trans ((f6 j (by omega)).2.1.trans (ee6 j hj).2.1), (ao j (by omega)).2.2.trans ((f6 j (by omega)).2.2.trans (ee6 j hj).2.2)⟩, FP_trans fpA fp3, FO_trans foA fo3, cwA⟩
                have xs := x_up x0 xc (Int32.lt_trans cw1 f9) c2.1
                have eo3 : m3.1.2.1.1.2 = op := fp3.2.1.trans fpo
                rcases iv_op45 hC with ⟨e, hC⟩ | ⟨e, hC⟩ | ⟨e, hC⟩
                · exact ih _ _ _ _ _ _ _ _ _ _ _ hC hM rg3 ee' (Or.inl ⟨e, rfl⟩) eo3 o0 o9 xs.1 xs.2
                · exact ih _ _ _ _ _ _ _ _ _ _ _ hC hM rg3 ee' (Or.inr (Or.inl ⟨e, rfl⟩)) eo3 o0 o9 xs.1 xs.2
                · exact ih _ _ _ _ _ _ _ _ _ _ _ hC hM rg3 ee' (Or.inr (Or.inr ⟨e, rfl⟩)) eo3 o0 o9 xs.1 xs.2
              · dsimp only at hC
                cases nM with
                | zero => exact False.elim hM
                | succ nM =>
                rw [wp_Mo_product_L5] at hM
                replace hM := hM.1 (by decide)
                unfold wp_Mo_product_J166 at hM
                have fo9 := FO_trans foA fo3
                have dmL : ∀ x, KP45 w2.2.2.2.2.2.2.2.2.2.2.1 x → wp_Gr_readProduct_L16 rC (fun (z : T_Gr) (nm : T_Nm) (nd : T_Nd) (w : T_Wd) (x1 : Int32) (x2 : Int32) (x3 : Int32) (x4 : Int32) => PC x2 (z, nm, nd, w)) PC PT nC g2 nm2 nd3 w2 op r x (x4 + (1 : Int32)) → OE 6 tx sz pl ln PC PT PM nd0 w0 m0 n0 km0 hi tp c := by
                  intro x kx hC
                  rcases dm_prodL (Or.inr cn) kx hC with ⟨u, hC⟩ | ⟨r9, g9, nm9, nd9, w9, hC, d9⟩
                  · exact Or.inr (Or.inl ⟨u, -1, _, hC, hM, by decide, fo9⟩)
                  · exact Or.inr (Or.inr ⟨r9, g9, nm9, nd9, w9, -1, _, hC, d9, hM, by decide, fo9⟩)
                rcases iv_op45 hC with ⟨e, hC⟩ | ⟨e, hC⟩ | ⟨e, hC⟩
                · exact dmL _ (Or.inl ⟨e, rfl⟩) hC
                · exact dmL _ (Or.inr (Or.inl ⟨e, rfl⟩)) hC
                · exact dmL _ (Or.inr (Or.inr ⟨e, rfl⟩)) hC
        · exact Or.inr (Or.inl ⟨_, -1, m2, hC, hM.1 (Int32.not_le.mpr rn), by decide, FO_trans fo1 fo2⟩)
        · replace hM := hM.1 (Int32.not_le.mpr rn)
          have fo9 := FO_trans fo1 fo2
          dsimp only at hC
          rcases dm_join hC with ⟨u, hC⟩ | ⟨r5, nd3, hC, cn⟩
          · exact Or.inr (Or.inl ⟨_, -1, m2, hC, hM, by decide, fo9⟩)
          · dsimp only at hC
            have d3 : DM nd3 w2 := d2.elim Or.inl (fun q => Or.inr (cn q))
            have dmL : ∀ x, KP45 w2.2.2.2.2.2.2.2.2.2.2.1 x → wp_Gr_readProduct_L16 rC (fun (z : T_Gr) (nm : T_Nm) (nd : T_Nd) (w : T_Wd) (x1 : Int32) (x2 : Int32) (x3 : Int32) (x4 : Int32) => PC x2 (z, nm, nd, w)) PC PT nC g2 nm2 nd3 w2 op r5 x (x4 + (1 : Int32)) → OE 6 tx sz pl ln PC PT PM nd0 w0 m0 n0 km0 hi tp c := by
              intro x kx hC
              rcases dm_prodL d3 kx hC with ⟨u, hC⟩ | ⟨r9, g9, nm9, nd9, w9, hC, d9⟩
              · exact Or.inr (Or.inl ⟨u, -1, _, hC, hM, by decide, fo9⟩)
              · exact Or.inr (Or.inr ⟨r9, g9, nm9, nd9, w9, -1, _, hC, d9, hM, by decide, fo9⟩)
            rcases iv_op45 hC with ⟨e, hC⟩ | ⟨e, hC⟩ | ⟨e, hC⟩
            · exact dmL _ (Or.inl ⟨e, rfl⟩) hC
            · exact dmL _ (Or.inr (Or.inl ⟨e, rfl⟩)) hC
            · exact dmL _ (Or.inr (Or.inr ⟨e, rfl⟩)) hC
      · exact Or.inr (Or.inl ⟨_, -1, m1, hC, hM.1 rfl, by decide, FO_trans ee8 (FO_Fr fr)⟩)
      · obtain ⟨u, hC⟩ := rd _ _ _ _ _ _ _ (Or.inl dd) hC
        exact Or.inr (Or.inl ⟨_, -1, m1, hC, hM.1 rfl, by decide, FO_trans ee8 (FO_Fr fr)⟩)
    rcases ko with ⟨e, ek⟩ | ⟨e, ek⟩ | ⟨e, ek⟩
    · have nz := (op_nd (c := w.2.2.2.2.2.2.2.2.2.2.1) (by rw [e]; decide)).2.2
      have nx : ¬ (4000 : Int32) ≤ x4 := fun q => absurd (Int32.le_trans q xc) (Int32.not_le.mpr (op_next rw1 nz))
      have tk : m.1.1.1.2.2.2 = 42 := t1.mp e
      replace hC := (hC.2 nx).2 (by rw [ek]; decide)
      rw [ek] at hC
      have hM0 := (hM.1 tk).1 tk
      refine stepk 4 (by decide) nz hC ?_
      obtain ⟨r, u, qa, qb⟩ := dt_Mo_go hM0
      have hM := qb _ hM0
      refine qa _ ⟨fun q => (hM.1 q).2 (by decide), fun q => ?_⟩
      have hM := hM.2 q
      obtain ⟨r2, u2, qa2, qb2⟩ := hdt _ _ hM
      have hM := qb2 _ hM
      refine qa2 _ ⟨fun q => hM.2 q, fun n2 e2 n29 h2 ma => ?_⟩
      subst e2
      have hM := iv_unitIn (iv_unitIn (hM.1 (on_n1 (by omega)).2.2) h2 (by omega)) h2 n29
      rcases un4 (fun y => wp_Mo_two u2 (4 : Int32) (Int32.ofNat n1) (Int32.ofNat n2) y (fun (r3 : Int32) (u3 : T_Mo) => wp_Mo_product_L5 rM (fun (z : T_Mo) (x1 : Int32) => wp_Mo_product_J166 rM PM z x1) PM nM u3 r3)) hM with ⟨q, hM⟩ | ⟨q, hM⟩
      · exact Or.inl ⟨q, _, hM⟩
      · exact Or.inr ⟨q, hM⟩
    · have nz := (op_nd (c := w.2.2.2.2.2.2.2.2.2.2.1) (by rw [e]; decide)).2.2
      have nx : ¬ (4000 : Int32) ≤ x4 := fun q => absurd (Int32.le_trans q xc) (Int32.not_le.mpr (op_next rw1 nz))
      have tk : m.1.1.1.2.2.2 = 47 := t2.mp e
      have tn : ¬ m.1.1.1.2.2.2 = 42 := by rw [tk]; decide
      replace hC := (hC.2 nx).2 (by rw [ek]; decide)
      rw [ek] at hC
      have hM0 := ((hM.2 tn).1 tk).2 tn
      refine stepk 5 (by decide) nz hC ?_
      obtain ⟨r, u, qa, qb⟩ := dt_Mo_go hM0
      have hM := qb _ hM0
      refine qa _ ⟨fun q => (hM.1 q).2 (by decide), fun q => ?_⟩
      have hM := hM.2 q
      obtain ⟨r2, u2, qa2, qb2⟩ := hdt _ _ hM
      have hM := qb2 _ hM
      refine qa2 _ ⟨fun q => hM.2 q, fun n2 e2 n29 h2 ma => ?_⟩
      subst e2
      have hM := iv_unitIn (iv_unitIn (hM.1 (on_n1 (by omega)).2.2) h2 (by omega)) h2 n29
      rcases un5 (fun y => wp_Mo_two u2 (5 : Int32) (Int32.ofNat n1) (Int32.ofNat n2) y (fun (r3 : Int32) (u3 : T_Mo) => wp_Mo_product_L5 rM (fun (z : T_Mo) (x1 : Int32) => wp_Mo_product_J166 rM PM z x1) PM nM u3 r3)) hM with ⟨q, hM⟩ | ⟨q, hM⟩
      · exact Or.inl ⟨q, _, hM⟩
      · exact Or.inr ⟨q, hM⟩
    · have hC2 : PC (Int32.ofNat n1) (g, nm, nd, w) := by
        by_cases q : (4000 : Int32) ≤ x4
        · exact hC.1 q
        · exact (hC.2 q).1 ek
      replace hM := (hM.2 (fun q => e.1 (t1.mpr q))).2 (fun q => e.2 (t2.mpr q))
      unfold wp_Mo_product_J166 at hM
      exact Or.inl ⟨g, nm, nd, w, m, n1, km, hC2, hM, rg, ee⟩
set_option maxHeartbeats 1000000 in
theorem rl_prod {tx : Nat → Int32} {sz : Int32} {pl ln : Nat → Int32} {rC : T_Gr → T_Nm → T_Nd → T_Wd → Int32 → (Int32 → T_Gr × T_Nm × T_Nd × T_Wd → Prop) → (T_Gr × T_Nm × T_Nd × T_Wd → Prop) → Prop} {rM : T_Mo → (Int32 → T_Mo → Prop) → Prop} (hdt : ∀ (v0 : T_Mo) (post : Int32 → T_Mo → Prop), rM v0 post → (∃ (w0 : Int32) (w1 : T_Mo), (∀ (post : Int32 → T_Mo → Prop), post w0 w1 → rM v0 post) ∧ (∀ (post : Int32 → T_Mo → Prop), rM v0 post → post w0 w1))) (re : RE tx sz pl ln 6 (rC) (rM)) (rd : RD (rC)) : RE tx sz pl ln 6 (wp_Gr_readProduct rC) (wp_Mo_product rM) := by
  intro g nm nd w op m PC PT PM n km hi tp c rg eo o0 o9 hC hM
  unfold wp_Gr_readProduct at hC
  unfold wp_Mo_product at hM
  have s0 := rg.2.2.2.2.2.2
  rcases re _ _ _ _ _ _ _ _ _ _ _ _ _ _ rg eo o0 o9 hC hM with ⟨g2, nm2, nd2, w2, m2, n2, km2, hC, hM, rg2, e2⟩ | ⟨u, r', m2, hC, hM, rn, fo2⟩ | ⟨r, g2, nm2, nd2, w2, r', m2, hC, d2, hM, rn, fo2⟩
  · obtain ⟨nM, hM⟩ := hM
    have eo2 : m2.1.2.1.1.2 = op := e2.2.2.2.2.2.2.1.2.1.trans eo
    have c0 := (cur9 rg2.1).2
    rcases iv_op45 hC with ⟨e, nC, hC⟩ | ⟨e, nC, hC⟩ | ⟨e, nC, hC⟩
    · exact rl_prodL hdt re rd s0 nC nM _ _ _ _ _ _ _ _ _ _ hC hM rg2 e2 (Or.inl ⟨e, rfl⟩) eo2 o0 o9 (by decide) c0
    · exact rl_prodL hdt re rd s0 nC nM _ _ _ _ _ _ _ _ _ _ hC hM rg2 e2 (Or.inr (Or.inl ⟨e, rfl⟩)) eo2 o0 o9 (by decide) c0
    · exact rl_prodL hdt re rd s0 nC nM _ _ _ _ _ _ _ _ _ _ hC hM rg2 e2 (Or.inr (Or.inr ⟨e, rfl⟩)) eo2 o0 o9 (by decide) c0
  · obtain ⟨nM, hM⟩ := hM
    cases nM with
    | zero => exact False.elim hM
    | succ nM =>
    rw [wp_Mo_product_L5] at hM
    replace hM := hM.1 rn
    unfold wp_Mo_product_J166 at hM
    exact Or.inr (Or.inl ⟨_, r', m2, hC, hM, rn, fo2⟩)
  · obtain ⟨nM, hM⟩ := hM
    cases nM with
    | zero => exact False.elim hM
    | succ nM =>
    rw [wp_Mo_product_L5] at hM
    replace hM := hM.1 rn
    unfold wp_Mo_product_J166 at hM
    have dmL : ∀ x nC, KP45 w2.2.2.2.2.2.2.2.2.2.2.1 x → wp_Gr_readProduct_L16 rC (fun (z : T_Gr) (nm : T_Nm) (nd : T_Nd) (w : T_Wd) (x1 : Int32) (x2 : Int32) (x3 : Int32) (x4 : Int32) => PC x2 (z, nm, nd, w)) PC PT nC g2 nm2 nd2 w2 op r x 0 → OE 6 tx sz pl ln PC PT PM nd w m n km hi tp c := by
      intro x nC kx hC
      rcases dm_prodL d2 kx hC with ⟨u, hC⟩ | ⟨r9, g9, nm9, nd9, w9, hC, d9⟩
      · exact Or.inr (Or.inl ⟨u, r', _, hC, hM, rn, fo2⟩)
      · exact Or.inr (Or.inr ⟨r9, g9, nm9, nd9, w9, r', _, hC, d9, hM, rn, fo2⟩)
    rcases iv_op45 hC with ⟨e, nC, hC⟩ | ⟨e, nC, hC⟩ | ⟨e, nC, hC⟩
    · exact dmL _ nC (Or.inl ⟨e, rfl⟩) hC
    · exact dmL _ nC (Or.inr (Or.inl ⟨e, rfl⟩)) hC
    · exact dmL _ nC (Or.inr (Or.inr ⟨e, rfl⟩)) hC
theorem rd_prod {rC : T_Gr → T_Nm → T_Nd → T_Wd → Int32 → (Int32 → T_Gr × T_Nm × T_Nd × T_Wd → Prop) → (T_Gr × T_Nm × T_Nd × T_Wd → Prop) → Prop} (rd : RD (rC)) : RD (wp_Gr_readProduct rC) := by
  intro g nm nd w op PC PT d h
  unfold wp_Gr_readProduct at h
  obtain ⟨u, h⟩ := rd _ _ _ _ _ _ _ d h
  exact ⟨_, h⟩
def KP23 (c k : Int32) : Prop := (c = 43 ∧ k = 2) ∨ (c = 45 ∧ k = 3) ∨ ((¬ c = 43 ∧ ¬ c = 45) ∧ k = -1)
theorem dm_sumL {rC : T_Gr → T_Nm → T_Nd → T_Wd → Int32 → (Int32 → T_Gr × T_Nm × T_Nd × T_Wd → Prop) → (T_Gr × T_Nm × T_Nd × T_Wd → Prop) → Prop} {n : Nat} {g : T_Gr} {nm : T_Nm} {nd : T_Nd} {w : T_Wd} {op x2 x3 x4 : Int32} {PC : Int32 → T_Gr × T_Nm × T_Nd × T_Wd → Prop} {PT : T_Gr × T_Nm × T_Nd × T_Wd → Prop} (d : DM nd w) (ko : KP23 w.2.2.2.2.2.2.2.2.2.2.1 x3) (h : wp_Gr_readSum_L16 rC (fun (z : T_Gr) (nm : T_Nm) (nd : T_Nd) (w : T_Wd) (x1 : Int32) (x2 : Int32) (x3 : Int32) (x4 : Int32) => PC x2 (z, nm, nd, w)) PC PT n g nm nd w op x2 x3 x4) : (∃ u, PT u) ∨ (∃ r g' nm' nd' w', PC r (g', nm', nd', w') ∧ DM nd' w') := by
  cases n with
  | zero => exact False.elim h
  | succ n =>
  rw [wp_Gr_readSum_L16] at h
  rcases br_el h with ⟨q, h⟩ | ⟨q, h⟩
  · exact Or.inr ⟨_, _, _, _, _, h, d⟩
  · rcases br_el h with ⟨q, h⟩ | ⟨q, h⟩
    · exact Or.inr ⟨_, _, _, _, _, h, d⟩
    · have nd_ : (1000 : Int32) < nd.2.2.2.2.2.2.2.2.2.2.1 := by
        rcases d with d | d
        · rcases ko with ⟨e, -⟩ | ⟨e, -⟩ | ⟨-, e⟩
          · rw [e] at d; exact absurd d (op_nd (by decide)).2.1
          · rw [e] at d; exact absurd d (op_nd (by decide)).2.1
          · exact absurd e q
        · exact d
      obtain ⟨u, h⟩ := dm_pass nd_ h
      exact Or.inl ⟨_, h⟩
set_option maxHeartbeats 4000000 in
theorem rl_sumL {tx : Nat → Int32} {sz : Int32} {pl ln : Nat → Int32} {rC : T_Gr → T_Nm → T_Nd → T_Wd → Int32 → (Int32 → T_Gr × T_Nm × T_Nd × T_Wd → Prop) → (T_Gr × T_Nm × T_Nd × T_Wd → Prop) → Prop} {rM : T_Mo → (Int32 → T_Mo → Prop) → Prop} (hdt : ∀ (v0 : T_Mo) (post : Int32 → T_Mo → Prop), rM v0 post → (∃ (w0 : Int32) (w1 : T_Mo), (∀ (post : Int32 → T_Mo → Prop), post w0 w1 → rM v0 post) ∧ (∀ (post : Int32 → T_Mo → Prop), rM v0 post → post w0 w1))) (re : RE tx sz pl ln 6 (wp_Gr_readProduct rC) (wp_Mo_product rM)) (rd : RD (wp_Gr_readProduct rC)) {nd0 : T_Nd} {w0 : T_Wd} {m0 : T_Mo} {n0 km0 hi tp c : Nat} {PC : Int32 → T_Gr × T_Nm × T_Nd × T_Wd → Prop} {PT : T_Gr × T_Nm × T_Nd × T_Wd → Prop} {PM : Int32 → T_Mo → Prop} (s0 : km0 + hi + tp ≤ n0) : ∀ (nC nM : Nat) (g : T_Gr) (nm : T_Nm) (nd : T_Nd) (w : T_Wd) (op x3 x4 : Int32) (m : T_Mo) (n1 km : Nat), wp_Gr_readSum_L16 rC (fun (z : T_Gr) (nm : T_Nm) (nd : T_Nd) (w : T_Wd) (x1 : Int32) (x2 : Int32) (x3 : Int32) (x4 : Int32) => PC x2 (z, nm, nd, w)) PC PT nC g nm nd w op (Int32.ofNat n1) x3 x4 → wp_Mo_sum_L5 rM (fun (z : T_Mo) (x1 : Int32) => wp_Mo_sum_J109 rM PM z x1) PM nM m (Int32.ofNat n1) → RG tx sz pl ln nm nd w m (n1 + 1) km hi tp c → EE 6 nd0 nd m0 m w0 w n0 n1 km0 km hi → KP23 w.2.2.2.2.2.2.2.2.2.2.1 x3 → m.1.2.1.1.2 = op → (0 : Int32) ≤ op → op ≤ 60 → (0 : Int32) ≤ x4 → x4 ≤ w.2.2.2.2.2.2.2.1 → OE 6 tx sz pl ln PC PT PM nd0 w0 m0 n0 km0 hi tp c := by
  intro nC
  induction nC with
  | zero => intro nM g nm nd w op x3 x4 m n1 km h; exact False.elim h
  | succ nC ih =>
    intro nM g nm nd w op x3 x4 m n1 km hC hM rg ee ko eo o0 o9 x0 xc
    cases nM with
    | zero => exact False.elim hM
    | succ nM =>
    have rw1 := rg.1
    have n9 := NR_cnt rg.2.1
    have n99 : n1 + 1 ≤ 1000 := rg.2.1.2.2.2.1
    have hh := rg.2.1.1
    have o1 := on_n1 (k := n1) (by omega)
    rw [wp_Gr_readSum_L16] at hC
    rw [wp_Mo_sum_L5] at hM
    replace hM := hM.2 o1.2.1
    have t1 := RW_sg rw1 (x := 43) (op_nd (by decide)).1
    have t2 := RW_sg rw1 (x := 45) (op_nd (by decide)).1
    have stepk : ∀ k : Int32, k ≤ 6 → ¬ w.2.2.2.2.2.2.2.2.2.2.1 = 0 → wp_Gr_pass g nd w (fun (r3 : Unit) (u3 : T_Gr × T_Wd) => wp_Gr_readProduct rC u3.1 nm nd u3.2 op (fun (r4 : Int32) (u4 : T_Gr × T_Nm × T_Nd × T_Wd) => wp_Gr_join u4.1 u4.2.2.1 k (Int32.ofNat n1) r4 w.2.2.2.2.2.2.2.2.2.2.2.1 (fun (r5 : Int32) (u5 : T_Gr × T_Nd) => wp_Gr_operator u5.1 u4.2.2.2 (2 : Int32) (3 : Int32) (fun (r6 : Int32) (u6 : Unit) => wp_Gr_readSum_L16 rC (fun (z : T_Gr) (nm : T_Nm) (nd : T_Nd) (w : T_Wd) (x1 : Int32) (x2 : Int32) (x3 : Int32) (x4 : Int32) => PC x2 (z, nm, nd, w)) PC PT nC u5.1 u4.2.1 u5.2 u4.2.2.2 op r5 r6 (x4 + (1 : Int32)))) (fun (u : T_Gr × T_Nd) => PT (u.1, u4.2.1, u.2, u4.2.2.2))) (fun (u : T_Gr × T_Nm × T_Nd × T_Wd) => PT (u.1, u.2.1, u.2.2.1, u.2.2.2))) (fun (u : T_Gr × T_Wd) => PT (u.1, nm, nd, u.2)) → wp_Mo_go m (fun (r : Int32) (u : T_Mo) => (r = 0 → PM (-1) u) ∧ (¬ r = 0 → wp_Mo_product rM u (fun (r2 : Int32) (u2 : T_Mo) => (¬ (0 : Int32) ≤ r2 → PM (-1) u2) ∧ (∀ n2 : Nat, r2 = Int32.ofNat n2 → n2 < 1000 → (u2.1.2.1.2.1 = 0 ∨ u2.1.2.1.2.1 = 1) → (0 : Int32) ≤ u2.1.2.2.1.2.2 (Bs u2.1.2.1.2.1 + n1) → (jd k (u2.1.2.2.1.2.2 (Bs u2.1.2.1.2.1 + n1)) (u2.1.2.2.1.2.2 (Bs u2.1.2.1.2.1 + n2)) = -1 ∧ ∃ y, PM (-1) (((((u2.1.1.1.1.1, u2.1.1.1.1.2), (u2.1.1.1.2.1, (u2.1.1.1.2.2.1, u2.1.1.1.2.2.2))), ((u2.1.1.2.1.1, u2.1.1.2.1.2), (u2.1.1.2.2.1, (u2.1.1.2.2.2.1, u2.1.1.2.2.2.2)))), (((y, u2.1.2.1.1.2), (u2.1.2.1.2.1, (u2.1.2.1.2.2.1, u2.1.2.1.2.2.2))), ((u2.1.2.2.1.1, (u2.1.2.2.1.2.1, u2.1.2.2.1.2.2)), (u2.1.2.2.2.1, (u2.1.2.2.2.2.1, u2.1.2.2.2.2.2))))), ((((u2.2.1.1.1.1, u2.2.1.1.1.2), (u2.2.1.1.2.1, (u2.2.1.1.2.2.1, u2.2.1.1.2.2.2))), ((u2.2.1.2.1.1, u2.2.1.2.1.2), (u2.2.1.2.2.1, (u2.2.1.2.2.2.1, u2.2.1.2.2.2.2)))), (((u2.2.2.1.1.1, u2.2.2.1.1.2), (u2.2.2.1.2.1, (u2.2.2.1.2.2.1, u2.2.2.1.2.2.2))), ((u2.2.2.2.1.1, (u2.2.2.2.1.2.1, u2.2.2.2.1.2.2)), (u2.2.2.2.2.1, (u2.2.2.2.2.2.1, u2.2.2.2.2.2.2))))))) ∨ (¬ jd k (u2.1.2.2.1.2.2 (Bs u2.1.2.1.2.1 + n1)) (u2.1.2.2.1.2.2 (Bs u2.1.2.1.2.1 + n2)) = -1 ∧ wp_Mo_two u2 k (Int32.ofNat n1) (Int32.ofNat n2) (jd k (u2.1.2.2.1.2.2 (Bs u2.1.2.1.2.1 + n1)) (u2.1.2.2.1.2.2 (Bs u2.1.2.1.2.1 + n2))) (fun (r3 : Int32) (u3 : T_Mo) => wp_Mo_sum_L5 rM (fun (z : T_Mo) (x1 : Int32) => wp_Mo_sum_J109 rM PM z x1) PM nM u3 r3)))))) → OE 6 tx sz pl ln PC PT PM nd0 w0 m0 n0 km0 hi tp c := by
      intro k k6 nz hC hM
      obtain ⟨ee1, ee2, ee3, ee4, ee5, ee6, ee7, ee8, ee9⟩ := ee
      rcases rl_pass rw1 nz n9 hC hM with ⟨w1, m1, hC, hM, rw2, fr, cw⟩ | ⟨u, m1, hC, hM, fr⟩ | ⟨w1, m1, hC, hM, dd, fr⟩
      · have rg1 := RG_Fr rg rw2 fr
        have fo1 := FO_trans ee8 (FO_Fr fr)
        have cw1 := cur_up rw1 cw
        rcases re _ _ _ _ _ _ _ _ _ _ _ _ _ _ rg1 ((FP_Fr (hi := 0) fr).2.1.trans eo) o0 o9 hC (hM.2 (by decide)) with ⟨g2, nm2, nd2, w2, m2, n2, km2, hC, hM, rg2, e2⟩ | ⟨u, r', m2, hC, hM, rn, fo2⟩ | ⟨r, g2, nm2, nd2, w2, r', m2, hC, d2, hM, rn, fo2⟩
        · obtain ⟨f1, f2, f3, f4, f5, f6, f7, f8, f9⟩ := e2
          have hh2 := rg2.2.1.1
          have n92 : n2 + 1 ≤ 1000 := rg2.2.1.2.2.2.1
          have a1 := f6 n1 (by omega)
          have ua := NR_unit rg2.2.1 (i := n1) (by omega) (by rw [a1.2.1]; exact ee4)
          have ub := NR_unit rg2.2.1 (i := n2) (by omega) f4
          have c2 := cur9 rg2.1
          have la : nd2.2.2.2.2.1 n1 = Int32.ofNat n0 := a1.1.trans ee3
          dsimp only at hC
          have fpo : m2.1.2.1.1.2 = op := f7.2.1.trans ((FP_Fr (hi := 0) fr).2.1.trans eo)
          have fpA : FP m0 m2 hi := FP_trans ee7 (FP_trans (FP_Fr fr) f7)
          have foA : FO m0 m2 := FO_trans fo1 f8
          have cwA : w0.2.2.2.2.2.2.2.1 < w2.2.2.2.2.2.2.2.1 := Int32.lt_trans ee9 (Int32.lt_trans cw1 f9)
          have ma0 : (0 : Int32) ≤ nd2.2.2.2.1 n1 := by rw [a1.2.2]; exact ee5
          replace hM := hM.2 n2 rfl (by omega) hh2 (by rw [ua]; exact ma0)
          rw [ua, ub] at hM
          rcases iv_join (n := n2 + 1) rg2.2.1.2.1 (by omega) (by omega) n92 hC with ⟨q, hC⟩ | ⟨q, hC⟩
          · rcases hM with ⟨-, y, hM⟩ | ⟨q2, -⟩
            · exact Or.inr (Or.inl ⟨_, -1, _, hC, hM, by decide, foA⟩)
            · exact absurd q q2
          · rcases hM with ⟨q2, -⟩ | ⟨-, hM⟩
            · exact absurd q2 q
            · rcases rl_two rg2 (by omega) la (by omega) f3 (by omega) hC hM (fun _ => rfl) with ⟨b9, nd3, m3, hC, hM, rg3, ad, fp3, eh3, fo3⟩ | ⟨r, nd3, m3, hC, hM, cn, fo3⟩
              · dsimp only at hC
                have an := AD_new ad
                have ao := AD_old ad
                have ee' : EE 6 nd0 nd3 m0 m3 w0 w2 n0 (n2 + 1) km0 (km2 + 2) hi := ⟨by omega, by omega, an.1, by rw [an.2.1]; exact k6, by rw [an.2.2.1]; exact jd_nn ma0 f5 q, fun j hj => ⟨(ao j (by omega)).1.trans ((f6 j (by omega)).1.trans (ee6 j hj).1), (ao j (by omega)).2.1.trans ((f6 j (by omega)).2.1.trans (ee6 j hj).2.1), (ao j (by omega)).2.2.trans ((f6 j (by omega)).2.2.trans (ee6 j hj).2.2)⟩, FP_trans fpA fp3, FO_trans foA fo3, cwA⟩
                have xs := x_up x0 xc (Int32.lt_trans cw1 f9) c2.1
                have eo3 : m3.1.2.1.1.2 = op := fp3.2.1.trans fpo
                rcases iv_op23 hC with ⟨e, hC⟩ | ⟨e, hC⟩ | ⟨e, hC⟩
                · exact ih _ _ _ _ _ _ _ _ _ _ _ hC hM rg3 ee' (Or.inl ⟨e, rfl⟩) eo3 o0 o9 xs.1 xs.2
                · exact ih _ _ _ _ _ _ _ _ _ _ _ hC hM rg3 ee' (Or.inr (Or.inl ⟨e, rfl⟩)) eo3 o0 o9 xs.1 xs.2
                · exact ih _ _ _ _ _ _ _ _ _ _ _ hC hM rg3 ee' (Or.inr (Or.inr ⟨e, rfl⟩)) eo3 o0 o9 xs.1 xs.2
              · dsimp only at hC
                cases nM with
                | zero => exact False.elim hM
                | succ nM =>
                rw [wp_Mo_sum_L5] at hM
                replace hM := hM.1 (by decide)
                unfold wp_Mo_sum_J109 at hM
                have fo9 := FO_trans foA fo3
                have dmL : ∀ x, KP23 w2.2.2.2.2.2.2.2.2.2.2.1 x → wp_Gr_readSum_L16 rC (fun (z : T_Gr) (nm : T_Nm) (nd : T_Nd) (w : T_Wd) (x1 : Int32) (x2 : Int32) (x3 : Int32) (x4 : Int32) => PC x2 (z, nm, nd, w)) PC PT nC g2 nm2 nd3 w2 op r x (x4 + (1 : Int32)) → OE 6 tx sz pl ln PC PT PM nd0 w0 m0 n0 km0 hi tp c := by
                  intro x kx hC
                  rcases dm_sumL (Or.inr cn) kx hC with ⟨u, hC⟩ | ⟨r9, g9, nm9, nd9, w9, hC, d9⟩
                  · exact Or.inr (Or.inl ⟨u, -1, _, hC, hM, by decide, fo9⟩)
                  · exact Or.inr (Or.inr ⟨r9, g9, nm9, nd9, w9, -1, _, hC, d9, hM, by decide, fo9⟩)
                rcases iv_op23 hC with ⟨e, hC⟩ | ⟨e, hC⟩ | ⟨e, hC⟩
                · exact dmL _ (Or.inl ⟨e, rfl⟩) hC
                · exact dmL _ (Or.inr (Or.inl ⟨e, rfl⟩)) hC
                · exact dmL _ (Or.inr (Or.inr ⟨e, rfl⟩)) hC
        · exact Or.inr (Or.inl ⟨_, -1, m2, hC, hM.1 (Int32.not_le.mpr rn), by decide, FO_trans fo1 fo2⟩)
        · replace hM := hM.1 (Int32.not_le.mpr rn)
          have fo9 := FO_trans fo1 fo2
          dsimp only at hC
          rcases dm_join hC with ⟨u, hC⟩ | ⟨r5, nd3, hC, cn⟩
          · exact Or.inr (Or.inl ⟨_, -1, m2, hC, hM, by decide, fo9⟩)
          · dsimp only at hC
            have d3 : DM nd3 w2 := d2.elim Or.inl (fun q => Or.inr (cn q))
            have dmL : ∀ x, KP23 w2.2.2.2.2.2.2.2.2.2.2.1 x → wp_Gr_readSum_L16 rC (fun (z : T_Gr) (nm : T_Nm) (nd : T_Nd) (w : T_Wd) (x1 : Int32) (x2 : Int32) (x3 : Int32) (x4 : Int32) => PC x2 (z, nm, nd, w)) PC PT nC g2 nm2 nd3 w2 op r5 x (x4 + (1 : Int32)) → OE 6 tx sz pl ln PC PT PM nd0 w0 m0 n0 km0 hi tp c := by
              intro x kx hC
              rcases dm_sumL d3 kx hC with ⟨u, hC⟩ | ⟨r9, g9, nm9, nd9, w9, hC, d9⟩
              · exact Or.inr (Or.inl ⟨u, -1, _, hC, hM, by decide, fo9⟩)
              · exact Or.inr (Or.inr ⟨r9, g9, nm9, nd9, w9, -1, _, hC, d9, hM, by decide, fo9⟩)
            rcases iv_op23 hC with ⟨e, hC⟩ | ⟨e, hC⟩ | ⟨e, hC⟩
            · exact dmL _ (Or.inl ⟨e, rfl⟩) hC
            · exact dmL _ (Or.inr (Or.inl ⟨e, rfl⟩)) hC
            · exact dmL _ (Or.inr (Or.inr ⟨e, rfl⟩)) hC
      · exact Or.inr (Or.inl ⟨_, -1, m1, hC, hM.1 rfl, by decide, FO_trans ee8 (FO_Fr fr)⟩)
      · obtain ⟨u, hC⟩ := rd _ _ _ _ _ _ _ (Or.inl dd) hC
        exact Or.inr (Or.inl ⟨_, -1, m1, hC, hM.1 rfl, by decide, FO_trans ee8 (FO_Fr fr)⟩)
    rcases ko with ⟨e, ek⟩ | ⟨e, ek⟩ | ⟨e, ek⟩
    · have nz := (op_nd (c := w.2.2.2.2.2.2.2.2.2.2.1) (by rw [e]; decide)).2.2
      have nx : ¬ (4000 : Int32) ≤ x4 := fun q => absurd (Int32.le_trans q xc) (Int32.not_le.mpr (op_next rw1 nz))
      have tk : m.1.1.1.2.2.2 = 43 := t1.mp e
      replace hC := (hC.2 nx).2 (by rw [ek]; decide)
      rw [ek] at hC
      have hM0 := (hM.1 tk).1 tk
      refine stepk 2 (by decide) nz hC ?_
      obtain ⟨r, u, qa, qb⟩ := dt_Mo_go hM0
      have hM := qb _ hM0
      refine qa _ ⟨fun q => (hM.1 q).2 (by decide), fun q => ?_⟩
      have hM := hM.2 q
      obtain ⟨r2, u2, qa2, qb2⟩ := dt_Mo_product hdt hM
      have hM := qb2 _ hM
      refine qa2 _ ⟨fun q => hM.2 q, fun n2 e2 n29 h2 ma => ?_⟩
      subst e2
      have hM := iv_unitIn (iv_unitIn (hM.1 (on_n1 (by omega)).2.2) h2 (by omega)) h2 n29
      have j := jd_sum (k := 2) (y := u2.1.2.2.1.2.2 (Bs u2.1.2.1.2.1 + n2)) (by decide) (by decide) ma
      rcases br_el hM with ⟨q, hM⟩ | ⟨q, hM⟩
      · refine Or.inr ⟨fun z => absurd q (j.1.mp z), ?_⟩
        rw [j.2 q]
        exact iv_unitIn hM h2 (by omega)
      · exact Or.inl ⟨j.1.mpr q, _, hM⟩
    · have nz := (op_nd (c := w.2.2.2.2.2.2.2.2.2.2.1) (by rw [e]; decide)).2.2
      have nx : ¬ (4000 : Int32) ≤ x4 := fun q => absurd (Int32.le_trans q xc) (Int32.not_le.mpr (op_next rw1 nz))
      have tk : m.1.1.1.2.2.2 = 45 := t2.mp e
      have tn : ¬ m.1.1.1.2.2.2 = 43 := by rw [tk]; decide
      replace hC := (hC.2 nx).2 (by rw [ek]; decide)
      rw [ek] at hC
      have hM0 := ((hM.2 tn).1 tk).2 tn
      refine stepk 3 (by decide) nz hC ?_
      obtain ⟨r, u, qa, qb⟩ := dt_Mo_go hM0
      have hM := qb _ hM0
      refine qa _ ⟨fun q => (hM.1 q).2 (by decide), fun q => ?_⟩
      have hM := hM.2 q
      obtain ⟨r2, u2, qa2, qb2⟩ := dt_Mo_product hdt hM
      have hM := qb2 _ hM
      refine qa2 _ ⟨fun q => hM.2 q, fun n2 e2 n29 h2 ma => ?_⟩
      subst e2
      have hM := iv_unitIn (iv_unitIn (hM.1 (on_n1 (by omega)).2.2) h2 (by omega)) h2 n29
      have j := jd_sum (k := 3) (y := u2.1.2.2.1.2.2 (Bs u2.1.2.1.2.1 + n2)) (by decide) (by decide) ma
      rcases br_el hM with ⟨q, hM⟩ | ⟨q, hM⟩
      · refine Or.inr ⟨fun z => absurd q (j.1.mp z), ?_⟩
        rw [j.2 q]
        exact iv_unitIn hM h2 (by omega)
      · exact Or.inl ⟨j.1.mpr q, _, hM⟩
    · have hC2 : PC (Int32.ofNat n1) (g, nm, nd, w) := by
        by_cases q : (4000 : Int32) ≤ x4
        · exact hC.1 q
        · exact (hC.2 q).1 ek
      replace hM := (hM.2 (fun q => e.1 (t1.mpr q))).2 (fun q => e.2 (t2.mpr q))
      unfold wp_Mo_sum_J109 at hM
      exact Or.inl ⟨g, nm, nd, w, m, n1, km, hC2, hM, rg, ee⟩
set_option maxHeartbeats 1000000 in
theorem rl_sum {tx : Nat → Int32} {sz : Int32} {pl ln : Nat → Int32} {rC : T_Gr → T_Nm → T_Nd → T_Wd → Int32 → (Int32 → T_Gr × T_Nm × T_Nd × T_Wd → Prop) → (T_Gr × T_Nm × T_Nd × T_Wd → Prop) → Prop} {rM : T_Mo → (Int32 → T_Mo → Prop) → Prop} (hdt : ∀ (v0 : T_Mo) (post : Int32 → T_Mo → Prop), rM v0 post → (∃ (w0 : Int32) (w1 : T_Mo), (∀ (post : Int32 → T_Mo → Prop), post w0 w1 → rM v0 post) ∧ (∀ (post : Int32 → T_Mo → Prop), rM v0 post → post w0 w1))) (re : RE tx sz pl ln 6 (wp_Gr_readProduct rC) (wp_Mo_product rM)) (rd : RD (wp_Gr_readProduct rC)) : RE tx sz pl ln 6 (wp_Gr_readSum rC) (wp_Mo_sum rM) := by
  intro g nm nd w op m PC PT PM n km hi tp c rg eo o0 o9 hC hM
  unfold wp_Gr_readSum at hC
  unfold wp_Mo_sum at hM
  have s0 := rg.2.2.2.2.2.2
  rcases re _ _ _ _ _ _ _ _ _ _ _ _ _ _ rg eo o0 o9 hC hM with ⟨g2, nm2, nd2, w2, m2, n2, km2, hC, hM, rg2, e2⟩ | ⟨u, r', m2, hC, hM, rn, fo2⟩ | ⟨r, g2, nm2, nd2, w2, r', m2, hC, d2, hM, rn, fo2⟩
  · obtain ⟨nM, hM⟩ := hM
    have eo2 : m2.1.2.1.1.2 = op := e2.2.2.2.2.2.2.1.2.1.trans eo
    have c0 := (cur9 rg2.1).2
    rcases iv_op23 hC with ⟨e, nC, hC⟩ | ⟨e, nC, hC⟩ | ⟨e, nC, hC⟩
    · exact rl_sumL hdt re rd s0 nC nM _ _ _ _ _ _ _ _ _ _ hC hM rg2 e2 (Or.inl ⟨e, rfl⟩) eo2 o0 o9 (by decide) c0
    · exact rl_sumL hdt re rd s0 nC nM _ _ _ _ _ _ _ _ _ _ hC hM rg2 e2 (Or.inr (Or.inl ⟨e, rfl⟩)) eo2 o0 o9 (by decide) c0
    · exact rl_sumL hdt re rd s0 nC nM _ _ _ _ _ _ _ _ _ _ hC hM rg2 e2 (Or.inr (Or.inr ⟨e, rfl⟩)) eo2 o0 o9 (by decide) c0
  · obtain ⟨nM, hM⟩ := hM
    cases nM with
    | zero => exact False.elim hM
    | succ nM =>
    rw [wp_Mo_sum_L5] at hM
    replace hM := hM.1 rn
    unfold wp_Mo_sum_J109 at hM
    exact Or.inr (Or.inl ⟨_, r', m2, hC, hM, rn, fo2⟩)
  · obtain ⟨nM, hM⟩ := hM
    cases nM with
    | zero => exact False.elim hM
    | succ nM =>
    rw [wp_Mo_sum_L5] at hM
    replace hM := hM.1 rn
    unfold wp_Mo_sum_J109 at hM
    have dmL : ∀ x nC, KP23 w2.2.2.2.2.2.2.2.2.2.2.1 x → wp_Gr_readSum_L16 rC (fun (z : T_Gr) (nm : T_Nm) (nd : T_Nd) (w : T_Wd) (x1 : Int32) (x2 : Int32) (x3 : Int32) (x4 : Int32) => PC x2 (z, nm, nd, w)) PC PT nC g2 nm2 nd2 w2 op r x 0 → OE 6 tx sz pl ln PC PT PM nd w m n km hi tp c := by
      intro x nC kx hC
      rcases dm_sumL d2 kx hC with ⟨u, hC⟩ | ⟨r9, g9, nm9, nd9, w9, hC, d9⟩
      · exact Or.inr (Or.inl ⟨u, r', _, hC, hM, rn, fo2⟩)
      · exact Or.inr (Or.inr ⟨r9, g9, nm9, nd9, w9, r', _, hC, d9, hM, rn, fo2⟩)
    rcases iv_op23 hC with ⟨e, nC, hC⟩ | ⟨e, nC, hC⟩ | ⟨e, nC, hC⟩
    · exact dmL _ nC (Or.inl ⟨e, rfl⟩) hC
    · exact dmL _ nC (Or.inr (Or.inl ⟨e, rfl⟩)) hC
    · exact dmL _ nC (Or.inr (Or.inr ⟨e, rfl⟩)) hC
theorem rd_sum {rC : T_Gr → T_Nm → T_Nd → T_Wd → Int32 → (Int32 → T_Gr × T_Nm × T_Nd × T_Wd → Prop) → (T_Gr × T_Nm × T_Nd × T_Wd → Prop) → Prop} (rd : RD (wp_Gr_readProduct rC)) : RD (wp_Gr_readSum rC) := by
  intro g nm nd w op PC PT d h
  unfold wp_Gr_readSum at h
  obtain ⟨u, h⟩ := rd _ _ _ _ _ _ _ d h
  exact ⟨_, h⟩

