set_option maxHeartbeats 1000000 in
/-- both make a node out of what lies on the pile from mark on -/
theorem rl_mk {tx : Nat → Int32} {sz : Int32} {pl ln : Nat → Int32} {nm : T_Nm} {nd : T_Nd} {w : T_Wd} {m : T_Mo} {n km hi tp c mark low : Nat} {asc : List Nat} {kind row me un : Int32} {value : Int64} {PC : Int32 → T_Nd → Prop} {PM : Int32 → T_Mo → Prop} (rg : RG tx sz pl ln nm nd w m n km hi tp c) (eh : hi = mark + asc.length) (kl : KL m.2.2.1.2.2.1 mark asc) (ch : CH nd.2.2.2.2.1 low n asc.reverse) (hC : wp_Nd_add nd kind (Int32.ofNat low) row value me PC) (hM : wp_Mo_node0 m kind value row un (Int32.ofNat mark) PM) (um : kind ≤ 6 → me = un) : (n < 1000 ∧ ∃ nd' m', PC (Int32.ofNat n) nd' ∧ PM (Int32.ofNat n) m' ∧ RG tx sz pl ln nm nd' w m' (n + 1) (km + asc.length) mark tp c ∧ AD nd nd' n kind row value me low asc.reverse ∧ m'.2.2.1.2.2.1 = m.2.2.1.2.2.1 ∧ m'.1.2.1.1.2 = m.1.2.1.1.2 ∧ m'.2.1.1.1.2 = m.2.1.1.1.2 ∧ m'.1.2.1.2.1 = m.1.2.1.2.1 ∧ NmF m m' ∧ FO m m') ∨ (∃ r nd' m', PC r nd' ∧ PM (-1) m' ∧ (1000 : Int32) < nd'.2.2.2.2.2.2.2.2.2.2.1 ∧ FO m m') := by
  obtain ⟨r1, r2, r3, r4, r5, r6, r7⟩ := rg
  have n9 := r2.2.2.2.1
  subst eh
  rcases rl_node r2 hC hM ⟨kl, r5, ch⟩ (by omega) (by omega) um with ⟨n8, nd', m', hC, hM, nr, ad, an⟩ | ⟨e, nd', hC, hM, cn⟩
  · have fo := FO_AN an n8 (by omega)
    have rw2 := RW_AN r1 an
    have nm2 := NM_AN r3 an
    have pl2 := PLn_AN r4 an
    obtain ⟨ks, em, -⟩ := an
    refine Or.inl ⟨n8, nd', m', hC, hM, ⟨rw2, nr, nm2, pl2, ?_, ?_, by omega⟩, ad, ?_, ?_, ?_, ?_, ?_, fo⟩
    · rw [em]
    · rw [em]; exact r6
    · rw [em]
    · rw [em]
    · rw [em]
    · rw [em]
    · rw [em]; exact ⟨rfl, rfl, rfl, rfl, rfl, rfl⟩
  · refine Or.inr ⟨_, nd', _, hC, hM, ?_, FO_refl⟩
    rw [cn]; decide
/-- nodes of the class in any state: how many they are -/
theorem cf_chain : ∀ (n : Nat) (z : T_Nd) (x1 x2 x3 x4 x5 : Int32) (K : T_Nd → Int32 → Int32 → Int32 → Int32 → Int32 → Prop) (post : Int32 → T_Nd → Prop), wp_Nd_chainFrom_L13 K post n z x1 x2 x3 x4 x5 → ∃ z' x3' x4' x5', K z' x1 x2 x3' x4' x5' ∧ z'.2.2.2.2.2.2.2.2.2.2.1 = z.2.2.2.2.2.2.2.2.2.2.1 := by
  intro n
  induction n with
  | zero => intro z x1 x2 x3 x4 x5 K post h; exact False.elim h
  | succ n ih =>
    intro z x1 x2 x3 x4 x5 K post h
    rw [wp_Nd_chainFrom_L13] at h
    rcases br_el h with ⟨c, h⟩ | ⟨c, h⟩
    · exact ⟨z, x3, x4, x5, h, rfl⟩
    · rcases br_el h with ⟨c, h⟩ | ⟨c, h⟩
      · exact ⟨z, x3, x4, x5, h, rfl⟩
      · rcases br_el h with ⟨c, h⟩ | ⟨c, h⟩
        · exact ⟨z, x3, x4, x5, h, rfl⟩
        · rcases br_el h with ⟨c, h⟩ | ⟨c, h⟩
          · exact ⟨z, x3, x4, x5, h, rfl⟩
          · obtain ⟨z', a, b, d, k, e⟩ := ih _ _ _ _ _ _ _ _ h.2.2.2
            exact ⟨z', a, b, d, k, e⟩
theorem cf_follow : ∀ (n : Nat) (z : T_Nd) (x1 x2 x3 x4 : Int32) (K : T_Nd → Int32 → Int32 → Int32 → Int32 → Prop) (post : Int32 → T_Nd → Prop), wp_Nd_followChain_L7 K post n z x1 x2 x3 x4 → ∃ z' x2' x3' x4', K z' x1 x2' x3' x4' ∧ z'.2.2.2.2.2.2.2.2.2.2.1 = z.2.2.2.2.2.2.2.2.2.2.1 := by
  intro n
  induction n with
  | zero => intro z x1 x2 x3 x4 K post h; exact False.elim h
  | succ n ih =>
    intro z x1 x2 x3 x4 K post h
    rw [wp_Nd_followChain_L7] at h
    rcases br_el h with ⟨c, h⟩ | ⟨c, h⟩
    · exact ⟨z, x2, x3, x4, h, rfl⟩
    · rcases br_el h with ⟨c, h⟩ | ⟨c, h⟩
      · exact ⟨z, x2, x3, x4, h, rfl⟩
      · rcases br_el h with ⟨c, h⟩ | ⟨c, h⟩
        · exact ⟨z, x2, x3, x4, h, rfl⟩
        · rcases br_el h.2 with ⟨c, h⟩ | ⟨c, h⟩
          · rcases br_el h.2 with ⟨c, h⟩ | ⟨c, h⟩
            · obtain ⟨z', a, b, d, k, e⟩ := ih _ _ _ _ _ _ _ h.2
              exact ⟨z', a, b, d, k, e⟩
            · obtain ⟨z', a, b, d, k, e⟩ := ih _ _ _ _ _ _ _ h.2
              exact ⟨z', a, b, d, k, e⟩
          · obtain ⟨z', a, b, d, k, e⟩ := ih _ _ _ _ _ _ _ h.2
            exact ⟨z', a, b, d, k, e⟩
theorem dm_cnt {a : Int32} (h : (1000 : Int32) < a) (h9 : a < 1070) : (1000 : Int32) < a + 1 := by grind
theorem dm_add {nd : T_Nd} {kind low row measure : Int32} {value : Int64} {PC : Int32 → T_Nd → Prop} (h : wp_Nd_add nd kind low row value measure PC) : ∃ r nd', PC r nd' ∧ ((1000 : Int32) < nd.2.2.2.2.2.2.2.2.2.2.1 → (1000 : Int32) < nd'.2.2.2.2.2.2.2.2.2.2.1) := by
  unfold wp_Nd_add at h
  rcases br_el h with ⟨c, h⟩ | ⟨c, h⟩
  · replace h := h.2.2.2.2.2
    unfold wp_Nd_chainFrom at h
    obtain ⟨k1, h⟩ := h
    obtain ⟨z1, a1, a2, a3, h, e1⟩ := cf_chain k1 _ _ _ _ _ _ _ _ h
    replace h := h.2.2
    unfold wp_Nd_followChain at h
    obtain ⟨k2, h⟩ := h
    obtain ⟨z2, b1, b2, b3, h, e2⟩ := cf_follow k2 _ _ _ _ _ _ _ h
    replace h := h.2
    have e : z2.2.2.2.2.2.2.2.2.2.2.1 = nd.2.2.2.2.2.2.2.2.2.2.1 := e2.trans e1
    have q : (1000 : Int32) < nd.2.2.2.2.2.2.2.2.2.2.1 → (1000 : Int32) < z2.2.2.2.2.2.2.2.2.2.2.1 + 1 := fun q => by rw [e]; exact dm_cnt q c
    rcases br_el h with ⟨d, h⟩ | ⟨d, h⟩
    · exact ⟨_, _, h, q⟩
    · rcases br_el h with ⟨d, h⟩ | ⟨d, h⟩
      · exact ⟨_, _, h, q⟩
      · exact ⟨_, _, h, q⟩
  · exact ⟨_, _, h, id⟩
/-- too many nodes, or a byte that begins no word: nothing can be passed or taken -/
theorem dm_pass {g : T_Gr} {nd : T_Nd} {w : T_Wd} {PC : Unit → T_Gr × T_Wd → Prop} {PT : T_Gr × T_Wd → Prop} (d : (1000 : Int32) < nd.2.2.2.2.2.2.2.2.2.2.1) (h : wp_Gr_pass g nd w PC PT) : ∃ u, PT u := by
  unfold wp_Gr_pass wp_Nd_isTooMany at h
  have h := (h.2 (Int32.not_le.mpr d)).2 (by decide)
  unfold wp_Gr_refuse at h
  exact ⟨_, h⟩
theorem dm_take {g : T_Gr} {nd : T_Nd} {w : T_Wd} {a : Int32} {PC : Unit → T_Gr × T_Wd → Prop} {PT : T_Gr × T_Wd → Prop} (d : DM nd w) (na : ¬ dead a) (h : wp_Gr_take g nd w a PC PT) : ∃ u, PT u := by
  unfold wp_Gr_take at h
  rcases br_el h with ⟨c, h⟩ | ⟨c, h⟩
  · rcases d with d | d
    · rw [c] at d; exact absurd d na
    · obtain ⟨u, h⟩ := dm_pass d h
      exact ⟨_, h⟩
  · unfold wp_Gr_refuse at h
    exact ⟨_, h⟩
/-- take and over -/
theorem rl_take {tx : Nat → Int32} {sz : Int32} {pl ln : Nat → Int32} {g : T_Gr} {nd : T_Nd} {w : T_Wd} {m : T_Mo} {a t : Int32} {PC : Unit → T_Gr × T_Wd → Prop} {PT : T_Gr × T_Wd → Prop} {PM : Int32 → T_Mo → Prop} (rw_ : RW tx sz pl ln w m) (ct : w.2.2.2.2.2.2.2.2.2.2.1 = a ↔ m.1.1.1.2.2.2 = t) (na : ¬ a = 0) (n9 : nd.2.2.2.2.2.2.2.2.2.2.1 ≤ 1000) (hC : wp_Gr_take g nd w a PC PT) (hM : wp_Mo_over m t PM) : (∃ w' m', PC () (g, w') ∧ PM 1 m' ∧ RW tx sz pl ln w' m' ∧ Fr m m' ∧ w'.2.2.2.2.2.2.2.1 = w.2.2.2.2.2.2.2.1 + 1) ∨ (∃ u m', PT u ∧ PM 0 m' ∧ Fr m m') ∨ (∃ w' m', PC () (g, w') ∧ PM 0 m' ∧ dead w'.2.2.2.2.2.2.2.2.2.2.1 ∧ Fr m m') := by
  unfold wp_Gr_take at hC
  unfold wp_Mo_over at hM
  by_cases c : w.2.2.2.2.2.2.2.2.2.2.1 = a
  · rcases rl_pass rw_ (by rw [c]; exact na) n9 (hC.1 c) (hM.1 (ct.mp c)) with ⟨w', m', k1, k2, k3, k4, k5⟩ | ⟨u, m', k1, k2, k3⟩ | ⟨w', m', k1, k2, k3, k4⟩
    · exact Or.inl ⟨w', m', k1, k2.2, k3, k4, k5⟩
    · exact Or.inr (Or.inl ⟨_, m', k1, k2.2, k3⟩)
    · exact Or.inr (Or.inr ⟨w', m', k1, k2.2, k3, k4⟩)
  · have hC := hC.2 c
    unfold wp_Gr_refuse at hC
    exact Or.inr (Or.inl ⟨_, _, hC, hM.2 (fun q => c (ct.mpr q)), ⟨rfl, rfl, rfl, rfl, rfl⟩⟩)
/-- any code of the class, any token of the reference -/
def KPZ (c t : Int32) : Prop := (c = 0 ∧ t = 1) ∨ (sg c ∧ t = c) ∨ (c = 129 ∧ t = 2000) ∨ (c = 130 ∧ t = 2000) ∨ KP c t
theorem RW_z {tx : Nat → Int32} {sz : Int32} {pl ln : Nat → Int32} {w : T_Wd} {m : T_Mo} (h : RW tx sz pl ln w m) : KPZ w.2.2.2.2.2.2.2.2.2.2.1 m.1.1.1.2.2.2 := by
  obtain ⟨-, -, -, -, -, -, -, -, -, k⟩ := h
  rcases k with k | ⟨k, -, -⟩
  · exact Or.inl k
  · rcases k with k | ⟨k1, k2, -⟩ | ⟨k1, k2, -⟩ | ⟨k1, k2, -⟩
    · exact Or.inr (Or.inl k)
    · exact Or.inr (Or.inr (Or.inl ⟨k1, k2⟩))
    · exact Or.inr (Or.inr (Or.inr (Or.inl ⟨k1, k2⟩)))
    · refine Or.inr (Or.inr (Or.inr (Or.inr ?_)))
      rw [k1, k2]; exact KP_all (wo m)
def TZ (c : Int32) : Int32 := if c = 0 then 1 else if c ≤ 127 then c else if c = 128 then 999 else if c ≤ 130 then 2000 else if c ≤ 212 then c + 810 else if c = 213 then 1030 else if c = 214 then 1031 else if c = 215 then 1024 else if c ≤ 218 then c + 816 else c + 821
def CZ (t : Int32) : Int32 := if t = 1 then 0 else if t ≤ 127 then t else if t = 999 then 128 else if t = 1024 then 215 else if t ≤ 1022 then t - 810 else if t = 1030 then 213 else if t = 1031 then 214 else if t ≤ 1034 then t - 816 else t - 821
theorem TZ_st {c : Int32} (h0 : (200 : Int32) ≤ c) (h9 : c ≤ 212) : TZ c = c + 810 ∧ CZ (c + 810) = c := by unfold TZ CZ; constructor <;> grind
theorem TZ_un {c : Int32} (h0 : (219 : Int32) ≤ c) (h9 : c ≤ 223) : TZ c = c + 821 ∧ CZ (c + 821) = c := by unfold TZ CZ; constructor <;> grind
theorem Z_tc {c t : Int32} (h : KPZ c t) : t = TZ c ∧ (¬ t = 2000 → c = CZ t) := by
  rcases h with ⟨a, b⟩ | ⟨a, b⟩ | ⟨a, b⟩ | ⟨a, b⟩ | h
  · rw [a, b]; decide
  · rw [b]; unfold sg at a
    rcases a with a | a | a | a | a | a | a | a | a | a | a | a <;> rw [a] <;> decide
  · rw [a, b]; decide
  · rw [a, b]; decide
  · rcases h with ⟨a, b⟩ | ⟨a, a2, b⟩ | ⟨a, b⟩ | ⟨a, b⟩ | ⟨a, b⟩ | ⟨a, b⟩ | ⟨a, b⟩ | ⟨a, b⟩ | ⟨a, a2, b⟩ | ⟨a, b⟩ | ⟨a, b⟩
    · rw [a, b]; decide
    · have q := TZ_st a a2; rw [b]; exact ⟨q.1.symm, fun _ => q.2.symm⟩
    · rw [a, b]; decide
    · rw [a, b]; decide
    · rw [a, b]; decide
    · rw [a, b]; decide
    · rw [a, b]; decide
    · rw [a, b]; decide
    · have q := TZ_un a a2; rw [b]; exact ⟨q.1.symm, fun _ => q.2.symm⟩
    · rw [a, b]; decide
    · rw [a, b]; decide
theorem Z_eq {c t : Int32} (h : KPZ c t) {x y : Int32} (h1 : TZ x = y) (h2 : CZ y = x) (h3 : ¬ y = 2000) : c = x ↔ t = y := by
  have z := Z_tc h
  exact ⟨fun e => by rw [z.1, e, h1], fun e => by rw [z.2 (by rw [e]; exact h3), e, h2]⟩
/-- the words of statements -/
theorem Z_st {c t : Int32} (h : KPZ c t) : ((200 : Int32) ≤ c ∧ c ≤ 212 ∧ t = c + 810) ∨ (¬ ((200 : Int32) ≤ c ∧ c ≤ 212) ∧ ¬ ((1010 : Int32) ≤ t ∧ t ≤ 1022)) := by
  rcases h with ⟨a, b⟩ | ⟨a, b⟩ | ⟨a, b⟩ | ⟨a, b⟩ | h
  · rw [a, b]; decide
  · rw [b]; unfold sg at a
    rcases a with a | a | a | a | a | a | a | a | a | a | a | a <;> rw [a] <;> decide
  · rw [a, b]; decide
  · rw [a, b]; decide
  · rcases h with ⟨a, b⟩ | ⟨a, a2, b⟩ | ⟨a, b⟩ | ⟨a, b⟩ | ⟨a, b⟩ | ⟨a, b⟩ | ⟨a, b⟩ | ⟨a, b⟩ | ⟨a, a2, b⟩ | ⟨a, b⟩ | ⟨a, b⟩
    · rw [a, b]; decide
    · exact Or.inl ⟨a, a2, b⟩
    · rw [a, b]; decide
    · rw [a, b]; decide
    · rw [a, b]; decide
    · rw [a, b]; decide
    · rw [a, b]; decide
    · rw [a, b]; decide
    · refine Or.inr ⟨fun q => absurd (Int32.le_trans a q.2) (by decide), fun q => ?_⟩
      rw [b] at q
      grind
    · rw [a, b]; decide
    · rw [a, b]; decide
/-- units -/
def mh (c : Int32) : Int32 := if (219 : Int32) ≤ c ∧ c ≤ 223 then (c - 219) + 1 else 0
theorem Z_un {c t : Int32} (h : KPZ c t) : ((219 : Int32) ≤ c ∧ c ≤ 223 ∧ t = c + 821) ∨ (¬ ((219 : Int32) ≤ c ∧ c ≤ 223) ∧ ¬ ((1040 : Int32) ≤ t ∧ t ≤ 1044)) := by
  rcases h with ⟨a, b⟩ | ⟨a, b⟩ | ⟨a, b⟩ | ⟨a, b⟩ | h
  · rw [a, b]; decide
  · rw [b]; unfold sg at a
    rcases a with a | a | a | a | a | a | a | a | a | a | a | a <;> rw [a] <;> decide
  · rw [a, b]; decide
  · rw [a, b]; decide
  · rcases h with ⟨a, b⟩ | ⟨a, a2, b⟩ | ⟨a, b⟩ | ⟨a, b⟩ | ⟨a, b⟩ | ⟨a, b⟩ | ⟨a, b⟩ | ⟨a, b⟩ | ⟨a, a2, b⟩ | ⟨a, b⟩ | ⟨a, b⟩
    · rw [a, b]; decide
    · refine Or.inr ⟨fun q => absurd (Int32.le_trans q.1 a2) (by decide), fun q => ?_⟩
      rw [b] at q
      grind
    · rw [a, b]; decide
    · rw [a, b]; decide
    · rw [a, b]; decide
    · rw [a, b]; decide
    · rw [a, b]; decide
    · rw [a, b]; decide
    · exact Or.inl ⟨a, a2, b⟩
    · rw [a, b]; decide
    · rw [a, b]; decide
theorem iv_isBetween {g : T_Gr} {w : T_Wd} {a b : Int32} {P : Int32 → Unit → Prop} (h : wp_Gr_isBetween g w a b P) : ((a ≤ w.2.2.2.2.2.2.2.2.2.2.1 ∧ w.2.2.2.2.2.2.2.2.2.2.1 ≤ b) ∧ P 1 ()) ∨ (¬ (a ≤ w.2.2.2.2.2.2.2.2.2.2.1 ∧ w.2.2.2.2.2.2.2.2.2.2.1 ≤ b) ∧ P 0 ()) := by
  unfold wp_Gr_isBetween at h
  rcases br_el h with ⟨c, h⟩ | ⟨c, h⟩
  · exact Or.inr ⟨fun q => absurd c (Int32.not_lt.mpr q.1), h⟩
  · rcases br_el h with ⟨d, h⟩ | ⟨d, h⟩
    · exact Or.inr ⟨fun q => absurd d (Int32.not_lt.mpr q.2), h⟩
    · exact Or.inl ⟨⟨Int32.not_lt.mp c, Int32.not_lt.mp d⟩, h⟩
theorem iv_measureHere {g : T_Gr} {w : T_Wd} {P : Int32 → Unit → Prop} (h : wp_Gr_measureHere g w P) : P (mh w.2.2.2.2.2.2.2.2.2.2.1) () := by
  unfold wp_Gr_measureHere at h
  unfold mh
  rcases iv_isBetween h with ⟨c, h⟩ | ⟨c, h⟩
  · rw [if_pos c]; exact h.2 (by decide)
  · rw [if_neg c]; exact h.1 rfl
theorem uw_lo {t : Int32} (h0 : (1 : Int32) ≤ t) (h9 : t ≤ 2000) (c : (t - 1000) - 39 < 1) : ¬ ((1040 : Int32) ≤ t ∧ t ≤ 1044) := by grind
theorem uw_hi {t : Int32} (h0 : (1 : Int32) ≤ t) (h9 : t ≤ 2000) (c : ¬ (t - 1000) - 39 < 1) (d : (5 : Int32) < (t - 1000) - 39) : ¬ ((1040 : Int32) ≤ t ∧ t ≤ 1044) := by grind
theorem uw_in {t : Int32} (h0 : (1 : Int32) ≤ t) (h9 : t ≤ 2000) (c : ¬ (t - 1000) - 39 < 1) (d : ¬ (5 : Int32) < (t - 1000) - 39) : (1040 : Int32) ≤ t ∧ t ≤ 1044 := by constructor <;> grind
theorem uw_eq {c : Int32} : ((c + 821) - (1000 : Int32)) - (39 : Int32) = (c - 219) + 1 := by grind
theorem KPZ_b {c t : Int32} (h : KPZ c t) : (1 : Int32) ≤ t ∧ t ≤ 2000 := by
  rcases h with ⟨a, b⟩ | ⟨a, b⟩ | ⟨a, b⟩ | ⟨a, b⟩ | h
  · rw [b]; decide
  · rw [b]; unfold sg at a
    rcases a with a | a | a | a | a | a | a | a | a | a | a | a <;> rw [a] <;> decide
  · rw [b]; decide
  · rw [b]; decide
  · rcases h with ⟨a, b⟩ | ⟨a, a2, b⟩ | ⟨a, b⟩ | ⟨a, b⟩ | ⟨a, b⟩ | ⟨a, b⟩ | ⟨a, b⟩ | ⟨a, b⟩ | ⟨a, a2, b⟩ | ⟨a, b⟩ | ⟨a, b⟩
    · rw [b]; decide
    · rw [b]; constructor <;> grind
    · rw [b]; decide
    · rw [b]; decide
    · rw [b]; decide
    · rw [b]; decide
    · rw [b]; decide
    · rw [b]; decide
    · rw [b]; constructor <;> grind
    · rw [b]; decide
    · rw [b]; decide
theorem iv_unitWord0 {m : T_Mo} {c : Int32} {P : Int32 → Unit → Prop} (z : KPZ c m.1.1.1.2.2.2) (h : wp_Mo_unitWord0 m P) : P (mh c) () := by
  have b := KPZ_b z
  unfold wp_Mo_unitWord0 wp_Mo_unitWord0_J26 wp_Mo_unitWord0_J27 at h
  unfold mh
  rcases Z_un z with ⟨u1, u2, u3⟩ | ⟨u1, u2⟩
  · rw [if_pos ⟨u1, u2⟩]
    rcases br_el h with ⟨q, h⟩ | ⟨q, h⟩
    · exact absurd (show (1040 : Int32) ≤ m.1.1.1.2.2.2 ∧ m.1.1.1.2.2.2 ≤ 1044 by rw [u3]; constructor <;> grind) (uw_lo b.1 b.2 q)
    · rcases br_el h with ⟨r, h⟩ | ⟨r, h⟩
      · exact absurd (show (1040 : Int32) ≤ m.1.1.1.2.2.2 ∧ m.1.1.1.2.2.2 ≤ 1044 by rw [u3]; constructor <;> grind) (uw_hi b.1 b.2 q r)
      · rw [u3, uw_eq] at h; exact h
  · rw [if_neg u1]
    rcases br_el h with ⟨q, h⟩ | ⟨q, h⟩
    · exact h
    · rcases br_el h with ⟨r, h⟩ | ⟨r, h⟩
      · exact h
      · exact absurd (uw_in b.1 b.2 q r) u2
theorem iv_isWord {m : T_Mo} {x : Int32} {P : Int32 → Unit → Prop} (h : wp_Mo_isWord m x P) : (m.1.1.1.2.2.2 = (1000 : Int32) + x ∧ P 1 ()) ∨ (¬ m.1.1.1.2.2.2 = (1000 : Int32) + x ∧ P 0 ()) := by
  unfold wp_Mo_isWord at h
  rcases br_el h with ⟨q, h⟩ | ⟨q, h⟩
  · exact Or.inl ⟨q, h⟩
  · exact Or.inr ⟨q, h⟩
theorem dead_n {c : Int32} (h : dead c) : ¬ ((128 : Int32) ≤ c) ∧ ¬ c = 0 := ⟨fun q => absurd (Int32.le_trans q h.2.1) (by decide), fun q => by rw [q] at h; exact absurd h.1 (by decide)⟩

