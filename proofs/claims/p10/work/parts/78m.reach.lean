/-- all that is known of the shown program, for check -/
def PA (nm : T_Nm) (nd : T_Nd) (m : T_Mo) (n c : Nat) (kf : Nat → List Nat) (asc : List Nat) : Prop := FK nd m n kf asc ∧ Fin m ∧ SF m ∧ nm.2.2.2.2 = Int32.ofNat c ∧ m.2.2.1.1.2 = Int32.ofNat c ∧ c ≤ 100 ∧ (∀ j, j < c → sr (nm.2.1 j) (m.2.1.2.1.2 (Ns ((1 : Int32) - m.1.2.1.2.1) + j))) ∧ (∀ i, i < n → UK (nd.1 i) → ∃ j, j < c ∧ (nd.2.2.1 i).toInt = (j : Int) ∧ (nd.1 i = 19 → nm.2.1 j = 215)) ∧ (∀ p, p < n → nd.1 p = 24 → ∃ t, t < c ∧ (nd.2.2.1 p).toInt = (t : Int) ∧ nm.2.1 t = 215 ∧ ∀ i, i < p → UK2 (nd.1 i) → (nd.2.2.1 i).toInt < (t : Int)) ∧ (∀ j, j < c → ¬ nm.2.1 j = 215 → (¬ nm.2.2.2.1 j = 0 ↔ ∃ i, i < n ∧ UF (nd.1 i) (nm.2.1 j) ∧ (nd.2.2.1 i).toInt = (j : Int))) ∧ (∀ s, s < c → nm.2.1 s = 215 → (¬ nm.2.2.2.1 s = 0 ↔ ∃ i, i < n ∧ nd.1 i = 19 ∧ (nd.2.2.1 i).toInt = (s : Int) ∧ DN nd.1 nd.2.2.1 n nm.2.2.2.1 (i + 1))) ∧ ∀ j, j < c → nm.2.1 j = 215 → ∃ p, p < n ∧ m.2.1.2.2.2.1 (Ns ((1 : Int32) - m.1.2.1.2.1) + j) = Int32.ofNat p ∧ nd.1 p = 24 ∧ (nd.2.2.1 p).toInt = (j : Int)
theorem nn_ix {half : Int32} (hh : half = 0 ∨ half = 1) {i : Nat} (hi : i < 100) : ((100 : Int32) * half + Int32.ofNat i).toNatClampNeg = Ns ((1 : Int32) - half) + i := by
  have := Ns_ix (h11 hh).2 (x := Int32.ofNat i) rfl hi
  rw [(h11 hh).1] at this; exact this
theorem PA_of {nm : T_Nm} {nd : T_Nd} {m : T_Mo} (f : FN nm nd m) (fin : Fin m) (s : SF m) (u : FU nm nd) : ∃ n c kf asc, PA nm nd m n c kf asc := by
  obtain ⟨n, c, kf, asc, fk, b1, b2, b3, b4⟩ := FK_FN f
  obtain ⟨c', n', u1, u2, u3, u4, u5, u6, u7, u8⟩ := u
  have n9 := fk.2.2.2.1
  have ec : c' = c := on_inj (by omega) (by omega) (u1.symm.trans b1)
  have en : n' = n := on_inj (by omega) (by omega) (u3.symm.trans fk.2.1)
  subst ec en
  refine ⟨n', c', kf, asc, fk, fin, s, b1, b2, b3, b4, u5, u6, u7, u8, fun j hj sj => ?_⟩
  have rj : m.2.1.2.1.2 (Ns ((1 : Int32) - m.1.2.1.2.1) + j) = 24 := by
    rcases b4 j hj with ⟨z, -⟩ | ⟨z, -⟩ | ⟨-, z⟩
    · rw [z] at sj; exact absurd sj (by decide)
    · rw [z] at sj; exact absurd sj (by decide)
    · exact z
  obtain ⟨n2, c2, t, t0, v1, v2, v3, v4, v5, v6, v7, -⟩ := s
  have ec2 : c2 = c' := on_inj (by omega) (by omega) (v3.symm.trans b2)
  have en2 : n2 = n' := on_inj (by omega) (by omega) (v1.symm.trans fk.2.2.1)
  subst ec2 en2
  obtain ⟨p, p1, p2, p3⟩ := v7 j hj rj
  have hh := fk.1
  obtain ⟨k1, k2, -⟩ := fk.2.2.2.2.1 p p1
  refine ⟨p, p1, p2, ?_, by rw [k2]; exact p3⟩
  obtain ⟨-, ⟨km, -, -, pr⟩, -⟩ := fin
  have na := pr.2.2 (Int32.ofNat j) (i_nn (by omega)) (by rw [b2, on_lt (by omega) (by omega)]; exact hj)
  have x1 : ((100 : Int32) * m.1.2.1.2.1 + Int32.ofNat j).toNatClampNeg = Ns ((1 : Int32) - m.1.2.1.2.1) + j := nn_ix hh (by omega)
  unfold NameOk at na
  rw [x1, p2] at na
  have w := na.2.2.2 (i_nn (by omega))
  have x2 : ((1000 : Int32) * m.1.2.1.2.1 + Int32.ofNat p).toNatClampNeg = Bs ((1 : Int32) - m.1.2.1.2.1) + p := no_ix hh (by omega)
  rw [x2] at w
  rw [k1]; exact w
theorem no24 {nm : T_Nm} {nd : T_Nd} {m : T_Mo} {n c : Nat} {kf : Nat → List Nat} {asc : List Nat} (a : PA nm nd m n c kf asc) {r i : Nat} (hr : r < n) (h1 : (nd.2.2.2.2.1 r).toNatClampNeg ≤ i) (h2 : i < r) : ¬ nd.1 i = 24 := fun e => by
  obtain ⟨b, hb, hk⟩ := in_kid a.1 r r (Nat.le_refl _) hr i h1 h2
  have kk := kk_of a.2.1 a.1 hb hk
  rw [e] at kk
  exact KK_24 kk.1 kk.2
theorem step_top {nm : T_Nm} {nd : T_Nd} {m : T_Mo} {n c : Nat} {kf : Nat → List Nat} {asc : List Nat} (a : PA nm nd m n c kf asc) {p : Nat} (hp : p < n) (e : nd.1 p = 24) : p ∈ asc := by
  rcases in_some a.1 hp with h | ⟨b, hb, hk⟩
  · exact h
  · have kk := kk_of a.2.1 a.1 hb hk
    rw [e] at kk
    exact absurd (KK_24 kk.1 kk.2) id
theorem CH_pw {L : Nat → Int32} {low : Nat} : ∀ (l : List Nat) (c : Nat), CH L low c l → l.Pairwise (fun x y => y < x)
  | [], _, _ => List.Pairwise.nil
  | r :: t, c, h => by
    obtain ⟨h1, h2, h3, h4⟩ := h
    refine List.Pairwise.cons (fun y hy => ?_) (CH_pw t _ h4)
    have := (CH_in t _ h4 y hy).2
    omega
theorem asc_lt {nd : T_Nd} {m : T_Mo} {n : Nat} {kf : Nat → List Nat} {asc : List Nat} (f : FK nd m n kf asc) {j k : Nat} (hk : k < asc.length) (h : j < k) : asc[j] < asc[k] := by
  have pw : asc.Pairwise (fun x y => x < y) := by
    have := CH_pw _ _ f.2.2.2.2.2.2.2.2.2
    rw [List.pairwise_reverse] at this
    exact this
  exact List.pairwise_iff_getElem.mp pw j k (by omega) hk h
theorem tp_ord {nm : T_Nm} {nd : T_Nd} {m : T_Mo} {n c : Nat} {kf : Nat → List Nat} {asc : List Nat} (a : PA nm nd m n c kf asc) {r p : Nat} (hr : r ∈ asc) (hp : p ∈ asc) (kr : ¬ nd.1 r = 24) (kp : nd.1 p = 24) : p < r := by
  obtain ⟨t0, tp⟩ := tp_step a.1 a.2.2.1
  obtain ⟨j, hj, ej⟩ := List.getElem_of_mem hr
  obtain ⟨k, hk, ek⟩ := List.getElem_of_mem hp
  rw [← ej] at kr
  rw [← ek] at kp
  have b1 : ¬ j < t0 := fun q => kr ((tp j hj).mpr q)
  have b2 := (tp k hk).mp kp
  rw [← ej, ← ek]
  exact asc_lt a.1 hj (by omega)
theorem step_uq {nm : T_Nm} {nd : T_Nd} {m : T_Mo} {n c : Nat} {kf : Nat → List Nat} {asc : List Nat} (a : PA nm nd m n c kf asc) {p q : Nat} (hp : p < n) (hq : q < n) (kp : nd.1 p = 24) (kq : nd.1 q = 24) (e : (nd.2.2.1 p).toInt = (nd.2.2.1 q).toInt) : p = q := by
  have hs := a.2.2.2.2.2.2.2.2.1
  rcases Nat.lt_trichotomy p q with w | w | w
  · obtain ⟨t, t1, t2, t3, t4⟩ := hs q hq kq
    have := t4 p w (Or.inr kp)
    omega
  · exact w
  · obtain ⟨t, t1, t2, t3, t4⟩ := hs p hp kp
    have := t4 q w (Or.inr kq)
    omega
/-- what lies in a statement outside of steps is done -/
theorem dn_top {nm : T_Nm} {nd : T_Nd} {m : T_Mo} {n c : Nat} {kf : Nat → List Nat} {asc : List Nat} (a : PA nm nd m n c kf asc) {r i : Nat} (hr : r ∈ asc) (kr : ¬ nd.1 r = 24) (h1 : (nd.2.2.2.2.1 r).toNatClampNeg ≤ i) : DN nd.1 nd.2.2.1 n nm.2.2.2.1 (i + 1) := by
  intro p p1 p2 p3 p4 t e
  have := tp_ord a hr (step_top a p2 p3) kr p3
  exact absurd p3 (no24 a (asc_n a.1 hr) (by omega) this)
/-- what lies in a step is done if the step is -/
theorem dn_step {nm : T_Nm} {nd : T_Nd} {m : T_Mo} {n c : Nat} {kf : Nat → List Nat} {asc : List Nat} (a : PA nm nd m n c kf asc) {p i t : Nat} (hp : p < n) (kp : nd.1 p = 24) (e : (nd.2.2.1 p).toInt = (t : Int)) (h1 : (nd.2.2.2.2.1 p).toNatClampNeg ≤ i) (h2 : i < p) : DN nd.1 nd.2.2.1 n nm.2.2.2.1 (i + 1) ↔ ¬ nm.2.2.2.1 t = 0 := by
  constructor
  · intro d
    exact d p (by omega) hp kp (fun q q1 q2 => no24 a hp (by omega) q2) t e
  · intro u q q1 q2 q3 q4 t' e'
    rcases Nat.lt_trichotomy q p with w | w | w
    · exact absurd q3 (no24 a hp (by omega) w)
    · subst w
      have : t' = t := by rw [e] at e'; omega
      rw [this]; exact u
    · exact absurd kp (q4 p (by omega) w)
/-- all that is done within a node is marked -/
def AL (nd : T_Nd) (M : Nat → Int32) (a : Nat) : Prop := ∀ i, (nd.2.2.2.2.1 a).toNatClampNeg ≤ i → i ≤ a → nd.1 i = 19 → ∀ s : Nat, s < 100 → (nd.2.2.1 i).toInt = (s : Int) → ¬ M s = 0
theorem AL_mono {nd : T_Nd} {M M' : Nat → Int32} {a : Nat} (h : AL nd M a) (k : ∀ s, s < 100 → ¬ M s = 0 → ¬ M' s = 0) : AL nd M' a := fun i i1 i2 i3 s s1 s2 => k s s1 (h i i1 i2 i3 s s1 s2)
theorem AL_kid {nd : T_Nd} {m : T_Mo} {n : Nat} {kf : Nat → List Nat} {asc : List Nat} (f : FK nd m n kf asc) {U : Nat → Int32} {a k : Nat} (ha : a < n) (hk : k ∈ kf a) (h : AL nd U a) : AL nd U k := by
  have kl := kl_lt f ha hk
  obtain ⟨-, -, -, -, per, -⟩ := f
  obtain ⟨-, -, b, -, -, -, -, -, ch⟩ := per a ha
  have lo := CH_lows _ _ ch k (List.mem_reverse.mpr hk)
  exact fun i i1 i2 => h i (by omega) (by omega)
theorem AL_node {nd : T_Nd} {m : T_Mo} {n : Nat} {kf : Nat → List Nat} {asc : List Nat} (f : FK nd m n kf asc) {M : Nat → Int32} {a : Nat} (ha : a < n) (h : ∀ k, k ∈ kf a → AL nd M k) (own : nd.1 a = 19 → ∀ s : Nat, s < 100 → (nd.2.2.1 a).toInt = (s : Int) → ¬ M s = 0) : AL nd M a := by
  obtain ⟨-, -, -, -, per, -⟩ := f
  obtain ⟨-, -, b, -, -, -, -, -, ch⟩ := per a ha
  intro i i1 i2
  rcases Nat.lt_or_ge i a with q | q
  · obtain ⟨k, k1, k2, k3⟩ := CH_cover _ _ ch i i1 q
    exact h k (List.mem_reverse.mp k1) i k2 k3
  · have e : i = a := by omega
    subst e
    exact own
def CL (nd : T_Nd) (m : T_Mo) (n : Nat) (M : Nat → Int32) (s : Nat) : Prop := ∀ p, p < n → m.2.1.2.2.2.1 (Ns ((1 : Int32) - m.1.2.1.2.1) + s) = Int32.ofNat p → AL nd M p
/-- from the marks M to the marks M', the nodes of ls have been reached -/
def MS (nd : T_Nd) (m : T_Mo) (n : Nat) (U M M' : Nat → Int32) (ls : List Nat) : Prop := (∀ s, s < 100 → ¬ M s = 0 → ¬ M' s = 0) ∧ ((∀ k, k ∈ ls → AL nd U k) → (∀ s, s < 100 → ¬ M s = 0 → ¬ U s = 0) → ∀ s, s < 100 → ¬ M' s = 0 → ¬ U s = 0) ∧ (∀ k, k ∈ ls → AL nd M' k) ∧ ∀ s, s < 100 → ¬ M' s = 0 → ¬ M s = 0 ∨ CL nd m n M' s
theorem MS_nil {nd : T_Nd} {m : T_Mo} {n : Nat} {U M : Nat → Int32} : MS nd m n U M M [] := ⟨fun _ _ h => h, fun _ h => h, fun k hk => absurd hk List.not_mem_nil, fun _ _ h => Or.inl h⟩
theorem MS_cons {nd : T_Nd} {m : T_Mo} {n k : Nat} {U M M1 M2 : Nat → Int32} {l : List Nat} (h : MS nd m n U M M1 [k]) (g : MS nd m n U M1 M2 l) : MS nd m n U M M2 (k :: l) := by
  obtain ⟨h1, h2, h3, h4⟩ := h
  obtain ⟨g1, g2, g3, g4⟩ := g
  refine ⟨fun s s1 q => g1 s s1 (h1 s s1 q), fun al so => g2 (fun j hj => al j (List.mem_cons_of_mem _ hj)) (h2 (fun j hj => by rw [List.mem_singleton.mp hj]; exact al k List.mem_cons_self) so), fun j hj => ?_, fun s s1 q => ?_⟩
  · rcases List.mem_cons.mp hj with e | e
    · rw [e]; exact AL_mono (h3 k List.mem_cons_self) g1
    · exact g3 j e
  · rcases g4 s s1 q with z | z
    · rcases h4 s s1 z with w | w
      · exact Or.inl w
      · exact Or.inr (fun p p1 p2 => AL_mono (w p p1 p2) g1)
    · exact Or.inr z
/-- what a call of reach does -/
def RF (nd : T_Nd) (m : T_Mo) (n : Nat) (U : Nat → Int32) (rf : T_Mo → Int32 → (Unit → T_Mo → Prop) → Prop) : Prop := ∀ (a : Nat) (M : Nat → Int32) (post : Unit → T_Mo → Prop), a < n → rf (((((m.1.1.1.1.1, m.1.1.1.1.2), (m.1.1.1.2.1, (m.1.1.1.2.2.1, m.1.1.1.2.2.2))), ((m.1.1.2.1.1, m.1.1.2.1.2), (m.1.1.2.2.1, (m.1.1.2.2.2.1, m.1.1.2.2.2.2)))), (((m.1.2.1.1.1, m.1.2.1.1.2), (m.1.2.1.2.1, (m.1.2.1.2.2.1, m.1.2.1.2.2.2))), ((m.1.2.2.1.1, (m.1.2.2.1.2.1, m.1.2.2.1.2.2)), (m.1.2.2.2.1, (m.1.2.2.2.2.1, m.1.2.2.2.2.2))))), ((((m.2.1.1.1.1, m.2.1.1.1.2), (m.2.1.1.2.1, (m.2.1.1.2.2.1, m.2.1.1.2.2.2))), ((m.2.1.2.1.1, m.2.1.2.1.2), (m.2.1.2.2.1, (m.2.1.2.2.2.1, m.2.1.2.2.2.2)))), (((m.2.2.1.1.1, m.2.2.1.1.2), (m.2.2.1.2.1, (m.2.2.1.2.2.1, m.2.2.1.2.2.2))), ((m.2.2.2.1.1, (M, m.2.2.2.1.2.2)), (m.2.2.2.2.1, (m.2.2.2.2.2.1, m.2.2.2.2.2.2)))))) (Int32.ofNat a) post → ∃ M', post () (((((m.1.1.1.1.1, m.1.1.1.1.2), (m.1.1.1.2.1, (m.1.1.1.2.2.1, m.1.1.1.2.2.2))), ((m.1.1.2.1.1, m.1.1.2.1.2), (m.1.1.2.2.1, (m.1.1.2.2.2.1, m.1.1.2.2.2.2)))), (((m.1.2.1.1.1, m.1.2.1.1.2), (m.1.2.1.2.1, (m.1.2.1.2.2.1, m.1.2.1.2.2.2))), ((m.1.2.2.1.1, (m.1.2.2.1.2.1, m.1.2.2.1.2.2)), (m.1.2.2.2.1, (m.1.2.2.2.2.1, m.1.2.2.2.2.2))))), ((((m.2.1.1.1.1, m.2.1.1.1.2), (m.2.1.1.2.1, (m.2.1.1.2.2.1, m.2.1.1.2.2.2))), ((m.2.1.2.1.1, m.2.1.2.1.2), (m.2.1.2.2.1, (m.2.1.2.2.2.1, m.2.1.2.2.2.2)))), (((m.2.2.1.1.1, m.2.2.1.1.2), (m.2.2.1.2.1, (m.2.2.1.2.2.1, m.2.2.1.2.2.2))), ((m.2.2.2.1.1, (M', m.2.2.2.1.2.2)), (m.2.2.2.2.1, (m.2.2.2.2.2.1, m.2.2.2.2.2.2)))))) ∧ MS nd m n U M M' [a]
theorem iv_reach_L {nm : T_Nm} {nd : T_Nd} {m : T_Mo} {n c : Nat} {kf : Nat → List Nat} {asc : List Nat} (pa : PA nm nd m n c kf asc) {rf : T_Mo → Int32 → (Unit → T_Mo → Prop) → Prop} (hrf : RF nd m n nm.2.2.2.1 rf) {a : Nat} (ha : a < n) {K : T_Mo → Int32 → Int32 → Prop} {post : Unit → T_Mo → Prop} : ∀ (t : List Nat) (s g : Nat) (M : Nat → Int32), wp_Mo_reach_L63 rf K post g (((((m.1.1.1.1.1, m.1.1.1.1.2), (m.1.1.1.2.1, (m.1.1.1.2.2.1, m.1.1.1.2.2.2))), ((m.1.1.2.1.1, m.1.1.2.1.2), (m.1.1.2.2.1, (m.1.1.2.2.2.1, m.1.1.2.2.2.2)))), (((m.1.2.1.1.1, m.1.2.1.1.2), (m.1.2.1.2.1, (m.1.2.1.2.2.1, m.1.2.1.2.2.2))), ((m.1.2.2.1.1, (m.1.2.2.1.2.1, m.1.2.2.1.2.2)), (m.1.2.2.2.1, (m.1.2.2.2.2.1, m.1.2.2.2.2.2))))), ((((m.2.1.1.1.1, m.2.1.1.1.2), (m.2.1.1.2.1, (m.2.1.1.2.2.1, m.2.1.1.2.2.2))), ((m.2.1.2.1.1, m.2.1.2.1.2), (m.2.1.2.2.1, (m.2.1.2.2.2.1, m.2.1.2.2.2.2)))), (((m.2.2.1.1.1, m.2.2.1.1.2), (m.2.2.1.2.1, (m.2.2.1.2.2.1, m.2.2.1.2.2.2))), ((m.2.2.2.1.1, (M, m.2.2.2.1.2.2)), (m.2.2.2.2.1, (m.2.2.2.2.2.1, m.2.2.2.2.2.2)))))) (Int32.ofNat a) (Int32.ofNat s) → s + t.length = (kf a).length → (∀ j (h1 : j < t.length) (h2 : s + j < (kf a).length), t[j] = (kf a)[s + j]) → ∃ M' y, K (((((m.1.1.1.1.1, m.1.1.1.1.2), (m.1.1.1.2.1, (m.1.1.1.2.2.1, m.1.1.1.2.2.2))), ((m.1.1.2.1.1, m.1.1.2.1.2), (m.1.1.2.2.1, (m.1.1.2.2.2.1, m.1.1.2.2.2.2)))), (((m.1.2.1.1.1, m.1.2.1.1.2), (m.1.2.1.2.1, (m.1.2.1.2.2.1, m.1.2.1.2.2.2))), ((m.1.2.2.1.1, (m.1.2.2.1.2.1, m.1.2.2.1.2.2)), (m.1.2.2.2.1, (m.1.2.2.2.2.1, m.1.2.2.2.2.2))))), ((((m.2.1.1.1.1, m.2.1.1.1.2), (m.2.1.1.2.1, (m.2.1.1.2.2.1, m.2.1.1.2.2.2))), ((m.2.1.2.1.1, m.2.1.2.1.2), (m.2.1.2.2.1, (m.2.1.2.2.2.1, m.2.1.2.2.2.2)))), (((m.2.2.1.1.1, m.2.2.1.1.2), (m.2.2.1.2.1, (m.2.2.1.2.2.1, m.2.2.1.2.2.2))), ((m.2.2.2.1.1, (M', m.2.2.2.1.2.2)), (m.2.2.2.2.1, (m.2.2.2.2.2.1, m.2.2.2.2.2.2)))))) (Int32.ofNat a) y ∧ MS nd m n nm.2.2.2.1 M M' t := by
  intro t
  have f0 := pa.1
  obtain ⟨hh, e1, e2, n9, per, -⟩ := pa.1
  obtain ⟨p1, -, b, p2, p3, p4, p5, -⟩ := per a ha
  induction t with
  | nil =>
    intro s g M h es _
    cases g with
    | zero => exact False.elim h
    | succ g =>
    rw [wp_Mo_reach_L63] at h
    unfold wp_Mo_node1 at h
    try dsimp only at h
    replace h := h.2
    rw [no_ix hh (by omega), p3] at h
    have es' : s = (kf a).length := es
    exact ⟨_, _, h.1 (by rw [on_le (by omega) (by omega)]; omega), MS_nil⟩
  | cons k t ih =>
    intro s g M h es et
    cases g with
    | zero => exact False.elim h
    | succ g =>
    rw [List.length_cons] at es
    rw [wp_Mo_reach_L63] at h
    unfold wp_Mo_kid wp_Mo_node1 at h
    try dsimp only at h
    replace h := h.2
    rw [no_ix hh (by omega), p3] at h
    replace h := (h.2 (by rw [on_le (by omega) (by omega)]; omega)).2.2
    have sk : s < (kf a).length := by omega
    have ek : k = (kf a)[s] := et 0 (by rw [List.length_cons]; omega) (by omega)
    have kn : k < n := by have := kl_lt (k := k) f0 ha (by rw [ek]; exact List.getElem_mem sk); omega
    rw [p2, kid_ix hh (by omega), KL_get _ _ p4 s sk, ← ek, on_succ (by omega)] at h
    have et' : ∀ j (h1 : j < t.length) (h2 : s + 1 + j < (kf a).length), t[j] = (kf a)[s + 1 + j] := fun j h1 h2 => by
      have := et (j + 1) (by rw [List.length_cons]; omega) (by omega)
      rw [List.getElem_cons_succ] at this
      rw [this]
      congr 1
      omega
    obtain ⟨M1, h, ms⟩ := hrf k M _ kn h
    obtain ⟨M2, y, h, ms2⟩ := ih (s + 1) g M1 h (by omega) et'
    exact ⟨M2, y, h, MS_cons ms ms2⟩
set_option maxHeartbeats 1000000 in
theorem iv_reach_F {nm : T_Nm} {nd : T_Nd} {m : T_Mo} {n c : Nat} {kf : Nat → List Nat} {asc : List Nat} (pa : PA nm nd m n c kf asc) {rf : T_Mo → Int32 → (Unit → T_Mo → Prop) → Prop} (hrf : RF nd m n nm.2.2.2.1 rf) : RF nd m n nm.2.2.2.1 (wp_Mo_reach_F rf) := by
  intro a M post ha h
  have f0 := pa.1
  obtain ⟨hh, e1, e2, n9, per, -⟩ := pa.1
  obtain ⟨p1, pv, -⟩ := per a ha
  have al : ∀ {V : Nat → Int32}, (∀ k, k ∈ [a] → AL nd V k) → AL nd V a := fun q => q a List.mem_cons_self
  have one : ∀ {V : Nat → Int32}, AL nd V a → ∀ k, k ∈ [a] → AL nd V k := fun q k hk => by rw [List.mem_singleton.mp hk]; exact q
  unfold wp_Mo_reach_F wp_Mo_node1 at h
  try dsimp only at h
  replace h := h.2
  rw [no_ix hh (by omega), ← p1] at h
  rcases br_el h with ⟨q, h⟩ | ⟨q, h⟩
  · replace h := h.2.2
    rw [← pv] at h
    obtain ⟨s, s1, s2, s3⟩ := pa.2.2.2.2.2.2.2.1 a ha (Or.inr (Or.inr (Or.inr (Or.inr q))))
    have c9 := pa.2.2.2.2.2.1
    have ms1 : ∀ {s' : Nat}, (nd.2.2.1 a).toInt = (s' : Int) → s' = s := fun z => by rw [s2] at z; omega
    rw [v_nat s2 (by omega), ix_on (by omega)] at h
    rcases br_el h with ⟨w, h⟩ | ⟨w, h⟩
    · replace h := h.2.2
      obtain ⟨p, pn, q2, q3, q4⟩ := pa.2.2.2.2.2.2.2.2.2.2.2 s s1 (s3 q)
      rw [nn_ix hh (by omega), q2] at h
      obtain ⟨M2, h, m1, m2, m3, m4⟩ := hrf p _ _ pn h
      obtain ⟨g, h⟩ := h
      obtain ⟨M3, y, h, k1, k2, k3, k4⟩ := iv_reach_L pa hrf ha (kf a) 0 g M2 h (by omega) (fun j h1 h2 => by congr 1; omega)
      have up : ∀ s', s' < 100 → ¬ M s' = 0 → ¬ upd M s (vp_nar .boolean (1 : Int32)) s' = 0 := fun s' _ z => by
        by_cases e : s' = s
        · rw [e, upd_at]; decide
        · rw [upd_ne e]; exact z
      have us : ¬ upd M s (vp_nar .boolean (1 : Int32)) s = 0 := by rw [upd_at]; decide
      have u3 : ∀ s', s' < 100 → ¬ upd M s (vp_nar .boolean (1 : Int32)) s' = 0 → ¬ M3 s' = 0 := fun s' z1 z2 => k1 s' z1 (m1 s' z1 z2)
      refine ⟨M3, h, fun s' z1 z2 => u3 s' z1 (up s' z1 z2), fun ua so => ?_, one (AL_node f0 ha k3 (fun _ s' _ z => by rw [ms1 z]; exact u3 s (by omega) us)), fun s' z1 z2 => ?_⟩
      · have ua := al ua
        have Us : ¬ nm.2.2.2.1 s = 0 := ua a (by have := (CH_low _ _ (per a ha).2.2.choose_spec.2.2.2.2.2); omega) (Nat.le_refl _) q s (by omega) s2
        have so1 : ∀ s', s' < 100 → ¬ upd M s (vp_nar .boolean (1 : Int32)) s' = 0 → ¬ nm.2.2.2.1 s' = 0 := fun s' z1 z2 => by
          by_cases e : s' = s
          · rw [e]; exact Us
          · rw [upd_ne e] at z2; exact so s' z1 z2
        have alp : AL nd nm.2.2.2.1 p := by
          intro i i1 i2 i3 s' z1 z2
          have ip : i < p := by
            rcases Nat.lt_or_ge i p with z | z
            · exact z
            · have e : i = p := by omega
              rw [e, q3] at i3; exact absurd i3 (by decide)
          obtain ⟨j, j1, j2, j3⟩ := pa.2.2.2.2.2.2.2.1 i (by omega) (Or.inr (Or.inr (Or.inr (Or.inr i3))))
          have ej : j = s' := by rw [z2] at j2; omega
          subst ej
          exact (pa.2.2.2.2.2.2.2.2.2.2.1 j j1 (j3 i3)).mpr ⟨i, by omega, i3, z2, (dn_step pa pn q3 q4 i1 ip).mpr Us⟩
        have so2 := m2 (fun k hk => by rw [List.mem_singleton.mp hk]; exact alp) so1
        exact k2 (fun k hk => AL_kid f0 ha hk ua) so2
      · rcases k4 s' z1 z2 with z | z
        · rcases m4 s' z1 z with z | z
          · by_cases e : s' = s
            · refine Or.inr (fun p' p1' p2' => ?_)
              rw [e, q2] at p2'
              have ep : p' = p := on_inj (by omega) (by omega) p2'.symm
              rw [ep]
              exact AL_mono (m3 p List.mem_cons_self) k1
            · rw [upd_ne e] at z; exact Or.inl z
          · exact Or.inr (fun p' a b => AL_mono (z p' a b) k1)
        · exact Or.inr z
    · obtain ⟨g, h⟩ := h
      obtain ⟨M3, y, h, k1, k2, k3, k4⟩ := iv_reach_L pa hrf ha (kf a) 0 g M h (by omega) (fun j h1 h2 => by congr 1; omega)
      exact ⟨M3, h, k1, fun ua so => k2 (fun k hk => AL_kid f0 ha hk (al ua)) so, one (AL_node f0 ha k3 (fun _ s' _ z => by rw [ms1 z]; exact k1 s (by omega) w)), k4⟩
  · obtain ⟨g, h⟩ := h
    obtain ⟨M3, y, h, k1, k2, k3, k4⟩ := iv_reach_L pa hrf ha (kf a) 0 g M h (by omega) (fun j h1 h2 => by congr 1; omega)
    exact ⟨M3, h, k1, fun ua so => k2 (fun k hk => AL_kid f0 ha hk (al ua)) so, one (AL_node f0 ha k3 (fun z => absurd z q)), k4⟩
theorem iv_reach {nm : T_Nm} {nd : T_Nd} {m : T_Mo} {n c : Nat} {kf : Nat → List Nat} {asc : List Nat} (pa : PA nm nd m n c kf asc) : ∀ d : Nat, RF nd m n nm.2.2.2.1 (wp_Mo_reach d)
  | 0 => fun a M post ha h => False.elim h
  | d + 1 => iv_reach_F pa (iv_reach pa d)
theorem iv_ck17 {d : Nat} {x1 x2 : Int32} {K : T_Mo → Int32 → Int32 → Int32 → Prop} {post : Int32 → T_Mo → Prop} {m : T_Mo} : ∀ (e s g : Nat) (M : Nat → Int32), s + e = 100 → wp_Mo_check_L17 d K post g (((((m.1.1.1.1.1, m.1.1.1.1.2), (m.1.1.1.2.1, (m.1.1.1.2.2.1, m.1.1.1.2.2.2))), ((m.1.1.2.1.1, m.1.1.2.1.2), (m.1.1.2.2.1, (m.1.1.2.2.2.1, m.1.1.2.2.2.2)))), (((m.1.2.1.1.1, m.1.2.1.1.2), (m.1.2.1.2.1, (m.1.2.1.2.2.1, m.1.2.1.2.2.2))), ((m.1.2.2.1.1, (m.1.2.2.1.2.1, m.1.2.2.1.2.2)), (m.1.2.2.2.1, (m.1.2.2.2.2.1, m.1.2.2.2.2.2))))), ((((m.2.1.1.1.1, m.2.1.1.1.2), (m.2.1.1.2.1, (m.2.1.1.2.2.1, m.2.1.1.2.2.2))), ((m.2.1.2.1.1, m.2.1.2.1.2), (m.2.1.2.2.1, (m.2.1.2.2.2.1, m.2.1.2.2.2.2)))), (((m.2.2.1.1.1, m.2.2.1.1.2), (m.2.2.1.2.1, (m.2.2.1.2.2.1, m.2.2.1.2.2.2))), ((m.2.2.2.1.1, (M, m.2.2.2.1.2.2)), (m.2.2.2.2.1, (m.2.2.2.2.2.1, m.2.2.2.2.2.2)))))) x1 x2 (Int32.ofNat s) → (∀ j, j < s → M j = 0) → ∃ M' y, K (((((m.1.1.1.1.1, m.1.1.1.1.2), (m.1.1.1.2.1, (m.1.1.1.2.2.1, m.1.1.1.2.2.2))), ((m.1.1.2.1.1, m.1.1.2.1.2), (m.1.1.2.2.1, (m.1.1.2.2.2.1, m.1.1.2.2.2.2)))), (((m.1.2.1.1.1, m.1.2.1.1.2), (m.1.2.1.2.1, (m.1.2.1.2.2.1, m.1.2.1.2.2.2))), ((m.1.2.2.1.1, (m.1.2.2.1.2.1, m.1.2.2.1.2.2)), (m.1.2.2.2.1, (m.1.2.2.2.2.1, m.1.2.2.2.2.2))))), ((((m.2.1.1.1.1, m.2.1.1.1.2), (m.2.1.1.2.1, (m.2.1.1.2.2.1, m.2.1.1.2.2.2))), ((m.2.1.2.1.1, m.2.1.2.1.2), (m.2.1.2.2.1, (m.2.1.2.2.2.1, m.2.1.2.2.2.2)))), (((m.2.2.1.1.1, m.2.2.1.1.2), (m.2.2.1.2.1, (m.2.2.1.2.2.1, m.2.2.1.2.2.2))), ((m.2.2.2.1.1, (M', m.2.2.2.1.2.2)), (m.2.2.2.2.1, (m.2.2.2.2.2.1, m.2.2.2.2.2.2)))))) x1 x2 y ∧ ∀ j, j < 100 → M' j = 0 := by
  intro e
  induction e with
  | zero =>
    intro s g M es h hz
    cases g with
    | zero => exact False.elim h
    | succ g =>
    rw [wp_Mo_check_L17] at h
    exact ⟨M, _, h.1 (by rw [show (100 : Int32) = Int32.ofNat 100 from rfl, on_le (by omega) (by omega)]; omega), fun j hj => hz j (by omega)⟩
  | succ e ih =>
    intro s g M es h hz
    cases g with
    | zero => exact False.elim h
    | succ g =>
    rw [wp_Mo_check_L17] at h
    replace h := (h.2 (by rw [show (100 : Int32) = Int32.ofNat 100 from rfl, on_le (by omega) (by omega)]; omega)).2
    rw [ix_on (by omega), on_succ (by omega)] at h
    refine ih (s + 1) g _ (by omega) h (fun j hj => ?_)
    rcases Nat.lt_or_ge j s with q | q
    · rw [upd_ne (by omega)]; exact hz j q
    · have ej : j = s := by omega
      rw [ej, upd_at]; decide
theorem iv_ck38 {nm : T_Nm} {nd : T_Nd} {m : T_Mo} {n c : Nat} {kf : Nat → List Nat} {asc : List Nat} (pa : PA nm nd m n c kf asc) {d : Nat} {x1 x2 : Int32} {K : T_Mo → Int32 → Int32 → Int32 → Prop} {post : Int32 → T_Mo → Prop} : ∀ (t : List Nat) (s g : Nat) (M : Nat → Int32), wp_Mo_check_L38 d K post g (((((m.1.1.1.1.1, m.1.1.1.1.2), (m.1.1.1.2.1, (m.1.1.1.2.2.1, m.1.1.1.2.2.2))), ((m.1.1.2.1.1, m.1.1.2.1.2), (m.1.1.2.2.1, (m.1.1.2.2.2.1, m.1.1.2.2.2.2)))), (((m.1.2.1.1.1, m.1.2.1.1.2), (m.1.2.1.2.1, (m.1.2.1.2.2.1, m.1.2.1.2.2.2))), ((m.1.2.2.1.1, (m.1.2.2.1.2.1, m.1.2.2.1.2.2)), (m.1.2.2.2.1, (m.1.2.2.2.2.1, m.1.2.2.2.2.2))))), ((((m.2.1.1.1.1, m.2.1.1.1.2), (m.2.1.1.2.1, (m.2.1.1.2.2.1, m.2.1.1.2.2.2))), ((m.2.1.2.1.1, m.2.1.2.1.2), (m.2.1.2.2.1, (m.2.1.2.2.2.1, m.2.1.2.2.2.2)))), (((m.2.2.1.1.1, m.2.2.1.1.2), (m.2.2.1.2.1, (m.2.2.1.2.2.1, m.2.2.1.2.2.2))), ((m.2.2.2.1.1, (M, m.2.2.2.1.2.2)), (m.2.2.2.2.1, (m.2.2.2.2.2.1, m.2.2.2.2.2.2)))))) x1 x2 (Int32.ofNat s) → s + t.length = asc.length → KL m.2.1.1.1.2 (Bs ((1 : Int32) - m.1.2.1.2.1) + s) t → (∀ k, k ∈ t → k ∈ asc) → ∃ M' y ls, K (((((m.1.1.1.1.1, m.1.1.1.1.2), (m.1.1.1.2.1, (m.1.1.1.2.2.1, m.1.1.1.2.2.2))), ((m.1.1.2.1.1, m.1.1.2.1.2), (m.1.1.2.2.1, (m.1.1.2.2.2.1, m.1.1.2.2.2.2)))), (((m.1.2.1.1.1, m.1.2.1.1.2), (m.1.2.1.2.1, (m.1.2.1.2.2.1, m.1.2.1.2.2.2))), ((m.1.2.2.1.1, (m.1.2.2.1.2.1, m.1.2.2.1.2.2)), (m.1.2.2.2.1, (m.1.2.2.2.2.1, m.1.2.2.2.2.2))))), ((((m.2.1.1.1.1, m.2.1.1.1.2), (m.2.1.1.2.1, (m.2.1.1.2.2.1, m.2.1.1.2.2.2))), ((m.2.1.2.1.1, m.2.1.2.1.2), (m.2.1.2.2.1, (m.2.1.2.2.2.1, m.2.1.2.2.2.2)))), (((m.2.2.1.1.1, m.2.2.1.1.2), (m.2.2.1.2.1, (m.2.2.1.2.2.1, m.2.2.1.2.2.2))), ((m.2.2.2.1.1, (M', m.2.2.2.1.2.2)), (m.2.2.2.2.1, (m.2.2.2.2.2.1, m.2.2.2.2.2.2)))))) x1 x2 y ∧ MS nd m n nm.2.2.2.1 M M' ls ∧ (∀ k, k ∈ ls → k ∈ t ∧ ¬ nd.1 k = 24) ∧ (∀ k, k ∈ t → ¬ nd.1 k = 24 → k ∈ ls) := by
  intro t
  have f0 := pa.1
  obtain ⟨hh, e1, e2, n9, per, t1, t2, -⟩ := pa.1
  induction t with
  | nil =>
    intro s g M h es _ _
    cases g with
    | zero => exact False.elim h
    | succ g =>
    rw [wp_Mo_check_L38] at h
    replace h := h.1 (by
      show m.2.2.1.1.1 ≤ Int32.ofNat s
      have es' : s = asc.length := es
      rw [t1, on_le (by omega) (by omega)]; omega)
    exact ⟨M, _, [], h, MS_nil, fun k hk => absurd hk List.not_mem_nil, fun k hk => absurd hk List.not_mem_nil⟩
  | cons k t ih =>
    intro s g M h es kl ka
    cases g with
    | zero => exact False.elim h
    | succ g =>
    rw [List.length_cons] at es
    rw [wp_Mo_check_L38] at h
    replace h := (h.2 (by
      show ¬ m.2.2.1.1.1 ≤ Int32.ofNat s
      rw [t1, on_le (by omega) (by omega)]; omega)).2
    have kn := asc_n f0 (ka k List.mem_cons_self)
    unfold wp_Mo_node1 at h
    try dsimp only at h
    replace h := h.2
    rw [no_ix hh (by omega), kl.1, no_ix hh (by omega), on_succ (by omega), ← (per k kn).1] at h
    rcases br_el h with ⟨q, h⟩ | ⟨q, h⟩
    · obtain ⟨M', y, ls, h, ms, l1, l2⟩ := ih (s + 1) g M h (by omega) kl.2 (fun j hj => ka j (List.mem_cons_of_mem _ hj))
      refine ⟨M', y, ls, h, ms, fun j hj => ⟨List.mem_cons_of_mem _ (l1 j hj).1, (l1 j hj).2⟩, fun j hj z => ?_⟩
      rcases List.mem_cons.mp hj with e | e
      · rw [e] at z; exact absurd q z
      · exact l2 j e z
    · obtain ⟨M1, h, ms1⟩ := iv_reach pa d k M _ kn h
      obtain ⟨M', y, ls, h, ms, l1, l2⟩ := ih (s + 1) g M1 h (by omega) kl.2 (fun j hj => ka j (List.mem_cons_of_mem _ hj))
      refine ⟨M', y, k :: ls, h, MS_cons ms1 ms, fun j hj => ?_, fun j hj z => ?_⟩
      · rcases List.mem_cons.mp hj with e | e
        · rw [e]; exact ⟨List.mem_cons_self, q⟩
        · exact ⟨List.mem_cons_of_mem _ (l1 j e).1, (l1 j e).2⟩
      · rcases List.mem_cons.mp hj with e | e
        · rw [e]; exact List.mem_cons_self
        · exact List.mem_cons_of_mem _ (l2 j e z)
/-- the marks are the steps that are used -/
theorem mk_used {nm : T_Nm} {nd : T_Nd} {m : T_Mo} {n c : Nat} {kf : Nat → List Nat} {asc : List Nat} (pa : PA nm nd m n c kf asc) {M M' : Nat → Int32} {ls : List Nat} (z0 : ∀ j, j < 100 → M j = 0) (ms : MS nd m n nm.2.2.2.1 M M' ls) (l1 : ∀ k, k ∈ ls → k ∈ asc ∧ ¬ nd.1 k = 24) (l2 : ∀ k, k ∈ asc → ¬ nd.1 k = 24 → k ∈ ls) : ∀ s, s < c → nm.2.1 s = 215 → (¬ M' s = 0 ↔ ¬ nm.2.2.2.1 s = 0) := by
  obtain ⟨m1, m2, m3, m4⟩ := ms
  have c9 := pa.2.2.2.2.2.1
  have hk := pa.2.2.2.2.2.2.2.1
  have hs := pa.2.2.2.2.2.2.2.2.1
  have hd := pa.2.2.2.2.2.2.2.2.2.2.1
  have sn := pa.2.2.2.2.2.2.2.2.2.2.2
  have sound := m2 (fun k hk2 => by
    obtain ⟨k1, k2⟩ := l1 k hk2
    have kn := asc_n pa.1 k1
    intro i i1 i2 i3 s s1 s2
    obtain ⟨j, j1, j2, j3⟩ := hk i (by omega) (Or.inr (Or.inr (Or.inr (Or.inr i3))))
    have ej : j = s := by rw [s2] at j2; omega
    subst ej
    exact (hd j j1 (j3 i3)).mpr ⟨i, by omega, i3, s2, dn_top pa k1 k2 i1⟩) (fun s s1 q => absurd (z0 s s1) q)
  have comp : ∀ (d s : Nat), c ≤ s + d → s < c → nm.2.1 s = 215 → ¬ nm.2.2.2.1 s = 0 → ¬ M' s = 0 := by
    intro d
    induction d with
    | zero => intro s h1 h2; omega
    | succ d ih =>
      intro s h1 h2 h3 h4
      obtain ⟨i, i1, i2, i3, i4⟩ := (hd s h2 h3).mp h4
      obtain ⟨r, r1, r2, r3, r4⟩ := in_top pa.1 i1
      by_cases kr : nd.1 r = 24
      · have ir : i < r := by
          rcases Nat.lt_or_ge i r with z | z
          · exact z
          · have e : i = r := by omega
            rw [e, kr] at i2; exact absurd i2 (by decide)
        obtain ⟨t, t1, t2, t3, t4⟩ := hs r r2 kr
        have lt := t4 i ir (Or.inl (Or.inr (Or.inr (Or.inr (Or.inr i2)))))
        have ut := (dn_step pa r2 kr t2 r3 ir).mp i4
        have mt := ih t (by omega) t1 t3 ut
        obtain ⟨p, p1, p2, p3, p4⟩ := sn t t1 t3
        have ep : p = r := step_uq pa p1 r2 p3 kr (by rw [p4, t2])
        rcases m4 t (by omega) mt with z | z
        · exact absurd (z0 t (by omega)) z
        · have := z p p1 p2
          rw [ep] at this
          exact this i r3 r4 i2 s (by omega) i3
      · exact m3 r (l2 r r1 kr) i r3 r4 i2 s (by omega) i3
  exact fun s s1 s2 => ⟨sound s (by omega), comp c s (by omega) s1 s2⟩

