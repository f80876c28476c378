/-- the node before k is done: the first step from k on is used, or there is none -/
def DN (kd : Nat → Int32) (vl : Nat → Int64) (n : Nat) (U : Nat → Int32) (k : Nat) : Prop := ∀ p, k ≤ p → p < n → kd p = 24 → (∀ q, k ≤ q → q < p → ¬ kd q = 24) → ∀ t : Nat, (vl p).toInt = (t : Int) → ¬ U t = 0
theorem DN_skip {kd : Nat → Int32} {vl : Nat → Int64} {n : Nat} {U : Nat → Int32} {i : Nat} (h : ¬ kd i = 24) : DN kd vl n U i ↔ DN kd vl n U (i + 1) := by
  constructor
  · intro d p p1 p2 p3 p4 t e
    refine d p (by omega) p2 p3 (fun q q1 q2 => ?_) t e
    by_cases z : q = i
    · rw [z]; exact h
    · exact p4 q (by omega) q2
  · intro d p p1 p2 p3 p4 t e
    have ne : p ≠ i := fun z => h (by rw [← z]; exact p3)
    exact d p (by omega) p2 p3 (fun q q1 q2 => p4 q (by omega) q2) t e
theorem DN_at {kd : Nat → Int32} {vl : Nat → Int64} {n : Nat} {U : Nat → Int32} {i t : Nat} (h : kd i = 24) (hi : i < n) (e : (vl i).toInt = (t : Int)) : DN kd vl n U i ↔ ¬ U t = 0 := by
  constructor
  · intro d
    exact d i (Nat.le_refl _) hi h (fun q q1 q2 => by omega) t e
  · intro d p p1 p2 p3 p4 t' e'
    have ep : p = i := by
      rcases Nat.lt_or_ge i p with z | z
      · exact absurd h (p4 i (Nat.le_refl _) z)
      · omega
    subst ep
    have et : t' = t := by rw [e] at e'; omega
    rw [et]; exact d
theorem DN_end {kd : Nat → Int32} {vl : Nat → Int64} {n : Nat} {U : Nat → Int32} : DN kd vl n U n := fun p p1 p2 => by omega
theorem DN_upd {kd : Nat → Int32} {vl : Nat → Int64} {n : Nat} {U : Nat → Int32} {k s : Nat} {x : Int32} (h : ∀ p, k ≤ p → p < n → kd p = 24 → ∀ t : Nat, (vl p).toInt = (t : Int) → ¬ t = s) : DN kd vl n (upd U s x) k ↔ DN kd vl n U k := by
  constructor
  · intro d p p1 p2 p3 p4 t e
    have := d p p1 p2 p3 p4 t e
    rw [upd_ne (h p p1 p2 p3 t e)] at this; exact this
  · intro d p p1 p2 p3 p4 t e
    rw [upd_ne (h p p1 p2 p3 t e)]
    exact d p p1 p2 p3 p4 t e
/-- the loop of useDoneSteps, nodes from k on behind it -/
def DI (nd : T_Nd) (S U0 : Nat → Int32) (c n : Nat) (nm : T_Nm) (x1 : Int32) (k : Nat) : Prop := nm.2.1 = S ∧ nm.2.2.2.2 = Int32.ofNat c ∧ (∀ j, j < c → ¬ S j = 215 → nm.2.2.2.1 j = U0 j) ∧ (∀ s, s < c → S s = 215 → (¬ nm.2.2.2.1 s = 0 ↔ ∃ i, k ≤ i ∧ i < n ∧ nd.1 i = 19 ∧ (nd.2.2.1 i).toInt = (s : Int) ∧ DN nd.1 nd.2.2.1 n nm.2.2.2.1 (i + 1))) ∧ (¬ x1 = 0 ↔ DN nd.1 nd.2.2.1 n nm.2.2.2.1 k)
theorem iv_subj {nd : T_Nd} {i n : Nat} {P : Int32 → Unit → Prop} (e : nd.2.2.2.2.2.2.2.2.2.2.1 = Int32.ofNat n) (n9 : n ≤ 1000) (hi : i < n) (h : wp_Nd_subjectOf nd (Int32.ofNat i) P) : P (nd.2.2.1 i).toInt32 () := by
  unfold wp_Nd_subjectOf wp_Nd_valueOf at h
  have h := ((iv_hasG e n9 hi h).2 (by decide)).2
  rw [ix_on (by omega)] at h
  exact h
theorem v_nat {v : Int64} {j : Nat} (e : v.toInt = (j : Int)) (j9 : j < 100) : v.toInt32 = Int32.ofNat j := by
  apply Int32.toInt_inj.mp
  rw [Int64.toInt_toInt32, e, on_toInt (by omega)]
  exact Int.bmod_eq_of_le (by omega) (by omega)
set_option maxHeartbeats 1000000 in
theorem ud_L {pr : T_Pr} {nd : T_Nd} {S U0 : Nat → Int32} {c n : Nat} {K : T_Nm → Int32 → Int32 → Prop} {post : Unit → T_Nm → Prop} (c9 : c ≤ 100) (n1 : nd.2.2.2.2.2.2.2.2.2.2.1 = Int32.ofNat n) (n9 : n ≤ 1000) (hk : ∀ i, i < n → UK (nd.1 i) → ∃ j, j < c ∧ (nd.2.2.1 i).toInt = (j : Int) ∧ (nd.1 i = 19 → S j = 215)) (hs : ∀ p, p < n → nd.1 p = 24 → ∃ t, t < c ∧ (nd.2.2.1 p).toInt = (t : Int) ∧ S t = 215 ∧ ∀ i, i < p → UK2 (nd.1 i) → (nd.2.2.1 i).toInt < (t : Int)) : ∀ (k f : Nat) (nm : T_Nm) (x1 x2 : Int32), wp_Pr_useDoneSteps_L12 pr nd K post f nm x1 x2 → k ≤ n → x2 = Int32.ofNat k - 1 → DI nd S U0 c n nm x1 k → ∃ nm' y1 y2, K nm' y1 y2 ∧ DI nd S U0 c n nm' y1 0 := by
  intro k
  induction k with
  | zero =>
    intro f nm x1 x2 h _ e d
    cases f with
    | zero => exact False.elim h
    | succ f =>
    rw [wp_Pr_useDoneSteps_L12] at h
    exact ⟨_, _, _, h.1 (by rw [e]; decide), d⟩
  | succ i ih =>
    intro f nm x1 x2 h hk1 e d
    cases f with
    | zero => exact False.elim h
    | succ f =>
    have hi : i < n := by omega
    have e' : x2 = Int32.ofNat i := by rw [e]; exact on_pred (by omega)
    have nx : Int32.ofNat i + (-1 : Int32) = Int32.ofNat i - 1 := by generalize Int32.ofNat i = x; grind
    have d0 := d
    obtain ⟨d1, d2, d3, d4, d5⟩ := d
    rw [wp_Pr_useDoneSteps_L12, e'] at h
    replace h := h.2 (on_n1 (by omega)).2.1
    unfold wp_Nd_kindOf at h
    replace h := ((iv_hasG n1 n9 hi h).2 (by decide)).2
    rw [ix_on (by omega), nx] at h
    rcases br_el h with ⟨q, h⟩ | ⟨q, h⟩
    · -- a step
      replace h := iv_subj n1 n9 hi h
      obtain ⟨t, t1, t2, t3, t4⟩ := hs i hi q
      rw [v_nat t2 (by omega)] at h
      unfold wp_Nm_isUsed at h
      replace h := ((iv_hasN h d2 t1 c9).2 (by decide)).2
      rw [ix_on (by omega)] at h
      have at_ := DN_at (U := nm.2.2.2.1) q hi t2
      have d4' : ∀ s, s < c → S s = 215 → (¬ nm.2.2.2.1 s = 0 ↔ ∃ j, i ≤ j ∧ j < n ∧ nd.1 j = 19 ∧ (nd.2.2.1 j).toInt = (s : Int) ∧ DN nd.1 nd.2.2.1 n nm.2.2.2.1 (j + 1)) := fun s s1 s2 => (d4 s s1 s2).trans ⟨fun ⟨j, j1, j2⟩ => ⟨j, by omega, j2⟩, fun ⟨j, j1, j2⟩ => ⟨j, by
        rcases Nat.lt_or_ge i j with z | z
        · omega
        · have : j = i := by omega
          rw [this, q] at j2; exact absurd j2.2.1 (by decide), j2⟩⟩
      rcases br_el h with ⟨z, h⟩ | ⟨z, h⟩
      · exact ih f _ _ _ h (by omega) rfl ⟨d1, d2, d3, d4', ⟨fun w => absurd rfl w, fun w => absurd z (at_.mp w)⟩⟩
      · exact ih f _ _ _ h (by omega) rfl ⟨d1, d2, d3, d4', ⟨fun _ => at_.mpr z, fun _ => by decide⟩⟩
    · have sk := DN_skip (vl := nd.2.2.1) (n := n) (U := nm.2.2.2.1) q
      rcases br_el h with ⟨q2, h⟩ | ⟨q2, h⟩
      · -- a do
        obtain ⟨s, s1, s2, s3⟩ := hk i hi (Or.inr (Or.inr (Or.inr (Or.inr q2))))
        rcases br_el h with ⟨z, h⟩ | ⟨z, h⟩
        · have nd1 : ¬ DN nd.1 nd.2.2.1 n nm.2.2.2.1 (i + 1) := fun w => (d5.mpr w) z
          refine ih f _ _ _ h (by omega) rfl ⟨d1, d2, d3, fun s' a b => (d4 s' a b).trans ⟨fun ⟨j, j1, j2⟩ => ⟨j, by omega, j2⟩, fun ⟨j, j1, j2⟩ => ⟨j, ?_, j2⟩⟩, d5.trans sk.symm⟩
          rcases Nat.lt_or_ge i j with w | w
          · omega
          · have : j = i := by omega
            rw [this] at j2; exact absurd j2.2.2.2 nd1
        · replace h := iv_subj n1 n9 hi h
          rw [v_nat s2 (by omega)] at h
          replace h := iv_use h d2 s1 c9
          have up : ∀ k, i < k → (DN nd.1 nd.2.2.1 n (upd nm.2.2.2.1 s (vp_nar .boolean (1 : Int32))) k ↔ DN nd.1 nd.2.2.1 n nm.2.2.2.1 k) := fun k hk2 => DN_upd (fun p p1 p2 p3 t te => by
            obtain ⟨t', t1, t2, t3, t4⟩ := hs p p2 p3
            have := t4 i (by omega) (Or.inl (Or.inr (Or.inr (Or.inr (Or.inr q2)))))
            rw [te] at t2
            rw [s2] at this
            omega)
          have dn1 := d5.mp z
          refine ih f _ _ _ h (by omega) rfl ⟨d1, d2, fun j j1 j2 => ?_, fun s' a b => ?_, ?_⟩
          · show upd nm.2.2.2.1 s (vp_nar .boolean (1 : Int32)) j = U0 j
            rw [upd_ne (fun w => j2 (by rw [w]; exact s3 q2))]; exact d3 j j1 j2
          · show ¬ upd nm.2.2.2.1 s (vp_nar .boolean (1 : Int32)) s' = 0 ↔ ∃ j, i ≤ j ∧ j < n ∧ nd.1 j = 19 ∧ (nd.2.2.1 j).toInt = (s' : Int) ∧ DN nd.1 nd.2.2.1 n (upd nm.2.2.2.1 s (vp_nar .boolean (1 : Int32))) (j + 1)
            by_cases es : s' = s
            · subst es
              rw [upd_at]
              exact ⟨fun _ => ⟨i, Nat.le_refl _, hi, q2, s2, (up _ (by omega)).mpr dn1⟩, fun _ => by decide⟩
            · rw [upd_ne es]
              refine (d4 s' a b).trans ⟨fun ⟨j, j1, j2, j3, j4, j5⟩ => ⟨j, by omega, j2, j3, j4, (up _ (by omega)).mpr j5⟩, fun ⟨j, j1, j2, j3, j4, j5⟩ => ?_⟩
              rcases Nat.lt_or_ge i j with w | w
              · exact ⟨j, by omega, j2, j3, j4, (up _ (by omega)).mp j5⟩
              · have : j = i := by omega
                rw [this, s2] at j4
                exfalso; omega
          · show ¬ x1 = 0 ↔ DN nd.1 nd.2.2.1 n (upd nm.2.2.2.1 s (vp_nar .boolean (1 : Int32))) i
            exact (d5.trans (up _ (by omega)).symm).trans (DN_skip q).symm
      · refine ih f _ _ _ h (by omega) rfl ⟨d1, d2, d3, fun s' a b => (d4 s' a b).trans ⟨fun ⟨j, j1, j2⟩ => ⟨j, by omega, j2⟩, fun ⟨j, j1, j2⟩ => ⟨j, ?_, j2⟩⟩, d5.trans sk.symm⟩
        rcases Nat.lt_or_ge i j with w | w
        · omega
        · have : j = i := by omega
          rw [this] at j2; exact absurd j2.2.1 q2

