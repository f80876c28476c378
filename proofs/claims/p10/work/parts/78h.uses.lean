/-- the reference's uses: a node of one of two kinds has the number -/
theorem iv_uses_L {m : T_Mo} {n j : Nat} {a b : Int32} {K : Int32 → Int32 → Int32 → Int32 → Int32 → Prop} {post : Int32 → Unit → Prop} (hh : m.1.2.1.2.1 = 0 ∨ m.1.2.1.2.1 = 1) (e : m.2.1.2.2.2.2 = Int32.ofNat n) (n9 : n ≤ 1000) (j9 : j < 100) : ∀ (d s f : Nat) (x4 : Int32), s + d = n → wp_Mo_uses_L6 m K post f (Int32.ofNat j) a b x4 (Int32.ofNat s) → (¬ x4 = 0 ↔ ∃ i, i < s ∧ (m.1.2.1.2.2.2 (Bs ((1 : Int32) - m.1.2.1.2.1) + i) = a ∨ m.1.2.1.2.2.2 (Bs ((1 : Int32) - m.1.2.1.2.1) + i) = b) ∧ (m.1.2.2.1.1 (Bs ((1 : Int32) - m.1.2.1.2.1) + i)).toInt = (j : Int)) → ∃ y4 y5, K (Int32.ofNat j) a b y4 y5 ∧ (¬ y4 = 0 ↔ ∃ i, i < n ∧ (m.1.2.1.2.2.2 (Bs ((1 : Int32) - m.1.2.1.2.1) + i) = a ∨ m.1.2.1.2.2.2 (Bs ((1 : Int32) - m.1.2.1.2.1) + i) = b) ∧ (m.1.2.2.1.1 (Bs ((1 : Int32) - m.1.2.1.2.1) + i)).toInt = (j : Int)) := by
  intro d
  induction d with
  | zero =>
    intro s f x4 es h iv
    cases f with
    | zero => exact False.elim h
    | succ f =>
    rw [wp_Mo_uses_L6, e] at h
    have sn : s = n := by omega
    rw [sn] at h iv
    exact ⟨_, _, h.1 (Int32.le_refl _), iv⟩
  | succ d ih =>
    intro s f x4 es h iv
    cases f with
    | zero => exact False.elim h
    | succ f =>
    rw [wp_Mo_uses_L6, e] at h
    unfold wp_Mo_node1 at h
    dsimp only at h
    replace h := (h.2 (by rw [on_le (by omega) (by omega)]; omega)).2
    rw [no_ix hh (by omega), on_succ (by omega)] at h
    have jv : (Int32.ofNat j).toInt64.toInt = (j : Int) := by rw [Int32.toInt_toInt64, on_toInt (by omega)]
    have lg : ∀ v : Int64, lg_cmp v (Int32.ofNat j).toInt64 = 0 ↔ v.toInt = (j : Int) := fun v => by
      rw [lg_cmp_eq, ← jv]
      exact ⟨fun q => by rw [q], fun q => Int64.toInt_inj.mp q⟩
    have go : ∀ (y : Int32), (¬ y = 0 ↔ (¬ x4 = 0 ∨ ((m.1.2.1.2.2.2 (Bs ((1 : Int32) - m.1.2.1.2.1) + s) = a ∨ m.1.2.1.2.2.2 (Bs ((1 : Int32) - m.1.2.1.2.1) + s) = b) ∧ (m.1.2.2.1.1 (Bs ((1 : Int32) - m.1.2.1.2.1) + s)).toInt = (j : Int)))) → wp_Mo_uses_L6 m K post f (Int32.ofNat j) a b y (Int32.ofNat (s + 1)) → ∃ y4 y5, K (Int32.ofNat j) a b y4 y5 ∧ (¬ y4 = 0 ↔ ∃ i, i < n ∧ (m.1.2.1.2.2.2 (Bs ((1 : Int32) - m.1.2.1.2.1) + i) = a ∨ m.1.2.1.2.2.2 (Bs ((1 : Int32) - m.1.2.1.2.1) + i) = b) ∧ (m.1.2.2.1.1 (Bs ((1 : Int32) - m.1.2.1.2.1) + i)).toInt = (j : Int)) := by
      intro y ye h
      refine ih (s + 1) f y (by omega) h (ye.trans ⟨fun z => ?_, fun ⟨i, i1, i2⟩ => ?_⟩)
      · rcases z with z | z
        · obtain ⟨i, i1, i2⟩ := iv.mp z
          exact ⟨i, by omega, i2⟩
        · exact ⟨s, by omega, z⟩
      · rcases Nat.lt_or_ge i s with q | q
        · exact Or.inl (iv.mpr ⟨i, q, i2⟩)
        · have ei : i = s := by omega
          rw [ei] at i2; exact Or.inr i2
    rcases br_el h with ⟨q, h⟩ | ⟨q, h⟩
    · rcases br_el h with ⟨q1, h⟩ | ⟨q1, h⟩
      · replace h := h.2
        rcases br_el h with ⟨q2, h⟩ | ⟨q2, h⟩
        · exact go _ ⟨fun _ => Or.inr ⟨Or.inl q1, (lg _).mp q2⟩, fun _ => by decide⟩ h
        · exact go _ ⟨fun z => absurd rfl z, fun z => z.elim (fun z => absurd q z) (fun z => absurd ((lg _).mpr z.2) q2)⟩ h
      · rcases br_el h with ⟨q3, h⟩ | ⟨q3, h⟩
        · replace h := h.2
          rcases br_el h with ⟨q2, h⟩ | ⟨q2, h⟩
          · exact go _ ⟨fun _ => Or.inr ⟨Or.inr q3, (lg _).mp q2⟩, fun _ => by decide⟩ h
          · exact go _ ⟨fun z => absurd rfl z, fun z => z.elim (fun z => absurd q z) (fun z => absurd ((lg _).mpr z.2) q2)⟩ h
        · exact go _ ⟨fun z => absurd rfl z, fun z => z.elim (fun z => absurd q z) (fun z => z.1.elim (fun z => absurd z q1) (fun z => absurd z q3))⟩ h
    · exact go _ ⟨fun _ => Or.inl q, fun _ => by decide⟩ h
theorem iv_uses {m : T_Mo} {n j : Nat} {a b : Int32} {P : Int32 → Unit → Prop} (hh : m.1.2.1.2.1 = 0 ∨ m.1.2.1.2.1 = 1) (e : m.2.1.2.2.2.2 = Int32.ofNat n) (n9 : n ≤ 1000) (j9 : j < 100) (h : wp_Mo_uses m (Int32.ofNat j) a b P) : ∃ r, P r () ∧ (¬ r = 0 ↔ ∃ i, i < n ∧ (m.1.2.1.2.2.2 (Bs ((1 : Int32) - m.1.2.1.2.1) + i) = a ∨ m.1.2.1.2.2.2 (Bs ((1 : Int32) - m.1.2.1.2.1) + i) = b) ∧ (m.1.2.2.1.1 (Bs ((1 : Int32) - m.1.2.1.2.1) + i)).toInt = (j : Int)) := by
  unfold wp_Mo_uses at h
  obtain ⟨f, h⟩ := h
  obtain ⟨y4, y5, h, k⟩ := iv_uses_L hh e n9 j9 n 0 f 0 (by omega) h ⟨fun z => absurd rfl z, fun ⟨i, i1, _⟩ => by omega⟩
  exact ⟨y4, h.2, k⟩

