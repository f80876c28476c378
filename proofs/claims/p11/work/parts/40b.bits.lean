/-- the class's bit of an act -/
def bt (w : Int64) (i : Int32) : Prop := lg_cmp ((w >>> ((i).toInt64 &&& 63)) &&& (1 : Int64)) (1 : Int64) = 0
theorem bt_sh : ∀ n : Nat, n < 64 → (((Int32.ofNat n).toInt64 &&& 63) : Int64).toBitVec.smod 64 = BitVec.ofNat 64 n := by decide +kernel
theorem bv_and1 (y : BitVec 64) : (y &&& 1#64 = 1#64) ↔ y.getLsbD 0 = true := by
  constructor
  · intro h
    have e := congrArg (fun z : BitVec 64 => z.getLsbD 0) h
    simpa using e
  · intro h
    apply BitVec.eq_of_getLsbD_eq
    intro i hi
    rw [BitVec.getLsbD_and, BitVec.getLsbD_one]
    by_cases e : i = 0
    · subst e; simp [h]
    · simp [e]
theorem bt_iff {w : Int64} {n : Nat} (h : n < 64) : bt w (Int32.ofNat n) ↔ w.toBitVec.getLsbD n = true := by
  unfold bt
  rw [lg_cmp_eq, ← Int64.toBitVec_inj, Int64.toBitVec_and, Int64.toBitVec_shiftRight, bt_sh n h]
  rw [show (1 : Int64).toBitVec = 1#64 from rfl, bv_and1]
  rw [BitVec.sshiftRight', BitVec.getLsbD_sshiftRight]
  have e : (BitVec.ofNat 64 n).toNat = n := by rw [BitVec.toNat_ofNat]; exact Nat.mod_eq_of_lt (by omega)
  rw [e]
  simp [h]
theorem bt_or {w : Int64} {a n : Nat} (ha : a < 64) (h : n < 64) : bt (w ||| ((1 : Int64) <<< ((Int32.ofNat a).toInt64 &&& 63))) (Int32.ofNat n) ↔ bt w (Int32.ofNat n) ∨ n = a := by
  rw [bt_iff h, bt_iff h, Int64.toBitVec_or, Int64.toBitVec_shiftLeft, bt_sh a ha, show (1 : Int64).toBitVec = 1#64 from rfl, BitVec.getLsbD_or]
  have e : (BitVec.ofNat 64 a).toNat = a := by rw [BitVec.toNat_ofNat]; exact Nat.mod_eq_of_lt (by omega)
  rw [show (1#64 <<< BitVec.ofNat 64 a) = 1#64 <<< (BitVec.ofNat 64 a).toNat from rfl, e, BitVec.getLsbD_shiftLeft, BitVec.getLsbD_one]
  simp only [Bool.or_eq_true, Bool.and_eq_true, decide_eq_true_eq, Bool.not_eq_true', decide_eq_false_iff_not]
  constructor
  · rintro (h1 | ⟨⟨h2, h3⟩, -, h4⟩)
    · exact Or.inl h1
    · exact Or.inr (by omega)
  · rintro (h1 | h1)
    · exact Or.inl h1
    · exact Or.inr ⟨⟨h, by omega⟩, by decide, by omega⟩
theorem bt_zero {n : Nat} (h : n < 64) : ¬ bt (0 : Int64) (Int32.ofNat n) := by
  rw [bt_iff h]; simp
theorem i_nat {i : Int32} (h0 : (0 : Int32) ≤ i) (h9 : i < 64) : ∃ n : Nat, n < 64 ∧ i = Int32.ofNat n := vp_in_of (vin (c := 64) h0 h9 rfl) (by decide)
theorem nI_toInt' {n : Nat} (h : n < 64) : (Int32.ofNat n).toInt = (n : Int) := nI_toInt (by omega)
