/-! shifts of a long -/
theorem q_e63 : ∀ k, k < 64 → ((nI k).toInt64.toUInt64 &&& Int64.toUInt64 63).toNat = k := by decide
theorem q_shr {n k : Nat} (h : n < 2 ^ 64) (hk : k < 64) : ushr (lN n) (nI k) = lN (n / 2 ^ k) := by
  unfold ushr
  refine Int64.toBitVec_inj.1 (BitVec.eq_of_toNat_eq ?_)
  have e2 : ((lN n).toUInt64).toNat = n := qn_nat h
  have e3 : n / 2 ^ k < 2 ^ 64 := Nat.lt_of_le_of_lt (Nat.div_le_self _ _) h
  show ((lN n).toUInt64 >>> ((nI k).toInt64.toUInt64 &&& Int64.toUInt64 63)).toNat = _
  rw [UInt64.toNat_shiftRight, q_e63 k hk, e2, Nat.mod_eq_of_lt hk, Nat.shiftRight_eq_div_pow, qn_nat e3]
theorem q_shr8 {n : Nat} (h : n < 2 ^ 64) : ushr (lN n) 8 = lN (n / 256) := q_shr (k := 8) h (by decide)
theorem q_shrk {n k : Nat} (h : n < 2 ^ 64) (hk : k < 8) : ushr (lN n) (8 * nI k) = lN (n / 256 ^ k) := by
  rw [show (8 : Int32) = nI 8 from rfl, pk_mul]
  refine (q_shr (k := 8 * k) h (by omega)).trans ?_
  rw [Nat.pow_mul]
