/-! bytes of a long -/
theorem qn_bv (n : Nat) : (lN n).toBitVec = BitVec.ofNat 64 n := rfl
theorem qn_nat {n : Nat} (h : n < 2 ^ 64) : (lN n).toBitVec.toNat = n := by
  rw [qn_bv, BitVec.toNat_ofNat]
  exact Nat.mod_eq_of_lt h
theorem lN_of (x : Int64) : ∃ n, n < 2 ^ 64 ∧ x = lN n := ⟨x.toBitVec.toNat, x.toBitVec.isLt, Int64.toBitVec_inj.1 (by rw [qn_bv, BitVec.ofNat_toNat, BitVec.setWidth_eq])⟩
theorem lN_eq0 {n : Nat} (h : n < 2 ^ 64) : lN n = 0 ↔ n = 0 := by
  constructor
  · intro q
    have q2 : (lN n).toBitVec.toNat = (0 : Int64).toBitVec.toNat := congrArg (fun v : Int64 => v.toBitVec.toNat) q
    rw [qn_nat h] at q2
    exact q2
  · intro q
    rw [q]
    rfl
theorem lN_255 {n : Nat} (h : n < 2 ^ 64) : lN n &&& 255 = lN (n % 256) := by
  refine Int64.toBitVec_inj.1 (BitVec.eq_of_toNat_eq ?_)
  have e : (lN n &&& 255).toBitVec = (lN n).toBitVec &&& (255 : Int64).toBitVec := rfl
  rw [e, BitVec.toNat_and, qn_nat h, qn_nat (show n % 256 < 2 ^ 64 by omega)]
  exact Nat.and_two_pow_sub_one_eq_mod n 8
theorem q_cmp0 {n : Nat} (h : n < 2 ^ 64) : lg_cmp (lN n) 0 = 0 ↔ n = 0 := by
  rw [← lN_eq0 h]
  unfold lg_cmp
  constructor
  · intro q
    by_cases g1 : (0 : Int64) < lN n
    · rw [if_pos g1] at q
      exact absurd q (by decide)
    · rw [if_neg g1] at q
      by_cases g2 : lN n = 0
      · exact g2
      · rw [if_neg g2] at q
        exact absurd q (by decide)
  · intro q
    rw [q]
    rfl
