theorem PC_0 (p : Nat → Int32) (c : Nat → Nat) : PC (0, p) c 0 := ⟨by omega, rfl, fun k hk => absurd hk (by omega)⟩
theorem m4_n {n : Nat} (h : n ≤ 4) : m4 n = n := by
  unfold m4
  by_cases q : n < 4
  · exact if_pos q
  · rw [if_neg q]; omega
theorem fnd_no {b : bk} {a : Nat → Nat} {L : Nat} (h : fnd b a L = none) : ∀ p, p < b 0 → ¬ (pL b p = L ∧ ∀ k, k < L → pT b p k = a k) := fun p hp => ff_none h p (Nat.zero_le _) (by omega)
