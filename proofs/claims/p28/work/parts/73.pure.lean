/-! may this text become a piece -/
def okP (c : Nat → Nat) (n M : Nat) : Prop := 1 ≤ n ∧ n ≤ M ∧ fnl c n 0 = n
def fnd (b : bk) (a : Nat → Nat) (L : Nat) : Option Nat := ff (fun p => pL b p = L ∧ ∀ k, k < L → pT b p k = a k) (b 0) 0
theorem okP_l {c : Nat → Nat} {n M : Nat} (h : okP c n M) : ∀ k, k < n → 1 ≤ ltr c k ∧ ltr c k ≤ 6 := fun k hk => by
  have g := fnl_all c n 0 (by rw [h.2.2]; omega) k (by omega) (by omega)
  show 1 ≤ c k - 96 ∧ c k - 96 ≤ 6
  omega
/-- both sides' answer: w is none where it may, else the error -/
def why (b : bk) (c : Nat → Nat) (n : Nat) (x r : Int32) : Prop := (∃ wt, x = nI wt ∧ okP c n 4 ∧ 1 ≤ wt ∧ wt ≤ 9 ∧ b 0 < 16 ∧ fnd b (ltr c) n = none ∧ r = 0) ∨ (r = -2 ∨ r = -3 ∨ r = -4 ∨ r = -5)
theorem q_19 (x : Int32) : (∃ wt, x = nI wt ∧ 1 ≤ wt ∧ wt ≤ 9) ∨ x < 1 ∨ 9 < x := by
  by_cases h : x < 1
  · exact Or.inr (Or.inl h)
  · by_cases h2 : 9 < x
    · exact Or.inr (Or.inr h2)
    · have h0 : ¬ x < 0 := fun q => h (Int32.lt_trans q (by decide))
      obtain ⟨j, hj, rfl⟩ := nI_of h0
      refine Or.inl ⟨j, rfl, ?_, ?_⟩
      · rcases Nat.lt_or_ge j 1 with g | g
        · exact absurd (nI_lt (b := 1) g (by decide)) h
        · exact g
      · rcases Nat.lt_or_ge 9 j with g | g
        · exact absurd (nI_lt (a := 9) g hj) h2
        · exact g
