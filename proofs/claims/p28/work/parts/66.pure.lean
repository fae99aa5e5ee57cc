/-! the pad -/
/-- the pad: n characters, c k the k-th -/
def PC (pd : PV) (c : Nat → Nat) (n : Nat) : Prop := n ≤ 16 ∧ pd.1 = nI n ∧ ∀ k, k < n → pd.2 k = nI (c k) ∧ c k < 128
/-- where the first character stands that is no letter, of m from k on -/
def fnl (c : Nat → Nat) : Nat → Nat → Nat
  | 0, k => k
  | m + 1, k => if 97 ≤ c k ∧ c k ≤ 102 then fnl c m (k + 1) else k
theorem fnl_le (c : Nat → Nat) : ∀ m k, k ≤ fnl c m k ∧ fnl c m k ≤ k + m
  | 0, k => ⟨Nat.le_refl _, Nat.le_refl _⟩
  | m + 1, k => by
    unfold fnl
    by_cases h : 97 ≤ c k ∧ c k ≤ 102
    · rw [if_pos h]
      have g := fnl_le c m (k + 1)
      omega
    · rw [if_neg h]
      omega
theorem fnl_all (c : Nat → Nat) : ∀ m k, fnl c m k = k + m → ∀ j, k ≤ j → j < k + m → 97 ≤ c j ∧ c j ≤ 102
  | 0, _, _, _, h1, h2 => by omega
  | m + 1, k, e, j, h1, h2 => by
    unfold fnl at e
    by_cases h : 97 ≤ c k ∧ c k ≤ 102
    · rw [if_pos h] at e
      by_cases g : j = k
      · rw [g]; exact h
      · exact fnl_all c m (k + 1) (by omega) j (by omega) (by omega)
    · rw [if_neg h] at e
      omega
theorem padLet_ok {N : Nat} {pd : PV} {c : Nat → Nat} {n : Nat} (h : PC pd c n) {k : Nat} (hk : k < n) : f_X6_letterAt N pd (nI k) = some (nI (c k) - nI 97) := by
  have hn := h.1
  unfold f_X6_letterAt
  rw [q_ck (show k < 16 by omega) (by decide), nI_clamp (show k < 2 ^ 31 by omega), (h.2.2 k hk).1]
  rfl
theorem fnlC_L {N : Nat} {pd : PV} {c : Nat → Nat} {n : Nat} (h : PC pd c n) {K : Int32 → Option Int32} : ∀ (f k m : Nat), k + m = n → m < f → f_X6_firstNoLetter_L2 N pd K f (nI k) = K (nI (fnl c m k))
  | 0, _, _, _, g => by omega
  | f + 1, k, 0, e, _ => by
    have hn := h.1
    rw [f_X6_firstNoLetter_L2, if_pos (show pd.1 ≤ nI k by rw [h.2.1]; exact nI_le (by omega) (by omega))]
    rfl
  | f + 1, k, m + 1, e, g => by
    have hn := h.1
    have h128 := (h.2.2 k (by omega)).2
    rw [f_X6_firstNoLetter_L2, if_neg (show ¬ pd.1 ≤ nI k by rw [h.2.1]; exact nI_ge (by omega) (by omega)), padLet_ok h (show k < n by omega), Option.bind_some]
    unfold fnl
    by_cases g1 : 97 ≤ c k
    · rw [pk_sub g1, if_neg (show ¬ nI (c k - 97) < (0 : Int32) from nI_pos (by omega)), Option.bind_some]
      by_cases g2 : c k ≤ 102
      · rw [if_neg (show ¬ (6 : Int32) ≤ nI (c k - 97) from nI_ge (b := 6) (by omega) (by decide)), if_pos ⟨g1, g2⟩, nI_1]
        exact fnlC_L h f (k + 1) m (by omega) (by omega)
      · rw [if_pos (show (6 : Int32) ≤ nI (c k - 97) from nI_le (a := 6) (by omega) (by omega)), if_neg (fun q => g2 q.2)]
    · rw [if_pos (show nI (c k) - nI 97 < (0 : Int32) from pk_sneg (by decide) (by omega)), if_neg (fun q => g1 q.1)]
theorem firstNoLetter_ok {N : Nat} (hN : 16 < N) {pd : PV} {c : Nat → Nat} {n : Nat} (h : PC pd c n) : f_X6_firstNoLetter N pd = some (nI (fnl c n 0)) := by
  have hn := h.1
  unfold f_X6_firstNoLetter
  exact fnlC_L h N 0 n (by omega) (by omega)
theorem faultC_ok {N : Nat} (hN : 16 < N) {pd : PV} {c : Nat → Nat} {n : Nat} (h : PC pd c n) : f_X7_fault N pd = some (if fnl c n 0 < n then nI (fnl c n 0) else -6) := by
  have hn := h.1
  have hl := fnl_le c n 0
  unfold f_X7_fault
  rw [firstNoLetter_ok hN h, Option.bind_some]
  by_cases g : fnl c n 0 < n
  · rw [if_pos g, if_neg (show ¬ pd.1 ≤ nI (fnl c n 0) by rw [h.2.1]; exact nI_ge g (by omega))]
  · rw [if_neg g, if_pos (show pd.1 ≤ nI (fnl c n 0) by rw [h.2.1]; exact nI_le (by omega) (by omega))]
theorem holdsLetters_ok {N : Nat} (hN : 16 < N) {pd : PV} {c : Nat → Nat} {n : Nat} (h : PC pd c n) {M : Nat} (hM : M < 2 ^ 31) : f_X6_holdsLetters N pd (nI M) = some (nI (if 1 ≤ n ∧ n ≤ M ∧ fnl c n 0 = n then 1 else 0)) := by
  have hn := h.1
  have hl := fnl_le c n 0
  unfold f_X6_holdsLetters
  rw [h.2.1]
  by_cases g1 : 1 ≤ n
  · rw [if_neg (show ¬ nI n < (1 : Int32) from nI_nlt (b := 1) g1 (by omega))]
    by_cases g2 : n ≤ M
    · rw [if_neg (show ¬ nI M < nI n from nI_nlt g2 hM), firstNoLetter_ok hN h, Option.bind_some]
      by_cases g3 : fnl c n 0 = n
      · rw [if_pos (show nI (fnl c n 0) = nI n by rw [g3]), if_pos ⟨g1, g2, g3⟩]
        rfl
      · rw [if_neg (show ¬ nI (fnl c n 0) = nI n from fun q => g3 ((nI_eq (by omega) (by omega)).1 q)), if_neg (fun q => g3 q.2.2)]
        rfl
    · rw [if_pos (show nI M < nI n from nI_lt (by omega) (by omega)), if_neg (fun q => g2 q.2.1)]
      rfl
  · rw [if_pos (show nI n < (1 : Int32) from nI_lt (b := 1) (by omega) (by decide)), if_neg (fun q => g1 q.1)]
    rfl
