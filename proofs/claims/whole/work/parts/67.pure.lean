/-! the text of the pad, in the reference -/
def ltr (c : Nat → Nat) : Nat → Nat := fun k => c k - 96
def m4 (n : Nat) : Nat := if n < 4 then n else 4
theorem padText_0 {N : Nat} {mo : MV} {c : Nat → Nat} {n : Nat} (h : PM mo.2.2.2.2.2.2.1 mo.2.2.2.2.2.2.2.1 c n) (y : Int32) : ∀ (f k : Nat) (x2 : Int32), k ≤ n → n - k < f → f_X8_padText_L15 N mo y (fun a b => if b = 0 then some 0 else some a) f x2 0 (nI k) = some 0
  | 0, _, _, _, g => by omega
  | f + 1, k, x2, e, g => by
    have hn := h.1
    rw [f_X8_padText_L15]
    by_cases q : k < n
    · rw [if_neg (show ¬ mo.2.2.2.2.2.2.2.1 ≤ nI k by rw [h.2.1]; exact nI_ge q (by omega))]
      unfold jn
      dsimp only
      rw [if_pos (show (0 : Int32) = 0 from rfl)]
      by_cases q4 : 4 ≤ k
      · rw [if_pos (show (4 : Int32) ≤ nI k from nI_le (a := 4) q4 (by omega)), nI_1]
        exact padText_0 h y f (k + 1) _ (by omega) (by omega)
      · rw [if_neg (show ¬ (4 : Int32) ≤ nI k from nI_ge (b := 4) (by omega) (by decide)), q_ck (show k < 16 by omega) (by decide), q_bd, nI_1]
        exact padText_0 h y f (k + 1) _ (by omega) (by omega)
    · rw [if_pos (show mo.2.2.2.2.2.2.2.1 ≤ nI k by rw [h.2.1]; exact nI_le (by omega) (by omega)), if_pos (show (0 : Int32) = 0 from rfl)]
theorem padText_1 {N : Nat} {mo : MV} {c : Nat → Nat} {n : Nat} (h : PM mo.2.2.2.2.2.2.1 mo.2.2.2.2.2.2.2.1 c n) (y : Int32) : ∀ (f k m : Nat), k + m = n → m < f → f_X8_padText_L15 N mo y (fun a b => if b = 0 then some 0 else some a) f (nI (cod 7 (ltr c) (m4 k))) 1 (nI k) = some (if fnl c m k = n then nI (cod 7 (ltr c) (m4 n)) else 0)
  | 0, _, _, _, g => by omega
  | f + 1, k, 0, e, g => by
    have hn := h.1
    have e2 : k = n := by omega
    rw [f_X8_padText_L15, if_pos (show mo.2.2.2.2.2.2.2.1 ≤ nI k by rw [h.2.1]; exact nI_le (by omega) (by omega)), if_neg (show ¬ (1 : Int32) = 0 by decide)]
    unfold fnl
    rw [if_pos e2, e2]
  | f + 1, k, m + 1, e, g => by
    have hn := h.1
    obtain ⟨h1, h128⟩ := h.2.2 k (by omega)
    rw [f_X8_padText_L15, if_neg (show ¬ mo.2.2.2.2.2.2.2.1 ≤ nI k by rw [h.2.1]; exact nI_ge (by omega) (by omega))]
    unfold jn
    dsimp only
    rw [if_neg (show ¬ (1 : Int32) = 0 by decide), q_ck (show k < 16 by omega) (by decide), nI_clamp (show k < 2 ^ 31 by omega), h1]
    rw [show f_X8_within N (nI (c k)) 97 102 = some (nI (if 97 ≤ c k ∧ c k ≤ 102 then 1 else 0)) from within_ok (lo := 97) (hi := 102) (by omega) (by decide) (by decide), Option.bind_some]
    unfold fnl
    by_cases g1 : 97 ≤ c k ∧ c k ≤ 102
    · rw [if_pos g1, if_pos g1, if_neg (show ¬ nI 1 = (0 : Int32) by decide)]
      by_cases q4 : 4 ≤ k
      · rw [if_pos (show (4 : Int32) ≤ nI k from nI_le (a := 4) q4 (by omega)), nI_1]
        have e4 : m4 k = m4 (k + 1) := by unfold m4; rw [if_neg (by omega), if_neg (by omega)]
        rw [e4]
        exact padText_1 h y f (k + 1) m (by omega) (by omega)
      · have e4 : m4 k = k := by unfold m4; exact if_pos (by omega)
        have e5 : m4 (k + 1) = k + 1 := by
          unfold m4
          by_cases q5 : k + 1 < 4
          · exact if_pos q5
          · rw [if_neg q5]; omega
        have e6 : (7 : Int32) * nI (cod 7 (ltr c) (m4 k)) + nI (c k) - 97 + 1 = nI (cod 7 (ltr c) (m4 (k + 1))) := by
          rw [e4, e5, show (7 : Int32) = nI 7 from rfl, pk_mul, nI_add, show (97 : Int32) = nI 97 from rfl, pk_sub (by omega), nI_1]
          refine congrArg nI ?_
          show _ = 7 * cod 7 (ltr c) k + (c k - 96)
          omega
        rw [if_neg (show ¬ (4 : Int32) ≤ nI k from nI_ge (b := 4) (by omega) (by decide)), q_ck (show k < 16 by omega) (by decide), q_bd, e6, nI_1]
        exact padText_1 h y f (k + 1) m (by omega) (by omega)
    · rw [if_neg g1, if_neg g1, if_pos (show nI 0 = (0 : Int32) from rfl), if_neg (show ¬ k = n by omega)]
      by_cases q4 : 4 ≤ k
      · rw [if_pos (show (4 : Int32) ≤ nI k from nI_le (a := 4) q4 (by omega)), nI_1]
        exact padText_0 h y f (k + 1) _ (by omega) (by omega)
      · rw [if_neg (show ¬ (4 : Int32) ≤ nI k from nI_ge (b := 4) (by omega) (by decide)), q_ck (show k < 16 by omega) (by decide), q_bd, nI_1]
        exact padText_0 h y f (k + 1) _ (by omega) (by omega)
theorem padText_ok {N : Nat} (hN : 16 < N) {mo : MV} {c : Nat → Nat} {n : Nat} (h : PM mo.2.2.2.2.2.2.1 mo.2.2.2.2.2.2.2.1 c n) {M : Nat} (hM : M < 2 ^ 31) : f_X8_padText N mo (nI M) = some (if 1 ≤ n ∧ n ≤ M ∧ fnl c n 0 = n then nI (cod 7 (ltr c) (m4 n)) else 0) := by
  have hn := h.1
  unfold f_X8_padText
  rw [h.2.1, show f_X8_within N (nI n) 1 (nI M) = some (nI (if 1 ≤ n ∧ n ≤ M then 1 else 0)) from within_ok (lo := 1) (by omega) (by decide) hM, Option.bind_some]
  by_cases g : 1 ≤ n ∧ n ≤ M
  · rw [if_pos g]
    refine (padText_1 h (nI M) N 0 n (by omega) (by omega)).trans ?_
    by_cases g3 : fnl c n 0 = n
    · rw [if_pos g3, if_pos ⟨g.1, g.2, g3⟩]
    · rw [if_neg g3, if_neg (fun q => g3 q.2.2)]
  · rw [if_neg g, if_neg (fun q => g ⟨q.1, q.2.1⟩)]
    exact padText_0 h (nI M) N 0 0 (by omega) (by omega)
