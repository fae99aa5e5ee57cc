theorem q_ge0 {n : Nat} (h : n < 2 ^ 31) : (0 : Int32) ≤ nI n := nI_pos' h
theorem VE_T {b : bk} (hb : OKb b) {e : EN} (h : VE b e) : okT (sgE b e) e.2.2.1 e.2.2.2 := ⟨h.2.1, h.2.2.1, h.2.2.2.2.1, h.2.2.2.2.2.1, VE_seg hb h⟩
theorem VE_no {b : bk} {e : EN} (h : VE b e) : ∀ p, p < b 0 → ¬ (pL b p = e.2.2.1 ∧ ∀ k, k < e.2.2.1 → pT b p k = sgE b e k) := fun p hp => ff_none h.2.2.2.2.2.2 p (Nat.zero_le _) (by omega)
