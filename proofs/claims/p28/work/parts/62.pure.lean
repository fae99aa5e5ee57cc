/-- the weights up to p are tuned -/
def tnP (b : bk) (p : Nat) : bk := fun k => if k % 6 = 3 ∧ k / 6 < p then tnW b (k / 6) else b k
theorem tnP_up {b : bk} {p : Nat} {S : Nat → Int32} (h : ∀ k, k < 210 → S k = nI (tnP b p k)) : ∀ k, k < 210 → upd S (2 + 6 * p + 1) (nI (tnW b p)) k = nI (tnP b (p + 1) k) := by
  intro k hk
  by_cases e : k = 2 + 6 * p + 1
  · subst e
    refine (upd_s _ _ _).trans ?_
    unfold tnP
    rw [show (2 + 6 * p + 1) / 6 = p by omega, if_pos ⟨by omega, by omega⟩]
  · refine (upd_o e).trans ((h k hk).trans ?_)
    unfold tnP
    by_cases g : k % 6 = 3 ∧ k / 6 < p
    · rw [if_pos g, if_pos ⟨g.1, by omega⟩]
    · rw [if_neg g, if_neg (fun g2 => g ⟨g2.1, by omega⟩)]
theorem tnP_all (b : bk) : tnP b (b 0) = tnB b := rfl
