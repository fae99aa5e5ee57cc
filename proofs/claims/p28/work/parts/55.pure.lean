/-! the reference: costs -/
theorem pp0 (b : bk) (w k : Nat) : pp b w none k = pc b w (ps (W0 b w) (wL b w) k) (bs (W0 b w) (wL b w) (ps (W0 b w) (wL b w) k)).2.2 := by
  show drp none (pc b w _ _) = _
  unfold drp
  split
  · rename_i h; exact h.symm
  · rfl
def TI (b : bk) (w : Nat) (B : Nat → Int64) (i L : Nat) : Prop := (∀ j, i < j → j ≤ wL b w → B j = lN (bh (W0 b w) (wL b w) j)) ∧ (∀ j, j < i → B j = lN 0) ∧ B i = lN (bhL (W0 b w) (wL b w) i L)
def TA (b : bk) (w : Nat) (B : Nat → Int64) (i : Nat) : Prop := (∀ j, i ≤ j → j ≤ wL b w → B j = lN (bh (W0 b w) (wL b w) j)) ∧ ∀ j, j < i → B j = lN 0
