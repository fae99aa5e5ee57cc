/-! the reference: shares, cuts, bears -/
theorem sN_tail {b : bk} {w p : Nat} : ∀ d i, i + d = wL b w → wL b w < i + pL b p → sN b w p (wL b w) = sN b w p i
  | 0, i, h, _ => by rw [← h]; rfl
  | d + 1, i, h, h2 => by
    have h3 := sN_tail (b := b) (w := w) (p := p) d (i + 1) (by omega) (by omega)
    have hm := ml_le (n := wL b w) (i := i)
    rw [h3]
    show sN b w p i + (if hit b w p i then tm b w p i else 0) = sN b w p i
    rw [if_neg (fun e => by have := e.1; omega)]
    rfl
def UI (b : bk) (w : Nat) (B : Nat → Int64) (i L : Nat) : Prop := (∀ j, i < j → j ≤ wL b w → B j = lN (bh (W1 b w) (wL b w) j)) ∧ (∀ j, j < i → B j = lN 0) ∧ B i = lN (bhL (W1 b w) (wL b w) i L)
def UA (b : bk) (w : Nat) (B : Nat → Int64) (i : Nat) : Prop := (∀ j, i ≤ j → j ≤ wL b w → B j = lN (bh (W1 b w) (wL b w) j)) ∧ ∀ j, j < i → B j = lN 0
