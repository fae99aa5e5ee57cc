/-! the least loss: the reference -/
theorem q_dlt {a c n : Nat} (ha : a < 2 ^ 30) (hc : c < 2 ^ 30) (hn : n < 2 ^ 30) : nI a - nI n < nI c - nI n ↔ a < c := by
  rw [Int32.lt_iff_toInt_lt, pk_sub_toInt ha hn, pk_sub_toInt hc hn]
  omega
theorem q_deq {a c n : Nat} (ha : a < 2 ^ 30) (hc : c < 2 ^ 30) (hn : n < 2 ^ 30) : nI a - nI n = nI c - nI n ↔ a = c := by
  constructor
  · intro h
    have h1 := congrArg Int32.toInt h
    rw [pk_sub_toInt ha hn, pk_sub_toInt hc hn] at h1
    omega
  · intro h
    rw [h]
/-- pieces dropped until not more than z are left -/
def shrB (b : bk) (z : Nat) : Nat → bk
  | 0 => b
  | n + 1 => if b 0 ≤ z then b else match lst b (b 0) with
    | none => b
    | some x => shrB (drpB b x) z n
