/-! costWith, growing, the pad, undo, saved states -/
/-- a book whose line behind the last piece is another -/
def unB (b B : bk) : bk := fun k => if k = 0 then b 0 else B k
theorem q_slot {x : Int32} (g : x < 0 ∨ ¬ x ≤ 1) {α : Type} (A B : α) : (if x < 0 then A else if x < 2 then B else A) = A := by
  by_cases h : x < 0
  · exact if_pos h
  · rw [if_neg h]
    refine if_neg (fun q => g.resolve_left h ?_)
    obtain ⟨j, hj, rfl⟩ := nI_of h
    rcases Nat.lt_or_ge j 2 with r | r
    · exact nI_le (b := 1) (by omega) (by decide)
    · exact absurd q (nI_nlt (b := 2) r hj)
