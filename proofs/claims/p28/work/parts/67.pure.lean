/-! the text of the pad, in the reference -/
def ltr (c : Nat → Nat) : Nat → Nat := fun k => c k - 96
def m4 (n : Nat) : Nat := if n < 4 then n else 4
