def sg (sl : SV) : Nat → CV
  | 0 => sl.1
  | _ => sl.2.1
/-- the saved states: v s says that s is saved, sb s is what is saved there -/
def SC (sl : SV) (v : Nat → Bool) (sb : Nat → bk) : Prop := ∀ s, s < 2 → sl.2.2 s = nI (if v s then 1 else 0) ∧ (v s = true → OKb (sb s) ∧ CR (sg sl s) (sb s))
def usv (v : Nat → Bool) (x : Nat) : Nat → Bool := fun s => if s = x then true else v s
def usb (sb : Nat → bk) (x : Nat) (b : bk) : Nat → bk := fun s => if s = x then b else sb s
