/-! the start -/
abbrev zF : Nat → Int32 := fun _ => 0
abbrev zJ : Nat → Int64 := fun _ => 0
abbrev zH : HV := (0, zC, zC, zC, zC, zC, zC)
abbrev zS : SV := (zC, zC, zF)
abbrev zP : PV := (0, zF)
theorem OKb_0 : OKb (fun _ => 0) := ⟨Nat.zero_le _, Nat.zero_le _, fun p hp => absurd hp (Nat.not_lt_zero p), fun w hw => absurd hw (Nat.not_lt_zero w), fun p q hp => absurd hp (Nat.not_lt_zero p)⟩
