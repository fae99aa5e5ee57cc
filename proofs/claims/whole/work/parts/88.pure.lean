/-! the start -/
abbrev zF : Nat → Int32 := fun _ => 0
abbrev zJ : Nat → Int64 := fun _ => 0
abbrev zH : HV := (0, zC, zC, zC, zC, zC, zC)
abbrev zS : SV := (zC, zC, zF)
abbrev zP : PV := (0, zF)
abbrev zM : MV := (zF, zF, zF, 0, zF, zF, zF, 0, zJ, zF, zF, zJ, zJ, zF, zF, zF, 0, zF)
theorem OKb_0 : OKb (fun _ => 0) := ⟨Nat.zero_le _, Nat.zero_le _, fun p hp => absurd hp (Nat.not_lt_zero p), fun w hw => absurd hw (Nat.not_lt_zero w), fun p q hp => absurd hp (Nat.not_lt_zero p)⟩
theorem RR_0 : RR zC zH zS zP zM := by
  refine ⟨fun _ => 0, fun _ _ => 0, 0, fun _ => false, fun _ _ => 0, fun _ => 0, 0, ⟨OKb_0, ⟨rfl, rfl, fun p hp => absurd hp (Nat.not_lt_zero p), fun w hw => absurd hw (Nat.not_lt_zero w)⟩, ⟨by decide, rfl, fun k hk => absurd hk (Nat.not_lt_zero k)⟩, fun s hs => ⟨rfl, fun h => by cases h⟩, ⟨by decide, rfl, fun k hk => absurd hk (Nat.not_lt_zero k)⟩⟩, fun k hk => rfl, ⟨by decide, rfl, fun k hk => absurd hk (Nat.not_lt_zero k)⟩, fun s hs => ⟨rfl, fun h => by cases h⟩, ⟨by decide, rfl, fun k hk => absurd hk (Nat.not_lt_zero k)⟩⟩
