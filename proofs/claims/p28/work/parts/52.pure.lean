/-- the last of the first c numbers with P -/
def fl (P : Nat → Prop) [DecidablePred P] : Nat → Option Nat
  | 0 => none
  | c + 1 => if P c then some c else fl P c
theorem fl_ff {P : Nat → Prop} [DecidablePred P] {c : Nat} (hu : ∀ p q, p < c → q < c → P p → P q → p = q) : fl P c = ff P c 0 := by
  have h1 : ∀ c, (∀ p, fl P c = some p → p < c ∧ P p) ∧ (fl P c = none → ∀ p, p < c → ¬ P p) := by
    intro c
    induction c with
    | zero => exact ⟨fun p h => (by cases h), fun _ p h => (by omega)⟩
    | succ c ih =>
      refine ⟨fun p h => ?_, fun h p hp => ?_⟩
      · unfold fl at h
        by_cases hc : P c
        · rw [if_pos hc] at h; cases h; exact ⟨by omega, hc⟩
        · rw [if_neg hc] at h
          exact ⟨by have := (ih.1 p h).1; omega, (ih.1 p h).2⟩
      · unfold fl at h
        by_cases hc : P c
        · rw [if_pos hc] at h; cases h
        · rw [if_neg hc] at h
          by_cases e : p = c
          · rw [e]; exact hc
          · exact ih.2 h p (by omega)
  cases e : fl P c with
  | none => exact (ff_no (fun q _ hq => (h1 c).2 e q (by omega))).symm
  | some p =>
    obtain ⟨g1, g2⟩ := (h1 c).1 p e
    exact (ff_of (Nat.zero_le _) (by omega) g2 (fun q _ hq hP => by have := hu q p (by omega) g1 hP g2; omega)).symm
theorem oI_m6 {o : Option Nat} (ho : ∀ p, o = some p → p < 16) : (oI (-6) o = -6) = (o = none) := by
  cases o with
  | none => exact propext ⟨fun _ => rfl, fun _ => rfl⟩
  | some p =>
    have := ho p rfl
    show (nI p = -6) = _
    rw [q_nem6 (by omega)]
    exact propext ⟨fun h => absurd h id, fun h => by cases h⟩
