/-! history and slots -/
theorem cpy0 {α : Type} {f g : Nat → α} {n k : Nat} (h : k < n) : va_cpy f g 0 0 n k = f k := by
  unfold va_cpy
  rw [if_pos ⟨Nat.zero_le k, by omega⟩]
  congr 1
  omega
theorem ckc16 {α : Type} {k : Option α} : ckc 0 0 16 16 16 k = k := q_ckc (sp := 0) (dp := 0) (n := 16) (by decide) (by decide) (by decide) (by decide)
theorem ckc8 {α : Type} {k : Option α} : ckc 0 0 8 8 8 k = k := q_ckc (sp := 0) (dp := 0) (n := 8) (by decide) (by decide) (by decide) (by decide)
theorem ckc96 {α : Type} {k : Option α} : ckc 0 0 96 96 96 k = k := q_ckc (sp := 0) (dp := 0) (n := 96) (by decide) (by decide) (by decide) (by decide)
theorem copyFrom_ok {N : Nat} (c : CV) {oc : CV} {b : bk} (hb : OKb b) (hc : CR oc b) : wp (f_X2_copyFrom N c oc) (fun r => CR r b) := by
  unfold f_X2_copyFrom
  rw [ckc16, ckc16, ckc16, ckc8, ckc8, ckc96]
  have h16 := hb.1
  have h8 := hb.2.1
  refine wp_some ⟨hc.1, hc.2.1, fun p hp => ?_, fun w hw => ?_⟩
  · obtain ⟨g1, g2, g3⟩ := hc.2.2.1 p hp
    exact ⟨(cpy0 (n := 16) (by omega)).trans g1, (cpy0 (n := 16) (by omega)).trans g2, (cpy0 (n := 16) (by omega)).trans g3⟩
  · obtain ⟨g1, g2, g3⟩ := hc.2.2.2 w hw
    have h12 := (hb.2.2.2.1 w hw).2.1
    exact ⟨(cpy0 (n := 8) (by omega)).trans g1, (cpy0 (n := 8) (by omega)).trans g2, fun k hk => (cpy0 (n := 96) (by omega)).trans (g3 k hk)⟩
def hg (hi : HV) : Nat → CV
  | 0 => hi.2.1
  | 1 => hi.2.2.1
  | 2 => hi.2.2.2.1
  | 3 => hi.2.2.2.2.1
  | 4 => hi.2.2.2.2.2.1
  | _ => hi.2.2.2.2.2.2
theorem hg6 {k : Nat} (h : k < 6) : k = 0 ∨ k = 1 ∨ k = 2 ∨ k = 3 ∨ k = 4 ∨ k = 5 := by omega
def recJ (N : Nat) (ct : CV) (hi : HV) : Option HV := ck hi.1 6 (if hi.1.toNatClampNeg = 0 then (f_X2_copyFrom N hi.2.1 ct).bind (fun (r : CV) => some (hi.1 + 1, r, hi.2.2.1, hi.2.2.2.1, hi.2.2.2.2.1, hi.2.2.2.2.2.1, hi.2.2.2.2.2.2)) else if hi.1.toNatClampNeg = 1 then (f_X2_copyFrom N hi.2.2.1 ct).bind (fun (r : CV) => some (hi.1 + 1, hi.2.1, r, hi.2.2.2.1, hi.2.2.2.2.1, hi.2.2.2.2.2.1, hi.2.2.2.2.2.2)) else if hi.1.toNatClampNeg = 2 then (f_X2_copyFrom N hi.2.2.2.1 ct).bind (fun (r : CV) => some (hi.1 + 1, hi.2.1, hi.2.2.1, r, hi.2.2.2.2.1, hi.2.2.2.2.2.1, hi.2.2.2.2.2.2)) else if hi.1.toNatClampNeg = 3 then (f_X2_copyFrom N hi.2.2.2.2.1 ct).bind (fun (r : CV) => some (hi.1 + 1, hi.2.1, hi.2.2.1, hi.2.2.2.1, r, hi.2.2.2.2.2.1, hi.2.2.2.2.2.2)) else if hi.1.toNatClampNeg = 4 then (f_X2_copyFrom N hi.2.2.2.2.2.1 ct).bind (fun (r : CV) => some (hi.1 + 1, hi.2.1, hi.2.2.1, hi.2.2.2.1, hi.2.2.2.2.1, r, hi.2.2.2.2.2.2)) else if hi.1.toNatClampNeg = 5 then (f_X2_copyFrom N hi.2.2.2.2.2.2 ct).bind (fun (r : CV) => some (hi.1 + 1, hi.2.1, hi.2.2.1, hi.2.2.2.1, hi.2.2.2.2.1, hi.2.2.2.2.2.1, r)) else none)
def tbJ (N : Nat) (ct : CV) (hi : HV) : Option (CV × HV) := ck (hi.1 - 1) 6 (if (hi.1 - 1).toNatClampNeg = 0 then (f_X2_copyFrom N ct hi.2.1).bind (fun (r : CV) => some (r, (hi.1 - 1, hi.2.1, hi.2.2.1, hi.2.2.2.1, hi.2.2.2.2.1, hi.2.2.2.2.2.1, hi.2.2.2.2.2.2))) else if (hi.1 - 1).toNatClampNeg = 1 then (f_X2_copyFrom N ct hi.2.2.1).bind (fun (r : CV) => some (r, (hi.1 - 1, hi.2.1, hi.2.2.1, hi.2.2.2.1, hi.2.2.2.2.1, hi.2.2.2.2.2.1, hi.2.2.2.2.2.2))) else if (hi.1 - 1).toNatClampNeg = 2 then (f_X2_copyFrom N ct hi.2.2.2.1).bind (fun (r : CV) => some (r, (hi.1 - 1, hi.2.1, hi.2.2.1, hi.2.2.2.1, hi.2.2.2.2.1, hi.2.2.2.2.2.1, hi.2.2.2.2.2.2))) else if (hi.1 - 1).toNatClampNeg = 3 then (f_X2_copyFrom N ct hi.2.2.2.2.1).bind (fun (r : CV) => some (r, (hi.1 - 1, hi.2.1, hi.2.2.1, hi.2.2.2.1, hi.2.2.2.2.1, hi.2.2.2.2.2.1, hi.2.2.2.2.2.2))) else if (hi.1 - 1).toNatClampNeg = 4 then (f_X2_copyFrom N ct hi.2.2.2.2.2.1).bind (fun (r : CV) => some (r, (hi.1 - 1, hi.2.1, hi.2.2.1, hi.2.2.2.1, hi.2.2.2.2.1, hi.2.2.2.2.2.1, hi.2.2.2.2.2.2))) else if (hi.1 - 1).toNatClampNeg = 5 then (f_X2_copyFrom N ct hi.2.2.2.2.2.2).bind (fun (r : CV) => some (r, (hi.1 - 1, hi.2.1, hi.2.2.1, hi.2.2.2.1, hi.2.2.2.2.1, hi.2.2.2.2.2.1, hi.2.2.2.2.2.2))) else none)
theorem record_J (N : Nat) (ct : CV) (hi : HV) : f_X3_record N ct hi = if hi.1 < 6 then recJ N ct hi else recJ N ct (5, hi.2.2.1, hi.2.2.2.1, hi.2.2.2.2.1, hi.2.2.2.2.2.1, hi.2.2.2.2.2.2, hi.2.1) := rfl
theorem recJ_ok {N : Nat} {ct : CV} {hi : HV} {b : bk} (hb : OKb b) (hc : CR ct b) {z : Nat} (hz : z < 6) (e : hi.1 = nI z) : wp (recJ N ct hi) (fun r => r.1 = nI (z + 1) ∧ CR (hg r z) b ∧ ∀ k, k < 6 → k ≠ z → hg r k = hg hi k) := by
  have e1 : hi.1 + 1 = nI (z + 1) := by rw [e, nI_1]
  have e2 : hi.1.toNatClampNeg = z := by rw [e]; exact nI_clamp (by omega)
  have e3 : ∀ K : Option HV, ck hi.1 6 K = K := fun K => by rw [e]; exact q_ck hz (by decide)
  unfold recJ
  rw [e3]
  rcases hg6 hz with rfl | rfl | rfl | rfl | rfl | rfl
  · rw [if_pos e2]
    exact wp_bind (wp_mono (copyFrom_ok _ hb hc) (fun r hr => wp_some ⟨e1, hr, fun k hk hne => by rcases hg6 hk with rfl | rfl | rfl | rfl | rfl | rfl <;> first | exact absurd rfl hne | rfl⟩))
  · rw [if_neg (show ¬ hi.1.toNatClampNeg = 0 by rw [e2]; decide), if_pos e2]
    exact wp_bind (wp_mono (copyFrom_ok _ hb hc) (fun r hr => wp_some ⟨e1, hr, fun k hk hne => by rcases hg6 hk with rfl | rfl | rfl | rfl | rfl | rfl <;> first | exact absurd rfl hne | rfl⟩))
  · rw [if_neg (show ¬ hi.1.toNatClampNeg = 0 by rw [e2]; decide), if_neg (show ¬ hi.1.toNatClampNeg = 1 by rw [e2]; decide), if_pos e2]
    exact wp_bind (wp_mono (copyFrom_ok _ hb hc) (fun r hr => wp_some ⟨e1, hr, fun k hk hne => by rcases hg6 hk with rfl | rfl | rfl | rfl | rfl | rfl <;> first | exact absurd rfl hne | rfl⟩))
  · rw [if_neg (show ¬ hi.1.toNatClampNeg = 0 by rw [e2]; decide), if_neg (show ¬ hi.1.toNatClampNeg = 1 by rw [e2]; decide), if_neg (show ¬ hi.1.toNatClampNeg = 2 by rw [e2]; decide), if_pos e2]
    exact wp_bind (wp_mono (copyFrom_ok _ hb hc) (fun r hr => wp_some ⟨e1, hr, fun k hk hne => by rcases hg6 hk with rfl | rfl | rfl | rfl | rfl | rfl <;> first | exact absurd rfl hne | rfl⟩))
  · rw [if_neg (show ¬ hi.1.toNatClampNeg = 0 by rw [e2]; decide), if_neg (show ¬ hi.1.toNatClampNeg = 1 by rw [e2]; decide), if_neg (show ¬ hi.1.toNatClampNeg = 2 by rw [e2]; decide), if_neg (show ¬ hi.1.toNatClampNeg = 3 by rw [e2]; decide), if_pos e2]
    exact wp_bind (wp_mono (copyFrom_ok _ hb hc) (fun r hr => wp_some ⟨e1, hr, fun k hk hne => by rcases hg6 hk with rfl | rfl | rfl | rfl | rfl | rfl <;> first | exact absurd rfl hne | rfl⟩))
  · rw [if_neg (show ¬ hi.1.toNatClampNeg = 0 by rw [e2]; decide), if_neg (show ¬ hi.1.toNatClampNeg = 1 by rw [e2]; decide), if_neg (show ¬ hi.1.toNatClampNeg = 2 by rw [e2]; decide), if_neg (show ¬ hi.1.toNatClampNeg = 3 by rw [e2]; decide), if_neg (show ¬ hi.1.toNatClampNeg = 4 by rw [e2]; decide), if_pos e2]
    exact wp_bind (wp_mono (copyFrom_ok _ hb hc) (fun r hr => wp_some ⟨e1, hr, fun k hk hne => by rcases hg6 hk with rfl | rfl | rfl | rfl | rfl | rfl <;> first | exact absurd rfl hne | rfl⟩))
theorem tbJ_ok {N : Nat} {ct : CV} {hi : HV} {b : bk} {z : Nat} (hz : z < 6) (e : hi.1 = nI (z + 1)) (hb : OKb b) (hc : CR (hg hi z) b) : wp (tbJ N ct hi) (fun r => CR r.1 b ∧ r.2.1 = nI z ∧ ∀ k, hg r.2 k = hg hi k) := by
  have e1 : hi.1 - 1 = nI z := by rw [e]; exact pk_sub (a := z + 1) (b := 1) (by omega)
  have e2 : (hi.1 - 1).toNatClampNeg = z := by rw [e1]; exact nI_clamp (by omega)
  have e3 : ∀ K : Option (CV × HV), ck (hi.1 - 1) 6 K = K := fun K => by rw [e1]; exact q_ck hz (by decide)
  have e4 : ∀ k, hg (hi.1 - 1, hi.2) k = hg hi k := fun k => by
    by_cases h : k < 6
    · rcases hg6 h with rfl | rfl | rfl | rfl | rfl | rfl <;> rfl
    · obtain ⟨m, rfl⟩ : ∃ m, k = m + 6 := ⟨k - 6, by omega⟩
      rfl
  unfold tbJ
  rw [e3]
  rcases hg6 hz with rfl | rfl | rfl | rfl | rfl | rfl
  · rw [if_pos e2]
    exact wp_bind (wp_mono (copyFrom_ok _ hb hc) (fun r hr => wp_some ⟨hr, e1, e4⟩))
  · rw [if_neg (show ¬ (hi.1 - 1).toNatClampNeg = 0 by rw [e2]; decide), if_pos e2]
    exact wp_bind (wp_mono (copyFrom_ok _ hb hc) (fun r hr => wp_some ⟨hr, e1, e4⟩))
  · rw [if_neg (show ¬ (hi.1 - 1).toNatClampNeg = 0 by rw [e2]; decide), if_neg (show ¬ (hi.1 - 1).toNatClampNeg = 1 by rw [e2]; decide), if_pos e2]
    exact wp_bind (wp_mono (copyFrom_ok _ hb hc) (fun r hr => wp_some ⟨hr, e1, e4⟩))
  · rw [if_neg (show ¬ (hi.1 - 1).toNatClampNeg = 0 by rw [e2]; decide), if_neg (show ¬ (hi.1 - 1).toNatClampNeg = 1 by rw [e2]; decide), if_neg (show ¬ (hi.1 - 1).toNatClampNeg = 2 by rw [e2]; decide), if_pos e2]
    exact wp_bind (wp_mono (copyFrom_ok _ hb hc) (fun r hr => wp_some ⟨hr, e1, e4⟩))
  · rw [if_neg (show ¬ (hi.1 - 1).toNatClampNeg = 0 by rw [e2]; decide), if_neg (show ¬ (hi.1 - 1).toNatClampNeg = 1 by rw [e2]; decide), if_neg (show ¬ (hi.1 - 1).toNatClampNeg = 2 by rw [e2]; decide), if_neg (show ¬ (hi.1 - 1).toNatClampNeg = 3 by rw [e2]; decide), if_pos e2]
    exact wp_bind (wp_mono (copyFrom_ok _ hb hc) (fun r hr => wp_some ⟨hr, e1, e4⟩))
  · rw [if_neg (show ¬ (hi.1 - 1).toNatClampNeg = 0 by rw [e2]; decide), if_neg (show ¬ (hi.1 - 1).toNatClampNeg = 1 by rw [e2]; decide), if_neg (show ¬ (hi.1 - 1).toNatClampNeg = 2 by rw [e2]; decide), if_neg (show ¬ (hi.1 - 1).toNatClampNeg = 3 by rw [e2]; decide), if_neg (show ¬ (hi.1 - 1).toNatClampNeg = 4 by rw [e2]; decide), if_pos e2]
    exact wp_bind (wp_mono (copyFrom_ok _ hb hc) (fun r hr => wp_some ⟨hr, e1, e4⟩))
/-- what is recorded: of the class and of the reference -/
def HC (hi : HV) (hb : Nat → bk) (z : Nat) : Prop := z ≤ 6 ∧ hi.1 = nI z ∧ ∀ k, k < z → OKb (hb k) ∧ CR (hg hi k) (hb k)
def psZ (z : Nat) : Nat := if z < 6 then z + 1 else 6
def psH (hb : Nat → bk) (z : Nat) (b : bk) : Nat → bk := if z < 6 then fun k => if k = z then b else hb k else fun k => if k = 5 then b else hb (k + 1)
theorem recordC_ok {N : Nat} {ct : CV} {hi : HV} {b : bk} {hb : Nat → bk} {z : Nat} (ob : OKb b) (hc : CR ct b) (h : HC hi hb z) : wp (f_X3_record N ct hi) (fun r => HC r (psH hb z b) (psZ z)) := by
  obtain ⟨h1, h2, h3⟩ := h
  rw [record_J]
  by_cases hz : z < 6
  · rw [if_pos (show hi.1 < (6 : Int32) by rw [h2]; exact nI_lt (b := 6) hz (by decide))]
    refine wp_mono (recJ_ok ob hc hz h2) (fun r hr => ?_)
    obtain ⟨r1, r2, r3⟩ := hr
    unfold psZ psH
    rw [if_pos hz, if_pos hz]
    refine ⟨by omega, r1, fun k hk => ?_⟩
    by_cases g : k = z
    · subst g
      dsimp only
      rw [if_pos rfl]
      exact ⟨ob, r2⟩
    · dsimp only
      rw [if_neg g, r3 k (by omega) g]
      exact h3 k (by omega)
  · have e : z = 6 := by omega
    subst e
    rw [if_neg (show ¬ hi.1 < (6 : Int32) by rw [h2]; exact nI_nlt (b := 6) (Nat.le_refl _) (by decide))]
    refine wp_mono (recJ_ok (z := 5) ob hc (by decide) rfl) (fun r hr => ?_)
    obtain ⟨r1, r2, r3⟩ := hr
    unfold psZ psH
    rw [if_neg hz, if_neg hz]
    refine ⟨by omega, r1, fun k hk => ?_⟩
    by_cases g : k = 5
    · subst g
      dsimp only
      rw [if_pos rfl]
      exact ⟨ob, r2⟩
    · dsimp only
      rw [if_neg g, r3 k (by omega) g]
      have h4 := h3 (k + 1) (by omega)
      rcases hg6 hk with rfl | rfl | rfl | rfl | rfl | rfl
      · exact h4
      · exact h4
      · exact h4
      · exact h4
      · exact h4
      · exact absurd rfl g
