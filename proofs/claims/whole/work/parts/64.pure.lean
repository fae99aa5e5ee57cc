/-! the reference's history, and undo -/
def seth (mo : MV) (H : Nat → Int32) (R : Int32) : MV := (mo.1, mo.2.1, H, R, mo.2.2.2.2.1, mo.2.2.2.2.2.1, mo.2.2.2.2.2.2.1, mo.2.2.2.2.2.2.2.1, mo.2.2.2.2.2.2.2.2.1, mo.2.2.2.2.2.2.2.2.2.1, mo.2.2.2.2.2.2.2.2.2.2.1, mo.2.2.2.2.2.2.2.2.2.2.2.1, mo.2.2.2.2.2.2.2.2.2.2.2.2.1, mo.2.2.2.2.2.2.2.2.2.2.2.2.2.1, mo.2.2.2.2.2.2.2.2.2.2.2.2.2.2.1, mo.2.2.2.2.2.2.2.2.2.2.2.2.2.2.2.1, mo.2.2.2.2.2.2.2.2.2.2.2.2.2.2.2.2.1, mo.2.2.2.2.2.2.2.2.2.2.2.2.2.2.2.2.2)
theorem recordM_L {N : Nat} {mo : MV} {H0 : Nat → Int32} {R : Int32} {K : MV → Option MV} {P : MV → Prop} (hK : ∀ H, (∀ j, j < 1050 → H j = H0 (j + 210)) → wp (K (seth mo H R)) P) :
    ∀ (f k : Nat) (H : Nat → Int32), k ≤ 1050 → 1050 - k < f → (∀ j, j < k → H j = H0 (j + 210)) → (∀ j, k ≤ j → H j = H0 j) → wp (f_X8_record_L11 N K f (nI k) (seth mo H R)) P
  | 0, _, _, g1, g2, _, _ => by omega
  | f + 1, k, H, g1, g2, g3, g4 => by
    rw [f_X8_record_L11]
    by_cases h : k < 1050
    · rw [if_neg (show ¬ (1050 : Int32) ≤ nI k from nI_ge (b := 1050) h (by decide)), show (210 : Int32) = nI 210 from rfl, nI_add, q_ck (show k + 210 < 1260 by omega) (by decide), q_ck (show k < 1260 by omega) (by decide), nI_1, nI_clamp (show k < 2 ^ 31 by omega), nI_clamp (show k + 210 < 2 ^ 31 by omega)]
      refine recordM_L hK f (k + 1) (upd H k (H (k + 210))) (by omega) (by omega) (fun j hj => ?_) (fun j hj => (upd_o (by omega)).trans (g4 j (by omega)))
      by_cases e : j = k
      · rw [e]; exact (upd_s _ _ _).trans (g4 (k + 210) (by omega))
      · exact (upd_o e).trans (g3 j (by omega))
    · have e : k = 1050 := by omega
      subst e
      rw [if_pos (show (1050 : Int32) ≤ nI 1050 from nI_le (a := 1050) (Nat.le_refl _) (by decide))]
      exact hK H g3
def rcJ (N : Nat) (mo : MV) : Option MV := (f_X8_copy N 210 mo.1 1260 mo.2.2.1 0 (mo.2.2.2.1 * 210)).bind (fun r => some (seth mo r (mo.2.2.2.1 + 1)))
theorem recordM_J (N : Nat) (mo : MV) : f_X8_record N mo = if mo.2.2.2.1 = 6 then f_X8_record_L11 N (fun m => rcJ N (seth m m.2.2.1 (m.2.2.2.1 - 1))) N 0 mo else rcJ N mo := rfl
theorem rcJ_ok {N : Nat} (hN : 1050 < N) {mo : MV} {b : bk} (hs : MS mo b) {z : Nat} (hz : z < 6) (e : mo.2.2.2.1 = nI z) : wp (rcJ N mo) (fun r => ∃ H, r = seth mo H (nI (z + 1)) ∧ (∀ j, j < 210 → H (z * 210 + j) = nI (b j)) ∧ ∀ j, j < z * 210 → H j = mo.2.2.1 j) := by
  unfold rcJ
  rw [e, show (210 : Int32) = nI 210 from rfl, pk_mul, nI_1]
  refine wp_bind (wp_mono (copy_ok (N := N) (sf := 0) (st := z * 210) (by omega) (by decide) (by omega) (by decide) (by decide) _ _) (fun r hr => ?_))
  obtain ⟨r1, r2⟩ := hr
  refine wp_some ⟨r, rfl, fun j hj => ?_, fun j hj => r2 j (by omega)⟩
  have g := r1 j hj
  rw [Nat.zero_add] at g
  exact g.trans (hs j hj)
theorem recordM_ok {N : Nat} (hN : 1050 < N) {mo : MV} {b : bk} {hb : Nat → bk} {z : Nat} (hs : MS mo b) (h : HM mo.2.2.1 mo.2.2.2.1 hb z) : wp (f_X8_record N mo) (fun r => ∃ H R, r = seth mo H R ∧ HM H R (psH hb z b) (psZ z)) := by
  obtain ⟨h1, h2, h3⟩ := h
  rw [recordM_J]
  by_cases hz : z < 6
  · rw [if_neg (show ¬ mo.2.2.2.1 = (6 : Int32) by rw [h2]; exact fun q => absurd ((nI_eq (a := z) (b := 6) (by omega) (by decide)).1 q) (by omega))]
    refine wp_mono (rcJ_ok hN hs hz h2) (fun r hr => ?_)
    obtain ⟨H, r1, r2, r3⟩ := hr
    unfold psZ psH
    rw [if_pos hz, if_pos hz]
    refine ⟨H, _, r1, by omega, rfl, fun k hk j hj => ?_⟩
    by_cases g : k = z
    · subst g
      dsimp only
      rw [if_pos rfl]
      exact r2 j hj
    · dsimp only
      rw [if_neg g, r3 (k * 210 + j) (by omega)]
      exact h3 k (by omega) j hj
  · have e : z = 6 := by omega
    subst e
    rw [if_pos (show mo.2.2.2.1 = (6 : Int32) from h2)]
    refine recordM_L (mo := mo) (H0 := mo.2.2.1) (R := mo.2.2.2.1) (fun H hH => ?_) N 0 mo.2.2.1 (by decide) (by omega) (fun j hj => by omega) (fun j _ => rfl)
    have e5 : mo.2.2.2.1 - 1 = nI 5 := by rw [h2]; rfl
    refine wp_mono (rcJ_ok (mo := seth mo H (mo.2.2.2.1 - 1)) (b := b) (z := 5) hN hs (by decide) e5) (fun r hr => ?_)
    obtain ⟨H2, r1, r2, r3⟩ := hr
    unfold psZ psH
    rw [if_neg hz, if_neg hz]
    refine ⟨H2, _, r1, by decide, rfl, fun k hk j hj => ?_⟩
    by_cases g : k = 5
    · subst g
      dsimp only
      rw [if_pos rfl]
      exact r2 j hj
    · dsimp only
      rw [if_neg g]
      refine (r3 (k * 210 + j) (by omega)).trans ((hH (k * 210 + j) (by omega)).trans ?_)
      rw [show k * 210 + j + 210 = (k + 1) * 210 + j by omega]
      exact h3 (k + 1) (by omega) j hj
theorem undoC_ok {N : Nat} {ct : CV} {hi : HV} {hb : Nat → bk} {z : Nat} (h : HC hi hb (z + 1)) : wp (f_X7_undo N ct hi) (fun r => r.1 = nI z ∧ CR r.2.1 (hb z) ∧ HC r.2.2 hb z) := by
  obtain ⟨h1, h2, h3⟩ := h
  unfold f_X7_undo
  rw [if_neg (show ¬ hi.1 = (0 : Int32) by rw [h2]; exact fun q => absurd ((nI_eq (a := z + 1) (b := 0) (by omega) (by decide)).1 q) (by omega)), takeBack_J, if_pos (show (0 : Int32) < hi.1 by rw [h2]; exact nI_lt (a := 0) (by omega) (by omega))]
  obtain ⟨o1, o2⟩ := h3 z (by omega)
  refine wp_bind (wp_mono (tbJ_ok (z := z) (by omega) h2 o1 o2) (fun r hr => wp_some ⟨hr.2.1, hr.1, by omega, hr.2.1, fun k hk => ?_⟩))
  rw [hr.2.2 k]
  exact h3 k (by omega)
theorem undoC_0 {N : Nat} {ct : CV} {hi : HV} (h : hi.1 = nI 0) : f_X7_undo N ct hi = some (-5, ct, hi) := by
  unfold f_X7_undo
  rw [if_pos (show hi.1 = (0 : Int32) from h)]
theorem undoM_ok {N : Nat} (hN : 210 < N) {mo : MV} {hb : Nat → bk} {z : Nat} (h : HM mo.2.2.1 mo.2.2.2.1 hb (z + 1)) : wp (f_X8_undo N mo) (fun r => r.1 = nI z ∧ ∃ S, r.2 = sets (seth mo mo.2.2.1 (nI z)) S ∧ MS r.2 (hb z) ∧ HM mo.2.2.1 (nI z) hb z) := by
  obtain ⟨h1, h2, h3⟩ := h
  have e1 : mo.2.2.2.1 - 1 = nI z := by rw [h2]; exact pk_sub (a := z + 1) (b := 1) (by omega)
  unfold f_X8_undo
  rw [if_neg (show ¬ mo.2.2.2.1 = (0 : Int32) by rw [h2]; exact fun q => absurd ((nI_eq (a := z + 1) (b := 0) (by omega) (by decide)).1 q) (by omega)), e1, show (210 : Int32) = nI 210 from rfl, pk_mul]
  refine wp_bind (wp_mono (copy_ok (N := N) (sf := z * 210) (st := 0) hN (by omega) (by decide) (by decide) (by decide) _ _) (fun r hr => ?_))
  obtain ⟨r1, -⟩ := hr
  refine wp_some ⟨rfl, r, rfl, fun k hk => ?_, by omega, rfl, fun k hk => h3 k (by omega)⟩
  have g := r1 k hk
  rw [Nat.zero_add] at g
  exact (show _ = r k from rfl).trans (g.trans (h3 z (by omega) k hk))
theorem undoM_0 {N : Nat} {mo : MV} (h : mo.2.2.2.1 = nI 0) : f_X8_undo N mo = some (-5, mo) := by
  unfold f_X8_undo
  rw [if_pos (show mo.2.2.2.1 = (0 : Int32) from h)]
