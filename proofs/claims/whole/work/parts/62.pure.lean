/-! tune: the reference -/
theorem tune2_L12 {N : Nat} {mo : MV} {b : bk} (hb : OKb b) (hs : MS mo b) (hbn : ∀ p, p < b 0 → mo.2.2.2.2.2.2.2.2.2.2.2.2.2.2.2.2.2 p = be b p (b 1)) {K : Int32 → Option (Int32 × MV)} {P : Int32 × MV → Prop} (hK : wp (K (nI (gm b (b 0)))) P) :
    ∀ (f p : Nat), p ≤ b 0 → b 0 - p < f → wp (f_X8_tune_L12 N mo K f (nI (gm b p)) (nI p)) P
  | 0, _, h1, h2 => by omega
  | f + 1, p, h1, h2 => by
    have h16 := hb.1
    rw [f_X8_tune_L12, q_ck0 (by decide) (by decide), show ((0 : Int32).toNatClampNeg) = 0 from rfl, hs 0 (by decide)]
    by_cases hp : p < b 0
    · obtain ⟨e, g⟩ := bb_le hb hp
      have hg := gm_le hb p h1
      rw [if_neg (show ¬ nI (b 0) ≤ nI p from nI_ge hp (by omega)), q_ck (show p < 16 by omega) (by decide), nI_clamp (show p < 2 ^ 31 by omega), hbn p hp, e, nI_1]
      have ih := tune2_L12 (N := N) hb hs hbn hK f (p + 1) (by omega) (by omega)
      unfold gm at ih
      by_cases h : gm b p < bb b p
      · rw [if_neg (show ¬ nI (bb b p) ≤ nI (gm b p) from nI_ge h (by omega)), q_ck (show p < 16 by omega) (by decide), q_bd]
        rw [if_pos h] at ih
        exact ih
      · rw [if_pos (show nI (bb b p) ≤ nI (gm b p) from nI_le (by omega) (by omega))]
        rw [if_neg h] at ih
        exact ih
    · have e : p = b 0 := by omega
      subst e
      rw [if_pos (show nI (b 0) ≤ nI (b 0) from nI_le (Nat.le_refl _) (by omega))]
      exact hK
/-- the weights up to p are tuned -/
def tnP (b : bk) (p : Nat) : bk := fun k => if k % 6 = 3 ∧ k / 6 < p then tnW b (k / 6) else b k
theorem tnP_up {b : bk} {p : Nat} {S : Nat → Int32} (h : ∀ k, k < 210 → S k = nI (tnP b p k)) : ∀ k, k < 210 → upd S (2 + 6 * p + 1) (nI (tnW b p)) k = nI (tnP b (p + 1) k) := by
  intro k hk
  by_cases e : k = 2 + 6 * p + 1
  · subst e
    refine (upd_s _ _ _).trans ?_
    unfold tnP
    rw [show (2 + 6 * p + 1) / 6 = p by omega, if_pos ⟨by omega, by omega⟩]
  · refine (upd_o e).trans ((h k hk).trans ?_)
    unfold tnP
    by_cases g : k % 6 = 3 ∧ k / 6 < p
    · rw [if_pos g, if_pos ⟨g.1, by omega⟩]
    · rw [if_neg g, if_neg (fun g2 => g ⟨g2.1, by omega⟩)]
theorem tune2_L53 {N : Nat} {mo : MV} {b : bk} (hb : OKb b) (hbn : ∀ p, p < b 0 → mo.2.2.2.2.2.2.2.2.2.2.2.2.2.2.2.2.2 p = be b p (b 1)) {K : Int32 → MV → Option (Int32 × MV)} {P : Int32 × MV → Prop} (hK : ∀ S, (∀ k, k < 210 → S k = nI (tnP b (b 0) k)) → wp (K (nI (tc b (b 0))) (sets mo S)) P) :
    ∀ (f p : Nat) (S : Nat → Int32), p ≤ b 0 → b 0 - p < f → (∀ k, k < 210 → S k = nI (tnP b p k)) → wp (f_X8_tune_L53 N (nI (gm b (b 0))) K f (nI (tc b p)) (nI p) (sets mo S)) P
  | 0, _, _, h1, h2, _ => by omega
  | f + 1, p, S, h1, h2, h3 => by
    have h16 := hb.1
    have e0 : tnP b p 0 = b 0 := if_neg (fun e => by omega)
    rw [f_X8_tune_L53, q_ck0 (by decide) (by decide), show ((0 : Int32).toNatClampNeg) = 0 from rfl, sets_1, h3 0 (by decide), e0]
    by_cases hp : p < b 0
    · obtain ⟨e, g⟩ := bb_le hb hp
      have hg := gm_le hb (b 0) (Nat.le_refl _)
      have ht := tnW_le hp
      have hv := hb.2.2.1 p hp
      have hms : MS (sets mo S) (tnP b p) := h3
      have ew : pW (tnP b p) p = pW b p := if_neg (fun e => by omega)
      have hpw := pWt_ok (N := N) hms (p := p) (by omega)
      rw [ew] at hpw
      rw [if_neg (show ¬ nI (b 0) ≤ nI p from nI_ge hp (by omega)), q_jn, nI_1, show (6 : Int32) = nI 6 from rfl, pk_mul, show (2 : Int32) = nI 2 from rfl, nI_add, nI_1]
      have etc : tc b (p + 1) = tc b p + (if pW b p = tnW b p then 0 else 1) := rfl
      have ih := tune2_L53 (N := N) hb hbn hK f (p + 1) (upd S (2 + 6 * p + 1) (nI (tnW b p))) (by omega) (by omega) (tnP_up h3)
      have fin : ∀ z : Int32, z = nI (tnW b p) → wp ((f_X8_piecePart N (sets mo S) (nI p) 1).bind (fun (r_92 : Int32) => jn (fun (s1_103 : Int32) => bd (nI (tc b p) + s1_103) (fun (x2_2 : Int32) => ck (nI (2 + 6 * p + 1)) 210 (f_X8_tune_L53 N (nI (gm b (b 0))) K f x2_2 (nI (p + 1)) (sets mo (upd S ((nI (2 + 6 * p + 1)).toNatClampNeg) z))))) (fun (J103 : Int32 → Option (Int32 × MV)) => if z = r_92 then J103 0 else J103 1))) P := by
        intro z hz
        rw [hz, hpw, Option.bind_some, q_jn]
        by_cases h : pW b p = tnW b p
        · rw [if_pos (show nI (tnW b p) = nI (pW b p) by rw [h])]
          dsimp only
          rw [q_bd, q_ck (show 2 + 6 * p + 1 < 210 by omega) (by decide), nI_clamp (show 2 + 6 * p + 1 < 2 ^ 31 by omega), show (0 : Int32) = nI 0 from rfl, nI_add]
          rw [etc, if_pos h] at ih
          exact ih
        · rw [if_neg (fun e2 => h ((nI_eq (by omega) (by omega)).mp e2).symm)]
          dsimp only
          rw [q_bd, q_ck (show 2 + 6 * p + 1 < 210 by omega) (by decide), nI_clamp (show 2 + 6 * p + 1 < 2 ^ 31 by omega), nI_1]
          rw [etc, if_neg h] at ih
          exact ih
      by_cases h0 : gm b (b 0) = 0
      · have e1 : tnW b p = 1 := if_pos h0
        rw [if_pos (show nI (gm b (b 0)) = (0 : Int32) by rw [h0]; rfl)]
        exact fin 1 (by rw [e1]; rfl)
      · have e1 : tnW b p = 1 + 8 * bb b p / gm b (b 0) := if_neg h0
        rw [if_neg (show ¬ nI (gm b (b 0)) = (0 : Int32) from nI_ne0 (by omega) (by omega)), q_ck (show p < 16 by omega) (by decide), q_nz (by omega) (by omega)]
        refine fin _ ?_
        show 1 + (8 : Int32) * mo.2.2.2.2.2.2.2.2.2.2.2.2.2.2.2.2.2 ((nI p).toNatClampNeg) / nI (gm b (b 0)) = _
        rw [nI_clamp (show p < 2 ^ 31 by omega), hbn p hp, e, show (8 : Int32) = nI 8 from rfl, pk_mul, pk_div (by omega) (by omega) (by omega), q_1a, e1]
    · have e : p = b 0 := by omega
      subst e
      rw [if_pos (show nI (b 0) ≤ nI (b 0) from nI_le (Nat.le_refl _) (by omega))]
      exact hK S h3
theorem tnP_all (b : bk) : tnP b (b 0) = tnB b := rfl
