theorem removePiece_ok {N : Nat} {c : CV} {b : bk} (hb : OKb b) (hc : CR c b) {x : Nat} (hx : x < b 0) : wp (f_X2_removePiece N c (nI x)) (fun r => CR r (drpB b x) ∧ r.1 = nI (b 0 - 1)) := by
  have h16 := hb.1
  unfold f_X2_removePiece
  rw [if_neg (show ¬ nI x < (0 : Int32) from nI_pos (by omega)), hc.1, if_pos (show nI x < nI (b 0) from nI_lt hx (by omega)), show nI (b 0) - 1 = nI (b 0 - 1) from pk_sub (b := 1) (by omega), nI_1, pk_sub (show x ≤ b 0 - 1 by omega), q_ckc (by omega) (by omega) (by decide) (by decide), q_ckc (by omega) (by omega) (by decide) (by decide), q_ckc (by omega) (by omega) (by decide) (by decide), nI_clamp (show x + 1 < 2 ^ 31 by omega), nI_clamp (show x < 2 ^ 31 by omega), nI_clamp (show b 0 - 1 - x < 2 ^ 31 by omega)]
  have mv : ∀ (f : Nat → Int32) (p : Nat), p < b 0 - 1 → va_cpy f f (x + 1) x (b 0 - 1 - x) p = f (shf x p) := by
    intro f p hp
    unfold va_cpy shf
    by_cases g : p < x
    · rw [if_neg (by omega), if_pos g]
    · rw [if_pos (by omega), if_neg g]
      congr 1
      omega
  refine wp_some ⟨⟨?_, ?_, fun p hp => ?_, fun w hw => ?_⟩, rfl⟩
  · rw [drpB_0]
  · rw [drpB_1]; exact hc.2.1
  · rw [drpB_0] at hp
    obtain ⟨g1, g2, g3⟩ := hc.2.2.1 (shf x p) (shf_lt hp)
    have hv := hb.2.2.1 (shf x p) (shf_lt hp)
    refine ⟨(mv _ p hp).trans (g1.trans ?_), (mv _ p hp).trans (g2.trans ?_), (mv _ p hp).trans (g3.trans ?_)⟩
    · rw [drpB_L hp]
      exact congrArg nI (cod_congr _ (fun k hk => (drpB_T hp (by omega)).symm))
    · rw [drpB_L hp]
    · rw [drpB_W hp]
  · rw [drpB_1] at hw
    obtain ⟨g1, g2, g3⟩ := hc.2.2.2 w hw
    refine ⟨g1.trans (by rw [drpB_wL hb]), g2.trans (by rw [drpB_wC hb]), fun k hk => ?_⟩
    rw [drpB_wL hb] at hk
    rw [drpB_wT hb]
    exact g3 k hk
