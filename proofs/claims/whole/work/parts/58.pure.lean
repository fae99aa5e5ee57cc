/-! dropping a piece -/
/-- what of the reference's object lasts: history, recorded, slots, isSaved, pad, padLength -/
def core (mo : MV) : (Nat → Int32) × Int32 × (Nat → Int32) × (Nat → Int32) × (Nat → Int32) × Int32 := (mo.2.2.1, mo.2.2.2.1, mo.2.2.2.2.1, mo.2.2.2.2.2.1, mo.2.2.2.2.2.2.1, mo.2.2.2.2.2.2.2.1)
theorem removePiece_ok {N : Nat} {c : CV} {b : bk} (hb : OKb b) (hc : CR c b) {x : Nat} (hx : x < b 0) : wp (f_X2_removePiece N c (nI x)) (fun r => CR r (drpB b x) ∧ r.1 = nI (b 0 - 1)) := by
  have h16 := hb.1
  unfold f_X2_removePiece
  rw [if_neg (show ¬ nI x < (0 : Int32) from nI_pos (by omega)), hc.1, if_pos (show nI x < nI (b 0) from nI_lt hx (by omega)), show nI (b 0) - 1 = nI (b 0 - 1) from pk_sub (b := 1) (by omega), nI_1, pk_sub (show x ≤ b 0 - 1 by omega), q_ckc (by omega) (by omega) (by decide) (by decide), q_ckc (by omega) (by omega) (by decide) (by decide), q_ckc (by omega) (by omega) (by decide) (by decide), nI_clamp (show x + 1 < 2 ^ 31 by omega), nI_clamp (show x < 2 ^ 31 by omega), nI_clamp (show b 0 - 1 - x < 2 ^ 31 by omega)]
  have mv : ∀ (f : Nat → Int32) (p : Nat), p < b 0 - 1 → va_cpy f f (x + 1) x (b 0 - 1 - x) p = f (shf x p) := by
    intro f p hp
    unfold va_cpy shf
    by_cases g : p < x
    · rw [if_neg (by omega), if_pos g]
    · rw [if_pos (by omega), if_neg g]
      congr 1
      omega
  refine wp_some ⟨⟨?_, ?_, fun p hp => ?_, fun w hw => ?_⟩, rfl⟩
  · rw [drpB_0]
  · rw [drpB_1]; exact hc.2.1
  · rw [drpB_0] at hp
    obtain ⟨g1, g2, g3⟩ := hc.2.2.1 (shf x p) (shf_lt hp)
    have hv := hb.2.2.1 (shf x p) (shf_lt hp)
    refine ⟨(mv _ p hp).trans (g1.trans ?_), (mv _ p hp).trans (g2.trans ?_), (mv _ p hp).trans (g3.trans ?_)⟩
    · rw [drpB_L hp]
      exact congrArg nI (cod_congr _ (fun k hk => (drpB_T hp (by omega)).symm))
    · rw [drpB_L hp]
    · rw [drpB_W hp]
  · rw [drpB_1] at hw
    obtain ⟨g1, g2, g3⟩ := hc.2.2.2 w hw
    refine ⟨g1.trans (by rw [drpB_wL hb]), g2.trans (by rw [drpB_wC hb]), fun k hk => ?_⟩
    rw [drpB_wL hb] at hk
    rw [drpB_wT hb]
    exact g3 k hk
def sets (mo : MV) (S : Nat → Int32) : MV := (S, mo.2.1, mo.2.2.1, mo.2.2.2.1, mo.2.2.2.2.1, mo.2.2.2.2.2.1, mo.2.2.2.2.2.2.1, mo.2.2.2.2.2.2.2.1, mo.2.2.2.2.2.2.2.2.1, mo.2.2.2.2.2.2.2.2.2.1, mo.2.2.2.2.2.2.2.2.2.2.1, mo.2.2.2.2.2.2.2.2.2.2.2.1, mo.2.2.2.2.2.2.2.2.2.2.2.2.1, mo.2.2.2.2.2.2.2.2.2.2.2.2.2.1, mo.2.2.2.2.2.2.2.2.2.2.2.2.2.2.1, mo.2.2.2.2.2.2.2.2.2.2.2.2.2.2.2.1, mo.2.2.2.2.2.2.2.2.2.2.2.2.2.2.2.2.1, mo.2.2.2.2.2.2.2.2.2.2.2.2.2.2.2.2.2)
theorem sets_1 (mo : MV) (S : Nat → Int32) : (sets mo S).1 = S := rfl
theorem dropPiece_L {N : Nat} {mo : MV} {b : bk} (hb : OKb b) {x : Nat} (hx : x < b 0) {K : MV → Option MV} {P : MV → Prop} (hK : ∀ S, S 0 = nI (b 0) → (∀ k, 0 < k → k < 210 → S k = nI (drpB b x k)) → wp (K (sets mo S)) P) :
    ∀ (f k : Nat) (S : Nat → Int32), 2 + 6 * x ≤ k → k ≤ 2 + 6 * (b 0 - 1) → 2 + 6 * (b 0 - 1) - k < f → S 0 = nI (b 0) → (∀ j, 0 < j → j < k → S j = nI (drpB b x j)) → (∀ j, k ≤ j → j < 210 → S j = nI (b j)) → wp (f_X8_dropPiece_L7 N (nI x) K f (nI k) (sets mo S)) P
  | 0, _, _, _, h1, h2, _, _, _ => by omega
  | f + 1, k, S, h0, h1, h2, h3, h4, h5 => by
    have h16 := hb.1
    rw [f_X8_dropPiece_L7, q_ck0 (by decide) (by decide), show ((0 : Int32).toNatClampNeg) = 0 from rfl, sets_1, h3, show nI (b 0) - 1 = nI (b 0 - 1) from pk_sub (b := 1) (by omega), show (6 : Int32) = nI 6 from rfl, pk_mul, show (2 : Int32) = nI 2 from rfl, nI_add, nI_add]
    by_cases hk : k < 2 + 6 * (b 0 - 1)
    · rw [if_neg (show ¬ nI (2 + 6 * (b 0 - 1)) ≤ nI k from nI_ge hk (by omega)), q_ck (show k + 6 < 210 by omega) (by decide), q_ck (show k < 210 by omega) (by decide), nI_1, nI_clamp (show k < 2 ^ 31 by omega), nI_clamp (show k + 6 < 2 ^ 31 by omega), h5 (k + 6) (by omega) (by omega)]
      refine dropPiece_L hb hx hK f (k + 1) (upd S k (nI (b (k + 6)))) (by omega) (by omega) (by omega) ((upd_o (by omega)).trans h3) (fun j hj1 hj2 => ?_) (fun j hj1 hj2 => (upd_o (by omega)).trans (h5 j (by omega) hj2))
      by_cases e : j = k
      · rw [e]
        refine (upd_s _ _ _).trans ?_
        unfold drpB
        rw [if_neg (by omega), if_pos ⟨h0, hk⟩]
      · exact (upd_o e).trans (h4 j hj1 (by omega))
    · have e : k = 2 + 6 * (b 0 - 1) := by omega
      rw [if_pos (show nI (2 + 6 * (b 0 - 1)) ≤ nI k from nI_le (by omega) (by omega))]
      refine hK S h3 (fun j hj1 hj2 => ?_)
      by_cases g : j < k
      · exact h4 j hj1 g
      · rw [h5 j (by omega) hj2]
        unfold drpB
        rw [if_neg (by omega), if_neg (by omega)]
theorem dropPiece_ok {N : Nat} (hN : 210 < N) {mo : MV} {b : bk} (hb : OKb b) (hs : MS mo b) {x : Nat} (hx : x < b 0) : wp (f_X8_dropPiece N mo (nI x)) (fun r => ∃ S, r = sets mo S ∧ ∀ k, k < 210 → S k = nI (drpB b x k)) := by
  have h16 := hb.1
  unfold f_X8_dropPiece
  rw [show (6 : Int32) = nI 6 from rfl, pk_mul, show (2 : Int32) = nI 2 from rfl, nI_add, q_bd]
  refine dropPiece_L hb hx (fun S g1 g2 => ?_) N (2 + 6 * x) mo.1 (Nat.le_refl _) (by omega) (by omega) (hs 0 (by decide)) (fun j hj1 hj2 => ?_) (fun j _ hj => hs j hj)
  · rw [q_ck0 (by decide) (by decide), q_ck0 (by decide) (by decide), show ((0 : Int32).toNatClampNeg) = 0 from rfl, sets_1, g1, show nI (b 0) - 1 = nI (b 0 - 1) from pk_sub (b := 1) (by omega)]
    refine wp_some ⟨upd S 0 (nI (b 0 - 1)), rfl, fun k hk => ?_⟩
    by_cases e : k = 0
    · rw [e, drpB_0]; exact upd_s _ _ _
    · exact (upd_o e).trans (g2 k (by omega) hk)
  · rw [hs j (by omega)]
    unfold drpB
    rw [if_neg (by omega), if_neg (by omega)]
/-- copy of 210 numbers -/
theorem copy_L {N nri nrk sf st : Nat} (h1 : sf + 210 ≤ nri) (h2 : st + 210 ≤ nrk) (b1 : nri < 2 ^ 31) (b2 : nrk < 2 ^ 31) {ri : Nat → Int32} {rk0 : Nat → Int32} :
    ∀ (f k : Nat) (rk : Nat → Int32), k ≤ 210 → 210 - k < f → (∀ j, j < k → rk (st + j) = ri (sf + j)) → (∀ j, j < st ∨ st + k ≤ j → rk j = rk0 j) → wp (f_X8_copy_L3 N nri ri nrk (nI sf) (nI st) (fun rk => some rk) f (nI k) rk) (fun r => (∀ j, j < 210 → r (st + j) = ri (sf + j)) ∧ ∀ j, j < st ∨ st + 210 ≤ j → r j = rk0 j)
  | 0, _, _, g1, g2, _, _ => by omega
  | f + 1, k, rk, g1, g2, g3, g4 => by
    rw [f_X8_copy_L3]
    by_cases h : k < 210
    · rw [if_neg (show ¬ (210 : Int32) ≤ nI k from nI_ge (b := 210) h (by decide)), nI_add, nI_add, q_ck (show sf + k < nri by omega) b1, q_ck (show st + k < nrk by omega) b2, nI_1, nI_clamp (show sf + k < 2 ^ 31 by omega), nI_clamp (show st + k < 2 ^ 31 by omega)]
      refine copy_L h1 h2 b1 b2 f (k + 1) _ (by omega) (by omega) (fun j hj => ?_) (fun j hj => (upd_o (by omega)).trans (g4 j (by omega)))
      by_cases e : j = k
      · rw [e]; exact upd_s _ _ _
      · exact (upd_o (by omega)).trans (g3 j (by omega))
    · have e : k = 210 := by omega
      subst e
      rw [if_pos (show (210 : Int32) ≤ nI 210 from nI_le (a := 210) (Nat.le_refl _) (by decide))]
      exact wp_some ⟨g3, g4⟩
theorem copy_ok {N nri nrk sf st : Nat} (hN : 210 < N) (h1 : sf + 210 ≤ nri) (h2 : st + 210 ≤ nrk) (b1 : nri < 2 ^ 31) (b2 : nrk < 2 ^ 31) (ri rk : Nat → Int32) : wp (f_X8_copy N nri ri nrk rk (nI sf) (nI st)) (fun r => (∀ j, j < 210 → r (st + j) = ri (sf + j)) ∧ ∀ j, j < st ∨ st + 210 ≤ j → r j = rk j) := by
  unfold f_X8_copy
  exact copy_L h1 h2 b1 b2 N 0 rk (Nat.zero_le _) (by omega) (fun j hj => by omega) (fun j _ => rfl)
theorem core_setc (mo : MV) (Pr : Nat → Int64) (C F : Nat → Int32) : core (setc mo Pr C F) = core mo := rfl
theorem core_sets (mo : MV) (S : Nat → Int32) : core (sets mo S) = core mo := rfl
theorem core_sett (mo : MV) (A B : Nat → Int64) : core (sett mo A B) = core mo := rfl
theorem core_setz (mo : MV) (A B : Nat → Int64) (Z : Nat → Int32) : core (setz mo A B Z) = core mo := rfl
theorem lossOf_ok {N : Nat} (hN : 210 < N) {mo : MV} {b : bk} (hb : OKb b) (hs : MS mo b) {x : Nat} (hx : x < b 0) : wp (f_X8_lossOf N mo (nI x)) (fun r => r.1 = nI (cW b x) - nI (sm (cost1 b none) (b 1)) ∧ MS r.2 b ∧ core r.2 = core mo) := by
  unfold f_X8_lossOf
  refine wp_bind (wp_mono (allCosts_ok (by omega) hb hs) (fun r1 hr1 => ?_))
  obtain ⟨e1, Pr, C, F, e2⟩ := hr1
  obtain ⟨r1a, r1b⟩ := r1
  dsimp only at e1 e2
  subst e1
  subst e2
  refine wp_bind (wp_mono (copy_ok (sf := 0) (st := 0) hN (by decide) (by decide) (by decide) (by decide) _ _) (fun r15 h15 => ?_))
  obtain ⟨h15, -⟩ := h15
  have hs2 : MS (setc mo Pr C F) b := hs
  refine wp_bind (wp_mono (dropPiece_ok (b := b) hN hb (x := x) (mo := (mo.1, r15, mo.2.2.1, mo.2.2.2.1, mo.2.2.2.2.1, mo.2.2.2.2.2.1, mo.2.2.2.2.2.2.1, mo.2.2.2.2.2.2.2.1, Pr, C, F, mo.2.2.2.2.2.2.2.2.2.2.2.1, mo.2.2.2.2.2.2.2.2.2.2.2.2.1, mo.2.2.2.2.2.2.2.2.2.2.2.2.2.1, mo.2.2.2.2.2.2.2.2.2.2.2.2.2.2.1, mo.2.2.2.2.2.2.2.2.2.2.2.2.2.2.2.1, mo.2.2.2.2.2.2.2.2.2.2.2.2.2.2.2.2.1, mo.2.2.2.2.2.2.2.2.2.2.2.2.2.2.2.2.2)) hs hx) (fun r20 h20 => ?_))
  obtain ⟨S, rfl, hS⟩ := h20
  refine wp_bind (wp_mono (allCosts_ok (by omega) (drpB_ok hb hx) (mo := sets (mo.1, r15, mo.2.2.1, mo.2.2.2.1, mo.2.2.2.2.1, mo.2.2.2.2.2.1, mo.2.2.2.2.2.2.1, mo.2.2.2.2.2.2.2.1, Pr, C, F, mo.2.2.2.2.2.2.2.2.2.2.2.1, mo.2.2.2.2.2.2.2.2.2.2.2.2.1, mo.2.2.2.2.2.2.2.2.2.2.2.2.2.1, mo.2.2.2.2.2.2.2.2.2.2.2.2.2.2.1, mo.2.2.2.2.2.2.2.2.2.2.2.2.2.2.2.1, mo.2.2.2.2.2.2.2.2.2.2.2.2.2.2.2.2.1, mo.2.2.2.2.2.2.2.2.2.2.2.2.2.2.2.2.2) S) hS) (fun r24 h24 => ?_))
  obtain ⟨e3, Pr2, C2, F2, e4⟩ := h24
  obtain ⟨r24a, r24b⟩ := r24
  dsimp only at e3 e4
  subst e3
  subst e4
  refine wp_bind (wp_mono (copy_ok (sf := 0) (st := 0) hN (by decide) (by decide) (by decide) (by decide) _ _) (fun r38 h38 => ?_))
  obtain ⟨h38, -⟩ := h38
  refine wp_some ⟨?_, fun k hk => ?_, rfl⟩
  · show nI (sm (cost1 (drpB b x) none) (drpB b x 1)) - nI (sm (cost1 b none) (b 1)) = _
    rw [drpB_cW hb hx]
  · have g1 := h38 k hk
    have g2 := h15 k hk
    rw [Nat.zero_add] at g1 g2
    refine (show _ = r38 k from rfl).trans (g1.trans ?_)
    exact (show _ = r15 k from rfl).trans (g2.trans (hs k hk))
