/-! the reference: the best cut -/
def setc (mo : MV) (Pr : Nat → Int64) (C F : Nat → Int32) : MV := (mo.1, mo.2.1, mo.2.2.1, mo.2.2.2.1, mo.2.2.2.2.1, mo.2.2.2.2.2.1, mo.2.2.2.2.2.2.1, mo.2.2.2.2.2.2.2.1, Pr, C, F, mo.2.2.2.2.2.2.2.2.2.2.2.1, mo.2.2.2.2.2.2.2.2.2.2.2.2.1, mo.2.2.2.2.2.2.2.2.2.2.2.2.2.1, mo.2.2.2.2.2.2.2.2.2.2.2.2.2.2.1, mo.2.2.2.2.2.2.2.2.2.2.2.2.2.2.2.1, mo.2.2.2.2.2.2.2.2.2.2.2.2.2.2.2.2.1, mo.2.2.2.2.2.2.2.2.2.2.2.2.2.2.2.2.2)
theorem setc_P (mo : MV) (Pr : Nat → Int64) (C F : Nat → Int32) : (setc mo Pr C F).2.2.2.2.2.2.2.2.1 = Pr := rfl
theorem setc_C (mo : MV) (Pr : Nat → Int64) (C F : Nat → Int32) : (setc mo Pr C F).2.2.2.2.2.2.2.2.2.1 = C := rfl
theorem setc_F (mo : MV) (Pr : Nat → Int64) (C F : Nat → Int32) : (setc mo Pr C F).2.2.2.2.2.2.2.2.2.2.1 = F := rfl
theorem setc_S (mo : MV) (b : bk) (Pr : Nat → Int64) (C F : Nat → Int32) (h : MS mo b) : MS (setc mo Pr C F) b := h
def FI (W : Nat → Nat → Nat) (n : Nat) (Pr : Nat → Int64) (C F : Nat → Int32) (i L : Nat) : Prop := (∀ j, i < j → j ≤ n → Pr j = lN (bs W n j).1 ∧ C j = nI (bs W n j).2.1 ∧ (j < n → F j = nI (bs W n j).2.2)) ∧ Pr i = lN (bsL W n i L).1 ∧ (1 ≤ L → C i = nI (bsL W n i L).2.1 ∧ F i = nI (bsL W n i L).2.2)
def FA (W : Nat → Nat → Nat) (n : Nat) (Pr : Nat → Int64) (C F : Nat → Int32) (i : Nat) : Prop := ∀ j, i ≤ j → j ≤ n → Pr j = lN (bs W n j).1 ∧ C j = nI (bs W n j).2.1 ∧ (j < n → F j = nI (bs W n j).2.2)
theorem cut_L39 {N : Nat} (hN : 16 < N) {mo : MV} {b : bk} (hb : OKb b) (hs : MS mo b) {w : Nat} (hw : w < b 1) {i : Nat} (hi : i < wL b w) {K : MV → Option MV} {P : MV → Prop} (hK : ∀ Pr C F, FI (W0 b w) (wL b w) Pr C F i (ml (wL b w) i) → wp (K (setc mo Pr C F)) P) :
    ∀ (f L : Nat) (Pr : Nat → Int64) (C F : Nat → Int32), L ≤ ml (wL b w) i → ml (wL b w) i - L < f → FI (W0 b w) (wL b w) Pr C F i L → wp (f_X8_findCut_L39 N (nI w) (nI i) K f (nI (L + 1)) (setc mo Pr C F)) P
  | 0, _, _, _, _, h1, h2, _ => by omega
  | f + 1, L, Pr, C, F, h1, h2, h3 => by
    have hv := hb.2.2.2.1 w hw
    have hm := ml_le (n := wL b w) (i := i)
    have hW : okW (W0 b w) (wL b w) := Wf_ok hb w none
    rw [f_X8_findCut_L39, longest_ok hb (setc_S mo b Pr C F hs) hw (by omega), Option.bind_some]
    by_cases hL : L < ml (wL b w) i
    · obtain ⟨g1, g2, g3⟩ := h3.1 (i + (L + 1)) (by omega) (by omega)
      have hp := bs_P hW hv.2.1 (show i + (L + 1) ≤ wL b w by omega)
      have hc := bs_C hW (show i + (L + 1) ≤ wL b w by omega)
      have hr := bsL_P hW hv.2.1 hi L (by omega)
      have h9 := hW.2 i (L + 1)
      have hpr : W0 b w i (L + 1) * (bs (W0 b w) (wL b w) (i + (L + 1))).1 ≤ 2541865828329 := Nat.le_trans (Nat.mul_le_mul h9 hp.2) (by decide)
      have es := bsL_s (W0 b w) (wL b w) i L
      rw [if_neg (show ¬ nI (ml (wL b w) i) < nI (L + 1) from nI_nlt (by omega) (by omega)), weightIn_ok hN hb (setc_S mo b Pr C F hs) hw (show L + 1 ≤ 4 by omega) (by omega), Option.bind_some, nI_add, q_ck (show i + (L + 1) < 13 by omega) (by decide), setc_P, setc_C, setc_F, nI_clamp (show i + (L + 1) < 2 ^ 31 by omega), q_toL (show W0 b w i (L + 1) < 2 ^ 31 by omega), g1, g2, lN_mul, q_bd, q_ck (show i + (L + 1) < 13 by omega) (by decide), q_1a, q_bd, nI_1 (L + 1), q_ck (show i < 13 by omega) (by decide), q_jn, nI_clamp (show i < 2 ^ 31 by omega), h3.2.1, q_cmp (by omega) (by omega)]
      have take : (0 < W0 b w i (L + 1) ∧ ((bsL (W0 b w) (wL b w) i L).1 < W0 b w i (L + 1) * (bs (W0 b w) (wL b w) (i + (L + 1))).1 ∨ W0 b w i (L + 1) * (bs (W0 b w) (wL b w) (i + (L + 1))).1 = (bsL (W0 b w) (wL b w) i L).1 ∧ 1 + (bs (W0 b w) (wL b w) (i + (L + 1))).2.1 ≤ (bsL (W0 b w) (wL b w) i L).2.1)) → wp (f_X8_findCut_L39 N (nI w) (nI i) K f (nI (L + 1 + 1)) (setc mo (vp_updL Pr i (lN (W0 b w i (L + 1) * (bs (W0 b w) (wL b w) (i + (L + 1))).1))) (upd C i (nI (1 + (bs (W0 b w) (wL b w) (i + (L + 1))).2.1))) (upd F i (nI (L + 1))))) P := by
        intro hn
        rw [if_pos hn] at es
        refine cut_L39 hN hb hs hw hi hK f (L + 1) _ _ _ (by omega) (by omega) ⟨fun j hj hjn => ?_, ?_, fun _ => ⟨?_, ?_⟩⟩
        · obtain ⟨e1, e2, e3⟩ := h3.1 j hj hjn
          exact ⟨(updL_o (by omega)).trans e1, (upd_o (by omega)).trans e2, fun g => (upd_o (by omega)).trans (e3 g)⟩
        · rw [es]; exact updL_s _ _ _
        · rw [es]; exact upd_s _ _ _
        · rw [es]; exact upd_s _ _ _
      by_cases hL0 : L = 0
      · have c0 : 0 < W0 b w i (L + 1) := by rw [hL0]; exact hW.1 i hi
        have c1 : (bsL (W0 b w) (wL b w) i L).1 < W0 b w i (L + 1) * (bs (W0 b w) (wL b w) (i + (L + 1))).1 := by
          have := Nat.mul_pos c0 hp.1
          rw [hL0, bsL_0]
          rw [hL0] at this
          exact this
        rw [if_neg (fun e => by have := (q_le0 (by omega)).mp e; omega), if_pos c1, if_pos (show (0 : Int32) < 1 by decide), q_ck (show i < 13 by omega) (by decide), q_ck (show i < 13 by omega) (by decide), q_ck (show i < 13 by omega) (by decide)]
        exact take ⟨c0, Or.inl c1⟩
      · have h4 := h3.2.2 (by omega)
        rw [h4.1]
        have stay : (¬ (0 < W0 b w i (L + 1) ∧ ((bsL (W0 b w) (wL b w) i L).1 < W0 b w i (L + 1) * (bs (W0 b w) (wL b w) (i + (L + 1))).1 ∨ W0 b w i (L + 1) * (bs (W0 b w) (wL b w) (i + (L + 1))).1 = (bsL (W0 b w) (wL b w) i L).1 ∧ 1 + (bs (W0 b w) (wL b w) (i + (L + 1))).2.1 ≤ (bsL (W0 b w) (wL b w) i L).2.1))) → wp (f_X8_findCut_L39 N (nI w) (nI i) K f (nI (L + 1 + 1)) (setc mo Pr C F)) P := by
          intro hn
          rw [if_neg hn] at es
          refine cut_L39 hN hb hs hw hi hK f (L + 1) Pr C F (by omega) (by omega) ⟨h3.1, ?_, fun _ => ⟨?_, ?_⟩⟩
          · rw [es]; exact h3.2.1
          · rw [es]; exact h4.1
          · rw [es]; exact h4.2
        by_cases c0 : W0 b w i (L + 1) ≤ 0
        · rw [if_pos ((q_le0 (by omega)).mpr c0)]
          exact stay (fun e => by omega)
        · rw [if_neg (fun e => c0 ((q_le0 (by omega)).mp e))]
          by_cases c1 : (bsL (W0 b w) (wL b w) i L).1 < W0 b w i (L + 1) * (bs (W0 b w) (wL b w) (i + (L + 1))).1
          · rw [if_pos c1, if_pos (show (0 : Int32) < 1 by decide), q_ck (show i < 13 by omega) (by decide), q_ck (show i < 13 by omega) (by decide), q_ck (show i < 13 by omega) (by decide)]
            exact take ⟨by omega, Or.inl c1⟩
          · rw [if_neg c1]
            by_cases c2 : W0 b w i (L + 1) * (bs (W0 b w) (wL b w) (i + (L + 1))).1 = (bsL (W0 b w) (wL b w) i L).1
            · rw [if_pos c2, if_neg (show ¬ (0 : Int32) < 0 by decide), q_ck (show i < 13 by omega) (by decide), if_pos (show (0 : Int32) = 0 from rfl), q_ck (show i < 13 by omega) (by decide)]
              by_cases c3 : (bsL (W0 b w) (wL b w) i L).2.1 < 1 + (bs (W0 b w) (wL b w) (i + (L + 1))).2.1
              · rw [if_pos ((nI_ltI (by omega) (by omega)).mpr c3)]
                exact stay (fun e => by omega)
              · rw [if_neg (fun e => c3 ((nI_ltI (by omega) (by omega)).mp e)), q_ck (show i < 13 by omega) (by decide), q_ck (show i < 13 by omega) (by decide), q_ck (show i < 13 by omega) (by decide)]
                exact take ⟨by omega, Or.inr ⟨c2, by omega⟩⟩
            · rw [if_neg c2, if_neg (show ¬ (0 : Int32) < -1 by decide), q_ck (show i < 13 by omega) (by decide), if_neg (show ¬ (-1 : Int32) = 0 by decide)]
              exact stay (fun e => by omega)
    · have e : L = ml (wL b w) i := by omega
      rw [if_pos (show nI (ml (wL b w) i) < nI (L + 1) from nI_lt (by omega) (by omega))]
      exact hK Pr C F (by rw [← e]; exact h3)
theorem cut_L25 {N : Nat} (hN : 16 < N) {mo : MV} {b : bk} (hb : OKb b) (hs : MS mo b) {w : Nat} (hw : w < b 1) {K : MV → Option MV} {P : MV → Prop} (hK : ∀ Pr C F, FA (W0 b w) (wL b w) Pr C F 0 → wp (K (setc mo Pr C F)) P) :
    ∀ (f i : Nat) (Pr : Nat → Int64) (C F : Nat → Int32), i ≤ wL b w → i < f → FA (W0 b w) (wL b w) Pr C F i → wp (f_X8_findCut_L25 N (nI w) K f (nI i - 1) (setc mo Pr C F)) P
  | 0, _, _, _, _, _, h2, _ => by omega
  | f + 1, 0, Pr, C, F, h1, h2, h3 => by
    rw [f_X8_findCut_L25, if_pos (show nI 0 - 1 < (0 : Int32) by decide)]
    exact hK Pr C F h3
  | f + 1, i + 1, Pr, C, F, h1, h2, h3 => by
    have hv := hb.2.2.2.1 w hw
    have hm := ml_le (n := wL b w) (i := i)
    have hm1 := ml_pos (n := wL b w) (i := i) (by omega)
    rw [f_X8_findCut_L25, nI_pred, if_neg (show ¬ nI i < (0 : Int32) from nI_pos (by omega)), q_ck (show i < 13 by omega) (by decide), setc_P, setc_C, setc_F, nI_clamp (show i < 2 ^ 31 by omega), dn_m1]
    have hK2 : ∀ Pr C F, FI (W0 b w) (wL b w) Pr C F i (ml (wL b w) i) → wp (f_X8_findCut_L25 N (nI w) K f (nI i - 1) (setc mo Pr C F)) P := fun Pr C F h4 => cut_L25 hN hb hs hw hK f i Pr C F (by omega) (by omega) (fun j hj hjn => by
      by_cases e : j = i
      · subst e
        rw [bs_i (by omega)]
        exact ⟨h4.2.1, (h4.2.2 hm1).1, fun _ => (h4.2.2 hm1).2⟩
      · exact h4.1 j (by omega) hjn)
    refine cut_L39 hN hb hs hw (by omega) hK2 N 0 (vp_updL Pr i 0) C F (Nat.zero_le _) (by omega) ⟨fun j hj hjn => ?_, ?_, fun g => absurd g (by decide)⟩
    · obtain ⟨e1, e2⟩ := h3 j (by omega) hjn
      exact ⟨(updL_o (by omega)).trans e1, e2⟩
    · rw [bsL_0]; exact updL_s _ _ _
theorem cut_ok {N : Nat} (hN : 16 < N) {mo : MV} {b : bk} (hb : OKb b) (hs : MS mo b) {w : Nat} (hw : w < b 1) : wp (f_X8_findCut N mo (nI w)) (fun r => ∃ Pr C F, r = setc mo Pr C F ∧ FA (W0 b w) (wL b w) Pr C F 0) := by
  have hv := hb.2.2.2.1 w hw
  have h8 := hb.2.1
  unfold f_X8_findCut
  rw [wLen_ok hs (by omega), Option.bind_some, q_ck (show wL b w < 13 by omega) (by decide), q_ck (show wL b w < 13 by omega) (by decide), nI_clamp (show wL b w < 2 ^ 31 by omega)]
  refine cut_L25 hN hb hs hw (fun Pr C F h => wp_some ⟨Pr, C, F, rfl, h⟩) N (wL b w) (vp_updL mo.2.2.2.2.2.2.2.2.1 (wL b w) 1) (upd mo.2.2.2.2.2.2.2.2.2.1 (wL b w) 0) mo.2.2.2.2.2.2.2.2.2.2.1 (Nat.le_refl _) (by omega) (fun j h1 h2 => ?_)
  have e : j = wL b w := by omega
  subst e
  rw [bs_n]
  exact ⟨updL_s _ _ _, upd_s _ _ _, fun g => absurd g (by omega)⟩
