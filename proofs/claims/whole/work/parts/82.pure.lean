/-! piece, word -/
theorem RM_pad {mo : MV} {b : bk} {hb : Nat → bk} {z : Nat} {v : Nat → Bool} {sb : Nat → bk} {c c' : Nat → Nat} {n n' : Nat} (h : RM mo b hb z v sb c n) {P : Nat → Int32} {L : Int32} (hp : PM P L c' n') : RM (setp mo P L) b hb z v sb c' n' := ⟨h.1, h.2.1, h.2.2.1, hp⟩
theorem PC_0 (p : Nat → Int32) (c : Nat → Nat) : PC (0, p) c 0 := ⟨by omega, rfl, fun k hk => absurd hk (by omega)⟩
theorem m4_n {n : Nat} (h : n ≤ 4) : m4 n = n := by
  unfold m4
  by_cases q : n < 4
  · exact if_pos q
  · rw [if_neg q]; omega
theorem fnd_no {b : bk} {a : Nat → Nat} {L : Nat} (h : fnd b a L = none) : ∀ p, p < b 0 → ¬ (pL b p = L ∧ ∀ k, k < L → pT b p k = a k) := fun p hp => ff_none h p (Nat.zero_le _) (by omega)
theorem R_piece {N : Nat} (hN : 2000 < N) {ct : CV} {hi : HV} {sl : SV} {pd : PV} {mo : MV} (h : RR ct hi sl pd mo) (x1 : Int32) : wp (f_X7_piece N ct hi pd x1) (fun r => wp (f_X8_piece N mo x1) (fun q => r.1 = q.1 ∧ RR r.2.1 r.2.2.1 sl r.2.2.2 q.2)) := by
  have h0 := h
  obtain ⟨b, hb, z, v, sb, c, n, ⟨ob, oc, oh, os, op⟩, om⟩ := h
  obtain ⟨r, e1, e2, hw⟩ := whyBoth (N := N) (by omega) ob oc om.1 op om.2.2.2 x1
  unfold f_X7_piece
  refine wp_bindE e1 ?_
  rcases hw with ⟨wt, rfl, hP, w1, w9, h16, hf, rfl⟩ | hw
  · have hl := okP_l hP
    have hT : okT (ltr c) n wt := ⟨hP.1, hP.2.1, w1, w9, hl⟩
    rw [if_pos n00]
    refine wp_bind (wp_mono (recordC_ok ob oc oh) (fun r hr => ?_))
    refine wp_bindE (textC_ok (by omega) op hP.2.1 hP.2.2) ?_
    rw [op.2.1]
    refine wp_bind (wp_mono (addPieceC_ok ob oc h16 hP.2.1) (fun r2 hr2 => ?_))
    refine wp_some ?_
    unfold f_X8_piece
    refine wp_bindE e2 ?_
    rw [if_pos (show (0 : Int32) ≤ 0 by decide)]
    refine wp_bind (wp_mono (RM_rec hN om) (fun m hm => ?_))
    refine wp_bindE ((padText_ok (by omega) hm.2.2.2 (M := 4) (by decide)).trans (by rw [if_pos (show 1 ≤ n ∧ n ≤ 4 ∧ fnl c n 0 = n from hP), m4_n hP.2.1])) ?_
    refine wp_bind (wp_mono (addPieceM_ok (by omega) hm.1 h16 hT) (fun m2 hm2 => ?_))
    obtain ⟨g1, S, g2, hS⟩ := hm2
    rw [g2]
    refine wp_some ⟨?_, addB b (ltr c) n wt, psH hb z b, psZ z, v, sb, c, 0, ⟨addB_ok ob h16 hT (fnd_no hf), hr2.1, hr, os, PC_0 _ _⟩, RM_pad (RM_sets hm hS) (PM_0 m.2.2.2.2.2.2.1 c)⟩
    show r2.1 - 1 = m2.1
    rw [hr2.2, g1]
    exact nI_pred _
  · have hn : ¬ r = 0 := by rcases hw with rfl | rfl | rfl | rfl <;> decide
    have hn2 : ¬ 0 ≤ r := by rcases hw with rfl | rfl | rfl | rfl <;> decide
    rw [if_neg hn]
    refine wp_some ?_
    unfold f_X8_piece
    refine wp_bindE e2 ?_
    rw [if_neg hn2]
    exact wp_some ⟨rfl, h0⟩
theorem R_word {N : Nat} (hN : 2000 < N) {ct : CV} {hi : HV} {sl : SV} {pd : PV} {mo : MV} (h : RR ct hi sl pd mo) (x1 : Int32) : wp (f_X7_word N ct hi pd x1) (fun r => wp (f_X8_word N mo x1) (fun q => r.1 = q.1 ∧ RR r.2.1 r.2.2.1 sl r.2.2.2 q.2)) := by
  have h0 := h
  obtain ⟨b, hb, z, v, sb, c, n, ⟨ob, oc, oh, os, op⟩, om⟩ := h
  have h8 := ob.2.1
  have e1w : mo.1 ((1 : Int32).toNatClampNeg) = nI (b 1) := om.1 1 (by decide)
  have eh : f_X6_holdsLetters N pd 12 = some (nI (if 1 ≤ n ∧ n ≤ 12 ∧ fnl c n 0 = n then 1 else 0)) := holdsLetters_ok (by omega) op (M := 12) (by decide)
  have ep : f_X8_padText N mo 12 = some (if 1 ≤ n ∧ n ≤ 12 ∧ fnl c n 0 = n then nI (cod 7 (ltr c) (m4 n)) else 0) := padText_ok (by omega) om.2.2.2 (M := 12) (by decide)
  unfold f_X7_word
  refine wp_bindE eh ?_
  by_cases hP : 1 ≤ n ∧ n ≤ 12 ∧ fnl c n 0 = n
  · have hl := okP_l (M := 12) hP
    have hl97 : ∀ k, k < n → 97 ≤ c k := fun k hk => by
      have g : 1 ≤ c k - 96 ∧ c k - 96 ≤ 6 := hl k hk
      omega
    have m1 : 1 ≤ m4 n ∧ m4 n ≤ n ∧ m4 n ≤ 4 := by
      unfold m4
      split <;> omega
    have hcod := cod_pos (B := 7) m1.1 (fun k hk => hl k (by omega))
    have hcod2 := cod7_lt (a := ltr c) m1.2.2 (fun k hk => (hl k (by omega)).2)
    rw [if_pos hP] at ep ⊢
    rw [if_neg (show ¬ nI 1 = (0 : Int32) by decide)]
    rcases wi_1c (N := N) (c := 99) (M := 99) rfl (by decide) x1 with ⟨m, rfl, w1, w9, g1, g2, e3⟩ | ⟨g, e3⟩
    · rw [if_neg g1, if_pos g2, oc.2.1]
      by_cases g8 : b 1 < 8
      · rw [if_pos (show nI (b 1) < (8 : Int32) from nI_lt (b := 8) g8 (by decide))]
        refine wp_bind (wp_mono (recordC_ok ob oc oh) (fun r hr => ?_))
        refine wp_bind (wp_mono (addWordC_ok (by omega) ob oc op g8 hP.2.1 hl97) (fun r2 hr2 => ?_))
        refine wp_some ?_
        unfold f_X8_word
        refine wp_bindE ep ?_
        rw [if_neg (nI_ne0 hcod (by omega))]
        refine wp_bindE e3 ?_
        rw [if_neg n10, q_ck1 (by decide) (by decide), e1w, if_neg (show ¬ nI (b 1) = (8 : Int32) from fun q => absurd ((nI_eq (b := 8) (by omega) (by decide)).1 q) (by omega))]
        refine wp_bind (wp_mono (RM_rec hN om) (fun mm hm => ?_))
        have e1m : mm.1 ((1 : Int32).toNatClampNeg) = nI (b 1) := hm.1 1 (by decide)
        rw [q_ck1 (by decide) (by decide), e1m, q_bd, show (98 : Int32) = nI 98 from rfl, show (14 : Int32) = nI 14 from rfl, pk_mul, nI_add, q_bd, show nI (98 + 14 * b 1) + 0 = nI (98 + 14 * b 1 + 0) from nI_add _ 0, nI_1, q_ck (show 98 + 14 * b 1 + 0 < 210 by omega) (by decide), q_ck (show 98 + 14 * b 1 + 1 < 210 by omega) (by decide), nI_clamp (show 98 + 14 * b 1 + 0 < 2 ^ 31 by omega), nI_clamp (show 98 + 14 * b 1 + 1 < 2 ^ 31 by omega)]
        refine wordM_L (mo := mm) (m := m) hm.2.2.2 g8 hP.2.1 hl97 (fun S hS hS1 => ?_) N 0 (upd (upd mm.1 (98 + 14 * b 1 + 0) mm.2.2.2.2.2.2.2.1) (98 + 14 * b 1 + 1) (nI m)) (by decide) (by omega) (fun j hj0 hj hjk => ?_) ?_
        · rw [q_ck1 (by decide) (by decide), q_ck1 (by decide) (by decide), show ((1 : Int32).toNatClampNeg) = 1 from rfl]
          refine wp_some ⟨?_, addW b c n m, psH hb z b, psZ z, v, sb, c, 0, ⟨addW_ok ob g8 hP.1 hP.2.1 w1 w9 hl, hr2.1, hr, os, PC_0 _ _⟩, RM_pad (RM_sets hm (S := upd S 1 (S 1 + 1)) (fun k hk => ?_)) (PM_0 mm.2.2.2.2.2.2.1 c)⟩
          · show r2.2.2.2.2.1 - 1 = nI (b 1)
            rw [hr2.2]
            exact nI_pred _
          · by_cases e : k = 1
            · subst e
              rw [addW_1]
              refine (upd_s _ _ _).trans ?_
              rw [hS1, nI_1]
            · exact (upd_o e).trans (hS k e hk)
        · by_cases q1 : j = 98 + 14 * b 1 + 1
          · rw [q1, addW_n (by decide)]
            exact upd_s _ _ _
          · refine (upd_o q1).trans ?_
            by_cases q2 : j = 98 + 14 * b 1 + 0
            · rw [q2, addW_n (by decide)]
              exact (upd_s _ _ _).trans hm.2.2.2.2.1
            · exact (upd_o q2).trans ((hm.1 j hj).trans (congrArg nI (addW_o (by omega) (by omega)).symm))
        · exact (upd_o (by omega)).trans ((upd_o (by omega)).trans (hm.1 1 (by decide)))
      · rw [if_neg (show ¬ nI (b 1) < (8 : Int32) from nI_nlt (b := 8) (by omega) (by omega))]
        refine wp_some ?_
        unfold f_X8_word
        refine wp_bindE ep ?_
        rw [if_neg (nI_ne0 hcod (by omega))]
        refine wp_bindE e3 ?_
        rw [if_neg n10, q_ck1 (by decide) (by decide), e1w, if_pos (show nI (b 1) = (8 : Int32) from congrArg nI (show b 1 = 8 by omega))]
        exact wp_some ⟨rfl, h0⟩
    · rw [ite_bad g]
      refine wp_some ?_
      unfold f_X8_word
      refine wp_bindE ep ?_
      rw [if_neg (nI_ne0 hcod (by omega))]
      refine wp_bindE e3 ?_
      rw [if_pos n00]
      exact wp_some ⟨rfl, h0⟩
  · rw [if_neg hP] at ep ⊢
    rw [if_pos (show nI 0 = (0 : Int32) from rfl)]
    refine wp_some ?_
    unfold f_X8_word
    refine wp_bindE ep ?_
    rw [if_pos n00]
    exact wp_some ⟨rfl, h0⟩
