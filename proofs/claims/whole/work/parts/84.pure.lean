/-! answers: ofPiece, ofWord -/
theorem R_ofPiece {N : Nat} (hN : 2000 < N) {ct : CV} {hi : HV} {sl : SV} {pd : PV} {mo : MV} (h : RR ct hi sl pd mo) (lt : LV) (bc : BV) (ac : AV) (bn cw : Nat → Int32) (x1 x2 : Int32) : wp (f_X7_ofPiece N ct lt bc ac bn cw x1 x2) (fun r => wp (f_X8_ofPiece N mo x1 x2) (fun q => r.1 = q.1 ∧ RR ct hi sl pd q.2)) := by
  have h0 := h
  obtain ⟨b, hb, z, v, sb, c, n, ⟨ob, oc, oh, os, op⟩, om⟩ := h
  have h16 := ob.1
  have h8 := ob.2.1
  have same : ∀ m, MS m b → core m = core mo → RR ct hi sl pd m := fun m m1 m2 => ⟨b, hb, z, v, sb, c, n, ⟨ob, oc, oh, os, op⟩, RM_core om m1 m2⟩
  unfold f_X7_ofPiece
  rcases isP (N := N) ob oc om.1 x1 with ⟨p, rfl, hp, e1, e2⟩ | ⟨e1, e2⟩
  · have g3 := oc.2.2.1 p hp
    have hv := ob.2.2.1 p hp
    refine wp_bindE e1 ?_
    rw [if_neg n10]
    by_cases c0 : x2 = 0
    · rw [if_pos c0]
      rw [q_ck (show p < 16 by omega) (by decide), nI_clamp (show p < 2 ^ 31 by omega), g3.2.1]
      refine wp_some ?_
      unfold f_X8_ofPiece
      refine wp_bindE e2 ?_
      rw [if_neg n10, if_pos c0]
      rw [c0]
      refine wp_bindE (pLen_ok om.1 (by omega)) ?_
      exact wp_some ⟨rfl, h0⟩
    · skip
      by_cases c1 : x2 = 1
      · rw [if_neg c0, if_pos c1]
        rw [q_ck (show p < 16 by omega) (by decide), nI_clamp (show p < 2 ^ 31 by omega), g3.2.2]
        refine wp_some ?_
        unfold f_X8_ofPiece
        refine wp_bindE e2 ?_
        rw [if_neg n10, if_neg c0, if_pos c1]
        rw [c1]
        refine wp_bindE (pWt_ok om.1 (by omega)) ?_
        exact wp_some ⟨rfl, h0⟩
      · skip
        by_cases c2 : x2 = 2
        · rw [if_neg c0, if_neg c1, if_pos c2]
          have e9 : x2 - 2 = nI 0 := by rw [c2]; decide
          rw [q_ck (show p < 16 by omega) (by decide), q_ck (show p < 16 by omega) (by decide), nI_clamp (show p < 2 ^ 31 by omega), g3.1, g3.2.1, e9]
          refine wp_bindE (letC_ok hv.2.1 hv.2.2.2.2 (by decide)) ?_
          refine wp_some ?_
          unfold f_X8_ofPiece
          refine wp_bindE e2 ?_
          rw [if_neg n10, if_neg c0, if_neg c1, if_pos c2]
          rw [e9]
          refine wp_bindE (textOf_ok (by omega) ob om.1 hp) ?_
          refine wp_bindE (letterOf_ok (by omega) hv.1 hv.2.1 hv.2.2.2.2 (by decide)) ?_
          exact wp_some ⟨rfl, h0⟩
        · skip
          by_cases c3 : x2 = 3
          · rw [if_neg c0, if_neg c1, if_neg c2, if_pos c3]
            have e9 : x2 - 2 = nI 1 := by rw [c3]; decide
            rw [q_ck (show p < 16 by omega) (by decide), q_ck (show p < 16 by omega) (by decide), nI_clamp (show p < 2 ^ 31 by omega), g3.1, g3.2.1, e9]
            refine wp_bindE (letC_ok hv.2.1 hv.2.2.2.2 (by decide)) ?_
            refine wp_some ?_
            unfold f_X8_ofPiece
            refine wp_bindE e2 ?_
            rw [if_neg n10, if_neg c0, if_neg c1, if_neg c2, if_pos c3]
            rw [e9]
            refine wp_bindE (textOf_ok (by omega) ob om.1 hp) ?_
            refine wp_bindE (letterOf_ok (by omega) hv.1 hv.2.1 hv.2.2.2.2 (by decide)) ?_
            exact wp_some ⟨rfl, h0⟩
          · skip
            by_cases c4 : x2 = 4
            · rw [if_neg c0, if_neg c1, if_neg c2, if_neg c3, if_pos c4]
              have e9 : x2 - 2 = nI 2 := by rw [c4]; decide
              rw [q_ck (show p < 16 by omega) (by decide), q_ck (show p < 16 by omega) (by decide), nI_clamp (show p < 2 ^ 31 by omega), g3.1, g3.2.1, e9]
              refine wp_bindE (letC_ok hv.2.1 hv.2.2.2.2 (by decide)) ?_
              refine wp_some ?_
              unfold f_X8_ofPiece
              refine wp_bindE e2 ?_
              rw [if_neg n10, if_neg c0, if_neg c1, if_neg c2, if_neg c3, if_pos c4]
              rw [e9]
              refine wp_bindE (textOf_ok (by omega) ob om.1 hp) ?_
              refine wp_bindE (letterOf_ok (by omega) hv.1 hv.2.1 hv.2.2.2.2 (by decide)) ?_
              exact wp_some ⟨rfl, h0⟩
            · skip
              by_cases c5 : x2 = 5
              · rw [if_neg c0, if_neg c1, if_neg c2, if_neg c3, if_neg c4, if_pos c5]
                have e9 : x2 - 2 = nI 3 := by rw [c5]; decide
                rw [q_ck (show p < 16 by omega) (by decide), q_ck (show p < 16 by omega) (by decide), nI_clamp (show p < 2 ^ 31 by omega), g3.1, g3.2.1, e9]
                refine wp_bindE (letC_ok hv.2.1 hv.2.2.2.2 (by decide)) ?_
                refine wp_some ?_
                unfold f_X8_ofPiece
                refine wp_bindE e2 ?_
                rw [if_neg n10, if_neg c0, if_neg c1, if_neg c2, if_neg c3, if_neg c4, if_pos c5]
                rw [e9]
                refine wp_bindE (textOf_ok (by omega) ob om.1 hp) ?_
                refine wp_bindE (letterOf_ok (by omega) hv.1 hv.2.1 hv.2.2.2.2 (by decide)) ?_
                exact wp_some ⟨rfl, h0⟩
              · skip
                by_cases c6 : x2 = 6
                · rw [if_neg c0, if_neg c1, if_neg c2, if_neg c3, if_neg c4, if_neg c5, if_pos c6]
                  refine wp_bind (wp_mono (times_ok (by omega) ob oc hp lt bc) (fun r hr => ?_))
                  refine wp_some ?_
                  unfold f_X8_ofPiece
                  refine wp_bindE e2 ?_
                  rw [if_neg n10, if_neg c0, if_neg c1, if_neg c2, if_neg c3, if_neg c4, if_neg c5, if_pos c6]
                  refine wp_bind (wp_mono (often_ok (by omega) ob om.1 hp) (fun m hm => ?_))
                  exact wp_some ⟨hr.trans hm.1.symm, same _ hm.2.1 hm.2.2⟩
                · skip
                  by_cases c7 : x2 = 7
                  · rw [if_neg c0, if_neg c1, if_neg c2, if_neg c3, if_neg c4, if_neg c5, if_neg c6, if_pos c7]
                    refine wp_bind (wp_mono (lose_ok (by omega) ob oc lt bc cw) (fun r hr => ?_))
                    rw [q_ck (show p < 16 by omega) (by decide), nI_clamp (show p < 2 ^ 31 by omega), hr p hp]
                    refine wp_bind (wp_mono (costOfAll_ok (by omega) ob oc r.1 r.2.1) (fun r2 hr2 => ?_))
                    rw [hr2]
                    refine wp_some ?_
                    unfold f_X8_ofPiece
                    refine wp_bindE e2 ?_
                    rw [if_neg n10, if_neg c0, if_neg c1, if_neg c2, if_neg c3, if_neg c4, if_neg c5, if_neg c6, if_pos c7]
                    refine wp_bind (wp_mono (lossOf_ok (by omega) ob om.1 hp) (fun m hm => ?_))
                    rw [hm.1]
                    exact wp_some ⟨rfl, same _ hm.2.1 hm.2.2⟩
                  · skip
                    by_cases c8 : x2 = 8
                    · rw [if_neg c0, if_neg c1, if_neg c2, if_neg c3, if_neg c4, if_neg c5, if_neg c6, if_neg c7, if_pos c8]
                      refine wp_bind (wp_mono (bear_ok (by omega) ob oc lt ac bn) (fun r hr => ?_))
                      rw [q_ck (show p < 16 by omega) (by decide), nI_clamp (show p < 2 ^ 31 by omega), hr p hp]
                      refine wp_some ?_
                      unfold f_X8_ofPiece
                      refine wp_bindE e2 ?_
                      rw [if_neg n10, if_neg c0, if_neg c1, if_neg c2, if_neg c3, if_neg c4, if_neg c5, if_neg c6, if_neg c7, if_pos c8]
                      refine wp_bind (wp_mono (bears_ok (by omega) ob om.1) (fun m hm => ?_))
                      obtain ⟨A, B, Z, rfl, hZ⟩ := hm
                      rw [q_ck (show p < 16 by omega) (by decide), nI_clamp (show p < 2 ^ 31 by omega), setz_Z, hZ p hp]
                      exact wp_some ⟨rfl, same _ om.1 rfl⟩
                    · skip
                      rw [if_neg c0, if_neg c1, if_neg c2, if_neg c3, if_neg c4, if_neg c5, if_neg c6, if_neg c7, if_neg c8]
                      refine wp_some ?_
                      unfold f_X8_ofPiece
                      refine wp_bindE e2 ?_
                      rw [if_neg n10, if_neg c0, if_neg c1, if_neg c2, if_neg c3, if_neg c4, if_neg c5, if_neg c6, if_neg c7, if_neg c8]
                      exact wp_some ⟨rfl, h0⟩
  · refine wp_bindE e1 ?_
    rw [if_pos n00]
    refine wp_some ?_
    unfold f_X8_ofPiece
    refine wp_bindE e2 ?_
    rw [if_pos n00]
    exact wp_some ⟨rfl, h0⟩
theorem R_ofWord {N : Nat} (hN : 2000 < N) {ct : CV} {hi : HV} {sl : SV} {pd : PV} {mo : MV} (h : RR ct hi sl pd mo) (lt : LV) (bc : BV) (ac : AV) (x1 x2 : Int32) : wp (f_X7_ofWord N ct lt bc ac x1 x2) (fun r => wp (f_X8_ofWord N mo x1 x2) (fun q => r.1 = q.1 ∧ RR ct hi sl pd q.2)) := by
  have h0 := h
  obtain ⟨b, hb, z, v, sb, c, n, ⟨ob, oc, oh, os, op⟩, om⟩ := h
  have h16 := ob.1
  have h8 := ob.2.1
  have same : ∀ m, MS m b → core m = core mo → RR ct hi sl pd m := fun m m1 m2 => ⟨b, hb, z, v, sb, c, n, ⟨ob, oc, oh, os, op⟩, RM_core om m1 m2⟩
  unfold f_X7_ofWord
  rcases isW (N := N) ob oc om.1 x1 with ⟨w, rfl, hw, e1, e2⟩ | ⟨e1, e2⟩
  · have g3 := oc.2.2.2 w hw
    have hv := ob.2.2.2.1 w hw
    refine wp_bindE e1 ?_
    rw [if_neg n10]
    refine wp_bind (wp_mono (cutBest_ok (by omega) ob oc hw lt bc) (fun r hr => ?_))
    obtain ⟨hl, hB⟩ := hr
    by_cases c0 : x2 = 0
    · rw [if_pos c0]
      rw [q_ck (show w < 8 by omega) (by decide), nI_clamp (show w < 2 ^ 31 by omega), g3.1]
      refine wp_some ?_
      unfold f_X8_ofWord
      refine wp_bindE e2 ?_
      rw [if_neg n10]
      refine wp_bind (wp_mono (cut_ok (by omega) ob om.1 hw) (fun m hm => ?_))
      obtain ⟨Pr, C, F, rfl, hA⟩ := hm
      rw [if_pos c0]
      rw [c0]
      refine wp_bindE (wLen_ok (setc_S mo b Pr C F om.1) (by omega)) ?_
      exact wp_some ⟨rfl, same _ om.1 rfl⟩
    · skip
      by_cases c1 : x2 = 1
      · rw [if_neg c0, if_pos c1]
        rw [q_ck (show w < 8 by omega) (by decide), nI_clamp (show w < 2 ^ 31 by omega), g3.2.1]
        refine wp_some ?_
        unfold f_X8_ofWord
        refine wp_bindE e2 ?_
        rw [if_neg n10]
        refine wp_bind (wp_mono (cut_ok (by omega) ob om.1 hw) (fun m hm => ?_))
        obtain ⟨Pr, C, F, rfl, hA⟩ := hm
        rw [if_neg c0, if_pos c1]
        rw [c1]
        refine wp_bindE (wCnt_ok (setc_S mo b Pr C F om.1) (by omega)) ?_
        exact wp_some ⟨rfl, same _ om.1 rfl⟩
      · skip
        by_cases c2 : x2 = 2
        · rw [if_neg c0, if_neg c1, if_pos c2]
          rw [hB.2.1]
          refine wp_some ?_
          unfold f_X8_ofWord
          refine wp_bindE e2 ?_
          rw [if_neg n10]
          refine wp_bind (wp_mono (cut_ok (by omega) ob om.1 hw) (fun m hm => ?_))
          obtain ⟨Pr, C, F, rfl, hA⟩ := hm
          rw [if_neg c0, if_neg c1, if_pos c2]
          rw [q_ck0 (by decide) (by decide), setc_C, show ((0 : Int32).toNatClampNeg) = 0 from rfl, (hA 0 (Nat.le_refl _) (Nat.zero_le _)).2.1]
          exact wp_some ⟨rfl, same _ om.1 rfl⟩
        · skip
          by_cases c3 : x2 = 3
          · rw [if_neg c0, if_neg c1, if_neg c2, if_pos c3]
            rw [hB.2.2.1]
            refine wp_some ?_
            unfold f_X8_ofWord
            refine wp_bindE e2 ?_
            rw [if_neg n10]
            refine wp_bind (wp_mono (cut_ok (by omega) ob om.1 hw) (fun m hm => ?_))
            obtain ⟨Pr, C, F, rfl, hA⟩ := hm
            rw [if_neg c0, if_neg c1, if_neg c2, if_pos c3]
            refine wp_bindE (unseen_ok (by omega) ob (setc_S mo b Pr C F om.1) hw (fun j hj => (hA j (Nat.zero_le _) (by omega)).2.2 hj)) ?_
            exact wp_some ⟨rfl, same _ om.1 rfl⟩
          · skip
            by_cases c4 : x2 = 4
            · rw [if_neg c0, if_neg c1, if_neg c2, if_neg c3, if_pos c4]
              refine wp_bindE (cost_ok hB) ?_
              rw [q_ck (show w < 8 by omega) (by decide), nI_clamp (show w < 2 ^ 31 by omega), g3.2.1, pk_mul]
              refine wp_some ?_
              unfold f_X8_ofWord
              refine wp_bindE e2 ?_
              rw [if_neg n10]
              refine wp_bind (wp_mono (cut_ok (by omega) ob om.1 hw) (fun m hm => ?_))
              obtain ⟨Pr, C, F, rfl, hA⟩ := hm
              rw [if_neg c0, if_neg c1, if_neg c2, if_neg c3, if_pos c4]
              refine wp_bind (wp_mono (costOf_ok (by omega) ob (setc_S mo b Pr C F om.1) hw) (fun m2 hm2 => ?_))
              obtain ⟨q1, Pr2, C2, F2, q2⟩ := hm2
              rw [q1, q2]
              exact wp_some ⟨rfl, same _ om.1 rfl⟩
            · skip
              by_cases c5 : x2 = 5
              · rw [if_neg c0, if_neg c1, if_neg c2, if_neg c3, if_neg c4, if_pos c5]
                refine wp_bind (wp_mono (all_ok (by omega) ob hw hl ac) (fun r2 hr2 => ?_))
                unfold f_X0_cuts
                rw [q_ck0 (by decide) (by decide), show ((0 : Int32).toNatClampNeg) = 0 from rfl, (hr2.2 0 (Nat.zero_le _)).2, Option.bind_some]
                refine wp_some ?_
                unfold f_X8_ofWord
                refine wp_bindE e2 ?_
                rw [if_neg n10]
                refine wp_bind (wp_mono (cut_ok (by omega) ob om.1 hw) (fun m hm => ?_))
                obtain ⟨Pr, C, F, rfl, hA⟩ := hm
                rw [if_neg c0, if_neg c1, if_neg c2, if_neg c3, if_neg c4, if_pos c5]
                refine wp_bind (wp_mono (cuts_ok (by omega) ob (setc_S mo b Pr C F om.1) hw) (fun m2 hm2 => ?_))
                obtain ⟨q1, B, q2⟩ := hm2
                rw [q1, q2]
                exact wp_some ⟨rfl, same _ om.1 rfl⟩
              · skip
                rw [if_neg c0, if_neg c1, if_neg c2, if_neg c3, if_neg c4, if_neg c5]
                refine wp_some ?_
                unfold f_X8_ofWord
                refine wp_bindE e2 ?_
                rw [if_neg n10]
                refine wp_bind (wp_mono (cut_ok (by omega) ob om.1 hw) (fun m hm => ?_))
                obtain ⟨Pr, C, F, rfl, hA⟩ := hm
                rw [if_neg c0, if_neg c1, if_neg c2, if_neg c3, if_neg c4, if_neg c5]
                exact wp_some ⟨rfl, same _ om.1 rfl⟩
  · refine wp_bindE e1 ?_
    rw [if_pos n00]
    refine wp_some ?_
    unfold f_X8_ofWord
    refine wp_bindE e2 ?_
    rw [if_pos n00]
    exact wp_some ⟨rfl, h0⟩
