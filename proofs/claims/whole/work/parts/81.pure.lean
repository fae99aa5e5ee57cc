/-! the calls that change the book: weigh, recount, drop, forget -/
theorem R_weigh {N : Nat} (hN : 2000 < N) {ct : CV} {hi : HV} {sl : SV} {pd : PV} {mo : MV} (h : RR ct hi sl pd mo) (x1 x2 : Int32) : wp (f_X7_weigh N ct hi x1 x2) (fun r => wp (f_X8_weigh N mo x1 x2) (fun q => r.1 = q.1 ∧ RR r.2.1 r.2.2 sl pd q.2)) := by
  have h0 := h
  obtain ⟨b, hb, z, v, sb, c, n, ⟨ob, oc, oh, os, op⟩, om⟩ := h
  have h16 := ob.1
  unfold f_X7_weigh
  rcases isP (N := N) ob oc om.1 x1 with ⟨p, rfl, hp, e1, e2⟩ | ⟨e1, e2⟩
  · refine wp_bindE e1 ?_
    rw [if_neg n10]
    rcases wi_1c (N := N) (c := 9) (M := 9) rfl (by decide) x2 with ⟨wt, rfl, w1, w9, g1, g2, e3⟩ | ⟨g, e3⟩
    · rw [if_neg g1, if_pos g2]
      refine wp_bind (wp_mono (recordC_ok ob oc oh) (fun r hr => ?_))
      rw [q_ck (show p < 16 by omega) (by decide), nI_clamp (show p < 2 ^ 31 by omega), q_bd, q_ck (show p < 16 by omega) (by decide)]
      refine wp_some ?_
      unfold f_X8_weigh
      refine wp_bindE e2 ?_
      unfold jn
      dsimp only
      rw [if_neg n10]
      refine wp_bindE e3 ?_
      rw [if_neg n10]
      refine wp_bind (wp_mono (RM_rec hN om) (fun m hm => ?_))
      refine wp_bindE (pWt_ok hm.1 (show p < 16 by omega)) ?_
      rw [show (2 : Int32) = nI 2 from rfl, show (6 : Int32) = nI 6 from rfl, pk_mul, nI_add, nI_1, q_ck (show 2 + 6 * p + 1 < 210 by omega) (by decide), nI_clamp (show 2 + 6 * p + 1 < 2 ^ 31 by omega)]
      refine wp_some ⟨(oc.2.2.1 p hp).2.2, wgB b p wt, psH hb z b, psZ z, v, sb, c, n, ⟨wgB_ok ob hp w1 w9, ?_, hr, os, op⟩, RM_sets hm (S := upd m.1 (2 + 6 * p + 1) (nI wt)) (fun k hk => ?_)⟩
      · refine CR_of (c' := setw ct (upd ct.2.2.2.1 p (nI wt))) ob oc rfl rfl rfl rfl rfl rfl (wgB_o (by omega)) (wgB_o (by omega)) (fun q hq => wgB_o (by omega)) (fun q k hq hk => wgB_o (by omega)) (fun q hq => ?_) (fun w hw => wgB_o (by omega)) (fun w hw => ?_) (fun w k hw hk => wgB_o (by omega))
        · by_cases e : q = p
          · rw [e, wgB_s]
            exact upd_s _ _ _
          · rw [wgB_W e]
            exact (upd_o e).trans (oc.2.2.1 q hq).2.2
        · rw [show wC (wgB b p wt) w = wC b w from wgB_o (by omega)]
          exact (oc.2.2.2 w hw).2.1
      · by_cases e : k = 2 + 6 * p + 1
        · rw [e]
          refine (upd_s _ _ _).trans (congrArg nI ?_)
          exact (if_pos (by omega)).symm
        · exact (upd_o e).trans ((hm.1 k hk).trans (congrArg nI (wgB_o (by omega)).symm))
    · rw [ite_bad g]
      refine wp_some ?_
      unfold f_X8_weigh
      refine wp_bindE e2 ?_
      unfold jn
      dsimp only
      rw [if_neg n10]
      refine wp_bindE e3 ?_
      rw [if_pos n00]
      refine wp_bindE e2 ?_
      rw [if_neg n10]
      exact wp_some ⟨rfl, h0⟩
  · refine wp_bindE e1 ?_
    rw [if_pos n00]
    refine wp_some ?_
    unfold f_X8_weigh
    refine wp_bindE e2 ?_
    unfold jn
    dsimp only
    rw [if_pos n00]
    refine wp_bindE e2 ?_
    rw [if_pos n00]
    exact wp_some ⟨rfl, h0⟩
theorem R_recount {N : Nat} (hN : 2000 < N) {ct : CV} {hi : HV} {sl : SV} {pd : PV} {mo : MV} (h : RR ct hi sl pd mo) (x1 x2 : Int32) : wp (f_X7_recount N ct hi x1 x2) (fun r => wp (f_X8_recount N mo x1 x2) (fun q => r.1 = q.1 ∧ RR r.2.1 r.2.2 sl pd q.2)) := by
  have h0 := h
  obtain ⟨b, hb, z, v, sb, c, n, ⟨ob, oc, oh, os, op⟩, om⟩ := h
  have h16 := ob.1
  have h8 := ob.2.1
  unfold f_X7_recount
  rcases isW (N := N) ob oc om.1 x1 with ⟨w, rfl, hw, e1, e2⟩ | ⟨e1, e2⟩
  · refine wp_bindE e1 ?_
    rw [if_neg n10]
    rcases wi_1c (N := N) (c := 99) (M := 99) rfl (by decide) x2 with ⟨wt, rfl, w1, w9, g1, g2, e3⟩ | ⟨g, e3⟩
    · rw [if_neg g1, if_pos g2]
      refine wp_bind (wp_mono (recordC_ok ob oc oh) (fun r hr => ?_))
      rw [q_ck (show w < 8 by omega) (by decide), nI_clamp (show w < 2 ^ 31 by omega), q_bd, q_ck (show w < 8 by omega) (by decide)]
      refine wp_some ?_
      unfold f_X8_recount
      refine wp_bindE e2 ?_
      unfold jn
      dsimp only
      rw [if_neg n10]
      refine wp_bindE e3 ?_
      rw [if_neg n10]
      refine wp_bind (wp_mono (RM_rec hN om) (fun m hm => ?_))
      refine wp_bindE (wCnt_ok hm.1 (show w < 8 by omega)) ?_
      rw [show (98 : Int32) = nI 98 from rfl, show (14 : Int32) = nI 14 from rfl, pk_mul, nI_add, nI_1, q_ck (show 98 + 14 * w + 1 < 210 by omega) (by decide), nI_clamp (show 98 + 14 * w + 1 < 2 ^ 31 by omega)]
      refine wp_some ⟨(oc.2.2.2 w hw).2.1, rcB b w wt, psH hb z b, psZ z, v, sb, c, n, ⟨rcB_ok ob hw w1 w9, ?_, hr, os, op⟩, RM_sets hm (S := upd m.1 (98 + 14 * w + 1) (nI wt)) (fun k hk => ?_)⟩
      · refine CR_of (c := ct) ob oc rfl rfl rfl rfl rfl rfl (rcB_o (by omega)) (rcB_o (by omega)) (fun q hq => rcB_o (by omega)) (fun q k hq hk => rcB_o (by omega)) (fun q hq => ?_) (fun w hw => rcB_o (by omega)) (fun u hu => ?_) (fun w k hw hk => rcB_o (by omega))
        · rw [show pW (rcB b w wt) q = pW b q from rcB_o (by omega)]
          exact (oc.2.2.1 q hq).2.2
        · by_cases e : u = w
          · rw [e, rcB_s]
            exact upd_s _ _ _
          · rw [rcB_C e]
            exact (upd_o e).trans (oc.2.2.2 u hu).2.1
      · by_cases e : k = 98 + 14 * w + 1
        · rw [e]
          refine (upd_s _ _ _).trans (congrArg nI ?_)
          exact (if_pos (by omega)).symm
        · exact (upd_o e).trans ((hm.1 k hk).trans (congrArg nI (rcB_o (by omega)).symm))
    · rw [ite_bad g]
      refine wp_some ?_
      unfold f_X8_recount
      refine wp_bindE e2 ?_
      unfold jn
      dsimp only
      rw [if_neg n10]
      refine wp_bindE e3 ?_
      rw [if_pos n00]
      refine wp_bindE e2 ?_
      rw [if_neg n10]
      exact wp_some ⟨rfl, h0⟩
  · refine wp_bindE e1 ?_
    rw [if_pos n00]
    refine wp_some ?_
    unfold f_X8_recount
    refine wp_bindE e2 ?_
    unfold jn
    dsimp only
    rw [if_pos n00]
    refine wp_bindE e2 ?_
    rw [if_pos n00]
    exact wp_some ⟨rfl, h0⟩
theorem R_drop {N : Nat} (hN : 2000 < N) {ct : CV} {hi : HV} {sl : SV} {pd : PV} {mo : MV} (h : RR ct hi sl pd mo) (x1 : Int32) : wp (f_X7_drop N ct hi x1) (fun r => wp (f_X8_drop N mo x1) (fun q => r.1 = q.1 ∧ RR r.2.1 r.2.2 sl pd q.2)) := by
  have h0 := h
  obtain ⟨b, hb, z, v, sb, c, n, ⟨ob, oc, oh, os, op⟩, om⟩ := h
  unfold f_X7_drop
  rcases isP (N := N) ob oc om.1 x1 with ⟨p, rfl, hp, e1, e2⟩ | ⟨e1, e2⟩
  · refine wp_bindE e1 ?_
    rw [if_neg n10]
    refine wp_bind (wp_mono (recordC_ok ob oc oh) (fun r hr => ?_))
    refine wp_bind (wp_mono (removePiece_ok ob oc hp) (fun r2 hr2 => ?_))
    refine wp_some ?_
    unfold f_X8_drop
    refine wp_bindE e2 ?_
    rw [if_neg n10]
    refine wp_bind (wp_mono (RM_rec hN om) (fun m hm => ?_))
    refine wp_bind (wp_mono (dropPiece_ok (by omega) ob hm.1 hp) (fun m2 hm2 => ?_))
    obtain ⟨S, rfl, hS⟩ := hm2
    rw [q_ck0 (by decide) (by decide)]
    refine wp_some ⟨hr2.2.trans ?_, drpB b p, psH hb z b, psZ z, v, sb, c, n, ⟨drpB_ok ob hp, hr2.1, hr, os, op⟩, RM_sets hm hS⟩
    exact (congrArg nI (drpB_0 b p)).symm.trans (hS 0 (by decide)).symm
  · refine wp_bindE e1 ?_
    rw [if_pos n00]
    refine wp_some ?_
    unfold f_X8_drop
    refine wp_bindE e2 ?_
    rw [if_pos n00]
    exact wp_some ⟨rfl, h0⟩
theorem R_forget {N : Nat} (hN : 2000 < N) {ct : CV} {hi : HV} {sl : SV} {pd : PV} {mo : MV} (h : RR ct hi sl pd mo) (x1 : Int32) : wp (f_X7_forget N ct hi x1) (fun r => wp (f_X8_forget N mo x1) (fun q => r.1 = q.1 ∧ RR r.2.1 r.2.2 sl pd q.2)) := by
  have h0 := h
  obtain ⟨b, hb, z, v, sb, c, n, ⟨ob, oc, oh, os, op⟩, om⟩ := h
  have h8 := ob.2.1
  unfold f_X7_forget
  rcases isW (N := N) ob oc om.1 x1 with ⟨w, rfl, hw, e1, e2⟩ | ⟨e1, e2⟩
  · refine wp_bindE e1 ?_
    rw [if_neg n10]
    refine wp_bind (wp_mono (recordC_ok ob oc oh) (fun r hr => ?_))
    refine wp_bind (wp_mono (removeWordC_ok ob oc hw) (fun r2 hr2 => ?_))
    refine wp_some ?_
    unfold f_X8_forget
    refine wp_bindE e2 ?_
    rw [if_neg n10]
    refine wp_bind (wp_mono (RM_rec hN om) (fun m hm => ?_))
    rw [show (98 : Int32) = nI 98 from rfl, show (14 : Int32) = nI 14 from rfl, pk_mul, nI_add, q_bd]
    refine forgetM_L (mo := m) ob hw (fun S hS1 hS => ?_) N (98 + 14 * w) m.1 (Nat.le_refl _) (by omega) (by omega) (hm.1 1 (by decide)) (fun j hj0 hj => ?_) (fun j _ hj => hm.1 j hj)
    · rw [q_ck1 (by decide) (by decide), q_ck1 (by decide) (by decide), q_ck1 (by decide) (by decide), show ((1 : Int32).toNatClampNeg) = 1 from rfl]
      have e3 : S 1 - 1 = nI (b 1 - 1) := by
        rw [hS1]
        exact pk_sub (b := 1) (by omega)
      refine wp_some ⟨hr2.2.trans ?_, frB b w, psH hb z b, psZ z, v, sb, c, n, ⟨frB_ok ob hw, hr2.1, hr, os, op⟩, RM_sets hm (S := upd S 1 (S 1 - 1)) (fun k hk => ?_)⟩
      · show nI (b 1 - 1) = upd S 1 (S 1 - 1) 1
        exact ((upd_s _ _ _).trans e3).symm
      · by_cases e : k = 1
        · rw [e, frB_1]
          exact (upd_s _ _ _).trans e3
        · exact (upd_o e).trans (hS k e hk)
    · refine (hm.1 j (by omega)).trans (congrArg nI ?_)
      unfold frB
      rw [if_neg hj0, if_neg (by omega)]
  · refine wp_bindE e1 ?_
    rw [if_pos n00]
    refine wp_some ?_
    unfold f_X8_forget
    refine wp_bindE e2 ?_
    rw [if_pos n00]
    exact wp_some ⟨rfl, h0⟩
