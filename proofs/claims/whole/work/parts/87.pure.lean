/-! costWith, growing, the pad, undo, saved states -/
/-- a book whose line behind the last piece is another -/
def unB (b B : bk) : bk := fun k => if k = 0 then b 0 else B k
theorem R_costWith {N : Nat} (hN : 2000 < N) {ct : CV} {hi : HV} {sl : SV} {pd : PV} {mo : MV} (h : RR ct hi sl pd mo) (tr : CV) (lt : LV) (bc : BV) (x1 : Int32) : wp (f_X7_costWith N ct tr pd lt bc x1) (fun r => wp (f_X8_costWith N mo x1) (fun q => r.1 = q.1 ∧ RR ct hi sl pd q.2)) := by
  have h0 := h
  obtain ⟨b, hb, z, v, sb, c, n, ⟨ob, oc, oh, os, op⟩, om⟩ := h
  have h8 := ob.2.1
  obtain ⟨r, e1, e2, hw⟩ := whyBoth (N := N) (by omega) ob oc om.1 op om.2.2.2 x1
  unfold f_X7_costWith
  refine wp_bindE e1 ?_
  rcases hw with ⟨wt, rfl, hP, w1, w9, h16, hf, rfl⟩ | hw
  · have hl := okP_l hP
    have hT : okT (ltr c) n wt := ⟨hP.1, hP.2.1, w1, w9, hl⟩
    have oB := addB_ok ob h16 hT (fnd_no hf)
    rw [if_pos n00]
    refine wp_bind (wp_mono (copyFrom_ok tr ob oc) (fun r hr => ?_))
    refine wp_bindE (textC_ok (by omega) op hP.2.1 hP.2.2) ?_
    rw [op.2.1]
    refine wp_bind (wp_mono (addPieceC_ok ob hr h16 hP.2.1) (fun r2 hr2 => ?_))
    refine wp_bind (wp_mono (costOfAll_ok (by omega) oB hr2.1 lt bc) (fun r3 hr3 => ?_))
    rw [hr3]
    refine wp_some ?_
    unfold f_X8_costWith
    refine wp_bindE e2 ?_
    rw [if_pos (show (0 : Int32) ≤ 0 by decide)]
    refine wp_bindE ((padText_ok (by omega) om.2.2.2 (M := 4) (by decide)).trans (by rw [if_pos (show 1 ≤ n ∧ n ≤ 4 ∧ fnl c n 0 = n from hP), m4_n hP.2.1])) ?_
    refine wp_bind (wp_mono (addPieceM_ok (by omega) om.1 h16 hT) (fun m hm => ?_))
    obtain ⟨g1, S, g2, hS⟩ := hm
    rw [g2]
    refine wp_bind (wp_mono (allCosts_ok (by omega) oB (mo := sets mo S) hS) (fun m2 hm2 => ?_))
    obtain ⟨k1, Pr, C, F, k2⟩ := hm2
    rw [k1, k2, q_ck0 (by decide) (by decide), q_ck0 (by decide) (by decide), show ((0 : Int32).toNatClampNeg) = 0 from rfl]
    have eu : ∀ k, k ≠ 0 → unB b (addB b (ltr c) n wt) k = addB b (ltr c) n wt k := fun k hk => if_neg hk
    have eo : ∀ k, k ≠ 0 → (k < 2 + 6 * b 0 ∨ 8 + 6 * b 0 ≤ k) → unB b (addB b (ltr c) n wt) k = b k := fun k hk hk2 => (eu k hk).trans (addB_o hk hk2)
    have u0 : unB b (addB b (ltr c) n wt) 0 = b 0 := if_pos rfl
    have u1 : unB b (addB b (ltr c) n wt) 1 = b 1 := eo 1 (by omega) (by omega)
    refine wp_some ⟨rfl, unB b (addB b (ltr c) n wt), hb, z, v, sb, c, n, ⟨?_, ?_, oh, os, op⟩, RM_core (m := sets (setc (sets mo S) Pr C F) (upd S 0 (S 0 - 1))) om (fun k hk => ?_) rfl⟩
    · refine OKb_of ob u0 u1 (fun q hq => eo _ (by omega) (by omega)) (fun q k hq hk => eo _ (by omega) (by omega)) (fun q hq => ?_) (fun w hw => eo _ (by omega) (by omega)) (fun w hw => ?_) (fun w k hw hk => eo _ (by omega) (by omega))
      · rw [show pW (unB b (addB b (ltr c) n wt)) q = pW b q from eo _ (by omega) (by omega)]
        exact ⟨(ob.2.2.1 q hq).2.2.1, (ob.2.2.1 q hq).2.2.2.1⟩
      · rw [show wC (unB b (addB b (ltr c) n wt)) w = wC b w from eo _ (by omega) (by omega)]
        exact ⟨(ob.2.2.2.1 w hw).2.2.1, (ob.2.2.2.1 w hw).2.2.2.1⟩
    · refine CR_of ob oc rfl rfl rfl rfl rfl rfl u0 u1 (fun q hq => eo _ (by omega) (by omega)) (fun q k hq hk => eo _ (by omega) (by omega)) (fun q hq => ?_) (fun w hw => eo _ (by omega) (by omega)) (fun w hw => ?_) (fun w k hw hk => eo _ (by omega) (by omega))
      · rw [show pW (unB b (addB b (ltr c) n wt)) q = pW b q from eo _ (by omega) (by omega)]
        exact (oc.2.2.1 q hq).2.2
      · rw [show wC (unB b (addB b (ltr c) n wt)) w = wC b w from eo _ (by omega) (by omega)]
        exact (oc.2.2.2 w hw).2.1
    · show upd S 0 (S 0 - 1) k = nI (unB b (addB b (ltr c) n wt) k)
      by_cases e : k = 0
      · subst e
        rw [u0]
        refine (upd_s _ _ _).trans ?_
        rw [hS 0 (by decide), addB_0]
        exact nI_pred _
      · rw [eu k e]
        exact (upd_o e).trans (hS k hk)
  · have hn : ¬ r = 0 := by rcases hw with rfl | rfl | rfl | rfl <;> decide
    have hn2 : ¬ 0 ≤ r := by rcases hw with rfl | rfl | rfl | rfl <;> decide
    rw [if_neg hn]
    refine wp_some ?_
    unfold f_X8_costWith
    refine wp_bindE e2 ?_
    rw [if_neg hn2]
    exact wp_some ⟨rfl, h0⟩
theorem R_growing {N : Nat} (hN : 2000 < N) {ct : CV} {hi : HV} {sl : SV} {pd : PV} {mo : MV} (h : RR ct hi sl pd mo) (lt : LV) (bc : BV) (nb : NV) (x1 : Int32) : wp (f_X7_growing N ct lt bc nb x1) (fun r => wp (f_X8_growing N mo x1) (fun q => r.1 = q.1 ∧ RR ct hi sl pd q.2)) := by
  have h0 := h
  obtain ⟨b, hb, z, v, sb, c, n, ⟨ob, oc, oh, os, op⟩, om⟩ := h
  have h8 := ob.2.1
  obtain ⟨a1, a2⟩ := nA_ok ob (b 1) (Nat.le_refl _)
  unfold f_X7_growing
  rcases wi_0c (N := N) (c := 6) (M := 6) rfl (by decide) x1 with ⟨t, rfl, t6, q1, q2, e3⟩ | ⟨g, e3⟩
  · rw [if_neg q1, if_pos q2]
    refine wp_bind (wp_mono (fG_ok (by omega) ob oc lt bc nb) (fun r hr => ?_))
    obtain ⟨y, fi, hnc, hr1⟩ := hr
    have hsame := same_gr ob hnc
    have hy := hnc.1
    cases e : mf (fun i => tO b (fi i)) (fun i => x8 b (fi i)) y with
    | none =>
      rw [e] at hr1 hsame
      rw [if_neg (show ¬ 0 ≤ r.1 by rw [hr1]; decide)]
      refine wp_some ?_
      unfold f_X8_growing
      refine wp_bindE e3 ?_
      rw [if_neg n10]
      refine wp_bind (wp_mono (gA_ok (by omega) ob om.1) (fun m hm => ?_))
      obtain ⟨m1, m2, m3, -⟩ := hm
      rw [hsame] at m1
      rw [if_pos (show m.1 = (-6 : Int32) from m1)]
      exact wp_some ⟨rfl, b, hb, z, v, sb, c, n, ⟨ob, oc, oh, os, op⟩, RM_core om m2 m3⟩
    | some i =>
      rw [e] at hr1 hsame
      have hi2 := (mf_best y i e).1
      obtain ⟨f1, f2, f3, f4, f5⟩ := hnc.2.2.1 i hi2
      have hv := a1 (fi i) f1
      have hr2 : r.1 = nI i := hr1
      have go : ∀ a, (∀ m : Int32 × MV, m.1 = nI (fi i) → NMf m.2.2.2.2.2.2.2.2.2.2.2.2.2.2.1 m.2.2.2.2.2.2.2.2.2.2.2.2.2.2.2.1 m.2.2.2.2.2.2.2.2.2.2.2.2.2.2.2.2.1 m.2.2.2.2.2.2.2.2.2.2.2.2.2.2.2.2.2.1 b (nA b (b 1)) → wp (if nI t = 0 then ck (nI (fi i)) 88 ((f_X8_lengthOf N (m.2.2.2.2.2.2.2.2.2.2.2.2.2.2.1 ((nI (fi i)).toNatClampNeg))).bind (fun (r_37 : Int32) => some (r_37, m.2))) else if nI t = 1 then ck (nI (fi i)) 88 ((f_X8_standsSo N m.2 (m.2.2.2.2.2.2.2.2.2.2.2.2.2.2.1 ((nI (fi i)).toNatClampNeg))).bind (fun (r_55 : Int32) => some (r_55, m.2))) else if nI t = 2 then ck (nI (fi i)) 88 (some (m.2.2.2.2.2.2.2.2.2.2.2.2.2.2.2.2.1 ((nI (fi i)).toNatClampNeg), m.2)) else ck (nI (fi i)) 88 ((f_X8_letterOf N (m.2.2.2.2.2.2.2.2.2.2.2.2.2.2.1 ((nI (fi i)).toNatClampNeg)) (nI t - 3)).bind (fun (r_84 : Int32) => some (r_84, m.2)))) (fun q => a = q.1 ∧ q.2 = m.2)) → wp (f_X8_growing N mo (nI t)) (fun q => a = q.1 ∧ RR ct hi sl pd q.2) := fun a hk => by
        unfold f_X8_growing
        refine wp_bindE e3 ?_
        rw [if_neg n10]
        refine wp_bind (wp_mono (gA_ok (by omega) ob om.1) (fun m hm => ?_))
        obtain ⟨m1, m2, m3, m4⟩ := hm
        rw [hsame] at m1
        have m1b : m.1 = nI (fi i) := m1
        rw [m1b, if_neg (show ¬ nI (fi i) = (-6 : Int32) by rw [q_nem6 (by omega)]; exact id)]
        refine wp_mono (hk m m1b m4) (fun q hq => ⟨hq.1, ?_⟩)
        rw [hq.2]
        exact ⟨b, hb, z, v, sb, c, n, ⟨ob, oc, oh, os, op⟩, RM_core om m2 m3⟩
      rw [hr2, if_pos (q_ge0 (by omega)), nI_clamp (show i < 2 ^ 31 by omega)]
      by_cases c0 : nI t = (0 : Int32)
      · rw [if_pos c0, q_ck (show i < 88 by omega) (by decide), f3]
        refine wp_some ?_
        refine go _ (fun m m1 m4 => ?_)
        rw [if_pos c0, q_ck (show fi i < 88 by omega) (by decide), nI_clamp (show fi i < 2 ^ 31 by omega), (m4.2 (fi i) f1).1]
        refine wp_bindE (lengthOf_ok (by omega) hv.2.2.1 (VE_seg ob hv)) ?_
        exact wp_some ⟨rfl, rfl⟩
      · by_cases c1 : nI t = (1 : Int32)
        · rw [if_neg c0, if_pos c1, q_ck (show i < 88 by omega) (by decide), f5]
          refine wp_some ?_
          refine go _ (fun m m1 m4 => ?_)
          have g7 := c7_lt ob hv
          rw [if_neg c0, if_pos c1, q_ck (show fi i < 88 by omega) (by decide), nI_clamp (show fi i < 2 ^ 31 by omega), (m4.2 (fi i) f1).1]
          refine wp_bindE (stands_ok (by omega) ob a1 (by omega) m4 (by omega)) ?_
          exact wp_some ⟨rfl, rfl⟩
        · by_cases c2 : nI t = (2 : Int32)
          · rw [if_neg c0, if_neg c1, if_pos c2, q_ck (show i < 88 by omega) (by decide), f4]
            refine wp_some ?_
            refine go _ (fun m m1 m4 => ?_)
            rw [if_neg c0, if_neg c1, if_pos c2, q_ck (show fi i < 88 by omega) (by decide), nI_clamp (show fi i < 2 ^ 31 by omega), (m4.2 (fi i) f1).2.2]
            exact wp_some ⟨rfl, rfl⟩
          · have t3 : 3 ≤ t := by
              rcases Nat.lt_or_ge t 3 with q | q
              · have : t = 0 ∨ t = 1 ∨ t = 2 := by omega
                rcases this with rfl | rfl | rfl
                · exact absurd rfl c0
                · exact absurd rfl c1
                · exact absurd rfl c2
              · exact q
            have e9 : nI t - 3 = nI (t - 3) := pk_sub (b := 3) t3
            rw [if_neg c0, if_neg c1, if_neg c2, q_ck (show i < 88 by omega) (by decide), q_ck (show i < 88 by omega) (by decide), f2, f3, e9]
            refine wp_bindE (letC_ok hv.2.2.1 (VE_seg ob hv) (by omega)) ?_
            refine wp_some ?_
            refine go _ (fun m m1 m4 => ?_)
            rw [if_neg c0, if_neg c1, if_neg c2, q_ck (show fi i < 88 by omega) (by decide), nI_clamp (show fi i < 2 ^ 31 by omega), (m4.2 (fi i) f1).1, e9]
            refine wp_bindE (letterOf_ok (by omega) hv.2.1 hv.2.2.1 (VE_seg ob hv) (by omega)) ?_
            exact wp_some ⟨rfl, rfl⟩
  · rw [ite_bad g]
    refine wp_some ?_
    unfold f_X8_growing
    refine wp_bindE e3 ?_
    rw [if_pos n00]
    exact wp_some ⟨rfl, h0⟩
theorem R_put {N : Nat} (hN : 2000 < N) {ct : CV} {hi : HV} {sl : SV} {pd : PV} {mo : MV} (h : RR ct hi sl pd mo) (x : Int64) : wp (f_X7_put N pd x) (fun r => wp (f_X8_put N mo x) (fun q => r.1 = q.1 ∧ RR ct hi sl r.2 q.2)) := by
  obtain ⟨b, hb, z, v, sb, c, n, ⟨ob, oc, oh, os, op⟩, om⟩ := h
  refine wp_mono (put_ok (by omega) op om.2.2.2 x) (fun r hr => wp_mono hr (fun q hq => ?_))
  obtain ⟨g1, c', k', P, L, g2, g3, g4⟩ := hq
  refine ⟨g1, b, hb, z, v, sb, c', k', ⟨ob, oc, oh, os, g2⟩, ?_⟩
  rw [g3]
  exact RM_pad om g4
theorem R_wipe {N : Nat} {ct : CV} {hi : HV} {sl : SV} {pd : PV} {mo : MV} (h : RR ct hi sl pd mo) : wp (f_X7_wipe N pd) (fun r => wp (f_X8_wipe N mo) (fun q => r.1 = q.1 ∧ RR ct hi sl r.2 q.2)) := by
  obtain ⟨b, hb, z, v, sb, c, n, ⟨ob, oc, oh, os, op⟩, om⟩ := h
  refine wp_mono (wipeC_ok op) (fun r hr => wp_mono (wipeM_ok om.2.2.2) (fun q hq => ?_))
  refine ⟨hr.1.trans hq.1.symm, b, hb, z, v, sb, c, 0, ⟨ob, oc, oh, os, hr.2⟩, ?_⟩
  rw [hq.2]
  exact RM_pad om (PM_0 mo.2.2.2.2.2.2.1 c)
theorem R_fault {N : Nat} (hN : 2000 < N) {ct : CV} {hi : HV} {sl : SV} {pd : PV} {mo : MV} (h : RR ct hi sl pd mo) : wp (f_X7_fault N pd) (fun r => wp (f_X8_fault N mo) (fun q => r = q)) := by
  obtain ⟨b, hb, z, v, sb, c, n, ⟨ob, oc, oh, os, op⟩, om⟩ := h
  rw [faultC_ok (by omega) op, faultM_ok (by omega) om.2.2.2]
  exact wp_some (wp_some rfl)
theorem R_undo {N : Nat} (hN : 2000 < N) {ct : CV} {hi : HV} {sl : SV} {pd : PV} {mo : MV} (h : RR ct hi sl pd mo) : wp (f_X7_undo N ct hi) (fun r => wp (f_X8_undo N mo) (fun q => r.1 = q.1 ∧ RR r.2.1 r.2.2 sl pd q.2)) := by
  have h0 := h
  obtain ⟨b, hb, z, v, sb, c, n, ⟨ob, oc, oh, os, op⟩, om⟩ := h
  cases z with
  | zero =>
    rw [undoC_0 oh.2.1, undoM_0 om.2.1.2.1]
    exact wp_some (wp_some ⟨rfl, h0⟩)
  | succ z =>
    refine wp_mono (undoC_ok oh) (fun r hr => wp_mono (undoM_ok (by omega) om.2.1) (fun q hq => ?_))
    obtain ⟨g1, S, g2, g3, g4⟩ := hq
    refine ⟨hr.1.trans g1.symm, hb z, hb, z, v, sb, c, n, ⟨(oh.2.2 z (by omega)).1, hr.2.1, hr.2.2, os, op⟩, ?_⟩
    rw [g2] at g3 ⊢
    exact ⟨g3, g4, om.2.2.1, om.2.2.2⟩
theorem q_slot {x : Int32} (g : x < 0 ∨ ¬ x ≤ 1) {α : Type} (A B : α) : (if x < 0 then A else if x < 2 then B else A) = A := by
  by_cases h : x < 0
  · exact if_pos h
  · rw [if_neg h]
    refine if_neg (fun q => g.resolve_left h ?_)
    obtain ⟨j, hj, rfl⟩ := nI_of h
    rcases Nat.lt_or_ge j 2 with r | r
    · exact nI_le (b := 1) (by omega) (by decide)
    · exact absurd q (nI_nlt (b := 2) r hj)
theorem R_save {N : Nat} (hN : 2000 < N) {ct : CV} {hi : HV} {sl : SV} {pd : PV} {mo : MV} (h : RR ct hi sl pd mo) (x1 : Int32) : wp (f_X7_save N ct sl x1) (fun r => wp (f_X8_save N mo x1) (fun q => r.1 = q.1 ∧ RR ct hi r.2 pd q.2)) := by
  have h0 := h
  obtain ⟨b, hb, z, v, sb, c, n, ⟨ob, oc, oh, os, op⟩, om⟩ := h
  rcases wi_0c (N := N) (c := 1) (M := 1) rfl (by decide) x1 with ⟨t, rfl, t1, g1, g2, e3⟩ | ⟨g, e3⟩
  · refine wp_mono (saveC_ok ob oc os (show t < 2 by omega)) (fun r hr => wp_mono (saveM_ok (by omega) om.1 om.2.2.1 (show t < 2 by omega)) (fun q hq => ?_))
    obtain ⟨k1, L, V, k2, k3⟩ := hq
    refine ⟨hr.1.trans k1.symm, b, hb, z, usv v t, usb sb t b, c, n, ⟨ob, oc, oh, hr.2, op⟩, ?_⟩
    rw [k2]
    exact ⟨om.1, om.2.1, k3, om.2.2.2⟩
  · unfold f_X7_save
    rw [q_slot g]
    refine wp_some ?_
    unfold f_X8_save
    refine wp_bindE e3 ?_
    rw [if_pos n00]
    exact wp_some ⟨rfl, h0⟩
theorem R_restore {N : Nat} (hN : 2000 < N) {ct : CV} {hi : HV} {sl : SV} {pd : PV} {mo : MV} (h : RR ct hi sl pd mo) (x1 : Int32) : wp (f_X7_restore N ct hi sl x1) (fun r => wp (f_X8_restore N mo x1) (fun q => r.1 = q.1 ∧ RR r.2.1 r.2.2 sl pd q.2)) := by
  have h0 := h
  obtain ⟨b, hb, z, v, sb, c, n, ⟨ob, oc, oh, os, op⟩, om⟩ := h
  rcases wi_0c (N := N) (c := 1) (M := 1) rfl (by decide) x1 with ⟨t, rfl, t1, g1, g2, e3⟩ | ⟨g, e3⟩
  · have t2 : t < 2 := by omega
    cases hv : v t with
    | true =>
      refine wp_mono (restoreC_ok ob oc oh os t2 hv) (fun r hr => wp_mono (restoreM_ok (by omega) om.1 om.2.1 om.2.2.1 t2 hv) (fun q hq => ?_))
      obtain ⟨k1, S, H, R, k2, k3, k4⟩ := hq
      refine ⟨hr.1.trans k1.symm, sb t, psH hb z b, psZ z, v, sb, c, n, ⟨((os t t2).2 hv).1, hr.2.1, hr.2.2, os, op⟩, ?_⟩
      rw [k2] at k3 ⊢
      exact ⟨k3, k4, om.2.2.1, om.2.2.2⟩
    | false =>
      rw [restoreC_no os t2 hv, restoreM_no om.2.2.1 t2 hv]
      exact wp_some (wp_some ⟨rfl, h0⟩)
  · unfold f_X7_restore
    rw [q_slot g]
    refine wp_some ?_
    unfold f_X8_restore
    refine wp_bindE e3 ?_
    rw [if_pos n00]
    exact wp_some ⟨rfl, h0⟩
