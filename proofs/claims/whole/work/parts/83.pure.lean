/-! tune, shrink, grow -/
theorem R_tune {N : Nat} (hN : 2000 < N) {ct : CV} {hi : HV} {sl : SV} {pd : PV} {mo : MV} (h : RR ct hi sl pd mo) (lt : LV) (ac : AV) (bn : Nat → Int32) : wp (f_X7_tune N ct hi lt ac bn) (fun r => wp (f_X8_tune N mo) (fun q => r.1 = q.1 ∧ RR r.2.1 r.2.2.1 sl pd q.2)) := by
  obtain ⟨b, hb, z, v, sb, c, n, ⟨ob, oc, oh, os, op⟩, om⟩ := h
  have h16 := ob.1
  unfold f_X7_tune
  refine wp_bind (wp_mono (recordC_ok ob oc oh) (fun r hr => ?_))
  refine wp_bind (wp_mono (bear_ok (by omega) ob oc lt ac bn) (fun r2 hr2 => ?_))
  refine tune_L19 ob oc hr2 ?_ N 0 (Nat.zero_le _) (by omega)
  refine tune_L51 ob oc hr2 (fun w hw => ?_) N 0 ct.2.2.2.1 (Nat.zero_le _) (by omega) ⟨fun q hq => absurd hq (by omega), fun q _ hq => (oc.2.2.1 q hq).2.2⟩
  refine wp_some ?_
  unfold f_X8_tune
  refine wp_bind (wp_mono (RM_rec hN om) (fun m hm => ?_))
  refine wp_bind (wp_mono (bears_ok (by omega) ob hm.1) (fun m2 hm2 => ?_))
  obtain ⟨A, B, Z, rfl, hZ⟩ := hm2
  refine tune2_L12 (mo := setz m A B Z) ob (setz_S m b A B Z hm.1) hZ ?_ N 0 (Nat.zero_le _) (by omega)
  refine tune2_L53 (mo := setz m A B Z) ob hZ (fun S hS => ?_) N 0 m.1 (Nat.zero_le _) (by omega) (fun k hk => ?_)
  · exact wp_some ⟨rfl, tnB b, psH hb z b, psZ z, v, sb, c, n, ⟨tnB_ok ob, tune_CR ob oc hw, hr, os, op⟩, hS, hm.2.1, hm.2.2.1, hm.2.2.2⟩
  · refine (hm.1 k hk).trans (congrArg nI ?_)
    unfold tnP
    rw [if_neg (by omega)]
theorem R_shrink {N : Nat} (hN : 2000 < N) {ct : CV} {hi : HV} {sl : SV} {pd : PV} {mo : MV} (h : RR ct hi sl pd mo) (lt : LV) (bc : BV) (cw : Nat → Int32) (x1 : Int32) : wp (f_X7_shrink N ct hi lt bc cw x1) (fun r => wp (f_X8_shrink N mo x1) (fun q => r.1 = q.1 ∧ RR r.2.1 r.2.2.1 sl pd q.2)) := by
  have h0 := h
  obtain ⟨b, hb, z, v, sb, c, n, ⟨ob, oc, oh, os, op⟩, om⟩ := h
  have h16 := ob.1
  unfold f_X7_shrink
  rcases wi_0c (N := N) (c := 16) (M := 16) rfl (by decide) x1 with ⟨t, rfl, t16, g1, g2, e3⟩ | ⟨g, e3⟩
  · rw [if_neg g1, if_pos g2]
    refine wp_bind (wp_mono (recordC_ok ob oc oh) (fun r hr => ?_))
    obtain ⟨s1, s2⟩ := shrB_0 (z := t) (b 0 - t) b ob rfl
    rw [oc.1]
    refine shrink_L34 (by omega) t16 (b 0 - t) N b ct lt bc cw ob oc rfl (by omega) (fun c' lt bc cw hc' => ?_)
    refine wp_some ?_
    unfold f_X8_shrink
    refine wp_bindE e3 ?_
    rw [if_neg n10]
    refine wp_bind (wp_mono (RM_rec hN om) (fun m hm => ?_))
    refine shrink2_L (by omega) t16 (mo0 := m) (b 0 - t) N b 0 m ob hm.1 rfl rfl (by omega) (fun m2 q1 q2 => ?_)
    refine wp_some ⟨?_, shrB b t (b 0 - t), psH hb z b, psZ z, v, sb, c, n, ⟨s2, hc', hr, os, op⟩, RM_core hm q1 q2⟩
    show nI (b 0) - c'.1 = nI (0 + (b 0 - t))
    rw [hc'.1, s1, pk_sub (by omega)]
    exact congrArg nI (by omega)
  · rw [ite_bad g]
    refine wp_some ?_
    unfold f_X8_shrink
    refine wp_bindE e3 ?_
    rw [if_pos n00]
    exact wp_some ⟨rfl, h0⟩
theorem q_ge0 {n : Nat} (h : n < 2 ^ 31) : (0 : Int32) ≤ nI n := nI_pos' h
theorem VE_T {b : bk} (hb : OKb b) {e : EN} (h : VE b e) : okT (sgE b e) e.2.2.1 e.2.2.2 := ⟨h.2.1, h.2.2.1, h.2.2.2.2.1, h.2.2.2.2.2.1, VE_seg hb h⟩
theorem VE_no {b : bk} {e : EN} (h : VE b e) : ∀ p, p < b 0 → ¬ (pL b p = e.2.2.1 ∧ ∀ k, k < e.2.2.1 → pT b p k = sgE b e k) := fun p hp => ff_none h.2.2.2.2.2.2 p (Nat.zero_le _) (by omega)
theorem R_grow {N : Nat} (hN : 2000 < N) {ct : CV} {hi : HV} {sl : SV} {pd : PV} {mo : MV} (h : RR ct hi sl pd mo) (lt : LV) (bc : BV) (nb : NV) : wp (f_X7_grow N ct hi lt bc nb) (fun r => wp (f_X8_grow N mo) (fun q => r.1 = q.1 ∧ RR r.2.1 r.2.2.1 sl pd q.2)) := by
  have h0 := h
  obtain ⟨b, hb, z, v, sb, c, n, ⟨ob, oc, oh, os, op⟩, om⟩ := h
  have h16 := ob.1
  have h8 := ob.2.1
  have e0 : mo.1 ((0 : Int32).toNatClampNeg) = nI (b 0) := om.1 0 (by decide)
  obtain ⟨a1, a2⟩ := nA_ok ob (b 1) (Nat.le_refl _)
  unfold f_X7_grow
  rw [oc.1]
  by_cases g : b 0 < 16
  · have n16 : ¬ nI (b 0) = (16 : Int32) := fun q => absurd ((nI_eq (b := 16) (by omega) (by decide)).1 q) (by omega)
    rw [if_pos (show nI (b 0) < (16 : Int32) from nI_lt (b := 16) g (by decide))]
    refine wp_bind (wp_mono (fG_ok (by omega) ob oc lt bc nb) (fun r hr => ?_))
    obtain ⟨y, fi, hnc, hr1⟩ := hr
    have hsame := same_gr ob hnc
    have hy := hnc.1
    cases e : mf (fun i => tO b (fi i)) (fun i => x8 b (fi i)) y with
    | none =>
      rw [e] at hr1 hsame
      rw [if_neg (show ¬ 0 ≤ r.1 by rw [hr1]; decide)]
      refine wp_some ?_
      unfold f_X8_grow
      rw [q_ck0 (by decide) (by decide), e0, if_neg n16]
      refine wp_bind (wp_mono (gA_ok (by omega) ob om.1) (fun m hm => ?_))
      obtain ⟨m1, m2, m3, -⟩ := hm
      rw [hsame] at m1
      rw [if_pos (show m.1 = (-6 : Int32) from m1)]
      exact wp_some ⟨rfl, b, hb, z, v, sb, c, n, ⟨ob, oc, oh, os, op⟩, RM_core om m2 m3⟩
    | some i =>
      rw [e] at hr1 hsame
      have hi := (mf_best y i e).1
      obtain ⟨f1, f2, f3, f4, f5⟩ := hnc.2.2.1 i hi
      have hv := a1 (fi i) f1
      have hr2 : r.1 = nI i := hr1
      rw [hr2, if_pos (q_ge0 (by omega))]
      refine wp_bind (wp_mono (recordC_ok ob oc oh) (fun r2 hr3 => ?_))
      rw [q_ck (show i < 88 by omega) (by decide), q_ck (show i < 88 by omega) (by decide), q_ck (show i < 88 by omega) (by decide), nI_clamp (show i < 2 ^ 31 by omega), f2, f3, f4]
      refine wp_bind (wp_mono (addPieceC_ok (a := sgE b ((nA b (b 1)).2 (fi i))) ob oc g hv.2.2.1) (fun r3 hr4 => ?_))
      refine wp_some ?_
      unfold f_X8_grow
      rw [q_ck0 (by decide) (by decide), e0, if_neg n16]
      refine wp_bind (wp_mono (gA_ok (by omega) ob om.1) (fun m hm => ?_))
      obtain ⟨m1, m2, m3, m4, m5⟩ := hm
      rw [hsame] at m1
      have m1b : m.1 = nI (fi i) := m1
      obtain ⟨t1, -, t3⟩ := m5 (fi i) f1
      rw [m1b, if_neg (show ¬ nI (fi i) = (-6 : Int32) by rw [q_nem6 (by omega)]; exact id)]
      refine wp_bind (wp_mono (recordM_ok (N := N) (by omega) m2 (RM_core om m2 m3).2.1) (fun mr hmr => ?_))
      obtain ⟨H, R, rfl, hH⟩ := hmr
      have hRM := RM_core om m2 m3
      have hm' : RM (seth m.2 H R) b (psH hb z b) (psZ z) v sb c n := ⟨m2, hH, hRM.2.2.1, hRM.2.2.2⟩
      have t1' : (seth m.2 H R).2.2.2.2.2.2.2.2.2.2.2.2.2.1 (fi i) = nI (c7 b ((nA b (b 1)).2 (fi i))) := t1
      have t3' : (seth m.2 H R).2.2.2.2.2.2.2.2.2.2.2.2.2.2.2.1 (fi i) = nI ((nA b (b 1)).2 (fi i)).2.2.2 := t3
      rw [q_ck (show fi i < 88 by omega) (by decide), q_ck (show fi i < 88 by omega) (by decide), nI_clamp (show fi i < 2 ^ 31 by omega), t1', t3']
      refine wp_bind (wp_mono (addPieceM_ok (a := sgE b ((nA b (b 1)).2 (fi i))) (by omega) hm'.1 g (VE_T ob hv)) (fun mf hmf => ?_))
      obtain ⟨k1, S, k2, hS⟩ := hmf
      rw [k2]
      refine wp_some ⟨?_, addB b (sgE b ((nA b (b 1)).2 (fi i))) ((nA b (b 1)).2 (fi i)).2.2.1 ((nA b (b 1)).2 (fi i)).2.2.2, psH hb z b, psZ z, v, sb, c, n, ⟨addB_ok ob g (VE_T ob hv) (VE_no hv), hr4.1, hr3, os, op⟩, RM_sets hm' hS⟩
      show r3.1 - 1 = mf.1
      rw [hr4.2, k1]
      exact nI_pred _
  · rw [if_neg (show ¬ nI (b 0) < (16 : Int32) from nI_nlt (b := 16) (by omega) (by omega))]
    refine wp_some ?_
    unfold f_X8_grow
    rw [q_ck0 (by decide) (by decide), e0, if_pos (show nI (b 0) = (16 : Int32) from congrArg nI (show b 0 = 16 by omega))]
    exact wp_some ⟨rfl, h0⟩
