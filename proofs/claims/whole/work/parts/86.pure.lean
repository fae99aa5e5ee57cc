/-! answers: count -/
theorem R_count {N : Nat} (hN : 2000 < N) {ct : CV} {hi : HV} {sl : SV} {pd : PV} {mo : MV} (h : RR ct hi sl pd mo) (lt : LV) (bc : BV) (x1 : Int32) : wp (f_X7_count N ct hi pd lt bc x1) (fun r => wp (f_X8_count N mo x1) (fun q => r.1 = q.1 ∧ RR ct hi sl pd q.2)) := by
  obtain ⟨b, hb, z, v, sb, c, n, ⟨ob, oc, oh, os, op⟩, om⟩ := h
  have h16 := ob.1
  have h8 := ob.2.1
  have same : ∀ m, MS m b → core m = core mo → RR ct hi sl pd m := fun m m1 m2 => ⟨b, hb, z, v, sb, c, n, ⟨ob, oc, oh, os, op⟩, RM_core om m1 m2⟩
  have hcp := cost_pu b (b 1)
  unfold f_X7_count
  by_cases c0 : x1 = 0
  · rw [if_pos c0]
    rw [oc.1]
    refine wp_some ?_
    unfold f_X8_count
    refine count_L (mo0 := mo) (by omega) ob (fun m m1 m2 => ?_) N 0 mo (Nat.zero_le _) (by omega) om.1 rfl
    rw [if_pos c0]
    rw [q_ck0 (by decide) (by decide), show ((0 : Int32).toNatClampNeg) = 0 from rfl, m1 0 (by decide)]
    exact wp_some ⟨rfl, same m m1 m2⟩
  · skip
    by_cases c1 : x1 = 1
    · rw [if_neg c0, if_pos c1]
      rw [oc.2.1]
      refine wp_some ?_
      unfold f_X8_count
      refine count_L (mo0 := mo) (by omega) ob (fun m m1 m2 => ?_) N 0 mo (Nat.zero_le _) (by omega) om.1 rfl
      rw [if_neg c0, if_pos c1]
      rw [q_ck1 (by decide) (by decide), show ((1 : Int32).toNatClampNeg) = 1 from rfl, m1 1 (by decide)]
      exact wp_some ⟨rfl, same m m1 m2⟩
    · skip
      by_cases c2 : x1 = 2
      · rw [if_neg c0, if_neg c1, if_pos c2]
        refine wp_bind (wp_mono (costOfAll_ok (by omega) ob oc lt bc) (fun r hr => ?_))
        rw [hr, hcp]
        refine wp_some ?_
        unfold f_X8_count
        refine count_L (mo0 := mo) (by omega) ob (fun m m1 m2 => ?_) N 0 mo (Nat.zero_le _) (by omega) om.1 rfl
        rw [if_neg c0, if_neg c1, if_pos c2]
        rw [nI_add]
        exact wp_some ⟨rfl, same m m1 m2⟩
      · skip
        by_cases c3 : x1 = 3
        · rw [if_neg c0, if_neg c1, if_neg c2, if_pos c3]
          refine wp_bind (wp_mono (lettersOfAll_ok (by omega) ob oc) (fun r hr => ?_))
          rw [hr]
          refine wp_some ?_
          unfold f_X8_count
          refine count_L (mo0 := mo) (by omega) ob (fun m m1 m2 => ?_) N 0 mo (Nat.zero_le _) (by omega) om.1 rfl
          rw [if_neg c0, if_neg c1, if_neg c2, if_pos c3]
          exact wp_some ⟨rfl, same m m1 m2⟩
        · skip
          by_cases c4 : x1 = 4
          · rw [if_neg c0, if_neg c1, if_neg c2, if_neg c3, if_pos c4]
            refine wp_bind (wp_mono (partsOfAll_ok (by omega) ob oc lt bc) (fun r hr => ?_))
            rw [hr]
            refine wp_some ?_
            unfold f_X8_count
            refine count_L (mo0 := mo) (by omega) ob (fun m m1 m2 => ?_) N 0 mo (Nat.zero_le _) (by omega) om.1 rfl
            rw [if_neg c0, if_neg c1, if_neg c2, if_neg c3, if_pos c4]
            exact wp_some ⟨rfl, same m m1 m2⟩
          · skip
            by_cases c5 : x1 = 5
            · rw [if_neg c0, if_neg c1, if_neg c2, if_neg c3, if_neg c4, if_pos c5]
              refine wp_bind (wp_mono (costOfAll_ok (by omega) ob oc lt bc) (fun r hr => ?_))
              refine wp_bind (wp_mono (partsOfAll_ok (by omega) ob oc r.2.1 r.2.2) (fun r2 hr2 => ?_))
              rw [hr, hr2, hcp, pk_sub (Nat.le_add_right _ _), Nat.add_sub_cancel_left]
              refine wp_some ?_
              unfold f_X8_count
              refine count_L (mo0 := mo) (by omega) ob (fun m m1 m2 => ?_) N 0 mo (Nat.zero_le _) (by omega) om.1 rfl
              rw [if_neg c0, if_neg c1, if_neg c2, if_neg c3, if_neg c4, if_pos c5]
              exact wp_some ⟨rfl, same m m1 m2⟩
            · skip
              by_cases c6 : x1 = 6
              · rw [if_neg c0, if_neg c1, if_neg c2, if_neg c3, if_neg c4, if_neg c5, if_pos c6]
                rw [op.2.1]
                refine wp_some ?_
                unfold f_X8_count
                refine count_L (mo0 := mo) (by omega) ob (fun m m1 m2 => ?_) N 0 mo (Nat.zero_le _) (by omega) om.1 rfl
                rw [if_neg c0, if_neg c1, if_neg c2, if_neg c3, if_neg c4, if_neg c5, if_pos c6]
                exact wp_some ⟨(RM_core om m1 m2).2.2.2.2.1.symm, same m m1 m2⟩
              · skip
                by_cases c7 : x1 = 7
                · rw [if_neg c0, if_neg c1, if_neg c2, if_neg c3, if_neg c4, if_neg c5, if_neg c6, if_pos c7]
                  rw [oh.2.1]
                  refine wp_some ?_
                  unfold f_X8_count
                  refine count_L (mo0 := mo) (by omega) ob (fun m m1 m2 => ?_) N 0 mo (Nat.zero_le _) (by omega) om.1 rfl
                  rw [if_neg c0, if_neg c1, if_neg c2, if_neg c3, if_neg c4, if_neg c5, if_neg c6, if_pos c7]
                  exact wp_some ⟨(RM_core om m1 m2).2.1.2.1.symm, same m m1 m2⟩
                · skip
                  rw [if_neg c0, if_neg c1, if_neg c2, if_neg c3, if_neg c4, if_neg c5, if_neg c6, if_neg c7]
                  refine wp_some ?_
                  unfold f_X8_count
                  refine count_L (mo0 := mo) (by omega) ob (fun m m1 m2 => ?_) N 0 mo (Nat.zero_le _) (by omega) om.1 rfl
                  rw [if_neg c0, if_neg c1, if_neg c2, if_neg c3, if_neg c4, if_neg c5, if_neg c6, if_neg c7]
                  exact wp_some ⟨rfl, same m m1 m2⟩
