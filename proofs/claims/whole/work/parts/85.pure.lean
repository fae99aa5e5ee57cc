/-! answers: letter, product, part, share, count, least -/
theorem R_letter {N : Nat} (hN : 2000 < N) {ct : CV} {hi : HV} {sl : SV} {pd : PV} {mo : MV} (h : RR ct hi sl pd mo) (x1 x2 : Int32) : wp (f_X7_letter N ct x1 x2) (fun r => wp (f_X8_letter N mo x1 x2) (fun q => r = q)) := by
  obtain ⟨b, hb, z, v, sb, c, n, ⟨ob, oc, oh, os, op⟩, om⟩ := h
  have h8 := ob.2.1
  unfold f_X7_letter
  rcases isW (N := N) ob oc om.1 x1 with ⟨w, rfl, hw, e1, e2⟩ | ⟨e1, e2⟩
  · have g3 := oc.2.2.2 w hw
    have hv := ob.2.2.2.1 w hw
    refine wp_bindE e1 ?_
    rw [if_neg n10, q_ck (show w < 8 by omega) (by decide), nI_clamp (show w < 2 ^ 31 by omega), g3.1]
    rcases wi_ix (N := N) (n := wL b w) (by omega) x2 with ⟨k, hk, rfl, e3⟩ | ⟨g, e3⟩
    · have hT := hv.2.2.2.2 k hk
      rw [if_neg (nI_pos (by omega)), if_pos (nI_lt hk (by omega))]
      refine wp_bindE (letterAt_ok ob oc hw hk) ?_
      refine wp_some ?_
      unfold f_X8_letter
      refine wp_bindE e2 ?_
      rw [if_neg n10]
      refine wp_bindE (wLen_ok om.1 (by omega)) ?_
      refine wp_bindE e3 ?_
      rw [if_neg n10, show (2 : Int32) = nI 2 from rfl, nI_add]
      refine wp_bindE (wordPart_ok om.1 (by omega)) ?_
      refine wp_some ?_
      rw [show 98 + 14 * w + (2 + k) = 100 + 14 * w + k by omega]
      exact (pk_sub (b := 1) hT.1).symm
    · have same : (if x2 < 0 then some (-1) else if x2 < nI (wL b w) then (f_X2_letterAt N ct (nI w) x2).bind (fun (r_33 : Int32) => some r_33) else some (-1)) = some (-1) := by
        by_cases g0 : x2 < 0
        · exact if_pos g0
        · rw [if_neg g0]
          exact if_neg (Int32.not_lt.2 (g.resolve_left g0))
      rw [same]
      refine wp_some ?_
      unfold f_X8_letter
      refine wp_bindE e2 ?_
      rw [if_neg n10]
      refine wp_bindE (wLen_ok om.1 (by omega)) ?_
      refine wp_bindE e3 ?_
      rw [if_pos n00]
      exact wp_some rfl
  · refine wp_bindE e1 ?_
    rw [if_pos n00]
    refine wp_some ?_
    unfold f_X8_letter
    refine wp_bindE e2 ?_
    rw [if_pos n00]
    exact wp_some rfl
theorem R_product {N : Nat} (hN : 2000 < N) {ct : CV} {hi : HV} {sl : SV} {pd : PV} {mo : MV} (h : RR ct hi sl pd mo) (lt : LV) (bc : BV) (ac : AV) (x1 x2 : Int32) : wp (f_X7_product N ct lt bc ac x1 x2) (fun r => wp (f_X8_product N mo x1 x2) (fun q => r.1 = q.1 ∧ RR ct hi sl pd q.2)) := by
  have h0 := h
  obtain ⟨b, hb, z, v, sb, c, n, ⟨ob, oc, oh, os, op⟩, om⟩ := h
  have same : ∀ m, MS m b → core m = core mo → RR ct hi sl pd m := fun m m1 m2 => ⟨b, hb, z, v, sb, c, n, ⟨ob, oc, oh, os, op⟩, RM_core om m1 m2⟩
  unfold f_X7_product
  rcases isW (N := N) ob oc om.1 x1 with ⟨w, rfl, hw, e1, e2⟩ | ⟨e1, e2⟩
  · refine wp_bindE e1 ?_
    rw [if_neg n10]
    rcases wi_0c (N := N) (c := 1) (M := 1) rfl (by decide) x2 with ⟨t, rfl, t1, g1, g2, e3⟩ | ⟨g, e3⟩
    · by_cases t0 : t = 0
      · subst t0
        rw [if_pos (show nI 0 = (0 : Int32) from rfl)]
        refine wp_bind (wp_mono (read_ok (by omega) ob oc hw lt) (fun r hr => ?_))
        refine wp_bind (wp_mono (all_ok (by omega) ob hw hr ac) (fun r2 hr2 => ?_))
        refine wp_bindE (total_ok hr2) ?_
        refine wp_some ?_
        unfold f_X8_product
        refine wp_bindE e2 ?_
        unfold jn
        dsimp only
        rw [if_neg n10]
        refine wp_bindE e3 ?_
        rw [if_neg n10]
        refine wp_bind (wp_mono (cut_ok (by omega) ob om.1 hw) (fun m hm => ?_))
        obtain ⟨Pr, C, F, rfl, hA⟩ := hm
        refine wp_bind (wp_mono (tot_ok (by omega) ob (setc_S mo b Pr C F om.1) hw) (fun m hm => ?_))
        obtain ⟨A, B, rfl, hAA, hB⟩ := hm
        rw [if_pos (show nI 0 = (0 : Int32) from rfl), q_ck0 (by decide) (by decide), sett_B, show ((0 : Int32).toNatClampNeg) = 0 from rfl, hB 0 (Nat.zero_le _)]
        exact wp_some ⟨rfl, same _ om.1 rfl⟩
      · have t2 : t = 1 := by omega
        subst t2
        rw [if_neg (show ¬ nI 1 = (0 : Int32) by decide), if_pos (show nI 1 = (1 : Int32) from rfl)]
        refine wp_bind (wp_mono (cutBest_ok (by omega) ob oc hw lt bc) (fun r hr => ?_))
        obtain ⟨hl, hB⟩ := hr
        unfold f_X1_greatestProduct
        rw [q_ck0 (by decide) (by decide), show ((0 : Int32).toNatClampNeg) = 0 from rfl, (hB.1 0 (Nat.le_refl _) (Nat.zero_le _)).1, Option.bind_some]
        refine wp_some ?_
        unfold f_X8_product
        refine wp_bindE e2 ?_
        unfold jn
        dsimp only
        rw [if_neg n10]
        refine wp_bindE e3 ?_
        rw [if_neg n10]
        refine wp_bind (wp_mono (cut_ok (by omega) ob om.1 hw) (fun m hm => ?_))
        obtain ⟨Pr, C, F, rfl, hA⟩ := hm
        refine wp_bind (wp_mono (tot_ok (by omega) ob (setc_S mo b Pr C F om.1) hw) (fun m hm => ?_))
        obtain ⟨A, B, rfl, hAA, hB2⟩ := hm
        rw [if_neg (show ¬ nI 1 = (0 : Int32) by decide), q_ck0 (by decide) (by decide), show ((0 : Int32).toNatClampNeg) = 0 from rfl]
        exact wp_some ⟨((hA 0 (Nat.le_refl _) (Nat.zero_le _)).1).symm, same _ om.1 rfl⟩
    · have c0 : ¬ x2 = 0 := fun q => by
        subst q
        rcases g with g | g
        · exact absurd g (by decide)
        · exact g (by decide)
      have c1 : ¬ x2 = 1 := fun q => by
        subst q
        rcases g with g | g
        · exact absurd g (by decide)
        · exact g (by decide)
      rw [if_neg c0, if_neg c1]
      refine wp_some ?_
      unfold f_X8_product
      refine wp_bindE e2 ?_
      unfold jn
      dsimp only
      rw [if_neg n10]
      refine wp_bindE e3 ?_
      rw [if_pos n00]
      refine wp_bindE e2 ?_
      rw [if_neg n10]
      exact wp_some ⟨rfl, h0⟩
  · refine wp_bindE e1 ?_
    rw [if_pos n00]
    refine wp_some ?_
    unfold f_X8_product
    refine wp_bindE e2 ?_
    unfold jn
    dsimp only
    rw [if_pos n00]
    refine wp_bindE e2 ?_
    rw [if_pos n00]
    exact wp_some ⟨rfl, h0⟩
theorem R_part {N : Nat} (hN : 2000 < N) {ct : CV} {hi : HV} {sl : SV} {pd : PV} {mo : MV} (h : RR ct hi sl pd mo) (lt : LV) (bc : BV) (x1 x2 x3 : Int32) : wp (f_X7_part N ct lt bc x1 x2 x3) (fun r => wp (f_X8_part N mo x1 x2 x3) (fun q => r.1 = q.1 ∧ RR ct hi sl pd q.2)) := by
  have h0 := h
  obtain ⟨b, hb, z, v, sb, c, n, ⟨ob, oc, oh, os, op⟩, om⟩ := h
  have h8 := ob.2.1
  have h16 := ob.1
  have same : ∀ m, MS m b → core m = core mo → RR ct hi sl pd m := fun m m1 m2 => ⟨b, hb, z, v, sb, c, n, ⟨ob, oc, oh, os, op⟩, RM_core om m1 m2⟩
  unfold f_X7_part
  rcases isW (N := N) ob oc om.1 x1 with ⟨w, rfl, hw, e1, e2⟩ | ⟨e1, e2⟩
  · have hv := ob.2.2.2.1 w hw
    have hn := nP_le ob (w := w) none
    refine wp_bindE e1 ?_
    rw [if_neg n10]
    refine wp_bind (wp_mono (cutBest_ok (by omega) ob oc hw lt bc) (fun r hr => ?_))
    obtain ⟨hl, hB⟩ := hr
    rw [hB.2.1]
    have go : ∀ (ans : Int32), (∀ Pr C F, FA (W0 b w) (wL b w) Pr C F 0 → wp ((f_X8_within N x2 0 (nI (nP b w none) - 1)).bind (fun (r_25 : Int32) => if r_25 = 0 then some ((-1), setc mo Pr C F) else f_X8_part_L39 N (nI w) x2 x3 (setc mo Pr C F) (fun (x4_39 : Int32) => if x3 = 0 then ck x4_39 13 ((f_X8_textIn N (setc mo Pr C F) (nI w) x4_39 ((setc mo Pr C F).2.2.2.2.2.2.2.2.2.2.1 (x4_39.toNatClampNeg))).bind (fun (r_79 : Int32) => (f_X8_pieceOf N (setc mo Pr C F) r_79).bind (fun (r_82 : Int32) => some (r_82, setc mo Pr C F)))) else if x3 = 1 then some (x4_39, setc mo Pr C F) else if x3 = 2 then ck x4_39 13 (some ((setc mo Pr C F).2.2.2.2.2.2.2.2.2.2.1 (x4_39.toNatClampNeg), setc mo Pr C F)) else some ((-2), setc mo Pr C F)) N 0 0)) (fun q => ans = q.1 ∧ RR ct hi sl pd q.2)) → wp (f_X8_part N mo (nI w) x2 x3) (fun q => ans = q.1 ∧ RR ct hi sl pd q.2) := fun ans hk => by
      unfold f_X8_part
      refine wp_bindE e2 ?_
      rw [if_neg n10]
      refine wp_bind (wp_mono (cut_ok (by omega) ob om.1 hw) (fun m hm => ?_))
      obtain ⟨Pr, C, F, rfl, hA⟩ := hm
      have eC : C 0 = nI (nP b w none) := (hA 0 (Nat.le_refl _) (Nat.zero_le _)).2.1
      rw [q_ck0 (by decide) (by decide), setc_C, show ((0 : Int32).toNatClampNeg) = 0 from rfl, eC]
      exact hk Pr C F hA
    rcases wi_ix (N := N) (n := nP b w none) (by omega) x2 with ⟨t, ht, rfl, e3⟩ | ⟨g, e3⟩
    · have r1 := hB.2.2.2 t ht
      obtain ⟨a1, a2, a3, a4, a5, a6⟩ := pr_ok ob hw ht
      have ho : ∀ p, pc b w (pl b w t) (lk b w t) = some p → p < 16 := fun p hp => by have := (pc_lt hp).1; omega
      rw [if_neg (nI_pos (by omega)), if_pos (nI_lt ht (by omega)), nI_clamp (show t < 2 ^ 31 by omega), q_ck (show t < 12 by omega) (by decide)]
      have fin : ∀ (ans : Int32), (∀ m, MS m b → core m = core mo → (∀ j, j < wL b w → m.2.2.2.2.2.2.2.2.2.2.1 j = nI (bs (W0 b w) (wL b w) j).2.2) → wp (if x3 = 0 then ck (nI (pl b w t)) 13 ((f_X8_textIn N m (nI w) (nI (pl b w t)) (m.2.2.2.2.2.2.2.2.2.2.1 ((nI (pl b w t)).toNatClampNeg))).bind (fun (r_79 : Int32) => (f_X8_pieceOf N m r_79).bind (fun (r_82 : Int32) => some (r_82, m)))) else if x3 = 1 then some (nI (pl b w t), m) else if x3 = 2 then ck (nI (pl b w t)) 13 (some (m.2.2.2.2.2.2.2.2.2.2.1 ((nI (pl b w t)).toNatClampNeg), m)) else some ((-2), m)) (fun q => ans = q.1 ∧ RR ct hi sl pd q.2)) → wp (f_X8_part N mo (nI w) (nI t) x3) (fun q => ans = q.1 ∧ RR ct hi sl pd q.2) := fun ans hk => go ans (fun Pr C F hA => by
        have hF : ∀ j, j < wL b w → (setc mo Pr C F).2.2.2.2.2.2.2.2.2.2.1 j = nI (bs (W0 b w) (wL b w) j).2.2 := fun j hj => (hA j (Nat.zero_le _) (by omega)).2.2 hj
        refine wp_bindE e3 ?_
        rw [if_neg n10]
        exact part_L39 ob hw hF ht (hk (setc mo Pr C F) om.1 rfl hF) N 0 (Nat.zero_le _) (by omega))
      by_cases c0 : x3 = 0
      · rw [if_pos c0, r1.1]
        have key : ∀ a, (a = oI (-6) (pc b w (pl b w t) (lk b w t))) → wp (f_X8_part N mo (nI w) (nI t) x3) (fun q => a = q.1 ∧ RR ct hi sl pd q.2) := fun a ha => fin a (fun m m1 m2 hF => by
          have eF : m.2.2.2.2.2.2.2.2.2.2.1 (pl b w t) = nI (lk b w t) := hF _ a1
          rw [if_pos c0, q_ck (show pl b w t < 13 by omega) (by decide), nI_clamp (show pl b w t < 2 ^ 31 by omega), eF]
          refine wp_bindE (textIn_ok (by omega) m1 (by omega) (by omega)) ?_
          refine wp_bindE (pieceIn_ok (by omega) ob m1 hw a3 a4) ?_
          exact wp_some ⟨ha, same m m1 m2⟩)
        rw [pp0]
        cases e : pc b w (pl b w t) (lk b w t) with
        | none =>
          rw [if_pos (show oI (-1) none = -1 from rfl)]
          refine wp_some ?_
          exact key _ (by rw [e]; rfl)
        | some p =>
          have hp := ho p e
          rw [if_neg (show ¬ oI (-1) (some p) = -1 from fun q => by
            have g := q_nem1 (n := p) (by omega)
            rw [← g]
            exact q), q_ck (show t < 12 by omega) (by decide)]
          refine wp_some ?_
          exact key _ (by rw [e]; rfl)
      · by_cases c1 : x3 = 1
        · rw [if_neg c0, if_pos c1, q_ck (show t < 12 by omega) (by decide), r1.2.1]
          refine wp_some ?_
          refine fin _ (fun m m1 m2 hF => ?_)
          rw [if_neg c0, if_pos c1]
          exact wp_some ⟨rfl, same m m1 m2⟩
        · by_cases c2 : x3 = 2
          · rw [if_neg c0, if_neg c1, if_pos c2, q_ck (show t < 12 by omega) (by decide), r1.2.2]
            refine wp_some ?_
            refine fin _ (fun m m1 m2 hF => ?_)
            have eF : m.2.2.2.2.2.2.2.2.2.2.1 (pl b w t) = nI (lk b w t) := hF _ a1
            rw [if_neg c0, if_neg c1, if_pos c2, q_ck (show pl b w t < 13 by omega) (by decide), nI_clamp (show pl b w t < 2 ^ 31 by omega), eF]
            exact wp_some ⟨rfl, same m m1 m2⟩
          · rw [if_neg c0, if_neg c1, if_neg c2]
            refine wp_some ?_
            refine fin _ (fun m m1 m2 hF => ?_)
            rw [if_neg c0, if_neg c1, if_neg c2]
            exact wp_some ⟨rfl, same m m1 m2⟩
    · have nolt : x2 < 0 ∨ ¬ x2 < nI (nP b w none) := by
        rcases g with g | g
        · exact Or.inl g
        · exact Or.inr (Int32.not_lt.2 g)
      have bad : ∀ (A B : Option (Int32 × LV × BV)), (if x2 < 0 then A else if x2 < nI (nP b w none) then B else A) = A := fun A B => by
        by_cases q : x2 < 0
        · exact if_pos q
        · rw [if_neg q]
          exact if_neg (nolt.resolve_left q)
      rw [bad]
      refine wp_some ?_
      refine go _ (fun Pr C F hA => ?_)
      refine wp_bindE e3 ?_
      rw [if_pos n00]
      exact wp_some ⟨rfl, same _ om.1 rfl⟩
  · refine wp_bindE e1 ?_
    rw [if_pos n00]
    refine wp_some ?_
    unfold f_X8_part
    refine wp_bindE e2 ?_
    rw [if_pos n00]
    exact wp_some ⟨rfl, h0⟩
theorem R_share {N : Nat} (hN : 2000 < N) {ct : CV} {hi : HV} {sl : SV} {pd : PV} {mo : MV} (h : RR ct hi sl pd mo) (lt : LV) (ac : AV) (x1 x2 : Int32) : wp (f_X7_share N ct lt ac x1 x2) (fun r => wp (f_X8_share N mo x1 x2) (fun q => r.1 = q.1 ∧ RR ct hi sl pd q.2)) := by
  have h0 := h
  obtain ⟨b, hb, z, v, sb, c, n, ⟨ob, oc, oh, os, op⟩, om⟩ := h
  have same : ∀ m, MS m b → core m = core mo → RR ct hi sl pd m := fun m m1 m2 => ⟨b, hb, z, v, sb, c, n, ⟨ob, oc, oh, os, op⟩, RM_core om m1 m2⟩
  unfold f_X7_share
  rcases isW (N := N) ob oc om.1 x1 with ⟨w, rfl, hw, e1, e2⟩ | ⟨e1, e2⟩
  · refine wp_bindE e1 ?_
    rw [if_neg n10]
    rcases isP (N := N) ob oc om.1 x2 with ⟨p, rfl, hp, e3, e4⟩ | ⟨e3, e4⟩
    · refine wp_bindE e3 ?_
      rw [if_neg n10]
      refine wp_bind (wp_mono (read_ok (by omega) ob oc hw lt) (fun r hr => ?_))
      refine wp_bind (wp_mono (all_ok (by omega) ob hw hr ac) (fun r2 hr2 => ?_))
      refine wp_bindE (shareOf_ok (by omega) ob hw hr hr2 hp) ?_
      refine wp_some ?_
      unfold f_X8_share
      refine wp_bindE e2 ?_
      rw [if_neg n10]
      refine wp_bindE e4 ?_
      rw [if_neg n10]
      refine wp_bind (wp_mono (tot_ok (by omega) ob om.1 hw) (fun m hm => ?_))
      obtain ⟨A, B, rfl, hA, hB⟩ := hm
      refine wp_bindE (shareIn_ok (mo := sett mo A B) (by omega) ob (sett_S mo b A B om.1) hw hp hA hB) ?_
      exact wp_some ⟨rfl, same _ om.1 rfl⟩
    · refine wp_bindE e3 ?_
      rw [if_pos n00]
      refine wp_some ?_
      unfold f_X8_share
      refine wp_bindE e2 ?_
      rw [if_neg n10]
      refine wp_bindE e4 ?_
      rw [if_pos n00]
      exact wp_some ⟨rfl, h0⟩
  · refine wp_bindE e1 ?_
    rw [if_pos n00]
    refine wp_some ?_
    unfold f_X8_share
    refine wp_bindE e2 ?_
    rw [if_pos n00]
    exact wp_some ⟨rfl, h0⟩
theorem R_least {N : Nat} (hN : 2000 < N) {ct : CV} {hi : HV} {sl : SV} {pd : PV} {mo : MV} (h : RR ct hi sl pd mo) (lt : LV) (bc : BV) (cw : Nat → Int32) : wp (f_X7_least N ct lt bc cw) (fun r => wp (f_X8_least N mo) (fun q => r.1 = q.1 ∧ RR ct hi sl pd q.2)) := by
  obtain ⟨b, hb, z, v, sb, c, n, ⟨ob, oc, oh, os, op⟩, om⟩ := h
  have h16 := ob.1
  have ho : ∀ p, lst b (b 0) = some p → p < 16 := fun p hp => by have := lst_lt hp; omega
  have go : ∀ a, a = oI (-6) (lst b (b 0)) → wp (f_X8_least N mo) (fun q => a = q.1 ∧ RR ct hi sl pd q.2) := fun a ha => by
    unfold f_X8_least
    refine wp_bind (wp_mono (leastOf_ok (by omega) ob om.1) (fun m hm => ?_))
    exact wp_some ⟨ha.trans hm.1.symm, b, hb, z, v, sb, c, n, ⟨ob, oc, oh, os, op⟩, RM_core om hm.2.1 hm.2.2⟩
  unfold f_X7_least
  refine wp_bind (wp_mono (findLeast_ok (by omega) ob oc lt bc cw) (fun r hr => ?_))
  rw [hr]
  by_cases e : lst b (b 0) = none
  · rw [if_pos ((oI_m1 ho).mpr e)]
    refine wp_some ?_
    exact go _ (by rw [e]; rfl)
  · rw [if_neg (fun q => e ((oI_m1 ho).mp q))]
    refine wp_some ?_
    obtain ⟨p, hp⟩ := Option.ne_none_iff_exists'.mp e
    exact go _ (by rw [hp]; rfl)
