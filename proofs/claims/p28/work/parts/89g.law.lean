/-! WHAT THE CLASS ANSWERS, call by call (b: the book; the law's arguments are always good) -/
theorem isW_ok {N : Nat} {ct : CV} {b : bk} (hb : OKb b) (hc : CR ct b) {w : Nat} (hw : w < b 1) : f_X7_isWord N ct (nI w) = some 1 := by
  have h8 := hb.2.1
  unfold f_X7_isWord
  rw [hc.2.1, if_neg (nI_pos (by omega)), if_neg (nI_ge hw (by omega))]
theorem isP_ok {N : Nat} {ct : CV} {b : bk} (hb : OKb b) (hc : CR ct b) {p : Nat} (hp : p < b 0) : f_X7_isPiece N ct (nI p) = some 1 := by
  have h16 := hb.1
  unfold f_X7_isPiece
  rw [hc.1, if_neg (nI_pos (by omega)), if_neg (nI_ge hp (by omega))]
theorem oc_w {ct : CV} {b : bk} (hc : CR ct b) {w : Nat} (hw : w < b 1) : ct.2.2.2.2.2.1 w = nI (wL b w) ∧ ct.2.2.2.2.2.2.1 w = nI (wC b w) := ⟨(hc.2.2.2 w hw).1, (hc.2.2.2 w hw).2.1⟩
section parts_
variable {N : Nat} {ct : CV} {b : bk} {w : Nat}
theorem part_0 (hN : 200 < N) (hb : OKb b) (hc : CR ct b) (hw : w < b 1) {k : Nat} (hk : k < nP b w none) (lt : LV) (bc : BV) : wp (f_X7_part N ct lt bc (nI w) (nI k) 0) (fun r => r.1 = oI (-6) (pp b w none k)) := by
  have hv := hb.2.2.2.1 w hw
  have h16 := hb.1
  have hn := nP_le hb (w := w) none
  unfold f_X7_part
  rw [isW_ok hb hc hw, Option.bind_some, if_neg n10]
  refine wp_bind (wp_mono (cutBest_ok (by omega) hb hc hw lt bc) (fun r hr => ?_))
  obtain ⟨hl, hB⟩ := hr
  have r1 := hB.2.2.2 k hk
  rw [hB.2.1, if_neg (nI_pos (by omega)), if_pos (nI_lt hk (by omega)), if_pos n00, nI_clamp (show k < 2 ^ 31 by omega), q_ck (show k < 12 by omega) (by decide), r1.1]
  cases e : pp b w none k with
  | none =>
    rw [if_pos (show oI (-1) none = -1 from rfl)]
    exact wp_some rfl
  | some p =>
    have hp := pp_lt e
    rw [if_neg (show ¬ oI (-1) (some p) = -1 from fun q => by
      have g := q_nem1 (n := p) (by omega)
      rw [← g]
      exact q), q_ck (show k < 12 by omega) (by decide)]
    exact wp_some rfl
theorem part_1 (hN : 200 < N) (hb : OKb b) (hc : CR ct b) (hw : w < b 1) {k : Nat} (hk : k < nP b w none) (lt : LV) (bc : BV) : wp (f_X7_part N ct lt bc (nI w) (nI k) 1) (fun r => r.1 = nI (ps (W0 b w) (wL b w) k)) := by
  have hv := hb.2.2.2.1 w hw
  have hn := nP_le hb (w := w) none
  unfold f_X7_part
  rw [isW_ok hb hc hw, Option.bind_some, if_neg n10]
  refine wp_bind (wp_mono (cutBest_ok (by omega) hb hc hw lt bc) (fun r hr => ?_))
  obtain ⟨hl, hB⟩ := hr
  have r1 := hB.2.2.2 k hk
  rw [hB.2.1, if_neg (nI_pos (by omega)), if_pos (nI_lt hk (by omega)), if_neg n10, if_pos (show (1 : Int32) = 1 from rfl), nI_clamp (show k < 2 ^ 31 by omega), q_ck (show k < 12 by omega) (by decide)]
  exact wp_some r1.2.1
theorem part_2 (hN : 200 < N) (hb : OKb b) (hc : CR ct b) (hw : w < b 1) {k : Nat} (hk : k < nP b w none) (lt : LV) (bc : BV) : wp (f_X7_part N ct lt bc (nI w) (nI k) 2) (fun r => r.1 = nI (bs (W0 b w) (wL b w) (ps (W0 b w) (wL b w) k)).2.2) := by
  have hv := hb.2.2.2.1 w hw
  have hn := nP_le hb (w := w) none
  unfold f_X7_part
  rw [isW_ok hb hc hw, Option.bind_some, if_neg n10]
  refine wp_bind (wp_mono (cutBest_ok (by omega) hb hc hw lt bc) (fun r hr => ?_))
  obtain ⟨hl, hB⟩ := hr
  have r1 := hB.2.2.2 k hk
  rw [hB.2.1, if_neg (nI_pos (by omega)), if_pos (nI_lt hk (by omega)), if_neg (show ¬ (2 : Int32) = 0 by decide), if_neg (show ¬ (2 : Int32) = 1 by decide), if_pos (show (2 : Int32) = 2 from rfl), nI_clamp (show k < 2 ^ 31 by omega), q_ck (show k < 12 by omega) (by decide)]
  exact wp_some r1.2.2
theorem part_end (hN : 200 < N) (hb : OKb b) (hc : CR ct b) (hw : w < b 1) (lt : LV) (bc : BV) : wp (f_X7_part N ct lt bc (nI w) (nI (nP b w none)) 0) (fun r => r.1 = -1) := by
  have hv := hb.2.2.2.1 w hw
  have hn := nP_le hb (w := w) none
  unfold f_X7_part
  rw [isW_ok hb hc hw, Option.bind_some, if_neg n10]
  refine wp_bind (wp_mono (cutBest_ok (by omega) hb hc hw lt bc) (fun r hr => ?_))
  obtain ⟨hl, hB⟩ := hr
  rw [hB.2.1, if_neg (nI_pos (by omega)), if_neg (nI_nlt (Nat.le_refl _) (by omega))]
  exact wp_some rfl
theorem ofWord_ok (hN : 200 < N) (hb : OKb b) (hc : CR ct b) (hw : w < b 1) (lt : LV) (bc : BV) (ac : AV) : wp (f_X7_ofWord N ct lt bc ac (nI w) 0) (fun r => r.1 = nI (wL b w)) ∧ wp (f_X7_ofWord N ct lt bc ac (nI w) 1) (fun r => r.1 = nI (wC b w)) ∧ wp (f_X7_ofWord N ct lt bc ac (nI w) 2) (fun r => r.1 = nI (nP b w none)) ∧ wp (f_X7_ofWord N ct lt bc ac (nI w) 3) (fun r => r.1 = nI (nU b w none)) ∧ wp (f_X7_ofWord N ct lt bc ac (nI w) 5) (fun r => r.1 = nI (bh (W1 b w) (wL b w) 0)) := by
  have h8 := hb.2.1
  have hv := oc_w hc hw
  have key : ∀ (x : Int32) (P : Int32 × LV × BV × AV → Prop), (∀ r : LV × BV, LO b w r.1 → BO b w none r.2 → wp (if x = 0 then ck (nI w) 8 (some (ct.2.2.2.2.2.1 ((nI w).toNatClampNeg), r.1, r.2, ac)) else if x = 1 then ck (nI w) 8 (some (ct.2.2.2.2.2.2.1 ((nI w).toNatClampNeg), r.1, r.2, ac)) else if x = 2 then some (r.2.2.2.2.1, r.1, r.2, ac) else if x = 3 then some (r.2.2.2.2.2.1, r.1, r.2, ac) else if x = 4 then (f_X1_cost N r.2 ).bind (fun (r_100 : Int32) => ck (nI w) 8 (some (r_100 * (ct.2.2.2.2.2.2.1 ((nI w).toNatClampNeg)), r.1, r.2, ac))) else if x = 5 then (f_X0_find N r.1 ac ).bind (fun (r_122 : AV) => (f_X0_cuts N r_122 ).bind (fun (r_129 : Int32) => some (r_129, r.1, r.2, r_122))) else some ((-2), r.1, r.2, ac)) P) → wp (f_X7_ofWord N ct lt bc ac (nI w) x) P := by
    intro x P h
    unfold f_X7_ofWord
    rw [isW_ok hb hc hw, Option.bind_some, if_neg n10]
    exact wp_bind (wp_mono (cutBest_ok (by omega) hb hc hw lt bc) (fun r hr => h r hr.1 hr.2))
  refine ⟨key _ _ (fun r h1 h2 => ?_), key _ _ (fun r h1 h2 => ?_), key _ _ (fun r h1 h2 => ?_), key _ _ (fun r h1 h2 => ?_), key _ _ (fun r h1 h2 => ?_)⟩
  · rw [if_pos n00, q_ck (show w < 8 by omega) (by decide), nI_clamp (show w < 2 ^ 31 by omega)]
    exact wp_some hv.1
  · rw [if_neg n10, if_pos (show (1 : Int32) = 1 from rfl), q_ck (show w < 8 by omega) (by decide), nI_clamp (show w < 2 ^ 31 by omega)]
    exact wp_some hv.2
  · rw [if_neg (show ¬ (2 : Int32) = 0 by decide), if_neg (show ¬ (2 : Int32) = 1 by decide), if_pos (show (2 : Int32) = 2 from rfl)]
    exact wp_some h2.2.1
  · rw [if_neg (show ¬ (3 : Int32) = 0 by decide), if_neg (show ¬ (3 : Int32) = 1 by decide), if_neg (show ¬ (3 : Int32) = 2 by decide), if_pos (show (3 : Int32) = 3 from rfl)]
    exact wp_some h2.2.2.1
  · rw [if_neg (show ¬ (5 : Int32) = 0 by decide), if_neg (show ¬ (5 : Int32) = 1 by decide), if_neg (show ¬ (5 : Int32) = 2 by decide), if_neg (show ¬ (5 : Int32) = 3 by decide), if_neg (show ¬ (5 : Int32) = 4 by decide), if_pos (show (5 : Int32) = 5 from rfl)]
    refine wp_bind (wp_mono (all_ok (by omega) hb hw h1 ac) (fun a ha => ?_))
    have e := (ha.2 0 (Nat.zero_le _)).2
    unfold f_X0_cuts
    rw [q_ck0 (by decide) (by decide), Option.bind_some]
    exact wp_some e
theorem prod_ok (hN : 200 < N) (hb : OKb b) (hc : CR ct b) (hw : w < b 1) (lt : LV) (bc : BV) (ac : AV) : wp (f_X7_product N ct lt bc ac (nI w) 0) (fun r => r.1 = lN (bh (W0 b w) (wL b w) 0)) ∧ wp (f_X7_product N ct lt bc ac (nI w) 1) (fun r => r.1 = lN (bs (W0 b w) (wL b w) 0).1) := by
  constructor
  · unfold f_X7_product
    rw [isW_ok hb hc hw, Option.bind_some, if_neg n10, if_pos n00]
    refine wp_bind (wp_mono (read_ok (by omega) hb hc hw lt) (fun r hr => ?_))
    refine wp_bind (wp_mono (all_ok (by omega) hb hw hr ac) (fun a ha => ?_))
    rw [total_ok ha, Option.bind_some]
    exact wp_some rfl
  · unfold f_X7_product
    rw [isW_ok hb hc hw, Option.bind_some, if_neg n10, if_neg n10, if_pos (show (1 : Int32) = 1 from rfl)]
    refine wp_bind (wp_mono (cutBest_ok (by omega) hb hc hw lt bc) (fun r hr => ?_))
    have e := (hr.2.1 0 (Nat.zero_le _) (Nat.zero_le _)).1
    unfold f_X1_greatestProduct
    rw [q_ck0 (by decide) (by decide), Option.bind_some]
    exact wp_some e
theorem letter_ok (hb : OKb b) (hc : CR ct b) (hw : w < b 1) {k : Nat} (hk : k < wL b w) : f_X7_letter N ct (nI w) (nI k) = some (nI (wT b w k - 1)) := by
  have h8 := hb.2.1
  have hv := hb.2.2.2.1 w hw
  unfold f_X7_letter
  rw [isW_ok hb hc hw, Option.bind_some, if_neg n10, if_neg (nI_pos (by omega)), q_ck (show w < 8 by omega) (by decide), nI_clamp (show w < 2 ^ 31 by omega), (oc_w hc hw).1, if_pos (nI_lt hk (by omega)), letterAt_ok hb hc hw hk]
  rfl
theorem cshare_ok (hN : 200 < N) (hb : OKb b) (hc : CR ct b) (hw : w < b 1) {p : Nat} (hp : p < b 0) (lt : LV) (ac : AV) : wp (f_X7_share N ct lt ac (nI w) (nI p)) (fun r => r.1 = shr b w p) := by
  unfold f_X7_share
  rw [isW_ok hb hc hw, Option.bind_some, if_neg n10, isP_ok hb hc hp, Option.bind_some, if_neg n10]
  refine wp_bind (wp_mono (read_ok (by omega) hb hc hw lt) (fun r hr => ?_))
  refine wp_bind (wp_mono (all_ok (by omega) hb hw hr ac) (fun a ha => ?_))
  rw [shareOf_ok (by omega) hb hw hr ha hp, Option.bind_some]
  exact wp_some rfl
end parts_
theorem ofPiece_ok {N : Nat} {ct : CV} {b : bk} (hN : 200 < N) (hb : OKb b) (hc : CR ct b) {p : Nat} (hp : p < b 0) (lt : LV) (bc : BV) (ac : AV) (bn cw : Nat → Int32) : wp (f_X7_ofPiece N ct lt bc ac bn cw (nI p) 0) (fun r => r.1 = nI (pL b p)) ∧ wp (f_X7_ofPiece N ct lt bc ac bn cw (nI p) 1) (fun r => r.1 = nI (pW b p)) ∧ wp (f_X7_ofPiece N ct lt bc ac bn cw (nI p) 2) (fun r => r.1 = nI (pT b p 0 - 1)) ∧ wp (f_X7_ofPiece N ct lt bc ac bn cw (nI p) 7) (fun r => r.1 = (nI (cW b p) - nI (sm (cost1 b none) (b 1))) + 100000) ∧ wp (f_X7_ofPiece N ct lt bc ac bn cw (nI p) 8) (fun r => r.1 = be b p (b 1)) := by
  have h16 := hb.1
  have g3 := hc.2.2.1 p hp
  have hv := hb.2.2.1 p hp
  refine ⟨?_, ?_, ?_, ?_, ?_⟩ <;> (unfold f_X7_ofPiece; rw [isP_ok hb hc hp, Option.bind_some, if_neg n10])
  · rw [if_pos n00, q_ck (show p < 16 by omega) (by decide), nI_clamp (show p < 2 ^ 31 by omega)]
    exact wp_some g3.2.1
  · rw [if_neg n10, if_pos (show (1 : Int32) = 1 from rfl), q_ck (show p < 16 by omega) (by decide), nI_clamp (show p < 2 ^ 31 by omega)]
    exact wp_some g3.2.2
  · rw [if_neg (show ¬ (2 : Int32) = 0 by decide), if_neg (show ¬ (2 : Int32) = 1 by decide), if_pos (show (2 : Int32) = 2 from rfl), q_ck (show p < 16 by omega) (by decide), q_ck (show p < 16 by omega) (by decide), nI_clamp (show p < 2 ^ 31 by omega), g3.1, g3.2.1, show (2 : Int32) - 2 = nI 0 by decide, letC_ok hv.2.1 hv.2.2.2.2 (by decide), Option.bind_some]
    exact wp_some (if_pos (by omega))
  · rw [if_neg (show ¬ (7 : Int32) = 0 by decide), if_neg (show ¬ (7 : Int32) = 1 by decide), if_neg (show ¬ (7 : Int32) = 2 by decide), if_neg (show ¬ (7 : Int32) = 3 by decide), if_neg (show ¬ (7 : Int32) = 4 by decide), if_neg (show ¬ (7 : Int32) = 5 by decide), if_neg (show ¬ (7 : Int32) = 6 by decide), if_pos (show (7 : Int32) = 7 from rfl)]
    refine wp_bind (wp_mono (lose_ok (by omega) hb hc lt bc cw) (fun r hr => ?_))
    rw [q_ck (show p < 16 by omega) (by decide)]
    refine wp_bind (wp_mono (costOfAll_ok (by omega) hb hc r.1 r.2.1) (fun r2 hr2 => ?_))
    rw [nI_clamp (show p < 2 ^ 31 by omega), hr p hp, hr2]
    exact wp_some rfl
  · rw [if_neg (show ¬ (8 : Int32) = 0 by decide), if_neg (show ¬ (8 : Int32) = 1 by decide), if_neg (show ¬ (8 : Int32) = 2 by decide), if_neg (show ¬ (8 : Int32) = 3 by decide), if_neg (show ¬ (8 : Int32) = 4 by decide), if_neg (show ¬ (8 : Int32) = 5 by decide), if_neg (show ¬ (8 : Int32) = 6 by decide), if_neg (show ¬ (8 : Int32) = 7 by decide), if_pos (show (8 : Int32) = 8 from rfl)]
    refine wp_bind (wp_mono (bear_ok (by omega) hb hc lt ac bn) (fun r hr => ?_))
    rw [q_ck (show p < 16 by omega) (by decide), nI_clamp (show p < 2 ^ 31 by omega)]
    exact wp_some (hr p hp)
theorem cleast_ok {N : Nat} {ct : CV} {b : bk} (hN : 200 < N) (hb : OKb b) (hc : CR ct b) (lt : LV) (bc : BV) (cw : Nat → Int32) : wp (f_X7_least N ct lt bc cw) (fun r => r.1 = oI (-6) (lst b (b 0))) := by
  have h16 := hb.1
  unfold f_X7_least
  refine wp_bind (wp_mono (findLeast_ok (by omega) hb hc lt bc cw) (fun r hr => ?_))
  rw [hr]
  cases e : lst b (b 0) with
  | none =>
    rw [if_pos (show oI (-1) none = -1 from rfl)]
    exact wp_some rfl
  | some p =>
    have hp := lst_lt e
    rw [if_neg (show ¬ oI (-1) (some p) = -1 from fun q => by
      have g := q_nem1 (n := p) (by omega)
      rw [← g]
      exact q)]
    exact wp_some rfl
theorem count_ok {N : Nat} {ct : CV} {b : bk} (hN : 200 < N) (hb : OKb b) (hc : CR ct b) (hi : HV) (pd : PV) (lt : LV) (bc : BV) : wp (f_X7_count N ct hi pd lt bc 0) (fun r => r.1 = nI (b 0)) ∧ wp (f_X7_count N ct hi pd lt bc 1) (fun r => r.1 = nI (b 1)) ∧ wp (f_X7_count N ct hi pd lt bc 2) (fun r => r.1 = nI (sm (cost1 b none) (b 1))) ∧ wp (f_X7_count N ct hi pd lt bc 3) (fun r => r.1 = nI (sm (fun w => wL b w * wC b w) (b 1))) ∧ wp (f_X7_count N ct hi pd lt bc 4) (fun r => r.1 = nI (sm (fun w => nP b w none * wC b w) (b 1))) ∧ wp (f_X7_count N ct hi pd lt bc 5) (fun r => r.1 = nI (sm (fun w => nU b w none * wC b w) (b 1))) := by
  refine ⟨?_, ?_, ?_, ?_, ?_, ?_⟩ <;> unfold f_X7_count
  · rw [if_pos n00]
    exact wp_some hc.1
  · rw [if_neg n10, if_pos (show (1 : Int32) = 1 from rfl)]
    exact wp_some hc.2.1
  · rw [if_neg (show ¬ (2 : Int32) = 0 by decide), if_neg (show ¬ (2 : Int32) = 1 by decide), if_pos (show (2 : Int32) = 2 from rfl)]
    refine wp_bind (wp_mono (costOfAll_ok (by omega) hb hc lt bc) (fun r hr => ?_))
    exact wp_some hr
  · rw [if_neg (show ¬ (3 : Int32) = 0 by decide), if_neg (show ¬ (3 : Int32) = 1 by decide), if_neg (show ¬ (3 : Int32) = 2 by decide), if_pos (show (3 : Int32) = 3 from rfl)]
    refine wp_bind (wp_mono (lettersOfAll_ok (by omega) hb hc) (fun r hr => ?_))
    exact wp_some hr
  · rw [if_neg (show ¬ (4 : Int32) = 0 by decide), if_neg (show ¬ (4 : Int32) = 1 by decide), if_neg (show ¬ (4 : Int32) = 2 by decide), if_neg (show ¬ (4 : Int32) = 3 by decide), if_pos (show (4 : Int32) = 4 from rfl)]
    refine wp_bind (wp_mono (partsOfAll_ok (by omega) hb hc lt bc) (fun r hr => ?_))
    exact wp_some hr
  · rw [if_neg (show ¬ (5 : Int32) = 0 by decide), if_neg (show ¬ (5 : Int32) = 1 by decide), if_neg (show ¬ (5 : Int32) = 2 by decide), if_neg (show ¬ (5 : Int32) = 3 by decide), if_neg (show ¬ (5 : Int32) = 4 by decide), if_pos (show (5 : Int32) = 5 from rfl)]
    refine wp_bind (wp_mono (costOfAll_ok (by omega) hb hc lt bc) (fun r hr => ?_))
    refine wp_bind (wp_mono (partsOfAll_ok (by omega) hb hc r.2.1 r.2.2) (fun r2 hr2 => ?_))
    rw [hr, hr2, cost_pu, pk_sub (Nat.le_add_right _ _), Nat.add_sub_cancel_left]
    exact wp_some rfl
/-! changes -/
theorem PC_congr {pd : PV} {c c' : Nat → Nat} {n : Nat} (h : PC pd c n) (e : ∀ k, k < n → c k = c' k) : PC pd c' n := ⟨h.1, h.2.1, fun k hk => by rw [← e k hk]; exact h.2.2 k hk⟩
theorem put1_ok {N : Nat} (hN : 200 < N) {pd : PV} {c : Nat → Nat} {k0 : Nat} (h : PC pd c k0) (hk : k0 + 1 ≤ 16) {x : Nat} (hx : 33 ≤ x ∧ x ≤ 126) : wp (f_X7_put N pd (lN x)) (fun r => r.1 = nI (k0 + 1) ∧ PC r.2 (fun k => if k < k0 then c k else x) (k0 + 1)) := by
  have e1 : chn 8 x 0 = 1 := by
    rw [chn_g (by omega) (by rw [Nat.mod_eq_of_lt (by omega)]; exact hx), show x / 256 = 0 by omega, chn_0]
  unfold f_X7_put
  rw [chr_ok (by omega) (show x < 2 ^ 64 by omega), e1, Option.bind_some, if_neg (show ¬ nI 1 = (0 : Int32) by decide), h.2.1, nI_add, if_pos (show nI (k0 + 1) ≤ (16 : Int32) from nI_le (b := 16) hk (by decide))]
  refine putC_L (N := N) (n := x) (by omega) (by decide) hk (c := c) (fun j hj => by rw [show j = 0 by omega, Nat.pow_zero, Nat.div_one]; omega) (fun pd2 hp => wp_some ⟨hp.2.1, PC_congr hp (fun k hk2 => ?_)⟩) N 1 pd (Nat.le_refl _) (by omega) ⟨by omega, by rw [h.2.1]; exact congrArg nI (by omega), fun k hk2 => ?_⟩
  · have e2 : cx c k0 x 1 k = c k := if_pos (by omega)
    rw [e2]
    exact h.2.2 k (by omega)
  · unfold cx
    by_cases g : k < k0
    · rw [if_pos g, if_pos g]
    · rw [if_neg g, if_neg g, show k0 + 1 - 1 - k = 0 by omega, Nat.pow_zero, Nat.div_one, Nat.mod_eq_of_lt (by omega)]
theorem puts_L {N : Nat} (hN : 200 < N) {a : Nat → Nat} {n : Nat} (ha : okl a n) {K : PV → Option (Int32 × PV)} {P : Int32 × PV → Prop} (hK : ∀ pd, PC pd (fun k => 96 + a k) n → wp (K pd) P) : ∀ (f k : Nat) (pd : PV), k ≤ n → n - k < f → PC pd (fun k => 96 + a k) k → wp (f_L_puts_L7 N (nI (cod 7 a n)) K f (nI k) pd) P
  | 0, _, _, _, h, _ => by omega
  | f + 1, k, pd, hk, hf, h => by
    have h7 := ha.1
    rw [f_L_puts_L7, size_ok hN ha, Option.bind_some]
    by_cases g : n ≤ k
    · rw [if_pos (nI_le g (by omega))]
      rw [show k = n by omega] at h
      exact hK pd h
    · have hl := ha.2 k (by omega)
      have e1 : cod 7 (fun j => a (k + j)) 1 = a k := by
        show 7 * 0 + a (k + 0) = a k
        rw [Nat.mul_zero, Nat.zero_add, Nat.add_zero]
      rw [if_neg (nI_ge (show k < n by omega) (by omega)), i1, some_ok hN ha (show k + 1 ≤ n by omega), Option.bind_some, e1, show (96 : Int32) = nI 96 from rfl, nI_add, q_toL (by omega)]
      refine wp_bind (wp_mono (put1_ok hN h (by omega) (show 33 ≤ 96 + a k ∧ 96 + a k ≤ 126 by omega)) (fun r hr => ?_))
      rw [hr.1, nI_add, if_pos rfl]
      refine puts_L hN ha hK f (k + 1) r.2 (by omega) (by omega) (PC_congr hr.2 (fun j hj => ?_))
      by_cases q : j < k
      · exact if_pos q
      · rw [if_neg q, show j = k by omega]
theorem fnl_let {a : Nat → Nat} {n : Nat} (h : ∀ k, k < n → 1 ≤ a k ∧ a k ≤ 6) : ∀ m k, k + m = n → fnl (fun k => 96 + a k) m k = n
  | 0, k, e => by
    show k = n
    omega
  | m + 1, k, e => by
    have h1 := h k (by omega)
    show (if 97 ≤ 96 + a k ∧ 96 + a k ≤ 102 then fnl (fun k => 96 + a k) m (k + 1) else k) = n
    rw [if_pos (by omega)]
    exact fnl_let h m (k + 1) (by omega)
theorem puts_ok {N : Nat} (hN : 200 < N) {a : Nat → Nat} {n : Nat} (ha : okl a n) {pd : PV} {c : Nat → Nat} {m : Nat} (h : PC pd c m) : wp (f_L_puts N pd (nI (cod 7 a n))) (fun r => r.1 = 1 ∧ PC r.2 (fun k => 96 + a k) n) := by
  have h7 := ha.1
  unfold f_L_puts
  refine wp_bind (wp_mono (wipeC_ok h) (fun r hr => ?_))
  refine puts_L (N := N) hN ha (fun pd2 hp => ?_) N 0 r.2 (Nat.zero_le _) (by omega) ⟨by omega, hr.2.2.1, fun k hk => absurd hk (by omega)⟩
  rw [faultC_ok (by omega) hp, fnl_let ha.2 n 0 (by omega), if_neg (Nat.lt_irrefl _), Option.bind_some, if_pos rfl]
  exact wp_some ⟨rfl, hp⟩
theorem ltr_96 (a : Nat → Nat) : ltr (fun k => 96 + a k) = a := by
  funext k
  show 96 + a k - 96 = a k
  omega
theorem whyC {N : Nat} (hN : 200 < N) {ct : CV} {pd : PV} {b : bk} {a : Nat → Nat} {n wt : Nat} (hb : OKb b) (hc : CR ct b) (ha : okl a n) (h1 : 1 ≤ n) (h4 : n ≤ 4) (h16 : b 0 < 16) (w1 : 1 ≤ wt) (w9 : wt ≤ 9) (hp : PC pd (fun k => 96 + a k) n) : f_X7_newPieceError N ct pd (nI wt) = some (if fnd b a n = none then 0 else -5) := by
  have hf := fnl_let ha.2 n 0 (by omega)
  unfold f_X7_newPieceError
  rw [show f_X6_holdsLetters N pd 4 = _ from holdsLetters_ok (by omega) hp (M := 4) (by decide), Option.bind_some, if_pos (show 1 ≤ n ∧ n ≤ 4 ∧ fnl (fun k => 96 + a k) n 0 = n from ⟨h1, h4, hf⟩), if_neg (show ¬ nI 1 = (0 : Int32) by decide), if_neg (show ¬ nI wt < (1 : Int32) from nI_nlt (b := 1) w1 (by omega)), if_pos (show nI wt ≤ (9 : Int32) from nI_le (b := 9) w9 (by decide)), hc.1, if_pos (show nI (b 0) < (16 : Int32) from nI_lt (b := 16) h16 (by decide)), textC_ok (by omega) hp h4 hf, Option.bind_some, ltr_96, pieceWith_seg (by omega) hb hc h4 ha.2, Option.bind_some]
  show (if oI (-1) (fnd b a n) = -1 then some 0 else some (-5)) = _
  cases e : fnd b a n with
  | none => rfl
  | some p =>
    have hp2 := (ff_some e).2.1
    rw [if_neg (show ¬ oI (-1) (some p) = -1 from fun q => by
      have g := q_nem1 (n := p) (by omega)
      rw [← g]
      exact q)]
    rfl
theorem cpiece_ok {N : Nat} (hN : 200 < N) {ct : CV} {hi : HV} {pd : PV} {b : bk} {hh : Nat → bk} {z : Nat} {a : Nat → Nat} {n wt : Nat} (hb : OKb b) (hc : CR ct b) (ho : HC hi hh z) (ha : okl a n) (h1 : 1 ≤ n) (h4 : n ≤ 4) (h16 : b 0 < 16) (w1 : 1 ≤ wt) (w9 : wt ≤ 9) (hp : PC pd (fun k => 96 + a k) n) : wp (f_X7_piece N ct hi pd (nI wt)) (fun r => (fnd b a n = none ∧ r.1 = nI (b 0) ∧ OKb (addB b a n wt) ∧ CR r.2.1 (addB b a n wt) ∧ (∃ hh z, HC r.2.2.1 hh z) ∧ ∃ c m, PC r.2.2.2 c m) ∨ (¬ fnd b a n = none ∧ r = (-5, ct, hi, pd))) := by
  have hf := fnl_let ha.2 n 0 (by omega)
  unfold f_X7_piece
  rw [whyC hN hb hc ha h1 h4 h16 w1 w9 hp, Option.bind_some]
  by_cases e : fnd b a n = none
  · rw [if_pos e, if_pos n00]
    refine wp_bind (wp_mono (recordC_ok hb hc ho) (fun r hr => ?_))
    rw [textC_ok (by omega) hp h4 hf, Option.bind_some, ltr_96, hp.2.1]
    refine wp_bind (wp_mono (addPieceC_ok hb hc h16 h4) (fun r2 hr2 => ?_))
    refine wp_some (Or.inl ⟨e, ?_, addB_ok hb h16 ⟨h1, h4, w1, w9, ha.2⟩ (fnd_no e), hr2.1, ⟨_, _, hr⟩, fun _ => 0, 0, PC_0 _ _⟩)
    show r2.1 - 1 = nI (b 0)
    rw [hr2.2]
    exact nI_pred _
  · rw [if_neg e, if_neg (show ¬ (-5 : Int32) = 0 by decide)]
    exact wp_some (Or.inr ⟨e, rfl⟩)
theorem cweigh_ok {N : Nat} {ct : CV} {hi : HV} {b : bk} {hh : Nat → bk} {z : Nat} {p wt : Nat} (hb : OKb b) (hc : CR ct b) (ho : HC hi hh z) (hp : p < b 0) (w1 : 1 ≤ wt) (w9 : wt ≤ 9) : wp (f_X7_weigh N ct hi (nI p) (nI wt)) (fun r => r.1 = nI (pW b p) ∧ OKb (wgB b p wt) ∧ CR r.2.1 (wgB b p wt) ∧ ∃ hh z, HC r.2.2 hh z) := by
  have h16 := hb.1
  unfold f_X7_weigh
  rw [isP_ok hb hc hp, Option.bind_some, if_neg n10, if_neg (show ¬ nI wt < (1 : Int32) from nI_nlt (b := 1) w1 (by omega)), if_pos (show nI wt ≤ (9 : Int32) from nI_le (b := 9) w9 (by decide))]
  refine wp_bind (wp_mono (recordC_ok hb hc ho) (fun r hr => ?_))
  rw [q_ck (show p < 16 by omega) (by decide), nI_clamp (show p < 2 ^ 31 by omega), q_bd, q_ck (show p < 16 by omega) (by decide)]
  refine wp_some ⟨(hc.2.2.1 p hp).2.2, wgB_ok hb hp w1 w9, ?_, _, _, hr⟩
  refine CR_of (c' := setw ct (upd ct.2.2.2.1 p (nI wt))) hb hc rfl rfl rfl rfl rfl rfl (wgB_o (by omega)) (wgB_o (by omega)) (fun q hq => wgB_o (by omega)) (fun q k hq hk => wgB_o (by omega)) (fun q hq => ?_) (fun w hw => wgB_o (by omega)) (fun w hw => ?_) (fun w k hw hk => wgB_o (by omega))
  · by_cases e : q = p
    · rw [e, wgB_s]
      exact upd_s _ _ _
    · rw [wgB_W e]
      exact (upd_o e).trans (hc.2.2.1 q hq).2.2
  · rw [show wC (wgB b p wt) w = wC b w from wgB_o (by omega)]
    exact (hc.2.2.2 w hw).2.1
theorem cword_ok {N : Nat} (hN : 200 < N) {ct : CV} {hi : HV} {pd : PV} {b : bk} {hh : Nat → bk} {z : Nat} {a : Nat → Nat} {n m : Nat} (hb : OKb b) (hc : CR ct b) (ho : HC hi hh z) (ha : okl a n) (h1 : 1 ≤ n) (h8 : b 1 < 8) (m1 : 1 ≤ m) (m9 : m ≤ 99) (hp : PC pd (fun k => 96 + a k) n) : wp (f_X7_word N ct hi pd (nI m)) (fun r => r.1 = nI (b 1) ∧ OKb (addW b (fun k => 96 + a k) n m) ∧ CR r.2.1 (addW b (fun k => 96 + a k) n m) ∧ (∃ hh z, HC r.2.2.1 hh z) ∧ ∃ c m, PC r.2.2.2 c m) := by
  have h7 := ha.1
  have hf := fnl_let ha.2 n 0 (by omega)
  unfold f_X7_word
  rw [show f_X6_holdsLetters N pd 12 = _ from holdsLetters_ok (by omega) hp (M := 12) (by decide), Option.bind_some, if_pos (show 1 ≤ n ∧ n ≤ 12 ∧ fnl (fun k => 96 + a k) n 0 = n from ⟨h1, by omega, hf⟩), if_neg (show ¬ nI 1 = (0 : Int32) by decide), if_neg (show ¬ nI m < (1 : Int32) from nI_nlt (b := 1) m1 (by omega)), if_pos (show nI m ≤ (99 : Int32) from nI_le (b := 99) m9 (by decide)), hc.2.1, if_pos (show nI (b 1) < (8 : Int32) from nI_lt (b := 8) h8 (by decide))]
  refine wp_bind (wp_mono (recordC_ok hb hc ho) (fun r hr => ?_))
  refine wp_bind (wp_mono (addWordC_ok (by omega) hb hc hp h8 (by omega) (fun k hk => by have := ha.2 k hk; omega)) (fun r2 hr2 => ?_))
  refine wp_some ⟨?_, addW_ok hb h8 h1 (by omega) m1 m9 (by rw [ltr_96]; exact ha.2), hr2.1, ⟨_, _, hr⟩, fun _ => 0, 0, PC_0 _ _⟩
  show r2.2.2.2.2.1 - 1 = nI (b 1)
  rw [hr2.2]
  exact nI_pred _
theorem cforget_ok {N : Nat} {ct : CV} {hi : HV} {b : bk} {hh : Nat → bk} {z : Nat} {w : Nat} (hb : OKb b) (hc : CR ct b) (ho : HC hi hh z) (hw : w < b 1) : wp (f_X7_forget N ct hi (nI w)) (fun r => r.1 = nI (b 1 - 1) ∧ OKb (frB b w) ∧ CR r.2.1 (frB b w) ∧ ∃ hh z, HC r.2.2 hh z) := by
  unfold f_X7_forget
  rw [isW_ok hb hc hw, Option.bind_some, if_neg n10]
  refine wp_bind (wp_mono (recordC_ok hb hc ho) (fun r hr => ?_))
  refine wp_bind (wp_mono (removeWordC_ok hb hc hw) (fun r2 hr2 => ?_))
  exact wp_some ⟨hr2.2, frB_ok hb hw, hr2.1, _, _, hr⟩
theorem ctune_ok {N : Nat} (hN : 200 < N) {ct : CV} {hi : HV} {b : bk} {hh : Nat → bk} {z : Nat} (hb : OKb b) (hc : CR ct b) (ho : HC hi hh z) (lt : LV) (ac : AV) (bn : Nat → Int32) : wp (f_X7_tune N ct hi lt ac bn) (fun r => r.1 = nI (tc b (b 0)) ∧ OKb (tnB b) ∧ CR r.2.1 (tnB b) ∧ ∃ hh z, HC r.2.2.1 hh z) := by
  have h16 := hb.1
  unfold f_X7_tune
  refine wp_bind (wp_mono (recordC_ok hb hc ho) (fun r hr => ?_))
  refine wp_bind (wp_mono (bear_ok (by omega) hb hc lt ac bn) (fun r2 hr2 => ?_))
  refine tune_L19 hb hc hr2 ?_ N 0 (Nat.zero_le _) (by omega)
  refine tune_L51 hb hc hr2 (fun w hw => ?_) N 0 ct.2.2.2.1 (Nat.zero_le _) (by omega) ⟨fun q hq => absurd hq (by omega), fun q _ hq => (hc.2.2.1 q hq).2.2⟩
  exact wp_some ⟨rfl, tnB_ok hb, tune_CR hb hc hw, _, _, hr⟩
theorem cshrink_ok {N : Nat} (hN : 2000 < N) {ct : CV} {hi : HV} {b : bk} {hh : Nat → bk} {z : Nat} {t : Nat} (hb : OKb b) (hc : CR ct b) (ho : HC hi hh z) (ht : t ≤ 16) (lt : LV) (bc : BV) (cw : Nat → Int32) : wp (f_X7_shrink N ct hi lt bc cw (nI t)) (fun r => r.1 = nI (b 0 - t) ∧ OKb (shrB b t (b 0 - t)) ∧ CR r.2.1 (shrB b t (b 0 - t)) ∧ ∃ hh z, HC r.2.2.1 hh z) := by
  have h16 := hb.1
  unfold f_X7_shrink
  rw [if_neg (nI_pos (by omega)), if_pos (show nI t ≤ (16 : Int32) from nI_le (b := 16) ht (by decide))]
  refine wp_bind (wp_mono (recordC_ok hb hc ho) (fun r hr => ?_))
  obtain ⟨s1, s2⟩ := shrB_0 (z := t) (b 0 - t) b hb rfl
  rw [hc.1]
  refine shrink_L34 (by omega) ht (b 0 - t) N b ct lt bc cw hb hc rfl (by omega) (fun c' lt bc cw hc' => ?_)
  refine wp_some ⟨?_, s2, hc', _, _, hr⟩
  show nI (b 0) - c'.1 = nI (b 0 - t)
  rw [hc'.1, s1, pk_sub (by omega)]
  exact congrArg nI (by omega)
