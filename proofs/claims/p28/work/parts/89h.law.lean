/-! AFTER EACH ACTION: all that the law compares agrees -/
abbrev SO : Type := Int32 × LV × BV × AV × (Nat → Int32) × (Nat → Int32) × (Nat → Int32) × (Nat → Int32)
theorem lk_cmps (x : Int64) : lg_cmp x x = 0 := by
  unfold lg_cmp
  rw [if_neg (Int64.lt_irrefl), if_pos rfl]
def ktP (b : bk) (w c : Nat) : Nat := if 0 < ktF (W0 b w) (wL b w - 1) 0 1 c then 1 else 0
theorem W1_4 {b : bk} (hb : OKb b) (w : Nat) : ∀ i L, 4 < L → W1 b w i L = 0 := by
  intro i L h
  unfold W1
  rw [if_neg (by rw [W0_4 hb w i L h]; omega)]
theorem ktP_sm {b : bk} (hb : OKb b) {w : Nat} (h1 : 1 ≤ wL b w) : sm (ktP b w) (2 ^ (wL b w - 1)) = bh (W1 b w) (wL b w) 0 := by
  rw [← ktF_all (W1_4 hb w) h1]
  exact sm_congr _ (fun k _ => (ktF_pos (W := W0 b w) (W' := W1 b w) (fun i L => rfl) _ _ _ _).symm)
section same_
variable {N : Nat} {ct : CV} {hi : HV} {pd : PV} {ra rb rc : Nat → Int32} {b : bk}
theorem same_L56 (hN : 200 < N) (hb : OKb b) (hq : QP ra rb b) {w : Nat} (hw : w < b 1) (h7 : wL b w ≤ 7) {x6 x7 x8 x9 x12 x14 : Int32} {lt : LV} {bc : BV} {ac : AV} {bn cw rd re : Nat → Int32} {K : Int32 → Int64 → Option SO} {P : SO → Prop} (hK : wp (K (nI (bh (W1 b w) (wL b w) 0)) (lN (bh (W0 b w) (wL b w) 0))) P) : ∀ (f c : Nat), c ≤ 2 ^ (wL b w - 1) → 2 ^ (wL b w - 1) - c < f → wp (f_L_same_L56 N ct hi pd ra rb rc x6 x7 x8 x9 (nI (wTx b w)) (nI (wL b w)) x12 x14 lt bc ac bn cw rd re K f (nI (sm (ktP b w) c)) (lN (sm (ktF (W0 b w) (wL b w - 1) 0 1) c)) (nI c)) P
  | 0, _, _, h => by omega
  | f + 1, c, hc, hf => by
    have h1 := (hb.2.2.2.1 w hw).1
    have p6 : 2 ^ (wL b w - 1) ≤ 2 ^ 6 := Nat.pow_le_pow_right (by omega) (by omega)
    have p64 : (2 : Nat) ^ 6 = 64 := by decide
    rw [f_L_same_L56, show nI (wL b w) - 1 = nI (wL b w - 1) from pk_sub (b := 1) h1, q_shl1 _ (by omega)]
    by_cases g : 2 ^ (wL b w - 1) ≤ c
    · rw [if_pos (nI_le g (by omega)), show c = 2 ^ (wL b w - 1) by omega, ktP_sm hb h1, ktF_all (W0_4 hb w) h1]
      exact hK
    · have hc2 : c < 2 ^ (wL b w - 1) := by omega
      have hF := ktF_b (w := w) (c := c) hb h1 h7
      have key := same_L56 hN hb hq hw h7 (x6 := x6) (x7 := x7) (x8 := x8) (x9 := x9) (x12 := x12) (x14 := x14) (lt := lt) (bc := bc) (ac := ac) (bn := bn) (cw := cw) (rd := rd) (re := re) hK f (c + 1) (by omega) (by omega)
      have e1 : sm (ktP b w) (c + 1) = sm (ktP b w) c + ktP b w c := rfl
      have e2 : sm (ktF (W0 b w) (wL b w - 1) 0 1) (c + 1) = sm (ktF (W0 b w) (wL b w - 1) 0 1) c + ktF (W0 b w) (wL b w - 1) 0 1 c := rfl
      rw [if_neg (nI_ge hc2 (by omega)), product_ok hN hb hq hw h7 hc2, Option.bind_some, q_bd, lN_add, nI_1, ← e2]
      by_cases z : ktF (W0 b w) (wL b w - 1) 0 1 c = 0
      · have e3 : ktP b w c = 0 := if_neg (by omega)
        rw [if_pos ((lk_le0 (by omega)).2 z), i0, nI_add]
        rw [e1, e3] at key
        exact key
      · have e3 : ktP b w c = 1 := if_pos (by omega)
        rw [if_neg (fun q => z ((lk_le0 (by omega)).1 q)), nI_1]
        rw [e1, e3] at key
        exact key
theorem same_L111 (hN : 200 < N) (hb : OKb b) (hc : CR ct b) (hq : QP ra rb b) {w : Nat} (hw : w < b 1) (h7 : wL b w ≤ 7) {x6 x7 x8 x13 : Int32} {x15 : Int64} {ac : AV} {bn cw rd re : Nat → Int32} {K : Int32 → LV → BV → Option SO} {P : SO → Prop} (hK : ∀ lt bc, wp (K (nI (nP b w none)) lt bc) P) : ∀ (f k : Nat) (lt : LV) (bc : BV), k ≤ nP b w none → nP b w none - k < f → wp (f_L_same_L111 N ct hi pd ra rb rc x6 x7 x8 (nI w) (nI (wTx b w)) (nI (wL b w)) (nI (ktc (W0 b w) (wL b w) 0)) x13 x15 ac bn cw rd re K f (nI k) (nI (ps (W0 b w) (wL b w) k)) lt bc) P
  | 0, _, _, _, _, h => by omega
  | f + 1, k, lt, bc, hk, hf => by
    rw [f_L_same_L111]
    by_cases g : k = nP b w none
    · have e : ps (W0 b w) (wL b w) k = wL b w := by rw [g]; exact ps_end (W0_ok hb w)
      rw [e, if_pos (nI_le (Nat.le_refl _) (by omega)), g]
      exact hK lt bc
    · have hk2 : k < nP b w none := by omega
      obtain ⟨h1, h2, h3⟩ := ps_part hb hk2
      rw [if_neg (nI_ge h1 (by omega)), reaches_best hN hb hw h7 hk2, Option.bind_some]
      refine wp_bind (wp_mono (part_0 hN hb hc hw hk2 lt bc) (fun r hr => ?_))
      rw [show nI (wTx b w) = nI (cod 7 (wT b w) (wL b w)) from rfl, some_ok hN (wt_ok hb hw h7) h3, Option.bind_some, lpart_ok hN hb hq hw h7 h3, Option.bind_some, ← pp0, if_pos hr]
      refine wp_bind (wp_mono (part_1 hN hb hc hw hk2 r.2.1 r.2.2) (fun r2 hr2 => ?_))
      rw [if_pos hr2]
      refine wp_bind (wp_mono (part_2 hN hb hc hw hk2 r2.2.1 r2.2.2) (fun r3 hr3 => ?_))
      rw [if_pos hr3, Option.bind_some, q_bd, nI_add, nI_1, ← ps_s]
      exact same_L111 hN hb hc hq hw h7 hK f (k + 1) r3.2.1 r3.2.2 (by omega) (by omega)
set_option maxHeartbeats 1000000 in
theorem same_L12 (hN : 200 < N) (hb : OKb b) (hc : CR ct b) (hq : QP ra rb b) (hr : QW rc b) {bn cw rd re : Nat → Int32} {K : Int32 → Int32 → Int32 → LV → BV → AV → Option SO} {P : SO → Prop} (hK : ∀ lt bc ac, wp (K (nI (sm (fun w => nP b w none * wC b w) (b 1))) (nI (sm (fun w => nU b w none * wC b w) (b 1))) (nI (sm (fun w => wL b w * wC b w) (b 1))) lt bc ac) P) : ∀ (f w : Nat) (lt : LV) (bc : BV) (ac : AV), w ≤ b 1 → b 1 - w < f → wp (f_L_same_L12 N ct hi pd ra rb rc bn cw rd re K f (nI (sm (fun w => nP b w none * wC b w) w)) (nI (sm (fun w => nU b w none * wC b w) w)) (nI (sm (fun w => wL b w * wC b w) w)) (nI w) lt bc ac) P
  | 0, _, _, _, _, _, h => by omega
  | f + 1, w, lt, bc, ac, hw0, hf => by
    have h3 := hr.1
    rw [f_L_same_L12, q_ck1 (by decide) (by decide), show ra ((1 : Int32).toNatClampNeg) = nI (b 1) from hq.2.1]
    by_cases g : b 1 ≤ w
    · rw [if_pos (nI_le g (by omega)), show w = b 1 by omega]
      exact hK lt bc ac
    · have hw : w < b 1 := by omega
      obtain ⟨h7, a2, a3⟩ := hr.2 w hw
      have h1 := (hb.2.2.2.1 w hw).1
      obtain ⟨t1, t2, t3, -⟩ := ktc_top hb hw
      have hT : wTx b w < 823543 := cod77 (wt_ok hb hw h7)
      rw [if_neg (nI_ge hw (by omega)), show (2 : Int32) = nI 2 from rfl, pk_mul, nI_1 (2 * w), q_ck (show 2 * w < 6 by omega) (by decide), nI_clamp (show 2 * w < 2 ^ 31 by omega), nI_clamp (show 2 * w + 1 < 2 ^ 31 by omega), a2, a3, q_bd, show f_L_size N (nI (wTx b w)) = some (nI (wL b w)) from size_ok hN (wt_ok hb hw h7), Option.bind_some, best_ok hN hb hq hw h7, Option.bind_some]
      refine same_L56 (N := N) hN hb hq hw h7 ?_ N 0 (Nat.zero_le _) (by have := p2c h7 t1; have p6 : 2 ^ (wL b w - 1) ≤ 2 ^ 6 := Nat.pow_le_pow_right (by omega) (by omega); have p64 : (2 : Nat) ^ 6 = 64 := (by decide); omega)
      refine same_L111 (N := N) hN hb hc hq hw h7 (fun lt bc => ?_) N 0 lt bc (Nat.zero_le _) (by have := nP_le hb (w := w) none; omega)
      refine wp_bind (wp_mono (ofWord_ok hN hb hc hw _ _ _).1 (fun r1 e1 => ?_))
      rw [if_pos e1]
      refine wp_bind (wp_mono (ofWord_ok hN hb hc hw _ _ _).2.1 (fun r2 e2 => ?_))
      rw [q_ck (show 2 * w + 1 < 6 by omega) (by decide), if_pos e2]
      refine wp_bind (wp_mono (ofWord_ok hN hb hc hw _ _ _).2.2.1 (fun r3 e3 => ?_))
      rw [if_pos e3]
      refine wp_bind (wp_mono (ofWord_ok hN hb hc hw _ _ _).2.2.2.1 (fun r4 e4 => ?_))
      rw [lunseen_ok hN hb hq hw h7, Option.bind_some, if_pos e4]
      refine wp_bind (wp_mono (ofWord_ok hN hb hc hw _ _ _).2.2.2.2 (fun r5 e5 => ?_))
      rw [if_pos e5]
      refine wp_bind (wp_mono (prod_ok hN hb hc hw _ _ _).1 (fun r6 e6 => ?_))
      rw [e6, if_pos (lk_cmps _)]
      refine wp_bind (wp_mono (prod_ok hN hb hc hw _ _ _).2 (fun r7 e7 => ?_))
      rw [product_ok hN hb hq hw h7 t1, Option.bind_some, t2, e7, if_pos (lk_cmps _)]
      refine wp_bind (wp_mono (part_end hN hb hc hw _ _) (fun r8 e8 => ?_))
      rw [if_pos e8, show nI (wL b w) - 1 = nI (wL b w - 1) from pk_sub (b := 1) h1, letter_ok hb hc hw (show wL b w - 1 < wL b w by omega), Option.bind_some]
      have hl := (wt_ok hb hw h7).2 (wL b w - 1) (by omega)
      have hm : wTx b w % 7 = wT b w (wL b w - 1) := by
        obtain ⟨m, hm⟩ : ∃ m, wL b w = m + 1 := ⟨wL b w - 1, by omega⟩
        have e := cod_mod7 (a := wT b w) (n := m) (by rw [show m = wL b w - 1 by omega]; exact hl.2)
        unfold wTx
        rw [hm, e]
        rfl
      have hx : nI (wTx b w) - nI (wTx b w) / 7 * 7 - 1 = nI (wT b w (wL b w - 1) - 1) := by
        rw [show (7 : Int32) = nI 7 from rfl, pk_rem (a := wTx b w) (d := 7) (by omega) (by decide) (by decide)]
        show nI (wTx b w % 7) - nI 1 = _
        rw [hm, pk_sub hl.1]
      rw [hx, if_pos rfl, q_ck (show 2 * w + 1 < 6 by omega) (by decide), q_bd, Option.bind_some, q_ck (show 2 * w + 1 < 6 by omega) (by decide), q_bd, q_ck (show 2 * w + 1 < 6 by omega) (by decide), q_bd, pk_mul, pk_mul, pk_mul, nI_add, nI_add, nI_add, nI_1]
      exact same_L12 hN hb hc hq hr hK f (w + 1) _ _ _ (by omega) (by omega)
theorem same_L424 (hN : 200 < N) (hb : OKb b) (hc : CR ct b) (hq : QP ra rb b) (hr : QW rc b) {p : Nat} (hp : p < b 0) {x6 x7 x8 : Int32} {bc : BV} {bn cw rd re : Nat → Int32} {K : Int32 → LV → AV → Option SO} {P : SO → Prop} (hK : ∀ lt ac, wp (K (be b p (b 1)) lt ac) P) : ∀ (f w : Nat) (lt : LV) (ac : AV), w ≤ b 1 → b 1 - w < f → wp (f_L_same_L424 N ct hi pd ra rb rc x6 x7 x8 (nI p) bc bn cw rd re K f (be b p w) (nI w) lt ac) P
  | 0, _, _, _, _, h => by omega
  | f + 1, w, lt, ac, hw0, hf => by
    have h3 := hr.1
    rw [f_L_same_L424, q_ck1 (by decide) (by decide), show ra ((1 : Int32).toNatClampNeg) = nI (b 1) from hq.2.1]
    by_cases g : b 1 ≤ w
    · rw [if_pos (nI_le g (by omega)), show w = b 1 by omega]
      exact hK lt ac
    · have hw : w < b 1 := by omega
      obtain ⟨h7, a2, a3⟩ := hr.2 w hw
      rw [if_neg (nI_ge hw (by omega)), show (2 : Int32) = nI 2 from rfl, pk_mul, nI_1 (2 * w), q_ck (show 2 * w < 6 by omega) (by decide), nI_clamp (show 2 * w < 2 ^ 31 by omega), nI_clamp (show 2 * w + 1 < 2 ^ 31 by omega), a2, a3, lshare_ok hN hb hq hw h7 hp, Option.bind_some, q_ck (show 2 * w + 1 < 6 by omega) (by decide), q_bd]
      refine wp_bind (wp_mono (cshare_ok hN hb hc hw hp lt ac) (fun r e => ?_))
      have eb : be b p w + shr b w p * nI (wC b w) = be b p (w + 1) := by
        rw [Int32.mul_comm]
        rfl
      rw [if_pos e, eb, nI_1]
      exact same_L424 hN hb hc hq hr hp hK f (w + 1) r.2.1 r.2.2 (by omega) (by omega)
set_option maxHeartbeats 1000000 in
theorem same_L410 (hN : 200 < N) (hb : OKb b) (hc : CR ct b) (hq : QP ra rb b) (hr : QW rc b) {x6 x7 x8 : Int32} {K : LV → BV → AV → (Nat → Int32) → (Nat → Int32) → (Nat → Int32) → (Nat → Int32) → Option SO} {P : SO → Prop} (hK : ∀ lt bc ac bn cw rd re, wp (K lt bc ac bn cw rd re) P) : ∀ (f p : Nat) (lt : LV) (bc : BV) (ac : AV) (bn cw rd re : Nat → Int32), p ≤ b 0 → b 0 - p < f → wp (f_L_same_L410 N ct hi pd ra rb rc x6 x7 x8 K f (nI p) lt bc ac bn cw rd re) P
  | 0, _, _, _, _, _, _, _, _, _, h => by omega
  | f + 1, p, lt, bc, ac, bn, cw, rd, re, hp0, hf => by
    have h8 := hq.2.2.1
    have h3 := hr.1
    rw [f_L_same_L410, q_ck0 (by decide) (by decide), show ra ((0 : Int32).toNatClampNeg) = nI (b 0) from hq.1]
    by_cases g : b 0 ≤ p
    · rw [if_pos (nI_le g (by omega))]
      exact hK lt bc ac bn cw rd re
    · have hp : p < b 0 := by omega
      obtain ⟨a2, a3⟩ := hq.2.2.2 p hp
      have hv := hb.2.2.1 p hp
      rw [if_neg (nI_ge hp (by omega))]
      refine same_L424 (N := N) hN hb hc hq hr hp (fun lt ac => ?_) N 0 lt ac (Nat.zero_le _) (by omega)
      rw [show (2 : Int32) * nI p = nI (2 * p) from pk_mul 2 p, nI_1 (2 * p), nI_clamp (show 2 * p < 2 ^ 31 by omega), nI_clamp (show 2 * p + 1 < 2 ^ 31 by omega), a2, a3]
      refine wp_bind (wp_mono (ofPiece_ok hN hb hc hp _ _ _ _ _).1 (fun r1 e1 => ?_))
      rw [q_ck (show 2 * p < 16 by omega) (by decide), show f_L_size N (nI (pTx b p)) = some (nI (pL b p)) from size_ok hN (pt_ok hb hp), Option.bind_some, if_pos e1]
      refine wp_bind (wp_mono (ofPiece_ok hN hb hc hp _ _ _ _ _).2.1 (fun r2 e2 => ?_))
      rw [q_ck (show 2 * p + 1 < 16 by omega) (by decide), if_pos e2]
      refine wp_bind (wp_mono (ofPiece_ok hN hb hc hp _ _ _ _ _).2.2.1 (fun r3 e3 => ?_))
      have es : f_L_some N (nI (pTx b p)) 0 1 = some (nI (pT b p 0)) := by
        have e := some_ok (N := N) hN (pt_ok hb hp) (i := 0) (L := 1) (by omega)
        have e9 : cod 7 (fun k => pT b p (0 + k)) 1 = pT b p 0 := by
          show 0 + pT b p 0 = pT b p 0
          exact Nat.zero_add _
        rw [e9] at e
        exact e
      rw [q_ck (show 2 * p < 16 by omega) (by decide), es, Option.bind_some, show nI (pT b p 0) - 1 = nI (pT b p 0 - 1) from pk_sub (b := 1) (hv.2.2.2.2 0 (by omega)).1, if_pos e3]
      refine wp_bind (wp_mono (ofPiece_ok hN hb hc hp _ _ _ _ _).2.2.2.1 (fun r4 e4 => ?_))
      refine wp_bind (wp_mono (loss_ok hN hb hq hr rd re hp) (fun r5 e5 => ?_))
      rw [e5, if_pos e4]
      refine wp_bind (wp_mono (ofPiece_ok hN hb hc hp _ _ _ _ _).2.2.2.2 (fun r6 e6 => ?_))
      rw [if_pos e6, nI_1]
      exact same_L410 hN hb hc hq hr hK f (p + 1) _ _ _ _ _ _ _ (by omega) (by omega)
theorem same_ok (hN : 200 < N) (hb : OKb b) (hc : CR ct b) (hq : QP ra rb b) (hr : QW rc b) (lt : LV) (bc : BV) (ac : AV) (bn cw rd re : Nat → Int32) : wp (f_L_same N ct hi pd lt bc ac bn cw ra rb rd re rc) (fun r => r.1 = 1) := by
  have h8 := hq.2.2.1
  have h3 := hr.1
  unfold f_L_same
  refine same_L12 (N := N) hN hb hc hq hr (fun lt bc ac => ?_) N 0 lt bc ac (Nat.zero_le _) (by omega)
  refine same_L410 (N := N) hN hb hc hq hr (fun lt bc ac bn cw rd re => ?_) N 0 lt bc ac bn cw rd re (Nat.zero_le _) (by omega)
  refine wp_bind (wp_mono (cleast_ok hN hb hc lt bc cw) (fun r1 e1 => ?_))
  refine wp_bind (wp_mono (least_ok hN hb hq hr rd re) (fun r2 e2 => ?_))
  rw [if_pos (e1.trans e2.symm)]
  refine wp_bind (wp_mono (count_ok hN hb hc hi pd _ _).1 (fun r3 e3 => ?_))
  rw [q_ck0 (by decide) (by decide), if_pos (show r3.1 = ra ((0 : Int32).toNatClampNeg) from e3.trans hq.1.symm)]
  refine wp_bind (wp_mono (count_ok hN hb hc hi pd _ _).2.1 (fun r4 e4 => ?_))
  rw [q_ck1 (by decide) (by decide), if_pos (show r4.1 = ra ((1 : Int32).toNatClampNeg) from e4.trans hq.2.1.symm)]
  refine wp_bind (wp_mono (count_ok hN hb hc hi pd _ _).2.2.1 (fun r5 e5 => ?_))
  rw [nI_add, ← cost_pu, if_pos e5]
  refine wp_bind (wp_mono (count_ok hN hb hc hi pd _ _).2.2.2.1 (fun r6 e6 => ?_))
  rw [if_pos e6]
  refine wp_bind (wp_mono (count_ok hN hb hc hi pd _ _).2.2.2.2.1 (fun r7 e7 => ?_))
  rw [if_pos e7]
  refine wp_bind (wp_mono (count_ok hN hb hc hi pd _ _).2.2.2.2.2 (fun r8 e8 => ?_))
  rw [if_pos e8]
  exact ⟨_, rfl, rfl⟩
end same_
