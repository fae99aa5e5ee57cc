/-! THE LAW'S ROWS AND THE BOOK, action by action -/
theorem QW_hi {rc : Nat → Int32} {b b' : bk} (h : QW rc b) (h1 : b' 1 = b 1) (hh : ∀ k, 98 ≤ k → b' k = b k) : QW rc b' := by
  refine ⟨by rw [h1]; exact h.1, fun w hw => ?_⟩
  rw [h1] at hw
  have e1 : wL b' w = wL b w := hh _ (by omega)
  have e2 : wC b' w = wC b w := hh _ (by omega)
  have e3 : wTx b' w = wTx b w := by
    unfold wTx
    rw [e1]
    exact cod_congr _ (fun k _ => hh _ (by omega))
  rw [e1, e2, e3]
  exact h.2 w hw
theorem QP_lo {ra ra' rb : Nat → Int32} {b b' : bk} (hb : OKb b) (h : QP ra rb b) (h0 : ∀ k, k ≠ 1 → k < 98 → b' k = b k) (e0 : ra' 0 = ra 0) (e1 : ra' 1 = nI (b' 1)) : QP ra' rb b' := by
  have h8 := h.2.2.1
  have z0 : b' 0 = b 0 := h0 0 (by decide) (by decide)
  refine ⟨by rw [e0, z0]; exact h.1, e1, by rw [z0]; exact h8, fun p hp => ?_⟩
  rw [z0] at hp
  have hv := (hb.2.2.1 p hp).2.1
  have e2 : pW b' p = pW b p := h0 _ (by omega) (by omega)
  have e3 : pTx b' p = pTx b p := by
    unfold pTx
    rw [show pL b' p = pL b p from h0 _ (by omega) (by omega)]
    exact cod_congr _ (fun k hk => h0 _ (by omega) (by omega))
  rw [e2, e3]
  exact h.2.2.2 p hp
theorem QP_addB {ra rb : Nat → Int32} {b : bk} (hb : OKb b) (h : QP ra rb b) (h8 : b 0 < 8) {a : Nat → Nat} {n wt : Nat} (h4 : n ≤ 4) : QP (upd ra ((0 : Int32).toNatClampNeg) (nI (b 0 + 1))) (upd (upd rb (2 * b 0) (nI (cod 7 a n))) (2 * b 0 + 1) (nI wt)) (addB b a n wt) := by
  refine ⟨?_, ?_, ?_, fun p hp => ?_⟩
  · rw [addB_0]
    exact upd_s ra 0 _
  · rw [addB_1]
    exact (upd_o (f := ra) (k := 0) (j := 1) (by decide)).trans h.2.1
  · rw [addB_0]
    omega
  · rw [addB_0] at hp
    by_cases e : p = b 0
    · subst e
      have e3 : pTx (addB b a n wt) (b 0) = cod 7 a n := by
        unfold pTx
        rw [addB_L]
        exact cod_congr _ (fun k hk => by rw [addB_T (by omega), if_pos hk])
      rw [e3, addB_W]
      exact ⟨(upd_o (by omega)).trans (upd_s _ _ _), upd_s _ _ _⟩
    · have hp2 : p < b 0 := by omega
      have hv := (hb.2.2.1 p hp2).2.1
      have e3 : pTx (addB b a n wt) p = pTx b p := by
        unfold pTx
        rw [addB_pL hp2]
        exact cod_congr _ (fun k hk => addB_pT hp2 (by omega))
      rw [e3, addB_pW hp2]
      obtain ⟨g1, g2⟩ := h.2.2.2 p hp2
      exact ⟨(upd_o (by omega)).trans ((upd_o (by omega)).trans g1), (upd_o (by omega)).trans ((upd_o (by omega)).trans g2)⟩
theorem QP_wgB {ra rb : Nat → Int32} {b : bk} (hb : OKb b) (h : QP ra rb b) {p wt : Nat} (hp : p < b 0) : QP ra (upd rb (2 * p + 1) (nI wt)) (wgB b p wt) := by
  have h8 := h.2.2.1
  refine ⟨by rw [wgB_o (by omega)]; exact h.1, by rw [wgB_o (by omega)]; exact h.2.1, by rw [wgB_o (by omega)]; exact h8, fun q hq => ?_⟩
  rw [wgB_o (by omega)] at hq
  obtain ⟨g1, g2⟩ := h.2.2.2 q hq
  have e3 : pTx (wgB b p wt) q = pTx b q := by
    unfold pTx
    rw [show pL (wgB b p wt) q = pL b q from wgB_o (by omega)]
    have hv := (hb.2.2.1 q hq).2.1
    exact cod_congr _ (fun k hk => wgB_o (by omega))
  rw [e3]
  refine ⟨(upd_o (by omega)).trans g1, ?_⟩
  by_cases e : q = p
  · rw [e, wgB_s]
    exact upd_s _ _ _
  · rw [wgB_W e]
    exact (upd_o (by omega)).trans g2
theorem QW_addW {rc : Nat → Int32} {b : bk} (h : QW rc b) (h3 : b 1 < 3) {a : Nat → Nat} {n m : Nat} (h7 : n ≤ 7) : QW (upd (upd rc (2 * b 1) (nI (cod 7 a n))) (2 * b 1 + 1) (nI m)) (addW b (fun k => 96 + a k) n m) := by
  refine ⟨by rw [addW_1]; omega, fun w hw => ?_⟩
  rw [addW_1] at hw
  by_cases e : w = b 1
  · subst e
    have e3 : wTx (addW b (fun k => 96 + a k) n m) (b 1) = cod 7 a n := by
      unfold wTx
      rw [addW_L]
      exact cod_congr _ (fun k hk => by rw [addW_T (by omega), if_pos hk, ltr_96])
    rw [e3, addW_L, addW_C]
    exact ⟨h7, (upd_o (by omega)).trans (upd_s _ _ _), upd_s _ _ _⟩
  · have hw2 : w < b 1 := by omega
    obtain ⟨g0, g1, g2⟩ := h.2 w hw2
    have e3 : wTx (addW b (fun k => 96 + a k) n m) w = wTx b w := by
      unfold wTx
      rw [addW_wL hw2]
      exact cod_congr _ (fun k hk => addW_wT hw2 (by omega))
    rw [e3, addW_wL hw2, addW_wC hw2]
    exact ⟨g0, (upd_o (by omega)).trans ((upd_o (by omega)).trans g1), (upd_o (by omega)).trans ((upd_o (by omega)).trans g2)⟩
theorem QW_frB {rc rc' : Nat → Int32} {b : bk} (h : QW rc b) {x : Nat} (h3 : b 1 = 3) (hr : ∀ j, rc' j = if 2 * x ≤ j ∧ j < 4 then rc (j + 2) else rc j) : QW rc' (frB b x) := by
  refine ⟨by rw [frB_1]; omega, fun w hw => ?_⟩
  rw [frB_1] at hw
  have hs := h.2 (shf x w) (shf_lt hw)
  have e3 : wTx (frB b x) w = wTx b (shf x w) := by
    unfold wTx
    rw [frB_L hw]
    exact cod_congr _ (fun k hk => frB_T hw (by omega))
  rw [e3, frB_L hw, frB_C hw, ← hs.2.1, ← hs.2.2, hr (2 * w), hr (2 * w + 1)]
  refine ⟨hs.1, ?_⟩
  unfold shf
  by_cases z : w < x
  · rw [if_pos z, if_neg (by omega), if_neg (by omega)]
    exact ⟨rfl, rfl⟩
  · rw [if_neg z, if_pos (by omega), if_pos (by omega)]
    exact ⟨congrArg rc (by omega), congrArg rc (by omega)⟩
/-! the law's inner loops -/
section lawloops_
variable {N L : Nat} {xs : Nat → Int32} {x7 x8 x11 x12 : Int32} {ct : CV} {hi : HV} {pd : PV} {lt : LV} {bc : BV} {ac : AV} {bn cw : Nat → Int32} {P : Int32 → Prop}
theorem law_L296 {ra rb rd re rc0 : Nat → Int32} {w : Nat} {K : (Nat → Int32) → Option Int32} (hK : ∀ rc, (∀ j, rc j = if 2 * w ≤ j ∧ j < 4 then rc0 (j + 2) else rc0 j) → wp (K rc) P) : ∀ (f k : Nat) (rc : Nat → Int32), 2 * w ≤ k → k ≤ 4 → 4 - k < f → (∀ j, rc j = if 2 * w ≤ j ∧ j < k then rc0 (j + 2) else rc0 j) → wp (f_L_law_L296 N L xs x7 x8 x11 x12 ct hi pd lt bc ac bn cw ra rb rd re K f (nI k) rc) P
  | 0, _, _, _, _, h, _ => by omega
  | f + 1, k, rc, h1, h2, h3, hI => by
    rw [f_L_law_L296]
    by_cases g : 4 ≤ k
    · rw [if_pos (show (4 : Int32) ≤ nI k from nI_le (a := 4) g (by omega))]
      rw [show k = 4 by omega] at hI
      exact hK rc hI
    · rw [if_neg (show ¬ (4 : Int32) ≤ nI k from nI_ge (b := 4) (by omega) (by decide)), show nI k + 2 = nI (k + 2) from nI_add k 2, q_ck (show k + 2 < 6 by omega) (by decide), q_ck (show k < 6 by omega) (by decide), nI_clamp (show k < 2 ^ 31 by omega), nI_clamp (show k + 2 < 2 ^ 31 by omega), nI_1]
      refine law_L296 hK f (k + 1) _ (by omega) (by omega) (by omega) (fun j => ?_)
      by_cases e : j = k
      · rw [e, if_pos ⟨h1, by omega⟩]
        refine (upd_s _ _ _).trans ?_
        rw [hI (k + 2), if_neg (by omega)]
      · refine (upd_o e).trans ?_
        rw [hI j]
        by_cases z : 2 * w ≤ j ∧ j < k
        · rw [if_pos z, if_pos ⟨z.1, by omega⟩]
        · rw [if_neg z, if_neg (fun y => z ⟨y.1, by omega⟩)]
theorem law_L671 (hN : 200 < N) {rc : Nat → Int32} {t : Nat} (ht : t < 9) {K : Int32 → (Nat → Int32) → (Nat → Int32) → (Nat → Int32) → (Nat → Int32) → Option Int32} : ∀ (d f n : Nat) (b : bk) (ra rb rd re : Nat → Int32), OKb b → QP ra rb b → QW rc b → b 0 - t = d → d < f → (∀ ra rb rd re, QP ra rb (shrB b t d) → QW rc (shrB b t d) → wp (K (nI (n + d)) ra rb rd re) P) → wp (f_L_law_L671 N L xs x7 x8 (nI t) ct hi pd lt bc ac bn cw rc K f (nI n) ra rb rd re) P
  | _, 0, _, _, _, _, _, _, _, _, _, _, h, _ => by omega
  | 0, f + 1, n, b, ra, rb, rd, re, hb, hq, hr, hd, _, hK => by
    have h8 := hq.2.2.1
    rw [f_L_law_L671, q_ck0 (by decide) (by decide), show ra ((0 : Int32).toNatClampNeg) = nI (b 0) from hq.1, if_pos (nI_le (show b 0 ≤ t by omega) (by omega))]
    exact hK ra rb rd re hq hr
  | d + 1, f + 1, n, b, ra, rb, rd, re, hb, hq, hr, hd, hf, hK => by
    have h8 := hq.2.2.1
    obtain ⟨x, x1, x2, x3, x4⟩ := shrB_step hb hd
    rw [f_L_law_L671, q_ck0 (by decide) (by decide), show ra ((0 : Int32).toNatClampNeg) = nI (b 0) from hq.1, if_neg (nI_ge (show t < b 0 by omega) (by omega))]
    refine wp_bind (wp_mono (least_ok hN hb hq hr rd re) (fun r hr1 => ?_))
    rw [hr1, x2, show oI (-6) (some x) = nI x from rfl]
    refine wp_bind (wp_mono (ldrop_ok hN hb hq x1) (fun r2 hr2 => ?_))
    rw [nI_1]
    refine law_L671 hN ht d f (n + 1) (drpB b x) r2.1 r2.2 r.2.1 r.2.2 (drpB_ok hb x1) hr2 (drpB_QW hb hr x) x4 (by omega) (fun ra rb rd re h1 h2 => ?_)
    rw [← x3] at h1 h2
    have := hK ra rb rd re h1 h2
    rw [show n + 1 + d = n + (d + 1) by omega]
    exact this
theorem law_L488 (hN : 200 < N) {ra rb rd rc re0 : Nat → Int32} {b : bk} (hb : OKb b) (hq : QP ra rb b) (hr : QW rc b) {p : Nat} (hp : p < b 0) {K : (Nat → Int32) → Option Int32} (hK : ∀ re, re p = be b p (b 1) → (∀ q, q ≠ p → re q = re0 q) → wp (K re) P) : ∀ (f w : Nat) (re : Nat → Int32), w ≤ b 1 → b 1 - w < f → re p = be b p w → (∀ q, q ≠ p → re q = re0 q) → wp (f_L_law_L488 N L xs x7 x8 x11 x12 (nI p) ct hi pd lt bc ac bn cw ra rb rd rc K f (nI w) re) P
  | 0, _, _, _, h, _, _ => by omega
  | f + 1, w, re, h1, h2, e1, e2 => by
    have h8 := hq.2.2.1
    have h3 := hr.1
    rw [f_L_law_L488, q_ck1 (by decide) (by decide), show ra ((1 : Int32).toNatClampNeg) = nI (b 1) from hq.2.1]
    by_cases g : b 1 ≤ w
    · rw [if_pos (nI_le g (by omega))]
      exact hK re (by rw [e1, show w = b 1 by omega]) e2
    · have hw : w < b 1 := by omega
      obtain ⟨h7, a2, a3⟩ := hr.2 w hw
      rw [if_neg (nI_ge hw (by omega)), show (2 : Int32) = nI 2 from rfl, pk_mul, nI_1 (2 * w), q_ck (show p < 16 by omega) (by decide), q_ck (show 2 * w + 1 < 6 by omega) (by decide), q_ck (show 2 * w < 6 by omega) (by decide), nI_clamp (show 2 * w < 2 ^ 31 by omega), nI_clamp (show 2 * w + 1 < 2 ^ 31 by omega), nI_clamp (show p < 2 ^ 31 by omega), a2, a3, lshare_ok hN hb hq hw h7 hp, Option.bind_some, q_ck (show p < 16 by omega) (by decide), nI_1, e1]
      refine law_L488 hN hb hq hr hp hK f (w + 1) _ (by omega) (by omega) (upd_s _ _ _) (fun q hne => (upd_o hne).trans (e2 q hne))
theorem law_L471 (hN : 200 < N) {ra rb rd rc : Nat → Int32} {b : bk} (hb : OKb b) (hq : QP ra rb b) (hr : QW rc b) {K : Int32 → (Nat → Int32) → Option Int32} (hK : ∀ re, (∀ q, q < b 0 → re q = nI (bb b q)) → wp (K (nI (gm b (b 0))) re) P) : ∀ (f p : Nat) (re : Nat → Int32), p ≤ b 0 → b 0 - p < f → (∀ q, q < p → re q = nI (bb b q)) → wp (f_L_law_L471 N L xs x7 x8 x12 ct hi pd lt bc ac bn cw ra rb rd rc K f (nI (gm b p)) (nI p) re) P
  | 0, _, _, _, h, _ => by omega
  | f + 1, p, re, h1, h2, hI => by
    have h8 := hq.2.2.1
    have h3 := hr.1
    rw [f_L_law_L471, q_ck0 (by decide) (by decide), show ra ((0 : Int32).toNatClampNeg) = nI (b 0) from hq.1]
    by_cases g : b 0 ≤ p
    · rw [if_pos (nI_le g (by omega)), show p = b 0 by omega]
      exact hK re (fun q hq => hI q (by omega))
    · have hp : p < b 0 := by omega
      have hbb := bb_le hb hp
      have hgm := gm_le hb p (by omega)
      rw [if_neg (nI_ge hp (by omega)), q_ck (show p < 16 by omega) (by decide), nI_clamp (show p < 2 ^ 31 by omega)]
      refine law_L488 (N := N) hN hb hq hr hp (re0 := re) (fun re2 e1 e2 => ?_) N 0 _ (Nat.zero_le _) (by omega) (upd_s _ _ _) (fun q hne => upd_o hne)
      have e3 : re2 p = nI (bb b p) := e1.trans hbb.1
      have hI2 : ∀ q, q < p + 1 → re2 q = nI (bb b q) := fun q hq => by
        by_cases z : q = p
        · rw [z]; exact e3
        · exact (e2 q z).trans (hI q (by omega))
      have eg : gm b (p + 1) = if gm b p < bb b p then bb b p else gm b p := rfl
      rw [q_ck (show p < 16 by omega) (by decide), e3]
      by_cases z : bb b p ≤ gm b p
      · rw [if_pos (nI_le z (by omega)), nI_1]
        rw [if_neg (by omega)] at eg
        rw [← eg]
        exact law_L471 hN hb hq hr hK f (p + 1) re2 (by omega) (by omega) hI2
      · rw [if_neg (nI_ge (show gm b p < bb b p by omega) (by omega)), q_ck (show p < 16 by omega) (by decide), q_bd, nI_1]
        rw [if_pos (by omega)] at eg
        rw [← eg]
        exact law_L471 hN hb hq hr hK f (p + 1) re2 (by omega) (by omega) hI2
theorem law_L565 {ra rd re rc rb0 : Nat → Int32} {b : bk} (hb : OKb b) (hq : QP ra rb0 b) (hre : ∀ q, q < b 0 → re q = nI (bb b q)) {K : Int32 → (Nat → Int32) → Option Int32} (hK : ∀ rb, (∀ q, q < b 0 → rb (2 * q) = nI (pTx b q) ∧ rb (2 * q + 1) = nI (tnW b q)) → wp (K (nI (tc b (b 0))) rb) P) : ∀ (f p : Nat) (rb : Nat → Int32), p ≤ b 0 → b 0 - p < f → (∀ q, q < p → rb (2 * q) = nI (pTx b q) ∧ rb (2 * q + 1) = nI (tnW b q)) → (∀ q, p ≤ q → q < b 0 → rb (2 * q) = nI (pTx b q) ∧ rb (2 * q + 1) = nI (pW b q)) → wp (f_L_law_L565 N L xs x7 x8 (nI (gm b (b 0))) ct hi pd lt bc ac bn cw ra rd re rc K f (nI (tc b p)) (nI p) rb) P
  | 0, _, _, _, h, _, _ => by omega
  | f + 1, p, rb, h1, h2, hA, hB => by
    have h8 := hq.2.2.1
    rw [f_L_law_L565, q_ck0 (by decide) (by decide), show ra ((0 : Int32).toNatClampNeg) = nI (b 0) from hq.1]
    by_cases g : b 0 ≤ p
    · rw [if_pos (nI_le g (by omega)), show p = b 0 by omega]
      exact hK rb (fun q hq => hA q (by omega))
    · have hp : p < b 0 := by omega
      have hbb := (bb_le hb hp).2
      have hgm := gm_le hb (b 0) (Nat.le_refl _)
      have hw9 := tnW_le hp
      have hv := hb.2.2.1 p hp
      rw [if_neg (nI_ge hp (by omega)), show (2 : Int32) = nI 2 from rfl, pk_mul, nI_1 (2 * p), nI_clamp (show 2 * p + 1 < 2 ^ 31 by omega), (hB p (Nat.le_refl _) hp).2, nI_clamp (show p < 2 ^ 31 by omega), hre p hp]
      have go3 : wp (ck (nI (2 * p + 1)) 16 (jn (fun (s1_617 : Int32) => bd (nI (tc b p) + s1_617) (fun (x12_5 : Int32) => ck (nI (2 * p + 1)) 16 (f_L_law_L565 N L xs x7 x8 (nI (gm b (b 0))) ct hi pd lt bc ac bn cw ra rd re rc K f x12_5 (nI p + 1) (upd rb (2 * p + 1) (nI (tnW b p)))))) (fun (J617 : Int32 → Option (Int32)) => if nI (tnW b p) = nI (pW b p) then J617 0 else J617 1))) P := by
        have key : wp (f_L_law_L565 N L xs x7 x8 (nI (gm b (b 0))) ct hi pd lt bc ac bn cw ra rd re rc K f (nI (tc b (p + 1))) (nI (p + 1)) (upd rb (2 * p + 1) (nI (tnW b p)))) P := by
          refine law_L565 hb hq hre hK f (p + 1) _ (by omega) (by omega) (fun q hq => ?_) (fun q q1 q2 => ?_)
          · by_cases z : q = p
            · rw [z]
              exact ⟨(upd_o (by omega)).trans (hB p (Nat.le_refl _) hp).1, upd_s _ _ _⟩
            · obtain ⟨g1, g2⟩ := hA q (by omega)
              exact ⟨(upd_o (by omega)).trans g1, (upd_o (by omega)).trans g2⟩
          · obtain ⟨g1, g2⟩ := hB q (by omega) q2
            exact ⟨(upd_o (by omega)).trans g1, (upd_o (by omega)).trans g2⟩
        have et : tc b (p + 1) = tc b p + (if pW b p = tnW b p then 0 else 1) := rfl
        rw [q_ck (show 2 * p + 1 < 16 by omega) (by decide)]
        unfold jn
        dsimp only
        by_cases z : pW b p = tnW b p
        · rw [if_pos z] at et
          rw [if_pos (by rw [z]), q_bd, q_ck (show 2 * p + 1 < 16 by omega) (by decide), nI_1, i0, nI_add, ← et]
          exact key
        · rw [if_neg z] at et
          rw [if_neg (fun y => z (((nI_eq (by omega) (by omega)).1 y).symm)), q_bd, q_ck (show 2 * p + 1 < 16 by omega) (by decide), nI_1, nI_1, ← et]
          exact key
      unfold jn at go3 ⊢
      dsimp only at go3 ⊢
      by_cases z : gm b (b 0) = 0
      · have e : nI (tnW b p) = 1 := by
          unfold tnW
          rw [if_pos z]
          rfl
        rw [e] at go3
        rw [if_pos (show nI (gm b (b 0)) = 0 by rw [z]; rfl)]
        exact go3
      · have e : 1 + 8 * nI (bb b p) / nI (gm b (b 0)) = nI (tnW b p) := by
          unfold tnW
          rw [if_neg z, show (8 : Int32) = nI 8 from rfl, pk_mul, pk_div (by omega) (by omega) (by omega), q_1a]
        rw [if_neg (nI_ne0 (show 0 < gm b (b 0) by omega) (by omega)), q_ck (show p < 16 by omega) (by decide), q_nz (show 0 < gm b (b 0) by omega) (by omega), e]
        exact go3
end lawloops_
