/-! neighbours: which stand where; the class -/
abbrev pl (b : bk) (w k : Nat) : Nat := ps (W0 b w) (wL b w) k
abbrev lk (b : bk) (w k : Nat) : Nat := (bs (W0 b w) (wL b w) (pl b w k)).2.2
def gw (b : bk) (w k : Nat) : Nat := W0 b w (pl b w k) (lk b w k)
abbrev jo (b : bk) (w k : Nat) : Prop := lk b w k + lk b w (k + 1) ≤ 4 ∧ pc b w (pl b w k) (lk b w k + lk b w (k + 1)) = none
def en (b : bk) (w k : Nat) : EN := (w, pl b w k, lk b w k + lk b w (k + 1), if gw b w (k + 1) < gw b w k then gw b w (k + 1) else gw b w k)
def nW (b : bk) (w : Nat) : Nat → NS → NS
  | 0, s => s
  | k + 1, s => if jo b w k then psh (nW b w k s) (en b w k) else nW b w k s
def nA (b : bk) : Nat → NS
  | 0 => (0, fun _ => (0, 0, 0, 0))
  | w + 1 => nW b w (nP b w none - 1) (nA b w)
theorem bs_W {W : Nat → Nat → Nat} {n i : Nat} (hW : okW W n) (hn : n ≤ 12) (hi : i < n) : 0 < W i (bs W n i).2.2 := by
  obtain ⟨M, m1, m2, m3, m4⟩ := bsL_ex (n := n) (hW.1 i hi) (bs_P hW hn (show i + 1 ≤ n by omega)).1 (ml n i - 1)
  have hm := ml_pos hi
  rw [show ml n i - 1 + 1 = ml n i by omega, ← bs_i hi] at m4
  rw [m4]
  exact m3
theorem pr_ok {b : bk} (hb : OKb b) {w k : Nat} (hw : w < b 1) (hk : k < nP b w none) : pl b w k < wL b w ∧ 1 ≤ lk b w k ∧ lk b w k ≤ 4 ∧ pl b w k + lk b w k ≤ wL b w ∧ 1 ≤ gw b w k ∧ gw b w k ≤ 9 := by
  have hW : okW (W0 b w) (wL b w) := Wf_ok hb w none
  have hv := hb.2.2.2.1 w hw
  have hlt : pl b w k < wL b w := ps_lt hW hk
  obtain ⟨f1, f2, f3⟩ := bs_F hW hlt
  have hm := ml_le (n := wL b w) (i := pl b w k)
  have hg := bs_W hW hv.2.1 hlt
  have h9 := hW.2 (pl b w k) (lk b w k)
  have f2' : lk b w k ≤ ml (wL b w) (pl b w k) := f2
  exact ⟨hlt, f1, by omega, by omega, hg, h9⟩
theorem pl_s (b : bk) (w k : Nat) : pl b w (k + 1) = pl b w k + lk b w k := rfl
theorem nP_1 {b : bk} (hb : OKb b) {w : Nat} (hw : w < b 1) : 1 ≤ nP b w none := by
  have hW : okW (W0 b w) (wL b w) := Wf_ok hb w none
  have hv := hb.2.2.2.1 w hw
  have h := (bs_F hW (show 0 < wL b w by omega)).2.2
  show 1 ≤ (bs (W0 b w) (wL b w) 0).2.1
  omega
theorem VE_en {b : bk} (hb : OKb b) {w k : Nat} (hw : w < b 1) (hk : k + 1 < nP b w none) (hj : jo b w k) : VE b (en b w k) := by
  obtain ⟨a1, a2, a3, a4, a5, a6⟩ := pr_ok hb hw (show k < nP b w none by omega)
  obtain ⟨c1, c2, c3, c4, c5, c6⟩ := pr_ok hb hw hk
  have e := pl_s b w k
  refine ⟨hw, ?_, hj.1, ?_, ?_, ?_, hj.2⟩
  · show 1 ≤ lk b w k + lk b w (k + 1)
    omega
  · show pl b w k + (lk b w k + lk b w (k + 1)) ≤ wL b w
    omega
  · show 1 ≤ (if gw b w (k + 1) < gw b w k then gw b w (k + 1) else gw b w k)
    split <;> omega
  · show (if gw b w (k + 1) < gw b w k then gw b w (k + 1) else gw b w k) ≤ 9
    split <;> omega
theorem psh_ok {b : bk} {s : NS} {e : EN} (h : SV2 b s) (he : VE b e) : SV2 b (psh s e) := fun k hk => by
  have hk2 : k < s.1 + 1 := hk
  by_cases g : k = s.1
  · rw [g, psh_at]; exact he
  · rw [psh_lt (show k < s.1 by omega)]
    exact h k (by omega)
theorem nW_ok {b : bk} (hb : OKb b) {w : Nat} (hw : w < b 1) {s : NS} (h : SV2 b s) : ∀ k, k + 1 ≤ nP b w none → SV2 b (nW b w k s) ∧ (nW b w k s).1 ≤ s.1 + k
  | 0, _ => ⟨h, Nat.le_refl _⟩
  | k + 1, hk => by
    obtain ⟨h1, h2⟩ := nW_ok hb hw h k (by omega)
    show SV2 b (if jo b w k then psh (nW b w k s) (en b w k) else nW b w k s) ∧ (if jo b w k then psh (nW b w k s) (en b w k) else nW b w k s).1 ≤ s.1 + (k + 1)
    by_cases g : jo b w k
    · rw [if_pos g]
      exact ⟨psh_ok h1 (VE_en hb hw (by omega) g), show (nW b w k s).1 + 1 ≤ _ by omega⟩
    · rw [if_neg g]
      exact ⟨h1, by omega⟩
theorem nA_ok {b : bk} (hb : OKb b) : ∀ w, w ≤ b 1 → SV2 b (nA b w) ∧ (nA b w).1 ≤ 11 * w
  | 0, _ => ⟨fun k hk => absurd hk (Nat.not_lt_zero k), Nat.le_refl _⟩
  | w + 1, hw => by
    obtain ⟨h1, h2⟩ := nA_ok hb w (by omega)
    have hv := hb.2.2.2.1 w (by omega)
    have hn := nP_le hb (w := w) none
    have h0 := nP_1 hb (show w < b 1 by omega)
    obtain ⟨g1, g2⟩ := nW_ok hb (show w < b 1 by omega) h1 (nP b w none - 1) (by omega)
    exact ⟨g1, show (nW b w (nP b w none - 1) (nA b w)).1 ≤ _ by omega⟩
theorem partWeight_ok {N : Nat} {ct : CV} {b : bk} (hb : OKb b) (hc : CR ct b) {w : Nat} (hw : w < b 1) {bc : BV} (hB : BO b w none bc) {k : Nat} (hk : k < nP b w none) : f_X7_partWeight N ct bc (nI k) = some (nI (gw b w k)) := by
  have hv := hb.2.2.2.1 w hw
  have h16 := hb.1
  have hn := nP_le hb (w := w) none
  have hg := (pr_ok hb hw hk).2.2.2.2.1
  have eg : gw b w k = wgt b (pp b w none k) (lk b w k) := rfl
  unfold f_X7_partWeight
  rw [q_ck (show k < 12 by omega) (by decide), nI_clamp (show k < 2 ^ 31 by omega), (hB.2.2.2 k hk).1, q_bd]
  rw [eg] at hg ⊢
  cases e : pp b w none k with
  | none =>
    rw [e] at hg
    rw [if_pos (show oI (-1) none = -1 from rfl)]
    have h1 : wgt b none (lk b w k) = 1 := by
      show (if lk b w k = 1 then 1 else 0) = 1
      have hg2 : 1 ≤ (if lk b w k = 1 then 1 else 0) := hg
      by_cases q : lk b w k = 1
      · exact if_pos q
      · rw [if_neg q] at hg2
        omega
    rw [h1]
    rfl
  | some p =>
    have hp := pp_lt e
    rw [if_neg (fun q => by
      have g := q_nem1 (n := p) (by omega)
      rw [← g]
      exact q)]
    show ck (nI p) 16 (some (ct.2.2.2.1 (nI p).toNatClampNeg)) = some (nI (pW b p))
    rw [q_ck (show p < 16 by omega) (by decide), nI_clamp (show p < 2 ^ 31 by omega), (hc.2.2.1 p hp).2.2]
theorem fg_L32 {N : Nat} (hN : 100 < N) {ct : CV} {b : bk} (hb : OKb b) (hc : CR ct b) {w : Nat} (hw : w < b 1) {lt : LV} {bc : BV} (hl : LO b w lt) (hB : BO b w none bc) {s0 : NS} (hs0 : SV2 b s0) (hz0 : s0.1 ≤ 11 * w) {K : NV → Option (Int32 × LV × BV × NV)} {P : Int32 × LV × BV × NV → Prop} (hK : ∀ nb, (∃ z fi, NC nb b (nW b w (nP b w none - 1) s0) z fi) → wp (K nb) P) :
    ∀ (f k : Nat) (nb : NV), k + 1 ≤ nP b w none → nP b w none - k < f → (∃ z fi, NC nb b (nW b w k s0) z fi) → wp (f_X7_findGrowing_L32 N ct (nI w) lt bc K f (nI k) nb) P
  | 0, _, _, _, h, _ => by omega
  | f + 1, k, nb, h1, h2, h3 => by
    have hv := hb.2.2.2.1 w hw
    have h16 := hb.1
    have h8 := hb.2.1
    have hn := nP_le hb (w := w) none
    rw [f_X7_findGrowing_L32, hB.2.1, nI_1]
    by_cases h : k + 1 < nP b w none
    · obtain ⟨a1, a2, a3, a4, a5, a6⟩ := pr_ok hb hw (show k < nP b w none by omega)
      obtain ⟨c1, c2, c3, c4, c5, c6⟩ := pr_ok hb hw h
      have epl := pl_s b w k
      have hm := ml_le (n := wL b w) (i := pl b w k)
      have r1 := hB.2.2.2 k (by omega)
      have r2 := hB.2.2.2 (k + 1) h
      have hsz := nW_ok hb hw hs0 k (by omega)
      rw [if_neg (show ¬ nI (nP b w none) ≤ nI (k + 1) from nI_ge h (by omega)), q_ck (show k < 12 by omega) (by decide), nI_clamp (show k < 2 ^ 31 by omega), r1.2.1, q_bd, q_ck (show k < 12 by omega) (by decide), q_ck (show k + 1 < 12 by omega) (by decide), nI_clamp (show k + 1 < 2 ^ 31 by omega), r1.2.2, r2.2.2]
      show wp (bd (nI (lk b w k) + nI (lk b w (k + 1))) _) P
      rw [nI_add, q_bd]
      by_cases g4 : lk b w k + lk b w (k + 1) ≤ 4
      · obtain ⟨M, hM⟩ : ∃ M, lk b w k + lk b w (k + 1) = M + 1 := ⟨lk b w k + lk b w (k + 1) - 1, by omega⟩
        have hMl : M < ml (wL b w) (pl b w k) := by
          unfold ml
          split <;> omega
        have ho : ∀ p, pc b w (pl b w k) (M + 1) = some p → p < 16 := fun p hp => by have := (pc_lt hp).1; omega
        rw [if_neg (show ¬ (4 : Int32) < nI (lk b w k + lk b w (k + 1)) from nI_nlt (a := 4) g4 (by decide)), hM, pieceAt_ok hl hv.2.1 a1 hMl, Option.bind_some]
        by_cases e : pc b w (pl b w k) (M + 1) = none
        · have hj : jo b w k := ⟨g4, by rw [hM]; exact e⟩
          have es : nW b w (k + 1) s0 = psh (nW b w k s0) (en b w k) := if_pos hj
          obtain ⟨z, fi, hnc⟩ := h3
          rw [if_pos ((oI_m1 ho).mpr e), partWeight_ok hb hc hw hB (show k < nP b w none by omega), Option.bind_some, partWeight_ok hb hc hw hB h, Option.bind_some, q_min (by omega) (by omega), q_bd, textAt_ok hl hv.2.1 a1 hMl, Option.bind_some, q_ck (show w < 8 by omega) (by decide), nI_clamp (show w < 2 ^ 31 by omega), (hc.2.2.2 w hw).2.1, ← hM]
          refine wp_bind (wp_mono (nadd_ok (e := en b w k) hN hb hnc hsz.1 (VE_en hb hw h hj) (by omega)) (fun r hr => ?_))
          exact fg_L32 hN hb hc hw hl hB hs0 hz0 hK f (k + 1) r (by omega) (by omega) (by rw [es]; exact hr)
        · have es : nW b w (k + 1) s0 = nW b w k s0 := if_neg (fun q => e (by have := q.2; rw [hM] at this; exact this))
          rw [if_neg (fun q => e ((oI_m1 ho).mp q))]
          exact fg_L32 hN hb hc hw hl hB hs0 hz0 hK f (k + 1) nb (by omega) (by omega) (by rw [es]; exact h3)
      · have es : nW b w (k + 1) s0 = nW b w k s0 := if_neg (fun q => g4 q.1)
        rw [if_pos (show (4 : Int32) < nI (lk b w k + lk b w (k + 1)) from nI_lt (a := 4) (by omega) (by omega))]
        exact fg_L32 hN hb hc hw hl hB hs0 hz0 hK f (k + 1) nb (by omega) (by omega) (by rw [es]; exact h3)
    · have e : k = nP b w none - 1 := by omega
      rw [if_pos (show nI (nP b w none) ≤ nI (k + 1) from nI_le (by omega) (by omega))]
      exact hK nb (by rw [← e]; exact h3)
theorem fg_L10 {N : Nat} (hN : 100 < N) {ct : CV} {b : bk} (hb : OKb b) (hc : CR ct b) {K : LV → BV → NV → Option (Int32 × LV × BV × NV)} {P : Int32 × LV × BV × NV → Prop} (hK : ∀ lt bc nb, (∃ z fi, NC nb b (nA b (b 1)) z fi) → wp (K lt bc nb) P) :
    ∀ (f w : Nat) (lt : LV) (bc : BV) (nb : NV), w ≤ b 1 → b 1 - w < f → (∃ z fi, NC nb b (nA b w) z fi) → wp (f_X7_findGrowing_L10 N ct K f (nI w) lt bc nb) P
  | 0, _, _, _, _, _, h, _ => by omega
  | f + 1, w, lt, bc, nb, h1, h2, h3 => by
    have h8 := hb.2.1
    rw [f_X7_findGrowing_L10, hc.2.1]
    by_cases h : w < b 1
    · have hn := nP_le hb (w := w) none
      have hv := hb.2.2.2.1 w h
      obtain ⟨g1, g2⟩ := nA_ok hb w (by omega)
      rw [if_neg (show ¬ nI (b 1) ≤ nI w from nI_ge h (by omega)), nI_1]
      refine wp_bind (wp_mono (cutBest_ok (by omega) hb hc h lt bc) (fun r hr => ?_))
      exact fg_L32 hN hb hc h hr.1 hr.2 g1 g2 (fun nb2 hnb => fg_L10 hN hb hc hK f (w + 1) r.1 r.2 nb2 (by omega) (by omega) hnb) N 0 nb (nP_1 hb h) (by omega) h3
    · have e : w = b 1 := by omega
      subst e
      rw [if_pos (show nI (b 1) ≤ nI (b 1) from nI_le (Nat.le_refl _) (by omega))]
      exact hK lt bc nb h3
/-- the texts and how often they stand there, by the class's numbers -/
def tO (b : bk) (k : Nat) : Nat := tot b (nA b (b 1)).2 (c7 b ((nA b (b 1)).2 k)) (nA b (b 1)).1
def x7 (b : bk) (k : Nat) : Nat := c7 b ((nA b (b 1)).2 k)
def x8 (b : bk) (k : Nat) : Nat := c8 b ((nA b (b 1)).2 k)
theorem tO_le {b : bk} (hb : OKb b) (k : Nat) : tO b k ≤ 8712 := by
  have h8 := hb.2.1
  obtain ⟨g1, g2⟩ := nA_ok hb (b 1) (Nat.le_refl _)
  have g3 := tot_le hb (x := c7 b ((nA b (b 1)).2 k)) (nA b (b 1)).1 g1
  show tot b (nA b (b 1)).2 (c7 b ((nA b (b 1)).2 k)) (nA b (b 1)).1 ≤ 8712
  omega
theorem fG_ok {N : Nat} (hN : 100 < N) {ct : CV} {b : bk} (hb : OKb b) (hc : CR ct b) (lt : LV) (bc : BV) (nb : NV) : wp (f_X7_findGrowing N ct lt bc nb) (fun r => ∃ z fi, NC r.2.2.2 b (nA b (b 1)) z fi ∧ r.1 = oI (-1) (mf (fun i => tO b (fi i)) (fun i => x8 b (fi i)) z)) := by
  have h8 := hb.2.1
  unfold f_X7_findGrowing
  refine fg_L10 hN hb hc (fun lt bc nb h => ?_) N 0 lt bc _ (Nat.zero_le _) (by omega) ⟨0, fun _ => 0, Nat.le_refl _, rfl, fun i hi => absurd hi (Nat.not_lt_zero i), fun i j hi => absurd hi (Nat.not_lt_zero i), fun k hk => absurd hk (Nat.not_lt_zero k)⟩
  obtain ⟨z, fi, hnc⟩ := h
  obtain ⟨g1, g2⟩ := nA_ok hb (b 1) (Nat.le_refl _)
  have hz := hnc.1
  rw [mostF_ok hN hnc.2.1 (by omega) (T := fun i => tO b (fi i)) (X := fun i => x8 b (fi i)) (fun i hi => by
    obtain ⟨q1, q2, q3, q4, q5⟩ := hnc.2.2.1 i hi
    have q6 := tO_le hb (fi i)
    have q7 := c8_lt hb (g1 (fi i) q1)
    refine ⟨q5, by omega, q2, ?_⟩
    show c8 b ((nA b (b 1)).2 (fi i)) < 2 ^ 31
    omega), Option.bind_some]
  exact wp_some ⟨z, fi, hnc, rfl⟩
