/-! neighbours: which stand where; the class -/
abbrev pl (b : bk) (w k : Nat) : Nat := ps (W0 b w) (wL b w) k
abbrev lk (b : bk) (w k : Nat) : Nat := (bs (W0 b w) (wL b w) (pl b w k)).2.2
def gw (b : bk) (w k : Nat) : Nat := W0 b w (pl b w k) (lk b w k)
abbrev jo (b : bk) (w k : Nat) : Prop := lk b w k + lk b w (k + 1) ≤ 4 ∧ pc b w (pl b w k) (lk b w k + lk b w (k + 1)) = none
def en (b : bk) (w k : Nat) : EN := (w, pl b w k, lk b w k + lk b w (k + 1), if gw b w (k + 1) < gw b w k then gw b w (k + 1) else gw b w k)
def nW (b : bk) (w : Nat) : Nat → NS → NS
  | 0, s => s
  | k + 1, s => if jo b w k then psh (nW b w k s) (en b w k) else nW b w k s
def nA (b : bk) : Nat → NS
  | 0 => (0, fun _ => (0, 0, 0, 0))
  | w + 1 => nW b w (nP b w none - 1) (nA b w)
theorem bs_W {W : Nat → Nat → Nat} {n i : Nat} (hW : okW W n) (hn : n ≤ 12) (hi : i < n) : 0 < W i (bs W n i).2.2 := by
  obtain ⟨M, m1, m2, m3, m4⟩ := bsL_ex (n := n) (hW.1 i hi) (bs_P hW hn (show i + 1 ≤ n by omega)).1 (ml n i - 1)
  have hm := ml_pos hi
  rw [show ml n i - 1 + 1 = ml n i by omega, ← bs_i hi] at m4
  rw [m4]
  exact m3
theorem pr_ok {b : bk} (hb : OKb b) {w k : Nat} (hw : w < b 1) (hk : k < nP b w none) : pl b w k < wL b w ∧ 1 ≤ lk b w k ∧ lk b w k ≤ 4 ∧ pl b w k + lk b w k ≤ wL b w ∧ 1 ≤ gw b w k ∧ gw b w k ≤ 9 := by
  have hW : okW (W0 b w) (wL b w) := Wf_ok hb w none
  have hv := hb.2.2.2.1 w hw
  have hlt : pl b w k < wL b w := ps_lt hW hk
  obtain ⟨f1, f2, f3⟩ := bs_F hW hlt
  have hm := ml_le (n := wL b w) (i := pl b w k)
  have hg := bs_W hW hv.2.1 hlt
  have h9 := hW.2 (pl b w k) (lk b w k)
  have f2' : lk b w k ≤ ml (wL b w) (pl b w k) := f2
  exact ⟨hlt, f1, by omega, by omega, hg, h9⟩
theorem pl_s (b : bk) (w k : Nat) : pl b w (k + 1) = pl b w k + lk b w k := rfl
theorem nP_1 {b : bk} (hb : OKb b) {w : Nat} (hw : w < b 1) : 1 ≤ nP b w none := by
  have hW : okW (W0 b w) (wL b w) := Wf_ok hb w none
  have hv := hb.2.2.2.1 w hw
  have h := (bs_F hW (show 0 < wL b w by omega)).2.2
  show 1 ≤ (bs (W0 b w) (wL b w) 0).2.1
  omega
theorem VE_en {b : bk} (hb : OKb b) {w k : Nat} (hw : w < b 1) (hk : k + 1 < nP b w none) (hj : jo b w k) : VE b (en b w k) := by
  obtain ⟨a1, a2, a3, a4, a5, a6⟩ := pr_ok hb hw (show k < nP b w none by omega)
  obtain ⟨c1, c2, c3, c4, c5, c6⟩ := pr_ok hb hw hk
  have e := pl_s b w k
  refine ⟨hw, ?_, hj.1, ?_, ?_, ?_, hj.2⟩
  · show 1 ≤ lk b w k + lk b w (k + 1)
    omega
  · show pl b w k + (lk b w k + lk b w (k + 1)) ≤ wL b w
    omega
  · show 1 ≤ (if gw b w (k + 1) < gw b w k then gw b w (k + 1) else gw b w k)
    split <;> omega
  · show (if gw b w (k + 1) < gw b w k then gw b w (k + 1) else gw b w k) ≤ 9
    split <;> omega
theorem psh_ok {b : bk} {s : NS} {e : EN} (h : SV2 b s) (he : VE b e) : SV2 b (psh s e) := fun k hk => by
  have hk2 : k < s.1 + 1 := hk
  by_cases g : k = s.1
  · rw [g, psh_at]; exact he
  · rw [psh_lt (show k < s.1 by omega)]
    exact h k (by omega)
theorem nW_ok {b : bk} (hb : OKb b) {w : Nat} (hw : w < b 1) {s : NS} (h : SV2 b s) : ∀ k, k + 1 ≤ nP b w none → SV2 b (nW b w k s) ∧ (nW b w k s).1 ≤ s.1 + k
  | 0, _ => ⟨h, Nat.le_refl _⟩
  | k + 1, hk => by
    obtain ⟨h1, h2⟩ := nW_ok hb hw h k (by omega)
    show SV2 b (if jo b w k then psh (nW b w k s) (en b w k) else nW b w k s) ∧ (if jo b w k then psh (nW b w k s) (en b w k) else nW b w k s).1 ≤ s.1 + (k + 1)
    by_cases g : jo b w k
    · rw [if_pos g]
      exact ⟨psh_ok h1 (VE_en hb hw (by omega) g), show (nW b w k s).1 + 1 ≤ _ by omega⟩
    · rw [if_neg g]
      exact ⟨h1, by omega⟩
theorem nA_ok {b : bk} (hb : OKb b) : ∀ w, w ≤ b 1 → SV2 b (nA b w) ∧ (nA b w).1 ≤ 11 * w
  | 0, _ => ⟨fun k hk => absurd hk (Nat.not_lt_zero k), Nat.le_refl _⟩
  | w + 1, hw => by
    obtain ⟨h1, h2⟩ := nA_ok hb w (by omega)
    have hv := hb.2.2.2.1 w (by omega)
    have hn := nP_le hb (w := w) none
    have h0 := nP_1 hb (show w < b 1 by omega)
    obtain ⟨g1, g2⟩ := nW_ok hb (show w < b 1 by omega) h1 (nP b w none - 1) (by omega)
    exact ⟨g1, show (nW b w (nP b w none - 1) (nA b w)).1 ≤ _ by omega⟩
/-- the texts and how often they stand there, by the class's numbers -/
def tO (b : bk) (k : Nat) : Nat := tot b (nA b (b 1)).2 (c7 b ((nA b (b 1)).2 k)) (nA b (b 1)).1
def x7 (b : bk) (k : Nat) : Nat := c7 b ((nA b (b 1)).2 k)
def x8 (b : bk) (k : Nat) : Nat := c8 b ((nA b (b 1)).2 k)
theorem tO_le {b : bk} (hb : OKb b) (k : Nat) : tO b k ≤ 8712 := by
  have h8 := hb.2.1
  obtain ⟨g1, g2⟩ := nA_ok hb (b 1) (Nat.le_refl _)
  have g3 := tot_le hb (x := c7 b ((nA b (b 1)).2 k)) (nA b (b 1)).1 g1
  show tot b (nA b (b 1)).2 (c7 b ((nA b (b 1)).2 k)) (nA b (b 1)).1 ≤ 8712
  omega
