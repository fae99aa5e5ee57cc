/-- shares -/
abbrev hit (b : bk) (w p i : Nat) : Prop := pL b p ≤ ml (wL b w) i ∧ pc b w i (pL b p) = some p
def tm (b : bk) (w p i : Nat) : Nat := aS (W0 b w) (wL b w) (wL b w) i * pW b p * bh (W0 b w) (wL b w) (i + pL b p)
def sN (b : bk) (w p : Nat) : Nat → Nat
  | 0 => 0
  | i + 1 => sN b w p i + (if hit b w p i then tm b w p i else 0)
def sP (b : bk) (w p i L : Nat) : Nat := if pL b p ≤ L ∧ pc b w i (pL b p) = some p then tm b w p i else 0
def shr (b : bk) (w p : Nat) : Int32 := ((1000 * lN (sN b w p (wL b w))) / lN (bh (W0 b w) (wL b w) 0)).toInt32
theorem share_L25 {N : Nat} {b : bk} (hb : OKb b) {w : Nat} (hw : w < b 1) {lt : LV} (h : LO b w lt) {ac : AV} (hA : AO b w ac) {p : Nat} (hp : p < b 0) {i : Nat} (hi : i < wL b w) {s0 : Nat} {K : Int64 → Option Int32} {P : Int32 → Prop} (hK : wp (K (lN (s0 + (if hit b w p i then tm b w p i else 0)))) P) :
    ∀ (f L : Nat), L ≤ ml (wL b w) i → ml (wL b w) i - L < f → wp (f_X0_shareOf_L25 N lt ac (nI p) (nI i) (nI (ml (wL b w) i)) K f (lN (s0 + sP b w p i L)) (nI (L + 1))) P
  | 0, _, h1, h2 => by omega
  | f + 1, L, h1, h2 => by
    have hv := hb.2.2.2.1 w hw
    have h16 := hb.1
    have hm := ml_le (n := wL b w) (i := i)
    have hW : W0 b w i (L + 1) ≤ 9 := (Wf_ok hb w none).2 i (L + 1)
    rw [f_X0_shareOf_L25]
    by_cases hL : L < ml (wL b w) i
    · have ho : ∀ p, pc b w i (L + 1) = some p → p < 16 := fun p hp => by have := (pc_lt hp).1; omega
      have e0 := oI_eq ho (q := some p) (fun q hq => by cases hq; omega)
      rw [if_neg (show ¬ nI (ml (wL b w) i) < nI (L + 1) from nI_nlt (by omega) (by omega)), pieceAt_ok h hv.2.1 hi hL, Option.bind_some, nI_1]
      by_cases c0 : pc b w i (L + 1) = some p
      · have hl : pL b p = L + 1 := (pc_lt c0).2.1
        have hw1 : W0 b w i (L + 1) = pW b p := by
          show wgt b (drp none (pc b w i (L + 1))) (L + 1) = pW b p
          rw [c0]
          rfl
        rw [if_pos (show oI (-1) (pc b w i (L + 1)) = nI p from e0.mpr c0), weight0_ok hb h hv.2.1 hi hL, Option.bind_some, q_ck (show i < 13 by omega) (by decide), nI_add, q_ck (show i + (L + 1) < 13 by omega) (by decide), q_bd, nI_clamp (show i + (L + 1) < 2 ^ 31 by omega), nI_clamp (show i < 2 ^ 31 by omega), q_toL (show W0 b w i (L + 1) < 2 ^ 31 by omega), hA.1 i (by omega), (hA.2 (i + (L + 1)) (by omega)).1, lN_mul, lN_mul, lN_add, hw1]
        have e1 : sP b w p i L = 0 := if_neg (fun e => by omega)
        have e2 : sP b w p i (L + 1) = tm b w p i := if_pos ⟨by omega, by rw [hl]; exact c0⟩
        have e3 : s0 + sP b w p i L + aS (W0 b w) (wL b w) (wL b w) i * pW b p * bh (W0 b w) (wL b w) (i + (L + 1)) = s0 + sP b w p i (L + 1) := by
          rw [e1, e2]
          unfold tm
          rw [hl, Nat.add_zero]
        rw [e3]
        exact share_L25 hb hw h hA hp hi hK f (L + 1) (by omega) (by omega)
      · rw [if_neg (show ¬ oI (-1) (pc b w i (L + 1)) = nI p from fun e => c0 (e0.mp e))]
        have e1 : sP b w p i L = sP b w p i (L + 1) := by
          unfold sP
          by_cases c1 : pL b p ≤ L + 1 ∧ pc b w i (pL b p) = some p
          · rw [if_pos c1, if_pos]
            refine ⟨?_, c1.2⟩
            rcases Nat.lt_or_ge L (pL b p) with g | g
            · have g2 : pL b p = L + 1 := by omega
              rw [g2] at c1
              exact absurd c1.2 c0
            · exact g
          · rw [if_neg c1, if_neg (fun e => c1 ⟨by omega, e.2⟩)]
        rw [e1]
        exact share_L25 hb hw h hA hp hi hK f (L + 1) (by omega) (by omega)
    · have e : L = ml (wL b w) i := by omega
      rw [if_pos (show nI (ml (wL b w) i) < nI (L + 1) from nI_lt (by omega) (by omega)), e]
      exact hK
theorem share_L5 {N : Nat} (hN : 16 < N) {b : bk} (hb : OKb b) {w : Nat} (hw : w < b 1) {lt : LV} (h : LO b w lt) {ac : AV} (hA : AO b w ac) {p : Nat} (hp : p < b 0) {K : Int64 → Option Int32} {P : Int32 → Prop} (hK : wp (K (lN (sN b w p (wL b w)))) P) :
    ∀ (f i : Nat), i ≤ wL b w → wL b w - i < f → wp (f_X0_shareOf_L5 N lt ac (nI p) K f (lN (sN b w p i)) (nI i)) P
  | 0, _, h1, h2 => by omega
  | f + 1, i, h1, h2 => by
    have hv := hb.2.2.2.1 w hw
    have hm := ml_le (n := wL b w) (i := i)
    rw [f_X0_shareOf_L5, h.1]
    by_cases hi : i < wL b w
    · rw [if_neg (show ¬ nI (wL b w) ≤ nI i from nI_ge hi (by omega)), most_ok h.1 hv.2.1 (by omega), Option.bind_some]
      have e0 : sP b w p i 0 = 0 := if_neg (fun e => by have := (hb.2.2.1 p hp).1; omega)
      have := share_L25 (N := N) hb hw h hA hp hi (s0 := sN b w p i) (K := fun x3_25 => f_X0_shareOf_L5 N lt ac (nI p) K f x3_25 (nI i + 1)) (P := P) (by rw [nI_1]; exact share_L5 hN hb hw h hA hp hK f (i + 1) (by omega) (by omega)) N 0 (Nat.zero_le _) (by omega)
      rw [e0, Nat.add_zero] at this
      exact this
    · have e : i = wL b w := by omega
      subst e
      rw [if_pos (show nI (wL b w) ≤ nI (wL b w) from nI_le (Nat.le_refl _) (by omega))]
      exact hK
theorem total_ok {N : Nat} {b : bk} {w : Nat} {ac : AV} (hA : AO b w ac) : f_X0_total N ac = some (lN (bh (W0 b w) (wL b w) 0)) := by
  unfold f_X0_total
  rw [q_ck0 (by decide) (by decide), show ((0 : Int32).toNatClampNeg) = 0 from rfl, (hA.2 0 (Nat.zero_le _)).1]
theorem shareOf_ok {N : Nat} (hN : 16 < N) {b : bk} (hb : OKb b) {w : Nat} (hw : w < b 1) {lt : LV} (h : LO b w lt) {ac : AV} (hA : AO b w ac) {p : Nat} (hp : p < b 0) : f_X0_shareOf N lt ac (nI p) = some (shr b w p) := by
  have hv := hb.2.2.2.1 w hw
  have hT : 1 ≤ bh (W0 b w) (wL b w) 0 ∧ bh (W0 b w) (wL b w) 0 ≤ 1000000000000 := bh_b (Wf_ok hb w none) hv.2.1 (Nat.zero_le (wL b w))
  have key : wp (f_X0_shareOf N lt ac (nI p)) (fun r => r = shr b w p) := by
    unfold f_X0_shareOf
    refine share_L5 hN hb hw h hA hp ?_ N 0 (Nat.zero_le _) (by omega)
    rw [total_ok hA, Option.bind_some, Option.bind_some, show (0 : Int64) = lN 0 from rfl, q_cmp (a := bh (W0 b w) (wL b w) 0) (b := 0) (show bh (W0 b w) (wL b w) 0 < 2 ^ 63 by omega) (by decide), if_pos (show 0 < bh (W0 b w) (wL b w) 0 by omega), if_neg (show ¬ (1 : Int32) ≤ 0 by decide), q_nzl (show 0 < bh (W0 b w) (wL b w) 0 by omega) (show bh (W0 b w) (wL b w) 0 < 2 ^ 63 by omega)]
    exact wp_some rfl
  obtain ⟨r, h1, h2⟩ := key
  rw [h1, h2]
