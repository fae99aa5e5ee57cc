/-! a book with other weights, counts; with a word more or less -/
def wgB (b : bk) (p wt : Nat) : bk := fun k => if k = 3 + 6 * p then wt else b k
def rcB (b : bk) (w n : Nat) : bk := fun k => if k = 99 + 14 * w then n else b k
/-- two books of which all that counts is the same, but the weights of pieces and the counts of words -/
theorem OKb_of {b b' : bk} (hb : OKb b) (h0 : b' 0 = b 0) (h1 : b' 1 = b 1) (hL : ∀ p, p < b 0 → pL b' p = pL b p) (hT : ∀ p k, p < b 0 → k < 4 → pT b' p k = pT b p k) (hW : ∀ p, p < b 0 → 1 ≤ pW b' p ∧ pW b' p ≤ 9) (wl : ∀ w, w < b 1 → wL b' w = wL b w) (wc : ∀ w, w < b 1 → 1 ≤ wC b' w ∧ wC b' w ≤ 99) (wt : ∀ w k, w < b 1 → k < 12 → wT b' w k = wT b w k) : OKb b' := by
  refine ⟨by rw [h0]; exact hb.1, by rw [h1]; exact hb.2.1, fun p hp => ?_, fun w hw => ?_, fun p q hp hq e1 e2 => ?_⟩
  · rw [h0] at hp
    obtain ⟨g1, g2, -, -, g5⟩ := hb.2.2.1 p hp
    rw [hL p hp]
    exact ⟨g1, g2, (hW p hp).1, (hW p hp).2, fun k hk => by rw [hT p k hp (by omega)]; exact g5 k hk⟩
  · rw [h1] at hw
    obtain ⟨g1, g2, -, -, g5⟩ := hb.2.2.2.1 w hw
    rw [wl w hw]
    exact ⟨g1, g2, (wc w hw).1, (wc w hw).2, fun k hk => by rw [wt w k hw (by omega)]; exact g5 k hk⟩
  · rw [h0] at hp hq
    have hv := (hb.2.2.1 p hp).2.1
    rw [hL p hp] at e1 e2
    rw [hL q hq] at e1
    refine hb.2.2.2.2 p q hp hq e1 (fun k hk => ?_)
    have g := e2 k hk
    rw [hT p k hp (by omega), hT q k hq (by omega)] at g
    exact g
theorem wgB_o {b : bk} {p wt k : Nat} (h : k ≠ 3 + 6 * p) : wgB b p wt k = b k := if_neg h
theorem wgB_s (b : bk) (p wt : Nat) : pW (wgB b p wt) p = wt := if_pos rfl
theorem wgB_W {b : bk} {p q wt : Nat} (h : q ≠ p) : pW (wgB b p wt) q = pW b q := wgB_o (by omega)
theorem wgB_ok {b : bk} (hb : OKb b) {p wt : Nat} (hp : p < b 0) (h1 : 1 ≤ wt) (h9 : wt ≤ 9) : OKb (wgB b p wt) := by
  have h16 := hb.1
  refine OKb_of hb (wgB_o (by omega)) (wgB_o (by omega)) (fun q hq => wgB_o (by omega)) (fun q k hq hk => wgB_o (by omega)) (fun q hq => ?_) (fun w hw => wgB_o (by omega)) (fun w hw => ?_) (fun w k hw hk => wgB_o (by omega))
  · by_cases e : q = p
    · rw [e, wgB_s]; exact ⟨h1, h9⟩
    · rw [wgB_W e]
      have g := hb.2.2.1 q hq
      exact ⟨g.2.2.1, g.2.2.2.1⟩
  · rw [show wC (wgB b p wt) w = wC b w from wgB_o (by omega)]
    have g := hb.2.2.2.1 w hw
    exact ⟨g.2.2.1, g.2.2.2.1⟩
theorem rcB_o {b : bk} {w n k : Nat} (h : k ≠ 99 + 14 * w) : rcB b w n k = b k := if_neg h
theorem rcB_s (b : bk) (w n : Nat) : wC (rcB b w n) w = n := if_pos rfl
theorem rcB_C {b : bk} {w v n : Nat} (h : v ≠ w) : wC (rcB b w n) v = wC b v := rcB_o (by omega)
theorem rcB_ok {b : bk} (hb : OKb b) {w n : Nat} (hw : w < b 1) (h1 : 1 ≤ n) (h9 : n ≤ 99) : OKb (rcB b w n) := by
  have h16 := hb.1
  refine OKb_of hb (rcB_o (by omega)) (rcB_o (by omega)) (fun q hq => rcB_o (by omega)) (fun q k hq hk => rcB_o (by omega)) (fun q hq => ?_) (fun v hv => rcB_o (by omega)) (fun v hv => ?_) (fun v k hv hk => rcB_o (by omega))
  · rw [show pW (rcB b w n) q = pW b q from rcB_o (by omega)]
    have g := hb.2.2.1 q hq
    exact ⟨g.2.2.1, g.2.2.2.1⟩
  · by_cases e : v = w
    · rw [e, rcB_s]; exact ⟨h1, h9⟩
    · rw [rcB_C e]
      have g := hb.2.2.2.1 v hv
      exact ⟨g.2.2.1, g.2.2.2.1⟩
/-- a book with one word more -/
def addW (b : bk) (c : Nat → Nat) (n m : Nat) : bk := fun k => if k = 1 then b 1 + 1 else if 98 + 14 * b 1 ≤ k ∧ k < 112 + 14 * b 1 then (if k = 98 + 14 * b 1 then n else if k = 99 + 14 * b 1 then m else if k - (100 + 14 * b 1) < n then ltr c (k - (100 + 14 * b 1)) else 0) else b k
theorem addW_1 (b : bk) (c : Nat → Nat) (n m : Nat) : addW b c n m 1 = b 1 + 1 := if_pos rfl
theorem addW_o {b : bk} {c : Nat → Nat} {n m k : Nat} (h0 : k ≠ 1) (h : k < 98 + 14 * b 1 ∨ 112 + 14 * b 1 ≤ k) : addW b c n m k = b k := (if_neg h0).trans (if_neg (by omega))
theorem addW_0 (b : bk) (c : Nat → Nat) (n m : Nat) : addW b c n m 0 = b 0 := addW_o (by omega) (by omega)
theorem addW_n {b : bk} {c : Nat → Nat} {n m k : Nat} (h : k < 14) : addW b c n m (98 + 14 * b 1 + k) = if k = 0 then n else if k = 1 then m else if k - 2 < n then ltr c (k - 2) else 0 := by
  unfold addW
  rw [if_neg (show ¬ 98 + 14 * b 1 + k = 1 by omega), if_pos (show 98 + 14 * b 1 ≤ 98 + 14 * b 1 + k ∧ 98 + 14 * b 1 + k < 112 + 14 * b 1 by omega), show 98 + 14 * b 1 + k - (100 + 14 * b 1) = k - 2 by omega]
  by_cases h0 : k = 0
  · rw [if_pos h0, if_pos (show 98 + 14 * b 1 + k = 98 + 14 * b 1 by omega)]
  · rw [if_neg h0, if_neg (show ¬ 98 + 14 * b 1 + k = 98 + 14 * b 1 by omega)]
    by_cases h1 : k = 1
    · rw [if_pos h1, if_pos (show 98 + 14 * b 1 + k = 99 + 14 * b 1 by omega)]
    · rw [if_neg h1, if_neg (show ¬ 98 + 14 * b 1 + k = 99 + 14 * b 1 by omega)]
theorem addW_L (b : bk) (c : Nat → Nat) (n m : Nat) : wL (addW b c n m) (b 1) = n := (addW_n (k := 0) (by decide)).trans (if_pos rfl)
theorem addW_C (b : bk) (c : Nat → Nat) (n m : Nat) : wC (addW b c n m) (b 1) = m := by
  show addW b c n m (99 + 14 * b 1) = m
  rw [show 99 + 14 * b 1 = 98 + 14 * b 1 + 1 by omega, addW_n (by decide)]
  rfl
theorem addW_T {b : bk} {c : Nat → Nat} {n m k : Nat} (h : k < 12) : wT (addW b c n m) (b 1) k = if k < n then ltr c k else 0 := by
  show addW b c n m (100 + 14 * b 1 + k) = _
  rw [show 100 + 14 * b 1 + k = 98 + 14 * b 1 + (k + 2) by omega, addW_n (by omega), if_neg (by omega), if_neg (by omega), show k + 2 - 2 = k by omega]
theorem addW_wL {b : bk} {c : Nat → Nat} {n m w : Nat} (h : w < b 1) : wL (addW b c n m) w = wL b w := addW_o (by omega) (by omega)
theorem addW_wC {b : bk} {c : Nat → Nat} {n m w : Nat} (h : w < b 1) : wC (addW b c n m) w = wC b w := addW_o (by omega) (by omega)
theorem addW_wT {b : bk} {c : Nat → Nat} {n m w k : Nat} (h : w < b 1) (hk : k < 12) : wT (addW b c n m) w k = wT b w k := addW_o (by omega) (by omega)
theorem addW_lo {b : bk} {c : Nat → Nat} {n m k : Nat} (h0 : k ≠ 1) (h : k < 98) : addW b c n m k = b k := addW_o h0 (by omega)
theorem addW_ok {b : bk} (hb : OKb b) {c : Nat → Nat} {n m : Nat} (h8 : b 1 < 8) (h1 : 1 ≤ n) (h12 : n ≤ 12) (m1 : 1 ≤ m) (m9 : m ≤ 99) (hl : ∀ k, k < n → 1 ≤ ltr c k ∧ ltr c k ≤ 6) : OKb (addW b c n m) := by
  have h16 := hb.1
  refine ⟨by rw [addW_0]; exact h16, by rw [addW_1]; omega, fun p hp => ?_, fun w hw => ?_, fun p q hp hq e1 e2 => ?_⟩
  · rw [addW_0] at hp
    obtain ⟨g1, g2, g3, g4, g5⟩ := hb.2.2.1 p hp
    rw [show pL (addW b c n m) p = pL b p from addW_lo (by omega) (by omega), show pW (addW b c n m) p = pW b p from addW_lo (by omega) (by omega)]
    exact ⟨g1, g2, g3, g4, fun k hk => by rw [show pT (addW b c n m) p k = pT b p k from addW_lo (by omega) (by omega)]; exact g5 k hk⟩
  · rw [addW_1] at hw
    by_cases e : w = b 1
    · subst e
      rw [addW_L, addW_C]
      exact ⟨h1, h12, m1, m9, fun k hk => by rw [addW_T (by omega), if_pos hk]; exact hl k hk⟩
    · have hw2 : w < b 1 := by omega
      obtain ⟨g1, g2, g3, g4, g5⟩ := hb.2.2.2.1 w hw2
      rw [addW_wL hw2, addW_wC hw2]
      exact ⟨g1, g2, g3, g4, fun k hk => by rw [addW_wT hw2 (by omega)]; exact g5 k hk⟩
  · rw [addW_0] at hp hq
    have hv := (hb.2.2.1 p hp).2.1
    have eL : ∀ r, r < b 0 → pL (addW b c n m) r = pL b r := fun r hr => addW_lo (by omega) (by omega)
    have eT : ∀ r k, r < b 0 → k < 4 → pT (addW b c n m) r k = pT b r k := fun r k hr hk => addW_lo (by omega) (by omega)
    rw [eL p hp] at e1 e2
    rw [eL q hq] at e1
    refine hb.2.2.2.2 p q hp hq e1 (fun k hk => ?_)
    have g := e2 k hk
    rw [eT p k hp (by omega), eT q k hq (by omega)] at g
    exact g
/-- a book with one word less -/
def frB (b : bk) (x : Nat) : bk := fun k => if k = 1 then b 1 - 1 else if 98 + 14 * x ≤ k ∧ k < 98 + 14 * (b 1 - 1) then b (k + 14) else b k
theorem frB_1 (b : bk) (x : Nat) : frB b x 1 = b 1 - 1 := if_pos rfl
theorem frB_lo {b : bk} {x k : Nat} (h0 : k ≠ 1) (h : k < 98) : frB b x k = b k := (if_neg h0).trans (if_neg (by omega))
theorem frB_w {b : bk} {x w k : Nat} (hw : w < b 1 - 1) (hk : k < 14) : frB b x (98 + 14 * w + k) = b (98 + 14 * shf x w + k) := by
  unfold frB shf
  rw [if_neg (by omega)]
  by_cases h : w < x
  · rw [if_pos h, if_neg (by omega)]
  · rw [if_neg h, if_pos (by omega)]
    congr 1
    omega
theorem frB_L {b : bk} {x w : Nat} (hw : w < b 1 - 1) : wL (frB b x) w = wL b (shf x w) := frB_w (k := 0) hw (by omega)
theorem frB_C {b : bk} {x w : Nat} (hw : w < b 1 - 1) : wC (frB b x) w = wC b (shf x w) := by
  have g := frB_w (b := b) (x := x) (k := 1) hw (by omega)
  show frB b x (99 + 14 * w) = b (99 + 14 * shf x w)
  rw [show 99 + 14 * w = 98 + 14 * w + 1 by omega, g]
  congr 1
  omega
theorem frB_T {b : bk} {x w k : Nat} (hw : w < b 1 - 1) (hk : k < 12) : wT (frB b x) w k = wT b (shf x w) k := by
  have g := frB_w (b := b) (x := x) (k := k + 2) hw (by omega)
  show frB b x (100 + 14 * w + k) = b (100 + 14 * shf x w + k)
  rw [show 100 + 14 * w + k = 98 + 14 * w + (k + 2) by omega, g]
  congr 1
  omega
theorem frB_ok {b : bk} (hb : OKb b) {x : Nat} (hx : x < b 1) : OKb (frB b x) := by
  have h16 := hb.1
  have h8 := hb.2.1
  have e0 : frB b x 0 = b 0 := frB_lo (by omega) (by omega)
  refine ⟨by rw [e0]; exact h16, by rw [frB_1]; omega, fun p hp => ?_, fun w hw => ?_, fun p q hp hq e1 e2 => ?_⟩
  · rw [e0] at hp
    obtain ⟨g1, g2, g3, g4, g5⟩ := hb.2.2.1 p hp
    rw [show pL (frB b x) p = pL b p from frB_lo (by omega) (by omega), show pW (frB b x) p = pW b p from frB_lo (by omega) (by omega)]
    exact ⟨g1, g2, g3, g4, fun k hk => by rw [show pT (frB b x) p k = pT b p k from frB_lo (by omega) (by omega)]; exact g5 k hk⟩
  · rw [frB_1] at hw
    obtain ⟨g1, g2, g3, g4, g5⟩ := hb.2.2.2.1 (shf x w) (shf_lt hw)
    rw [frB_L hw, frB_C hw]
    exact ⟨g1, g2, g3, g4, fun k hk => by rw [frB_T hw (by omega)]; exact g5 k hk⟩
  · rw [e0] at hp hq
    have hv := (hb.2.2.1 p hp).2.1
    have eL : ∀ r, r < b 0 → pL (frB b x) r = pL b r := fun r hr => frB_lo (by omega) (by omega)
    have eT : ∀ r k, r < b 0 → k < 4 → pT (frB b x) r k = pT b r k := fun r k hr hk => frB_lo (by omega) (by omega)
    rw [eL p hp] at e1 e2
    rw [eL q hq] at e1
    refine hb.2.2.2.2 p q hp hq e1 (fun k hk => ?_)
    have g := e2 k hk
    rw [eT p k hp (by omega), eT q k hq (by omega)] at g
    exact g
