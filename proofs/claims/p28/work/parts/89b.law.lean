/-! SHARES OVER ALL CUTS: hits of parts (M is 0 or 1), weighed by the cut's product -/
def ktK (M : Nat → Nat → Nat) : Nat → Nat → Nat → Nat → Nat
  | 0, i, L, _ => M i L
  | m + 1, i, L, c => if c % 2 = 0 then ktK M m i (L + 1) (c / 2) else M i L + ktK M m (i + L) 1 (c / 2)
theorem ktK_even (M : Nat → Nat → Nat) (m i L k : Nat) : ktK M (m + 1) i L (2 * k) = ktK M m i (L + 1) k := by
  show (if (2 * k) % 2 = 0 then ktK M m i (L + 1) (2 * k / 2) else _) = _
  rw [if_pos (by omega), show 2 * k / 2 = k by omega]
theorem ktK_odd (M : Nat → Nat → Nat) (m i L k : Nat) : ktK M (m + 1) i L (2 * k + 1) = M i L + ktK M m (i + L) 1 k := by
  show (if (2 * k + 1) % 2 = 0 then _ else M i L + ktK M m (i + L) 1 ((2 * k + 1) / 2)) = _
  rw [if_neg (by omega), show (2 * k + 1) / 2 = k by omega]
theorem ktK_1 (M : Nat → Nat → Nat) : ∀ m i L c, ktK M m i L c = M i (L + ktR m c) + (if ktR m c < m then ktK M (m - ktR m c - 1) (i + L + ktR m c) 1 (c / 2 ^ (ktR m c + 1)) else 0)
  | 0, i, L, c => rfl
  | m + 1, i, L, c => by
    show (if c % 2 = 0 then ktK M m i (L + 1) (c / 2) else M i L + ktK M m (i + L) 1 (c / 2)) = _
    by_cases g : c % 2 = 0
    · have e : ktR (m + 1) c = ktR m (c / 2) + 1 := if_pos g
      have h := ktK_1 M m i (L + 1) (c / 2)
      rw [if_pos g, h, e, show L + 1 + ktR m (c / 2) = L + (ktR m (c / 2) + 1) by omega]
      by_cases q : ktR m (c / 2) < m
      · rw [if_pos q, if_pos (by omega), dv2, show m + 1 - (ktR m (c / 2) + 1) - 1 = m - ktR m (c / 2) - 1 by omega, show i + (L + 1) + ktR m (c / 2) = i + L + (ktR m (c / 2) + 1) by omega]
      · rw [if_neg q, if_neg (by omega)]
    · have e : ktR (m + 1) c = 0 := if_neg g
      rw [if_neg g, e, if_pos (by omega)]
      rfl
/-- hits times product, over all cuts of the rest -/
def ktS (W M : Nat → Nat → Nat) (m i L : Nat) : Nat := sm (fun c => ktF W m i L c * ktK M m i L c) (2 ^ m)
def ktD (W M : Nat → Nat → Nat) (n i : Nat) : Nat := if i < n then ktS W M (n - 1 - i) i 1 else 0
theorem sm_addf {f g : Nat → Nat} : ∀ n, sm (fun k => f k + g k) n = sm f n + sm g n
  | 0 => rfl
  | n + 1 => by
    have h := sm_addf (f := f) (g := g) n
    show sm (fun k => f k + g k) n + (f n + g n) = sm f n + f n + (sm g n + g n)
    omega
theorem ktS_s (W M : Nat → Nat → Nat) (m i L : Nat) : ktS W M (m + 1) i L = ktS W M m i (L + 1) + W i L * (M i L * sm (ktF W m (i + L) 1) (2 ^ m) + ktS W M m (i + L) 1) := by
  unfold ktS
  rw [p2s, sm_eo, sm_congr (g := fun k => ktF W (m + 1) i L (2 * k) * ktK M (m + 1) i L (2 * k)) (g' := fun c => ktF W m i (L + 1) c * ktK M m i (L + 1) c) _ (fun k _ => by rw [ktF_even, ktK_even]),
    sm_congr (g := fun k => ktF W (m + 1) i L (2 * k + 1) * ktK M (m + 1) i L (2 * k + 1)) (g' := fun c => W i L * (M i L * ktF W m (i + L) 1 c + ktF W m (i + L) 1 c * ktK M m (i + L) 1 c)) _ (fun k _ => by
      rw [ktF_odd, ktK_odd, Nat.mul_assoc, Nat.mul_add, Nat.mul_comm (M i L)]),
    sm_mul, sm_addf, sm_mul]
def ktG (W M : Nat → Nat → Nat) (n i l : Nat) : Nat := W i l * (M i l * bh W n (i + l) + ktD W M n (i + l))
theorem ktS_rs {W M : Nat → Nat → Nat} {n : Nat} (h4 : ∀ i L, 4 < L → W i L = 0) : ∀ m i L, i + L + m = n → ktS W M m i L = rs (ktG W M n i) L (m + 1)
  | 0, i, L, h => by
    show 0 + W i L * M i L = 0 + W i L * (M i L * bh W n (i + L) + (if i + L < n then ktS W M (n - 1 - (i + L)) (i + L) 1 else 0))
    rw [if_neg (by omega), show i + L = n by omega, bh_n, Nat.mul_one, Nat.add_zero]
  | m + 1, i, L, h => by
    rw [ktS_s, ktS_rs (n := n) h4 m i (L + 1) (by omega), rs_first (i := L) (m + 1), Nat.add_comm]
    have e1 := ktF_sum (n := n) h4 m (i + L) 1 (by omega)
    have e3 := ktW_bh (n := n) (h4 (i + L)) (show i + L < n by omega)
    rw [show n - 1 - (i + L) = m by omega] at e3
    have e4 : ktD W M n (i + L) = ktS W M m (i + L) 1 := by
      unfold ktD
      rw [if_pos (by omega), show n - 1 - (i + L) = m by omega]
    show W i L * (M i L * sm (ktF W m (i + L) 1) (2 ^ m) + ktS W M m (i + L) 1) + _ = W i L * (M i L * bh W n (i + L) + ktD W M n (i + L)) + _
    rw [e1, e3, e4]
theorem rs_hi {f : Nat → Nat} (h4 : ∀ L, 4 < L → f L = 0) : ∀ d, rs f 1 (4 + d) = rs f 1 4
  | 0 => rfl
  | d + 1 => by
    show rs f 1 (4 + d) + f (1 + (4 + d)) = rs f 1 4
    rw [rs_hi h4 d, h4 _ (by omega), Nat.add_zero]
theorem ktD_rs {W M : Nat → Nat → Nat} {n i : Nat} (h4 : ∀ i L, 4 < L → W i L = 0) (hi : i < n) : ktD W M n i = rs (ktG W M n i) 1 (ml n i) := by
  unfold ktD
  rw [if_pos hi, ktS_rs (n := n) h4 (n - 1 - i) i 1 (by omega), show n - 1 - i + 1 = n - i by omega]
  unfold ml
  by_cases g : n - i < 4
  · rw [if_pos g]
  · rw [if_neg g, show n - i = 4 + (n - i - 4) by omega]
    exact rs_hi (fun L hL => by
      unfold ktG
      rw [h4 i L hL, Nat.zero_mul]) _
/-- aL_sum for any row behind -/
theorem aL_sumG {W : Nat → Nat → Nat} {n i : Nat} {h f : Nat → Nat} : ∀ L, L ≤ ml n i → rs (fun k => aL W i f L k * h k) (i + 1) (n - i) = rs (fun k => f k * h k) (i + 1) (n - i) + f i * rs (fun l => W i l * h (i + l)) 1 L
  | 0, _ => rfl
  | L + 1, hL => by
    have hm := ml_le (n := n) (i := i)
    have ih := aL_sumG (W := W) (n := n) (i := i) (h := h) (f := f) L (by omega)
    have e0 : rs (fun l => W i l * h (i + l)) 1 (L + 1) = rs (fun l => W i l * h (i + l)) 1 L + W i (L + 1) * h (i + (L + 1)) := by
      show rs (fun l => W i l * h (i + l)) 1 L + W i (1 + L) * h (i + (1 + L)) = _
      rw [Nat.add_comm 1 L]
    rw [e0, Nat.mul_add, ← Nat.add_assoc, ← ih]
    have key : ∀ m, rs (fun k => aL W i f (L + 1) k * h k) (i + 1) m = rs (fun k => aL W i f L k * h k) (i + 1) m + (if L < m then f i * (W i (L + 1) * h (i + (L + 1))) else 0) := by
      intro m
      induction m with
      | zero => rfl
      | succ m ihm =>
        show rs _ (i + 1) m + aL W i f (L + 1) (i + 1 + m) * h (i + 1 + m) = (rs _ (i + 1) m + aL W i f L (i + 1 + m) * h (i + 1 + m)) + _
        rw [ihm]
        have e1 : aL W i f (L + 1) (i + 1 + m) = if i + 1 + m = i + (L + 1) then aL W i f L (i + 1 + m) + aL W i f L i * W i (L + 1) else aL W i f L (i + 1 + m) := rfl
        rw [e1]
        by_cases e : m = L
        · subst e
          rw [if_neg (show ¬ m < m by omega), if_pos (show i + 1 + m = i + (m + 1) by omega), if_pos (show m < m + 1 by omega), aL_self, Nat.add_mul, show i + 1 + m = i + (m + 1) by omega, Nat.mul_assoc]
          omega
        · rw [if_neg (show ¬ i + 1 + m = i + (L + 1) by omega)]
          by_cases g : L < m
          · rw [if_pos g, if_pos (show L < m + 1 by omega)]; omega
          · rw [if_neg g, if_neg (show ¬ L < m + 1 by omega)]; omega
    rw [key, if_pos (by omega)]
theorem rs_addf {f g : Nat → Nat} {i : Nat} : ∀ n, rs (fun k => f k + g k) i n = rs f i n + rs g i n
  | 0 => rfl
  | n + 1 => by
    have h := rs_addf (f := f) (g := g) (i := i) n
    show rs (fun k => f k + g k) i n + (f (i + n) + g (i + n)) = rs f i n + f (i + n) + (rs g i n + g (i + n))
    omega
/-- what hits of parts that begin at i bear -/
def ktE (W M : Nat → Nat → Nat) (n i : Nat) : Nat := rs (fun l => W i l * (M i l * bh W n (i + l))) 1 (ml n i)
theorem ktD_E {W M : Nat → Nat → Nat} {n i : Nat} (h4 : ∀ i L, 4 < L → W i L = 0) (hi : i < n) : ktD W M n i = ktE W M n i + rs (fun l => W i l * ktD W M n (i + l)) 1 (ml n i) := by
  rw [ktD_rs h4 hi]
  unfold ktE
  rw [← rs_addf]
  exact rs_congr _ (fun k _ => Nat.mul_add _ _ _)
theorem ktD_all {W M : Nat → Nat → Nat} {n : Nat} (h4 : ∀ i L, 4 < L → W i L = 0) : ∀ i, i ≤ n → sm (fun j => aS W n j j * ktE W M n j) i + rs (fun k => aS W n i k * ktD W M n k) i (n - i + 1) = ktD W M n 0
  | 0, _ => by
    have h : ∀ m, rs (fun k => aS W n 0 k * ktD W M n k) 0 (m + 1) = ktD W M n 0 := by
      intro m
      induction m with
      | zero => simp [rs, aS]
      | succ m ih =>
        show rs _ 0 (m + 1) + aS W n 0 (0 + (m + 1)) * ktD W M n (0 + (m + 1)) = ktD W M n 0
        rw [ih]
        simp [aS]
    show 0 + _ = _
    rw [Nat.zero_add]
    exact h (n - 0)
  | i + 1, h => by
    have ih := ktD_all (W := W) (M := M) (n := n) h4 i (by omega)
    have hs := aL_sumG (W := W) (n := n) (i := i) (h := ktD W M n) (f := aS W n i) (ml n i) (Nat.le_refl _)
    have hd := ktD_E (W := W) (M := M) (n := n) (i := i) h4 (by omega)
    rw [rs_first] at ih
    have e : n - (i + 1) + 1 = n - i := by omega
    rw [e]
    show sm (fun j => aS W n j j * ktE W M n j) i + aS W n i i * ktE W M n i + rs (fun k => aL W i (aS W n i) (ml n i) k * ktD W M n k) (i + 1) (n - i) = _
    rw [hs, ← ih, hd, Nat.mul_add]
    omega
/-- the sum of all shares, place by place -/
theorem ktD_sum {W M : Nat → Nat → Nat} {n : Nat} (h4 : ∀ i L, 4 < L → W i L = 0) : sm (fun j => aS W n n j * ktE W M n j) n = ktD W M n 0 := by
  have h := ktD_all (W := W) (M := M) h4 n (Nat.le_refl n)
  have e : rs (fun k => aS W n n k * ktD W M n k) n (n - n + 1) = 0 := by
    rw [Nat.sub_self]
    show 0 + aS W n n (n + 0) * (if n + 0 < n then _ else 0) = 0
    rw [if_neg (by omega), Nat.mul_zero]
  rw [e, Nat.add_zero] at h
  rw [← h]
  refine sm_congr n (fun k hk => ?_)
  have hk2 := aS_keep (W := W) (n := n) (i := k) (n - k)
  rw [show k + (n - k) = n by omega] at hk2
  rw [hk2]
/-- the same with the places of one piece -/
def ktM1 (b : bk) (w p : Nat) : Nat → Nat → Nat := fun i L => if pc b w i L = some p then 1 else 0
theorem W0_4 {b : bk} (hb : OKb b) (w : Nat) : ∀ i L, 4 < L → W0 b w i L = 0 := by
  intro i L hL
  show wgt b (drp none (pc b w i L)) L = 0
  have e : pc b w i L = none := by
    cases e : pc b w i L with
    | none => rfl
    | some p =>
      obtain ⟨h1, h2⟩ := pc_lt e
      have h3 := (hb.2.2.1 p h1).2.1
      have h4 := h2.1
      omega
  rw [e]
  show (if L = 1 then 1 else 0) = 0
  rw [if_neg (by omega)]
theorem ktE_hit {b : bk} (hb : OKb b) {w p i : Nat} (hp : p < b 0) : aS (W0 b w) (wL b w) (wL b w) i * ktE (W0 b w) (ktM1 b w p) (wL b w) i = if hit b w p i then tm b w p i else 0 := by
  have h1 := hb.2.2.1 p hp
  have key : ∀ m, rs (fun l => W0 b w i l * (ktM1 b w p i l * bh (W0 b w) (wL b w) (i + l))) 1 m = if pL b p ≤ m ∧ pc b w i (pL b p) = some p then pW b p * bh (W0 b w) (wL b w) (i + pL b p) else 0 := by
    intro m
    induction m with
    | zero => rw [if_neg (by omega)]; rfl
    | succ m ih =>
      show rs _ 1 m + W0 b w i (1 + m) * (ktM1 b w p i (1 + m) * bh (W0 b w) (wL b w) (i + (1 + m))) = _
      rw [ih]
      by_cases e : pc b w i (1 + m) = some p
      · have hl : pL b p = 1 + m := (pc_lt e).2.1
        have hw : W0 b w i (1 + m) = pW b p := by
          show wgt b (drp none (pc b w i (1 + m))) (1 + m) = pW b p
          rw [e]
          rfl
        have hM : ktM1 b w p i (1 + m) = 1 := if_pos e
        rw [if_neg (by omega), hw, hM, hl, if_pos ⟨by omega, e⟩, Nat.one_mul, Nat.zero_add]
      · have hM : ktM1 b w p i (1 + m) = 0 := if_neg e
        rw [hM, Nat.zero_mul, Nat.mul_zero, Nat.add_zero]
        by_cases g : pL b p ≤ m ∧ pc b w i (pL b p) = some p
        · rw [if_pos g, if_pos ⟨by omega, g.2⟩]
        · rw [if_neg g, if_neg (fun q => g ⟨by
            rcases Nat.lt_or_ge m (pL b p) with r | r
            · have r2 : pL b p = 1 + m := by omega
              rw [r2] at q
              exact absurd q.2 e
            · exact r, q.2⟩)]
  unfold ktE
  rw [key]
  by_cases g : hit b w p i
  · have g2 : pL b p ≤ ml (wL b w) i ∧ pc b w i (pL b p) = some p := g
    rw [if_pos g, if_pos g2]
    unfold tm
    rw [Nat.mul_assoc]
  · have g2 : ¬ (pL b p ≤ ml (wL b w) i ∧ pc b w i (pL b p) = some p) := g
    rw [if_neg g, if_neg g2, Nat.mul_zero]
theorem sN_sm (b : bk) (w p : Nat) : ∀ n, sN b w p n = sm (fun i => if hit b w p i then tm b w p i else 0) n
  | 0 => rfl
  | n + 1 => by
    show sN b w p n + _ = sm _ n + _
    rw [sN_sm b w p n]
theorem sN_cuts {b : bk} (hb : OKb b) {w p : Nat} (hp : p < b 0) (hw : 1 ≤ wL b w) : sm (fun c => ktF (W0 b w) (wL b w - 1) 0 1 c * ktK (ktM1 b w p) (wL b w - 1) 0 1 c) (2 ^ (wL b w - 1)) = sN b w p (wL b w) := by
  have h := ktD_sum (W := W0 b w) (M := ktM1 b w p) (n := wL b w) (W0_4 hb w)
  have e : ktD (W0 b w) (ktM1 b w p) (wL b w) 0 = ktS (W0 b w) (ktM1 b w p) (wL b w - 1) 0 1 := if_pos (by omega)
  rw [e] at h
  rw [sN_sm, ← sm_congr (g := fun j => aS (W0 b w) (wL b w) (wL b w) j * ktE (W0 b w) (ktM1 b w p) (wL b w) j) _ (fun k _ => ktE_hit hb hp)]
  exact h.symm
