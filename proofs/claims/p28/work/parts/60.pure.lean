/-! shrink -/
theorem shrB_step {b : bk} (hb : OKb b) {z d : Nat} (hd : b 0 - z = d + 1) : ∃ x, x < b 0 ∧ lst b (b 0) = some x ∧ shrB b z (d + 1) = shrB (drpB b x) z d ∧ drpB b x 0 - z = d := by
  obtain ⟨x, hx⟩ : ∃ x, lst b (b 0) = some x := by
    obtain ⟨c, hc⟩ : ∃ c, b 0 = c + 1 := ⟨b 0 - 1, by omega⟩
    rw [hc]
    exact lst_some c
  refine ⟨x, lst_lt hx, hx, ?_, by rw [drpB_0]; omega⟩
  rw [shrB, if_neg (by omega), hx]
theorem shrB_0 {z : Nat} : ∀ (d : Nat) (b : bk), OKb b → b 0 - z = d → shrB b z d 0 = b 0 - d ∧ OKb (shrB b z d)
  | 0, b, hb, _ => ⟨rfl, hb⟩
  | d + 1, b, hb, hd => by
    obtain ⟨x, h1, h2, h3, h4⟩ := shrB_step hb hd
    rw [h3]
    obtain ⟨g1, g2⟩ := shrB_0 d (drpB b x) (drpB_ok hb h1) h4
    rw [drpB_0] at g1
    exact ⟨by omega, g2⟩
theorem shrink_L34 {N : Nat} (hN : 210 < N) {z : Nat} (hz : z ≤ 16) {x2 : Int32} {hi : HV} {K : CV → LV → BV → (Nat → Int32) → Option (Int32 × CV × HV × LV × BV × (Nat → Int32))} {P : Int32 × CV × HV × LV × BV × (Nat → Int32) → Prop} :
    ∀ (d f : Nat) (b : bk) (c : CV) (lt : LV) (bc : BV) (cw : Nat → Int32), OKb b → CR c b → b 0 - z = d → d < f → (∀ c' lt bc cw, CR c' (shrB b z d) → wp (K c' lt bc cw) P) → wp (f_X7_shrink_L34 N (nI z) x2 hi K f (nI (b 0)) c lt bc cw) P
  | _, 0, _, _, _, _, _, _, _, _, h2, _ => by omega
  | 0, f + 1, b, c, lt, bc, cw, hb, hc, hd, h2, hK => by
    have h16 := hb.1
    rw [f_X7_shrink_L34, if_pos (show nI (b 0) ≤ nI z from nI_le (by omega) (by omega))]
    exact hK c lt bc cw hc
  | d + 1, f + 1, b, c, lt, bc, cw, hb, hc, hd, h2, hK => by
    have h16 := hb.1
    obtain ⟨x, g1, g2, g3, g4⟩ := shrB_step hb hd
    rw [f_X7_shrink_L34, if_neg (show ¬ nI (b 0) ≤ nI z from nI_ge (by omega) (by omega))]
    refine wp_bind (wp_mono (findLeast_ok (by omega) hb hc lt bc cw) (fun r hr => ?_))
    rw [hr, g2]
    refine wp_bind (wp_mono (removePiece_ok hb hc g1) (fun c2 hc2 => ?_))
    have e : nI (b 0) + (-1) = nI (drpB b x 0) := by
      rw [drpB_0, dn_m1]
      exact pk_sub (b := 1) (by omega)
    rw [e]
    exact shrink_L34 hN hz d f (drpB b x) c2 _ _ _ (drpB_ok hb g1) hc2.1 g4 (by omega) (fun c' lt bc cw h => hK c' lt bc cw (by rw [g3]; exact h))
/-! the sum of all cuts through a part is not more than the sum of all -/
/-- sum of f k, k from i, n of them -/
def rs (f : Nat → Nat) (i : Nat) : Nat → Nat
  | 0 => 0
  | n + 1 => rs f i n + f (i + n)
theorem rs_congr {f g : Nat → Nat} {i : Nat} : ∀ n, (∀ k, k < n → f (i + k) = g (i + k)) → rs f i n = rs g i n
  | 0, _ => rfl
  | n + 1, h => by
    show rs f i n + f (i + n) = rs g i n + g (i + n)
    rw [rs_congr n (fun k hk => h k (by omega)), h n (by omega)]
theorem rs_first {f : Nat → Nat} {i : Nat} : ∀ n, rs f i (n + 1) = f i + rs f (i + 1) n
  | 0 => by simp [rs]
  | n + 1 => by
    show rs f i (n + 1) + f (i + (n + 1)) = f i + (rs f (i + 1) n + f (i + 1 + n))
    rw [rs_first n, show i + (n + 1) = i + 1 + n by omega]
    omega
theorem rs_le {f : Nat → Nat} {i : Nat} : ∀ n k, k < n → f (i + k) ≤ rs f i n
  | n + 1, k, h => by
    show f (i + k) ≤ rs f i n + f (i + n)
    by_cases e : k = n
    · rw [e]; omega
    · have := rs_le (f := f) (i := i) n k (by omega)
      omega
theorem aL_self {W : Nat → Nat → Nat} {i : Nat} {f : Nat → Nat} : ∀ L, aL W i f L i = f i
  | 0 => rfl
  | L + 1 => by
    show (if i = i + (L + 1) then _ else aL W i f L i) = f i
    rw [if_neg (by omega)]
    exact aL_self L
theorem aL_lo {W : Nat → Nat → Nat} {i : Nat} {f : Nat → Nat} {k : Nat} (hk : k ≤ i) : ∀ L, aL W i f L k = f k
  | 0 => rfl
  | L + 1 => by
    show (if k = i + (L + 1) then _ else aL W i f L k) = f k
    rw [if_neg (by omega)]
    exact aL_lo hk L
/-- one place's row of parts, against what stands behind them -/
theorem aL_sum {W : Nat → Nat → Nat} {n i : Nat} (hi : i < n) {f : Nat → Nat} : ∀ L, L ≤ ml n i → rs (fun k => aL W i f L k * bh W n k) (i + 1) (n - i) = rs (fun k => f k * bh W n k) (i + 1) (n - i) + f i * bhL W n i L
  | 0, _ => by
    rw [bhL_0]
    rfl
  | L + 1, h => by
    have hm := ml_le (n := n) (i := i)
    have ih := aL_sum (W := W) hi (f := f) L (by omega)
    rw [bhL_s, Nat.mul_add, ← Nat.add_assoc, ← ih]
    have key : ∀ m, rs (fun k => aL W i f (L + 1) k * bh W n k) (i + 1) m = rs (fun k => aL W i f L k * bh W n k) (i + 1) m + (if L < m then f i * (W i (L + 1) * bh W n (i + (L + 1))) else 0) := by
      intro m
      induction m with
      | zero => rfl
      | succ m ihm =>
        show rs _ (i + 1) m + aL W i f (L + 1) (i + 1 + m) * bh W n (i + 1 + m) = (rs _ (i + 1) m + aL W i f L (i + 1 + m) * bh W n (i + 1 + m)) + _
        rw [ihm]
        have e1 : aL W i f (L + 1) (i + 1 + m) = if i + 1 + m = i + (L + 1) then aL W i f L (i + 1 + m) + aL W i f L i * W i (L + 1) else aL W i f L (i + 1 + m) := rfl
        rw [e1]
        by_cases e : m = L
        · subst e
          rw [if_neg (show ¬ m < m by omega), if_pos (show i + 1 + m = i + (m + 1) by omega), if_pos (show m < m + 1 by omega), aL_self, Nat.add_mul, show i + 1 + m = i + (m + 1) by omega, Nat.mul_assoc]
          omega
        · rw [if_neg (show ¬ i + 1 + m = i + (L + 1) by omega)]
          by_cases g : L < m
          · rw [if_pos g, if_pos (show L < m + 1 by omega)]; omega
          · rw [if_neg g, if_neg (show ¬ L < m + 1 by omega)]; omega
    rw [key, if_pos (by omega)]
theorem aS_all {W : Nat → Nat → Nat} {n : Nat} : ∀ i, i ≤ n → rs (fun k => aS W n i k * bh W n k) i (n - i + 1) = bh W n 0
  | 0, _ => by
    have h : ∀ m, rs (fun k => aS W n 0 k * bh W n k) 0 (m + 1) = bh W n 0 := by
      intro m
      induction m with
      | zero => simp [rs, aS]
      | succ m ih =>
        show rs _ 0 (m + 1) + aS W n 0 (0 + (m + 1)) * bh W n (0 + (m + 1)) = bh W n 0
        rw [ih]
        simp [aS]
    exact h (n - 0)
  | i + 1, h => by
    have ih := aS_all (W := W) (n := n) i (by omega)
    have hs := aL_sum (W := W) (n := n) (i := i) (by omega) (f := aS W n i) (ml n i) (Nat.le_refl _)
    rw [← bh_i (by omega)] at hs
    rw [rs_first] at ih
    have e : n - (i + 1) + 1 = n - i := by omega
    rw [e]
    show rs (fun k => aL W i (aS W n i) (ml n i) k * bh W n k) (i + 1) (n - i) = bh W n 0
    rw [hs]
    omega
theorem aS_keep {W : Nat → Nat → Nat} {n i : Nat} : ∀ d, aS W n (i + d) i = aS W n i i
  | 0 => rfl
  | d + 1 => by
    show aL W (i + d) (aS W n (i + d)) (ml n (i + d)) i = _
    rw [aL_lo (by omega)]
    exact aS_keep d
theorem thr_le {W : Nat → Nat → Nat} {n i : Nat} (hi : i ≤ n) : aS W n n i * bh W n i ≤ bh W n 0 := by
  have h := aS_all (W := W) i hi
  have h2 := rs_le (f := fun k => aS W n i k * bh W n k) (i := i) (n - i + 1) 0 (by omega)
  rw [h] at h2
  have h3 := aS_keep (W := W) (n := n) (i := i) (n - i)
  rw [show i + (n - i) = n by omega] at h3
  rw [h3]
  exact h2
theorem bhL_ge {W : Nat → Nat → Nat} {n i M : Nat} : ∀ L, 1 ≤ M → M ≤ L → W i M * bh W n (i + M) ≤ bhL W n i L
  | 0, h1, h2 => by omega
  | L + 1, h1, h2 => by
    rw [bhL_s]
    by_cases e : M = L + 1
    · rw [e]; omega
    · have := bhL_ge (W := W) (n := n) (i := i) (M := M) L h1 (by omega)
      omega
theorem tm_le {b : bk} {w p i : Nat} (hb : OKb b) (hp : p < b 0) (hi : i < wL b w) (h : hit b w p i) : tm b w p i ≤ bh (W0 b w) (wL b w) 0 := by
  have h1 := hb.2.2.1 p hp
  have hw1 : W0 b w i (pL b p) = pW b p := by
    show wgt b (drp none (pc b w i (pL b p))) (pL b p) = pW b p
    rw [h.2]
    rfl
  have h2 := bhL_ge (W := W0 b w) (n := wL b w) (i := i) (M := pL b p) (ml (wL b w) i) h1.1 h.1
  rw [← bh_i hi, hw1] at h2
  have h3 := thr_le (W := W0 b w) (n := wL b w) (i := i) (by omega)
  unfold tm
  rw [Nat.mul_assoc]
  exact Nat.le_trans (Nat.mul_le_mul_left _ h2) h3
theorem sN_le {b : bk} {w p : Nat} (hb : OKb b) (hp : p < b 0) : ∀ i, i ≤ wL b w → sN b w p i ≤ i * bh (W0 b w) (wL b w) 0
  | 0, _ => by simp [sN]
  | i + 1, h => by
    have ih := sN_le (w := w) hb hp i (by omega)
    show sN b w p i + (if hit b w p i then tm b w p i else 0) ≤ (i + 1) * bh (W0 b w) (wL b w) 0
    rw [Nat.add_mul, Nat.one_mul]
    by_cases g : hit b w p i
    · rw [if_pos g]
      have := tm_le hb hp (by omega) g
      omega
    · rw [if_neg g]
      omega
