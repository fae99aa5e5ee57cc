/-! ALL CUTS OF A WORD BY NUMBERS. At a place with m borders behind it, a part begun at i that has L letters so far: the next border is bit 0 of c. -/
/-- the product of the cut c -/
def ktF (W : Nat → Nat → Nat) : Nat → Nat → Nat → Nat → Nat
  | 0, i, L, _ => W i L
  | m + 1, i, L, c => if c % 2 = 0 then ktF W m i (L + 1) (c / 2) else W i L * ktF W m (i + L) 1 (c / 2)
theorem sm_eo (g : Nat → Nat) : ∀ n, sm g (2 * n) = sm (fun k => g (2 * k)) n + sm (fun k => g (2 * k + 1)) n
  | 0 => rfl
  | n + 1 => by
    have h := sm_eo g n
    show sm g (2 * n) + g (2 * n) + g (2 * n + 1) = (sm (fun k => g (2 * k)) n + g (2 * n)) + (sm (fun k => g (2 * k + 1)) n + g (2 * n + 1))
    omega
theorem sm_mul (a : Nat) (g : Nat → Nat) : ∀ n, sm (fun k => a * g k) n = a * sm g n
  | 0 => rfl
  | n + 1 => by
    show sm (fun k => a * g k) n + a * g n = a * (sm g n + g n)
    rw [sm_mul a g n, Nat.mul_add]
/-- what parts of at least L letters make of the rest from place i, m letters behind -/
def ktW (W : Nat → Nat → Nat) (n i : Nat) : Nat → Nat → Nat
  | 0, L => W i L * bh W n (i + L)
  | m + 1, L => W i L * bh W n (i + L) + ktW W n i m (L + 1)
theorem ktW_bhL (W : Nat → Nat → Nat) (n i : Nat) : ∀ m L, bhL W n i L + ktW W n i m (L + 1) = bhL W n i (L + 1 + m)
  | 0, L => (bhL_s W n i L).symm
  | m + 1, L => by
    have h := ktW_bhL W n i m (L + 1)
    show bhL W n i L + (W i (L + 1) * bh W n (i + (L + 1)) + ktW W n i m (L + 1 + 1)) = bhL W n i (L + 1 + (m + 1))
    rw [← Nat.add_assoc, ← bhL_s, h]
    exact congrArg (bhL W n i) (by omega)
theorem bhL_hi {W : Nat → Nat → Nat} {n i : Nat} (h4 : ∀ L, 4 < L → W i L = 0) : ∀ d, bhL W n i (4 + d) = bhL W n i 4
  | 0 => rfl
  | d + 1 => by
    show bhL W n i (4 + d + 1) = bhL W n i 4
    rw [bhL_s, h4 (4 + d + 1) (by omega), Nat.zero_mul, Nat.add_zero]
    exact bhL_hi h4 d
theorem ktW_bh {W : Nat → Nat → Nat} {n i : Nat} (h4 : ∀ L, 4 < L → W i L = 0) (hi : i < n) : ktW W n i (n - 1 - i) 1 = bh W n i := by
  have h := ktW_bhL W n i (n - 1 - i) 0
  rw [bhL_0, Nat.zero_add, Nat.zero_add] at h
  rw [h, bh_i hi]
  unfold ml
  by_cases g : n - i < 4
  · rw [if_pos g]
    exact congrArg (bhL W n i) (by omega)
  · rw [if_neg g, show 1 + (n - 1 - i) = 4 + (n - i - 4) by omega]
    exact bhL_hi h4 _
theorem ktF_even (W : Nat → Nat → Nat) (m i L k : Nat) : ktF W (m + 1) i L (2 * k) = ktF W m i (L + 1) k := by
  show (if (2 * k) % 2 = 0 then ktF W m i (L + 1) (2 * k / 2) else _) = _
  rw [if_pos (by omega), show 2 * k / 2 = k by omega]
theorem ktF_odd (W : Nat → Nat → Nat) (m i L k : Nat) : ktF W (m + 1) i L (2 * k + 1) = W i L * ktF W m (i + L) 1 k := by
  show (if (2 * k + 1) % 2 = 0 then _ else W i L * ktF W m (i + L) 1 ((2 * k + 1) / 2)) = _
  rw [if_neg (by omega), show (2 * k + 1) / 2 = k by omega]
/-- the sum over all cuts -/
theorem ktF_sum {W : Nat → Nat → Nat} {n : Nat} (h4 : ∀ i L, 4 < L → W i L = 0) : ∀ m i L, i + L + m = n → sm (ktF W m i L) (2 ^ m) = ktW W n i m L
  | 0, i, L, h => by
    show sm (ktF W 0 i L) 1 = W i L * bh W n (i + L)
    rw [show i + L = n by omega, bh_n, Nat.mul_one]
    exact Nat.zero_add _
  | m + 1, i, L, h => by
    rw [show 2 ^ (m + 1) = 2 * 2 ^ m by rw [Nat.pow_succ, Nat.mul_comm], sm_eo, sm_congr _ (fun k _ => ktF_even W m i L k), sm_congr (g := fun k => ktF W (m + 1) i L (2 * k + 1)) _ (fun k _ => ktF_odd W m i L k), sm_mul]
    have e1 := ktF_sum (n := n) h4 m i (L + 1) (by omega)
    have e2 := ktF_sum (n := n) h4 m (i + L) 1 (by omega)
    have e3 := ktW_bh (n := n) (h4 (i + L)) (show i + L < n by omega)
    rw [show n - 1 - (i + L) = m by omega] at e3
    rw [e3] at e2
    show sm (ktF W m i (L + 1)) (2 ^ m) + W i L * sm (ktF W m (i + L) 1) (2 ^ m) = _
    rw [e1, e2]
    exact Nat.add_comm _ _
theorem ktF_all {W : Nat → Nat → Nat} {n : Nat} (h4 : ∀ i L, 4 < L → W i L = 0) (hn : 1 ≤ n) : sm (ktF W (n - 1) 0 1) (2 ^ (n - 1)) = bh W n 0 := by
  rw [ktF_sum (n := n) h4 (n - 1) 0 1 (by omega)]
  exact ktW_bh (n := n) (h4 0) (by omega)
/-- how many cuts have a product -/
theorem ktF_pos {W W' : Nat → Nat → Nat} (h : ∀ i L, W' i L = if 0 < W i L then 1 else 0) : ∀ m i L c, ktF W' m i L c = if 0 < ktF W m i L c then 1 else 0
  | 0, i, L, _ => h i L
  | m + 1, i, L, c => by
    show (if c % 2 = 0 then ktF W' m i (L + 1) (c / 2) else W' i L * ktF W' m (i + L) 1 (c / 2)) = if 0 < (if c % 2 = 0 then ktF W m i (L + 1) (c / 2) else W i L * ktF W m (i + L) 1 (c / 2)) then 1 else 0
    by_cases g : c % 2 = 0
    · rw [if_pos g, if_pos g]
      exact ktF_pos h m i (L + 1) (c / 2)
    · rw [if_neg g, if_neg g, h i L, ktF_pos h m (i + L) 1 (c / 2)]
      by_cases a : 0 < W i L
      · by_cases b : 0 < ktF W m (i + L) 1 (c / 2)
        · rw [if_pos a, if_pos b, if_pos (Nat.mul_pos a b)]
        · rw [if_neg b, Nat.mul_zero, if_neg (by rw [show ktF W m (i + L) 1 (c / 2) = 0 by omega, Nat.mul_zero]; omega)]
      · rw [if_neg a, Nat.zero_mul, if_neg (by rw [show W i L = 0 by omega, Nat.zero_mul]; omega)]
/-! the first part of a cut: how many letters more than one -/
def ktR : Nat → Nat → Nat
  | 0, _ => 0
  | m + 1, c => if c % 2 = 0 then ktR m (c / 2) + 1 else 0
theorem ktR_le : ∀ m c, ktR m c ≤ m
  | 0, _ => Nat.le_refl _
  | m + 1, c => by
    have h := ktR_le m (c / 2)
    show (if c % 2 = 0 then ktR m (c / 2) + 1 else 0) ≤ m + 1
    split <;> omega
theorem p2s (r : Nat) : 2 ^ (r + 1) = 2 * 2 ^ r := by rw [Nat.pow_succ, Nat.mul_comm]
theorem dv2 (c r : Nat) : c / 2 / 2 ^ r = c / 2 ^ (r + 1) := by rw [Nat.div_div_eq_div_mul, p2s]
theorem ktF_1 (W : Nat → Nat → Nat) : ∀ m i L c, ktF W m i L c = W i (L + ktR m c) * (if ktR m c < m then ktF W (m - ktR m c - 1) (i + L + ktR m c) 1 (c / 2 ^ (ktR m c + 1)) else 1)
  | 0, i, L, c => (Nat.mul_one (W i L)).symm
  | m + 1, i, L, c => by
    show (if c % 2 = 0 then ktF W m i (L + 1) (c / 2) else W i L * ktF W m (i + L) 1 (c / 2)) = _
    by_cases g : c % 2 = 0
    · have e : ktR (m + 1) c = ktR m (c / 2) + 1 := if_pos g
      have h := ktF_1 W m i (L + 1) (c / 2)
      rw [if_pos g, h, e, show L + 1 + ktR m (c / 2) = L + (ktR m (c / 2) + 1) by omega]
      by_cases q : ktR m (c / 2) < m
      · rw [if_pos q, if_pos (by omega), dv2, show m + 1 - (ktR m (c / 2) + 1) - 1 = m - ktR m (c / 2) - 1 by omega, show i + (L + 1) + ktR m (c / 2) = i + L + (ktR m (c / 2) + 1) by omega]
      · rw [if_neg q, if_neg (by omega)]
    · have e : ktR (m + 1) c = 0 := if_neg g
      rw [if_neg g, e, if_pos (by omega)]
      show W i L * ktF W m (i + L) 1 (c / 2) = W i (L + 0) * ktF W (m + 1 - 0 - 1) (i + L + 0) 1 (c / 2 ^ (0 + 1))
      rw [show m + 1 - 0 - 1 = m by omega, show (2 : Nat) ^ (0 + 1) = 2 from rfl]
      rfl
/-- how many borders, and the order by the first border -/
def ktB : Nat → Nat → Nat
  | 0, _ => 0
  | m + 1, c => c % 2 + ktB m (c / 2)
def ktV : Nat → Nat → Nat
  | 0, _ => 0
  | m + 1, c => c % 2 * 2 ^ m + ktV m (c / 2)
theorem ktB_1 : ∀ m c, ktB m c = if ktR m c < m then 1 + ktB (m - ktR m c - 1) (c / 2 ^ (ktR m c + 1)) else 0
  | 0, c => rfl
  | m + 1, c => by
    show c % 2 + ktB m (c / 2) = _
    by_cases g : c % 2 = 0
    · have e : ktR (m + 1) c = ktR m (c / 2) + 1 := if_pos g
      rw [g, e, ktB_1 m (c / 2), Nat.zero_add]
      by_cases q : ktR m (c / 2) < m
      · rw [if_pos q, if_pos (by omega), dv2, show m + 1 - (ktR m (c / 2) + 1) - 1 = m - ktR m (c / 2) - 1 by omega]
      · rw [if_neg q, if_neg (by omega)]
    · have e : ktR (m + 1) c = 0 := if_neg g
      rw [e, if_pos (by omega), show c % 2 = 1 by omega]
      rfl
theorem ktV_1 : ∀ m c, ktV m c = if ktR m c < m then 2 ^ (m - ktR m c - 1) + ktV (m - ktR m c - 1) (c / 2 ^ (ktR m c + 1)) else 0
  | 0, c => rfl
  | m + 1, c => by
    show c % 2 * 2 ^ m + ktV m (c / 2) = _
    by_cases g : c % 2 = 0
    · have e : ktR (m + 1) c = ktR m (c / 2) + 1 := if_pos g
      rw [g, e, ktV_1 m (c / 2), Nat.zero_mul, Nat.zero_add]
      by_cases q : ktR m (c / 2) < m
      · rw [if_pos q, if_pos (by omega), dv2, show m + 1 - (ktR m (c / 2) + 1) - 1 = m - ktR m (c / 2) - 1 by omega]
      · rw [if_neg q, if_neg (by omega)]
    · have e : ktR (m + 1) c = 0 := if_neg g
      rw [e, if_pos (by omega), show c % 2 = 1 by omega, Nat.one_mul]
      rfl
theorem ktV_lt : ∀ m c, ktV m c < 2 ^ m
  | 0, _ => Nat.one_pos
  | m + 1, c => by
    have h := ktV_lt m (c / 2)
    show c % 2 * 2 ^ m + ktV m (c / 2) < 2 ^ (m + 1)
    rw [p2s]
    rcases (show c % 2 = 0 ∨ c % 2 = 1 by omega) with e | e <;> rw [e] <;> omega
theorem ktR_0 : ∀ m, ktR m 0 = m
  | 0 => rfl
  | m + 1 => congrArg (· + 1) (ktR_0 m)
theorem ktR_full : ∀ m c, c < 2 ^ m → ktR m c = m → c = 0
  | 0, c, h, _ => by
    have : c < 1 := h
    omega
  | m + 1, c, h, e => by
    by_cases g : c % 2 = 0
    · have e2 : ktR m (c / 2) + 1 = m + 1 := (if_pos g).symm.trans e
      have h2 := ktR_full m (c / 2) (by rw [p2s] at h; omega) (by omega)
      omega
    · have e2 : 0 = m + 1 := (if_neg g).symm.trans e
      omega
/-- a cut by its first part and its rest -/
def ktM (r k : Nat) : Nat := 2 ^ r * (2 * k + 1)
theorem ktM_s (r k : Nat) : ktM (r + 1) k = 2 * ktM r k := by
  unfold ktM
  rw [p2s, Nat.mul_assoc]
theorem ktM_lt {m r k : Nat} (hr : r < m) (hk : k < 2 ^ (m - r - 1)) : ktM r k < 2 ^ m := by
  have e : 2 ^ m = 2 ^ r * (2 * 2 ^ (m - r - 1)) := by
    rw [← p2s, ← Nat.pow_add]
    exact congrArg (2 ^ ·) (by omega)
  unfold ktM
  rw [e]
  exact Nat.mul_lt_mul_of_pos_left (by omega) (Nat.two_pow_pos r)
theorem ktM_R : ∀ m r k, r < m → ktR m (ktM r k) = r
  | 0, _, _, h => by omega
  | m + 1, 0, k, _ => by
    have e : ktM 0 k = 2 * k + 1 := Nat.one_mul _
    rw [e]
    exact if_neg (by omega)
  | m + 1, r + 1, k, h => by
    rw [ktM_s]
    have h2 := ktM_R m r k (by omega)
    show (if (2 * ktM r k) % 2 = 0 then ktR m (2 * ktM r k / 2) + 1 else 0) = r + 1
    rw [if_pos (by omega), show 2 * ktM r k / 2 = ktM r k by omega, h2]
theorem ktM_d (k : Nat) : ∀ r, ktM r k / 2 ^ (r + 1) = k
  | 0 => by
    show 2 ^ 0 * (2 * k + 1) / 2 = k
    rw [Nat.pow_zero]
    omega
  | r + 1 => by
    rw [← dv2, ktM_s, show 2 * ktM r k / 2 = ktM r k by omega]
    exact ktM_d k r
theorem ktM_of : ∀ m c, ktR m c < m → c = ktM (ktR m c) (c / 2 ^ (ktR m c + 1))
  | 0, c, h => by omega
  | m + 1, c, h => by
    by_cases g : c % 2 = 0
    · have e : ktR (m + 1) c = ktR m (c / 2) + 1 := if_pos g
      rw [e] at h ⊢
      have h2 := ktM_of m (c / 2) (by omega)
      rw [ktM_s, ← dv2, ← h2]
      omega
    · have e : ktR (m + 1) c = 0 := if_neg g
      rw [e]
      show c = 2 ^ 0 * (2 * (c / 2 ^ 1) + 1)
      rw [Nat.pow_zero, show (2 : Nat) ^ 1 = 2 from rfl]
      omega
theorem kt_dlt {m r c : Nat} (hr : r < m) (hc : c < 2 ^ m) : c / 2 ^ (r + 1) < 2 ^ (m - r - 1) := by
  refine Nat.div_lt_of_lt_mul ?_
  rw [← Nat.pow_add]
  exact Nat.lt_of_lt_of_le hc (Nat.pow_le_pow_right (by omega) (by omega))
