/-! tune -/
def shN (b : bk) (w p : Nat) : Nat := 1000 * sN b w p (wL b w) / bh (W0 b w) (wL b w) 0
theorem shr_N {b : bk} (hb : OKb b) {w : Nat} (hw : w < b 1) {p : Nat} (hp : p < b 0) : shr b w p = nI (shN b w p) ∧ shN b w p ≤ 12000 := by
  have hv := hb.2.2.2.1 w hw
  have hT : 1 ≤ bh (W0 b w) (wL b w) 0 ∧ bh (W0 b w) (wL b w) 0 ≤ 1000000000000 := bh_b (Wf_ok hb w none) hv.2.1 (Nat.zero_le (wL b w))
  have hS := sN_le (w := w) hb hp (wL b w) (Nat.le_refl _)
  have hS2 : sN b w p (wL b w) ≤ 12 * bh (W0 b w) (wL b w) 0 := Nat.le_trans hS (Nat.mul_le_mul_right _ hv.2.1)
  constructor
  · unfold shr shN
    rw [show (1000 : Int64) = lN 1000 from rfl, lN_mul, pk_lDiv (show 1000 * sN b w p (wL b w) < 2 ^ 63 by omega) (show 0 < bh (W0 b w) (wL b w) 0 by omega) (show bh (W0 b w) (wL b w) 0 < 2 ^ 63 by omega), lN_i]
  · unfold shN
    refine Nat.div_le_of_le_mul ?_
    omega
def beN (b : bk) (p : Nat) : Nat → Nat
  | 0 => 0
  | w + 1 => beN b p w + wC b w * shN b w p
theorem be_N {b : bk} (hb : OKb b) {p : Nat} (hp : p < b 0) : ∀ n, n ≤ b 1 → be b p n = nI (beN b p n) ∧ beN b p n ≤ n * 1188000
  | 0, _ => ⟨rfl, Nat.zero_le _⟩
  | n + 1, h => by
    obtain ⟨e, g⟩ := be_N hb hp n (by omega)
    obtain ⟨e2, g2⟩ := shr_N hb (w := n) (by omega) hp
    have hv := hb.2.2.2.1 n (by omega)
    constructor
    · show be b p n + nI (wC b n) * shr b n p = nI (beN b p n + wC b n * shN b n p)
      rw [e, e2, pk_mul, nI_add]
    · show beN b p n + wC b n * shN b n p ≤ (n + 1) * 1188000
      have := Nat.mul_le_mul hv.2.2.2.1 g2
      omega
def bb (b : bk) (p : Nat) : Nat := beN b p (b 1)
theorem bb_le {b : bk} (hb : OKb b) {p : Nat} (hp : p < b 0) : be b p (b 1) = nI (bb b p) ∧ bb b p ≤ 9504000 := by
  obtain ⟨e, g⟩ := be_N hb hp (b 1) (Nat.le_refl _)
  have h8 := hb.2.1
  have := Nat.mul_le_mul_right 1188000 h8
  exact ⟨e, by unfold bb; omega⟩
def gm (b : bk) : Nat → Nat
  | 0 => 0
  | p + 1 => if gm b p < bb b p then bb b p else gm b p
theorem gm_le {b : bk} (hb : OKb b) : ∀ n, n ≤ b 0 → gm b n ≤ 9504000
  | 0, _ => Nat.zero_le _
  | n + 1, h => by
    have := gm_le hb n (by omega)
    have := (bb_le hb (p := n) (by omega)).2
    show (if gm b n < bb b n then bb b n else gm b n) ≤ 9504000
    split <;> omega
theorem gm_ge {b : bk} : ∀ n p, p < n → bb b p ≤ gm b n
  | n + 1, p, h => by
    show bb b p ≤ (if gm b n < bb b n then bb b n else gm b n)
    by_cases e : p = n
    · subst e; split <;> omega
    · have := gm_ge (b := b) n p (by omega)
      split <;> omega
/-- the tuned weight -/
def tnW (b : bk) (p : Nat) : Nat := if gm b (b 0) = 0 then 1 else 1 + 8 * bb b p / gm b (b 0)
theorem tnW_le {b : bk} {p : Nat} (hp : p < b 0) : 1 ≤ tnW b p ∧ tnW b p ≤ 9 := by
  unfold tnW
  by_cases h : gm b (b 0) = 0
  · rw [if_pos h]; omega
  · rw [if_neg h]
    have h1 := gm_ge (b := b) (b 0) p hp
    have h2 : 8 * bb b p / gm b (b 0) ≤ 8 := Nat.div_le_of_le_mul (by omega)
    generalize 8 * bb b p / gm b (b 0) = z at h2 ⊢
    omega
def tnB (b : bk) : bk := fun k => if k % 6 = 3 ∧ k / 6 < b 0 then tnW b (k / 6) else b k
theorem tnB_W {b : bk} {p : Nat} (hp : p < b 0) : pW (tnB b) p = tnW b p := by
  unfold pW tnB
  rw [show (3 + 6 * p) / 6 = p by omega, if_pos ⟨by omega, hp⟩]
theorem tnB_o {b : bk} {k : Nat} (h : k % 6 ≠ 3 ∨ b 0 ≤ k / 6) : tnB b k = b k := by
  unfold tnB
  rw [if_neg (by omega)]
theorem tnB_L (b : bk) (p : Nat) : pL (tnB b) p = pL b p := tnB_o (Or.inl (by omega))
theorem tnB_T {b : bk} {p k : Nat} (hk : k < 4) : pT (tnB b) p k = pT b p k := tnB_o (Or.inl (by omega))
theorem tnB_hi {b : bk} (hb : OKb b) {k : Nat} (h : 98 ≤ k) : tnB b k = b k := tnB_o (Or.inr (by have := hb.1; omega))
theorem tnB_ok {b : bk} (hb : OKb b) : OKb (tnB b) := by
  have e0 : tnB b 0 = b 0 := tnB_o (Or.inl (by omega))
  have e1 : tnB b 1 = b 1 := tnB_o (Or.inl (by omega))
  refine ⟨by rw [e0]; exact hb.1, by rw [e1]; exact hb.2.1, fun p hp => ?_, fun w hw => ?_, fun p q hp hq hl ht => ?_⟩
  · rw [e0] at hp
    have hv := hb.2.2.1 p hp
    rw [tnB_L, tnB_W hp]
    refine ⟨hv.1, hv.2.1, (tnW_le hp).1, (tnW_le hp).2, fun k hk => ?_⟩
    rw [tnB_T (by omega)]
    exact hv.2.2.2.2 k hk
  · rw [e1] at hw
    have hv := hb.2.2.2.1 w hw
    have a1 : wL (tnB b) w = wL b w := tnB_hi hb (by omega)
    have a2 : wC (tnB b) w = wC b w := tnB_hi hb (by omega)
    rw [a1, a2]
    refine ⟨hv.1, hv.2.1, hv.2.2.1, hv.2.2.2.1, fun k hk => ?_⟩
    rw [show wT (tnB b) w k = wT b w k from tnB_hi hb (by omega)]
    exact hv.2.2.2.2 k hk
  · rw [e0] at hp hq
    rw [tnB_L, tnB_L] at hl
    have hv := hb.2.2.1 p hp
    refine hb.2.2.2.2 p q hp hq hl (fun k hk => ?_)
    have := ht k (by rw [tnB_L]; exact hk)
    rw [tnB_T (by omega), tnB_T (by omega)] at this
    exact this
/-- how many weights change -/
def tc (b : bk) : Nat → Nat
  | 0 => 0
  | p + 1 => tc b p + (if pW b p = tnW b p then 0 else 1)
theorem tune_L19 {N : Nat} {c : CV} {b : bk} (hb : OKb b) (hc : CR c b) {hi : HV} {lt : LV} {ac : AV} {bn : Nat → Int32} (hbn : ∀ p, p < b 0 → bn p = be b p (b 1)) {K : Int32 → Option (Int32 × CV × HV × LV × AV × (Nat → Int32))} {P : Int32 × CV × HV × LV × AV × (Nat → Int32) → Prop} (hK : wp (K (nI (gm b (b 0)))) P) :
    ∀ (f p : Nat), p ≤ b 0 → b 0 - p < f → wp (f_X7_tune_L19 N c hi lt ac bn K f (nI (gm b p)) (nI p)) P
  | 0, _, h1, h2 => by omega
  | f + 1, p, h1, h2 => by
    have h16 := hb.1
    rw [f_X7_tune_L19, hc.1]
    by_cases hp : p < b 0
    · obtain ⟨e, g⟩ := bb_le hb hp
      have hg := gm_le hb p h1
      rw [if_neg (show ¬ nI (b 0) ≤ nI p from nI_ge hp (by omega)), q_ck (show p < 16 by omega) (by decide), nI_clamp (show p < 2 ^ 31 by omega), hbn p hp, e, nI_1, q_bd]
      have ih := tune_L19 (N := N) hb hc (hi := hi) (lt := lt) (ac := ac) hbn hK f (p + 1) (by omega) (by omega)
      unfold gm at ih
      by_cases h : gm b p < bb b p
      · rw [if_pos (show nI (gm b p) < nI (bb b p) from nI_lt h (by omega))]
        rw [if_pos h] at ih
        exact ih
      · rw [if_neg (show ¬ nI (gm b p) < nI (bb b p) from nI_nlt (by omega) (by omega))]
        rw [if_neg h] at ih
        exact ih
    · have e : p = b 0 := by omega
      subst e
      rw [if_pos (show nI (b 0) ≤ nI (b 0) from nI_le (Nat.le_refl _) (by omega))]
      exact hK
/-- the weights up to p are tuned -/
def TR (c : CV) (b : bk) (f : Nat → Int32) (p : Nat) : Prop := (∀ q, q < p → f q = nI (tnW b q)) ∧ ∀ q, p ≤ q → q < b 0 → f q = nI (pW b q)
def setw (c : CV) (f : Nat → Int32) : CV := (c.1, c.2.1, c.2.2.1, f, c.2.2.2.2.1, c.2.2.2.2.2.1, c.2.2.2.2.2.2.1, c.2.2.2.2.2.2.2)
theorem setw_1 (c : CV) (f : Nat → Int32) : (setw c f).1 = c.1 := rfl
theorem setw_W (c : CV) (f : Nat → Int32) : (setw c f).2.2.2.1 = f := rfl
theorem tune_L51 {N : Nat} {c : CV} {b : bk} (hb : OKb b) (hc : CR c b) {hi : HV} {lt : LV} {ac : AV} {bn : Nat → Int32} (hbn : ∀ p, p < b 0 → bn p = be b p (b 1)) {K : Int32 → CV → Option (Int32 × CV × HV × LV × AV × (Nat → Int32))} {P : Int32 × CV × HV × LV × AV × (Nat → Int32) → Prop} (hK : ∀ w, TR c b w (b 0) → wp (K (nI (tc b (b 0))) (setw c w)) P) :
    ∀ (f p : Nat) (w : Nat → Int32), p ≤ b 0 → b 0 - p < f → TR c b w p → wp (f_X7_tune_L51 N (nI (gm b (b 0))) hi lt ac bn K f (nI (tc b p)) (nI p) (setw c w)) P
  | 0, _, _, h1, h2, _ => by omega
  | f + 1, p, w, h1, h2, h3 => by
    have h16 := hb.1
    rw [f_X7_tune_L51]
    by_cases hp : p < b 0
    · obtain ⟨e, g⟩ := bb_le hb hp
      have hg := gm_le hb (b 0) (Nat.le_refl _)
      have ht := tnW_le hp
      have hv := hb.2.2.1 p hp
      rw [if_neg (show ¬ (setw c w).1 ≤ nI p from by rw [setw_1, hc.1]; exact nI_ge hp (by omega)), q_jn]
      have key : wp (ck (nI p) 16 (if (setw c w).2.2.2.1 ((nI p).toNatClampNeg) = nI (tnW b p) then f_X7_tune_L51 N (nI (gm b (b 0))) hi lt ac bn K f (nI (tc b p)) (nI p + 1) (setw c w) else ck (nI p) 16 (f_X7_tune_L51 N (nI (gm b (b 0))) hi lt ac bn K f (nI (tc b p) + 1) (nI p + 1) (setw c (upd w ((nI p).toNatClampNeg) (nI (tnW b p))))))) P := by
        rw [q_ck (show p < 16 by omega) (by decide), q_ck (show p < 16 by omega) (by decide), setw_W, nI_clamp (show p < 2 ^ 31 by omega), h3.2 p (Nat.le_refl _) hp, nI_1, nI_1]
        have etc : tc b (p + 1) = tc b p + (if pW b p = tnW b p then 0 else 1) := rfl
        by_cases h : pW b p = tnW b p
        · rw [if_pos (show nI (pW b p) = nI (tnW b p) by rw [h])]
          have ih := tune_L51 (N := N) hb hc (hi := hi) (lt := lt) (ac := ac) hbn hK f (p + 1) w (by omega) (by omega) ⟨fun q hq => by
            by_cases e2 : q = p
            · rw [e2, h3.2 p (Nat.le_refl _) hp, h]
            · exact h3.1 q (by omega), fun q hq1 hq2 => h3.2 q (by omega) hq2⟩
          rw [etc, if_pos h] at ih
          exact ih
        · rw [if_neg (fun e2 => h ((nI_eq (by omega) (by omega)).mp e2))]
          have ih := tune_L51 (N := N) hb hc (hi := hi) (lt := lt) (ac := ac) hbn hK f (p + 1) (upd w p (nI (tnW b p))) (by omega) (by omega) ⟨fun q hq => by
            by_cases e2 : q = p
            · rw [e2]; exact upd_s _ _ _
            · exact (upd_o e2).trans (h3.1 q (by omega)), fun q hq1 hq2 => (upd_o (by omega)).trans (h3.2 q (by omega) hq2)⟩
          rw [etc, if_neg h] at ih
          exact ih
      by_cases h0 : gm b (b 0) = 0
      · have e1 : tnW b p = 1 := if_pos h0
        rw [e1] at key
        rw [if_pos ((q_le0 (by omega)).mpr (by omega))]
        exact key
      · have e1 : tnW b p = 1 + 8 * bb b p / gm b (b 0) := if_neg h0
        rw [e1] at key
        rw [if_neg (fun e2 => h0 (by have := (q_le0 (by omega)).mp e2; omega)), q_ck (show p < 16 by omega) (by decide), q_nz (by omega) (by omega), nI_clamp (show p < 2 ^ 31 by omega), hbn p hp, e, show (8 : Int32) = nI 8 from rfl, pk_mul, pk_div (by omega) (by omega) (by omega), q_1a]
        rw [nI_clamp (show p < 2 ^ 31 by omega)] at key
        exact key
    · have e : p = b 0 := by omega
      subst e
      rw [if_pos (show (setw c w).1 ≤ nI (b 0) from by rw [setw_1, hc.1]; exact nI_le (Nat.le_refl _) (by omega))]
      exact hK w h3
theorem tune_CR {c : CV} {b : bk} (hb : OKb b) (hc : CR c b) {w : Nat → Int32} (h : TR c b w (b 0)) : CR (setw c w) (tnB b) := by
  have e0 : tnB b 0 = b 0 := tnB_o (Or.inl (by omega))
  have e1 : tnB b 1 = b 1 := tnB_o (Or.inl (by omega))
  refine ⟨by rw [e0]; exact hc.1, by rw [e1]; exact hc.2.1, fun p hp => ?_, fun v hv => ?_⟩
  · rw [e0] at hp
    obtain ⟨g1, g2, g3⟩ := hc.2.2.1 p hp
    have hv := hb.2.2.1 p hp
    refine ⟨g1.trans ?_, g2.trans ?_, (h.1 p hp).trans ?_⟩
    · rw [tnB_L]
      exact congrArg nI (cod_congr _ (fun k hk => (tnB_T (by omega)).symm))
    · rw [tnB_L]
    · rw [tnB_W hp]
  · rw [e1] at hv
    obtain ⟨g1, g2, g3⟩ := hc.2.2.2 v hv
    have a1 : wL (tnB b) v = wL b v := tnB_hi hb (by omega)
    have a2 : wC (tnB b) v = wC b v := tnB_hi hb (by omega)
    refine ⟨g1.trans (by rw [a1]), g2.trans (by rw [a2]), fun k hk => ?_⟩
    rw [a1] at hk
    rw [show wT (tnB b) v k = wT b v k from tnB_hi hb (by omega)]
    exact g3 k hk
