/-! THE LAW'S product, best, unseen, cost, share -/
theorem q_cmple {a b : Nat} (ha : a < 2 ^ 63) (hb : b < 2 ^ 63) : lg_cmp (lN a) (lN b) ≤ 0 ↔ a ≤ b := by
  rw [q_cmp ha hb]
  by_cases h : b < a
  · rw [if_pos h]
    exact ⟨fun q => absurd q (by decide), fun q => by omega⟩
  · rw [if_neg h]
    by_cases h2 : a = b
    · rw [if_pos h2]
      exact ⟨fun _ => by omega, fun _ => by decide⟩
    · rw [if_neg h2]
      exact ⟨fun _ => by omega, fun _ => by decide⟩
theorem q_cmpeq {a b : Nat} (ha : a < 2 ^ 63) (hb : b < 2 ^ 63) : lg_cmp (lN a) (lN b) = 0 ↔ a = b := by
  rw [q_cmp ha hb]
  by_cases h : b < a
  · rw [if_pos h]
    exact ⟨fun q => absurd q (by decide), fun q => by omega⟩
  · rw [if_neg h]
    by_cases h2 : a = b
    · rw [if_pos h2]
      exact ⟨fun _ => h2, fun _ => rfl⟩
    · rw [if_neg h2]
      exact ⟨fun q => absurd q (by decide), fun q => absurd q h2⟩
theorem W0_9 {b : bk} (hb : OKb b) (w i L : Nat) : W0 b w i L ≤ 9 := (Wf_ok hb w none).2 i L
theorem W0_none {b : bk} {w i L : Nat} (h : pc b w i L = none) : W0 b w i L = if L = 1 then 1 else 0 := by
  show wgt b (drp none (pc b w i L)) L = _
  rw [h]
  rfl
theorem W0_some {b : bk} {w i L p : Nat} (h : pc b w i L = some p) : W0 b w i L = pW b p := by
  show wgt b (drp none (pc b w i L)) L = _
  rw [h]
  rfl
theorem p2c {n c : Nat} (h7 : n ≤ 7) (hc : c < 2 ^ (n - 1)) : c < 64 := by
  have h1 : 2 ^ (n - 1) ≤ 2 ^ 6 := Nat.pow_le_pow_right (by omega) (by omega)
  have h2 : (2 : Nat) ^ 6 = 64 := by decide
  omega
theorem p9c {i : Nat} (h : i ≤ 7) : 9 ^ i ≤ 4782969 := by
  have h1 : 9 ^ i ≤ 9 ^ 7 := Nat.pow_le_pow_right (by omega) h
  have h2 : (9 : Nat) ^ 7 = 4782969 := by decide
  omega
theorem ktF_9 {W : Nat → Nat → Nat} (h9 : ∀ i L, W i L ≤ 9) : ∀ m i L c, ktF W m i L c ≤ 9 ^ (m + 1)
  | 0, i, L, _ => h9 i L
  | m + 1, i, L, c => by
    show (if c % 2 = 0 then ktF W m i (L + 1) (c / 2) else W i L * ktF W m (i + L) 1 (c / 2)) ≤ 9 ^ (m + 1 + 1)
    have e : 9 ^ (m + 1 + 1) = 9 * 9 ^ (m + 1) := by rw [Nat.pow_succ 9 (m + 1), Nat.mul_comm]
    have h1 := ktF_9 h9 m i (L + 1) (c / 2)
    have h2 := Nat.mul_le_mul (h9 i L) (ktF_9 h9 m (i + L) 1 (c / 2))
    split <;> omega
theorem ktF_b {b : bk} (hb : OKb b) {w c : Nat} (h1 : 1 ≤ wL b w) (h7 : wL b w ≤ 7) : ktF (W0 b w) (wL b w - 1) 0 1 c ≤ 4782969 := by
  have h2 := ktF_9 (W0_9 hb w) (wL b w - 1) 0 1 c
  have h3 := p9c (i := wL b w - 1 + 1) (by omega)
  omega
/-- a part, and what stands behind it -/
theorem ktF_step {W : Nat → Nat → Nat} {n i c : Nat} (hi : i < n) : ktF W (n - 1 - i) i 1 (c / 2 ^ i) = W i (ktR (n - 1 - i) (c / 2 ^ i) + 1) * (if i + (ktR (n - 1 - i) (c / 2 ^ i) + 1) < n then ktF W (n - 1 - (i + (ktR (n - 1 - i) (c / 2 ^ i) + 1))) (i + (ktR (n - 1 - i) (c / 2 ^ i) + 1)) 1 (c / 2 ^ (i + (ktR (n - 1 - i) (c / 2 ^ i) + 1))) else 1) := by
  have h := ktF_1 W (n - 1 - i) i 1 (c / 2 ^ i)
  rw [h]
  generalize ktR (n - 1 - i) (c / 2 ^ i) = r
  rw [Nat.add_comm 1 r]
  by_cases g : r < n - 1 - i
  · rw [if_pos g, if_pos (by omega), Nat.div_div_eq_div_mul, ← Nat.pow_add, show n - 1 - i - r - 1 = n - 1 - (i + (r + 1)) by omega, show i + 1 + r = i + (r + 1) by omega]
  · rw [if_neg g, if_neg (by omega)]
theorem ktK_step {M : Nat → Nat → Nat} {n i c : Nat} (hi : i < n) : ktK M (n - 1 - i) i 1 (c / 2 ^ i) = M i (ktR (n - 1 - i) (c / 2 ^ i) + 1) + (if i + (ktR (n - 1 - i) (c / 2 ^ i) + 1) < n then ktK M (n - 1 - (i + (ktR (n - 1 - i) (c / 2 ^ i) + 1))) (i + (ktR (n - 1 - i) (c / 2 ^ i) + 1)) 1 (c / 2 ^ (i + (ktR (n - 1 - i) (c / 2 ^ i) + 1))) else 0) := by
  have h := ktK_1 M (n - 1 - i) i 1 (c / 2 ^ i)
  rw [h]
  generalize ktR (n - 1 - i) (c / 2 ^ i) = r
  rw [Nat.add_comm 1 r]
  by_cases g : r < n - 1 - i
  · rw [if_pos g, if_pos (by omega), Nat.div_div_eq_div_mul, ← Nat.pow_add, show n - 1 - i - r - 1 = n - 1 - (i + (r + 1)) by omega, show i + 1 + r = i + (r + 1) by omega]
  · rw [if_neg g, if_neg (by omega)]
set_option maxHeartbeats 1000000 in
theorem product_L {N : Nat} (hN : 200 < N) {ra rb : Nat → Int32} {b : bk} (hb : OKb b) (hq : QP ra rb b) {w : Nat} (hw : w < b 1) (h7 : wL b w ≤ 7) {c : Nat} (hc : c < 2 ^ (wL b w - 1)) {K : Int64 → Option Int64} : ∀ (f i acc : Nat), i ≤ wL b w → wL b w - i < f → acc ≤ 9 ^ i → f_L_product_L12 N ra rb (nI (wTx b w)) (nI c) (nI (wL b w)) K f (lN acc) (nI i) = K (lN (acc * (if i < wL b w then ktF (W0 b w) (wL b w - 1 - i) i 1 (c / 2 ^ i) else 1)))
  | 0, _, _, _, h, _ => by omega
  | f + 1, i, acc, hi, hf, ha => by
    have hc6 := p2c h7 hc
    have h8 := hq.2.2.1
    have h9 := p9c (i := i) (by omega)
    rw [f_L_product_L12]
    by_cases g : wL b w ≤ i
    · rw [if_pos (nI_le g (by omega)), if_neg (show ¬ i < wL b w by omega), Nat.mul_one]
    · rw [if_neg (nI_ge (show i < wL b w by omega) (by omega)), if_pos (show i < wL b w by omega), l0]
      by_cases a0 : acc = 0
      · rw [if_pos ((q_cmple (by omega) (by decide)).2 (by omega)), a0, Nat.zero_mul]
      · rw [if_neg (fun q => a0 (by have := (q_cmple (a := acc) (b := 0) (by omega) (by decide)).1 q; omega)), reaches_ok hN h7 (by omega) (show i < wL b w by omega), Option.bind_some]
        have hs := ktF_step (W := W0 b w) (c := c) (show i < wL b w by omega)
        have hr := ktR_le (wL b w - 1 - i) (c / 2 ^ i)
        rw [hs]
        generalize ktR (wL b w - 1 - i) (c / 2 ^ i) = r at *
        have key : ∀ v, v = W0 b w i (r + 1) → f_L_product_L12 N ra rb (nI (wTx b w)) (nI c) (nI (wL b w)) K f (lN (acc * v)) (nI (i + (r + 1))) = K (lN (acc * (W0 b w i (r + 1) * (if i + (r + 1) < wL b w then ktF (W0 b w) (wL b w - 1 - (i + (r + 1))) (i + (r + 1)) 1 (c / 2 ^ (i + (r + 1))) else 1)))) := by
          intro v hv
          have hv9 : v ≤ 9 := by rw [hv]; exact W0_9 hb w i (r + 1)
          have e1 : acc * v ≤ 9 ^ i * 9 := Nat.mul_le_mul ha hv9
          have e2 : 9 ^ i * 9 ≤ 9 ^ (i + (r + 1)) := by
            rw [← Nat.pow_succ]
            exact Nat.pow_le_pow_right (by omega) (by omega)
          rw [product_L hN hb hq hw h7 hc f (i + (r + 1)) (acc * v) (by omega) (by omega) (by omega), hv, Nat.mul_assoc]
        unfold jn
        dsimp only
        have none_ : ∀ e : pc b w i (r + 1) = none, (if nI (r + 1) = 1 then bd (lN acc * 1) (fun (x5_1 : Int64) => (some (nI (r + 1))).bind (fun (r_102 : Int32) => bd (nI i + r_102) (fun (x7_2 : Int32) => f_L_product_L12 N ra rb (nI (wTx b w)) (nI c) (nI (wL b w)) K f x5_1 x7_2))) else bd (lN acc * lN 0) (fun (x5_1 : Int64) => (some (nI (r + 1))).bind (fun (r_102 : Int32) => bd (nI i + r_102) (fun (x7_2 : Int32) => f_L_product_L12 N ra rb (nI (wTx b w)) (nI c) (nI (wL b w)) K f x5_1 x7_2)))) = K (lN (acc * (W0 b w i (r + 1) * (if i + (r + 1) < wL b w then ktF (W0 b w) (wL b w - 1 - (i + (r + 1))) (i + (r + 1)) 1 (c / 2 ^ (i + (r + 1))) else 1)))) := by
          intro e
          have e0 := W0_none e
          by_cases z : r = 0
          · subst z
            rw [if_pos (show nI (0 + 1) = 1 by decide), q_bd, Option.bind_some, q_bd, nI_add, l1, lN_mul]
            exact key 1 e0.symm
          · rw [if_neg (fun q => z (by have := (nI_eq (a := r + 1) (b := 1) (by omega) (by decide)).1 q; omega)), q_bd, Option.bind_some, q_bd, nI_add, lN_mul]
            exact key 0 (e0.trans (if_neg (by omega))).symm
        by_cases h4 : r + 1 ≤ 4
        · rw [if_pos (show nI (r + 1) ≤ 4 from nI_le (b := 4) h4 (by decide)), show nI (wTx b w) = nI (cod 7 (wT b w) (wL b w)) from rfl, some_ok hN (wt_ok hb hw h7) (show i + (r + 1) ≤ wL b w by omega), Option.bind_some, lpart_ok hN hb hq hw h7 (show i + (r + 1) ≤ wL b w by omega), Option.bind_some]
          cases e : pc b w i (r + 1) with
          | none =>
            rw [show oI (-6) none = -6 from rfl, if_pos (show (-6 : Int32) < 0 by decide)]
            exact none_ e
          | some p =>
            obtain ⟨p1, p2⟩ := pc_lt e
            have hp9 := (hb.2.2.1 p p1).2.2.2.1
            rw [show oI (-6) (some p) = nI p from rfl, if_neg (show ¬ nI p < 0 from nI_pos (by omega)), show (2 : Int32) = nI 2 from rfl, pk_mul, nI_1, q_ck (show 2 * p + 1 < 16 by omega) (by decide), nI_clamp (show 2 * p + 1 < 2 ^ 31 by omega), (hq.2.2.2 p p1).2, q_toL (by omega), q_bd, Option.bind_some, q_bd, nI_add, lN_mul]
            exact key _ (W0_some e).symm
        · rw [if_neg (show ¬ nI (r + 1) ≤ 4 from nI_ge (a := 4) (by omega) (by omega)), if_pos (show (-6 : Int32) < 0 by decide)]
          exact none_ (pc_hi hb (by omega))
theorem product_ok {N : Nat} (hN : 200 < N) {ra rb : Nat → Int32} {b : bk} (hb : OKb b) (hq : QP ra rb b) {w : Nat} (hw : w < b 1) (h7 : wL b w ≤ 7) {c : Nat} (hc : c < 2 ^ (wL b w - 1)) : f_L_product N ra rb (nI (wTx b w)) (nI c) = some (lN (ktF (W0 b w) (wL b w - 1) 0 1 c)) := by
  have h1 := (hb.2.2.2.1 w hw).1
  unfold f_L_product
  rw [show f_L_size N (nI (wTx b w)) = some (nI (wL b w)) from size_ok hN (wt_ok hb hw h7), Option.bind_some]
  refine (product_L (N := N) hN hb hq hw h7 hc (K := fun (x5_12 : Int64) => some x5_12) N 0 1 (by omega) (by omega) (by decide)).trans ?_
  rw [if_pos (show 0 < wL b w by omega), Nat.one_mul, Nat.pow_zero, Nat.div_one, Nat.sub_zero]
/-! best -/
theorem q_lex : ∀ m, m < 7 → ∀ c, c < 2 ^ m → ∀ d, d < 2 ^ m → c ≠ d → ((((nI c &&& (nI c ^^^ nI d)) &&& (-(nI c ^^^ nI d))) = 0) ↔ ktV m c < ktV m d) := by decide +kernel
theorem q_shl1 : ∀ t, t < 31 → ((1 : Int32) <<< (nI t &&& 31)) = nI (2 ^ t) := by decide
theorem q_subneg {a b : Nat} (ha : a < 2 ^ 30) (hb : b < 2 ^ 30) : nI a - nI b < 0 ↔ a < b := by
  rw [Int32.lt_iff_toInt_lt, pk_sub_toInt ha hb]
  show (a : Int) - b < 0 ↔ a < b
  omega
theorem q_sub0 {a b : Nat} (ha : a < 2 ^ 30) (hb : b < 2 ^ 30) : nI a - nI b = 0 ↔ a = b := by
  rw [← Int32.toInt_inj, pk_sub_toInt ha hb]
  show (a : Int) - b = 0 ↔ a = b
  omega
def ktI (F B V : Nat → Nat) (c : Nat) (x3 : Int32) (x4 : Int64) : Prop := (x3 = -1 ∧ x4 = lN 0 ∧ ∀ c', c' < c → F c' = 0) ∨ ∃ d, d < c ∧ x3 = nI d ∧ x4 = lN (F d) ∧ 0 < F d ∧ ∀ c', c' < c → c' ≠ d → ktT (F d) (B d) (V d) (F c') (B c') (V c')
theorem ktc_top {b : bk} (hb : OKb b) {w : Nat} (hw : w < b 1) : ktc (W0 b w) (wL b w) 0 < 2 ^ (wL b w - 1) ∧ ktF (W0 b w) (wL b w - 1) 0 1 (ktc (W0 b w) (wL b w) 0) = (bs (W0 b w) (wL b w) 0).1 ∧ ktB (wL b w - 1) (ktc (W0 b w) (wL b w) 0) + 1 = nP b w none ∧
    ∀ c, c < 2 ^ (wL b w - 1) → c ≠ ktc (W0 b w) (wL b w) 0 → ktT (bs (W0 b w) (wL b w) 0).1 (ktB (wL b w - 1) (ktc (W0 b w) (wL b w) 0)) (ktV (wL b w - 1) (ktc (W0 b w) (wL b w) 0)) (ktF (W0 b w) (wL b w - 1) 0 1 c) (ktB (wL b w - 1) c) (ktV (wL b w - 1) c) := by
  have h1 := (hb.2.2.2.1 w hw).1
  have h := ktc_all (Wf_ok hb w none) (W0_4 hb w) (wL b w - 0) 0 rfl (by omega)
  rw [Nat.sub_zero] at h
  exact h
set_option maxHeartbeats 1000000 in
theorem best_L {N : Nat} (hN : 200 < N) {ra rb : Nat → Int32} {b : bk} (hb : OKb b) (hq : QP ra rb b) {w : Nat} (hw : w < b 1) (h7 : wL b w ≤ 7) {K : Int32 → Option Int32} : ∀ (f c : Nat) (x3 : Int32) (x4 : Int64), c ≤ 2 ^ (wL b w - 1) → 2 ^ (wL b w - 1) - c < f → ktI (ktF (W0 b w) (wL b w - 1) 0 1) (ktB (wL b w - 1)) (ktV (wL b w - 1)) c x3 x4 → f_L_best_L8 N ra rb (nI (wTx b w)) K f x3 x4 (nI c) = K (nI (ktc (W0 b w) (wL b w) 0))
  | 0, _, _, _, _, h, _ => by omega
  | f + 1, c, x3, x4, hc, hf, hI => by
    have h1 := (hb.2.2.2.1 w hw).1
    have p6 : 2 ^ (wL b w - 1) ≤ 2 ^ 6 := Nat.pow_le_pow_right (by omega) (by omega)
    have p64 : (2 : Nat) ^ 6 = 64 := by decide
    obtain ⟨t1, t2, t3, t4⟩ := ktc_top hb hw
    have t5 : 1 ≤ (bs (W0 b w) (wL b w) 0).1 := (bs_all (Wf_ok hb w none) _ 0 (by omega) rfl).1
    rw [f_L_best_L8, show f_L_size N (nI (wTx b w)) = some (nI (wL b w)) from size_ok hN (wt_ok hb hw h7), Option.bind_some, show nI (wL b w) - 1 = nI (wL b w - 1) from pk_sub (b := 1) h1, q_shl1 _ (by omega)]
    by_cases g : 2 ^ (wL b w - 1) ≤ c
    · rw [if_pos (nI_le g (by omega))]
      have ec : c = 2 ^ (wL b w - 1) := by omega
      rcases hI with ⟨-, -, e3⟩ | ⟨d, d1, rfl, -, d2, d3⟩
      · have e4 : ktF (W0 b w) (wL b w - 1) 0 1 (ktc (W0 b w) (wL b w) 0) = 0 := e3 (ktc (W0 b w) (wL b w) 0) (by rw [ec]; exact t1)
        omega
      · by_cases z : d = ktc (W0 b w) (wL b w) 0
        · rw [z]
        · have u1 := d3 (ktc (W0 b w) (wL b w) 0) (by rw [ec]; exact t1) (fun q => z q.symm)
          have u2 := t4 d (by omega) z
          rw [← t2] at u2
          unfold ktT at u1 u2
          omega
    · have hc2 : c < 2 ^ (wL b w - 1) := by omega
      have hrec : ∀ y3 y4, ktI (ktF (W0 b w) (wL b w - 1) 0 1) (ktB (wL b w - 1)) (ktV (wL b w - 1)) (c + 1) y3 y4 → f_L_best_L8 N ra rb (nI (wTx b w)) K f y3 y4 (nI c + 1) = K (nI (ktc (W0 b w) (wL b w) 0)) := fun y3 y4 hy => by
        rw [nI_1]
        exact best_L hN hb hq hw h7 f (c + 1) y3 y4 (by omega) (by omega) hy
      have hFb : ∀ c, ktF (W0 b w) (wL b w - 1) 0 1 c ≤ 4782969 := fun c => ktF_b hb h1 h7
      rw [if_neg (nI_ge hc2 (by omega)), product_ok hN hb hq hw h7 hc2, Option.bind_some]
      unfold jn
      dsimp only
      rcases hI with ⟨rfl, rfl, e3⟩ | ⟨d, d1, rfl, rfl, d2, d3⟩
      · rw [if_pos (show (-1 : Int32) < 0 by decide), if_pos (show (-1 : Int32) < 0 by decide)]
        by_cases z : ktF (W0 b w) (wL b w - 1) 0 1 c = 0
        · rw [if_pos ((q_cmple (by have := hFb c; omega) (by decide)).2 (by omega)), if_pos n00, if_pos n00]
          refine hrec _ _ (Or.inl ⟨rfl, rfl, fun c' hc' => ?_⟩)
          by_cases y : c' = c
          · rw [y]; exact z
          · exact e3 c' (by omega)
        · rw [if_neg (fun q => z (by have := (q_cmple (by have := hFb c; omega) (by decide)).1 q; omega)), if_neg n10, if_neg n10]
          refine hrec _ _ (Or.inr ⟨c, by omega, rfl, rfl, by omega, fun c' hc' hne => Or.inl ?_⟩)
          have := e3 c' (by omega)
          omega
      · have hd0 : ¬ nI d < 0 := nI_pos (by omega)
        have hFc := hFb c
        have hFd := hFb d
        rw [if_neg hd0, if_neg hd0]
        have stay : ktT (ktF (W0 b w) (wL b w - 1) 0 1 d) (ktB (wL b w - 1) d) (ktV (wL b w - 1) d) (ktF (W0 b w) (wL b w - 1) 0 1 c) (ktB (wL b w - 1) c) (ktV (wL b w - 1) c) → ktI (ktF (W0 b w) (wL b w - 1) 0 1) (ktB (wL b w - 1)) (ktV (wL b w - 1)) (c + 1) (nI d) (lN (ktF (W0 b w) (wL b w - 1) 0 1 d)) := fun h => Or.inr ⟨d, by omega, rfl, rfl, d2, fun c' hc' hne => by
          by_cases y : c' = c
          · rw [y]; exact h
          · exact d3 c' (by omega) hne⟩
        have go_ : ktT (ktF (W0 b w) (wL b w - 1) 0 1 c) (ktB (wL b w - 1) c) (ktV (wL b w - 1) c) (ktF (W0 b w) (wL b w - 1) 0 1 d) (ktB (wL b w - 1) d) (ktV (wL b w - 1) d) → ktI (ktF (W0 b w) (wL b w - 1) 0 1) (ktB (wL b w - 1)) (ktV (wL b w - 1)) (c + 1) (nI c) (lN (ktF (W0 b w) (wL b w - 1) 0 1 c)) := fun h => Or.inr ⟨c, by omega, rfl, rfl, by unfold ktT at h; omega, fun c' hc' hne => by
          by_cases y : c' = d
          · rw [y]; exact h
          · have h2 := d3 c' (by omega) y
            unfold ktT at h h2 ⊢
            omega⟩
        by_cases z : ktF (W0 b w) (wL b w - 1) 0 1 c = ktF (W0 b w) (wL b w - 1) 0 1 d
        · have hbit : ∀ e, e < 2 ^ (wL b w - 1) → f_L_bits N (nI e) = some (nI (ktB (wL b w - 1) e)) := fun e he => bits_ok hN (by omega) he
          have hBb : ∀ e, ktB (wL b w - 1) e ≤ 6 := fun e => by
            have key : ∀ m c, ktB m c ≤ m := by
              intro m
              induction m with
              | zero => intro c; exact Nat.le_refl _
              | succ m ih =>
                intro c
                have := ih (c / 2)
                show c % 2 + ktB m (c / 2) ≤ m + 1
                omega
            have := key (wL b w - 1) e
            omega
          have hBc := hBb c
          have hBd := hBb d
          have hle : (lg_cmp (lN (ktF (W0 b w) (wL b w - 1) 0 1 c)) (lN (ktF (W0 b w) (wL b w - 1) 0 1 d)) ≤ 0) := (q_cmple (by omega) (by omega)).2 (by omega)
          have heq : (lg_cmp (lN (ktF (W0 b w) (wL b w - 1) 0 1 c)) (lN (ktF (W0 b w) (wL b w - 1) 0 1 d)) = 0) := (q_cmpeq (by omega) (by omega)).2 z
          have hn0 : ¬ (lg_cmp (lN (ktF (W0 b w) (wL b w - 1) 0 1 c)) 0 ≤ 0) := fun q => by
            have := (q_cmple (b := 0) (by omega) (by decide)).1 q
            omega
          have hlex := q_lex (wL b w - 1) (by omega) c hc2 d (by omega) (by omega)
          have hVne : ktV (wL b w - 1) c ≠ ktV (wL b w - 1) d := fun q => by
            have := ktV_inj (wL b w - 1) c d hc2 (by omega) q
            omega
          rw [if_pos hle, if_pos heq, if_neg hn0, hbit c hc2, Option.bind_some, hbit d (by omega), Option.bind_some, q_bd, q_bd]
          by_cases b1 : ktB (wL b w - 1) c < ktB (wL b w - 1) d
          · rw [if_pos ((q_subneg (by omega) (by omega)).2 b1), if_neg n10, if_neg n10]
            exact hrec _ _ (go_ (Or.inr ⟨z, Or.inl b1⟩))
          · rw [if_neg (fun q => b1 ((q_subneg (by omega) (by omega)).1 q))]
            by_cases b2 : ktB (wL b w - 1) c = ktB (wL b w - 1) d
            · rw [if_pos ((q_sub0 (by omega) (by omega)).2 b2)]
              by_cases v : ktV (wL b w - 1) c < ktV (wL b w - 1) d
              · rw [if_pos (hlex.2 v), if_neg n10, if_neg n10]
                exact hrec _ _ (go_ (Or.inr ⟨z, Or.inr ⟨b2, v⟩⟩))
              · rw [if_neg (fun q => v (hlex.1 q)), if_pos n00, if_pos n00]
                exact hrec _ _ (stay (Or.inr ⟨z.symm, Or.inr ⟨b2.symm, by omega⟩⟩))
            · rw [if_neg (fun q => b2 ((q_sub0 (by omega) (by omega)).1 q)), if_pos n00, if_pos n00]
              exact hrec _ _ (stay (Or.inr ⟨z.symm, Or.inl (by omega)⟩))
        · have hneq : ¬ (lg_cmp (lN (ktF (W0 b w) (wL b w - 1) 0 1 c)) (lN (ktF (W0 b w) (wL b w - 1) 0 1 d)) = 0) := fun q => z ((q_cmpeq (by omega) (by omega)).1 q)
          rw [if_neg hneq, if_neg hneq]
          by_cases y : ktF (W0 b w) (wL b w - 1) 0 1 c < ktF (W0 b w) (wL b w - 1) 0 1 d
          · rw [if_pos ((q_cmple (by omega) (by omega)).2 (by omega)), if_pos n00, if_pos n00]
            exact hrec _ _ (stay (Or.inl y))
          · rw [if_neg (fun q => y (by have := (q_cmple (by omega) (by omega)).1 q; omega)), if_neg n10, if_neg n10]
            exact hrec _ _ (go_ (Or.inl (by omega)))
/-- the law's best of all cuts -/
theorem best_ok {N : Nat} (hN : 200 < N) {ra rb : Nat → Int32} {b : bk} (hb : OKb b) (hq : QP ra rb b) {w : Nat} (hw : w < b 1) (h7 : wL b w ≤ 7) : f_L_best N ra rb (nI (wTx b w)) = some (nI (ktc (W0 b w) (wL b w) 0)) := by
  have p6 : 2 ^ (wL b w - 1) ≤ 2 ^ 6 := Nat.pow_le_pow_right (by omega) (by omega)
  have p64 : (2 : Nat) ^ 6 = 64 := by decide
  unfold f_L_best
  exact best_L (N := N) hN hb hq hw h7 N 0 (-1) 0 (Nat.zero_le _) (by omega) (Or.inl ⟨rfl, rfl, fun c' h => by omega⟩)
