/-! put -/
theorem q_255 (n : Nat) : nI n &&& 255 = nI (n % 256) := by
  rw [pk_and (nI n) 8 (by decide)]
  refine congrArg nI ?_
  show (BitVec.ofNat 32 n).toNat % 2 ^ 8 = n % 256
  rw [BitVec.toNat_ofNat]
  omega
/-- how many characters such a number gives: m places left, n the rest, k so far; 0 if it is no good one -/
def chn : Nat → Nat → Nat → Nat
  | 0, _, k => k
  | m + 1, n, k => if n = 0 then k else if 33 ≤ n % 256 ∧ n % 256 ≤ 126 then chn m (n / 256) (k + 1) else 0
theorem chn_0 : ∀ m k, chn m 0 k = k
  | 0, _ => rfl
  | m + 1, k => if_pos rfl
theorem chn_g {m n k : Nat} (h0 : n ≠ 0) (g : 33 ≤ n % 256 ∧ n % 256 ≤ 126) : chn (m + 1) n k = chn m (n / 256) (k + 1) := (if_neg h0).trans (if_pos g)
theorem chn_b {m n k : Nat} (h0 : n ≠ 0) (g : ¬ (33 ≤ n % 256 ∧ n % 256 ≤ 126)) : chn (m + 1) n k = 0 := (if_neg h0).trans (if_neg g)
theorem chn_all : ∀ m n k, chn m n k ≠ 0 → k ≤ chn m n k ∧ chn m n k ≤ k + m ∧ ∀ j, k + j < chn m n k → 33 ≤ n / 256 ^ j % 256 ∧ n / 256 ^ j % 256 ≤ 126
  | 0, n, k, _ => ⟨Nat.le_refl _, Nat.le_refl _, fun j h => absurd h (show ¬ k + j < k by omega)⟩
  | m + 1, n, k, h => by
    by_cases h0 : n = 0
    · subst h0
      rw [chn_0]
      exact ⟨Nat.le_refl _, by omega, fun j hj => absurd hj (by omega)⟩
    · by_cases g : 33 ≤ n % 256 ∧ n % 256 ≤ 126
      · rw [chn_g h0 g] at h ⊢
        obtain ⟨h1, h2, h3⟩ := chn_all m (n / 256) (k + 1) h
        refine ⟨by omega, by omega, fun j hj => ?_⟩
        cases j with
        | zero => rw [Nat.pow_zero, Nat.div_one]; exact g
        | succ j =>
          have e : n / 256 ^ (j + 1) = n / 256 / 256 ^ j := by rw [Nat.div_div_eq_div_mul, Nat.pow_succ, Nat.mul_comm]
          rw [e]
          exact h3 j (by omega)
      · rw [chn_b h0 g] at h
        exact absurd rfl h
theorem p256 {m n : Nat} (hm : m ≤ 8) (h : n < 256 ^ m) : n < 2 ^ 64 := by
  have hp : 256 ^ m ≤ 256 ^ 8 := Nat.pow_le_pow_right (by decide) hm
  exact Nat.lt_of_lt_of_le h (Nat.le_trans hp (by decide))
theorem p256d {m n : Nat} (h : n < 256 ^ (m + 1)) : n / 256 < 256 ^ m := by
  rw [Nat.pow_succ, Nat.mul_comm] at h
  exact Nat.div_lt_of_lt_mul h
theorem chr_L {N : Nat} {x0 : Int64} : ∀ (f m k n : Nat), k + m = 8 → m < f → n < 256 ^ m → f_X7_charactersIn_L8 N x0 (fun a => some a) f (lN n) (nI k) (nI k) = some (nI (chn m n k))
  | 0, _, _, _, _, h, _ => by omega
  | f + 1, 0, k, n, e, _, hn => by
    have e2 : k = 8 := by omega
    subst e2
    rw [f_X7_charactersIn_L8, if_pos (show (8 : Int32) ≤ nI 8 by decide)]
    rfl
  | f + 1, m + 1, k, n, e, h, hn => by
    have h64 := p256 (show m + 1 ≤ 8 by omega) hn
    rw [f_X7_charactersIn_L8, if_neg (show ¬ (8 : Int32) ≤ nI k from nI_ge (b := 8) (by omega) (by decide))]
    by_cases h0 : n = 0
    · rw [if_pos ((q_cmp0 h64).2 h0), h0, chn_0]
    · rw [if_neg (fun q => h0 ((q_cmp0 h64).1 q)), lN_255 h64, lN_i, q_bd]
      by_cases g : 33 ≤ n % 256 ∧ n % 256 ≤ 126
      · rw [if_neg (show ¬ nI (n % 256) < (33 : Int32) from nI_nlt (b := 33) g.1 (by omega)), if_pos (show nI (n % 256) ≤ (126 : Int32) from nI_le (b := 126) g.2 (by decide)), q_shr8 h64, q_bd, nI_1, chn_g h0 g]
        exact chr_L f m (k + 1) (n / 256) (by omega) (by omega) (p256d hn)
      · rw [chn_b h0 g]
        by_cases g1 : n % 256 < 33
        · rw [if_pos (show nI (n % 256) < (33 : Int32) from nI_lt (b := 33) g1 (by decide))]
          rfl
        · rw [if_neg (show ¬ nI (n % 256) < (33 : Int32) from nI_nlt (b := 33) (by omega) (by omega)), if_neg (show ¬ nI (n % 256) ≤ (126 : Int32) from nI_ge (a := 126) (by omega) (by omega))]
          rfl
theorem chr_ok {N : Nat} (hN : 16 < N) {n : Nat} (hn : n < 2 ^ 64) : f_X7_charactersIn N (lN n) = some (nI (chn 8 n 0)) := by
  unfold f_X7_charactersIn
  exact chr_L N 8 0 n (by omega) (by omega) (show n < 256 ^ 8 from hn)
theorem putM_0 {N : Nat} {x1 : Int64} {mo : MV} {K : Int32 → Int64 → Int32 → Option (Int32 × MV)} {R : Option (Int32 × MV)} (hK : ∀ a b, K a b 0 = R) : ∀ (f m k n : Nat), k + m = 8 → m < f → n < 2 ^ 64 → f_X8_put_L8 N x1 mo K f (nI k) (lN n) 0 = R
  | 0, _, _, _, _, h, _ => by omega
  | f + 1, 0, k, n, e, _, _ => by
    have e2 : k = 8 := by omega
    subst e2
    rw [f_X8_put_L8, if_pos (show (8 : Int32) ≤ nI 8 by decide)]
    exact hK _ _
  | f + 1, m + 1, k, n, e, h, hn => by
    have c1 : lg_cmp (lN n &&& 255) 0 = 0 ↔ n % 256 = 0 := by
      rw [lN_255 hn]
      exact q_cmp0 (by omega)
    rw [f_X8_put_L8, if_neg (show ¬ (8 : Int32) ≤ nI k from nI_ge (b := 8) (by omega) (by decide))]
    by_cases h0 : n % 256 = 0
    · rw [if_pos (c1.2 h0)]
      exact hK _ _
    · rw [if_neg (fun q => h0 (c1.1 q))]
      unfold jn
      dsimp only
      rw [if_pos (show (0 : Int32) = 0 from rfl), q_shr8 hn, q_bd, nI_1]
      exact putM_0 hK f m (k + 1) (n / 256) (by omega) (by omega) (Nat.lt_of_le_of_lt (Nat.div_le_self _ _) hn)
theorem putM_1 {N : Nat} {x1 : Int64} {mo : MV} {K : Int32 → Int64 → Int32 → Option (Int32 × MV)} {R : Option (Int32 × MV)} (hK0 : ∀ b c, K (nI 0) b c = R) (hK1 : ∀ a b, K a b 0 = R) (hK2 : ∀ a n, n < 2 ^ 64 → n ≠ 0 → K a (lN n) 1 = R) : ∀ (f m k n : Nat), k + m = 8 → m < f → n < 256 ^ m → f_X8_put_L8 N x1 mo K f (nI k) (lN n) 1 = if chn m n k = 0 then R else K (nI (chn m n k)) (lN 0) 1
  | 0, _, _, _, _, h, _ => by omega
  | f + 1, 0, k, n, e, _, hn => by
    have e2 : k = 8 := by omega
    have e3 : n = 0 := by
      rw [Nat.pow_zero] at hn
      omega
    subst e2
    subst e3
    rw [f_X8_put_L8, if_pos (show (8 : Int32) ≤ nI 8 by decide)]
    exact (if_neg (show ¬ chn 0 0 8 = 0 by decide)).symm
  | f + 1, m + 1, k, n, e, h, hn => by
    have h64 := p256 (show m + 1 ≤ 8 by omega) hn
    have c1 : lg_cmp (lN n &&& 255) 0 = 0 ↔ n % 256 = 0 := by
      rw [lN_255 h64]
      exact q_cmp0 (by omega)
    rw [f_X8_put_L8, if_neg (show ¬ (8 : Int32) ≤ nI k from nI_ge (b := 8) (by omega) (by decide))]
    by_cases h0 : n % 256 = 0
    · rw [if_pos (c1.2 h0)]
      by_cases h1 : n = 0
      · subst h1
        rw [chn_0]
        by_cases h2 : k = 0
        · rw [if_pos h2, h2]
          exact hK0 _ _
        · rw [if_neg h2]
      · rw [chn_b h1 (by omega), if_pos rfl]
        exact hK2 _ n h64 h1
    · have h1 : n ≠ 0 := fun q => h0 (by rw [q])
      rw [if_neg (fun q => h0 (c1.1 q))]
      unfold jn
      dsimp only
      rw [if_neg (show ¬ (1 : Int32) = 0 by decide), lN_255 h64, lN_i, show f_X8_within N (nI (n % 256)) 33 126 = some (nI (if 33 ≤ n % 256 ∧ n % 256 ≤ 126 then 1 else 0)) from within_ok (lo := 33) (hi := 126) (by omega) (by decide) (by decide), Option.bind_some]
      by_cases g : 33 ≤ n % 256 ∧ n % 256 ≤ 126
      · rw [if_pos g, if_neg (show ¬ nI 1 = (0 : Int32) by decide), q_shr8 h64, q_bd, nI_1, chn_g h1 g]
        exact putM_1 hK0 hK1 hK2 f m (k + 1) (n / 256) (by omega) (by omega) (p256d hn)
      · rw [if_neg g, if_pos (show nI 0 = (0 : Int32) from rfl), q_shr8 h64, q_bd, nI_1, chn_b h1 g, if_pos rfl]
        exact putM_0 hK1 f m (k + 1) (n / 256) (by omega) (by omega) (Nat.lt_of_le_of_lt (Nat.div_le_self _ _) h64)
/-- the pad with g characters of n behind its k0 -/
def cx (c : Nat → Nat) (k0 n g : Nat) : Nat → Nat := fun k => if k < k0 then c k else n / 256 ^ (k0 + g - 1 - k) % 256
theorem putC_L {N : Nat} {n : Nat} (hn : n < 2 ^ 64) {c : Nat → Nat} {k0 g : Nat} (hg : g ≤ 8) (h16 : k0 + g ≤ 16) (hc : ∀ j, j < g → n / 256 ^ j % 256 < 128) {K : PV → Option (Int32 × PV)} {P : Int32 × PV → Prop} (hK : ∀ pd, PC pd (cx c k0 n g) (k0 + g) → wp (K pd) P) : ∀ (f i : Nat) (pd : PV), i ≤ g → i < f → PC pd (cx c k0 n g) (k0 + g - i) → wp (f_X7_put_L34 N (lN n) K f (nI i - 1) pd) P
  | 0, _, _, _, h, _ => by omega
  | f + 1, 0, pd, _, _, h => by
    rw [f_X7_put_L34, if_pos (show nI 0 - 1 < (0 : Int32) by decide)]
    exact hK pd h
  | f + 1, i + 1, pd, h1, h2, h => by
    have e1 := h.2.1
    have hd : n / 256 ^ i < 2 ^ 64 := Nat.lt_of_le_of_lt (Nat.div_le_self _ _) hn
    rw [f_X7_put_L34, nI_pred, if_neg (show ¬ nI i < (0 : Int32) from nI_pos (by omega)), q_shrk hn (by omega), lN_i, q_255]
    unfold f_X6_append
    rw [if_pos (show pd.1 < (16 : Int32) by rw [e1]; exact nI_lt (b := 16) (by omega) (by decide)), e1, q_ck (show k0 + g - (i + 1) < 16 by omega) (by decide), Option.bind_some, nI_clamp (show k0 + g - (i + 1) < 2 ^ 31 by omega), dn_m1, nI_1]
    refine putC_L hn hg h16 hc hK f i _ (by omega) (by omega) ⟨by omega, ?_, fun k hk => ?_⟩
    · show nI (k0 + g - (i + 1) + 1) = nI (k0 + g - i)
      exact congrArg nI (by omega)
    · by_cases e : k = k0 + g - (i + 1)
      · have e2 : cx c k0 n g k = n / 256 ^ i % 256 := by
          unfold cx
          rw [if_neg (by omega), show k0 + g - 1 - k = i by omega]
        rw [e2, e]
        exact ⟨upd_s _ _ _, hc i (by omega)⟩
      · obtain ⟨q1, q2⟩ := h.2.2 k (by omega)
        exact ⟨(upd_o e).trans q1, q2⟩
def setp (mo : MV) (P : Nat → Int32) (L : Int32) : MV := (mo.1, mo.2.1, mo.2.2.1, mo.2.2.2.1, mo.2.2.2.2.1, mo.2.2.2.2.2.1, P, L, mo.2.2.2.2.2.2.2.2.1, mo.2.2.2.2.2.2.2.2.2.1, mo.2.2.2.2.2.2.2.2.2.2.1, mo.2.2.2.2.2.2.2.2.2.2.2.1, mo.2.2.2.2.2.2.2.2.2.2.2.2.1, mo.2.2.2.2.2.2.2.2.2.2.2.2.2.1, mo.2.2.2.2.2.2.2.2.2.2.2.2.2.2.1, mo.2.2.2.2.2.2.2.2.2.2.2.2.2.2.2.1, mo.2.2.2.2.2.2.2.2.2.2.2.2.2.2.2.2.1, mo.2.2.2.2.2.2.2.2.2.2.2.2.2.2.2.2.2)
theorem putM_L {N : Nat} {n : Nat} (hn : n < 2 ^ 64) {mo : MV} {c : Nat → Nat} {k0 g : Nat} (hg : g ≤ 8) (h16 : k0 + g ≤ 16) (hc : ∀ j, j < g → n / 256 ^ j % 256 < 128) {K : MV → Option (Int32 × MV)} {P : Int32 × MV → Prop} (hK : ∀ p l, PM p l (cx c k0 n g) (k0 + g) → wp (K (setp mo p l)) P) : ∀ (f i : Nat) (p : Nat → Int32) (l : Int32), i ≤ g → i < f → PM p l (cx c k0 n g) (k0 + g - i) → wp (f_X8_put_L105 N (lN n) K f (nI i - 1) (setp mo p l)) P
  | 0, _, _, _, _, h, _ => by omega
  | f + 1, 0, p, l, _, _, h => by
    rw [f_X8_put_L105, if_pos (show nI 0 - 1 < (0 : Int32) by decide)]
    exact hK p l h
  | f + 1, i + 1, p, l, h1, h2, h => by
    have e1 := h.2.1
    subst e1
    have hd : n / 256 ^ i < 2 ^ 64 := Nat.lt_of_le_of_lt (Nat.div_le_self _ _) hn
    rw [f_X8_put_L105, nI_pred, if_neg (show ¬ nI i < (0 : Int32) from nI_pos (by omega)), q_shrk hn (by omega), lN_255 hd, lN_i, dn_m1]
    show wp (ck (nI (k0 + g - (i + 1))) 16 (f_X8_put_L105 N (lN n) K f (nI i - 1) (setp mo (upd p ((nI (k0 + g - (i + 1))).toNatClampNeg) (nI (n / 256 ^ i % 256))) (nI (k0 + g - (i + 1)) + 1)))) P
    rw [q_ck (show k0 + g - (i + 1) < 16 by omega) (by decide), nI_clamp (show k0 + g - (i + 1) < 2 ^ 31 by omega), nI_1]
    refine putM_L hn hg h16 hc hK f i _ _ (by omega) (by omega) ⟨by omega, congrArg nI (by omega), fun k hk => ?_⟩
    by_cases e : k = k0 + g - (i + 1)
    · have e2 : cx c k0 n g k = n / 256 ^ i % 256 := by
        unfold cx
        rw [if_neg (by omega), show k0 + g - 1 - k = i by omega]
      rw [e2, e]
      exact ⟨upd_s _ _ _, hc i (by omega)⟩
    · obtain ⟨q1, q2⟩ := h.2.2 k (by omega)
      exact ⟨(upd_o e).trans q1, q2⟩
theorem put_ok {N : Nat} (hN : 16 < N) {pd : PV} {mo : MV} {c : Nat → Nat} {k0 : Nat} (h : PC pd c k0) (h2 : PM mo.2.2.2.2.2.2.1 mo.2.2.2.2.2.2.2.1 c k0) (x : Int64) : wp (f_X7_put N pd x) (fun r => wp (f_X8_put N mo x) (fun q => r.1 = q.1 ∧ ∃ c' k' P L, PC r.2 c' k' ∧ q.2 = setp mo P L ∧ PM P L c' k')) := by
  obtain ⟨n, hn, rfl⟩ := lN_of x
  have hk := h.1
  have key : ∀ R : Option (Int32 × MV), f_X8_put N mo (lN n) = if chn 8 n 0 = 0 then some ((-2), mo) else (if (mo.2.2.2.2.2.2.2.1 + nI (chn 8 n 0)) ≤ 16 then f_X8_put_L105 N (lN n) (fun m => some (m.2.2.2.2.2.2.2.1, m)) N (nI (chn 8 n 0) - 1) mo else some ((-4), mo)) := fun _ => by
    unfold f_X8_put
    refine (putM_1 (R := some ((-2), mo)) (fun b c => ?_) (fun a b => ?_) (fun a m hm hm0 => ?_) N 8 0 n (by omega) (by omega) (show n < 256 ^ 8 from hn)).trans ?_
    · exact if_pos rfl
    · by_cases g : a = 0
      · rw [if_pos g]
      · rw [if_neg g, if_pos rfl]
    · by_cases g : a = 0
      · rw [if_pos g]
      · rw [if_neg g, if_neg (show ¬ (1 : Int32) = 0 by decide), if_neg (fun q => hm0 ((q_cmp0 hm).1 q))]
    · by_cases g : chn 8 n 0 = 0
      · rw [if_pos g, if_pos g]
      · have g8 := (chn_all 8 n 0 g).2.1
        rw [if_neg g, if_neg g]
        rw [if_neg (show ¬ nI (chn 8 n 0) = (0 : Int32) from nI_ne0 (by omega) (by omega)), if_neg (show ¬ (1 : Int32) = 0 by decide), if_pos ((q_cmp0 (n := 0) (by decide)).2 rfl)]
  rw [key none]
  unfold f_X7_put
  rw [chr_ok hN hn, Option.bind_some]
  have same : ∀ v : Int32, wp (some (v, pd)) (fun r => wp (some (v, mo)) (fun q => r.1 = q.1 ∧ ∃ c' k' P L, PC r.2 c' k' ∧ q.2 = setp mo P L ∧ PM P L c' k')) := fun v => wp_some (wp_some ⟨rfl, c, k0, mo.2.2.2.2.2.2.1, mo.2.2.2.2.2.2.2.1, h, rfl, h2⟩)
  by_cases g : chn 8 n 0 = 0
  · rw [if_pos g, g, if_pos (show nI 0 = (0 : Int32) from rfl)]
    exact same _
  · obtain ⟨-, g8, ga⟩ := chn_all 8 n 0 g
    rw [if_neg g, if_neg (show ¬ nI (chn 8 n 0) = (0 : Int32) from nI_ne0 (by omega) (by omega)), h.2.1, h2.2.1, nI_add]
    by_cases g16 : k0 + chn 8 n 0 ≤ 16
    · have hc : ∀ j, j < chn 8 n 0 → n / 256 ^ j % 256 < 128 := fun j hj => by
        have := (ga j (by omega)).2
        omega
      have old : ∀ k, k < k0 → cx c k0 n (chn 8 n 0) k = c k := fun k hk => if_pos hk
      rw [if_pos (show nI (k0 + chn 8 n 0) ≤ (16 : Int32) from nI_le (b := 16) g16 (by decide)), if_pos (show nI (k0 + chn 8 n 0) ≤ (16 : Int32) from nI_le (b := 16) g16 (by decide))]
      refine putC_L hn (by omega) g16 hc (c := c) (fun pd2 hp => wp_some ?_) N (chn 8 n 0) pd (Nat.le_refl _) (by omega) ⟨by omega, by rw [h.2.1]; exact congrArg nI (by omega), fun k hk => by rw [old k (by omega)]; exact h.2.2 k (by omega)⟩
      refine putM_L (mo := mo) hn (by omega) g16 hc (c := c) (fun p l hq => wp_some ?_) N (chn 8 n 0) mo.2.2.2.2.2.2.1 mo.2.2.2.2.2.2.2.1 (Nat.le_refl _) (by omega) ⟨by omega, by rw [h2.2.1]; exact congrArg nI (by omega), fun k hk => by rw [old k (by omega)]; exact h2.2.2 k (by omega)⟩
      exact ⟨hp.2.1.trans hq.2.1.symm, _, _, p, l, hp, rfl, hq⟩
    · rw [if_neg (show ¬ nI (k0 + chn 8 n 0) ≤ (16 : Int32) from nI_ge (a := 16) (by omega) (by omega)), if_neg (show ¬ nI (k0 + chn 8 n 0) ≤ (16 : Int32) from nI_ge (a := 16) (by omega) (by omega))]
      exact same _
