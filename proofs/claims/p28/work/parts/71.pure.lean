/-! put -/
theorem q_255 (n : Nat) : nI n &&& 255 = nI (n % 256) := by
  rw [pk_and (nI n) 8 (by decide)]
  refine congrArg nI ?_
  show (BitVec.ofNat 32 n).toNat % 2 ^ 8 = n % 256
  rw [BitVec.toNat_ofNat]
  omega
/-- how many characters such a number gives: m places left, n the rest, k so far; 0 if it is no good one -/
def chn : Nat → Nat → Nat → Nat
  | 0, _, k => k
  | m + 1, n, k => if n = 0 then k else if 33 ≤ n % 256 ∧ n % 256 ≤ 126 then chn m (n / 256) (k + 1) else 0
theorem chn_0 : ∀ m k, chn m 0 k = k
  | 0, _ => rfl
  | m + 1, k => if_pos rfl
theorem chn_g {m n k : Nat} (h0 : n ≠ 0) (g : 33 ≤ n % 256 ∧ n % 256 ≤ 126) : chn (m + 1) n k = chn m (n / 256) (k + 1) := (if_neg h0).trans (if_pos g)
theorem chn_b {m n k : Nat} (h0 : n ≠ 0) (g : ¬ (33 ≤ n % 256 ∧ n % 256 ≤ 126)) : chn (m + 1) n k = 0 := (if_neg h0).trans (if_neg g)
theorem chn_all : ∀ m n k, chn m n k ≠ 0 → k ≤ chn m n k ∧ chn m n k ≤ k + m ∧ ∀ j, k + j < chn m n k → 33 ≤ n / 256 ^ j % 256 ∧ n / 256 ^ j % 256 ≤ 126
  | 0, n, k, _ => ⟨Nat.le_refl _, Nat.le_refl _, fun j h => absurd h (show ¬ k + j < k by omega)⟩
  | m + 1, n, k, h => by
    by_cases h0 : n = 0
    · subst h0
      rw [chn_0]
      exact ⟨Nat.le_refl _, by omega, fun j hj => absurd hj (by omega)⟩
    · by_cases g : 33 ≤ n % 256 ∧ n % 256 ≤ 126
      · rw [chn_g h0 g] at h ⊢
        obtain ⟨h1, h2, h3⟩ := chn_all m (n / 256) (k + 1) h
        refine ⟨by omega, by omega, fun j hj => ?_⟩
        cases j with
        | zero => rw [Nat.pow_zero, Nat.div_one]; exact g
        | succ j =>
          have e : n / 256 ^ (j + 1) = n / 256 / 256 ^ j := by rw [Nat.div_div_eq_div_mul, Nat.pow_succ, Nat.mul_comm]
          rw [e]
          exact h3 j (by omega)
      · rw [chn_b h0 g] at h
        exact absurd rfl h
theorem p256 {m n : Nat} (hm : m ≤ 8) (h : n < 256 ^ m) : n < 2 ^ 64 := by
  have hp : 256 ^ m ≤ 256 ^ 8 := Nat.pow_le_pow_right (by decide) hm
  exact Nat.lt_of_lt_of_le h (Nat.le_trans hp (by decide))
theorem p256d {m n : Nat} (h : n < 256 ^ (m + 1)) : n / 256 < 256 ^ m := by
  rw [Nat.pow_succ, Nat.mul_comm] at h
  exact Nat.div_lt_of_lt_mul h
theorem chr_L {N : Nat} {x0 : Int64} : ∀ (f m k n : Nat), k + m = 8 → m < f → n < 256 ^ m → f_X7_charactersIn_L8 N x0 (fun a => some a) f (lN n) (nI k) (nI k) = some (nI (chn m n k))
  | 0, _, _, _, _, h, _ => by omega
  | f + 1, 0, k, n, e, _, hn => by
    have e2 : k = 8 := by omega
    subst e2
    rw [f_X7_charactersIn_L8, if_pos (show (8 : Int32) ≤ nI 8 by decide)]
    rfl
  | f + 1, m + 1, k, n, e, h, hn => by
    have h64 := p256 (show m + 1 ≤ 8 by omega) hn
    rw [f_X7_charactersIn_L8, if_neg (show ¬ (8 : Int32) ≤ nI k from nI_ge (b := 8) (by omega) (by decide))]
    by_cases h0 : n = 0
    · rw [if_pos ((q_cmp0 h64).2 h0), h0, chn_0]
    · rw [if_neg (fun q => h0 ((q_cmp0 h64).1 q)), lN_255 h64, lN_i, q_bd]
      by_cases g : 33 ≤ n % 256 ∧ n % 256 ≤ 126
      · rw [if_neg (show ¬ nI (n % 256) < (33 : Int32) from nI_nlt (b := 33) g.1 (by omega)), if_pos (show nI (n % 256) ≤ (126 : Int32) from nI_le (b := 126) g.2 (by decide)), q_shr8 h64, q_bd, nI_1, chn_g h0 g]
        exact chr_L f m (k + 1) (n / 256) (by omega) (by omega) (p256d hn)
      · rw [chn_b h0 g]
        by_cases g1 : n % 256 < 33
        · rw [if_pos (show nI (n % 256) < (33 : Int32) from nI_lt (b := 33) g1 (by decide))]
          rfl
        · rw [if_neg (show ¬ nI (n % 256) < (33 : Int32) from nI_nlt (b := 33) (by omega) (by omega)), if_neg (show ¬ nI (n % 256) ≤ (126 : Int32) from nI_ge (a := 126) (by omega) (by omega))]
          rfl
theorem chr_ok {N : Nat} (hN : 16 < N) {n : Nat} (hn : n < 2 ^ 64) : f_X7_charactersIn N (lN n) = some (nI (chn 8 n 0)) := by
  unfold f_X7_charactersIn
  exact chr_L N 8 0 n (by omega) (by omega) (show n < 256 ^ 8 from hn)
/-- the pad with g characters of n behind its k0 -/
def cx (c : Nat → Nat) (k0 n g : Nat) : Nat → Nat := fun k => if k < k0 then c k else n / 256 ^ (k0 + g - 1 - k) % 256
theorem putC_L {N : Nat} {n : Nat} (hn : n < 2 ^ 64) {c : Nat → Nat} {k0 g : Nat} (hg : g ≤ 8) (h16 : k0 + g ≤ 16) (hc : ∀ j, j < g → n / 256 ^ j % 256 < 128) {K : PV → Option (Int32 × PV)} {P : Int32 × PV → Prop} (hK : ∀ pd, PC pd (cx c k0 n g) (k0 + g) → wp (K pd) P) : ∀ (f i : Nat) (pd : PV), i ≤ g → i < f → PC pd (cx c k0 n g) (k0 + g - i) → wp (f_X7_put_L34 N (lN n) K f (nI i - 1) pd) P
  | 0, _, _, _, h, _ => by omega
  | f + 1, 0, pd, _, _, h => by
    rw [f_X7_put_L34, if_pos (show nI 0 - 1 < (0 : Int32) by decide)]
    exact hK pd h
  | f + 1, i + 1, pd, h1, h2, h => by
    have e1 := h.2.1
    have hd : n / 256 ^ i < 2 ^ 64 := Nat.lt_of_le_of_lt (Nat.div_le_self _ _) hn
    rw [f_X7_put_L34, nI_pred, if_neg (show ¬ nI i < (0 : Int32) from nI_pos (by omega)), q_shrk hn (by omega), lN_i, q_255]
    unfold f_X6_append
    rw [if_pos (show pd.1 < (16 : Int32) by rw [e1]; exact nI_lt (b := 16) (by omega) (by decide)), e1, q_ck (show k0 + g - (i + 1) < 16 by omega) (by decide), Option.bind_some, nI_clamp (show k0 + g - (i + 1) < 2 ^ 31 by omega), dn_m1, nI_1]
    refine putC_L hn hg h16 hc hK f i _ (by omega) (by omega) ⟨by omega, ?_, fun k hk => ?_⟩
    · show nI (k0 + g - (i + 1) + 1) = nI (k0 + g - i)
      exact congrArg nI (by omega)
    · by_cases e : k = k0 + g - (i + 1)
      · have e2 : cx c k0 n g k = n / 256 ^ i % 256 := by
          unfold cx
          rw [if_neg (by omega), show k0 + g - 1 - k = i by omega]
        rw [e2, e]
        exact ⟨upd_s _ _ _, hc i (by omega)⟩
      · obtain ⟨q1, q2⟩ := h.2.2 k (by omega)
        exact ⟨(upd_o e).trans q1, q2⟩
