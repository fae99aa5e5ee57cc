/-! what the best cut is like -/
theorem bsL_ex {W : Nat → Nat → Nat} {n i : Nat} (h1 : 0 < W i 1) (hp : 0 < (bs W n (i + 1)).1) : ∀ L, ∃ M, 1 ≤ M ∧ M ≤ L + 1 ∧ 0 < W i M ∧ bsL W n i (L + 1) = (W i M * (bs W n (i + M)).1, 1 + (bs W n (i + M)).2.1, M)
  | 0 => by
    refine ⟨1, Nat.le_refl _, Nat.le_refl _, h1, ?_⟩
    rw [bsL_s, bsL_0, if_pos ⟨h1, Or.inl (Nat.mul_pos h1 hp)⟩]
  | L + 1 => by
    obtain ⟨M, m1, m2, m3, m4⟩ := bsL_ex h1 hp L
    rw [bsL_s]
    by_cases hc : 0 < W i (L + 1 + 1) ∧ ((bsL W n i (L + 1)).1 < W i (L + 1 + 1) * (bs W n (i + (L + 1 + 1))).1 ∨ W i (L + 1 + 1) * (bs W n (i + (L + 1 + 1))).1 = (bsL W n i (L + 1)).1 ∧ 1 + (bs W n (i + (L + 1 + 1))).2.1 ≤ (bsL W n i (L + 1)).2.1)
    · rw [if_pos hc]
      exact ⟨L + 1 + 1, by omega, Nat.le_refl _, hc.1, rfl⟩
    · rw [if_neg hc]
      exact ⟨M, m1, by omega, m3, m4⟩
def okW (W : Nat → Nat → Nat) (n : Nat) : Prop := (∀ i, i < n → 0 < W i 1) ∧ ∀ i L, W i L ≤ 9
theorem bs_all {W : Nat → Nat → Nat} {n : Nat} (hW : okW W n) : ∀ d i, i ≤ n → n - i = d → 1 ≤ (bs W n i).1 ∧ (bs W n i).1 ≤ 9 ^ (n - i) ∧ (bs W n i).2.1 ≤ n - i ∧ (i < n → 1 ≤ (bs W n i).2.2 ∧ (bs W n i).2.2 ≤ ml n i ∧ (bs W n i).2.1 = 1 + (bs W n (i + (bs W n i).2.2)).2.1) := by
  intro d
  induction d using Nat.strongRecOn with
  | ind d ih =>
    intro i hi hd
    by_cases h : i < n
    · obtain ⟨M, m1, m2, m3, m4⟩ := bsL_ex (n := n) (hW.1 i h) (ih (n - (i + 1)) (by omega) (i + 1) (by omega) rfl).1 (ml n i - 1)
      have hm := ml_pos h
      have hm2 := ml_le (n := n) (i := i)
      rw [show ml n i - 1 + 1 = ml n i by omega] at m2 m4
      rw [← bs_i h] at m4
      obtain ⟨g1, g2, g3, -⟩ := ih (n - (i + M)) (by omega) (i + M) (by omega) rfl
      have h9 := hW.2 i M
      rw [m4]
      refine ⟨Nat.mul_pos m3 g1, ?_, ?_, fun _ => ⟨m1, m2, rfl⟩⟩
      · calc W i M * (bs W n (i + M)).1 ≤ 9 * 9 ^ (n - (i + M)) := Nat.mul_le_mul h9 g2
          _ = 9 ^ (n - (i + M) + 1) := by rw [Nat.pow_succ, Nat.mul_comm]
          _ ≤ 9 ^ (n - i) := Nat.pow_le_pow_right (by omega) (by omega)
      · show 1 + (bs W n (i + M)).2.1 ≤ n - i
        omega
    · have e : i = n := by omega
      subst e
      rw [bs_n]
      refine ⟨Nat.le_refl _, ?_, by simp, fun h => absurd h (by omega)⟩
      simp
theorem bs_P {W : Nat → Nat → Nat} {n i : Nat} (hW : okW W n) (hn : n ≤ 12) (hi : i ≤ n) : 1 ≤ (bs W n i).1 ∧ (bs W n i).1 ≤ 282429536481 := by
  obtain ⟨h1, h2, -⟩ := bs_all hW _ i hi rfl
  refine ⟨h1, Nat.le_trans h2 ?_⟩
  calc 9 ^ (n - i) ≤ 9 ^ 12 := Nat.pow_le_pow_right (by omega) (by omega)
    _ = 282429536481 := by decide
theorem bs_C {W : Nat → Nat → Nat} {n i : Nat} (hW : okW W n) (hi : i ≤ n) : (bs W n i).2.1 ≤ n - i := (bs_all hW _ i hi rfl).2.2.1
theorem bs_F {W : Nat → Nat → Nat} {n i : Nat} (hW : okW W n) (hi : i < n) : 1 ≤ (bs W n i).2.2 ∧ (bs W n i).2.2 ≤ ml n i ∧ (bs W n i).2.1 = 1 + (bs W n (i + (bs W n i).2.2)).2.1 := (bs_all hW _ i (by omega) rfl).2.2.2 hi
/-- partial best cuts are small too -/
theorem bsL_P {W : Nat → Nat → Nat} {n i : Nat} (hW : okW W n) (hn : n ≤ 12) (hi : i < n) : ∀ L, L ≤ ml n i → (bsL W n i L).1 ≤ 2541865828329 ∧ (bsL W n i L).2.1 ≤ 13 ∧ (1 ≤ L → 1 ≤ (bsL W n i L).1)
  | 0, _ => by rw [bsL_0]; exact ⟨by decide, by decide, fun h => absurd h (by decide)⟩
  | L + 1, h => by
    have hm2 := ml_le (n := n) (i := i)
    obtain ⟨M, m1, m2, m3, m4⟩ := bsL_ex (n := n) (hW.1 i hi) (bs_P hW hn (show i + 1 ≤ n by omega)).1 L
    obtain ⟨g1, g2⟩ := bs_P hW hn (show i + M ≤ n by omega)
    have g3 := bs_C hW (show i + M ≤ n by omega)
    have h9 := hW.2 i M
    rw [m4]
    refine ⟨?_, ?_, fun _ => Nat.mul_pos m3 g1⟩
    · have := Nat.mul_le_mul h9 g2
      exact Nat.le_trans this (by decide)
    · show 1 + (bs W n (i + M)).2.1 ≤ 13
      omega
/-- where the k-th part of the best cut begins -/
def ps (W : Nat → Nat → Nat) (n : Nat) : Nat → Nat
  | 0 => 0
  | k + 1 => ps W n k + (bs W n (ps W n k)).2.2
theorem ps_C {W : Nat → Nat → Nat} {n : Nat} (hW : okW W n) : ∀ k, k ≤ (bs W n 0).2.1 → ps W n k ≤ n ∧ (bs W n (ps W n k)).2.1 + k = (bs W n 0).2.1
  | 0, _ => ⟨Nat.zero_le _, rfl⟩
  | k + 1, h => by
    obtain ⟨h1, h2⟩ := ps_C hW k (by omega)
    have h3 : ps W n k < n := by
      rcases Nat.lt_or_ge (ps W n k) n with g | g
      · exact g
      · have e : ps W n k = n := by omega
        rw [e, bs_n] at h2
        simp at h2
        omega
    obtain ⟨g1, g2, g3⟩ := bs_F hW h3
    have := ml_le (n := n) (i := ps W n k)
    refine ⟨show ps W n k + (bs W n (ps W n k)).2.2 ≤ n by omega, ?_⟩
    show (bs W n (ps W n k + (bs W n (ps W n k)).2.2)).2.1 + (k + 1) = (bs W n 0).2.1
    omega
theorem ps_lt {W : Nat → Nat → Nat} {n k : Nat} (hW : okW W n) (h : k < (bs W n 0).2.1) : ps W n k < n := by
  obtain ⟨h1, h2⟩ := ps_C hW k (by omega)
  rcases Nat.lt_or_ge (ps W n k) n with g | g
  · exact g
  · have e : ps W n k = n := by omega
    rw [e, bs_n] at h2
    simp at h2
    omega
theorem ps_end {W : Nat → Nat → Nat} {n : Nat} (hW : okW W n) : ps W n (bs W n 0).2.1 = n := by
  obtain ⟨h1, h2⟩ := ps_C hW _ (Nat.le_refl _)
  rcases Nat.lt_or_ge (ps W n (bs W n 0).2.1) n with g | g
  · have := (bs_F hW g).2.2
    omega
  · omega
/-- all cuts: the sums of products from place i on, and up to it -/
def bhL (W : Nat → Nat → Nat) (n i L : Nat) : Nat :=
  match L with
  | 0 => 0
  | L + 1 => bhL W n i L + W i (L + 1) * (if h : i + (L + 1) < n then bhL W n (i + (L + 1)) (ml n (i + (L + 1))) else 1)
termination_by (n - i, L)
decreasing_by
  · exact Prod.Lex.right _ (by omega)
  · exact Prod.Lex.left _ _ (by omega)
def bh (W : Nat → Nat → Nat) (n i : Nat) : Nat := if i < n then bhL W n i (ml n i) else 1
theorem bhL_0 (W : Nat → Nat → Nat) (n i : Nat) : bhL W n i 0 = 0 := by rw [bhL]
theorem bhL_s (W : Nat → Nat → Nat) (n i L : Nat) : bhL W n i (L + 1) = bhL W n i L + W i (L + 1) * bh W n (i + (L + 1)) := by
  rw [bhL]
  have e : (if h : i + (L + 1) < n then bhL W n (i + (L + 1)) (ml n (i + (L + 1))) else 1) = bh W n (i + (L + 1)) := by
    unfold bh
    by_cases h : i + (L + 1) < n
    · rw [dif_pos h, if_pos h]
    · rw [dif_neg h, if_neg h]
  rw [e]
theorem bh_n (W : Nat → Nat → Nat) (n : Nat) : bh W n n = 1 := if_neg (by omega)
theorem bh_i {W : Nat → Nat → Nat} {n i : Nat} (h : i < n) : bh W n i = bhL W n i (ml n i) := if_pos h
theorem bhL_le {W : Nat → Nat → Nat} {n i : Nat} (hW : ∀ i L, W i L ≤ 9) (hb : ∀ L, 1 ≤ L → i + L ≤ n → bh W n (i + L) ≤ 10 ^ (n - (i + L))) : ∀ L, L ≤ ml n i → bhL W n i L + 10 ^ (n - i - L) ≤ 10 ^ (n - i)
  | 0, _ => by rw [bhL_0]; simp
  | L + 1, h => by
    have hm := ml_le (n := n) (i := i)
    have h1 := bhL_le hW hb L (by omega)
    have h2 := hb (L + 1) (by omega) (by omega)
    have h3 := Nat.mul_le_mul (hW i (L + 1)) h2
    rw [bhL_s]
    have e1 : n - i - L = n - i - (L + 1) + 1 := by omega
    have e2 : n - (i + (L + 1)) = n - i - (L + 1) := by omega
    rw [e1, Nat.pow_succ] at h1
    rw [e2] at h3
    omega
theorem bh_all {W : Nat → Nat → Nat} {n : Nat} (hW : okW W n) : ∀ d i, i ≤ n → n - i = d → 1 ≤ bh W n i ∧ bh W n i ≤ 10 ^ (n - i) := by
  intro d
  induction d using Nat.strongRecOn with
  | ind d ih =>
    intro i hi hd
    by_cases h : i < n
    · have hm := ml_le (n := n) (i := i)
      have hm1 := ml_pos h
      have hb := bhL_le (n := n) (i := i) hW.2 (fun L h1 h2 => (ih (n - (i + L)) (by omega) (i + L) h2 rfl).2) (ml n i) (Nat.le_refl _)
      rw [bh_i h]
      refine ⟨?_, Nat.le_trans (Nat.le_add_right _ _) hb⟩
      have hmono : ∀ L, 1 ≤ L → 1 ≤ bhL W n i L := by
        intro L hL
        induction L with
        | zero => omega
        | succ L ihL =>
          rw [bhL_s]
          by_cases hL0 : L = 0
          · subst hL0
            have := Nat.mul_pos (hW.1 i h) (ih (n - (i + 1)) (by omega) (i + 1) (by omega) rfl).1
            show 1 ≤ bhL W n i 0 + W i (0 + 1) * bh W n (i + (0 + 1))
            rw [Nat.zero_add]
            omega
          · have := ihL (by omega)
            omega
      exact hmono _ hm1
    · have e : i = n := by omega
      subst e
      rw [bh_n]
      simp
theorem bh_b {W : Nat → Nat → Nat} {n i : Nat} (hW : okW W n) (hn : n ≤ 12) (hi : i ≤ n) : 1 ≤ bh W n i ∧ bh W n i ≤ 1000000000000 := by
  obtain ⟨h1, h2⟩ := bh_all hW _ i hi rfl
  refine ⟨h1, Nat.le_trans h2 ?_⟩
  calc 10 ^ (n - i) ≤ 10 ^ 12 := Nat.pow_le_pow_right (by omega) (by omega)
    _ = 1000000000000 := by decide
def aL (W : Nat → Nat → Nat) (i : Nat) (f : Nat → Nat) : Nat → Nat → Nat
  | 0 => f
  | L + 1 => fun k => if k = i + (L + 1) then aL W i f L k + aL W i f L i * W i (L + 1) else aL W i f L k
def aS (W : Nat → Nat → Nat) (n : Nat) : Nat → Nat → Nat
  | 0 => fun k => if k = 0 then 1 else 0
  | i + 1 => aL W i (aS W n i) (ml n i)
/-- pieces -/
theorem pc_lt {b : bk} {w i L p : Nat} (h : pc b w i L = some p) : p < b 0 ∧ pm b w i L p := by
  obtain ⟨-, h2, h3, -⟩ := ff_some h
  exact ⟨by omega, h3⟩
theorem pc_of {b : bk} (hb : OKb b) {w i L p : Nat} (h : p < b 0) (hm : pm b w i L p) : pc b w i L = some p := by
  cases e : pc b w i L with
  | none => exact absurd hm (ff_none e p (Nat.zero_le _) (by omega))
  | some r =>
    obtain ⟨h1, h2⟩ := pc_lt e
    have := hb.2.2.2.2 r p h1 h (by rw [h2.1, hm.1]) (fun k hk => by rw [h2.2 k (by rw [← h2.1]; exact hk), hm.2 k (by rw [← h2.1]; exact hk)])
    rw [this]
theorem Wf_ok {b : bk} (hb : OKb b) (w : Nat) (q : Option Nat) : okW (Wf b w q) (wL b w) := by
  have key : ∀ i L, Wf b w q i L ≤ 9 ∧ (L = 1 → 0 < Wf b w q i L) := by
    intro i L
    unfold Wf wgt
    cases e : drp q (pc b w i L) with
    | none =>
      show (if L = 1 then 1 else 0) ≤ 9 ∧ (L = 1 → 0 < (if L = 1 then 1 else 0))
      by_cases h : L = 1
      · rw [if_pos h]; exact ⟨by omega, fun _ => by omega⟩
      · rw [if_neg h]; exact ⟨by omega, fun g => absurd g h⟩
    | some p =>
      have h1 : pc b w i L = some p := by
        unfold drp at e
        split at e
        · cases e
        · exact e
      have h2 := hb.2.2.1 p (pc_lt h1).1
      show pW b p ≤ 9 ∧ (L = 1 → 0 < pW b p)
      exact ⟨h2.2.2.2.1, fun _ => h2.2.2.1⟩
  exact ⟨fun i _ => (key i 1).2 rfl, fun i L => (key i L).1⟩
