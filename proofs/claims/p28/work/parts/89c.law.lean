/-! THE BEST OF ALL CUTS is the one that the rows from behind find -/
/-- one cut is better: product, then fewer parts, then the first border that differs -/
def ktT (F B R F' B' R' : Nat) : Prop := F' < F ∨ F = F' ∧ (B < B' ∨ B = B' ∧ R < R')
/-- what stands in the row of a place is the best of all first parts -/
theorem bsL_top (W : Nat → Nat → Nat) (n i : Nat) : ∀ L l, 1 ≤ l → l ≤ L → 0 < W i l → W i l * (bs W n (i + l)).1 < (bsL W n i L).1 ∨ W i l * (bs W n (i + l)).1 = (bsL W n i L).1 ∧ ((bsL W n i L).2.1 < 1 + (bs W n (i + l)).2.1 ∨ (bsL W n i L).2.1 = 1 + (bs W n (i + l)).2.1 ∧ l ≤ (bsL W n i L).2.2)
  | 0, l, h1, h2, _ => by omega
  | L + 1, l, h1, h2, hw => by
    have hF : ∀ L, (bsL W n i L).2.2 ≤ L := by
      intro L
      induction L with
      | zero => rw [bsL_0]; exact Nat.le_refl _
      | succ L ih =>
        rw [bsL_s]
        split
        · exact Nat.le_refl _
        · omega
    rw [bsL_s]
    by_cases hc : 0 < W i (L + 1) ∧ ((bsL W n i L).1 < W i (L + 1) * (bs W n (i + (L + 1))).1 ∨ W i (L + 1) * (bs W n (i + (L + 1))).1 = (bsL W n i L).1 ∧ 1 + (bs W n (i + (L + 1))).2.1 ≤ (bsL W n i L).2.1)
    · rw [if_pos hc]
      by_cases e : l = L + 1
      · subst e
        exact Or.inr ⟨rfl, Or.inr ⟨rfl, Nat.le_refl _⟩⟩
      · have ih := bsL_top W n i L l h1 (by omega) hw
        show W i l * (bs W n (i + l)).1 < W i (L + 1) * (bs W n (i + (L + 1))).1 ∨ W i l * (bs W n (i + l)).1 = W i (L + 1) * (bs W n (i + (L + 1))).1 ∧ (1 + (bs W n (i + (L + 1))).2.1 < 1 + (bs W n (i + l)).2.1 ∨ 1 + (bs W n (i + (L + 1))).2.1 = 1 + (bs W n (i + l)).2.1 ∧ l ≤ L + 1)
        have hc2 := hc.2
        generalize W i l * (bs W n (i + l)).1 = a at *
        generalize W i (L + 1) * (bs W n (i + (L + 1))).1 = a' at *
        omega
    · rw [if_neg hc]
      by_cases e : l = L + 1
      · subst e
        have hc2 : ¬ ((bsL W n i L).1 < W i (L + 1) * (bs W n (i + (L + 1))).1 ∨ W i (L + 1) * (bs W n (i + (L + 1))).1 = (bsL W n i L).1 ∧ 1 + (bs W n (i + (L + 1))).2.1 ≤ (bsL W n i L).2.1) := fun q => hc ⟨hw, q⟩
        generalize W i (L + 1) * (bs W n (i + (L + 1))).1 = a' at *
        omega
      · exact bsL_top W n i L l h1 (by omega) hw
/-- the number of the best cut -/
def ktC (W : Nat → Nat → Nat) (n : Nat) : Nat → Nat → Nat
  | 0, _ => 0
  | f + 1, i => if i + (bs W n i).2.2 < n then ktM ((bs W n i).2.2 - 1) (ktC W n f (i + (bs W n i).2.2)) else 0
theorem ktC_f {W : Nat → Nat → Nat} {n : Nat} (hW : okW W n) : ∀ f g i, n - i ≤ f → n - i ≤ g → ktC W n f i = ktC W n g i
  | 0, 0, _, _, _ => rfl
  | 0, g + 1, i, h1, h2 => by
    show 0 = if i + (bs W n i).2.2 < n then _ else 0
    rw [if_neg (by omega)]
  | f + 1, 0, i, h1, h2 => by
    show (if i + (bs W n i).2.2 < n then _ else 0) = 0
    rw [if_neg (by omega)]
  | f + 1, g + 1, i, h1, h2 => by
    show (if i + (bs W n i).2.2 < n then ktM ((bs W n i).2.2 - 1) (ktC W n f (i + (bs W n i).2.2)) else 0) = if i + (bs W n i).2.2 < n then ktM ((bs W n i).2.2 - 1) (ktC W n g (i + (bs W n i).2.2)) else 0
    by_cases q : i + (bs W n i).2.2 < n
    · have h := (bs_F hW (show i < n by omega)).1
      rw [if_pos q, if_pos q, ktC_f hW f g _ (by omega) (by omega)]
    · rw [if_neg q, if_neg q]
def ktc (W : Nat → Nat → Nat) (n i : Nat) : Nat := ktC W n (n - i) i
theorem ktc_s {W : Nat → Nat → Nat} {n i : Nat} (hW : okW W n) (hi : i < n) : ktc W n i = if i + (bs W n i).2.2 < n then ktM ((bs W n i).2.2 - 1) (ktc W n (i + (bs W n i).2.2)) else 0 := by
  have h := (bs_F hW hi).1
  unfold ktc
  rw [show n - i = (n - i - 1) + 1 by omega]
  show (if i + (bs W n i).2.2 < n then ktM ((bs W n i).2.2 - 1) (ktC W n (n - i - 1) (i + (bs W n i).2.2)) else 0) = _
  by_cases q : i + (bs W n i).2.2 < n
  · rw [if_pos q, if_pos q, ktC_f hW (n - i - 1) (n - (i + (bs W n i).2.2)) _ (by omega) (by omega)]
  · rw [if_neg q, if_neg q]
/-- its first part -/
theorem ktc_R {W : Nat → Nat → Nat} {n i : Nat} (hW : okW W n) (hi : i < n) : ktR (n - 1 - i) (ktc W n i) + 1 = (bs W n i).2.2 := by
  have h := bs_F hW hi
  have hm := ml_le (n := n) (i := i)
  rw [ktc_s hW hi]
  by_cases q : i + (bs W n i).2.2 < n
  · rw [if_pos q, ktM_R _ _ _ (by omega)]
    omega
  · rw [if_neg q, ktR_0]
    omega
theorem ktc_d {W : Nat → Nat → Nat} {n i : Nat} (hW : okW W n) (hi : i + (bs W n i).2.2 < n) : ktc W n i / 2 ^ (bs W n i).2.2 = ktc W n (i + (bs W n i).2.2) := by
  have h := bs_F hW (show i < n by omega)
  have e := ktM_d (ktc W n (i + (bs W n i).2.2)) ((bs W n i).2.2 - 1)
  rw [show (bs W n i).2.2 - 1 + 1 = (bs W n i).2.2 by omega] at e
  rw [ktc_s hW (show i < n by omega), if_pos hi]
  exact e
theorem bs_ex {W : Nat → Nat → Nat} {n i : Nat} (hW : okW W n) (hi : i < n) : (bs W n i).1 = W i (bs W n i).2.2 * (bs W n (i + (bs W n i).2.2)).1 ∧ 0 < W i (bs W n i).2.2 := by
  have hm := ml_pos hi
  obtain ⟨M, m1, m2, m3, m4⟩ := bsL_ex (n := n) (hW.1 i hi) (bs_all hW _ (i + 1) (by omega) rfl).1 (ml n i - 1)
  rw [show ml n i - 1 + 1 = ml n i by omega, ← bs_i hi] at m4
  rw [m4]
  exact ⟨rfl, m3⟩
theorem ktc_all {W : Nat → Nat → Nat} {n : Nat} (hW : okW W n) (h4 : ∀ i L, 4 < L → W i L = 0) : ∀ d i, n - i = d → i < n →
    ktc W n i < 2 ^ (n - 1 - i) ∧ ktF W (n - 1 - i) i 1 (ktc W n i) = (bs W n i).1 ∧ ktB (n - 1 - i) (ktc W n i) + 1 = (bs W n i).2.1 ∧
    ∀ c, c < 2 ^ (n - 1 - i) → c ≠ ktc W n i → ktT (bs W n i).1 (ktB (n - 1 - i) (ktc W n i)) (ktV (n - 1 - i) (ktc W n i)) (ktF W (n - 1 - i) i 1 c) (ktB (n - 1 - i) c) (ktV (n - 1 - i) c) := by
  intro d
  induction d using Nat.strongRecOn with
  | ind d ih =>
    intro i hd hi
    obtain ⟨f1, f2, f3⟩ := bs_F hW hi
    have hm := ml_le (n := n) (i := i)
    obtain ⟨x1, x2⟩ := bs_ex hW hi
    have hR := ktc_R hW hi
    have hs := ktc_s hW hi
    have hpos := (bs_all hW _ i (by omega) rfl).1
    generalize hL : (bs W n i).2.2 = L at *
    -- the number's own first three
    have first : ktc W n i < 2 ^ (n - 1 - i) ∧ ktF W (n - 1 - i) i 1 (ktc W n i) = (bs W n i).1 ∧ ktB (n - 1 - i) (ktc W n i) + 1 = (bs W n i).2.1 := by
      have e1 := ktF_1 W (n - 1 - i) i 1 (ktc W n i)
      have e2 := ktB_1 (n - 1 - i) (ktc W n i)
      rw [show ktR (n - 1 - i) (ktc W n i) = L - 1 by omega] at e1 e2
      by_cases q : i + L < n
      · obtain ⟨a1, a2, a3, -⟩ := ih (n - (i + L)) (by omega) (i + L) rfl q
        rw [if_pos (by omega), show n - 1 - i - (L - 1) - 1 = n - 1 - (i + L) by omega] at e1 e2
        rw [if_pos q] at hs
        have ed : ktc W n i / 2 ^ (L - 1 + 1) = ktc W n (i + L) := by
          rw [hs]
          exact ktM_d _ _
        rw [ed] at e1 e2
        rw [show i + 1 + (L - 1) = i + L by omega, show 1 + (L - 1) = L by omega, a2] at e1
        refine ⟨?_, e1.trans x1.symm, ?_⟩
        · rw [hs]
          exact ktM_lt (by omega) (by rw [show n - 1 - i - (L - 1) - 1 = n - 1 - (i + L) by omega]; exact a1)
        · rw [e2, f3]
          omega
      · rw [if_neg q] at hs
        rw [if_neg (by omega)] at e1 e2
        have e3 : i + L = n := by omega
        rw [e3, bs_n] at x1 f3
        rw [show 1 + (L - 1) = L by omega] at e1
        refine ⟨by rw [hs]; exact Nat.two_pow_pos _, e1.trans x1.symm, ?_⟩
        rw [e2, f3]
        rfl
    refine ⟨first.1, first.2.1, first.2.2, fun c hc hne => ?_⟩
    obtain ⟨g1, g2, g3⟩ := first
    have e1 := ktF_1 W (n - 1 - i) i 1 c
    have e2 := ktB_1 (n - 1 - i) c
    have e3 := ktV_1 (n - 1 - i) c
    have e4 := ktV_1 (n - 1 - i) (ktc W n i)
    have hrl := ktR_le (n - 1 - i) c
    rw [show ktR (n - 1 - i) (ktc W n i) = L - 1 by omega] at e4
    generalize hr : ktR (n - 1 - i) c = r at *
    by_cases hw : 0 < W i (1 + r)
    · have hl4 : 1 + r ≤ 4 := by
        rcases Nat.lt_or_ge 4 (1 + r) with q | q
        · have := h4 i (1 + r) q
          omega
        · exact q
      have htop := bsL_top W n i (ml n i) (1 + r) (by omega) (by unfold ml; split <;> omega) hw
      rw [← bs_i hi, hL] at htop
      by_cases q : r < n - 1 - i
      · rw [if_pos q] at e1 e2 e3
        obtain ⟨a1, a2, a3, a4⟩ := ih (n - (i + (1 + r))) (by omega) (i + (1 + r)) rfl (by omega)
        have hk := kt_dlt q hc
        have hcM := ktM_of (n - 1 - i) c (by omega)
        rw [hr] at hcM
        rw [show n - 1 - (i + (1 + r)) = n - 1 - i - r - 1 by omega] at a1 a2 a3 a4
        rw [show i + 1 + r = i + (1 + r) by omega] at e1
        generalize c / 2 ^ (r + 1) = k at *
        have hk4 : k = ktc W n (i + (1 + r)) ∨ ktT (bs W n (i + (1 + r))).1 (ktB (n - 1 - i - r - 1) (ktc W n (i + (1 + r)))) (ktV (n - 1 - i - r - 1) (ktc W n (i + (1 + r)))) (ktF W (n - 1 - i - r - 1) (i + (1 + r)) 1 k) (ktB (n - 1 - i - r - 1) k) (ktV (n - 1 - i - r - 1) k) := by
          by_cases e : k = ktc W n (i + (1 + r))
          · exact Or.inl e
          · exact Or.inr (a4 k hk e)
        -- the reversed numbers
        have hV : 1 + r < L → ktV (n - 1 - i) (ktc W n i) < ktV (n - 1 - i) c := by
          intro hlt
          rw [e3]
          have p1 : 2 ^ (n - 1 - i - r - 1) = 2 ^ (n - 1 - i - r - 1) := rfl
          by_cases z : L - 1 < n - 1 - i
          · rw [if_pos z] at e4
            have v1 := ktV_lt (n - 1 - i - (L - 1) - 1) (ktc W n i / 2 ^ (L - 1 + 1))
            have v2 : 2 ^ (n - 1 - i - (L - 1) - 1) + 2 ^ (n - 1 - i - (L - 1) - 1) ≤ 2 ^ (n - 1 - i - r - 1) := by
              rw [← Nat.two_mul, ← p2s]
              exact Nat.pow_le_pow_right (by omega) (by omega)
            omega
          · rw [if_neg z] at e4
            have v2 := Nat.two_pow_pos (n - 1 - i - r - 1)
            omega
        have hVe : 1 + r = L → ktV (n - 1 - i) (ktc W n i) = 2 ^ (n - 1 - i - r - 1) + ktV (n - 1 - i - r - 1) (ktc W n (i + (1 + r))) := by
          intro he
          subst he
          rw [if_pos (by omega)] at e4
          rw [if_pos (by omega)] at hs
          have ed : ktc W n i / 2 ^ (1 + r - 1 + 1) = ktc W n (i + (1 + r)) := by
            rw [hs]
            exact ktM_d _ _
          rw [ed] at e4
          rw [e4, show n - 1 - i - (1 + r - 1) - 1 = n - 1 - i - r - 1 by omega]
        have hce : 1 + r = L → k = ktc W n (i + (1 + r)) → c = ktc W n i := by
          intro he hk2
          subst he
          rw [if_pos (by omega)] at hs
          rw [hs, hcM, hk2, show 1 + r - 1 = r by omega]
        unfold ktT at hk4 ⊢
        rw [e1]
        have hmul : ktF W (n - 1 - i - r - 1) (i + (1 + r)) 1 k < (bs W n (i + (1 + r))).1 → W i (1 + r) * ktF W (n - 1 - i - r - 1) (i + (1 + r)) 1 k < W i (1 + r) * (bs W n (i + (1 + r))).1 := fun h => Nat.mul_lt_mul_of_pos_left h hw
        have heq : ktF W (n - 1 - i - r - 1) (i + (1 + r)) 1 k = (bs W n (i + (1 + r))).1 → W i (1 + r) * ktF W (n - 1 - i - r - 1) (i + (1 + r)) 1 k = W i (1 + r) * (bs W n (i + (1 + r))).1 := fun h => by rw [h]
        generalize W i (1 + r) * ktF W (n - 1 - i - r - 1) (i + (1 + r)) 1 k = FW at *
        generalize W i (1 + r) * (bs W n (i + (1 + r))).1 = TW at *
        rcases hk4 with hk4 | hk4 | ⟨b1, b2⟩
        · have hF := heq (by rw [hk4]; exact a2)
          have hB : ktB (n - 1 - i) c = 1 + ktB (n - 1 - i - r - 1) (ktc W n (i + (1 + r))) := by rw [e2, hk4]
          rcases htop with t | ⟨t1, t2 | ⟨t2, t3⟩⟩
          · exact Or.inl (by omega)
          · exact Or.inr ⟨by omega, Or.inl (by omega)⟩
          · rcases Nat.lt_or_ge (1 + r) L with z | z
            · exact Or.inr ⟨by omega, Or.inr ⟨by omega, hV z⟩⟩
            · exact absurd (hce (by omega) hk4) hne
        · have hF := hmul hk4
          rcases htop with t | ⟨t1, t2⟩
          · exact Or.inl (by omega)
          · exact Or.inl (by omega)
        · have hF := heq b1.symm
          rcases htop with t | ⟨t1, t2 | ⟨t2, t3⟩⟩
          · exact Or.inl (by omega)
          · exact Or.inr ⟨by omega, Or.inl (by omega)⟩
          · rcases b2 with b2 | ⟨b2, b3⟩
            · exact Or.inr ⟨by omega, Or.inl (by omega)⟩
            · rcases Nat.lt_or_ge (1 + r) L with z | z
              · exact Or.inr ⟨by omega, Or.inr ⟨by omega, hV z⟩⟩
              · have hV2 := hVe (by omega)
                exact Or.inr ⟨by omega, Or.inr ⟨by omega, by rw [hV2, e3]; omega⟩⟩
      · have hrm : r = n - 1 - i := by omega
        have hc0 : c = 0 := ktR_full (n - 1 - i) c hc (by omega)
        rw [if_neg q] at e1 e2 e3
        rw [show i + (1 + r) = n by omega, bs_n] at htop
        unfold ktT
        rw [e1]
        show W i (1 + r) * 1 < (bs W n i).1 ∨ (bs W n i).1 = W i (1 + r) * 1 ∧ _
        rcases htop with t | ⟨t1, t2 | ⟨t2, t3⟩⟩
        · exact Or.inl t
        · have t3 : (bs W n i).2.1 < 1 + 0 := t2
          omega
        · have hLn : ¬ i + L < n := by omega
          rw [if_neg hLn] at hs
          exact absurd (hc0.trans hs.symm) hne
    · unfold ktT
      rw [e1, show W i (1 + r) = 0 by omega, Nat.zero_mul]
      exact Or.inl (by omega)
/-- no two cuts with one number -/
theorem ktV_inj : ∀ m c c', c < 2 ^ m → c' < 2 ^ m → ktV m c = ktV m c' → c = c'
  | 0, c, c', h, h', _ => by
    have h2 : c < 1 := h
    have h3 : c' < 1 := h'
    omega
  | m + 1, c, c', h, h', e => by
    have v1 := ktV_lt m (c / 2)
    have v2 := ktV_lt m (c' / 2)
    have e2 : c % 2 * 2 ^ m + ktV m (c / 2) = c' % 2 * 2 ^ m + ktV m (c' / 2) := e
    rw [p2s] at h h'
    have ih := ktV_inj m (c / 2) (c' / 2) (by omega) (by omega)
    rcases (show c % 2 = 0 ∨ c % 2 = 1 by omega) with q | q <;> rcases (show c' % 2 = 0 ∨ c' % 2 = 1 by omega) with q' | q' <;> rw [q, q'] at e2
    · have := ih (by omega)
      omega
    · omega
    · omega
    · have := ih (by omega)
      omega
/-- where the k-th part begins, and what is left of the number there -/
theorem ktc_ps {W : Nat → Nat → Nat} {n : Nat} (hW : okW W n) : ∀ k, k < (bs W n 0).2.1 → ktc W n 0 / 2 ^ ps W n k = ktc W n (ps W n k)
  | 0, _ => Nat.div_one _
  | k + 1, h => by
    have h1 := ktc_ps hW k (by omega)
    have h2 := ps_lt hW h
    have h3 : ps W n (k + 1) = ps W n k + (bs W n (ps W n k)).2.2 := rfl
    rw [h3] at h2 ⊢
    rw [Nat.pow_add, ← Nat.div_div_eq_div_mul, h1]
    exact ktc_d hW h2
