/-! Lattice.read -/
/-- longer ones come behind: the rows up to place i, length L are laid -/
def LOp (b : bk) (w : Nat) (lt : LV) (i L : Nat) : Prop := lt.1 = nI (wL b w) ∧ (∀ j, j ≤ i → j < wL b w → ∀ M, M < ml (wL b w) j → (j = i → M < L) → lt.2.1 (j * 4 + M) = nI (cod 8 (fun k => wT b w (j + k)) (M + 1)) ∧ lt.2.2.1 (j * 4 + M) = oI (-1) (pc b w j (M + 1))) ∧ ∀ p, p < b 0 → lt.2.2.2 p = nI (pW b p)
theorem letterAt_ok {N : Nat} {c : CV} {b : bk} (hb : OKb b) (hc : CR c b) {w k : Nat} (hw : w < b 1) (hk : k < wL b w) : f_X2_letterAt N c (nI w) (nI k) = some (nI (wT b w k - 1)) := by
  have h8 := hb.2.1
  have h12 := (hb.2.2.2.1 w hw).2.1
  unfold f_X2_letterAt
  rw [show (12 : Int32) = nI 12 from rfl, pk_mul, nI_add, q_ck (show w * 12 + k < 96 by omega) (by decide), nI_clamp (by omega), (hc.2.2.2 w hw).2.2 k hk]
theorem read_L48 {N : Nat} (hN : 16 < N) {c : CV} {b : bk} (hb : OKb b) (hc : CR c b) {w i : Nat} (hw : w < b 1) (hi : i < wL b w) {K : LV → Option LV} {P : LV → Prop} (hK : ∀ lt, LOp b w lt i (ml (wL b w) i) → wp (K lt) P) :
    ∀ (f L : Nat) (lt : LV), L ≤ ml (wL b w) i → ml (wL b w) i - L < f → LOp b w lt i L → wp (f_X4_read_L48 N c (nI w) (nI i) (nI (ml (wL b w) i)) K f (nI (cod 8 (fun k => wT b w (i + k)) L)) (nI (L + 1)) lt) P
  | 0, _, _, h1, h2, _ => by omega
  | f + 1, L, lt, h1, h2, h3 => by
    have hv := hb.2.2.2.1 w hw
    have hm := ml_le (n := wL b w) (i := i)
    rw [f_X4_read_L48]
    by_cases h : L < ml (wL b w) i
    · have hseg : ∀ k, k < L + 1 → 1 ≤ wT b w (i + k) ∧ wT b w (i + k) ≤ 6 := fun k hk => hv.2.2.2.2 (i + k) (by omega)
      have hcd := cod8_lt (a := fun k => wT b w (i + k)) (n := L) (by omega) (fun k hk => (hseg k (by omega)).2)
      have ht := hseg L (by omega)
      rw [if_neg (show ¬ nI (ml (wL b w) i) < nI (L + 1) from nI_nlt (by omega) (by omega)), nI_add, show i + (L + 1) = (i + L) + 1 by omega]
      rw [show (1 : Int32) = nI 1 from rfl, show nI (i + L + 1) - nI 1 = nI (i + L) from nI_pred _]
      rw [letterAt_ok hb hc hw (show i + L < wL b w by omega), Option.bind_some]
      rw [q_bd, nI_add (wT b w (i + L) - 1) 1, show wT b w (i + L) - 1 + 1 = wT b w (i + L) by omega, q_sh3 hcd (by omega)]
      rw [show 8 * cod 8 (fun k => wT b w (i + k)) L + wT b w (i + L) = cod 8 (fun k => wT b w (i + k)) (L + 1) from rfl]
      rw [index_ok (show i ≤ 12 by omega) (show L < 4 by omega), Option.bind_some, Option.bind_some, q_ck (show i * 4 + L < 48 by omega) (by decide), pieceWith_seg hN hb hc (show L + 1 ≤ 4 by omega) hseg, Option.bind_some, q_ck (show i * 4 + L < 48 by omega) (by decide), nI_clamp (by omega), nI_add (L + 1) 1]
      refine read_L48 hN hb hc hw hi hK f (L + 1) _ (by omega) (by omega) ?_
      refine ⟨h3.1, fun j hj hjn M hM hji => ?_, h3.2.2⟩
      by_cases e : j = i ∧ M = L
      · obtain ⟨rfl, rfl⟩ := e
        exact ⟨upd_s _ _ _, upd_s _ _ _⟩
      · have hmj := ml_le (n := wL b w) (i := j)
        have hne : j * 4 + M ≠ i * 4 + L := by omega
        obtain ⟨g1, g2⟩ := h3.2.1 j hj hjn M hM (fun e2 => by
          have := hji e2
          have : M ≠ L := fun e3 => e ⟨e2, e3⟩
          omega)
        exact ⟨(upd_o hne).trans g1, (upd_o hne).trans g2⟩
    · have e : L = ml (wL b w) i := by omega
      rw [if_pos (show nI (ml (wL b w) i) < nI (L + 1) from nI_lt (by omega) (by omega))]
      exact hK lt (by rw [← e]; exact h3)
theorem read_L27 {N : Nat} (hN : 16 < N) {c : CV} {b : bk} (hb : OKb b) (hc : CR c b) {w : Nat} (hw : w < b 1) {K : LV → Option LV} {P : LV → Prop} (hK : ∀ lt, LO b w lt → wp (K lt) P) :
    ∀ (f i : Nat) (lt : LV), i ≤ wL b w → wL b w - i < f → LOp b w lt i 0 → wp (f_X4_read_L27 N c (nI w) K f (nI i) lt) P
  | 0, _, _, h1, h2, _ => by omega
  | f + 1, i, lt, h1, h2, h3 => by
    have hv := hb.2.2.2.1 w hw
    rw [f_X4_read_L27, h3.1]
    by_cases h : i < wL b w
    · have hm := ml_le (n := wL b w) (i := i)
      rw [if_neg (show ¬ nI (wL b w) ≤ nI i from nI_ge h (by omega)), most_ok h3.1 hv.2.1 (by omega), Option.bind_some]
      refine read_L48 hN hb hc hw h (fun lt2 h4 => ?_) N 0 lt (Nat.zero_le _) (by omega) h3
      rw [show nI i + 1 = nI (i + 1) from nI_1 i]
      refine read_L27 hN hb hc hw hK f (i + 1) lt2 (by omega) (by omega) ⟨h4.1, fun j hj hjn M hM hji => ?_, h4.2.2⟩
      by_cases e : j = i + 1
      · have := hji e; omega
      · exact h4.2.1 j (by omega) hjn M hM (fun e2 => by rw [← e2]; exact hM)
    · have e : i = wL b w := by omega
      subst e
      rw [if_pos (show nI (wL b w) ≤ nI (wL b w) from nI_le (Nat.le_refl _) (by omega))]
      exact hK lt ⟨h3.1, fun j hj M hM => h3.2.1 j (by omega) hj M hM (fun e => by omega), h3.2.2⟩
theorem read_ok {N : Nat} (hN : 16 < N) {c : CV} {b : bk} (hb : OKb b) (hc : CR c b) {w : Nat} (hw : w < b 1) (lt : LV) : wp (f_X4_read N c lt (nI w)) (LO b w) := by
  have h8 := hb.2.1
  have h16 := hb.1
  have hv := hb.2.2.2.1 w hw
  unfold f_X4_read
  rw [q_ck (show w < 8 by omega) (by decide), show (ckc 0 0 16 16 16 : Option LV → Option LV) = ckc (nI 0) (nI 0) (nI 16) 16 16 from rfl, q_ckc (by omega) (by omega) (by decide) (by decide), nI_clamp (show w < 2 ^ 31 by omega), (hc.2.2.2 w hw).1]
  refine read_L27 hN hb hc hw (fun lt h => wp_some h) N 0 _ (Nat.zero_le _) (by omega) ⟨rfl, fun j hj hjn M hM hji => by have := hji (by omega); omega, fun p hp => ?_⟩
  show va_cpy c.2.2.2.1 lt.2.2.2 ((0 : Int32).toNatClampNeg) ((0 : Int32).toNatClampNeg) ((16 : Int32).toNatClampNeg) p = _
  unfold va_cpy
  rw [show ((0 : Int32).toNatClampNeg) = 0 from rfl, show ((16 : Int32).toNatClampNeg) = 16 from rfl, if_pos (by omega), show 0 + (p - 0) = p by omega]
  exact (hc.2.2.1 p hp).2.2
