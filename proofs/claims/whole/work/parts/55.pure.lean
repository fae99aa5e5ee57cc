/-! the reference: costs -/
theorem pp0 (b : bk) (w k : Nat) : pp b w none k = pc b w (ps (W0 b w) (wL b w) k) (bs (W0 b w) (wL b w) (ps (W0 b w) (wL b w) k)).2.2 := by
  show drp none (pc b w _ _) = _
  unfold drp
  split
  · rename_i h; exact h.symm
  · rfl
theorem unseen_L {N : Nat} (hN : 16 < N) {mo : MV} {b : bk} (hb : OKb b) (hs : MS mo b) {w : Nat} (hw : w < b 1) (hF : ∀ j, j < wL b w → mo.2.2.2.2.2.2.2.2.2.2.1 j = nI (bs (W0 b w) (wL b w) j).2.2) {K : Int32 → Option Int32} {P : Int32 → Prop} (hK : wp (K (nI (nU b w none))) P) :
    ∀ (f k : Nat), k ≤ nP b w none → nP b w none - k < f → wp (f_X8_unseenIn_L4 N mo (nI w) K f (nI (us (pp b w none) k)) (nI (ps (W0 b w) (wL b w) k))) P
  | 0, _, h1, h2 => by omega
  | f + 1, k, h1, h2 => by
    have hv := hb.2.2.2.1 w hw
    have h8 := hb.2.1
    have h16 := hb.1
    have hn := nP_le hb (w := w) none
    have hW : okW (W0 b w) (wL b w) := Wf_ok hb w none
    rw [f_X8_unseenIn_L4, wLen_ok hs (by omega), Option.bind_some]
    by_cases hk : k < nP b w none
    · have hlt : ps (W0 b w) (wL b w) k < wL b w := ps_lt hW hk
      obtain ⟨f1, f2, f3⟩ := bs_F hW hlt
      have hm := ml_le (n := wL b w) (i := ps (W0 b w) (wL b w) k)
      have ho : ∀ p, pc b w (ps (W0 b w) (wL b w) k) (bs (W0 b w) (wL b w) (ps (W0 b w) (wL b w) k)).2.2 = some p → p < 16 := fun p hp => by have := (pc_lt hp).1; omega
      have hps : ps (W0 b w) (wL b w) (k + 1) = ps (W0 b w) (wL b w) k + (bs (W0 b w) (wL b w) (ps (W0 b w) (wL b w) k)).2.2 := rfl
      have hus : us (pp b w none) (k + 1) = us (pp b w none) k + (if pp b w none k = none then 1 else 0) := rfl
      have ih := unseen_L hN hb hs hw hF hK f (k + 1) (by omega) (by omega)
      rw [hps, hus, pp0] at ih
      rw [if_neg (show ¬ nI (wL b w) ≤ nI (ps (W0 b w) (wL b w) k) from nI_ge hlt (by omega)), q_ck (show ps (W0 b w) (wL b w) k < 13 by omega) (by decide), nI_clamp (show ps (W0 b w) (wL b w) k < 2 ^ 31 by omega), hF _ hlt, textIn_ok hN hs (by omega) (by omega), Option.bind_some, pieceIn_ok hN hb hs hw (by omega) (by omega), Option.bind_some, q_jn]
      by_cases e : pc b w (ps (W0 b w) (wL b w) k) (bs (W0 b w) (wL b w) (ps (W0 b w) (wL b w) k)).2.2 = none
      · rw [if_pos ((oI_m6 ho).mpr e)]
        rw [if_pos e] at ih
        dsimp only
        rw [q_bd, nI_1, q_ck (show ps (W0 b w) (wL b w) k < 13 by omega) (by decide), q_bd, nI_add]
        exact ih
      · rw [if_neg (fun g => e ((oI_m6 ho).mp g))]
        rw [if_neg e] at ih
        dsimp only
        rw [q_bd, show (0 : Int32) = nI 0 from rfl, nI_add, q_ck (show ps (W0 b w) (wL b w) k < 13 by omega) (by decide), q_bd, nI_add]
        exact ih
    · have e : k = nP b w none := by omega
      subst e
      have e2 : ps (W0 b w) (wL b w) (nP b w none) = wL b w := ps_end hW
      rw [e2, if_pos (show nI (wL b w) ≤ nI (wL b w) from nI_le (Nat.le_refl _) (by omega))]
      exact hK
theorem unseen_ok {N : Nat} (hN : 16 < N) {mo : MV} {b : bk} (hb : OKb b) (hs : MS mo b) {w : Nat} (hw : w < b 1) (hF : ∀ j, j < wL b w → mo.2.2.2.2.2.2.2.2.2.2.1 j = nI (bs (W0 b w) (wL b w) j).2.2) : f_X8_unseenIn N mo (nI w) = some (nI (nU b w none)) := by
  have hv := hb.2.2.2.1 w hw
  have hn := nP_le hb (w := w) none
  have key : wp (f_X8_unseenIn N mo (nI w)) (fun r => r = nI (nU b w none)) := by
    unfold f_X8_unseenIn
    refine unseen_L hN hb hs hw hF ?_ N 0 (Nat.zero_le _) (by omega)
    exact wp_some rfl
  obtain ⟨r, h1, h2⟩ := key
  rw [h1, h2]
theorem costOf_ok {N : Nat} (hN : 16 < N) {mo : MV} {b : bk} (hb : OKb b) (hs : MS mo b) {w : Nat} (hw : w < b 1) : wp (f_X8_costOf N mo (nI w)) (fun r => r.1 = nI (cost1 b none w) ∧ ∃ Pr C F, r.2 = setc mo Pr C F) := by
  have h8 := hb.2.1
  unfold f_X8_costOf
  refine wp_bind (wp_mono (cut_ok hN hb hs hw) (fun r hr => ?_))
  obtain ⟨Pr, C, F, rfl, hA⟩ := hr
  have hF : ∀ j, j < wL b w → (setc mo Pr C F).2.2.2.2.2.2.2.2.2.2.1 j = nI (bs (W0 b w) (wL b w) j).2.2 := fun j hj => (hA j (Nat.zero_le _) (by omega)).2.2 hj
  rw [q_ck0 (by decide) (by decide), unseen_ok hN hb (setc_S mo b Pr C F hs) hw hF, Option.bind_some, wCnt_ok (setc_S mo b Pr C F hs) (by omega), Option.bind_some, setc_C, show ((0 : Int32).toNatClampNeg) = 0 from rfl, (hA 0 (Nat.le_refl _) (Nat.zero_le _)).2.1, nI_add, pk_mul]
  exact wp_some ⟨rfl, Pr, C, F, rfl⟩
theorem allCosts_L {N : Nat} (hN : 16 < N) {mo : MV} {b : bk} (hb : OKb b) (hs : MS mo b) {K : Int32 → MV → Option (Int32 × MV)} {P : Int32 × MV → Prop} (hK : ∀ Pr C F, wp (K (nI (sm (cost1 b none) (b 1))) (setc mo Pr C F)) P) :
    ∀ (f w : Nat) (Pr : Nat → Int64) (C F : Nat → Int32), w ≤ b 1 → b 1 - w < f → wp (f_X8_allCosts_L4 N K f (nI (sm (cost1 b none) w)) (nI w) (setc mo Pr C F)) P
  | 0, _, _, _, _, h1, h2 => by omega
  | f + 1, w, Pr, C, F, h1, h2 => by
    have h8 := hb.2.1
    rw [f_X8_allCosts_L4, show (ck 1 210 : Option (Int32 × MV) → Option (Int32 × MV)) = ck (nI 1) 210 from rfl, q_ck (by decide) (by decide), show ((1 : Int32).toNatClampNeg) = 1 from rfl, setc_S mo b Pr C F hs 1 (by decide)]
    by_cases hw : w < b 1
    · rw [if_neg (show ¬ nI (b 1) ≤ nI w from nI_ge hw (by omega))]
      refine wp_bind (wp_mono (costOf_ok hN hb (setc_S mo b Pr C F hs) hw) (fun r hr => ?_))
      obtain ⟨e1, Pr2, C2, F2, e2⟩ := hr
      rw [e1, e2, nI_add, q_bd, nI_1]
      exact allCosts_L hN hb hs hK f (w + 1) Pr2 C2 F2 (by omega) (by omega)
    · have e : w = b 1 := by omega
      subst e
      rw [if_pos (show nI (b 1) ≤ nI (b 1) from nI_le (Nat.le_refl _) (by omega))]
      exact hK Pr C F
theorem allCosts_ok {N : Nat} (hN : 16 < N) {mo : MV} {b : bk} (hb : OKb b) (hs : MS mo b) : wp (f_X8_allCosts N mo) (fun r => r.1 = nI (sm (cost1 b none) (b 1)) ∧ ∃ Pr C F, r.2 = setc mo Pr C F) := by
  have h8 := hb.2.1
  unfold f_X8_allCosts
  refine allCosts_L hN hb hs (fun Pr C F => ?_) N 0 mo.2.2.2.2.2.2.2.2.1 mo.2.2.2.2.2.2.2.2.2.1 mo.2.2.2.2.2.2.2.2.2.2.1 (Nat.zero_le _) (by omega)
  exact wp_some ⟨rfl, Pr, C, F, rfl⟩
/-! the reference: totals -/
def sett (mo : MV) (A B : Nat → Int64) : MV := (mo.1, mo.2.1, mo.2.2.1, mo.2.2.2.1, mo.2.2.2.2.1, mo.2.2.2.2.2.1, mo.2.2.2.2.2.2.1, mo.2.2.2.2.2.2.2.1, mo.2.2.2.2.2.2.2.2.1, mo.2.2.2.2.2.2.2.2.2.1, mo.2.2.2.2.2.2.2.2.2.2.1, A, B, mo.2.2.2.2.2.2.2.2.2.2.2.2.2.1, mo.2.2.2.2.2.2.2.2.2.2.2.2.2.2.1, mo.2.2.2.2.2.2.2.2.2.2.2.2.2.2.2.1, mo.2.2.2.2.2.2.2.2.2.2.2.2.2.2.2.2.1, mo.2.2.2.2.2.2.2.2.2.2.2.2.2.2.2.2.2)
theorem sett_A (mo : MV) (A B : Nat → Int64) : (sett mo A B).2.2.2.2.2.2.2.2.2.2.2.1 = A := rfl
theorem sett_B (mo : MV) (A B : Nat → Int64) : (sett mo A B).2.2.2.2.2.2.2.2.2.2.2.2.1 = B := rfl
theorem sett_S (mo : MV) (b : bk) (A B : Nat → Int64) (h : MS mo b) : MS (sett mo A B) b := h
theorem tot_L9 {N n : Nat} (hn : n ≤ 12) {mo : MV} {w : Nat} {K : MV → Option MV} {P : MV → Prop} (hK : ∀ A B, (∀ k, k ≤ n → A k = lN (if k = 0 then 1 else 0)) → (∀ k, k ≤ n → B k = lN (if k = n then 1 else 0)) → wp (K (sett mo A B)) P) :
    ∀ (f i : Nat) (A B : Nat → Int64), i ≤ n + 1 → n + 1 - i < f → (∀ k, k < i → A k = lN (if k = 0 then 1 else 0)) → (∀ k, k < i → B k = lN (if k = n then 1 else 0)) → wp (f_X8_findTotals_L9 N (nI w) (nI n) K f (nI i) (sett mo A B)) P
  | 0, _, _, _, h1, h2, _, _ => by omega
  | f + 1, i, A, B, h1, h2, h3, h4 => by
    rw [f_X8_findTotals_L9]
    by_cases h : i ≤ n
    · have ih := fun A B => tot_L9 (N := N) (w := w) hn hK f (i + 1) A B (by omega) (by omega)
      rw [if_neg (show ¬ nI n < nI i from nI_nlt h (by omega)), q_jn]
      have key : ∀ x y : Int64, x = lN (if i = 0 then 1 else 0) → y = lN (if i = n then 1 else 0) → wp (f_X8_findTotals_L9 N (nI w) (nI n) K f (nI (i + 1)) (sett mo (vp_updL A i x) (vp_updL B i y))) P := by
        intro x y hx hy
        refine ih _ _ (fun k hk => ?_) (fun k hk => ?_)
        · by_cases e : k = i
          · rw [e]; exact (updL_s _ _ _).trans hx
          · exact (updL_o e).trans (h3 k (by omega))
        · by_cases e : k = i
          · rw [e]; exact (updL_s _ _ _).trans hy
          · exact (updL_o e).trans (h4 k (by omega))
      by_cases c1 : i = 0
      · rw [if_pos (show nI i = (0 : Int32) by rw [c1]; rfl)]
        dsimp only
        rw [q_ck (show i < 13 by omega) (by decide), q_jn, nI_clamp (show i < 2 ^ 31 by omega), nI_1]
        by_cases c2 : i = n
        · rw [if_pos (show nI i = nI n by rw [c2])]
          dsimp only
          rw [q_ck (show i < 13 by omega) (by decide)]
          exact key 1 1 (by rw [if_pos c1]; rfl) (by rw [if_pos c2]; rfl)
        · rw [if_neg (fun e => c2 ((nI_eq (by omega) (by omega)).mp e))]
          dsimp only
          rw [q_ck (show i < 13 by omega) (by decide)]
          exact key 1 0 (by rw [if_pos c1]; rfl) (by rw [if_neg c2]; rfl)
      · rw [if_neg (show ¬ nI i = (0 : Int32) from fun e => c1 ((nI_eq (b := 0) (by omega) (by decide)).mp e))]
        dsimp only
        rw [q_ck (show i < 13 by omega) (by decide), q_jn, nI_clamp (show i < 2 ^ 31 by omega), nI_1]
        by_cases c2 : i = n
        · rw [if_pos (show nI i = nI n by rw [c2])]
          dsimp only
          rw [q_ck (show i < 13 by omega) (by decide)]
          exact key 0 1 (by rw [if_neg c1]; rfl) (by rw [if_pos c2]; rfl)
        · rw [if_neg (fun e => c2 ((nI_eq (by omega) (by omega)).mp e))]
          dsimp only
          rw [q_ck (show i < 13 by omega) (by decide)]
          exact key 0 0 (by rw [if_neg c1]; rfl) (by rw [if_neg c2]; rfl)
    · rw [if_pos (show nI n < nI i from nI_lt (by omega) (by omega))]
      exact hK A B (fun k hk => h3 k (by omega)) (fun k hk => h4 k (by omega))
theorem tot_L61 {N : Nat} (hN : 16 < N) {mo : MV} {b : bk} (hb : OKb b) (hs : MS mo b) {w : Nat} (hw : w < b 1) {i : Nat} (hi : i < wL b w) {B : Nat → Int64} {K : MV → Option MV} {P : MV → Prop} (hK : ∀ A, (∀ k, k ≤ wL b w → A k = lN (aS (W0 b w) (wL b w) (i + 1) k)) → wp (K (sett mo A B)) P) :
    ∀ (f L : Nat) (A : Nat → Int64), L ≤ ml (wL b w) i → ml (wL b w) i - L < f → (∀ k, k ≤ wL b w → A k = lN (aL (W0 b w) i (aS (W0 b w) (wL b w) i) L k)) → wp (f_X8_findTotals_L61 N (nI w) (nI (wL b w)) (nI i) K f (nI (L + 1)) (sett mo A B)) P
  | 0, _, _, h1, h2, _ => by omega
  | f + 1, L, A, h1, h2, h3 => by
    have hv := hb.2.2.2.1 w hw
    have hm := ml_le (n := wL b w) (i := i)
    have hW : W0 b w i (L + 1) ≤ 9 := (Wf_ok hb w none).2 i (L + 1)
    rw [f_X8_findTotals_L61, longest_ok hb (sett_S mo b A B hs) hw (by omega), Option.bind_some]
    by_cases hL : L < ml (wL b w) i
    · rw [if_neg (show ¬ nI (ml (wL b w) i) < nI (L + 1) from nI_nlt (by omega) (by omega)), nI_add, q_ck (show i + (L + 1) < 13 by omega) (by decide), weightIn_ok hN hb (sett_S mo b A B hs) hw (by omega) (by omega), Option.bind_some, q_ck (show i < 13 by omega) (by decide), q_ck (show i + (L + 1) < 13 by omega) (by decide), nI_clamp (show i + (L + 1) < 2 ^ 31 by omega), nI_clamp (show i < 2 ^ 31 by omega), sett_A, sett_B, q_toL (show W0 b w i (L + 1) < 2 ^ 31 by omega), h3 (i + (L + 1)) (by omega), h3 i (by omega), lN_mul, lN_add, nI_1]
      refine tot_L61 hN hb hs hw hi hK f (L + 1) _ (by omega) (by omega) (fun k hk => ?_)
      by_cases e : k = i + (L + 1)
      · subst e
        refine (updL_s _ _ _).trans ?_
        show _ = lN (if i + (L + 1) = i + (L + 1) then aL (W0 b w) i (aS (W0 b w) (wL b w) i) L (i + (L + 1)) + aL (W0 b w) i (aS (W0 b w) (wL b w) i) L i * W0 b w i (L + 1) else aL (W0 b w) i (aS (W0 b w) (wL b w) i) L (i + (L + 1)))
        rw [if_pos rfl, Nat.mul_comm (aL (W0 b w) i (aS (W0 b w) (wL b w) i) L i)]
      · refine (updL_o e).trans ((h3 k hk).trans ?_)
        show _ = lN (if k = i + (L + 1) then aL (W0 b w) i (aS (W0 b w) (wL b w) i) L k + aL (W0 b w) i (aS (W0 b w) (wL b w) i) L i * W0 b w i (L + 1) else aL (W0 b w) i (aS (W0 b w) (wL b w) i) L k)
        rw [if_neg e]
    · have e : L = ml (wL b w) i := by omega
      rw [if_pos (show nI (ml (wL b w) i) < nI (L + 1) from nI_lt (by omega) (by omega))]
      exact hK A (fun k hk => by rw [h3 k hk, e]; rfl)
theorem tot_L53 {N : Nat} (hN : 16 < N) {mo : MV} {b : bk} (hb : OKb b) (hs : MS mo b) {w : Nat} (hw : w < b 1) {B : Nat → Int64} {K : MV → Option MV} {P : MV → Prop} (hK : ∀ A, (∀ k, k ≤ wL b w → A k = lN (aS (W0 b w) (wL b w) (wL b w) k)) → wp (K (sett mo A B)) P) :
    ∀ (f i : Nat) (A : Nat → Int64), i ≤ wL b w → wL b w - i < f → (∀ k, k ≤ wL b w → A k = lN (aS (W0 b w) (wL b w) i k)) → wp (f_X8_findTotals_L53 N (nI w) (nI (wL b w)) K f (nI i) (sett mo A B)) P
  | 0, _, _, h1, h2, _ => by omega
  | f + 1, i, A, h1, h2, h3 => by
    have hv := hb.2.2.2.1 w hw
    have hm := ml_le (n := wL b w) (i := i)
    rw [f_X8_findTotals_L53]
    by_cases hi : i < wL b w
    · rw [if_neg (show ¬ nI (wL b w) ≤ nI i from nI_ge hi (by omega))]
      refine tot_L61 hN hb hs hw hi (fun A2 h4 => ?_) N 0 A (Nat.zero_le _) (by omega) h3
      rw [nI_1]
      exact tot_L53 hN hb hs hw hK f (i + 1) A2 (by omega) (by omega) h4
    · have e : i = wL b w := by omega
      subst e
      rw [if_pos (show nI (wL b w) ≤ nI (wL b w) from nI_le (Nat.le_refl _) (by omega))]
      exact hK A h3
def TI (b : bk) (w : Nat) (B : Nat → Int64) (i L : Nat) : Prop := (∀ j, i < j → j ≤ wL b w → B j = lN (bh (W0 b w) (wL b w) j)) ∧ (∀ j, j < i → B j = lN 0) ∧ B i = lN (bhL (W0 b w) (wL b w) i L)
theorem tot_L123 {N : Nat} (hN : 16 < N) {mo : MV} {b : bk} (hb : OKb b) (hs : MS mo b) {w : Nat} (hw : w < b 1) {i : Nat} (hi : i < wL b w) {A : Nat → Int64} {K : MV → Option MV} {P : MV → Prop} (hK : ∀ B, TI b w B i (ml (wL b w) i) → wp (K (sett mo A B)) P) :
    ∀ (f L : Nat) (B : Nat → Int64), L ≤ ml (wL b w) i → ml (wL b w) i - L < f → TI b w B i L → wp (f_X8_findTotals_L123 N (nI w) (nI i) K f (nI (L + 1)) (sett mo A B)) P
  | 0, _, _, h1, h2, _ => by omega
  | f + 1, L, B, h1, h2, h3 => by
    have hv := hb.2.2.2.1 w hw
    have hm := ml_le (n := wL b w) (i := i)
    have hW : W0 b w i (L + 1) ≤ 9 := (Wf_ok hb w none).2 i (L + 1)
    rw [f_X8_findTotals_L123, longest_ok hb (sett_S mo b A B hs) hw (by omega), Option.bind_some]
    by_cases hL : L < ml (wL b w) i
    · have e1 := h3.1 (i + (L + 1)) (by omega) (by omega)
      rw [if_neg (show ¬ nI (ml (wL b w) i) < nI (L + 1) from nI_nlt (by omega) (by omega)), q_ck (show i < 13 by omega) (by decide), weightIn_ok hN hb (sett_S mo b A B hs) hw (by omega) (by omega), Option.bind_some, nI_add, q_ck (show i + (L + 1) < 13 by omega) (by decide), q_ck (show i < 13 by omega) (by decide), nI_clamp (show i + (L + 1) < 2 ^ 31 by omega), nI_clamp (show i < 2 ^ 31 by omega), sett_A, sett_B, q_toL (show W0 b w i (L + 1) < 2 ^ 31 by omega), e1, h3.2.2, lN_mul, lN_add, nI_1]
      refine tot_L123 hN hb hs hw hi hK f (L + 1) _ (by omega) (by omega) ⟨fun j hj hjn => (updL_o (by omega)).trans (h3.1 j hj hjn), fun j hj => (updL_o (by omega)).trans (h3.2.1 j hj), ?_⟩
      rw [bhL_s]
      exact updL_s _ _ _
    · have e : L = ml (wL b w) i := by omega
      rw [if_pos (show nI (ml (wL b w) i) < nI (L + 1) from nI_lt (by omega) (by omega))]
      exact hK B (by rw [← e]; exact h3)
def TA (b : bk) (w : Nat) (B : Nat → Int64) (i : Nat) : Prop := (∀ j, i ≤ j → j ≤ wL b w → B j = lN (bh (W0 b w) (wL b w) j)) ∧ ∀ j, j < i → B j = lN 0
theorem tot_L116 {N : Nat} (hN : 16 < N) {mo : MV} {b : bk} (hb : OKb b) (hs : MS mo b) {w : Nat} (hw : w < b 1) {A : Nat → Int64} {K : MV → Option MV} {P : MV → Prop} (hK : ∀ B, TA b w B 0 → wp (K (sett mo A B)) P) :
    ∀ (f i : Nat) (B : Nat → Int64), i ≤ wL b w → i < f → TA b w B i → wp (f_X8_findTotals_L116 N (nI w) K f (nI i - 1) (sett mo A B)) P
  | 0, _, _, _, h2, _ => by omega
  | f + 1, 0, B, h1, h2, h3 => by
    rw [f_X8_findTotals_L116, if_pos (show nI 0 - 1 < (0 : Int32) by decide)]
    exact hK B h3
  | f + 1, i + 1, B, h1, h2, h3 => by
    have hv := hb.2.2.2.1 w hw
    have hm := ml_le (n := wL b w) (i := i)
    rw [f_X8_findTotals_L116, nI_pred, if_neg (show ¬ nI i < (0 : Int32) from nI_pos (by omega)), dn_m1]
    refine tot_L123 hN hb hs hw (by omega) (fun B2 h4 => ?_) N 0 B (Nat.zero_le _) (by omega) ⟨fun j hj hjn => h3.1 j (by omega) hjn, fun j hj => h3.2 j (by omega), ?_⟩
    · refine tot_L116 hN hb hs hw hK f i B2 (by omega) (by omega) ⟨fun j hj hjn => ?_, h4.2.1⟩
      by_cases e : j = i
      · subst e
        rw [bh_i (by omega)]
        exact h4.2.2
      · exact h4.1 j (by omega) hjn
    · rw [bhL_0]; exact h3.2 i (by omega)
theorem tot_ok {N : Nat} (hN : 16 < N) {mo : MV} {b : bk} (hb : OKb b) (hs : MS mo b) {w : Nat} (hw : w < b 1) : wp (f_X8_findTotals N mo (nI w)) (fun r => ∃ A B, r = sett mo A B ∧ (∀ k, k ≤ wL b w → A k = lN (aS (W0 b w) (wL b w) (wL b w) k)) ∧ ∀ j, j ≤ wL b w → B j = lN (bh (W0 b w) (wL b w) j)) := by
  have hv := hb.2.2.2.1 w hw
  have h8 := hb.2.1
  unfold f_X8_findTotals
  rw [wLen_ok hs (by omega), Option.bind_some]
  refine tot_L9 (show wL b w ≤ 12 by omega) (fun A B hA hB => ?_) N 0 mo.2.2.2.2.2.2.2.2.2.2.2.1 mo.2.2.2.2.2.2.2.2.2.2.2.2.1 (Nat.zero_le _) (by omega) (fun k hk => by omega) (fun k hk => by omega)
  refine tot_L53 hN hb hs hw (fun A2 h2 => ?_) N 0 A (Nat.zero_le _) (by omega) (fun k hk => (hA k hk).trans rfl)
  refine tot_L116 hN hb hs hw (fun B2 h3 => ?_) N (wL b w) B (Nat.le_refl _) (by omega) ⟨fun j h1 h4 => ?_, fun j hj => ?_⟩
  · exact wp_some ⟨A2, B2, rfl, h2, fun j hj => h3.1 j (Nat.zero_le _) hj⟩
  · have e : j = wL b w := by omega
    subst e
    rw [bh_n, hB _ (Nat.le_refl _), if_pos rfl]
  · rw [hB j (by omega), if_neg (by omega)]
