/-! the reference: shares, cuts, bears -/
theorem sN_tail {b : bk} {w p : Nat} : ∀ d i, i + d = wL b w → wL b w < i + pL b p → sN b w p (wL b w) = sN b w p i
  | 0, i, h, _ => by rw [← h]; rfl
  | d + 1, i, h, h2 => by
    have h3 := sN_tail (b := b) (w := w) (p := p) d (i + 1) (by omega) (by omega)
    have hm := ml_le (n := wL b w) (i := i)
    rw [h3]
    show sN b w p i + (if hit b w p i then tm b w p i else 0) = sN b w p i
    rw [if_neg (fun e => by have := e.1; omega)]
    rfl
theorem share2_L {N : Nat} (hN : 16 < N) {mo : MV} {b : bk} (hb : OKb b) (hs : MS mo b) {w : Nat} (hw : w < b 1) {p : Nat} (hp : p < b 0) (hA : ∀ k, k ≤ wL b w → mo.2.2.2.2.2.2.2.2.2.2.2.1 k = lN (aS (W0 b w) (wL b w) (wL b w) k)) (hB : ∀ j, j ≤ wL b w → mo.2.2.2.2.2.2.2.2.2.2.2.2.1 j = lN (bh (W0 b w) (wL b w) j)) {K : Int64 → Option Int32} {P : Int32 → Prop} (hK : wp (K (lN (sN b w p (wL b w)))) P) :
    ∀ (f i : Nat), i ≤ wL b w → wL b w - i < f → wp (f_X8_shareIn_L20 N mo (nI w) (nI p) (nI (pL b p)) (nI (cod 7 (pT b p) (pL b p))) K f (lN (sN b w p i)) (nI i)) P
  | 0, _, h1, h2 => by omega
  | f + 1, i, h1, h2 => by
    have hv := hb.2.2.2.1 w hw
    have hq := hb.2.2.1 p hp
    have h8 := hb.2.1
    have h16 := hb.1
    rw [f_X8_shareIn_L20, wLen_ok hs (by omega), Option.bind_some, nI_add]
    by_cases h : wL b w < i + pL b p
    · rw [if_pos (show nI (wL b w) < nI (i + pL b p) from nI_lt h (by omega)), ← sN_tail (wL b w - i) i (by omega) h]
      exact hK
    · have hseg : ∀ k, k < pL b p → 1 ≤ wT b w (i + k) ∧ wT b w (i + k) ≤ 6 := fun k hk => hv.2.2.2.2 (i + k) (by omega)
      have c7 := cod7_lt hq.2.1 (fun k hk => (hseg k hk).2)
      have c7p := cod7_lt hq.2.1 (fun k hk => (hq.2.2.2.2 k hk).2)
      have hiff : nI (cod 7 (fun k => wT b w (i + k)) (pL b p)) = nI (cod 7 (pT b p) (pL b p)) ↔ hit b w p i := by
        rw [nI_eq (by omega) (by omega)]
        constructor
        · intro e
          obtain ⟨-, g⟩ := cod_inj (by omega) hseg hq.2.2.2.2 e
          refine ⟨?_, pc_of hb hp ⟨rfl, fun k hk => (g k hk).symm⟩⟩
          unfold ml
          split <;> omega
        · intro e
          exact cod_congr _ (fun k hk => ((pc_lt e.2).2.2 k hk).symm)
      rw [if_neg (show ¬ nI (wL b w) < nI (i + pL b p) from nI_nlt (by omega) (by omega)), textIn_ok hN hs (by omega) (by omega), Option.bind_some, nI_1]
      by_cases g : hit b w p i
      · have e1 : sN b w p i + aS (W0 b w) (wL b w) (wL b w) i * pW b p * bh (W0 b w) (wL b w) (i + pL b p) = sN b w p (i + 1) := by
          show _ = sN b w p i + (if hit b w p i then tm b w p i else 0)
          rw [if_pos g]
          rfl
        rw [if_pos (hiff.mpr g), q_ck (show i < 13 by omega) (by decide), pWt_ok hs (by omega), Option.bind_some, q_ck (show i + pL b p < 13 by omega) (by decide), nI_clamp (show i < 2 ^ 31 by omega), nI_clamp (show i + pL b p < 2 ^ 31 by omega), hA i (by omega), hB (i + pL b p) (by omega), q_toL (show pW b p < 2 ^ 31 by omega), lN_mul, lN_mul, lN_add, q_bd, e1]
        exact share2_L hN hb hs hw hp hA hB hK f (i + 1) (by omega) (by omega)
      · have e1 : sN b w p i = sN b w p (i + 1) := by
          show _ = sN b w p i + (if hit b w p i then tm b w p i else 0)
          rw [if_neg g]
          rfl
        rw [if_neg (fun e => g (hiff.mp e)), show (0 : Int64) = lN 0 from rfl, lN_add, Nat.add_zero, e1]
        exact share2_L hN hb hs hw hp hA hB hK f (i + 1) (by omega) (by omega)
theorem shareIn_ok {N : Nat} (hN : 16 < N) {mo : MV} {b : bk} (hb : OKb b) (hs : MS mo b) {w : Nat} (hw : w < b 1) {p : Nat} (hp : p < b 0) (hA : ∀ k, k ≤ wL b w → mo.2.2.2.2.2.2.2.2.2.2.2.1 k = lN (aS (W0 b w) (wL b w) (wL b w) k)) (hB : ∀ j, j ≤ wL b w → mo.2.2.2.2.2.2.2.2.2.2.2.2.1 j = lN (bh (W0 b w) (wL b w) j)) : f_X8_shareIn N mo (nI w) (nI p) = some (shr b w p) := by
  have hv := hb.2.2.2.1 w hw
  have h16 := hb.1
  have hT : 1 ≤ bh (W0 b w) (wL b w) 0 ∧ bh (W0 b w) (wL b w) 0 ≤ 1000000000000 := bh_b (Wf_ok hb w none) hv.2.1 (Nat.zero_le (wL b w))
  have key : wp (f_X8_shareIn N mo (nI w) (nI p)) (fun r => r = shr b w p) := by
    unfold f_X8_shareIn
    rw [pLen_ok hs (by omega), Option.bind_some, textOf_ok hN hb hs hp, Option.bind_some]
    refine share2_L hN hb hs hw hp hA hB ?_ N 0 (Nat.zero_le _) (by omega)
    rw [q_ck0 (by decide) (by decide), show ((0 : Int32).toNatClampNeg) = 0 from rfl, hB 0 (Nat.zero_le _), q_nzl (show 0 < bh (W0 b w) (wL b w) 0 by omega) (show bh (W0 b w) (wL b w) 0 < 2 ^ 63 by omega)]
    exact wp_some rfl
  obtain ⟨r, h1, h2⟩ := key
  rw [h1, h2]
theorem cuts_L9 {N n : Nat} (hn : n ≤ 12) {mo : MV} {w : Nat} {K : MV → Option (Int32 × MV)} {P : Int32 × MV → Prop} (hK : ∀ B, (∀ k, k ≤ n → B k = lN (if k = n then 1 else 0)) → wp (K (sett mo mo.2.2.2.2.2.2.2.2.2.2.2.1 B)) P) :
    ∀ (f i : Nat) (B : Nat → Int64), i ≤ n + 1 → n + 1 - i < f → (∀ k, k < i → B k = lN (if k = n then 1 else 0)) → wp (f_X8_cutsOf_L9 N (nI w) (nI n) K f (nI i) (sett mo mo.2.2.2.2.2.2.2.2.2.2.2.1 B)) P
  | 0, _, _, h1, h2, _ => by omega
  | f + 1, i, B, h1, h2, h4 => by
    rw [f_X8_cutsOf_L9]
    by_cases h : i ≤ n
    · rw [if_neg (show ¬ nI n < nI i from nI_nlt h (by omega)), q_jn]
      have key : ∀ y : Int64, y = lN (if i = n then 1 else 0) → wp (f_X8_cutsOf_L9 N (nI w) (nI n) K f (nI (i + 1)) (sett mo mo.2.2.2.2.2.2.2.2.2.2.2.1 (vp_updL B i y))) P := by
        intro y hy
        refine cuts_L9 hn hK f (i + 1) _ (by omega) (by omega) (fun k hk => ?_)
        by_cases e : k = i
        · rw [e]; exact (updL_s _ _ _).trans hy
        · exact (updL_o e).trans (h4 k (by omega))
      by_cases c2 : i = n
      · rw [if_pos (show nI i = nI n by rw [c2])]
        dsimp only
        rw [q_ck (show i < 13 by omega) (by decide), nI_clamp (show i < 2 ^ 31 by omega), nI_1]
        exact key 1 (by rw [if_pos c2]; rfl)
      · rw [if_neg (fun e => c2 ((nI_eq (by omega) (by omega)).mp e))]
        dsimp only
        rw [q_ck (show i < 13 by omega) (by decide), nI_clamp (show i < 2 ^ 31 by omega), nI_1]
        exact key 0 (by rw [if_neg c2]; rfl)
    · rw [if_pos (show nI n < nI i from nI_lt (by omega) (by omega))]
      exact hK B (fun k hk => h4 k (by omega))
def UI (b : bk) (w : Nat) (B : Nat → Int64) (i L : Nat) : Prop := (∀ j, i < j → j ≤ wL b w → B j = lN (bh (W1 b w) (wL b w) j)) ∧ (∀ j, j < i → B j = lN 0) ∧ B i = lN (bhL (W1 b w) (wL b w) i L)
theorem cuts_L47 {N : Nat} (hN : 16 < N) {mo : MV} {b : bk} (hb : OKb b) (hs : MS mo b) {w : Nat} (hw : w < b 1) {i : Nat} (hi : i < wL b w) {K : MV → Option (Int32 × MV)} {P : Int32 × MV → Prop} (hK : ∀ B, UI b w B i (ml (wL b w) i) → wp (K (sett mo mo.2.2.2.2.2.2.2.2.2.2.2.1 B)) P) :
    ∀ (f L : Nat) (B : Nat → Int64), L ≤ ml (wL b w) i → ml (wL b w) i - L < f → UI b w B i L → wp (f_X8_cutsOf_L47 N (nI w) (nI i) K f (nI (L + 1)) (sett mo mo.2.2.2.2.2.2.2.2.2.2.2.1 B)) P
  | 0, _, _, h1, h2, _ => by omega
  | f + 1, L, B, h1, h2, h3 => by
    have hv := hb.2.2.2.1 w hw
    have hm := ml_le (n := wL b w) (i := i)
    have hW : W0 b w i (L + 1) ≤ 9 := (Wf_ok hb w none).2 i (L + 1)
    rw [f_X8_cutsOf_L47, longest_ok hb (sett_S mo b mo.2.2.2.2.2.2.2.2.2.2.2.1 B hs) hw (by omega), Option.bind_some]
    by_cases hL : L < ml (wL b w) i
    · have e1 := h3.1 (i + (L + 1)) (by omega) (by omega)
      have b1 := bhL_s (W1 b w) (wL b w) i L
      rw [if_neg (show ¬ nI (ml (wL b w) i) < nI (L + 1) from nI_nlt (by omega) (by omega)), q_ck (show i < 13 by omega) (by decide), weightIn_ok hN hb (sett_S mo b mo.2.2.2.2.2.2.2.2.2.2.2.1 B hs) hw (by omega) (by omega), Option.bind_some, q_jn, nI_add]
      have key : ∀ z : Nat, z = W1 b w i (L + 1) * bh (W1 b w) (wL b w) (i + (L + 1)) → wp (f_X8_cutsOf_L47 N (nI w) (nI i) K f (nI (L + 1 + 1)) (sett mo mo.2.2.2.2.2.2.2.2.2.2.2.1 (vp_updL B i (lN (bhL (W1 b w) (wL b w) i L + z))))) P := by
        intro z hz
        refine cuts_L47 hN hb hs hw hi hK f (L + 1) _ (by omega) (by omega) ⟨fun j hj hjn => (updL_o (by omega)).trans (h3.1 j hj hjn), fun j hj => (updL_o (by omega)).trans (h3.2.1 j hj), ?_⟩
        rw [bhL_s, ← hz]
        exact updL_s _ _ _
      by_cases c0 : W0 b w i (L + 1) ≤ 0
      · have z1 : W1 b w i (L + 1) = 0 := if_neg (by omega)
        rw [if_pos ((q_le0 (by omega)).mpr c0)]
        dsimp only
        rw [q_ck (show i < 13 by omega) (by decide), sett_B, nI_clamp (show i < 2 ^ 31 by omega), h3.2.2, show (0 : Int64) = lN 0 from rfl, lN_add, nI_1]
        exact key 0 (by rw [z1, Nat.zero_mul])
      · have z1 : W1 b w i (L + 1) = 1 := if_pos (by omega)
        rw [if_neg (fun e => c0 ((q_le0 (by omega)).mp e)), q_ck (show i + (L + 1) < 13 by omega) (by decide)]
        dsimp only
        rw [q_ck (show i < 13 by omega) (by decide), sett_B, nI_clamp (show i < 2 ^ 31 by omega), nI_clamp (show i + (L + 1) < 2 ^ 31 by omega), h3.2.2, e1, lN_add, nI_1]
        exact key _ (by rw [z1, Nat.one_mul])
    · have e : L = ml (wL b w) i := by omega
      rw [if_pos (show nI (ml (wL b w) i) < nI (L + 1) from nI_lt (by omega) (by omega))]
      exact hK B (by rw [← e]; exact h3)
def UA (b : bk) (w : Nat) (B : Nat → Int64) (i : Nat) : Prop := (∀ j, i ≤ j → j ≤ wL b w → B j = lN (bh (W1 b w) (wL b w) j)) ∧ ∀ j, j < i → B j = lN 0
theorem cuts_L40 {N : Nat} (hN : 16 < N) {mo : MV} {b : bk} (hb : OKb b) (hs : MS mo b) {w : Nat} (hw : w < b 1) {K : MV → Option (Int32 × MV)} {P : Int32 × MV → Prop} (hK : ∀ B, UA b w B 0 → wp (K (sett mo mo.2.2.2.2.2.2.2.2.2.2.2.1 B)) P) :
    ∀ (f i : Nat) (B : Nat → Int64), i ≤ wL b w → i < f → UA b w B i → wp (f_X8_cutsOf_L40 N (nI w) K f (nI i - 1) (sett mo mo.2.2.2.2.2.2.2.2.2.2.2.1 B)) P
  | 0, _, _, _, h2, _ => by omega
  | f + 1, 0, B, h1, h2, h3 => by
    rw [f_X8_cutsOf_L40, if_pos (show nI 0 - 1 < (0 : Int32) by decide)]
    exact hK B h3
  | f + 1, i + 1, B, h1, h2, h3 => by
    have hv := hb.2.2.2.1 w hw
    have hm := ml_le (n := wL b w) (i := i)
    rw [f_X8_cutsOf_L40, nI_pred, if_neg (show ¬ nI i < (0 : Int32) from nI_pos (by omega)), dn_m1]
    refine cuts_L47 hN hb hs hw (by omega) (fun B2 h4 => ?_) N 0 B (Nat.zero_le _) (by omega) ⟨fun j hj hjn => h3.1 j (by omega) hjn, fun j hj => h3.2 j (by omega), ?_⟩
    · refine cuts_L40 hN hb hs hw hK f i B2 (by omega) (by omega) ⟨fun j hj hjn => ?_, h4.2.1⟩
      by_cases e : j = i
      · subst e
        rw [bh_i (by omega)]
        exact h4.2.2
      · exact h4.1 j (by omega) hjn
    · rw [bhL_0]; exact h3.2 i (by omega)
theorem cuts_ok {N : Nat} (hN : 16 < N) {mo : MV} {b : bk} (hb : OKb b) (hs : MS mo b) {w : Nat} (hw : w < b 1) : wp (f_X8_cutsOf N mo (nI w)) (fun r => r.1 = nI (bh (W1 b w) (wL b w) 0) ∧ ∃ B, r.2 = sett mo mo.2.2.2.2.2.2.2.2.2.2.2.1 B) := by
  have hv := hb.2.2.2.1 w hw
  have h8 := hb.2.1
  unfold f_X8_cutsOf
  rw [wLen_ok hs (by omega), Option.bind_some]
  refine cuts_L9 (show wL b w ≤ 12 by omega) (fun B hB => ?_) N 0 mo.2.2.2.2.2.2.2.2.2.2.2.2.1 (Nat.zero_le _) (by omega) (fun k hk => by omega)
  refine cuts_L40 hN hb hs hw (fun B2 h3 => ?_) N (wL b w) B (Nat.le_refl _) (by omega) ⟨fun j h1 h4 => ?_, fun j hj => ?_⟩
  · rw [q_ck0 (by decide) (by decide), sett_B, show ((0 : Int32).toNatClampNeg) = 0 from rfl, h3.1 0 (Nat.le_refl _) (Nat.zero_le _), lN_i]
    exact wp_some ⟨rfl, B2, rfl⟩
  · have e : j = wL b w := by omega
    subst e
    rw [bh_n, hB _ (Nat.le_refl _), if_pos rfl]
  · rw [hB j (by omega), if_neg (by omega)]
/-- bears -/
def setz (mo : MV) (A B : Nat → Int64) (Z : Nat → Int32) : MV := (mo.1, mo.2.1, mo.2.2.1, mo.2.2.2.1, mo.2.2.2.2.1, mo.2.2.2.2.2.1, mo.2.2.2.2.2.2.1, mo.2.2.2.2.2.2.2.1, mo.2.2.2.2.2.2.2.2.1, mo.2.2.2.2.2.2.2.2.2.1, mo.2.2.2.2.2.2.2.2.2.2.1, A, B, mo.2.2.2.2.2.2.2.2.2.2.2.2.2.1, mo.2.2.2.2.2.2.2.2.2.2.2.2.2.2.1, mo.2.2.2.2.2.2.2.2.2.2.2.2.2.2.2.1, mo.2.2.2.2.2.2.2.2.2.2.2.2.2.2.2.2.1, Z)
theorem setz_A (mo : MV) (A B : Nat → Int64) (Z : Nat → Int32) : (setz mo A B Z).2.2.2.2.2.2.2.2.2.2.2.1 = A := rfl
theorem setz_B (mo : MV) (A B : Nat → Int64) (Z : Nat → Int32) : (setz mo A B Z).2.2.2.2.2.2.2.2.2.2.2.2.1 = B := rfl
theorem setz_Z (mo : MV) (A B : Nat → Int64) (Z : Nat → Int32) : (setz mo A B Z).2.2.2.2.2.2.2.2.2.2.2.2.2.2.2.2.2 = Z := rfl
theorem setz_S (mo : MV) (b : bk) (A B : Nat → Int64) (Z : Nat → Int32) (h : MS mo b) : MS (setz mo A B Z) b := h
theorem setz_1 (mo : MV) (A B : Nat → Int64) (Z : Nat → Int32) : (setz mo A B Z).1 = mo.1 := rfl
theorem bears_L2 {N : Nat} {mo : MV} {b : bk} (hb : OKb b) (hs : MS mo b) {K : MV → Option MV} {P : MV → Prop} (hK : ∀ Z, (∀ p, p < b 0 → Z p = 0) → wp (K (setz mo mo.2.2.2.2.2.2.2.2.2.2.2.1 mo.2.2.2.2.2.2.2.2.2.2.2.2.1 Z)) P) :
    ∀ (f p : Nat) (Z : Nat → Int32), p ≤ b 0 → b 0 - p < f → (∀ q, q < p → Z q = 0) → wp (f_X8_findBears_L2 N K f (nI p) (setz mo mo.2.2.2.2.2.2.2.2.2.2.2.1 mo.2.2.2.2.2.2.2.2.2.2.2.2.1 Z)) P
  | 0, _, _, h1, h2, _ => by omega
  | f + 1, p, Z, h1, h2, h3 => by
    have h16 := hb.1
    rw [f_X8_findBears_L2, q_ck0 (by decide) (by decide), show ((0 : Int32).toNatClampNeg) = 0 from rfl, setz_1, hs 0 (by decide)]
    by_cases hp : p < b 0
    · rw [if_neg (show ¬ nI (b 0) ≤ nI p from nI_ge hp (by omega)), q_ck (show p < 16 by omega) (by decide), nI_1, nI_clamp (show p < 2 ^ 31 by omega)]
      refine bears_L2 hb hs hK f (p + 1) (upd Z p 0) (by omega) (by omega) (fun q hq => ?_)
      by_cases e : q = p
      · rw [e]; exact upd_s _ _ _
      · exact (upd_o e).trans (h3 q (by omega))
    · have e : p = b 0 := by omega
      subst e
      rw [if_pos (show nI (b 0) ≤ nI (b 0) from nI_le (Nat.le_refl _) (by omega))]
      exact hK Z h3
theorem bears_L44 {N : Nat} (hN : 16 < N) {mo : MV} {b : bk} (hb : OKb b) (hs : MS mo b) {w : Nat} (hw : w < b 1) {A B : Nat → Int64} (hA : ∀ k, k ≤ wL b w → A k = lN (aS (W0 b w) (wL b w) (wL b w) k)) (hB : ∀ j, j ≤ wL b w → B j = lN (bh (W0 b w) (wL b w) j)) {K : MV → Option MV} {P : MV → Prop} (hK : ∀ Z, (∀ p, p < b 0 → Z p = be b p (w + 1)) → wp (K (setz mo A B Z)) P) :
    ∀ (f p : Nat) (Z : Nat → Int32), p ≤ b 0 → b 0 - p < f → (∀ q, q < p → Z q = be b q (w + 1)) → (∀ q, p ≤ q → q < b 0 → Z q = be b q w) → wp (f_X8_findBears_L44 N (nI w) K f (nI p) (setz mo A B Z)) P
  | 0, _, _, h1, h2, _, _ => by omega
  | f + 1, p, Z, h1, h2, h3, h4 => by
    have h16 := hb.1
    have h8 := hb.2.1
    rw [f_X8_findBears_L44, q_ck0 (by decide) (by decide), show ((0 : Int32).toNatClampNeg) = 0 from rfl, setz_1, hs 0 (by decide)]
    by_cases hp : p < b 0
    · rw [if_neg (show ¬ nI (b 0) ≤ nI p from nI_ge hp (by omega)), q_ck (show p < 16 by omega) (by decide), wCnt_ok (setz_S mo b A B Z hs) (by omega), Option.bind_some, shareIn_ok hN hb (setz_S mo b A B Z hs) hw hp hA hB, Option.bind_some, q_ck (show p < 16 by omega) (by decide), nI_clamp (show p < 2 ^ 31 by omega), setz_Z, h4 p (Nat.le_refl _) hp, nI_1]
      refine bears_L44 hN hb hs hw hA hB hK f (p + 1) (upd Z p (be b p w + nI (wC b w) * shr b w p)) (by omega) (by omega) (fun q hq => ?_) (fun q hq1 hq2 => (upd_o (by omega)).trans (h4 q (by omega) hq2))
      by_cases e : q = p
      · rw [e]; exact upd_s _ _ _
      · exact (upd_o e).trans (h3 q (by omega))
    · have e : p = b 0 := by omega
      subst e
      rw [if_pos (show nI (b 0) ≤ nI (b 0) from nI_le (Nat.le_refl _) (by omega))]
      exact hK Z h3
theorem bears_L27 {N : Nat} (hN : 16 < N) {mo : MV} {b : bk} (hb : OKb b) (hs : MS mo b) {K : MV → Option MV} {P : MV → Prop} (hK : ∀ A B Z, (∀ p, p < b 0 → Z p = be b p (b 1)) → wp (K (setz mo A B Z)) P) :
    ∀ (f w : Nat) (A B : Nat → Int64) (Z : Nat → Int32), w ≤ b 1 → b 1 - w < f → (∀ p, p < b 0 → Z p = be b p w) → wp (f_X8_findBears_L27 N K f (nI w) (setz mo A B Z)) P
  | 0, _, _, _, _, h1, h2, _ => by omega
  | f + 1, w, A, B, Z, h1, h2, h3 => by
    have h16 := hb.1
    have h8 := hb.2.1
    rw [f_X8_findBears_L27, show (ck 1 210 : Option MV → Option MV) = ck (nI 1) 210 from rfl, q_ck (by decide) (by decide), show ((1 : Int32).toNatClampNeg) = 1 from rfl, setz_1, hs 1 (by decide)]
    by_cases hw : w < b 1
    · rw [if_neg (show ¬ nI (b 1) ≤ nI w from nI_ge hw (by omega))]
      refine wp_bind (wp_mono (tot_ok hN hb (setz_S mo b A B Z hs) hw) (fun r hr => ?_))
      obtain ⟨A2, B2, rfl, hA, hB⟩ := hr
      refine bears_L44 (mo := mo) hN hb hs hw hA hB (fun Z2 h4 => ?_) N 0 Z (Nat.zero_le _) (by omega) (fun q hq => by omega) (fun q _ hq => h3 q hq)
      rw [nI_1]
      exact bears_L27 hN hb hs hK f (w + 1) A2 B2 Z2 (by omega) (by omega) h4
    · have e : w = b 1 := by omega
      subst e
      rw [if_pos (show nI (b 1) ≤ nI (b 1) from nI_le (Nat.le_refl _) (by omega))]
      exact hK A B Z h3
theorem bears_ok {N : Nat} (hN : 16 < N) {mo : MV} {b : bk} (hb : OKb b) (hs : MS mo b) : wp (f_X8_findBears N mo) (fun r => ∃ A B Z, r = setz mo A B Z ∧ ∀ p, p < b 0 → Z p = be b p (b 1)) := by
  have h16 := hb.1
  have h8 := hb.2.1
  unfold f_X8_findBears
  refine bears_L2 hb hs (fun Z hZ => ?_) N 0 mo.2.2.2.2.2.2.2.2.2.2.2.2.2.2.2.2.2 (Nat.zero_le _) (by omega) (fun q hq => by omega)
  refine bears_L27 hN hb hs (fun A B Z2 h => ?_) N 0 mo.2.2.2.2.2.2.2.2.2.2.2.1 mo.2.2.2.2.2.2.2.2.2.2.2.2.1 Z (Nat.zero_le _) (by omega) hZ
  exact wp_some ⟨A, B, Z2, rfl, h⟩
