/-! AllCuts -/
theorem fillJ_ok {N : Nat} {n : Nat} (hn : n < N) (hn2 : n < 2 ^ 31) (g : Nat → Int64) (v : Int64) : wp (f_J7_fill_d0a16 N n g v) (fun r => ∀ k, k < n → r k = v) := by
  unfold f_J7_fill_d0a16
  rw [q_bd, q_ofN]
  have key : ∀ (f i : Nat) (r : Nat → Int64), i ≤ n → n - i < f → (∀ k, k < i → r k = v) → wp (f_J7_fill_d0a16_L6 N n v (nI n) (fun (r : Nat → Int64) => some r) f (nI i) r) (fun r => ∀ k, k < n → r k = v) := by
    intro f
    induction f with
    | zero => intro i r h1 h2; omega
    | succ f ih =>
      intro i r h1 h2 h3
      rw [f_J7_fill_d0a16_L6]
      by_cases h : i < n
      · rw [if_neg (show ¬ nI n ≤ nI i from nI_ge h hn2), q_ck h hn2, nI_1, nI_clamp (by omega)]
        refine ih (i + 1) _ (by omega) (by omega) (fun k hk => ?_)
        by_cases e : k = i
        · rw [e]; exact updL_s _ _ _
        · exact (updL_o e).trans (h3 k (by omega))
      · have e : i = n := by omega
        subst e
        rw [if_pos (show nI i ≤ nI i from nI_le (Nat.le_refl _) hn2)]
        exact wp_some h3
  exact key N 0 g (Nat.zero_le _) (by omega) (fun k hk => by omega)
abbrev W0 (b : bk) (w : Nat) : Nat → Nat → Nat := Wf b w none
def W1 (b : bk) (w : Nat) : Nat → Nat → Nat := fun i L => if 0 < W0 b w i L then 1 else 0
def AO (b : bk) (w : Nat) (ac : AV) : Prop := (∀ k, k ≤ wL b w → ac.1 k = lN (aS (W0 b w) (wL b w) (wL b w) k)) ∧ ∀ i, i ≤ wL b w → ac.2.1 i = lN (bh (W0 b w) (wL b w) i) ∧ ac.2.2 i = nI (bh (W1 b w) (wL b w) i)
theorem weight0_ok {N : Nat} {b : bk} (hb : OKb b) {w : Nat} {lt : LV} (h : LO b w lt) (h12 : wL b w ≤ 12) {i L : Nat} (hi : i < wL b w) (hL : L < ml (wL b w) i) : f_X4_weightAt N lt (nI i) (nI (L + 1)) (-1) = some (nI (W0 b w i (L + 1))) := weightAt_ok hb h h12 (q := none) (fun _ h => by cases h) hi hL
theorem all_L34 {N : Nat} {b : bk} (hb : OKb b) {w : Nat} (hw : w < b 1) {lt : LV} (h : LO b w lt) {i : Nat} (hi : i < wL b w) {K : AV → Option AV} {P : AV → Prop} (hK : ∀ ac, (∀ k, k ≤ wL b w → ac.1 k = lN (aS (W0 b w) (wL b w) (i + 1) k)) → wp (K ac) P) :
    ∀ (f L : Nat) (ac : AV), L ≤ ml (wL b w) i → ml (wL b w) i - L < f → (∀ k, k ≤ wL b w → ac.1 k = lN (aL (W0 b w) i (aS (W0 b w) (wL b w) i) L k)) → wp (f_X0_find_L34 N lt (nI i) (nI (ml (wL b w) i)) K f (nI (L + 1)) ac) P
  | 0, _, _, h1, h2, _ => by omega
  | f + 1, L, ac, h1, h2, h3 => by
    have hv := hb.2.2.2.1 w hw
    have hm := ml_le (n := wL b w) (i := i)
    have hW := (Wf_ok hb w none).2 i (L + 1)
    rw [f_X0_find_L34]
    by_cases hL : L < ml (wL b w) i
    · rw [if_neg (show ¬ nI (ml (wL b w) i) < nI (L + 1) from nI_nlt (by omega) (by omega)), nI_add, q_ck (show i + (L + 1) < 13 by omega) (by decide), q_ck (show i < 13 by omega) (by decide), weight0_ok hb h hv.2.1 hi hL, Option.bind_some, q_ck (show i + (L + 1) < 13 by omega) (by decide), nI_clamp (show i + (L + 1) < 2 ^ 31 by omega), nI_clamp (show i < 2 ^ 31 by omega), q_toL (show W0 b w i (L + 1) < 2 ^ 31 by have : W0 b w i (L + 1) ≤ 9 := hW; omega), h3 (i + (L + 1)) (by omega), h3 i (by omega), lN_mul, lN_add, nI_1]
      refine all_L34 hb hw h hi hK f (L + 1) _ (by omega) (by omega) (fun k hk => ?_)
      by_cases e : k = i + (L + 1)
      · subst e
        refine (updL_s _ _ _).trans ?_
        show _ = lN (if i + (L + 1) = i + (L + 1) then aL (W0 b w) i (aS (W0 b w) (wL b w) i) L (i + (L + 1)) + aL (W0 b w) i (aS (W0 b w) (wL b w) i) L i * W0 b w i (L + 1) else aL (W0 b w) i (aS (W0 b w) (wL b w) i) L (i + (L + 1)))
        rw [if_pos rfl]
      · refine (updL_o e).trans ((h3 k hk).trans ?_)
        show _ = lN (if k = i + (L + 1) then aL (W0 b w) i (aS (W0 b w) (wL b w) i) L k + aL (W0 b w) i (aS (W0 b w) (wL b w) i) L i * W0 b w i (L + 1) else aL (W0 b w) i (aS (W0 b w) (wL b w) i) L k)
        rw [if_neg e]
    · have e : L = ml (wL b w) i := by omega
      rw [if_pos (show nI (ml (wL b w) i) < nI (L + 1) from nI_lt (by omega) (by omega))]
      exact hK ac (fun k hk => by rw [h3 k hk, e]; rfl)
theorem all_L17 {N : Nat} (hN : 16 < N) {b : bk} (hb : OKb b) {w : Nat} (hw : w < b 1) {lt : LV} (h : LO b w lt) {K : AV → Option AV} {P : AV → Prop} (hK : ∀ ac, (∀ k, k ≤ wL b w → ac.1 k = lN (aS (W0 b w) (wL b w) (wL b w) k)) → wp (K ac) P) :
    ∀ (f i : Nat) (ac : AV), i ≤ wL b w → wL b w - i < f → (∀ k, k ≤ wL b w → ac.1 k = lN (aS (W0 b w) (wL b w) i k)) → wp (f_X0_find_L17 N lt K f (nI i) ac) P
  | 0, _, _, h1, h2, _ => by omega
  | f + 1, i, ac, h1, h2, h3 => by
    have hv := hb.2.2.2.1 w hw
    have hm := ml_le (n := wL b w) (i := i)
    rw [f_X0_find_L17, h.1]
    by_cases hi : i < wL b w
    · rw [if_neg (show ¬ nI (wL b w) ≤ nI i from nI_ge hi (by omega)), most_ok h.1 hv.2.1 (by omega), Option.bind_some]
      refine all_L34 hb hw h hi (fun ac h4 => ?_) N 0 ac (Nat.zero_le _) (by omega) h3
      rw [nI_1]
      exact all_L17 hN hb hw h hK f (i + 1) ac (by omega) (by omega) h4
    · have e : i = wL b w := by omega
      subst e
      rw [if_pos (show nI (wL b w) ≤ nI (wL b w) from nI_le (Nat.le_refl _) (by omega))]
      exact hK ac h3
def AI (b : bk) (w : Nat) (a0 : Nat → Int64) (ac : AV) (i L : Nat) : Prop := ac.1 = a0 ∧ (∀ j, i < j → j ≤ wL b w → ac.2.1 j = lN (bh (W0 b w) (wL b w) j) ∧ ac.2.2 j = nI (bh (W1 b w) (wL b w) j)) ∧ ac.2.1 i = lN (bhL (W0 b w) (wL b w) i L) ∧ ac.2.2 i = nI (bhL (W1 b w) (wL b w) i L)
theorem addBehind_L {N : Nat} {b : bk} (hb : OKb b) {w : Nat} (hw : w < b 1) {lt : LV} (h : LO b w lt) {a0 : Nat → Int64} {i : Nat} (hi : i < wL b w) {K : AV → Option AV} {P : AV → Prop} (hK : ∀ ac, AI b w a0 ac i (ml (wL b w) i) → wp (K ac) P) :
    ∀ (f L : Nat) (ac : AV), L ≤ ml (wL b w) i → ml (wL b w) i - L < f → AI b w a0 ac i L → wp (f_X0_addBehind_L23 N lt (nI i) (nI (ml (wL b w) i)) K f (nI (L + 1)) ac) P
  | 0, _, _, h1, h2, _ => by omega
  | f + 1, L, ac, h1, h2, h3 => by
    have hv := hb.2.2.2.1 w hw
    have hm := ml_le (n := wL b w) (i := i)
    have hW : W0 b w i (L + 1) ≤ 9 := (Wf_ok hb w none).2 i (L + 1)
    rw [f_X0_addBehind_L23]
    by_cases hL : L < ml (wL b w) i
    · obtain ⟨g0, g1, g2, g3⟩ := h3
      obtain ⟨e1, e2⟩ := g1 (i + (L + 1)) (by omega) (by omega)
      rw [if_neg (show ¬ nI (ml (wL b w) i) < nI (L + 1) from nI_nlt (by omega) (by omega)), weight0_ok hb h hv.2.1 hi hL, Option.bind_some, nI_add, q_ck (show i < 13 by omega) (by decide), q_ck (show i + (L + 1) < 13 by omega) (by decide), q_ck (show i < 13 by omega) (by decide), nI_clamp (show i + (L + 1) < 2 ^ 31 by omega), nI_clamp (show i < 2 ^ 31 by omega), q_toL (show W0 b w i (L + 1) < 2 ^ 31 by omega), e1, e2, g2, g3, lN_mul, lN_add, nI_add, nI_1]
      have b0 := bhL_s (W0 b w) (wL b w) i L
      have b1 := bhL_s (W1 b w) (wL b w) i L
      by_cases c0 : W0 b w i (L + 1) ≤ 0
      · rw [if_pos ((q_le0 (by omega)).mpr c0)]
        have z1 : W1 b w i (L + 1) = 0 := if_neg (by omega)
        rw [z1, Nat.zero_mul, Nat.add_zero] at b1
        refine addBehind_L hb hw h hi hK f (L + 1) _ (by omega) (by omega) ⟨g0, fun j hj hjn => ?_, ?_, ?_⟩
        · exact ⟨(updL_o (by omega)).trans (g1 j hj hjn).1, (g1 j hj hjn).2⟩
        · rw [b0]; exact updL_s _ _ _
        · rw [b1]; exact g3
      · rw [if_neg (fun e => c0 ((q_le0 (by omega)).mp e)), q_ck (show i < 13 by omega) (by decide), q_ck (show i + (L + 1) < 13 by omega) (by decide), q_ck (show i < 13 by omega) (by decide)]
        have z1 : W1 b w i (L + 1) = 1 := if_pos (by omega)
        rw [z1, Nat.one_mul] at b1
        refine addBehind_L hb hw h hi hK f (L + 1) _ (by omega) (by omega) ⟨g0, fun j hj hjn => ?_, ?_, ?_⟩
        · exact ⟨(updL_o (by omega)).trans (g1 j hj hjn).1, (upd_o (by omega)).trans (g1 j hj hjn).2⟩
        · rw [b0]; exact updL_s _ _ _
        · rw [b1]; exact upd_s _ _ _
    · have e : L = ml (wL b w) i := by omega
      rw [if_pos (show nI (ml (wL b w) i) < nI (L + 1) from nI_lt (by omega) (by omega))]
      exact hK ac (by rw [← e]; exact h3)
def AA (b : bk) (w : Nat) (a0 : Nat → Int64) (ac : AV) (i : Nat) : Prop := ac.1 = a0 ∧ ∀ j, i ≤ j → j ≤ wL b w → ac.2.1 j = lN (bh (W0 b w) (wL b w) j) ∧ ac.2.2 j = nI (bh (W1 b w) (wL b w) j)
theorem addBehind_ok {N : Nat} (hN : 16 < N) {b : bk} (hb : OKb b) {w : Nat} (hw : w < b 1) {lt : LV} (h : LO b w lt) {a0 : Nat → Int64} {i : Nat} (hi : i < wL b w) {ac : AV} (hA : AA b w a0 ac (i + 1)) : wp (f_X0_addBehind N lt ac (nI i)) (fun r => AA b w a0 r i) := by
  have hv := hb.2.2.2.1 w hw
  have hm := ml_le (n := wL b w) (i := i)
  unfold f_X0_addBehind
  rw [q_ck (show i < 13 by omega) (by decide), q_ck (show i < 13 by omega) (by decide), most_ok h.1 hv.2.1 (by omega), Option.bind_some, nI_clamp (show i < 2 ^ 31 by omega)]
  have hK : ∀ ac2, AI b w a0 ac2 i (ml (wL b w) i) → wp (some ac2) (fun r => AA b w a0 r i) := fun ac2 h2 => wp_some ⟨h2.1, fun j hj hjn => by
    by_cases e : j = i
    · subst e
      rw [bh_i hi, bh_i hi]
      exact ⟨h2.2.2.1, h2.2.2.2⟩
    · exact h2.2.1 j (by omega) hjn⟩
  have hS : AI b w a0 (ac.1, vp_updL ac.2.1 i 0, upd ac.2.2 i 0) i 0 := by
    refine ⟨hA.1, fun j hj hjn => ?_, ?_, ?_⟩
    · obtain ⟨e1, e2⟩ := hA.2 j (by omega) hjn
      exact ⟨(updL_o (by omega)).trans e1, (upd_o (by omega)).trans e2⟩
    · rw [bhL_0]; exact updL_s _ _ _
    · rw [bhL_0]; exact upd_s _ _ _
  exact addBehind_L hb hw h hi hK N 0 _ (Nat.zero_le _) (by omega) hS
theorem all_L107 {N : Nat} (hN : 16 < N) {b : bk} (hb : OKb b) {w : Nat} (hw : w < b 1) {lt : LV} (h : LO b w lt) {a0 : Nat → Int64} {K : AV → Option AV} {P : AV → Prop} (hK : ∀ ac, AA b w a0 ac 0 → wp (K ac) P) :
    ∀ (f i : Nat) (ac : AV), i ≤ wL b w → i < f → AA b w a0 ac i → wp (f_X0_find_L107 N lt K f (nI i - 1) ac) P
  | 0, _, _, _, h2, _ => by omega
  | f + 1, 0, ac, h1, h2, h3 => by
    rw [f_X0_find_L107, if_pos (show nI 0 - 1 < (0 : Int32) by decide)]
    exact hK ac h3
  | f + 1, i + 1, ac, h1, h2, h3 => by
    have hv := hb.2.2.2.1 w hw
    rw [f_X0_find_L107, nI_pred, if_neg (show ¬ nI i < (0 : Int32) from nI_pos (by omega))]
    refine wp_bind (wp_mono (addBehind_ok hN hb hw h (by omega) h3) (fun r hr => ?_))
    rw [dn_m1]
    exact all_L107 hN hb hw h hK f i r (by omega) (by omega) hr
theorem all_ok {N : Nat} (hN : 16 < N) {b : bk} (hb : OKb b) {w : Nat} (hw : w < b 1) {lt : LV} (h : LO b w lt) (ac : AV) : wp (f_X0_find N lt ac) (AO b w) := by
  have hv := hb.2.2.2.1 w hw
  unfold f_X0_find
  refine wp_bind (wp_mono (fillJ_ok (by omega) (by decide) ac.1 0) (fun r hr => ?_))
  rw [q_ck0 (by decide) (by decide), show ((0 : Int32).toNatClampNeg) = 0 from rfl]
  refine all_L17 hN hb hw h (fun ac h2 => ?_) N 0 _ (Nat.zero_le _) (by omega) (fun k hk => ?_)
  · rw [h.1, q_ck (show wL b w < 13 by omega) (by decide), q_ck (show wL b w < 13 by omega) (by decide), nI_clamp (show wL b w < 2 ^ 31 by omega)]
    refine all_L107 hN hb hw h (a0 := ac.1) (fun ac2 h3 => wp_some ⟨fun k hk => by rw [h3.1]; exact h2 k hk, fun i hi => h3.2 i (Nat.zero_le _) hi⟩) N (wL b w) _ (Nat.le_refl _) (by omega) ⟨rfl, fun j h1 h2 => ?_⟩
    have e : j = wL b w := by omega
    subst e
    rw [bh_n, bh_n]
    exact ⟨updL_s _ _ _, upd_s _ _ _⟩
  · show vp_updL r 0 1 k = lN (if k = 0 then 1 else 0)
    by_cases e : k = 0
    · subst e
      rw [if_pos rfl]
      exact updL_s _ _ _
    · rw [if_neg e, updL_o e]
      exact hr k (by omega)
