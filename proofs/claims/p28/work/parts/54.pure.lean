/-! sums over the words: the class -/
def sm (g : Nat → Nat) : Nat → Nat
  | 0 => 0
  | k + 1 => sm g k + g k
def cost1 (b : bk) (q : Option Nat) (w : Nat) : Nat := (nP b w q + nU b w q) * wC b w
theorem cost_ok {N : Nat} {b : bk} {w : Nat} {q : Option Nat} {bc : BV} (h : BO b w q bc) : f_X1_cost N bc = some (nI (nP b w q + nU b w q)) := by
  unfold f_X1_cost
  rw [h.2.1, h.2.2.1, nI_add]
  rfl
theorem cutBest_ok {N : Nat} (hN : 16 < N) {c : CV} {b : bk} (hb : OKb b) (hc : CR c b) {w : Nat} (hw : w < b 1) (lt : LV) (bc : BV) : wp (f_X7_cutBest N c lt bc (nI w)) (fun r => LO b w r.1 ∧ BO b w none r.2) := by
  unfold f_X7_cutBest
  refine wp_bind (wp_mono (read_ok hN hb hc hw lt) (fun l hl => wp_bind (wp_mono (find_ok hN hb hw hl (q := none) (fun _ h => by cases h) bc) (fun r hr => wp_some ⟨hl, hr⟩))))
theorem costOfAll_L {N : Nat} (hN : 16 < N) {c : CV} {b : bk} (hb : OKb b) (hc : CR c b) {K : Int32 → LV → BV → Option (Int32 × LV × BV)} {P : Int32 × LV × BV → Prop} (hK : ∀ lt bc, wp (K (nI (sm (cost1 b none) (b 1))) lt bc) P) :
    ∀ (f w : Nat) (lt : LV) (bc : BV), w ≤ b 1 → b 1 - w < f → wp (f_X7_costOfAll_L4 N c K f (nI (sm (cost1 b none) w)) (nI w) lt bc) P
  | 0, _, _, _, h1, h2 => by omega
  | f + 1, w, lt, bc, h1, h2 => by
    have h8 := hb.2.1
    rw [f_X7_costOfAll_L4, hc.2.1]
    by_cases hw : w < b 1
    · rw [if_neg (show ¬ nI (b 1) ≤ nI w from nI_ge hw (by omega))]
      refine wp_bind (wp_mono (cutBest_ok hN hb hc hw lt bc) (fun r hr => ?_))
      rw [cost_ok hr.2, Option.bind_some, q_ck (show w < 8 by omega) (by decide), nI_clamp (show w < 2 ^ 31 by omega), (hc.2.2.2 w hw).2.1, pk_mul, nI_add, q_bd, nI_1]
      exact costOfAll_L hN hb hc hK f (w + 1) _ _ (by omega) (by omega)
    · have e : w = b 1 := by omega
      subst e
      rw [if_pos (show nI (b 1) ≤ nI (b 1) from nI_le (Nat.le_refl _) (by omega))]
      exact hK lt bc
theorem costOfAll_ok {N : Nat} (hN : 16 < N) {c : CV} {b : bk} (hb : OKb b) (hc : CR c b) (lt : LV) (bc : BV) : wp (f_X7_costOfAll N c lt bc) (fun r => r.1 = nI (sm (cost1 b none) (b 1))) := by
  have h8 := hb.2.1
  unfold f_X7_costOfAll
  refine costOfAll_L hN hb hc (fun lt bc => ?_) N 0 lt bc (Nat.zero_le _) (by omega)
  exact wp_some rfl
theorem partsOfAll_L {N : Nat} (hN : 16 < N) {c : CV} {b : bk} (hb : OKb b) (hc : CR c b) {K : Int32 → LV → BV → Option (Int32 × LV × BV)} {P : Int32 × LV × BV → Prop} (hK : ∀ lt bc, wp (K (nI (sm (fun w => nP b w none * wC b w) (b 1))) lt bc) P) :
    ∀ (f w : Nat) (lt : LV) (bc : BV), w ≤ b 1 → b 1 - w < f → wp (f_X7_partsOfAll_L4 N c K f (nI (sm (fun w => nP b w none * wC b w) w)) (nI w) lt bc) P
  | 0, _, _, _, h1, h2 => by omega
  | f + 1, w, lt, bc, h1, h2 => by
    have h8 := hb.2.1
    rw [f_X7_partsOfAll_L4, hc.2.1]
    by_cases hw : w < b 1
    · rw [if_neg (show ¬ nI (b 1) ≤ nI w from nI_ge hw (by omega))]
      refine wp_bind (wp_mono (cutBest_ok hN hb hc hw lt bc) (fun r hr => ?_))
      rw [hr.2.2.1, q_ck (show w < 8 by omega) (by decide), nI_clamp (show w < 2 ^ 31 by omega), (hc.2.2.2 w hw).2.1, pk_mul, nI_add, q_bd, nI_1]
      exact partsOfAll_L hN hb hc hK f (w + 1) _ _ (by omega) (by omega)
    · have e : w = b 1 := by omega
      subst e
      rw [if_pos (show nI (b 1) ≤ nI (b 1) from nI_le (Nat.le_refl _) (by omega))]
      exact hK lt bc
theorem partsOfAll_ok {N : Nat} (hN : 16 < N) {c : CV} {b : bk} (hb : OKb b) (hc : CR c b) (lt : LV) (bc : BV) : wp (f_X7_partsOfAll N c lt bc) (fun r => r.1 = nI (sm (fun w => nP b w none * wC b w) (b 1))) := by
  have h8 := hb.2.1
  unfold f_X7_partsOfAll
  refine partsOfAll_L hN hb hc (fun lt bc => ?_) N 0 lt bc (Nat.zero_le _) (by omega)
  exact wp_some rfl
theorem lettersOfAll_L {N : Nat} {c : CV} {b : bk} (hb : OKb b) (hc : CR c b) {K : Int32 → Option Int32} {P : Int32 → Prop} (hK : wp (K (nI (sm (fun w => wL b w * wC b w) (b 1)))) P) :
    ∀ (f w : Nat), w ≤ b 1 → b 1 - w < f → wp (f_X7_lettersOfAll_L4 N c K f (nI (sm (fun w => wL b w * wC b w) w)) (nI w)) P
  | 0, _, h1, h2 => by omega
  | f + 1, w, h1, h2 => by
    have h8 := hb.2.1
    rw [f_X7_lettersOfAll_L4, hc.2.1]
    by_cases hw : w < b 1
    · rw [if_neg (show ¬ nI (b 1) ≤ nI w from nI_ge hw (by omega)), q_ck (show w < 8 by omega) (by decide), q_ck (show w < 8 by omega) (by decide), nI_clamp (show w < 2 ^ 31 by omega), (hc.2.2.2 w hw).1, (hc.2.2.2 w hw).2.1, pk_mul, nI_add, q_bd, nI_1]
      exact lettersOfAll_L hb hc hK f (w + 1) (by omega) (by omega)
    · have e : w = b 1 := by omega
      subst e
      rw [if_pos (show nI (b 1) ≤ nI (b 1) from nI_le (Nat.le_refl _) (by omega))]
      exact hK
theorem lettersOfAll_ok {N : Nat} (hN : 16 < N) {c : CV} {b : bk} (hb : OKb b) (hc : CR c b) : wp (f_X7_lettersOfAll N c) (fun r => r = nI (sm (fun w => wL b w * wC b w) (b 1))) := by
  have h8 := hb.2.1
  unfold f_X7_lettersOfAll
  refine lettersOfAll_L hb hc ?_ N 0 (Nat.zero_le _) (by omega)
  exact wp_some rfl
/-- how often a piece stands in the best cut, times the count -/
def tw (b : bk) (p w : Nat) : Nat → Nat
  | 0 => 0
  | k + 1 => tw b p w k + (if pp b w none k = some p then wC b w else 0)
def tws (b : bk) (p : Nat) : Nat → Nat := sm (fun w => tw b p w (nP b w none))
theorem pp_lt {b : bk} {w k p : Nat} {q : Option Nat} (h : pp b w q k = some p) : p < b 0 := drp_lt h
theorem times_L27 {N : Nat} {c : CV} {b : bk} (hb : OKb b) (hc : CR c b) {w : Nat} (hw : w < b 1) {p : Nat} (hp : p < b 0) {lt : LV} {bc : BV} (hB : BO b w none bc) {s0 : Nat} {K : Int32 → Option (Int32 × LV × BV)} {P : Int32 × LV × BV → Prop} (hK : wp (K (nI (s0 + tw b p w (nP b w none)))) P) :
    ∀ (f k : Nat), k ≤ nP b w none → nP b w none - k < f → wp (f_X7_timesInBestCuts_L27 N c (nI p) (nI w) lt bc K f (nI (s0 + tw b p w k)) (nI k)) P
  | 0, _, h1, h2 => by omega
  | f + 1, k, h1, h2 => by
    have h8 := hb.2.1
    have h16 := hb.1
    have hv := hb.2.2.2.1 w hw
    have hn := nP_le hb (w := w) none
    rw [f_X7_timesInBestCuts_L27, hB.2.1]
    by_cases hk : k < nP b w none
    · rw [if_neg (show ¬ nI (nP b w none) ≤ nI k from nI_ge hk (by omega)), q_ck (show k < 12 by omega) (by decide), nI_clamp (show k < 2 ^ 31 by omega), (hB.2.2.2 k hk).1]
      have e0 := oI_eq (o := pp b w none k) (q := some p) (fun q hq => by have := pp_lt hq; omega) (fun q hq => by cases hq; omega)
      by_cases g : pp b w none k = some p
      · rw [if_pos (show oI (-1) (pp b w none k) = nI p from e0.mpr g), q_ck (show w < 8 by omega) (by decide), nI_clamp (show w < 2 ^ 31 by omega), (hc.2.2.2 w hw).2.1, nI_add, q_bd, nI_1]
        have := times_L27 (N := N) hb hc hw hp (lt := lt) hB hK f (k + 1) (by omega) (by omega)
        rw [tw, if_pos g, ← Nat.add_assoc] at this
        exact this
      · rw [if_neg (show ¬ oI (-1) (pp b w none k) = nI p from fun e => g (e0.mp e)), nI_1]
        have := times_L27 (N := N) hb hc hw hp (lt := lt) hB hK f (k + 1) (by omega) (by omega)
        rw [tw, if_neg g, Nat.add_zero] at this
        exact this
    · have e : k = nP b w none := by omega
      subst e
      rw [if_pos (show nI (nP b w none) ≤ nI (nP b w none) from nI_le (Nat.le_refl _) (by omega))]
      exact hK
theorem times_L4 {N : Nat} (hN : 16 < N) {c : CV} {b : bk} (hb : OKb b) (hc : CR c b) {p : Nat} (hp : p < b 0) {K : Int32 → LV → BV → Option (Int32 × LV × BV)} {P : Int32 × LV × BV → Prop} (hK : ∀ lt bc, wp (K (nI (tws b p (b 1))) lt bc) P) :
    ∀ (f w : Nat) (lt : LV) (bc : BV), w ≤ b 1 → b 1 - w < f → wp (f_X7_timesInBestCuts_L4 N c (nI p) K f (nI (tws b p w)) (nI w) lt bc) P
  | 0, _, _, _, h1, h2 => by omega
  | f + 1, w, lt, bc, h1, h2 => by
    have h8 := hb.2.1
    rw [f_X7_timesInBestCuts_L4, hc.2.1]
    by_cases hw : w < b 1
    · have hv := hb.2.2.2.1 w hw
      have hn := nP_le hb (w := w) none
      rw [if_neg (show ¬ nI (b 1) ≤ nI w from nI_ge hw (by omega))]
      refine wp_bind (wp_mono (cutBest_ok hN hb hc hw lt bc) (fun r hr => ?_))
      refine times_L27 (s0 := tws b p w) hb hc hw hp hr.2 ?_ N 0 (Nat.zero_le _) (by omega)
      rw [nI_1]
      exact times_L4 hN hb hc hp hK f (w + 1) _ _ (by omega) (by omega)
    · have e : w = b 1 := by omega
      subst e
      rw [if_pos (show nI (b 1) ≤ nI (b 1) from nI_le (Nat.le_refl _) (by omega))]
      exact hK lt bc
theorem times_ok {N : Nat} (hN : 16 < N) {c : CV} {b : bk} (hb : OKb b) (hc : CR c b) {p : Nat} (hp : p < b 0) (lt : LV) (bc : BV) : wp (f_X7_timesInBestCuts N c lt bc (nI p)) (fun r => r.1 = nI (tws b p (b 1))) := by
  have h8 := hb.2.1
  unfold f_X7_timesInBestCuts
  refine times_L4 hN hb hc hp (fun lt bc => ?_) N 0 lt bc (Nat.zero_le _) (by omega)
  exact wp_some rfl
theorem fillI_ok {N : Nat} {n : Nat} (hn : n < N) (hn2 : n < 2 ^ 31) (g : Nat → Int32) (v : Int32) : wp (f_J7_fill_53178 N n g v) (fun r => ∀ k, k < n → r k = v) := by
  unfold f_J7_fill_53178
  rw [q_bd, q_ofN]
  have key : ∀ (f i : Nat) (r : Nat → Int32), i ≤ n → n - i < f → (∀ k, k < i → r k = v) → wp (f_J7_fill_53178_L5 N n v (nI n) (fun (r : Nat → Int32) => some r) f (nI i) r) (fun r => ∀ k, k < n → r k = v) := by
    intro f
    induction f with
    | zero => intro i r h1 h2; omega
    | succ f ih =>
      intro i r h1 h2 h3
      rw [f_J7_fill_53178_L5]
      by_cases h : i < n
      · rw [if_neg (show ¬ nI n ≤ nI i from nI_ge h hn2), q_ck h hn2, nI_1, nI_clamp (by omega)]
        refine ih (i + 1) _ (by omega) (by omega) (fun k hk => ?_)
        by_cases e : k = i
        · rw [e]; exact upd_s _ _ _
        · exact (upd_o e).trans (h3 k (by omega))
      · have e : i = n := by omega
        subst e
        rw [if_pos (show nI i ≤ nI i from nI_le (Nat.le_refl _) hn2)]
        exact wp_some h3
  exact key N 0 g (Nat.zero_le _) (by omega) (fun k hk => by omega)
/-- what the book would cost without each piece -/
theorem lose_L35 {N : Nat} (hN : 16 < N) {c : CV} {b : bk} (hb : OKb b) (hc : CR c b) {w : Nat} (hw : w < b 1) {lt : LV} (hl : LO b w lt) {K : BV → (Nat → Int32) → Option (LV × BV × (Nat → Int32))} {P : LV × BV × (Nat → Int32) → Prop} (hK : ∀ bc cw, (∀ p, p < b 0 → cw p = nI (sm (cost1 b (some p)) (w + 1))) → wp (K bc cw) P) :
    ∀ (f p : Nat) (bc : BV) (cw : Nat → Int32), p ≤ b 0 → b 0 - p < f → (∀ q, q < p → cw q = nI (sm (cost1 b (some q)) (w + 1))) → (∀ q, p ≤ q → q < b 0 → cw q = nI (sm (cost1 b (some q)) w)) → wp (f_X7_loseEach_L35 N c (nI w) lt K f (nI p) bc cw) P
  | 0, _, _, _, h1, h2, _, _ => by omega
  | f + 1, p, bc, cw, h1, h2, h3, h4 => by
    have h8 := hb.2.1
    have h16 := hb.1
    rw [f_X7_loseEach_L35, hc.1]
    by_cases hp : p < b 0
    · rw [if_neg (show ¬ nI (b 0) ≤ nI p from nI_ge hp (by omega))]
      refine wp_bind (wp_mono (find_ok hN hb hw hl (q := some p) (fun q hq => by cases hq; exact hp) bc) (fun r hr => ?_))
      rw [q_ck (show p < 16 by omega) (by decide), cost_ok hr, Option.bind_some, q_ck (show w < 8 by omega) (by decide), q_ck (show p < 16 by omega) (by decide), nI_clamp (show w < 2 ^ 31 by omega), nI_clamp (show p < 2 ^ 31 by omega), (hc.2.2.2 w hw).2.1, h4 p (Nat.le_refl _) hp, pk_mul, nI_add, nI_1]
      refine lose_L35 hN hb hc hw hl hK f (p + 1) _ _ (by omega) (by omega) (fun q hq => ?_) (fun q hq1 hq2 => (upd_o (by omega)).trans (h4 q (by omega) hq2))
      by_cases e : q = p
      · rw [e]; exact upd_s _ _ _
      · exact (upd_o e).trans (h3 q (by omega))
    · have e : p = b 0 := by omega
      subst e
      rw [if_pos (show nI (b 0) ≤ nI (b 0) from nI_le (Nat.le_refl _) (by omega))]
      exact hK bc cw h3
theorem lose_L10 {N : Nat} (hN : 16 < N) {c : CV} {b : bk} (hb : OKb b) (hc : CR c b) {K : LV → BV → (Nat → Int32) → Option (LV × BV × (Nat → Int32))} {P : LV × BV × (Nat → Int32) → Prop} (hK : ∀ lt bc cw, (∀ p, p < b 0 → cw p = nI (sm (cost1 b (some p)) (b 1))) → wp (K lt bc cw) P) :
    ∀ (f w : Nat) (lt : LV) (bc : BV) (cw : Nat → Int32), w ≤ b 1 → b 1 - w < f → (∀ p, p < b 0 → cw p = nI (sm (cost1 b (some p)) w)) → wp (f_X7_loseEach_L10 N c K f (nI w) lt bc cw) P
  | 0, _, _, _, _, h1, h2, _ => by omega
  | f + 1, w, lt, bc, cw, h1, h2, h3 => by
    have h8 := hb.2.1
    have h16 := hb.1
    rw [f_X7_loseEach_L10, hc.2.1]
    by_cases hw : w < b 1
    · rw [if_neg (show ¬ nI (b 1) ≤ nI w from nI_ge hw (by omega))]
      refine wp_bind (wp_mono (read_ok hN hb hc hw lt) (fun l hl => ?_))
      refine lose_L35 hN hb hc hw hl (fun bc cw h => ?_) N 0 bc cw (Nat.zero_le _) (by omega) (fun q hq => by omega) (fun q _ hq => h3 q hq)
      rw [nI_1]
      exact lose_L10 hN hb hc hK f (w + 1) _ _ _ (by omega) (by omega) h
    · have e : w = b 1 := by omega
      subst e
      rw [if_pos (show nI (b 1) ≤ nI (b 1) from nI_le (Nat.le_refl _) (by omega))]
      exact hK lt bc cw h3
theorem lose_ok {N : Nat} (hN : 16 < N) {c : CV} {b : bk} (hb : OKb b) (hc : CR c b) (lt : LV) (bc : BV) (cw : Nat → Int32) : wp (f_X7_loseEach N c lt bc cw) (fun r => ∀ p, p < b 0 → r.2.2 p = nI (sm (cost1 b (some p)) (b 1))) := by
  have h8 := hb.2.1
  have h16 := hb.1
  unfold f_X7_loseEach
  refine wp_bind (wp_mono (fillI_ok (by omega) (by decide) cw 0) (fun r hr => ?_))
  exact lose_L10 hN hb hc (fun lt bc cw h => wp_some h) N 0 lt bc r (Nat.zero_le _) (by omega) (fun p hp => hr p (by omega))
/-- what the pieces bear -/
def be (b : bk) (p : Nat) : Nat → Int32
  | 0 => 0
  | w + 1 => be b p w + nI (wC b w) * shr b w p
theorem bear_L46 {N : Nat} (hN : 16 < N) {c : CV} {b : bk} (hb : OKb b) (hc : CR c b) {w : Nat} (hw : w < b 1) {lt : LV} (hl : LO b w lt) {ac : AV} (hA : AO b w ac) {K : (Nat → Int32) → Option (LV × AV × (Nat → Int32))} {P : LV × AV × (Nat → Int32) → Prop} (hK : ∀ bn, (∀ p, p < b 0 → bn p = be b p (w + 1)) → wp (K bn) P) :
    ∀ (f p : Nat) (bn : Nat → Int32), p ≤ b 0 → b 0 - p < f → (∀ q, q < p → bn q = be b q (w + 1)) → (∀ q, p ≤ q → q < b 0 → bn q = be b q w) → wp (f_X7_bearAll_L46 N c (nI w) lt ac K f (nI p) bn) P
  | 0, _, _, h1, h2, _, _ => by omega
  | f + 1, p, bn, h1, h2, h3, h4 => by
    have h8 := hb.2.1
    have h16 := hb.1
    rw [f_X7_bearAll_L46, hc.1]
    by_cases hp : p < b 0
    · rw [if_neg (show ¬ nI (b 0) ≤ nI p from nI_ge hp (by omega)), q_ck (show p < 16 by omega) (by decide), q_ck (show w < 8 by omega) (by decide), shareOf_ok hN hb hw hl hA hp, Option.bind_some, q_ck (show p < 16 by omega) (by decide), nI_clamp (show w < 2 ^ 31 by omega), nI_clamp (show p < 2 ^ 31 by omega), (hc.2.2.2 w hw).2.1, h4 p (Nat.le_refl _) hp, nI_1]
      refine bear_L46 hN hb hc hw hl hA hK f (p + 1) _ (by omega) (by omega) (fun q hq => ?_) (fun q hq1 hq2 => (upd_o (by omega)).trans (h4 q (by omega) hq2))
      by_cases e : q = p
      · rw [e]; exact upd_s _ _ _
      · exact (upd_o e).trans (h3 q (by omega))
    · have e : p = b 0 := by omega
      subst e
      rw [if_pos (show nI (b 0) ≤ nI (b 0) from nI_le (Nat.le_refl _) (by omega))]
      exact hK bn h3
theorem bear_L10 {N : Nat} (hN : 16 < N) {c : CV} {b : bk} (hb : OKb b) (hc : CR c b) {K : LV → AV → (Nat → Int32) → Option (LV × AV × (Nat → Int32))} {P : LV × AV × (Nat → Int32) → Prop} (hK : ∀ lt ac bn, (∀ p, p < b 0 → bn p = be b p (b 1)) → wp (K lt ac bn) P) :
    ∀ (f w : Nat) (lt : LV) (ac : AV) (bn : Nat → Int32), w ≤ b 1 → b 1 - w < f → (∀ p, p < b 0 → bn p = be b p w) → wp (f_X7_bearAll_L10 N c K f (nI w) lt ac bn) P
  | 0, _, _, _, _, h1, h2, _ => by omega
  | f + 1, w, lt, ac, bn, h1, h2, h3 => by
    have h8 := hb.2.1
    have h16 := hb.1
    rw [f_X7_bearAll_L10, hc.2.1]
    by_cases hw : w < b 1
    · rw [if_neg (show ¬ nI (b 1) ≤ nI w from nI_ge hw (by omega))]
      refine wp_bind (wp_mono (read_ok hN hb hc hw lt) (fun l hl => wp_bind (wp_mono (all_ok hN hb hw hl ac) (fun a ha => ?_))))
      refine bear_L46 hN hb hc hw hl ha (fun bn h => ?_) N 0 bn (Nat.zero_le _) (by omega) (fun q hq => by omega) (fun q _ hq => h3 q hq)
      rw [nI_1]
      exact bear_L10 hN hb hc hK f (w + 1) _ _ _ (by omega) (by omega) h
    · have e : w = b 1 := by omega
      subst e
      rw [if_pos (show nI (b 1) ≤ nI (b 1) from nI_le (Nat.le_refl _) (by omega))]
      exact hK lt ac bn h3
theorem bear_ok {N : Nat} (hN : 16 < N) {c : CV} {b : bk} (hb : OKb b) (hc : CR c b) (lt : LV) (ac : AV) (bn : Nat → Int32) : wp (f_X7_bearAll N c lt ac bn) (fun r => ∀ p, p < b 0 → r.2.2 p = be b p (b 1)) := by
  have h8 := hb.2.1
  have h16 := hb.1
  unfold f_X7_bearAll
  refine wp_bind (wp_mono (fillI_ok (by omega) (by decide) bn 0) (fun r hr => ?_))
  exact bear_L10 hN hb hc (fun lt ac bn h => wp_some h) N 0 lt ac r (Nat.zero_le _) (by omega) (fun p hp => hr p (by omega))
