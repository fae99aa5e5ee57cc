/-! the least loss: the class -/
def cW (b : bk) (p : Nat) : Nat := sm (cost1 b (some p)) (b 1)
def lst (b : bk) : Nat → Option Nat
  | 0 => none
  | p + 1 => match lst b p with
    | none => some p
    | some q => if cW b p < cW b q ∨ cW b p = cW b q ∧ pW b p ≤ pW b q then some p else some q
theorem lst_lt {b : bk} : ∀ {c p : Nat}, lst b c = some p → p < c
  | 0, _, h => by cases h
  | c + 1, p, h => by
    unfold lst at h
    cases e : lst b c with
    | none => rw [e] at h; cases h; omega
    | some q =>
      have := lst_lt e
      rw [e] at h
      dsimp only at h
      split at h <;> (cases h; omega)
theorem lst_some {b : bk} (c : Nat) : ∃ p, lst b (c + 1) = some p := by
  unfold lst
  cases lst b c with
  | none => exact ⟨_, rfl⟩
  | some q => dsimp only; split <;> exact ⟨_, rfl⟩
theorem sm_le {g : Nat → Nat} {B : Nat} : ∀ n, (∀ k, k < n → g k ≤ B) → sm g n ≤ n * B
  | 0, _ => by simp [sm]
  | n + 1, h => by
    have h1 := sm_le n (fun k hk => h k (by omega))
    have h2 := h n (by omega)
    show sm g n + g n ≤ (n + 1) * B
    rw [Nat.add_mul, Nat.one_mul]
    omega
theorem cost1_le {b : bk} (hb : OKb b) (q : Option Nat) {w : Nat} (hw : w < b 1) : cost1 b q w ≤ 2376 := by
  have hv := hb.2.2.2.1 w hw
  have h1 := nP_le hb (w := w) q
  have h2 := us_le (pp b w q) (nP b w q)
  have h3 : nP b w q + nU b w q ≤ 24 := by
    have : nU b w q ≤ nP b w q := h2
    omega
  exact Nat.mul_le_mul h3 hv.2.2.2.1
theorem cost_le {b : bk} (hb : OKb b) (q : Option Nat) : sm (cost1 b q) (b 1) ≤ 19008 := by
  have h1 : sm (cost1 b q) (b 1) ≤ b 1 * 2376 := sm_le (b 1) (fun w hw => cost1_le hb q hw)
  have h2 := Nat.mul_le_mul_right 2376 hb.2.1
  omega
theorem findLeast_L {N : Nat} {c : CV} {b : bk} (hb : OKb b) (hc : CR c b) {lt : LV} {bc : BV} {cw : Nat → Int32} (hcw : ∀ p, p < b 0 → cw p = nI (cW b p)) {K : Int32 → Option (Int32 × LV × BV × (Nat → Int32))} {P : Int32 × LV × BV × (Nat → Int32) → Prop} (hK : wp (K (oI (-1) (lst b (b 0)))) P) :
    ∀ (f p : Nat), p ≤ b 0 → b 0 - p < f → wp (f_X7_findLeast_L8 N c lt bc cw K f (oI (-1) (lst b p)) (nI p)) P
  | 0, _, h1, h2 => by omega
  | f + 1, p, h1, h2 => by
    have h16 := hb.1
    rw [f_X7_findLeast_L8, hc.1]
    by_cases hp : p < b 0
    · have ih := findLeast_L (N := N) hb hc (lt := lt) (bc := bc) hcw hK f (p + 1) (by omega) (by omega)
      have hv := hb.2.2.1 p hp
      have cp := cost_le hb (some p)
      rw [if_neg (show ¬ nI (b 0) ≤ nI p from nI_ge hp (by omega)), nI_1]
      unfold lst at ih
      cases e : lst b p with
      | none =>
        rw [e] at ih
        rw [if_pos (show oI (-1) none = -1 from rfl)]
        exact ih
      | some q =>
        rw [e] at ih
        have hq := lst_lt e
        have hu := hb.2.2.1 q (by omega)
        have cq := cost_le hb (some q)
        rw [if_neg (show ¬ oI (-1) (some q) = -1 from fun e => by have := q_nem1 (n := q) (by omega); exact (this.mp e))]
        show wp (ck (nI p) 16 (ck (nI q) 16 _)) P
        rw [q_ck (show p < 16 by omega) (by decide), q_ck (show q < 16 by omega) (by decide), show oI (-1) (some q) = nI q from rfl, nI_clamp (show p < 2 ^ 31 by omega), nI_clamp (show q < 2 ^ 31 by omega), hcw p hp, hcw q (by omega), (hc.2.2.1 p hp).2.2, (hc.2.2.1 q (by omega)).2.2]
        dsimp only at ih
        by_cases c1 : cW b p < cW b q
        · rw [if_pos (show nI (cW b p) < nI (cW b q) from nI_lt c1 (show cW b q < 2 ^ 31 by unfold cW; omega))]
          rw [if_pos (Or.inl c1)] at ih
          exact ih
        · rw [if_neg (show ¬ nI (cW b p) < nI (cW b q) from nI_nlt (by omega) (show cW b p < 2 ^ 31 by unfold cW; omega)), q_ck (show p < 16 by omega) (by decide), q_ck (show q < 16 by omega) (by decide)]
          have hb1 : cW b p < 2 ^ 31 := by unfold cW; omega
          have hb2 : cW b q < 2 ^ 31 := by unfold cW; omega
          by_cases c2 : cW b p = cW b q
          · rw [if_pos (show nI (cW b p) = nI (cW b q) by rw [c2]), q_ck (show p < 16 by omega) (by decide), q_ck (show q < 16 by omega) (by decide)]
            by_cases c3 : pW b p ≤ pW b q
            · rw [if_neg (show ¬ nI (pW b q) < nI (pW b p) from nI_nlt c3 (by omega))]
              rw [if_pos (Or.inr ⟨c2, c3⟩)] at ih
              exact ih
            · rw [if_pos (show nI (pW b q) < nI (pW b p) from nI_lt (by omega) (by omega))]
              rw [if_neg (fun e => by omega)] at ih
              exact ih
          · rw [if_neg (fun e => c2 ((nI_eq hb1 hb2).mp e))]
            rw [if_neg (fun e => by omega)] at ih
            exact ih
    · have e : p = b 0 := by omega
      subst e
      rw [if_pos (show nI (b 0) ≤ nI (b 0) from nI_le (Nat.le_refl _) (by omega))]
      exact hK
theorem findLeast_ok {N : Nat} (hN : 16 < N) {c : CV} {b : bk} (hb : OKb b) (hc : CR c b) (lt : LV) (bc : BV) (cw : Nat → Int32) : wp (f_X7_findLeast N c lt bc cw) (fun r => r.1 = oI (-1) (lst b (b 0))) := by
  have h16 := hb.1
  unfold f_X7_findLeast
  refine wp_bind (wp_mono (lose_ok hN hb hc lt bc cw) (fun r hr => ?_))
  refine findLeast_L hb hc hr ?_ N 0 (Nat.zero_le _) (by omega)
  exact wp_some rfl
/-! a book without a piece -/
def drpB (b : bk) (x : Nat) : bk := fun k => if k = 0 then b 0 - 1 else if 2 + 6 * x ≤ k ∧ k < 2 + 6 * (b 0 - 1) then b (k + 6) else b k
def shf (x p : Nat) : Nat := if p < x then p else p + 1
theorem drpB_p {b : bk} {x p k : Nat} (hp : p < b 0 - 1) (hk : k < 6) : drpB b x (2 + 6 * p + k) = b (2 + 6 * shf x p + k) := by
  unfold drpB shf
  rw [if_neg (by omega)]
  by_cases h : p < x
  · rw [if_neg (by omega), if_pos h]
  · rw [if_pos ⟨by omega, by omega⟩, if_neg h]
    congr 1
    omega
theorem drpB_hi {b : bk} (hb : OKb b) {x k : Nat} (hk : 98 ≤ k) : drpB b x k = b k := by
  have := hb.1
  unfold drpB
  rw [if_neg (by omega), if_neg (by omega)]
theorem drpB_0 (b : bk) (x : Nat) : drpB b x 0 = b 0 - 1 := if_pos rfl
theorem drpB_1 (b : bk) (x : Nat) : drpB b x 1 = b 1 := by
  unfold drpB
  rw [if_neg (by omega), if_neg (by omega)]
theorem drpB_L {b : bk} {x p : Nat} (hp : p < b 0 - 1) : pL (drpB b x) p = pL b (shf x p) := drpB_p (k := 0) hp (by omega)
theorem drpB_W {b : bk} {x p : Nat} (hp : p < b 0 - 1) : pW (drpB b x) p = pW b (shf x p) := by
  have := drpB_p (b := b) (x := x) (k := 1) hp (by omega)
  rw [show 2 + 6 * p + 1 = 3 + 6 * p by omega, show 2 + 6 * shf x p + 1 = 3 + 6 * shf x p by omega] at this
  exact this
theorem drpB_T {b : bk} {x p k : Nat} (hp : p < b 0 - 1) (hk : k < 4) : pT (drpB b x) p k = pT b (shf x p) k := by
  have := drpB_p (b := b) (x := x) (k := 2 + k) hp (by omega)
  rw [show 2 + 6 * p + (2 + k) = 4 + 6 * p + k by omega, show 2 + 6 * shf x p + (2 + k) = 4 + 6 * shf x p + k by omega] at this
  exact this
theorem drpB_wL {b : bk} (hb : OKb b) (x w : Nat) : wL (drpB b x) w = wL b w := drpB_hi hb (by omega)
theorem drpB_wC {b : bk} (hb : OKb b) (x w : Nat) : wC (drpB b x) w = wC b w := drpB_hi hb (by omega)
theorem drpB_wT {b : bk} (hb : OKb b) (x w k : Nat) : wT (drpB b x) w k = wT b w k := drpB_hi hb (by omega)
theorem shf_lt {x p n : Nat} (h : p < n - 1) : shf x p < n := by unfold shf; split <;> omega
theorem shf_inj {x p q : Nat} (h : shf x p = shf x q) : p = q := by
  unfold shf at h
  split at h <;> split at h <;> omega
theorem shf_ne {x p : Nat} : shf x p ≠ x := by unfold shf; split <;> omega
theorem shf_sur {x q n : Nat} (hx : x < n) (hq : q < n) (h : q ≠ x) : ∃ p, p < n - 1 ∧ shf x p = q := by
  by_cases g : q < x
  · exact ⟨q, by omega, if_pos g⟩
  · exact ⟨q - 1, by omega, by unfold shf; rw [if_neg (by omega)]; omega⟩
theorem drpB_ok {b : bk} (hb : OKb b) {x : Nat} (hx : x < b 0) : OKb (drpB b x) := by
  refine ⟨by rw [drpB_0]; have := hb.1; omega, by rw [drpB_1]; exact hb.2.1, fun p hp => ?_, fun w hw => ?_, fun p q hp hq hl ht => ?_⟩
  · rw [drpB_0] at hp
    have hv := hb.2.2.1 (shf x p) (shf_lt hp)
    rw [drpB_L hp, drpB_W hp]
    refine ⟨hv.1, hv.2.1, hv.2.2.1, hv.2.2.2.1, fun k hk => ?_⟩
    rw [drpB_T hp (by omega)]
    exact hv.2.2.2.2 k hk
  · rw [drpB_1] at hw
    rw [drpB_wL hb, drpB_wC hb]
    have hv := hb.2.2.2.1 w hw
    refine ⟨hv.1, hv.2.1, hv.2.2.1, hv.2.2.2.1, fun k hk => ?_⟩
    rw [drpB_wT hb]
    exact hv.2.2.2.2 k hk
  · rw [drpB_0] at hp hq
    rw [drpB_L hp, drpB_L hq] at hl
    have hv := hb.2.2.1 (shf x p) (shf_lt hp)
    refine shf_inj (x := x) (hb.2.2.2.2 _ _ (shf_lt hp) (shf_lt hq) hl (fun k hk => ?_))
    have := ht k (by rw [drpB_L hp]; exact hk)
    rw [drpB_T hp (by omega), drpB_T hq (by omega)] at this
    exact this
theorem drpB_pm {b : bk} (hb : OKb b) {x w i L p : Nat} (hp : p < b 0 - 1) : pm (drpB b x) w i L p ↔ pm b w i L (shf x p) := by
  have hv := hb.2.2.1 (shf x p) (shf_lt hp)
  constructor
  · rintro ⟨h1, h2⟩
    rw [drpB_L hp] at h1
    refine ⟨h1, fun k hk => ?_⟩
    have := h2 k hk
    rw [drpB_T hp (by omega), drpB_wT hb] at this
    exact this
  · rintro ⟨h1, h2⟩
    refine ⟨by rw [drpB_L hp]; exact h1, fun k hk => ?_⟩
    rw [drpB_T hp (by omega), drpB_wT hb]
    exact h2 k hk
theorem drpB_pc {b : bk} (hb : OKb b) {x : Nat} (hx : x < b 0) (w i L : Nat) : (pc (drpB b x) w i L = none ∧ drp (some x) (pc b w i L) = none) ∨ ∃ p, p < b 0 - 1 ∧ pc (drpB b x) w i L = some p ∧ drp (some x) (pc b w i L) = some (shf x p) := by
  cases e : pc b w i L with
  | none =>
    refine Or.inl ⟨?_, by unfold drp; rw [if_neg (fun h => by cases h)]⟩
    refine ff_no (fun p _ hp hm => ?_)
    rw [drpB_0] at hp
    exact ff_none e (shf x p) (Nat.zero_le _) (by have := shf_lt (x := x) (p := p) (n := b 0) (by omega); omega) ((drpB_pm hb (by omega)).mp hm)
  | some q =>
    obtain ⟨h1, h2⟩ := pc_lt e
    by_cases g : q = x
    · refine Or.inl ⟨?_, by unfold drp; rw [if_pos (by rw [g])]⟩
      refine ff_no (fun p _ hp hm => ?_)
      rw [drpB_0] at hp
      have h3 := pc_of hb (shf_lt (x := x) (p := p) (n := b 0) (by omega)) ((drpB_pm hb (by omega)).mp hm)
      rw [e] at h3
      have h4 := Option.some.inj h3
      exact shf_ne (x := x) (p := p) (by omega)
    · obtain ⟨p, hp, hs⟩ := shf_sur hx h1 g
      refine Or.inr ⟨p, hp, ?_, by unfold drp; rw [if_neg (fun h => g (Option.some.inj h)), hs]⟩
      exact pc_of (drpB_ok hb hx) (by rw [drpB_0]; exact hp) ((drpB_pm hb hp).mpr (by rw [hs]; exact h2))
theorem drpB_Wf {b : bk} (hb : OKb b) {x : Nat} (hx : x < b 0) (w : Nat) : W0 (drpB b x) w = Wf b w (some x) := by
  funext i L
  show wgt (drpB b x) (drp none (pc (drpB b x) w i L)) L = wgt b (drp (some x) (pc b w i L)) L
  rcases drpB_pc hb hx w i L with ⟨h1, h2⟩ | ⟨p, hp, h1, h2⟩
  · rw [h1, h2]
    rfl
  · rw [h1, h2]
    exact drpB_W hp
theorem us_congr {g g' : Nat → Option Nat} (h : ∀ k, g k = none ↔ g' k = none) : ∀ k, us g k = us g' k
  | 0 => rfl
  | k + 1 => by
    show us g k + (if g k = none then 1 else 0) = us g' k + (if g' k = none then 1 else 0)
    rw [us_congr h k]
    by_cases e : g k = none
    · rw [if_pos e, if_pos ((h k).mp e)]
    · rw [if_neg e, if_neg (fun e2 => e ((h k).mpr e2))]
theorem drpB_cost {b : bk} (hb : OKb b) {x : Nat} (hx : x < b 0) (w : Nat) : cost1 (drpB b x) none w = cost1 b (some x) w := by
  have hW := drpB_Wf hb hx w
  have h1 : nP (drpB b x) w none = nP b w (some x) := by
    show (bs (W0 (drpB b x) w) (wL (drpB b x) w) 0).2.1 = _
    rw [hW, drpB_wL hb]
    rfl
  have h2 : nU (drpB b x) w none = nU b w (some x) := by
    unfold nU
    rw [h1]
    refine us_congr (fun k => ?_) _
    rw [pp0, hW, drpB_wL hb]
    unfold pp
    rcases drpB_pc hb hx w (ps (Wf b w (some x)) (wL b w) k) (bs (Wf b w (some x)) (wL b w) (ps (Wf b w (some x)) (wL b w) k)).2.2 with ⟨g1, g2⟩ | ⟨p, hp, g1, g2⟩
    · rw [g1, g2]
    · rw [g1, g2]
      exact ⟨fun h => (by cases h), fun h => (by cases h)⟩
  unfold cost1
  rw [h1, h2, drpB_wC hb]
theorem sm_congr {g g' : Nat → Nat} : ∀ n, (∀ k, k < n → g k = g' k) → sm g n = sm g' n
  | 0, _ => rfl
  | n + 1, h => by
    show sm g n + g n = sm g' n + g' n
    rw [sm_congr n (fun k hk => h k (by omega)), h n (by omega)]
theorem drpB_cW {b : bk} (hb : OKb b) {x : Nat} (hx : x < b 0) : sm (cost1 (drpB b x) none) (drpB b x 1) = cW b x := by
  rw [drpB_1]
  exact sm_congr _ (fun w _ => drpB_cost hb hx w)
