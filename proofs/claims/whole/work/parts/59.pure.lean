/-! the least loss: the reference -/
theorem q_dlt {a c n : Nat} (ha : a < 2 ^ 30) (hc : c < 2 ^ 30) (hn : n < 2 ^ 30) : nI a - nI n < nI c - nI n ↔ a < c := by
  rw [Int32.lt_iff_toInt_lt, pk_sub_toInt ha hn, pk_sub_toInt hc hn]
  omega
theorem q_deq {a c n : Nat} (ha : a < 2 ^ 30) (hc : c < 2 ^ 30) (hn : n < 2 ^ 30) : nI a - nI n = nI c - nI n ↔ a = c := by
  constructor
  · intro h
    have h1 := congrArg Int32.toInt h
    rw [pk_sub_toInt ha hn, pk_sub_toInt hc hn] at h1
    omega
  · intro h
    rw [h]
theorem leastOf_L {N : Nat} (hN : 210 < N) {mo0 : MV} {b : bk} (hb : OKb b) {K : Int32 → MV → Option (Int32 × MV)} {P : Int32 × MV → Prop} (hK : ∀ mo, MS mo b → core mo = core mo0 → wp (K (oI (-6) (lst b (b 0))) mo) P) :
    ∀ (f p : Nat) (x2 : Int32) (mo : MV), p ≤ b 0 → b 0 - p < f → MS mo b → core mo = core mo0 → (∀ q, lst b p = some q → x2 = nI (cW b q) - nI (sm (cost1 b none) (b 1))) → wp (f_X8_leastOf_L7 N K f (oI (-6) (lst b p)) x2 (nI p) mo) P
  | 0, _, _, _, h1, h2, _, _, _ => by omega
  | f + 1, p, x2, mo, h1, h2, hs, hco, hx => by
    have h16 := hb.1
    rw [f_X8_leastOf_L7, q_ck0 (by decide) (by decide), show ((0 : Int32).toNatClampNeg) = 0 from rfl, hs 0 (by decide)]
    by_cases hp : p < b 0
    · rw [if_neg (show ¬ nI (b 0) ≤ nI p from nI_ge hp (by omega))]
      refine wp_bind (wp_mono (lossOf_ok hN hb hs hp) (fun r hr => ?_))
      obtain ⟨e1, hs2, hc2⟩ := hr
      have cp : cW b p ≤ 19008 := cost_le hb (some p)
      have cn := cost_le hb none
      have hl : ∀ o, lst b (p + 1) = o → lst b (p + 1) = o := fun _ h => h
      have step : ∀ q, lst b (p + 1) = some q → ∀ y, (y = nI (cW b q) - nI (sm (cost1 b none) (b 1))) → wp (f_X8_leastOf_L7 N K f (nI q) y (nI (p + 1)) r.2) P := by
        intro q hq y hy
        have := leastOf_L hN hb hK f (p + 1) y r.2 (by omega) (by omega) hs2 (hc2.trans hco) (fun q2 h2 => by rw [hq] at h2; cases h2; exact hy)
        rw [hq] at this
        exact this
      rw [q_jn, q_jn, nI_1]
      cases e : lst b p with
      | none =>
        have hq : lst b (p + 1) = some p := by rw [lst, e]
        rw [if_pos (show oI (-6) none = -6 from rfl)]
        dsimp only
        rw [q_jn, if_neg (show ¬ (1 : Int32) = 0 by decide)]
        dsimp only
        rw [if_neg (show ¬ (1 : Int32) = 0 by decide)]
        exact step p hq _ e1
      | some q =>
        have hql := lst_lt e
        have cq : cW b q ≤ 19008 := cost_le hb (some q)
        have hxq := hx q e
        have hv := hb.2.2.1 p hp
        have hu := hb.2.2.1 q (by omega)
        have stay : lst b (p + 1) = some q → wp (f_X8_leastOf_L7 N K f (oI (-6) (some q)) x2 (nI (p + 1)) r.2) P := fun hq => step q hq x2 hxq
        have take : lst b (p + 1) = some p → wp (f_X8_leastOf_L7 N K f (nI p) r.1 (nI (p + 1)) r.2) P := fun hq => step p hq _ e1
        rw [if_neg (show ¬ oI (-6) (some q) = -6 from fun e => by have := q_nem6 (n := q) (by omega); exact (this.mp e)), e1, hxq]
        by_cases c1 : cW b p < cW b q
        · have hq : lst b (p + 1) = some p := by rw [lst, e]; dsimp only; rw [if_pos (Or.inl c1)]
          rw [if_pos ((q_dlt (by omega) (by omega) (by omega)).mpr c1)]
          dsimp only
          rw [q_jn, if_neg (show ¬ (1 : Int32) = 0 by decide)]
          dsimp only
          rw [if_neg (show ¬ (1 : Int32) = 0 by decide), ← e1]
          exact take hq
        · rw [if_neg (fun e => c1 ((q_dlt (by omega) (by omega) (by omega)).mp e))]
          by_cases c2 : cW b p = cW b q
          · rw [if_pos ((q_deq (by omega) (by omega) (by omega)).mpr c2), pWt_ok hs2 (by omega), Option.bind_some, show oI (-6) (some q) = nI q from rfl, pWt_ok hs2 (by omega), Option.bind_some]
            by_cases c3 : pW b p ≤ pW b q
            · have hq : lst b (p + 1) = some p := by rw [lst, e]; dsimp only; rw [if_pos (Or.inr ⟨c2, c3⟩)]
              rw [if_neg (show ¬ nI (pW b q) < nI (pW b p) from nI_nlt c3 (by omega))]
              dsimp only
              rw [q_jn, if_neg (show ¬ (1 : Int32) = 0 by decide)]
              dsimp only
              rw [if_neg (show ¬ (1 : Int32) = 0 by decide), ← e1]
              exact take hq
            · have hq : lst b (p + 1) = some q := by rw [lst, e]; dsimp only; rw [if_neg (fun e => by omega)]
              rw [if_pos (show nI (pW b q) < nI (pW b p) from nI_lt (by omega) (by omega))]
              dsimp only
              rw [q_jn, if_pos rfl]
              dsimp only
              rw [if_pos rfl, ← hxq]
              exact stay hq
          · have hq : lst b (p + 1) = some q := by rw [lst, e]; dsimp only; rw [if_neg (fun e => by omega)]
            rw [if_neg (fun e => c2 ((q_deq (by omega) (by omega) (by omega)).mp e))]
            dsimp only
            rw [q_jn, if_pos rfl]
            dsimp only
            rw [if_pos rfl, ← hxq]
            exact stay hq
    · have e : p = b 0 := by omega
      subst e
      rw [if_pos (show nI (b 0) ≤ nI (b 0) from nI_le (Nat.le_refl _) (by omega))]
      exact hK mo hs hco
theorem leastOf_ok {N : Nat} (hN : 210 < N) {mo : MV} {b : bk} (hb : OKb b) (hs : MS mo b) : wp (f_X8_leastOf N mo) (fun r => r.1 = oI (-6) (lst b (b 0)) ∧ MS r.2 b ∧ core r.2 = core mo) := by
  have h16 := hb.1
  unfold f_X8_leastOf
  refine leastOf_L hN hb (mo0 := mo) (fun mo2 h1 h2 => ?_) N 0 0 mo (Nat.zero_le _) (by omega) hs rfl (fun q h => by cases h)
  exact wp_some ⟨rfl, h1, h2⟩
/-- pieces dropped until not more than z are left -/
def shrB (b : bk) (z : Nat) : Nat → bk
  | 0 => b
  | n + 1 => if b 0 ≤ z then b else match lst b (b 0) with
    | none => b
    | some x => shrB (drpB b x) z n
