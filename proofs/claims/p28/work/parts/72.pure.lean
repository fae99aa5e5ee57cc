/-! texts as numbers, back to letters -/
theorem q_ck1 {α : Type} {n : Nat} {k : Option α} (h : 1 < n) (hn : n < 2 ^ 31) : ck 1 n k = k := q_ck (i := 1) h hn
theorem cod_div7 {a : Nat → Nat} {n : Nat} (h : a n ≤ 6) : cod 7 a (n + 1) / 7 = cod 7 a n := by
  show (7 * cod 7 a n + a n) / 7 = cod 7 a n
  omega
theorem cod_mod7 {a : Nat → Nat} {n : Nat} (h : a n ≤ 6) : cod 7 a (n + 1) % 7 = a n := by
  show (7 * cod 7 a n + a n) % 7 = a n
  omega
theorem cod_pos {B : Nat} {a : Nat → Nat} {n : Nat} (hn : 1 ≤ n) (h : ∀ k, k < n → 1 ≤ a k ∧ a k ≤ 6) : 1 ≤ cod B a n := by
  obtain ⟨m, rfl⟩ : ∃ m, n = m + 1 := ⟨n - 1, by omega⟩
  have := (h m (by omega)).1
  show 1 ≤ B * cod B a m + a m
  omega
/-- the letter of a text at a place, as both answer it -/
def lto (a : Nat → Nat) (L k : Nat) : Int32 := if k < L then nI (a k - 1) else -6
theorem q_s3 : ∀ d, d < 4 → (((3 * nI d) &&& 31 : Int32).toBitVec.smod 32).toNat = 3 * d := by decide
theorem cod_dig {a : Nat → Nat} {k : Nat} : ∀ d, (∀ j, j < k + 1 + d → a j ≤ 6) → cod 8 a (k + 1 + d) / 2 ^ (3 * d) = cod 8 a (k + 1)
  | 0, _ => by rw [Nat.mul_zero, Nat.pow_zero, Nat.div_one]
  | d + 1, h => by
    have h6 := h (k + 1 + d) (by omega)
    have e1 : cod 8 a (k + 1 + (d + 1)) / 8 = cod 8 a (k + 1 + d) := by
      show (8 * cod 8 a (k + 1 + d) + a (k + 1 + d)) / 8 = _
      omega
    have e2 : 2 ^ (3 * (d + 1)) = 8 * 2 ^ (3 * d) := by
      rw [show 3 * (d + 1) = 3 * d + 3 by omega, Nat.pow_add, Nat.mul_comm]
    rw [e2, ← Nat.div_div_eq_div_mul, e1]
    exact cod_dig d (fun j hj => h j (by omega))
theorem letC_ok {N : Nat} {a : Nat → Nat} {L k : Nat} (h4 : L ≤ 4) (ha : ∀ j, j < L → 1 ≤ a j ∧ a j ≤ 6) (hk : k < 2 ^ 31) : f_X7_letterOfText N (nI (cod 8 a L)) (nI L) (nI k) = some (lto a L k) := by
  unfold f_X7_letterOfText lto
  by_cases h : k < L
  · obtain ⟨d, rfl⟩ : ∃ d, L = k + 1 + d := ⟨L - (k + 1), by omega⟩
    have h2 := cod8_lt (a := a) h4 (fun j hj => (ha j hj).2)
    have hk1 := ha k (by omega)
    have e0 : nI (k + 1 + d) - 1 = nI (k + d) := by
      rw [show k + 1 + d = k + d + 1 by omega]
      exact nI_pred _
    have e4 : cod 8 a (k + 1) % 2 ^ 3 = a k := by
      show (8 * cod 8 a k + a k) % 8 = a k
      omega
    have h5 := cod8_lt (a := a) (n := k + 1) (by omega) (fun j hj => (ha j (by omega)).2)
    rw [if_pos h, if_pos (show nI k < nI (k + 1 + d) from nI_lt (by omega) (by omega)), e0, pk_sub (show k ≤ k + d by omega), show k + d - k = d by omega, pk_shrN (show cod 8 a (k + 1 + d) < 2 ^ 31 by omega) _ (3 * d) (q_s3 d (by omega)), cod_dig d (fun j hj => (ha j hj).2), pk_andN (show cod 8 a (k + 1) < 2 ^ 32 by omega) 3 (by decide), e4, show (1 : Int32) = nI 1 from rfl, pk_sub hk1.1]
  · rw [if_neg h, if_neg (show ¬ nI k < nI L from nI_nlt (by omega) hk)]
/-! a book with one piece more -/
def addB (b : bk) (a : Nat → Nat) (L wt : Nat) : bk := fun k => if k = 0 then b 0 + 1 else if 2 + 6 * b 0 ≤ k ∧ k < 8 + 6 * b 0 then (if k = 2 + 6 * b 0 then L else if k = 3 + 6 * b 0 then wt else if k - (4 + 6 * b 0) < L then a (k - (4 + 6 * b 0)) else 0) else b k
theorem addB_0 (b : bk) (a : Nat → Nat) (L wt : Nat) : addB b a L wt 0 = b 0 + 1 := if_pos rfl
theorem addB_o {b : bk} {a : Nat → Nat} {L wt k : Nat} (h0 : k ≠ 0) (h : k < 2 + 6 * b 0 ∨ 8 + 6 * b 0 ≤ k) : addB b a L wt k = b k := (if_neg h0).trans (if_neg (by omega))
theorem addB_1 (b : bk) (a : Nat → Nat) (L wt : Nat) : addB b a L wt 1 = b 1 := addB_o (by omega) (by omega)
theorem addB_n {b : bk} {a : Nat → Nat} {L wt k : Nat} (h : k < 6) : addB b a L wt (2 + 6 * b 0 + k) = if k = 0 then L else if k = 1 then wt else if k - 2 < L then a (k - 2) else 0 := by
  unfold addB
  rw [if_neg (show ¬ 2 + 6 * b 0 + k = 0 by omega), if_pos (show 2 + 6 * b 0 ≤ 2 + 6 * b 0 + k ∧ 2 + 6 * b 0 + k < 8 + 6 * b 0 by omega), show 2 + 6 * b 0 + k - (4 + 6 * b 0) = k - 2 by omega]
  by_cases h0 : k = 0
  · rw [if_pos h0, if_pos (show 2 + 6 * b 0 + k = 2 + 6 * b 0 by omega)]
  · rw [if_neg h0, if_neg (show ¬ 2 + 6 * b 0 + k = 2 + 6 * b 0 by omega)]
    by_cases h1 : k = 1
    · rw [if_pos h1, if_pos (show 2 + 6 * b 0 + k = 3 + 6 * b 0 by omega)]
    · rw [if_neg h1, if_neg (show ¬ 2 + 6 * b 0 + k = 3 + 6 * b 0 by omega)]
theorem addB_L (b : bk) (a : Nat → Nat) (L wt : Nat) : pL (addB b a L wt) (b 0) = L := (addB_n (k := 0) (by decide)).trans (if_pos rfl)
theorem addB_W (b : bk) (a : Nat → Nat) (L wt : Nat) : pW (addB b a L wt) (b 0) = wt := by
  show addB b a L wt (3 + 6 * b 0) = wt
  rw [show 3 + 6 * b 0 = 2 + 6 * b 0 + 1 by omega, addB_n (by decide)]
  rfl
theorem addB_T {b : bk} {a : Nat → Nat} {L wt k : Nat} (h : k < 4) : pT (addB b a L wt) (b 0) k = if k < L then a k else 0 := by
  show addB b a L wt (4 + 6 * b 0 + k) = _
  rw [show 4 + 6 * b 0 + k = 2 + 6 * b 0 + (k + 2) by omega, addB_n (by omega), if_neg (by omega), if_neg (by omega), show k + 2 - 2 = k by omega]
theorem addB_p {b : bk} {a : Nat → Nat} {L wt p k : Nat} (hp : p < b 0) (hk : k < 6) : addB b a L wt (2 + 6 * p + k) = b (2 + 6 * p + k) := addB_o (by omega) (by omega)
theorem addB_pL {b : bk} {a : Nat → Nat} {L wt p : Nat} (hp : p < b 0) : pL (addB b a L wt) p = pL b p := addB_p (k := 0) hp (by omega)
theorem addB_pW {b : bk} {a : Nat → Nat} {L wt p : Nat} (hp : p < b 0) : pW (addB b a L wt) p = pW b p := addB_o (by omega) (by omega)
theorem addB_pT {b : bk} {a : Nat → Nat} {L wt p k : Nat} (hp : p < b 0) (hk : k < 4) : pT (addB b a L wt) p k = pT b p k := addB_o (by omega) (by omega)
theorem addB_hi {b : bk} {a : Nat → Nat} {L wt k : Nat} (h16 : b 0 < 16) (hk : 98 ≤ k) : addB b a L wt k = b k := addB_o (by omega) (by omega)
/-- a text that may become a piece -/
def okT (a : Nat → Nat) (L wt : Nat) : Prop := 1 ≤ L ∧ L ≤ 4 ∧ 1 ≤ wt ∧ wt ≤ 9 ∧ ∀ k, k < L → 1 ≤ a k ∧ a k ≤ 6
theorem addB_ok {b : bk} (hb : OKb b) {a : Nat → Nat} {L wt : Nat} (h16 : b 0 < 16) (hT : okT a L wt) (hn : ∀ p, p < b 0 → ¬ (pL b p = L ∧ ∀ k, k < L → pT b p k = a k)) : OKb (addB b a L wt) := by
  obtain ⟨t1, t2, t3, t4, t5⟩ := hT
  refine ⟨by rw [addB_0]; omega, by rw [addB_1]; exact hb.2.1, fun p hp => ?_, fun w hw => ?_, fun p q hp hq hl hk => ?_⟩
  · rw [addB_0] at hp
    by_cases e : p = b 0
    · subst e
      rw [addB_L, addB_W]
      exact ⟨t1, t2, t3, t4, fun k hk => by rw [addB_T (by omega), if_pos hk]; exact t5 k hk⟩
    · have hp2 : p < b 0 := by omega
      obtain ⟨g1, g2, g3, g4, g5⟩ := hb.2.2.1 p hp2
      rw [addB_pL hp2, addB_pW hp2]
      exact ⟨g1, g2, g3, g4, fun k hk => by rw [addB_pT hp2 (by omega)]; exact g5 k hk⟩
  · rw [addB_1] at hw
    have g := hb.2.2.2.1 w hw
    have e1 : wL (addB b a L wt) w = wL b w := addB_hi h16 (by omega)
    have e2 : wC (addB b a L wt) w = wC b w := addB_hi h16 (by omega)
    rw [e1, e2]
    exact ⟨g.1, g.2.1, g.2.2.1, g.2.2.2.1, fun k hk => by rw [show wT (addB b a L wt) w k = wT b w k from addB_hi h16 (by omega)]; exact g.2.2.2.2 k hk⟩
  · rw [addB_0] at hp hq
    by_cases e : p = b 0
    · by_cases e2 : q = b 0
      · rw [e, e2]
      · have hq2 : q < b 0 := by omega
        subst e
        rw [addB_L] at hl hk
        rw [addB_pL hq2] at hl
        refine absurd ⟨hl.symm, fun k hkL => ?_⟩ (hn q hq2)
        have g := hk k hkL
        rw [addB_T (by omega), if_pos hkL, addB_pT hq2 (by omega)] at g
        exact g.symm
    · have hp2 : p < b 0 := by omega
      by_cases e2 : q = b 0
      · subst e2
        rw [addB_L, addB_pL hp2] at hl
        rw [addB_pL hp2] at hk
        refine absurd ⟨hl, fun k hkL => ?_⟩ (hn p hp2)
        have g := hk k (by omega)
        rw [addB_T (by omega), if_pos hkL, addB_pT hp2 (by omega)] at g
        exact g
      · have hq2 : q < b 0 := by omega
        have hv := (hb.2.2.1 p hp2).2.1
        rw [addB_pL hp2] at hl hk
        rw [addB_pL hq2] at hl
        refine hb.2.2.2.2 p q hp2 hq2 hl (fun k hkL => ?_)
        have g := hk k hkL
        rw [addB_pT hp2 (by omega), addB_pT hq2 (by omega)] at g
        exact g
theorem addPieceC_ok {N : Nat} {c : CV} {b : bk} (hb : OKb b) (hc : CR c b) {a : Nat → Nat} {L wt : Nat} (h16 : b 0 < 16) (hL : L ≤ 4) : wp (f_X2_addPiece N c (nI (cod 8 a L)) (nI L) (nI wt)) (fun r => CR r (addB b a L wt) ∧ r.1 = nI (b 0 + 1)) := by
  unfold f_X2_addPiece
  have e := hc.1
  rw [if_pos (show c.1 < (16 : Int32) by rw [e]; exact nI_lt (b := 16) h16 (by decide)), e, q_ck h16 (by decide), q_ck h16 (by decide), q_ck h16 (by decide), nI_clamp (show b 0 < 2 ^ 31 by omega), nI_1]
  refine wp_some ⟨⟨by rw [addB_0], by rw [addB_1]; exact hc.2.1, fun p hp => ?_, fun w hw => ?_⟩, rfl⟩
  · rw [addB_0] at hp
    by_cases e2 : p = b 0
    · subst e2
      rw [addB_L, addB_W]
      refine ⟨(upd_s _ _ _).trans (congrArg nI (cod_congr L (fun k hk => ?_))), upd_s _ _ _, upd_s _ _ _⟩
      rw [addB_T (by omega), if_pos hk]
    · have hp2 : p < b 0 := by omega
      obtain ⟨g1, g2, g3⟩ := hc.2.2.1 p hp2
      have hv := (hb.2.2.1 p hp2).2.1
      rw [addB_pL hp2, addB_pW hp2]
      refine ⟨(upd_o e2).trans (g1.trans (congrArg nI (cod_congr _ (fun k hk => ?_)))), (upd_o e2).trans g2, (upd_o e2).trans g3⟩
      rw [addB_pT hp2 (by omega)]
  · rw [addB_1] at hw
    obtain ⟨g1, g2, g3⟩ := hc.2.2.2 w hw
    rw [show wL (addB b a L wt) w = wL b w from addB_hi h16 (by omega), show wC (addB b a L wt) w = wC b w from addB_hi h16 (by omega)]
    exact ⟨g1, g2, fun k hk => by rw [show wT (addB b a L wt) w k = wT b w k from addB_hi h16 (by omega)]; exact g3 k hk⟩
