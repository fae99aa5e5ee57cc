/-! addPiece, in the reference -/
theorem addPieceM_L {N : Nat} (hN : 16 < N) {mo : MV} {b : bk} {a : Nat → Nat} {L wt : Nat} (h16 : b 0 < 16) (hT : okT a L wt) {x2 : Int32} {K : MV → Option (Int32 × MV)} {P : Int32 × MV → Prop} (hK : ∀ S, (∀ k, 0 < k → k < 210 → S k = nI (addB b a L wt k)) → S 0 = nI (b 0) → wp (K (sets mo S)) P) :
    ∀ (f k : Nat) (S : Nat → Int32), k ≤ 4 → 4 - k < f → (∀ j, 0 < j → j < 210 → (j < 4 + 6 * b 0 + k ∨ 8 + 6 * b 0 ≤ j) → S j = nI (addB b a L wt j)) → S 0 = nI (b 0) → wp (f_X8_addPiece_L45 N (nI (cod 7 a L)) x2 (nI (b 0)) (nI (2 + 6 * b 0)) (nI L) K f (nI k) (sets mo S)) P
  | 0, _, _, h1, h2, _, _ => by omega
  | f + 1, k, S, h1, h2, h3, h0 => by
    obtain ⟨t1, t2, t3, t4, t5⟩ := hT
    rw [f_X8_addPiece_L45]
    by_cases h : k < 4
    · have hi : 2 + 6 * b 0 + 2 + k < 210 := by omega
      have ex : ∀ v : Int32, v = nI (if k < L then a k else 0) → wp (ck ((nI (2 + 6 * b 0) + 2) + nI k) 210 (f_X8_addPiece_L45 N (nI (cod 7 a L)) x2 (nI (b 0)) (nI (2 + 6 * b 0)) (nI L) K f (nI k + 1) (sets mo (upd S (((nI (2 + 6 * b 0) + 2) + nI k).toNatClampNeg) v)))) P := fun v hv => by
        rw [show (2 : Int32) = nI 2 from rfl, nI_add, nI_add, q_ck hi (by decide), nI_clamp (show 2 + 6 * b 0 + 2 + k < 2 ^ 31 by omega), nI_1, hv]
        refine addPieceM_L hN h16 ⟨t1, t2, t3, t4, t5⟩ hK f (k + 1) _ (by omega) (by omega) (fun j hj0 hj hjk => ?_) ((upd_o (by omega)).trans h0)
        by_cases e : j = 2 + 6 * b 0 + 2 + k
        · rw [e]
          refine (upd_s _ _ _).trans (congrArg nI ?_)
          rw [show 2 + 6 * b 0 + 2 + k = 4 + 6 * b 0 + k by omega]
          exact (addB_T h).symm
        · exact (upd_o e).trans (h3 j hj0 hj (by omega))
      rw [if_neg (show ¬ (4 : Int32) ≤ nI k from nI_ge (b := 4) h (by decide))]
      unfold jn
      dsimp only
      by_cases g : k < L
      · rw [if_neg (show ¬ nI L ≤ nI k from nI_ge g (by omega)), letterOf_ok hN t1 t2 t5 (by omega), Option.bind_some]
        have e1 : lto a L k = nI (a k - 1) := if_pos g
        have e2 := (t5 k g).1
        refine ex _ ?_
        rw [e1, nI_1, if_pos g, show a k - 1 + 1 = a k by omega]
      · rw [if_pos (show nI L ≤ nI k from nI_le (by omega) (by omega))]
        exact ex _ (by rw [if_neg g]; rfl)
    · have e : k = 4 := by omega
      subst e
      rw [if_pos (show (4 : Int32) ≤ nI 4 by decide)]
      exact hK S (fun j hj0 hj => h3 j hj0 hj (by omega)) h0
theorem addPieceM_ok {N : Nat} (hN : 16 < N) {mo : MV} {b : bk} (hs : MS mo b) {a : Nat → Nat} {L wt : Nat} (h16 : b 0 < 16) (hT : okT a L wt) : wp (f_X8_addPiece N mo (nI (cod 7 a L)) (nI wt)) (fun r => r.1 = nI (b 0) ∧ ∃ S, r.2 = sets mo S ∧ ∀ k, k < 210 → S k = nI (addB b a L wt k)) := by
  obtain ⟨t1, t2, t3, t4, t5⟩ := hT
  have e0 : mo.1 ((0 : Int32).toNatClampNeg) = nI (b 0) := hs 0 (by decide)
  unfold f_X8_addPiece
  rw [q_ck0 (by decide) (by decide), e0, q_bd, show (2 : Int32) = nI 2 from rfl, show (6 : Int32) = nI 6 from rfl, pk_mul, nI_add, q_bd, lengthOf_ok hN t2 t5, Option.bind_some, show (0 : Int32) = nI 0 from rfl, nI_add, nI_1, q_ck (show 2 + 6 * b 0 + 0 < 210 by omega) (by decide), q_ck (show 2 + 6 * b 0 + 1 < 210 by omega) (by decide), nI_clamp (show 2 + 6 * b 0 + 0 < 2 ^ 31 by omega), nI_clamp (show 2 + 6 * b 0 + 1 < 2 ^ 31 by omega)]
  refine addPieceM_L (mo := mo) hN h16 ⟨t1, t2, t3, t4, t5⟩ (fun S hS hS0 => ?_) N 0 (upd (upd mo.1 (2 + 6 * b 0 + 0) (nI L)) (2 + 6 * b 0 + 1) (nI wt)) (by decide) (by omega) (fun j hj0 hj hjk => ?_) ?_
  · rw [q_ck (show 0 < 210 by decide) (by decide), q_ck (show 0 < 210 by decide) (by decide)]
    refine wp_some ⟨rfl, upd S 0 (S 0 + 1), rfl, fun k hk => ?_⟩
    by_cases e : k = 0
    · subst e
      rw [addB_0]
      refine (upd_s _ _ _).trans ?_
      rw [hS0, nI_1]
    · exact (upd_o e).trans (hS k (by omega) hk)
  · by_cases g1 : j = 2 + 6 * b 0 + 1
    · rw [g1, addB_n (by decide)]
      exact upd_s _ _ _
    · refine (upd_o g1).trans ?_
      by_cases g2 : j = 2 + 6 * b 0 + 0
      · rw [g2, addB_n (by decide)]
        exact upd_s _ _ _
      · exact (upd_o g2).trans ((hs j hj).trans (congrArg nI (addB_o (by omega) (by omega)).symm))
  · exact (upd_o (by omega)).trans ((upd_o (by omega)).trans (hs 0 (by decide)))
/-! may this text become a piece -/
def okP (c : Nat → Nat) (n M : Nat) : Prop := 1 ≤ n ∧ n ≤ M ∧ fnl c n 0 = n
def fnd (b : bk) (a : Nat → Nat) (L : Nat) : Option Nat := ff (fun p => pL b p = L ∧ ∀ k, k < L → pT b p k = a k) (b 0) 0
theorem okP_l {c : Nat → Nat} {n M : Nat} (h : okP c n M) : ∀ k, k < n → 1 ≤ ltr c k ∧ ltr c k ≤ 6 := fun k hk => by
  have g := fnl_all c n 0 (by rw [h.2.2]; omega) k (by omega) (by omega)
  show 1 ≤ c k - 96 ∧ c k - 96 ≤ 6
  omega
/-- both sides' answer: w is none where it may, else the error -/
def why (b : bk) (c : Nat → Nat) (n : Nat) (x r : Int32) : Prop := (∃ wt, x = nI wt ∧ okP c n 4 ∧ 1 ≤ wt ∧ wt ≤ 9 ∧ b 0 < 16 ∧ fnd b (ltr c) n = none ∧ r = 0) ∨ (r = -2 ∨ r = -3 ∨ r = -4 ∨ r = -5)
theorem q_19 (x : Int32) : (∃ wt, x = nI wt ∧ 1 ≤ wt ∧ wt ≤ 9) ∨ x < 1 ∨ 9 < x := by
  by_cases h : x < 1
  · exact Or.inr (Or.inl h)
  · by_cases h2 : 9 < x
    · exact Or.inr (Or.inr h2)
    · have h0 : ¬ x < 0 := fun q => h (Int32.lt_trans q (by decide))
      obtain ⟨j, hj, rfl⟩ := nI_of h0
      refine Or.inl ⟨j, rfl, ?_, ?_⟩
      · rcases Nat.lt_or_ge j 1 with g | g
        · exact absurd (nI_lt (b := 1) g (by decide)) h
        · exact g
      · rcases Nat.lt_or_ge 9 j with g | g
        · exact absurd (nI_lt (a := 9) g hj) h2
        · exact g
theorem whyBoth {N : Nat} (hN : 16 < N) {ct : CV} {mo : MV} {pd : PV} {b : bk} {c : Nat → Nat} {n : Nat} (hb : OKb b) (hc : CR ct b) (hs : MS mo b) (hp : PC pd c n) (hq : PM mo.2.2.2.2.2.2.1 mo.2.2.2.2.2.2.2.1 c n) (x : Int32) : ∃ r, f_X7_newPieceError N ct pd x = some r ∧ f_X8_whyNoPiece N mo x = some r ∧ why b c n x r := by
  have e0 : mo.1 ((0 : Int32).toNatClampNeg) = nI (b 0) := hs 0 (by decide)
  have h16 := hb.1
  unfold f_X7_newPieceError f_X8_whyNoPiece
  rw [show f_X6_holdsLetters N pd 4 = _ from holdsLetters_ok hN hp (M := 4) (by decide), Option.bind_some, show f_X8_padText N mo 4 = _ from padText_ok hN hq (M := 4) (by decide), Option.bind_some]
  by_cases g : 1 ≤ n ∧ n ≤ 4 ∧ fnl c n 0 = n
  · have hl := okP_l (M := 4) g
    have em : m4 n = n := by
      unfold m4
      by_cases q : n < 4
      · exact if_pos q
      · rw [if_neg q]; omega
    have hcod := cod_pos (B := 7) g.1 hl
    have hcod2 := cod7_lt (a := ltr c) g.2.1 (fun k hk => (hl k hk).2)
    rw [if_pos g, if_pos g, em, if_neg (show ¬ nI 1 = (0 : Int32) by decide), if_neg (nI_ne0 hcod (by omega))]
    rcases q_19 x with ⟨wt, rfl, w1, w9⟩ | h1 | h9
    · rw [if_neg (show ¬ nI wt < (1 : Int32) from nI_nlt (b := 1) w1 (by omega)), if_pos (show nI wt ≤ (9 : Int32) from nI_le (b := 9) w9 (by decide)), show f_X8_within N (nI wt) 1 9 = some (nI (if 1 ≤ wt ∧ wt ≤ 9 then 1 else 0)) from within_ok (lo := 1) (hi := 9) (by omega) (by decide) (by decide), Option.bind_some, if_pos (show 1 ≤ wt ∧ wt ≤ 9 from ⟨w1, w9⟩), if_neg (show ¬ nI 1 = (0 : Int32) by decide), q_ck0 (by decide) (by decide), e0, hc.1]
      by_cases g6 : b 0 < 16
      · rw [if_pos (show nI (b 0) < (16 : Int32) from nI_lt (b := 16) g6 (by decide)), if_neg (show ¬ nI (b 0) = (16 : Int32) from fun q => absurd ((nI_eq (b := 16) (by omega) (by decide)).1 q) (by omega)), textC_ok hN hp g.2.1 g.2.2, Option.bind_some, pieceWith_seg hN hb hc g.2.1 hl, Option.bind_some, pieceOf_seg hN hb hs g.2.1 hl, Option.bind_some]
        cases ef : ff (fun p => pL b p = n ∧ ∀ k, k < n → pT b p k = ltr c k) (b 0) 0 with
        | none =>
          rw [if_pos (show oI (-1) none = -1 from rfl), if_pos (show oI (-6) none = -6 from rfl)]
          exact ⟨0, rfl, rfl, Or.inl ⟨wt, rfl, g, w1, w9, g6, ef, rfl⟩⟩
        | some p =>
          have hp2 := ff_some ef
          rw [if_neg (show ¬ oI (-1) (some p) = -1 from fun q => by
            have := q_nem1 (n := p) (by omega)
            rw [← this]
            exact q), if_neg (show ¬ oI (-6) (some p) = -6 from fun q => by
            have := q_nem6 (n := p) (by omega)
            rw [← this]
            exact q)]
          exact ⟨-5, rfl, rfl, Or.inr (Or.inr (Or.inr (Or.inr rfl)))⟩
      · rw [if_neg (show ¬ nI (b 0) < (16 : Int32) from nI_nlt (b := 16) (by omega) (by omega)), if_pos (show nI (b 0) = (16 : Int32) from congrArg nI (by omega : b 0 = 16))]
        exact ⟨-4, rfl, rfl, Or.inr (Or.inr (Or.inr (Or.inl rfl)))⟩
    · unfold f_X8_within
      rw [if_pos h1, if_pos h1, Option.bind_some, if_pos (show (0 : Int32) = 0 from rfl)]
      exact ⟨-2, rfl, rfl, Or.inr (Or.inl rfl)⟩
    · have h1 : ¬ x < 1 := fun q => absurd (Int32.lt_trans h9 q) (by decide)
      unfold f_X8_within
      rw [if_neg h1, if_neg h1, if_neg (show ¬ x ≤ 9 from Int32.not_le.2 h9), if_pos h9, Option.bind_some, if_pos (show (0 : Int32) = 0 from rfl)]
      exact ⟨-2, rfl, rfl, Or.inr (Or.inl rfl)⟩
  · rw [if_neg g, if_neg g, if_pos (show nI 0 = (0 : Int32) from rfl), if_pos (show (0 : Int32) = 0 from rfl)]
    exact ⟨-3, rfl, rfl, Or.inr (Or.inr (Or.inl rfl))⟩
