/-! all that holds of both between two calls -/
def RC (ct : CV) (hi : HV) (sl : SV) (pd : PV) (b : bk) (hb : Nat → bk) (z : Nat) (v : Nat → Bool) (sb : Nat → bk) (c : Nat → Nat) (n : Nat) : Prop := OKb b ∧ CR ct b ∧ HC hi hb z ∧ SC sl v sb ∧ PC pd c n
def RM (mo : MV) (b : bk) (hb : Nat → bk) (z : Nat) (v : Nat → Bool) (sb : Nat → bk) (c : Nat → Nat) (n : Nat) : Prop := MS mo b ∧ HM mo.2.2.1 mo.2.2.2.1 hb z ∧ SM mo.2.2.2.2.1 mo.2.2.2.2.2.1 v sb ∧ PM mo.2.2.2.2.2.2.1 mo.2.2.2.2.2.2.2.1 c n
def RR (ct : CV) (hi : HV) (sl : SV) (pd : PV) (mo : MV) : Prop := ∃ b hb z v sb c n, RC ct hi sl pd b hb z v sb c n ∧ RM mo b hb z v sb c n
theorem RM_core {mo m : MV} {b b' : bk} {hb : Nat → bk} {z : Nat} {v : Nat → Bool} {sb : Nat → bk} {c : Nat → Nat} {n : Nat} (h : RM mo b hb z v sb c n) (hs : MS m b') (hc : core m = core mo) : RM m b' hb z v sb c n := by
  obtain ⟨-, h2, h3, h4⟩ := h
  have e1 : m.2.2.1 = mo.2.2.1 := congrArg (fun x => x.1) hc
  have e2 : m.2.2.2.1 = mo.2.2.2.1 := congrArg (fun x => x.2.1) hc
  have e3 : m.2.2.2.2.1 = mo.2.2.2.2.1 := congrArg (fun x => x.2.2.1) hc
  have e4 : m.2.2.2.2.2.1 = mo.2.2.2.2.2.1 := congrArg (fun x => x.2.2.2.1) hc
  have e5 : m.2.2.2.2.2.2.1 = mo.2.2.2.2.2.2.1 := congrArg (fun x => x.2.2.2.2.1) hc
  have e6 : m.2.2.2.2.2.2.2.1 = mo.2.2.2.2.2.2.2.1 := congrArg (fun x => x.2.2.2.2.2) hc
  refine ⟨hs, ?_, ?_, ?_⟩
  · rw [e1, e2]; exact h2
  · rw [e3, e4]; exact h3
  · rw [e5, e6]; exact h4
/-- the state behind record -/
theorem RM_rec {N : Nat} (hN : 2000 < N) {mo : MV} {b : bk} {hb : Nat → bk} {z : Nat} {v : Nat → Bool} {sb : Nat → bk} {c : Nat → Nat} {n : Nat} (h : RM mo b hb z v sb c n) : wp (f_X8_record N mo) (fun r => RM r b (psH hb z b) (psZ z) v sb c n) := by
  refine wp_mono (recordM_ok (by omega) h.1 h.2.1) (fun r hr => ?_)
  obtain ⟨H, R, rfl, hm⟩ := hr
  exact ⟨h.1, hm, h.2.2.1, h.2.2.2⟩
theorem RM_sets {mo : MV} {b b' : bk} {hb : Nat → bk} {z : Nat} {v : Nat → Bool} {sb : Nat → bk} {c : Nat → Nat} {n : Nat} (h : RM mo b hb z v sb c n) {S : Nat → Int32} (hs : ∀ k, k < 210 → S k = nI (b' k)) : RM (sets mo S) b' hb z v sb c n := ⟨hs, h.2.1, h.2.2.1, h.2.2.2⟩
theorem wi_ix {N n : Nat} (hn : n < 2 ^ 31) (x : Int32) : (∃ j, j < n ∧ x = nI j ∧ f_X8_within N x 0 (nI n - 1) = some 1) ∨ ((x < 0 ∨ nI n ≤ x) ∧ f_X8_within N x 0 (nI n - 1) = some 0) := by
  unfold f_X8_within
  rcases pk_ix x hn with h | h | ⟨j, h1, rfl⟩
  · exact Or.inr ⟨Or.inl h, if_pos h⟩
  · by_cases h0 : x < 0
    · exact Or.inr ⟨Or.inl h0, if_pos h0⟩
    · refine Or.inr ⟨Or.inr h, ?_⟩
      rw [if_neg h0, if_pos]
      cases n with
      | zero => exact Int32.lt_of_lt_of_le (show nI 0 - 1 < nI 0 by decide) h
      | succ n =>
        rw [nI_pred]
        exact Int32.lt_of_lt_of_le (nI_lt (Nat.lt_succ_self n) hn) h
  · refine Or.inl ⟨j, h1, rfl, ?_⟩
    obtain ⟨m, rfl⟩ : ∃ m, n = m + 1 := ⟨n - 1, by omega⟩
    rw [if_neg (nI_pos (by omega)), nI_pred, if_neg (nI_nlt (by omega) (by omega))]
theorem isP {N : Nat} {ct : CV} {mo : MV} {b : bk} (hb : OKb b) (hc : CR ct b) (hs : MS mo b) (x : Int32) : (∃ p, x = nI p ∧ p < b 0 ∧ f_X7_isPiece N ct x = some 1 ∧ f_X8_isPiece N mo x = some 1) ∨ (f_X7_isPiece N ct x = some 0 ∧ f_X8_isPiece N mo x = some 0) := by
  have h16 := hb.1
  have e0 : mo.1 ((0 : Int32).toNatClampNeg) = nI (b 0) := hs 0 (by decide)
  unfold f_X7_isPiece f_X8_isPiece
  rw [q_ck0 (by decide) (by decide), e0, hc.1]
  rcases wi_ix (N := N) (n := b 0) (by omega) x with ⟨j, h1, rfl, h2⟩ | ⟨h1, h2⟩
  · rw [h2, Option.bind_some, if_neg (nI_pos (by omega)), if_neg (nI_ge h1 (by omega))]
    exact Or.inl ⟨j, rfl, h1, rfl, rfl⟩
  · rw [h2, Option.bind_some]
    refine Or.inr ⟨?_, rfl⟩
    by_cases h0 : x < 0
    · exact if_pos h0
    · rw [if_neg h0]
      exact if_pos (h1.resolve_left h0)
theorem isW {N : Nat} {ct : CV} {mo : MV} {b : bk} (hb : OKb b) (hc : CR ct b) (hs : MS mo b) (x : Int32) : (∃ p, x = nI p ∧ p < b 1 ∧ f_X7_isWord N ct x = some 1 ∧ f_X8_isWord N mo x = some 1) ∨ (f_X7_isWord N ct x = some 0 ∧ f_X8_isWord N mo x = some 0) := by
  have h16 := hb.2.1
  have e0 : mo.1 ((1 : Int32).toNatClampNeg) = nI (b 1) := hs 1 (by decide)
  unfold f_X7_isWord f_X8_isWord
  rw [q_ck1 (by decide) (by decide), e0, hc.2.1]
  rcases wi_ix (N := N) (n := b 1) (by omega) x with ⟨j, h1, rfl, h2⟩ | ⟨h1, h2⟩
  · rw [h2, Option.bind_some, if_neg (nI_pos (by omega)), if_neg (nI_ge h1 (by omega))]
    exact Or.inl ⟨j, rfl, h1, rfl, rfl⟩
  · rw [h2, Option.bind_some]
    refine Or.inr ⟨?_, rfl⟩
    by_cases h0 : x < 0
    · exact if_pos h0
    · rw [if_neg h0]
      exact if_pos (h1.resolve_left h0)
/-- a number from 1 to M, or not -/
theorem wi_1c {N M : Nat} {c : Int32} (hc : c = nI M) (hM : M < 2 ^ 31) (x : Int32) : (∃ n, x = nI n ∧ 1 ≤ n ∧ n ≤ M ∧ ¬ x < 1 ∧ x ≤ c ∧ f_X8_within N x 1 c = some 1) ∨ ((x < 1 ∨ ¬ x ≤ c) ∧ f_X8_within N x 1 c = some 0) := by
  subst hc
  unfold f_X8_within
  by_cases h : x < 1
  · exact Or.inr ⟨Or.inl h, if_pos h⟩
  · rw [if_neg h]
    by_cases h2 : nI M < x
    · exact Or.inr ⟨Or.inr (Int32.not_le.2 h2), if_pos h2⟩
    · rw [if_neg h2]
      have h0 : ¬ x < 0 := fun q => h (Int32.lt_trans q (by decide))
      obtain ⟨j, hj, rfl⟩ := nI_of h0
      refine Or.inl ⟨j, rfl, ?_, ?_, h, Int32.not_lt.1 h2, rfl⟩
      · rcases Nat.lt_or_ge j 1 with g | g
        · exact absurd (nI_lt (b := 1) g (by decide)) h
        · exact g
      · rcases Nat.lt_or_ge M j with g | g
        · exact absurd (nI_lt g hj) h2
        · exact g
/-- a number from 0 to M, or not -/
theorem wi_0c {N M : Nat} {c : Int32} (hc : c = nI M) (hM : M < 2 ^ 31) (x : Int32) : (∃ n, x = nI n ∧ n ≤ M ∧ ¬ x < 0 ∧ x ≤ c ∧ f_X8_within N x 0 c = some 1) ∨ ((x < 0 ∨ ¬ x ≤ c) ∧ f_X8_within N x 0 c = some 0) := by
  subst hc
  unfold f_X8_within
  by_cases h : x < 0
  · exact Or.inr ⟨Or.inl h, if_pos h⟩
  · rw [if_neg h]
    by_cases h2 : nI M < x
    · exact Or.inr ⟨Or.inr (Int32.not_le.2 h2), if_pos h2⟩
    · rw [if_neg h2]
      obtain ⟨j, hj, rfl⟩ := nI_of h
      refine Or.inl ⟨j, rfl, ?_, h, Int32.not_lt.1 h2, rfl⟩
      rcases Nat.lt_or_ge M j with g | g
      · exact absurd (nI_lt g hj) h2
      · exact g
theorem ite_bad {α : Type} {x d c : Int32} (g : x < d ∨ ¬ x ≤ c) (A B : α) : (if x < d then A else if x ≤ c then B else A) = A := by
  by_cases h : x < d
  · exact if_pos h
  · rw [if_neg h]
    exact if_neg (g.resolve_left h)
theorem n10 : ¬ (1 : Int32) = 0 := by decide
theorem n00 : (0 : Int32) = 0 := rfl
/-- two lines of rows of which all is the same but the weights and the counts -/
theorem CR_of {c c' : CV} {b b' : bk} (ob : OKb b) (hc : CR c b) (e1 : c'.1 = c.1) (e2 : c'.2.1 = c.2.1) (e3 : c'.2.2.1 = c.2.2.1) (e5 : c'.2.2.2.2.1 = c.2.2.2.2.1) (e6 : c'.2.2.2.2.2.1 = c.2.2.2.2.2.1) (e8 : c'.2.2.2.2.2.2.2 = c.2.2.2.2.2.2.2) (h0 : b' 0 = b 0) (h1 : b' 1 = b 1) (hL : ∀ p, p < b 0 → pL b' p = pL b p) (hT : ∀ p k, p < b 0 → k < 4 → pT b' p k = pT b p k) (hW : ∀ p, p < b 0 → c'.2.2.2.1 p = nI (pW b' p)) (wl : ∀ w, w < b 1 → wL b' w = wL b w) (wc : ∀ w, w < b 1 → c'.2.2.2.2.2.2.1 w = nI (wC b' w)) (wt : ∀ w k, w < b 1 → k < 12 → wT b' w k = wT b w k) : CR c' b' := by
  refine ⟨by rw [e1, h0]; exact hc.1, by rw [e5, h1]; exact hc.2.1, fun p hp => ?_, fun w hw => ?_⟩
  · rw [h0] at hp
    obtain ⟨g1, g2, g3⟩ := hc.2.2.1 p hp
    have hv := (ob.2.2.1 p hp).2.1
    rw [e2, e3, hL p hp]
    exact ⟨g1.trans (congrArg nI (cod_congr _ (fun k hk => (hT p k hp (by omega)).symm))), g2, hW p hp⟩
  · rw [h1] at hw
    obtain ⟨g1, g2, g3⟩ := hc.2.2.2 w hw
    have hv := (ob.2.2.2.1 w hw).2.1
    rw [e6, e8, wl w hw]
    exact ⟨g1, wc w hw, fun k hk => by rw [wt w k hw (by omega)]; exact g3 k hk⟩
