/-! adding and removing a word: the class -/
def setl (c : CV) (f : Nat → Int32) : CV := (c.1, c.2.1, c.2.2.1, c.2.2.2.1, c.2.2.2.2.1, c.2.2.2.2.2.1, c.2.2.2.2.2.2.1, f)
theorem setl_5 (c : CV) (f : Nat → Int32) : (setl c f).2.2.2.2.1 = c.2.2.2.2.1 := rfl
theorem addWord_L {N : Nat} {c0 : CV} {b : bk} (hb : OKb b) (hc : CR c0 b) {pd : PV} {c : Nat → Nat} {n : Nat} (hp : PC pd c n) (h8 : b 1 < 8) (h12 : n ≤ 12) (hl : ∀ k, k < n → 97 ≤ c k) {x2 : Int32} {K : CV → Option CV} {P : CV → Prop} (hK : ∀ f, (∀ k, k < n → f (b 1 * 12 + k) = nI (c k - 97)) → (∀ j, j < b 1 * 12 → f j = c0.2.2.2.2.2.2.2 j) → wp (K (setl c0 f)) P) :
    ∀ (g i : Nat) (f : Nat → Int32), i ≤ n → n - i < g → (∀ k, k < i → f (b 1 * 12 + k) = nI (c k - 97)) → (∀ j, j < b 1 * 12 → f j = c0.2.2.2.2.2.2.2 j) → wp (f_X2_addWord_L21 N pd x2 K g (nI i) (setl c0 f)) P
  | 0, _, _, h1, h2, _, _ => by omega
  | g + 1, i, f, h1, h2, h3, h4 => by
    rw [f_X2_addWord_L21, hp.2.1]
    by_cases h : i < n
    · have e0 : (setl c0 f).2.2.2.2.1 = nI (b 1) := hc.2.1
      rw [if_neg (show ¬ nI n ≤ nI i from nI_ge h (by omega)), padLet_ok hp h, Option.bind_some, pk_sub (hl i h), e0, show (12 : Int32) = nI 12 from rfl, pk_mul, nI_add, q_ck (show b 1 * 12 + i < 96 by omega) (by decide), nI_clamp (show b 1 * 12 + i < 2 ^ 31 by omega), nI_1, ← hc.2.1]
      refine addWord_L hb hc hp h8 h12 hl hK g (i + 1) (upd f (b 1 * 12 + i) (nI (c i - 97))) (by omega) (by omega) (fun k hk => ?_) (fun j hj => (upd_o (by omega)).trans (h4 j hj))
      by_cases e : k = i
      · rw [e]; exact upd_s _ _ _
      · exact (upd_o (by omega)).trans (h3 k (by omega))
    · have e : i = n := by omega
      subst e
      rw [if_pos (show nI i ≤ nI i from nI_le (Nat.le_refl _) (by omega))]
      exact hK f h3 h4
theorem addWordC_ok {N : Nat} (hN : 16 < N) {ct : CV} {b : bk} (hb : OKb b) (hc : CR ct b) {pd : PV} {c : Nat → Nat} {n m : Nat} (hp : PC pd c n) (h8 : b 1 < 8) (h12 : n ≤ 12) (hl : ∀ k, k < n → 97 ≤ c k) : wp (f_X2_addWord N ct pd (nI m)) (fun r => CR r (addW b c n m) ∧ r.2.2.2.2.1 = nI (b 1 + 1)) := by
  have e1 := hc.2.1
  have h16 := hb.1
  unfold f_X2_addWord
  rw [if_neg (show ¬ (8 : Int32) ≤ ct.2.2.2.2.1 by rw [e1]; exact nI_ge (b := 8) h8 (by decide)), if_pos (show pd.1 ≤ (12 : Int32) by rw [hp.2.1]; exact nI_le (b := 12) h12 (by decide))]
  refine addWord_L (c0 := ct) hb hc hp h8 h12 hl (fun f hf hf0 => ?_) N 0 ct.2.2.2.2.2.2.2 (Nat.zero_le _) (by omega) (fun k hk => absurd hk (by omega)) (fun j _ => rfl)
  have e0 : (setl ct f).2.2.2.2.1 = nI (b 1) := e1
  rw [e0, q_ck h8 (by decide), q_ck h8 (by decide), nI_clamp (show b 1 < 2 ^ 31 by omega), nI_1, hp.2.1]
  refine wp_some ⟨⟨by rw [addW_0]; exact hc.1, by rw [addW_1], fun p hpp => ?_, fun w hw => ?_⟩, rfl⟩
  · rw [addW_0] at hpp
    have g := hc.2.2.1 p hpp
    have hv := (hb.2.2.1 p hpp).2.1
    rw [show pL (addW b c n m) p = pL b p from addW_lo (by omega) (by omega), show pW (addW b c n m) p = pW b p from addW_lo (by omega) (by omega)]
    exact ⟨g.1.trans (congrArg nI (cod_congr _ (fun k hk => (addW_lo (by omega) (by omega) : pT (addW b c n m) p k = pT b p k).symm))), g.2.1, g.2.2⟩
  · rw [addW_1] at hw
    by_cases e : w = b 1
    · subst e
      rw [addW_L, addW_C]
      refine ⟨upd_s _ _ _, upd_s _ _ _, fun k hk => ?_⟩
      rw [addW_T (by omega), if_pos hk]
      exact (hf k hk).trans (congrArg nI (show c k - 97 = c k - 96 - 1 by omega))
    · have hw2 : w < b 1 := by omega
      obtain ⟨g1, g2, g3⟩ := hc.2.2.2 w hw2
      have hv := (hb.2.2.2.1 w hw2).2.1
      rw [addW_wL hw2, addW_wC hw2]
      refine ⟨(upd_o e).trans g1, (upd_o e).trans g2, fun k hk => ?_⟩
      rw [addW_wT hw2 (by omega)]
      exact (hf0 (w * 12 + k) (by omega)).trans (g3 k hk)
theorem removeWordC_ok {N : Nat} {ct : CV} {b : bk} (hb : OKb b) (hc : CR ct b) {x : Nat} (hx : x < b 1) : wp (f_X2_removeWord N ct (nI x)) (fun r => CR r (frB b x) ∧ r.2.2.2.2.1 = nI (b 1 - 1)) := by
  have e1 := hc.2.1
  have h16 := hb.1
  have h8 := hb.2.1
  unfold f_X2_removeWord
  have e2 : nI (b 1) - 1 = nI (b 1 - 1) := pk_sub (b := 1) (by omega)
  rw [if_neg (show ¬ nI x < (0 : Int32) from nI_pos (by omega)), e1, if_pos (show nI x < nI (b 1) from nI_lt hx (by omega)), e2, pk_sub (show x ≤ b 1 - 1 by omega), q_bd, nI_1, show (12 : Int32) = nI 12 from rfl, pk_mul, pk_mul, pk_mul, q_ckc (by omega) (by omega) (by decide) (by decide), q_ckc (by omega) (by omega) (by decide) (by decide), q_ckc (by omega) (by omega) (by decide) (by decide), nI_clamp (show x + 1 < 2 ^ 31 by omega), nI_clamp (show x < 2 ^ 31 by omega), nI_clamp (show b 1 - 1 - x < 2 ^ 31 by omega), nI_clamp (show (x + 1) * 12 < 2 ^ 31 by omega), nI_clamp (show x * 12 < 2 ^ 31 by omega), nI_clamp (show (b 1 - 1 - x) * 12 < 2 ^ 31 by omega)]
  have sh : ∀ (f : Nat → Int32) (w : Nat), w < b 1 - 1 → va_cpy f f (x + 1) x (b 1 - 1 - x) w = f (shf x w) := fun f w hw => by
    unfold shf
    by_cases h : w < x
    · rw [if_pos h, pk_cpy_out (by omega)]
    · rw [if_neg h, pk_cpy_in (by omega) (by omega)]
      congr 1
      omega
  refine wp_some ⟨⟨by rw [show frB b x 0 = b 0 from frB_lo (by omega) (by omega)]; exact hc.1, by rw [frB_1], fun p hp => ?_, fun w hw => ?_⟩, rfl⟩
  · rw [show frB b x 0 = b 0 from frB_lo (by omega) (by omega)] at hp
    have g := hc.2.2.1 p hp
    have hv := (hb.2.2.1 p hp).2.1
    rw [show pL (frB b x) p = pL b p from frB_lo (by omega) (by omega), show pW (frB b x) p = pW b p from frB_lo (by omega) (by omega)]
    exact ⟨g.1.trans (congrArg nI (cod_congr _ (fun k hk => (frB_lo (by omega) (by omega) : pT (frB b x) p k = pT b p k).symm))), g.2.1, g.2.2⟩
  · rw [frB_1] at hw
    obtain ⟨g1, g2, g3⟩ := hc.2.2.2 (shf x w) (shf_lt hw)
    have hv := (hb.2.2.2.1 (shf x w) (shf_lt hw)).2.1
    rw [frB_L hw, frB_C hw]
    refine ⟨(sh _ w hw).trans g1, (sh _ w hw).trans g2, fun k hk => ?_⟩
    rw [frB_T hw (by omega), ← g3 k hk]
    show va_cpy ct.2.2.2.2.2.2.2 ct.2.2.2.2.2.2.2 ((x + 1) * 12) (x * 12) ((b 1 - 1 - x) * 12) (w * 12 + k) = ct.2.2.2.2.2.2.2 (shf x w * 12 + k)
    unfold shf
    by_cases h : w < x
    · rw [if_pos h, pk_cpy_out (by omega)]
    · rw [if_neg h, pk_cpy_in (by omega) (by omega)]
      exact congrArg ct.2.2.2.2.2.2.2 (by omega)
