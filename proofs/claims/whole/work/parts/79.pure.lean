/-! how often a piece stands in the best cuts: the reference -/
theorem hit7 {b : bk} (hb : OKb b) {w k p : Nat} (hw : w < b 1) (hk : k < nP b w none) (hp : p < b 0) : cod 7 (fun j => wT b w (pl b w k + j)) (lk b w k) = cod 7 (pT b p) (pL b p) ↔ pp b w none k = some p := by
  obtain ⟨a1, a2, a3, a4, a5, a6⟩ := pr_ok hb hw hk
  have hv := hb.2.2.2.1 w hw
  have hu := hb.2.2.1 p hp
  rw [pp0]
  constructor
  · intro h
    obtain ⟨e1, e2⟩ := cod_inj (by omega) (fun j hj => hv.2.2.2.2 (pl b w k + j) (by omega)) hu.2.2.2.2 h
    exact pc_of hb hp ⟨e1.symm, fun j hj => (e2 j hj).symm⟩
  · intro h
    obtain ⟨-, e1, e2⟩ := pc_lt h
    rw [e1]
    exact cod_congr _ (fun j hj => (e2 j hj).symm)
theorem often_L22 {N : Nat} (hN : 16 < N) {mo : MV} {b : bk} (hb : OKb b) (hs : MS mo b) {w : Nat} (hw : w < b 1) (hF : ∀ j, j < wL b w → mo.2.2.2.2.2.2.2.2.2.2.1 j = nI (bs (W0 b w) (wL b w) j).2.2) {p : Nat} (hp : p < b 0) {s0 : Nat} {K : Int32 → Option (Int32 × MV)} {P : Int32 × MV → Prop} (hK : wp (K (nI (s0 + tw b p w (nP b w none)))) P) :
    ∀ (f k : Nat), k ≤ nP b w none → nP b w none - k < f → wp (f_X8_partOften_L22 N (nI p) (nI w) mo K f (nI (s0 + tw b p w k)) (nI (pl b w k))) P
  | 0, _, h1, h2 => by omega
  | f + 1, k, h1, h2 => by
    have hv := hb.2.2.2.1 w hw
    have h8 := hb.2.1
    have h16 := hb.1
    have hn := nP_le hb (w := w) none
    have hW : okW (W0 b w) (wL b w) := Wf_ok hb w none
    rw [f_X8_partOften_L22, wLen_ok hs (by omega), Option.bind_some]
    by_cases hk : k < nP b w none
    · obtain ⟨a1, a2, a3, a4, a5, a6⟩ := pr_ok hb hw hk
      have eF : mo.2.2.2.2.2.2.2.2.2.2.1 (pl b w k) = nI (lk b w k) := hF _ a1
      have e1 : nI (pl b w k) + nI (lk b w k) = nI (pl b w (k + 1)) := nI_add _ _
      have es : tw b p w (k + 1) = tw b p w k + (if pp b w none k = some p then wC b w else 0) := rfl
      have hu := hb.2.2.1 p hp
      have c1 := cod7_lt (a := fun j => wT b w (pl b w k + j)) a3 (fun j hj => (hv.2.2.2.2 _ (by omega)).2)
      have c2 := cod7_lt (a := pT b p) hu.2.1 (fun j hj => (hu.2.2.2.2 j hj).2)
      have ih := often_L22 hN hb hs hw hF hp hK f (k + 1) (by omega) (by omega)
      rw [if_neg (show ¬ nI (wL b w) ≤ nI (pl b w k) from nI_ge a1 (by omega)), q_ck (show pl b w k < 13 by omega) (by decide), nI_clamp (show pl b w k < 2 ^ 31 by omega), eF, textIn_ok hN hs (by omega) (by omega), Option.bind_some, textOf_ok hN hb hs hp, Option.bind_some]
      unfold jn
      dsimp only
      by_cases e : pp b w none k = some p
      · rw [es, if_pos e] at ih
        rw [if_pos (congrArg nI ((hit7 hb hw hk hp).2 e)), wCnt_ok hs (by omega), Option.bind_some, q_bd, e1, nI_add, q_ck (show pl b w k < 13 by omega) (by decide), q_bd, Nat.add_assoc]
        exact ih
      · rw [es, if_neg e] at ih
        rw [if_neg (fun q => e ((hit7 hb hw hk hp).1 ((nI_eq (by omega) (by omega)).1 q))), q_bd, e1, show (0 : Int32) = nI 0 from rfl, nI_add, q_ck (show pl b w k < 13 by omega) (by decide), q_bd, Nat.add_assoc]
        exact ih
    · have e : k = nP b w none := by omega
      subst e
      have e2 : pl b w (nP b w none) = wL b w := ps_end hW
      rw [e2, if_pos (show nI (wL b w) ≤ nI (wL b w) from nI_le (Nat.le_refl _) (by omega))]
      exact hK
theorem often_L4 {N : Nat} (hN : 16 < N) {mo0 : MV} {b : bk} (hb : OKb b) {p : Nat} (hp : p < b 0) {K : Int32 → MV → Option (Int32 × MV)} {P : Int32 × MV → Prop} (hK : ∀ mo, MS mo b → core mo = core mo0 → wp (K (nI (tws b p (b 1))) mo) P) :
    ∀ (f w : Nat) (mo : MV), w ≤ b 1 → b 1 - w < f → MS mo b → core mo = core mo0 → wp (f_X8_partOften_L4 N (nI p) K f (nI (tws b p w)) (nI w) mo) P
  | 0, _, _, _, h, _, _ => by omega
  | f + 1, w, mo, h1, h2, hs, hco => by
    have h8 := hb.2.1
    rw [f_X8_partOften_L4, q_ck1 (by decide) (by decide), show ((1 : Int32).toNatClampNeg) = 1 from rfl, hs 1 (by decide)]
    by_cases h : w < b 1
    · have hn := nP_le hb (w := w) none
      have hv := hb.2.2.2.1 w h
      rw [if_neg (show ¬ nI (b 1) ≤ nI w from nI_ge h (by omega)), nI_1]
      refine wp_bind (wp_mono (cut_ok hN hb hs h) (fun r hr => ?_))
      obtain ⟨Pr, C, F, rfl, hA⟩ := hr
      have hF : ∀ j, j < wL b w → (setc mo Pr C F).2.2.2.2.2.2.2.2.2.2.1 j = nI (bs (W0 b w) (wL b w) j).2.2 := fun j hj => (hA j (Nat.zero_le _) (by omega)).2.2 hj
      exact often_L22 hN hb (setc_S mo b Pr C F hs) h hF hp (s0 := tws b p w) (often_L4 hN hb hp hK f (w + 1) (setc mo Pr C F) (by omega) (by omega) hs hco) N 0 (Nat.zero_le _) (by omega)
    · have e : w = b 1 := by omega
      subst e
      rw [if_pos (show nI (b 1) ≤ nI (b 1) from nI_le (Nat.le_refl _) (by omega))]
      exact hK mo hs hco
theorem often_ok {N : Nat} (hN : 16 < N) {mo : MV} {b : bk} (hb : OKb b) (hs : MS mo b) {p : Nat} (hp : p < b 0) : wp (f_X8_partOften N mo (nI p)) (fun r => r.1 = nI (tws b p (b 1)) ∧ MS r.2 b ∧ core r.2 = core mo) := by
  have h8 := hb.2.1
  unfold f_X8_partOften
  exact often_L4 (mo0 := mo) hN hb hp (fun mo2 a1 a2 => wp_some ⟨rfl, a1, a2⟩) N 0 mo (Nat.zero_le _) (by omega) hs rfl
/-! where a part begins: the reference -/
theorem part_L39 {N : Nat} {mo : MV} {b : bk} (hb : OKb b) {w : Nat} (hw : w < b 1) (hF : ∀ j, j < wL b w → mo.2.2.2.2.2.2.2.2.2.2.1 j = nI (bs (W0 b w) (wL b w) j).2.2) {t : Nat} (ht : t < nP b w none) {x1 x3 : Int32} {K : Int32 → Option (Int32 × MV)} {P : Int32 × MV → Prop} (hK : wp (K (nI (pl b w t))) P) :
    ∀ (f k : Nat), k ≤ t → t - k < f → wp (f_X8_part_L39 N x1 (nI t) x3 mo K f (nI (pl b w k)) (nI k)) P
  | 0, _, _, h => by omega
  | f + 1, k, h1, h2 => by
    have hn := nP_le hb (w := w) none
    have hv := hb.2.2.2.1 w hw
    rw [f_X8_part_L39]
    by_cases h : k < t
    · obtain ⟨a1, -⟩ := pr_ok hb hw (show k < nP b w none by omega)
      have eF : mo.2.2.2.2.2.2.2.2.2.2.1 (pl b w k) = nI (lk b w k) := hF _ a1
      have e1 : nI (pl b w k) + nI (lk b w k) = nI (pl b w (k + 1)) := nI_add _ _
      rw [if_neg (show ¬ nI t ≤ nI k from nI_ge h (by omega)), q_ck (show pl b w k < 13 by omega) (by decide), nI_clamp (show pl b w k < 2 ^ 31 by omega), eF, e1, q_bd, nI_1]
      exact part_L39 hb hw hF ht hK f (k + 1) (by omega) (by omega)
    · have e : k = t := by omega
      subst e
      rw [if_pos (show nI k ≤ nI k from nI_le (Nat.le_refl _) (by omega))]
      exact hK
/-! the sums of count: the reference -/
theorem sm_add {f g h : Nat → Nat} : ∀ n, (∀ k, k < n → h k = f k + g k) → sm h n = sm f n + sm g n
  | 0, _ => rfl
  | n + 1, e => by
    show sm h n + h n = sm f n + f n + (sm g n + g n)
    rw [sm_add n (fun k hk => e k (by omega)), e n (by omega)]
    omega
theorem cost_pu (b : bk) (n : Nat) : sm (cost1 b none) n = sm (fun w => nP b w none * wC b w) n + sm (fun w => nU b w none * wC b w) n := sm_add n (fun k _ => Nat.add_mul _ _ _)
theorem count_L {N : Nat} (hN : 16 < N) {mo0 : MV} {b : bk} (hb : OKb b) {x1 : Int32} {K : Int32 → Int32 → Int32 → MV → Option (Int32 × MV)} {P : Int32 × MV → Prop} (hK : ∀ mo, MS mo b → core mo = core mo0 → wp (K (nI (sm (fun w => wL b w * wC b w) (b 1))) (nI (sm (fun w => nP b w none * wC b w) (b 1))) (nI (sm (fun w => nU b w none * wC b w) (b 1))) mo) P) :
    ∀ (f w : Nat) (mo : MV), w ≤ b 1 → b 1 - w < f → MS mo b → core mo = core mo0 → wp (f_X8_count_L10 N x1 K f (nI (sm (fun w => wL b w * wC b w) w)) (nI (sm (fun w => nP b w none * wC b w) w)) (nI (sm (fun w => nU b w none * wC b w) w)) (nI w) mo) P
  | 0, _, _, _, h, _, _ => by omega
  | f + 1, w, mo, h1, h2, hs, hco => by
    have h8 := hb.2.1
    rw [f_X8_count_L10, q_ck1 (by decide) (by decide), show ((1 : Int32).toNatClampNeg) = 1 from rfl, hs 1 (by decide)]
    by_cases h : w < b 1
    · rw [if_neg (show ¬ nI (b 1) ≤ nI w from nI_ge h (by omega)), nI_1]
      refine wp_bind (wp_mono (cut_ok hN hb hs h) (fun r hr => ?_))
      obtain ⟨Pr, C, F, rfl, hA⟩ := hr
      have hs2 := setc_S mo b Pr C F hs
      have hF : ∀ j, j < wL b w → (setc mo Pr C F).2.2.2.2.2.2.2.2.2.2.1 j = nI (bs (W0 b w) (wL b w) j).2.2 := fun j hj => (hA j (Nat.zero_le _) (by omega)).2.2 hj
      have eC0 : C 0 = nI (nP b w none) := (hA 0 (Nat.le_refl _) (Nat.zero_le _)).2.1
      rw [wLen_ok hs2 (by omega), Option.bind_some, wCnt_ok hs2 (by omega), Option.bind_some, pk_mul, nI_add, q_bd, q_ck0 (by decide) (by decide), Option.bind_some, setc_C, show ((0 : Int32).toNatClampNeg) = 0 from rfl, eC0, pk_mul, nI_add, q_bd, unseen_ok hN hb hs2 h hF, Option.bind_some, Option.bind_some, pk_mul, nI_add, q_bd]
      exact count_L hN hb hK f (w + 1) (setc mo Pr C F) (by omega) (by omega) hs hco
    · have e : w = b 1 := by omega
      subst e
      rw [if_pos (show nI (b 1) ≤ nI (b 1) from nI_le (Nat.le_refl _) (by omega))]
      exact hK mo hs hco
