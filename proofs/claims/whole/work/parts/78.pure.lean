/-! neighbours: the reference -/
theorem wp_bindE {α β : Type} {x : Option α} {a : α} {f : α → Option β} {P : β → Prop} (h : x = some a) (hk : wp (f a) P) : wp (x.bind f) P := by
  rw [h]
  exact hk
def setn (mo : MV) (T C G : Nat → Int32) (n : Int32) : MV := (mo.1, mo.2.1, mo.2.2.1, mo.2.2.2.1, mo.2.2.2.2.1, mo.2.2.2.2.2.1, mo.2.2.2.2.2.2.1, mo.2.2.2.2.2.2.2.1, mo.2.2.2.2.2.2.2.2.1, mo.2.2.2.2.2.2.2.2.2.1, mo.2.2.2.2.2.2.2.2.2.2.1, mo.2.2.2.2.2.2.2.2.2.2.2.1, mo.2.2.2.2.2.2.2.2.2.2.2.2.1, T, C, G, n, mo.2.2.2.2.2.2.2.2.2.2.2.2.2.2.2.2.2)
theorem setn_F (mo : MV) (T C G : Nat → Int32) (n : Int32) : (setn mo T C G n).2.2.2.2.2.2.2.2.2.2.1 = mo.2.2.2.2.2.2.2.2.2.2.1 := rfl
theorem setn_T (mo : MV) (T C G : Nat → Int32) (n : Int32) : (setn mo T C G n).2.2.2.2.2.2.2.2.2.2.2.2.2.1 = T := rfl
theorem setn_C (mo : MV) (T C G : Nat → Int32) (n : Int32) : (setn mo T C G n).2.2.2.2.2.2.2.2.2.2.2.2.2.2.1 = C := rfl
theorem setn_G (mo : MV) (T C G : Nat → Int32) (n : Int32) : (setn mo T C G n).2.2.2.2.2.2.2.2.2.2.2.2.2.2.2.1 = G := rfl
theorem setn_N (mo : MV) (T C G : Nat → Int32) (n : Int32) : (setn mo T C G n).2.2.2.2.2.2.2.2.2.2.2.2.2.2.2.2.1 = n := rfl
theorem setn_S (mo : MV) (b : bk) (T C G : Nat → Int32) (n : Int32) (h : MS mo b) : MS (setn mo T C G n) b := h
theorem core_setn (mo : MV) (T C G : Nat → Int32) (n : Int32) : core (setn mo T C G n) = core mo := rfl
def NMf (T C G : Nat → Int32) (n : Int32) (b : bk) (s : NS) : Prop := n = nI s.1 ∧ ∀ k, k < s.1 → T k = nI (c7 b (s.2 k)) ∧ C k = nI (eC b (s.2 k)) ∧ G k = nI (s.2 k).2.2.2
theorem NMf_psh {T C G : Nat → Int32} {b : bk} {s : NS} (h : NMf T C G (nI s.1) b s) (e : EN) : NMf (upd T s.1 (nI (c7 b e))) (upd C s.1 (nI (eC b e))) (upd G s.1 (nI e.2.2.2)) (nI (s.1 + 1)) b (psh s e) := by
  refine ⟨rfl, fun k hk => ?_⟩
  have hk2 : k < s.1 + 1 := hk
  by_cases g : k = s.1
  · subst g
    rw [psh_at]
    exact ⟨upd_s _ _ _, upd_s _ _ _, upd_s _ _ _⟩
  · obtain ⟨h1, h2, h3⟩ := h.2 k (by omega)
    rw [psh_lt (show k < s.1 by omega)]
    exact ⟨(upd_o g).trans h1, (upd_o g).trans h2, (upd_o g).trans h3⟩
theorem fn_L31 {N : Nat} (hN : 100 < N) {mo : MV} {b : bk} (hb : OKb b) (hs : MS mo b) {w : Nat} (hw : w < b 1) (hF : ∀ j, j < wL b w → mo.2.2.2.2.2.2.2.2.2.2.1 j = nI (bs (W0 b w) (wL b w) j).2.2) {s0 : NS} (hs0 : SV2 b s0) (hz0 : s0.1 ≤ 11 * w) {K : MV → Option MV} {P : MV → Prop} (hK : ∀ T C G n, NMf T C G n b (nW b w (nP b w none - 1) s0) → wp (K (setn mo T C G n)) P) :
    ∀ (f k : Nat) (T C G : Nat → Int32) (n : Int32), k + 1 ≤ nP b w none → nP b w none - k < f → NMf T C G n b (nW b w k s0) → wp (f_X8_findNeighbours_L31 N (nI w) (nI (wL b w)) K f (nI (pl b w k)) (setn mo T C G n)) P
  | 0, _, _, _, _, _, _, h, _ => by omega
  | f + 1, k, T, C, G, n, h1, h2, h3 => by
    have hv := hb.2.2.2.1 w hw
    have h16 := hb.1
    have h8 := hb.2.1
    have hn := nP_le hb (w := w) none
    have hW : okW (W0 b w) (wL b w) := Wf_ok hb w none
    obtain ⟨a1, a2, a3, a4, a5, a6⟩ := pr_ok hb hw (show k < nP b w none by omega)
    have eF : mo.2.2.2.2.2.2.2.2.2.2.1 (pl b w k) = nI (lk b w k) := hF _ a1
    have e1 : nI (pl b w k) + nI (lk b w k) = nI (pl b w (k + 1)) := nI_add _ _
    have epl := pl_s b w k
    rw [f_X8_findNeighbours_L31, q_ck (show pl b w k < 13 by omega) (by decide), nI_clamp (show pl b w k < 2 ^ 31 by omega), setn_F, eF, e1]
    by_cases h : k + 1 < nP b w none
    · obtain ⟨c1, c2, c3, c4, c5, c6⟩ := pr_ok hb hw h
      have eF2 : mo.2.2.2.2.2.2.2.2.2.2.1 (pl b w (k + 1)) = nI (lk b w (k + 1)) := hF _ c1
      have hsz := nW_ok hb hw hs0 k (by omega)
      obtain ⟨rfl, hE⟩ := h3
      have h3 : NMf T C G (nI (nW b w k s0).1) b (nW b w k s0) := ⟨rfl, hE⟩
      have back : ∀ T' C' G' n', NMf T' C' G' n' b (nW b w (k + 1) s0) → wp (ck (nI (pl b w k)) 13 (bd (nI (pl b w k) + (setn mo T' C' G' n').2.2.2.2.2.2.2.2.2.2.1 (pl b w k)) (fun x => f_X8_findNeighbours_L31 N (nI w) (nI (wL b w)) K f x (setn mo T' C' G' n')))) P := fun T' C' G' n' hm => by
        rw [q_ck (show pl b w k < 13 by omega) (by decide), setn_F, eF, e1, q_bd]
        exact fn_L31 hN hb hs hw hF hs0 hz0 hK f (k + 1) T' C' G' n' (by omega) (by omega) hm
      rw [if_neg (show ¬ nI (wL b w) ≤ nI (pl b w (k + 1)) from nI_ge c1 (by omega)), q_ck (show pl b w k < 13 by omega) (by decide), q_bd, q_ck (show pl b w k < 13 by omega) (by decide), q_ck (show pl b w (k + 1) < 13 by omega) (by decide), nI_clamp (show pl b w (k + 1) < 2 ^ 31 by omega), eF2, nI_add (lk b w k) (lk b w (k + 1)), q_bd]
      unfold jn
      dsimp only
      by_cases g4 : lk b w k + lk b w (k + 1) ≤ 4
      · have hcp : 1 ≤ cod 7 (fun j => wT b w (pl b w k + j)) (lk b w k + lk b w (k + 1)) := cod_pos (by omega) (fun j hj => hv.2.2.2.2 _ (by omega))
        have hcl : cod 7 (fun j => wT b w (pl b w k + j)) (lk b w k + lk b w (k + 1)) < 2401 := cod7_lt g4 (fun j hj => (hv.2.2.2.2 _ (by omega)).2)
        have ho : ∀ p, pc b w (pl b w k) (lk b w k + lk b w (k + 1)) = some p → p < 16 := fun p hp => by have := (pc_lt hp).1; omega
        rw [if_pos (show nI (lk b w k + lk b w (k + 1)) ≤ (4 : Int32) from nI_le (b := 4) g4 (by decide)), textIn_ok (by omega) (setn_S mo b T C G _ hs) (by omega) (by omega), Option.bind_some, if_neg (nI_nle hcp (by omega)), pieceIn_ok (by omega) hb (setn_S mo b T C G _ hs) hw g4 (by omega), Option.bind_some]
        by_cases e : pc b w (pl b w k) (lk b w k + lk b w (k + 1)) = none
        · have es : nW b w (k + 1) s0 = psh (nW b w k s0) (en b w k) := if_pos ⟨g4, e⟩
          have ew : ∀ T C G n, f_X8_wordPart N (setn mo T C G n) (nI w) 1 = some (nI (wC b w)) := fun T C G n => wCnt_ok (setn_S mo b T C G n hs) (by omega)
          rw [if_pos ((oI_m6 ho).mpr e), q_ck (show pl b w k < 13 by omega) (by decide), weightIn_ok (by omega) hb (setn_S mo b T C G _ hs) hw a3 a4, Option.bind_some, q_ck (show pl b w (k + 1) < 13 by omega) (by decide), weightIn_ok (by omega) hb (setn_S mo b T C G _ hs) hw c3 c4, Option.bind_some, setn_N, q_ck (show (nW b w k s0).1 < 88 by omega) (by decide)]
          refine wp_bindE (ew _ _ _ _) ?_
          have fin : ∀ v, v = (en b w k).2.2.2 → wp (ck (nI (nW b w k s0).1) 88 (ck (nI (pl b w k)) 13 (bd (nI (pl b w k) + (setn mo (upd T (nW b w k s0).1 (nI (c7 b (en b w k)))) (upd C (nW b w k s0).1 (nI (wC b w))) (upd G (nW b w k s0).1 (nI v)) (nI ((nW b w k s0).1 + 1))).2.2.2.2.2.2.2.2.2.2.1 (pl b w k)) (fun x => f_X8_findNeighbours_L31 N (nI w) (nI (wL b w)) K f x (setn mo (upd T (nW b w k s0).1 (nI (c7 b (en b w k)))) (upd C (nW b w k s0).1 (nI (wC b w))) (upd G (nW b w k s0).1 (nI v)) (nI ((nW b w k s0).1 + 1))))))) P := fun v hv2 => by
            rw [q_ck (show (nW b w k s0).1 < 88 by omega) (by decide), hv2]
            exact back _ _ _ _ (by rw [es]; exact NMf_psh h3 (en b w k))
          rw [q_ck (show (nW b w k s0).1 < 88 by omega) (by decide), nI_clamp (show (nW b w k s0).1 < 2 ^ 31 by omega), nI_1]
          have hg : ∀ v, v = (if gw b w (k + 1) < gw b w k then gw b w (k + 1) else gw b w k) → v = (en b w k).2.2.2 := fun v h => h
          by_cases q : gw b w (k + 1) ≤ gw b w k
          · rw [if_pos (show nI (W0 b w (pl b w (k + 1)) (lk b w (k + 1))) ≤ nI (W0 b w (pl b w k) (lk b w k)) from nI_le q (show gw b w k < 2 ^ 31 by omega))]
            exact fin (gw b w (k + 1)) (hg _ (by split <;> omega))
          · rw [if_neg (show ¬ nI (W0 b w (pl b w (k + 1)) (lk b w (k + 1))) ≤ nI (W0 b w (pl b w k) (lk b w k)) from nI_ge (show gw b w k < gw b w (k + 1) by omega) (show gw b w (k + 1) < 2 ^ 31 by omega))]
            exact fin (gw b w k) (hg _ (by rw [if_neg (by omega)]))
        · have es : nW b w (k + 1) s0 = nW b w k s0 := if_neg (fun q => e q.2)
          rw [if_neg (fun q => e ((oI_m6 ho).mp q))]
          exact back T C G _ (by rw [es]; exact h3)
      · have es : nW b w (k + 1) s0 = nW b w k s0 := if_neg (fun q => g4 q.1)
        rw [if_neg (show ¬ nI (lk b w k + lk b w (k + 1)) ≤ (4 : Int32) from nI_ge (a := 4) (by omega) (by omega)), if_pos (show (0 : Int32) ≤ 0 by decide)]
        exact back T C G _ (by rw [es]; exact h3)
    · have e : k = nP b w none - 1 := by omega
      have e2 : pl b w (k + 1) = wL b w := by
        rw [show k + 1 = nP b w none by omega]
        exact ps_end hW
      rw [e2, if_pos (show nI (wL b w) ≤ nI (wL b w) from nI_le (Nat.le_refl _) (by omega))]
      exact hK T C G n (by rw [← e]; exact h3)
theorem fn_L7 {N : Nat} (hN : 100 < N) {mo0 : MV} {b : bk} (hb : OKb b) {K : MV → Option MV} {P : MV → Prop} (hK : ∀ mo, MS mo b → core mo = core mo0 → NMf mo.2.2.2.2.2.2.2.2.2.2.2.2.2.1 mo.2.2.2.2.2.2.2.2.2.2.2.2.2.2.1 mo.2.2.2.2.2.2.2.2.2.2.2.2.2.2.2.1 mo.2.2.2.2.2.2.2.2.2.2.2.2.2.2.2.2.1 b (nA b (b 1)) → wp (K mo) P) :
    ∀ (f w : Nat) (mo : MV), w ≤ b 1 → b 1 - w < f → MS mo b → core mo = core mo0 → NMf mo.2.2.2.2.2.2.2.2.2.2.2.2.2.1 mo.2.2.2.2.2.2.2.2.2.2.2.2.2.2.1 mo.2.2.2.2.2.2.2.2.2.2.2.2.2.2.2.1 mo.2.2.2.2.2.2.2.2.2.2.2.2.2.2.2.2.1 b (nA b w) → wp (f_X8_findNeighbours_L7 N K f (nI w) mo) P
  | 0, _, _, _, h, _, _, _ => by omega
  | f + 1, w, mo, h1, h2, hs, hco, h3 => by
    have h8 := hb.2.1
    rw [f_X8_findNeighbours_L7, q_ck1 (by decide) (by decide), show ((1 : Int32).toNatClampNeg) = 1 from rfl, hs 1 (by decide)]
    by_cases h : w < b 1
    · have hn := nP_le hb (w := w) none
      have hv := hb.2.2.2.1 w h
      obtain ⟨g1, g2⟩ := nA_ok hb w (by omega)
      rw [if_neg (show ¬ nI (b 1) ≤ nI w from nI_ge h (by omega)), nI_1]
      refine wp_bind (wp_mono (cut_ok (by omega) hb hs h) (fun r hr => ?_))
      obtain ⟨Pr, C, F, rfl, hA⟩ := hr
      rw [wLen_ok (setc_S mo b Pr C F hs) (by omega), Option.bind_some]
      have hF : ∀ j, j < wL b w → (setc mo Pr C F).2.2.2.2.2.2.2.2.2.2.1 j = nI (bs (W0 b w) (wL b w) j).2.2 := fun j hj => (hA j (Nat.zero_le _) (by omega)).2.2 hj
      exact fn_L31 (mo := setc mo Pr C F) hN hb (setc_S mo b Pr C F hs) h hF g1 g2 (fun T2 C2 G2 n2 hm => fn_L7 hN hb hK f (w + 1) (setn (setc mo Pr C F) T2 C2 G2 n2) (by omega) (by omega) hs hco hm) N 0 mo.2.2.2.2.2.2.2.2.2.2.2.2.2.1 mo.2.2.2.2.2.2.2.2.2.2.2.2.2.2.1 mo.2.2.2.2.2.2.2.2.2.2.2.2.2.2.2.1 mo.2.2.2.2.2.2.2.2.2.2.2.2.2.2.2.2.1 (nP_1 hb h) (by omega) h3
    · have e : w = b 1 := by omega
      subst e
      rw [if_pos (show nI (b 1) ≤ nI (b 1) from nI_le (Nat.le_refl _) (by omega))]
      exact hK mo hs hco h3
theorem fN_ok {N : Nat} (hN : 100 < N) {mo : MV} {b : bk} (hb : OKb b) (hs : MS mo b) : wp (f_X8_findNeighbours N mo) (fun r => MS r b ∧ core r = core mo ∧ NMf r.2.2.2.2.2.2.2.2.2.2.2.2.2.1 r.2.2.2.2.2.2.2.2.2.2.2.2.2.2.1 r.2.2.2.2.2.2.2.2.2.2.2.2.2.2.2.1 r.2.2.2.2.2.2.2.2.2.2.2.2.2.2.2.2.1 b (nA b (b 1))) := by
  have h8 := hb.2.1
  unfold f_X8_findNeighbours
  exact fn_L7 (mo0 := mo) hN hb (fun mo2 a1 a2 a3 => wp_some ⟨a1, a2, a3⟩) N 0 (setn mo mo.2.2.2.2.2.2.2.2.2.2.2.2.2.1 mo.2.2.2.2.2.2.2.2.2.2.2.2.2.2.1 mo.2.2.2.2.2.2.2.2.2.2.2.2.2.2.2.1 0) (Nat.zero_le _) (by omega) hs rfl ⟨rfl, fun k hk => absurd hk (Nat.not_lt_zero k)⟩
theorem stands_L {N : Nat} {mo : MV} {b : bk} (hb : OKb b) {s : NS} (hv : SV2 b s) (h88 : s.1 ≤ 88) (hm : NMf mo.2.2.2.2.2.2.2.2.2.2.2.2.2.1 mo.2.2.2.2.2.2.2.2.2.2.2.2.2.2.1 mo.2.2.2.2.2.2.2.2.2.2.2.2.2.2.2.1 mo.2.2.2.2.2.2.2.2.2.2.2.2.2.2.2.2.1 b s) {x : Nat} (hx : x < 2 ^ 31) {K : Int32 → Option Int32} : ∀ (f k : Nat), k ≤ s.1 → s.1 - k < f → f_X8_standsSo_L4 N mo (nI x) K f (nI (tot b s.2 x k)) (nI k) = K (nI (tot b s.2 x s.1))
  | 0, _, _, h => by omega
  | f + 1, k, h1, h2 => by
    rw [f_X8_standsSo_L4, hm.1]
    by_cases h : k < s.1
    · obtain ⟨e1, e2, -⟩ := hm.2 k h
      have g1 := c7_lt hb (hv k h)
      have es : tot b s.2 x (k + 1) = tot b s.2 x k + (if c7 b (s.2 k) = x then eC b (s.2 k) else 0) := rfl
      have ih := stands_L (N := N) hb hv h88 hm hx (K := K) f (k + 1) (by omega) (by omega)
      rw [if_neg (show ¬ nI s.1 ≤ nI k from nI_ge h (by omega)), q_ck (show k < 88 by omega) (by decide), nI_clamp (show k < 2 ^ 31 by omega), e1, nI_1]
      by_cases g : c7 b (s.2 k) = x
      · rw [es, if_pos g] at ih
        rw [if_pos (congrArg nI g), q_ck (show k < 88 by omega) (by decide), q_bd, e2, nI_add]
        exact ih
      · rw [es, if_neg g] at ih
        rw [if_neg (fun q => g ((nI_eq (by omega) hx).1 q)), show (0 : Int32) = nI 0 from rfl, nI_add]
        exact ih
    · have e : k = s.1 := by omega
      subst e
      rw [if_pos (show nI s.1 ≤ nI s.1 from nI_le (Nat.le_refl _) (by omega))]
theorem stands_ok {N : Nat} (hN : 100 < N) {mo : MV} {b : bk} (hb : OKb b) {s : NS} (hv : SV2 b s) (h88 : s.1 ≤ 88) (hm : NMf mo.2.2.2.2.2.2.2.2.2.2.2.2.2.1 mo.2.2.2.2.2.2.2.2.2.2.2.2.2.2.1 mo.2.2.2.2.2.2.2.2.2.2.2.2.2.2.2.1 mo.2.2.2.2.2.2.2.2.2.2.2.2.2.2.2.2.1 b s) {x : Nat} (hx : x < 2 ^ 31) : f_X8_standsSo N mo (nI x) = some (nI (tot b s.2 x s.1)) := by
  unfold f_X8_standsSo
  exact stands_L hb hv h88 hm hx N 0 (Nat.zero_le _) (by omega)
def moO (T : Nat → Nat) (o : Option Nat) : Int32 := match o with
  | none => 0
  | some x => nI (T x)
theorem growsAt_L {N : Nat} (hN : 100 < N) {mo : MV} {b : bk} (hb : OKb b) {s : NS} (hv : SV2 b s) (h88 : s.1 ≤ 88) (hm : NMf mo.2.2.2.2.2.2.2.2.2.2.2.2.2.1 mo.2.2.2.2.2.2.2.2.2.2.2.2.2.2.1 mo.2.2.2.2.2.2.2.2.2.2.2.2.2.2.2.1 mo.2.2.2.2.2.2.2.2.2.2.2.2.2.2.2.2.1 b s) {O X : Nat → Nat} (hO : ∀ k, O k = tot b s.2 (c7 b (s.2 k)) s.1) (hX : ∀ k, X k = c7 b (s.2 k)) {K : Int32 → Option (Int32 × MV)} {P : Int32 × MV → Prop} (hK : wp (K (oI (-6) (mf O X s.1))) P) : ∀ (f k : Nat), k ≤ s.1 → s.1 - k < f → wp (f_X8_growsAt_L11 N mo K f (oI (-6) (mf O X k)) (moO O (mf O X k)) (nI k)) P
  | 0, _, _, h => by omega
  | f + 1, k, h1, h2 => by
    rw [f_X8_growsAt_L11, hm.1]
    by_cases h : k < s.1
    · obtain ⟨e1, -, -⟩ := hm.2 k h
      have g1 := c7_lt hb (hv k h)
      have ih := growsAt_L hN hb hv h88 hm hO hX hK f (k + 1) (by omega) (by omega)
      have hp : 1 ≤ O k := by rw [hO]; exact tot_pos hb s.1 k h hv rfl
      have hl : ∀ j, O j ≤ 8712 := fun j => by
        have := tot_le hb (x := c7 b (s.2 j)) s.1 hv
        rw [hO]
        omega
      have hlk := hl k
      rw [if_neg (show ¬ nI s.1 ≤ nI k from nI_ge h (by omega)), q_ck (show k < 88 by omega) (by decide), nI_clamp (show k < 2 ^ 31 by omega), e1, stands_ok hN hb hv h88 hm (by omega), Option.bind_some, ← hO k, nI_1]
      unfold jn
      dsimp only
      have take : mf O X (k + 1) = some k → wp (if (1 : Int32) = 0 then f_X8_growsAt_L11 N mo K f (oI (-6) (mf O X k)) (moO O (mf O X k)) (nI (k + 1)) else f_X8_growsAt_L11 N mo K f (nI k) (nI (O k)) (nI (k + 1))) P := fun e => by
        rw [if_neg (show ¬ (1 : Int32) = 0 by decide)]
        rw [e] at ih
        exact ih
      cases e : mf O X k with
      | none =>
        have e2 := mf_z e
        rw [e2] at ih
        rw [if_pos (show moO O none < nI (O k) from nI_lt (a := 0) (by omega) (by omega)), if_neg (show ¬ (1 : Int32) = 0 by decide), if_neg (show ¬ (1 : Int32) = 0 by decide)]
        exact ih
      | some x =>
        have hx := (mf_best k x e).1
        have e2 := mf_s e
        have hlx := hl x
        have g2 := c7_lt hb (hv x (by omega))
        rw [e2] at ih
        show wp (if nI (O x) < nI (O k) then _ else if nI (O k) = nI (O x) then ck (nI k) 88 (ck (nI x) 88 (if mo.2.2.2.2.2.2.2.2.2.2.2.2.2.1 (nI x).toNatClampNeg ≤ _ then _ else _)) else _) P
        by_cases q1 : O x < O k
        · rw [if_pos (show bt O X k x from Or.inl q1)] at ih
          rw [if_pos (nI_lt q1 (by omega)), if_neg (show ¬ (1 : Int32) = 0 by decide), if_neg (show ¬ (1 : Int32) = 0 by decide)]
          exact ih
        · rw [if_neg (nI_nlt (by omega) (by omega))]
          by_cases q2 : O k = O x
          · rw [if_pos (congrArg nI q2), q_ck (show k < 88 by omega) (by decide), q_ck (show x < 88 by omega) (by decide), nI_clamp (show x < 2 ^ 31 by omega), (hm.2 x (by omega)).1]
            by_cases q3 : X k < X x
            · rw [if_pos (show bt O X k x from Or.inr ⟨q2, q3⟩)] at ih
              rw [hX, hX] at q3
              rw [if_neg (nI_ge q3 (by omega)), if_neg (show ¬ (1 : Int32) = 0 by decide), if_neg (show ¬ (1 : Int32) = 0 by decide)]
              exact ih
            · rw [if_neg (show ¬ bt O X k x by unfold bt; omega)] at ih
              rw [hX, hX] at q3
              rw [if_pos (nI_le (by omega) (by omega)), if_pos (show (0 : Int32) = 0 from rfl), if_pos (show (0 : Int32) = 0 from rfl)]
              exact ih
          · rw [if_neg (show ¬ bt O X k x by unfold bt; omega)] at ih
            rw [if_neg (fun q => q2 ((nI_eq (by omega) (by omega)).1 q)), if_pos (show (0 : Int32) = 0 from rfl), if_pos (show (0 : Int32) = 0 from rfl)]
            exact ih
    · have e : k = s.1 := by omega
      subst e
      rw [if_pos (show nI s.1 ≤ nI s.1 from nI_le (Nat.le_refl _) (by omega))]
      exact hK
theorem gA_ok {N : Nat} (hN : 100 < N) {mo : MV} {b : bk} (hb : OKb b) (hs : MS mo b) : wp (f_X8_growsAt N mo) (fun r => r.1 = oI (-6) (mf (tO b) (x7 b) (nA b (b 1)).1) ∧ MS r.2 b ∧ core r.2 = core mo ∧ NMf r.2.2.2.2.2.2.2.2.2.2.2.2.2.2.1 r.2.2.2.2.2.2.2.2.2.2.2.2.2.2.2.1 r.2.2.2.2.2.2.2.2.2.2.2.2.2.2.2.2.1 r.2.2.2.2.2.2.2.2.2.2.2.2.2.2.2.2.2.1 b (nA b (b 1))) := by
  have h8 := hb.2.1
  obtain ⟨g1, g2⟩ := nA_ok hb (b 1) (Nat.le_refl _)
  unfold f_X8_growsAt
  refine wp_bind (wp_mono (fN_ok hN hb hs) (fun r hr => ?_))
  exact growsAt_L hN hb g1 (by omega) hr.2.2 (O := tO b) (X := x7 b) (fun k => rfl) (fun k => rfl) (wp_some ⟨rfl, hr.1, hr.2.1, hr.2.2⟩) N 0 (Nat.zero_le _) (by omega)
/-- both find the same place -/
theorem same_gr {nb : NV} {b : bk} (hb : OKb b) {z : Nat} {fi : Nat → Nat} (h : NC nb b (nA b (b 1)) z fi) : mf (tO b) (x7 b) (nA b (b 1)).1 = (mf (fun i => tO b (fi i)) (fun i => x8 b (fi i)) z).map fi := by
  obtain ⟨g1, g2⟩ := nA_ok hb (b 1) (Nat.le_refl _)
  obtain ⟨h1, -, h3, h4, h5⟩ := h
  cases z with
  | zero =>
    have e : (nA b (b 1)).1 = 0 := by
      rcases Nat.eq_zero_or_pos (nA b (b 1)).1 with q | q
      · exact q
      · obtain ⟨i, hi, -⟩ := h5 0 q
        omega
    rw [e]
    rfl
  | succ z =>
    obtain ⟨i, hi⟩ := mf_some (T := fun i => tO b (fi i)) (X := fun i => x8 b (fi i)) z
    have h0 := (h3 0 (by omega)).1
    obtain ⟨m, hm⟩ : ∃ m, (nA b (b 1)).1 = m + 1 := ⟨(nA b (b 1)).1 - 1, by omega⟩
    obtain ⟨y, hy⟩ := mf_some (T := tO b) (X := x7 b) m
    rw [hi, hm, hy]
    obtain ⟨i1, i2⟩ := mf_best _ i hi
    obtain ⟨y1, y2⟩ := mf_best _ y hy
    have hfi := (h3 i i1).1
    have key : ∀ k, k < (nA b (b 1)).1 → ¬ bt (tO b) (x7 b) k (fi i) ∧ (k < fi i → bt (tO b) (x7 b) (fi i) k) := fun k hk => by
      obtain ⟨j, j1, j2, j3⟩ := h5 k hk
      have hfj := (h3 j j1).1
      have ex : x7 b k = x7 b (fi j) := j3.symm
      have et : tO b k = tO b (fi j) := by
        show tot b _ (x7 b k) _ = tot b _ (x7 b (fi j)) _
        rw [ex]
      have q1 := (i2 j j1).1
      have o1 : x8 b (fi j) < x8 b (fi i) ↔ x7 b (fi j) < x7 b (fi i) := c_lt hb (g1 _ hfj) (g1 _ hfi)
      have q2 : ¬ bt (tO b) (x7 b) k (fi i) := fun q => q1 (by
        rcases q with q | ⟨q, q3⟩
        · exact Or.inl (by rw [et] at q; exact q)
        · exact Or.inr ⟨et.symm.trans q, o1.2 (by rw [ex] at q3; exact q3)⟩)
      refine ⟨q2, fun hlt => ?_⟩
      have hne : x7 b k ≠ x7 b (fi i) := fun q => by
        have := h4 j i j1 i1 (j3.trans q)
        subst this
        omega
      unfold bt at q2 ⊢
      omega
    have e : y = fi i := by
      rcases Nat.lt_trichotomy y (fi i) with q | q | q
      · exact absurd ((key y (by omega)).2 q) (y2 (fi i) (by omega)).1
      · exact q
      · exact absurd ((y2 (fi i) (by omega)).2 q) (key y (by omega)).1
    rw [e]
    rfl
