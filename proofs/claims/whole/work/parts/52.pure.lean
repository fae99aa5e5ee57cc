/-! the reference: texts, pieces, weights -/
def MS (mo : MV) (b : bk) : Prop := ∀ k, k < 210 → mo.1 k = nI (b k)
theorem within_ok {N a lo hi : Nat} (ha : a < 2 ^ 31) (hlo : lo < 2 ^ 31) (hhi : hi < 2 ^ 31) : f_X8_within N (nI a) (nI lo) (nI hi) = some (nI (if lo ≤ a ∧ a ≤ hi then 1 else 0)) := by
  unfold f_X8_within
  by_cases h1 : lo ≤ a
  · rw [if_neg (show ¬ nI a < nI lo from nI_nlt h1 ha)]
    by_cases h2 : a ≤ hi
    · rw [if_neg (show ¬ nI hi < nI a from nI_nlt h2 hhi), if_pos ⟨h1, h2⟩]; rfl
    · rw [if_pos (show nI hi < nI a from nI_lt (by omega) ha), if_neg (fun e => h2 e.2)]; rfl
  · rw [if_pos (show nI a < nI lo from nI_lt (by omega) hlo), if_neg (fun e => h1 e.1)]; rfl
theorem piecePart_ok {N : Nat} {mo : MV} {b : bk} (hs : MS mo b) {p k : Nat} (h : 2 + 6 * p + k < 210) : f_X8_piecePart N mo (nI p) (nI k) = some (nI (b (2 + 6 * p + k))) := by
  unfold f_X8_piecePart
  rw [show (6 : Int32) = nI 6 from rfl, pk_mul, show (2 : Int32) = nI 2 from rfl, nI_add, nI_add, q_ck h (by decide), nI_clamp (by omega), hs _ h]
theorem wordPart_ok {N : Nat} {mo : MV} {b : bk} (hs : MS mo b) {w k : Nat} (h : 98 + 14 * w + k < 210) : f_X8_wordPart N mo (nI w) (nI k) = some (nI (b (98 + 14 * w + k))) := by
  unfold f_X8_wordPart
  rw [show (14 : Int32) = nI 14 from rfl, pk_mul, show (98 : Int32) = nI 98 from rfl, nI_add, nI_add, q_ck h (by decide), nI_clamp (by omega), hs _ h]
theorem pLen_ok {N : Nat} {mo : MV} {b : bk} (hs : MS mo b) {p : Nat} (h : p < 16) : f_X8_piecePart N mo (nI p) 0 = some (nI (pL b p)) := piecePart_ok hs (k := 0) (by omega)
theorem pWt_ok {N : Nat} {mo : MV} {b : bk} (hs : MS mo b) {p : Nat} (h : p < 16) : f_X8_piecePart N mo (nI p) 1 = some (nI (pW b p)) := by
  have := piecePart_ok (N := N) hs (p := p) (k := 1) (by omega)
  rw [show 2 + 6 * p + 1 = 3 + 6 * p by omega] at this
  exact this
theorem wLen_ok {N : Nat} {mo : MV} {b : bk} (hs : MS mo b) {w : Nat} (h : w < 8) : f_X8_wordPart N mo (nI w) 0 = some (nI (wL b w)) := wordPart_ok hs (k := 0) (by omega)
theorem wCnt_ok {N : Nat} {mo : MV} {b : bk} (hs : MS mo b) {w : Nat} (h : w < 8) : f_X8_wordPart N mo (nI w) 1 = some (nI (wC b w)) := by
  have := wordPart_ok (N := N) hs (w := w) (k := 1) (by omega)
  rw [show 98 + 14 * w + 1 = 99 + 14 * w by omega] at this
  exact this
theorem wLet_ok {N : Nat} {mo : MV} {b : bk} (hs : MS mo b) {w i k : Nat} (h : w < 8) (hk : i + k < 12) : f_X8_wordPart N mo (nI w) ((2 + nI i) + nI k) = some (nI (wT b w (i + k))) := by
  have := wordPart_ok (N := N) hs (w := w) (k := 2 + i + k) (by omega)
  rw [show (2 : Int32) = nI 2 from rfl, nI_add, nI_add, this]
  unfold wT
  rw [show 98 + 14 * w + (2 + i + k) = 100 + 14 * w + (i + k) by omega]
theorem pLet_ok {N : Nat} {mo : MV} {b : bk} (hs : MS mo b) {p k : Nat} (h : p < 16) (hk : k < 4) : f_X8_piecePart N mo (nI p) (2 + nI k) = some (nI (pT b p k)) := by
  have := piecePart_ok (N := N) hs (p := p) (k := 2 + k) (by omega)
  rw [show (2 : Int32) = nI 2 from rfl, nI_add, this]
  unfold pT
  rw [show 2 + 6 * p + (2 + k) = 4 + 6 * p + k by omega]
theorem textOf_L {N : Nat} {mo : MV} {b : bk} (hb : OKb b) (hs : MS mo b) {p : Nat} (hp : p < b 0) {K : Int32 → Option Int32} {o : Option Int32} (hK : K (nI (cod 7 (pT b p) (pL b p))) = o) :
    ∀ (f k : Nat), k ≤ pL b p → pL b p - k < f → f_X8_textOf_L4 N mo (nI p) K f (nI (cod 7 (pT b p) k)) (nI k) = o
  | 0, _, h1, h2 => by omega
  | f + 1, k, h1, h2 => by
    have h16 := hb.1
    have hv := hb.2.2.1 p hp
    rw [f_X8_textOf_L4, pLen_ok hs (by omega), Option.bind_some]
    by_cases h : k < pL b p
    · rw [if_neg (show ¬ nI (pL b p) ≤ nI k from nI_ge h (by omega)), pLet_ok hs (by omega) (by omega), Option.bind_some, q_bd, show (7 : Int32) = nI 7 from rfl, pk_mul, nI_add, nI_1]
      exact textOf_L hb hs hp hK f (k + 1) (by omega) (by omega)
    · have e : k = pL b p := by omega
      rw [if_pos (show nI (pL b p) ≤ nI k from nI_le (by omega) (by omega)), e]
      exact hK
theorem textOf_ok {N : Nat} (hN : 16 < N) {mo : MV} {b : bk} (hb : OKb b) (hs : MS mo b) {p : Nat} (hp : p < b 0) : f_X8_textOf N mo (nI p) = some (nI (cod 7 (pT b p) (pL b p))) := by
  have hv := hb.2.2.1 p hp
  unfold f_X8_textOf
  exact textOf_L hb hs hp rfl N 0 (Nat.zero_le _) (by omega)
theorem textIn_L {N : Nat} {mo : MV} {b : bk} (hs : MS mo b) {w i L : Nat} (hw : w < 8) (hi : i + L ≤ 12) {K : Int32 → Option Int32} {o : Option Int32} (hK : K (nI (cod 7 (fun k => wT b w (i + k)) L)) = o) :
    ∀ (f k : Nat), k ≤ L → L - k < f → f_X8_textIn_L6 N mo (nI w) (nI i) (nI L) K f (nI (cod 7 (fun k => wT b w (i + k)) k)) (nI k) = o
  | 0, _, h1, h2 => by omega
  | f + 1, k, h1, h2 => by
    rw [f_X8_textIn_L6]
    by_cases h : k < L
    · rw [if_neg (show ¬ nI L ≤ nI k from nI_ge h (by omega)), wLet_ok hs hw (by omega), Option.bind_some, q_bd, show (7 : Int32) = nI 7 from rfl, pk_mul, nI_add, nI_1]
      exact textIn_L hs hw hi hK f (k + 1) (by omega) (by omega)
    · have e : k = L := by omega
      rw [if_pos (show nI L ≤ nI k from nI_le (by omega) (by omega)), e]
      exact hK
theorem textIn_ok {N : Nat} (hN : 16 < N) {mo : MV} {b : bk} (hs : MS mo b) {w i L : Nat} (hw : w < 8) (hi : i + L ≤ 12) : f_X8_textIn N mo (nI w) (nI i) (nI L) = some (nI (cod 7 (fun k => wT b w (i + k)) L)) := by
  unfold f_X8_textIn
  exact textIn_L hs hw hi rfl N 0 (Nat.zero_le _) (by omega)
/-- the last of the first c numbers with P -/
def fl (P : Nat → Prop) [DecidablePred P] : Nat → Option Nat
  | 0 => none
  | c + 1 => if P c then some c else fl P c
theorem fl_ff {P : Nat → Prop} [DecidablePred P] {c : Nat} (hu : ∀ p q, p < c → q < c → P p → P q → p = q) : fl P c = ff P c 0 := by
  have h1 : ∀ c, (∀ p, fl P c = some p → p < c ∧ P p) ∧ (fl P c = none → ∀ p, p < c → ¬ P p) := by
    intro c
    induction c with
    | zero => exact ⟨fun p h => (by cases h), fun _ p h => (by omega)⟩
    | succ c ih =>
      refine ⟨fun p h => ?_, fun h p hp => ?_⟩
      · unfold fl at h
        by_cases hc : P c
        · rw [if_pos hc] at h; cases h; exact ⟨by omega, hc⟩
        · rw [if_neg hc] at h
          exact ⟨by have := (ih.1 p h).1; omega, (ih.1 p h).2⟩
      · unfold fl at h
        by_cases hc : P c
        · rw [if_pos hc] at h; cases h
        · rw [if_neg hc] at h
          by_cases e : p = c
          · rw [e]; exact hc
          · exact ih.2 h p (by omega)
  cases e : fl P c with
  | none => exact (ff_no (fun q _ hq => (h1 c).2 e q (by omega))).symm
  | some p =>
    obtain ⟨g1, g2⟩ := (h1 c).1 p e
    exact (ff_of (Nat.zero_le _) (by omega) g2 (fun q _ hq hP => by have := hu q p (by omega) g1 hP g2; omega)).symm
theorem pieceOf_L {N : Nat} (hN : 16 < N) {mo : MV} {b : bk} (hb : OKb b) (hs : MS mo b) {x : Int32} {K : Int32 → Option Int32} {o : Option Int32} (hK : K (oI (-6) (fl (fun p => nI (cod 7 (pT b p) (pL b p)) = x) (b 0))) = o) :
    ∀ (f i : Nat), i ≤ b 0 → b 0 - i < f → f_X8_pieceOf_L5 N mo x K f (oI (-6) (fl (fun p => nI (cod 7 (pT b p) (pL b p)) = x) i)) (nI i) = o
  | 0, _, h1, h2 => by omega
  | f + 1, i, h1, h2 => by
    have h16 := hb.1
    rw [f_X8_pieceOf_L5, q_ck0 (by decide) (by decide), show ((0 : Int32).toNatClampNeg) = 0 from rfl, hs 0 (by decide)]
    by_cases h : i < b 0
    · rw [if_neg (show ¬ nI (b 0) ≤ nI i from nI_ge h (by omega)), textOf_ok hN hb hs h, Option.bind_some, nI_1]
      by_cases hx : nI (cod 7 (pT b i) (pL b i)) = x
      · rw [if_pos hx]
        have := pieceOf_L hN hb hs (x := x) hK f (i + 1) (by omega) (by omega)
        rw [fl, if_pos hx] at this
        exact this
      · rw [if_neg hx]
        have := pieceOf_L hN hb hs (x := x) hK f (i + 1) (by omega) (by omega)
        rw [fl, if_neg hx] at this
        exact this
    · have e : i = b 0 := by omega
      rw [if_pos (show nI (b 0) ≤ nI i from nI_le (by omega) (by omega)), e]
      exact hK
theorem pieceOf_seg {N : Nat} (hN : 16 < N) {mo : MV} {b : bk} (hb : OKb b) (hs : MS mo b) {a : Nat → Nat} {L : Nat} (hL : L ≤ 4) (ha : ∀ k, k < L → 1 ≤ a k ∧ a k ≤ 6) : f_X8_pieceOf N mo (nI (cod 7 a L)) = some (oI (-6) (ff (fun p => pL b p = L ∧ ∀ k, k < L → pT b p k = a k) (b 0) 0)) := by
  have h16 := hb.1
  have hiff : ∀ p, p < b 0 → (nI (cod 7 (pT b p) (pL b p)) = nI (cod 7 a L) ↔ pL b p = L ∧ ∀ k, k < L → pT b p k = a k) := by
    intro p hp
    have hv := hb.2.2.1 p hp
    have h1 := cod7_lt hv.2.1 (fun k hk => (hv.2.2.2.2 k hk).2)
    have h2 := cod7_lt hL (fun k hk => (ha k hk).2)
    rw [nI_eq (by omega) (by omega)]
    constructor
    · intro h
      obtain ⟨e, g⟩ := cod_inj (by omega) hv.2.2.2.2 ha h
      exact ⟨e, fun k hk => g k (by omega)⟩
    · rintro ⟨e, g⟩
      rw [e]
      exact cod_congr L g
  have e : fl (fun p => nI (cod 7 (pT b p) (pL b p)) = nI (cod 7 a L)) (b 0) = ff (fun p => pL b p = L ∧ ∀ k, k < L → pT b p k = a k) (b 0) 0 := by
    rw [fl_ff]
    · exact ff_congr (fun p _ hp => hiff p (by omega))
    · intro p q hp hq h1 h2
      have g1 := (hiff p hp).mp h1
      have g2 := (hiff q hq).mp h2
      exact hb.2.2.2.2 p q hp hq (by rw [g1.1, g2.1]) (fun k hk => by rw [g1.2 k (by omega), g2.2 k (by omega)])
  unfold f_X8_pieceOf
  have := pieceOf_L (N := N) hN hb hs (x := nI (cod 7 a L)) (K := fun x2_5 => some x2_5) rfl N 0 (Nat.zero_le _) (by omega)
  rw [e] at this
  exact this
theorem pieceIn_ok {N : Nat} (hN : 16 < N) {mo : MV} {b : bk} (hb : OKb b) (hs : MS mo b) {w i L : Nat} (hw : w < b 1) (hL : L ≤ 4) (hi : i + L ≤ wL b w) : f_X8_pieceOf N mo (nI (cod 7 (fun k => wT b w (i + k)) L)) = some (oI (-6) (pc b w i L)) := by
  have hv := hb.2.2.2.1 w hw
  exact pieceOf_seg hN hb hs hL (fun k hk => hv.2.2.2.2 (i + k) (by omega))
theorem oI_m6 {o : Option Nat} (ho : ∀ p, o = some p → p < 16) : (oI (-6) o = -6) = (o = none) := by
  cases o with
  | none => exact propext ⟨fun _ => rfl, fun _ => rfl⟩
  | some p =>
    have := ho p rfl
    show (nI p = -6) = _
    rw [q_nem6 (by omega)]
    exact propext ⟨fun h => absurd h id, fun h => by cases h⟩
theorem weightIn_ok {N : Nat} (hN : 16 < N) {mo : MV} {b : bk} (hb : OKb b) (hs : MS mo b) {w i L : Nat} (hw : w < b 1) (hL : L ≤ 4) (hi : i + L ≤ wL b w) : f_X8_weightIn N mo (nI w) (nI i) (nI L) = some (nI (W0 b w i L)) := by
  have hv := hb.2.2.2.1 w hw
  have h8 := hb.2.1
  have h16 := hb.1
  have ho : ∀ p, pc b w i L = some p → p < 16 := fun p hp => by have := (pc_lt hp).1; omega
  unfold f_X8_weightIn
  rw [textIn_ok hN hs (by omega) (by omega), Option.bind_some, pieceIn_ok hN hb hs hw hL hi, Option.bind_some]
  by_cases e0 : pc b w i L = none
  · rw [if_pos ((oI_m6 ho).mpr e0)]
    have e1 : W0 b w i L = if L = 1 then 1 else 0 := by
      show wgt b (drp none (pc b w i L)) L = _
      rw [e0]
      rfl
    rw [e1]
    by_cases g : L = 1
    · rw [if_pos g, g]; rfl
    · rw [if_neg g, if_neg (show ¬ nI L = (1 : Int32) from fun e => g ((nI_eq (by omega) (by omega)).mp (show nI L = nI 1 from e)))]
      rfl
  · obtain ⟨p, e1⟩ := Option.ne_none_iff_exists'.mp e0
    rw [if_neg (fun e => e0 ((oI_m6 ho).mp e)), e1]
    have hp := (pc_lt e1).1
    show (f_X8_piecePart N mo (nI p) 1).bind _ = _
    rw [pWt_ok hs (by omega), Option.bind_some]
    have e2 : W0 b w i L = pW b p := by
      show wgt b (drp none (pc b w i L)) L = _
      rw [e1]
      rfl
    rw [e2]
theorem longest_ok {N : Nat} {mo : MV} {b : bk} (hb : OKb b) (hs : MS mo b) {w i : Nat} (hw : w < b 1) (hi : i ≤ wL b w) : f_X8_longestAt N mo (nI w) (nI i) = some (nI (ml (wL b w) i)) := by
  have hv := hb.2.2.2.1 w hw
  have h8 := hb.2.1
  unfold f_X8_longestAt ml
  rw [wLen_ok hs (by omega), Option.bind_some, pk_sub hi]
  by_cases g : wL b w - i < 4
  · rw [if_pos g, if_neg (show ¬ (4 : Int32) ≤ nI (wL b w - i) from fun e => by have := (nI_leI (a := 4) (b := wL b w - i) (by decide) (by omega)).mp e; omega)]
  · rw [if_neg g, if_pos (show (4 : Int32) ≤ nI (wL b w - i) from nI_le (a := 4) (by omega) (by omega))]
    rfl
