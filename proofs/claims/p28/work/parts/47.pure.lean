/-! relations: the class's Contents and the reference's row against the book b -/
def CR (c : CV) (b : bk) : Prop := c.1 = nI (b 0) ∧ c.2.2.2.2.1 = nI (b 1) ∧ (∀ p, p < b 0 → c.2.1 p = nI (cod 8 (pT b p) (pL b p)) ∧ c.2.2.1 p = nI (pL b p) ∧ c.2.2.2.1 p = nI (pW b p)) ∧
  ∀ w, w < b 1 → c.2.2.2.2.2.1 w = nI (wL b w) ∧ c.2.2.2.2.2.2.1 w = nI (wC b w) ∧ ∀ k, k < wL b w → c.2.2.2.2.2.2.2 (w * 12 + k) = nI (wT b w k - 1)
def MR (s : Nat → Int32) (off : Nat) (b : bk) : Prop := ∀ k, k < 210 → s (off + k) = nI (b k)
/-- the texts of the class are small numbers -/
theorem cod8_lt {a : Nat → Nat} {n : Nat} (h : n ≤ 4) (ha : ∀ k, k < n → a k ≤ 6) : cod 8 a n < 4096 := by
  have h1 := cod_lt (B := 8) (by omega) n ha
  have h2 : 8 ^ n ≤ 8 ^ 4 := Nat.pow_le_pow_right (by omega) h
  omega
theorem cod7_lt {a : Nat → Nat} {n : Nat} (h : n ≤ 4) (ha : ∀ k, k < n → a k ≤ 6) : cod 7 a n < 2401 := by
  have h1 := cod_lt (B := 7) (by omega) n ha
  have h2 : 7 ^ n ≤ 7 ^ 4 := Nat.pow_le_pow_right (by omega) h
  omega
/-- three bits more: shift and or -/
theorem q_sh3 {c a : Nat} (hc : c < 4096) (ha : a < 8) : (nI c <<< ((3 : Int32) &&& 31)) ||| nI a = nI (8 * c + a) := by
  rw [pk_shlN ((3 : Int32) &&& 31) 3 (by decide) (by omega)]
  have e : c * 2 ^ 3 ||| a = 8 * c + a := by
    have h := Nat.two_pow_add_eq_or_of_lt (i := 3) (show a < 2 ^ 3 by omega) c
    rw [Nat.mul_comm c (2 ^ 3), ← h]
  apply Int32.toBitVec_inj.mp
  show (BitVec.ofNat 32 (c * 2 ^ 3)) ||| (BitVec.ofNat 32 a) = BitVec.ofNat 32 (8 * c + a)
  rw [← e]
  apply BitVec.eq_of_toNat_eq
  rw [BitVec.toNat_or, BitVec.toNat_ofNat, BitVec.toNat_ofNat, BitVec.toNat_ofNat, Nat.mod_eq_of_lt (by omega), Nat.mod_eq_of_lt (by omega), Nat.mod_eq_of_lt]
  rw [e]; omega
/-- Contents.pieceWith -/
theorem pieceWith_L {N : Nat} {c : CV} {x : Int32} {n : Nat} (hn : c.1 = nI n) (h16 : n ≤ 16) {K : Unit → Option Int32} : ∀ (f i : Nat), i ≤ n → n - i < f → f_X2_pieceWith_L2 N c x K f (nI i) = match ff (fun p => c.2.1 p = x) (n - i) i with
    | none => K ()
    | some p => some (nI p)
  | 0, i, h1, h2 => by omega
  | f + 1, i, h1, h2 => by
    rw [f_X2_pieceWith_L2, hn]
    by_cases h : i < n
    · rw [if_neg (show ¬ nI n ≤ nI i from nI_ge h (by omega)), q_ck (show i < 16 by omega) (by decide), nI_clamp (by omega)]
      rw [show n - i = (n - (i + 1)) + 1 by omega, ff]
      by_cases hx : c.2.1 i = x
      · rw [if_pos hx, if_pos hx]
      · rw [if_neg hx, if_neg hx, show nI i + 1 = nI (i + 1) from nI_1 i]
        exact pieceWith_L hn h16 f (i + 1) h (by omega)
    · have e : i = n := by omega
      subst e
      rw [if_pos (show nI i ≤ nI i from nI_le (Nat.le_refl _) (by omega)), Nat.sub_self, ff]
theorem pieceWith_ok {N : Nat} (hN : 16 < N) {c : CV} {x : Int32} {n : Nat} (hn : c.1 = nI n) (h16 : n ≤ 16) : f_X2_pieceWith N c x = some (oI (-1) (ff (fun p => c.2.1 p = x) n 0)) := by
  unfold f_X2_pieceWith
  have h := pieceWith_L (N := N) (x := x) hn h16 (K := fun _ => some (-1)) N 0 (Nat.zero_le _) (by omega)
  rw [Nat.sub_zero] at h
  rw [show (0 : Int32) = nI 0 from rfl]
  refine h.trans ?_
  cases ff (fun p => c.2.1 p = x) n 0 <;> rfl
theorem pieceWith_seg {N : Nat} (hN : 16 < N) {c : CV} {b : bk} (hb : OKb b) (hc : CR c b) {a : Nat → Nat} {L : Nat} (hL : L ≤ 4) (ha : ∀ k, k < L → 1 ≤ a k ∧ a k ≤ 6) : f_X2_pieceWith N c (nI (cod 8 a L)) = some (oI (-1) (ff (fun p => pL b p = L ∧ ∀ k, k < L → pT b p k = a k) (b 0) 0)) := by
  rw [pieceWith_ok hN hc.1 hb.1]
  congr 2
  refine ff_congr (fun p _ hp => ?_)
  have hp : p < b 0 := by omega
  rw [(hc.2.2.1 p hp).1]
  have hv := hb.2.2.1 p hp
  have h1 := cod8_lt hv.2.1 (fun k hk => (hv.2.2.2.2 k hk).2)
  have h2 := cod8_lt hL (fun k hk => (ha k hk).2)
  rw [nI_eq (by omega) (by omega)]
  constructor
  · intro h
    obtain ⟨e, g⟩ := cod_inj (by omega) hv.2.2.2.2 ha h
    exact ⟨e, fun k hk => g k (by omega)⟩
  · rintro ⟨e, g⟩
    rw [e]
    exact cod_congr L g
/-- the lattice of word w -/
def LO (b : bk) (w : Nat) (lt : LV) : Prop := lt.1 = nI (wL b w) ∧ (∀ i, i < wL b w → ∀ L, L < ml (wL b w) i → lt.2.1 (i * 4 + L) = nI (cod 8 (fun k => wT b w (i + k)) (L + 1)) ∧ lt.2.2.1 (i * 4 + L) = oI (-1) (pc b w i (L + 1))) ∧ ∀ p, p < b 0 → lt.2.2.2 p = nI (pW b p)
theorem most_ok {N : Nat} {lt : LV} {n i : Nat} (hn : lt.1 = nI n) (h12 : n ≤ 12) (hi : i ≤ n) : f_X4_mostLetters N lt (nI i) = some (nI (ml n i)) := by
  unfold f_X4_mostLetters ml
  rw [hn, pk_sub hi, show (4 : Int32) = nI 4 from rfl, q_min (by omega) (by omega)]
theorem index_ok {N i L : Nat} (hi : i ≤ 12) (hL : L < 4) : f_X4_index N (nI i) (nI (L + 1)) = some (nI (i * 4 + L)) := by
  unfold f_X4_index
  rw [show (4 : Int32) = nI 4 from rfl, pk_mul, nI_add, show i * 4 + (L + 1) = (i * 4 + L) + 1 by omega, nI_pred]
theorem pieceAt_ok {N : Nat} {b : bk} {w : Nat} {lt : LV} (h : LO b w lt) (h12 : wL b w ≤ 12) {i L : Nat} (hi : i < wL b w) (hL : L < ml (wL b w) i) : f_X4_pieceAt N lt (nI i) (nI (L + 1)) = some (oI (-1) (pc b w i (L + 1))) := by
  have hm := ml_le (n := wL b w) (i := i)
  unfold f_X4_pieceAt
  rw [index_ok (by omega) (by omega), Option.bind_some, q_ck (show i * 4 + L < 48 by omega) (by decide), nI_clamp (by omega), (h.2.1 i hi L hL).2]
theorem oI_m1 {o : Option Nat} (ho : ∀ p, o = some p → p < 16) : (oI (-1) o = -1) = (o = none) := by
  cases o with
  | none => exact propext ⟨fun _ => rfl, fun _ => rfl⟩
  | some p =>
    have := ho p rfl
    show (nI p = -1) = _
    rw [q_nem1 (by omega)]
    exact propext ⟨fun h => absurd h id, fun h => by cases h⟩
theorem oI_eq {o q : Option Nat} (ho : ∀ p, o = some p → p < 16) (hq : ∀ p, q = some p → p < 16) : (oI (-1) o = oI (-1) q) = (o = q) := by
  cases q with
  | none => exact oI_m1 ho
  | some q =>
    have h2 := hq q rfl
    cases o with
    | none =>
      show (-1 = nI q) = _
      refine propext ⟨fun h => ?_, fun h => by cases h⟩
      have := q_nem1 (n := q) (by omega)
      rw [← h] at this
      simp at this
    | some p =>
      have h1 := ho p rfl
      show (nI p = nI q) = _
      rw [nI_eq (by omega) (by omega)]
      exact propext ⟨fun h => by rw [h], fun h => Option.some.inj h⟩
theorem weightAt_ok {N : Nat} {b : bk} (hb : OKb b) {w : Nat} {lt : LV} (h : LO b w lt) (h12 : wL b w ≤ 12) {q : Option Nat} (hq : ∀ p, q = some p → p < b 0) {i L : Nat} (hi : i < wL b w) (hL : L < ml (wL b w) i) : f_X4_weightAt N lt (nI i) (nI (L + 1)) (oI (-1) q) = some (nI (Wf b w q i (L + 1))) := by
  have hm := ml_le (n := wL b w) (i := i)
  have h16 := hb.1
  have ho : ∀ p, pc b w i (L + 1) = some p → p < 16 := fun p hp => by have := (pc_lt hp).1; omega
  unfold f_X4_weightAt
  rw [pieceAt_ok h h12 hi hL, Option.bind_some]
  unfold jn
  dsimp only
  unfold Wf drp
  have hz : (if nI (L + 1) = 1 then some 1 else some 0 : Option Int32) = some (nI (wgt b none (L + 1))) := by
    show _ = some (nI (if L + 1 = 1 then 1 else 0))
    by_cases g : L + 1 = 1
    · rw [g]; rfl
    · rw [if_neg g, if_neg (show ¬ nI (L + 1) = (1 : Int32) from fun e => g ((nI_eq (by omega) (by omega)).mp (show nI (L + 1) = nI 1 from e)))]
      rfl
  rw [hz]
  by_cases e0 : pc b w i (L + 1) = none
  · rw [e0]
    rw [if_pos (show oI (-1) none = -1 from rfl)]
    split <;> rfl
  · obtain ⟨p, e1⟩ := Option.ne_none_iff_exists'.mp e0
    rw [if_neg (fun e => e0 ((oI_m1 ho).mp e))]
    by_cases e2 : pc b w i (L + 1) = q
    · rw [if_pos ((oI_eq ho (fun p hp => by have := hq p hp; omega)).mpr e2), if_pos e2]
    · rw [if_neg (fun e => e2 ((oI_eq ho (fun p hp => by have := hq p hp; omega)).mp e)), if_neg e2, e1]
      have hp := (pc_lt e1).1
      show ck (nI p) 16 _ = _
      rw [q_ck (show p < 16 by omega) (by decide)]
      show some (lt.2.2.2 (nI p).toNatClampNeg) = some (nI (pW b p))
      rw [nI_clamp (by omega), h.2.2 p hp]
