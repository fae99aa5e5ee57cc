/-! BestCut.find -/
theorem q_toL {a : Nat} (h : a < 2 ^ 31) : (nI a).toInt64 = lN a := nI_l h
theorem dn_m1 (x : Int32) : x + (-1) = x - 1 := by
  rw [Int32.sub_eq_add_neg]
theorem drp_lt {b : bk} {w i L p : Nat} {q : Option Nat} (h : drp q (pc b w i L) = some p) : p < b 0 := by
  unfold drp at h
  split at h
  · cases h
  · exact (pc_lt h).1
/-- the part's piece -/
def pp (b : bk) (w : Nat) (q : Option Nat) (k : Nat) : Option Nat := drp q (pc b w (ps (Wf b w q) (wL b w) k) (bs (Wf b w q) (wL b w) (ps (Wf b w q) (wL b w) k)).2.2)
def us (g : Nat → Option Nat) : Nat → Nat
  | 0 => 0
  | k + 1 => us g k + (if g k = none then 1 else 0)
theorem us_le (g : Nat → Option Nat) : ∀ k, us g k ≤ k
  | 0 => Nat.le_refl _
  | k + 1 => by
    have := us_le g k
    show us g k + (if g k = none then 1 else 0) ≤ k + 1
    split <;> omega
def nP (b : bk) (w : Nat) (q : Option Nat) : Nat := (bs (Wf b w q) (wL b w) 0).2.1
def nU (b : bk) (w : Nat) (q : Option Nat) : Nat := us (pp b w q) (nP b w q)
/-- rest rows are laid from place i on (i itself up to length L) -/
def BI (W : Nat → Nat → Nat) (n : Nat) (bc : BV) (i L : Nat) : Prop := (∀ j, i < j → j ≤ n → bc.1 j = lN (bs W n j).1 ∧ bc.2.1 j = nI (bs W n j).2.1 ∧ (j < n → bc.2.2.1 j = nI (bs W n j).2.2)) ∧ bc.1 i = lN (bsL W n i L).1 ∧ bc.2.1 i = nI (bsL W n i L).2.1 ∧ (1 ≤ L → bc.2.2.1 i = nI (bsL W n i L).2.2)
def BA (W : Nat → Nat → Nat) (n : Nat) (bc : BV) (i : Nat) : Prop := ∀ j, i ≤ j → j ≤ n → bc.1 j = lN (bs W n j).1 ∧ bc.2.1 j = nI (bs W n j).2.1 ∧ (j < n → bc.2.2.1 j = nI (bs W n j).2.2)
theorem findFirst_L {N : Nat} {b : bk} (hb : OKb b) {w : Nat} (hw : w < b 1) {lt : LV} (h : LO b w lt) {q : Option Nat} (hq : ∀ p, q = some p → p < b 0) {i : Nat} (hi : i < wL b w) {K : BV → Option BV} {P : BV → Prop} (hK : ∀ bc, BI (Wf b w q) (wL b w) bc i (ml (wL b w) i) → wp (K bc) P) :
    ∀ (f L : Nat) (bc : BV), L ≤ ml (wL b w) i → ml (wL b w) i - L < f → BI (Wf b w q) (wL b w) bc i L → wp (f_X1_findFirst_L24 N lt (nI i) (oI (-1) q) (nI (ml (wL b w) i)) K f (nI (L + 1)) bc) P
  | 0, _, _, h1, h2, _ => by omega
  | f + 1, L, bc, h1, h2, h3 => by
    have hv := hb.2.2.2.1 w hw
    have hm := ml_le (n := wL b w) (i := i)
    have hW := Wf_ok hb w q
    rw [f_X1_findFirst_L24]
    by_cases hL : L < ml (wL b w) i
    · obtain ⟨g1, g2, g3⟩ := h3.1 (i + (L + 1)) (by omega) (by omega)
      have hp := bs_P hW hv.2.1 (show i + (L + 1) ≤ wL b w by omega)
      have hc := bs_C hW (show i + (L + 1) ≤ wL b w by omega)
      have hr := bsL_P hW hv.2.1 hi L (by omega)
      have h9 := hW.2 i (L + 1)
      have hpr : Wf b w q i (L + 1) * (bs (Wf b w q) (wL b w) (i + (L + 1))).1 ≤ 2541865828329 := Nat.le_trans (Nat.mul_le_mul h9 hp.2) (by decide)
      have es := bsL_s (Wf b w q) (wL b w) i L
      rw [if_neg (show ¬ nI (ml (wL b w) i) < nI (L + 1) from nI_nlt (by omega) (by omega)), weightAt_ok hb h hv.2.1 hq hi hL, Option.bind_some, nI_add, q_ck (show i + (L + 1) < 13 by omega) (by decide), nI_clamp (show i + (L + 1) < 2 ^ 31 by omega), q_toL (show Wf b w q i (L + 1) < 2 ^ 31 by omega), g1, g2, lN_mul, q_bd, q_ck (show i + (L + 1) < 13 by omega) (by decide), q_1a, q_bd, nI_1 (L + 1), q_ck (show i < 13 by omega) (by decide), q_jn, nI_clamp (show i < 2 ^ 31 by omega), h3.2.1, q_cmp (by omega) (by omega), h3.2.2.1]
      have stay : (¬ (0 < Wf b w q i (L + 1) ∧ ((bsL (Wf b w q) (wL b w) i L).1 < Wf b w q i (L + 1) * (bs (Wf b w q) (wL b w) (i + (L + 1))).1 ∨ Wf b w q i (L + 1) * (bs (Wf b w q) (wL b w) (i + (L + 1))).1 = (bsL (Wf b w q) (wL b w) i L).1 ∧ 1 + (bs (Wf b w q) (wL b w) (i + (L + 1))).2.1 ≤ (bsL (Wf b w q) (wL b w) i L).2.1))) → wp (f_X1_findFirst_L24 N lt (nI i) (oI (-1) q) (nI (ml (wL b w) i)) K f (nI (L + 1 + 1)) bc) P := by
        intro hn
        rw [if_neg hn] at es
        refine findFirst_L hb hw h hq hi hK f (L + 1) bc (by omega) (by omega) ⟨h3.1, ?_, ?_, fun _ => ?_⟩
        · rw [es]; exact h3.2.1
        · rw [es]; exact h3.2.2.1
        · rw [es]
          refine h3.2.2.2 ?_
          rcases Nat.eq_zero_or_pos L with e | e
          · refine absurd ⟨?_, Or.inl ?_⟩ hn
            · rw [e]; exact hW.1 i hi
            · rw [e, bsL_0]
              have := Nat.mul_pos (hW.1 i hi) (bs_P hW hv.2.1 (show i + (0 + 1) ≤ wL b w by omega)).1
              exact this
          · exact e
      have take : (0 < Wf b w q i (L + 1) ∧ ((bsL (Wf b w q) (wL b w) i L).1 < Wf b w q i (L + 1) * (bs (Wf b w q) (wL b w) (i + (L + 1))).1 ∨ Wf b w q i (L + 1) * (bs (Wf b w q) (wL b w) (i + (L + 1))).1 = (bsL (Wf b w q) (wL b w) i L).1 ∧ 1 + (bs (Wf b w q) (wL b w) (i + (L + 1))).2.1 ≤ (bsL (Wf b w q) (wL b w) i L).2.1)) → wp (f_X1_findFirst_L24 N lt (nI i) (oI (-1) q) (nI (ml (wL b w) i)) K f (nI (L + 1 + 1)) (vp_updL bc.1 i (lN (Wf b w q i (L + 1) * (bs (Wf b w q) (wL b w) (i + (L + 1))).1)), upd bc.2.1 i (nI (1 + (bs (Wf b w q) (wL b w) (i + (L + 1))).2.1)), upd bc.2.2.1 i (nI (L + 1)), bc.2.2.2.1, bc.2.2.2.2.1, bc.2.2.2.2.2.1, bc.2.2.2.2.2.2.1, bc.2.2.2.2.2.2.2)) P := by
        intro hn
        rw [if_pos hn] at es
        refine findFirst_L hb hw h hq hi hK f (L + 1) _ (by omega) (by omega) ⟨fun j hj hjn => ?_, ?_, ?_, fun _ => ?_⟩
        · obtain ⟨e1, e2, e3⟩ := h3.1 j hj hjn
          exact ⟨(updL_o (by omega)).trans e1, (upd_o (by omega)).trans e2, fun g => (upd_o (by omega)).trans (e3 g)⟩
        · rw [es]; exact updL_s _ _ _
        · rw [es]; exact upd_s _ _ _
        · rw [es]; exact upd_s _ _ _
      by_cases c0 : Wf b w q i (L + 1) ≤ 0
      · rw [if_pos ((q_le0 (by omega)).mpr c0)]
        exact stay (fun e => by omega)
      · rw [if_neg (fun e => c0 ((q_le0 (by omega)).mp e))]
        by_cases c1 : (bsL (Wf b w q) (wL b w) i L).1 < Wf b w q i (L + 1) * (bs (Wf b w q) (wL b w) (i + (L + 1))).1
        · rw [if_pos c1, if_pos (show (0 : Int32) < 1 by decide), q_ck (show i < 13 by omega) (by decide), q_ck (show i < 13 by omega) (by decide), q_ck (show i < 13 by omega) (by decide)]
          exact take ⟨by omega, Or.inl c1⟩
        · rw [if_neg c1]
          by_cases c2 : Wf b w q i (L + 1) * (bs (Wf b w q) (wL b w) (i + (L + 1))).1 = (bsL (Wf b w q) (wL b w) i L).1
          · rw [if_pos c2, if_neg (show ¬ (0 : Int32) < 0 by decide), q_ck (show i < 13 by omega) (by decide), if_pos (show (0 : Int32) = 0 from rfl), q_ck (show i < 13 by omega) (by decide)]
            by_cases c3 : (bsL (Wf b w q) (wL b w) i L).2.1 < 1 + (bs (Wf b w q) (wL b w) (i + (L + 1))).2.1
            · rw [if_pos ((nI_ltI (by omega) (by omega)).mpr c3)]
              exact stay (fun e => by omega)
            · rw [if_neg (fun e => c3 ((nI_ltI (by omega) (by omega)).mp e)), q_ck (show i < 13 by omega) (by decide), q_ck (show i < 13 by omega) (by decide), q_ck (show i < 13 by omega) (by decide)]
              exact take ⟨by omega, Or.inr ⟨c2, by omega⟩⟩
          · rw [if_neg c2, if_neg (show ¬ (0 : Int32) < -1 by decide), q_ck (show i < 13 by omega) (by decide), if_neg (show ¬ (-1 : Int32) = 0 by decide)]
            exact stay (fun e => by omega)
    · have e : L = ml (wL b w) i := by omega
      rw [if_pos (show nI (ml (wL b w) i) < nI (L + 1) from nI_lt (by omega) (by omega))]
      exact hK bc (by rw [← e]; exact h3)
theorem findFirst_ok {N : Nat} (hN : 16 < N) {b : bk} (hb : OKb b) {w : Nat} (hw : w < b 1) {lt : LV} (h : LO b w lt) {q : Option Nat} (hq : ∀ p, q = some p → p < b 0) {i : Nat} (hi : i < wL b w) {bc : BV} (hB : BA (Wf b w q) (wL b w) bc (i + 1)) : wp (f_X1_findFirst N lt bc (nI i) (oI (-1) q)) (fun r => BA (Wf b w q) (wL b w) r i) := by
  have hv := hb.2.2.2.1 w hw
  have hm := ml_le (n := wL b w) (i := i)
  have hm1 := ml_pos hi
  unfold f_X1_findFirst
  rw [q_ck (show i < 13 by omega) (by decide), q_ck (show i < 13 by omega) (by decide), most_ok h.1 hv.2.1 (by omega), Option.bind_some, nI_clamp (show i < 2 ^ 31 by omega)]
  refine findFirst_L hb hw h hq hi (fun bc h2 => wp_some (fun j hj hjn => ?_)) N 0 _ (Nat.zero_le _) (by omega) ⟨fun j hj hjn => ?_, ?_, ?_, fun g => absurd g (by decide)⟩
  · by_cases e : j = i
    · subst e
      rw [bs_i hi]
      exact ⟨h2.2.1, h2.2.2.1, fun _ => h2.2.2.2 hm1⟩
    · exact h2.1 j (by omega) hjn
  · obtain ⟨e1, e2, e3⟩ := hB j (by omega) hjn
    exact ⟨(updL_o (by omega)).trans e1, (upd_o (by omega)).trans e2, e3⟩
  · rw [bsL_0]; exact updL_s _ _ _
  · rw [bsL_0]; exact upd_s _ _ _
theorem find_L27 {N : Nat} (hN : 16 < N) {b : bk} (hb : OKb b) {w : Nat} (hw : w < b 1) {lt : LV} (h : LO b w lt) {q : Option Nat} (hq : ∀ p, q = some p → p < b 0) {K : BV → Option BV} {P : BV → Prop} (hK : ∀ bc, BA (Wf b w q) (wL b w) bc 0 → wp (K bc) P) :
    ∀ (f i : Nat) (bc : BV), i ≤ wL b w → i < f → BA (Wf b w q) (wL b w) bc i → wp (f_X1_find_L27 N lt (oI (-1) q) K f (nI i - 1) bc) P
  | 0, _, _, _, h2, _ => by omega
  | f + 1, 0, bc, h1, h2, h3 => by
    rw [f_X1_find_L27, if_pos (show nI 0 - 1 < (0 : Int32) by decide)]
    exact hK bc h3
  | f + 1, i + 1, bc, h1, h2, h3 => by
    have hv := hb.2.2.2.1 w hw
    rw [f_X1_find_L27, nI_pred, if_neg (show ¬ nI i < (0 : Int32) from nI_pos (by omega))]
    refine wp_bind (wp_mono (findFirst_ok hN hb hw h hq (by omega) h3) (fun r hr => ?_))
    rw [dn_m1]
    exact find_L27 hN hb hw h hq hK f i r (by omega) (by omega) hr
def LI (b : bk) (w : Nat) (q : Option Nat) (bc : BV) (k : Nat) : Prop := BA (Wf b w q) (wL b w) bc 0 ∧ bc.2.2.2.1 = nI (nP b w q) ∧ bc.2.2.2.2.1 = nI (us (pp b w q) k) ∧ ∀ j, j < k → bc.2.2.2.2.2.1 j = oI (-1) (pp b w q j) ∧ bc.2.2.2.2.2.2.1 j = nI (ps (Wf b w q) (wL b w) j) ∧ bc.2.2.2.2.2.2.2 j = nI (bs (Wf b w q) (wL b w) (ps (Wf b w q) (wL b w) j)).2.2
/-- the best cut is laid out -/
abbrev BO (b : bk) (w : Nat) (q : Option Nat) (bc : BV) : Prop := LI b w q bc (nP b w q)
theorem nP_le {b : bk} (hb : OKb b) {w : Nat} (q : Option Nat) : nP b w q ≤ wL b w := bs_C (Wf_ok hb w q) (Nat.zero_le _)
theorem layOut_L {N : Nat} {b : bk} (hb : OKb b) {w : Nat} (hw : w < b 1) {lt : LV} (h : LO b w lt) {q : Option Nat} (hq : ∀ p, q = some p → p < b 0) {K : BV → Option BV} {P : BV → Prop} (hK : ∀ bc, BO b w q bc → wp (K bc) P) :
    ∀ (f k : Nat) (bc : BV), k ≤ nP b w q → nP b w q - k < f → LI b w q bc k → wp (f_X1_layOut_L20 N lt (oI (-1) q) K f (nI (ps (Wf b w q) (wL b w) k)) (nI k) bc) P
  | 0, _, _, h1, h2, _ => by omega
  | f + 1, k, bc, h1, h2, h3 => by
    have hv := hb.2.2.2.1 w hw
    have hn := nP_le hb (w := w) q
    have hu := us_le (pp b w q) k
    have h16 := hb.1
    have hW := Wf_ok hb w q
    rw [f_X1_layOut_L20, h3.2.1]
    by_cases hk : k < nP b w q
    · have hlt := ps_lt hW hk
      obtain ⟨f1, f2, f3⟩ := bs_F hW hlt
      have hm := ml_le (n := wL b w) (i := ps (Wf b w q) (wL b w) k)
      obtain ⟨M, hM⟩ : ∃ M, (bs (Wf b w q) (wL b w) (ps (Wf b w q) (wL b w) k)).2.2 = M + 1 := ⟨_, (Nat.succ_pred_eq_of_pos f1).symm⟩
      have ho : ∀ p, pc b w (ps (Wf b w q) (wL b w) k) (M + 1) = some p → p < 16 := fun p hp => by have := (pc_lt hp).1; omega
      have hpp : pp b w q k = drp q (pc b w (ps (Wf b w q) (wL b w) k) (M + 1)) := by unfold pp; rw [hM]
      have hps : ps (Wf b w q) (wL b w) (k + 1) = ps (Wf b w q) (wL b w) k + (M + 1) := by rw [← hM]; rfl
      rw [if_neg (show ¬ nI (nP b w q) ≤ nI k from nI_ge hk (by omega)), q_ck (show ps (Wf b w q) (wL b w) k < 13 by omega) (by decide), nI_clamp (show ps (Wf b w q) (wL b w) k < 2 ^ 31 by omega), (h3.1 _ (Nat.zero_le _) (by omega)).2.2 hlt, hM, q_bd, pieceAt_ok h hv.2.1 hlt (by omega), Option.bind_some, q_jn, nI_clamp (show k < 2 ^ 31 by omega), nI_1 k, nI_add (ps (Wf b w q) (wL b w) k) (M + 1), ← hps]
      have key : ∀ z : Int32, z = oI (-1) (pp b w q k) → wp (ck (nI k) 12 (ck (nI k) 12 (ck (nI k) 12 (ck (nI k) 12 (if (upd bc.2.2.2.2.2.1 k z) k = (-1) then bd (nI (ps (Wf b w q) (wL b w) (k + 1))) (fun (x3_3 : Int32) => f_X1_layOut_L20 N lt (oI (-1) q) K f x3_3 (nI (k + 1)) (bc.1, bc.2.1, bc.2.2.1, nI (nP b w q), bc.2.2.2.2.1 + 1, upd bc.2.2.2.2.2.1 k z, upd bc.2.2.2.2.2.2.1 k (nI (ps (Wf b w q) (wL b w) k)), upd bc.2.2.2.2.2.2.2 k (nI (M + 1)))) else bd (nI (ps (Wf b w q) (wL b w) (k + 1))) (fun (x3_2 : Int32) => f_X1_layOut_L20 N lt (oI (-1) q) K f x3_2 (nI (k + 1)) (bc.1, bc.2.1, bc.2.2.1, nI (nP b w q), bc.2.2.2.2.1, upd bc.2.2.2.2.2.1 k z, upd bc.2.2.2.2.2.2.1 k (nI (ps (Wf b w q) (wL b w) k)), upd bc.2.2.2.2.2.2.2 k (nI (M + 1))))))))) P := by
        intro z hz
        rw [q_ck (show k < 12 by omega) (by decide), q_ck (show k < 12 by omega) (by decide), q_ck (show k < 12 by omega) (by decide), q_ck (show k < 12 by omega) (by decide), upd_s, q_bd, q_bd, h3.2.2.1, nI_1, hz]
        have rows : ∀ j, j < k + 1 → upd bc.2.2.2.2.2.1 k (oI (-1) (pp b w q k)) j = oI (-1) (pp b w q j) ∧ upd bc.2.2.2.2.2.2.1 k (nI (ps (Wf b w q) (wL b w) k)) j = nI (ps (Wf b w q) (wL b w) j) ∧ upd bc.2.2.2.2.2.2.2 k (nI (M + 1)) j = nI (bs (Wf b w q) (wL b w) (ps (Wf b w q) (wL b w) j)).2.2 := by
          intro j hj
          by_cases e : j = k
          · subst e
            rw [upd_s, upd_s, upd_s, hM]
            exact ⟨rfl, rfl, rfl⟩
          · rw [upd_o e, upd_o e, upd_o e]
            exact h3.2.2.2 j (by omega)
        have hon : ∀ p, pp b w q k = some p → p < 16 := fun p hp => by rw [hpp] at hp; have := drp_lt hp; omega
        by_cases e : pp b w q k = none
        · rw [if_pos ((oI_m1 hon).mpr e)]
          refine layOut_L hb hw h hq hK f (k + 1) _ (by omega) (by omega) ⟨h3.1, rfl, ?_, rows⟩
          show nI (us (pp b w q) k + 1) = nI (us (pp b w q) k + (if pp b w q k = none then 1 else 0))
          rw [if_pos e]
        · rw [if_neg (fun g => e ((oI_m1 hon).mp g))]
          refine layOut_L hb hw h hq hK f (k + 1) _ (by omega) (by omega) ⟨h3.1, rfl, ?_, rows⟩
          show nI (us (pp b w q) k) = nI (us (pp b w q) k + (if pp b w q k = none then 1 else 0))
          rw [if_neg e]
          rfl
      by_cases e2 : pc b w (ps (Wf b w q) (wL b w) k) (M + 1) = q
      · rw [if_pos ((oI_eq ho (fun p hp => by have := hq p hp; omega)).mpr e2)]
        refine key _ ?_
        rw [hpp]
        unfold drp
        rw [if_pos e2]
        rfl
      · rw [if_neg (fun e => e2 ((oI_eq ho (fun p hp => by have := hq p hp; omega)).mp e))]
        refine key _ ?_
        rw [hpp]
        unfold drp
        rw [if_neg e2]
    · have e : k = nP b w q := by omega
      subst e
      rw [if_pos (show nI (nP b w q) ≤ nI (nP b w q) from nI_le (Nat.le_refl _) (by omega))]
      exact hK bc h3
theorem find_ok {N : Nat} (hN : 16 < N) {b : bk} (hb : OKb b) {w : Nat} (hw : w < b 1) {lt : LV} (h : LO b w lt) {q : Option Nat} (hq : ∀ p, q = some p → p < b 0) (bc : BV) : wp (f_X1_find N lt bc (oI (-1) q)) (BO b w q) := by
  have hv := hb.2.2.2.1 w hw
  unfold f_X1_find
  rw [h.1, q_ck (show wL b w < 13 by omega) (by decide), q_ck (show wL b w < 13 by omega) (by decide), nI_clamp (show wL b w < 2 ^ 31 by omega)]
  refine find_L27 hN hb hw h hq (fun bc h2 => wp_bind ?_) N (wL b w) _ (Nat.le_refl _) (by omega) (fun j h1 h2 => ?_)
  · unfold f_X1_layOut
    rw [q_ck0 (by decide) (by decide)]
    refine wp_mono (layOut_L hb hw h hq (fun bc h => wp_some h) N 0 _ (Nat.zero_le _) (by have := nP_le hb (w := w) q; omega) ⟨h2, ?_, rfl, fun j hj => by omega⟩) (fun r hr => wp_some hr)
    exact (h2 0 (Nat.le_refl _) (Nat.zero_le _)).2.1
  · have e : j = wL b w := by omega
    subst e
    rw [bs_n]
    exact ⟨updL_s _ _ _, upd_s _ _ _, fun g => absurd g (by omega)⟩
