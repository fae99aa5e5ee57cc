/-! unseen, cost, share, drop, loss, least -/
/-- at the best cut's places -/
theorem reaches_best {N : Nat} (hN : 200 < N) {b : bk} (hb : OKb b) {w : Nat} (hw : w < b 1) (h7 : wL b w ≤ 7) {k : Nat} (hk : k < nP b w none) : f_L_reaches N (nI (wL b w)) (nI (ktc (W0 b w) (wL b w) 0)) (nI (ps (W0 b w) (wL b w) k)) = some (nI (bs (W0 b w) (wL b w) (ps (W0 b w) (wL b w) k)).2.2) := by
  have hW := Wf_ok hb w none
  have h1 := ps_lt hW hk
  have h2 := ktc_ps hW k hk
  have h3 := ktc_R hW h1
  obtain ⟨t1, -⟩ := ktc_top hb hw
  have hc := p2c h7 t1
  rw [reaches_ok hN h7 (by omega) h1]
  rw [h2, h3]
theorem ps_s (W : Nat → Nat → Nat) (n k : Nat) : ps W n (k + 1) = ps W n k + (bs W n (ps W n k)).2.2 := rfl
theorem oI6_0 {o : Option Nat} (ho : ∀ p, o = some p → p < 16) : (0 ≤ oI (-6) o) ↔ ¬ o = none := by
  cases o with
  | none => exact ⟨fun q => absurd q (show ¬ (0 : Int32) ≤ -6 by decide), fun q => absurd rfl q⟩
  | some p => exact ⟨fun _ q => (by cases q), fun _ => nI_pos' (by have := ho p rfl; omega)⟩
theorem W0_ok {b : bk} (hb : OKb b) (w : Nat) : okW (W0 b w) (wL b w) := Wf_ok hb w none
theorem lk_le0 {a : Nat} (h : a < 2 ^ 63) : lg_cmp (lN a) 0 ≤ 0 ↔ a = 0 := by
  have h1 := q_cmple (a := a) (b := 0) h (by decide)
  constructor
  · intro q
    have := h1.1 q
    omega
  · intro q
    exact h1.2 (by omega)
theorem ps_part {b : bk} (hb : OKb b) {w : Nat} {k : Nat} (hk : k < nP b w none) : ps (W0 b w) (wL b w) k < wL b w ∧ 1 ≤ (bs (W0 b w) (wL b w) (ps (W0 b w) (wL b w) k)).2.2 ∧ ps (W0 b w) (wL b w) k + (bs (W0 b w) (wL b w) (ps (W0 b w) (wL b w) k)).2.2 ≤ wL b w := by
  have hW := W0_ok hb w
  have h1 : ps (W0 b w) (wL b w) k < wL b w := ps_lt hW hk
  have h2 := bs_F hW h1
  have h3 := ml_le (n := wL b w) (i := ps (W0 b w) (wL b w) k)
  exact ⟨h1, h2.1, by omega⟩
theorem unseen_L {N : Nat} (hN : 200 < N) {ra rb : Nat → Int32} {b : bk} (hb : OKb b) (hq : QP ra rb b) {w : Nat} (hw : w < b 1) (h7 : wL b w ≤ 7) {K : Int32 → Option Int32} : ∀ (f k : Nat), k ≤ nP b w none → nP b w none - k < f → f_L_unseen_L12 N ra rb (nI (wTx b w)) (nI (ktc (W0 b w) (wL b w) 0)) (nI (wL b w)) K f (nI (us (pp b w none) k)) (nI (ps (W0 b w) (wL b w) k)) = K (nI (nU b w none))
  | 0, _, _, h => by omega
  | f + 1, k, hk, hf => by
    have hW := Wf_ok hb w none
    have h8 := hq.2.2.1
    rw [f_L_unseen_L12]
    by_cases g : k = nP b w none
    · have e : ps (W0 b w) (wL b w) k = wL b w := by rw [g]; exact ps_end hW
      rw [e, if_pos (nI_le (Nat.le_refl _) (by omega)), g]
      rfl
    · obtain ⟨h1, h2, h3⟩ := ps_part hb (show k < nP b w none by omega)
      rw [if_neg (nI_ge h1 (by omega)), reaches_best hN hb hw h7 (show k < nP b w none by omega), Option.bind_some, show nI (wTx b w) = nI (cod 7 (wT b w) (wL b w)) from rfl, some_ok hN (wt_ok hb hw h7) h3, Option.bind_some, lpart_ok hN hb hq hw h7 h3, Option.bind_some, ← pp0]
      unfold jn
      dsimp only
      have hp : ∀ p, pp b w none k = some p → p < 16 := fun p hp => by
        have := pp_lt hp
        omega
      have key : f_L_unseen_L12 N ra rb (nI (cod 7 (wT b w) (wL b w))) (nI (ktc (W0 b w) (wL b w) 0)) (nI (wL b w)) K f (nI (us (pp b w none) (k + 1))) (nI (ps (W0 b w) (wL b w) (k + 1))) = K (nI (nU b w none)) := unseen_L hN hb hq hw h7 f (k + 1) (by omega) (by omega)
      have eu : us (pp b w none) (k + 1) = us (pp b w none) k + (if pp b w none k = none then 1 else 0) := rfl
      by_cases z : pp b w none k = none
      · rw [if_neg (fun q => (oI6_0 hp).1 q z), q_bd, Option.bind_some, q_bd, nI_add, nI_1, ← ps_s]
        rw [if_pos z] at eu
        rw [← eu]
        exact key
      · rw [if_pos ((oI6_0 hp).2 z), q_bd, Option.bind_some, q_bd, nI_add, i0, nI_add, ← ps_s]
        rw [if_neg z] at eu
        rw [← eu]
        exact key
theorem lunseen_ok {N : Nat} (hN : 200 < N) {ra rb : Nat → Int32} {b : bk} (hb : OKb b) (hq : QP ra rb b) {w : Nat} (hw : w < b 1) (h7 : wL b w ≤ 7) : f_L_unseen N ra rb (nI (wTx b w)) (nI (ktc (W0 b w) (wL b w) 0)) = some (nI (nU b w none)) := by
  have h := nP_le hb (w := w) none
  unfold f_L_unseen
  rw [show f_L_size N (nI (wTx b w)) = some (nI (wL b w)) from size_ok hN (wt_ok hb hw h7), Option.bind_some]
  exact unseen_L (N := N) hN hb hq hw h7 N 0 (Nat.zero_le _) (by omega)
theorem lbits_ok {N : Nat} (hN : 200 < N) {b : bk} (hb : OKb b) {w : Nat} (hw : w < b 1) (h7 : wL b w ≤ 7) : ∃ k, f_L_bits N (nI (ktc (W0 b w) (wL b w) 0)) = some (nI k) ∧ k + 1 = nP b w none := by
  obtain ⟨t1, -, t3, -⟩ := ktc_top hb hw
  exact ⟨_, bits_ok hN (by omega) t1, t3⟩
theorem cost_L {N : Nat} (hN : 200 < N) {ra rb rc : Nat → Int32} {b : bk} (hb : OKb b) (hq : QP ra rb b) (hr : QW rc b) {K : Int32 → Option Int32} : ∀ (f w : Nat), w ≤ b 1 → b 1 - w < f → f_L_cost_L5 N ra rb rc K f (nI (sm (cost1 b none) w)) (nI w) = K (nI (sm (cost1 b none) (b 1)))
  | 0, _, _, h => by omega
  | f + 1, w, hw, hf => by
    have h3 := hr.1
    rw [f_L_cost_L5, q_ck1 (by decide) (by decide), show ra ((1 : Int32).toNatClampNeg) = nI (b 1) from hq.2.1]
    by_cases g : b 1 ≤ w
    · rw [if_pos (nI_le g (by omega)), show w = b 1 by omega]
    · obtain ⟨a1, a2, a3⟩ := hr.2 w (by omega)
      have hw2 : w < b 1 := by omega
      obtain ⟨k, k1, k2⟩ := lbits_ok (N := N) hN hb hw2 a1
      rw [if_neg (nI_ge hw2 (by omega)), show (2 : Int32) = nI 2 from rfl, pk_mul, nI_1 (2 * w), q_ck (show 2 * w < 6 by omega) (by decide), nI_clamp (show 2 * w < 2 ^ 31 by omega), nI_clamp (show 2 * w + 1 < 2 ^ 31 by omega), a2, a3, best_ok hN hb hq hw2 a1, Option.bind_some, k1, Option.bind_some, q_ck (show 2 * w < 6 by omega) (by decide), lunseen_ok hN hb hq hw2 a1, Option.bind_some, q_ck (show 2 * w + 1 < 6 by omega) (by decide), q_bd, nI_1, nI_1, k2, nI_add, pk_mul, nI_add]
      exact cost_L hN hb hq hr f (w + 1) (by omega) (by omega)
theorem lcost_ok {N : Nat} (hN : 200 < N) {ra rb rc : Nat → Int32} {b : bk} (hb : OKb b) (hq : QP ra rb b) (hr : QW rc b) : f_L_cost N ra rb rc = some (nI (sm (cost1 b none) (b 1))) := by
  have h3 := hr.1
  unfold f_L_cost
  exact cost_L (N := N) hN hb hq hr N 0 (Nat.zero_le _) (by omega)
/-! share -/
theorem ktK_7 {M : Nat → Nat → Nat} (h1 : ∀ i L, M i L ≤ 1) : ∀ m i L c, ktK M m i L c ≤ m + 1
  | 0, i, L, _ => h1 i L
  | m + 1, i, L, c => by
    have a := ktK_7 h1 m i (L + 1) (c / 2)
    have b := ktK_7 h1 m (i + L) 1 (c / 2)
    have d := h1 i L
    show (if c % 2 = 0 then ktK M m i (L + 1) (c / 2) else M i L + ktK M m (i + L) 1 (c / 2)) ≤ m + 1 + 1
    split <;> omega
theorem ktM1_1 (b : bk) (w p i L : Nat) : ktM1 b w p i L ≤ 1 := by
  unfold ktM1
  split <;> omega
/-- the text of a part is the piece's -/
theorem text_eq {b : bk} (hb : OKb b) {w p i L : Nat} (hw : w < b 1) (h7 : wL b w ≤ 7) (hp : p < b 0) (hi : i + L ≤ wL b w) : nI (cod 7 (fun k => wT b w (i + k)) L) = nI (pTx b p) ↔ pc b w i L = some p := by
  have h1 : okl (fun k => wT b w (i + k)) L := ⟨by omega, fun k hk => (wt_ok hb hw h7).2 (i + k) (by omega)⟩
  have h2 := pt_ok hb hp
  have h3 := cod77 h1
  have h4 : pTx b p < 823543 := cod77 h2
  rw [nI_eq (by omega) (show pTx b p < 2 ^ 31 by omega)]
  constructor
  · intro e
    obtain ⟨e1, e2⟩ := cod_inj (B := 7) (by omega) h1.2 h2.2 e
    exact pc_of hb hp ⟨e1.symm, fun k hk => (e2 k hk).symm⟩
  · intro e
    obtain ⟨-, e1, e2⟩ := pc_lt e
    show cod 7 (fun k => wT b w (i + k)) L = cod 7 (pT b p) (pL b p)
    rw [e1]
    exact cod_congr L (fun k hk => (e2 k hk).symm)
set_option maxHeartbeats 1000000 in
theorem share_L46 {N : Nat} (hN : 200 < N) {ra rb : Nat → Int32} {b : bk} (hb : OKb b) (hq : QP ra rb b) {w : Nat} (hw : w < b 1) (h7 : wL b w ≤ 7) {p : Nat} (hp : p < b 0) {c : Nat} (hc : c < 2 ^ (wL b w - 1)) {v : Nat} (hv : v ≤ 4782969) {x5 : Int64} {K : Int64 → Option Int32} : ∀ (f i s : Nat), i ≤ wL b w → wL b w - i < f → f_L_share_L46 N ra rb (nI (wTx b w)) (nI p) (nI (wL b w)) x5 (nI c) (lN v) K f (lN s) (nI i) = K (lN (s + v * (if i < wL b w then ktK (ktM1 b w p) (wL b w - 1 - i) i 1 (c / 2 ^ i) else 0)))
  | 0, _, _, _, h => by omega
  | f + 1, i, s, hi, hf => by
    have hc6 := p2c h7 hc
    have h8 := hq.2.2.1
    rw [f_L_share_L46]
    by_cases g : wL b w ≤ i
    · rw [if_pos (nI_le g (by omega)), if_neg (show ¬ i < wL b w by omega), Nat.mul_zero, Nat.add_zero]
    · rw [if_neg (nI_ge (show i < wL b w by omega) (by omega)), if_pos (show i < wL b w by omega)]
      by_cases v0 : v = 0
      · rw [if_pos ((lk_le0 (by omega)).2 v0), v0, Nat.zero_mul, Nat.add_zero]
      · rw [if_neg (fun q => v0 ((lk_le0 (a := v) (by omega)).1 q)), reaches_ok hN h7 (by omega) (show i < wL b w by omega), Option.bind_some]
        have hs := ktK_step (M := ktM1 b w p) (c := c) (show i < wL b w by omega)
        have hr := ktR_le (wL b w - 1 - i) (c / 2 ^ i)
        rw [hs]
        generalize ktR (wL b w - 1 - i) (c / 2 ^ i) = r at *
        rw [show nI (wTx b w) = nI (cod 7 (wT b w) (wL b w)) from rfl, some_ok hN (wt_ok hb hw h7) (show i + (r + 1) ≤ wL b w by omega), Option.bind_some, show (2 : Int32) = nI 2 from rfl, pk_mul, q_ck (show 2 * p < 16 by omega) (by decide), nI_clamp (show 2 * p < 2 ^ 31 by omega), (hq.2.2.2 p hp).1]
        unfold jn
        dsimp only
        have key : ∀ s', s' = s + v * ktM1 b w p i (r + 1) → f_L_share_L46 N ra rb (nI (cod 7 (wT b w) (wL b w))) (nI p) (nI (wL b w)) x5 (nI c) (lN v) K f (lN s') (nI (i + (r + 1))) = K (lN (s + v * (ktM1 b w p i (r + 1) + (if i + (r + 1) < wL b w then ktK (ktM1 b w p) (wL b w - 1 - (i + (r + 1))) (i + (r + 1)) 1 (c / 2 ^ (i + (r + 1))) else 0)))) := by
          intro s' e
          rw [show nI (cod 7 (wT b w) (wL b w)) = nI (wTx b w) from rfl, share_L46 hN hb hq hw h7 hp hc hv f (i + (r + 1)) s' (by omega) (by omega), e, Nat.mul_add, Nat.add_assoc]
        by_cases z : pc b w i (r + 1) = some p
        · have e1 : ktM1 b w p i (r + 1) = 1 := if_pos z
          rw [if_pos ((text_eq hb hw h7 hp (by omega)).2 z), q_bd, Option.bind_some, q_bd, lN_add, nI_add]
          exact key _ (by rw [e1, Nat.mul_one])
        · have e1 : ktM1 b w p i (r + 1) = 0 := if_neg z
          rw [if_neg (fun q => z ((text_eq hb hw h7 hp (by omega)).1 q)), q_bd, Option.bind_some, q_bd, l0, lN_add, nI_add]
          exact key _ (by rw [e1, Nat.mul_zero])
set_option maxHeartbeats 1000000 in
theorem share_L15 {N : Nat} (hN : 200 < N) {ra rb : Nat → Int32} {b : bk} (hb : OKb b) (hq : QP ra rb b) {w : Nat} (hw : w < b 1) (h7 : wL b w ≤ 7) {p : Nat} (hp : p < b 0) {K : Int64 → Int64 → Option Int32} : ∀ (f c : Nat), c ≤ 2 ^ (wL b w - 1) → 2 ^ (wL b w - 1) - c < f → f_L_share_L15 N ra rb (nI (wTx b w)) (nI p) (nI (wL b w)) K f (lN (sm (ktF (W0 b w) (wL b w - 1) 0 1) c)) (lN (sm (fun c => ktF (W0 b w) (wL b w - 1) 0 1 c * ktK (ktM1 b w p) (wL b w - 1) 0 1 c) c)) (nI c) = K (lN (bh (W0 b w) (wL b w) 0)) (lN (sN b w p (wL b w)))
  | 0, _, _, h => by omega
  | f + 1, c, hc, hf => by
    have h1 := (hb.2.2.2.1 w hw).1
    have p6 : 2 ^ (wL b w - 1) ≤ 2 ^ 6 := Nat.pow_le_pow_right (by omega) (by omega)
    have p64 : (2 : Nat) ^ 6 = 64 := by decide
    rw [f_L_share_L15, show nI (wL b w) - 1 = nI (wL b w - 1) from pk_sub (b := 1) h1, q_shl1 _ (by omega)]
    by_cases g : 2 ^ (wL b w - 1) ≤ c
    · rw [if_pos (nI_le g (by omega)), show c = 2 ^ (wL b w - 1) by omega, sN_cuts hb hp h1, ktF_all (W0_4 hb w) h1]
    · have hc2 : c < 2 ^ (wL b w - 1) := by omega
      rw [if_neg (nI_ge hc2 (by omega)), product_ok hN hb hq hw h7 hc2, Option.bind_some, q_bd, lN_add]
      refine (share_L46 (N := N) hN hb hq hw h7 hp hc2 (ktF_b hb h1 h7) N 0 _ (Nat.zero_le _) (by omega)).trans ?_
      rw [if_pos (show 0 < wL b w by omega), Nat.pow_zero, Nat.div_one, Nat.sub_zero, nI_1]
      exact share_L15 hN hb hq hw h7 hp f (c + 1) (by omega) (by omega)
/-- the law's share is the class's -/
theorem lshare_ok {N : Nat} (hN : 200 < N) {ra rb : Nat → Int32} {b : bk} (hb : OKb b) (hq : QP ra rb b) {w : Nat} (hw : w < b 1) (h7 : wL b w ≤ 7) {p : Nat} (hp : p < b 0) : f_L_share N ra rb (nI (wTx b w)) (nI p) = some (shr b w p) := by
  have p6 : 2 ^ (wL b w - 1) ≤ 2 ^ 6 := Nat.pow_le_pow_right (by omega) (by omega)
  have p64 : (2 : Nat) ^ 6 = 64 := by decide
  have hbh := bh_b (W0_ok hb w) (show wL b w ≤ 12 by omega) (Nat.zero_le _)
  unfold f_L_share
  rw [show f_L_size N (nI (wTx b w)) = some (nI (wL b w)) from size_ok hN (wt_ok hb hw h7), Option.bind_some]
  refine (share_L15 (N := N) hN hb hq hw h7 hp (K := fun (x5_15 : Int64) (x7_15 : Int64) => nzL x5_15 (some (((1000 * x7_15) / x5_15).toInt32))) N 0 (Nat.zero_le _) (by omega)).trans ?_
  rw [q_nzl (show 0 < bh (W0 b w) (wL b w) 0 by omega) (by omega)]
  rfl
/-! drop, loss, least -/
def QD (b : bk) (p : Nat) (f0 f : Nat → Int32) (k : Nat) : Prop := ∀ j, f j = if 2 * p ≤ j ∧ j < k then f0 (j + 2) else f0 j
theorem drop_L {N : Nat} {ra : Nat → Int32} {b : bk} {x0 : Int32} {f0 : Nat → Int32} (e0 : ra 0 = nI (b 0)) (h8 : b 0 ≤ 8) {p : Nat} (hp : p < b 0) {K : (Nat → Int32) → Option ((Nat → Int32) × (Nat → Int32))} {P : (Nat → Int32) × (Nat → Int32) → Prop} (hK : ∀ f, QD b p f0 f (2 * b 0 - 2) → wp (K f) P) : ∀ (g k : Nat) (rb : Nat → Int32), 2 * p ≤ k → k ≤ 2 * b 0 - 2 → 2 * b 0 - k < g → QD b p f0 rb k → wp (f_L_drop_L4 N x0 ra K g (nI k) rb) P
  | 0, _, _, _, _, h, _ => by omega
  | g + 1, k, rb, h1, h2, h3, hI => by
    rw [f_L_drop_L4, q_ck0 (by decide) (by decide), show ra ((0 : Int32).toNatClampNeg) = nI (b 0) from e0, show (2 : Int32) = nI 2 from rfl, pk_mul, nI_add]
    by_cases q : 2 * b 0 ≤ k + 2
    · rw [if_pos (nI_le q (by omega))]
      have e : k = 2 * b 0 - 2 := by omega
      rw [e] at hI
      exact hK rb hI
    · rw [if_neg (nI_ge (show k + 2 < 2 * b 0 by omega) (by omega)), q_ck (show k + 2 < 16 by omega) (by decide), q_ck (show k < 16 by omega) (by decide), nI_clamp (show k < 2 ^ 31 by omega), nI_clamp (show k + 2 < 2 ^ 31 by omega), nI_1]
      refine drop_L e0 h8 hp hK g (k + 1) _ (by omega) (by omega) (by omega) (fun j => ?_)
      by_cases e : j = k
      · rw [e, if_pos ⟨h1, by omega⟩]
        refine (upd_s _ _ _).trans ?_
        rw [hI (k + 2), if_neg (by omega)]
      · refine (upd_o e).trans ?_
        rw [hI j]
        by_cases z : 2 * p ≤ j ∧ j < k
        · rw [if_pos z, if_pos ⟨z.1, by omega⟩]
        · rw [if_neg z, if_neg (fun y => z ⟨y.1, by omega⟩)]
theorem drpB_pTx {b : bk} (hb : OKb b) {x p : Nat} (hp : p < b 0 - 1) : pTx (drpB b x) p = pTx b (shf x p) := by
  have h := (hb.2.2.1 (shf x p) (shf_lt hp)).2.1
  unfold pTx
  rw [drpB_L hp]
  exact cod_congr _ (fun k hk => drpB_T hp (by omega))
theorem ldrop_ok {N : Nat} (hN : 200 < N) {ra rb : Nat → Int32} {b : bk} (hb : OKb b) (hq : QP ra rb b) {p : Nat} (hp : p < b 0) : wp (f_L_drop N ra rb (nI p)) (fun r => QP r.1 r.2 (drpB b p)) := by
  have h8 := hq.2.2.1
  unfold f_L_drop
  rw [show (2 : Int32) = nI 2 from rfl, pk_mul]
  refine drop_L (N := N) hq.1 h8 hp (f0 := rb) (fun f hf => ?_) N (2 * p) rb (Nat.le_refl _) (by omega) (by omega) (fun j => by rw [if_neg (by omega)])
  rw [q_ck0 (by decide) (by decide), q_ck0 (by decide) (by decide), show ra ((0 : Int32).toNatClampNeg) = nI (b 0) from hq.1, show nI (b 0) - 1 = nI (b 0 - 1) from pk_sub (b := 1) (by omega)]
  refine wp_some ⟨?_, ?_, ?_, fun k hk => ?_⟩
  · rw [drpB_0]
    exact upd_s ra 0 (nI (b 0 - 1))
  · rw [drpB_1]
    exact (upd_o (f := ra) (k := 0) (j := 1) (x := nI (b 0 - 1)) (by decide)).trans hq.2.1
  · rw [drpB_0]
    omega
  · rw [drpB_0] at hk
    have e1 := hf (2 * k)
    have e2 := hf (2 * k + 1)
    have hs := hq.2.2.2 (shf p k) (shf_lt hk)
    rw [drpB_pTx hb hk, drpB_W hk, ← hs.1, ← hs.2]
    show f (2 * k) = _ ∧ f (2 * k + 1) = _
    rw [e1, e2]
    unfold shf
    by_cases z : k < p
    · rw [if_pos z, if_neg (by omega), if_neg (by omega)]
      exact ⟨rfl, rfl⟩
    · rw [if_neg z, if_pos (by omega), if_pos (by omega)]
      exact ⟨congrArg rb (by omega), congrArg rb (by omega)⟩
theorem drpB_wTx {b : bk} (hb : OKb b) (x w : Nat) : wTx (drpB b x) w = wTx b w := by
  unfold wTx
  rw [drpB_wL hb]
  exact cod_congr _ (fun k _ => drpB_wT hb x w k)
theorem drpB_QW {b : bk} (hb : OKb b) {rc : Nat → Int32} (h : QW rc b) (x : Nat) : QW rc (drpB b x) := by
  refine ⟨by rw [drpB_1]; exact h.1, fun w hw => ?_⟩
  rw [drpB_1] at hw
  rw [drpB_wL hb, drpB_wTx hb, drpB_wC hb]
  exact h.2 w hw
theorem loss_L {N : Nat} {ra rb rc rd : Nat → Int32} {x0 : Int32} {K : (Nat → Int32) → Option (Int32 × (Nat → Int32) × (Nat → Int32))} {P : Int32 × (Nat → Int32) × (Nat → Int32) → Prop} (hK : ∀ re, (∀ k, k < 16 → re k = rb k) → wp (K re) P) : ∀ (f k : Nat) (re : Nat → Int32), k ≤ 16 → 16 - k < f → (∀ j, j < k → re j = rb j) → wp (f_L_loss_L3 N ra rb rc x0 rd K f (nI k) re) P
  | 0, _, _, _, h, _ => by omega
  | f + 1, k, re, h1, h2, h3 => by
    rw [f_L_loss_L3]
    by_cases g : 16 ≤ k
    · rw [if_pos (show (16 : Int32) ≤ nI k from nI_le (a := 16) g (by omega))]
      exact hK re (fun j hj => h3 j (by omega))
    · rw [if_neg (show ¬ (16 : Int32) ≤ nI k from nI_ge (b := 16) (by omega) (by decide)), q_ck (show k < 16 by omega) (by decide), q_ck (show k < 16 by omega) (by decide), nI_clamp (show k < 2 ^ 31 by omega), nI_1]
      refine loss_L hK f (k + 1) _ (by omega) (by omega) (fun j hj => ?_)
      by_cases e : j = k
      · rw [e]; exact upd_s _ _ _
      · exact (upd_o e).trans (h3 j (by omega))
theorem loss_ok {N : Nat} (hN : 200 < N) {ra rb rc : Nat → Int32} {b : bk} (hb : OKb b) (hq : QP ra rb b) (hr : QW rc b) (rd re : Nat → Int32) {p : Nat} (hp : p < b 0) : wp (f_L_loss N ra rb rd re rc (nI p)) (fun r => r.1 = nI (cW b p) - nI (sm (cost1 b none) (b 1))) := by
  have h8 := hq.2.2.1
  unfold f_L_loss
  refine loss_L (N := N) (fun re' he => ?_) N 0 re (by omega) (by omega) (fun j hj => by omega)
  rw [q_ck0 (by decide) (by decide), q_ck0 (by decide) (by decide), q_ck1 (by decide) (by decide), q_ck1 (by decide) (by decide)]
  have hq2 : QP (upd (upd rd ((0 : Int32).toNatClampNeg) (ra ((0 : Int32).toNatClampNeg))) ((1 : Int32).toNatClampNeg) (ra ((1 : Int32).toNatClampNeg))) re' b := by
    refine ⟨?_, ?_, h8, fun k hk => ?_⟩
    · exact (upd_o (by decide)).trans ((upd_s _ _ _).trans hq.1)
    · exact (upd_s _ _ _).trans hq.2.1
    · rw [he (2 * k) (by omega), he (2 * k + 1) (by omega)]
      exact hq.2.2.2 k hk
  refine wp_bind (wp_mono (ldrop_ok hN hb hq2 hp) (fun r hr2 => ?_))
  have hd := drpB_ok hb hp
  rw [lcost_ok hN hd hr2 (drpB_QW hb hr p), Option.bind_some, lcost_ok hN hb hq hr, Option.bind_some, drpB_cW hb hp]
  exact wp_some rfl
/-- the least piece is the one of least loss, then of least weight, then the last -/
def lsT (b : bk) (q r : Nat) : Prop := cW b q < cW b r ∨ cW b q = cW b r ∧ (pW b q < pW b r ∨ pW b q = pW b r ∧ r ≤ q)
theorem lst_best {b : bk} : ∀ {n q : Nat}, lst b n = some q → ∀ r, r < n → lsT b q r
  | 0, q, h => by cases h
  | n + 1, q, h => by
    intro r hr
    have e : lst b (n + 1) = match lst b n with
      | none => some n
      | some q => if cW b n < cW b q ∨ cW b n = cW b q ∧ pW b n ≤ pW b q then some n else some q := rfl
    rw [e] at h
    cases g : lst b n with
    | none =>
      rw [g] at h
      have h2 : n = q := Option.some.inj h
      have h0 : n = 0 := by
        cases n with
        | zero => rfl
        | succ n =>
          obtain ⟨z, hz⟩ := lst_some (b := b) n
          rw [hz] at g
          cases g
      rw [show r = q by omega]
      exact Or.inr ⟨rfl, Or.inr ⟨rfl, Nat.le_refl _⟩⟩
    | some z =>
      rw [g] at h
      have hz := lst_best g
      have hz2 := lst_lt g
      have h2 : (if cW b n < cW b z ∨ cW b n = cW b z ∧ pW b n ≤ pW b z then some n else some z) = some q := h
      by_cases c : cW b n < cW b z ∨ cW b n = cW b z ∧ pW b n ≤ pW b z
      · rw [if_pos c] at h2
        have h3 : n = q := Option.some.inj h2
        subst h3
        by_cases y : r = n
        · rw [y]
          exact Or.inr ⟨rfl, Or.inr ⟨rfl, Nat.le_refl _⟩⟩
        · have := hz r (by omega)
          unfold lsT at this ⊢
          omega
      · rw [if_neg c] at h2
        have h3 : z = q := Option.some.inj h2
        subst h3
        by_cases y : r = n
        · rw [y]
          unfold lsT
          omega
        · exact hz r (by omega)
def lsI (b : bk) (k : Nat) (x5 x6 : Int32) : Prop := (x5 = -6 ∧ x6 = 0 ∧ k = b 0) ∨ ∃ q, k ≤ q ∧ q < b 0 ∧ x5 = nI q ∧ x6 = nI (cW b q) - nI (sm (cost1 b none) (b 1)) ∧ ∀ r, k ≤ r → r < b 0 → lsT b q r
theorem cW_le {b : bk} (hb : OKb b) (p : Nat) : cW b p ≤ 19008 := cost_le hb (some p)
set_option maxHeartbeats 1000000 in
theorem least_L {N : Nat} (hN : 200 < N) {ra rb rc : Nat → Int32} {b : bk} (hb : OKb b) (hq : QP ra rb b) (hr : QW rc b) {K : Int32 → (Nat → Int32) → (Nat → Int32) → Option (Int32 × (Nat → Int32) × (Nat → Int32))} {P : Int32 × (Nat → Int32) × (Nat → Int32) → Prop} (hK : ∀ rd re, wp (K (oI (-6) (lst b (b 0))) rd re) P) : ∀ (f k : Nat) (x5 x6 : Int32) (rd re : Nat → Int32), k ≤ b 0 → k < f → lsI b k x5 x6 → wp (f_L_least_L14 N ra rb rc K f x5 x6 (nI k - 1) rd re) P
  | 0, _, _, _, _, _, _, h, _ => by omega
  | f + 1, 0, x5, x6, rd, re, hk, hf, hI => by
    rw [f_L_least_L14, if_pos (show nI 0 - 1 < (0 : Int32) by decide)]
    have e : x5 = oI (-6) (lst b (b 0)) := by
      rcases hI with ⟨rfl, -, e⟩ | ⟨q, -, q2, rfl, -, q3⟩
      · rw [← e]
        rfl
      · obtain ⟨z, hz⟩ : ∃ z, lst b (b 0) = some z := by
          have := lst_some (b := b) (b 0 - 1)
          rw [show b 0 - 1 + 1 = b 0 by omega] at this
          exact this
        have z1 := lst_lt hz
        have z2 := lst_best hz q q2
        have z3 := q3 z (Nat.zero_le _) z1
        rw [hz]
        unfold lsT at z2 z3
        show nI q = nI z
        exact congrArg nI (by omega)
    rw [e]
    exact hK rd re
  | f + 1, k + 1, x5, x6, rd, re, hk, hf, hI => by
    have h8 := hq.2.2.1
    rw [f_L_least_L14, nI_pred, if_neg (show ¬ nI k < (0 : Int32) from nI_pos (by omega))]
    refine wp_bind (wp_mono (loss_ok hN hb hq hr rd re (show k < b 0 by omega)) (fun r hr1 => ?_))
    rw [hr1]
    have hc := cost_le hb none
    have hck := cW_le hb k
    have e1 : nI k + (-1) = nI k - 1 := dn_m1 _
    unfold jn
    dsimp only
    rw [e1]
    have hrec : ∀ y5 y6, lsI b k y5 y6 → wp (f_L_least_L14 N ra rb rc K f y5 y6 (nI k - 1) r.2.1 r.2.2) P := fun y5 y6 hy => least_L hN hb hq hr hK f k y5 y6 r.2.1 r.2.2 (by omega) (by omega) hy
    rcases hI with ⟨rfl, rfl, e⟩ | ⟨q, q0, q2, rfl, rfl, q3⟩
    · rw [if_pos (show (-6 : Int32) < 0 by decide), if_neg n10, if_neg n10]
      refine hrec _ _ (Or.inr ⟨k, Nat.le_refl _, by omega, rfl, rfl, fun z z1 z2 => ?_⟩)
      rw [show z = k by omega]
      exact Or.inr ⟨rfl, Or.inr ⟨rfl, Nat.le_refl _⟩⟩
    · have hcq := cW_le hb q
      have hpk := hb.2.2.1 k (by omega)
      have hpq := hb.2.2.1 q q2
      have stay : lsT b q k → lsI b k (nI q) (nI (cW b q) - nI (sm (cost1 b none) (b 1))) := fun h => Or.inr ⟨q, by omega, q2, rfl, rfl, fun z z1 z2 => by
        by_cases y : z = k
        · rw [y]; exact h
        · exact q3 z (by omega) z2⟩
      have go2 : cW b k < cW b q ∨ cW b k = cW b q ∧ pW b k < pW b q → lsI b k (nI k) (nI (cW b k) - nI (sm (cost1 b none) (b 1))) := fun h => Or.inr ⟨k, Nat.le_refl _, by omega, rfl, rfl, fun z z1 z2 => by
        by_cases y : z = k
        · rw [y]
          exact Or.inr ⟨rfl, Or.inr ⟨rfl, Nat.le_refl _⟩⟩
        · have := q3 z (by omega) z2
          unfold lsT at this ⊢
          omega⟩
      rw [if_neg (show ¬ nI q < (0 : Int32) from nI_pos (by omega)), show (2 : Int32) = nI 2 from rfl, pk_mul, pk_mul, nI_1, nI_1, q_ck (show 2 * k + 1 < 16 by omega) (by decide), q_ck (show 2 * q + 1 < 16 by omega) (by decide), nI_clamp (show 2 * k + 1 < 2 ^ 31 by omega), nI_clamp (show 2 * q + 1 < 2 ^ 31 by omega), (hq.2.2.2 k (by omega)).2, (hq.2.2.2 q q2).2]
      by_cases c1 : cW b k < cW b q
      · rw [if_pos ((q_dlt (by omega) (by omega) (by omega)).2 c1), if_neg n10, if_neg n10]
        exact hrec _ _ (go2 (Or.inl c1))
      · rw [if_neg (fun y => c1 ((q_dlt (by omega) (by omega) (by omega)).1 y))]
        by_cases c2 : cW b k = cW b q
        · rw [if_pos ((q_deq (by omega) (by omega) (by omega)).2 c2)]
          by_cases c3 : pW b q ≤ pW b k
          · rw [if_pos (nI_le c3 (by omega)), if_pos n00, if_pos n00]
            exact hrec _ _ (stay (by unfold lsT; omega))
          · rw [if_neg (nI_ge (show pW b k < pW b q by omega) (by omega)), if_neg n10, if_neg n10]
            exact hrec _ _ (go2 (Or.inr ⟨c2, by omega⟩))
        · rw [if_neg (fun y => c2 ((q_deq (by omega) (by omega) (by omega)).1 y)), if_pos n00, if_pos n00]
          exact hrec _ _ (stay (Or.inl (by omega)))
theorem least_ok {N : Nat} (hN : 200 < N) {ra rb rc : Nat → Int32} {b : bk} (hb : OKb b) (hq : QP ra rb b) (hr : QW rc b) (rd re : Nat → Int32) : wp (f_L_least N ra rb rd re rc) (fun r => r.1 = oI (-6) (lst b (b 0))) := by
  have h8 := hq.2.2.1
  unfold f_L_least
  rw [q_ck0 (by decide) (by decide), q_bd, show ra ((0 : Int32).toNatClampNeg) = nI (b 0) from hq.1]
  exact least_L (N := N) hN hb hq hr (K := fun (x5_14 : Int32) (rd_14 : Nat → Int32) (re_14 : Nat → Int32) => some (x5_14, rd_14, re_14)) (P := fun r => r.1 = oI (-6) (lst b (b 0))) (fun rd re => ⟨_, rfl, rfl⟩) N (b 0) _ _ rd re (Nat.le_refl _) (by omega) (Or.inl ⟨rfl, rfl, rfl⟩)
