/-! THE LAW'S OWN SMALL METHODS over texts to the base 7 -/
def okl (a : Nat → Nat) (n : Nat) : Prop := n ≤ 7 ∧ ∀ k, k < n → 1 ≤ a k ∧ a k ≤ 6
theorem okl_le {a : Nat → Nat} {n m : Nat} (h : okl a n) (hm : m ≤ n) : okl a m := ⟨Nat.le_trans hm h.1, fun k hk => h.2 k (by omega)⟩
theorem cod77 {a : Nat → Nat} {n : Nat} (h : okl a n) : cod 7 a n < 823543 := by
  have h1 := cod_lt (B := 7) (by omega) n (fun k hk => (h.2 k hk).2)
  have h2 : 7 ^ n ≤ 7 ^ 7 := Nat.pow_le_pow_right (by decide) h.1
  have h3 : (7 : Nat) ^ 7 = 823543 := by decide
  omega
theorem cod_add (a : Nat → Nat) (i : Nat) : ∀ L, cod 7 a (i + L) = cod 7 a i * 7 ^ L + cod 7 (fun k => a (i + k)) L
  | 0 => by simp [cod]
  | L + 1 => by
    show 7 * cod 7 a (i + L) + a (i + L) = cod 7 a i * 7 ^ (L + 1) + (7 * cod 7 (fun k => a (i + k)) L + a (i + L))
    rw [cod_add a i L, Nat.pow_succ, Nat.mul_add, ← Nat.mul_assoc (cod 7 a i), Nat.mul_comm (cod 7 a i * 7 ^ L) 7]
    omega
theorem cod_seg {a : Nat → Nat} {i L : Nat} (h : ∀ k, k < L → a (i + k) ≤ 6) : cod 7 a (i + L) % 7 ^ L = cod 7 (fun k => a (i + k)) L := by
  rw [cod_add, Nat.add_comm, Nat.add_mul_mod_self_right]
  exact Nat.mod_eq_of_lt (cod_lt (by omega) L h)
theorem size_L {N : Nat} {x0 : Int32} {K : Int32 → Option Int32} {a : Nat → Nat} : ∀ (f k j : Nat), okl a k → k < f → f_L_size_L4 N x0 K f (nI j) (nI (cod 7 a k)) = K (nI (j + k))
  | 0, _, _, _, h => by omega
  | f + 1, 0, j, _, _ => by
    rw [f_L_size_L4]
    exact if_pos (show nI 0 ≤ (0 : Int32) by decide)
  | f + 1, k + 1, j, h, hk => by
    have h1 := cod_pos (B := 7) (a := a) (n := k + 1) (by omega) h.2
    have h2 := cod77 h
    rw [f_L_size_L4, if_neg (nI_nle h1 (by omega)), nI_1, show (7 : Int32) = nI 7 from rfl, pk_div (by omega) (by decide) (by decide), cod_div7 (h.2 k (by omega)).2, size_L f k (j + 1) (okl_le h (by omega)) (by omega)]
    exact congrArg (fun z => K (nI z)) (by omega)
theorem size_ok {N : Nat} (hN : 200 < N) {a : Nat → Nat} {n : Nat} (h : okl a n) : f_L_size N (nI (cod 7 a n)) = some (nI n) := by
  have h1 := h.1
  unfold f_L_size
  refine (size_L N n 0 h (by omega)).trans ?_
  rw [Nat.zero_add]
theorem some_L12 {N : Nat} {x0 x1 x2 : Int32} {K : Int32 → Option Int32} {a : Nat → Nat} {m : Nat} : ∀ (f d : Nat), okl a (m + d) → d < f → f_L_some_L12 N x0 x1 x2 K f (nI (cod 7 a (m + d))) (nI d) = K (nI (cod 7 a m))
  | 0, _, _, h => by omega
  | f + 1, 0, _, _ => by
    rw [f_L_some_L12]
    exact if_pos (show nI 0 ≤ (0 : Int32) by decide)
  | f + 1, d + 1, h, hd => by
    have h1 := h.1
    have h2 := cod77 h
    rw [f_L_some_L12, if_neg (nI_nle (by omega) (by omega)), im1, show (7 : Int32) = nI 7 from rfl, pk_div (by omega) (by decide) (by decide), show m + (d + 1) = m + d + 1 by omega, cod_div7 (h.2 (m + d) (by omega)).2]
    exact some_L12 f d (okl_le h (by omega)) (by omega)
theorem some_L34 {N : Nat} {x0 x1 x3 : Int32} {K : Int32 → Option Int32} {L : Nat} (hL : L ≤ 7) : ∀ (f j : Nat), j ≤ L → L - j < f → f_L_some_L34 N x0 x1 (nI L) x3 K f (nI (7 ^ j)) (nI j) = K (nI (7 ^ L))
  | 0, _, _, h => by omega
  | f + 1, j, h, hd => by
    rw [f_L_some_L34]
    by_cases g : L ≤ j
    · rw [if_pos (nI_le g (by omega)), show j = L by omega]
    · rw [if_neg (nI_ge (by omega) (by omega)), nI_1, show (7 : Int32) = nI 7 from rfl, pk_mul, ← Nat.pow_succ]
      exact some_L34 hL f (j + 1) (by omega) (by omega)
theorem some_ok {N : Nat} (hN : 200 < N) {a : Nat → Nat} {n i L : Nat} (h : okl a n) (hi : i + L ≤ n) : f_L_some N (nI (cod 7 a n)) (nI i) (nI L) = some (nI (cod 7 (fun k => a (i + k)) L)) := by
  have h1 := h.1
  have h2 := cod77 (okl_le h hi)
  have p1 : 0 < 7 ^ L := Nat.pow_pos (by decide)
  have p2 : 7 ^ L ≤ 7 ^ 7 := Nat.pow_le_pow_right (by decide) (by omega)
  have p3 : (7 : Nat) ^ 7 = 823543 := by decide
  unfold f_L_some
  rw [size_ok hN h, Option.bind_some, q_bd, pk_sub (show i ≤ n by omega), pk_sub (show L ≤ n - i by omega)]
  have e : n = (i + L) + (n - i - L) := by omega
  have hh := some_L12 (N := N) (x0 := nI (cod 7 a n)) (x1 := nI i) (x2 := nI L) (K := fun (x3_12 : Int32) => f_L_some_L34 N (nI (cod 7 a n)) (nI i) (nI L) x3_12 (fun (x4_34 : Int32) => nzI x4_34 (some (x3_12 - x3_12 / x4_34 * x4_34))) N 1 0) (a := a) (m := i + L) N (n - i - L) (by rw [← e]; exact h) (by omega)
  rw [← e] at hh
  refine hh.trans ?_
  refine (some_L34 (N := N) (by omega) N 0 (by omega) (by omega)).trans ?_
  rw [q_nz p1 (by omega), pk_rem (by omega) p1 (by omega), cod_seg (fun k hk => (h.2 (i + k) (by omega)).2)]
theorem low_ok (N : Nat) (x : Int32) {n : Nat} (h0 : 0 < n) (hn : n < 2 ^ 31) : ∃ j, j < n ∧ f_L_low N x (nI n) = some (nI j) := by
  obtain ⟨j, hj, e⟩ := pk_andE x (m := 2147483647) 31 (by decide)
  refine ⟨j % n, Nat.mod_lt _ h0, ?_⟩
  unfold f_L_low
  rw [q_nz h0 hn, e, pk_rem hj h0 hn]
theorem text_L {N : Nat} {x0 : Int32} {n g : Nat} (hn : n ≤ 7) (hg : 1 ≤ g) (hg6 : g ≤ 6) {K : Int32 → Option Int32} {P : Int32 → Prop} (hK : ∀ a, okl a n → wp (K (nI (cod 7 a n))) P) : ∀ (f k : Nat) (a : Nat → Nat), k ≤ n → n - k < f → okl a k → wp (f_L_text_L5 N x0 (nI n) (nI g) K f (nI (cod 7 a k)) (nI k)) P
  | 0, _, _, _, h, _ => by omega
  | f + 1, k, a, hk, hf, ha => by
    rw [f_L_text_L5]
    by_cases q : n ≤ k
    · rw [if_pos (nI_le q (by omega))]
      have e : k = n := by omega
      subst e
      exact hK a ha
    · rw [if_neg (nI_ge (by omega) (by omega))]
      obtain ⟨j, hj, e⟩ := low_ok N (x0 >>> ((2 * nI k) &&& 31)) hg (by omega)
      rw [e, Option.bind_some, q_bd, show (7 : Int32) = nI 7 from rfl, pk_mul, nI_1, nI_add, nI_1]
      have e2 : 7 * cod 7 a k + 1 + j = cod 7 (fun q => if q = k then 1 + j else a q) (k + 1) := by
        show _ = 7 * cod 7 (fun q => if q = k then 1 + j else a q) k + (if k = k then 1 + j else a k)
        rw [if_pos rfl, cod_congr (a := fun q => if q = k then 1 + j else a q) (a' := a) k (fun z hz => if_neg (by omega))]
        omega
      rw [e2]
      refine text_L hn hg hg6 hK f (k + 1) _ (by omega) (by omega) ⟨by omega, fun z hz => ?_⟩
      show 1 ≤ (if z = k then 1 + j else a z) ∧ (if z = k then 1 + j else a z) ≤ 6
      by_cases e : z = k
      · rw [if_pos e]; omega
      · rw [if_neg e]; exact ha.2 z (by omega)
theorem text_ok {N : Nat} (hN : 200 < N) (x : Int32) {n g : Nat} (hn : n ≤ 7) (hg : 1 ≤ g) (hg6 : g ≤ 6) : ∃ a, okl a n ∧ f_L_text N x (nI n) (nI g) = some (nI (cod 7 a n)) := by
  have h : wp (f_L_text N x (nI n) (nI g)) (fun r => ∃ a, okl a n ∧ r = nI (cod 7 a n)) := by
    unfold f_L_text
    exact text_L (N := N) hn hg hg6 (fun a ha => wp_some ⟨a, ha, rfl⟩) N 0 (fun _ => 0) (by omega) (by omega) ⟨by omega, fun k hk => by omega⟩
  obtain ⟨r, h1, a, h2, h3⟩ := h
  exact ⟨a, h2, by rw [h1, h3]⟩
theorem q_s31 : ∀ t, t < 31 → ((nI t &&& 31 : Int32).toBitVec.smod 32).toNat = t := by decide
theorem q_bit {c t : Nat} (hc : c < 2 ^ 31) (ht : t < 31) : (nI c >>> (nI t &&& 31)) &&& 1 = nI (c / 2 ^ t % 2) := by
  have h1 : c / 2 ^ t ≤ c := Nat.div_le_self _ _
  rw [pk_shrN hc _ t (q_s31 t ht)]
  exact pk_andN (n := c / 2 ^ t) (by omega) (m := 1) 1 (by decide)
theorem reaches_L {N : Nat} {x2 : Int32} {n c : Nat} (hn : n ≤ 7) (hc : c < 2 ^ 31) {K : Int32 → Option Int32} : ∀ (f t : Nat), t < n → n - t < f → f_L_reaches_L2 N (nI n) (nI c) x2 K f (nI t) = K (nI (t + ktR (n - 1 - t) (c / 2 ^ t)))
  | 0, _, _, h => by omega
  | f + 1, t, ht, hf => by
    have en : nI n - 1 = nI (n - 1) := pk_sub (a := n) (b := 1) (by omega)
    rw [f_L_reaches_L2, en]
    by_cases q : n - 1 ≤ t
    · rw [if_pos (nI_le q (by omega)), show n - 1 - t = 0 by omega]
      rfl
    · rw [if_neg (nI_ge (by omega) (by omega)), q_bit hc (by omega)]
      obtain ⟨m, hm⟩ : ∃ m, n - 1 - t = m + 1 := ⟨n - 1 - t - 1, by omega⟩
      have e : ktR (n - 1 - t) (c / 2 ^ t) = if c / 2 ^ t % 2 = 0 then ktR m (c / 2 ^ t / 2) + 1 else 0 := by rw [hm]; rfl
      rw [e]
      by_cases g : c / 2 ^ t % 2 = 0
      · rw [if_pos g, g, if_pos (show nI 0 = (0 : Int32) from rfl), nI_1, reaches_L hn hc f (t + 1) (by omega) (by omega), show n - 1 - (t + 1) = m by omega, show c / 2 ^ t / 2 = c / 2 ^ (t + 1) by rw [Nat.div_div_eq_div_mul, Nat.pow_succ]]
        exact congrArg (fun z => K (nI z)) (by omega)
      · rw [if_neg g, show c / 2 ^ t % 2 = 1 by omega, if_neg (show ¬ nI 1 = (0 : Int32) by decide)]
        rfl
/-- how long the part is that begins at i -/
theorem reaches_ok {N : Nat} (hN : 200 < N) {n c i : Nat} (hn : n ≤ 7) (hc : c < 2 ^ 31) (hi : i < n) : f_L_reaches N (nI n) (nI c) (nI i) = some (nI (ktR (n - 1 - i) (c / 2 ^ i) + 1)) := by
  unfold f_L_reaches
  rw [reaches_L (N := N) hn hc N i hi (by omega), pk_sub (by omega), nI_1]
  exact congrArg (fun z => some (nI z)) (by omega)
theorem bits_L {N : Nat} {c : Nat} (hc : c < 2 ^ 31) {K : Int32 → Option Int32} : ∀ (f k : Nat), k ≤ 8 → 8 - k < f → f_L_bits_L4 N (nI c) K f (nI (sm (fun k => c / 2 ^ k % 2) k)) (nI k) = K (nI (sm (fun k => c / 2 ^ k % 2) 8))
  | 0, _, _, h => by omega
  | f + 1, k, hk, hf => by
    rw [f_L_bits_L4]
    by_cases q : 8 ≤ k
    · rw [if_pos (show (8 : Int32) ≤ nI k from nI_le (a := 8) q (by omega)), show k = 8 by omega]
    · rw [if_neg (show ¬ (8 : Int32) ≤ nI k from nI_ge (b := 8) (by omega) (by decide)), q_bd, q_bit hc (by omega), nI_add, nI_1]
      exact bits_L hc f (k + 1) (by omega) (by omega)
theorem sm_first {g : Nat → Nat} : ∀ n, sm g (n + 1) = g 0 + sm (fun k => g (k + 1)) n
  | 0 => by
    show 0 + g 0 = g 0 + 0
    omega
  | n + 1 => by
    have h := sm_first (g := g) n
    show sm g (n + 1) + g (n + 1) = g 0 + (sm (fun k => g (k + 1)) n + g (n + 1))
    omega
theorem ktB_sm : ∀ m c, ktB m c = sm (fun k => c / 2 ^ k % 2) m
  | 0, _ => rfl
  | m + 1, c => by
    rw [sm_first]
    show c % 2 + ktB m (c / 2) = c / 2 ^ 0 % 2 + sm (fun k => c / 2 ^ (k + 1) % 2) m
    rw [ktB_sm m (c / 2), Nat.pow_zero, Nat.div_one]
    exact congrArg (fun z => c % 2 + z) (sm_congr m (fun k _ => by rw [dv2]))
theorem ktB_hi {m c : Nat} (hc : c < 2 ^ m) : ∀ d, ktB (m + d) c = ktB m c
  | 0 => rfl
  | d + 1 => by
    have h1 : 2 ^ m ≤ 2 ^ (m + d) := Nat.pow_le_pow_right (by omega) (by omega)
    rw [ktB_sm]
    show sm (fun k => c / 2 ^ k % 2) (m + d) + c / 2 ^ (m + d) % 2 = _
    rw [← ktB_sm, ktB_hi hc d, Nat.div_eq_of_lt (by omega)]
    rfl
theorem bits_ok {N : Nat} (hN : 200 < N) {m c : Nat} (hm : m ≤ 6) (hc : c < 2 ^ m) : f_L_bits N (nI c) = some (nI (ktB m c)) := by
  have h1 : 2 ^ m ≤ 2 ^ 6 := Nat.pow_le_pow_right (by omega) hm
  have h2 : (2 : Nat) ^ 6 = 64 := by decide
  unfold f_L_bits
  refine (bits_L (N := N) (c := c) (by omega) N 0 (by omega) (by omega)).trans ?_
  rw [← ktB_sm, show 8 = m + (8 - m) by omega, ktB_hi hc]
/-! the law's rows against the book -/
def pTx (b : bk) (p : Nat) : Nat := cod 7 (pT b p) (pL b p)
def wTx (b : bk) (w : Nat) : Nat := cod 7 (wT b w) (wL b w)
def QP (ra rb : Nat → Int32) (b : bk) : Prop := ra 0 = nI (b 0) ∧ ra 1 = nI (b 1) ∧ b 0 ≤ 8 ∧ ∀ p, p < b 0 → rb (2 * p) = nI (pTx b p) ∧ rb (2 * p + 1) = nI (pW b p)
def QW (rc : Nat → Int32) (b : bk) : Prop := b 1 ≤ 3 ∧ ∀ w, w < b 1 → wL b w ≤ 7 ∧ rc (2 * w) = nI (wTx b w) ∧ rc (2 * w + 1) = nI (wC b w)
theorem pt_ok {b : bk} (hb : OKb b) {p : Nat} (hp : p < b 0) : okl (pT b p) (pL b p) := by
  have h := hb.2.2.1 p hp
  exact ⟨by omega, fun k hk => h.2.2.2.2 k hk⟩
theorem wt_ok {b : bk} (hb : OKb b) {w : Nat} (hw : w < b 1) (h7 : wL b w ≤ 7) : okl (wT b w) (wL b w) := ⟨h7, fun k hk => (hb.2.2.2.1 w hw).2.2.2.2 k hk⟩
theorem lpiece_L {N : Nat} {ra rb : Nat → Int32} {b : bk} (hb : OKb b) (hq : QP ra rb b) {T : Nat} (hT : T < 2 ^ 31) {K : Unit → Option Int32} : ∀ (f i : Nat), i ≤ b 0 → b 0 - i < f → f_L_piece_L2 N ra rb (nI T) K f (nI i) = match ff (fun p => pTx b p = T) (b 0 - i) i with
    | none => K ()
    | some p => some (nI p)
  | 0, _, _, h => by omega
  | f + 1, i, hi, hf => by
    have h8 := hq.2.2.1
    have e0 : ra ((0 : Int32).toNatClampNeg) = nI (b 0) := hq.1
    rw [f_L_piece_L2, q_ck0 (by decide) (by decide), e0]
    by_cases g : b 0 ≤ i
    · rw [if_pos (nI_le g (by omega)), show b 0 - i = 0 by omega]
      rfl
    · obtain ⟨m, hm⟩ : ∃ m, b 0 - i = m + 1 := ⟨b 0 - i - 1, by omega⟩
      have h1 : pTx b i < 823543 := cod77 (pt_ok hb (show i < b 0 by omega))
      rw [if_neg (nI_ge (by omega) (by omega)), show (2 : Int32) = nI 2 from rfl, pk_mul, q_ck (show 2 * i < 16 by omega) (by decide), nI_clamp (show 2 * i < 2 ^ 31 by omega), (hq.2.2.2 i (by omega)).1, hm]
      show (if nI (pTx b i) = nI T then some (nI i) else _) = match (if pTx b i = T then some i else ff (fun p => pTx b p = T) m (i + 1)) with
        | none => K ()
        | some p => some (nI p)
      by_cases e : pTx b i = T
      · rw [if_pos (by rw [e]), if_pos e]
      · rw [if_neg (fun z => e ((nI_eq (show pTx b i < 2 ^ 31 by omega) hT).1 z)), if_neg e, nI_1, lpiece_L hb hq hT f (i + 1) (by omega) (by omega), show b 0 - (i + 1) = m by omega]
theorem lpiece_ok {N : Nat} (hN : 200 < N) {ra rb : Nat → Int32} {b : bk} (hb : OKb b) (hq : QP ra rb b) {T : Nat} (hT : T < 2 ^ 31) : f_L_piece N ra rb (nI T) = some (oI (-6) (ff (fun p => pTx b p = T) (b 0) 0)) := by
  have h8 := hq.2.2.1
  unfold f_L_piece
  refine (lpiece_L hb hq hT N 0 (by omega) (by omega)).trans ?_
  rw [Nat.sub_zero]
  cases ff (fun p => pTx b p = T) (b 0) 0 <;> rfl
theorem lpiece_fnd {N : Nat} (hN : 200 < N) {ra rb : Nat → Int32} {b : bk} (hb : OKb b) (hq : QP ra rb b) {a : Nat → Nat} {L : Nat} (ha : okl a L) : f_L_piece N ra rb (nI (cod 7 a L)) = some (oI (-6) (fnd b a L)) := by
  have h := cod77 ha
  rw [lpiece_ok hN hb hq (by omega)]
  refine congrArg (fun z => some (oI (-6) z)) (ff_congr (fun p _ hp => ?_))
  have h2 := pt_ok hb (show p < b 0 by omega)
  constructor
  · intro e
    obtain ⟨e1, e2⟩ := cod_inj (B := 7) (by omega) h2.2 ha.2 e
    exact ⟨e1, fun k hk => e2 k (by omega)⟩
  · rintro ⟨e1, e2⟩
    show cod 7 (pT b p) (pL b p) = cod 7 a L
    rw [e1]
    exact cod_congr L e2
/-- the part of word w that begins at i -/
theorem lpart_ok {N : Nat} (hN : 200 < N) {ra rb : Nat → Int32} {b : bk} (hb : OKb b) (hq : QP ra rb b) {w i L : Nat} (hw : w < b 1) (h7 : wL b w ≤ 7) (hi : i + L ≤ wL b w) : f_L_piece N ra rb (nI (cod 7 (fun k => wT b w (i + k)) L)) = some (oI (-6) (pc b w i L)) :=
  lpiece_fnd hN hb hq ⟨by omega, fun k hk => (wt_ok hb hw h7).2 (i + k) (by omega)⟩
theorem pc_hi {b : bk} (hb : OKb b) {w i L : Nat} (h : 4 < L) : pc b w i L = none := by
  cases e : pc b w i L with
  | none => rfl
  | some p =>
    obtain ⟨h1, h2⟩ := pc_lt e
    have h3 := (hb.2.2.1 p h1).2.1
    have h4 := h2.1
    omega
