/-! The book as one row of numbers b (as the reference lays it): b 0 pieces, b 1 words; piece p: b (2+6p) letters, b (3+6p) weight, b (4+6p+k) letter; word w: b (98+14w) letters, b (99+14w) count, b (100+14w+k) letter. -/
abbrev bk : Type := Nat → Nat
def pL (b : bk) (p : Nat) : Nat := b (2 + 6 * p)
def pW (b : bk) (p : Nat) : Nat := b (3 + 6 * p)
def pT (b : bk) (p k : Nat) : Nat := b (4 + 6 * p + k)
def wL (b : bk) (w : Nat) : Nat := b (98 + 14 * w)
def wC (b : bk) (w : Nat) : Nat := b (99 + 14 * w)
def wT (b : bk) (w k : Nat) : Nat := b (100 + 14 * w + k)
/-- what holds of every book -/
def OKb (b : bk) : Prop := b 0 ≤ 16 ∧ b 1 ≤ 8 ∧ (∀ p, p < b 0 → 1 ≤ pL b p ∧ pL b p ≤ 4 ∧ 1 ≤ pW b p ∧ pW b p ≤ 9 ∧ ∀ k, k < pL b p → 1 ≤ pT b p k ∧ pT b p k ≤ 6) ∧
  (∀ w, w < b 1 → 1 ≤ wL b w ∧ wL b w ≤ 12 ∧ 1 ≤ wC b w ∧ wC b w ≤ 99 ∧ ∀ k, k < wL b w → 1 ≤ wT b w k ∧ wT b w k ≤ 6) ∧
  ∀ p q, p < b 0 → q < b 0 → pL b p = pL b q → (∀ k, k < pL b p → pT b p k = pT b q k) → p = q
/-- texts as numbers: to the base B -/
def cod (B : Nat) (a : Nat → Nat) : Nat → Nat
  | 0 => 0
  | n + 1 => B * cod B a n + a n
theorem cod_lt {B : Nat} {a : Nat → Nat} (hB : 7 ≤ B) : ∀ n, (∀ k, k < n → a k ≤ 6) → cod B a n < B ^ n
  | 0, _ => by simp [cod]
  | n + 1, h => by
    have h1 := cod_lt hB n (fun k hk => h k (by omega))
    have h2 := h n (by omega)
    show B * cod B a n + a n < B ^ (n + 1)
    have h3 : B * (cod B a n + 1) ≤ B * B ^ n := Nat.mul_le_mul_left B h1
    rw [Nat.pow_succ, Nat.mul_comm (B ^ n) B]
    have h4 : B * (cod B a n + 1) = B * cod B a n + B := by rw [Nat.mul_add, Nat.mul_one]
    omega
theorem cod_ge {B : Nat} {a : Nat → Nat} (hB : 7 ≤ B) : ∀ n, (∀ k, k < n → 1 ≤ a k) → B ^ n ≤ B * cod B a n + 1
  | 0, _ => by simp [cod]
  | n + 1, h => by
    have h1 := cod_ge hB n (fun k hk => h k (by omega))
    have h2 := h n (by omega)
    show B ^ (n + 1) ≤ B * (B * cod B a n + a n) + 1
    have h3 : B * B ^ n ≤ B * (B * cod B a n + 1) := Nat.mul_le_mul_left B h1
    rw [Nat.pow_succ, Nat.mul_comm (B ^ n) B]
    have h4 : B * (B * cod B a n + 1) ≤ B * (B * cod B a n + a n) := Nat.mul_le_mul_left B (by omega)
    omega
theorem cod_congr {B : Nat} {a a' : Nat → Nat} : ∀ n, (∀ k, k < n → a k = a' k) → cod B a n = cod B a' n
  | 0, _ => rfl
  | n + 1, h => by
    show B * cod B a n + a n = B * cod B a' n + a' n
    rw [cod_congr n (fun k hk => h k (by omega)), h n (by omega)]
/-- letters 1 to 6: a shorter text has the lesser number -/
theorem cod_len {B : Nat} {a a' : Nat → Nat} (hB : 7 ≤ B) {n m : Nat} (h : n < m) (ha : ∀ k, k < n → 1 ≤ a k ∧ a k ≤ 6) (ha' : ∀ k, k < m → 1 ≤ a' k ∧ a' k ≤ 6) : cod B a n < cod B a' m := by
  have h1 : ∀ n, (∀ k, k < n → a k ≤ 6) → B * cod B a n + 1 < B ^ (n + 1) ∧ 6 * B ^ n ≥ 6 * cod B a n := fun n h => by
    have := cod_lt hB n h
    refine ⟨?_, Nat.mul_le_mul_left 6 (Nat.le_of_lt this)⟩
    have h3 : B * (cod B a n + 1) ≤ B * B ^ n := Nat.mul_le_mul_left B this
    rw [Nat.pow_succ, Nat.mul_comm (B ^ n) B]
    have h4 : B * (cod B a n + 1) = B * cod B a n + B := by rw [Nat.mul_add, Nat.mul_one]
    omega
  have h2 := (h1 n (fun k hk => (ha k hk).2)).1
  have h3 := cod_ge hB m (fun k hk => (ha' k hk).1)
  have h4 : B ^ (n + 1) ≤ B ^ m := Nat.pow_le_pow_right (by omega) h
  have h5 : B * cod B a n < B * cod B a' m := by omega
  exact Nat.lt_of_mul_lt_mul_left h5
theorem cod_inj {B : Nat} {a a' : Nat → Nat} (hB : 7 ≤ B) : ∀ {n m : Nat}, (∀ k, k < n → 1 ≤ a k ∧ a k ≤ 6) → (∀ k, k < m → 1 ≤ a' k ∧ a' k ≤ 6) → cod B a n = cod B a' m → n = m ∧ ∀ k, k < n → a k = a' k := by
  intro n m ha ha' he
  have hn : n = m := by
    rcases Nat.lt_trichotomy n m with g | g | g
    · have := cod_len hB g ha ha'; omega
    · exact g
    · have := cod_len hB g ha' ha; omega
  subst hn
  refine ⟨rfl, ?_⟩
  have key : ∀ n, (∀ k, k < n → 1 ≤ a k ∧ a k ≤ 6) → (∀ k, k < n → 1 ≤ a' k ∧ a' k ≤ 6) → cod B a n = cod B a' n → ∀ k, k < n → a k = a' k := by
    intro n
    induction n with
    | zero => intro _ _ _ k hk; omega
    | succ n ih =>
      intro ha ha' he k hk
      have e : B * cod B a n + a n = B * cod B a' n + a' n := he
      have h1 := ha n (by omega)
      have h2 := ha' n (by omega)
      have h3 : a n = a' n := by
        have := congrArg (fun x => x % B) e
        simp only [Nat.mul_add_mod] at this
        rwa [Nat.mod_eq_of_lt (by omega), Nat.mod_eq_of_lt (by omega)] at this
      have h4 : cod B a n = cod B a' n := by
        have : B * cod B a n = B * cod B a' n := by omega
        exact Nat.eq_of_mul_eq_mul_left (by omega) this
      by_cases g : k = n
      · rw [g]; exact h3
      · exact ih (fun k hk => ha k (by omega)) (fun k hk => ha' k (by omega)) h4 k (by omega)
  exact key n ha ha' he
/-- the order of two texts is the same to each base -/
theorem cod_lex {a a' : Nat → Nat} : ∀ {n : Nat}, (∀ k, k < n → 1 ≤ a k ∧ a k ≤ 6) → (∀ k, k < n → 1 ≤ a' k ∧ a' k ≤ 6) → (cod 8 a n < cod 8 a' n ↔ cod 7 a n < cod 7 a' n)
  | 0, _, _ => by simp [cod]
  | n + 1, ha, ha' => by
    have ih := cod_lex (n := n) (fun k hk => ha k (by omega)) (fun k hk => ha' k (by omega))
    have h1 := ha n (by omega)
    have h2 := ha' n (by omega)
    have e : cod 8 a n = cod 8 a' n ↔ cod 7 a n = cod 7 a' n := by
      constructor
      · intro h
        exact cod_congr n (cod_inj (by omega) (fun k hk => ha k (by omega)) (fun k hk => ha' k (by omega)) h).2
      · intro h
        exact cod_congr n (cod_inj (by omega) (fun k hk => ha k (by omega)) (fun k hk => ha' k (by omega)) h).2
    show 8 * cod 8 a n + a n < 8 * cod 8 a' n + a' n ↔ 7 * cod 7 a n + a n < 7 * cod 7 a' n + a' n
    by_cases g : cod 8 a n < cod 8 a' n
    · have g2 := ih.mp g
      constructor <;> intro _ <;> omega
    · by_cases g3 : cod 8 a n = cod 8 a' n
      · have g4 := e.mp g3
        constructor <;> intro _ <;> omega
      · have g5 : ¬ cod 7 a n < cod 7 a' n := fun h => g (ih.mpr h)
        have g6 : ¬ cod 7 a n = cod 7 a' n := fun h => g3 (e.mpr h)
        constructor <;> intro _ <;> omega
theorem cod_ord {a a' : Nat → Nat} {n m : Nat} (ha : ∀ k, k < n → 1 ≤ a k ∧ a k ≤ 6) (ha' : ∀ k, k < m → 1 ≤ a' k ∧ a' k ≤ 6) : cod 8 a n < cod 8 a' m ↔ cod 7 a n < cod 7 a' m := by
  rcases Nat.lt_trichotomy n m with g | g | g
  · exact ⟨fun _ => cod_len (by omega) g ha ha', fun _ => cod_len (by omega) g ha ha'⟩
  · subst g; exact cod_lex ha ha'
  · have h1 := cod_len (B := 8) (by omega) g ha' ha
    have h2 := cod_len (B := 7) (by omega) g ha' ha
    constructor <;> intro _ <;> omega
theorem cod_eq {a a' : Nat → Nat} {n m : Nat} (ha : ∀ k, k < n → 1 ≤ a k ∧ a k ≤ 6) (ha' : ∀ k, k < m → 1 ≤ a' k ∧ a' k ≤ 6) : cod 8 a n = cod 8 a' m ↔ cod 7 a n = cod 7 a' m := by
  constructor
  · intro h
    obtain ⟨rfl, h2⟩ := cod_inj (by omega) ha ha' h
    exact cod_congr n h2
  · intro h
    obtain ⟨rfl, h2⟩ := cod_inj (by omega) ha ha' h
    exact cod_congr n h2
/-- does piece p stand in word w at place i with L letters -/
abbrev pm (b : bk) (w i L p : Nat) : Prop := pL b p = L ∧ ∀ k, k < L → pT b p k = wT b w (i + k)

/-- the piece that stands there -/
def pc (b : bk) (w i L : Nat) : Option Nat := ff (pm b w i L) (b 0) 0
def drp (q : Option Nat) (o : Option Nat) : Option Nat := if o = q then none else o
def wgt (b : bk) (o : Option Nat) (L : Nat) : Nat := match o with
  | none => if L = 1 then 1 else 0
  | some p => pW b p
/-- the weight of a part, in a book that lacks q -/
def Wf (b : bk) (w : Nat) (q : Option Nat) (i L : Nat) : Nat := wgt b (drp q (pc b w i L)) L
def ml (n i : Nat) : Nat := if n - i < 4 then n - i else 4
theorem ml_le {n i : Nat} : ml n i ≤ 4 ∧ ml n i ≤ n - i := by unfold ml; split <;> omega
theorem ml_pos {n i : Nat} (h : i < n) : 1 ≤ ml n i := by unfold ml; split <;> omega
/-- the best cut from place i on: product, parts, letters of the first part; its first part among those of at most L letters -/
def bsL (W : Nat → Nat → Nat) (n i L : Nat) : Nat × Nat × Nat :=
  match L with
  | 0 => (0, 0, 0)
  | L + 1 =>
    let r := bsL W n i L
    let t := if h : i + (L + 1) < n then bsL W n (i + (L + 1)) (ml n (i + (L + 1))) else (1, 0, 0)
    if 0 < W i (L + 1) ∧ (r.1 < W i (L + 1) * t.1 ∨ W i (L + 1) * t.1 = r.1 ∧ 1 + t.2.1 ≤ r.2.1) then (W i (L + 1) * t.1, 1 + t.2.1, L + 1) else r
termination_by (n - i, L)
decreasing_by
  · exact Prod.Lex.right _ (by omega)
  · exact Prod.Lex.left _ _ (by omega)
def bs (W : Nat → Nat → Nat) (n i : Nat) : Nat × Nat × Nat := if i < n then bsL W n i (ml n i) else (1, 0, 0)
theorem bsL_0 (W : Nat → Nat → Nat) (n i : Nat) : bsL W n i 0 = (0, 0, 0) := by rw [bsL]
theorem bsL_s (W : Nat → Nat → Nat) (n i L : Nat) : bsL W n i (L + 1) = if 0 < W i (L + 1) ∧ ((bsL W n i L).1 < W i (L + 1) * (bs W n (i + (L + 1))).1 ∨ W i (L + 1) * (bs W n (i + (L + 1))).1 = (bsL W n i L).1 ∧ 1 + (bs W n (i + (L + 1))).2.1 ≤ (bsL W n i L).2.1) then (W i (L + 1) * (bs W n (i + (L + 1))).1, 1 + (bs W n (i + (L + 1))).2.1, L + 1) else bsL W n i L := by
  rw [bsL]
  have e : (if h : i + (L + 1) < n then bsL W n (i + (L + 1)) (ml n (i + (L + 1))) else (1, 0, 0)) = bs W n (i + (L + 1)) := by
    unfold bs
    by_cases h : i + (L + 1) < n
    · rw [dif_pos h, if_pos h]
    · rw [dif_neg h, if_neg h]
  rw [e]
theorem bs_n (W : Nat → Nat → Nat) (n : Nat) : bs W n n = (1, 0, 0) := if_neg (by omega)
theorem bs_i {W : Nat → Nat → Nat} {n i : Nat} (h : i < n) : bs W n i = bsL W n i (ml n i) := if_pos h
