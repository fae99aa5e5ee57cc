/-! neighbours in the best cuts: word, place, letters, weight -/
abbrev EN : Type := Nat × Nat × Nat × Nat
abbrev NS : Type := Nat × (Nat → EN)
def sgE (b : bk) (e : EN) : Nat → Nat := fun k => wT b e.1 (e.2.1 + k)
def c8 (b : bk) (e : EN) : Nat := cod 8 (sgE b e) e.2.2.1
def c7 (b : bk) (e : EN) : Nat := cod 7 (sgE b e) e.2.2.1
def eC (b : bk) (e : EN) : Nat := wC b e.1
def VE (b : bk) (e : EN) : Prop := e.1 < b 1 ∧ 1 ≤ e.2.2.1 ∧ e.2.2.1 ≤ 4 ∧ e.2.1 + e.2.2.1 ≤ wL b e.1 ∧ 1 ≤ e.2.2.2 ∧ e.2.2.2 ≤ 9 ∧ pc b e.1 e.2.1 e.2.2.1 = none
theorem VE_seg {b : bk} (hb : OKb b) {e : EN} (h : VE b e) : ∀ k, k < e.2.2.1 → 1 ≤ sgE b e k ∧ sgE b e k ≤ 6 := fun k hk => (hb.2.2.2.1 e.1 h.1).2.2.2.2 (e.2.1 + k) (by have := h.2.2.2.1; omega)
theorem c_eq {b : bk} (hb : OKb b) {e e' : EN} (h : VE b e) (h' : VE b e') : c8 b e = c8 b e' ↔ c7 b e = c7 b e' := cod_eq (VE_seg hb h) (VE_seg hb h')
theorem c_lt {b : bk} (hb : OKb b) {e e' : EN} (h : VE b e) (h' : VE b e') : c8 b e < c8 b e' ↔ c7 b e < c7 b e' := cod_ord (VE_seg hb h) (VE_seg hb h')
theorem c8_lt {b : bk} (hb : OKb b) {e : EN} (h : VE b e) : c8 b e < 4096 := cod8_lt h.2.2.1 (fun k hk => (VE_seg hb h k hk).2)
theorem c7_lt {b : bk} (hb : OKb b) {e : EN} (h : VE b e) : c7 b e < 2401 := cod7_lt h.2.2.1 (fun k hk => (VE_seg hb h k hk).2)
theorem c7_pos {b : bk} (hb : OKb b) {e : EN} (h : VE b e) : 1 ≤ c7 b e := cod_pos h.2.1 (VE_seg hb h)
def psh (s : NS) (e : EN) : NS := (s.1 + 1, fun k => if k = s.1 then e else s.2 k)
theorem psh_lt {s : NS} {e : EN} {k : Nat} (h : k < s.1) : (psh s e).2 k = s.2 k := if_neg (by omega)
theorem psh_at (s : NS) (e : EN) : (psh s e).2 s.1 = e := if_pos rfl
/-- how often a text stands there, among the first n -/
def tot (b : bk) (E : Nat → EN) (x : Nat) : Nat → Nat
  | 0 => 0
  | k + 1 => tot b E x k + (if c7 b (E k) = x then eC b (E k) else 0)
theorem tot_congr {b : bk} {E E' : Nat → EN} {x : Nat} : ∀ n, (∀ k, k < n → E k = E' k) → tot b E x n = tot b E' x n
  | 0, _ => rfl
  | n + 1, h => by
    show tot b E x n + (if c7 b (E n) = x then eC b (E n) else 0) = tot b E' x n + (if c7 b (E' n) = x then eC b (E' n) else 0)
    rw [tot_congr n (fun k hk => h k (by omega)), h n (by omega)]
theorem tot_no {b : bk} {E : Nat → EN} {x : Nat} : ∀ n, (∀ k, k < n → c7 b (E k) ≠ x) → tot b E x n = 0
  | 0, _ => rfl
  | n + 1, h => by
    show tot b E x n + (if c7 b (E n) = x then eC b (E n) else 0) = 0
    rw [tot_no n (fun k hk => h k (by omega)), if_neg (h n (by omega))]
theorem tot_psh (b : bk) (s : NS) (e : EN) (x : Nat) : tot b (psh s e).2 x (s.1 + 1) = tot b s.2 x s.1 + (if c7 b e = x then eC b e else 0) := by
  show tot b (psh s e).2 x s.1 + (if c7 b ((psh s e).2 s.1) = x then eC b ((psh s e).2 s.1) else 0) = _
  rw [psh_at, tot_congr s.1 (fun k hk => psh_lt hk)]
def SV2 (b : bk) (s : NS) : Prop := ∀ k, k < s.1 → VE b (s.2 k)
theorem eC_b {b : bk} (hb : OKb b) {e : EN} (h : VE b e) : 1 ≤ eC b e ∧ eC b e ≤ 99 := ⟨(hb.2.2.2.1 e.1 h.1).2.2.1, (hb.2.2.2.1 e.1 h.1).2.2.2.1⟩
theorem tot_le {b : bk} (hb : OKb b) {E : Nat → EN} {x : Nat} : ∀ n, (∀ k, k < n → VE b (E k)) → tot b E x n ≤ 99 * n
  | 0, _ => Nat.le_refl _
  | n + 1, h => by
    have g := tot_le hb (x := x) n (fun k hk => h k (by omega))
    have g2 := (eC_b hb (h n (by omega))).2
    show tot b E x n + (if c7 b (E n) = x then eC b (E n) else 0) ≤ _
    split <;> omega
theorem tot_pos {b : bk} (hb : OKb b) {E : Nat → EN} {x : Nat} : ∀ n k, k < n → (∀ k, k < n → VE b (E k)) → c7 b (E k) = x → 1 ≤ tot b E x n
  | 0, _, h, _, _ => by omega
  | n + 1, k, h, hv, hx => by
    show 1 ≤ tot b E x n + (if c7 b (E n) = x then eC b (E n) else 0)
    by_cases e : k = n
    · subst e
      rw [if_pos hx]
      have := (eC_b hb (hv k (by omega))).1
      omega
    · have := tot_pos hb n k (by omega) (fun k hk => hv k (by omega)) hx
      omega
/-- the class's list of texts: z of them, fi i the first place of the i-th one -/
def NC (nb : NV) (b : bk) (s : NS) (z : Nat) (fi : Nat → Nat) : Prop := z ≤ s.1 ∧ nb.1 = nI z ∧ (∀ i, i < z → fi i < s.1 ∧ nb.2.1 i = nI (c8 b (s.2 (fi i))) ∧ nb.2.2.1 i = nI (s.2 (fi i)).2.2.1 ∧ nb.2.2.2.1 i = nI (s.2 (fi i)).2.2.2 ∧ nb.2.2.2.2 i = nI (tot b s.2 (c7 b (s.2 (fi i))) s.1)) ∧ (∀ i j, i < z → j < z → c7 b (s.2 (fi i)) = c7 b (s.2 (fi j)) → i = j) ∧ ∀ k, k < s.1 → ∃ i, i < z ∧ fi i ≤ k ∧ c7 b (s.2 (fi i)) = c7 b (s.2 k)
/-! the most frequent one -/
abbrev bt (T X : Nat → Nat) (k x : Nat) : Prop := T x < T k ∨ T k = T x ∧ X k < X x
def mf (T X : Nat → Nat) : Nat → Option Nat
  | 0 => none
  | i + 1 => match mf T X i with
    | none => some i
    | some x => if bt T X i x then some i else some x
theorem mf_s {T X : Nat → Nat} {i x : Nat} (h : mf T X i = some x) : mf T X (i + 1) = if bt T X i x then some i else some x := by
  show (match mf T X i with | none => some i | some x => if bt T X i x then some i else some x) = _
  rw [h]
theorem mf_z {T X : Nat → Nat} {i : Nat} (h : mf T X i = none) : mf T X (i + 1) = some i := by
  show (match mf T X i with | none => some i | some x => if bt T X i x then some i else some x) = _
  rw [h]
theorem mf_some {T X : Nat → Nat} (i : Nat) : ∃ x, mf T X (i + 1) = some x := by
  cases h : mf T X i with
  | none => exact ⟨i, mf_z h⟩
  | some x =>
    rw [mf_s h]
    by_cases g : bt T X i x
    · exact ⟨i, if_pos g⟩
    · exact ⟨x, if_neg g⟩
theorem mf_best {T X : Nat → Nat} : ∀ n x, mf T X n = some x → x < n ∧ ∀ k, k < n → ¬ bt T X k x ∧ (k < x → bt T X x k)
  | 0, _, h => by cases h
  | n + 1, y, h => by
    cases e : mf T X n with
    | none =>
      rw [mf_z e] at h
      cases h
      have hn : n = 0 := by
        cases n with
        | zero => rfl
        | succ m =>
          obtain ⟨x, hx⟩ := mf_some (T := T) (X := X) m
          rw [hx] at e
          cases e
      subst hn
      refine ⟨by omega, fun k hk => ⟨?_, fun g => absurd g (by omega)⟩⟩
      have : k = 0 := by omega
      subst this
      unfold bt
      omega
    | some x =>
      obtain ⟨h1, h2⟩ := mf_best n x e
      rw [mf_s e] at h
      by_cases g : bt T X n x
      · rw [if_pos g] at h
        cases h
        refine ⟨by omega, fun k hk => ?_⟩
        by_cases q : k = n
        · subst q
          refine ⟨?_, fun r => absurd r (by omega)⟩
          unfold bt
          omega
        · obtain ⟨q1, -⟩ := h2 k (by omega)
          unfold bt at g q1 ⊢
          omega
      · rw [if_neg g] at h
        cases h
        refine ⟨by omega, fun k hk => ?_⟩
        by_cases q : k = n
        · subst q
          exact ⟨g, fun r => absurd r (by omega)⟩
        · exact h2 k (by omega)
