/-! THE PURE LAYER. Numbers of the machine as numbers: nI (ints), lN (longs). -/
theorem q_ck {α : Type} {i n : Nat} {k : Option α} (h : i < n) (hn : n < 2 ^ 31) : ck (nI i) n k = k := if_neg (nI_in h hn)
theorem q_ck0 {α : Type} {n : Nat} {k : Option α} (h : 0 < n) (hn : n < 2 ^ 31) : ck 0 n k = k := q_ck (i := 0) h hn
theorem q_ckc {α : Type} {sp dp n n0 n1 : Nat} {k : Option α} (h0 : sp + n ≤ n0) (h1 : dp + n ≤ n1) (b0 : n0 < 2 ^ 31) (b1 : n1 < 2 ^ 31) : ckc (nI sp) (nI dp) (nI n) n0 n1 k = k := by
  unfold ckc
  rw [nI_clamp (show sp < 2 ^ 31 by omega), nI_clamp (show dp < 2 ^ 31 by omega), nI_clamp (show n < 2 ^ 31 by omega)]
  refine if_neg (fun h => ?_)
  rcases h with h | h | h | h | h
  · exact nI_pos (show sp < 2 ^ 31 by omega) h
  · exact nI_pos (show dp < 2 ^ 31 by omega) h
  · exact nI_pos (show n < 2 ^ 31 by omega) h
  · omega
  · omega
theorem q_nz {α : Type} {a : Nat} {k : Option α} (h : 0 < a) (hb : a < 2 ^ 31) : nzI (nI a) k = k := if_neg (nI_ne0 h hb)
theorem q_nzl {α : Type} {a : Nat} {k : Option α} (h : 0 < a) (hb : a < 2 ^ 63) : nzL (lN a) k = k := if_neg (fun e => by
  have := (pk_lEQ hb (show 0 < 2 ^ 63 by decide)).mp (show lN a = lN 0 from e)
  omega)
theorem i0 : (0 : Int32) = nI 0 := rfl
theorem i1 : (1 : Int32) = nI 1 := rfl
theorem i2 : (2 : Int32) = nI 2 := rfl
theorem i3 : (3 : Int32) = nI 3 := rfl
theorem i4 : (4 : Int32) = nI 4 := rfl
theorem i5 : (5 : Int32) = nI 5 := rfl
theorem i6 : (6 : Int32) = nI 6 := rfl
theorem i7 : (7 : Int32) = nI 7 := rfl
theorem i8 : (8 : Int32) = nI 8 := rfl
theorem i9 : (9 : Int32) = nI 9 := rfl
theorem i12 : (12 : Int32) = nI 12 := rfl
theorem i14 : (14 : Int32) = nI 14 := rfl
theorem i16 : (16 : Int32) = nI 16 := rfl
theorem i97 : (97 : Int32) = nI 97 := rfl
theorem i98 : (98 : Int32) = nI 98 := rfl
theorem i99 : (99 : Int32) = nI 99 := rfl
theorem i102 : (102 : Int32) = nI 102 := rfl
theorem i210 : (210 : Int32) = nI 210 := rfl
theorem i100k : (100000 : Int32) = nI 100000 := rfl
theorem l0 : (0 : Int64) = lN 0 := rfl
theorem l1 : (1 : Int64) = lN 1 := rfl
theorem im1 (n : Nat) : nI (n + 1) + (-1) = nI n := pk_m1 n
theorem im0 : nI 0 + (-1) = -1 := by decide
theorem im1_neg : (-1 : Int32) < nI 0 := by decide
theorem q_ltm1 {n : Nat} (h : n < 2 ^ 31) : (-1 : Int32) < nI n := Int32.lt_of_lt_of_le im1_neg (nI_pos' h)
theorem q_nem1 {n : Nat} (h : n < 2 ^ 31) : (nI n = -1) = False := by
  refine eq_false (fun e => ?_)
  have := q_ltm1 h
  rw [e] at this
  exact absurd this (by decide)
theorem q_nem6 {n : Nat} (h : n < 2 ^ 31) : (nI n = -6) = False := by
  refine eq_false (fun e => ?_)
  have := nI_pos' h
  rw [e] at this
  exact absurd this (by decide)
theorem q_lt0 {n : Nat} (h : n < 2 ^ 31) : (nI n < nI 0) = False := eq_false (nI_pos h)
theorem q_cmp {a b : Nat} (ha : a < 2 ^ 63) (hb : b < 2 ^ 63) : lg_cmp (lN a) (lN b) = if b < a then 1 else if a = b then 0 else -1 := by
  unfold lg_cmp
  by_cases h : b < a
  · rw [if_pos h, if_pos (show lN a > lN b from (pk_lLT hb ha).mpr h)]
  · rw [if_neg h, if_neg (fun e => h ((pk_lLT hb ha).mp e))]
    by_cases h2 : a = b
    · rw [if_pos h2, if_pos (by rw [h2])]
    · rw [if_neg h2, if_neg (fun e => h2 ((pk_lEQ ha hb).mp e))]
theorem q_min {a b : Nat} (ha : a < 2 ^ 31) (hb : b < 2 ^ 31) : (if nI a < nI b then nI a else nI b) = nI (if a < b then a else b) := by
  by_cases h : a < b
  · rw [if_pos h, if_pos (nI_lt h hb)]
  · rw [if_neg h, if_neg (nI_nlt (Nat.not_lt.mp h) ha)]
theorem q_ofN (n : Nat) : Int32.ofNat n = nI n := rfl
theorem upd_s (f : Nat → Int32) (k : Nat) (x : Int32) : upd f k x k = x := if_pos rfl
theorem upd_o {f : Nat → Int32} {k j : Nat} {x : Int32} (h : j ≠ k) : upd f k x j = f j := if_neg h
theorem updL_s (f : Nat → Int64) (k : Nat) (x : Int64) : vp_updL f k x k = x := if_pos rfl
theorem updL_o {f : Nat → Int64} {k j : Nat} {x : Int64} (h : j ≠ k) : vp_updL f k x j = f j := if_neg h
/-- the first of c numbers from i on with P -/
def ff (P : Nat → Prop) [DecidablePred P] : Nat → Nat → Option Nat
  | 0, _ => none
  | c + 1, i => if P i then some i else ff P c (i + 1)
theorem ff_some {P : Nat → Prop} [DecidablePred P] : ∀ {c i p : Nat}, ff P c i = some p → i ≤ p ∧ p < i + c ∧ P p ∧ ∀ q, i ≤ q → q < p → ¬ P q
  | 0, _, _, h => by cases h
  | c + 1, i, p, h => by
    unfold ff at h
    by_cases hp : P i
    · rw [if_pos hp] at h
      cases h
      exact ⟨Nat.le_refl _, by omega, hp, fun q h1 h2 => by omega⟩
    · rw [if_neg hp] at h
      obtain ⟨h1, h2, h3, h4⟩ := ff_some h
      refine ⟨by omega, by omega, h3, fun q g1 g2 => ?_⟩
      by_cases e : q = i
      · rw [e]; exact hp
      · exact h4 q (by omega) g2
theorem ff_none {P : Nat → Prop} [DecidablePred P] : ∀ {c i : Nat}, ff P c i = none → ∀ q, i ≤ q → q < i + c → ¬ P q
  | 0, _, _ => fun q h1 h2 => by omega
  | c + 1, i, h => by
    unfold ff at h
    by_cases hp : P i
    · rw [if_pos hp] at h; cases h
    · rw [if_neg hp] at h
      intro q h1 h2
      by_cases e : q = i
      · rw [e]; exact hp
      · exact ff_none h q (by omega) (by omega)
theorem ff_of {P : Nat → Prop} [DecidablePred P] {c i p : Nat} (h1 : i ≤ p) (h2 : p < i + c) (h3 : P p) (h4 : ∀ q, i ≤ q → q < p → ¬ P q) : ff P c i = some p := by
  cases h : ff P c i with
  | none => exact absurd h3 (ff_none h p h1 h2)
  | some r =>
    obtain ⟨g1, g2, g3, g4⟩ := ff_some h
    rcases Nat.lt_trichotomy r p with g | g | g
    · exact absurd g3 (h4 r g1 g)
    · rw [g]
    · exact absurd h3 (g4 p h1 g)
theorem ff_no {P : Nat → Prop} [DecidablePred P] {c i : Nat} (h : ∀ q, i ≤ q → q < i + c → ¬ P q) : ff P c i = none := by
  cases e : ff P c i with
  | none => rfl
  | some r =>
    obtain ⟨g1, g2, g3, g4⟩ := ff_some e
    exact absurd g3 (h r g1 g2)
theorem ff_congr {P P' : Nat → Prop} [DecidablePred P] [DecidablePred P'] {c i : Nat} (h : ∀ q, i ≤ q → q < i + c → (P q ↔ P' q)) : ff P c i = ff P' c i := by
  cases e : ff P' c i with
  | none => exact ff_no (fun q h1 h2 hp => ff_none e q h1 h2 ((h q h1 h2).mp hp))
  | some r =>
    obtain ⟨g1, g2, g3, g4⟩ := ff_some e
    exact ff_of g1 g2 ((h r g1 g2).mpr g3) (fun q h1 h2 hp => g4 q h1 h2 ((h q h1 (by omega)).mp hp))
/-- an answer that may be none -/
def oI (z : Int32) (o : Option Nat) : Int32 := match o with
  | none => z
  | some p => nI p
/-- x answers, and its answer is a P -/
def wp {α : Type} (x : Option α) (P : α → Prop) : Prop := ∃ r, x = some r ∧ P r
theorem wp_some {α : Type} {a : α} {P : α → Prop} (h : P a) : wp (some a) P := ⟨a, rfl, h⟩
theorem wp_bind {α β : Type} {x : Option α} {f : α → Option β} {P : β → Prop} (h : wp x (fun r => wp (f r) P)) : wp (x.bind f) P := by
  obtain ⟨r, h1, h2⟩ := h
  rw [h1]
  exact h2
theorem wp_mono {α : Type} {x : Option α} {P P' : α → Prop} (h : wp x P) (hP : ∀ r, P r → P' r) : wp x P' := by
  obtain ⟨r, h1, h2⟩ := h
  exact ⟨r, h1, hP r h2⟩
theorem q_bd {α β : Type} (a : α) (k : α → Option β) : bd a k = k a := rfl
theorem q_jn {T β : Type} (J : T) (body : T → Option β) : jn J body = body J := rfl
theorem q_1a (a : Nat) : 1 + nI a = nI (1 + a) := nI_add 1 a
theorem q_le0 {a : Nat} (h : a < 2 ^ 31) : nI a ≤ 0 ↔ a ≤ 0 := nI_leI (b := 0) h (by decide)
