/-! neighbours in the best cuts: word, place, letters, weight -/
abbrev EN : Type := Nat × Nat × Nat × Nat
abbrev NS : Type := Nat × (Nat → EN)
def sgE (b : bk) (e : EN) : Nat → Nat := fun k => wT b e.1 (e.2.1 + k)
def c8 (b : bk) (e : EN) : Nat := cod 8 (sgE b e) e.2.2.1
def c7 (b : bk) (e : EN) : Nat := cod 7 (sgE b e) e.2.2.1
def eC (b : bk) (e : EN) : Nat := wC b e.1
def VE (b : bk) (e : EN) : Prop := e.1 < b 1 ∧ 1 ≤ e.2.2.1 ∧ e.2.2.1 ≤ 4 ∧ e.2.1 + e.2.2.1 ≤ wL b e.1 ∧ 1 ≤ e.2.2.2 ∧ e.2.2.2 ≤ 9 ∧ pc b e.1 e.2.1 e.2.2.1 = none
theorem VE_seg {b : bk} (hb : OKb b) {e : EN} (h : VE b e) : ∀ k, k < e.2.2.1 → 1 ≤ sgE b e k ∧ sgE b e k ≤ 6 := fun k hk => (hb.2.2.2.1 e.1 h.1).2.2.2.2 (e.2.1 + k) (by have := h.2.2.2.1; omega)
theorem c_eq {b : bk} (hb : OKb b) {e e' : EN} (h : VE b e) (h' : VE b e') : c8 b e = c8 b e' ↔ c7 b e = c7 b e' := cod_eq (VE_seg hb h) (VE_seg hb h')
theorem c_lt {b : bk} (hb : OKb b) {e e' : EN} (h : VE b e) (h' : VE b e') : c8 b e < c8 b e' ↔ c7 b e < c7 b e' := cod_ord (VE_seg hb h) (VE_seg hb h')
theorem c8_lt {b : bk} (hb : OKb b) {e : EN} (h : VE b e) : c8 b e < 4096 := cod8_lt h.2.2.1 (fun k hk => (VE_seg hb h k hk).2)
theorem c7_lt {b : bk} (hb : OKb b) {e : EN} (h : VE b e) : c7 b e < 2401 := cod7_lt h.2.2.1 (fun k hk => (VE_seg hb h k hk).2)
theorem c7_pos {b : bk} (hb : OKb b) {e : EN} (h : VE b e) : 1 ≤ c7 b e := cod_pos h.2.1 (VE_seg hb h)
def psh (s : NS) (e : EN) : NS := (s.1 + 1, fun k => if k = s.1 then e else s.2 k)
theorem psh_lt {s : NS} {e : EN} {k : Nat} (h : k < s.1) : (psh s e).2 k = s.2 k := if_neg (by omega)
theorem psh_at (s : NS) (e : EN) : (psh s e).2 s.1 = e := if_pos rfl
/-- how often a text stands there, among the first n -/
def tot (b : bk) (E : Nat → EN) (x : Nat) : Nat → Nat
  | 0 => 0
  | k + 1 => tot b E x k + (if c7 b (E k) = x then eC b (E k) else 0)
theorem tot_congr {b : bk} {E E' : Nat → EN} {x : Nat} : ∀ n, (∀ k, k < n → E k = E' k) → tot b E x n = tot b E' x n
  | 0, _ => rfl
  | n + 1, h => by
    show tot b E x n + (if c7 b (E n) = x then eC b (E n) else 0) = tot b E' x n + (if c7 b (E' n) = x then eC b (E' n) else 0)
    rw [tot_congr n (fun k hk => h k (by omega)), h n (by omega)]
theorem tot_no {b : bk} {E : Nat → EN} {x : Nat} : ∀ n, (∀ k, k < n → c7 b (E k) ≠ x) → tot b E x n = 0
  | 0, _ => rfl
  | n + 1, h => by
    show tot b E x n + (if c7 b (E n) = x then eC b (E n) else 0) = 0
    rw [tot_no n (fun k hk => h k (by omega)), if_neg (h n (by omega))]
theorem tot_psh (b : bk) (s : NS) (e : EN) (x : Nat) : tot b (psh s e).2 x (s.1 + 1) = tot b s.2 x s.1 + (if c7 b e = x then eC b e else 0) := by
  show tot b (psh s e).2 x s.1 + (if c7 b ((psh s e).2 s.1) = x then eC b ((psh s e).2 s.1) else 0) = _
  rw [psh_at, tot_congr s.1 (fun k hk => psh_lt hk)]
def SV2 (b : bk) (s : NS) : Prop := ∀ k, k < s.1 → VE b (s.2 k)
theorem eC_b {b : bk} (hb : OKb b) {e : EN} (h : VE b e) : 1 ≤ eC b e ∧ eC b e ≤ 99 := ⟨(hb.2.2.2.1 e.1 h.1).2.2.1, (hb.2.2.2.1 e.1 h.1).2.2.2.1⟩
theorem tot_le {b : bk} (hb : OKb b) {E : Nat → EN} {x : Nat} : ∀ n, (∀ k, k < n → VE b (E k)) → tot b E x n ≤ 99 * n
  | 0, _ => Nat.le_refl _
  | n + 1, h => by
    have g := tot_le hb (x := x) n (fun k hk => h k (by omega))
    have g2 := (eC_b hb (h n (by omega))).2
    show tot b E x n + (if c7 b (E n) = x then eC b (E n) else 0) ≤ _
    split <;> omega
theorem tot_pos {b : bk} (hb : OKb b) {E : Nat → EN} {x : Nat} : ∀ n k, k < n → (∀ k, k < n → VE b (E k)) → c7 b (E k) = x → 1 ≤ tot b E x n
  | 0, _, h, _, _ => by omega
  | n + 1, k, h, hv, hx => by
    show 1 ≤ tot b E x n + (if c7 b (E n) = x then eC b (E n) else 0)
    by_cases e : k = n
    · subst e
      rw [if_pos hx]
      have := (eC_b hb (hv k (by omega))).1
      omega
    · have := tot_pos hb n k (by omega) (fun k hk => hv k (by omega)) hx
      omega
/-- the class's list of texts: z of them, fi i the first place of the i-th one -/
def NC (nb : NV) (b : bk) (s : NS) (z : Nat) (fi : Nat → Nat) : Prop := z ≤ s.1 ∧ nb.1 = nI z ∧ (∀ i, i < z → fi i < s.1 ∧ nb.2.1 i = nI (c8 b (s.2 (fi i))) ∧ nb.2.2.1 i = nI (s.2 (fi i)).2.2.1 ∧ nb.2.2.2.1 i = nI (s.2 (fi i)).2.2.2 ∧ nb.2.2.2.2 i = nI (tot b s.2 (c7 b (s.2 (fi i))) s.1)) ∧ (∀ i j, i < z → j < z → c7 b (s.2 (fi i)) = c7 b (s.2 (fi j)) → i = j) ∧ ∀ k, k < s.1 → ∃ i, i < z ∧ fi i ≤ k ∧ c7 b (s.2 (fi i)) = c7 b (s.2 k)
theorem nadd_L {N : Nat} {nb : NV} {z : Nat} (hz : nb.1 = nI z) (h88 : z ≤ 88) {x1 x2 x3 x4 : Int32} {K : Unit → Option NV} {P : NV → Prop} (hhit : ∀ i, i < z → nb.2.1 i = x1 → P (nb.1, nb.2.1, nb.2.2.1, nb.2.2.2.1, upd nb.2.2.2.2 i (nb.2.2.2.2 i + x4))) (hmiss : (∀ j, j < z → nb.2.1 j ≠ x1) → wp (K ()) P) : ∀ (f i : Nat), i ≤ z → z - i < f → (∀ j, j < i → nb.2.1 j ≠ x1) → wp (f_X5_add_L3 N x1 x2 x3 x4 nb K f (nI i)) P
  | 0, _, _, h, _ => by omega
  | f + 1, i, h1, h2, h3 => by
    rw [f_X5_add_L3, hz]
    by_cases h : i < z
    · rw [if_neg (show ¬ nI z ≤ nI i from nI_ge h (by omega)), q_ck (show i < 88 by omega) (by decide), nI_clamp (show i < 2 ^ 31 by omega)]
      by_cases e : nb.2.1 i = x1
      · rw [if_pos e, q_ck (show i < 88 by omega) (by decide), q_ck (show i < 88 by omega) (by decide), ← hz]
        exact wp_some (hhit i h e)
      · rw [if_neg e, nI_1]
        exact nadd_L hz h88 hhit hmiss f (i + 1) (by omega) (by omega) (fun j hj => by
          by_cases g : j = i
          · rw [g]; exact e
          · exact h3 j (by omega))
    · rw [if_pos (show nI z ≤ nI i from nI_le (by omega) (by omega))]
      exact hmiss (fun j hj => h3 j (by omega))
theorem nadd_ok {N : Nat} (hN : 100 < N) {nb : NV} {b : bk} (hb : OKb b) {s : NS} {z : Nat} {fi : Nat → Nat} (h : NC nb b s z fi) (hv : SV2 b s) {e : EN} (he : VE b e) (h88 : s.1 < 88) : wp (f_X5_add N nb (nI (c8 b e)) (nI e.2.2.1) (nI e.2.2.2) (nI (eC b e))) (fun r => ∃ z' fi', NC r b (psh s e) z' fi') := by
  obtain ⟨h1, h2, h3, h4, h5⟩ := h
  have ht : ∀ i, i < z → (nb.2.1 i = nI (c8 b e) ↔ c7 b (s.2 (fi i)) = c7 b e) := fun i hi => by
    obtain ⟨g1, g2, -⟩ := h3 i hi
    have q1 := c8_lt hb (hv (fi i) g1)
    have q2 := c8_lt hb he
    rw [g2, nI_eq (by omega) (by omega)]
    exact c_eq hb (hv (fi i) g1) he
  unfold f_X5_add
  refine nadd_L h2 (by omega) (fun i hi hx => ?_) (fun hno => ?_) N 0 (Nat.zero_le _) (by omega) (fun j hj => absurd hj (by omega))
  · have hx7 := (ht i hi).1 hx
    refine ⟨z, fi, show z ≤ s.1 + 1 by omega, h2, fun j hj => ?_, fun j k hj hk hjk => ?_, fun k hk => ?_⟩
    · obtain ⟨g1, g2, g3, g4, g5⟩ := h3 j hj
      have e1 := psh_lt (e := e) g1
      refine ⟨show fi j < s.1 + 1 by omega, by rw [e1]; exact g2, by rw [e1]; exact g3, by rw [e1]; exact g4, ?_⟩
      rw [e1]
      show upd nb.2.2.2.2 i (nb.2.2.2.2 i + nI (eC b e)) j = nI (tot b (psh s e).2 (c7 b (s.2 (fi j))) (s.1 + 1))
      rw [tot_psh]
      by_cases g : j = i
      · subst g
        rw [if_pos hx7.symm, g5, nI_add]
        exact upd_s _ _ _
      · rw [if_neg (fun q => g (h4 j i hj hi (q.symm.trans hx7.symm))), Nat.add_zero]
        exact (upd_o g).trans g5
    · have e1 := psh_lt (e := e) (h3 j hj).1
      have e2 := psh_lt (e := e) (h3 k hk).1
      rw [e1, e2] at hjk
      exact h4 j k hj hk hjk
    · have hk2 : k < s.1 + 1 := hk
      by_cases g : k = s.1
      · subst g
        refine ⟨i, hi, Nat.le_of_lt (h3 i hi).1, ?_⟩
        rw [psh_lt (h3 i hi).1, psh_at]
        exact hx7
      · obtain ⟨j, q1, q2, q3⟩ := h5 k (by omega)
        refine ⟨j, q1, q2, ?_⟩
        rw [psh_lt (h3 j q1).1, psh_lt (show k < s.1 by omega)]
        exact q3
  · have hno7 : ∀ k, k < s.1 → c7 b (s.2 k) ≠ c7 b e := fun k hk q => by
      obtain ⟨j, q1, q2, q3⟩ := h5 k hk
      exact hno j q1 ((ht j q1).2 (q3.trans q))
    rw [h2, if_pos (show nI z < (88 : Int32) from nI_lt (b := 88) (by omega) (by decide)), q_ck (show z < 88 by omega) (by decide), q_ck (show z < 88 by omega) (by decide), q_ck (show z < 88 by omega) (by decide), q_ck (show z < 88 by omega) (by decide), nI_clamp (show z < 2 ^ 31 by omega), nI_1]
    have hfi : ∀ i, i < z → (fun i => if i = z then s.1 else fi i) i = fi i := fun i hi => if_neg (by omega)
    have hfz : (fun i => if i = z then s.1 else fi i) z = s.1 := if_pos rfl
    refine wp_some ⟨z + 1, fun i => if i = z then s.1 else fi i, show z + 1 ≤ s.1 + 1 by omega, rfl, fun j hj => ?_, fun j k hj hk hjk => ?_, fun k hk => ?_⟩
    · by_cases g : j = z
      · subst g
        rw [hfz, psh_at]
        refine ⟨show s.1 < s.1 + 1 by omega, upd_s _ _ _, upd_s _ _ _, upd_s _ _ _, (upd_s _ _ _).trans ?_⟩
        show nI (eC b e) = nI (tot b (psh s e).2 (c7 b e) (s.1 + 1))
        rw [tot_psh, if_pos rfl, tot_no s.1 hno7, Nat.zero_add]
      · have hj2 : j < z := by omega
        obtain ⟨g1, g2, g3, g4, g5⟩ := h3 j hj2
        rw [hfi j hj2, psh_lt g1]
        refine ⟨show fi j < s.1 + 1 by omega, (upd_o g).trans g2, (upd_o g).trans g3, (upd_o g).trans g4, (upd_o g).trans ?_⟩
        show _ = nI (tot b (psh s e).2 (c7 b (s.2 (fi j))) (s.1 + 1))
        rw [tot_psh, if_neg (fun q => hno7 (fi j) g1 q.symm), Nat.add_zero]
        exact g5
    · by_cases g : j = z
      · by_cases g2 : k = z
        · rw [g, g2]
        · have hk2 : k < z := by omega
          subst g
          rw [hfz, hfi k hk2, psh_at, psh_lt (h3 k hk2).1] at hjk
          exact absurd hjk.symm (hno7 (fi k) (h3 k hk2).1)
      · have hj2 : j < z := by omega
        by_cases g2 : k = z
        · subst g2
          rw [hfz, hfi j hj2, psh_at, psh_lt (h3 j hj2).1] at hjk
          exact absurd hjk (hno7 (fi j) (h3 j hj2).1)
        · have hk2 : k < z := by omega
          rw [hfi j hj2, hfi k hk2, psh_lt (h3 j hj2).1, psh_lt (h3 k hk2).1] at hjk
          exact h4 j k hj2 hk2 hjk
    · have hk2 : k < s.1 + 1 := hk
      by_cases g : k = s.1
      · subst g
        refine ⟨z, by omega, by rw [hfz]; exact Nat.le_refl _, by rw [hfz]⟩
      · obtain ⟨j, q1, q2, q3⟩ := h5 k (by omega)
        refine ⟨j, by omega, by rw [hfi j q1]; exact q2, ?_⟩
        rw [hfi j q1, psh_lt (h3 j q1).1, psh_lt (show k < s.1 by omega)]
        exact q3
/-! the most frequent one -/
abbrev bt (T X : Nat → Nat) (k x : Nat) : Prop := T x < T k ∨ T k = T x ∧ X k < X x
def mf (T X : Nat → Nat) : Nat → Option Nat
  | 0 => none
  | i + 1 => match mf T X i with
    | none => some i
    | some x => if bt T X i x then some i else some x
theorem mf_s {T X : Nat → Nat} {i x : Nat} (h : mf T X i = some x) : mf T X (i + 1) = if bt T X i x then some i else some x := by
  show (match mf T X i with | none => some i | some x => if bt T X i x then some i else some x) = _
  rw [h]
theorem mf_z {T X : Nat → Nat} {i : Nat} (h : mf T X i = none) : mf T X (i + 1) = some i := by
  show (match mf T X i with | none => some i | some x => if bt T X i x then some i else some x) = _
  rw [h]
theorem mf_some {T X : Nat → Nat} (i : Nat) : ∃ x, mf T X (i + 1) = some x := by
  cases h : mf T X i with
  | none => exact ⟨i, mf_z h⟩
  | some x =>
    rw [mf_s h]
    by_cases g : bt T X i x
    · exact ⟨i, if_pos g⟩
    · exact ⟨x, if_neg g⟩
theorem mf_best {T X : Nat → Nat} : ∀ n x, mf T X n = some x → x < n ∧ ∀ k, k < n → ¬ bt T X k x ∧ (k < x → bt T X x k)
  | 0, _, h => by cases h
  | n + 1, y, h => by
    cases e : mf T X n with
    | none =>
      rw [mf_z e] at h
      cases h
      have hn : n = 0 := by
        cases n with
        | zero => rfl
        | succ m =>
          obtain ⟨x, hx⟩ := mf_some (T := T) (X := X) m
          rw [hx] at e
          cases e
      subst hn
      refine ⟨by omega, fun k hk => ⟨?_, fun g => absurd g (by omega)⟩⟩
      have : k = 0 := by omega
      subst this
      unfold bt
      omega
    | some x =>
      obtain ⟨h1, h2⟩ := mf_best n x e
      rw [mf_s e] at h
      by_cases g : bt T X n x
      · rw [if_pos g] at h
        cases h
        refine ⟨by omega, fun k hk => ?_⟩
        by_cases q : k = n
        · subst q
          refine ⟨?_, fun r => absurd r (by omega)⟩
          unfold bt
          omega
        · obtain ⟨q1, -⟩ := h2 k (by omega)
          unfold bt at g q1 ⊢
          omega
      · rw [if_neg g] at h
        cases h
        refine ⟨by omega, fun k hk => ?_⟩
        by_cases q : k = n
        · subst q
          exact ⟨g, fun r => absurd r (by omega)⟩
        · exact h2 k (by omega)
theorem mostF_L {N : Nat} {nb : NV} {z : Nat} (hz : nb.1 = nI z) (h88 : z ≤ 88) {T X : Nat → Nat} (hT : ∀ i, i < z → nb.2.2.2.2 i = nI (T i) ∧ T i < 2 ^ 31 ∧ nb.2.1 i = nI (X i) ∧ X i < 2 ^ 31) {K : Int32 → Option Int32} : ∀ (f i : Nat), i ≤ z → z - i < f → f_X5_mostFrequent_L4 N nb K f (oI (-1) (mf T X i)) (nI i) = K (oI (-1) (mf T X z))
  | 0, _, _, h => by omega
  | f + 1, i, h1, h2 => by
    rw [f_X5_mostFrequent_L4, hz]
    by_cases h : i < z
    · rw [if_neg (show ¬ nI z ≤ nI i from nI_ge h (by omega)), nI_1]
      have ih := mostF_L (N := N) hz h88 hT (K := K) f (i + 1) (by omega) (by omega)
      cases e : mf T X i with
      | none =>
        rw [mf_z e] at ih
        rw [if_pos (show oI (-1) none < 0 by decide)]
        exact ih
      | some x =>
        have hx := (mf_best i x e).1
        obtain ⟨t1, t2, t3, t4⟩ := hT i h
        obtain ⟨u1, u2, u3, u4⟩ := hT x (by omega)
        rw [mf_s e] at ih
        show (if nI x < 0 then _ else ck (nI i) 88 (ck (nI x) 88 _)) = _
        rw [if_neg (show ¬ nI x < (0 : Int32) from nI_pos (by omega)), q_ck (show i < 88 by omega) (by decide), q_ck (show x < 88 by omega) (by decide), nI_clamp (show i < 2 ^ 31 by omega)]
        show (if nb.2.2.2.2 (nI x).toNatClampNeg < _ then _ else ck (nI i) 88 (ck (nI x) 88 (if _ = nb.2.2.2.2 (nI x).toNatClampNeg then ck (nI i) 88 (ck (nI x) 88 _) else _))) = _
        rw [nI_clamp (show x < 2 ^ 31 by omega), q_ck (show i < 88 by omega) (by decide), q_ck (show x < 88 by omega) (by decide), t1, u1]
        by_cases g1 : T x < T i
        · rw [if_pos (show bt T X i x from Or.inl g1)] at ih
          rw [if_pos (nI_lt g1 t2)]
          exact ih
        · rw [if_neg (nI_nlt (by omega) u2)]
          by_cases g2 : T i = T x
          · rw [if_pos (congrArg nI g2), q_ck (show i < 88 by omega) (by decide), q_ck (show x < 88 by omega) (by decide)]
            show (if nb.2.1 (nI x).toNatClampNeg ≤ nb.2.1 i then _ else _) = _
            rw [nI_clamp (show x < 2 ^ 31 by omega), t3, u3]
            by_cases g3 : X i < X x
            · rw [if_pos (show bt T X i x from Or.inr ⟨g2, g3⟩)] at ih
              rw [if_neg (nI_ge g3 u4)]
              exact ih
            · rw [if_neg (show ¬ bt T X i x by unfold bt; omega)] at ih
              rw [if_pos (nI_le (by omega) t4)]
              exact ih
          · rw [if_neg (fun q => g2 ((nI_eq t2 u2).1 q))]
            rw [if_neg (show ¬ bt T X i x by unfold bt; omega)] at ih
            exact ih
    · have e : i = z := by omega
      subst e
      rw [if_pos (show nI i ≤ nI i from nI_le (Nat.le_refl _) (by omega))]
theorem mostF_ok {N : Nat} (hN : 100 < N) {nb : NV} {z : Nat} (hz : nb.1 = nI z) (h88 : z ≤ 88) {T X : Nat → Nat} (hT : ∀ i, i < z → nb.2.2.2.2 i = nI (T i) ∧ T i < 2 ^ 31 ∧ nb.2.1 i = nI (X i) ∧ X i < 2 ^ 31) : f_X5_mostFrequent N nb = some (oI (-1) (mf T X z)) := by
  unfold f_X5_mostFrequent
  exact mostF_L hz h88 hT N 0 (Nat.zero_le _) (by omega)
