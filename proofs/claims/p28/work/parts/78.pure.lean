/-! neighbours: the reference -/
theorem wp_bindE {α β : Type} {x : Option α} {a : α} {f : α → Option β} {P : β → Prop} (h : x = some a) (hk : wp (f a) P) : wp (x.bind f) P := by
  rw [h]
  exact hk
def NMf (T C G : Nat → Int32) (n : Int32) (b : bk) (s : NS) : Prop := n = nI s.1 ∧ ∀ k, k < s.1 → T k = nI (c7 b (s.2 k)) ∧ C k = nI (eC b (s.2 k)) ∧ G k = nI (s.2 k).2.2.2
theorem NMf_psh {T C G : Nat → Int32} {b : bk} {s : NS} (h : NMf T C G (nI s.1) b s) (e : EN) : NMf (upd T s.1 (nI (c7 b e))) (upd C s.1 (nI (eC b e))) (upd G s.1 (nI e.2.2.2)) (nI (s.1 + 1)) b (psh s e) := by
  refine ⟨rfl, fun k hk => ?_⟩
  have hk2 : k < s.1 + 1 := hk
  by_cases g : k = s.1
  · subst g
    rw [psh_at]
    exact ⟨upd_s _ _ _, upd_s _ _ _, upd_s _ _ _⟩
  · obtain ⟨h1, h2, h3⟩ := h.2 k (by omega)
    rw [psh_lt (show k < s.1 by omega)]
    exact ⟨(upd_o g).trans h1, (upd_o g).trans h2, (upd_o g).trans h3⟩
def moO (T : Nat → Nat) (o : Option Nat) : Int32 := match o with
  | none => 0
  | some x => nI (T x)
/-- both find the same place -/
theorem same_gr {nb : NV} {b : bk} (hb : OKb b) {z : Nat} {fi : Nat → Nat} (h : NC nb b (nA b (b 1)) z fi) : mf (tO b) (x7 b) (nA b (b 1)).1 = (mf (fun i => tO b (fi i)) (fun i => x8 b (fi i)) z).map fi := by
  obtain ⟨g1, g2⟩ := nA_ok hb (b 1) (Nat.le_refl _)
  obtain ⟨h1, -, h3, h4, h5⟩ := h
  cases z with
  | zero =>
    have e : (nA b (b 1)).1 = 0 := by
      rcases Nat.eq_zero_or_pos (nA b (b 1)).1 with q | q
      · exact q
      · obtain ⟨i, hi, -⟩ := h5 0 q
        omega
    rw [e]
    rfl
  | succ z =>
    obtain ⟨i, hi⟩ := mf_some (T := fun i => tO b (fi i)) (X := fun i => x8 b (fi i)) z
    have h0 := (h3 0 (by omega)).1
    obtain ⟨m, hm⟩ : ∃ m, (nA b (b 1)).1 = m + 1 := ⟨(nA b (b 1)).1 - 1, by omega⟩
    obtain ⟨y, hy⟩ := mf_some (T := tO b) (X := x7 b) m
    rw [hi, hm, hy]
    obtain ⟨i1, i2⟩ := mf_best _ i hi
    obtain ⟨y1, y2⟩ := mf_best _ y hy
    have hfi := (h3 i i1).1
    have key : ∀ k, k < (nA b (b 1)).1 → ¬ bt (tO b) (x7 b) k (fi i) ∧ (k < fi i → bt (tO b) (x7 b) (fi i) k) := fun k hk => by
      obtain ⟨j, j1, j2, j3⟩ := h5 k hk
      have hfj := (h3 j j1).1
      have ex : x7 b k = x7 b (fi j) := j3.symm
      have et : tO b k = tO b (fi j) := by
        show tot b _ (x7 b k) _ = tot b _ (x7 b (fi j)) _
        rw [ex]
      have q1 := (i2 j j1).1
      have o1 : x8 b (fi j) < x8 b (fi i) ↔ x7 b (fi j) < x7 b (fi i) := c_lt hb (g1 _ hfj) (g1 _ hfi)
      have q2 : ¬ bt (tO b) (x7 b) k (fi i) := fun q => q1 (by
        rcases q with q | ⟨q, q3⟩
        · exact Or.inl (by rw [et] at q; exact q)
        · exact Or.inr ⟨et.symm.trans q, o1.2 (by rw [ex] at q3; exact q3)⟩)
      refine ⟨q2, fun hlt => ?_⟩
      have hne : x7 b k ≠ x7 b (fi i) := fun q => by
        have := h4 j i j1 i1 (j3.trans q)
        subst this
        omega
      unfold bt at q2 ⊢
      omega
    have e : y = fi i := by
      rcases Nat.lt_trichotomy y (fi i) with q | q | q
      · exact absurd ((key y (by omega)).2 q) (y2 (fi i) (by omega)).1
      · exact q
      · exact absurd ((y2 (fi i) (by omega)).2 q) (key y (by omega)).1
    rw [e]
    rfl
