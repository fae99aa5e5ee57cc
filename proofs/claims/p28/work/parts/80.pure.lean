/-! all that holds of both between two calls -/
def RC (ct : CV) (hi : HV) (sl : SV) (pd : PV) (b : bk) (hb : Nat → bk) (z : Nat) (v : Nat → Bool) (sb : Nat → bk) (c : Nat → Nat) (n : Nat) : Prop := OKb b ∧ CR ct b ∧ HC hi hb z ∧ SC sl v sb ∧ PC pd c n
theorem ite_bad {α : Type} {x d c : Int32} (g : x < d ∨ ¬ x ≤ c) (A B : α) : (if x < d then A else if x ≤ c then B else A) = A := by
  by_cases h : x < d
  · exact if_pos h
  · rw [if_neg h]
    exact if_neg (g.resolve_left h)
theorem n10 : ¬ (1 : Int32) = 0 := by decide
theorem n00 : (0 : Int32) = 0 := rfl
/-- two lines of rows of which all is the same but the weights and the counts -/
theorem CR_of {c c' : CV} {b b' : bk} (ob : OKb b) (hc : CR c b) (e1 : c'.1 = c.1) (e2 : c'.2.1 = c.2.1) (e3 : c'.2.2.1 = c.2.2.1) (e5 : c'.2.2.2.2.1 = c.2.2.2.2.1) (e6 : c'.2.2.2.2.2.1 = c.2.2.2.2.2.1) (e8 : c'.2.2.2.2.2.2.2 = c.2.2.2.2.2.2.2) (h0 : b' 0 = b 0) (h1 : b' 1 = b 1) (hL : ∀ p, p < b 0 → pL b' p = pL b p) (hT : ∀ p k, p < b 0 → k < 4 → pT b' p k = pT b p k) (hW : ∀ p, p < b 0 → c'.2.2.2.1 p = nI (pW b' p)) (wl : ∀ w, w < b 1 → wL b' w = wL b w) (wc : ∀ w, w < b 1 → c'.2.2.2.2.2.2.1 w = nI (wC b' w)) (wt : ∀ w k, w < b 1 → k < 12 → wT b' w k = wT b w k) : CR c' b' := by
  refine ⟨by rw [e1, h0]; exact hc.1, by rw [e5, h1]; exact hc.2.1, fun p hp => ?_, fun w hw => ?_⟩
  · rw [h0] at hp
    obtain ⟨g1, g2, g3⟩ := hc.2.2.1 p hp
    have hv := (ob.2.2.1 p hp).2.1
    rw [e2, e3, hL p hp]
    exact ⟨g1.trans (congrArg nI (cod_congr _ (fun k hk => (hT p k hp (by omega)).symm))), g2, hW p hp⟩
  · rw [h1] at hw
    obtain ⟨g1, g2, g3⟩ := hc.2.2.2 w hw
    have hv := (ob.2.2.2.1 w hw).2.1
    rw [e6, e8, wl w hw]
    exact ⟨g1, wc w hw, fun k hk => by rw [wt w k hw (by omega)]; exact g3 k hk⟩
