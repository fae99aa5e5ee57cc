/-! the text of the pad, in the class; wipe -/
theorem textC_L {N : Nat} {pd : PV} {c : Nat → Nat} {n : Nat} (h : PC pd c n) (h4 : n ≤ 4) (hl : ∀ j, j < n → 97 ≤ c j ∧ c j ≤ 102) : ∀ (f k m : Nat), k + m = n → m < f → f_X6_text_L4 N pd (fun a => some a) f (nI (cod 8 (ltr c) k)) (nI k) = some (nI (cod 8 (ltr c) n))
  | 0, _, _, _, g => by omega
  | f + 1, k, 0, e, g => by
    have hn := h.1
    have e2 : k = n := by omega
    rw [f_X6_text_L4, if_pos (show pd.1 ≤ nI k by rw [h.2.1]; exact nI_le (by omega) (by omega)), e2]
  | f + 1, k, m + 1, e, g => by
    have hn := h.1
    obtain ⟨g1, g2⟩ := hl k (by omega)
    have hcd : cod 8 (ltr c) k < 4096 := cod8_lt (by omega) (fun j hj => by
      have q := hl j (by omega)
      show c j - 96 ≤ 6
      omega)
    rw [f_X6_text_L4, if_neg (show ¬ pd.1 ≤ nI k by rw [h.2.1]; exact nI_ge (by omega) (by omega)), padLet_ok h (show k < n by omega), Option.bind_some, pk_sub g1, nI_1 (c k - 97), q_sh3 hcd (by omega), q_bd, nI_1]
    have e3 : 8 * cod 8 (ltr c) k + (c k - 97 + 1) = cod 8 (ltr c) (k + 1) := by
      show _ = 8 * cod 8 (ltr c) k + (c k - 96)
      omega
    rw [e3]
    exact textC_L h h4 hl f (k + 1) m (by omega) (by omega)
theorem textC_ok {N : Nat} (hN : 16 < N) {pd : PV} {c : Nat → Nat} {n : Nat} (h : PC pd c n) (h4 : n ≤ 4) (hl : fnl c n 0 = n) : f_X6_text N pd = some (nI (cod 8 (ltr c) n)) := by
  have hn := h.1
  unfold f_X6_text
  exact textC_L h h4 (fun j hj => fnl_all c n 0 (by omega) j (by omega) (by omega)) N 0 n (by omega) (by omega)
theorem wipeC_ok {N : Nat} {pd : PV} {c : Nat → Nat} {n : Nat} (h : PC pd c n) : wp (f_X7_wipe N pd) (fun r => r.1 = nI n ∧ PC r.2 c 0) :=
  wp_some (show _ ∧ _ from ⟨h.2.1, by omega, rfl, fun k hk => absurd hk (by omega)⟩)
