/-! how often a piece stands in the best cuts: the reference -/
theorem hit7 {b : bk} (hb : OKb b) {w k p : Nat} (hw : w < b 1) (hk : k < nP b w none) (hp : p < b 0) : cod 7 (fun j => wT b w (pl b w k + j)) (lk b w k) = cod 7 (pT b p) (pL b p) ↔ pp b w none k = some p := by
  obtain ⟨a1, a2, a3, a4, a5, a6⟩ := pr_ok hb hw hk
  have hv := hb.2.2.2.1 w hw
  have hu := hb.2.2.1 p hp
  rw [pp0]
  constructor
  · intro h
    obtain ⟨e1, e2⟩ := cod_inj (by omega) (fun j hj => hv.2.2.2.2 (pl b w k + j) (by omega)) hu.2.2.2.2 h
    exact pc_of hb hp ⟨e1.symm, fun j hj => (e2 j hj).symm⟩
  · intro h
    obtain ⟨-, e1, e2⟩ := pc_lt h
    rw [e1]
    exact cod_congr _ (fun j hj => (e2 j hj).symm)
/-! the sums of count: the reference -/
theorem sm_add {f g h : Nat → Nat} : ∀ n, (∀ k, k < n → h k = f k + g k) → sm h n = sm f n + sm g n
  | 0, _ => rfl
  | n + 1, e => by
    show sm h n + h n = sm f n + f n + (sm g n + g n)
    rw [sm_add n (fun k hk => e k (by omega)), e n (by omega)]
    omega
theorem cost_pu (b : bk) (n : Nat) : sm (cost1 b none) n = sm (fun w => nP b w none * wC b w) n + sm (fun w => nU b w none * wC b w) n := sm_add n (fun k _ => Nat.add_mul _ _ _)
