/-! saved states -/
def setv (mo : MV) (L V : Nat → Int32) : MV := (mo.1, mo.2.1, mo.2.2.1, mo.2.2.2.1, L, V, mo.2.2.2.2.2.2.1, mo.2.2.2.2.2.2.2.1, mo.2.2.2.2.2.2.2.2.1, mo.2.2.2.2.2.2.2.2.2.1, mo.2.2.2.2.2.2.2.2.2.2.1, mo.2.2.2.2.2.2.2.2.2.2.2.1, mo.2.2.2.2.2.2.2.2.2.2.2.2.1, mo.2.2.2.2.2.2.2.2.2.2.2.2.2.1, mo.2.2.2.2.2.2.2.2.2.2.2.2.2.2.1, mo.2.2.2.2.2.2.2.2.2.2.2.2.2.2.2.1, mo.2.2.2.2.2.2.2.2.2.2.2.2.2.2.2.2.1, mo.2.2.2.2.2.2.2.2.2.2.2.2.2.2.2.2.2)
def sg (sl : SV) : Nat → CV
  | 0 => sl.1
  | _ => sl.2.1
/-- the saved states: v s says that s is saved, sb s is what is saved there -/
def SC (sl : SV) (v : Nat → Bool) (sb : Nat → bk) : Prop := ∀ s, s < 2 → sl.2.2 s = nI (if v s then 1 else 0) ∧ (v s = true → OKb (sb s) ∧ CR (sg sl s) (sb s))
def SM (L V : Nat → Int32) (v : Nat → Bool) (sb : Nat → bk) : Prop := ∀ s, s < 2 → V s = nI (if v s then 1 else 0) ∧ (v s = true → ∀ j, j < 210 → L (210 * s + j) = nI (sb s j))
def usv (v : Nat → Bool) (x : Nat) : Nat → Bool := fun s => if s = x then true else v s
def usb (sb : Nat → bk) (x : Nat) (b : bk) : Nat → bk := fun s => if s = x then b else sb s
theorem saveC_ok {N : Nat} {ct : CV} {sl : SV} {b : bk} {v : Nat → Bool} {sb : Nat → bk} (hb : OKb b) (hc : CR ct b) (h : SC sl v sb) {x : Nat} (hx : x < 2) : wp (f_X7_save N ct sl (nI x)) (fun r => r.1 = nI (b 0) ∧ SC r.2 (usv v x) (usb sb x b)) := by
  have e2 : (nI x).toNatClampNeg = x := nI_clamp (by omega)
  unfold f_X7_save
  rw [if_neg (show ¬ nI x < (0 : Int32) from nI_pos (by omega)), if_pos (show nI x < (2 : Int32) from nI_lt (b := 2) hx (by decide)), q_ck hx (by decide)]
  obtain rfl | rfl : x = 0 ∨ x = 1 := by omega
  · rw [if_pos (show (nI 0).toNatClampNeg = 0 from e2)]
    refine wp_bind (wp_mono (copyFrom_ok _ hb hc) (fun r hr => ?_))
    rw [q_ck hx (by decide)]
    refine wp_some ⟨hc.1, fun s hs => ?_⟩
    obtain rfl | rfl : s = 0 ∨ s = 1 := by omega
    · exact ⟨(show upd sl.2.2 ((nI 0).toNatClampNeg) 1 0 = 1 by rw [e2]; exact upd_s _ _ _).trans rfl, fun _ => ⟨hb, hr⟩⟩
    · exact ⟨(show upd sl.2.2 ((nI 0).toNatClampNeg) 1 1 = sl.2.2 1 by rw [e2]; exact upd_o (by decide)).trans (h 1 hs).1, (h 1 hs).2⟩
  · rw [if_neg (show ¬ (nI 1).toNatClampNeg = 0 by rw [e2]; decide), if_pos (show (nI 1).toNatClampNeg = 1 from e2)]
    refine wp_bind (wp_mono (copyFrom_ok _ hb hc) (fun r hr => ?_))
    rw [q_ck hx (by decide)]
    refine wp_some ⟨hc.1, fun s hs => ?_⟩
    obtain rfl | rfl : s = 0 ∨ s = 1 := by omega
    · exact ⟨(show upd sl.2.2 ((nI 1).toNatClampNeg) 1 0 = sl.2.2 0 by rw [e2]; exact upd_o (by decide)).trans (h 0 hs).1, (h 0 hs).2⟩
    · exact ⟨(show upd sl.2.2 ((nI 1).toNatClampNeg) 1 1 = 1 by rw [e2]; exact upd_s _ _ _).trans rfl, fun _ => ⟨hb, hr⟩⟩
theorem saveM_ok {N : Nat} (hN : 210 < N) {mo : MV} {b : bk} {v : Nat → Bool} {sb : Nat → bk} (hs : MS mo b) (h : SM mo.2.2.2.2.1 mo.2.2.2.2.2.1 v sb) {x : Nat} (hx : x < 2) : wp (f_X8_save N mo (nI x)) (fun r => r.1 = nI (b 0) ∧ ∃ L V, r.2 = setv mo L V ∧ SM L V (usv v x) (usb sb x b)) := by
  have e2 : (nI x).toNatClampNeg = x := nI_clamp (by omega)
  unfold f_X8_save
  rw [show f_X8_within N (nI x) 0 1 = some (nI 1) from (within_ok (lo := 0) (hi := 1) (by omega) (by decide) (by decide)).trans (by rw [if_pos ⟨by omega, by omega⟩])]
  rw [Option.bind_some, if_neg (show ¬ nI 1 = (0 : Int32) by decide), show (210 : Int32) = nI 210 from rfl, pk_mul]
  refine wp_bind (wp_mono (copy_ok (N := N) (sf := 0) (st := 210 * x) hN (by decide) (by omega) (by decide) (by decide) _ _) (fun r hr => ?_))
  obtain ⟨r1, r2⟩ := hr
  rw [q_ck hx (by decide), q_ck0 (by decide) (by decide)]
  refine wp_some ⟨hs 0 (by decide), r, _, rfl, fun s hs2 => ?_⟩
  rw [e2]
  unfold usv usb
  by_cases g : s = x
  · subst g
    rw [if_pos rfl, if_pos rfl]
    refine ⟨upd_s _ _ _, fun _ j hj => ?_⟩
    have g := r1 j hj
    rw [Nat.zero_add] at g
    exact (g.trans (hs j hj)).trans (by rw [if_pos rfl])
  · rw [if_neg g, if_neg g]
    refine ⟨(upd_o g).trans (h s hs2).1, fun q j hj => ?_⟩
    rw [r2 (210 * s + j) (by omega)]
    exact (h s hs2).2 q j hj
theorem restoreC_ok {N : Nat} {ct : CV} {hi : HV} {sl : SV} {b : bk} {hb : Nat → bk} {z : Nat} {v : Nat → Bool} {sb : Nat → bk} (ob : OKb b) (hc : CR ct b) (hh : HC hi hb z) (h : SC sl v sb) {x : Nat} (hx : x < 2) (hv : v x = true) : wp (f_X7_restore N ct hi sl (nI x)) (fun r => r.1 = nI (sb x 0) ∧ CR r.2.1 (sb x) ∧ HC r.2.2 (psH hb z b) (psZ z)) := by
  have e2 : (nI x).toNatClampNeg = x := nI_clamp (by omega)
  obtain ⟨h1, h2⟩ := h x hx
  obtain ⟨h3, h4⟩ := h2 hv
  unfold f_X7_restore
  rw [if_neg (show ¬ nI x < (0 : Int32) from nI_pos (by omega)), if_pos (show nI x < (2 : Int32) from nI_lt (b := 2) hx (by decide)), q_ck hx (by decide), if_neg (show ¬ sl.2.2 ((nI x).toNatClampNeg) = 0 by rw [e2, h1, hv]; decide)]
  refine wp_bind (wp_mono (recordC_ok ob hc hh) (fun r hr => ?_))
  rw [q_ck hx (by decide)]
  obtain rfl | rfl : x = 0 ∨ x = 1 := by omega
  · rw [if_pos (show (nI 0).toNatClampNeg = 0 from e2)]
    exact wp_bind (wp_mono (copyFrom_ok _ h3 h4) (fun r2 hr2 => wp_some ⟨hr2.1, hr2, hr⟩))
  · rw [if_neg (show ¬ (nI 1).toNatClampNeg = 0 by rw [e2]; decide), if_pos (show (nI 1).toNatClampNeg = 1 from e2)]
    exact wp_bind (wp_mono (copyFrom_ok _ h3 h4) (fun r2 hr2 => wp_some ⟨hr2.1, hr2, hr⟩))
theorem restoreC_no {N : Nat} {ct : CV} {hi : HV} {sl : SV} {v : Nat → Bool} {sb : Nat → bk} (h : SC sl v sb) {x : Nat} (hx : x < 2) (hv : v x = false) : f_X7_restore N ct hi sl (nI x) = some (-5, ct, hi) := by
  have e2 : (nI x).toNatClampNeg = x := nI_clamp (by omega)
  unfold f_X7_restore
  rw [if_neg (show ¬ nI x < (0 : Int32) from nI_pos (by omega)), if_pos (show nI x < (2 : Int32) from nI_lt (b := 2) hx (by decide)), q_ck hx (by decide), if_pos (show sl.2.2 ((nI x).toNatClampNeg) = 0 by rw [e2, (h x hx).1, hv]; rfl)]
theorem restoreM_ok {N : Nat} (hN : 1050 < N) {mo : MV} {b : bk} {hb : Nat → bk} {z : Nat} {v : Nat → Bool} {sb : Nat → bk} (hs : MS mo b) (hh : HM mo.2.2.1 mo.2.2.2.1 hb z) (h : SM mo.2.2.2.2.1 mo.2.2.2.2.2.1 v sb) {x : Nat} (hx : x < 2) (hv : v x = true) : wp (f_X8_restore N mo (nI x)) (fun r => r.1 = nI (sb x 0) ∧ ∃ S H R, r.2 = sets (seth mo H R) S ∧ MS r.2 (sb x) ∧ HM H R (psH hb z b) (psZ z)) := by
  have e2 : (nI x).toNatClampNeg = x := nI_clamp (by omega)
  obtain ⟨h1, h2⟩ := h x hx
  unfold f_X8_restore
  rw [show f_X8_within N (nI x) 0 1 = some (nI 1) from (within_ok (lo := 0) (hi := 1) (by omega) (by decide) (by decide)).trans (by rw [if_pos ⟨by omega, by omega⟩])]
  rw [Option.bind_some, if_neg (show ¬ nI 1 = (0 : Int32) by decide), q_ck hx (by decide), if_neg (show ¬ mo.2.2.2.2.2.1 ((nI x).toNatClampNeg) = 0 by rw [e2, h1, hv]; decide)]
  refine wp_bind (wp_mono (recordM_ok hN hs hh) (fun r hr => ?_))
  obtain ⟨H, R, rfl, hH⟩ := hr
  rw [show (210 : Int32) = nI 210 from rfl, pk_mul]
  refine wp_bind (wp_mono (copy_ok (N := N) (sf := 210 * x) (st := 0) (by omega) (by omega) (by decide) (by decide) (by decide) _ _) (fun r hr => ?_))
  obtain ⟨r1, -⟩ := hr
  have g : ∀ k, k < 210 → r k = nI (sb x k) := fun k hk => by
    have g := r1 k hk
    rw [Nat.zero_add] at g
    exact g.trans (h2 hv k hk)
  rw [q_ck0 (by decide) (by decide)]
  refine wp_some ⟨g 0 (by decide), r, H, R, rfl, fun k hk => ?_, hH⟩
  exact (show _ = r k from rfl).trans (g k hk)
theorem restoreM_no {N : Nat} {mo : MV} {v : Nat → Bool} {sb : Nat → bk} (h : SM mo.2.2.2.2.1 mo.2.2.2.2.2.1 v sb) {x : Nat} (hx : x < 2) (hv : v x = false) : f_X8_restore N mo (nI x) = some (-5, mo) := by
  have e2 : (nI x).toNatClampNeg = x := nI_clamp (by omega)
  unfold f_X8_restore
  rw [show f_X8_within N (nI x) 0 1 = some (nI 1) from (within_ok (lo := 0) (hi := 1) (by omega) (by decide) (by decide)).trans (by rw [if_pos ⟨by omega, by omega⟩])]
  rw [Option.bind_some, if_neg (show ¬ nI 1 = (0 : Int32) by decide), q_ck hx (by decide), if_pos (show mo.2.2.2.2.2.1 ((nI x).toNatClampNeg) = 0 by rw [e2, (h x hx).1, hv]; rfl)]
