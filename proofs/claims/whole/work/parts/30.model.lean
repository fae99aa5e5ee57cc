def f_X8_copy_L3 (N : Nat) (nri : Nat) (ri : (Nat → Int32)) (nrk : Nat) (x1 : Int32) (x3 : Int32)  (K : (Nat → Int32) → Option ((Nat → Int32))) : Nat → Int32 → (Nat → Int32) → Option ((Nat → Int32))
  | 0, _, _ => none
  | n+1, x4, rk => if 210 ≤ x4 then K rk else ck (x1 + x4) nri (ck (x3 + x4) nrk (f_X8_copy_L3 N nri ri nrk x1 x3  K n (x4 + 1) (upd rk ((x3 + x4).toNatClampNeg) (ri ((x1 + x4).toNatClampNeg)))))
def f_X8_copy (N : Nat) (nri : Nat) (ri : (Nat → Int32)) (nrk : Nat) (rk : (Nat → Int32)) (x1 : Int32) (x3 : Int32) : Option ((Nat → Int32)) := f_X8_copy_L3 N nri ri nrk x1 x3  (fun (rk_3 : (Nat → Int32)) => some rk_3) N 0 rk
def f_X8_within (N : Nat) (x0 : Int32) (x1 : Int32) (x2 : Int32) : Option (Int32) := if x0 < x1 then some 0 else if x2 < x0 then some 0 else some 1
theorem zb_X8_within {N : Nat} {a b c r : Int32} (h : f_X8_within N a b c = some r) : narrow .boolean (.int r) = .int r := by
  unfold f_X8_within at h
  by_cases h1 : a < b
  · rw [if_pos h1] at h; cases h; rfl
  · rw [if_neg h1] at h
    by_cases h2 : c < a
    · rw [if_pos h2] at h; cases h; rfl
    · rw [if_neg h2] at h; cases h; rfl
def f_X8_record_L11 (N : Nat)   (K : MV → Option (MV)) : Nat → Int32 → MV → Option (MV)
  | 0, _, _ => none
  | n+1, x1, mo => if 1050 ≤ x1 then K mo else ck (x1 + 210) 1260 (ck x1 1260 (f_X8_record_L11 N   K n (x1 + 1) ((mo.1, mo.2.1, upd mo.2.2.1 (x1.toNatClampNeg) (mo.2.2.1 ((x1 + 210).toNatClampNeg)), mo.2.2.2.1, mo.2.2.2.2.1, mo.2.2.2.2.2.1, mo.2.2.2.2.2.2.1, mo.2.2.2.2.2.2.2.1, mo.2.2.2.2.2.2.2.2.1, mo.2.2.2.2.2.2.2.2.2.1, mo.2.2.2.2.2.2.2.2.2.2.1, mo.2.2.2.2.2.2.2.2.2.2.2.1, mo.2.2.2.2.2.2.2.2.2.2.2.2.1, mo.2.2.2.2.2.2.2.2.2.2.2.2.2.1, mo.2.2.2.2.2.2.2.2.2.2.2.2.2.2.1, mo.2.2.2.2.2.2.2.2.2.2.2.2.2.2.2.1, mo.2.2.2.2.2.2.2.2.2.2.2.2.2.2.2.2.1, mo.2.2.2.2.2.2.2.2.2.2.2.2.2.2.2.2.2))))
def f_X8_record (N : Nat) (mo : MV) : Option (MV) := jn (fun (mo_50 : MV) => (f_X8_copy N 210 mo_50.1 1260 mo_50.2.2.1 0 (mo_50.2.2.2.1 * 210)).bind (fun (r_67 : (Nat → Int32)) => some ((mo_50.1, mo_50.2.1, r_67, mo_50.2.2.2.1 + 1, mo_50.2.2.2.2.1, mo_50.2.2.2.2.2.1, mo_50.2.2.2.2.2.2.1, mo_50.2.2.2.2.2.2.2.1, mo_50.2.2.2.2.2.2.2.2.1, mo_50.2.2.2.2.2.2.2.2.2.1, mo_50.2.2.2.2.2.2.2.2.2.2.1, mo_50.2.2.2.2.2.2.2.2.2.2.2.1, mo_50.2.2.2.2.2.2.2.2.2.2.2.2.1, mo_50.2.2.2.2.2.2.2.2.2.2.2.2.2.1, mo_50.2.2.2.2.2.2.2.2.2.2.2.2.2.2.1, mo_50.2.2.2.2.2.2.2.2.2.2.2.2.2.2.2.1, mo_50.2.2.2.2.2.2.2.2.2.2.2.2.2.2.2.2.1, mo_50.2.2.2.2.2.2.2.2.2.2.2.2.2.2.2.2.2)))) (fun (J50 : MV → Option (MV)) => if mo.2.2.2.1 = 6 then f_X8_record_L11 N   (fun (mo_11 : MV) => J50 ((mo_11.1, mo_11.2.1, mo_11.2.2.1, mo_11.2.2.2.1 - 1, mo_11.2.2.2.2.1, mo_11.2.2.2.2.2.1, mo_11.2.2.2.2.2.2.1, mo_11.2.2.2.2.2.2.2.1, mo_11.2.2.2.2.2.2.2.2.1, mo_11.2.2.2.2.2.2.2.2.2.1, mo_11.2.2.2.2.2.2.2.2.2.2.1, mo_11.2.2.2.2.2.2.2.2.2.2.2.1, mo_11.2.2.2.2.2.2.2.2.2.2.2.2.1, mo_11.2.2.2.2.2.2.2.2.2.2.2.2.2.1, mo_11.2.2.2.2.2.2.2.2.2.2.2.2.2.2.1, mo_11.2.2.2.2.2.2.2.2.2.2.2.2.2.2.2.1, mo_11.2.2.2.2.2.2.2.2.2.2.2.2.2.2.2.2.1, mo_11.2.2.2.2.2.2.2.2.2.2.2.2.2.2.2.2.2))) N 0 mo else J50 mo)
def f_X8_isPiece (N : Nat) (mo : MV) (x1 : Int32) : Option (Int32) := ck 0 210 ((f_X8_within N  x1 0 ((mo.1 ((0 : Int32).toNatClampNeg)) - 1)).bind (fun (r_10 : Int32) => some r_10))
def f_X8_isWord (N : Nat) (mo : MV) (x1 : Int32) : Option (Int32) := ck 1 210 ((f_X8_within N  x1 0 ((mo.1 ((1 : Int32).toNatClampNeg)) - 1)).bind (fun (r_10 : Int32) => some r_10))
def f_X8_piecePart (N : Nat) (mo : MV) (x1 : Int32) (x2 : Int32) : Option (Int32) := ck ((2 + (6 * x1)) + x2) 210 (some (mo.1 (((2 + (6 * x1)) + x2).toNatClampNeg)))
def f_X8_wordPart (N : Nat) (mo : MV) (x1 : Int32) (x2 : Int32) : Option (Int32) := ck ((98 + (14 * x1)) + x2) 210 (some (mo.1 (((98 + (14 * x1)) + x2).toNatClampNeg)))
def f_X8_textOf_L4 (N : Nat) (mo : MV) (x1 : Int32)  (K : Int32 → Option (Int32)) : Nat → Int32 → Int32 → Option (Int32)
  | 0, _, _ => none
  | n+1, x2, x3 => (f_X8_piecePart N mo x1 0).bind (fun (r_8 : Int32) => if r_8 ≤ x3 then K x2 else (f_X8_piecePart N mo x1 (2 + x3)).bind (fun (r_23 : Int32) => bd ((7 * x2) + r_23) (fun (x2_1 : Int32) => f_X8_textOf_L4 N mo x1  K n x2_1 (x3 + 1))))
def f_X8_textOf (N : Nat) (mo : MV) (x1 : Int32) : Option (Int32) := f_X8_textOf_L4 N mo x1  (fun (x2_4 : Int32) => some x2_4) N 0 0
def f_X8_textIn_L6 (N : Nat) (mo : MV) (x1 : Int32) (x2 : Int32) (x3 : Int32)  (K : Int32 → Option (Int32)) : Nat → Int32 → Int32 → Option (Int32)
  | 0, _, _ => none
  | n+1, x4, x5 => if x3 ≤ x5 then K x4 else (f_X8_wordPart N mo x1 ((2 + x2) + x5)).bind (fun (r_25 : Int32) => bd ((7 * x4) + r_25) (fun (x4_1 : Int32) => f_X8_textIn_L6 N mo x1 x2 x3  K n x4_1 (x5 + 1)))
def f_X8_textIn (N : Nat) (mo : MV) (x1 : Int32) (x2 : Int32) (x3 : Int32) : Option (Int32) := f_X8_textIn_L6 N mo x1 x2 x3  (fun (x4_6 : Int32) => some x4_6) N 0 0
def f_X8_lengthOf_L4 (N : Nat) (x0 : Int32)  (K : Int32 → Option (Int32)) : Nat → Int32 → Int32 → Option (Int32)
  | 0, _, _ => none
  | n+1, x1, x2 => if x2 ≤ 0 then K x1 else f_X8_lengthOf_L4 N x0  K n (x1 + 1) (x2 / 7)
def f_X8_lengthOf (N : Nat) (x0 : Int32) : Option (Int32) := f_X8_lengthOf_L4 N x0  (fun (x1_4 : Int32) => some x1_4) N 0 x0
def f_X8_letterOf_L12 (N : Nat) (x0 : Int32) (x1 : Int32) (x2 : Int32) (K : Int32 → Option (Int32)) : Nat → Int32 → Int32 → Option (Int32)
  | 0, _, _ => none
  | n+1, x3, x4 => if x4 ≤ x1 then K x3 else f_X8_letterOf_L12 N x0 x1 x2 K n (x3 / 7) (x4 + (-1))
def f_X8_letterOf (N : Nat) (x0 : Int32) (x1 : Int32) : Option (Int32) := (f_X8_lengthOf N  x0).bind (fun (r_1 : Int32) => f_X8_letterOf_L12 N x0 x1 r_1 (fun (x3_12 : Int32) => if r_1 ≤ x1 then some ((-6)) else some ((x3_12 - x3_12 / 7 * 7) - 1)) N x0 (r_1 - 1))
def f_X8_pieceOf_L5 (N : Nat) (mo : MV) (x1 : Int32)  (K : Int32 → Option (Int32)) : Nat → Int32 → Int32 → Option (Int32)
  | 0, _, _ => none
  | n+1, x2, x3 => ck 0 210 (if (mo.1 ((0 : Int32).toNatClampNeg)) ≤ x3 then K x2 else (f_X8_textOf N mo x3).bind (fun (r_17 : Int32) => if r_17 = x1 then f_X8_pieceOf_L5 N mo x1  K n x3 (x3 + 1) else f_X8_pieceOf_L5 N mo x1  K n x2 (x3 + 1)))
def f_X8_pieceOf (N : Nat) (mo : MV) (x1 : Int32) : Option (Int32) := f_X8_pieceOf_L5 N mo x1  (fun (x2_5 : Int32) => some x2_5) N ((-6)) 0
def f_X8_weightIn (N : Nat) (mo : MV) (x1 : Int32) (x2 : Int32) (x3 : Int32) : Option (Int32) := (f_X8_textIn N mo x1 x2 x3).bind (fun (r_5 : Int32) => (f_X8_pieceOf N mo r_5).bind (fun (r_8 : Int32) => if r_8 = ((-6)) then if x3 = 1 then some 1 else some 0 else (f_X8_piecePart N mo r_8 1).bind (fun (r_24 : Int32) => some r_24)))
def f_X8_longestAt (N : Nat) (mo : MV) (x1 : Int32) (x2 : Int32) : Option (Int32) := (f_X8_wordPart N mo x1 0).bind (fun (r_3 : Int32) => if 4 ≤ (r_3 - x2) then some 4 else some (r_3 - x2))
def f_X8_findCut_L39 (N : Nat) (x1 : Int32) (x3 : Int32) (K : MV → Option (MV)) : Nat → Int32 → MV → Option (MV)
  | 0, _, _ => none
  | n+1, x4, mo => (f_X8_longestAt N mo x1 x3).bind (fun (r_44 : Int32) => if r_44 < x4 then K mo else (f_X8_weightIn N mo x1 x3 x4).bind (fun (r_55 : Int32) => ck (x3 + x4) 13 (bd (r_55.toInt64 * (mo.2.2.2.2.2.2.2.2.1 ((x3 + x4).toNatClampNeg))) (fun (x6_1 : Int64) => ck (x3 + x4) 13 (bd (1 + (mo.2.2.2.2.2.2.2.2.2.1 ((x3 + x4).toNatClampNeg))) (fun (x8_2 : Int32) => if r_55 ≤ 0 then f_X8_findCut_L39 N x1 x3 K n (x4 + 1) mo else ck x3 13 (jn (fun (_ : Unit) => ck x3 13 (ck x3 13 (ck x3 13 (f_X8_findCut_L39 N x1 x3 K n (x4 + 1) ((mo.1, mo.2.1, mo.2.2.1, mo.2.2.2.1, mo.2.2.2.2.1, mo.2.2.2.2.2.1, mo.2.2.2.2.2.2.1, mo.2.2.2.2.2.2.2.1, vp_updL mo.2.2.2.2.2.2.2.2.1 (x3.toNatClampNeg) x6_1, upd mo.2.2.2.2.2.2.2.2.2.1 (x3.toNatClampNeg) x8_2, upd mo.2.2.2.2.2.2.2.2.2.2.1 (x3.toNatClampNeg) x4, mo.2.2.2.2.2.2.2.2.2.2.2.1, mo.2.2.2.2.2.2.2.2.2.2.2.2.1, mo.2.2.2.2.2.2.2.2.2.2.2.2.2.1, mo.2.2.2.2.2.2.2.2.2.2.2.2.2.2.1, mo.2.2.2.2.2.2.2.2.2.2.2.2.2.2.2.1, mo.2.2.2.2.2.2.2.2.2.2.2.2.2.2.2.2.1, mo.2.2.2.2.2.2.2.2.2.2.2.2.2.2.2.2.2)))))) (fun (J128 : Unit → Option (MV)) => if 0 < (lg_cmp x6_1 (mo.2.2.2.2.2.2.2.2.1 (x3.toNatClampNeg))) then J128 () else ck x3 13 (if (lg_cmp x6_1 (mo.2.2.2.2.2.2.2.2.1 (x3.toNatClampNeg))) = 0 then ck x3 13 (if (mo.2.2.2.2.2.2.2.2.2.1 (x3.toNatClampNeg)) < x8_2 then f_X8_findCut_L39 N x1 x3 K n (x4 + 1) mo else J128 ()) else f_X8_findCut_L39 N x1 x3 K n (x4 + 1) mo)))))))))
def f_X8_findCut_L25 (N : Nat) (x1 : Int32)  (K : MV → Option (MV)) : Nat → Int32 → MV → Option (MV)
  | 0, _, _ => none
  | n+1, x3, mo => if x3 < 0 then K mo else ck x3 13 (f_X8_findCut_L39 N x1 x3 (fun (mo_39 : MV) => f_X8_findCut_L25 N x1  K n (x3 + (-1)) mo_39) N 1 ((mo.1, mo.2.1, mo.2.2.1, mo.2.2.2.1, mo.2.2.2.2.1, mo.2.2.2.2.2.1, mo.2.2.2.2.2.2.1, mo.2.2.2.2.2.2.2.1, vp_updL mo.2.2.2.2.2.2.2.2.1 (x3.toNatClampNeg) 0, mo.2.2.2.2.2.2.2.2.2.1, mo.2.2.2.2.2.2.2.2.2.2.1, mo.2.2.2.2.2.2.2.2.2.2.2.1, mo.2.2.2.2.2.2.2.2.2.2.2.2.1, mo.2.2.2.2.2.2.2.2.2.2.2.2.2.1, mo.2.2.2.2.2.2.2.2.2.2.2.2.2.2.1, mo.2.2.2.2.2.2.2.2.2.2.2.2.2.2.2.1, mo.2.2.2.2.2.2.2.2.2.2.2.2.2.2.2.2.1, mo.2.2.2.2.2.2.2.2.2.2.2.2.2.2.2.2.2)))
def f_X8_findCut (N : Nat) (mo : MV) (x1 : Int32) : Option (MV) := (f_X8_wordPart N mo x1 0).bind (fun (r_3 : Int32) => ck r_3 13 (ck r_3 13 (f_X8_findCut_L25 N x1  (fun (mo_25 : MV) => some mo_25) N (r_3 - 1) ((mo.1, mo.2.1, mo.2.2.1, mo.2.2.2.1, mo.2.2.2.2.1, mo.2.2.2.2.2.1, mo.2.2.2.2.2.2.1, mo.2.2.2.2.2.2.2.1, vp_updL mo.2.2.2.2.2.2.2.2.1 (r_3.toNatClampNeg) 1, upd mo.2.2.2.2.2.2.2.2.2.1 (r_3.toNatClampNeg) 0, mo.2.2.2.2.2.2.2.2.2.2.1, mo.2.2.2.2.2.2.2.2.2.2.2.1, mo.2.2.2.2.2.2.2.2.2.2.2.2.1, mo.2.2.2.2.2.2.2.2.2.2.2.2.2.1, mo.2.2.2.2.2.2.2.2.2.2.2.2.2.2.1, mo.2.2.2.2.2.2.2.2.2.2.2.2.2.2.2.1, mo.2.2.2.2.2.2.2.2.2.2.2.2.2.2.2.2.1, mo.2.2.2.2.2.2.2.2.2.2.2.2.2.2.2.2.2)))))
def f_X8_unseenIn_L4 (N : Nat) (mo : MV) (x1 : Int32)  (K : Int32 → Option (Int32)) : Nat → Int32 → Int32 → Option (Int32)
  | 0, _, _ => none
  | n+1, x2, x3 => (f_X8_wordPart N mo x1 0).bind (fun (r_8 : Int32) => if r_8 ≤ x3 then K x2 else ck x3 13 ((f_X8_textIn N mo x1 x3 (mo.2.2.2.2.2.2.2.2.2.2.1 (x3.toNatClampNeg))).bind (fun (r_25 : Int32) => (f_X8_pieceOf N mo r_25).bind (fun (r_28 : Int32) => jn (fun (s1_41 : Int32) => bd (x2 + s1_41) (fun (x2_1 : Int32) => ck x3 13 (bd (x3 + (mo.2.2.2.2.2.2.2.2.2.2.1 (x3.toNatClampNeg))) (fun (x3_2 : Int32) => f_X8_unseenIn_L4 N mo x1  K n x2_1 x3_2)))) (fun (J41 : Int32 → Option (Int32)) => if r_28 = ((-6)) then J41 1 else J41 0)))))
def f_X8_unseenIn (N : Nat) (mo : MV) (x1 : Int32) : Option (Int32) := f_X8_unseenIn_L4 N mo x1  (fun (x2_4 : Int32) => some x2_4) N 0 0
def f_X8_costOf (N : Nat) (mo : MV) (x1 : Int32) : Option (Int32 × MV) := (f_X8_findCut N mo x1).bind (fun (r_2 : MV) => ck 0 13 ((f_X8_unseenIn N r_2 x1).bind (fun (r_13 : Int32) => (f_X8_wordPart N r_2 x1 1).bind (fun (r_20 : Int32) => some (((r_2.2.2.2.2.2.2.2.2.2.1 ((0 : Int32).toNatClampNeg)) + r_13) * r_20, r_2)))))
def f_X8_allCosts_L4 (N : Nat)   (K : Int32 → MV → Option (Int32 × MV)) : Nat → Int32 → Int32 → MV → Option (Int32 × MV)
  | 0, _, _, _ => none
  | n+1, x1, x2, mo => ck 1 210 (if (mo.1 ((1 : Int32).toNatClampNeg)) ≤ x2 then K x1 mo else (f_X8_costOf N mo x2).bind (fun (r_17 : Int32 × MV) => bd (x1 + r_17.1) (fun (x1_1 : Int32) => f_X8_allCosts_L4 N   K n x1_1 (x2 + 1) r_17.2)))
def f_X8_allCosts (N : Nat) (mo : MV) : Option (Int32 × MV) := f_X8_allCosts_L4 N   (fun (x1_4 : Int32) (mo_4 : MV) => some (x1_4, mo_4)) N 0 0 mo
def f_X8_findTotals_L9 (N : Nat) (x1 : Int32) (x2 : Int32) (K : MV → Option (MV)) : Nat → Int32 → MV → Option (MV)
  | 0, _, _ => none
  | n+1, x3, mo => if x2 < x3 then K mo else jn (fun (s2_28 : Int64) => ck x3 13 (jn (fun (s2_44 : Int64) => ck x3 13 (f_X8_findTotals_L9 N x1 x2 K n (x3 + 1) ((mo.1, mo.2.1, mo.2.2.1, mo.2.2.2.1, mo.2.2.2.2.1, mo.2.2.2.2.2.1, mo.2.2.2.2.2.2.1, mo.2.2.2.2.2.2.2.1, mo.2.2.2.2.2.2.2.2.1, mo.2.2.2.2.2.2.2.2.2.1, mo.2.2.2.2.2.2.2.2.2.2.1, vp_updL mo.2.2.2.2.2.2.2.2.2.2.2.1 (x3.toNatClampNeg) s2_28, vp_updL mo.2.2.2.2.2.2.2.2.2.2.2.2.1 (x3.toNatClampNeg) s2_44, mo.2.2.2.2.2.2.2.2.2.2.2.2.2.1, mo.2.2.2.2.2.2.2.2.2.2.2.2.2.2.1, mo.2.2.2.2.2.2.2.2.2.2.2.2.2.2.2.1, mo.2.2.2.2.2.2.2.2.2.2.2.2.2.2.2.2.1, mo.2.2.2.2.2.2.2.2.2.2.2.2.2.2.2.2.2)))) (fun (J44 : Int64 → Option (MV)) => if x3 = x2 then J44 1 else J44 0))) (fun (J28 : Int64 → Option (MV)) => if x3 = 0 then J28 1 else J28 0)
def f_X8_findTotals_L61 (N : Nat) (x1 : Int32) (x2 : Int32) (x3 : Int32) (K : MV → Option (MV)) : Nat → Int32 → MV → Option (MV)
  | 0, _, _ => none
  | n+1, x4, mo => (f_X8_longestAt N mo x1 x3).bind (fun (r_66 : Int32) => if r_66 < x4 then K mo else ck (x3 + x4) 13 ((f_X8_weightIn N mo x1 x3 x4).bind (fun (r_87 : Int32) => ck x3 13 (ck (x3 + x4) 13 (f_X8_findTotals_L61 N x1 x2 x3 K n (x4 + 1) ((mo.1, mo.2.1, mo.2.2.1, mo.2.2.2.1, mo.2.2.2.2.1, mo.2.2.2.2.2.1, mo.2.2.2.2.2.2.1, mo.2.2.2.2.2.2.2.1, mo.2.2.2.2.2.2.2.2.1, mo.2.2.2.2.2.2.2.2.2.1, mo.2.2.2.2.2.2.2.2.2.2.1, vp_updL mo.2.2.2.2.2.2.2.2.2.2.2.1 ((x3 + x4).toNatClampNeg) ((mo.2.2.2.2.2.2.2.2.2.2.2.1 ((x3 + x4).toNatClampNeg)) + (r_87.toInt64 * (mo.2.2.2.2.2.2.2.2.2.2.2.1 (x3.toNatClampNeg)))), mo.2.2.2.2.2.2.2.2.2.2.2.2.1, mo.2.2.2.2.2.2.2.2.2.2.2.2.2.1, mo.2.2.2.2.2.2.2.2.2.2.2.2.2.2.1, mo.2.2.2.2.2.2.2.2.2.2.2.2.2.2.2.1, mo.2.2.2.2.2.2.2.2.2.2.2.2.2.2.2.2.1, mo.2.2.2.2.2.2.2.2.2.2.2.2.2.2.2.2.2)))))))
def f_X8_findTotals_L53 (N : Nat) (x1 : Int32) (x2 : Int32) (K : MV → Option (MV)) : Nat → Int32 → MV → Option (MV)
  | 0, _, _ => none
  | n+1, x3, mo => if x2 ≤ x3 then K mo else f_X8_findTotals_L61 N x1 x2 x3 (fun (mo_61 : MV) => f_X8_findTotals_L53 N x1 x2 K n (x3 + 1) mo_61) N 1 mo
def f_X8_findTotals_L123 (N : Nat) (x1 : Int32) (x3 : Int32) (K : MV → Option (MV)) : Nat → Int32 → MV → Option (MV)
  | 0, _, _ => none
  | n+1, x4, mo => (f_X8_longestAt N mo x1 x3).bind (fun (r_128 : Int32) => if r_128 < x4 then K mo else ck x3 13 ((f_X8_weightIn N mo x1 x3 x4).bind (fun (r_146 : Int32) => ck (x3 + x4) 13 (ck x3 13 (f_X8_findTotals_L123 N x1 x3 K n (x4 + 1) ((mo.1, mo.2.1, mo.2.2.1, mo.2.2.2.1, mo.2.2.2.2.1, mo.2.2.2.2.2.1, mo.2.2.2.2.2.2.1, mo.2.2.2.2.2.2.2.1, mo.2.2.2.2.2.2.2.2.1, mo.2.2.2.2.2.2.2.2.2.1, mo.2.2.2.2.2.2.2.2.2.2.1, mo.2.2.2.2.2.2.2.2.2.2.2.1, vp_updL mo.2.2.2.2.2.2.2.2.2.2.2.2.1 (x3.toNatClampNeg) ((mo.2.2.2.2.2.2.2.2.2.2.2.2.1 (x3.toNatClampNeg)) + (r_146.toInt64 * (mo.2.2.2.2.2.2.2.2.2.2.2.2.1 ((x3 + x4).toNatClampNeg)))), mo.2.2.2.2.2.2.2.2.2.2.2.2.2.1, mo.2.2.2.2.2.2.2.2.2.2.2.2.2.2.1, mo.2.2.2.2.2.2.2.2.2.2.2.2.2.2.2.1, mo.2.2.2.2.2.2.2.2.2.2.2.2.2.2.2.2.1, mo.2.2.2.2.2.2.2.2.2.2.2.2.2.2.2.2.2)))))))
def f_X8_findTotals_L116 (N : Nat) (x1 : Int32)  (K : MV → Option (MV)) : Nat → Int32 → MV → Option (MV)
  | 0, _, _ => none
  | n+1, x3, mo => if x3 < 0 then K mo else f_X8_findTotals_L123 N x1 x3 (fun (mo_123 : MV) => f_X8_findTotals_L116 N x1  K n (x3 + (-1)) mo_123) N 1 mo
def f_X8_findTotals (N : Nat) (mo : MV) (x1 : Int32) : Option (MV) := (f_X8_wordPart N mo x1 0).bind (fun (r_3 : Int32) => f_X8_findTotals_L9 N x1 r_3 (fun (mo_9 : MV) => f_X8_findTotals_L53 N x1 r_3 (fun (mo_53 : MV) => f_X8_findTotals_L116 N x1  (fun (mo_116 : MV) => some mo_116) N (r_3 - 1) mo_53) N 0 mo_9) N 0 mo)
def f_X8_shareIn_L20 (N : Nat) (mo : MV) (x1 : Int32) (x2 : Int32) (x3 : Int32) (x4 : Int32) (K : Int64 → Option (Int32)) : Nat → Int64 → Int32 → Option (Int32)
  | 0, _, _ => none
  | n+1, x5, x7 => (f_X8_wordPart N mo x1 0).bind (fun (r_27 : Int32) => if r_27 < (x7 + x3) then K x5 else (f_X8_textIn N mo x1 x7 x3).bind (fun (r_40 : Int32) => if r_40 = x4 then ck x7 13 ((f_X8_piecePart N mo x2 1).bind (fun (r_58 : Int32) => ck (x7 + x3) 13 (bd (x5 + (((mo.2.2.2.2.2.2.2.2.2.2.2.1 (x7.toNatClampNeg)) * r_58.toInt64) * (mo.2.2.2.2.2.2.2.2.2.2.2.2.1 ((x7 + x3).toNatClampNeg)))) (fun (x5_1 : Int64) => f_X8_shareIn_L20 N mo x1 x2 x3 x4 K n x5_1 (x7 + 1))))) else f_X8_shareIn_L20 N mo x1 x2 x3 x4 K n (x5 + 0) (x7 + 1)))
def f_X8_shareIn (N : Nat) (mo : MV) (x1 : Int32) (x2 : Int32) : Option (Int32) := (f_X8_piecePart N mo x2 0).bind (fun (r_3 : Int32) => (f_X8_textOf N mo x2).bind (fun (r_9 : Int32) => f_X8_shareIn_L20 N mo x1 x2 r_3 r_9 (fun (x5_20 : Int64) => ck 0 13 (nzL (mo.2.2.2.2.2.2.2.2.2.2.2.2.1 ((0 : Int32).toNatClampNeg)) (some (((1000 * x5_20) / (mo.2.2.2.2.2.2.2.2.2.2.2.2.1 ((0 : Int32).toNatClampNeg))).toInt32)))) N 0 0))
def f_X8_cutsOf_L9 (N : Nat) (x1 : Int32) (x2 : Int32) (K : MV → Option (Int32 × MV)) : Nat → Int32 → MV → Option (Int32 × MV)
  | 0, _, _ => none
  | n+1, x3, mo => if x2 < x3 then K mo else jn (fun (s2_29 : Int64) => ck x3 13 (f_X8_cutsOf_L9 N x1 x2 K n (x3 + 1) ((mo.1, mo.2.1, mo.2.2.1, mo.2.2.2.1, mo.2.2.2.2.1, mo.2.2.2.2.2.1, mo.2.2.2.2.2.2.1, mo.2.2.2.2.2.2.2.1, mo.2.2.2.2.2.2.2.2.1, mo.2.2.2.2.2.2.2.2.2.1, mo.2.2.2.2.2.2.2.2.2.2.1, mo.2.2.2.2.2.2.2.2.2.2.2.1, vp_updL mo.2.2.2.2.2.2.2.2.2.2.2.2.1 (x3.toNatClampNeg) s2_29, mo.2.2.2.2.2.2.2.2.2.2.2.2.2.1, mo.2.2.2.2.2.2.2.2.2.2.2.2.2.2.1, mo.2.2.2.2.2.2.2.2.2.2.2.2.2.2.2.1, mo.2.2.2.2.2.2.2.2.2.2.2.2.2.2.2.2.1, mo.2.2.2.2.2.2.2.2.2.2.2.2.2.2.2.2.2)))) (fun (J29 : Int64 → Option (Int32 × MV)) => if x3 = x2 then J29 1 else J29 0)
def f_X8_cutsOf_L47 (N : Nat) (x1 : Int32) (x3 : Int32) (K : MV → Option (Int32 × MV)) : Nat → Int32 → MV → Option (Int32 × MV)
  | 0, _, _ => none
  | n+1, x4, mo => (f_X8_longestAt N mo x1 x3).bind (fun (r_52 : Int32) => if r_52 < x4 then K mo else ck x3 13 ((f_X8_weightIn N mo x1 x3 x4).bind (fun (r_70 : Int32) => jn (fun (s3_89 : Int64) => ck x3 13 (f_X8_cutsOf_L47 N x1 x3 K n (x4 + 1) ((mo.1, mo.2.1, mo.2.2.1, mo.2.2.2.1, mo.2.2.2.2.1, mo.2.2.2.2.2.1, mo.2.2.2.2.2.2.1, mo.2.2.2.2.2.2.2.1, mo.2.2.2.2.2.2.2.2.1, mo.2.2.2.2.2.2.2.2.2.1, mo.2.2.2.2.2.2.2.2.2.2.1, mo.2.2.2.2.2.2.2.2.2.2.2.1, vp_updL mo.2.2.2.2.2.2.2.2.2.2.2.2.1 (x3.toNatClampNeg) ((mo.2.2.2.2.2.2.2.2.2.2.2.2.1 (x3.toNatClampNeg)) + s3_89), mo.2.2.2.2.2.2.2.2.2.2.2.2.2.1, mo.2.2.2.2.2.2.2.2.2.2.2.2.2.2.1, mo.2.2.2.2.2.2.2.2.2.2.2.2.2.2.2.1, mo.2.2.2.2.2.2.2.2.2.2.2.2.2.2.2.2.1, mo.2.2.2.2.2.2.2.2.2.2.2.2.2.2.2.2.2)))) (fun (J89 : Int64 → Option (Int32 × MV)) => if r_70 ≤ 0 then J89 0 else ck (x3 + x4) 13 (J89 (mo.2.2.2.2.2.2.2.2.2.2.2.2.1 ((x3 + x4).toNatClampNeg)))))))
def f_X8_cutsOf_L40 (N : Nat) (x1 : Int32)  (K : MV → Option (Int32 × MV)) : Nat → Int32 → MV → Option (Int32 × MV)
  | 0, _, _ => none
  | n+1, x3, mo => if x3 < 0 then K mo else f_X8_cutsOf_L47 N x1 x3 (fun (mo_47 : MV) => f_X8_cutsOf_L40 N x1  K n (x3 + (-1)) mo_47) N 1 mo
def f_X8_cutsOf (N : Nat) (mo : MV) (x1 : Int32) : Option (Int32 × MV) := (f_X8_wordPart N mo x1 0).bind (fun (r_3 : Int32) => f_X8_cutsOf_L9 N x1 r_3 (fun (mo_9 : MV) => f_X8_cutsOf_L40 N x1  (fun (mo_40 : MV) => ck 0 13 (some ((mo_40.2.2.2.2.2.2.2.2.2.2.2.2.1 ((0 : Int32).toNatClampNeg)).toInt32, mo_40))) N (r_3 - 1) mo_9) N 0 mo)
def f_X8_findBears_L2 (N : Nat)   (K : MV → Option (MV)) : Nat → Int32 → MV → Option (MV)
  | 0, _, _ => none
  | n+1, x1, mo => ck 0 210 (if (mo.1 ((0 : Int32).toNatClampNeg)) ≤ x1 then K mo else ck x1 16 (f_X8_findBears_L2 N   K n (x1 + 1) ((mo.1, mo.2.1, mo.2.2.1, mo.2.2.2.1, mo.2.2.2.2.1, mo.2.2.2.2.2.1, mo.2.2.2.2.2.2.1, mo.2.2.2.2.2.2.2.1, mo.2.2.2.2.2.2.2.2.1, mo.2.2.2.2.2.2.2.2.2.1, mo.2.2.2.2.2.2.2.2.2.2.1, mo.2.2.2.2.2.2.2.2.2.2.2.1, mo.2.2.2.2.2.2.2.2.2.2.2.2.1, mo.2.2.2.2.2.2.2.2.2.2.2.2.2.1, mo.2.2.2.2.2.2.2.2.2.2.2.2.2.2.1, mo.2.2.2.2.2.2.2.2.2.2.2.2.2.2.2.1, mo.2.2.2.2.2.2.2.2.2.2.2.2.2.2.2.2.1, upd mo.2.2.2.2.2.2.2.2.2.2.2.2.2.2.2.2.2 (x1.toNatClampNeg) 0))))
def f_X8_findBears_L44 (N : Nat)  (x1 : Int32) (K : MV → Option (MV)) : Nat → Int32 → MV → Option (MV)
  | 0, _, _ => none
  | n+1, x2, mo => ck 0 210 (if (mo.1 ((0 : Int32).toNatClampNeg)) ≤ x2 then K mo else ck x2 16 ((f_X8_wordPart N mo x1 1).bind (fun (r_64 : Int32) => (f_X8_shareIn N mo x1 x2).bind (fun (r_70 : Int32) => ck x2 16 (f_X8_findBears_L44 N  x1 K n (x2 + 1) ((mo.1, mo.2.1, mo.2.2.1, mo.2.2.2.1, mo.2.2.2.2.1, mo.2.2.2.2.2.1, mo.2.2.2.2.2.2.1, mo.2.2.2.2.2.2.2.1, mo.2.2.2.2.2.2.2.2.1, mo.2.2.2.2.2.2.2.2.2.1, mo.2.2.2.2.2.2.2.2.2.2.1, mo.2.2.2.2.2.2.2.2.2.2.2.1, mo.2.2.2.2.2.2.2.2.2.2.2.2.1, mo.2.2.2.2.2.2.2.2.2.2.2.2.2.1, mo.2.2.2.2.2.2.2.2.2.2.2.2.2.2.1, mo.2.2.2.2.2.2.2.2.2.2.2.2.2.2.2.1, mo.2.2.2.2.2.2.2.2.2.2.2.2.2.2.2.2.1, upd mo.2.2.2.2.2.2.2.2.2.2.2.2.2.2.2.2.2 (x2.toNatClampNeg) ((mo.2.2.2.2.2.2.2.2.2.2.2.2.2.2.2.2.2 (x2.toNatClampNeg)) + (r_64 * r_70)))))))))
def f_X8_findBears_L27 (N : Nat)   (K : MV → Option (MV)) : Nat → Int32 → MV → Option (MV)
  | 0, _, _ => none
  | n+1, x1, mo => ck 1 210 (if (mo.1 ((1 : Int32).toNatClampNeg)) ≤ x1 then K mo else (f_X8_findTotals N mo x1).bind (fun (r_39 : MV) => f_X8_findBears_L44 N  x1 (fun (mo_44 : MV) => f_X8_findBears_L27 N   K n (x1 + 1) mo_44) N 0 r_39))
def f_X8_findBears (N : Nat) (mo : MV) : Option (MV) := f_X8_findBears_L2 N   (fun (mo_2 : MV) => f_X8_findBears_L27 N   (fun (mo_27 : MV) => some mo_27) N 0 mo_2) N 0 mo
def f_X8_dropPiece_L7 (N : Nat) (x1 : Int32)  (K : MV → Option (MV)) : Nat → Int32 → MV → Option (MV)
  | 0, _, _ => none
  | n+1, x2, mo => ck 0 210 (if (2 + (6 * ((mo.1 ((0 : Int32).toNatClampNeg)) - 1))) ≤ x2 then K mo else ck (x2 + 6) 210 (ck x2 210 (f_X8_dropPiece_L7 N x1  K n (x2 + 1) ((upd mo.1 (x2.toNatClampNeg) (mo.1 ((x2 + 6).toNatClampNeg)), mo.2.1, mo.2.2.1, mo.2.2.2.1, mo.2.2.2.2.1, mo.2.2.2.2.2.1, mo.2.2.2.2.2.2.1, mo.2.2.2.2.2.2.2.1, mo.2.2.2.2.2.2.2.2.1, mo.2.2.2.2.2.2.2.2.2.1, mo.2.2.2.2.2.2.2.2.2.2.1, mo.2.2.2.2.2.2.2.2.2.2.2.1, mo.2.2.2.2.2.2.2.2.2.2.2.2.1, mo.2.2.2.2.2.2.2.2.2.2.2.2.2.1, mo.2.2.2.2.2.2.2.2.2.2.2.2.2.2.1, mo.2.2.2.2.2.2.2.2.2.2.2.2.2.2.2.1, mo.2.2.2.2.2.2.2.2.2.2.2.2.2.2.2.2.1, mo.2.2.2.2.2.2.2.2.2.2.2.2.2.2.2.2.2)))))
def f_X8_dropPiece (N : Nat) (mo : MV) (x1 : Int32) : Option (MV) := bd (2 + (6 * x1)) (fun (x2_1 : Int32) => f_X8_dropPiece_L7 N x1  (fun (mo_7 : MV) => ck 0 210 (ck 0 210 (some ((upd mo_7.1 ((0 : Int32).toNatClampNeg) ((mo_7.1 ((0 : Int32).toNatClampNeg)) - 1), mo_7.2.1, mo_7.2.2.1, mo_7.2.2.2.1, mo_7.2.2.2.2.1, mo_7.2.2.2.2.2.1, mo_7.2.2.2.2.2.2.1, mo_7.2.2.2.2.2.2.2.1, mo_7.2.2.2.2.2.2.2.2.1, mo_7.2.2.2.2.2.2.2.2.2.1, mo_7.2.2.2.2.2.2.2.2.2.2.1, mo_7.2.2.2.2.2.2.2.2.2.2.2.1, mo_7.2.2.2.2.2.2.2.2.2.2.2.2.1, mo_7.2.2.2.2.2.2.2.2.2.2.2.2.2.1, mo_7.2.2.2.2.2.2.2.2.2.2.2.2.2.2.1, mo_7.2.2.2.2.2.2.2.2.2.2.2.2.2.2.2.1, mo_7.2.2.2.2.2.2.2.2.2.2.2.2.2.2.2.2.1, mo_7.2.2.2.2.2.2.2.2.2.2.2.2.2.2.2.2.2))))) N x2_1 mo)
def f_X8_lossOf (N : Nat) (mo : MV) (x1 : Int32) : Option (Int32 × MV) := (f_X8_allCosts N mo ).bind (fun (r_1 : Int32 × MV) => (f_X8_copy N 210 r_1.2.1 210 r_1.2.2.1 0 0).bind (fun (r_15 : (Nat → Int32)) => (f_X8_dropPiece N ((r_1.2.1, r_15, r_1.2.2.2.1, r_1.2.2.2.2.1, r_1.2.2.2.2.2.1, r_1.2.2.2.2.2.2.1, r_1.2.2.2.2.2.2.2.1, r_1.2.2.2.2.2.2.2.2.1, r_1.2.2.2.2.2.2.2.2.2.1, r_1.2.2.2.2.2.2.2.2.2.2.1, r_1.2.2.2.2.2.2.2.2.2.2.2.1, r_1.2.2.2.2.2.2.2.2.2.2.2.2.1, r_1.2.2.2.2.2.2.2.2.2.2.2.2.2.1, r_1.2.2.2.2.2.2.2.2.2.2.2.2.2.2.1, r_1.2.2.2.2.2.2.2.2.2.2.2.2.2.2.2.1, r_1.2.2.2.2.2.2.2.2.2.2.2.2.2.2.2.2.1, r_1.2.2.2.2.2.2.2.2.2.2.2.2.2.2.2.2.2.1, r_1.2.2.2.2.2.2.2.2.2.2.2.2.2.2.2.2.2.2)) x1).bind (fun (r_20 : MV) => (f_X8_allCosts N r_20 ).bind (fun (r_24 : Int32 × MV) => (f_X8_copy N 210 r_24.2.2.1 210 r_24.2.1 0 0).bind (fun (r_38 : (Nat → Int32)) => some (r_24.1 - r_1.1, (r_38, r_24.2.2.1, r_24.2.2.2.1, r_24.2.2.2.2.1, r_24.2.2.2.2.2.1, r_24.2.2.2.2.2.2.1, r_24.2.2.2.2.2.2.2.1, r_24.2.2.2.2.2.2.2.2.1, r_24.2.2.2.2.2.2.2.2.2.1, r_24.2.2.2.2.2.2.2.2.2.2.1, r_24.2.2.2.2.2.2.2.2.2.2.2.1, r_24.2.2.2.2.2.2.2.2.2.2.2.2.1, r_24.2.2.2.2.2.2.2.2.2.2.2.2.2.1, r_24.2.2.2.2.2.2.2.2.2.2.2.2.2.2.1, r_24.2.2.2.2.2.2.2.2.2.2.2.2.2.2.2.1, r_24.2.2.2.2.2.2.2.2.2.2.2.2.2.2.2.2.1, r_24.2.2.2.2.2.2.2.2.2.2.2.2.2.2.2.2.2.1, r_24.2.2.2.2.2.2.2.2.2.2.2.2.2.2.2.2.2.2)))))))
def f_X8_leastOf_L7 (N : Nat)   (K : Int32 → MV → Option (Int32 × MV)) : Nat → Int32 → Int32 → Int32 → MV → Option (Int32 × MV)
  | 0, _, _, _, _ => none
  | n+1, x1, x2, x3, mo => ck 0 210 (if (mo.1 ((0 : Int32).toNatClampNeg)) ≤ x3 then K x1 mo else (f_X8_lossOf N mo x3).bind (fun (r_19 : Int32 × MV) => jn (fun (s0_62 : Int32) => jn (fun (s0_74 : Int32) => if s0_62 = 0 then f_X8_leastOf_L7 N   K n s0_74 x2 (x3 + 1) r_19.2 else f_X8_leastOf_L7 N   K n s0_74 r_19.1 (x3 + 1) r_19.2) (fun (J74 : Int32 → Option (Int32 × MV)) => if s0_62 = 0 then J74 x1 else J74 x3)) (fun (J62 : Int32 → Option (Int32 × MV)) => jn (fun (_ : Unit) => J62 1) (fun (J57 : Unit → Option (Int32 × MV)) => if x1 = ((-6)) then J57 () else if r_19.1 < x2 then J57 () else if r_19.1 = x2 then (f_X8_piecePart N r_19.2 x3 1).bind (fun (r_45 : Int32) => (f_X8_piecePart N r_19.2 x1 1).bind (fun (r_51 : Int32) => if r_51 < r_45 then J62 0 else J57 ())) else J62 0))))
def f_X8_leastOf (N : Nat) (mo : MV) : Option (Int32 × MV) := f_X8_leastOf_L7 N   (fun (x1_7 : Int32) (mo_7 : MV) => some (x1_7, mo_7)) N ((-6)) 0 0 mo
abbrev RM_X8_copy : Room := { frames := 0, cells := 0, slots := 0, locals := 0 }
set_option maxRecDepth 100000 in
set_option maxHeartbeats 4000000 in
theorem c_X8_copy (l : Launch) (dC : Nat → ClassId) (dI : Nat → Nat → Nat) (cI cJ cZ cO : ClassId) (ari : Nat → Nat) (ark : Nat → Nat) (N : Nat) (nri : Nat) (ri : (Nat → Int32)) (nrk : Nat) (rk : (Nat → Int32)) (x1 : Int32) (x3 : Int32) (o : (Nat → Int32)) (hf : f_X8_copy N nri ri nrk rk x1 x3 = some o) : MetV l yX8_copy wsX8_copy RM_X8_copy (dC, dI) (TY cI cJ cZ cO) [.ref (ari 0), .int x1, .ref (ark 0), .int x3] (W_RI cI cJ cZ cO ari nri ri ++ (W_RI cI cJ cZ cO ark nrk rk)) (fun _ : Unit => True) (fun _ => (W_RI cI cJ cZ cO ari nri ri ++ (W_RI cI cJ cZ cO ark nrk o))) := by
  refine MetV.ofV (cc := cX8_copy) (maxL := 5) (ret := none) (own := RX8) (lv0 := [(0, .ref (ari 0)), (1, .int x1), (2, .ref (ark 0)), (3, .int x3)]) (by decide) rfl rfl (Nat.le_of_ble_eq_true rfl) rfl ?_
  intro p e s m below meth c A C0 _
  unfold f_X8_copy at hf
  refine V_iconst (v := 0) C0 dX8_copy_0 (by decide) rfl ?_
  refine V_istore (lv' := [(4, .int 0), (0, .ref (ari 0)), (1, .int x1), (2, .ref (ark 0)), (3, .int x3)]) C0 dX8_copy_1 (by decide) rfl rfl ?_
  have hL3 : ∀ (K : (Nat → Int32) → Option ((Nat → Int32))), (∀ (rk : (Nat → Int32)), K rk = some o → V p l e RM_X8_copy s m ([.ref (ari 0), .int x1, .ref (ark 0), .int x3] : List Value).toArray below meth c 5 (dC, dI) A (MQ below (va_Qv (fun _ : Unit => True) (PostW (dC, dI) (TY cI cJ cZ cO) A (fun _ => (W_RI cI cJ cZ cO ari nri ri ++ (W_RI cI cJ cZ cO ark nrk o)))) A) ([.ref (ari 0), .int x1, .ref (ark 0), .int x3] : List Value).toArray s 0 0 A) 0 0 (W_RI cI cJ cZ cO ari nri ri ++ (W_RI cI cJ cZ cO ark nrk rk)) 29 [] []) → ∀ (n : Nat) (x4 : Int32) (rk : (Nat → Int32)), f_X8_copy_L3 N nri ri nrk x1 x3  K n x4 rk = some o → V p l e RM_X8_copy s m ([.ref (ari 0), .int x1, .ref (ark 0), .int x3] : List Value).toArray below meth c 5 (dC, dI) A (MQ below (va_Qv (fun _ : Unit => True) (PostW (dC, dI) (TY cI cJ cZ cO) A (fun _ => (W_RI cI cJ cZ cO ari nri ri ++ (W_RI cI cJ cZ cO ark nrk o)))) A) ([.ref (ari 0), .int x1, .ref (ark 0), .int x3] : List Value).toArray s 0 0 A) 0 0 (W_RI cI cJ cZ cO ari nri ri ++ (W_RI cI cJ cZ cO ark nrk rk)) 3 [(0, .ref (ari 0)), (1, .int x1), (2, .ref (ark 0)), (3, .int x3), (4, .int x4)] [] := by
    intro  K hK n
    induction n with
    | zero => intro x4 rk hf; cases hf
    | succ n hREC =>
      intro x4 rk hf
      rw [f_X8_copy_L3] at hf
      refine V_iload C0 dX8_copy_3 4 rfl rfl ?_
      refine V_sipush (v := 210) C0 dX8_copy_5 (by decide) rfl ?_
      refine V_icmp_ge (tgt := 29) C0 dX8_copy_8 (by decide) rfl (fun c8 => ?_) (fun c8 => ?_)
      · have hf := ite_t c8 hf
        exact V.sub [] rfl (hK rk hf)
      · have hf := ite_f c8 hf
        refine V_aload_n C0 dX8_copy_11 2 rfl rfl ?_
        refine V_iload_n C0 dX8_copy_12 3 rfl rfl ?_
        refine V_iload C0 dX8_copy_13 4 rfl rfl ?_
        refine V_iadd C0 dX8_copy_15 rfl ?_
        refine V_aload_n C0 dX8_copy_16 0 rfl rfl ?_
        refine V_iload_n C0 dX8_copy_17 1 rfl rfl ?_
        refine V_iload C0 dX8_copy_18 4 rfl rfl ?_
        refine V_iadd C0 dX8_copy_20 rfl ?_
        obtain ⟨hi21, hf⟩ := ck_inv hf
        refine V_iald C0 0 0 rfl rfl hi21 dX8_copy_21 rfl ?_
        obtain ⟨hi22, hf⟩ := ck_inv hf
        refine V_iast (ws' := (W_RI cI cJ cZ cO ari nri ri ++ (W_RI cI cJ cZ cO ark nrk (upd rk ((x3 + x4).toNatClampNeg) (ri ((x1 + x4).toNatClampNeg)))))) C0 1 0 rfl rfl hi22 dX8_copy_22 rfl rfl ?_
        refine V_iinc (k := 4) (v := x4 + 1) (lv' := [(4, .int (x4 + 1)), (0, .ref (ari 0)), (1, .int x1), (2, .ref (ark 0)), (3, .int x3)]) C0 dX8_copy_23 rfl rfl (by decide) rfl rfl ?_
        refine V_goto (tgt := 3) C0 dX8_copy_26 (by decide) ?_
        exact V.sub [1, 2, 3, 4, 0] rfl (hREC (x4 + 1) (upd rk ((x3 + x4).toNatClampNeg) (ri ((x1 + x4).toNatClampNeg))) hf)
  refine V.sub [1, 2, 3, 4, 0] rfl (hL3  _ ?_ N 0 rk hf)
  intro rk_3 hf
  obtain rfl := some_inv hf
  exact V_vret C0 () trivial rfl dX8_copy_29
abbrev RM_X8_within : Room := { frames := 0, cells := 0, slots := 0, locals := 0 }
set_option maxRecDepth 100000 in
set_option maxHeartbeats 4000000 in
theorem c_X8_within (l : Launch) (dC : Nat → ClassId) (dI : Nat → Nat → Nat) (cI cJ cZ cO : ClassId)  (N : Nat) (x0 : Int32) (x1 : Int32) (x2 : Int32) (o : Int32) (hf : f_X8_within N x0 x1 x2 = some o) : MetI l yX8_within wsX8_within RM_X8_within (dC, dI) (TY cI cJ cZ cO) [.int x0, .int x1, .int x2] ([] : va_W) (fun r (_ : Unit) => r = o) (fun _ => ([] : va_W)) := by
  refine MetI.ofV (cc := cX8_within) (maxL := 3) (ret := (some .boolean)) (own := RX8) (lv0 := [(0, .int x0), (1, .int x1), (2, .int x2)]) (by decide) rfl rfl (Nat.le_of_ble_eq_true rfl) rfl ?_
  intro p e s m below meth c A C0 _
  unfold f_X8_within at hf
  refine V_iload_n C0 dX8_within_0 0 rfl rfl ?_
  refine V_iload_n C0 dX8_within_1 1 rfl rfl ?_
  refine V_icmp_lt (tgt := 14) C0 dX8_within_2 (by decide) rfl (fun c2 => ?_) (fun c2 => ?_)
  · have hf := ite_t c2 hf
    refine V_iconst (v := 0) C0 dX8_within_14 (by decide) rfl ?_
    obtain rfl := some_inv hf
    exact V_zret C0 rfl () rfl rfl dX8_within_15
  · have hf := ite_f c2 hf
    refine V_iload_n C0 dX8_within_5 0 rfl rfl ?_
    refine V_iload_n C0 dX8_within_6 2 rfl rfl ?_
    refine V_icmp_gt (tgt := 14) C0 dX8_within_7 (by decide) rfl (fun c7 => ?_) (fun c7 => ?_)
    · have hf := ite_t c7 hf
      refine V_iconst (v := 0) C0 dX8_within_14 (by decide) rfl ?_
      obtain rfl := some_inv hf
      exact V_zret C0 rfl () rfl rfl dX8_within_15
    · have hf := ite_f c7 hf
      refine V_iconst (v := 1) C0 dX8_within_10 (by decide) rfl ?_
      refine V_goto (tgt := 15) C0 dX8_within_11 (by decide) ?_
      obtain rfl := some_inv hf
      exact V_zret C0 rfl () rfl rfl dX8_within_15
abbrev RM_X8_record : Room := { frames := 1, cells := 0, slots := 0, locals := 24 }
theorem in_X8_record_X8 : ∀ w ∈ u_ws RX8 TX8 18, w ∈ wsX8_record := by decide +kernel
theorem fl_X8_record_7 : FL RX8 wsX8_record 8 7 0 RX8 TX8 18 := ⟨in_X8_record_X8, rfl, by decide, by decide +kernel, rfl⟩
theorem fl_X8_record_16 : FL RX8 wsX8_record 8 16 2 RX8 TX8 18 := ⟨in_X8_record_X8, rfl, by decide, by decide +kernel, rfl⟩
theorem fl_X8_record_56 : FL RX8 wsX8_record 8 56 3 RX8 TX8 18 := ⟨in_X8_record_X8, rfl, by decide, by decide +kernel, rfl⟩
set_option maxRecDepth 100000 in
set_option maxHeartbeats 4000000 in
theorem c_X8_record (l : Launch) (dC : Nat → ClassId) (dI : Nat → Nat → Nat) (cI cJ cZ cO : ClassId) (am : Nat → Nat) (N : Nat) (mo : MV) (o : MV) (hf : f_X8_record N mo = some o) : MetV l yX8_record wsX8_record RM_X8_record (dC, dI) (TY cI cJ cZ cO) [.ref (am 0)] (W_M cI cJ cZ cO am mo.1 mo.2.1 mo.2.2.1 mo.2.2.2.1 mo.2.2.2.2.1 mo.2.2.2.2.2.1 mo.2.2.2.2.2.2.1 mo.2.2.2.2.2.2.2.1 mo.2.2.2.2.2.2.2.2.1 mo.2.2.2.2.2.2.2.2.2.1 mo.2.2.2.2.2.2.2.2.2.2.1 mo.2.2.2.2.2.2.2.2.2.2.2.1 mo.2.2.2.2.2.2.2.2.2.2.2.2.1 mo.2.2.2.2.2.2.2.2.2.2.2.2.2.1 mo.2.2.2.2.2.2.2.2.2.2.2.2.2.2.1 mo.2.2.2.2.2.2.2.2.2.2.2.2.2.2.2.1 mo.2.2.2.2.2.2.2.2.2.2.2.2.2.2.2.2.1 mo.2.2.2.2.2.2.2.2.2.2.2.2.2.2.2.2.2) (fun _ : Unit => True) (fun _ => (W_M cI cJ cZ cO am o.1 o.2.1 o.2.2.1 o.2.2.2.1 o.2.2.2.2.1 o.2.2.2.2.2.1 o.2.2.2.2.2.2.1 o.2.2.2.2.2.2.2.1 o.2.2.2.2.2.2.2.2.1 o.2.2.2.2.2.2.2.2.2.1 o.2.2.2.2.2.2.2.2.2.2.1 o.2.2.2.2.2.2.2.2.2.2.2.1 o.2.2.2.2.2.2.2.2.2.2.2.2.1 o.2.2.2.2.2.2.2.2.2.2.2.2.2.1 o.2.2.2.2.2.2.2.2.2.2.2.2.2.2.1 o.2.2.2.2.2.2.2.2.2.2.2.2.2.2.2.1 o.2.2.2.2.2.2.2.2.2.2.2.2.2.2.2.2.1 o.2.2.2.2.2.2.2.2.2.2.2.2.2.2.2.2.2)) := by
  refine MetV.ofV (cc := cX8_record) (maxL := 2) (ret := none) (own := RX8) (lv0 := [(0, .ref (am 0))]) (by decide) rfl rfl (Nat.le_of_ble_eq_true rfl) rfl ?_
  intro p e s m below meth c A C0 _
  unfold f_X8_record at hf
  refine V_aload_n C0 dX8_record_0 0 rfl rfl ?_
  refine V_get C0 fl_X8_record_56 0 rfl rfl dX8_record_1 rfl ?_
  refine V_bipush (v := 6) C0 dX8_record_4 (by decide) rfl ?_
  refine jn_elim hf (fun (J : MV → Option (MV)) => ∀ (mo_50 : MV), J mo_50 = some o → V p l e RM_X8_record s m ([.ref (am 0)] : List Value).toArray below meth c 2 (dC, dI) A (MQ below (va_Qv (fun _ : Unit => True) (PostW (dC, dI) (TY cI cJ cZ cO) A (fun _ => (W_M cI cJ cZ cO am o.1 o.2.1 o.2.2.1 o.2.2.2.1 o.2.2.2.2.1 o.2.2.2.2.2.1 o.2.2.2.2.2.2.1 o.2.2.2.2.2.2.2.1 o.2.2.2.2.2.2.2.2.1 o.2.2.2.2.2.2.2.2.2.1 o.2.2.2.2.2.2.2.2.2.2.1 o.2.2.2.2.2.2.2.2.2.2.2.1 o.2.2.2.2.2.2.2.2.2.2.2.2.1 o.2.2.2.2.2.2.2.2.2.2.2.2.2.1 o.2.2.2.2.2.2.2.2.2.2.2.2.2.2.1 o.2.2.2.2.2.2.2.2.2.2.2.2.2.2.2.1 o.2.2.2.2.2.2.2.2.2.2.2.2.2.2.2.2.1 o.2.2.2.2.2.2.2.2.2.2.2.2.2.2.2.2.2))) A) ([.ref (am 0)] : List Value).toArray s 0 0 A) 0 0 (W_M cI cJ cZ cO am mo_50.1 mo_50.2.1 mo_50.2.2.1 mo_50.2.2.2.1 mo_50.2.2.2.2.1 mo_50.2.2.2.2.2.1 mo_50.2.2.2.2.2.2.1 mo_50.2.2.2.2.2.2.2.1 mo_50.2.2.2.2.2.2.2.2.1 mo_50.2.2.2.2.2.2.2.2.2.1 mo_50.2.2.2.2.2.2.2.2.2.2.1 mo_50.2.2.2.2.2.2.2.2.2.2.2.1 mo_50.2.2.2.2.2.2.2.2.2.2.2.2.1 mo_50.2.2.2.2.2.2.2.2.2.2.2.2.2.1 mo_50.2.2.2.2.2.2.2.2.2.2.2.2.2.2.1 mo_50.2.2.2.2.2.2.2.2.2.2.2.2.2.2.2.1 mo_50.2.2.2.2.2.2.2.2.2.2.2.2.2.2.2.2.1 mo_50.2.2.2.2.2.2.2.2.2.2.2.2.2.2.2.2.2) 50 [(0, .ref (am 0))] []) ?_ ?_
  · intro mo_50 hf
    refine V_aload_n C0 dX8_record_50 0 rfl rfl ?_
    refine V_get C0 fl_X8_record_7 0 rfl rfl dX8_record_51 rfl ?_
    refine V_iconst (v := 0) C0 dX8_record_54 (by decide) rfl ?_
    refine V_aload_n C0 dX8_record_55 0 rfl rfl ?_
    refine V_get C0 fl_X8_record_16 0 rfl rfl dX8_record_56 rfl ?_
    refine V_aload_n C0 dX8_record_59 0 rfl rfl ?_
    refine V_get C0 fl_X8_record_56 0 rfl rfl dX8_record_60 rfl ?_
    refine V_sipush (v := 210) C0 dX8_record_63 (by decide) rfl ?_
    refine V_imul C0 dX8_record_66 rfl ?_
    obtain ⟨r_67, hc_67, hf⟩ := bind_inv hf
    refine V_cSV (ws' := (W_M cI cJ cZ cO am mo_50.1 mo_50.2.1 r_67 mo_50.2.2.2.1 mo_50.2.2.2.2.1 mo_50.2.2.2.2.2.1 mo_50.2.2.2.2.2.2.1 mo_50.2.2.2.2.2.2.2.1 mo_50.2.2.2.2.2.2.2.2.1 mo_50.2.2.2.2.2.2.2.2.2.1 mo_50.2.2.2.2.2.2.2.2.2.2.1 mo_50.2.2.2.2.2.2.2.2.2.2.2.1 mo_50.2.2.2.2.2.2.2.2.2.2.2.2.1 mo_50.2.2.2.2.2.2.2.2.2.2.2.2.2.1 mo_50.2.2.2.2.2.2.2.2.2.2.2.2.2.2.1 mo_50.2.2.2.2.2.2.2.2.2.2.2.2.2.2.2.1 mo_50.2.2.2.2.2.2.2.2.2.2.2.2.2.2.2.2.1 mo_50.2.2.2.2.2.2.2.2.2.2.2.2.2.2.2.2.2)) (As := [.ref (am 1), .int 0, .ref (am 3), .int (mo_50.2.2.2.1 * 210)]) (st := []) C0 (c_X8_copy l dC dI cI cJ cZ cO (fun _ => am 1) (fun _ => am 3) N 210 mo_50.1 1260 mo_50.2.2.1 0 (mo_50.2.2.2.1 * 210) r_67 hc_67) rfl 4 gX8_record_X8_copy (by decide +kernel) ⟨Nat.le_of_ble_eq_true rfl, Nat.le_of_ble_eq_true rfl⟩ rfl  ⟨_, (pcr (pct (pcr (pcte (pcr (pcr (pcr (pcr (pcr (pcr (pcr (pcr (pcr (pcr (pcr (pcr pn)))))))))))))))), fun _ => (pcr (pct (pcr (pcte (pcr (pcr (pcr (pcr (pcr (pcr (pcr (pcr (pcr (pcr (pcr (pcr pn))))))))))))))))⟩ rfl (Nat.le_of_ble_eq_true rfl) dX8_record_67 rfl ⟨Nat.zero_le _, Nat.zero_le _⟩ ?_
    refine V_aload_n C0 dX8_record_70 0 rfl rfl ?_
    refine V_dup C0 dX8_record_71 rfl rfl ?_
    refine V_get C0 fl_X8_record_56 0 rfl rfl dX8_record_72 rfl ?_
    refine V_iconst (v := 1) C0 dX8_record_75 (by decide) rfl ?_
    refine V_iadd C0 dX8_record_76 rfl ?_
    refine V_put (ws' := (W_M cI cJ cZ cO am mo_50.1 mo_50.2.1 r_67 (mo_50.2.2.2.1 + 1) mo_50.2.2.2.2.1 mo_50.2.2.2.2.2.1 mo_50.2.2.2.2.2.2.1 mo_50.2.2.2.2.2.2.2.1 mo_50.2.2.2.2.2.2.2.2.1 mo_50.2.2.2.2.2.2.2.2.2.1 mo_50.2.2.2.2.2.2.2.2.2.2.1 mo_50.2.2.2.2.2.2.2.2.2.2.2.1 mo_50.2.2.2.2.2.2.2.2.2.2.2.2.1 mo_50.2.2.2.2.2.2.2.2.2.2.2.2.2.1 mo_50.2.2.2.2.2.2.2.2.2.2.2.2.2.2.1 mo_50.2.2.2.2.2.2.2.2.2.2.2.2.2.2.2.1 mo_50.2.2.2.2.2.2.2.2.2.2.2.2.2.2.2.2.1 mo_50.2.2.2.2.2.2.2.2.2.2.2.2.2.2.2.2.2)) C0 fl_X8_record_56 tyX8_ok nmX8 rfl 0 rfl rfl rfl (Nat.le_of_ble_eq_true rfl) dX8_record_77 rfl rfl ?_
    obtain rfl := some_inv hf
    exact V_vret C0 () trivial rfl dX8_record_80
  · intro J50 hJ50 hf
    refine V_icmp_ne (tgt := 50) C0 dX8_record_6 (by decide) rfl (fun c6 => ?_) (fun c6 => ?_)
    · have hf := ite_f c6 hf
      exact V.sub [0] rfl (hJ50 mo hf)
    · have hf := ite_t c6 hf
      refine V_iconst (v := 0) C0 dX8_record_9 (by decide) rfl ?_
      refine V_istore_n (lv' := [(1, .int 0), (0, .ref (am 0))]) C0 dX8_record_10 rfl (by decide) rfl rfl ?_
      have hL11 : ∀ (K : MV → Option (MV)), (∀ (mo : MV), K mo = some o → V p l e RM_X8_record s m ([.ref (am 0)] : List Value).toArray below meth c 2 (dC, dI) A (MQ below (va_Qv (fun _ : Unit => True) (PostW (dC, dI) (TY cI cJ cZ cO) A (fun _ => (W_M cI cJ cZ cO am o.1 o.2.1 o.2.2.1 o.2.2.2.1 o.2.2.2.2.1 o.2.2.2.2.2.1 o.2.2.2.2.2.2.1 o.2.2.2.2.2.2.2.1 o.2.2.2.2.2.2.2.2.1 o.2.2.2.2.2.2.2.2.2.1 o.2.2.2.2.2.2.2.2.2.2.1 o.2.2.2.2.2.2.2.2.2.2.2.1 o.2.2.2.2.2.2.2.2.2.2.2.2.1 o.2.2.2.2.2.2.2.2.2.2.2.2.2.1 o.2.2.2.2.2.2.2.2.2.2.2.2.2.2.1 o.2.2.2.2.2.2.2.2.2.2.2.2.2.2.2.1 o.2.2.2.2.2.2.2.2.2.2.2.2.2.2.2.2.1 o.2.2.2.2.2.2.2.2.2.2.2.2.2.2.2.2.2))) A) ([.ref (am 0)] : List Value).toArray s 0 0 A) 0 0 (W_M cI cJ cZ cO am mo.1 mo.2.1 mo.2.2.1 mo.2.2.2.1 mo.2.2.2.2.1 mo.2.2.2.2.2.1 mo.2.2.2.2.2.2.1 mo.2.2.2.2.2.2.2.1 mo.2.2.2.2.2.2.2.2.1 mo.2.2.2.2.2.2.2.2.2.1 mo.2.2.2.2.2.2.2.2.2.2.1 mo.2.2.2.2.2.2.2.2.2.2.2.1 mo.2.2.2.2.2.2.2.2.2.2.2.2.1 mo.2.2.2.2.2.2.2.2.2.2.2.2.2.1 mo.2.2.2.2.2.2.2.2.2.2.2.2.2.2.1 mo.2.2.2.2.2.2.2.2.2.2.2.2.2.2.2.1 mo.2.2.2.2.2.2.2.2.2.2.2.2.2.2.2.2.1 mo.2.2.2.2.2.2.2.2.2.2.2.2.2.2.2.2.2) 40 [(0, .ref (am 0))] []) → ∀ (n : Nat) (x1 : Int32) (mo : MV), f_X8_record_L11 N   K n x1 mo = some o → V p l e RM_X8_record s m ([.ref (am 0)] : List Value).toArray below meth c 2 (dC, dI) A (MQ below (va_Qv (fun _ : Unit => True) (PostW (dC, dI) (TY cI cJ cZ cO) A (fun _ => (W_M cI cJ cZ cO am o.1 o.2.1 o.2.2.1 o.2.2.2.1 o.2.2.2.2.1 o.2.2.2.2.2.1 o.2.2.2.2.2.2.1 o.2.2.2.2.2.2.2.1 o.2.2.2.2.2.2.2.2.1 o.2.2.2.2.2.2.2.2.2.1 o.2.2.2.2.2.2.2.2.2.2.1 o.2.2.2.2.2.2.2.2.2.2.2.1 o.2.2.2.2.2.2.2.2.2.2.2.2.1 o.2.2.2.2.2.2.2.2.2.2.2.2.2.1 o.2.2.2.2.2.2.2.2.2.2.2.2.2.2.1 o.2.2.2.2.2.2.2.2.2.2.2.2.2.2.2.1 o.2.2.2.2.2.2.2.2.2.2.2.2.2.2.2.2.1 o.2.2.2.2.2.2.2.2.2.2.2.2.2.2.2.2.2))) A) ([.ref (am 0)] : List Value).toArray s 0 0 A) 0 0 (W_M cI cJ cZ cO am mo.1 mo.2.1 mo.2.2.1 mo.2.2.2.1 mo.2.2.2.2.1 mo.2.2.2.2.2.1 mo.2.2.2.2.2.2.1 mo.2.2.2.2.2.2.2.1 mo.2.2.2.2.2.2.2.2.1 mo.2.2.2.2.2.2.2.2.2.1 mo.2.2.2.2.2.2.2.2.2.2.1 mo.2.2.2.2.2.2.2.2.2.2.2.1 mo.2.2.2.2.2.2.2.2.2.2.2.2.1 mo.2.2.2.2.2.2.2.2.2.2.2.2.2.1 mo.2.2.2.2.2.2.2.2.2.2.2.2.2.2.1 mo.2.2.2.2.2.2.2.2.2.2.2.2.2.2.2.1 mo.2.2.2.2.2.2.2.2.2.2.2.2.2.2.2.2.1 mo.2.2.2.2.2.2.2.2.2.2.2.2.2.2.2.2.2) 11 [(0, .ref (am 0)), (1, .int x1)] [] := by
        intro  K hK n
        induction n with
        | zero => intro x1 mo hf; cases hf
        | succ n hREC =>
          intro x1 mo hf
          rw [f_X8_record_L11] at hf
          refine V_iload_n C0 dX8_record_11 1 rfl rfl ?_
          refine V_sipush (v := 1050) C0 dX8_record_12 (by decide) rfl ?_
          refine V_icmp_ge (tgt := 40) C0 dX8_record_15 (by decide) rfl (fun c15 => ?_) (fun c15 => ?_)
          · have hf := ite_t c15 hf
            exact V.sub [0] rfl (hK mo hf)
          · have hf := ite_f c15 hf
            refine V_aload_n C0 dX8_record_18 0 rfl rfl ?_
            refine V_get C0 fl_X8_record_16 0 rfl rfl dX8_record_19 rfl ?_
            refine V_iload_n C0 dX8_record_22 1 rfl rfl ?_
            refine V_aload_n C0 dX8_record_23 0 rfl rfl ?_
            refine V_get C0 fl_X8_record_16 0 rfl rfl dX8_record_24 rfl ?_
            refine V_iload_n C0 dX8_record_27 1 rfl rfl ?_
            refine V_sipush (v := 210) C0 dX8_record_28 (by decide) rfl ?_
            refine V_iadd C0 dX8_record_31 rfl ?_
            obtain ⟨hi32, hf⟩ := ck_inv hf
            refine V_iald C0 3 0 rfl rfl hi32 dX8_record_32 rfl ?_
            obtain ⟨hi33, hf⟩ := ck_inv hf
            refine V_iast (ws' := (W_M cI cJ cZ cO am mo.1 mo.2.1 (upd mo.2.2.1 (x1.toNatClampNeg) (mo.2.2.1 ((x1 + 210).toNatClampNeg))) mo.2.2.2.1 mo.2.2.2.2.1 mo.2.2.2.2.2.1 mo.2.2.2.2.2.2.1 mo.2.2.2.2.2.2.2.1 mo.2.2.2.2.2.2.2.2.1 mo.2.2.2.2.2.2.2.2.2.1 mo.2.2.2.2.2.2.2.2.2.2.1 mo.2.2.2.2.2.2.2.2.2.2.2.1 mo.2.2.2.2.2.2.2.2.2.2.2.2.1 mo.2.2.2.2.2.2.2.2.2.2.2.2.2.1 mo.2.2.2.2.2.2.2.2.2.2.2.2.2.2.1 mo.2.2.2.2.2.2.2.2.2.2.2.2.2.2.2.1 mo.2.2.2.2.2.2.2.2.2.2.2.2.2.2.2.2.1 mo.2.2.2.2.2.2.2.2.2.2.2.2.2.2.2.2.2)) C0 3 0 rfl rfl hi33 dX8_record_33 rfl rfl ?_
            refine V_iinc (k := 1) (v := x1 + 1) (lv' := [(1, .int (x1 + 1)), (0, .ref (am 0))]) C0 dX8_record_34 rfl rfl (by decide) rfl rfl ?_
            refine V_goto (tgt := 11) C0 dX8_record_37 (by decide) ?_
            exact V.sub [1, 0] rfl (hREC (x1 + 1) ((mo.1, mo.2.1, upd mo.2.2.1 (x1.toNatClampNeg) (mo.2.2.1 ((x1 + 210).toNatClampNeg)), mo.2.2.2.1, mo.2.2.2.2.1, mo.2.2.2.2.2.1, mo.2.2.2.2.2.2.1, mo.2.2.2.2.2.2.2.1, mo.2.2.2.2.2.2.2.2.1, mo.2.2.2.2.2.2.2.2.2.1, mo.2.2.2.2.2.2.2.2.2.2.1, mo.2.2.2.2.2.2.2.2.2.2.2.1, mo.2.2.2.2.2.2.2.2.2.2.2.2.1, mo.2.2.2.2.2.2.2.2.2.2.2.2.2.1, mo.2.2.2.2.2.2.2.2.2.2.2.2.2.2.1, mo.2.2.2.2.2.2.2.2.2.2.2.2.2.2.2.1, mo.2.2.2.2.2.2.2.2.2.2.2.2.2.2.2.2.1, mo.2.2.2.2.2.2.2.2.2.2.2.2.2.2.2.2.2)) hf)
      refine V.sub [1, 0] rfl (hL11  _ ?_ N 0 mo hf)
      intro mo_11 hf
      refine V_aload_n C0 dX8_record_40 0 rfl rfl ?_
      refine V_dup C0 dX8_record_41 rfl rfl ?_
      refine V_get C0 fl_X8_record_56 0 rfl rfl dX8_record_42 rfl ?_
      refine V_iconst (v := 1) C0 dX8_record_45 (by decide) rfl ?_
      refine V_isub C0 dX8_record_46 rfl ?_
      refine V_put (ws' := (W_M cI cJ cZ cO am mo_11.1 mo_11.2.1 mo_11.2.2.1 (mo_11.2.2.2.1 - 1) mo_11.2.2.2.2.1 mo_11.2.2.2.2.2.1 mo_11.2.2.2.2.2.2.1 mo_11.2.2.2.2.2.2.2.1 mo_11.2.2.2.2.2.2.2.2.1 mo_11.2.2.2.2.2.2.2.2.2.1 mo_11.2.2.2.2.2.2.2.2.2.2.1 mo_11.2.2.2.2.2.2.2.2.2.2.2.1 mo_11.2.2.2.2.2.2.2.2.2.2.2.2.1 mo_11.2.2.2.2.2.2.2.2.2.2.2.2.2.1 mo_11.2.2.2.2.2.2.2.2.2.2.2.2.2.2.1 mo_11.2.2.2.2.2.2.2.2.2.2.2.2.2.2.2.1 mo_11.2.2.2.2.2.2.2.2.2.2.2.2.2.2.2.2.1 mo_11.2.2.2.2.2.2.2.2.2.2.2.2.2.2.2.2.2)) C0 fl_X8_record_56 tyX8_ok nmX8 rfl 0 rfl rfl rfl (Nat.le_of_ble_eq_true rfl) dX8_record_47 rfl rfl ?_
      exact V.sub [0] rfl (hJ50 ((mo_11.1, mo_11.2.1, mo_11.2.2.1, mo_11.2.2.2.1 - 1, mo_11.2.2.2.2.1, mo_11.2.2.2.2.2.1, mo_11.2.2.2.2.2.2.1, mo_11.2.2.2.2.2.2.2.1, mo_11.2.2.2.2.2.2.2.2.1, mo_11.2.2.2.2.2.2.2.2.2.1, mo_11.2.2.2.2.2.2.2.2.2.2.1, mo_11.2.2.2.2.2.2.2.2.2.2.2.1, mo_11.2.2.2.2.2.2.2.2.2.2.2.2.1, mo_11.2.2.2.2.2.2.2.2.2.2.2.2.2.1, mo_11.2.2.2.2.2.2.2.2.2.2.2.2.2.2.1, mo_11.2.2.2.2.2.2.2.2.2.2.2.2.2.2.2.1, mo_11.2.2.2.2.2.2.2.2.2.2.2.2.2.2.2.2.1, mo_11.2.2.2.2.2.2.2.2.2.2.2.2.2.2.2.2.2)) hf)
abbrev RM_X8_isPiece : Room := { frames := 1, cells := 0, slots := 0, locals := 22 }
theorem in_X8_isPiece_X8 : ∀ w ∈ u_ws RX8 TX8 18, w ∈ wsX8_isPiece := by decide +kernel
theorem fl_X8_isPiece_7 : FL RX8 wsX8_isPiece 8 7 0 RX8 TX8 18 := ⟨in_X8_isPiece_X8, rfl, by decide, by decide +kernel, rfl⟩
set_option maxRecDepth 100000 in
set_option maxHeartbeats 4000000 in
theorem c_X8_isPiece (l : Launch) (dC : Nat → ClassId) (dI : Nat → Nat → Nat) (cI cJ cZ cO : ClassId) (am : Nat → Nat) (N : Nat) (mo : MV) (x1 : Int32) (o : Int32) (hf : f_X8_isPiece N mo x1 = some o) : MetI l yX8_isPiece wsX8_isPiece RM_X8_isPiece (dC, dI) (TY cI cJ cZ cO) [.ref (am 0), .int x1] (W_M cI cJ cZ cO am mo.1 mo.2.1 mo.2.2.1 mo.2.2.2.1 mo.2.2.2.2.1 mo.2.2.2.2.2.1 mo.2.2.2.2.2.2.1 mo.2.2.2.2.2.2.2.1 mo.2.2.2.2.2.2.2.2.1 mo.2.2.2.2.2.2.2.2.2.1 mo.2.2.2.2.2.2.2.2.2.2.1 mo.2.2.2.2.2.2.2.2.2.2.2.1 mo.2.2.2.2.2.2.2.2.2.2.2.2.1 mo.2.2.2.2.2.2.2.2.2.2.2.2.2.1 mo.2.2.2.2.2.2.2.2.2.2.2.2.2.2.1 mo.2.2.2.2.2.2.2.2.2.2.2.2.2.2.2.1 mo.2.2.2.2.2.2.2.2.2.2.2.2.2.2.2.2.1 mo.2.2.2.2.2.2.2.2.2.2.2.2.2.2.2.2.2) (fun r (_ : Unit) => r = o) (fun _ => (W_M cI cJ cZ cO am mo.1 mo.2.1 mo.2.2.1 mo.2.2.2.1 mo.2.2.2.2.1 mo.2.2.2.2.2.1 mo.2.2.2.2.2.2.1 mo.2.2.2.2.2.2.2.1 mo.2.2.2.2.2.2.2.2.1 mo.2.2.2.2.2.2.2.2.2.1 mo.2.2.2.2.2.2.2.2.2.2.1 mo.2.2.2.2.2.2.2.2.2.2.2.1 mo.2.2.2.2.2.2.2.2.2.2.2.2.1 mo.2.2.2.2.2.2.2.2.2.2.2.2.2.1 mo.2.2.2.2.2.2.2.2.2.2.2.2.2.2.1 mo.2.2.2.2.2.2.2.2.2.2.2.2.2.2.2.1 mo.2.2.2.2.2.2.2.2.2.2.2.2.2.2.2.2.1 mo.2.2.2.2.2.2.2.2.2.2.2.2.2.2.2.2.2)) := by
  refine MetI.ofV (cc := cX8_isPiece) (maxL := 2) (ret := (some .boolean)) (own := RX8) (lv0 := [(0, .ref (am 0)), (1, .int x1)]) (by decide) rfl rfl (Nat.le_of_ble_eq_true rfl) rfl ?_
  intro p e s m below meth c A C0 _
  unfold f_X8_isPiece at hf
  refine V_iload_n C0 dX8_isPiece_0 1 rfl rfl ?_
  refine V_iconst (v := 0) C0 dX8_isPiece_1 (by decide) rfl ?_
  refine V_aload_n C0 dX8_isPiece_2 0 rfl rfl ?_
  refine V_get C0 fl_X8_isPiece_7 0 rfl rfl dX8_isPiece_3 rfl ?_
  refine V_iconst (v := 0) C0 dX8_isPiece_6 (by decide) rfl ?_
  obtain ⟨hi7, hf⟩ := ck_inv hf
  refine V_iald C0 1 0 rfl rfl hi7 dX8_isPiece_7 rfl ?_
  refine V_iconst (v := 1) C0 dX8_isPiece_8 (by decide) rfl ?_
  refine V_isub C0 dX8_isPiece_9 rfl ?_
  obtain ⟨r_10, hc_10, hf⟩ := bind_inv hf
  refine V_cSI (ws' := (W_M cI cJ cZ cO am mo.1 mo.2.1 mo.2.2.1 mo.2.2.2.1 mo.2.2.2.2.1 mo.2.2.2.2.2.1 mo.2.2.2.2.2.2.1 mo.2.2.2.2.2.2.2.1 mo.2.2.2.2.2.2.2.2.1 mo.2.2.2.2.2.2.2.2.2.1 mo.2.2.2.2.2.2.2.2.2.2.1 mo.2.2.2.2.2.2.2.2.2.2.2.1 mo.2.2.2.2.2.2.2.2.2.2.2.2.1 mo.2.2.2.2.2.2.2.2.2.2.2.2.2.1 mo.2.2.2.2.2.2.2.2.2.2.2.2.2.2.1 mo.2.2.2.2.2.2.2.2.2.2.2.2.2.2.2.1 mo.2.2.2.2.2.2.2.2.2.2.2.2.2.2.2.2.1 mo.2.2.2.2.2.2.2.2.2.2.2.2.2.2.2.2.2)) (As := [.int x1, .int 0, .int ((mo.1 ((0 : Int32).toNatClampNeg)) - 1)]) (st := []) C0 (c_X8_within l dC dI cI cJ cZ cO  N  x1 0 ((mo.1 ((0 : Int32).toNatClampNeg)) - 1) r_10 hc_10) rfl 3 gX8_isPiece_X8_within (by decide +kernel) ⟨Nat.le_of_ble_eq_true rfl, Nat.le_of_ble_eq_true rfl⟩ rfl  ⟨_, pr1, fun _ => pr1⟩ rfl (Nat.le_of_ble_eq_true rfl) dX8_isPiece_10 rfl ⟨Nat.zero_le _, Nat.zero_le _⟩ ?_
  obtain rfl := some_inv hf
  exact V_zret C0 (zb_X8_within hc_10) () rfl rfl dX8_isPiece_13
abbrev RM_X8_isWord : Room := { frames := 1, cells := 0, slots := 0, locals := 22 }
theorem in_X8_isWord_X8 : ∀ w ∈ u_ws RX8 TX8 18, w ∈ wsX8_isWord := by decide +kernel
theorem fl_X8_isWord_7 : FL RX8 wsX8_isWord 8 7 0 RX8 TX8 18 := ⟨in_X8_isWord_X8, rfl, by decide, by decide +kernel, rfl⟩
set_option maxRecDepth 100000 in
set_option maxHeartbeats 4000000 in
theorem c_X8_isWord (l : Launch) (dC : Nat → ClassId) (dI : Nat → Nat → Nat) (cI cJ cZ cO : ClassId) (am : Nat → Nat) (N : Nat) (mo : MV) (x1 : Int32) (o : Int32) (hf : f_X8_isWord N mo x1 = some o) : MetI l yX8_isWord wsX8_isWord RM_X8_isWord (dC, dI) (TY cI cJ cZ cO) [.ref (am 0), .int x1] (W_M cI cJ cZ cO am mo.1 mo.2.1 mo.2.2.1 mo.2.2.2.1 mo.2.2.2.2.1 mo.2.2.2.2.2.1 mo.2.2.2.2.2.2.1 mo.2.2.2.2.2.2.2.1 mo.2.2.2.2.2.2.2.2.1 mo.2.2.2.2.2.2.2.2.2.1 mo.2.2.2.2.2.2.2.2.2.2.1 mo.2.2.2.2.2.2.2.2.2.2.2.1 mo.2.2.2.2.2.2.2.2.2.2.2.2.1 mo.2.2.2.2.2.2.2.2.2.2.2.2.2.1 mo.2.2.2.2.2.2.2.2.2.2.2.2.2.2.1 mo.2.2.2.2.2.2.2.2.2.2.2.2.2.2.2.1 mo.2.2.2.2.2.2.2.2.2.2.2.2.2.2.2.2.1 mo.2.2.2.2.2.2.2.2.2.2.2.2.2.2.2.2.2) (fun r (_ : Unit) => r = o) (fun _ => (W_M cI cJ cZ cO am mo.1 mo.2.1 mo.2.2.1 mo.2.2.2.1 mo.2.2.2.2.1 mo.2.2.2.2.2.1 mo.2.2.2.2.2.2.1 mo.2.2.2.2.2.2.2.1 mo.2.2.2.2.2.2.2.2.1 mo.2.2.2.2.2.2.2.2.2.1 mo.2.2.2.2.2.2.2.2.2.2.1 mo.2.2.2.2.2.2.2.2.2.2.2.1 mo.2.2.2.2.2.2.2.2.2.2.2.2.1 mo.2.2.2.2.2.2.2.2.2.2.2.2.2.1 mo.2.2.2.2.2.2.2.2.2.2.2.2.2.2.1 mo.2.2.2.2.2.2.2.2.2.2.2.2.2.2.2.1 mo.2.2.2.2.2.2.2.2.2.2.2.2.2.2.2.2.1 mo.2.2.2.2.2.2.2.2.2.2.2.2.2.2.2.2.2)) := by
  refine MetI.ofV (cc := cX8_isWord) (maxL := 2) (ret := (some .boolean)) (own := RX8) (lv0 := [(0, .ref (am 0)), (1, .int x1)]) (by decide) rfl rfl (Nat.le_of_ble_eq_true rfl) rfl ?_
  intro p e s m below meth c A C0 _
  unfold f_X8_isWord at hf
  refine V_iload_n C0 dX8_isWord_0 1 rfl rfl ?_
  refine V_iconst (v := 0) C0 dX8_isWord_1 (by decide) rfl ?_
  refine V_aload_n C0 dX8_isWord_2 0 rfl rfl ?_
  refine V_get C0 fl_X8_isWord_7 0 rfl rfl dX8_isWord_3 rfl ?_
  refine V_iconst (v := 1) C0 dX8_isWord_6 (by decide) rfl ?_
  obtain ⟨hi7, hf⟩ := ck_inv hf
  refine V_iald C0 1 0 rfl rfl hi7 dX8_isWord_7 rfl ?_
  refine V_iconst (v := 1) C0 dX8_isWord_8 (by decide) rfl ?_
  refine V_isub C0 dX8_isWord_9 rfl ?_
  obtain ⟨r_10, hc_10, hf⟩ := bind_inv hf
  refine V_cSI (ws' := (W_M cI cJ cZ cO am mo.1 mo.2.1 mo.2.2.1 mo.2.2.2.1 mo.2.2.2.2.1 mo.2.2.2.2.2.1 mo.2.2.2.2.2.2.1 mo.2.2.2.2.2.2.2.1 mo.2.2.2.2.2.2.2.2.1 mo.2.2.2.2.2.2.2.2.2.1 mo.2.2.2.2.2.2.2.2.2.2.1 mo.2.2.2.2.2.2.2.2.2.2.2.1 mo.2.2.2.2.2.2.2.2.2.2.2.2.1 mo.2.2.2.2.2.2.2.2.2.2.2.2.2.1 mo.2.2.2.2.2.2.2.2.2.2.2.2.2.2.1 mo.2.2.2.2.2.2.2.2.2.2.2.2.2.2.2.1 mo.2.2.2.2.2.2.2.2.2.2.2.2.2.2.2.2.1 mo.2.2.2.2.2.2.2.2.2.2.2.2.2.2.2.2.2)) (As := [.int x1, .int 0, .int ((mo.1 ((1 : Int32).toNatClampNeg)) - 1)]) (st := []) C0 (c_X8_within l dC dI cI cJ cZ cO  N  x1 0 ((mo.1 ((1 : Int32).toNatClampNeg)) - 1) r_10 hc_10) rfl 3 gX8_isWord_X8_within (by decide +kernel) ⟨Nat.le_of_ble_eq_true rfl, Nat.le_of_ble_eq_true rfl⟩ rfl  ⟨_, pr1, fun _ => pr1⟩ rfl (Nat.le_of_ble_eq_true rfl) dX8_isWord_10 rfl ⟨Nat.zero_le _, Nat.zero_le _⟩ ?_
  obtain rfl := some_inv hf
  exact V_zret C0 (zb_X8_within hc_10) () rfl rfl dX8_isWord_13
abbrev RM_X8_piecePart : Room := { frames := 0, cells := 0, slots := 0, locals := 0 }
theorem in_X8_piecePart_X8 : ∀ w ∈ u_ws RX8 TX8 18, w ∈ wsX8_piecePart := by decide +kernel
theorem fl_X8_piecePart_7 : FL RX8 wsX8_piecePart 8 7 0 RX8 TX8 18 := ⟨in_X8_piecePart_X8, rfl, by decide, by decide +kernel, rfl⟩
set_option maxRecDepth 100000 in
set_option maxHeartbeats 4000000 in
theorem c_X8_piecePart (l : Launch) (dC : Nat → ClassId) (dI : Nat → Nat → Nat) (cI cJ cZ cO : ClassId) (am : Nat → Nat) (N : Nat) (mo : MV) (x1 : Int32) (x2 : Int32) (o : Int32) (hf : f_X8_piecePart N mo x1 x2 = some o) : MetI l yX8_piecePart wsX8_piecePart RM_X8_piecePart (dC, dI) (TY cI cJ cZ cO) [.ref (am 0), .int x1, .int x2] (W_M cI cJ cZ cO am mo.1 mo.2.1 mo.2.2.1 mo.2.2.2.1 mo.2.2.2.2.1 mo.2.2.2.2.2.1 mo.2.2.2.2.2.2.1 mo.2.2.2.2.2.2.2.1 mo.2.2.2.2.2.2.2.2.1 mo.2.2.2.2.2.2.2.2.2.1 mo.2.2.2.2.2.2.2.2.2.2.1 mo.2.2.2.2.2.2.2.2.2.2.2.1 mo.2.2.2.2.2.2.2.2.2.2.2.2.1 mo.2.2.2.2.2.2.2.2.2.2.2.2.2.1 mo.2.2.2.2.2.2.2.2.2.2.2.2.2.2.1 mo.2.2.2.2.2.2.2.2.2.2.2.2.2.2.2.1 mo.2.2.2.2.2.2.2.2.2.2.2.2.2.2.2.2.1 mo.2.2.2.2.2.2.2.2.2.2.2.2.2.2.2.2.2) (fun r (_ : Unit) => r = o) (fun _ => (W_M cI cJ cZ cO am mo.1 mo.2.1 mo.2.2.1 mo.2.2.2.1 mo.2.2.2.2.1 mo.2.2.2.2.2.1 mo.2.2.2.2.2.2.1 mo.2.2.2.2.2.2.2.1 mo.2.2.2.2.2.2.2.2.1 mo.2.2.2.2.2.2.2.2.2.1 mo.2.2.2.2.2.2.2.2.2.2.1 mo.2.2.2.2.2.2.2.2.2.2.2.1 mo.2.2.2.2.2.2.2.2.2.2.2.2.1 mo.2.2.2.2.2.2.2.2.2.2.2.2.2.1 mo.2.2.2.2.2.2.2.2.2.2.2.2.2.2.1 mo.2.2.2.2.2.2.2.2.2.2.2.2.2.2.2.1 mo.2.2.2.2.2.2.2.2.2.2.2.2.2.2.2.2.1 mo.2.2.2.2.2.2.2.2.2.2.2.2.2.2.2.2.2)) := by
  refine MetI.ofV (cc := cX8_piecePart) (maxL := 3) (ret := (some .int)) (own := RX8) (lv0 := [(0, .ref (am 0)), (1, .int x1), (2, .int x2)]) (by decide) rfl rfl (Nat.le_of_ble_eq_true rfl) rfl ?_
  intro p e s m below meth c A C0 _
  unfold f_X8_piecePart at hf
  refine V_aload_n C0 dX8_piecePart_0 0 rfl rfl ?_
  refine V_get C0 fl_X8_piecePart_7 0 rfl rfl dX8_piecePart_1 rfl ?_
  refine V_iconst (v := 2) C0 dX8_piecePart_4 (by decide) rfl ?_
  refine V_bipush (v := 6) C0 dX8_piecePart_5 (by decide) rfl ?_
  refine V_iload_n C0 dX8_piecePart_7 1 rfl rfl ?_
  refine V_imul C0 dX8_piecePart_8 rfl ?_
  refine V_iadd C0 dX8_piecePart_9 rfl ?_
  refine V_iload_n C0 dX8_piecePart_10 2 rfl rfl ?_
  refine V_iadd C0 dX8_piecePart_11 rfl ?_
  obtain ⟨hi12, hf⟩ := ck_inv hf
  refine V_iald C0 1 0 rfl rfl hi12 dX8_piecePart_12 rfl ?_
  obtain rfl := some_inv hf
  exact V_iret C0 () rfl rfl dX8_piecePart_13
abbrev RM_X8_wordPart : Room := { frames := 0, cells := 0, slots := 0, locals := 0 }
theorem in_X8_wordPart_X8 : ∀ w ∈ u_ws RX8 TX8 18, w ∈ wsX8_wordPart := by decide +kernel
theorem fl_X8_wordPart_7 : FL RX8 wsX8_wordPart 8 7 0 RX8 TX8 18 := ⟨in_X8_wordPart_X8, rfl, by decide, by decide +kernel, rfl⟩
set_option maxRecDepth 100000 in
set_option maxHeartbeats 4000000 in
theorem c_X8_wordPart (l : Launch) (dC : Nat → ClassId) (dI : Nat → Nat → Nat) (cI cJ cZ cO : ClassId) (am : Nat → Nat) (N : Nat) (mo : MV) (x1 : Int32) (x2 : Int32) (o : Int32) (hf : f_X8_wordPart N mo x1 x2 = some o) : MetI l yX8_wordPart wsX8_wordPart RM_X8_wordPart (dC, dI) (TY cI cJ cZ cO) [.ref (am 0), .int x1, .int x2] (W_M cI cJ cZ cO am mo.1 mo.2.1 mo.2.2.1 mo.2.2.2.1 mo.2.2.2.2.1 mo.2.2.2.2.2.1 mo.2.2.2.2.2.2.1 mo.2.2.2.2.2.2.2.1 mo.2.2.2.2.2.2.2.2.1 mo.2.2.2.2.2.2.2.2.2.1 mo.2.2.2.2.2.2.2.2.2.2.1 mo.2.2.2.2.2.2.2.2.2.2.2.1 mo.2.2.2.2.2.2.2.2.2.2.2.2.1 mo.2.2.2.2.2.2.2.2.2.2.2.2.2.1 mo.2.2.2.2.2.2.2.2.2.2.2.2.2.2.1 mo.2.2.2.2.2.2.2.2.2.2.2.2.2.2.2.1 mo.2.2.2.2.2.2.2.2.2.2.2.2.2.2.2.2.1 mo.2.2.2.2.2.2.2.2.2.2.2.2.2.2.2.2.2) (fun r (_ : Unit) => r = o) (fun _ => (W_M cI cJ cZ cO am mo.1 mo.2.1 mo.2.2.1 mo.2.2.2.1 mo.2.2.2.2.1 mo.2.2.2.2.2.1 mo.2.2.2.2.2.2.1 mo.2.2.2.2.2.2.2.1 mo.2.2.2.2.2.2.2.2.1 mo.2.2.2.2.2.2.2.2.2.1 mo.2.2.2.2.2.2.2.2.2.2.1 mo.2.2.2.2.2.2.2.2.2.2.2.1 mo.2.2.2.2.2.2.2.2.2.2.2.2.1 mo.2.2.2.2.2.2.2.2.2.2.2.2.2.1 mo.2.2.2.2.2.2.2.2.2.2.2.2.2.2.1 mo.2.2.2.2.2.2.2.2.2.2.2.2.2.2.2.1 mo.2.2.2.2.2.2.2.2.2.2.2.2.2.2.2.2.1 mo.2.2.2.2.2.2.2.2.2.2.2.2.2.2.2.2.2)) := by
  refine MetI.ofV (cc := cX8_wordPart) (maxL := 3) (ret := (some .int)) (own := RX8) (lv0 := [(0, .ref (am 0)), (1, .int x1), (2, .int x2)]) (by decide) rfl rfl (Nat.le_of_ble_eq_true rfl) rfl ?_
  intro p e s m below meth c A C0 _
  unfold f_X8_wordPart at hf
  refine V_aload_n C0 dX8_wordPart_0 0 rfl rfl ?_
  refine V_get C0 fl_X8_wordPart_7 0 rfl rfl dX8_wordPart_1 rfl ?_
  refine V_bipush (v := 98) C0 dX8_wordPart_4 (by decide) rfl ?_
  refine V_bipush (v := 14) C0 dX8_wordPart_6 (by decide) rfl ?_
  refine V_iload_n C0 dX8_wordPart_8 1 rfl rfl ?_
  refine V_imul C0 dX8_wordPart_9 rfl ?_
  refine V_iadd C0 dX8_wordPart_10 rfl ?_
  refine V_iload_n C0 dX8_wordPart_11 2 rfl rfl ?_
  refine V_iadd C0 dX8_wordPart_12 rfl ?_
  obtain ⟨hi13, hf⟩ := ck_inv hf
  refine V_iald C0 1 0 rfl rfl hi13 dX8_wordPart_13 rfl ?_
  obtain rfl := some_inv hf
  exact V_iret C0 () rfl rfl dX8_wordPart_14
abbrev RM_X8_textOf : Room := { frames := 1, cells := 0, slots := 0, locals := 22 }
set_option maxRecDepth 100000 in
set_option maxHeartbeats 4000000 in
theorem c_X8_textOf (l : Launch) (dC : Nat → ClassId) (dI : Nat → Nat → Nat) (cI cJ cZ cO : ClassId) (am : Nat → Nat) (N : Nat) (mo : MV) (x1 : Int32) (o : Int32) (hf : f_X8_textOf N mo x1 = some o) : MetI l yX8_textOf wsX8_textOf RM_X8_textOf (dC, dI) (TY cI cJ cZ cO) [.ref (am 0), .int x1] (W_M cI cJ cZ cO am mo.1 mo.2.1 mo.2.2.1 mo.2.2.2.1 mo.2.2.2.2.1 mo.2.2.2.2.2.1 mo.2.2.2.2.2.2.1 mo.2.2.2.2.2.2.2.1 mo.2.2.2.2.2.2.2.2.1 mo.2.2.2.2.2.2.2.2.2.1 mo.2.2.2.2.2.2.2.2.2.2.1 mo.2.2.2.2.2.2.2.2.2.2.2.1 mo.2.2.2.2.2.2.2.2.2.2.2.2.1 mo.2.2.2.2.2.2.2.2.2.2.2.2.2.1 mo.2.2.2.2.2.2.2.2.2.2.2.2.2.2.1 mo.2.2.2.2.2.2.2.2.2.2.2.2.2.2.2.1 mo.2.2.2.2.2.2.2.2.2.2.2.2.2.2.2.2.1 mo.2.2.2.2.2.2.2.2.2.2.2.2.2.2.2.2.2) (fun r (_ : Unit) => r = o) (fun _ => (W_M cI cJ cZ cO am mo.1 mo.2.1 mo.2.2.1 mo.2.2.2.1 mo.2.2.2.2.1 mo.2.2.2.2.2.1 mo.2.2.2.2.2.2.1 mo.2.2.2.2.2.2.2.1 mo.2.2.2.2.2.2.2.2.1 mo.2.2.2.2.2.2.2.2.2.1 mo.2.2.2.2.2.2.2.2.2.2.1 mo.2.2.2.2.2.2.2.2.2.2.2.1 mo.2.2.2.2.2.2.2.2.2.2.2.2.1 mo.2.2.2.2.2.2.2.2.2.2.2.2.2.1 mo.2.2.2.2.2.2.2.2.2.2.2.2.2.2.1 mo.2.2.2.2.2.2.2.2.2.2.2.2.2.2.2.1 mo.2.2.2.2.2.2.2.2.2.2.2.2.2.2.2.2.1 mo.2.2.2.2.2.2.2.2.2.2.2.2.2.2.2.2.2)) := by
  refine MetI.ofV (cc := cX8_textOf) (maxL := 4) (ret := (some .int)) (own := RX8) (lv0 := [(0, .ref (am 0)), (1, .int x1)]) (by decide) rfl rfl (Nat.le_of_ble_eq_true rfl) rfl ?_
  intro p e s m below meth c A C0 _
  unfold f_X8_textOf at hf
  refine V_iconst (v := 0) C0 dX8_textOf_0 (by decide) rfl ?_
  refine V_istore_n (lv' := [(2, .int 0), (0, .ref (am 0)), (1, .int x1)]) C0 dX8_textOf_1 rfl (by decide) rfl rfl ?_
  refine V_iconst (v := 0) C0 dX8_textOf_2 (by decide) rfl ?_
  refine V_istore_n (lv' := [(3, .int 0), (2, .int 0), (0, .ref (am 0)), (1, .int x1)]) C0 dX8_textOf_3 rfl (by decide) rfl rfl ?_
  have hL4 : ∀ (K : Int32 → Option (Int32)), (∀ (x2 : Int32), K x2 = some o → V p l e RM_X8_textOf s m ([.ref (am 0), .int x1] : List Value).toArray below meth c 4 (dC, dI) A (MQ below (va_Qi (fun r (_ : Unit) => r = o) (PostW (dC, dI) (TY cI cJ cZ cO) A (fun _ => (W_M cI cJ cZ cO am mo.1 mo.2.1 mo.2.2.1 mo.2.2.2.1 mo.2.2.2.2.1 mo.2.2.2.2.2.1 mo.2.2.2.2.2.2.1 mo.2.2.2.2.2.2.2.1 mo.2.2.2.2.2.2.2.2.1 mo.2.2.2.2.2.2.2.2.2.1 mo.2.2.2.2.2.2.2.2.2.2.1 mo.2.2.2.2.2.2.2.2.2.2.2.1 mo.2.2.2.2.2.2.2.2.2.2.2.2.1 mo.2.2.2.2.2.2.2.2.2.2.2.2.2.1 mo.2.2.2.2.2.2.2.2.2.2.2.2.2.2.1 mo.2.2.2.2.2.2.2.2.2.2.2.2.2.2.2.1 mo.2.2.2.2.2.2.2.2.2.2.2.2.2.2.2.2.1 mo.2.2.2.2.2.2.2.2.2.2.2.2.2.2.2.2.2))) A) ([.ref (am 0), .int x1] : List Value).toArray s 0 0 A) 0 0 (W_M cI cJ cZ cO am mo.1 mo.2.1 mo.2.2.1 mo.2.2.2.1 mo.2.2.2.2.1 mo.2.2.2.2.2.1 mo.2.2.2.2.2.2.1 mo.2.2.2.2.2.2.2.1 mo.2.2.2.2.2.2.2.2.1 mo.2.2.2.2.2.2.2.2.2.1 mo.2.2.2.2.2.2.2.2.2.2.1 mo.2.2.2.2.2.2.2.2.2.2.2.1 mo.2.2.2.2.2.2.2.2.2.2.2.2.1 mo.2.2.2.2.2.2.2.2.2.2.2.2.2.1 mo.2.2.2.2.2.2.2.2.2.2.2.2.2.2.1 mo.2.2.2.2.2.2.2.2.2.2.2.2.2.2.2.1 mo.2.2.2.2.2.2.2.2.2.2.2.2.2.2.2.2.1 mo.2.2.2.2.2.2.2.2.2.2.2.2.2.2.2.2.2) 34 [(2, .int x2)] []) → ∀ (n : Nat) (x2 : Int32) (x3 : Int32), f_X8_textOf_L4 N mo x1  K n x2 x3 = some o → V p l e RM_X8_textOf s m ([.ref (am 0), .int x1] : List Value).toArray below meth c 4 (dC, dI) A (MQ below (va_Qi (fun r (_ : Unit) => r = o) (PostW (dC, dI) (TY cI cJ cZ cO) A (fun _ => (W_M cI cJ cZ cO am mo.1 mo.2.1 mo.2.2.1 mo.2.2.2.1 mo.2.2.2.2.1 mo.2.2.2.2.2.1 mo.2.2.2.2.2.2.1 mo.2.2.2.2.2.2.2.1 mo.2.2.2.2.2.2.2.2.1 mo.2.2.2.2.2.2.2.2.2.1 mo.2.2.2.2.2.2.2.2.2.2.1 mo.2.2.2.2.2.2.2.2.2.2.2.1 mo.2.2.2.2.2.2.2.2.2.2.2.2.1 mo.2.2.2.2.2.2.2.2.2.2.2.2.2.1 mo.2.2.2.2.2.2.2.2.2.2.2.2.2.2.1 mo.2.2.2.2.2.2.2.2.2.2.2.2.2.2.2.1 mo.2.2.2.2.2.2.2.2.2.2.2.2.2.2.2.2.1 mo.2.2.2.2.2.2.2.2.2.2.2.2.2.2.2.2.2))) A) ([.ref (am 0), .int x1] : List Value).toArray s 0 0 A) 0 0 (W_M cI cJ cZ cO am mo.1 mo.2.1 mo.2.2.1 mo.2.2.2.1 mo.2.2.2.2.1 mo.2.2.2.2.2.1 mo.2.2.2.2.2.2.1 mo.2.2.2.2.2.2.2.1 mo.2.2.2.2.2.2.2.2.1 mo.2.2.2.2.2.2.2.2.2.1 mo.2.2.2.2.2.2.2.2.2.2.1 mo.2.2.2.2.2.2.2.2.2.2.2.1 mo.2.2.2.2.2.2.2.2.2.2.2.2.1 mo.2.2.2.2.2.2.2.2.2.2.2.2.2.1 mo.2.2.2.2.2.2.2.2.2.2.2.2.2.2.1 mo.2.2.2.2.2.2.2.2.2.2.2.2.2.2.2.1 mo.2.2.2.2.2.2.2.2.2.2.2.2.2.2.2.2.1 mo.2.2.2.2.2.2.2.2.2.2.2.2.2.2.2.2.2) 4 [(0, .ref (am 0)), (1, .int x1), (2, .int x2), (3, .int x3)] [] := by
    intro  K hK n
    induction n with
    | zero => intro x2 x3 hf; cases hf
    | succ n hREC =>
      intro x2 x3 hf
      rw [f_X8_textOf_L4] at hf
      refine V_iload_n C0 dX8_textOf_4 3 rfl rfl ?_
      refine V_aload_n C0 dX8_textOf_5 0 rfl rfl ?_
      refine V_iload_n C0 dX8_textOf_6 1 rfl rfl ?_
      refine V_iconst (v := 0) C0 dX8_textOf_7 (by decide) rfl ?_
      obtain ⟨r_8, hc_8, hf⟩ := bind_inv hf
      refine V_cVI (ws' := (W_M cI cJ cZ cO am mo.1 mo.2.1 mo.2.2.1 mo.2.2.2.1 mo.2.2.2.2.1 mo.2.2.2.2.2.1 mo.2.2.2.2.2.2.1 mo.2.2.2.2.2.2.2.1 mo.2.2.2.2.2.2.2.2.1 mo.2.2.2.2.2.2.2.2.2.1 mo.2.2.2.2.2.2.2.2.2.2.1 mo.2.2.2.2.2.2.2.2.2.2.2.1 mo.2.2.2.2.2.2.2.2.2.2.2.2.1 mo.2.2.2.2.2.2.2.2.2.2.2.2.2.1 mo.2.2.2.2.2.2.2.2.2.2.2.2.2.2.1 mo.2.2.2.2.2.2.2.2.2.2.2.2.2.2.2.1 mo.2.2.2.2.2.2.2.2.2.2.2.2.2.2.2.2.1 mo.2.2.2.2.2.2.2.2.2.2.2.2.2.2.2.2.2)) (As := [.int x1, .int 0]) (b := am 0) (st := [.int x3]) C0 (c_X8_piecePart l dC dI cI cJ cZ cO am N mo x1 0 r_8 hc_8) rfl 2 gX8_textOf_X8_piecePart (by decide +kernel) ⟨Nat.le_of_ble_eq_true rfl, Nat.le_of_ble_eq_true rfl⟩ rfl 0 8 rfl rfl  Cut.all rfl (Nat.le_of_ble_eq_true rfl) dX8_textOf_8 rfl ⟨Nat.zero_le _, Nat.zero_le _⟩ ?_
      refine V_icmp_ge (tgt := 34) C0 dX8_textOf_11 (by decide) rfl (fun c11 => ?_) (fun c11 => ?_)
      · have hf := ite_t c11 hf
        exact V.sub [2] rfl (hK x2 hf)
      · have hf := ite_f c11 hf
        refine V_bipush (v := 7) C0 dX8_textOf_14 (by decide) rfl ?_
        refine V_iload_n C0 dX8_textOf_16 2 rfl rfl ?_
        refine V_imul C0 dX8_textOf_17 rfl ?_
        refine V_aload_n C0 dX8_textOf_18 0 rfl rfl ?_
        refine V_iload_n C0 dX8_textOf_19 1 rfl rfl ?_
        refine V_iconst (v := 2) C0 dX8_textOf_20 (by decide) rfl ?_
        refine V_iload_n C0 dX8_textOf_21 3 rfl rfl ?_
        refine V_iadd C0 dX8_textOf_22 rfl ?_
        obtain ⟨r_23, hc_23, hf⟩ := bind_inv hf
        refine V_cVI (ws' := (W_M cI cJ cZ cO am mo.1 mo.2.1 mo.2.2.1 mo.2.2.2.1 mo.2.2.2.2.1 mo.2.2.2.2.2.1 mo.2.2.2.2.2.2.1 mo.2.2.2.2.2.2.2.1 mo.2.2.2.2.2.2.2.2.1 mo.2.2.2.2.2.2.2.2.2.1 mo.2.2.2.2.2.2.2.2.2.2.1 mo.2.2.2.2.2.2.2.2.2.2.2.1 mo.2.2.2.2.2.2.2.2.2.2.2.2.1 mo.2.2.2.2.2.2.2.2.2.2.2.2.2.1 mo.2.2.2.2.2.2.2.2.2.2.2.2.2.2.1 mo.2.2.2.2.2.2.2.2.2.2.2.2.2.2.2.1 mo.2.2.2.2.2.2.2.2.2.2.2.2.2.2.2.2.1 mo.2.2.2.2.2.2.2.2.2.2.2.2.2.2.2.2.2)) (As := [.int x1, .int (2 + x3)]) (b := am 0) (st := [.int (7 * x2)]) C0 (c_X8_piecePart l dC dI cI cJ cZ cO am N mo x1 (2 + x3) r_23 hc_23) rfl 2 gX8_textOf_X8_piecePart (by decide +kernel) ⟨Nat.le_of_ble_eq_true rfl, Nat.le_of_ble_eq_true rfl⟩ rfl 0 8 rfl rfl  Cut.all rfl (Nat.le_of_ble_eq_true rfl) dX8_textOf_23 rfl ⟨Nat.zero_le _, Nat.zero_le _⟩ ?_
        refine V_iadd C0 dX8_textOf_26 rfl ?_
        refine V_topi (fun x2_1 ex2_1 => ?_)
        have hf := bd_inv ex2_1 hf
        refine V_istore_n (lv' := [(2, .int x2_1), (0, .ref (am 0)), (1, .int x1), (3, .int x3)]) C0 dX8_textOf_27 rfl (by decide) rfl rfl ?_
        refine V_iinc (k := 3) (v := x3 + 1) (lv' := [(3, .int (x3 + 1)), (2, .int x2_1), (0, .ref (am 0)), (1, .int x1)]) C0 dX8_textOf_28 rfl rfl (by decide) rfl rfl ?_
        refine V_goto (tgt := 4) C0 dX8_textOf_31 (by decide) ?_
        exact V.sub [2, 3, 1, 0] rfl (hREC x2_1 (x3 + 1) hf)
  refine V.sub [2, 3, 1, 0] rfl (hL4  _ ?_ N 0 0 hf)
  intro x2_4 hf
  refine V_iload_n C0 dX8_textOf_34 0 rfl rfl ?_
  obtain rfl := some_inv hf
  exact V_iret C0 () rfl rfl dX8_textOf_35
abbrev RM_X8_textIn : Room := { frames := 1, cells := 0, slots := 0, locals := 22 }
set_option maxRecDepth 100000 in
set_option maxHeartbeats 4000000 in
theorem c_X8_textIn (l : Launch) (dC : Nat → ClassId) (dI : Nat → Nat → Nat) (cI cJ cZ cO : ClassId) (am : Nat → Nat) (N : Nat) (mo : MV) (x1 : Int32) (x2 : Int32) (x3 : Int32) (o : Int32) (hf : f_X8_textIn N mo x1 x2 x3 = some o) : MetI l yX8_textIn wsX8_textIn RM_X8_textIn (dC, dI) (TY cI cJ cZ cO) [.ref (am 0), .int x1, .int x2, .int x3] (W_M cI cJ cZ cO am mo.1 mo.2.1 mo.2.2.1 mo.2.2.2.1 mo.2.2.2.2.1 mo.2.2.2.2.2.1 mo.2.2.2.2.2.2.1 mo.2.2.2.2.2.2.2.1 mo.2.2.2.2.2.2.2.2.1 mo.2.2.2.2.2.2.2.2.2.1 mo.2.2.2.2.2.2.2.2.2.2.1 mo.2.2.2.2.2.2.2.2.2.2.2.1 mo.2.2.2.2.2.2.2.2.2.2.2.2.1 mo.2.2.2.2.2.2.2.2.2.2.2.2.2.1 mo.2.2.2.2.2.2.2.2.2.2.2.2.2.2.1 mo.2.2.2.2.2.2.2.2.2.2.2.2.2.2.2.1 mo.2.2.2.2.2.2.2.2.2.2.2.2.2.2.2.2.1 mo.2.2.2.2.2.2.2.2.2.2.2.2.2.2.2.2.2) (fun r (_ : Unit) => r = o) (fun _ => (W_M cI cJ cZ cO am mo.1 mo.2.1 mo.2.2.1 mo.2.2.2.1 mo.2.2.2.2.1 mo.2.2.2.2.2.1 mo.2.2.2.2.2.2.1 mo.2.2.2.2.2.2.2.1 mo.2.2.2.2.2.2.2.2.1 mo.2.2.2.2.2.2.2.2.2.1 mo.2.2.2.2.2.2.2.2.2.2.1 mo.2.2.2.2.2.2.2.2.2.2.2.1 mo.2.2.2.2.2.2.2.2.2.2.2.2.1 mo.2.2.2.2.2.2.2.2.2.2.2.2.2.1 mo.2.2.2.2.2.2.2.2.2.2.2.2.2.2.1 mo.2.2.2.2.2.2.2.2.2.2.2.2.2.2.2.1 mo.2.2.2.2.2.2.2.2.2.2.2.2.2.2.2.2.1 mo.2.2.2.2.2.2.2.2.2.2.2.2.2.2.2.2.2)) := by
  refine MetI.ofV (cc := cX8_textIn) (maxL := 6) (ret := (some .int)) (own := RX8) (lv0 := [(0, .ref (am 0)), (1, .int x1), (2, .int x2), (3, .int x3)]) (by decide) rfl rfl (Nat.le_of_ble_eq_true rfl) rfl ?_
  intro p e s m below meth c A C0 _
  unfold f_X8_textIn at hf
  refine V_iconst (v := 0) C0 dX8_textIn_0 (by decide) rfl ?_
  refine V_istore (lv' := [(4, .int 0), (0, .ref (am 0)), (1, .int x1), (2, .int x2), (3, .int x3)]) C0 dX8_textIn_1 (by decide) rfl rfl ?_
  refine V_iconst (v := 0) C0 dX8_textIn_3 (by decide) rfl ?_
  refine V_istore (lv' := [(5, .int 0), (4, .int 0), (0, .ref (am 0)), (1, .int x1), (2, .int x2), (3, .int x3)]) C0 dX8_textIn_4 (by decide) rfl rfl ?_
  have hL6 : ∀ (K : Int32 → Option (Int32)), (∀ (x4 : Int32), K x4 = some o → V p l e RM_X8_textIn s m ([.ref (am 0), .int x1, .int x2, .int x3] : List Value).toArray below meth c 6 (dC, dI) A (MQ below (va_Qi (fun r (_ : Unit) => r = o) (PostW (dC, dI) (TY cI cJ cZ cO) A (fun _ => (W_M cI cJ cZ cO am mo.1 mo.2.1 mo.2.2.1 mo.2.2.2.1 mo.2.2.2.2.1 mo.2.2.2.2.2.1 mo.2.2.2.2.2.2.1 mo.2.2.2.2.2.2.2.1 mo.2.2.2.2.2.2.2.2.1 mo.2.2.2.2.2.2.2.2.2.1 mo.2.2.2.2.2.2.2.2.2.2.1 mo.2.2.2.2.2.2.2.2.2.2.2.1 mo.2.2.2.2.2.2.2.2.2.2.2.2.1 mo.2.2.2.2.2.2.2.2.2.2.2.2.2.1 mo.2.2.2.2.2.2.2.2.2.2.2.2.2.2.1 mo.2.2.2.2.2.2.2.2.2.2.2.2.2.2.2.1 mo.2.2.2.2.2.2.2.2.2.2.2.2.2.2.2.2.1 mo.2.2.2.2.2.2.2.2.2.2.2.2.2.2.2.2.2))) A) ([.ref (am 0), .int x1, .int x2, .int x3] : List Value).toArray s 0 0 A) 0 0 (W_M cI cJ cZ cO am mo.1 mo.2.1 mo.2.2.1 mo.2.2.2.1 mo.2.2.2.2.1 mo.2.2.2.2.2.1 mo.2.2.2.2.2.2.1 mo.2.2.2.2.2.2.2.1 mo.2.2.2.2.2.2.2.2.1 mo.2.2.2.2.2.2.2.2.2.1 mo.2.2.2.2.2.2.2.2.2.2.1 mo.2.2.2.2.2.2.2.2.2.2.2.1 mo.2.2.2.2.2.2.2.2.2.2.2.2.1 mo.2.2.2.2.2.2.2.2.2.2.2.2.2.1 mo.2.2.2.2.2.2.2.2.2.2.2.2.2.2.1 mo.2.2.2.2.2.2.2.2.2.2.2.2.2.2.2.1 mo.2.2.2.2.2.2.2.2.2.2.2.2.2.2.2.2.1 mo.2.2.2.2.2.2.2.2.2.2.2.2.2.2.2.2.2) 37 [(4, .int x4)] []) → ∀ (n : Nat) (x4 : Int32) (x5 : Int32), f_X8_textIn_L6 N mo x1 x2 x3  K n x4 x5 = some o → V p l e RM_X8_textIn s m ([.ref (am 0), .int x1, .int x2, .int x3] : List Value).toArray below meth c 6 (dC, dI) A (MQ below (va_Qi (fun r (_ : Unit) => r = o) (PostW (dC, dI) (TY cI cJ cZ cO) A (fun _ => (W_M cI cJ cZ cO am mo.1 mo.2.1 mo.2.2.1 mo.2.2.2.1 mo.2.2.2.2.1 mo.2.2.2.2.2.1 mo.2.2.2.2.2.2.1 mo.2.2.2.2.2.2.2.1 mo.2.2.2.2.2.2.2.2.1 mo.2.2.2.2.2.2.2.2.2.1 mo.2.2.2.2.2.2.2.2.2.2.1 mo.2.2.2.2.2.2.2.2.2.2.2.1 mo.2.2.2.2.2.2.2.2.2.2.2.2.1 mo.2.2.2.2.2.2.2.2.2.2.2.2.2.1 mo.2.2.2.2.2.2.2.2.2.2.2.2.2.2.1 mo.2.2.2.2.2.2.2.2.2.2.2.2.2.2.2.1 mo.2.2.2.2.2.2.2.2.2.2.2.2.2.2.2.2.1 mo.2.2.2.2.2.2.2.2.2.2.2.2.2.2.2.2.2))) A) ([.ref (am 0), .int x1, .int x2, .int x3] : List Value).toArray s 0 0 A) 0 0 (W_M cI cJ cZ cO am mo.1 mo.2.1 mo.2.2.1 mo.2.2.2.1 mo.2.2.2.2.1 mo.2.2.2.2.2.1 mo.2.2.2.2.2.2.1 mo.2.2.2.2.2.2.2.1 mo.2.2.2.2.2.2.2.2.1 mo.2.2.2.2.2.2.2.2.2.1 mo.2.2.2.2.2.2.2.2.2.2.1 mo.2.2.2.2.2.2.2.2.2.2.2.1 mo.2.2.2.2.2.2.2.2.2.2.2.2.1 mo.2.2.2.2.2.2.2.2.2.2.2.2.2.1 mo.2.2.2.2.2.2.2.2.2.2.2.2.2.2.1 mo.2.2.2.2.2.2.2.2.2.2.2.2.2.2.2.1 mo.2.2.2.2.2.2.2.2.2.2.2.2.2.2.2.2.1 mo.2.2.2.2.2.2.2.2.2.2.2.2.2.2.2.2.2) 6 [(0, .ref (am 0)), (1, .int x1), (2, .int x2), (3, .int x3), (4, .int x4), (5, .int x5)] [] := by
    intro  K hK n
    induction n with
    | zero => intro x4 x5 hf; cases hf
    | succ n hREC =>
      intro x4 x5 hf
      rw [f_X8_textIn_L6] at hf
      refine V_iload C0 dX8_textIn_6 5 rfl rfl ?_
      refine V_iload_n C0 dX8_textIn_8 3 rfl rfl ?_
      refine V_icmp_ge (tgt := 37) C0 dX8_textIn_9 (by decide) rfl (fun c9 => ?_) (fun c9 => ?_)
      · have hf := ite_t c9 hf
        exact V.sub [4] rfl (hK x4 hf)
      · have hf := ite_f c9 hf
        refine V_bipush (v := 7) C0 dX8_textIn_12 (by decide) rfl ?_
        refine V_iload C0 dX8_textIn_14 4 rfl rfl ?_
        refine V_imul C0 dX8_textIn_16 rfl ?_
        refine V_aload_n C0 dX8_textIn_17 0 rfl rfl ?_
        refine V_iload_n C0 dX8_textIn_18 1 rfl rfl ?_
        refine V_iconst (v := 2) C0 dX8_textIn_19 (by decide) rfl ?_
        refine V_iload_n C0 dX8_textIn_20 2 rfl rfl ?_
        refine V_iadd C0 dX8_textIn_21 rfl ?_
        refine V_iload C0 dX8_textIn_22 5 rfl rfl ?_
        refine V_iadd C0 dX8_textIn_24 rfl ?_
        obtain ⟨r_25, hc_25, hf⟩ := bind_inv hf
        refine V_cVI (ws' := (W_M cI cJ cZ cO am mo.1 mo.2.1 mo.2.2.1 mo.2.2.2.1 mo.2.2.2.2.1 mo.2.2.2.2.2.1 mo.2.2.2.2.2.2.1 mo.2.2.2.2.2.2.2.1 mo.2.2.2.2.2.2.2.2.1 mo.2.2.2.2.2.2.2.2.2.1 mo.2.2.2.2.2.2.2.2.2.2.1 mo.2.2.2.2.2.2.2.2.2.2.2.1 mo.2.2.2.2.2.2.2.2.2.2.2.2.1 mo.2.2.2.2.2.2.2.2.2.2.2.2.2.1 mo.2.2.2.2.2.2.2.2.2.2.2.2.2.2.1 mo.2.2.2.2.2.2.2.2.2.2.2.2.2.2.2.1 mo.2.2.2.2.2.2.2.2.2.2.2.2.2.2.2.2.1 mo.2.2.2.2.2.2.2.2.2.2.2.2.2.2.2.2.2)) (As := [.int x1, .int ((2 + x2) + x5)]) (b := am 0) (st := [.int (7 * x4)]) C0 (c_X8_wordPart l dC dI cI cJ cZ cO am N mo x1 ((2 + x2) + x5) r_25 hc_25) rfl 2 gX8_textIn_X8_wordPart (by decide +kernel) ⟨Nat.le_of_ble_eq_true rfl, Nat.le_of_ble_eq_true rfl⟩ rfl 0 8 rfl rfl  Cut.all rfl (Nat.le_of_ble_eq_true rfl) dX8_textIn_25 rfl ⟨Nat.zero_le _, Nat.zero_le _⟩ ?_
        refine V_iadd C0 dX8_textIn_28 rfl ?_
        refine V_topi (fun x4_1 ex4_1 => ?_)
        have hf := bd_inv ex4_1 hf
        refine V_istore (lv' := [(4, .int x4_1), (0, .ref (am 0)), (1, .int x1), (2, .int x2), (3, .int x3), (5, .int x5)]) C0 dX8_textIn_29 (by decide) rfl rfl ?_
        refine V_iinc (k := 5) (v := x5 + 1) (lv' := [(5, .int (x5 + 1)), (4, .int x4_1), (0, .ref (am 0)), (1, .int x1), (2, .int x2), (3, .int x3)]) C0 dX8_textIn_31 rfl rfl (by decide) rfl rfl ?_
        refine V_goto (tgt := 6) C0 dX8_textIn_34 (by decide) ?_
        exact V.sub [2, 3, 4, 5, 1, 0] rfl (hREC x4_1 (x5 + 1) hf)
  refine V.sub [2, 3, 4, 5, 1, 0] rfl (hL6  _ ?_ N 0 0 hf)
  intro x4_6 hf
  refine V_iload C0 dX8_textIn_37 0 rfl rfl ?_
  obtain rfl := some_inv hf
  exact V_iret C0 () rfl rfl dX8_textIn_39
abbrev RM_X8_lengthOf : Room := { frames := 0, cells := 0, slots := 0, locals := 0 }
set_option maxRecDepth 100000 in
set_option maxHeartbeats 4000000 in
theorem c_X8_lengthOf (l : Launch) (dC : Nat → ClassId) (dI : Nat → Nat → Nat) (cI cJ cZ cO : ClassId)  (N : Nat) (x0 : Int32) (o : Int32) (hf : f_X8_lengthOf N x0 = some o) : MetI l yX8_lengthOf wsX8_lengthOf RM_X8_lengthOf (dC, dI) (TY cI cJ cZ cO) [.int x0] ([] : va_W) (fun r (_ : Unit) => r = o) (fun _ => ([] : va_W)) := by
  refine MetI.ofV (cc := cX8_lengthOf) (maxL := 3) (ret := (some .int)) (own := RX8) (lv0 := [(0, .int x0)]) (by decide) rfl rfl (Nat.le_of_ble_eq_true rfl) rfl ?_
  intro p e s m below meth c A C0 _
  unfold f_X8_lengthOf at hf
  refine V_iconst (v := 0) C0 dX8_lengthOf_0 (by decide) rfl ?_
  refine V_istore_n (lv' := [(1, .int 0), (0, .int x0)]) C0 dX8_lengthOf_1 rfl (by decide) rfl rfl ?_
  refine V_iload_n C0 dX8_lengthOf_2 1 rfl rfl ?_
  refine V_istore_n (lv' := [(2, .int x0), (1, .int 0), (0, .int x0)]) C0 dX8_lengthOf_3 rfl (by decide) rfl rfl ?_
  have hL4 : ∀ (K : Int32 → Option (Int32)), (∀ (x1 : Int32), K x1 = some o → V p l e RM_X8_lengthOf s m ([.int x0] : List Value).toArray below meth c 3 (dC, dI) A (MQ below (va_Qi (fun r (_ : Unit) => r = o) (PostW (dC, dI) (TY cI cJ cZ cO) A (fun _ => ([] : va_W))) A) ([.int x0] : List Value).toArray s 0 0 A) 0 0 ([] : va_W) 19 [(1, .int x1)] []) → ∀ (n : Nat) (x1 : Int32) (x2 : Int32), f_X8_lengthOf_L4 N x0  K n x1 x2 = some o → V p l e RM_X8_lengthOf s m ([.int x0] : List Value).toArray below meth c 3 (dC, dI) A (MQ below (va_Qi (fun r (_ : Unit) => r = o) (PostW (dC, dI) (TY cI cJ cZ cO) A (fun _ => ([] : va_W))) A) ([.int x0] : List Value).toArray s 0 0 A) 0 0 ([] : va_W) 4 [(1, .int x1), (2, .int x2)] [] := by
    intro  K hK n
    induction n with
    | zero => intro x1 x2 hf; cases hf
    | succ n hREC =>
      intro x1 x2 hf
      rw [f_X8_lengthOf_L4] at hf
      refine V_iload_n C0 dX8_lengthOf_4 1 rfl rfl ?_
      refine V_if_le (tgt := 19) C0 dX8_lengthOf_5 (by decide) rfl (fun c5 => ?_) (fun c5 => ?_)
      · have hf := ite_t c5 hf
        exact V.sub [0] rfl (hK x1 hf)
      · have hf := ite_f c5 hf
        refine V_iinc (k := 0) (v := x1 + 1) (lv' := [(1, .int (x1 + 1)), (2, .int x2)]) C0 dX8_lengthOf_8 rfl rfl (by decide) rfl rfl ?_
        refine V_iload_n C0 dX8_lengthOf_11 1 rfl rfl ?_
        refine V_bipush (v := 7) C0 dX8_lengthOf_12 (by decide) rfl ?_
        refine V_idiv C0 dX8_lengthOf_14 (by decide) rfl ?_
        refine V_istore_n (lv' := [(2, .int (x2 / 7)), (1, .int (x1 + 1))]) C0 dX8_lengthOf_15 rfl (by decide) rfl rfl ?_
        refine V_goto (tgt := 4) C0 dX8_lengthOf_16 (by decide) ?_
        exact V.sub [1, 0] rfl (hREC (x1 + 1) (x2 / 7) hf)
  refine V.sub [1, 0] rfl (hL4  _ ?_ N 0 x0 hf)
  intro x1_4 hf
  refine V_iload_n C0 dX8_lengthOf_19 0 rfl rfl ?_
  obtain rfl := some_inv hf
  exact V_iret C0 () rfl rfl dX8_lengthOf_20
abbrev RM_X8_letterOf : Room := { frames := 1, cells := 0, slots := 0, locals := 22 }
set_option maxRecDepth 100000 in
set_option maxHeartbeats 4000000 in
theorem c_X8_letterOf (l : Launch) (dC : Nat → ClassId) (dI : Nat → Nat → Nat) (cI cJ cZ cO : ClassId)  (N : Nat) (x0 : Int32) (x1 : Int32) (o : Int32) (hf : f_X8_letterOf N x0 x1 = some o) : MetI l yX8_letterOf wsX8_letterOf RM_X8_letterOf (dC, dI) (TY cI cJ cZ cO) [.int x0, .int x1] ([] : va_W) (fun r (_ : Unit) => r = o) (fun _ => ([] : va_W)) := by
  refine MetI.ofV (cc := cX8_letterOf) (maxL := 5) (ret := (some .int)) (own := RX8) (lv0 := [(0, .int x0), (1, .int x1)]) (by decide) rfl rfl (Nat.le_of_ble_eq_true rfl) rfl ?_
  intro p e s m below meth c A C0 _
  unfold f_X8_letterOf at hf
  refine V_iload_n C0 dX8_letterOf_0 0 rfl rfl ?_
  obtain ⟨r_1, hc_1, hf⟩ := bind_inv hf
  refine V_cSI (ws' := ([] : va_W)) (As := [.int x0]) (st := []) C0 (c_X8_lengthOf l dC dI cI cJ cZ cO  N  x0 r_1 hc_1) rfl 1 gX8_letterOf_X8_lengthOf (by decide +kernel) ⟨Nat.le_of_ble_eq_true rfl, Nat.le_of_ble_eq_true rfl⟩ rfl  Cut.all rfl (Nat.le_of_ble_eq_true rfl) dX8_letterOf_1 rfl ⟨Nat.zero_le _, Nat.zero_le _⟩ ?_
  refine V_istore_n (lv' := [(2, .int r_1), (0, .int x0), (1, .int x1)]) C0 dX8_letterOf_4 rfl (by decide) rfl rfl ?_
  refine V_iload_n C0 dX8_letterOf_5 1 rfl rfl ?_
  refine V_istore_n (lv' := [(3, .int x0), (2, .int r_1), (0, .int x0), (1, .int x1)]) C0 dX8_letterOf_6 rfl (by decide) rfl rfl ?_
  refine V_iload_n C0 dX8_letterOf_7 1 rfl rfl ?_
  refine V_iconst (v := 1) C0 dX8_letterOf_8 (by decide) rfl ?_
  refine V_isub C0 dX8_letterOf_9 rfl ?_
  refine V_istore (lv' := [(4, .int (r_1 - 1)), (3, .int x0), (2, .int r_1), (0, .int x0), (1, .int x1)]) C0 dX8_letterOf_10 (by decide) rfl rfl ?_
  have hL12 : ∀ (x2 : Int32) (K : Int32 → Option (Int32)), (∀ (x3 : Int32), K x3 = some o → V p l e RM_X8_letterOf s m ([.int x0, .int x1] : List Value).toArray below meth c 5 (dC, dI) A (MQ below (va_Qi (fun r (_ : Unit) => r = o) (PostW (dC, dI) (TY cI cJ cZ cO) A (fun _ => ([] : va_W))) A) ([.int x0, .int x1] : List Value).toArray s 0 0 A) 0 0 ([] : va_W) 29 [(1, .int x1), (2, .int x2), (3, .int x3)] []) → ∀ (n : Nat) (x3 : Int32) (x4 : Int32), f_X8_letterOf_L12 N x0 x1 x2 K n x3 x4 = some o → V p l e RM_X8_letterOf s m ([.int x0, .int x1] : List Value).toArray below meth c 5 (dC, dI) A (MQ below (va_Qi (fun r (_ : Unit) => r = o) (PostW (dC, dI) (TY cI cJ cZ cO) A (fun _ => ([] : va_W))) A) ([.int x0, .int x1] : List Value).toArray s 0 0 A) 0 0 ([] : va_W) 12 [(1, .int x1), (2, .int x2), (3, .int x3), (4, .int x4)] [] := by
    intro x2 K hK n
    induction n with
    | zero => intro x3 x4 hf; cases hf
    | succ n hREC =>
      intro x3 x4 hf
      rw [f_X8_letterOf_L12] at hf
      refine V_iload C0 dX8_letterOf_12 3 rfl rfl ?_
      refine V_iload_n C0 dX8_letterOf_14 0 rfl rfl ?_
      refine V_icmp_le (tgt := 29) C0 dX8_letterOf_15 (by decide) rfl (fun c15 => ?_) (fun c15 => ?_)
      · have hf := ite_t c15 hf
        exact V.sub [0, 1, 2] rfl (hK x3 hf)
      · have hf := ite_f c15 hf
        refine V_iload_n C0 dX8_letterOf_18 2 rfl rfl ?_
        refine V_bipush (v := 7) C0 dX8_letterOf_19 (by decide) rfl ?_
        refine V_idiv C0 dX8_letterOf_21 (by decide) rfl ?_
        refine V_istore_n (lv' := [(3, .int (x3 / 7)), (1, .int x1), (2, .int x2), (4, .int x4)]) C0 dX8_letterOf_22 rfl (by decide) rfl rfl ?_
        refine V_iinc (k := 3) (v := x4 + (-1)) (lv' := [(4, .int (x4 + (-1))), (3, .int (x3 / 7)), (1, .int x1), (2, .int x2)]) C0 dX8_letterOf_23 rfl rfl (by decide) rfl rfl ?_
        refine V_goto (tgt := 12) C0 dX8_letterOf_26 (by decide) ?_
        exact V.sub [2, 3, 1, 0] rfl (hREC (x3 / 7) (x4 + (-1)) hf)
  refine V.sub [4, 2, 1, 0] rfl (hL12 r_1 _ ?_ N x0 (r_1 - 1) hf)
  intro x3_12 hf
  refine V_iload_n C0 dX8_letterOf_29 0 rfl rfl ?_
  refine V_iload_n C0 dX8_letterOf_30 1 rfl rfl ?_
  refine V_icmp_ge (tgt := 43) C0 dX8_letterOf_31 (by decide) rfl (fun c31 => ?_) (fun c31 => ?_)
  · have hf := ite_t c31 hf
    refine V_bipush (v := (-6)) C0 dX8_letterOf_43 (by decide) rfl ?_
    obtain rfl := some_inv hf
    exact V_iret C0 () rfl rfl dX8_letterOf_45
  · have hf := ite_f c31 hf
    refine V_iload_n C0 dX8_letterOf_34 2 rfl rfl ?_
    refine V_bipush (v := 7) C0 dX8_letterOf_35 (by decide) rfl ?_
    refine V_irem C0 dX8_letterOf_37 (by decide) rfl ?_
    refine V_iconst (v := 1) C0 dX8_letterOf_38 (by decide) rfl ?_
    refine V_isub C0 dX8_letterOf_39 rfl ?_
    refine V_goto (tgt := 45) C0 dX8_letterOf_40 (by decide) ?_
    obtain rfl := some_inv hf
    exact V_iret C0 () rfl rfl dX8_letterOf_45
abbrev RM_X8_pieceOf : Room := { frames := 2, cells := 0, slots := 0, locals := 45 }
theorem in_X8_pieceOf_X8 : ∀ w ∈ u_ws RX8 TX8 18, w ∈ wsX8_pieceOf := by decide +kernel
theorem fl_X8_pieceOf_7 : FL RX8 wsX8_pieceOf 8 7 0 RX8 TX8 18 := ⟨in_X8_pieceOf_X8, rfl, by decide, by decide +kernel, rfl⟩
set_option maxRecDepth 100000 in
set_option maxHeartbeats 4000000 in
theorem c_X8_pieceOf (l : Launch) (dC : Nat → ClassId) (dI : Nat → Nat → Nat) (cI cJ cZ cO : ClassId) (am : Nat → Nat) (N : Nat) (mo : MV) (x1 : Int32) (o : Int32) (hf : f_X8_pieceOf N mo x1 = some o) : MetI l yX8_pieceOf wsX8_pieceOf RM_X8_pieceOf (dC, dI) (TY cI cJ cZ cO) [.ref (am 0), .int x1] (W_M cI cJ cZ cO am mo.1 mo.2.1 mo.2.2.1 mo.2.2.2.1 mo.2.2.2.2.1 mo.2.2.2.2.2.1 mo.2.2.2.2.2.2.1 mo.2.2.2.2.2.2.2.1 mo.2.2.2.2.2.2.2.2.1 mo.2.2.2.2.2.2.2.2.2.1 mo.2.2.2.2.2.2.2.2.2.2.1 mo.2.2.2.2.2.2.2.2.2.2.2.1 mo.2.2.2.2.2.2.2.2.2.2.2.2.1 mo.2.2.2.2.2.2.2.2.2.2.2.2.2.1 mo.2.2.2.2.2.2.2.2.2.2.2.2.2.2.1 mo.2.2.2.2.2.2.2.2.2.2.2.2.2.2.2.1 mo.2.2.2.2.2.2.2.2.2.2.2.2.2.2.2.2.1 mo.2.2.2.2.2.2.2.2.2.2.2.2.2.2.2.2.2) (fun r (_ : Unit) => r = o) (fun _ => (W_M cI cJ cZ cO am mo.1 mo.2.1 mo.2.2.1 mo.2.2.2.1 mo.2.2.2.2.1 mo.2.2.2.2.2.1 mo.2.2.2.2.2.2.1 mo.2.2.2.2.2.2.2.1 mo.2.2.2.2.2.2.2.2.1 mo.2.2.2.2.2.2.2.2.2.1 mo.2.2.2.2.2.2.2.2.2.2.1 mo.2.2.2.2.2.2.2.2.2.2.2.1 mo.2.2.2.2.2.2.2.2.2.2.2.2.1 mo.2.2.2.2.2.2.2.2.2.2.2.2.2.1 mo.2.2.2.2.2.2.2.2.2.2.2.2.2.2.1 mo.2.2.2.2.2.2.2.2.2.2.2.2.2.2.2.1 mo.2.2.2.2.2.2.2.2.2.2.2.2.2.2.2.2.1 mo.2.2.2.2.2.2.2.2.2.2.2.2.2.2.2.2.2)) := by
  refine MetI.ofV (cc := cX8_pieceOf) (maxL := 4) (ret := (some .int)) (own := RX8) (lv0 := [(0, .ref (am 0)), (1, .int x1)]) (by decide) rfl rfl (Nat.le_of_ble_eq_true rfl) rfl ?_
  intro p e s m below meth c A C0 _
  unfold f_X8_pieceOf at hf
  refine V_bipush (v := (-6)) C0 dX8_pieceOf_0 (by decide) rfl ?_
  refine V_istore_n (lv' := [(2, .int ((-6))), (0, .ref (am 0)), (1, .int x1)]) C0 dX8_pieceOf_2 rfl (by decide) rfl rfl ?_
  refine V_iconst (v := 0) C0 dX8_pieceOf_3 (by decide) rfl ?_
  refine V_istore_n (lv' := [(3, .int 0), (2, .int ((-6))), (0, .ref (am 0)), (1, .int x1)]) C0 dX8_pieceOf_4 rfl (by decide) rfl rfl ?_
  have hL5 : ∀ (K : Int32 → Option (Int32)), (∀ (x2 : Int32), K x2 = some o → V p l e RM_X8_pieceOf s m ([.ref (am 0), .int x1] : List Value).toArray below meth c 4 (dC, dI) A (MQ below (va_Qi (fun r (_ : Unit) => r = o) (PostW (dC, dI) (TY cI cJ cZ cO) A (fun _ => (W_M cI cJ cZ cO am mo.1 mo.2.1 mo.2.2.1 mo.2.2.2.1 mo.2.2.2.2.1 mo.2.2.2.2.2.1 mo.2.2.2.2.2.2.1 mo.2.2.2.2.2.2.2.1 mo.2.2.2.2.2.2.2.2.1 mo.2.2.2.2.2.2.2.2.2.1 mo.2.2.2.2.2.2.2.2.2.2.1 mo.2.2.2.2.2.2.2.2.2.2.2.1 mo.2.2.2.2.2.2.2.2.2.2.2.2.1 mo.2.2.2.2.2.2.2.2.2.2.2.2.2.1 mo.2.2.2.2.2.2.2.2.2.2.2.2.2.2.1 mo.2.2.2.2.2.2.2.2.2.2.2.2.2.2.2.1 mo.2.2.2.2.2.2.2.2.2.2.2.2.2.2.2.2.1 mo.2.2.2.2.2.2.2.2.2.2.2.2.2.2.2.2.2))) A) ([.ref (am 0), .int x1] : List Value).toArray s 0 0 A) 0 0 (W_M cI cJ cZ cO am mo.1 mo.2.1 mo.2.2.1 mo.2.2.2.1 mo.2.2.2.2.1 mo.2.2.2.2.2.1 mo.2.2.2.2.2.2.1 mo.2.2.2.2.2.2.2.1 mo.2.2.2.2.2.2.2.2.1 mo.2.2.2.2.2.2.2.2.2.1 mo.2.2.2.2.2.2.2.2.2.2.1 mo.2.2.2.2.2.2.2.2.2.2.2.1 mo.2.2.2.2.2.2.2.2.2.2.2.2.1 mo.2.2.2.2.2.2.2.2.2.2.2.2.2.1 mo.2.2.2.2.2.2.2.2.2.2.2.2.2.2.1 mo.2.2.2.2.2.2.2.2.2.2.2.2.2.2.2.1 mo.2.2.2.2.2.2.2.2.2.2.2.2.2.2.2.2.1 mo.2.2.2.2.2.2.2.2.2.2.2.2.2.2.2.2.2) 36 [(2, .int x2)] []) → ∀ (n : Nat) (x2 : Int32) (x3 : Int32), f_X8_pieceOf_L5 N mo x1  K n x2 x3 = some o → V p l e RM_X8_pieceOf s m ([.ref (am 0), .int x1] : List Value).toArray below meth c 4 (dC, dI) A (MQ below (va_Qi (fun r (_ : Unit) => r = o) (PostW (dC, dI) (TY cI cJ cZ cO) A (fun _ => (W_M cI cJ cZ cO am mo.1 mo.2.1 mo.2.2.1 mo.2.2.2.1 mo.2.2.2.2.1 mo.2.2.2.2.2.1 mo.2.2.2.2.2.2.1 mo.2.2.2.2.2.2.2.1 mo.2.2.2.2.2.2.2.2.1 mo.2.2.2.2.2.2.2.2.2.1 mo.2.2.2.2.2.2.2.2.2.2.1 mo.2.2.2.2.2.2.2.2.2.2.2.1 mo.2.2.2.2.2.2.2.2.2.2.2.2.1 mo.2.2.2.2.2.2.2.2.2.2.2.2.2.1 mo.2.2.2.2.2.2.2.2.2.2.2.2.2.2.1 mo.2.2.2.2.2.2.2.2.2.2.2.2.2.2.2.1 mo.2.2.2.2.2.2.2.2.2.2.2.2.2.2.2.2.1 mo.2.2.2.2.2.2.2.2.2.2.2.2.2.2.2.2.2))) A) ([.ref (am 0), .int x1] : List Value).toArray s 0 0 A) 0 0 (W_M cI cJ cZ cO am mo.1 mo.2.1 mo.2.2.1 mo.2.2.2.1 mo.2.2.2.2.1 mo.2.2.2.2.2.1 mo.2.2.2.2.2.2.1 mo.2.2.2.2.2.2.2.1 mo.2.2.2.2.2.2.2.2.1 mo.2.2.2.2.2.2.2.2.2.1 mo.2.2.2.2.2.2.2.2.2.2.1 mo.2.2.2.2.2.2.2.2.2.2.2.1 mo.2.2.2.2.2.2.2.2.2.2.2.2.1 mo.2.2.2.2.2.2.2.2.2.2.2.2.2.1 mo.2.2.2.2.2.2.2.2.2.2.2.2.2.2.1 mo.2.2.2.2.2.2.2.2.2.2.2.2.2.2.2.1 mo.2.2.2.2.2.2.2.2.2.2.2.2.2.2.2.2.1 mo.2.2.2.2.2.2.2.2.2.2.2.2.2.2.2.2.2) 5 [(0, .ref (am 0)), (1, .int x1), (2, .int x2), (3, .int x3)] [] := by
    intro  K hK n
    induction n with
    | zero => intro x2 x3 hf; cases hf
    | succ n hREC =>
      intro x2 x3 hf
      rw [f_X8_pieceOf_L5] at hf
      refine V_iload_n C0 dX8_pieceOf_5 3 rfl rfl ?_
      refine V_aload_n C0 dX8_pieceOf_6 0 rfl rfl ?_
      refine V_get C0 fl_X8_pieceOf_7 0 rfl rfl dX8_pieceOf_7 rfl ?_
      refine V_iconst (v := 0) C0 dX8_pieceOf_10 (by decide) rfl ?_
      obtain ⟨hi11, hf⟩ := ck_inv hf
      refine V_iald C0 1 0 rfl rfl hi11 dX8_pieceOf_11 rfl ?_
      refine V_icmp_ge (tgt := 36) C0 dX8_pieceOf_12 (by decide) rfl (fun c12 => ?_) (fun c12 => ?_)
      · have hf := ite_t c12 hf
        exact V.sub [2] rfl (hK x2 hf)
      · have hf := ite_f c12 hf
        refine V_aload_n C0 dX8_pieceOf_15 0 rfl rfl ?_
        refine V_iload_n C0 dX8_pieceOf_16 3 rfl rfl ?_
        obtain ⟨r_17, hc_17, hf⟩ := bind_inv hf
        refine V_cVI (ws' := (W_M cI cJ cZ cO am mo.1 mo.2.1 mo.2.2.1 mo.2.2.2.1 mo.2.2.2.2.1 mo.2.2.2.2.2.1 mo.2.2.2.2.2.2.1 mo.2.2.2.2.2.2.2.1 mo.2.2.2.2.2.2.2.2.1 mo.2.2.2.2.2.2.2.2.2.1 mo.2.2.2.2.2.2.2.2.2.2.1 mo.2.2.2.2.2.2.2.2.2.2.2.1 mo.2.2.2.2.2.2.2.2.2.2.2.2.1 mo.2.2.2.2.2.2.2.2.2.2.2.2.2.1 mo.2.2.2.2.2.2.2.2.2.2.2.2.2.2.1 mo.2.2.2.2.2.2.2.2.2.2.2.2.2.2.2.1 mo.2.2.2.2.2.2.2.2.2.2.2.2.2.2.2.2.1 mo.2.2.2.2.2.2.2.2.2.2.2.2.2.2.2.2.2)) (As := [.int x3]) (b := am 0) (st := []) C0 (c_X8_textOf l dC dI cI cJ cZ cO am N mo x3 r_17 hc_17) rfl 1 gX8_pieceOf_X8_textOf (by decide +kernel) ⟨Nat.le_of_ble_eq_true rfl, Nat.le_of_ble_eq_true rfl⟩ rfl 0 8 rfl rfl  Cut.all rfl (Nat.le_of_ble_eq_true rfl) dX8_pieceOf_17 rfl ⟨Nat.zero_le _, Nat.zero_le _⟩ ?_
        refine V_iload_n C0 dX8_pieceOf_20 1 rfl rfl ?_
        refine V_icmp_ne (tgt := 28) C0 dX8_pieceOf_21 (by decide) rfl (fun c21 => ?_) (fun c21 => ?_)
        · have hf := ite_f c21 hf
          refine V_iload_n C0 dX8_pieceOf_28 2 rfl rfl ?_
          refine V_istore_n (lv' := [(2, .int x2), (0, .ref (am 0)), (1, .int x1), (3, .int x3)]) C0 dX8_pieceOf_29 rfl (by decide) rfl rfl ?_
          refine V_iinc (k := 3) (v := x3 + 1) (lv' := [(3, .int (x3 + 1)), (2, .int x2), (0, .ref (am 0)), (1, .int x1)]) C0 dX8_pieceOf_30 rfl rfl (by decide) rfl rfl ?_
          refine V_goto (tgt := 5) C0 dX8_pieceOf_33 (by decide) ?_
          exact V.sub [2, 3, 1, 0] rfl (hREC x2 (x3 + 1) hf)
        · have hf := ite_t c21 hf
          refine V_iload_n C0 dX8_pieceOf_24 3 rfl rfl ?_
          refine V_goto (tgt := 29) C0 dX8_pieceOf_25 (by decide) ?_
          refine V_istore_n (lv' := [(2, .int x3), (0, .ref (am 0)), (1, .int x1), (3, .int x3)]) C0 dX8_pieceOf_29 rfl (by decide) rfl rfl ?_
          refine V_iinc (k := 3) (v := x3 + 1) (lv' := [(3, .int (x3 + 1)), (2, .int x3), (0, .ref (am 0)), (1, .int x1)]) C0 dX8_pieceOf_30 rfl rfl (by decide) rfl rfl ?_
          refine V_goto (tgt := 5) C0 dX8_pieceOf_33 (by decide) ?_
          exact V.sub [2, 3, 1, 0] rfl (hREC x3 (x3 + 1) hf)
  refine V.sub [2, 3, 1, 0] rfl (hL5  _ ?_ N ((-6)) 0 hf)
  intro x2_5 hf
  refine V_iload_n C0 dX8_pieceOf_36 0 rfl rfl ?_
  obtain rfl := some_inv hf
  exact V_iret C0 () rfl rfl dX8_pieceOf_37
abbrev RM_X8_weightIn : Room := { frames := 3, cells := 0, slots := 0, locals := 68 }
set_option maxRecDepth 100000 in
set_option maxHeartbeats 4000000 in
theorem c_X8_weightIn (l : Launch) (dC : Nat → ClassId) (dI : Nat → Nat → Nat) (cI cJ cZ cO : ClassId) (am : Nat → Nat) (N : Nat) (mo : MV) (x1 : Int32) (x2 : Int32) (x3 : Int32) (o : Int32) (hf : f_X8_weightIn N mo x1 x2 x3 = some o) : MetI l yX8_weightIn wsX8_weightIn RM_X8_weightIn (dC, dI) (TY cI cJ cZ cO) [.ref (am 0), .int x1, .int x2, .int x3] (W_M cI cJ cZ cO am mo.1 mo.2.1 mo.2.2.1 mo.2.2.2.1 mo.2.2.2.2.1 mo.2.2.2.2.2.1 mo.2.2.2.2.2.2.1 mo.2.2.2.2.2.2.2.1 mo.2.2.2.2.2.2.2.2.1 mo.2.2.2.2.2.2.2.2.2.1 mo.2.2.2.2.2.2.2.2.2.2.1 mo.2.2.2.2.2.2.2.2.2.2.2.1 mo.2.2.2.2.2.2.2.2.2.2.2.2.1 mo.2.2.2.2.2.2.2.2.2.2.2.2.2.1 mo.2.2.2.2.2.2.2.2.2.2.2.2.2.2.1 mo.2.2.2.2.2.2.2.2.2.2.2.2.2.2.2.1 mo.2.2.2.2.2.2.2.2.2.2.2.2.2.2.2.2.1 mo.2.2.2.2.2.2.2.2.2.2.2.2.2.2.2.2.2) (fun r (_ : Unit) => r = o) (fun _ => (W_M cI cJ cZ cO am mo.1 mo.2.1 mo.2.2.1 mo.2.2.2.1 mo.2.2.2.2.1 mo.2.2.2.2.2.1 mo.2.2.2.2.2.2.1 mo.2.2.2.2.2.2.2.1 mo.2.2.2.2.2.2.2.2.1 mo.2.2.2.2.2.2.2.2.2.1 mo.2.2.2.2.2.2.2.2.2.2.1 mo.2.2.2.2.2.2.2.2.2.2.2.1 mo.2.2.2.2.2.2.2.2.2.2.2.2.1 mo.2.2.2.2.2.2.2.2.2.2.2.2.2.1 mo.2.2.2.2.2.2.2.2.2.2.2.2.2.2.1 mo.2.2.2.2.2.2.2.2.2.2.2.2.2.2.2.1 mo.2.2.2.2.2.2.2.2.2.2.2.2.2.2.2.2.1 mo.2.2.2.2.2.2.2.2.2.2.2.2.2.2.2.2.2)) := by
  refine MetI.ofV (cc := cX8_weightIn) (maxL := 5) (ret := (some .int)) (own := RX8) (lv0 := [(0, .ref (am 0)), (1, .int x1), (2, .int x2), (3, .int x3)]) (by decide) rfl rfl (Nat.le_of_ble_eq_true rfl) rfl ?_
  intro p e s m below meth c A C0 _
  unfold f_X8_weightIn at hf
  refine V_aload_n C0 dX8_weightIn_0 0 rfl rfl ?_
  refine V_aload_n C0 dX8_weightIn_1 0 rfl rfl ?_
  refine V_iload_n C0 dX8_weightIn_2 1 rfl rfl ?_
  refine V_iload_n C0 dX8_weightIn_3 2 rfl rfl ?_
  refine V_iload_n C0 dX8_weightIn_4 3 rfl rfl ?_
  obtain ⟨r_5, hc_5, hf⟩ := bind_inv hf
  refine V_cVI (ws' := (W_M cI cJ cZ cO am mo.1 mo.2.1 mo.2.2.1 mo.2.2.2.1 mo.2.2.2.2.1 mo.2.2.2.2.2.1 mo.2.2.2.2.2.2.1 mo.2.2.2.2.2.2.2.1 mo.2.2.2.2.2.2.2.2.1 mo.2.2.2.2.2.2.2.2.2.1 mo.2.2.2.2.2.2.2.2.2.2.1 mo.2.2.2.2.2.2.2.2.2.2.2.1 mo.2.2.2.2.2.2.2.2.2.2.2.2.1 mo.2.2.2.2.2.2.2.2.2.2.2.2.2.1 mo.2.2.2.2.2.2.2.2.2.2.2.2.2.2.1 mo.2.2.2.2.2.2.2.2.2.2.2.2.2.2.2.1 mo.2.2.2.2.2.2.2.2.2.2.2.2.2.2.2.2.1 mo.2.2.2.2.2.2.2.2.2.2.2.2.2.2.2.2.2)) (As := [.int x1, .int x2, .int x3]) (b := am 0) (st := [.ref (am 0)]) C0 (c_X8_textIn l dC dI cI cJ cZ cO am N mo x1 x2 x3 r_5 hc_5) rfl 3 gX8_weightIn_X8_textIn (by decide +kernel) ⟨Nat.le_of_ble_eq_true rfl, Nat.le_of_ble_eq_true rfl⟩ rfl 0 8 rfl rfl  Cut.all rfl (Nat.le_of_ble_eq_true rfl) dX8_weightIn_5 rfl ⟨Nat.zero_le _, Nat.zero_le _⟩ ?_
  obtain ⟨r_8, hc_8, hf⟩ := bind_inv hf
  refine V_cVI (ws' := (W_M cI cJ cZ cO am mo.1 mo.2.1 mo.2.2.1 mo.2.2.2.1 mo.2.2.2.2.1 mo.2.2.2.2.2.1 mo.2.2.2.2.2.2.1 mo.2.2.2.2.2.2.2.1 mo.2.2.2.2.2.2.2.2.1 mo.2.2.2.2.2.2.2.2.2.1 mo.2.2.2.2.2.2.2.2.2.2.1 mo.2.2.2.2.2.2.2.2.2.2.2.1 mo.2.2.2.2.2.2.2.2.2.2.2.2.1 mo.2.2.2.2.2.2.2.2.2.2.2.2.2.1 mo.2.2.2.2.2.2.2.2.2.2.2.2.2.2.1 mo.2.2.2.2.2.2.2.2.2.2.2.2.2.2.2.1 mo.2.2.2.2.2.2.2.2.2.2.2.2.2.2.2.2.1 mo.2.2.2.2.2.2.2.2.2.2.2.2.2.2.2.2.2)) (As := [.int r_5]) (b := am 0) (st := []) C0 (c_X8_pieceOf l dC dI cI cJ cZ cO am N mo r_5 r_8 hc_8) rfl 1 gX8_weightIn_X8_pieceOf (by decide +kernel) ⟨Nat.le_of_ble_eq_true rfl, Nat.le_of_ble_eq_true rfl⟩ rfl 0 8 rfl rfl  Cut.all rfl (Nat.le_of_ble_eq_true rfl) dX8_weightIn_8 rfl ⟨Nat.zero_le _, Nat.zero_le _⟩ ?_
  refine V_istore (lv' := [(4, .int r_8), (0, .ref (am 0)), (1, .int x1), (2, .int x2), (3, .int x3)]) C0 dX8_weightIn_11 (by decide) rfl rfl ?_
  refine V_iload C0 dX8_weightIn_13 0 rfl rfl ?_
  refine V_bipush (v := (-6)) C0 dX8_weightIn_15 (by decide) rfl ?_
  refine V_icmp_eq (tgt := 30) C0 dX8_weightIn_17 (by decide) rfl (fun c17 => ?_) (fun c17 => ?_)
  · have hf := ite_t c17 hf
    refine V_iload_n C0 dX8_weightIn_30 4 rfl rfl ?_
    refine V_iconst (v := 1) C0 dX8_weightIn_31 (by decide) rfl ?_
    refine V_icmp_ne (tgt := 39) C0 dX8_weightIn_32 (by decide) rfl (fun c32 => ?_) (fun c32 => ?_)
    · have hf := ite_f c32 hf
      refine V_iconst (v := 0) C0 dX8_weightIn_39 (by decide) rfl ?_
      obtain rfl := some_inv hf
      exact V_iret C0 () rfl rfl dX8_weightIn_40
    · have hf := ite_t c32 hf
      refine V_iconst (v := 1) C0 dX8_weightIn_35 (by decide) rfl ?_
      refine V_goto (tgt := 40) C0 dX8_weightIn_36 (by decide) ?_
      obtain rfl := some_inv hf
      exact V_iret C0 () rfl rfl dX8_weightIn_40
  · have hf := ite_f c17 hf
    refine V_aload_n C0 dX8_weightIn_20 1 rfl rfl ?_
    refine V_iload C0 dX8_weightIn_21 0 rfl rfl ?_
    refine V_iconst (v := 1) C0 dX8_weightIn_23 (by decide) rfl ?_
    obtain ⟨r_24, hc_24, hf⟩ := bind_inv hf
    refine V_cVI (ws' := (W_M cI cJ cZ cO am mo.1 mo.2.1 mo.2.2.1 mo.2.2.2.1 mo.2.2.2.2.1 mo.2.2.2.2.2.1 mo.2.2.2.2.2.2.1 mo.2.2.2.2.2.2.2.1 mo.2.2.2.2.2.2.2.2.1 mo.2.2.2.2.2.2.2.2.2.1 mo.2.2.2.2.2.2.2.2.2.2.1 mo.2.2.2.2.2.2.2.2.2.2.2.1 mo.2.2.2.2.2.2.2.2.2.2.2.2.1 mo.2.2.2.2.2.2.2.2.2.2.2.2.2.1 mo.2.2.2.2.2.2.2.2.2.2.2.2.2.2.1 mo.2.2.2.2.2.2.2.2.2.2.2.2.2.2.2.1 mo.2.2.2.2.2.2.2.2.2.2.2.2.2.2.2.2.1 mo.2.2.2.2.2.2.2.2.2.2.2.2.2.2.2.2.2)) (As := [.int r_8, .int 1]) (b := am 0) (st := []) C0 (c_X8_piecePart l dC dI cI cJ cZ cO am N mo r_8 1 r_24 hc_24) rfl 2 gX8_weightIn_X8_piecePart (by decide +kernel) ⟨Nat.le_of_ble_eq_true rfl, Nat.le_of_ble_eq_true rfl⟩ rfl 0 8 rfl rfl  Cut.all rfl (Nat.le_of_ble_eq_true rfl) dX8_weightIn_24 rfl ⟨Nat.zero_le _, Nat.zero_le _⟩ ?_
    refine V_goto (tgt := 40) C0 dX8_weightIn_27 (by decide) ?_
    obtain rfl := some_inv hf
    exact V_iret C0 () rfl rfl dX8_weightIn_40
abbrev RM_X8_longestAt : Room := { frames := 1, cells := 0, slots := 0, locals := 22 }
set_option maxRecDepth 100000 in
set_option maxHeartbeats 4000000 in
theorem c_X8_longestAt (l : Launch) (dC : Nat → ClassId) (dI : Nat → Nat → Nat) (cI cJ cZ cO : ClassId) (am : Nat → Nat) (N : Nat) (mo : MV) (x1 : Int32) (x2 : Int32) (o : Int32) (hf : f_X8_longestAt N mo x1 x2 = some o) : MetI l yX8_longestAt wsX8_longestAt RM_X8_longestAt (dC, dI) (TY cI cJ cZ cO) [.ref (am 0), .int x1, .int x2] (W_M cI cJ cZ cO am mo.1 mo.2.1 mo.2.2.1 mo.2.2.2.1 mo.2.2.2.2.1 mo.2.2.2.2.2.1 mo.2.2.2.2.2.2.1 mo.2.2.2.2.2.2.2.1 mo.2.2.2.2.2.2.2.2.1 mo.2.2.2.2.2.2.2.2.2.1 mo.2.2.2.2.2.2.2.2.2.2.1 mo.2.2.2.2.2.2.2.2.2.2.2.1 mo.2.2.2.2.2.2.2.2.2.2.2.2.1 mo.2.2.2.2.2.2.2.2.2.2.2.2.2.1 mo.2.2.2.2.2.2.2.2.2.2.2.2.2.2.1 mo.2.2.2.2.2.2.2.2.2.2.2.2.2.2.2.1 mo.2.2.2.2.2.2.2.2.2.2.2.2.2.2.2.2.1 mo.2.2.2.2.2.2.2.2.2.2.2.2.2.2.2.2.2) (fun r (_ : Unit) => r = o) (fun _ => (W_M cI cJ cZ cO am mo.1 mo.2.1 mo.2.2.1 mo.2.2.2.1 mo.2.2.2.2.1 mo.2.2.2.2.2.1 mo.2.2.2.2.2.2.1 mo.2.2.2.2.2.2.2.1 mo.2.2.2.2.2.2.2.2.1 mo.2.2.2.2.2.2.2.2.2.1 mo.2.2.2.2.2.2.2.2.2.2.1 mo.2.2.2.2.2.2.2.2.2.2.2.1 mo.2.2.2.2.2.2.2.2.2.2.2.2.1 mo.2.2.2.2.2.2.2.2.2.2.2.2.2.1 mo.2.2.2.2.2.2.2.2.2.2.2.2.2.2.1 mo.2.2.2.2.2.2.2.2.2.2.2.2.2.2.2.1 mo.2.2.2.2.2.2.2.2.2.2.2.2.2.2.2.2.1 mo.2.2.2.2.2.2.2.2.2.2.2.2.2.2.2.2.2)) := by
  refine MetI.ofV (cc := cX8_longestAt) (maxL := 4) (ret := (some .int)) (own := RX8) (lv0 := [(0, .ref (am 0)), (1, .int x1), (2, .int x2)]) (by decide) rfl rfl (Nat.le_of_ble_eq_true rfl) rfl ?_
  intro p e s m below meth c A C0 _
  unfold f_X8_longestAt at hf
  refine V_aload_n C0 dX8_longestAt_0 0 rfl rfl ?_
  refine V_iload_n C0 dX8_longestAt_1 1 rfl rfl ?_
  refine V_iconst (v := 0) C0 dX8_longestAt_2 (by decide) rfl ?_
  obtain ⟨r_3, hc_3, hf⟩ := bind_inv hf
  refine V_cVI (ws' := (W_M cI cJ cZ cO am mo.1 mo.2.1 mo.2.2.1 mo.2.2.2.1 mo.2.2.2.2.1 mo.2.2.2.2.2.1 mo.2.2.2.2.2.2.1 mo.2.2.2.2.2.2.2.1 mo.2.2.2.2.2.2.2.2.1 mo.2.2.2.2.2.2.2.2.2.1 mo.2.2.2.2.2.2.2.2.2.2.1 mo.2.2.2.2.2.2.2.2.2.2.2.1 mo.2.2.2.2.2.2.2.2.2.2.2.2.1 mo.2.2.2.2.2.2.2.2.2.2.2.2.2.1 mo.2.2.2.2.2.2.2.2.2.2.2.2.2.2.1 mo.2.2.2.2.2.2.2.2.2.2.2.2.2.2.2.1 mo.2.2.2.2.2.2.2.2.2.2.2.2.2.2.2.2.1 mo.2.2.2.2.2.2.2.2.2.2.2.2.2.2.2.2.2)) (As := [.int x1, .int 0]) (b := am 0) (st := []) C0 (c_X8_wordPart l dC dI cI cJ cZ cO am N mo x1 0 r_3 hc_3) rfl 2 gX8_longestAt_X8_wordPart (by decide +kernel) ⟨Nat.le_of_ble_eq_true rfl, Nat.le_of_ble_eq_true rfl⟩ rfl 0 8 rfl rfl  Cut.all rfl (Nat.le_of_ble_eq_true rfl) dX8_longestAt_3 rfl ⟨Nat.zero_le _, Nat.zero_le _⟩ ?_
  refine V_iload_n C0 dX8_longestAt_6 2 rfl rfl ?_
  refine V_isub C0 dX8_longestAt_7 rfl ?_
  refine V_istore_n (lv' := [(3, .int (r_3 - x2)), (0, .ref (am 0)), (1, .int x1), (2, .int x2)]) C0 dX8_longestAt_8 rfl (by decide) rfl rfl ?_
  refine V_iload_n C0 dX8_longestAt_9 0 rfl rfl ?_
  refine V_iconst (v := 4) C0 dX8_longestAt_10 (by decide) rfl ?_
  refine V_icmp_ge (tgt := 18) C0 dX8_longestAt_11 (by decide) rfl (fun c11 => ?_) (fun c11 => ?_)
  · have hf := ite_t c11 hf
    refine V_iconst (v := 4) C0 dX8_longestAt_18 (by decide) rfl ?_
    obtain rfl := some_inv hf
    exact V_iret C0 () rfl rfl dX8_longestAt_19
  · have hf := ite_f c11 hf
    refine V_iload_n C0 dX8_longestAt_14 0 rfl rfl ?_
    refine V_goto (tgt := 19) C0 dX8_longestAt_15 (by decide) ?_
    obtain rfl := some_inv hf
    exact V_iret C0 () rfl rfl dX8_longestAt_19
abbrev RM_X8_findCut : Room := { frames := 4, cells := 0, slots := 0, locals := 92 }
theorem in_X8_findCut_X8 : ∀ w ∈ u_ws RX8 TX8 18, w ∈ wsX8_findCut := by decide +kernel
theorem fl_X8_findCut_28 : FL RX8 wsX8_findCut 8 28 8 RX8 TX8 18 := ⟨in_X8_findCut_X8, rfl, by decide, by decide +kernel, rfl⟩
theorem fl_X8_findCut_32 : FL RX8 wsX8_findCut 8 32 9 RX8 TX8 18 := ⟨in_X8_findCut_X8, rfl, by decide, by decide +kernel, rfl⟩
theorem fl_X8_findCut_35 : FL RX8 wsX8_findCut 8 35 10 RX8 TX8 18 := ⟨in_X8_findCut_X8, rfl, by decide, by decide +kernel, rfl⟩
set_option maxRecDepth 100000 in
set_option maxHeartbeats 4000000 in
theorem c_X8_findCut (l : Launch) (dC : Nat → ClassId) (dI : Nat → Nat → Nat) (cI cJ cZ cO : ClassId) (am : Nat → Nat) (N : Nat) (mo : MV) (x1 : Int32) (o : MV) (hf : f_X8_findCut N mo x1 = some o) : MetV l yX8_findCut wsX8_findCut RM_X8_findCut (dC, dI) (TY cI cJ cZ cO) [.ref (am 0), .int x1] (W_M cI cJ cZ cO am mo.1 mo.2.1 mo.2.2.1 mo.2.2.2.1 mo.2.2.2.2.1 mo.2.2.2.2.2.1 mo.2.2.2.2.2.2.1 mo.2.2.2.2.2.2.2.1 mo.2.2.2.2.2.2.2.2.1 mo.2.2.2.2.2.2.2.2.2.1 mo.2.2.2.2.2.2.2.2.2.2.1 mo.2.2.2.2.2.2.2.2.2.2.2.1 mo.2.2.2.2.2.2.2.2.2.2.2.2.1 mo.2.2.2.2.2.2.2.2.2.2.2.2.2.1 mo.2.2.2.2.2.2.2.2.2.2.2.2.2.2.1 mo.2.2.2.2.2.2.2.2.2.2.2.2.2.2.2.1 mo.2.2.2.2.2.2.2.2.2.2.2.2.2.2.2.2.1 mo.2.2.2.2.2.2.2.2.2.2.2.2.2.2.2.2.2) (fun _ : Unit => True) (fun _ => (W_M cI cJ cZ cO am o.1 o.2.1 o.2.2.1 o.2.2.2.1 o.2.2.2.2.1 o.2.2.2.2.2.1 o.2.2.2.2.2.2.1 o.2.2.2.2.2.2.2.1 o.2.2.2.2.2.2.2.2.1 o.2.2.2.2.2.2.2.2.2.1 o.2.2.2.2.2.2.2.2.2.2.1 o.2.2.2.2.2.2.2.2.2.2.2.1 o.2.2.2.2.2.2.2.2.2.2.2.2.1 o.2.2.2.2.2.2.2.2.2.2.2.2.2.1 o.2.2.2.2.2.2.2.2.2.2.2.2.2.2.1 o.2.2.2.2.2.2.2.2.2.2.2.2.2.2.2.1 o.2.2.2.2.2.2.2.2.2.2.2.2.2.2.2.2.1 o.2.2.2.2.2.2.2.2.2.2.2.2.2.2.2.2.2)) := by
  refine MetV.ofV (cc := cX8_findCut) (maxL := 9) (ret := none) (own := RX8) (lv0 := [(0, .ref (am 0)), (1, .int x1)]) (by decide) rfl rfl (Nat.le_of_ble_eq_true rfl) rfl ?_
  intro p e s m below meth c A C0 _
  unfold f_X8_findCut at hf
  refine V_aload_n C0 dX8_findCut_0 0 rfl rfl ?_
  refine V_iload_n C0 dX8_findCut_1 1 rfl rfl ?_
  refine V_iconst (v := 0) C0 dX8_findCut_2 (by decide) rfl ?_
  obtain ⟨r_3, hc_3, hf⟩ := bind_inv hf
  refine V_cVI (ws' := (W_M cI cJ cZ cO am mo.1 mo.2.1 mo.2.2.1 mo.2.2.2.1 mo.2.2.2.2.1 mo.2.2.2.2.2.1 mo.2.2.2.2.2.2.1 mo.2.2.2.2.2.2.2.1 mo.2.2.2.2.2.2.2.2.1 mo.2.2.2.2.2.2.2.2.2.1 mo.2.2.2.2.2.2.2.2.2.2.1 mo.2.2.2.2.2.2.2.2.2.2.2.1 mo.2.2.2.2.2.2.2.2.2.2.2.2.1 mo.2.2.2.2.2.2.2.2.2.2.2.2.2.1 mo.2.2.2.2.2.2.2.2.2.2.2.2.2.2.1 mo.2.2.2.2.2.2.2.2.2.2.2.2.2.2.2.1 mo.2.2.2.2.2.2.2.2.2.2.2.2.2.2.2.2.1 mo.2.2.2.2.2.2.2.2.2.2.2.2.2.2.2.2.2)) (As := [.int x1, .int 0]) (b := am 0) (st := []) C0 (c_X8_wordPart l dC dI cI cJ cZ cO am N mo x1 0 r_3 hc_3) rfl 2 gX8_findCut_X8_wordPart (by decide +kernel) ⟨Nat.le_of_ble_eq_true rfl, Nat.le_of_ble_eq_true rfl⟩ rfl 0 8 rfl rfl  Cut.all rfl (Nat.le_of_ble_eq_true rfl) dX8_findCut_3 rfl ⟨Nat.zero_le _, Nat.zero_le _⟩ ?_
  refine V_istore_n (lv' := [(2, .int r_3), (0, .ref (am 0)), (1, .int x1)]) C0 dX8_findCut_6 rfl (by decide) rfl rfl ?_
  refine V_aload_n C0 dX8_findCut_7 1 rfl rfl ?_
  refine V_get C0 fl_X8_findCut_28 0 rfl rfl dX8_findCut_8 rfl ?_
  refine V_iload_n C0 dX8_findCut_11 0 rfl rfl ?_
  refine V_lconst (v := 1) C0 dX8_findCut_12 (by decide) rfl ?_
  obtain ⟨hi13, hf⟩ := ck_inv hf
  refine V_last (ws' := (W_M cI cJ cZ cO am mo.1 mo.2.1 mo.2.2.1 mo.2.2.2.1 mo.2.2.2.2.1 mo.2.2.2.2.2.1 mo.2.2.2.2.2.2.1 mo.2.2.2.2.2.2.2.1 (vp_updL mo.2.2.2.2.2.2.2.2.1 (r_3.toNatClampNeg) 1) mo.2.2.2.2.2.2.2.2.2.1 mo.2.2.2.2.2.2.2.2.2.2.1 mo.2.2.2.2.2.2.2.2.2.2.2.1 mo.2.2.2.2.2.2.2.2.2.2.2.2.1 mo.2.2.2.2.2.2.2.2.2.2.2.2.2.1 mo.2.2.2.2.2.2.2.2.2.2.2.2.2.2.1 mo.2.2.2.2.2.2.2.2.2.2.2.2.2.2.2.1 mo.2.2.2.2.2.2.2.2.2.2.2.2.2.2.2.2.1 mo.2.2.2.2.2.2.2.2.2.2.2.2.2.2.2.2.2)) C0 7 1 rfl rfl hi13 dX8_findCut_13 rfl rfl ?_
  refine V_aload_n C0 dX8_findCut_14 1 rfl rfl ?_
  refine V_get C0 fl_X8_findCut_32 0 rfl rfl dX8_findCut_15 rfl ?_
  refine V_iload_n C0 dX8_findCut_18 0 rfl rfl ?_
  refine V_iconst (v := 0) C0 dX8_findCut_19 (by decide) rfl ?_
  obtain ⟨hi20, hf⟩ := ck_inv hf
  refine V_iast (ws' := (W_M cI cJ cZ cO am mo.1 mo.2.1 mo.2.2.1 mo.2.2.2.1 mo.2.2.2.2.1 mo.2.2.2.2.2.1 mo.2.2.2.2.2.2.1 mo.2.2.2.2.2.2.2.1 (vp_updL mo.2.2.2.2.2.2.2.2.1 (r_3.toNatClampNeg) 1) (upd mo.2.2.2.2.2.2.2.2.2.1 (r_3.toNatClampNeg) 0) mo.2.2.2.2.2.2.2.2.2.2.1 mo.2.2.2.2.2.2.2.2.2.2.2.1 mo.2.2.2.2.2.2.2.2.2.2.2.2.1 mo.2.2.2.2.2.2.2.2.2.2.2.2.2.1 mo.2.2.2.2.2.2.2.2.2.2.2.2.2.2.1 mo.2.2.2.2.2.2.2.2.2.2.2.2.2.2.2.1 mo.2.2.2.2.2.2.2.2.2.2.2.2.2.2.2.2.1 mo.2.2.2.2.2.2.2.2.2.2.2.2.2.2.2.2.2)) C0 8 0 rfl rfl hi20 dX8_findCut_20 rfl rfl ?_
  refine V_iload_n C0 dX8_findCut_21 0 rfl rfl ?_
  refine V_iconst (v := 1) C0 dX8_findCut_22 (by decide) rfl ?_
  refine V_isub C0 dX8_findCut_23 rfl ?_
  refine V_istore_n (lv' := [(3, .int (r_3 - 1)), (2, .int r_3), (0, .ref (am 0)), (1, .int x1)]) C0 dX8_findCut_24 rfl (by decide) rfl rfl ?_
  have hL25 : ∀ (K : MV → Option (MV)), (∀ (mo : MV), K mo = some o → V p l e RM_X8_findCut s m ([.ref (am 0), .int x1] : List Value).toArray below meth c 9 (dC, dI) A (MQ below (va_Qv (fun _ : Unit => True) (PostW (dC, dI) (TY cI cJ cZ cO) A (fun _ => (W_M cI cJ cZ cO am o.1 o.2.1 o.2.2.1 o.2.2.2.1 o.2.2.2.2.1 o.2.2.2.2.2.1 o.2.2.2.2.2.2.1 o.2.2.2.2.2.2.2.1 o.2.2.2.2.2.2.2.2.1 o.2.2.2.2.2.2.2.2.2.1 o.2.2.2.2.2.2.2.2.2.2.1 o.2.2.2.2.2.2.2.2.2.2.2.1 o.2.2.2.2.2.2.2.2.2.2.2.2.1 o.2.2.2.2.2.2.2.2.2.2.2.2.2.1 o.2.2.2.2.2.2.2.2.2.2.2.2.2.2.1 o.2.2.2.2.2.2.2.2.2.2.2.2.2.2.2.1 o.2.2.2.2.2.2.2.2.2.2.2.2.2.2.2.2.1 o.2.2.2.2.2.2.2.2.2.2.2.2.2.2.2.2.2))) A) ([.ref (am 0), .int x1] : List Value).toArray s 0 0 A) 0 0 (W_M cI cJ cZ cO am mo.1 mo.2.1 mo.2.2.1 mo.2.2.2.1 mo.2.2.2.2.1 mo.2.2.2.2.2.1 mo.2.2.2.2.2.2.1 mo.2.2.2.2.2.2.2.1 mo.2.2.2.2.2.2.2.2.1 mo.2.2.2.2.2.2.2.2.2.1 mo.2.2.2.2.2.2.2.2.2.2.1 mo.2.2.2.2.2.2.2.2.2.2.2.1 mo.2.2.2.2.2.2.2.2.2.2.2.2.1 mo.2.2.2.2.2.2.2.2.2.2.2.2.2.1 mo.2.2.2.2.2.2.2.2.2.2.2.2.2.2.1 mo.2.2.2.2.2.2.2.2.2.2.2.2.2.2.2.1 mo.2.2.2.2.2.2.2.2.2.2.2.2.2.2.2.2.1 mo.2.2.2.2.2.2.2.2.2.2.2.2.2.2.2.2.2) 164 [] []) → ∀ (n : Nat) (x3 : Int32) (mo : MV), f_X8_findCut_L25 N x1  K n x3 mo = some o → V p l e RM_X8_findCut s m ([.ref (am 0), .int x1] : List Value).toArray below meth c 9 (dC, dI) A (MQ below (va_Qv (fun _ : Unit => True) (PostW (dC, dI) (TY cI cJ cZ cO) A (fun _ => (W_M cI cJ cZ cO am o.1 o.2.1 o.2.2.1 o.2.2.2.1 o.2.2.2.2.1 o.2.2.2.2.2.1 o.2.2.2.2.2.2.1 o.2.2.2.2.2.2.2.1 o.2.2.2.2.2.2.2.2.1 o.2.2.2.2.2.2.2.2.2.1 o.2.2.2.2.2.2.2.2.2.2.1 o.2.2.2.2.2.2.2.2.2.2.2.1 o.2.2.2.2.2.2.2.2.2.2.2.2.1 o.2.2.2.2.2.2.2.2.2.2.2.2.2.1 o.2.2.2.2.2.2.2.2.2.2.2.2.2.2.1 o.2.2.2.2.2.2.2.2.2.2.2.2.2.2.2.1 o.2.2.2.2.2.2.2.2.2.2.2.2.2.2.2.2.1 o.2.2.2.2.2.2.2.2.2.2.2.2.2.2.2.2.2))) A) ([.ref (am 0), .int x1] : List Value).toArray s 0 0 A) 0 0 (W_M cI cJ cZ cO am mo.1 mo.2.1 mo.2.2.1 mo.2.2.2.1 mo.2.2.2.2.1 mo.2.2.2.2.2.1 mo.2.2.2.2.2.2.1 mo.2.2.2.2.2.2.2.1 mo.2.2.2.2.2.2.2.2.1 mo.2.2.2.2.2.2.2.2.2.1 mo.2.2.2.2.2.2.2.2.2.2.1 mo.2.2.2.2.2.2.2.2.2.2.2.1 mo.2.2.2.2.2.2.2.2.2.2.2.2.1 mo.2.2.2.2.2.2.2.2.2.2.2.2.2.1 mo.2.2.2.2.2.2.2.2.2.2.2.2.2.2.1 mo.2.2.2.2.2.2.2.2.2.2.2.2.2.2.2.1 mo.2.2.2.2.2.2.2.2.2.2.2.2.2.2.2.2.1 mo.2.2.2.2.2.2.2.2.2.2.2.2.2.2.2.2.2) 25 [(0, .ref (am 0)), (1, .int x1), (3, .int x3)] [] := by
    intro  K hK n
    induction n with
    | zero => intro x3 mo hf; cases hf
    | succ n hREC =>
      intro x3 mo hf
      rw [f_X8_findCut_L25] at hf
      refine V_iload_n C0 dX8_findCut_25 2 rfl rfl ?_
      refine V_if_lt (tgt := 164) C0 dX8_findCut_26 (by decide) rfl (fun c26 => ?_) (fun c26 => ?_)
      · have hf := ite_t c26 hf
        exact V.sub [] rfl (hK mo hf)
      · have hf := ite_f c26 hf
        refine V_aload_n C0 dX8_findCut_29 0 rfl rfl ?_
        refine V_get C0 fl_X8_findCut_28 0 rfl rfl dX8_findCut_30 rfl ?_
        refine V_iload_n C0 dX8_findCut_33 2 rfl rfl ?_
        refine V_lconst (v := 0) C0 dX8_findCut_34 (by decide) rfl ?_
        obtain ⟨hi35, hf⟩ := ck_inv hf
        refine V_last (ws' := (W_M cI cJ cZ cO am mo.1 mo.2.1 mo.2.2.1 mo.2.2.2.1 mo.2.2.2.2.1 mo.2.2.2.2.2.1 mo.2.2.2.2.2.2.1 mo.2.2.2.2.2.2.2.1 (vp_updL mo.2.2.2.2.2.2.2.2.1 (x3.toNatClampNeg) 0) mo.2.2.2.2.2.2.2.2.2.1 mo.2.2.2.2.2.2.2.2.2.2.1 mo.2.2.2.2.2.2.2.2.2.2.2.1 mo.2.2.2.2.2.2.2.2.2.2.2.2.1 mo.2.2.2.2.2.2.2.2.2.2.2.2.2.1 mo.2.2.2.2.2.2.2.2.2.2.2.2.2.2.1 mo.2.2.2.2.2.2.2.2.2.2.2.2.2.2.2.1 mo.2.2.2.2.2.2.2.2.2.2.2.2.2.2.2.2.1 mo.2.2.2.2.2.2.2.2.2.2.2.2.2.2.2.2.2)) C0 7 1 rfl rfl hi35 dX8_findCut_35 rfl rfl ?_
        refine V_iconst (v := 1) C0 dX8_findCut_36 (by decide) rfl ?_
        refine V_istore (lv' := [(4, .int 1), (0, .ref (am 0)), (1, .int x1), (3, .int x3)]) C0 dX8_findCut_37 (by decide) rfl rfl ?_
        have hL39 : ∀ (x3 : Int32) (K : MV → Option (MV)), (∀ (mo : MV), K mo = some o → V p l e RM_X8_findCut s m ([.ref (am 0), .int x1] : List Value).toArray below meth c 9 (dC, dI) A (MQ below (va_Qv (fun _ : Unit => True) (PostW (dC, dI) (TY cI cJ cZ cO) A (fun _ => (W_M cI cJ cZ cO am o.1 o.2.1 o.2.2.1 o.2.2.2.1 o.2.2.2.2.1 o.2.2.2.2.2.1 o.2.2.2.2.2.2.1 o.2.2.2.2.2.2.2.1 o.2.2.2.2.2.2.2.2.1 o.2.2.2.2.2.2.2.2.2.1 o.2.2.2.2.2.2.2.2.2.2.1 o.2.2.2.2.2.2.2.2.2.2.2.1 o.2.2.2.2.2.2.2.2.2.2.2.2.1 o.2.2.2.2.2.2.2.2.2.2.2.2.2.1 o.2.2.2.2.2.2.2.2.2.2.2.2.2.2.1 o.2.2.2.2.2.2.2.2.2.2.2.2.2.2.2.1 o.2.2.2.2.2.2.2.2.2.2.2.2.2.2.2.2.1 o.2.2.2.2.2.2.2.2.2.2.2.2.2.2.2.2.2))) A) ([.ref (am 0), .int x1] : List Value).toArray s 0 0 A) 0 0 (W_M cI cJ cZ cO am mo.1 mo.2.1 mo.2.2.1 mo.2.2.2.1 mo.2.2.2.2.1 mo.2.2.2.2.2.1 mo.2.2.2.2.2.2.1 mo.2.2.2.2.2.2.2.1 mo.2.2.2.2.2.2.2.2.1 mo.2.2.2.2.2.2.2.2.2.1 mo.2.2.2.2.2.2.2.2.2.2.1 mo.2.2.2.2.2.2.2.2.2.2.2.1 mo.2.2.2.2.2.2.2.2.2.2.2.2.1 mo.2.2.2.2.2.2.2.2.2.2.2.2.2.1 mo.2.2.2.2.2.2.2.2.2.2.2.2.2.2.1 mo.2.2.2.2.2.2.2.2.2.2.2.2.2.2.2.1 mo.2.2.2.2.2.2.2.2.2.2.2.2.2.2.2.2.1 mo.2.2.2.2.2.2.2.2.2.2.2.2.2.2.2.2.2) 158 [(0, .ref (am 0)), (1, .int x1), (3, .int x3)] []) → ∀ (n : Nat) (x4 : Int32) (mo : MV), f_X8_findCut_L39 N x1 x3 K n x4 mo = some o → V p l e RM_X8_findCut s m ([.ref (am 0), .int x1] : List Value).toArray below meth c 9 (dC, dI) A (MQ below (va_Qv (fun _ : Unit => True) (PostW (dC, dI) (TY cI cJ cZ cO) A (fun _ => (W_M cI cJ cZ cO am o.1 o.2.1 o.2.2.1 o.2.2.2.1 o.2.2.2.2.1 o.2.2.2.2.2.1 o.2.2.2.2.2.2.1 o.2.2.2.2.2.2.2.1 o.2.2.2.2.2.2.2.2.1 o.2.2.2.2.2.2.2.2.2.1 o.2.2.2.2.2.2.2.2.2.2.1 o.2.2.2.2.2.2.2.2.2.2.2.1 o.2.2.2.2.2.2.2.2.2.2.2.2.1 o.2.2.2.2.2.2.2.2.2.2.2.2.2.1 o.2.2.2.2.2.2.2.2.2.2.2.2.2.2.1 o.2.2.2.2.2.2.2.2.2.2.2.2.2.2.2.1 o.2.2.2.2.2.2.2.2.2.2.2.2.2.2.2.2.1 o.2.2.2.2.2.2.2.2.2.2.2.2.2.2.2.2.2))) A) ([.ref (am 0), .int x1] : List Value).toArray s 0 0 A) 0 0 (W_M cI cJ cZ cO am mo.1 mo.2.1 mo.2.2.1 mo.2.2.2.1 mo.2.2.2.2.1 mo.2.2.2.2.2.1 mo.2.2.2.2.2.2.1 mo.2.2.2.2.2.2.2.1 mo.2.2.2.2.2.2.2.2.1 mo.2.2.2.2.2.2.2.2.2.1 mo.2.2.2.2.2.2.2.2.2.2.1 mo.2.2.2.2.2.2.2.2.2.2.2.1 mo.2.2.2.2.2.2.2.2.2.2.2.2.1 mo.2.2.2.2.2.2.2.2.2.2.2.2.2.1 mo.2.2.2.2.2.2.2.2.2.2.2.2.2.2.1 mo.2.2.2.2.2.2.2.2.2.2.2.2.2.2.2.1 mo.2.2.2.2.2.2.2.2.2.2.2.2.2.2.2.2.1 mo.2.2.2.2.2.2.2.2.2.2.2.2.2.2.2.2.2) 39 [(0, .ref (am 0)), (1, .int x1), (3, .int x3), (4, .int x4)] [] := by
          intro x3 K hK n
          induction n with
          | zero => intro x4 mo hf; cases hf
          | succ n hREC =>
            intro x4 mo hf
            rw [f_X8_findCut_L39] at hf
            refine V_iload C0 dX8_findCut_39 3 rfl rfl ?_
            refine V_aload_n C0 dX8_findCut_41 0 rfl rfl ?_
            refine V_iload_n C0 dX8_findCut_42 1 rfl rfl ?_
            refine V_iload_n C0 dX8_findCut_43 2 rfl rfl ?_
            obtain ⟨r_44, hc_44, hf⟩ := bind_inv hf
            refine V_cVI (ws' := (W_M cI cJ cZ cO am mo.1 mo.2.1 mo.2.2.1 mo.2.2.2.1 mo.2.2.2.2.1 mo.2.2.2.2.2.1 mo.2.2.2.2.2.2.1 mo.2.2.2.2.2.2.2.1 mo.2.2.2.2.2.2.2.2.1 mo.2.2.2.2.2.2.2.2.2.1 mo.2.2.2.2.2.2.2.2.2.2.1 mo.2.2.2.2.2.2.2.2.2.2.2.1 mo.2.2.2.2.2.2.2.2.2.2.2.2.1 mo.2.2.2.2.2.2.2.2.2.2.2.2.2.1 mo.2.2.2.2.2.2.2.2.2.2.2.2.2.2.1 mo.2.2.2.2.2.2.2.2.2.2.2.2.2.2.2.1 mo.2.2.2.2.2.2.2.2.2.2.2.2.2.2.2.2.1 mo.2.2.2.2.2.2.2.2.2.2.2.2.2.2.2.2.2)) (As := [.int x1, .int x3]) (b := am 0) (st := [.int x4]) C0 (c_X8_longestAt l dC dI cI cJ cZ cO am N mo x1 x3 r_44 hc_44) rfl 2 gX8_findCut_X8_longestAt (by decide +kernel) ⟨Nat.le_of_ble_eq_true rfl, Nat.le_of_ble_eq_true rfl⟩ rfl 0 8 rfl rfl  Cut.all rfl (Nat.le_of_ble_eq_true rfl) dX8_findCut_44 rfl ⟨Nat.zero_le _, Nat.zero_le _⟩ ?_
            refine V_icmp_gt (tgt := 158) C0 dX8_findCut_47 (by decide) rfl (fun c47 => ?_) (fun c47 => ?_)
            · have hf := ite_t c47 hf
              exact V.sub [0, 1, 2] rfl (hK mo hf)
            · have hf := ite_f c47 hf
              refine V_aload_n C0 dX8_findCut_50 0 rfl rfl ?_
              refine V_iload_n C0 dX8_findCut_51 1 rfl rfl ?_
              refine V_iload_n C0 dX8_findCut_52 2 rfl rfl ?_
              refine V_iload C0 dX8_findCut_53 3 rfl rfl ?_
              obtain ⟨r_55, hc_55, hf⟩ := bind_inv hf
              refine V_cVI (ws' := (W_M cI cJ cZ cO am mo.1 mo.2.1 mo.2.2.1 mo.2.2.2.1 mo.2.2.2.2.1 mo.2.2.2.2.2.1 mo.2.2.2.2.2.2.1 mo.2.2.2.2.2.2.2.1 mo.2.2.2.2.2.2.2.2.1 mo.2.2.2.2.2.2.2.2.2.1 mo.2.2.2.2.2.2.2.2.2.2.1 mo.2.2.2.2.2.2.2.2.2.2.2.1 mo.2.2.2.2.2.2.2.2.2.2.2.2.1 mo.2.2.2.2.2.2.2.2.2.2.2.2.2.1 mo.2.2.2.2.2.2.2.2.2.2.2.2.2.2.1 mo.2.2.2.2.2.2.2.2.2.2.2.2.2.2.2.1 mo.2.2.2.2.2.2.2.2.2.2.2.2.2.2.2.2.1 mo.2.2.2.2.2.2.2.2.2.2.2.2.2.2.2.2.2)) (As := [.int x1, .int x3, .int x4]) (b := am 0) (st := []) C0 (c_X8_weightIn l dC dI cI cJ cZ cO am N mo x1 x3 x4 r_55 hc_55) rfl 3 gX8_findCut_X8_weightIn (by decide +kernel) ⟨Nat.le_of_ble_eq_true rfl, Nat.le_of_ble_eq_true rfl⟩ rfl 0 8 rfl rfl  Cut.all rfl (Nat.le_of_ble_eq_true rfl) dX8_findCut_55 rfl ⟨Nat.zero_le _, Nat.zero_le _⟩ ?_
              refine V_istore (lv' := [(5, .int r_55), (0, .ref (am 0)), (1, .int x1), (3, .int x3), (4, .int x4)]) C0 dX8_findCut_58 (by decide) rfl rfl ?_
              refine V_iload C0 dX8_findCut_60 0 rfl rfl ?_
              refine V_i2l C0 dX8_findCut_62 rfl ?_
              refine V_aload_n C0 dX8_findCut_63 1 rfl rfl ?_
              refine V_get C0 fl_X8_findCut_28 0 rfl rfl dX8_findCut_64 rfl ?_
              refine V_iload_n C0 dX8_findCut_67 3 rfl rfl ?_
              refine V_iload C0 dX8_findCut_68 4 rfl rfl ?_
              refine V_iadd C0 dX8_findCut_70 rfl ?_
              obtain ⟨hi71, hf⟩ := ck_inv hf
              refine V_lald C0 7 1 rfl rfl hi71 dX8_findCut_71 rfl ?_
              refine V_lmul C0 dX8_findCut_72 rfl ?_
              refine V_topl (fun x6_1 ex6_1 => ?_)
              have hf := bd_inv ex6_1 hf
              refine V_lstore (lv' := [(6, .long x6_1), (5, .int r_55), (0, .ref (am 0)), (1, .int x1), (3, .int x3), (4, .int x4)]) C0 dX8_findCut_73 (by decide) rfl rfl ?_
              refine V_iconst (v := 1) C0 dX8_findCut_75 (by decide) rfl ?_
              refine V_aload_n C0 dX8_findCut_76 2 rfl rfl ?_
              refine V_get C0 fl_X8_findCut_32 0 rfl rfl dX8_findCut_77 rfl ?_
              refine V_iload_n C0 dX8_findCut_80 4 rfl rfl ?_
              refine V_iload C0 dX8_findCut_81 5 rfl rfl ?_
              refine V_iadd C0 dX8_findCut_83 rfl ?_
              obtain ⟨hi84, hf⟩ := ck_inv hf
              refine V_iald C0 8 0 rfl rfl hi84 dX8_findCut_84 rfl ?_
              refine V_iadd C0 dX8_findCut_85 rfl ?_
              refine V_topi (fun x8_2 ex8_2 => ?_)
              have hf := bd_inv ex8_2 hf
              refine V_istore (lv' := [(8, .int x8_2), (6, .long x6_1), (5, .int r_55), (0, .ref (am 0)), (1, .int x1), (3, .int x3), (4, .int x4)]) C0 dX8_findCut_86 (by decide) rfl rfl ?_
              refine V_iload C0 dX8_findCut_88 2 rfl rfl ?_
              refine V_if_le (tgt := 152) C0 dX8_findCut_90 (by decide) rfl (fun c90 => ?_) (fun c90 => ?_)
              · have hf := ite_t c90 hf
                refine V_iinc (k := 6) (v := x4 + 1) (lv' := [(4, .int (x4 + 1)), (8, .int x8_2), (6, .long x6_1), (5, .int r_55), (0, .ref (am 0)), (1, .int x1), (3, .int x3)]) C0 dX8_findCut_152 rfl rfl (by decide) rfl rfl ?_
                refine V_goto (tgt := 39) C0 dX8_findCut_155 (by decide) ?_
                exact V.sub [4, 5, 6, 0] rfl (hREC (x4 + 1) mo hf)
              · have hf := ite_f c90 hf
                refine V_lload C0 dX8_findCut_93 1 rfl rfl ?_
                refine V_aload_n C0 dX8_findCut_95 3 rfl rfl ?_
                refine V_get C0 fl_X8_findCut_28 0 rfl rfl dX8_findCut_96 rfl ?_
                refine V_iload_n C0 dX8_findCut_99 5 rfl rfl ?_
                obtain ⟨hi100, hf⟩ := ck_inv hf
                refine V_lald C0 7 1 rfl rfl hi100 dX8_findCut_100 rfl ?_
                refine V_lcmp C0 dX8_findCut_101 rfl ?_
                refine jn_elim hf (fun (J : Unit → Option (MV)) => ∀ (u : Unit), J u = some o → V p l e RM_X8_findCut s m ([.ref (am 0), .int x1] : List Value).toArray below meth c 9 (dC, dI) A (MQ below (va_Qv (fun _ : Unit => True) (PostW (dC, dI) (TY cI cJ cZ cO) A (fun _ => (W_M cI cJ cZ cO am o.1 o.2.1 o.2.2.1 o.2.2.2.1 o.2.2.2.2.1 o.2.2.2.2.2.1 o.2.2.2.2.2.2.1 o.2.2.2.2.2.2.2.1 o.2.2.2.2.2.2.2.2.1 o.2.2.2.2.2.2.2.2.2.1 o.2.2.2.2.2.2.2.2.2.2.1 o.2.2.2.2.2.2.2.2.2.2.2.1 o.2.2.2.2.2.2.2.2.2.2.2.2.1 o.2.2.2.2.2.2.2.2.2.2.2.2.2.1 o.2.2.2.2.2.2.2.2.2.2.2.2.2.2.1 o.2.2.2.2.2.2.2.2.2.2.2.2.2.2.2.1 o.2.2.2.2.2.2.2.2.2.2.2.2.2.2.2.2.1 o.2.2.2.2.2.2.2.2.2.2.2.2.2.2.2.2.2))) A) ([.ref (am 0), .int x1] : List Value).toArray s 0 0 A) 0 0 (W_M cI cJ cZ cO am mo.1 mo.2.1 mo.2.2.1 mo.2.2.2.1 mo.2.2.2.2.1 mo.2.2.2.2.2.1 mo.2.2.2.2.2.2.1 mo.2.2.2.2.2.2.2.1 mo.2.2.2.2.2.2.2.2.1 mo.2.2.2.2.2.2.2.2.2.1 mo.2.2.2.2.2.2.2.2.2.2.1 mo.2.2.2.2.2.2.2.2.2.2.2.1 mo.2.2.2.2.2.2.2.2.2.2.2.2.1 mo.2.2.2.2.2.2.2.2.2.2.2.2.2.1 mo.2.2.2.2.2.2.2.2.2.2.2.2.2.2.1 mo.2.2.2.2.2.2.2.2.2.2.2.2.2.2.2.1 mo.2.2.2.2.2.2.2.2.2.2.2.2.2.2.2.2.1 mo.2.2.2.2.2.2.2.2.2.2.2.2.2.2.2.2.2) 128 [(0, .ref (am 0)), (1, .int x1), (3, .int x3), (4, .int x4), (6, .long x6_1), (8, .int x8_2)] []) ?_ ?_
                · intro u hf
                  refine V_aload_n C0 dX8_findCut_128 0 rfl rfl ?_
                  refine V_get C0 fl_X8_findCut_28 0 rfl rfl dX8_findCut_129 rfl ?_
                  refine V_iload_n C0 dX8_findCut_132 2 rfl rfl ?_
                  refine V_lload C0 dX8_findCut_133 4 rfl rfl ?_
                  obtain ⟨hi135, hf⟩ := ck_inv hf
                  refine V_last (ws' := (W_M cI cJ cZ cO am mo.1 mo.2.1 mo.2.2.1 mo.2.2.2.1 mo.2.2.2.2.1 mo.2.2.2.2.2.1 mo.2.2.2.2.2.2.1 mo.2.2.2.2.2.2.2.1 (vp_updL mo.2.2.2.2.2.2.2.2.1 (x3.toNatClampNeg) x6_1) mo.2.2.2.2.2.2.2.2.2.1 mo.2.2.2.2.2.2.2.2.2.2.1 mo.2.2.2.2.2.2.2.2.2.2.2.1 mo.2.2.2.2.2.2.2.2.2.2.2.2.1 mo.2.2.2.2.2.2.2.2.2.2.2.2.2.1 mo.2.2.2.2.2.2.2.2.2.2.2.2.2.2.1 mo.2.2.2.2.2.2.2.2.2.2.2.2.2.2.2.1 mo.2.2.2.2.2.2.2.2.2.2.2.2.2.2.2.2.1 mo.2.2.2.2.2.2.2.2.2.2.2.2.2.2.2.2.2)) C0 7 1 rfl rfl hi135 dX8_findCut_135 rfl rfl ?_
                  refine V_aload_n C0 dX8_findCut_136 0 rfl rfl ?_
                  refine V_get C0 fl_X8_findCut_32 0 rfl rfl dX8_findCut_137 rfl ?_
                  refine V_iload_n C0 dX8_findCut_140 2 rfl rfl ?_
                  refine V_iload C0 dX8_findCut_141 5 rfl rfl ?_
                  obtain ⟨hi143, hf⟩ := ck_inv hf
                  refine V_iast (ws' := (W_M cI cJ cZ cO am mo.1 mo.2.1 mo.2.2.1 mo.2.2.2.1 mo.2.2.2.2.1 mo.2.2.2.2.2.1 mo.2.2.2.2.2.2.1 mo.2.2.2.2.2.2.2.1 (vp_updL mo.2.2.2.2.2.2.2.2.1 (x3.toNatClampNeg) x6_1) (upd mo.2.2.2.2.2.2.2.2.2.1 (x3.toNatClampNeg) x8_2) mo.2.2.2.2.2.2.2.2.2.2.1 mo.2.2.2.2.2.2.2.2.2.2.2.1 mo.2.2.2.2.2.2.2.2.2.2.2.2.1 mo.2.2.2.2.2.2.2.2.2.2.2.2.2.1 mo.2.2.2.2.2.2.2.2.2.2.2.2.2.2.1 mo.2.2.2.2.2.2.2.2.2.2.2.2.2.2.2.1 mo.2.2.2.2.2.2.2.2.2.2.2.2.2.2.2.2.1 mo.2.2.2.2.2.2.2.2.2.2.2.2.2.2.2.2.2)) C0 8 0 rfl rfl hi143 dX8_findCut_143 rfl rfl ?_
                  refine V_aload_n C0 dX8_findCut_144 0 rfl rfl ?_
                  refine V_get C0 fl_X8_findCut_35 0 rfl rfl dX8_findCut_145 rfl ?_
                  refine V_iload_n C0 dX8_findCut_148 2 rfl rfl ?_
                  refine V_iload C0 dX8_findCut_149 3 rfl rfl ?_
                  obtain ⟨hi151, hf⟩ := ck_inv hf
                  refine V_iast (ws' := (W_M cI cJ cZ cO am mo.1 mo.2.1 mo.2.2.1 mo.2.2.2.1 mo.2.2.2.2.1 mo.2.2.2.2.2.1 mo.2.2.2.2.2.2.1 mo.2.2.2.2.2.2.2.1 (vp_updL mo.2.2.2.2.2.2.2.2.1 (x3.toNatClampNeg) x6_1) (upd mo.2.2.2.2.2.2.2.2.2.1 (x3.toNatClampNeg) x8_2) (upd mo.2.2.2.2.2.2.2.2.2.2.1 (x3.toNatClampNeg) x4) mo.2.2.2.2.2.2.2.2.2.2.2.1 mo.2.2.2.2.2.2.2.2.2.2.2.2.1 mo.2.2.2.2.2.2.2.2.2.2.2.2.2.1 mo.2.2.2.2.2.2.2.2.2.2.2.2.2.2.1 mo.2.2.2.2.2.2.2.2.2.2.2.2.2.2.2.1 mo.2.2.2.2.2.2.2.2.2.2.2.2.2.2.2.2.1 mo.2.2.2.2.2.2.2.2.2.2.2.2.2.2.2.2.2)) C0 9 0 rfl rfl hi151 dX8_findCut_151 rfl rfl ?_
                  refine V_iinc (k := 3) (v := x4 + 1) (lv' := [(4, .int (x4 + 1)), (0, .ref (am 0)), (1, .int x1), (3, .int x3), (6, .long x6_1), (8, .int x8_2)]) C0 dX8_findCut_152 rfl rfl (by decide) rfl rfl ?_
                  refine V_goto (tgt := 39) C0 dX8_findCut_155 (by decide) ?_
                  exact V.sub [1, 2, 3, 0] rfl (hREC (x4 + 1) ((mo.1, mo.2.1, mo.2.2.1, mo.2.2.2.1, mo.2.2.2.2.1, mo.2.2.2.2.2.1, mo.2.2.2.2.2.2.1, mo.2.2.2.2.2.2.2.1, vp_updL mo.2.2.2.2.2.2.2.2.1 (x3.toNatClampNeg) x6_1, upd mo.2.2.2.2.2.2.2.2.2.1 (x3.toNatClampNeg) x8_2, upd mo.2.2.2.2.2.2.2.2.2.2.1 (x3.toNatClampNeg) x4, mo.2.2.2.2.2.2.2.2.2.2.2.1, mo.2.2.2.2.2.2.2.2.2.2.2.2.1, mo.2.2.2.2.2.2.2.2.2.2.2.2.2.1, mo.2.2.2.2.2.2.2.2.2.2.2.2.2.2.1, mo.2.2.2.2.2.2.2.2.2.2.2.2.2.2.2.1, mo.2.2.2.2.2.2.2.2.2.2.2.2.2.2.2.2.1, mo.2.2.2.2.2.2.2.2.2.2.2.2.2.2.2.2.2)) hf)
                · intro J128 hJ128 hf
                  refine V_if_gt (tgt := 128) C0 dX8_findCut_102 (by decide) rfl (fun c102 => ?_) (fun c102 => ?_)
                  · have hf := ite_t c102 hf
                    exact V.sub [3, 4, 5, 6, 1, 0] rfl (hJ128 () hf)
                  · have hf := ite_f c102 hf
                    refine V_lload C0 dX8_findCut_105 1 rfl rfl ?_
                    refine V_aload_n C0 dX8_findCut_107 3 rfl rfl ?_
                    refine V_get C0 fl_X8_findCut_28 0 rfl rfl dX8_findCut_108 rfl ?_
                    refine V_iload_n C0 dX8_findCut_111 5 rfl rfl ?_
                    obtain ⟨hi112, hf⟩ := ck_inv hf
                    refine V_lald C0 7 1 rfl rfl hi112 dX8_findCut_112 rfl ?_
                    refine V_lcmp C0 dX8_findCut_113 rfl ?_
                    refine V_if_ne (tgt := 152) C0 dX8_findCut_114 (by decide) rfl (fun c114 => ?_) (fun c114 => ?_)
                    · have hf := ite_f c114 hf
                      refine V_iinc (k := 6) (v := x4 + 1) (lv' := [(4, .int (x4 + 1)), (8, .int x8_2), (6, .long x6_1), (5, .int r_55), (0, .ref (am 0)), (1, .int x1), (3, .int x3)]) C0 dX8_findCut_152 rfl rfl (by decide) rfl rfl ?_
                      refine V_goto (tgt := 39) C0 dX8_findCut_155 (by decide) ?_
                      exact V.sub [4, 5, 6, 0] rfl (hREC (x4 + 1) mo hf)
                    · have hf := ite_t c114 hf
                      refine V_iload C0 dX8_findCut_117 0 rfl rfl ?_
                      refine V_aload_n C0 dX8_findCut_119 3 rfl rfl ?_
                      refine V_get C0 fl_X8_findCut_32 0 rfl rfl dX8_findCut_120 rfl ?_
                      refine V_iload_n C0 dX8_findCut_123 5 rfl rfl ?_
                      obtain ⟨hi124, hf⟩ := ck_inv hf
                      refine V_iald C0 8 0 rfl rfl hi124 dX8_findCut_124 rfl ?_
                      refine V_icmp_gt (tgt := 152) C0 dX8_findCut_125 (by decide) rfl (fun c125 => ?_) (fun c125 => ?_)
                      · have hf := ite_t c125 hf
                        refine V_iinc (k := 6) (v := x4 + 1) (lv' := [(4, .int (x4 + 1)), (8, .int x8_2), (6, .long x6_1), (5, .int r_55), (0, .ref (am 0)), (1, .int x1), (3, .int x3)]) C0 dX8_findCut_152 rfl rfl (by decide) rfl rfl ?_
                        refine V_goto (tgt := 39) C0 dX8_findCut_155 (by decide) ?_
                        exact V.sub [4, 5, 6, 0] rfl (hREC (x4 + 1) mo hf)
                      · have hf := ite_f c125 hf
                        exact V.sub [3, 4, 5, 6, 1, 0] rfl (hJ128 () hf)
        refine V.sub [1, 2, 3, 0] rfl (hL39 x3 _ ?_ N 1 ((mo.1, mo.2.1, mo.2.2.1, mo.2.2.2.1, mo.2.2.2.2.1, mo.2.2.2.2.2.1, mo.2.2.2.2.2.2.1, mo.2.2.2.2.2.2.2.1, vp_updL mo.2.2.2.2.2.2.2.2.1 (x3.toNatClampNeg) 0, mo.2.2.2.2.2.2.2.2.2.1, mo.2.2.2.2.2.2.2.2.2.2.1, mo.2.2.2.2.2.2.2.2.2.2.2.1, mo.2.2.2.2.2.2.2.2.2.2.2.2.1, mo.2.2.2.2.2.2.2.2.2.2.2.2.2.1, mo.2.2.2.2.2.2.2.2.2.2.2.2.2.2.1, mo.2.2.2.2.2.2.2.2.2.2.2.2.2.2.2.1, mo.2.2.2.2.2.2.2.2.2.2.2.2.2.2.2.2.1, mo.2.2.2.2.2.2.2.2.2.2.2.2.2.2.2.2.2)) hf)
        intro mo_39 hf
        refine V_iinc (k := 2) (v := x3 + (-1)) (lv' := [(3, .int (x3 + (-1))), (0, .ref (am 0)), (1, .int x1)]) C0 dX8_findCut_158 rfl rfl (by decide) rfl rfl ?_
        refine V_goto (tgt := 25) C0 dX8_findCut_161 (by decide) ?_
        exact V.sub [1, 2, 0] rfl (hREC (x3 + (-1)) mo_39 hf)
  refine V.sub [2, 3, 0] rfl (hL25  _ ?_ N (r_3 - 1) ((mo.1, mo.2.1, mo.2.2.1, mo.2.2.2.1, mo.2.2.2.2.1, mo.2.2.2.2.2.1, mo.2.2.2.2.2.2.1, mo.2.2.2.2.2.2.2.1, vp_updL mo.2.2.2.2.2.2.2.2.1 (r_3.toNatClampNeg) 1, upd mo.2.2.2.2.2.2.2.2.2.1 (r_3.toNatClampNeg) 0, mo.2.2.2.2.2.2.2.2.2.2.1, mo.2.2.2.2.2.2.2.2.2.2.2.1, mo.2.2.2.2.2.2.2.2.2.2.2.2.1, mo.2.2.2.2.2.2.2.2.2.2.2.2.2.1, mo.2.2.2.2.2.2.2.2.2.2.2.2.2.2.1, mo.2.2.2.2.2.2.2.2.2.2.2.2.2.2.2.1, mo.2.2.2.2.2.2.2.2.2.2.2.2.2.2.2.2.1, mo.2.2.2.2.2.2.2.2.2.2.2.2.2.2.2.2.2)) hf)
  intro mo_25 hf
  obtain rfl := some_inv hf
  exact V_vret C0 () trivial rfl dX8_findCut_164
abbrev RM_X8_unseenIn : Room := { frames := 3, cells := 0, slots := 0, locals := 68 }
theorem in_X8_unseenIn_X8 : ∀ w ∈ u_ws RX8 TX8 18, w ∈ wsX8_unseenIn := by decide +kernel
theorem fl_X8_unseenIn_35 : FL RX8 wsX8_unseenIn 8 35 10 RX8 TX8 18 := ⟨in_X8_unseenIn_X8, rfl, by decide, by decide +kernel, rfl⟩
set_option maxRecDepth 100000 in
set_option maxHeartbeats 4000000 in
theorem c_X8_unseenIn (l : Launch) (dC : Nat → ClassId) (dI : Nat → Nat → Nat) (cI cJ cZ cO : ClassId) (am : Nat → Nat) (N : Nat) (mo : MV) (x1 : Int32) (o : Int32) (hf : f_X8_unseenIn N mo x1 = some o) : MetI l yX8_unseenIn wsX8_unseenIn RM_X8_unseenIn (dC, dI) (TY cI cJ cZ cO) [.ref (am 0), .int x1] (W_M cI cJ cZ cO am mo.1 mo.2.1 mo.2.2.1 mo.2.2.2.1 mo.2.2.2.2.1 mo.2.2.2.2.2.1 mo.2.2.2.2.2.2.1 mo.2.2.2.2.2.2.2.1 mo.2.2.2.2.2.2.2.2.1 mo.2.2.2.2.2.2.2.2.2.1 mo.2.2.2.2.2.2.2.2.2.2.1 mo.2.2.2.2.2.2.2.2.2.2.2.1 mo.2.2.2.2.2.2.2.2.2.2.2.2.1 mo.2.2.2.2.2.2.2.2.2.2.2.2.2.1 mo.2.2.2.2.2.2.2.2.2.2.2.2.2.2.1 mo.2.2.2.2.2.2.2.2.2.2.2.2.2.2.2.1 mo.2.2.2.2.2.2.2.2.2.2.2.2.2.2.2.2.1 mo.2.2.2.2.2.2.2.2.2.2.2.2.2.2.2.2.2) (fun r (_ : Unit) => r = o) (fun _ => (W_M cI cJ cZ cO am mo.1 mo.2.1 mo.2.2.1 mo.2.2.2.1 mo.2.2.2.2.1 mo.2.2.2.2.2.1 mo.2.2.2.2.2.2.1 mo.2.2.2.2.2.2.2.1 mo.2.2.2.2.2.2.2.2.1 mo.2.2.2.2.2.2.2.2.2.1 mo.2.2.2.2.2.2.2.2.2.2.1 mo.2.2.2.2.2.2.2.2.2.2.2.1 mo.2.2.2.2.2.2.2.2.2.2.2.2.1 mo.2.2.2.2.2.2.2.2.2.2.2.2.2.1 mo.2.2.2.2.2.2.2.2.2.2.2.2.2.2.1 mo.2.2.2.2.2.2.2.2.2.2.2.2.2.2.2.1 mo.2.2.2.2.2.2.2.2.2.2.2.2.2.2.2.2.1 mo.2.2.2.2.2.2.2.2.2.2.2.2.2.2.2.2.2)) := by
  refine MetI.ofV (cc := cX8_unseenIn) (maxL := 4) (ret := (some .int)) (own := RX8) (lv0 := [(0, .ref (am 0)), (1, .int x1)]) (by decide) rfl rfl (Nat.le_of_ble_eq_true rfl) rfl ?_
  intro p e s m below meth c A C0 _
  unfold f_X8_unseenIn at hf
  refine V_iconst (v := 0) C0 dX8_unseenIn_0 (by decide) rfl ?_
  refine V_istore_n (lv' := [(2, .int 0), (0, .ref (am 0)), (1, .int x1)]) C0 dX8_unseenIn_1 rfl (by decide) rfl rfl ?_
  refine V_iconst (v := 0) C0 dX8_unseenIn_2 (by decide) rfl ?_
  refine V_istore_n (lv' := [(3, .int 0), (2, .int 0), (0, .ref (am 0)), (1, .int x1)]) C0 dX8_unseenIn_3 rfl (by decide) rfl rfl ?_
  have hL4 : ∀ (K : Int32 → Option (Int32)), (∀ (x2 : Int32), K x2 = some o → V p l e RM_X8_unseenIn s m ([.ref (am 0), .int x1] : List Value).toArray below meth c 4 (dC, dI) A (MQ below (va_Qi (fun r (_ : Unit) => r = o) (PostW (dC, dI) (TY cI cJ cZ cO) A (fun _ => (W_M cI cJ cZ cO am mo.1 mo.2.1 mo.2.2.1 mo.2.2.2.1 mo.2.2.2.2.1 mo.2.2.2.2.2.1 mo.2.2.2.2.2.2.1 mo.2.2.2.2.2.2.2.1 mo.2.2.2.2.2.2.2.2.1 mo.2.2.2.2.2.2.2.2.2.1 mo.2.2.2.2.2.2.2.2.2.2.1 mo.2.2.2.2.2.2.2.2.2.2.2.1 mo.2.2.2.2.2.2.2.2.2.2.2.2.1 mo.2.2.2.2.2.2.2.2.2.2.2.2.2.1 mo.2.2.2.2.2.2.2.2.2.2.2.2.2.2.1 mo.2.2.2.2.2.2.2.2.2.2.2.2.2.2.2.1 mo.2.2.2.2.2.2.2.2.2.2.2.2.2.2.2.2.1 mo.2.2.2.2.2.2.2.2.2.2.2.2.2.2.2.2.2))) A) ([.ref (am 0), .int x1] : List Value).toArray s 0 0 A) 0 0 (W_M cI cJ cZ cO am mo.1 mo.2.1 mo.2.2.1 mo.2.2.2.1 mo.2.2.2.2.1 mo.2.2.2.2.2.1 mo.2.2.2.2.2.2.1 mo.2.2.2.2.2.2.2.1 mo.2.2.2.2.2.2.2.2.1 mo.2.2.2.2.2.2.2.2.2.1 mo.2.2.2.2.2.2.2.2.2.2.1 mo.2.2.2.2.2.2.2.2.2.2.2.1 mo.2.2.2.2.2.2.2.2.2.2.2.2.1 mo.2.2.2.2.2.2.2.2.2.2.2.2.2.1 mo.2.2.2.2.2.2.2.2.2.2.2.2.2.2.1 mo.2.2.2.2.2.2.2.2.2.2.2.2.2.2.2.1 mo.2.2.2.2.2.2.2.2.2.2.2.2.2.2.2.2.1 mo.2.2.2.2.2.2.2.2.2.2.2.2.2.2.2.2.2) 55 [(2, .int x2)] []) → ∀ (n : Nat) (x2 : Int32) (x3 : Int32), f_X8_unseenIn_L4 N mo x1  K n x2 x3 = some o → V p l e RM_X8_unseenIn s m ([.ref (am 0), .int x1] : List Value).toArray below meth c 4 (dC, dI) A (MQ below (va_Qi (fun r (_ : Unit) => r = o) (PostW (dC, dI) (TY cI cJ cZ cO) A (fun _ => (W_M cI cJ cZ cO am mo.1 mo.2.1 mo.2.2.1 mo.2.2.2.1 mo.2.2.2.2.1 mo.2.2.2.2.2.1 mo.2.2.2.2.2.2.1 mo.2.2.2.2.2.2.2.1 mo.2.2.2.2.2.2.2.2.1 mo.2.2.2.2.2.2.2.2.2.1 mo.2.2.2.2.2.2.2.2.2.2.1 mo.2.2.2.2.2.2.2.2.2.2.2.1 mo.2.2.2.2.2.2.2.2.2.2.2.2.1 mo.2.2.2.2.2.2.2.2.2.2.2.2.2.1 mo.2.2.2.2.2.2.2.2.2.2.2.2.2.2.1 mo.2.2.2.2.2.2.2.2.2.2.2.2.2.2.2.1 mo.2.2.2.2.2.2.2.2.2.2.2.2.2.2.2.2.1 mo.2.2.2.2.2.2.2.2.2.2.2.2.2.2.2.2.2))) A) ([.ref (am 0), .int x1] : List Value).toArray s 0 0 A) 0 0 (W_M cI cJ cZ cO am mo.1 mo.2.1 mo.2.2.1 mo.2.2.2.1 mo.2.2.2.2.1 mo.2.2.2.2.2.1 mo.2.2.2.2.2.2.1 mo.2.2.2.2.2.2.2.1 mo.2.2.2.2.2.2.2.2.1 mo.2.2.2.2.2.2.2.2.2.1 mo.2.2.2.2.2.2.2.2.2.2.1 mo.2.2.2.2.2.2.2.2.2.2.2.1 mo.2.2.2.2.2.2.2.2.2.2.2.2.1 mo.2.2.2.2.2.2.2.2.2.2.2.2.2.1 mo.2.2.2.2.2.2.2.2.2.2.2.2.2.2.1 mo.2.2.2.2.2.2.2.2.2.2.2.2.2.2.2.1 mo.2.2.2.2.2.2.2.2.2.2.2.2.2.2.2.2.1 mo.2.2.2.2.2.2.2.2.2.2.2.2.2.2.2.2.2) 4 [(0, .ref (am 0)), (1, .int x1), (2, .int x2), (3, .int x3)] [] := by
    intro  K hK n
    induction n with
    | zero => intro x2 x3 hf; cases hf
    | succ n hREC =>
      intro x2 x3 hf
      rw [f_X8_unseenIn_L4] at hf
      refine V_iload_n C0 dX8_unseenIn_4 3 rfl rfl ?_
      refine V_aload_n C0 dX8_unseenIn_5 0 rfl rfl ?_
      refine V_iload_n C0 dX8_unseenIn_6 1 rfl rfl ?_
      refine V_iconst (v := 0) C0 dX8_unseenIn_7 (by decide) rfl ?_
      obtain ⟨r_8, hc_8, hf⟩ := bind_inv hf
      refine V_cVI (ws' := (W_M cI cJ cZ cO am mo.1 mo.2.1 mo.2.2.1 mo.2.2.2.1 mo.2.2.2.2.1 mo.2.2.2.2.2.1 mo.2.2.2.2.2.2.1 mo.2.2.2.2.2.2.2.1 mo.2.2.2.2.2.2.2.2.1 mo.2.2.2.2.2.2.2.2.2.1 mo.2.2.2.2.2.2.2.2.2.2.1 mo.2.2.2.2.2.2.2.2.2.2.2.1 mo.2.2.2.2.2.2.2.2.2.2.2.2.1 mo.2.2.2.2.2.2.2.2.2.2.2.2.2.1 mo.2.2.2.2.2.2.2.2.2.2.2.2.2.2.1 mo.2.2.2.2.2.2.2.2.2.2.2.2.2.2.2.1 mo.2.2.2.2.2.2.2.2.2.2.2.2.2.2.2.2.1 mo.2.2.2.2.2.2.2.2.2.2.2.2.2.2.2.2.2)) (As := [.int x1, .int 0]) (b := am 0) (st := [.int x3]) C0 (c_X8_wordPart l dC dI cI cJ cZ cO am N mo x1 0 r_8 hc_8) rfl 2 gX8_unseenIn_X8_wordPart (by decide +kernel) ⟨Nat.le_of_ble_eq_true rfl, Nat.le_of_ble_eq_true rfl⟩ rfl 0 8 rfl rfl  Cut.all rfl (Nat.le_of_ble_eq_true rfl) dX8_unseenIn_8 rfl ⟨Nat.zero_le _, Nat.zero_le _⟩ ?_
      refine V_icmp_ge (tgt := 55) C0 dX8_unseenIn_11 (by decide) rfl (fun c11 => ?_) (fun c11 => ?_)
      · have hf := ite_t c11 hf
        exact V.sub [2] rfl (hK x2 hf)
      · have hf := ite_f c11 hf
        refine V_iload_n C0 dX8_unseenIn_14 2 rfl rfl ?_
        refine V_aload_n C0 dX8_unseenIn_15 0 rfl rfl ?_
        refine V_aload_n C0 dX8_unseenIn_16 0 rfl rfl ?_
        refine V_iload_n C0 dX8_unseenIn_17 1 rfl rfl ?_
        refine V_iload_n C0 dX8_unseenIn_18 3 rfl rfl ?_
        refine V_aload_n C0 dX8_unseenIn_19 0 rfl rfl ?_
        refine V_get C0 fl_X8_unseenIn_35 0 rfl rfl dX8_unseenIn_20 rfl ?_
        refine V_iload_n C0 dX8_unseenIn_23 3 rfl rfl ?_
        obtain ⟨hi24, hf⟩ := ck_inv hf
        refine V_iald C0 9 0 rfl rfl hi24 dX8_unseenIn_24 rfl ?_
        obtain ⟨r_25, hc_25, hf⟩ := bind_inv hf
        refine V_cVI (ws' := (W_M cI cJ cZ cO am mo.1 mo.2.1 mo.2.2.1 mo.2.2.2.1 mo.2.2.2.2.1 mo.2.2.2.2.2.1 mo.2.2.2.2.2.2.1 mo.2.2.2.2.2.2.2.1 mo.2.2.2.2.2.2.2.2.1 mo.2.2.2.2.2.2.2.2.2.1 mo.2.2.2.2.2.2.2.2.2.2.1 mo.2.2.2.2.2.2.2.2.2.2.2.1 mo.2.2.2.2.2.2.2.2.2.2.2.2.1 mo.2.2.2.2.2.2.2.2.2.2.2.2.2.1 mo.2.2.2.2.2.2.2.2.2.2.2.2.2.2.1 mo.2.2.2.2.2.2.2.2.2.2.2.2.2.2.2.1 mo.2.2.2.2.2.2.2.2.2.2.2.2.2.2.2.2.1 mo.2.2.2.2.2.2.2.2.2.2.2.2.2.2.2.2.2)) (As := [.int x1, .int x3, .int (mo.2.2.2.2.2.2.2.2.2.2.1 (x3.toNatClampNeg))]) (b := am 0) (st := [.ref (am 0), .int x2]) C0 (c_X8_textIn l dC dI cI cJ cZ cO am N mo x1 x3 (mo.2.2.2.2.2.2.2.2.2.2.1 (x3.toNatClampNeg)) r_25 hc_25) rfl 3 gX8_unseenIn_X8_textIn (by decide +kernel) ⟨Nat.le_of_ble_eq_true rfl, Nat.le_of_ble_eq_true rfl⟩ rfl 0 8 rfl rfl  Cut.all rfl (Nat.le_of_ble_eq_true rfl) dX8_unseenIn_25 rfl ⟨Nat.zero_le _, Nat.zero_le _⟩ ?_
        obtain ⟨r_28, hc_28, hf⟩ := bind_inv hf
        refine V_cVI (ws' := (W_M cI cJ cZ cO am mo.1 mo.2.1 mo.2.2.1 mo.2.2.2.1 mo.2.2.2.2.1 mo.2.2.2.2.2.1 mo.2.2.2.2.2.2.1 mo.2.2.2.2.2.2.2.1 mo.2.2.2.2.2.2.2.2.1 mo.2.2.2.2.2.2.2.2.2.1 mo.2.2.2.2.2.2.2.2.2.2.1 mo.2.2.2.2.2.2.2.2.2.2.2.1 mo.2.2.2.2.2.2.2.2.2.2.2.2.1 mo.2.2.2.2.2.2.2.2.2.2.2.2.2.1 mo.2.2.2.2.2.2.2.2.2.2.2.2.2.2.1 mo.2.2.2.2.2.2.2.2.2.2.2.2.2.2.2.1 mo.2.2.2.2.2.2.2.2.2.2.2.2.2.2.2.2.1 mo.2.2.2.2.2.2.2.2.2.2.2.2.2.2.2.2.2)) (As := [.int r_25]) (b := am 0) (st := [.int x2]) C0 (c_X8_pieceOf l dC dI cI cJ cZ cO am N mo r_25 r_28 hc_28) rfl 1 gX8_unseenIn_X8_pieceOf (by decide +kernel) ⟨Nat.le_of_ble_eq_true rfl, Nat.le_of_ble_eq_true rfl⟩ rfl 0 8 rfl rfl  Cut.all rfl (Nat.le_of_ble_eq_true rfl) dX8_unseenIn_28 rfl ⟨Nat.zero_le _, Nat.zero_le _⟩ ?_
        refine V_bipush (v := (-6)) C0 dX8_unseenIn_31 (by decide) rfl ?_
        refine jn_elim hf (fun (J : Int32 → Option (Int32)) => ∀ (s1_41 : Int32), J s1_41 = some o → V p l e RM_X8_unseenIn s m ([.ref (am 0), .int x1] : List Value).toArray below meth c 4 (dC, dI) A (MQ below (va_Qi (fun r (_ : Unit) => r = o) (PostW (dC, dI) (TY cI cJ cZ cO) A (fun _ => (W_M cI cJ cZ cO am mo.1 mo.2.1 mo.2.2.1 mo.2.2.2.1 mo.2.2.2.2.1 mo.2.2.2.2.2.1 mo.2.2.2.2.2.2.1 mo.2.2.2.2.2.2.2.1 mo.2.2.2.2.2.2.2.2.1 mo.2.2.2.2.2.2.2.2.2.1 mo.2.2.2.2.2.2.2.2.2.2.1 mo.2.2.2.2.2.2.2.2.2.2.2.1 mo.2.2.2.2.2.2.2.2.2.2.2.2.1 mo.2.2.2.2.2.2.2.2.2.2.2.2.2.1 mo.2.2.2.2.2.2.2.2.2.2.2.2.2.2.1 mo.2.2.2.2.2.2.2.2.2.2.2.2.2.2.2.1 mo.2.2.2.2.2.2.2.2.2.2.2.2.2.2.2.2.1 mo.2.2.2.2.2.2.2.2.2.2.2.2.2.2.2.2.2))) A) ([.ref (am 0), .int x1] : List Value).toArray s 0 0 A) 0 0 (W_M cI cJ cZ cO am mo.1 mo.2.1 mo.2.2.1 mo.2.2.2.1 mo.2.2.2.2.1 mo.2.2.2.2.2.1 mo.2.2.2.2.2.2.1 mo.2.2.2.2.2.2.2.1 mo.2.2.2.2.2.2.2.2.1 mo.2.2.2.2.2.2.2.2.2.1 mo.2.2.2.2.2.2.2.2.2.2.1 mo.2.2.2.2.2.2.2.2.2.2.2.1 mo.2.2.2.2.2.2.2.2.2.2.2.2.1 mo.2.2.2.2.2.2.2.2.2.2.2.2.2.1 mo.2.2.2.2.2.2.2.2.2.2.2.2.2.2.1 mo.2.2.2.2.2.2.2.2.2.2.2.2.2.2.2.1 mo.2.2.2.2.2.2.2.2.2.2.2.2.2.2.2.2.1 mo.2.2.2.2.2.2.2.2.2.2.2.2.2.2.2.2.2) 41 [(0, .ref (am 0)), (1, .int x1), (3, .int x3)] [.int s1_41, .int x2]) ?_ ?_
        · intro s1_41 hf
          refine V_iadd C0 dX8_unseenIn_41 rfl ?_
          refine V_topi (fun x2_1 ex2_1 => ?_)
          have hf := bd_inv ex2_1 hf
          refine V_istore_n (lv' := [(2, .int x2_1), (0, .ref (am 0)), (1, .int x1), (3, .int x3)]) C0 dX8_unseenIn_42 rfl (by decide) rfl rfl ?_
          refine V_iload_n C0 dX8_unseenIn_43 3 rfl rfl ?_
          refine V_aload_n C0 dX8_unseenIn_44 1 rfl rfl ?_
          refine V_get C0 fl_X8_unseenIn_35 0 rfl rfl dX8_unseenIn_45 rfl ?_
          refine V_iload_n C0 dX8_unseenIn_48 3 rfl rfl ?_
          obtain ⟨hi49, hf⟩ := ck_inv hf
          refine V_iald C0 9 0 rfl rfl hi49 dX8_unseenIn_49 rfl ?_
          refine V_iadd C0 dX8_unseenIn_50 rfl ?_
          refine V_topi (fun x3_2 ex3_2 => ?_)
          have hf := bd_inv ex3_2 hf
          refine V_istore_n (lv' := [(3, .int x3_2), (2, .int x2_1), (0, .ref (am 0)), (1, .int x1)]) C0 dX8_unseenIn_51 rfl (by decide) rfl rfl ?_
          refine V_goto (tgt := 4) C0 dX8_unseenIn_52 (by decide) ?_
          exact V.sub [2, 3, 1, 0] rfl (hREC x2_1 x3_2 hf)
        · intro J41 hJ41 hf
          refine V_icmp_ne (tgt := 40) C0 dX8_unseenIn_33 (by decide) rfl (fun c33 => ?_) (fun c33 => ?_)
          · have hf := ite_f c33 hf
            refine V_iconst (v := 0) C0 dX8_unseenIn_40 (by decide) rfl ?_
            exact V.sub [0, 1, 3] rfl (hJ41 0 hf)
          · have hf := ite_t c33 hf
            refine V_iconst (v := 1) C0 dX8_unseenIn_36 (by decide) rfl ?_
            refine V_goto (tgt := 41) C0 dX8_unseenIn_37 (by decide) ?_
            exact V.sub [0, 1, 3] rfl (hJ41 1 hf)
  refine V.sub [2, 3, 1, 0] rfl (hL4  _ ?_ N 0 0 hf)
  intro x2_4 hf
  refine V_iload_n C0 dX8_unseenIn_55 0 rfl rfl ?_
  obtain rfl := some_inv hf
  exact V_iret C0 () rfl rfl dX8_unseenIn_56
abbrev RM_X8_costOf : Room := { frames := 5, cells := 0, slots := 0, locals := 120 }
theorem in_X8_costOf_X8 : ∀ w ∈ u_ws RX8 TX8 18, w ∈ wsX8_costOf := by decide +kernel
theorem fl_X8_costOf_32 : FL RX8 wsX8_costOf 8 32 9 RX8 TX8 18 := ⟨in_X8_costOf_X8, rfl, by decide, by decide +kernel, rfl⟩
set_option maxRecDepth 100000 in
set_option maxHeartbeats 4000000 in
theorem c_X8_costOf (l : Launch) (dC : Nat → ClassId) (dI : Nat → Nat → Nat) (cI cJ cZ cO : ClassId) (am : Nat → Nat) (N : Nat) (mo : MV) (x1 : Int32) (o : Int32 × MV) (hf : f_X8_costOf N mo x1 = some o) : MetI l yX8_costOf wsX8_costOf RM_X8_costOf (dC, dI) (TY cI cJ cZ cO) [.ref (am 0), .int x1] (W_M cI cJ cZ cO am mo.1 mo.2.1 mo.2.2.1 mo.2.2.2.1 mo.2.2.2.2.1 mo.2.2.2.2.2.1 mo.2.2.2.2.2.2.1 mo.2.2.2.2.2.2.2.1 mo.2.2.2.2.2.2.2.2.1 mo.2.2.2.2.2.2.2.2.2.1 mo.2.2.2.2.2.2.2.2.2.2.1 mo.2.2.2.2.2.2.2.2.2.2.2.1 mo.2.2.2.2.2.2.2.2.2.2.2.2.1 mo.2.2.2.2.2.2.2.2.2.2.2.2.2.1 mo.2.2.2.2.2.2.2.2.2.2.2.2.2.2.1 mo.2.2.2.2.2.2.2.2.2.2.2.2.2.2.2.1 mo.2.2.2.2.2.2.2.2.2.2.2.2.2.2.2.2.1 mo.2.2.2.2.2.2.2.2.2.2.2.2.2.2.2.2.2) (fun r (_ : Unit) => r = o.1) (fun _ => (W_M cI cJ cZ cO am o.2.1 o.2.2.1 o.2.2.2.1 o.2.2.2.2.1 o.2.2.2.2.2.1 o.2.2.2.2.2.2.1 o.2.2.2.2.2.2.2.1 o.2.2.2.2.2.2.2.2.1 o.2.2.2.2.2.2.2.2.2.1 o.2.2.2.2.2.2.2.2.2.2.1 o.2.2.2.2.2.2.2.2.2.2.2.1 o.2.2.2.2.2.2.2.2.2.2.2.2.1 o.2.2.2.2.2.2.2.2.2.2.2.2.2.1 o.2.2.2.2.2.2.2.2.2.2.2.2.2.2.1 o.2.2.2.2.2.2.2.2.2.2.2.2.2.2.2.1 o.2.2.2.2.2.2.2.2.2.2.2.2.2.2.2.2.1 o.2.2.2.2.2.2.2.2.2.2.2.2.2.2.2.2.2.1 o.2.2.2.2.2.2.2.2.2.2.2.2.2.2.2.2.2.2)) := by
  refine MetI.ofV (cc := cX8_costOf) (maxL := 2) (ret := (some .int)) (own := RX8) (lv0 := [(0, .ref (am 0)), (1, .int x1)]) (by decide) rfl rfl (Nat.le_of_ble_eq_true rfl) rfl ?_
  intro p e s m below meth c A C0 _
  unfold f_X8_costOf at hf
  refine V_aload_n C0 dX8_costOf_0 0 rfl rfl ?_
  refine V_iload_n C0 dX8_costOf_1 1 rfl rfl ?_
  obtain ⟨r_2, hc_2, hf⟩ := bind_inv hf
  refine V_cVV (ws' := (W_M cI cJ cZ cO am r_2.1 r_2.2.1 r_2.2.2.1 r_2.2.2.2.1 r_2.2.2.2.2.1 r_2.2.2.2.2.2.1 r_2.2.2.2.2.2.2.1 r_2.2.2.2.2.2.2.2.1 r_2.2.2.2.2.2.2.2.2.1 r_2.2.2.2.2.2.2.2.2.2.1 r_2.2.2.2.2.2.2.2.2.2.2.1 r_2.2.2.2.2.2.2.2.2.2.2.2.1 r_2.2.2.2.2.2.2.2.2.2.2.2.2.1 r_2.2.2.2.2.2.2.2.2.2.2.2.2.2.1 r_2.2.2.2.2.2.2.2.2.2.2.2.2.2.2.1 r_2.2.2.2.2.2.2.2.2.2.2.2.2.2.2.2.1 r_2.2.2.2.2.2.2.2.2.2.2.2.2.2.2.2.2.1 r_2.2.2.2.2.2.2.2.2.2.2.2.2.2.2.2.2.2)) (As := [.int x1]) (b := am 0) (st := []) C0 (c_X8_findCut l dC dI cI cJ cZ cO am N mo x1 r_2 hc_2) rfl 1 gX8_costOf_X8_findCut (by decide +kernel) ⟨Nat.le_of_ble_eq_true rfl, Nat.le_of_ble_eq_true rfl⟩ rfl 0 8 rfl rfl  Cut.all rfl (Nat.le_of_ble_eq_true rfl) dX8_costOf_2 rfl ⟨Nat.zero_le _, Nat.zero_le _⟩ ?_
  refine V_aload_n C0 dX8_costOf_5 0 rfl rfl ?_
  refine V_get C0 fl_X8_costOf_32 0 rfl rfl dX8_costOf_6 rfl ?_
  refine V_iconst (v := 0) C0 dX8_costOf_9 (by decide) rfl ?_
  obtain ⟨hi10, hf⟩ := ck_inv hf
  refine V_iald C0 8 0 rfl rfl hi10 dX8_costOf_10 rfl ?_
  refine V_aload_n C0 dX8_costOf_11 0 rfl rfl ?_
  refine V_iload_n C0 dX8_costOf_12 1 rfl rfl ?_
  obtain ⟨r_13, hc_13, hf⟩ := bind_inv hf
  refine V_cVI (ws' := (W_M cI cJ cZ cO am r_2.1 r_2.2.1 r_2.2.2.1 r_2.2.2.2.1 r_2.2.2.2.2.1 r_2.2.2.2.2.2.1 r_2.2.2.2.2.2.2.1 r_2.2.2.2.2.2.2.2.1 r_2.2.2.2.2.2.2.2.2.1 r_2.2.2.2.2.2.2.2.2.2.1 r_2.2.2.2.2.2.2.2.2.2.2.1 r_2.2.2.2.2.2.2.2.2.2.2.2.1 r_2.2.2.2.2.2.2.2.2.2.2.2.2.1 r_2.2.2.2.2.2.2.2.2.2.2.2.2.2.1 r_2.2.2.2.2.2.2.2.2.2.2.2.2.2.2.1 r_2.2.2.2.2.2.2.2.2.2.2.2.2.2.2.2.1 r_2.2.2.2.2.2.2.2.2.2.2.2.2.2.2.2.2.1 r_2.2.2.2.2.2.2.2.2.2.2.2.2.2.2.2.2.2)) (As := [.int x1]) (b := am 0) (st := [.int (r_2.2.2.2.2.2.2.2.2.2.1 ((0 : Int32).toNatClampNeg))]) C0 (c_X8_unseenIn l dC dI cI cJ cZ cO am N r_2 x1 r_13 hc_13) rfl 1 gX8_costOf_X8_unseenIn (by decide +kernel) ⟨Nat.le_of_ble_eq_true rfl, Nat.le_of_ble_eq_true rfl⟩ rfl 0 8 rfl rfl  Cut.all rfl (Nat.le_of_ble_eq_true rfl) dX8_costOf_13 rfl ⟨Nat.zero_le _, Nat.zero_le _⟩ ?_
  refine V_iadd C0 dX8_costOf_16 rfl ?_
  refine V_aload_n C0 dX8_costOf_17 0 rfl rfl ?_
  refine V_iload_n C0 dX8_costOf_18 1 rfl rfl ?_
  refine V_iconst (v := 1) C0 dX8_costOf_19 (by decide) rfl ?_
  obtain ⟨r_20, hc_20, hf⟩ := bind_inv hf
  refine V_cVI (ws' := (W_M cI cJ cZ cO am r_2.1 r_2.2.1 r_2.2.2.1 r_2.2.2.2.1 r_2.2.2.2.2.1 r_2.2.2.2.2.2.1 r_2.2.2.2.2.2.2.1 r_2.2.2.2.2.2.2.2.1 r_2.2.2.2.2.2.2.2.2.1 r_2.2.2.2.2.2.2.2.2.2.1 r_2.2.2.2.2.2.2.2.2.2.2.1 r_2.2.2.2.2.2.2.2.2.2.2.2.1 r_2.2.2.2.2.2.2.2.2.2.2.2.2.1 r_2.2.2.2.2.2.2.2.2.2.2.2.2.2.1 r_2.2.2.2.2.2.2.2.2.2.2.2.2.2.2.1 r_2.2.2.2.2.2.2.2.2.2.2.2.2.2.2.2.1 r_2.2.2.2.2.2.2.2.2.2.2.2.2.2.2.2.2.1 r_2.2.2.2.2.2.2.2.2.2.2.2.2.2.2.2.2.2)) (As := [.int x1, .int 1]) (b := am 0) (st := [.int ((r_2.2.2.2.2.2.2.2.2.2.1 ((0 : Int32).toNatClampNeg)) + r_13)]) C0 (c_X8_wordPart l dC dI cI cJ cZ cO am N r_2 x1 1 r_20 hc_20) rfl 2 gX8_costOf_X8_wordPart (by decide +kernel) ⟨Nat.le_of_ble_eq_true rfl, Nat.le_of_ble_eq_true rfl⟩ rfl 0 8 rfl rfl  Cut.all rfl (Nat.le_of_ble_eq_true rfl) dX8_costOf_20 rfl ⟨Nat.zero_le _, Nat.zero_le _⟩ ?_
  refine V_imul C0 dX8_costOf_23 rfl ?_
  obtain rfl := some_inv hf
  exact V_iret C0 () rfl rfl dX8_costOf_24
abbrev RM_X8_allCosts : Room := { frames := 6, cells := 0, slots := 0, locals := 141 }
theorem in_X8_allCosts_X8 : ∀ w ∈ u_ws RX8 TX8 18, w ∈ wsX8_allCosts := by decide +kernel
theorem fl_X8_allCosts_7 : FL RX8 wsX8_allCosts 8 7 0 RX8 TX8 18 := ⟨in_X8_allCosts_X8, rfl, by decide, by decide +kernel, rfl⟩
set_option maxRecDepth 100000 in
set_option maxHeartbeats 4000000 in
theorem c_X8_allCosts (l : Launch) (dC : Nat → ClassId) (dI : Nat → Nat → Nat) (cI cJ cZ cO : ClassId) (am : Nat → Nat) (N : Nat) (mo : MV) (o : Int32 × MV) (hf : f_X8_allCosts N mo = some o) : MetI l yX8_allCosts wsX8_allCosts RM_X8_allCosts (dC, dI) (TY cI cJ cZ cO) [.ref (am 0)] (W_M cI cJ cZ cO am mo.1 mo.2.1 mo.2.2.1 mo.2.2.2.1 mo.2.2.2.2.1 mo.2.2.2.2.2.1 mo.2.2.2.2.2.2.1 mo.2.2.2.2.2.2.2.1 mo.2.2.2.2.2.2.2.2.1 mo.2.2.2.2.2.2.2.2.2.1 mo.2.2.2.2.2.2.2.2.2.2.1 mo.2.2.2.2.2.2.2.2.2.2.2.1 mo.2.2.2.2.2.2.2.2.2.2.2.2.1 mo.2.2.2.2.2.2.2.2.2.2.2.2.2.1 mo.2.2.2.2.2.2.2.2.2.2.2.2.2.2.1 mo.2.2.2.2.2.2.2.2.2.2.2.2.2.2.2.1 mo.2.2.2.2.2.2.2.2.2.2.2.2.2.2.2.2.1 mo.2.2.2.2.2.2.2.2.2.2.2.2.2.2.2.2.2) (fun r (_ : Unit) => r = o.1) (fun _ => (W_M cI cJ cZ cO am o.2.1 o.2.2.1 o.2.2.2.1 o.2.2.2.2.1 o.2.2.2.2.2.1 o.2.2.2.2.2.2.1 o.2.2.2.2.2.2.2.1 o.2.2.2.2.2.2.2.2.1 o.2.2.2.2.2.2.2.2.2.1 o.2.2.2.2.2.2.2.2.2.2.1 o.2.2.2.2.2.2.2.2.2.2.2.1 o.2.2.2.2.2.2.2.2.2.2.2.2.1 o.2.2.2.2.2.2.2.2.2.2.2.2.2.1 o.2.2.2.2.2.2.2.2.2.2.2.2.2.2.1 o.2.2.2.2.2.2.2.2.2.2.2.2.2.2.2.1 o.2.2.2.2.2.2.2.2.2.2.2.2.2.2.2.2.1 o.2.2.2.2.2.2.2.2.2.2.2.2.2.2.2.2.2.1 o.2.2.2.2.2.2.2.2.2.2.2.2.2.2.2.2.2.2)) := by
  refine MetI.ofV (cc := cX8_allCosts) (maxL := 3) (ret := (some .int)) (own := RX8) (lv0 := [(0, .ref (am 0))]) (by decide) rfl rfl (Nat.le_of_ble_eq_true rfl) rfl ?_
  intro p e s m below meth c A C0 _
  unfold f_X8_allCosts at hf
  refine V_iconst (v := 0) C0 dX8_allCosts_0 (by decide) rfl ?_
  refine V_istore_n (lv' := [(1, .int 0), (0, .ref (am 0))]) C0 dX8_allCosts_1 rfl (by decide) rfl rfl ?_
  refine V_iconst (v := 0) C0 dX8_allCosts_2 (by decide) rfl ?_
  refine V_istore_n (lv' := [(2, .int 0), (1, .int 0), (0, .ref (am 0))]) C0 dX8_allCosts_3 rfl (by decide) rfl rfl ?_
  have hL4 : ∀ (K : Int32 → MV → Option (Int32 × MV)), (∀ (x1 : Int32) (mo : MV), K x1 mo = some o → V p l e RM_X8_allCosts s m ([.ref (am 0)] : List Value).toArray below meth c 3 (dC, dI) A (MQ below (va_Qi (fun r (_ : Unit) => r = o.1) (PostW (dC, dI) (TY cI cJ cZ cO) A (fun _ => (W_M cI cJ cZ cO am o.2.1 o.2.2.1 o.2.2.2.1 o.2.2.2.2.1 o.2.2.2.2.2.1 o.2.2.2.2.2.2.1 o.2.2.2.2.2.2.2.1 o.2.2.2.2.2.2.2.2.1 o.2.2.2.2.2.2.2.2.2.1 o.2.2.2.2.2.2.2.2.2.2.1 o.2.2.2.2.2.2.2.2.2.2.2.1 o.2.2.2.2.2.2.2.2.2.2.2.2.1 o.2.2.2.2.2.2.2.2.2.2.2.2.2.1 o.2.2.2.2.2.2.2.2.2.2.2.2.2.2.1 o.2.2.2.2.2.2.2.2.2.2.2.2.2.2.2.1 o.2.2.2.2.2.2.2.2.2.2.2.2.2.2.2.2.1 o.2.2.2.2.2.2.2.2.2.2.2.2.2.2.2.2.2.1 o.2.2.2.2.2.2.2.2.2.2.2.2.2.2.2.2.2.2))) A) ([.ref (am 0)] : List Value).toArray s 0 0 A) 0 0 (W_M cI cJ cZ cO am mo.1 mo.2.1 mo.2.2.1 mo.2.2.2.1 mo.2.2.2.2.1 mo.2.2.2.2.2.1 mo.2.2.2.2.2.2.1 mo.2.2.2.2.2.2.2.1 mo.2.2.2.2.2.2.2.2.1 mo.2.2.2.2.2.2.2.2.2.1 mo.2.2.2.2.2.2.2.2.2.2.1 mo.2.2.2.2.2.2.2.2.2.2.2.1 mo.2.2.2.2.2.2.2.2.2.2.2.2.1 mo.2.2.2.2.2.2.2.2.2.2.2.2.2.1 mo.2.2.2.2.2.2.2.2.2.2.2.2.2.2.1 mo.2.2.2.2.2.2.2.2.2.2.2.2.2.2.2.1 mo.2.2.2.2.2.2.2.2.2.2.2.2.2.2.2.2.1 mo.2.2.2.2.2.2.2.2.2.2.2.2.2.2.2.2.2) 28 [(1, .int x1)] []) → ∀ (n : Nat) (x1 : Int32) (x2 : Int32) (mo : MV), f_X8_allCosts_L4 N   K n x1 x2 mo = some o → V p l e RM_X8_allCosts s m ([.ref (am 0)] : List Value).toArray below meth c 3 (dC, dI) A (MQ below (va_Qi (fun r (_ : Unit) => r = o.1) (PostW (dC, dI) (TY cI cJ cZ cO) A (fun _ => (W_M cI cJ cZ cO am o.2.1 o.2.2.1 o.2.2.2.1 o.2.2.2.2.1 o.2.2.2.2.2.1 o.2.2.2.2.2.2.1 o.2.2.2.2.2.2.2.1 o.2.2.2.2.2.2.2.2.1 o.2.2.2.2.2.2.2.2.2.1 o.2.2.2.2.2.2.2.2.2.2.1 o.2.2.2.2.2.2.2.2.2.2.2.1 o.2.2.2.2.2.2.2.2.2.2.2.2.1 o.2.2.2.2.2.2.2.2.2.2.2.2.2.1 o.2.2.2.2.2.2.2.2.2.2.2.2.2.2.1 o.2.2.2.2.2.2.2.2.2.2.2.2.2.2.2.1 o.2.2.2.2.2.2.2.2.2.2.2.2.2.2.2.2.1 o.2.2.2.2.2.2.2.2.2.2.2.2.2.2.2.2.2.1 o.2.2.2.2.2.2.2.2.2.2.2.2.2.2.2.2.2.2))) A) ([.ref (am 0)] : List Value).toArray s 0 0 A) 0 0 (W_M cI cJ cZ cO am mo.1 mo.2.1 mo.2.2.1 mo.2.2.2.1 mo.2.2.2.2.1 mo.2.2.2.2.2.1 mo.2.2.2.2.2.2.1 mo.2.2.2.2.2.2.2.1 mo.2.2.2.2.2.2.2.2.1 mo.2.2.2.2.2.2.2.2.2.1 mo.2.2.2.2.2.2.2.2.2.2.1 mo.2.2.2.2.2.2.2.2.2.2.2.1 mo.2.2.2.2.2.2.2.2.2.2.2.2.1 mo.2.2.2.2.2.2.2.2.2.2.2.2.2.1 mo.2.2.2.2.2.2.2.2.2.2.2.2.2.2.1 mo.2.2.2.2.2.2.2.2.2.2.2.2.2.2.2.1 mo.2.2.2.2.2.2.2.2.2.2.2.2.2.2.2.2.1 mo.2.2.2.2.2.2.2.2.2.2.2.2.2.2.2.2.2) 4 [(0, .ref (am 0)), (1, .int x1), (2, .int x2)] [] := by
    intro  K hK n
    induction n with
    | zero => intro x1 x2 mo hf; cases hf
    | succ n hREC =>
      intro x1 x2 mo hf
      rw [f_X8_allCosts_L4] at hf
      refine V_iload_n C0 dX8_allCosts_4 2 rfl rfl ?_
      refine V_aload_n C0 dX8_allCosts_5 0 rfl rfl ?_
      refine V_get C0 fl_X8_allCosts_7 0 rfl rfl dX8_allCosts_6 rfl ?_
      refine V_iconst (v := 1) C0 dX8_allCosts_9 (by decide) rfl ?_
      obtain ⟨hi10, hf⟩ := ck_inv hf
      refine V_iald C0 1 0 rfl rfl hi10 dX8_allCosts_10 rfl ?_
      refine V_icmp_ge (tgt := 28) C0 dX8_allCosts_11 (by decide) rfl (fun c11 => ?_) (fun c11 => ?_)
      · have hf := ite_t c11 hf
        exact V.sub [1] rfl (hK x1 mo hf)
      · have hf := ite_f c11 hf
        refine V_iload_n C0 dX8_allCosts_14 1 rfl rfl ?_
        refine V_aload_n C0 dX8_allCosts_15 0 rfl rfl ?_
        refine V_iload_n C0 dX8_allCosts_16 2 rfl rfl ?_
        obtain ⟨r_17, hc_17, hf⟩ := bind_inv hf
        refine V_cVI (ws' := (W_M cI cJ cZ cO am r_17.2.1 r_17.2.2.1 r_17.2.2.2.1 r_17.2.2.2.2.1 r_17.2.2.2.2.2.1 r_17.2.2.2.2.2.2.1 r_17.2.2.2.2.2.2.2.1 r_17.2.2.2.2.2.2.2.2.1 r_17.2.2.2.2.2.2.2.2.2.1 r_17.2.2.2.2.2.2.2.2.2.2.1 r_17.2.2.2.2.2.2.2.2.2.2.2.1 r_17.2.2.2.2.2.2.2.2.2.2.2.2.1 r_17.2.2.2.2.2.2.2.2.2.2.2.2.2.1 r_17.2.2.2.2.2.2.2.2.2.2.2.2.2.2.1 r_17.2.2.2.2.2.2.2.2.2.2.2.2.2.2.2.1 r_17.2.2.2.2.2.2.2.2.2.2.2.2.2.2.2.2.1 r_17.2.2.2.2.2.2.2.2.2.2.2.2.2.2.2.2.2.1 r_17.2.2.2.2.2.2.2.2.2.2.2.2.2.2.2.2.2.2)) (As := [.int x2]) (b := am 0) (st := [.int x1]) C0 (c_X8_costOf l dC dI cI cJ cZ cO am N mo x2 r_17 hc_17) rfl 1 gX8_allCosts_X8_costOf (by decide +kernel) ⟨Nat.le_of_ble_eq_true rfl, Nat.le_of_ble_eq_true rfl⟩ rfl 0 8 rfl rfl  Cut.all rfl (Nat.le_of_ble_eq_true rfl) dX8_allCosts_17 rfl ⟨Nat.zero_le _, Nat.zero_le _⟩ ?_
        refine V_iadd C0 dX8_allCosts_20 rfl ?_
        refine V_topi (fun x1_1 ex1_1 => ?_)
        have hf := bd_inv ex1_1 hf
        refine V_istore_n (lv' := [(1, .int x1_1), (0, .ref (am 0)), (2, .int x2)]) C0 dX8_allCosts_21 rfl (by decide) rfl rfl ?_
        refine V_iinc (k := 2) (v := x2 + 1) (lv' := [(2, .int (x2 + 1)), (1, .int x1_1), (0, .ref (am 0))]) C0 dX8_allCosts_22 rfl rfl (by decide) rfl rfl ?_
        refine V_goto (tgt := 4) C0 dX8_allCosts_25 (by decide) ?_
        exact V.sub [2, 1, 0] rfl (hREC x1_1 (x2 + 1) r_17.2 hf)
  refine V.sub [2, 1, 0] rfl (hL4  _ ?_ N 0 0 mo hf)
  intro x1_4 mo_4 hf
  refine V_iload_n C0 dX8_allCosts_28 0 rfl rfl ?_
  obtain rfl := some_inv hf
  exact V_iret C0 () rfl rfl dX8_allCosts_29
abbrev RM_X8_findTotals : Room := { frames := 4, cells := 0, slots := 0, locals := 92 }
theorem in_X8_findTotals_X8 : ∀ w ∈ u_ws RX8 TX8 18, w ∈ wsX8_findTotals := by decide +kernel
theorem fl_X8_findTotals_38 : FL RX8 wsX8_findTotals 8 38 11 RX8 TX8 18 := ⟨in_X8_findTotals_X8, rfl, by decide, by decide +kernel, rfl⟩
theorem fl_X8_findTotals_41 : FL RX8 wsX8_findTotals 8 41 12 RX8 TX8 18 := ⟨in_X8_findTotals_X8, rfl, by decide, by decide +kernel, rfl⟩
set_option maxRecDepth 100000 in
set_option maxHeartbeats 4000000 in
theorem c_X8_findTotals (l : Launch) (dC : Nat → ClassId) (dI : Nat → Nat → Nat) (cI cJ cZ cO : ClassId) (am : Nat → Nat) (N : Nat) (mo : MV) (x1 : Int32) (o : MV) (hf : f_X8_findTotals N mo x1 = some o) : MetV l yX8_findTotals wsX8_findTotals RM_X8_findTotals (dC, dI) (TY cI cJ cZ cO) [.ref (am 0), .int x1] (W_M cI cJ cZ cO am mo.1 mo.2.1 mo.2.2.1 mo.2.2.2.1 mo.2.2.2.2.1 mo.2.2.2.2.2.1 mo.2.2.2.2.2.2.1 mo.2.2.2.2.2.2.2.1 mo.2.2.2.2.2.2.2.2.1 mo.2.2.2.2.2.2.2.2.2.1 mo.2.2.2.2.2.2.2.2.2.2.1 mo.2.2.2.2.2.2.2.2.2.2.2.1 mo.2.2.2.2.2.2.2.2.2.2.2.2.1 mo.2.2.2.2.2.2.2.2.2.2.2.2.2.1 mo.2.2.2.2.2.2.2.2.2.2.2.2.2.2.1 mo.2.2.2.2.2.2.2.2.2.2.2.2.2.2.2.1 mo.2.2.2.2.2.2.2.2.2.2.2.2.2.2.2.2.1 mo.2.2.2.2.2.2.2.2.2.2.2.2.2.2.2.2.2) (fun _ : Unit => True) (fun _ => (W_M cI cJ cZ cO am o.1 o.2.1 o.2.2.1 o.2.2.2.1 o.2.2.2.2.1 o.2.2.2.2.2.1 o.2.2.2.2.2.2.1 o.2.2.2.2.2.2.2.1 o.2.2.2.2.2.2.2.2.1 o.2.2.2.2.2.2.2.2.2.1 o.2.2.2.2.2.2.2.2.2.2.1 o.2.2.2.2.2.2.2.2.2.2.2.1 o.2.2.2.2.2.2.2.2.2.2.2.2.1 o.2.2.2.2.2.2.2.2.2.2.2.2.2.1 o.2.2.2.2.2.2.2.2.2.2.2.2.2.2.1 o.2.2.2.2.2.2.2.2.2.2.2.2.2.2.2.1 o.2.2.2.2.2.2.2.2.2.2.2.2.2.2.2.2.1 o.2.2.2.2.2.2.2.2.2.2.2.2.2.2.2.2.2)) := by
  refine MetV.ofV (cc := cX8_findTotals) (maxL := 5) (ret := none) (own := RX8) (lv0 := [(0, .ref (am 0)), (1, .int x1)]) (by decide) rfl rfl (Nat.le_of_ble_eq_true rfl) rfl ?_
  intro p e s m below meth c A C0 _
  unfold f_X8_findTotals at hf
  refine V_aload_n C0 dX8_findTotals_0 0 rfl rfl ?_
  refine V_iload_n C0 dX8_findTotals_1 1 rfl rfl ?_
  refine V_iconst (v := 0) C0 dX8_findTotals_2 (by decide) rfl ?_
  obtain ⟨r_3, hc_3, hf⟩ := bind_inv hf
  refine V_cVI (ws' := (W_M cI cJ cZ cO am mo.1 mo.2.1 mo.2.2.1 mo.2.2.2.1 mo.2.2.2.2.1 mo.2.2.2.2.2.1 mo.2.2.2.2.2.2.1 mo.2.2.2.2.2.2.2.1 mo.2.2.2.2.2.2.2.2.1 mo.2.2.2.2.2.2.2.2.2.1 mo.2.2.2.2.2.2.2.2.2.2.1 mo.2.2.2.2.2.2.2.2.2.2.2.1 mo.2.2.2.2.2.2.2.2.2.2.2.2.1 mo.2.2.2.2.2.2.2.2.2.2.2.2.2.1 mo.2.2.2.2.2.2.2.2.2.2.2.2.2.2.1 mo.2.2.2.2.2.2.2.2.2.2.2.2.2.2.2.1 mo.2.2.2.2.2.2.2.2.2.2.2.2.2.2.2.2.1 mo.2.2.2.2.2.2.2.2.2.2.2.2.2.2.2.2.2)) (As := [.int x1, .int 0]) (b := am 0) (st := []) C0 (c_X8_wordPart l dC dI cI cJ cZ cO am N mo x1 0 r_3 hc_3) rfl 2 gX8_findTotals_X8_wordPart (by decide +kernel) ⟨Nat.le_of_ble_eq_true rfl, Nat.le_of_ble_eq_true rfl⟩ rfl 0 8 rfl rfl  Cut.all rfl (Nat.le_of_ble_eq_true rfl) dX8_findTotals_3 rfl ⟨Nat.zero_le _, Nat.zero_le _⟩ ?_
  refine V_istore_n (lv' := [(2, .int r_3), (0, .ref (am 0)), (1, .int x1)]) C0 dX8_findTotals_6 rfl (by decide) rfl rfl ?_
  refine V_iconst (v := 0) C0 dX8_findTotals_7 (by decide) rfl ?_
  refine V_istore_n (lv' := [(3, .int 0), (2, .int r_3), (0, .ref (am 0)), (1, .int x1)]) C0 dX8_findTotals_8 rfl (by decide) rfl rfl ?_
  have hL9 : ∀ (x2 : Int32) (K : MV → Option (MV)), (∀ (mo : MV), K mo = some o → V p l e RM_X8_findTotals s m ([.ref (am 0), .int x1] : List Value).toArray below meth c 5 (dC, dI) A (MQ below (va_Qv (fun _ : Unit => True) (PostW (dC, dI) (TY cI cJ cZ cO) A (fun _ => (W_M cI cJ cZ cO am o.1 o.2.1 o.2.2.1 o.2.2.2.1 o.2.2.2.2.1 o.2.2.2.2.2.1 o.2.2.2.2.2.2.1 o.2.2.2.2.2.2.2.1 o.2.2.2.2.2.2.2.2.1 o.2.2.2.2.2.2.2.2.2.1 o.2.2.2.2.2.2.2.2.2.2.1 o.2.2.2.2.2.2.2.2.2.2.2.1 o.2.2.2.2.2.2.2.2.2.2.2.2.1 o.2.2.2.2.2.2.2.2.2.2.2.2.2.1 o.2.2.2.2.2.2.2.2.2.2.2.2.2.2.1 o.2.2.2.2.2.2.2.2.2.2.2.2.2.2.2.1 o.2.2.2.2.2.2.2.2.2.2.2.2.2.2.2.2.1 o.2.2.2.2.2.2.2.2.2.2.2.2.2.2.2.2.2))) A) ([.ref (am 0), .int x1] : List Value).toArray s 0 0 A) 0 0 (W_M cI cJ cZ cO am mo.1 mo.2.1 mo.2.2.1 mo.2.2.2.1 mo.2.2.2.2.1 mo.2.2.2.2.2.1 mo.2.2.2.2.2.2.1 mo.2.2.2.2.2.2.2.1 mo.2.2.2.2.2.2.2.2.1 mo.2.2.2.2.2.2.2.2.2.1 mo.2.2.2.2.2.2.2.2.2.2.1 mo.2.2.2.2.2.2.2.2.2.2.2.1 mo.2.2.2.2.2.2.2.2.2.2.2.2.1 mo.2.2.2.2.2.2.2.2.2.2.2.2.2.1 mo.2.2.2.2.2.2.2.2.2.2.2.2.2.2.1 mo.2.2.2.2.2.2.2.2.2.2.2.2.2.2.2.1 mo.2.2.2.2.2.2.2.2.2.2.2.2.2.2.2.2.1 mo.2.2.2.2.2.2.2.2.2.2.2.2.2.2.2.2.2) 51 [(0, .ref (am 0)), (1, .int x1), (2, .int x2)] []) → ∀ (n : Nat) (x3 : Int32) (mo : MV), f_X8_findTotals_L9 N x1 x2 K n x3 mo = some o → V p l e RM_X8_findTotals s m ([.ref (am 0), .int x1] : List Value).toArray below meth c 5 (dC, dI) A (MQ below (va_Qv (fun _ : Unit => True) (PostW (dC, dI) (TY cI cJ cZ cO) A (fun _ => (W_M cI cJ cZ cO am o.1 o.2.1 o.2.2.1 o.2.2.2.1 o.2.2.2.2.1 o.2.2.2.2.2.1 o.2.2.2.2.2.2.1 o.2.2.2.2.2.2.2.1 o.2.2.2.2.2.2.2.2.1 o.2.2.2.2.2.2.2.2.2.1 o.2.2.2.2.2.2.2.2.2.2.1 o.2.2.2.2.2.2.2.2.2.2.2.1 o.2.2.2.2.2.2.2.2.2.2.2.2.1 o.2.2.2.2.2.2.2.2.2.2.2.2.2.1 o.2.2.2.2.2.2.2.2.2.2.2.2.2.2.1 o.2.2.2.2.2.2.2.2.2.2.2.2.2.2.2.1 o.2.2.2.2.2.2.2.2.2.2.2.2.2.2.2.2.1 o.2.2.2.2.2.2.2.2.2.2.2.2.2.2.2.2.2))) A) ([.ref (am 0), .int x1] : List Value).toArray s 0 0 A) 0 0 (W_M cI cJ cZ cO am mo.1 mo.2.1 mo.2.2.1 mo.2.2.2.1 mo.2.2.2.2.1 mo.2.2.2.2.2.1 mo.2.2.2.2.2.2.1 mo.2.2.2.2.2.2.2.1 mo.2.2.2.2.2.2.2.2.1 mo.2.2.2.2.2.2.2.2.2.1 mo.2.2.2.2.2.2.2.2.2.2.1 mo.2.2.2.2.2.2.2.2.2.2.2.1 mo.2.2.2.2.2.2.2.2.2.2.2.2.1 mo.2.2.2.2.2.2.2.2.2.2.2.2.2.1 mo.2.2.2.2.2.2.2.2.2.2.2.2.2.2.1 mo.2.2.2.2.2.2.2.2.2.2.2.2.2.2.2.1 mo.2.2.2.2.2.2.2.2.2.2.2.2.2.2.2.2.1 mo.2.2.2.2.2.2.2.2.2.2.2.2.2.2.2.2.2) 9 [(0, .ref (am 0)), (1, .int x1), (2, .int x2), (3, .int x3)] [] := by
    intro x2 K hK n
    induction n with
    | zero => intro x3 mo hf; cases hf
    | succ n hREC =>
      intro x3 mo hf
      rw [f_X8_findTotals_L9] at hf
      refine V_iload_n C0 dX8_findTotals_9 3 rfl rfl ?_
      refine V_iload_n C0 dX8_findTotals_10 2 rfl rfl ?_
      refine V_icmp_gt (tgt := 51) C0 dX8_findTotals_11 (by decide) rfl (fun c11 => ?_) (fun c11 => ?_)
      · have hf := ite_t c11 hf
        exact V.sub [0, 1, 2] rfl (hK mo hf)
      · have hf := ite_f c11 hf
        refine V_aload_n C0 dX8_findTotals_14 0 rfl rfl ?_
        refine V_get C0 fl_X8_findTotals_38 0 rfl rfl dX8_findTotals_15 rfl ?_
        refine V_iload_n C0 dX8_findTotals_18 3 rfl rfl ?_
        refine V_iload_n C0 dX8_findTotals_19 3 rfl rfl ?_
        refine jn_elim hf (fun (J : Int64 → Option (MV)) => ∀ (s2_28 : Int64), J s2_28 = some o → V p l e RM_X8_findTotals s m ([.ref (am 0), .int x1] : List Value).toArray below meth c 5 (dC, dI) A (MQ below (va_Qv (fun _ : Unit => True) (PostW (dC, dI) (TY cI cJ cZ cO) A (fun _ => (W_M cI cJ cZ cO am o.1 o.2.1 o.2.2.1 o.2.2.2.1 o.2.2.2.2.1 o.2.2.2.2.2.1 o.2.2.2.2.2.2.1 o.2.2.2.2.2.2.2.1 o.2.2.2.2.2.2.2.2.1 o.2.2.2.2.2.2.2.2.2.1 o.2.2.2.2.2.2.2.2.2.2.1 o.2.2.2.2.2.2.2.2.2.2.2.1 o.2.2.2.2.2.2.2.2.2.2.2.2.1 o.2.2.2.2.2.2.2.2.2.2.2.2.2.1 o.2.2.2.2.2.2.2.2.2.2.2.2.2.2.1 o.2.2.2.2.2.2.2.2.2.2.2.2.2.2.2.1 o.2.2.2.2.2.2.2.2.2.2.2.2.2.2.2.2.1 o.2.2.2.2.2.2.2.2.2.2.2.2.2.2.2.2.2))) A) ([.ref (am 0), .int x1] : List Value).toArray s 0 0 A) 0 0 (W_M cI cJ cZ cO am mo.1 mo.2.1 mo.2.2.1 mo.2.2.2.1 mo.2.2.2.2.1 mo.2.2.2.2.2.1 mo.2.2.2.2.2.2.1 mo.2.2.2.2.2.2.2.1 mo.2.2.2.2.2.2.2.2.1 mo.2.2.2.2.2.2.2.2.2.1 mo.2.2.2.2.2.2.2.2.2.2.1 mo.2.2.2.2.2.2.2.2.2.2.2.1 mo.2.2.2.2.2.2.2.2.2.2.2.2.1 mo.2.2.2.2.2.2.2.2.2.2.2.2.2.1 mo.2.2.2.2.2.2.2.2.2.2.2.2.2.2.1 mo.2.2.2.2.2.2.2.2.2.2.2.2.2.2.2.1 mo.2.2.2.2.2.2.2.2.2.2.2.2.2.2.2.2.1 mo.2.2.2.2.2.2.2.2.2.2.2.2.2.2.2.2.2) 28 [(0, .ref (am 0)), (1, .int x1), (2, .int x2), (3, .int x3)] [.long s2_28, .int x3, .ref (am 10)]) ?_ ?_
        · intro s2_28 hf
          obtain ⟨hi28, hf⟩ := ck_inv hf
          refine V_last (ws' := (W_M cI cJ cZ cO am mo.1 mo.2.1 mo.2.2.1 mo.2.2.2.1 mo.2.2.2.2.1 mo.2.2.2.2.2.1 mo.2.2.2.2.2.2.1 mo.2.2.2.2.2.2.2.1 mo.2.2.2.2.2.2.2.2.1 mo.2.2.2.2.2.2.2.2.2.1 mo.2.2.2.2.2.2.2.2.2.2.1 (vp_updL mo.2.2.2.2.2.2.2.2.2.2.2.1 (x3.toNatClampNeg) s2_28) mo.2.2.2.2.2.2.2.2.2.2.2.2.1 mo.2.2.2.2.2.2.2.2.2.2.2.2.2.1 mo.2.2.2.2.2.2.2.2.2.2.2.2.2.2.1 mo.2.2.2.2.2.2.2.2.2.2.2.2.2.2.2.1 mo.2.2.2.2.2.2.2.2.2.2.2.2.2.2.2.2.1 mo.2.2.2.2.2.2.2.2.2.2.2.2.2.2.2.2.2)) C0 10 1 rfl rfl hi28 dX8_findTotals_28 rfl rfl ?_
          refine V_aload_n C0 dX8_findTotals_29 0 rfl rfl ?_
          refine V_get C0 fl_X8_findTotals_41 0 rfl rfl dX8_findTotals_30 rfl ?_
          refine V_iload_n C0 dX8_findTotals_33 3 rfl rfl ?_
          refine V_iload_n C0 dX8_findTotals_34 3 rfl rfl ?_
          refine V_iload_n C0 dX8_findTotals_35 2 rfl rfl ?_
          refine jn_elim hf (fun (J : Int64 → Option (MV)) => ∀ (s2_44 : Int64), J s2_44 = some o → V p l e RM_X8_findTotals s m ([.ref (am 0), .int x1] : List Value).toArray below meth c 5 (dC, dI) A (MQ below (va_Qv (fun _ : Unit => True) (PostW (dC, dI) (TY cI cJ cZ cO) A (fun _ => (W_M cI cJ cZ cO am o.1 o.2.1 o.2.2.1 o.2.2.2.1 o.2.2.2.2.1 o.2.2.2.2.2.1 o.2.2.2.2.2.2.1 o.2.2.2.2.2.2.2.1 o.2.2.2.2.2.2.2.2.1 o.2.2.2.2.2.2.2.2.2.1 o.2.2.2.2.2.2.2.2.2.2.1 o.2.2.2.2.2.2.2.2.2.2.2.1 o.2.2.2.2.2.2.2.2.2.2.2.2.1 o.2.2.2.2.2.2.2.2.2.2.2.2.2.1 o.2.2.2.2.2.2.2.2.2.2.2.2.2.2.1 o.2.2.2.2.2.2.2.2.2.2.2.2.2.2.2.1 o.2.2.2.2.2.2.2.2.2.2.2.2.2.2.2.2.1 o.2.2.2.2.2.2.2.2.2.2.2.2.2.2.2.2.2))) A) ([.ref (am 0), .int x1] : List Value).toArray s 0 0 A) 0 0 (W_M cI cJ cZ cO am mo.1 mo.2.1 mo.2.2.1 mo.2.2.2.1 mo.2.2.2.2.1 mo.2.2.2.2.2.1 mo.2.2.2.2.2.2.1 mo.2.2.2.2.2.2.2.1 mo.2.2.2.2.2.2.2.2.1 mo.2.2.2.2.2.2.2.2.2.1 mo.2.2.2.2.2.2.2.2.2.2.1 (vp_updL mo.2.2.2.2.2.2.2.2.2.2.2.1 (x3.toNatClampNeg) s2_28) mo.2.2.2.2.2.2.2.2.2.2.2.2.1 mo.2.2.2.2.2.2.2.2.2.2.2.2.2.1 mo.2.2.2.2.2.2.2.2.2.2.2.2.2.2.1 mo.2.2.2.2.2.2.2.2.2.2.2.2.2.2.2.1 mo.2.2.2.2.2.2.2.2.2.2.2.2.2.2.2.2.1 mo.2.2.2.2.2.2.2.2.2.2.2.2.2.2.2.2.2) 44 [(0, .ref (am 0)), (1, .int x1), (2, .int x2), (3, .int x3)] [.long s2_44, .int x3, .ref (am 11)]) ?_ ?_
          · intro s2_44 hf
            obtain ⟨hi44, hf⟩ := ck_inv hf
            refine V_last (ws' := (W_M cI cJ cZ cO am mo.1 mo.2.1 mo.2.2.1 mo.2.2.2.1 mo.2.2.2.2.1 mo.2.2.2.2.2.1 mo.2.2.2.2.2.2.1 mo.2.2.2.2.2.2.2.1 mo.2.2.2.2.2.2.2.2.1 mo.2.2.2.2.2.2.2.2.2.1 mo.2.2.2.2.2.2.2.2.2.2.1 (vp_updL mo.2.2.2.2.2.2.2.2.2.2.2.1 (x3.toNatClampNeg) s2_28) (vp_updL mo.2.2.2.2.2.2.2.2.2.2.2.2.1 (x3.toNatClampNeg) s2_44) mo.2.2.2.2.2.2.2.2.2.2.2.2.2.1 mo.2.2.2.2.2.2.2.2.2.2.2.2.2.2.1 mo.2.2.2.2.2.2.2.2.2.2.2.2.2.2.2.1 mo.2.2.2.2.2.2.2.2.2.2.2.2.2.2.2.2.1 mo.2.2.2.2.2.2.2.2.2.2.2.2.2.2.2.2.2)) C0 11 1 rfl rfl hi44 dX8_findTotals_44 rfl rfl ?_
            refine V_iinc (k := 3) (v := x3 + 1) (lv' := [(3, .int (x3 + 1)), (0, .ref (am 0)), (1, .int x1), (2, .int x2)]) C0 dX8_findTotals_45 rfl rfl (by decide) rfl rfl ?_
            refine V_goto (tgt := 9) C0 dX8_findTotals_48 (by decide) ?_
            exact V.sub [1, 2, 3, 0] rfl (hREC (x3 + 1) ((mo.1, mo.2.1, mo.2.2.1, mo.2.2.2.1, mo.2.2.2.2.1, mo.2.2.2.2.2.1, mo.2.2.2.2.2.2.1, mo.2.2.2.2.2.2.2.1, mo.2.2.2.2.2.2.2.2.1, mo.2.2.2.2.2.2.2.2.2.1, mo.2.2.2.2.2.2.2.2.2.2.1, vp_updL mo.2.2.2.2.2.2.2.2.2.2.2.1 (x3.toNatClampNeg) s2_28, vp_updL mo.2.2.2.2.2.2.2.2.2.2.2.2.1 (x3.toNatClampNeg) s2_44, mo.2.2.2.2.2.2.2.2.2.2.2.2.2.1, mo.2.2.2.2.2.2.2.2.2.2.2.2.2.2.1, mo.2.2.2.2.2.2.2.2.2.2.2.2.2.2.2.1, mo.2.2.2.2.2.2.2.2.2.2.2.2.2.2.2.2.1, mo.2.2.2.2.2.2.2.2.2.2.2.2.2.2.2.2.2)) hf)
          · intro J44 hJ44 hf
            refine V_icmp_ne (tgt := 43) C0 dX8_findTotals_36 (by decide) rfl (fun c36 => ?_) (fun c36 => ?_)
            · have hf := ite_f c36 hf
              refine V_lconst (v := 0) C0 dX8_findTotals_43 (by decide) rfl ?_
              exact V.sub [0, 1, 2, 3] rfl (hJ44 0 hf)
            · have hf := ite_t c36 hf
              refine V_lconst (v := 1) C0 dX8_findTotals_39 (by decide) rfl ?_
              refine V_goto (tgt := 44) C0 dX8_findTotals_40 (by decide) ?_
              exact V.sub [0, 1, 2, 3] rfl (hJ44 1 hf)
        · intro J28 hJ28 hf
          refine V_if_ne (tgt := 27) C0 dX8_findTotals_20 (by decide) rfl (fun c20 => ?_) (fun c20 => ?_)
          · have hf := ite_f c20 hf
            refine V_lconst (v := 0) C0 dX8_findTotals_27 (by decide) rfl ?_
            exact V.sub [0, 1, 2, 3] rfl (hJ28 0 hf)
          · have hf := ite_t c20 hf
            refine V_lconst (v := 1) C0 dX8_findTotals_23 (by decide) rfl ?_
            refine V_goto (tgt := 28) C0 dX8_findTotals_24 (by decide) ?_
            exact V.sub [0, 1, 2, 3] rfl (hJ28 1 hf)
  refine V.sub [2, 3, 1, 0] rfl (hL9 r_3 _ ?_ N 0 mo hf)
  intro mo_9 hf
  refine V_iconst (v := 0) C0 dX8_findTotals_51 (by decide) rfl ?_
  refine V_istore_n (lv' := [(3, .int 0), (0, .ref (am 0)), (1, .int x1), (2, .int r_3)]) C0 dX8_findTotals_52 rfl (by decide) rfl rfl ?_
  have hL53 : ∀ (x2 : Int32) (K : MV → Option (MV)), (∀ (mo : MV), K mo = some o → V p l e RM_X8_findTotals s m ([.ref (am 0), .int x1] : List Value).toArray below meth c 5 (dC, dI) A (MQ below (va_Qv (fun _ : Unit => True) (PostW (dC, dI) (TY cI cJ cZ cO) A (fun _ => (W_M cI cJ cZ cO am o.1 o.2.1 o.2.2.1 o.2.2.2.1 o.2.2.2.2.1 o.2.2.2.2.2.1 o.2.2.2.2.2.2.1 o.2.2.2.2.2.2.2.1 o.2.2.2.2.2.2.2.2.1 o.2.2.2.2.2.2.2.2.2.1 o.2.2.2.2.2.2.2.2.2.2.1 o.2.2.2.2.2.2.2.2.2.2.2.1 o.2.2.2.2.2.2.2.2.2.2.2.2.1 o.2.2.2.2.2.2.2.2.2.2.2.2.2.1 o.2.2.2.2.2.2.2.2.2.2.2.2.2.2.1 o.2.2.2.2.2.2.2.2.2.2.2.2.2.2.2.1 o.2.2.2.2.2.2.2.2.2.2.2.2.2.2.2.2.1 o.2.2.2.2.2.2.2.2.2.2.2.2.2.2.2.2.2))) A) ([.ref (am 0), .int x1] : List Value).toArray s 0 0 A) 0 0 (W_M cI cJ cZ cO am mo.1 mo.2.1 mo.2.2.1 mo.2.2.2.1 mo.2.2.2.2.1 mo.2.2.2.2.2.1 mo.2.2.2.2.2.2.1 mo.2.2.2.2.2.2.2.1 mo.2.2.2.2.2.2.2.2.1 mo.2.2.2.2.2.2.2.2.2.1 mo.2.2.2.2.2.2.2.2.2.2.1 mo.2.2.2.2.2.2.2.2.2.2.2.1 mo.2.2.2.2.2.2.2.2.2.2.2.2.1 mo.2.2.2.2.2.2.2.2.2.2.2.2.2.1 mo.2.2.2.2.2.2.2.2.2.2.2.2.2.2.1 mo.2.2.2.2.2.2.2.2.2.2.2.2.2.2.2.1 mo.2.2.2.2.2.2.2.2.2.2.2.2.2.2.2.2.1 mo.2.2.2.2.2.2.2.2.2.2.2.2.2.2.2.2.2) 112 [(0, .ref (am 0)), (1, .int x1), (2, .int x2)] []) → ∀ (n : Nat) (x3 : Int32) (mo : MV), f_X8_findTotals_L53 N x1 x2 K n x3 mo = some o → V p l e RM_X8_findTotals s m ([.ref (am 0), .int x1] : List Value).toArray below meth c 5 (dC, dI) A (MQ below (va_Qv (fun _ : Unit => True) (PostW (dC, dI) (TY cI cJ cZ cO) A (fun _ => (W_M cI cJ cZ cO am o.1 o.2.1 o.2.2.1 o.2.2.2.1 o.2.2.2.2.1 o.2.2.2.2.2.1 o.2.2.2.2.2.2.1 o.2.2.2.2.2.2.2.1 o.2.2.2.2.2.2.2.2.1 o.2.2.2.2.2.2.2.2.2.1 o.2.2.2.2.2.2.2.2.2.2.1 o.2.2.2.2.2.2.2.2.2.2.2.1 o.2.2.2.2.2.2.2.2.2.2.2.2.1 o.2.2.2.2.2.2.2.2.2.2.2.2.2.1 o.2.2.2.2.2.2.2.2.2.2.2.2.2.2.1 o.2.2.2.2.2.2.2.2.2.2.2.2.2.2.2.1 o.2.2.2.2.2.2.2.2.2.2.2.2.2.2.2.2.1 o.2.2.2.2.2.2.2.2.2.2.2.2.2.2.2.2.2))) A) ([.ref (am 0), .int x1] : List Value).toArray s 0 0 A) 0 0 (W_M cI cJ cZ cO am mo.1 mo.2.1 mo.2.2.1 mo.2.2.2.1 mo.2.2.2.2.1 mo.2.2.2.2.2.1 mo.2.2.2.2.2.2.1 mo.2.2.2.2.2.2.2.1 mo.2.2.2.2.2.2.2.2.1 mo.2.2.2.2.2.2.2.2.2.1 mo.2.2.2.2.2.2.2.2.2.2.1 mo.2.2.2.2.2.2.2.2.2.2.2.1 mo.2.2.2.2.2.2.2.2.2.2.2.2.1 mo.2.2.2.2.2.2.2.2.2.2.2.2.2.1 mo.2.2.2.2.2.2.2.2.2.2.2.2.2.2.1 mo.2.2.2.2.2.2.2.2.2.2.2.2.2.2.2.1 mo.2.2.2.2.2.2.2.2.2.2.2.2.2.2.2.2.1 mo.2.2.2.2.2.2.2.2.2.2.2.2.2.2.2.2.2) 53 [(0, .ref (am 0)), (1, .int x1), (2, .int x2), (3, .int x3)] [] := by
    intro x2 K hK n
    induction n with
    | zero => intro x3 mo hf; cases hf
    | succ n hREC =>
      intro x3 mo hf
      rw [f_X8_findTotals_L53] at hf
      refine V_iload_n C0 dX8_findTotals_53 3 rfl rfl ?_
      refine V_iload_n C0 dX8_findTotals_54 2 rfl rfl ?_
      refine V_icmp_ge (tgt := 112) C0 dX8_findTotals_55 (by decide) rfl (fun c55 => ?_) (fun c55 => ?_)
      · have hf := ite_t c55 hf
        exact V.sub [0, 1, 2] rfl (hK mo hf)
      · have hf := ite_f c55 hf
        refine V_iconst (v := 1) C0 dX8_findTotals_58 (by decide) rfl ?_
        refine V_istore (lv' := [(4, .int 1), (0, .ref (am 0)), (1, .int x1), (2, .int x2), (3, .int x3)]) C0 dX8_findTotals_59 (by decide) rfl rfl ?_
        have hL61 : ∀ (x2 : Int32) (x3 : Int32) (K : MV → Option (MV)), (∀ (mo : MV), K mo = some o → V p l e RM_X8_findTotals s m ([.ref (am 0), .int x1] : List Value).toArray below meth c 5 (dC, dI) A (MQ below (va_Qv (fun _ : Unit => True) (PostW (dC, dI) (TY cI cJ cZ cO) A (fun _ => (W_M cI cJ cZ cO am o.1 o.2.1 o.2.2.1 o.2.2.2.1 o.2.2.2.2.1 o.2.2.2.2.2.1 o.2.2.2.2.2.2.1 o.2.2.2.2.2.2.2.1 o.2.2.2.2.2.2.2.2.1 o.2.2.2.2.2.2.2.2.2.1 o.2.2.2.2.2.2.2.2.2.2.1 o.2.2.2.2.2.2.2.2.2.2.2.1 o.2.2.2.2.2.2.2.2.2.2.2.2.1 o.2.2.2.2.2.2.2.2.2.2.2.2.2.1 o.2.2.2.2.2.2.2.2.2.2.2.2.2.2.1 o.2.2.2.2.2.2.2.2.2.2.2.2.2.2.2.1 o.2.2.2.2.2.2.2.2.2.2.2.2.2.2.2.2.1 o.2.2.2.2.2.2.2.2.2.2.2.2.2.2.2.2.2))) A) ([.ref (am 0), .int x1] : List Value).toArray s 0 0 A) 0 0 (W_M cI cJ cZ cO am mo.1 mo.2.1 mo.2.2.1 mo.2.2.2.1 mo.2.2.2.2.1 mo.2.2.2.2.2.1 mo.2.2.2.2.2.2.1 mo.2.2.2.2.2.2.2.1 mo.2.2.2.2.2.2.2.2.1 mo.2.2.2.2.2.2.2.2.2.1 mo.2.2.2.2.2.2.2.2.2.2.1 mo.2.2.2.2.2.2.2.2.2.2.2.1 mo.2.2.2.2.2.2.2.2.2.2.2.2.1 mo.2.2.2.2.2.2.2.2.2.2.2.2.2.1 mo.2.2.2.2.2.2.2.2.2.2.2.2.2.2.1 mo.2.2.2.2.2.2.2.2.2.2.2.2.2.2.2.1 mo.2.2.2.2.2.2.2.2.2.2.2.2.2.2.2.2.1 mo.2.2.2.2.2.2.2.2.2.2.2.2.2.2.2.2.2) 106 [(0, .ref (am 0)), (1, .int x1), (2, .int x2), (3, .int x3)] []) → ∀ (n : Nat) (x4 : Int32) (mo : MV), f_X8_findTotals_L61 N x1 x2 x3 K n x4 mo = some o → V p l e RM_X8_findTotals s m ([.ref (am 0), .int x1] : List Value).toArray below meth c 5 (dC, dI) A (MQ below (va_Qv (fun _ : Unit => True) (PostW (dC, dI) (TY cI cJ cZ cO) A (fun _ => (W_M cI cJ cZ cO am o.1 o.2.1 o.2.2.1 o.2.2.2.1 o.2.2.2.2.1 o.2.2.2.2.2.1 o.2.2.2.2.2.2.1 o.2.2.2.2.2.2.2.1 o.2.2.2.2.2.2.2.2.1 o.2.2.2.2.2.2.2.2.2.1 o.2.2.2.2.2.2.2.2.2.2.1 o.2.2.2.2.2.2.2.2.2.2.2.1 o.2.2.2.2.2.2.2.2.2.2.2.2.1 o.2.2.2.2.2.2.2.2.2.2.2.2.2.1 o.2.2.2.2.2.2.2.2.2.2.2.2.2.2.1 o.2.2.2.2.2.2.2.2.2.2.2.2.2.2.2.1 o.2.2.2.2.2.2.2.2.2.2.2.2.2.2.2.2.1 o.2.2.2.2.2.2.2.2.2.2.2.2.2.2.2.2.2))) A) ([.ref (am 0), .int x1] : List Value).toArray s 0 0 A) 0 0 (W_M cI cJ cZ cO am mo.1 mo.2.1 mo.2.2.1 mo.2.2.2.1 mo.2.2.2.2.1 mo.2.2.2.2.2.1 mo.2.2.2.2.2.2.1 mo.2.2.2.2.2.2.2.1 mo.2.2.2.2.2.2.2.2.1 mo.2.2.2.2.2.2.2.2.2.1 mo.2.2.2.2.2.2.2.2.2.2.1 mo.2.2.2.2.2.2.2.2.2.2.2.1 mo.2.2.2.2.2.2.2.2.2.2.2.2.1 mo.2.2.2.2.2.2.2.2.2.2.2.2.2.1 mo.2.2.2.2.2.2.2.2.2.2.2.2.2.2.1 mo.2.2.2.2.2.2.2.2.2.2.2.2.2.2.2.1 mo.2.2.2.2.2.2.2.2.2.2.2.2.2.2.2.2.1 mo.2.2.2.2.2.2.2.2.2.2.2.2.2.2.2.2.2) 61 [(0, .ref (am 0)), (1, .int x1), (2, .int x2), (3, .int x3), (4, .int x4)] [] := by
          intro x2 x3 K hK n
          induction n with
          | zero => intro x4 mo hf; cases hf
          | succ n hREC =>
            intro x4 mo hf
            rw [f_X8_findTotals_L61] at hf
            refine V_iload C0 dX8_findTotals_61 4 rfl rfl ?_
            refine V_aload_n C0 dX8_findTotals_63 0 rfl rfl ?_
            refine V_iload_n C0 dX8_findTotals_64 1 rfl rfl ?_
            refine V_iload_n C0 dX8_findTotals_65 3 rfl rfl ?_
            obtain ⟨r_66, hc_66, hf⟩ := bind_inv hf
            refine V_cVI (ws' := (W_M cI cJ cZ cO am mo.1 mo.2.1 mo.2.2.1 mo.2.2.2.1 mo.2.2.2.2.1 mo.2.2.2.2.2.1 mo.2.2.2.2.2.2.1 mo.2.2.2.2.2.2.2.1 mo.2.2.2.2.2.2.2.2.1 mo.2.2.2.2.2.2.2.2.2.1 mo.2.2.2.2.2.2.2.2.2.2.1 mo.2.2.2.2.2.2.2.2.2.2.2.1 mo.2.2.2.2.2.2.2.2.2.2.2.2.1 mo.2.2.2.2.2.2.2.2.2.2.2.2.2.1 mo.2.2.2.2.2.2.2.2.2.2.2.2.2.2.1 mo.2.2.2.2.2.2.2.2.2.2.2.2.2.2.2.1 mo.2.2.2.2.2.2.2.2.2.2.2.2.2.2.2.2.1 mo.2.2.2.2.2.2.2.2.2.2.2.2.2.2.2.2.2)) (As := [.int x1, .int x3]) (b := am 0) (st := [.int x4]) C0 (c_X8_longestAt l dC dI cI cJ cZ cO am N mo x1 x3 r_66 hc_66) rfl 2 gX8_findTotals_X8_longestAt (by decide +kernel) ⟨Nat.le_of_ble_eq_true rfl, Nat.le_of_ble_eq_true rfl⟩ rfl 0 8 rfl rfl  Cut.all rfl (Nat.le_of_ble_eq_true rfl) dX8_findTotals_66 rfl ⟨Nat.zero_le _, Nat.zero_le _⟩ ?_
            refine V_icmp_gt (tgt := 106) C0 dX8_findTotals_69 (by decide) rfl (fun c69 => ?_) (fun c69 => ?_)
            · have hf := ite_t c69 hf
              exact V.sub [0, 1, 2, 3] rfl (hK mo hf)
            · have hf := ite_f c69 hf
              refine V_aload_n C0 dX8_findTotals_72 0 rfl rfl ?_
              refine V_get C0 fl_X8_findTotals_38 0 rfl rfl dX8_findTotals_73 rfl ?_
              refine V_iload_n C0 dX8_findTotals_76 3 rfl rfl ?_
              refine V_iload C0 dX8_findTotals_77 4 rfl rfl ?_
              refine V_iadd C0 dX8_findTotals_79 rfl ?_
              refine V_dup2_11 C0 dX8_findTotals_80 rfl rfl rfl ?_
              obtain ⟨hi81, hf⟩ := ck_inv hf
              refine V_lald C0 10 1 rfl rfl hi81 dX8_findTotals_81 rfl ?_
              refine V_aload_n C0 dX8_findTotals_82 0 rfl rfl ?_
              refine V_iload_n C0 dX8_findTotals_83 1 rfl rfl ?_
              refine V_iload_n C0 dX8_findTotals_84 3 rfl rfl ?_
              refine V_iload C0 dX8_findTotals_85 4 rfl rfl ?_
              obtain ⟨r_87, hc_87, hf⟩ := bind_inv hf
              refine V_cVI (ws' := (W_M cI cJ cZ cO am mo.1 mo.2.1 mo.2.2.1 mo.2.2.2.1 mo.2.2.2.2.1 mo.2.2.2.2.2.1 mo.2.2.2.2.2.2.1 mo.2.2.2.2.2.2.2.1 mo.2.2.2.2.2.2.2.2.1 mo.2.2.2.2.2.2.2.2.2.1 mo.2.2.2.2.2.2.2.2.2.2.1 mo.2.2.2.2.2.2.2.2.2.2.2.1 mo.2.2.2.2.2.2.2.2.2.2.2.2.1 mo.2.2.2.2.2.2.2.2.2.2.2.2.2.1 mo.2.2.2.2.2.2.2.2.2.2.2.2.2.2.1 mo.2.2.2.2.2.2.2.2.2.2.2.2.2.2.2.1 mo.2.2.2.2.2.2.2.2.2.2.2.2.2.2.2.2.1 mo.2.2.2.2.2.2.2.2.2.2.2.2.2.2.2.2.2)) (As := [.int x1, .int x3, .int x4]) (b := am 0) (st := [.long (mo.2.2.2.2.2.2.2.2.2.2.2.1 ((x3 + x4).toNatClampNeg)), .int (x3 + x4), .ref (am 10)]) C0 (c_X8_weightIn l dC dI cI cJ cZ cO am N mo x1 x3 x4 r_87 hc_87) rfl 3 gX8_findTotals_X8_weightIn (by decide +kernel) ⟨Nat.le_of_ble_eq_true rfl, Nat.le_of_ble_eq_true rfl⟩ rfl 0 8 rfl rfl  Cut.all rfl (Nat.le_of_ble_eq_true rfl) dX8_findTotals_87 rfl ⟨Nat.zero_le _, Nat.zero_le _⟩ ?_
              refine V_i2l C0 dX8_findTotals_90 rfl ?_
              refine V_aload_n C0 dX8_findTotals_91 0 rfl rfl ?_
              refine V_get C0 fl_X8_findTotals_38 0 rfl rfl dX8_findTotals_92 rfl ?_
              refine V_iload_n C0 dX8_findTotals_95 3 rfl rfl ?_
              obtain ⟨hi96, hf⟩ := ck_inv hf
              refine V_lald C0 10 1 rfl rfl hi96 dX8_findTotals_96 rfl ?_
              refine V_lmul C0 dX8_findTotals_97 rfl ?_
              refine V_ladd C0 dX8_findTotals_98 rfl ?_
              obtain ⟨hi99, hf⟩ := ck_inv hf
              refine V_last (ws' := (W_M cI cJ cZ cO am mo.1 mo.2.1 mo.2.2.1 mo.2.2.2.1 mo.2.2.2.2.1 mo.2.2.2.2.2.1 mo.2.2.2.2.2.2.1 mo.2.2.2.2.2.2.2.1 mo.2.2.2.2.2.2.2.2.1 mo.2.2.2.2.2.2.2.2.2.1 mo.2.2.2.2.2.2.2.2.2.2.1 (vp_updL mo.2.2.2.2.2.2.2.2.2.2.2.1 ((x3 + x4).toNatClampNeg) ((mo.2.2.2.2.2.2.2.2.2.2.2.1 ((x3 + x4).toNatClampNeg)) + (r_87.toInt64 * (mo.2.2.2.2.2.2.2.2.2.2.2.1 (x3.toNatClampNeg))))) mo.2.2.2.2.2.2.2.2.2.2.2.2.1 mo.2.2.2.2.2.2.2.2.2.2.2.2.2.1 mo.2.2.2.2.2.2.2.2.2.2.2.2.2.2.1 mo.2.2.2.2.2.2.2.2.2.2.2.2.2.2.2.1 mo.2.2.2.2.2.2.2.2.2.2.2.2.2.2.2.2.1 mo.2.2.2.2.2.2.2.2.2.2.2.2.2.2.2.2.2)) C0 10 1 rfl rfl hi99 dX8_findTotals_99 rfl rfl ?_
              refine V_iinc (k := 4) (v := x4 + 1) (lv' := [(4, .int (x4 + 1)), (0, .ref (am 0)), (1, .int x1), (2, .int x2), (3, .int x3)]) C0 dX8_findTotals_100 rfl rfl (by decide) rfl rfl ?_
              refine V_goto (tgt := 61) C0 dX8_findTotals_103 (by decide) ?_
              exact V.sub [1, 2, 3, 4, 0] rfl (hREC (x4 + 1) ((mo.1, mo.2.1, mo.2.2.1, mo.2.2.2.1, mo.2.2.2.2.1, mo.2.2.2.2.2.1, mo.2.2.2.2.2.2.1, mo.2.2.2.2.2.2.2.1, mo.2.2.2.2.2.2.2.2.1, mo.2.2.2.2.2.2.2.2.2.1, mo.2.2.2.2.2.2.2.2.2.2.1, vp_updL mo.2.2.2.2.2.2.2.2.2.2.2.1 ((x3 + x4).toNatClampNeg) ((mo.2.2.2.2.2.2.2.2.2.2.2.1 ((x3 + x4).toNatClampNeg)) + (r_87.toInt64 * (mo.2.2.2.2.2.2.2.2.2.2.2.1 (x3.toNatClampNeg)))), mo.2.2.2.2.2.2.2.2.2.2.2.2.1, mo.2.2.2.2.2.2.2.2.2.2.2.2.2.1, mo.2.2.2.2.2.2.2.2.2.2.2.2.2.2.1, mo.2.2.2.2.2.2.2.2.2.2.2.2.2.2.2.1, mo.2.2.2.2.2.2.2.2.2.2.2.2.2.2.2.2.1, mo.2.2.2.2.2.2.2.2.2.2.2.2.2.2.2.2.2)) hf)
        refine V.sub [1, 2, 3, 4, 0] rfl (hL61 x2 x3 _ ?_ N 1 mo hf)
        intro mo_61 hf
        refine V_iinc (k := 3) (v := x3 + 1) (lv' := [(3, .int (x3 + 1)), (0, .ref (am 0)), (1, .int x1), (2, .int x2)]) C0 dX8_findTotals_106 rfl rfl (by decide) rfl rfl ?_
        refine V_goto (tgt := 53) C0 dX8_findTotals_109 (by decide) ?_
        exact V.sub [1, 2, 3, 0] rfl (hREC (x3 + 1) mo_61 hf)
  refine V.sub [1, 2, 3, 0] rfl (hL53 r_3 _ ?_ N 0 mo_9 hf)
  intro mo_53 hf
  refine V_iload_n C0 dX8_findTotals_112 2 rfl rfl ?_
  refine V_iconst (v := 1) C0 dX8_findTotals_113 (by decide) rfl ?_
  refine V_isub C0 dX8_findTotals_114 rfl ?_
  refine V_istore_n (lv' := [(3, .int (r_3 - 1)), (0, .ref (am 0)), (1, .int x1), (2, .int r_3)]) C0 dX8_findTotals_115 rfl (by decide) rfl rfl ?_
  have hL116 : ∀ (K : MV → Option (MV)), (∀ (mo : MV), K mo = some o → V p l e RM_X8_findTotals s m ([.ref (am 0), .int x1] : List Value).toArray below meth c 5 (dC, dI) A (MQ below (va_Qv (fun _ : Unit => True) (PostW (dC, dI) (TY cI cJ cZ cO) A (fun _ => (W_M cI cJ cZ cO am o.1 o.2.1 o.2.2.1 o.2.2.2.1 o.2.2.2.2.1 o.2.2.2.2.2.1 o.2.2.2.2.2.2.1 o.2.2.2.2.2.2.2.1 o.2.2.2.2.2.2.2.2.1 o.2.2.2.2.2.2.2.2.2.1 o.2.2.2.2.2.2.2.2.2.2.1 o.2.2.2.2.2.2.2.2.2.2.2.1 o.2.2.2.2.2.2.2.2.2.2.2.2.1 o.2.2.2.2.2.2.2.2.2.2.2.2.2.1 o.2.2.2.2.2.2.2.2.2.2.2.2.2.2.1 o.2.2.2.2.2.2.2.2.2.2.2.2.2.2.2.1 o.2.2.2.2.2.2.2.2.2.2.2.2.2.2.2.2.1 o.2.2.2.2.2.2.2.2.2.2.2.2.2.2.2.2.2))) A) ([.ref (am 0), .int x1] : List Value).toArray s 0 0 A) 0 0 (W_M cI cJ cZ cO am mo.1 mo.2.1 mo.2.2.1 mo.2.2.2.1 mo.2.2.2.2.1 mo.2.2.2.2.2.1 mo.2.2.2.2.2.2.1 mo.2.2.2.2.2.2.2.1 mo.2.2.2.2.2.2.2.2.1 mo.2.2.2.2.2.2.2.2.2.1 mo.2.2.2.2.2.2.2.2.2.2.1 mo.2.2.2.2.2.2.2.2.2.2.2.1 mo.2.2.2.2.2.2.2.2.2.2.2.2.1 mo.2.2.2.2.2.2.2.2.2.2.2.2.2.1 mo.2.2.2.2.2.2.2.2.2.2.2.2.2.2.1 mo.2.2.2.2.2.2.2.2.2.2.2.2.2.2.2.1 mo.2.2.2.2.2.2.2.2.2.2.2.2.2.2.2.2.1 mo.2.2.2.2.2.2.2.2.2.2.2.2.2.2.2.2.2) 174 [] []) → ∀ (n : Nat) (x3 : Int32) (mo : MV), f_X8_findTotals_L116 N x1  K n x3 mo = some o → V p l e RM_X8_findTotals s m ([.ref (am 0), .int x1] : List Value).toArray below meth c 5 (dC, dI) A (MQ below (va_Qv (fun _ : Unit => True) (PostW (dC, dI) (TY cI cJ cZ cO) A (fun _ => (W_M cI cJ cZ cO am o.1 o.2.1 o.2.2.1 o.2.2.2.1 o.2.2.2.2.1 o.2.2.2.2.2.1 o.2.2.2.2.2.2.1 o.2.2.2.2.2.2.2.1 o.2.2.2.2.2.2.2.2.1 o.2.2.2.2.2.2.2.2.2.1 o.2.2.2.2.2.2.2.2.2.2.1 o.2.2.2.2.2.2.2.2.2.2.2.1 o.2.2.2.2.2.2.2.2.2.2.2.2.1 o.2.2.2.2.2.2.2.2.2.2.2.2.2.1 o.2.2.2.2.2.2.2.2.2.2.2.2.2.2.1 o.2.2.2.2.2.2.2.2.2.2.2.2.2.2.2.1 o.2.2.2.2.2.2.2.2.2.2.2.2.2.2.2.2.1 o.2.2.2.2.2.2.2.2.2.2.2.2.2.2.2.2.2))) A) ([.ref (am 0), .int x1] : List Value).toArray s 0 0 A) 0 0 (W_M cI cJ cZ cO am mo.1 mo.2.1 mo.2.2.1 mo.2.2.2.1 mo.2.2.2.2.1 mo.2.2.2.2.2.1 mo.2.2.2.2.2.2.1 mo.2.2.2.2.2.2.2.1 mo.2.2.2.2.2.2.2.2.1 mo.2.2.2.2.2.2.2.2.2.1 mo.2.2.2.2.2.2.2.2.2.2.1 mo.2.2.2.2.2.2.2.2.2.2.2.1 mo.2.2.2.2.2.2.2.2.2.2.2.2.1 mo.2.2.2.2.2.2.2.2.2.2.2.2.2.1 mo.2.2.2.2.2.2.2.2.2.2.2.2.2.2.1 mo.2.2.2.2.2.2.2.2.2.2.2.2.2.2.2.1 mo.2.2.2.2.2.2.2.2.2.2.2.2.2.2.2.2.1 mo.2.2.2.2.2.2.2.2.2.2.2.2.2.2.2.2.2) 116 [(0, .ref (am 0)), (1, .int x1), (3, .int x3)] [] := by
    intro  K hK n
    induction n with
    | zero => intro x3 mo hf; cases hf
    | succ n hREC =>
      intro x3 mo hf
      rw [f_X8_findTotals_L116] at hf
      refine V_iload_n C0 dX8_findTotals_116 2 rfl rfl ?_
      refine V_if_lt (tgt := 174) C0 dX8_findTotals_117 (by decide) rfl (fun c117 => ?_) (fun c117 => ?_)
      · have hf := ite_t c117 hf
        exact V.sub [] rfl (hK mo hf)
      · have hf := ite_f c117 hf
        refine V_iconst (v := 1) C0 dX8_findTotals_120 (by decide) rfl ?_
        refine V_istore (lv' := [(4, .int 1), (0, .ref (am 0)), (1, .int x1), (3, .int x3)]) C0 dX8_findTotals_121 (by decide) rfl rfl ?_
        have hL123 : ∀ (x3 : Int32) (K : MV → Option (MV)), (∀ (mo : MV), K mo = some o → V p l e RM_X8_findTotals s m ([.ref (am 0), .int x1] : List Value).toArray below meth c 5 (dC, dI) A (MQ below (va_Qv (fun _ : Unit => True) (PostW (dC, dI) (TY cI cJ cZ cO) A (fun _ => (W_M cI cJ cZ cO am o.1 o.2.1 o.2.2.1 o.2.2.2.1 o.2.2.2.2.1 o.2.2.2.2.2.1 o.2.2.2.2.2.2.1 o.2.2.2.2.2.2.2.1 o.2.2.2.2.2.2.2.2.1 o.2.2.2.2.2.2.2.2.2.1 o.2.2.2.2.2.2.2.2.2.2.1 o.2.2.2.2.2.2.2.2.2.2.2.1 o.2.2.2.2.2.2.2.2.2.2.2.2.1 o.2.2.2.2.2.2.2.2.2.2.2.2.2.1 o.2.2.2.2.2.2.2.2.2.2.2.2.2.2.1 o.2.2.2.2.2.2.2.2.2.2.2.2.2.2.2.1 o.2.2.2.2.2.2.2.2.2.2.2.2.2.2.2.2.1 o.2.2.2.2.2.2.2.2.2.2.2.2.2.2.2.2.2))) A) ([.ref (am 0), .int x1] : List Value).toArray s 0 0 A) 0 0 (W_M cI cJ cZ cO am mo.1 mo.2.1 mo.2.2.1 mo.2.2.2.1 mo.2.2.2.2.1 mo.2.2.2.2.2.1 mo.2.2.2.2.2.2.1 mo.2.2.2.2.2.2.2.1 mo.2.2.2.2.2.2.2.2.1 mo.2.2.2.2.2.2.2.2.2.1 mo.2.2.2.2.2.2.2.2.2.2.1 mo.2.2.2.2.2.2.2.2.2.2.2.1 mo.2.2.2.2.2.2.2.2.2.2.2.2.1 mo.2.2.2.2.2.2.2.2.2.2.2.2.2.1 mo.2.2.2.2.2.2.2.2.2.2.2.2.2.2.1 mo.2.2.2.2.2.2.2.2.2.2.2.2.2.2.2.1 mo.2.2.2.2.2.2.2.2.2.2.2.2.2.2.2.2.1 mo.2.2.2.2.2.2.2.2.2.2.2.2.2.2.2.2.2) 168 [(0, .ref (am 0)), (1, .int x1), (3, .int x3)] []) → ∀ (n : Nat) (x4 : Int32) (mo : MV), f_X8_findTotals_L123 N x1 x3 K n x4 mo = some o → V p l e RM_X8_findTotals s m ([.ref (am 0), .int x1] : List Value).toArray below meth c 5 (dC, dI) A (MQ below (va_Qv (fun _ : Unit => True) (PostW (dC, dI) (TY cI cJ cZ cO) A (fun _ => (W_M cI cJ cZ cO am o.1 o.2.1 o.2.2.1 o.2.2.2.1 o.2.2.2.2.1 o.2.2.2.2.2.1 o.2.2.2.2.2.2.1 o.2.2.2.2.2.2.2.1 o.2.2.2.2.2.2.2.2.1 o.2.2.2.2.2.2.2.2.2.1 o.2.2.2.2.2.2.2.2.2.2.1 o.2.2.2.2.2.2.2.2.2.2.2.1 o.2.2.2.2.2.2.2.2.2.2.2.2.1 o.2.2.2.2.2.2.2.2.2.2.2.2.2.1 o.2.2.2.2.2.2.2.2.2.2.2.2.2.2.1 o.2.2.2.2.2.2.2.2.2.2.2.2.2.2.2.1 o.2.2.2.2.2.2.2.2.2.2.2.2.2.2.2.2.1 o.2.2.2.2.2.2.2.2.2.2.2.2.2.2.2.2.2))) A) ([.ref (am 0), .int x1] : List Value).toArray s 0 0 A) 0 0 (W_M cI cJ cZ cO am mo.1 mo.2.1 mo.2.2.1 mo.2.2.2.1 mo.2.2.2.2.1 mo.2.2.2.2.2.1 mo.2.2.2.2.2.2.1 mo.2.2.2.2.2.2.2.1 mo.2.2.2.2.2.2.2.2.1 mo.2.2.2.2.2.2.2.2.2.1 mo.2.2.2.2.2.2.2.2.2.2.1 mo.2.2.2.2.2.2.2.2.2.2.2.1 mo.2.2.2.2.2.2.2.2.2.2.2.2.1 mo.2.2.2.2.2.2.2.2.2.2.2.2.2.1 mo.2.2.2.2.2.2.2.2.2.2.2.2.2.2.1 mo.2.2.2.2.2.2.2.2.2.2.2.2.2.2.2.1 mo.2.2.2.2.2.2.2.2.2.2.2.2.2.2.2.2.1 mo.2.2.2.2.2.2.2.2.2.2.2.2.2.2.2.2.2) 123 [(0, .ref (am 0)), (1, .int x1), (3, .int x3), (4, .int x4)] [] := by
          intro x3 K hK n
          induction n with
          | zero => intro x4 mo hf; cases hf
          | succ n hREC =>
            intro x4 mo hf
            rw [f_X8_findTotals_L123] at hf
            refine V_iload C0 dX8_findTotals_123 3 rfl rfl ?_
            refine V_aload_n C0 dX8_findTotals_125 0 rfl rfl ?_
            refine V_iload_n C0 dX8_findTotals_126 1 rfl rfl ?_
            refine V_iload_n C0 dX8_findTotals_127 2 rfl rfl ?_
            obtain ⟨r_128, hc_128, hf⟩ := bind_inv hf
            refine V_cVI (ws' := (W_M cI cJ cZ cO am mo.1 mo.2.1 mo.2.2.1 mo.2.2.2.1 mo.2.2.2.2.1 mo.2.2.2.2.2.1 mo.2.2.2.2.2.2.1 mo.2.2.2.2.2.2.2.1 mo.2.2.2.2.2.2.2.2.1 mo.2.2.2.2.2.2.2.2.2.1 mo.2.2.2.2.2.2.2.2.2.2.1 mo.2.2.2.2.2.2.2.2.2.2.2.1 mo.2.2.2.2.2.2.2.2.2.2.2.2.1 mo.2.2.2.2.2.2.2.2.2.2.2.2.2.1 mo.2.2.2.2.2.2.2.2.2.2.2.2.2.2.1 mo.2.2.2.2.2.2.2.2.2.2.2.2.2.2.2.1 mo.2.2.2.2.2.2.2.2.2.2.2.2.2.2.2.2.1 mo.2.2.2.2.2.2.2.2.2.2.2.2.2.2.2.2.2)) (As := [.int x1, .int x3]) (b := am 0) (st := [.int x4]) C0 (c_X8_longestAt l dC dI cI cJ cZ cO am N mo x1 x3 r_128 hc_128) rfl 2 gX8_findTotals_X8_longestAt (by decide +kernel) ⟨Nat.le_of_ble_eq_true rfl, Nat.le_of_ble_eq_true rfl⟩ rfl 0 8 rfl rfl  Cut.all rfl (Nat.le_of_ble_eq_true rfl) dX8_findTotals_128 rfl ⟨Nat.zero_le _, Nat.zero_le _⟩ ?_
            refine V_icmp_gt (tgt := 168) C0 dX8_findTotals_131 (by decide) rfl (fun c131 => ?_) (fun c131 => ?_)
            · have hf := ite_t c131 hf
              exact V.sub [0, 1, 2] rfl (hK mo hf)
            · have hf := ite_f c131 hf
              refine V_aload_n C0 dX8_findTotals_134 0 rfl rfl ?_
              refine V_get C0 fl_X8_findTotals_41 0 rfl rfl dX8_findTotals_135 rfl ?_
              refine V_iload_n C0 dX8_findTotals_138 2 rfl rfl ?_
              refine V_dup2_11 C0 dX8_findTotals_139 rfl rfl rfl ?_
              obtain ⟨hi140, hf⟩ := ck_inv hf
              refine V_lald C0 11 1 rfl rfl hi140 dX8_findTotals_140 rfl ?_
              refine V_aload_n C0 dX8_findTotals_141 0 rfl rfl ?_
              refine V_iload_n C0 dX8_findTotals_142 1 rfl rfl ?_
              refine V_iload_n C0 dX8_findTotals_143 2 rfl rfl ?_
              refine V_iload C0 dX8_findTotals_144 3 rfl rfl ?_
              obtain ⟨r_146, hc_146, hf⟩ := bind_inv hf
              refine V_cVI (ws' := (W_M cI cJ cZ cO am mo.1 mo.2.1 mo.2.2.1 mo.2.2.2.1 mo.2.2.2.2.1 mo.2.2.2.2.2.1 mo.2.2.2.2.2.2.1 mo.2.2.2.2.2.2.2.1 mo.2.2.2.2.2.2.2.2.1 mo.2.2.2.2.2.2.2.2.2.1 mo.2.2.2.2.2.2.2.2.2.2.1 mo.2.2.2.2.2.2.2.2.2.2.2.1 mo.2.2.2.2.2.2.2.2.2.2.2.2.1 mo.2.2.2.2.2.2.2.2.2.2.2.2.2.1 mo.2.2.2.2.2.2.2.2.2.2.2.2.2.2.1 mo.2.2.2.2.2.2.2.2.2.2.2.2.2.2.2.1 mo.2.2.2.2.2.2.2.2.2.2.2.2.2.2.2.2.1 mo.2.2.2.2.2.2.2.2.2.2.2.2.2.2.2.2.2)) (As := [.int x1, .int x3, .int x4]) (b := am 0) (st := [.long (mo.2.2.2.2.2.2.2.2.2.2.2.2.1 (x3.toNatClampNeg)), .int x3, .ref (am 11)]) C0 (c_X8_weightIn l dC dI cI cJ cZ cO am N mo x1 x3 x4 r_146 hc_146) rfl 3 gX8_findTotals_X8_weightIn (by decide +kernel) ⟨Nat.le_of_ble_eq_true rfl, Nat.le_of_ble_eq_true rfl⟩ rfl 0 8 rfl rfl  Cut.all rfl (Nat.le_of_ble_eq_true rfl) dX8_findTotals_146 rfl ⟨Nat.zero_le _, Nat.zero_le _⟩ ?_
              refine V_i2l C0 dX8_findTotals_149 rfl ?_
              refine V_aload_n C0 dX8_findTotals_150 0 rfl rfl ?_
              refine V_get C0 fl_X8_findTotals_41 0 rfl rfl dX8_findTotals_151 rfl ?_
              refine V_iload_n C0 dX8_findTotals_154 2 rfl rfl ?_
              refine V_iload C0 dX8_findTotals_155 3 rfl rfl ?_
              refine V_iadd C0 dX8_findTotals_157 rfl ?_
              obtain ⟨hi158, hf⟩ := ck_inv hf
              refine V_lald C0 11 1 rfl rfl hi158 dX8_findTotals_158 rfl ?_
              refine V_lmul C0 dX8_findTotals_159 rfl ?_
              refine V_ladd C0 dX8_findTotals_160 rfl ?_
              obtain ⟨hi161, hf⟩ := ck_inv hf
              refine V_last (ws' := (W_M cI cJ cZ cO am mo.1 mo.2.1 mo.2.2.1 mo.2.2.2.1 mo.2.2.2.2.1 mo.2.2.2.2.2.1 mo.2.2.2.2.2.2.1 mo.2.2.2.2.2.2.2.1 mo.2.2.2.2.2.2.2.2.1 mo.2.2.2.2.2.2.2.2.2.1 mo.2.2.2.2.2.2.2.2.2.2.1 mo.2.2.2.2.2.2.2.2.2.2.2.1 (vp_updL mo.2.2.2.2.2.2.2.2.2.2.2.2.1 (x3.toNatClampNeg) ((mo.2.2.2.2.2.2.2.2.2.2.2.2.1 (x3.toNatClampNeg)) + (r_146.toInt64 * (mo.2.2.2.2.2.2.2.2.2.2.2.2.1 ((x3 + x4).toNatClampNeg))))) mo.2.2.2.2.2.2.2.2.2.2.2.2.2.1 mo.2.2.2.2.2.2.2.2.2.2.2.2.2.2.1 mo.2.2.2.2.2.2.2.2.2.2.2.2.2.2.2.1 mo.2.2.2.2.2.2.2.2.2.2.2.2.2.2.2.2.1 mo.2.2.2.2.2.2.2.2.2.2.2.2.2.2.2.2.2)) C0 11 1 rfl rfl hi161 dX8_findTotals_161 rfl rfl ?_
              refine V_iinc (k := 3) (v := x4 + 1) (lv' := [(4, .int (x4 + 1)), (0, .ref (am 0)), (1, .int x1), (3, .int x3)]) C0 dX8_findTotals_162 rfl rfl (by decide) rfl rfl ?_
              refine V_goto (tgt := 123) C0 dX8_findTotals_165 (by decide) ?_
              exact V.sub [1, 2, 3, 0] rfl (hREC (x4 + 1) ((mo.1, mo.2.1, mo.2.2.1, mo.2.2.2.1, mo.2.2.2.2.1, mo.2.2.2.2.2.1, mo.2.2.2.2.2.2.1, mo.2.2.2.2.2.2.2.1, mo.2.2.2.2.2.2.2.2.1, mo.2.2.2.2.2.2.2.2.2.1, mo.2.2.2.2.2.2.2.2.2.2.1, mo.2.2.2.2.2.2.2.2.2.2.2.1, vp_updL mo.2.2.2.2.2.2.2.2.2.2.2.2.1 (x3.toNatClampNeg) ((mo.2.2.2.2.2.2.2.2.2.2.2.2.1 (x3.toNatClampNeg)) + (r_146.toInt64 * (mo.2.2.2.2.2.2.2.2.2.2.2.2.1 ((x3 + x4).toNatClampNeg)))), mo.2.2.2.2.2.2.2.2.2.2.2.2.2.1, mo.2.2.2.2.2.2.2.2.2.2.2.2.2.2.1, mo.2.2.2.2.2.2.2.2.2.2.2.2.2.2.2.1, mo.2.2.2.2.2.2.2.2.2.2.2.2.2.2.2.2.1, mo.2.2.2.2.2.2.2.2.2.2.2.2.2.2.2.2.2)) hf)
        refine V.sub [1, 2, 3, 0] rfl (hL123 x3 _ ?_ N 1 mo hf)
        intro mo_123 hf
        refine V_iinc (k := 2) (v := x3 + (-1)) (lv' := [(3, .int (x3 + (-1))), (0, .ref (am 0)), (1, .int x1)]) C0 dX8_findTotals_168 rfl rfl (by decide) rfl rfl ?_
        refine V_goto (tgt := 116) C0 dX8_findTotals_171 (by decide) ?_
        exact V.sub [1, 2, 0] rfl (hREC (x3 + (-1)) mo_123 hf)
  refine V.sub [1, 2, 0] rfl (hL116  _ ?_ N (r_3 - 1) mo_53 hf)
  intro mo_116 hf
  obtain rfl := some_inv hf
  exact V_vret C0 () trivial rfl dX8_findTotals_174
abbrev RM_X8_shareIn : Room := { frames := 2, cells := 0, slots := 0, locals := 47 }
theorem in_X8_shareIn_X8 : ∀ w ∈ u_ws RX8 TX8 18, w ∈ wsX8_shareIn := by decide +kernel
theorem fl_X8_shareIn_38 : FL RX8 wsX8_shareIn 8 38 11 RX8 TX8 18 := ⟨in_X8_shareIn_X8, rfl, by decide, by decide +kernel, rfl⟩
theorem fl_X8_shareIn_41 : FL RX8 wsX8_shareIn 8 41 12 RX8 TX8 18 := ⟨in_X8_shareIn_X8, rfl, by decide, by decide +kernel, rfl⟩
set_option maxRecDepth 100000 in
set_option maxHeartbeats 4000000 in
theorem c_X8_shareIn (l : Launch) (dC : Nat → ClassId) (dI : Nat → Nat → Nat) (cI cJ cZ cO : ClassId) (am : Nat → Nat) (N : Nat) (mo : MV) (x1 : Int32) (x2 : Int32) (o : Int32) (hf : f_X8_shareIn N mo x1 x2 = some o) : MetI l yX8_shareIn wsX8_shareIn RM_X8_shareIn (dC, dI) (TY cI cJ cZ cO) [.ref (am 0), .int x1, .int x2] (W_M cI cJ cZ cO am mo.1 mo.2.1 mo.2.2.1 mo.2.2.2.1 mo.2.2.2.2.1 mo.2.2.2.2.2.1 mo.2.2.2.2.2.2.1 mo.2.2.2.2.2.2.2.1 mo.2.2.2.2.2.2.2.2.1 mo.2.2.2.2.2.2.2.2.2.1 mo.2.2.2.2.2.2.2.2.2.2.1 mo.2.2.2.2.2.2.2.2.2.2.2.1 mo.2.2.2.2.2.2.2.2.2.2.2.2.1 mo.2.2.2.2.2.2.2.2.2.2.2.2.2.1 mo.2.2.2.2.2.2.2.2.2.2.2.2.2.2.1 mo.2.2.2.2.2.2.2.2.2.2.2.2.2.2.2.1 mo.2.2.2.2.2.2.2.2.2.2.2.2.2.2.2.2.1 mo.2.2.2.2.2.2.2.2.2.2.2.2.2.2.2.2.2) (fun r (_ : Unit) => r = o) (fun _ => (W_M cI cJ cZ cO am mo.1 mo.2.1 mo.2.2.1 mo.2.2.2.1 mo.2.2.2.2.1 mo.2.2.2.2.2.1 mo.2.2.2.2.2.2.1 mo.2.2.2.2.2.2.2.1 mo.2.2.2.2.2.2.2.2.1 mo.2.2.2.2.2.2.2.2.2.1 mo.2.2.2.2.2.2.2.2.2.2.1 mo.2.2.2.2.2.2.2.2.2.2.2.1 mo.2.2.2.2.2.2.2.2.2.2.2.2.1 mo.2.2.2.2.2.2.2.2.2.2.2.2.2.1 mo.2.2.2.2.2.2.2.2.2.2.2.2.2.2.1 mo.2.2.2.2.2.2.2.2.2.2.2.2.2.2.2.1 mo.2.2.2.2.2.2.2.2.2.2.2.2.2.2.2.2.1 mo.2.2.2.2.2.2.2.2.2.2.2.2.2.2.2.2.2)) := by
  refine MetI.ofV (cc := cX8_shareIn) (maxL := 8) (ret := (some .int)) (own := RX8) (lv0 := [(0, .ref (am 0)), (1, .int x1), (2, .int x2)]) (by decide) rfl rfl (Nat.le_of_ble_eq_true rfl) rfl ?_
  intro p e s m below meth c A C0 _
  unfold f_X8_shareIn at hf
  refine V_aload_n C0 dX8_shareIn_0 0 rfl rfl ?_
  refine V_iload_n C0 dX8_shareIn_1 2 rfl rfl ?_
  refine V_iconst (v := 0) C0 dX8_shareIn_2 (by decide) rfl ?_
  obtain ⟨r_3, hc_3, hf⟩ := bind_inv hf
  refine V_cVI (ws' := (W_M cI cJ cZ cO am mo.1 mo.2.1 mo.2.2.1 mo.2.2.2.1 mo.2.2.2.2.1 mo.2.2.2.2.2.1 mo.2.2.2.2.2.2.1 mo.2.2.2.2.2.2.2.1 mo.2.2.2.2.2.2.2.2.1 mo.2.2.2.2.2.2.2.2.2.1 mo.2.2.2.2.2.2.2.2.2.2.1 mo.2.2.2.2.2.2.2.2.2.2.2.1 mo.2.2.2.2.2.2.2.2.2.2.2.2.1 mo.2.2.2.2.2.2.2.2.2.2.2.2.2.1 mo.2.2.2.2.2.2.2.2.2.2.2.2.2.2.1 mo.2.2.2.2.2.2.2.2.2.2.2.2.2.2.2.1 mo.2.2.2.2.2.2.2.2.2.2.2.2.2.2.2.2.1 mo.2.2.2.2.2.2.2.2.2.2.2.2.2.2.2.2.2)) (As := [.int x2, .int 0]) (b := am 0) (st := []) C0 (c_X8_piecePart l dC dI cI cJ cZ cO am N mo x2 0 r_3 hc_3) rfl 2 gX8_shareIn_X8_piecePart (by decide +kernel) ⟨Nat.le_of_ble_eq_true rfl, Nat.le_of_ble_eq_true rfl⟩ rfl 0 8 rfl rfl  Cut.all rfl (Nat.le_of_ble_eq_true rfl) dX8_shareIn_3 rfl ⟨Nat.zero_le _, Nat.zero_le _⟩ ?_
  refine V_istore_n (lv' := [(3, .int r_3), (0, .ref (am 0)), (1, .int x1), (2, .int x2)]) C0 dX8_shareIn_6 rfl (by decide) rfl rfl ?_
  refine V_aload_n C0 dX8_shareIn_7 1 rfl rfl ?_
  refine V_iload_n C0 dX8_shareIn_8 3 rfl rfl ?_
  obtain ⟨r_9, hc_9, hf⟩ := bind_inv hf
  refine V_cVI (ws' := (W_M cI cJ cZ cO am mo.1 mo.2.1 mo.2.2.1 mo.2.2.2.1 mo.2.2.2.2.1 mo.2.2.2.2.2.1 mo.2.2.2.2.2.2.1 mo.2.2.2.2.2.2.2.1 mo.2.2.2.2.2.2.2.2.1 mo.2.2.2.2.2.2.2.2.2.1 mo.2.2.2.2.2.2.2.2.2.2.1 mo.2.2.2.2.2.2.2.2.2.2.2.1 mo.2.2.2.2.2.2.2.2.2.2.2.2.1 mo.2.2.2.2.2.2.2.2.2.2.2.2.2.1 mo.2.2.2.2.2.2.2.2.2.2.2.2.2.2.1 mo.2.2.2.2.2.2.2.2.2.2.2.2.2.2.2.1 mo.2.2.2.2.2.2.2.2.2.2.2.2.2.2.2.2.1 mo.2.2.2.2.2.2.2.2.2.2.2.2.2.2.2.2.2)) (As := [.int x2]) (b := am 0) (st := []) C0 (c_X8_textOf l dC dI cI cJ cZ cO am N mo x2 r_9 hc_9) rfl 1 gX8_shareIn_X8_textOf (by decide +kernel) ⟨Nat.le_of_ble_eq_true rfl, Nat.le_of_ble_eq_true rfl⟩ rfl 0 8 rfl rfl  Cut.all rfl (Nat.le_of_ble_eq_true rfl) dX8_shareIn_9 rfl ⟨Nat.zero_le _, Nat.zero_le _⟩ ?_
  refine V_istore (lv' := [(4, .int r_9), (3, .int r_3), (0, .ref (am 0)), (1, .int x1), (2, .int x2)]) C0 dX8_shareIn_12 (by decide) rfl rfl ?_
  refine V_lconst (v := 0) C0 dX8_shareIn_14 (by decide) rfl ?_
  refine V_lstore (lv' := [(5, .long 0), (4, .int r_9), (3, .int r_3), (0, .ref (am 0)), (1, .int x1), (2, .int x2)]) C0 dX8_shareIn_15 (by decide) rfl rfl ?_
  refine V_iconst (v := 0) C0 dX8_shareIn_17 (by decide) rfl ?_
  refine V_istore (lv' := [(7, .int 0), (5, .long 0), (4, .int r_9), (3, .int r_3), (0, .ref (am 0)), (1, .int x1), (2, .int x2)]) C0 dX8_shareIn_18 (by decide) rfl rfl ?_
  have hL20 : ∀ (x3 : Int32) (x4 : Int32) (K : Int64 → Option (Int32)), (∀ (x5 : Int64), K x5 = some o → V p l e RM_X8_shareIn s m ([.ref (am 0), .int x1, .int x2] : List Value).toArray below meth c 8 (dC, dI) A (MQ below (va_Qi (fun r (_ : Unit) => r = o) (PostW (dC, dI) (TY cI cJ cZ cO) A (fun _ => (W_M cI cJ cZ cO am mo.1 mo.2.1 mo.2.2.1 mo.2.2.2.1 mo.2.2.2.2.1 mo.2.2.2.2.2.1 mo.2.2.2.2.2.2.1 mo.2.2.2.2.2.2.2.1 mo.2.2.2.2.2.2.2.2.1 mo.2.2.2.2.2.2.2.2.2.1 mo.2.2.2.2.2.2.2.2.2.2.1 mo.2.2.2.2.2.2.2.2.2.2.2.1 mo.2.2.2.2.2.2.2.2.2.2.2.2.1 mo.2.2.2.2.2.2.2.2.2.2.2.2.2.1 mo.2.2.2.2.2.2.2.2.2.2.2.2.2.2.1 mo.2.2.2.2.2.2.2.2.2.2.2.2.2.2.2.1 mo.2.2.2.2.2.2.2.2.2.2.2.2.2.2.2.2.1 mo.2.2.2.2.2.2.2.2.2.2.2.2.2.2.2.2.2))) A) ([.ref (am 0), .int x1, .int x2] : List Value).toArray s 0 0 A) 0 0 (W_M cI cJ cZ cO am mo.1 mo.2.1 mo.2.2.1 mo.2.2.2.1 mo.2.2.2.2.1 mo.2.2.2.2.2.1 mo.2.2.2.2.2.2.1 mo.2.2.2.2.2.2.2.1 mo.2.2.2.2.2.2.2.2.1 mo.2.2.2.2.2.2.2.2.2.1 mo.2.2.2.2.2.2.2.2.2.2.1 mo.2.2.2.2.2.2.2.2.2.2.2.1 mo.2.2.2.2.2.2.2.2.2.2.2.2.1 mo.2.2.2.2.2.2.2.2.2.2.2.2.2.1 mo.2.2.2.2.2.2.2.2.2.2.2.2.2.2.1 mo.2.2.2.2.2.2.2.2.2.2.2.2.2.2.2.1 mo.2.2.2.2.2.2.2.2.2.2.2.2.2.2.2.2.1 mo.2.2.2.2.2.2.2.2.2.2.2.2.2.2.2.2.2) 86 [(0, .ref (am 0)), (5, .long x5)] []) → ∀ (n : Nat) (x5 : Int64) (x7 : Int32), f_X8_shareIn_L20 N mo x1 x2 x3 x4 K n x5 x7 = some o → V p l e RM_X8_shareIn s m ([.ref (am 0), .int x1, .int x2] : List Value).toArray below meth c 8 (dC, dI) A (MQ below (va_Qi (fun r (_ : Unit) => r = o) (PostW (dC, dI) (TY cI cJ cZ cO) A (fun _ => (W_M cI cJ cZ cO am mo.1 mo.2.1 mo.2.2.1 mo.2.2.2.1 mo.2.2.2.2.1 mo.2.2.2.2.2.1 mo.2.2.2.2.2.2.1 mo.2.2.2.2.2.2.2.1 mo.2.2.2.2.2.2.2.2.1 mo.2.2.2.2.2.2.2.2.2.1 mo.2.2.2.2.2.2.2.2.2.2.1 mo.2.2.2.2.2.2.2.2.2.2.2.1 mo.2.2.2.2.2.2.2.2.2.2.2.2.1 mo.2.2.2.2.2.2.2.2.2.2.2.2.2.1 mo.2.2.2.2.2.2.2.2.2.2.2.2.2.2.1 mo.2.2.2.2.2.2.2.2.2.2.2.2.2.2.2.1 mo.2.2.2.2.2.2.2.2.2.2.2.2.2.2.2.2.1 mo.2.2.2.2.2.2.2.2.2.2.2.2.2.2.2.2.2))) A) ([.ref (am 0), .int x1, .int x2] : List Value).toArray s 0 0 A) 0 0 (W_M cI cJ cZ cO am mo.1 mo.2.1 mo.2.2.1 mo.2.2.2.1 mo.2.2.2.2.1 mo.2.2.2.2.2.1 mo.2.2.2.2.2.2.1 mo.2.2.2.2.2.2.2.1 mo.2.2.2.2.2.2.2.2.1 mo.2.2.2.2.2.2.2.2.2.1 mo.2.2.2.2.2.2.2.2.2.2.1 mo.2.2.2.2.2.2.2.2.2.2.2.1 mo.2.2.2.2.2.2.2.2.2.2.2.2.1 mo.2.2.2.2.2.2.2.2.2.2.2.2.2.1 mo.2.2.2.2.2.2.2.2.2.2.2.2.2.2.1 mo.2.2.2.2.2.2.2.2.2.2.2.2.2.2.2.1 mo.2.2.2.2.2.2.2.2.2.2.2.2.2.2.2.2.1 mo.2.2.2.2.2.2.2.2.2.2.2.2.2.2.2.2.2) 20 [(0, .ref (am 0)), (1, .int x1), (2, .int x2), (3, .int x3), (4, .int x4), (5, .long x5), (7, .int x7)] [] := by
    intro x3 x4 K hK n
    induction n with
    | zero => intro x5 x7 hf; cases hf
    | succ n hREC =>
      intro x5 x7 hf
      rw [f_X8_shareIn_L20] at hf
      refine V_iload C0 dX8_shareIn_20 6 rfl rfl ?_
      refine V_iload_n C0 dX8_shareIn_22 3 rfl rfl ?_
      refine V_iadd C0 dX8_shareIn_23 rfl ?_
      refine V_aload_n C0 dX8_shareIn_24 0 rfl rfl ?_
      refine V_iload_n C0 dX8_shareIn_25 1 rfl rfl ?_
      refine V_iconst (v := 0) C0 dX8_shareIn_26 (by decide) rfl ?_
      obtain ⟨r_27, hc_27, hf⟩ := bind_inv hf
      refine V_cVI (ws' := (W_M cI cJ cZ cO am mo.1 mo.2.1 mo.2.2.1 mo.2.2.2.1 mo.2.2.2.2.1 mo.2.2.2.2.2.1 mo.2.2.2.2.2.2.1 mo.2.2.2.2.2.2.2.1 mo.2.2.2.2.2.2.2.2.1 mo.2.2.2.2.2.2.2.2.2.1 mo.2.2.2.2.2.2.2.2.2.2.1 mo.2.2.2.2.2.2.2.2.2.2.2.1 mo.2.2.2.2.2.2.2.2.2.2.2.2.1 mo.2.2.2.2.2.2.2.2.2.2.2.2.2.1 mo.2.2.2.2.2.2.2.2.2.2.2.2.2.2.1 mo.2.2.2.2.2.2.2.2.2.2.2.2.2.2.2.1 mo.2.2.2.2.2.2.2.2.2.2.2.2.2.2.2.2.1 mo.2.2.2.2.2.2.2.2.2.2.2.2.2.2.2.2.2)) (As := [.int x1, .int 0]) (b := am 0) (st := [.int (x7 + x3)]) C0 (c_X8_wordPart l dC dI cI cJ cZ cO am N mo x1 0 r_27 hc_27) rfl 2 gX8_shareIn_X8_wordPart (by decide +kernel) ⟨Nat.le_of_ble_eq_true rfl, Nat.le_of_ble_eq_true rfl⟩ rfl 0 8 rfl rfl  Cut.all rfl (Nat.le_of_ble_eq_true rfl) dX8_shareIn_27 rfl ⟨Nat.zero_le _, Nat.zero_le _⟩ ?_
      refine V_icmp_gt (tgt := 86) C0 dX8_shareIn_30 (by decide) rfl (fun c30 => ?_) (fun c30 => ?_)
      · have hf := ite_t c30 hf
        exact V.sub [0, 5] rfl (hK x5 hf)
      · have hf := ite_f c30 hf
        refine V_lload C0 dX8_shareIn_33 5 rfl rfl ?_
        refine V_aload_n C0 dX8_shareIn_35 0 rfl rfl ?_
        refine V_iload_n C0 dX8_shareIn_36 1 rfl rfl ?_
        refine V_iload C0 dX8_shareIn_37 6 rfl rfl ?_
        refine V_iload_n C0 dX8_shareIn_39 3 rfl rfl ?_
        obtain ⟨r_40, hc_40, hf⟩ := bind_inv hf
        refine V_cVI (ws' := (W_M cI cJ cZ cO am mo.1 mo.2.1 mo.2.2.1 mo.2.2.2.1 mo.2.2.2.2.1 mo.2.2.2.2.2.1 mo.2.2.2.2.2.2.1 mo.2.2.2.2.2.2.2.1 mo.2.2.2.2.2.2.2.2.1 mo.2.2.2.2.2.2.2.2.2.1 mo.2.2.2.2.2.2.2.2.2.2.1 mo.2.2.2.2.2.2.2.2.2.2.2.1 mo.2.2.2.2.2.2.2.2.2.2.2.2.1 mo.2.2.2.2.2.2.2.2.2.2.2.2.2.1 mo.2.2.2.2.2.2.2.2.2.2.2.2.2.2.1 mo.2.2.2.2.2.2.2.2.2.2.2.2.2.2.2.1 mo.2.2.2.2.2.2.2.2.2.2.2.2.2.2.2.2.1 mo.2.2.2.2.2.2.2.2.2.2.2.2.2.2.2.2.2)) (As := [.int x1, .int x7, .int x3]) (b := am 0) (st := [.long x5]) C0 (c_X8_textIn l dC dI cI cJ cZ cO am N mo x1 x7 x3 r_40 hc_40) rfl 3 gX8_shareIn_X8_textIn (by decide +kernel) ⟨Nat.le_of_ble_eq_true rfl, Nat.le_of_ble_eq_true rfl⟩ rfl 0 8 rfl rfl  Cut.all rfl (Nat.le_of_ble_eq_true rfl) dX8_shareIn_40 rfl ⟨Nat.zero_le _, Nat.zero_le _⟩ ?_
        refine V_iload C0 dX8_shareIn_43 4 rfl rfl ?_
        refine V_icmp_ne (tgt := 76) C0 dX8_shareIn_45 (by decide) rfl (fun c45 => ?_) (fun c45 => ?_)
        · have hf := ite_f c45 hf
          refine V_lconst (v := 0) C0 dX8_shareIn_76 (by decide) rfl ?_
          refine V_ladd C0 dX8_shareIn_77 rfl ?_
          refine V_lstore (lv' := [(5, .long (x5 + 0)), (0, .ref (am 0)), (1, .int x1), (2, .int x2), (3, .int x3), (4, .int x4), (7, .int x7)]) C0 dX8_shareIn_78 (by decide) rfl rfl ?_
          refine V_iinc (k := 6) (v := x7 + 1) (lv' := [(7, .int (x7 + 1)), (5, .long (x5 + 0)), (0, .ref (am 0)), (1, .int x1), (2, .int x2), (3, .int x3), (4, .int x4)]) C0 dX8_shareIn_80 rfl rfl (by decide) rfl rfl ?_
          refine V_goto (tgt := 20) C0 dX8_shareIn_83 (by decide) ?_
          exact V.sub [2, 3, 4, 5, 6, 1, 0] rfl (hREC (x5 + 0) (x7 + 1) hf)
        · have hf := ite_t c45 hf
          refine V_aload_n C0 dX8_shareIn_48 0 rfl rfl ?_
          refine V_get C0 fl_X8_shareIn_38 0 rfl rfl dX8_shareIn_49 rfl ?_
          refine V_iload C0 dX8_shareIn_52 6 rfl rfl ?_
          obtain ⟨hi54, hf⟩ := ck_inv hf
          refine V_lald C0 10 1 rfl rfl hi54 dX8_shareIn_54 rfl ?_
          refine V_aload_n C0 dX8_shareIn_55 0 rfl rfl ?_
          refine V_iload_n C0 dX8_shareIn_56 2 rfl rfl ?_
          refine V_iconst (v := 1) C0 dX8_shareIn_57 (by decide) rfl ?_
          obtain ⟨r_58, hc_58, hf⟩ := bind_inv hf
          refine V_cVI (ws' := (W_M cI cJ cZ cO am mo.1 mo.2.1 mo.2.2.1 mo.2.2.2.1 mo.2.2.2.2.1 mo.2.2.2.2.2.1 mo.2.2.2.2.2.2.1 mo.2.2.2.2.2.2.2.1 mo.2.2.2.2.2.2.2.2.1 mo.2.2.2.2.2.2.2.2.2.1 mo.2.2.2.2.2.2.2.2.2.2.1 mo.2.2.2.2.2.2.2.2.2.2.2.1 mo.2.2.2.2.2.2.2.2.2.2.2.2.1 mo.2.2.2.2.2.2.2.2.2.2.2.2.2.1 mo.2.2.2.2.2.2.2.2.2.2.2.2.2.2.1 mo.2.2.2.2.2.2.2.2.2.2.2.2.2.2.2.1 mo.2.2.2.2.2.2.2.2.2.2.2.2.2.2.2.2.1 mo.2.2.2.2.2.2.2.2.2.2.2.2.2.2.2.2.2)) (As := [.int x2, .int 1]) (b := am 0) (st := [.long (mo.2.2.2.2.2.2.2.2.2.2.2.1 (x7.toNatClampNeg)), .long x5]) C0 (c_X8_piecePart l dC dI cI cJ cZ cO am N mo x2 1 r_58 hc_58) rfl 2 gX8_shareIn_X8_piecePart (by decide +kernel) ⟨Nat.le_of_ble_eq_true rfl, Nat.le_of_ble_eq_true rfl⟩ rfl 0 8 rfl rfl  Cut.all rfl (Nat.le_of_ble_eq_true rfl) dX8_shareIn_58 rfl ⟨Nat.zero_le _, Nat.zero_le _⟩ ?_
          refine V_i2l C0 dX8_shareIn_61 rfl ?_
          refine V_lmul C0 dX8_shareIn_62 rfl ?_
          refine V_aload_n C0 dX8_shareIn_63 0 rfl rfl ?_
          refine V_get C0 fl_X8_shareIn_41 0 rfl rfl dX8_shareIn_64 rfl ?_
          refine V_iload C0 dX8_shareIn_67 6 rfl rfl ?_
          refine V_iload_n C0 dX8_shareIn_69 3 rfl rfl ?_
          refine V_iadd C0 dX8_shareIn_70 rfl ?_
          obtain ⟨hi71, hf⟩ := ck_inv hf
          refine V_lald C0 11 1 rfl rfl hi71 dX8_shareIn_71 rfl ?_
          refine V_lmul C0 dX8_shareIn_72 rfl ?_
          refine V_goto (tgt := 77) C0 dX8_shareIn_73 (by decide) ?_
          refine V_ladd C0 dX8_shareIn_77 rfl ?_
          refine V_topl (fun x5_1 ex5_1 => ?_)
          have hf := bd_inv ex5_1 hf
          refine V_lstore (lv' := [(5, .long x5_1), (0, .ref (am 0)), (1, .int x1), (2, .int x2), (3, .int x3), (4, .int x4), (7, .int x7)]) C0 dX8_shareIn_78 (by decide) rfl rfl ?_
          refine V_iinc (k := 6) (v := x7 + 1) (lv' := [(7, .int (x7 + 1)), (5, .long x5_1), (0, .ref (am 0)), (1, .int x1), (2, .int x2), (3, .int x3), (4, .int x4)]) C0 dX8_shareIn_80 rfl rfl (by decide) rfl rfl ?_
          refine V_goto (tgt := 20) C0 dX8_shareIn_83 (by decide) ?_
          exact V.sub [2, 3, 4, 5, 6, 1, 0] rfl (hREC x5_1 (x7 + 1) hf)
  refine V.sub [4, 5, 6, 3, 2, 1, 0] rfl (hL20 r_3 r_9 _ ?_ N 0 0 hf)
  intro x5_20 hf
  refine V_ldc2 (v := 1000) C0 dX8_shareIn_86 (by decide +kernel) rfl ?_
  refine V_lload C0 dX8_shareIn_89 1 rfl rfl ?_
  refine V_lmul C0 dX8_shareIn_91 rfl ?_
  refine V_aload_n C0 dX8_shareIn_92 0 rfl rfl ?_
  refine V_get C0 fl_X8_shareIn_41 0 rfl rfl dX8_shareIn_93 rfl ?_
  refine V_iconst (v := 0) C0 dX8_shareIn_96 (by decide) rfl ?_
  obtain ⟨hi97, hf⟩ := ck_inv hf
  refine V_lald C0 11 1 rfl rfl hi97 dX8_shareIn_97 rfl ?_
  obtain ⟨hz98, hf⟩ := nzL_inv hf
  refine V_ldiv C0 dX8_shareIn_98 hz98 rfl ?_
  refine V_l2i C0 dX8_shareIn_99 rfl ?_
  obtain rfl := some_inv hf
  exact V_iret C0 () rfl rfl dX8_shareIn_100
abbrev RM_X8_cutsOf : Room := { frames := 4, cells := 0, slots := 0, locals := 92 }
theorem in_X8_cutsOf_X8 : ∀ w ∈ u_ws RX8 TX8 18, w ∈ wsX8_cutsOf := by decide +kernel
theorem fl_X8_cutsOf_41 : FL RX8 wsX8_cutsOf 8 41 12 RX8 TX8 18 := ⟨in_X8_cutsOf_X8, rfl, by decide, by decide +kernel, rfl⟩
set_option maxRecDepth 100000 in
set_option maxHeartbeats 4000000 in
theorem c_X8_cutsOf (l : Launch) (dC : Nat → ClassId) (dI : Nat → Nat → Nat) (cI cJ cZ cO : ClassId) (am : Nat → Nat) (N : Nat) (mo : MV) (x1 : Int32) (o : Int32 × MV) (hf : f_X8_cutsOf N mo x1 = some o) : MetI l yX8_cutsOf wsX8_cutsOf RM_X8_cutsOf (dC, dI) (TY cI cJ cZ cO) [.ref (am 0), .int x1] (W_M cI cJ cZ cO am mo.1 mo.2.1 mo.2.2.1 mo.2.2.2.1 mo.2.2.2.2.1 mo.2.2.2.2.2.1 mo.2.2.2.2.2.2.1 mo.2.2.2.2.2.2.2.1 mo.2.2.2.2.2.2.2.2.1 mo.2.2.2.2.2.2.2.2.2.1 mo.2.2.2.2.2.2.2.2.2.2.1 mo.2.2.2.2.2.2.2.2.2.2.2.1 mo.2.2.2.2.2.2.2.2.2.2.2.2.1 mo.2.2.2.2.2.2.2.2.2.2.2.2.2.1 mo.2.2.2.2.2.2.2.2.2.2.2.2.2.2.1 mo.2.2.2.2.2.2.2.2.2.2.2.2.2.2.2.1 mo.2.2.2.2.2.2.2.2.2.2.2.2.2.2.2.2.1 mo.2.2.2.2.2.2.2.2.2.2.2.2.2.2.2.2.2) (fun r (_ : Unit) => r = o.1) (fun _ => (W_M cI cJ cZ cO am o.2.1 o.2.2.1 o.2.2.2.1 o.2.2.2.2.1 o.2.2.2.2.2.1 o.2.2.2.2.2.2.1 o.2.2.2.2.2.2.2.1 o.2.2.2.2.2.2.2.2.1 o.2.2.2.2.2.2.2.2.2.1 o.2.2.2.2.2.2.2.2.2.2.1 o.2.2.2.2.2.2.2.2.2.2.2.1 o.2.2.2.2.2.2.2.2.2.2.2.2.1 o.2.2.2.2.2.2.2.2.2.2.2.2.2.1 o.2.2.2.2.2.2.2.2.2.2.2.2.2.2.1 o.2.2.2.2.2.2.2.2.2.2.2.2.2.2.2.1 o.2.2.2.2.2.2.2.2.2.2.2.2.2.2.2.2.1 o.2.2.2.2.2.2.2.2.2.2.2.2.2.2.2.2.2.1 o.2.2.2.2.2.2.2.2.2.2.2.2.2.2.2.2.2.2)) := by
  refine MetI.ofV (cc := cX8_cutsOf) (maxL := 5) (ret := (some .int)) (own := RX8) (lv0 := [(0, .ref (am 0)), (1, .int x1)]) (by decide) rfl rfl (Nat.le_of_ble_eq_true rfl) rfl ?_
  intro p e s m below meth c A C0 _
  unfold f_X8_cutsOf at hf
  refine V_aload_n C0 dX8_cutsOf_0 0 rfl rfl ?_
  refine V_iload_n C0 dX8_cutsOf_1 1 rfl rfl ?_
  refine V_iconst (v := 0) C0 dX8_cutsOf_2 (by decide) rfl ?_
  obtain ⟨r_3, hc_3, hf⟩ := bind_inv hf
  refine V_cVI (ws' := (W_M cI cJ cZ cO am mo.1 mo.2.1 mo.2.2.1 mo.2.2.2.1 mo.2.2.2.2.1 mo.2.2.2.2.2.1 mo.2.2.2.2.2.2.1 mo.2.2.2.2.2.2.2.1 mo.2.2.2.2.2.2.2.2.1 mo.2.2.2.2.2.2.2.2.2.1 mo.2.2.2.2.2.2.2.2.2.2.1 mo.2.2.2.2.2.2.2.2.2.2.2.1 mo.2.2.2.2.2.2.2.2.2.2.2.2.1 mo.2.2.2.2.2.2.2.2.2.2.2.2.2.1 mo.2.2.2.2.2.2.2.2.2.2.2.2.2.2.1 mo.2.2.2.2.2.2.2.2.2.2.2.2.2.2.2.1 mo.2.2.2.2.2.2.2.2.2.2.2.2.2.2.2.2.1 mo.2.2.2.2.2.2.2.2.2.2.2.2.2.2.2.2.2)) (As := [.int x1, .int 0]) (b := am 0) (st := []) C0 (c_X8_wordPart l dC dI cI cJ cZ cO am N mo x1 0 r_3 hc_3) rfl 2 gX8_cutsOf_X8_wordPart (by decide +kernel) ⟨Nat.le_of_ble_eq_true rfl, Nat.le_of_ble_eq_true rfl⟩ rfl 0 8 rfl rfl  Cut.all rfl (Nat.le_of_ble_eq_true rfl) dX8_cutsOf_3 rfl ⟨Nat.zero_le _, Nat.zero_le _⟩ ?_
  refine V_istore_n (lv' := [(2, .int r_3), (0, .ref (am 0)), (1, .int x1)]) C0 dX8_cutsOf_6 rfl (by decide) rfl rfl ?_
  refine V_iconst (v := 0) C0 dX8_cutsOf_7 (by decide) rfl ?_
  refine V_istore_n (lv' := [(3, .int 0), (2, .int r_3), (0, .ref (am 0)), (1, .int x1)]) C0 dX8_cutsOf_8 rfl (by decide) rfl rfl ?_
  have hL9 : ∀ (x2 : Int32) (K : MV → Option (Int32 × MV)), (∀ (mo : MV), K mo = some o → V p l e RM_X8_cutsOf s m ([.ref (am 0), .int x1] : List Value).toArray below meth c 5 (dC, dI) A (MQ below (va_Qi (fun r (_ : Unit) => r = o.1) (PostW (dC, dI) (TY cI cJ cZ cO) A (fun _ => (W_M cI cJ cZ cO am o.2.1 o.2.2.1 o.2.2.2.1 o.2.2.2.2.1 o.2.2.2.2.2.1 o.2.2.2.2.2.2.1 o.2.2.2.2.2.2.2.1 o.2.2.2.2.2.2.2.2.1 o.2.2.2.2.2.2.2.2.2.1 o.2.2.2.2.2.2.2.2.2.2.1 o.2.2.2.2.2.2.2.2.2.2.2.1 o.2.2.2.2.2.2.2.2.2.2.2.2.1 o.2.2.2.2.2.2.2.2.2.2.2.2.2.1 o.2.2.2.2.2.2.2.2.2.2.2.2.2.2.1 o.2.2.2.2.2.2.2.2.2.2.2.2.2.2.2.1 o.2.2.2.2.2.2.2.2.2.2.2.2.2.2.2.2.1 o.2.2.2.2.2.2.2.2.2.2.2.2.2.2.2.2.2.1 o.2.2.2.2.2.2.2.2.2.2.2.2.2.2.2.2.2.2))) A) ([.ref (am 0), .int x1] : List Value).toArray s 0 0 A) 0 0 (W_M cI cJ cZ cO am mo.1 mo.2.1 mo.2.2.1 mo.2.2.2.1 mo.2.2.2.2.1 mo.2.2.2.2.2.1 mo.2.2.2.2.2.2.1 mo.2.2.2.2.2.2.2.1 mo.2.2.2.2.2.2.2.2.1 mo.2.2.2.2.2.2.2.2.2.1 mo.2.2.2.2.2.2.2.2.2.2.1 mo.2.2.2.2.2.2.2.2.2.2.2.1 mo.2.2.2.2.2.2.2.2.2.2.2.2.1 mo.2.2.2.2.2.2.2.2.2.2.2.2.2.1 mo.2.2.2.2.2.2.2.2.2.2.2.2.2.2.1 mo.2.2.2.2.2.2.2.2.2.2.2.2.2.2.2.1 mo.2.2.2.2.2.2.2.2.2.2.2.2.2.2.2.2.1 mo.2.2.2.2.2.2.2.2.2.2.2.2.2.2.2.2.2) 36 [(0, .ref (am 0)), (1, .int x1), (2, .int x2)] []) → ∀ (n : Nat) (x3 : Int32) (mo : MV), f_X8_cutsOf_L9 N x1 x2 K n x3 mo = some o → V p l e RM_X8_cutsOf s m ([.ref (am 0), .int x1] : List Value).toArray below meth c 5 (dC, dI) A (MQ below (va_Qi (fun r (_ : Unit) => r = o.1) (PostW (dC, dI) (TY cI cJ cZ cO) A (fun _ => (W_M cI cJ cZ cO am o.2.1 o.2.2.1 o.2.2.2.1 o.2.2.2.2.1 o.2.2.2.2.2.1 o.2.2.2.2.2.2.1 o.2.2.2.2.2.2.2.1 o.2.2.2.2.2.2.2.2.1 o.2.2.2.2.2.2.2.2.2.1 o.2.2.2.2.2.2.2.2.2.2.1 o.2.2.2.2.2.2.2.2.2.2.2.1 o.2.2.2.2.2.2.2.2.2.2.2.2.1 o.2.2.2.2.2.2.2.2.2.2.2.2.2.1 o.2.2.2.2.2.2.2.2.2.2.2.2.2.2.1 o.2.2.2.2.2.2.2.2.2.2.2.2.2.2.2.1 o.2.2.2.2.2.2.2.2.2.2.2.2.2.2.2.2.1 o.2.2.2.2.2.2.2.2.2.2.2.2.2.2.2.2.2.1 o.2.2.2.2.2.2.2.2.2.2.2.2.2.2.2.2.2.2))) A) ([.ref (am 0), .int x1] : List Value).toArray s 0 0 A) 0 0 (W_M cI cJ cZ cO am mo.1 mo.2.1 mo.2.2.1 mo.2.2.2.1 mo.2.2.2.2.1 mo.2.2.2.2.2.1 mo.2.2.2.2.2.2.1 mo.2.2.2.2.2.2.2.1 mo.2.2.2.2.2.2.2.2.1 mo.2.2.2.2.2.2.2.2.2.1 mo.2.2.2.2.2.2.2.2.2.2.1 mo.2.2.2.2.2.2.2.2.2.2.2.1 mo.2.2.2.2.2.2.2.2.2.2.2.2.1 mo.2.2.2.2.2.2.2.2.2.2.2.2.2.1 mo.2.2.2.2.2.2.2.2.2.2.2.2.2.2.1 mo.2.2.2.2.2.2.2.2.2.2.2.2.2.2.2.1 mo.2.2.2.2.2.2.2.2.2.2.2.2.2.2.2.2.1 mo.2.2.2.2.2.2.2.2.2.2.2.2.2.2.2.2.2) 9 [(0, .ref (am 0)), (1, .int x1), (2, .int x2), (3, .int x3)] [] := by
    intro x2 K hK n
    induction n with
    | zero => intro x3 mo hf; cases hf
    | succ n hREC =>
      intro x3 mo hf
      rw [f_X8_cutsOf_L9] at hf
      refine V_iload_n C0 dX8_cutsOf_9 3 rfl rfl ?_
      refine V_iload_n C0 dX8_cutsOf_10 2 rfl rfl ?_
      refine V_icmp_gt (tgt := 36) C0 dX8_cutsOf_11 (by decide) rfl (fun c11 => ?_) (fun c11 => ?_)
      · have hf := ite_t c11 hf
        exact V.sub [0, 1, 2] rfl (hK mo hf)
      · have hf := ite_f c11 hf
        refine V_aload_n C0 dX8_cutsOf_14 0 rfl rfl ?_
        refine V_get C0 fl_X8_cutsOf_41 0 rfl rfl dX8_cutsOf_15 rfl ?_
        refine V_iload_n C0 dX8_cutsOf_18 3 rfl rfl ?_
        refine V_iload_n C0 dX8_cutsOf_19 3 rfl rfl ?_
        refine V_iload_n C0 dX8_cutsOf_20 2 rfl rfl ?_
        refine jn_elim hf (fun (J : Int64 → Option (Int32 × MV)) => ∀ (s2_29 : Int64), J s2_29 = some o → V p l e RM_X8_cutsOf s m ([.ref (am 0), .int x1] : List Value).toArray below meth c 5 (dC, dI) A (MQ below (va_Qi (fun r (_ : Unit) => r = o.1) (PostW (dC, dI) (TY cI cJ cZ cO) A (fun _ => (W_M cI cJ cZ cO am o.2.1 o.2.2.1 o.2.2.2.1 o.2.2.2.2.1 o.2.2.2.2.2.1 o.2.2.2.2.2.2.1 o.2.2.2.2.2.2.2.1 o.2.2.2.2.2.2.2.2.1 o.2.2.2.2.2.2.2.2.2.1 o.2.2.2.2.2.2.2.2.2.2.1 o.2.2.2.2.2.2.2.2.2.2.2.1 o.2.2.2.2.2.2.2.2.2.2.2.2.1 o.2.2.2.2.2.2.2.2.2.2.2.2.2.1 o.2.2.2.2.2.2.2.2.2.2.2.2.2.2.1 o.2.2.2.2.2.2.2.2.2.2.2.2.2.2.2.1 o.2.2.2.2.2.2.2.2.2.2.2.2.2.2.2.2.1 o.2.2.2.2.2.2.2.2.2.2.2.2.2.2.2.2.2.1 o.2.2.2.2.2.2.2.2.2.2.2.2.2.2.2.2.2.2))) A) ([.ref (am 0), .int x1] : List Value).toArray s 0 0 A) 0 0 (W_M cI cJ cZ cO am mo.1 mo.2.1 mo.2.2.1 mo.2.2.2.1 mo.2.2.2.2.1 mo.2.2.2.2.2.1 mo.2.2.2.2.2.2.1 mo.2.2.2.2.2.2.2.1 mo.2.2.2.2.2.2.2.2.1 mo.2.2.2.2.2.2.2.2.2.1 mo.2.2.2.2.2.2.2.2.2.2.1 mo.2.2.2.2.2.2.2.2.2.2.2.1 mo.2.2.2.2.2.2.2.2.2.2.2.2.1 mo.2.2.2.2.2.2.2.2.2.2.2.2.2.1 mo.2.2.2.2.2.2.2.2.2.2.2.2.2.2.1 mo.2.2.2.2.2.2.2.2.2.2.2.2.2.2.2.1 mo.2.2.2.2.2.2.2.2.2.2.2.2.2.2.2.2.1 mo.2.2.2.2.2.2.2.2.2.2.2.2.2.2.2.2.2) 29 [(0, .ref (am 0)), (1, .int x1), (2, .int x2), (3, .int x3)] [.long s2_29, .int x3, .ref (am 11)]) ?_ ?_
        · intro s2_29 hf
          obtain ⟨hi29, hf⟩ := ck_inv hf
          refine V_last (ws' := (W_M cI cJ cZ cO am mo.1 mo.2.1 mo.2.2.1 mo.2.2.2.1 mo.2.2.2.2.1 mo.2.2.2.2.2.1 mo.2.2.2.2.2.2.1 mo.2.2.2.2.2.2.2.1 mo.2.2.2.2.2.2.2.2.1 mo.2.2.2.2.2.2.2.2.2.1 mo.2.2.2.2.2.2.2.2.2.2.1 mo.2.2.2.2.2.2.2.2.2.2.2.1 (vp_updL mo.2.2.2.2.2.2.2.2.2.2.2.2.1 (x3.toNatClampNeg) s2_29) mo.2.2.2.2.2.2.2.2.2.2.2.2.2.1 mo.2.2.2.2.2.2.2.2.2.2.2.2.2.2.1 mo.2.2.2.2.2.2.2.2.2.2.2.2.2.2.2.1 mo.2.2.2.2.2.2.2.2.2.2.2.2.2.2.2.2.1 mo.2.2.2.2.2.2.2.2.2.2.2.2.2.2.2.2.2)) C0 11 1 rfl rfl hi29 dX8_cutsOf_29 rfl rfl ?_
          refine V_iinc (k := 3) (v := x3 + 1) (lv' := [(3, .int (x3 + 1)), (0, .ref (am 0)), (1, .int x1), (2, .int x2)]) C0 dX8_cutsOf_30 rfl rfl (by decide) rfl rfl ?_
          refine V_goto (tgt := 9) C0 dX8_cutsOf_33 (by decide) ?_
          exact V.sub [1, 2, 3, 0] rfl (hREC (x3 + 1) ((mo.1, mo.2.1, mo.2.2.1, mo.2.2.2.1, mo.2.2.2.2.1, mo.2.2.2.2.2.1, mo.2.2.2.2.2.2.1, mo.2.2.2.2.2.2.2.1, mo.2.2.2.2.2.2.2.2.1, mo.2.2.2.2.2.2.2.2.2.1, mo.2.2.2.2.2.2.2.2.2.2.1, mo.2.2.2.2.2.2.2.2.2.2.2.1, vp_updL mo.2.2.2.2.2.2.2.2.2.2.2.2.1 (x3.toNatClampNeg) s2_29, mo.2.2.2.2.2.2.2.2.2.2.2.2.2.1, mo.2.2.2.2.2.2.2.2.2.2.2.2.2.2.1, mo.2.2.2.2.2.2.2.2.2.2.2.2.2.2.2.1, mo.2.2.2.2.2.2.2.2.2.2.2.2.2.2.2.2.1, mo.2.2.2.2.2.2.2.2.2.2.2.2.2.2.2.2.2)) hf)
        · intro J29 hJ29 hf
          refine V_icmp_ne (tgt := 28) C0 dX8_cutsOf_21 (by decide) rfl (fun c21 => ?_) (fun c21 => ?_)
          · have hf := ite_f c21 hf
            refine V_lconst (v := 0) C0 dX8_cutsOf_28 (by decide) rfl ?_
            exact V.sub [0, 1, 2, 3] rfl (hJ29 0 hf)
          · have hf := ite_t c21 hf
            refine V_lconst (v := 1) C0 dX8_cutsOf_24 (by decide) rfl ?_
            refine V_goto (tgt := 29) C0 dX8_cutsOf_25 (by decide) ?_
            exact V.sub [0, 1, 2, 3] rfl (hJ29 1 hf)
  refine V.sub [2, 3, 1, 0] rfl (hL9 r_3 _ ?_ N 0 mo hf)
  intro mo_9 hf
  refine V_iload_n C0 dX8_cutsOf_36 2 rfl rfl ?_
  refine V_iconst (v := 1) C0 dX8_cutsOf_37 (by decide) rfl ?_
  refine V_isub C0 dX8_cutsOf_38 rfl ?_
  refine V_istore_n (lv' := [(3, .int (r_3 - 1)), (0, .ref (am 0)), (1, .int x1), (2, .int r_3)]) C0 dX8_cutsOf_39 rfl (by decide) rfl rfl ?_
  have hL40 : ∀ (K : MV → Option (Int32 × MV)), (∀ (mo : MV), K mo = some o → V p l e RM_X8_cutsOf s m ([.ref (am 0), .int x1] : List Value).toArray below meth c 5 (dC, dI) A (MQ below (va_Qi (fun r (_ : Unit) => r = o.1) (PostW (dC, dI) (TY cI cJ cZ cO) A (fun _ => (W_M cI cJ cZ cO am o.2.1 o.2.2.1 o.2.2.2.1 o.2.2.2.2.1 o.2.2.2.2.2.1 o.2.2.2.2.2.2.1 o.2.2.2.2.2.2.2.1 o.2.2.2.2.2.2.2.2.1 o.2.2.2.2.2.2.2.2.2.1 o.2.2.2.2.2.2.2.2.2.2.1 o.2.2.2.2.2.2.2.2.2.2.2.1 o.2.2.2.2.2.2.2.2.2.2.2.2.1 o.2.2.2.2.2.2.2.2.2.2.2.2.2.1 o.2.2.2.2.2.2.2.2.2.2.2.2.2.2.1 o.2.2.2.2.2.2.2.2.2.2.2.2.2.2.2.1 o.2.2.2.2.2.2.2.2.2.2.2.2.2.2.2.2.1 o.2.2.2.2.2.2.2.2.2.2.2.2.2.2.2.2.2.1 o.2.2.2.2.2.2.2.2.2.2.2.2.2.2.2.2.2.2))) A) ([.ref (am 0), .int x1] : List Value).toArray s 0 0 A) 0 0 (W_M cI cJ cZ cO am mo.1 mo.2.1 mo.2.2.1 mo.2.2.2.1 mo.2.2.2.2.1 mo.2.2.2.2.2.1 mo.2.2.2.2.2.2.1 mo.2.2.2.2.2.2.2.1 mo.2.2.2.2.2.2.2.2.1 mo.2.2.2.2.2.2.2.2.2.1 mo.2.2.2.2.2.2.2.2.2.2.1 mo.2.2.2.2.2.2.2.2.2.2.2.1 mo.2.2.2.2.2.2.2.2.2.2.2.2.1 mo.2.2.2.2.2.2.2.2.2.2.2.2.2.1 mo.2.2.2.2.2.2.2.2.2.2.2.2.2.2.1 mo.2.2.2.2.2.2.2.2.2.2.2.2.2.2.2.1 mo.2.2.2.2.2.2.2.2.2.2.2.2.2.2.2.2.1 mo.2.2.2.2.2.2.2.2.2.2.2.2.2.2.2.2.2) 103 [(0, .ref (am 0))] []) → ∀ (n : Nat) (x3 : Int32) (mo : MV), f_X8_cutsOf_L40 N x1  K n x3 mo = some o → V p l e RM_X8_cutsOf s m ([.ref (am 0), .int x1] : List Value).toArray below meth c 5 (dC, dI) A (MQ below (va_Qi (fun r (_ : Unit) => r = o.1) (PostW (dC, dI) (TY cI cJ cZ cO) A (fun _ => (W_M cI cJ cZ cO am o.2.1 o.2.2.1 o.2.2.2.1 o.2.2.2.2.1 o.2.2.2.2.2.1 o.2.2.2.2.2.2.1 o.2.2.2.2.2.2.2.1 o.2.2.2.2.2.2.2.2.1 o.2.2.2.2.2.2.2.2.2.1 o.2.2.2.2.2.2.2.2.2.2.1 o.2.2.2.2.2.2.2.2.2.2.2.1 o.2.2.2.2.2.2.2.2.2.2.2.2.1 o.2.2.2.2.2.2.2.2.2.2.2.2.2.1 o.2.2.2.2.2.2.2.2.2.2.2.2.2.2.1 o.2.2.2.2.2.2.2.2.2.2.2.2.2.2.2.1 o.2.2.2.2.2.2.2.2.2.2.2.2.2.2.2.2.1 o.2.2.2.2.2.2.2.2.2.2.2.2.2.2.2.2.2.1 o.2.2.2.2.2.2.2.2.2.2.2.2.2.2.2.2.2.2))) A) ([.ref (am 0), .int x1] : List Value).toArray s 0 0 A) 0 0 (W_M cI cJ cZ cO am mo.1 mo.2.1 mo.2.2.1 mo.2.2.2.1 mo.2.2.2.2.1 mo.2.2.2.2.2.1 mo.2.2.2.2.2.2.1 mo.2.2.2.2.2.2.2.1 mo.2.2.2.2.2.2.2.2.1 mo.2.2.2.2.2.2.2.2.2.1 mo.2.2.2.2.2.2.2.2.2.2.1 mo.2.2.2.2.2.2.2.2.2.2.2.1 mo.2.2.2.2.2.2.2.2.2.2.2.2.1 mo.2.2.2.2.2.2.2.2.2.2.2.2.2.1 mo.2.2.2.2.2.2.2.2.2.2.2.2.2.2.1 mo.2.2.2.2.2.2.2.2.2.2.2.2.2.2.2.1 mo.2.2.2.2.2.2.2.2.2.2.2.2.2.2.2.2.1 mo.2.2.2.2.2.2.2.2.2.2.2.2.2.2.2.2.2) 40 [(0, .ref (am 0)), (1, .int x1), (3, .int x3)] [] := by
    intro  K hK n
    induction n with
    | zero => intro x3 mo hf; cases hf
    | succ n hREC =>
      intro x3 mo hf
      rw [f_X8_cutsOf_L40] at hf
      refine V_iload_n C0 dX8_cutsOf_40 2 rfl rfl ?_
      refine V_if_lt (tgt := 103) C0 dX8_cutsOf_41 (by decide) rfl (fun c41 => ?_) (fun c41 => ?_)
      · have hf := ite_t c41 hf
        exact V.sub [0] rfl (hK mo hf)
      · have hf := ite_f c41 hf
        refine V_iconst (v := 1) C0 dX8_cutsOf_44 (by decide) rfl ?_
        refine V_istore (lv' := [(4, .int 1), (0, .ref (am 0)), (1, .int x1), (3, .int x3)]) C0 dX8_cutsOf_45 (by decide) rfl rfl ?_
        have hL47 : ∀ (x3 : Int32) (K : MV → Option (Int32 × MV)), (∀ (mo : MV), K mo = some o → V p l e RM_X8_cutsOf s m ([.ref (am 0), .int x1] : List Value).toArray below meth c 5 (dC, dI) A (MQ below (va_Qi (fun r (_ : Unit) => r = o.1) (PostW (dC, dI) (TY cI cJ cZ cO) A (fun _ => (W_M cI cJ cZ cO am o.2.1 o.2.2.1 o.2.2.2.1 o.2.2.2.2.1 o.2.2.2.2.2.1 o.2.2.2.2.2.2.1 o.2.2.2.2.2.2.2.1 o.2.2.2.2.2.2.2.2.1 o.2.2.2.2.2.2.2.2.2.1 o.2.2.2.2.2.2.2.2.2.2.1 o.2.2.2.2.2.2.2.2.2.2.2.1 o.2.2.2.2.2.2.2.2.2.2.2.2.1 o.2.2.2.2.2.2.2.2.2.2.2.2.2.1 o.2.2.2.2.2.2.2.2.2.2.2.2.2.2.1 o.2.2.2.2.2.2.2.2.2.2.2.2.2.2.2.1 o.2.2.2.2.2.2.2.2.2.2.2.2.2.2.2.2.1 o.2.2.2.2.2.2.2.2.2.2.2.2.2.2.2.2.2.1 o.2.2.2.2.2.2.2.2.2.2.2.2.2.2.2.2.2.2))) A) ([.ref (am 0), .int x1] : List Value).toArray s 0 0 A) 0 0 (W_M cI cJ cZ cO am mo.1 mo.2.1 mo.2.2.1 mo.2.2.2.1 mo.2.2.2.2.1 mo.2.2.2.2.2.1 mo.2.2.2.2.2.2.1 mo.2.2.2.2.2.2.2.1 mo.2.2.2.2.2.2.2.2.1 mo.2.2.2.2.2.2.2.2.2.1 mo.2.2.2.2.2.2.2.2.2.2.1 mo.2.2.2.2.2.2.2.2.2.2.2.1 mo.2.2.2.2.2.2.2.2.2.2.2.2.1 mo.2.2.2.2.2.2.2.2.2.2.2.2.2.1 mo.2.2.2.2.2.2.2.2.2.2.2.2.2.2.1 mo.2.2.2.2.2.2.2.2.2.2.2.2.2.2.2.1 mo.2.2.2.2.2.2.2.2.2.2.2.2.2.2.2.2.1 mo.2.2.2.2.2.2.2.2.2.2.2.2.2.2.2.2.2) 97 [(0, .ref (am 0)), (1, .int x1), (3, .int x3)] []) → ∀ (n : Nat) (x4 : Int32) (mo : MV), f_X8_cutsOf_L47 N x1 x3 K n x4 mo = some o → V p l e RM_X8_cutsOf s m ([.ref (am 0), .int x1] : List Value).toArray below meth c 5 (dC, dI) A (MQ below (va_Qi (fun r (_ : Unit) => r = o.1) (PostW (dC, dI) (TY cI cJ cZ cO) A (fun _ => (W_M cI cJ cZ cO am o.2.1 o.2.2.1 o.2.2.2.1 o.2.2.2.2.1 o.2.2.2.2.2.1 o.2.2.2.2.2.2.1 o.2.2.2.2.2.2.2.1 o.2.2.2.2.2.2.2.2.1 o.2.2.2.2.2.2.2.2.2.1 o.2.2.2.2.2.2.2.2.2.2.1 o.2.2.2.2.2.2.2.2.2.2.2.1 o.2.2.2.2.2.2.2.2.2.2.2.2.1 o.2.2.2.2.2.2.2.2.2.2.2.2.2.1 o.2.2.2.2.2.2.2.2.2.2.2.2.2.2.1 o.2.2.2.2.2.2.2.2.2.2.2.2.2.2.2.1 o.2.2.2.2.2.2.2.2.2.2.2.2.2.2.2.2.1 o.2.2.2.2.2.2.2.2.2.2.2.2.2.2.2.2.2.1 o.2.2.2.2.2.2.2.2.2.2.2.2.2.2.2.2.2.2))) A) ([.ref (am 0), .int x1] : List Value).toArray s 0 0 A) 0 0 (W_M cI cJ cZ cO am mo.1 mo.2.1 mo.2.2.1 mo.2.2.2.1 mo.2.2.2.2.1 mo.2.2.2.2.2.1 mo.2.2.2.2.2.2.1 mo.2.2.2.2.2.2.2.1 mo.2.2.2.2.2.2.2.2.1 mo.2.2.2.2.2.2.2.2.2.1 mo.2.2.2.2.2.2.2.2.2.2.1 mo.2.2.2.2.2.2.2.2.2.2.2.1 mo.2.2.2.2.2.2.2.2.2.2.2.2.1 mo.2.2.2.2.2.2.2.2.2.2.2.2.2.1 mo.2.2.2.2.2.2.2.2.2.2.2.2.2.2.1 mo.2.2.2.2.2.2.2.2.2.2.2.2.2.2.2.1 mo.2.2.2.2.2.2.2.2.2.2.2.2.2.2.2.2.1 mo.2.2.2.2.2.2.2.2.2.2.2.2.2.2.2.2.2) 47 [(0, .ref (am 0)), (1, .int x1), (3, .int x3), (4, .int x4)] [] := by
          intro x3 K hK n
          induction n with
          | zero => intro x4 mo hf; cases hf
          | succ n hREC =>
            intro x4 mo hf
            rw [f_X8_cutsOf_L47] at hf
            refine V_iload C0 dX8_cutsOf_47 3 rfl rfl ?_
            refine V_aload_n C0 dX8_cutsOf_49 0 rfl rfl ?_
            refine V_iload_n C0 dX8_cutsOf_50 1 rfl rfl ?_
            refine V_iload_n C0 dX8_cutsOf_51 2 rfl rfl ?_
            obtain ⟨r_52, hc_52, hf⟩ := bind_inv hf
            refine V_cVI (ws' := (W_M cI cJ cZ cO am mo.1 mo.2.1 mo.2.2.1 mo.2.2.2.1 mo.2.2.2.2.1 mo.2.2.2.2.2.1 mo.2.2.2.2.2.2.1 mo.2.2.2.2.2.2.2.1 mo.2.2.2.2.2.2.2.2.1 mo.2.2.2.2.2.2.2.2.2.1 mo.2.2.2.2.2.2.2.2.2.2.1 mo.2.2.2.2.2.2.2.2.2.2.2.1 mo.2.2.2.2.2.2.2.2.2.2.2.2.1 mo.2.2.2.2.2.2.2.2.2.2.2.2.2.1 mo.2.2.2.2.2.2.2.2.2.2.2.2.2.2.1 mo.2.2.2.2.2.2.2.2.2.2.2.2.2.2.2.1 mo.2.2.2.2.2.2.2.2.2.2.2.2.2.2.2.2.1 mo.2.2.2.2.2.2.2.2.2.2.2.2.2.2.2.2.2)) (As := [.int x1, .int x3]) (b := am 0) (st := [.int x4]) C0 (c_X8_longestAt l dC dI cI cJ cZ cO am N mo x1 x3 r_52 hc_52) rfl 2 gX8_cutsOf_X8_longestAt (by decide +kernel) ⟨Nat.le_of_ble_eq_true rfl, Nat.le_of_ble_eq_true rfl⟩ rfl 0 8 rfl rfl  Cut.all rfl (Nat.le_of_ble_eq_true rfl) dX8_cutsOf_52 rfl ⟨Nat.zero_le _, Nat.zero_le _⟩ ?_
            refine V_icmp_gt (tgt := 97) C0 dX8_cutsOf_55 (by decide) rfl (fun c55 => ?_) (fun c55 => ?_)
            · have hf := ite_t c55 hf
              exact V.sub [0, 1, 2] rfl (hK mo hf)
            · have hf := ite_f c55 hf
              refine V_aload_n C0 dX8_cutsOf_58 0 rfl rfl ?_
              refine V_get C0 fl_X8_cutsOf_41 0 rfl rfl dX8_cutsOf_59 rfl ?_
              refine V_iload_n C0 dX8_cutsOf_62 2 rfl rfl ?_
              refine V_dup2_11 C0 dX8_cutsOf_63 rfl rfl rfl ?_
              obtain ⟨hi64, hf⟩ := ck_inv hf
              refine V_lald C0 11 1 rfl rfl hi64 dX8_cutsOf_64 rfl ?_
              refine V_aload_n C0 dX8_cutsOf_65 0 rfl rfl ?_
              refine V_iload_n C0 dX8_cutsOf_66 1 rfl rfl ?_
              refine V_iload_n C0 dX8_cutsOf_67 2 rfl rfl ?_
              refine V_iload C0 dX8_cutsOf_68 3 rfl rfl ?_
              obtain ⟨r_70, hc_70, hf⟩ := bind_inv hf
              refine V_cVI (ws' := (W_M cI cJ cZ cO am mo.1 mo.2.1 mo.2.2.1 mo.2.2.2.1 mo.2.2.2.2.1 mo.2.2.2.2.2.1 mo.2.2.2.2.2.2.1 mo.2.2.2.2.2.2.2.1 mo.2.2.2.2.2.2.2.2.1 mo.2.2.2.2.2.2.2.2.2.1 mo.2.2.2.2.2.2.2.2.2.2.1 mo.2.2.2.2.2.2.2.2.2.2.2.1 mo.2.2.2.2.2.2.2.2.2.2.2.2.1 mo.2.2.2.2.2.2.2.2.2.2.2.2.2.1 mo.2.2.2.2.2.2.2.2.2.2.2.2.2.2.1 mo.2.2.2.2.2.2.2.2.2.2.2.2.2.2.2.1 mo.2.2.2.2.2.2.2.2.2.2.2.2.2.2.2.2.1 mo.2.2.2.2.2.2.2.2.2.2.2.2.2.2.2.2.2)) (As := [.int x1, .int x3, .int x4]) (b := am 0) (st := [.long (mo.2.2.2.2.2.2.2.2.2.2.2.2.1 (x3.toNatClampNeg)), .int x3, .ref (am 11)]) C0 (c_X8_weightIn l dC dI cI cJ cZ cO am N mo x1 x3 x4 r_70 hc_70) rfl 3 gX8_cutsOf_X8_weightIn (by decide +kernel) ⟨Nat.le_of_ble_eq_true rfl, Nat.le_of_ble_eq_true rfl⟩ rfl 0 8 rfl rfl  Cut.all rfl (Nat.le_of_ble_eq_true rfl) dX8_cutsOf_70 rfl ⟨Nat.zero_le _, Nat.zero_le _⟩ ?_
              refine jn_elim hf (fun (J : Int64 → Option (Int32 × MV)) => ∀ (s3_89 : Int64), J s3_89 = some o → V p l e RM_X8_cutsOf s m ([.ref (am 0), .int x1] : List Value).toArray below meth c 5 (dC, dI) A (MQ below (va_Qi (fun r (_ : Unit) => r = o.1) (PostW (dC, dI) (TY cI cJ cZ cO) A (fun _ => (W_M cI cJ cZ cO am o.2.1 o.2.2.1 o.2.2.2.1 o.2.2.2.2.1 o.2.2.2.2.2.1 o.2.2.2.2.2.2.1 o.2.2.2.2.2.2.2.1 o.2.2.2.2.2.2.2.2.1 o.2.2.2.2.2.2.2.2.2.1 o.2.2.2.2.2.2.2.2.2.2.1 o.2.2.2.2.2.2.2.2.2.2.2.1 o.2.2.2.2.2.2.2.2.2.2.2.2.1 o.2.2.2.2.2.2.2.2.2.2.2.2.2.1 o.2.2.2.2.2.2.2.2.2.2.2.2.2.2.1 o.2.2.2.2.2.2.2.2.2.2.2.2.2.2.2.1 o.2.2.2.2.2.2.2.2.2.2.2.2.2.2.2.2.1 o.2.2.2.2.2.2.2.2.2.2.2.2.2.2.2.2.2.1 o.2.2.2.2.2.2.2.2.2.2.2.2.2.2.2.2.2.2))) A) ([.ref (am 0), .int x1] : List Value).toArray s 0 0 A) 0 0 (W_M cI cJ cZ cO am mo.1 mo.2.1 mo.2.2.1 mo.2.2.2.1 mo.2.2.2.2.1 mo.2.2.2.2.2.1 mo.2.2.2.2.2.2.1 mo.2.2.2.2.2.2.2.1 mo.2.2.2.2.2.2.2.2.1 mo.2.2.2.2.2.2.2.2.2.1 mo.2.2.2.2.2.2.2.2.2.2.1 mo.2.2.2.2.2.2.2.2.2.2.2.1 mo.2.2.2.2.2.2.2.2.2.2.2.2.1 mo.2.2.2.2.2.2.2.2.2.2.2.2.2.1 mo.2.2.2.2.2.2.2.2.2.2.2.2.2.2.1 mo.2.2.2.2.2.2.2.2.2.2.2.2.2.2.2.1 mo.2.2.2.2.2.2.2.2.2.2.2.2.2.2.2.2.1 mo.2.2.2.2.2.2.2.2.2.2.2.2.2.2.2.2.2) 89 [(0, .ref (am 0)), (1, .int x1), (3, .int x3), (4, .int x4)] [.long s3_89, .long (mo.2.2.2.2.2.2.2.2.2.2.2.2.1 (x3.toNatClampNeg)), .int x3, .ref (am 11)]) ?_ ?_
              · intro s3_89 hf
                refine V_ladd C0 dX8_cutsOf_89 rfl ?_
                obtain ⟨hi90, hf⟩ := ck_inv hf
                refine V_last (ws' := (W_M cI cJ cZ cO am mo.1 mo.2.1 mo.2.2.1 mo.2.2.2.1 mo.2.2.2.2.1 mo.2.2.2.2.2.1 mo.2.2.2.2.2.2.1 mo.2.2.2.2.2.2.2.1 mo.2.2.2.2.2.2.2.2.1 mo.2.2.2.2.2.2.2.2.2.1 mo.2.2.2.2.2.2.2.2.2.2.1 mo.2.2.2.2.2.2.2.2.2.2.2.1 (vp_updL mo.2.2.2.2.2.2.2.2.2.2.2.2.1 (x3.toNatClampNeg) ((mo.2.2.2.2.2.2.2.2.2.2.2.2.1 (x3.toNatClampNeg)) + s3_89)) mo.2.2.2.2.2.2.2.2.2.2.2.2.2.1 mo.2.2.2.2.2.2.2.2.2.2.2.2.2.2.1 mo.2.2.2.2.2.2.2.2.2.2.2.2.2.2.2.1 mo.2.2.2.2.2.2.2.2.2.2.2.2.2.2.2.2.1 mo.2.2.2.2.2.2.2.2.2.2.2.2.2.2.2.2.2)) C0 11 1 rfl rfl hi90 dX8_cutsOf_90 rfl rfl ?_
                refine V_iinc (k := 3) (v := x4 + 1) (lv' := [(4, .int (x4 + 1)), (0, .ref (am 0)), (1, .int x1), (3, .int x3)]) C0 dX8_cutsOf_91 rfl rfl (by decide) rfl rfl ?_
                refine V_goto (tgt := 47) C0 dX8_cutsOf_94 (by decide) ?_
                exact V.sub [1, 2, 3, 0] rfl (hREC (x4 + 1) ((mo.1, mo.2.1, mo.2.2.1, mo.2.2.2.1, mo.2.2.2.2.1, mo.2.2.2.2.2.1, mo.2.2.2.2.2.2.1, mo.2.2.2.2.2.2.2.1, mo.2.2.2.2.2.2.2.2.1, mo.2.2.2.2.2.2.2.2.2.1, mo.2.2.2.2.2.2.2.2.2.2.1, mo.2.2.2.2.2.2.2.2.2.2.2.1, vp_updL mo.2.2.2.2.2.2.2.2.2.2.2.2.1 (x3.toNatClampNeg) ((mo.2.2.2.2.2.2.2.2.2.2.2.2.1 (x3.toNatClampNeg)) + s3_89), mo.2.2.2.2.2.2.2.2.2.2.2.2.2.1, mo.2.2.2.2.2.2.2.2.2.2.2.2.2.2.1, mo.2.2.2.2.2.2.2.2.2.2.2.2.2.2.2.1, mo.2.2.2.2.2.2.2.2.2.2.2.2.2.2.2.2.1, mo.2.2.2.2.2.2.2.2.2.2.2.2.2.2.2.2.2)) hf)
              · intro J89 hJ89 hf
                refine V_if_le (tgt := 88) C0 dX8_cutsOf_73 (by decide) rfl (fun c73 => ?_) (fun c73 => ?_)
                · have hf := ite_t c73 hf
                  refine V_lconst (v := 0) C0 dX8_cutsOf_88 (by decide) rfl ?_
                  exact V.sub [0, 1, 2, 3] rfl (hJ89 0 hf)
                · have hf := ite_f c73 hf
                  refine V_aload_n C0 dX8_cutsOf_76 0 rfl rfl ?_
                  refine V_get C0 fl_X8_cutsOf_41 0 rfl rfl dX8_cutsOf_77 rfl ?_
                  refine V_iload_n C0 dX8_cutsOf_80 2 rfl rfl ?_
                  refine V_iload C0 dX8_cutsOf_81 3 rfl rfl ?_
                  refine V_iadd C0 dX8_cutsOf_83 rfl ?_
                  obtain ⟨hi84, hf⟩ := ck_inv hf
                  refine V_lald C0 11 1 rfl rfl hi84 dX8_cutsOf_84 rfl ?_
                  refine V_goto (tgt := 89) C0 dX8_cutsOf_85 (by decide) ?_
                  exact V.sub [0, 1, 2, 3] rfl (hJ89 (mo.2.2.2.2.2.2.2.2.2.2.2.2.1 ((x3 + x4).toNatClampNeg)) hf)
        refine V.sub [1, 2, 3, 0] rfl (hL47 x3 _ ?_ N 1 mo hf)
        intro mo_47 hf
        refine V_iinc (k := 2) (v := x3 + (-1)) (lv' := [(3, .int (x3 + (-1))), (0, .ref (am 0)), (1, .int x1)]) C0 dX8_cutsOf_97 rfl rfl (by decide) rfl rfl ?_
        refine V_goto (tgt := 40) C0 dX8_cutsOf_100 (by decide) ?_
        exact V.sub [1, 2, 0] rfl (hREC (x3 + (-1)) mo_47 hf)
  refine V.sub [1, 2, 0] rfl (hL40  _ ?_ N (r_3 - 1) mo_9 hf)
  intro mo_40 hf
  refine V_aload_n C0 dX8_cutsOf_103 0 rfl rfl ?_
  refine V_get C0 fl_X8_cutsOf_41 0 rfl rfl dX8_cutsOf_104 rfl ?_
  refine V_iconst (v := 0) C0 dX8_cutsOf_107 (by decide) rfl ?_
  obtain ⟨hi108, hf⟩ := ck_inv hf
  refine V_lald C0 11 1 rfl rfl hi108 dX8_cutsOf_108 rfl ?_
  refine V_l2i C0 dX8_cutsOf_109 rfl ?_
  obtain rfl := some_inv hf
  exact V_iret C0 () rfl rfl dX8_cutsOf_110
abbrev RM_X8_findBears : Room := { frames := 5, cells := 0, slots := 0, locals := 116 }
theorem in_X8_findBears_X8 : ∀ w ∈ u_ws RX8 TX8 18, w ∈ wsX8_findBears := by decide +kernel
theorem fl_X8_findBears_7 : FL RX8 wsX8_findBears 8 7 0 RX8 TX8 18 := ⟨in_X8_findBears_X8, rfl, by decide, by decide +kernel, rfl⟩
theorem fl_X8_findBears_53 : FL RX8 wsX8_findBears 8 53 17 RX8 TX8 18 := ⟨in_X8_findBears_X8, rfl, by decide, by decide +kernel, rfl⟩
set_option maxRecDepth 100000 in
set_option maxHeartbeats 4000000 in
theorem c_X8_findBears (l : Launch) (dC : Nat → ClassId) (dI : Nat → Nat → Nat) (cI cJ cZ cO : ClassId) (am : Nat → Nat) (N : Nat) (mo : MV) (o : MV) (hf : f_X8_findBears N mo = some o) : MetV l yX8_findBears wsX8_findBears RM_X8_findBears (dC, dI) (TY cI cJ cZ cO) [.ref (am 0)] (W_M cI cJ cZ cO am mo.1 mo.2.1 mo.2.2.1 mo.2.2.2.1 mo.2.2.2.2.1 mo.2.2.2.2.2.1 mo.2.2.2.2.2.2.1 mo.2.2.2.2.2.2.2.1 mo.2.2.2.2.2.2.2.2.1 mo.2.2.2.2.2.2.2.2.2.1 mo.2.2.2.2.2.2.2.2.2.2.1 mo.2.2.2.2.2.2.2.2.2.2.2.1 mo.2.2.2.2.2.2.2.2.2.2.2.2.1 mo.2.2.2.2.2.2.2.2.2.2.2.2.2.1 mo.2.2.2.2.2.2.2.2.2.2.2.2.2.2.1 mo.2.2.2.2.2.2.2.2.2.2.2.2.2.2.2.1 mo.2.2.2.2.2.2.2.2.2.2.2.2.2.2.2.2.1 mo.2.2.2.2.2.2.2.2.2.2.2.2.2.2.2.2.2) (fun _ : Unit => True) (fun _ => (W_M cI cJ cZ cO am o.1 o.2.1 o.2.2.1 o.2.2.2.1 o.2.2.2.2.1 o.2.2.2.2.2.1 o.2.2.2.2.2.2.1 o.2.2.2.2.2.2.2.1 o.2.2.2.2.2.2.2.2.1 o.2.2.2.2.2.2.2.2.2.1 o.2.2.2.2.2.2.2.2.2.2.1 o.2.2.2.2.2.2.2.2.2.2.2.1 o.2.2.2.2.2.2.2.2.2.2.2.2.1 o.2.2.2.2.2.2.2.2.2.2.2.2.2.1 o.2.2.2.2.2.2.2.2.2.2.2.2.2.2.1 o.2.2.2.2.2.2.2.2.2.2.2.2.2.2.2.1 o.2.2.2.2.2.2.2.2.2.2.2.2.2.2.2.2.1 o.2.2.2.2.2.2.2.2.2.2.2.2.2.2.2.2.2)) := by
  refine MetV.ofV (cc := cX8_findBears) (maxL := 3) (ret := none) (own := RX8) (lv0 := [(0, .ref (am 0))]) (by decide) rfl rfl (Nat.le_of_ble_eq_true rfl) rfl ?_
  intro p e s m below meth c A C0 _
  unfold f_X8_findBears at hf
  refine V_iconst (v := 0) C0 dX8_findBears_0 (by decide) rfl ?_
  refine V_istore_n (lv' := [(1, .int 0), (0, .ref (am 0))]) C0 dX8_findBears_1 rfl (by decide) rfl rfl ?_
  have hL2 : ∀ (K : MV → Option (MV)), (∀ (mo : MV), K mo = some o → V p l e RM_X8_findBears s m ([.ref (am 0)] : List Value).toArray below meth c 3 (dC, dI) A (MQ below (va_Qv (fun _ : Unit => True) (PostW (dC, dI) (TY cI cJ cZ cO) A (fun _ => (W_M cI cJ cZ cO am o.1 o.2.1 o.2.2.1 o.2.2.2.1 o.2.2.2.2.1 o.2.2.2.2.2.1 o.2.2.2.2.2.2.1 o.2.2.2.2.2.2.2.1 o.2.2.2.2.2.2.2.2.1 o.2.2.2.2.2.2.2.2.2.1 o.2.2.2.2.2.2.2.2.2.2.1 o.2.2.2.2.2.2.2.2.2.2.2.1 o.2.2.2.2.2.2.2.2.2.2.2.2.1 o.2.2.2.2.2.2.2.2.2.2.2.2.2.1 o.2.2.2.2.2.2.2.2.2.2.2.2.2.2.1 o.2.2.2.2.2.2.2.2.2.2.2.2.2.2.2.1 o.2.2.2.2.2.2.2.2.2.2.2.2.2.2.2.2.1 o.2.2.2.2.2.2.2.2.2.2.2.2.2.2.2.2.2))) A) ([.ref (am 0)] : List Value).toArray s 0 0 A) 0 0 (W_M cI cJ cZ cO am mo.1 mo.2.1 mo.2.2.1 mo.2.2.2.1 mo.2.2.2.2.1 mo.2.2.2.2.2.1 mo.2.2.2.2.2.2.1 mo.2.2.2.2.2.2.2.1 mo.2.2.2.2.2.2.2.2.1 mo.2.2.2.2.2.2.2.2.2.1 mo.2.2.2.2.2.2.2.2.2.2.1 mo.2.2.2.2.2.2.2.2.2.2.2.1 mo.2.2.2.2.2.2.2.2.2.2.2.2.1 mo.2.2.2.2.2.2.2.2.2.2.2.2.2.1 mo.2.2.2.2.2.2.2.2.2.2.2.2.2.2.1 mo.2.2.2.2.2.2.2.2.2.2.2.2.2.2.2.1 mo.2.2.2.2.2.2.2.2.2.2.2.2.2.2.2.2.1 mo.2.2.2.2.2.2.2.2.2.2.2.2.2.2.2.2.2) 25 [(0, .ref (am 0))] []) → ∀ (n : Nat) (x1 : Int32) (mo : MV), f_X8_findBears_L2 N   K n x1 mo = some o → V p l e RM_X8_findBears s m ([.ref (am 0)] : List Value).toArray below meth c 3 (dC, dI) A (MQ below (va_Qv (fun _ : Unit => True) (PostW (dC, dI) (TY cI cJ cZ cO) A (fun _ => (W_M cI cJ cZ cO am o.1 o.2.1 o.2.2.1 o.2.2.2.1 o.2.2.2.2.1 o.2.2.2.2.2.1 o.2.2.2.2.2.2.1 o.2.2.2.2.2.2.2.1 o.2.2.2.2.2.2.2.2.1 o.2.2.2.2.2.2.2.2.2.1 o.2.2.2.2.2.2.2.2.2.2.1 o.2.2.2.2.2.2.2.2.2.2.2.1 o.2.2.2.2.2.2.2.2.2.2.2.2.1 o.2.2.2.2.2.2.2.2.2.2.2.2.2.1 o.2.2.2.2.2.2.2.2.2.2.2.2.2.2.1 o.2.2.2.2.2.2.2.2.2.2.2.2.2.2.2.1 o.2.2.2.2.2.2.2.2.2.2.2.2.2.2.2.2.1 o.2.2.2.2.2.2.2.2.2.2.2.2.2.2.2.2.2))) A) ([.ref (am 0)] : List Value).toArray s 0 0 A) 0 0 (W_M cI cJ cZ cO am mo.1 mo.2.1 mo.2.2.1 mo.2.2.2.1 mo.2.2.2.2.1 mo.2.2.2.2.2.1 mo.2.2.2.2.2.2.1 mo.2.2.2.2.2.2.2.1 mo.2.2.2.2.2.2.2.2.1 mo.2.2.2.2.2.2.2.2.2.1 mo.2.2.2.2.2.2.2.2.2.2.1 mo.2.2.2.2.2.2.2.2.2.2.2.1 mo.2.2.2.2.2.2.2.2.2.2.2.2.1 mo.2.2.2.2.2.2.2.2.2.2.2.2.2.1 mo.2.2.2.2.2.2.2.2.2.2.2.2.2.2.1 mo.2.2.2.2.2.2.2.2.2.2.2.2.2.2.2.1 mo.2.2.2.2.2.2.2.2.2.2.2.2.2.2.2.2.1 mo.2.2.2.2.2.2.2.2.2.2.2.2.2.2.2.2.2) 2 [(0, .ref (am 0)), (1, .int x1)] [] := by
    intro  K hK n
    induction n with
    | zero => intro x1 mo hf; cases hf
    | succ n hREC =>
      intro x1 mo hf
      rw [f_X8_findBears_L2] at hf
      refine V_iload_n C0 dX8_findBears_2 1 rfl rfl ?_
      refine V_aload_n C0 dX8_findBears_3 0 rfl rfl ?_
      refine V_get C0 fl_X8_findBears_7 0 rfl rfl dX8_findBears_4 rfl ?_
      refine V_iconst (v := 0) C0 dX8_findBears_7 (by decide) rfl ?_
      obtain ⟨hi8, hf⟩ := ck_inv hf
      refine V_iald C0 1 0 rfl rfl hi8 dX8_findBears_8 rfl ?_
      refine V_icmp_ge (tgt := 25) C0 dX8_findBears_9 (by decide) rfl (fun c9 => ?_) (fun c9 => ?_)
      · have hf := ite_t c9 hf
        exact V.sub [0] rfl (hK mo hf)
      · have hf := ite_f c9 hf
        refine V_aload_n C0 dX8_findBears_12 0 rfl rfl ?_
        refine V_get C0 fl_X8_findBears_53 0 rfl rfl dX8_findBears_13 rfl ?_
        refine V_iload_n C0 dX8_findBears_16 1 rfl rfl ?_
        refine V_iconst (v := 0) C0 dX8_findBears_17 (by decide) rfl ?_
        obtain ⟨hi18, hf⟩ := ck_inv hf
        refine V_iast (ws' := (W_M cI cJ cZ cO am mo.1 mo.2.1 mo.2.2.1 mo.2.2.2.1 mo.2.2.2.2.1 mo.2.2.2.2.2.1 mo.2.2.2.2.2.2.1 mo.2.2.2.2.2.2.2.1 mo.2.2.2.2.2.2.2.2.1 mo.2.2.2.2.2.2.2.2.2.1 mo.2.2.2.2.2.2.2.2.2.2.1 mo.2.2.2.2.2.2.2.2.2.2.2.1 mo.2.2.2.2.2.2.2.2.2.2.2.2.1 mo.2.2.2.2.2.2.2.2.2.2.2.2.2.1 mo.2.2.2.2.2.2.2.2.2.2.2.2.2.2.1 mo.2.2.2.2.2.2.2.2.2.2.2.2.2.2.2.1 mo.2.2.2.2.2.2.2.2.2.2.2.2.2.2.2.2.1 (upd mo.2.2.2.2.2.2.2.2.2.2.2.2.2.2.2.2.2 (x1.toNatClampNeg) 0))) C0 15 0 rfl rfl hi18 dX8_findBears_18 rfl rfl ?_
        refine V_iinc (k := 1) (v := x1 + 1) (lv' := [(1, .int (x1 + 1)), (0, .ref (am 0))]) C0 dX8_findBears_19 rfl rfl (by decide) rfl rfl ?_
        refine V_goto (tgt := 2) C0 dX8_findBears_22 (by decide) ?_
        exact V.sub [1, 0] rfl (hREC (x1 + 1) ((mo.1, mo.2.1, mo.2.2.1, mo.2.2.2.1, mo.2.2.2.2.1, mo.2.2.2.2.2.1, mo.2.2.2.2.2.2.1, mo.2.2.2.2.2.2.2.1, mo.2.2.2.2.2.2.2.2.1, mo.2.2.2.2.2.2.2.2.2.1, mo.2.2.2.2.2.2.2.2.2.2.1, mo.2.2.2.2.2.2.2.2.2.2.2.1, mo.2.2.2.2.2.2.2.2.2.2.2.2.1, mo.2.2.2.2.2.2.2.2.2.2.2.2.2.1, mo.2.2.2.2.2.2.2.2.2.2.2.2.2.2.1, mo.2.2.2.2.2.2.2.2.2.2.2.2.2.2.2.1, mo.2.2.2.2.2.2.2.2.2.2.2.2.2.2.2.2.1, upd mo.2.2.2.2.2.2.2.2.2.2.2.2.2.2.2.2.2 (x1.toNatClampNeg) 0)) hf)
  refine V.sub [1, 0] rfl (hL2  _ ?_ N 0 mo hf)
  intro mo_2 hf
  refine V_iconst (v := 0) C0 dX8_findBears_25 (by decide) rfl ?_
  refine V_istore_n (lv' := [(1, .int 0), (0, .ref (am 0))]) C0 dX8_findBears_26 rfl (by decide) rfl rfl ?_
  have hL27 : ∀ (K : MV → Option (MV)), (∀ (mo : MV), K mo = some o → V p l e RM_X8_findBears s m ([.ref (am 0)] : List Value).toArray below meth c 3 (dC, dI) A (MQ below (va_Qv (fun _ : Unit => True) (PostW (dC, dI) (TY cI cJ cZ cO) A (fun _ => (W_M cI cJ cZ cO am o.1 o.2.1 o.2.2.1 o.2.2.2.1 o.2.2.2.2.1 o.2.2.2.2.2.1 o.2.2.2.2.2.2.1 o.2.2.2.2.2.2.2.1 o.2.2.2.2.2.2.2.2.1 o.2.2.2.2.2.2.2.2.2.1 o.2.2.2.2.2.2.2.2.2.2.1 o.2.2.2.2.2.2.2.2.2.2.2.1 o.2.2.2.2.2.2.2.2.2.2.2.2.1 o.2.2.2.2.2.2.2.2.2.2.2.2.2.1 o.2.2.2.2.2.2.2.2.2.2.2.2.2.2.1 o.2.2.2.2.2.2.2.2.2.2.2.2.2.2.2.1 o.2.2.2.2.2.2.2.2.2.2.2.2.2.2.2.2.1 o.2.2.2.2.2.2.2.2.2.2.2.2.2.2.2.2.2))) A) ([.ref (am 0)] : List Value).toArray s 0 0 A) 0 0 (W_M cI cJ cZ cO am mo.1 mo.2.1 mo.2.2.1 mo.2.2.2.1 mo.2.2.2.2.1 mo.2.2.2.2.2.1 mo.2.2.2.2.2.2.1 mo.2.2.2.2.2.2.2.1 mo.2.2.2.2.2.2.2.2.1 mo.2.2.2.2.2.2.2.2.2.1 mo.2.2.2.2.2.2.2.2.2.2.1 mo.2.2.2.2.2.2.2.2.2.2.2.1 mo.2.2.2.2.2.2.2.2.2.2.2.2.1 mo.2.2.2.2.2.2.2.2.2.2.2.2.2.1 mo.2.2.2.2.2.2.2.2.2.2.2.2.2.2.1 mo.2.2.2.2.2.2.2.2.2.2.2.2.2.2.2.1 mo.2.2.2.2.2.2.2.2.2.2.2.2.2.2.2.2.1 mo.2.2.2.2.2.2.2.2.2.2.2.2.2.2.2.2.2) 88 [] []) → ∀ (n : Nat) (x1 : Int32) (mo : MV), f_X8_findBears_L27 N   K n x1 mo = some o → V p l e RM_X8_findBears s m ([.ref (am 0)] : List Value).toArray below meth c 3 (dC, dI) A (MQ below (va_Qv (fun _ : Unit => True) (PostW (dC, dI) (TY cI cJ cZ cO) A (fun _ => (W_M cI cJ cZ cO am o.1 o.2.1 o.2.2.1 o.2.2.2.1 o.2.2.2.2.1 o.2.2.2.2.2.1 o.2.2.2.2.2.2.1 o.2.2.2.2.2.2.2.1 o.2.2.2.2.2.2.2.2.1 o.2.2.2.2.2.2.2.2.2.1 o.2.2.2.2.2.2.2.2.2.2.1 o.2.2.2.2.2.2.2.2.2.2.2.1 o.2.2.2.2.2.2.2.2.2.2.2.2.1 o.2.2.2.2.2.2.2.2.2.2.2.2.2.1 o.2.2.2.2.2.2.2.2.2.2.2.2.2.2.1 o.2.2.2.2.2.2.2.2.2.2.2.2.2.2.2.1 o.2.2.2.2.2.2.2.2.2.2.2.2.2.2.2.2.1 o.2.2.2.2.2.2.2.2.2.2.2.2.2.2.2.2.2))) A) ([.ref (am 0)] : List Value).toArray s 0 0 A) 0 0 (W_M cI cJ cZ cO am mo.1 mo.2.1 mo.2.2.1 mo.2.2.2.1 mo.2.2.2.2.1 mo.2.2.2.2.2.1 mo.2.2.2.2.2.2.1 mo.2.2.2.2.2.2.2.1 mo.2.2.2.2.2.2.2.2.1 mo.2.2.2.2.2.2.2.2.2.1 mo.2.2.2.2.2.2.2.2.2.2.1 mo.2.2.2.2.2.2.2.2.2.2.2.1 mo.2.2.2.2.2.2.2.2.2.2.2.2.1 mo.2.2.2.2.2.2.2.2.2.2.2.2.2.1 mo.2.2.2.2.2.2.2.2.2.2.2.2.2.2.1 mo.2.2.2.2.2.2.2.2.2.2.2.2.2.2.2.1 mo.2.2.2.2.2.2.2.2.2.2.2.2.2.2.2.2.1 mo.2.2.2.2.2.2.2.2.2.2.2.2.2.2.2.2.2) 27 [(0, .ref (am 0)), (1, .int x1)] [] := by
    intro  K hK n
    induction n with
    | zero => intro x1 mo hf; cases hf
    | succ n hREC =>
      intro x1 mo hf
      rw [f_X8_findBears_L27] at hf
      refine V_iload_n C0 dX8_findBears_27 1 rfl rfl ?_
      refine V_aload_n C0 dX8_findBears_28 0 rfl rfl ?_
      refine V_get C0 fl_X8_findBears_7 0 rfl rfl dX8_findBears_29 rfl ?_
      refine V_iconst (v := 1) C0 dX8_findBears_32 (by decide) rfl ?_
      obtain ⟨hi33, hf⟩ := ck_inv hf
      refine V_iald C0 1 0 rfl rfl hi33 dX8_findBears_33 rfl ?_
      refine V_icmp_ge (tgt := 88) C0 dX8_findBears_34 (by decide) rfl (fun c34 => ?_) (fun c34 => ?_)
      · have hf := ite_t c34 hf
        exact V.sub [] rfl (hK mo hf)
      · have hf := ite_f c34 hf
        refine V_aload_n C0 dX8_findBears_37 0 rfl rfl ?_
        refine V_iload_n C0 dX8_findBears_38 1 rfl rfl ?_
        obtain ⟨r_39, hc_39, hf⟩ := bind_inv hf
        refine V_cVV (ws' := (W_M cI cJ cZ cO am r_39.1 r_39.2.1 r_39.2.2.1 r_39.2.2.2.1 r_39.2.2.2.2.1 r_39.2.2.2.2.2.1 r_39.2.2.2.2.2.2.1 r_39.2.2.2.2.2.2.2.1 r_39.2.2.2.2.2.2.2.2.1 r_39.2.2.2.2.2.2.2.2.2.1 r_39.2.2.2.2.2.2.2.2.2.2.1 r_39.2.2.2.2.2.2.2.2.2.2.2.1 r_39.2.2.2.2.2.2.2.2.2.2.2.2.1 r_39.2.2.2.2.2.2.2.2.2.2.2.2.2.1 r_39.2.2.2.2.2.2.2.2.2.2.2.2.2.2.1 r_39.2.2.2.2.2.2.2.2.2.2.2.2.2.2.2.1 r_39.2.2.2.2.2.2.2.2.2.2.2.2.2.2.2.2.1 r_39.2.2.2.2.2.2.2.2.2.2.2.2.2.2.2.2.2)) (As := [.int x1]) (b := am 0) (st := []) C0 (c_X8_findTotals l dC dI cI cJ cZ cO am N mo x1 r_39 hc_39) rfl 1 gX8_findBears_X8_findTotals (by decide +kernel) ⟨Nat.le_of_ble_eq_true rfl, Nat.le_of_ble_eq_true rfl⟩ rfl 0 8 rfl rfl  Cut.all rfl (Nat.le_of_ble_eq_true rfl) dX8_findBears_39 rfl ⟨Nat.zero_le _, Nat.zero_le _⟩ ?_
        refine V_iconst (v := 0) C0 dX8_findBears_42 (by decide) rfl ?_
        refine V_istore_n (lv' := [(2, .int 0), (0, .ref (am 0)), (1, .int x1)]) C0 dX8_findBears_43 rfl (by decide) rfl rfl ?_
        have hL44 : ∀ (x1 : Int32) (K : MV → Option (MV)), (∀ (mo : MV), K mo = some o → V p l e RM_X8_findBears s m ([.ref (am 0)] : List Value).toArray below meth c 3 (dC, dI) A (MQ below (va_Qv (fun _ : Unit => True) (PostW (dC, dI) (TY cI cJ cZ cO) A (fun _ => (W_M cI cJ cZ cO am o.1 o.2.1 o.2.2.1 o.2.2.2.1 o.2.2.2.2.1 o.2.2.2.2.2.1 o.2.2.2.2.2.2.1 o.2.2.2.2.2.2.2.1 o.2.2.2.2.2.2.2.2.1 o.2.2.2.2.2.2.2.2.2.1 o.2.2.2.2.2.2.2.2.2.2.1 o.2.2.2.2.2.2.2.2.2.2.2.1 o.2.2.2.2.2.2.2.2.2.2.2.2.1 o.2.2.2.2.2.2.2.2.2.2.2.2.2.1 o.2.2.2.2.2.2.2.2.2.2.2.2.2.2.1 o.2.2.2.2.2.2.2.2.2.2.2.2.2.2.2.1 o.2.2.2.2.2.2.2.2.2.2.2.2.2.2.2.2.1 o.2.2.2.2.2.2.2.2.2.2.2.2.2.2.2.2.2))) A) ([.ref (am 0)] : List Value).toArray s 0 0 A) 0 0 (W_M cI cJ cZ cO am mo.1 mo.2.1 mo.2.2.1 mo.2.2.2.1 mo.2.2.2.2.1 mo.2.2.2.2.2.1 mo.2.2.2.2.2.2.1 mo.2.2.2.2.2.2.2.1 mo.2.2.2.2.2.2.2.2.1 mo.2.2.2.2.2.2.2.2.2.1 mo.2.2.2.2.2.2.2.2.2.2.1 mo.2.2.2.2.2.2.2.2.2.2.2.1 mo.2.2.2.2.2.2.2.2.2.2.2.2.1 mo.2.2.2.2.2.2.2.2.2.2.2.2.2.1 mo.2.2.2.2.2.2.2.2.2.2.2.2.2.2.1 mo.2.2.2.2.2.2.2.2.2.2.2.2.2.2.2.1 mo.2.2.2.2.2.2.2.2.2.2.2.2.2.2.2.2.1 mo.2.2.2.2.2.2.2.2.2.2.2.2.2.2.2.2.2) 82 [(0, .ref (am 0)), (1, .int x1)] []) → ∀ (n : Nat) (x2 : Int32) (mo : MV), f_X8_findBears_L44 N  x1 K n x2 mo = some o → V p l e RM_X8_findBears s m ([.ref (am 0)] : List Value).toArray below meth c 3 (dC, dI) A (MQ below (va_Qv (fun _ : Unit => True) (PostW (dC, dI) (TY cI cJ cZ cO) A (fun _ => (W_M cI cJ cZ cO am o.1 o.2.1 o.2.2.1 o.2.2.2.1 o.2.2.2.2.1 o.2.2.2.2.2.1 o.2.2.2.2.2.2.1 o.2.2.2.2.2.2.2.1 o.2.2.2.2.2.2.2.2.1 o.2.2.2.2.2.2.2.2.2.1 o.2.2.2.2.2.2.2.2.2.2.1 o.2.2.2.2.2.2.2.2.2.2.2.1 o.2.2.2.2.2.2.2.2.2.2.2.2.1 o.2.2.2.2.2.2.2.2.2.2.2.2.2.1 o.2.2.2.2.2.2.2.2.2.2.2.2.2.2.1 o.2.2.2.2.2.2.2.2.2.2.2.2.2.2.2.1 o.2.2.2.2.2.2.2.2.2.2.2.2.2.2.2.2.1 o.2.2.2.2.2.2.2.2.2.2.2.2.2.2.2.2.2))) A) ([.ref (am 0)] : List Value).toArray s 0 0 A) 0 0 (W_M cI cJ cZ cO am mo.1 mo.2.1 mo.2.2.1 mo.2.2.2.1 mo.2.2.2.2.1 mo.2.2.2.2.2.1 mo.2.2.2.2.2.2.1 mo.2.2.2.2.2.2.2.1 mo.2.2.2.2.2.2.2.2.1 mo.2.2.2.2.2.2.2.2.2.1 mo.2.2.2.2.2.2.2.2.2.2.1 mo.2.2.2.2.2.2.2.2.2.2.2.1 mo.2.2.2.2.2.2.2.2.2.2.2.2.1 mo.2.2.2.2.2.2.2.2.2.2.2.2.2.1 mo.2.2.2.2.2.2.2.2.2.2.2.2.2.2.1 mo.2.2.2.2.2.2.2.2.2.2.2.2.2.2.2.1 mo.2.2.2.2.2.2.2.2.2.2.2.2.2.2.2.2.1 mo.2.2.2.2.2.2.2.2.2.2.2.2.2.2.2.2.2) 44 [(0, .ref (am 0)), (1, .int x1), (2, .int x2)] [] := by
          intro x1 K hK n
          induction n with
          | zero => intro x2 mo hf; cases hf
          | succ n hREC =>
            intro x2 mo hf
            rw [f_X8_findBears_L44] at hf
            refine V_iload_n C0 dX8_findBears_44 2 rfl rfl ?_
            refine V_aload_n C0 dX8_findBears_45 0 rfl rfl ?_
            refine V_get C0 fl_X8_findBears_7 0 rfl rfl dX8_findBears_46 rfl ?_
            refine V_iconst (v := 0) C0 dX8_findBears_49 (by decide) rfl ?_
            obtain ⟨hi50, hf⟩ := ck_inv hf
            refine V_iald C0 1 0 rfl rfl hi50 dX8_findBears_50 rfl ?_
            refine V_icmp_ge (tgt := 82) C0 dX8_findBears_51 (by decide) rfl (fun c51 => ?_) (fun c51 => ?_)
            · have hf := ite_t c51 hf
              exact V.sub [0, 1] rfl (hK mo hf)
            · have hf := ite_f c51 hf
              refine V_aload_n C0 dX8_findBears_54 0 rfl rfl ?_
              refine V_get C0 fl_X8_findBears_53 0 rfl rfl dX8_findBears_55 rfl ?_
              refine V_iload_n C0 dX8_findBears_58 2 rfl rfl ?_
              refine V_dup2_11 C0 dX8_findBears_59 rfl rfl rfl ?_
              obtain ⟨hi60, hf⟩ := ck_inv hf
              refine V_iald C0 15 0 rfl rfl hi60 dX8_findBears_60 rfl ?_
              refine V_aload_n C0 dX8_findBears_61 0 rfl rfl ?_
              refine V_iload_n C0 dX8_findBears_62 1 rfl rfl ?_
              refine V_iconst (v := 1) C0 dX8_findBears_63 (by decide) rfl ?_
              obtain ⟨r_64, hc_64, hf⟩ := bind_inv hf
              refine V_cVI (ws' := (W_M cI cJ cZ cO am mo.1 mo.2.1 mo.2.2.1 mo.2.2.2.1 mo.2.2.2.2.1 mo.2.2.2.2.2.1 mo.2.2.2.2.2.2.1 mo.2.2.2.2.2.2.2.1 mo.2.2.2.2.2.2.2.2.1 mo.2.2.2.2.2.2.2.2.2.1 mo.2.2.2.2.2.2.2.2.2.2.1 mo.2.2.2.2.2.2.2.2.2.2.2.1 mo.2.2.2.2.2.2.2.2.2.2.2.2.1 mo.2.2.2.2.2.2.2.2.2.2.2.2.2.1 mo.2.2.2.2.2.2.2.2.2.2.2.2.2.2.1 mo.2.2.2.2.2.2.2.2.2.2.2.2.2.2.2.1 mo.2.2.2.2.2.2.2.2.2.2.2.2.2.2.2.2.1 mo.2.2.2.2.2.2.2.2.2.2.2.2.2.2.2.2.2)) (As := [.int x1, .int 1]) (b := am 0) (st := [.int (mo.2.2.2.2.2.2.2.2.2.2.2.2.2.2.2.2.2 (x2.toNatClampNeg)), .int x2, .ref (am 15)]) C0 (c_X8_wordPart l dC dI cI cJ cZ cO am N mo x1 1 r_64 hc_64) rfl 2 gX8_findBears_X8_wordPart (by decide +kernel) ⟨Nat.le_of_ble_eq_true rfl, Nat.le_of_ble_eq_true rfl⟩ rfl 0 8 rfl rfl  Cut.all rfl (Nat.le_of_ble_eq_true rfl) dX8_findBears_64 rfl ⟨Nat.zero_le _, Nat.zero_le _⟩ ?_
              refine V_aload_n C0 dX8_findBears_67 0 rfl rfl ?_
              refine V_iload_n C0 dX8_findBears_68 1 rfl rfl ?_
              refine V_iload_n C0 dX8_findBears_69 2 rfl rfl ?_
              obtain ⟨r_70, hc_70, hf⟩ := bind_inv hf
              refine V_cVI (ws' := (W_M cI cJ cZ cO am mo.1 mo.2.1 mo.2.2.1 mo.2.2.2.1 mo.2.2.2.2.1 mo.2.2.2.2.2.1 mo.2.2.2.2.2.2.1 mo.2.2.2.2.2.2.2.1 mo.2.2.2.2.2.2.2.2.1 mo.2.2.2.2.2.2.2.2.2.1 mo.2.2.2.2.2.2.2.2.2.2.1 mo.2.2.2.2.2.2.2.2.2.2.2.1 mo.2.2.2.2.2.2.2.2.2.2.2.2.1 mo.2.2.2.2.2.2.2.2.2.2.2.2.2.1 mo.2.2.2.2.2.2.2.2.2.2.2.2.2.2.1 mo.2.2.2.2.2.2.2.2.2.2.2.2.2.2.2.1 mo.2.2.2.2.2.2.2.2.2.2.2.2.2.2.2.2.1 mo.2.2.2.2.2.2.2.2.2.2.2.2.2.2.2.2.2)) (As := [.int x1, .int x2]) (b := am 0) (st := [.int r_64, .int (mo.2.2.2.2.2.2.2.2.2.2.2.2.2.2.2.2.2 (x2.toNatClampNeg)), .int x2, .ref (am 15)]) C0 (c_X8_shareIn l dC dI cI cJ cZ cO am N mo x1 x2 r_70 hc_70) rfl 2 gX8_findBears_X8_shareIn (by decide +kernel) ⟨Nat.le_of_ble_eq_true rfl, Nat.le_of_ble_eq_true rfl⟩ rfl 0 8 rfl rfl  Cut.all rfl (Nat.le_of_ble_eq_true rfl) dX8_findBears_70 rfl ⟨Nat.zero_le _, Nat.zero_le _⟩ ?_
              refine V_imul C0 dX8_findBears_73 rfl ?_
              refine V_iadd C0 dX8_findBears_74 rfl ?_
              obtain ⟨hi75, hf⟩ := ck_inv hf
              refine V_iast (ws' := (W_M cI cJ cZ cO am mo.1 mo.2.1 mo.2.2.1 mo.2.2.2.1 mo.2.2.2.2.1 mo.2.2.2.2.2.1 mo.2.2.2.2.2.2.1 mo.2.2.2.2.2.2.2.1 mo.2.2.2.2.2.2.2.2.1 mo.2.2.2.2.2.2.2.2.2.1 mo.2.2.2.2.2.2.2.2.2.2.1 mo.2.2.2.2.2.2.2.2.2.2.2.1 mo.2.2.2.2.2.2.2.2.2.2.2.2.1 mo.2.2.2.2.2.2.2.2.2.2.2.2.2.1 mo.2.2.2.2.2.2.2.2.2.2.2.2.2.2.1 mo.2.2.2.2.2.2.2.2.2.2.2.2.2.2.2.1 mo.2.2.2.2.2.2.2.2.2.2.2.2.2.2.2.2.1 (upd mo.2.2.2.2.2.2.2.2.2.2.2.2.2.2.2.2.2 (x2.toNatClampNeg) ((mo.2.2.2.2.2.2.2.2.2.2.2.2.2.2.2.2.2 (x2.toNatClampNeg)) + (r_64 * r_70))))) C0 15 0 rfl rfl hi75 dX8_findBears_75 rfl rfl ?_
              refine V_iinc (k := 2) (v := x2 + 1) (lv' := [(2, .int (x2 + 1)), (0, .ref (am 0)), (1, .int x1)]) C0 dX8_findBears_76 rfl rfl (by decide) rfl rfl ?_
              refine V_goto (tgt := 44) C0 dX8_findBears_79 (by decide) ?_
              exact V.sub [1, 2, 0] rfl (hREC (x2 + 1) ((mo.1, mo.2.1, mo.2.2.1, mo.2.2.2.1, mo.2.2.2.2.1, mo.2.2.2.2.2.1, mo.2.2.2.2.2.2.1, mo.2.2.2.2.2.2.2.1, mo.2.2.2.2.2.2.2.2.1, mo.2.2.2.2.2.2.2.2.2.1, mo.2.2.2.2.2.2.2.2.2.2.1, mo.2.2.2.2.2.2.2.2.2.2.2.1, mo.2.2.2.2.2.2.2.2.2.2.2.2.1, mo.2.2.2.2.2.2.2.2.2.2.2.2.2.1, mo.2.2.2.2.2.2.2.2.2.2.2.2.2.2.1, mo.2.2.2.2.2.2.2.2.2.2.2.2.2.2.2.1, mo.2.2.2.2.2.2.2.2.2.2.2.2.2.2.2.2.1, upd mo.2.2.2.2.2.2.2.2.2.2.2.2.2.2.2.2.2 (x2.toNatClampNeg) ((mo.2.2.2.2.2.2.2.2.2.2.2.2.2.2.2.2.2 (x2.toNatClampNeg)) + (r_64 * r_70)))) hf)
        refine V.sub [1, 2, 0] rfl (hL44 x1 _ ?_ N 0 r_39 hf)
        intro mo_44 hf
        refine V_iinc (k := 1) (v := x1 + 1) (lv' := [(1, .int (x1 + 1)), (0, .ref (am 0))]) C0 dX8_findBears_82 rfl rfl (by decide) rfl rfl ?_
        refine V_goto (tgt := 27) C0 dX8_findBears_85 (by decide) ?_
        exact V.sub [1, 0] rfl (hREC (x1 + 1) mo_44 hf)
  refine V.sub [1, 0] rfl (hL27  _ ?_ N 0 mo_2 hf)
  intro mo_27 hf
  obtain rfl := some_inv hf
  exact V_vret C0 () trivial rfl dX8_findBears_88
abbrev RM_X8_dropPiece : Room := { frames := 0, cells := 0, slots := 0, locals := 0 }
theorem in_X8_dropPiece_X8 : ∀ w ∈ u_ws RX8 TX8 18, w ∈ wsX8_dropPiece := by decide +kernel
theorem fl_X8_dropPiece_7 : FL RX8 wsX8_dropPiece 8 7 0 RX8 TX8 18 := ⟨in_X8_dropPiece_X8, rfl, by decide, by decide +kernel, rfl⟩
set_option maxRecDepth 100000 in
set_option maxHeartbeats 4000000 in
theorem c_X8_dropPiece (l : Launch) (dC : Nat → ClassId) (dI : Nat → Nat → Nat) (cI cJ cZ cO : ClassId) (am : Nat → Nat) (N : Nat) (mo : MV) (x1 : Int32) (o : MV) (hf : f_X8_dropPiece N mo x1 = some o) : MetV l yX8_dropPiece wsX8_dropPiece RM_X8_dropPiece (dC, dI) (TY cI cJ cZ cO) [.ref (am 0), .int x1] (W_M cI cJ cZ cO am mo.1 mo.2.1 mo.2.2.1 mo.2.2.2.1 mo.2.2.2.2.1 mo.2.2.2.2.2.1 mo.2.2.2.2.2.2.1 mo.2.2.2.2.2.2.2.1 mo.2.2.2.2.2.2.2.2.1 mo.2.2.2.2.2.2.2.2.2.1 mo.2.2.2.2.2.2.2.2.2.2.1 mo.2.2.2.2.2.2.2.2.2.2.2.1 mo.2.2.2.2.2.2.2.2.2.2.2.2.1 mo.2.2.2.2.2.2.2.2.2.2.2.2.2.1 mo.2.2.2.2.2.2.2.2.2.2.2.2.2.2.1 mo.2.2.2.2.2.2.2.2.2.2.2.2.2.2.2.1 mo.2.2.2.2.2.2.2.2.2.2.2.2.2.2.2.2.1 mo.2.2.2.2.2.2.2.2.2.2.2.2.2.2.2.2.2) (fun _ : Unit => True) (fun _ => (W_M cI cJ cZ cO am o.1 o.2.1 o.2.2.1 o.2.2.2.1 o.2.2.2.2.1 o.2.2.2.2.2.1 o.2.2.2.2.2.2.1 o.2.2.2.2.2.2.2.1 o.2.2.2.2.2.2.2.2.1 o.2.2.2.2.2.2.2.2.2.1 o.2.2.2.2.2.2.2.2.2.2.1 o.2.2.2.2.2.2.2.2.2.2.2.1 o.2.2.2.2.2.2.2.2.2.2.2.2.1 o.2.2.2.2.2.2.2.2.2.2.2.2.2.1 o.2.2.2.2.2.2.2.2.2.2.2.2.2.2.1 o.2.2.2.2.2.2.2.2.2.2.2.2.2.2.2.1 o.2.2.2.2.2.2.2.2.2.2.2.2.2.2.2.2.1 o.2.2.2.2.2.2.2.2.2.2.2.2.2.2.2.2.2)) := by
  refine MetV.ofV (cc := cX8_dropPiece) (maxL := 3) (ret := none) (own := RX8) (lv0 := [(0, .ref (am 0)), (1, .int x1)]) (by decide) rfl rfl (Nat.le_of_ble_eq_true rfl) rfl ?_
  intro p e s m below meth c A C0 _
  unfold f_X8_dropPiece at hf
  refine V_iconst (v := 2) C0 dX8_dropPiece_0 (by decide) rfl ?_
  refine V_bipush (v := 6) C0 dX8_dropPiece_1 (by decide) rfl ?_
  refine V_iload_n C0 dX8_dropPiece_3 1 rfl rfl ?_
  refine V_imul C0 dX8_dropPiece_4 rfl ?_
  refine V_iadd C0 dX8_dropPiece_5 rfl ?_
  refine V_topi (fun x2_1 ex2_1 => ?_)
  have hf := bd_inv ex2_1 hf
  refine V_istore_n (lv' := [(2, .int x2_1), (0, .ref (am 0)), (1, .int x1)]) C0 dX8_dropPiece_6 rfl (by decide) rfl rfl ?_
  have hL7 : ∀ (K : MV → Option (MV)), (∀ (mo : MV), K mo = some o → V p l e RM_X8_dropPiece s m ([.ref (am 0), .int x1] : List Value).toArray below meth c 3 (dC, dI) A (MQ below (va_Qv (fun _ : Unit => True) (PostW (dC, dI) (TY cI cJ cZ cO) A (fun _ => (W_M cI cJ cZ cO am o.1 o.2.1 o.2.2.1 o.2.2.2.1 o.2.2.2.2.1 o.2.2.2.2.2.1 o.2.2.2.2.2.2.1 o.2.2.2.2.2.2.2.1 o.2.2.2.2.2.2.2.2.1 o.2.2.2.2.2.2.2.2.2.1 o.2.2.2.2.2.2.2.2.2.2.1 o.2.2.2.2.2.2.2.2.2.2.2.1 o.2.2.2.2.2.2.2.2.2.2.2.2.1 o.2.2.2.2.2.2.2.2.2.2.2.2.2.1 o.2.2.2.2.2.2.2.2.2.2.2.2.2.2.1 o.2.2.2.2.2.2.2.2.2.2.2.2.2.2.2.1 o.2.2.2.2.2.2.2.2.2.2.2.2.2.2.2.2.1 o.2.2.2.2.2.2.2.2.2.2.2.2.2.2.2.2.2))) A) ([.ref (am 0), .int x1] : List Value).toArray s 0 0 A) 0 0 (W_M cI cJ cZ cO am mo.1 mo.2.1 mo.2.2.1 mo.2.2.2.1 mo.2.2.2.2.1 mo.2.2.2.2.2.1 mo.2.2.2.2.2.2.1 mo.2.2.2.2.2.2.2.1 mo.2.2.2.2.2.2.2.2.1 mo.2.2.2.2.2.2.2.2.2.1 mo.2.2.2.2.2.2.2.2.2.2.1 mo.2.2.2.2.2.2.2.2.2.2.2.1 mo.2.2.2.2.2.2.2.2.2.2.2.2.1 mo.2.2.2.2.2.2.2.2.2.2.2.2.2.1 mo.2.2.2.2.2.2.2.2.2.2.2.2.2.2.1 mo.2.2.2.2.2.2.2.2.2.2.2.2.2.2.2.1 mo.2.2.2.2.2.2.2.2.2.2.2.2.2.2.2.2.1 mo.2.2.2.2.2.2.2.2.2.2.2.2.2.2.2.2.2) 45 [(0, .ref (am 0))] []) → ∀ (n : Nat) (x2 : Int32) (mo : MV), f_X8_dropPiece_L7 N x1  K n x2 mo = some o → V p l e RM_X8_dropPiece s m ([.ref (am 0), .int x1] : List Value).toArray below meth c 3 (dC, dI) A (MQ below (va_Qv (fun _ : Unit => True) (PostW (dC, dI) (TY cI cJ cZ cO) A (fun _ => (W_M cI cJ cZ cO am o.1 o.2.1 o.2.2.1 o.2.2.2.1 o.2.2.2.2.1 o.2.2.2.2.2.1 o.2.2.2.2.2.2.1 o.2.2.2.2.2.2.2.1 o.2.2.2.2.2.2.2.2.1 o.2.2.2.2.2.2.2.2.2.1 o.2.2.2.2.2.2.2.2.2.2.1 o.2.2.2.2.2.2.2.2.2.2.2.1 o.2.2.2.2.2.2.2.2.2.2.2.2.1 o.2.2.2.2.2.2.2.2.2.2.2.2.2.1 o.2.2.2.2.2.2.2.2.2.2.2.2.2.2.1 o.2.2.2.2.2.2.2.2.2.2.2.2.2.2.2.1 o.2.2.2.2.2.2.2.2.2.2.2.2.2.2.2.2.1 o.2.2.2.2.2.2.2.2.2.2.2.2.2.2.2.2.2))) A) ([.ref (am 0), .int x1] : List Value).toArray s 0 0 A) 0 0 (W_M cI cJ cZ cO am mo.1 mo.2.1 mo.2.2.1 mo.2.2.2.1 mo.2.2.2.2.1 mo.2.2.2.2.2.1 mo.2.2.2.2.2.2.1 mo.2.2.2.2.2.2.2.1 mo.2.2.2.2.2.2.2.2.1 mo.2.2.2.2.2.2.2.2.2.1 mo.2.2.2.2.2.2.2.2.2.2.1 mo.2.2.2.2.2.2.2.2.2.2.2.1 mo.2.2.2.2.2.2.2.2.2.2.2.2.1 mo.2.2.2.2.2.2.2.2.2.2.2.2.2.1 mo.2.2.2.2.2.2.2.2.2.2.2.2.2.2.1 mo.2.2.2.2.2.2.2.2.2.2.2.2.2.2.2.1 mo.2.2.2.2.2.2.2.2.2.2.2.2.2.2.2.2.1 mo.2.2.2.2.2.2.2.2.2.2.2.2.2.2.2.2.2) 7 [(0, .ref (am 0)), (2, .int x2)] [] := by
    intro  K hK n
    induction n with
    | zero => intro x2 mo hf; cases hf
    | succ n hREC =>
      intro x2 mo hf
      rw [f_X8_dropPiece_L7] at hf
      refine V_iload_n C0 dX8_dropPiece_7 1 rfl rfl ?_
      refine V_iconst (v := 2) C0 dX8_dropPiece_8 (by decide) rfl ?_
      refine V_bipush (v := 6) C0 dX8_dropPiece_9 (by decide) rfl ?_
      refine V_aload_n C0 dX8_dropPiece_11 0 rfl rfl ?_
      refine V_get C0 fl_X8_dropPiece_7 0 rfl rfl dX8_dropPiece_12 rfl ?_
      refine V_iconst (v := 0) C0 dX8_dropPiece_15 (by decide) rfl ?_
      obtain ⟨hi16, hf⟩ := ck_inv hf
      refine V_iald C0 1 0 rfl rfl hi16 dX8_dropPiece_16 rfl ?_
      refine V_iconst (v := 1) C0 dX8_dropPiece_17 (by decide) rfl ?_
      refine V_isub C0 dX8_dropPiece_18 rfl ?_
      refine V_imul C0 dX8_dropPiece_19 rfl ?_
      refine V_iadd C0 dX8_dropPiece_20 rfl ?_
      refine V_icmp_ge (tgt := 45) C0 dX8_dropPiece_21 (by decide) rfl (fun c21 => ?_) (fun c21 => ?_)
      · have hf := ite_t c21 hf
        exact V.sub [0] rfl (hK mo hf)
      · have hf := ite_f c21 hf
        refine V_aload_n C0 dX8_dropPiece_24 0 rfl rfl ?_
        refine V_get C0 fl_X8_dropPiece_7 0 rfl rfl dX8_dropPiece_25 rfl ?_
        refine V_iload_n C0 dX8_dropPiece_28 1 rfl rfl ?_
        refine V_aload_n C0 dX8_dropPiece_29 0 rfl rfl ?_
        refine V_get C0 fl_X8_dropPiece_7 0 rfl rfl dX8_dropPiece_30 rfl ?_
        refine V_iload_n C0 dX8_dropPiece_33 1 rfl rfl ?_
        refine V_bipush (v := 6) C0 dX8_dropPiece_34 (by decide) rfl ?_
        refine V_iadd C0 dX8_dropPiece_36 rfl ?_
        obtain ⟨hi37, hf⟩ := ck_inv hf
        refine V_iald C0 1 0 rfl rfl hi37 dX8_dropPiece_37 rfl ?_
        obtain ⟨hi38, hf⟩ := ck_inv hf
        refine V_iast (ws' := (W_M cI cJ cZ cO am (upd mo.1 (x2.toNatClampNeg) (mo.1 ((x2 + 6).toNatClampNeg))) mo.2.1 mo.2.2.1 mo.2.2.2.1 mo.2.2.2.2.1 mo.2.2.2.2.2.1 mo.2.2.2.2.2.2.1 mo.2.2.2.2.2.2.2.1 mo.2.2.2.2.2.2.2.2.1 mo.2.2.2.2.2.2.2.2.2.1 mo.2.2.2.2.2.2.2.2.2.2.1 mo.2.2.2.2.2.2.2.2.2.2.2.1 mo.2.2.2.2.2.2.2.2.2.2.2.2.1 mo.2.2.2.2.2.2.2.2.2.2.2.2.2.1 mo.2.2.2.2.2.2.2.2.2.2.2.2.2.2.1 mo.2.2.2.2.2.2.2.2.2.2.2.2.2.2.2.1 mo.2.2.2.2.2.2.2.2.2.2.2.2.2.2.2.2.1 mo.2.2.2.2.2.2.2.2.2.2.2.2.2.2.2.2.2)) C0 1 0 rfl rfl hi38 dX8_dropPiece_38 rfl rfl ?_
        refine V_iinc (k := 1) (v := x2 + 1) (lv' := [(2, .int (x2 + 1)), (0, .ref (am 0))]) C0 dX8_dropPiece_39 rfl rfl (by decide) rfl rfl ?_
        refine V_goto (tgt := 7) C0 dX8_dropPiece_42 (by decide) ?_
        exact V.sub [1, 0] rfl (hREC (x2 + 1) ((upd mo.1 (x2.toNatClampNeg) (mo.1 ((x2 + 6).toNatClampNeg)), mo.2.1, mo.2.2.1, mo.2.2.2.1, mo.2.2.2.2.1, mo.2.2.2.2.2.1, mo.2.2.2.2.2.2.1, mo.2.2.2.2.2.2.2.1, mo.2.2.2.2.2.2.2.2.1, mo.2.2.2.2.2.2.2.2.2.1, mo.2.2.2.2.2.2.2.2.2.2.1, mo.2.2.2.2.2.2.2.2.2.2.2.1, mo.2.2.2.2.2.2.2.2.2.2.2.2.1, mo.2.2.2.2.2.2.2.2.2.2.2.2.2.1, mo.2.2.2.2.2.2.2.2.2.2.2.2.2.2.1, mo.2.2.2.2.2.2.2.2.2.2.2.2.2.2.2.1, mo.2.2.2.2.2.2.2.2.2.2.2.2.2.2.2.2.1, mo.2.2.2.2.2.2.2.2.2.2.2.2.2.2.2.2.2)) hf)
  refine V.sub [1, 0] rfl (hL7  _ ?_ N x2_1 mo hf)
  intro mo_7 hf
  refine V_aload_n C0 dX8_dropPiece_45 0 rfl rfl ?_
  refine V_get C0 fl_X8_dropPiece_7 0 rfl rfl dX8_dropPiece_46 rfl ?_
  refine V_iconst (v := 0) C0 dX8_dropPiece_49 (by decide) rfl ?_
  refine V_dup2_11 C0 dX8_dropPiece_50 rfl rfl rfl ?_
  obtain ⟨hi51, hf⟩ := ck_inv hf
  refine V_iald C0 1 0 rfl rfl hi51 dX8_dropPiece_51 rfl ?_
  refine V_iconst (v := 1) C0 dX8_dropPiece_52 (by decide) rfl ?_
  refine V_isub C0 dX8_dropPiece_53 rfl ?_
  obtain ⟨hi54, hf⟩ := ck_inv hf
  refine V_iast (ws' := (W_M cI cJ cZ cO am (upd mo_7.1 ((0 : Int32).toNatClampNeg) ((mo_7.1 ((0 : Int32).toNatClampNeg)) - 1)) mo_7.2.1 mo_7.2.2.1 mo_7.2.2.2.1 mo_7.2.2.2.2.1 mo_7.2.2.2.2.2.1 mo_7.2.2.2.2.2.2.1 mo_7.2.2.2.2.2.2.2.1 mo_7.2.2.2.2.2.2.2.2.1 mo_7.2.2.2.2.2.2.2.2.2.1 mo_7.2.2.2.2.2.2.2.2.2.2.1 mo_7.2.2.2.2.2.2.2.2.2.2.2.1 mo_7.2.2.2.2.2.2.2.2.2.2.2.2.1 mo_7.2.2.2.2.2.2.2.2.2.2.2.2.2.1 mo_7.2.2.2.2.2.2.2.2.2.2.2.2.2.2.1 mo_7.2.2.2.2.2.2.2.2.2.2.2.2.2.2.2.1 mo_7.2.2.2.2.2.2.2.2.2.2.2.2.2.2.2.2.1 mo_7.2.2.2.2.2.2.2.2.2.2.2.2.2.2.2.2.2)) C0 1 0 rfl rfl hi54 dX8_dropPiece_54 rfl rfl ?_
  obtain rfl := some_inv hf
  exact V_vret C0 () trivial rfl dX8_dropPiece_55
abbrev RM_X8_lossOf : Room := { frames := 7, cells := 0, slots := 0, locals := 163 }
theorem in_X8_lossOf_X8 : ∀ w ∈ u_ws RX8 TX8 18, w ∈ wsX8_lossOf := by decide +kernel
theorem fl_X8_lossOf_7 : FL RX8 wsX8_lossOf 8 7 0 RX8 TX8 18 := ⟨in_X8_lossOf_X8, rfl, by decide, by decide +kernel, rfl⟩
theorem fl_X8_lossOf_13 : FL RX8 wsX8_lossOf 8 13 1 RX8 TX8 18 := ⟨in_X8_lossOf_X8, rfl, by decide, by decide +kernel, rfl⟩
set_option maxRecDepth 100000 in
set_option maxHeartbeats 4000000 in
theorem c_X8_lossOf (l : Launch) (dC : Nat → ClassId) (dI : Nat → Nat → Nat) (cI cJ cZ cO : ClassId) (am : Nat → Nat) (N : Nat) (mo : MV) (x1 : Int32) (o : Int32 × MV) (hf : f_X8_lossOf N mo x1 = some o) : MetI l yX8_lossOf wsX8_lossOf RM_X8_lossOf (dC, dI) (TY cI cJ cZ cO) [.ref (am 0), .int x1] (W_M cI cJ cZ cO am mo.1 mo.2.1 mo.2.2.1 mo.2.2.2.1 mo.2.2.2.2.1 mo.2.2.2.2.2.1 mo.2.2.2.2.2.2.1 mo.2.2.2.2.2.2.2.1 mo.2.2.2.2.2.2.2.2.1 mo.2.2.2.2.2.2.2.2.2.1 mo.2.2.2.2.2.2.2.2.2.2.1 mo.2.2.2.2.2.2.2.2.2.2.2.1 mo.2.2.2.2.2.2.2.2.2.2.2.2.1 mo.2.2.2.2.2.2.2.2.2.2.2.2.2.1 mo.2.2.2.2.2.2.2.2.2.2.2.2.2.2.1 mo.2.2.2.2.2.2.2.2.2.2.2.2.2.2.2.1 mo.2.2.2.2.2.2.2.2.2.2.2.2.2.2.2.2.1 mo.2.2.2.2.2.2.2.2.2.2.2.2.2.2.2.2.2) (fun r (_ : Unit) => r = o.1) (fun _ => (W_M cI cJ cZ cO am o.2.1 o.2.2.1 o.2.2.2.1 o.2.2.2.2.1 o.2.2.2.2.2.1 o.2.2.2.2.2.2.1 o.2.2.2.2.2.2.2.1 o.2.2.2.2.2.2.2.2.1 o.2.2.2.2.2.2.2.2.2.1 o.2.2.2.2.2.2.2.2.2.2.1 o.2.2.2.2.2.2.2.2.2.2.2.1 o.2.2.2.2.2.2.2.2.2.2.2.2.1 o.2.2.2.2.2.2.2.2.2.2.2.2.2.1 o.2.2.2.2.2.2.2.2.2.2.2.2.2.2.1 o.2.2.2.2.2.2.2.2.2.2.2.2.2.2.2.1 o.2.2.2.2.2.2.2.2.2.2.2.2.2.2.2.2.1 o.2.2.2.2.2.2.2.2.2.2.2.2.2.2.2.2.2.1 o.2.2.2.2.2.2.2.2.2.2.2.2.2.2.2.2.2.2)) := by
  refine MetI.ofV (cc := cX8_lossOf) (maxL := 4) (ret := (some .int)) (own := RX8) (lv0 := [(0, .ref (am 0)), (1, .int x1)]) (by decide) rfl rfl (Nat.le_of_ble_eq_true rfl) rfl ?_
  intro p e s m below meth c A C0 _
  unfold f_X8_lossOf at hf
  refine V_aload_n C0 dX8_lossOf_0 0 rfl rfl ?_
  obtain ⟨r_1, hc_1, hf⟩ := bind_inv hf
  refine V_cVI (ws' := (W_M cI cJ cZ cO am r_1.2.1 r_1.2.2.1 r_1.2.2.2.1 r_1.2.2.2.2.1 r_1.2.2.2.2.2.1 r_1.2.2.2.2.2.2.1 r_1.2.2.2.2.2.2.2.1 r_1.2.2.2.2.2.2.2.2.1 r_1.2.2.2.2.2.2.2.2.2.1 r_1.2.2.2.2.2.2.2.2.2.2.1 r_1.2.2.2.2.2.2.2.2.2.2.2.1 r_1.2.2.2.2.2.2.2.2.2.2.2.2.1 r_1.2.2.2.2.2.2.2.2.2.2.2.2.2.1 r_1.2.2.2.2.2.2.2.2.2.2.2.2.2.2.1 r_1.2.2.2.2.2.2.2.2.2.2.2.2.2.2.2.1 r_1.2.2.2.2.2.2.2.2.2.2.2.2.2.2.2.2.1 r_1.2.2.2.2.2.2.2.2.2.2.2.2.2.2.2.2.2.1 r_1.2.2.2.2.2.2.2.2.2.2.2.2.2.2.2.2.2.2)) (As := []) (b := am 0) (st := []) C0 (c_X8_allCosts l dC dI cI cJ cZ cO am N mo  r_1 hc_1) rfl 0 gX8_lossOf_X8_allCosts (by decide +kernel) ⟨Nat.le_of_ble_eq_true rfl, Nat.le_of_ble_eq_true rfl⟩ rfl 0 8 rfl rfl  Cut.all rfl (Nat.le_of_ble_eq_true rfl) dX8_lossOf_1 rfl ⟨Nat.zero_le _, Nat.zero_le _⟩ ?_
  refine V_istore_n (lv' := [(2, .int r_1.1), (0, .ref (am 0)), (1, .int x1)]) C0 dX8_lossOf_4 rfl (by decide) rfl rfl ?_
  refine V_aload_n C0 dX8_lossOf_5 1 rfl rfl ?_
  refine V_get C0 fl_X8_lossOf_7 0 rfl rfl dX8_lossOf_6 rfl ?_
  refine V_iconst (v := 0) C0 dX8_lossOf_9 (by decide) rfl ?_
  refine V_aload_n C0 dX8_lossOf_10 1 rfl rfl ?_
  refine V_get C0 fl_X8_lossOf_13 0 rfl rfl dX8_lossOf_11 rfl ?_
  refine V_iconst (v := 0) C0 dX8_lossOf_14 (by decide) rfl ?_
  obtain ⟨r_15, hc_15, hf⟩ := bind_inv hf
  refine V_cSV (ws' := (W_M cI cJ cZ cO am r_1.2.1 r_15 r_1.2.2.2.1 r_1.2.2.2.2.1 r_1.2.2.2.2.2.1 r_1.2.2.2.2.2.2.1 r_1.2.2.2.2.2.2.2.1 r_1.2.2.2.2.2.2.2.2.1 r_1.2.2.2.2.2.2.2.2.2.1 r_1.2.2.2.2.2.2.2.2.2.2.1 r_1.2.2.2.2.2.2.2.2.2.2.2.1 r_1.2.2.2.2.2.2.2.2.2.2.2.2.1 r_1.2.2.2.2.2.2.2.2.2.2.2.2.2.1 r_1.2.2.2.2.2.2.2.2.2.2.2.2.2.2.1 r_1.2.2.2.2.2.2.2.2.2.2.2.2.2.2.2.1 r_1.2.2.2.2.2.2.2.2.2.2.2.2.2.2.2.2.1 r_1.2.2.2.2.2.2.2.2.2.2.2.2.2.2.2.2.2.1 r_1.2.2.2.2.2.2.2.2.2.2.2.2.2.2.2.2.2.2)) (As := [.ref (am 1), .int 0, .ref (am 2), .int 0]) (st := []) C0 (c_X8_copy l dC dI cI cJ cZ cO (fun _ => am 1) (fun _ => am 2) N 210 r_1.2.1 210 r_1.2.2.1 0 0 r_15 hc_15) rfl 4 gX8_lossOf_X8_copy (by decide +kernel) ⟨Nat.le_of_ble_eq_true rfl, Nat.le_of_ble_eq_true rfl⟩ rfl  ⟨_, (pcr (pct (pcte (pcr (pcr (pcr (pcr (pcr (pcr (pcr (pcr (pcr (pcr (pcr (pcr (pcr pn)))))))))))))))), fun _ => (pcr (pct (pcte (pcr (pcr (pcr (pcr (pcr (pcr (pcr (pcr (pcr (pcr (pcr (pcr (pcr pn))))))))))))))))⟩ rfl (Nat.le_of_ble_eq_true rfl) dX8_lossOf_15 rfl ⟨Nat.zero_le _, Nat.zero_le _⟩ ?_
  refine V_aload_n C0 dX8_lossOf_18 1 rfl rfl ?_
  refine V_iload_n C0 dX8_lossOf_19 2 rfl rfl ?_
  obtain ⟨r_20, hc_20, hf⟩ := bind_inv hf
  refine V_cVV (ws' := (W_M cI cJ cZ cO am r_20.1 r_20.2.1 r_20.2.2.1 r_20.2.2.2.1 r_20.2.2.2.2.1 r_20.2.2.2.2.2.1 r_20.2.2.2.2.2.2.1 r_20.2.2.2.2.2.2.2.1 r_20.2.2.2.2.2.2.2.2.1 r_20.2.2.2.2.2.2.2.2.2.1 r_20.2.2.2.2.2.2.2.2.2.2.1 r_20.2.2.2.2.2.2.2.2.2.2.2.1 r_20.2.2.2.2.2.2.2.2.2.2.2.2.1 r_20.2.2.2.2.2.2.2.2.2.2.2.2.2.1 r_20.2.2.2.2.2.2.2.2.2.2.2.2.2.2.1 r_20.2.2.2.2.2.2.2.2.2.2.2.2.2.2.2.1 r_20.2.2.2.2.2.2.2.2.2.2.2.2.2.2.2.2.1 r_20.2.2.2.2.2.2.2.2.2.2.2.2.2.2.2.2.2)) (As := [.int x1]) (b := am 0) (st := []) C0 (c_X8_dropPiece l dC dI cI cJ cZ cO am N ((r_1.2.1, r_15, r_1.2.2.2.1, r_1.2.2.2.2.1, r_1.2.2.2.2.2.1, r_1.2.2.2.2.2.2.1, r_1.2.2.2.2.2.2.2.1, r_1.2.2.2.2.2.2.2.2.1, r_1.2.2.2.2.2.2.2.2.2.1, r_1.2.2.2.2.2.2.2.2.2.2.1, r_1.2.2.2.2.2.2.2.2.2.2.2.1, r_1.2.2.2.2.2.2.2.2.2.2.2.2.1, r_1.2.2.2.2.2.2.2.2.2.2.2.2.2.1, r_1.2.2.2.2.2.2.2.2.2.2.2.2.2.2.1, r_1.2.2.2.2.2.2.2.2.2.2.2.2.2.2.2.1, r_1.2.2.2.2.2.2.2.2.2.2.2.2.2.2.2.2.1, r_1.2.2.2.2.2.2.2.2.2.2.2.2.2.2.2.2.2.1, r_1.2.2.2.2.2.2.2.2.2.2.2.2.2.2.2.2.2.2)) x1 r_20 hc_20) rfl 1 gX8_lossOf_X8_dropPiece (by decide +kernel) ⟨Nat.le_of_ble_eq_true rfl, Nat.le_of_ble_eq_true rfl⟩ rfl 0 8 rfl rfl  Cut.all rfl (Nat.le_of_ble_eq_true rfl) dX8_lossOf_20 rfl ⟨Nat.zero_le _, Nat.zero_le _⟩ ?_
  refine V_aload_n C0 dX8_lossOf_23 1 rfl rfl ?_
  obtain ⟨r_24, hc_24, hf⟩ := bind_inv hf
  refine V_cVI (ws' := (W_M cI cJ cZ cO am r_24.2.1 r_24.2.2.1 r_24.2.2.2.1 r_24.2.2.2.2.1 r_24.2.2.2.2.2.1 r_24.2.2.2.2.2.2.1 r_24.2.2.2.2.2.2.2.1 r_24.2.2.2.2.2.2.2.2.1 r_24.2.2.2.2.2.2.2.2.2.1 r_24.2.2.2.2.2.2.2.2.2.2.1 r_24.2.2.2.2.2.2.2.2.2.2.2.1 r_24.2.2.2.2.2.2.2.2.2.2.2.2.1 r_24.2.2.2.2.2.2.2.2.2.2.2.2.2.1 r_24.2.2.2.2.2.2.2.2.2.2.2.2.2.2.1 r_24.2.2.2.2.2.2.2.2.2.2.2.2.2.2.2.1 r_24.2.2.2.2.2.2.2.2.2.2.2.2.2.2.2.2.1 r_24.2.2.2.2.2.2.2.2.2.2.2.2.2.2.2.2.2.1 r_24.2.2.2.2.2.2.2.2.2.2.2.2.2.2.2.2.2.2)) (As := []) (b := am 0) (st := []) C0 (c_X8_allCosts l dC dI cI cJ cZ cO am N r_20  r_24 hc_24) rfl 0 gX8_lossOf_X8_allCosts (by decide +kernel) ⟨Nat.le_of_ble_eq_true rfl, Nat.le_of_ble_eq_true rfl⟩ rfl 0 8 rfl rfl  Cut.all rfl (Nat.le_of_ble_eq_true rfl) dX8_lossOf_24 rfl ⟨Nat.zero_le _, Nat.zero_le _⟩ ?_
  refine V_istore_n (lv' := [(3, .int r_24.1), (2, .int r_1.1), (0, .ref (am 0)), (1, .int x1)]) C0 dX8_lossOf_27 rfl (by decide) rfl rfl ?_
  refine V_aload_n C0 dX8_lossOf_28 2 rfl rfl ?_
  refine V_get C0 fl_X8_lossOf_13 0 rfl rfl dX8_lossOf_29 rfl ?_
  refine V_iconst (v := 0) C0 dX8_lossOf_32 (by decide) rfl ?_
  refine V_aload_n C0 dX8_lossOf_33 2 rfl rfl ?_
  refine V_get C0 fl_X8_lossOf_7 0 rfl rfl dX8_lossOf_34 rfl ?_
  refine V_iconst (v := 0) C0 dX8_lossOf_37 (by decide) rfl ?_
  obtain ⟨r_38, hc_38, hf⟩ := bind_inv hf
  refine V_cSV (ws' := (W_M cI cJ cZ cO am r_38 r_24.2.2.1 r_24.2.2.2.1 r_24.2.2.2.2.1 r_24.2.2.2.2.2.1 r_24.2.2.2.2.2.2.1 r_24.2.2.2.2.2.2.2.1 r_24.2.2.2.2.2.2.2.2.1 r_24.2.2.2.2.2.2.2.2.2.1 r_24.2.2.2.2.2.2.2.2.2.2.1 r_24.2.2.2.2.2.2.2.2.2.2.2.1 r_24.2.2.2.2.2.2.2.2.2.2.2.2.1 r_24.2.2.2.2.2.2.2.2.2.2.2.2.2.1 r_24.2.2.2.2.2.2.2.2.2.2.2.2.2.2.1 r_24.2.2.2.2.2.2.2.2.2.2.2.2.2.2.2.1 r_24.2.2.2.2.2.2.2.2.2.2.2.2.2.2.2.2.1 r_24.2.2.2.2.2.2.2.2.2.2.2.2.2.2.2.2.2.1 r_24.2.2.2.2.2.2.2.2.2.2.2.2.2.2.2.2.2.2)) (As := [.ref (am 2), .int 0, .ref (am 1), .int 0]) (st := []) C0 (c_X8_copy l dC dI cI cJ cZ cO (fun _ => am 2) (fun _ => am 1) N 210 r_24.2.2.1 210 r_24.2.1 0 0 r_38 hc_38) rfl 4 gX8_lossOf_X8_copy (by decide +kernel) ⟨Nat.le_of_ble_eq_true rfl, Nat.le_of_ble_eq_true rfl⟩ rfl  ⟨_, (psw (pcr (pct (pcte (pcr (pcr (pcr (pcr (pcr (pcr (pcr (pcr (pcr (pcr (pcr (pcr (pcr pn))))))))))))))))), fun _ => (psw (pcr (pct (pcte (pcr (pcr (pcr (pcr (pcr (pcr (pcr (pcr (pcr (pcr (pcr (pcr (pcr pn)))))))))))))))))⟩ rfl (Nat.le_of_ble_eq_true rfl) dX8_lossOf_38 rfl ⟨Nat.zero_le _, Nat.zero_le _⟩ ?_
  refine V_iload_n C0 dX8_lossOf_41 0 rfl rfl ?_
  refine V_iload_n C0 dX8_lossOf_42 1 rfl rfl ?_
  refine V_isub C0 dX8_lossOf_43 rfl ?_
  obtain rfl := some_inv hf
  exact V_iret C0 () rfl rfl dX8_lossOf_44
abbrev RM_X8_leastOf : Room := { frames := 8, cells := 0, slots := 0, locals := 186 }
theorem in_X8_leastOf_X8 : ∀ w ∈ u_ws RX8 TX8 18, w ∈ wsX8_leastOf := by decide +kernel
theorem fl_X8_leastOf_7 : FL RX8 wsX8_leastOf 8 7 0 RX8 TX8 18 := ⟨in_X8_leastOf_X8, rfl, by decide, by decide +kernel, rfl⟩
set_option maxRecDepth 100000 in
set_option maxHeartbeats 4000000 in
theorem c_X8_leastOf (l : Launch) (dC : Nat → ClassId) (dI : Nat → Nat → Nat) (cI cJ cZ cO : ClassId) (am : Nat → Nat) (N : Nat) (mo : MV) (o : Int32 × MV) (hf : f_X8_leastOf N mo = some o) : MetI l yX8_leastOf wsX8_leastOf RM_X8_leastOf (dC, dI) (TY cI cJ cZ cO) [.ref (am 0)] (W_M cI cJ cZ cO am mo.1 mo.2.1 mo.2.2.1 mo.2.2.2.1 mo.2.2.2.2.1 mo.2.2.2.2.2.1 mo.2.2.2.2.2.2.1 mo.2.2.2.2.2.2.2.1 mo.2.2.2.2.2.2.2.2.1 mo.2.2.2.2.2.2.2.2.2.1 mo.2.2.2.2.2.2.2.2.2.2.1 mo.2.2.2.2.2.2.2.2.2.2.2.1 mo.2.2.2.2.2.2.2.2.2.2.2.2.1 mo.2.2.2.2.2.2.2.2.2.2.2.2.2.1 mo.2.2.2.2.2.2.2.2.2.2.2.2.2.2.1 mo.2.2.2.2.2.2.2.2.2.2.2.2.2.2.2.1 mo.2.2.2.2.2.2.2.2.2.2.2.2.2.2.2.2.1 mo.2.2.2.2.2.2.2.2.2.2.2.2.2.2.2.2.2) (fun r (_ : Unit) => r = o.1) (fun _ => (W_M cI cJ cZ cO am o.2.1 o.2.2.1 o.2.2.2.1 o.2.2.2.2.1 o.2.2.2.2.2.1 o.2.2.2.2.2.2.1 o.2.2.2.2.2.2.2.1 o.2.2.2.2.2.2.2.2.1 o.2.2.2.2.2.2.2.2.2.1 o.2.2.2.2.2.2.2.2.2.2.1 o.2.2.2.2.2.2.2.2.2.2.2.1 o.2.2.2.2.2.2.2.2.2.2.2.2.1 o.2.2.2.2.2.2.2.2.2.2.2.2.2.1 o.2.2.2.2.2.2.2.2.2.2.2.2.2.2.1 o.2.2.2.2.2.2.2.2.2.2.2.2.2.2.2.1 o.2.2.2.2.2.2.2.2.2.2.2.2.2.2.2.2.1 o.2.2.2.2.2.2.2.2.2.2.2.2.2.2.2.2.2.1 o.2.2.2.2.2.2.2.2.2.2.2.2.2.2.2.2.2.2)) := by
  refine MetI.ofV (cc := cX8_leastOf) (maxL := 6) (ret := (some .int)) (own := RX8) (lv0 := [(0, .ref (am 0))]) (by decide) rfl rfl (Nat.le_of_ble_eq_true rfl) rfl ?_
  intro p e s m below meth c A C0 _
  unfold f_X8_leastOf at hf
  refine V_bipush (v := (-6)) C0 dX8_leastOf_0 (by decide) rfl ?_
  refine V_istore_n (lv' := [(1, .int ((-6))), (0, .ref (am 0))]) C0 dX8_leastOf_2 rfl (by decide) rfl rfl ?_
  refine V_iconst (v := 0) C0 dX8_leastOf_3 (by decide) rfl ?_
  refine V_istore_n (lv' := [(2, .int 0), (1, .int ((-6))), (0, .ref (am 0))]) C0 dX8_leastOf_4 rfl (by decide) rfl rfl ?_
  refine V_iconst (v := 0) C0 dX8_leastOf_5 (by decide) rfl ?_
  refine V_istore_n (lv' := [(3, .int 0), (2, .int 0), (1, .int ((-6))), (0, .ref (am 0))]) C0 dX8_leastOf_6 rfl (by decide) rfl rfl ?_
  have hL7 : ∀ (K : Int32 → MV → Option (Int32 × MV)), (∀ (x1 : Int32) (mo : MV), K x1 mo = some o → V p l e RM_X8_leastOf s m ([.ref (am 0)] : List Value).toArray below meth c 6 (dC, dI) A (MQ below (va_Qi (fun r (_ : Unit) => r = o.1) (PostW (dC, dI) (TY cI cJ cZ cO) A (fun _ => (W_M cI cJ cZ cO am o.2.1 o.2.2.1 o.2.2.2.1 o.2.2.2.2.1 o.2.2.2.2.2.1 o.2.2.2.2.2.2.1 o.2.2.2.2.2.2.2.1 o.2.2.2.2.2.2.2.2.1 o.2.2.2.2.2.2.2.2.2.1 o.2.2.2.2.2.2.2.2.2.2.1 o.2.2.2.2.2.2.2.2.2.2.2.1 o.2.2.2.2.2.2.2.2.2.2.2.2.1 o.2.2.2.2.2.2.2.2.2.2.2.2.2.1 o.2.2.2.2.2.2.2.2.2.2.2.2.2.2.1 o.2.2.2.2.2.2.2.2.2.2.2.2.2.2.2.1 o.2.2.2.2.2.2.2.2.2.2.2.2.2.2.2.2.1 o.2.2.2.2.2.2.2.2.2.2.2.2.2.2.2.2.2.1 o.2.2.2.2.2.2.2.2.2.2.2.2.2.2.2.2.2.2))) A) ([.ref (am 0)] : List Value).toArray s 0 0 A) 0 0 (W_M cI cJ cZ cO am mo.1 mo.2.1 mo.2.2.1 mo.2.2.2.1 mo.2.2.2.2.1 mo.2.2.2.2.2.1 mo.2.2.2.2.2.2.1 mo.2.2.2.2.2.2.2.1 mo.2.2.2.2.2.2.2.2.1 mo.2.2.2.2.2.2.2.2.2.1 mo.2.2.2.2.2.2.2.2.2.2.1 mo.2.2.2.2.2.2.2.2.2.2.2.1 mo.2.2.2.2.2.2.2.2.2.2.2.2.1 mo.2.2.2.2.2.2.2.2.2.2.2.2.2.1 mo.2.2.2.2.2.2.2.2.2.2.2.2.2.2.1 mo.2.2.2.2.2.2.2.2.2.2.2.2.2.2.2.1 mo.2.2.2.2.2.2.2.2.2.2.2.2.2.2.2.2.1 mo.2.2.2.2.2.2.2.2.2.2.2.2.2.2.2.2.2) 93 [(1, .int x1)] []) → ∀ (n : Nat) (x1 : Int32) (x2 : Int32) (x3 : Int32) (mo : MV), f_X8_leastOf_L7 N   K n x1 x2 x3 mo = some o → V p l e RM_X8_leastOf s m ([.ref (am 0)] : List Value).toArray below meth c 6 (dC, dI) A (MQ below (va_Qi (fun r (_ : Unit) => r = o.1) (PostW (dC, dI) (TY cI cJ cZ cO) A (fun _ => (W_M cI cJ cZ cO am o.2.1 o.2.2.1 o.2.2.2.1 o.2.2.2.2.1 o.2.2.2.2.2.1 o.2.2.2.2.2.2.1 o.2.2.2.2.2.2.2.1 o.2.2.2.2.2.2.2.2.1 o.2.2.2.2.2.2.2.2.2.1 o.2.2.2.2.2.2.2.2.2.2.1 o.2.2.2.2.2.2.2.2.2.2.2.1 o.2.2.2.2.2.2.2.2.2.2.2.2.1 o.2.2.2.2.2.2.2.2.2.2.2.2.2.1 o.2.2.2.2.2.2.2.2.2.2.2.2.2.2.1 o.2.2.2.2.2.2.2.2.2.2.2.2.2.2.2.1 o.2.2.2.2.2.2.2.2.2.2.2.2.2.2.2.2.1 o.2.2.2.2.2.2.2.2.2.2.2.2.2.2.2.2.2.1 o.2.2.2.2.2.2.2.2.2.2.2.2.2.2.2.2.2.2))) A) ([.ref (am 0)] : List Value).toArray s 0 0 A) 0 0 (W_M cI cJ cZ cO am mo.1 mo.2.1 mo.2.2.1 mo.2.2.2.1 mo.2.2.2.2.1 mo.2.2.2.2.2.1 mo.2.2.2.2.2.2.1 mo.2.2.2.2.2.2.2.1 mo.2.2.2.2.2.2.2.2.1 mo.2.2.2.2.2.2.2.2.2.1 mo.2.2.2.2.2.2.2.2.2.2.1 mo.2.2.2.2.2.2.2.2.2.2.2.1 mo.2.2.2.2.2.2.2.2.2.2.2.2.1 mo.2.2.2.2.2.2.2.2.2.2.2.2.2.1 mo.2.2.2.2.2.2.2.2.2.2.2.2.2.2.1 mo.2.2.2.2.2.2.2.2.2.2.2.2.2.2.2.1 mo.2.2.2.2.2.2.2.2.2.2.2.2.2.2.2.2.1 mo.2.2.2.2.2.2.2.2.2.2.2.2.2.2.2.2.2) 7 [(0, .ref (am 0)), (1, .int x1), (2, .int x2), (3, .int x3)] [] := by
    intro  K hK n
    induction n with
    | zero => intro x1 x2 x3 mo hf; cases hf
    | succ n hREC =>
      intro x1 x2 x3 mo hf
      rw [f_X8_leastOf_L7] at hf
      refine V_iload_n C0 dX8_leastOf_7 3 rfl rfl ?_
      refine V_aload_n C0 dX8_leastOf_8 0 rfl rfl ?_
      refine V_get C0 fl_X8_leastOf_7 0 rfl rfl dX8_leastOf_9 rfl ?_
      refine V_iconst (v := 0) C0 dX8_leastOf_12 (by decide) rfl ?_
      obtain ⟨hi13, hf⟩ := ck_inv hf
      refine V_iald C0 1 0 rfl rfl hi13 dX8_leastOf_13 rfl ?_
      refine V_icmp_ge (tgt := 93) C0 dX8_leastOf_14 (by decide) rfl (fun c14 => ?_) (fun c14 => ?_)
      · have hf := ite_t c14 hf
        exact V.sub [1] rfl (hK x1 mo hf)
      · have hf := ite_f c14 hf
        refine V_aload_n C0 dX8_leastOf_17 0 rfl rfl ?_
        refine V_iload_n C0 dX8_leastOf_18 3 rfl rfl ?_
        obtain ⟨r_19, hc_19, hf⟩ := bind_inv hf
        refine V_cVI (ws' := (W_M cI cJ cZ cO am r_19.2.1 r_19.2.2.1 r_19.2.2.2.1 r_19.2.2.2.2.1 r_19.2.2.2.2.2.1 r_19.2.2.2.2.2.2.1 r_19.2.2.2.2.2.2.2.1 r_19.2.2.2.2.2.2.2.2.1 r_19.2.2.2.2.2.2.2.2.2.1 r_19.2.2.2.2.2.2.2.2.2.2.1 r_19.2.2.2.2.2.2.2.2.2.2.2.1 r_19.2.2.2.2.2.2.2.2.2.2.2.2.1 r_19.2.2.2.2.2.2.2.2.2.2.2.2.2.1 r_19.2.2.2.2.2.2.2.2.2.2.2.2.2.2.1 r_19.2.2.2.2.2.2.2.2.2.2.2.2.2.2.2.1 r_19.2.2.2.2.2.2.2.2.2.2.2.2.2.2.2.2.1 r_19.2.2.2.2.2.2.2.2.2.2.2.2.2.2.2.2.2.1 r_19.2.2.2.2.2.2.2.2.2.2.2.2.2.2.2.2.2.2)) (As := [.int x3]) (b := am 0) (st := []) C0 (c_X8_lossOf l dC dI cI cJ cZ cO am N mo x3 r_19 hc_19) rfl 1 gX8_leastOf_X8_lossOf (by decide +kernel) ⟨Nat.le_of_ble_eq_true rfl, Nat.le_of_ble_eq_true rfl⟩ rfl 0 8 rfl rfl  Cut.all rfl (Nat.le_of_ble_eq_true rfl) dX8_leastOf_19 rfl ⟨Nat.zero_le _, Nat.zero_le _⟩ ?_
        refine V_istore (lv' := [(4, .int r_19.1), (0, .ref (am 0)), (1, .int x1), (2, .int x2), (3, .int x3)]) C0 dX8_leastOf_22 (by decide) rfl rfl ?_
        refine V_iload_n C0 dX8_leastOf_24 2 rfl rfl ?_
        refine V_bipush (v := (-6)) C0 dX8_leastOf_25 (by decide) rfl ?_
        refine jn_elim hf (fun (J : Int32 → Option (Int32 × MV)) => ∀ (s0_62 : Int32), J s0_62 = some o → V p l e RM_X8_leastOf s m ([.ref (am 0)] : List Value).toArray below meth c 6 (dC, dI) A (MQ below (va_Qi (fun r (_ : Unit) => r = o.1) (PostW (dC, dI) (TY cI cJ cZ cO) A (fun _ => (W_M cI cJ cZ cO am o.2.1 o.2.2.1 o.2.2.2.1 o.2.2.2.2.1 o.2.2.2.2.2.1 o.2.2.2.2.2.2.1 o.2.2.2.2.2.2.2.1 o.2.2.2.2.2.2.2.2.1 o.2.2.2.2.2.2.2.2.2.1 o.2.2.2.2.2.2.2.2.2.2.1 o.2.2.2.2.2.2.2.2.2.2.2.1 o.2.2.2.2.2.2.2.2.2.2.2.2.1 o.2.2.2.2.2.2.2.2.2.2.2.2.2.1 o.2.2.2.2.2.2.2.2.2.2.2.2.2.2.1 o.2.2.2.2.2.2.2.2.2.2.2.2.2.2.2.1 o.2.2.2.2.2.2.2.2.2.2.2.2.2.2.2.2.1 o.2.2.2.2.2.2.2.2.2.2.2.2.2.2.2.2.2.1 o.2.2.2.2.2.2.2.2.2.2.2.2.2.2.2.2.2.2))) A) ([.ref (am 0)] : List Value).toArray s 0 0 A) 0 0 (W_M cI cJ cZ cO am r_19.2.1 r_19.2.2.1 r_19.2.2.2.1 r_19.2.2.2.2.1 r_19.2.2.2.2.2.1 r_19.2.2.2.2.2.2.1 r_19.2.2.2.2.2.2.2.1 r_19.2.2.2.2.2.2.2.2.1 r_19.2.2.2.2.2.2.2.2.2.1 r_19.2.2.2.2.2.2.2.2.2.2.1 r_19.2.2.2.2.2.2.2.2.2.2.2.1 r_19.2.2.2.2.2.2.2.2.2.2.2.2.1 r_19.2.2.2.2.2.2.2.2.2.2.2.2.2.1 r_19.2.2.2.2.2.2.2.2.2.2.2.2.2.2.1 r_19.2.2.2.2.2.2.2.2.2.2.2.2.2.2.2.1 r_19.2.2.2.2.2.2.2.2.2.2.2.2.2.2.2.2.1 r_19.2.2.2.2.2.2.2.2.2.2.2.2.2.2.2.2.2.1 r_19.2.2.2.2.2.2.2.2.2.2.2.2.2.2.2.2.2.2) 62 [(0, .ref (am 0)), (1, .int x1), (2, .int x2), (3, .int x3), (4, .int r_19.1)] [.int s0_62]) ?_ ?_
        · intro s0_62 hf
          refine V_istore (lv' := [(5, .int s0_62), (0, .ref (am 0)), (1, .int x1), (2, .int x2), (3, .int x3), (4, .int r_19.1)]) C0 dX8_leastOf_62 (by decide) rfl rfl ?_
          refine V_iload C0 dX8_leastOf_64 0 rfl rfl ?_
          refine jn_elim hf (fun (J : Int32 → Option (Int32 × MV)) => ∀ (s0_74 : Int32), J s0_74 = some o → V p l e RM_X8_leastOf s m ([.ref (am 0)] : List Value).toArray below meth c 6 (dC, dI) A (MQ below (va_Qi (fun r (_ : Unit) => r = o.1) (PostW (dC, dI) (TY cI cJ cZ cO) A (fun _ => (W_M cI cJ cZ cO am o.2.1 o.2.2.1 o.2.2.2.1 o.2.2.2.2.1 o.2.2.2.2.2.1 o.2.2.2.2.2.2.1 o.2.2.2.2.2.2.2.1 o.2.2.2.2.2.2.2.2.1 o.2.2.2.2.2.2.2.2.2.1 o.2.2.2.2.2.2.2.2.2.2.1 o.2.2.2.2.2.2.2.2.2.2.2.1 o.2.2.2.2.2.2.2.2.2.2.2.2.1 o.2.2.2.2.2.2.2.2.2.2.2.2.2.1 o.2.2.2.2.2.2.2.2.2.2.2.2.2.2.1 o.2.2.2.2.2.2.2.2.2.2.2.2.2.2.2.1 o.2.2.2.2.2.2.2.2.2.2.2.2.2.2.2.2.1 o.2.2.2.2.2.2.2.2.2.2.2.2.2.2.2.2.2.1 o.2.2.2.2.2.2.2.2.2.2.2.2.2.2.2.2.2.2))) A) ([.ref (am 0)] : List Value).toArray s 0 0 A) 0 0 (W_M cI cJ cZ cO am r_19.2.1 r_19.2.2.1 r_19.2.2.2.1 r_19.2.2.2.2.1 r_19.2.2.2.2.2.1 r_19.2.2.2.2.2.2.1 r_19.2.2.2.2.2.2.2.1 r_19.2.2.2.2.2.2.2.2.1 r_19.2.2.2.2.2.2.2.2.2.1 r_19.2.2.2.2.2.2.2.2.2.2.1 r_19.2.2.2.2.2.2.2.2.2.2.2.1 r_19.2.2.2.2.2.2.2.2.2.2.2.2.1 r_19.2.2.2.2.2.2.2.2.2.2.2.2.2.1 r_19.2.2.2.2.2.2.2.2.2.2.2.2.2.2.1 r_19.2.2.2.2.2.2.2.2.2.2.2.2.2.2.2.1 r_19.2.2.2.2.2.2.2.2.2.2.2.2.2.2.2.2.1 r_19.2.2.2.2.2.2.2.2.2.2.2.2.2.2.2.2.2.1 r_19.2.2.2.2.2.2.2.2.2.2.2.2.2.2.2.2.2.2) 74 [(0, .ref (am 0)), (2, .int x2), (3, .int x3), (4, .int r_19.1), (5, .int s0_62)] [.int s0_74]) ?_ ?_
          · intro s0_74 hf
            refine V_istore_n (lv' := [(1, .int s0_74), (0, .ref (am 0)), (2, .int x2), (3, .int x3), (4, .int r_19.1), (5, .int s0_62)]) C0 dX8_leastOf_74 rfl (by decide) rfl rfl ?_
            refine V_iload C0 dX8_leastOf_75 5 rfl rfl ?_
            refine V_if_eq (tgt := 85) C0 dX8_leastOf_77 (by decide) rfl (fun c77 => ?_) (fun c77 => ?_)
            · have hf := ite_t c77 hf
              refine V_iload_n C0 dX8_leastOf_85 2 rfl rfl ?_
              refine V_istore_n (lv' := [(2, .int x2), (1, .int s0_74), (0, .ref (am 0)), (3, .int x3), (4, .int r_19.1), (5, .int s0_62)]) C0 dX8_leastOf_86 rfl (by decide) rfl rfl ?_
              refine V_iinc (k := 3) (v := x3 + 1) (lv' := [(3, .int (x3 + 1)), (2, .int x2), (1, .int s0_74), (0, .ref (am 0)), (4, .int r_19.1), (5, .int s0_62)]) C0 dX8_leastOf_87 rfl rfl (by decide) rfl rfl ?_
              refine V_goto (tgt := 7) C0 dX8_leastOf_90 (by decide) ?_
              exact V.sub [3, 2, 1, 0] rfl (hREC s0_74 x2 (x3 + 1) r_19.2 hf)
            · have hf := ite_f c77 hf
              refine V_iload C0 dX8_leastOf_80 4 rfl rfl ?_
              refine V_goto (tgt := 86) C0 dX8_leastOf_82 (by decide) ?_
              refine V_istore_n (lv' := [(2, .int r_19.1), (1, .int s0_74), (0, .ref (am 0)), (3, .int x3), (4, .int r_19.1), (5, .int s0_62)]) C0 dX8_leastOf_86 rfl (by decide) rfl rfl ?_
              refine V_iinc (k := 3) (v := x3 + 1) (lv' := [(3, .int (x3 + 1)), (2, .int r_19.1), (1, .int s0_74), (0, .ref (am 0)), (4, .int r_19.1), (5, .int s0_62)]) C0 dX8_leastOf_87 rfl rfl (by decide) rfl rfl ?_
              refine V_goto (tgt := 7) C0 dX8_leastOf_90 (by decide) ?_
              exact V.sub [3, 2, 1, 0] rfl (hREC s0_74 r_19.1 (x3 + 1) r_19.2 hf)
          · intro J74 hJ74 hf
            refine V_if_eq (tgt := 73) C0 dX8_leastOf_66 (by decide) rfl (fun c66 => ?_) (fun c66 => ?_)
            · have hf := ite_t c66 hf
              refine V_iload_n C0 dX8_leastOf_73 2 rfl rfl ?_
              exact V.sub [1, 3, 4, 5, 0] rfl (hJ74 x1 hf)
            · have hf := ite_f c66 hf
              refine V_iload_n C0 dX8_leastOf_69 4 rfl rfl ?_
              refine V_goto (tgt := 74) C0 dX8_leastOf_70 (by decide) ?_
              exact V.sub [1, 3, 4, 5, 0] rfl (hJ74 x3 hf)
        · intro J62 hJ62 hf
          refine jn_elim hf (fun (J : Unit → Option (Int32 × MV)) => ∀ (u : Unit), J u = some o → V p l e RM_X8_leastOf s m ([.ref (am 0)] : List Value).toArray below meth c 6 (dC, dI) A (MQ below (va_Qi (fun r (_ : Unit) => r = o.1) (PostW (dC, dI) (TY cI cJ cZ cO) A (fun _ => (W_M cI cJ cZ cO am o.2.1 o.2.2.1 o.2.2.2.1 o.2.2.2.2.1 o.2.2.2.2.2.1 o.2.2.2.2.2.2.1 o.2.2.2.2.2.2.2.1 o.2.2.2.2.2.2.2.2.1 o.2.2.2.2.2.2.2.2.2.1 o.2.2.2.2.2.2.2.2.2.2.1 o.2.2.2.2.2.2.2.2.2.2.2.1 o.2.2.2.2.2.2.2.2.2.2.2.2.1 o.2.2.2.2.2.2.2.2.2.2.2.2.2.1 o.2.2.2.2.2.2.2.2.2.2.2.2.2.2.1 o.2.2.2.2.2.2.2.2.2.2.2.2.2.2.2.1 o.2.2.2.2.2.2.2.2.2.2.2.2.2.2.2.2.1 o.2.2.2.2.2.2.2.2.2.2.2.2.2.2.2.2.2.1 o.2.2.2.2.2.2.2.2.2.2.2.2.2.2.2.2.2.2))) A) ([.ref (am 0)] : List Value).toArray s 0 0 A) 0 0 (W_M cI cJ cZ cO am r_19.2.1 r_19.2.2.1 r_19.2.2.2.1 r_19.2.2.2.2.1 r_19.2.2.2.2.2.1 r_19.2.2.2.2.2.2.1 r_19.2.2.2.2.2.2.2.1 r_19.2.2.2.2.2.2.2.2.1 r_19.2.2.2.2.2.2.2.2.2.1 r_19.2.2.2.2.2.2.2.2.2.2.1 r_19.2.2.2.2.2.2.2.2.2.2.2.1 r_19.2.2.2.2.2.2.2.2.2.2.2.2.1 r_19.2.2.2.2.2.2.2.2.2.2.2.2.2.1 r_19.2.2.2.2.2.2.2.2.2.2.2.2.2.2.1 r_19.2.2.2.2.2.2.2.2.2.2.2.2.2.2.2.1 r_19.2.2.2.2.2.2.2.2.2.2.2.2.2.2.2.2.1 r_19.2.2.2.2.2.2.2.2.2.2.2.2.2.2.2.2.2.1 r_19.2.2.2.2.2.2.2.2.2.2.2.2.2.2.2.2.2.2) 57 [(0, .ref (am 0)), (1, .int x1), (2, .int x2), (3, .int x3), (4, .int r_19.1)] []) ?_ ?_
          · intro u hf
            refine V_iconst (v := 1) C0 dX8_leastOf_57 (by decide) rfl ?_
            refine V_goto (tgt := 62) C0 dX8_leastOf_58 (by decide) ?_
            exact V.sub [0, 1, 2, 3, 4] rfl (hJ62 1 hf)
          · intro J57 hJ57 hf
            refine V_icmp_eq (tgt := 57) C0 dX8_leastOf_27 (by decide) rfl (fun c27 => ?_) (fun c27 => ?_)
            · have hf := ite_t c27 hf
              exact V.sub [1, 2, 3, 4, 0] rfl (hJ57 () hf)
            · have hf := ite_f c27 hf
              refine V_iload C0 dX8_leastOf_30 0 rfl rfl ?_
              refine V_iload_n C0 dX8_leastOf_32 3 rfl rfl ?_
              refine V_icmp_lt (tgt := 57) C0 dX8_leastOf_33 (by decide) rfl (fun c33 => ?_) (fun c33 => ?_)
              · have hf := ite_t c33 hf
                exact V.sub [1, 2, 3, 4, 0] rfl (hJ57 () hf)
              · have hf := ite_f c33 hf
                refine V_iload C0 dX8_leastOf_36 0 rfl rfl ?_
                refine V_iload_n C0 dX8_leastOf_38 3 rfl rfl ?_
                refine V_icmp_ne (tgt := 61) C0 dX8_leastOf_39 (by decide) rfl (fun c39 => ?_) (fun c39 => ?_)
                · have hf := ite_f c39 hf
                  refine V_iconst (v := 0) C0 dX8_leastOf_61 (by decide) rfl ?_
                  exact V.sub [1, 2, 3, 4, 0] rfl (hJ62 0 hf)
                · have hf := ite_t c39 hf
                  refine V_aload_n C0 dX8_leastOf_42 1 rfl rfl ?_
                  refine V_iload_n C0 dX8_leastOf_43 4 rfl rfl ?_
                  refine V_iconst (v := 1) C0 dX8_leastOf_44 (by decide) rfl ?_
                  obtain ⟨r_45, hc_45, hf⟩ := bind_inv hf
                  refine V_cVI (ws' := (W_M cI cJ cZ cO am r_19.2.1 r_19.2.2.1 r_19.2.2.2.1 r_19.2.2.2.2.1 r_19.2.2.2.2.2.1 r_19.2.2.2.2.2.2.1 r_19.2.2.2.2.2.2.2.1 r_19.2.2.2.2.2.2.2.2.1 r_19.2.2.2.2.2.2.2.2.2.1 r_19.2.2.2.2.2.2.2.2.2.2.1 r_19.2.2.2.2.2.2.2.2.2.2.2.1 r_19.2.2.2.2.2.2.2.2.2.2.2.2.1 r_19.2.2.2.2.2.2.2.2.2.2.2.2.2.1 r_19.2.2.2.2.2.2.2.2.2.2.2.2.2.2.1 r_19.2.2.2.2.2.2.2.2.2.2.2.2.2.2.2.1 r_19.2.2.2.2.2.2.2.2.2.2.2.2.2.2.2.2.1 r_19.2.2.2.2.2.2.2.2.2.2.2.2.2.2.2.2.2.1 r_19.2.2.2.2.2.2.2.2.2.2.2.2.2.2.2.2.2.2)) (As := [.int x3, .int 1]) (b := am 0) (st := []) C0 (c_X8_piecePart l dC dI cI cJ cZ cO am N r_19.2 x3 1 r_45 hc_45) rfl 2 gX8_leastOf_X8_piecePart (by decide +kernel) ⟨Nat.le_of_ble_eq_true rfl, Nat.le_of_ble_eq_true rfl⟩ rfl 0 8 rfl rfl  Cut.all rfl (Nat.le_of_ble_eq_true rfl) dX8_leastOf_45 rfl ⟨Nat.zero_le _, Nat.zero_le _⟩ ?_
                  refine V_aload_n C0 dX8_leastOf_48 1 rfl rfl ?_
                  refine V_iload_n C0 dX8_leastOf_49 2 rfl rfl ?_
                  refine V_iconst (v := 1) C0 dX8_leastOf_50 (by decide) rfl ?_
                  obtain ⟨r_51, hc_51, hf⟩ := bind_inv hf
                  refine V_cVI (ws' := (W_M cI cJ cZ cO am r_19.2.1 r_19.2.2.1 r_19.2.2.2.1 r_19.2.2.2.2.1 r_19.2.2.2.2.2.1 r_19.2.2.2.2.2.2.1 r_19.2.2.2.2.2.2.2.1 r_19.2.2.2.2.2.2.2.2.1 r_19.2.2.2.2.2.2.2.2.2.1 r_19.2.2.2.2.2.2.2.2.2.2.1 r_19.2.2.2.2.2.2.2.2.2.2.2.1 r_19.2.2.2.2.2.2.2.2.2.2.2.2.1 r_19.2.2.2.2.2.2.2.2.2.2.2.2.2.1 r_19.2.2.2.2.2.2.2.2.2.2.2.2.2.2.1 r_19.2.2.2.2.2.2.2.2.2.2.2.2.2.2.2.1 r_19.2.2.2.2.2.2.2.2.2.2.2.2.2.2.2.2.1 r_19.2.2.2.2.2.2.2.2.2.2.2.2.2.2.2.2.2.1 r_19.2.2.2.2.2.2.2.2.2.2.2.2.2.2.2.2.2.2)) (As := [.int x1, .int 1]) (b := am 0) (st := [.int r_45]) C0 (c_X8_piecePart l dC dI cI cJ cZ cO am N r_19.2 x1 1 r_51 hc_51) rfl 2 gX8_leastOf_X8_piecePart (by decide +kernel) ⟨Nat.le_of_ble_eq_true rfl, Nat.le_of_ble_eq_true rfl⟩ rfl 0 8 rfl rfl  Cut.all rfl (Nat.le_of_ble_eq_true rfl) dX8_leastOf_51 rfl ⟨Nat.zero_le _, Nat.zero_le _⟩ ?_
                  refine V_icmp_gt (tgt := 61) C0 dX8_leastOf_54 (by decide) rfl (fun c54 => ?_) (fun c54 => ?_)
                  · have hf := ite_t c54 hf
                    refine V_iconst (v := 0) C0 dX8_leastOf_61 (by decide) rfl ?_
                    exact V.sub [1, 2, 3, 4, 0] rfl (hJ62 0 hf)
                  · have hf := ite_f c54 hf
                    exact V.sub [1, 2, 3, 4, 0] rfl (hJ57 () hf)
  refine V.sub [3, 2, 1, 0] rfl (hL7  _ ?_ N ((-6)) 0 0 mo hf)
  intro x1_7 mo_7 hf
  refine V_iload_n C0 dX8_leastOf_93 0 rfl rfl ?_
  obtain rfl := some_inv hf
  exact V_iret C0 () rfl rfl dX8_leastOf_94
