def f_X8_count_L10 (N : Nat) (x1 : Int32)  (K : Int32 → Int32 → Int32 → MV → Option (Int32 × MV)) : Nat → Int32 → Int32 → Int32 → Int32 → MV → Option (Int32 × MV)
  | 0, _, _, _, _, _ => none
  | n+1, x2, x3, x4, x5, mo => ck 1 210 (if (mo.1 ((1 : Int32).toNatClampNeg)) ≤ x5 then K x2 x3 x4 mo else (f_X8_findCut N mo x5).bind (fun (r_24 : MV) => (f_X8_wordPart N r_24 x5 0).bind (fun (r_32 : Int32) => (f_X8_wordPart N r_24 x5 1).bind (fun (r_39 : Int32) => bd (x2 + (r_32 * r_39)) (fun (x2_1 : Int32) => ck 0 13 ((f_X8_wordPart N r_24 x5 1).bind (fun (r_56 : Int32) => bd (x3 + ((r_24.2.2.2.2.2.2.2.2.2.1 ((0 : Int32).toNatClampNeg)) * r_56)) (fun (x3_2 : Int32) => (f_X8_unseenIn N r_24 x5).bind (fun (r_67 : Int32) => (f_X8_wordPart N r_24 x5 1).bind (fun (r_74 : Int32) => bd (x4 + (r_67 * r_74)) (fun (x4_3 : Int32) => f_X8_count_L10 N x1  K n x2_1 x3_2 x4_3 (x5 + 1) r_24)))))))))))
def f_X8_count (N : Nat) (mo : MV) (x1 : Int32) : Option (Int32 × MV) := f_X8_count_L10 N x1  (fun (x2_10 : Int32) (x3_10 : Int32) (x4_10 : Int32) (mo_10 : MV) => if x1 = 0 then ck 0 210 (some (mo_10.1 ((0 : Int32).toNatClampNeg), mo_10)) else if x1 = 1 then ck 1 210 (some (mo_10.1 ((1 : Int32).toNatClampNeg), mo_10)) else if x1 = 2 then some (x3_10 + x4_10, mo_10) else if x1 = 3 then some (x2_10, mo_10) else if x1 = 4 then some (x3_10, mo_10) else if x1 = 5 then some (x4_10, mo_10) else if x1 = 6 then some (mo_10.2.2.2.2.2.2.2.1, mo_10) else if x1 = 7 then some (mo_10.2.2.2.1, mo_10) else some ((-2), mo_10)) N 0 0 0 0 mo
def f_X8_costWith (N : Nat) (mo : MV) (x1 : Int32) : Option (Int32 × MV) := (f_X8_whyNoPiece N mo x1).bind (fun (r_2 : Int32) => if 0 ≤ r_2 then (f_X8_padText N mo 4).bind (fun (r_15 : Int32) => (f_X8_addPiece N mo r_15 x1).bind (fun (r_19 : Int32 × MV) => (f_X8_allCosts N r_19.2 ).bind (fun (r_24 : Int32 × MV) => ck 0 210 (ck 0 210 (some (r_24.1, (upd r_24.2.1 ((0 : Int32).toNatClampNeg) ((r_24.2.1 ((0 : Int32).toNatClampNeg)) - 1), r_24.2.2.1, r_24.2.2.2.1, r_24.2.2.2.2.1, r_24.2.2.2.2.2.1, r_24.2.2.2.2.2.2.1, r_24.2.2.2.2.2.2.2.1, r_24.2.2.2.2.2.2.2.2.1, r_24.2.2.2.2.2.2.2.2.2.1, r_24.2.2.2.2.2.2.2.2.2.2.1, r_24.2.2.2.2.2.2.2.2.2.2.2.1, r_24.2.2.2.2.2.2.2.2.2.2.2.2.1, r_24.2.2.2.2.2.2.2.2.2.2.2.2.2.1, r_24.2.2.2.2.2.2.2.2.2.2.2.2.2.2.1, r_24.2.2.2.2.2.2.2.2.2.2.2.2.2.2.2.1, r_24.2.2.2.2.2.2.2.2.2.2.2.2.2.2.2.2.1, r_24.2.2.2.2.2.2.2.2.2.2.2.2.2.2.2.2.2.1, r_24.2.2.2.2.2.2.2.2.2.2.2.2.2.2.2.2.2.2))))))) else some (r_2, mo))
def f_X8_growing (N : Nat) (mo : MV) (x1 : Int32) : Option (Int32 × MV) := (f_X8_within N  x1 0 6).bind (fun (r_4 : Int32) => if r_4 = 0 then some ((-2), mo) else (f_X8_growsAt N mo ).bind (fun (r_14 : Int32 × MV) => if r_14.1 = ((-6)) then some ((-6), r_14.2) else if x1 = 0 then ck r_14.1 88 ((f_X8_lengthOf N  (r_14.2.2.2.2.2.2.2.2.2.2.2.2.2.2.1 (r_14.1.toNatClampNeg))).bind (fun (r_37 : Int32) => some (r_37, r_14.2))) else if x1 = 1 then ck r_14.1 88 ((f_X8_standsSo N r_14.2 (r_14.2.2.2.2.2.2.2.2.2.2.2.2.2.2.1 (r_14.1.toNatClampNeg))).bind (fun (r_55 : Int32) => some (r_55, r_14.2))) else if x1 = 2 then ck r_14.1 88 (some (r_14.2.2.2.2.2.2.2.2.2.2.2.2.2.2.2.2.1 (r_14.1.toNatClampNeg), r_14.2)) else ck r_14.1 88 ((f_X8_letterOf N  (r_14.2.2.2.2.2.2.2.2.2.2.2.2.2.2.1 (r_14.1.toNatClampNeg)) (x1 - 3)).bind (fun (r_84 : Int32) => some (r_84, r_14.2)))))
def f_X8_least (N : Nat) (mo : MV) : Option (Int32 × MV) := (f_X8_leastOf N mo ).bind (fun (r_1 : Int32 × MV) => some (r_1.1, r_1.2))
def f_X8_put_L8 (N : Nat) (x1 : Int64) (mo : MV) (K : Int32 → Int64 → Int32 → Option (Int32 × MV)) : Nat → Int32 → Int64 → Int32 → Option (Int32 × MV)
  | 0, _, _, _ => none
  | n+1, x3, x4, x6 => if 8 ≤ x3 then K x3 x4 x6 else if (lg_cmp (x4 &&& 255) 0) = 0 then K x3 x4 x6 else jn (fun (s0_52 : Int32) => bd (ushr x4 8) (fun (x4_1 : Int64) => f_X8_put_L8 N x1 mo K n (x3 + 1) x4_1 s0_52)) (fun (J52 : Int32 → Option (Int32 × MV)) => jn (fun (_ : Unit) => J52 0) (fun (J51 : Unit → Option (Int32 × MV)) => if x6 = 0 then J51 () else (f_X8_within N  ((x4 &&& 255).toInt32) 33 126).bind (fun (r_41 : Int32) => if r_41 = 0 then J51 () else J52 1)))
def f_X8_put_L105 (N : Nat) (x1 : Int64)  (K : MV → Option (Int32 × MV)) : Nat → Int32 → MV → Option (Int32 × MV)
  | 0, _, _ => none
  | n+1, x7, mo => if x7 < 0 then K mo else ck mo.2.2.2.2.2.2.2.1 16 (f_X8_put_L105 N x1  K n (x7 + (-1)) ((mo.1, mo.2.1, mo.2.2.1, mo.2.2.2.1, mo.2.2.2.2.1, mo.2.2.2.2.2.1, upd mo.2.2.2.2.2.2.1 (mo.2.2.2.2.2.2.2.1.toNatClampNeg) (((ushr x1 (8 * x7)) &&& 255).toInt32), mo.2.2.2.2.2.2.2.1 + 1, mo.2.2.2.2.2.2.2.2.1, mo.2.2.2.2.2.2.2.2.2.1, mo.2.2.2.2.2.2.2.2.2.2.1, mo.2.2.2.2.2.2.2.2.2.2.2.1, mo.2.2.2.2.2.2.2.2.2.2.2.2.1, mo.2.2.2.2.2.2.2.2.2.2.2.2.2.1, mo.2.2.2.2.2.2.2.2.2.2.2.2.2.2.1, mo.2.2.2.2.2.2.2.2.2.2.2.2.2.2.2.1, mo.2.2.2.2.2.2.2.2.2.2.2.2.2.2.2.2.1, mo.2.2.2.2.2.2.2.2.2.2.2.2.2.2.2.2.2)))
def f_X8_put (N : Nat) (mo : MV) (x1 : Int64) : Option (Int32 × MV) := f_X8_put_L8 N x1 mo (fun (x3_8 : Int32) (x4_8 : Int64) (x6_8 : Int32) => if x3_8 = 0 then some ((-2), mo) else if x6_8 = 0 then some ((-2), mo) else if (lg_cmp x4_8 0) = 0 then if (mo.2.2.2.2.2.2.2.1 + x3_8) ≤ 16 then f_X8_put_L105 N x1  (fun (mo_105 : MV) => some (mo_105.2.2.2.2.2.2.2.1, mo_105)) N (x3_8 - 1) mo else some ((-4), mo) else some ((-2), mo)) N 0 x1 1
def f_X8_wipe (N : Nat) (mo : MV) : Option (Int32 × MV) := some (mo.2.2.2.2.2.2.2.1, (mo.1, mo.2.1, mo.2.2.1, mo.2.2.2.1, mo.2.2.2.2.1, mo.2.2.2.2.2.1, mo.2.2.2.2.2.2.1, 0, mo.2.2.2.2.2.2.2.2.1, mo.2.2.2.2.2.2.2.2.2.1, mo.2.2.2.2.2.2.2.2.2.2.1, mo.2.2.2.2.2.2.2.2.2.2.2.1, mo.2.2.2.2.2.2.2.2.2.2.2.2.1, mo.2.2.2.2.2.2.2.2.2.2.2.2.2.1, mo.2.2.2.2.2.2.2.2.2.2.2.2.2.2.1, mo.2.2.2.2.2.2.2.2.2.2.2.2.2.2.2.1, mo.2.2.2.2.2.2.2.2.2.2.2.2.2.2.2.2.1, mo.2.2.2.2.2.2.2.2.2.2.2.2.2.2.2.2.2))
def f_X8_fault_L2 (N : Nat) (mo : MV)  (K : Unit → Option (Int32)) : Nat → Int32 → Option (Int32)
  | 0, _ => none
  | n+1, x1 => if mo.2.2.2.2.2.2.2.1 ≤ x1 then K () else ck x1 16 ((f_X8_within N  (mo.2.2.2.2.2.2.1 (x1.toNatClampNeg)) 97 102).bind (fun (r_20 : Int32) => if r_20 = 0 then some x1 else f_X8_fault_L2 N mo  K n (x1 + 1)))
def f_X8_fault (N : Nat) (mo : MV) : Option (Int32) := f_X8_fault_L2 N mo  (fun (_ : Unit) => some ((-6))) N 0
def f_X8_undo (N : Nat) (mo : MV) : Option (Int32 × MV) := if mo.2.2.2.1 = 0 then some ((-5), mo) else (f_X8_copy N 1260 mo.2.2.1 210 mo.1 ((mo.2.2.2.1 - 1) * 210) 0).bind (fun (r_37 : (Nat → Int32)) => some (mo.2.2.2.1 - 1, (r_37, mo.2.1, mo.2.2.1, mo.2.2.2.1 - 1, mo.2.2.2.2.1, mo.2.2.2.2.2.1, mo.2.2.2.2.2.2.1, mo.2.2.2.2.2.2.2.1, mo.2.2.2.2.2.2.2.2.1, mo.2.2.2.2.2.2.2.2.2.1, mo.2.2.2.2.2.2.2.2.2.2.1, mo.2.2.2.2.2.2.2.2.2.2.2.1, mo.2.2.2.2.2.2.2.2.2.2.2.2.1, mo.2.2.2.2.2.2.2.2.2.2.2.2.2.1, mo.2.2.2.2.2.2.2.2.2.2.2.2.2.2.1, mo.2.2.2.2.2.2.2.2.2.2.2.2.2.2.2.1, mo.2.2.2.2.2.2.2.2.2.2.2.2.2.2.2.2.1, mo.2.2.2.2.2.2.2.2.2.2.2.2.2.2.2.2.2)))
def f_X8_save (N : Nat) (mo : MV) (x1 : Int32) : Option (Int32 × MV) := (f_X8_within N  x1 0 1).bind (fun (r_3 : Int32) => if r_3 = 0 then some ((-2), mo) else (f_X8_copy N 210 mo.1 420 mo.2.2.2.2.1 0 (210 * x1)).bind (fun (r_26 : (Nat → Int32)) => ck x1 2 (ck 0 210 (some (mo.1 ((0 : Int32).toNatClampNeg), (mo.1, mo.2.1, mo.2.2.1, mo.2.2.2.1, r_26, upd mo.2.2.2.2.2.1 (x1.toNatClampNeg) 1, mo.2.2.2.2.2.2.1, mo.2.2.2.2.2.2.2.1, mo.2.2.2.2.2.2.2.2.1, mo.2.2.2.2.2.2.2.2.2.1, mo.2.2.2.2.2.2.2.2.2.2.1, mo.2.2.2.2.2.2.2.2.2.2.2.1, mo.2.2.2.2.2.2.2.2.2.2.2.2.1, mo.2.2.2.2.2.2.2.2.2.2.2.2.2.1, mo.2.2.2.2.2.2.2.2.2.2.2.2.2.2.1, mo.2.2.2.2.2.2.2.2.2.2.2.2.2.2.2.1, mo.2.2.2.2.2.2.2.2.2.2.2.2.2.2.2.2.1, mo.2.2.2.2.2.2.2.2.2.2.2.2.2.2.2.2.2))))))
def f_X8_restore (N : Nat) (mo : MV) (x1 : Int32) : Option (Int32 × MV) := (f_X8_within N  x1 0 1).bind (fun (r_3 : Int32) => if r_3 = 0 then some ((-2), mo) else ck x1 2 (if (mo.2.2.2.2.2.1 (x1.toNatClampNeg)) = 0 then some ((-5), mo) else (f_X8_record N mo ).bind (fun (r_25 : MV) => (f_X8_copy N 420 r_25.2.2.2.2.1 210 r_25.1 (210 * x1) 0).bind (fun (r_42 : (Nat → Int32)) => ck 0 210 (some (r_42 ((0 : Int32).toNatClampNeg), (r_42, r_25.2.1, r_25.2.2.1, r_25.2.2.2.1, r_25.2.2.2.2.1, r_25.2.2.2.2.2.1, r_25.2.2.2.2.2.2.1, r_25.2.2.2.2.2.2.2.1, r_25.2.2.2.2.2.2.2.2.1, r_25.2.2.2.2.2.2.2.2.2.1, r_25.2.2.2.2.2.2.2.2.2.2.1, r_25.2.2.2.2.2.2.2.2.2.2.2.1, r_25.2.2.2.2.2.2.2.2.2.2.2.2.1, r_25.2.2.2.2.2.2.2.2.2.2.2.2.2.1, r_25.2.2.2.2.2.2.2.2.2.2.2.2.2.2.1, r_25.2.2.2.2.2.2.2.2.2.2.2.2.2.2.2.1, r_25.2.2.2.2.2.2.2.2.2.2.2.2.2.2.2.2.1, r_25.2.2.2.2.2.2.2.2.2.2.2.2.2.2.2.2.2)))))))
abbrev RM_X8_count : Room := { frames := 5, cells := 0, slots := 0, locals := 120 }
theorem in_X8_count_X8 : ∀ w ∈ u_ws RX8 TX8 18, w ∈ wsX8_count := by decide +kernel
theorem fl_X8_count_7 : FL RX8 wsX8_count 8 7 0 RX8 TX8 18 := ⟨in_X8_count_X8, rfl, by decide, by decide +kernel, rfl⟩
theorem fl_X8_count_32 : FL RX8 wsX8_count 8 32 9 RX8 TX8 18 := ⟨in_X8_count_X8, rfl, by decide, by decide +kernel, rfl⟩
theorem fl_X8_count_56 : FL RX8 wsX8_count 8 56 3 RX8 TX8 18 := ⟨in_X8_count_X8, rfl, by decide, by decide +kernel, rfl⟩
theorem fl_X8_count_135 : FL RX8 wsX8_count 8 135 7 RX8 TX8 18 := ⟨in_X8_count_X8, rfl, by decide, by decide +kernel, rfl⟩
set_option maxRecDepth 100000 in
set_option maxHeartbeats 4000000 in
theorem c_X8_count (l : Launch) (dC : Nat → ClassId) (dI : Nat → Nat → Nat) (cI cJ cZ cO : ClassId) (am : Nat → Nat) (N : Nat) (mo : MV) (x1 : Int32) (o : Int32 × MV) (hf : f_X8_count N mo x1 = some o) : MetI l yX8_count wsX8_count RM_X8_count (dC, dI) (TY cI cJ cZ cO) [.ref (am 0), .int x1] (W_M cI cJ cZ cO am mo.1 mo.2.1 mo.2.2.1 mo.2.2.2.1 mo.2.2.2.2.1 mo.2.2.2.2.2.1 mo.2.2.2.2.2.2.1 mo.2.2.2.2.2.2.2.1 mo.2.2.2.2.2.2.2.2.1 mo.2.2.2.2.2.2.2.2.2.1 mo.2.2.2.2.2.2.2.2.2.2.1 mo.2.2.2.2.2.2.2.2.2.2.2.1 mo.2.2.2.2.2.2.2.2.2.2.2.2.1 mo.2.2.2.2.2.2.2.2.2.2.2.2.2.1 mo.2.2.2.2.2.2.2.2.2.2.2.2.2.2.1 mo.2.2.2.2.2.2.2.2.2.2.2.2.2.2.2.1 mo.2.2.2.2.2.2.2.2.2.2.2.2.2.2.2.2.1 mo.2.2.2.2.2.2.2.2.2.2.2.2.2.2.2.2.2) (fun r (_ : Unit) => r = o.1) (fun _ => (W_M cI cJ cZ cO am o.2.1 o.2.2.1 o.2.2.2.1 o.2.2.2.2.1 o.2.2.2.2.2.1 o.2.2.2.2.2.2.1 o.2.2.2.2.2.2.2.1 o.2.2.2.2.2.2.2.2.1 o.2.2.2.2.2.2.2.2.2.1 o.2.2.2.2.2.2.2.2.2.2.1 o.2.2.2.2.2.2.2.2.2.2.2.1 o.2.2.2.2.2.2.2.2.2.2.2.2.1 o.2.2.2.2.2.2.2.2.2.2.2.2.2.1 o.2.2.2.2.2.2.2.2.2.2.2.2.2.2.1 o.2.2.2.2.2.2.2.2.2.2.2.2.2.2.2.1 o.2.2.2.2.2.2.2.2.2.2.2.2.2.2.2.2.1 o.2.2.2.2.2.2.2.2.2.2.2.2.2.2.2.2.2.1 o.2.2.2.2.2.2.2.2.2.2.2.2.2.2.2.2.2.2)) := by
  refine MetI.ofV (cc := cX8_count) (maxL := 6) (ret := (some .int)) (own := RX8) (lv0 := [(0, .ref (am 0)), (1, .int x1)]) (by decide) rfl rfl (Nat.le_of_ble_eq_true rfl) rfl ?_
  intro p e s m below meth c A C0 _
  unfold f_X8_count at hf
  refine V_iconst (v := 0) C0 dX8_count_0 (by decide) rfl ?_
  refine V_istore_n (lv' := [(2, .int 0), (0, .ref (am 0)), (1, .int x1)]) C0 dX8_count_1 rfl (by decide) rfl rfl ?_
  refine V_iconst (v := 0) C0 dX8_count_2 (by decide) rfl ?_
  refine V_istore_n (lv' := [(3, .int 0), (2, .int 0), (0, .ref (am 0)), (1, .int x1)]) C0 dX8_count_3 rfl (by decide) rfl rfl ?_
  refine V_iconst (v := 0) C0 dX8_count_4 (by decide) rfl ?_
  refine V_istore (lv' := [(4, .int 0), (3, .int 0), (2, .int 0), (0, .ref (am 0)), (1, .int x1)]) C0 dX8_count_5 (by decide) rfl rfl ?_
  refine V_iconst (v := 0) C0 dX8_count_7 (by decide) rfl ?_
  refine V_istore (lv' := [(5, .int 0), (4, .int 0), (3, .int 0), (2, .int 0), (0, .ref (am 0)), (1, .int x1)]) C0 dX8_count_8 (by decide) rfl rfl ?_
  have hL10 : ∀ (K : Int32 → Int32 → Int32 → MV → Option (Int32 × MV)), (∀ (x2 : Int32) (x3 : Int32) (x4 : Int32) (mo : MV), K x2 x3 x4 mo = some o → V p l e RM_X8_count s m ([.ref (am 0), .int x1] : List Value).toArray below meth c 6 (dC, dI) A (MQ below (va_Qi (fun r (_ : Unit) => r = o.1) (PostW (dC, dI) (TY cI cJ cZ cO) A (fun _ => (W_M cI cJ cZ cO am o.2.1 o.2.2.1 o.2.2.2.1 o.2.2.2.2.1 o.2.2.2.2.2.1 o.2.2.2.2.2.2.1 o.2.2.2.2.2.2.2.1 o.2.2.2.2.2.2.2.2.1 o.2.2.2.2.2.2.2.2.2.1 o.2.2.2.2.2.2.2.2.2.2.1 o.2.2.2.2.2.2.2.2.2.2.2.1 o.2.2.2.2.2.2.2.2.2.2.2.2.1 o.2.2.2.2.2.2.2.2.2.2.2.2.2.1 o.2.2.2.2.2.2.2.2.2.2.2.2.2.2.1 o.2.2.2.2.2.2.2.2.2.2.2.2.2.2.2.1 o.2.2.2.2.2.2.2.2.2.2.2.2.2.2.2.2.1 o.2.2.2.2.2.2.2.2.2.2.2.2.2.2.2.2.2.1 o.2.2.2.2.2.2.2.2.2.2.2.2.2.2.2.2.2.2))) A) ([.ref (am 0), .int x1] : List Value).toArray s 0 0 A) 0 0 (W_M cI cJ cZ cO am mo.1 mo.2.1 mo.2.2.1 mo.2.2.2.1 mo.2.2.2.2.1 mo.2.2.2.2.2.1 mo.2.2.2.2.2.2.1 mo.2.2.2.2.2.2.2.1 mo.2.2.2.2.2.2.2.2.1 mo.2.2.2.2.2.2.2.2.2.1 mo.2.2.2.2.2.2.2.2.2.2.1 mo.2.2.2.2.2.2.2.2.2.2.2.1 mo.2.2.2.2.2.2.2.2.2.2.2.2.1 mo.2.2.2.2.2.2.2.2.2.2.2.2.2.1 mo.2.2.2.2.2.2.2.2.2.2.2.2.2.2.1 mo.2.2.2.2.2.2.2.2.2.2.2.2.2.2.2.1 mo.2.2.2.2.2.2.2.2.2.2.2.2.2.2.2.2.1 mo.2.2.2.2.2.2.2.2.2.2.2.2.2.2.2.2.2) 87 [(0, .ref (am 0)), (1, .int x1), (2, .int x2), (3, .int x3), (4, .int x4)] []) → ∀ (n : Nat) (x2 : Int32) (x3 : Int32) (x4 : Int32) (x5 : Int32) (mo : MV), f_X8_count_L10 N x1  K n x2 x3 x4 x5 mo = some o → V p l e RM_X8_count s m ([.ref (am 0), .int x1] : List Value).toArray below meth c 6 (dC, dI) A (MQ below (va_Qi (fun r (_ : Unit) => r = o.1) (PostW (dC, dI) (TY cI cJ cZ cO) A (fun _ => (W_M cI cJ cZ cO am o.2.1 o.2.2.1 o.2.2.2.1 o.2.2.2.2.1 o.2.2.2.2.2.1 o.2.2.2.2.2.2.1 o.2.2.2.2.2.2.2.1 o.2.2.2.2.2.2.2.2.1 o.2.2.2.2.2.2.2.2.2.1 o.2.2.2.2.2.2.2.2.2.2.1 o.2.2.2.2.2.2.2.2.2.2.2.1 o.2.2.2.2.2.2.2.2.2.2.2.2.1 o.2.2.2.2.2.2.2.2.2.2.2.2.2.1 o.2.2.2.2.2.2.2.2.2.2.2.2.2.2.1 o.2.2.2.2.2.2.2.2.2.2.2.2.2.2.2.1 o.2.2.2.2.2.2.2.2.2.2.2.2.2.2.2.2.1 o.2.2.2.2.2.2.2.2.2.2.2.2.2.2.2.2.2.1 o.2.2.2.2.2.2.2.2.2.2.2.2.2.2.2.2.2.2))) A) ([.ref (am 0), .int x1] : List Value).toArray s 0 0 A) 0 0 (W_M cI cJ cZ cO am mo.1 mo.2.1 mo.2.2.1 mo.2.2.2.1 mo.2.2.2.2.1 mo.2.2.2.2.2.1 mo.2.2.2.2.2.2.1 mo.2.2.2.2.2.2.2.1 mo.2.2.2.2.2.2.2.2.1 mo.2.2.2.2.2.2.2.2.2.1 mo.2.2.2.2.2.2.2.2.2.2.1 mo.2.2.2.2.2.2.2.2.2.2.2.1 mo.2.2.2.2.2.2.2.2.2.2.2.2.1 mo.2.2.2.2.2.2.2.2.2.2.2.2.2.1 mo.2.2.2.2.2.2.2.2.2.2.2.2.2.2.1 mo.2.2.2.2.2.2.2.2.2.2.2.2.2.2.2.1 mo.2.2.2.2.2.2.2.2.2.2.2.2.2.2.2.2.1 mo.2.2.2.2.2.2.2.2.2.2.2.2.2.2.2.2.2) 10 [(0, .ref (am 0)), (1, .int x1), (2, .int x2), (3, .int x3), (4, .int x4), (5, .int x5)] [] := by
    intro  K hK n
    induction n with
    | zero => intro x2 x3 x4 x5 mo hf; cases hf
    | succ n hREC =>
      intro x2 x3 x4 x5 mo hf
      rw [f_X8_count_L10] at hf
      refine V_iload C0 dX8_count_10 5 rfl rfl ?_
      refine V_aload_n C0 dX8_count_12 0 rfl rfl ?_
      refine V_get C0 fl_X8_count_7 0 rfl rfl dX8_count_13 rfl ?_
      refine V_iconst (v := 1) C0 dX8_count_16 (by decide) rfl ?_
      obtain ⟨hi17, hf⟩ := ck_inv hf
      refine V_iald C0 1 0 rfl rfl hi17 dX8_count_17 rfl ?_
      refine V_icmp_ge (tgt := 87) C0 dX8_count_18 (by decide) rfl (fun c18 => ?_) (fun c18 => ?_)
      · have hf := ite_t c18 hf
        exact V.sub [0, 1, 2, 3, 4] rfl (hK x2 x3 x4 mo hf)
      · have hf := ite_f c18 hf
        refine V_aload_n C0 dX8_count_21 0 rfl rfl ?_
        refine V_iload C0 dX8_count_22 5 rfl rfl ?_
        obtain ⟨r_24, hc_24, hf⟩ := bind_inv hf
        refine V_cVV (ws' := (W_M cI cJ cZ cO am r_24.1 r_24.2.1 r_24.2.2.1 r_24.2.2.2.1 r_24.2.2.2.2.1 r_24.2.2.2.2.2.1 r_24.2.2.2.2.2.2.1 r_24.2.2.2.2.2.2.2.1 r_24.2.2.2.2.2.2.2.2.1 r_24.2.2.2.2.2.2.2.2.2.1 r_24.2.2.2.2.2.2.2.2.2.2.1 r_24.2.2.2.2.2.2.2.2.2.2.2.1 r_24.2.2.2.2.2.2.2.2.2.2.2.2.1 r_24.2.2.2.2.2.2.2.2.2.2.2.2.2.1 r_24.2.2.2.2.2.2.2.2.2.2.2.2.2.2.1 r_24.2.2.2.2.2.2.2.2.2.2.2.2.2.2.2.1 r_24.2.2.2.2.2.2.2.2.2.2.2.2.2.2.2.2.1 r_24.2.2.2.2.2.2.2.2.2.2.2.2.2.2.2.2.2)) (As := [.int x5]) (b := am 0) (st := []) C0 (c_X8_findCut l dC dI cI cJ cZ cO am N mo x5 r_24 hc_24) rfl 1 gX8_count_X8_findCut (by decide +kernel) ⟨Nat.le_of_ble_eq_true rfl, Nat.le_of_ble_eq_true rfl⟩ rfl 0 8 rfl rfl  Cut.all rfl (Nat.le_of_ble_eq_true rfl) dX8_count_24 rfl ⟨Nat.zero_le _, Nat.zero_le _⟩ ?_
        refine V_iload_n C0 dX8_count_27 2 rfl rfl ?_
        refine V_aload_n C0 dX8_count_28 0 rfl rfl ?_
        refine V_iload C0 dX8_count_29 5 rfl rfl ?_
        refine V_iconst (v := 0) C0 dX8_count_31 (by decide) rfl ?_
        obtain ⟨r_32, hc_32, hf⟩ := bind_inv hf
        refine V_cVI (ws' := (W_M cI cJ cZ cO am r_24.1 r_24.2.1 r_24.2.2.1 r_24.2.2.2.1 r_24.2.2.2.2.1 r_24.2.2.2.2.2.1 r_24.2.2.2.2.2.2.1 r_24.2.2.2.2.2.2.2.1 r_24.2.2.2.2.2.2.2.2.1 r_24.2.2.2.2.2.2.2.2.2.1 r_24.2.2.2.2.2.2.2.2.2.2.1 r_24.2.2.2.2.2.2.2.2.2.2.2.1 r_24.2.2.2.2.2.2.2.2.2.2.2.2.1 r_24.2.2.2.2.2.2.2.2.2.2.2.2.2.1 r_24.2.2.2.2.2.2.2.2.2.2.2.2.2.2.1 r_24.2.2.2.2.2.2.2.2.2.2.2.2.2.2.2.1 r_24.2.2.2.2.2.2.2.2.2.2.2.2.2.2.2.2.1 r_24.2.2.2.2.2.2.2.2.2.2.2.2.2.2.2.2.2)) (As := [.int x5, .int 0]) (b := am 0) (st := [.int x2]) C0 (c_X8_wordPart l dC dI cI cJ cZ cO am N r_24 x5 0 r_32 hc_32) rfl 2 gX8_count_X8_wordPart (by decide +kernel) ⟨Nat.le_of_ble_eq_true rfl, Nat.le_of_ble_eq_true rfl⟩ rfl 0 8 rfl rfl  Cut.all rfl (Nat.le_of_ble_eq_true rfl) dX8_count_32 rfl ⟨Nat.zero_le _, Nat.zero_le _⟩ ?_
        refine V_aload_n C0 dX8_count_35 0 rfl rfl ?_
        refine V_iload C0 dX8_count_36 5 rfl rfl ?_
        refine V_iconst (v := 1) C0 dX8_count_38 (by decide) rfl ?_
        obtain ⟨r_39, hc_39, hf⟩ := bind_inv hf
        refine V_cVI (ws' := (W_M cI cJ cZ cO am r_24.1 r_24.2.1 r_24.2.2.1 r_24.2.2.2.1 r_24.2.2.2.2.1 r_24.2.2.2.2.2.1 r_24.2.2.2.2.2.2.1 r_24.2.2.2.2.2.2.2.1 r_24.2.2.2.2.2.2.2.2.1 r_24.2.2.2.2.2.2.2.2.2.1 r_24.2.2.2.2.2.2.2.2.2.2.1 r_24.2.2.2.2.2.2.2.2.2.2.2.1 r_24.2.2.2.2.2.2.2.2.2.2.2.2.1 r_24.2.2.2.2.2.2.2.2.2.2.2.2.2.1 r_24.2.2.2.2.2.2.2.2.2.2.2.2.2.2.1 r_24.2.2.2.2.2.2.2.2.2.2.2.2.2.2.2.1 r_24.2.2.2.2.2.2.2.2.2.2.2.2.2.2.2.2.1 r_24.2.2.2.2.2.2.2.2.2.2.2.2.2.2.2.2.2)) (As := [.int x5, .int 1]) (b := am 0) (st := [.int r_32, .int x2]) C0 (c_X8_wordPart l dC dI cI cJ cZ cO am N r_24 x5 1 r_39 hc_39) rfl 2 gX8_count_X8_wordPart (by decide +kernel) ⟨Nat.le_of_ble_eq_true rfl, Nat.le_of_ble_eq_true rfl⟩ rfl 0 8 rfl rfl  Cut.all rfl (Nat.le_of_ble_eq_true rfl) dX8_count_39 rfl ⟨Nat.zero_le _, Nat.zero_le _⟩ ?_
        refine V_imul C0 dX8_count_42 rfl ?_
        refine V_iadd C0 dX8_count_43 rfl ?_
        refine V_topi (fun x2_1 ex2_1 => ?_)
        have hf := bd_inv ex2_1 hf
        refine V_istore_n (lv' := [(2, .int x2_1), (0, .ref (am 0)), (1, .int x1), (3, .int x3), (4, .int x4), (5, .int x5)]) C0 dX8_count_44 rfl (by decide) rfl rfl ?_
        refine V_iload_n C0 dX8_count_45 3 rfl rfl ?_
        refine V_aload_n C0 dX8_count_46 1 rfl rfl ?_
        refine V_get C0 fl_X8_count_32 0 rfl rfl dX8_count_47 rfl ?_
        refine V_iconst (v := 0) C0 dX8_count_50 (by decide) rfl ?_
        obtain ⟨hi51, hf⟩ := ck_inv hf
        refine V_iald C0 8 0 rfl rfl hi51 dX8_count_51 rfl ?_
        refine V_aload_n C0 dX8_count_52 1 rfl rfl ?_
        refine V_iload C0 dX8_count_53 5 rfl rfl ?_
        refine V_iconst (v := 1) C0 dX8_count_55 (by decide) rfl ?_
        obtain ⟨r_56, hc_56, hf⟩ := bind_inv hf
        refine V_cVI (ws' := (W_M cI cJ cZ cO am r_24.1 r_24.2.1 r_24.2.2.1 r_24.2.2.2.1 r_24.2.2.2.2.1 r_24.2.2.2.2.2.1 r_24.2.2.2.2.2.2.1 r_24.2.2.2.2.2.2.2.1 r_24.2.2.2.2.2.2.2.2.1 r_24.2.2.2.2.2.2.2.2.2.1 r_24.2.2.2.2.2.2.2.2.2.2.1 r_24.2.2.2.2.2.2.2.2.2.2.2.1 r_24.2.2.2.2.2.2.2.2.2.2.2.2.1 r_24.2.2.2.2.2.2.2.2.2.2.2.2.2.1 r_24.2.2.2.2.2.2.2.2.2.2.2.2.2.2.1 r_24.2.2.2.2.2.2.2.2.2.2.2.2.2.2.2.1 r_24.2.2.2.2.2.2.2.2.2.2.2.2.2.2.2.2.1 r_24.2.2.2.2.2.2.2.2.2.2.2.2.2.2.2.2.2)) (As := [.int x5, .int 1]) (b := am 0) (st := [.int (r_24.2.2.2.2.2.2.2.2.2.1 ((0 : Int32).toNatClampNeg)), .int x3]) C0 (c_X8_wordPart l dC dI cI cJ cZ cO am N r_24 x5 1 r_56 hc_56) rfl 2 gX8_count_X8_wordPart (by decide +kernel) ⟨Nat.le_of_ble_eq_true rfl, Nat.le_of_ble_eq_true rfl⟩ rfl 0 8 rfl rfl  Cut.all rfl (Nat.le_of_ble_eq_true rfl) dX8_count_56 rfl ⟨Nat.zero_le _, Nat.zero_le _⟩ ?_
        refine V_imul C0 dX8_count_59 rfl ?_
        refine V_iadd C0 dX8_count_60 rfl ?_
        refine V_topi (fun x3_2 ex3_2 => ?_)
        have hf := bd_inv ex3_2 hf
        refine V_istore_n (lv' := [(3, .int x3_2), (2, .int x2_1), (0, .ref (am 0)), (1, .int x1), (4, .int x4), (5, .int x5)]) C0 dX8_count_61 rfl (by decide) rfl rfl ?_
        refine V_iload C0 dX8_count_62 4 rfl rfl ?_
        refine V_aload_n C0 dX8_count_64 2 rfl rfl ?_
        refine V_iload C0 dX8_count_65 5 rfl rfl ?_
        obtain ⟨r_67, hc_67, hf⟩ := bind_inv hf
        refine V_cVI (ws' := (W_M cI cJ cZ cO am r_24.1 r_24.2.1 r_24.2.2.1 r_24.2.2.2.1 r_24.2.2.2.2.1 r_24.2.2.2.2.2.1 r_24.2.2.2.2.2.2.1 r_24.2.2.2.2.2.2.2.1 r_24.2.2.2.2.2.2.2.2.1 r_24.2.2.2.2.2.2.2.2.2.1 r_24.2.2.2.2.2.2.2.2.2.2.1 r_24.2.2.2.2.2.2.2.2.2.2.2.1 r_24.2.2.2.2.2.2.2.2.2.2.2.2.1 r_24.2.2.2.2.2.2.2.2.2.2.2.2.2.1 r_24.2.2.2.2.2.2.2.2.2.2.2.2.2.2.1 r_24.2.2.2.2.2.2.2.2.2.2.2.2.2.2.2.1 r_24.2.2.2.2.2.2.2.2.2.2.2.2.2.2.2.2.1 r_24.2.2.2.2.2.2.2.2.2.2.2.2.2.2.2.2.2)) (As := [.int x5]) (b := am 0) (st := [.int x4]) C0 (c_X8_unseenIn l dC dI cI cJ cZ cO am N r_24 x5 r_67 hc_67) rfl 1 gX8_count_X8_unseenIn (by decide +kernel) ⟨Nat.le_of_ble_eq_true rfl, Nat.le_of_ble_eq_true rfl⟩ rfl 0 8 rfl rfl  Cut.all rfl (Nat.le_of_ble_eq_true rfl) dX8_count_67 rfl ⟨Nat.zero_le _, Nat.zero_le _⟩ ?_
        refine V_aload_n C0 dX8_count_70 2 rfl rfl ?_
        refine V_iload C0 dX8_count_71 5 rfl rfl ?_
        refine V_iconst (v := 1) C0 dX8_count_73 (by decide) rfl ?_
        obtain ⟨r_74, hc_74, hf⟩ := bind_inv hf
        refine V_cVI (ws' := (W_M cI cJ cZ cO am r_24.1 r_24.2.1 r_24.2.2.1 r_24.2.2.2.1 r_24.2.2.2.2.1 r_24.2.2.2.2.2.1 r_24.2.2.2.2.2.2.1 r_24.2.2.2.2.2.2.2.1 r_24.2.2.2.2.2.2.2.2.1 r_24.2.2.2.2.2.2.2.2.2.1 r_24.2.2.2.2.2.2.2.2.2.2.1 r_24.2.2.2.2.2.2.2.2.2.2.2.1 r_24.2.2.2.2.2.2.2.2.2.2.2.2.1 r_24.2.2.2.2.2.2.2.2.2.2.2.2.2.1 r_24.2.2.2.2.2.2.2.2.2.2.2.2.2.2.1 r_24.2.2.2.2.2.2.2.2.2.2.2.2.2.2.2.1 r_24.2.2.2.2.2.2.2.2.2.2.2.2.2.2.2.2.1 r_24.2.2.2.2.2.2.2.2.2.2.2.2.2.2.2.2.2)) (As := [.int x5, .int 1]) (b := am 0) (st := [.int r_67, .int x4]) C0 (c_X8_wordPart l dC dI cI cJ cZ cO am N r_24 x5 1 r_74 hc_74) rfl 2 gX8_count_X8_wordPart (by decide +kernel) ⟨Nat.le_of_ble_eq_true rfl, Nat.le_of_ble_eq_true rfl⟩ rfl 0 8 rfl rfl  Cut.all rfl (Nat.le_of_ble_eq_true rfl) dX8_count_74 rfl ⟨Nat.zero_le _, Nat.zero_le _⟩ ?_
        refine V_imul C0 dX8_count_77 rfl ?_
        refine V_iadd C0 dX8_count_78 rfl ?_
        refine V_topi (fun x4_3 ex4_3 => ?_)
        have hf := bd_inv ex4_3 hf
        refine V_istore (lv' := [(4, .int x4_3), (3, .int x3_2), (2, .int x2_1), (0, .ref (am 0)), (1, .int x1), (5, .int x5)]) C0 dX8_count_79 (by decide) rfl rfl ?_
        refine V_iinc (k := 5) (v := x5 + 1) (lv' := [(5, .int (x5 + 1)), (4, .int x4_3), (3, .int x3_2), (2, .int x2_1), (0, .ref (am 0)), (1, .int x1)]) C0 dX8_count_81 rfl rfl (by decide) rfl rfl ?_
        refine V_goto (tgt := 10) C0 dX8_count_84 (by decide) ?_
        exact V.sub [4, 5, 3, 2, 1, 0] rfl (hREC x2_1 x3_2 x4_3 (x5 + 1) r_24 hf)
  refine V.sub [4, 5, 3, 2, 1, 0] rfl (hL10  _ ?_ N 0 0 0 0 mo hf)
  intro x2_10 x3_10 x4_10 mo_10 hf
  refine V_iload_n C0 dX8_count_87 1 rfl rfl ?_
  by_cases c88_0 : x1 = 0
  · have hf := ite_t c88_0 hf
    refine V_tableIn (tgt := 136) C0 c88_0 dX8_count_88 (by decide) (by decide) rfl (by decide) ?_
    refine V_aload_n C0 dX8_count_136 0 rfl rfl ?_
    refine V_get C0 fl_X8_count_7 0 rfl rfl dX8_count_137 rfl ?_
    refine V_iconst (v := 0) C0 dX8_count_140 (by decide) rfl ?_
    obtain ⟨hi141, hf⟩ := ck_inv hf
    refine V_iald C0 1 0 rfl rfl hi141 dX8_count_141 rfl ?_
    obtain rfl := some_inv hf
    exact V_iret C0 () rfl rfl dX8_count_142
  · have hf := ite_f c88_0 hf
    by_cases c88_1 : x1 = 1
    · have hf := ite_t c88_1 hf
      refine V_tableIn (tgt := 143) C0 c88_1 dX8_count_88 (by decide) (by decide) rfl (by decide) ?_
      refine V_aload_n C0 dX8_count_143 0 rfl rfl ?_
      refine V_get C0 fl_X8_count_7 0 rfl rfl dX8_count_144 rfl ?_
      refine V_iconst (v := 1) C0 dX8_count_147 (by decide) rfl ?_
      obtain ⟨hi148, hf⟩ := ck_inv hf
      refine V_iald C0 1 0 rfl rfl hi148 dX8_count_148 rfl ?_
      obtain rfl := some_inv hf
      exact V_iret C0 () rfl rfl dX8_count_149
    · have hf := ite_f c88_1 hf
      by_cases c88_2 : x1 = 2
      · have hf := ite_t c88_2 hf
        refine V_tableIn (tgt := 150) C0 c88_2 dX8_count_88 (by decide) (by decide) rfl (by decide) ?_
        refine V_iload_n C0 dX8_count_150 3 rfl rfl ?_
        refine V_iload C0 dX8_count_151 4 rfl rfl ?_
        refine V_iadd C0 dX8_count_153 rfl ?_
        obtain rfl := some_inv hf
        exact V_iret C0 () rfl rfl dX8_count_154
      · have hf := ite_f c88_2 hf
        by_cases c88_3 : x1 = 3
        · have hf := ite_t c88_3 hf
          refine V_tableIn (tgt := 155) C0 c88_3 dX8_count_88 (by decide) (by decide) rfl (by decide) ?_
          refine V_iload_n C0 dX8_count_155 2 rfl rfl ?_
          obtain rfl := some_inv hf
          exact V_iret C0 () rfl rfl dX8_count_156
        · have hf := ite_f c88_3 hf
          by_cases c88_4 : x1 = 4
          · have hf := ite_t c88_4 hf
            refine V_tableIn (tgt := 157) C0 c88_4 dX8_count_88 (by decide) (by decide) rfl (by decide) ?_
            refine V_iload_n C0 dX8_count_157 3 rfl rfl ?_
            obtain rfl := some_inv hf
            exact V_iret C0 () rfl rfl dX8_count_158
          · have hf := ite_f c88_4 hf
            by_cases c88_5 : x1 = 5
            · have hf := ite_t c88_5 hf
              refine V_tableIn (tgt := 159) C0 c88_5 dX8_count_88 (by decide) (by decide) rfl (by decide) ?_
              refine V_iload C0 dX8_count_159 4 rfl rfl ?_
              obtain rfl := some_inv hf
              exact V_iret C0 () rfl rfl dX8_count_161
            · have hf := ite_f c88_5 hf
              by_cases c88_6 : x1 = 6
              · have hf := ite_t c88_6 hf
                refine V_tableIn (tgt := 162) C0 c88_6 dX8_count_88 (by decide) (by decide) rfl (by decide) ?_
                refine V_aload_n C0 dX8_count_162 0 rfl rfl ?_
                refine V_get C0 fl_X8_count_135 0 rfl rfl dX8_count_163 rfl ?_
                obtain rfl := some_inv hf
                exact V_iret C0 () rfl rfl dX8_count_166
              · have hf := ite_f c88_6 hf
                by_cases c88_7 : x1 = 7
                · have hf := ite_t c88_7 hf
                  refine V_tableIn (tgt := 167) C0 c88_7 dX8_count_88 (by decide) (by decide) rfl (by decide) ?_
                  refine V_aload_n C0 dX8_count_167 0 rfl rfl ?_
                  refine V_get C0 fl_X8_count_56 0 rfl rfl dX8_count_168 rfl ?_
                  obtain rfl := some_inv hf
                  exact V_iret C0 () rfl rfl dX8_count_171
                · have hf := ite_f c88_7 hf
                  refine V_tableOut (tgt := 172) C0 dX8_count_88 (tb_out (fun k h1 h2 => ?_)) (by decide) ?_
                  · rcases (show k = 0 ∨ k = 1 ∨ k = 2 ∨ k = 3 ∨ k = 4 ∨ k = 5 ∨ k = 6 ∨ k = 7 by omega) with rfl | rfl | rfl | rfl | rfl | rfl | rfl | rfl
                    · exact c88_0
                    · exact c88_1
                    · exact c88_2
                    · exact c88_3
                    · exact c88_4
                    · exact c88_5
                    · exact c88_6
                    · exact c88_7
                  · skip
                    refine V_bipush (v := (-2)) C0 dX8_count_172 (by decide) rfl ?_
                    obtain rfl := some_inv hf
                    exact V_iret C0 () rfl rfl dX8_count_174
abbrev RM_X8_costWith : Room := { frames := 7, cells := 0, slots := 0, locals := 163 }
theorem in_X8_costWith_X8 : ∀ w ∈ u_ws RX8 TX8 18, w ∈ wsX8_costWith := by decide +kernel
theorem fl_X8_costWith_7 : FL RX8 wsX8_costWith 8 7 0 RX8 TX8 18 := ⟨in_X8_costWith_X8, rfl, by decide, by decide +kernel, rfl⟩
set_option maxRecDepth 100000 in
set_option maxHeartbeats 4000000 in
theorem c_X8_costWith (l : Launch) (dC : Nat → ClassId) (dI : Nat → Nat → Nat) (cI cJ cZ cO : ClassId) (am : Nat → Nat) (N : Nat) (mo : MV) (x1 : Int32) (o : Int32 × MV) (hf : f_X8_costWith N mo x1 = some o) : MetI l yX8_costWith wsX8_costWith RM_X8_costWith (dC, dI) (TY cI cJ cZ cO) [.ref (am 0), .int x1] (W_M cI cJ cZ cO am mo.1 mo.2.1 mo.2.2.1 mo.2.2.2.1 mo.2.2.2.2.1 mo.2.2.2.2.2.1 mo.2.2.2.2.2.2.1 mo.2.2.2.2.2.2.2.1 mo.2.2.2.2.2.2.2.2.1 mo.2.2.2.2.2.2.2.2.2.1 mo.2.2.2.2.2.2.2.2.2.2.1 mo.2.2.2.2.2.2.2.2.2.2.2.1 mo.2.2.2.2.2.2.2.2.2.2.2.2.1 mo.2.2.2.2.2.2.2.2.2.2.2.2.2.1 mo.2.2.2.2.2.2.2.2.2.2.2.2.2.2.1 mo.2.2.2.2.2.2.2.2.2.2.2.2.2.2.2.1 mo.2.2.2.2.2.2.2.2.2.2.2.2.2.2.2.2.1 mo.2.2.2.2.2.2.2.2.2.2.2.2.2.2.2.2.2) (fun r (_ : Unit) => r = o.1) (fun _ => (W_M cI cJ cZ cO am o.2.1 o.2.2.1 o.2.2.2.1 o.2.2.2.2.1 o.2.2.2.2.2.1 o.2.2.2.2.2.2.1 o.2.2.2.2.2.2.2.1 o.2.2.2.2.2.2.2.2.1 o.2.2.2.2.2.2.2.2.2.1 o.2.2.2.2.2.2.2.2.2.2.1 o.2.2.2.2.2.2.2.2.2.2.2.1 o.2.2.2.2.2.2.2.2.2.2.2.2.1 o.2.2.2.2.2.2.2.2.2.2.2.2.2.1 o.2.2.2.2.2.2.2.2.2.2.2.2.2.2.1 o.2.2.2.2.2.2.2.2.2.2.2.2.2.2.2.1 o.2.2.2.2.2.2.2.2.2.2.2.2.2.2.2.2.1 o.2.2.2.2.2.2.2.2.2.2.2.2.2.2.2.2.2.1 o.2.2.2.2.2.2.2.2.2.2.2.2.2.2.2.2.2.2)) := by
  refine MetI.ofV (cc := cX8_costWith) (maxL := 4) (ret := (some .int)) (own := RX8) (lv0 := [(0, .ref (am 0)), (1, .int x1)]) (by decide) rfl rfl (Nat.le_of_ble_eq_true rfl) rfl ?_
  intro p e s m below meth c A C0 _
  unfold f_X8_costWith at hf
  refine V_aload_n C0 dX8_costWith_0 0 rfl rfl ?_
  refine V_iload_n C0 dX8_costWith_1 1 rfl rfl ?_
  obtain ⟨r_2, hc_2, hf⟩ := bind_inv hf
  refine V_cVI (ws' := (W_M cI cJ cZ cO am mo.1 mo.2.1 mo.2.2.1 mo.2.2.2.1 mo.2.2.2.2.1 mo.2.2.2.2.2.1 mo.2.2.2.2.2.2.1 mo.2.2.2.2.2.2.2.1 mo.2.2.2.2.2.2.2.2.1 mo.2.2.2.2.2.2.2.2.2.1 mo.2.2.2.2.2.2.2.2.2.2.1 mo.2.2.2.2.2.2.2.2.2.2.2.1 mo.2.2.2.2.2.2.2.2.2.2.2.2.1 mo.2.2.2.2.2.2.2.2.2.2.2.2.2.1 mo.2.2.2.2.2.2.2.2.2.2.2.2.2.2.1 mo.2.2.2.2.2.2.2.2.2.2.2.2.2.2.2.1 mo.2.2.2.2.2.2.2.2.2.2.2.2.2.2.2.2.1 mo.2.2.2.2.2.2.2.2.2.2.2.2.2.2.2.2.2)) (As := [.int x1]) (b := am 0) (st := []) C0 (c_X8_whyNoPiece l dC dI cI cJ cZ cO am N mo x1 r_2 hc_2) rfl 1 gX8_costWith_X8_whyNoPiece (by decide +kernel) ⟨Nat.le_of_ble_eq_true rfl, Nat.le_of_ble_eq_true rfl⟩ rfl 0 8 rfl rfl  Cut.all rfl (Nat.le_of_ble_eq_true rfl) dX8_costWith_2 rfl ⟨Nat.zero_le _, Nat.zero_le _⟩ ?_
  refine V_istore_n (lv' := [(2, .int r_2), (0, .ref (am 0)), (1, .int x1)]) C0 dX8_costWith_5 rfl (by decide) rfl rfl ?_
  refine V_iload_n C0 dX8_costWith_6 0 rfl rfl ?_
  refine V_if_ge (tgt := 12) C0 dX8_costWith_7 (by decide) rfl (fun c7 => ?_) (fun c7 => ?_)
  · have hf := ite_t c7 hf
    refine V_aload_n C0 dX8_costWith_12 1 rfl rfl ?_
    refine V_aload_n C0 dX8_costWith_13 1 rfl rfl ?_
    refine V_iconst (v := 4) C0 dX8_costWith_14 (by decide) rfl ?_
    obtain ⟨r_15, hc_15, hf⟩ := bind_inv hf
    refine V_cVI (ws' := (W_M cI cJ cZ cO am mo.1 mo.2.1 mo.2.2.1 mo.2.2.2.1 mo.2.2.2.2.1 mo.2.2.2.2.2.1 mo.2.2.2.2.2.2.1 mo.2.2.2.2.2.2.2.1 mo.2.2.2.2.2.2.2.2.1 mo.2.2.2.2.2.2.2.2.2.1 mo.2.2.2.2.2.2.2.2.2.2.1 mo.2.2.2.2.2.2.2.2.2.2.2.1 mo.2.2.2.2.2.2.2.2.2.2.2.2.1 mo.2.2.2.2.2.2.2.2.2.2.2.2.2.1 mo.2.2.2.2.2.2.2.2.2.2.2.2.2.2.1 mo.2.2.2.2.2.2.2.2.2.2.2.2.2.2.2.1 mo.2.2.2.2.2.2.2.2.2.2.2.2.2.2.2.2.1 mo.2.2.2.2.2.2.2.2.2.2.2.2.2.2.2.2.2)) (As := [.int 4]) (b := am 0) (st := [.ref (am 0)]) C0 (c_X8_padText l dC dI cI cJ cZ cO am N mo 4 r_15 hc_15) rfl 1 gX8_costWith_X8_padText (by decide +kernel) ⟨Nat.le_of_ble_eq_true rfl, Nat.le_of_ble_eq_true rfl⟩ rfl 0 8 rfl rfl  Cut.all rfl (Nat.le_of_ble_eq_true rfl) dX8_costWith_15 rfl ⟨Nat.zero_le _, Nat.zero_le _⟩ ?_
    refine V_iload_n C0 dX8_costWith_18 2 rfl rfl ?_
    obtain ⟨r_19, hc_19, hf⟩ := bind_inv hf
    refine V_cVI (ws' := (W_M cI cJ cZ cO am r_19.2.1 r_19.2.2.1 r_19.2.2.2.1 r_19.2.2.2.2.1 r_19.2.2.2.2.2.1 r_19.2.2.2.2.2.2.1 r_19.2.2.2.2.2.2.2.1 r_19.2.2.2.2.2.2.2.2.1 r_19.2.2.2.2.2.2.2.2.2.1 r_19.2.2.2.2.2.2.2.2.2.2.1 r_19.2.2.2.2.2.2.2.2.2.2.2.1 r_19.2.2.2.2.2.2.2.2.2.2.2.2.1 r_19.2.2.2.2.2.2.2.2.2.2.2.2.2.1 r_19.2.2.2.2.2.2.2.2.2.2.2.2.2.2.1 r_19.2.2.2.2.2.2.2.2.2.2.2.2.2.2.2.1 r_19.2.2.2.2.2.2.2.2.2.2.2.2.2.2.2.2.1 r_19.2.2.2.2.2.2.2.2.2.2.2.2.2.2.2.2.2.1 r_19.2.2.2.2.2.2.2.2.2.2.2.2.2.2.2.2.2.2)) (As := [.int r_15, .int x1]) (b := am 0) (st := []) C0 (c_X8_addPiece l dC dI cI cJ cZ cO am N mo r_15 x1 r_19 hc_19) rfl 2 gX8_costWith_X8_addPiece (by decide +kernel) ⟨Nat.le_of_ble_eq_true rfl, Nat.le_of_ble_eq_true rfl⟩ rfl 0 8 rfl rfl  Cut.all rfl (Nat.le_of_ble_eq_true rfl) dX8_costWith_19 rfl ⟨Nat.zero_le _, Nat.zero_le _⟩ ?_
    refine V_pop C0 dX8_costWith_22 rfl rfl ?_
    refine V_aload_n C0 dX8_costWith_23 1 rfl rfl ?_
    obtain ⟨r_24, hc_24, hf⟩ := bind_inv hf
    refine V_cVI (ws' := (W_M cI cJ cZ cO am r_24.2.1 r_24.2.2.1 r_24.2.2.2.1 r_24.2.2.2.2.1 r_24.2.2.2.2.2.1 r_24.2.2.2.2.2.2.1 r_24.2.2.2.2.2.2.2.1 r_24.2.2.2.2.2.2.2.2.1 r_24.2.2.2.2.2.2.2.2.2.1 r_24.2.2.2.2.2.2.2.2.2.2.1 r_24.2.2.2.2.2.2.2.2.2.2.2.1 r_24.2.2.2.2.2.2.2.2.2.2.2.2.1 r_24.2.2.2.2.2.2.2.2.2.2.2.2.2.1 r_24.2.2.2.2.2.2.2.2.2.2.2.2.2.2.1 r_24.2.2.2.2.2.2.2.2.2.2.2.2.2.2.2.1 r_24.2.2.2.2.2.2.2.2.2.2.2.2.2.2.2.2.1 r_24.2.2.2.2.2.2.2.2.2.2.2.2.2.2.2.2.2.1 r_24.2.2.2.2.2.2.2.2.2.2.2.2.2.2.2.2.2.2)) (As := []) (b := am 0) (st := []) C0 (c_X8_allCosts l dC dI cI cJ cZ cO am N r_19.2  r_24 hc_24) rfl 0 gX8_costWith_X8_allCosts (by decide +kernel) ⟨Nat.le_of_ble_eq_true rfl, Nat.le_of_ble_eq_true rfl⟩ rfl 0 8 rfl rfl  Cut.all rfl (Nat.le_of_ble_eq_true rfl) dX8_costWith_24 rfl ⟨Nat.zero_le _, Nat.zero_le _⟩ ?_
    refine V_istore_n (lv' := [(3, .int r_24.1), (2, .int r_2), (0, .ref (am 0)), (1, .int x1)]) C0 dX8_costWith_27 rfl (by decide) rfl rfl ?_
    refine V_aload_n C0 dX8_costWith_28 2 rfl rfl ?_
    refine V_get C0 fl_X8_costWith_7 0 rfl rfl dX8_costWith_29 rfl ?_
    refine V_iconst (v := 0) C0 dX8_costWith_32 (by decide) rfl ?_
    refine V_dup2_11 C0 dX8_costWith_33 rfl rfl rfl ?_
    obtain ⟨hi34, hf⟩ := ck_inv hf
    refine V_iald C0 1 0 rfl rfl hi34 dX8_costWith_34 rfl ?_
    refine V_iconst (v := 1) C0 dX8_costWith_35 (by decide) rfl ?_
    refine V_isub C0 dX8_costWith_36 rfl ?_
    obtain ⟨hi37, hf⟩ := ck_inv hf
    refine V_iast (ws' := (W_M cI cJ cZ cO am (upd r_24.2.1 ((0 : Int32).toNatClampNeg) ((r_24.2.1 ((0 : Int32).toNatClampNeg)) - 1)) r_24.2.2.1 r_24.2.2.2.1 r_24.2.2.2.2.1 r_24.2.2.2.2.2.1 r_24.2.2.2.2.2.2.1 r_24.2.2.2.2.2.2.2.1 r_24.2.2.2.2.2.2.2.2.1 r_24.2.2.2.2.2.2.2.2.2.1 r_24.2.2.2.2.2.2.2.2.2.2.1 r_24.2.2.2.2.2.2.2.2.2.2.2.1 r_24.2.2.2.2.2.2.2.2.2.2.2.2.1 r_24.2.2.2.2.2.2.2.2.2.2.2.2.2.1 r_24.2.2.2.2.2.2.2.2.2.2.2.2.2.2.1 r_24.2.2.2.2.2.2.2.2.2.2.2.2.2.2.2.1 r_24.2.2.2.2.2.2.2.2.2.2.2.2.2.2.2.2.1 r_24.2.2.2.2.2.2.2.2.2.2.2.2.2.2.2.2.2.1 r_24.2.2.2.2.2.2.2.2.2.2.2.2.2.2.2.2.2.2)) C0 1 0 rfl rfl hi37 dX8_costWith_37 rfl rfl ?_
    refine V_iload_n C0 dX8_costWith_38 0 rfl rfl ?_
    obtain rfl := some_inv hf
    exact V_iret C0 () rfl rfl dX8_costWith_39
  · have hf := ite_f c7 hf
    refine V_iload_n C0 dX8_costWith_10 0 rfl rfl ?_
    obtain rfl := some_inv hf
    exact V_iret C0 () rfl rfl dX8_costWith_11
abbrev RM_X8_growing : Room := { frames := 7, cells := 0, slots := 0, locals := 173 }
theorem in_X8_growing_X8 : ∀ w ∈ u_ws RX8 TX8 18, w ∈ wsX8_growing := by decide +kernel
theorem fl_X8_growing_44 : FL RX8 wsX8_growing 8 44 13 RX8 TX8 18 := ⟨in_X8_growing_X8, rfl, by decide, by decide +kernel, rfl⟩
theorem fl_X8_growing_50 : FL RX8 wsX8_growing 8 50 15 RX8 TX8 18 := ⟨in_X8_growing_X8, rfl, by decide, by decide +kernel, rfl⟩
set_option maxRecDepth 100000 in
set_option maxHeartbeats 4000000 in
theorem c_X8_growing (l : Launch) (dC : Nat → ClassId) (dI : Nat → Nat → Nat) (cI cJ cZ cO : ClassId) (am : Nat → Nat) (N : Nat) (mo : MV) (x1 : Int32) (o : Int32 × MV) (hf : f_X8_growing N mo x1 = some o) : MetI l yX8_growing wsX8_growing RM_X8_growing (dC, dI) (TY cI cJ cZ cO) [.ref (am 0), .int x1] (W_M cI cJ cZ cO am mo.1 mo.2.1 mo.2.2.1 mo.2.2.2.1 mo.2.2.2.2.1 mo.2.2.2.2.2.1 mo.2.2.2.2.2.2.1 mo.2.2.2.2.2.2.2.1 mo.2.2.2.2.2.2.2.2.1 mo.2.2.2.2.2.2.2.2.2.1 mo.2.2.2.2.2.2.2.2.2.2.1 mo.2.2.2.2.2.2.2.2.2.2.2.1 mo.2.2.2.2.2.2.2.2.2.2.2.2.1 mo.2.2.2.2.2.2.2.2.2.2.2.2.2.1 mo.2.2.2.2.2.2.2.2.2.2.2.2.2.2.1 mo.2.2.2.2.2.2.2.2.2.2.2.2.2.2.2.1 mo.2.2.2.2.2.2.2.2.2.2.2.2.2.2.2.2.1 mo.2.2.2.2.2.2.2.2.2.2.2.2.2.2.2.2.2) (fun r (_ : Unit) => r = o.1) (fun _ => (W_M cI cJ cZ cO am o.2.1 o.2.2.1 o.2.2.2.1 o.2.2.2.2.1 o.2.2.2.2.2.1 o.2.2.2.2.2.2.1 o.2.2.2.2.2.2.2.1 o.2.2.2.2.2.2.2.2.1 o.2.2.2.2.2.2.2.2.2.1 o.2.2.2.2.2.2.2.2.2.2.1 o.2.2.2.2.2.2.2.2.2.2.2.1 o.2.2.2.2.2.2.2.2.2.2.2.2.1 o.2.2.2.2.2.2.2.2.2.2.2.2.2.1 o.2.2.2.2.2.2.2.2.2.2.2.2.2.2.1 o.2.2.2.2.2.2.2.2.2.2.2.2.2.2.2.1 o.2.2.2.2.2.2.2.2.2.2.2.2.2.2.2.2.1 o.2.2.2.2.2.2.2.2.2.2.2.2.2.2.2.2.2.1 o.2.2.2.2.2.2.2.2.2.2.2.2.2.2.2.2.2.2)) := by
  refine MetI.ofV (cc := cX8_growing) (maxL := 3) (ret := (some .int)) (own := RX8) (lv0 := [(0, .ref (am 0)), (1, .int x1)]) (by decide) rfl rfl (Nat.le_of_ble_eq_true rfl) rfl ?_
  intro p e s m below meth c A C0 _
  unfold f_X8_growing at hf
  refine V_iload_n C0 dX8_growing_0 1 rfl rfl ?_
  refine V_iconst (v := 0) C0 dX8_growing_1 (by decide) rfl ?_
  refine V_bipush (v := 6) C0 dX8_growing_2 (by decide) rfl ?_
  obtain ⟨r_4, hc_4, hf⟩ := bind_inv hf
  refine V_cSI (ws' := (W_M cI cJ cZ cO am mo.1 mo.2.1 mo.2.2.1 mo.2.2.2.1 mo.2.2.2.2.1 mo.2.2.2.2.2.1 mo.2.2.2.2.2.2.1 mo.2.2.2.2.2.2.2.1 mo.2.2.2.2.2.2.2.2.1 mo.2.2.2.2.2.2.2.2.2.1 mo.2.2.2.2.2.2.2.2.2.2.1 mo.2.2.2.2.2.2.2.2.2.2.2.1 mo.2.2.2.2.2.2.2.2.2.2.2.2.1 mo.2.2.2.2.2.2.2.2.2.2.2.2.2.1 mo.2.2.2.2.2.2.2.2.2.2.2.2.2.2.1 mo.2.2.2.2.2.2.2.2.2.2.2.2.2.2.2.1 mo.2.2.2.2.2.2.2.2.2.2.2.2.2.2.2.2.1 mo.2.2.2.2.2.2.2.2.2.2.2.2.2.2.2.2.2)) (As := [.int x1, .int 0, .int 6]) (st := []) C0 (c_X8_within l dC dI cI cJ cZ cO  N  x1 0 6 r_4 hc_4) rfl 3 gX8_growing_X8_within (by decide +kernel) ⟨Nat.le_of_ble_eq_true rfl, Nat.le_of_ble_eq_true rfl⟩ rfl  ⟨_, pr1, fun _ => pr1⟩ rfl (Nat.le_of_ble_eq_true rfl) dX8_growing_4 rfl ⟨Nat.zero_le _, Nat.zero_le _⟩ ?_
  refine V_if_ne (tgt := 13) C0 dX8_growing_7 (by decide) rfl (fun c7 => ?_) (fun c7 => ?_)
  · have hf := ite_f c7 hf
    refine V_aload_n C0 dX8_growing_13 0 rfl rfl ?_
    obtain ⟨r_14, hc_14, hf⟩ := bind_inv hf
    refine V_cVI (ws' := (W_M cI cJ cZ cO am r_14.2.1 r_14.2.2.1 r_14.2.2.2.1 r_14.2.2.2.2.1 r_14.2.2.2.2.2.1 r_14.2.2.2.2.2.2.1 r_14.2.2.2.2.2.2.2.1 r_14.2.2.2.2.2.2.2.2.1 r_14.2.2.2.2.2.2.2.2.2.1 r_14.2.2.2.2.2.2.2.2.2.2.1 r_14.2.2.2.2.2.2.2.2.2.2.2.1 r_14.2.2.2.2.2.2.2.2.2.2.2.2.1 r_14.2.2.2.2.2.2.2.2.2.2.2.2.2.1 r_14.2.2.2.2.2.2.2.2.2.2.2.2.2.2.1 r_14.2.2.2.2.2.2.2.2.2.2.2.2.2.2.2.1 r_14.2.2.2.2.2.2.2.2.2.2.2.2.2.2.2.2.1 r_14.2.2.2.2.2.2.2.2.2.2.2.2.2.2.2.2.2.1 r_14.2.2.2.2.2.2.2.2.2.2.2.2.2.2.2.2.2.2)) (As := []) (b := am 0) (st := []) C0 (c_X8_growsAt l dC dI cI cJ cZ cO am N mo  r_14 hc_14) rfl 0 gX8_growing_X8_growsAt (by decide +kernel) ⟨Nat.le_of_ble_eq_true rfl, Nat.le_of_ble_eq_true rfl⟩ rfl 0 8 rfl rfl  Cut.all rfl (Nat.le_of_ble_eq_true rfl) dX8_growing_14 rfl ⟨Nat.zero_le _, Nat.zero_le _⟩ ?_
    refine V_istore_n (lv' := [(2, .int r_14.1), (0, .ref (am 0)), (1, .int x1)]) C0 dX8_growing_17 rfl (by decide) rfl rfl ?_
    refine V_iload_n C0 dX8_growing_18 0 rfl rfl ?_
    refine V_bipush (v := (-6)) C0 dX8_growing_19 (by decide) rfl ?_
    refine V_icmp_ne (tgt := 27) C0 dX8_growing_21 (by decide) rfl (fun c21 => ?_) (fun c21 => ?_)
    · have hf := ite_f c21 hf
      refine V_iload_n C0 dX8_growing_27 2 rfl rfl ?_
      refine V_if_ne (tgt := 43) C0 dX8_growing_28 (by decide) rfl (fun c28 => ?_) (fun c28 => ?_)
      · have hf := ite_f c28 hf
        refine V_iload_n C0 dX8_growing_43 2 rfl rfl ?_
        refine V_iconst (v := 1) C0 dX8_growing_44 (by decide) rfl ?_
        refine V_icmp_ne (tgt := 61) C0 dX8_growing_45 (by decide) rfl (fun c45 => ?_) (fun c45 => ?_)
        · have hf := ite_f c45 hf
          refine V_iload_n C0 dX8_growing_61 2 rfl rfl ?_
          refine V_iconst (v := 2) C0 dX8_growing_62 (by decide) rfl ?_
          refine V_icmp_ne (tgt := 75) C0 dX8_growing_63 (by decide) rfl (fun c63 => ?_) (fun c63 => ?_)
          · have hf := ite_f c63 hf
            refine V_aload_n C0 dX8_growing_75 1 rfl rfl ?_
            refine V_get C0 fl_X8_growing_44 0 rfl rfl dX8_growing_76 rfl ?_
            refine V_iload_n C0 dX8_growing_79 0 rfl rfl ?_
            obtain ⟨hi80, hf⟩ := ck_inv hf
            refine V_iald C0 12 0 rfl rfl hi80 dX8_growing_80 rfl ?_
            refine V_iload_n C0 dX8_growing_81 2 rfl rfl ?_
            refine V_iconst (v := 3) C0 dX8_growing_82 (by decide) rfl ?_
            refine V_isub C0 dX8_growing_83 rfl ?_
            obtain ⟨r_84, hc_84, hf⟩ := bind_inv hf
            refine V_cSI (ws' := (W_M cI cJ cZ cO am r_14.2.1 r_14.2.2.1 r_14.2.2.2.1 r_14.2.2.2.2.1 r_14.2.2.2.2.2.1 r_14.2.2.2.2.2.2.1 r_14.2.2.2.2.2.2.2.1 r_14.2.2.2.2.2.2.2.2.1 r_14.2.2.2.2.2.2.2.2.2.1 r_14.2.2.2.2.2.2.2.2.2.2.1 r_14.2.2.2.2.2.2.2.2.2.2.2.1 r_14.2.2.2.2.2.2.2.2.2.2.2.2.1 r_14.2.2.2.2.2.2.2.2.2.2.2.2.2.1 r_14.2.2.2.2.2.2.2.2.2.2.2.2.2.2.1 r_14.2.2.2.2.2.2.2.2.2.2.2.2.2.2.2.1 r_14.2.2.2.2.2.2.2.2.2.2.2.2.2.2.2.2.1 r_14.2.2.2.2.2.2.2.2.2.2.2.2.2.2.2.2.2.1 r_14.2.2.2.2.2.2.2.2.2.2.2.2.2.2.2.2.2.2)) (As := [.int (r_14.2.2.2.2.2.2.2.2.2.2.2.2.2.2.1 (r_14.1.toNatClampNeg)), .int (x1 - 3)]) (st := []) C0 (c_X8_letterOf l dC dI cI cJ cZ cO  N  (r_14.2.2.2.2.2.2.2.2.2.2.2.2.2.2.1 (r_14.1.toNatClampNeg)) (x1 - 3) r_84 hc_84) rfl 2 gX8_growing_X8_letterOf (by decide +kernel) ⟨Nat.le_of_ble_eq_true rfl, Nat.le_of_ble_eq_true rfl⟩ rfl  ⟨_, pr1, fun _ => pr1⟩ rfl (Nat.le_of_ble_eq_true rfl) dX8_growing_84 rfl ⟨Nat.zero_le _, Nat.zero_le _⟩ ?_
            obtain rfl := some_inv hf
            exact V_iret C0 () rfl rfl dX8_growing_87
          · have hf := ite_t c63 hf
            refine V_aload_n C0 dX8_growing_66 1 rfl rfl ?_
            refine V_get C0 fl_X8_growing_50 0 rfl rfl dX8_growing_67 rfl ?_
            refine V_iload_n C0 dX8_growing_70 0 rfl rfl ?_
            obtain ⟨hi71, hf⟩ := ck_inv hf
            refine V_iald C0 14 0 rfl rfl hi71 dX8_growing_71 rfl ?_
            refine V_goto (tgt := 87) C0 dX8_growing_72 (by decide) ?_
            obtain rfl := some_inv hf
            exact V_iret C0 () rfl rfl dX8_growing_87
        · have hf := ite_t c45 hf
          refine V_aload_n C0 dX8_growing_48 1 rfl rfl ?_
          refine V_aload_n C0 dX8_growing_49 1 rfl rfl ?_
          refine V_get C0 fl_X8_growing_44 0 rfl rfl dX8_growing_50 rfl ?_
          refine V_iload_n C0 dX8_growing_53 0 rfl rfl ?_
          obtain ⟨hi54, hf⟩ := ck_inv hf
          refine V_iald C0 12 0 rfl rfl hi54 dX8_growing_54 rfl ?_
          obtain ⟨r_55, hc_55, hf⟩ := bind_inv hf
          refine V_cVI (ws' := (W_M cI cJ cZ cO am r_14.2.1 r_14.2.2.1 r_14.2.2.2.1 r_14.2.2.2.2.1 r_14.2.2.2.2.2.1 r_14.2.2.2.2.2.2.1 r_14.2.2.2.2.2.2.2.1 r_14.2.2.2.2.2.2.2.2.1 r_14.2.2.2.2.2.2.2.2.2.1 r_14.2.2.2.2.2.2.2.2.2.2.1 r_14.2.2.2.2.2.2.2.2.2.2.2.1 r_14.2.2.2.2.2.2.2.2.2.2.2.2.1 r_14.2.2.2.2.2.2.2.2.2.2.2.2.2.1 r_14.2.2.2.2.2.2.2.2.2.2.2.2.2.2.1 r_14.2.2.2.2.2.2.2.2.2.2.2.2.2.2.2.1 r_14.2.2.2.2.2.2.2.2.2.2.2.2.2.2.2.2.1 r_14.2.2.2.2.2.2.2.2.2.2.2.2.2.2.2.2.2.1 r_14.2.2.2.2.2.2.2.2.2.2.2.2.2.2.2.2.2.2)) (As := [.int (r_14.2.2.2.2.2.2.2.2.2.2.2.2.2.2.1 (r_14.1.toNatClampNeg))]) (b := am 0) (st := []) C0 (c_X8_standsSo l dC dI cI cJ cZ cO am N r_14.2 (r_14.2.2.2.2.2.2.2.2.2.2.2.2.2.2.1 (r_14.1.toNatClampNeg)) r_55 hc_55) rfl 1 gX8_growing_X8_standsSo (by decide +kernel) ⟨Nat.le_of_ble_eq_true rfl, Nat.le_of_ble_eq_true rfl⟩ rfl 0 8 rfl rfl  Cut.all rfl (Nat.le_of_ble_eq_true rfl) dX8_growing_55 rfl ⟨Nat.zero_le _, Nat.zero_le _⟩ ?_
          refine V_goto (tgt := 87) C0 dX8_growing_58 (by decide) ?_
          obtain rfl := some_inv hf
          exact V_iret C0 () rfl rfl dX8_growing_87
      · have hf := ite_t c28 hf
        refine V_aload_n C0 dX8_growing_31 1 rfl rfl ?_
        refine V_get C0 fl_X8_growing_44 0 rfl rfl dX8_growing_32 rfl ?_
        refine V_iload_n C0 dX8_growing_35 0 rfl rfl ?_
        obtain ⟨hi36, hf⟩ := ck_inv hf
        refine V_iald C0 12 0 rfl rfl hi36 dX8_growing_36 rfl ?_
        obtain ⟨r_37, hc_37, hf⟩ := bind_inv hf
        refine V_cSI (ws' := (W_M cI cJ cZ cO am r_14.2.1 r_14.2.2.1 r_14.2.2.2.1 r_14.2.2.2.2.1 r_14.2.2.2.2.2.1 r_14.2.2.2.2.2.2.1 r_14.2.2.2.2.2.2.2.1 r_14.2.2.2.2.2.2.2.2.1 r_14.2.2.2.2.2.2.2.2.2.1 r_14.2.2.2.2.2.2.2.2.2.2.1 r_14.2.2.2.2.2.2.2.2.2.2.2.1 r_14.2.2.2.2.2.2.2.2.2.2.2.2.1 r_14.2.2.2.2.2.2.2.2.2.2.2.2.2.1 r_14.2.2.2.2.2.2.2.2.2.2.2.2.2.2.1 r_14.2.2.2.2.2.2.2.2.2.2.2.2.2.2.2.1 r_14.2.2.2.2.2.2.2.2.2.2.2.2.2.2.2.2.1 r_14.2.2.2.2.2.2.2.2.2.2.2.2.2.2.2.2.2.1 r_14.2.2.2.2.2.2.2.2.2.2.2.2.2.2.2.2.2.2)) (As := [.int (r_14.2.2.2.2.2.2.2.2.2.2.2.2.2.2.1 (r_14.1.toNatClampNeg))]) (st := []) C0 (c_X8_lengthOf l dC dI cI cJ cZ cO  N  (r_14.2.2.2.2.2.2.2.2.2.2.2.2.2.2.1 (r_14.1.toNatClampNeg)) r_37 hc_37) rfl 1 gX8_growing_X8_lengthOf (by decide +kernel) ⟨Nat.le_of_ble_eq_true rfl, Nat.le_of_ble_eq_true rfl⟩ rfl  ⟨_, pr1, fun _ => pr1⟩ rfl (Nat.le_of_ble_eq_true rfl) dX8_growing_37 rfl ⟨Nat.zero_le _, Nat.zero_le _⟩ ?_
        refine V_goto (tgt := 87) C0 dX8_growing_40 (by decide) ?_
        obtain rfl := some_inv hf
        exact V_iret C0 () rfl rfl dX8_growing_87
    · have hf := ite_t c21 hf
      refine V_bipush (v := (-6)) C0 dX8_growing_24 (by decide) rfl ?_
      obtain rfl := some_inv hf
      exact V_iret C0 () rfl rfl dX8_growing_26
  · have hf := ite_t c7 hf
    refine V_bipush (v := (-2)) C0 dX8_growing_10 (by decide) rfl ?_
    obtain rfl := some_inv hf
    exact V_iret C0 () rfl rfl dX8_growing_12
abbrev RM_X8_least : Room := { frames := 9, cells := 0, slots := 0, locals := 211 }
set_option maxRecDepth 100000 in
set_option maxHeartbeats 4000000 in
theorem c_X8_least (l : Launch) (dC : Nat → ClassId) (dI : Nat → Nat → Nat) (cI cJ cZ cO : ClassId) (am : Nat → Nat) (N : Nat) (mo : MV) (o : Int32 × MV) (hf : f_X8_least N mo = some o) : MetI l yX8_least wsX8_least RM_X8_least (dC, dI) (TY cI cJ cZ cO) [.ref (am 0)] (W_M cI cJ cZ cO am mo.1 mo.2.1 mo.2.2.1 mo.2.2.2.1 mo.2.2.2.2.1 mo.2.2.2.2.2.1 mo.2.2.2.2.2.2.1 mo.2.2.2.2.2.2.2.1 mo.2.2.2.2.2.2.2.2.1 mo.2.2.2.2.2.2.2.2.2.1 mo.2.2.2.2.2.2.2.2.2.2.1 mo.2.2.2.2.2.2.2.2.2.2.2.1 mo.2.2.2.2.2.2.2.2.2.2.2.2.1 mo.2.2.2.2.2.2.2.2.2.2.2.2.2.1 mo.2.2.2.2.2.2.2.2.2.2.2.2.2.2.1 mo.2.2.2.2.2.2.2.2.2.2.2.2.2.2.2.1 mo.2.2.2.2.2.2.2.2.2.2.2.2.2.2.2.2.1 mo.2.2.2.2.2.2.2.2.2.2.2.2.2.2.2.2.2) (fun r (_ : Unit) => r = o.1) (fun _ => (W_M cI cJ cZ cO am o.2.1 o.2.2.1 o.2.2.2.1 o.2.2.2.2.1 o.2.2.2.2.2.1 o.2.2.2.2.2.2.1 o.2.2.2.2.2.2.2.1 o.2.2.2.2.2.2.2.2.1 o.2.2.2.2.2.2.2.2.2.1 o.2.2.2.2.2.2.2.2.2.2.1 o.2.2.2.2.2.2.2.2.2.2.2.1 o.2.2.2.2.2.2.2.2.2.2.2.2.1 o.2.2.2.2.2.2.2.2.2.2.2.2.2.1 o.2.2.2.2.2.2.2.2.2.2.2.2.2.2.1 o.2.2.2.2.2.2.2.2.2.2.2.2.2.2.2.1 o.2.2.2.2.2.2.2.2.2.2.2.2.2.2.2.2.1 o.2.2.2.2.2.2.2.2.2.2.2.2.2.2.2.2.2.1 o.2.2.2.2.2.2.2.2.2.2.2.2.2.2.2.2.2.2)) := by
  refine MetI.ofV (cc := cX8_least) (maxL := 1) (ret := (some .int)) (own := RX8) (lv0 := [(0, .ref (am 0))]) (by decide) rfl rfl (Nat.le_of_ble_eq_true rfl) rfl ?_
  intro p e s m below meth c A C0 _
  unfold f_X8_least at hf
  refine V_aload_n C0 dX8_least_0 0 rfl rfl ?_
  obtain ⟨r_1, hc_1, hf⟩ := bind_inv hf
  refine V_cVI (ws' := (W_M cI cJ cZ cO am r_1.2.1 r_1.2.2.1 r_1.2.2.2.1 r_1.2.2.2.2.1 r_1.2.2.2.2.2.1 r_1.2.2.2.2.2.2.1 r_1.2.2.2.2.2.2.2.1 r_1.2.2.2.2.2.2.2.2.1 r_1.2.2.2.2.2.2.2.2.2.1 r_1.2.2.2.2.2.2.2.2.2.2.1 r_1.2.2.2.2.2.2.2.2.2.2.2.1 r_1.2.2.2.2.2.2.2.2.2.2.2.2.1 r_1.2.2.2.2.2.2.2.2.2.2.2.2.2.1 r_1.2.2.2.2.2.2.2.2.2.2.2.2.2.2.1 r_1.2.2.2.2.2.2.2.2.2.2.2.2.2.2.2.1 r_1.2.2.2.2.2.2.2.2.2.2.2.2.2.2.2.2.1 r_1.2.2.2.2.2.2.2.2.2.2.2.2.2.2.2.2.2.1 r_1.2.2.2.2.2.2.2.2.2.2.2.2.2.2.2.2.2.2)) (As := []) (b := am 0) (st := []) C0 (c_X8_leastOf l dC dI cI cJ cZ cO am N mo  r_1 hc_1) rfl 0 gX8_least_X8_leastOf (by decide +kernel) ⟨Nat.le_of_ble_eq_true rfl, Nat.le_of_ble_eq_true rfl⟩ rfl 0 8 rfl rfl  Cut.all rfl (Nat.le_of_ble_eq_true rfl) dX8_least_1 rfl ⟨Nat.zero_le _, Nat.zero_le _⟩ ?_
  obtain rfl := some_inv hf
  exact V_iret C0 () rfl rfl dX8_least_4
abbrev RM_X8_put : Room := { frames := 1, cells := 0, slots := 0, locals := 22 }
theorem in_X8_put_X8 : ∀ w ∈ u_ws RX8 TX8 18, w ∈ wsX8_put := by decide +kernel
theorem fl_X8_put_25 : FL RX8 wsX8_put 8 25 6 RX8 TX8 18 := ⟨in_X8_put_X8, rfl, by decide, by decide +kernel, rfl⟩
theorem fl_X8_put_135 : FL RX8 wsX8_put 8 135 7 RX8 TX8 18 := ⟨in_X8_put_X8, rfl, by decide, by decide +kernel, rfl⟩
set_option maxRecDepth 100000 in
set_option maxHeartbeats 4000000 in
theorem c_X8_put (l : Launch) (dC : Nat → ClassId) (dI : Nat → Nat → Nat) (cI cJ cZ cO : ClassId) (am : Nat → Nat) (N : Nat) (mo : MV) (x1 : Int64) (o : Int32 × MV) (hf : f_X8_put N mo x1 = some o) : MetI l yX8_put wsX8_put RM_X8_put (dC, dI) (TY cI cJ cZ cO) [.ref (am 0), .long x1] (W_M cI cJ cZ cO am mo.1 mo.2.1 mo.2.2.1 mo.2.2.2.1 mo.2.2.2.2.1 mo.2.2.2.2.2.1 mo.2.2.2.2.2.2.1 mo.2.2.2.2.2.2.2.1 mo.2.2.2.2.2.2.2.2.1 mo.2.2.2.2.2.2.2.2.2.1 mo.2.2.2.2.2.2.2.2.2.2.1 mo.2.2.2.2.2.2.2.2.2.2.2.1 mo.2.2.2.2.2.2.2.2.2.2.2.2.1 mo.2.2.2.2.2.2.2.2.2.2.2.2.2.1 mo.2.2.2.2.2.2.2.2.2.2.2.2.2.2.1 mo.2.2.2.2.2.2.2.2.2.2.2.2.2.2.2.1 mo.2.2.2.2.2.2.2.2.2.2.2.2.2.2.2.2.1 mo.2.2.2.2.2.2.2.2.2.2.2.2.2.2.2.2.2) (fun r (_ : Unit) => r = o.1) (fun _ => (W_M cI cJ cZ cO am o.2.1 o.2.2.1 o.2.2.2.1 o.2.2.2.2.1 o.2.2.2.2.2.1 o.2.2.2.2.2.2.1 o.2.2.2.2.2.2.2.1 o.2.2.2.2.2.2.2.2.1 o.2.2.2.2.2.2.2.2.2.1 o.2.2.2.2.2.2.2.2.2.2.1 o.2.2.2.2.2.2.2.2.2.2.2.1 o.2.2.2.2.2.2.2.2.2.2.2.2.1 o.2.2.2.2.2.2.2.2.2.2.2.2.2.1 o.2.2.2.2.2.2.2.2.2.2.2.2.2.2.1 o.2.2.2.2.2.2.2.2.2.2.2.2.2.2.2.1 o.2.2.2.2.2.2.2.2.2.2.2.2.2.2.2.2.1 o.2.2.2.2.2.2.2.2.2.2.2.2.2.2.2.2.2.1 o.2.2.2.2.2.2.2.2.2.2.2.2.2.2.2.2.2.2)) := by
  refine MetI.ofV (cc := cX8_put) (maxL := 8) (ret := (some .int)) (own := RX8) (lv0 := [(0, .ref (am 0)), (1, .long x1)]) (by decide) rfl rfl (Nat.le_of_ble_eq_true rfl) rfl ?_
  intro p e s m below meth c A C0 _
  unfold f_X8_put at hf
  refine V_iconst (v := 0) C0 dX8_put_0 (by decide) rfl ?_
  refine V_istore_n (lv' := [(3, .int 0), (0, .ref (am 0)), (1, .long x1)]) C0 dX8_put_1 rfl (by decide) rfl rfl ?_
  refine V_lload_n C0 dX8_put_2 2 rfl rfl ?_
  refine V_lstore (lv' := [(4, .long x1), (3, .int 0), (0, .ref (am 0)), (1, .long x1)]) C0 dX8_put_3 (by decide) rfl rfl ?_
  refine V_iconst (v := 1) C0 dX8_put_5 (by decide) rfl ?_
  refine V_istore (lv' := [(6, .int 1), (4, .long x1), (3, .int 0), (0, .ref (am 0)), (1, .long x1)]) C0 dX8_put_6 (by decide) rfl rfl ?_
  have hL8 : ∀ (mo : MV) (K : Int32 → Int64 → Int32 → Option (Int32 × MV)), (∀ (x3 : Int32) (x4 : Int64) (x6 : Int32), K x3 x4 x6 = some o → V p l e RM_X8_put s m ([.ref (am 0), .long x1] : List Value).toArray below meth c 8 (dC, dI) A (MQ below (va_Qi (fun r (_ : Unit) => r = o.1) (PostW (dC, dI) (TY cI cJ cZ cO) A (fun _ => (W_M cI cJ cZ cO am o.2.1 o.2.2.1 o.2.2.2.1 o.2.2.2.2.1 o.2.2.2.2.2.1 o.2.2.2.2.2.2.1 o.2.2.2.2.2.2.2.1 o.2.2.2.2.2.2.2.2.1 o.2.2.2.2.2.2.2.2.2.1 o.2.2.2.2.2.2.2.2.2.2.1 o.2.2.2.2.2.2.2.2.2.2.2.1 o.2.2.2.2.2.2.2.2.2.2.2.2.1 o.2.2.2.2.2.2.2.2.2.2.2.2.2.1 o.2.2.2.2.2.2.2.2.2.2.2.2.2.2.1 o.2.2.2.2.2.2.2.2.2.2.2.2.2.2.2.1 o.2.2.2.2.2.2.2.2.2.2.2.2.2.2.2.2.1 o.2.2.2.2.2.2.2.2.2.2.2.2.2.2.2.2.2.1 o.2.2.2.2.2.2.2.2.2.2.2.2.2.2.2.2.2.2))) A) ([.ref (am 0), .long x1] : List Value).toArray s 0 0 A) 0 0 (W_M cI cJ cZ cO am mo.1 mo.2.1 mo.2.2.1 mo.2.2.2.1 mo.2.2.2.2.1 mo.2.2.2.2.2.1 mo.2.2.2.2.2.2.1 mo.2.2.2.2.2.2.2.1 mo.2.2.2.2.2.2.2.2.1 mo.2.2.2.2.2.2.2.2.2.1 mo.2.2.2.2.2.2.2.2.2.2.1 mo.2.2.2.2.2.2.2.2.2.2.2.1 mo.2.2.2.2.2.2.2.2.2.2.2.2.1 mo.2.2.2.2.2.2.2.2.2.2.2.2.2.1 mo.2.2.2.2.2.2.2.2.2.2.2.2.2.2.1 mo.2.2.2.2.2.2.2.2.2.2.2.2.2.2.2.1 mo.2.2.2.2.2.2.2.2.2.2.2.2.2.2.2.2.1 mo.2.2.2.2.2.2.2.2.2.2.2.2.2.2.2.2.2) 67 [(0, .ref (am 0)), (1, .long x1), (3, .int x3), (4, .long x4), (6, .int x6)] []) → ∀ (n : Nat) (x3 : Int32) (x4 : Int64) (x6 : Int32), f_X8_put_L8 N x1 mo K n x3 x4 x6 = some o → V p l e RM_X8_put s m ([.ref (am 0), .long x1] : List Value).toArray below meth c 8 (dC, dI) A (MQ below (va_Qi (fun r (_ : Unit) => r = o.1) (PostW (dC, dI) (TY cI cJ cZ cO) A (fun _ => (W_M cI cJ cZ cO am o.2.1 o.2.2.1 o.2.2.2.1 o.2.2.2.2.1 o.2.2.2.2.2.1 o.2.2.2.2.2.2.1 o.2.2.2.2.2.2.2.1 o.2.2.2.2.2.2.2.2.1 o.2.2.2.2.2.2.2.2.2.1 o.2.2.2.2.2.2.2.2.2.2.1 o.2.2.2.2.2.2.2.2.2.2.2.1 o.2.2.2.2.2.2.2.2.2.2.2.2.1 o.2.2.2.2.2.2.2.2.2.2.2.2.2.1 o.2.2.2.2.2.2.2.2.2.2.2.2.2.2.1 o.2.2.2.2.2.2.2.2.2.2.2.2.2.2.2.1 o.2.2.2.2.2.2.2.2.2.2.2.2.2.2.2.2.1 o.2.2.2.2.2.2.2.2.2.2.2.2.2.2.2.2.2.1 o.2.2.2.2.2.2.2.2.2.2.2.2.2.2.2.2.2.2))) A) ([.ref (am 0), .long x1] : List Value).toArray s 0 0 A) 0 0 (W_M cI cJ cZ cO am mo.1 mo.2.1 mo.2.2.1 mo.2.2.2.1 mo.2.2.2.2.1 mo.2.2.2.2.2.1 mo.2.2.2.2.2.2.1 mo.2.2.2.2.2.2.2.1 mo.2.2.2.2.2.2.2.2.1 mo.2.2.2.2.2.2.2.2.2.1 mo.2.2.2.2.2.2.2.2.2.2.1 mo.2.2.2.2.2.2.2.2.2.2.2.1 mo.2.2.2.2.2.2.2.2.2.2.2.2.1 mo.2.2.2.2.2.2.2.2.2.2.2.2.2.1 mo.2.2.2.2.2.2.2.2.2.2.2.2.2.2.1 mo.2.2.2.2.2.2.2.2.2.2.2.2.2.2.2.1 mo.2.2.2.2.2.2.2.2.2.2.2.2.2.2.2.2.1 mo.2.2.2.2.2.2.2.2.2.2.2.2.2.2.2.2.2) 8 [(0, .ref (am 0)), (1, .long x1), (3, .int x3), (4, .long x4), (6, .int x6)] [] := by
    intro mo K hK n
    induction n with
    | zero => intro x3 x4 x6 hf; cases hf
    | succ n hREC =>
      intro x3 x4 x6 hf
      rw [f_X8_put_L8] at hf
      refine V_iload_n C0 dX8_put_8 2 rfl rfl ?_
      refine V_bipush (v := 8) C0 dX8_put_9 (by decide) rfl ?_
      refine V_icmp_ge (tgt := 67) C0 dX8_put_11 (by decide) rfl (fun c11 => ?_) (fun c11 => ?_)
      · have hf := ite_t c11 hf
        exact V.sub [0, 1, 2, 3, 4] rfl (hK x3 x4 x6 hf)
      · have hf := ite_f c11 hf
        refine V_lload C0 dX8_put_14 3 rfl rfl ?_
        refine V_ldc2 (v := 255) C0 dX8_put_16 (by decide +kernel) rfl ?_
        refine V_land C0 dX8_put_19 rfl ?_
        refine V_lconst (v := 0) C0 dX8_put_20 (by decide) rfl ?_
        refine V_lcmp C0 dX8_put_21 rfl ?_
        refine V_if_eq (tgt := 67) C0 dX8_put_22 (by decide) rfl (fun c22 => ?_) (fun c22 => ?_)
        · have hf := ite_t c22 hf
          exact V.sub [0, 1, 2, 3, 4] rfl (hK x3 x4 x6 hf)
        · have hf := ite_f c22 hf
          refine V_iload C0 dX8_put_25 4 rfl rfl ?_
          refine jn_elim hf (fun (J : Int32 → Option (Int32 × MV)) => ∀ (s0_52 : Int32), J s0_52 = some o → V p l e RM_X8_put s m ([.ref (am 0), .long x1] : List Value).toArray below meth c 8 (dC, dI) A (MQ below (va_Qi (fun r (_ : Unit) => r = o.1) (PostW (dC, dI) (TY cI cJ cZ cO) A (fun _ => (W_M cI cJ cZ cO am o.2.1 o.2.2.1 o.2.2.2.1 o.2.2.2.2.1 o.2.2.2.2.2.1 o.2.2.2.2.2.2.1 o.2.2.2.2.2.2.2.1 o.2.2.2.2.2.2.2.2.1 o.2.2.2.2.2.2.2.2.2.1 o.2.2.2.2.2.2.2.2.2.2.1 o.2.2.2.2.2.2.2.2.2.2.2.1 o.2.2.2.2.2.2.2.2.2.2.2.2.1 o.2.2.2.2.2.2.2.2.2.2.2.2.2.1 o.2.2.2.2.2.2.2.2.2.2.2.2.2.2.1 o.2.2.2.2.2.2.2.2.2.2.2.2.2.2.2.1 o.2.2.2.2.2.2.2.2.2.2.2.2.2.2.2.2.1 o.2.2.2.2.2.2.2.2.2.2.2.2.2.2.2.2.2.1 o.2.2.2.2.2.2.2.2.2.2.2.2.2.2.2.2.2.2))) A) ([.ref (am 0), .long x1] : List Value).toArray s 0 0 A) 0 0 (W_M cI cJ cZ cO am mo.1 mo.2.1 mo.2.2.1 mo.2.2.2.1 mo.2.2.2.2.1 mo.2.2.2.2.2.1 mo.2.2.2.2.2.2.1 mo.2.2.2.2.2.2.2.1 mo.2.2.2.2.2.2.2.2.1 mo.2.2.2.2.2.2.2.2.2.1 mo.2.2.2.2.2.2.2.2.2.2.1 mo.2.2.2.2.2.2.2.2.2.2.2.1 mo.2.2.2.2.2.2.2.2.2.2.2.2.1 mo.2.2.2.2.2.2.2.2.2.2.2.2.2.1 mo.2.2.2.2.2.2.2.2.2.2.2.2.2.2.1 mo.2.2.2.2.2.2.2.2.2.2.2.2.2.2.2.1 mo.2.2.2.2.2.2.2.2.2.2.2.2.2.2.2.2.1 mo.2.2.2.2.2.2.2.2.2.2.2.2.2.2.2.2.2) 52 [(0, .ref (am 0)), (1, .long x1), (3, .int x3), (4, .long x4)] [.int s0_52]) ?_ ?_
          · intro s0_52 hf
            refine V_istore (lv' := [(6, .int s0_52), (0, .ref (am 0)), (1, .long x1), (3, .int x3), (4, .long x4)]) C0 dX8_put_52 (by decide) rfl rfl ?_
            refine V_lload C0 dX8_put_54 4 rfl rfl ?_
            refine V_bipush (v := 8) C0 dX8_put_56 (by decide) rfl ?_
            refine V_lushr C0 dX8_put_58 rfl ?_
            refine V_topl (fun x4_1 ex4_1 => ?_)
            have hf := bd_inv ex4_1 hf
            refine V_lstore (lv' := [(4, .long x4_1), (6, .int s0_52), (0, .ref (am 0)), (1, .long x1), (3, .int x3)]) C0 dX8_put_59 (by decide) rfl rfl ?_
            refine V_iinc (k := 4) (v := x3 + 1) (lv' := [(3, .int (x3 + 1)), (4, .long x4_1), (6, .int s0_52), (0, .ref (am 0)), (1, .long x1)]) C0 dX8_put_61 rfl rfl (by decide) rfl rfl ?_
            refine V_goto (tgt := 8) C0 dX8_put_64 (by decide) ?_
            exact V.sub [3, 4, 0, 1, 2] rfl (hREC (x3 + 1) x4_1 s0_52 hf)
          · intro J52 hJ52 hf
            refine jn_elim hf (fun (J : Unit → Option (Int32 × MV)) => ∀ (u : Unit), J u = some o → V p l e RM_X8_put s m ([.ref (am 0), .long x1] : List Value).toArray below meth c 8 (dC, dI) A (MQ below (va_Qi (fun r (_ : Unit) => r = o.1) (PostW (dC, dI) (TY cI cJ cZ cO) A (fun _ => (W_M cI cJ cZ cO am o.2.1 o.2.2.1 o.2.2.2.1 o.2.2.2.2.1 o.2.2.2.2.2.1 o.2.2.2.2.2.2.1 o.2.2.2.2.2.2.2.1 o.2.2.2.2.2.2.2.2.1 o.2.2.2.2.2.2.2.2.2.1 o.2.2.2.2.2.2.2.2.2.2.1 o.2.2.2.2.2.2.2.2.2.2.2.1 o.2.2.2.2.2.2.2.2.2.2.2.2.1 o.2.2.2.2.2.2.2.2.2.2.2.2.2.1 o.2.2.2.2.2.2.2.2.2.2.2.2.2.2.1 o.2.2.2.2.2.2.2.2.2.2.2.2.2.2.2.1 o.2.2.2.2.2.2.2.2.2.2.2.2.2.2.2.2.1 o.2.2.2.2.2.2.2.2.2.2.2.2.2.2.2.2.2.1 o.2.2.2.2.2.2.2.2.2.2.2.2.2.2.2.2.2.2))) A) ([.ref (am 0), .long x1] : List Value).toArray s 0 0 A) 0 0 (W_M cI cJ cZ cO am mo.1 mo.2.1 mo.2.2.1 mo.2.2.2.1 mo.2.2.2.2.1 mo.2.2.2.2.2.1 mo.2.2.2.2.2.2.1 mo.2.2.2.2.2.2.2.1 mo.2.2.2.2.2.2.2.2.1 mo.2.2.2.2.2.2.2.2.2.1 mo.2.2.2.2.2.2.2.2.2.2.1 mo.2.2.2.2.2.2.2.2.2.2.2.1 mo.2.2.2.2.2.2.2.2.2.2.2.2.1 mo.2.2.2.2.2.2.2.2.2.2.2.2.2.1 mo.2.2.2.2.2.2.2.2.2.2.2.2.2.2.1 mo.2.2.2.2.2.2.2.2.2.2.2.2.2.2.2.1 mo.2.2.2.2.2.2.2.2.2.2.2.2.2.2.2.2.1 mo.2.2.2.2.2.2.2.2.2.2.2.2.2.2.2.2.2) 51 [(0, .ref (am 0)), (1, .long x1), (3, .int x3), (4, .long x4)] []) ?_ ?_
            · intro u hf
              refine V_iconst (v := 0) C0 dX8_put_51 (by decide) rfl ?_
              exact V.sub [0, 1, 2, 3] rfl (hJ52 0 hf)
            · intro J51 hJ51 hf
              refine V_if_eq (tgt := 51) C0 dX8_put_27 (by decide) rfl (fun c27 => ?_) (fun c27 => ?_)
              · have hf := ite_t c27 hf
                exact V.sub [0, 1, 2, 3] rfl (hJ51 () hf)
              · have hf := ite_f c27 hf
                refine V_lload C0 dX8_put_30 3 rfl rfl ?_
                refine V_ldc2 (v := 255) C0 dX8_put_32 (by decide +kernel) rfl ?_
                refine V_land C0 dX8_put_35 rfl ?_
                refine V_l2i C0 dX8_put_36 rfl ?_
                refine V_bipush (v := 33) C0 dX8_put_37 (by decide) rfl ?_
                refine V_bipush (v := 126) C0 dX8_put_39 (by decide) rfl ?_
                obtain ⟨r_41, hc_41, hf⟩ := bind_inv hf
                refine V_cSI (ws' := (W_M cI cJ cZ cO am mo.1 mo.2.1 mo.2.2.1 mo.2.2.2.1 mo.2.2.2.2.1 mo.2.2.2.2.2.1 mo.2.2.2.2.2.2.1 mo.2.2.2.2.2.2.2.1 mo.2.2.2.2.2.2.2.2.1 mo.2.2.2.2.2.2.2.2.2.1 mo.2.2.2.2.2.2.2.2.2.2.1 mo.2.2.2.2.2.2.2.2.2.2.2.1 mo.2.2.2.2.2.2.2.2.2.2.2.2.1 mo.2.2.2.2.2.2.2.2.2.2.2.2.2.1 mo.2.2.2.2.2.2.2.2.2.2.2.2.2.2.1 mo.2.2.2.2.2.2.2.2.2.2.2.2.2.2.2.1 mo.2.2.2.2.2.2.2.2.2.2.2.2.2.2.2.2.1 mo.2.2.2.2.2.2.2.2.2.2.2.2.2.2.2.2.2)) (As := [.int ((x4 &&& 255).toInt32), .int 33, .int 126]) (st := []) C0 (c_X8_within l dC dI cI cJ cZ cO  N  ((x4 &&& 255).toInt32) 33 126 r_41 hc_41) rfl 3 gX8_put_X8_within (by decide +kernel) ⟨Nat.le_of_ble_eq_true rfl, Nat.le_of_ble_eq_true rfl⟩ rfl  ⟨_, pr1, fun _ => pr1⟩ rfl (Nat.le_of_ble_eq_true rfl) dX8_put_41 rfl ⟨Nat.zero_le _, Nat.zero_le _⟩ ?_
                refine V_if_eq (tgt := 51) C0 dX8_put_44 (by decide) rfl (fun c44 => ?_) (fun c44 => ?_)
                · have hf := ite_t c44 hf
                  exact V.sub [0, 1, 2, 3] rfl (hJ51 () hf)
                · have hf := ite_f c44 hf
                  refine V_iconst (v := 1) C0 dX8_put_47 (by decide) rfl ?_
                  refine V_goto (tgt := 52) C0 dX8_put_48 (by decide) ?_
                  exact V.sub [0, 1, 2, 3] rfl (hJ52 1 hf)
  refine V.sub [3, 4, 2, 1, 0] rfl (hL8 mo _ ?_ N 0 x1 1 hf)
  intro x3_8 x4_8 x6_8 hf
  refine V_iload_n C0 dX8_put_67 2 rfl rfl ?_
  refine V_if_eq (tgt := 83) C0 dX8_put_68 (by decide) rfl (fun c68 => ?_) (fun c68 => ?_)
  · have hf := ite_t c68 hf
    refine V_bipush (v := (-2)) C0 dX8_put_83 (by decide) rfl ?_
    obtain rfl := some_inv hf
    exact V_iret C0 () rfl rfl dX8_put_85
  · have hf := ite_f c68 hf
    refine V_iload C0 dX8_put_71 4 rfl rfl ?_
    refine V_if_eq (tgt := 83) C0 dX8_put_73 (by decide) rfl (fun c73 => ?_) (fun c73 => ?_)
    · have hf := ite_t c73 hf
      refine V_bipush (v := (-2)) C0 dX8_put_83 (by decide) rfl ?_
      obtain rfl := some_inv hf
      exact V_iret C0 () rfl rfl dX8_put_85
    · have hf := ite_f c73 hf
      refine V_lload C0 dX8_put_76 3 rfl rfl ?_
      refine V_lconst (v := 0) C0 dX8_put_78 (by decide) rfl ?_
      refine V_lcmp C0 dX8_put_79 rfl ?_
      refine V_if_eq (tgt := 86) C0 dX8_put_80 (by decide) rfl (fun c80 => ?_) (fun c80 => ?_)
      · have hf := ite_t c80 hf
        refine V_aload_n C0 dX8_put_86 0 rfl rfl ?_
        refine V_get C0 fl_X8_put_135 0 rfl rfl dX8_put_87 rfl ?_
        refine V_iload_n C0 dX8_put_90 2 rfl rfl ?_
        refine V_iadd C0 dX8_put_91 rfl ?_
        refine V_bipush (v := 16) C0 dX8_put_92 (by decide) rfl ?_
        refine V_icmp_le (tgt := 100) C0 dX8_put_94 (by decide) rfl (fun c94 => ?_) (fun c94 => ?_)
        · have hf := ite_t c94 hf
          refine V_iload_n C0 dX8_put_100 2 rfl rfl ?_
          refine V_iconst (v := 1) C0 dX8_put_101 (by decide) rfl ?_
          refine V_isub C0 dX8_put_102 rfl ?_
          refine V_istore (lv' := [(7, .int (x3_8 - 1)), (0, .ref (am 0)), (1, .long x1), (3, .int x3_8), (4, .long x4_8), (6, .int x6_8)]) C0 dX8_put_103 (by decide) rfl rfl ?_
          have hL105 : ∀ (K : MV → Option (Int32 × MV)), (∀ (mo : MV), K mo = some o → V p l e RM_X8_put s m ([.ref (am 0), .long x1] : List Value).toArray below meth c 8 (dC, dI) A (MQ below (va_Qi (fun r (_ : Unit) => r = o.1) (PostW (dC, dI) (TY cI cJ cZ cO) A (fun _ => (W_M cI cJ cZ cO am o.2.1 o.2.2.1 o.2.2.2.1 o.2.2.2.2.1 o.2.2.2.2.2.1 o.2.2.2.2.2.2.1 o.2.2.2.2.2.2.2.1 o.2.2.2.2.2.2.2.2.1 o.2.2.2.2.2.2.2.2.2.1 o.2.2.2.2.2.2.2.2.2.2.1 o.2.2.2.2.2.2.2.2.2.2.2.1 o.2.2.2.2.2.2.2.2.2.2.2.2.1 o.2.2.2.2.2.2.2.2.2.2.2.2.2.1 o.2.2.2.2.2.2.2.2.2.2.2.2.2.2.1 o.2.2.2.2.2.2.2.2.2.2.2.2.2.2.2.1 o.2.2.2.2.2.2.2.2.2.2.2.2.2.2.2.2.1 o.2.2.2.2.2.2.2.2.2.2.2.2.2.2.2.2.2.1 o.2.2.2.2.2.2.2.2.2.2.2.2.2.2.2.2.2.2))) A) ([.ref (am 0), .long x1] : List Value).toArray s 0 0 A) 0 0 (W_M cI cJ cZ cO am mo.1 mo.2.1 mo.2.2.1 mo.2.2.2.1 mo.2.2.2.2.1 mo.2.2.2.2.2.1 mo.2.2.2.2.2.2.1 mo.2.2.2.2.2.2.2.1 mo.2.2.2.2.2.2.2.2.1 mo.2.2.2.2.2.2.2.2.2.1 mo.2.2.2.2.2.2.2.2.2.2.1 mo.2.2.2.2.2.2.2.2.2.2.2.1 mo.2.2.2.2.2.2.2.2.2.2.2.2.1 mo.2.2.2.2.2.2.2.2.2.2.2.2.2.1 mo.2.2.2.2.2.2.2.2.2.2.2.2.2.2.1 mo.2.2.2.2.2.2.2.2.2.2.2.2.2.2.2.1 mo.2.2.2.2.2.2.2.2.2.2.2.2.2.2.2.2.1 mo.2.2.2.2.2.2.2.2.2.2.2.2.2.2.2.2.2) 147 [(0, .ref (am 0))] []) → ∀ (n : Nat) (x7 : Int32) (mo : MV), f_X8_put_L105 N x1  K n x7 mo = some o → V p l e RM_X8_put s m ([.ref (am 0), .long x1] : List Value).toArray below meth c 8 (dC, dI) A (MQ below (va_Qi (fun r (_ : Unit) => r = o.1) (PostW (dC, dI) (TY cI cJ cZ cO) A (fun _ => (W_M cI cJ cZ cO am o.2.1 o.2.2.1 o.2.2.2.1 o.2.2.2.2.1 o.2.2.2.2.2.1 o.2.2.2.2.2.2.1 o.2.2.2.2.2.2.2.1 o.2.2.2.2.2.2.2.2.1 o.2.2.2.2.2.2.2.2.2.1 o.2.2.2.2.2.2.2.2.2.2.1 o.2.2.2.2.2.2.2.2.2.2.2.1 o.2.2.2.2.2.2.2.2.2.2.2.2.1 o.2.2.2.2.2.2.2.2.2.2.2.2.2.1 o.2.2.2.2.2.2.2.2.2.2.2.2.2.2.1 o.2.2.2.2.2.2.2.2.2.2.2.2.2.2.2.1 o.2.2.2.2.2.2.2.2.2.2.2.2.2.2.2.2.1 o.2.2.2.2.2.2.2.2.2.2.2.2.2.2.2.2.2.1 o.2.2.2.2.2.2.2.2.2.2.2.2.2.2.2.2.2.2))) A) ([.ref (am 0), .long x1] : List Value).toArray s 0 0 A) 0 0 (W_M cI cJ cZ cO am mo.1 mo.2.1 mo.2.2.1 mo.2.2.2.1 mo.2.2.2.2.1 mo.2.2.2.2.2.1 mo.2.2.2.2.2.2.1 mo.2.2.2.2.2.2.2.1 mo.2.2.2.2.2.2.2.2.1 mo.2.2.2.2.2.2.2.2.2.1 mo.2.2.2.2.2.2.2.2.2.2.1 mo.2.2.2.2.2.2.2.2.2.2.2.1 mo.2.2.2.2.2.2.2.2.2.2.2.2.1 mo.2.2.2.2.2.2.2.2.2.2.2.2.2.1 mo.2.2.2.2.2.2.2.2.2.2.2.2.2.2.1 mo.2.2.2.2.2.2.2.2.2.2.2.2.2.2.2.1 mo.2.2.2.2.2.2.2.2.2.2.2.2.2.2.2.2.1 mo.2.2.2.2.2.2.2.2.2.2.2.2.2.2.2.2.2) 105 [(0, .ref (am 0)), (1, .long x1), (7, .int x7)] [] := by
            intro  K hK n
            induction n with
            | zero => intro x7 mo hf; cases hf
            | succ n hREC =>
              intro x7 mo hf
              rw [f_X8_put_L105] at hf
              refine V_iload C0 dX8_put_105 2 rfl rfl ?_
              refine V_if_lt (tgt := 147) C0 dX8_put_107 (by decide) rfl (fun c107 => ?_) (fun c107 => ?_)
              · have hf := ite_t c107 hf
                exact V.sub [0] rfl (hK mo hf)
              · have hf := ite_f c107 hf
                refine V_aload_n C0 dX8_put_110 0 rfl rfl ?_
                refine V_get C0 fl_X8_put_25 0 rfl rfl dX8_put_111 rfl ?_
                refine V_aload_n C0 dX8_put_114 0 rfl rfl ?_
                refine V_get C0 fl_X8_put_135 0 rfl rfl dX8_put_115 rfl ?_
                refine V_lload_n C0 dX8_put_118 1 rfl rfl ?_
                refine V_bipush (v := 8) C0 dX8_put_119 (by decide) rfl ?_
                refine V_iload C0 dX8_put_121 2 rfl rfl ?_
                refine V_imul C0 dX8_put_123 rfl ?_
                refine V_lushr C0 dX8_put_124 rfl ?_
                refine V_ldc2 (v := 255) C0 dX8_put_125 (by decide +kernel) rfl ?_
                refine V_land C0 dX8_put_128 rfl ?_
                refine V_l2i C0 dX8_put_129 rfl ?_
                obtain ⟨hi130, hf⟩ := ck_inv hf
                refine V_iast (ws' := (W_M cI cJ cZ cO am mo.1 mo.2.1 mo.2.2.1 mo.2.2.2.1 mo.2.2.2.2.1 mo.2.2.2.2.2.1 (upd mo.2.2.2.2.2.2.1 (mo.2.2.2.2.2.2.2.1.toNatClampNeg) (((ushr x1 (8 * x7)) &&& 255).toInt32)) mo.2.2.2.2.2.2.2.1 mo.2.2.2.2.2.2.2.2.1 mo.2.2.2.2.2.2.2.2.2.1 mo.2.2.2.2.2.2.2.2.2.2.1 mo.2.2.2.2.2.2.2.2.2.2.2.1 mo.2.2.2.2.2.2.2.2.2.2.2.2.1 mo.2.2.2.2.2.2.2.2.2.2.2.2.2.1 mo.2.2.2.2.2.2.2.2.2.2.2.2.2.2.1 mo.2.2.2.2.2.2.2.2.2.2.2.2.2.2.2.1 mo.2.2.2.2.2.2.2.2.2.2.2.2.2.2.2.2.1 mo.2.2.2.2.2.2.2.2.2.2.2.2.2.2.2.2.2)) C0 6 0 rfl rfl hi130 dX8_put_130 rfl rfl ?_
                refine V_aload_n C0 dX8_put_131 0 rfl rfl ?_
                refine V_dup C0 dX8_put_132 rfl rfl ?_
                refine V_get C0 fl_X8_put_135 0 rfl rfl dX8_put_133 rfl ?_
                refine V_iconst (v := 1) C0 dX8_put_136 (by decide) rfl ?_
                refine V_iadd C0 dX8_put_137 rfl ?_
                refine V_put (ws' := (W_M cI cJ cZ cO am mo.1 mo.2.1 mo.2.2.1 mo.2.2.2.1 mo.2.2.2.2.1 mo.2.2.2.2.2.1 (upd mo.2.2.2.2.2.2.1 (mo.2.2.2.2.2.2.2.1.toNatClampNeg) (((ushr x1 (8 * x7)) &&& 255).toInt32)) (mo.2.2.2.2.2.2.2.1 + 1) mo.2.2.2.2.2.2.2.2.1 mo.2.2.2.2.2.2.2.2.2.1 mo.2.2.2.2.2.2.2.2.2.2.1 mo.2.2.2.2.2.2.2.2.2.2.2.1 mo.2.2.2.2.2.2.2.2.2.2.2.2.1 mo.2.2.2.2.2.2.2.2.2.2.2.2.2.1 mo.2.2.2.2.2.2.2.2.2.2.2.2.2.2.1 mo.2.2.2.2.2.2.2.2.2.2.2.2.2.2.2.1 mo.2.2.2.2.2.2.2.2.2.2.2.2.2.2.2.2.1 mo.2.2.2.2.2.2.2.2.2.2.2.2.2.2.2.2.2)) C0 fl_X8_put_135 tyX8_ok nmX8 rfl 0 rfl rfl rfl (Nat.le_of_ble_eq_true rfl) dX8_put_138 rfl rfl ?_
                refine V_iinc (k := 2) (v := x7 + (-1)) (lv' := [(7, .int (x7 + (-1))), (0, .ref (am 0)), (1, .long x1)]) C0 dX8_put_141 rfl rfl (by decide) rfl rfl ?_
                refine V_goto (tgt := 105) C0 dX8_put_144 (by decide) ?_
                exact V.sub [1, 2, 0] rfl (hREC (x7 + (-1)) ((mo.1, mo.2.1, mo.2.2.1, mo.2.2.2.1, mo.2.2.2.2.1, mo.2.2.2.2.2.1, upd mo.2.2.2.2.2.2.1 (mo.2.2.2.2.2.2.2.1.toNatClampNeg) (((ushr x1 (8 * x7)) &&& 255).toInt32), mo.2.2.2.2.2.2.2.1 + 1, mo.2.2.2.2.2.2.2.2.1, mo.2.2.2.2.2.2.2.2.2.1, mo.2.2.2.2.2.2.2.2.2.2.1, mo.2.2.2.2.2.2.2.2.2.2.2.1, mo.2.2.2.2.2.2.2.2.2.2.2.2.1, mo.2.2.2.2.2.2.2.2.2.2.2.2.2.1, mo.2.2.2.2.2.2.2.2.2.2.2.2.2.2.1, mo.2.2.2.2.2.2.2.2.2.2.2.2.2.2.2.1, mo.2.2.2.2.2.2.2.2.2.2.2.2.2.2.2.2.1, mo.2.2.2.2.2.2.2.2.2.2.2.2.2.2.2.2.2)) hf)
          refine V.sub [1, 2, 0] rfl (hL105  _ ?_ N (x3_8 - 1) mo hf)
          intro mo_105 hf
          refine V_aload_n C0 dX8_put_147 0 rfl rfl ?_
          refine V_get C0 fl_X8_put_135 0 rfl rfl dX8_put_148 rfl ?_
          obtain rfl := some_inv hf
          exact V_iret C0 () rfl rfl dX8_put_151
        · have hf := ite_f c94 hf
          refine V_bipush (v := (-4)) C0 dX8_put_97 (by decide) rfl ?_
          obtain rfl := some_inv hf
          exact V_iret C0 () rfl rfl dX8_put_99
      · have hf := ite_f c80 hf
        refine V_bipush (v := (-2)) C0 dX8_put_83 (by decide) rfl ?_
        obtain rfl := some_inv hf
        exact V_iret C0 () rfl rfl dX8_put_85
abbrev RM_X8_wipe : Room := { frames := 0, cells := 0, slots := 0, locals := 0 }
theorem in_X8_wipe_X8 : ∀ w ∈ u_ws RX8 TX8 18, w ∈ wsX8_wipe := by decide +kernel
theorem fl_X8_wipe_135 : FL RX8 wsX8_wipe 8 135 7 RX8 TX8 18 := ⟨in_X8_wipe_X8, rfl, by decide, by decide +kernel, rfl⟩
set_option maxRecDepth 100000 in
set_option maxHeartbeats 4000000 in
theorem c_X8_wipe (l : Launch) (dC : Nat → ClassId) (dI : Nat → Nat → Nat) (cI cJ cZ cO : ClassId) (am : Nat → Nat) (N : Nat) (mo : MV) (o : Int32 × MV) (hf : f_X8_wipe N mo = some o) : MetI l yX8_wipe wsX8_wipe RM_X8_wipe (dC, dI) (TY cI cJ cZ cO) [.ref (am 0)] (W_M cI cJ cZ cO am mo.1 mo.2.1 mo.2.2.1 mo.2.2.2.1 mo.2.2.2.2.1 mo.2.2.2.2.2.1 mo.2.2.2.2.2.2.1 mo.2.2.2.2.2.2.2.1 mo.2.2.2.2.2.2.2.2.1 mo.2.2.2.2.2.2.2.2.2.1 mo.2.2.2.2.2.2.2.2.2.2.1 mo.2.2.2.2.2.2.2.2.2.2.2.1 mo.2.2.2.2.2.2.2.2.2.2.2.2.1 mo.2.2.2.2.2.2.2.2.2.2.2.2.2.1 mo.2.2.2.2.2.2.2.2.2.2.2.2.2.2.1 mo.2.2.2.2.2.2.2.2.2.2.2.2.2.2.2.1 mo.2.2.2.2.2.2.2.2.2.2.2.2.2.2.2.2.1 mo.2.2.2.2.2.2.2.2.2.2.2.2.2.2.2.2.2) (fun r (_ : Unit) => r = o.1) (fun _ => (W_M cI cJ cZ cO am o.2.1 o.2.2.1 o.2.2.2.1 o.2.2.2.2.1 o.2.2.2.2.2.1 o.2.2.2.2.2.2.1 o.2.2.2.2.2.2.2.1 o.2.2.2.2.2.2.2.2.1 o.2.2.2.2.2.2.2.2.2.1 o.2.2.2.2.2.2.2.2.2.2.1 o.2.2.2.2.2.2.2.2.2.2.2.1 o.2.2.2.2.2.2.2.2.2.2.2.2.1 o.2.2.2.2.2.2.2.2.2.2.2.2.2.1 o.2.2.2.2.2.2.2.2.2.2.2.2.2.2.1 o.2.2.2.2.2.2.2.2.2.2.2.2.2.2.2.1 o.2.2.2.2.2.2.2.2.2.2.2.2.2.2.2.2.1 o.2.2.2.2.2.2.2.2.2.2.2.2.2.2.2.2.2.1 o.2.2.2.2.2.2.2.2.2.2.2.2.2.2.2.2.2.2)) := by
  refine MetI.ofV (cc := cX8_wipe) (maxL := 2) (ret := (some .int)) (own := RX8) (lv0 := [(0, .ref (am 0))]) (by decide) rfl rfl (Nat.le_of_ble_eq_true rfl) rfl ?_
  intro p e s m below meth c A C0 _
  unfold f_X8_wipe at hf
  refine V_aload_n C0 dX8_wipe_0 0 rfl rfl ?_
  refine V_get C0 fl_X8_wipe_135 0 rfl rfl dX8_wipe_1 rfl ?_
  refine V_istore_n (lv' := [(1, .int mo.2.2.2.2.2.2.2.1), (0, .ref (am 0))]) C0 dX8_wipe_4 rfl (by decide) rfl rfl ?_
  refine V_aload_n C0 dX8_wipe_5 1 rfl rfl ?_
  refine V_iconst (v := 0) C0 dX8_wipe_6 (by decide) rfl ?_
  refine V_put (ws' := (W_M cI cJ cZ cO am mo.1 mo.2.1 mo.2.2.1 mo.2.2.2.1 mo.2.2.2.2.1 mo.2.2.2.2.2.1 mo.2.2.2.2.2.2.1 0 mo.2.2.2.2.2.2.2.2.1 mo.2.2.2.2.2.2.2.2.2.1 mo.2.2.2.2.2.2.2.2.2.2.1 mo.2.2.2.2.2.2.2.2.2.2.2.1 mo.2.2.2.2.2.2.2.2.2.2.2.2.1 mo.2.2.2.2.2.2.2.2.2.2.2.2.2.1 mo.2.2.2.2.2.2.2.2.2.2.2.2.2.2.1 mo.2.2.2.2.2.2.2.2.2.2.2.2.2.2.2.1 mo.2.2.2.2.2.2.2.2.2.2.2.2.2.2.2.2.1 mo.2.2.2.2.2.2.2.2.2.2.2.2.2.2.2.2.2)) C0 fl_X8_wipe_135 tyX8_ok nmX8 rfl 0 rfl rfl rfl (Nat.le_of_ble_eq_true rfl) dX8_wipe_7 rfl rfl ?_
  refine V_iload_n C0 dX8_wipe_10 0 rfl rfl ?_
  obtain rfl := some_inv hf
  exact V_iret C0 () rfl rfl dX8_wipe_11
abbrev RM_X8_fault : Room := { frames := 1, cells := 0, slots := 0, locals := 22 }
theorem in_X8_fault_X8 : ∀ w ∈ u_ws RX8 TX8 18, w ∈ wsX8_fault := by decide +kernel
theorem fl_X8_fault_25 : FL RX8 wsX8_fault 8 25 6 RX8 TX8 18 := ⟨in_X8_fault_X8, rfl, by decide, by decide +kernel, rfl⟩
theorem fl_X8_fault_135 : FL RX8 wsX8_fault 8 135 7 RX8 TX8 18 := ⟨in_X8_fault_X8, rfl, by decide, by decide +kernel, rfl⟩
set_option maxRecDepth 100000 in
set_option maxHeartbeats 4000000 in
theorem c_X8_fault (l : Launch) (dC : Nat → ClassId) (dI : Nat → Nat → Nat) (cI cJ cZ cO : ClassId) (am : Nat → Nat) (N : Nat) (mo : MV) (o : Int32) (hf : f_X8_fault N mo = some o) : MetI l yX8_fault wsX8_fault RM_X8_fault (dC, dI) (TY cI cJ cZ cO) [.ref (am 0)] (W_M cI cJ cZ cO am mo.1 mo.2.1 mo.2.2.1 mo.2.2.2.1 mo.2.2.2.2.1 mo.2.2.2.2.2.1 mo.2.2.2.2.2.2.1 mo.2.2.2.2.2.2.2.1 mo.2.2.2.2.2.2.2.2.1 mo.2.2.2.2.2.2.2.2.2.1 mo.2.2.2.2.2.2.2.2.2.2.1 mo.2.2.2.2.2.2.2.2.2.2.2.1 mo.2.2.2.2.2.2.2.2.2.2.2.2.1 mo.2.2.2.2.2.2.2.2.2.2.2.2.2.1 mo.2.2.2.2.2.2.2.2.2.2.2.2.2.2.1 mo.2.2.2.2.2.2.2.2.2.2.2.2.2.2.2.1 mo.2.2.2.2.2.2.2.2.2.2.2.2.2.2.2.2.1 mo.2.2.2.2.2.2.2.2.2.2.2.2.2.2.2.2.2) (fun r (_ : Unit) => r = o) (fun _ => (W_M cI cJ cZ cO am mo.1 mo.2.1 mo.2.2.1 mo.2.2.2.1 mo.2.2.2.2.1 mo.2.2.2.2.2.1 mo.2.2.2.2.2.2.1 mo.2.2.2.2.2.2.2.1 mo.2.2.2.2.2.2.2.2.1 mo.2.2.2.2.2.2.2.2.2.1 mo.2.2.2.2.2.2.2.2.2.2.1 mo.2.2.2.2.2.2.2.2.2.2.2.1 mo.2.2.2.2.2.2.2.2.2.2.2.2.1 mo.2.2.2.2.2.2.2.2.2.2.2.2.2.1 mo.2.2.2.2.2.2.2.2.2.2.2.2.2.2.1 mo.2.2.2.2.2.2.2.2.2.2.2.2.2.2.2.1 mo.2.2.2.2.2.2.2.2.2.2.2.2.2.2.2.2.1 mo.2.2.2.2.2.2.2.2.2.2.2.2.2.2.2.2.2)) := by
  refine MetI.ofV (cc := cX8_fault) (maxL := 2) (ret := (some .int)) (own := RX8) (lv0 := [(0, .ref (am 0))]) (by decide) rfl rfl (Nat.le_of_ble_eq_true rfl) rfl ?_
  intro p e s m below meth c A C0 _
  unfold f_X8_fault at hf
  refine V_iconst (v := 0) C0 dX8_fault_0 (by decide) rfl ?_
  refine V_istore_n (lv' := [(1, .int 0), (0, .ref (am 0))]) C0 dX8_fault_1 rfl (by decide) rfl rfl ?_
  have hL2 : ∀ (K : Unit → Option (Int32)), (∀ (u : Unit), K u = some o → V p l e RM_X8_fault s m ([.ref (am 0)] : List Value).toArray below meth c 2 (dC, dI) A (MQ below (va_Qi (fun r (_ : Unit) => r = o) (PostW (dC, dI) (TY cI cJ cZ cO) A (fun _ => (W_M cI cJ cZ cO am mo.1 mo.2.1 mo.2.2.1 mo.2.2.2.1 mo.2.2.2.2.1 mo.2.2.2.2.2.1 mo.2.2.2.2.2.2.1 mo.2.2.2.2.2.2.2.1 mo.2.2.2.2.2.2.2.2.1 mo.2.2.2.2.2.2.2.2.2.1 mo.2.2.2.2.2.2.2.2.2.2.1 mo.2.2.2.2.2.2.2.2.2.2.2.1 mo.2.2.2.2.2.2.2.2.2.2.2.2.1 mo.2.2.2.2.2.2.2.2.2.2.2.2.2.1 mo.2.2.2.2.2.2.2.2.2.2.2.2.2.2.1 mo.2.2.2.2.2.2.2.2.2.2.2.2.2.2.2.1 mo.2.2.2.2.2.2.2.2.2.2.2.2.2.2.2.2.1 mo.2.2.2.2.2.2.2.2.2.2.2.2.2.2.2.2.2))) A) ([.ref (am 0)] : List Value).toArray s 0 0 A) 0 0 (W_M cI cJ cZ cO am mo.1 mo.2.1 mo.2.2.1 mo.2.2.2.1 mo.2.2.2.2.1 mo.2.2.2.2.2.1 mo.2.2.2.2.2.2.1 mo.2.2.2.2.2.2.2.1 mo.2.2.2.2.2.2.2.2.1 mo.2.2.2.2.2.2.2.2.2.1 mo.2.2.2.2.2.2.2.2.2.2.1 mo.2.2.2.2.2.2.2.2.2.2.2.1 mo.2.2.2.2.2.2.2.2.2.2.2.2.1 mo.2.2.2.2.2.2.2.2.2.2.2.2.2.1 mo.2.2.2.2.2.2.2.2.2.2.2.2.2.2.1 mo.2.2.2.2.2.2.2.2.2.2.2.2.2.2.2.1 mo.2.2.2.2.2.2.2.2.2.2.2.2.2.2.2.2.1 mo.2.2.2.2.2.2.2.2.2.2.2.2.2.2.2.2.2) 34 [] []) → ∀ (n : Nat) (x1 : Int32), f_X8_fault_L2 N mo  K n x1 = some o → V p l e RM_X8_fault s m ([.ref (am 0)] : List Value).toArray below meth c 2 (dC, dI) A (MQ below (va_Qi (fun r (_ : Unit) => r = o) (PostW (dC, dI) (TY cI cJ cZ cO) A (fun _ => (W_M cI cJ cZ cO am mo.1 mo.2.1 mo.2.2.1 mo.2.2.2.1 mo.2.2.2.2.1 mo.2.2.2.2.2.1 mo.2.2.2.2.2.2.1 mo.2.2.2.2.2.2.2.1 mo.2.2.2.2.2.2.2.2.1 mo.2.2.2.2.2.2.2.2.2.1 mo.2.2.2.2.2.2.2.2.2.2.1 mo.2.2.2.2.2.2.2.2.2.2.2.1 mo.2.2.2.2.2.2.2.2.2.2.2.2.1 mo.2.2.2.2.2.2.2.2.2.2.2.2.2.1 mo.2.2.2.2.2.2.2.2.2.2.2.2.2.2.1 mo.2.2.2.2.2.2.2.2.2.2.2.2.2.2.2.1 mo.2.2.2.2.2.2.2.2.2.2.2.2.2.2.2.2.1 mo.2.2.2.2.2.2.2.2.2.2.2.2.2.2.2.2.2))) A) ([.ref (am 0)] : List Value).toArray s 0 0 A) 0 0 (W_M cI cJ cZ cO am mo.1 mo.2.1 mo.2.2.1 mo.2.2.2.1 mo.2.2.2.2.1 mo.2.2.2.2.2.1 mo.2.2.2.2.2.2.1 mo.2.2.2.2.2.2.2.1 mo.2.2.2.2.2.2.2.2.1 mo.2.2.2.2.2.2.2.2.2.1 mo.2.2.2.2.2.2.2.2.2.2.1 mo.2.2.2.2.2.2.2.2.2.2.2.1 mo.2.2.2.2.2.2.2.2.2.2.2.2.1 mo.2.2.2.2.2.2.2.2.2.2.2.2.2.1 mo.2.2.2.2.2.2.2.2.2.2.2.2.2.2.1 mo.2.2.2.2.2.2.2.2.2.2.2.2.2.2.2.1 mo.2.2.2.2.2.2.2.2.2.2.2.2.2.2.2.2.1 mo.2.2.2.2.2.2.2.2.2.2.2.2.2.2.2.2.2) 2 [(0, .ref (am 0)), (1, .int x1)] [] := by
    intro  K hK n
    induction n with
    | zero => intro x1 hf; cases hf
    | succ n hREC =>
      intro x1 hf
      rw [f_X8_fault_L2] at hf
      refine V_iload_n C0 dX8_fault_2 1 rfl rfl ?_
      refine V_aload_n C0 dX8_fault_3 0 rfl rfl ?_
      refine V_get C0 fl_X8_fault_135 0 rfl rfl dX8_fault_4 rfl ?_
      refine V_icmp_ge (tgt := 34) C0 dX8_fault_7 (by decide) rfl (fun c7 => ?_) (fun c7 => ?_)
      · have hf := ite_t c7 hf
        exact V.sub [] rfl (hK () hf)
      · have hf := ite_f c7 hf
        refine V_aload_n C0 dX8_fault_10 0 rfl rfl ?_
        refine V_get C0 fl_X8_fault_25 0 rfl rfl dX8_fault_11 rfl ?_
        refine V_iload_n C0 dX8_fault_14 1 rfl rfl ?_
        obtain ⟨hi15, hf⟩ := ck_inv hf
        refine V_iald C0 6 0 rfl rfl hi15 dX8_fault_15 rfl ?_
        refine V_bipush (v := 97) C0 dX8_fault_16 (by decide) rfl ?_
        refine V_bipush (v := 102) C0 dX8_fault_18 (by decide) rfl ?_
        obtain ⟨r_20, hc_20, hf⟩ := bind_inv hf
        refine V_cSI (ws' := (W_M cI cJ cZ cO am mo.1 mo.2.1 mo.2.2.1 mo.2.2.2.1 mo.2.2.2.2.1 mo.2.2.2.2.2.1 mo.2.2.2.2.2.2.1 mo.2.2.2.2.2.2.2.1 mo.2.2.2.2.2.2.2.2.1 mo.2.2.2.2.2.2.2.2.2.1 mo.2.2.2.2.2.2.2.2.2.2.1 mo.2.2.2.2.2.2.2.2.2.2.2.1 mo.2.2.2.2.2.2.2.2.2.2.2.2.1 mo.2.2.2.2.2.2.2.2.2.2.2.2.2.1 mo.2.2.2.2.2.2.2.2.2.2.2.2.2.2.1 mo.2.2.2.2.2.2.2.2.2.2.2.2.2.2.2.1 mo.2.2.2.2.2.2.2.2.2.2.2.2.2.2.2.2.1 mo.2.2.2.2.2.2.2.2.2.2.2.2.2.2.2.2.2)) (As := [.int (mo.2.2.2.2.2.2.1 (x1.toNatClampNeg)), .int 97, .int 102]) (st := []) C0 (c_X8_within l dC dI cI cJ cZ cO  N  (mo.2.2.2.2.2.2.1 (x1.toNatClampNeg)) 97 102 r_20 hc_20) rfl 3 gX8_fault_X8_within (by decide +kernel) ⟨Nat.le_of_ble_eq_true rfl, Nat.le_of_ble_eq_true rfl⟩ rfl  ⟨_, pr1, fun _ => pr1⟩ rfl (Nat.le_of_ble_eq_true rfl) dX8_fault_20 rfl ⟨Nat.zero_le _, Nat.zero_le _⟩ ?_
        refine V_if_ne (tgt := 28) C0 dX8_fault_23 (by decide) rfl (fun c23 => ?_) (fun c23 => ?_)
        · have hf := ite_f c23 hf
          refine V_iinc (k := 1) (v := x1 + 1) (lv' := [(1, .int (x1 + 1)), (0, .ref (am 0))]) C0 dX8_fault_28 rfl rfl (by decide) rfl rfl ?_
          refine V_goto (tgt := 2) C0 dX8_fault_31 (by decide) ?_
          exact V.sub [1, 0] rfl (hREC (x1 + 1) hf)
        · have hf := ite_t c23 hf
          refine V_iload_n C0 dX8_fault_26 1 rfl rfl ?_
          obtain rfl := some_inv hf
          exact V_iret C0 () rfl rfl dX8_fault_27
  refine V.sub [1, 0] rfl (hL2  _ ?_ N 0 hf)
  intro u hf
  refine V_bipush (v := (-6)) C0 dX8_fault_34 (by decide) rfl ?_
  obtain rfl := some_inv hf
  exact V_iret C0 () rfl rfl dX8_fault_36
abbrev RM_X8_undo : Room := { frames := 1, cells := 0, slots := 0, locals := 24 }
theorem in_X8_undo_X8 : ∀ w ∈ u_ws RX8 TX8 18, w ∈ wsX8_undo := by decide +kernel
theorem fl_X8_undo_7 : FL RX8 wsX8_undo 8 7 0 RX8 TX8 18 := ⟨in_X8_undo_X8, rfl, by decide, by decide +kernel, rfl⟩
theorem fl_X8_undo_16 : FL RX8 wsX8_undo 8 16 2 RX8 TX8 18 := ⟨in_X8_undo_X8, rfl, by decide, by decide +kernel, rfl⟩
theorem fl_X8_undo_56 : FL RX8 wsX8_undo 8 56 3 RX8 TX8 18 := ⟨in_X8_undo_X8, rfl, by decide, by decide +kernel, rfl⟩
set_option maxRecDepth 100000 in
set_option maxHeartbeats 4000000 in
theorem c_X8_undo (l : Launch) (dC : Nat → ClassId) (dI : Nat → Nat → Nat) (cI cJ cZ cO : ClassId) (am : Nat → Nat) (N : Nat) (mo : MV) (o : Int32 × MV) (hf : f_X8_undo N mo = some o) : MetI l yX8_undo wsX8_undo RM_X8_undo (dC, dI) (TY cI cJ cZ cO) [.ref (am 0)] (W_M cI cJ cZ cO am mo.1 mo.2.1 mo.2.2.1 mo.2.2.2.1 mo.2.2.2.2.1 mo.2.2.2.2.2.1 mo.2.2.2.2.2.2.1 mo.2.2.2.2.2.2.2.1 mo.2.2.2.2.2.2.2.2.1 mo.2.2.2.2.2.2.2.2.2.1 mo.2.2.2.2.2.2.2.2.2.2.1 mo.2.2.2.2.2.2.2.2.2.2.2.1 mo.2.2.2.2.2.2.2.2.2.2.2.2.1 mo.2.2.2.2.2.2.2.2.2.2.2.2.2.1 mo.2.2.2.2.2.2.2.2.2.2.2.2.2.2.1 mo.2.2.2.2.2.2.2.2.2.2.2.2.2.2.2.1 mo.2.2.2.2.2.2.2.2.2.2.2.2.2.2.2.2.1 mo.2.2.2.2.2.2.2.2.2.2.2.2.2.2.2.2.2) (fun r (_ : Unit) => r = o.1) (fun _ => (W_M cI cJ cZ cO am o.2.1 o.2.2.1 o.2.2.2.1 o.2.2.2.2.1 o.2.2.2.2.2.1 o.2.2.2.2.2.2.1 o.2.2.2.2.2.2.2.1 o.2.2.2.2.2.2.2.2.1 o.2.2.2.2.2.2.2.2.2.1 o.2.2.2.2.2.2.2.2.2.2.1 o.2.2.2.2.2.2.2.2.2.2.2.1 o.2.2.2.2.2.2.2.2.2.2.2.2.1 o.2.2.2.2.2.2.2.2.2.2.2.2.2.1 o.2.2.2.2.2.2.2.2.2.2.2.2.2.2.1 o.2.2.2.2.2.2.2.2.2.2.2.2.2.2.2.1 o.2.2.2.2.2.2.2.2.2.2.2.2.2.2.2.2.1 o.2.2.2.2.2.2.2.2.2.2.2.2.2.2.2.2.2.1 o.2.2.2.2.2.2.2.2.2.2.2.2.2.2.2.2.2.2)) := by
  refine MetI.ofV (cc := cX8_undo) (maxL := 1) (ret := (some .int)) (own := RX8) (lv0 := [(0, .ref (am 0))]) (by decide) rfl rfl (Nat.le_of_ble_eq_true rfl) rfl ?_
  intro p e s m below meth c A C0 _
  unfold f_X8_undo at hf
  refine V_aload_n C0 dX8_undo_0 0 rfl rfl ?_
  refine V_get C0 fl_X8_undo_56 0 rfl rfl dX8_undo_1 rfl ?_
  refine V_if_ne (tgt := 10) C0 dX8_undo_4 (by decide) rfl (fun c4 => ?_) (fun c4 => ?_)
  · have hf := ite_f c4 hf
    refine V_aload_n C0 dX8_undo_10 0 rfl rfl ?_
    refine V_dup C0 dX8_undo_11 rfl rfl ?_
    refine V_get C0 fl_X8_undo_56 0 rfl rfl dX8_undo_12 rfl ?_
    refine V_iconst (v := 1) C0 dX8_undo_15 (by decide) rfl ?_
    refine V_isub C0 dX8_undo_16 rfl ?_
    refine V_put (ws' := (W_M cI cJ cZ cO am mo.1 mo.2.1 mo.2.2.1 (mo.2.2.2.1 - 1) mo.2.2.2.2.1 mo.2.2.2.2.2.1 mo.2.2.2.2.2.2.1 mo.2.2.2.2.2.2.2.1 mo.2.2.2.2.2.2.2.2.1 mo.2.2.2.2.2.2.2.2.2.1 mo.2.2.2.2.2.2.2.2.2.2.1 mo.2.2.2.2.2.2.2.2.2.2.2.1 mo.2.2.2.2.2.2.2.2.2.2.2.2.1 mo.2.2.2.2.2.2.2.2.2.2.2.2.2.1 mo.2.2.2.2.2.2.2.2.2.2.2.2.2.2.1 mo.2.2.2.2.2.2.2.2.2.2.2.2.2.2.2.1 mo.2.2.2.2.2.2.2.2.2.2.2.2.2.2.2.2.1 mo.2.2.2.2.2.2.2.2.2.2.2.2.2.2.2.2.2)) C0 fl_X8_undo_56 tyX8_ok nmX8 rfl 0 rfl rfl rfl (Nat.le_of_ble_eq_true rfl) dX8_undo_17 rfl rfl ?_
    refine V_aload_n C0 dX8_undo_20 0 rfl rfl ?_
    refine V_get C0 fl_X8_undo_16 0 rfl rfl dX8_undo_21 rfl ?_
    refine V_aload_n C0 dX8_undo_24 0 rfl rfl ?_
    refine V_get C0 fl_X8_undo_56 0 rfl rfl dX8_undo_25 rfl ?_
    refine V_sipush (v := 210) C0 dX8_undo_28 (by decide) rfl ?_
    refine V_imul C0 dX8_undo_31 rfl ?_
    refine V_aload_n C0 dX8_undo_32 0 rfl rfl ?_
    refine V_get C0 fl_X8_undo_7 0 rfl rfl dX8_undo_33 rfl ?_
    refine V_iconst (v := 0) C0 dX8_undo_36 (by decide) rfl ?_
    obtain ⟨r_37, hc_37, hf⟩ := bind_inv hf
    refine V_cSV (ws' := (W_M cI cJ cZ cO am r_37 mo.2.1 mo.2.2.1 (mo.2.2.2.1 - 1) mo.2.2.2.2.1 mo.2.2.2.2.2.1 mo.2.2.2.2.2.2.1 mo.2.2.2.2.2.2.2.1 mo.2.2.2.2.2.2.2.2.1 mo.2.2.2.2.2.2.2.2.2.1 mo.2.2.2.2.2.2.2.2.2.2.1 mo.2.2.2.2.2.2.2.2.2.2.2.1 mo.2.2.2.2.2.2.2.2.2.2.2.2.1 mo.2.2.2.2.2.2.2.2.2.2.2.2.2.1 mo.2.2.2.2.2.2.2.2.2.2.2.2.2.2.1 mo.2.2.2.2.2.2.2.2.2.2.2.2.2.2.2.1 mo.2.2.2.2.2.2.2.2.2.2.2.2.2.2.2.2.1 mo.2.2.2.2.2.2.2.2.2.2.2.2.2.2.2.2.2)) (As := [.ref (am 3), .int ((mo.2.2.2.1 - 1) * 210), .ref (am 1), .int 0]) (st := []) C0 (c_X8_copy l dC dI cI cJ cZ cO (fun _ => am 3) (fun _ => am 1) N 1260 mo.2.2.1 210 mo.1 ((mo.2.2.2.1 - 1) * 210) 0 r_37 hc_37) rfl 4 gX8_undo_X8_copy (by decide +kernel) ⟨Nat.le_of_ble_eq_true rfl, Nat.le_of_ble_eq_true rfl⟩ rfl  ⟨_, (psw (pcr (pct (pcr (pcte (pcr (pcr (pcr (pcr (pcr (pcr (pcr (pcr (pcr (pcr (pcr (pcr pn))))))))))))))))), fun _ => (psw (pcr (pct (pcr (pcte (pcr (pcr (pcr (pcr (pcr (pcr (pcr (pcr (pcr (pcr (pcr (pcr pn)))))))))))))))))⟩ rfl (Nat.le_of_ble_eq_true rfl) dX8_undo_37 rfl ⟨Nat.zero_le _, Nat.zero_le _⟩ ?_
    refine V_aload_n C0 dX8_undo_40 0 rfl rfl ?_
    refine V_get C0 fl_X8_undo_56 0 rfl rfl dX8_undo_41 rfl ?_
    obtain rfl := some_inv hf
    exact V_iret C0 () rfl rfl dX8_undo_44
  · have hf := ite_t c4 hf
    refine V_bipush (v := (-5)) C0 dX8_undo_7 (by decide) rfl ?_
    obtain rfl := some_inv hf
    exact V_iret C0 () rfl rfl dX8_undo_9
abbrev RM_X8_save : Room := { frames := 1, cells := 0, slots := 0, locals := 24 }
theorem in_X8_save_X8 : ∀ w ∈ u_ws RX8 TX8 18, w ∈ wsX8_save := by decide +kernel
theorem fl_X8_save_7 : FL RX8 wsX8_save 8 7 0 RX8 TX8 18 := ⟨in_X8_save_X8, rfl, by decide, by decide +kernel, rfl⟩
theorem fl_X8_save_19 : FL RX8 wsX8_save 8 19 4 RX8 TX8 18 := ⟨in_X8_save_X8, rfl, by decide, by decide +kernel, rfl⟩
theorem fl_X8_save_22 : FL RX8 wsX8_save 8 22 5 RX8 TX8 18 := ⟨in_X8_save_X8, rfl, by decide, by decide +kernel, rfl⟩
set_option maxRecDepth 100000 in
set_option maxHeartbeats 4000000 in
theorem c_X8_save (l : Launch) (dC : Nat → ClassId) (dI : Nat → Nat → Nat) (cI cJ cZ cO : ClassId) (am : Nat → Nat) (N : Nat) (mo : MV) (x1 : Int32) (o : Int32 × MV) (hf : f_X8_save N mo x1 = some o) : MetI l yX8_save wsX8_save RM_X8_save (dC, dI) (TY cI cJ cZ cO) [.ref (am 0), .int x1] (W_M cI cJ cZ cO am mo.1 mo.2.1 mo.2.2.1 mo.2.2.2.1 mo.2.2.2.2.1 mo.2.2.2.2.2.1 mo.2.2.2.2.2.2.1 mo.2.2.2.2.2.2.2.1 mo.2.2.2.2.2.2.2.2.1 mo.2.2.2.2.2.2.2.2.2.1 mo.2.2.2.2.2.2.2.2.2.2.1 mo.2.2.2.2.2.2.2.2.2.2.2.1 mo.2.2.2.2.2.2.2.2.2.2.2.2.1 mo.2.2.2.2.2.2.2.2.2.2.2.2.2.1 mo.2.2.2.2.2.2.2.2.2.2.2.2.2.2.1 mo.2.2.2.2.2.2.2.2.2.2.2.2.2.2.2.1 mo.2.2.2.2.2.2.2.2.2.2.2.2.2.2.2.2.1 mo.2.2.2.2.2.2.2.2.2.2.2.2.2.2.2.2.2) (fun r (_ : Unit) => r = o.1) (fun _ => (W_M cI cJ cZ cO am o.2.1 o.2.2.1 o.2.2.2.1 o.2.2.2.2.1 o.2.2.2.2.2.1 o.2.2.2.2.2.2.1 o.2.2.2.2.2.2.2.1 o.2.2.2.2.2.2.2.2.1 o.2.2.2.2.2.2.2.2.2.1 o.2.2.2.2.2.2.2.2.2.2.1 o.2.2.2.2.2.2.2.2.2.2.2.1 o.2.2.2.2.2.2.2.2.2.2.2.2.1 o.2.2.2.2.2.2.2.2.2.2.2.2.2.1 o.2.2.2.2.2.2.2.2.2.2.2.2.2.2.1 o.2.2.2.2.2.2.2.2.2.2.2.2.2.2.2.1 o.2.2.2.2.2.2.2.2.2.2.2.2.2.2.2.2.1 o.2.2.2.2.2.2.2.2.2.2.2.2.2.2.2.2.2.1 o.2.2.2.2.2.2.2.2.2.2.2.2.2.2.2.2.2.2)) := by
  refine MetI.ofV (cc := cX8_save) (maxL := 2) (ret := (some .int)) (own := RX8) (lv0 := [(0, .ref (am 0)), (1, .int x1)]) (by decide) rfl rfl (Nat.le_of_ble_eq_true rfl) rfl ?_
  intro p e s m below meth c A C0 _
  unfold f_X8_save at hf
  refine V_iload_n C0 dX8_save_0 1 rfl rfl ?_
  refine V_iconst (v := 0) C0 dX8_save_1 (by decide) rfl ?_
  refine V_iconst (v := 1) C0 dX8_save_2 (by decide) rfl ?_
  obtain ⟨r_3, hc_3, hf⟩ := bind_inv hf
  refine V_cSI (ws' := (W_M cI cJ cZ cO am mo.1 mo.2.1 mo.2.2.1 mo.2.2.2.1 mo.2.2.2.2.1 mo.2.2.2.2.2.1 mo.2.2.2.2.2.2.1 mo.2.2.2.2.2.2.2.1 mo.2.2.2.2.2.2.2.2.1 mo.2.2.2.2.2.2.2.2.2.1 mo.2.2.2.2.2.2.2.2.2.2.1 mo.2.2.2.2.2.2.2.2.2.2.2.1 mo.2.2.2.2.2.2.2.2.2.2.2.2.1 mo.2.2.2.2.2.2.2.2.2.2.2.2.2.1 mo.2.2.2.2.2.2.2.2.2.2.2.2.2.2.1 mo.2.2.2.2.2.2.2.2.2.2.2.2.2.2.2.1 mo.2.2.2.2.2.2.2.2.2.2.2.2.2.2.2.2.1 mo.2.2.2.2.2.2.2.2.2.2.2.2.2.2.2.2.2)) (As := [.int x1, .int 0, .int 1]) (st := []) C0 (c_X8_within l dC dI cI cJ cZ cO  N  x1 0 1 r_3 hc_3) rfl 3 gX8_save_X8_within (by decide +kernel) ⟨Nat.le_of_ble_eq_true rfl, Nat.le_of_ble_eq_true rfl⟩ rfl  ⟨_, pr1, fun _ => pr1⟩ rfl (Nat.le_of_ble_eq_true rfl) dX8_save_3 rfl ⟨Nat.zero_le _, Nat.zero_le _⟩ ?_
  refine V_if_ne (tgt := 12) C0 dX8_save_6 (by decide) rfl (fun c6 => ?_) (fun c6 => ?_)
  · have hf := ite_f c6 hf
    refine V_aload_n C0 dX8_save_12 0 rfl rfl ?_
    refine V_get C0 fl_X8_save_7 0 rfl rfl dX8_save_13 rfl ?_
    refine V_iconst (v := 0) C0 dX8_save_16 (by decide) rfl ?_
    refine V_aload_n C0 dX8_save_17 0 rfl rfl ?_
    refine V_get C0 fl_X8_save_19 0 rfl rfl dX8_save_18 rfl ?_
    refine V_sipush (v := 210) C0 dX8_save_21 (by decide) rfl ?_
    refine V_iload_n C0 dX8_save_24 1 rfl rfl ?_
    refine V_imul C0 dX8_save_25 rfl ?_
    obtain ⟨r_26, hc_26, hf⟩ := bind_inv hf
    refine V_cSV (ws' := (W_M cI cJ cZ cO am mo.1 mo.2.1 mo.2.2.1 mo.2.2.2.1 r_26 mo.2.2.2.2.2.1 mo.2.2.2.2.2.2.1 mo.2.2.2.2.2.2.2.1 mo.2.2.2.2.2.2.2.2.1 mo.2.2.2.2.2.2.2.2.2.1 mo.2.2.2.2.2.2.2.2.2.2.1 mo.2.2.2.2.2.2.2.2.2.2.2.1 mo.2.2.2.2.2.2.2.2.2.2.2.2.1 mo.2.2.2.2.2.2.2.2.2.2.2.2.2.1 mo.2.2.2.2.2.2.2.2.2.2.2.2.2.2.1 mo.2.2.2.2.2.2.2.2.2.2.2.2.2.2.2.1 mo.2.2.2.2.2.2.2.2.2.2.2.2.2.2.2.2.1 mo.2.2.2.2.2.2.2.2.2.2.2.2.2.2.2.2.2)) (As := [.ref (am 1), .int 0, .ref (am 4), .int (210 * x1)]) (st := []) C0 (c_X8_copy l dC dI cI cJ cZ cO (fun _ => am 1) (fun _ => am 4) N 210 mo.1 420 mo.2.2.2.2.1 0 (210 * x1) r_26 hc_26) rfl 4 gX8_save_X8_copy (by decide +kernel) ⟨Nat.le_of_ble_eq_true rfl, Nat.le_of_ble_eq_true rfl⟩ rfl  ⟨_, (pcr (pct (pcr (pcr (pcte (pcr (pcr (pcr (pcr (pcr (pcr (pcr (pcr (pcr (pcr (pcr pn)))))))))))))))), fun _ => (pcr (pct (pcr (pcr (pcte (pcr (pcr (pcr (pcr (pcr (pcr (pcr (pcr (pcr (pcr (pcr pn))))))))))))))))⟩ rfl (Nat.le_of_ble_eq_true rfl) dX8_save_26 rfl ⟨Nat.zero_le _, Nat.zero_le _⟩ ?_
    refine V_aload_n C0 dX8_save_29 0 rfl rfl ?_
    refine V_get C0 fl_X8_save_22 0 rfl rfl dX8_save_30 rfl ?_
    refine V_iload_n C0 dX8_save_33 1 rfl rfl ?_
    refine V_iconst (v := 1) C0 dX8_save_34 (by decide) rfl ?_
    obtain ⟨hi35, hf⟩ := ck_inv hf
    refine V_iast (ws' := (W_M cI cJ cZ cO am mo.1 mo.2.1 mo.2.2.1 mo.2.2.2.1 r_26 (upd mo.2.2.2.2.2.1 (x1.toNatClampNeg) 1) mo.2.2.2.2.2.2.1 mo.2.2.2.2.2.2.2.1 mo.2.2.2.2.2.2.2.2.1 mo.2.2.2.2.2.2.2.2.2.1 mo.2.2.2.2.2.2.2.2.2.2.1 mo.2.2.2.2.2.2.2.2.2.2.2.1 mo.2.2.2.2.2.2.2.2.2.2.2.2.1 mo.2.2.2.2.2.2.2.2.2.2.2.2.2.1 mo.2.2.2.2.2.2.2.2.2.2.2.2.2.2.1 mo.2.2.2.2.2.2.2.2.2.2.2.2.2.2.2.1 mo.2.2.2.2.2.2.2.2.2.2.2.2.2.2.2.2.1 mo.2.2.2.2.2.2.2.2.2.2.2.2.2.2.2.2.2)) C0 5 0 rfl rfl hi35 dX8_save_35 rfl rfl ?_
    refine V_aload_n C0 dX8_save_36 0 rfl rfl ?_
    refine V_get C0 fl_X8_save_7 0 rfl rfl dX8_save_37 rfl ?_
    refine V_iconst (v := 0) C0 dX8_save_40 (by decide) rfl ?_
    obtain ⟨hi41, hf⟩ := ck_inv hf
    refine V_iald C0 1 0 rfl rfl hi41 dX8_save_41 rfl ?_
    obtain rfl := some_inv hf
    exact V_iret C0 () rfl rfl dX8_save_42
  · have hf := ite_t c6 hf
    refine V_bipush (v := (-2)) C0 dX8_save_9 (by decide) rfl ?_
    obtain rfl := some_inv hf
    exact V_iret C0 () rfl rfl dX8_save_11
abbrev RM_X8_restore : Room := { frames := 2, cells := 0, slots := 0, locals := 45 }
theorem in_X8_restore_X8 : ∀ w ∈ u_ws RX8 TX8 18, w ∈ wsX8_restore := by decide +kernel
theorem fl_X8_restore_7 : FL RX8 wsX8_restore 8 7 0 RX8 TX8 18 := ⟨in_X8_restore_X8, rfl, by decide, by decide +kernel, rfl⟩
theorem fl_X8_restore_19 : FL RX8 wsX8_restore 8 19 4 RX8 TX8 18 := ⟨in_X8_restore_X8, rfl, by decide, by decide +kernel, rfl⟩
theorem fl_X8_restore_22 : FL RX8 wsX8_restore 8 22 5 RX8 TX8 18 := ⟨in_X8_restore_X8, rfl, by decide, by decide +kernel, rfl⟩
set_option maxRecDepth 100000 in
set_option maxHeartbeats 4000000 in
theorem c_X8_restore (l : Launch) (dC : Nat → ClassId) (dI : Nat → Nat → Nat) (cI cJ cZ cO : ClassId) (am : Nat → Nat) (N : Nat) (mo : MV) (x1 : Int32) (o : Int32 × MV) (hf : f_X8_restore N mo x1 = some o) : MetI l yX8_restore wsX8_restore RM_X8_restore (dC, dI) (TY cI cJ cZ cO) [.ref (am 0), .int x1] (W_M cI cJ cZ cO am mo.1 mo.2.1 mo.2.2.1 mo.2.2.2.1 mo.2.2.2.2.1 mo.2.2.2.2.2.1 mo.2.2.2.2.2.2.1 mo.2.2.2.2.2.2.2.1 mo.2.2.2.2.2.2.2.2.1 mo.2.2.2.2.2.2.2.2.2.1 mo.2.2.2.2.2.2.2.2.2.2.1 mo.2.2.2.2.2.2.2.2.2.2.2.1 mo.2.2.2.2.2.2.2.2.2.2.2.2.1 mo.2.2.2.2.2.2.2.2.2.2.2.2.2.1 mo.2.2.2.2.2.2.2.2.2.2.2.2.2.2.1 mo.2.2.2.2.2.2.2.2.2.2.2.2.2.2.2.1 mo.2.2.2.2.2.2.2.2.2.2.2.2.2.2.2.2.1 mo.2.2.2.2.2.2.2.2.2.2.2.2.2.2.2.2.2) (fun r (_ : Unit) => r = o.1) (fun _ => (W_M cI cJ cZ cO am o.2.1 o.2.2.1 o.2.2.2.1 o.2.2.2.2.1 o.2.2.2.2.2.1 o.2.2.2.2.2.2.1 o.2.2.2.2.2.2.2.1 o.2.2.2.2.2.2.2.2.1 o.2.2.2.2.2.2.2.2.2.1 o.2.2.2.2.2.2.2.2.2.2.1 o.2.2.2.2.2.2.2.2.2.2.2.1 o.2.2.2.2.2.2.2.2.2.2.2.2.1 o.2.2.2.2.2.2.2.2.2.2.2.2.2.1 o.2.2.2.2.2.2.2.2.2.2.2.2.2.2.1 o.2.2.2.2.2.2.2.2.2.2.2.2.2.2.2.1 o.2.2.2.2.2.2.2.2.2.2.2.2.2.2.2.2.1 o.2.2.2.2.2.2.2.2.2.2.2.2.2.2.2.2.2.1 o.2.2.2.2.2.2.2.2.2.2.2.2.2.2.2.2.2.2)) := by
  refine MetI.ofV (cc := cX8_restore) (maxL := 2) (ret := (some .int)) (own := RX8) (lv0 := [(0, .ref (am 0)), (1, .int x1)]) (by decide) rfl rfl (Nat.le_of_ble_eq_true rfl) rfl ?_
  intro p e s m below meth c A C0 _
  unfold f_X8_restore at hf
  refine V_iload_n C0 dX8_restore_0 1 rfl rfl ?_
  refine V_iconst (v := 0) C0 dX8_restore_1 (by decide) rfl ?_
  refine V_iconst (v := 1) C0 dX8_restore_2 (by decide) rfl ?_
  obtain ⟨r_3, hc_3, hf⟩ := bind_inv hf
  refine V_cSI (ws' := (W_M cI cJ cZ cO am mo.1 mo.2.1 mo.2.2.1 mo.2.2.2.1 mo.2.2.2.2.1 mo.2.2.2.2.2.1 mo.2.2.2.2.2.2.1 mo.2.2.2.2.2.2.2.1 mo.2.2.2.2.2.2.2.2.1 mo.2.2.2.2.2.2.2.2.2.1 mo.2.2.2.2.2.2.2.2.2.2.1 mo.2.2.2.2.2.2.2.2.2.2.2.1 mo.2.2.2.2.2.2.2.2.2.2.2.2.1 mo.2.2.2.2.2.2.2.2.2.2.2.2.2.1 mo.2.2.2.2.2.2.2.2.2.2.2.2.2.2.1 mo.2.2.2.2.2.2.2.2.2.2.2.2.2.2.2.1 mo.2.2.2.2.2.2.2.2.2.2.2.2.2.2.2.2.1 mo.2.2.2.2.2.2.2.2.2.2.2.2.2.2.2.2.2)) (As := [.int x1, .int 0, .int 1]) (st := []) C0 (c_X8_within l dC dI cI cJ cZ cO  N  x1 0 1 r_3 hc_3) rfl 3 gX8_restore_X8_within (by decide +kernel) ⟨Nat.le_of_ble_eq_true rfl, Nat.le_of_ble_eq_true rfl⟩ rfl  ⟨_, pr1, fun _ => pr1⟩ rfl (Nat.le_of_ble_eq_true rfl) dX8_restore_3 rfl ⟨Nat.zero_le _, Nat.zero_le _⟩ ?_
  refine V_if_ne (tgt := 12) C0 dX8_restore_6 (by decide) rfl (fun c6 => ?_) (fun c6 => ?_)
  · have hf := ite_f c6 hf
    refine V_aload_n C0 dX8_restore_12 0 rfl rfl ?_
    refine V_get C0 fl_X8_restore_22 0 rfl rfl dX8_restore_13 rfl ?_
    refine V_iload_n C0 dX8_restore_16 1 rfl rfl ?_
    obtain ⟨hi17, hf⟩ := ck_inv hf
    refine V_iald C0 5 0 rfl rfl hi17 dX8_restore_17 rfl ?_
    refine V_if_ne (tgt := 24) C0 dX8_restore_18 (by decide) rfl (fun c18 => ?_) (fun c18 => ?_)
    · have hf := ite_f c18 hf
      refine V_aload_n C0 dX8_restore_24 0 rfl rfl ?_
      obtain ⟨r_25, hc_25, hf⟩ := bind_inv hf
      refine V_cVV (ws' := (W_M cI cJ cZ cO am r_25.1 r_25.2.1 r_25.2.2.1 r_25.2.2.2.1 r_25.2.2.2.2.1 r_25.2.2.2.2.2.1 r_25.2.2.2.2.2.2.1 r_25.2.2.2.2.2.2.2.1 r_25.2.2.2.2.2.2.2.2.1 r_25.2.2.2.2.2.2.2.2.2.1 r_25.2.2.2.2.2.2.2.2.2.2.1 r_25.2.2.2.2.2.2.2.2.2.2.2.1 r_25.2.2.2.2.2.2.2.2.2.2.2.2.1 r_25.2.2.2.2.2.2.2.2.2.2.2.2.2.1 r_25.2.2.2.2.2.2.2.2.2.2.2.2.2.2.1 r_25.2.2.2.2.2.2.2.2.2.2.2.2.2.2.2.1 r_25.2.2.2.2.2.2.2.2.2.2.2.2.2.2.2.2.1 r_25.2.2.2.2.2.2.2.2.2.2.2.2.2.2.2.2.2)) (As := []) (b := am 0) (st := []) C0 (c_X8_record l dC dI cI cJ cZ cO am N mo  r_25 hc_25) rfl 0 gX8_restore_X8_record (by decide +kernel) ⟨Nat.le_of_ble_eq_true rfl, Nat.le_of_ble_eq_true rfl⟩ rfl 0 8 rfl rfl  Cut.all rfl (Nat.le_of_ble_eq_true rfl) dX8_restore_25 rfl ⟨Nat.zero_le _, Nat.zero_le _⟩ ?_
      refine V_aload_n C0 dX8_restore_28 0 rfl rfl ?_
      refine V_get C0 fl_X8_restore_19 0 rfl rfl dX8_restore_29 rfl ?_
      refine V_sipush (v := 210) C0 dX8_restore_32 (by decide) rfl ?_
      refine V_iload_n C0 dX8_restore_35 1 rfl rfl ?_
      refine V_imul C0 dX8_restore_36 rfl ?_
      refine V_aload_n C0 dX8_restore_37 0 rfl rfl ?_
      refine V_get C0 fl_X8_restore_7 0 rfl rfl dX8_restore_38 rfl ?_
      refine V_iconst (v := 0) C0 dX8_restore_41 (by decide) rfl ?_
      obtain ⟨r_42, hc_42, hf⟩ := bind_inv hf
      refine V_cSV (ws' := (W_M cI cJ cZ cO am r_42 r_25.2.1 r_25.2.2.1 r_25.2.2.2.1 r_25.2.2.2.2.1 r_25.2.2.2.2.2.1 r_25.2.2.2.2.2.2.1 r_25.2.2.2.2.2.2.2.1 r_25.2.2.2.2.2.2.2.2.1 r_25.2.2.2.2.2.2.2.2.2.1 r_25.2.2.2.2.2.2.2.2.2.2.1 r_25.2.2.2.2.2.2.2.2.2.2.2.1 r_25.2.2.2.2.2.2.2.2.2.2.2.2.1 r_25.2.2.2.2.2.2.2.2.2.2.2.2.2.1 r_25.2.2.2.2.2.2.2.2.2.2.2.2.2.2.1 r_25.2.2.2.2.2.2.2.2.2.2.2.2.2.2.2.1 r_25.2.2.2.2.2.2.2.2.2.2.2.2.2.2.2.2.1 r_25.2.2.2.2.2.2.2.2.2.2.2.2.2.2.2.2.2)) (As := [.ref (am 4), .int (210 * x1), .ref (am 1), .int 0]) (st := []) C0 (c_X8_copy l dC dI cI cJ cZ cO (fun _ => am 4) (fun _ => am 1) N 420 r_25.2.2.2.2.1 210 r_25.1 (210 * x1) 0 r_42 hc_42) rfl 4 gX8_restore_X8_copy (by decide +kernel) ⟨Nat.le_of_ble_eq_true rfl, Nat.le_of_ble_eq_true rfl⟩ rfl  ⟨_, (psw (pcr (pct (pcr (pcr (pcte (pcr (pcr (pcr (pcr (pcr (pcr (pcr (pcr (pcr (pcr (pcr pn))))))))))))))))), fun _ => (psw (pcr (pct (pcr (pcr (pcte (pcr (pcr (pcr (pcr (pcr (pcr (pcr (pcr (pcr (pcr (pcr pn)))))))))))))))))⟩ rfl (Nat.le_of_ble_eq_true rfl) dX8_restore_42 rfl ⟨Nat.zero_le _, Nat.zero_le _⟩ ?_
      refine V_aload_n C0 dX8_restore_45 0 rfl rfl ?_
      refine V_get C0 fl_X8_restore_7 0 rfl rfl dX8_restore_46 rfl ?_
      refine V_iconst (v := 0) C0 dX8_restore_49 (by decide) rfl ?_
      obtain ⟨hi50, hf⟩ := ck_inv hf
      refine V_iald C0 1 0 rfl rfl hi50 dX8_restore_50 rfl ?_
      obtain rfl := some_inv hf
      exact V_iret C0 () rfl rfl dX8_restore_51
    · have hf := ite_t c18 hf
      refine V_bipush (v := (-5)) C0 dX8_restore_21 (by decide) rfl ?_
      obtain rfl := some_inv hf
      exact V_iret C0 () rfl rfl dX8_restore_23
  · have hf := ite_t c6 hf
    refine V_bipush (v := (-2)) C0 dX8_restore_9 (by decide) rfl ?_
    obtain rfl := some_inv hf
    exact V_iret C0 () rfl rfl dX8_restore_11
