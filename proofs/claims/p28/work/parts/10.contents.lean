def f_X2_copyFrom (N : Nat) (ct : CV) (oc : CV) : Option (CV) := ckc 0 0 16 16 16 (ckc 0 0 16 16 16 (ckc 0 0 16 16 16 (ckc 0 0 8 8 8 (ckc 0 0 8 8 8 (ckc 0 0 96 96 96 (some ((oc.1, va_cpy oc.2.1 ct.2.1 ((0 : Int32).toNatClampNeg) ((0 : Int32).toNatClampNeg) ((16 : Int32).toNatClampNeg), va_cpy oc.2.2.1 ct.2.2.1 ((0 : Int32).toNatClampNeg) ((0 : Int32).toNatClampNeg) ((16 : Int32).toNatClampNeg), va_cpy oc.2.2.2.1 ct.2.2.2.1 ((0 : Int32).toNatClampNeg) ((0 : Int32).toNatClampNeg) ((16 : Int32).toNatClampNeg), oc.2.2.2.2.1, va_cpy oc.2.2.2.2.2.1 ct.2.2.2.2.2.1 ((0 : Int32).toNatClampNeg) ((0 : Int32).toNatClampNeg) ((8 : Int32).toNatClampNeg), va_cpy oc.2.2.2.2.2.2.1 ct.2.2.2.2.2.2.1 ((0 : Int32).toNatClampNeg) ((0 : Int32).toNatClampNeg) ((8 : Int32).toNatClampNeg), va_cpy oc.2.2.2.2.2.2.2 ct.2.2.2.2.2.2.2 ((0 : Int32).toNatClampNeg) ((0 : Int32).toNatClampNeg) ((96 : Int32).toNatClampNeg)))))))))
def f_X2_pieceWith_L2 (N : Nat) (ct : CV) (x1 : Int32)  (K : Unit → Option (Int32)) : Nat → Int32 → Option (Int32)
  | 0, _ => none
  | n+1, x2 => if ct.1 ≤ x2 then K () else ck x2 16 (if (ct.2.1 (x2.toNatClampNeg)) = x1 then some x2 else f_X2_pieceWith_L2 N ct x1  K n (x2 + 1))
def f_X2_pieceWith (N : Nat) (ct : CV) (x1 : Int32) : Option (Int32) := f_X2_pieceWith_L2 N ct x1  (fun (_ : Unit) => some ((-1))) N 0
def f_X2_addPiece (N : Nat) (ct : CV) (x1 : Int32) (x2 : Int32) (x3 : Int32) : Option (CV) := if ct.1 < 16 then ck ct.1 16 (ck ct.1 16 (ck ct.1 16 (some ((ct.1 + 1, upd ct.2.1 (ct.1.toNatClampNeg) x1, upd ct.2.2.1 (ct.1.toNatClampNeg) x2, upd ct.2.2.2.1 (ct.1.toNatClampNeg) x3, ct.2.2.2.2.1, ct.2.2.2.2.2.1, ct.2.2.2.2.2.2.1, ct.2.2.2.2.2.2.2))))) else some ct
def f_X2_removePiece (N : Nat) (ct : CV) (x1 : Int32) : Option (CV) := if x1 < 0 then some ct else if x1 < ct.1 then ckc (x1 + 1) x1 ((ct.1 - 1) - x1) 16 16 (ckc (x1 + 1) x1 ((ct.1 - 1) - x1) 16 16 (ckc (x1 + 1) x1 ((ct.1 - 1) - x1) 16 16 (some ((ct.1 - 1, va_cpy ct.2.1 ct.2.1 ((x1 + 1).toNatClampNeg) (x1.toNatClampNeg) (((ct.1 - 1) - x1).toNatClampNeg), va_cpy ct.2.2.1 ct.2.2.1 ((x1 + 1).toNatClampNeg) (x1.toNatClampNeg) (((ct.1 - 1) - x1).toNatClampNeg), va_cpy ct.2.2.2.1 ct.2.2.2.1 ((x1 + 1).toNatClampNeg) (x1.toNatClampNeg) (((ct.1 - 1) - x1).toNatClampNeg), ct.2.2.2.2.1, ct.2.2.2.2.2.1, ct.2.2.2.2.2.2.1, ct.2.2.2.2.2.2.2))))) else some ct
def f_X2_letterAt (N : Nat) (ct : CV) (x1 : Int32) (x2 : Int32) : Option (Int32) := ck ((x1 * 12) + x2) 96 (some (ct.2.2.2.2.2.2.2 (((x1 * 12) + x2).toNatClampNeg)))
def f_X6_letterAt (N : Nat) (pd : PV) (x1 : Int32) : Option (Int32) := ck x1 16 (some ((pd.2 (x1.toNatClampNeg)) - 97))
def f_X2_addWord_L21 (N : Nat) (pd : PV) (x2 : Int32)  (K : CV → Option (CV)) : Nat → Int32 → CV → Option (CV)
  | 0, _, _ => none
  | n+1, x3, ct => if pd.1 ≤ x3 then K ct else (f_X6_letterAt N pd x3).bind (fun (r_44 : Int32) => ck ((ct.2.2.2.2.1 * 12) + x3) 96 (f_X2_addWord_L21 N pd x2  K n (x3 + 1) ((ct.1, ct.2.1, ct.2.2.1, ct.2.2.2.1, ct.2.2.2.2.1, ct.2.2.2.2.2.1, ct.2.2.2.2.2.2.1, upd ct.2.2.2.2.2.2.2 (((ct.2.2.2.2.1 * 12) + x3).toNatClampNeg) r_44))))
def f_X2_addWord (N : Nat) (ct : CV) (pd : PV) (x2 : Int32) : Option (CV) := if 8 ≤ ct.2.2.2.2.1 then some ct else if pd.1 ≤ 12 then f_X2_addWord_L21 N pd x2  (fun (ct_21 : CV) => ck ct_21.2.2.2.2.1 8 (ck ct_21.2.2.2.2.1 8 (some ((ct_21.1, ct_21.2.1, ct_21.2.2.1, ct_21.2.2.2.1, ct_21.2.2.2.2.1 + 1, upd ct_21.2.2.2.2.2.1 (ct_21.2.2.2.2.1.toNatClampNeg) pd.1, upd ct_21.2.2.2.2.2.2.1 (ct_21.2.2.2.2.1.toNatClampNeg) x2, ct_21.2.2.2.2.2.2.2))))) N 0 ct else some ct
def f_X2_removeWord (N : Nat) (ct : CV) (x1 : Int32) : Option (CV) := if x1 < 0 then some ct else if x1 < ct.2.2.2.2.1 then bd ((ct.2.2.2.2.1 - 1) - x1) (fun (x2_1 : Int32) => ckc (x1 + 1) x1 x2_1 8 8 (ckc (x1 + 1) x1 x2_1 8 8 (ckc ((x1 + 1) * 12) (x1 * 12) (x2_1 * 12) 96 96 (some ((ct.1, ct.2.1, ct.2.2.1, ct.2.2.2.1, ct.2.2.2.2.1 - 1, va_cpy ct.2.2.2.2.2.1 ct.2.2.2.2.2.1 ((x1 + 1).toNatClampNeg) (x1.toNatClampNeg) (x2_1.toNatClampNeg), va_cpy ct.2.2.2.2.2.2.1 ct.2.2.2.2.2.2.1 ((x1 + 1).toNatClampNeg) (x1.toNatClampNeg) (x2_1.toNatClampNeg), va_cpy ct.2.2.2.2.2.2.2 ct.2.2.2.2.2.2.2 (((x1 + 1) * 12).toNatClampNeg) ((x1 * 12).toNatClampNeg) ((x2_1 * 12).toNatClampNeg))))))) else some ct
def f_X6_append (N : Nat) (pd : PV) (x1 : Int32) : Option (PV) := if pd.1 < 16 then ck pd.1 16 (some ((pd.1 + 1, upd pd.2 (pd.1.toNatClampNeg) x1))) else some pd
def f_X6_firstNoLetter_L2 (N : Nat) (pd : PV)  (K : Int32 → Option (Int32)) : Nat → Int32 → Option (Int32)
  | 0, _ => none
  | n+1, x1 => if pd.1 ≤ x1 then K x1 else (f_X6_letterAt N pd x1).bind (fun (r_12 : Int32) => if r_12 < 0 then K x1 else (f_X6_letterAt N pd x1).bind (fun (r_20 : Int32) => if 6 ≤ r_20 then K x1 else f_X6_firstNoLetter_L2 N pd  K n (x1 + 1)))
def f_X6_firstNoLetter (N : Nat) (pd : PV) : Option (Int32) := f_X6_firstNoLetter_L2 N pd  (fun (x1_2 : Int32) => some x1_2) N 0
def f_X6_holdsLetters (N : Nat) (pd : PV) (x1 : Int32) : Option (Int32) := if pd.1 < 1 then some 0 else if x1 < pd.1 then some 0 else (f_X6_firstNoLetter N pd ).bind (fun (r_17 : Int32) => if r_17 = pd.1 then some 1 else some 0)
def f_X6_text_L4 (N : Nat) (pd : PV)  (K : Int32 → Option (Int32)) : Nat → Int32 → Int32 → Option (Int32)
  | 0, _, _ => none
  | n+1, x1, x2 => if pd.1 ≤ x2 then K x1 else (f_X6_letterAt N pd x2).bind (fun (r_17 : Int32) => bd ((x1 <<< (3 &&& 31)) ||| (r_17 + 1)) (fun (x1_1 : Int32) => f_X6_text_L4 N pd  K n x1_1 (x2 + 1)))
def f_X6_text (N : Nat) (pd : PV) : Option (Int32) := f_X6_text_L4 N pd  (fun (x1_4 : Int32) => some x1_4) N 0 0
abbrev RM_X2_copyFrom : Room := { frames := 1, cells := 0, slots := 0, locals := 60 }
theorem in_X2_copyFrom_X2 : ∀ w ∈ u_ws RX2 TX2 8, w ∈ wsX2_copyFrom := by decide +kernel
theorem fl_X2_copyFrom_9 : FL RX2 wsX2_copyFrom 2 9 1 RX2 TX2 8 := ⟨in_X2_copyFrom_X2, rfl, by decide, by decide +kernel, rfl⟩
theorem fl_X2_copyFrom_15 : FL RX2 wsX2_copyFrom 2 15 2 RX2 TX2 8 := ⟨in_X2_copyFrom_X2, rfl, by decide, by decide +kernel, rfl⟩
theorem fl_X2_copyFrom_18 : FL RX2 wsX2_copyFrom 2 18 3 RX2 TX2 8 := ⟨in_X2_copyFrom_X2, rfl, by decide, by decide +kernel, rfl⟩
theorem fl_X2_copyFrom_21 : FL RX2 wsX2_copyFrom 2 21 5 RX2 TX2 8 := ⟨in_X2_copyFrom_X2, rfl, by decide, by decide +kernel, rfl⟩
theorem fl_X2_copyFrom_24 : FL RX2 wsX2_copyFrom 2 24 6 RX2 TX2 8 := ⟨in_X2_copyFrom_X2, rfl, by decide, by decide +kernel, rfl⟩
theorem fl_X2_copyFrom_27 : FL RX2 wsX2_copyFrom 2 27 7 RX2 TX2 8 := ⟨in_X2_copyFrom_X2, rfl, by decide, by decide +kernel, rfl⟩
theorem fl_X2_copyFrom_30 : FL RX2 wsX2_copyFrom 2 30 0 RX2 TX2 8 := ⟨in_X2_copyFrom_X2, rfl, by decide, by decide +kernel, rfl⟩
theorem fl_X2_copyFrom_40 : FL RX2 wsX2_copyFrom 2 40 4 RX2 TX2 8 := ⟨in_X2_copyFrom_X2, rfl, by decide, by decide +kernel, rfl⟩
set_option maxRecDepth 100000 in
set_option maxHeartbeats 4000000 in
theorem c_X2_copyFrom (l : Launch) (dC : Nat → ClassId) (dI : Nat → Nat → Nat) (cI cJ cZ cO : ClassId) (ac_ : Nat → Nat) (aoc : Nat → Nat) (N : Nat) (ct : CV) (oc : CV) (o : CV) (hf : f_X2_copyFrom N ct oc = some o) : MetV l yX2_copyFrom wsX2_copyFrom RM_X2_copyFrom (dC, dI) (TY cI cJ cZ cO) [.ref (ac_ 0), .ref (aoc 0)] (W_C cI cJ cZ cO ac_ ct.1 ct.2.1 ct.2.2.1 ct.2.2.2.1 ct.2.2.2.2.1 ct.2.2.2.2.2.1 ct.2.2.2.2.2.2.1 ct.2.2.2.2.2.2.2 ++ (W_C cI cJ cZ cO aoc oc.1 oc.2.1 oc.2.2.1 oc.2.2.2.1 oc.2.2.2.2.1 oc.2.2.2.2.2.1 oc.2.2.2.2.2.2.1 oc.2.2.2.2.2.2.2)) (fun _ : Unit => True) (fun _ => (W_C cI cJ cZ cO ac_ o.1 o.2.1 o.2.2.1 o.2.2.2.1 o.2.2.2.2.1 o.2.2.2.2.2.1 o.2.2.2.2.2.2.1 o.2.2.2.2.2.2.2 ++ (W_C cI cJ cZ cO aoc oc.1 oc.2.1 oc.2.2.1 oc.2.2.2.1 oc.2.2.2.2.1 oc.2.2.2.2.2.1 oc.2.2.2.2.2.2.1 oc.2.2.2.2.2.2.2))) := by
  refine MetV.ofV (cc := cX2_copyFrom) (maxL := 2) (ret := none) (own := RX2) (lv0 := [(0, .ref (ac_ 0)), (1, .ref (aoc 0))]) (by decide) rfl rfl (Nat.le_of_ble_eq_true rfl) rfl ?_
  intro p e s m below meth c A C0 _
  unfold f_X2_copyFrom at hf
  refine V_aload_n C0 dX2_copyFrom_0 0 rfl rfl ?_
  refine V_aload_n C0 dX2_copyFrom_1 1 rfl rfl ?_
  refine V_get C0 fl_X2_copyFrom_30 7 rfl rfl dX2_copyFrom_2 rfl ?_
  refine V_put (ws' := (W_C cI cJ cZ cO ac_ oc.1 ct.2.1 ct.2.2.1 ct.2.2.2.1 ct.2.2.2.2.1 ct.2.2.2.2.2.1 ct.2.2.2.2.2.2.1 ct.2.2.2.2.2.2.2 ++ (W_C cI cJ cZ cO aoc oc.1 oc.2.1 oc.2.2.1 oc.2.2.2.1 oc.2.2.2.2.1 oc.2.2.2.2.2.1 oc.2.2.2.2.2.2.1 oc.2.2.2.2.2.2.2))) C0 fl_X2_copyFrom_30 tyX2_ok nmX2 rfl 0 rfl rfl rfl (Nat.le_of_ble_eq_true rfl) dX2_copyFrom_5 rfl rfl ?_
  refine V_aload_n C0 dX2_copyFrom_8 1 rfl rfl ?_
  refine V_get C0 fl_X2_copyFrom_9 7 rfl rfl dX2_copyFrom_9 rfl ?_
  refine V_iconst (v := 0) C0 dX2_copyFrom_12 (by decide) rfl ?_
  refine V_aload_n C0 dX2_copyFrom_13 0 rfl rfl ?_
  refine V_get C0 fl_X2_copyFrom_9 0 rfl rfl dX2_copyFrom_14 rfl ?_
  refine V_iconst (v := 0) C0 dX2_copyFrom_17 (by decide) rfl ?_
  refine V_bipush (v := 16) C0 dX2_copyFrom_18 (by decide) rfl ?_
  obtain ⟨hk20, hf⟩ := ckc_inv hf
  refine V_copy (ws' := (W_C cI cJ cZ cO ac_ oc.1 (va_cpy oc.2.1 ct.2.1 ((0 : Int32).toNatClampNeg) ((0 : Int32).toNatClampNeg) ((16 : Int32).toNatClampNeg)) ct.2.2.1 ct.2.2.2.1 ct.2.2.2.2.1 ct.2.2.2.2.2.1 ct.2.2.2.2.2.2.1 ct.2.2.2.2.2.2.2 ++ (W_C cI cJ cZ cO aoc oc.1 oc.2.1 oc.2.2.1 oc.2.2.2.1 oc.2.2.2.2.1 oc.2.2.2.2.2.1 oc.2.2.2.2.2.2.1 oc.2.2.2.2.2.2.2))) C0 (index := 34) (by decide +kernel) (by decide +kernel) (by decide +kernel) (by decide +kernel) 8 1 0 rfl rfl rfl hk20 (Nat.le_of_ble_eq_true rfl) (Nat.le_of_ble_eq_true rfl) dX2_copyFrom_20 rfl rfl ?_
  refine V_aload_n C0 dX2_copyFrom_23 1 rfl rfl ?_
  refine V_get C0 fl_X2_copyFrom_15 7 rfl rfl dX2_copyFrom_24 rfl ?_
  refine V_iconst (v := 0) C0 dX2_copyFrom_27 (by decide) rfl ?_
  refine V_aload_n C0 dX2_copyFrom_28 0 rfl rfl ?_
  refine V_get C0 fl_X2_copyFrom_15 0 rfl rfl dX2_copyFrom_29 rfl ?_
  refine V_iconst (v := 0) C0 dX2_copyFrom_32 (by decide) rfl ?_
  refine V_bipush (v := 16) C0 dX2_copyFrom_33 (by decide) rfl ?_
  obtain ⟨hk35, hf⟩ := ckc_inv hf
  refine V_copy (ws' := (W_C cI cJ cZ cO ac_ oc.1 (va_cpy oc.2.1 ct.2.1 ((0 : Int32).toNatClampNeg) ((0 : Int32).toNatClampNeg) ((16 : Int32).toNatClampNeg)) (va_cpy oc.2.2.1 ct.2.2.1 ((0 : Int32).toNatClampNeg) ((0 : Int32).toNatClampNeg) ((16 : Int32).toNatClampNeg)) ct.2.2.2.1 ct.2.2.2.2.1 ct.2.2.2.2.2.1 ct.2.2.2.2.2.2.1 ct.2.2.2.2.2.2.2 ++ (W_C cI cJ cZ cO aoc oc.1 oc.2.1 oc.2.2.1 oc.2.2.2.1 oc.2.2.2.2.1 oc.2.2.2.2.2.1 oc.2.2.2.2.2.2.1 oc.2.2.2.2.2.2.2))) C0 (index := 34) (by decide +kernel) (by decide +kernel) (by decide +kernel) (by decide +kernel) 9 2 0 rfl rfl rfl hk35 (Nat.le_of_ble_eq_true rfl) (Nat.le_of_ble_eq_true rfl) dX2_copyFrom_35 rfl rfl ?_
  refine V_aload_n C0 dX2_copyFrom_38 1 rfl rfl ?_
  refine V_get C0 fl_X2_copyFrom_18 7 rfl rfl dX2_copyFrom_39 rfl ?_
  refine V_iconst (v := 0) C0 dX2_copyFrom_42 (by decide) rfl ?_
  refine V_aload_n C0 dX2_copyFrom_43 0 rfl rfl ?_
  refine V_get C0 fl_X2_copyFrom_18 0 rfl rfl dX2_copyFrom_44 rfl ?_
  refine V_iconst (v := 0) C0 dX2_copyFrom_47 (by decide) rfl ?_
  refine V_bipush (v := 16) C0 dX2_copyFrom_48 (by decide) rfl ?_
  obtain ⟨hk50, hf⟩ := ckc_inv hf
  refine V_copy (ws' := (W_C cI cJ cZ cO ac_ oc.1 (va_cpy oc.2.1 ct.2.1 ((0 : Int32).toNatClampNeg) ((0 : Int32).toNatClampNeg) ((16 : Int32).toNatClampNeg)) (va_cpy oc.2.2.1 ct.2.2.1 ((0 : Int32).toNatClampNeg) ((0 : Int32).toNatClampNeg) ((16 : Int32).toNatClampNeg)) (va_cpy oc.2.2.2.1 ct.2.2.2.1 ((0 : Int32).toNatClampNeg) ((0 : Int32).toNatClampNeg) ((16 : Int32).toNatClampNeg)) ct.2.2.2.2.1 ct.2.2.2.2.2.1 ct.2.2.2.2.2.2.1 ct.2.2.2.2.2.2.2 ++ (W_C cI cJ cZ cO aoc oc.1 oc.2.1 oc.2.2.1 oc.2.2.2.1 oc.2.2.2.2.1 oc.2.2.2.2.2.1 oc.2.2.2.2.2.2.1 oc.2.2.2.2.2.2.2))) C0 (index := 34) (by decide +kernel) (by decide +kernel) (by decide +kernel) (by decide +kernel) 10 3 0 rfl rfl rfl hk50 (Nat.le_of_ble_eq_true rfl) (Nat.le_of_ble_eq_true rfl) dX2_copyFrom_50 rfl rfl ?_
  refine V_aload_n C0 dX2_copyFrom_53 0 rfl rfl ?_
  refine V_aload_n C0 dX2_copyFrom_54 1 rfl rfl ?_
  refine V_get C0 fl_X2_copyFrom_40 7 rfl rfl dX2_copyFrom_55 rfl ?_
  refine V_put (ws' := (W_C cI cJ cZ cO ac_ oc.1 (va_cpy oc.2.1 ct.2.1 ((0 : Int32).toNatClampNeg) ((0 : Int32).toNatClampNeg) ((16 : Int32).toNatClampNeg)) (va_cpy oc.2.2.1 ct.2.2.1 ((0 : Int32).toNatClampNeg) ((0 : Int32).toNatClampNeg) ((16 : Int32).toNatClampNeg)) (va_cpy oc.2.2.2.1 ct.2.2.2.1 ((0 : Int32).toNatClampNeg) ((0 : Int32).toNatClampNeg) ((16 : Int32).toNatClampNeg)) oc.2.2.2.2.1 ct.2.2.2.2.2.1 ct.2.2.2.2.2.2.1 ct.2.2.2.2.2.2.2 ++ (W_C cI cJ cZ cO aoc oc.1 oc.2.1 oc.2.2.1 oc.2.2.2.1 oc.2.2.2.2.1 oc.2.2.2.2.2.1 oc.2.2.2.2.2.2.1 oc.2.2.2.2.2.2.2))) C0 fl_X2_copyFrom_40 tyX2_ok nmX2 rfl 0 rfl rfl rfl (Nat.le_of_ble_eq_true rfl) dX2_copyFrom_58 rfl rfl ?_
  refine V_aload_n C0 dX2_copyFrom_61 1 rfl rfl ?_
  refine V_get C0 fl_X2_copyFrom_21 7 rfl rfl dX2_copyFrom_62 rfl ?_
  refine V_iconst (v := 0) C0 dX2_copyFrom_65 (by decide) rfl ?_
  refine V_aload_n C0 dX2_copyFrom_66 0 rfl rfl ?_
  refine V_get C0 fl_X2_copyFrom_21 0 rfl rfl dX2_copyFrom_67 rfl ?_
  refine V_iconst (v := 0) C0 dX2_copyFrom_70 (by decide) rfl ?_
  refine V_bipush (v := 8) C0 dX2_copyFrom_71 (by decide) rfl ?_
  obtain ⟨hk73, hf⟩ := ckc_inv hf
  refine V_copy (ws' := (W_C cI cJ cZ cO ac_ oc.1 (va_cpy oc.2.1 ct.2.1 ((0 : Int32).toNatClampNeg) ((0 : Int32).toNatClampNeg) ((16 : Int32).toNatClampNeg)) (va_cpy oc.2.2.1 ct.2.2.1 ((0 : Int32).toNatClampNeg) ((0 : Int32).toNatClampNeg) ((16 : Int32).toNatClampNeg)) (va_cpy oc.2.2.2.1 ct.2.2.2.1 ((0 : Int32).toNatClampNeg) ((0 : Int32).toNatClampNeg) ((16 : Int32).toNatClampNeg)) oc.2.2.2.2.1 (va_cpy oc.2.2.2.2.2.1 ct.2.2.2.2.2.1 ((0 : Int32).toNatClampNeg) ((0 : Int32).toNatClampNeg) ((8 : Int32).toNatClampNeg)) ct.2.2.2.2.2.2.1 ct.2.2.2.2.2.2.2 ++ (W_C cI cJ cZ cO aoc oc.1 oc.2.1 oc.2.2.1 oc.2.2.2.1 oc.2.2.2.2.1 oc.2.2.2.2.2.1 oc.2.2.2.2.2.2.1 oc.2.2.2.2.2.2.2))) C0 (index := 34) (by decide +kernel) (by decide +kernel) (by decide +kernel) (by decide +kernel) 11 4 0 rfl rfl rfl hk73 (Nat.le_of_ble_eq_true rfl) (Nat.le_of_ble_eq_true rfl) dX2_copyFrom_73 rfl rfl ?_
  refine V_aload_n C0 dX2_copyFrom_76 1 rfl rfl ?_
  refine V_get C0 fl_X2_copyFrom_24 7 rfl rfl dX2_copyFrom_77 rfl ?_
  refine V_iconst (v := 0) C0 dX2_copyFrom_80 (by decide) rfl ?_
  refine V_aload_n C0 dX2_copyFrom_81 0 rfl rfl ?_
  refine V_get C0 fl_X2_copyFrom_24 0 rfl rfl dX2_copyFrom_82 rfl ?_
  refine V_iconst (v := 0) C0 dX2_copyFrom_85 (by decide) rfl ?_
  refine V_bipush (v := 8) C0 dX2_copyFrom_86 (by decide) rfl ?_
  obtain ⟨hk88, hf⟩ := ckc_inv hf
  refine V_copy (ws' := (W_C cI cJ cZ cO ac_ oc.1 (va_cpy oc.2.1 ct.2.1 ((0 : Int32).toNatClampNeg) ((0 : Int32).toNatClampNeg) ((16 : Int32).toNatClampNeg)) (va_cpy oc.2.2.1 ct.2.2.1 ((0 : Int32).toNatClampNeg) ((0 : Int32).toNatClampNeg) ((16 : Int32).toNatClampNeg)) (va_cpy oc.2.2.2.1 ct.2.2.2.1 ((0 : Int32).toNatClampNeg) ((0 : Int32).toNatClampNeg) ((16 : Int32).toNatClampNeg)) oc.2.2.2.2.1 (va_cpy oc.2.2.2.2.2.1 ct.2.2.2.2.2.1 ((0 : Int32).toNatClampNeg) ((0 : Int32).toNatClampNeg) ((8 : Int32).toNatClampNeg)) (va_cpy oc.2.2.2.2.2.2.1 ct.2.2.2.2.2.2.1 ((0 : Int32).toNatClampNeg) ((0 : Int32).toNatClampNeg) ((8 : Int32).toNatClampNeg)) ct.2.2.2.2.2.2.2 ++ (W_C cI cJ cZ cO aoc oc.1 oc.2.1 oc.2.2.1 oc.2.2.2.1 oc.2.2.2.2.1 oc.2.2.2.2.2.1 oc.2.2.2.2.2.2.1 oc.2.2.2.2.2.2.2))) C0 (index := 34) (by decide +kernel) (by decide +kernel) (by decide +kernel) (by decide +kernel) 12 5 0 rfl rfl rfl hk88 (Nat.le_of_ble_eq_true rfl) (Nat.le_of_ble_eq_true rfl) dX2_copyFrom_88 rfl rfl ?_
  refine V_aload_n C0 dX2_copyFrom_91 1 rfl rfl ?_
  refine V_get C0 fl_X2_copyFrom_27 7 rfl rfl dX2_copyFrom_92 rfl ?_
  refine V_iconst (v := 0) C0 dX2_copyFrom_95 (by decide) rfl ?_
  refine V_aload_n C0 dX2_copyFrom_96 0 rfl rfl ?_
  refine V_get C0 fl_X2_copyFrom_27 0 rfl rfl dX2_copyFrom_97 rfl ?_
  refine V_iconst (v := 0) C0 dX2_copyFrom_100 (by decide) rfl ?_
  refine V_bipush (v := 96) C0 dX2_copyFrom_101 (by decide) rfl ?_
  obtain ⟨hk103, hf⟩ := ckc_inv hf
  refine V_copy (ws' := (W_C cI cJ cZ cO ac_ oc.1 (va_cpy oc.2.1 ct.2.1 ((0 : Int32).toNatClampNeg) ((0 : Int32).toNatClampNeg) ((16 : Int32).toNatClampNeg)) (va_cpy oc.2.2.1 ct.2.2.1 ((0 : Int32).toNatClampNeg) ((0 : Int32).toNatClampNeg) ((16 : Int32).toNatClampNeg)) (va_cpy oc.2.2.2.1 ct.2.2.2.1 ((0 : Int32).toNatClampNeg) ((0 : Int32).toNatClampNeg) ((16 : Int32).toNatClampNeg)) oc.2.2.2.2.1 (va_cpy oc.2.2.2.2.2.1 ct.2.2.2.2.2.1 ((0 : Int32).toNatClampNeg) ((0 : Int32).toNatClampNeg) ((8 : Int32).toNatClampNeg)) (va_cpy oc.2.2.2.2.2.2.1 ct.2.2.2.2.2.2.1 ((0 : Int32).toNatClampNeg) ((0 : Int32).toNatClampNeg) ((8 : Int32).toNatClampNeg)) (va_cpy oc.2.2.2.2.2.2.2 ct.2.2.2.2.2.2.2 ((0 : Int32).toNatClampNeg) ((0 : Int32).toNatClampNeg) ((96 : Int32).toNatClampNeg)) ++ (W_C cI cJ cZ cO aoc oc.1 oc.2.1 oc.2.2.1 oc.2.2.2.1 oc.2.2.2.2.1 oc.2.2.2.2.2.1 oc.2.2.2.2.2.2.1 oc.2.2.2.2.2.2.2))) C0 (index := 34) (by decide +kernel) (by decide +kernel) (by decide +kernel) (by decide +kernel) 13 6 0 rfl rfl rfl hk103 (Nat.le_of_ble_eq_true rfl) (Nat.le_of_ble_eq_true rfl) dX2_copyFrom_103 rfl rfl ?_
  obtain rfl := some_inv hf
  exact V_vret C0 () trivial rfl dX2_copyFrom_106
abbrev RM_X2_pieceWith : Room := { frames := 0, cells := 0, slots := 0, locals := 0 }
theorem in_X2_pieceWith_X2 : ∀ w ∈ u_ws RX2 TX2 8, w ∈ wsX2_pieceWith := by decide +kernel
theorem fl_X2_pieceWith_9 : FL RX2 wsX2_pieceWith 2 9 1 RX2 TX2 8 := ⟨in_X2_pieceWith_X2, rfl, by decide, by decide +kernel, rfl⟩
theorem fl_X2_pieceWith_30 : FL RX2 wsX2_pieceWith 2 30 0 RX2 TX2 8 := ⟨in_X2_pieceWith_X2, rfl, by decide, by decide +kernel, rfl⟩
set_option maxRecDepth 100000 in
set_option maxHeartbeats 4000000 in
theorem c_X2_pieceWith (l : Launch) (dC : Nat → ClassId) (dI : Nat → Nat → Nat) (cI cJ cZ cO : ClassId) (ac_ : Nat → Nat) (N : Nat) (ct : CV) (x1 : Int32) (o : Int32) (hf : f_X2_pieceWith N ct x1 = some o) : MetI l yX2_pieceWith wsX2_pieceWith RM_X2_pieceWith (dC, dI) (TY cI cJ cZ cO) [.ref (ac_ 0), .int x1] (W_C cI cJ cZ cO ac_ ct.1 ct.2.1 ct.2.2.1 ct.2.2.2.1 ct.2.2.2.2.1 ct.2.2.2.2.2.1 ct.2.2.2.2.2.2.1 ct.2.2.2.2.2.2.2) (fun r (_ : Unit) => r = o) (fun _ => (W_C cI cJ cZ cO ac_ ct.1 ct.2.1 ct.2.2.1 ct.2.2.2.1 ct.2.2.2.2.1 ct.2.2.2.2.2.1 ct.2.2.2.2.2.2.1 ct.2.2.2.2.2.2.2)) := by
  refine MetI.ofV (cc := cX2_pieceWith) (maxL := 3) (ret := (some .int)) (own := RX2) (lv0 := [(0, .ref (ac_ 0)), (1, .int x1)]) (by decide) rfl rfl (Nat.le_of_ble_eq_true rfl) rfl ?_
  intro p e s m below meth c A C0 _
  unfold f_X2_pieceWith at hf
  refine V_iconst (v := 0) C0 dX2_pieceWith_0 (by decide) rfl ?_
  refine V_istore_n (lv' := [(2, .int 0), (0, .ref (ac_ 0)), (1, .int x1)]) C0 dX2_pieceWith_1 rfl (by decide) rfl rfl ?_
  have hL2 : ∀ (K : Unit → Option (Int32)), (∀ (u : Unit), K u = some o → V p l e RM_X2_pieceWith s m ([.ref (ac_ 0), .int x1] : List Value).toArray below meth c 3 (dC, dI) A (MQ below (va_Qi (fun r (_ : Unit) => r = o) (PostW (dC, dI) (TY cI cJ cZ cO) A (fun _ => (W_C cI cJ cZ cO ac_ ct.1 ct.2.1 ct.2.2.1 ct.2.2.2.1 ct.2.2.2.2.1 ct.2.2.2.2.2.1 ct.2.2.2.2.2.2.1 ct.2.2.2.2.2.2.2))) A) ([.ref (ac_ 0), .int x1] : List Value).toArray s 0 0 A) 0 0 (W_C cI cJ cZ cO ac_ ct.1 ct.2.1 ct.2.2.1 ct.2.2.2.1 ct.2.2.2.2.1 ct.2.2.2.2.2.1 ct.2.2.2.2.2.2.1 ct.2.2.2.2.2.2.2) 28 [] []) → ∀ (n : Nat) (x2 : Int32), f_X2_pieceWith_L2 N ct x1  K n x2 = some o → V p l e RM_X2_pieceWith s m ([.ref (ac_ 0), .int x1] : List Value).toArray below meth c 3 (dC, dI) A (MQ below (va_Qi (fun r (_ : Unit) => r = o) (PostW (dC, dI) (TY cI cJ cZ cO) A (fun _ => (W_C cI cJ cZ cO ac_ ct.1 ct.2.1 ct.2.2.1 ct.2.2.2.1 ct.2.2.2.2.1 ct.2.2.2.2.2.1 ct.2.2.2.2.2.2.1 ct.2.2.2.2.2.2.2))) A) ([.ref (ac_ 0), .int x1] : List Value).toArray s 0 0 A) 0 0 (W_C cI cJ cZ cO ac_ ct.1 ct.2.1 ct.2.2.1 ct.2.2.2.1 ct.2.2.2.2.1 ct.2.2.2.2.2.1 ct.2.2.2.2.2.2.1 ct.2.2.2.2.2.2.2) 2 [(0, .ref (ac_ 0)), (1, .int x1), (2, .int x2)] [] := by
    intro  K hK n
    induction n with
    | zero => intro x2 hf; cases hf
    | succ n hREC =>
      intro x2 hf
      rw [f_X2_pieceWith_L2] at hf
      refine V_iload_n C0 dX2_pieceWith_2 2 rfl rfl ?_
      refine V_aload_n C0 dX2_pieceWith_3 0 rfl rfl ?_
      refine V_get C0 fl_X2_pieceWith_30 0 rfl rfl dX2_pieceWith_4 rfl ?_
      refine V_icmp_ge (tgt := 28) C0 dX2_pieceWith_7 (by decide) rfl (fun c7 => ?_) (fun c7 => ?_)
      · have hf := ite_t c7 hf
        exact V.sub [] rfl (hK () hf)
      · have hf := ite_f c7 hf
        refine V_aload_n C0 dX2_pieceWith_10 0 rfl rfl ?_
        refine V_get C0 fl_X2_pieceWith_9 0 rfl rfl dX2_pieceWith_11 rfl ?_
        refine V_iload_n C0 dX2_pieceWith_14 2 rfl rfl ?_
        obtain ⟨hi15, hf⟩ := ck_inv hf
        refine V_iald C0 1 0 rfl rfl hi15 dX2_pieceWith_15 rfl ?_
        refine V_iload_n C0 dX2_pieceWith_16 1 rfl rfl ?_
        refine V_icmp_ne (tgt := 22) C0 dX2_pieceWith_17 (by decide) rfl (fun c17 => ?_) (fun c17 => ?_)
        · have hf := ite_f c17 hf
          refine V_iinc (k := 2) (v := x2 + 1) (lv' := [(2, .int (x2 + 1)), (0, .ref (ac_ 0)), (1, .int x1)]) C0 dX2_pieceWith_22 rfl rfl (by decide) rfl rfl ?_
          refine V_goto (tgt := 2) C0 dX2_pieceWith_25 (by decide) ?_
          exact V.sub [1, 2, 0] rfl (hREC (x2 + 1) hf)
        · have hf := ite_t c17 hf
          refine V_iload_n C0 dX2_pieceWith_20 2 rfl rfl ?_
          obtain rfl := some_inv hf
          exact V_iret C0 () rfl rfl dX2_pieceWith_21
  refine V.sub [1, 2, 0] rfl (hL2  _ ?_ N 0 hf)
  intro u hf
  refine V_iconst (v := (-1)) C0 dX2_pieceWith_28 (by decide) rfl ?_
  obtain rfl := some_inv hf
  exact V_iret C0 () rfl rfl dX2_pieceWith_29
abbrev RM_X2_addPiece : Room := { frames := 0, cells := 0, slots := 0, locals := 0 }
theorem in_X2_addPiece_X2 : ∀ w ∈ u_ws RX2 TX2 8, w ∈ wsX2_addPiece := by decide +kernel
theorem fl_X2_addPiece_9 : FL RX2 wsX2_addPiece 2 9 1 RX2 TX2 8 := ⟨in_X2_addPiece_X2, rfl, by decide, by decide +kernel, rfl⟩
theorem fl_X2_addPiece_15 : FL RX2 wsX2_addPiece 2 15 2 RX2 TX2 8 := ⟨in_X2_addPiece_X2, rfl, by decide, by decide +kernel, rfl⟩
theorem fl_X2_addPiece_18 : FL RX2 wsX2_addPiece 2 18 3 RX2 TX2 8 := ⟨in_X2_addPiece_X2, rfl, by decide, by decide +kernel, rfl⟩
theorem fl_X2_addPiece_30 : FL RX2 wsX2_addPiece 2 30 0 RX2 TX2 8 := ⟨in_X2_addPiece_X2, rfl, by decide, by decide +kernel, rfl⟩
set_option maxRecDepth 100000 in
set_option maxHeartbeats 4000000 in
theorem c_X2_addPiece (l : Launch) (dC : Nat → ClassId) (dI : Nat → Nat → Nat) (cI cJ cZ cO : ClassId) (ac_ : Nat → Nat) (N : Nat) (ct : CV) (x1 : Int32) (x2 : Int32) (x3 : Int32) (o : CV) (hf : f_X2_addPiece N ct x1 x2 x3 = some o) : MetV l yX2_addPiece wsX2_addPiece RM_X2_addPiece (dC, dI) (TY cI cJ cZ cO) [.ref (ac_ 0), .int x1, .int x2, .int x3] (W_C cI cJ cZ cO ac_ ct.1 ct.2.1 ct.2.2.1 ct.2.2.2.1 ct.2.2.2.2.1 ct.2.2.2.2.2.1 ct.2.2.2.2.2.2.1 ct.2.2.2.2.2.2.2) (fun _ : Unit => True) (fun _ => (W_C cI cJ cZ cO ac_ o.1 o.2.1 o.2.2.1 o.2.2.2.1 o.2.2.2.2.1 o.2.2.2.2.2.1 o.2.2.2.2.2.2.1 o.2.2.2.2.2.2.2)) := by
  refine MetV.ofV (cc := cX2_addPiece) (maxL := 4) (ret := none) (own := RX2) (lv0 := [(0, .ref (ac_ 0)), (1, .int x1), (2, .int x2), (3, .int x3)]) (by decide) rfl rfl (Nat.le_of_ble_eq_true rfl) rfl ?_
  intro p e s m below meth c A C0 _
  unfold f_X2_addPiece at hf
  refine V_aload_n C0 dX2_addPiece_0 0 rfl rfl ?_
  refine V_get C0 fl_X2_addPiece_30 0 rfl rfl dX2_addPiece_1 rfl ?_
  refine V_bipush (v := 16) C0 dX2_addPiece_4 (by decide) rfl ?_
  refine V_icmp_lt (tgt := 10) C0 dX2_addPiece_6 (by decide) rfl (fun c6 => ?_) (fun c6 => ?_)
  · have hf := ite_t c6 hf
    refine V_aload_n C0 dX2_addPiece_10 0 rfl rfl ?_
    refine V_get C0 fl_X2_addPiece_9 0 rfl rfl dX2_addPiece_11 rfl ?_
    refine V_aload_n C0 dX2_addPiece_14 0 rfl rfl ?_
    refine V_get C0 fl_X2_addPiece_30 0 rfl rfl dX2_addPiece_15 rfl ?_
    refine V_iload_n C0 dX2_addPiece_18 1 rfl rfl ?_
    obtain ⟨hi19, hf⟩ := ck_inv hf
    refine V_iast (ws' := (W_C cI cJ cZ cO ac_ ct.1 (upd ct.2.1 (ct.1.toNatClampNeg) x1) ct.2.2.1 ct.2.2.2.1 ct.2.2.2.2.1 ct.2.2.2.2.2.1 ct.2.2.2.2.2.2.1 ct.2.2.2.2.2.2.2)) C0 1 0 rfl rfl hi19 dX2_addPiece_19 rfl rfl ?_
    refine V_aload_n C0 dX2_addPiece_20 0 rfl rfl ?_
    refine V_get C0 fl_X2_addPiece_15 0 rfl rfl dX2_addPiece_21 rfl ?_
    refine V_aload_n C0 dX2_addPiece_24 0 rfl rfl ?_
    refine V_get C0 fl_X2_addPiece_30 0 rfl rfl dX2_addPiece_25 rfl ?_
    refine V_iload_n C0 dX2_addPiece_28 2 rfl rfl ?_
    obtain ⟨hi29, hf⟩ := ck_inv hf
    refine V_iast (ws' := (W_C cI cJ cZ cO ac_ ct.1 (upd ct.2.1 (ct.1.toNatClampNeg) x1) (upd ct.2.2.1 (ct.1.toNatClampNeg) x2) ct.2.2.2.1 ct.2.2.2.2.1 ct.2.2.2.2.2.1 ct.2.2.2.2.2.2.1 ct.2.2.2.2.2.2.2)) C0 2 0 rfl rfl hi29 dX2_addPiece_29 rfl rfl ?_
    refine V_aload_n C0 dX2_addPiece_30 0 rfl rfl ?_
    refine V_get C0 fl_X2_addPiece_18 0 rfl rfl dX2_addPiece_31 rfl ?_
    refine V_aload_n C0 dX2_addPiece_34 0 rfl rfl ?_
    refine V_get C0 fl_X2_addPiece_30 0 rfl rfl dX2_addPiece_35 rfl ?_
    refine V_iload_n C0 dX2_addPiece_38 3 rfl rfl ?_
    obtain ⟨hi39, hf⟩ := ck_inv hf
    refine V_iast (ws' := (W_C cI cJ cZ cO ac_ ct.1 (upd ct.2.1 (ct.1.toNatClampNeg) x1) (upd ct.2.2.1 (ct.1.toNatClampNeg) x2) (upd ct.2.2.2.1 (ct.1.toNatClampNeg) x3) ct.2.2.2.2.1 ct.2.2.2.2.2.1 ct.2.2.2.2.2.2.1 ct.2.2.2.2.2.2.2)) C0 3 0 rfl rfl hi39 dX2_addPiece_39 rfl rfl ?_
    refine V_aload_n C0 dX2_addPiece_40 0 rfl rfl ?_
    refine V_dup C0 dX2_addPiece_41 rfl rfl ?_
    refine V_get C0 fl_X2_addPiece_30 0 rfl rfl dX2_addPiece_42 rfl ?_
    refine V_iconst (v := 1) C0 dX2_addPiece_45 (by decide) rfl ?_
    refine V_iadd C0 dX2_addPiece_46 rfl ?_
    refine V_put (ws' := (W_C cI cJ cZ cO ac_ (ct.1 + 1) (upd ct.2.1 (ct.1.toNatClampNeg) x1) (upd ct.2.2.1 (ct.1.toNatClampNeg) x2) (upd ct.2.2.2.1 (ct.1.toNatClampNeg) x3) ct.2.2.2.2.1 ct.2.2.2.2.2.1 ct.2.2.2.2.2.2.1 ct.2.2.2.2.2.2.2)) C0 fl_X2_addPiece_30 tyX2_ok nmX2 rfl 0 rfl rfl rfl (Nat.le_of_ble_eq_true rfl) dX2_addPiece_47 rfl rfl ?_
    obtain rfl := some_inv hf
    exact V_vret C0 () trivial rfl dX2_addPiece_50
  · have hf := ite_f c6 hf
    obtain rfl := some_inv hf
    exact V_vret C0 () trivial rfl dX2_addPiece_9
abbrev RM_X2_removePiece : Room := { frames := 1, cells := 0, slots := 0, locals := 60 }
theorem in_X2_removePiece_X2 : ∀ w ∈ u_ws RX2 TX2 8, w ∈ wsX2_removePiece := by decide +kernel
theorem fl_X2_removePiece_9 : FL RX2 wsX2_removePiece 2 9 1 RX2 TX2 8 := ⟨in_X2_removePiece_X2, rfl, by decide, by decide +kernel, rfl⟩
theorem fl_X2_removePiece_15 : FL RX2 wsX2_removePiece 2 15 2 RX2 TX2 8 := ⟨in_X2_removePiece_X2, rfl, by decide, by decide +kernel, rfl⟩
theorem fl_X2_removePiece_18 : FL RX2 wsX2_removePiece 2 18 3 RX2 TX2 8 := ⟨in_X2_removePiece_X2, rfl, by decide, by decide +kernel, rfl⟩
theorem fl_X2_removePiece_30 : FL RX2 wsX2_removePiece 2 30 0 RX2 TX2 8 := ⟨in_X2_removePiece_X2, rfl, by decide, by decide +kernel, rfl⟩
set_option maxRecDepth 100000 in
set_option maxHeartbeats 4000000 in
theorem c_X2_removePiece (l : Launch) (dC : Nat → ClassId) (dI : Nat → Nat → Nat) (cI cJ cZ cO : ClassId) (ac_ : Nat → Nat) (N : Nat) (ct : CV) (x1 : Int32) (o : CV) (hf : f_X2_removePiece N ct x1 = some o) : MetV l yX2_removePiece wsX2_removePiece RM_X2_removePiece (dC, dI) (TY cI cJ cZ cO) [.ref (ac_ 0), .int x1] (W_C cI cJ cZ cO ac_ ct.1 ct.2.1 ct.2.2.1 ct.2.2.2.1 ct.2.2.2.2.1 ct.2.2.2.2.2.1 ct.2.2.2.2.2.2.1 ct.2.2.2.2.2.2.2) (fun _ : Unit => True) (fun _ => (W_C cI cJ cZ cO ac_ o.1 o.2.1 o.2.2.1 o.2.2.2.1 o.2.2.2.2.1 o.2.2.2.2.2.1 o.2.2.2.2.2.2.1 o.2.2.2.2.2.2.2)) := by
  refine MetV.ofV (cc := cX2_removePiece) (maxL := 2) (ret := none) (own := RX2) (lv0 := [(0, .ref (ac_ 0)), (1, .int x1)]) (by decide) rfl rfl (Nat.le_of_ble_eq_true rfl) rfl ?_
  intro p e s m below meth c A C0 _
  unfold f_X2_removePiece at hf
  refine V_iload_n C0 dX2_removePiece_0 1 rfl rfl ?_
  refine V_if_lt (tgt := 12) C0 dX2_removePiece_1 (by decide) rfl (fun c1 => ?_) (fun c1 => ?_)
  · have hf := ite_t c1 hf
    obtain rfl := some_inv hf
    exact V_vret C0 () trivial rfl dX2_removePiece_12
  · have hf := ite_f c1 hf
    refine V_iload_n C0 dX2_removePiece_4 1 rfl rfl ?_
    refine V_aload_n C0 dX2_removePiece_5 0 rfl rfl ?_
    refine V_get C0 fl_X2_removePiece_30 0 rfl rfl dX2_removePiece_6 rfl ?_
    refine V_icmp_lt (tgt := 13) C0 dX2_removePiece_9 (by decide) rfl (fun c9 => ?_) (fun c9 => ?_)
    · have hf := ite_t c9 hf
      refine V_aload_n C0 dX2_removePiece_13 0 rfl rfl ?_
      refine V_dup C0 dX2_removePiece_14 rfl rfl ?_
      refine V_get C0 fl_X2_removePiece_30 0 rfl rfl dX2_removePiece_15 rfl ?_
      refine V_iconst (v := 1) C0 dX2_removePiece_18 (by decide) rfl ?_
      refine V_isub C0 dX2_removePiece_19 rfl ?_
      refine V_put (ws' := (W_C cI cJ cZ cO ac_ (ct.1 - 1) ct.2.1 ct.2.2.1 ct.2.2.2.1 ct.2.2.2.2.1 ct.2.2.2.2.2.1 ct.2.2.2.2.2.2.1 ct.2.2.2.2.2.2.2)) C0 fl_X2_removePiece_30 tyX2_ok nmX2 rfl 0 rfl rfl rfl (Nat.le_of_ble_eq_true rfl) dX2_removePiece_20 rfl rfl ?_
      refine V_aload_n C0 dX2_removePiece_23 0 rfl rfl ?_
      refine V_get C0 fl_X2_removePiece_9 0 rfl rfl dX2_removePiece_24 rfl ?_
      refine V_iload_n C0 dX2_removePiece_27 1 rfl rfl ?_
      refine V_iconst (v := 1) C0 dX2_removePiece_28 (by decide) rfl ?_
      refine V_iadd C0 dX2_removePiece_29 rfl ?_
      refine V_aload_n C0 dX2_removePiece_30 0 rfl rfl ?_
      refine V_get C0 fl_X2_removePiece_9 0 rfl rfl dX2_removePiece_31 rfl ?_
      refine V_iload_n C0 dX2_removePiece_34 1 rfl rfl ?_
      refine V_aload_n C0 dX2_removePiece_35 0 rfl rfl ?_
      refine V_get C0 fl_X2_removePiece_30 0 rfl rfl dX2_removePiece_36 rfl ?_
      refine V_iload_n C0 dX2_removePiece_39 1 rfl rfl ?_
      refine V_isub C0 dX2_removePiece_40 rfl ?_
      obtain ⟨hk41, hf⟩ := ckc_inv hf
      refine V_copy (ws' := (W_C cI cJ cZ cO ac_ (ct.1 - 1) (va_cpy ct.2.1 ct.2.1 ((x1 + 1).toNatClampNeg) (x1.toNatClampNeg) (((ct.1 - 1) - x1).toNatClampNeg)) ct.2.2.1 ct.2.2.2.1 ct.2.2.2.2.1 ct.2.2.2.2.2.1 ct.2.2.2.2.2.2.1 ct.2.2.2.2.2.2.2)) C0 (index := 34) (by decide +kernel) (by decide +kernel) (by decide +kernel) (by decide +kernel) 1 1 0 rfl rfl rfl hk41 (Nat.le_of_ble_eq_true rfl) (Nat.le_of_ble_eq_true rfl) dX2_removePiece_41 rfl rfl ?_
      refine V_aload_n C0 dX2_removePiece_44 0 rfl rfl ?_
      refine V_get C0 fl_X2_removePiece_15 0 rfl rfl dX2_removePiece_45 rfl ?_
      refine V_iload_n C0 dX2_removePiece_48 1 rfl rfl ?_
      refine V_iconst (v := 1) C0 dX2_removePiece_49 (by decide) rfl ?_
      refine V_iadd C0 dX2_removePiece_50 rfl ?_
      refine V_aload_n C0 dX2_removePiece_51 0 rfl rfl ?_
      refine V_get C0 fl_X2_removePiece_15 0 rfl rfl dX2_removePiece_52 rfl ?_
      refine V_iload_n C0 dX2_removePiece_55 1 rfl rfl ?_
      refine V_aload_n C0 dX2_removePiece_56 0 rfl rfl ?_
      refine V_get C0 fl_X2_removePiece_30 0 rfl rfl dX2_removePiece_57 rfl ?_
      refine V_iload_n C0 dX2_removePiece_60 1 rfl rfl ?_
      refine V_isub C0 dX2_removePiece_61 rfl ?_
      obtain ⟨hk62, hf⟩ := ckc_inv hf
      refine V_copy (ws' := (W_C cI cJ cZ cO ac_ (ct.1 - 1) (va_cpy ct.2.1 ct.2.1 ((x1 + 1).toNatClampNeg) (x1.toNatClampNeg) (((ct.1 - 1) - x1).toNatClampNeg)) (va_cpy ct.2.2.1 ct.2.2.1 ((x1 + 1).toNatClampNeg) (x1.toNatClampNeg) (((ct.1 - 1) - x1).toNatClampNeg)) ct.2.2.2.1 ct.2.2.2.2.1 ct.2.2.2.2.2.1 ct.2.2.2.2.2.2.1 ct.2.2.2.2.2.2.2)) C0 (index := 34) (by decide +kernel) (by decide +kernel) (by decide +kernel) (by decide +kernel) 2 2 0 rfl rfl rfl hk62 (Nat.le_of_ble_eq_true rfl) (Nat.le_of_ble_eq_true rfl) dX2_removePiece_62 rfl rfl ?_
      refine V_aload_n C0 dX2_removePiece_65 0 rfl rfl ?_
      refine V_get C0 fl_X2_removePiece_18 0 rfl rfl dX2_removePiece_66 rfl ?_
      refine V_iload_n C0 dX2_removePiece_69 1 rfl rfl ?_
      refine V_iconst (v := 1) C0 dX2_removePiece_70 (by decide) rfl ?_
      refine V_iadd C0 dX2_removePiece_71 rfl ?_
      refine V_aload_n C0 dX2_removePiece_72 0 rfl rfl ?_
      refine V_get C0 fl_X2_removePiece_18 0 rfl rfl dX2_removePiece_73 rfl ?_
      refine V_iload_n C0 dX2_removePiece_76 1 rfl rfl ?_
      refine V_aload_n C0 dX2_removePiece_77 0 rfl rfl ?_
      refine V_get C0 fl_X2_removePiece_30 0 rfl rfl dX2_removePiece_78 rfl ?_
      refine V_iload_n C0 dX2_removePiece_81 1 rfl rfl ?_
      refine V_isub C0 dX2_removePiece_82 rfl ?_
      obtain ⟨hk83, hf⟩ := ckc_inv hf
      refine V_copy (ws' := (W_C cI cJ cZ cO ac_ (ct.1 - 1) (va_cpy ct.2.1 ct.2.1 ((x1 + 1).toNatClampNeg) (x1.toNatClampNeg) (((ct.1 - 1) - x1).toNatClampNeg)) (va_cpy ct.2.2.1 ct.2.2.1 ((x1 + 1).toNatClampNeg) (x1.toNatClampNeg) (((ct.1 - 1) - x1).toNatClampNeg)) (va_cpy ct.2.2.2.1 ct.2.2.2.1 ((x1 + 1).toNatClampNeg) (x1.toNatClampNeg) (((ct.1 - 1) - x1).toNatClampNeg)) ct.2.2.2.2.1 ct.2.2.2.2.2.1 ct.2.2.2.2.2.2.1 ct.2.2.2.2.2.2.2)) C0 (index := 34) (by decide +kernel) (by decide +kernel) (by decide +kernel) (by decide +kernel) 3 3 0 rfl rfl rfl hk83 (Nat.le_of_ble_eq_true rfl) (Nat.le_of_ble_eq_true rfl) dX2_removePiece_83 rfl rfl ?_
      obtain rfl := some_inv hf
      exact V_vret C0 () trivial rfl dX2_removePiece_86
    · have hf := ite_f c9 hf
      obtain rfl := some_inv hf
      exact V_vret C0 () trivial rfl dX2_removePiece_12
abbrev RM_X2_letterAt : Room := { frames := 0, cells := 0, slots := 0, locals := 0 }
theorem in_X2_letterAt_X2 : ∀ w ∈ u_ws RX2 TX2 8, w ∈ wsX2_letterAt := by decide +kernel
theorem fl_X2_letterAt_27 : FL RX2 wsX2_letterAt 2 27 7 RX2 TX2 8 := ⟨in_X2_letterAt_X2, rfl, by decide, by decide +kernel, rfl⟩
set_option maxRecDepth 100000 in
set_option maxHeartbeats 4000000 in
theorem c_X2_letterAt (l : Launch) (dC : Nat → ClassId) (dI : Nat → Nat → Nat) (cI cJ cZ cO : ClassId) (ac_ : Nat → Nat) (N : Nat) (ct : CV) (x1 : Int32) (x2 : Int32) (o : Int32) (hf : f_X2_letterAt N ct x1 x2 = some o) : MetI l yX2_letterAt wsX2_letterAt RM_X2_letterAt (dC, dI) (TY cI cJ cZ cO) [.ref (ac_ 0), .int x1, .int x2] (W_C cI cJ cZ cO ac_ ct.1 ct.2.1 ct.2.2.1 ct.2.2.2.1 ct.2.2.2.2.1 ct.2.2.2.2.2.1 ct.2.2.2.2.2.2.1 ct.2.2.2.2.2.2.2) (fun r (_ : Unit) => r = o) (fun _ => (W_C cI cJ cZ cO ac_ ct.1 ct.2.1 ct.2.2.1 ct.2.2.2.1 ct.2.2.2.2.1 ct.2.2.2.2.2.1 ct.2.2.2.2.2.2.1 ct.2.2.2.2.2.2.2)) := by
  refine MetI.ofV (cc := cX2_letterAt) (maxL := 3) (ret := (some .int)) (own := RX2) (lv0 := [(0, .ref (ac_ 0)), (1, .int x1), (2, .int x2)]) (by decide) rfl rfl (Nat.le_of_ble_eq_true rfl) rfl ?_
  intro p e s m below meth c A C0 _
  unfold f_X2_letterAt at hf
  refine V_aload_n C0 dX2_letterAt_0 0 rfl rfl ?_
  refine V_get C0 fl_X2_letterAt_27 0 rfl rfl dX2_letterAt_1 rfl ?_
  refine V_iload_n C0 dX2_letterAt_4 1 rfl rfl ?_
  refine V_bipush (v := 12) C0 dX2_letterAt_5 (by decide) rfl ?_
  refine V_imul C0 dX2_letterAt_7 rfl ?_
  refine V_iload_n C0 dX2_letterAt_8 2 rfl rfl ?_
  refine V_iadd C0 dX2_letterAt_9 rfl ?_
  obtain ⟨hi10, hf⟩ := ck_inv hf
  refine V_iald C0 6 0 rfl rfl hi10 dX2_letterAt_10 rfl ?_
  obtain rfl := some_inv hf
  exact V_iret C0 () rfl rfl dX2_letterAt_11
abbrev RM_X6_letterAt : Room := { frames := 0, cells := 0, slots := 0, locals := 0 }
theorem in_X6_letterAt_X6 : ∀ w ∈ u_ws RX6 TX6 2, w ∈ wsX6_letterAt := by decide +kernel
theorem fl_X6_letterAt_9 : FL RX6 wsX6_letterAt 6 9 1 RX6 TX6 2 := ⟨in_X6_letterAt_X6, rfl, by decide, by decide +kernel, rfl⟩
set_option maxRecDepth 100000 in
set_option maxHeartbeats 4000000 in
theorem c_X6_letterAt (l : Launch) (dC : Nat → ClassId) (dI : Nat → Nat → Nat) (cI cJ cZ cO : ClassId) (ap : Nat → Nat) (N : Nat) (pd : PV) (x1 : Int32) (o : Int32) (hf : f_X6_letterAt N pd x1 = some o) : MetI l yX6_letterAt wsX6_letterAt RM_X6_letterAt (dC, dI) (TY cI cJ cZ cO) [.ref (ap 0), .int x1] (W_P cI cJ cZ cO ap pd.1 pd.2) (fun r (_ : Unit) => r = o) (fun _ => (W_P cI cJ cZ cO ap pd.1 pd.2)) := by
  refine MetI.ofV (cc := cX6_letterAt) (maxL := 2) (ret := (some .int)) (own := RX6) (lv0 := [(0, .ref (ap 0)), (1, .int x1)]) (by decide) rfl rfl (Nat.le_of_ble_eq_true rfl) rfl ?_
  intro p e s m below meth c A C0 _
  unfold f_X6_letterAt at hf
  refine V_aload_n C0 dX6_letterAt_0 0 rfl rfl ?_
  refine V_get C0 fl_X6_letterAt_9 0 rfl rfl dX6_letterAt_1 rfl ?_
  refine V_iload_n C0 dX6_letterAt_4 1 rfl rfl ?_
  obtain ⟨hi5, hf⟩ := ck_inv hf
  refine V_iald C0 1 0 rfl rfl hi5 dX6_letterAt_5 rfl ?_
  refine V_bipush (v := 97) C0 dX6_letterAt_6 (by decide) rfl ?_
  refine V_isub C0 dX6_letterAt_8 rfl ?_
  obtain rfl := some_inv hf
  exact V_iret C0 () rfl rfl dX6_letterAt_9
abbrev RM_X2_addWord : Room := { frames := 1, cells := 0, slots := 0, locals := 21 }
theorem in_X2_addWord_X2 : ∀ w ∈ u_ws RX2 TX2 8, w ∈ wsX2_addWord := by decide +kernel
theorem in_X2_addWord_X6 : ∀ w ∈ u_ws RX6 TX6 2, w ∈ wsX2_addWord := by decide +kernel
theorem fl_X2_addWord_21 : FL RX2 wsX2_addWord 2 21 5 RX2 TX2 8 := ⟨in_X2_addWord_X2, rfl, by decide, by decide +kernel, rfl⟩
theorem fl_X2_addWord_24 : FL RX2 wsX2_addWord 2 24 6 RX2 TX2 8 := ⟨in_X2_addWord_X2, rfl, by decide, by decide +kernel, rfl⟩
theorem fl_X2_addWord_27 : FL RX2 wsX2_addWord 2 27 7 RX2 TX2 8 := ⟨in_X2_addWord_X2, rfl, by decide, by decide +kernel, rfl⟩
theorem fl_X2_addWord_40 : FL RX2 wsX2_addWord 2 40 4 RX2 TX2 8 := ⟨in_X2_addWord_X2, rfl, by decide, by decide +kernel, rfl⟩
theorem fl_X2_addWord_43 : FL RX2 wsX2_addWord 6 43 0 RX6 TX6 2 := ⟨in_X2_addWord_X6, rfl, by decide, by decide +kernel, rfl⟩
set_option maxRecDepth 100000 in
set_option maxHeartbeats 4000000 in
theorem c_X2_addWord (l : Launch) (dC : Nat → ClassId) (dI : Nat → Nat → Nat) (cI cJ cZ cO : ClassId) (ac_ : Nat → Nat) (ap : Nat → Nat) (N : Nat) (ct : CV) (pd : PV) (x2 : Int32) (o : CV) (hf : f_X2_addWord N ct pd x2 = some o) : MetV l yX2_addWord wsX2_addWord RM_X2_addWord (dC, dI) (TY cI cJ cZ cO) [.ref (ac_ 0), .ref (ap 0), .int x2] (W_C cI cJ cZ cO ac_ ct.1 ct.2.1 ct.2.2.1 ct.2.2.2.1 ct.2.2.2.2.1 ct.2.2.2.2.2.1 ct.2.2.2.2.2.2.1 ct.2.2.2.2.2.2.2 ++ (W_P cI cJ cZ cO ap pd.1 pd.2)) (fun _ : Unit => True) (fun _ => (W_C cI cJ cZ cO ac_ o.1 o.2.1 o.2.2.1 o.2.2.2.1 o.2.2.2.2.1 o.2.2.2.2.2.1 o.2.2.2.2.2.2.1 o.2.2.2.2.2.2.2 ++ (W_P cI cJ cZ cO ap pd.1 pd.2))) := by
  refine MetV.ofV (cc := cX2_addWord) (maxL := 4) (ret := none) (own := RX2) (lv0 := [(0, .ref (ac_ 0)), (1, .ref (ap 0)), (2, .int x2)]) (by decide) rfl rfl (Nat.le_of_ble_eq_true rfl) rfl ?_
  intro p e s m below meth c A C0 _
  unfold f_X2_addWord at hf
  refine V_aload_n C0 dX2_addWord_0 0 rfl rfl ?_
  refine V_get C0 fl_X2_addWord_40 0 rfl rfl dX2_addWord_1 rfl ?_
  refine V_bipush (v := 8) C0 dX2_addWord_4 (by decide) rfl ?_
  refine V_icmp_ge (tgt := 18) C0 dX2_addWord_6 (by decide) rfl (fun c6 => ?_) (fun c6 => ?_)
  · have hf := ite_t c6 hf
    obtain rfl := some_inv hf
    exact V_vret C0 () trivial rfl dX2_addWord_18
  · have hf := ite_f c6 hf
    refine V_aload_n C0 dX2_addWord_9 1 rfl rfl ?_
    refine V_get C0 fl_X2_addWord_43 7 rfl rfl dX2_addWord_10 rfl ?_
    refine V_bipush (v := 12) C0 dX2_addWord_13 (by decide) rfl ?_
    refine V_icmp_le (tgt := 19) C0 dX2_addWord_15 (by decide) rfl (fun c15 => ?_) (fun c15 => ?_)
    · have hf := ite_t c15 hf
      refine V_iconst (v := 0) C0 dX2_addWord_19 (by decide) rfl ?_
      refine V_istore_n (lv' := [(3, .int 0), (0, .ref (ac_ 0)), (1, .ref (ap 0)), (2, .int x2)]) C0 dX2_addWord_20 rfl (by decide) rfl rfl ?_
      have hL21 : ∀ (K : CV → Option (CV)), (∀ (ct : CV), K ct = some o → V p l e RM_X2_addWord s m ([.ref (ac_ 0), .ref (ap 0), .int x2] : List Value).toArray below meth c 4 (dC, dI) A (MQ below (va_Qv (fun _ : Unit => True) (PostW (dC, dI) (TY cI cJ cZ cO) A (fun _ => (W_C cI cJ cZ cO ac_ o.1 o.2.1 o.2.2.1 o.2.2.2.1 o.2.2.2.2.1 o.2.2.2.2.2.1 o.2.2.2.2.2.2.1 o.2.2.2.2.2.2.2 ++ (W_P cI cJ cZ cO ap pd.1 pd.2)))) A) ([.ref (ac_ 0), .ref (ap 0), .int x2] : List Value).toArray s 0 0 A) 0 0 (W_C cI cJ cZ cO ac_ ct.1 ct.2.1 ct.2.2.1 ct.2.2.2.1 ct.2.2.2.2.1 ct.2.2.2.2.2.1 ct.2.2.2.2.2.2.1 ct.2.2.2.2.2.2.2 ++ (W_P cI cJ cZ cO ap pd.1 pd.2)) 54 [(0, .ref (ac_ 0)), (1, .ref (ap 0)), (2, .int x2)] []) → ∀ (n : Nat) (x3 : Int32) (ct : CV), f_X2_addWord_L21 N pd x2  K n x3 ct = some o → V p l e RM_X2_addWord s m ([.ref (ac_ 0), .ref (ap 0), .int x2] : List Value).toArray below meth c 4 (dC, dI) A (MQ below (va_Qv (fun _ : Unit => True) (PostW (dC, dI) (TY cI cJ cZ cO) A (fun _ => (W_C cI cJ cZ cO ac_ o.1 o.2.1 o.2.2.1 o.2.2.2.1 o.2.2.2.2.1 o.2.2.2.2.2.1 o.2.2.2.2.2.2.1 o.2.2.2.2.2.2.2 ++ (W_P cI cJ cZ cO ap pd.1 pd.2)))) A) ([.ref (ac_ 0), .ref (ap 0), .int x2] : List Value).toArray s 0 0 A) 0 0 (W_C cI cJ cZ cO ac_ ct.1 ct.2.1 ct.2.2.1 ct.2.2.2.1 ct.2.2.2.2.1 ct.2.2.2.2.2.1 ct.2.2.2.2.2.2.1 ct.2.2.2.2.2.2.2 ++ (W_P cI cJ cZ cO ap pd.1 pd.2)) 21 [(0, .ref (ac_ 0)), (1, .ref (ap 0)), (2, .int x2), (3, .int x3)] [] := by
        intro  K hK n
        induction n with
        | zero => intro x3 ct hf; cases hf
        | succ n hREC =>
          intro x3 ct hf
          rw [f_X2_addWord_L21] at hf
          refine V_iload_n C0 dX2_addWord_21 3 rfl rfl ?_
          refine V_aload_n C0 dX2_addWord_22 1 rfl rfl ?_
          refine V_get C0 fl_X2_addWord_43 7 rfl rfl dX2_addWord_23 rfl ?_
          refine V_icmp_ge (tgt := 54) C0 dX2_addWord_26 (by decide) rfl (fun c26 => ?_) (fun c26 => ?_)
          · have hf := ite_t c26 hf
            exact V.sub [0, 1, 2] rfl (hK ct hf)
          · have hf := ite_f c26 hf
            refine V_aload_n C0 dX2_addWord_29 0 rfl rfl ?_
            refine V_get C0 fl_X2_addWord_27 0 rfl rfl dX2_addWord_30 rfl ?_
            refine V_aload_n C0 dX2_addWord_33 0 rfl rfl ?_
            refine V_get C0 fl_X2_addWord_40 0 rfl rfl dX2_addWord_34 rfl ?_
            refine V_bipush (v := 12) C0 dX2_addWord_37 (by decide) rfl ?_
            refine V_imul C0 dX2_addWord_39 rfl ?_
            refine V_iload_n C0 dX2_addWord_40 3 rfl rfl ?_
            refine V_iadd C0 dX2_addWord_41 rfl ?_
            refine V_aload_n C0 dX2_addWord_42 1 rfl rfl ?_
            refine V_iload_n C0 dX2_addWord_43 3 rfl rfl ?_
            obtain ⟨r_44, hc_44, hf⟩ := bind_inv hf
            refine V_cVI (ws' := (W_C cI cJ cZ cO ac_ ct.1 ct.2.1 ct.2.2.1 ct.2.2.2.1 ct.2.2.2.2.1 ct.2.2.2.2.2.1 ct.2.2.2.2.2.2.1 ct.2.2.2.2.2.2.2 ++ (W_P cI cJ cZ cO ap pd.1 pd.2))) (As := [.int x3]) (b := ap 0) (st := [.int ((ct.2.2.2.2.1 * 12) + x3), .ref (ac_ 6)]) C0 (c_X6_letterAt l dC dI cI cJ cZ cO ap N pd x3 r_44 hc_44) rfl 1 gX2_addWord_X6_letterAt (by decide +kernel) ⟨Nat.le_of_ble_eq_true rfl, Nat.le_of_ble_eq_true rfl⟩ rfl 7 6 rfl rfl  ⟨_, (pr pt1), fun _ => (pr pt1)⟩ rfl (Nat.le_of_ble_eq_true rfl) dX2_addWord_44 rfl ⟨Nat.zero_le _, Nat.zero_le _⟩ ?_
            obtain ⟨hi47, hf⟩ := ck_inv hf
            refine V_iast (ws' := (W_C cI cJ cZ cO ac_ ct.1 ct.2.1 ct.2.2.1 ct.2.2.2.1 ct.2.2.2.2.1 ct.2.2.2.2.2.1 ct.2.2.2.2.2.2.1 (upd ct.2.2.2.2.2.2.2 (((ct.2.2.2.2.1 * 12) + x3).toNatClampNeg) r_44) ++ (W_P cI cJ cZ cO ap pd.1 pd.2))) C0 6 0 rfl rfl hi47 dX2_addWord_47 rfl rfl ?_
            refine V_iinc (k := 3) (v := x3 + 1) (lv' := [(3, .int (x3 + 1)), (0, .ref (ac_ 0)), (1, .ref (ap 0)), (2, .int x2)]) C0 dX2_addWord_48 rfl rfl (by decide) rfl rfl ?_
            refine V_goto (tgt := 21) C0 dX2_addWord_51 (by decide) ?_
            exact V.sub [1, 2, 3, 0] rfl (hREC (x3 + 1) ((ct.1, ct.2.1, ct.2.2.1, ct.2.2.2.1, ct.2.2.2.2.1, ct.2.2.2.2.2.1, ct.2.2.2.2.2.2.1, upd ct.2.2.2.2.2.2.2 (((ct.2.2.2.2.1 * 12) + x3).toNatClampNeg) r_44)) hf)
      refine V.sub [1, 2, 3, 0] rfl (hL21  _ ?_ N 0 ct hf)
      intro ct_21 hf
      refine V_aload_n C0 dX2_addWord_54 0 rfl rfl ?_
      refine V_get C0 fl_X2_addWord_21 0 rfl rfl dX2_addWord_55 rfl ?_
      refine V_aload_n C0 dX2_addWord_58 0 rfl rfl ?_
      refine V_get C0 fl_X2_addWord_40 0 rfl rfl dX2_addWord_59 rfl ?_
      refine V_aload_n C0 dX2_addWord_62 1 rfl rfl ?_
      refine V_get C0 fl_X2_addWord_43 7 rfl rfl dX2_addWord_63 rfl ?_
      obtain ⟨hi66, hf⟩ := ck_inv hf
      refine V_iast (ws' := (W_C cI cJ cZ cO ac_ ct_21.1 ct_21.2.1 ct_21.2.2.1 ct_21.2.2.2.1 ct_21.2.2.2.2.1 (upd ct_21.2.2.2.2.2.1 (ct_21.2.2.2.2.1.toNatClampNeg) pd.1) ct_21.2.2.2.2.2.2.1 ct_21.2.2.2.2.2.2.2 ++ (W_P cI cJ cZ cO ap pd.1 pd.2))) C0 4 0 rfl rfl hi66 dX2_addWord_66 rfl rfl ?_
      refine V_aload_n C0 dX2_addWord_67 0 rfl rfl ?_
      refine V_get C0 fl_X2_addWord_24 0 rfl rfl dX2_addWord_68 rfl ?_
      refine V_aload_n C0 dX2_addWord_71 0 rfl rfl ?_
      refine V_get C0 fl_X2_addWord_40 0 rfl rfl dX2_addWord_72 rfl ?_
      refine V_iload_n C0 dX2_addWord_75 2 rfl rfl ?_
      obtain ⟨hi76, hf⟩ := ck_inv hf
      refine V_iast (ws' := (W_C cI cJ cZ cO ac_ ct_21.1 ct_21.2.1 ct_21.2.2.1 ct_21.2.2.2.1 ct_21.2.2.2.2.1 (upd ct_21.2.2.2.2.2.1 (ct_21.2.2.2.2.1.toNatClampNeg) pd.1) (upd ct_21.2.2.2.2.2.2.1 (ct_21.2.2.2.2.1.toNatClampNeg) x2) ct_21.2.2.2.2.2.2.2 ++ (W_P cI cJ cZ cO ap pd.1 pd.2))) C0 5 0 rfl rfl hi76 dX2_addWord_76 rfl rfl ?_
      refine V_aload_n C0 dX2_addWord_77 0 rfl rfl ?_
      refine V_dup C0 dX2_addWord_78 rfl rfl ?_
      refine V_get C0 fl_X2_addWord_40 0 rfl rfl dX2_addWord_79 rfl ?_
      refine V_iconst (v := 1) C0 dX2_addWord_82 (by decide) rfl ?_
      refine V_iadd C0 dX2_addWord_83 rfl ?_
      refine V_put (ws' := (W_C cI cJ cZ cO ac_ ct_21.1 ct_21.2.1 ct_21.2.2.1 ct_21.2.2.2.1 (ct_21.2.2.2.2.1 + 1) (upd ct_21.2.2.2.2.2.1 (ct_21.2.2.2.2.1.toNatClampNeg) pd.1) (upd ct_21.2.2.2.2.2.2.1 (ct_21.2.2.2.2.1.toNatClampNeg) x2) ct_21.2.2.2.2.2.2.2 ++ (W_P cI cJ cZ cO ap pd.1 pd.2))) C0 fl_X2_addWord_40 tyX2_ok nmX2 rfl 0 rfl rfl rfl (Nat.le_of_ble_eq_true rfl) dX2_addWord_84 rfl rfl ?_
      obtain rfl := some_inv hf
      exact V_vret C0 () trivial rfl dX2_addWord_87
    · have hf := ite_f c15 hf
      obtain rfl := some_inv hf
      exact V_vret C0 () trivial rfl dX2_addWord_18
abbrev RM_X2_removeWord : Room := { frames := 1, cells := 0, slots := 0, locals := 60 }
theorem in_X2_removeWord_X2 : ∀ w ∈ u_ws RX2 TX2 8, w ∈ wsX2_removeWord := by decide +kernel
theorem fl_X2_removeWord_21 : FL RX2 wsX2_removeWord 2 21 5 RX2 TX2 8 := ⟨in_X2_removeWord_X2, rfl, by decide, by decide +kernel, rfl⟩
theorem fl_X2_removeWord_24 : FL RX2 wsX2_removeWord 2 24 6 RX2 TX2 8 := ⟨in_X2_removeWord_X2, rfl, by decide, by decide +kernel, rfl⟩
theorem fl_X2_removeWord_27 : FL RX2 wsX2_removeWord 2 27 7 RX2 TX2 8 := ⟨in_X2_removeWord_X2, rfl, by decide, by decide +kernel, rfl⟩
theorem fl_X2_removeWord_40 : FL RX2 wsX2_removeWord 2 40 4 RX2 TX2 8 := ⟨in_X2_removeWord_X2, rfl, by decide, by decide +kernel, rfl⟩
set_option maxRecDepth 100000 in
set_option maxHeartbeats 4000000 in
theorem c_X2_removeWord (l : Launch) (dC : Nat → ClassId) (dI : Nat → Nat → Nat) (cI cJ cZ cO : ClassId) (ac_ : Nat → Nat) (N : Nat) (ct : CV) (x1 : Int32) (o : CV) (hf : f_X2_removeWord N ct x1 = some o) : MetV l yX2_removeWord wsX2_removeWord RM_X2_removeWord (dC, dI) (TY cI cJ cZ cO) [.ref (ac_ 0), .int x1] (W_C cI cJ cZ cO ac_ ct.1 ct.2.1 ct.2.2.1 ct.2.2.2.1 ct.2.2.2.2.1 ct.2.2.2.2.2.1 ct.2.2.2.2.2.2.1 ct.2.2.2.2.2.2.2) (fun _ : Unit => True) (fun _ => (W_C cI cJ cZ cO ac_ o.1 o.2.1 o.2.2.1 o.2.2.2.1 o.2.2.2.2.1 o.2.2.2.2.2.1 o.2.2.2.2.2.2.1 o.2.2.2.2.2.2.2)) := by
  refine MetV.ofV (cc := cX2_removeWord) (maxL := 3) (ret := none) (own := RX2) (lv0 := [(0, .ref (ac_ 0)), (1, .int x1)]) (by decide) rfl rfl (Nat.le_of_ble_eq_true rfl) rfl ?_
  intro p e s m below meth c A C0 _
  unfold f_X2_removeWord at hf
  refine V_iload_n C0 dX2_removeWord_0 1 rfl rfl ?_
  refine V_if_lt (tgt := 12) C0 dX2_removeWord_1 (by decide) rfl (fun c1 => ?_) (fun c1 => ?_)
  · have hf := ite_t c1 hf
    obtain rfl := some_inv hf
    exact V_vret C0 () trivial rfl dX2_removeWord_12
  · have hf := ite_f c1 hf
    refine V_iload_n C0 dX2_removeWord_4 1 rfl rfl ?_
    refine V_aload_n C0 dX2_removeWord_5 0 rfl rfl ?_
    refine V_get C0 fl_X2_removeWord_40 0 rfl rfl dX2_removeWord_6 rfl ?_
    refine V_icmp_lt (tgt := 13) C0 dX2_removeWord_9 (by decide) rfl (fun c9 => ?_) (fun c9 => ?_)
    · have hf := ite_t c9 hf
      refine V_aload_n C0 dX2_removeWord_13 0 rfl rfl ?_
      refine V_dup C0 dX2_removeWord_14 rfl rfl ?_
      refine V_get C0 fl_X2_removeWord_40 0 rfl rfl dX2_removeWord_15 rfl ?_
      refine V_iconst (v := 1) C0 dX2_removeWord_18 (by decide) rfl ?_
      refine V_isub C0 dX2_removeWord_19 rfl ?_
      refine V_put (ws' := (W_C cI cJ cZ cO ac_ ct.1 ct.2.1 ct.2.2.1 ct.2.2.2.1 (ct.2.2.2.2.1 - 1) ct.2.2.2.2.2.1 ct.2.2.2.2.2.2.1 ct.2.2.2.2.2.2.2)) C0 fl_X2_removeWord_40 tyX2_ok nmX2 rfl 0 rfl rfl rfl (Nat.le_of_ble_eq_true rfl) dX2_removeWord_20 rfl rfl ?_
      refine V_aload_n C0 dX2_removeWord_23 0 rfl rfl ?_
      refine V_get C0 fl_X2_removeWord_40 0 rfl rfl dX2_removeWord_24 rfl ?_
      refine V_iload_n C0 dX2_removeWord_27 1 rfl rfl ?_
      refine V_isub C0 dX2_removeWord_28 rfl ?_
      refine V_topi (fun x2_1 ex2_1 => ?_)
      have hf := bd_inv ex2_1 hf
      refine V_istore_n (lv' := [(2, .int x2_1), (0, .ref (ac_ 0)), (1, .int x1)]) C0 dX2_removeWord_29 rfl (by decide) rfl rfl ?_
      refine V_aload_n C0 dX2_removeWord_30 1 rfl rfl ?_
      refine V_get C0 fl_X2_removeWord_21 0 rfl rfl dX2_removeWord_31 rfl ?_
      refine V_iload_n C0 dX2_removeWord_34 2 rfl rfl ?_
      refine V_iconst (v := 1) C0 dX2_removeWord_35 (by decide) rfl ?_
      refine V_iadd C0 dX2_removeWord_36 rfl ?_
      refine V_aload_n C0 dX2_removeWord_37 1 rfl rfl ?_
      refine V_get C0 fl_X2_removeWord_21 0 rfl rfl dX2_removeWord_38 rfl ?_
      refine V_iload_n C0 dX2_removeWord_41 2 rfl rfl ?_
      refine V_iload_n C0 dX2_removeWord_42 0 rfl rfl ?_
      obtain ⟨hk43, hf⟩ := ckc_inv hf
      refine V_copy (ws' := (W_C cI cJ cZ cO ac_ ct.1 ct.2.1 ct.2.2.1 ct.2.2.2.1 (ct.2.2.2.2.1 - 1) (va_cpy ct.2.2.2.2.2.1 ct.2.2.2.2.2.1 ((x1 + 1).toNatClampNeg) (x1.toNatClampNeg) (x2_1.toNatClampNeg)) ct.2.2.2.2.2.2.1 ct.2.2.2.2.2.2.2)) C0 (index := 34) (by decide +kernel) (by decide +kernel) (by decide +kernel) (by decide +kernel) 4 4 0 rfl rfl rfl hk43 (Nat.le_of_ble_eq_true rfl) (Nat.le_of_ble_eq_true rfl) dX2_removeWord_43 rfl rfl ?_
      refine V_aload_n C0 dX2_removeWord_46 1 rfl rfl ?_
      refine V_get C0 fl_X2_removeWord_24 0 rfl rfl dX2_removeWord_47 rfl ?_
      refine V_iload_n C0 dX2_removeWord_50 2 rfl rfl ?_
      refine V_iconst (v := 1) C0 dX2_removeWord_51 (by decide) rfl ?_
      refine V_iadd C0 dX2_removeWord_52 rfl ?_
      refine V_aload_n C0 dX2_removeWord_53 1 rfl rfl ?_
      refine V_get C0 fl_X2_removeWord_24 0 rfl rfl dX2_removeWord_54 rfl ?_
      refine V_iload_n C0 dX2_removeWord_57 2 rfl rfl ?_
      refine V_iload_n C0 dX2_removeWord_58 0 rfl rfl ?_
      obtain ⟨hk59, hf⟩ := ckc_inv hf
      refine V_copy (ws' := (W_C cI cJ cZ cO ac_ ct.1 ct.2.1 ct.2.2.1 ct.2.2.2.1 (ct.2.2.2.2.1 - 1) (va_cpy ct.2.2.2.2.2.1 ct.2.2.2.2.2.1 ((x1 + 1).toNatClampNeg) (x1.toNatClampNeg) (x2_1.toNatClampNeg)) (va_cpy ct.2.2.2.2.2.2.1 ct.2.2.2.2.2.2.1 ((x1 + 1).toNatClampNeg) (x1.toNatClampNeg) (x2_1.toNatClampNeg)) ct.2.2.2.2.2.2.2)) C0 (index := 34) (by decide +kernel) (by decide +kernel) (by decide +kernel) (by decide +kernel) 5 5 0 rfl rfl rfl hk59 (Nat.le_of_ble_eq_true rfl) (Nat.le_of_ble_eq_true rfl) dX2_removeWord_59 rfl rfl ?_
      refine V_aload_n C0 dX2_removeWord_62 1 rfl rfl ?_
      refine V_get C0 fl_X2_removeWord_27 0 rfl rfl dX2_removeWord_63 rfl ?_
      refine V_iload_n C0 dX2_removeWord_66 2 rfl rfl ?_
      refine V_iconst (v := 1) C0 dX2_removeWord_67 (by decide) rfl ?_
      refine V_iadd C0 dX2_removeWord_68 rfl ?_
      refine V_bipush (v := 12) C0 dX2_removeWord_69 (by decide) rfl ?_
      refine V_imul C0 dX2_removeWord_71 rfl ?_
      refine V_aload_n C0 dX2_removeWord_72 1 rfl rfl ?_
      refine V_get C0 fl_X2_removeWord_27 0 rfl rfl dX2_removeWord_73 rfl ?_
      refine V_iload_n C0 dX2_removeWord_76 2 rfl rfl ?_
      refine V_bipush (v := 12) C0 dX2_removeWord_77 (by decide) rfl ?_
      refine V_imul C0 dX2_removeWord_79 rfl ?_
      refine V_iload_n C0 dX2_removeWord_80 0 rfl rfl ?_
      refine V_bipush (v := 12) C0 dX2_removeWord_81 (by decide) rfl ?_
      refine V_imul C0 dX2_removeWord_83 rfl ?_
      obtain ⟨hk84, hf⟩ := ckc_inv hf
      refine V_copy (ws' := (W_C cI cJ cZ cO ac_ ct.1 ct.2.1 ct.2.2.1 ct.2.2.2.1 (ct.2.2.2.2.1 - 1) (va_cpy ct.2.2.2.2.2.1 ct.2.2.2.2.2.1 ((x1 + 1).toNatClampNeg) (x1.toNatClampNeg) (x2_1.toNatClampNeg)) (va_cpy ct.2.2.2.2.2.2.1 ct.2.2.2.2.2.2.1 ((x1 + 1).toNatClampNeg) (x1.toNatClampNeg) (x2_1.toNatClampNeg)) (va_cpy ct.2.2.2.2.2.2.2 ct.2.2.2.2.2.2.2 (((x1 + 1) * 12).toNatClampNeg) ((x1 * 12).toNatClampNeg) ((x2_1 * 12).toNatClampNeg)))) C0 (index := 34) (by decide +kernel) (by decide +kernel) (by decide +kernel) (by decide +kernel) 6 6 0 rfl rfl rfl hk84 (Nat.le_of_ble_eq_true rfl) (Nat.le_of_ble_eq_true rfl) dX2_removeWord_84 rfl rfl ?_
      obtain rfl := some_inv hf
      exact V_vret C0 () trivial rfl dX2_removeWord_87
    · have hf := ite_f c9 hf
      obtain rfl := some_inv hf
      exact V_vret C0 () trivial rfl dX2_removeWord_12
abbrev RM_X6_append : Room := { frames := 0, cells := 0, slots := 0, locals := 0 }
theorem in_X6_append_X6 : ∀ w ∈ u_ws RX6 TX6 2, w ∈ wsX6_append := by decide +kernel
theorem fl_X6_append_9 : FL RX6 wsX6_append 6 9 1 RX6 TX6 2 := ⟨in_X6_append_X6, rfl, by decide, by decide +kernel, rfl⟩
theorem fl_X6_append_15 : FL RX6 wsX6_append 6 15 0 RX6 TX6 2 := ⟨in_X6_append_X6, rfl, by decide, by decide +kernel, rfl⟩
set_option maxRecDepth 100000 in
set_option maxHeartbeats 4000000 in
theorem c_X6_append (l : Launch) (dC : Nat → ClassId) (dI : Nat → Nat → Nat) (cI cJ cZ cO : ClassId) (ap : Nat → Nat) (N : Nat) (pd : PV) (x1 : Int32) (o : PV) (hf : f_X6_append N pd x1 = some o) : MetV l yX6_append wsX6_append RM_X6_append (dC, dI) (TY cI cJ cZ cO) [.ref (ap 0), .int x1] (W_P cI cJ cZ cO ap pd.1 pd.2) (fun _ : Unit => True) (fun _ => (W_P cI cJ cZ cO ap o.1 o.2)) := by
  refine MetV.ofV (cc := cX6_append) (maxL := 2) (ret := none) (own := RX6) (lv0 := [(0, .ref (ap 0)), (1, .int x1)]) (by decide) rfl rfl (Nat.le_of_ble_eq_true rfl) rfl ?_
  intro p e s m below meth c A C0 _
  unfold f_X6_append at hf
  refine V_aload_n C0 dX6_append_0 0 rfl rfl ?_
  refine V_get C0 fl_X6_append_15 0 rfl rfl dX6_append_1 rfl ?_
  refine V_bipush (v := 16) C0 dX6_append_4 (by decide) rfl ?_
  refine V_icmp_lt (tgt := 10) C0 dX6_append_6 (by decide) rfl (fun c6 => ?_) (fun c6 => ?_)
  · have hf := ite_t c6 hf
    refine V_aload_n C0 dX6_append_10 0 rfl rfl ?_
    refine V_get C0 fl_X6_append_9 0 rfl rfl dX6_append_11 rfl ?_
    refine V_aload_n C0 dX6_append_14 0 rfl rfl ?_
    refine V_get C0 fl_X6_append_15 0 rfl rfl dX6_append_15 rfl ?_
    refine V_iload_n C0 dX6_append_18 1 rfl rfl ?_
    obtain ⟨hi19, hf⟩ := ck_inv hf
    refine V_iast (ws' := (W_P cI cJ cZ cO ap pd.1 (upd pd.2 (pd.1.toNatClampNeg) x1))) C0 1 0 rfl rfl hi19 dX6_append_19 rfl rfl ?_
    refine V_aload_n C0 dX6_append_20 0 rfl rfl ?_
    refine V_dup C0 dX6_append_21 rfl rfl ?_
    refine V_get C0 fl_X6_append_15 0 rfl rfl dX6_append_22 rfl ?_
    refine V_iconst (v := 1) C0 dX6_append_25 (by decide) rfl ?_
    refine V_iadd C0 dX6_append_26 rfl ?_
    refine V_put (ws' := (W_P cI cJ cZ cO ap (pd.1 + 1) (upd pd.2 (pd.1.toNatClampNeg) x1))) C0 fl_X6_append_15 tyX6_ok nmX6 rfl 0 rfl rfl rfl (Nat.le_of_ble_eq_true rfl) dX6_append_27 rfl rfl ?_
    obtain rfl := some_inv hf
    exact V_vret C0 () trivial rfl dX6_append_30
  · have hf := ite_f c6 hf
    obtain rfl := some_inv hf
    exact V_vret C0 () trivial rfl dX6_append_9
abbrev RM_X6_firstNoLetter : Room := { frames := 1, cells := 0, slots := 0, locals := 21 }
theorem in_X6_firstNoLetter_X6 : ∀ w ∈ u_ws RX6 TX6 2, w ∈ wsX6_firstNoLetter := by decide +kernel
theorem fl_X6_firstNoLetter_15 : FL RX6 wsX6_firstNoLetter 6 15 0 RX6 TX6 2 := ⟨in_X6_firstNoLetter_X6, rfl, by decide, by decide +kernel, rfl⟩
set_option maxRecDepth 100000 in
set_option maxHeartbeats 4000000 in
theorem c_X6_firstNoLetter (l : Launch) (dC : Nat → ClassId) (dI : Nat → Nat → Nat) (cI cJ cZ cO : ClassId) (ap : Nat → Nat) (N : Nat) (pd : PV) (o : Int32) (hf : f_X6_firstNoLetter N pd = some o) : MetI l yX6_firstNoLetter wsX6_firstNoLetter RM_X6_firstNoLetter (dC, dI) (TY cI cJ cZ cO) [.ref (ap 0)] (W_P cI cJ cZ cO ap pd.1 pd.2) (fun r (_ : Unit) => r = o) (fun _ => (W_P cI cJ cZ cO ap pd.1 pd.2)) := by
  refine MetI.ofV (cc := cX6_firstNoLetter) (maxL := 2) (ret := (some .int)) (own := RX6) (lv0 := [(0, .ref (ap 0))]) (by decide) rfl rfl (Nat.le_of_ble_eq_true rfl) rfl ?_
  intro p e s m below meth c A C0 _
  unfold f_X6_firstNoLetter at hf
  refine V_iconst (v := 0) C0 dX6_firstNoLetter_0 (by decide) rfl ?_
  refine V_istore_n (lv' := [(1, .int 0), (0, .ref (ap 0))]) C0 dX6_firstNoLetter_1 rfl (by decide) rfl rfl ?_
  have hL2 : ∀ (K : Int32 → Option (Int32)), (∀ (x1 : Int32), K x1 = some o → V p l e RM_X6_firstNoLetter s m ([.ref (ap 0)] : List Value).toArray below meth c 2 (dC, dI) A (MQ below (va_Qi (fun r (_ : Unit) => r = o) (PostW (dC, dI) (TY cI cJ cZ cO) A (fun _ => (W_P cI cJ cZ cO ap pd.1 pd.2))) A) ([.ref (ap 0)] : List Value).toArray s 0 0 A) 0 0 (W_P cI cJ cZ cO ap pd.1 pd.2) 34 [(1, .int x1)] []) → ∀ (n : Nat) (x1 : Int32), f_X6_firstNoLetter_L2 N pd  K n x1 = some o → V p l e RM_X6_firstNoLetter s m ([.ref (ap 0)] : List Value).toArray below meth c 2 (dC, dI) A (MQ below (va_Qi (fun r (_ : Unit) => r = o) (PostW (dC, dI) (TY cI cJ cZ cO) A (fun _ => (W_P cI cJ cZ cO ap pd.1 pd.2))) A) ([.ref (ap 0)] : List Value).toArray s 0 0 A) 0 0 (W_P cI cJ cZ cO ap pd.1 pd.2) 2 [(0, .ref (ap 0)), (1, .int x1)] [] := by
    intro  K hK n
    induction n with
    | zero => intro x1 hf; cases hf
    | succ n hREC =>
      intro x1 hf
      rw [f_X6_firstNoLetter_L2] at hf
      refine V_iload_n C0 dX6_firstNoLetter_2 1 rfl rfl ?_
      refine V_aload_n C0 dX6_firstNoLetter_3 0 rfl rfl ?_
      refine V_get C0 fl_X6_firstNoLetter_15 0 rfl rfl dX6_firstNoLetter_4 rfl ?_
      refine V_icmp_ge (tgt := 34) C0 dX6_firstNoLetter_7 (by decide) rfl (fun c7 => ?_) (fun c7 => ?_)
      · have hf := ite_t c7 hf
        exact V.sub [1] rfl (hK x1 hf)
      · have hf := ite_f c7 hf
        refine V_aload_n C0 dX6_firstNoLetter_10 0 rfl rfl ?_
        refine V_iload_n C0 dX6_firstNoLetter_11 1 rfl rfl ?_
        obtain ⟨r_12, hc_12, hf⟩ := bind_inv hf
        refine V_cVI (ws' := (W_P cI cJ cZ cO ap pd.1 pd.2)) (As := [.int x1]) (b := ap 0) (st := []) C0 (c_X6_letterAt l dC dI cI cJ cZ cO ap N pd x1 r_12 hc_12) rfl 1 gX6_firstNoLetter_X6_letterAt (by decide +kernel) ⟨Nat.le_of_ble_eq_true rfl, Nat.le_of_ble_eq_true rfl⟩ rfl 0 6 rfl rfl  Cut.all rfl (Nat.le_of_ble_eq_true rfl) dX6_firstNoLetter_12 rfl ⟨Nat.zero_le _, Nat.zero_le _⟩ ?_
        refine V_if_lt (tgt := 34) C0 dX6_firstNoLetter_15 (by decide) rfl (fun c15 => ?_) (fun c15 => ?_)
        · have hf := ite_t c15 hf
          exact V.sub [1] rfl (hK x1 hf)
        · have hf := ite_f c15 hf
          refine V_aload_n C0 dX6_firstNoLetter_18 0 rfl rfl ?_
          refine V_iload_n C0 dX6_firstNoLetter_19 1 rfl rfl ?_
          obtain ⟨r_20, hc_20, hf⟩ := bind_inv hf
          refine V_cVI (ws' := (W_P cI cJ cZ cO ap pd.1 pd.2)) (As := [.int x1]) (b := ap 0) (st := []) C0 (c_X6_letterAt l dC dI cI cJ cZ cO ap N pd x1 r_20 hc_20) rfl 1 gX6_firstNoLetter_X6_letterAt (by decide +kernel) ⟨Nat.le_of_ble_eq_true rfl, Nat.le_of_ble_eq_true rfl⟩ rfl 0 6 rfl rfl  Cut.all rfl (Nat.le_of_ble_eq_true rfl) dX6_firstNoLetter_20 rfl ⟨Nat.zero_le _, Nat.zero_le _⟩ ?_
          refine V_bipush (v := 6) C0 dX6_firstNoLetter_23 (by decide) rfl ?_
          refine V_icmp_ge (tgt := 34) C0 dX6_firstNoLetter_25 (by decide) rfl (fun c25 => ?_) (fun c25 => ?_)
          · have hf := ite_t c25 hf
            exact V.sub [1] rfl (hK x1 hf)
          · have hf := ite_f c25 hf
            refine V_iinc (k := 1) (v := x1 + 1) (lv' := [(1, .int (x1 + 1)), (0, .ref (ap 0))]) C0 dX6_firstNoLetter_28 rfl rfl (by decide) rfl rfl ?_
            refine V_goto (tgt := 2) C0 dX6_firstNoLetter_31 (by decide) ?_
            exact V.sub [1, 0] rfl (hREC (x1 + 1) hf)
  refine V.sub [1, 0] rfl (hL2  _ ?_ N 0 hf)
  intro x1_2 hf
  refine V_iload_n C0 dX6_firstNoLetter_34 0 rfl rfl ?_
  obtain rfl := some_inv hf
  exact V_iret C0 () rfl rfl dX6_firstNoLetter_35
abbrev RM_X6_holdsLetters : Room := { frames := 2, cells := 0, slots := 0, locals := 42 }
theorem in_X6_holdsLetters_X6 : ∀ w ∈ u_ws RX6 TX6 2, w ∈ wsX6_holdsLetters := by decide +kernel
theorem fl_X6_holdsLetters_15 : FL RX6 wsX6_holdsLetters 6 15 0 RX6 TX6 2 := ⟨in_X6_holdsLetters_X6, rfl, by decide, by decide +kernel, rfl⟩
set_option maxRecDepth 100000 in
set_option maxHeartbeats 4000000 in
theorem c_X6_holdsLetters (l : Launch) (dC : Nat → ClassId) (dI : Nat → Nat → Nat) (cI cJ cZ cO : ClassId) (ap : Nat → Nat) (N : Nat) (pd : PV) (x1 : Int32) (o : Int32) (hf : f_X6_holdsLetters N pd x1 = some o) : MetI l yX6_holdsLetters wsX6_holdsLetters RM_X6_holdsLetters (dC, dI) (TY cI cJ cZ cO) [.ref (ap 0), .int x1] (W_P cI cJ cZ cO ap pd.1 pd.2) (fun r (_ : Unit) => r = o) (fun _ => (W_P cI cJ cZ cO ap pd.1 pd.2)) := by
  refine MetI.ofV (cc := cX6_holdsLetters) (maxL := 2) (ret := (some .boolean)) (own := RX6) (lv0 := [(0, .ref (ap 0)), (1, .int x1)]) (by decide) rfl rfl (Nat.le_of_ble_eq_true rfl) rfl ?_
  intro p e s m below meth c A C0 _
  unfold f_X6_holdsLetters at hf
  refine V_aload_n C0 dX6_holdsLetters_0 0 rfl rfl ?_
  refine V_get C0 fl_X6_holdsLetters_15 0 rfl rfl dX6_holdsLetters_1 rfl ?_
  refine V_iconst (v := 1) C0 dX6_holdsLetters_4 (by decide) rfl ?_
  refine V_icmp_lt (tgt := 31) C0 dX6_holdsLetters_5 (by decide) rfl (fun c5 => ?_) (fun c5 => ?_)
  · have hf := ite_t c5 hf
    refine V_iconst (v := 0) C0 dX6_holdsLetters_31 (by decide) rfl ?_
    obtain rfl := some_inv hf
    exact V_zret C0 rfl () rfl rfl dX6_holdsLetters_32
  · have hf := ite_f c5 hf
    refine V_aload_n C0 dX6_holdsLetters_8 0 rfl rfl ?_
    refine V_get C0 fl_X6_holdsLetters_15 0 rfl rfl dX6_holdsLetters_9 rfl ?_
    refine V_iload_n C0 dX6_holdsLetters_12 1 rfl rfl ?_
    refine V_icmp_gt (tgt := 31) C0 dX6_holdsLetters_13 (by decide) rfl (fun c13 => ?_) (fun c13 => ?_)
    · have hf := ite_t c13 hf
      refine V_iconst (v := 0) C0 dX6_holdsLetters_31 (by decide) rfl ?_
      obtain rfl := some_inv hf
      exact V_zret C0 rfl () rfl rfl dX6_holdsLetters_32
    · have hf := ite_f c13 hf
      refine V_aload_n C0 dX6_holdsLetters_16 0 rfl rfl ?_
      obtain ⟨r_17, hc_17, hf⟩ := bind_inv hf
      refine V_cVI (ws' := (W_P cI cJ cZ cO ap pd.1 pd.2)) (As := []) (b := ap 0) (st := []) C0 (c_X6_firstNoLetter l dC dI cI cJ cZ cO ap N pd  r_17 hc_17) rfl 0 gX6_holdsLetters_X6_firstNoLetter (by decide +kernel) ⟨Nat.le_of_ble_eq_true rfl, Nat.le_of_ble_eq_true rfl⟩ rfl 0 6 rfl rfl  Cut.all rfl (Nat.le_of_ble_eq_true rfl) dX6_holdsLetters_17 rfl ⟨Nat.zero_le _, Nat.zero_le _⟩ ?_
      refine V_aload_n C0 dX6_holdsLetters_20 0 rfl rfl ?_
      refine V_get C0 fl_X6_holdsLetters_15 0 rfl rfl dX6_holdsLetters_21 rfl ?_
      refine V_icmp_ne (tgt := 31) C0 dX6_holdsLetters_24 (by decide) rfl (fun c24 => ?_) (fun c24 => ?_)
      · have hf := ite_f c24 hf
        refine V_iconst (v := 0) C0 dX6_holdsLetters_31 (by decide) rfl ?_
        obtain rfl := some_inv hf
        exact V_zret C0 rfl () rfl rfl dX6_holdsLetters_32
      · have hf := ite_t c24 hf
        refine V_iconst (v := 1) C0 dX6_holdsLetters_27 (by decide) rfl ?_
        refine V_goto (tgt := 32) C0 dX6_holdsLetters_28 (by decide) ?_
        obtain rfl := some_inv hf
        exact V_zret C0 rfl () rfl rfl dX6_holdsLetters_32
abbrev RM_X6_text : Room := { frames := 1, cells := 0, slots := 0, locals := 21 }
theorem in_X6_text_X6 : ∀ w ∈ u_ws RX6 TX6 2, w ∈ wsX6_text := by decide +kernel
theorem fl_X6_text_15 : FL RX6 wsX6_text 6 15 0 RX6 TX6 2 := ⟨in_X6_text_X6, rfl, by decide, by decide +kernel, rfl⟩
set_option maxRecDepth 100000 in
set_option maxHeartbeats 4000000 in
theorem c_X6_text (l : Launch) (dC : Nat → ClassId) (dI : Nat → Nat → Nat) (cI cJ cZ cO : ClassId) (ap : Nat → Nat) (N : Nat) (pd : PV) (o : Int32) (hf : f_X6_text N pd = some o) : MetI l yX6_text wsX6_text RM_X6_text (dC, dI) (TY cI cJ cZ cO) [.ref (ap 0)] (W_P cI cJ cZ cO ap pd.1 pd.2) (fun r (_ : Unit) => r = o) (fun _ => (W_P cI cJ cZ cO ap pd.1 pd.2)) := by
  refine MetI.ofV (cc := cX6_text) (maxL := 3) (ret := (some .int)) (own := RX6) (lv0 := [(0, .ref (ap 0))]) (by decide) rfl rfl (Nat.le_of_ble_eq_true rfl) rfl ?_
  intro p e s m below meth c A C0 _
  unfold f_X6_text at hf
  refine V_iconst (v := 0) C0 dX6_text_0 (by decide) rfl ?_
  refine V_istore_n (lv' := [(1, .int 0), (0, .ref (ap 0))]) C0 dX6_text_1 rfl (by decide) rfl rfl ?_
  refine V_iconst (v := 0) C0 dX6_text_2 (by decide) rfl ?_
  refine V_istore_n (lv' := [(2, .int 0), (1, .int 0), (0, .ref (ap 0))]) C0 dX6_text_3 rfl (by decide) rfl rfl ?_
  have hL4 : ∀ (K : Int32 → Option (Int32)), (∀ (x1 : Int32), K x1 = some o → V p l e RM_X6_text s m ([.ref (ap 0)] : List Value).toArray below meth c 3 (dC, dI) A (MQ below (va_Qi (fun r (_ : Unit) => r = o) (PostW (dC, dI) (TY cI cJ cZ cO) A (fun _ => (W_P cI cJ cZ cO ap pd.1 pd.2))) A) ([.ref (ap 0)] : List Value).toArray s 0 0 A) 0 0 (W_P cI cJ cZ cO ap pd.1 pd.2) 30 [(1, .int x1)] []) → ∀ (n : Nat) (x1 : Int32) (x2 : Int32), f_X6_text_L4 N pd  K n x1 x2 = some o → V p l e RM_X6_text s m ([.ref (ap 0)] : List Value).toArray below meth c 3 (dC, dI) A (MQ below (va_Qi (fun r (_ : Unit) => r = o) (PostW (dC, dI) (TY cI cJ cZ cO) A (fun _ => (W_P cI cJ cZ cO ap pd.1 pd.2))) A) ([.ref (ap 0)] : List Value).toArray s 0 0 A) 0 0 (W_P cI cJ cZ cO ap pd.1 pd.2) 4 [(0, .ref (ap 0)), (1, .int x1), (2, .int x2)] [] := by
    intro  K hK n
    induction n with
    | zero => intro x1 x2 hf; cases hf
    | succ n hREC =>
      intro x1 x2 hf
      rw [f_X6_text_L4] at hf
      refine V_iload_n C0 dX6_text_4 2 rfl rfl ?_
      refine V_aload_n C0 dX6_text_5 0 rfl rfl ?_
      refine V_get C0 fl_X6_text_15 0 rfl rfl dX6_text_6 rfl ?_
      refine V_icmp_ge (tgt := 30) C0 dX6_text_9 (by decide) rfl (fun c9 => ?_) (fun c9 => ?_)
      · have hf := ite_t c9 hf
        exact V.sub [1] rfl (hK x1 hf)
      · have hf := ite_f c9 hf
        refine V_iload_n C0 dX6_text_12 1 rfl rfl ?_
        refine V_iconst (v := 3) C0 dX6_text_13 (by decide) rfl ?_
        refine V_ishl C0 dX6_text_14 rfl ?_
        refine V_aload_n C0 dX6_text_15 0 rfl rfl ?_
        refine V_iload_n C0 dX6_text_16 2 rfl rfl ?_
        obtain ⟨r_17, hc_17, hf⟩ := bind_inv hf
        refine V_cVI (ws' := (W_P cI cJ cZ cO ap pd.1 pd.2)) (As := [.int x2]) (b := ap 0) (st := [.int (x1 <<< (3 &&& 31))]) C0 (c_X6_letterAt l dC dI cI cJ cZ cO ap N pd x2 r_17 hc_17) rfl 1 gX6_text_X6_letterAt (by decide +kernel) ⟨Nat.le_of_ble_eq_true rfl, Nat.le_of_ble_eq_true rfl⟩ rfl 0 6 rfl rfl  Cut.all rfl (Nat.le_of_ble_eq_true rfl) dX6_text_17 rfl ⟨Nat.zero_le _, Nat.zero_le _⟩ ?_
        refine V_iconst (v := 1) C0 dX6_text_20 (by decide) rfl ?_
        refine V_iadd C0 dX6_text_21 rfl ?_
        refine V_ior C0 dX6_text_22 rfl ?_
        refine V_topi (fun x1_1 ex1_1 => ?_)
        have hf := bd_inv ex1_1 hf
        refine V_istore_n (lv' := [(1, .int x1_1), (0, .ref (ap 0)), (2, .int x2)]) C0 dX6_text_23 rfl (by decide) rfl rfl ?_
        refine V_iinc (k := 2) (v := x2 + 1) (lv' := [(2, .int (x2 + 1)), (1, .int x1_1), (0, .ref (ap 0))]) C0 dX6_text_24 rfl rfl (by decide) rfl rfl ?_
        refine V_goto (tgt := 4) C0 dX6_text_27 (by decide) ?_
        exact V.sub [2, 1, 0] rfl (hREC x1_1 (x2 + 1) hf)
  refine V.sub [2, 1, 0] rfl (hL4  _ ?_ N 0 0 hf)
  intro x1_4 hf
  refine V_iload_n C0 dX6_text_30 0 rfl rfl ?_
  obtain rfl := some_inv hf
  exact V_iret C0 () rfl rfl dX6_text_31
