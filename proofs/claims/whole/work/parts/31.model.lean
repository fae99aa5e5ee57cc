def f_X8_addPiece_L45 (N : Nat) (x1 : Int32) (x2 : Int32) (x3 : Int32) (x4 : Int32) (x5 : Int32) (K : MV → Option (Int32 × MV)) : Nat → Int32 → MV → Option (Int32 × MV)
  | 0, _, _ => none
  | n+1, x6, mo => if 4 ≤ x6 then K mo else jn (fun (s2_81 : Int32) => ck ((x4 + 2) + x6) 210 (f_X8_addPiece_L45 N x1 x2 x3 x4 x5 K n (x6 + 1) ((upd mo.1 (((x4 + 2) + x6).toNatClampNeg) s2_81, mo.2.1, mo.2.2.1, mo.2.2.2.1, mo.2.2.2.2.1, mo.2.2.2.2.2.1, mo.2.2.2.2.2.2.1, mo.2.2.2.2.2.2.2.1, mo.2.2.2.2.2.2.2.2.1, mo.2.2.2.2.2.2.2.2.2.1, mo.2.2.2.2.2.2.2.2.2.2.1, mo.2.2.2.2.2.2.2.2.2.2.2.1, mo.2.2.2.2.2.2.2.2.2.2.2.2.1, mo.2.2.2.2.2.2.2.2.2.2.2.2.2.1, mo.2.2.2.2.2.2.2.2.2.2.2.2.2.2.1, mo.2.2.2.2.2.2.2.2.2.2.2.2.2.2.2.1, mo.2.2.2.2.2.2.2.2.2.2.2.2.2.2.2.2.1, mo.2.2.2.2.2.2.2.2.2.2.2.2.2.2.2.2.2)))) (fun (J81 : Int32 → Option (Int32 × MV)) => if x5 ≤ x6 then J81 0 else (f_X8_letterOf N  x1 x6).bind (fun (r_72 : Int32) => J81 (r_72 + 1)))
def f_X8_addPiece (N : Nat) (mo : MV) (x1 : Int32) (x2 : Int32) : Option (Int32 × MV) := ck 0 210 (bd (mo.1 ((0 : Int32).toNatClampNeg)) (fun (x3_1 : Int32) => bd (2 + (6 * x3_1)) (fun (x4_2 : Int32) => (f_X8_lengthOf N  x1).bind (fun (r_16 : Int32) => ck (x4_2 + 0) 210 (ck (x4_2 + 1) 210 (f_X8_addPiece_L45 N x1 x2 x3_1 x4_2 r_16 (fun (mo_45 : MV) => ck 0 210 (ck 0 210 (some (x3_1, (upd mo_45.1 ((0 : Int32).toNatClampNeg) ((mo_45.1 ((0 : Int32).toNatClampNeg)) + 1), mo_45.2.1, mo_45.2.2.1, mo_45.2.2.2.1, mo_45.2.2.2.2.1, mo_45.2.2.2.2.2.1, mo_45.2.2.2.2.2.2.1, mo_45.2.2.2.2.2.2.2.1, mo_45.2.2.2.2.2.2.2.2.1, mo_45.2.2.2.2.2.2.2.2.2.1, mo_45.2.2.2.2.2.2.2.2.2.2.1, mo_45.2.2.2.2.2.2.2.2.2.2.2.1, mo_45.2.2.2.2.2.2.2.2.2.2.2.2.1, mo_45.2.2.2.2.2.2.2.2.2.2.2.2.2.1, mo_45.2.2.2.2.2.2.2.2.2.2.2.2.2.2.1, mo_45.2.2.2.2.2.2.2.2.2.2.2.2.2.2.2.1, mo_45.2.2.2.2.2.2.2.2.2.2.2.2.2.2.2.2.1, mo_45.2.2.2.2.2.2.2.2.2.2.2.2.2.2.2.2.2))))) N 0 ((upd (upd mo.1 ((x4_2 + 0).toNatClampNeg) r_16) ((x4_2 + 1).toNatClampNeg) x2, mo.2.1, mo.2.2.1, mo.2.2.2.1, mo.2.2.2.2.1, mo.2.2.2.2.2.1, mo.2.2.2.2.2.2.1, mo.2.2.2.2.2.2.2.1, mo.2.2.2.2.2.2.2.2.1, mo.2.2.2.2.2.2.2.2.2.1, mo.2.2.2.2.2.2.2.2.2.2.1, mo.2.2.2.2.2.2.2.2.2.2.2.1, mo.2.2.2.2.2.2.2.2.2.2.2.2.1, mo.2.2.2.2.2.2.2.2.2.2.2.2.2.1, mo.2.2.2.2.2.2.2.2.2.2.2.2.2.2.1, mo.2.2.2.2.2.2.2.2.2.2.2.2.2.2.2.1, mo.2.2.2.2.2.2.2.2.2.2.2.2.2.2.2.2.1, mo.2.2.2.2.2.2.2.2.2.2.2.2.2.2.2.2.2))))))))
abbrev RM_X8_addPiece : Room := { frames := 2, cells := 0, slots := 0, locals := 46 }
theorem in_X8_addPiece_X8 : ∀ w ∈ u_ws RX8 TX8 18, w ∈ wsX8_addPiece := by decide +kernel
theorem fl_X8_addPiece_7 : FL RX8 wsX8_addPiece 8 7 0 RX8 TX8 18 := ⟨in_X8_addPiece_X8, rfl, by decide, by decide +kernel, rfl⟩
set_option maxRecDepth 100000 in
set_option maxHeartbeats 4000000 in
theorem c_X8_addPiece (l : Launch) (dC : Nat → ClassId) (dI : Nat → Nat → Nat) (cI cJ cZ cO : ClassId) (am : Nat → Nat) (N : Nat) (mo : MV) (x1 : Int32) (x2 : Int32) (o : Int32 × MV) (hf : f_X8_addPiece N mo x1 x2 = some o) : MetI l yX8_addPiece wsX8_addPiece RM_X8_addPiece (dC, dI) (TY cI cJ cZ cO) [.ref (am 0), .int x1, .int x2] (W_M cI cJ cZ cO am mo.1 mo.2.1 mo.2.2.1 mo.2.2.2.1 mo.2.2.2.2.1 mo.2.2.2.2.2.1 mo.2.2.2.2.2.2.1 mo.2.2.2.2.2.2.2.1 mo.2.2.2.2.2.2.2.2.1 mo.2.2.2.2.2.2.2.2.2.1 mo.2.2.2.2.2.2.2.2.2.2.1 mo.2.2.2.2.2.2.2.2.2.2.2.1 mo.2.2.2.2.2.2.2.2.2.2.2.2.1 mo.2.2.2.2.2.2.2.2.2.2.2.2.2.1 mo.2.2.2.2.2.2.2.2.2.2.2.2.2.2.1 mo.2.2.2.2.2.2.2.2.2.2.2.2.2.2.2.1 mo.2.2.2.2.2.2.2.2.2.2.2.2.2.2.2.2.1 mo.2.2.2.2.2.2.2.2.2.2.2.2.2.2.2.2.2) (fun r (_ : Unit) => r = o.1) (fun _ => (W_M cI cJ cZ cO am o.2.1 o.2.2.1 o.2.2.2.1 o.2.2.2.2.1 o.2.2.2.2.2.1 o.2.2.2.2.2.2.1 o.2.2.2.2.2.2.2.1 o.2.2.2.2.2.2.2.2.1 o.2.2.2.2.2.2.2.2.2.1 o.2.2.2.2.2.2.2.2.2.2.1 o.2.2.2.2.2.2.2.2.2.2.2.1 o.2.2.2.2.2.2.2.2.2.2.2.2.1 o.2.2.2.2.2.2.2.2.2.2.2.2.2.1 o.2.2.2.2.2.2.2.2.2.2.2.2.2.2.1 o.2.2.2.2.2.2.2.2.2.2.2.2.2.2.2.1 o.2.2.2.2.2.2.2.2.2.2.2.2.2.2.2.2.1 o.2.2.2.2.2.2.2.2.2.2.2.2.2.2.2.2.2.1 o.2.2.2.2.2.2.2.2.2.2.2.2.2.2.2.2.2.2)) := by
  refine MetI.ofV (cc := cX8_addPiece) (maxL := 7) (ret := (some .int)) (own := RX8) (lv0 := [(0, .ref (am 0)), (1, .int x1), (2, .int x2)]) (by decide) rfl rfl (Nat.le_of_ble_eq_true rfl) rfl ?_
  intro p e s m below meth c A C0 _
  unfold f_X8_addPiece at hf
  refine V_aload_n C0 dX8_addPiece_0 0 rfl rfl ?_
  refine V_get C0 fl_X8_addPiece_7 0 rfl rfl dX8_addPiece_1 rfl ?_
  refine V_iconst (v := 0) C0 dX8_addPiece_4 (by decide) rfl ?_
  obtain ⟨hi5, hf⟩ := ck_inv hf
  refine V_iald C0 1 0 rfl rfl hi5 dX8_addPiece_5 rfl ?_
  refine V_topi (fun x3_1 ex3_1 => ?_)
  have hf := bd_inv ex3_1 hf
  refine V_istore_n (lv' := [(3, .int x3_1), (0, .ref (am 0)), (1, .int x1), (2, .int x2)]) C0 dX8_addPiece_6 rfl (by decide) rfl rfl ?_
  refine V_iconst (v := 2) C0 dX8_addPiece_7 (by decide) rfl ?_
  refine V_bipush (v := 6) C0 dX8_addPiece_8 (by decide) rfl ?_
  refine V_iload_n C0 dX8_addPiece_10 0 rfl rfl ?_
  refine V_imul C0 dX8_addPiece_11 rfl ?_
  refine V_iadd C0 dX8_addPiece_12 rfl ?_
  refine V_topi (fun x4_2 ex4_2 => ?_)
  have hf := bd_inv ex4_2 hf
  refine V_istore (lv' := [(4, .int x4_2), (3, .int x3_1), (0, .ref (am 0)), (1, .int x1), (2, .int x2)]) C0 dX8_addPiece_13 (by decide) rfl rfl ?_
  refine V_iload_n C0 dX8_addPiece_15 3 rfl rfl ?_
  obtain ⟨r_16, hc_16, hf⟩ := bind_inv hf
  refine V_cSI (ws' := (W_M cI cJ cZ cO am mo.1 mo.2.1 mo.2.2.1 mo.2.2.2.1 mo.2.2.2.2.1 mo.2.2.2.2.2.1 mo.2.2.2.2.2.2.1 mo.2.2.2.2.2.2.2.1 mo.2.2.2.2.2.2.2.2.1 mo.2.2.2.2.2.2.2.2.2.1 mo.2.2.2.2.2.2.2.2.2.2.1 mo.2.2.2.2.2.2.2.2.2.2.2.1 mo.2.2.2.2.2.2.2.2.2.2.2.2.1 mo.2.2.2.2.2.2.2.2.2.2.2.2.2.1 mo.2.2.2.2.2.2.2.2.2.2.2.2.2.2.1 mo.2.2.2.2.2.2.2.2.2.2.2.2.2.2.2.1 mo.2.2.2.2.2.2.2.2.2.2.2.2.2.2.2.2.1 mo.2.2.2.2.2.2.2.2.2.2.2.2.2.2.2.2.2)) (As := [.int x1]) (st := []) C0 (c_X8_lengthOf l dC dI cI cJ cZ cO  N  x1 r_16 hc_16) rfl 1 gX8_addPiece_X8_lengthOf (by decide +kernel) ⟨Nat.le_of_ble_eq_true rfl, Nat.le_of_ble_eq_true rfl⟩ rfl  ⟨_, pr1, fun _ => pr1⟩ rfl (Nat.le_of_ble_eq_true rfl) dX8_addPiece_16 rfl ⟨Nat.zero_le _, Nat.zero_le _⟩ ?_
  refine V_istore (lv' := [(5, .int r_16), (4, .int x4_2), (3, .int x3_1), (0, .ref (am 0)), (1, .int x1), (2, .int x2)]) C0 dX8_addPiece_19 (by decide) rfl rfl ?_
  refine V_aload_n C0 dX8_addPiece_21 3 rfl rfl ?_
  refine V_get C0 fl_X8_addPiece_7 0 rfl rfl dX8_addPiece_22 rfl ?_
  refine V_iload C0 dX8_addPiece_25 1 rfl rfl ?_
  refine V_iconst (v := 0) C0 dX8_addPiece_27 (by decide) rfl ?_
  refine V_iadd C0 dX8_addPiece_28 rfl ?_
  refine V_iload C0 dX8_addPiece_29 0 rfl rfl ?_
  obtain ⟨hi31, hf⟩ := ck_inv hf
  refine V_iast (ws' := (W_M cI cJ cZ cO am (upd mo.1 ((x4_2 + 0).toNatClampNeg) r_16) mo.2.1 mo.2.2.1 mo.2.2.2.1 mo.2.2.2.2.1 mo.2.2.2.2.2.1 mo.2.2.2.2.2.2.1 mo.2.2.2.2.2.2.2.1 mo.2.2.2.2.2.2.2.2.1 mo.2.2.2.2.2.2.2.2.2.1 mo.2.2.2.2.2.2.2.2.2.2.1 mo.2.2.2.2.2.2.2.2.2.2.2.1 mo.2.2.2.2.2.2.2.2.2.2.2.2.1 mo.2.2.2.2.2.2.2.2.2.2.2.2.2.1 mo.2.2.2.2.2.2.2.2.2.2.2.2.2.2.1 mo.2.2.2.2.2.2.2.2.2.2.2.2.2.2.2.1 mo.2.2.2.2.2.2.2.2.2.2.2.2.2.2.2.2.1 mo.2.2.2.2.2.2.2.2.2.2.2.2.2.2.2.2.2)) C0 1 0 rfl rfl hi31 dX8_addPiece_31 rfl rfl ?_
  refine V_aload_n C0 dX8_addPiece_32 3 rfl rfl ?_
  refine V_get C0 fl_X8_addPiece_7 0 rfl rfl dX8_addPiece_33 rfl ?_
  refine V_iload C0 dX8_addPiece_36 1 rfl rfl ?_
  refine V_iconst (v := 1) C0 dX8_addPiece_38 (by decide) rfl ?_
  refine V_iadd C0 dX8_addPiece_39 rfl ?_
  refine V_iload_n C0 dX8_addPiece_40 5 rfl rfl ?_
  obtain ⟨hi41, hf⟩ := ck_inv hf
  refine V_iast (ws' := (W_M cI cJ cZ cO am (upd (upd mo.1 ((x4_2 + 0).toNatClampNeg) r_16) ((x4_2 + 1).toNatClampNeg) x2) mo.2.1 mo.2.2.1 mo.2.2.2.1 mo.2.2.2.2.1 mo.2.2.2.2.2.1 mo.2.2.2.2.2.2.1 mo.2.2.2.2.2.2.2.1 mo.2.2.2.2.2.2.2.2.1 mo.2.2.2.2.2.2.2.2.2.1 mo.2.2.2.2.2.2.2.2.2.2.1 mo.2.2.2.2.2.2.2.2.2.2.2.1 mo.2.2.2.2.2.2.2.2.2.2.2.2.1 mo.2.2.2.2.2.2.2.2.2.2.2.2.2.1 mo.2.2.2.2.2.2.2.2.2.2.2.2.2.2.1 mo.2.2.2.2.2.2.2.2.2.2.2.2.2.2.2.1 mo.2.2.2.2.2.2.2.2.2.2.2.2.2.2.2.2.1 mo.2.2.2.2.2.2.2.2.2.2.2.2.2.2.2.2.2)) C0 1 0 rfl rfl hi41 dX8_addPiece_41 rfl rfl ?_
  refine V_iconst (v := 0) C0 dX8_addPiece_42 (by decide) rfl ?_
  refine V_istore (lv' := [(6, .int 0), (5, .int r_16), (4, .int x4_2), (3, .int x3_1), (0, .ref (am 0)), (1, .int x1), (2, .int x2)]) C0 dX8_addPiece_43 (by decide) rfl rfl ?_
  have hL45 : ∀ (x3 : Int32) (x4 : Int32) (x5 : Int32) (K : MV → Option (Int32 × MV)), (∀ (mo : MV), K mo = some o → V p l e RM_X8_addPiece s m ([.ref (am 0), .int x1, .int x2] : List Value).toArray below meth c 7 (dC, dI) A (MQ below (va_Qi (fun r (_ : Unit) => r = o.1) (PostW (dC, dI) (TY cI cJ cZ cO) A (fun _ => (W_M cI cJ cZ cO am o.2.1 o.2.2.1 o.2.2.2.1 o.2.2.2.2.1 o.2.2.2.2.2.1 o.2.2.2.2.2.2.1 o.2.2.2.2.2.2.2.1 o.2.2.2.2.2.2.2.2.1 o.2.2.2.2.2.2.2.2.2.1 o.2.2.2.2.2.2.2.2.2.2.1 o.2.2.2.2.2.2.2.2.2.2.2.1 o.2.2.2.2.2.2.2.2.2.2.2.2.1 o.2.2.2.2.2.2.2.2.2.2.2.2.2.1 o.2.2.2.2.2.2.2.2.2.2.2.2.2.2.1 o.2.2.2.2.2.2.2.2.2.2.2.2.2.2.2.1 o.2.2.2.2.2.2.2.2.2.2.2.2.2.2.2.2.1 o.2.2.2.2.2.2.2.2.2.2.2.2.2.2.2.2.2.1 o.2.2.2.2.2.2.2.2.2.2.2.2.2.2.2.2.2.2))) A) ([.ref (am 0), .int x1, .int x2] : List Value).toArray s 0 0 A) 0 0 (W_M cI cJ cZ cO am mo.1 mo.2.1 mo.2.2.1 mo.2.2.2.1 mo.2.2.2.2.1 mo.2.2.2.2.2.1 mo.2.2.2.2.2.2.1 mo.2.2.2.2.2.2.2.1 mo.2.2.2.2.2.2.2.2.1 mo.2.2.2.2.2.2.2.2.2.1 mo.2.2.2.2.2.2.2.2.2.2.1 mo.2.2.2.2.2.2.2.2.2.2.2.1 mo.2.2.2.2.2.2.2.2.2.2.2.2.1 mo.2.2.2.2.2.2.2.2.2.2.2.2.2.1 mo.2.2.2.2.2.2.2.2.2.2.2.2.2.2.1 mo.2.2.2.2.2.2.2.2.2.2.2.2.2.2.2.1 mo.2.2.2.2.2.2.2.2.2.2.2.2.2.2.2.2.1 mo.2.2.2.2.2.2.2.2.2.2.2.2.2.2.2.2.2) 88 [(0, .ref (am 0)), (3, .int x3)] []) → ∀ (n : Nat) (x6 : Int32) (mo : MV), f_X8_addPiece_L45 N x1 x2 x3 x4 x5 K n x6 mo = some o → V p l e RM_X8_addPiece s m ([.ref (am 0), .int x1, .int x2] : List Value).toArray below meth c 7 (dC, dI) A (MQ below (va_Qi (fun r (_ : Unit) => r = o.1) (PostW (dC, dI) (TY cI cJ cZ cO) A (fun _ => (W_M cI cJ cZ cO am o.2.1 o.2.2.1 o.2.2.2.1 o.2.2.2.2.1 o.2.2.2.2.2.1 o.2.2.2.2.2.2.1 o.2.2.2.2.2.2.2.1 o.2.2.2.2.2.2.2.2.1 o.2.2.2.2.2.2.2.2.2.1 o.2.2.2.2.2.2.2.2.2.2.1 o.2.2.2.2.2.2.2.2.2.2.2.1 o.2.2.2.2.2.2.2.2.2.2.2.2.1 o.2.2.2.2.2.2.2.2.2.2.2.2.2.1 o.2.2.2.2.2.2.2.2.2.2.2.2.2.2.1 o.2.2.2.2.2.2.2.2.2.2.2.2.2.2.2.1 o.2.2.2.2.2.2.2.2.2.2.2.2.2.2.2.2.1 o.2.2.2.2.2.2.2.2.2.2.2.2.2.2.2.2.2.1 o.2.2.2.2.2.2.2.2.2.2.2.2.2.2.2.2.2.2))) A) ([.ref (am 0), .int x1, .int x2] : List Value).toArray s 0 0 A) 0 0 (W_M cI cJ cZ cO am mo.1 mo.2.1 mo.2.2.1 mo.2.2.2.1 mo.2.2.2.2.1 mo.2.2.2.2.2.1 mo.2.2.2.2.2.2.1 mo.2.2.2.2.2.2.2.1 mo.2.2.2.2.2.2.2.2.1 mo.2.2.2.2.2.2.2.2.2.1 mo.2.2.2.2.2.2.2.2.2.2.1 mo.2.2.2.2.2.2.2.2.2.2.2.1 mo.2.2.2.2.2.2.2.2.2.2.2.2.1 mo.2.2.2.2.2.2.2.2.2.2.2.2.2.1 mo.2.2.2.2.2.2.2.2.2.2.2.2.2.2.1 mo.2.2.2.2.2.2.2.2.2.2.2.2.2.2.2.1 mo.2.2.2.2.2.2.2.2.2.2.2.2.2.2.2.2.1 mo.2.2.2.2.2.2.2.2.2.2.2.2.2.2.2.2.2) 45 [(0, .ref (am 0)), (1, .int x1), (3, .int x3), (4, .int x4), (5, .int x5), (6, .int x6)] [] := by
    intro x3 x4 x5 K hK n
    induction n with
    | zero => intro x6 mo hf; cases hf
    | succ n hREC =>
      intro x6 mo hf
      rw [f_X8_addPiece_L45] at hf
      refine V_iload C0 dX8_addPiece_45 5 rfl rfl ?_
      refine V_iconst (v := 4) C0 dX8_addPiece_47 (by decide) rfl ?_
      refine V_icmp_ge (tgt := 88) C0 dX8_addPiece_48 (by decide) rfl (fun c48 => ?_) (fun c48 => ?_)
      · have hf := ite_t c48 hf
        exact V.sub [0, 2] rfl (hK mo hf)
      · have hf := ite_f c48 hf
        refine V_aload_n C0 dX8_addPiece_51 0 rfl rfl ?_
        refine V_get C0 fl_X8_addPiece_7 0 rfl rfl dX8_addPiece_52 rfl ?_
        refine V_iload C0 dX8_addPiece_55 3 rfl rfl ?_
        refine V_iconst (v := 2) C0 dX8_addPiece_57 (by decide) rfl ?_
        refine V_iadd C0 dX8_addPiece_58 rfl ?_
        refine V_iload C0 dX8_addPiece_59 5 rfl rfl ?_
        refine V_iadd C0 dX8_addPiece_61 rfl ?_
        refine V_iload C0 dX8_addPiece_62 5 rfl rfl ?_
        refine V_iload C0 dX8_addPiece_64 4 rfl rfl ?_
        refine jn_elim hf (fun (J : Int32 → Option (Int32 × MV)) => ∀ (s2_81 : Int32), J s2_81 = some o → V p l e RM_X8_addPiece s m ([.ref (am 0), .int x1, .int x2] : List Value).toArray below meth c 7 (dC, dI) A (MQ below (va_Qi (fun r (_ : Unit) => r = o.1) (PostW (dC, dI) (TY cI cJ cZ cO) A (fun _ => (W_M cI cJ cZ cO am o.2.1 o.2.2.1 o.2.2.2.1 o.2.2.2.2.1 o.2.2.2.2.2.1 o.2.2.2.2.2.2.1 o.2.2.2.2.2.2.2.1 o.2.2.2.2.2.2.2.2.1 o.2.2.2.2.2.2.2.2.2.1 o.2.2.2.2.2.2.2.2.2.2.1 o.2.2.2.2.2.2.2.2.2.2.2.1 o.2.2.2.2.2.2.2.2.2.2.2.2.1 o.2.2.2.2.2.2.2.2.2.2.2.2.2.1 o.2.2.2.2.2.2.2.2.2.2.2.2.2.2.1 o.2.2.2.2.2.2.2.2.2.2.2.2.2.2.2.1 o.2.2.2.2.2.2.2.2.2.2.2.2.2.2.2.2.1 o.2.2.2.2.2.2.2.2.2.2.2.2.2.2.2.2.2.1 o.2.2.2.2.2.2.2.2.2.2.2.2.2.2.2.2.2.2))) A) ([.ref (am 0), .int x1, .int x2] : List Value).toArray s 0 0 A) 0 0 (W_M cI cJ cZ cO am mo.1 mo.2.1 mo.2.2.1 mo.2.2.2.1 mo.2.2.2.2.1 mo.2.2.2.2.2.1 mo.2.2.2.2.2.2.1 mo.2.2.2.2.2.2.2.1 mo.2.2.2.2.2.2.2.2.1 mo.2.2.2.2.2.2.2.2.2.1 mo.2.2.2.2.2.2.2.2.2.2.1 mo.2.2.2.2.2.2.2.2.2.2.2.1 mo.2.2.2.2.2.2.2.2.2.2.2.2.1 mo.2.2.2.2.2.2.2.2.2.2.2.2.2.1 mo.2.2.2.2.2.2.2.2.2.2.2.2.2.2.1 mo.2.2.2.2.2.2.2.2.2.2.2.2.2.2.2.1 mo.2.2.2.2.2.2.2.2.2.2.2.2.2.2.2.2.1 mo.2.2.2.2.2.2.2.2.2.2.2.2.2.2.2.2.2) 81 [(0, .ref (am 0)), (1, .int x1), (3, .int x3), (4, .int x4), (5, .int x5), (6, .int x6)] [.int s2_81, .int ((x4 + 2) + x6), .ref (am 1)]) ?_ ?_
        · intro s2_81 hf
          obtain ⟨hi81, hf⟩ := ck_inv hf
          refine V_iast (ws' := (W_M cI cJ cZ cO am (upd mo.1 (((x4 + 2) + x6).toNatClampNeg) s2_81) mo.2.1 mo.2.2.1 mo.2.2.2.1 mo.2.2.2.2.1 mo.2.2.2.2.2.1 mo.2.2.2.2.2.2.1 mo.2.2.2.2.2.2.2.1 mo.2.2.2.2.2.2.2.2.1 mo.2.2.2.2.2.2.2.2.2.1 mo.2.2.2.2.2.2.2.2.2.2.1 mo.2.2.2.2.2.2.2.2.2.2.2.1 mo.2.2.2.2.2.2.2.2.2.2.2.2.1 mo.2.2.2.2.2.2.2.2.2.2.2.2.2.1 mo.2.2.2.2.2.2.2.2.2.2.2.2.2.2.1 mo.2.2.2.2.2.2.2.2.2.2.2.2.2.2.2.1 mo.2.2.2.2.2.2.2.2.2.2.2.2.2.2.2.2.1 mo.2.2.2.2.2.2.2.2.2.2.2.2.2.2.2.2.2)) C0 1 0 rfl rfl hi81 dX8_addPiece_81 rfl rfl ?_
          refine V_iinc (k := 5) (v := x6 + 1) (lv' := [(6, .int (x6 + 1)), (0, .ref (am 0)), (1, .int x1), (3, .int x3), (4, .int x4), (5, .int x5)]) C0 dX8_addPiece_82 rfl rfl (by decide) rfl rfl ?_
          refine V_goto (tgt := 45) C0 dX8_addPiece_85 (by decide) ?_
          exact V.sub [1, 2, 3, 4, 5, 0] rfl (hREC (x6 + 1) ((upd mo.1 (((x4 + 2) + x6).toNatClampNeg) s2_81, mo.2.1, mo.2.2.1, mo.2.2.2.1, mo.2.2.2.2.1, mo.2.2.2.2.2.1, mo.2.2.2.2.2.2.1, mo.2.2.2.2.2.2.2.1, mo.2.2.2.2.2.2.2.2.1, mo.2.2.2.2.2.2.2.2.2.1, mo.2.2.2.2.2.2.2.2.2.2.1, mo.2.2.2.2.2.2.2.2.2.2.2.1, mo.2.2.2.2.2.2.2.2.2.2.2.2.1, mo.2.2.2.2.2.2.2.2.2.2.2.2.2.1, mo.2.2.2.2.2.2.2.2.2.2.2.2.2.2.1, mo.2.2.2.2.2.2.2.2.2.2.2.2.2.2.2.1, mo.2.2.2.2.2.2.2.2.2.2.2.2.2.2.2.2.1, mo.2.2.2.2.2.2.2.2.2.2.2.2.2.2.2.2.2)) hf)
        · intro J81 hJ81 hf
          refine V_icmp_ge (tgt := 80) C0 dX8_addPiece_66 (by decide) rfl (fun c66 => ?_) (fun c66 => ?_)
          · have hf := ite_t c66 hf
            refine V_iconst (v := 0) C0 dX8_addPiece_80 (by decide) rfl ?_
            exact V.sub [0, 1, 2, 3, 4, 5] rfl (hJ81 0 hf)
          · have hf := ite_f c66 hf
            refine V_iload_n C0 dX8_addPiece_69 1 rfl rfl ?_
            refine V_iload C0 dX8_addPiece_70 5 rfl rfl ?_
            obtain ⟨r_72, hc_72, hf⟩ := bind_inv hf
            refine V_cSI (ws' := (W_M cI cJ cZ cO am mo.1 mo.2.1 mo.2.2.1 mo.2.2.2.1 mo.2.2.2.2.1 mo.2.2.2.2.2.1 mo.2.2.2.2.2.2.1 mo.2.2.2.2.2.2.2.1 mo.2.2.2.2.2.2.2.2.1 mo.2.2.2.2.2.2.2.2.2.1 mo.2.2.2.2.2.2.2.2.2.2.1 mo.2.2.2.2.2.2.2.2.2.2.2.1 mo.2.2.2.2.2.2.2.2.2.2.2.2.1 mo.2.2.2.2.2.2.2.2.2.2.2.2.2.1 mo.2.2.2.2.2.2.2.2.2.2.2.2.2.2.1 mo.2.2.2.2.2.2.2.2.2.2.2.2.2.2.2.1 mo.2.2.2.2.2.2.2.2.2.2.2.2.2.2.2.2.1 mo.2.2.2.2.2.2.2.2.2.2.2.2.2.2.2.2.2)) (As := [.int x1, .int x6]) (st := [.int ((x4 + 2) + x6), .ref (am 1)]) C0 (c_X8_letterOf l dC dI cI cJ cZ cO  N  x1 x6 r_72 hc_72) rfl 2 gX8_addPiece_X8_letterOf (by decide +kernel) ⟨Nat.le_of_ble_eq_true rfl, Nat.le_of_ble_eq_true rfl⟩ rfl  ⟨_, pr1, fun _ => pr1⟩ rfl (Nat.le_of_ble_eq_true rfl) dX8_addPiece_72 rfl ⟨Nat.zero_le _, Nat.zero_le _⟩ ?_
            refine V_iconst (v := 1) C0 dX8_addPiece_75 (by decide) rfl ?_
            refine V_iadd C0 dX8_addPiece_76 rfl ?_
            refine V_goto (tgt := 81) C0 dX8_addPiece_77 (by decide) ?_
            exact V.sub [0, 1, 2, 3, 4, 5] rfl (hJ81 (r_72 + 1) hf)
  refine V.sub [4, 5, 3, 2, 1, 0] rfl (hL45 x3_1 x4_2 r_16 _ ?_ N 0 ((upd (upd mo.1 ((x4_2 + 0).toNatClampNeg) r_16) ((x4_2 + 1).toNatClampNeg) x2, mo.2.1, mo.2.2.1, mo.2.2.2.1, mo.2.2.2.2.1, mo.2.2.2.2.2.1, mo.2.2.2.2.2.2.1, mo.2.2.2.2.2.2.2.1, mo.2.2.2.2.2.2.2.2.1, mo.2.2.2.2.2.2.2.2.2.1, mo.2.2.2.2.2.2.2.2.2.2.1, mo.2.2.2.2.2.2.2.2.2.2.2.1, mo.2.2.2.2.2.2.2.2.2.2.2.2.1, mo.2.2.2.2.2.2.2.2.2.2.2.2.2.1, mo.2.2.2.2.2.2.2.2.2.2.2.2.2.2.1, mo.2.2.2.2.2.2.2.2.2.2.2.2.2.2.2.1, mo.2.2.2.2.2.2.2.2.2.2.2.2.2.2.2.2.1, mo.2.2.2.2.2.2.2.2.2.2.2.2.2.2.2.2.2)) hf)
  intro mo_45 hf
  refine V_aload_n C0 dX8_addPiece_88 0 rfl rfl ?_
  refine V_get C0 fl_X8_addPiece_7 0 rfl rfl dX8_addPiece_89 rfl ?_
  refine V_iconst (v := 0) C0 dX8_addPiece_92 (by decide) rfl ?_
  refine V_dup2_11 C0 dX8_addPiece_93 rfl rfl rfl ?_
  obtain ⟨hi94, hf⟩ := ck_inv hf
  refine V_iald C0 1 0 rfl rfl hi94 dX8_addPiece_94 rfl ?_
  refine V_iconst (v := 1) C0 dX8_addPiece_95 (by decide) rfl ?_
  refine V_iadd C0 dX8_addPiece_96 rfl ?_
  obtain ⟨hi97, hf⟩ := ck_inv hf
  refine V_iast (ws' := (W_M cI cJ cZ cO am (upd mo_45.1 ((0 : Int32).toNatClampNeg) ((mo_45.1 ((0 : Int32).toNatClampNeg)) + 1)) mo_45.2.1 mo_45.2.2.1 mo_45.2.2.2.1 mo_45.2.2.2.2.1 mo_45.2.2.2.2.2.1 mo_45.2.2.2.2.2.2.1 mo_45.2.2.2.2.2.2.2.1 mo_45.2.2.2.2.2.2.2.2.1 mo_45.2.2.2.2.2.2.2.2.2.1 mo_45.2.2.2.2.2.2.2.2.2.2.1 mo_45.2.2.2.2.2.2.2.2.2.2.2.1 mo_45.2.2.2.2.2.2.2.2.2.2.2.2.1 mo_45.2.2.2.2.2.2.2.2.2.2.2.2.2.1 mo_45.2.2.2.2.2.2.2.2.2.2.2.2.2.2.1 mo_45.2.2.2.2.2.2.2.2.2.2.2.2.2.2.2.1 mo_45.2.2.2.2.2.2.2.2.2.2.2.2.2.2.2.2.1 mo_45.2.2.2.2.2.2.2.2.2.2.2.2.2.2.2.2.2)) C0 1 0 rfl rfl hi97 dX8_addPiece_97 rfl rfl ?_
  refine V_iload_n C0 dX8_addPiece_98 1 rfl rfl ?_
  obtain rfl := some_inv hf
  exact V_iret C0 () rfl rfl dX8_addPiece_99
