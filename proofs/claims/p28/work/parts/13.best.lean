def f_X1_findFirst_L24 (N : Nat) (lt : LV) (x2 : Int32) (x3 : Int32) (x4 : Int32) (K : BV → Option (BV)) : Nat → Int32 → BV → Option (BV)
  | 0, _, _ => none
  | n+1, x5, bc => if x4 < x5 then K bc else (f_X4_weightAt N lt x2 x5 x3).bind (fun (r_36 : Int32) => ck (x2 + x5) 13 (bd (r_36.toInt64 * (bc.1 ((x2 + x5).toNatClampNeg))) (fun (x7_1 : Int64) => ck (x2 + x5) 13 (bd (1 + (bc.2.1 ((x2 + x5).toNatClampNeg))) (fun (x9_2 : Int32) => if r_36 ≤ 0 then f_X1_findFirst_L24 N lt x2 x3 x4 K n (x5 + 1) bc else ck x2 13 (jn (fun (_ : Unit) => ck x2 13 (ck x2 13 (ck x2 13 (f_X1_findFirst_L24 N lt x2 x3 x4 K n (x5 + 1) ((vp_updL bc.1 (x2.toNatClampNeg) x7_1, upd bc.2.1 (x2.toNatClampNeg) x9_2, upd bc.2.2.1 (x2.toNatClampNeg) x5, bc.2.2.2.1, bc.2.2.2.2.1, bc.2.2.2.2.2.1, bc.2.2.2.2.2.2.1, bc.2.2.2.2.2.2.2)))))) (fun (J109 : Unit → Option (BV)) => if 0 < (lg_cmp x7_1 (bc.1 (x2.toNatClampNeg))) then J109 () else ck x2 13 (if (lg_cmp x7_1 (bc.1 (x2.toNatClampNeg))) = 0 then ck x2 13 (if (bc.2.1 (x2.toNatClampNeg)) < x9_2 then f_X1_findFirst_L24 N lt x2 x3 x4 K n (x5 + 1) bc else J109 ()) else f_X1_findFirst_L24 N lt x2 x3 x4 K n (x5 + 1) bc))))))))
def f_X1_findFirst (N : Nat) (lt : LV) (bc : BV) (x2 : Int32) (x3 : Int32) : Option (BV) := ck x2 13 (ck x2 13 ((f_X4_mostLetters N lt x2).bind (fun (r_16 : Int32) => f_X1_findFirst_L24 N lt x2 x3 r_16 (fun (bc_24 : BV) => some bc_24) N 1 ((vp_updL bc.1 (x2.toNatClampNeg) 0, upd bc.2.1 (x2.toNatClampNeg) 0, bc.2.2.1, bc.2.2.2.1, bc.2.2.2.2.1, bc.2.2.2.2.2.1, bc.2.2.2.2.2.2.1, bc.2.2.2.2.2.2.2)))))
def f_X1_layOut_L20 (N : Nat) (lt : LV) (x2 : Int32)  (K : BV → Option (BV)) : Nat → Int32 → Int32 → BV → Option (BV)
  | 0, _, _, _ => none
  | n+1, x3, x4, bc => if bc.2.2.2.1 ≤ x4 then K bc else ck x3 13 (bd (bc.2.2.1 (x3.toNatClampNeg)) (fun (x5_1 : Int32) => (f_X4_pieceAt N lt x3 x5_1).bind (fun (r_41 : Int32) => jn (fun (s2_64 : Int32) => ck x4 12 (ck x4 12 (ck x4 12 (ck x4 12 (if ((upd bc.2.2.2.2.2.1 (x4.toNatClampNeg) s2_64) (x4.toNatClampNeg)) = ((-1)) then bd (x3 + x5_1) (fun (x3_3 : Int32) => f_X1_layOut_L20 N lt x2  K n x3_3 (x4 + 1) ((bc.1, bc.2.1, bc.2.2.1, bc.2.2.2.1, bc.2.2.2.2.1 + 1, upd bc.2.2.2.2.2.1 (x4.toNatClampNeg) s2_64, upd bc.2.2.2.2.2.2.1 (x4.toNatClampNeg) x3, upd bc.2.2.2.2.2.2.2 (x4.toNatClampNeg) x5_1))) else bd (x3 + x5_1) (fun (x3_2 : Int32) => f_X1_layOut_L20 N lt x2  K n x3_2 (x4 + 1) ((bc.1, bc.2.1, bc.2.2.1, bc.2.2.2.1, bc.2.2.2.2.1, upd bc.2.2.2.2.2.1 (x4.toNatClampNeg) s2_64, upd bc.2.2.2.2.2.2.1 (x4.toNatClampNeg) x3, upd bc.2.2.2.2.2.2.2 (x4.toNatClampNeg) x5_1)))))))) (fun (J64 : Int32 → Option (BV)) => if r_41 = x2 then J64 ((-1)) else J64 r_41))))
def f_X1_layOut (N : Nat) (lt : LV) (bc : BV) (x2 : Int32) : Option (BV) := ck 0 13 (f_X1_layOut_L20 N lt x2  (fun (bc_20 : BV) => some bc_20) N 0 0 ((bc.1, bc.2.1, bc.2.2.1, bc.2.1 ((0 : Int32).toNatClampNeg), 0, bc.2.2.2.2.2.1, bc.2.2.2.2.2.2.1, bc.2.2.2.2.2.2.2)))
def f_X1_find_L27 (N : Nat) (lt : LV) (x2 : Int32)  (K : BV → Option (BV)) : Nat → Int32 → BV → Option (BV)
  | 0, _, _ => none
  | n+1, x3, bc => if x3 < 0 then K bc else (f_X1_findFirst N lt bc x3 x2).bind (fun (r_35 : BV) => f_X1_find_L27 N lt x2  K n (x3 + (-1)) r_35)
def f_X1_find (N : Nat) (lt : LV) (bc : BV) (x2 : Int32) : Option (BV) := ck lt.1 13 (ck lt.1 13 (f_X1_find_L27 N lt x2  (fun (bc_27 : BV) => (f_X1_layOut N lt bc_27 x2).bind (fun (r_47 : BV) => some r_47)) N (lt.1 - 1) ((vp_updL bc.1 (lt.1.toNatClampNeg) 1, upd bc.2.1 (lt.1.toNatClampNeg) 0, bc.2.2.1, bc.2.2.2.1, bc.2.2.2.2.1, bc.2.2.2.2.2.1, bc.2.2.2.2.2.2.1, bc.2.2.2.2.2.2.2))))
def f_X1_greatestProduct (N : Nat) (bc : BV) : Option (Int64) := ck 0 13 (some (bc.1 ((0 : Int32).toNatClampNeg)))
def f_X1_cost (N : Nat) (bc : BV) : Option (Int32) := some (bc.2.2.2.1 + bc.2.2.2.2.1)
abbrev RM_X1_findFirst : Room := { frames := 3, cells := 0, slots := 0, locals := 67 }
theorem in_X1_findFirst_X1 : ∀ w ∈ u_ws RX1 TX1 8, w ∈ wsX1_findFirst := by decide +kernel
theorem fl_X1_findFirst_9 : FL RX1 wsX1_findFirst 1 9 0 RX1 TX1 8 := ⟨in_X1_findFirst_X1, rfl, by decide, by decide +kernel, rfl⟩
theorem fl_X1_findFirst_15 : FL RX1 wsX1_findFirst 1 15 1 RX1 TX1 8 := ⟨in_X1_findFirst_X1, rfl, by decide, by decide +kernel, rfl⟩
theorem fl_X1_findFirst_19 : FL RX1 wsX1_findFirst 1 19 2 RX1 TX1 8 := ⟨in_X1_findFirst_X1, rfl, by decide, by decide +kernel, rfl⟩
set_option maxRecDepth 100000 in
set_option maxHeartbeats 4000000 in
theorem c_X1_findFirst (l : Launch) (dC : Nat → ClassId) (dI : Nat → Nat → Nat) (cI cJ cZ cO : ClassId) (al : Nat → Nat) (abc : Nat → Nat) (N : Nat) (lt : LV) (bc : BV) (x2 : Int32) (x3 : Int32) (o : BV) (hf : f_X1_findFirst N lt bc x2 x3 = some o) : MetV l yX1_findFirst wsX1_findFirst RM_X1_findFirst (dC, dI) (TY cI cJ cZ cO) [.ref (abc 0), .ref (al 0), .int x2, .int x3] (W_L cI cJ cZ cO al lt.1 lt.2.1 lt.2.2.1 lt.2.2.2 ++ (W_B cI cJ cZ cO abc bc.1 bc.2.1 bc.2.2.1 bc.2.2.2.1 bc.2.2.2.2.1 bc.2.2.2.2.2.1 bc.2.2.2.2.2.2.1 bc.2.2.2.2.2.2.2)) (fun _ : Unit => True) (fun _ => (W_L cI cJ cZ cO al lt.1 lt.2.1 lt.2.2.1 lt.2.2.2 ++ (W_B cI cJ cZ cO abc o.1 o.2.1 o.2.2.1 o.2.2.2.1 o.2.2.2.2.1 o.2.2.2.2.2.1 o.2.2.2.2.2.2.1 o.2.2.2.2.2.2.2))) := by
  refine MetV.ofV (cc := cX1_findFirst) (maxL := 10) (ret := none) (own := RX1) (lv0 := [(0, .ref (abc 0)), (1, .ref (al 0)), (2, .int x2), (3, .int x3)]) (by decide) rfl rfl (Nat.le_of_ble_eq_true rfl) rfl ?_
  intro p e s m below meth c A C0 _
  unfold f_X1_findFirst at hf
  refine V_aload_n C0 dX1_findFirst_0 0 rfl rfl ?_
  refine V_get C0 fl_X1_findFirst_9 4 rfl rfl dX1_findFirst_1 rfl ?_
  refine V_iload_n C0 dX1_findFirst_4 2 rfl rfl ?_
  refine V_lconst (v := 0) C0 dX1_findFirst_5 (by decide) rfl ?_
  obtain ⟨hi6, hf⟩ := ck_inv hf
  refine V_last (ws' := (W_L cI cJ cZ cO al lt.1 lt.2.1 lt.2.2.1 lt.2.2.2 ++ (W_B cI cJ cZ cO abc (vp_updL bc.1 (x2.toNatClampNeg) 0) bc.2.1 bc.2.2.1 bc.2.2.2.1 bc.2.2.2.2.1 bc.2.2.2.2.2.1 bc.2.2.2.2.2.2.1 bc.2.2.2.2.2.2.2))) C0 5 1 rfl rfl hi6 dX1_findFirst_6 rfl rfl ?_
  refine V_aload_n C0 dX1_findFirst_7 0 rfl rfl ?_
  refine V_get C0 fl_X1_findFirst_15 4 rfl rfl dX1_findFirst_8 rfl ?_
  refine V_iload_n C0 dX1_findFirst_11 2 rfl rfl ?_
  refine V_iconst (v := 0) C0 dX1_findFirst_12 (by decide) rfl ?_
  obtain ⟨hi13, hf⟩ := ck_inv hf
  refine V_iast (ws' := (W_L cI cJ cZ cO al lt.1 lt.2.1 lt.2.2.1 lt.2.2.2 ++ (W_B cI cJ cZ cO abc (vp_updL bc.1 (x2.toNatClampNeg) 0) (upd bc.2.1 (x2.toNatClampNeg) 0) bc.2.2.1 bc.2.2.2.1 bc.2.2.2.2.1 bc.2.2.2.2.2.1 bc.2.2.2.2.2.2.1 bc.2.2.2.2.2.2.2))) C0 6 0 rfl rfl hi13 dX1_findFirst_13 rfl rfl ?_
  refine V_aload_n C0 dX1_findFirst_14 1 rfl rfl ?_
  refine V_iload_n C0 dX1_findFirst_15 2 rfl rfl ?_
  obtain ⟨r_16, hc_16, hf⟩ := bind_inv hf
  refine V_cVI (ws' := (W_L cI cJ cZ cO al lt.1 lt.2.1 lt.2.2.1 lt.2.2.2 ++ (W_B cI cJ cZ cO abc (vp_updL bc.1 (x2.toNatClampNeg) 0) (upd bc.2.1 (x2.toNatClampNeg) 0) bc.2.2.1 bc.2.2.2.1 bc.2.2.2.2.1 bc.2.2.2.2.2.1 bc.2.2.2.2.2.2.1 bc.2.2.2.2.2.2.2))) (As := [.int x2]) (b := al 0) (st := []) C0 (c_X4_mostLetters l dC dI cI cJ cZ cO al N lt x2 r_16 hc_16) rfl 1 gX1_findFirst_X4_mostLetters (by decide +kernel) ⟨Nat.le_of_ble_eq_true rfl, Nat.le_of_ble_eq_true rfl⟩ rfl 0 4 rfl rfl  ⟨_, (pte pr1), fun _ => (pte pr1)⟩ rfl (Nat.le_of_ble_eq_true rfl) dX1_findFirst_16 rfl ⟨Nat.zero_le _, Nat.zero_le _⟩ ?_
  refine V_istore (lv' := [(4, .int r_16), (0, .ref (abc 0)), (1, .ref (al 0)), (2, .int x2), (3, .int x3)]) C0 dX1_findFirst_19 (by decide) rfl rfl ?_
  refine V_iconst (v := 1) C0 dX1_findFirst_21 (by decide) rfl ?_
  refine V_istore (lv' := [(5, .int 1), (4, .int r_16), (0, .ref (abc 0)), (1, .ref (al 0)), (2, .int x2), (3, .int x3)]) C0 dX1_findFirst_22 (by decide) rfl rfl ?_
  have hL24 : ∀ (x4 : Int32) (K : BV → Option (BV)), (∀ (bc : BV), K bc = some o → V p l e RM_X1_findFirst s m ([.ref (abc 0), .ref (al 0), .int x2, .int x3] : List Value).toArray below meth c 10 (dC, dI) A (MQ below (va_Qv (fun _ : Unit => True) (PostW (dC, dI) (TY cI cJ cZ cO) A (fun _ => (W_L cI cJ cZ cO al lt.1 lt.2.1 lt.2.2.1 lt.2.2.2 ++ (W_B cI cJ cZ cO abc o.1 o.2.1 o.2.2.1 o.2.2.2.1 o.2.2.2.2.1 o.2.2.2.2.2.1 o.2.2.2.2.2.2.1 o.2.2.2.2.2.2.2)))) A) ([.ref (abc 0), .ref (al 0), .int x2, .int x3] : List Value).toArray s 0 0 A) 0 0 (W_L cI cJ cZ cO al lt.1 lt.2.1 lt.2.2.1 lt.2.2.2 ++ (W_B cI cJ cZ cO abc bc.1 bc.2.1 bc.2.2.1 bc.2.2.2.1 bc.2.2.2.2.1 bc.2.2.2.2.2.1 bc.2.2.2.2.2.2.1 bc.2.2.2.2.2.2.2)) 139 [] []) → ∀ (n : Nat) (x5 : Int32) (bc : BV), f_X1_findFirst_L24 N lt x2 x3 x4 K n x5 bc = some o → V p l e RM_X1_findFirst s m ([.ref (abc 0), .ref (al 0), .int x2, .int x3] : List Value).toArray below meth c 10 (dC, dI) A (MQ below (va_Qv (fun _ : Unit => True) (PostW (dC, dI) (TY cI cJ cZ cO) A (fun _ => (W_L cI cJ cZ cO al lt.1 lt.2.1 lt.2.2.1 lt.2.2.2 ++ (W_B cI cJ cZ cO abc o.1 o.2.1 o.2.2.1 o.2.2.2.1 o.2.2.2.2.1 o.2.2.2.2.2.1 o.2.2.2.2.2.2.1 o.2.2.2.2.2.2.2)))) A) ([.ref (abc 0), .ref (al 0), .int x2, .int x3] : List Value).toArray s 0 0 A) 0 0 (W_L cI cJ cZ cO al lt.1 lt.2.1 lt.2.2.1 lt.2.2.2 ++ (W_B cI cJ cZ cO abc bc.1 bc.2.1 bc.2.2.1 bc.2.2.2.1 bc.2.2.2.2.1 bc.2.2.2.2.2.1 bc.2.2.2.2.2.2.1 bc.2.2.2.2.2.2.2)) 24 [(0, .ref (abc 0)), (1, .ref (al 0)), (2, .int x2), (3, .int x3), (4, .int x4), (5, .int x5)] [] := by
    intro x4 K hK n
    induction n with
    | zero => intro x5 bc hf; cases hf
    | succ n hREC =>
      intro x5 bc hf
      rw [f_X1_findFirst_L24] at hf
      refine V_iload C0 dX1_findFirst_24 5 rfl rfl ?_
      refine V_iload C0 dX1_findFirst_26 4 rfl rfl ?_
      refine V_icmp_gt (tgt := 139) C0 dX1_findFirst_28 (by decide) rfl (fun c28 => ?_) (fun c28 => ?_)
      · have hf := ite_t c28 hf
        exact V.sub [] rfl (hK bc hf)
      · have hf := ite_f c28 hf
        refine V_aload_n C0 dX1_findFirst_31 1 rfl rfl ?_
        refine V_iload_n C0 dX1_findFirst_32 2 rfl rfl ?_
        refine V_iload C0 dX1_findFirst_33 5 rfl rfl ?_
        refine V_iload_n C0 dX1_findFirst_35 3 rfl rfl ?_
        obtain ⟨r_36, hc_36, hf⟩ := bind_inv hf
        refine V_cVI (ws' := (W_L cI cJ cZ cO al lt.1 lt.2.1 lt.2.2.1 lt.2.2.2 ++ (W_B cI cJ cZ cO abc bc.1 bc.2.1 bc.2.2.1 bc.2.2.2.1 bc.2.2.2.2.1 bc.2.2.2.2.2.1 bc.2.2.2.2.2.2.1 bc.2.2.2.2.2.2.2))) (As := [.int x2, .int x5, .int x3]) (b := al 0) (st := []) C0 (c_X4_weightAt l dC dI cI cJ cZ cO al N lt x2 x5 x3 r_36 hc_36) rfl 3 gX1_findFirst_X4_weightAt (by decide +kernel) ⟨Nat.le_of_ble_eq_true rfl, Nat.le_of_ble_eq_true rfl⟩ rfl 0 4 rfl rfl  ⟨_, (pte pr1), fun _ => (pte pr1)⟩ rfl (Nat.le_of_ble_eq_true rfl) dX1_findFirst_36 rfl ⟨Nat.zero_le _, Nat.zero_le _⟩ ?_
        refine V_istore (lv' := [(6, .int r_36), (0, .ref (abc 0)), (1, .ref (al 0)), (2, .int x2), (3, .int x3), (4, .int x4), (5, .int x5)]) C0 dX1_findFirst_39 (by decide) rfl rfl ?_
        refine V_iload C0 dX1_findFirst_41 0 rfl rfl ?_
        refine V_i2l C0 dX1_findFirst_43 rfl ?_
        refine V_aload_n C0 dX1_findFirst_44 1 rfl rfl ?_
        refine V_get C0 fl_X1_findFirst_9 4 rfl rfl dX1_findFirst_45 rfl ?_
        refine V_iload_n C0 dX1_findFirst_48 3 rfl rfl ?_
        refine V_iload C0 dX1_findFirst_49 6 rfl rfl ?_
        refine V_iadd C0 dX1_findFirst_51 rfl ?_
        obtain ⟨hi52, hf⟩ := ck_inv hf
        refine V_lald C0 5 1 rfl rfl hi52 dX1_findFirst_52 rfl ?_
        refine V_lmul C0 dX1_findFirst_53 rfl ?_
        refine V_topl (fun x7_1 ex7_1 => ?_)
        have hf := bd_inv ex7_1 hf
        refine V_lstore (lv' := [(7, .long x7_1), (6, .int r_36), (0, .ref (abc 0)), (1, .ref (al 0)), (2, .int x2), (3, .int x3), (4, .int x4), (5, .int x5)]) C0 dX1_findFirst_54 (by decide) rfl rfl ?_
        refine V_iconst (v := 1) C0 dX1_findFirst_56 (by decide) rfl ?_
        refine V_aload_n C0 dX1_findFirst_57 2 rfl rfl ?_
        refine V_get C0 fl_X1_findFirst_15 4 rfl rfl dX1_findFirst_58 rfl ?_
        refine V_iload_n C0 dX1_findFirst_61 4 rfl rfl ?_
        refine V_iload C0 dX1_findFirst_62 7 rfl rfl ?_
        refine V_iadd C0 dX1_findFirst_64 rfl ?_
        obtain ⟨hi65, hf⟩ := ck_inv hf
        refine V_iald C0 6 0 rfl rfl hi65 dX1_findFirst_65 rfl ?_
        refine V_iadd C0 dX1_findFirst_66 rfl ?_
        refine V_topi (fun x9_2 ex9_2 => ?_)
        have hf := bd_inv ex9_2 hf
        refine V_istore (lv' := [(9, .int x9_2), (7, .long x7_1), (6, .int r_36), (0, .ref (abc 0)), (1, .ref (al 0)), (2, .int x2), (3, .int x3), (4, .int x4), (5, .int x5)]) C0 dX1_findFirst_67 (by decide) rfl rfl ?_
        refine V_iload C0 dX1_findFirst_69 2 rfl rfl ?_
        refine V_if_le (tgt := 133) C0 dX1_findFirst_71 (by decide) rfl (fun c71 => ?_) (fun c71 => ?_)
        · have hf := ite_t c71 hf
          refine V_iinc (k := 8) (v := x5 + 1) (lv' := [(5, .int (x5 + 1)), (9, .int x9_2), (7, .long x7_1), (6, .int r_36), (0, .ref (abc 0)), (1, .ref (al 0)), (2, .int x2), (3, .int x3), (4, .int x4)]) C0 dX1_findFirst_133 rfl rfl (by decide) rfl rfl ?_
          refine V_goto (tgt := 24) C0 dX1_findFirst_136 (by decide) ?_
          exact V.sub [4, 5, 6, 7, 8, 0] rfl (hREC (x5 + 1) bc hf)
        · have hf := ite_f c71 hf
          refine V_lload C0 dX1_findFirst_74 1 rfl rfl ?_
          refine V_aload_n C0 dX1_findFirst_76 3 rfl rfl ?_
          refine V_get C0 fl_X1_findFirst_9 4 rfl rfl dX1_findFirst_77 rfl ?_
          refine V_iload_n C0 dX1_findFirst_80 5 rfl rfl ?_
          obtain ⟨hi81, hf⟩ := ck_inv hf
          refine V_lald C0 5 1 rfl rfl hi81 dX1_findFirst_81 rfl ?_
          refine V_lcmp C0 dX1_findFirst_82 rfl ?_
          refine jn_elim hf (fun (J : Unit → Option (BV)) => ∀ (u : Unit), J u = some o → V p l e RM_X1_findFirst s m ([.ref (abc 0), .ref (al 0), .int x2, .int x3] : List Value).toArray below meth c 10 (dC, dI) A (MQ below (va_Qv (fun _ : Unit => True) (PostW (dC, dI) (TY cI cJ cZ cO) A (fun _ => (W_L cI cJ cZ cO al lt.1 lt.2.1 lt.2.2.1 lt.2.2.2 ++ (W_B cI cJ cZ cO abc o.1 o.2.1 o.2.2.1 o.2.2.2.1 o.2.2.2.2.1 o.2.2.2.2.2.1 o.2.2.2.2.2.2.1 o.2.2.2.2.2.2.2)))) A) ([.ref (abc 0), .ref (al 0), .int x2, .int x3] : List Value).toArray s 0 0 A) 0 0 (W_L cI cJ cZ cO al lt.1 lt.2.1 lt.2.2.1 lt.2.2.2 ++ (W_B cI cJ cZ cO abc bc.1 bc.2.1 bc.2.2.1 bc.2.2.2.1 bc.2.2.2.2.1 bc.2.2.2.2.2.1 bc.2.2.2.2.2.2.1 bc.2.2.2.2.2.2.2)) 109 [(0, .ref (abc 0)), (1, .ref (al 0)), (2, .int x2), (3, .int x3), (4, .int x4), (5, .int x5), (7, .long x7_1), (9, .int x9_2)] []) ?_ ?_
          · intro u hf
            refine V_aload_n C0 dX1_findFirst_109 0 rfl rfl ?_
            refine V_get C0 fl_X1_findFirst_9 4 rfl rfl dX1_findFirst_110 rfl ?_
            refine V_iload_n C0 dX1_findFirst_113 2 rfl rfl ?_
            refine V_lload C0 dX1_findFirst_114 6 rfl rfl ?_
            obtain ⟨hi116, hf⟩ := ck_inv hf
            refine V_last (ws' := (W_L cI cJ cZ cO al lt.1 lt.2.1 lt.2.2.1 lt.2.2.2 ++ (W_B cI cJ cZ cO abc (vp_updL bc.1 (x2.toNatClampNeg) x7_1) bc.2.1 bc.2.2.1 bc.2.2.2.1 bc.2.2.2.2.1 bc.2.2.2.2.2.1 bc.2.2.2.2.2.2.1 bc.2.2.2.2.2.2.2))) C0 5 1 rfl rfl hi116 dX1_findFirst_116 rfl rfl ?_
            refine V_aload_n C0 dX1_findFirst_117 0 rfl rfl ?_
            refine V_get C0 fl_X1_findFirst_15 4 rfl rfl dX1_findFirst_118 rfl ?_
            refine V_iload_n C0 dX1_findFirst_121 2 rfl rfl ?_
            refine V_iload C0 dX1_findFirst_122 7 rfl rfl ?_
            obtain ⟨hi124, hf⟩ := ck_inv hf
            refine V_iast (ws' := (W_L cI cJ cZ cO al lt.1 lt.2.1 lt.2.2.1 lt.2.2.2 ++ (W_B cI cJ cZ cO abc (vp_updL bc.1 (x2.toNatClampNeg) x7_1) (upd bc.2.1 (x2.toNatClampNeg) x9_2) bc.2.2.1 bc.2.2.2.1 bc.2.2.2.2.1 bc.2.2.2.2.2.1 bc.2.2.2.2.2.2.1 bc.2.2.2.2.2.2.2))) C0 6 0 rfl rfl hi124 dX1_findFirst_124 rfl rfl ?_
            refine V_aload_n C0 dX1_findFirst_125 0 rfl rfl ?_
            refine V_get C0 fl_X1_findFirst_19 4 rfl rfl dX1_findFirst_126 rfl ?_
            refine V_iload_n C0 dX1_findFirst_129 2 rfl rfl ?_
            refine V_iload C0 dX1_findFirst_130 5 rfl rfl ?_
            obtain ⟨hi132, hf⟩ := ck_inv hf
            refine V_iast (ws' := (W_L cI cJ cZ cO al lt.1 lt.2.1 lt.2.2.1 lt.2.2.2 ++ (W_B cI cJ cZ cO abc (vp_updL bc.1 (x2.toNatClampNeg) x7_1) (upd bc.2.1 (x2.toNatClampNeg) x9_2) (upd bc.2.2.1 (x2.toNatClampNeg) x5) bc.2.2.2.1 bc.2.2.2.2.1 bc.2.2.2.2.2.1 bc.2.2.2.2.2.2.1 bc.2.2.2.2.2.2.2))) C0 7 0 rfl rfl hi132 dX1_findFirst_132 rfl rfl ?_
            refine V_iinc (k := 5) (v := x5 + 1) (lv' := [(5, .int (x5 + 1)), (0, .ref (abc 0)), (1, .ref (al 0)), (2, .int x2), (3, .int x3), (4, .int x4), (7, .long x7_1), (9, .int x9_2)]) C0 dX1_findFirst_133 rfl rfl (by decide) rfl rfl ?_
            refine V_goto (tgt := 24) C0 dX1_findFirst_136 (by decide) ?_
            exact V.sub [1, 2, 3, 4, 5, 0] rfl (hREC (x5 + 1) ((vp_updL bc.1 (x2.toNatClampNeg) x7_1, upd bc.2.1 (x2.toNatClampNeg) x9_2, upd bc.2.2.1 (x2.toNatClampNeg) x5, bc.2.2.2.1, bc.2.2.2.2.1, bc.2.2.2.2.2.1, bc.2.2.2.2.2.2.1, bc.2.2.2.2.2.2.2)) hf)
          · intro J109 hJ109 hf
            refine V_if_gt (tgt := 109) C0 dX1_findFirst_83 (by decide) rfl (fun c83 => ?_) (fun c83 => ?_)
            · have hf := ite_t c83 hf
              exact V.sub [3, 4, 5, 6, 7, 8, 1, 0] rfl (hJ109 () hf)
            · have hf := ite_f c83 hf
              refine V_lload C0 dX1_findFirst_86 1 rfl rfl ?_
              refine V_aload_n C0 dX1_findFirst_88 3 rfl rfl ?_
              refine V_get C0 fl_X1_findFirst_9 4 rfl rfl dX1_findFirst_89 rfl ?_
              refine V_iload_n C0 dX1_findFirst_92 5 rfl rfl ?_
              obtain ⟨hi93, hf⟩ := ck_inv hf
              refine V_lald C0 5 1 rfl rfl hi93 dX1_findFirst_93 rfl ?_
              refine V_lcmp C0 dX1_findFirst_94 rfl ?_
              refine V_if_ne (tgt := 133) C0 dX1_findFirst_95 (by decide) rfl (fun c95 => ?_) (fun c95 => ?_)
              · have hf := ite_f c95 hf
                refine V_iinc (k := 8) (v := x5 + 1) (lv' := [(5, .int (x5 + 1)), (9, .int x9_2), (7, .long x7_1), (6, .int r_36), (0, .ref (abc 0)), (1, .ref (al 0)), (2, .int x2), (3, .int x3), (4, .int x4)]) C0 dX1_findFirst_133 rfl rfl (by decide) rfl rfl ?_
                refine V_goto (tgt := 24) C0 dX1_findFirst_136 (by decide) ?_
                exact V.sub [4, 5, 6, 7, 8, 0] rfl (hREC (x5 + 1) bc hf)
              · have hf := ite_t c95 hf
                refine V_iload C0 dX1_findFirst_98 0 rfl rfl ?_
                refine V_aload_n C0 dX1_findFirst_100 3 rfl rfl ?_
                refine V_get C0 fl_X1_findFirst_15 4 rfl rfl dX1_findFirst_101 rfl ?_
                refine V_iload_n C0 dX1_findFirst_104 5 rfl rfl ?_
                obtain ⟨hi105, hf⟩ := ck_inv hf
                refine V_iald C0 6 0 rfl rfl hi105 dX1_findFirst_105 rfl ?_
                refine V_icmp_gt (tgt := 133) C0 dX1_findFirst_106 (by decide) rfl (fun c106 => ?_) (fun c106 => ?_)
                · have hf := ite_t c106 hf
                  refine V_iinc (k := 8) (v := x5 + 1) (lv' := [(5, .int (x5 + 1)), (9, .int x9_2), (7, .long x7_1), (6, .int r_36), (0, .ref (abc 0)), (1, .ref (al 0)), (2, .int x2), (3, .int x3), (4, .int x4)]) C0 dX1_findFirst_133 rfl rfl (by decide) rfl rfl ?_
                  refine V_goto (tgt := 24) C0 dX1_findFirst_136 (by decide) ?_
                  exact V.sub [4, 5, 6, 7, 8, 0] rfl (hREC (x5 + 1) bc hf)
                · have hf := ite_f c106 hf
                  exact V.sub [3, 4, 5, 6, 7, 8, 1, 0] rfl (hJ109 () hf)
  refine V.sub [2, 3, 4, 5, 1, 0] rfl (hL24 r_16 _ ?_ N 1 ((vp_updL bc.1 (x2.toNatClampNeg) 0, upd bc.2.1 (x2.toNatClampNeg) 0, bc.2.2.1, bc.2.2.2.1, bc.2.2.2.2.1, bc.2.2.2.2.2.1, bc.2.2.2.2.2.2.1, bc.2.2.2.2.2.2.2)) hf)
  intro bc_24 hf
  obtain rfl := some_inv hf
  exact V_vret C0 () trivial rfl dX1_findFirst_139
abbrev RM_X1_layOut : Room := { frames := 2, cells := 0, slots := 0, locals := 43 }
theorem in_X1_layOut_X1 : ∀ w ∈ u_ws RX1 TX1 8, w ∈ wsX1_layOut := by decide +kernel
theorem fl_X1_layOut_15 : FL RX1 wsX1_layOut 1 15 1 RX1 TX1 8 := ⟨in_X1_layOut_X1, rfl, by decide, by decide +kernel, rfl⟩
theorem fl_X1_layOut_19 : FL RX1 wsX1_layOut 1 19 2 RX1 TX1 8 := ⟨in_X1_layOut_X1, rfl, by decide, by decide +kernel, rfl⟩
theorem fl_X1_layOut_22 : FL RX1 wsX1_layOut 1 22 5 RX1 TX1 8 := ⟨in_X1_layOut_X1, rfl, by decide, by decide +kernel, rfl⟩
theorem fl_X1_layOut_25 : FL RX1 wsX1_layOut 1 25 6 RX1 TX1 8 := ⟨in_X1_layOut_X1, rfl, by decide, by decide +kernel, rfl⟩
theorem fl_X1_layOut_28 : FL RX1 wsX1_layOut 1 28 7 RX1 TX1 8 := ⟨in_X1_layOut_X1, rfl, by decide, by decide +kernel, rfl⟩
theorem fl_X1_layOut_53 : FL RX1 wsX1_layOut 1 53 3 RX1 TX1 8 := ⟨in_X1_layOut_X1, rfl, by decide, by decide +kernel, rfl⟩
theorem fl_X1_layOut_56 : FL RX1 wsX1_layOut 1 56 4 RX1 TX1 8 := ⟨in_X1_layOut_X1, rfl, by decide, by decide +kernel, rfl⟩
set_option maxRecDepth 100000 in
set_option maxHeartbeats 4000000 in
theorem c_X1_layOut (l : Launch) (dC : Nat → ClassId) (dI : Nat → Nat → Nat) (cI cJ cZ cO : ClassId) (al : Nat → Nat) (abc : Nat → Nat) (N : Nat) (lt : LV) (bc : BV) (x2 : Int32) (o : BV) (hf : f_X1_layOut N lt bc x2 = some o) : MetV l yX1_layOut wsX1_layOut RM_X1_layOut (dC, dI) (TY cI cJ cZ cO) [.ref (abc 0), .ref (al 0), .int x2] (W_L cI cJ cZ cO al lt.1 lt.2.1 lt.2.2.1 lt.2.2.2 ++ (W_B cI cJ cZ cO abc bc.1 bc.2.1 bc.2.2.1 bc.2.2.2.1 bc.2.2.2.2.1 bc.2.2.2.2.2.1 bc.2.2.2.2.2.2.1 bc.2.2.2.2.2.2.2)) (fun _ : Unit => True) (fun _ => (W_L cI cJ cZ cO al lt.1 lt.2.1 lt.2.2.1 lt.2.2.2 ++ (W_B cI cJ cZ cO abc o.1 o.2.1 o.2.2.1 o.2.2.2.1 o.2.2.2.2.1 o.2.2.2.2.2.1 o.2.2.2.2.2.2.1 o.2.2.2.2.2.2.2))) := by
  refine MetV.ofV (cc := cX1_layOut) (maxL := 7) (ret := none) (own := RX1) (lv0 := [(0, .ref (abc 0)), (1, .ref (al 0)), (2, .int x2)]) (by decide) rfl rfl (Nat.le_of_ble_eq_true rfl) rfl ?_
  intro p e s m below meth c A C0 _
  unfold f_X1_layOut at hf
  refine V_aload_n C0 dX1_layOut_0 0 rfl rfl ?_
  refine V_aload_n C0 dX1_layOut_1 0 rfl rfl ?_
  refine V_get C0 fl_X1_layOut_15 4 rfl rfl dX1_layOut_2 rfl ?_
  refine V_iconst (v := 0) C0 dX1_layOut_5 (by decide) rfl ?_
  obtain ⟨hi6, hf⟩ := ck_inv hf
  refine V_iald C0 6 0 rfl rfl hi6 dX1_layOut_6 rfl ?_
  refine V_put (ws' := (W_L cI cJ cZ cO al lt.1 lt.2.1 lt.2.2.1 lt.2.2.2 ++ (W_B cI cJ cZ cO abc bc.1 bc.2.1 bc.2.2.1 (bc.2.1 ((0 : Int32).toNatClampNeg)) bc.2.2.2.2.1 bc.2.2.2.2.2.1 bc.2.2.2.2.2.2.1 bc.2.2.2.2.2.2.2))) C0 fl_X1_layOut_53 tyX1_ok nmX1 rfl 4 rfl rfl rfl (Nat.le_of_ble_eq_true rfl) dX1_layOut_7 rfl rfl ?_
  refine V_aload_n C0 dX1_layOut_10 0 rfl rfl ?_
  refine V_iconst (v := 0) C0 dX1_layOut_11 (by decide) rfl ?_
  refine V_put (ws' := (W_L cI cJ cZ cO al lt.1 lt.2.1 lt.2.2.1 lt.2.2.2 ++ (W_B cI cJ cZ cO abc bc.1 bc.2.1 bc.2.2.1 (bc.2.1 ((0 : Int32).toNatClampNeg)) 0 bc.2.2.2.2.2.1 bc.2.2.2.2.2.2.1 bc.2.2.2.2.2.2.2))) C0 fl_X1_layOut_56 tyX1_ok nmX1 rfl 4 rfl rfl rfl (Nat.le_of_ble_eq_true rfl) dX1_layOut_12 rfl rfl ?_
  refine V_iconst (v := 0) C0 dX1_layOut_15 (by decide) rfl ?_
  refine V_istore_n (lv' := [(3, .int 0), (0, .ref (abc 0)), (1, .ref (al 0)), (2, .int x2)]) C0 dX1_layOut_16 rfl (by decide) rfl rfl ?_
  refine V_iconst (v := 0) C0 dX1_layOut_17 (by decide) rfl ?_
  refine V_istore (lv' := [(4, .int 0), (3, .int 0), (0, .ref (abc 0)), (1, .ref (al 0)), (2, .int x2)]) C0 dX1_layOut_18 (by decide) rfl rfl ?_
  have hL20 : ∀ (K : BV → Option (BV)), (∀ (bc : BV), K bc = some o → V p l e RM_X1_layOut s m ([.ref (abc 0), .ref (al 0), .int x2] : List Value).toArray below meth c 7 (dC, dI) A (MQ below (va_Qv (fun _ : Unit => True) (PostW (dC, dI) (TY cI cJ cZ cO) A (fun _ => (W_L cI cJ cZ cO al lt.1 lt.2.1 lt.2.2.1 lt.2.2.2 ++ (W_B cI cJ cZ cO abc o.1 o.2.1 o.2.2.1 o.2.2.2.1 o.2.2.2.2.1 o.2.2.2.2.2.1 o.2.2.2.2.2.2.1 o.2.2.2.2.2.2.2)))) A) ([.ref (abc 0), .ref (al 0), .int x2] : List Value).toArray s 0 0 A) 0 0 (W_L cI cJ cZ cO al lt.1 lt.2.1 lt.2.2.1 lt.2.2.2 ++ (W_B cI cJ cZ cO abc bc.1 bc.2.1 bc.2.2.1 bc.2.2.2.1 bc.2.2.2.2.1 bc.2.2.2.2.2.1 bc.2.2.2.2.2.2.1 bc.2.2.2.2.2.2.2)) 114 [] []) → ∀ (n : Nat) (x3 : Int32) (x4 : Int32) (bc : BV), f_X1_layOut_L20 N lt x2  K n x3 x4 bc = some o → V p l e RM_X1_layOut s m ([.ref (abc 0), .ref (al 0), .int x2] : List Value).toArray below meth c 7 (dC, dI) A (MQ below (va_Qv (fun _ : Unit => True) (PostW (dC, dI) (TY cI cJ cZ cO) A (fun _ => (W_L cI cJ cZ cO al lt.1 lt.2.1 lt.2.2.1 lt.2.2.2 ++ (W_B cI cJ cZ cO abc o.1 o.2.1 o.2.2.1 o.2.2.2.1 o.2.2.2.2.1 o.2.2.2.2.2.1 o.2.2.2.2.2.2.1 o.2.2.2.2.2.2.2)))) A) ([.ref (abc 0), .ref (al 0), .int x2] : List Value).toArray s 0 0 A) 0 0 (W_L cI cJ cZ cO al lt.1 lt.2.1 lt.2.2.1 lt.2.2.2 ++ (W_B cI cJ cZ cO abc bc.1 bc.2.1 bc.2.2.1 bc.2.2.2.1 bc.2.2.2.2.1 bc.2.2.2.2.2.1 bc.2.2.2.2.2.2.1 bc.2.2.2.2.2.2.2)) 20 [(0, .ref (abc 0)), (1, .ref (al 0)), (2, .int x2), (3, .int x3), (4, .int x4)] [] := by
    intro  K hK n
    induction n with
    | zero => intro x3 x4 bc hf; cases hf
    | succ n hREC =>
      intro x3 x4 bc hf
      rw [f_X1_layOut_L20] at hf
      refine V_iload C0 dX1_layOut_20 4 rfl rfl ?_
      refine V_aload_n C0 dX1_layOut_22 0 rfl rfl ?_
      refine V_get C0 fl_X1_layOut_53 4 rfl rfl dX1_layOut_23 rfl ?_
      refine V_icmp_ge (tgt := 114) C0 dX1_layOut_26 (by decide) rfl (fun c26 => ?_) (fun c26 => ?_)
      · have hf := ite_t c26 hf
        exact V.sub [] rfl (hK bc hf)
      · have hf := ite_f c26 hf
        refine V_aload_n C0 dX1_layOut_29 0 rfl rfl ?_
        refine V_get C0 fl_X1_layOut_19 4 rfl rfl dX1_layOut_30 rfl ?_
        refine V_iload_n C0 dX1_layOut_33 3 rfl rfl ?_
        obtain ⟨hi34, hf⟩ := ck_inv hf
        refine V_iald C0 7 0 rfl rfl hi34 dX1_layOut_34 rfl ?_
        refine V_topi (fun x5_1 ex5_1 => ?_)
        have hf := bd_inv ex5_1 hf
        refine V_istore (lv' := [(5, .int x5_1), (0, .ref (abc 0)), (1, .ref (al 0)), (2, .int x2), (3, .int x3), (4, .int x4)]) C0 dX1_layOut_35 (by decide) rfl rfl ?_
        refine V_aload_n C0 dX1_layOut_37 2 rfl rfl ?_
        refine V_iload_n C0 dX1_layOut_38 4 rfl rfl ?_
        refine V_iload C0 dX1_layOut_39 0 rfl rfl ?_
        obtain ⟨r_41, hc_41, hf⟩ := bind_inv hf
        refine V_cVI (ws' := (W_L cI cJ cZ cO al lt.1 lt.2.1 lt.2.2.1 lt.2.2.2 ++ (W_B cI cJ cZ cO abc bc.1 bc.2.1 bc.2.2.1 bc.2.2.2.1 bc.2.2.2.2.1 bc.2.2.2.2.2.1 bc.2.2.2.2.2.2.1 bc.2.2.2.2.2.2.2))) (As := [.int x3, .int x5_1]) (b := al 0) (st := []) C0 (c_X4_pieceAt l dC dI cI cJ cZ cO al N lt x3 x5_1 r_41 hc_41) rfl 2 gX1_layOut_X4_pieceAt (by decide +kernel) ⟨Nat.le_of_ble_eq_true rfl, Nat.le_of_ble_eq_true rfl⟩ rfl 0 4 rfl rfl  ⟨_, (pte pr1), fun _ => (pte pr1)⟩ rfl (Nat.le_of_ble_eq_true rfl) dX1_layOut_41 rfl ⟨Nat.zero_le _, Nat.zero_le _⟩ ?_
        refine V_istore (lv' := [(6, .int r_41), (5, .int x5_1), (0, .ref (abc 0)), (1, .ref (al 0)), (2, .int x2), (3, .int x3), (4, .int x4)]) C0 dX1_layOut_44 (by decide) rfl rfl ?_
        refine V_aload_n C0 dX1_layOut_46 2 rfl rfl ?_
        refine V_get C0 fl_X1_layOut_22 4 rfl rfl dX1_layOut_47 rfl ?_
        refine V_iload C0 dX1_layOut_50 6 rfl rfl ?_
        refine V_iload C0 dX1_layOut_52 0 rfl rfl ?_
        refine V_iload_n C0 dX1_layOut_54 4 rfl rfl ?_
        refine jn_elim hf (fun (J : Int32 → Option (BV)) => ∀ (s2_64 : Int32), J s2_64 = some o → V p l e RM_X1_layOut s m ([.ref (abc 0), .ref (al 0), .int x2] : List Value).toArray below meth c 7 (dC, dI) A (MQ below (va_Qv (fun _ : Unit => True) (PostW (dC, dI) (TY cI cJ cZ cO) A (fun _ => (W_L cI cJ cZ cO al lt.1 lt.2.1 lt.2.2.1 lt.2.2.2 ++ (W_B cI cJ cZ cO abc o.1 o.2.1 o.2.2.1 o.2.2.2.1 o.2.2.2.2.1 o.2.2.2.2.2.1 o.2.2.2.2.2.2.1 o.2.2.2.2.2.2.2)))) A) ([.ref (abc 0), .ref (al 0), .int x2] : List Value).toArray s 0 0 A) 0 0 (W_L cI cJ cZ cO al lt.1 lt.2.1 lt.2.2.1 lt.2.2.2 ++ (W_B cI cJ cZ cO abc bc.1 bc.2.1 bc.2.2.1 bc.2.2.2.1 bc.2.2.2.2.1 bc.2.2.2.2.2.1 bc.2.2.2.2.2.2.1 bc.2.2.2.2.2.2.2)) 64 [(0, .ref (abc 0)), (1, .ref (al 0)), (2, .int x2), (3, .int x3), (4, .int x4), (5, .int x5_1)] [.int s2_64, .int x4, .ref (abc 4)]) ?_ ?_
        · intro s2_64 hf
          obtain ⟨hi64, hf⟩ := ck_inv hf
          refine V_iast (ws' := (W_L cI cJ cZ cO al lt.1 lt.2.1 lt.2.2.1 lt.2.2.2 ++ (W_B cI cJ cZ cO abc bc.1 bc.2.1 bc.2.2.1 bc.2.2.2.1 bc.2.2.2.2.1 (upd bc.2.2.2.2.2.1 (x4.toNatClampNeg) s2_64) bc.2.2.2.2.2.2.1 bc.2.2.2.2.2.2.2))) C0 8 0 rfl rfl hi64 dX1_layOut_64 rfl rfl ?_
          refine V_aload_n C0 dX1_layOut_65 0 rfl rfl ?_
          refine V_get C0 fl_X1_layOut_25 4 rfl rfl dX1_layOut_66 rfl ?_
          refine V_iload C0 dX1_layOut_69 4 rfl rfl ?_
          refine V_iload_n C0 dX1_layOut_71 3 rfl rfl ?_
          obtain ⟨hi72, hf⟩ := ck_inv hf
          refine V_iast (ws' := (W_L cI cJ cZ cO al lt.1 lt.2.1 lt.2.2.1 lt.2.2.2 ++ (W_B cI cJ cZ cO abc bc.1 bc.2.1 bc.2.2.1 bc.2.2.2.1 bc.2.2.2.2.1 (upd bc.2.2.2.2.2.1 (x4.toNatClampNeg) s2_64) (upd bc.2.2.2.2.2.2.1 (x4.toNatClampNeg) x3) bc.2.2.2.2.2.2.2))) C0 9 0 rfl rfl hi72 dX1_layOut_72 rfl rfl ?_
          refine V_aload_n C0 dX1_layOut_73 0 rfl rfl ?_
          refine V_get C0 fl_X1_layOut_28 4 rfl rfl dX1_layOut_74 rfl ?_
          refine V_iload C0 dX1_layOut_77 4 rfl rfl ?_
          refine V_iload C0 dX1_layOut_79 5 rfl rfl ?_
          obtain ⟨hi81, hf⟩ := ck_inv hf
          refine V_iast (ws' := (W_L cI cJ cZ cO al lt.1 lt.2.1 lt.2.2.1 lt.2.2.2 ++ (W_B cI cJ cZ cO abc bc.1 bc.2.1 bc.2.2.1 bc.2.2.2.1 bc.2.2.2.2.1 (upd bc.2.2.2.2.2.1 (x4.toNatClampNeg) s2_64) (upd bc.2.2.2.2.2.2.1 (x4.toNatClampNeg) x3) (upd bc.2.2.2.2.2.2.2 (x4.toNatClampNeg) x5_1)))) C0 10 0 rfl rfl hi81 dX1_layOut_81 rfl rfl ?_
          refine V_aload_n C0 dX1_layOut_82 0 rfl rfl ?_
          refine V_get C0 fl_X1_layOut_22 4 rfl rfl dX1_layOut_83 rfl ?_
          refine V_iload C0 dX1_layOut_86 4 rfl rfl ?_
          obtain ⟨hi88, hf⟩ := ck_inv hf
          refine V_iald C0 8 0 rfl rfl hi88 dX1_layOut_88 rfl ?_
          refine V_iconst (v := (-1)) C0 dX1_layOut_89 (by decide) rfl ?_
          refine V_icmp_ne (tgt := 103) C0 dX1_layOut_90 (by decide) rfl (fun c90 => ?_) (fun c90 => ?_)
          · have hf := ite_f c90 hf
            refine V_iload_n C0 dX1_layOut_103 3 rfl rfl ?_
            refine V_iload C0 dX1_layOut_104 5 rfl rfl ?_
            refine V_iadd C0 dX1_layOut_106 rfl ?_
            refine V_topi (fun x3_2 ex3_2 => ?_)
            have hf := bd_inv ex3_2 hf
            refine V_istore_n (lv' := [(3, .int x3_2), (0, .ref (abc 0)), (1, .ref (al 0)), (2, .int x2), (4, .int x4), (5, .int x5_1)]) C0 dX1_layOut_107 rfl (by decide) rfl rfl ?_
            refine V_iinc (k := 4) (v := x4 + 1) (lv' := [(4, .int (x4 + 1)), (3, .int x3_2), (0, .ref (abc 0)), (1, .ref (al 0)), (2, .int x2), (5, .int x5_1)]) C0 dX1_layOut_108 rfl rfl (by decide) rfl rfl ?_
            refine V_goto (tgt := 20) C0 dX1_layOut_111 (by decide) ?_
            exact V.sub [2, 3, 4, 1, 0] rfl (hREC x3_2 (x4 + 1) ((bc.1, bc.2.1, bc.2.2.1, bc.2.2.2.1, bc.2.2.2.2.1, upd bc.2.2.2.2.2.1 (x4.toNatClampNeg) s2_64, upd bc.2.2.2.2.2.2.1 (x4.toNatClampNeg) x3, upd bc.2.2.2.2.2.2.2 (x4.toNatClampNeg) x5_1)) hf)
          · have hf := ite_t c90 hf
            refine V_aload_n C0 dX1_layOut_93 0 rfl rfl ?_
            refine V_dup C0 dX1_layOut_94 rfl rfl ?_
            refine V_get C0 fl_X1_layOut_56 4 rfl rfl dX1_layOut_95 rfl ?_
            refine V_iconst (v := 1) C0 dX1_layOut_98 (by decide) rfl ?_
            refine V_iadd C0 dX1_layOut_99 rfl ?_
            refine V_put (ws' := (W_L cI cJ cZ cO al lt.1 lt.2.1 lt.2.2.1 lt.2.2.2 ++ (W_B cI cJ cZ cO abc bc.1 bc.2.1 bc.2.2.1 bc.2.2.2.1 (bc.2.2.2.2.1 + 1) (upd bc.2.2.2.2.2.1 (x4.toNatClampNeg) s2_64) (upd bc.2.2.2.2.2.2.1 (x4.toNatClampNeg) x3) (upd bc.2.2.2.2.2.2.2 (x4.toNatClampNeg) x5_1)))) C0 fl_X1_layOut_56 tyX1_ok nmX1 rfl 4 rfl rfl rfl (Nat.le_of_ble_eq_true rfl) dX1_layOut_100 rfl rfl ?_
            refine V_iload_n C0 dX1_layOut_103 3 rfl rfl ?_
            refine V_iload C0 dX1_layOut_104 5 rfl rfl ?_
            refine V_iadd C0 dX1_layOut_106 rfl ?_
            refine V_topi (fun x3_3 ex3_3 => ?_)
            have hf := bd_inv ex3_3 hf
            refine V_istore_n (lv' := [(3, .int x3_3), (0, .ref (abc 0)), (1, .ref (al 0)), (2, .int x2), (4, .int x4), (5, .int x5_1)]) C0 dX1_layOut_107 rfl (by decide) rfl rfl ?_
            refine V_iinc (k := 4) (v := x4 + 1) (lv' := [(4, .int (x4 + 1)), (3, .int x3_3), (0, .ref (abc 0)), (1, .ref (al 0)), (2, .int x2), (5, .int x5_1)]) C0 dX1_layOut_108 rfl rfl (by decide) rfl rfl ?_
            refine V_goto (tgt := 20) C0 dX1_layOut_111 (by decide) ?_
            exact V.sub [2, 3, 4, 1, 0] rfl (hREC x3_3 (x4 + 1) ((bc.1, bc.2.1, bc.2.2.1, bc.2.2.2.1, bc.2.2.2.2.1 + 1, upd bc.2.2.2.2.2.1 (x4.toNatClampNeg) s2_64, upd bc.2.2.2.2.2.2.1 (x4.toNatClampNeg) x3, upd bc.2.2.2.2.2.2.2 (x4.toNatClampNeg) x5_1)) hf)
        · intro J64 hJ64 hf
          refine V_icmp_ne (tgt := 62) C0 dX1_layOut_55 (by decide) rfl (fun c55 => ?_) (fun c55 => ?_)
          · have hf := ite_f c55 hf
            refine V_iload C0 dX1_layOut_62 0 rfl rfl ?_
            exact V.sub [2, 3, 4, 5, 6, 1] rfl (hJ64 r_41 hf)
          · have hf := ite_t c55 hf
            refine V_iconst (v := (-1)) C0 dX1_layOut_58 (by decide) rfl ?_
            refine V_goto (tgt := 64) C0 dX1_layOut_59 (by decide) ?_
            exact V.sub [2, 3, 4, 5, 6, 1] rfl (hJ64 ((-1)) hf)
  refine V.sub [2, 3, 4, 1, 0] rfl (hL20  _ ?_ N 0 0 ((bc.1, bc.2.1, bc.2.2.1, bc.2.1 ((0 : Int32).toNatClampNeg), 0, bc.2.2.2.2.2.1, bc.2.2.2.2.2.2.1, bc.2.2.2.2.2.2.2)) hf)
  intro bc_20 hf
  obtain rfl := some_inv hf
  exact V_vret C0 () trivial rfl dX1_layOut_114
abbrev RM_X1_find : Room := { frames := 4, cells := 0, slots := 0, locals := 96 }
theorem in_X1_find_X1 : ∀ w ∈ u_ws RX1 TX1 8, w ∈ wsX1_find := by decide +kernel
theorem in_X1_find_X4 : ∀ w ∈ u_ws RX4 TX4 4, w ∈ wsX1_find := by decide +kernel
theorem fl_X1_find_9 : FL RX1 wsX1_find 1 9 0 RX1 TX1 8 := ⟨in_X1_find_X1, rfl, by decide, by decide +kernel, rfl⟩
theorem fl_X1_find_15 : FL RX1 wsX1_find 1 15 1 RX1 TX1 8 := ⟨in_X1_find_X1, rfl, by decide, by decide +kernel, rfl⟩
theorem fl_X1_find_31 : FL RX1 wsX1_find 4 31 0 RX4 TX4 4 := ⟨in_X1_find_X4, rfl, by decide, by decide +kernel, rfl⟩
set_option maxRecDepth 100000 in
set_option maxHeartbeats 4000000 in
theorem c_X1_find (l : Launch) (dC : Nat → ClassId) (dI : Nat → Nat → Nat) (cI cJ cZ cO : ClassId) (al : Nat → Nat) (abc : Nat → Nat) (N : Nat) (lt : LV) (bc : BV) (x2 : Int32) (o : BV) (hf : f_X1_find N lt bc x2 = some o) : MetV l yX1_find wsX1_find RM_X1_find (dC, dI) (TY cI cJ cZ cO) [.ref (abc 0), .ref (al 0), .int x2] (W_L cI cJ cZ cO al lt.1 lt.2.1 lt.2.2.1 lt.2.2.2 ++ (W_B cI cJ cZ cO abc bc.1 bc.2.1 bc.2.2.1 bc.2.2.2.1 bc.2.2.2.2.1 bc.2.2.2.2.2.1 bc.2.2.2.2.2.2.1 bc.2.2.2.2.2.2.2)) (fun _ : Unit => True) (fun _ => (W_L cI cJ cZ cO al lt.1 lt.2.1 lt.2.2.1 lt.2.2.2 ++ (W_B cI cJ cZ cO abc o.1 o.2.1 o.2.2.1 o.2.2.2.1 o.2.2.2.2.1 o.2.2.2.2.2.1 o.2.2.2.2.2.2.1 o.2.2.2.2.2.2.2))) := by
  refine MetV.ofV (cc := cX1_find) (maxL := 4) (ret := none) (own := RX1) (lv0 := [(0, .ref (abc 0)), (1, .ref (al 0)), (2, .int x2)]) (by decide) rfl rfl (Nat.le_of_ble_eq_true rfl) rfl ?_
  intro p e s m below meth c A C0 _
  unfold f_X1_find at hf
  refine V_aload_n C0 dX1_find_0 0 rfl rfl ?_
  refine V_get C0 fl_X1_find_9 4 rfl rfl dX1_find_1 rfl ?_
  refine V_aload_n C0 dX1_find_4 1 rfl rfl ?_
  refine V_get C0 fl_X1_find_31 0 rfl rfl dX1_find_5 rfl ?_
  refine V_lconst (v := 1) C0 dX1_find_8 (by decide) rfl ?_
  obtain ⟨hi9, hf⟩ := ck_inv hf
  refine V_last (ws' := (W_L cI cJ cZ cO al lt.1 lt.2.1 lt.2.2.1 lt.2.2.2 ++ (W_B cI cJ cZ cO abc (vp_updL bc.1 (lt.1.toNatClampNeg) 1) bc.2.1 bc.2.2.1 bc.2.2.2.1 bc.2.2.2.2.1 bc.2.2.2.2.2.1 bc.2.2.2.2.2.2.1 bc.2.2.2.2.2.2.2))) C0 5 1 rfl rfl hi9 dX1_find_9 rfl rfl ?_
  refine V_aload_n C0 dX1_find_10 0 rfl rfl ?_
  refine V_get C0 fl_X1_find_15 4 rfl rfl dX1_find_11 rfl ?_
  refine V_aload_n C0 dX1_find_14 1 rfl rfl ?_
  refine V_get C0 fl_X1_find_31 0 rfl rfl dX1_find_15 rfl ?_
  refine V_iconst (v := 0) C0 dX1_find_18 (by decide) rfl ?_
  obtain ⟨hi19, hf⟩ := ck_inv hf
  refine V_iast (ws' := (W_L cI cJ cZ cO al lt.1 lt.2.1 lt.2.2.1 lt.2.2.2 ++ (W_B cI cJ cZ cO abc (vp_updL bc.1 (lt.1.toNatClampNeg) 1) (upd bc.2.1 (lt.1.toNatClampNeg) 0) bc.2.2.1 bc.2.2.2.1 bc.2.2.2.2.1 bc.2.2.2.2.2.1 bc.2.2.2.2.2.2.1 bc.2.2.2.2.2.2.2))) C0 6 0 rfl rfl hi19 dX1_find_19 rfl rfl ?_
  refine V_aload_n C0 dX1_find_20 1 rfl rfl ?_
  refine V_get C0 fl_X1_find_31 0 rfl rfl dX1_find_21 rfl ?_
  refine V_iconst (v := 1) C0 dX1_find_24 (by decide) rfl ?_
  refine V_isub C0 dX1_find_25 rfl ?_
  refine V_istore_n (lv' := [(3, .int (lt.1 - 1)), (0, .ref (abc 0)), (1, .ref (al 0)), (2, .int x2)]) C0 dX1_find_26 rfl (by decide) rfl rfl ?_
  have hL27 : ∀ (K : BV → Option (BV)), (∀ (bc : BV), K bc = some o → V p l e RM_X1_find s m ([.ref (abc 0), .ref (al 0), .int x2] : List Value).toArray below meth c 4 (dC, dI) A (MQ below (va_Qv (fun _ : Unit => True) (PostW (dC, dI) (TY cI cJ cZ cO) A (fun _ => (W_L cI cJ cZ cO al lt.1 lt.2.1 lt.2.2.1 lt.2.2.2 ++ (W_B cI cJ cZ cO abc o.1 o.2.1 o.2.2.1 o.2.2.2.1 o.2.2.2.2.1 o.2.2.2.2.2.1 o.2.2.2.2.2.2.1 o.2.2.2.2.2.2.2)))) A) ([.ref (abc 0), .ref (al 0), .int x2] : List Value).toArray s 0 0 A) 0 0 (W_L cI cJ cZ cO al lt.1 lt.2.1 lt.2.2.1 lt.2.2.2 ++ (W_B cI cJ cZ cO abc bc.1 bc.2.1 bc.2.2.1 bc.2.2.2.1 bc.2.2.2.2.1 bc.2.2.2.2.2.1 bc.2.2.2.2.2.2.1 bc.2.2.2.2.2.2.2)) 44 [(0, .ref (abc 0)), (1, .ref (al 0)), (2, .int x2)] []) → ∀ (n : Nat) (x3 : Int32) (bc : BV), f_X1_find_L27 N lt x2  K n x3 bc = some o → V p l e RM_X1_find s m ([.ref (abc 0), .ref (al 0), .int x2] : List Value).toArray below meth c 4 (dC, dI) A (MQ below (va_Qv (fun _ : Unit => True) (PostW (dC, dI) (TY cI cJ cZ cO) A (fun _ => (W_L cI cJ cZ cO al lt.1 lt.2.1 lt.2.2.1 lt.2.2.2 ++ (W_B cI cJ cZ cO abc o.1 o.2.1 o.2.2.1 o.2.2.2.1 o.2.2.2.2.1 o.2.2.2.2.2.1 o.2.2.2.2.2.2.1 o.2.2.2.2.2.2.2)))) A) ([.ref (abc 0), .ref (al 0), .int x2] : List Value).toArray s 0 0 A) 0 0 (W_L cI cJ cZ cO al lt.1 lt.2.1 lt.2.2.1 lt.2.2.2 ++ (W_B cI cJ cZ cO abc bc.1 bc.2.1 bc.2.2.1 bc.2.2.2.1 bc.2.2.2.2.1 bc.2.2.2.2.2.1 bc.2.2.2.2.2.2.1 bc.2.2.2.2.2.2.2)) 27 [(0, .ref (abc 0)), (1, .ref (al 0)), (2, .int x2), (3, .int x3)] [] := by
    intro  K hK n
    induction n with
    | zero => intro x3 bc hf; cases hf
    | succ n hREC =>
      intro x3 bc hf
      rw [f_X1_find_L27] at hf
      refine V_iload_n C0 dX1_find_27 3 rfl rfl ?_
      refine V_if_lt (tgt := 44) C0 dX1_find_28 (by decide) rfl (fun c28 => ?_) (fun c28 => ?_)
      · have hf := ite_t c28 hf
        exact V.sub [0, 1, 2] rfl (hK bc hf)
      · have hf := ite_f c28 hf
        refine V_aload_n C0 dX1_find_31 0 rfl rfl ?_
        refine V_aload_n C0 dX1_find_32 1 rfl rfl ?_
        refine V_iload_n C0 dX1_find_33 3 rfl rfl ?_
        refine V_iload_n C0 dX1_find_34 2 rfl rfl ?_
        obtain ⟨r_35, hc_35, hf⟩ := bind_inv hf
        refine V_cVV (ws' := (W_L cI cJ cZ cO al lt.1 lt.2.1 lt.2.2.1 lt.2.2.2 ++ (W_B cI cJ cZ cO abc r_35.1 r_35.2.1 r_35.2.2.1 r_35.2.2.2.1 r_35.2.2.2.2.1 r_35.2.2.2.2.2.1 r_35.2.2.2.2.2.2.1 r_35.2.2.2.2.2.2.2))) (As := [.ref (al 0), .int x3, .int x2]) (b := abc 0) (st := []) C0 (c_X1_findFirst l dC dI cI cJ cZ cO al abc N lt bc x3 x2 r_35 hc_35) rfl 3 gX1_find_X1_findFirst (by decide +kernel) ⟨Nat.le_of_ble_eq_true rfl, Nat.le_of_ble_eq_true rfl⟩ rfl 4 1 rfl rfl  Cut.all rfl (Nat.le_of_ble_eq_true rfl) dX1_find_35 rfl ⟨Nat.zero_le _, Nat.zero_le _⟩ ?_
        refine V_iinc (k := 3) (v := x3 + (-1)) (lv' := [(3, .int (x3 + (-1))), (0, .ref (abc 0)), (1, .ref (al 0)), (2, .int x2)]) C0 dX1_find_38 rfl rfl (by decide) rfl rfl ?_
        refine V_goto (tgt := 27) C0 dX1_find_41 (by decide) ?_
        exact V.sub [1, 2, 3, 0] rfl (hREC (x3 + (-1)) r_35 hf)
  refine V.sub [1, 2, 3, 0] rfl (hL27  _ ?_ N (lt.1 - 1) ((vp_updL bc.1 (lt.1.toNatClampNeg) 1, upd bc.2.1 (lt.1.toNatClampNeg) 0, bc.2.2.1, bc.2.2.2.1, bc.2.2.2.2.1, bc.2.2.2.2.2.1, bc.2.2.2.2.2.2.1, bc.2.2.2.2.2.2.2)) hf)
  intro bc_27 hf
  refine V_aload_n C0 dX1_find_44 0 rfl rfl ?_
  refine V_aload_n C0 dX1_find_45 1 rfl rfl ?_
  refine V_iload_n C0 dX1_find_46 2 rfl rfl ?_
  obtain ⟨r_47, hc_47, hf⟩ := bind_inv hf
  refine V_cVV (ws' := (W_L cI cJ cZ cO al lt.1 lt.2.1 lt.2.2.1 lt.2.2.2 ++ (W_B cI cJ cZ cO abc r_47.1 r_47.2.1 r_47.2.2.1 r_47.2.2.2.1 r_47.2.2.2.2.1 r_47.2.2.2.2.2.1 r_47.2.2.2.2.2.2.1 r_47.2.2.2.2.2.2.2))) (As := [.ref (al 0), .int x2]) (b := abc 0) (st := []) C0 (c_X1_layOut l dC dI cI cJ cZ cO al abc N lt bc_27 x2 r_47 hc_47) rfl 2 gX1_find_X1_layOut (by decide +kernel) ⟨Nat.le_of_ble_eq_true rfl, Nat.le_of_ble_eq_true rfl⟩ rfl 4 1 rfl rfl  Cut.all rfl (Nat.le_of_ble_eq_true rfl) dX1_find_47 rfl ⟨Nat.zero_le _, Nat.zero_le _⟩ ?_
  obtain rfl := some_inv hf
  exact V_vret C0 () trivial rfl dX1_find_50
abbrev RM_X1_greatestProduct : Room := { frames := 0, cells := 0, slots := 0, locals := 0 }
theorem in_X1_greatestProduct_X1 : ∀ w ∈ u_ws RX1 TX1 8, w ∈ wsX1_greatestProduct := by decide +kernel
theorem fl_X1_greatestProduct_9 : FL RX1 wsX1_greatestProduct 1 9 0 RX1 TX1 8 := ⟨in_X1_greatestProduct_X1, rfl, by decide, by decide +kernel, rfl⟩
set_option maxRecDepth 100000 in
set_option maxHeartbeats 4000000 in
theorem c_X1_greatestProduct (l : Launch) (dC : Nat → ClassId) (dI : Nat → Nat → Nat) (cI cJ cZ cO : ClassId) (abc : Nat → Nat) (N : Nat) (bc : BV) (o : Int64) (hf : f_X1_greatestProduct N bc = some o) : MetL l yX1_greatestProduct wsX1_greatestProduct RM_X1_greatestProduct (dC, dI) (TY cI cJ cZ cO) [.ref (abc 0)] (W_B cI cJ cZ cO abc bc.1 bc.2.1 bc.2.2.1 bc.2.2.2.1 bc.2.2.2.2.1 bc.2.2.2.2.2.1 bc.2.2.2.2.2.2.1 bc.2.2.2.2.2.2.2) (fun r (_ : Unit) => r = o) (fun _ => (W_B cI cJ cZ cO abc bc.1 bc.2.1 bc.2.2.1 bc.2.2.2.1 bc.2.2.2.2.1 bc.2.2.2.2.2.1 bc.2.2.2.2.2.2.1 bc.2.2.2.2.2.2.2)) := by
  refine MetL.ofV (cc := cX1_greatestProduct) (maxL := 1) (ret := (some .long)) (own := RX1) (lv0 := [(0, .ref (abc 0))]) (by decide) rfl rfl (Nat.le_of_ble_eq_true rfl) rfl ?_
  intro p e s m below meth c A C0 _
  unfold f_X1_greatestProduct at hf
  refine V_aload_n C0 dX1_greatestProduct_0 0 rfl rfl ?_
  refine V_get C0 fl_X1_greatestProduct_9 0 rfl rfl dX1_greatestProduct_1 rfl ?_
  refine V_iconst (v := 0) C0 dX1_greatestProduct_4 (by decide) rfl ?_
  obtain ⟨hi5, hf⟩ := ck_inv hf
  refine V_lald C0 1 1 rfl rfl hi5 dX1_greatestProduct_5 rfl ?_
  obtain rfl := some_inv hf
  exact V_lret C0 () rfl rfl dX1_greatestProduct_6
abbrev RM_X1_cost : Room := { frames := 0, cells := 0, slots := 0, locals := 0 }
theorem in_X1_cost_X1 : ∀ w ∈ u_ws RX1 TX1 8, w ∈ wsX1_cost := by decide +kernel
theorem fl_X1_cost_53 : FL RX1 wsX1_cost 1 53 3 RX1 TX1 8 := ⟨in_X1_cost_X1, rfl, by decide, by decide +kernel, rfl⟩
theorem fl_X1_cost_56 : FL RX1 wsX1_cost 1 56 4 RX1 TX1 8 := ⟨in_X1_cost_X1, rfl, by decide, by decide +kernel, rfl⟩
set_option maxRecDepth 100000 in
set_option maxHeartbeats 4000000 in
theorem c_X1_cost (l : Launch) (dC : Nat → ClassId) (dI : Nat → Nat → Nat) (cI cJ cZ cO : ClassId) (abc : Nat → Nat) (N : Nat) (bc : BV) (o : Int32) (hf : f_X1_cost N bc = some o) : MetI l yX1_cost wsX1_cost RM_X1_cost (dC, dI) (TY cI cJ cZ cO) [.ref (abc 0)] (W_B cI cJ cZ cO abc bc.1 bc.2.1 bc.2.2.1 bc.2.2.2.1 bc.2.2.2.2.1 bc.2.2.2.2.2.1 bc.2.2.2.2.2.2.1 bc.2.2.2.2.2.2.2) (fun r (_ : Unit) => r = o) (fun _ => (W_B cI cJ cZ cO abc bc.1 bc.2.1 bc.2.2.1 bc.2.2.2.1 bc.2.2.2.2.1 bc.2.2.2.2.2.1 bc.2.2.2.2.2.2.1 bc.2.2.2.2.2.2.2)) := by
  refine MetI.ofV (cc := cX1_cost) (maxL := 1) (ret := (some .int)) (own := RX1) (lv0 := [(0, .ref (abc 0))]) (by decide) rfl rfl (Nat.le_of_ble_eq_true rfl) rfl ?_
  intro p e s m below meth c A C0 _
  unfold f_X1_cost at hf
  refine V_aload_n C0 dX1_cost_0 0 rfl rfl ?_
  refine V_get C0 fl_X1_cost_53 0 rfl rfl dX1_cost_1 rfl ?_
  refine V_aload_n C0 dX1_cost_4 0 rfl rfl ?_
  refine V_get C0 fl_X1_cost_56 0 rfl rfl dX1_cost_5 rfl ?_
  refine V_iadd C0 dX1_cost_8 rfl ?_
  obtain rfl := some_inv hf
  exact V_iret C0 () rfl rfl dX1_cost_9
