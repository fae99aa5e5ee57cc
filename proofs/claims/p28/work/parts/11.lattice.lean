def f_X4_mostLetters (N : Nat) (lt : LV) (x1 : Int32) : Option (Int32) := some (if (lt.1 - x1) < 4 then (lt.1 - x1) else 4)
def f_X4_index (N : Nat) (x0 : Int32) (x1 : Int32) : Option (Int32) := some (((x0 * 4) + x1) - 1)
def f_X4_pieceAt (N : Nat) (lt : LV) (x1 : Int32) (x2 : Int32) : Option (Int32) := (f_X4_index N  x1 x2).bind (fun (r_6 : Int32) => ck r_6 48 (some (lt.2.2.1 (r_6.toNatClampNeg))))
def f_X4_weightAt (N : Nat) (lt : LV) (x1 : Int32) (x2 : Int32) (x3 : Int32) : Option (Int32) := (f_X4_pieceAt N lt x1 x2).bind (fun (r_3 : Int32) => jn (fun (_ : Unit) => if x2 = 1 then some 1 else some 0) (fun (J20 : Unit → Option (Int32)) => if r_3 = ((-1)) then J20 () else if r_3 = x3 then J20 () else ck r_3 16 (some (lt.2.2.2 (r_3.toNatClampNeg)))))
def f_X4_read_L48 (N : Nat) (ct : CV) (x2 : Int32) (x3 : Int32) (x4 : Int32) (K : LV → Option (LV)) : Nat → Int32 → Int32 → LV → Option (LV)
  | 0, _, _, _ => none
  | n+1, x5, x6, lt => if x4 < x6 then K lt else (f_X2_letterAt N ct x2 ((x3 + x6) - 1)).bind (fun (r_67 : Int32) => bd ((x5 <<< (3 &&& 31)) ||| (r_67 + 1)) (fun (x5_1 : Int32) => (f_X4_index N  x3 x6).bind (fun (r_82 : Int32) => ck r_82 48 ((f_X4_index N  x3 x6).bind (fun (r_95 : Int32) => (f_X2_pieceWith N ct x5_1).bind (fun (r_101 : Int32) => ck r_95 48 (f_X4_read_L48 N ct x2 x3 x4 K n x5_1 (x6 + 1) ((lt.1, upd lt.2.1 (r_82.toNatClampNeg) x5_1, upd lt.2.2.1 (r_95.toNatClampNeg) r_101, lt.2.2.2)))))))))
def f_X4_read_L27 (N : Nat) (ct : CV) (x2 : Int32)  (K : LV → Option (LV)) : Nat → Int32 → LV → Option (LV)
  | 0, _, _ => none
  | n+1, x3, lt => if lt.1 ≤ x3 then K lt else (f_X4_mostLetters N lt x3).bind (fun (r_37 : Int32) => f_X4_read_L48 N ct x2 x3 r_37 (fun (lt_48 : LV) => f_X4_read_L27 N ct x2  K n (x3 + 1) lt_48) N 0 1 lt)
def f_X4_read (N : Nat) (ct : CV) (lt : LV) (x2 : Int32) : Option (LV) := ck x2 8 (ckc 0 0 16 16 16 (f_X4_read_L27 N ct x2  (fun (lt_27 : LV) => some lt_27) N 0 ((ct.2.2.2.2.2.1 (x2.toNatClampNeg), lt.2.1, lt.2.2.1, va_cpy ct.2.2.2.1 lt.2.2.2 ((0 : Int32).toNatClampNeg) ((0 : Int32).toNatClampNeg) ((16 : Int32).toNatClampNeg)))))
abbrev RM_X4_mostLetters : Room := { frames := 1, cells := 0, slots := 0, locals := 30 }
theorem in_X4_mostLetters_X4 : ∀ w ∈ u_ws RX4 TX4 4, w ∈ wsX4_mostLetters := by decide +kernel
theorem fl_X4_mostLetters_26 : FL RX4 wsX4_mostLetters 4 26 0 RX4 TX4 4 := ⟨in_X4_mostLetters_X4, rfl, by decide, by decide +kernel, rfl⟩
set_option maxRecDepth 100000 in
set_option maxHeartbeats 4000000 in
theorem c_X4_mostLetters (l : Launch) (dC : Nat → ClassId) (dI : Nat → Nat → Nat) (cI cJ cZ cO : ClassId) (al : Nat → Nat) (N : Nat) (lt : LV) (x1 : Int32) (o : Int32) (hf : f_X4_mostLetters N lt x1 = some o) : MetI l yX4_mostLetters wsX4_mostLetters RM_X4_mostLetters (dC, dI) (TY cI cJ cZ cO) [.ref (al 0), .int x1] (W_L cI cJ cZ cO al lt.1 lt.2.1 lt.2.2.1 lt.2.2.2) (fun r (_ : Unit) => r = o) (fun _ => (W_L cI cJ cZ cO al lt.1 lt.2.1 lt.2.2.1 lt.2.2.2)) := by
  refine MetI.ofV (cc := cX4_mostLetters) (maxL := 2) (ret := (some .int)) (own := RX4) (lv0 := [(0, .ref (al 0)), (1, .int x1)]) (by decide) rfl rfl (Nat.le_of_ble_eq_true rfl) rfl ?_
  intro p e s m below meth c A C0 _
  unfold f_X4_mostLetters at hf
  refine V_iconst (v := 4) C0 dX4_mostLetters_0 (by decide) rfl ?_
  refine V_aload_n C0 dX4_mostLetters_1 0 rfl rfl ?_
  refine V_get C0 fl_X4_mostLetters_26 0 rfl rfl dX4_mostLetters_2 rfl ?_
  refine V_iload_n C0 dX4_mostLetters_5 1 rfl rfl ?_
  refine V_isub C0 dX4_mostLetters_6 rfl ?_
  refine V_mmin C0 (by decide +kernel) (by decide +kernel) (by decide +kernel) (by decide +kernel) (Nat.le_of_ble_eq_true rfl) (Nat.le_of_ble_eq_true rfl) (Nat.zero_le _) (Nat.zero_le _) dX4_mostLetters_7 rfl ?_
  obtain rfl := some_inv hf
  exact V_iret C0 () rfl rfl dX4_mostLetters_10
abbrev RM_X4_index : Room := { frames := 0, cells := 0, slots := 0, locals := 0 }
set_option maxRecDepth 100000 in
set_option maxHeartbeats 4000000 in
theorem c_X4_index (l : Launch) (dC : Nat → ClassId) (dI : Nat → Nat → Nat) (cI cJ cZ cO : ClassId)  (N : Nat) (x0 : Int32) (x1 : Int32) (o : Int32) (hf : f_X4_index N x0 x1 = some o) : MetI l yX4_index wsX4_index RM_X4_index (dC, dI) (TY cI cJ cZ cO) [.int x0, .int x1] ([] : va_W) (fun r (_ : Unit) => r = o) (fun _ => ([] : va_W)) := by
  refine MetI.ofV (cc := cX4_index) (maxL := 2) (ret := (some .int)) (own := RX4) (lv0 := [(0, .int x0), (1, .int x1)]) (by decide) rfl rfl (Nat.le_of_ble_eq_true rfl) rfl ?_
  intro p e s m below meth c A C0 _
  unfold f_X4_index at hf
  refine V_iload_n C0 dX4_index_0 0 rfl rfl ?_
  refine V_iconst (v := 4) C0 dX4_index_1 (by decide) rfl ?_
  refine V_imul C0 dX4_index_2 rfl ?_
  refine V_iload_n C0 dX4_index_3 1 rfl rfl ?_
  refine V_iadd C0 dX4_index_4 rfl ?_
  refine V_iconst (v := 1) C0 dX4_index_5 (by decide) rfl ?_
  refine V_isub C0 dX4_index_6 rfl ?_
  obtain rfl := some_inv hf
  exact V_iret C0 () rfl rfl dX4_index_7
abbrev RM_X4_pieceAt : Room := { frames := 1, cells := 0, slots := 0, locals := 21 }
theorem in_X4_pieceAt_X4 : ∀ w ∈ u_ws RX4 TX4 4, w ∈ wsX4_pieceAt := by decide +kernel
theorem fl_X4_pieceAt_15 : FL RX4 wsX4_pieceAt 4 15 2 RX4 TX4 4 := ⟨in_X4_pieceAt_X4, rfl, by decide, by decide +kernel, rfl⟩
set_option maxRecDepth 100000 in
set_option maxHeartbeats 4000000 in
theorem c_X4_pieceAt (l : Launch) (dC : Nat → ClassId) (dI : Nat → Nat → Nat) (cI cJ cZ cO : ClassId) (al : Nat → Nat) (N : Nat) (lt : LV) (x1 : Int32) (x2 : Int32) (o : Int32) (hf : f_X4_pieceAt N lt x1 x2 = some o) : MetI l yX4_pieceAt wsX4_pieceAt RM_X4_pieceAt (dC, dI) (TY cI cJ cZ cO) [.ref (al 0), .int x1, .int x2] (W_L cI cJ cZ cO al lt.1 lt.2.1 lt.2.2.1 lt.2.2.2) (fun r (_ : Unit) => r = o) (fun _ => (W_L cI cJ cZ cO al lt.1 lt.2.1 lt.2.2.1 lt.2.2.2)) := by
  refine MetI.ofV (cc := cX4_pieceAt) (maxL := 3) (ret := (some .int)) (own := RX4) (lv0 := [(0, .ref (al 0)), (1, .int x1), (2, .int x2)]) (by decide) rfl rfl (Nat.le_of_ble_eq_true rfl) rfl ?_
  intro p e s m below meth c A C0 _
  unfold f_X4_pieceAt at hf
  refine V_aload_n C0 dX4_pieceAt_0 0 rfl rfl ?_
  refine V_get C0 fl_X4_pieceAt_15 0 rfl rfl dX4_pieceAt_1 rfl ?_
  refine V_iload_n C0 dX4_pieceAt_4 1 rfl rfl ?_
  refine V_iload_n C0 dX4_pieceAt_5 2 rfl rfl ?_
  obtain ⟨r_6, hc_6, hf⟩ := bind_inv hf
  refine V_cSI (ws' := (W_L cI cJ cZ cO al lt.1 lt.2.1 lt.2.2.1 lt.2.2.2)) (As := [.int x1, .int x2]) (st := [.ref (al 2)]) C0 (c_X4_index l dC dI cI cJ cZ cO  N  x1 x2 r_6 hc_6) rfl 2 gX4_pieceAt_X4_index (by decide +kernel) ⟨Nat.le_of_ble_eq_true rfl, Nat.le_of_ble_eq_true rfl⟩ rfl  ⟨_, pr1, fun _ => pr1⟩ rfl (Nat.le_of_ble_eq_true rfl) dX4_pieceAt_6 rfl ⟨Nat.zero_le _, Nat.zero_le _⟩ ?_
  obtain ⟨hi9, hf⟩ := ck_inv hf
  refine V_iald C0 2 0 rfl rfl hi9 dX4_pieceAt_9 rfl ?_
  obtain rfl := some_inv hf
  exact V_iret C0 () rfl rfl dX4_pieceAt_10
abbrev RM_X4_weightAt : Room := { frames := 2, cells := 0, slots := 0, locals := 43 }
theorem in_X4_weightAt_X4 : ∀ w ∈ u_ws RX4 TX4 4, w ∈ wsX4_weightAt := by decide +kernel
theorem fl_X4_weightAt_18 : FL RX4 wsX4_weightAt 4 18 3 RX4 TX4 4 := ⟨in_X4_weightAt_X4, rfl, by decide, by decide +kernel, rfl⟩
set_option maxRecDepth 100000 in
set_option maxHeartbeats 4000000 in
theorem c_X4_weightAt (l : Launch) (dC : Nat → ClassId) (dI : Nat → Nat → Nat) (cI cJ cZ cO : ClassId) (al : Nat → Nat) (N : Nat) (lt : LV) (x1 : Int32) (x2 : Int32) (x3 : Int32) (o : Int32) (hf : f_X4_weightAt N lt x1 x2 x3 = some o) : MetI l yX4_weightAt wsX4_weightAt RM_X4_weightAt (dC, dI) (TY cI cJ cZ cO) [.ref (al 0), .int x1, .int x2, .int x3] (W_L cI cJ cZ cO al lt.1 lt.2.1 lt.2.2.1 lt.2.2.2) (fun r (_ : Unit) => r = o) (fun _ => (W_L cI cJ cZ cO al lt.1 lt.2.1 lt.2.2.1 lt.2.2.2)) := by
  refine MetI.ofV (cc := cX4_weightAt) (maxL := 5) (ret := (some .int)) (own := RX4) (lv0 := [(0, .ref (al 0)), (1, .int x1), (2, .int x2), (3, .int x3)]) (by decide) rfl rfl (Nat.le_of_ble_eq_true rfl) rfl ?_
  intro p e s m below meth c A C0 _
  unfold f_X4_weightAt at hf
  refine V_aload_n C0 dX4_weightAt_0 0 rfl rfl ?_
  refine V_iload_n C0 dX4_weightAt_1 1 rfl rfl ?_
  refine V_iload_n C0 dX4_weightAt_2 2 rfl rfl ?_
  obtain ⟨r_3, hc_3, hf⟩ := bind_inv hf
  refine V_cVI (ws' := (W_L cI cJ cZ cO al lt.1 lt.2.1 lt.2.2.1 lt.2.2.2)) (As := [.int x1, .int x2]) (b := al 0) (st := []) C0 (c_X4_pieceAt l dC dI cI cJ cZ cO al N lt x1 x2 r_3 hc_3) rfl 2 gX4_weightAt_X4_pieceAt (by decide +kernel) ⟨Nat.le_of_ble_eq_true rfl, Nat.le_of_ble_eq_true rfl⟩ rfl 0 4 rfl rfl  Cut.all rfl (Nat.le_of_ble_eq_true rfl) dX4_weightAt_3 rfl ⟨Nat.zero_le _, Nat.zero_le _⟩ ?_
  refine V_istore (lv' := [(4, .int r_3), (0, .ref (al 0)), (1, .int x1), (2, .int x2), (3, .int x3)]) C0 dX4_weightAt_6 (by decide) rfl rfl ?_
  refine V_iload C0 dX4_weightAt_8 0 rfl rfl ?_
  refine V_iconst (v := (-1)) C0 dX4_weightAt_10 (by decide) rfl ?_
  refine jn_elim hf (fun (J : Unit → Option (Int32)) => ∀ (u : Unit), J u = some o → V p l e RM_X4_weightAt s m ([.ref (al 0), .int x1, .int x2, .int x3] : List Value).toArray below meth c 5 (dC, dI) A (MQ below (va_Qi (fun r (_ : Unit) => r = o) (PostW (dC, dI) (TY cI cJ cZ cO) A (fun _ => (W_L cI cJ cZ cO al lt.1 lt.2.1 lt.2.2.1 lt.2.2.2))) A) ([.ref (al 0), .int x1, .int x2, .int x3] : List Value).toArray s 0 0 A) 0 0 (W_L cI cJ cZ cO al lt.1 lt.2.1 lt.2.2.1 lt.2.2.2) 20 [(2, .int x2)] []) ?_ ?_
  · intro u hf
    refine V_iload_n C0 dX4_weightAt_20 0 rfl rfl ?_
    refine V_iconst (v := 1) C0 dX4_weightAt_21 (by decide) rfl ?_
    refine V_icmp_ne (tgt := 29) C0 dX4_weightAt_22 (by decide) rfl (fun c22 => ?_) (fun c22 => ?_)
    · have hf := ite_f c22 hf
      refine V_iconst (v := 0) C0 dX4_weightAt_29 (by decide) rfl ?_
      obtain rfl := some_inv hf
      exact V_iret C0 () rfl rfl dX4_weightAt_30
    · have hf := ite_t c22 hf
      refine V_iconst (v := 1) C0 dX4_weightAt_25 (by decide) rfl ?_
      refine V_goto (tgt := 30) C0 dX4_weightAt_26 (by decide) ?_
      obtain rfl := some_inv hf
      exact V_iret C0 () rfl rfl dX4_weightAt_30
  · intro J20 hJ20 hf
    refine V_icmp_eq (tgt := 20) C0 dX4_weightAt_11 (by decide) rfl (fun c11 => ?_) (fun c11 => ?_)
    · have hf := ite_t c11 hf
      exact V.sub [3] rfl (hJ20 () hf)
    · have hf := ite_f c11 hf
      refine V_iload C0 dX4_weightAt_14 0 rfl rfl ?_
      refine V_iload_n C0 dX4_weightAt_16 4 rfl rfl ?_
      refine V_icmp_ne (tgt := 31) C0 dX4_weightAt_17 (by decide) rfl (fun c17 => ?_) (fun c17 => ?_)
      · have hf := ite_f c17 hf
        refine V_aload_n C0 dX4_weightAt_31 1 rfl rfl ?_
        refine V_get C0 fl_X4_weightAt_18 0 rfl rfl dX4_weightAt_32 rfl ?_
        refine V_iload C0 dX4_weightAt_35 0 rfl rfl ?_
        obtain ⟨hi37, hf⟩ := ck_inv hf
        refine V_iald C0 3 0 rfl rfl hi37 dX4_weightAt_37 rfl ?_
        obtain rfl := some_inv hf
        exact V_iret C0 () rfl rfl dX4_weightAt_38
      · have hf := ite_t c17 hf
        exact V.sub [3] rfl (hJ20 () hf)
abbrev RM_X4_read : Room := { frames := 2, cells := 0, slots := 0, locals := 60 }
theorem in_X4_read_X2 : ∀ w ∈ u_ws RX2 TX2 8, w ∈ wsX4_read := by decide +kernel
theorem in_X4_read_X4 : ∀ w ∈ u_ws RX4 TX4 4, w ∈ wsX4_read := by decide +kernel
theorem fl_X4_read_9 : FL RX4 wsX4_read 4 9 1 RX4 TX4 4 := ⟨in_X4_read_X4, rfl, by decide, by decide +kernel, rfl⟩
theorem fl_X4_read_15 : FL RX4 wsX4_read 4 15 2 RX4 TX4 4 := ⟨in_X4_read_X4, rfl, by decide, by decide +kernel, rfl⟩
theorem fl_X4_read_18 : FL RX4 wsX4_read 4 18 3 RX4 TX4 4 := ⟨in_X4_read_X4, rfl, by decide, by decide +kernel, rfl⟩
theorem fl_X4_read_21 : FL RX4 wsX4_read 2 21 5 RX2 TX2 8 := ⟨in_X4_read_X2, rfl, by decide, by decide +kernel, rfl⟩
theorem fl_X4_read_26 : FL RX4 wsX4_read 4 26 0 RX4 TX4 4 := ⟨in_X4_read_X4, rfl, by decide, by decide +kernel, rfl⟩
theorem fl_X4_read_30 : FL RX4 wsX4_read 2 30 3 RX2 TX2 8 := ⟨in_X4_read_X2, rfl, by decide, by decide +kernel, rfl⟩
set_option maxRecDepth 100000 in
set_option maxHeartbeats 4000000 in
theorem c_X4_read (l : Launch) (dC : Nat → ClassId) (dI : Nat → Nat → Nat) (cI cJ cZ cO : ClassId) (ac_ : Nat → Nat) (al : Nat → Nat) (N : Nat) (ct : CV) (lt : LV) (x2 : Int32) (o : LV) (hf : f_X4_read N ct lt x2 = some o) : MetV l yX4_read wsX4_read RM_X4_read (dC, dI) (TY cI cJ cZ cO) [.ref (al 0), .ref (ac_ 0), .int x2] (W_C cI cJ cZ cO ac_ ct.1 ct.2.1 ct.2.2.1 ct.2.2.2.1 ct.2.2.2.2.1 ct.2.2.2.2.2.1 ct.2.2.2.2.2.2.1 ct.2.2.2.2.2.2.2 ++ (W_L cI cJ cZ cO al lt.1 lt.2.1 lt.2.2.1 lt.2.2.2)) (fun _ : Unit => True) (fun _ => (W_C cI cJ cZ cO ac_ ct.1 ct.2.1 ct.2.2.1 ct.2.2.2.1 ct.2.2.2.2.1 ct.2.2.2.2.2.1 ct.2.2.2.2.2.2.1 ct.2.2.2.2.2.2.2 ++ (W_L cI cJ cZ cO al o.1 o.2.1 o.2.2.1 o.2.2.2))) := by
  refine MetV.ofV (cc := cX4_read) (maxL := 7) (ret := none) (own := RX4) (lv0 := [(0, .ref (al 0)), (1, .ref (ac_ 0)), (2, .int x2)]) (by decide) rfl rfl (Nat.le_of_ble_eq_true rfl) rfl ?_
  intro p e s m below meth c A C0 _
  unfold f_X4_read at hf
  refine V_aload_n C0 dX4_read_0 0 rfl rfl ?_
  refine V_aload_n C0 dX4_read_1 1 rfl rfl ?_
  refine V_get C0 fl_X4_read_21 0 rfl rfl dX4_read_2 rfl ?_
  refine V_iload_n C0 dX4_read_5 2 rfl rfl ?_
  obtain ⟨hi6, hf⟩ := ck_inv hf
  refine V_iald C0 4 0 rfl rfl hi6 dX4_read_6 rfl ?_
  refine V_put (ws' := (W_C cI cJ cZ cO ac_ ct.1 ct.2.1 ct.2.2.1 ct.2.2.2.1 ct.2.2.2.2.1 ct.2.2.2.2.2.1 ct.2.2.2.2.2.2.1 ct.2.2.2.2.2.2.2 ++ (W_L cI cJ cZ cO al (ct.2.2.2.2.2.1 (x2.toNatClampNeg)) lt.2.1 lt.2.2.1 lt.2.2.2))) C0 fl_X4_read_26 tyX4_ok nmX4 rfl 7 rfl rfl rfl (Nat.le_of_ble_eq_true rfl) dX4_read_7 rfl rfl ?_
  refine V_aload_n C0 dX4_read_10 1 rfl rfl ?_
  refine V_get C0 fl_X4_read_30 0 rfl rfl dX4_read_11 rfl ?_
  refine V_iconst (v := 0) C0 dX4_read_14 (by decide) rfl ?_
  refine V_aload_n C0 dX4_read_15 0 rfl rfl ?_
  refine V_get C0 fl_X4_read_18 7 rfl rfl dX4_read_16 rfl ?_
  refine V_iconst (v := 0) C0 dX4_read_19 (by decide) rfl ?_
  refine V_bipush (v := 16) C0 dX4_read_20 (by decide) rfl ?_
  obtain ⟨hk22, hf⟩ := ckc_inv hf
  refine V_copy (ws' := (W_C cI cJ cZ cO ac_ ct.1 ct.2.1 ct.2.2.1 ct.2.2.2.1 ct.2.2.2.2.1 ct.2.2.2.2.2.1 ct.2.2.2.2.2.2.1 ct.2.2.2.2.2.2.2 ++ (W_L cI cJ cZ cO al (ct.2.2.2.2.2.1 (x2.toNatClampNeg)) lt.2.1 lt.2.2.1 (va_cpy ct.2.2.2.1 lt.2.2.2 ((0 : Int32).toNatClampNeg) ((0 : Int32).toNatClampNeg) ((16 : Int32).toNatClampNeg))))) C0 (index := 33) (by decide +kernel) (by decide +kernel) (by decide +kernel) (by decide +kernel) 3 10 0 rfl rfl rfl hk22 (Nat.le_of_ble_eq_true rfl) (Nat.le_of_ble_eq_true rfl) dX4_read_22 rfl rfl ?_
  refine V_iconst (v := 0) C0 dX4_read_25 (by decide) rfl ?_
  refine V_istore_n (lv' := [(3, .int 0), (0, .ref (al 0)), (1, .ref (ac_ 0)), (2, .int x2)]) C0 dX4_read_26 rfl (by decide) rfl rfl ?_
  have hL27 : ∀ (K : LV → Option (LV)), (∀ (lt : LV), K lt = some o → V p l e RM_X4_read s m ([.ref (al 0), .ref (ac_ 0), .int x2] : List Value).toArray below meth c 7 (dC, dI) A (MQ below (va_Qv (fun _ : Unit => True) (PostW (dC, dI) (TY cI cJ cZ cO) A (fun _ => (W_C cI cJ cZ cO ac_ ct.1 ct.2.1 ct.2.2.1 ct.2.2.2.1 ct.2.2.2.2.1 ct.2.2.2.2.2.1 ct.2.2.2.2.2.2.1 ct.2.2.2.2.2.2.2 ++ (W_L cI cJ cZ cO al o.1 o.2.1 o.2.2.1 o.2.2.2)))) A) ([.ref (al 0), .ref (ac_ 0), .int x2] : List Value).toArray s 0 0 A) 0 0 (W_C cI cJ cZ cO ac_ ct.1 ct.2.1 ct.2.2.1 ct.2.2.2.1 ct.2.2.2.2.1 ct.2.2.2.2.2.1 ct.2.2.2.2.2.2.1 ct.2.2.2.2.2.2.2 ++ (W_L cI cJ cZ cO al lt.1 lt.2.1 lt.2.2.1 lt.2.2.2)) 117 [] []) → ∀ (n : Nat) (x3 : Int32) (lt : LV), f_X4_read_L27 N ct x2  K n x3 lt = some o → V p l e RM_X4_read s m ([.ref (al 0), .ref (ac_ 0), .int x2] : List Value).toArray below meth c 7 (dC, dI) A (MQ below (va_Qv (fun _ : Unit => True) (PostW (dC, dI) (TY cI cJ cZ cO) A (fun _ => (W_C cI cJ cZ cO ac_ ct.1 ct.2.1 ct.2.2.1 ct.2.2.2.1 ct.2.2.2.2.1 ct.2.2.2.2.2.1 ct.2.2.2.2.2.2.1 ct.2.2.2.2.2.2.2 ++ (W_L cI cJ cZ cO al o.1 o.2.1 o.2.2.1 o.2.2.2)))) A) ([.ref (al 0), .ref (ac_ 0), .int x2] : List Value).toArray s 0 0 A) 0 0 (W_C cI cJ cZ cO ac_ ct.1 ct.2.1 ct.2.2.1 ct.2.2.2.1 ct.2.2.2.2.1 ct.2.2.2.2.2.1 ct.2.2.2.2.2.2.1 ct.2.2.2.2.2.2.2 ++ (W_L cI cJ cZ cO al lt.1 lt.2.1 lt.2.2.1 lt.2.2.2)) 27 [(0, .ref (al 0)), (1, .ref (ac_ 0)), (2, .int x2), (3, .int x3)] [] := by
    intro  K hK n
    induction n with
    | zero => intro x3 lt hf; cases hf
    | succ n hREC =>
      intro x3 lt hf
      rw [f_X4_read_L27] at hf
      refine V_iload_n C0 dX4_read_27 3 rfl rfl ?_
      refine V_aload_n C0 dX4_read_28 0 rfl rfl ?_
      refine V_get C0 fl_X4_read_26 7 rfl rfl dX4_read_29 rfl ?_
      refine V_icmp_ge (tgt := 117) C0 dX4_read_32 (by decide) rfl (fun c32 => ?_) (fun c32 => ?_)
      · have hf := ite_t c32 hf
        exact V.sub [] rfl (hK lt hf)
      · have hf := ite_f c32 hf
        refine V_aload_n C0 dX4_read_35 0 rfl rfl ?_
        refine V_iload_n C0 dX4_read_36 3 rfl rfl ?_
        obtain ⟨r_37, hc_37, hf⟩ := bind_inv hf
        refine V_cVI (ws' := (W_C cI cJ cZ cO ac_ ct.1 ct.2.1 ct.2.2.1 ct.2.2.2.1 ct.2.2.2.2.1 ct.2.2.2.2.2.1 ct.2.2.2.2.2.2.1 ct.2.2.2.2.2.2.2 ++ (W_L cI cJ cZ cO al lt.1 lt.2.1 lt.2.2.1 lt.2.2.2))) (As := [.int x3]) (b := al 0) (st := []) C0 (c_X4_mostLetters l dC dI cI cJ cZ cO al N lt x3 r_37 hc_37) rfl 1 gX4_read_X4_mostLetters (by decide +kernel) ⟨Nat.le_of_ble_eq_true rfl, Nat.le_of_ble_eq_true rfl⟩ rfl 7 4 rfl rfl  ⟨_, (pr pt1), fun _ => (pr pt1)⟩ rfl (Nat.le_of_ble_eq_true rfl) dX4_read_37 rfl ⟨Nat.zero_le _, Nat.zero_le _⟩ ?_
        refine V_istore (lv' := [(4, .int r_37), (0, .ref (al 0)), (1, .ref (ac_ 0)), (2, .int x2), (3, .int x3)]) C0 dX4_read_40 (by decide) rfl rfl ?_
        refine V_iconst (v := 0) C0 dX4_read_42 (by decide) rfl ?_
        refine V_istore (lv' := [(5, .int 0), (4, .int r_37), (0, .ref (al 0)), (1, .ref (ac_ 0)), (2, .int x2), (3, .int x3)]) C0 dX4_read_43 (by decide) rfl rfl ?_
        refine V_iconst (v := 1) C0 dX4_read_45 (by decide) rfl ?_
        refine V_istore (lv' := [(6, .int 1), (5, .int 0), (4, .int r_37), (0, .ref (al 0)), (1, .ref (ac_ 0)), (2, .int x2), (3, .int x3)]) C0 dX4_read_46 (by decide) rfl rfl ?_
        have hL48 : ∀ (x3 : Int32) (x4 : Int32) (K : LV → Option (LV)), (∀ (lt : LV), K lt = some o → V p l e RM_X4_read s m ([.ref (al 0), .ref (ac_ 0), .int x2] : List Value).toArray below meth c 7 (dC, dI) A (MQ below (va_Qv (fun _ : Unit => True) (PostW (dC, dI) (TY cI cJ cZ cO) A (fun _ => (W_C cI cJ cZ cO ac_ ct.1 ct.2.1 ct.2.2.1 ct.2.2.2.1 ct.2.2.2.2.1 ct.2.2.2.2.2.1 ct.2.2.2.2.2.2.1 ct.2.2.2.2.2.2.2 ++ (W_L cI cJ cZ cO al o.1 o.2.1 o.2.2.1 o.2.2.2)))) A) ([.ref (al 0), .ref (ac_ 0), .int x2] : List Value).toArray s 0 0 A) 0 0 (W_C cI cJ cZ cO ac_ ct.1 ct.2.1 ct.2.2.1 ct.2.2.2.1 ct.2.2.2.2.1 ct.2.2.2.2.2.1 ct.2.2.2.2.2.2.1 ct.2.2.2.2.2.2.2 ++ (W_L cI cJ cZ cO al lt.1 lt.2.1 lt.2.2.1 lt.2.2.2)) 111 [(0, .ref (al 0)), (1, .ref (ac_ 0)), (2, .int x2), (3, .int x3)] []) → ∀ (n : Nat) (x5 : Int32) (x6 : Int32) (lt : LV), f_X4_read_L48 N ct x2 x3 x4 K n x5 x6 lt = some o → V p l e RM_X4_read s m ([.ref (al 0), .ref (ac_ 0), .int x2] : List Value).toArray below meth c 7 (dC, dI) A (MQ below (va_Qv (fun _ : Unit => True) (PostW (dC, dI) (TY cI cJ cZ cO) A (fun _ => (W_C cI cJ cZ cO ac_ ct.1 ct.2.1 ct.2.2.1 ct.2.2.2.1 ct.2.2.2.2.1 ct.2.2.2.2.2.1 ct.2.2.2.2.2.2.1 ct.2.2.2.2.2.2.2 ++ (W_L cI cJ cZ cO al o.1 o.2.1 o.2.2.1 o.2.2.2)))) A) ([.ref (al 0), .ref (ac_ 0), .int x2] : List Value).toArray s 0 0 A) 0 0 (W_C cI cJ cZ cO ac_ ct.1 ct.2.1 ct.2.2.1 ct.2.2.2.1 ct.2.2.2.2.1 ct.2.2.2.2.2.1 ct.2.2.2.2.2.2.1 ct.2.2.2.2.2.2.2 ++ (W_L cI cJ cZ cO al lt.1 lt.2.1 lt.2.2.1 lt.2.2.2)) 48 [(0, .ref (al 0)), (1, .ref (ac_ 0)), (2, .int x2), (3, .int x3), (4, .int x4), (5, .int x5), (6, .int x6)] [] := by
          intro x3 x4 K hK n
          induction n with
          | zero => intro x5 x6 lt hf; cases hf
          | succ n hREC =>
            intro x5 x6 lt hf
            rw [f_X4_read_L48] at hf
            refine V_iload C0 dX4_read_48 6 rfl rfl ?_
            refine V_iload C0 dX4_read_50 4 rfl rfl ?_
            refine V_icmp_gt (tgt := 111) C0 dX4_read_52 (by decide) rfl (fun c52 => ?_) (fun c52 => ?_)
            · have hf := ite_t c52 hf
              exact V.sub [0, 1, 2, 3] rfl (hK lt hf)
            · have hf := ite_f c52 hf
              refine V_iload C0 dX4_read_55 5 rfl rfl ?_
              refine V_iconst (v := 3) C0 dX4_read_57 (by decide) rfl ?_
              refine V_ishl C0 dX4_read_58 rfl ?_
              refine V_aload_n C0 dX4_read_59 1 rfl rfl ?_
              refine V_iload_n C0 dX4_read_60 2 rfl rfl ?_
              refine V_iload_n C0 dX4_read_61 3 rfl rfl ?_
              refine V_iload C0 dX4_read_62 6 rfl rfl ?_
              refine V_iadd C0 dX4_read_64 rfl ?_
              refine V_iconst (v := 1) C0 dX4_read_65 (by decide) rfl ?_
              refine V_isub C0 dX4_read_66 rfl ?_
              obtain ⟨r_67, hc_67, hf⟩ := bind_inv hf
              refine V_cVI (ws' := (W_C cI cJ cZ cO ac_ ct.1 ct.2.1 ct.2.2.1 ct.2.2.2.1 ct.2.2.2.2.1 ct.2.2.2.2.2.1 ct.2.2.2.2.2.2.1 ct.2.2.2.2.2.2.2 ++ (W_L cI cJ cZ cO al lt.1 lt.2.1 lt.2.2.1 lt.2.2.2))) (As := [.int x2, .int ((x3 + x6) - 1)]) (b := ac_ 0) (st := [.int (x5 <<< (3 &&& 31))]) C0 (c_X2_letterAt l dC dI cI cJ cZ cO ac_ N ct x2 ((x3 + x6) - 1) r_67 hc_67) rfl 2 gX4_read_X2_letterAt (by decide +kernel) ⟨Nat.le_of_ble_eq_true rfl, Nat.le_of_ble_eq_true rfl⟩ rfl 0 2 rfl rfl  ⟨_, (pte pr1), fun _ => (pte pr1)⟩ rfl (Nat.le_of_ble_eq_true rfl) dX4_read_67 rfl ⟨Nat.zero_le _, Nat.zero_le _⟩ ?_
              refine V_iconst (v := 1) C0 dX4_read_70 (by decide) rfl ?_
              refine V_iadd C0 dX4_read_71 rfl ?_
              refine V_ior C0 dX4_read_72 rfl ?_
              refine V_topi (fun x5_1 ex5_1 => ?_)
              have hf := bd_inv ex5_1 hf
              refine V_istore (lv' := [(5, .int x5_1), (0, .ref (al 0)), (1, .ref (ac_ 0)), (2, .int x2), (3, .int x3), (4, .int x4), (6, .int x6)]) C0 dX4_read_73 (by decide) rfl rfl ?_
              refine V_aload_n C0 dX4_read_75 1 rfl rfl ?_
              refine V_get C0 fl_X4_read_9 7 rfl rfl dX4_read_76 rfl ?_
              refine V_iload_n C0 dX4_read_79 4 rfl rfl ?_
              refine V_iload C0 dX4_read_80 6 rfl rfl ?_
              obtain ⟨r_82, hc_82, hf⟩ := bind_inv hf
              refine V_cSI (ws' := (W_C cI cJ cZ cO ac_ ct.1 ct.2.1 ct.2.2.1 ct.2.2.2.1 ct.2.2.2.2.1 ct.2.2.2.2.2.1 ct.2.2.2.2.2.2.1 ct.2.2.2.2.2.2.2 ++ (W_L cI cJ cZ cO al lt.1 lt.2.1 lt.2.2.1 lt.2.2.2))) (As := [.int x3, .int x6]) (st := [.ref (al 1)]) C0 (c_X4_index l dC dI cI cJ cZ cO  N  x3 x6 r_82 hc_82) rfl 2 gX4_read_X4_index (by decide +kernel) ⟨Nat.le_of_ble_eq_true rfl, Nat.le_of_ble_eq_true rfl⟩ rfl  ⟨_, (pr pr1), fun _ => (pr pr1)⟩ rfl (Nat.le_of_ble_eq_true rfl) dX4_read_82 rfl ⟨Nat.zero_le _, Nat.zero_le _⟩ ?_
              refine V_iload C0 dX4_read_85 0 rfl rfl ?_
              obtain ⟨hi87, hf⟩ := ck_inv hf
              refine V_iast (ws' := (W_C cI cJ cZ cO ac_ ct.1 ct.2.1 ct.2.2.1 ct.2.2.2.1 ct.2.2.2.2.1 ct.2.2.2.2.2.1 ct.2.2.2.2.2.2.1 ct.2.2.2.2.2.2.2 ++ (W_L cI cJ cZ cO al lt.1 (upd lt.2.1 (r_82.toNatClampNeg) x5_1) lt.2.2.1 lt.2.2.2))) C0 8 0 rfl rfl hi87 dX4_read_87 rfl rfl ?_
              refine V_aload_n C0 dX4_read_88 1 rfl rfl ?_
              refine V_get C0 fl_X4_read_15 7 rfl rfl dX4_read_89 rfl ?_
              refine V_iload_n C0 dX4_read_92 4 rfl rfl ?_
              refine V_iload C0 dX4_read_93 6 rfl rfl ?_
              obtain ⟨r_95, hc_95, hf⟩ := bind_inv hf
              refine V_cSI (ws' := (W_C cI cJ cZ cO ac_ ct.1 ct.2.1 ct.2.2.1 ct.2.2.2.1 ct.2.2.2.2.1 ct.2.2.2.2.2.1 ct.2.2.2.2.2.2.1 ct.2.2.2.2.2.2.2 ++ (W_L cI cJ cZ cO al lt.1 (upd lt.2.1 (r_82.toNatClampNeg) x5_1) lt.2.2.1 lt.2.2.2))) (As := [.int x3, .int x6]) (st := [.ref (al 2)]) C0 (c_X4_index l dC dI cI cJ cZ cO  N  x3 x6 r_95 hc_95) rfl 2 gX4_read_X4_index (by decide +kernel) ⟨Nat.le_of_ble_eq_true rfl, Nat.le_of_ble_eq_true rfl⟩ rfl  ⟨_, (pr pr1), fun _ => (pr pr1)⟩ rfl (Nat.le_of_ble_eq_true rfl) dX4_read_95 rfl ⟨Nat.zero_le _, Nat.zero_le _⟩ ?_
              refine V_aload_n C0 dX4_read_98 2 rfl rfl ?_
              refine V_iload C0 dX4_read_99 0 rfl rfl ?_
              obtain ⟨r_101, hc_101, hf⟩ := bind_inv hf
              refine V_cVI (ws' := (W_C cI cJ cZ cO ac_ ct.1 ct.2.1 ct.2.2.1 ct.2.2.2.1 ct.2.2.2.2.1 ct.2.2.2.2.2.1 ct.2.2.2.2.2.2.1 ct.2.2.2.2.2.2.2 ++ (W_L cI cJ cZ cO al lt.1 (upd lt.2.1 (r_82.toNatClampNeg) x5_1) lt.2.2.1 lt.2.2.2))) (As := [.int x5_1]) (b := ac_ 0) (st := [.int r_95, .ref (al 2)]) C0 (c_X2_pieceWith l dC dI cI cJ cZ cO ac_ N ct x5_1 r_101 hc_101) rfl 1 gX4_read_X2_pieceWith (by decide +kernel) ⟨Nat.le_of_ble_eq_true rfl, Nat.le_of_ble_eq_true rfl⟩ rfl 0 2 rfl rfl  ⟨_, (pte pr1), fun _ => (pte pr1)⟩ rfl (Nat.le_of_ble_eq_true rfl) dX4_read_101 rfl ⟨Nat.zero_le _, Nat.zero_le _⟩ ?_
              obtain ⟨hi104, hf⟩ := ck_inv hf
              refine V_iast (ws' := (W_C cI cJ cZ cO ac_ ct.1 ct.2.1 ct.2.2.1 ct.2.2.2.1 ct.2.2.2.2.1 ct.2.2.2.2.2.1 ct.2.2.2.2.2.2.1 ct.2.2.2.2.2.2.2 ++ (W_L cI cJ cZ cO al lt.1 (upd lt.2.1 (r_82.toNatClampNeg) x5_1) (upd lt.2.2.1 (r_95.toNatClampNeg) r_101) lt.2.2.2))) C0 9 0 rfl rfl hi104 dX4_read_104 rfl rfl ?_
              refine V_iinc (k := 6) (v := x6 + 1) (lv' := [(6, .int (x6 + 1)), (5, .int x5_1), (0, .ref (al 0)), (1, .ref (ac_ 0)), (2, .int x2), (3, .int x3), (4, .int x4)]) C0 dX4_read_105 rfl rfl (by decide) rfl rfl ?_
              refine V_goto (tgt := 48) C0 dX4_read_108 (by decide) ?_
              exact V.sub [2, 3, 4, 5, 6, 1, 0] rfl (hREC x5_1 (x6 + 1) ((lt.1, upd lt.2.1 (r_82.toNatClampNeg) x5_1, upd lt.2.2.1 (r_95.toNatClampNeg) r_101, lt.2.2.2)) hf)
        refine V.sub [3, 4, 5, 6, 2, 1, 0] rfl (hL48 x3 r_37 _ ?_ N 0 1 lt hf)
        intro lt_48 hf
        refine V_iinc (k := 3) (v := x3 + 1) (lv' := [(3, .int (x3 + 1)), (0, .ref (al 0)), (1, .ref (ac_ 0)), (2, .int x2)]) C0 dX4_read_111 rfl rfl (by decide) rfl rfl ?_
        refine V_goto (tgt := 27) C0 dX4_read_114 (by decide) ?_
        exact V.sub [1, 2, 3, 0] rfl (hREC (x3 + 1) lt_48 hf)
  refine V.sub [1, 2, 3, 0] rfl (hL27  _ ?_ N 0 ((ct.2.2.2.2.2.1 (x2.toNatClampNeg), lt.2.1, lt.2.2.1, va_cpy ct.2.2.2.1 lt.2.2.2 ((0 : Int32).toNatClampNeg) ((0 : Int32).toNatClampNeg) ((16 : Int32).toNatClampNeg))) hf)
  intro lt_27 hf
  obtain rfl := some_inv hf
  exact V_vret C0 () trivial rfl dX4_read_117
