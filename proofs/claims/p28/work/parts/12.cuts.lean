def f_J7_fill_d0a16_L6 (N : Nat) (nrj : Nat) (x1 : Int64) (x4 : Int32) (K : (Nat → Int64) → Option ((Nat → Int64))) : Nat → Int32 → (Nat → Int64) → Option ((Nat → Int64))
  | 0, _, _ => none
  | n+1, x3, rj => if x4 ≤ x3 then K rj else ck x3 nrj (f_J7_fill_d0a16_L6 N nrj x1 x4 K n (x3 + 1) (vp_updL rj (x3.toNatClampNeg) x1))
def f_J7_fill_d0a16 (N : Nat) (nrj : Nat) (rj : (Nat → Int64)) (x1 : Int64) : Option ((Nat → Int64)) := bd (Int32.ofNat nrj) (fun (x4_1 : Int32) => f_J7_fill_d0a16_L6 N nrj x1 x4_1 (fun (rj_6 : (Nat → Int64)) => some rj_6) N 0 rj)
def f_X0_addBehind_L23 (N : Nat) (lt : LV) (x2 : Int32) (x3 : Int32) (K : AV → Option (AV)) : Nat → Int32 → AV → Option (AV)
  | 0, _, _ => none
  | n+1, x4, ac => if x3 < x4 then K ac else (f_X4_weightAt N lt x2 x4 (-1)).bind (fun (r_34 : Int32) => ck x2 13 (ck (x2 + x4) 13 (ck x2 13 (if r_34 ≤ 0 then f_X0_addBehind_L23 N lt x2 x3 K n (x4 + 1) ((ac.1, vp_updL ac.2.1 (x2.toNatClampNeg) ((ac.2.1 (x2.toNatClampNeg)) + (r_34.toInt64 * (ac.2.1 ((x2 + x4).toNatClampNeg)))), ac.2.2)) else ck x2 13 (ck (x2 + x4) 13 (ck x2 13 (f_X0_addBehind_L23 N lt x2 x3 K n (x4 + 1) ((ac.1, vp_updL ac.2.1 (x2.toNatClampNeg) ((ac.2.1 (x2.toNatClampNeg)) + (r_34.toInt64 * (ac.2.1 ((x2 + x4).toNatClampNeg)))), upd ac.2.2 (x2.toNatClampNeg) ((ac.2.2 (x2.toNatClampNeg)) + (ac.2.2 ((x2 + x4).toNatClampNeg))))))))))))
def f_X0_addBehind (N : Nat) (lt : LV) (ac : AV) (x2 : Int32) : Option (AV) := ck x2 13 (ck x2 13 ((f_X4_mostLetters N lt x2).bind (fun (r_16 : Int32) => f_X0_addBehind_L23 N lt x2 r_16 (fun (ac_23 : AV) => some ac_23) N 1 ((ac.1, vp_updL ac.2.1 (x2.toNatClampNeg) 0, upd ac.2.2 (x2.toNatClampNeg) 0)))))
def f_X0_find_L34 (N : Nat) (lt : LV) (x2 : Int32) (x3 : Int32) (K : AV → Option (AV)) : Nat → Int32 → AV → Option (AV)
  | 0, _, _ => none
  | n+1, x4, ac => if x3 < x4 then K ac else ck (x2 + x4) 13 (ck x2 13 ((f_X4_weightAt N lt x2 x4 (-1)).bind (fun (r_61 : Int32) => ck (x2 + x4) 13 (f_X0_find_L34 N lt x2 x3 K n (x4 + 1) ((vp_updL ac.1 ((x2 + x4).toNatClampNeg) ((ac.1 ((x2 + x4).toNatClampNeg)) + ((ac.1 (x2.toNatClampNeg)) * r_61.toInt64)), ac.2.1, ac.2.2))))))
def f_X0_find_L17 (N : Nat) (lt : LV)  (K : AV → Option (AV)) : Nat → Int32 → AV → Option (AV)
  | 0, _, _ => none
  | n+1, x2, ac => if lt.1 ≤ x2 then K ac else (f_X4_mostLetters N lt x2).bind (fun (r_27 : Int32) => f_X0_find_L34 N lt x2 r_27 (fun (ac_34 : AV) => f_X0_find_L17 N lt  K n (x2 + 1) ac_34) N 1 ac)
def f_X0_find_L107 (N : Nat) (lt : LV)  (K : AV → Option (AV)) : Nat → Int32 → AV → Option (AV)
  | 0, _, _ => none
  | n+1, x2, ac => if x2 < 0 then K ac else (f_X0_addBehind N lt ac x2).bind (fun (r_114 : AV) => f_X0_find_L107 N lt  K n (x2 + (-1)) r_114)
def f_X0_find (N : Nat) (lt : LV) (ac : AV) : Option (AV) := (f_J7_fill_d0a16 N 13 ac.1 0).bind (fun (r_5 : (Nat → Int64)) => ck 0 13 (f_X0_find_L17 N lt  (fun (ac_17 : AV) => ck lt.1 13 (ck lt.1 13 (f_X0_find_L107 N lt  (fun (ac_107 : AV) => some ac_107) N (lt.1 - 1) ((ac_17.1, vp_updL ac_17.2.1 (lt.1.toNatClampNeg) 1, upd ac_17.2.2 (lt.1.toNatClampNeg) 1))))) N 0 ((vp_updL r_5 ((0 : Int32).toNatClampNeg) 1, ac.2.1, ac.2.2))))
def f_X0_total (N : Nat) (ac : AV) : Option (Int64) := ck 0 13 (some (ac.2.1 ((0 : Int32).toNatClampNeg)))
def f_X0_cuts (N : Nat) (ac : AV) : Option (Int32) := ck 0 13 (some (ac.2.2 ((0 : Int32).toNatClampNeg)))
def f_X0_shareOf_L25 (N : Nat) (lt : LV) (ac : AV) (x2 : Int32) (x5 : Int32) (x6 : Int32) (K : Int64 → Option (Int32)) : Nat → Int64 → Int32 → Option (Int32)
  | 0, _, _ => none
  | n+1, x3, x7 => if x6 < x7 then K x3 else (f_X4_pieceAt N lt x5 x7).bind (fun (r_37 : Int32) => if r_37 = x2 then (f_X4_weightAt N lt x5 x7 (-1)).bind (fun (r_50 : Int32) => ck x5 13 (ck (x5 + x7) 13 (bd (x3 + (((ac.1 (x5.toNatClampNeg)) * r_50.toInt64) * (ac.2.1 ((x5 + x7).toNatClampNeg)))) (fun (x3_1 : Int64) => f_X0_shareOf_L25 N lt ac x2 x5 x6 K n x3_1 (x7 + 1))))) else f_X0_shareOf_L25 N lt ac x2 x5 x6 K n x3 (x7 + 1))
def f_X0_shareOf_L5 (N : Nat) (lt : LV) (ac : AV) (x2 : Int32)  (K : Int64 → Option (Int32)) : Nat → Int64 → Int32 → Option (Int32)
  | 0, _, _ => none
  | n+1, x3, x5 => if lt.1 ≤ x5 then K x3 else (f_X4_mostLetters N lt x5).bind (fun (r_17 : Int32) => f_X0_shareOf_L25 N lt ac x2 x5 r_17 (fun (x3_25 : Int64) => f_X0_shareOf_L5 N lt ac x2  K n x3_25 (x5 + 1)) N x3 1)
def f_X0_shareOf (N : Nat) (lt : LV) (ac : AV) (x2 : Int32) : Option (Int32) := f_X0_shareOf_L5 N lt ac x2  (fun (x3_5 : Int64) => (f_X0_total N ac ).bind (fun (r_93 : Int64) => if (lg_cmp r_93 0) ≤ 0 then some 0 else (f_X0_total N ac ).bind (fun (r_107 : Int64) => nzL r_107 (some (((1000 * x3_5) / r_107).toInt32))))) N 0 0
def f_J7_fill_53178_L5 (N : Nat) (nri : Nat) (x1 : Int32) (x3 : Int32) (K : (Nat → Int32) → Option ((Nat → Int32))) : Nat → Int32 → (Nat → Int32) → Option ((Nat → Int32))
  | 0, _, _ => none
  | n+1, x2, ri => if x3 ≤ x2 then K ri else ck x2 nri (f_J7_fill_53178_L5 N nri x1 x3 K n (x2 + 1) (upd ri (x2.toNatClampNeg) x1))
def f_J7_fill_53178 (N : Nat) (nri : Nat) (ri : (Nat → Int32)) (x1 : Int32) : Option ((Nat → Int32)) := bd (Int32.ofNat nri) (fun (x3_1 : Int32) => f_J7_fill_53178_L5 N nri x1 x3_1 (fun (ri_5 : (Nat → Int32)) => some ri_5) N 0 ri)
abbrev RM_J7_fill_d0a16 : Room := { frames := 0, cells := 0, slots := 0, locals := 0 }
set_option maxRecDepth 100000 in
set_option maxHeartbeats 4000000 in
theorem c_J7_fill_d0a16 (l : Launch) (dC : Nat → ClassId) (dI : Nat → Nat → Nat) (cI cJ cZ cO : ClassId) (arj : Nat → Nat) (N : Nat) (nrj : Nat) (rj : (Nat → Int64)) (x1 : Int64) (o : (Nat → Int64)) (hf : f_J7_fill_d0a16 N nrj rj x1 = some o) : MetV l yJ7_fill_d0a16 wsJ7_fill_d0a16 RM_J7_fill_d0a16 (dC, dI) (TY cI cJ cZ cO) [.ref (arj 0), .long x1] (W_RJ cI cJ cZ cO arj nrj rj) (fun _ : Unit => True) (fun _ => (W_RJ cI cJ cZ cO arj nrj o)) := by
  refine MetV.ofV (cc := cJ7_fill_d0a16) (maxL := 5) (ret := none) (own := RJ7) (lv0 := [(0, .ref (arj 0)), (1, .long x1)]) (by decide) rfl rfl (Nat.le_of_ble_eq_true rfl) rfl ?_
  intro p e s m below meth c A C0 _
  unfold f_J7_fill_d0a16 at hf
  refine V_iconst (v := 0) C0 dJ7_fill_d0a16_0 (by decide) rfl ?_
  refine V_istore_n (lv' := [(3, .int 0), (0, .ref (arj 0)), (1, .long x1)]) C0 dJ7_fill_d0a16_1 rfl (by decide) rfl rfl ?_
  refine V_aload_n C0 dJ7_fill_d0a16_2 1 rfl rfl ?_
  refine V_alen (v := Int32.ofNat nrj) C0 0 1 rfl rfl rfl dJ7_fill_d0a16_3 rfl ?_
  refine V_topi (fun x4_1 ex4_1 => ?_)
  have hf := bd_inv ex4_1 hf
  refine V_istore (lv' := [(4, .int x4_1), (3, .int 0), (0, .ref (arj 0)), (1, .long x1)]) C0 dJ7_fill_d0a16_4 (by decide) rfl rfl ?_
  have hL6 : ∀ (x4 : Int32) (K : (Nat → Int64) → Option ((Nat → Int64))), (∀ (rj : (Nat → Int64)), K rj = some o → V p l e RM_J7_fill_d0a16 s m ([.ref (arj 0), .long x1] : List Value).toArray below meth c 5 (dC, dI) A (MQ below (va_Qv (fun _ : Unit => True) (PostW (dC, dI) (TY cI cJ cZ cO) A (fun _ => (W_RJ cI cJ cZ cO arj nrj o))) A) ([.ref (arj 0), .long x1] : List Value).toArray s 0 0 A) 0 0 (W_RJ cI cJ cZ cO arj nrj rj) 22 [] []) → ∀ (n : Nat) (x3 : Int32) (rj : (Nat → Int64)), f_J7_fill_d0a16_L6 N nrj x1 x4 K n x3 rj = some o → V p l e RM_J7_fill_d0a16 s m ([.ref (arj 0), .long x1] : List Value).toArray below meth c 5 (dC, dI) A (MQ below (va_Qv (fun _ : Unit => True) (PostW (dC, dI) (TY cI cJ cZ cO) A (fun _ => (W_RJ cI cJ cZ cO arj nrj o))) A) ([.ref (arj 0), .long x1] : List Value).toArray s 0 0 A) 0 0 (W_RJ cI cJ cZ cO arj nrj rj) 6 [(0, .ref (arj 0)), (1, .long x1), (3, .int x3), (4, .int x4)] [] := by
    intro x4 K hK n
    induction n with
    | zero => intro x3 rj hf; cases hf
    | succ n hREC =>
      intro x3 rj hf
      rw [f_J7_fill_d0a16_L6] at hf
      refine V_iload_n C0 dJ7_fill_d0a16_6 2 rfl rfl ?_
      refine V_iload C0 dJ7_fill_d0a16_7 3 rfl rfl ?_
      refine V_icmp_ge (tgt := 22) C0 dJ7_fill_d0a16_9 (by decide) rfl (fun c9 => ?_) (fun c9 => ?_)
      · have hf := ite_t c9 hf
        exact V.sub [] rfl (hK rj hf)
      · have hf := ite_f c9 hf
        refine V_aload_n C0 dJ7_fill_d0a16_12 0 rfl rfl ?_
        refine V_iload_n C0 dJ7_fill_d0a16_13 2 rfl rfl ?_
        refine V_lload_n C0 dJ7_fill_d0a16_14 1 rfl rfl ?_
        obtain ⟨hi15, hf⟩ := ck_inv hf
        refine V_last (ws' := (W_RJ cI cJ cZ cO arj nrj (vp_updL rj (x3.toNatClampNeg) x1))) C0 0 1 rfl rfl hi15 dJ7_fill_d0a16_15 rfl rfl ?_
        refine V_iinc (k := 2) (v := x3 + 1) (lv' := [(3, .int (x3 + 1)), (0, .ref (arj 0)), (1, .long x1), (4, .int x4)]) C0 dJ7_fill_d0a16_16 rfl rfl (by decide) rfl rfl ?_
        refine V_goto (tgt := 6) C0 dJ7_fill_d0a16_19 (by decide) ?_
        exact V.sub [1, 2, 0, 3] rfl (hREC (x3 + 1) (vp_updL rj (x3.toNatClampNeg) x1) hf)
  refine V.sub [2, 3, 1, 0] rfl (hL6 x4_1 _ ?_ N 0 rj hf)
  intro rj_6 hf
  obtain rfl := some_inv hf
  exact V_vret C0 () trivial rfl dJ7_fill_d0a16_22
abbrev RM_X0_addBehind : Room := { frames := 3, cells := 0, slots := 0, locals := 67 }
theorem in_X0_addBehind_X0 : ∀ w ∈ u_ws RX0 TX0 3, w ∈ wsX0_addBehind := by decide +kernel
theorem fl_X0_addBehind_15 : FL RX0 wsX0_addBehind 0 15 1 RX0 TX0 3 := ⟨in_X0_addBehind_X0, rfl, by decide, by decide +kernel, rfl⟩
theorem fl_X0_addBehind_18 : FL RX0 wsX0_addBehind 0 18 2 RX0 TX0 3 := ⟨in_X0_addBehind_X0, rfl, by decide, by decide +kernel, rfl⟩
set_option maxRecDepth 100000 in
set_option maxHeartbeats 4000000 in
theorem c_X0_addBehind (l : Launch) (dC : Nat → ClassId) (dI : Nat → Nat → Nat) (cI cJ cZ cO : ClassId) (al : Nat → Nat) (aac : Nat → Nat) (N : Nat) (lt : LV) (ac : AV) (x2 : Int32) (o : AV) (hf : f_X0_addBehind N lt ac x2 = some o) : MetV l yX0_addBehind wsX0_addBehind RM_X0_addBehind (dC, dI) (TY cI cJ cZ cO) [.ref (aac 0), .ref (al 0), .int x2] (W_L cI cJ cZ cO al lt.1 lt.2.1 lt.2.2.1 lt.2.2.2 ++ (W_A cI cJ cZ cO aac ac.1 ac.2.1 ac.2.2)) (fun _ : Unit => True) (fun _ => (W_L cI cJ cZ cO al lt.1 lt.2.1 lt.2.2.1 lt.2.2.2 ++ (W_A cI cJ cZ cO aac o.1 o.2.1 o.2.2))) := by
  refine MetV.ofV (cc := cX0_addBehind) (maxL := 6) (ret := none) (own := RX0) (lv0 := [(0, .ref (aac 0)), (1, .ref (al 0)), (2, .int x2)]) (by decide) rfl rfl (Nat.le_of_ble_eq_true rfl) rfl ?_
  intro p e s m below meth c A C0 _
  unfold f_X0_addBehind at hf
  refine V_aload_n C0 dX0_addBehind_0 0 rfl rfl ?_
  refine V_get C0 fl_X0_addBehind_15 4 rfl rfl dX0_addBehind_1 rfl ?_
  refine V_iload_n C0 dX0_addBehind_4 2 rfl rfl ?_
  refine V_lconst (v := 0) C0 dX0_addBehind_5 (by decide) rfl ?_
  obtain ⟨hi6, hf⟩ := ck_inv hf
  refine V_last (ws' := (W_L cI cJ cZ cO al lt.1 lt.2.1 lt.2.2.1 lt.2.2.2 ++ (W_A cI cJ cZ cO aac ac.1 (vp_updL ac.2.1 (x2.toNatClampNeg) 0) ac.2.2))) C0 6 1 rfl rfl hi6 dX0_addBehind_6 rfl rfl ?_
  refine V_aload_n C0 dX0_addBehind_7 0 rfl rfl ?_
  refine V_get C0 fl_X0_addBehind_18 4 rfl rfl dX0_addBehind_8 rfl ?_
  refine V_iload_n C0 dX0_addBehind_11 2 rfl rfl ?_
  refine V_iconst (v := 0) C0 dX0_addBehind_12 (by decide) rfl ?_
  obtain ⟨hi13, hf⟩ := ck_inv hf
  refine V_iast (ws' := (W_L cI cJ cZ cO al lt.1 lt.2.1 lt.2.2.1 lt.2.2.2 ++ (W_A cI cJ cZ cO aac ac.1 (vp_updL ac.2.1 (x2.toNatClampNeg) 0) (upd ac.2.2 (x2.toNatClampNeg) 0)))) C0 7 0 rfl rfl hi13 dX0_addBehind_13 rfl rfl ?_
  refine V_aload_n C0 dX0_addBehind_14 1 rfl rfl ?_
  refine V_iload_n C0 dX0_addBehind_15 2 rfl rfl ?_
  obtain ⟨r_16, hc_16, hf⟩ := bind_inv hf
  refine V_cVI (ws' := (W_L cI cJ cZ cO al lt.1 lt.2.1 lt.2.2.1 lt.2.2.2 ++ (W_A cI cJ cZ cO aac ac.1 (vp_updL ac.2.1 (x2.toNatClampNeg) 0) (upd ac.2.2 (x2.toNatClampNeg) 0)))) (As := [.int x2]) (b := al 0) (st := []) C0 (c_X4_mostLetters l dC dI cI cJ cZ cO al N lt x2 r_16 hc_16) rfl 1 gX0_addBehind_X4_mostLetters (by decide +kernel) ⟨Nat.le_of_ble_eq_true rfl, Nat.le_of_ble_eq_true rfl⟩ rfl 0 4 rfl rfl  ⟨_, (pte pr1), fun _ => (pte pr1)⟩ rfl (Nat.le_of_ble_eq_true rfl) dX0_addBehind_16 rfl ⟨Nat.zero_le _, Nat.zero_le _⟩ ?_
  refine V_istore_n (lv' := [(3, .int r_16), (0, .ref (aac 0)), (1, .ref (al 0)), (2, .int x2)]) C0 dX0_addBehind_19 rfl (by decide) rfl rfl ?_
  refine V_iconst (v := 1) C0 dX0_addBehind_20 (by decide) rfl ?_
  refine V_istore (lv' := [(4, .int 1), (3, .int r_16), (0, .ref (aac 0)), (1, .ref (al 0)), (2, .int x2)]) C0 dX0_addBehind_21 (by decide) rfl rfl ?_
  have hL23 : ∀ (x3 : Int32) (K : AV → Option (AV)), (∀ (ac : AV), K ac = some o → V p l e RM_X0_addBehind s m ([.ref (aac 0), .ref (al 0), .int x2] : List Value).toArray below meth c 6 (dC, dI) A (MQ below (va_Qv (fun _ : Unit => True) (PostW (dC, dI) (TY cI cJ cZ cO) A (fun _ => (W_L cI cJ cZ cO al lt.1 lt.2.1 lt.2.2.1 lt.2.2.2 ++ (W_A cI cJ cZ cO aac o.1 o.2.1 o.2.2)))) A) ([.ref (aac 0), .ref (al 0), .int x2] : List Value).toArray s 0 0 A) 0 0 (W_L cI cJ cZ cO al lt.1 lt.2.1 lt.2.2.1 lt.2.2.2 ++ (W_A cI cJ cZ cO aac ac.1 ac.2.1 ac.2.2)) 90 [] []) → ∀ (n : Nat) (x4 : Int32) (ac : AV), f_X0_addBehind_L23 N lt x2 x3 K n x4 ac = some o → V p l e RM_X0_addBehind s m ([.ref (aac 0), .ref (al 0), .int x2] : List Value).toArray below meth c 6 (dC, dI) A (MQ below (va_Qv (fun _ : Unit => True) (PostW (dC, dI) (TY cI cJ cZ cO) A (fun _ => (W_L cI cJ cZ cO al lt.1 lt.2.1 lt.2.2.1 lt.2.2.2 ++ (W_A cI cJ cZ cO aac o.1 o.2.1 o.2.2)))) A) ([.ref (aac 0), .ref (al 0), .int x2] : List Value).toArray s 0 0 A) 0 0 (W_L cI cJ cZ cO al lt.1 lt.2.1 lt.2.2.1 lt.2.2.2 ++ (W_A cI cJ cZ cO aac ac.1 ac.2.1 ac.2.2)) 23 [(0, .ref (aac 0)), (1, .ref (al 0)), (2, .int x2), (3, .int x3), (4, .int x4)] [] := by
    intro x3 K hK n
    induction n with
    | zero => intro x4 ac hf; cases hf
    | succ n hREC =>
      intro x4 ac hf
      rw [f_X0_addBehind_L23] at hf
      refine V_iload C0 dX0_addBehind_23 4 rfl rfl ?_
      refine V_iload_n C0 dX0_addBehind_25 3 rfl rfl ?_
      refine V_icmp_gt (tgt := 90) C0 dX0_addBehind_26 (by decide) rfl (fun c26 => ?_) (fun c26 => ?_)
      · have hf := ite_t c26 hf
        exact V.sub [] rfl (hK ac hf)
      · have hf := ite_f c26 hf
        refine V_aload_n C0 dX0_addBehind_29 1 rfl rfl ?_
        refine V_iload_n C0 dX0_addBehind_30 2 rfl rfl ?_
        refine V_iload C0 dX0_addBehind_31 4 rfl rfl ?_
        refine V_iconst (v := (-1)) C0 dX0_addBehind_33 (by decide) rfl ?_
        obtain ⟨r_34, hc_34, hf⟩ := bind_inv hf
        refine V_cVI (ws' := (W_L cI cJ cZ cO al lt.1 lt.2.1 lt.2.2.1 lt.2.2.2 ++ (W_A cI cJ cZ cO aac ac.1 ac.2.1 ac.2.2))) (As := [.int x2, .int x4, .int ((-1))]) (b := al 0) (st := []) C0 (c_X4_weightAt l dC dI cI cJ cZ cO al N lt x2 x4 (-1) r_34 hc_34) rfl 3 gX0_addBehind_X4_weightAt (by decide +kernel) ⟨Nat.le_of_ble_eq_true rfl, Nat.le_of_ble_eq_true rfl⟩ rfl 0 4 rfl rfl  ⟨_, (pte pr1), fun _ => (pte pr1)⟩ rfl (Nat.le_of_ble_eq_true rfl) dX0_addBehind_34 rfl ⟨Nat.zero_le _, Nat.zero_le _⟩ ?_
        refine V_istore (lv' := [(5, .int r_34), (0, .ref (aac 0)), (1, .ref (al 0)), (2, .int x2), (3, .int x3), (4, .int x4)]) C0 dX0_addBehind_37 (by decide) rfl rfl ?_
        refine V_aload_n C0 dX0_addBehind_39 1 rfl rfl ?_
        refine V_get C0 fl_X0_addBehind_15 4 rfl rfl dX0_addBehind_40 rfl ?_
        refine V_iload_n C0 dX0_addBehind_43 3 rfl rfl ?_
        refine V_dup2_11 C0 dX0_addBehind_44 rfl rfl rfl ?_
        obtain ⟨hi45, hf⟩ := ck_inv hf
        refine V_lald C0 6 1 rfl rfl hi45 dX0_addBehind_45 rfl ?_
        refine V_iload C0 dX0_addBehind_46 0 rfl rfl ?_
        refine V_i2l C0 dX0_addBehind_48 rfl ?_
        refine V_aload_n C0 dX0_addBehind_49 1 rfl rfl ?_
        refine V_get C0 fl_X0_addBehind_15 4 rfl rfl dX0_addBehind_50 rfl ?_
        refine V_iload_n C0 dX0_addBehind_53 3 rfl rfl ?_
        refine V_iload C0 dX0_addBehind_54 5 rfl rfl ?_
        refine V_iadd C0 dX0_addBehind_56 rfl ?_
        obtain ⟨hi57, hf⟩ := ck_inv hf
        refine V_lald C0 6 1 rfl rfl hi57 dX0_addBehind_57 rfl ?_
        refine V_lmul C0 dX0_addBehind_58 rfl ?_
        refine V_ladd C0 dX0_addBehind_59 rfl ?_
        obtain ⟨hi60, hf⟩ := ck_inv hf
        refine V_last (ws' := (W_L cI cJ cZ cO al lt.1 lt.2.1 lt.2.2.1 lt.2.2.2 ++ (W_A cI cJ cZ cO aac ac.1 (vp_updL ac.2.1 (x2.toNatClampNeg) ((ac.2.1 (x2.toNatClampNeg)) + (r_34.toInt64 * (ac.2.1 ((x2 + x4).toNatClampNeg))))) ac.2.2))) C0 6 1 rfl rfl hi60 dX0_addBehind_60 rfl rfl ?_
        refine V_iload C0 dX0_addBehind_61 0 rfl rfl ?_
        refine V_if_le (tgt := 84) C0 dX0_addBehind_63 (by decide) rfl (fun c63 => ?_) (fun c63 => ?_)
        · have hf := ite_t c63 hf
          refine V_iinc (k := 5) (v := x4 + 1) (lv' := [(4, .int (x4 + 1)), (5, .int r_34), (0, .ref (aac 0)), (1, .ref (al 0)), (2, .int x2), (3, .int x3)]) C0 dX0_addBehind_84 rfl rfl (by decide) rfl rfl ?_
          refine V_goto (tgt := 23) C0 dX0_addBehind_87 (by decide) ?_
          exact V.sub [2, 3, 4, 5, 0] rfl (hREC (x4 + 1) ((ac.1, vp_updL ac.2.1 (x2.toNatClampNeg) ((ac.2.1 (x2.toNatClampNeg)) + (r_34.toInt64 * (ac.2.1 ((x2 + x4).toNatClampNeg)))), ac.2.2)) hf)
        · have hf := ite_f c63 hf
          refine V_aload_n C0 dX0_addBehind_66 1 rfl rfl ?_
          refine V_get C0 fl_X0_addBehind_18 4 rfl rfl dX0_addBehind_67 rfl ?_
          refine V_iload_n C0 dX0_addBehind_70 3 rfl rfl ?_
          refine V_dup2_11 C0 dX0_addBehind_71 rfl rfl rfl ?_
          obtain ⟨hi72, hf⟩ := ck_inv hf
          refine V_iald C0 7 0 rfl rfl hi72 dX0_addBehind_72 rfl ?_
          refine V_aload_n C0 dX0_addBehind_73 1 rfl rfl ?_
          refine V_get C0 fl_X0_addBehind_18 4 rfl rfl dX0_addBehind_74 rfl ?_
          refine V_iload_n C0 dX0_addBehind_77 3 rfl rfl ?_
          refine V_iload C0 dX0_addBehind_78 5 rfl rfl ?_
          refine V_iadd C0 dX0_addBehind_80 rfl ?_
          obtain ⟨hi81, hf⟩ := ck_inv hf
          refine V_iald C0 7 0 rfl rfl hi81 dX0_addBehind_81 rfl ?_
          refine V_iadd C0 dX0_addBehind_82 rfl ?_
          obtain ⟨hi83, hf⟩ := ck_inv hf
          refine V_iast (ws' := (W_L cI cJ cZ cO al lt.1 lt.2.1 lt.2.2.1 lt.2.2.2 ++ (W_A cI cJ cZ cO aac ac.1 (vp_updL ac.2.1 (x2.toNatClampNeg) ((ac.2.1 (x2.toNatClampNeg)) + (r_34.toInt64 * (ac.2.1 ((x2 + x4).toNatClampNeg))))) (upd ac.2.2 (x2.toNatClampNeg) ((ac.2.2 (x2.toNatClampNeg)) + (ac.2.2 ((x2 + x4).toNatClampNeg))))))) C0 7 0 rfl rfl hi83 dX0_addBehind_83 rfl rfl ?_
          refine V_iinc (k := 5) (v := x4 + 1) (lv' := [(4, .int (x4 + 1)), (5, .int r_34), (0, .ref (aac 0)), (1, .ref (al 0)), (2, .int x2), (3, .int x3)]) C0 dX0_addBehind_84 rfl rfl (by decide) rfl rfl ?_
          refine V_goto (tgt := 23) C0 dX0_addBehind_87 (by decide) ?_
          exact V.sub [2, 3, 4, 5, 0] rfl (hREC (x4 + 1) ((ac.1, vp_updL ac.2.1 (x2.toNatClampNeg) ((ac.2.1 (x2.toNatClampNeg)) + (r_34.toInt64 * (ac.2.1 ((x2 + x4).toNatClampNeg)))), upd ac.2.2 (x2.toNatClampNeg) ((ac.2.2 (x2.toNatClampNeg)) + (ac.2.2 ((x2 + x4).toNatClampNeg))))) hf)
  refine V.sub [2, 3, 4, 1, 0] rfl (hL23 r_16 _ ?_ N 1 ((ac.1, vp_updL ac.2.1 (x2.toNatClampNeg) 0, upd ac.2.2 (x2.toNatClampNeg) 0)) hf)
  intro ac_23 hf
  obtain rfl := some_inv hf
  exact V_vret C0 () trivial rfl dX0_addBehind_90
abbrev RM_X0_find : Room := { frames := 4, cells := 0, slots := 0, locals := 92 }
theorem in_X0_find_X0 : ∀ w ∈ u_ws RX0 TX0 3, w ∈ wsX0_find := by decide +kernel
theorem in_X0_find_X4 : ∀ w ∈ u_ws RX4 TX4 4, w ∈ wsX0_find := by decide +kernel
theorem fl_X0_find_9 : FL RX0 wsX0_find 0 9 0 RX0 TX0 3 := ⟨in_X0_find_X0, rfl, by decide, by decide +kernel, rfl⟩
theorem fl_X0_find_15 : FL RX0 wsX0_find 0 15 1 RX0 TX0 3 := ⟨in_X0_find_X0, rfl, by decide, by decide +kernel, rfl⟩
theorem fl_X0_find_18 : FL RX0 wsX0_find 0 18 2 RX0 TX0 3 := ⟨in_X0_find_X0, rfl, by decide, by decide +kernel, rfl⟩
theorem fl_X0_find_28 : FL RX0 wsX0_find 4 28 0 RX4 TX4 4 := ⟨in_X0_find_X4, rfl, by decide, by decide +kernel, rfl⟩
set_option maxRecDepth 100000 in
set_option maxHeartbeats 4000000 in
theorem c_X0_find (l : Launch) (dC : Nat → ClassId) (dI : Nat → Nat → Nat) (cI cJ cZ cO : ClassId) (al : Nat → Nat) (aac : Nat → Nat) (N : Nat) (lt : LV) (ac : AV) (o : AV) (hf : f_X0_find N lt ac = some o) : MetV l yX0_find wsX0_find RM_X0_find (dC, dI) (TY cI cJ cZ cO) [.ref (aac 0), .ref (al 0)] (W_L cI cJ cZ cO al lt.1 lt.2.1 lt.2.2.1 lt.2.2.2 ++ (W_A cI cJ cZ cO aac ac.1 ac.2.1 ac.2.2)) (fun _ : Unit => True) (fun _ => (W_L cI cJ cZ cO al lt.1 lt.2.1 lt.2.2.1 lt.2.2.2 ++ (W_A cI cJ cZ cO aac o.1 o.2.1 o.2.2))) := by
  refine MetV.ofV (cc := cX0_find) (maxL := 5) (ret := none) (own := RX0) (lv0 := [(0, .ref (aac 0)), (1, .ref (al 0))]) (by decide) rfl rfl (Nat.le_of_ble_eq_true rfl) rfl ?_
  intro p e s m below meth c A C0 _
  unfold f_X0_find at hf
  refine V_aload_n C0 dX0_find_0 0 rfl rfl ?_
  refine V_get C0 fl_X0_find_9 4 rfl rfl dX0_find_1 rfl ?_
  refine V_lconst (v := 0) C0 dX0_find_4 (by decide) rfl ?_
  obtain ⟨r_5, hc_5, hf⟩ := bind_inv hf
  refine V_cSV (ws' := (W_L cI cJ cZ cO al lt.1 lt.2.1 lt.2.2.1 lt.2.2.2 ++ (W_A cI cJ cZ cO aac r_5 ac.2.1 ac.2.2))) (As := [.ref (aac 1), .long 0]) (st := []) C0 (c_J7_fill_d0a16 l dC dI cI cJ cZ cO (fun _ => aac 1) N 13 ac.1 0 r_5 hc_5) rfl 2 gX0_find_J7_fill_d0a16 (by decide +kernel) ⟨Nat.le_of_ble_eq_true rfl, Nat.le_of_ble_eq_true rfl⟩ rfl  ⟨_, (pr (pcr (pcte (pcr (pcr pn))))), fun _ => (pr (pcr (pcte (pcr (pcr pn)))))⟩ rfl (Nat.le_of_ble_eq_true rfl) dX0_find_5 rfl ⟨Nat.zero_le _, Nat.zero_le _⟩ ?_
  refine V_aload_n C0 dX0_find_8 0 rfl rfl ?_
  refine V_get C0 fl_X0_find_9 4 rfl rfl dX0_find_9 rfl ?_
  refine V_iconst (v := 0) C0 dX0_find_12 (by decide) rfl ?_
  refine V_lconst (v := 1) C0 dX0_find_13 (by decide) rfl ?_
  obtain ⟨hi14, hf⟩ := ck_inv hf
  refine V_last (ws' := (W_L cI cJ cZ cO al lt.1 lt.2.1 lt.2.2.1 lt.2.2.2 ++ (W_A cI cJ cZ cO aac (vp_updL r_5 ((0 : Int32).toNatClampNeg) 1) ac.2.1 ac.2.2))) C0 5 1 rfl rfl hi14 dX0_find_14 rfl rfl ?_
  refine V_iconst (v := 0) C0 dX0_find_15 (by decide) rfl ?_
  refine V_istore_n (lv' := [(2, .int 0), (0, .ref (aac 0)), (1, .ref (al 0))]) C0 dX0_find_16 rfl (by decide) rfl rfl ?_
  have hL17 : ∀ (K : AV → Option (AV)), (∀ (ac : AV), K ac = some o → V p l e RM_X0_find s m ([.ref (aac 0), .ref (al 0)] : List Value).toArray below meth c 5 (dC, dI) A (MQ below (va_Qv (fun _ : Unit => True) (PostW (dC, dI) (TY cI cJ cZ cO) A (fun _ => (W_L cI cJ cZ cO al lt.1 lt.2.1 lt.2.2.1 lt.2.2.2 ++ (W_A cI cJ cZ cO aac o.1 o.2.1 o.2.2)))) A) ([.ref (aac 0), .ref (al 0)] : List Value).toArray s 0 0 A) 0 0 (W_L cI cJ cZ cO al lt.1 lt.2.1 lt.2.2.1 lt.2.2.2 ++ (W_A cI cJ cZ cO aac ac.1 ac.2.1 ac.2.2)) 80 [(0, .ref (aac 0)), (1, .ref (al 0))] []) → ∀ (n : Nat) (x2 : Int32) (ac : AV), f_X0_find_L17 N lt  K n x2 ac = some o → V p l e RM_X0_find s m ([.ref (aac 0), .ref (al 0)] : List Value).toArray below meth c 5 (dC, dI) A (MQ below (va_Qv (fun _ : Unit => True) (PostW (dC, dI) (TY cI cJ cZ cO) A (fun _ => (W_L cI cJ cZ cO al lt.1 lt.2.1 lt.2.2.1 lt.2.2.2 ++ (W_A cI cJ cZ cO aac o.1 o.2.1 o.2.2)))) A) ([.ref (aac 0), .ref (al 0)] : List Value).toArray s 0 0 A) 0 0 (W_L cI cJ cZ cO al lt.1 lt.2.1 lt.2.2.1 lt.2.2.2 ++ (W_A cI cJ cZ cO aac ac.1 ac.2.1 ac.2.2)) 17 [(0, .ref (aac 0)), (1, .ref (al 0)), (2, .int x2)] [] := by
    intro  K hK n
    induction n with
    | zero => intro x2 ac hf; cases hf
    | succ n hREC =>
      intro x2 ac hf
      rw [f_X0_find_L17] at hf
      refine V_iload_n C0 dX0_find_17 2 rfl rfl ?_
      refine V_aload_n C0 dX0_find_18 1 rfl rfl ?_
      refine V_get C0 fl_X0_find_28 0 rfl rfl dX0_find_19 rfl ?_
      refine V_icmp_ge (tgt := 80) C0 dX0_find_22 (by decide) rfl (fun c22 => ?_) (fun c22 => ?_)
      · have hf := ite_t c22 hf
        exact V.sub [0, 1] rfl (hK ac hf)
      · have hf := ite_f c22 hf
        refine V_aload_n C0 dX0_find_25 1 rfl rfl ?_
        refine V_iload_n C0 dX0_find_26 2 rfl rfl ?_
        obtain ⟨r_27, hc_27, hf⟩ := bind_inv hf
        refine V_cVI (ws' := (W_L cI cJ cZ cO al lt.1 lt.2.1 lt.2.2.1 lt.2.2.2 ++ (W_A cI cJ cZ cO aac ac.1 ac.2.1 ac.2.2))) (As := [.int x2]) (b := al 0) (st := []) C0 (c_X4_mostLetters l dC dI cI cJ cZ cO al N lt x2 r_27 hc_27) rfl 1 gX0_find_X4_mostLetters (by decide +kernel) ⟨Nat.le_of_ble_eq_true rfl, Nat.le_of_ble_eq_true rfl⟩ rfl 0 4 rfl rfl  ⟨_, (pte pr1), fun _ => (pte pr1)⟩ rfl (Nat.le_of_ble_eq_true rfl) dX0_find_27 rfl ⟨Nat.zero_le _, Nat.zero_le _⟩ ?_
        refine V_istore_n (lv' := [(3, .int r_27), (0, .ref (aac 0)), (1, .ref (al 0)), (2, .int x2)]) C0 dX0_find_30 rfl (by decide) rfl rfl ?_
        refine V_iconst (v := 1) C0 dX0_find_31 (by decide) rfl ?_
        refine V_istore (lv' := [(4, .int 1), (3, .int r_27), (0, .ref (aac 0)), (1, .ref (al 0)), (2, .int x2)]) C0 dX0_find_32 (by decide) rfl rfl ?_
        have hL34 : ∀ (x2 : Int32) (x3 : Int32) (K : AV → Option (AV)), (∀ (ac : AV), K ac = some o → V p l e RM_X0_find s m ([.ref (aac 0), .ref (al 0)] : List Value).toArray below meth c 5 (dC, dI) A (MQ below (va_Qv (fun _ : Unit => True) (PostW (dC, dI) (TY cI cJ cZ cO) A (fun _ => (W_L cI cJ cZ cO al lt.1 lt.2.1 lt.2.2.1 lt.2.2.2 ++ (W_A cI cJ cZ cO aac o.1 o.2.1 o.2.2)))) A) ([.ref (aac 0), .ref (al 0)] : List Value).toArray s 0 0 A) 0 0 (W_L cI cJ cZ cO al lt.1 lt.2.1 lt.2.2.1 lt.2.2.2 ++ (W_A cI cJ cZ cO aac ac.1 ac.2.1 ac.2.2)) 74 [(0, .ref (aac 0)), (1, .ref (al 0)), (2, .int x2)] []) → ∀ (n : Nat) (x4 : Int32) (ac : AV), f_X0_find_L34 N lt x2 x3 K n x4 ac = some o → V p l e RM_X0_find s m ([.ref (aac 0), .ref (al 0)] : List Value).toArray below meth c 5 (dC, dI) A (MQ below (va_Qv (fun _ : Unit => True) (PostW (dC, dI) (TY cI cJ cZ cO) A (fun _ => (W_L cI cJ cZ cO al lt.1 lt.2.1 lt.2.2.1 lt.2.2.2 ++ (W_A cI cJ cZ cO aac o.1 o.2.1 o.2.2)))) A) ([.ref (aac 0), .ref (al 0)] : List Value).toArray s 0 0 A) 0 0 (W_L cI cJ cZ cO al lt.1 lt.2.1 lt.2.2.1 lt.2.2.2 ++ (W_A cI cJ cZ cO aac ac.1 ac.2.1 ac.2.2)) 34 [(0, .ref (aac 0)), (1, .ref (al 0)), (2, .int x2), (3, .int x3), (4, .int x4)] [] := by
          intro x2 x3 K hK n
          induction n with
          | zero => intro x4 ac hf; cases hf
          | succ n hREC =>
            intro x4 ac hf
            rw [f_X0_find_L34] at hf
            refine V_iload C0 dX0_find_34 4 rfl rfl ?_
            refine V_iload_n C0 dX0_find_36 3 rfl rfl ?_
            refine V_icmp_gt (tgt := 74) C0 dX0_find_37 (by decide) rfl (fun c37 => ?_) (fun c37 => ?_)
            · have hf := ite_t c37 hf
              exact V.sub [0, 1, 2] rfl (hK ac hf)
            · have hf := ite_f c37 hf
              refine V_aload_n C0 dX0_find_40 0 rfl rfl ?_
              refine V_get C0 fl_X0_find_9 4 rfl rfl dX0_find_41 rfl ?_
              refine V_iload_n C0 dX0_find_44 2 rfl rfl ?_
              refine V_iload C0 dX0_find_45 4 rfl rfl ?_
              refine V_iadd C0 dX0_find_47 rfl ?_
              refine V_dup2_11 C0 dX0_find_48 rfl rfl rfl ?_
              obtain ⟨hi49, hf⟩ := ck_inv hf
              refine V_lald C0 5 1 rfl rfl hi49 dX0_find_49 rfl ?_
              refine V_aload_n C0 dX0_find_50 0 rfl rfl ?_
              refine V_get C0 fl_X0_find_9 4 rfl rfl dX0_find_51 rfl ?_
              refine V_iload_n C0 dX0_find_54 2 rfl rfl ?_
              obtain ⟨hi55, hf⟩ := ck_inv hf
              refine V_lald C0 5 1 rfl rfl hi55 dX0_find_55 rfl ?_
              refine V_aload_n C0 dX0_find_56 1 rfl rfl ?_
              refine V_iload_n C0 dX0_find_57 2 rfl rfl ?_
              refine V_iload C0 dX0_find_58 4 rfl rfl ?_
              refine V_iconst (v := (-1)) C0 dX0_find_60 (by decide) rfl ?_
              obtain ⟨r_61, hc_61, hf⟩ := bind_inv hf
              refine V_cVI (ws' := (W_L cI cJ cZ cO al lt.1 lt.2.1 lt.2.2.1 lt.2.2.2 ++ (W_A cI cJ cZ cO aac ac.1 ac.2.1 ac.2.2))) (As := [.int x2, .int x4, .int ((-1))]) (b := al 0) (st := [.long (ac.1 (x2.toNatClampNeg)), .long (ac.1 ((x2 + x4).toNatClampNeg)), .int (x2 + x4), .ref (aac 1)]) C0 (c_X4_weightAt l dC dI cI cJ cZ cO al N lt x2 x4 (-1) r_61 hc_61) rfl 3 gX0_find_X4_weightAt (by decide +kernel) ⟨Nat.le_of_ble_eq_true rfl, Nat.le_of_ble_eq_true rfl⟩ rfl 0 4 rfl rfl  ⟨_, (pte pr1), fun _ => (pte pr1)⟩ rfl (Nat.le_of_ble_eq_true rfl) dX0_find_61 rfl ⟨Nat.zero_le _, Nat.zero_le _⟩ ?_
              refine V_i2l C0 dX0_find_64 rfl ?_
              refine V_lmul C0 dX0_find_65 rfl ?_
              refine V_ladd C0 dX0_find_66 rfl ?_
              obtain ⟨hi67, hf⟩ := ck_inv hf
              refine V_last (ws' := (W_L cI cJ cZ cO al lt.1 lt.2.1 lt.2.2.1 lt.2.2.2 ++ (W_A cI cJ cZ cO aac (vp_updL ac.1 ((x2 + x4).toNatClampNeg) ((ac.1 ((x2 + x4).toNatClampNeg)) + ((ac.1 (x2.toNatClampNeg)) * r_61.toInt64))) ac.2.1 ac.2.2))) C0 5 1 rfl rfl hi67 dX0_find_67 rfl rfl ?_
              refine V_iinc (k := 4) (v := x4 + 1) (lv' := [(4, .int (x4 + 1)), (0, .ref (aac 0)), (1, .ref (al 0)), (2, .int x2), (3, .int x3)]) C0 dX0_find_68 rfl rfl (by decide) rfl rfl ?_
              refine V_goto (tgt := 34) C0 dX0_find_71 (by decide) ?_
              exact V.sub [1, 2, 3, 4, 0] rfl (hREC (x4 + 1) ((vp_updL ac.1 ((x2 + x4).toNatClampNeg) ((ac.1 ((x2 + x4).toNatClampNeg)) + ((ac.1 (x2.toNatClampNeg)) * r_61.toInt64)), ac.2.1, ac.2.2)) hf)
        refine V.sub [2, 3, 4, 1, 0] rfl (hL34 x2 r_27 _ ?_ N 1 ac hf)
        intro ac_34 hf
        refine V_iinc (k := 2) (v := x2 + 1) (lv' := [(2, .int (x2 + 1)), (0, .ref (aac 0)), (1, .ref (al 0))]) C0 dX0_find_74 rfl rfl (by decide) rfl rfl ?_
        refine V_goto (tgt := 17) C0 dX0_find_77 (by decide) ?_
        exact V.sub [1, 2, 0] rfl (hREC (x2 + 1) ac_34 hf)
  refine V.sub [1, 2, 0] rfl (hL17  _ ?_ N 0 ((vp_updL r_5 ((0 : Int32).toNatClampNeg) 1, ac.2.1, ac.2.2)) hf)
  intro ac_17 hf
  refine V_aload_n C0 dX0_find_80 0 rfl rfl ?_
  refine V_get C0 fl_X0_find_15 4 rfl rfl dX0_find_81 rfl ?_
  refine V_aload_n C0 dX0_find_84 1 rfl rfl ?_
  refine V_get C0 fl_X0_find_28 0 rfl rfl dX0_find_85 rfl ?_
  refine V_lconst (v := 1) C0 dX0_find_88 (by decide) rfl ?_
  obtain ⟨hi89, hf⟩ := ck_inv hf
  refine V_last (ws' := (W_L cI cJ cZ cO al lt.1 lt.2.1 lt.2.2.1 lt.2.2.2 ++ (W_A cI cJ cZ cO aac ac_17.1 (vp_updL ac_17.2.1 (lt.1.toNatClampNeg) 1) ac_17.2.2))) C0 6 1 rfl rfl hi89 dX0_find_89 rfl rfl ?_
  refine V_aload_n C0 dX0_find_90 0 rfl rfl ?_
  refine V_get C0 fl_X0_find_18 4 rfl rfl dX0_find_91 rfl ?_
  refine V_aload_n C0 dX0_find_94 1 rfl rfl ?_
  refine V_get C0 fl_X0_find_28 0 rfl rfl dX0_find_95 rfl ?_
  refine V_iconst (v := 1) C0 dX0_find_98 (by decide) rfl ?_
  obtain ⟨hi99, hf⟩ := ck_inv hf
  refine V_iast (ws' := (W_L cI cJ cZ cO al lt.1 lt.2.1 lt.2.2.1 lt.2.2.2 ++ (W_A cI cJ cZ cO aac ac_17.1 (vp_updL ac_17.2.1 (lt.1.toNatClampNeg) 1) (upd ac_17.2.2 (lt.1.toNatClampNeg) 1)))) C0 7 0 rfl rfl hi99 dX0_find_99 rfl rfl ?_
  refine V_aload_n C0 dX0_find_100 1 rfl rfl ?_
  refine V_get C0 fl_X0_find_28 0 rfl rfl dX0_find_101 rfl ?_
  refine V_iconst (v := 1) C0 dX0_find_104 (by decide) rfl ?_
  refine V_isub C0 dX0_find_105 rfl ?_
  refine V_istore_n (lv' := [(2, .int (lt.1 - 1)), (0, .ref (aac 0)), (1, .ref (al 0))]) C0 dX0_find_106 rfl (by decide) rfl rfl ?_
  have hL107 : ∀ (K : AV → Option (AV)), (∀ (ac : AV), K ac = some o → V p l e RM_X0_find s m ([.ref (aac 0), .ref (al 0)] : List Value).toArray below meth c 5 (dC, dI) A (MQ below (va_Qv (fun _ : Unit => True) (PostW (dC, dI) (TY cI cJ cZ cO) A (fun _ => (W_L cI cJ cZ cO al lt.1 lt.2.1 lt.2.2.1 lt.2.2.2 ++ (W_A cI cJ cZ cO aac o.1 o.2.1 o.2.2)))) A) ([.ref (aac 0), .ref (al 0)] : List Value).toArray s 0 0 A) 0 0 (W_L cI cJ cZ cO al lt.1 lt.2.1 lt.2.2.1 lt.2.2.2 ++ (W_A cI cJ cZ cO aac ac.1 ac.2.1 ac.2.2)) 123 [] []) → ∀ (n : Nat) (x2 : Int32) (ac : AV), f_X0_find_L107 N lt  K n x2 ac = some o → V p l e RM_X0_find s m ([.ref (aac 0), .ref (al 0)] : List Value).toArray below meth c 5 (dC, dI) A (MQ below (va_Qv (fun _ : Unit => True) (PostW (dC, dI) (TY cI cJ cZ cO) A (fun _ => (W_L cI cJ cZ cO al lt.1 lt.2.1 lt.2.2.1 lt.2.2.2 ++ (W_A cI cJ cZ cO aac o.1 o.2.1 o.2.2)))) A) ([.ref (aac 0), .ref (al 0)] : List Value).toArray s 0 0 A) 0 0 (W_L cI cJ cZ cO al lt.1 lt.2.1 lt.2.2.1 lt.2.2.2 ++ (W_A cI cJ cZ cO aac ac.1 ac.2.1 ac.2.2)) 107 [(0, .ref (aac 0)), (1, .ref (al 0)), (2, .int x2)] [] := by
    intro  K hK n
    induction n with
    | zero => intro x2 ac hf; cases hf
    | succ n hREC =>
      intro x2 ac hf
      rw [f_X0_find_L107] at hf
      refine V_iload_n C0 dX0_find_107 2 rfl rfl ?_
      refine V_if_lt (tgt := 123) C0 dX0_find_108 (by decide) rfl (fun c108 => ?_) (fun c108 => ?_)
      · have hf := ite_t c108 hf
        exact V.sub [] rfl (hK ac hf)
      · have hf := ite_f c108 hf
        refine V_aload_n C0 dX0_find_111 0 rfl rfl ?_
        refine V_aload_n C0 dX0_find_112 1 rfl rfl ?_
        refine V_iload_n C0 dX0_find_113 2 rfl rfl ?_
        obtain ⟨r_114, hc_114, hf⟩ := bind_inv hf
        refine V_cVV (ws' := (W_L cI cJ cZ cO al lt.1 lt.2.1 lt.2.2.1 lt.2.2.2 ++ (W_A cI cJ cZ cO aac r_114.1 r_114.2.1 r_114.2.2))) (As := [.ref (al 0), .int x2]) (b := aac 0) (st := []) C0 (c_X0_addBehind l dC dI cI cJ cZ cO al aac N lt ac x2 r_114 hc_114) rfl 2 gX0_find_X0_addBehind (by decide +kernel) ⟨Nat.le_of_ble_eq_true rfl, Nat.le_of_ble_eq_true rfl⟩ rfl 4 0 rfl rfl  Cut.all rfl (Nat.le_of_ble_eq_true rfl) dX0_find_114 rfl ⟨Nat.zero_le _, Nat.zero_le _⟩ ?_
        refine V_iinc (k := 2) (v := x2 + (-1)) (lv' := [(2, .int (x2 + (-1))), (0, .ref (aac 0)), (1, .ref (al 0))]) C0 dX0_find_117 rfl rfl (by decide) rfl rfl ?_
        refine V_goto (tgt := 107) C0 dX0_find_120 (by decide) ?_
        exact V.sub [1, 2, 0] rfl (hREC (x2 + (-1)) r_114 hf)
  refine V.sub [1, 2, 0] rfl (hL107  _ ?_ N (lt.1 - 1) ((ac_17.1, vp_updL ac_17.2.1 (lt.1.toNatClampNeg) 1, upd ac_17.2.2 (lt.1.toNatClampNeg) 1)) hf)
  intro ac_107 hf
  obtain rfl := some_inv hf
  exact V_vret C0 () trivial rfl dX0_find_123
abbrev RM_X0_total : Room := { frames := 0, cells := 0, slots := 0, locals := 0 }
theorem in_X0_total_X0 : ∀ w ∈ u_ws RX0 TX0 3, w ∈ wsX0_total := by decide +kernel
theorem fl_X0_total_15 : FL RX0 wsX0_total 0 15 1 RX0 TX0 3 := ⟨in_X0_total_X0, rfl, by decide, by decide +kernel, rfl⟩
set_option maxRecDepth 100000 in
set_option maxHeartbeats 4000000 in
theorem c_X0_total (l : Launch) (dC : Nat → ClassId) (dI : Nat → Nat → Nat) (cI cJ cZ cO : ClassId) (aac : Nat → Nat) (N : Nat) (ac : AV) (o : Int64) (hf : f_X0_total N ac = some o) : MetL l yX0_total wsX0_total RM_X0_total (dC, dI) (TY cI cJ cZ cO) [.ref (aac 0)] (W_A cI cJ cZ cO aac ac.1 ac.2.1 ac.2.2) (fun r (_ : Unit) => r = o) (fun _ => (W_A cI cJ cZ cO aac ac.1 ac.2.1 ac.2.2)) := by
  refine MetL.ofV (cc := cX0_total) (maxL := 1) (ret := (some .long)) (own := RX0) (lv0 := [(0, .ref (aac 0))]) (by decide) rfl rfl (Nat.le_of_ble_eq_true rfl) rfl ?_
  intro p e s m below meth c A C0 _
  unfold f_X0_total at hf
  refine V_aload_n C0 dX0_total_0 0 rfl rfl ?_
  refine V_get C0 fl_X0_total_15 0 rfl rfl dX0_total_1 rfl ?_
  refine V_iconst (v := 0) C0 dX0_total_4 (by decide) rfl ?_
  obtain ⟨hi5, hf⟩ := ck_inv hf
  refine V_lald C0 2 1 rfl rfl hi5 dX0_total_5 rfl ?_
  obtain rfl := some_inv hf
  exact V_lret C0 () rfl rfl dX0_total_6
abbrev RM_X0_cuts : Room := { frames := 0, cells := 0, slots := 0, locals := 0 }
theorem in_X0_cuts_X0 : ∀ w ∈ u_ws RX0 TX0 3, w ∈ wsX0_cuts := by decide +kernel
theorem fl_X0_cuts_18 : FL RX0 wsX0_cuts 0 18 2 RX0 TX0 3 := ⟨in_X0_cuts_X0, rfl, by decide, by decide +kernel, rfl⟩
set_option maxRecDepth 100000 in
set_option maxHeartbeats 4000000 in
theorem c_X0_cuts (l : Launch) (dC : Nat → ClassId) (dI : Nat → Nat → Nat) (cI cJ cZ cO : ClassId) (aac : Nat → Nat) (N : Nat) (ac : AV) (o : Int32) (hf : f_X0_cuts N ac = some o) : MetI l yX0_cuts wsX0_cuts RM_X0_cuts (dC, dI) (TY cI cJ cZ cO) [.ref (aac 0)] (W_A cI cJ cZ cO aac ac.1 ac.2.1 ac.2.2) (fun r (_ : Unit) => r = o) (fun _ => (W_A cI cJ cZ cO aac ac.1 ac.2.1 ac.2.2)) := by
  refine MetI.ofV (cc := cX0_cuts) (maxL := 1) (ret := (some .int)) (own := RX0) (lv0 := [(0, .ref (aac 0))]) (by decide) rfl rfl (Nat.le_of_ble_eq_true rfl) rfl ?_
  intro p e s m below meth c A C0 _
  unfold f_X0_cuts at hf
  refine V_aload_n C0 dX0_cuts_0 0 rfl rfl ?_
  refine V_get C0 fl_X0_cuts_18 0 rfl rfl dX0_cuts_1 rfl ?_
  refine V_iconst (v := 0) C0 dX0_cuts_4 (by decide) rfl ?_
  obtain ⟨hi5, hf⟩ := ck_inv hf
  refine V_iald C0 3 0 rfl rfl hi5 dX0_cuts_5 rfl ?_
  obtain rfl := some_inv hf
  exact V_iret C0 () rfl rfl dX0_cuts_6
abbrev RM_X0_shareOf : Room := { frames := 3, cells := 0, slots := 0, locals := 67 }
theorem in_X0_shareOf_X0 : ∀ w ∈ u_ws RX0 TX0 3, w ∈ wsX0_shareOf := by decide +kernel
theorem in_X0_shareOf_X4 : ∀ w ∈ u_ws RX4 TX4 4, w ∈ wsX0_shareOf := by decide +kernel
theorem fl_X0_shareOf_9 : FL RX0 wsX0_shareOf 0 9 0 RX0 TX0 3 := ⟨in_X0_shareOf_X0, rfl, by decide, by decide +kernel, rfl⟩
theorem fl_X0_shareOf_15 : FL RX0 wsX0_shareOf 0 15 1 RX0 TX0 3 := ⟨in_X0_shareOf_X0, rfl, by decide, by decide +kernel, rfl⟩
theorem fl_X0_shareOf_28 : FL RX0 wsX0_shareOf 4 28 0 RX4 TX4 4 := ⟨in_X0_shareOf_X4, rfl, by decide, by decide +kernel, rfl⟩
set_option maxRecDepth 100000 in
set_option maxHeartbeats 4000000 in
theorem c_X0_shareOf (l : Launch) (dC : Nat → ClassId) (dI : Nat → Nat → Nat) (cI cJ cZ cO : ClassId) (al : Nat → Nat) (aac : Nat → Nat) (N : Nat) (lt : LV) (ac : AV) (x2 : Int32) (o : Int32) (hf : f_X0_shareOf N lt ac x2 = some o) : MetI l yX0_shareOf wsX0_shareOf RM_X0_shareOf (dC, dI) (TY cI cJ cZ cO) [.ref (aac 0), .ref (al 0), .int x2] (W_L cI cJ cZ cO al lt.1 lt.2.1 lt.2.2.1 lt.2.2.2 ++ (W_A cI cJ cZ cO aac ac.1 ac.2.1 ac.2.2)) (fun r (_ : Unit) => r = o) (fun _ => (W_L cI cJ cZ cO al lt.1 lt.2.1 lt.2.2.1 lt.2.2.2 ++ (W_A cI cJ cZ cO aac ac.1 ac.2.1 ac.2.2))) := by
  refine MetI.ofV (cc := cX0_shareOf) (maxL := 9) (ret := (some .int)) (own := RX0) (lv0 := [(0, .ref (aac 0)), (1, .ref (al 0)), (2, .int x2)]) (by decide) rfl rfl (Nat.le_of_ble_eq_true rfl) rfl ?_
  intro p e s m below meth c A C0 _
  unfold f_X0_shareOf at hf
  refine V_lconst (v := 0) C0 dX0_shareOf_0 (by decide) rfl ?_
  refine V_lstore_n (lv' := [(3, .long 0), (0, .ref (aac 0)), (1, .ref (al 0)), (2, .int x2)]) C0 dX0_shareOf_1 rfl (by decide) rfl rfl ?_
  refine V_iconst (v := 0) C0 dX0_shareOf_2 (by decide) rfl ?_
  refine V_istore (lv' := [(5, .int 0), (3, .long 0), (0, .ref (aac 0)), (1, .ref (al 0)), (2, .int x2)]) C0 dX0_shareOf_3 (by decide) rfl rfl ?_
  have hL5 : ∀ (K : Int64 → Option (Int32)), (∀ (x3 : Int64), K x3 = some o → V p l e RM_X0_shareOf s m ([.ref (aac 0), .ref (al 0), .int x2] : List Value).toArray below meth c 9 (dC, dI) A (MQ below (va_Qi (fun r (_ : Unit) => r = o) (PostW (dC, dI) (TY cI cJ cZ cO) A (fun _ => (W_L cI cJ cZ cO al lt.1 lt.2.1 lt.2.2.1 lt.2.2.2 ++ (W_A cI cJ cZ cO aac ac.1 ac.2.1 ac.2.2)))) A) ([.ref (aac 0), .ref (al 0), .int x2] : List Value).toArray s 0 0 A) 0 0 (W_L cI cJ cZ cO al lt.1 lt.2.1 lt.2.2.1 lt.2.2.2 ++ (W_A cI cJ cZ cO aac ac.1 ac.2.1 ac.2.2)) 92 [(0, .ref (aac 0)), (3, .long x3)] []) → ∀ (n : Nat) (x3 : Int64) (x5 : Int32), f_X0_shareOf_L5 N lt ac x2  K n x3 x5 = some o → V p l e RM_X0_shareOf s m ([.ref (aac 0), .ref (al 0), .int x2] : List Value).toArray below meth c 9 (dC, dI) A (MQ below (va_Qi (fun r (_ : Unit) => r = o) (PostW (dC, dI) (TY cI cJ cZ cO) A (fun _ => (W_L cI cJ cZ cO al lt.1 lt.2.1 lt.2.2.1 lt.2.2.2 ++ (W_A cI cJ cZ cO aac ac.1 ac.2.1 ac.2.2)))) A) ([.ref (aac 0), .ref (al 0), .int x2] : List Value).toArray s 0 0 A) 0 0 (W_L cI cJ cZ cO al lt.1 lt.2.1 lt.2.2.1 lt.2.2.2 ++ (W_A cI cJ cZ cO aac ac.1 ac.2.1 ac.2.2)) 5 [(0, .ref (aac 0)), (1, .ref (al 0)), (2, .int x2), (3, .long x3), (5, .int x5)] [] := by
    intro  K hK n
    induction n with
    | zero => intro x3 x5 hf; cases hf
    | succ n hREC =>
      intro x3 x5 hf
      rw [f_X0_shareOf_L5] at hf
      refine V_iload C0 dX0_shareOf_5 4 rfl rfl ?_
      refine V_aload_n C0 dX0_shareOf_7 1 rfl rfl ?_
      refine V_get C0 fl_X0_shareOf_28 0 rfl rfl dX0_shareOf_8 rfl ?_
      refine V_icmp_ge (tgt := 92) C0 dX0_shareOf_11 (by decide) rfl (fun c11 => ?_) (fun c11 => ?_)
      · have hf := ite_t c11 hf
        exact V.sub [0, 3] rfl (hK x3 hf)
      · have hf := ite_f c11 hf
        refine V_aload_n C0 dX0_shareOf_14 1 rfl rfl ?_
        refine V_iload C0 dX0_shareOf_15 4 rfl rfl ?_
        obtain ⟨r_17, hc_17, hf⟩ := bind_inv hf
        refine V_cVI (ws' := (W_L cI cJ cZ cO al lt.1 lt.2.1 lt.2.2.1 lt.2.2.2 ++ (W_A cI cJ cZ cO aac ac.1 ac.2.1 ac.2.2))) (As := [.int x5]) (b := al 0) (st := []) C0 (c_X4_mostLetters l dC dI cI cJ cZ cO al N lt x5 r_17 hc_17) rfl 1 gX0_shareOf_X4_mostLetters (by decide +kernel) ⟨Nat.le_of_ble_eq_true rfl, Nat.le_of_ble_eq_true rfl⟩ rfl 0 4 rfl rfl  ⟨_, (pte pr1), fun _ => (pte pr1)⟩ rfl (Nat.le_of_ble_eq_true rfl) dX0_shareOf_17 rfl ⟨Nat.zero_le _, Nat.zero_le _⟩ ?_
        refine V_istore (lv' := [(6, .int r_17), (0, .ref (aac 0)), (1, .ref (al 0)), (2, .int x2), (3, .long x3), (5, .int x5)]) C0 dX0_shareOf_20 (by decide) rfl rfl ?_
        refine V_iconst (v := 1) C0 dX0_shareOf_22 (by decide) rfl ?_
        refine V_istore (lv' := [(7, .int 1), (6, .int r_17), (0, .ref (aac 0)), (1, .ref (al 0)), (2, .int x2), (3, .long x3), (5, .int x5)]) C0 dX0_shareOf_23 (by decide) rfl rfl ?_
        have hL25 : ∀ (x5 : Int32) (x6 : Int32) (K : Int64 → Option (Int32)), (∀ (x3 : Int64), K x3 = some o → V p l e RM_X0_shareOf s m ([.ref (aac 0), .ref (al 0), .int x2] : List Value).toArray below meth c 9 (dC, dI) A (MQ below (va_Qi (fun r (_ : Unit) => r = o) (PostW (dC, dI) (TY cI cJ cZ cO) A (fun _ => (W_L cI cJ cZ cO al lt.1 lt.2.1 lt.2.2.1 lt.2.2.2 ++ (W_A cI cJ cZ cO aac ac.1 ac.2.1 ac.2.2)))) A) ([.ref (aac 0), .ref (al 0), .int x2] : List Value).toArray s 0 0 A) 0 0 (W_L cI cJ cZ cO al lt.1 lt.2.1 lt.2.2.1 lt.2.2.2 ++ (W_A cI cJ cZ cO aac ac.1 ac.2.1 ac.2.2)) 86 [(0, .ref (aac 0)), (1, .ref (al 0)), (2, .int x2), (3, .long x3), (5, .int x5)] []) → ∀ (n : Nat) (x3 : Int64) (x7 : Int32), f_X0_shareOf_L25 N lt ac x2 x5 x6 K n x3 x7 = some o → V p l e RM_X0_shareOf s m ([.ref (aac 0), .ref (al 0), .int x2] : List Value).toArray below meth c 9 (dC, dI) A (MQ below (va_Qi (fun r (_ : Unit) => r = o) (PostW (dC, dI) (TY cI cJ cZ cO) A (fun _ => (W_L cI cJ cZ cO al lt.1 lt.2.1 lt.2.2.1 lt.2.2.2 ++ (W_A cI cJ cZ cO aac ac.1 ac.2.1 ac.2.2)))) A) ([.ref (aac 0), .ref (al 0), .int x2] : List Value).toArray s 0 0 A) 0 0 (W_L cI cJ cZ cO al lt.1 lt.2.1 lt.2.2.1 lt.2.2.2 ++ (W_A cI cJ cZ cO aac ac.1 ac.2.1 ac.2.2)) 25 [(0, .ref (aac 0)), (1, .ref (al 0)), (2, .int x2), (3, .long x3), (5, .int x5), (6, .int x6), (7, .int x7)] [] := by
          intro x5 x6 K hK n
          induction n with
          | zero => intro x3 x7 hf; cases hf
          | succ n hREC =>
            intro x3 x7 hf
            rw [f_X0_shareOf_L25] at hf
            refine V_iload C0 dX0_shareOf_25 6 rfl rfl ?_
            refine V_iload C0 dX0_shareOf_27 5 rfl rfl ?_
            refine V_icmp_gt (tgt := 86) C0 dX0_shareOf_29 (by decide) rfl (fun c29 => ?_) (fun c29 => ?_)
            · have hf := ite_t c29 hf
              exact V.sub [0, 1, 2, 3, 4] rfl (hK x3 hf)
            · have hf := ite_f c29 hf
              refine V_aload_n C0 dX0_shareOf_32 1 rfl rfl ?_
              refine V_iload C0 dX0_shareOf_33 4 rfl rfl ?_
              refine V_iload C0 dX0_shareOf_35 6 rfl rfl ?_
              obtain ⟨r_37, hc_37, hf⟩ := bind_inv hf
              refine V_cVI (ws' := (W_L cI cJ cZ cO al lt.1 lt.2.1 lt.2.2.1 lt.2.2.2 ++ (W_A cI cJ cZ cO aac ac.1 ac.2.1 ac.2.2))) (As := [.int x5, .int x7]) (b := al 0) (st := []) C0 (c_X4_pieceAt l dC dI cI cJ cZ cO al N lt x5 x7 r_37 hc_37) rfl 2 gX0_shareOf_X4_pieceAt (by decide +kernel) ⟨Nat.le_of_ble_eq_true rfl, Nat.le_of_ble_eq_true rfl⟩ rfl 0 4 rfl rfl  ⟨_, (pte pr1), fun _ => (pte pr1)⟩ rfl (Nat.le_of_ble_eq_true rfl) dX0_shareOf_37 rfl ⟨Nat.zero_le _, Nat.zero_le _⟩ ?_
              refine V_iload_n C0 dX0_shareOf_40 2 rfl rfl ?_
              refine V_icmp_ne (tgt := 80) C0 dX0_shareOf_41 (by decide) rfl (fun c41 => ?_) (fun c41 => ?_)
              · have hf := ite_f c41 hf
                refine V_iinc (k := 6) (v := x7 + 1) (lv' := [(7, .int (x7 + 1)), (0, .ref (aac 0)), (1, .ref (al 0)), (2, .int x2), (3, .long x3), (5, .int x5), (6, .int x6)]) C0 dX0_shareOf_80 rfl rfl (by decide) rfl rfl ?_
                refine V_goto (tgt := 25) C0 dX0_shareOf_83 (by decide) ?_
                exact V.sub [1, 2, 3, 4, 5, 6, 0] rfl (hREC x3 (x7 + 1) hf)
              · have hf := ite_t c41 hf
                refine V_aload_n C0 dX0_shareOf_44 1 rfl rfl ?_
                refine V_iload C0 dX0_shareOf_45 4 rfl rfl ?_
                refine V_iload C0 dX0_shareOf_47 6 rfl rfl ?_
                refine V_iconst (v := (-1)) C0 dX0_shareOf_49 (by decide) rfl ?_
                obtain ⟨r_50, hc_50, hf⟩ := bind_inv hf
                refine V_cVI (ws' := (W_L cI cJ cZ cO al lt.1 lt.2.1 lt.2.2.1 lt.2.2.2 ++ (W_A cI cJ cZ cO aac ac.1 ac.2.1 ac.2.2))) (As := [.int x5, .int x7, .int ((-1))]) (b := al 0) (st := []) C0 (c_X4_weightAt l dC dI cI cJ cZ cO al N lt x5 x7 (-1) r_50 hc_50) rfl 3 gX0_shareOf_X4_weightAt (by decide +kernel) ⟨Nat.le_of_ble_eq_true rfl, Nat.le_of_ble_eq_true rfl⟩ rfl 0 4 rfl rfl  ⟨_, (pte pr1), fun _ => (pte pr1)⟩ rfl (Nat.le_of_ble_eq_true rfl) dX0_shareOf_50 rfl ⟨Nat.zero_le _, Nat.zero_le _⟩ ?_
                refine V_istore (lv' := [(8, .int r_50), (0, .ref (aac 0)), (1, .ref (al 0)), (2, .int x2), (3, .long x3), (5, .int x5), (6, .int x6), (7, .int x7)]) C0 dX0_shareOf_53 (by decide) rfl rfl ?_
                refine V_lload_n C0 dX0_shareOf_55 4 rfl rfl ?_
                refine V_aload_n C0 dX0_shareOf_56 1 rfl rfl ?_
                refine V_get C0 fl_X0_shareOf_9 4 rfl rfl dX0_shareOf_57 rfl ?_
                refine V_iload C0 dX0_shareOf_60 5 rfl rfl ?_
                obtain ⟨hi62, hf⟩ := ck_inv hf
                refine V_lald C0 5 1 rfl rfl hi62 dX0_shareOf_62 rfl ?_
                refine V_iload C0 dX0_shareOf_63 0 rfl rfl ?_
                refine V_i2l C0 dX0_shareOf_65 rfl ?_
                refine V_lmul C0 dX0_shareOf_66 rfl ?_
                refine V_aload_n C0 dX0_shareOf_67 1 rfl rfl ?_
                refine V_get C0 fl_X0_shareOf_15 4 rfl rfl dX0_shareOf_68 rfl ?_
                refine V_iload C0 dX0_shareOf_71 5 rfl rfl ?_
                refine V_iload C0 dX0_shareOf_73 7 rfl rfl ?_
                refine V_iadd C0 dX0_shareOf_75 rfl ?_
                obtain ⟨hi76, hf⟩ := ck_inv hf
                refine V_lald C0 6 1 rfl rfl hi76 dX0_shareOf_76 rfl ?_
                refine V_lmul C0 dX0_shareOf_77 rfl ?_
                refine V_ladd C0 dX0_shareOf_78 rfl ?_
                refine V_topl (fun x3_1 ex3_1 => ?_)
                have hf := bd_inv ex3_1 hf
                refine V_lstore_n (lv' := [(3, .long x3_1), (8, .int r_50), (0, .ref (aac 0)), (1, .ref (al 0)), (2, .int x2), (5, .int x5), (6, .int x6), (7, .int x7)]) C0 dX0_shareOf_79 rfl (by decide) rfl rfl ?_
                refine V_iinc (k := 7) (v := x7 + 1) (lv' := [(7, .int (x7 + 1)), (3, .long x3_1), (8, .int r_50), (0, .ref (aac 0)), (1, .ref (al 0)), (2, .int x2), (5, .int x5), (6, .int x6)]) C0 dX0_shareOf_80 rfl rfl (by decide) rfl rfl ?_
                refine V_goto (tgt := 25) C0 dX0_shareOf_83 (by decide) ?_
                exact V.sub [3, 4, 5, 1, 6, 7, 0] rfl (hREC x3_1 (x7 + 1) hf)
        refine V.sub [2, 3, 4, 5, 6, 1, 0] rfl (hL25 x5 r_17 _ ?_ N x3 1 hf)
        intro x3_25 hf
        refine V_iinc (k := 4) (v := x5 + 1) (lv' := [(5, .int (x5 + 1)), (0, .ref (aac 0)), (1, .ref (al 0)), (2, .int x2), (3, .long x3_25)]) C0 dX0_shareOf_86 rfl rfl (by decide) rfl rfl ?_
        refine V_goto (tgt := 5) C0 dX0_shareOf_89 (by decide) ?_
        exact V.sub [1, 2, 3, 4, 0] rfl (hREC x3_25 (x5 + 1) hf)
  refine V.sub [2, 3, 4, 1, 0] rfl (hL5  _ ?_ N 0 0 hf)
  intro x3_5 hf
  refine V_aload_n C0 dX0_shareOf_92 0 rfl rfl ?_
  obtain ⟨r_93, hc_93, hf⟩ := bind_inv hf
  refine V_cVL (ws' := (W_L cI cJ cZ cO al lt.1 lt.2.1 lt.2.2.1 lt.2.2.2 ++ (W_A cI cJ cZ cO aac ac.1 ac.2.1 ac.2.2))) (As := []) (b := aac 0) (st := []) C0 (c_X0_total l dC dI cI cJ cZ cO aac N ac  r_93 hc_93) rfl 0 gX0_shareOf_X0_total (by decide +kernel) ⟨Nat.le_of_ble_eq_true rfl, Nat.le_of_ble_eq_true rfl⟩ rfl 4 0 rfl rfl  ⟨_, (pr pt1), fun _ => (pr pt1)⟩ rfl (Nat.le_of_ble_eq_true rfl) dX0_shareOf_93 rfl ⟨Nat.zero_le _, Nat.zero_le _⟩ ?_
  refine V_lconst (v := 0) C0 dX0_shareOf_96 (by decide) rfl ?_
  refine V_lcmp C0 dX0_shareOf_97 rfl ?_
  refine V_if_le (tgt := 115) C0 dX0_shareOf_98 (by decide) rfl (fun c98 => ?_) (fun c98 => ?_)
  · have hf := ite_t c98 hf
    refine V_iconst (v := 0) C0 dX0_shareOf_115 (by decide) rfl ?_
    obtain rfl := some_inv hf
    exact V_iret C0 () rfl rfl dX0_shareOf_116
  · have hf := ite_f c98 hf
    refine V_ldc2 (v := 1000) C0 dX0_shareOf_101 (by decide +kernel) rfl ?_
    refine V_lload_n C0 dX0_shareOf_104 1 rfl rfl ?_
    refine V_lmul C0 dX0_shareOf_105 rfl ?_
    refine V_aload_n C0 dX0_shareOf_106 0 rfl rfl ?_
    obtain ⟨r_107, hc_107, hf⟩ := bind_inv hf
    refine V_cVL (ws' := (W_L cI cJ cZ cO al lt.1 lt.2.1 lt.2.2.1 lt.2.2.2 ++ (W_A cI cJ cZ cO aac ac.1 ac.2.1 ac.2.2))) (As := []) (b := aac 0) (st := [.long (1000 * x3_5)]) C0 (c_X0_total l dC dI cI cJ cZ cO aac N ac  r_107 hc_107) rfl 0 gX0_shareOf_X0_total (by decide +kernel) ⟨Nat.le_of_ble_eq_true rfl, Nat.le_of_ble_eq_true rfl⟩ rfl 4 0 rfl rfl  ⟨_, (pr pt1), fun _ => (pr pt1)⟩ rfl (Nat.le_of_ble_eq_true rfl) dX0_shareOf_107 rfl ⟨Nat.zero_le _, Nat.zero_le _⟩ ?_
    obtain ⟨hz110, hf⟩ := nzL_inv hf
    refine V_ldiv C0 dX0_shareOf_110 hz110 rfl ?_
    refine V_l2i C0 dX0_shareOf_111 rfl ?_
    refine V_goto (tgt := 116) C0 dX0_shareOf_112 (by decide) ?_
    obtain rfl := some_inv hf
    exact V_iret C0 () rfl rfl dX0_shareOf_116
abbrev RM_J7_fill_53178 : Room := { frames := 0, cells := 0, slots := 0, locals := 0 }
set_option maxRecDepth 100000 in
set_option maxHeartbeats 4000000 in
theorem c_J7_fill_53178 (l : Launch) (dC : Nat → ClassId) (dI : Nat → Nat → Nat) (cI cJ cZ cO : ClassId) (ari : Nat → Nat) (N : Nat) (nri : Nat) (ri : (Nat → Int32)) (x1 : Int32) (o : (Nat → Int32)) (hf : f_J7_fill_53178 N nri ri x1 = some o) : MetV l yJ7_fill_53178 wsJ7_fill_53178 RM_J7_fill_53178 (dC, dI) (TY cI cJ cZ cO) [.ref (ari 0), .int x1] (W_RI cI cJ cZ cO ari nri ri) (fun _ : Unit => True) (fun _ => (W_RI cI cJ cZ cO ari nri o)) := by
  refine MetV.ofV (cc := cJ7_fill_53178) (maxL := 4) (ret := none) (own := RJ7) (lv0 := [(0, .ref (ari 0)), (1, .int x1)]) (by decide) rfl rfl (Nat.le_of_ble_eq_true rfl) rfl ?_
  intro p e s m below meth c A C0 _
  unfold f_J7_fill_53178 at hf
  refine V_iconst (v := 0) C0 dJ7_fill_53178_0 (by decide) rfl ?_
  refine V_istore_n (lv' := [(2, .int 0), (0, .ref (ari 0)), (1, .int x1)]) C0 dJ7_fill_53178_1 rfl (by decide) rfl rfl ?_
  refine V_aload_n C0 dJ7_fill_53178_2 1 rfl rfl ?_
  refine V_alen (v := Int32.ofNat nri) C0 0 0 rfl rfl rfl dJ7_fill_53178_3 rfl ?_
  refine V_topi (fun x3_1 ex3_1 => ?_)
  have hf := bd_inv ex3_1 hf
  refine V_istore_n (lv' := [(3, .int x3_1), (2, .int 0), (0, .ref (ari 0)), (1, .int x1)]) C0 dJ7_fill_53178_4 rfl (by decide) rfl rfl ?_
  have hL5 : ∀ (x3 : Int32) (K : (Nat → Int32) → Option ((Nat → Int32))), (∀ (ri : (Nat → Int32)), K ri = some o → V p l e RM_J7_fill_53178 s m ([.ref (ari 0), .int x1] : List Value).toArray below meth c 4 (dC, dI) A (MQ below (va_Qv (fun _ : Unit => True) (PostW (dC, dI) (TY cI cJ cZ cO) A (fun _ => (W_RI cI cJ cZ cO ari nri o))) A) ([.ref (ari 0), .int x1] : List Value).toArray s 0 0 A) 0 0 (W_RI cI cJ cZ cO ari nri ri) 20 [] []) → ∀ (n : Nat) (x2 : Int32) (ri : (Nat → Int32)), f_J7_fill_53178_L5 N nri x1 x3 K n x2 ri = some o → V p l e RM_J7_fill_53178 s m ([.ref (ari 0), .int x1] : List Value).toArray below meth c 4 (dC, dI) A (MQ below (va_Qv (fun _ : Unit => True) (PostW (dC, dI) (TY cI cJ cZ cO) A (fun _ => (W_RI cI cJ cZ cO ari nri o))) A) ([.ref (ari 0), .int x1] : List Value).toArray s 0 0 A) 0 0 (W_RI cI cJ cZ cO ari nri ri) 5 [(0, .ref (ari 0)), (1, .int x1), (2, .int x2), (3, .int x3)] [] := by
    intro x3 K hK n
    induction n with
    | zero => intro x2 ri hf; cases hf
    | succ n hREC =>
      intro x2 ri hf
      rw [f_J7_fill_53178_L5] at hf
      refine V_iload_n C0 dJ7_fill_53178_5 2 rfl rfl ?_
      refine V_iload_n C0 dJ7_fill_53178_6 3 rfl rfl ?_
      refine V_icmp_ge (tgt := 20) C0 dJ7_fill_53178_7 (by decide) rfl (fun c7 => ?_) (fun c7 => ?_)
      · have hf := ite_t c7 hf
        exact V.sub [] rfl (hK ri hf)
      · have hf := ite_f c7 hf
        refine V_aload_n C0 dJ7_fill_53178_10 0 rfl rfl ?_
        refine V_iload_n C0 dJ7_fill_53178_11 2 rfl rfl ?_
        refine V_iload_n C0 dJ7_fill_53178_12 1 rfl rfl ?_
        obtain ⟨hi13, hf⟩ := ck_inv hf
        refine V_iast (ws' := (W_RI cI cJ cZ cO ari nri (upd ri (x2.toNatClampNeg) x1))) C0 0 0 rfl rfl hi13 dJ7_fill_53178_13 rfl rfl ?_
        refine V_iinc (k := 2) (v := x2 + 1) (lv' := [(2, .int (x2 + 1)), (0, .ref (ari 0)), (1, .int x1), (3, .int x3)]) C0 dJ7_fill_53178_14 rfl rfl (by decide) rfl rfl ?_
        refine V_goto (tgt := 5) C0 dJ7_fill_53178_17 (by decide) ?_
        exact V.sub [1, 2, 0, 3] rfl (hREC (x2 + 1) (upd ri (x2.toNatClampNeg) x1) hf)
  refine V.sub [2, 3, 1, 0] rfl (hL5 x3_1 _ ?_ N 0 ri hf)
  intro ri_5 hf
  obtain rfl := some_inv hf
  exact V_vret C0 () trivial rfl dJ7_fill_53178_20
