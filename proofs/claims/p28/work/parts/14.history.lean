def f_X3_dropOldest (N : Nat) (hi : HV) : Option (HV) := some (5, hi.2.2.1, hi.2.2.2.1, hi.2.2.2.2.1, hi.2.2.2.2.2.1, hi.2.2.2.2.2.2, hi.2.1)
abbrev rotA (ahs : Nat → Nat → Nat) : Nat → Nat → Nat := fun k => if k = 5 then ahs 0 else ahs (k + 1)
def f_X3_record (N : Nat) (ct : CV) (hi : HV) : Option (HV) := jn (fun (hi_13 : HV) => ck hi_13.1 6 (if hi_13.1.toNatClampNeg = 0 then (f_X2_copyFrom N hi_13.2.1 ct ).bind (fun (r_23 : CV) => some ((hi_13.1 + 1, r_23, hi_13.2.2.1, hi_13.2.2.2.1, hi_13.2.2.2.2.1, hi_13.2.2.2.2.2.1, hi_13.2.2.2.2.2.2))) else if hi_13.1.toNatClampNeg = 1 then (f_X2_copyFrom N hi_13.2.2.1 ct ).bind (fun (r_23 : CV) => some ((hi_13.1 + 1, hi_13.2.1, r_23, hi_13.2.2.2.1, hi_13.2.2.2.2.1, hi_13.2.2.2.2.2.1, hi_13.2.2.2.2.2.2))) else if hi_13.1.toNatClampNeg = 2 then (f_X2_copyFrom N hi_13.2.2.2.1 ct ).bind (fun (r_23 : CV) => some ((hi_13.1 + 1, hi_13.2.1, hi_13.2.2.1, r_23, hi_13.2.2.2.2.1, hi_13.2.2.2.2.2.1, hi_13.2.2.2.2.2.2))) else if hi_13.1.toNatClampNeg = 3 then (f_X2_copyFrom N hi_13.2.2.2.2.1 ct ).bind (fun (r_23 : CV) => some ((hi_13.1 + 1, hi_13.2.1, hi_13.2.2.1, hi_13.2.2.2.1, r_23, hi_13.2.2.2.2.2.1, hi_13.2.2.2.2.2.2))) else if hi_13.1.toNatClampNeg = 4 then (f_X2_copyFrom N hi_13.2.2.2.2.2.1 ct ).bind (fun (r_23 : CV) => some ((hi_13.1 + 1, hi_13.2.1, hi_13.2.2.1, hi_13.2.2.2.1, hi_13.2.2.2.2.1, r_23, hi_13.2.2.2.2.2.2))) else if hi_13.1.toNatClampNeg = 5 then (f_X2_copyFrom N hi_13.2.2.2.2.2.2 ct ).bind (fun (r_23 : CV) => some ((hi_13.1 + 1, hi_13.2.1, hi_13.2.2.1, hi_13.2.2.2.1, hi_13.2.2.2.2.1, hi_13.2.2.2.2.2.1, r_23))) else none)) (fun (J13 : HV → Option (HV)) => if hi.1 < 6 then J13 hi else (f_X3_dropOldest N hi ).bind (fun (r_10 : HV) => J13 r_10))
abbrev RM_X3_dropOldest : Room := { frames := 0, cells := 0, slots := 0, locals := 0 }
theorem in_X3_dropOldest_X3 : ∀ w ∈ u_ws RX3 TX3 2, w ∈ wsX3_dropOldest := by decide +kernel
theorem in_X3_dropOldest_X2 : ∀ w ∈ u_ws RX3 TX3 2, w ∈ wsX3_dropOldest := by decide +kernel
theorem fl_X3_dropOldest_11 : FL RX3 wsX3_dropOldest 3 11 1 RX3 TX3 2 := ⟨in_X3_dropOldest_X3, rfl, by decide, by decide +kernel, rfl⟩
theorem fl_X3_dropOldest_18 : FL RX3 wsX3_dropOldest 3 18 0 RX3 TX3 2 := ⟨in_X3_dropOldest_X3, rfl, by decide, by decide +kernel, rfl⟩
set_option maxRecDepth 100000 in
set_option maxHeartbeats 4000000 in
theorem c_X3_dropOldest (l : Launch) (dC : Nat → ClassId) (dI : Nat → Nat → Nat) (cI cJ cZ cO : ClassId) (ah : Nat → Nat) (ahs : Nat → Nat → Nat) (N : Nat) (hi : HV) (o : HV) (hf : f_X3_dropOldest N hi = some o) : MetV l yX3_dropOldest wsX3_dropOldest RM_X3_dropOldest (dC, dI) (TY cI cJ cZ cO) [.ref (ah 0)] (W_H cI cJ cZ cO ah ahs hi.1 hi.2.1 hi.2.2.1 hi.2.2.2.1 hi.2.2.2.2.1 hi.2.2.2.2.2.1 hi.2.2.2.2.2.2) (fun _ : Nat → Nat → Nat => True) (fun (ahs : Nat → Nat → Nat) => (W_H cI cJ cZ cO ah ahs o.1 o.2.1 o.2.2.1 o.2.2.2.1 o.2.2.2.2.1 o.2.2.2.2.2.1 o.2.2.2.2.2.2)) := by
  refine MetV.ofV (cc := cX3_dropOldest) (maxL := 3) (ret := none) (own := RX3) (lv0 := [(0, .ref (ah 0))]) (by decide) rfl rfl (Nat.le_of_ble_eq_true rfl) rfl ?_
  intro p e s m below meth c A C0 _
  unfold f_X3_dropOldest at hf
  obtain rfl := some_inv hf
  refine V_aload_n C0 dX3_dropOldest_0 0 rfl rfl ?_
  refine V_get C0 fl_X3_dropOldest_11 0 rfl rfl dX3_dropOldest_1 rfl ?_
  refine V_iconst (v := 0) C0 dX3_dropOldest_4 (by decide) rfl ?_
  refine V_aald (b := ahs 0 0) C0 1 3 rfl rfl (show ¬ ((0 : Int32) < 0 ∨ 6 ≤ (0 : Int32).toNatClampNeg) by decide) rfl dX3_dropOldest_5 rfl ?_
  refine V_astore_n (lv' := [(1, .ref (ahs 0 0)), (0, .ref (ah 0))]) C0 dX3_dropOldest_6 rfl (by decide) rfl rfl ?_
  refine V_iconst (v := 1) C0 dX3_dropOldest_7 (by decide) rfl ?_
  refine V_istore_n (lv' := [(2, .int 1), (1, .ref (ahs 0 0)), (0, .ref (ah 0))]) C0 dX3_dropOldest_8 rfl (by decide) rfl rfl ?_
  refine V_iload_n C0 dX3_dropOldest_9 0 rfl rfl ?_
  refine V_bipush (v := 6) C0 dX3_dropOldest_10 (by decide) rfl ?_
  refine V_icmp_ge (tgt := 35) C0 dX3_dropOldest_12 (by decide) rfl (fun c => absurd c (by decide)) (fun _ => ?_)
  refine V_aload_n C0 dX3_dropOldest_15 2 rfl rfl ?_
  refine V_get C0 fl_X3_dropOldest_11 0 rfl rfl dX3_dropOldest_16 rfl ?_
  refine V_iload_n C0 dX3_dropOldest_19 0 rfl rfl ?_
  refine V_iconst (v := 1) C0 dX3_dropOldest_20 (by decide) rfl ?_
  refine V_isub C0 dX3_dropOldest_21 rfl ?_
  refine V_aload_n C0 dX3_dropOldest_22 2 rfl rfl ?_
  refine V_get C0 fl_X3_dropOldest_11 0 rfl rfl dX3_dropOldest_23 rfl ?_
  refine V_iload_n C0 dX3_dropOldest_26 0 rfl rfl ?_
  refine V_aald (b := ahs 1 0) C0 1 3 rfl rfl (show ¬ ((1 : Int32) < 0 ∨ 6 ≤ (1 : Int32).toNatClampNeg) by decide) rfl dX3_dropOldest_27 rfl ?_
  refine V_aast (r := (RX2, TX2, 8)) (ws' := ([(ah 0, .inr (3, [.int hi.1, .ref (ah 1)])), (ah 1, .inl (cO, 6, .inr (.inr (.inr (.inr (va_up (rfs ahs) 0 (some (ahs 1 0))))))))] ++ (W_Cv cI cJ cZ cO (ahs 0) hi.2.1 ++ (W_Cv cI cJ cZ cO (ahs 1) hi.2.2.1 ++ (W_Cv cI cJ cZ cO (ahs 2) hi.2.2.2.1 ++ (W_Cv cI cJ cZ cO (ahs 3) hi.2.2.2.2.1 ++ (W_Cv cI cJ cZ cO (ahs 4) hi.2.2.2.2.2.1 ++ (W_Cv cI cJ cZ cO (ahs 5) hi.2.2.2.2.2.2)))))))) C0 1 3 9 2 rfl rfl rfl rfl (show ¬ ((0 : Int32) < 0 ∨ 6 ≤ (0 : Int32).toNatClampNeg) by decide) dX3_dropOldest_28 rfl rfl ?_
  refine V_iinc (k := 0) (v := 2) (lv' := [(2, .int 2), (1, .ref (ahs 0 0)), (0, .ref (ah 0))]) C0 dX3_dropOldest_29 rfl (by decide) (by decide) rfl rfl ?_
  refine V_goto (tgt := 9) C0 dX3_dropOldest_32 (by decide) ?_
  refine V_iload_n C0 dX3_dropOldest_9 0 rfl rfl ?_
  refine V_bipush (v := 6) C0 dX3_dropOldest_10 (by decide) rfl ?_
  refine V_icmp_ge (tgt := 35) C0 dX3_dropOldest_12 (by decide) rfl (fun c => absurd c (by decide)) (fun _ => ?_)
  refine V_aload_n C0 dX3_dropOldest_15 2 rfl rfl ?_
  refine V_get C0 fl_X3_dropOldest_11 0 rfl rfl dX3_dropOldest_16 rfl ?_
  refine V_iload_n C0 dX3_dropOldest_19 0 rfl rfl ?_
  refine V_iconst (v := 1) C0 dX3_dropOldest_20 (by decide) rfl ?_
  refine V_isub C0 dX3_dropOldest_21 rfl ?_
  refine V_aload_n C0 dX3_dropOldest_22 2 rfl rfl ?_
  refine V_get C0 fl_X3_dropOldest_11 0 rfl rfl dX3_dropOldest_23 rfl ?_
  refine V_iload_n C0 dX3_dropOldest_26 0 rfl rfl ?_
  refine V_aald (b := ahs 2 0) C0 1 3 rfl rfl (show ¬ ((2 : Int32) < 0 ∨ 6 ≤ (2 : Int32).toNatClampNeg) by decide) rfl dX3_dropOldest_27 rfl ?_
  refine V_aast (r := (RX2, TX2, 8)) (ws' := ([(ah 0, .inr (3, [.int hi.1, .ref (ah 1)])), (ah 1, .inl (cO, 6, .inr (.inr (.inr (.inr (va_up (va_up (rfs ahs) 0 (some (ahs 1 0))) 1 (some (ahs 2 0))))))))] ++ (W_Cv cI cJ cZ cO (ahs 0) hi.2.1 ++ (W_Cv cI cJ cZ cO (ahs 1) hi.2.2.1 ++ (W_Cv cI cJ cZ cO (ahs 2) hi.2.2.2.1 ++ (W_Cv cI cJ cZ cO (ahs 3) hi.2.2.2.2.1 ++ (W_Cv cI cJ cZ cO (ahs 4) hi.2.2.2.2.2.1 ++ (W_Cv cI cJ cZ cO (ahs 5) hi.2.2.2.2.2.2)))))))) C0 1 3 16 2 rfl rfl rfl rfl (show ¬ ((1 : Int32) < 0 ∨ 6 ≤ (1 : Int32).toNatClampNeg) by decide) dX3_dropOldest_28 rfl rfl ?_
  refine V_iinc (k := 0) (v := 3) (lv' := [(2, .int 3), (1, .ref (ahs 0 0)), (0, .ref (ah 0))]) C0 dX3_dropOldest_29 rfl (by decide) (by decide) rfl rfl ?_
  refine V_goto (tgt := 9) C0 dX3_dropOldest_32 (by decide) ?_
  refine V_iload_n C0 dX3_dropOldest_9 0 rfl rfl ?_
  refine V_bipush (v := 6) C0 dX3_dropOldest_10 (by decide) rfl ?_
  refine V_icmp_ge (tgt := 35) C0 dX3_dropOldest_12 (by decide) rfl (fun c => absurd c (by decide)) (fun _ => ?_)
  refine V_aload_n C0 dX3_dropOldest_15 2 rfl rfl ?_
  refine V_get C0 fl_X3_dropOldest_11 0 rfl rfl dX3_dropOldest_16 rfl ?_
  refine V_iload_n C0 dX3_dropOldest_19 0 rfl rfl ?_
  refine V_iconst (v := 1) C0 dX3_dropOldest_20 (by decide) rfl ?_
  refine V_isub C0 dX3_dropOldest_21 rfl ?_
  refine V_aload_n C0 dX3_dropOldest_22 2 rfl rfl ?_
  refine V_get C0 fl_X3_dropOldest_11 0 rfl rfl dX3_dropOldest_23 rfl ?_
  refine V_iload_n C0 dX3_dropOldest_26 0 rfl rfl ?_
  refine V_aald (b := ahs 3 0) C0 1 3 rfl rfl (show ¬ ((3 : Int32) < 0 ∨ 6 ≤ (3 : Int32).toNatClampNeg) by decide) rfl dX3_dropOldest_27 rfl ?_
  refine V_aast (r := (RX2, TX2, 8)) (ws' := ([(ah 0, .inr (3, [.int hi.1, .ref (ah 1)])), (ah 1, .inl (cO, 6, .inr (.inr (.inr (.inr (va_up (va_up (va_up (rfs ahs) 0 (some (ahs 1 0))) 1 (some (ahs 2 0))) 2 (some (ahs 3 0))))))))] ++ (W_Cv cI cJ cZ cO (ahs 0) hi.2.1 ++ (W_Cv cI cJ cZ cO (ahs 1) hi.2.2.1 ++ (W_Cv cI cJ cZ cO (ahs 2) hi.2.2.2.1 ++ (W_Cv cI cJ cZ cO (ahs 3) hi.2.2.2.2.1 ++ (W_Cv cI cJ cZ cO (ahs 4) hi.2.2.2.2.2.1 ++ (W_Cv cI cJ cZ cO (ahs 5) hi.2.2.2.2.2.2)))))))) C0 1 3 23 2 rfl rfl rfl rfl (show ¬ ((2 : Int32) < 0 ∨ 6 ≤ (2 : Int32).toNatClampNeg) by decide) dX3_dropOldest_28 rfl rfl ?_
  refine V_iinc (k := 0) (v := 4) (lv' := [(2, .int 4), (1, .ref (ahs 0 0)), (0, .ref (ah 0))]) C0 dX3_dropOldest_29 rfl (by decide) (by decide) rfl rfl ?_
  refine V_goto (tgt := 9) C0 dX3_dropOldest_32 (by decide) ?_
  refine V_iload_n C0 dX3_dropOldest_9 0 rfl rfl ?_
  refine V_bipush (v := 6) C0 dX3_dropOldest_10 (by decide) rfl ?_
  refine V_icmp_ge (tgt := 35) C0 dX3_dropOldest_12 (by decide) rfl (fun c => absurd c (by decide)) (fun _ => ?_)
  refine V_aload_n C0 dX3_dropOldest_15 2 rfl rfl ?_
  refine V_get C0 fl_X3_dropOldest_11 0 rfl rfl dX3_dropOldest_16 rfl ?_
  refine V_iload_n C0 dX3_dropOldest_19 0 rfl rfl ?_
  refine V_iconst (v := 1) C0 dX3_dropOldest_20 (by decide) rfl ?_
  refine V_isub C0 dX3_dropOldest_21 rfl ?_
  refine V_aload_n C0 dX3_dropOldest_22 2 rfl rfl ?_
  refine V_get C0 fl_X3_dropOldest_11 0 rfl rfl dX3_dropOldest_23 rfl ?_
  refine V_iload_n C0 dX3_dropOldest_26 0 rfl rfl ?_
  refine V_aald (b := ahs 4 0) C0 1 3 rfl rfl (show ¬ ((4 : Int32) < 0 ∨ 6 ≤ (4 : Int32).toNatClampNeg) by decide) rfl dX3_dropOldest_27 rfl ?_
  refine V_aast (r := (RX2, TX2, 8)) (ws' := ([(ah 0, .inr (3, [.int hi.1, .ref (ah 1)])), (ah 1, .inl (cO, 6, .inr (.inr (.inr (.inr (va_up (va_up (va_up (va_up (rfs ahs) 0 (some (ahs 1 0))) 1 (some (ahs 2 0))) 2 (some (ahs 3 0))) 3 (some (ahs 4 0))))))))] ++ (W_Cv cI cJ cZ cO (ahs 0) hi.2.1 ++ (W_Cv cI cJ cZ cO (ahs 1) hi.2.2.1 ++ (W_Cv cI cJ cZ cO (ahs 2) hi.2.2.2.1 ++ (W_Cv cI cJ cZ cO (ahs 3) hi.2.2.2.2.1 ++ (W_Cv cI cJ cZ cO (ahs 4) hi.2.2.2.2.2.1 ++ (W_Cv cI cJ cZ cO (ahs 5) hi.2.2.2.2.2.2)))))))) C0 1 3 30 2 rfl rfl rfl rfl (show ¬ ((3 : Int32) < 0 ∨ 6 ≤ (3 : Int32).toNatClampNeg) by decide) dX3_dropOldest_28 rfl rfl ?_
  refine V_iinc (k := 0) (v := 5) (lv' := [(2, .int 5), (1, .ref (ahs 0 0)), (0, .ref (ah 0))]) C0 dX3_dropOldest_29 rfl (by decide) (by decide) rfl rfl ?_
  refine V_goto (tgt := 9) C0 dX3_dropOldest_32 (by decide) ?_
  refine V_iload_n C0 dX3_dropOldest_9 0 rfl rfl ?_
  refine V_bipush (v := 6) C0 dX3_dropOldest_10 (by decide) rfl ?_
  refine V_icmp_ge (tgt := 35) C0 dX3_dropOldest_12 (by decide) rfl (fun c => absurd c (by decide)) (fun _ => ?_)
  refine V_aload_n C0 dX3_dropOldest_15 2 rfl rfl ?_
  refine V_get C0 fl_X3_dropOldest_11 0 rfl rfl dX3_dropOldest_16 rfl ?_
  refine V_iload_n C0 dX3_dropOldest_19 0 rfl rfl ?_
  refine V_iconst (v := 1) C0 dX3_dropOldest_20 (by decide) rfl ?_
  refine V_isub C0 dX3_dropOldest_21 rfl ?_
  refine V_aload_n C0 dX3_dropOldest_22 2 rfl rfl ?_
  refine V_get C0 fl_X3_dropOldest_11 0 rfl rfl dX3_dropOldest_23 rfl ?_
  refine V_iload_n C0 dX3_dropOldest_26 0 rfl rfl ?_
  refine V_aald (b := ahs 5 0) C0 1 3 rfl rfl (show ¬ ((5 : Int32) < 0 ∨ 6 ≤ (5 : Int32).toNatClampNeg) by decide) rfl dX3_dropOldest_27 rfl ?_
  refine V_aast (r := (RX2, TX2, 8)) (ws' := ([(ah 0, .inr (3, [.int hi.1, .ref (ah 1)])), (ah 1, .inl (cO, 6, .inr (.inr (.inr (.inr (va_up (va_up (va_up (va_up (va_up (rfs ahs) 0 (some (ahs 1 0))) 1 (some (ahs 2 0))) 2 (some (ahs 3 0))) 3 (some (ahs 4 0))) 4 (some (ahs 5 0))))))))] ++ (W_Cv cI cJ cZ cO (ahs 0) hi.2.1 ++ (W_Cv cI cJ cZ cO (ahs 1) hi.2.2.1 ++ (W_Cv cI cJ cZ cO (ahs 2) hi.2.2.2.1 ++ (W_Cv cI cJ cZ cO (ahs 3) hi.2.2.2.2.1 ++ (W_Cv cI cJ cZ cO (ahs 4) hi.2.2.2.2.2.1 ++ (W_Cv cI cJ cZ cO (ahs 5) hi.2.2.2.2.2.2)))))))) C0 1 3 37 2 rfl rfl rfl rfl (show ¬ ((4 : Int32) < 0 ∨ 6 ≤ (4 : Int32).toNatClampNeg) by decide) dX3_dropOldest_28 rfl rfl ?_
  refine V_iinc (k := 0) (v := 6) (lv' := [(2, .int 6), (1, .ref (ahs 0 0)), (0, .ref (ah 0))]) C0 dX3_dropOldest_29 rfl (by decide) (by decide) rfl rfl ?_
  refine V_goto (tgt := 9) C0 dX3_dropOldest_32 (by decide) ?_
  refine V_iload_n C0 dX3_dropOldest_9 0 rfl rfl ?_
  refine V_bipush (v := 6) C0 dX3_dropOldest_10 (by decide) rfl ?_
  refine V_icmp_ge (tgt := 35) C0 dX3_dropOldest_12 (by decide) rfl (fun _ => ?_) (fun c => absurd (by decide) c)
  refine V_aload_n C0 dX3_dropOldest_35 2 rfl rfl ?_
  refine V_get C0 fl_X3_dropOldest_11 0 rfl rfl dX3_dropOldest_36 rfl ?_
  refine V_iconst (v := 5) C0 dX3_dropOldest_39 (by decide) rfl ?_
  refine V_aload_n C0 dX3_dropOldest_40 1 rfl rfl ?_
  refine V_aast (r := (RX2, TX2, 8)) (ws' := ([(ah 0, .inr (3, [.int hi.1, .ref (ah 1)])), (ah 1, .inl (cO, 6, .inr (.inr (.inr (.inr (va_up (va_up (va_up (va_up (va_up (va_up (rfs ahs) 0 (some (ahs 1 0))) 1 (some (ahs 2 0))) 2 (some (ahs 3 0))) 3 (some (ahs 4 0))) 4 (some (ahs 5 0))) 5 (some (ahs 0 0))))))))] ++ (W_Cv cI cJ cZ cO (ahs 0) hi.2.1 ++ (W_Cv cI cJ cZ cO (ahs 1) hi.2.2.1 ++ (W_Cv cI cJ cZ cO (ahs 2) hi.2.2.2.1 ++ (W_Cv cI cJ cZ cO (ahs 3) hi.2.2.2.2.1 ++ (W_Cv cI cJ cZ cO (ahs 4) hi.2.2.2.2.2.1 ++ (W_Cv cI cJ cZ cO (ahs 5) hi.2.2.2.2.2.2)))))))) C0 1 3 2 2 rfl rfl rfl rfl (show ¬ ((5 : Int32) < 0 ∨ 6 ≤ (5 : Int32).toNatClampNeg) by decide) dX3_dropOldest_41 rfl rfl ?_
  refine V_aload_n C0 dX3_dropOldest_42 2 rfl rfl ?_
  refine V_iconst (v := 5) C0 dX3_dropOldest_43 (by decide) rfl ?_
  refine V_put (ws' := ([(ah 0, .inr (3, [.int 5, .ref (ah 1)])), (ah 1, .inl (cO, 6, .inr (.inr (.inr (.inr (va_up (va_up (va_up (va_up (va_up (va_up (rfs ahs) 0 (some (ahs 1 0))) 1 (some (ahs 2 0))) 2 (some (ahs 3 0))) 3 (some (ahs 4 0))) 4 (some (ahs 5 0))) 5 (some (ahs 0 0))))))))] ++ (W_Cv cI cJ cZ cO (ahs 0) hi.2.1 ++ (W_Cv cI cJ cZ cO (ahs 1) hi.2.2.1 ++ (W_Cv cI cJ cZ cO (ahs 2) hi.2.2.2.1 ++ (W_Cv cI cJ cZ cO (ahs 3) hi.2.2.2.2.1 ++ (W_Cv cI cJ cZ cO (ahs 4) hi.2.2.2.2.2.1 ++ (W_Cv cI cJ cZ cO (ahs 5) hi.2.2.2.2.2.2)))))))) C0 fl_X3_dropOldest_18 tyX3_ok nmX3 rfl 0 rfl rfl rfl (Nat.le_of_ble_eq_true rfl) dX3_dropOldest_44 rfl rfl ?_
  refine V.refs 1 (f := (va_up (va_up (va_up (va_up (va_up (va_up (rfs ahs) 0 (some (ahs 1 0))) 1 (some (ahs 2 0))) 2 (some (ahs 3 0))) 3 (some (ahs 4 0))) 4 (some (ahs 5 0))) 5 (some (ahs 0 0)))) (g := rfs (rotA ahs)) rfl (fun k hk => ?_) rfl ?_
  · rcases (show k = 0 ∨ k = 1 ∨ k = 2 ∨ k = 3 ∨ k = 4 ∨ k = 5 by omega) with rfl | rfl | rfl | rfl | rfl | rfl <;> rfl
  refine V.world (ws' := ([(ah 0, .inr (3, [.int 5, .ref (ah 1)])), (ah 1, .inl (cO, 6, .inr (.inr (.inr (.inr (rfs (rotA ahs)))))))] ++ (W_Cv cI cJ cZ cO (ahs 0) hi.2.1 ++ (W_Cv cI cJ cZ cO (ahs 1) hi.2.2.1 ++ (W_Cv cI cJ cZ cO (ahs 2) hi.2.2.2.1 ++ (W_Cv cI cJ cZ cO (ahs 3) hi.2.2.2.2.1 ++ (W_Cv cI cJ cZ cO (ahs 4) hi.2.2.2.2.2.1 ++ (W_Cv cI cJ cZ cO (ahs 5) hi.2.2.2.2.2.2)))))))) rfl ?_
  refine V.perm (List.Perm.append_left _ rot6) ?_
  exact V_vret C0 (rotA ahs) trivial rfl dX3_dropOldest_47
abbrev RM_X3_record : Room := { frames := 2, cells := 0, slots := 0, locals := 81 }
theorem in_X3_record_X3 : ∀ w ∈ u_ws RX3 TX3 2, w ∈ wsX3_record := by decide +kernel
theorem fl_X3_record_11 : FL RX3 wsX3_record 3 11 1 RX3 TX3 2 := ⟨in_X3_record_X3, rfl, by decide, by decide +kernel, rfl⟩
theorem fl_X3_record_18 : FL RX3 wsX3_record 3 18 0 RX3 TX3 2 := ⟨in_X3_record_X3, rfl, by decide, by decide +kernel, rfl⟩
set_option maxRecDepth 100000 in
set_option maxHeartbeats 4000000 in
theorem c_X3_record (l : Launch) (dC : Nat → ClassId) (dI : Nat → Nat → Nat) (cI cJ cZ cO : ClassId) (ac_ : Nat → Nat) (ah : Nat → Nat) (ahs : Nat → Nat → Nat) (N : Nat) (ct : CV) (hi : HV) (o : HV) (hf : f_X3_record N ct hi = some o) : MetV l yX3_record wsX3_record RM_X3_record (dC, dI) (TY cI cJ cZ cO) [.ref (ah 0), .ref (ac_ 0)] (W_C cI cJ cZ cO ac_ ct.1 ct.2.1 ct.2.2.1 ct.2.2.2.1 ct.2.2.2.2.1 ct.2.2.2.2.2.1 ct.2.2.2.2.2.2.1 ct.2.2.2.2.2.2.2 ++ (W_H cI cJ cZ cO ah ahs hi.1 hi.2.1 hi.2.2.1 hi.2.2.2.1 hi.2.2.2.2.1 hi.2.2.2.2.2.1 hi.2.2.2.2.2.2)) (fun _ : Nat → Nat → Nat => True) (fun (ahs : Nat → Nat → Nat) => (W_C cI cJ cZ cO ac_ ct.1 ct.2.1 ct.2.2.1 ct.2.2.2.1 ct.2.2.2.2.1 ct.2.2.2.2.2.1 ct.2.2.2.2.2.2.1 ct.2.2.2.2.2.2.2 ++ (W_H cI cJ cZ cO ah ahs o.1 o.2.1 o.2.2.1 o.2.2.2.1 o.2.2.2.2.1 o.2.2.2.2.2.1 o.2.2.2.2.2.2))) := by
  refine MetV.ofV (cc := cX3_record) (maxL := 2) (ret := none) (own := RX3) (lv0 := [(0, .ref (ah 0)), (1, .ref (ac_ 0))]) (by decide) rfl rfl (Nat.le_of_ble_eq_true rfl) rfl ?_
  intro p e s m below meth c A C0 _
  unfold f_X3_record at hf
  refine V_aload_n C0 dX3_record_0 0 rfl rfl ?_
  refine V_get C0 fl_X3_record_18 7 rfl rfl dX3_record_1 rfl ?_
  refine V_bipush (v := 6) C0 dX3_record_4 (by decide) rfl ?_
  refine jn_elim hf (fun (J : HV → Option (HV)) => ∀ (ahs_J13 : Nat → Nat → Nat) (hi_13 : HV), J hi_13 = some o → V p l e RM_X3_record s m ([.ref (ah 0), .ref (ac_ 0)] : List Value).toArray below meth c 2 (dC, dI) A (MQ below (va_Qv (fun _ : Nat → Nat → Nat => True) (PostW (dC, dI) (TY cI cJ cZ cO) A (fun (ahs : Nat → Nat → Nat) => (W_C cI cJ cZ cO ac_ ct.1 ct.2.1 ct.2.2.1 ct.2.2.2.1 ct.2.2.2.2.1 ct.2.2.2.2.2.1 ct.2.2.2.2.2.2.1 ct.2.2.2.2.2.2.2 ++ (W_H cI cJ cZ cO ah ahs o.1 o.2.1 o.2.2.1 o.2.2.2.1 o.2.2.2.2.1 o.2.2.2.2.2.1 o.2.2.2.2.2.2)))) A) ([.ref (ah 0), .ref (ac_ 0)] : List Value).toArray s 0 0 A) 0 0 (W_C cI cJ cZ cO ac_ ct.1 ct.2.1 ct.2.2.1 ct.2.2.2.1 ct.2.2.2.2.1 ct.2.2.2.2.2.1 ct.2.2.2.2.2.2.1 ct.2.2.2.2.2.2.2 ++ (W_H cI cJ cZ cO ah ahs_J13 hi_13.1 hi_13.2.1 hi_13.2.2.1 hi_13.2.2.2.1 hi_13.2.2.2.2.1 hi_13.2.2.2.2.2.1 hi_13.2.2.2.2.2.2)) 13 [(0, .ref (ah 0)), (1, .ref (ac_ 0))] []) ?_ ?_
  · intro ahs_J13 hi_13 hf
    refine V_aload_n C0 dX3_record_13 0 rfl rfl ?_
    refine V_get C0 fl_X3_record_11 7 rfl rfl dX3_record_14 rfl ?_
    refine V_aload_n C0 dX3_record_17 0 rfl rfl ?_
    refine V_get C0 fl_X3_record_18 7 rfl rfl dX3_record_18 rfl ?_
    obtain ⟨hi21, hf⟩ := ck_inv hf
    by_cases hq21_0 : hi_13.1.toNatClampNeg = 0
    · have hf := ite_t hq21_0 hf
      refine V_aald C0 8 3 rfl rfl hi21 (by show some (_ : Nat) = _; rw [hq21_0]) dX3_record_21 rfl ?_
      refine V_aload_n C0 dX3_record_22 1 rfl rfl ?_
      obtain ⟨r_23, hc_23, hf⟩ := bind_inv hf
      refine V_cVV (ws' := (W_C cI cJ cZ cO ac_ ct.1 ct.2.1 ct.2.2.1 ct.2.2.2.1 ct.2.2.2.2.1 ct.2.2.2.2.2.1 ct.2.2.2.2.2.2.1 ct.2.2.2.2.2.2.2 ++ (W_H cI cJ cZ cO ah ahs_J13 hi_13.1 r_23 hi_13.2.2.1 hi_13.2.2.2.1 hi_13.2.2.2.2.1 hi_13.2.2.2.2.2.1 hi_13.2.2.2.2.2.2))) (As := [.ref (ac_ 0)]) (b := ahs_J13 0 0) (st := []) C0 (c_X2_copyFrom l dC dI cI cJ cZ cO (ahs_J13 0) ac_ N hi_13.2.1 ct  r_23 hc_23) rfl 1 gX3_record_X2_copyFrom (by decide +kernel) ⟨Nat.le_of_ble_eq_true rfl, Nat.le_of_ble_eq_true rfl⟩ rfl 9 2 rfl rfl  ⟨_, (psw (pt (pr (pte (pr (pr (pr (pr pr1)))))))), fun _ => (psw (pt (pr (pte (pr (pr (pr (pr pr1))))))))⟩ rfl (Nat.le_of_ble_eq_true rfl) dX3_record_23 rfl ⟨Nat.zero_le _, Nat.zero_le _⟩ ?_
      refine V_aload_n C0 dX3_record_26 0 rfl rfl ?_
      refine V_dup C0 dX3_record_27 rfl rfl ?_
      refine V_get C0 fl_X3_record_18 7 rfl rfl dX3_record_28 rfl ?_
      refine V_iconst (v := 1) C0 dX3_record_31 (by decide) rfl ?_
      refine V_iadd C0 dX3_record_32 rfl ?_
      refine V_put (ws' := (W_C cI cJ cZ cO ac_ ct.1 ct.2.1 ct.2.2.1 ct.2.2.2.1 ct.2.2.2.2.1 ct.2.2.2.2.2.1 ct.2.2.2.2.2.2.1 ct.2.2.2.2.2.2.2 ++ (W_H cI cJ cZ cO ah ahs_J13 (hi_13.1 + 1) r_23 hi_13.2.2.1 hi_13.2.2.2.1 hi_13.2.2.2.2.1 hi_13.2.2.2.2.2.1 hi_13.2.2.2.2.2.2))) C0 fl_X3_record_18 tyX3_ok nmX3 rfl 7 rfl rfl rfl (Nat.le_of_ble_eq_true rfl) dX3_record_33 rfl rfl ?_
      obtain rfl := some_inv hf
      exact V_vret C0 ahs_J13 trivial rfl dX3_record_36
    · have hf := ite_f hq21_0 hf
      by_cases hq21_1 : hi_13.1.toNatClampNeg = 1
      · have hf := ite_t hq21_1 hf
        refine V_aald C0 8 3 rfl rfl hi21 (by show some (_ : Nat) = _; rw [hq21_1]) dX3_record_21 rfl ?_
        refine V_aload_n C0 dX3_record_22 1 rfl rfl ?_
        obtain ⟨r_23, hc_23, hf⟩ := bind_inv hf
        refine V_cVV (ws' := (W_C cI cJ cZ cO ac_ ct.1 ct.2.1 ct.2.2.1 ct.2.2.2.1 ct.2.2.2.2.1 ct.2.2.2.2.2.1 ct.2.2.2.2.2.2.1 ct.2.2.2.2.2.2.2 ++ (W_H cI cJ cZ cO ah ahs_J13 hi_13.1 hi_13.2.1 r_23 hi_13.2.2.2.1 hi_13.2.2.2.2.1 hi_13.2.2.2.2.2.1 hi_13.2.2.2.2.2.2))) (As := [.ref (ac_ 0)]) (b := ahs_J13 1 0) (st := []) C0 (c_X2_copyFrom l dC dI cI cJ cZ cO (ahs_J13 1) ac_ N hi_13.2.2.1 ct  r_23 hc_23) rfl 1 gX3_record_X2_copyFrom (by decide +kernel) ⟨Nat.le_of_ble_eq_true rfl, Nat.le_of_ble_eq_true rfl⟩ rfl 16 2 rfl rfl  ⟨_, (psw (pt (pr (pr (pte (pr (pr (pr pr1)))))))), fun _ => (psw (pt (pr (pr (pte (pr (pr (pr pr1))))))))⟩ rfl (Nat.le_of_ble_eq_true rfl) dX3_record_23 rfl ⟨Nat.zero_le _, Nat.zero_le _⟩ ?_
        refine V_aload_n C0 dX3_record_26 0 rfl rfl ?_
        refine V_dup C0 dX3_record_27 rfl rfl ?_
        refine V_get C0 fl_X3_record_18 7 rfl rfl dX3_record_28 rfl ?_
        refine V_iconst (v := 1) C0 dX3_record_31 (by decide) rfl ?_
        refine V_iadd C0 dX3_record_32 rfl ?_
        refine V_put (ws' := (W_C cI cJ cZ cO ac_ ct.1 ct.2.1 ct.2.2.1 ct.2.2.2.1 ct.2.2.2.2.1 ct.2.2.2.2.2.1 ct.2.2.2.2.2.2.1 ct.2.2.2.2.2.2.2 ++ (W_H cI cJ cZ cO ah ahs_J13 (hi_13.1 + 1) hi_13.2.1 r_23 hi_13.2.2.2.1 hi_13.2.2.2.2.1 hi_13.2.2.2.2.2.1 hi_13.2.2.2.2.2.2))) C0 fl_X3_record_18 tyX3_ok nmX3 rfl 7 rfl rfl rfl (Nat.le_of_ble_eq_true rfl) dX3_record_33 rfl rfl ?_
        obtain rfl := some_inv hf
        exact V_vret C0 ahs_J13 trivial rfl dX3_record_36
      · have hf := ite_f hq21_1 hf
        by_cases hq21_2 : hi_13.1.toNatClampNeg = 2
        · have hf := ite_t hq21_2 hf
          refine V_aald C0 8 3 rfl rfl hi21 (by show some (_ : Nat) = _; rw [hq21_2]) dX3_record_21 rfl ?_
          refine V_aload_n C0 dX3_record_22 1 rfl rfl ?_
          obtain ⟨r_23, hc_23, hf⟩ := bind_inv hf
          refine V_cVV (ws' := (W_C cI cJ cZ cO ac_ ct.1 ct.2.1 ct.2.2.1 ct.2.2.2.1 ct.2.2.2.2.1 ct.2.2.2.2.2.1 ct.2.2.2.2.2.2.1 ct.2.2.2.2.2.2.2 ++ (W_H cI cJ cZ cO ah ahs_J13 hi_13.1 hi_13.2.1 hi_13.2.2.1 r_23 hi_13.2.2.2.2.1 hi_13.2.2.2.2.2.1 hi_13.2.2.2.2.2.2))) (As := [.ref (ac_ 0)]) (b := ahs_J13 2 0) (st := []) C0 (c_X2_copyFrom l dC dI cI cJ cZ cO (ahs_J13 2) ac_ N hi_13.2.2.2.1 ct  r_23 hc_23) rfl 1 gX3_record_X2_copyFrom (by decide +kernel) ⟨Nat.le_of_ble_eq_true rfl, Nat.le_of_ble_eq_true rfl⟩ rfl 23 2 rfl rfl  ⟨_, (psw (pt (pr (pr (pr (pte (pr (pr pr1)))))))), fun _ => (psw (pt (pr (pr (pr (pte (pr (pr pr1))))))))⟩ rfl (Nat.le_of_ble_eq_true rfl) dX3_record_23 rfl ⟨Nat.zero_le _, Nat.zero_le _⟩ ?_
          refine V_aload_n C0 dX3_record_26 0 rfl rfl ?_
          refine V_dup C0 dX3_record_27 rfl rfl ?_
          refine V_get C0 fl_X3_record_18 7 rfl rfl dX3_record_28 rfl ?_
          refine V_iconst (v := 1) C0 dX3_record_31 (by decide) rfl ?_
          refine V_iadd C0 dX3_record_32 rfl ?_
          refine V_put (ws' := (W_C cI cJ cZ cO ac_ ct.1 ct.2.1 ct.2.2.1 ct.2.2.2.1 ct.2.2.2.2.1 ct.2.2.2.2.2.1 ct.2.2.2.2.2.2.1 ct.2.2.2.2.2.2.2 ++ (W_H cI cJ cZ cO ah ahs_J13 (hi_13.1 + 1) hi_13.2.1 hi_13.2.2.1 r_23 hi_13.2.2.2.2.1 hi_13.2.2.2.2.2.1 hi_13.2.2.2.2.2.2))) C0 fl_X3_record_18 tyX3_ok nmX3 rfl 7 rfl rfl rfl (Nat.le_of_ble_eq_true rfl) dX3_record_33 rfl rfl ?_
          obtain rfl := some_inv hf
          exact V_vret C0 ahs_J13 trivial rfl dX3_record_36
        · have hf := ite_f hq21_2 hf
          by_cases hq21_3 : hi_13.1.toNatClampNeg = 3
          · have hf := ite_t hq21_3 hf
            refine V_aald C0 8 3 rfl rfl hi21 (by show some (_ : Nat) = _; rw [hq21_3]) dX3_record_21 rfl ?_
            refine V_aload_n C0 dX3_record_22 1 rfl rfl ?_
            obtain ⟨r_23, hc_23, hf⟩ := bind_inv hf
            refine V_cVV (ws' := (W_C cI cJ cZ cO ac_ ct.1 ct.2.1 ct.2.2.1 ct.2.2.2.1 ct.2.2.2.2.1 ct.2.2.2.2.2.1 ct.2.2.2.2.2.2.1 ct.2.2.2.2.2.2.2 ++ (W_H cI cJ cZ cO ah ahs_J13 hi_13.1 hi_13.2.1 hi_13.2.2.1 hi_13.2.2.2.1 r_23 hi_13.2.2.2.2.2.1 hi_13.2.2.2.2.2.2))) (As := [.ref (ac_ 0)]) (b := ahs_J13 3 0) (st := []) C0 (c_X2_copyFrom l dC dI cI cJ cZ cO (ahs_J13 3) ac_ N hi_13.2.2.2.2.1 ct  r_23 hc_23) rfl 1 gX3_record_X2_copyFrom (by decide +kernel) ⟨Nat.le_of_ble_eq_true rfl, Nat.le_of_ble_eq_true rfl⟩ rfl 30 2 rfl rfl  ⟨_, (psw (pt (pr (pr (pr (pr (pte (pr pr1)))))))), fun _ => (psw (pt (pr (pr (pr (pr (pte (pr pr1))))))))⟩ rfl (Nat.le_of_ble_eq_true rfl) dX3_record_23 rfl ⟨Nat.zero_le _, Nat.zero_le _⟩ ?_
            refine V_aload_n C0 dX3_record_26 0 rfl rfl ?_
            refine V_dup C0 dX3_record_27 rfl rfl ?_
            refine V_get C0 fl_X3_record_18 7 rfl rfl dX3_record_28 rfl ?_
            refine V_iconst (v := 1) C0 dX3_record_31 (by decide) rfl ?_
            refine V_iadd C0 dX3_record_32 rfl ?_
            refine V_put (ws' := (W_C cI cJ cZ cO ac_ ct.1 ct.2.1 ct.2.2.1 ct.2.2.2.1 ct.2.2.2.2.1 ct.2.2.2.2.2.1 ct.2.2.2.2.2.2.1 ct.2.2.2.2.2.2.2 ++ (W_H cI cJ cZ cO ah ahs_J13 (hi_13.1 + 1) hi_13.2.1 hi_13.2.2.1 hi_13.2.2.2.1 r_23 hi_13.2.2.2.2.2.1 hi_13.2.2.2.2.2.2))) C0 fl_X3_record_18 tyX3_ok nmX3 rfl 7 rfl rfl rfl (Nat.le_of_ble_eq_true rfl) dX3_record_33 rfl rfl ?_
            obtain rfl := some_inv hf
            exact V_vret C0 ahs_J13 trivial rfl dX3_record_36
          · have hf := ite_f hq21_3 hf
            by_cases hq21_4 : hi_13.1.toNatClampNeg = 4
            · have hf := ite_t hq21_4 hf
              refine V_aald C0 8 3 rfl rfl hi21 (by show some (_ : Nat) = _; rw [hq21_4]) dX3_record_21 rfl ?_
              refine V_aload_n C0 dX3_record_22 1 rfl rfl ?_
              obtain ⟨r_23, hc_23, hf⟩ := bind_inv hf
              refine V_cVV (ws' := (W_C cI cJ cZ cO ac_ ct.1 ct.2.1 ct.2.2.1 ct.2.2.2.1 ct.2.2.2.2.1 ct.2.2.2.2.2.1 ct.2.2.2.2.2.2.1 ct.2.2.2.2.2.2.2 ++ (W_H cI cJ cZ cO ah ahs_J13 hi_13.1 hi_13.2.1 hi_13.2.2.1 hi_13.2.2.2.1 hi_13.2.2.2.2.1 r_23 hi_13.2.2.2.2.2.2))) (As := [.ref (ac_ 0)]) (b := ahs_J13 4 0) (st := []) C0 (c_X2_copyFrom l dC dI cI cJ cZ cO (ahs_J13 4) ac_ N hi_13.2.2.2.2.2.1 ct  r_23 hc_23) rfl 1 gX3_record_X2_copyFrom (by decide +kernel) ⟨Nat.le_of_ble_eq_true rfl, Nat.le_of_ble_eq_true rfl⟩ rfl 37 2 rfl rfl  ⟨_, (psw (pt (pr (pr (pr (pr (pr (pte pr1)))))))), fun _ => (psw (pt (pr (pr (pr (pr (pr (pte pr1))))))))⟩ rfl (Nat.le_of_ble_eq_true rfl) dX3_record_23 rfl ⟨Nat.zero_le _, Nat.zero_le _⟩ ?_
              refine V_aload_n C0 dX3_record_26 0 rfl rfl ?_
              refine V_dup C0 dX3_record_27 rfl rfl ?_
              refine V_get C0 fl_X3_record_18 7 rfl rfl dX3_record_28 rfl ?_
              refine V_iconst (v := 1) C0 dX3_record_31 (by decide) rfl ?_
              refine V_iadd C0 dX3_record_32 rfl ?_
              refine V_put (ws' := (W_C cI cJ cZ cO ac_ ct.1 ct.2.1 ct.2.2.1 ct.2.2.2.1 ct.2.2.2.2.1 ct.2.2.2.2.2.1 ct.2.2.2.2.2.2.1 ct.2.2.2.2.2.2.2 ++ (W_H cI cJ cZ cO ah ahs_J13 (hi_13.1 + 1) hi_13.2.1 hi_13.2.2.1 hi_13.2.2.2.1 hi_13.2.2.2.2.1 r_23 hi_13.2.2.2.2.2.2))) C0 fl_X3_record_18 tyX3_ok nmX3 rfl 7 rfl rfl rfl (Nat.le_of_ble_eq_true rfl) dX3_record_33 rfl rfl ?_
              obtain rfl := some_inv hf
              exact V_vret C0 ahs_J13 trivial rfl dX3_record_36
            · have hf := ite_f hq21_4 hf
              by_cases hq21_5 : hi_13.1.toNatClampNeg = 5
              · have hf := ite_t hq21_5 hf
                refine V_aald C0 8 3 rfl rfl hi21 (by show some (_ : Nat) = _; rw [hq21_5]) dX3_record_21 rfl ?_
                refine V_aload_n C0 dX3_record_22 1 rfl rfl ?_
                obtain ⟨r_23, hc_23, hf⟩ := bind_inv hf
                refine V_cVV (ws' := (W_C cI cJ cZ cO ac_ ct.1 ct.2.1 ct.2.2.1 ct.2.2.2.1 ct.2.2.2.2.1 ct.2.2.2.2.2.1 ct.2.2.2.2.2.2.1 ct.2.2.2.2.2.2.2 ++ (W_H cI cJ cZ cO ah ahs_J13 hi_13.1 hi_13.2.1 hi_13.2.2.1 hi_13.2.2.2.1 hi_13.2.2.2.2.1 hi_13.2.2.2.2.2.1 r_23))) (As := [.ref (ac_ 0)]) (b := ahs_J13 5 0) (st := []) C0 (c_X2_copyFrom l dC dI cI cJ cZ cO (ahs_J13 5) ac_ N hi_13.2.2.2.2.2.2 ct  r_23 hc_23) rfl 1 gX3_record_X2_copyFrom (by decide +kernel) ⟨Nat.le_of_ble_eq_true rfl, Nat.le_of_ble_eq_true rfl⟩ rfl 44 2 rfl rfl  ⟨_, (psw (pt (pr (pr (pr (pr (pr (pr pt1)))))))), fun _ => (psw (pt (pr (pr (pr (pr (pr (pr pt1))))))))⟩ rfl (Nat.le_of_ble_eq_true rfl) dX3_record_23 rfl ⟨Nat.zero_le _, Nat.zero_le _⟩ ?_
                refine V_aload_n C0 dX3_record_26 0 rfl rfl ?_
                refine V_dup C0 dX3_record_27 rfl rfl ?_
                refine V_get C0 fl_X3_record_18 7 rfl rfl dX3_record_28 rfl ?_
                refine V_iconst (v := 1) C0 dX3_record_31 (by decide) rfl ?_
                refine V_iadd C0 dX3_record_32 rfl ?_
                refine V_put (ws' := (W_C cI cJ cZ cO ac_ ct.1 ct.2.1 ct.2.2.1 ct.2.2.2.1 ct.2.2.2.2.1 ct.2.2.2.2.2.1 ct.2.2.2.2.2.2.1 ct.2.2.2.2.2.2.2 ++ (W_H cI cJ cZ cO ah ahs_J13 (hi_13.1 + 1) hi_13.2.1 hi_13.2.2.1 hi_13.2.2.2.1 hi_13.2.2.2.2.1 hi_13.2.2.2.2.2.1 r_23))) C0 fl_X3_record_18 tyX3_ok nmX3 rfl 7 rfl rfl rfl (Nat.le_of_ble_eq_true rfl) dX3_record_33 rfl rfl ?_
                obtain rfl := some_inv hf
                exact V_vret C0 ahs_J13 trivial rfl dX3_record_36
              · have hf := ite_f hq21_5 hf
                cases hf
  · intro J13 hJ13 hf
    refine V_icmp_lt (tgt := 13) C0 dX3_record_6 (by decide) rfl (fun c6 => ?_) (fun c6 => ?_)
    · have hf := ite_t c6 hf
      exact V.sub [0, 1] rfl (hJ13 ahs hi hf)
    · have hf := ite_f c6 hf
      refine V_aload_n C0 dX3_record_9 0 rfl rfl ?_
      obtain ⟨r_10, hc_10, hf⟩ := bind_inv hf
      refine V_callVV (ws' := fun (ahs_10 : Nat → Nat → Nat) => (W_C cI cJ cZ cO ac_ ct.1 ct.2.1 ct.2.2.1 ct.2.2.2.1 ct.2.2.2.2.1 ct.2.2.2.2.2.1 ct.2.2.2.2.2.2.1 ct.2.2.2.2.2.2.2 ++ (W_H cI cJ cZ cO ah ahs_10 r_10.1 r_10.2.1 r_10.2.2.1 r_10.2.2.2.1 r_10.2.2.2.2.1 r_10.2.2.2.2.2.1 r_10.2.2.2.2.2.2))) (As := []) (b := ah 0) (st := []) C0 (c_X3_dropOldest l dC dI cI cJ cZ cO ah ahs N hi  r_10 hc_10) rfl 0 gX3_record_X3_dropOldest (by decide +kernel) ⟨Nat.le_of_ble_eq_true rfl, Nat.le_of_ble_eq_true rfl⟩ rfl 7 3 rfl rfl  ⟨_, (pr pt1), fun _ => (pr pt1)⟩ rfl (Nat.le_of_ble_eq_true rfl) dX3_record_10 rfl ⟨Nat.zero_le _, Nat.zero_le _⟩ (fun ahs_10 _ => ?_)
      refine V.world (ws' := (W_C cI cJ cZ cO ac_ ct.1 ct.2.1 ct.2.2.1 ct.2.2.2.1 ct.2.2.2.2.1 ct.2.2.2.2.2.1 ct.2.2.2.2.2.2.1 ct.2.2.2.2.2.2.2 ++ (W_H cI cJ cZ cO ah ahs_10 r_10.1 r_10.2.1 r_10.2.2.1 r_10.2.2.2.1 r_10.2.2.2.2.1 r_10.2.2.2.2.2.1 r_10.2.2.2.2.2.2))) rfl ?_
      exact V.sub [0, 1] rfl (hJ13 ahs_10 r_10 hf)
