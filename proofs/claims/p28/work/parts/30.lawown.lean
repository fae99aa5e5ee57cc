def f_L_low (N : Nat) (x0 : Int32) (x1 : Int32) : Option (Int32) := nzI x1 (some ((x0 &&& 2147483647) - (x0 &&& 2147483647) / x1 * x1))
def f_L_size_L4 (N : Nat) (x0 : Int32)  (K : Int32 → Option (Int32)) : Nat → Int32 → Int32 → Option (Int32)
  | 0, _, _ => none
  | n+1, x1, x2 => if x2 ≤ 0 then K x1 else f_L_size_L4 N x0  K n (x1 + 1) (x2 / 7)
def f_L_size (N : Nat) (x0 : Int32) : Option (Int32) := f_L_size_L4 N x0  (fun (x1_4 : Int32) => some x1_4) N 0 x0
def f_L_some_L12 (N : Nat) (x0 : Int32) (x1 : Int32) (x2 : Int32)  (K : Int32 → Option (Int32)) : Nat → Int32 → Int32 → Option (Int32)
  | 0, _, _ => none
  | n+1, x3, x4 => if x4 ≤ 0 then K x3 else f_L_some_L12 N x0 x1 x2  K n (x3 / 7) (x4 + (-1))
def f_L_some_L34 (N : Nat) (x0 : Int32) (x1 : Int32) (x2 : Int32) (x3 : Int32) (K : Int32 → Option (Int32)) : Nat → Int32 → Int32 → Option (Int32)
  | 0, _, _ => none
  | n+1, x4, x5 => if x2 ≤ x5 then K x4 else f_L_some_L34 N x0 x1 x2 x3 K n (x4 * 7) (x5 + 1)
def f_L_some (N : Nat) (x0 : Int32) (x1 : Int32) (x2 : Int32) : Option (Int32) := (f_L_size N  x0).bind (fun (r_3 : Int32) => bd ((r_3 - x1) - x2) (fun (x4_1 : Int32) => f_L_some_L12 N x0 x1 x2  (fun (x3_12 : Int32) => f_L_some_L34 N x0 x1 x2 x3_12 (fun (x4_34 : Int32) => nzI x4_34 (some (x3_12 - x3_12 / x4_34 * x4_34))) N 1 0) N x0 x4_1))
def f_L_piece_L2 (N : Nat) (ra : (Nat → Int32)) (rb : (Nat → Int32)) (x0 : Int32)  (K : Unit → Option (Int32)) : Nat → Int32 → Option (Int32)
  | 0, _ => none
  | n+1, x3 => ck 0 2 (if (ra ((0 : Int32).toNatClampNeg)) ≤ x3 then K () else ck (2 * x3) 16 (if (rb ((2 * x3).toNatClampNeg)) = x0 then some x3 else f_L_piece_L2 N ra rb x0  K n (x3 + 1)))
def f_L_piece (N : Nat) (ra : (Nat → Int32)) (rb : (Nat → Int32)) (x0 : Int32) : Option (Int32) := f_L_piece_L2 N ra rb x0  (fun (_ : Unit) => some ((-6))) N 0
def f_L_reaches_L2 (N : Nat) (x0 : Int32) (x1 : Int32) (x2 : Int32)  (K : Int32 → Option (Int32)) : Nat → Int32 → Option (Int32)
  | 0, _ => none
  | n+1, x3 => if (x0 - 1) ≤ x3 then K x3 else if ((x1 >>> (x3 &&& 31)) &&& 1) = 0 then f_L_reaches_L2 N x0 x1 x2  K n (x3 + 1) else K x3
def f_L_reaches (N : Nat) (x0 : Int32) (x1 : Int32) (x2 : Int32) : Option (Int32) := f_L_reaches_L2 N x0 x1 x2  (fun (x3_2 : Int32) => some ((x3_2 - x2) + 1)) N x2
def f_L_product_L12 (N : Nat) (ra : (Nat → Int32)) (rb : (Nat → Int32)) (x0 : Int32) (x1 : Int32) (x4 : Int32) (K : Int64 → Option (Int64)) : Nat → Int64 → Int32 → Option (Int64)
  | 0, _, _ => none
  | n+1, x5, x7 => if x4 ≤ x7 then K x5 else if (lg_cmp x5 0) ≤ 0 then K x5 else (f_L_reaches N  x4 x1 x7).bind (fun (r_31 : Int32) => jn (fun (s0_60 : Int32) => jn (fun (s1_92 : Int64) => bd (x5 * s1_92) (fun (x5_1 : Int64) => (f_L_reaches N  x4 x1 x7).bind (fun (r_102 : Int32) => bd (x7 + r_102) (fun (x7_2 : Int32) => f_L_product_L12 N ra rb x0 x1 x4 K n x5_1 x7_2)))) (fun (J92 : Int64 → Option (Int64)) => if s0_60 < 0 then if r_31 = 1 then J92 1 else J92 0 else ck ((2 * s0_60) + 1) 16 (J92 ((rb (((2 * s0_60) + 1).toNatClampNeg)).toInt64)))) (fun (J60 : Int32 → Option (Int64)) => if r_31 ≤ 4 then (f_L_some N  x0 x7 r_31).bind (fun (r_52 : Int32) => (f_L_piece N ra rb r_52).bind (fun (r_57 : Int32) => J60 r_57)) else J60 ((-6))))
def f_L_product (N : Nat) (ra : (Nat → Int32)) (rb : (Nat → Int32)) (x0 : Int32) (x1 : Int32) : Option (Int64) := (f_L_size N  x0).bind (fun (r_1 : Int32) => f_L_product_L12 N ra rb x0 x1 r_1 (fun (x5_12 : Int64) => some x5_12) N 1 0)
def f_L_bits_L4 (N : Nat) (x0 : Int32)  (K : Int32 → Option (Int32)) : Nat → Int32 → Int32 → Option (Int32)
  | 0, _, _ => none
  | n+1, x1, x2 => if 8 ≤ x2 then K x1 else bd (x1 + ((x0 >>> (x2 &&& 31)) &&& 1)) (fun (x1_1 : Int32) => f_L_bits_L4 N x0  K n x1_1 (x2 + 1))
def f_L_bits (N : Nat) (x0 : Int32) : Option (Int32) := f_L_bits_L4 N x0  (fun (x1_4 : Int32) => some x1_4) N 0 0
def f_L_best_L8 (N : Nat) (ra : (Nat → Int32)) (rb : (Nat → Int32)) (x0 : Int32)  (K : Int32 → Option (Int32)) : Nat → Int32 → Int64 → Int32 → Option (Int32)
  | 0, _, _, _ => none
  | n+1, x3, x4, x6 => (f_L_size N  x0).bind (fun (r_12 : Int32) => if (1 <<< ((r_12 - 1) &&& 31)) ≤ x6 then K x3 else (f_L_product N ra rb x0 x6).bind (fun (r_26 : Int64) => jn (fun (s0_44 : Int32) => jn (fun (x9_112 : Int32) => jn (fun (s0_123 : Int32) => if x9_112 = 0 then f_L_best_L8 N ra rb x0  K n s0_123 x4 (x6 + 1) else f_L_best_L8 N ra rb x0  K n s0_123 r_26 (x6 + 1)) (fun (J123 : Int32 → Option (Int32)) => if x9_112 = 0 then J123 x3 else J123 x6)) (fun (J112 : Int32 → Option (Int32)) => if x3 < 0 then J112 s0_44 else if (lg_cmp r_26 x4) = 0 then if (lg_cmp r_26 0) ≤ 0 then J112 s0_44 else (f_L_bits N  x6).bind (fun (r_67 : Int32) => (f_L_bits N  x3).bind (fun (r_71 : Int32) => bd (r_67 - r_71) (fun (x10_1 : Int32) => bd (x6 ^^^ x3) (fun (x11_2 : Int32) => if x10_1 < 0 then J112 1 else if x10_1 = 0 then if ((x6 &&& x11_2) &&& (-x11_2)) = 0 then J112 1 else J112 0 else J112 0)))) else J112 s0_44)) (fun (J44 : Int32 → Option (Int32)) => if (lg_cmp r_26 x4) ≤ 0 then J44 0 else J44 1)))
def f_L_best (N : Nat) (ra : (Nat → Int32)) (rb : (Nat → Int32)) (x0 : Int32) : Option (Int32) := f_L_best_L8 N ra rb x0  (fun (x3_8 : Int32) => some x3_8) N ((-1)) 0 0
def f_L_unseen_L12 (N : Nat) (ra : (Nat → Int32)) (rb : (Nat → Int32)) (x0 : Int32) (x1 : Int32) (x4 : Int32) (K : Int32 → Option (Int32)) : Nat → Int32 → Int32 → Option (Int32)
  | 0, _, _ => none
  | n+1, x5, x6 => if x4 ≤ x6 then K x5 else (f_L_reaches N  x4 x1 x6).bind (fun (r_29 : Int32) => (f_L_some N  x0 x6 r_29).bind (fun (r_32 : Int32) => (f_L_piece N ra rb r_32).bind (fun (r_37 : Int32) => jn (fun (s1_48 : Int32) => bd (x5 + s1_48) (fun (x5_1 : Int32) => (f_L_reaches N  x4 x1 x6).bind (fun (r_58 : Int32) => bd (x6 + r_58) (fun (x6_2 : Int32) => f_L_unseen_L12 N ra rb x0 x1 x4 K n x5_1 x6_2)))) (fun (J48 : Int32 → Option (Int32)) => if 0 ≤ r_37 then J48 0 else J48 1))))
def f_L_unseen (N : Nat) (ra : (Nat → Int32)) (rb : (Nat → Int32)) (x0 : Int32) (x1 : Int32) : Option (Int32) := (f_L_size N  x0).bind (fun (r_1 : Int32) => f_L_unseen_L12 N ra rb x0 x1 r_1 (fun (x5_12 : Int32) => some x5_12) N 0 0)
def f_L_cost_L5 (N : Nat) (ra : (Nat → Int32)) (rb : (Nat → Int32)) (rc : (Nat → Int32))  (K : Int32 → Option (Int32)) : Nat → Int32 → Int32 → Option (Int32)
  | 0, _, _ => none
  | n+1, x3, x4 => ck 1 2 (if (ra ((1 : Int32).toNatClampNeg)) ≤ x4 then K x3 else ck (2 * x4) 6 ((f_L_best N ra rb (rc ((2 * x4).toNatClampNeg))).bind (fun (r_21 : Int32) => (f_L_bits N  r_21).bind (fun (r_29 : Int32) => ck (2 * x4) 6 ((f_L_unseen N ra rb (rc ((2 * x4).toNatClampNeg)) r_21).bind (fun (r_44 : Int32) => ck ((2 * x4) + 1) 6 (bd (x3 + (((r_29 + 1) + r_44) * (rc (((2 * x4) + 1).toNatClampNeg)))) (fun (x3_1 : Int32) => f_L_cost_L5 N ra rb rc  K n x3_1 (x4 + 1)))))))))
def f_L_cost (N : Nat) (ra : (Nat → Int32)) (rb : (Nat → Int32)) (rc : (Nat → Int32)) : Option (Int32) := f_L_cost_L5 N ra rb rc  (fun (x3_5 : Int32) => some x3_5) N 0 0
def f_L_share_L46 (N : Nat) (ra : (Nat → Int32)) (rb : (Nat → Int32)) (x0 : Int32) (x1 : Int32) (x4 : Int32) (x5 : Int64) (x9 : Int32) (x10 : Int64) (K : Int64 → Option (Int32)) : Nat → Int64 → Int32 → Option (Int32)
  | 0, _, _ => none
  | n+1, x7, x12 => if x4 ≤ x12 then K x7 else if (lg_cmp x10 0) ≤ 0 then K x7 else (f_L_reaches N  x4 x9 x12).bind (fun (r_71 : Int32) => (f_L_some N  x0 x12 r_71).bind (fun (r_74 : Int32) => ck (2 * x1) 16 (jn (fun (s1_91 : Int64) => bd (x7 + s1_91) (fun (x7_2 : Int64) => (f_L_reaches N  x4 x9 x12).bind (fun (r_102 : Int32) => bd (x12 + r_102) (fun (x12_3 : Int32) => f_L_share_L46 N ra rb x0 x1 x4 x5 x9 x10 K n x7_2 x12_3)))) (fun (J91 : Int64 → Option (Int32)) => if r_74 = (rb ((2 * x1).toNatClampNeg)) then J91 x10 else J91 0))))
def f_L_share_L15 (N : Nat) (ra : (Nat → Int32)) (rb : (Nat → Int32)) (x0 : Int32) (x1 : Int32) (x4 : Int32) (K : Int64 → Int64 → Option (Int32)) : Nat → Int64 → Int64 → Int32 → Option (Int32)
  | 0, _, _, _ => none
  | n+1, x5, x7, x9 => if (1 <<< ((x4 - 1) &&& 31)) ≤ x9 then K x5 x7 else (f_L_product N ra rb x0 x9).bind (fun (r_31 : Int64) => bd (x5 + r_31) (fun (x5_1 : Int64) => f_L_share_L46 N ra rb x0 x1 x4 x5_1 x9 r_31 (fun (x7_46 : Int64) => f_L_share_L15 N ra rb x0 x1 x4 K n x5_1 x7_46 (x9 + 1)) N x7 0))
def f_L_share (N : Nat) (ra : (Nat → Int32)) (rb : (Nat → Int32)) (x0 : Int32) (x1 : Int32) : Option (Int32) := (f_L_size N  x0).bind (fun (r_1 : Int32) => f_L_share_L15 N ra rb x0 x1 r_1 (fun (x5_15 : Int64) (x7_15 : Int64) => nzL x5_15 (some (((1000 * x7_15) / x5_15).toInt32))) N 0 0 0)
def f_L_drop_L4 (N : Nat) (x0 : Int32) (ra : (Nat → Int32)) (K : (Nat → Int32) → Option ((Nat → Int32) × (Nat → Int32))) : Nat → Int32 → (Nat → Int32) → Option ((Nat → Int32) × (Nat → Int32))
  | 0, _, _ => none
  | n+1, x3, rb => ck 0 2 (if (2 * (ra ((0 : Int32).toNatClampNeg))) ≤ (x3 + 2) then K rb else ck (x3 + 2) 16 (ck x3 16 (f_L_drop_L4 N x0 ra K n (x3 + 1) (upd rb (x3.toNatClampNeg) (rb ((x3 + 2).toNatClampNeg))))))
def f_L_drop (N : Nat) (ra : (Nat → Int32)) (rb : (Nat → Int32)) (x0 : Int32) : Option ((Nat → Int32) × (Nat → Int32)) := f_L_drop_L4 N x0 ra (fun (rb_4 : (Nat → Int32)) => ck 0 2 (ck 0 2 (some (upd ra ((0 : Int32).toNatClampNeg) ((ra ((0 : Int32).toNatClampNeg)) - 1), rb_4)))) N (2 * x0) rb
def f_L_loss_L3 (N : Nat) (ra : (Nat → Int32)) (rb : (Nat → Int32)) (rc : (Nat → Int32)) (x0 : Int32) (rd : (Nat → Int32)) (K : (Nat → Int32) → Option (Int32 × (Nat → Int32) × (Nat → Int32))) : Nat → Int32 → (Nat → Int32) → Option (Int32 × (Nat → Int32) × (Nat → Int32))
  | 0, _, _ => none
  | n+1, x6, re => if 16 ≤ x6 then K re else ck x6 16 (ck x6 16 (f_L_loss_L3 N ra rb rc x0 rd K n (x6 + 1) (upd re (x6.toNatClampNeg) (rb (x6.toNatClampNeg)))))
def f_L_loss (N : Nat) (ra : (Nat → Int32)) (rb : (Nat → Int32)) (rd : (Nat → Int32)) (re : (Nat → Int32)) (rc : (Nat → Int32)) (x0 : Int32) : Option (Int32 × (Nat → Int32) × (Nat → Int32)) := f_L_loss_L3 N ra rb rc x0 rd (fun (re_3 : (Nat → Int32)) => ck 0 2 (ck 0 2 (ck 1 2 (ck 1 2 ((f_L_drop N (upd (upd rd ((0 : Int32).toNatClampNeg) (ra ((0 : Int32).toNatClampNeg))) ((1 : Int32).toNatClampNeg) (ra ((1 : Int32).toNatClampNeg))) re_3 x0).bind (fun (r_44 : (Nat → Int32) × (Nat → Int32)) => (f_L_cost N r_44.1 r_44.2 rc ).bind (fun (r_52 : Int32) => (f_L_cost N ra rb rc ).bind (fun (r_58 : Int32) => some (r_52 - r_58, r_44.1, r_44.2))))))))) N 0 re
def f_L_least_L14 (N : Nat) (ra : (Nat → Int32)) (rb : (Nat → Int32)) (rc : (Nat → Int32))  (K : Int32 → (Nat → Int32) → (Nat → Int32) → Option (Int32 × (Nat → Int32) × (Nat → Int32))) : Nat → Int32 → Int32 → Int32 → (Nat → Int32) → (Nat → Int32) → Option (Int32 × (Nat → Int32) × (Nat → Int32))
  | 0, _, _, _, _, _ => none
  | n+1, x5, x6, x7, rd, re => if x7 < 0 then K x5 rd re else (f_L_loss N ra rb rd re rc x7).bind (fun (r_27 : Int32 × (Nat → Int32) × (Nat → Int32)) => jn (fun (s0_75 : Int32) => jn (fun (s0_89 : Int32) => if s0_75 = 0 then f_L_least_L14 N ra rb rc  K n s0_89 x6 (x7 + (-1)) r_27.2.1 r_27.2.2 else f_L_least_L14 N ra rb rc  K n s0_89 r_27.1 (x7 + (-1)) r_27.2.1 r_27.2.2) (fun (J89 : Int32 → Option (Int32 × (Nat → Int32) × (Nat → Int32))) => if s0_75 = 0 then J89 x5 else J89 x7)) (fun (J75 : Int32 → Option (Int32 × (Nat → Int32) × (Nat → Int32))) => jn (fun (_ : Unit) => J75 1) (fun (J70 : Unit → Option (Int32 × (Nat → Int32) × (Nat → Int32))) => if x5 < 0 then J70 () else if r_27.1 < x6 then J70 () else if r_27.1 = x6 then ck ((2 * x7) + 1) 16 (ck ((2 * x5) + 1) 16 (if (rb (((2 * x5) + 1).toNatClampNeg)) ≤ (rb (((2 * x7) + 1).toNatClampNeg)) then J75 0 else J70 ())) else J75 0)))
def f_L_least (N : Nat) (ra : (Nat → Int32)) (rb : (Nat → Int32)) (rd : (Nat → Int32)) (re : (Nat → Int32)) (rc : (Nat → Int32)) : Option (Int32 × (Nat → Int32) × (Nat → Int32)) := ck 0 2 (bd ((ra ((0 : Int32).toNatClampNeg)) - 1) (fun (x7_1 : Int32) => f_L_least_L14 N ra rb rc  (fun (x5_14 : Int32) (rd_14 : (Nat → Int32)) (re_14 : (Nat → Int32)) => some (x5_14, rd_14, re_14)) N ((-6)) 0 x7_1 rd re))
def f_L_puts_L7 (N : Nat) (x1 : Int32)  (K : PV → Option (Int32 × PV)) : Nat → Int32 → PV → Option (Int32 × PV)
  | 0, _, _ => none
  | n+1, x2, pd => (f_L_size N  x1).bind (fun (r_9 : Int32) => if r_9 ≤ x2 then K pd else (f_L_some N  x1 x2 1).bind (fun (r_21 : Int32) => (f_X7_put N pd ((96 + r_21).toInt64)).bind (fun (r_26 : Int32 × PV) => if r_26.1 = (x2 + 1) then f_L_puts_L7 N x1  K n (x2 + 1) r_26.2 else some (0, r_26.2))))
def f_L_puts (N : Nat) (pd : PV) (x1 : Int32) : Option (Int32 × PV) := (f_X7_wipe N pd ).bind (fun (r_1 : Int32 × PV) => f_L_puts_L7 N x1  (fun (pd_7 : PV) => (f_X7_fault N pd_7 ).bind (fun (r_44 : Int32) => if r_44 = ((-6)) then some (1, pd_7) else some (0, pd_7))) N 0 r_1.2)
def f_L_text_L5 (N : Nat) (x0 : Int32) (x1 : Int32) (x2 : Int32)  (K : Int32 → Option (Int32)) : Nat → Int32 → Int32 → Option (Int32)
  | 0, _, _ => none
  | n+1, x3, x4 => if x1 ≤ x4 then K x3 else (f_L_low N  (x0 >>> ((2 * x4) &&& 31)) x2).bind (fun (r_24 : Int32) => bd (((7 * x3) + 1) + r_24) (fun (x3_1 : Int32) => f_L_text_L5 N x0 x1 x2  K n x3_1 (x4 + 1)))
def f_L_text (N : Nat) (x0 : Int32) (x1 : Int32) (x2 : Int32) : Option (Int32) := f_L_text_L5 N x0 x1 x2  (fun (x3_5 : Int32) => some x3_5) N 0 0
abbrev RM_L_low : Room := { frames := 0, cells := 0, slots := 0, locals := 0 }
set_option maxRecDepth 100000 in
set_option maxHeartbeats 4000000 in
theorem c_L_low (l : Launch) (dC : Nat → ClassId) (dI : Nat → Nat → Nat) (cI cJ cZ cO : ClassId)  (N : Nat) (x0 : Int32) (x1 : Int32) (o : Int32) (hf : f_L_low N x0 x1 = some o) : MetI l yL_low wsL_low RM_L_low (dC, dI) (TY cI cJ cZ cO) [.int x0, .int x1] ([] : va_W) (fun r (_ : Unit) => r = o) (fun _ => ([] : va_W)) := by
  refine MetI.ofV (cc := cL_low) (maxL := 2) (ret := (some .int)) (own := RL) (lv0 := [(0, .int x0), (1, .int x1)]) (by decide) rfl rfl (Nat.le_of_ble_eq_true rfl) rfl ?_
  intro p e s m below meth c A C0 _
  unfold f_L_low at hf
  refine V_iload_n C0 dL_low_0 0 rfl rfl ?_
  refine V_ldc (v := 2147483647) C0 dL_low_1 (by decide +kernel) rfl ?_
  refine V_iand C0 dL_low_3 rfl ?_
  refine V_iload_n C0 dL_low_4 1 rfl rfl ?_
  obtain ⟨hz5, hf⟩ := nzI_inv hf
  refine V_irem C0 dL_low_5 hz5 rfl ?_
  obtain rfl := some_inv hf
  exact V_iret C0 () rfl rfl dL_low_6
abbrev RM_L_size : Room := { frames := 0, cells := 0, slots := 0, locals := 0 }
set_option maxRecDepth 100000 in
set_option maxHeartbeats 4000000 in
theorem c_L_size (l : Launch) (dC : Nat → ClassId) (dI : Nat → Nat → Nat) (cI cJ cZ cO : ClassId)  (N : Nat) (x0 : Int32) (o : Int32) (hf : f_L_size N x0 = some o) : MetI l yL_size wsL_size RM_L_size (dC, dI) (TY cI cJ cZ cO) [.int x0] ([] : va_W) (fun r (_ : Unit) => r = o) (fun _ => ([] : va_W)) := by
  refine MetI.ofV (cc := cL_size) (maxL := 3) (ret := (some .int)) (own := RL) (lv0 := [(0, .int x0)]) (by decide) rfl rfl (Nat.le_of_ble_eq_true rfl) rfl ?_
  intro p e s m below meth c A C0 _
  unfold f_L_size at hf
  refine V_iconst (v := 0) C0 dL_size_0 (by decide) rfl ?_
  refine V_istore_n (lv' := [(1, .int 0), (0, .int x0)]) C0 dL_size_1 rfl (by decide) rfl rfl ?_
  refine V_iload_n C0 dL_size_2 1 rfl rfl ?_
  refine V_istore_n (lv' := [(2, .int x0), (1, .int 0), (0, .int x0)]) C0 dL_size_3 rfl (by decide) rfl rfl ?_
  have hL4 : ∀ (K : Int32 → Option (Int32)), (∀ (x1 : Int32), K x1 = some o → V p l e RM_L_size s m ([.int x0] : List Value).toArray below meth c 3 (dC, dI) A (MQ below (va_Qi (fun r (_ : Unit) => r = o) (PostW (dC, dI) (TY cI cJ cZ cO) A (fun _ => ([] : va_W))) A) ([.int x0] : List Value).toArray s 0 0 A) 0 0 ([] : va_W) 19 [(1, .int x1)] []) → ∀ (n : Nat) (x1 : Int32) (x2 : Int32), f_L_size_L4 N x0  K n x1 x2 = some o → V p l e RM_L_size s m ([.int x0] : List Value).toArray below meth c 3 (dC, dI) A (MQ below (va_Qi (fun r (_ : Unit) => r = o) (PostW (dC, dI) (TY cI cJ cZ cO) A (fun _ => ([] : va_W))) A) ([.int x0] : List Value).toArray s 0 0 A) 0 0 ([] : va_W) 4 [(1, .int x1), (2, .int x2)] [] := by
    intro  K hK n
    induction n with
    | zero => intro x1 x2 hf; cases hf
    | succ n hREC =>
      intro x1 x2 hf
      rw [f_L_size_L4] at hf
      refine V_iload_n C0 dL_size_4 1 rfl rfl ?_
      refine V_if_le (tgt := 19) C0 dL_size_5 (by decide) rfl (fun c5 => ?_) (fun c5 => ?_)
      · have hf := ite_t c5 hf
        exact V.sub [0] rfl (hK x1 hf)
      · have hf := ite_f c5 hf
        refine V_iinc (k := 0) (v := x1 + 1) (lv' := [(1, .int (x1 + 1)), (2, .int x2)]) C0 dL_size_8 rfl rfl (by decide) rfl rfl ?_
        refine V_iload_n C0 dL_size_11 1 rfl rfl ?_
        refine V_bipush (v := 7) C0 dL_size_12 (by decide) rfl ?_
        refine V_idiv C0 dL_size_14 (by decide) rfl ?_
        refine V_istore_n (lv' := [(2, .int (x2 / 7)), (1, .int (x1 + 1))]) C0 dL_size_15 rfl (by decide) rfl rfl ?_
        refine V_goto (tgt := 4) C0 dL_size_16 (by decide) ?_
        exact V.sub [1, 0] rfl (hREC (x1 + 1) (x2 / 7) hf)
  refine V.sub [1, 0] rfl (hL4  _ ?_ N 0 x0 hf)
  intro x1_4 hf
  refine V_iload_n C0 dL_size_19 0 rfl rfl ?_
  obtain rfl := some_inv hf
  exact V_iret C0 () rfl rfl dL_size_20
abbrev RM_L_some : Room := { frames := 1, cells := 0, slots := 0, locals := 22 }
set_option maxRecDepth 100000 in
set_option maxHeartbeats 4000000 in
theorem c_L_some (l : Launch) (dC : Nat → ClassId) (dI : Nat → Nat → Nat) (cI cJ cZ cO : ClassId)  (N : Nat) (x0 : Int32) (x1 : Int32) (x2 : Int32) (o : Int32) (hf : f_L_some N x0 x1 x2 = some o) : MetI l yL_some wsL_some RM_L_some (dC, dI) (TY cI cJ cZ cO) [.int x0, .int x1, .int x2] ([] : va_W) (fun r (_ : Unit) => r = o) (fun _ => ([] : va_W)) := by
  refine MetI.ofV (cc := cL_some) (maxL := 6) (ret := (some .int)) (own := RL) (lv0 := [(0, .int x0), (1, .int x1), (2, .int x2)]) (by decide) rfl rfl (Nat.le_of_ble_eq_true rfl) rfl ?_
  intro p e s m below meth c A C0 _
  unfold f_L_some at hf
  refine V_iload_n C0 dL_some_0 0 rfl rfl ?_
  refine V_istore_n (lv' := [(3, .int x0), (0, .int x0), (1, .int x1), (2, .int x2)]) C0 dL_some_1 rfl (by decide) rfl rfl ?_
  refine V_iload_n C0 dL_some_2 1 rfl rfl ?_
  obtain ⟨r_3, hc_3, hf⟩ := bind_inv hf
  refine V_cSI (ws' := ([] : va_W)) (As := [.int x0]) (st := []) C0 (c_L_size l dC dI cI cJ cZ cO  N  x0 r_3 hc_3) rfl 1 gL_some_L_size (by decide +kernel) ⟨Nat.le_of_ble_eq_true rfl, Nat.le_of_ble_eq_true rfl⟩ rfl  Cut.all rfl (Nat.le_of_ble_eq_true rfl) dL_some_3 rfl ⟨Nat.zero_le _, Nat.zero_le _⟩ ?_
  refine V_iload_n C0 dL_some_6 2 rfl rfl ?_
  refine V_isub C0 dL_some_7 rfl ?_
  refine V_iload_n C0 dL_some_8 3 rfl rfl ?_
  refine V_isub C0 dL_some_9 rfl ?_
  refine V_topi (fun x4_1 ex4_1 => ?_)
  have hf := bd_inv ex4_1 hf
  refine V_istore (lv' := [(4, .int x4_1), (3, .int x0), (0, .int x0), (1, .int x1), (2, .int x2)]) C0 dL_some_10 (by decide) rfl rfl ?_
  have hL12 : ∀ (K : Int32 → Option (Int32)), (∀ (x3 : Int32), K x3 = some o → V p l e RM_L_some s m ([.int x0, .int x1, .int x2] : List Value).toArray below meth c 6 (dC, dI) A (MQ below (va_Qi (fun r (_ : Unit) => r = o) (PostW (dC, dI) (TY cI cJ cZ cO) A (fun _ => ([] : va_W))) A) ([.int x0, .int x1, .int x2] : List Value).toArray s 0 0 A) 0 0 ([] : va_W) 28 [(2, .int x2), (3, .int x3)] []) → ∀ (n : Nat) (x3 : Int32) (x4 : Int32), f_L_some_L12 N x0 x1 x2  K n x3 x4 = some o → V p l e RM_L_some s m ([.int x0, .int x1, .int x2] : List Value).toArray below meth c 6 (dC, dI) A (MQ below (va_Qi (fun r (_ : Unit) => r = o) (PostW (dC, dI) (TY cI cJ cZ cO) A (fun _ => ([] : va_W))) A) ([.int x0, .int x1, .int x2] : List Value).toArray s 0 0 A) 0 0 ([] : va_W) 12 [(2, .int x2), (3, .int x3), (4, .int x4)] [] := by
    intro  K hK n
    induction n with
    | zero => intro x3 x4 hf; cases hf
    | succ n hREC =>
      intro x3 x4 hf
      rw [f_L_some_L12] at hf
      refine V_iload C0 dL_some_12 2 rfl rfl ?_
      refine V_if_le (tgt := 28) C0 dL_some_14 (by decide) rfl (fun c14 => ?_) (fun c14 => ?_)
      · have hf := ite_t c14 hf
        exact V.sub [0, 1] rfl (hK x3 hf)
      · have hf := ite_f c14 hf
        refine V_iload_n C0 dL_some_17 1 rfl rfl ?_
        refine V_bipush (v := 7) C0 dL_some_18 (by decide) rfl ?_
        refine V_idiv C0 dL_some_20 (by decide) rfl ?_
        refine V_istore_n (lv' := [(3, .int (x3 / 7)), (2, .int x2), (4, .int x4)]) C0 dL_some_21 rfl (by decide) rfl rfl ?_
        refine V_iinc (k := 2) (v := x4 + (-1)) (lv' := [(4, .int (x4 + (-1))), (3, .int (x3 / 7)), (2, .int x2)]) C0 dL_some_22 rfl rfl (by decide) rfl rfl ?_
        refine V_goto (tgt := 12) C0 dL_some_25 (by decide) ?_
        exact V.sub [2, 1, 0] rfl (hREC (x3 / 7) (x4 + (-1)) hf)
  refine V.sub [4, 1, 0] rfl (hL12  _ ?_ N x0 x4_1 hf)
  intro x3_12 hf
  refine V_iconst (v := 1) C0 dL_some_28 (by decide) rfl ?_
  refine V_istore (lv' := [(4, .int 1), (2, .int x2), (3, .int x3_12)]) C0 dL_some_29 (by decide) rfl rfl ?_
  refine V_iconst (v := 0) C0 dL_some_31 (by decide) rfl ?_
  refine V_istore (lv' := [(5, .int 0), (4, .int 1), (2, .int x2), (3, .int x3_12)]) C0 dL_some_32 (by decide) rfl rfl ?_
  have hL34 : ∀ (x3 : Int32) (K : Int32 → Option (Int32)), (∀ (x4 : Int32), K x4 = some o → V p l e RM_L_some s m ([.int x0, .int x1, .int x2] : List Value).toArray below meth c 6 (dC, dI) A (MQ below (va_Qi (fun r (_ : Unit) => r = o) (PostW (dC, dI) (TY cI cJ cZ cO) A (fun _ => ([] : va_W))) A) ([.int x0, .int x1, .int x2] : List Value).toArray s 0 0 A) 0 0 ([] : va_W) 53 [(3, .int x3), (4, .int x4)] []) → ∀ (n : Nat) (x4 : Int32) (x5 : Int32), f_L_some_L34 N x0 x1 x2 x3 K n x4 x5 = some o → V p l e RM_L_some s m ([.int x0, .int x1, .int x2] : List Value).toArray below meth c 6 (dC, dI) A (MQ below (va_Qi (fun r (_ : Unit) => r = o) (PostW (dC, dI) (TY cI cJ cZ cO) A (fun _ => ([] : va_W))) A) ([.int x0, .int x1, .int x2] : List Value).toArray s 0 0 A) 0 0 ([] : va_W) 34 [(2, .int x2), (3, .int x3), (4, .int x4), (5, .int x5)] [] := by
    intro x3 K hK n
    induction n with
    | zero => intro x4 x5 hf; cases hf
    | succ n hREC =>
      intro x4 x5 hf
      rw [f_L_some_L34] at hf
      refine V_iload C0 dL_some_34 3 rfl rfl ?_
      refine V_iload_n C0 dL_some_36 0 rfl rfl ?_
      refine V_icmp_ge (tgt := 53) C0 dL_some_37 (by decide) rfl (fun c37 => ?_) (fun c37 => ?_)
      · have hf := ite_t c37 hf
        exact V.sub [1, 2] rfl (hK x4 hf)
      · have hf := ite_f c37 hf
        refine V_iload C0 dL_some_40 2 rfl rfl ?_
        refine V_bipush (v := 7) C0 dL_some_42 (by decide) rfl ?_
        refine V_imul C0 dL_some_44 rfl ?_
        refine V_istore (lv' := [(4, .int (x4 * 7)), (2, .int x2), (3, .int x3), (5, .int x5)]) C0 dL_some_45 (by decide) rfl rfl ?_
        refine V_iinc (k := 3) (v := x5 + 1) (lv' := [(5, .int (x5 + 1)), (4, .int (x4 * 7)), (2, .int x2), (3, .int x3)]) C0 dL_some_47 rfl rfl (by decide) rfl rfl ?_
        refine V_goto (tgt := 34) C0 dL_some_50 (by decide) ?_
        exact V.sub [2, 3, 1, 0] rfl (hREC (x4 * 7) (x5 + 1) hf)
  refine V.sub [2, 3, 1, 0] rfl (hL34 x3_12 _ ?_ N 1 0 hf)
  intro x4_34 hf
  refine V_iload_n C0 dL_some_53 0 rfl rfl ?_
  refine V_iload C0 dL_some_54 1 rfl rfl ?_
  obtain ⟨hz56, hf⟩ := nzI_inv hf
  refine V_irem C0 dL_some_56 hz56 rfl ?_
  obtain rfl := some_inv hf
  exact V_iret C0 () rfl rfl dL_some_57
abbrev RM_L_piece : Room := { frames := 0, cells := 0, slots := 0, locals := 0 }
set_option maxRecDepth 100000 in
set_option maxHeartbeats 4000000 in
theorem c_L_piece (l : Launch) (dC : Nat → ClassId) (dI : Nat → Nat → Nat) (cI cJ cZ cO : ClassId) (ara : Nat → Nat) (arb : Nat → Nat) (N : Nat) (ra : (Nat → Int32)) (rb : (Nat → Int32)) (x0 : Int32) (o : Int32) (hf : f_L_piece N ra rb x0 = some o) : MetI l yL_piece wsL_piece RM_L_piece (dC, dI) (TY cI cJ cZ cO) [.int x0, .ref (ara 0), .ref (arb 0)] (W_RI cI cJ cZ cO ara 2 ra ++ (W_RI cI cJ cZ cO arb 16 rb)) (fun r (_ : Unit) => r = o) (fun _ => (W_RI cI cJ cZ cO ara 2 ra ++ (W_RI cI cJ cZ cO arb 16 rb))) := by
  refine MetI.ofV (cc := cL_piece) (maxL := 4) (ret := (some .int)) (own := RL) (lv0 := [(0, .int x0), (1, .ref (ara 0)), (2, .ref (arb 0))]) (by decide) rfl rfl (Nat.le_of_ble_eq_true rfl) rfl ?_
  intro p e s m below meth c A C0 _
  unfold f_L_piece at hf
  refine V_iconst (v := 0) C0 dL_piece_0 (by decide) rfl ?_
  refine V_istore_n (lv' := [(3, .int 0), (0, .int x0), (1, .ref (ara 0)), (2, .ref (arb 0))]) C0 dL_piece_1 rfl (by decide) rfl rfl ?_
  have hL2 : ∀ (K : Unit → Option (Int32)), (∀ (u : Unit), K u = some o → V p l e RM_L_piece s m ([.int x0, .ref (ara 0), .ref (arb 0)] : List Value).toArray below meth c 4 (dC, dI) A (MQ below (va_Qi (fun r (_ : Unit) => r = o) (PostW (dC, dI) (TY cI cJ cZ cO) A (fun _ => (W_RI cI cJ cZ cO ara 2 ra ++ (W_RI cI cJ cZ cO arb 16 rb)))) A) ([.int x0, .ref (ara 0), .ref (arb 0)] : List Value).toArray s 0 0 A) 0 0 (W_RI cI cJ cZ cO ara 2 ra ++ (W_RI cI cJ cZ cO arb 16 rb)) 26 [] []) → ∀ (n : Nat) (x3 : Int32), f_L_piece_L2 N ra rb x0  K n x3 = some o → V p l e RM_L_piece s m ([.int x0, .ref (ara 0), .ref (arb 0)] : List Value).toArray below meth c 4 (dC, dI) A (MQ below (va_Qi (fun r (_ : Unit) => r = o) (PostW (dC, dI) (TY cI cJ cZ cO) A (fun _ => (W_RI cI cJ cZ cO ara 2 ra ++ (W_RI cI cJ cZ cO arb 16 rb)))) A) ([.int x0, .ref (ara 0), .ref (arb 0)] : List Value).toArray s 0 0 A) 0 0 (W_RI cI cJ cZ cO ara 2 ra ++ (W_RI cI cJ cZ cO arb 16 rb)) 2 [(0, .int x0), (1, .ref (ara 0)), (2, .ref (arb 0)), (3, .int x3)] [] := by
    intro  K hK n
    induction n with
    | zero => intro x3 hf; cases hf
    | succ n hREC =>
      intro x3 hf
      rw [f_L_piece_L2] at hf
      refine V_iload_n C0 dL_piece_2 3 rfl rfl ?_
      refine V_aload_n C0 dL_piece_3 1 rfl rfl ?_
      refine V_iconst (v := 0) C0 dL_piece_4 (by decide) rfl ?_
      obtain ⟨hi5, hf⟩ := ck_inv hf
      refine V_iald C0 0 0 rfl rfl hi5 dL_piece_5 rfl ?_
      refine V_icmp_ge (tgt := 26) C0 dL_piece_6 (by decide) rfl (fun c6 => ?_) (fun c6 => ?_)
      · have hf := ite_t c6 hf
        exact V.sub [] rfl (hK () hf)
      · have hf := ite_f c6 hf
        refine V_aload_n C0 dL_piece_9 2 rfl rfl ?_
        refine V_iconst (v := 2) C0 dL_piece_10 (by decide) rfl ?_
        refine V_iload_n C0 dL_piece_11 3 rfl rfl ?_
        refine V_imul C0 dL_piece_12 rfl ?_
        obtain ⟨hi13, hf⟩ := ck_inv hf
        refine V_iald C0 1 0 rfl rfl hi13 dL_piece_13 rfl ?_
        refine V_iload_n C0 dL_piece_14 0 rfl rfl ?_
        refine V_icmp_ne (tgt := 20) C0 dL_piece_15 (by decide) rfl (fun c15 => ?_) (fun c15 => ?_)
        · have hf := ite_f c15 hf
          refine V_iinc (k := 3) (v := x3 + 1) (lv' := [(3, .int (x3 + 1)), (0, .int x0), (1, .ref (ara 0)), (2, .ref (arb 0))]) C0 dL_piece_20 rfl rfl (by decide) rfl rfl ?_
          refine V_goto (tgt := 2) C0 dL_piece_23 (by decide) ?_
          exact V.sub [1, 2, 3, 0] rfl (hREC (x3 + 1) hf)
        · have hf := ite_t c15 hf
          refine V_iload_n C0 dL_piece_18 3 rfl rfl ?_
          obtain rfl := some_inv hf
          exact V_iret C0 () rfl rfl dL_piece_19
  refine V.sub [1, 2, 3, 0] rfl (hL2  _ ?_ N 0 hf)
  intro u hf
  refine V_bipush (v := (-6)) C0 dL_piece_26 (by decide) rfl ?_
  obtain rfl := some_inv hf
  exact V_iret C0 () rfl rfl dL_piece_28
abbrev RM_L_reaches : Room := { frames := 0, cells := 0, slots := 0, locals := 0 }
set_option maxRecDepth 100000 in
set_option maxHeartbeats 4000000 in
theorem c_L_reaches (l : Launch) (dC : Nat → ClassId) (dI : Nat → Nat → Nat) (cI cJ cZ cO : ClassId)  (N : Nat) (x0 : Int32) (x1 : Int32) (x2 : Int32) (o : Int32) (hf : f_L_reaches N x0 x1 x2 = some o) : MetI l yL_reaches wsL_reaches RM_L_reaches (dC, dI) (TY cI cJ cZ cO) [.int x0, .int x1, .int x2] ([] : va_W) (fun r (_ : Unit) => r = o) (fun _ => ([] : va_W)) := by
  refine MetI.ofV (cc := cL_reaches) (maxL := 4) (ret := (some .int)) (own := RL) (lv0 := [(0, .int x0), (1, .int x1), (2, .int x2)]) (by decide) rfl rfl (Nat.le_of_ble_eq_true rfl) rfl ?_
  intro p e s m below meth c A C0 _
  unfold f_L_reaches at hf
  refine V_iload_n C0 dL_reaches_0 2 rfl rfl ?_
  refine V_istore_n (lv' := [(3, .int x2), (0, .int x0), (1, .int x1), (2, .int x2)]) C0 dL_reaches_1 rfl (by decide) rfl rfl ?_
  have hL2 : ∀ (K : Int32 → Option (Int32)), (∀ (x3 : Int32), K x3 = some o → V p l e RM_L_reaches s m ([.int x0, .int x1, .int x2] : List Value).toArray below meth c 4 (dC, dI) A (MQ below (va_Qi (fun r (_ : Unit) => r = o) (PostW (dC, dI) (TY cI cJ cZ cO) A (fun _ => ([] : va_W))) A) ([.int x0, .int x1, .int x2] : List Value).toArray s 0 0 A) 0 0 ([] : va_W) 23 [(2, .int x2), (3, .int x3)] []) → ∀ (n : Nat) (x3 : Int32), f_L_reaches_L2 N x0 x1 x2  K n x3 = some o → V p l e RM_L_reaches s m ([.int x0, .int x1, .int x2] : List Value).toArray below meth c 4 (dC, dI) A (MQ below (va_Qi (fun r (_ : Unit) => r = o) (PostW (dC, dI) (TY cI cJ cZ cO) A (fun _ => ([] : va_W))) A) ([.int x0, .int x1, .int x2] : List Value).toArray s 0 0 A) 0 0 ([] : va_W) 2 [(0, .int x0), (1, .int x1), (2, .int x2), (3, .int x3)] [] := by
    intro  K hK n
    induction n with
    | zero => intro x3 hf; cases hf
    | succ n hREC =>
      intro x3 hf
      rw [f_L_reaches_L2] at hf
      refine V_iload_n C0 dL_reaches_2 3 rfl rfl ?_
      refine V_iload_n C0 dL_reaches_3 0 rfl rfl ?_
      refine V_iconst (v := 1) C0 dL_reaches_4 (by decide) rfl ?_
      refine V_isub C0 dL_reaches_5 rfl ?_
      refine V_icmp_ge (tgt := 23) C0 dL_reaches_6 (by decide) rfl (fun c6 => ?_) (fun c6 => ?_)
      · have hf := ite_t c6 hf
        exact V.sub [2, 3] rfl (hK x3 hf)
      · have hf := ite_f c6 hf
        refine V_iload_n C0 dL_reaches_9 1 rfl rfl ?_
        refine V_iload_n C0 dL_reaches_10 3 rfl rfl ?_
        refine V_ishr C0 dL_reaches_11 rfl ?_
        refine V_iconst (v := 1) C0 dL_reaches_12 (by decide) rfl ?_
        refine V_iand C0 dL_reaches_13 rfl ?_
        refine V_if_ne (tgt := 23) C0 dL_reaches_14 (by decide) rfl (fun c14 => ?_) (fun c14 => ?_)
        · have hf := ite_f c14 hf
          exact V.sub [2, 3] rfl (hK x3 hf)
        · have hf := ite_t c14 hf
          refine V_iinc (k := 3) (v := x3 + 1) (lv' := [(3, .int (x3 + 1)), (0, .int x0), (1, .int x1), (2, .int x2)]) C0 dL_reaches_17 rfl rfl (by decide) rfl rfl ?_
          refine V_goto (tgt := 2) C0 dL_reaches_20 (by decide) ?_
          exact V.sub [1, 2, 3, 0] rfl (hREC (x3 + 1) hf)
  refine V.sub [1, 2, 3, 0] rfl (hL2  _ ?_ N x2 hf)
  intro x3_2 hf
  refine V_iload_n C0 dL_reaches_23 1 rfl rfl ?_
  refine V_iload_n C0 dL_reaches_24 0 rfl rfl ?_
  refine V_isub C0 dL_reaches_25 rfl ?_
  refine V_iconst (v := 1) C0 dL_reaches_26 (by decide) rfl ?_
  refine V_iadd C0 dL_reaches_27 rfl ?_
  obtain rfl := some_inv hf
  exact V_iret C0 () rfl rfl dL_reaches_28
abbrev RM_L_product : Room := { frames := 2, cells := 0, slots := 0, locals := 47 }
set_option maxRecDepth 100000 in
set_option maxHeartbeats 4000000 in
theorem c_L_product (l : Launch) (dC : Nat → ClassId) (dI : Nat → Nat → Nat) (cI cJ cZ cO : ClassId) (ara : Nat → Nat) (arb : Nat → Nat) (N : Nat) (ra : (Nat → Int32)) (rb : (Nat → Int32)) (x0 : Int32) (x1 : Int32) (o : Int64) (hf : f_L_product N ra rb x0 x1 = some o) : MetL l yL_product wsL_product RM_L_product (dC, dI) (TY cI cJ cZ cO) [.int x0, .int x1, .ref (ara 0), .ref (arb 0)] (W_RI cI cJ cZ cO ara 2 ra ++ (W_RI cI cJ cZ cO arb 16 rb)) (fun r (_ : Unit) => r = o) (fun _ => (W_RI cI cJ cZ cO ara 2 ra ++ (W_RI cI cJ cZ cO arb 16 rb))) := by
  refine MetL.ofV (cc := cL_product) (maxL := 10) (ret := (some .long)) (own := RL) (lv0 := [(0, .int x0), (1, .int x1), (2, .ref (ara 0)), (3, .ref (arb 0))]) (by decide) rfl rfl (Nat.le_of_ble_eq_true rfl) rfl ?_
  intro p e s m below meth c A C0 _
  unfold f_L_product at hf
  refine V_iload_n C0 dL_product_0 0 rfl rfl ?_
  obtain ⟨r_1, hc_1, hf⟩ := bind_inv hf
  refine V_cSI (ws' := (W_RI cI cJ cZ cO ara 2 ra ++ (W_RI cI cJ cZ cO arb 16 rb))) (As := [.int x0]) (st := []) C0 (c_L_size l dC dI cI cJ cZ cO  N  x0 r_1 hc_1) rfl 1 gL_product_L_size (by decide +kernel) ⟨Nat.le_of_ble_eq_true rfl, Nat.le_of_ble_eq_true rfl⟩ rfl  ⟨_, (pr pr1), fun _ => (pr pr1)⟩ rfl (Nat.le_of_ble_eq_true rfl) dL_product_1 rfl ⟨Nat.zero_le _, Nat.zero_le _⟩ ?_
  refine V_istore (lv' := [(4, .int r_1), (0, .int x0), (1, .int x1), (2, .ref (ara 0)), (3, .ref (arb 0))]) C0 dL_product_4 (by decide) rfl rfl ?_
  refine V_lconst (v := 1) C0 dL_product_6 (by decide) rfl ?_
  refine V_lstore (lv' := [(5, .long 1), (4, .int r_1), (0, .int x0), (1, .int x1), (2, .ref (ara 0)), (3, .ref (arb 0))]) C0 dL_product_7 (by decide) rfl rfl ?_
  refine V_iconst (v := 0) C0 dL_product_9 (by decide) rfl ?_
  refine V_istore (lv' := [(7, .int 0), (5, .long 1), (4, .int r_1), (0, .int x0), (1, .int x1), (2, .ref (ara 0)), (3, .ref (arb 0))]) C0 dL_product_10 (by decide) rfl rfl ?_
  have hL12 : ∀ (x4 : Int32) (K : Int64 → Option (Int64)), (∀ (x5 : Int64), K x5 = some o → V p l e RM_L_product s m ([.int x0, .int x1, .ref (ara 0), .ref (arb 0)] : List Value).toArray below meth c 10 (dC, dI) A (MQ below (va_Ql (fun r (_ : Unit) => r = o) (PostW (dC, dI) (TY cI cJ cZ cO) A (fun _ => (W_RI cI cJ cZ cO ara 2 ra ++ (W_RI cI cJ cZ cO arb 16 rb)))) A) ([.int x0, .int x1, .ref (ara 0), .ref (arb 0)] : List Value).toArray s 0 0 A) 0 0 (W_RI cI cJ cZ cO ara 2 ra ++ (W_RI cI cJ cZ cO arb 16 rb)) 111 [(5, .long x5)] []) → ∀ (n : Nat) (x5 : Int64) (x7 : Int32), f_L_product_L12 N ra rb x0 x1 x4 K n x5 x7 = some o → V p l e RM_L_product s m ([.int x0, .int x1, .ref (ara 0), .ref (arb 0)] : List Value).toArray below meth c 10 (dC, dI) A (MQ below (va_Ql (fun r (_ : Unit) => r = o) (PostW (dC, dI) (TY cI cJ cZ cO) A (fun _ => (W_RI cI cJ cZ cO ara 2 ra ++ (W_RI cI cJ cZ cO arb 16 rb)))) A) ([.int x0, .int x1, .ref (ara 0), .ref (arb 0)] : List Value).toArray s 0 0 A) 0 0 (W_RI cI cJ cZ cO ara 2 ra ++ (W_RI cI cJ cZ cO arb 16 rb)) 12 [(0, .int x0), (1, .int x1), (2, .ref (ara 0)), (3, .ref (arb 0)), (4, .int x4), (5, .long x5), (7, .int x7)] [] := by
    intro x4 K hK n
    induction n with
    | zero => intro x5 x7 hf; cases hf
    | succ n hREC =>
      intro x5 x7 hf
      rw [f_L_product_L12] at hf
      refine V_iload C0 dL_product_12 6 rfl rfl ?_
      refine V_iload C0 dL_product_14 4 rfl rfl ?_
      refine V_icmp_ge (tgt := 111) C0 dL_product_16 (by decide) rfl (fun c16 => ?_) (fun c16 => ?_)
      · have hf := ite_t c16 hf
        exact V.sub [5] rfl (hK x5 hf)
      · have hf := ite_f c16 hf
        refine V_lload C0 dL_product_19 5 rfl rfl ?_
        refine V_lconst (v := 0) C0 dL_product_21 (by decide) rfl ?_
        refine V_lcmp C0 dL_product_22 rfl ?_
        refine V_if_le (tgt := 111) C0 dL_product_23 (by decide) rfl (fun c23 => ?_) (fun c23 => ?_)
        · have hf := ite_t c23 hf
          exact V.sub [5] rfl (hK x5 hf)
        · have hf := ite_f c23 hf
          refine V_iload C0 dL_product_26 4 rfl rfl ?_
          refine V_iload_n C0 dL_product_28 1 rfl rfl ?_
          refine V_iload C0 dL_product_29 6 rfl rfl ?_
          obtain ⟨r_31, hc_31, hf⟩ := bind_inv hf
          refine V_cSI (ws' := (W_RI cI cJ cZ cO ara 2 ra ++ (W_RI cI cJ cZ cO arb 16 rb))) (As := [.int x4, .int x1, .int x7]) (st := []) C0 (c_L_reaches l dC dI cI cJ cZ cO  N  x4 x1 x7 r_31 hc_31) rfl 3 gL_product_L_reaches (by decide +kernel) ⟨Nat.le_of_ble_eq_true rfl, Nat.le_of_ble_eq_true rfl⟩ rfl  ⟨_, (pr pr1), fun _ => (pr pr1)⟩ rfl (Nat.le_of_ble_eq_true rfl) dL_product_31 rfl ⟨Nat.zero_le _, Nat.zero_le _⟩ ?_
          refine V_istore (lv' := [(8, .int r_31), (0, .int x0), (1, .int x1), (2, .ref (ara 0)), (3, .ref (arb 0)), (4, .int x4), (5, .long x5), (7, .int x7)]) C0 dL_product_34 (by decide) rfl rfl ?_
          refine V_iload C0 dL_product_36 0 rfl rfl ?_
          refine V_iconst (v := 4) C0 dL_product_38 (by decide) rfl ?_
          refine jn_elim hf (fun (J : Int32 → Option (Int64)) => ∀ (s0_60 : Int32), J s0_60 = some o → V p l e RM_L_product s m ([.int x0, .int x1, .ref (ara 0), .ref (arb 0)] : List Value).toArray below meth c 10 (dC, dI) A (MQ below (va_Ql (fun r (_ : Unit) => r = o) (PostW (dC, dI) (TY cI cJ cZ cO) A (fun _ => (W_RI cI cJ cZ cO ara 2 ra ++ (W_RI cI cJ cZ cO arb 16 rb)))) A) ([.int x0, .int x1, .ref (ara 0), .ref (arb 0)] : List Value).toArray s 0 0 A) 0 0 (W_RI cI cJ cZ cO ara 2 ra ++ (W_RI cI cJ cZ cO arb 16 rb)) 60 [(0, .int x0), (1, .int x1), (2, .ref (ara 0)), (3, .ref (arb 0)), (4, .int x4), (5, .long x5), (7, .int x7), (8, .int r_31)] [.int s0_60]) ?_ ?_
          · intro s0_60 hf
            refine V_istore (lv' := [(9, .int s0_60), (0, .int x0), (1, .int x1), (2, .ref (ara 0)), (3, .ref (arb 0)), (4, .int x4), (5, .long x5), (7, .int x7), (8, .int r_31)]) C0 dL_product_60 (by decide) rfl rfl ?_
            refine V_lload C0 dL_product_62 6 rfl rfl ?_
            refine V_iload C0 dL_product_64 0 rfl rfl ?_
            refine jn_elim hf (fun (J : Int64 → Option (Int64)) => ∀ (s1_92 : Int64), J s1_92 = some o → V p l e RM_L_product s m ([.int x0, .int x1, .ref (ara 0), .ref (arb 0)] : List Value).toArray below meth c 10 (dC, dI) A (MQ below (va_Ql (fun r (_ : Unit) => r = o) (PostW (dC, dI) (TY cI cJ cZ cO) A (fun _ => (W_RI cI cJ cZ cO ara 2 ra ++ (W_RI cI cJ cZ cO arb 16 rb)))) A) ([.int x0, .int x1, .ref (ara 0), .ref (arb 0)] : List Value).toArray s 0 0 A) 0 0 (W_RI cI cJ cZ cO ara 2 ra ++ (W_RI cI cJ cZ cO arb 16 rb)) 92 [(0, .int x0), (1, .int x1), (2, .ref (ara 0)), (3, .ref (arb 0)), (4, .int x4), (7, .int x7)] [.long s1_92, .long x5]) ?_ ?_
            · intro s1_92 hf
              refine V_lmul C0 dL_product_92 rfl ?_
              refine V_topl (fun x5_1 ex5_1 => ?_)
              have hf := bd_inv ex5_1 hf
              refine V_lstore (lv' := [(5, .long x5_1), (0, .int x0), (1, .int x1), (2, .ref (ara 0)), (3, .ref (arb 0)), (4, .int x4), (7, .int x7)]) C0 dL_product_93 (by decide) rfl rfl ?_
              refine V_iload C0 dL_product_95 6 rfl rfl ?_
              refine V_iload C0 dL_product_97 5 rfl rfl ?_
              refine V_iload_n C0 dL_product_99 2 rfl rfl ?_
              refine V_iload C0 dL_product_100 6 rfl rfl ?_
              obtain ⟨r_102, hc_102, hf⟩ := bind_inv hf
              refine V_cSI (ws' := (W_RI cI cJ cZ cO ara 2 ra ++ (W_RI cI cJ cZ cO arb 16 rb))) (As := [.int x4, .int x1, .int x7]) (st := [.int x7]) C0 (c_L_reaches l dC dI cI cJ cZ cO  N  x4 x1 x7 r_102 hc_102) rfl 3 gL_product_L_reaches (by decide +kernel) ⟨Nat.le_of_ble_eq_true rfl, Nat.le_of_ble_eq_true rfl⟩ rfl  ⟨_, (pr pr1), fun _ => (pr pr1)⟩ rfl (Nat.le_of_ble_eq_true rfl) dL_product_102 rfl ⟨Nat.zero_le _, Nat.zero_le _⟩ ?_
              refine V_iadd C0 dL_product_105 rfl ?_
              refine V_topi (fun x7_2 ex7_2 => ?_)
              have hf := bd_inv ex7_2 hf
              refine V_istore (lv' := [(7, .int x7_2), (5, .long x5_1), (0, .int x0), (1, .int x1), (2, .ref (ara 0)), (3, .ref (arb 0)), (4, .int x4)]) C0 dL_product_106 (by decide) rfl rfl ?_
              refine V_goto (tgt := 12) C0 dL_product_108 (by decide) ?_
              exact V.sub [2, 3, 4, 5, 6, 1, 0] rfl (hREC x5_1 x7_2 hf)
            · intro J92 hJ92 hf
              refine V_if_lt (tgt := 81) C0 dL_product_66 (by decide) rfl (fun c66 => ?_) (fun c66 => ?_)
              · have hf := ite_t c66 hf
                refine V_iload C0 dL_product_81 8 rfl rfl ?_
                refine V_iconst (v := 1) C0 dL_product_83 (by decide) rfl ?_
                refine V_icmp_ne (tgt := 91) C0 dL_product_84 (by decide) rfl (fun c84 => ?_) (fun c84 => ?_)
                · have hf := ite_f c84 hf
                  refine V_lconst (v := 0) C0 dL_product_91 (by decide) rfl ?_
                  exact V.sub [1, 2, 3, 4, 5, 7] rfl (hJ92 0 hf)
                · have hf := ite_t c84 hf
                  refine V_lconst (v := 1) C0 dL_product_87 (by decide) rfl ?_
                  refine V_goto (tgt := 92) C0 dL_product_88 (by decide) ?_
                  exact V.sub [1, 2, 3, 4, 5, 7] rfl (hJ92 1 hf)
              · have hf := ite_f c66 hf
                refine V_aload_n C0 dL_product_69 4 rfl rfl ?_
                refine V_iconst (v := 2) C0 dL_product_70 (by decide) rfl ?_
                refine V_iload C0 dL_product_71 0 rfl rfl ?_
                refine V_imul C0 dL_product_73 rfl ?_
                refine V_iconst (v := 1) C0 dL_product_74 (by decide) rfl ?_
                refine V_iadd C0 dL_product_75 rfl ?_
                obtain ⟨hi76, hf⟩ := ck_inv hf
                refine V_iald C0 1 0 rfl rfl hi76 dL_product_76 rfl ?_
                refine V_i2l C0 dL_product_77 rfl ?_
                refine V_goto (tgt := 92) C0 dL_product_78 (by decide) ?_
                exact V.sub [1, 2, 3, 4, 5, 7] rfl (hJ92 ((rb (((2 * s0_60) + 1).toNatClampNeg)).toInt64) hf)
          · intro J60 hJ60 hf
            refine V_icmp_le (tgt := 47) C0 dL_product_39 (by decide) rfl (fun c39 => ?_) (fun c39 => ?_)
            · have hf := ite_t c39 hf
              refine V_iload_n C0 dL_product_47 1 rfl rfl ?_
              refine V_iload C0 dL_product_48 7 rfl rfl ?_
              refine V_iload C0 dL_product_50 0 rfl rfl ?_
              obtain ⟨r_52, hc_52, hf⟩ := bind_inv hf
              refine V_cSI (ws' := (W_RI cI cJ cZ cO ara 2 ra ++ (W_RI cI cJ cZ cO arb 16 rb))) (As := [.int x0, .int x7, .int r_31]) (st := []) C0 (c_L_some l dC dI cI cJ cZ cO  N  x0 x7 r_31 r_52 hc_52) rfl 3 gL_product_L_some (by decide +kernel) ⟨Nat.le_of_ble_eq_true rfl, Nat.le_of_ble_eq_true rfl⟩ rfl  ⟨_, (pr pr1), fun _ => (pr pr1)⟩ rfl (Nat.le_of_ble_eq_true rfl) dL_product_52 rfl ⟨Nat.zero_le _, Nat.zero_le _⟩ ?_
              refine V_aload_n C0 dL_product_55 3 rfl rfl ?_
              refine V_aload_n C0 dL_product_56 4 rfl rfl ?_
              obtain ⟨r_57, hc_57, hf⟩ := bind_inv hf
              refine V_cSI (ws' := (W_RI cI cJ cZ cO ara 2 ra ++ (W_RI cI cJ cZ cO arb 16 rb))) (As := [.int r_52, .ref (ara 0), .ref (arb 0)]) (st := []) C0 (c_L_piece l dC dI cI cJ cZ cO ara arb N ra rb r_52 r_57 hc_57) rfl 3 gL_product_L_piece (by decide +kernel) ⟨Nat.le_of_ble_eq_true rfl, Nat.le_of_ble_eq_true rfl⟩ rfl  Cut.all rfl (Nat.le_of_ble_eq_true rfl) dL_product_57 rfl ⟨Nat.zero_le _, Nat.zero_le _⟩ ?_
              exact V.sub [1, 2, 3, 4, 5, 6, 7, 0] rfl (hJ60 r_57 hf)
            · have hf := ite_f c39 hf
              refine V_bipush (v := (-6)) C0 dL_product_42 (by decide) rfl ?_
              refine V_goto (tgt := 60) C0 dL_product_44 (by decide) ?_
              exact V.sub [1, 2, 3, 4, 5, 6, 7, 0] rfl (hJ60 ((-6)) hf)
  refine V.sub [3, 4, 5, 6, 2, 1, 0] rfl (hL12 r_1 _ ?_ N 1 0 hf)
  intro x5_12 hf
  refine V_lload C0 dL_product_111 0 rfl rfl ?_
  obtain rfl := some_inv hf
  exact V_lret C0 () rfl rfl dL_product_113
abbrev RM_L_bits : Room := { frames := 0, cells := 0, slots := 0, locals := 0 }
set_option maxRecDepth 100000 in
set_option maxHeartbeats 4000000 in
theorem c_L_bits (l : Launch) (dC : Nat → ClassId) (dI : Nat → Nat → Nat) (cI cJ cZ cO : ClassId)  (N : Nat) (x0 : Int32) (o : Int32) (hf : f_L_bits N x0 = some o) : MetI l yL_bits wsL_bits RM_L_bits (dC, dI) (TY cI cJ cZ cO) [.int x0] ([] : va_W) (fun r (_ : Unit) => r = o) (fun _ => ([] : va_W)) := by
  refine MetI.ofV (cc := cL_bits) (maxL := 3) (ret := (some .int)) (own := RL) (lv0 := [(0, .int x0)]) (by decide) rfl rfl (Nat.le_of_ble_eq_true rfl) rfl ?_
  intro p e s m below meth c A C0 _
  unfold f_L_bits at hf
  refine V_iconst (v := 0) C0 dL_bits_0 (by decide) rfl ?_
  refine V_istore_n (lv' := [(1, .int 0), (0, .int x0)]) C0 dL_bits_1 rfl (by decide) rfl rfl ?_
  refine V_iconst (v := 0) C0 dL_bits_2 (by decide) rfl ?_
  refine V_istore_n (lv' := [(2, .int 0), (1, .int 0), (0, .int x0)]) C0 dL_bits_3 rfl (by decide) rfl rfl ?_
  have hL4 : ∀ (K : Int32 → Option (Int32)), (∀ (x1 : Int32), K x1 = some o → V p l e RM_L_bits s m ([.int x0] : List Value).toArray below meth c 3 (dC, dI) A (MQ below (va_Qi (fun r (_ : Unit) => r = o) (PostW (dC, dI) (TY cI cJ cZ cO) A (fun _ => ([] : va_W))) A) ([.int x0] : List Value).toArray s 0 0 A) 0 0 ([] : va_W) 24 [(1, .int x1)] []) → ∀ (n : Nat) (x1 : Int32) (x2 : Int32), f_L_bits_L4 N x0  K n x1 x2 = some o → V p l e RM_L_bits s m ([.int x0] : List Value).toArray below meth c 3 (dC, dI) A (MQ below (va_Qi (fun r (_ : Unit) => r = o) (PostW (dC, dI) (TY cI cJ cZ cO) A (fun _ => ([] : va_W))) A) ([.int x0] : List Value).toArray s 0 0 A) 0 0 ([] : va_W) 4 [(0, .int x0), (1, .int x1), (2, .int x2)] [] := by
    intro  K hK n
    induction n with
    | zero => intro x1 x2 hf; cases hf
    | succ n hREC =>
      intro x1 x2 hf
      rw [f_L_bits_L4] at hf
      refine V_iload_n C0 dL_bits_4 2 rfl rfl ?_
      refine V_bipush (v := 8) C0 dL_bits_5 (by decide) rfl ?_
      refine V_icmp_ge (tgt := 24) C0 dL_bits_7 (by decide) rfl (fun c7 => ?_) (fun c7 => ?_)
      · have hf := ite_t c7 hf
        exact V.sub [1] rfl (hK x1 hf)
      · have hf := ite_f c7 hf
        refine V_iload_n C0 dL_bits_10 1 rfl rfl ?_
        refine V_iload_n C0 dL_bits_11 0 rfl rfl ?_
        refine V_iload_n C0 dL_bits_12 2 rfl rfl ?_
        refine V_ishr C0 dL_bits_13 rfl ?_
        refine V_iconst (v := 1) C0 dL_bits_14 (by decide) rfl ?_
        refine V_iand C0 dL_bits_15 rfl ?_
        refine V_iadd C0 dL_bits_16 rfl ?_
        refine V_topi (fun x1_1 ex1_1 => ?_)
        have hf := bd_inv ex1_1 hf
        refine V_istore_n (lv' := [(1, .int x1_1), (0, .int x0), (2, .int x2)]) C0 dL_bits_17 rfl (by decide) rfl rfl ?_
        refine V_iinc (k := 2) (v := x2 + 1) (lv' := [(2, .int (x2 + 1)), (1, .int x1_1), (0, .int x0)]) C0 dL_bits_18 rfl rfl (by decide) rfl rfl ?_
        refine V_goto (tgt := 4) C0 dL_bits_21 (by decide) ?_
        exact V.sub [2, 1, 0] rfl (hREC x1_1 (x2 + 1) hf)
  refine V.sub [2, 1, 0] rfl (hL4  _ ?_ N 0 0 hf)
  intro x1_4 hf
  refine V_iload_n C0 dL_bits_24 0 rfl rfl ?_
  obtain rfl := some_inv hf
  exact V_iret C0 () rfl rfl dL_bits_25
abbrev RM_L_best : Room := { frames := 3, cells := 0, slots := 0, locals := 76 }
set_option maxRecDepth 100000 in
set_option maxHeartbeats 4000000 in
theorem c_L_best (l : Launch) (dC : Nat → ClassId) (dI : Nat → Nat → Nat) (cI cJ cZ cO : ClassId) (ara : Nat → Nat) (arb : Nat → Nat) (N : Nat) (ra : (Nat → Int32)) (rb : (Nat → Int32)) (x0 : Int32) (o : Int32) (hf : f_L_best N ra rb x0 = some o) : MetI l yL_best wsL_best RM_L_best (dC, dI) (TY cI cJ cZ cO) [.int x0, .ref (ara 0), .ref (arb 0)] (W_RI cI cJ cZ cO ara 2 ra ++ (W_RI cI cJ cZ cO arb 16 rb)) (fun r (_ : Unit) => r = o) (fun _ => (W_RI cI cJ cZ cO ara 2 ra ++ (W_RI cI cJ cZ cO arb 16 rb))) := by
  refine MetI.ofV (cc := cL_best) (maxL := 12) (ret := (some .int)) (own := RL) (lv0 := [(0, .int x0), (1, .ref (ara 0)), (2, .ref (arb 0))]) (by decide) rfl rfl (Nat.le_of_ble_eq_true rfl) rfl ?_
  intro p e s m below meth c A C0 _
  unfold f_L_best at hf
  refine V_iconst (v := (-1)) C0 dL_best_0 (by decide) rfl ?_
  refine V_istore_n (lv' := [(3, .int ((-1))), (0, .int x0), (1, .ref (ara 0)), (2, .ref (arb 0))]) C0 dL_best_1 rfl (by decide) rfl rfl ?_
  refine V_lconst (v := 0) C0 dL_best_2 (by decide) rfl ?_
  refine V_lstore (lv' := [(4, .long 0), (3, .int ((-1))), (0, .int x0), (1, .ref (ara 0)), (2, .ref (arb 0))]) C0 dL_best_3 (by decide) rfl rfl ?_
  refine V_iconst (v := 0) C0 dL_best_5 (by decide) rfl ?_
  refine V_istore (lv' := [(6, .int 0), (4, .long 0), (3, .int ((-1))), (0, .int x0), (1, .ref (ara 0)), (2, .ref (arb 0))]) C0 dL_best_6 (by decide) rfl rfl ?_
  have hL8 : ∀ (K : Int32 → Option (Int32)), (∀ (x3 : Int32), K x3 = some o → V p l e RM_L_best s m ([.int x0, .ref (ara 0), .ref (arb 0)] : List Value).toArray below meth c 12 (dC, dI) A (MQ below (va_Qi (fun r (_ : Unit) => r = o) (PostW (dC, dI) (TY cI cJ cZ cO) A (fun _ => (W_RI cI cJ cZ cO ara 2 ra ++ (W_RI cI cJ cZ cO arb 16 rb)))) A) ([.int x0, .ref (ara 0), .ref (arb 0)] : List Value).toArray s 0 0 A) 0 0 (W_RI cI cJ cZ cO ara 2 ra ++ (W_RI cI cJ cZ cO arb 16 rb)) 144 [(3, .int x3)] []) → ∀ (n : Nat) (x3 : Int32) (x4 : Int64) (x6 : Int32), f_L_best_L8 N ra rb x0  K n x3 x4 x6 = some o → V p l e RM_L_best s m ([.int x0, .ref (ara 0), .ref (arb 0)] : List Value).toArray below meth c 12 (dC, dI) A (MQ below (va_Qi (fun r (_ : Unit) => r = o) (PostW (dC, dI) (TY cI cJ cZ cO) A (fun _ => (W_RI cI cJ cZ cO ara 2 ra ++ (W_RI cI cJ cZ cO arb 16 rb)))) A) ([.int x0, .ref (ara 0), .ref (arb 0)] : List Value).toArray s 0 0 A) 0 0 (W_RI cI cJ cZ cO ara 2 ra ++ (W_RI cI cJ cZ cO arb 16 rb)) 8 [(0, .int x0), (1, .ref (ara 0)), (2, .ref (arb 0)), (3, .int x3), (4, .long x4), (6, .int x6)] [] := by
    intro  K hK n
    induction n with
    | zero => intro x3 x4 x6 hf; cases hf
    | succ n hREC =>
      intro x3 x4 x6 hf
      rw [f_L_best_L8] at hf
      refine V_iload C0 dL_best_8 5 rfl rfl ?_
      refine V_iconst (v := 1) C0 dL_best_10 (by decide) rfl ?_
      refine V_iload_n C0 dL_best_11 0 rfl rfl ?_
      obtain ⟨r_12, hc_12, hf⟩ := bind_inv hf
      refine V_cSI (ws' := (W_RI cI cJ cZ cO ara 2 ra ++ (W_RI cI cJ cZ cO arb 16 rb))) (As := [.int x0]) (st := [.int 1, .int x6]) C0 (c_L_size l dC dI cI cJ cZ cO  N  x0 r_12 hc_12) rfl 1 gL_best_L_size (by decide +kernel) ⟨Nat.le_of_ble_eq_true rfl, Nat.le_of_ble_eq_true rfl⟩ rfl  ⟨_, (pr pr1), fun _ => (pr pr1)⟩ rfl (Nat.le_of_ble_eq_true rfl) dL_best_12 rfl ⟨Nat.zero_le _, Nat.zero_le _⟩ ?_
      refine V_iconst (v := 1) C0 dL_best_15 (by decide) rfl ?_
      refine V_isub C0 dL_best_16 rfl ?_
      refine V_ishl C0 dL_best_17 rfl ?_
      refine V_icmp_ge (tgt := 144) C0 dL_best_18 (by decide) rfl (fun c18 => ?_) (fun c18 => ?_)
      · have hf := ite_t c18 hf
        exact V.sub [3] rfl (hK x3 hf)
      · have hf := ite_f c18 hf
        refine V_iload_n C0 dL_best_21 0 rfl rfl ?_
        refine V_iload C0 dL_best_22 5 rfl rfl ?_
        refine V_aload_n C0 dL_best_24 1 rfl rfl ?_
        refine V_aload_n C0 dL_best_25 2 rfl rfl ?_
        obtain ⟨r_26, hc_26, hf⟩ := bind_inv hf
        refine V_cSL (ws' := (W_RI cI cJ cZ cO ara 2 ra ++ (W_RI cI cJ cZ cO arb 16 rb))) (As := [.int x0, .int x6, .ref (ara 0), .ref (arb 0)]) (st := []) C0 (c_L_product l dC dI cI cJ cZ cO ara arb N ra rb x0 x6 r_26 hc_26) rfl 4 gL_best_L_product (by decide +kernel) ⟨Nat.le_of_ble_eq_true rfl, Nat.le_of_ble_eq_true rfl⟩ rfl  Cut.all rfl (Nat.le_of_ble_eq_true rfl) dL_best_26 rfl ⟨Nat.zero_le _, Nat.zero_le _⟩ ?_
        refine V_lstore (lv' := [(7, .long r_26), (0, .int x0), (1, .ref (ara 0)), (2, .ref (arb 0)), (3, .int x3), (4, .long x4), (6, .int x6)]) C0 dL_best_29 (by decide) rfl rfl ?_
        refine V_lload C0 dL_best_31 0 rfl rfl ?_
        refine V_lload C0 dL_best_33 5 rfl rfl ?_
        refine V_lcmp C0 dL_best_35 rfl ?_
        refine jn_elim hf (fun (J : Int32 → Option (Int32)) => ∀ (s0_44 : Int32), J s0_44 = some o → V p l e RM_L_best s m ([.int x0, .ref (ara 0), .ref (arb 0)] : List Value).toArray below meth c 12 (dC, dI) A (MQ below (va_Qi (fun r (_ : Unit) => r = o) (PostW (dC, dI) (TY cI cJ cZ cO) A (fun _ => (W_RI cI cJ cZ cO ara 2 ra ++ (W_RI cI cJ cZ cO arb 16 rb)))) A) ([.int x0, .ref (ara 0), .ref (arb 0)] : List Value).toArray s 0 0 A) 0 0 (W_RI cI cJ cZ cO ara 2 ra ++ (W_RI cI cJ cZ cO arb 16 rb)) 44 [(0, .int x0), (1, .ref (ara 0)), (2, .ref (arb 0)), (3, .int x3), (4, .long x4), (6, .int x6), (7, .long r_26)] [.int s0_44]) ?_ ?_
        · intro s0_44 hf
          refine V_istore (lv' := [(9, .int s0_44), (0, .int x0), (1, .ref (ara 0)), (2, .ref (arb 0)), (3, .int x3), (4, .long x4), (6, .int x6), (7, .long r_26)]) C0 dL_best_44 (by decide) rfl rfl ?_
          refine V_iload_n C0 dL_best_46 4 rfl rfl ?_
          refine jn_elim hf (fun (J : Int32 → Option (Int32)) => ∀ (x9_112 : Int32), J x9_112 = some o → V p l e RM_L_best s m ([.int x0, .ref (ara 0), .ref (arb 0)] : List Value).toArray below meth c 12 (dC, dI) A (MQ below (va_Qi (fun r (_ : Unit) => r = o) (PostW (dC, dI) (TY cI cJ cZ cO) A (fun _ => (W_RI cI cJ cZ cO ara 2 ra ++ (W_RI cI cJ cZ cO arb 16 rb)))) A) ([.int x0, .ref (ara 0), .ref (arb 0)] : List Value).toArray s 0 0 A) 0 0 (W_RI cI cJ cZ cO ara 2 ra ++ (W_RI cI cJ cZ cO arb 16 rb)) 112 [(0, .int x0), (1, .ref (ara 0)), (2, .ref (arb 0)), (3, .int x3), (4, .long x4), (6, .int x6), (7, .long r_26), (9, .int x9_112)] []) ?_ ?_
          · intro x9_112 hf
            refine V_iload C0 dL_best_112 7 rfl rfl ?_
            refine jn_elim hf (fun (J : Int32 → Option (Int32)) => ∀ (s0_123 : Int32), J s0_123 = some o → V p l e RM_L_best s m ([.int x0, .ref (ara 0), .ref (arb 0)] : List Value).toArray below meth c 12 (dC, dI) A (MQ below (va_Qi (fun r (_ : Unit) => r = o) (PostW (dC, dI) (TY cI cJ cZ cO) A (fun _ => (W_RI cI cJ cZ cO ara 2 ra ++ (W_RI cI cJ cZ cO arb 16 rb)))) A) ([.int x0, .ref (ara 0), .ref (arb 0)] : List Value).toArray s 0 0 A) 0 0 (W_RI cI cJ cZ cO ara 2 ra ++ (W_RI cI cJ cZ cO arb 16 rb)) 123 [(0, .int x0), (1, .ref (ara 0)), (2, .ref (arb 0)), (4, .long x4), (6, .int x6), (7, .long r_26), (9, .int x9_112)] [.int s0_123]) ?_ ?_
            · intro s0_123 hf
              refine V_istore_n (lv' := [(3, .int s0_123), (0, .int x0), (1, .ref (ara 0)), (2, .ref (arb 0)), (4, .long x4), (6, .int x6), (7, .long r_26), (9, .int x9_112)]) C0 dL_best_123 rfl (by decide) rfl rfl ?_
              refine V_iload C0 dL_best_124 7 rfl rfl ?_
              refine V_if_eq (tgt := 134) C0 dL_best_126 (by decide) rfl (fun c126 => ?_) (fun c126 => ?_)
              · have hf := ite_t c126 hf
                refine V_lload C0 dL_best_134 4 rfl rfl ?_
                refine V_lstore (lv' := [(4, .long x4), (3, .int s0_123), (0, .int x0), (1, .ref (ara 0)), (2, .ref (arb 0)), (6, .int x6), (7, .long r_26), (9, .int x9_112)]) C0 dL_best_136 (by decide) rfl rfl ?_
                refine V_iinc (k := 5) (v := x6 + 1) (lv' := [(6, .int (x6 + 1)), (4, .long x4), (3, .int s0_123), (0, .int x0), (1, .ref (ara 0)), (2, .ref (arb 0)), (7, .long r_26), (9, .int x9_112)]) C0 dL_best_138 rfl rfl (by decide) rfl rfl ?_
                refine V_goto (tgt := 8) C0 dL_best_141 (by decide) ?_
                exact V.sub [3, 4, 5, 2, 1, 0] rfl (hREC s0_123 x4 (x6 + 1) hf)
              · have hf := ite_f c126 hf
                refine V_lload C0 dL_best_129 6 rfl rfl ?_
                refine V_goto (tgt := 136) C0 dL_best_131 (by decide) ?_
                refine V_lstore (lv' := [(4, .long r_26), (3, .int s0_123), (0, .int x0), (1, .ref (ara 0)), (2, .ref (arb 0)), (6, .int x6), (7, .long r_26), (9, .int x9_112)]) C0 dL_best_136 (by decide) rfl rfl ?_
                refine V_iinc (k := 5) (v := x6 + 1) (lv' := [(6, .int (x6 + 1)), (4, .long r_26), (3, .int s0_123), (0, .int x0), (1, .ref (ara 0)), (2, .ref (arb 0)), (7, .long r_26), (9, .int x9_112)]) C0 dL_best_138 rfl rfl (by decide) rfl rfl ?_
                refine V_goto (tgt := 8) C0 dL_best_141 (by decide) ?_
                exact V.sub [3, 4, 5, 2, 1, 0] rfl (hREC s0_123 r_26 (x6 + 1) hf)
            · intro J123 hJ123 hf
              refine V_if_eq (tgt := 122) C0 dL_best_114 (by decide) rfl (fun c114 => ?_) (fun c114 => ?_)
              · have hf := ite_t c114 hf
                refine V_iload_n C0 dL_best_122 3 rfl rfl ?_
                exact V.sub [0, 1, 2, 4, 5, 6, 7] rfl (hJ123 x3 hf)
              · have hf := ite_f c114 hf
                refine V_iload C0 dL_best_117 5 rfl rfl ?_
                refine V_goto (tgt := 123) C0 dL_best_119 (by decide) ?_
                exact V.sub [0, 1, 2, 4, 5, 6, 7] rfl (hJ123 x6 hf)
          · intro J112 hJ112 hf
            refine V_if_lt (tgt := 112) C0 dL_best_47 (by decide) rfl (fun c47 => ?_) (fun c47 => ?_)
            · have hf := ite_t c47 hf
              exact V.sub [1, 2, 3, 4, 5, 6, 7, 0] rfl (hJ112 s0_44 hf)
            · have hf := ite_f c47 hf
              refine V_lload C0 dL_best_50 7 rfl rfl ?_
              refine V_lload C0 dL_best_52 5 rfl rfl ?_
              refine V_lcmp C0 dL_best_54 rfl ?_
              refine V_if_ne (tgt := 112) C0 dL_best_55 (by decide) rfl (fun c55 => ?_) (fun c55 => ?_)
              · have hf := ite_f c55 hf
                exact V.sub [1, 2, 3, 4, 5, 6, 7, 0] rfl (hJ112 s0_44 hf)
              · have hf := ite_t c55 hf
                refine V_lload C0 dL_best_58 7 rfl rfl ?_
                refine V_lconst (v := 0) C0 dL_best_60 (by decide) rfl ?_
                refine V_lcmp C0 dL_best_61 rfl ?_
                refine V_if_le (tgt := 112) C0 dL_best_62 (by decide) rfl (fun c62 => ?_) (fun c62 => ?_)
                · have hf := ite_t c62 hf
                  exact V.sub [1, 2, 3, 4, 5, 6, 7, 0] rfl (hJ112 s0_44 hf)
                · have hf := ite_f c62 hf
                  refine V_iload C0 dL_best_65 6 rfl rfl ?_
                  obtain ⟨r_67, hc_67, hf⟩ := bind_inv hf
                  refine V_cSI (ws' := (W_RI cI cJ cZ cO ara 2 ra ++ (W_RI cI cJ cZ cO arb 16 rb))) (As := [.int x6]) (st := []) C0 (c_L_bits l dC dI cI cJ cZ cO  N  x6 r_67 hc_67) rfl 1 gL_best_L_bits (by decide +kernel) ⟨Nat.le_of_ble_eq_true rfl, Nat.le_of_ble_eq_true rfl⟩ rfl  ⟨_, (pr pr1), fun _ => (pr pr1)⟩ rfl (Nat.le_of_ble_eq_true rfl) dL_best_67 rfl ⟨Nat.zero_le _, Nat.zero_le _⟩ ?_
                  refine V_iload_n C0 dL_best_70 4 rfl rfl ?_
                  obtain ⟨r_71, hc_71, hf⟩ := bind_inv hf
                  refine V_cSI (ws' := (W_RI cI cJ cZ cO ara 2 ra ++ (W_RI cI cJ cZ cO arb 16 rb))) (As := [.int x3]) (st := [.int r_67]) C0 (c_L_bits l dC dI cI cJ cZ cO  N  x3 r_71 hc_71) rfl 1 gL_best_L_bits (by decide +kernel) ⟨Nat.le_of_ble_eq_true rfl, Nat.le_of_ble_eq_true rfl⟩ rfl  ⟨_, (pr pr1), fun _ => (pr pr1)⟩ rfl (Nat.le_of_ble_eq_true rfl) dL_best_71 rfl ⟨Nat.zero_le _, Nat.zero_le _⟩ ?_
                  refine V_isub C0 dL_best_74 rfl ?_
                  refine V_topi (fun x10_1 ex10_1 => ?_)
                  have hf := bd_inv ex10_1 hf
                  refine V_istore (lv' := [(10, .int x10_1), (9, .int s0_44), (0, .int x0), (1, .ref (ara 0)), (2, .ref (arb 0)), (3, .int x3), (4, .long x4), (6, .int x6), (7, .long r_26)]) C0 dL_best_75 (by decide) rfl rfl ?_
                  refine V_iload C0 dL_best_77 7 rfl rfl ?_
                  refine V_iload_n C0 dL_best_79 5 rfl rfl ?_
                  refine V_ixor C0 dL_best_80 rfl ?_
                  refine V_topi (fun x11_2 ex11_2 => ?_)
                  have hf := bd_inv ex11_2 hf
                  refine V_istore (lv' := [(11, .int x11_2), (10, .int x10_1), (9, .int s0_44), (0, .int x0), (1, .ref (ara 0)), (2, .ref (arb 0)), (3, .int x3), (4, .long x4), (6, .int x6), (7, .long r_26)]) C0 dL_best_81 (by decide) rfl rfl ?_
                  refine V_iload C0 dL_best_83 1 rfl rfl ?_
                  refine V_if_lt (tgt := 105) C0 dL_best_85 (by decide) rfl (fun c85 => ?_) (fun c85 => ?_)
                  · have hf := ite_t c85 hf
                    refine V_iconst (v := 1) C0 dL_best_105 (by decide) rfl ?_
                    refine V_goto (tgt := 110) C0 dL_best_106 (by decide) ?_
                    refine V_istore (lv' := [(9, .int 1), (11, .int x11_2), (10, .int x10_1), (0, .int x0), (1, .ref (ara 0)), (2, .ref (arb 0)), (3, .int x3), (4, .long x4), (6, .int x6), (7, .long r_26)]) C0 dL_best_110 (by decide) rfl rfl ?_
                    exact V.sub [3, 4, 5, 6, 7, 8, 9, 0] rfl (hJ112 1 hf)
                  · have hf := ite_f c85 hf
                    refine V_iload C0 dL_best_88 1 rfl rfl ?_
                    refine V_if_ne (tgt := 109) C0 dL_best_90 (by decide) rfl (fun c90 => ?_) (fun c90 => ?_)
                    · have hf := ite_f c90 hf
                      refine V_iconst (v := 0) C0 dL_best_109 (by decide) rfl ?_
                      refine V_istore (lv' := [(9, .int 0), (11, .int x11_2), (10, .int x10_1), (0, .int x0), (1, .ref (ara 0)), (2, .ref (arb 0)), (3, .int x3), (4, .long x4), (6, .int x6), (7, .long r_26)]) C0 dL_best_110 (by decide) rfl rfl ?_
                      exact V.sub [3, 4, 5, 6, 7, 8, 9, 0] rfl (hJ112 0 hf)
                    · have hf := ite_t c90 hf
                      refine V_iload C0 dL_best_93 8 rfl rfl ?_
                      refine V_iload C0 dL_best_95 0 rfl rfl ?_
                      refine V_iand C0 dL_best_97 rfl ?_
                      refine V_iload C0 dL_best_98 0 rfl rfl ?_
                      refine V_ineg C0 dL_best_100 rfl ?_
                      refine V_iand C0 dL_best_101 rfl ?_
                      refine V_if_ne (tgt := 109) C0 dL_best_102 (by decide) rfl (fun c102 => ?_) (fun c102 => ?_)
                      · have hf := ite_f c102 hf
                        refine V_iconst (v := 0) C0 dL_best_109 (by decide) rfl ?_
                        refine V_istore (lv' := [(9, .int 0), (11, .int x11_2), (10, .int x10_1), (0, .int x0), (1, .ref (ara 0)), (2, .ref (arb 0)), (3, .int x3), (4, .long x4), (6, .int x6), (7, .long r_26)]) C0 dL_best_110 (by decide) rfl rfl ?_
                        exact V.sub [3, 4, 5, 6, 7, 8, 9, 0] rfl (hJ112 0 hf)
                      · have hf := ite_t c102 hf
                        refine V_iconst (v := 1) C0 dL_best_105 (by decide) rfl ?_
                        refine V_goto (tgt := 110) C0 dL_best_106 (by decide) ?_
                        refine V_istore (lv' := [(9, .int 1), (11, .int x11_2), (10, .int x10_1), (0, .int x0), (1, .ref (ara 0)), (2, .ref (arb 0)), (3, .int x3), (4, .long x4), (6, .int x6), (7, .long r_26)]) C0 dL_best_110 (by decide) rfl rfl ?_
                        exact V.sub [3, 4, 5, 6, 7, 8, 9, 0] rfl (hJ112 1 hf)
        · intro J44 hJ44 hf
          refine V_if_le (tgt := 43) C0 dL_best_36 (by decide) rfl (fun c36 => ?_) (fun c36 => ?_)
          · have hf := ite_t c36 hf
            refine V_iconst (v := 0) C0 dL_best_43 (by decide) rfl ?_
            exact V.sub [1, 2, 3, 4, 5, 6, 0] rfl (hJ44 0 hf)
          · have hf := ite_f c36 hf
            refine V_iconst (v := 1) C0 dL_best_39 (by decide) rfl ?_
            refine V_goto (tgt := 44) C0 dL_best_40 (by decide) ?_
            exact V.sub [1, 2, 3, 4, 5, 6, 0] rfl (hJ44 1 hf)
  refine V.sub [3, 4, 5, 2, 1, 0] rfl (hL8  _ ?_ N ((-1)) 0 0 hf)
  intro x3_8 hf
  refine V_iload_n C0 dL_best_144 0 rfl rfl ?_
  obtain rfl := some_inv hf
  exact V_iret C0 () rfl rfl dL_best_145
abbrev RM_L_unseen : Room := { frames := 2, cells := 0, slots := 0, locals := 47 }
set_option maxRecDepth 100000 in
set_option maxHeartbeats 4000000 in
theorem c_L_unseen (l : Launch) (dC : Nat → ClassId) (dI : Nat → Nat → Nat) (cI cJ cZ cO : ClassId) (ara : Nat → Nat) (arb : Nat → Nat) (N : Nat) (ra : (Nat → Int32)) (rb : (Nat → Int32)) (x0 : Int32) (x1 : Int32) (o : Int32) (hf : f_L_unseen N ra rb x0 x1 = some o) : MetI l yL_unseen wsL_unseen RM_L_unseen (dC, dI) (TY cI cJ cZ cO) [.int x0, .int x1, .ref (ara 0), .ref (arb 0)] (W_RI cI cJ cZ cO ara 2 ra ++ (W_RI cI cJ cZ cO arb 16 rb)) (fun r (_ : Unit) => r = o) (fun _ => (W_RI cI cJ cZ cO ara 2 ra ++ (W_RI cI cJ cZ cO arb 16 rb))) := by
  refine MetI.ofV (cc := cL_unseen) (maxL := 7) (ret := (some .int)) (own := RL) (lv0 := [(0, .int x0), (1, .int x1), (2, .ref (ara 0)), (3, .ref (arb 0))]) (by decide) rfl rfl (Nat.le_of_ble_eq_true rfl) rfl ?_
  intro p e s m below meth c A C0 _
  unfold f_L_unseen at hf
  refine V_iload_n C0 dL_unseen_0 0 rfl rfl ?_
  obtain ⟨r_1, hc_1, hf⟩ := bind_inv hf
  refine V_cSI (ws' := (W_RI cI cJ cZ cO ara 2 ra ++ (W_RI cI cJ cZ cO arb 16 rb))) (As := [.int x0]) (st := []) C0 (c_L_size l dC dI cI cJ cZ cO  N  x0 r_1 hc_1) rfl 1 gL_unseen_L_size (by decide +kernel) ⟨Nat.le_of_ble_eq_true rfl, Nat.le_of_ble_eq_true rfl⟩ rfl  ⟨_, (pr pr1), fun _ => (pr pr1)⟩ rfl (Nat.le_of_ble_eq_true rfl) dL_unseen_1 rfl ⟨Nat.zero_le _, Nat.zero_le _⟩ ?_
  refine V_istore (lv' := [(4, .int r_1), (0, .int x0), (1, .int x1), (2, .ref (ara 0)), (3, .ref (arb 0))]) C0 dL_unseen_4 (by decide) rfl rfl ?_
  refine V_iconst (v := 0) C0 dL_unseen_6 (by decide) rfl ?_
  refine V_istore (lv' := [(5, .int 0), (4, .int r_1), (0, .int x0), (1, .int x1), (2, .ref (ara 0)), (3, .ref (arb 0))]) C0 dL_unseen_7 (by decide) rfl rfl ?_
  refine V_iconst (v := 0) C0 dL_unseen_9 (by decide) rfl ?_
  refine V_istore (lv' := [(6, .int 0), (5, .int 0), (4, .int r_1), (0, .int x0), (1, .int x1), (2, .ref (ara 0)), (3, .ref (arb 0))]) C0 dL_unseen_10 (by decide) rfl rfl ?_
  have hL12 : ∀ (x4 : Int32) (K : Int32 → Option (Int32)), (∀ (x5 : Int32), K x5 = some o → V p l e RM_L_unseen s m ([.int x0, .int x1, .ref (ara 0), .ref (arb 0)] : List Value).toArray below meth c 7 (dC, dI) A (MQ below (va_Qi (fun r (_ : Unit) => r = o) (PostW (dC, dI) (TY cI cJ cZ cO) A (fun _ => (W_RI cI cJ cZ cO ara 2 ra ++ (W_RI cI cJ cZ cO arb 16 rb)))) A) ([.int x0, .int x1, .ref (ara 0), .ref (arb 0)] : List Value).toArray s 0 0 A) 0 0 (W_RI cI cJ cZ cO ara 2 ra ++ (W_RI cI cJ cZ cO arb 16 rb)) 67 [(5, .int x5)] []) → ∀ (n : Nat) (x5 : Int32) (x6 : Int32), f_L_unseen_L12 N ra rb x0 x1 x4 K n x5 x6 = some o → V p l e RM_L_unseen s m ([.int x0, .int x1, .ref (ara 0), .ref (arb 0)] : List Value).toArray below meth c 7 (dC, dI) A (MQ below (va_Qi (fun r (_ : Unit) => r = o) (PostW (dC, dI) (TY cI cJ cZ cO) A (fun _ => (W_RI cI cJ cZ cO ara 2 ra ++ (W_RI cI cJ cZ cO arb 16 rb)))) A) ([.int x0, .int x1, .ref (ara 0), .ref (arb 0)] : List Value).toArray s 0 0 A) 0 0 (W_RI cI cJ cZ cO ara 2 ra ++ (W_RI cI cJ cZ cO arb 16 rb)) 12 [(0, .int x0), (1, .int x1), (2, .ref (ara 0)), (3, .ref (arb 0)), (4, .int x4), (5, .int x5), (6, .int x6)] [] := by
    intro x4 K hK n
    induction n with
    | zero => intro x5 x6 hf; cases hf
    | succ n hREC =>
      intro x5 x6 hf
      rw [f_L_unseen_L12] at hf
      refine V_iload C0 dL_unseen_12 6 rfl rfl ?_
      refine V_iload C0 dL_unseen_14 4 rfl rfl ?_
      refine V_icmp_ge (tgt := 67) C0 dL_unseen_16 (by decide) rfl (fun c16 => ?_) (fun c16 => ?_)
      · have hf := ite_t c16 hf
        exact V.sub [5] rfl (hK x5 hf)
      · have hf := ite_f c16 hf
        refine V_iload C0 dL_unseen_19 5 rfl rfl ?_
        refine V_iload_n C0 dL_unseen_21 0 rfl rfl ?_
        refine V_iload C0 dL_unseen_22 6 rfl rfl ?_
        refine V_iload C0 dL_unseen_24 4 rfl rfl ?_
        refine V_iload_n C0 dL_unseen_26 1 rfl rfl ?_
        refine V_iload C0 dL_unseen_27 6 rfl rfl ?_
        obtain ⟨r_29, hc_29, hf⟩ := bind_inv hf
        refine V_cSI (ws' := (W_RI cI cJ cZ cO ara 2 ra ++ (W_RI cI cJ cZ cO arb 16 rb))) (As := [.int x4, .int x1, .int x6]) (st := [.int x6, .int x0, .int x5]) C0 (c_L_reaches l dC dI cI cJ cZ cO  N  x4 x1 x6 r_29 hc_29) rfl 3 gL_unseen_L_reaches (by decide +kernel) ⟨Nat.le_of_ble_eq_true rfl, Nat.le_of_ble_eq_true rfl⟩ rfl  ⟨_, (pr pr1), fun _ => (pr pr1)⟩ rfl (Nat.le_of_ble_eq_true rfl) dL_unseen_29 rfl ⟨Nat.zero_le _, Nat.zero_le _⟩ ?_
        obtain ⟨r_32, hc_32, hf⟩ := bind_inv hf
        refine V_cSI (ws' := (W_RI cI cJ cZ cO ara 2 ra ++ (W_RI cI cJ cZ cO arb 16 rb))) (As := [.int x0, .int x6, .int r_29]) (st := [.int x5]) C0 (c_L_some l dC dI cI cJ cZ cO  N  x0 x6 r_29 r_32 hc_32) rfl 3 gL_unseen_L_some (by decide +kernel) ⟨Nat.le_of_ble_eq_true rfl, Nat.le_of_ble_eq_true rfl⟩ rfl  ⟨_, (pr pr1), fun _ => (pr pr1)⟩ rfl (Nat.le_of_ble_eq_true rfl) dL_unseen_32 rfl ⟨Nat.zero_le _, Nat.zero_le _⟩ ?_
        refine V_aload_n C0 dL_unseen_35 2 rfl rfl ?_
        refine V_aload_n C0 dL_unseen_36 3 rfl rfl ?_
        obtain ⟨r_37, hc_37, hf⟩ := bind_inv hf
        refine V_cSI (ws' := (W_RI cI cJ cZ cO ara 2 ra ++ (W_RI cI cJ cZ cO arb 16 rb))) (As := [.int r_32, .ref (ara 0), .ref (arb 0)]) (st := [.int x5]) C0 (c_L_piece l dC dI cI cJ cZ cO ara arb N ra rb r_32 r_37 hc_37) rfl 3 gL_unseen_L_piece (by decide +kernel) ⟨Nat.le_of_ble_eq_true rfl, Nat.le_of_ble_eq_true rfl⟩ rfl  Cut.all rfl (Nat.le_of_ble_eq_true rfl) dL_unseen_37 rfl ⟨Nat.zero_le _, Nat.zero_le _⟩ ?_
        refine jn_elim hf (fun (J : Int32 → Option (Int32)) => ∀ (s1_48 : Int32), J s1_48 = some o → V p l e RM_L_unseen s m ([.int x0, .int x1, .ref (ara 0), .ref (arb 0)] : List Value).toArray below meth c 7 (dC, dI) A (MQ below (va_Qi (fun r (_ : Unit) => r = o) (PostW (dC, dI) (TY cI cJ cZ cO) A (fun _ => (W_RI cI cJ cZ cO ara 2 ra ++ (W_RI cI cJ cZ cO arb 16 rb)))) A) ([.int x0, .int x1, .ref (ara 0), .ref (arb 0)] : List Value).toArray s 0 0 A) 0 0 (W_RI cI cJ cZ cO ara 2 ra ++ (W_RI cI cJ cZ cO arb 16 rb)) 48 [(0, .int x0), (1, .int x1), (2, .ref (ara 0)), (3, .ref (arb 0)), (4, .int x4), (6, .int x6)] [.int s1_48, .int x5]) ?_ ?_
        · intro s1_48 hf
          refine V_iadd C0 dL_unseen_48 rfl ?_
          refine V_topi (fun x5_1 ex5_1 => ?_)
          have hf := bd_inv ex5_1 hf
          refine V_istore (lv' := [(5, .int x5_1), (0, .int x0), (1, .int x1), (2, .ref (ara 0)), (3, .ref (arb 0)), (4, .int x4), (6, .int x6)]) C0 dL_unseen_49 (by decide) rfl rfl ?_
          refine V_iload C0 dL_unseen_51 6 rfl rfl ?_
          refine V_iload C0 dL_unseen_53 5 rfl rfl ?_
          refine V_iload_n C0 dL_unseen_55 2 rfl rfl ?_
          refine V_iload C0 dL_unseen_56 6 rfl rfl ?_
          obtain ⟨r_58, hc_58, hf⟩ := bind_inv hf
          refine V_cSI (ws' := (W_RI cI cJ cZ cO ara 2 ra ++ (W_RI cI cJ cZ cO arb 16 rb))) (As := [.int x4, .int x1, .int x6]) (st := [.int x6]) C0 (c_L_reaches l dC dI cI cJ cZ cO  N  x4 x1 x6 r_58 hc_58) rfl 3 gL_unseen_L_reaches (by decide +kernel) ⟨Nat.le_of_ble_eq_true rfl, Nat.le_of_ble_eq_true rfl⟩ rfl  ⟨_, (pr pr1), fun _ => (pr pr1)⟩ rfl (Nat.le_of_ble_eq_true rfl) dL_unseen_58 rfl ⟨Nat.zero_le _, Nat.zero_le _⟩ ?_
          refine V_iadd C0 dL_unseen_61 rfl ?_
          refine V_topi (fun x6_2 ex6_2 => ?_)
          have hf := bd_inv ex6_2 hf
          refine V_istore (lv' := [(6, .int x6_2), (5, .int x5_1), (0, .int x0), (1, .int x1), (2, .ref (ara 0)), (3, .ref (arb 0)), (4, .int x4)]) C0 dL_unseen_62 (by decide) rfl rfl ?_
          refine V_goto (tgt := 12) C0 dL_unseen_64 (by decide) ?_
          exact V.sub [2, 3, 4, 5, 6, 1, 0] rfl (hREC x5_1 x6_2 hf)
        · intro J48 hJ48 hf
          refine V_if_ge (tgt := 47) C0 dL_unseen_40 (by decide) rfl (fun c40 => ?_) (fun c40 => ?_)
          · have hf := ite_t c40 hf
            refine V_iconst (v := 0) C0 dL_unseen_47 (by decide) rfl ?_
            exact V.sub [0, 1, 2, 3, 4, 6] rfl (hJ48 0 hf)
          · have hf := ite_f c40 hf
            refine V_iconst (v := 1) C0 dL_unseen_43 (by decide) rfl ?_
            refine V_goto (tgt := 48) C0 dL_unseen_44 (by decide) ?_
            exact V.sub [0, 1, 2, 3, 4, 6] rfl (hJ48 1 hf)
  refine V.sub [3, 4, 5, 6, 2, 1, 0] rfl (hL12 r_1 _ ?_ N 0 0 hf)
  intro x5_12 hf
  refine V_iload C0 dL_unseen_67 0 rfl rfl ?_
  obtain rfl := some_inv hf
  exact V_iret C0 () rfl rfl dL_unseen_69
abbrev RM_L_cost : Room := { frames := 4, cells := 0, slots := 0, locals := 107 }
set_option maxRecDepth 100000 in
set_option maxHeartbeats 4000000 in
theorem c_L_cost (l : Launch) (dC : Nat → ClassId) (dI : Nat → Nat → Nat) (cI cJ cZ cO : ClassId) (ara : Nat → Nat) (arb : Nat → Nat) (arc : Nat → Nat) (N : Nat) (ra : (Nat → Int32)) (rb : (Nat → Int32)) (rc : (Nat → Int32)) (o : Int32) (hf : f_L_cost N ra rb rc = some o) : MetI l yL_cost wsL_cost RM_L_cost (dC, dI) (TY cI cJ cZ cO) [.ref (ara 0), .ref (arb 0), .ref (arc 0)] (W_RI cI cJ cZ cO ara 2 ra ++ (W_RI cI cJ cZ cO arb 16 rb ++ (W_RI cI cJ cZ cO arc 6 rc))) (fun r (_ : Unit) => r = o) (fun _ => (W_RI cI cJ cZ cO ara 2 ra ++ (W_RI cI cJ cZ cO arb 16 rb ++ (W_RI cI cJ cZ cO arc 6 rc)))) := by
  refine MetI.ofV (cc := cL_cost) (maxL := 6) (ret := (some .int)) (own := RL) (lv0 := [(0, .ref (ara 0)), (1, .ref (arb 0)), (2, .ref (arc 0))]) (by decide) rfl rfl (Nat.le_of_ble_eq_true rfl) rfl ?_
  intro p e s m below meth c A C0 _
  unfold f_L_cost at hf
  refine V_iconst (v := 0) C0 dL_cost_0 (by decide) rfl ?_
  refine V_istore_n (lv' := [(3, .int 0), (0, .ref (ara 0)), (1, .ref (arb 0)), (2, .ref (arc 0))]) C0 dL_cost_1 rfl (by decide) rfl rfl ?_
  refine V_iconst (v := 0) C0 dL_cost_2 (by decide) rfl ?_
  refine V_istore (lv' := [(4, .int 0), (3, .int 0), (0, .ref (ara 0)), (1, .ref (arb 0)), (2, .ref (arc 0))]) C0 dL_cost_3 (by decide) rfl rfl ?_
  have hL5 : ∀ (K : Int32 → Option (Int32)), (∀ (x3 : Int32), K x3 = some o → V p l e RM_L_cost s m ([.ref (ara 0), .ref (arb 0), .ref (arc 0)] : List Value).toArray below meth c 6 (dC, dI) A (MQ below (va_Qi (fun r (_ : Unit) => r = o) (PostW (dC, dI) (TY cI cJ cZ cO) A (fun _ => (W_RI cI cJ cZ cO ara 2 ra ++ (W_RI cI cJ cZ cO arb 16 rb ++ (W_RI cI cJ cZ cO arc 6 rc))))) A) ([.ref (ara 0), .ref (arb 0), .ref (arc 0)] : List Value).toArray s 0 0 A) 0 0 (W_RI cI cJ cZ cO ara 2 ra ++ (W_RI cI cJ cZ cO arb 16 rb ++ (W_RI cI cJ cZ cO arc 6 rc))) 65 [(3, .int x3)] []) → ∀ (n : Nat) (x3 : Int32) (x4 : Int32), f_L_cost_L5 N ra rb rc  K n x3 x4 = some o → V p l e RM_L_cost s m ([.ref (ara 0), .ref (arb 0), .ref (arc 0)] : List Value).toArray below meth c 6 (dC, dI) A (MQ below (va_Qi (fun r (_ : Unit) => r = o) (PostW (dC, dI) (TY cI cJ cZ cO) A (fun _ => (W_RI cI cJ cZ cO ara 2 ra ++ (W_RI cI cJ cZ cO arb 16 rb ++ (W_RI cI cJ cZ cO arc 6 rc))))) A) ([.ref (ara 0), .ref (arb 0), .ref (arc 0)] : List Value).toArray s 0 0 A) 0 0 (W_RI cI cJ cZ cO ara 2 ra ++ (W_RI cI cJ cZ cO arb 16 rb ++ (W_RI cI cJ cZ cO arc 6 rc))) 5 [(0, .ref (ara 0)), (1, .ref (arb 0)), (2, .ref (arc 0)), (3, .int x3), (4, .int x4)] [] := by
    intro  K hK n
    induction n with
    | zero => intro x3 x4 hf; cases hf
    | succ n hREC =>
      intro x3 x4 hf
      rw [f_L_cost_L5] at hf
      refine V_iload C0 dL_cost_5 4 rfl rfl ?_
      refine V_aload_n C0 dL_cost_7 0 rfl rfl ?_
      refine V_iconst (v := 1) C0 dL_cost_8 (by decide) rfl ?_
      obtain ⟨hi9, hf⟩ := ck_inv hf
      refine V_iald C0 0 0 rfl rfl hi9 dL_cost_9 rfl ?_
      refine V_icmp_ge (tgt := 65) C0 dL_cost_10 (by decide) rfl (fun c10 => ?_) (fun c10 => ?_)
      · have hf := ite_t c10 hf
        exact V.sub [3] rfl (hK x3 hf)
      · have hf := ite_f c10 hf
        refine V_aload_n C0 dL_cost_13 2 rfl rfl ?_
        refine V_iconst (v := 2) C0 dL_cost_14 (by decide) rfl ?_
        refine V_iload C0 dL_cost_15 4 rfl rfl ?_
        refine V_imul C0 dL_cost_17 rfl ?_
        obtain ⟨hi18, hf⟩ := ck_inv hf
        refine V_iald C0 2 0 rfl rfl hi18 dL_cost_18 rfl ?_
        refine V_aload_n C0 dL_cost_19 0 rfl rfl ?_
        refine V_aload_n C0 dL_cost_20 1 rfl rfl ?_
        obtain ⟨r_21, hc_21, hf⟩ := bind_inv hf
        refine V_cSI (ws' := (W_RI cI cJ cZ cO ara 2 ra ++ (W_RI cI cJ cZ cO arb 16 rb ++ (W_RI cI cJ cZ cO arc 6 rc)))) (As := [.int (rc ((2 * x4).toNatClampNeg)), .ref (ara 0), .ref (arb 0)]) (st := []) C0 (c_L_best l dC dI cI cJ cZ cO ara arb N ra rb (rc ((2 * x4).toNatClampNeg)) r_21 hc_21) rfl 3 gL_cost_L_best (by decide +kernel) ⟨Nat.le_of_ble_eq_true rfl, Nat.le_of_ble_eq_true rfl⟩ rfl  ⟨_, (pt (pte pr1)), fun _ => (pt (pte pr1))⟩ rfl (Nat.le_of_ble_eq_true rfl) dL_cost_21 rfl ⟨Nat.zero_le _, Nat.zero_le _⟩ ?_
        refine V_istore (lv' := [(5, .int r_21), (0, .ref (ara 0)), (1, .ref (arb 0)), (2, .ref (arc 0)), (3, .int x3), (4, .int x4)]) C0 dL_cost_24 (by decide) rfl rfl ?_
        refine V_iload_n C0 dL_cost_26 4 rfl rfl ?_
        refine V_iload C0 dL_cost_27 0 rfl rfl ?_
        obtain ⟨r_29, hc_29, hf⟩ := bind_inv hf
        refine V_cSI (ws' := (W_RI cI cJ cZ cO ara 2 ra ++ (W_RI cI cJ cZ cO arb 16 rb ++ (W_RI cI cJ cZ cO arc 6 rc)))) (As := [.int r_21]) (st := [.int x3]) C0 (c_L_bits l dC dI cI cJ cZ cO  N  r_21 r_29 hc_29) rfl 1 gL_cost_L_bits (by decide +kernel) ⟨Nat.le_of_ble_eq_true rfl, Nat.le_of_ble_eq_true rfl⟩ rfl  ⟨_, (pr (pr pr1)), fun _ => (pr (pr pr1))⟩ rfl (Nat.le_of_ble_eq_true rfl) dL_cost_29 rfl ⟨Nat.zero_le _, Nat.zero_le _⟩ ?_
        refine V_iconst (v := 1) C0 dL_cost_32 (by decide) rfl ?_
        refine V_iadd C0 dL_cost_33 rfl ?_
        refine V_aload_n C0 dL_cost_34 3 rfl rfl ?_
        refine V_iconst (v := 2) C0 dL_cost_35 (by decide) rfl ?_
        refine V_iload C0 dL_cost_36 5 rfl rfl ?_
        refine V_imul C0 dL_cost_38 rfl ?_
        obtain ⟨hi39, hf⟩ := ck_inv hf
        refine V_iald C0 2 0 rfl rfl hi39 dL_cost_39 rfl ?_
        refine V_iload C0 dL_cost_40 0 rfl rfl ?_
        refine V_aload_n C0 dL_cost_42 1 rfl rfl ?_
        refine V_aload_n C0 dL_cost_43 2 rfl rfl ?_
        obtain ⟨r_44, hc_44, hf⟩ := bind_inv hf
        refine V_cSI (ws' := (W_RI cI cJ cZ cO ara 2 ra ++ (W_RI cI cJ cZ cO arb 16 rb ++ (W_RI cI cJ cZ cO arc 6 rc)))) (As := [.int (rc ((2 * x4).toNatClampNeg)), .int r_21, .ref (ara 0), .ref (arb 0)]) (st := [.int (r_29 + 1), .int x3]) C0 (c_L_unseen l dC dI cI cJ cZ cO ara arb N ra rb (rc ((2 * x4).toNatClampNeg)) r_21 r_44 hc_44) rfl 4 gL_cost_L_unseen (by decide +kernel) ⟨Nat.le_of_ble_eq_true rfl, Nat.le_of_ble_eq_true rfl⟩ rfl  ⟨_, (pt (pte pr1)), fun _ => (pt (pte pr1))⟩ rfl (Nat.le_of_ble_eq_true rfl) dL_cost_44 rfl ⟨Nat.zero_le _, Nat.zero_le _⟩ ?_
        refine V_iadd C0 dL_cost_47 rfl ?_
        refine V_aload_n C0 dL_cost_48 3 rfl rfl ?_
        refine V_iconst (v := 2) C0 dL_cost_49 (by decide) rfl ?_
        refine V_iload C0 dL_cost_50 5 rfl rfl ?_
        refine V_imul C0 dL_cost_52 rfl ?_
        refine V_iconst (v := 1) C0 dL_cost_53 (by decide) rfl ?_
        refine V_iadd C0 dL_cost_54 rfl ?_
        obtain ⟨hi55, hf⟩ := ck_inv hf
        refine V_iald C0 2 0 rfl rfl hi55 dL_cost_55 rfl ?_
        refine V_imul C0 dL_cost_56 rfl ?_
        refine V_iadd C0 dL_cost_57 rfl ?_
        refine V_topi (fun x3_1 ex3_1 => ?_)
        have hf := bd_inv ex3_1 hf
        refine V_istore_n (lv' := [(3, .int x3_1), (5, .int r_21), (0, .ref (ara 0)), (1, .ref (arb 0)), (2, .ref (arc 0)), (4, .int x4)]) C0 dL_cost_58 rfl (by decide) rfl rfl ?_
        refine V_iinc (k := 5) (v := x4 + 1) (lv' := [(4, .int (x4 + 1)), (3, .int x3_1), (5, .int r_21), (0, .ref (ara 0)), (1, .ref (arb 0)), (2, .ref (arc 0))]) C0 dL_cost_59 rfl rfl (by decide) rfl rfl ?_
        refine V_goto (tgt := 5) C0 dL_cost_62 (by decide) ?_
        exact V.sub [3, 4, 5, 1, 0] rfl (hREC x3_1 (x4 + 1) hf)
  refine V.sub [2, 3, 4, 1, 0] rfl (hL5  _ ?_ N 0 0 hf)
  intro x3_5 hf
  refine V_iload_n C0 dL_cost_65 0 rfl rfl ?_
  obtain rfl := some_inv hf
  exact V_iret C0 () rfl rfl dL_cost_66
abbrev RM_L_share : Room := { frames := 3, cells := 0, slots := 0, locals := 76 }
set_option maxRecDepth 100000 in
set_option maxHeartbeats 4000000 in
theorem c_L_share (l : Launch) (dC : Nat → ClassId) (dI : Nat → Nat → Nat) (cI cJ cZ cO : ClassId) (ara : Nat → Nat) (arb : Nat → Nat) (N : Nat) (ra : (Nat → Int32)) (rb : (Nat → Int32)) (x0 : Int32) (x1 : Int32) (o : Int32) (hf : f_L_share N ra rb x0 x1 = some o) : MetI l yL_share wsL_share RM_L_share (dC, dI) (TY cI cJ cZ cO) [.int x0, .int x1, .ref (ara 0), .ref (arb 0)] (W_RI cI cJ cZ cO ara 2 ra ++ (W_RI cI cJ cZ cO arb 16 rb)) (fun r (_ : Unit) => r = o) (fun _ => (W_RI cI cJ cZ cO ara 2 ra ++ (W_RI cI cJ cZ cO arb 16 rb))) := by
  refine MetI.ofV (cc := cL_share) (maxL := 13) (ret := (some .int)) (own := RL) (lv0 := [(0, .int x0), (1, .int x1), (2, .ref (ara 0)), (3, .ref (arb 0))]) (by decide) rfl rfl (Nat.le_of_ble_eq_true rfl) rfl ?_
  intro p e s m below meth c A C0 _
  unfold f_L_share at hf
  refine V_iload_n C0 dL_share_0 0 rfl rfl ?_
  obtain ⟨r_1, hc_1, hf⟩ := bind_inv hf
  refine V_cSI (ws' := (W_RI cI cJ cZ cO ara 2 ra ++ (W_RI cI cJ cZ cO arb 16 rb))) (As := [.int x0]) (st := []) C0 (c_L_size l dC dI cI cJ cZ cO  N  x0 r_1 hc_1) rfl 1 gL_share_L_size (by decide +kernel) ⟨Nat.le_of_ble_eq_true rfl, Nat.le_of_ble_eq_true rfl⟩ rfl  ⟨_, (pr pr1), fun _ => (pr pr1)⟩ rfl (Nat.le_of_ble_eq_true rfl) dL_share_1 rfl ⟨Nat.zero_le _, Nat.zero_le _⟩ ?_
  refine V_istore (lv' := [(4, .int r_1), (0, .int x0), (1, .int x1), (2, .ref (ara 0)), (3, .ref (arb 0))]) C0 dL_share_4 (by decide) rfl rfl ?_
  refine V_lconst (v := 0) C0 dL_share_6 (by decide) rfl ?_
  refine V_lstore (lv' := [(5, .long 0), (4, .int r_1), (0, .int x0), (1, .int x1), (2, .ref (ara 0)), (3, .ref (arb 0))]) C0 dL_share_7 (by decide) rfl rfl ?_
  refine V_lconst (v := 0) C0 dL_share_9 (by decide) rfl ?_
  refine V_lstore (lv' := [(7, .long 0), (5, .long 0), (4, .int r_1), (0, .int x0), (1, .int x1), (2, .ref (ara 0)), (3, .ref (arb 0))]) C0 dL_share_10 (by decide) rfl rfl ?_
  refine V_iconst (v := 0) C0 dL_share_12 (by decide) rfl ?_
  refine V_istore (lv' := [(9, .int 0), (7, .long 0), (5, .long 0), (4, .int r_1), (0, .int x0), (1, .int x1), (2, .ref (ara 0)), (3, .ref (arb 0))]) C0 dL_share_13 (by decide) rfl rfl ?_
  have hL15 : ∀ (x4 : Int32) (K : Int64 → Int64 → Option (Int32)), (∀ (x5 : Int64) (x7 : Int64), K x5 x7 = some o → V p l e RM_L_share s m ([.int x0, .int x1, .ref (ara 0), .ref (arb 0)] : List Value).toArray below meth c 13 (dC, dI) A (MQ below (va_Qi (fun r (_ : Unit) => r = o) (PostW (dC, dI) (TY cI cJ cZ cO) A (fun _ => (W_RI cI cJ cZ cO ara 2 ra ++ (W_RI cI cJ cZ cO arb 16 rb)))) A) ([.int x0, .int x1, .ref (ara 0), .ref (arb 0)] : List Value).toArray s 0 0 A) 0 0 (W_RI cI cJ cZ cO ara 2 ra ++ (W_RI cI cJ cZ cO arb 16 rb)) 117 [(5, .long x5), (7, .long x7)] []) → ∀ (n : Nat) (x5 : Int64) (x7 : Int64) (x9 : Int32), f_L_share_L15 N ra rb x0 x1 x4 K n x5 x7 x9 = some o → V p l e RM_L_share s m ([.int x0, .int x1, .ref (ara 0), .ref (arb 0)] : List Value).toArray below meth c 13 (dC, dI) A (MQ below (va_Qi (fun r (_ : Unit) => r = o) (PostW (dC, dI) (TY cI cJ cZ cO) A (fun _ => (W_RI cI cJ cZ cO ara 2 ra ++ (W_RI cI cJ cZ cO arb 16 rb)))) A) ([.int x0, .int x1, .ref (ara 0), .ref (arb 0)] : List Value).toArray s 0 0 A) 0 0 (W_RI cI cJ cZ cO ara 2 ra ++ (W_RI cI cJ cZ cO arb 16 rb)) 15 [(0, .int x0), (1, .int x1), (2, .ref (ara 0)), (3, .ref (arb 0)), (4, .int x4), (5, .long x5), (7, .long x7), (9, .int x9)] [] := by
    intro x4 K hK n
    induction n with
    | zero => intro x5 x7 x9 hf; cases hf
    | succ n hREC =>
      intro x5 x7 x9 hf
      rw [f_L_share_L15] at hf
      refine V_iload C0 dL_share_15 7 rfl rfl ?_
      refine V_iconst (v := 1) C0 dL_share_17 (by decide) rfl ?_
      refine V_iload C0 dL_share_18 4 rfl rfl ?_
      refine V_iconst (v := 1) C0 dL_share_20 (by decide) rfl ?_
      refine V_isub C0 dL_share_21 rfl ?_
      refine V_ishl C0 dL_share_22 rfl ?_
      refine V_icmp_ge (tgt := 117) C0 dL_share_23 (by decide) rfl (fun c23 => ?_) (fun c23 => ?_)
      · have hf := ite_t c23 hf
        exact V.sub [5, 6] rfl (hK x5 x7 hf)
      · have hf := ite_f c23 hf
        refine V_iload_n C0 dL_share_26 0 rfl rfl ?_
        refine V_iload C0 dL_share_27 7 rfl rfl ?_
        refine V_aload_n C0 dL_share_29 2 rfl rfl ?_
        refine V_aload_n C0 dL_share_30 3 rfl rfl ?_
        obtain ⟨r_31, hc_31, hf⟩ := bind_inv hf
        refine V_cSL (ws' := (W_RI cI cJ cZ cO ara 2 ra ++ (W_RI cI cJ cZ cO arb 16 rb))) (As := [.int x0, .int x9, .ref (ara 0), .ref (arb 0)]) (st := []) C0 (c_L_product l dC dI cI cJ cZ cO ara arb N ra rb x0 x9 r_31 hc_31) rfl 4 gL_share_L_product (by decide +kernel) ⟨Nat.le_of_ble_eq_true rfl, Nat.le_of_ble_eq_true rfl⟩ rfl  Cut.all rfl (Nat.le_of_ble_eq_true rfl) dL_share_31 rfl ⟨Nat.zero_le _, Nat.zero_le _⟩ ?_
        refine V_lstore (lv' := [(10, .long r_31), (0, .int x0), (1, .int x1), (2, .ref (ara 0)), (3, .ref (arb 0)), (4, .int x4), (5, .long x5), (7, .long x7), (9, .int x9)]) C0 dL_share_34 (by decide) rfl rfl ?_
        refine V_lload C0 dL_share_36 6 rfl rfl ?_
        refine V_lload C0 dL_share_38 0 rfl rfl ?_
        refine V_ladd C0 dL_share_40 rfl ?_
        refine V_topl (fun x5_1 ex5_1 => ?_)
        have hf := bd_inv ex5_1 hf
        refine V_lstore (lv' := [(5, .long x5_1), (10, .long r_31), (0, .int x0), (1, .int x1), (2, .ref (ara 0)), (3, .ref (arb 0)), (4, .int x4), (7, .long x7), (9, .int x9)]) C0 dL_share_41 (by decide) rfl rfl ?_
        refine V_iconst (v := 0) C0 dL_share_43 (by decide) rfl ?_
        refine V_istore (lv' := [(12, .int 0), (5, .long x5_1), (10, .long r_31), (0, .int x0), (1, .int x1), (2, .ref (ara 0)), (3, .ref (arb 0)), (4, .int x4), (7, .long x7), (9, .int x9)]) C0 dL_share_44 (by decide) rfl rfl ?_
        have hL46 : ∀ (x4 : Int32) (x5 : Int64) (x9 : Int32) (x10 : Int64) (K : Int64 → Option (Int32)), (∀ (x7 : Int64), K x7 = some o → V p l e RM_L_share s m ([.int x0, .int x1, .ref (ara 0), .ref (arb 0)] : List Value).toArray below meth c 13 (dC, dI) A (MQ below (va_Qi (fun r (_ : Unit) => r = o) (PostW (dC, dI) (TY cI cJ cZ cO) A (fun _ => (W_RI cI cJ cZ cO ara 2 ra ++ (W_RI cI cJ cZ cO arb 16 rb)))) A) ([.int x0, .int x1, .ref (ara 0), .ref (arb 0)] : List Value).toArray s 0 0 A) 0 0 (W_RI cI cJ cZ cO ara 2 ra ++ (W_RI cI cJ cZ cO arb 16 rb)) 111 [(0, .int x0), (1, .int x1), (2, .ref (ara 0)), (3, .ref (arb 0)), (4, .int x4), (5, .long x5), (7, .long x7), (9, .int x9)] []) → ∀ (n : Nat) (x7 : Int64) (x12 : Int32), f_L_share_L46 N ra rb x0 x1 x4 x5 x9 x10 K n x7 x12 = some o → V p l e RM_L_share s m ([.int x0, .int x1, .ref (ara 0), .ref (arb 0)] : List Value).toArray below meth c 13 (dC, dI) A (MQ below (va_Qi (fun r (_ : Unit) => r = o) (PostW (dC, dI) (TY cI cJ cZ cO) A (fun _ => (W_RI cI cJ cZ cO ara 2 ra ++ (W_RI cI cJ cZ cO arb 16 rb)))) A) ([.int x0, .int x1, .ref (ara 0), .ref (arb 0)] : List Value).toArray s 0 0 A) 0 0 (W_RI cI cJ cZ cO ara 2 ra ++ (W_RI cI cJ cZ cO arb 16 rb)) 46 [(0, .int x0), (1, .int x1), (2, .ref (ara 0)), (3, .ref (arb 0)), (4, .int x4), (5, .long x5), (7, .long x7), (9, .int x9), (10, .long x10), (12, .int x12)] [] := by
          intro x4 x5 x9 x10 K hK n
          induction n with
          | zero => intro x7 x12 hf; cases hf
          | succ n hREC =>
            intro x7 x12 hf
            rw [f_L_share_L46] at hf
            refine V_iload C0 dL_share_46 9 rfl rfl ?_
            refine V_iload C0 dL_share_48 4 rfl rfl ?_
            refine V_icmp_ge (tgt := 111) C0 dL_share_50 (by decide) rfl (fun c50 => ?_) (fun c50 => ?_)
            · have hf := ite_t c50 hf
              exact V.sub [0, 1, 2, 3, 4, 5, 6, 7] rfl (hK x7 hf)
            · have hf := ite_f c50 hf
              refine V_lload C0 dL_share_53 8 rfl rfl ?_
              refine V_lconst (v := 0) C0 dL_share_55 (by decide) rfl ?_
              refine V_lcmp C0 dL_share_56 rfl ?_
              refine V_if_le (tgt := 111) C0 dL_share_57 (by decide) rfl (fun c57 => ?_) (fun c57 => ?_)
              · have hf := ite_t c57 hf
                exact V.sub [0, 1, 2, 3, 4, 5, 6, 7] rfl (hK x7 hf)
              · have hf := ite_f c57 hf
                refine V_lload C0 dL_share_60 6 rfl rfl ?_
                refine V_iload_n C0 dL_share_62 0 rfl rfl ?_
                refine V_iload C0 dL_share_63 9 rfl rfl ?_
                refine V_iload C0 dL_share_65 4 rfl rfl ?_
                refine V_iload C0 dL_share_67 7 rfl rfl ?_
                refine V_iload C0 dL_share_69 9 rfl rfl ?_
                obtain ⟨r_71, hc_71, hf⟩ := bind_inv hf
                refine V_cSI (ws' := (W_RI cI cJ cZ cO ara 2 ra ++ (W_RI cI cJ cZ cO arb 16 rb))) (As := [.int x4, .int x9, .int x12]) (st := [.int x12, .int x0, .long x7]) C0 (c_L_reaches l dC dI cI cJ cZ cO  N  x4 x9 x12 r_71 hc_71) rfl 3 gL_share_L_reaches (by decide +kernel) ⟨Nat.le_of_ble_eq_true rfl, Nat.le_of_ble_eq_true rfl⟩ rfl  ⟨_, (pr pr1), fun _ => (pr pr1)⟩ rfl (Nat.le_of_ble_eq_true rfl) dL_share_71 rfl ⟨Nat.zero_le _, Nat.zero_le _⟩ ?_
                obtain ⟨r_74, hc_74, hf⟩ := bind_inv hf
                refine V_cSI (ws' := (W_RI cI cJ cZ cO ara 2 ra ++ (W_RI cI cJ cZ cO arb 16 rb))) (As := [.int x0, .int x12, .int r_71]) (st := [.long x7]) C0 (c_L_some l dC dI cI cJ cZ cO  N  x0 x12 r_71 r_74 hc_74) rfl 3 gL_share_L_some (by decide +kernel) ⟨Nat.le_of_ble_eq_true rfl, Nat.le_of_ble_eq_true rfl⟩ rfl  ⟨_, (pr pr1), fun _ => (pr pr1)⟩ rfl (Nat.le_of_ble_eq_true rfl) dL_share_74 rfl ⟨Nat.zero_le _, Nat.zero_le _⟩ ?_
                refine V_aload_n C0 dL_share_77 3 rfl rfl ?_
                refine V_iconst (v := 2) C0 dL_share_78 (by decide) rfl ?_
                refine V_iload_n C0 dL_share_79 1 rfl rfl ?_
                refine V_imul C0 dL_share_80 rfl ?_
                obtain ⟨hi81, hf⟩ := ck_inv hf
                refine V_iald C0 1 0 rfl rfl hi81 dL_share_81 rfl ?_
                refine jn_elim hf (fun (J : Int64 → Option (Int32)) => ∀ (s1_91 : Int64), J s1_91 = some o → V p l e RM_L_share s m ([.int x0, .int x1, .ref (ara 0), .ref (arb 0)] : List Value).toArray below meth c 13 (dC, dI) A (MQ below (va_Qi (fun r (_ : Unit) => r = o) (PostW (dC, dI) (TY cI cJ cZ cO) A (fun _ => (W_RI cI cJ cZ cO ara 2 ra ++ (W_RI cI cJ cZ cO arb 16 rb)))) A) ([.int x0, .int x1, .ref (ara 0), .ref (arb 0)] : List Value).toArray s 0 0 A) 0 0 (W_RI cI cJ cZ cO ara 2 ra ++ (W_RI cI cJ cZ cO arb 16 rb)) 91 [(0, .int x0), (1, .int x1), (2, .ref (ara 0)), (3, .ref (arb 0)), (4, .int x4), (5, .long x5), (9, .int x9), (10, .long x10), (12, .int x12)] [.long s1_91, .long x7]) ?_ ?_
                · intro s1_91 hf
                  refine V_ladd C0 dL_share_91 rfl ?_
                  refine V_topl (fun x7_2 ex7_2 => ?_)
                  have hf := bd_inv ex7_2 hf
                  refine V_lstore (lv' := [(7, .long x7_2), (0, .int x0), (1, .int x1), (2, .ref (ara 0)), (3, .ref (arb 0)), (4, .int x4), (5, .long x5), (9, .int x9), (10, .long x10), (12, .int x12)]) C0 dL_share_92 (by decide) rfl rfl ?_
                  refine V_iload C0 dL_share_94 9 rfl rfl ?_
                  refine V_iload C0 dL_share_96 5 rfl rfl ?_
                  refine V_iload C0 dL_share_98 7 rfl rfl ?_
                  refine V_iload C0 dL_share_100 9 rfl rfl ?_
                  obtain ⟨r_102, hc_102, hf⟩ := bind_inv hf
                  refine V_cSI (ws' := (W_RI cI cJ cZ cO ara 2 ra ++ (W_RI cI cJ cZ cO arb 16 rb))) (As := [.int x4, .int x9, .int x12]) (st := [.int x12]) C0 (c_L_reaches l dC dI cI cJ cZ cO  N  x4 x9 x12 r_102 hc_102) rfl 3 gL_share_L_reaches (by decide +kernel) ⟨Nat.le_of_ble_eq_true rfl, Nat.le_of_ble_eq_true rfl⟩ rfl  ⟨_, (pr pr1), fun _ => (pr pr1)⟩ rfl (Nat.le_of_ble_eq_true rfl) dL_share_102 rfl ⟨Nat.zero_le _, Nat.zero_le _⟩ ?_
                  refine V_iadd C0 dL_share_105 rfl ?_
                  refine V_topi (fun x12_3 ex12_3 => ?_)
                  have hf := bd_inv ex12_3 hf
                  refine V_istore (lv' := [(12, .int x12_3), (7, .long x7_2), (0, .int x0), (1, .int x1), (2, .ref (ara 0)), (3, .ref (arb 0)), (4, .int x4), (5, .long x5), (9, .int x9), (10, .long x10)]) C0 dL_share_106 (by decide) rfl rfl ?_
                  refine V_goto (tgt := 46) C0 dL_share_108 (by decide) ?_
                  exact V.sub [2, 3, 4, 5, 6, 7, 1, 8, 9, 0] rfl (hREC x7_2 x12_3 hf)
                · intro J91 hJ91 hf
                  refine V_icmp_ne (tgt := 90) C0 dL_share_82 (by decide) rfl (fun c82 => ?_) (fun c82 => ?_)
                  · have hf := ite_f c82 hf
                    refine V_lconst (v := 0) C0 dL_share_90 (by decide) rfl ?_
                    exact V.sub [0, 1, 2, 3, 4, 5, 7, 8, 9] rfl (hJ91 0 hf)
                  · have hf := ite_t c82 hf
                    refine V_lload C0 dL_share_85 8 rfl rfl ?_
                    refine V_goto (tgt := 91) C0 dL_share_87 (by decide) ?_
                    exact V.sub [0, 1, 2, 3, 4, 5, 7, 8, 9] rfl (hJ91 x10 hf)
        refine V.sub [3, 4, 5, 6, 7, 1, 8, 9, 2, 0] rfl (hL46 x4 x5_1 x9 r_31 _ ?_ N x7 0 hf)
        intro x7_46 hf
        refine V_iinc (k := 7) (v := x9 + 1) (lv' := [(9, .int (x9 + 1)), (0, .int x0), (1, .int x1), (2, .ref (ara 0)), (3, .ref (arb 0)), (4, .int x4), (5, .long x5_1), (7, .long x7_46)]) C0 dL_share_111 rfl rfl (by decide) rfl rfl ?_
        refine V_goto (tgt := 15) C0 dL_share_114 (by decide) ?_
        exact V.sub [1, 2, 3, 4, 5, 6, 7, 0] rfl (hREC x5_1 x7_46 (x9 + 1) hf)
  refine V.sub [4, 5, 6, 7, 3, 2, 1, 0] rfl (hL15 r_1 _ ?_ N 0 0 0 hf)
  intro x5_15 x7_15 hf
  refine V_ldc2 (v := 1000) C0 dL_share_117 (by decide +kernel) rfl ?_
  refine V_lload C0 dL_share_120 1 rfl rfl ?_
  refine V_lmul C0 dL_share_122 rfl ?_
  refine V_lload C0 dL_share_123 0 rfl rfl ?_
  obtain ⟨hz125, hf⟩ := nzL_inv hf
  refine V_ldiv C0 dL_share_125 hz125 rfl ?_
  refine V_l2i C0 dL_share_126 rfl ?_
  obtain rfl := some_inv hf
  exact V_iret C0 () rfl rfl dL_share_127
abbrev RM_L_drop : Room := { frames := 0, cells := 0, slots := 0, locals := 0 }
set_option maxRecDepth 100000 in
set_option maxHeartbeats 4000000 in
theorem c_L_drop (l : Launch) (dC : Nat → ClassId) (dI : Nat → Nat → Nat) (cI cJ cZ cO : ClassId) (ara : Nat → Nat) (arb : Nat → Nat) (N : Nat) (ra : (Nat → Int32)) (rb : (Nat → Int32)) (x0 : Int32) (o : (Nat → Int32) × (Nat → Int32)) (hf : f_L_drop N ra rb x0 = some o) : MetV l yL_drop wsL_drop RM_L_drop (dC, dI) (TY cI cJ cZ cO) [.int x0, .ref (ara 0), .ref (arb 0)] (W_RI cI cJ cZ cO ara 2 ra ++ (W_RI cI cJ cZ cO arb 16 rb)) (fun _ : Unit => True) (fun _ => (W_RI cI cJ cZ cO ara 2 o.1 ++ (W_RI cI cJ cZ cO arb 16 o.2))) := by
  refine MetV.ofV (cc := cL_drop) (maxL := 4) (ret := none) (own := RL) (lv0 := [(0, .int x0), (1, .ref (ara 0)), (2, .ref (arb 0))]) (by decide) rfl rfl (Nat.le_of_ble_eq_true rfl) rfl ?_
  intro p e s m below meth c A C0 _
  unfold f_L_drop at hf
  refine V_iconst (v := 2) C0 dL_drop_0 (by decide) rfl ?_
  refine V_iload_n C0 dL_drop_1 0 rfl rfl ?_
  refine V_imul C0 dL_drop_2 rfl ?_
  refine V_istore_n (lv' := [(3, .int (2 * x0)), (0, .int x0), (1, .ref (ara 0)), (2, .ref (arb 0))]) C0 dL_drop_3 rfl (by decide) rfl rfl ?_
  have hL4 : ∀ (ra : (Nat → Int32)) (K : (Nat → Int32) → Option ((Nat → Int32) × (Nat → Int32))), (∀ (rb : (Nat → Int32)), K rb = some o → V p l e RM_L_drop s m ([.int x0, .ref (ara 0), .ref (arb 0)] : List Value).toArray below meth c 4 (dC, dI) A (MQ below (va_Qv (fun _ : Unit => True) (PostW (dC, dI) (TY cI cJ cZ cO) A (fun _ => (W_RI cI cJ cZ cO ara 2 o.1 ++ (W_RI cI cJ cZ cO arb 16 o.2)))) A) ([.int x0, .ref (ara 0), .ref (arb 0)] : List Value).toArray s 0 0 A) 0 0 (W_RI cI cJ cZ cO ara 2 ra ++ (W_RI cI cJ cZ cO arb 16 rb)) 29 [(1, .ref (ara 0))] []) → ∀ (n : Nat) (x3 : Int32) (rb : (Nat → Int32)), f_L_drop_L4 N x0 ra K n x3 rb = some o → V p l e RM_L_drop s m ([.int x0, .ref (ara 0), .ref (arb 0)] : List Value).toArray below meth c 4 (dC, dI) A (MQ below (va_Qv (fun _ : Unit => True) (PostW (dC, dI) (TY cI cJ cZ cO) A (fun _ => (W_RI cI cJ cZ cO ara 2 o.1 ++ (W_RI cI cJ cZ cO arb 16 o.2)))) A) ([.int x0, .ref (ara 0), .ref (arb 0)] : List Value).toArray s 0 0 A) 0 0 (W_RI cI cJ cZ cO ara 2 ra ++ (W_RI cI cJ cZ cO arb 16 rb)) 4 [(1, .ref (ara 0)), (2, .ref (arb 0)), (3, .int x3)] [] := by
    intro ra K hK n
    induction n with
    | zero => intro x3 rb hf; cases hf
    | succ n hREC =>
      intro x3 rb hf
      rw [f_L_drop_L4] at hf
      refine V_iload_n C0 dL_drop_4 2 rfl rfl ?_
      refine V_iconst (v := 2) C0 dL_drop_5 (by decide) rfl ?_
      refine V_iadd C0 dL_drop_6 rfl ?_
      refine V_iconst (v := 2) C0 dL_drop_7 (by decide) rfl ?_
      refine V_aload_n C0 dL_drop_8 0 rfl rfl ?_
      refine V_iconst (v := 0) C0 dL_drop_9 (by decide) rfl ?_
      obtain ⟨hi10, hf⟩ := ck_inv hf
      refine V_iald C0 0 0 rfl rfl hi10 dL_drop_10 rfl ?_
      refine V_imul C0 dL_drop_11 rfl ?_
      refine V_icmp_ge (tgt := 29) C0 dL_drop_12 (by decide) rfl (fun c12 => ?_) (fun c12 => ?_)
      · have hf := ite_t c12 hf
        exact V.sub [0] rfl (hK rb hf)
      · have hf := ite_f c12 hf
        refine V_aload_n C0 dL_drop_15 1 rfl rfl ?_
        refine V_iload_n C0 dL_drop_16 2 rfl rfl ?_
        refine V_aload_n C0 dL_drop_17 1 rfl rfl ?_
        refine V_iload_n C0 dL_drop_18 2 rfl rfl ?_
        refine V_iconst (v := 2) C0 dL_drop_19 (by decide) rfl ?_
        refine V_iadd C0 dL_drop_20 rfl ?_
        obtain ⟨hi21, hf⟩ := ck_inv hf
        refine V_iald C0 1 0 rfl rfl hi21 dL_drop_21 rfl ?_
        obtain ⟨hi22, hf⟩ := ck_inv hf
        refine V_iast (ws' := (W_RI cI cJ cZ cO ara 2 ra ++ (W_RI cI cJ cZ cO arb 16 (upd rb (x3.toNatClampNeg) (rb ((x3 + 2).toNatClampNeg)))))) C0 1 0 rfl rfl hi22 dL_drop_22 rfl rfl ?_
        refine V_iinc (k := 2) (v := x3 + 1) (lv' := [(3, .int (x3 + 1)), (1, .ref (ara 0)), (2, .ref (arb 0))]) C0 dL_drop_23 rfl rfl (by decide) rfl rfl ?_
        refine V_goto (tgt := 4) C0 dL_drop_26 (by decide) ?_
        exact V.sub [1, 2, 0] rfl (hREC (x3 + 1) (upd rb (x3.toNatClampNeg) (rb ((x3 + 2).toNatClampNeg))) hf)
  refine V.sub [2, 3, 0] rfl (hL4 ra _ ?_ N (2 * x0) rb hf)
  intro rb_4 hf
  refine V_aload_n C0 dL_drop_29 0 rfl rfl ?_
  refine V_iconst (v := 0) C0 dL_drop_30 (by decide) rfl ?_
  refine V_dup2_11 C0 dL_drop_31 rfl rfl rfl ?_
  obtain ⟨hi32, hf⟩ := ck_inv hf
  refine V_iald C0 0 0 rfl rfl hi32 dL_drop_32 rfl ?_
  refine V_iconst (v := 1) C0 dL_drop_33 (by decide) rfl ?_
  refine V_isub C0 dL_drop_34 rfl ?_
  obtain ⟨hi35, hf⟩ := ck_inv hf
  refine V_iast (ws' := (W_RI cI cJ cZ cO ara 2 (upd ra ((0 : Int32).toNatClampNeg) ((ra ((0 : Int32).toNatClampNeg)) - 1)) ++ (W_RI cI cJ cZ cO arb 16 rb_4))) C0 0 0 rfl rfl hi35 dL_drop_35 rfl rfl ?_
  obtain rfl := some_inv hf
  exact V_vret C0 () trivial rfl dL_drop_36
abbrev RM_L_loss : Room := { frames := 5, cells := 0, slots := 0, locals := 132 }
set_option maxRecDepth 100000 in
set_option maxHeartbeats 4000000 in
theorem c_L_loss (l : Launch) (dC : Nat → ClassId) (dI : Nat → Nat → Nat) (cI cJ cZ cO : ClassId) (ara : Nat → Nat) (arb : Nat → Nat) (ard : Nat → Nat) (are : Nat → Nat) (arc : Nat → Nat) (N : Nat) (ra : (Nat → Int32)) (rb : (Nat → Int32)) (rd : (Nat → Int32)) (re : (Nat → Int32)) (rc : (Nat → Int32)) (x0 : Int32) (o : Int32 × (Nat → Int32) × (Nat → Int32)) (hf : f_L_loss N ra rb rd re rc x0 = some o) : MetI l yL_loss wsL_loss RM_L_loss (dC, dI) (TY cI cJ cZ cO) [.int x0, .ref (ara 0), .ref (arb 0), .ref (arc 0), .ref (ard 0), .ref (are 0)] (W_RI cI cJ cZ cO ara 2 ra ++ (W_RI cI cJ cZ cO arb 16 rb ++ (W_RI cI cJ cZ cO ard 2 rd ++ (W_RI cI cJ cZ cO are 16 re ++ (W_RI cI cJ cZ cO arc 6 rc))))) (fun r (_ : Unit) => r = o.1) (fun _ => (W_RI cI cJ cZ cO ara 2 ra ++ (W_RI cI cJ cZ cO arb 16 rb ++ (W_RI cI cJ cZ cO ard 2 o.2.1 ++ (W_RI cI cJ cZ cO are 16 o.2.2 ++ (W_RI cI cJ cZ cO arc 6 rc)))))) := by
  refine MetI.ofV (cc := cL_loss) (maxL := 7) (ret := (some .int)) (own := RL) (lv0 := [(0, .int x0), (1, .ref (ara 0)), (2, .ref (arb 0)), (3, .ref (arc 0)), (4, .ref (ard 0)), (5, .ref (are 0))]) (by decide) rfl rfl (Nat.le_of_ble_eq_true rfl) rfl ?_
  intro p e s m below meth c A C0 _
  unfold f_L_loss at hf
  refine V_iconst (v := 0) C0 dL_loss_0 (by decide) rfl ?_
  refine V_istore (lv' := [(6, .int 0), (0, .int x0), (1, .ref (ara 0)), (2, .ref (arb 0)), (3, .ref (arc 0)), (4, .ref (ard 0)), (5, .ref (are 0))]) C0 dL_loss_1 (by decide) rfl rfl ?_
  have hL3 : ∀ (rd : (Nat → Int32)) (K : (Nat → Int32) → Option (Int32 × (Nat → Int32) × (Nat → Int32))), (∀ (re : (Nat → Int32)), K re = some o → V p l e RM_L_loss s m ([.int x0, .ref (ara 0), .ref (arb 0), .ref (arc 0), .ref (ard 0), .ref (are 0)] : List Value).toArray below meth c 7 (dC, dI) A (MQ below (va_Qi (fun r (_ : Unit) => r = o.1) (PostW (dC, dI) (TY cI cJ cZ cO) A (fun _ => (W_RI cI cJ cZ cO ara 2 ra ++ (W_RI cI cJ cZ cO arb 16 rb ++ (W_RI cI cJ cZ cO ard 2 o.2.1 ++ (W_RI cI cJ cZ cO are 16 o.2.2 ++ (W_RI cI cJ cZ cO arc 6 rc))))))) A) ([.int x0, .ref (ara 0), .ref (arb 0), .ref (arc 0), .ref (ard 0), .ref (are 0)] : List Value).toArray s 0 0 A) 0 0 (W_RI cI cJ cZ cO ara 2 ra ++ (W_RI cI cJ cZ cO arb 16 rb ++ (W_RI cI cJ cZ cO ard 2 rd ++ (W_RI cI cJ cZ cO are 16 re ++ (W_RI cI cJ cZ cO arc 6 rc))))) 25 [(0, .int x0), (1, .ref (ara 0)), (2, .ref (arb 0)), (3, .ref (arc 0)), (4, .ref (ard 0)), (5, .ref (are 0))] []) → ∀ (n : Nat) (x6 : Int32) (re : (Nat → Int32)), f_L_loss_L3 N ra rb rc x0 rd K n x6 re = some o → V p l e RM_L_loss s m ([.int x0, .ref (ara 0), .ref (arb 0), .ref (arc 0), .ref (ard 0), .ref (are 0)] : List Value).toArray below meth c 7 (dC, dI) A (MQ below (va_Qi (fun r (_ : Unit) => r = o.1) (PostW (dC, dI) (TY cI cJ cZ cO) A (fun _ => (W_RI cI cJ cZ cO ara 2 ra ++ (W_RI cI cJ cZ cO arb 16 rb ++ (W_RI cI cJ cZ cO ard 2 o.2.1 ++ (W_RI cI cJ cZ cO are 16 o.2.2 ++ (W_RI cI cJ cZ cO arc 6 rc))))))) A) ([.int x0, .ref (ara 0), .ref (arb 0), .ref (arc 0), .ref (ard 0), .ref (are 0)] : List Value).toArray s 0 0 A) 0 0 (W_RI cI cJ cZ cO ara 2 ra ++ (W_RI cI cJ cZ cO arb 16 rb ++ (W_RI cI cJ cZ cO ard 2 rd ++ (W_RI cI cJ cZ cO are 16 re ++ (W_RI cI cJ cZ cO arc 6 rc))))) 3 [(0, .int x0), (1, .ref (ara 0)), (2, .ref (arb 0)), (3, .ref (arc 0)), (4, .ref (ard 0)), (5, .ref (are 0)), (6, .int x6)] [] := by
    intro rd K hK n
    induction n with
    | zero => intro x6 re hf; cases hf
    | succ n hREC =>
      intro x6 re hf
      rw [f_L_loss_L3] at hf
      refine V_iload C0 dL_loss_3 6 rfl rfl ?_
      refine V_bipush (v := 16) C0 dL_loss_5 (by decide) rfl ?_
      refine V_icmp_ge (tgt := 25) C0 dL_loss_7 (by decide) rfl (fun c7 => ?_) (fun c7 => ?_)
      · have hf := ite_t c7 hf
        exact V.sub [0, 1, 2, 3, 4, 5] rfl (hK re hf)
      · have hf := ite_f c7 hf
        refine V_aload C0 dL_loss_10 5 rfl rfl ?_
        refine V_iload C0 dL_loss_12 6 rfl rfl ?_
        refine V_aload_n C0 dL_loss_14 2 rfl rfl ?_
        refine V_iload C0 dL_loss_15 6 rfl rfl ?_
        obtain ⟨hi17, hf⟩ := ck_inv hf
        refine V_iald C0 1 0 rfl rfl hi17 dL_loss_17 rfl ?_
        obtain ⟨hi18, hf⟩ := ck_inv hf
        refine V_iast (ws' := (W_RI cI cJ cZ cO ara 2 ra ++ (W_RI cI cJ cZ cO arb 16 rb ++ (W_RI cI cJ cZ cO ard 2 rd ++ (W_RI cI cJ cZ cO are 16 (upd re (x6.toNatClampNeg) (rb (x6.toNatClampNeg))) ++ (W_RI cI cJ cZ cO arc 6 rc)))))) C0 3 0 rfl rfl hi18 dL_loss_18 rfl rfl ?_
        refine V_iinc (k := 6) (v := x6 + 1) (lv' := [(6, .int (x6 + 1)), (0, .int x0), (1, .ref (ara 0)), (2, .ref (arb 0)), (3, .ref (arc 0)), (4, .ref (ard 0)), (5, .ref (are 0))]) C0 dL_loss_19 rfl rfl (by decide) rfl rfl ?_
        refine V_goto (tgt := 3) C0 dL_loss_22 (by decide) ?_
        exact V.sub [1, 2, 3, 4, 5, 6, 0] rfl (hREC (x6 + 1) (upd re (x6.toNatClampNeg) (rb (x6.toNatClampNeg))) hf)
  refine V.sub [1, 2, 3, 4, 5, 6, 0] rfl (hL3 rd _ ?_ N 0 re hf)
  intro re_3 hf
  refine V_aload C0 dL_loss_25 4 rfl rfl ?_
  refine V_iconst (v := 0) C0 dL_loss_27 (by decide) rfl ?_
  refine V_aload_n C0 dL_loss_28 1 rfl rfl ?_
  refine V_iconst (v := 0) C0 dL_loss_29 (by decide) rfl ?_
  obtain ⟨hi30, hf⟩ := ck_inv hf
  refine V_iald C0 0 0 rfl rfl hi30 dL_loss_30 rfl ?_
  obtain ⟨hi31, hf⟩ := ck_inv hf
  refine V_iast (ws' := (W_RI cI cJ cZ cO ara 2 ra ++ (W_RI cI cJ cZ cO arb 16 rb ++ (W_RI cI cJ cZ cO ard 2 (upd rd ((0 : Int32).toNatClampNeg) (ra ((0 : Int32).toNatClampNeg))) ++ (W_RI cI cJ cZ cO are 16 re_3 ++ (W_RI cI cJ cZ cO arc 6 rc)))))) C0 2 0 rfl rfl hi31 dL_loss_31 rfl rfl ?_
  refine V_aload C0 dL_loss_32 4 rfl rfl ?_
  refine V_iconst (v := 1) C0 dL_loss_34 (by decide) rfl ?_
  refine V_aload_n C0 dL_loss_35 1 rfl rfl ?_
  refine V_iconst (v := 1) C0 dL_loss_36 (by decide) rfl ?_
  obtain ⟨hi37, hf⟩ := ck_inv hf
  refine V_iald C0 0 0 rfl rfl hi37 dL_loss_37 rfl ?_
  obtain ⟨hi38, hf⟩ := ck_inv hf
  refine V_iast (ws' := (W_RI cI cJ cZ cO ara 2 ra ++ (W_RI cI cJ cZ cO arb 16 rb ++ (W_RI cI cJ cZ cO ard 2 (upd (upd rd ((0 : Int32).toNatClampNeg) (ra ((0 : Int32).toNatClampNeg))) ((1 : Int32).toNatClampNeg) (ra ((1 : Int32).toNatClampNeg))) ++ (W_RI cI cJ cZ cO are 16 re_3 ++ (W_RI cI cJ cZ cO arc 6 rc)))))) C0 2 0 rfl rfl hi38 dL_loss_38 rfl rfl ?_
  refine V_iload_n C0 dL_loss_39 0 rfl rfl ?_
  refine V_aload C0 dL_loss_40 4 rfl rfl ?_
  refine V_aload C0 dL_loss_42 5 rfl rfl ?_
  obtain ⟨r_44, hc_44, hf⟩ := bind_inv hf
  refine V_cSV (ws' := (W_RI cI cJ cZ cO ara 2 ra ++ (W_RI cI cJ cZ cO arb 16 rb ++ (W_RI cI cJ cZ cO ard 2 r_44.1 ++ (W_RI cI cJ cZ cO are 16 r_44.2 ++ (W_RI cI cJ cZ cO arc 6 rc)))))) (As := [.int x0, .ref (ard 0), .ref (are 0)]) (st := []) C0 (c_L_drop l dC dI cI cJ cZ cO ard are N (upd (upd rd ((0 : Int32).toNatClampNeg) (ra ((0 : Int32).toNatClampNeg))) ((1 : Int32).toNatClampNeg) (ra ((1 : Int32).toNatClampNeg))) re_3 x0 r_44 hc_44) rfl 3 gL_loss_L_drop (by decide +kernel) ⟨Nat.le_of_ble_eq_true rfl, Nat.le_of_ble_eq_true rfl⟩ rfl  ⟨_, (pr (pr (pt (pte pr1)))), fun _ => (pr (pr (pt (pte pr1))))⟩ rfl (Nat.le_of_ble_eq_true rfl) dL_loss_44 rfl ⟨Nat.zero_le _, Nat.zero_le _⟩ ?_
  refine V_aload C0 dL_loss_47 4 rfl rfl ?_
  refine V_aload C0 dL_loss_49 5 rfl rfl ?_
  refine V_aload_n C0 dL_loss_51 3 rfl rfl ?_
  obtain ⟨r_52, hc_52, hf⟩ := bind_inv hf
  refine V_cSI (ws' := (W_RI cI cJ cZ cO ara 2 ra ++ (W_RI cI cJ cZ cO arb 16 rb ++ (W_RI cI cJ cZ cO ard 2 r_44.1 ++ (W_RI cI cJ cZ cO are 16 r_44.2 ++ (W_RI cI cJ cZ cO arc 6 rc)))))) (As := [.ref (ard 0), .ref (are 0), .ref (arc 0)]) (st := []) C0 (c_L_cost l dC dI cI cJ cZ cO ard are arc N r_44.1 r_44.2 rc  r_52 hc_52) rfl 3 gL_loss_L_cost (by decide +kernel) ⟨Nat.le_of_ble_eq_true rfl, Nat.le_of_ble_eq_true rfl⟩ rfl  ⟨_, (pr (pr (pt (pt pt1)))), fun _ => (pr (pr (pt (pt pt1))))⟩ rfl (Nat.le_of_ble_eq_true rfl) dL_loss_52 rfl ⟨Nat.zero_le _, Nat.zero_le _⟩ ?_
  refine V_aload_n C0 dL_loss_55 1 rfl rfl ?_
  refine V_aload_n C0 dL_loss_56 2 rfl rfl ?_
  refine V_aload_n C0 dL_loss_57 3 rfl rfl ?_
  obtain ⟨r_58, hc_58, hf⟩ := bind_inv hf
  refine V_cSI (ws' := (W_RI cI cJ cZ cO ara 2 ra ++ (W_RI cI cJ cZ cO arb 16 rb ++ (W_RI cI cJ cZ cO ard 2 r_44.1 ++ (W_RI cI cJ cZ cO are 16 r_44.2 ++ (W_RI cI cJ cZ cO arc 6 rc)))))) (As := [.ref (ara 0), .ref (arb 0), .ref (arc 0)]) (st := [.int r_52]) C0 (c_L_cost l dC dI cI cJ cZ cO ara arb arc N ra rb rc  r_58 hc_58) rfl 3 gL_loss_L_cost (by decide +kernel) ⟨Nat.le_of_ble_eq_true rfl, Nat.le_of_ble_eq_true rfl⟩ rfl  ⟨_, (pt (pt (pr (pr pt1)))), fun _ => (pt (pt (pr (pr pt1))))⟩ rfl (Nat.le_of_ble_eq_true rfl) dL_loss_58 rfl ⟨Nat.zero_le _, Nat.zero_le _⟩ ?_
  refine V_isub C0 dL_loss_61 rfl ?_
  obtain rfl := some_inv hf
  exact V_iret C0 () rfl rfl dL_loss_62
abbrev RM_L_least : Room := { frames := 6, cells := 0, slots := 0, locals := 158 }
set_option maxRecDepth 100000 in
set_option maxHeartbeats 4000000 in
theorem c_L_least (l : Launch) (dC : Nat → ClassId) (dI : Nat → Nat → Nat) (cI cJ cZ cO : ClassId) (ara : Nat → Nat) (arb : Nat → Nat) (ard : Nat → Nat) (are : Nat → Nat) (arc : Nat → Nat) (N : Nat) (ra : (Nat → Int32)) (rb : (Nat → Int32)) (rd : (Nat → Int32)) (re : (Nat → Int32)) (rc : (Nat → Int32)) (o : Int32 × (Nat → Int32) × (Nat → Int32)) (hf : f_L_least N ra rb rd re rc = some o) : MetI l yL_least wsL_least RM_L_least (dC, dI) (TY cI cJ cZ cO) [.ref (ara 0), .ref (arb 0), .ref (arc 0), .ref (ard 0), .ref (are 0)] (W_RI cI cJ cZ cO ara 2 ra ++ (W_RI cI cJ cZ cO arb 16 rb ++ (W_RI cI cJ cZ cO ard 2 rd ++ (W_RI cI cJ cZ cO are 16 re ++ (W_RI cI cJ cZ cO arc 6 rc))))) (fun r (_ : Unit) => r = o.1) (fun _ => (W_RI cI cJ cZ cO ara 2 ra ++ (W_RI cI cJ cZ cO arb 16 rb ++ (W_RI cI cJ cZ cO ard 2 o.2.1 ++ (W_RI cI cJ cZ cO are 16 o.2.2 ++ (W_RI cI cJ cZ cO arc 6 rc)))))) := by
  refine MetI.ofV (cc := cL_least) (maxL := 10) (ret := (some .int)) (own := RL) (lv0 := [(0, .ref (ara 0)), (1, .ref (arb 0)), (2, .ref (arc 0)), (3, .ref (ard 0)), (4, .ref (are 0))]) (by decide) rfl rfl (Nat.le_of_ble_eq_true rfl) rfl ?_
  intro p e s m below meth c A C0 _
  unfold f_L_least at hf
  refine V_bipush (v := (-6)) C0 dL_least_0 (by decide) rfl ?_
  refine V_istore (lv' := [(5, .int ((-6))), (0, .ref (ara 0)), (1, .ref (arb 0)), (2, .ref (arc 0)), (3, .ref (ard 0)), (4, .ref (are 0))]) C0 dL_least_2 (by decide) rfl rfl ?_
  refine V_iconst (v := 0) C0 dL_least_4 (by decide) rfl ?_
  refine V_istore (lv' := [(6, .int 0), (5, .int ((-6))), (0, .ref (ara 0)), (1, .ref (arb 0)), (2, .ref (arc 0)), (3, .ref (ard 0)), (4, .ref (are 0))]) C0 dL_least_5 (by decide) rfl rfl ?_
  refine V_aload_n C0 dL_least_7 2 rfl rfl ?_
  refine V_iconst (v := 0) C0 dL_least_8 (by decide) rfl ?_
  obtain ⟨hi9, hf⟩ := ck_inv hf
  refine V_iald C0 0 0 rfl rfl hi9 dL_least_9 rfl ?_
  refine V_iconst (v := 1) C0 dL_least_10 (by decide) rfl ?_
  refine V_isub C0 dL_least_11 rfl ?_
  refine V_topi (fun x7_1 ex7_1 => ?_)
  have hf := bd_inv ex7_1 hf
  refine V_istore (lv' := [(7, .int x7_1), (6, .int 0), (5, .int ((-6))), (0, .ref (ara 0)), (1, .ref (arb 0)), (2, .ref (arc 0)), (3, .ref (ard 0)), (4, .ref (are 0))]) C0 dL_least_12 (by decide) rfl rfl ?_
  have hL14 : ∀ (K : Int32 → (Nat → Int32) → (Nat → Int32) → Option (Int32 × (Nat → Int32) × (Nat → Int32))), (∀ (x5 : Int32) (rd : (Nat → Int32)) (re : (Nat → Int32)), K x5 rd re = some o → V p l e RM_L_least s m ([.ref (ara 0), .ref (arb 0), .ref (arc 0), .ref (ard 0), .ref (are 0)] : List Value).toArray below meth c 10 (dC, dI) A (MQ below (va_Qi (fun r (_ : Unit) => r = o.1) (PostW (dC, dI) (TY cI cJ cZ cO) A (fun _ => (W_RI cI cJ cZ cO ara 2 ra ++ (W_RI cI cJ cZ cO arb 16 rb ++ (W_RI cI cJ cZ cO ard 2 o.2.1 ++ (W_RI cI cJ cZ cO are 16 o.2.2 ++ (W_RI cI cJ cZ cO arc 6 rc))))))) A) ([.ref (ara 0), .ref (arb 0), .ref (arc 0), .ref (ard 0), .ref (are 0)] : List Value).toArray s 0 0 A) 0 0 (W_RI cI cJ cZ cO ara 2 ra ++ (W_RI cI cJ cZ cO arb 16 rb ++ (W_RI cI cJ cZ cO ard 2 rd ++ (W_RI cI cJ cZ cO are 16 re ++ (W_RI cI cJ cZ cO arc 6 rc))))) 111 [(5, .int x5)] []) → ∀ (n : Nat) (x5 : Int32) (x6 : Int32) (x7 : Int32) (rd : (Nat → Int32)) (re : (Nat → Int32)), f_L_least_L14 N ra rb rc  K n x5 x6 x7 rd re = some o → V p l e RM_L_least s m ([.ref (ara 0), .ref (arb 0), .ref (arc 0), .ref (ard 0), .ref (are 0)] : List Value).toArray below meth c 10 (dC, dI) A (MQ below (va_Qi (fun r (_ : Unit) => r = o.1) (PostW (dC, dI) (TY cI cJ cZ cO) A (fun _ => (W_RI cI cJ cZ cO ara 2 ra ++ (W_RI cI cJ cZ cO arb 16 rb ++ (W_RI cI cJ cZ cO ard 2 o.2.1 ++ (W_RI cI cJ cZ cO are 16 o.2.2 ++ (W_RI cI cJ cZ cO arc 6 rc))))))) A) ([.ref (ara 0), .ref (arb 0), .ref (arc 0), .ref (ard 0), .ref (are 0)] : List Value).toArray s 0 0 A) 0 0 (W_RI cI cJ cZ cO ara 2 ra ++ (W_RI cI cJ cZ cO arb 16 rb ++ (W_RI cI cJ cZ cO ard 2 rd ++ (W_RI cI cJ cZ cO are 16 re ++ (W_RI cI cJ cZ cO arc 6 rc))))) 14 [(0, .ref (ara 0)), (1, .ref (arb 0)), (2, .ref (arc 0)), (3, .ref (ard 0)), (4, .ref (are 0)), (5, .int x5), (6, .int x6), (7, .int x7)] [] := by
    intro  K hK n
    induction n with
    | zero => intro x5 x6 x7 rd re hf; cases hf
    | succ n hREC =>
      intro x5 x6 x7 rd re hf
      rw [f_L_least_L14] at hf
      refine V_iload C0 dL_least_14 7 rfl rfl ?_
      refine V_if_lt (tgt := 111) C0 dL_least_16 (by decide) rfl (fun c16 => ?_) (fun c16 => ?_)
      · have hf := ite_t c16 hf
        exact V.sub [5] rfl (hK x5 rd re hf)
      · have hf := ite_f c16 hf
        refine V_iload C0 dL_least_19 7 rfl rfl ?_
        refine V_aload_n C0 dL_least_21 0 rfl rfl ?_
        refine V_aload_n C0 dL_least_22 1 rfl rfl ?_
        refine V_aload_n C0 dL_least_23 2 rfl rfl ?_
        refine V_aload_n C0 dL_least_24 3 rfl rfl ?_
        refine V_aload C0 dL_least_25 4 rfl rfl ?_
        obtain ⟨r_27, hc_27, hf⟩ := bind_inv hf
        refine V_cSI (ws' := (W_RI cI cJ cZ cO ara 2 ra ++ (W_RI cI cJ cZ cO arb 16 rb ++ (W_RI cI cJ cZ cO ard 2 r_27.2.1 ++ (W_RI cI cJ cZ cO are 16 r_27.2.2 ++ (W_RI cI cJ cZ cO arc 6 rc)))))) (As := [.int x7, .ref (ara 0), .ref (arb 0), .ref (arc 0), .ref (ard 0), .ref (are 0)]) (st := []) C0 (c_L_loss l dC dI cI cJ cZ cO ara arb ard are arc N ra rb rd re rc x7 r_27 hc_27) rfl 6 gL_least_L_loss (by decide +kernel) ⟨Nat.le_of_ble_eq_true rfl, Nat.le_of_ble_eq_true rfl⟩ rfl  Cut.all rfl (Nat.le_of_ble_eq_true rfl) dL_least_27 rfl ⟨Nat.zero_le _, Nat.zero_le _⟩ ?_
        refine V_istore (lv' := [(8, .int r_27.1), (0, .ref (ara 0)), (1, .ref (arb 0)), (2, .ref (arc 0)), (3, .ref (ard 0)), (4, .ref (are 0)), (5, .int x5), (6, .int x6), (7, .int x7)]) C0 dL_least_30 (by decide) rfl rfl ?_
        refine V_iload C0 dL_least_32 6 rfl rfl ?_
        refine jn_elim hf (fun (J : Int32 → Option (Int32 × (Nat → Int32) × (Nat → Int32))) => ∀ (s0_75 : Int32), J s0_75 = some o → V p l e RM_L_least s m ([.ref (ara 0), .ref (arb 0), .ref (arc 0), .ref (ard 0), .ref (are 0)] : List Value).toArray below meth c 10 (dC, dI) A (MQ below (va_Qi (fun r (_ : Unit) => r = o.1) (PostW (dC, dI) (TY cI cJ cZ cO) A (fun _ => (W_RI cI cJ cZ cO ara 2 ra ++ (W_RI cI cJ cZ cO arb 16 rb ++ (W_RI cI cJ cZ cO ard 2 o.2.1 ++ (W_RI cI cJ cZ cO are 16 o.2.2 ++ (W_RI cI cJ cZ cO arc 6 rc))))))) A) ([.ref (ara 0), .ref (arb 0), .ref (arc 0), .ref (ard 0), .ref (are 0)] : List Value).toArray s 0 0 A) 0 0 (W_RI cI cJ cZ cO ara 2 ra ++ (W_RI cI cJ cZ cO arb 16 rb ++ (W_RI cI cJ cZ cO ard 2 r_27.2.1 ++ (W_RI cI cJ cZ cO are 16 r_27.2.2 ++ (W_RI cI cJ cZ cO arc 6 rc))))) 75 [(0, .ref (ara 0)), (1, .ref (arb 0)), (2, .ref (arc 0)), (3, .ref (ard 0)), (4, .ref (are 0)), (5, .int x5), (6, .int x6), (7, .int x7), (8, .int r_27.1)] [.int s0_75]) ?_ ?_
        · intro s0_75 hf
          refine V_istore (lv' := [(9, .int s0_75), (0, .ref (ara 0)), (1, .ref (arb 0)), (2, .ref (arc 0)), (3, .ref (ard 0)), (4, .ref (are 0)), (5, .int x5), (6, .int x6), (7, .int x7), (8, .int r_27.1)]) C0 dL_least_75 (by decide) rfl rfl ?_
          refine V_iload C0 dL_least_77 0 rfl rfl ?_
          refine jn_elim hf (fun (J : Int32 → Option (Int32 × (Nat → Int32) × (Nat → Int32))) => ∀ (s0_89 : Int32), J s0_89 = some o → V p l e RM_L_least s m ([.ref (ara 0), .ref (arb 0), .ref (arc 0), .ref (ard 0), .ref (are 0)] : List Value).toArray below meth c 10 (dC, dI) A (MQ below (va_Qi (fun r (_ : Unit) => r = o.1) (PostW (dC, dI) (TY cI cJ cZ cO) A (fun _ => (W_RI cI cJ cZ cO ara 2 ra ++ (W_RI cI cJ cZ cO arb 16 rb ++ (W_RI cI cJ cZ cO ard 2 o.2.1 ++ (W_RI cI cJ cZ cO are 16 o.2.2 ++ (W_RI cI cJ cZ cO arc 6 rc))))))) A) ([.ref (ara 0), .ref (arb 0), .ref (arc 0), .ref (ard 0), .ref (are 0)] : List Value).toArray s 0 0 A) 0 0 (W_RI cI cJ cZ cO ara 2 ra ++ (W_RI cI cJ cZ cO arb 16 rb ++ (W_RI cI cJ cZ cO ard 2 r_27.2.1 ++ (W_RI cI cJ cZ cO are 16 r_27.2.2 ++ (W_RI cI cJ cZ cO arc 6 rc))))) 89 [(0, .ref (ara 0)), (1, .ref (arb 0)), (2, .ref (arc 0)), (3, .ref (ard 0)), (4, .ref (are 0)), (6, .int x6), (7, .int x7), (8, .int r_27.1), (9, .int s0_75)] [.int s0_89]) ?_ ?_
          · intro s0_89 hf
            refine V_istore (lv' := [(5, .int s0_89), (0, .ref (ara 0)), (1, .ref (arb 0)), (2, .ref (arc 0)), (3, .ref (ard 0)), (4, .ref (are 0)), (6, .int x6), (7, .int x7), (8, .int r_27.1), (9, .int s0_75)]) C0 dL_least_89 (by decide) rfl rfl ?_
            refine V_iload C0 dL_least_91 9 rfl rfl ?_
            refine V_if_eq (tgt := 101) C0 dL_least_93 (by decide) rfl (fun c93 => ?_) (fun c93 => ?_)
            · have hf := ite_t c93 hf
              refine V_iload C0 dL_least_101 6 rfl rfl ?_
              refine V_istore (lv' := [(6, .int x6), (5, .int s0_89), (0, .ref (ara 0)), (1, .ref (arb 0)), (2, .ref (arc 0)), (3, .ref (ard 0)), (4, .ref (are 0)), (7, .int x7), (8, .int r_27.1), (9, .int s0_75)]) C0 dL_least_103 (by decide) rfl rfl ?_
              refine V_iinc (k := 7) (v := x7 + (-1)) (lv' := [(7, .int (x7 + (-1))), (6, .int x6), (5, .int s0_89), (0, .ref (ara 0)), (1, .ref (arb 0)), (2, .ref (arc 0)), (3, .ref (ard 0)), (4, .ref (are 0)), (8, .int r_27.1), (9, .int s0_75)]) C0 dL_least_105 rfl rfl (by decide) rfl rfl ?_
              refine V_goto (tgt := 14) C0 dL_least_108 (by decide) ?_
              exact V.sub [3, 4, 5, 6, 7, 2, 1, 0] rfl (hREC s0_89 x6 (x7 + (-1)) r_27.2.1 r_27.2.2 hf)
            · have hf := ite_f c93 hf
              refine V_iload C0 dL_least_96 8 rfl rfl ?_
              refine V_goto (tgt := 103) C0 dL_least_98 (by decide) ?_
              refine V_istore (lv' := [(6, .int r_27.1), (5, .int s0_89), (0, .ref (ara 0)), (1, .ref (arb 0)), (2, .ref (arc 0)), (3, .ref (ard 0)), (4, .ref (are 0)), (7, .int x7), (8, .int r_27.1), (9, .int s0_75)]) C0 dL_least_103 (by decide) rfl rfl ?_
              refine V_iinc (k := 7) (v := x7 + (-1)) (lv' := [(7, .int (x7 + (-1))), (6, .int r_27.1), (5, .int s0_89), (0, .ref (ara 0)), (1, .ref (arb 0)), (2, .ref (arc 0)), (3, .ref (ard 0)), (4, .ref (are 0)), (8, .int r_27.1), (9, .int s0_75)]) C0 dL_least_105 rfl rfl (by decide) rfl rfl ?_
              refine V_goto (tgt := 14) C0 dL_least_108 (by decide) ?_
              exact V.sub [3, 4, 5, 6, 7, 2, 1, 0] rfl (hREC s0_89 r_27.1 (x7 + (-1)) r_27.2.1 r_27.2.2 hf)
          · intro J89 hJ89 hf
            refine V_if_eq (tgt := 87) C0 dL_least_79 (by decide) rfl (fun c79 => ?_) (fun c79 => ?_)
            · have hf := ite_t c79 hf
              refine V_iload C0 dL_least_87 6 rfl rfl ?_
              exact V.sub [1, 2, 3, 4, 5, 7, 8, 9, 0] rfl (hJ89 x5 hf)
            · have hf := ite_f c79 hf
              refine V_iload C0 dL_least_82 8 rfl rfl ?_
              refine V_goto (tgt := 89) C0 dL_least_84 (by decide) ?_
              exact V.sub [1, 2, 3, 4, 5, 7, 8, 9, 0] rfl (hJ89 x7 hf)
        · intro J75 hJ75 hf
          refine jn_elim hf (fun (J : Unit → Option (Int32 × (Nat → Int32) × (Nat → Int32))) => ∀ (u : Unit), J u = some o → V p l e RM_L_least s m ([.ref (ara 0), .ref (arb 0), .ref (arc 0), .ref (ard 0), .ref (are 0)] : List Value).toArray below meth c 10 (dC, dI) A (MQ below (va_Qi (fun r (_ : Unit) => r = o.1) (PostW (dC, dI) (TY cI cJ cZ cO) A (fun _ => (W_RI cI cJ cZ cO ara 2 ra ++ (W_RI cI cJ cZ cO arb 16 rb ++ (W_RI cI cJ cZ cO ard 2 o.2.1 ++ (W_RI cI cJ cZ cO are 16 o.2.2 ++ (W_RI cI cJ cZ cO arc 6 rc))))))) A) ([.ref (ara 0), .ref (arb 0), .ref (arc 0), .ref (ard 0), .ref (are 0)] : List Value).toArray s 0 0 A) 0 0 (W_RI cI cJ cZ cO ara 2 ra ++ (W_RI cI cJ cZ cO arb 16 rb ++ (W_RI cI cJ cZ cO ard 2 r_27.2.1 ++ (W_RI cI cJ cZ cO are 16 r_27.2.2 ++ (W_RI cI cJ cZ cO arc 6 rc))))) 70 [(0, .ref (ara 0)), (1, .ref (arb 0)), (2, .ref (arc 0)), (3, .ref (ard 0)), (4, .ref (are 0)), (5, .int x5), (6, .int x6), (7, .int x7), (8, .int r_27.1)] []) ?_ ?_
          · intro u hf
            refine V_iconst (v := 1) C0 dL_least_70 (by decide) rfl ?_
            refine V_goto (tgt := 75) C0 dL_least_71 (by decide) ?_
            exact V.sub [0, 1, 2, 3, 4, 5, 6, 7, 8] rfl (hJ75 1 hf)
          · intro J70 hJ70 hf
            refine V_if_lt (tgt := 70) C0 dL_least_34 (by decide) rfl (fun c34 => ?_) (fun c34 => ?_)
            · have hf := ite_t c34 hf
              exact V.sub [1, 2, 3, 4, 5, 6, 7, 8, 0] rfl (hJ70 () hf)
            · have hf := ite_f c34 hf
              refine V_iload C0 dL_least_37 0 rfl rfl ?_
              refine V_iload C0 dL_least_39 7 rfl rfl ?_
              refine V_icmp_lt (tgt := 70) C0 dL_least_41 (by decide) rfl (fun c41 => ?_) (fun c41 => ?_)
              · have hf := ite_t c41 hf
                exact V.sub [1, 2, 3, 4, 5, 6, 7, 8, 0] rfl (hJ70 () hf)
              · have hf := ite_f c41 hf
                refine V_iload C0 dL_least_44 0 rfl rfl ?_
                refine V_iload C0 dL_least_46 7 rfl rfl ?_
                refine V_icmp_ne (tgt := 74) C0 dL_least_48 (by decide) rfl (fun c48 => ?_) (fun c48 => ?_)
                · have hf := ite_f c48 hf
                  refine V_iconst (v := 0) C0 dL_least_74 (by decide) rfl ?_
                  exact V.sub [1, 2, 3, 4, 5, 6, 7, 8, 0] rfl (hJ75 0 hf)
                · have hf := ite_t c48 hf
                  refine V_aload_n C0 dL_least_51 2 rfl rfl ?_
                  refine V_iconst (v := 2) C0 dL_least_52 (by decide) rfl ?_
                  refine V_iload C0 dL_least_53 8 rfl rfl ?_
                  refine V_imul C0 dL_least_55 rfl ?_
                  refine V_iconst (v := 1) C0 dL_least_56 (by decide) rfl ?_
                  refine V_iadd C0 dL_least_57 rfl ?_
                  obtain ⟨hi58, hf⟩ := ck_inv hf
                  refine V_iald C0 1 0 rfl rfl hi58 dL_least_58 rfl ?_
                  refine V_aload_n C0 dL_least_59 2 rfl rfl ?_
                  refine V_iconst (v := 2) C0 dL_least_60 (by decide) rfl ?_
                  refine V_iload C0 dL_least_61 6 rfl rfl ?_
                  refine V_imul C0 dL_least_63 rfl ?_
                  refine V_iconst (v := 1) C0 dL_least_64 (by decide) rfl ?_
                  refine V_iadd C0 dL_least_65 rfl ?_
                  obtain ⟨hi66, hf⟩ := ck_inv hf
                  refine V_iald C0 1 0 rfl rfl hi66 dL_least_66 rfl ?_
                  refine V_icmp_ge (tgt := 74) C0 dL_least_67 (by decide) rfl (fun c67 => ?_) (fun c67 => ?_)
                  · have hf := ite_t c67 hf
                    refine V_iconst (v := 0) C0 dL_least_74 (by decide) rfl ?_
                    exact V.sub [1, 2, 3, 4, 5, 6, 7, 8, 0] rfl (hJ75 0 hf)
                  · have hf := ite_f c67 hf
                    exact V.sub [1, 2, 3, 4, 5, 6, 7, 8, 0] rfl (hJ70 () hf)
  refine V.sub [3, 4, 5, 6, 7, 2, 1, 0] rfl (hL14  _ ?_ N ((-6)) 0 x7_1 rd re hf)
  intro x5_14 rd_14 re_14 hf
  refine V_iload C0 dL_least_111 0 rfl rfl ?_
  obtain rfl := some_inv hf
  exact V_iret C0 () rfl rfl dL_least_113
abbrev RM_L_puts : Room := { frames := 3, cells := 0, slots := 0, locals := 63 }
set_option maxRecDepth 100000 in
set_option maxHeartbeats 4000000 in
theorem c_L_puts (l : Launch) (dC : Nat → ClassId) (dI : Nat → Nat → Nat) (cI cJ cZ cO : ClassId) (ab : Nat → Nat) (ac_ : Nat → Nat) (atr : Nat → Nat) (ah : Nat → Nat) (ap : Nat → Nat) (al : Nat → Nat) (abc : Nat → Nat) (aac : Nat → Nat) (anb : Nat → Nat) (N : Nat) (pd : PV) (x1 : Int32) (o : Int32 × PV) (hf : f_L_puts N pd x1 = some o) : MetI l yL_puts wsL_puts RM_L_puts (dC, dI) (TY cI cJ cZ cO) [.ref (ab 0), .int x1] (W_BO cI cJ cZ cO ab ac_ atr ah ap al abc aac anb ++ (W_P cI cJ cZ cO ap pd.1 pd.2)) (fun r (_ : Unit) => r = o.1) (fun _ => (W_BO cI cJ cZ cO ab ac_ atr ah ap al abc aac anb ++ (W_P cI cJ cZ cO ap o.2.1 o.2.2))) := by
  refine MetI.ofV (cc := cL_puts) (maxL := 3) (ret := (some .boolean)) (own := RL) (lv0 := [(0, .ref (ab 0)), (1, .int x1)]) (by decide) rfl rfl (Nat.le_of_ble_eq_true rfl) rfl ?_
  intro p e s m below meth c A C0 _
  unfold f_L_puts at hf
  refine V_aload_n C0 dL_puts_0 0 rfl rfl ?_
  obtain ⟨r_1, hc_1, hf⟩ := bind_inv hf
  refine V_cVI (ws' := (W_BO cI cJ cZ cO ab ac_ atr ah ap al abc aac anb ++ (W_P cI cJ cZ cO ap r_1.2.1 r_1.2.2))) (As := []) (b := ab 0) (st := []) C0 (c_X7_wipe l dC dI cI cJ cZ cO ab ac_ atr ah ap al abc aac anb N pd  r_1 hc_1) rfl 0 gL_puts_X7_wipe (by decide +kernel) ⟨Nat.le_of_ble_eq_true rfl, Nat.le_of_ble_eq_true rfl⟩ rfl 0 7 rfl rfl  Cut.all rfl (Nat.le_of_ble_eq_true rfl) dL_puts_1 rfl ⟨Nat.zero_le _, Nat.zero_le _⟩ ?_
  refine V_pop C0 dL_puts_4 rfl rfl ?_
  refine V_iconst (v := 0) C0 dL_puts_5 (by decide) rfl ?_
  refine V_istore_n (lv' := [(2, .int 0), (0, .ref (ab 0)), (1, .int x1)]) C0 dL_puts_6 rfl (by decide) rfl rfl ?_
  have hL7 : ∀ (K : PV → Option (Int32 × PV)), (∀ (pd : PV), K pd = some o → V p l e RM_L_puts s m ([.ref (ab 0), .int x1] : List Value).toArray below meth c 3 (dC, dI) A (MQ below (va_Qi (fun r (_ : Unit) => r = o.1) (PostW (dC, dI) (TY cI cJ cZ cO) A (fun _ => (W_BO cI cJ cZ cO ab ac_ atr ah ap al abc aac anb ++ (W_P cI cJ cZ cO ap o.2.1 o.2.2)))) A) ([.ref (ab 0), .int x1] : List Value).toArray s 0 0 A) 0 0 (W_BO cI cJ cZ cO ab ac_ atr ah ap al abc aac anb ++ (W_P cI cJ cZ cO ap pd.1 pd.2)) 43 [(0, .ref (ab 0))] []) → ∀ (n : Nat) (x2 : Int32) (pd : PV), f_L_puts_L7 N x1  K n x2 pd = some o → V p l e RM_L_puts s m ([.ref (ab 0), .int x1] : List Value).toArray below meth c 3 (dC, dI) A (MQ below (va_Qi (fun r (_ : Unit) => r = o.1) (PostW (dC, dI) (TY cI cJ cZ cO) A (fun _ => (W_BO cI cJ cZ cO ab ac_ atr ah ap al abc aac anb ++ (W_P cI cJ cZ cO ap o.2.1 o.2.2)))) A) ([.ref (ab 0), .int x1] : List Value).toArray s 0 0 A) 0 0 (W_BO cI cJ cZ cO ab ac_ atr ah ap al abc aac anb ++ (W_P cI cJ cZ cO ap pd.1 pd.2)) 7 [(0, .ref (ab 0)), (1, .int x1), (2, .int x2)] [] := by
    intro  K hK n
    induction n with
    | zero => intro x2 pd hf; cases hf
    | succ n hREC =>
      intro x2 pd hf
      rw [f_L_puts_L7] at hf
      refine V_iload_n C0 dL_puts_7 2 rfl rfl ?_
      refine V_iload_n C0 dL_puts_8 1 rfl rfl ?_
      obtain ⟨r_9, hc_9, hf⟩ := bind_inv hf
      refine V_cSI (ws' := (W_BO cI cJ cZ cO ab ac_ atr ah ap al abc aac anb ++ (W_P cI cJ cZ cO ap pd.1 pd.2))) (As := [.int x1]) (st := [.int x2]) C0 (c_L_size l dC dI cI cJ cZ cO  N  x1 r_9 hc_9) rfl 1 gL_puts_L_size (by decide +kernel) ⟨Nat.le_of_ble_eq_true rfl, Nat.le_of_ble_eq_true rfl⟩ rfl  ⟨_, (pr pr1), fun _ => (pr pr1)⟩ rfl (Nat.le_of_ble_eq_true rfl) dL_puts_9 rfl ⟨Nat.zero_le _, Nat.zero_le _⟩ ?_
      refine V_icmp_ge (tgt := 43) C0 dL_puts_12 (by decide) rfl (fun c12 => ?_) (fun c12 => ?_)
      · have hf := ite_t c12 hf
        exact V.sub [0] rfl (hK pd hf)
      · have hf := ite_f c12 hf
        refine V_aload_n C0 dL_puts_15 0 rfl rfl ?_
        refine V_bipush (v := 96) C0 dL_puts_16 (by decide) rfl ?_
        refine V_iload_n C0 dL_puts_18 1 rfl rfl ?_
        refine V_iload_n C0 dL_puts_19 2 rfl rfl ?_
        refine V_iconst (v := 1) C0 dL_puts_20 (by decide) rfl ?_
        obtain ⟨r_21, hc_21, hf⟩ := bind_inv hf
        refine V_cSI (ws' := (W_BO cI cJ cZ cO ab ac_ atr ah ap al abc aac anb ++ (W_P cI cJ cZ cO ap pd.1 pd.2))) (As := [.int x1, .int x2, .int 1]) (st := [.int 96, .ref (ab 0)]) C0 (c_L_some l dC dI cI cJ cZ cO  N  x1 x2 1 r_21 hc_21) rfl 3 gL_puts_L_some (by decide +kernel) ⟨Nat.le_of_ble_eq_true rfl, Nat.le_of_ble_eq_true rfl⟩ rfl  ⟨_, (pr pr1), fun _ => (pr pr1)⟩ rfl (Nat.le_of_ble_eq_true rfl) dL_puts_21 rfl ⟨Nat.zero_le _, Nat.zero_le _⟩ ?_
        refine V_iadd C0 dL_puts_24 rfl ?_
        refine V_i2l C0 dL_puts_25 rfl ?_
        obtain ⟨r_26, hc_26, hf⟩ := bind_inv hf
        refine V_cVI (ws' := (W_BO cI cJ cZ cO ab ac_ atr ah ap al abc aac anb ++ (W_P cI cJ cZ cO ap r_26.2.1 r_26.2.2))) (As := [.long ((96 + r_21).toInt64)]) (b := ab 0) (st := []) C0 (c_X7_put l dC dI cI cJ cZ cO ab ac_ atr ah ap al abc aac anb N pd ((96 + r_21).toInt64) r_26 hc_26) rfl 1 gL_puts_X7_put (by decide +kernel) ⟨Nat.le_of_ble_eq_true rfl, Nat.le_of_ble_eq_true rfl⟩ rfl 0 7 rfl rfl  Cut.all rfl (Nat.le_of_ble_eq_true rfl) dL_puts_26 rfl ⟨Nat.zero_le _, Nat.zero_le _⟩ ?_
        refine V_iload_n C0 dL_puts_29 2 rfl rfl ?_
        refine V_iconst (v := 1) C0 dL_puts_30 (by decide) rfl ?_
        refine V_iadd C0 dL_puts_31 rfl ?_
        refine V_icmp_eq (tgt := 37) C0 dL_puts_32 (by decide) rfl (fun c32 => ?_) (fun c32 => ?_)
        · have hf := ite_t c32 hf
          refine V_iinc (k := 2) (v := x2 + 1) (lv' := [(2, .int (x2 + 1)), (0, .ref (ab 0)), (1, .int x1)]) C0 dL_puts_37 rfl rfl (by decide) rfl rfl ?_
          refine V_goto (tgt := 7) C0 dL_puts_40 (by decide) ?_
          exact V.sub [1, 2, 0] rfl (hREC (x2 + 1) r_26.2 hf)
        · have hf := ite_f c32 hf
          refine V_iconst (v := 0) C0 dL_puts_35 (by decide) rfl ?_
          obtain rfl := some_inv hf
          exact V_zret C0 rfl () rfl rfl dL_puts_36
  refine V.sub [1, 2, 0] rfl (hL7  _ ?_ N 0 r_1.2 hf)
  intro pd_7 hf
  refine V_aload_n C0 dL_puts_43 0 rfl rfl ?_
  obtain ⟨r_44, hc_44, hf⟩ := bind_inv hf
  refine V_cVI (ws' := (W_BO cI cJ cZ cO ab ac_ atr ah ap al abc aac anb ++ (W_P cI cJ cZ cO ap pd_7.1 pd_7.2))) (As := []) (b := ab 0) (st := []) C0 (c_X7_fault l dC dI cI cJ cZ cO ab ac_ atr ah ap al abc aac anb N pd_7  r_44 hc_44) rfl 0 gL_puts_X7_fault (by decide +kernel) ⟨Nat.le_of_ble_eq_true rfl, Nat.le_of_ble_eq_true rfl⟩ rfl 0 7 rfl rfl  Cut.all rfl (Nat.le_of_ble_eq_true rfl) dL_puts_44 rfl ⟨Nat.zero_le _, Nat.zero_le _⟩ ?_
  refine V_bipush (v := (-6)) C0 dL_puts_47 (by decide) rfl ?_
  refine V_icmp_ne (tgt := 56) C0 dL_puts_49 (by decide) rfl (fun c49 => ?_) (fun c49 => ?_)
  · have hf := ite_f c49 hf
    refine V_iconst (v := 0) C0 dL_puts_56 (by decide) rfl ?_
    obtain rfl := some_inv hf
    exact V_zret C0 rfl () rfl rfl dL_puts_57
  · have hf := ite_t c49 hf
    refine V_iconst (v := 1) C0 dL_puts_52 (by decide) rfl ?_
    refine V_goto (tgt := 57) C0 dL_puts_53 (by decide) ?_
    obtain rfl := some_inv hf
    exact V_zret C0 rfl () rfl rfl dL_puts_57
abbrev RM_L_text : Room := { frames := 1, cells := 0, slots := 0, locals := 21 }
set_option maxRecDepth 100000 in
set_option maxHeartbeats 4000000 in
theorem c_L_text (l : Launch) (dC : Nat → ClassId) (dI : Nat → Nat → Nat) (cI cJ cZ cO : ClassId)  (N : Nat) (x0 : Int32) (x1 : Int32) (x2 : Int32) (o : Int32) (hf : f_L_text N x0 x1 x2 = some o) : MetI l yL_text wsL_text RM_L_text (dC, dI) (TY cI cJ cZ cO) [.int x0, .int x1, .int x2] ([] : va_W) (fun r (_ : Unit) => r = o) (fun _ => ([] : va_W)) := by
  refine MetI.ofV (cc := cL_text) (maxL := 5) (ret := (some .int)) (own := RL) (lv0 := [(0, .int x0), (1, .int x1), (2, .int x2)]) (by decide) rfl rfl (Nat.le_of_ble_eq_true rfl) rfl ?_
  intro p e s m below meth c A C0 _
  unfold f_L_text at hf
  refine V_iconst (v := 0) C0 dL_text_0 (by decide) rfl ?_
  refine V_istore_n (lv' := [(3, .int 0), (0, .int x0), (1, .int x1), (2, .int x2)]) C0 dL_text_1 rfl (by decide) rfl rfl ?_
  refine V_iconst (v := 0) C0 dL_text_2 (by decide) rfl ?_
  refine V_istore (lv' := [(4, .int 0), (3, .int 0), (0, .int x0), (1, .int x1), (2, .int x2)]) C0 dL_text_3 (by decide) rfl rfl ?_
  have hL5 : ∀ (K : Int32 → Option (Int32)), (∀ (x3 : Int32), K x3 = some o → V p l e RM_L_text s m ([.int x0, .int x1, .int x2] : List Value).toArray below meth c 5 (dC, dI) A (MQ below (va_Qi (fun r (_ : Unit) => r = o) (PostW (dC, dI) (TY cI cJ cZ cO) A (fun _ => ([] : va_W))) A) ([.int x0, .int x1, .int x2] : List Value).toArray s 0 0 A) 0 0 ([] : va_W) 35 [(3, .int x3)] []) → ∀ (n : Nat) (x3 : Int32) (x4 : Int32), f_L_text_L5 N x0 x1 x2  K n x3 x4 = some o → V p l e RM_L_text s m ([.int x0, .int x1, .int x2] : List Value).toArray below meth c 5 (dC, dI) A (MQ below (va_Qi (fun r (_ : Unit) => r = o) (PostW (dC, dI) (TY cI cJ cZ cO) A (fun _ => ([] : va_W))) A) ([.int x0, .int x1, .int x2] : List Value).toArray s 0 0 A) 0 0 ([] : va_W) 5 [(0, .int x0), (1, .int x1), (2, .int x2), (3, .int x3), (4, .int x4)] [] := by
    intro  K hK n
    induction n with
    | zero => intro x3 x4 hf; cases hf
    | succ n hREC =>
      intro x3 x4 hf
      rw [f_L_text_L5] at hf
      refine V_iload C0 dL_text_5 4 rfl rfl ?_
      refine V_iload_n C0 dL_text_7 1 rfl rfl ?_
      refine V_icmp_ge (tgt := 35) C0 dL_text_8 (by decide) rfl (fun c8 => ?_) (fun c8 => ?_)
      · have hf := ite_t c8 hf
        exact V.sub [3] rfl (hK x3 hf)
      · have hf := ite_f c8 hf
        refine V_bipush (v := 7) C0 dL_text_11 (by decide) rfl ?_
        refine V_iload_n C0 dL_text_13 3 rfl rfl ?_
        refine V_imul C0 dL_text_14 rfl ?_
        refine V_iconst (v := 1) C0 dL_text_15 (by decide) rfl ?_
        refine V_iadd C0 dL_text_16 rfl ?_
        refine V_iload_n C0 dL_text_17 0 rfl rfl ?_
        refine V_iconst (v := 2) C0 dL_text_18 (by decide) rfl ?_
        refine V_iload C0 dL_text_19 4 rfl rfl ?_
        refine V_imul C0 dL_text_21 rfl ?_
        refine V_ishr C0 dL_text_22 rfl ?_
        refine V_iload_n C0 dL_text_23 2 rfl rfl ?_
        obtain ⟨r_24, hc_24, hf⟩ := bind_inv hf
        refine V_cSI (ws' := ([] : va_W)) (As := [.int (x0 >>> ((2 * x4) &&& 31)), .int x2]) (st := [.int ((7 * x3) + 1)]) C0 (c_L_low l dC dI cI cJ cZ cO  N  (x0 >>> ((2 * x4) &&& 31)) x2 r_24 hc_24) rfl 2 gL_text_L_low (by decide +kernel) ⟨Nat.le_of_ble_eq_true rfl, Nat.le_of_ble_eq_true rfl⟩ rfl  Cut.all rfl (Nat.le_of_ble_eq_true rfl) dL_text_24 rfl ⟨Nat.zero_le _, Nat.zero_le _⟩ ?_
        refine V_iadd C0 dL_text_27 rfl ?_
        refine V_topi (fun x3_1 ex3_1 => ?_)
        have hf := bd_inv ex3_1 hf
        refine V_istore_n (lv' := [(3, .int x3_1), (0, .int x0), (1, .int x1), (2, .int x2), (4, .int x4)]) C0 dL_text_28 rfl (by decide) rfl rfl ?_
        refine V_iinc (k := 4) (v := x4 + 1) (lv' := [(4, .int (x4 + 1)), (3, .int x3_1), (0, .int x0), (1, .int x1), (2, .int x2)]) C0 dL_text_29 rfl rfl (by decide) rfl rfl ?_
        refine V_goto (tgt := 5) C0 dL_text_32 (by decide) ?_
        exact V.sub [2, 3, 4, 1, 0] rfl (hREC x3_1 (x4 + 1) hf)
  refine V.sub [2, 3, 4, 1, 0] rfl (hL5  _ ?_ N 0 0 hf)
  intro x3_5 hf
  refine V_iload_n C0 dL_text_35 0 rfl rfl ?_
  obtain rfl := some_inv hf
  exact V_iret C0 () rfl rfl dL_text_36
