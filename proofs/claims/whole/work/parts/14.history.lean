def f_X3_takeBack (N : Nat) (ct : CV) (hi : HV) : Option (CV × HV) := if 0 < hi.1 then ck (hi.1 - 1) 6 (if (hi.1 - 1).toNatClampNeg = 0 then (f_X2_copyFrom N ct hi.2.1 ).bind (fun (r_28 : CV) => some (r_28, (hi.1 - 1, hi.2.1, hi.2.2.1, hi.2.2.2.1, hi.2.2.2.2.1, hi.2.2.2.2.2.1, hi.2.2.2.2.2.2))) else if (hi.1 - 1).toNatClampNeg = 1 then (f_X2_copyFrom N ct hi.2.2.1 ).bind (fun (r_28 : CV) => some (r_28, (hi.1 - 1, hi.2.1, hi.2.2.1, hi.2.2.2.1, hi.2.2.2.2.1, hi.2.2.2.2.2.1, hi.2.2.2.2.2.2))) else if (hi.1 - 1).toNatClampNeg = 2 then (f_X2_copyFrom N ct hi.2.2.2.1 ).bind (fun (r_28 : CV) => some (r_28, (hi.1 - 1, hi.2.1, hi.2.2.1, hi.2.2.2.1, hi.2.2.2.2.1, hi.2.2.2.2.2.1, hi.2.2.2.2.2.2))) else if (hi.1 - 1).toNatClampNeg = 3 then (f_X2_copyFrom N ct hi.2.2.2.2.1 ).bind (fun (r_28 : CV) => some (r_28, (hi.1 - 1, hi.2.1, hi.2.2.1, hi.2.2.2.1, hi.2.2.2.2.1, hi.2.2.2.2.2.1, hi.2.2.2.2.2.2))) else if (hi.1 - 1).toNatClampNeg = 4 then (f_X2_copyFrom N ct hi.2.2.2.2.2.1 ).bind (fun (r_28 : CV) => some (r_28, (hi.1 - 1, hi.2.1, hi.2.2.1, hi.2.2.2.1, hi.2.2.2.2.1, hi.2.2.2.2.2.1, hi.2.2.2.2.2.2))) else if (hi.1 - 1).toNatClampNeg = 5 then (f_X2_copyFrom N ct hi.2.2.2.2.2.2 ).bind (fun (r_28 : CV) => some (r_28, (hi.1 - 1, hi.2.1, hi.2.2.1, hi.2.2.2.1, hi.2.2.2.2.1, hi.2.2.2.2.2.1, hi.2.2.2.2.2.2))) else none) else some (ct, hi)
abbrev RM_X3_takeBack : Room := { frames := 2, cells := 0, slots := 0, locals := 81 }
theorem in_X3_takeBack_X3 : ∀ w ∈ u_ws RX3 TX3 2, w ∈ wsX3_takeBack := by decide +kernel
theorem fl_X3_takeBack_11 : FL RX3 wsX3_takeBack 3 11 1 RX3 TX3 2 := ⟨in_X3_takeBack_X3, rfl, by decide, by decide +kernel, rfl⟩
theorem fl_X3_takeBack_18 : FL RX3 wsX3_takeBack 3 18 0 RX3 TX3 2 := ⟨in_X3_takeBack_X3, rfl, by decide, by decide +kernel, rfl⟩
set_option maxRecDepth 100000 in
set_option maxHeartbeats 4000000 in
theorem c_X3_takeBack (l : Launch) (dC : Nat → ClassId) (dI : Nat → Nat → Nat) (cI cJ cZ cO : ClassId) (ac_ : Nat → Nat) (ah : Nat → Nat) (ahs : Nat → Nat → Nat) (N : Nat) (ct : CV) (hi : HV) (o : CV × HV) (hf : f_X3_takeBack N ct hi = some o) : MetV l yX3_takeBack wsX3_takeBack RM_X3_takeBack (dC, dI) (TY cI cJ cZ cO) [.ref (ah 0), .ref (ac_ 0)] (W_C cI cJ cZ cO ac_ ct ++ (W_H cI cJ cZ cO ah ahs hi)) (fun _ : Nat → Nat → Nat => True) (fun (ahs : Nat → Nat → Nat) => (W_C cI cJ cZ cO ac_ o.1 ++ (W_H cI cJ cZ cO ah ahs o.2))) := by
  refine MetV.ofV (cc := cX3_takeBack) (maxL := 2) (ret := none) (own := RX3) (lv0 := [(0, .ref (ah 0)), (1, .ref (ac_ 0))]) (by decide) rfl rfl (Nat.le_of_ble_eq_true rfl) rfl ?_
  intro p e s m below meth c A C0 _
  unfold f_X3_takeBack at hf
  refine V_aload_n C0 dX3_takeBack_0 0 rfl rfl ?_
  refine V_get C0 fl_X3_takeBack_18 7 rfl rfl dX3_takeBack_1 rfl ?_
  refine V_if_gt (tgt := 8) C0 dX3_takeBack_4 (by decide) rfl (fun c4 => ?_) (fun c4 => ?_)
  · have hf := ite_t c4 hf
    refine V_aload_n C0 dX3_takeBack_8 0 rfl rfl ?_
    refine V_dup C0 dX3_takeBack_9 rfl rfl ?_
    refine V_get C0 fl_X3_takeBack_18 7 rfl rfl dX3_takeBack_10 rfl ?_
    refine V_iconst (v := 1) C0 dX3_takeBack_13 (by decide) rfl ?_
    refine V_isub C0 dX3_takeBack_14 rfl ?_
    refine V_put (ws' := (W_C cI cJ cZ cO ac_ ct ++ (W_H cI cJ cZ cO ah ahs ((hi.1 - 1, hi.2.1, hi.2.2.1, hi.2.2.2.1, hi.2.2.2.2.1, hi.2.2.2.2.2.1, hi.2.2.2.2.2.2))))) C0 fl_X3_takeBack_18 tyX3_ok nmX3 rfl 7 rfl rfl rfl (Nat.le_of_ble_eq_true rfl) dX3_takeBack_15 rfl rfl ?_
    refine V_aload_n C0 dX3_takeBack_18 1 rfl rfl ?_
    refine V_aload_n C0 dX3_takeBack_19 0 rfl rfl ?_
    refine V_get C0 fl_X3_takeBack_11 7 rfl rfl dX3_takeBack_20 rfl ?_
    refine V_aload_n C0 dX3_takeBack_23 0 rfl rfl ?_
    refine V_get C0 fl_X3_takeBack_18 7 rfl rfl dX3_takeBack_24 rfl ?_
    obtain ⟨hi27, hf⟩ := ck_inv hf
    by_cases hq27_0 : (hi.1 - 1).toNatClampNeg = 0
    · have hf := ite_t hq27_0 hf
      refine V_aald C0 8 3 rfl rfl hi27 (by show some (_ : Nat) = _; rw [hq27_0]) dX3_takeBack_27 rfl ?_
      obtain ⟨r_28, hc_28, hf⟩ := bind_inv hf
      refine V_cVV (ws' := (W_C cI cJ cZ cO ac_ r_28 ++ (W_H cI cJ cZ cO ah ahs ((hi.1 - 1, hi.2.1, hi.2.2.1, hi.2.2.2.1, hi.2.2.2.2.1, hi.2.2.2.2.2.1, hi.2.2.2.2.2.2))))) (As := [.ref (ahs 0 0)]) (b := ac_ 0) (st := []) C0 (c_X2_copyFrom l dC dI cI cJ cZ cO ac_ (ahs 0) N ct hi.2.1  r_28 hc_28) rfl 1 gX3_takeBack_X2_copyFrom (by decide +kernel) ⟨Nat.le_of_ble_eq_true rfl, Nat.le_of_ble_eq_true rfl⟩ rfl 0 2 rfl rfl  ⟨_, (pt (pr (pte (pr (pr (pr (pr pr1))))))), fun _ => (pt (pr (pte (pr (pr (pr (pr pr1)))))))⟩ rfl (Nat.le_of_ble_eq_true rfl) dX3_takeBack_28 rfl ⟨Nat.zero_le _, Nat.zero_le _⟩ ?_
      obtain rfl := some_inv hf
      exact V_vret C0 ahs trivial rfl dX3_takeBack_31
    · have hf := ite_f hq27_0 hf
      by_cases hq27_1 : (hi.1 - 1).toNatClampNeg = 1
      · have hf := ite_t hq27_1 hf
        refine V_aald C0 8 3 rfl rfl hi27 (by show some (_ : Nat) = _; rw [hq27_1]) dX3_takeBack_27 rfl ?_
        obtain ⟨r_28, hc_28, hf⟩ := bind_inv hf
        refine V_cVV (ws' := (W_C cI cJ cZ cO ac_ r_28 ++ (W_H cI cJ cZ cO ah ahs ((hi.1 - 1, hi.2.1, hi.2.2.1, hi.2.2.2.1, hi.2.2.2.2.1, hi.2.2.2.2.2.1, hi.2.2.2.2.2.2))))) (As := [.ref (ahs 1 0)]) (b := ac_ 0) (st := []) C0 (c_X2_copyFrom l dC dI cI cJ cZ cO ac_ (ahs 1) N ct hi.2.2.1  r_28 hc_28) rfl 1 gX3_takeBack_X2_copyFrom (by decide +kernel) ⟨Nat.le_of_ble_eq_true rfl, Nat.le_of_ble_eq_true rfl⟩ rfl 0 2 rfl rfl  ⟨_, (pt (pr (pr (pte (pr (pr (pr pr1))))))), fun _ => (pt (pr (pr (pte (pr (pr (pr pr1)))))))⟩ rfl (Nat.le_of_ble_eq_true rfl) dX3_takeBack_28 rfl ⟨Nat.zero_le _, Nat.zero_le _⟩ ?_
        obtain rfl := some_inv hf
        exact V_vret C0 ahs trivial rfl dX3_takeBack_31
      · have hf := ite_f hq27_1 hf
        by_cases hq27_2 : (hi.1 - 1).toNatClampNeg = 2
        · have hf := ite_t hq27_2 hf
          refine V_aald C0 8 3 rfl rfl hi27 (by show some (_ : Nat) = _; rw [hq27_2]) dX3_takeBack_27 rfl ?_
          obtain ⟨r_28, hc_28, hf⟩ := bind_inv hf
          refine V_cVV (ws' := (W_C cI cJ cZ cO ac_ r_28 ++ (W_H cI cJ cZ cO ah ahs ((hi.1 - 1, hi.2.1, hi.2.2.1, hi.2.2.2.1, hi.2.2.2.2.1, hi.2.2.2.2.2.1, hi.2.2.2.2.2.2))))) (As := [.ref (ahs 2 0)]) (b := ac_ 0) (st := []) C0 (c_X2_copyFrom l dC dI cI cJ cZ cO ac_ (ahs 2) N ct hi.2.2.2.1  r_28 hc_28) rfl 1 gX3_takeBack_X2_copyFrom (by decide +kernel) ⟨Nat.le_of_ble_eq_true rfl, Nat.le_of_ble_eq_true rfl⟩ rfl 0 2 rfl rfl  ⟨_, (pt (pr (pr (pr (pte (pr (pr pr1))))))), fun _ => (pt (pr (pr (pr (pte (pr (pr pr1)))))))⟩ rfl (Nat.le_of_ble_eq_true rfl) dX3_takeBack_28 rfl ⟨Nat.zero_le _, Nat.zero_le _⟩ ?_
          obtain rfl := some_inv hf
          exact V_vret C0 ahs trivial rfl dX3_takeBack_31
        · have hf := ite_f hq27_2 hf
          by_cases hq27_3 : (hi.1 - 1).toNatClampNeg = 3
          · have hf := ite_t hq27_3 hf
            refine V_aald C0 8 3 rfl rfl hi27 (by show some (_ : Nat) = _; rw [hq27_3]) dX3_takeBack_27 rfl ?_
            obtain ⟨r_28, hc_28, hf⟩ := bind_inv hf
            refine V_cVV (ws' := (W_C cI cJ cZ cO ac_ r_28 ++ (W_H cI cJ cZ cO ah ahs ((hi.1 - 1, hi.2.1, hi.2.2.1, hi.2.2.2.1, hi.2.2.2.2.1, hi.2.2.2.2.2.1, hi.2.2.2.2.2.2))))) (As := [.ref (ahs 3 0)]) (b := ac_ 0) (st := []) C0 (c_X2_copyFrom l dC dI cI cJ cZ cO ac_ (ahs 3) N ct hi.2.2.2.2.1  r_28 hc_28) rfl 1 gX3_takeBack_X2_copyFrom (by decide +kernel) ⟨Nat.le_of_ble_eq_true rfl, Nat.le_of_ble_eq_true rfl⟩ rfl 0 2 rfl rfl  ⟨_, (pt (pr (pr (pr (pr (pte (pr pr1))))))), fun _ => (pt (pr (pr (pr (pr (pte (pr pr1)))))))⟩ rfl (Nat.le_of_ble_eq_true rfl) dX3_takeBack_28 rfl ⟨Nat.zero_le _, Nat.zero_le _⟩ ?_
            obtain rfl := some_inv hf
            exact V_vret C0 ahs trivial rfl dX3_takeBack_31
          · have hf := ite_f hq27_3 hf
            by_cases hq27_4 : (hi.1 - 1).toNatClampNeg = 4
            · have hf := ite_t hq27_4 hf
              refine V_aald C0 8 3 rfl rfl hi27 (by show some (_ : Nat) = _; rw [hq27_4]) dX3_takeBack_27 rfl ?_
              obtain ⟨r_28, hc_28, hf⟩ := bind_inv hf
              refine V_cVV (ws' := (W_C cI cJ cZ cO ac_ r_28 ++ (W_H cI cJ cZ cO ah ahs ((hi.1 - 1, hi.2.1, hi.2.2.1, hi.2.2.2.1, hi.2.2.2.2.1, hi.2.2.2.2.2.1, hi.2.2.2.2.2.2))))) (As := [.ref (ahs 4 0)]) (b := ac_ 0) (st := []) C0 (c_X2_copyFrom l dC dI cI cJ cZ cO ac_ (ahs 4) N ct hi.2.2.2.2.2.1  r_28 hc_28) rfl 1 gX3_takeBack_X2_copyFrom (by decide +kernel) ⟨Nat.le_of_ble_eq_true rfl, Nat.le_of_ble_eq_true rfl⟩ rfl 0 2 rfl rfl  ⟨_, (pt (pr (pr (pr (pr (pr (pte pr1))))))), fun _ => (pt (pr (pr (pr (pr (pr (pte pr1)))))))⟩ rfl (Nat.le_of_ble_eq_true rfl) dX3_takeBack_28 rfl ⟨Nat.zero_le _, Nat.zero_le _⟩ ?_
              obtain rfl := some_inv hf
              exact V_vret C0 ahs trivial rfl dX3_takeBack_31
            · have hf := ite_f hq27_4 hf
              by_cases hq27_5 : (hi.1 - 1).toNatClampNeg = 5
              · have hf := ite_t hq27_5 hf
                refine V_aald C0 8 3 rfl rfl hi27 (by show some (_ : Nat) = _; rw [hq27_5]) dX3_takeBack_27 rfl ?_
                obtain ⟨r_28, hc_28, hf⟩ := bind_inv hf
                refine V_cVV (ws' := (W_C cI cJ cZ cO ac_ r_28 ++ (W_H cI cJ cZ cO ah ahs ((hi.1 - 1, hi.2.1, hi.2.2.1, hi.2.2.2.1, hi.2.2.2.2.1, hi.2.2.2.2.2.1, hi.2.2.2.2.2.2))))) (As := [.ref (ahs 5 0)]) (b := ac_ 0) (st := []) C0 (c_X2_copyFrom l dC dI cI cJ cZ cO ac_ (ahs 5) N ct hi.2.2.2.2.2.2  r_28 hc_28) rfl 1 gX3_takeBack_X2_copyFrom (by decide +kernel) ⟨Nat.le_of_ble_eq_true rfl, Nat.le_of_ble_eq_true rfl⟩ rfl 0 2 rfl rfl  ⟨_, (pt (pr (pr (pr (pr (pr (pr pt1))))))), fun _ => (pt (pr (pr (pr (pr (pr (pr pt1)))))))⟩ rfl (Nat.le_of_ble_eq_true rfl) dX3_takeBack_28 rfl ⟨Nat.zero_le _, Nat.zero_le _⟩ ?_
                obtain rfl := some_inv hf
                exact V_vret C0 ahs trivial rfl dX3_takeBack_31
              · have hf := ite_f hq27_5 hf
                cases hf
  · have hf := ite_f c4 hf
    obtain rfl := some_inv hf
    exact V_vret C0 ahs trivial rfl dX3_takeBack_7
