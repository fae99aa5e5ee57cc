abbrev zC : CV := (0, (fun _ => 0), (fun _ => 0), (fun _ => 0), 0, (fun _ => 0), (fun _ => 0), (fun _ => 0))
abbrev WX0 (cI cJ cZ cO : ClassId) (u : (Nat → Nat → Nat) × (Nat → Nat → Nat) × (Nat → Nat → Nat)) : va_W := W_BO cI cJ cZ cO (u.1 0) (u.1 1) (u.1 2) (u.1 3) (u.1 4) (u.1 5) (u.1 6) (u.1 7) (u.1 8) ++ (W_Cv cI cJ cZ cO (u.1 1) zC ++ (W_Cv cI cJ cZ cO (u.1 2) zC ++ (W_H cI cJ cZ cO (u.1 3) u.2.2 0 zC zC zC zC zC zC ++ (W_S cI cJ cZ cO (u.1 0) u.2.1 zC zC (fun _ => 0) ++ (W_P cI cJ cZ cO (u.1 4) 0 (fun _ => 0) ++ (W_L cI cJ cZ cO (u.1 5) 0 (fun _ => 0) (fun _ => 0) (fun _ => 0) ++ (W_B cI cJ cZ cO (u.1 6) (fun _ => 0) (fun _ => 0) (fun _ => 0) 0 0 (fun _ => 0) (fun _ => 0) (fun _ => 0) ++ (W_A cI cJ cZ cO (u.1 7) (fun _ => 0) (fun _ => 0) (fun _ => 0) ++ (W_N cI cJ cZ cO (u.1 8) 0 (fun _ => 0) (fun _ => 0) (fun _ => 0) (fun _ => 0) ++ (W_BN cI cJ cZ cO (u.1 0) (fun _ => 0) ++ W_CW cI cJ cZ cO (u.1 0) (fun _ => 0)))))))))))
theorem prk {b w1 c1 r : va_W} (h : w1.Perm (c1 ++ r)) : (b ++ w1).Perm (c1 ++ (b ++ r)) := pr h
theorem pl1 {b c : va_W} : (b ++ c).Perm (c ++ b) := List.perm_append_comm
theorem V.row0 {p : Program} {l : Launch} {e : Env} {R : Room} {s : State} {m : MethodId} {args : Array Value} {below : List Frame} {meth : Method} {c : Code} {nL : Nat} {D : va_G} {A : Nat → Prop} {Q : State → Prop} {cells slots : Nat} {ws : va_W} {pc : Nat} {lv : List (Nat × Value)} {st : List Value} (q0 : Nat) {a : Nat} {cA : ClassId} {n : Nat} {k : Nat} (ha : ws[q0]? = some (a, .inl (cA, n, .inl (upd (fun _ => 0) k 0)))) {ws' : va_W} (hw : ws.set q0 (a, .inl (cA, n, .inl (fun _ => 0))) = ws') (kk : V p l e R s m args below meth c nL D A Q cells slots ws' pc lv st) : V p l e R s m args below meth c nL D A Q cells slots ws pc lv st := by
  have e : upd (fun _ => 0) k 0 = (fun _ => 0) := by
    funext j
    unfold upd
    split <;> rfl
  subst hw
  refine V.world ?_ kk
  rw [e] at ha
  obtain ⟨hlt, hx⟩ := List.getElem?_eq_some_iff.mp ha
  rw [← hx]
  exact (List.set_getElem_self hlt).symm
abbrev RM_X2_init : Room := { frames := 1, cells := 6, slots := 160, locals := 12 }
theorem in_X2_init_X2 : ∀ w ∈ u_ws RX2 TX2 8, w ∈ wsX2_init := by decide +kernel
theorem fl_X2_init_9 : FL RX2 wsX2_init 2 9 1 RX2 TX2 8 := ⟨in_X2_init_X2, rfl, by decide, by decide +kernel, rfl⟩
theorem fl_X2_init_15 : FL RX2 wsX2_init 2 15 2 RX2 TX2 8 := ⟨in_X2_init_X2, rfl, by decide, by decide +kernel, rfl⟩
theorem fl_X2_init_18 : FL RX2 wsX2_init 2 18 3 RX2 TX2 8 := ⟨in_X2_init_X2, rfl, by decide, by decide +kernel, rfl⟩
theorem fl_X2_init_21 : FL RX2 wsX2_init 2 21 5 RX2 TX2 8 := ⟨in_X2_init_X2, rfl, by decide, by decide +kernel, rfl⟩
theorem fl_X2_init_24 : FL RX2 wsX2_init 2 24 6 RX2 TX2 8 := ⟨in_X2_init_X2, rfl, by decide, by decide +kernel, rfl⟩
theorem fl_X2_init_27 : FL RX2 wsX2_init 2 27 7 RX2 TX2 8 := ⟨in_X2_init_X2, rfl, by decide, by decide +kernel, rfl⟩
set_option maxRecDepth 100000 in
set_option maxHeartbeats 8000000 in
theorem c_X2_init (l : Launch) (dC : Nat → ClassId) (dI : Nat → Nat → Nat) (cI cJ cZ cO : ClassId) (h0 : Nat) : MetV l yX2_init wsX2_init RM_X2_init (dC, dI) (TY cI cJ cZ cO) [.ref h0] [(h0, .inr (2, [.int 0, .null, .null, .null, .int 0, .null, .null, .null]))] (fun a : Nat → Nat => a 0 = h0) (fun a : Nat → Nat => W_Cv cI cJ cZ cO a zC) := by
  refine MetV.ofV (cc := cX2_init) (maxL := 1) (ret := none) (own := RX2) (lv0 := [(0, .ref h0)]) (by decide) rfl rfl (Nat.le_of_ble_eq_true rfl) rfl ?_
  intro p e s m below meth c A C0 hin
  have hin := hin rfl
  refine V_aload_n C0 dX2_init_0 0 rfl rfl ?_
  refine V_objInit C0 (by decide +kernel) (by decide +kernel) (by decide +kernel) dX2_init_1 (Nat.le_of_ble_eq_true rfl) (Nat.le_of_ble_eq_true rfl) rfl ?_
  refine V_aload_n C0 dX2_init_4 0 rfl rfl ?_
  refine V_bipush (v := 16) C0 dX2_init_5 (by decide) rfl ?_
  refine V_newI (N' := 16) C0 (by decide +kernel) 0 rfl (by decide) rfl (Nat.le_of_ble_eq_true rfl) (Nat.le_of_ble_eq_true rfl) (Nat.le_of_ble_eq_true rfl) dX2_init_7 rfl (fun q1 => ?_)
  refine V.world (ws' := ([(h0, .inr (2, [.int 0, .null, .null, .null, .int 0, .null, .null, .null]))] ++ ([(q1, .inl (cI, 16, .inl (fun _ => 0)))]) : va_W)) rfl ?_
  refine V_putF (ws' := ([(h0, .inr (2, [.int 0, .ref q1, .null, .null, .int 0, .null, .null, .null]))] ++ ([(q1, .inl (cI, 16, .inl (fun _ => 0)))]) : va_W)) C0 hin fl_X2_init_9 tyX2_ok nmX2 rfl 0 rfl rfl rfl (Nat.le_of_ble_eq_true rfl) dX2_init_9 rfl rfl ?_
  refine V_aload_n C0 dX2_init_12 0 rfl rfl ?_
  refine V_bipush (v := 16) C0 dX2_init_13 (by decide) rfl ?_
  refine V_newI (N' := 16) C0 (by decide +kernel) 0 rfl (by decide) rfl (Nat.le_of_ble_eq_true rfl) (Nat.le_of_ble_eq_true rfl) (Nat.le_of_ble_eq_true rfl) dX2_init_15 rfl (fun q2 => ?_)
  refine V.world (ws' := ([(h0, .inr (2, [.int 0, .ref q1, .null, .null, .int 0, .null, .null, .null]))] ++ ([(q1, .inl (cI, 16, .inl (fun _ => 0)))] ++ ([(q2, .inl (cI, 16, .inl (fun _ => 0)))])) : va_W)) (by simp only [List.append_assoc]) ?_
  refine V_putF (ws' := ([(h0, .inr (2, [.int 0, .ref q1, .ref q2, .null, .int 0, .null, .null, .null]))] ++ ([(q1, .inl (cI, 16, .inl (fun _ => 0)))] ++ ([(q2, .inl (cI, 16, .inl (fun _ => 0)))])) : va_W)) C0 hin fl_X2_init_15 tyX2_ok nmX2 rfl 0 rfl rfl rfl (Nat.le_of_ble_eq_true rfl) dX2_init_17 rfl rfl ?_
  refine V_aload_n C0 dX2_init_20 0 rfl rfl ?_
  refine V_bipush (v := 16) C0 dX2_init_21 (by decide) rfl ?_
  refine V_newI (N' := 16) C0 (by decide +kernel) 0 rfl (by decide) rfl (Nat.le_of_ble_eq_true rfl) (Nat.le_of_ble_eq_true rfl) (Nat.le_of_ble_eq_true rfl) dX2_init_23 rfl (fun q3 => ?_)
  refine V.world (ws' := ([(h0, .inr (2, [.int 0, .ref q1, .ref q2, .null, .int 0, .null, .null, .null]))] ++ ([(q1, .inl (cI, 16, .inl (fun _ => 0)))] ++ ([(q2, .inl (cI, 16, .inl (fun _ => 0)))] ++ ([(q3, .inl (cI, 16, .inl (fun _ => 0)))]))) : va_W)) (by simp only [List.append_assoc]) ?_
  refine V_putF (ws' := ([(h0, .inr (2, [.int 0, .ref q1, .ref q2, .ref q3, .int 0, .null, .null, .null]))] ++ ([(q1, .inl (cI, 16, .inl (fun _ => 0)))] ++ ([(q2, .inl (cI, 16, .inl (fun _ => 0)))] ++ ([(q3, .inl (cI, 16, .inl (fun _ => 0)))]))) : va_W)) C0 hin fl_X2_init_18 tyX2_ok nmX2 rfl 0 rfl rfl rfl (Nat.le_of_ble_eq_true rfl) dX2_init_25 rfl rfl ?_
  refine V_aload_n C0 dX2_init_28 0 rfl rfl ?_
  refine V_bipush (v := 8) C0 dX2_init_29 (by decide) rfl ?_
  refine V_newI (N' := 8) C0 (by decide +kernel) 0 rfl (by decide) rfl (Nat.le_of_ble_eq_true rfl) (Nat.le_of_ble_eq_true rfl) (Nat.le_of_ble_eq_true rfl) dX2_init_31 rfl (fun q4 => ?_)
  refine V.world (ws' := ([(h0, .inr (2, [.int 0, .ref q1, .ref q2, .ref q3, .int 0, .null, .null, .null]))] ++ ([(q1, .inl (cI, 16, .inl (fun _ => 0)))] ++ ([(q2, .inl (cI, 16, .inl (fun _ => 0)))] ++ ([(q3, .inl (cI, 16, .inl (fun _ => 0)))] ++ ([(q4, .inl (cI, 8, .inl (fun _ => 0)))])))) : va_W)) (by simp only [List.append_assoc]) ?_
  refine V_putF (ws' := ([(h0, .inr (2, [.int 0, .ref q1, .ref q2, .ref q3, .int 0, .ref q4, .null, .null]))] ++ ([(q1, .inl (cI, 16, .inl (fun _ => 0)))] ++ ([(q2, .inl (cI, 16, .inl (fun _ => 0)))] ++ ([(q3, .inl (cI, 16, .inl (fun _ => 0)))] ++ ([(q4, .inl (cI, 8, .inl (fun _ => 0)))])))) : va_W)) C0 hin fl_X2_init_21 tyX2_ok nmX2 rfl 0 rfl rfl rfl (Nat.le_of_ble_eq_true rfl) dX2_init_33 rfl rfl ?_
  refine V_aload_n C0 dX2_init_36 0 rfl rfl ?_
  refine V_bipush (v := 8) C0 dX2_init_37 (by decide) rfl ?_
  refine V_newI (N' := 8) C0 (by decide +kernel) 0 rfl (by decide) rfl (Nat.le_of_ble_eq_true rfl) (Nat.le_of_ble_eq_true rfl) (Nat.le_of_ble_eq_true rfl) dX2_init_39 rfl (fun q5 => ?_)
  refine V.world (ws' := ([(h0, .inr (2, [.int 0, .ref q1, .ref q2, .ref q3, .int 0, .ref q4, .null, .null]))] ++ ([(q1, .inl (cI, 16, .inl (fun _ => 0)))] ++ ([(q2, .inl (cI, 16, .inl (fun _ => 0)))] ++ ([(q3, .inl (cI, 16, .inl (fun _ => 0)))] ++ ([(q4, .inl (cI, 8, .inl (fun _ => 0)))] ++ ([(q5, .inl (cI, 8, .inl (fun _ => 0)))]))))) : va_W)) (by simp only [List.append_assoc]) ?_
  refine V_putF (ws' := ([(h0, .inr (2, [.int 0, .ref q1, .ref q2, .ref q3, .int 0, .ref q4, .ref q5, .null]))] ++ ([(q1, .inl (cI, 16, .inl (fun _ => 0)))] ++ ([(q2, .inl (cI, 16, .inl (fun _ => 0)))] ++ ([(q3, .inl (cI, 16, .inl (fun _ => 0)))] ++ ([(q4, .inl (cI, 8, .inl (fun _ => 0)))] ++ ([(q5, .inl (cI, 8, .inl (fun _ => 0)))]))))) : va_W)) C0 hin fl_X2_init_24 tyX2_ok nmX2 rfl 0 rfl rfl rfl (Nat.le_of_ble_eq_true rfl) dX2_init_41 rfl rfl ?_
  refine V_aload_n C0 dX2_init_44 0 rfl rfl ?_
  refine V_bipush (v := 96) C0 dX2_init_45 (by decide) rfl ?_
  refine V_newI (N' := 96) C0 (by decide +kernel) 0 rfl (by decide) rfl (Nat.le_of_ble_eq_true rfl) (Nat.le_of_ble_eq_true rfl) (Nat.le_of_ble_eq_true rfl) dX2_init_47 rfl (fun q6 => ?_)
  refine V.world (ws' := ([(h0, .inr (2, [.int 0, .ref q1, .ref q2, .ref q3, .int 0, .ref q4, .ref q5, .null]))] ++ ([(q1, .inl (cI, 16, .inl (fun _ => 0)))] ++ ([(q2, .inl (cI, 16, .inl (fun _ => 0)))] ++ ([(q3, .inl (cI, 16, .inl (fun _ => 0)))] ++ ([(q4, .inl (cI, 8, .inl (fun _ => 0)))] ++ ([(q5, .inl (cI, 8, .inl (fun _ => 0)))] ++ ([(q6, .inl (cI, 96, .inl (fun _ => 0)))])))))) : va_W)) (by simp only [List.append_assoc]) ?_
  refine V_putF (ws' := ([(h0, .inr (2, [.int 0, .ref q1, .ref q2, .ref q3, .int 0, .ref q4, .ref q5, .ref q6]))] ++ ([(q1, .inl (cI, 16, .inl (fun _ => 0)))] ++ ([(q2, .inl (cI, 16, .inl (fun _ => 0)))] ++ ([(q3, .inl (cI, 16, .inl (fun _ => 0)))] ++ ([(q4, .inl (cI, 8, .inl (fun _ => 0)))] ++ ([(q5, .inl (cI, 8, .inl (fun _ => 0)))] ++ ([(q6, .inl (cI, 96, .inl (fun _ => 0)))])))))) : va_W)) C0 hin fl_X2_init_27 tyX2_ok nmX2 rfl 0 rfl rfl rfl (Nat.le_of_ble_eq_true rfl) dX2_init_49 rfl rfl ?_
  exact V_vret C0 (fun k => [h0, q1, q2, q3, q4, q5, q6].getD k 0) rfl rfl dX2_init_52
abbrev RM_X6_init : Room := { frames := 1, cells := 1, slots := 16, locals := 12 }
theorem in_X6_init_X6 : ∀ w ∈ u_ws RX6 TX6 2, w ∈ wsX6_init := by decide +kernel
theorem fl_X6_init_9 : FL RX6 wsX6_init 6 9 1 RX6 TX6 2 := ⟨in_X6_init_X6, rfl, by decide, by decide +kernel, rfl⟩
set_option maxRecDepth 100000 in
set_option maxHeartbeats 8000000 in
theorem c_X6_init (l : Launch) (dC : Nat → ClassId) (dI : Nat → Nat → Nat) (cI cJ cZ cO : ClassId) (h0 : Nat) : MetV l yX6_init wsX6_init RM_X6_init (dC, dI) (TY cI cJ cZ cO) [.ref h0] [(h0, .inr (6, [.int 0, .null]))] (fun a : Nat → Nat => a 0 = h0) (fun a : Nat → Nat => W_P cI cJ cZ cO a 0 (fun _ => 0)) := by
  refine MetV.ofV (cc := cX6_init) (maxL := 1) (ret := none) (own := RX6) (lv0 := [(0, .ref h0)]) (by decide) rfl rfl (Nat.le_of_ble_eq_true rfl) rfl ?_
  intro p e s m below meth c A C0 hin
  have hin := hin rfl
  refine V_aload_n C0 dX6_init_0 0 rfl rfl ?_
  refine V_objInit C0 (by decide +kernel) (by decide +kernel) (by decide +kernel) dX6_init_1 (Nat.le_of_ble_eq_true rfl) (Nat.le_of_ble_eq_true rfl) rfl ?_
  refine V_aload_n C0 dX6_init_4 0 rfl rfl ?_
  refine V_bipush (v := 16) C0 dX6_init_5 (by decide) rfl ?_
  refine V_newI (N' := 16) C0 (by decide +kernel) 0 rfl (by decide) rfl (Nat.le_of_ble_eq_true rfl) (Nat.le_of_ble_eq_true rfl) (Nat.le_of_ble_eq_true rfl) dX6_init_7 rfl (fun q1 => ?_)
  refine V.world (ws' := ([(h0, .inr (6, [.int 0, .null]))] ++ ([(q1, .inl (cI, 16, .inl (fun _ => 0)))]) : va_W)) rfl ?_
  refine V_putF (ws' := ([(h0, .inr (6, [.int 0, .ref q1]))] ++ ([(q1, .inl (cI, 16, .inl (fun _ => 0)))]) : va_W)) C0 hin fl_X6_init_9 tyX6_ok nmX6 rfl 0 rfl rfl rfl (Nat.le_of_ble_eq_true rfl) dX6_init_9 rfl rfl ?_
  exact V_vret C0 (fun k => [h0, q1].getD k 0) rfl rfl dX6_init_12
abbrev RM_X4_init : Room := { frames := 1, cells := 3, slots := 112, locals := 12 }
theorem in_X4_init_X4 : ∀ w ∈ u_ws RX4 TX4 4, w ∈ wsX4_init := by decide +kernel
theorem fl_X4_init_9 : FL RX4 wsX4_init 4 9 1 RX4 TX4 4 := ⟨in_X4_init_X4, rfl, by decide, by decide +kernel, rfl⟩
theorem fl_X4_init_15 : FL RX4 wsX4_init 4 15 2 RX4 TX4 4 := ⟨in_X4_init_X4, rfl, by decide, by decide +kernel, rfl⟩
theorem fl_X4_init_18 : FL RX4 wsX4_init 4 18 3 RX4 TX4 4 := ⟨in_X4_init_X4, rfl, by decide, by decide +kernel, rfl⟩
set_option maxRecDepth 100000 in
set_option maxHeartbeats 8000000 in
theorem c_X4_init (l : Launch) (dC : Nat → ClassId) (dI : Nat → Nat → Nat) (cI cJ cZ cO : ClassId) (h0 : Nat) : MetV l yX4_init wsX4_init RM_X4_init (dC, dI) (TY cI cJ cZ cO) [.ref h0] [(h0, .inr (4, [.int 0, .null, .null, .null]))] (fun a : Nat → Nat => a 0 = h0) (fun a : Nat → Nat => W_L cI cJ cZ cO a 0 (fun _ => 0) (fun _ => 0) (fun _ => 0)) := by
  refine MetV.ofV (cc := cX4_init) (maxL := 1) (ret := none) (own := RX4) (lv0 := [(0, .ref h0)]) (by decide) rfl rfl (Nat.le_of_ble_eq_true rfl) rfl ?_
  intro p e s m below meth c A C0 hin
  have hin := hin rfl
  refine V_aload_n C0 dX4_init_0 0 rfl rfl ?_
  refine V_objInit C0 (by decide +kernel) (by decide +kernel) (by decide +kernel) dX4_init_1 (Nat.le_of_ble_eq_true rfl) (Nat.le_of_ble_eq_true rfl) rfl ?_
  refine V_aload_n C0 dX4_init_4 0 rfl rfl ?_
  refine V_bipush (v := 48) C0 dX4_init_5 (by decide) rfl ?_
  refine V_newI (N' := 48) C0 (by decide +kernel) 0 rfl (by decide) rfl (Nat.le_of_ble_eq_true rfl) (Nat.le_of_ble_eq_true rfl) (Nat.le_of_ble_eq_true rfl) dX4_init_7 rfl (fun q1 => ?_)
  refine V.world (ws' := ([(h0, .inr (4, [.int 0, .null, .null, .null]))] ++ ([(q1, .inl (cI, 48, .inl (fun _ => 0)))]) : va_W)) rfl ?_
  refine V_putF (ws' := ([(h0, .inr (4, [.int 0, .ref q1, .null, .null]))] ++ ([(q1, .inl (cI, 48, .inl (fun _ => 0)))]) : va_W)) C0 hin fl_X4_init_9 tyX4_ok nmX4 rfl 0 rfl rfl rfl (Nat.le_of_ble_eq_true rfl) dX4_init_9 rfl rfl ?_
  refine V_aload_n C0 dX4_init_12 0 rfl rfl ?_
  refine V_bipush (v := 48) C0 dX4_init_13 (by decide) rfl ?_
  refine V_newI (N' := 48) C0 (by decide +kernel) 0 rfl (by decide) rfl (Nat.le_of_ble_eq_true rfl) (Nat.le_of_ble_eq_true rfl) (Nat.le_of_ble_eq_true rfl) dX4_init_15 rfl (fun q2 => ?_)
  refine V.world (ws' := ([(h0, .inr (4, [.int 0, .ref q1, .null, .null]))] ++ ([(q1, .inl (cI, 48, .inl (fun _ => 0)))] ++ ([(q2, .inl (cI, 48, .inl (fun _ => 0)))])) : va_W)) (by simp only [List.append_assoc]) ?_
  refine V_putF (ws' := ([(h0, .inr (4, [.int 0, .ref q1, .ref q2, .null]))] ++ ([(q1, .inl (cI, 48, .inl (fun _ => 0)))] ++ ([(q2, .inl (cI, 48, .inl (fun _ => 0)))])) : va_W)) C0 hin fl_X4_init_15 tyX4_ok nmX4 rfl 0 rfl rfl rfl (Nat.le_of_ble_eq_true rfl) dX4_init_17 rfl rfl ?_
  refine V_aload_n C0 dX4_init_20 0 rfl rfl ?_
  refine V_bipush (v := 16) C0 dX4_init_21 (by decide) rfl ?_
  refine V_newI (N' := 16) C0 (by decide +kernel) 0 rfl (by decide) rfl (Nat.le_of_ble_eq_true rfl) (Nat.le_of_ble_eq_true rfl) (Nat.le_of_ble_eq_true rfl) dX4_init_23 rfl (fun q3 => ?_)
  refine V.world (ws' := ([(h0, .inr (4, [.int 0, .ref q1, .ref q2, .null]))] ++ ([(q1, .inl (cI, 48, .inl (fun _ => 0)))] ++ ([(q2, .inl (cI, 48, .inl (fun _ => 0)))] ++ ([(q3, .inl (cI, 16, .inl (fun _ => 0)))]))) : va_W)) (by simp only [List.append_assoc]) ?_
  refine V_putF (ws' := ([(h0, .inr (4, [.int 0, .ref q1, .ref q2, .ref q3]))] ++ ([(q1, .inl (cI, 48, .inl (fun _ => 0)))] ++ ([(q2, .inl (cI, 48, .inl (fun _ => 0)))] ++ ([(q3, .inl (cI, 16, .inl (fun _ => 0)))]))) : va_W)) C0 hin fl_X4_init_18 tyX4_ok nmX4 rfl 0 rfl rfl rfl (Nat.le_of_ble_eq_true rfl) dX4_init_25 rfl rfl ?_
  exact V_vret C0 (fun k => [h0, q1, q2, q3].getD k 0) rfl rfl dX4_init_28
abbrev RM_X1_init : Room := { frames := 1, cells := 6, slots := 75, locals := 12 }
theorem in_X1_init_X1 : ∀ w ∈ u_ws RX1 TX1 8, w ∈ wsX1_init := by decide +kernel
theorem fl_X1_init_9 : FL RX1 wsX1_init 1 9 0 RX1 TX1 8 := ⟨in_X1_init_X1, rfl, by decide, by decide +kernel, rfl⟩
theorem fl_X1_init_15 : FL RX1 wsX1_init 1 15 1 RX1 TX1 8 := ⟨in_X1_init_X1, rfl, by decide, by decide +kernel, rfl⟩
theorem fl_X1_init_19 : FL RX1 wsX1_init 1 19 2 RX1 TX1 8 := ⟨in_X1_init_X1, rfl, by decide, by decide +kernel, rfl⟩
theorem fl_X1_init_22 : FL RX1 wsX1_init 1 22 5 RX1 TX1 8 := ⟨in_X1_init_X1, rfl, by decide, by decide +kernel, rfl⟩
theorem fl_X1_init_25 : FL RX1 wsX1_init 1 25 6 RX1 TX1 8 := ⟨in_X1_init_X1, rfl, by decide, by decide +kernel, rfl⟩
theorem fl_X1_init_28 : FL RX1 wsX1_init 1 28 7 RX1 TX1 8 := ⟨in_X1_init_X1, rfl, by decide, by decide +kernel, rfl⟩
set_option maxRecDepth 100000 in
set_option maxHeartbeats 8000000 in
theorem c_X1_init (l : Launch) (dC : Nat → ClassId) (dI : Nat → Nat → Nat) (cI cJ cZ cO : ClassId) (h0 : Nat) : MetV l yX1_init wsX1_init RM_X1_init (dC, dI) (TY cI cJ cZ cO) [.ref h0] [(h0, .inr (1, [.null, .null, .null, .int 0, .int 0, .null, .null, .null]))] (fun a : Nat → Nat => a 0 = h0) (fun a : Nat → Nat => W_B cI cJ cZ cO a (fun _ => 0) (fun _ => 0) (fun _ => 0) 0 0 (fun _ => 0) (fun _ => 0) (fun _ => 0)) := by
  refine MetV.ofV (cc := cX1_init) (maxL := 1) (ret := none) (own := RX1) (lv0 := [(0, .ref h0)]) (by decide) rfl rfl (Nat.le_of_ble_eq_true rfl) rfl ?_
  intro p e s m below meth c A C0 hin
  have hin := hin rfl
  refine V_aload_n C0 dX1_init_0 0 rfl rfl ?_
  refine V_objInit C0 (by decide +kernel) (by decide +kernel) (by decide +kernel) dX1_init_1 (Nat.le_of_ble_eq_true rfl) (Nat.le_of_ble_eq_true rfl) rfl ?_
  refine V_aload_n C0 dX1_init_4 0 rfl rfl ?_
  refine V_bipush (v := 13) C0 dX1_init_5 (by decide) rfl ?_
  refine V_newJ (N' := 13) C0 (by decide +kernel) 1 rfl (by decide) rfl (Nat.le_of_ble_eq_true rfl) (Nat.le_of_ble_eq_true rfl) (Nat.le_of_ble_eq_true rfl) dX1_init_7 rfl (fun q1 => ?_)
  refine V.world (ws' := ([(h0, .inr (1, [.null, .null, .null, .int 0, .int 0, .null, .null, .null]))] ++ ([(q1, .inl (cJ, 13, .inr (.inl (fun _ => 0))))]) : va_W)) rfl ?_
  refine V_putF (ws' := ([(h0, .inr (1, [.ref q1, .null, .null, .int 0, .int 0, .null, .null, .null]))] ++ ([(q1, .inl (cJ, 13, .inr (.inl (fun _ => 0))))]) : va_W)) C0 hin fl_X1_init_9 tyX1_ok nmX1 rfl 0 rfl rfl rfl (Nat.le_of_ble_eq_true rfl) dX1_init_9 rfl rfl ?_
  refine V_aload_n C0 dX1_init_12 0 rfl rfl ?_
  refine V_bipush (v := 13) C0 dX1_init_13 (by decide) rfl ?_
  refine V_newI (N' := 13) C0 (by decide +kernel) 0 rfl (by decide) rfl (Nat.le_of_ble_eq_true rfl) (Nat.le_of_ble_eq_true rfl) (Nat.le_of_ble_eq_true rfl) dX1_init_15 rfl (fun q2 => ?_)
  refine V.world (ws' := ([(h0, .inr (1, [.ref q1, .null, .null, .int 0, .int 0, .null, .null, .null]))] ++ ([(q1, .inl (cJ, 13, .inr (.inl (fun _ => 0))))] ++ ([(q2, .inl (cI, 13, .inl (fun _ => 0)))])) : va_W)) (by simp only [List.append_assoc]) ?_
  refine V_putF (ws' := ([(h0, .inr (1, [.ref q1, .ref q2, .null, .int 0, .int 0, .null, .null, .null]))] ++ ([(q1, .inl (cJ, 13, .inr (.inl (fun _ => 0))))] ++ ([(q2, .inl (cI, 13, .inl (fun _ => 0)))])) : va_W)) C0 hin fl_X1_init_15 tyX1_ok nmX1 rfl 0 rfl rfl rfl (Nat.le_of_ble_eq_true rfl) dX1_init_17 rfl rfl ?_
  refine V_aload_n C0 dX1_init_20 0 rfl rfl ?_
  refine V_bipush (v := 13) C0 dX1_init_21 (by decide) rfl ?_
  refine V_newI (N' := 13) C0 (by decide +kernel) 0 rfl (by decide) rfl (Nat.le_of_ble_eq_true rfl) (Nat.le_of_ble_eq_true rfl) (Nat.le_of_ble_eq_true rfl) dX1_init_23 rfl (fun q3 => ?_)
  refine V.world (ws' := ([(h0, .inr (1, [.ref q1, .ref q2, .null, .int 0, .int 0, .null, .null, .null]))] ++ ([(q1, .inl (cJ, 13, .inr (.inl (fun _ => 0))))] ++ ([(q2, .inl (cI, 13, .inl (fun _ => 0)))] ++ ([(q3, .inl (cI, 13, .inl (fun _ => 0)))]))) : va_W)) (by simp only [List.append_assoc]) ?_
  refine V_putF (ws' := ([(h0, .inr (1, [.ref q1, .ref q2, .ref q3, .int 0, .int 0, .null, .null, .null]))] ++ ([(q1, .inl (cJ, 13, .inr (.inl (fun _ => 0))))] ++ ([(q2, .inl (cI, 13, .inl (fun _ => 0)))] ++ ([(q3, .inl (cI, 13, .inl (fun _ => 0)))]))) : va_W)) C0 hin fl_X1_init_19 tyX1_ok nmX1 rfl 0 rfl rfl rfl (Nat.le_of_ble_eq_true rfl) dX1_init_25 rfl rfl ?_
  refine V_aload_n C0 dX1_init_28 0 rfl rfl ?_
  refine V_bipush (v := 12) C0 dX1_init_29 (by decide) rfl ?_
  refine V_newI (N' := 12) C0 (by decide +kernel) 0 rfl (by decide) rfl (Nat.le_of_ble_eq_true rfl) (Nat.le_of_ble_eq_true rfl) (Nat.le_of_ble_eq_true rfl) dX1_init_31 rfl (fun q4 => ?_)
  refine V.world (ws' := ([(h0, .inr (1, [.ref q1, .ref q2, .ref q3, .int 0, .int 0, .null, .null, .null]))] ++ ([(q1, .inl (cJ, 13, .inr (.inl (fun _ => 0))))] ++ ([(q2, .inl (cI, 13, .inl (fun _ => 0)))] ++ ([(q3, .inl (cI, 13, .inl (fun _ => 0)))] ++ ([(q4, .inl (cI, 12, .inl (fun _ => 0)))])))) : va_W)) (by simp only [List.append_assoc]) ?_
  refine V_putF (ws' := ([(h0, .inr (1, [.ref q1, .ref q2, .ref q3, .int 0, .int 0, .ref q4, .null, .null]))] ++ ([(q1, .inl (cJ, 13, .inr (.inl (fun _ => 0))))] ++ ([(q2, .inl (cI, 13, .inl (fun _ => 0)))] ++ ([(q3, .inl (cI, 13, .inl (fun _ => 0)))] ++ ([(q4, .inl (cI, 12, .inl (fun _ => 0)))])))) : va_W)) C0 hin fl_X1_init_22 tyX1_ok nmX1 rfl 0 rfl rfl rfl (Nat.le_of_ble_eq_true rfl) dX1_init_33 rfl rfl ?_
  refine V_aload_n C0 dX1_init_36 0 rfl rfl ?_
  refine V_bipush (v := 12) C0 dX1_init_37 (by decide) rfl ?_
  refine V_newI (N' := 12) C0 (by decide +kernel) 0 rfl (by decide) rfl (Nat.le_of_ble_eq_true rfl) (Nat.le_of_ble_eq_true rfl) (Nat.le_of_ble_eq_true rfl) dX1_init_39 rfl (fun q5 => ?_)
  refine V.world (ws' := ([(h0, .inr (1, [.ref q1, .ref q2, .ref q3, .int 0, .int 0, .ref q4, .null, .null]))] ++ ([(q1, .inl (cJ, 13, .inr (.inl (fun _ => 0))))] ++ ([(q2, .inl (cI, 13, .inl (fun _ => 0)))] ++ ([(q3, .inl (cI, 13, .inl (fun _ => 0)))] ++ ([(q4, .inl (cI, 12, .inl (fun _ => 0)))] ++ ([(q5, .inl (cI, 12, .inl (fun _ => 0)))]))))) : va_W)) (by simp only [List.append_assoc]) ?_
  refine V_putF (ws' := ([(h0, .inr (1, [.ref q1, .ref q2, .ref q3, .int 0, .int 0, .ref q4, .ref q5, .null]))] ++ ([(q1, .inl (cJ, 13, .inr (.inl (fun _ => 0))))] ++ ([(q2, .inl (cI, 13, .inl (fun _ => 0)))] ++ ([(q3, .inl (cI, 13, .inl (fun _ => 0)))] ++ ([(q4, .inl (cI, 12, .inl (fun _ => 0)))] ++ ([(q5, .inl (cI, 12, .inl (fun _ => 0)))]))))) : va_W)) C0 hin fl_X1_init_25 tyX1_ok nmX1 rfl 0 rfl rfl rfl (Nat.le_of_ble_eq_true rfl) dX1_init_41 rfl rfl ?_
  refine V_aload_n C0 dX1_init_44 0 rfl rfl ?_
  refine V_bipush (v := 12) C0 dX1_init_45 (by decide) rfl ?_
  refine V_newI (N' := 12) C0 (by decide +kernel) 0 rfl (by decide) rfl (Nat.le_of_ble_eq_true rfl) (Nat.le_of_ble_eq_true rfl) (Nat.le_of_ble_eq_true rfl) dX1_init_47 rfl (fun q6 => ?_)
  refine V.world (ws' := ([(h0, .inr (1, [.ref q1, .ref q2, .ref q3, .int 0, .int 0, .ref q4, .ref q5, .null]))] ++ ([(q1, .inl (cJ, 13, .inr (.inl (fun _ => 0))))] ++ ([(q2, .inl (cI, 13, .inl (fun _ => 0)))] ++ ([(q3, .inl (cI, 13, .inl (fun _ => 0)))] ++ ([(q4, .inl (cI, 12, .inl (fun _ => 0)))] ++ ([(q5, .inl (cI, 12, .inl (fun _ => 0)))] ++ ([(q6, .inl (cI, 12, .inl (fun _ => 0)))])))))) : va_W)) (by simp only [List.append_assoc]) ?_
  refine V_putF (ws' := ([(h0, .inr (1, [.ref q1, .ref q2, .ref q3, .int 0, .int 0, .ref q4, .ref q5, .ref q6]))] ++ ([(q1, .inl (cJ, 13, .inr (.inl (fun _ => 0))))] ++ ([(q2, .inl (cI, 13, .inl (fun _ => 0)))] ++ ([(q3, .inl (cI, 13, .inl (fun _ => 0)))] ++ ([(q4, .inl (cI, 12, .inl (fun _ => 0)))] ++ ([(q5, .inl (cI, 12, .inl (fun _ => 0)))] ++ ([(q6, .inl (cI, 12, .inl (fun _ => 0)))])))))) : va_W)) C0 hin fl_X1_init_28 tyX1_ok nmX1 rfl 0 rfl rfl rfl (Nat.le_of_ble_eq_true rfl) dX1_init_49 rfl rfl ?_
  exact V_vret C0 (fun k => [h0, q1, q2, q3, q4, q5, q6].getD k 0) rfl rfl dX1_init_52
abbrev RM_X0_init : Room := { frames := 1, cells := 3, slots := 39, locals := 12 }
theorem in_X0_init_X0 : ∀ w ∈ u_ws RX0 TX0 3, w ∈ wsX0_init := by decide +kernel
theorem fl_X0_init_9 : FL RX0 wsX0_init 0 9 0 RX0 TX0 3 := ⟨in_X0_init_X0, rfl, by decide, by decide +kernel, rfl⟩
theorem fl_X0_init_15 : FL RX0 wsX0_init 0 15 1 RX0 TX0 3 := ⟨in_X0_init_X0, rfl, by decide, by decide +kernel, rfl⟩
theorem fl_X0_init_18 : FL RX0 wsX0_init 0 18 2 RX0 TX0 3 := ⟨in_X0_init_X0, rfl, by decide, by decide +kernel, rfl⟩
set_option maxRecDepth 100000 in
set_option maxHeartbeats 8000000 in
theorem c_X0_init (l : Launch) (dC : Nat → ClassId) (dI : Nat → Nat → Nat) (cI cJ cZ cO : ClassId) (h0 : Nat) : MetV l yX0_init wsX0_init RM_X0_init (dC, dI) (TY cI cJ cZ cO) [.ref h0] [(h0, .inr (0, [.null, .null, .null]))] (fun a : Nat → Nat => a 0 = h0) (fun a : Nat → Nat => W_A cI cJ cZ cO a (fun _ => 0) (fun _ => 0) (fun _ => 0)) := by
  refine MetV.ofV (cc := cX0_init) (maxL := 1) (ret := none) (own := RX0) (lv0 := [(0, .ref h0)]) (by decide) rfl rfl (Nat.le_of_ble_eq_true rfl) rfl ?_
  intro p e s m below meth c A C0 hin
  have hin := hin rfl
  refine V_aload_n C0 dX0_init_0 0 rfl rfl ?_
  refine V_objInit C0 (by decide +kernel) (by decide +kernel) (by decide +kernel) dX0_init_1 (Nat.le_of_ble_eq_true rfl) (Nat.le_of_ble_eq_true rfl) rfl ?_
  refine V_aload_n C0 dX0_init_4 0 rfl rfl ?_
  refine V_bipush (v := 13) C0 dX0_init_5 (by decide) rfl ?_
  refine V_newJ (N' := 13) C0 (by decide +kernel) 1 rfl (by decide) rfl (Nat.le_of_ble_eq_true rfl) (Nat.le_of_ble_eq_true rfl) (Nat.le_of_ble_eq_true rfl) dX0_init_7 rfl (fun q1 => ?_)
  refine V.world (ws' := ([(h0, .inr (0, [.null, .null, .null]))] ++ ([(q1, .inl (cJ, 13, .inr (.inl (fun _ => 0))))]) : va_W)) rfl ?_
  refine V_putF (ws' := ([(h0, .inr (0, [.ref q1, .null, .null]))] ++ ([(q1, .inl (cJ, 13, .inr (.inl (fun _ => 0))))]) : va_W)) C0 hin fl_X0_init_9 tyX0_ok nmX0 rfl 0 rfl rfl rfl (Nat.le_of_ble_eq_true rfl) dX0_init_9 rfl rfl ?_
  refine V_aload_n C0 dX0_init_12 0 rfl rfl ?_
  refine V_bipush (v := 13) C0 dX0_init_13 (by decide) rfl ?_
  refine V_newJ (N' := 13) C0 (by decide +kernel) 1 rfl (by decide) rfl (Nat.le_of_ble_eq_true rfl) (Nat.le_of_ble_eq_true rfl) (Nat.le_of_ble_eq_true rfl) dX0_init_15 rfl (fun q2 => ?_)
  refine V.world (ws' := ([(h0, .inr (0, [.ref q1, .null, .null]))] ++ ([(q1, .inl (cJ, 13, .inr (.inl (fun _ => 0))))] ++ ([(q2, .inl (cJ, 13, .inr (.inl (fun _ => 0))))])) : va_W)) (by simp only [List.append_assoc]) ?_
  refine V_putF (ws' := ([(h0, .inr (0, [.ref q1, .ref q2, .null]))] ++ ([(q1, .inl (cJ, 13, .inr (.inl (fun _ => 0))))] ++ ([(q2, .inl (cJ, 13, .inr (.inl (fun _ => 0))))])) : va_W)) C0 hin fl_X0_init_15 tyX0_ok nmX0 rfl 0 rfl rfl rfl (Nat.le_of_ble_eq_true rfl) dX0_init_17 rfl rfl ?_
  refine V_aload_n C0 dX0_init_20 0 rfl rfl ?_
  refine V_bipush (v := 13) C0 dX0_init_21 (by decide) rfl ?_
  refine V_newI (N' := 13) C0 (by decide +kernel) 0 rfl (by decide) rfl (Nat.le_of_ble_eq_true rfl) (Nat.le_of_ble_eq_true rfl) (Nat.le_of_ble_eq_true rfl) dX0_init_23 rfl (fun q3 => ?_)
  refine V.world (ws' := ([(h0, .inr (0, [.ref q1, .ref q2, .null]))] ++ ([(q1, .inl (cJ, 13, .inr (.inl (fun _ => 0))))] ++ ([(q2, .inl (cJ, 13, .inr (.inl (fun _ => 0))))] ++ ([(q3, .inl (cI, 13, .inl (fun _ => 0)))]))) : va_W)) (by simp only [List.append_assoc]) ?_
  refine V_putF (ws' := ([(h0, .inr (0, [.ref q1, .ref q2, .ref q3]))] ++ ([(q1, .inl (cJ, 13, .inr (.inl (fun _ => 0))))] ++ ([(q2, .inl (cJ, 13, .inr (.inl (fun _ => 0))))] ++ ([(q3, .inl (cI, 13, .inl (fun _ => 0)))]))) : va_W)) C0 hin fl_X0_init_18 tyX0_ok nmX0 rfl 0 rfl rfl rfl (Nat.le_of_ble_eq_true rfl) dX0_init_25 rfl rfl ?_
  exact V_vret C0 (fun k => [h0, q1, q2, q3].getD k 0) rfl rfl dX0_init_28
abbrev RM_X5_init : Room := { frames := 1, cells := 4, slots := 352, locals := 12 }
theorem in_X5_init_X5 : ∀ w ∈ u_ws RX5 TX5 5, w ∈ wsX5_init := by decide +kernel
theorem fl_X5_init_11 : FL RX5 wsX5_init 5 11 1 RX5 TX5 5 := ⟨in_X5_init_X5, rfl, by decide, by decide +kernel, rfl⟩
theorem fl_X5_init_15 : FL RX5 wsX5_init 5 15 2 RX5 TX5 5 := ⟨in_X5_init_X5, rfl, by decide, by decide +kernel, rfl⟩
theorem fl_X5_init_18 : FL RX5 wsX5_init 5 18 3 RX5 TX5 5 := ⟨in_X5_init_X5, rfl, by decide, by decide +kernel, rfl⟩
theorem fl_X5_init_21 : FL RX5 wsX5_init 5 21 4 RX5 TX5 5 := ⟨in_X5_init_X5, rfl, by decide, by decide +kernel, rfl⟩
set_option maxRecDepth 100000 in
set_option maxHeartbeats 8000000 in
theorem c_X5_init (l : Launch) (dC : Nat → ClassId) (dI : Nat → Nat → Nat) (cI cJ cZ cO : ClassId) (h0 : Nat) : MetV l yX5_init wsX5_init RM_X5_init (dC, dI) (TY cI cJ cZ cO) [.ref h0] [(h0, .inr (5, [.int 0, .null, .null, .null, .null]))] (fun a : Nat → Nat => a 0 = h0) (fun a : Nat → Nat => W_N cI cJ cZ cO a 0 (fun _ => 0) (fun _ => 0) (fun _ => 0) (fun _ => 0)) := by
  refine MetV.ofV (cc := cX5_init) (maxL := 1) (ret := none) (own := RX5) (lv0 := [(0, .ref h0)]) (by decide) rfl rfl (Nat.le_of_ble_eq_true rfl) rfl ?_
  intro p e s m below meth c A C0 hin
  have hin := hin rfl
  refine V_aload_n C0 dX5_init_0 0 rfl rfl ?_
  refine V_objInit C0 (by decide +kernel) (by decide +kernel) (by decide +kernel) dX5_init_1 (Nat.le_of_ble_eq_true rfl) (Nat.le_of_ble_eq_true rfl) rfl ?_
  refine V_aload_n C0 dX5_init_4 0 rfl rfl ?_
  refine V_bipush (v := 88) C0 dX5_init_5 (by decide) rfl ?_
  refine V_newI (N' := 88) C0 (by decide +kernel) 0 rfl (by decide) rfl (Nat.le_of_ble_eq_true rfl) (Nat.le_of_ble_eq_true rfl) (Nat.le_of_ble_eq_true rfl) dX5_init_7 rfl (fun q1 => ?_)
  refine V.world (ws' := ([(h0, .inr (5, [.int 0, .null, .null, .null, .null]))] ++ ([(q1, .inl (cI, 88, .inl (fun _ => 0)))]) : va_W)) rfl ?_
  refine V_putF (ws' := ([(h0, .inr (5, [.int 0, .ref q1, .null, .null, .null]))] ++ ([(q1, .inl (cI, 88, .inl (fun _ => 0)))]) : va_W)) C0 hin fl_X5_init_11 tyX5_ok nmX5 rfl 0 rfl rfl rfl (Nat.le_of_ble_eq_true rfl) dX5_init_9 rfl rfl ?_
  refine V_aload_n C0 dX5_init_12 0 rfl rfl ?_
  refine V_bipush (v := 88) C0 dX5_init_13 (by decide) rfl ?_
  refine V_newI (N' := 88) C0 (by decide +kernel) 0 rfl (by decide) rfl (Nat.le_of_ble_eq_true rfl) (Nat.le_of_ble_eq_true rfl) (Nat.le_of_ble_eq_true rfl) dX5_init_15 rfl (fun q2 => ?_)
  refine V.world (ws' := ([(h0, .inr (5, [.int 0, .ref q1, .null, .null, .null]))] ++ ([(q1, .inl (cI, 88, .inl (fun _ => 0)))] ++ ([(q2, .inl (cI, 88, .inl (fun _ => 0)))])) : va_W)) (by simp only [List.append_assoc]) ?_
  refine V_putF (ws' := ([(h0, .inr (5, [.int 0, .ref q1, .ref q2, .null, .null]))] ++ ([(q1, .inl (cI, 88, .inl (fun _ => 0)))] ++ ([(q2, .inl (cI, 88, .inl (fun _ => 0)))])) : va_W)) C0 hin fl_X5_init_15 tyX5_ok nmX5 rfl 0 rfl rfl rfl (Nat.le_of_ble_eq_true rfl) dX5_init_17 rfl rfl ?_
  refine V_aload_n C0 dX5_init_20 0 rfl rfl ?_
  refine V_bipush (v := 88) C0 dX5_init_21 (by decide) rfl ?_
  refine V_newI (N' := 88) C0 (by decide +kernel) 0 rfl (by decide) rfl (Nat.le_of_ble_eq_true rfl) (Nat.le_of_ble_eq_true rfl) (Nat.le_of_ble_eq_true rfl) dX5_init_23 rfl (fun q3 => ?_)
  refine V.world (ws' := ([(h0, .inr (5, [.int 0, .ref q1, .ref q2, .null, .null]))] ++ ([(q1, .inl (cI, 88, .inl (fun _ => 0)))] ++ ([(q2, .inl (cI, 88, .inl (fun _ => 0)))] ++ ([(q3, .inl (cI, 88, .inl (fun _ => 0)))]))) : va_W)) (by simp only [List.append_assoc]) ?_
  refine V_putF (ws' := ([(h0, .inr (5, [.int 0, .ref q1, .ref q2, .ref q3, .null]))] ++ ([(q1, .inl (cI, 88, .inl (fun _ => 0)))] ++ ([(q2, .inl (cI, 88, .inl (fun _ => 0)))] ++ ([(q3, .inl (cI, 88, .inl (fun _ => 0)))]))) : va_W)) C0 hin fl_X5_init_18 tyX5_ok nmX5 rfl 0 rfl rfl rfl (Nat.le_of_ble_eq_true rfl) dX5_init_25 rfl rfl ?_
  refine V_aload_n C0 dX5_init_28 0 rfl rfl ?_
  refine V_bipush (v := 88) C0 dX5_init_29 (by decide) rfl ?_
  refine V_newI (N' := 88) C0 (by decide +kernel) 0 rfl (by decide) rfl (Nat.le_of_ble_eq_true rfl) (Nat.le_of_ble_eq_true rfl) (Nat.le_of_ble_eq_true rfl) dX5_init_31 rfl (fun q4 => ?_)
  refine V.world (ws' := ([(h0, .inr (5, [.int 0, .ref q1, .ref q2, .ref q3, .null]))] ++ ([(q1, .inl (cI, 88, .inl (fun _ => 0)))] ++ ([(q2, .inl (cI, 88, .inl (fun _ => 0)))] ++ ([(q3, .inl (cI, 88, .inl (fun _ => 0)))] ++ ([(q4, .inl (cI, 88, .inl (fun _ => 0)))])))) : va_W)) (by simp only [List.append_assoc]) ?_
  refine V_putF (ws' := ([(h0, .inr (5, [.int 0, .ref q1, .ref q2, .ref q3, .ref q4]))] ++ ([(q1, .inl (cI, 88, .inl (fun _ => 0)))] ++ ([(q2, .inl (cI, 88, .inl (fun _ => 0)))] ++ ([(q3, .inl (cI, 88, .inl (fun _ => 0)))] ++ ([(q4, .inl (cI, 88, .inl (fun _ => 0)))])))) : va_W)) C0 hin fl_X5_init_21 tyX5_ok nmX5 rfl 0 rfl rfl rfl (Nat.le_of_ble_eq_true rfl) dX5_init_33 rfl rfl ?_
  exact V_vret C0 (fun k => [h0, q1, q2, q3, q4].getD k 0) rfl rfl dX5_init_36
