set_option maxRecDepth 100000 in
set_option maxHeartbeats 8000000 in
theorem law_body {p : Program} {e : Env} {s : State} {m : MethodId} {below : List Frame} {meth : Method} {c : Code} (l : Launch) {b L : Nat} {xs : Nat → Int32} (dC : Nat → ClassId) (dI : Nat → Nat → Nat) (cI cJ cZ cO : ClassId) (ab ac_ atr ah ap al abc aac anb : Nat → Nat) (asl ahs : Nat → Nat → Nat) (am : Nat → Nat) {A : Nat → Prop} {N : Nat} (hN : 2000 < N) (hL : L ≤ 2048) (C0 : Cx p s m #[Value.ref b] meth c cL_law 4 RL ret wsL_law (dC, dI) (TY cI cJ cZ cO) A) (hX : va_X b L xs s s.heap) (hbl : b < s.heap.size) (hbA : ¬ A b) {i : Nat} (hi4 : i + 4 ≤ L) (ct : CV) (tr : CV) (hi : HV) (sl : SV) (pd : PV) (lt : LV) (bc : BV) (ac : AV) (nb : NV) (bn : Nat → Int32) (cw : Nat → Int32) (mo : MV) (hR : RR ct hi sl pd mo) (kk : ∀ (ahs : Nat → Nat → Nat) (ct : CV) (tr : CV) (hi : HV) (sl : SV) (pd : PV) (lt : LV) (bc : BV) (ac : AV) (nb : NV) (bn : Nat → Int32) (cw : Nat → Int32) (mo : MV), RR ct hi sl pd mo → VLw p l e s m b below meth c (dC, dI) A (WLw cI cJ cZ cO ab ac_ atr ah ap al abc aac anb asl ahs am ct tr hi sl pd lt bc ac nb bn cw mo) 784 (lvL b ab am i) []) : VLw p l e s m b below meth c (dC, dI) A (WLw cI cJ cZ cO ab ac_ atr ah ap al abc aac anb asl ahs am ct tr hi sl pd lt bc ac nb bn cw mo) 26 (lvL b ab am i) [] := by
  refine V_aload_n C0 dL_law_26 3 rfl rfl ?_
  refine V_iload_n C0 dL_law_27 0 rfl rfl ?_
  refine V_sld C0 hX hbl hbA (by omega) hL dL_law_28 rfl ?_
  refine V_bipush (v := 31) C0 dL_law_29 (by decide) rfl ?_
  refine V_iand C0 dL_law_31 rfl ?_
  obtain ⟨j, hj, ej⟩ := pk_andE (xs i) (m := 31) 5 (by decide)
  have hj : j < 32 := hj
  rw [ej]
  rcases Nat.lt_or_ge j 25 with hj2 | hj2
  · rcases (show j = 0 ∨ j = 1 ∨ j = 2 ∨ j = 3 ∨ j = 4 ∨ j = 5 ∨ j = 6 ∨ j = 7 ∨ j = 8 ∨ j = 9 ∨ j = 10 ∨ j = 11 ∨ j = 12 ∨ j = 13 ∨ j = 14 ∨ j = 15 ∨ j = 16 ∨ j = 17 ∨ j = 18 ∨ j = 19 ∨ j = 20 ∨ j = 21 ∨ j = 22 ∨ j = 23 ∨ j = 24 by omega) with rfl | rfl | rfl | rfl | rfl | rfl | rfl | rfl | rfl | rfl | rfl | rfl | rfl | rfl | rfl | rfl | rfl | rfl | rfl | rfl | rfl | rfl | rfl | rfl | rfl
    · refine V_tableIn (v := 0) (off := 116) (tgt := 148) C0 rfl dL_law_32 (by decide) (by decide) rfl (by decide) ?_
      exact law_0 l dC dI cI cJ cZ cO ab ac_ atr ah ap al abc aac anb asl ahs am hN hL C0 hX hbl hbA hi4 ct tr hi sl pd lt bc ac nb bn cw mo hR kk
    · refine V_tableIn (v := 1) (off := 139) (tgt := 171) C0 rfl dL_law_32 (by decide) (by decide) rfl (by decide) ?_
      exact law_1 l dC dI cI cJ cZ cO ab ac_ atr ah ap al abc aac anb asl ahs am hN hL C0 hX hbl hbA hi4 ct tr hi sl pd lt bc ac nb bn cw mo hR kk
    · refine V_tableIn (v := 2) (off := 172) (tgt := 204) C0 rfl dL_law_32 (by decide) (by decide) rfl (by decide) ?_
      exact law_2 l dC dI cI cJ cZ cO ab ac_ atr ah ap al abc aac anb asl ahs am hN hL C0 hX hbl hbA hi4 ct tr hi sl pd lt bc ac nb bn cw mo hR kk
    · refine V_tableIn (v := 3) (off := 195) (tgt := 227) C0 rfl dL_law_32 (by decide) (by decide) rfl (by decide) ?_
      exact law_3 l dC dI cI cJ cZ cO ab ac_ atr ah ap al abc aac anb asl ahs am hN hL C0 hX hbl hbA hi4 ct tr hi sl pd lt bc ac nb bn cw mo hR kk
    · refine V_tableIn (v := 4) (off := 218) (tgt := 250) C0 rfl dL_law_32 (by decide) (by decide) rfl (by decide) ?_
      exact law_4 l dC dI cI cJ cZ cO ab ac_ atr ah ap al abc aac anb asl ahs am hN hL C0 hX hbl hbA hi4 ct tr hi sl pd lt bc ac nb bn cw mo hR kk
    · refine V_tableIn (v := 5) (off := 251) (tgt := 283) C0 rfl dL_law_32 (by decide) (by decide) rfl (by decide) ?_
      exact law_5 l dC dI cI cJ cZ cO ab ac_ atr ah ap al abc aac anb asl ahs am hN hL C0 hX hbl hbA hi4 ct tr hi sl pd lt bc ac nb bn cw mo hR kk
    · refine V_tableIn (v := 6) (off := 274) (tgt := 306) C0 rfl dL_law_32 (by decide) (by decide) rfl (by decide) ?_
      exact law_6 l dC dI cI cJ cZ cO ab ac_ atr ah ap al abc aac anb asl ahs am hN hL C0 hX hbl hbA hi4 ct tr hi sl pd lt bc ac nb bn cw mo hR kk
    · refine V_tableIn (v := 7) (off := 287) (tgt := 319) C0 rfl dL_law_32 (by decide) (by decide) rfl (by decide) ?_
      exact law_7 l dC dI cI cJ cZ cO ab ac_ atr ah ap al abc aac anb asl ahs am hN hL C0 hX hbl hbA hi4 ct tr hi sl pd lt bc ac nb bn cw mo hR kk
    · refine V_tableIn (v := 8) (off := 300) (tgt := 332) C0 rfl dL_law_32 (by decide) (by decide) rfl (by decide) ?_
      exact law_8 l dC dI cI cJ cZ cO ab ac_ atr ah ap al abc aac anb asl ahs am hN hL C0 hX hbl hbA hi4 ct tr hi sl pd lt bc ac nb bn cw mo hR kk
    · refine V_tableIn (v := 9) (off := 323) (tgt := 355) C0 rfl dL_law_32 (by decide) (by decide) rfl (by decide) ?_
      exact law_9 l dC dI cI cJ cZ cO ab ac_ atr ah ap al abc aac anb asl ahs am hN hL C0 hX hbl hbA hi4 ct tr hi sl pd lt bc ac nb bn cw mo hR kk
    · refine V_tableIn (v := 10) (off := 356) (tgt := 388) C0 rfl dL_law_32 (by decide) (by decide) rfl (by decide) ?_
      exact law_10 l dC dI cI cJ cZ cO ab ac_ atr ah ap al abc aac anb asl ahs am hN hL C0 hX hbl hbA hi4 ct tr hi sl pd lt bc ac nb bn cw mo hR kk
    · refine V_tableIn (v := 11) (off := 389) (tgt := 421) C0 rfl dL_law_32 (by decide) (by decide) rfl (by decide) ?_
      exact law_11 l dC dI cI cJ cZ cO ab ac_ atr ah ap al abc aac anb asl ahs am hN hL C0 hX hbl hbA hi4 ct tr hi sl pd lt bc ac nb bn cw mo hR kk
    · refine V_tableIn (v := 12) (off := 422) (tgt := 454) C0 rfl dL_law_32 (by decide) (by decide) rfl (by decide) ?_
      exact law_12 l dC dI cI cJ cZ cO ab ac_ atr ah ap al abc aac anb asl ahs am hN hL C0 hX hbl hbA hi4 ct tr hi sl pd lt bc ac nb bn cw mo hR kk
    · refine V_tableIn (v := 13) (off := 456) (tgt := 488) C0 rfl dL_law_32 (by decide) (by decide) rfl (by decide) ?_
      exact law_13 l dC dI cI cJ cZ cO ab ac_ atr ah ap al abc aac anb asl ahs am hN hL C0 hX hbl hbA hi4 ct tr hi sl pd lt bc ac nb bn cw mo hR kk
    · refine V_tableIn (v := 14) (off := 499) (tgt := 531) C0 rfl dL_law_32 (by decide) (by decide) rfl (by decide) ?_
      exact law_14 l dC dI cI cJ cZ cO ab ac_ atr ah ap al abc aac anb asl ahs am hN hL C0 hX hbl hbA hi4 ct tr hi sl pd lt bc ac nb bn cw mo hR kk
    · refine V_tableIn (v := 15) (off := 532) (tgt := 564) C0 rfl dL_law_32 (by decide) (by decide) rfl (by decide) ?_
      exact law_15 l dC dI cI cJ cZ cO ab ac_ atr ah ap al abc aac anb asl ahs am hN hL C0 hX hbl hbA hi4 ct tr hi sl pd lt bc ac nb bn cw mo hR kk
    · refine V_tableIn (v := 16) (off := 555) (tgt := 587) C0 rfl dL_law_32 (by decide) (by decide) rfl (by decide) ?_
      exact law_16 l dC dI cI cJ cZ cO ab ac_ atr ah ap al abc aac anb asl ahs am hN hL C0 hX hbl hbA hi4 ct tr hi sl pd lt bc ac nb bn cw mo hR kk
    · refine V_tableIn (v := 17) (off := 578) (tgt := 610) C0 rfl dL_law_32 (by decide) (by decide) rfl (by decide) ?_
      exact law_17 l dC dI cI cJ cZ cO ab ac_ atr ah ap al abc aac anb asl ahs am hN hL C0 hX hbl hbA hi4 ct tr hi sl pd lt bc ac nb bn cw mo hR kk
    · refine V_tableIn (v := 18) (off := 601) (tgt := 633) C0 rfl dL_law_32 (by decide) (by decide) rfl (by decide) ?_
      exact law_18 l dC dI cI cJ cZ cO ab ac_ atr ah ap al abc aac anb asl ahs am hN hL C0 hX hbl hbA hi4 ct tr hi sl pd lt bc ac nb bn cw mo hR kk
    · refine V_tableIn (v := 19) (off := 614) (tgt := 646) C0 rfl dL_law_32 (by decide) (by decide) rfl (by decide) ?_
      exact law_19 l dC dI cI cJ cZ cO ab ac_ atr ah ap al abc aac anb asl ahs am hN hL C0 hX hbl hbA hi4 ct tr hi sl pd lt bc ac nb bn cw mo hR kk
    · refine V_tableIn (v := 20) (off := 667) (tgt := 699) C0 rfl dL_law_32 (by decide) (by decide) rfl (by decide) ?_
      exact law_20 l dC dI cI cJ cZ cO ab ac_ atr ah ap al abc aac anb asl ahs am hN hL C0 hX hbl hbA hi4 ct tr hi sl pd lt bc ac nb bn cw mo hR kk
    · refine V_tableIn (v := 21) (off := 680) (tgt := 712) C0 rfl dL_law_32 (by decide) (by decide) rfl (by decide) ?_
      exact law_21 l dC dI cI cJ cZ cO ab ac_ atr ah ap al abc aac anb asl ahs am hN hL C0 hX hbl hbA hi4 ct tr hi sl pd lt bc ac nb bn cw mo hR kk
    · refine V_tableIn (v := 22) (off := 693) (tgt := 725) C0 rfl dL_law_32 (by decide) (by decide) rfl (by decide) ?_
      exact law_22 l dC dI cI cJ cZ cO ab ac_ atr ah ap al abc aac anb asl ahs am hN hL C0 hX hbl hbA hi4 ct tr hi sl pd lt bc ac nb bn cw mo hR kk
    · refine V_tableIn (v := 23) (off := 706) (tgt := 738) C0 rfl dL_law_32 (by decide) (by decide) rfl (by decide) ?_
      exact law_23 l dC dI cI cJ cZ cO ab ac_ atr ah ap al abc aac anb asl ahs am hN hL C0 hX hbl hbA hi4 ct tr hi sl pd lt bc ac nb bn cw mo hR kk
    · refine V_tableIn (v := 24) (off := 729) (tgt := 761) C0 rfl dL_law_32 (by decide) (by decide) rfl (by decide) ?_
      exact law_24 l dC dI cI cJ cZ cO ab ac_ atr ah ap al abc aac anb asl ahs am hN hL C0 hX hbl hbA hi4 ct tr hi sl pd lt bc ac nb bn cw mo hR kk
  · refine V_tableOut C0 dL_law_32 (Or.inr ?_) (show ((32 : Nat) : Int) + 752 = ((784 : Nat) : Int) by decide) ?_
    · rw [nI_toInt (by omega)]
      omega
    · exact kk ahs ct tr hi sl pd lt bc ac nb bn cw mo hR
theorem law_exit {p : Program} {e : Env} {s : State} {m : MethodId} {below : List Frame} {meth : Method} {c : Code} (l : Launch) {b L : Nat} {xs : Nat → Int32} (dC : Nat → ClassId) (dI : Nat → Nat → Nat) (cI cJ cZ cO : ClassId) (ab ac_ atr ah ap al abc aac anb : Nat → Nat) (asl : Nat → Nat → Nat) (am : Nat → Nat) {N : Nat} (hN : 2000 < N) (hL : L ≤ 2048) (C0 : Cx p s m #[Value.ref b] meth c cL_law 4 RL ret wsL_law (dC, dI) (TY cI cJ cZ cO) (fun q : Nat => s.heap.size ≤ q)) (hX : va_X b L xs s s.heap) (hbl : b < s.heap.size) (hbA : ¬ (fun q : Nat => s.heap.size ≤ q) b) (ahs : Nat → Nat → Nat) (ct : CV) (tr : CV) (hi : HV) (sl : SV) (pd : PV) (lt : LV) (bc : BV) (ac : AV) (nb : NV) (bn : Nat → Int32) (cw : Nat → Int32) (mo : MV) (i : Nat) : VLw p l e s m b below meth c (dC, dI) (fun q : Nat => s.heap.size ≤ q) (WLw cI cJ cZ cO ab ac_ atr ah ap al abc aac anb asl ahs am ct tr hi sl pd lt bc ac nb bn cw mo) 790 (lvL b ab am i) [] := by
  intro H locs ls hP hD hS hl
  refine va_forget (fun q hq => hS.2.2 q hq) ?_
  refine W.widen (k := 600000) (n := 7302250) (Nat.le_of_ble_eq_true rfl) (Nat.le_of_ble_eq_true rfl) ?_
  refine lv_iconst (v := 1) C0.1 C0.2.1 dL_law_790 (by decide) ?_
  exact lw_ret C0.1 C0.2.1 C0.2.2.2.2.2.2.2.1 C0.2.2.2.2.2.2.2.2 dL_law_791
theorem law_loop {p : Program} {e : Env} {s : State} {m : MethodId} {below : List Frame} {meth : Method} {c : Code} (l : Launch) {b L : Nat} {xs : Nat → Int32} (dC : Nat → ClassId) (dI : Nat → Nat → Nat) (cI cJ cZ cO : ClassId) (ab ac_ atr ah ap al abc aac anb : Nat → Nat) (asl : Nat → Nat → Nat) (am : Nat → Nat) {N : Nat} (hN : 2000 < N) (hL : L ≤ 2048) (C0 : Cx p s m #[Value.ref b] meth c cL_law 4 RL ret wsL_law (dC, dI) (TY cI cJ cZ cO) (fun q : Nat => s.heap.size ≤ q)) (hX : va_X b L xs s s.heap) (hbl : b < s.heap.size) (hbA : ¬ (fun q : Nat => s.heap.size ≤ q) b) : ∀ (n i : Nat) (ahs : Nat → Nat → Nat) (ct : CV) (tr : CV) (hi : HV) (sl : SV) (pd : PV) (lt : LV) (bc : BV) (ac : AV) (nb : NV) (bn : Nat → Int32) (cw : Nat → Int32) (mo : MV), L - i < n → i ≤ L → RR ct hi sl pd mo → VLw p l e s m b below meth c (dC, dI) (fun q : Nat => s.heap.size ≤ q) (WLw cI cJ cZ cO ab ac_ atr ah ap al abc aac anb asl ahs am ct tr hi sl pd lt bc ac nb bn cw mo) 18 (lvL b ab am i) []
  | 0, _, _, _, _, _, _, _, _, _, _, _, _, _, _, h, _, _ => by omega
  | n + 1, i, ahs, ct, tr, hi, sl, pd, lt, bc, ac, nb, bn, cw, mo, h, hiL, hR => by
    refine V_iload_n C0 dL_law_18 0 rfl rfl ?_
    refine V_aload_n C0 dL_law_19 3 rfl rfl ?_
    refine V_slen C0 hX hbl hbA dL_law_20 rfl ?_
    refine V_iconst (v := 4) C0 dL_law_21 (by decide) rfl ?_
    refine V_isub C0 dL_law_22 rfl ?_
    refine V_icmp_gt (tgt := 790) C0 dL_law_23 (by decide) rfl (fun _ => ?_) (fun hc => ?_)
    · exact law_exit l dC dI cI cJ cZ cO ab ac_ atr ah ap al abc aac anb asl am hN hL C0 hX hbl hbA ahs ct tr hi sl pd lt bc ac nb bn cw mo i
    · have hi4 : i + 4 ≤ L := by
        rcases Nat.lt_or_ge L 4 with q | q
        · exact absurd (Int32.lt_of_lt_of_le (pk_sneg (a := L) (b := 4) (by decide) q) (nI_pos' (show i < 2 ^ 31 by omega))) hc
        · have e4 : nI L - 4 = nI (L - 4) := pk_sub (b := 4) q
          rw [e4] at hc
          rcases Nat.lt_or_ge (L - 4) i with r | r
          · exact absurd (nI_lt r (by omega)) hc
          · omega
      refine law_body l dC dI cI cJ cZ cO ab ac_ atr ah ap al abc aac anb asl ahs am hN hL C0 hX hbl hbA hi4 ct tr hi sl pd lt bc ac nb bn cw mo hR (fun ahs ct tr hi sl pd lt bc ac nb bn cw mo hR => ?_)
      refine V_iinc (v := nI (i + 4)) (lv' := lvL b ab am (i + 4)) C0 dL_law_784 (k := 0) rfl (nI_add i 4) (by decide) rfl rfl ?_
      refine V_goto (tgt := 18) C0 dL_law_787 (by decide) ?_
      exact law_loop l dC dI cI cJ cZ cO ab ac_ atr ah ap al abc aac anb asl am hN hL C0 hX hbl hbA n (i + 4) ahs ct tr hi sl pd lt bc ac nb bn cw mo (by omega) (by omega) hR
