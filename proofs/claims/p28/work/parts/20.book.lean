def f_X7_newPieceError (N : Nat) (ct : CV) (pd : PV) (x1 : Int32) : Option (Int32) := (f_X6_holdsLetters N pd 4).bind (fun (r_5 : Int32) => if r_5 = 0 then some ((-3)) else if x1 < 1 then some ((-2)) else if x1 ≤ 9 then if ct.1 < 16 then (f_X6_text N pd ).bind (fun (r_51 : Int32) => (f_X2_pieceWith N ct r_51).bind (fun (r_54 : Int32) => if r_54 = ((-1)) then some 0 else some ((-5)))) else some ((-4)) else some ((-2)))
def f_X7_piece (N : Nat) (ct : CV) (hi : HV) (pd : PV) (x1 : Int32) : Option (Int32 × CV × HV × PV) := (f_X7_newPieceError N ct pd x1).bind (fun (r_2 : Int32) => if r_2 = 0 then (f_X3_record N ct hi ).bind (fun (r_20 : HV) => (f_X6_text N pd ).bind (fun (r_31 : Int32) => (f_X2_addPiece N ct r_31 pd.1 x1).bind (fun (r_42 : CV) => some (r_42.1 - 1, r_42, r_20, (0, pd.2))))) else some (r_2, ct, hi, pd))
def f_X7_isPiece (N : Nat) (ct : CV) (x1 : Int32) : Option (Int32) := if x1 < 0 then some 0 else if ct.1 ≤ x1 then some 0 else some 1
def f_X7_weigh (N : Nat) (ct : CV) (hi : HV) (x1 : Int32) (x2 : Int32) : Option (Int32 × CV × HV) := (f_X7_isPiece N ct x1).bind (fun (r_2 : Int32) => if r_2 = 0 then some ((-1), ct, hi) else if x2 < 1 then some ((-2), ct, hi) else if x2 ≤ 9 then (f_X3_record N ct hi ).bind (fun (r_32 : HV) => ck x1 16 (bd (ct.2.2.2.1 (x1.toNatClampNeg)) (fun (x3_1 : Int32) => ck x1 16 (some (x3_1, (ct.1, ct.2.1, ct.2.2.1, upd ct.2.2.2.1 (x1.toNatClampNeg) x2, ct.2.2.2.2.1, ct.2.2.2.2.2.1, ct.2.2.2.2.2.2.1, ct.2.2.2.2.2.2.2), r_32))))) else some ((-2), ct, hi))
def f_X7_word (N : Nat) (ct : CV) (hi : HV) (pd : PV) (x1 : Int32) : Option (Int32 × CV × HV × PV) := (f_X6_holdsLetters N pd 12).bind (fun (r_6 : Int32) => if r_6 = 0 then some ((-3), ct, hi, pd) else if x1 < 1 then some ((-2), ct, hi, pd) else if x1 ≤ 99 then if ct.2.2.2.2.1 < 8 then (f_X3_record N ct hi ).bind (fun (r_52 : HV) => (f_X2_addWord N ct pd x1).bind (fun (r_64 : CV) => some (r_64.2.2.2.2.1 - 1, r_64, r_52, (0, pd.2)))) else some ((-4), ct, hi, pd) else some ((-2), ct, hi, pd))
def f_X7_isWord (N : Nat) (ct : CV) (x1 : Int32) : Option (Int32) := if x1 < 0 then some 0 else if ct.2.2.2.2.1 ≤ x1 then some 0 else some 1
def f_X7_forget (N : Nat) (ct : CV) (hi : HV) (x1 : Int32) : Option (Int32 × CV × HV) := (f_X7_isWord N ct x1).bind (fun (r_2 : Int32) => if r_2 = 0 then some ((-1), ct, hi) else (f_X3_record N ct hi ).bind (fun (r_18 : HV) => (f_X2_removeWord N ct x1).bind (fun (r_26 : CV) => some (r_26.2.2.2.2.1, r_26, r_18))))
def f_X7_bearAll_L46 (N : Nat) (ct : CV) (x1 : Int32) (lt : LV) (ac : AV) (K : (Nat → Int32) → Option (LV × AV × (Nat → Int32))) : Nat → Int32 → (Nat → Int32) → Option (LV × AV × (Nat → Int32))
  | 0, _, _ => none
  | n+1, x2, bn => if ct.1 ≤ x2 then K bn else ck x2 16 (ck x1 8 ((f_X0_shareOf N lt ac x2).bind (fun (r_82 : Int32) => ck x2 16 (f_X7_bearAll_L46 N ct x1 lt ac K n (x2 + 1) (upd bn (x2.toNatClampNeg) ((bn (x2.toNatClampNeg)) + ((ct.2.2.2.2.2.2.1 (x1.toNatClampNeg)) * r_82)))))))
def f_X7_bearAll_L10 (N : Nat) (ct : CV)  (K : LV → AV → (Nat → Int32) → Option (LV × AV × (Nat → Int32))) : Nat → Int32 → LV → AV → (Nat → Int32) → Option (LV × AV × (Nat → Int32))
  | 0, _, _, _, _ => none
  | n+1, x1, lt, ac, bn => if ct.2.2.2.2.1 ≤ x1 then K lt ac bn else (f_X4_read N ct lt x1).bind (fun (r_30 : LV) => (f_X0_find N r_30 ac ).bind (fun (r_41 : AV) => f_X7_bearAll_L46 N ct x1 r_30 r_41 (fun (bn_46 : (Nat → Int32)) => f_X7_bearAll_L10 N ct  K n (x1 + 1) r_30 r_41 bn_46) N 0 bn))
def f_X7_bearAll (N : Nat) (ct : CV) (lt : LV) (ac : AV) (bn : (Nat → Int32)) : Option (LV × AV × (Nat → Int32)) := (f_J7_fill_53178 N 16 bn 0).bind (fun (r_5 : (Nat → Int32)) => f_X7_bearAll_L10 N ct  (fun (lt_10 : LV) (ac_10 : AV) (bn_10 : (Nat → Int32)) => some (lt_10, ac_10, bn_10)) N 0 lt ac r_5)
def f_X7_tune_L19 (N : Nat)  (ct : CV) (hi : HV) (lt : LV) (ac : AV) (bn : (Nat → Int32)) (K : Int32 → Option (Int32 × CV × HV × LV × AV × (Nat → Int32))) : Nat → Int32 → Int32 → Option (Int32 × CV × HV × LV × AV × (Nat → Int32))
  | 0, _, _ => none
  | n+1, x1, x2 => if ct.1 ≤ x2 then K x1 else ck x2 16 (bd (if x1 < (bn (x2.toNatClampNeg)) then (bn (x2.toNatClampNeg)) else x1) (fun (x1_1 : Int32) => f_X7_tune_L19 N  ct hi lt ac bn K n x1_1 (x2 + 1)))
def f_X7_tune_L51 (N : Nat)  (x1 : Int32) (hi : HV) (lt : LV) (ac : AV) (bn : (Nat → Int32)) (K : Int32 → CV → Option (Int32 × CV × HV × LV × AV × (Nat → Int32))) : Nat → Int32 → Int32 → CV → Option (Int32 × CV × HV × LV × AV × (Nat → Int32))
  | 0, _, _, _ => none
  | n+1, x2, x3, ct => if ct.1 ≤ x3 then K x2 ct else jn (fun (s0_83 : Int32) => ck x3 16 (if (ct.2.2.2.1 (x3.toNatClampNeg)) = s0_83 then f_X7_tune_L51 N  x1 hi lt ac bn K n x2 (x3 + 1) ct else ck x3 16 (f_X7_tune_L51 N  x1 hi lt ac bn K n (x2 + 1) (x3 + 1) ((ct.1, ct.2.1, ct.2.2.1, upd ct.2.2.2.1 (x3.toNatClampNeg) s0_83, ct.2.2.2.2.1, ct.2.2.2.2.2.1, ct.2.2.2.2.2.2.1, ct.2.2.2.2.2.2.2))))) (fun (J83 : Int32 → Option (Int32 × CV × HV × LV × AV × (Nat → Int32))) => if x1 ≤ 0 then J83 1 else ck x3 16 (nzI x1 (J83 (1 + ((8 * (bn (x3.toNatClampNeg))) / x1)))))
def f_X7_tune (N : Nat) (ct : CV) (hi : HV) (lt : LV) (ac : AV) (bn : (Nat → Int32)) : Option (Int32 × CV × HV × LV × AV × (Nat → Int32)) := (f_X3_record N ct hi ).bind (fun (r_8 : HV) => (f_X7_bearAll N ct lt ac bn ).bind (fun (r_12 : LV × AV × (Nat → Int32)) => f_X7_tune_L19 N  ct r_8 r_12.1 r_12.2.1 r_12.2.2 (fun (x1_19 : Int32) => f_X7_tune_L51 N  x1_19 r_8 r_12.1 r_12.2.1 r_12.2.2 (fun (x2_51 : Int32) (ct_51 : CV) => some (x2_51, ct_51, r_8, r_12.1, r_12.2.1, r_12.2.2)) N 0 0 ct) N 0 0))
def f_X7_loseEach_L35 (N : Nat) (ct : CV) (x1 : Int32) (lt : LV) (K : BV → (Nat → Int32) → Option (LV × BV × (Nat → Int32))) : Nat → Int32 → BV → (Nat → Int32) → Option (LV × BV × (Nat → Int32))
  | 0, _, _, _ => none
  | n+1, x2, bc, cw => if ct.1 ≤ x2 then K bc cw else (f_X1_find N lt bc x2).bind (fun (r_55 : BV) => ck x2 16 ((f_X1_cost N r_55 ).bind (fun (r_69 : Int32) => ck x1 8 (ck x2 16 (f_X7_loseEach_L35 N ct x1 lt K n (x2 + 1) r_55 (upd cw (x2.toNatClampNeg) ((cw (x2.toNatClampNeg)) + (r_69 * (ct.2.2.2.2.2.2.1 (x1.toNatClampNeg))))))))))
def f_X7_loseEach_L10 (N : Nat) (ct : CV)  (K : LV → BV → (Nat → Int32) → Option (LV × BV × (Nat → Int32))) : Nat → Int32 → LV → BV → (Nat → Int32) → Option (LV × BV × (Nat → Int32))
  | 0, _, _, _, _ => none
  | n+1, x1, lt, bc, cw => if ct.2.2.2.2.1 ≤ x1 then K lt bc cw else (f_X4_read N ct lt x1).bind (fun (r_30 : LV) => f_X7_loseEach_L35 N ct x1 r_30 (fun (bc_35 : BV) (cw_35 : (Nat → Int32)) => f_X7_loseEach_L10 N ct  K n (x1 + 1) r_30 bc_35 cw_35) N 0 bc cw)
def f_X7_loseEach (N : Nat) (ct : CV) (lt : LV) (bc : BV) (cw : (Nat → Int32)) : Option (LV × BV × (Nat → Int32)) := (f_J7_fill_53178 N 16 cw 0).bind (fun (r_5 : (Nat → Int32)) => f_X7_loseEach_L10 N ct  (fun (lt_10 : LV) (bc_10 : BV) (cw_10 : (Nat → Int32)) => some (lt_10, bc_10, cw_10)) N 0 lt bc r_5)
def f_X7_findLeast_L8 (N : Nat) (ct : CV) (lt : LV) (bc : BV) (cw : (Nat → Int32)) (K : Int32 → Option (Int32 × LV × BV × (Nat → Int32))) : Nat → Int32 → Int32 → Option (Int32 × LV × BV × (Nat → Int32))
  | 0, _, _ => none
  | n+1, x1, x2 => if ct.1 ≤ x2 then K x1 else if x1 = ((-1)) then f_X7_findLeast_L8 N ct lt bc cw K n x2 (x2 + 1) else ck x2 16 (ck x1 16 (if (cw (x2.toNatClampNeg)) < (cw (x1.toNatClampNeg)) then f_X7_findLeast_L8 N ct lt bc cw K n x2 (x2 + 1) else ck x2 16 (ck x1 16 (if (cw (x2.toNatClampNeg)) = (cw (x1.toNatClampNeg)) then ck x2 16 (ck x1 16 (if (ct.2.2.2.1 (x1.toNatClampNeg)) < (ct.2.2.2.1 (x2.toNatClampNeg)) then f_X7_findLeast_L8 N ct lt bc cw K n x1 (x2 + 1) else f_X7_findLeast_L8 N ct lt bc cw K n x2 (x2 + 1))) else f_X7_findLeast_L8 N ct lt bc cw K n x1 (x2 + 1)))))
def f_X7_findLeast (N : Nat) (ct : CV) (lt : LV) (bc : BV) (cw : (Nat → Int32)) : Option (Int32 × LV × BV × (Nat → Int32)) := (f_X7_loseEach N ct lt bc cw ).bind (fun (r_1 : LV × BV × (Nat → Int32)) => f_X7_findLeast_L8 N ct r_1.1 r_1.2.1 r_1.2.2 (fun (x1_8 : Int32) => some (x1_8, r_1.1, r_1.2.1, r_1.2.2)) N ((-1)) 0)
def f_X7_shrink_L34 (N : Nat) (x1 : Int32) (x2 : Int32) (hi : HV) (K : CV → LV → BV → (Nat → Int32) → Option (Int32 × CV × HV × LV × BV × (Nat → Int32))) : Nat → Int32 → CV → LV → BV → (Nat → Int32) → Option (Int32 × CV × HV × LV × BV × (Nat → Int32))
  | 0, _, _, _, _, _ => none
  | n+1, x3, ct, lt, bc, cw => if x3 ≤ x1 then K ct lt bc cw else (f_X7_findLeast N ct lt bc cw ).bind (fun (r_44 : Int32 × LV × BV × (Nat → Int32)) => (f_X2_removePiece N ct r_44.1).bind (fun (r_47 : CV) => f_X7_shrink_L34 N x1 x2 hi K n (x3 + (-1)) r_47 r_44.2.1 r_44.2.2.1 r_44.2.2.2))
def f_X7_shrink (N : Nat) (ct : CV) (hi : HV) (lt : LV) (bc : BV) (cw : (Nat → Int32)) (x1 : Int32) : Option (Int32 × CV × HV × LV × BV × (Nat → Int32)) := if x1 < 0 then some ((-2), ct, hi, lt, bc, cw) else if x1 ≤ 16 then (f_X3_record N ct hi ).bind (fun (r_21 : HV) => f_X7_shrink_L34 N x1 ct.1 r_21 (fun (ct_34 : CV) (lt_34 : LV) (bc_34 : BV) (cw_34 : (Nat → Int32)) => some (ct.1 - ct_34.1, ct_34, r_21, lt_34, bc_34, cw_34)) N ct.1 ct lt bc cw) else some ((-2), ct, hi, lt, bc, cw)
def f_X7_letterOfText (N : Nat) (x0 : Int32) (x1 : Int32) (x2 : Int32) : Option (Int32) := if x2 < x1 then some (((x0 >>> ((3 * ((x1 - 1) - x2)) &&& 31)) &&& 7) - 1) else some ((-6))
def f_X7_cutBest (N : Nat) (fr : CV) (lt : LV) (bc : BV) (x2 : Int32) : Option (LV × BV) := (f_X4_read N fr lt x2).bind (fun (r_6 : LV) => (f_X1_find N r_6 bc (-1)).bind (fun (r_18 : BV) => some (r_6, r_18)))
def f_X7_timesInBestCuts_L27 (N : Nat) (ct : CV) (x1 : Int32) (x3 : Int32) (lt : LV) (bc : BV) (K : Int32 → Option (Int32 × LV × BV)) : Nat → Int32 → Int32 → Option (Int32 × LV × BV)
  | 0, _, _ => none
  | n+1, x2, x4 => if bc.2.2.2.1 ≤ x4 then K x2 else ck x4 12 (if (bc.2.2.2.2.2.1 (x4.toNatClampNeg)) = x1 then ck x3 8 (bd (x2 + (ct.2.2.2.2.2.2.1 (x3.toNatClampNeg))) (fun (x2_1 : Int32) => f_X7_timesInBestCuts_L27 N ct x1 x3 lt bc K n x2_1 (x4 + 1))) else f_X7_timesInBestCuts_L27 N ct x1 x3 lt bc K n x2 (x4 + 1))
def f_X7_timesInBestCuts_L4 (N : Nat) (ct : CV) (x1 : Int32)  (K : Int32 → LV → BV → Option (Int32 × LV × BV)) : Nat → Int32 → Int32 → LV → BV → Option (Int32 × LV × BV)
  | 0, _, _, _, _ => none
  | n+1, x2, x3, lt, bc => if ct.2.2.2.2.1 ≤ x3 then K x2 lt bc else (f_X7_cutBest N ct lt bc x3).bind (fun (r_21 : LV × BV) => f_X7_timesInBestCuts_L27 N ct x1 x3 r_21.1 r_21.2 (fun (x2_27 : Int32) => f_X7_timesInBestCuts_L4 N ct x1  K n x2_27 (x3 + 1) r_21.1 r_21.2) N x2 0)
def f_X7_timesInBestCuts (N : Nat) (ct : CV) (lt : LV) (bc : BV) (x1 : Int32) : Option (Int32 × LV × BV) := f_X7_timesInBestCuts_L4 N ct x1  (fun (x2_4 : Int32) (lt_4 : LV) (bc_4 : BV) => some (x2_4, lt_4, bc_4)) N 0 0 lt bc
def f_X7_costOfAll_L4 (N : Nat) (fr : CV)  (K : Int32 → LV → BV → Option (Int32 × LV × BV)) : Nat → Int32 → Int32 → LV → BV → Option (Int32 × LV × BV)
  | 0, _, _, _, _ => none
  | n+1, x2, x3, lt, bc => if fr.2.2.2.2.1 ≤ x3 then K x2 lt bc else (f_X7_cutBest N fr lt bc x3).bind (fun (r_15 : LV × BV) => (f_X1_cost N r_15.2 ).bind (fun (r_23 : Int32) => ck x3 8 (bd (x2 + (r_23 * (fr.2.2.2.2.2.2.1 (x3.toNatClampNeg)))) (fun (x2_1 : Int32) => f_X7_costOfAll_L4 N fr  K n x2_1 (x3 + 1) r_15.1 r_15.2))))
def f_X7_costOfAll (N : Nat) (fr : CV) (lt : LV) (bc : BV) : Option (Int32 × LV × BV) := f_X7_costOfAll_L4 N fr  (fun (x2_4 : Int32) (lt_4 : LV) (bc_4 : BV) => some (x2_4, lt_4, bc_4)) N 0 0 lt bc
def f_X7_ofPiece (N : Nat) (ct : CV) (lt : LV) (bc : BV) (ac : AV) (bn : (Nat → Int32)) (cw : (Nat → Int32)) (x1 : Int32) (x2 : Int32) : Option (Int32 × LV × BV × AV × (Nat → Int32) × (Nat → Int32)) := (f_X7_isPiece N ct x1).bind (fun (r_2 : Int32) => if r_2 = 0 then some ((-1), lt, bc, ac, bn, cw) else if x2 = 0 then ck x1 16 (some (ct.2.2.1 (x1.toNatClampNeg), lt, bc, ac, bn, cw)) else if x2 = 1 then ck x1 16 (some (ct.2.2.2.1 (x1.toNatClampNeg), lt, bc, ac, bn, cw)) else if x2 = 2 then ck x1 16 (ck x1 16 ((f_X7_letterOfText N  (ct.2.1 (x1.toNatClampNeg)) (ct.2.2.1 (x1.toNatClampNeg)) (x2 - 2)).bind (fun (r_101 : Int32) => some (r_101, lt, bc, ac, bn, cw)))) else if x2 = 3 then ck x1 16 (ck x1 16 ((f_X7_letterOfText N  (ct.2.1 (x1.toNatClampNeg)) (ct.2.2.1 (x1.toNatClampNeg)) (x2 - 2)).bind (fun (r_101 : Int32) => some (r_101, lt, bc, ac, bn, cw)))) else if x2 = 4 then ck x1 16 (ck x1 16 ((f_X7_letterOfText N  (ct.2.1 (x1.toNatClampNeg)) (ct.2.2.1 (x1.toNatClampNeg)) (x2 - 2)).bind (fun (r_101 : Int32) => some (r_101, lt, bc, ac, bn, cw)))) else if x2 = 5 then ck x1 16 (ck x1 16 ((f_X7_letterOfText N  (ct.2.1 (x1.toNatClampNeg)) (ct.2.2.1 (x1.toNatClampNeg)) (x2 - 2)).bind (fun (r_101 : Int32) => some (r_101, lt, bc, ac, bn, cw)))) else if x2 = 6 then (f_X7_timesInBestCuts N ct lt bc x1).bind (fun (r_107 : Int32 × LV × BV) => some (r_107.1, r_107.2.1, r_107.2.2, ac, bn, cw)) else if x2 = 7 then (f_X7_loseEach N ct lt bc cw ).bind (fun (r_112 : LV × BV × (Nat → Int32)) => ck x1 16 ((f_X7_costOfAll N ct r_112.1 r_112.2.1 ).bind (fun (r_126 : Int32 × LV × BV) => some (((r_112.2.2 (x1.toNatClampNeg)) - r_126.1) + 100000, r_126.2.1, r_126.2.2, ac, bn, r_112.2.2)))) else if x2 = 8 then (f_X7_bearAll N ct lt ac bn ).bind (fun (r_135 : LV × AV × (Nat → Int32)) => ck x1 16 (some (r_135.2.2 (x1.toNatClampNeg), r_135.1, bc, r_135.2.1, r_135.2.2, cw))) else some ((-2), lt, bc, ac, bn, cw))
def f_X7_ofWord (N : Nat) (ct : CV) (lt : LV) (bc : BV) (ac : AV) (x1 : Int32) (x2 : Int32) : Option (Int32 × LV × BV × AV) := (f_X7_isWord N ct x1).bind (fun (r_2 : Int32) => if r_2 = 0 then some ((-1), lt, bc, ac) else (f_X7_cutBest N ct lt bc x1).bind (fun (r_16 : LV × BV) => if x2 = 0 then ck x1 8 (some (ct.2.2.2.2.2.1 (x1.toNatClampNeg), r_16.1, r_16.2, ac)) else if x2 = 1 then ck x1 8 (some (ct.2.2.2.2.2.2.1 (x1.toNatClampNeg), r_16.1, r_16.2, ac)) else if x2 = 2 then some (r_16.2.2.2.2.1, r_16.1, r_16.2, ac) else if x2 = 3 then some (r_16.2.2.2.2.2.1, r_16.1, r_16.2, ac) else if x2 = 4 then (f_X1_cost N r_16.2 ).bind (fun (r_100 : Int32) => ck x1 8 (some (r_100 * (ct.2.2.2.2.2.2.1 (x1.toNatClampNeg)), r_16.1, r_16.2, ac))) else if x2 = 5 then (f_X0_find N r_16.1 ac ).bind (fun (r_122 : AV) => (f_X0_cuts N r_122 ).bind (fun (r_129 : Int32) => some (r_129, r_16.1, r_16.2, r_122))) else some ((-2), r_16.1, r_16.2, ac)))
def f_X7_letter (N : Nat) (ct : CV) (x1 : Int32) (x2 : Int32) : Option (Int32) := (f_X7_isWord N ct x1).bind (fun (r_2 : Int32) => if r_2 = 0 then some ((-1)) else if x2 < 0 then some ((-1)) else ck x1 8 (if x2 < (ct.2.2.2.2.2.1 (x1.toNatClampNeg)) then (f_X2_letterAt N ct x1 x2).bind (fun (r_33 : Int32) => some r_33) else some ((-1))))
def f_X7_product (N : Nat) (ct : CV) (lt : LV) (bc : BV) (ac : AV) (x1 : Int32) (x2 : Int32) : Option (Int64 × LV × BV × AV) := (f_X7_isWord N ct x1).bind (fun (r_2 : Int32) => if r_2 = 0 then some ((-1), lt, bc, ac) else if x2 = 0 then (f_X4_read N ct lt x1).bind (fun (r_25 : LV) => (f_X0_find N r_25 ac ).bind (fun (r_36 : AV) => (f_X0_total N r_36 ).bind (fun (r_43 : Int64) => some (r_43, r_25, bc, r_36)))) else if x2 = 1 then (f_X7_cutBest N ct lt bc x1).bind (fun (r_58 : LV × BV) => (f_X1_greatestProduct N r_58.2 ).bind (fun (r_65 : Int64) => some (r_65, r_58.1, r_58.2, ac))) else some ((-2), lt, bc, ac))
def f_X7_part (N : Nat) (ct : CV) (lt : LV) (bc : BV) (x1 : Int32) (x2 : Int32) (x3 : Int32) : Option (Int32 × LV × BV) := (f_X7_isWord N ct x1).bind (fun (r_2 : Int32) => if r_2 = 0 then some ((-1), lt, bc) else (f_X7_cutBest N ct lt bc x1).bind (fun (r_16 : LV × BV) => if x2 < 0 then some ((-1), r_16.1, r_16.2) else if x2 < r_16.2.2.2.2.1 then if x3 = 0 then ck x2 12 (if (r_16.2.2.2.2.2.2.1 (x2.toNatClampNeg)) = ((-1)) then some ((-6), r_16.1, r_16.2) else ck x2 12 (some (r_16.2.2.2.2.2.2.1 (x2.toNatClampNeg), r_16.1, r_16.2))) else if x3 = 1 then ck x2 12 (some (r_16.2.2.2.2.2.2.2.1 (x2.toNatClampNeg), r_16.1, r_16.2)) else if x3 = 2 then ck x2 12 (some (r_16.2.2.2.2.2.2.2.2 (x2.toNatClampNeg), r_16.1, r_16.2)) else some ((-2), r_16.1, r_16.2) else some ((-1), r_16.1, r_16.2)))
def f_X7_share (N : Nat) (ct : CV) (lt : LV) (ac : AV) (x1 : Int32) (x2 : Int32) : Option (Int32 × LV × AV) := (f_X7_isWord N ct x1).bind (fun (r_2 : Int32) => if r_2 = 0 then some ((-1), lt, ac) else (f_X7_isPiece N ct x2).bind (fun (r_10 : Int32) => if r_10 = 0 then some ((-1), lt, ac) else (f_X4_read N ct lt x1).bind (fun (r_27 : LV) => (f_X0_find N r_27 ac ).bind (fun (r_38 : AV) => (f_X0_shareOf N r_27 r_38 x2).bind (fun (r_50 : Int32) => some (r_50, r_27, r_38))))))
def f_X7_lettersOfAll_L4 (N : Nat) (ct : CV)  (K : Int32 → Option (Int32)) : Nat → Int32 → Int32 → Option (Int32)
  | 0, _, _ => none
  | n+1, x1, x2 => if ct.2.2.2.2.1 ≤ x2 then K x1 else ck x2 8 (ck x2 8 (bd (x1 + ((ct.2.2.2.2.2.1 (x2.toNatClampNeg)) * (ct.2.2.2.2.2.2.1 (x2.toNatClampNeg)))) (fun (x1_1 : Int32) => f_X7_lettersOfAll_L4 N ct  K n x1_1 (x2 + 1))))
def f_X7_lettersOfAll (N : Nat) (ct : CV) : Option (Int32) := f_X7_lettersOfAll_L4 N ct  (fun (x1_4 : Int32) => some x1_4) N 0 0
def f_X7_partsOfAll_L4 (N : Nat) (ct : CV)  (K : Int32 → LV → BV → Option (Int32 × LV × BV)) : Nat → Int32 → Int32 → LV → BV → Option (Int32 × LV × BV)
  | 0, _, _, _, _ => none
  | n+1, x1, x2, lt, bc => if ct.2.2.2.2.1 ≤ x2 then K x1 lt bc else (f_X7_cutBest N ct lt bc x2).bind (fun (r_21 : LV × BV) => ck x2 8 (bd (x1 + (r_21.2.2.2.2.1 * (ct.2.2.2.2.2.2.1 (x2.toNatClampNeg)))) (fun (x1_1 : Int32) => f_X7_partsOfAll_L4 N ct  K n x1_1 (x2 + 1) r_21.1 r_21.2)))
def f_X7_partsOfAll (N : Nat) (ct : CV) (lt : LV) (bc : BV) : Option (Int32 × LV × BV) := f_X7_partsOfAll_L4 N ct  (fun (x1_4 : Int32) (lt_4 : LV) (bc_4 : BV) => some (x1_4, lt_4, bc_4)) N 0 0 lt bc
def f_X7_count (N : Nat) (ct : CV) (hi : HV) (pd : PV) (lt : LV) (bc : BV) (x1 : Int32) : Option (Int32 × LV × BV) := if x1 = 0 then some (ct.1, lt, bc) else if x1 = 1 then some (ct.2.2.2.2.1, lt, bc) else if x1 = 2 then (f_X7_costOfAll N ct lt bc ).bind (fun (r_69 : Int32 × LV × BV) => some (r_69.1, r_69.2.1, r_69.2.2)) else if x1 = 3 then (f_X7_lettersOfAll N ct ).bind (fun (r_74 : Int32) => some (r_74, lt, bc)) else if x1 = 4 then (f_X7_partsOfAll N ct lt bc ).bind (fun (r_79 : Int32 × LV × BV) => some (r_79.1, r_79.2.1, r_79.2.2)) else if x1 = 5 then (f_X7_costOfAll N ct lt bc ).bind (fun (r_88 : Int32 × LV × BV) => (f_X7_partsOfAll N ct r_88.2.1 r_88.2.2 ).bind (fun (r_92 : Int32 × LV × BV) => some (r_88.1 - r_92.1, r_92.2.1, r_92.2.2))) else if x1 = 6 then some (pd.1, lt, bc) else if x1 = 7 then some (hi.1, lt, bc) else some ((-2), lt, bc)
def f_X7_least (N : Nat) (ct : CV) (lt : LV) (bc : BV) (cw : (Nat → Int32)) : Option (Int32 × LV × BV × (Nat → Int32)) := (f_X7_findLeast N ct lt bc cw ).bind (fun (r_1 : Int32 × LV × BV × (Nat → Int32)) => if r_1.1 = ((-1)) then some ((-6), r_1.2.1, r_1.2.2.1, r_1.2.2.2) else some (r_1.1, r_1.2.1, r_1.2.2.1, r_1.2.2.2))
def f_X7_charactersIn_L8 (N : Nat) (x0 : Int64)  (K : Int32 → Option (Int32)) : Nat → Int64 → Int32 → Int32 → Option (Int32)
  | 0, _, _, _ => none
  | n+1, x2, x4, x5 => if 8 ≤ x5 then K x4 else if (lg_cmp x2 0) = 0 then K x4 else bd ((x2 &&& 255).toInt32) (fun (x6_1 : Int32) => if x6_1 < 33 then some 0 else if x6_1 ≤ 126 then bd (ushr x2 8) (fun (x2_2 : Int64) => f_X7_charactersIn_L8 N x0  K n x2_2 (x4 + 1) (x5 + 1)) else some 0)
def f_X7_charactersIn (N : Nat) (x0 : Int64) : Option (Int32) := f_X7_charactersIn_L8 N x0  (fun (x4_8 : Int32) => some x4_8) N x0 0 0
def f_X7_put_L34 (N : Nat) (x1 : Int64)  (K : PV → Option (Int32 × PV)) : Nat → Int32 → PV → Option (Int32 × PV)
  | 0, _, _ => none
  | n+1, x4, pd => if x4 < 0 then K pd else (f_X6_append N pd (((ushr x1 (8 * x4)).toInt32) &&& 255)).bind (fun (r_55 : PV) => f_X7_put_L34 N x1  K n (x4 + (-1)) r_55)
def f_X7_put (N : Nat) (pd : PV) (x1 : Int64) : Option (Int32 × PV) := (f_X7_charactersIn N  x1).bind (fun (r_1 : Int32) => if r_1 = 0 then some ((-2), pd) else if (pd.1 + r_1) ≤ 16 then f_X7_put_L34 N x1  (fun (pd_34 : PV) => some (pd_34.1, pd_34)) N (r_1 - 1) pd else some ((-4), pd))
def f_X7_wipe (N : Nat) (pd : PV) : Option (Int32 × PV) := some (pd.1, (0, pd.2))
def f_X7_fault (N : Nat) (pd : PV) : Option (Int32) := (f_X6_firstNoLetter N pd ).bind (fun (r_4 : Int32) => if pd.1 ≤ r_4 then some ((-6)) else some r_4)
abbrev RM_X7_newPieceError : Room := { frames := 3, cells := 0, slots := 0, locals := 63 }
theorem in_X7_newPieceError_X2 : ∀ w ∈ u_ws RX2 TX2 8, w ∈ wsX7_newPieceError := by decide +kernel
theorem in_X7_newPieceError_X7 : ∀ w ∈ u_ws RX7 TX7 12, w ∈ wsX7_newPieceError := by decide +kernel
theorem fl_X7_newPieceError_10 : FL RX7 wsX7_newPieceError 7 10 0 RX7 TX7 12 := ⟨in_X7_newPieceError_X7, rfl, by decide, by decide +kernel, rfl⟩
theorem fl_X7_newPieceError_37 : FL RX7 wsX7_newPieceError 7 37 5 RX7 TX7 12 := ⟨in_X7_newPieceError_X7, rfl, by decide, by decide +kernel, rfl⟩
theorem fl_X7_newPieceError_96 : FL RX7 wsX7_newPieceError 2 96 0 RX2 TX2 8 := ⟨in_X7_newPieceError_X2, rfl, by decide, by decide +kernel, rfl⟩
set_option maxRecDepth 100000 in
set_option maxHeartbeats 4000000 in
theorem c_X7_newPieceError (l : Launch) (dC : Nat → ClassId) (dI : Nat → Nat → Nat) (cI cJ cZ cO : ClassId) (ab : Nat → Nat) (ac_ : Nat → Nat) (atr : Nat → Nat) (ah : Nat → Nat) (ap : Nat → Nat) (al : Nat → Nat) (abc : Nat → Nat) (aac : Nat → Nat) (anb : Nat → Nat) (N : Nat) (ct : CV) (pd : PV) (x1 : Int32) (o : Int32) (hf : f_X7_newPieceError N ct pd x1 = some o) : MetI l yX7_newPieceError wsX7_newPieceError RM_X7_newPieceError (dC, dI) (TY cI cJ cZ cO) [.ref (ab 0), .int x1] (W_BO cI cJ cZ cO ab ac_ atr ah ap al abc aac anb ++ (W_C cI cJ cZ cO ac_ ct.1 ct.2.1 ct.2.2.1 ct.2.2.2.1 ct.2.2.2.2.1 ct.2.2.2.2.2.1 ct.2.2.2.2.2.2.1 ct.2.2.2.2.2.2.2 ++ (W_P cI cJ cZ cO ap pd.1 pd.2))) (fun r (_ : Unit) => r = o) (fun _ => (W_BO cI cJ cZ cO ab ac_ atr ah ap al abc aac anb ++ (W_C cI cJ cZ cO ac_ ct.1 ct.2.1 ct.2.2.1 ct.2.2.2.1 ct.2.2.2.2.1 ct.2.2.2.2.2.1 ct.2.2.2.2.2.2.1 ct.2.2.2.2.2.2.2 ++ (W_P cI cJ cZ cO ap pd.1 pd.2)))) := by
  refine MetI.ofV (cc := cX7_newPieceError) (maxL := 2) (ret := (some .int)) (own := RX7) (lv0 := [(0, .ref (ab 0)), (1, .int x1)]) (by decide) rfl rfl (Nat.le_of_ble_eq_true rfl) rfl ?_
  intro p e s m below meth c A C0 _
  unfold f_X7_newPieceError at hf
  refine V_aload_n C0 dX7_newPieceError_0 0 rfl rfl ?_
  refine V_get C0 fl_X7_newPieceError_37 0 rfl rfl dX7_newPieceError_1 rfl ?_
  refine V_iconst (v := 4) C0 dX7_newPieceError_4 (by decide) rfl ?_
  obtain ⟨r_5, hc_5, hf⟩ := bind_inv hf
  refine V_cVI (ws' := (W_BO cI cJ cZ cO ab ac_ atr ah ap al abc aac anb ++ (W_C cI cJ cZ cO ac_ ct.1 ct.2.1 ct.2.2.1 ct.2.2.2.1 ct.2.2.2.2.1 ct.2.2.2.2.2.1 ct.2.2.2.2.2.2.1 ct.2.2.2.2.2.2.2 ++ (W_P cI cJ cZ cO ap pd.1 pd.2)))) (As := [.int 4]) (b := ap 0) (st := []) C0 (c_X6_holdsLetters l dC dI cI cJ cZ cO ap N pd 4 r_5 hc_5) rfl 1 gX7_newPieceError_X6_holdsLetters (by decide +kernel) ⟨Nat.le_of_ble_eq_true rfl, Nat.le_of_ble_eq_true rfl⟩ rfl 8 6 rfl rfl  ⟨_, (pr (pr pt1)), fun _ => (pr (pr pt1))⟩ rfl (Nat.le_of_ble_eq_true rfl) dX7_newPieceError_5 rfl ⟨Nat.zero_le _, Nat.zero_le _⟩ ?_
  refine V_if_ne (tgt := 14) C0 dX7_newPieceError_8 (by decide) rfl (fun c8 => ?_) (fun c8 => ?_)
  · have hf := ite_f c8 hf
    refine V_iload_n C0 dX7_newPieceError_14 1 rfl rfl ?_
    refine V_iconst (v := 1) C0 dX7_newPieceError_15 (by decide) rfl ?_
    refine V_icmp_lt (tgt := 25) C0 dX7_newPieceError_16 (by decide) rfl (fun c16 => ?_) (fun c16 => ?_)
    · have hf := ite_t c16 hf
      refine V_bipush (v := (-2)) C0 dX7_newPieceError_25 (by decide) rfl ?_
      obtain rfl := some_inv hf
      exact V_iret C0 () rfl rfl dX7_newPieceError_27
    · have hf := ite_f c16 hf
      refine V_iload_n C0 dX7_newPieceError_19 1 rfl rfl ?_
      refine V_bipush (v := 9) C0 dX7_newPieceError_20 (by decide) rfl ?_
      refine V_icmp_le (tgt := 28) C0 dX7_newPieceError_22 (by decide) rfl (fun c22 => ?_) (fun c22 => ?_)
      · have hf := ite_t c22 hf
        refine V_aload_n C0 dX7_newPieceError_28 0 rfl rfl ?_
        refine V_get C0 fl_X7_newPieceError_10 0 rfl rfl dX7_newPieceError_29 rfl ?_
        refine V_get C0 fl_X7_newPieceError_96 1 rfl rfl dX7_newPieceError_32 rfl ?_
        refine V_bipush (v := 16) C0 dX7_newPieceError_35 (by decide) rfl ?_
        refine V_icmp_lt (tgt := 43) C0 dX7_newPieceError_37 (by decide) rfl (fun c37 => ?_) (fun c37 => ?_)
        · have hf := ite_t c37 hf
          refine V_aload_n C0 dX7_newPieceError_43 0 rfl rfl ?_
          refine V_get C0 fl_X7_newPieceError_10 0 rfl rfl dX7_newPieceError_44 rfl ?_
          refine V_aload_n C0 dX7_newPieceError_47 0 rfl rfl ?_
          refine V_get C0 fl_X7_newPieceError_37 0 rfl rfl dX7_newPieceError_48 rfl ?_
          obtain ⟨r_51, hc_51, hf⟩ := bind_inv hf
          refine V_cVI (ws' := (W_BO cI cJ cZ cO ab ac_ atr ah ap al abc aac anb ++ (W_C cI cJ cZ cO ac_ ct.1 ct.2.1 ct.2.2.1 ct.2.2.2.1 ct.2.2.2.2.1 ct.2.2.2.2.2.1 ct.2.2.2.2.2.2.1 ct.2.2.2.2.2.2.2 ++ (W_P cI cJ cZ cO ap pd.1 pd.2)))) (As := []) (b := ap 0) (st := [.ref (ac_ 0)]) C0 (c_X6_text l dC dI cI cJ cZ cO ap N pd  r_51 hc_51) rfl 0 gX7_newPieceError_X6_text (by decide +kernel) ⟨Nat.le_of_ble_eq_true rfl, Nat.le_of_ble_eq_true rfl⟩ rfl 8 6 rfl rfl  ⟨_, (pr (pr pt1)), fun _ => (pr (pr pt1))⟩ rfl (Nat.le_of_ble_eq_true rfl) dX7_newPieceError_51 rfl ⟨Nat.zero_le _, Nat.zero_le _⟩ ?_
          obtain ⟨r_54, hc_54, hf⟩ := bind_inv hf
          refine V_cVI (ws' := (W_BO cI cJ cZ cO ab ac_ atr ah ap al abc aac anb ++ (W_C cI cJ cZ cO ac_ ct.1 ct.2.1 ct.2.2.1 ct.2.2.2.1 ct.2.2.2.2.1 ct.2.2.2.2.2.1 ct.2.2.2.2.2.2.1 ct.2.2.2.2.2.2.2 ++ (W_P cI cJ cZ cO ap pd.1 pd.2)))) (As := [.int r_51]) (b := ac_ 0) (st := []) C0 (c_X2_pieceWith l dC dI cI cJ cZ cO ac_ N ct r_51 r_54 hc_54) rfl 1 gX7_newPieceError_X2_pieceWith (by decide +kernel) ⟨Nat.le_of_ble_eq_true rfl, Nat.le_of_ble_eq_true rfl⟩ rfl 1 2 rfl rfl  ⟨_, (pr (pte pr1)), fun _ => (pr (pte pr1))⟩ rfl (Nat.le_of_ble_eq_true rfl) dX7_newPieceError_54 rfl ⟨Nat.zero_le _, Nat.zero_le _⟩ ?_
          refine V_iconst (v := (-1)) C0 dX7_newPieceError_57 (by decide) rfl ?_
          refine V_icmp_eq (tgt := 64) C0 dX7_newPieceError_58 (by decide) rfl (fun c58 => ?_) (fun c58 => ?_)
          · have hf := ite_t c58 hf
            refine V_iconst (v := 0) C0 dX7_newPieceError_64 (by decide) rfl ?_
            obtain rfl := some_inv hf
            exact V_iret C0 () rfl rfl dX7_newPieceError_65
          · have hf := ite_f c58 hf
            refine V_bipush (v := (-5)) C0 dX7_newPieceError_61 (by decide) rfl ?_
            obtain rfl := some_inv hf
            exact V_iret C0 () rfl rfl dX7_newPieceError_63
        · have hf := ite_f c37 hf
          refine V_bipush (v := (-4)) C0 dX7_newPieceError_40 (by decide) rfl ?_
          obtain rfl := some_inv hf
          exact V_iret C0 () rfl rfl dX7_newPieceError_42
      · have hf := ite_f c22 hf
        refine V_bipush (v := (-2)) C0 dX7_newPieceError_25 (by decide) rfl ?_
        obtain rfl := some_inv hf
        exact V_iret C0 () rfl rfl dX7_newPieceError_27
  · have hf := ite_t c8 hf
    refine V_bipush (v := (-3)) C0 dX7_newPieceError_11 (by decide) rfl ?_
    obtain rfl := some_inv hf
    exact V_iret C0 () rfl rfl dX7_newPieceError_13
abbrev RM_X7_piece : Room := { frames := 4, cells := 0, slots := 0, locals := 102 }
theorem in_X7_piece_X2 : ∀ w ∈ u_ws RX2 TX2 8, w ∈ wsX7_piece := by decide +kernel
theorem in_X7_piece_X6 : ∀ w ∈ u_ws RX6 TX6 2, w ∈ wsX7_piece := by decide +kernel
theorem in_X7_piece_X7 : ∀ w ∈ u_ws RX7 TX7 12, w ∈ wsX7_piece := by decide +kernel
theorem fl_X7_piece_10 : FL RX7 wsX7_piece 7 10 0 RX7 TX7 12 := ⟨in_X7_piece_X7, rfl, by decide, by decide +kernel, rfl⟩
theorem fl_X7_piece_30 : FL RX7 wsX7_piece 7 30 4 RX7 TX7 12 := ⟨in_X7_piece_X7, rfl, by decide, by decide +kernel, rfl⟩
theorem fl_X7_piece_37 : FL RX7 wsX7_piece 7 37 5 RX7 TX7 12 := ⟨in_X7_piece_X7, rfl, by decide, by decide +kernel, rfl⟩
theorem fl_X7_piece_88 : FL RX7 wsX7_piece 6 88 0 RX6 TX6 2 := ⟨in_X7_piece_X6, rfl, by decide, by decide +kernel, rfl⟩
theorem fl_X7_piece_96 : FL RX7 wsX7_piece 2 96 0 RX2 TX2 8 := ⟨in_X7_piece_X2, rfl, by decide, by decide +kernel, rfl⟩
set_option maxRecDepth 100000 in
set_option maxHeartbeats 4000000 in
theorem c_X7_piece (l : Launch) (dC : Nat → ClassId) (dI : Nat → Nat → Nat) (cI cJ cZ cO : ClassId) (ab : Nat → Nat) (ac_ : Nat → Nat) (atr : Nat → Nat) (ah : Nat → Nat) (ap : Nat → Nat) (al : Nat → Nat) (abc : Nat → Nat) (aac : Nat → Nat) (anb : Nat → Nat) (ahs : Nat → Nat → Nat) (N : Nat) (ct : CV) (hi : HV) (pd : PV) (x1 : Int32) (o : Int32 × CV × HV × PV) (hf : f_X7_piece N ct hi pd x1 = some o) : MetI l yX7_piece wsX7_piece RM_X7_piece (dC, dI) (TY cI cJ cZ cO) [.ref (ab 0), .int x1] (W_BO cI cJ cZ cO ab ac_ atr ah ap al abc aac anb ++ (W_C cI cJ cZ cO ac_ ct.1 ct.2.1 ct.2.2.1 ct.2.2.2.1 ct.2.2.2.2.1 ct.2.2.2.2.2.1 ct.2.2.2.2.2.2.1 ct.2.2.2.2.2.2.2 ++ (W_H cI cJ cZ cO ah ahs hi.1 hi.2.1 hi.2.2.1 hi.2.2.2.1 hi.2.2.2.2.1 hi.2.2.2.2.2.1 hi.2.2.2.2.2.2 ++ (W_P cI cJ cZ cO ap pd.1 pd.2)))) (fun r (_ : Nat → Nat → Nat) => r = o.1) (fun (ahs : Nat → Nat → Nat) => (W_BO cI cJ cZ cO ab ac_ atr ah ap al abc aac anb ++ (W_C cI cJ cZ cO ac_ o.2.1.1 o.2.1.2.1 o.2.1.2.2.1 o.2.1.2.2.2.1 o.2.1.2.2.2.2.1 o.2.1.2.2.2.2.2.1 o.2.1.2.2.2.2.2.2.1 o.2.1.2.2.2.2.2.2.2 ++ (W_H cI cJ cZ cO ah ahs o.2.2.1.1 o.2.2.1.2.1 o.2.2.1.2.2.1 o.2.2.1.2.2.2.1 o.2.2.1.2.2.2.2.1 o.2.2.1.2.2.2.2.2.1 o.2.2.1.2.2.2.2.2.2 ++ (W_P cI cJ cZ cO ap o.2.2.2.1 o.2.2.2.2))))) := by
  refine MetI.ofV (cc := cX7_piece) (maxL := 3) (ret := (some .int)) (own := RX7) (lv0 := [(0, .ref (ab 0)), (1, .int x1)]) (by decide) rfl rfl (Nat.le_of_ble_eq_true rfl) rfl ?_
  intro p e s m below meth c A C0 _
  unfold f_X7_piece at hf
  refine V_aload_n C0 dX7_piece_0 0 rfl rfl ?_
  refine V_iload_n C0 dX7_piece_1 1 rfl rfl ?_
  obtain ⟨r_2, hc_2, hf⟩ := bind_inv hf
  refine V_cVI (ws' := (W_BO cI cJ cZ cO ab ac_ atr ah ap al abc aac anb ++ (W_C cI cJ cZ cO ac_ ct.1 ct.2.1 ct.2.2.1 ct.2.2.2.1 ct.2.2.2.2.1 ct.2.2.2.2.2.1 ct.2.2.2.2.2.2.1 ct.2.2.2.2.2.2.2 ++ (W_H cI cJ cZ cO ah ahs hi.1 hi.2.1 hi.2.2.1 hi.2.2.2.1 hi.2.2.2.2.1 hi.2.2.2.2.2.1 hi.2.2.2.2.2.2 ++ (W_P cI cJ cZ cO ap pd.1 pd.2))))) (As := [.int x1]) (b := ab 0) (st := []) C0 (c_X7_newPieceError l dC dI cI cJ cZ cO ab ac_ atr ah ap al abc aac anb N ct pd x1 r_2 hc_2) rfl 1 gX7_piece_X7_newPieceError (by decide +kernel) ⟨Nat.le_of_ble_eq_true rfl, Nat.le_of_ble_eq_true rfl⟩ rfl 0 7 rfl rfl  ⟨_, (pt (pt (pr pt1))), fun _ => (pt (pt (pr pt1)))⟩ rfl (Nat.le_of_ble_eq_true rfl) dX7_piece_2 rfl ⟨Nat.zero_le _, Nat.zero_le _⟩ ?_
  refine V_istore_n (lv' := [(2, .int r_2), (0, .ref (ab 0)), (1, .int x1)]) C0 dX7_piece_5 rfl (by decide) rfl rfl ?_
  refine V_iload_n C0 dX7_piece_6 0 rfl rfl ?_
  refine V_if_eq (tgt := 12) C0 dX7_piece_7 (by decide) rfl (fun c7 => ?_) (fun c7 => ?_)
  · have hf := ite_t c7 hf
    refine V_aload_n C0 dX7_piece_12 1 rfl rfl ?_
    refine V_get C0 fl_X7_piece_30 0 rfl rfl dX7_piece_13 rfl ?_
    refine V_aload_n C0 dX7_piece_16 1 rfl rfl ?_
    refine V_get C0 fl_X7_piece_10 0 rfl rfl dX7_piece_17 rfl ?_
    obtain ⟨r_20, hc_20, hf⟩ := bind_inv hf
    refine V_callVV (ws' := fun (ahs_20 : Nat → Nat → Nat) => (W_BO cI cJ cZ cO ab ac_ atr ah ap al abc aac anb ++ (W_C cI cJ cZ cO ac_ ct.1 ct.2.1 ct.2.2.1 ct.2.2.2.1 ct.2.2.2.2.1 ct.2.2.2.2.2.1 ct.2.2.2.2.2.2.1 ct.2.2.2.2.2.2.2 ++ (W_H cI cJ cZ cO ah ahs_20 r_20.1 r_20.2.1 r_20.2.2.1 r_20.2.2.2.1 r_20.2.2.2.2.1 r_20.2.2.2.2.2.1 r_20.2.2.2.2.2.2 ++ (W_P cI cJ cZ cO ap pd.1 pd.2))))) (As := [.ref (ac_ 0)]) (b := ah 0) (st := []) C0 (c_X3_record l dC dI cI cJ cZ cO ac_ ah ahs N ct hi  r_20 hc_20) rfl 1 gX7_piece_X3_record (by decide +kernel) ⟨Nat.le_of_ble_eq_true rfl, Nat.le_of_ble_eq_true rfl⟩ rfl 8 3 rfl rfl  ⟨_, (pr (pt (pte pr1))), fun _ => (pr (pt (pte pr1)))⟩ rfl (Nat.le_of_ble_eq_true rfl) dX7_piece_20 rfl ⟨Nat.zero_le _, Nat.zero_le _⟩ (fun ahs_20 _ => ?_)
    refine V.world (ws' := (W_BO cI cJ cZ cO ab ac_ atr ah ap al abc aac anb ++ (W_C cI cJ cZ cO ac_ ct.1 ct.2.1 ct.2.2.1 ct.2.2.2.1 ct.2.2.2.2.1 ct.2.2.2.2.2.1 ct.2.2.2.2.2.2.1 ct.2.2.2.2.2.2.2 ++ (W_H cI cJ cZ cO ah ahs_20 r_20.1 r_20.2.1 r_20.2.2.1 r_20.2.2.2.1 r_20.2.2.2.2.1 r_20.2.2.2.2.2.1 r_20.2.2.2.2.2.2 ++ (W_P cI cJ cZ cO ap pd.1 pd.2))))) rfl ?_
    refine V_aload_n C0 dX7_piece_23 1 rfl rfl ?_
    refine V_get C0 fl_X7_piece_10 0 rfl rfl dX7_piece_24 rfl ?_
    refine V_aload_n C0 dX7_piece_27 1 rfl rfl ?_
    refine V_get C0 fl_X7_piece_37 0 rfl rfl dX7_piece_28 rfl ?_
    obtain ⟨r_31, hc_31, hf⟩ := bind_inv hf
    refine V_cVI (ws' := (W_BO cI cJ cZ cO ab ac_ atr ah ap al abc aac anb ++ (W_C cI cJ cZ cO ac_ ct.1 ct.2.1 ct.2.2.1 ct.2.2.2.1 ct.2.2.2.2.1 ct.2.2.2.2.2.1 ct.2.2.2.2.2.2.1 ct.2.2.2.2.2.2.2 ++ (W_H cI cJ cZ cO ah ahs_20 r_20.1 r_20.2.1 r_20.2.2.1 r_20.2.2.2.1 r_20.2.2.2.2.1 r_20.2.2.2.2.2.1 r_20.2.2.2.2.2.2 ++ (W_P cI cJ cZ cO ap pd.1 pd.2))))) (As := []) (b := ap 0) (st := [.ref (ac_ 0)]) C0 (c_X6_text l dC dI cI cJ cZ cO ap N pd  r_31 hc_31) rfl 0 gX7_piece_X6_text (by decide +kernel) ⟨Nat.le_of_ble_eq_true rfl, Nat.le_of_ble_eq_true rfl⟩ rfl 52 6 rfl rfl  ⟨_, (pr (pr (pr pt1))), fun _ => (pr (pr (pr pt1)))⟩ rfl (Nat.le_of_ble_eq_true rfl) dX7_piece_31 rfl ⟨Nat.zero_le _, Nat.zero_le _⟩ ?_
    refine V_aload_n C0 dX7_piece_34 1 rfl rfl ?_
    refine V_get C0 fl_X7_piece_37 0 rfl rfl dX7_piece_35 rfl ?_
    refine V_get C0 fl_X7_piece_88 52 rfl rfl dX7_piece_38 rfl ?_
    refine V_iload_n C0 dX7_piece_41 2 rfl rfl ?_
    obtain ⟨r_42, hc_42, hf⟩ := bind_inv hf
    refine V_cVV (ws' := (W_BO cI cJ cZ cO ab ac_ atr ah ap al abc aac anb ++ (W_C cI cJ cZ cO ac_ r_42.1 r_42.2.1 r_42.2.2.1 r_42.2.2.2.1 r_42.2.2.2.2.1 r_42.2.2.2.2.2.1 r_42.2.2.2.2.2.2.1 r_42.2.2.2.2.2.2.2 ++ (W_H cI cJ cZ cO ah ahs_20 r_20.1 r_20.2.1 r_20.2.2.1 r_20.2.2.2.1 r_20.2.2.2.2.1 r_20.2.2.2.2.2.1 r_20.2.2.2.2.2.2 ++ (W_P cI cJ cZ cO ap pd.1 pd.2))))) (As := [.int r_31, .int pd.1, .int x1]) (b := ac_ 0) (st := []) C0 (c_X2_addPiece l dC dI cI cJ cZ cO ac_ N ct r_31 pd.1 x1 r_42 hc_42) rfl 3 gX7_piece_X2_addPiece (by decide +kernel) ⟨Nat.le_of_ble_eq_true rfl, Nat.le_of_ble_eq_true rfl⟩ rfl 1 2 rfl rfl  ⟨_, (pr (pte (pr pr1))), fun _ => (pr (pte (pr pr1)))⟩ rfl (Nat.le_of_ble_eq_true rfl) dX7_piece_42 rfl ⟨Nat.zero_le _, Nat.zero_le _⟩ ?_
    refine V_aload_n C0 dX7_piece_45 1 rfl rfl ?_
    refine V_get C0 fl_X7_piece_37 0 rfl rfl dX7_piece_46 rfl ?_
    refine V_iconst (v := 0) C0 dX7_piece_49 (by decide) rfl ?_
    refine V_put (ws' := (W_BO cI cJ cZ cO ab ac_ atr ah ap al abc aac anb ++ (W_C cI cJ cZ cO ac_ r_42.1 r_42.2.1 r_42.2.2.1 r_42.2.2.2.1 r_42.2.2.2.2.1 r_42.2.2.2.2.2.1 r_42.2.2.2.2.2.2.1 r_42.2.2.2.2.2.2.2 ++ (W_H cI cJ cZ cO ah ahs_20 r_20.1 r_20.2.1 r_20.2.2.1 r_20.2.2.2.1 r_20.2.2.2.2.1 r_20.2.2.2.2.2.1 r_20.2.2.2.2.2.2 ++ (W_P cI cJ cZ cO ap 0 pd.2))))) C0 fl_X7_piece_88 tyX6_ok nmX6 rfl 52 rfl rfl rfl (Nat.le_of_ble_eq_true rfl) dX7_piece_50 rfl rfl ?_
    refine V_aload_n C0 dX7_piece_53 1 rfl rfl ?_
    refine V_get C0 fl_X7_piece_10 0 rfl rfl dX7_piece_54 rfl ?_
    refine V_get C0 fl_X7_piece_96 1 rfl rfl dX7_piece_57 rfl ?_
    refine V_iconst (v := 1) C0 dX7_piece_60 (by decide) rfl ?_
    refine V_isub C0 dX7_piece_61 rfl ?_
    obtain rfl := some_inv hf
    exact V_iret C0 ahs_20 rfl rfl dX7_piece_62
  · have hf := ite_f c7 hf
    refine V_iload_n C0 dX7_piece_10 0 rfl rfl ?_
    obtain rfl := some_inv hf
    exact V_iret C0 ahs rfl rfl dX7_piece_11
abbrev RM_X7_isPiece : Room := { frames := 0, cells := 0, slots := 0, locals := 0 }
theorem in_X7_isPiece_X2 : ∀ w ∈ u_ws RX2 TX2 8, w ∈ wsX7_isPiece := by decide +kernel
theorem in_X7_isPiece_X7 : ∀ w ∈ u_ws RX7 TX7 12, w ∈ wsX7_isPiece := by decide +kernel
theorem fl_X7_isPiece_10 : FL RX7 wsX7_isPiece 7 10 0 RX7 TX7 12 := ⟨in_X7_isPiece_X7, rfl, by decide, by decide +kernel, rfl⟩
theorem fl_X7_isPiece_96 : FL RX7 wsX7_isPiece 2 96 0 RX2 TX2 8 := ⟨in_X7_isPiece_X2, rfl, by decide, by decide +kernel, rfl⟩
set_option maxRecDepth 100000 in
set_option maxHeartbeats 4000000 in
theorem c_X7_isPiece (l : Launch) (dC : Nat → ClassId) (dI : Nat → Nat → Nat) (cI cJ cZ cO : ClassId) (ab : Nat → Nat) (ac_ : Nat → Nat) (atr : Nat → Nat) (ah : Nat → Nat) (ap : Nat → Nat) (al : Nat → Nat) (abc : Nat → Nat) (aac : Nat → Nat) (anb : Nat → Nat) (N : Nat) (ct : CV) (x1 : Int32) (o : Int32) (hf : f_X7_isPiece N ct x1 = some o) : MetI l yX7_isPiece wsX7_isPiece RM_X7_isPiece (dC, dI) (TY cI cJ cZ cO) [.ref (ab 0), .int x1] (W_BO cI cJ cZ cO ab ac_ atr ah ap al abc aac anb ++ (W_C cI cJ cZ cO ac_ ct.1 ct.2.1 ct.2.2.1 ct.2.2.2.1 ct.2.2.2.2.1 ct.2.2.2.2.2.1 ct.2.2.2.2.2.2.1 ct.2.2.2.2.2.2.2)) (fun r (_ : Unit) => r = o) (fun _ => (W_BO cI cJ cZ cO ab ac_ atr ah ap al abc aac anb ++ (W_C cI cJ cZ cO ac_ ct.1 ct.2.1 ct.2.2.1 ct.2.2.2.1 ct.2.2.2.2.1 ct.2.2.2.2.2.1 ct.2.2.2.2.2.2.1 ct.2.2.2.2.2.2.2))) := by
  refine MetI.ofV (cc := cX7_isPiece) (maxL := 2) (ret := (some .boolean)) (own := RX7) (lv0 := [(0, .ref (ab 0)), (1, .int x1)]) (by decide) rfl rfl (Nat.le_of_ble_eq_true rfl) rfl ?_
  intro p e s m below meth c A C0 _
  unfold f_X7_isPiece at hf
  refine V_iload_n C0 dX7_isPiece_0 1 rfl rfl ?_
  refine V_if_lt (tgt := 19) C0 dX7_isPiece_1 (by decide) rfl (fun c1 => ?_) (fun c1 => ?_)
  · have hf := ite_t c1 hf
    refine V_iconst (v := 0) C0 dX7_isPiece_19 (by decide) rfl ?_
    obtain rfl := some_inv hf
    exact V_zret C0 rfl () rfl rfl dX7_isPiece_20
  · have hf := ite_f c1 hf
    refine V_iload_n C0 dX7_isPiece_4 1 rfl rfl ?_
    refine V_aload_n C0 dX7_isPiece_5 0 rfl rfl ?_
    refine V_get C0 fl_X7_isPiece_10 0 rfl rfl dX7_isPiece_6 rfl ?_
    refine V_get C0 fl_X7_isPiece_96 1 rfl rfl dX7_isPiece_9 rfl ?_
    refine V_icmp_ge (tgt := 19) C0 dX7_isPiece_12 (by decide) rfl (fun c12 => ?_) (fun c12 => ?_)
    · have hf := ite_t c12 hf
      refine V_iconst (v := 0) C0 dX7_isPiece_19 (by decide) rfl ?_
      obtain rfl := some_inv hf
      exact V_zret C0 rfl () rfl rfl dX7_isPiece_20
    · have hf := ite_f c12 hf
      refine V_iconst (v := 1) C0 dX7_isPiece_15 (by decide) rfl ?_
      refine V_goto (tgt := 20) C0 dX7_isPiece_16 (by decide) ?_
      obtain rfl := some_inv hf
      exact V_zret C0 rfl () rfl rfl dX7_isPiece_20
abbrev RM_X7_weigh : Room := { frames := 3, cells := 0, slots := 0, locals := 102 }
theorem in_X7_weigh_X2 : ∀ w ∈ u_ws RX2 TX2 8, w ∈ wsX7_weigh := by decide +kernel
theorem in_X7_weigh_X7 : ∀ w ∈ u_ws RX7 TX7 12, w ∈ wsX7_weigh := by decide +kernel
theorem fl_X7_weigh_10 : FL RX7 wsX7_weigh 7 10 0 RX7 TX7 12 := ⟨in_X7_weigh_X7, rfl, by decide, by decide +kernel, rfl⟩
theorem fl_X7_weigh_30 : FL RX7 wsX7_weigh 7 30 4 RX7 TX7 12 := ⟨in_X7_weigh_X7, rfl, by decide, by decide +kernel, rfl⟩
theorem fl_X7_weigh_103 : FL RX7 wsX7_weigh 2 103 3 RX2 TX2 8 := ⟨in_X7_weigh_X2, rfl, by decide, by decide +kernel, rfl⟩
set_option maxRecDepth 100000 in
set_option maxHeartbeats 4000000 in
theorem c_X7_weigh (l : Launch) (dC : Nat → ClassId) (dI : Nat → Nat → Nat) (cI cJ cZ cO : ClassId) (ab : Nat → Nat) (ac_ : Nat → Nat) (atr : Nat → Nat) (ah : Nat → Nat) (ap : Nat → Nat) (al : Nat → Nat) (abc : Nat → Nat) (aac : Nat → Nat) (anb : Nat → Nat) (ahs : Nat → Nat → Nat) (N : Nat) (ct : CV) (hi : HV) (x1 : Int32) (x2 : Int32) (o : Int32 × CV × HV) (hf : f_X7_weigh N ct hi x1 x2 = some o) : MetI l yX7_weigh wsX7_weigh RM_X7_weigh (dC, dI) (TY cI cJ cZ cO) [.ref (ab 0), .int x1, .int x2] (W_BO cI cJ cZ cO ab ac_ atr ah ap al abc aac anb ++ (W_C cI cJ cZ cO ac_ ct.1 ct.2.1 ct.2.2.1 ct.2.2.2.1 ct.2.2.2.2.1 ct.2.2.2.2.2.1 ct.2.2.2.2.2.2.1 ct.2.2.2.2.2.2.2 ++ (W_H cI cJ cZ cO ah ahs hi.1 hi.2.1 hi.2.2.1 hi.2.2.2.1 hi.2.2.2.2.1 hi.2.2.2.2.2.1 hi.2.2.2.2.2.2))) (fun r (_ : Nat → Nat → Nat) => r = o.1) (fun (ahs : Nat → Nat → Nat) => (W_BO cI cJ cZ cO ab ac_ atr ah ap al abc aac anb ++ (W_C cI cJ cZ cO ac_ o.2.1.1 o.2.1.2.1 o.2.1.2.2.1 o.2.1.2.2.2.1 o.2.1.2.2.2.2.1 o.2.1.2.2.2.2.2.1 o.2.1.2.2.2.2.2.2.1 o.2.1.2.2.2.2.2.2.2 ++ (W_H cI cJ cZ cO ah ahs o.2.2.1 o.2.2.2.1 o.2.2.2.2.1 o.2.2.2.2.2.1 o.2.2.2.2.2.2.1 o.2.2.2.2.2.2.2.1 o.2.2.2.2.2.2.2.2)))) := by
  refine MetI.ofV (cc := cX7_weigh) (maxL := 4) (ret := (some .int)) (own := RX7) (lv0 := [(0, .ref (ab 0)), (1, .int x1), (2, .int x2)]) (by decide) rfl rfl (Nat.le_of_ble_eq_true rfl) rfl ?_
  intro p e s m below meth c A C0 _
  unfold f_X7_weigh at hf
  refine V_aload_n C0 dX7_weigh_0 0 rfl rfl ?_
  refine V_iload_n C0 dX7_weigh_1 1 rfl rfl ?_
  obtain ⟨r_2, hc_2, hf⟩ := bind_inv hf
  refine V_cVI (ws' := (W_BO cI cJ cZ cO ab ac_ atr ah ap al abc aac anb ++ (W_C cI cJ cZ cO ac_ ct.1 ct.2.1 ct.2.2.1 ct.2.2.2.1 ct.2.2.2.2.1 ct.2.2.2.2.2.1 ct.2.2.2.2.2.2.1 ct.2.2.2.2.2.2.2 ++ (W_H cI cJ cZ cO ah ahs hi.1 hi.2.1 hi.2.2.1 hi.2.2.2.1 hi.2.2.2.2.1 hi.2.2.2.2.2.1 hi.2.2.2.2.2.2)))) (As := [.int x1]) (b := ab 0) (st := []) C0 (c_X7_isPiece l dC dI cI cJ cZ cO ab ac_ atr ah ap al abc aac anb N ct x1 r_2 hc_2) rfl 1 gX7_weigh_X7_isPiece (by decide +kernel) ⟨Nat.le_of_ble_eq_true rfl, Nat.le_of_ble_eq_true rfl⟩ rfl 0 7 rfl rfl  ⟨_, (pt (pte pr1)), fun _ => (pt (pte pr1))⟩ rfl (Nat.le_of_ble_eq_true rfl) dX7_weigh_2 rfl ⟨Nat.zero_le _, Nat.zero_le _⟩ ?_
  refine V_if_ne (tgt := 10) C0 dX7_weigh_5 (by decide) rfl (fun c5 => ?_) (fun c5 => ?_)
  · have hf := ite_f c5 hf
    refine V_iload_n C0 dX7_weigh_10 2 rfl rfl ?_
    refine V_iconst (v := 1) C0 dX7_weigh_11 (by decide) rfl ?_
    refine V_icmp_lt (tgt := 21) C0 dX7_weigh_12 (by decide) rfl (fun c12 => ?_) (fun c12 => ?_)
    · have hf := ite_t c12 hf
      refine V_bipush (v := (-2)) C0 dX7_weigh_21 (by decide) rfl ?_
      obtain rfl := some_inv hf
      exact V_iret C0 ahs rfl rfl dX7_weigh_23
    · have hf := ite_f c12 hf
      refine V_iload_n C0 dX7_weigh_15 2 rfl rfl ?_
      refine V_bipush (v := 9) C0 dX7_weigh_16 (by decide) rfl ?_
      refine V_icmp_le (tgt := 24) C0 dX7_weigh_18 (by decide) rfl (fun c18 => ?_) (fun c18 => ?_)
      · have hf := ite_t c18 hf
        refine V_aload_n C0 dX7_weigh_24 0 rfl rfl ?_
        refine V_get C0 fl_X7_weigh_30 0 rfl rfl dX7_weigh_25 rfl ?_
        refine V_aload_n C0 dX7_weigh_28 0 rfl rfl ?_
        refine V_get C0 fl_X7_weigh_10 0 rfl rfl dX7_weigh_29 rfl ?_
        obtain ⟨r_32, hc_32, hf⟩ := bind_inv hf
        refine V_callVV (ws' := fun (ahs_32 : Nat → Nat → Nat) => (W_BO cI cJ cZ cO ab ac_ atr ah ap al abc aac anb ++ (W_C cI cJ cZ cO ac_ ct.1 ct.2.1 ct.2.2.1 ct.2.2.2.1 ct.2.2.2.2.1 ct.2.2.2.2.2.1 ct.2.2.2.2.2.2.1 ct.2.2.2.2.2.2.2 ++ (W_H cI cJ cZ cO ah ahs_32 r_32.1 r_32.2.1 r_32.2.2.1 r_32.2.2.2.1 r_32.2.2.2.2.1 r_32.2.2.2.2.2.1 r_32.2.2.2.2.2.2)))) (As := [.ref (ac_ 0)]) (b := ah 0) (st := []) C0 (c_X3_record l dC dI cI cJ cZ cO ac_ ah ahs N ct hi  r_32 hc_32) rfl 1 gX7_weigh_X3_record (by decide +kernel) ⟨Nat.le_of_ble_eq_true rfl, Nat.le_of_ble_eq_true rfl⟩ rfl 8 3 rfl rfl  ⟨_, (pr (pt pt1)), fun _ => (pr (pt pt1))⟩ rfl (Nat.le_of_ble_eq_true rfl) dX7_weigh_32 rfl ⟨Nat.zero_le _, Nat.zero_le _⟩ (fun ahs_32 _ => ?_)
        refine V.world (ws' := (W_BO cI cJ cZ cO ab ac_ atr ah ap al abc aac anb ++ (W_C cI cJ cZ cO ac_ ct.1 ct.2.1 ct.2.2.1 ct.2.2.2.1 ct.2.2.2.2.1 ct.2.2.2.2.2.1 ct.2.2.2.2.2.2.1 ct.2.2.2.2.2.2.2 ++ (W_H cI cJ cZ cO ah ahs_32 r_32.1 r_32.2.1 r_32.2.2.1 r_32.2.2.2.1 r_32.2.2.2.2.1 r_32.2.2.2.2.2.1 r_32.2.2.2.2.2.2)))) rfl ?_
        refine V_aload_n C0 dX7_weigh_35 0 rfl rfl ?_
        refine V_get C0 fl_X7_weigh_10 0 rfl rfl dX7_weigh_36 rfl ?_
        refine V_get C0 fl_X7_weigh_103 1 rfl rfl dX7_weigh_39 rfl ?_
        refine V_iload_n C0 dX7_weigh_42 1 rfl rfl ?_
        obtain ⟨hi43, hf⟩ := ck_inv hf
        refine V_iald C0 4 0 rfl rfl hi43 dX7_weigh_43 rfl ?_
        refine V_topi (fun x3_1 ex3_1 => ?_)
        have hf := bd_inv ex3_1 hf
        refine V_istore_n (lv' := [(3, .int x3_1), (0, .ref (ab 0)), (1, .int x1), (2, .int x2)]) C0 dX7_weigh_44 rfl (by decide) rfl rfl ?_
        refine V_aload_n C0 dX7_weigh_45 1 rfl rfl ?_
        refine V_get C0 fl_X7_weigh_10 0 rfl rfl dX7_weigh_46 rfl ?_
        refine V_get C0 fl_X7_weigh_103 1 rfl rfl dX7_weigh_49 rfl ?_
        refine V_iload_n C0 dX7_weigh_52 2 rfl rfl ?_
        refine V_iload_n C0 dX7_weigh_53 3 rfl rfl ?_
        obtain ⟨hi54, hf⟩ := ck_inv hf
        refine V_iast (ws' := (W_BO cI cJ cZ cO ab ac_ atr ah ap al abc aac anb ++ (W_C cI cJ cZ cO ac_ ct.1 ct.2.1 ct.2.2.1 (upd ct.2.2.2.1 (x1.toNatClampNeg) x2) ct.2.2.2.2.1 ct.2.2.2.2.2.1 ct.2.2.2.2.2.2.1 ct.2.2.2.2.2.2.2 ++ (W_H cI cJ cZ cO ah ahs_32 r_32.1 r_32.2.1 r_32.2.2.1 r_32.2.2.2.1 r_32.2.2.2.2.1 r_32.2.2.2.2.2.1 r_32.2.2.2.2.2.2)))) C0 4 0 rfl rfl hi54 dX7_weigh_54 rfl rfl ?_
        refine V_iload_n C0 dX7_weigh_55 0 rfl rfl ?_
        obtain rfl := some_inv hf
        exact V_iret C0 ahs_32 rfl rfl dX7_weigh_56
      · have hf := ite_f c18 hf
        refine V_bipush (v := (-2)) C0 dX7_weigh_21 (by decide) rfl ?_
        obtain rfl := some_inv hf
        exact V_iret C0 ahs rfl rfl dX7_weigh_23
  · have hf := ite_t c5 hf
    refine V_iconst (v := (-1)) C0 dX7_weigh_8 (by decide) rfl ?_
    obtain rfl := some_inv hf
    exact V_iret C0 ahs rfl rfl dX7_weigh_9
abbrev RM_X7_word : Room := { frames := 3, cells := 0, slots := 0, locals := 102 }
theorem in_X7_word_X2 : ∀ w ∈ u_ws RX2 TX2 8, w ∈ wsX7_word := by decide +kernel
theorem in_X7_word_X6 : ∀ w ∈ u_ws RX6 TX6 2, w ∈ wsX7_word := by decide +kernel
theorem in_X7_word_X7 : ∀ w ∈ u_ws RX7 TX7 12, w ∈ wsX7_word := by decide +kernel
theorem fl_X7_word_10 : FL RX7 wsX7_word 7 10 0 RX7 TX7 12 := ⟨in_X7_word_X7, rfl, by decide, by decide +kernel, rfl⟩
theorem fl_X7_word_30 : FL RX7 wsX7_word 7 30 4 RX7 TX7 12 := ⟨in_X7_word_X7, rfl, by decide, by decide +kernel, rfl⟩
theorem fl_X7_word_37 : FL RX7 wsX7_word 7 37 5 RX7 TX7 12 := ⟨in_X7_word_X7, rfl, by decide, by decide +kernel, rfl⟩
theorem fl_X7_word_88 : FL RX7 wsX7_word 6 88 0 RX6 TX6 2 := ⟨in_X7_word_X6, rfl, by decide, by decide +kernel, rfl⟩
theorem fl_X7_word_113 : FL RX7 wsX7_word 2 113 4 RX2 TX2 8 := ⟨in_X7_word_X2, rfl, by decide, by decide +kernel, rfl⟩
set_option maxRecDepth 100000 in
set_option maxHeartbeats 4000000 in
theorem c_X7_word (l : Launch) (dC : Nat → ClassId) (dI : Nat → Nat → Nat) (cI cJ cZ cO : ClassId) (ab : Nat → Nat) (ac_ : Nat → Nat) (atr : Nat → Nat) (ah : Nat → Nat) (ap : Nat → Nat) (al : Nat → Nat) (abc : Nat → Nat) (aac : Nat → Nat) (anb : Nat → Nat) (ahs : Nat → Nat → Nat) (N : Nat) (ct : CV) (hi : HV) (pd : PV) (x1 : Int32) (o : Int32 × CV × HV × PV) (hf : f_X7_word N ct hi pd x1 = some o) : MetI l yX7_word wsX7_word RM_X7_word (dC, dI) (TY cI cJ cZ cO) [.ref (ab 0), .int x1] (W_BO cI cJ cZ cO ab ac_ atr ah ap al abc aac anb ++ (W_C cI cJ cZ cO ac_ ct.1 ct.2.1 ct.2.2.1 ct.2.2.2.1 ct.2.2.2.2.1 ct.2.2.2.2.2.1 ct.2.2.2.2.2.2.1 ct.2.2.2.2.2.2.2 ++ (W_H cI cJ cZ cO ah ahs hi.1 hi.2.1 hi.2.2.1 hi.2.2.2.1 hi.2.2.2.2.1 hi.2.2.2.2.2.1 hi.2.2.2.2.2.2 ++ (W_P cI cJ cZ cO ap pd.1 pd.2)))) (fun r (_ : Nat → Nat → Nat) => r = o.1) (fun (ahs : Nat → Nat → Nat) => (W_BO cI cJ cZ cO ab ac_ atr ah ap al abc aac anb ++ (W_C cI cJ cZ cO ac_ o.2.1.1 o.2.1.2.1 o.2.1.2.2.1 o.2.1.2.2.2.1 o.2.1.2.2.2.2.1 o.2.1.2.2.2.2.2.1 o.2.1.2.2.2.2.2.2.1 o.2.1.2.2.2.2.2.2.2 ++ (W_H cI cJ cZ cO ah ahs o.2.2.1.1 o.2.2.1.2.1 o.2.2.1.2.2.1 o.2.2.1.2.2.2.1 o.2.2.1.2.2.2.2.1 o.2.2.1.2.2.2.2.2.1 o.2.2.1.2.2.2.2.2.2 ++ (W_P cI cJ cZ cO ap o.2.2.2.1 o.2.2.2.2))))) := by
  refine MetI.ofV (cc := cX7_word) (maxL := 2) (ret := (some .int)) (own := RX7) (lv0 := [(0, .ref (ab 0)), (1, .int x1)]) (by decide) rfl rfl (Nat.le_of_ble_eq_true rfl) rfl ?_
  intro p e s m below meth c A C0 _
  unfold f_X7_word at hf
  refine V_aload_n C0 dX7_word_0 0 rfl rfl ?_
  refine V_get C0 fl_X7_word_37 0 rfl rfl dX7_word_1 rfl ?_
  refine V_bipush (v := 12) C0 dX7_word_4 (by decide) rfl ?_
  obtain ⟨r_6, hc_6, hf⟩ := bind_inv hf
  refine V_cVI (ws' := (W_BO cI cJ cZ cO ab ac_ atr ah ap al abc aac anb ++ (W_C cI cJ cZ cO ac_ ct.1 ct.2.1 ct.2.2.1 ct.2.2.2.1 ct.2.2.2.2.1 ct.2.2.2.2.2.1 ct.2.2.2.2.2.2.1 ct.2.2.2.2.2.2.2 ++ (W_H cI cJ cZ cO ah ahs hi.1 hi.2.1 hi.2.2.1 hi.2.2.2.1 hi.2.2.2.2.1 hi.2.2.2.2.2.1 hi.2.2.2.2.2.2 ++ (W_P cI cJ cZ cO ap pd.1 pd.2))))) (As := [.int 12]) (b := ap 0) (st := []) C0 (c_X6_holdsLetters l dC dI cI cJ cZ cO ap N pd 12 r_6 hc_6) rfl 1 gX7_word_X6_holdsLetters (by decide +kernel) ⟨Nat.le_of_ble_eq_true rfl, Nat.le_of_ble_eq_true rfl⟩ rfl 52 6 rfl rfl  ⟨_, (pr (pr (pr pt1))), fun _ => (pr (pr (pr pt1)))⟩ rfl (Nat.le_of_ble_eq_true rfl) dX7_word_6 rfl ⟨Nat.zero_le _, Nat.zero_le _⟩ ?_
  refine V_if_ne (tgt := 15) C0 dX7_word_9 (by decide) rfl (fun c9 => ?_) (fun c9 => ?_)
  · have hf := ite_f c9 hf
    refine V_iload_n C0 dX7_word_15 1 rfl rfl ?_
    refine V_iconst (v := 1) C0 dX7_word_16 (by decide) rfl ?_
    refine V_icmp_lt (tgt := 26) C0 dX7_word_17 (by decide) rfl (fun c17 => ?_) (fun c17 => ?_)
    · have hf := ite_t c17 hf
      refine V_bipush (v := (-2)) C0 dX7_word_26 (by decide) rfl ?_
      obtain rfl := some_inv hf
      exact V_iret C0 ahs rfl rfl dX7_word_28
    · have hf := ite_f c17 hf
      refine V_iload_n C0 dX7_word_20 1 rfl rfl ?_
      refine V_bipush (v := 99) C0 dX7_word_21 (by decide) rfl ?_
      refine V_icmp_le (tgt := 29) C0 dX7_word_23 (by decide) rfl (fun c23 => ?_) (fun c23 => ?_)
      · have hf := ite_t c23 hf
        refine V_aload_n C0 dX7_word_29 0 rfl rfl ?_
        refine V_get C0 fl_X7_word_10 0 rfl rfl dX7_word_30 rfl ?_
        refine V_get C0 fl_X7_word_113 1 rfl rfl dX7_word_33 rfl ?_
        refine V_bipush (v := 8) C0 dX7_word_36 (by decide) rfl ?_
        refine V_icmp_lt (tgt := 44) C0 dX7_word_38 (by decide) rfl (fun c38 => ?_) (fun c38 => ?_)
        · have hf := ite_t c38 hf
          refine V_aload_n C0 dX7_word_44 0 rfl rfl ?_
          refine V_get C0 fl_X7_word_30 0 rfl rfl dX7_word_45 rfl ?_
          refine V_aload_n C0 dX7_word_48 0 rfl rfl ?_
          refine V_get C0 fl_X7_word_10 0 rfl rfl dX7_word_49 rfl ?_
          obtain ⟨r_52, hc_52, hf⟩ := bind_inv hf
          refine V_callVV (ws' := fun (ahs_52 : Nat → Nat → Nat) => (W_BO cI cJ cZ cO ab ac_ atr ah ap al abc aac anb ++ (W_C cI cJ cZ cO ac_ ct.1 ct.2.1 ct.2.2.1 ct.2.2.2.1 ct.2.2.2.2.1 ct.2.2.2.2.2.1 ct.2.2.2.2.2.2.1 ct.2.2.2.2.2.2.2 ++ (W_H cI cJ cZ cO ah ahs_52 r_52.1 r_52.2.1 r_52.2.2.1 r_52.2.2.2.1 r_52.2.2.2.2.1 r_52.2.2.2.2.2.1 r_52.2.2.2.2.2.2 ++ (W_P cI cJ cZ cO ap pd.1 pd.2))))) (As := [.ref (ac_ 0)]) (b := ah 0) (st := []) C0 (c_X3_record l dC dI cI cJ cZ cO ac_ ah ahs N ct hi  r_52 hc_52) rfl 1 gX7_word_X3_record (by decide +kernel) ⟨Nat.le_of_ble_eq_true rfl, Nat.le_of_ble_eq_true rfl⟩ rfl 8 3 rfl rfl  ⟨_, (pr (pt (pte pr1))), fun _ => (pr (pt (pte pr1)))⟩ rfl (Nat.le_of_ble_eq_true rfl) dX7_word_52 rfl ⟨Nat.zero_le _, Nat.zero_le _⟩ (fun ahs_52 _ => ?_)
          refine V.world (ws' := (W_BO cI cJ cZ cO ab ac_ atr ah ap al abc aac anb ++ (W_C cI cJ cZ cO ac_ ct.1 ct.2.1 ct.2.2.1 ct.2.2.2.1 ct.2.2.2.2.1 ct.2.2.2.2.2.1 ct.2.2.2.2.2.2.1 ct.2.2.2.2.2.2.2 ++ (W_H cI cJ cZ cO ah ahs_52 r_52.1 r_52.2.1 r_52.2.2.1 r_52.2.2.2.1 r_52.2.2.2.2.1 r_52.2.2.2.2.2.1 r_52.2.2.2.2.2.2 ++ (W_P cI cJ cZ cO ap pd.1 pd.2))))) rfl ?_
          refine V_aload_n C0 dX7_word_55 0 rfl rfl ?_
          refine V_get C0 fl_X7_word_10 0 rfl rfl dX7_word_56 rfl ?_
          refine V_aload_n C0 dX7_word_59 0 rfl rfl ?_
          refine V_get C0 fl_X7_word_37 0 rfl rfl dX7_word_60 rfl ?_
          refine V_iload_n C0 dX7_word_63 1 rfl rfl ?_
          obtain ⟨r_64, hc_64, hf⟩ := bind_inv hf
          refine V_cVV (ws' := (W_BO cI cJ cZ cO ab ac_ atr ah ap al abc aac anb ++ (W_C cI cJ cZ cO ac_ r_64.1 r_64.2.1 r_64.2.2.1 r_64.2.2.2.1 r_64.2.2.2.2.1 r_64.2.2.2.2.2.1 r_64.2.2.2.2.2.2.1 r_64.2.2.2.2.2.2.2 ++ (W_H cI cJ cZ cO ah ahs_52 r_52.1 r_52.2.1 r_52.2.2.1 r_52.2.2.2.1 r_52.2.2.2.2.1 r_52.2.2.2.2.2.1 r_52.2.2.2.2.2.2 ++ (W_P cI cJ cZ cO ap pd.1 pd.2))))) (As := [.ref (ap 0), .int x1]) (b := ac_ 0) (st := []) C0 (c_X2_addWord l dC dI cI cJ cZ cO ac_ ap N ct pd x1 r_64 hc_64) rfl 2 gX7_word_X2_addWord (by decide +kernel) ⟨Nat.le_of_ble_eq_true rfl, Nat.le_of_ble_eq_true rfl⟩ rfl 1 2 rfl rfl  ⟨_, (pr (pt (pr pt1))), fun _ => (pr (pt (pr pt1)))⟩ rfl (Nat.le_of_ble_eq_true rfl) dX7_word_64 rfl ⟨Nat.zero_le _, Nat.zero_le _⟩ ?_
          refine V_aload_n C0 dX7_word_67 0 rfl rfl ?_
          refine V_get C0 fl_X7_word_37 0 rfl rfl dX7_word_68 rfl ?_
          refine V_iconst (v := 0) C0 dX7_word_71 (by decide) rfl ?_
          refine V_put (ws' := (W_BO cI cJ cZ cO ab ac_ atr ah ap al abc aac anb ++ (W_C cI cJ cZ cO ac_ r_64.1 r_64.2.1 r_64.2.2.1 r_64.2.2.2.1 r_64.2.2.2.2.1 r_64.2.2.2.2.2.1 r_64.2.2.2.2.2.2.1 r_64.2.2.2.2.2.2.2 ++ (W_H cI cJ cZ cO ah ahs_52 r_52.1 r_52.2.1 r_52.2.2.1 r_52.2.2.2.1 r_52.2.2.2.2.1 r_52.2.2.2.2.2.1 r_52.2.2.2.2.2.2 ++ (W_P cI cJ cZ cO ap 0 pd.2))))) C0 fl_X7_word_88 tyX6_ok nmX6 rfl 52 rfl rfl rfl (Nat.le_of_ble_eq_true rfl) dX7_word_72 rfl rfl ?_
          refine V_aload_n C0 dX7_word_75 0 rfl rfl ?_
          refine V_get C0 fl_X7_word_10 0 rfl rfl dX7_word_76 rfl ?_
          refine V_get C0 fl_X7_word_113 1 rfl rfl dX7_word_79 rfl ?_
          refine V_iconst (v := 1) C0 dX7_word_82 (by decide) rfl ?_
          refine V_isub C0 dX7_word_83 rfl ?_
          obtain rfl := some_inv hf
          exact V_iret C0 ahs_52 rfl rfl dX7_word_84
        · have hf := ite_f c38 hf
          refine V_bipush (v := (-4)) C0 dX7_word_41 (by decide) rfl ?_
          obtain rfl := some_inv hf
          exact V_iret C0 ahs rfl rfl dX7_word_43
      · have hf := ite_f c23 hf
        refine V_bipush (v := (-2)) C0 dX7_word_26 (by decide) rfl ?_
        obtain rfl := some_inv hf
        exact V_iret C0 ahs rfl rfl dX7_word_28
  · have hf := ite_t c9 hf
    refine V_bipush (v := (-3)) C0 dX7_word_12 (by decide) rfl ?_
    obtain rfl := some_inv hf
    exact V_iret C0 ahs rfl rfl dX7_word_14
abbrev RM_X7_isWord : Room := { frames := 0, cells := 0, slots := 0, locals := 0 }
theorem in_X7_isWord_X2 : ∀ w ∈ u_ws RX2 TX2 8, w ∈ wsX7_isWord := by decide +kernel
theorem in_X7_isWord_X7 : ∀ w ∈ u_ws RX7 TX7 12, w ∈ wsX7_isWord := by decide +kernel
theorem fl_X7_isWord_10 : FL RX7 wsX7_isWord 7 10 0 RX7 TX7 12 := ⟨in_X7_isWord_X7, rfl, by decide, by decide +kernel, rfl⟩
theorem fl_X7_isWord_113 : FL RX7 wsX7_isWord 2 113 4 RX2 TX2 8 := ⟨in_X7_isWord_X2, rfl, by decide, by decide +kernel, rfl⟩
set_option maxRecDepth 100000 in
set_option maxHeartbeats 4000000 in
theorem c_X7_isWord (l : Launch) (dC : Nat → ClassId) (dI : Nat → Nat → Nat) (cI cJ cZ cO : ClassId) (ab : Nat → Nat) (ac_ : Nat → Nat) (atr : Nat → Nat) (ah : Nat → Nat) (ap : Nat → Nat) (al : Nat → Nat) (abc : Nat → Nat) (aac : Nat → Nat) (anb : Nat → Nat) (N : Nat) (ct : CV) (x1 : Int32) (o : Int32) (hf : f_X7_isWord N ct x1 = some o) : MetI l yX7_isWord wsX7_isWord RM_X7_isWord (dC, dI) (TY cI cJ cZ cO) [.ref (ab 0), .int x1] (W_BO cI cJ cZ cO ab ac_ atr ah ap al abc aac anb ++ (W_C cI cJ cZ cO ac_ ct.1 ct.2.1 ct.2.2.1 ct.2.2.2.1 ct.2.2.2.2.1 ct.2.2.2.2.2.1 ct.2.2.2.2.2.2.1 ct.2.2.2.2.2.2.2)) (fun r (_ : Unit) => r = o) (fun _ => (W_BO cI cJ cZ cO ab ac_ atr ah ap al abc aac anb ++ (W_C cI cJ cZ cO ac_ ct.1 ct.2.1 ct.2.2.1 ct.2.2.2.1 ct.2.2.2.2.1 ct.2.2.2.2.2.1 ct.2.2.2.2.2.2.1 ct.2.2.2.2.2.2.2))) := by
  refine MetI.ofV (cc := cX7_isWord) (maxL := 2) (ret := (some .boolean)) (own := RX7) (lv0 := [(0, .ref (ab 0)), (1, .int x1)]) (by decide) rfl rfl (Nat.le_of_ble_eq_true rfl) rfl ?_
  intro p e s m below meth c A C0 _
  unfold f_X7_isWord at hf
  refine V_iload_n C0 dX7_isWord_0 1 rfl rfl ?_
  refine V_if_lt (tgt := 19) C0 dX7_isWord_1 (by decide) rfl (fun c1 => ?_) (fun c1 => ?_)
  · have hf := ite_t c1 hf
    refine V_iconst (v := 0) C0 dX7_isWord_19 (by decide) rfl ?_
    obtain rfl := some_inv hf
    exact V_zret C0 rfl () rfl rfl dX7_isWord_20
  · have hf := ite_f c1 hf
    refine V_iload_n C0 dX7_isWord_4 1 rfl rfl ?_
    refine V_aload_n C0 dX7_isWord_5 0 rfl rfl ?_
    refine V_get C0 fl_X7_isWord_10 0 rfl rfl dX7_isWord_6 rfl ?_
    refine V_get C0 fl_X7_isWord_113 1 rfl rfl dX7_isWord_9 rfl ?_
    refine V_icmp_ge (tgt := 19) C0 dX7_isWord_12 (by decide) rfl (fun c12 => ?_) (fun c12 => ?_)
    · have hf := ite_t c12 hf
      refine V_iconst (v := 0) C0 dX7_isWord_19 (by decide) rfl ?_
      obtain rfl := some_inv hf
      exact V_zret C0 rfl () rfl rfl dX7_isWord_20
    · have hf := ite_f c12 hf
      refine V_iconst (v := 1) C0 dX7_isWord_15 (by decide) rfl ?_
      refine V_goto (tgt := 20) C0 dX7_isWord_16 (by decide) ?_
      obtain rfl := some_inv hf
      exact V_zret C0 rfl () rfl rfl dX7_isWord_20
abbrev RM_X7_forget : Room := { frames := 3, cells := 0, slots := 0, locals := 102 }
theorem in_X7_forget_X2 : ∀ w ∈ u_ws RX2 TX2 8, w ∈ wsX7_forget := by decide +kernel
theorem in_X7_forget_X7 : ∀ w ∈ u_ws RX7 TX7 12, w ∈ wsX7_forget := by decide +kernel
theorem fl_X7_forget_10 : FL RX7 wsX7_forget 7 10 0 RX7 TX7 12 := ⟨in_X7_forget_X7, rfl, by decide, by decide +kernel, rfl⟩
theorem fl_X7_forget_30 : FL RX7 wsX7_forget 7 30 4 RX7 TX7 12 := ⟨in_X7_forget_X7, rfl, by decide, by decide +kernel, rfl⟩
theorem fl_X7_forget_113 : FL RX7 wsX7_forget 2 113 4 RX2 TX2 8 := ⟨in_X7_forget_X2, rfl, by decide, by decide +kernel, rfl⟩
set_option maxRecDepth 100000 in
set_option maxHeartbeats 4000000 in
theorem c_X7_forget (l : Launch) (dC : Nat → ClassId) (dI : Nat → Nat → Nat) (cI cJ cZ cO : ClassId) (ab : Nat → Nat) (ac_ : Nat → Nat) (atr : Nat → Nat) (ah : Nat → Nat) (ap : Nat → Nat) (al : Nat → Nat) (abc : Nat → Nat) (aac : Nat → Nat) (anb : Nat → Nat) (ahs : Nat → Nat → Nat) (N : Nat) (ct : CV) (hi : HV) (x1 : Int32) (o : Int32 × CV × HV) (hf : f_X7_forget N ct hi x1 = some o) : MetI l yX7_forget wsX7_forget RM_X7_forget (dC, dI) (TY cI cJ cZ cO) [.ref (ab 0), .int x1] (W_BO cI cJ cZ cO ab ac_ atr ah ap al abc aac anb ++ (W_C cI cJ cZ cO ac_ ct.1 ct.2.1 ct.2.2.1 ct.2.2.2.1 ct.2.2.2.2.1 ct.2.2.2.2.2.1 ct.2.2.2.2.2.2.1 ct.2.2.2.2.2.2.2 ++ (W_H cI cJ cZ cO ah ahs hi.1 hi.2.1 hi.2.2.1 hi.2.2.2.1 hi.2.2.2.2.1 hi.2.2.2.2.2.1 hi.2.2.2.2.2.2))) (fun r (_ : Nat → Nat → Nat) => r = o.1) (fun (ahs : Nat → Nat → Nat) => (W_BO cI cJ cZ cO ab ac_ atr ah ap al abc aac anb ++ (W_C cI cJ cZ cO ac_ o.2.1.1 o.2.1.2.1 o.2.1.2.2.1 o.2.1.2.2.2.1 o.2.1.2.2.2.2.1 o.2.1.2.2.2.2.2.1 o.2.1.2.2.2.2.2.2.1 o.2.1.2.2.2.2.2.2.2 ++ (W_H cI cJ cZ cO ah ahs o.2.2.1 o.2.2.2.1 o.2.2.2.2.1 o.2.2.2.2.2.1 o.2.2.2.2.2.2.1 o.2.2.2.2.2.2.2.1 o.2.2.2.2.2.2.2.2)))) := by
  refine MetI.ofV (cc := cX7_forget) (maxL := 2) (ret := (some .int)) (own := RX7) (lv0 := [(0, .ref (ab 0)), (1, .int x1)]) (by decide) rfl rfl (Nat.le_of_ble_eq_true rfl) rfl ?_
  intro p e s m below meth c A C0 _
  unfold f_X7_forget at hf
  refine V_aload_n C0 dX7_forget_0 0 rfl rfl ?_
  refine V_iload_n C0 dX7_forget_1 1 rfl rfl ?_
  obtain ⟨r_2, hc_2, hf⟩ := bind_inv hf
  refine V_cVI (ws' := (W_BO cI cJ cZ cO ab ac_ atr ah ap al abc aac anb ++ (W_C cI cJ cZ cO ac_ ct.1 ct.2.1 ct.2.2.1 ct.2.2.2.1 ct.2.2.2.2.1 ct.2.2.2.2.2.1 ct.2.2.2.2.2.2.1 ct.2.2.2.2.2.2.2 ++ (W_H cI cJ cZ cO ah ahs hi.1 hi.2.1 hi.2.2.1 hi.2.2.2.1 hi.2.2.2.2.1 hi.2.2.2.2.2.1 hi.2.2.2.2.2.2)))) (As := [.int x1]) (b := ab 0) (st := []) C0 (c_X7_isWord l dC dI cI cJ cZ cO ab ac_ atr ah ap al abc aac anb N ct x1 r_2 hc_2) rfl 1 gX7_forget_X7_isWord (by decide +kernel) ⟨Nat.le_of_ble_eq_true rfl, Nat.le_of_ble_eq_true rfl⟩ rfl 0 7 rfl rfl  ⟨_, (pt (pte pr1)), fun _ => (pt (pte pr1))⟩ rfl (Nat.le_of_ble_eq_true rfl) dX7_forget_2 rfl ⟨Nat.zero_le _, Nat.zero_le _⟩ ?_
  refine V_if_ne (tgt := 10) C0 dX7_forget_5 (by decide) rfl (fun c5 => ?_) (fun c5 => ?_)
  · have hf := ite_f c5 hf
    refine V_aload_n C0 dX7_forget_10 0 rfl rfl ?_
    refine V_get C0 fl_X7_forget_30 0 rfl rfl dX7_forget_11 rfl ?_
    refine V_aload_n C0 dX7_forget_14 0 rfl rfl ?_
    refine V_get C0 fl_X7_forget_10 0 rfl rfl dX7_forget_15 rfl ?_
    obtain ⟨r_18, hc_18, hf⟩ := bind_inv hf
    refine V_callVV (ws' := fun (ahs_18 : Nat → Nat → Nat) => (W_BO cI cJ cZ cO ab ac_ atr ah ap al abc aac anb ++ (W_C cI cJ cZ cO ac_ ct.1 ct.2.1 ct.2.2.1 ct.2.2.2.1 ct.2.2.2.2.1 ct.2.2.2.2.2.1 ct.2.2.2.2.2.2.1 ct.2.2.2.2.2.2.2 ++ (W_H cI cJ cZ cO ah ahs_18 r_18.1 r_18.2.1 r_18.2.2.1 r_18.2.2.2.1 r_18.2.2.2.2.1 r_18.2.2.2.2.2.1 r_18.2.2.2.2.2.2)))) (As := [.ref (ac_ 0)]) (b := ah 0) (st := []) C0 (c_X3_record l dC dI cI cJ cZ cO ac_ ah ahs N ct hi  r_18 hc_18) rfl 1 gX7_forget_X3_record (by decide +kernel) ⟨Nat.le_of_ble_eq_true rfl, Nat.le_of_ble_eq_true rfl⟩ rfl 8 3 rfl rfl  ⟨_, (pr (pt pt1)), fun _ => (pr (pt pt1))⟩ rfl (Nat.le_of_ble_eq_true rfl) dX7_forget_18 rfl ⟨Nat.zero_le _, Nat.zero_le _⟩ (fun ahs_18 _ => ?_)
    refine V.world (ws' := (W_BO cI cJ cZ cO ab ac_ atr ah ap al abc aac anb ++ (W_C cI cJ cZ cO ac_ ct.1 ct.2.1 ct.2.2.1 ct.2.2.2.1 ct.2.2.2.2.1 ct.2.2.2.2.2.1 ct.2.2.2.2.2.2.1 ct.2.2.2.2.2.2.2 ++ (W_H cI cJ cZ cO ah ahs_18 r_18.1 r_18.2.1 r_18.2.2.1 r_18.2.2.2.1 r_18.2.2.2.2.1 r_18.2.2.2.2.2.1 r_18.2.2.2.2.2.2)))) rfl ?_
    refine V_aload_n C0 dX7_forget_21 0 rfl rfl ?_
    refine V_get C0 fl_X7_forget_10 0 rfl rfl dX7_forget_22 rfl ?_
    refine V_iload_n C0 dX7_forget_25 1 rfl rfl ?_
    obtain ⟨r_26, hc_26, hf⟩ := bind_inv hf
    refine V_cVV (ws' := (W_BO cI cJ cZ cO ab ac_ atr ah ap al abc aac anb ++ (W_C cI cJ cZ cO ac_ r_26.1 r_26.2.1 r_26.2.2.1 r_26.2.2.2.1 r_26.2.2.2.2.1 r_26.2.2.2.2.2.1 r_26.2.2.2.2.2.2.1 r_26.2.2.2.2.2.2.2 ++ (W_H cI cJ cZ cO ah ahs_18 r_18.1 r_18.2.1 r_18.2.2.1 r_18.2.2.2.1 r_18.2.2.2.2.1 r_18.2.2.2.2.2.1 r_18.2.2.2.2.2.2)))) (As := [.int x1]) (b := ac_ 0) (st := []) C0 (c_X2_removeWord l dC dI cI cJ cZ cO ac_ N ct x1 r_26 hc_26) rfl 1 gX7_forget_X2_removeWord (by decide +kernel) ⟨Nat.le_of_ble_eq_true rfl, Nat.le_of_ble_eq_true rfl⟩ rfl 1 2 rfl rfl  ⟨_, (pr (pte pr1)), fun _ => (pr (pte pr1))⟩ rfl (Nat.le_of_ble_eq_true rfl) dX7_forget_26 rfl ⟨Nat.zero_le _, Nat.zero_le _⟩ ?_
    refine V_aload_n C0 dX7_forget_29 0 rfl rfl ?_
    refine V_get C0 fl_X7_forget_10 0 rfl rfl dX7_forget_30 rfl ?_
    refine V_get C0 fl_X7_forget_113 1 rfl rfl dX7_forget_33 rfl ?_
    obtain rfl := some_inv hf
    exact V_iret C0 ahs_18 rfl rfl dX7_forget_36
  · have hf := ite_t c5 hf
    refine V_iconst (v := (-1)) C0 dX7_forget_8 (by decide) rfl ?_
    obtain rfl := some_inv hf
    exact V_iret C0 ahs rfl rfl dX7_forget_9
abbrev RM_X7_bearAll : Room := { frames := 5, cells := 0, slots := 0, locals := 116 }
theorem in_X7_bearAll_X2 : ∀ w ∈ u_ws RX2 TX2 8, w ∈ wsX7_bearAll := by decide +kernel
theorem in_X7_bearAll_X7 : ∀ w ∈ u_ws RX7 TX7 12, w ∈ wsX7_bearAll := by decide +kernel
theorem fl_X7_bearAll_10 : FL RX7 wsX7_bearAll 7 10 0 RX7 TX7 12 := ⟨in_X7_bearAll_X7, rfl, by decide, by decide +kernel, rfl⟩
theorem fl_X7_bearAll_44 : FL RX7 wsX7_bearAll 7 44 6 RX7 TX7 12 := ⟨in_X7_bearAll_X7, rfl, by decide, by decide +kernel, rfl⟩
theorem fl_X7_bearAll_58 : FL RX7 wsX7_bearAll 7 58 8 RX7 TX7 12 := ⟨in_X7_bearAll_X7, rfl, by decide, by decide +kernel, rfl⟩
theorem fl_X7_bearAll_69 : FL RX7 wsX7_bearAll 7 69 10 RX7 TX7 12 := ⟨in_X7_bearAll_X7, rfl, by decide, by decide +kernel, rfl⟩
theorem fl_X7_bearAll_96 : FL RX7 wsX7_bearAll 2 96 0 RX2 TX2 8 := ⟨in_X7_bearAll_X2, rfl, by decide, by decide +kernel, rfl⟩
theorem fl_X7_bearAll_113 : FL RX7 wsX7_bearAll 2 113 4 RX2 TX2 8 := ⟨in_X7_bearAll_X2, rfl, by decide, by decide +kernel, rfl⟩
theorem fl_X7_bearAll_123 : FL RX7 wsX7_bearAll 2 123 6 RX2 TX2 8 := ⟨in_X7_bearAll_X2, rfl, by decide, by decide +kernel, rfl⟩
set_option maxRecDepth 100000 in
set_option maxHeartbeats 4000000 in
theorem c_X7_bearAll (l : Launch) (dC : Nat → ClassId) (dI : Nat → Nat → Nat) (cI cJ cZ cO : ClassId) (ab : Nat → Nat) (ac_ : Nat → Nat) (atr : Nat → Nat) (ah : Nat → Nat) (ap : Nat → Nat) (al : Nat → Nat) (abc : Nat → Nat) (aac : Nat → Nat) (anb : Nat → Nat) (N : Nat) (ct : CV) (lt : LV) (ac : AV) (bn : (Nat → Int32)) (o : LV × AV × (Nat → Int32)) (hf : f_X7_bearAll N ct lt ac bn = some o) : MetV l yX7_bearAll wsX7_bearAll RM_X7_bearAll (dC, dI) (TY cI cJ cZ cO) [.ref (ab 0)] (W_BO cI cJ cZ cO ab ac_ atr ah ap al abc aac anb ++ (W_C cI cJ cZ cO ac_ ct.1 ct.2.1 ct.2.2.1 ct.2.2.2.1 ct.2.2.2.2.1 ct.2.2.2.2.2.1 ct.2.2.2.2.2.2.1 ct.2.2.2.2.2.2.2 ++ (W_L cI cJ cZ cO al lt.1 lt.2.1 lt.2.2.1 lt.2.2.2 ++ (W_A cI cJ cZ cO aac ac.1 ac.2.1 ac.2.2 ++ (W_BN cI cJ cZ cO ab bn))))) (fun _ : Unit => True) (fun _ => (W_BO cI cJ cZ cO ab ac_ atr ah ap al abc aac anb ++ (W_C cI cJ cZ cO ac_ ct.1 ct.2.1 ct.2.2.1 ct.2.2.2.1 ct.2.2.2.2.1 ct.2.2.2.2.2.1 ct.2.2.2.2.2.2.1 ct.2.2.2.2.2.2.2 ++ (W_L cI cJ cZ cO al o.1.1 o.1.2.1 o.1.2.2.1 o.1.2.2.2 ++ (W_A cI cJ cZ cO aac o.2.1.1 o.2.1.2.1 o.2.1.2.2 ++ (W_BN cI cJ cZ cO ab o.2.2)))))) := by
  refine MetV.ofV (cc := cX7_bearAll) (maxL := 3) (ret := none) (own := RX7) (lv0 := [(0, .ref (ab 0))]) (by decide) rfl rfl (Nat.le_of_ble_eq_true rfl) rfl ?_
  intro p e s m below meth c A C0 _
  unfold f_X7_bearAll at hf
  refine V_aload_n C0 dX7_bearAll_0 0 rfl rfl ?_
  refine V_get C0 fl_X7_bearAll_69 0 rfl rfl dX7_bearAll_1 rfl ?_
  refine V_iconst (v := 0) C0 dX7_bearAll_4 (by decide) rfl ?_
  obtain ⟨r_5, hc_5, hf⟩ := bind_inv hf
  refine V_cSV (ws' := (W_BO cI cJ cZ cO ab ac_ atr ah ap al abc aac anb ++ (W_C cI cJ cZ cO ac_ ct.1 ct.2.1 ct.2.2.1 ct.2.2.2.1 ct.2.2.2.2.1 ct.2.2.2.2.2.1 ct.2.2.2.2.2.2.1 ct.2.2.2.2.2.2.2 ++ (W_L cI cJ cZ cO al lt.1 lt.2.1 lt.2.2.1 lt.2.2.2 ++ (W_A cI cJ cZ cO aac ac.1 ac.2.1 ac.2.2 ++ (W_BN cI cJ cZ cO ab r_5)))))) (As := [.ref (ab 3), .int 0]) (st := []) C0 (c_J7_fill_53178 l dC dI cI cJ cZ cO (fun _ => ab 3) N 16 bn 0 r_5 hc_5) rfl 2 gX7_bearAll_J7_fill_53178 (by decide +kernel) ⟨Nat.le_of_ble_eq_true rfl, Nat.le_of_ble_eq_true rfl⟩ rfl  ⟨_, (pr (pr (pr (pr pt1)))), fun _ => (pr (pr (pr (pr pt1))))⟩ rfl (Nat.le_of_ble_eq_true rfl) dX7_bearAll_5 rfl ⟨Nat.zero_le _, Nat.zero_le _⟩ ?_
  refine V_iconst (v := 0) C0 dX7_bearAll_8 (by decide) rfl ?_
  refine V_istore_n (lv' := [(1, .int 0), (0, .ref (ab 0))]) C0 dX7_bearAll_9 rfl (by decide) rfl rfl ?_
  have hL10 : ∀ (K : LV → AV → (Nat → Int32) → Option (LV × AV × (Nat → Int32))), (∀ (lt : LV) (ac : AV) (bn : (Nat → Int32)), K lt ac bn = some o → V p l e RM_X7_bearAll s m ([.ref (ab 0)] : List Value).toArray below meth c 3 (dC, dI) A (MQ below (va_Qv (fun _ : Unit => True) (PostW (dC, dI) (TY cI cJ cZ cO) A (fun _ => (W_BO cI cJ cZ cO ab ac_ atr ah ap al abc aac anb ++ (W_C cI cJ cZ cO ac_ ct.1 ct.2.1 ct.2.2.1 ct.2.2.2.1 ct.2.2.2.2.1 ct.2.2.2.2.2.1 ct.2.2.2.2.2.2.1 ct.2.2.2.2.2.2.2 ++ (W_L cI cJ cZ cO al o.1.1 o.1.2.1 o.1.2.2.1 o.1.2.2.2 ++ (W_A cI cJ cZ cO aac o.2.1.1 o.2.1.2.1 o.2.1.2.2 ++ (W_BN cI cJ cZ cO ab o.2.2))))))) A) ([.ref (ab 0)] : List Value).toArray s 0 0 A) 0 0 (W_BO cI cJ cZ cO ab ac_ atr ah ap al abc aac anb ++ (W_C cI cJ cZ cO ac_ ct.1 ct.2.1 ct.2.2.1 ct.2.2.2.1 ct.2.2.2.2.1 ct.2.2.2.2.2.1 ct.2.2.2.2.2.2.1 ct.2.2.2.2.2.2.2 ++ (W_L cI cJ cZ cO al lt.1 lt.2.1 lt.2.2.1 lt.2.2.2 ++ (W_A cI cJ cZ cO aac ac.1 ac.2.1 ac.2.2 ++ (W_BN cI cJ cZ cO ab bn))))) 100 [] []) → ∀ (n : Nat) (x1 : Int32) (lt : LV) (ac : AV) (bn : (Nat → Int32)), f_X7_bearAll_L10 N ct  K n x1 lt ac bn = some o → V p l e RM_X7_bearAll s m ([.ref (ab 0)] : List Value).toArray below meth c 3 (dC, dI) A (MQ below (va_Qv (fun _ : Unit => True) (PostW (dC, dI) (TY cI cJ cZ cO) A (fun _ => (W_BO cI cJ cZ cO ab ac_ atr ah ap al abc aac anb ++ (W_C cI cJ cZ cO ac_ ct.1 ct.2.1 ct.2.2.1 ct.2.2.2.1 ct.2.2.2.2.1 ct.2.2.2.2.2.1 ct.2.2.2.2.2.2.1 ct.2.2.2.2.2.2.2 ++ (W_L cI cJ cZ cO al o.1.1 o.1.2.1 o.1.2.2.1 o.1.2.2.2 ++ (W_A cI cJ cZ cO aac o.2.1.1 o.2.1.2.1 o.2.1.2.2 ++ (W_BN cI cJ cZ cO ab o.2.2))))))) A) ([.ref (ab 0)] : List Value).toArray s 0 0 A) 0 0 (W_BO cI cJ cZ cO ab ac_ atr ah ap al abc aac anb ++ (W_C cI cJ cZ cO ac_ ct.1 ct.2.1 ct.2.2.1 ct.2.2.2.1 ct.2.2.2.2.1 ct.2.2.2.2.2.1 ct.2.2.2.2.2.2.1 ct.2.2.2.2.2.2.2 ++ (W_L cI cJ cZ cO al lt.1 lt.2.1 lt.2.2.1 lt.2.2.2 ++ (W_A cI cJ cZ cO aac ac.1 ac.2.1 ac.2.2 ++ (W_BN cI cJ cZ cO ab bn))))) 10 [(0, .ref (ab 0)), (1, .int x1)] [] := by
    intro  K hK n
    induction n with
    | zero => intro x1 lt ac bn hf; cases hf
    | succ n hREC =>
      intro x1 lt ac bn hf
      rw [f_X7_bearAll_L10] at hf
      refine V_iload_n C0 dX7_bearAll_10 1 rfl rfl ?_
      refine V_aload_n C0 dX7_bearAll_11 0 rfl rfl ?_
      refine V_get C0 fl_X7_bearAll_10 0 rfl rfl dX7_bearAll_12 rfl ?_
      refine V_get C0 fl_X7_bearAll_113 1 rfl rfl dX7_bearAll_15 rfl ?_
      refine V_icmp_ge (tgt := 100) C0 dX7_bearAll_18 (by decide) rfl (fun c18 => ?_) (fun c18 => ?_)
      · have hf := ite_t c18 hf
        exact V.sub [] rfl (hK lt ac bn hf)
      · have hf := ite_f c18 hf
        refine V_aload_n C0 dX7_bearAll_21 0 rfl rfl ?_
        refine V_get C0 fl_X7_bearAll_44 0 rfl rfl dX7_bearAll_22 rfl ?_
        refine V_aload_n C0 dX7_bearAll_25 0 rfl rfl ?_
        refine V_get C0 fl_X7_bearAll_10 0 rfl rfl dX7_bearAll_26 rfl ?_
        refine V_iload_n C0 dX7_bearAll_29 1 rfl rfl ?_
        obtain ⟨r_30, hc_30, hf⟩ := bind_inv hf
        refine V_cVV (ws' := (W_BO cI cJ cZ cO ab ac_ atr ah ap al abc aac anb ++ (W_C cI cJ cZ cO ac_ ct.1 ct.2.1 ct.2.2.1 ct.2.2.2.1 ct.2.2.2.2.1 ct.2.2.2.2.2.1 ct.2.2.2.2.2.2.1 ct.2.2.2.2.2.2.2 ++ (W_L cI cJ cZ cO al r_30.1 r_30.2.1 r_30.2.2.1 r_30.2.2.2 ++ (W_A cI cJ cZ cO aac ac.1 ac.2.1 ac.2.2 ++ (W_BN cI cJ cZ cO ab bn)))))) (As := [.ref (ac_ 0), .int x1]) (b := al 0) (st := []) C0 (c_X4_read l dC dI cI cJ cZ cO ac_ al N ct lt x1 r_30 hc_30) rfl 2 gX7_bearAll_X4_read (by decide +kernel) ⟨Nat.le_of_ble_eq_true rfl, Nat.le_of_ble_eq_true rfl⟩ rfl 8 4 rfl rfl  ⟨_, (pr (pt (pte (pr pr1)))), fun _ => (pr (pt (pte (pr pr1))))⟩ rfl (Nat.le_of_ble_eq_true rfl) dX7_bearAll_30 rfl ⟨Nat.zero_le _, Nat.zero_le _⟩ ?_
        refine V_aload_n C0 dX7_bearAll_33 0 rfl rfl ?_
        refine V_get C0 fl_X7_bearAll_58 0 rfl rfl dX7_bearAll_34 rfl ?_
        refine V_aload_n C0 dX7_bearAll_37 0 rfl rfl ?_
        refine V_get C0 fl_X7_bearAll_44 0 rfl rfl dX7_bearAll_38 rfl ?_
        obtain ⟨r_41, hc_41, hf⟩ := bind_inv hf
        refine V_cVV (ws' := (W_BO cI cJ cZ cO ab ac_ atr ah ap al abc aac anb ++ (W_C cI cJ cZ cO ac_ ct.1 ct.2.1 ct.2.2.1 ct.2.2.2.1 ct.2.2.2.2.1 ct.2.2.2.2.2.1 ct.2.2.2.2.2.2.1 ct.2.2.2.2.2.2.2 ++ (W_L cI cJ cZ cO al r_30.1 r_30.2.1 r_30.2.2.1 r_30.2.2.2 ++ (W_A cI cJ cZ cO aac r_41.1 r_41.2.1 r_41.2.2 ++ (W_BN cI cJ cZ cO ab bn)))))) (As := [.ref (al 0)]) (b := aac 0) (st := []) C0 (c_X0_find l dC dI cI cJ cZ cO al aac N r_30 ac  r_41 hc_41) rfl 1 gX7_bearAll_X0_find (by decide +kernel) ⟨Nat.le_of_ble_eq_true rfl, Nat.le_of_ble_eq_true rfl⟩ rfl 12 0 rfl rfl  ⟨_, (pr (pr (pt (pte pr1)))), fun _ => (pr (pr (pt (pte pr1))))⟩ rfl (Nat.le_of_ble_eq_true rfl) dX7_bearAll_41 rfl ⟨Nat.zero_le _, Nat.zero_le _⟩ ?_
        refine V_iconst (v := 0) C0 dX7_bearAll_44 (by decide) rfl ?_
        refine V_istore_n (lv' := [(2, .int 0), (0, .ref (ab 0)), (1, .int x1)]) C0 dX7_bearAll_45 rfl (by decide) rfl rfl ?_
        have hL46 : ∀ (x1 : Int32) (lt : LV) (ac : AV) (K : (Nat → Int32) → Option (LV × AV × (Nat → Int32))), (∀ (bn : (Nat → Int32)), K bn = some o → V p l e RM_X7_bearAll s m ([.ref (ab 0)] : List Value).toArray below meth c 3 (dC, dI) A (MQ below (va_Qv (fun _ : Unit => True) (PostW (dC, dI) (TY cI cJ cZ cO) A (fun _ => (W_BO cI cJ cZ cO ab ac_ atr ah ap al abc aac anb ++ (W_C cI cJ cZ cO ac_ ct.1 ct.2.1 ct.2.2.1 ct.2.2.2.1 ct.2.2.2.2.1 ct.2.2.2.2.2.1 ct.2.2.2.2.2.2.1 ct.2.2.2.2.2.2.2 ++ (W_L cI cJ cZ cO al o.1.1 o.1.2.1 o.1.2.2.1 o.1.2.2.2 ++ (W_A cI cJ cZ cO aac o.2.1.1 o.2.1.2.1 o.2.1.2.2 ++ (W_BN cI cJ cZ cO ab o.2.2))))))) A) ([.ref (ab 0)] : List Value).toArray s 0 0 A) 0 0 (W_BO cI cJ cZ cO ab ac_ atr ah ap al abc aac anb ++ (W_C cI cJ cZ cO ac_ ct.1 ct.2.1 ct.2.2.1 ct.2.2.2.1 ct.2.2.2.2.1 ct.2.2.2.2.2.1 ct.2.2.2.2.2.2.1 ct.2.2.2.2.2.2.2 ++ (W_L cI cJ cZ cO al lt.1 lt.2.1 lt.2.2.1 lt.2.2.2 ++ (W_A cI cJ cZ cO aac ac.1 ac.2.1 ac.2.2 ++ (W_BN cI cJ cZ cO ab bn))))) 94 [(0, .ref (ab 0)), (1, .int x1)] []) → ∀ (n : Nat) (x2 : Int32) (bn : (Nat → Int32)), f_X7_bearAll_L46 N ct x1 lt ac K n x2 bn = some o → V p l e RM_X7_bearAll s m ([.ref (ab 0)] : List Value).toArray below meth c 3 (dC, dI) A (MQ below (va_Qv (fun _ : Unit => True) (PostW (dC, dI) (TY cI cJ cZ cO) A (fun _ => (W_BO cI cJ cZ cO ab ac_ atr ah ap al abc aac anb ++ (W_C cI cJ cZ cO ac_ ct.1 ct.2.1 ct.2.2.1 ct.2.2.2.1 ct.2.2.2.2.1 ct.2.2.2.2.2.1 ct.2.2.2.2.2.2.1 ct.2.2.2.2.2.2.2 ++ (W_L cI cJ cZ cO al o.1.1 o.1.2.1 o.1.2.2.1 o.1.2.2.2 ++ (W_A cI cJ cZ cO aac o.2.1.1 o.2.1.2.1 o.2.1.2.2 ++ (W_BN cI cJ cZ cO ab o.2.2))))))) A) ([.ref (ab 0)] : List Value).toArray s 0 0 A) 0 0 (W_BO cI cJ cZ cO ab ac_ atr ah ap al abc aac anb ++ (W_C cI cJ cZ cO ac_ ct.1 ct.2.1 ct.2.2.1 ct.2.2.2.1 ct.2.2.2.2.1 ct.2.2.2.2.2.1 ct.2.2.2.2.2.2.1 ct.2.2.2.2.2.2.2 ++ (W_L cI cJ cZ cO al lt.1 lt.2.1 lt.2.2.1 lt.2.2.2 ++ (W_A cI cJ cZ cO aac ac.1 ac.2.1 ac.2.2 ++ (W_BN cI cJ cZ cO ab bn))))) 46 [(0, .ref (ab 0)), (1, .int x1), (2, .int x2)] [] := by
          intro x1 lt ac K hK n
          induction n with
          | zero => intro x2 bn hf; cases hf
          | succ n hREC =>
            intro x2 bn hf
            rw [f_X7_bearAll_L46] at hf
            refine V_iload_n C0 dX7_bearAll_46 2 rfl rfl ?_
            refine V_aload_n C0 dX7_bearAll_47 0 rfl rfl ?_
            refine V_get C0 fl_X7_bearAll_10 0 rfl rfl dX7_bearAll_48 rfl ?_
            refine V_get C0 fl_X7_bearAll_96 1 rfl rfl dX7_bearAll_51 rfl ?_
            refine V_icmp_ge (tgt := 94) C0 dX7_bearAll_54 (by decide) rfl (fun c54 => ?_) (fun c54 => ?_)
            · have hf := ite_t c54 hf
              exact V.sub [0, 1] rfl (hK bn hf)
            · have hf := ite_f c54 hf
              refine V_aload_n C0 dX7_bearAll_57 0 rfl rfl ?_
              refine V_get C0 fl_X7_bearAll_69 0 rfl rfl dX7_bearAll_58 rfl ?_
              refine V_iload_n C0 dX7_bearAll_61 2 rfl rfl ?_
              refine V_dup2_11 C0 dX7_bearAll_62 rfl rfl rfl ?_
              obtain ⟨hi63, hf⟩ := ck_inv hf
              refine V_iald C0 16 0 rfl rfl hi63 dX7_bearAll_63 rfl ?_
              refine V_aload_n C0 dX7_bearAll_64 0 rfl rfl ?_
              refine V_get C0 fl_X7_bearAll_10 0 rfl rfl dX7_bearAll_65 rfl ?_
              refine V_get C0 fl_X7_bearAll_123 1 rfl rfl dX7_bearAll_68 rfl ?_
              refine V_iload_n C0 dX7_bearAll_71 1 rfl rfl ?_
              obtain ⟨hi72, hf⟩ := ck_inv hf
              refine V_iald C0 6 0 rfl rfl hi72 dX7_bearAll_72 rfl ?_
              refine V_aload_n C0 dX7_bearAll_73 0 rfl rfl ?_
              refine V_get C0 fl_X7_bearAll_58 0 rfl rfl dX7_bearAll_74 rfl ?_
              refine V_aload_n C0 dX7_bearAll_77 0 rfl rfl ?_
              refine V_get C0 fl_X7_bearAll_44 0 rfl rfl dX7_bearAll_78 rfl ?_
              refine V_iload_n C0 dX7_bearAll_81 2 rfl rfl ?_
              obtain ⟨r_82, hc_82, hf⟩ := bind_inv hf
              refine V_cVI (ws' := (W_BO cI cJ cZ cO ab ac_ atr ah ap al abc aac anb ++ (W_C cI cJ cZ cO ac_ ct.1 ct.2.1 ct.2.2.1 ct.2.2.2.1 ct.2.2.2.2.1 ct.2.2.2.2.2.1 ct.2.2.2.2.2.2.1 ct.2.2.2.2.2.2.2 ++ (W_L cI cJ cZ cO al lt.1 lt.2.1 lt.2.2.1 lt.2.2.2 ++ (W_A cI cJ cZ cO aac ac.1 ac.2.1 ac.2.2 ++ (W_BN cI cJ cZ cO ab bn)))))) (As := [.ref (al 0), .int x2]) (b := aac 0) (st := [.int (ct.2.2.2.2.2.2.1 (x1.toNatClampNeg)), .int (bn (x2.toNatClampNeg)), .int x2, .ref (ab 3)]) C0 (c_X0_shareOf l dC dI cI cJ cZ cO al aac N lt ac x2 r_82 hc_82) rfl 2 gX7_bearAll_X0_shareOf (by decide +kernel) ⟨Nat.le_of_ble_eq_true rfl, Nat.le_of_ble_eq_true rfl⟩ rfl 12 0 rfl rfl  ⟨_, (pr (pr (pt (pte pr1)))), fun _ => (pr (pr (pt (pte pr1))))⟩ rfl (Nat.le_of_ble_eq_true rfl) dX7_bearAll_82 rfl ⟨Nat.zero_le _, Nat.zero_le _⟩ ?_
              refine V_imul C0 dX7_bearAll_85 rfl ?_
              refine V_iadd C0 dX7_bearAll_86 rfl ?_
              obtain ⟨hi87, hf⟩ := ck_inv hf
              refine V_iast (ws' := (W_BO cI cJ cZ cO ab ac_ atr ah ap al abc aac anb ++ (W_C cI cJ cZ cO ac_ ct.1 ct.2.1 ct.2.2.1 ct.2.2.2.1 ct.2.2.2.2.1 ct.2.2.2.2.2.1 ct.2.2.2.2.2.2.1 ct.2.2.2.2.2.2.2 ++ (W_L cI cJ cZ cO al lt.1 lt.2.1 lt.2.2.1 lt.2.2.2 ++ (W_A cI cJ cZ cO aac ac.1 ac.2.1 ac.2.2 ++ (W_BN cI cJ cZ cO ab (upd bn (x2.toNatClampNeg) ((bn (x2.toNatClampNeg)) + ((ct.2.2.2.2.2.2.1 (x1.toNatClampNeg)) * r_82))))))))) C0 16 0 rfl rfl hi87 dX7_bearAll_87 rfl rfl ?_
              refine V_iinc (k := 2) (v := x2 + 1) (lv' := [(2, .int (x2 + 1)), (0, .ref (ab 0)), (1, .int x1)]) C0 dX7_bearAll_88 rfl rfl (by decide) rfl rfl ?_
              refine V_goto (tgt := 46) C0 dX7_bearAll_91 (by decide) ?_
              exact V.sub [1, 2, 0] rfl (hREC (x2 + 1) (upd bn (x2.toNatClampNeg) ((bn (x2.toNatClampNeg)) + ((ct.2.2.2.2.2.2.1 (x1.toNatClampNeg)) * r_82))) hf)
        refine V.sub [1, 2, 0] rfl (hL46 x1 r_30 r_41 _ ?_ N 0 bn hf)
        intro bn_46 hf
        refine V_iinc (k := 1) (v := x1 + 1) (lv' := [(1, .int (x1 + 1)), (0, .ref (ab 0))]) C0 dX7_bearAll_94 rfl rfl (by decide) rfl rfl ?_
        refine V_goto (tgt := 10) C0 dX7_bearAll_97 (by decide) ?_
        exact V.sub [1, 0] rfl (hREC (x1 + 1) r_30 r_41 bn_46 hf)
  refine V.sub [1, 0] rfl (hL10  _ ?_ N 0 lt ac r_5 hf)
  intro lt_10 ac_10 bn_10 hf
  obtain rfl := some_inv hf
  exact V_vret C0 () trivial rfl dX7_bearAll_100
abbrev RM_X7_tune : Room := { frames := 6, cells := 0, slots := 0, locals := 138 }
theorem in_X7_tune_X2 : ∀ w ∈ u_ws RX2 TX2 8, w ∈ wsX7_tune := by decide +kernel
theorem in_X7_tune_X7 : ∀ w ∈ u_ws RX7 TX7 12, w ∈ wsX7_tune := by decide +kernel
theorem fl_X7_tune_10 : FL RX7 wsX7_tune 7 10 0 RX7 TX7 12 := ⟨in_X7_tune_X7, rfl, by decide, by decide +kernel, rfl⟩
theorem fl_X7_tune_30 : FL RX7 wsX7_tune 7 30 4 RX7 TX7 12 := ⟨in_X7_tune_X7, rfl, by decide, by decide +kernel, rfl⟩
theorem fl_X7_tune_69 : FL RX7 wsX7_tune 7 69 10 RX7 TX7 12 := ⟨in_X7_tune_X7, rfl, by decide, by decide +kernel, rfl⟩
theorem fl_X7_tune_96 : FL RX7 wsX7_tune 2 96 0 RX2 TX2 8 := ⟨in_X7_tune_X2, rfl, by decide, by decide +kernel, rfl⟩
theorem fl_X7_tune_103 : FL RX7 wsX7_tune 2 103 3 RX2 TX2 8 := ⟨in_X7_tune_X2, rfl, by decide, by decide +kernel, rfl⟩
set_option maxRecDepth 100000 in
set_option maxHeartbeats 4000000 in
theorem c_X7_tune (l : Launch) (dC : Nat → ClassId) (dI : Nat → Nat → Nat) (cI cJ cZ cO : ClassId) (ab : Nat → Nat) (ac_ : Nat → Nat) (atr : Nat → Nat) (ah : Nat → Nat) (ap : Nat → Nat) (al : Nat → Nat) (abc : Nat → Nat) (aac : Nat → Nat) (anb : Nat → Nat) (ahs : Nat → Nat → Nat) (N : Nat) (ct : CV) (hi : HV) (lt : LV) (ac : AV) (bn : (Nat → Int32)) (o : Int32 × CV × HV × LV × AV × (Nat → Int32)) (hf : f_X7_tune N ct hi lt ac bn = some o) : MetI l yX7_tune wsX7_tune RM_X7_tune (dC, dI) (TY cI cJ cZ cO) [.ref (ab 0)] (W_BO cI cJ cZ cO ab ac_ atr ah ap al abc aac anb ++ (W_C cI cJ cZ cO ac_ ct.1 ct.2.1 ct.2.2.1 ct.2.2.2.1 ct.2.2.2.2.1 ct.2.2.2.2.2.1 ct.2.2.2.2.2.2.1 ct.2.2.2.2.2.2.2 ++ (W_H cI cJ cZ cO ah ahs hi.1 hi.2.1 hi.2.2.1 hi.2.2.2.1 hi.2.2.2.2.1 hi.2.2.2.2.2.1 hi.2.2.2.2.2.2 ++ (W_L cI cJ cZ cO al lt.1 lt.2.1 lt.2.2.1 lt.2.2.2 ++ (W_A cI cJ cZ cO aac ac.1 ac.2.1 ac.2.2 ++ (W_BN cI cJ cZ cO ab bn)))))) (fun r (_ : Nat → Nat → Nat) => r = o.1) (fun (ahs : Nat → Nat → Nat) => (W_BO cI cJ cZ cO ab ac_ atr ah ap al abc aac anb ++ (W_C cI cJ cZ cO ac_ o.2.1.1 o.2.1.2.1 o.2.1.2.2.1 o.2.1.2.2.2.1 o.2.1.2.2.2.2.1 o.2.1.2.2.2.2.2.1 o.2.1.2.2.2.2.2.2.1 o.2.1.2.2.2.2.2.2.2 ++ (W_H cI cJ cZ cO ah ahs o.2.2.1.1 o.2.2.1.2.1 o.2.2.1.2.2.1 o.2.2.1.2.2.2.1 o.2.2.1.2.2.2.2.1 o.2.2.1.2.2.2.2.2.1 o.2.2.1.2.2.2.2.2.2 ++ (W_L cI cJ cZ cO al o.2.2.2.1.1 o.2.2.2.1.2.1 o.2.2.2.1.2.2.1 o.2.2.2.1.2.2.2 ++ (W_A cI cJ cZ cO aac o.2.2.2.2.1.1 o.2.2.2.2.1.2.1 o.2.2.2.2.1.2.2 ++ (W_BN cI cJ cZ cO ab o.2.2.2.2.2))))))) := by
  refine MetI.ofV (cc := cX7_tune) (maxL := 5) (ret := (some .int)) (own := RX7) (lv0 := [(0, .ref (ab 0))]) (by decide) rfl rfl (Nat.le_of_ble_eq_true rfl) rfl ?_
  intro p e s m below meth c A C0 _
  unfold f_X7_tune at hf
  refine V_aload_n C0 dX7_tune_0 0 rfl rfl ?_
  refine V_get C0 fl_X7_tune_30 0 rfl rfl dX7_tune_1 rfl ?_
  refine V_aload_n C0 dX7_tune_4 0 rfl rfl ?_
  refine V_get C0 fl_X7_tune_10 0 rfl rfl dX7_tune_5 rfl ?_
  obtain ⟨r_8, hc_8, hf⟩ := bind_inv hf
  refine V_callVV (ws' := fun (ahs_8 : Nat → Nat → Nat) => (W_BO cI cJ cZ cO ab ac_ atr ah ap al abc aac anb ++ (W_C cI cJ cZ cO ac_ ct.1 ct.2.1 ct.2.2.1 ct.2.2.2.1 ct.2.2.2.2.1 ct.2.2.2.2.2.1 ct.2.2.2.2.2.2.1 ct.2.2.2.2.2.2.2 ++ (W_H cI cJ cZ cO ah ahs_8 r_8.1 r_8.2.1 r_8.2.2.1 r_8.2.2.2.1 r_8.2.2.2.2.1 r_8.2.2.2.2.2.1 r_8.2.2.2.2.2.2 ++ (W_L cI cJ cZ cO al lt.1 lt.2.1 lt.2.2.1 lt.2.2.2 ++ (W_A cI cJ cZ cO aac ac.1 ac.2.1 ac.2.2 ++ (W_BN cI cJ cZ cO ab bn))))))) (As := [.ref (ac_ 0)]) (b := ah 0) (st := []) C0 (c_X3_record l dC dI cI cJ cZ cO ac_ ah ahs N ct hi  r_8 hc_8) rfl 1 gX7_tune_X3_record (by decide +kernel) ⟨Nat.le_of_ble_eq_true rfl, Nat.le_of_ble_eq_true rfl⟩ rfl 8 3 rfl rfl  ⟨_, (pr (pt (pte (pr (pr pr1))))), fun _ => (pr (pt (pte (pr (pr pr1)))))⟩ rfl (Nat.le_of_ble_eq_true rfl) dX7_tune_8 rfl ⟨Nat.zero_le _, Nat.zero_le _⟩ (fun ahs_8 _ => ?_)
  refine V.world (ws' := (W_BO cI cJ cZ cO ab ac_ atr ah ap al abc aac anb ++ (W_C cI cJ cZ cO ac_ ct.1 ct.2.1 ct.2.2.1 ct.2.2.2.1 ct.2.2.2.2.1 ct.2.2.2.2.2.1 ct.2.2.2.2.2.2.1 ct.2.2.2.2.2.2.2 ++ (W_H cI cJ cZ cO ah ahs_8 r_8.1 r_8.2.1 r_8.2.2.1 r_8.2.2.2.1 r_8.2.2.2.2.1 r_8.2.2.2.2.2.1 r_8.2.2.2.2.2.2 ++ (W_L cI cJ cZ cO al lt.1 lt.2.1 lt.2.2.1 lt.2.2.2 ++ (W_A cI cJ cZ cO aac ac.1 ac.2.1 ac.2.2 ++ (W_BN cI cJ cZ cO ab bn))))))) rfl ?_
  refine V_aload_n C0 dX7_tune_11 0 rfl rfl ?_
  obtain ⟨r_12, hc_12, hf⟩ := bind_inv hf
  refine V_cVV (ws' := (W_BO cI cJ cZ cO ab ac_ atr ah ap al abc aac anb ++ (W_C cI cJ cZ cO ac_ ct.1 ct.2.1 ct.2.2.1 ct.2.2.2.1 ct.2.2.2.2.1 ct.2.2.2.2.2.1 ct.2.2.2.2.2.2.1 ct.2.2.2.2.2.2.2 ++ (W_H cI cJ cZ cO ah ahs_8 r_8.1 r_8.2.1 r_8.2.2.1 r_8.2.2.2.1 r_8.2.2.2.2.1 r_8.2.2.2.2.2.1 r_8.2.2.2.2.2.2 ++ (W_L cI cJ cZ cO al r_12.1.1 r_12.1.2.1 r_12.1.2.2.1 r_12.1.2.2.2 ++ (W_A cI cJ cZ cO aac r_12.2.1.1 r_12.2.1.2.1 r_12.2.1.2.2 ++ (W_BN cI cJ cZ cO ab r_12.2.2))))))) (As := []) (b := ab 0) (st := []) C0 (c_X7_bearAll l dC dI cI cJ cZ cO ab ac_ atr ah ap al abc aac anb N ct lt ac bn  r_12 hc_12) rfl 0 gX7_tune_X7_bearAll (by decide +kernel) ⟨Nat.le_of_ble_eq_true rfl, Nat.le_of_ble_eq_true rfl⟩ rfl 0 7 rfl rfl  ⟨_, (pt (pt (pr (pt (pt pt1))))), fun _ => (pt (pt (pr (pt (pt pt1)))))⟩ rfl (Nat.le_of_ble_eq_true rfl) dX7_tune_12 rfl ⟨Nat.zero_le _, Nat.zero_le _⟩ ?_
  refine V_iconst (v := 0) C0 dX7_tune_15 (by decide) rfl ?_
  refine V_istore_n (lv' := [(1, .int 0), (0, .ref (ab 0))]) C0 dX7_tune_16 rfl (by decide) rfl rfl ?_
  refine V_iconst (v := 0) C0 dX7_tune_17 (by decide) rfl ?_
  refine V_istore_n (lv' := [(2, .int 0), (1, .int 0), (0, .ref (ab 0))]) C0 dX7_tune_18 rfl (by decide) rfl rfl ?_
  have hL19 : ∀ (ct : CV) (hi : HV) (lt : LV) (ac : AV) (bn : (Nat → Int32)) (K : Int32 → Option (Int32 × CV × HV × LV × AV × (Nat → Int32))), (∀ (x1 : Int32), K x1 = some o → V p l e RM_X7_tune s m ([.ref (ab 0)] : List Value).toArray below meth c 5 (dC, dI) A (MQ below (va_Qi (fun r (_ : Nat → Nat → Nat) => r = o.1) (PostW (dC, dI) (TY cI cJ cZ cO) A (fun (ahs : Nat → Nat → Nat) => (W_BO cI cJ cZ cO ab ac_ atr ah ap al abc aac anb ++ (W_C cI cJ cZ cO ac_ o.2.1.1 o.2.1.2.1 o.2.1.2.2.1 o.2.1.2.2.2.1 o.2.1.2.2.2.2.1 o.2.1.2.2.2.2.2.1 o.2.1.2.2.2.2.2.2.1 o.2.1.2.2.2.2.2.2.2 ++ (W_H cI cJ cZ cO ah ahs o.2.2.1.1 o.2.2.1.2.1 o.2.2.1.2.2.1 o.2.2.1.2.2.2.1 o.2.2.1.2.2.2.2.1 o.2.2.1.2.2.2.2.2.1 o.2.2.1.2.2.2.2.2.2 ++ (W_L cI cJ cZ cO al o.2.2.2.1.1 o.2.2.2.1.2.1 o.2.2.2.1.2.2.1 o.2.2.2.1.2.2.2 ++ (W_A cI cJ cZ cO aac o.2.2.2.2.1.1 o.2.2.2.2.1.2.1 o.2.2.2.2.1.2.2 ++ (W_BN cI cJ cZ cO ab o.2.2.2.2.2)))))))) A) ([.ref (ab 0)] : List Value).toArray s 0 0 A) 0 0 (W_BO cI cJ cZ cO ab ac_ atr ah ap al abc aac anb ++ (W_C cI cJ cZ cO ac_ ct.1 ct.2.1 ct.2.2.1 ct.2.2.2.1 ct.2.2.2.2.1 ct.2.2.2.2.2.1 ct.2.2.2.2.2.2.1 ct.2.2.2.2.2.2.2 ++ (W_H cI cJ cZ cO ah ahs_8 hi.1 hi.2.1 hi.2.2.1 hi.2.2.2.1 hi.2.2.2.2.1 hi.2.2.2.2.2.1 hi.2.2.2.2.2.2 ++ (W_L cI cJ cZ cO al lt.1 lt.2.1 lt.2.2.1 lt.2.2.2 ++ (W_A cI cJ cZ cO aac ac.1 ac.2.1 ac.2.2 ++ (W_BN cI cJ cZ cO ab bn)))))) 47 [(0, .ref (ab 0)), (1, .int x1)] []) → ∀ (n : Nat) (x1 : Int32) (x2 : Int32), f_X7_tune_L19 N  ct hi lt ac bn K n x1 x2 = some o → V p l e RM_X7_tune s m ([.ref (ab 0)] : List Value).toArray below meth c 5 (dC, dI) A (MQ below (va_Qi (fun r (_ : Nat → Nat → Nat) => r = o.1) (PostW (dC, dI) (TY cI cJ cZ cO) A (fun (ahs : Nat → Nat → Nat) => (W_BO cI cJ cZ cO ab ac_ atr ah ap al abc aac anb ++ (W_C cI cJ cZ cO ac_ o.2.1.1 o.2.1.2.1 o.2.1.2.2.1 o.2.1.2.2.2.1 o.2.1.2.2.2.2.1 o.2.1.2.2.2.2.2.1 o.2.1.2.2.2.2.2.2.1 o.2.1.2.2.2.2.2.2.2 ++ (W_H cI cJ cZ cO ah ahs o.2.2.1.1 o.2.2.1.2.1 o.2.2.1.2.2.1 o.2.2.1.2.2.2.1 o.2.2.1.2.2.2.2.1 o.2.2.1.2.2.2.2.2.1 o.2.2.1.2.2.2.2.2.2 ++ (W_L cI cJ cZ cO al o.2.2.2.1.1 o.2.2.2.1.2.1 o.2.2.2.1.2.2.1 o.2.2.2.1.2.2.2 ++ (W_A cI cJ cZ cO aac o.2.2.2.2.1.1 o.2.2.2.2.1.2.1 o.2.2.2.2.1.2.2 ++ (W_BN cI cJ cZ cO ab o.2.2.2.2.2)))))))) A) ([.ref (ab 0)] : List Value).toArray s 0 0 A) 0 0 (W_BO cI cJ cZ cO ab ac_ atr ah ap al abc aac anb ++ (W_C cI cJ cZ cO ac_ ct.1 ct.2.1 ct.2.2.1 ct.2.2.2.1 ct.2.2.2.2.1 ct.2.2.2.2.2.1 ct.2.2.2.2.2.2.1 ct.2.2.2.2.2.2.2 ++ (W_H cI cJ cZ cO ah ahs_8 hi.1 hi.2.1 hi.2.2.1 hi.2.2.2.1 hi.2.2.2.2.1 hi.2.2.2.2.2.1 hi.2.2.2.2.2.2 ++ (W_L cI cJ cZ cO al lt.1 lt.2.1 lt.2.2.1 lt.2.2.2 ++ (W_A cI cJ cZ cO aac ac.1 ac.2.1 ac.2.2 ++ (W_BN cI cJ cZ cO ab bn)))))) 19 [(0, .ref (ab 0)), (1, .int x1), (2, .int x2)] [] := by
    intro ct hi lt ac bn K hK n
    induction n with
    | zero => intro x1 x2 hf; cases hf
    | succ n hREC =>
      intro x1 x2 hf
      rw [f_X7_tune_L19] at hf
      refine V_iload_n C0 dX7_tune_19 2 rfl rfl ?_
      refine V_aload_n C0 dX7_tune_20 0 rfl rfl ?_
      refine V_get C0 fl_X7_tune_10 0 rfl rfl dX7_tune_21 rfl ?_
      refine V_get C0 fl_X7_tune_96 1 rfl rfl dX7_tune_24 rfl ?_
      refine V_icmp_ge (tgt := 47) C0 dX7_tune_27 (by decide) rfl (fun c27 => ?_) (fun c27 => ?_)
      · have hf := ite_t c27 hf
        exact V.sub [0, 1] rfl (hK x1 hf)
      · have hf := ite_f c27 hf
        refine V_iload_n C0 dX7_tune_30 1 rfl rfl ?_
        refine V_aload_n C0 dX7_tune_31 0 rfl rfl ?_
        refine V_get C0 fl_X7_tune_69 0 rfl rfl dX7_tune_32 rfl ?_
        refine V_iload_n C0 dX7_tune_35 2 rfl rfl ?_
        obtain ⟨hi36, hf⟩ := ck_inv hf
        refine V_iald C0 60 0 rfl rfl hi36 dX7_tune_36 rfl ?_
        refine V_mmax C0 (by decide +kernel) (by decide +kernel) (by decide +kernel) (by decide +kernel) (Nat.le_of_ble_eq_true rfl) (Nat.le_of_ble_eq_true rfl) (Nat.zero_le _) (Nat.zero_le _) dX7_tune_37 rfl ?_
        refine V_topi (fun x1_1 ex1_1 => ?_)
        have hf := bd_inv ex1_1 hf
        refine V_istore_n (lv' := [(1, .int x1_1), (0, .ref (ab 0)), (2, .int x2)]) C0 dX7_tune_40 rfl (by decide) rfl rfl ?_
        refine V_iinc (k := 2) (v := x2 + 1) (lv' := [(2, .int (x2 + 1)), (1, .int x1_1), (0, .ref (ab 0))]) C0 dX7_tune_41 rfl rfl (by decide) rfl rfl ?_
        refine V_goto (tgt := 19) C0 dX7_tune_44 (by decide) ?_
        exact V.sub [2, 1, 0] rfl (hREC x1_1 (x2 + 1) hf)
  refine V.sub [2, 1, 0] rfl (hL19 ct r_8 r_12.1 r_12.2.1 r_12.2.2 _ ?_ N 0 0 hf)
  intro x1_19 hf
  refine V_iconst (v := 0) C0 dX7_tune_47 (by decide) rfl ?_
  refine V_istore_n (lv' := [(2, .int 0), (0, .ref (ab 0)), (1, .int x1_19)]) C0 dX7_tune_48 rfl (by decide) rfl rfl ?_
  refine V_iconst (v := 0) C0 dX7_tune_49 (by decide) rfl ?_
  refine V_istore_n (lv' := [(3, .int 0), (2, .int 0), (0, .ref (ab 0)), (1, .int x1_19)]) C0 dX7_tune_50 rfl (by decide) rfl rfl ?_
  have hL51 : ∀ (x1 : Int32) (hi : HV) (lt : LV) (ac : AV) (bn : (Nat → Int32)) (K : Int32 → CV → Option (Int32 × CV × HV × LV × AV × (Nat → Int32))), (∀ (x2 : Int32) (ct : CV), K x2 ct = some o → V p l e RM_X7_tune s m ([.ref (ab 0)] : List Value).toArray below meth c 5 (dC, dI) A (MQ below (va_Qi (fun r (_ : Nat → Nat → Nat) => r = o.1) (PostW (dC, dI) (TY cI cJ cZ cO) A (fun (ahs : Nat → Nat → Nat) => (W_BO cI cJ cZ cO ab ac_ atr ah ap al abc aac anb ++ (W_C cI cJ cZ cO ac_ o.2.1.1 o.2.1.2.1 o.2.1.2.2.1 o.2.1.2.2.2.1 o.2.1.2.2.2.2.1 o.2.1.2.2.2.2.2.1 o.2.1.2.2.2.2.2.2.1 o.2.1.2.2.2.2.2.2.2 ++ (W_H cI cJ cZ cO ah ahs o.2.2.1.1 o.2.2.1.2.1 o.2.2.1.2.2.1 o.2.2.1.2.2.2.1 o.2.2.1.2.2.2.2.1 o.2.2.1.2.2.2.2.2.1 o.2.2.1.2.2.2.2.2.2 ++ (W_L cI cJ cZ cO al o.2.2.2.1.1 o.2.2.2.1.2.1 o.2.2.2.1.2.2.1 o.2.2.2.1.2.2.2 ++ (W_A cI cJ cZ cO aac o.2.2.2.2.1.1 o.2.2.2.2.1.2.1 o.2.2.2.2.1.2.2 ++ (W_BN cI cJ cZ cO ab o.2.2.2.2.2)))))))) A) ([.ref (ab 0)] : List Value).toArray s 0 0 A) 0 0 (W_BO cI cJ cZ cO ab ac_ atr ah ap al abc aac anb ++ (W_C cI cJ cZ cO ac_ ct.1 ct.2.1 ct.2.2.1 ct.2.2.2.1 ct.2.2.2.2.1 ct.2.2.2.2.2.1 ct.2.2.2.2.2.2.1 ct.2.2.2.2.2.2.2 ++ (W_H cI cJ cZ cO ah ahs_8 hi.1 hi.2.1 hi.2.2.1 hi.2.2.2.1 hi.2.2.2.2.1 hi.2.2.2.2.2.1 hi.2.2.2.2.2.2 ++ (W_L cI cJ cZ cO al lt.1 lt.2.1 lt.2.2.1 lt.2.2.2 ++ (W_A cI cJ cZ cO aac ac.1 ac.2.1 ac.2.2 ++ (W_BN cI cJ cZ cO ab bn)))))) 119 [(2, .int x2)] []) → ∀ (n : Nat) (x2 : Int32) (x3 : Int32) (ct : CV), f_X7_tune_L51 N  x1 hi lt ac bn K n x2 x3 ct = some o → V p l e RM_X7_tune s m ([.ref (ab 0)] : List Value).toArray below meth c 5 (dC, dI) A (MQ below (va_Qi (fun r (_ : Nat → Nat → Nat) => r = o.1) (PostW (dC, dI) (TY cI cJ cZ cO) A (fun (ahs : Nat → Nat → Nat) => (W_BO cI cJ cZ cO ab ac_ atr ah ap al abc aac anb ++ (W_C cI cJ cZ cO ac_ o.2.1.1 o.2.1.2.1 o.2.1.2.2.1 o.2.1.2.2.2.1 o.2.1.2.2.2.2.1 o.2.1.2.2.2.2.2.1 o.2.1.2.2.2.2.2.2.1 o.2.1.2.2.2.2.2.2.2 ++ (W_H cI cJ cZ cO ah ahs o.2.2.1.1 o.2.2.1.2.1 o.2.2.1.2.2.1 o.2.2.1.2.2.2.1 o.2.2.1.2.2.2.2.1 o.2.2.1.2.2.2.2.2.1 o.2.2.1.2.2.2.2.2.2 ++ (W_L cI cJ cZ cO al o.2.2.2.1.1 o.2.2.2.1.2.1 o.2.2.2.1.2.2.1 o.2.2.2.1.2.2.2 ++ (W_A cI cJ cZ cO aac o.2.2.2.2.1.1 o.2.2.2.2.1.2.1 o.2.2.2.2.1.2.2 ++ (W_BN cI cJ cZ cO ab o.2.2.2.2.2)))))))) A) ([.ref (ab 0)] : List Value).toArray s 0 0 A) 0 0 (W_BO cI cJ cZ cO ab ac_ atr ah ap al abc aac anb ++ (W_C cI cJ cZ cO ac_ ct.1 ct.2.1 ct.2.2.1 ct.2.2.2.1 ct.2.2.2.2.1 ct.2.2.2.2.2.1 ct.2.2.2.2.2.2.1 ct.2.2.2.2.2.2.2 ++ (W_H cI cJ cZ cO ah ahs_8 hi.1 hi.2.1 hi.2.2.1 hi.2.2.2.1 hi.2.2.2.2.1 hi.2.2.2.2.2.1 hi.2.2.2.2.2.2 ++ (W_L cI cJ cZ cO al lt.1 lt.2.1 lt.2.2.1 lt.2.2.2 ++ (W_A cI cJ cZ cO aac ac.1 ac.2.1 ac.2.2 ++ (W_BN cI cJ cZ cO ab bn)))))) 51 [(0, .ref (ab 0)), (1, .int x1), (2, .int x2), (3, .int x3)] [] := by
    intro x1 hi lt ac bn K hK n
    induction n with
    | zero => intro x2 x3 ct hf; cases hf
    | succ n hREC =>
      intro x2 x3 ct hf
      rw [f_X7_tune_L51] at hf
      refine V_iload_n C0 dX7_tune_51 3 rfl rfl ?_
      refine V_aload_n C0 dX7_tune_52 0 rfl rfl ?_
      refine V_get C0 fl_X7_tune_10 0 rfl rfl dX7_tune_53 rfl ?_
      refine V_get C0 fl_X7_tune_96 1 rfl rfl dX7_tune_56 rfl ?_
      refine V_icmp_ge (tgt := 119) C0 dX7_tune_59 (by decide) rfl (fun c59 => ?_) (fun c59 => ?_)
      · have hf := ite_t c59 hf
        exact V.sub [2] rfl (hK x2 ct hf)
      · have hf := ite_f c59 hf
        refine V_iload_n C0 dX7_tune_62 1 rfl rfl ?_
        refine jn_elim hf (fun (J : Int32 → Option (Int32 × CV × HV × LV × AV × (Nat → Int32))) => ∀ (s0_83 : Int32), J s0_83 = some o → V p l e RM_X7_tune s m ([.ref (ab 0)] : List Value).toArray below meth c 5 (dC, dI) A (MQ below (va_Qi (fun r (_ : Nat → Nat → Nat) => r = o.1) (PostW (dC, dI) (TY cI cJ cZ cO) A (fun (ahs : Nat → Nat → Nat) => (W_BO cI cJ cZ cO ab ac_ atr ah ap al abc aac anb ++ (W_C cI cJ cZ cO ac_ o.2.1.1 o.2.1.2.1 o.2.1.2.2.1 o.2.1.2.2.2.1 o.2.1.2.2.2.2.1 o.2.1.2.2.2.2.2.1 o.2.1.2.2.2.2.2.2.1 o.2.1.2.2.2.2.2.2.2 ++ (W_H cI cJ cZ cO ah ahs o.2.2.1.1 o.2.2.1.2.1 o.2.2.1.2.2.1 o.2.2.1.2.2.2.1 o.2.2.1.2.2.2.2.1 o.2.2.1.2.2.2.2.2.1 o.2.2.1.2.2.2.2.2.2 ++ (W_L cI cJ cZ cO al o.2.2.2.1.1 o.2.2.2.1.2.1 o.2.2.2.1.2.2.1 o.2.2.2.1.2.2.2 ++ (W_A cI cJ cZ cO aac o.2.2.2.2.1.1 o.2.2.2.2.1.2.1 o.2.2.2.2.1.2.2 ++ (W_BN cI cJ cZ cO ab o.2.2.2.2.2)))))))) A) ([.ref (ab 0)] : List Value).toArray s 0 0 A) 0 0 (W_BO cI cJ cZ cO ab ac_ atr ah ap al abc aac anb ++ (W_C cI cJ cZ cO ac_ ct.1 ct.2.1 ct.2.2.1 ct.2.2.2.1 ct.2.2.2.2.1 ct.2.2.2.2.2.1 ct.2.2.2.2.2.2.1 ct.2.2.2.2.2.2.2 ++ (W_H cI cJ cZ cO ah ahs_8 hi.1 hi.2.1 hi.2.2.1 hi.2.2.2.1 hi.2.2.2.2.1 hi.2.2.2.2.2.1 hi.2.2.2.2.2.2 ++ (W_L cI cJ cZ cO al lt.1 lt.2.1 lt.2.2.1 lt.2.2.2 ++ (W_A cI cJ cZ cO aac ac.1 ac.2.1 ac.2.2 ++ (W_BN cI cJ cZ cO ab bn)))))) 83 [(0, .ref (ab 0)), (1, .int x1), (2, .int x2), (3, .int x3)] [.int s0_83]) ?_ ?_
        · intro s0_83 hf
          refine V_istore (lv' := [(4, .int s0_83), (0, .ref (ab 0)), (1, .int x1), (2, .int x2), (3, .int x3)]) C0 dX7_tune_83 (by decide) rfl rfl ?_
          refine V_aload_n C0 dX7_tune_85 1 rfl rfl ?_
          refine V_get C0 fl_X7_tune_10 0 rfl rfl dX7_tune_86 rfl ?_
          refine V_get C0 fl_X7_tune_103 1 rfl rfl dX7_tune_89 rfl ?_
          refine V_iload_n C0 dX7_tune_92 4 rfl rfl ?_
          obtain ⟨hi93, hf⟩ := ck_inv hf
          refine V_iald C0 4 0 rfl rfl hi93 dX7_tune_93 rfl ?_
          refine V_iload C0 dX7_tune_94 0 rfl rfl ?_
          refine V_icmp_eq (tgt := 113) C0 dX7_tune_96 (by decide) rfl (fun c96 => ?_) (fun c96 => ?_)
          · have hf := ite_t c96 hf
            refine V_iinc (k := 4) (v := x3 + 1) (lv' := [(3, .int (x3 + 1)), (4, .int s0_83), (0, .ref (ab 0)), (1, .int x1), (2, .int x2)]) C0 dX7_tune_113 rfl rfl (by decide) rfl rfl ?_
            refine V_goto (tgt := 51) C0 dX7_tune_116 (by decide) ?_
            exact V.sub [2, 3, 4, 0] rfl (hREC x2 (x3 + 1) ct hf)
          · have hf := ite_f c96 hf
            refine V_aload_n C0 dX7_tune_99 1 rfl rfl ?_
            refine V_get C0 fl_X7_tune_10 0 rfl rfl dX7_tune_100 rfl ?_
            refine V_get C0 fl_X7_tune_103 1 rfl rfl dX7_tune_103 rfl ?_
            refine V_iload_n C0 dX7_tune_106 4 rfl rfl ?_
            refine V_iload C0 dX7_tune_107 0 rfl rfl ?_
            obtain ⟨hi109, hf⟩ := ck_inv hf
            refine V_iast (ws' := (W_BO cI cJ cZ cO ab ac_ atr ah ap al abc aac anb ++ (W_C cI cJ cZ cO ac_ ct.1 ct.2.1 ct.2.2.1 (upd ct.2.2.2.1 (x3.toNatClampNeg) s0_83) ct.2.2.2.2.1 ct.2.2.2.2.2.1 ct.2.2.2.2.2.2.1 ct.2.2.2.2.2.2.2 ++ (W_H cI cJ cZ cO ah ahs_8 hi.1 hi.2.1 hi.2.2.1 hi.2.2.2.1 hi.2.2.2.2.1 hi.2.2.2.2.2.1 hi.2.2.2.2.2.2 ++ (W_L cI cJ cZ cO al lt.1 lt.2.1 lt.2.2.1 lt.2.2.2 ++ (W_A cI cJ cZ cO aac ac.1 ac.2.1 ac.2.2 ++ (W_BN cI cJ cZ cO ab bn))))))) C0 4 0 rfl rfl hi109 dX7_tune_109 rfl rfl ?_
            refine V_iinc (k := 3) (v := x2 + 1) (lv' := [(2, .int (x2 + 1)), (4, .int s0_83), (0, .ref (ab 0)), (1, .int x1), (3, .int x3)]) C0 dX7_tune_110 rfl rfl (by decide) rfl rfl ?_
            refine V_iinc (k := 4) (v := x3 + 1) (lv' := [(3, .int (x3 + 1)), (2, .int (x2 + 1)), (4, .int s0_83), (0, .ref (ab 0)), (1, .int x1)]) C0 dX7_tune_113 rfl rfl (by decide) rfl rfl ?_
            refine V_goto (tgt := 51) C0 dX7_tune_116 (by decide) ?_
            exact V.sub [3, 4, 1, 0] rfl (hREC (x2 + 1) (x3 + 1) ((ct.1, ct.2.1, ct.2.2.1, upd ct.2.2.2.1 (x3.toNatClampNeg) s0_83, ct.2.2.2.2.1, ct.2.2.2.2.2.1, ct.2.2.2.2.2.2.1, ct.2.2.2.2.2.2.2)) hf)
        · intro J83 hJ83 hf
          refine V_if_le (tgt := 82) C0 dX7_tune_63 (by decide) rfl (fun c63 => ?_) (fun c63 => ?_)
          · have hf := ite_t c63 hf
            refine V_iconst (v := 1) C0 dX7_tune_82 (by decide) rfl ?_
            exact V.sub [0, 1, 2, 3] rfl (hJ83 1 hf)
          · have hf := ite_f c63 hf
            refine V_iconst (v := 1) C0 dX7_tune_66 (by decide) rfl ?_
            refine V_bipush (v := 8) C0 dX7_tune_67 (by decide) rfl ?_
            refine V_aload_n C0 dX7_tune_69 0 rfl rfl ?_
            refine V_get C0 fl_X7_tune_69 0 rfl rfl dX7_tune_70 rfl ?_
            refine V_iload_n C0 dX7_tune_73 3 rfl rfl ?_
            obtain ⟨hi74, hf⟩ := ck_inv hf
            refine V_iald C0 60 0 rfl rfl hi74 dX7_tune_74 rfl ?_
            refine V_imul C0 dX7_tune_75 rfl ?_
            refine V_iload_n C0 dX7_tune_76 1 rfl rfl ?_
            obtain ⟨hz77, hf⟩ := nzI_inv hf
            refine V_idiv C0 dX7_tune_77 hz77 rfl ?_
            refine V_iadd C0 dX7_tune_78 rfl ?_
            refine V_goto (tgt := 83) C0 dX7_tune_79 (by decide) ?_
            exact V.sub [0, 1, 2, 3] rfl (hJ83 (1 + ((8 * (bn (x3.toNatClampNeg))) / x1)) hf)
  refine V.sub [2, 3, 1, 0] rfl (hL51 x1_19 r_8 r_12.1 r_12.2.1 r_12.2.2 _ ?_ N 0 0 ct hf)
  intro x2_51 ct_51 hf
  refine V_iload_n C0 dX7_tune_119 0 rfl rfl ?_
  obtain rfl := some_inv hf
  exact V_iret C0 ahs_8 rfl rfl dX7_tune_120
abbrev RM_X7_loseEach : Room := { frames := 5, cells := 0, slots := 0, locals := 119 }
theorem in_X7_loseEach_X2 : ∀ w ∈ u_ws RX2 TX2 8, w ∈ wsX7_loseEach := by decide +kernel
theorem in_X7_loseEach_X7 : ∀ w ∈ u_ws RX7 TX7 12, w ∈ wsX7_loseEach := by decide +kernel
theorem fl_X7_loseEach_10 : FL RX7 wsX7_loseEach 7 10 0 RX7 TX7 12 := ⟨in_X7_loseEach_X7, rfl, by decide, by decide +kernel, rfl⟩
theorem fl_X7_loseEach_44 : FL RX7 wsX7_loseEach 7 44 6 RX7 TX7 12 := ⟨in_X7_loseEach_X7, rfl, by decide, by decide +kernel, rfl⟩
theorem fl_X7_loseEach_51 : FL RX7 wsX7_loseEach 7 51 7 RX7 TX7 12 := ⟨in_X7_loseEach_X7, rfl, by decide, by decide +kernel, rfl⟩
theorem fl_X7_loseEach_73 : FL RX7 wsX7_loseEach 7 73 11 RX7 TX7 12 := ⟨in_X7_loseEach_X7, rfl, by decide, by decide +kernel, rfl⟩
theorem fl_X7_loseEach_96 : FL RX7 wsX7_loseEach 2 96 0 RX2 TX2 8 := ⟨in_X7_loseEach_X2, rfl, by decide, by decide +kernel, rfl⟩
theorem fl_X7_loseEach_113 : FL RX7 wsX7_loseEach 2 113 4 RX2 TX2 8 := ⟨in_X7_loseEach_X2, rfl, by decide, by decide +kernel, rfl⟩
theorem fl_X7_loseEach_123 : FL RX7 wsX7_loseEach 2 123 6 RX2 TX2 8 := ⟨in_X7_loseEach_X2, rfl, by decide, by decide +kernel, rfl⟩
set_option maxRecDepth 100000 in
set_option maxHeartbeats 4000000 in
theorem c_X7_loseEach (l : Launch) (dC : Nat → ClassId) (dI : Nat → Nat → Nat) (cI cJ cZ cO : ClassId) (ab : Nat → Nat) (ac_ : Nat → Nat) (atr : Nat → Nat) (ah : Nat → Nat) (ap : Nat → Nat) (al : Nat → Nat) (abc : Nat → Nat) (aac : Nat → Nat) (anb : Nat → Nat) (N : Nat) (ct : CV) (lt : LV) (bc : BV) (cw : (Nat → Int32)) (o : LV × BV × (Nat → Int32)) (hf : f_X7_loseEach N ct lt bc cw = some o) : MetV l yX7_loseEach wsX7_loseEach RM_X7_loseEach (dC, dI) (TY cI cJ cZ cO) [.ref (ab 0)] (W_BO cI cJ cZ cO ab ac_ atr ah ap al abc aac anb ++ (W_C cI cJ cZ cO ac_ ct.1 ct.2.1 ct.2.2.1 ct.2.2.2.1 ct.2.2.2.2.1 ct.2.2.2.2.2.1 ct.2.2.2.2.2.2.1 ct.2.2.2.2.2.2.2 ++ (W_L cI cJ cZ cO al lt.1 lt.2.1 lt.2.2.1 lt.2.2.2 ++ (W_B cI cJ cZ cO abc bc.1 bc.2.1 bc.2.2.1 bc.2.2.2.1 bc.2.2.2.2.1 bc.2.2.2.2.2.1 bc.2.2.2.2.2.2.1 bc.2.2.2.2.2.2.2 ++ (W_CW cI cJ cZ cO ab cw))))) (fun _ : Unit => True) (fun _ => (W_BO cI cJ cZ cO ab ac_ atr ah ap al abc aac anb ++ (W_C cI cJ cZ cO ac_ ct.1 ct.2.1 ct.2.2.1 ct.2.2.2.1 ct.2.2.2.2.1 ct.2.2.2.2.2.1 ct.2.2.2.2.2.2.1 ct.2.2.2.2.2.2.2 ++ (W_L cI cJ cZ cO al o.1.1 o.1.2.1 o.1.2.2.1 o.1.2.2.2 ++ (W_B cI cJ cZ cO abc o.2.1.1 o.2.1.2.1 o.2.1.2.2.1 o.2.1.2.2.2.1 o.2.1.2.2.2.2.1 o.2.1.2.2.2.2.2.1 o.2.1.2.2.2.2.2.2.1 o.2.1.2.2.2.2.2.2.2 ++ (W_CW cI cJ cZ cO ab o.2.2)))))) := by
  refine MetV.ofV (cc := cX7_loseEach) (maxL := 3) (ret := none) (own := RX7) (lv0 := [(0, .ref (ab 0))]) (by decide) rfl rfl (Nat.le_of_ble_eq_true rfl) rfl ?_
  intro p e s m below meth c A C0 _
  unfold f_X7_loseEach at hf
  refine V_aload_n C0 dX7_loseEach_0 0 rfl rfl ?_
  refine V_get C0 fl_X7_loseEach_73 0 rfl rfl dX7_loseEach_1 rfl ?_
  refine V_iconst (v := 0) C0 dX7_loseEach_4 (by decide) rfl ?_
  obtain ⟨r_5, hc_5, hf⟩ := bind_inv hf
  refine V_cSV (ws' := (W_BO cI cJ cZ cO ab ac_ atr ah ap al abc aac anb ++ (W_C cI cJ cZ cO ac_ ct.1 ct.2.1 ct.2.2.1 ct.2.2.2.1 ct.2.2.2.2.1 ct.2.2.2.2.2.1 ct.2.2.2.2.2.2.1 ct.2.2.2.2.2.2.2 ++ (W_L cI cJ cZ cO al lt.1 lt.2.1 lt.2.2.1 lt.2.2.2 ++ (W_B cI cJ cZ cO abc bc.1 bc.2.1 bc.2.2.1 bc.2.2.2.1 bc.2.2.2.2.1 bc.2.2.2.2.2.1 bc.2.2.2.2.2.2.1 bc.2.2.2.2.2.2.2 ++ (W_CW cI cJ cZ cO ab r_5)))))) (As := [.ref (ab 4), .int 0]) (st := []) C0 (c_J7_fill_53178 l dC dI cI cJ cZ cO (fun _ => ab 4) N 16 cw 0 r_5 hc_5) rfl 2 gX7_loseEach_J7_fill_53178 (by decide +kernel) ⟨Nat.le_of_ble_eq_true rfl, Nat.le_of_ble_eq_true rfl⟩ rfl  ⟨_, (pr (pr (pr (pr pt1)))), fun _ => (pr (pr (pr (pr pt1))))⟩ rfl (Nat.le_of_ble_eq_true rfl) dX7_loseEach_5 rfl ⟨Nat.zero_le _, Nat.zero_le _⟩ ?_
  refine V_iconst (v := 0) C0 dX7_loseEach_8 (by decide) rfl ?_
  refine V_istore_n (lv' := [(1, .int 0), (0, .ref (ab 0))]) C0 dX7_loseEach_9 rfl (by decide) rfl rfl ?_
  have hL10 : ∀ (K : LV → BV → (Nat → Int32) → Option (LV × BV × (Nat → Int32))), (∀ (lt : LV) (bc : BV) (cw : (Nat → Int32)), K lt bc cw = some o → V p l e RM_X7_loseEach s m ([.ref (ab 0)] : List Value).toArray below meth c 3 (dC, dI) A (MQ below (va_Qv (fun _ : Unit => True) (PostW (dC, dI) (TY cI cJ cZ cO) A (fun _ => (W_BO cI cJ cZ cO ab ac_ atr ah ap al abc aac anb ++ (W_C cI cJ cZ cO ac_ ct.1 ct.2.1 ct.2.2.1 ct.2.2.2.1 ct.2.2.2.2.1 ct.2.2.2.2.2.1 ct.2.2.2.2.2.2.1 ct.2.2.2.2.2.2.2 ++ (W_L cI cJ cZ cO al o.1.1 o.1.2.1 o.1.2.2.1 o.1.2.2.2 ++ (W_B cI cJ cZ cO abc o.2.1.1 o.2.1.2.1 o.2.1.2.2.1 o.2.1.2.2.2.1 o.2.1.2.2.2.2.1 o.2.1.2.2.2.2.2.1 o.2.1.2.2.2.2.2.2.1 o.2.1.2.2.2.2.2.2.2 ++ (W_CW cI cJ cZ cO ab o.2.2))))))) A) ([.ref (ab 0)] : List Value).toArray s 0 0 A) 0 0 (W_BO cI cJ cZ cO ab ac_ atr ah ap al abc aac anb ++ (W_C cI cJ cZ cO ac_ ct.1 ct.2.1 ct.2.2.1 ct.2.2.2.1 ct.2.2.2.2.1 ct.2.2.2.2.2.1 ct.2.2.2.2.2.2.1 ct.2.2.2.2.2.2.2 ++ (W_L cI cJ cZ cO al lt.1 lt.2.1 lt.2.2.1 lt.2.2.2 ++ (W_B cI cJ cZ cO abc bc.1 bc.2.1 bc.2.2.1 bc.2.2.2.1 bc.2.2.2.2.1 bc.2.2.2.2.2.1 bc.2.2.2.2.2.2.1 bc.2.2.2.2.2.2.2 ++ (W_CW cI cJ cZ cO ab cw))))) 96 [] []) → ∀ (n : Nat) (x1 : Int32) (lt : LV) (bc : BV) (cw : (Nat → Int32)), f_X7_loseEach_L10 N ct  K n x1 lt bc cw = some o → V p l e RM_X7_loseEach s m ([.ref (ab 0)] : List Value).toArray below meth c 3 (dC, dI) A (MQ below (va_Qv (fun _ : Unit => True) (PostW (dC, dI) (TY cI cJ cZ cO) A (fun _ => (W_BO cI cJ cZ cO ab ac_ atr ah ap al abc aac anb ++ (W_C cI cJ cZ cO ac_ ct.1 ct.2.1 ct.2.2.1 ct.2.2.2.1 ct.2.2.2.2.1 ct.2.2.2.2.2.1 ct.2.2.2.2.2.2.1 ct.2.2.2.2.2.2.2 ++ (W_L cI cJ cZ cO al o.1.1 o.1.2.1 o.1.2.2.1 o.1.2.2.2 ++ (W_B cI cJ cZ cO abc o.2.1.1 o.2.1.2.1 o.2.1.2.2.1 o.2.1.2.2.2.1 o.2.1.2.2.2.2.1 o.2.1.2.2.2.2.2.1 o.2.1.2.2.2.2.2.2.1 o.2.1.2.2.2.2.2.2.2 ++ (W_CW cI cJ cZ cO ab o.2.2))))))) A) ([.ref (ab 0)] : List Value).toArray s 0 0 A) 0 0 (W_BO cI cJ cZ cO ab ac_ atr ah ap al abc aac anb ++ (W_C cI cJ cZ cO ac_ ct.1 ct.2.1 ct.2.2.1 ct.2.2.2.1 ct.2.2.2.2.1 ct.2.2.2.2.2.1 ct.2.2.2.2.2.2.1 ct.2.2.2.2.2.2.2 ++ (W_L cI cJ cZ cO al lt.1 lt.2.1 lt.2.2.1 lt.2.2.2 ++ (W_B cI cJ cZ cO abc bc.1 bc.2.1 bc.2.2.1 bc.2.2.2.1 bc.2.2.2.2.1 bc.2.2.2.2.2.1 bc.2.2.2.2.2.2.1 bc.2.2.2.2.2.2.2 ++ (W_CW cI cJ cZ cO ab cw))))) 10 [(0, .ref (ab 0)), (1, .int x1)] [] := by
    intro  K hK n
    induction n with
    | zero => intro x1 lt bc cw hf; cases hf
    | succ n hREC =>
      intro x1 lt bc cw hf
      rw [f_X7_loseEach_L10] at hf
      refine V_iload_n C0 dX7_loseEach_10 1 rfl rfl ?_
      refine V_aload_n C0 dX7_loseEach_11 0 rfl rfl ?_
      refine V_get C0 fl_X7_loseEach_10 0 rfl rfl dX7_loseEach_12 rfl ?_
      refine V_get C0 fl_X7_loseEach_113 1 rfl rfl dX7_loseEach_15 rfl ?_
      refine V_icmp_ge (tgt := 96) C0 dX7_loseEach_18 (by decide) rfl (fun c18 => ?_) (fun c18 => ?_)
      · have hf := ite_t c18 hf
        exact V.sub [] rfl (hK lt bc cw hf)
      · have hf := ite_f c18 hf
        refine V_aload_n C0 dX7_loseEach_21 0 rfl rfl ?_
        refine V_get C0 fl_X7_loseEach_44 0 rfl rfl dX7_loseEach_22 rfl ?_
        refine V_aload_n C0 dX7_loseEach_25 0 rfl rfl ?_
        refine V_get C0 fl_X7_loseEach_10 0 rfl rfl dX7_loseEach_26 rfl ?_
        refine V_iload_n C0 dX7_loseEach_29 1 rfl rfl ?_
        obtain ⟨r_30, hc_30, hf⟩ := bind_inv hf
        refine V_cVV (ws' := (W_BO cI cJ cZ cO ab ac_ atr ah ap al abc aac anb ++ (W_C cI cJ cZ cO ac_ ct.1 ct.2.1 ct.2.2.1 ct.2.2.2.1 ct.2.2.2.2.1 ct.2.2.2.2.2.1 ct.2.2.2.2.2.2.1 ct.2.2.2.2.2.2.2 ++ (W_L cI cJ cZ cO al r_30.1 r_30.2.1 r_30.2.2.1 r_30.2.2.2 ++ (W_B cI cJ cZ cO abc bc.1 bc.2.1 bc.2.2.1 bc.2.2.2.1 bc.2.2.2.2.1 bc.2.2.2.2.2.1 bc.2.2.2.2.2.2.1 bc.2.2.2.2.2.2.2 ++ (W_CW cI cJ cZ cO ab cw)))))) (As := [.ref (ac_ 0), .int x1]) (b := al 0) (st := []) C0 (c_X4_read l dC dI cI cJ cZ cO ac_ al N ct lt x1 r_30 hc_30) rfl 2 gX7_loseEach_X4_read (by decide +kernel) ⟨Nat.le_of_ble_eq_true rfl, Nat.le_of_ble_eq_true rfl⟩ rfl 8 4 rfl rfl  ⟨_, (pr (pt (pte (pr pr1)))), fun _ => (pr (pt (pte (pr pr1))))⟩ rfl (Nat.le_of_ble_eq_true rfl) dX7_loseEach_30 rfl ⟨Nat.zero_le _, Nat.zero_le _⟩ ?_
        refine V_iconst (v := 0) C0 dX7_loseEach_33 (by decide) rfl ?_
        refine V_istore_n (lv' := [(2, .int 0), (0, .ref (ab 0)), (1, .int x1)]) C0 dX7_loseEach_34 rfl (by decide) rfl rfl ?_
        have hL35 : ∀ (x1 : Int32) (lt : LV) (K : BV → (Nat → Int32) → Option (LV × BV × (Nat → Int32))), (∀ (bc : BV) (cw : (Nat → Int32)), K bc cw = some o → V p l e RM_X7_loseEach s m ([.ref (ab 0)] : List Value).toArray below meth c 3 (dC, dI) A (MQ below (va_Qv (fun _ : Unit => True) (PostW (dC, dI) (TY cI cJ cZ cO) A (fun _ => (W_BO cI cJ cZ cO ab ac_ atr ah ap al abc aac anb ++ (W_C cI cJ cZ cO ac_ ct.1 ct.2.1 ct.2.2.1 ct.2.2.2.1 ct.2.2.2.2.1 ct.2.2.2.2.2.1 ct.2.2.2.2.2.2.1 ct.2.2.2.2.2.2.2 ++ (W_L cI cJ cZ cO al o.1.1 o.1.2.1 o.1.2.2.1 o.1.2.2.2 ++ (W_B cI cJ cZ cO abc o.2.1.1 o.2.1.2.1 o.2.1.2.2.1 o.2.1.2.2.2.1 o.2.1.2.2.2.2.1 o.2.1.2.2.2.2.2.1 o.2.1.2.2.2.2.2.2.1 o.2.1.2.2.2.2.2.2.2 ++ (W_CW cI cJ cZ cO ab o.2.2))))))) A) ([.ref (ab 0)] : List Value).toArray s 0 0 A) 0 0 (W_BO cI cJ cZ cO ab ac_ atr ah ap al abc aac anb ++ (W_C cI cJ cZ cO ac_ ct.1 ct.2.1 ct.2.2.1 ct.2.2.2.1 ct.2.2.2.2.1 ct.2.2.2.2.2.1 ct.2.2.2.2.2.2.1 ct.2.2.2.2.2.2.2 ++ (W_L cI cJ cZ cO al lt.1 lt.2.1 lt.2.2.1 lt.2.2.2 ++ (W_B cI cJ cZ cO abc bc.1 bc.2.1 bc.2.2.1 bc.2.2.2.1 bc.2.2.2.2.1 bc.2.2.2.2.2.1 bc.2.2.2.2.2.2.1 bc.2.2.2.2.2.2.2 ++ (W_CW cI cJ cZ cO ab cw))))) 90 [(0, .ref (ab 0)), (1, .int x1)] []) → ∀ (n : Nat) (x2 : Int32) (bc : BV) (cw : (Nat → Int32)), f_X7_loseEach_L35 N ct x1 lt K n x2 bc cw = some o → V p l e RM_X7_loseEach s m ([.ref (ab 0)] : List Value).toArray below meth c 3 (dC, dI) A (MQ below (va_Qv (fun _ : Unit => True) (PostW (dC, dI) (TY cI cJ cZ cO) A (fun _ => (W_BO cI cJ cZ cO ab ac_ atr ah ap al abc aac anb ++ (W_C cI cJ cZ cO ac_ ct.1 ct.2.1 ct.2.2.1 ct.2.2.2.1 ct.2.2.2.2.1 ct.2.2.2.2.2.1 ct.2.2.2.2.2.2.1 ct.2.2.2.2.2.2.2 ++ (W_L cI cJ cZ cO al o.1.1 o.1.2.1 o.1.2.2.1 o.1.2.2.2 ++ (W_B cI cJ cZ cO abc o.2.1.1 o.2.1.2.1 o.2.1.2.2.1 o.2.1.2.2.2.1 o.2.1.2.2.2.2.1 o.2.1.2.2.2.2.2.1 o.2.1.2.2.2.2.2.2.1 o.2.1.2.2.2.2.2.2.2 ++ (W_CW cI cJ cZ cO ab o.2.2))))))) A) ([.ref (ab 0)] : List Value).toArray s 0 0 A) 0 0 (W_BO cI cJ cZ cO ab ac_ atr ah ap al abc aac anb ++ (W_C cI cJ cZ cO ac_ ct.1 ct.2.1 ct.2.2.1 ct.2.2.2.1 ct.2.2.2.2.1 ct.2.2.2.2.2.1 ct.2.2.2.2.2.2.1 ct.2.2.2.2.2.2.2 ++ (W_L cI cJ cZ cO al lt.1 lt.2.1 lt.2.2.1 lt.2.2.2 ++ (W_B cI cJ cZ cO abc bc.1 bc.2.1 bc.2.2.1 bc.2.2.2.1 bc.2.2.2.2.1 bc.2.2.2.2.2.1 bc.2.2.2.2.2.2.1 bc.2.2.2.2.2.2.2 ++ (W_CW cI cJ cZ cO ab cw))))) 35 [(0, .ref (ab 0)), (1, .int x1), (2, .int x2)] [] := by
          intro x1 lt K hK n
          induction n with
          | zero => intro x2 bc cw hf; cases hf
          | succ n hREC =>
            intro x2 bc cw hf
            rw [f_X7_loseEach_L35] at hf
            refine V_iload_n C0 dX7_loseEach_35 2 rfl rfl ?_
            refine V_aload_n C0 dX7_loseEach_36 0 rfl rfl ?_
            refine V_get C0 fl_X7_loseEach_10 0 rfl rfl dX7_loseEach_37 rfl ?_
            refine V_get C0 fl_X7_loseEach_96 1 rfl rfl dX7_loseEach_40 rfl ?_
            refine V_icmp_ge (tgt := 90) C0 dX7_loseEach_43 (by decide) rfl (fun c43 => ?_) (fun c43 => ?_)
            · have hf := ite_t c43 hf
              exact V.sub [0, 1] rfl (hK bc cw hf)
            · have hf := ite_f c43 hf
              refine V_aload_n C0 dX7_loseEach_46 0 rfl rfl ?_
              refine V_get C0 fl_X7_loseEach_51 0 rfl rfl dX7_loseEach_47 rfl ?_
              refine V_aload_n C0 dX7_loseEach_50 0 rfl rfl ?_
              refine V_get C0 fl_X7_loseEach_44 0 rfl rfl dX7_loseEach_51 rfl ?_
              refine V_iload_n C0 dX7_loseEach_54 2 rfl rfl ?_
              obtain ⟨r_55, hc_55, hf⟩ := bind_inv hf
              refine V_cVV (ws' := (W_BO cI cJ cZ cO ab ac_ atr ah ap al abc aac anb ++ (W_C cI cJ cZ cO ac_ ct.1 ct.2.1 ct.2.2.1 ct.2.2.2.1 ct.2.2.2.2.1 ct.2.2.2.2.2.1 ct.2.2.2.2.2.2.1 ct.2.2.2.2.2.2.2 ++ (W_L cI cJ cZ cO al lt.1 lt.2.1 lt.2.2.1 lt.2.2.2 ++ (W_B cI cJ cZ cO abc r_55.1 r_55.2.1 r_55.2.2.1 r_55.2.2.2.1 r_55.2.2.2.2.1 r_55.2.2.2.2.2.1 r_55.2.2.2.2.2.2.1 r_55.2.2.2.2.2.2.2 ++ (W_CW cI cJ cZ cO ab cw)))))) (As := [.ref (al 0), .int x2]) (b := abc 0) (st := []) C0 (c_X1_find l dC dI cI cJ cZ cO al abc N lt bc x2 r_55 hc_55) rfl 2 gX7_loseEach_X1_find (by decide +kernel) ⟨Nat.le_of_ble_eq_true rfl, Nat.le_of_ble_eq_true rfl⟩ rfl 12 1 rfl rfl  ⟨_, (pr (pr (pt (pte pr1)))), fun _ => (pr (pr (pt (pte pr1))))⟩ rfl (Nat.le_of_ble_eq_true rfl) dX7_loseEach_55 rfl ⟨Nat.zero_le _, Nat.zero_le _⟩ ?_
              refine V_aload_n C0 dX7_loseEach_58 0 rfl rfl ?_
              refine V_get C0 fl_X7_loseEach_73 0 rfl rfl dX7_loseEach_59 rfl ?_
              refine V_iload_n C0 dX7_loseEach_62 2 rfl rfl ?_
              refine V_dup2_11 C0 dX7_loseEach_63 rfl rfl rfl ?_
              obtain ⟨hi64, hf⟩ := ck_inv hf
              refine V_iald C0 19 0 rfl rfl hi64 dX7_loseEach_64 rfl ?_
              refine V_aload_n C0 dX7_loseEach_65 0 rfl rfl ?_
              refine V_get C0 fl_X7_loseEach_51 0 rfl rfl dX7_loseEach_66 rfl ?_
              obtain ⟨r_69, hc_69, hf⟩ := bind_inv hf
              refine V_cVI (ws' := (W_BO cI cJ cZ cO ab ac_ atr ah ap al abc aac anb ++ (W_C cI cJ cZ cO ac_ ct.1 ct.2.1 ct.2.2.1 ct.2.2.2.1 ct.2.2.2.2.1 ct.2.2.2.2.2.1 ct.2.2.2.2.2.2.1 ct.2.2.2.2.2.2.2 ++ (W_L cI cJ cZ cO al lt.1 lt.2.1 lt.2.2.1 lt.2.2.2 ++ (W_B cI cJ cZ cO abc r_55.1 r_55.2.1 r_55.2.2.1 r_55.2.2.2.1 r_55.2.2.2.2.1 r_55.2.2.2.2.2.1 r_55.2.2.2.2.2.2.1 r_55.2.2.2.2.2.2.2 ++ (W_CW cI cJ cZ cO ab cw)))))) (As := []) (b := abc 0) (st := [.int (cw (x2.toNatClampNeg)), .int x2, .ref (ab 4)]) C0 (c_X1_cost l dC dI cI cJ cZ cO abc N r_55  r_69 hc_69) rfl 0 gX7_loseEach_X1_cost (by decide +kernel) ⟨Nat.le_of_ble_eq_true rfl, Nat.le_of_ble_eq_true rfl⟩ rfl 12 1 rfl rfl  ⟨_, (pr (pr (pr (pte pr1)))), fun _ => (pr (pr (pr (pte pr1))))⟩ rfl (Nat.le_of_ble_eq_true rfl) dX7_loseEach_69 rfl ⟨Nat.zero_le _, Nat.zero_le _⟩ ?_
              refine V_aload_n C0 dX7_loseEach_72 0 rfl rfl ?_
              refine V_get C0 fl_X7_loseEach_10 0 rfl rfl dX7_loseEach_73 rfl ?_
              refine V_get C0 fl_X7_loseEach_123 1 rfl rfl dX7_loseEach_76 rfl ?_
              refine V_iload_n C0 dX7_loseEach_79 1 rfl rfl ?_
              obtain ⟨hi80, hf⟩ := ck_inv hf
              refine V_iald C0 6 0 rfl rfl hi80 dX7_loseEach_80 rfl ?_
              refine V_imul C0 dX7_loseEach_81 rfl ?_
              refine V_iadd C0 dX7_loseEach_82 rfl ?_
              obtain ⟨hi83, hf⟩ := ck_inv hf
              refine V_iast (ws' := (W_BO cI cJ cZ cO ab ac_ atr ah ap al abc aac anb ++ (W_C cI cJ cZ cO ac_ ct.1 ct.2.1 ct.2.2.1 ct.2.2.2.1 ct.2.2.2.2.1 ct.2.2.2.2.2.1 ct.2.2.2.2.2.2.1 ct.2.2.2.2.2.2.2 ++ (W_L cI cJ cZ cO al lt.1 lt.2.1 lt.2.2.1 lt.2.2.2 ++ (W_B cI cJ cZ cO abc r_55.1 r_55.2.1 r_55.2.2.1 r_55.2.2.2.1 r_55.2.2.2.2.1 r_55.2.2.2.2.2.1 r_55.2.2.2.2.2.2.1 r_55.2.2.2.2.2.2.2 ++ (W_CW cI cJ cZ cO ab (upd cw (x2.toNatClampNeg) ((cw (x2.toNatClampNeg)) + (r_69 * (ct.2.2.2.2.2.2.1 (x1.toNatClampNeg))))))))))) C0 19 0 rfl rfl hi83 dX7_loseEach_83 rfl rfl ?_
              refine V_iinc (k := 2) (v := x2 + 1) (lv' := [(2, .int (x2 + 1)), (0, .ref (ab 0)), (1, .int x1)]) C0 dX7_loseEach_84 rfl rfl (by decide) rfl rfl ?_
              refine V_goto (tgt := 35) C0 dX7_loseEach_87 (by decide) ?_
              exact V.sub [1, 2, 0] rfl (hREC (x2 + 1) r_55 (upd cw (x2.toNatClampNeg) ((cw (x2.toNatClampNeg)) + (r_69 * (ct.2.2.2.2.2.2.1 (x1.toNatClampNeg))))) hf)
        refine V.sub [1, 2, 0] rfl (hL35 x1 r_30 _ ?_ N 0 bc cw hf)
        intro bc_35 cw_35 hf
        refine V_iinc (k := 1) (v := x1 + 1) (lv' := [(1, .int (x1 + 1)), (0, .ref (ab 0))]) C0 dX7_loseEach_90 rfl rfl (by decide) rfl rfl ?_
        refine V_goto (tgt := 10) C0 dX7_loseEach_93 (by decide) ?_
        exact V.sub [1, 0] rfl (hREC (x1 + 1) r_30 bc_35 cw_35 hf)
  refine V.sub [1, 0] rfl (hL10  _ ?_ N 0 lt bc r_5 hf)
  intro lt_10 bc_10 cw_10 hf
  obtain rfl := some_inv hf
  exact V_vret C0 () trivial rfl dX7_loseEach_96
abbrev RM_X7_findLeast : Room := { frames := 6, cells := 0, slots := 0, locals := 141 }
theorem in_X7_findLeast_X2 : ∀ w ∈ u_ws RX2 TX2 8, w ∈ wsX7_findLeast := by decide +kernel
theorem in_X7_findLeast_X7 : ∀ w ∈ u_ws RX7 TX7 12, w ∈ wsX7_findLeast := by decide +kernel
theorem fl_X7_findLeast_10 : FL RX7 wsX7_findLeast 7 10 0 RX7 TX7 12 := ⟨in_X7_findLeast_X7, rfl, by decide, by decide +kernel, rfl⟩
theorem fl_X7_findLeast_73 : FL RX7 wsX7_findLeast 7 73 11 RX7 TX7 12 := ⟨in_X7_findLeast_X7, rfl, by decide, by decide +kernel, rfl⟩
theorem fl_X7_findLeast_96 : FL RX7 wsX7_findLeast 2 96 0 RX2 TX2 8 := ⟨in_X7_findLeast_X2, rfl, by decide, by decide +kernel, rfl⟩
theorem fl_X7_findLeast_103 : FL RX7 wsX7_findLeast 2 103 3 RX2 TX2 8 := ⟨in_X7_findLeast_X2, rfl, by decide, by decide +kernel, rfl⟩
set_option maxRecDepth 100000 in
set_option maxHeartbeats 4000000 in
theorem c_X7_findLeast (l : Launch) (dC : Nat → ClassId) (dI : Nat → Nat → Nat) (cI cJ cZ cO : ClassId) (ab : Nat → Nat) (ac_ : Nat → Nat) (atr : Nat → Nat) (ah : Nat → Nat) (ap : Nat → Nat) (al : Nat → Nat) (abc : Nat → Nat) (aac : Nat → Nat) (anb : Nat → Nat) (N : Nat) (ct : CV) (lt : LV) (bc : BV) (cw : (Nat → Int32)) (o : Int32 × LV × BV × (Nat → Int32)) (hf : f_X7_findLeast N ct lt bc cw = some o) : MetI l yX7_findLeast wsX7_findLeast RM_X7_findLeast (dC, dI) (TY cI cJ cZ cO) [.ref (ab 0)] (W_BO cI cJ cZ cO ab ac_ atr ah ap al abc aac anb ++ (W_C cI cJ cZ cO ac_ ct.1 ct.2.1 ct.2.2.1 ct.2.2.2.1 ct.2.2.2.2.1 ct.2.2.2.2.2.1 ct.2.2.2.2.2.2.1 ct.2.2.2.2.2.2.2 ++ (W_L cI cJ cZ cO al lt.1 lt.2.1 lt.2.2.1 lt.2.2.2 ++ (W_B cI cJ cZ cO abc bc.1 bc.2.1 bc.2.2.1 bc.2.2.2.1 bc.2.2.2.2.1 bc.2.2.2.2.2.1 bc.2.2.2.2.2.2.1 bc.2.2.2.2.2.2.2 ++ (W_CW cI cJ cZ cO ab cw))))) (fun r (_ : Unit) => r = o.1) (fun _ => (W_BO cI cJ cZ cO ab ac_ atr ah ap al abc aac anb ++ (W_C cI cJ cZ cO ac_ ct.1 ct.2.1 ct.2.2.1 ct.2.2.2.1 ct.2.2.2.2.1 ct.2.2.2.2.2.1 ct.2.2.2.2.2.2.1 ct.2.2.2.2.2.2.2 ++ (W_L cI cJ cZ cO al o.2.1.1 o.2.1.2.1 o.2.1.2.2.1 o.2.1.2.2.2 ++ (W_B cI cJ cZ cO abc o.2.2.1.1 o.2.2.1.2.1 o.2.2.1.2.2.1 o.2.2.1.2.2.2.1 o.2.2.1.2.2.2.2.1 o.2.2.1.2.2.2.2.2.1 o.2.2.1.2.2.2.2.2.2.1 o.2.2.1.2.2.2.2.2.2.2 ++ (W_CW cI cJ cZ cO ab o.2.2.2)))))) := by
  refine MetI.ofV (cc := cX7_findLeast) (maxL := 3) (ret := (some .int)) (own := RX7) (lv0 := [(0, .ref (ab 0))]) (by decide) rfl rfl (Nat.le_of_ble_eq_true rfl) rfl ?_
  intro p e s m below meth c A C0 _
  unfold f_X7_findLeast at hf
  refine V_aload_n C0 dX7_findLeast_0 0 rfl rfl ?_
  obtain ⟨r_1, hc_1, hf⟩ := bind_inv hf
  refine V_cVV (ws' := (W_BO cI cJ cZ cO ab ac_ atr ah ap al abc aac anb ++ (W_C cI cJ cZ cO ac_ ct.1 ct.2.1 ct.2.2.1 ct.2.2.2.1 ct.2.2.2.2.1 ct.2.2.2.2.2.1 ct.2.2.2.2.2.2.1 ct.2.2.2.2.2.2.2 ++ (W_L cI cJ cZ cO al r_1.1.1 r_1.1.2.1 r_1.1.2.2.1 r_1.1.2.2.2 ++ (W_B cI cJ cZ cO abc r_1.2.1.1 r_1.2.1.2.1 r_1.2.1.2.2.1 r_1.2.1.2.2.2.1 r_1.2.1.2.2.2.2.1 r_1.2.1.2.2.2.2.2.1 r_1.2.1.2.2.2.2.2.2.1 r_1.2.1.2.2.2.2.2.2.2 ++ (W_CW cI cJ cZ cO ab r_1.2.2)))))) (As := []) (b := ab 0) (st := []) C0 (c_X7_loseEach l dC dI cI cJ cZ cO ab ac_ atr ah ap al abc aac anb N ct lt bc cw  r_1 hc_1) rfl 0 gX7_findLeast_X7_loseEach (by decide +kernel) ⟨Nat.le_of_ble_eq_true rfl, Nat.le_of_ble_eq_true rfl⟩ rfl 0 7 rfl rfl  Cut.all rfl (Nat.le_of_ble_eq_true rfl) dX7_findLeast_1 rfl ⟨Nat.zero_le _, Nat.zero_le _⟩ ?_
  refine V_iconst (v := (-1)) C0 dX7_findLeast_4 (by decide) rfl ?_
  refine V_istore_n (lv' := [(1, .int ((-1))), (0, .ref (ab 0))]) C0 dX7_findLeast_5 rfl (by decide) rfl rfl ?_
  refine V_iconst (v := 0) C0 dX7_findLeast_6 (by decide) rfl ?_
  refine V_istore_n (lv' := [(2, .int 0), (1, .int ((-1))), (0, .ref (ab 0))]) C0 dX7_findLeast_7 rfl (by decide) rfl rfl ?_
  have hL8 : ∀ (lt : LV) (bc : BV) (cw : (Nat → Int32)) (K : Int32 → Option (Int32 × LV × BV × (Nat → Int32))), (∀ (x1 : Int32), K x1 = some o → V p l e RM_X7_findLeast s m ([.ref (ab 0)] : List Value).toArray below meth c 3 (dC, dI) A (MQ below (va_Qi (fun r (_ : Unit) => r = o.1) (PostW (dC, dI) (TY cI cJ cZ cO) A (fun _ => (W_BO cI cJ cZ cO ab ac_ atr ah ap al abc aac anb ++ (W_C cI cJ cZ cO ac_ ct.1 ct.2.1 ct.2.2.1 ct.2.2.2.1 ct.2.2.2.2.1 ct.2.2.2.2.2.1 ct.2.2.2.2.2.2.1 ct.2.2.2.2.2.2.2 ++ (W_L cI cJ cZ cO al o.2.1.1 o.2.1.2.1 o.2.1.2.2.1 o.2.1.2.2.2 ++ (W_B cI cJ cZ cO abc o.2.2.1.1 o.2.2.1.2.1 o.2.2.1.2.2.1 o.2.2.1.2.2.2.1 o.2.2.1.2.2.2.2.1 o.2.2.1.2.2.2.2.2.1 o.2.2.1.2.2.2.2.2.2.1 o.2.2.1.2.2.2.2.2.2.2 ++ (W_CW cI cJ cZ cO ab o.2.2.2))))))) A) ([.ref (ab 0)] : List Value).toArray s 0 0 A) 0 0 (W_BO cI cJ cZ cO ab ac_ atr ah ap al abc aac anb ++ (W_C cI cJ cZ cO ac_ ct.1 ct.2.1 ct.2.2.1 ct.2.2.2.1 ct.2.2.2.2.1 ct.2.2.2.2.2.1 ct.2.2.2.2.2.2.1 ct.2.2.2.2.2.2.2 ++ (W_L cI cJ cZ cO al lt.1 lt.2.1 lt.2.2.1 lt.2.2.2 ++ (W_B cI cJ cZ cO abc bc.1 bc.2.1 bc.2.2.1 bc.2.2.2.1 bc.2.2.2.2.1 bc.2.2.2.2.2.1 bc.2.2.2.2.2.2.1 bc.2.2.2.2.2.2.2 ++ (W_CW cI cJ cZ cO ab cw))))) 83 [(1, .int x1)] []) → ∀ (n : Nat) (x1 : Int32) (x2 : Int32), f_X7_findLeast_L8 N ct lt bc cw K n x1 x2 = some o → V p l e RM_X7_findLeast s m ([.ref (ab 0)] : List Value).toArray below meth c 3 (dC, dI) A (MQ below (va_Qi (fun r (_ : Unit) => r = o.1) (PostW (dC, dI) (TY cI cJ cZ cO) A (fun _ => (W_BO cI cJ cZ cO ab ac_ atr ah ap al abc aac anb ++ (W_C cI cJ cZ cO ac_ ct.1 ct.2.1 ct.2.2.1 ct.2.2.2.1 ct.2.2.2.2.1 ct.2.2.2.2.2.1 ct.2.2.2.2.2.2.1 ct.2.2.2.2.2.2.2 ++ (W_L cI cJ cZ cO al o.2.1.1 o.2.1.2.1 o.2.1.2.2.1 o.2.1.2.2.2 ++ (W_B cI cJ cZ cO abc o.2.2.1.1 o.2.2.1.2.1 o.2.2.1.2.2.1 o.2.2.1.2.2.2.1 o.2.2.1.2.2.2.2.1 o.2.2.1.2.2.2.2.2.1 o.2.2.1.2.2.2.2.2.2.1 o.2.2.1.2.2.2.2.2.2.2 ++ (W_CW cI cJ cZ cO ab o.2.2.2))))))) A) ([.ref (ab 0)] : List Value).toArray s 0 0 A) 0 0 (W_BO cI cJ cZ cO ab ac_ atr ah ap al abc aac anb ++ (W_C cI cJ cZ cO ac_ ct.1 ct.2.1 ct.2.2.1 ct.2.2.2.1 ct.2.2.2.2.1 ct.2.2.2.2.2.1 ct.2.2.2.2.2.2.1 ct.2.2.2.2.2.2.2 ++ (W_L cI cJ cZ cO al lt.1 lt.2.1 lt.2.2.1 lt.2.2.2 ++ (W_B cI cJ cZ cO abc bc.1 bc.2.1 bc.2.2.1 bc.2.2.2.1 bc.2.2.2.2.1 bc.2.2.2.2.2.1 bc.2.2.2.2.2.2.1 bc.2.2.2.2.2.2.2 ++ (W_CW cI cJ cZ cO ab cw))))) 8 [(0, .ref (ab 0)), (1, .int x1), (2, .int x2)] [] := by
    intro lt bc cw K hK n
    induction n with
    | zero => intro x1 x2 hf; cases hf
    | succ n hREC =>
      intro x1 x2 hf
      rw [f_X7_findLeast_L8] at hf
      refine V_iload_n C0 dX7_findLeast_8 2 rfl rfl ?_
      refine V_aload_n C0 dX7_findLeast_9 0 rfl rfl ?_
      refine V_get C0 fl_X7_findLeast_10 0 rfl rfl dX7_findLeast_10 rfl ?_
      refine V_get C0 fl_X7_findLeast_96 1 rfl rfl dX7_findLeast_13 rfl ?_
      refine V_icmp_ge (tgt := 83) C0 dX7_findLeast_16 (by decide) rfl (fun c16 => ?_) (fun c16 => ?_)
      · have hf := ite_t c16 hf
        exact V.sub [1] rfl (hK x1 hf)
      · have hf := ite_f c16 hf
        refine V_iload_n C0 dX7_findLeast_19 1 rfl rfl ?_
        refine V_iconst (v := (-1)) C0 dX7_findLeast_20 (by decide) rfl ?_
        refine V_icmp_eq (tgt := 75) C0 dX7_findLeast_21 (by decide) rfl (fun c21 => ?_) (fun c21 => ?_)
        · have hf := ite_t c21 hf
          refine V_iload_n C0 dX7_findLeast_75 2 rfl rfl ?_
          refine V_istore_n (lv' := [(1, .int x2), (0, .ref (ab 0)), (2, .int x2)]) C0 dX7_findLeast_76 rfl (by decide) rfl rfl ?_
          refine V_iinc (k := 2) (v := x2 + 1) (lv' := [(2, .int (x2 + 1)), (1, .int x2), (0, .ref (ab 0))]) C0 dX7_findLeast_77 rfl rfl (by decide) rfl rfl ?_
          refine V_goto (tgt := 8) C0 dX7_findLeast_80 (by decide) ?_
          exact V.sub [2, 1, 0] rfl (hREC x2 (x2 + 1) hf)
        · have hf := ite_f c21 hf
          refine V_aload_n C0 dX7_findLeast_24 0 rfl rfl ?_
          refine V_get C0 fl_X7_findLeast_73 0 rfl rfl dX7_findLeast_25 rfl ?_
          refine V_iload_n C0 dX7_findLeast_28 2 rfl rfl ?_
          obtain ⟨hi29, hf⟩ := ck_inv hf
          refine V_iald C0 19 0 rfl rfl hi29 dX7_findLeast_29 rfl ?_
          refine V_aload_n C0 dX7_findLeast_30 0 rfl rfl ?_
          refine V_get C0 fl_X7_findLeast_73 0 rfl rfl dX7_findLeast_31 rfl ?_
          refine V_iload_n C0 dX7_findLeast_34 1 rfl rfl ?_
          obtain ⟨hi35, hf⟩ := ck_inv hf
          refine V_iald C0 19 0 rfl rfl hi35 dX7_findLeast_35 rfl ?_
          refine V_icmp_lt (tgt := 75) C0 dX7_findLeast_36 (by decide) rfl (fun c36 => ?_) (fun c36 => ?_)
          · have hf := ite_t c36 hf
            refine V_iload_n C0 dX7_findLeast_75 2 rfl rfl ?_
            refine V_istore_n (lv' := [(1, .int x2), (0, .ref (ab 0)), (2, .int x2)]) C0 dX7_findLeast_76 rfl (by decide) rfl rfl ?_
            refine V_iinc (k := 2) (v := x2 + 1) (lv' := [(2, .int (x2 + 1)), (1, .int x2), (0, .ref (ab 0))]) C0 dX7_findLeast_77 rfl rfl (by decide) rfl rfl ?_
            refine V_goto (tgt := 8) C0 dX7_findLeast_80 (by decide) ?_
            exact V.sub [2, 1, 0] rfl (hREC x2 (x2 + 1) hf)
          · have hf := ite_f c36 hf
            refine V_aload_n C0 dX7_findLeast_39 0 rfl rfl ?_
            refine V_get C0 fl_X7_findLeast_73 0 rfl rfl dX7_findLeast_40 rfl ?_
            refine V_iload_n C0 dX7_findLeast_43 2 rfl rfl ?_
            obtain ⟨hi44, hf⟩ := ck_inv hf
            refine V_iald C0 19 0 rfl rfl hi44 dX7_findLeast_44 rfl ?_
            refine V_aload_n C0 dX7_findLeast_45 0 rfl rfl ?_
            refine V_get C0 fl_X7_findLeast_73 0 rfl rfl dX7_findLeast_46 rfl ?_
            refine V_iload_n C0 dX7_findLeast_49 1 rfl rfl ?_
            obtain ⟨hi50, hf⟩ := ck_inv hf
            refine V_iald C0 19 0 rfl rfl hi50 dX7_findLeast_50 rfl ?_
            refine V_icmp_ne (tgt := 77) C0 dX7_findLeast_51 (by decide) rfl (fun c51 => ?_) (fun c51 => ?_)
            · have hf := ite_f c51 hf
              refine V_iinc (k := 2) (v := x2 + 1) (lv' := [(2, .int (x2 + 1)), (0, .ref (ab 0)), (1, .int x1)]) C0 dX7_findLeast_77 rfl rfl (by decide) rfl rfl ?_
              refine V_goto (tgt := 8) C0 dX7_findLeast_80 (by decide) ?_
              exact V.sub [1, 2, 0] rfl (hREC x1 (x2 + 1) hf)
            · have hf := ite_t c51 hf
              refine V_aload_n C0 dX7_findLeast_54 0 rfl rfl ?_
              refine V_get C0 fl_X7_findLeast_10 0 rfl rfl dX7_findLeast_55 rfl ?_
              refine V_get C0 fl_X7_findLeast_103 1 rfl rfl dX7_findLeast_58 rfl ?_
              refine V_iload_n C0 dX7_findLeast_61 2 rfl rfl ?_
              obtain ⟨hi62, hf⟩ := ck_inv hf
              refine V_iald C0 4 0 rfl rfl hi62 dX7_findLeast_62 rfl ?_
              refine V_aload_n C0 dX7_findLeast_63 0 rfl rfl ?_
              refine V_get C0 fl_X7_findLeast_10 0 rfl rfl dX7_findLeast_64 rfl ?_
              refine V_get C0 fl_X7_findLeast_103 1 rfl rfl dX7_findLeast_67 rfl ?_
              refine V_iload_n C0 dX7_findLeast_70 1 rfl rfl ?_
              obtain ⟨hi71, hf⟩ := ck_inv hf
              refine V_iald C0 4 0 rfl rfl hi71 dX7_findLeast_71 rfl ?_
              refine V_icmp_gt (tgt := 77) C0 dX7_findLeast_72 (by decide) rfl (fun c72 => ?_) (fun c72 => ?_)
              · have hf := ite_t c72 hf
                refine V_iinc (k := 2) (v := x2 + 1) (lv' := [(2, .int (x2 + 1)), (0, .ref (ab 0)), (1, .int x1)]) C0 dX7_findLeast_77 rfl rfl (by decide) rfl rfl ?_
                refine V_goto (tgt := 8) C0 dX7_findLeast_80 (by decide) ?_
                exact V.sub [1, 2, 0] rfl (hREC x1 (x2 + 1) hf)
              · have hf := ite_f c72 hf
                refine V_iload_n C0 dX7_findLeast_75 2 rfl rfl ?_
                refine V_istore_n (lv' := [(1, .int x2), (0, .ref (ab 0)), (2, .int x2)]) C0 dX7_findLeast_76 rfl (by decide) rfl rfl ?_
                refine V_iinc (k := 2) (v := x2 + 1) (lv' := [(2, .int (x2 + 1)), (1, .int x2), (0, .ref (ab 0))]) C0 dX7_findLeast_77 rfl rfl (by decide) rfl rfl ?_
                refine V_goto (tgt := 8) C0 dX7_findLeast_80 (by decide) ?_
                exact V.sub [2, 1, 0] rfl (hREC x2 (x2 + 1) hf)
  refine V.sub [2, 1, 0] rfl (hL8 r_1.1 r_1.2.1 r_1.2.2 _ ?_ N ((-1)) 0 hf)
  intro x1_8 hf
  refine V_iload_n C0 dX7_findLeast_83 0 rfl rfl ?_
  obtain rfl := some_inv hf
  exact V_iret C0 () rfl rfl dX7_findLeast_84
abbrev RM_X7_shrink : Room := { frames := 7, cells := 0, slots := 0, locals := 163 }
theorem in_X7_shrink_X2 : ∀ w ∈ u_ws RX2 TX2 8, w ∈ wsX7_shrink := by decide +kernel
theorem in_X7_shrink_X7 : ∀ w ∈ u_ws RX7 TX7 12, w ∈ wsX7_shrink := by decide +kernel
theorem fl_X7_shrink_10 : FL RX7 wsX7_shrink 7 10 0 RX7 TX7 12 := ⟨in_X7_shrink_X7, rfl, by decide, by decide +kernel, rfl⟩
theorem fl_X7_shrink_30 : FL RX7 wsX7_shrink 7 30 4 RX7 TX7 12 := ⟨in_X7_shrink_X7, rfl, by decide, by decide +kernel, rfl⟩
theorem fl_X7_shrink_96 : FL RX7 wsX7_shrink 2 96 0 RX2 TX2 8 := ⟨in_X7_shrink_X2, rfl, by decide, by decide +kernel, rfl⟩
set_option maxRecDepth 100000 in
set_option maxHeartbeats 4000000 in
theorem c_X7_shrink (l : Launch) (dC : Nat → ClassId) (dI : Nat → Nat → Nat) (cI cJ cZ cO : ClassId) (ab : Nat → Nat) (ac_ : Nat → Nat) (atr : Nat → Nat) (ah : Nat → Nat) (ap : Nat → Nat) (al : Nat → Nat) (abc : Nat → Nat) (aac : Nat → Nat) (anb : Nat → Nat) (ahs : Nat → Nat → Nat) (N : Nat) (ct : CV) (hi : HV) (lt : LV) (bc : BV) (cw : (Nat → Int32)) (x1 : Int32) (o : Int32 × CV × HV × LV × BV × (Nat → Int32)) (hf : f_X7_shrink N ct hi lt bc cw x1 = some o) : MetI l yX7_shrink wsX7_shrink RM_X7_shrink (dC, dI) (TY cI cJ cZ cO) [.ref (ab 0), .int x1] (W_BO cI cJ cZ cO ab ac_ atr ah ap al abc aac anb ++ (W_C cI cJ cZ cO ac_ ct.1 ct.2.1 ct.2.2.1 ct.2.2.2.1 ct.2.2.2.2.1 ct.2.2.2.2.2.1 ct.2.2.2.2.2.2.1 ct.2.2.2.2.2.2.2 ++ (W_H cI cJ cZ cO ah ahs hi.1 hi.2.1 hi.2.2.1 hi.2.2.2.1 hi.2.2.2.2.1 hi.2.2.2.2.2.1 hi.2.2.2.2.2.2 ++ (W_L cI cJ cZ cO al lt.1 lt.2.1 lt.2.2.1 lt.2.2.2 ++ (W_B cI cJ cZ cO abc bc.1 bc.2.1 bc.2.2.1 bc.2.2.2.1 bc.2.2.2.2.1 bc.2.2.2.2.2.1 bc.2.2.2.2.2.2.1 bc.2.2.2.2.2.2.2 ++ (W_CW cI cJ cZ cO ab cw)))))) (fun r (_ : Nat → Nat → Nat) => r = o.1) (fun (ahs : Nat → Nat → Nat) => (W_BO cI cJ cZ cO ab ac_ atr ah ap al abc aac anb ++ (W_C cI cJ cZ cO ac_ o.2.1.1 o.2.1.2.1 o.2.1.2.2.1 o.2.1.2.2.2.1 o.2.1.2.2.2.2.1 o.2.1.2.2.2.2.2.1 o.2.1.2.2.2.2.2.2.1 o.2.1.2.2.2.2.2.2.2 ++ (W_H cI cJ cZ cO ah ahs o.2.2.1.1 o.2.2.1.2.1 o.2.2.1.2.2.1 o.2.2.1.2.2.2.1 o.2.2.1.2.2.2.2.1 o.2.2.1.2.2.2.2.2.1 o.2.2.1.2.2.2.2.2.2 ++ (W_L cI cJ cZ cO al o.2.2.2.1.1 o.2.2.2.1.2.1 o.2.2.2.1.2.2.1 o.2.2.2.1.2.2.2 ++ (W_B cI cJ cZ cO abc o.2.2.2.2.1.1 o.2.2.2.2.1.2.1 o.2.2.2.2.1.2.2.1 o.2.2.2.2.1.2.2.2.1 o.2.2.2.2.1.2.2.2.2.1 o.2.2.2.2.1.2.2.2.2.2.1 o.2.2.2.2.1.2.2.2.2.2.2.1 o.2.2.2.2.1.2.2.2.2.2.2.2 ++ (W_CW cI cJ cZ cO ab o.2.2.2.2.2))))))) := by
  refine MetI.ofV (cc := cX7_shrink) (maxL := 4) (ret := (some .int)) (own := RX7) (lv0 := [(0, .ref (ab 0)), (1, .int x1)]) (by decide) rfl rfl (Nat.le_of_ble_eq_true rfl) rfl ?_
  intro p e s m below meth c A C0 _
  unfold f_X7_shrink at hf
  refine V_iload_n C0 dX7_shrink_0 1 rfl rfl ?_
  refine V_if_lt (tgt := 10) C0 dX7_shrink_1 (by decide) rfl (fun c1 => ?_) (fun c1 => ?_)
  · have hf := ite_t c1 hf
    refine V_bipush (v := (-2)) C0 dX7_shrink_10 (by decide) rfl ?_
    obtain rfl := some_inv hf
    exact V_iret C0 ahs rfl rfl dX7_shrink_12
  · have hf := ite_f c1 hf
    refine V_iload_n C0 dX7_shrink_4 1 rfl rfl ?_
    refine V_bipush (v := 16) C0 dX7_shrink_5 (by decide) rfl ?_
    refine V_icmp_le (tgt := 13) C0 dX7_shrink_7 (by decide) rfl (fun c7 => ?_) (fun c7 => ?_)
    · have hf := ite_t c7 hf
      refine V_aload_n C0 dX7_shrink_13 0 rfl rfl ?_
      refine V_get C0 fl_X7_shrink_30 0 rfl rfl dX7_shrink_14 rfl ?_
      refine V_aload_n C0 dX7_shrink_17 0 rfl rfl ?_
      refine V_get C0 fl_X7_shrink_10 0 rfl rfl dX7_shrink_18 rfl ?_
      obtain ⟨r_21, hc_21, hf⟩ := bind_inv hf
      refine V_callVV (ws' := fun (ahs_21 : Nat → Nat → Nat) => (W_BO cI cJ cZ cO ab ac_ atr ah ap al abc aac anb ++ (W_C cI cJ cZ cO ac_ ct.1 ct.2.1 ct.2.2.1 ct.2.2.2.1 ct.2.2.2.2.1 ct.2.2.2.2.2.1 ct.2.2.2.2.2.2.1 ct.2.2.2.2.2.2.2 ++ (W_H cI cJ cZ cO ah ahs_21 r_21.1 r_21.2.1 r_21.2.2.1 r_21.2.2.2.1 r_21.2.2.2.2.1 r_21.2.2.2.2.2.1 r_21.2.2.2.2.2.2 ++ (W_L cI cJ cZ cO al lt.1 lt.2.1 lt.2.2.1 lt.2.2.2 ++ (W_B cI cJ cZ cO abc bc.1 bc.2.1 bc.2.2.1 bc.2.2.2.1 bc.2.2.2.2.1 bc.2.2.2.2.2.1 bc.2.2.2.2.2.2.1 bc.2.2.2.2.2.2.2 ++ (W_CW cI cJ cZ cO ab cw))))))) (As := [.ref (ac_ 0)]) (b := ah 0) (st := []) C0 (c_X3_record l dC dI cI cJ cZ cO ac_ ah ahs N ct hi  r_21 hc_21) rfl 1 gX7_shrink_X3_record (by decide +kernel) ⟨Nat.le_of_ble_eq_true rfl, Nat.le_of_ble_eq_true rfl⟩ rfl 8 3 rfl rfl  ⟨_, (pr (pt (pte (pr (pr pr1))))), fun _ => (pr (pt (pte (pr (pr pr1)))))⟩ rfl (Nat.le_of_ble_eq_true rfl) dX7_shrink_21 rfl ⟨Nat.zero_le _, Nat.zero_le _⟩ (fun ahs_21 _ => ?_)
      refine V.world (ws' := (W_BO cI cJ cZ cO ab ac_ atr ah ap al abc aac anb ++ (W_C cI cJ cZ cO ac_ ct.1 ct.2.1 ct.2.2.1 ct.2.2.2.1 ct.2.2.2.2.1 ct.2.2.2.2.2.1 ct.2.2.2.2.2.2.1 ct.2.2.2.2.2.2.2 ++ (W_H cI cJ cZ cO ah ahs_21 r_21.1 r_21.2.1 r_21.2.2.1 r_21.2.2.2.1 r_21.2.2.2.2.1 r_21.2.2.2.2.2.1 r_21.2.2.2.2.2.2 ++ (W_L cI cJ cZ cO al lt.1 lt.2.1 lt.2.2.1 lt.2.2.2 ++ (W_B cI cJ cZ cO abc bc.1 bc.2.1 bc.2.2.1 bc.2.2.2.1 bc.2.2.2.2.1 bc.2.2.2.2.2.1 bc.2.2.2.2.2.2.1 bc.2.2.2.2.2.2.2 ++ (W_CW cI cJ cZ cO ab cw))))))) rfl ?_
      refine V_aload_n C0 dX7_shrink_24 0 rfl rfl ?_
      refine V_get C0 fl_X7_shrink_10 0 rfl rfl dX7_shrink_25 rfl ?_
      refine V_get C0 fl_X7_shrink_96 1 rfl rfl dX7_shrink_28 rfl ?_
      refine V_istore_n (lv' := [(2, .int ct.1), (0, .ref (ab 0)), (1, .int x1)]) C0 dX7_shrink_31 rfl (by decide) rfl rfl ?_
      refine V_iload_n C0 dX7_shrink_32 0 rfl rfl ?_
      refine V_istore_n (lv' := [(3, .int ct.1), (2, .int ct.1), (0, .ref (ab 0)), (1, .int x1)]) C0 dX7_shrink_33 rfl (by decide) rfl rfl ?_
      have hL34 : ∀ (x2 : Int32) (hi : HV) (K : CV → LV → BV → (Nat → Int32) → Option (Int32 × CV × HV × LV × BV × (Nat → Int32))), (∀ (ct : CV) (lt : LV) (bc : BV) (cw : (Nat → Int32)), K ct lt bc cw = some o → V p l e RM_X7_shrink s m ([.ref (ab 0), .int x1] : List Value).toArray below meth c 4 (dC, dI) A (MQ below (va_Qi (fun r (_ : Nat → Nat → Nat) => r = o.1) (PostW (dC, dI) (TY cI cJ cZ cO) A (fun (ahs : Nat → Nat → Nat) => (W_BO cI cJ cZ cO ab ac_ atr ah ap al abc aac anb ++ (W_C cI cJ cZ cO ac_ o.2.1.1 o.2.1.2.1 o.2.1.2.2.1 o.2.1.2.2.2.1 o.2.1.2.2.2.2.1 o.2.1.2.2.2.2.2.1 o.2.1.2.2.2.2.2.2.1 o.2.1.2.2.2.2.2.2.2 ++ (W_H cI cJ cZ cO ah ahs o.2.2.1.1 o.2.2.1.2.1 o.2.2.1.2.2.1 o.2.2.1.2.2.2.1 o.2.2.1.2.2.2.2.1 o.2.2.1.2.2.2.2.2.1 o.2.2.1.2.2.2.2.2.2 ++ (W_L cI cJ cZ cO al o.2.2.2.1.1 o.2.2.2.1.2.1 o.2.2.2.1.2.2.1 o.2.2.2.1.2.2.2 ++ (W_B cI cJ cZ cO abc o.2.2.2.2.1.1 o.2.2.2.2.1.2.1 o.2.2.2.2.1.2.2.1 o.2.2.2.2.1.2.2.2.1 o.2.2.2.2.1.2.2.2.2.1 o.2.2.2.2.1.2.2.2.2.2.1 o.2.2.2.2.1.2.2.2.2.2.2.1 o.2.2.2.2.1.2.2.2.2.2.2.2 ++ (W_CW cI cJ cZ cO ab o.2.2.2.2.2)))))))) A) ([.ref (ab 0), .int x1] : List Value).toArray s 0 0 A) 0 0 (W_BO cI cJ cZ cO ab ac_ atr ah ap al abc aac anb ++ (W_C cI cJ cZ cO ac_ ct.1 ct.2.1 ct.2.2.1 ct.2.2.2.1 ct.2.2.2.2.1 ct.2.2.2.2.2.1 ct.2.2.2.2.2.2.1 ct.2.2.2.2.2.2.2 ++ (W_H cI cJ cZ cO ah ahs_21 hi.1 hi.2.1 hi.2.2.1 hi.2.2.2.1 hi.2.2.2.2.1 hi.2.2.2.2.2.1 hi.2.2.2.2.2.2 ++ (W_L cI cJ cZ cO al lt.1 lt.2.1 lt.2.2.1 lt.2.2.2 ++ (W_B cI cJ cZ cO abc bc.1 bc.2.1 bc.2.2.1 bc.2.2.2.1 bc.2.2.2.2.1 bc.2.2.2.2.2.1 bc.2.2.2.2.2.2.1 bc.2.2.2.2.2.2.2 ++ (W_CW cI cJ cZ cO ab cw)))))) 56 [(0, .ref (ab 0)), (2, .int x2)] []) → ∀ (n : Nat) (x3 : Int32) (ct : CV) (lt : LV) (bc : BV) (cw : (Nat → Int32)), f_X7_shrink_L34 N x1 x2 hi K n x3 ct lt bc cw = some o → V p l e RM_X7_shrink s m ([.ref (ab 0), .int x1] : List Value).toArray below meth c 4 (dC, dI) A (MQ below (va_Qi (fun r (_ : Nat → Nat → Nat) => r = o.1) (PostW (dC, dI) (TY cI cJ cZ cO) A (fun (ahs : Nat → Nat → Nat) => (W_BO cI cJ cZ cO ab ac_ atr ah ap al abc aac anb ++ (W_C cI cJ cZ cO ac_ o.2.1.1 o.2.1.2.1 o.2.1.2.2.1 o.2.1.2.2.2.1 o.2.1.2.2.2.2.1 o.2.1.2.2.2.2.2.1 o.2.1.2.2.2.2.2.2.1 o.2.1.2.2.2.2.2.2.2 ++ (W_H cI cJ cZ cO ah ahs o.2.2.1.1 o.2.2.1.2.1 o.2.2.1.2.2.1 o.2.2.1.2.2.2.1 o.2.2.1.2.2.2.2.1 o.2.2.1.2.2.2.2.2.1 o.2.2.1.2.2.2.2.2.2 ++ (W_L cI cJ cZ cO al o.2.2.2.1.1 o.2.2.2.1.2.1 o.2.2.2.1.2.2.1 o.2.2.2.1.2.2.2 ++ (W_B cI cJ cZ cO abc o.2.2.2.2.1.1 o.2.2.2.2.1.2.1 o.2.2.2.2.1.2.2.1 o.2.2.2.2.1.2.2.2.1 o.2.2.2.2.1.2.2.2.2.1 o.2.2.2.2.1.2.2.2.2.2.1 o.2.2.2.2.1.2.2.2.2.2.2.1 o.2.2.2.2.1.2.2.2.2.2.2.2 ++ (W_CW cI cJ cZ cO ab o.2.2.2.2.2)))))))) A) ([.ref (ab 0), .int x1] : List Value).toArray s 0 0 A) 0 0 (W_BO cI cJ cZ cO ab ac_ atr ah ap al abc aac anb ++ (W_C cI cJ cZ cO ac_ ct.1 ct.2.1 ct.2.2.1 ct.2.2.2.1 ct.2.2.2.2.1 ct.2.2.2.2.2.1 ct.2.2.2.2.2.2.1 ct.2.2.2.2.2.2.2 ++ (W_H cI cJ cZ cO ah ahs_21 hi.1 hi.2.1 hi.2.2.1 hi.2.2.2.1 hi.2.2.2.2.1 hi.2.2.2.2.2.1 hi.2.2.2.2.2.2 ++ (W_L cI cJ cZ cO al lt.1 lt.2.1 lt.2.2.1 lt.2.2.2 ++ (W_B cI cJ cZ cO abc bc.1 bc.2.1 bc.2.2.1 bc.2.2.2.1 bc.2.2.2.2.1 bc.2.2.2.2.2.1 bc.2.2.2.2.2.2.1 bc.2.2.2.2.2.2.2 ++ (W_CW cI cJ cZ cO ab cw)))))) 34 [(0, .ref (ab 0)), (1, .int x1), (2, .int x2), (3, .int x3)] [] := by
        intro x2 hi K hK n
        induction n with
        | zero => intro x3 ct lt bc cw hf; cases hf
        | succ n hREC =>
          intro x3 ct lt bc cw hf
          rw [f_X7_shrink_L34] at hf
          refine V_iload_n C0 dX7_shrink_34 3 rfl rfl ?_
          refine V_iload_n C0 dX7_shrink_35 1 rfl rfl ?_
          refine V_icmp_le (tgt := 56) C0 dX7_shrink_36 (by decide) rfl (fun c36 => ?_) (fun c36 => ?_)
          · have hf := ite_t c36 hf
            exact V.sub [0, 2] rfl (hK ct lt bc cw hf)
          · have hf := ite_f c36 hf
            refine V_aload_n C0 dX7_shrink_39 0 rfl rfl ?_
            refine V_get C0 fl_X7_shrink_10 0 rfl rfl dX7_shrink_40 rfl ?_
            refine V_aload_n C0 dX7_shrink_43 0 rfl rfl ?_
            obtain ⟨r_44, hc_44, hf⟩ := bind_inv hf
            refine V_cVI (ws' := (W_BO cI cJ cZ cO ab ac_ atr ah ap al abc aac anb ++ (W_C cI cJ cZ cO ac_ ct.1 ct.2.1 ct.2.2.1 ct.2.2.2.1 ct.2.2.2.2.1 ct.2.2.2.2.2.1 ct.2.2.2.2.2.2.1 ct.2.2.2.2.2.2.2 ++ (W_H cI cJ cZ cO ah ahs_21 hi.1 hi.2.1 hi.2.2.1 hi.2.2.2.1 hi.2.2.2.2.1 hi.2.2.2.2.2.1 hi.2.2.2.2.2.2 ++ (W_L cI cJ cZ cO al r_44.2.1.1 r_44.2.1.2.1 r_44.2.1.2.2.1 r_44.2.1.2.2.2 ++ (W_B cI cJ cZ cO abc r_44.2.2.1.1 r_44.2.2.1.2.1 r_44.2.2.1.2.2.1 r_44.2.2.1.2.2.2.1 r_44.2.2.1.2.2.2.2.1 r_44.2.2.1.2.2.2.2.2.1 r_44.2.2.1.2.2.2.2.2.2.1 r_44.2.2.1.2.2.2.2.2.2.2 ++ (W_CW cI cJ cZ cO ab r_44.2.2.2))))))) (As := []) (b := ab 0) (st := [.ref (ac_ 0)]) C0 (c_X7_findLeast l dC dI cI cJ cZ cO ab ac_ atr ah ap al abc aac anb N ct lt bc cw  r_44 hc_44) rfl 0 gX7_shrink_X7_findLeast (by decide +kernel) ⟨Nat.le_of_ble_eq_true rfl, Nat.le_of_ble_eq_true rfl⟩ rfl 0 7 rfl rfl  ⟨_, (pt (pt (pr (pt (pt pt1))))), fun _ => (pt (pt (pr (pt (pt pt1)))))⟩ rfl (Nat.le_of_ble_eq_true rfl) dX7_shrink_44 rfl ⟨Nat.zero_le _, Nat.zero_le _⟩ ?_
            obtain ⟨r_47, hc_47, hf⟩ := bind_inv hf
            refine V_cVV (ws' := (W_BO cI cJ cZ cO ab ac_ atr ah ap al abc aac anb ++ (W_C cI cJ cZ cO ac_ r_47.1 r_47.2.1 r_47.2.2.1 r_47.2.2.2.1 r_47.2.2.2.2.1 r_47.2.2.2.2.2.1 r_47.2.2.2.2.2.2.1 r_47.2.2.2.2.2.2.2 ++ (W_H cI cJ cZ cO ah ahs_21 hi.1 hi.2.1 hi.2.2.1 hi.2.2.2.1 hi.2.2.2.2.1 hi.2.2.2.2.2.1 hi.2.2.2.2.2.2 ++ (W_L cI cJ cZ cO al r_44.2.1.1 r_44.2.1.2.1 r_44.2.1.2.2.1 r_44.2.1.2.2.2 ++ (W_B cI cJ cZ cO abc r_44.2.2.1.1 r_44.2.2.1.2.1 r_44.2.2.1.2.2.1 r_44.2.2.1.2.2.2.1 r_44.2.2.1.2.2.2.2.1 r_44.2.2.1.2.2.2.2.2.1 r_44.2.2.1.2.2.2.2.2.2.1 r_44.2.2.1.2.2.2.2.2.2.2 ++ (W_CW cI cJ cZ cO ab r_44.2.2.2))))))) (As := [.int r_44.1]) (b := ac_ 0) (st := []) C0 (c_X2_removePiece l dC dI cI cJ cZ cO ac_ N ct r_44.1 r_47 hc_47) rfl 1 gX7_shrink_X2_removePiece (by decide +kernel) ⟨Nat.le_of_ble_eq_true rfl, Nat.le_of_ble_eq_true rfl⟩ rfl 1 2 rfl rfl  ⟨_, (pr (pte (pr (pr (pr pr1))))), fun _ => (pr (pte (pr (pr (pr pr1)))))⟩ rfl (Nat.le_of_ble_eq_true rfl) dX7_shrink_47 rfl ⟨Nat.zero_le _, Nat.zero_le _⟩ ?_
            refine V_iinc (k := 3) (v := x3 + (-1)) (lv' := [(3, .int (x3 + (-1))), (0, .ref (ab 0)), (1, .int x1), (2, .int x2)]) C0 dX7_shrink_50 rfl rfl (by decide) rfl rfl ?_
            refine V_goto (tgt := 34) C0 dX7_shrink_53 (by decide) ?_
            exact V.sub [1, 2, 3, 0] rfl (hREC (x3 + (-1)) r_47 r_44.2.1 r_44.2.2.1 r_44.2.2.2 hf)
      refine V.sub [2, 3, 1, 0] rfl (hL34 ct.1 r_21 _ ?_ N ct.1 ct lt bc cw hf)
      intro ct_34 lt_34 bc_34 cw_34 hf
      refine V_iload_n C0 dX7_shrink_56 1 rfl rfl ?_
      refine V_aload_n C0 dX7_shrink_57 0 rfl rfl ?_
      refine V_get C0 fl_X7_shrink_10 0 rfl rfl dX7_shrink_58 rfl ?_
      refine V_get C0 fl_X7_shrink_96 1 rfl rfl dX7_shrink_61 rfl ?_
      refine V_isub C0 dX7_shrink_64 rfl ?_
      obtain rfl := some_inv hf
      exact V_iret C0 ahs_21 rfl rfl dX7_shrink_65
    · have hf := ite_f c7 hf
      refine V_bipush (v := (-2)) C0 dX7_shrink_10 (by decide) rfl ?_
      obtain rfl := some_inv hf
      exact V_iret C0 ahs rfl rfl dX7_shrink_12
abbrev RM_X7_letterOfText : Room := { frames := 0, cells := 0, slots := 0, locals := 0 }
set_option maxRecDepth 100000 in
set_option maxHeartbeats 4000000 in
theorem c_X7_letterOfText (l : Launch) (dC : Nat → ClassId) (dI : Nat → Nat → Nat) (cI cJ cZ cO : ClassId)  (N : Nat) (x0 : Int32) (x1 : Int32) (x2 : Int32) (o : Int32) (hf : f_X7_letterOfText N x0 x1 x2 = some o) : MetI l yX7_letterOfText wsX7_letterOfText RM_X7_letterOfText (dC, dI) (TY cI cJ cZ cO) [.int x0, .int x1, .int x2] ([] : va_W) (fun r (_ : Unit) => r = o) (fun _ => ([] : va_W)) := by
  refine MetI.ofV (cc := cX7_letterOfText) (maxL := 3) (ret := (some .int)) (own := RX7) (lv0 := [(0, .int x0), (1, .int x1), (2, .int x2)]) (by decide) rfl rfl (Nat.le_of_ble_eq_true rfl) rfl ?_
  intro p e s m below meth c A C0 _
  unfold f_X7_letterOfText at hf
  refine V_iload_n C0 dX7_letterOfText_0 2 rfl rfl ?_
  refine V_iload_n C0 dX7_letterOfText_1 1 rfl rfl ?_
  refine V_icmp_lt (tgt := 8) C0 dX7_letterOfText_2 (by decide) rfl (fun c2 => ?_) (fun c2 => ?_)
  · have hf := ite_t c2 hf
    refine V_iload_n C0 dX7_letterOfText_8 0 rfl rfl ?_
    refine V_iconst (v := 3) C0 dX7_letterOfText_9 (by decide) rfl ?_
    refine V_iload_n C0 dX7_letterOfText_10 1 rfl rfl ?_
    refine V_iconst (v := 1) C0 dX7_letterOfText_11 (by decide) rfl ?_
    refine V_isub C0 dX7_letterOfText_12 rfl ?_
    refine V_iload_n C0 dX7_letterOfText_13 2 rfl rfl ?_
    refine V_isub C0 dX7_letterOfText_14 rfl ?_
    refine V_imul C0 dX7_letterOfText_15 rfl ?_
    refine V_ishr C0 dX7_letterOfText_16 rfl ?_
    refine V_bipush (v := 7) C0 dX7_letterOfText_17 (by decide) rfl ?_
    refine V_iand C0 dX7_letterOfText_19 rfl ?_
    refine V_iconst (v := 1) C0 dX7_letterOfText_20 (by decide) rfl ?_
    refine V_isub C0 dX7_letterOfText_21 rfl ?_
    obtain rfl := some_inv hf
    exact V_iret C0 () rfl rfl dX7_letterOfText_22
  · have hf := ite_f c2 hf
    refine V_bipush (v := (-6)) C0 dX7_letterOfText_5 (by decide) rfl ?_
    obtain rfl := some_inv hf
    exact V_iret C0 () rfl rfl dX7_letterOfText_7
abbrev RM_X7_cutBest : Room := { frames := 5, cells := 0, slots := 0, locals := 119 }
theorem in_X7_cutBest_X7 : ∀ w ∈ u_ws RX7 TX7 12, w ∈ wsX7_cutBest := by decide +kernel
theorem fl_X7_cutBest_44 : FL RX7 wsX7_cutBest 7 44 6 RX7 TX7 12 := ⟨in_X7_cutBest_X7, rfl, by decide, by decide +kernel, rfl⟩
theorem fl_X7_cutBest_51 : FL RX7 wsX7_cutBest 7 51 7 RX7 TX7 12 := ⟨in_X7_cutBest_X7, rfl, by decide, by decide +kernel, rfl⟩
set_option maxRecDepth 100000 in
set_option maxHeartbeats 4000000 in
theorem c_X7_cutBest (l : Launch) (dC : Nat → ClassId) (dI : Nat → Nat → Nat) (cI cJ cZ cO : ClassId) (ab : Nat → Nat) (ac_ : Nat → Nat) (atr : Nat → Nat) (ah : Nat → Nat) (ap : Nat → Nat) (al : Nat → Nat) (abc : Nat → Nat) (aac : Nat → Nat) (anb : Nat → Nat) (afr : Nat → Nat) (N : Nat) (fr : CV) (lt : LV) (bc : BV) (x2 : Int32) (o : LV × BV) (hf : f_X7_cutBest N fr lt bc x2 = some o) : MetV l yX7_cutBest wsX7_cutBest RM_X7_cutBest (dC, dI) (TY cI cJ cZ cO) [.ref (ab 0), .ref (afr 0), .int x2] (W_BO cI cJ cZ cO ab ac_ atr ah ap al abc aac anb ++ (W_C cI cJ cZ cO afr fr.1 fr.2.1 fr.2.2.1 fr.2.2.2.1 fr.2.2.2.2.1 fr.2.2.2.2.2.1 fr.2.2.2.2.2.2.1 fr.2.2.2.2.2.2.2 ++ (W_L cI cJ cZ cO al lt.1 lt.2.1 lt.2.2.1 lt.2.2.2 ++ (W_B cI cJ cZ cO abc bc.1 bc.2.1 bc.2.2.1 bc.2.2.2.1 bc.2.2.2.2.1 bc.2.2.2.2.2.1 bc.2.2.2.2.2.2.1 bc.2.2.2.2.2.2.2)))) (fun _ : Unit => True) (fun _ => (W_BO cI cJ cZ cO ab ac_ atr ah ap al abc aac anb ++ (W_C cI cJ cZ cO afr fr.1 fr.2.1 fr.2.2.1 fr.2.2.2.1 fr.2.2.2.2.1 fr.2.2.2.2.2.1 fr.2.2.2.2.2.2.1 fr.2.2.2.2.2.2.2 ++ (W_L cI cJ cZ cO al o.1.1 o.1.2.1 o.1.2.2.1 o.1.2.2.2 ++ (W_B cI cJ cZ cO abc o.2.1 o.2.2.1 o.2.2.2.1 o.2.2.2.2.1 o.2.2.2.2.2.1 o.2.2.2.2.2.2.1 o.2.2.2.2.2.2.2.1 o.2.2.2.2.2.2.2.2))))) := by
  refine MetV.ofV (cc := cX7_cutBest) (maxL := 3) (ret := none) (own := RX7) (lv0 := [(0, .ref (ab 0)), (1, .ref (afr 0)), (2, .int x2)]) (by decide) rfl rfl (Nat.le_of_ble_eq_true rfl) rfl ?_
  intro p e s m below meth c A C0 _
  unfold f_X7_cutBest at hf
  refine V_aload_n C0 dX7_cutBest_0 0 rfl rfl ?_
  refine V_get C0 fl_X7_cutBest_44 0 rfl rfl dX7_cutBest_1 rfl ?_
  refine V_aload_n C0 dX7_cutBest_4 1 rfl rfl ?_
  refine V_iload_n C0 dX7_cutBest_5 2 rfl rfl ?_
  obtain ⟨r_6, hc_6, hf⟩ := bind_inv hf
  refine V_cVV (ws' := (W_BO cI cJ cZ cO ab ac_ atr ah ap al abc aac anb ++ (W_C cI cJ cZ cO afr fr.1 fr.2.1 fr.2.2.1 fr.2.2.2.1 fr.2.2.2.2.1 fr.2.2.2.2.2.1 fr.2.2.2.2.2.2.1 fr.2.2.2.2.2.2.2 ++ (W_L cI cJ cZ cO al r_6.1 r_6.2.1 r_6.2.2.1 r_6.2.2.2 ++ (W_B cI cJ cZ cO abc bc.1 bc.2.1 bc.2.2.1 bc.2.2.2.1 bc.2.2.2.2.1 bc.2.2.2.2.2.1 bc.2.2.2.2.2.2.1 bc.2.2.2.2.2.2.2))))) (As := [.ref (afr 0), .int x2]) (b := al 0) (st := []) C0 (c_X4_read l dC dI cI cJ cZ cO afr al N fr lt x2 r_6 hc_6) rfl 2 gX7_cutBest_X4_read (by decide +kernel) ⟨Nat.le_of_ble_eq_true rfl, Nat.le_of_ble_eq_true rfl⟩ rfl 8 4 rfl rfl  ⟨_, (pr (pt (pte pr1))), fun _ => (pr (pt (pte pr1)))⟩ rfl (Nat.le_of_ble_eq_true rfl) dX7_cutBest_6 rfl ⟨Nat.zero_le _, Nat.zero_le _⟩ ?_
  refine V_aload_n C0 dX7_cutBest_9 0 rfl rfl ?_
  refine V_get C0 fl_X7_cutBest_51 0 rfl rfl dX7_cutBest_10 rfl ?_
  refine V_aload_n C0 dX7_cutBest_13 0 rfl rfl ?_
  refine V_get C0 fl_X7_cutBest_44 0 rfl rfl dX7_cutBest_14 rfl ?_
  refine V_iconst (v := (-1)) C0 dX7_cutBest_17 (by decide) rfl ?_
  obtain ⟨r_18, hc_18, hf⟩ := bind_inv hf
  refine V_cVV (ws' := (W_BO cI cJ cZ cO ab ac_ atr ah ap al abc aac anb ++ (W_C cI cJ cZ cO afr fr.1 fr.2.1 fr.2.2.1 fr.2.2.2.1 fr.2.2.2.2.1 fr.2.2.2.2.2.1 fr.2.2.2.2.2.2.1 fr.2.2.2.2.2.2.2 ++ (W_L cI cJ cZ cO al r_6.1 r_6.2.1 r_6.2.2.1 r_6.2.2.2 ++ (W_B cI cJ cZ cO abc r_18.1 r_18.2.1 r_18.2.2.1 r_18.2.2.2.1 r_18.2.2.2.2.1 r_18.2.2.2.2.2.1 r_18.2.2.2.2.2.2.1 r_18.2.2.2.2.2.2.2))))) (As := [.ref (al 0), .int ((-1))]) (b := abc 0) (st := []) C0 (c_X1_find l dC dI cI cJ cZ cO al abc N r_6 bc (-1) r_18 hc_18) rfl 2 gX7_cutBest_X1_find (by decide +kernel) ⟨Nat.le_of_ble_eq_true rfl, Nat.le_of_ble_eq_true rfl⟩ rfl 12 1 rfl rfl  ⟨_, (pr (pr (pt pt1))), fun _ => (pr (pr (pt pt1)))⟩ rfl (Nat.le_of_ble_eq_true rfl) dX7_cutBest_18 rfl ⟨Nat.zero_le _, Nat.zero_le _⟩ ?_
  obtain rfl := some_inv hf
  exact V_vret C0 () trivial rfl dX7_cutBest_21
abbrev RM_X7_timesInBestCuts : Room := { frames := 6, cells := 0, slots := 0, locals := 141 }
theorem in_X7_timesInBestCuts_X1 : ∀ w ∈ u_ws RX1 TX1 8, w ∈ wsX7_timesInBestCuts := by decide +kernel
theorem in_X7_timesInBestCuts_X2 : ∀ w ∈ u_ws RX2 TX2 8, w ∈ wsX7_timesInBestCuts := by decide +kernel
theorem in_X7_timesInBestCuts_X7 : ∀ w ∈ u_ws RX7 TX7 12, w ∈ wsX7_timesInBestCuts := by decide +kernel
theorem fl_X7_timesInBestCuts_10 : FL RX7 wsX7_timesInBestCuts 7 10 0 RX7 TX7 12 := ⟨in_X7_timesInBestCuts_X7, rfl, by decide, by decide +kernel, rfl⟩
theorem fl_X7_timesInBestCuts_51 : FL RX7 wsX7_timesInBestCuts 7 51 7 RX7 TX7 12 := ⟨in_X7_timesInBestCuts_X7, rfl, by decide, by decide +kernel, rfl⟩
theorem fl_X7_timesInBestCuts_113 : FL RX7 wsX7_timesInBestCuts 2 113 4 RX2 TX2 8 := ⟨in_X7_timesInBestCuts_X2, rfl, by decide, by decide +kernel, rfl⟩
theorem fl_X7_timesInBestCuts_123 : FL RX7 wsX7_timesInBestCuts 2 123 6 RX2 TX2 8 := ⟨in_X7_timesInBestCuts_X2, rfl, by decide, by decide +kernel, rfl⟩
theorem fl_X7_timesInBestCuts_180 : FL RX7 wsX7_timesInBestCuts 1 180 3 RX1 TX1 8 := ⟨in_X7_timesInBestCuts_X1, rfl, by decide, by decide +kernel, rfl⟩
theorem fl_X7_timesInBestCuts_213 : FL RX7 wsX7_timesInBestCuts 1 213 5 RX1 TX1 8 := ⟨in_X7_timesInBestCuts_X1, rfl, by decide, by decide +kernel, rfl⟩
set_option maxRecDepth 100000 in
set_option maxHeartbeats 4000000 in
theorem c_X7_timesInBestCuts (l : Launch) (dC : Nat → ClassId) (dI : Nat → Nat → Nat) (cI cJ cZ cO : ClassId) (ab : Nat → Nat) (ac_ : Nat → Nat) (atr : Nat → Nat) (ah : Nat → Nat) (ap : Nat → Nat) (al : Nat → Nat) (abc : Nat → Nat) (aac : Nat → Nat) (anb : Nat → Nat) (N : Nat) (ct : CV) (lt : LV) (bc : BV) (x1 : Int32) (o : Int32 × LV × BV) (hf : f_X7_timesInBestCuts N ct lt bc x1 = some o) : MetI l yX7_timesInBestCuts wsX7_timesInBestCuts RM_X7_timesInBestCuts (dC, dI) (TY cI cJ cZ cO) [.ref (ab 0), .int x1] (W_BO cI cJ cZ cO ab ac_ atr ah ap al abc aac anb ++ (W_C cI cJ cZ cO ac_ ct.1 ct.2.1 ct.2.2.1 ct.2.2.2.1 ct.2.2.2.2.1 ct.2.2.2.2.2.1 ct.2.2.2.2.2.2.1 ct.2.2.2.2.2.2.2 ++ (W_L cI cJ cZ cO al lt.1 lt.2.1 lt.2.2.1 lt.2.2.2 ++ (W_B cI cJ cZ cO abc bc.1 bc.2.1 bc.2.2.1 bc.2.2.2.1 bc.2.2.2.2.1 bc.2.2.2.2.2.1 bc.2.2.2.2.2.2.1 bc.2.2.2.2.2.2.2)))) (fun r (_ : Unit) => r = o.1) (fun _ => (W_BO cI cJ cZ cO ab ac_ atr ah ap al abc aac anb ++ (W_C cI cJ cZ cO ac_ ct.1 ct.2.1 ct.2.2.1 ct.2.2.2.1 ct.2.2.2.2.1 ct.2.2.2.2.2.1 ct.2.2.2.2.2.2.1 ct.2.2.2.2.2.2.2 ++ (W_L cI cJ cZ cO al o.2.1.1 o.2.1.2.1 o.2.1.2.2.1 o.2.1.2.2.2 ++ (W_B cI cJ cZ cO abc o.2.2.1 o.2.2.2.1 o.2.2.2.2.1 o.2.2.2.2.2.1 o.2.2.2.2.2.2.1 o.2.2.2.2.2.2.2.1 o.2.2.2.2.2.2.2.2.1 o.2.2.2.2.2.2.2.2.2))))) := by
  refine MetI.ofV (cc := cX7_timesInBestCuts) (maxL := 5) (ret := (some .int)) (own := RX7) (lv0 := [(0, .ref (ab 0)), (1, .int x1)]) (by decide) rfl rfl (Nat.le_of_ble_eq_true rfl) rfl ?_
  intro p e s m below meth c A C0 _
  unfold f_X7_timesInBestCuts at hf
  refine V_iconst (v := 0) C0 dX7_timesInBestCuts_0 (by decide) rfl ?_
  refine V_istore_n (lv' := [(2, .int 0), (0, .ref (ab 0)), (1, .int x1)]) C0 dX7_timesInBestCuts_1 rfl (by decide) rfl rfl ?_
  refine V_iconst (v := 0) C0 dX7_timesInBestCuts_2 (by decide) rfl ?_
  refine V_istore_n (lv' := [(3, .int 0), (2, .int 0), (0, .ref (ab 0)), (1, .int x1)]) C0 dX7_timesInBestCuts_3 rfl (by decide) rfl rfl ?_
  have hL4 : ∀ (K : Int32 → LV → BV → Option (Int32 × LV × BV)), (∀ (x2 : Int32) (lt : LV) (bc : BV), K x2 lt bc = some o → V p l e RM_X7_timesInBestCuts s m ([.ref (ab 0), .int x1] : List Value).toArray below meth c 5 (dC, dI) A (MQ below (va_Qi (fun r (_ : Unit) => r = o.1) (PostW (dC, dI) (TY cI cJ cZ cO) A (fun _ => (W_BO cI cJ cZ cO ab ac_ atr ah ap al abc aac anb ++ (W_C cI cJ cZ cO ac_ ct.1 ct.2.1 ct.2.2.1 ct.2.2.2.1 ct.2.2.2.2.1 ct.2.2.2.2.2.1 ct.2.2.2.2.2.2.1 ct.2.2.2.2.2.2.2 ++ (W_L cI cJ cZ cO al o.2.1.1 o.2.1.2.1 o.2.1.2.2.1 o.2.1.2.2.2 ++ (W_B cI cJ cZ cO abc o.2.2.1 o.2.2.2.1 o.2.2.2.2.1 o.2.2.2.2.2.1 o.2.2.2.2.2.2.1 o.2.2.2.2.2.2.2.1 o.2.2.2.2.2.2.2.2.1 o.2.2.2.2.2.2.2.2.2)))))) A) ([.ref (ab 0), .int x1] : List Value).toArray s 0 0 A) 0 0 (W_BO cI cJ cZ cO ab ac_ atr ah ap al abc aac anb ++ (W_C cI cJ cZ cO ac_ ct.1 ct.2.1 ct.2.2.1 ct.2.2.2.1 ct.2.2.2.2.1 ct.2.2.2.2.2.1 ct.2.2.2.2.2.2.1 ct.2.2.2.2.2.2.2 ++ (W_L cI cJ cZ cO al lt.1 lt.2.1 lt.2.2.1 lt.2.2.2 ++ (W_B cI cJ cZ cO abc bc.1 bc.2.1 bc.2.2.1 bc.2.2.2.1 bc.2.2.2.2.1 bc.2.2.2.2.2.1 bc.2.2.2.2.2.2.1 bc.2.2.2.2.2.2.2)))) 77 [(2, .int x2)] []) → ∀ (n : Nat) (x2 : Int32) (x3 : Int32) (lt : LV) (bc : BV), f_X7_timesInBestCuts_L4 N ct x1  K n x2 x3 lt bc = some o → V p l e RM_X7_timesInBestCuts s m ([.ref (ab 0), .int x1] : List Value).toArray below meth c 5 (dC, dI) A (MQ below (va_Qi (fun r (_ : Unit) => r = o.1) (PostW (dC, dI) (TY cI cJ cZ cO) A (fun _ => (W_BO cI cJ cZ cO ab ac_ atr ah ap al abc aac anb ++ (W_C cI cJ cZ cO ac_ ct.1 ct.2.1 ct.2.2.1 ct.2.2.2.1 ct.2.2.2.2.1 ct.2.2.2.2.2.1 ct.2.2.2.2.2.2.1 ct.2.2.2.2.2.2.2 ++ (W_L cI cJ cZ cO al o.2.1.1 o.2.1.2.1 o.2.1.2.2.1 o.2.1.2.2.2 ++ (W_B cI cJ cZ cO abc o.2.2.1 o.2.2.2.1 o.2.2.2.2.1 o.2.2.2.2.2.1 o.2.2.2.2.2.2.1 o.2.2.2.2.2.2.2.1 o.2.2.2.2.2.2.2.2.1 o.2.2.2.2.2.2.2.2.2)))))) A) ([.ref (ab 0), .int x1] : List Value).toArray s 0 0 A) 0 0 (W_BO cI cJ cZ cO ab ac_ atr ah ap al abc aac anb ++ (W_C cI cJ cZ cO ac_ ct.1 ct.2.1 ct.2.2.1 ct.2.2.2.1 ct.2.2.2.2.1 ct.2.2.2.2.2.1 ct.2.2.2.2.2.2.1 ct.2.2.2.2.2.2.2 ++ (W_L cI cJ cZ cO al lt.1 lt.2.1 lt.2.2.1 lt.2.2.2 ++ (W_B cI cJ cZ cO abc bc.1 bc.2.1 bc.2.2.1 bc.2.2.2.1 bc.2.2.2.2.1 bc.2.2.2.2.2.1 bc.2.2.2.2.2.2.1 bc.2.2.2.2.2.2.2)))) 4 [(0, .ref (ab 0)), (1, .int x1), (2, .int x2), (3, .int x3)] [] := by
    intro  K hK n
    induction n with
    | zero => intro x2 x3 lt bc hf; cases hf
    | succ n hREC =>
      intro x2 x3 lt bc hf
      rw [f_X7_timesInBestCuts_L4] at hf
      refine V_iload_n C0 dX7_timesInBestCuts_4 3 rfl rfl ?_
      refine V_aload_n C0 dX7_timesInBestCuts_5 0 rfl rfl ?_
      refine V_get C0 fl_X7_timesInBestCuts_10 0 rfl rfl dX7_timesInBestCuts_6 rfl ?_
      refine V_get C0 fl_X7_timesInBestCuts_113 1 rfl rfl dX7_timesInBestCuts_9 rfl ?_
      refine V_icmp_ge (tgt := 77) C0 dX7_timesInBestCuts_12 (by decide) rfl (fun c12 => ?_) (fun c12 => ?_)
      · have hf := ite_t c12 hf
        exact V.sub [2] rfl (hK x2 lt bc hf)
      · have hf := ite_f c12 hf
        refine V_aload_n C0 dX7_timesInBestCuts_15 0 rfl rfl ?_
        refine V_aload_n C0 dX7_timesInBestCuts_16 0 rfl rfl ?_
        refine V_get C0 fl_X7_timesInBestCuts_10 0 rfl rfl dX7_timesInBestCuts_17 rfl ?_
        refine V_iload_n C0 dX7_timesInBestCuts_20 3 rfl rfl ?_
        obtain ⟨r_21, hc_21, hf⟩ := bind_inv hf
        refine V_cVV (ws' := (W_BO cI cJ cZ cO ab ac_ atr ah ap al abc aac anb ++ (W_C cI cJ cZ cO ac_ ct.1 ct.2.1 ct.2.2.1 ct.2.2.2.1 ct.2.2.2.2.1 ct.2.2.2.2.2.1 ct.2.2.2.2.2.2.1 ct.2.2.2.2.2.2.2 ++ (W_L cI cJ cZ cO al r_21.1.1 r_21.1.2.1 r_21.1.2.2.1 r_21.1.2.2.2 ++ (W_B cI cJ cZ cO abc r_21.2.1 r_21.2.2.1 r_21.2.2.2.1 r_21.2.2.2.2.1 r_21.2.2.2.2.2.1 r_21.2.2.2.2.2.2.1 r_21.2.2.2.2.2.2.2.1 r_21.2.2.2.2.2.2.2.2))))) (As := [.ref (ac_ 0), .int x3]) (b := ab 0) (st := []) C0 (c_X7_cutBest l dC dI cI cJ cZ cO ab ac_ atr ah ap al abc aac anb ac_ N ct lt bc x3 r_21 hc_21) rfl 2 gX7_timesInBestCuts_X7_cutBest (by decide +kernel) ⟨Nat.le_of_ble_eq_true rfl, Nat.le_of_ble_eq_true rfl⟩ rfl 0 7 rfl rfl  Cut.all rfl (Nat.le_of_ble_eq_true rfl) dX7_timesInBestCuts_21 rfl ⟨Nat.zero_le _, Nat.zero_le _⟩ ?_
        refine V_iconst (v := 0) C0 dX7_timesInBestCuts_24 (by decide) rfl ?_
        refine V_istore (lv' := [(4, .int 0), (0, .ref (ab 0)), (1, .int x1), (2, .int x2), (3, .int x3)]) C0 dX7_timesInBestCuts_25 (by decide) rfl rfl ?_
        have hL27 : ∀ (x3 : Int32) (lt : LV) (bc : BV) (K : Int32 → Option (Int32 × LV × BV)), (∀ (x2 : Int32), K x2 = some o → V p l e RM_X7_timesInBestCuts s m ([.ref (ab 0), .int x1] : List Value).toArray below meth c 5 (dC, dI) A (MQ below (va_Qi (fun r (_ : Unit) => r = o.1) (PostW (dC, dI) (TY cI cJ cZ cO) A (fun _ => (W_BO cI cJ cZ cO ab ac_ atr ah ap al abc aac anb ++ (W_C cI cJ cZ cO ac_ ct.1 ct.2.1 ct.2.2.1 ct.2.2.2.1 ct.2.2.2.2.1 ct.2.2.2.2.2.1 ct.2.2.2.2.2.2.1 ct.2.2.2.2.2.2.2 ++ (W_L cI cJ cZ cO al o.2.1.1 o.2.1.2.1 o.2.1.2.2.1 o.2.1.2.2.2 ++ (W_B cI cJ cZ cO abc o.2.2.1 o.2.2.2.1 o.2.2.2.2.1 o.2.2.2.2.2.1 o.2.2.2.2.2.2.1 o.2.2.2.2.2.2.2.1 o.2.2.2.2.2.2.2.2.1 o.2.2.2.2.2.2.2.2.2)))))) A) ([.ref (ab 0), .int x1] : List Value).toArray s 0 0 A) 0 0 (W_BO cI cJ cZ cO ab ac_ atr ah ap al abc aac anb ++ (W_C cI cJ cZ cO ac_ ct.1 ct.2.1 ct.2.2.1 ct.2.2.2.1 ct.2.2.2.2.1 ct.2.2.2.2.2.1 ct.2.2.2.2.2.2.1 ct.2.2.2.2.2.2.2 ++ (W_L cI cJ cZ cO al lt.1 lt.2.1 lt.2.2.1 lt.2.2.2 ++ (W_B cI cJ cZ cO abc bc.1 bc.2.1 bc.2.2.1 bc.2.2.2.1 bc.2.2.2.2.1 bc.2.2.2.2.2.1 bc.2.2.2.2.2.2.1 bc.2.2.2.2.2.2.2)))) 71 [(0, .ref (ab 0)), (1, .int x1), (2, .int x2), (3, .int x3)] []) → ∀ (n : Nat) (x2 : Int32) (x4 : Int32), f_X7_timesInBestCuts_L27 N ct x1 x3 lt bc K n x2 x4 = some o → V p l e RM_X7_timesInBestCuts s m ([.ref (ab 0), .int x1] : List Value).toArray below meth c 5 (dC, dI) A (MQ below (va_Qi (fun r (_ : Unit) => r = o.1) (PostW (dC, dI) (TY cI cJ cZ cO) A (fun _ => (W_BO cI cJ cZ cO ab ac_ atr ah ap al abc aac anb ++ (W_C cI cJ cZ cO ac_ ct.1 ct.2.1 ct.2.2.1 ct.2.2.2.1 ct.2.2.2.2.1 ct.2.2.2.2.2.1 ct.2.2.2.2.2.2.1 ct.2.2.2.2.2.2.2 ++ (W_L cI cJ cZ cO al o.2.1.1 o.2.1.2.1 o.2.1.2.2.1 o.2.1.2.2.2 ++ (W_B cI cJ cZ cO abc o.2.2.1 o.2.2.2.1 o.2.2.2.2.1 o.2.2.2.2.2.1 o.2.2.2.2.2.2.1 o.2.2.2.2.2.2.2.1 o.2.2.2.2.2.2.2.2.1 o.2.2.2.2.2.2.2.2.2)))))) A) ([.ref (ab 0), .int x1] : List Value).toArray s 0 0 A) 0 0 (W_BO cI cJ cZ cO ab ac_ atr ah ap al abc aac anb ++ (W_C cI cJ cZ cO ac_ ct.1 ct.2.1 ct.2.2.1 ct.2.2.2.1 ct.2.2.2.2.1 ct.2.2.2.2.2.1 ct.2.2.2.2.2.2.1 ct.2.2.2.2.2.2.2 ++ (W_L cI cJ cZ cO al lt.1 lt.2.1 lt.2.2.1 lt.2.2.2 ++ (W_B cI cJ cZ cO abc bc.1 bc.2.1 bc.2.2.1 bc.2.2.2.1 bc.2.2.2.2.1 bc.2.2.2.2.2.1 bc.2.2.2.2.2.2.1 bc.2.2.2.2.2.2.2)))) 27 [(0, .ref (ab 0)), (1, .int x1), (2, .int x2), (3, .int x3), (4, .int x4)] [] := by
          intro x3 lt bc K hK n
          induction n with
          | zero => intro x2 x4 hf; cases hf
          | succ n hREC =>
            intro x2 x4 hf
            rw [f_X7_timesInBestCuts_L27] at hf
            refine V_iload C0 dX7_timesInBestCuts_27 4 rfl rfl ?_
            refine V_aload_n C0 dX7_timesInBestCuts_29 0 rfl rfl ?_
            refine V_get C0 fl_X7_timesInBestCuts_51 0 rfl rfl dX7_timesInBestCuts_30 rfl ?_
            refine V_get C0 fl_X7_timesInBestCuts_180 12 rfl rfl dX7_timesInBestCuts_33 rfl ?_
            refine V_icmp_ge (tgt := 71) C0 dX7_timesInBestCuts_36 (by decide) rfl (fun c36 => ?_) (fun c36 => ?_)
            · have hf := ite_t c36 hf
              exact V.sub [0, 1, 2, 3] rfl (hK x2 hf)
            · have hf := ite_f c36 hf
              refine V_aload_n C0 dX7_timesInBestCuts_39 0 rfl rfl ?_
              refine V_get C0 fl_X7_timesInBestCuts_51 0 rfl rfl dX7_timesInBestCuts_40 rfl ?_
              refine V_get C0 fl_X7_timesInBestCuts_213 12 rfl rfl dX7_timesInBestCuts_43 rfl ?_
              refine V_iload C0 dX7_timesInBestCuts_46 4 rfl rfl ?_
              obtain ⟨hi48, hf⟩ := ck_inv hf
              refine V_iald C0 16 0 rfl rfl hi48 dX7_timesInBestCuts_48 rfl ?_
              refine V_iload_n C0 dX7_timesInBestCuts_49 1 rfl rfl ?_
              refine V_icmp_ne (tgt := 65) C0 dX7_timesInBestCuts_50 (by decide) rfl (fun c50 => ?_) (fun c50 => ?_)
              · have hf := ite_f c50 hf
                refine V_iinc (k := 4) (v := x4 + 1) (lv' := [(4, .int (x4 + 1)), (0, .ref (ab 0)), (1, .int x1), (2, .int x2), (3, .int x3)]) C0 dX7_timesInBestCuts_65 rfl rfl (by decide) rfl rfl ?_
                refine V_goto (tgt := 27) C0 dX7_timesInBestCuts_68 (by decide) ?_
                exact V.sub [1, 2, 3, 4, 0] rfl (hREC x2 (x4 + 1) hf)
              · have hf := ite_t c50 hf
                refine V_iload_n C0 dX7_timesInBestCuts_53 2 rfl rfl ?_
                refine V_aload_n C0 dX7_timesInBestCuts_54 0 rfl rfl ?_
                refine V_get C0 fl_X7_timesInBestCuts_10 0 rfl rfl dX7_timesInBestCuts_55 rfl ?_
                refine V_get C0 fl_X7_timesInBestCuts_123 1 rfl rfl dX7_timesInBestCuts_58 rfl ?_
                refine V_iload_n C0 dX7_timesInBestCuts_61 3 rfl rfl ?_
                obtain ⟨hi62, hf⟩ := ck_inv hf
                refine V_iald C0 6 0 rfl rfl hi62 dX7_timesInBestCuts_62 rfl ?_
                refine V_iadd C0 dX7_timesInBestCuts_63 rfl ?_
                refine V_topi (fun x2_1 ex2_1 => ?_)
                have hf := bd_inv ex2_1 hf
                refine V_istore_n (lv' := [(2, .int x2_1), (0, .ref (ab 0)), (1, .int x1), (3, .int x3), (4, .int x4)]) C0 dX7_timesInBestCuts_64 rfl (by decide) rfl rfl ?_
                refine V_iinc (k := 4) (v := x4 + 1) (lv' := [(4, .int (x4 + 1)), (2, .int x2_1), (0, .ref (ab 0)), (1, .int x1), (3, .int x3)]) C0 dX7_timesInBestCuts_65 rfl rfl (by decide) rfl rfl ?_
                refine V_goto (tgt := 27) C0 dX7_timesInBestCuts_68 (by decide) ?_
                exact V.sub [2, 3, 1, 4, 0] rfl (hREC x2_1 (x4 + 1) hf)
        refine V.sub [1, 2, 3, 4, 0] rfl (hL27 x3 r_21.1 r_21.2 _ ?_ N x2 0 hf)
        intro x2_27 hf
        refine V_iinc (k := 3) (v := x3 + 1) (lv' := [(3, .int (x3 + 1)), (0, .ref (ab 0)), (1, .int x1), (2, .int x2_27)]) C0 dX7_timesInBestCuts_71 rfl rfl (by decide) rfl rfl ?_
        refine V_goto (tgt := 4) C0 dX7_timesInBestCuts_74 (by decide) ?_
        exact V.sub [1, 2, 3, 0] rfl (hREC x2_27 (x3 + 1) r_21.1 r_21.2 hf)
  refine V.sub [2, 3, 1, 0] rfl (hL4  _ ?_ N 0 0 lt bc hf)
  intro x2_4 lt_4 bc_4 hf
  refine V_iload_n C0 dX7_timesInBestCuts_77 0 rfl rfl ?_
  obtain rfl := some_inv hf
  exact V_iret C0 () rfl rfl dX7_timesInBestCuts_78
abbrev RM_X7_costOfAll : Room := { frames := 6, cells := 0, slots := 0, locals := 141 }
theorem in_X7_costOfAll_X2 : ∀ w ∈ u_ws RX2 TX2 8, w ∈ wsX7_costOfAll := by decide +kernel
theorem in_X7_costOfAll_X7 : ∀ w ∈ u_ws RX7 TX7 12, w ∈ wsX7_costOfAll := by decide +kernel
theorem fl_X7_costOfAll_51 : FL RX7 wsX7_costOfAll 7 51 7 RX7 TX7 12 := ⟨in_X7_costOfAll_X7, rfl, by decide, by decide +kernel, rfl⟩
theorem fl_X7_costOfAll_113 : FL RX7 wsX7_costOfAll 2 113 4 RX2 TX2 8 := ⟨in_X7_costOfAll_X2, rfl, by decide, by decide +kernel, rfl⟩
theorem fl_X7_costOfAll_123 : FL RX7 wsX7_costOfAll 2 123 6 RX2 TX2 8 := ⟨in_X7_costOfAll_X2, rfl, by decide, by decide +kernel, rfl⟩
set_option maxRecDepth 100000 in
set_option maxHeartbeats 4000000 in
theorem c_X7_costOfAll (l : Launch) (dC : Nat → ClassId) (dI : Nat → Nat → Nat) (cI cJ cZ cO : ClassId) (ab : Nat → Nat) (ac_ : Nat → Nat) (atr : Nat → Nat) (ah : Nat → Nat) (ap : Nat → Nat) (al : Nat → Nat) (abc : Nat → Nat) (aac : Nat → Nat) (anb : Nat → Nat) (afr : Nat → Nat) (N : Nat) (fr : CV) (lt : LV) (bc : BV) (o : Int32 × LV × BV) (hf : f_X7_costOfAll N fr lt bc = some o) : MetI l yX7_costOfAll wsX7_costOfAll RM_X7_costOfAll (dC, dI) (TY cI cJ cZ cO) [.ref (ab 0), .ref (afr 0)] (W_BO cI cJ cZ cO ab ac_ atr ah ap al abc aac anb ++ (W_C cI cJ cZ cO afr fr.1 fr.2.1 fr.2.2.1 fr.2.2.2.1 fr.2.2.2.2.1 fr.2.2.2.2.2.1 fr.2.2.2.2.2.2.1 fr.2.2.2.2.2.2.2 ++ (W_L cI cJ cZ cO al lt.1 lt.2.1 lt.2.2.1 lt.2.2.2 ++ (W_B cI cJ cZ cO abc bc.1 bc.2.1 bc.2.2.1 bc.2.2.2.1 bc.2.2.2.2.1 bc.2.2.2.2.2.1 bc.2.2.2.2.2.2.1 bc.2.2.2.2.2.2.2)))) (fun r (_ : Unit) => r = o.1) (fun _ => (W_BO cI cJ cZ cO ab ac_ atr ah ap al abc aac anb ++ (W_C cI cJ cZ cO afr fr.1 fr.2.1 fr.2.2.1 fr.2.2.2.1 fr.2.2.2.2.1 fr.2.2.2.2.2.1 fr.2.2.2.2.2.2.1 fr.2.2.2.2.2.2.2 ++ (W_L cI cJ cZ cO al o.2.1.1 o.2.1.2.1 o.2.1.2.2.1 o.2.1.2.2.2 ++ (W_B cI cJ cZ cO abc o.2.2.1 o.2.2.2.1 o.2.2.2.2.1 o.2.2.2.2.2.1 o.2.2.2.2.2.2.1 o.2.2.2.2.2.2.2.1 o.2.2.2.2.2.2.2.2.1 o.2.2.2.2.2.2.2.2.2))))) := by
  refine MetI.ofV (cc := cX7_costOfAll) (maxL := 4) (ret := (some .int)) (own := RX7) (lv0 := [(0, .ref (ab 0)), (1, .ref (afr 0))]) (by decide) rfl rfl (Nat.le_of_ble_eq_true rfl) rfl ?_
  intro p e s m below meth c A C0 _
  unfold f_X7_costOfAll at hf
  refine V_iconst (v := 0) C0 dX7_costOfAll_0 (by decide) rfl ?_
  refine V_istore_n (lv' := [(2, .int 0), (0, .ref (ab 0)), (1, .ref (afr 0))]) C0 dX7_costOfAll_1 rfl (by decide) rfl rfl ?_
  refine V_iconst (v := 0) C0 dX7_costOfAll_2 (by decide) rfl ?_
  refine V_istore_n (lv' := [(3, .int 0), (2, .int 0), (0, .ref (ab 0)), (1, .ref (afr 0))]) C0 dX7_costOfAll_3 rfl (by decide) rfl rfl ?_
  have hL4 : ∀ (K : Int32 → LV → BV → Option (Int32 × LV × BV)), (∀ (x2 : Int32) (lt : LV) (bc : BV), K x2 lt bc = some o → V p l e RM_X7_costOfAll s m ([.ref (ab 0), .ref (afr 0)] : List Value).toArray below meth c 4 (dC, dI) A (MQ below (va_Qi (fun r (_ : Unit) => r = o.1) (PostW (dC, dI) (TY cI cJ cZ cO) A (fun _ => (W_BO cI cJ cZ cO ab ac_ atr ah ap al abc aac anb ++ (W_C cI cJ cZ cO afr fr.1 fr.2.1 fr.2.2.1 fr.2.2.2.1 fr.2.2.2.2.1 fr.2.2.2.2.2.1 fr.2.2.2.2.2.2.1 fr.2.2.2.2.2.2.2 ++ (W_L cI cJ cZ cO al o.2.1.1 o.2.1.2.1 o.2.1.2.2.1 o.2.1.2.2.2 ++ (W_B cI cJ cZ cO abc o.2.2.1 o.2.2.2.1 o.2.2.2.2.1 o.2.2.2.2.2.1 o.2.2.2.2.2.2.1 o.2.2.2.2.2.2.2.1 o.2.2.2.2.2.2.2.2.1 o.2.2.2.2.2.2.2.2.2)))))) A) ([.ref (ab 0), .ref (afr 0)] : List Value).toArray s 0 0 A) 0 0 (W_BO cI cJ cZ cO ab ac_ atr ah ap al abc aac anb ++ (W_C cI cJ cZ cO afr fr.1 fr.2.1 fr.2.2.1 fr.2.2.2.1 fr.2.2.2.2.1 fr.2.2.2.2.2.1 fr.2.2.2.2.2.2.1 fr.2.2.2.2.2.2.2 ++ (W_L cI cJ cZ cO al lt.1 lt.2.1 lt.2.2.1 lt.2.2.2 ++ (W_B cI cJ cZ cO abc bc.1 bc.2.1 bc.2.2.1 bc.2.2.2.1 bc.2.2.2.2.1 bc.2.2.2.2.2.1 bc.2.2.2.2.2.2.1 bc.2.2.2.2.2.2.2)))) 41 [(2, .int x2)] []) → ∀ (n : Nat) (x2 : Int32) (x3 : Int32) (lt : LV) (bc : BV), f_X7_costOfAll_L4 N fr  K n x2 x3 lt bc = some o → V p l e RM_X7_costOfAll s m ([.ref (ab 0), .ref (afr 0)] : List Value).toArray below meth c 4 (dC, dI) A (MQ below (va_Qi (fun r (_ : Unit) => r = o.1) (PostW (dC, dI) (TY cI cJ cZ cO) A (fun _ => (W_BO cI cJ cZ cO ab ac_ atr ah ap al abc aac anb ++ (W_C cI cJ cZ cO afr fr.1 fr.2.1 fr.2.2.1 fr.2.2.2.1 fr.2.2.2.2.1 fr.2.2.2.2.2.1 fr.2.2.2.2.2.2.1 fr.2.2.2.2.2.2.2 ++ (W_L cI cJ cZ cO al o.2.1.1 o.2.1.2.1 o.2.1.2.2.1 o.2.1.2.2.2 ++ (W_B cI cJ cZ cO abc o.2.2.1 o.2.2.2.1 o.2.2.2.2.1 o.2.2.2.2.2.1 o.2.2.2.2.2.2.1 o.2.2.2.2.2.2.2.1 o.2.2.2.2.2.2.2.2.1 o.2.2.2.2.2.2.2.2.2)))))) A) ([.ref (ab 0), .ref (afr 0)] : List Value).toArray s 0 0 A) 0 0 (W_BO cI cJ cZ cO ab ac_ atr ah ap al abc aac anb ++ (W_C cI cJ cZ cO afr fr.1 fr.2.1 fr.2.2.1 fr.2.2.2.1 fr.2.2.2.2.1 fr.2.2.2.2.2.1 fr.2.2.2.2.2.2.1 fr.2.2.2.2.2.2.2 ++ (W_L cI cJ cZ cO al lt.1 lt.2.1 lt.2.2.1 lt.2.2.2 ++ (W_B cI cJ cZ cO abc bc.1 bc.2.1 bc.2.2.1 bc.2.2.2.1 bc.2.2.2.2.1 bc.2.2.2.2.2.1 bc.2.2.2.2.2.2.1 bc.2.2.2.2.2.2.2)))) 4 [(0, .ref (ab 0)), (1, .ref (afr 0)), (2, .int x2), (3, .int x3)] [] := by
    intro  K hK n
    induction n with
    | zero => intro x2 x3 lt bc hf; cases hf
    | succ n hREC =>
      intro x2 x3 lt bc hf
      rw [f_X7_costOfAll_L4] at hf
      refine V_iload_n C0 dX7_costOfAll_4 3 rfl rfl ?_
      refine V_aload_n C0 dX7_costOfAll_5 1 rfl rfl ?_
      refine V_get C0 fl_X7_costOfAll_113 1 rfl rfl dX7_costOfAll_6 rfl ?_
      refine V_icmp_ge (tgt := 41) C0 dX7_costOfAll_9 (by decide) rfl (fun c9 => ?_) (fun c9 => ?_)
      · have hf := ite_t c9 hf
        exact V.sub [2] rfl (hK x2 lt bc hf)
      · have hf := ite_f c9 hf
        refine V_aload_n C0 dX7_costOfAll_12 0 rfl rfl ?_
        refine V_aload_n C0 dX7_costOfAll_13 1 rfl rfl ?_
        refine V_iload_n C0 dX7_costOfAll_14 3 rfl rfl ?_
        obtain ⟨r_15, hc_15, hf⟩ := bind_inv hf
        refine V_cVV (ws' := (W_BO cI cJ cZ cO ab ac_ atr ah ap al abc aac anb ++ (W_C cI cJ cZ cO afr fr.1 fr.2.1 fr.2.2.1 fr.2.2.2.1 fr.2.2.2.2.1 fr.2.2.2.2.2.1 fr.2.2.2.2.2.2.1 fr.2.2.2.2.2.2.2 ++ (W_L cI cJ cZ cO al r_15.1.1 r_15.1.2.1 r_15.1.2.2.1 r_15.1.2.2.2 ++ (W_B cI cJ cZ cO abc r_15.2.1 r_15.2.2.1 r_15.2.2.2.1 r_15.2.2.2.2.1 r_15.2.2.2.2.2.1 r_15.2.2.2.2.2.2.1 r_15.2.2.2.2.2.2.2.1 r_15.2.2.2.2.2.2.2.2))))) (As := [.ref (afr 0), .int x3]) (b := ab 0) (st := []) C0 (c_X7_cutBest l dC dI cI cJ cZ cO ab ac_ atr ah ap al abc aac anb afr N fr lt bc x3 r_15 hc_15) rfl 2 gX7_costOfAll_X7_cutBest (by decide +kernel) ⟨Nat.le_of_ble_eq_true rfl, Nat.le_of_ble_eq_true rfl⟩ rfl 0 7 rfl rfl  Cut.all rfl (Nat.le_of_ble_eq_true rfl) dX7_costOfAll_15 rfl ⟨Nat.zero_le _, Nat.zero_le _⟩ ?_
        refine V_iload_n C0 dX7_costOfAll_18 2 rfl rfl ?_
        refine V_aload_n C0 dX7_costOfAll_19 0 rfl rfl ?_
        refine V_get C0 fl_X7_costOfAll_51 0 rfl rfl dX7_costOfAll_20 rfl ?_
        obtain ⟨r_23, hc_23, hf⟩ := bind_inv hf
        refine V_cVI (ws' := (W_BO cI cJ cZ cO ab ac_ atr ah ap al abc aac anb ++ (W_C cI cJ cZ cO afr fr.1 fr.2.1 fr.2.2.1 fr.2.2.2.1 fr.2.2.2.2.1 fr.2.2.2.2.2.1 fr.2.2.2.2.2.2.1 fr.2.2.2.2.2.2.2 ++ (W_L cI cJ cZ cO al r_15.1.1 r_15.1.2.1 r_15.1.2.2.1 r_15.1.2.2.2 ++ (W_B cI cJ cZ cO abc r_15.2.1 r_15.2.2.1 r_15.2.2.2.1 r_15.2.2.2.2.1 r_15.2.2.2.2.2.1 r_15.2.2.2.2.2.2.1 r_15.2.2.2.2.2.2.2.1 r_15.2.2.2.2.2.2.2.2))))) (As := []) (b := abc 0) (st := [.int x2]) C0 (c_X1_cost l dC dI cI cJ cZ cO abc N r_15.2  r_23 hc_23) rfl 0 gX7_costOfAll_X1_cost (by decide +kernel) ⟨Nat.le_of_ble_eq_true rfl, Nat.le_of_ble_eq_true rfl⟩ rfl 12 1 rfl rfl  ⟨_, (pr (pr (pr pt1))), fun _ => (pr (pr (pr pt1)))⟩ rfl (Nat.le_of_ble_eq_true rfl) dX7_costOfAll_23 rfl ⟨Nat.zero_le _, Nat.zero_le _⟩ ?_
        refine V_aload_n C0 dX7_costOfAll_26 1 rfl rfl ?_
        refine V_get C0 fl_X7_costOfAll_123 1 rfl rfl dX7_costOfAll_27 rfl ?_
        refine V_iload_n C0 dX7_costOfAll_30 3 rfl rfl ?_
        obtain ⟨hi31, hf⟩ := ck_inv hf
        refine V_iald C0 6 0 rfl rfl hi31 dX7_costOfAll_31 rfl ?_
        refine V_imul C0 dX7_costOfAll_32 rfl ?_
        refine V_iadd C0 dX7_costOfAll_33 rfl ?_
        refine V_topi (fun x2_1 ex2_1 => ?_)
        have hf := bd_inv ex2_1 hf
        refine V_istore_n (lv' := [(2, .int x2_1), (0, .ref (ab 0)), (1, .ref (afr 0)), (3, .int x3)]) C0 dX7_costOfAll_34 rfl (by decide) rfl rfl ?_
        refine V_iinc (k := 3) (v := x3 + 1) (lv' := [(3, .int (x3 + 1)), (2, .int x2_1), (0, .ref (ab 0)), (1, .ref (afr 0))]) C0 dX7_costOfAll_35 rfl rfl (by decide) rfl rfl ?_
        refine V_goto (tgt := 4) C0 dX7_costOfAll_38 (by decide) ?_
        exact V.sub [2, 3, 1, 0] rfl (hREC x2_1 (x3 + 1) r_15.1 r_15.2 hf)
  refine V.sub [2, 3, 1, 0] rfl (hL4  _ ?_ N 0 0 lt bc hf)
  intro x2_4 lt_4 bc_4 hf
  refine V_iload_n C0 dX7_costOfAll_41 0 rfl rfl ?_
  obtain rfl := some_inv hf
  exact V_iret C0 () rfl rfl dX7_costOfAll_42
abbrev RM_X7_ofPiece : Room := { frames := 7, cells := 0, slots := 0, locals := 165 }
theorem in_X7_ofPiece_X2 : ∀ w ∈ u_ws RX2 TX2 8, w ∈ wsX7_ofPiece := by decide +kernel
theorem in_X7_ofPiece_X7 : ∀ w ∈ u_ws RX7 TX7 12, w ∈ wsX7_ofPiece := by decide +kernel
theorem fl_X7_ofPiece_10 : FL RX7 wsX7_ofPiece 7 10 0 RX7 TX7 12 := ⟨in_X7_ofPiece_X7, rfl, by decide, by decide +kernel, rfl⟩
theorem fl_X7_ofPiece_69 : FL RX7 wsX7_ofPiece 7 69 10 RX7 TX7 12 := ⟨in_X7_ofPiece_X7, rfl, by decide, by decide +kernel, rfl⟩
theorem fl_X7_ofPiece_73 : FL RX7 wsX7_ofPiece 7 73 11 RX7 TX7 12 := ⟨in_X7_ofPiece_X7, rfl, by decide, by decide +kernel, rfl⟩
theorem fl_X7_ofPiece_103 : FL RX7 wsX7_ofPiece 2 103 3 RX2 TX2 8 := ⟨in_X7_ofPiece_X2, rfl, by decide, by decide +kernel, rfl⟩
theorem fl_X7_ofPiece_152 : FL RX7 wsX7_ofPiece 2 152 2 RX2 TX2 8 := ⟨in_X7_ofPiece_X2, rfl, by decide, by decide +kernel, rfl⟩
theorem fl_X7_ofPiece_155 : FL RX7 wsX7_ofPiece 2 155 1 RX2 TX2 8 := ⟨in_X7_ofPiece_X2, rfl, by decide, by decide +kernel, rfl⟩
set_option maxRecDepth 100000 in
set_option maxHeartbeats 4000000 in
theorem c_X7_ofPiece (l : Launch) (dC : Nat → ClassId) (dI : Nat → Nat → Nat) (cI cJ cZ cO : ClassId) (ab : Nat → Nat) (ac_ : Nat → Nat) (atr : Nat → Nat) (ah : Nat → Nat) (ap : Nat → Nat) (al : Nat → Nat) (abc : Nat → Nat) (aac : Nat → Nat) (anb : Nat → Nat) (N : Nat) (ct : CV) (lt : LV) (bc : BV) (ac : AV) (bn : (Nat → Int32)) (cw : (Nat → Int32)) (x1 : Int32) (x2 : Int32) (o : Int32 × LV × BV × AV × (Nat → Int32) × (Nat → Int32)) (hf : f_X7_ofPiece N ct lt bc ac bn cw x1 x2 = some o) : MetI l yX7_ofPiece wsX7_ofPiece RM_X7_ofPiece (dC, dI) (TY cI cJ cZ cO) [.ref (ab 0), .int x1, .int x2] (W_BO cI cJ cZ cO ab ac_ atr ah ap al abc aac anb ++ (W_C cI cJ cZ cO ac_ ct.1 ct.2.1 ct.2.2.1 ct.2.2.2.1 ct.2.2.2.2.1 ct.2.2.2.2.2.1 ct.2.2.2.2.2.2.1 ct.2.2.2.2.2.2.2 ++ (W_L cI cJ cZ cO al lt.1 lt.2.1 lt.2.2.1 lt.2.2.2 ++ (W_B cI cJ cZ cO abc bc.1 bc.2.1 bc.2.2.1 bc.2.2.2.1 bc.2.2.2.2.1 bc.2.2.2.2.2.1 bc.2.2.2.2.2.2.1 bc.2.2.2.2.2.2.2 ++ (W_A cI cJ cZ cO aac ac.1 ac.2.1 ac.2.2 ++ (W_BN cI cJ cZ cO ab bn ++ (W_CW cI cJ cZ cO ab cw))))))) (fun r (_ : Unit) => r = o.1) (fun _ => (W_BO cI cJ cZ cO ab ac_ atr ah ap al abc aac anb ++ (W_C cI cJ cZ cO ac_ ct.1 ct.2.1 ct.2.2.1 ct.2.2.2.1 ct.2.2.2.2.1 ct.2.2.2.2.2.1 ct.2.2.2.2.2.2.1 ct.2.2.2.2.2.2.2 ++ (W_L cI cJ cZ cO al o.2.1.1 o.2.1.2.1 o.2.1.2.2.1 o.2.1.2.2.2 ++ (W_B cI cJ cZ cO abc o.2.2.1.1 o.2.2.1.2.1 o.2.2.1.2.2.1 o.2.2.1.2.2.2.1 o.2.2.1.2.2.2.2.1 o.2.2.1.2.2.2.2.2.1 o.2.2.1.2.2.2.2.2.2.1 o.2.2.1.2.2.2.2.2.2.2 ++ (W_A cI cJ cZ cO aac o.2.2.2.1.1 o.2.2.2.1.2.1 o.2.2.2.1.2.2 ++ (W_BN cI cJ cZ cO ab o.2.2.2.2.1 ++ (W_CW cI cJ cZ cO ab o.2.2.2.2.2)))))))) := by
  refine MetI.ofV (cc := cX7_ofPiece) (maxL := 3) (ret := (some .int)) (own := RX7) (lv0 := [(0, .ref (ab 0)), (1, .int x1), (2, .int x2)]) (by decide) rfl rfl (Nat.le_of_ble_eq_true rfl) rfl ?_
  intro p e s m below meth c A C0 _
  unfold f_X7_ofPiece at hf
  refine V_aload_n C0 dX7_ofPiece_0 0 rfl rfl ?_
  refine V_iload_n C0 dX7_ofPiece_1 1 rfl rfl ?_
  obtain ⟨r_2, hc_2, hf⟩ := bind_inv hf
  refine V_cVI (ws' := (W_BO cI cJ cZ cO ab ac_ atr ah ap al abc aac anb ++ (W_C cI cJ cZ cO ac_ ct.1 ct.2.1 ct.2.2.1 ct.2.2.2.1 ct.2.2.2.2.1 ct.2.2.2.2.2.1 ct.2.2.2.2.2.2.1 ct.2.2.2.2.2.2.2 ++ (W_L cI cJ cZ cO al lt.1 lt.2.1 lt.2.2.1 lt.2.2.2 ++ (W_B cI cJ cZ cO abc bc.1 bc.2.1 bc.2.2.1 bc.2.2.2.1 bc.2.2.2.2.1 bc.2.2.2.2.2.1 bc.2.2.2.2.2.2.1 bc.2.2.2.2.2.2.2 ++ (W_A cI cJ cZ cO aac ac.1 ac.2.1 ac.2.2 ++ (W_BN cI cJ cZ cO ab bn ++ (W_CW cI cJ cZ cO ab cw)))))))) (As := [.int x1]) (b := ab 0) (st := []) C0 (c_X7_isPiece l dC dI cI cJ cZ cO ab ac_ atr ah ap al abc aac anb N ct x1 r_2 hc_2) rfl 1 gX7_ofPiece_X7_isPiece (by decide +kernel) ⟨Nat.le_of_ble_eq_true rfl, Nat.le_of_ble_eq_true rfl⟩ rfl 0 7 rfl rfl  ⟨_, (pt (pte (pr (pr (pr (pr pr1)))))), fun _ => (pt (pte (pr (pr (pr (pr pr1))))))⟩ rfl (Nat.le_of_ble_eq_true rfl) dX7_ofPiece_2 rfl ⟨Nat.zero_le _, Nat.zero_le _⟩ ?_
  refine V_if_ne (tgt := 10) C0 dX7_ofPiece_5 (by decide) rfl (fun c5 => ?_) (fun c5 => ?_)
  · have hf := ite_f c5 hf
    refine V_iload_n C0 dX7_ofPiece_10 2 rfl rfl ?_
    by_cases c11_0 : x2 = 0
    · have hf := ite_t c11_0 hf
      refine V_tableIn (tgt := 60) C0 c11_0 dX7_ofPiece_11 (by decide) (by decide) rfl (by decide) ?_
      refine V_aload_n C0 dX7_ofPiece_60 0 rfl rfl ?_
      refine V_get C0 fl_X7_ofPiece_10 0 rfl rfl dX7_ofPiece_61 rfl ?_
      refine V_get C0 fl_X7_ofPiece_152 1 rfl rfl dX7_ofPiece_64 rfl ?_
      refine V_iload_n C0 dX7_ofPiece_67 1 rfl rfl ?_
      obtain ⟨hi68, hf⟩ := ck_inv hf
      refine V_iald C0 3 0 rfl rfl hi68 dX7_ofPiece_68 rfl ?_
      obtain rfl := some_inv hf
      exact V_iret C0 () rfl rfl dX7_ofPiece_69
    · have hf := ite_f c11_0 hf
      by_cases c11_1 : x2 = 1
      · have hf := ite_t c11_1 hf
        refine V_tableIn (tgt := 70) C0 c11_1 dX7_ofPiece_11 (by decide) (by decide) rfl (by decide) ?_
        refine V_aload_n C0 dX7_ofPiece_70 0 rfl rfl ?_
        refine V_get C0 fl_X7_ofPiece_10 0 rfl rfl dX7_ofPiece_71 rfl ?_
        refine V_get C0 fl_X7_ofPiece_103 1 rfl rfl dX7_ofPiece_74 rfl ?_
        refine V_iload_n C0 dX7_ofPiece_77 1 rfl rfl ?_
        obtain ⟨hi78, hf⟩ := ck_inv hf
        refine V_iald C0 4 0 rfl rfl hi78 dX7_ofPiece_78 rfl ?_
        obtain rfl := some_inv hf
        exact V_iret C0 () rfl rfl dX7_ofPiece_79
      · have hf := ite_f c11_1 hf
        by_cases c11_2 : x2 = 2
        · have hf := ite_t c11_2 hf
          refine V_tableIn (tgt := 80) C0 c11_2 dX7_ofPiece_11 (by decide) (by decide) rfl (by decide) ?_
          refine V_aload_n C0 dX7_ofPiece_80 0 rfl rfl ?_
          refine V_get C0 fl_X7_ofPiece_10 0 rfl rfl dX7_ofPiece_81 rfl ?_
          refine V_get C0 fl_X7_ofPiece_155 1 rfl rfl dX7_ofPiece_84 rfl ?_
          refine V_iload_n C0 dX7_ofPiece_87 1 rfl rfl ?_
          obtain ⟨hi88, hf⟩ := ck_inv hf
          refine V_iald C0 2 0 rfl rfl hi88 dX7_ofPiece_88 rfl ?_
          refine V_aload_n C0 dX7_ofPiece_89 0 rfl rfl ?_
          refine V_get C0 fl_X7_ofPiece_10 0 rfl rfl dX7_ofPiece_90 rfl ?_
          refine V_get C0 fl_X7_ofPiece_152 1 rfl rfl dX7_ofPiece_93 rfl ?_
          refine V_iload_n C0 dX7_ofPiece_96 1 rfl rfl ?_
          obtain ⟨hi97, hf⟩ := ck_inv hf
          refine V_iald C0 3 0 rfl rfl hi97 dX7_ofPiece_97 rfl ?_
          refine V_iload_n C0 dX7_ofPiece_98 2 rfl rfl ?_
          refine V_iconst (v := 2) C0 dX7_ofPiece_99 (by decide) rfl ?_
          refine V_isub C0 dX7_ofPiece_100 rfl ?_
          obtain ⟨r_101, hc_101, hf⟩ := bind_inv hf
          refine V_cSI (ws' := (W_BO cI cJ cZ cO ab ac_ atr ah ap al abc aac anb ++ (W_C cI cJ cZ cO ac_ ct.1 ct.2.1 ct.2.2.1 ct.2.2.2.1 ct.2.2.2.2.1 ct.2.2.2.2.2.1 ct.2.2.2.2.2.2.1 ct.2.2.2.2.2.2.2 ++ (W_L cI cJ cZ cO al lt.1 lt.2.1 lt.2.2.1 lt.2.2.2 ++ (W_B cI cJ cZ cO abc bc.1 bc.2.1 bc.2.2.1 bc.2.2.2.1 bc.2.2.2.2.1 bc.2.2.2.2.2.1 bc.2.2.2.2.2.2.1 bc.2.2.2.2.2.2.2 ++ (W_A cI cJ cZ cO aac ac.1 ac.2.1 ac.2.2 ++ (W_BN cI cJ cZ cO ab bn ++ (W_CW cI cJ cZ cO ab cw)))))))) (As := [.int (ct.2.1 (x1.toNatClampNeg)), .int (ct.2.2.1 (x1.toNatClampNeg)), .int (x2 - 2)]) (st := []) C0 (c_X7_letterOfText l dC dI cI cJ cZ cO  N  (ct.2.1 (x1.toNatClampNeg)) (ct.2.2.1 (x1.toNatClampNeg)) (x2 - 2) r_101 hc_101) rfl 3 gX7_ofPiece_X7_letterOfText (by decide +kernel) ⟨Nat.le_of_ble_eq_true rfl, Nat.le_of_ble_eq_true rfl⟩ rfl  ⟨_, (pr (pr (pr (pr (pr (pr pr1)))))), fun _ => (pr (pr (pr (pr (pr (pr pr1))))))⟩ rfl (Nat.le_of_ble_eq_true rfl) dX7_ofPiece_101 rfl ⟨Nat.zero_le _, Nat.zero_le _⟩ ?_
          obtain rfl := some_inv hf
          exact V_iret C0 () rfl rfl dX7_ofPiece_104
        · have hf := ite_f c11_2 hf
          by_cases c11_3 : x2 = 3
          · have hf := ite_t c11_3 hf
            refine V_tableIn (tgt := 80) C0 c11_3 dX7_ofPiece_11 (by decide) (by decide) rfl (by decide) ?_
            refine V_aload_n C0 dX7_ofPiece_80 0 rfl rfl ?_
            refine V_get C0 fl_X7_ofPiece_10 0 rfl rfl dX7_ofPiece_81 rfl ?_
            refine V_get C0 fl_X7_ofPiece_155 1 rfl rfl dX7_ofPiece_84 rfl ?_
            refine V_iload_n C0 dX7_ofPiece_87 1 rfl rfl ?_
            obtain ⟨hi88, hf⟩ := ck_inv hf
            refine V_iald C0 2 0 rfl rfl hi88 dX7_ofPiece_88 rfl ?_
            refine V_aload_n C0 dX7_ofPiece_89 0 rfl rfl ?_
            refine V_get C0 fl_X7_ofPiece_10 0 rfl rfl dX7_ofPiece_90 rfl ?_
            refine V_get C0 fl_X7_ofPiece_152 1 rfl rfl dX7_ofPiece_93 rfl ?_
            refine V_iload_n C0 dX7_ofPiece_96 1 rfl rfl ?_
            obtain ⟨hi97, hf⟩ := ck_inv hf
            refine V_iald C0 3 0 rfl rfl hi97 dX7_ofPiece_97 rfl ?_
            refine V_iload_n C0 dX7_ofPiece_98 2 rfl rfl ?_
            refine V_iconst (v := 2) C0 dX7_ofPiece_99 (by decide) rfl ?_
            refine V_isub C0 dX7_ofPiece_100 rfl ?_
            obtain ⟨r_101, hc_101, hf⟩ := bind_inv hf
            refine V_cSI (ws' := (W_BO cI cJ cZ cO ab ac_ atr ah ap al abc aac anb ++ (W_C cI cJ cZ cO ac_ ct.1 ct.2.1 ct.2.2.1 ct.2.2.2.1 ct.2.2.2.2.1 ct.2.2.2.2.2.1 ct.2.2.2.2.2.2.1 ct.2.2.2.2.2.2.2 ++ (W_L cI cJ cZ cO al lt.1 lt.2.1 lt.2.2.1 lt.2.2.2 ++ (W_B cI cJ cZ cO abc bc.1 bc.2.1 bc.2.2.1 bc.2.2.2.1 bc.2.2.2.2.1 bc.2.2.2.2.2.1 bc.2.2.2.2.2.2.1 bc.2.2.2.2.2.2.2 ++ (W_A cI cJ cZ cO aac ac.1 ac.2.1 ac.2.2 ++ (W_BN cI cJ cZ cO ab bn ++ (W_CW cI cJ cZ cO ab cw)))))))) (As := [.int (ct.2.1 (x1.toNatClampNeg)), .int (ct.2.2.1 (x1.toNatClampNeg)), .int (x2 - 2)]) (st := []) C0 (c_X7_letterOfText l dC dI cI cJ cZ cO  N  (ct.2.1 (x1.toNatClampNeg)) (ct.2.2.1 (x1.toNatClampNeg)) (x2 - 2) r_101 hc_101) rfl 3 gX7_ofPiece_X7_letterOfText (by decide +kernel) ⟨Nat.le_of_ble_eq_true rfl, Nat.le_of_ble_eq_true rfl⟩ rfl  ⟨_, (pr (pr (pr (pr (pr (pr pr1)))))), fun _ => (pr (pr (pr (pr (pr (pr pr1))))))⟩ rfl (Nat.le_of_ble_eq_true rfl) dX7_ofPiece_101 rfl ⟨Nat.zero_le _, Nat.zero_le _⟩ ?_
            obtain rfl := some_inv hf
            exact V_iret C0 () rfl rfl dX7_ofPiece_104
          · have hf := ite_f c11_3 hf
            by_cases c11_4 : x2 = 4
            · have hf := ite_t c11_4 hf
              refine V_tableIn (tgt := 80) C0 c11_4 dX7_ofPiece_11 (by decide) (by decide) rfl (by decide) ?_
              refine V_aload_n C0 dX7_ofPiece_80 0 rfl rfl ?_
              refine V_get C0 fl_X7_ofPiece_10 0 rfl rfl dX7_ofPiece_81 rfl ?_
              refine V_get C0 fl_X7_ofPiece_155 1 rfl rfl dX7_ofPiece_84 rfl ?_
              refine V_iload_n C0 dX7_ofPiece_87 1 rfl rfl ?_
              obtain ⟨hi88, hf⟩ := ck_inv hf
              refine V_iald C0 2 0 rfl rfl hi88 dX7_ofPiece_88 rfl ?_
              refine V_aload_n C0 dX7_ofPiece_89 0 rfl rfl ?_
              refine V_get C0 fl_X7_ofPiece_10 0 rfl rfl dX7_ofPiece_90 rfl ?_
              refine V_get C0 fl_X7_ofPiece_152 1 rfl rfl dX7_ofPiece_93 rfl ?_
              refine V_iload_n C0 dX7_ofPiece_96 1 rfl rfl ?_
              obtain ⟨hi97, hf⟩ := ck_inv hf
              refine V_iald C0 3 0 rfl rfl hi97 dX7_ofPiece_97 rfl ?_
              refine V_iload_n C0 dX7_ofPiece_98 2 rfl rfl ?_
              refine V_iconst (v := 2) C0 dX7_ofPiece_99 (by decide) rfl ?_
              refine V_isub C0 dX7_ofPiece_100 rfl ?_
              obtain ⟨r_101, hc_101, hf⟩ := bind_inv hf
              refine V_cSI (ws' := (W_BO cI cJ cZ cO ab ac_ atr ah ap al abc aac anb ++ (W_C cI cJ cZ cO ac_ ct.1 ct.2.1 ct.2.2.1 ct.2.2.2.1 ct.2.2.2.2.1 ct.2.2.2.2.2.1 ct.2.2.2.2.2.2.1 ct.2.2.2.2.2.2.2 ++ (W_L cI cJ cZ cO al lt.1 lt.2.1 lt.2.2.1 lt.2.2.2 ++ (W_B cI cJ cZ cO abc bc.1 bc.2.1 bc.2.2.1 bc.2.2.2.1 bc.2.2.2.2.1 bc.2.2.2.2.2.1 bc.2.2.2.2.2.2.1 bc.2.2.2.2.2.2.2 ++ (W_A cI cJ cZ cO aac ac.1 ac.2.1 ac.2.2 ++ (W_BN cI cJ cZ cO ab bn ++ (W_CW cI cJ cZ cO ab cw)))))))) (As := [.int (ct.2.1 (x1.toNatClampNeg)), .int (ct.2.2.1 (x1.toNatClampNeg)), .int (x2 - 2)]) (st := []) C0 (c_X7_letterOfText l dC dI cI cJ cZ cO  N  (ct.2.1 (x1.toNatClampNeg)) (ct.2.2.1 (x1.toNatClampNeg)) (x2 - 2) r_101 hc_101) rfl 3 gX7_ofPiece_X7_letterOfText (by decide +kernel) ⟨Nat.le_of_ble_eq_true rfl, Nat.le_of_ble_eq_true rfl⟩ rfl  ⟨_, (pr (pr (pr (pr (pr (pr pr1)))))), fun _ => (pr (pr (pr (pr (pr (pr pr1))))))⟩ rfl (Nat.le_of_ble_eq_true rfl) dX7_ofPiece_101 rfl ⟨Nat.zero_le _, Nat.zero_le _⟩ ?_
              obtain rfl := some_inv hf
              exact V_iret C0 () rfl rfl dX7_ofPiece_104
            · have hf := ite_f c11_4 hf
              by_cases c11_5 : x2 = 5
              · have hf := ite_t c11_5 hf
                refine V_tableIn (tgt := 80) C0 c11_5 dX7_ofPiece_11 (by decide) (by decide) rfl (by decide) ?_
                refine V_aload_n C0 dX7_ofPiece_80 0 rfl rfl ?_
                refine V_get C0 fl_X7_ofPiece_10 0 rfl rfl dX7_ofPiece_81 rfl ?_
                refine V_get C0 fl_X7_ofPiece_155 1 rfl rfl dX7_ofPiece_84 rfl ?_
                refine V_iload_n C0 dX7_ofPiece_87 1 rfl rfl ?_
                obtain ⟨hi88, hf⟩ := ck_inv hf
                refine V_iald C0 2 0 rfl rfl hi88 dX7_ofPiece_88 rfl ?_
                refine V_aload_n C0 dX7_ofPiece_89 0 rfl rfl ?_
                refine V_get C0 fl_X7_ofPiece_10 0 rfl rfl dX7_ofPiece_90 rfl ?_
                refine V_get C0 fl_X7_ofPiece_152 1 rfl rfl dX7_ofPiece_93 rfl ?_
                refine V_iload_n C0 dX7_ofPiece_96 1 rfl rfl ?_
                obtain ⟨hi97, hf⟩ := ck_inv hf
                refine V_iald C0 3 0 rfl rfl hi97 dX7_ofPiece_97 rfl ?_
                refine V_iload_n C0 dX7_ofPiece_98 2 rfl rfl ?_
                refine V_iconst (v := 2) C0 dX7_ofPiece_99 (by decide) rfl ?_
                refine V_isub C0 dX7_ofPiece_100 rfl ?_
                obtain ⟨r_101, hc_101, hf⟩ := bind_inv hf
                refine V_cSI (ws' := (W_BO cI cJ cZ cO ab ac_ atr ah ap al abc aac anb ++ (W_C cI cJ cZ cO ac_ ct.1 ct.2.1 ct.2.2.1 ct.2.2.2.1 ct.2.2.2.2.1 ct.2.2.2.2.2.1 ct.2.2.2.2.2.2.1 ct.2.2.2.2.2.2.2 ++ (W_L cI cJ cZ cO al lt.1 lt.2.1 lt.2.2.1 lt.2.2.2 ++ (W_B cI cJ cZ cO abc bc.1 bc.2.1 bc.2.2.1 bc.2.2.2.1 bc.2.2.2.2.1 bc.2.2.2.2.2.1 bc.2.2.2.2.2.2.1 bc.2.2.2.2.2.2.2 ++ (W_A cI cJ cZ cO aac ac.1 ac.2.1 ac.2.2 ++ (W_BN cI cJ cZ cO ab bn ++ (W_CW cI cJ cZ cO ab cw)))))))) (As := [.int (ct.2.1 (x1.toNatClampNeg)), .int (ct.2.2.1 (x1.toNatClampNeg)), .int (x2 - 2)]) (st := []) C0 (c_X7_letterOfText l dC dI cI cJ cZ cO  N  (ct.2.1 (x1.toNatClampNeg)) (ct.2.2.1 (x1.toNatClampNeg)) (x2 - 2) r_101 hc_101) rfl 3 gX7_ofPiece_X7_letterOfText (by decide +kernel) ⟨Nat.le_of_ble_eq_true rfl, Nat.le_of_ble_eq_true rfl⟩ rfl  ⟨_, (pr (pr (pr (pr (pr (pr pr1)))))), fun _ => (pr (pr (pr (pr (pr (pr pr1))))))⟩ rfl (Nat.le_of_ble_eq_true rfl) dX7_ofPiece_101 rfl ⟨Nat.zero_le _, Nat.zero_le _⟩ ?_
                obtain rfl := some_inv hf
                exact V_iret C0 () rfl rfl dX7_ofPiece_104
              · have hf := ite_f c11_5 hf
                by_cases c11_6 : x2 = 6
                · have hf := ite_t c11_6 hf
                  refine V_tableIn (tgt := 105) C0 c11_6 dX7_ofPiece_11 (by decide) (by decide) rfl (by decide) ?_
                  refine V_aload_n C0 dX7_ofPiece_105 0 rfl rfl ?_
                  refine V_iload_n C0 dX7_ofPiece_106 1 rfl rfl ?_
                  obtain ⟨r_107, hc_107, hf⟩ := bind_inv hf
                  refine V_cVI (ws' := (W_BO cI cJ cZ cO ab ac_ atr ah ap al abc aac anb ++ (W_C cI cJ cZ cO ac_ ct.1 ct.2.1 ct.2.2.1 ct.2.2.2.1 ct.2.2.2.2.1 ct.2.2.2.2.2.1 ct.2.2.2.2.2.2.1 ct.2.2.2.2.2.2.2 ++ (W_L cI cJ cZ cO al r_107.2.1.1 r_107.2.1.2.1 r_107.2.1.2.2.1 r_107.2.1.2.2.2 ++ (W_B cI cJ cZ cO abc r_107.2.2.1 r_107.2.2.2.1 r_107.2.2.2.2.1 r_107.2.2.2.2.2.1 r_107.2.2.2.2.2.2.1 r_107.2.2.2.2.2.2.2.1 r_107.2.2.2.2.2.2.2.2.1 r_107.2.2.2.2.2.2.2.2.2 ++ (W_A cI cJ cZ cO aac ac.1 ac.2.1 ac.2.2 ++ (W_BN cI cJ cZ cO ab bn ++ (W_CW cI cJ cZ cO ab cw)))))))) (As := [.int x1]) (b := ab 0) (st := []) C0 (c_X7_timesInBestCuts l dC dI cI cJ cZ cO ab ac_ atr ah ap al abc aac anb N ct lt bc x1 r_107 hc_107) rfl 1 gX7_ofPiece_X7_timesInBestCuts (by decide +kernel) ⟨Nat.le_of_ble_eq_true rfl, Nat.le_of_ble_eq_true rfl⟩ rfl 0 7 rfl rfl  ⟨_, (pt (pt (pt (pte (pr (pr pr1)))))), fun _ => (pt (pt (pt (pte (pr (pr pr1))))))⟩ rfl (Nat.le_of_ble_eq_true rfl) dX7_ofPiece_107 rfl ⟨Nat.zero_le _, Nat.zero_le _⟩ ?_
                  obtain rfl := some_inv hf
                  exact V_iret C0 () rfl rfl dX7_ofPiece_110
                · have hf := ite_f c11_6 hf
                  by_cases c11_7 : x2 = 7
                  · have hf := ite_t c11_7 hf
                    refine V_tableIn (tgt := 111) C0 c11_7 dX7_ofPiece_11 (by decide) (by decide) rfl (by decide) ?_
                    refine V_aload_n C0 dX7_ofPiece_111 0 rfl rfl ?_
                    obtain ⟨r_112, hc_112, hf⟩ := bind_inv hf
                    refine V_cVV (ws' := (W_BO cI cJ cZ cO ab ac_ atr ah ap al abc aac anb ++ (W_C cI cJ cZ cO ac_ ct.1 ct.2.1 ct.2.2.1 ct.2.2.2.1 ct.2.2.2.2.1 ct.2.2.2.2.2.1 ct.2.2.2.2.2.2.1 ct.2.2.2.2.2.2.2 ++ (W_L cI cJ cZ cO al r_112.1.1 r_112.1.2.1 r_112.1.2.2.1 r_112.1.2.2.2 ++ (W_B cI cJ cZ cO abc r_112.2.1.1 r_112.2.1.2.1 r_112.2.1.2.2.1 r_112.2.1.2.2.2.1 r_112.2.1.2.2.2.2.1 r_112.2.1.2.2.2.2.2.1 r_112.2.1.2.2.2.2.2.2.1 r_112.2.1.2.2.2.2.2.2.2 ++ (W_A cI cJ cZ cO aac ac.1 ac.2.1 ac.2.2 ++ (W_BN cI cJ cZ cO ab bn ++ (W_CW cI cJ cZ cO ab r_112.2.2)))))))) (As := []) (b := ab 0) (st := []) C0 (c_X7_loseEach l dC dI cI cJ cZ cO ab ac_ atr ah ap al abc aac anb N ct lt bc cw  r_112 hc_112) rfl 0 gX7_ofPiece_X7_loseEach (by decide +kernel) ⟨Nat.le_of_ble_eq_true rfl, Nat.le_of_ble_eq_true rfl⟩ rfl 0 7 rfl rfl  ⟨_, (pt (pt (pt (pt (pr (pr pt1)))))), fun _ => (pt (pt (pt (pt (pr (pr pt1))))))⟩ rfl (Nat.le_of_ble_eq_true rfl) dX7_ofPiece_112 rfl ⟨Nat.zero_le _, Nat.zero_le _⟩ ?_
                    refine V_aload_n C0 dX7_ofPiece_115 0 rfl rfl ?_
                    refine V_get C0 fl_X7_ofPiece_73 0 rfl rfl dX7_ofPiece_116 rfl ?_
                    refine V_iload_n C0 dX7_ofPiece_119 1 rfl rfl ?_
                    obtain ⟨hi120, hf⟩ := ck_inv hf
                    refine V_iald C0 24 0 rfl rfl hi120 dX7_ofPiece_120 rfl ?_
                    refine V_aload_n C0 dX7_ofPiece_121 0 rfl rfl ?_
                    refine V_aload_n C0 dX7_ofPiece_122 0 rfl rfl ?_
                    refine V_get C0 fl_X7_ofPiece_10 0 rfl rfl dX7_ofPiece_123 rfl ?_
                    obtain ⟨r_126, hc_126, hf⟩ := bind_inv hf
                    refine V_cVI (ws' := (W_BO cI cJ cZ cO ab ac_ atr ah ap al abc aac anb ++ (W_C cI cJ cZ cO ac_ ct.1 ct.2.1 ct.2.2.1 ct.2.2.2.1 ct.2.2.2.2.1 ct.2.2.2.2.2.1 ct.2.2.2.2.2.2.1 ct.2.2.2.2.2.2.2 ++ (W_L cI cJ cZ cO al r_126.2.1.1 r_126.2.1.2.1 r_126.2.1.2.2.1 r_126.2.1.2.2.2 ++ (W_B cI cJ cZ cO abc r_126.2.2.1 r_126.2.2.2.1 r_126.2.2.2.2.1 r_126.2.2.2.2.2.1 r_126.2.2.2.2.2.2.1 r_126.2.2.2.2.2.2.2.1 r_126.2.2.2.2.2.2.2.2.1 r_126.2.2.2.2.2.2.2.2.2 ++ (W_A cI cJ cZ cO aac ac.1 ac.2.1 ac.2.2 ++ (W_BN cI cJ cZ cO ab bn ++ (W_CW cI cJ cZ cO ab r_112.2.2)))))))) (As := [.ref (ac_ 0)]) (b := ab 0) (st := [.int (r_112.2.2 (x1.toNatClampNeg))]) C0 (c_X7_costOfAll l dC dI cI cJ cZ cO ab ac_ atr ah ap al abc aac anb ac_ N ct r_112.1 r_112.2.1  r_126 hc_126) rfl 1 gX7_ofPiece_X7_costOfAll (by decide +kernel) ⟨Nat.le_of_ble_eq_true rfl, Nat.le_of_ble_eq_true rfl⟩ rfl 0 7 rfl rfl  ⟨_, (pt (pt (pt (pte (pr (pr pr1)))))), fun _ => (pt (pt (pt (pte (pr (pr pr1))))))⟩ rfl (Nat.le_of_ble_eq_true rfl) dX7_ofPiece_126 rfl ⟨Nat.zero_le _, Nat.zero_le _⟩ ?_
                    refine V_isub C0 dX7_ofPiece_129 rfl ?_
                    refine V_ldc (v := 100000) C0 dX7_ofPiece_130 (by decide +kernel) rfl ?_
                    refine V_iadd C0 dX7_ofPiece_132 rfl ?_
                    obtain rfl := some_inv hf
                    exact V_iret C0 () rfl rfl dX7_ofPiece_133
                  · have hf := ite_f c11_7 hf
                    by_cases c11_8 : x2 = 8
                    · have hf := ite_t c11_8 hf
                      refine V_tableIn (tgt := 134) C0 c11_8 dX7_ofPiece_11 (by decide) (by decide) rfl (by decide) ?_
                      refine V_aload_n C0 dX7_ofPiece_134 0 rfl rfl ?_
                      obtain ⟨r_135, hc_135, hf⟩ := bind_inv hf
                      refine V_cVV (ws' := (W_BO cI cJ cZ cO ab ac_ atr ah ap al abc aac anb ++ (W_C cI cJ cZ cO ac_ ct.1 ct.2.1 ct.2.2.1 ct.2.2.2.1 ct.2.2.2.2.1 ct.2.2.2.2.2.1 ct.2.2.2.2.2.2.1 ct.2.2.2.2.2.2.2 ++ (W_L cI cJ cZ cO al r_135.1.1 r_135.1.2.1 r_135.1.2.2.1 r_135.1.2.2.2 ++ (W_B cI cJ cZ cO abc bc.1 bc.2.1 bc.2.2.1 bc.2.2.2.1 bc.2.2.2.2.1 bc.2.2.2.2.2.1 bc.2.2.2.2.2.2.1 bc.2.2.2.2.2.2.2 ++ (W_A cI cJ cZ cO aac r_135.2.1.1 r_135.2.1.2.1 r_135.2.1.2.2 ++ (W_BN cI cJ cZ cO ab r_135.2.2 ++ (W_CW cI cJ cZ cO ab cw)))))))) (As := []) (b := ab 0) (st := []) C0 (c_X7_bearAll l dC dI cI cJ cZ cO ab ac_ atr ah ap al abc aac anb N ct lt ac bn  r_135 hc_135) rfl 0 gX7_ofPiece_X7_bearAll (by decide +kernel) ⟨Nat.le_of_ble_eq_true rfl, Nat.le_of_ble_eq_true rfl⟩ rfl 0 7 rfl rfl  ⟨_, (pt (pt (pt (pr (pt (pte pr1)))))), fun _ => (pt (pt (pt (pr (pt (pte pr1))))))⟩ rfl (Nat.le_of_ble_eq_true rfl) dX7_ofPiece_135 rfl ⟨Nat.zero_le _, Nat.zero_le _⟩ ?_
                      refine V_aload_n C0 dX7_ofPiece_138 0 rfl rfl ?_
                      refine V_get C0 fl_X7_ofPiece_69 0 rfl rfl dX7_ofPiece_139 rfl ?_
                      refine V_iload_n C0 dX7_ofPiece_142 1 rfl rfl ?_
                      obtain ⟨hi143, hf⟩ := ck_inv hf
                      refine V_iald C0 23 0 rfl rfl hi143 dX7_ofPiece_143 rfl ?_
                      obtain rfl := some_inv hf
                      exact V_iret C0 () rfl rfl dX7_ofPiece_144
                    · have hf := ite_f c11_8 hf
                      refine V_tableOut (tgt := 145) C0 dX7_ofPiece_11 (tb_out (fun k h1 h2 => ?_)) (by decide) ?_
                      · rcases (show k = 0 ∨ k = 1 ∨ k = 2 ∨ k = 3 ∨ k = 4 ∨ k = 5 ∨ k = 6 ∨ k = 7 ∨ k = 8 by omega) with rfl | rfl | rfl | rfl | rfl | rfl | rfl | rfl | rfl
                        · exact c11_0
                        · exact c11_1
                        · exact c11_2
                        · exact c11_3
                        · exact c11_4
                        · exact c11_5
                        · exact c11_6
                        · exact c11_7
                        · exact c11_8
                      · skip
                        refine V_bipush (v := (-2)) C0 dX7_ofPiece_145 (by decide) rfl ?_
                        obtain rfl := some_inv hf
                        exact V_iret C0 () rfl rfl dX7_ofPiece_147
  · have hf := ite_t c5 hf
    refine V_iconst (v := (-1)) C0 dX7_ofPiece_8 (by decide) rfl ?_
    obtain rfl := some_inv hf
    exact V_iret C0 () rfl rfl dX7_ofPiece_9
abbrev RM_X7_ofWord : Room := { frames := 6, cells := 0, slots := 0, locals := 141 }
theorem in_X7_ofWord_X1 : ∀ w ∈ u_ws RX1 TX1 8, w ∈ wsX7_ofWord := by decide +kernel
theorem in_X7_ofWord_X2 : ∀ w ∈ u_ws RX2 TX2 8, w ∈ wsX7_ofWord := by decide +kernel
theorem in_X7_ofWord_X7 : ∀ w ∈ u_ws RX7 TX7 12, w ∈ wsX7_ofWord := by decide +kernel
theorem fl_X7_ofWord_10 : FL RX7 wsX7_ofWord 7 10 0 RX7 TX7 12 := ⟨in_X7_ofWord_X7, rfl, by decide, by decide +kernel, rfl⟩
theorem fl_X7_ofWord_44 : FL RX7 wsX7_ofWord 7 44 6 RX7 TX7 12 := ⟨in_X7_ofWord_X7, rfl, by decide, by decide +kernel, rfl⟩
theorem fl_X7_ofWord_51 : FL RX7 wsX7_ofWord 7 51 7 RX7 TX7 12 := ⟨in_X7_ofWord_X7, rfl, by decide, by decide +kernel, rfl⟩
theorem fl_X7_ofWord_58 : FL RX7 wsX7_ofWord 7 58 8 RX7 TX7 12 := ⟨in_X7_ofWord_X7, rfl, by decide, by decide +kernel, rfl⟩
theorem fl_X7_ofWord_123 : FL RX7 wsX7_ofWord 2 123 6 RX2 TX2 8 := ⟨in_X7_ofWord_X2, rfl, by decide, by decide +kernel, rfl⟩
theorem fl_X7_ofWord_177 : FL RX7 wsX7_ofWord 2 177 5 RX2 TX2 8 := ⟨in_X7_ofWord_X2, rfl, by decide, by decide +kernel, rfl⟩
theorem fl_X7_ofWord_180 : FL RX7 wsX7_ofWord 1 180 3 RX1 TX1 8 := ⟨in_X7_ofWord_X1, rfl, by decide, by decide +kernel, rfl⟩
theorem fl_X7_ofWord_183 : FL RX7 wsX7_ofWord 1 183 4 RX1 TX1 8 := ⟨in_X7_ofWord_X1, rfl, by decide, by decide +kernel, rfl⟩
set_option maxRecDepth 100000 in
set_option maxHeartbeats 4000000 in
theorem c_X7_ofWord (l : Launch) (dC : Nat → ClassId) (dI : Nat → Nat → Nat) (cI cJ cZ cO : ClassId) (ab : Nat → Nat) (ac_ : Nat → Nat) (atr : Nat → Nat) (ah : Nat → Nat) (ap : Nat → Nat) (al : Nat → Nat) (abc : Nat → Nat) (aac : Nat → Nat) (anb : Nat → Nat) (N : Nat) (ct : CV) (lt : LV) (bc : BV) (ac : AV) (x1 : Int32) (x2 : Int32) (o : Int32 × LV × BV × AV) (hf : f_X7_ofWord N ct lt bc ac x1 x2 = some o) : MetI l yX7_ofWord wsX7_ofWord RM_X7_ofWord (dC, dI) (TY cI cJ cZ cO) [.ref (ab 0), .int x1, .int x2] (W_BO cI cJ cZ cO ab ac_ atr ah ap al abc aac anb ++ (W_C cI cJ cZ cO ac_ ct.1 ct.2.1 ct.2.2.1 ct.2.2.2.1 ct.2.2.2.2.1 ct.2.2.2.2.2.1 ct.2.2.2.2.2.2.1 ct.2.2.2.2.2.2.2 ++ (W_L cI cJ cZ cO al lt.1 lt.2.1 lt.2.2.1 lt.2.2.2 ++ (W_B cI cJ cZ cO abc bc.1 bc.2.1 bc.2.2.1 bc.2.2.2.1 bc.2.2.2.2.1 bc.2.2.2.2.2.1 bc.2.2.2.2.2.2.1 bc.2.2.2.2.2.2.2 ++ (W_A cI cJ cZ cO aac ac.1 ac.2.1 ac.2.2))))) (fun r (_ : Unit) => r = o.1) (fun _ => (W_BO cI cJ cZ cO ab ac_ atr ah ap al abc aac anb ++ (W_C cI cJ cZ cO ac_ ct.1 ct.2.1 ct.2.2.1 ct.2.2.2.1 ct.2.2.2.2.1 ct.2.2.2.2.2.1 ct.2.2.2.2.2.2.1 ct.2.2.2.2.2.2.2 ++ (W_L cI cJ cZ cO al o.2.1.1 o.2.1.2.1 o.2.1.2.2.1 o.2.1.2.2.2 ++ (W_B cI cJ cZ cO abc o.2.2.1.1 o.2.2.1.2.1 o.2.2.1.2.2.1 o.2.2.1.2.2.2.1 o.2.2.1.2.2.2.2.1 o.2.2.1.2.2.2.2.2.1 o.2.2.1.2.2.2.2.2.2.1 o.2.2.1.2.2.2.2.2.2.2 ++ (W_A cI cJ cZ cO aac o.2.2.2.1 o.2.2.2.2.1 o.2.2.2.2.2)))))) := by
  refine MetI.ofV (cc := cX7_ofWord) (maxL := 3) (ret := (some .int)) (own := RX7) (lv0 := [(0, .ref (ab 0)), (1, .int x1), (2, .int x2)]) (by decide) rfl rfl (Nat.le_of_ble_eq_true rfl) rfl ?_
  intro p e s m below meth c A C0 _
  unfold f_X7_ofWord at hf
  refine V_aload_n C0 dX7_ofWord_0 0 rfl rfl ?_
  refine V_iload_n C0 dX7_ofWord_1 1 rfl rfl ?_
  obtain ⟨r_2, hc_2, hf⟩ := bind_inv hf
  refine V_cVI (ws' := (W_BO cI cJ cZ cO ab ac_ atr ah ap al abc aac anb ++ (W_C cI cJ cZ cO ac_ ct.1 ct.2.1 ct.2.2.1 ct.2.2.2.1 ct.2.2.2.2.1 ct.2.2.2.2.2.1 ct.2.2.2.2.2.2.1 ct.2.2.2.2.2.2.2 ++ (W_L cI cJ cZ cO al lt.1 lt.2.1 lt.2.2.1 lt.2.2.2 ++ (W_B cI cJ cZ cO abc bc.1 bc.2.1 bc.2.2.1 bc.2.2.2.1 bc.2.2.2.2.1 bc.2.2.2.2.2.1 bc.2.2.2.2.2.2.1 bc.2.2.2.2.2.2.2 ++ (W_A cI cJ cZ cO aac ac.1 ac.2.1 ac.2.2)))))) (As := [.int x1]) (b := ab 0) (st := []) C0 (c_X7_isWord l dC dI cI cJ cZ cO ab ac_ atr ah ap al abc aac anb N ct x1 r_2 hc_2) rfl 1 gX7_ofWord_X7_isWord (by decide +kernel) ⟨Nat.le_of_ble_eq_true rfl, Nat.le_of_ble_eq_true rfl⟩ rfl 0 7 rfl rfl  ⟨_, (pt (pte (pr (pr pr1)))), fun _ => (pt (pte (pr (pr pr1))))⟩ rfl (Nat.le_of_ble_eq_true rfl) dX7_ofWord_2 rfl ⟨Nat.zero_le _, Nat.zero_le _⟩ ?_
  refine V_if_ne (tgt := 10) C0 dX7_ofWord_5 (by decide) rfl (fun c5 => ?_) (fun c5 => ?_)
  · have hf := ite_f c5 hf
    refine V_aload_n C0 dX7_ofWord_10 0 rfl rfl ?_
    refine V_aload_n C0 dX7_ofWord_11 0 rfl rfl ?_
    refine V_get C0 fl_X7_ofWord_10 0 rfl rfl dX7_ofWord_12 rfl ?_
    refine V_iload_n C0 dX7_ofWord_15 1 rfl rfl ?_
    obtain ⟨r_16, hc_16, hf⟩ := bind_inv hf
    refine V_cVV (ws' := (W_BO cI cJ cZ cO ab ac_ atr ah ap al abc aac anb ++ (W_C cI cJ cZ cO ac_ ct.1 ct.2.1 ct.2.2.1 ct.2.2.2.1 ct.2.2.2.2.1 ct.2.2.2.2.2.1 ct.2.2.2.2.2.2.1 ct.2.2.2.2.2.2.2 ++ (W_L cI cJ cZ cO al r_16.1.1 r_16.1.2.1 r_16.1.2.2.1 r_16.1.2.2.2 ++ (W_B cI cJ cZ cO abc r_16.2.1 r_16.2.2.1 r_16.2.2.2.1 r_16.2.2.2.2.1 r_16.2.2.2.2.2.1 r_16.2.2.2.2.2.2.1 r_16.2.2.2.2.2.2.2.1 r_16.2.2.2.2.2.2.2.2 ++ (W_A cI cJ cZ cO aac ac.1 ac.2.1 ac.2.2)))))) (As := [.ref (ac_ 0), .int x1]) (b := ab 0) (st := []) C0 (c_X7_cutBest l dC dI cI cJ cZ cO ab ac_ atr ah ap al abc aac anb ac_ N ct lt bc x1 r_16 hc_16) rfl 2 gX7_ofWord_X7_cutBest (by decide +kernel) ⟨Nat.le_of_ble_eq_true rfl, Nat.le_of_ble_eq_true rfl⟩ rfl 0 7 rfl rfl  ⟨_, (pt (pt (pt (pte pr1)))), fun _ => (pt (pt (pt (pte pr1))))⟩ rfl (Nat.le_of_ble_eq_true rfl) dX7_ofWord_16 rfl ⟨Nat.zero_le _, Nat.zero_le _⟩ ?_
    refine V_iload_n C0 dX7_ofWord_19 2 rfl rfl ?_
    by_cases c20_0 : x2 = 0
    · have hf := ite_t c20_0 hf
      refine V_tableIn (tgt := 60) C0 c20_0 dX7_ofWord_20 (by decide) (by decide) rfl (by decide) ?_
      refine V_aload_n C0 dX7_ofWord_60 0 rfl rfl ?_
      refine V_get C0 fl_X7_ofWord_10 0 rfl rfl dX7_ofWord_61 rfl ?_
      refine V_get C0 fl_X7_ofWord_177 1 rfl rfl dX7_ofWord_64 rfl ?_
      refine V_iload_n C0 dX7_ofWord_67 1 rfl rfl ?_
      obtain ⟨hi68, hf⟩ := ck_inv hf
      refine V_iald C0 5 0 rfl rfl hi68 dX7_ofWord_68 rfl ?_
      obtain rfl := some_inv hf
      exact V_iret C0 () rfl rfl dX7_ofWord_69
    · have hf := ite_f c20_0 hf
      by_cases c20_1 : x2 = 1
      · have hf := ite_t c20_1 hf
        refine V_tableIn (tgt := 70) C0 c20_1 dX7_ofWord_20 (by decide) (by decide) rfl (by decide) ?_
        refine V_aload_n C0 dX7_ofWord_70 0 rfl rfl ?_
        refine V_get C0 fl_X7_ofWord_10 0 rfl rfl dX7_ofWord_71 rfl ?_
        refine V_get C0 fl_X7_ofWord_123 1 rfl rfl dX7_ofWord_74 rfl ?_
        refine V_iload_n C0 dX7_ofWord_77 1 rfl rfl ?_
        obtain ⟨hi78, hf⟩ := ck_inv hf
        refine V_iald C0 6 0 rfl rfl hi78 dX7_ofWord_78 rfl ?_
        obtain rfl := some_inv hf
        exact V_iret C0 () rfl rfl dX7_ofWord_79
      · have hf := ite_f c20_1 hf
        by_cases c20_2 : x2 = 2
        · have hf := ite_t c20_2 hf
          refine V_tableIn (tgt := 80) C0 c20_2 dX7_ofWord_20 (by decide) (by decide) rfl (by decide) ?_
          refine V_aload_n C0 dX7_ofWord_80 0 rfl rfl ?_
          refine V_get C0 fl_X7_ofWord_51 0 rfl rfl dX7_ofWord_81 rfl ?_
          refine V_get C0 fl_X7_ofWord_180 12 rfl rfl dX7_ofWord_84 rfl ?_
          obtain rfl := some_inv hf
          exact V_iret C0 () rfl rfl dX7_ofWord_87
        · have hf := ite_f c20_2 hf
          by_cases c20_3 : x2 = 3
          · have hf := ite_t c20_3 hf
            refine V_tableIn (tgt := 88) C0 c20_3 dX7_ofWord_20 (by decide) (by decide) rfl (by decide) ?_
            refine V_aload_n C0 dX7_ofWord_88 0 rfl rfl ?_
            refine V_get C0 fl_X7_ofWord_51 0 rfl rfl dX7_ofWord_89 rfl ?_
            refine V_get C0 fl_X7_ofWord_183 12 rfl rfl dX7_ofWord_92 rfl ?_
            obtain rfl := some_inv hf
            exact V_iret C0 () rfl rfl dX7_ofWord_95
          · have hf := ite_f c20_3 hf
            by_cases c20_4 : x2 = 4
            · have hf := ite_t c20_4 hf
              refine V_tableIn (tgt := 96) C0 c20_4 dX7_ofWord_20 (by decide) (by decide) rfl (by decide) ?_
              refine V_aload_n C0 dX7_ofWord_96 0 rfl rfl ?_
              refine V_get C0 fl_X7_ofWord_51 0 rfl rfl dX7_ofWord_97 rfl ?_
              obtain ⟨r_100, hc_100, hf⟩ := bind_inv hf
              refine V_cVI (ws' := (W_BO cI cJ cZ cO ab ac_ atr ah ap al abc aac anb ++ (W_C cI cJ cZ cO ac_ ct.1 ct.2.1 ct.2.2.1 ct.2.2.2.1 ct.2.2.2.2.1 ct.2.2.2.2.2.1 ct.2.2.2.2.2.2.1 ct.2.2.2.2.2.2.2 ++ (W_L cI cJ cZ cO al r_16.1.1 r_16.1.2.1 r_16.1.2.2.1 r_16.1.2.2.2 ++ (W_B cI cJ cZ cO abc r_16.2.1 r_16.2.2.1 r_16.2.2.2.1 r_16.2.2.2.2.1 r_16.2.2.2.2.2.1 r_16.2.2.2.2.2.2.1 r_16.2.2.2.2.2.2.2.1 r_16.2.2.2.2.2.2.2.2 ++ (W_A cI cJ cZ cO aac ac.1 ac.2.1 ac.2.2)))))) (As := []) (b := abc 0) (st := []) C0 (c_X1_cost l dC dI cI cJ cZ cO abc N r_16.2  r_100 hc_100) rfl 0 gX7_ofWord_X1_cost (by decide +kernel) ⟨Nat.le_of_ble_eq_true rfl, Nat.le_of_ble_eq_true rfl⟩ rfl 12 1 rfl rfl  ⟨_, (pr (pr (pr (pte pr1)))), fun _ => (pr (pr (pr (pte pr1))))⟩ rfl (Nat.le_of_ble_eq_true rfl) dX7_ofWord_100 rfl ⟨Nat.zero_le _, Nat.zero_le _⟩ ?_
              refine V_aload_n C0 dX7_ofWord_103 0 rfl rfl ?_
              refine V_get C0 fl_X7_ofWord_10 0 rfl rfl dX7_ofWord_104 rfl ?_
              refine V_get C0 fl_X7_ofWord_123 1 rfl rfl dX7_ofWord_107 rfl ?_
              refine V_iload_n C0 dX7_ofWord_110 1 rfl rfl ?_
              obtain ⟨hi111, hf⟩ := ck_inv hf
              refine V_iald C0 6 0 rfl rfl hi111 dX7_ofWord_111 rfl ?_
              refine V_imul C0 dX7_ofWord_112 rfl ?_
              obtain rfl := some_inv hf
              exact V_iret C0 () rfl rfl dX7_ofWord_113
            · have hf := ite_f c20_4 hf
              by_cases c20_5 : x2 = 5
              · have hf := ite_t c20_5 hf
                refine V_tableIn (tgt := 114) C0 c20_5 dX7_ofWord_20 (by decide) (by decide) rfl (by decide) ?_
                refine V_aload_n C0 dX7_ofWord_114 0 rfl rfl ?_
                refine V_get C0 fl_X7_ofWord_58 0 rfl rfl dX7_ofWord_115 rfl ?_
                refine V_aload_n C0 dX7_ofWord_118 0 rfl rfl ?_
                refine V_get C0 fl_X7_ofWord_44 0 rfl rfl dX7_ofWord_119 rfl ?_
                obtain ⟨r_122, hc_122, hf⟩ := bind_inv hf
                refine V_cVV (ws' := (W_BO cI cJ cZ cO ab ac_ atr ah ap al abc aac anb ++ (W_C cI cJ cZ cO ac_ ct.1 ct.2.1 ct.2.2.1 ct.2.2.2.1 ct.2.2.2.2.1 ct.2.2.2.2.2.1 ct.2.2.2.2.2.2.1 ct.2.2.2.2.2.2.2 ++ (W_L cI cJ cZ cO al r_16.1.1 r_16.1.2.1 r_16.1.2.2.1 r_16.1.2.2.2 ++ (W_B cI cJ cZ cO abc r_16.2.1 r_16.2.2.1 r_16.2.2.2.1 r_16.2.2.2.2.1 r_16.2.2.2.2.2.1 r_16.2.2.2.2.2.2.1 r_16.2.2.2.2.2.2.2.1 r_16.2.2.2.2.2.2.2.2 ++ (W_A cI cJ cZ cO aac r_122.1 r_122.2.1 r_122.2.2)))))) (As := [.ref (al 0)]) (b := aac 0) (st := []) C0 (c_X0_find l dC dI cI cJ cZ cO al aac N r_16.1 ac  r_122 hc_122) rfl 1 gX7_ofWord_X0_find (by decide +kernel) ⟨Nat.le_of_ble_eq_true rfl, Nat.le_of_ble_eq_true rfl⟩ rfl 19 0 rfl rfl  ⟨_, (pr (pr (pt (pr pt1)))), fun _ => (pr (pr (pt (pr pt1))))⟩ rfl (Nat.le_of_ble_eq_true rfl) dX7_ofWord_122 rfl ⟨Nat.zero_le _, Nat.zero_le _⟩ ?_
                refine V_aload_n C0 dX7_ofWord_125 0 rfl rfl ?_
                refine V_get C0 fl_X7_ofWord_58 0 rfl rfl dX7_ofWord_126 rfl ?_
                obtain ⟨r_129, hc_129, hf⟩ := bind_inv hf
                refine V_cVI (ws' := (W_BO cI cJ cZ cO ab ac_ atr ah ap al abc aac anb ++ (W_C cI cJ cZ cO ac_ ct.1 ct.2.1 ct.2.2.1 ct.2.2.2.1 ct.2.2.2.2.1 ct.2.2.2.2.2.1 ct.2.2.2.2.2.2.1 ct.2.2.2.2.2.2.2 ++ (W_L cI cJ cZ cO al r_16.1.1 r_16.1.2.1 r_16.1.2.2.1 r_16.1.2.2.2 ++ (W_B cI cJ cZ cO abc r_16.2.1 r_16.2.2.1 r_16.2.2.2.1 r_16.2.2.2.2.1 r_16.2.2.2.2.2.1 r_16.2.2.2.2.2.2.1 r_16.2.2.2.2.2.2.2.1 r_16.2.2.2.2.2.2.2.2 ++ (W_A cI cJ cZ cO aac r_122.1 r_122.2.1 r_122.2.2)))))) (As := []) (b := aac 0) (st := []) C0 (c_X0_cuts l dC dI cI cJ cZ cO aac N r_122  r_129 hc_129) rfl 0 gX7_ofWord_X0_cuts (by decide +kernel) ⟨Nat.le_of_ble_eq_true rfl, Nat.le_of_ble_eq_true rfl⟩ rfl 19 0 rfl rfl  ⟨_, (pr (pr (pr (pr pt1)))), fun _ => (pr (pr (pr (pr pt1))))⟩ rfl (Nat.le_of_ble_eq_true rfl) dX7_ofWord_129 rfl ⟨Nat.zero_le _, Nat.zero_le _⟩ ?_
                obtain rfl := some_inv hf
                exact V_iret C0 () rfl rfl dX7_ofWord_132
              · have hf := ite_f c20_5 hf
                refine V_tableOut (tgt := 133) C0 dX7_ofWord_20 (tb_out (fun k h1 h2 => ?_)) (by decide) ?_
                · rcases (show k = 0 ∨ k = 1 ∨ k = 2 ∨ k = 3 ∨ k = 4 ∨ k = 5 by omega) with rfl | rfl | rfl | rfl | rfl | rfl
                  · exact c20_0
                  · exact c20_1
                  · exact c20_2
                  · exact c20_3
                  · exact c20_4
                  · exact c20_5
                · skip
                  refine V_bipush (v := (-2)) C0 dX7_ofWord_133 (by decide) rfl ?_
                  obtain rfl := some_inv hf
                  exact V_iret C0 () rfl rfl dX7_ofWord_135
  · have hf := ite_t c5 hf
    refine V_iconst (v := (-1)) C0 dX7_ofWord_8 (by decide) rfl ?_
    obtain rfl := some_inv hf
    exact V_iret C0 () rfl rfl dX7_ofWord_9
abbrev RM_X7_letter : Room := { frames := 1, cells := 0, slots := 0, locals := 22 }
theorem in_X7_letter_X2 : ∀ w ∈ u_ws RX2 TX2 8, w ∈ wsX7_letter := by decide +kernel
theorem in_X7_letter_X7 : ∀ w ∈ u_ws RX7 TX7 12, w ∈ wsX7_letter := by decide +kernel
theorem fl_X7_letter_10 : FL RX7 wsX7_letter 7 10 0 RX7 TX7 12 := ⟨in_X7_letter_X7, rfl, by decide, by decide +kernel, rfl⟩
theorem fl_X7_letter_177 : FL RX7 wsX7_letter 2 177 5 RX2 TX2 8 := ⟨in_X7_letter_X2, rfl, by decide, by decide +kernel, rfl⟩
set_option maxRecDepth 100000 in
set_option maxHeartbeats 4000000 in
theorem c_X7_letter (l : Launch) (dC : Nat → ClassId) (dI : Nat → Nat → Nat) (cI cJ cZ cO : ClassId) (ab : Nat → Nat) (ac_ : Nat → Nat) (atr : Nat → Nat) (ah : Nat → Nat) (ap : Nat → Nat) (al : Nat → Nat) (abc : Nat → Nat) (aac : Nat → Nat) (anb : Nat → Nat) (N : Nat) (ct : CV) (x1 : Int32) (x2 : Int32) (o : Int32) (hf : f_X7_letter N ct x1 x2 = some o) : MetI l yX7_letter wsX7_letter RM_X7_letter (dC, dI) (TY cI cJ cZ cO) [.ref (ab 0), .int x1, .int x2] (W_BO cI cJ cZ cO ab ac_ atr ah ap al abc aac anb ++ (W_C cI cJ cZ cO ac_ ct.1 ct.2.1 ct.2.2.1 ct.2.2.2.1 ct.2.2.2.2.1 ct.2.2.2.2.2.1 ct.2.2.2.2.2.2.1 ct.2.2.2.2.2.2.2)) (fun r (_ : Unit) => r = o) (fun _ => (W_BO cI cJ cZ cO ab ac_ atr ah ap al abc aac anb ++ (W_C cI cJ cZ cO ac_ ct.1 ct.2.1 ct.2.2.1 ct.2.2.2.1 ct.2.2.2.2.1 ct.2.2.2.2.2.1 ct.2.2.2.2.2.2.1 ct.2.2.2.2.2.2.2))) := by
  refine MetI.ofV (cc := cX7_letter) (maxL := 3) (ret := (some .int)) (own := RX7) (lv0 := [(0, .ref (ab 0)), (1, .int x1), (2, .int x2)]) (by decide) rfl rfl (Nat.le_of_ble_eq_true rfl) rfl ?_
  intro p e s m below meth c A C0 _
  unfold f_X7_letter at hf
  refine V_aload_n C0 dX7_letter_0 0 rfl rfl ?_
  refine V_iload_n C0 dX7_letter_1 1 rfl rfl ?_
  obtain ⟨r_2, hc_2, hf⟩ := bind_inv hf
  refine V_cVI (ws' := (W_BO cI cJ cZ cO ab ac_ atr ah ap al abc aac anb ++ (W_C cI cJ cZ cO ac_ ct.1 ct.2.1 ct.2.2.1 ct.2.2.2.1 ct.2.2.2.2.1 ct.2.2.2.2.2.1 ct.2.2.2.2.2.2.1 ct.2.2.2.2.2.2.2))) (As := [.int x1]) (b := ab 0) (st := []) C0 (c_X7_isWord l dC dI cI cJ cZ cO ab ac_ atr ah ap al abc aac anb N ct x1 r_2 hc_2) rfl 1 gX7_letter_X7_isWord (by decide +kernel) ⟨Nat.le_of_ble_eq_true rfl, Nat.le_of_ble_eq_true rfl⟩ rfl 0 7 rfl rfl  Cut.all rfl (Nat.le_of_ble_eq_true rfl) dX7_letter_2 rfl ⟨Nat.zero_le _, Nat.zero_le _⟩ ?_
  refine V_if_eq (tgt := 25) C0 dX7_letter_5 (by decide) rfl (fun c5 => ?_) (fun c5 => ?_)
  · have hf := ite_t c5 hf
    refine V_iconst (v := (-1)) C0 dX7_letter_25 (by decide) rfl ?_
    obtain rfl := some_inv hf
    exact V_iret C0 () rfl rfl dX7_letter_26
  · have hf := ite_f c5 hf
    refine V_iload_n C0 dX7_letter_8 2 rfl rfl ?_
    refine V_if_lt (tgt := 25) C0 dX7_letter_9 (by decide) rfl (fun c9 => ?_) (fun c9 => ?_)
    · have hf := ite_t c9 hf
      refine V_iconst (v := (-1)) C0 dX7_letter_25 (by decide) rfl ?_
      obtain rfl := some_inv hf
      exact V_iret C0 () rfl rfl dX7_letter_26
    · have hf := ite_f c9 hf
      refine V_iload_n C0 dX7_letter_12 2 rfl rfl ?_
      refine V_aload_n C0 dX7_letter_13 0 rfl rfl ?_
      refine V_get C0 fl_X7_letter_10 0 rfl rfl dX7_letter_14 rfl ?_
      refine V_get C0 fl_X7_letter_177 1 rfl rfl dX7_letter_17 rfl ?_
      refine V_iload_n C0 dX7_letter_20 1 rfl rfl ?_
      obtain ⟨hi21, hf⟩ := ck_inv hf
      refine V_iald C0 5 0 rfl rfl hi21 dX7_letter_21 rfl ?_
      refine V_icmp_lt (tgt := 27) C0 dX7_letter_22 (by decide) rfl (fun c22 => ?_) (fun c22 => ?_)
      · have hf := ite_t c22 hf
        refine V_aload_n C0 dX7_letter_27 0 rfl rfl ?_
        refine V_get C0 fl_X7_letter_10 0 rfl rfl dX7_letter_28 rfl ?_
        refine V_iload_n C0 dX7_letter_31 1 rfl rfl ?_
        refine V_iload_n C0 dX7_letter_32 2 rfl rfl ?_
        obtain ⟨r_33, hc_33, hf⟩ := bind_inv hf
        refine V_cVI (ws' := (W_BO cI cJ cZ cO ab ac_ atr ah ap al abc aac anb ++ (W_C cI cJ cZ cO ac_ ct.1 ct.2.1 ct.2.2.1 ct.2.2.2.1 ct.2.2.2.2.1 ct.2.2.2.2.2.1 ct.2.2.2.2.2.2.1 ct.2.2.2.2.2.2.2))) (As := [.int x1, .int x2]) (b := ac_ 0) (st := []) C0 (c_X2_letterAt l dC dI cI cJ cZ cO ac_ N ct x1 x2 r_33 hc_33) rfl 2 gX7_letter_X2_letterAt (by decide +kernel) ⟨Nat.le_of_ble_eq_true rfl, Nat.le_of_ble_eq_true rfl⟩ rfl 1 2 rfl rfl  ⟨_, (pr pt1), fun _ => (pr pt1)⟩ rfl (Nat.le_of_ble_eq_true rfl) dX7_letter_33 rfl ⟨Nat.zero_le _, Nat.zero_le _⟩ ?_
        obtain rfl := some_inv hf
        exact V_iret C0 () rfl rfl dX7_letter_36
      · have hf := ite_f c22 hf
        refine V_iconst (v := (-1)) C0 dX7_letter_25 (by decide) rfl ?_
        obtain rfl := some_inv hf
        exact V_iret C0 () rfl rfl dX7_letter_26
abbrev RM_X7_product : Room := { frames := 6, cells := 0, slots := 0, locals := 141 }
theorem in_X7_product_X7 : ∀ w ∈ u_ws RX7 TX7 12, w ∈ wsX7_product := by decide +kernel
theorem fl_X7_product_10 : FL RX7 wsX7_product 7 10 0 RX7 TX7 12 := ⟨in_X7_product_X7, rfl, by decide, by decide +kernel, rfl⟩
theorem fl_X7_product_44 : FL RX7 wsX7_product 7 44 6 RX7 TX7 12 := ⟨in_X7_product_X7, rfl, by decide, by decide +kernel, rfl⟩
theorem fl_X7_product_51 : FL RX7 wsX7_product 7 51 7 RX7 TX7 12 := ⟨in_X7_product_X7, rfl, by decide, by decide +kernel, rfl⟩
theorem fl_X7_product_58 : FL RX7 wsX7_product 7 58 8 RX7 TX7 12 := ⟨in_X7_product_X7, rfl, by decide, by decide +kernel, rfl⟩
set_option maxRecDepth 100000 in
set_option maxHeartbeats 4000000 in
theorem c_X7_product (l : Launch) (dC : Nat → ClassId) (dI : Nat → Nat → Nat) (cI cJ cZ cO : ClassId) (ab : Nat → Nat) (ac_ : Nat → Nat) (atr : Nat → Nat) (ah : Nat → Nat) (ap : Nat → Nat) (al : Nat → Nat) (abc : Nat → Nat) (aac : Nat → Nat) (anb : Nat → Nat) (N : Nat) (ct : CV) (lt : LV) (bc : BV) (ac : AV) (x1 : Int32) (x2 : Int32) (o : Int64 × LV × BV × AV) (hf : f_X7_product N ct lt bc ac x1 x2 = some o) : MetL l yX7_product wsX7_product RM_X7_product (dC, dI) (TY cI cJ cZ cO) [.ref (ab 0), .int x1, .int x2] (W_BO cI cJ cZ cO ab ac_ atr ah ap al abc aac anb ++ (W_C cI cJ cZ cO ac_ ct.1 ct.2.1 ct.2.2.1 ct.2.2.2.1 ct.2.2.2.2.1 ct.2.2.2.2.2.1 ct.2.2.2.2.2.2.1 ct.2.2.2.2.2.2.2 ++ (W_L cI cJ cZ cO al lt.1 lt.2.1 lt.2.2.1 lt.2.2.2 ++ (W_B cI cJ cZ cO abc bc.1 bc.2.1 bc.2.2.1 bc.2.2.2.1 bc.2.2.2.2.1 bc.2.2.2.2.2.1 bc.2.2.2.2.2.2.1 bc.2.2.2.2.2.2.2 ++ (W_A cI cJ cZ cO aac ac.1 ac.2.1 ac.2.2))))) (fun r (_ : Unit) => r = o.1) (fun _ => (W_BO cI cJ cZ cO ab ac_ atr ah ap al abc aac anb ++ (W_C cI cJ cZ cO ac_ ct.1 ct.2.1 ct.2.2.1 ct.2.2.2.1 ct.2.2.2.2.1 ct.2.2.2.2.2.1 ct.2.2.2.2.2.2.1 ct.2.2.2.2.2.2.2 ++ (W_L cI cJ cZ cO al o.2.1.1 o.2.1.2.1 o.2.1.2.2.1 o.2.1.2.2.2 ++ (W_B cI cJ cZ cO abc o.2.2.1.1 o.2.2.1.2.1 o.2.2.1.2.2.1 o.2.2.1.2.2.2.1 o.2.2.1.2.2.2.2.1 o.2.2.1.2.2.2.2.2.1 o.2.2.1.2.2.2.2.2.2.1 o.2.2.1.2.2.2.2.2.2.2 ++ (W_A cI cJ cZ cO aac o.2.2.2.1 o.2.2.2.2.1 o.2.2.2.2.2)))))) := by
  refine MetL.ofV (cc := cX7_product) (maxL := 3) (ret := (some .long)) (own := RX7) (lv0 := [(0, .ref (ab 0)), (1, .int x1), (2, .int x2)]) (by decide) rfl rfl (Nat.le_of_ble_eq_true rfl) rfl ?_
  intro p e s m below meth c A C0 _
  unfold f_X7_product at hf
  refine V_aload_n C0 dX7_product_0 0 rfl rfl ?_
  refine V_iload_n C0 dX7_product_1 1 rfl rfl ?_
  obtain ⟨r_2, hc_2, hf⟩ := bind_inv hf
  refine V_cVI (ws' := (W_BO cI cJ cZ cO ab ac_ atr ah ap al abc aac anb ++ (W_C cI cJ cZ cO ac_ ct.1 ct.2.1 ct.2.2.1 ct.2.2.2.1 ct.2.2.2.2.1 ct.2.2.2.2.2.1 ct.2.2.2.2.2.2.1 ct.2.2.2.2.2.2.2 ++ (W_L cI cJ cZ cO al lt.1 lt.2.1 lt.2.2.1 lt.2.2.2 ++ (W_B cI cJ cZ cO abc bc.1 bc.2.1 bc.2.2.1 bc.2.2.2.1 bc.2.2.2.2.1 bc.2.2.2.2.2.1 bc.2.2.2.2.2.2.1 bc.2.2.2.2.2.2.2 ++ (W_A cI cJ cZ cO aac ac.1 ac.2.1 ac.2.2)))))) (As := [.int x1]) (b := ab 0) (st := []) C0 (c_X7_isWord l dC dI cI cJ cZ cO ab ac_ atr ah ap al abc aac anb N ct x1 r_2 hc_2) rfl 1 gX7_product_X7_isWord (by decide +kernel) ⟨Nat.le_of_ble_eq_true rfl, Nat.le_of_ble_eq_true rfl⟩ rfl 0 7 rfl rfl  ⟨_, (pt (pte (pr (pr pr1)))), fun _ => (pt (pte (pr (pr pr1))))⟩ rfl (Nat.le_of_ble_eq_true rfl) dX7_product_2 rfl ⟨Nat.zero_le _, Nat.zero_le _⟩ ?_
  refine V_if_ne (tgt := 12) C0 dX7_product_5 (by decide) rfl (fun c5 => ?_) (fun c5 => ?_)
  · have hf := ite_f c5 hf
    refine V_iload_n C0 dX7_product_12 2 rfl rfl ?_
    refine V_if_ne (tgt := 47) C0 dX7_product_13 (by decide) rfl (fun c13 => ?_) (fun c13 => ?_)
    · have hf := ite_f c13 hf
      refine V_iload_n C0 dX7_product_47 2 rfl rfl ?_
      refine V_iconst (v := 1) C0 dX7_product_48 (by decide) rfl ?_
      refine V_icmp_ne (tgt := 69) C0 dX7_product_49 (by decide) rfl (fun c49 => ?_) (fun c49 => ?_)
      · have hf := ite_f c49 hf
        refine V_ldc2 (v := (-2)) C0 dX7_product_69 (by decide +kernel) rfl ?_
        obtain rfl := some_inv hf
        exact V_lret C0 () rfl rfl dX7_product_72
      · have hf := ite_t c49 hf
        refine V_aload_n C0 dX7_product_52 0 rfl rfl ?_
        refine V_aload_n C0 dX7_product_53 0 rfl rfl ?_
        refine V_get C0 fl_X7_product_10 0 rfl rfl dX7_product_54 rfl ?_
        refine V_iload_n C0 dX7_product_57 1 rfl rfl ?_
        obtain ⟨r_58, hc_58, hf⟩ := bind_inv hf
        refine V_cVV (ws' := (W_BO cI cJ cZ cO ab ac_ atr ah ap al abc aac anb ++ (W_C cI cJ cZ cO ac_ ct.1 ct.2.1 ct.2.2.1 ct.2.2.2.1 ct.2.2.2.2.1 ct.2.2.2.2.2.1 ct.2.2.2.2.2.2.1 ct.2.2.2.2.2.2.2 ++ (W_L cI cJ cZ cO al r_58.1.1 r_58.1.2.1 r_58.1.2.2.1 r_58.1.2.2.2 ++ (W_B cI cJ cZ cO abc r_58.2.1 r_58.2.2.1 r_58.2.2.2.1 r_58.2.2.2.2.1 r_58.2.2.2.2.2.1 r_58.2.2.2.2.2.2.1 r_58.2.2.2.2.2.2.2.1 r_58.2.2.2.2.2.2.2.2 ++ (W_A cI cJ cZ cO aac ac.1 ac.2.1 ac.2.2)))))) (As := [.ref (ac_ 0), .int x1]) (b := ab 0) (st := []) C0 (c_X7_cutBest l dC dI cI cJ cZ cO ab ac_ atr ah ap al abc aac anb ac_ N ct lt bc x1 r_58 hc_58) rfl 2 gX7_product_X7_cutBest (by decide +kernel) ⟨Nat.le_of_ble_eq_true rfl, Nat.le_of_ble_eq_true rfl⟩ rfl 0 7 rfl rfl  ⟨_, (pt (pt (pt (pte pr1)))), fun _ => (pt (pt (pt (pte pr1))))⟩ rfl (Nat.le_of_ble_eq_true rfl) dX7_product_58 rfl ⟨Nat.zero_le _, Nat.zero_le _⟩ ?_
        refine V_aload_n C0 dX7_product_61 0 rfl rfl ?_
        refine V_get C0 fl_X7_product_51 0 rfl rfl dX7_product_62 rfl ?_
        obtain ⟨r_65, hc_65, hf⟩ := bind_inv hf
        refine V_cVL (ws' := (W_BO cI cJ cZ cO ab ac_ atr ah ap al abc aac anb ++ (W_C cI cJ cZ cO ac_ ct.1 ct.2.1 ct.2.2.1 ct.2.2.2.1 ct.2.2.2.2.1 ct.2.2.2.2.2.1 ct.2.2.2.2.2.2.1 ct.2.2.2.2.2.2.2 ++ (W_L cI cJ cZ cO al r_58.1.1 r_58.1.2.1 r_58.1.2.2.1 r_58.1.2.2.2 ++ (W_B cI cJ cZ cO abc r_58.2.1 r_58.2.2.1 r_58.2.2.2.1 r_58.2.2.2.2.1 r_58.2.2.2.2.2.1 r_58.2.2.2.2.2.2.1 r_58.2.2.2.2.2.2.2.1 r_58.2.2.2.2.2.2.2.2 ++ (W_A cI cJ cZ cO aac ac.1 ac.2.1 ac.2.2)))))) (As := []) (b := abc 0) (st := []) C0 (c_X1_greatestProduct l dC dI cI cJ cZ cO abc N r_58.2  r_65 hc_65) rfl 0 gX7_product_X1_greatestProduct (by decide +kernel) ⟨Nat.le_of_ble_eq_true rfl, Nat.le_of_ble_eq_true rfl⟩ rfl 12 1 rfl rfl  ⟨_, (pr (pr (pr (pte pr1)))), fun _ => (pr (pr (pr (pte pr1))))⟩ rfl (Nat.le_of_ble_eq_true rfl) dX7_product_65 rfl ⟨Nat.zero_le _, Nat.zero_le _⟩ ?_
        obtain rfl := some_inv hf
        exact V_lret C0 () rfl rfl dX7_product_68
    · have hf := ite_t c13 hf
      refine V_aload_n C0 dX7_product_16 0 rfl rfl ?_
      refine V_get C0 fl_X7_product_44 0 rfl rfl dX7_product_17 rfl ?_
      refine V_aload_n C0 dX7_product_20 0 rfl rfl ?_
      refine V_get C0 fl_X7_product_10 0 rfl rfl dX7_product_21 rfl ?_
      refine V_iload_n C0 dX7_product_24 1 rfl rfl ?_
      obtain ⟨r_25, hc_25, hf⟩ := bind_inv hf
      refine V_cVV (ws' := (W_BO cI cJ cZ cO ab ac_ atr ah ap al abc aac anb ++ (W_C cI cJ cZ cO ac_ ct.1 ct.2.1 ct.2.2.1 ct.2.2.2.1 ct.2.2.2.2.1 ct.2.2.2.2.2.1 ct.2.2.2.2.2.2.1 ct.2.2.2.2.2.2.2 ++ (W_L cI cJ cZ cO al r_25.1 r_25.2.1 r_25.2.2.1 r_25.2.2.2 ++ (W_B cI cJ cZ cO abc bc.1 bc.2.1 bc.2.2.1 bc.2.2.2.1 bc.2.2.2.2.1 bc.2.2.2.2.2.1 bc.2.2.2.2.2.2.1 bc.2.2.2.2.2.2.2 ++ (W_A cI cJ cZ cO aac ac.1 ac.2.1 ac.2.2)))))) (As := [.ref (ac_ 0), .int x1]) (b := al 0) (st := []) C0 (c_X4_read l dC dI cI cJ cZ cO ac_ al N ct lt x1 r_25 hc_25) rfl 2 gX7_product_X4_read (by decide +kernel) ⟨Nat.le_of_ble_eq_true rfl, Nat.le_of_ble_eq_true rfl⟩ rfl 8 4 rfl rfl  ⟨_, (pr (pt (pte (pr pr1)))), fun _ => (pr (pt (pte (pr pr1))))⟩ rfl (Nat.le_of_ble_eq_true rfl) dX7_product_25 rfl ⟨Nat.zero_le _, Nat.zero_le _⟩ ?_
      refine V_aload_n C0 dX7_product_28 0 rfl rfl ?_
      refine V_get C0 fl_X7_product_58 0 rfl rfl dX7_product_29 rfl ?_
      refine V_aload_n C0 dX7_product_32 0 rfl rfl ?_
      refine V_get C0 fl_X7_product_44 0 rfl rfl dX7_product_33 rfl ?_
      obtain ⟨r_36, hc_36, hf⟩ := bind_inv hf
      refine V_cVV (ws' := (W_BO cI cJ cZ cO ab ac_ atr ah ap al abc aac anb ++ (W_C cI cJ cZ cO ac_ ct.1 ct.2.1 ct.2.2.1 ct.2.2.2.1 ct.2.2.2.2.1 ct.2.2.2.2.2.1 ct.2.2.2.2.2.2.1 ct.2.2.2.2.2.2.2 ++ (W_L cI cJ cZ cO al r_25.1 r_25.2.1 r_25.2.2.1 r_25.2.2.2 ++ (W_B cI cJ cZ cO abc bc.1 bc.2.1 bc.2.2.1 bc.2.2.2.1 bc.2.2.2.2.1 bc.2.2.2.2.2.1 bc.2.2.2.2.2.2.1 bc.2.2.2.2.2.2.2 ++ (W_A cI cJ cZ cO aac r_36.1 r_36.2.1 r_36.2.2)))))) (As := [.ref (al 0)]) (b := aac 0) (st := []) C0 (c_X0_find l dC dI cI cJ cZ cO al aac N r_25 ac  r_36 hc_36) rfl 1 gX7_product_X0_find (by decide +kernel) ⟨Nat.le_of_ble_eq_true rfl, Nat.le_of_ble_eq_true rfl⟩ rfl 19 0 rfl rfl  ⟨_, (pr (pr (pt (pr pt1)))), fun _ => (pr (pr (pt (pr pt1))))⟩ rfl (Nat.le_of_ble_eq_true rfl) dX7_product_36 rfl ⟨Nat.zero_le _, Nat.zero_le _⟩ ?_
      refine V_aload_n C0 dX7_product_39 0 rfl rfl ?_
      refine V_get C0 fl_X7_product_58 0 rfl rfl dX7_product_40 rfl ?_
      obtain ⟨r_43, hc_43, hf⟩ := bind_inv hf
      refine V_cVL (ws' := (W_BO cI cJ cZ cO ab ac_ atr ah ap al abc aac anb ++ (W_C cI cJ cZ cO ac_ ct.1 ct.2.1 ct.2.2.1 ct.2.2.2.1 ct.2.2.2.2.1 ct.2.2.2.2.2.1 ct.2.2.2.2.2.2.1 ct.2.2.2.2.2.2.2 ++ (W_L cI cJ cZ cO al r_25.1 r_25.2.1 r_25.2.2.1 r_25.2.2.2 ++ (W_B cI cJ cZ cO abc bc.1 bc.2.1 bc.2.2.1 bc.2.2.2.1 bc.2.2.2.2.1 bc.2.2.2.2.2.1 bc.2.2.2.2.2.2.1 bc.2.2.2.2.2.2.2 ++ (W_A cI cJ cZ cO aac r_36.1 r_36.2.1 r_36.2.2)))))) (As := []) (b := aac 0) (st := []) C0 (c_X0_total l dC dI cI cJ cZ cO aac N r_36  r_43 hc_43) rfl 0 gX7_product_X0_total (by decide +kernel) ⟨Nat.le_of_ble_eq_true rfl, Nat.le_of_ble_eq_true rfl⟩ rfl 19 0 rfl rfl  ⟨_, (pr (pr (pr (pr pt1)))), fun _ => (pr (pr (pr (pr pt1))))⟩ rfl (Nat.le_of_ble_eq_true rfl) dX7_product_43 rfl ⟨Nat.zero_le _, Nat.zero_le _⟩ ?_
      obtain rfl := some_inv hf
      exact V_lret C0 () rfl rfl dX7_product_46
  · have hf := ite_t c5 hf
    refine V_ldc2 (v := (-1)) C0 dX7_product_8 (by decide +kernel) rfl ?_
    obtain rfl := some_inv hf
    exact V_lret C0 () rfl rfl dX7_product_11
abbrev RM_X7_part : Room := { frames := 6, cells := 0, slots := 0, locals := 141 }
theorem in_X7_part_X1 : ∀ w ∈ u_ws RX1 TX1 8, w ∈ wsX7_part := by decide +kernel
theorem in_X7_part_X7 : ∀ w ∈ u_ws RX7 TX7 12, w ∈ wsX7_part := by decide +kernel
theorem fl_X7_part_10 : FL RX7 wsX7_part 7 10 0 RX7 TX7 12 := ⟨in_X7_part_X7, rfl, by decide, by decide +kernel, rfl⟩
theorem fl_X7_part_51 : FL RX7 wsX7_part 7 51 7 RX7 TX7 12 := ⟨in_X7_part_X7, rfl, by decide, by decide +kernel, rfl⟩
theorem fl_X7_part_180 : FL RX7 wsX7_part 1 180 3 RX1 TX1 8 := ⟨in_X7_part_X1, rfl, by decide, by decide +kernel, rfl⟩
theorem fl_X7_part_213 : FL RX7 wsX7_part 1 213 5 RX1 TX1 8 := ⟨in_X7_part_X1, rfl, by decide, by decide +kernel, rfl⟩
theorem fl_X7_part_216 : FL RX7 wsX7_part 1 216 6 RX1 TX1 8 := ⟨in_X7_part_X1, rfl, by decide, by decide +kernel, rfl⟩
theorem fl_X7_part_219 : FL RX7 wsX7_part 1 219 7 RX1 TX1 8 := ⟨in_X7_part_X1, rfl, by decide, by decide +kernel, rfl⟩
set_option maxRecDepth 100000 in
set_option maxHeartbeats 4000000 in
theorem c_X7_part (l : Launch) (dC : Nat → ClassId) (dI : Nat → Nat → Nat) (cI cJ cZ cO : ClassId) (ab : Nat → Nat) (ac_ : Nat → Nat) (atr : Nat → Nat) (ah : Nat → Nat) (ap : Nat → Nat) (al : Nat → Nat) (abc : Nat → Nat) (aac : Nat → Nat) (anb : Nat → Nat) (N : Nat) (ct : CV) (lt : LV) (bc : BV) (x1 : Int32) (x2 : Int32) (x3 : Int32) (o : Int32 × LV × BV) (hf : f_X7_part N ct lt bc x1 x2 x3 = some o) : MetI l yX7_part wsX7_part RM_X7_part (dC, dI) (TY cI cJ cZ cO) [.ref (ab 0), .int x1, .int x2, .int x3] (W_BO cI cJ cZ cO ab ac_ atr ah ap al abc aac anb ++ (W_C cI cJ cZ cO ac_ ct.1 ct.2.1 ct.2.2.1 ct.2.2.2.1 ct.2.2.2.2.1 ct.2.2.2.2.2.1 ct.2.2.2.2.2.2.1 ct.2.2.2.2.2.2.2 ++ (W_L cI cJ cZ cO al lt.1 lt.2.1 lt.2.2.1 lt.2.2.2 ++ (W_B cI cJ cZ cO abc bc.1 bc.2.1 bc.2.2.1 bc.2.2.2.1 bc.2.2.2.2.1 bc.2.2.2.2.2.1 bc.2.2.2.2.2.2.1 bc.2.2.2.2.2.2.2)))) (fun r (_ : Unit) => r = o.1) (fun _ => (W_BO cI cJ cZ cO ab ac_ atr ah ap al abc aac anb ++ (W_C cI cJ cZ cO ac_ ct.1 ct.2.1 ct.2.2.1 ct.2.2.2.1 ct.2.2.2.2.1 ct.2.2.2.2.2.1 ct.2.2.2.2.2.2.1 ct.2.2.2.2.2.2.2 ++ (W_L cI cJ cZ cO al o.2.1.1 o.2.1.2.1 o.2.1.2.2.1 o.2.1.2.2.2 ++ (W_B cI cJ cZ cO abc o.2.2.1 o.2.2.2.1 o.2.2.2.2.1 o.2.2.2.2.2.1 o.2.2.2.2.2.2.1 o.2.2.2.2.2.2.2.1 o.2.2.2.2.2.2.2.2.1 o.2.2.2.2.2.2.2.2.2))))) := by
  refine MetI.ofV (cc := cX7_part) (maxL := 4) (ret := (some .int)) (own := RX7) (lv0 := [(0, .ref (ab 0)), (1, .int x1), (2, .int x2), (3, .int x3)]) (by decide) rfl rfl (Nat.le_of_ble_eq_true rfl) rfl ?_
  intro p e s m below meth c A C0 _
  unfold f_X7_part at hf
  refine V_aload_n C0 dX7_part_0 0 rfl rfl ?_
  refine V_iload_n C0 dX7_part_1 1 rfl rfl ?_
  obtain ⟨r_2, hc_2, hf⟩ := bind_inv hf
  refine V_cVI (ws' := (W_BO cI cJ cZ cO ab ac_ atr ah ap al abc aac anb ++ (W_C cI cJ cZ cO ac_ ct.1 ct.2.1 ct.2.2.1 ct.2.2.2.1 ct.2.2.2.2.1 ct.2.2.2.2.2.1 ct.2.2.2.2.2.2.1 ct.2.2.2.2.2.2.2 ++ (W_L cI cJ cZ cO al lt.1 lt.2.1 lt.2.2.1 lt.2.2.2 ++ (W_B cI cJ cZ cO abc bc.1 bc.2.1 bc.2.2.1 bc.2.2.2.1 bc.2.2.2.2.1 bc.2.2.2.2.2.1 bc.2.2.2.2.2.2.1 bc.2.2.2.2.2.2.2))))) (As := [.int x1]) (b := ab 0) (st := []) C0 (c_X7_isWord l dC dI cI cJ cZ cO ab ac_ atr ah ap al abc aac anb N ct x1 r_2 hc_2) rfl 1 gX7_part_X7_isWord (by decide +kernel) ⟨Nat.le_of_ble_eq_true rfl, Nat.le_of_ble_eq_true rfl⟩ rfl 0 7 rfl rfl  ⟨_, (pt (pte (pr pr1))), fun _ => (pt (pte (pr pr1)))⟩ rfl (Nat.le_of_ble_eq_true rfl) dX7_part_2 rfl ⟨Nat.zero_le _, Nat.zero_le _⟩ ?_
  refine V_if_ne (tgt := 10) C0 dX7_part_5 (by decide) rfl (fun c5 => ?_) (fun c5 => ?_)
  · have hf := ite_f c5 hf
    refine V_aload_n C0 dX7_part_10 0 rfl rfl ?_
    refine V_aload_n C0 dX7_part_11 0 rfl rfl ?_
    refine V_get C0 fl_X7_part_10 0 rfl rfl dX7_part_12 rfl ?_
    refine V_iload_n C0 dX7_part_15 1 rfl rfl ?_
    obtain ⟨r_16, hc_16, hf⟩ := bind_inv hf
    refine V_cVV (ws' := (W_BO cI cJ cZ cO ab ac_ atr ah ap al abc aac anb ++ (W_C cI cJ cZ cO ac_ ct.1 ct.2.1 ct.2.2.1 ct.2.2.2.1 ct.2.2.2.2.1 ct.2.2.2.2.2.1 ct.2.2.2.2.2.2.1 ct.2.2.2.2.2.2.2 ++ (W_L cI cJ cZ cO al r_16.1.1 r_16.1.2.1 r_16.1.2.2.1 r_16.1.2.2.2 ++ (W_B cI cJ cZ cO abc r_16.2.1 r_16.2.2.1 r_16.2.2.2.1 r_16.2.2.2.2.1 r_16.2.2.2.2.2.1 r_16.2.2.2.2.2.2.1 r_16.2.2.2.2.2.2.2.1 r_16.2.2.2.2.2.2.2.2))))) (As := [.ref (ac_ 0), .int x1]) (b := ab 0) (st := []) C0 (c_X7_cutBest l dC dI cI cJ cZ cO ab ac_ atr ah ap al abc aac anb ac_ N ct lt bc x1 r_16 hc_16) rfl 2 gX7_part_X7_cutBest (by decide +kernel) ⟨Nat.le_of_ble_eq_true rfl, Nat.le_of_ble_eq_true rfl⟩ rfl 0 7 rfl rfl  Cut.all rfl (Nat.le_of_ble_eq_true rfl) dX7_part_16 rfl ⟨Nat.zero_le _, Nat.zero_le _⟩ ?_
    refine V_iload_n C0 dX7_part_19 2 rfl rfl ?_
    refine V_if_lt (tgt := 34) C0 dX7_part_20 (by decide) rfl (fun c20 => ?_) (fun c20 => ?_)
    · have hf := ite_t c20 hf
      refine V_iconst (v := (-1)) C0 dX7_part_34 (by decide) rfl ?_
      obtain rfl := some_inv hf
      exact V_iret C0 () rfl rfl dX7_part_35
    · have hf := ite_f c20 hf
      refine V_iload_n C0 dX7_part_23 2 rfl rfl ?_
      refine V_aload_n C0 dX7_part_24 0 rfl rfl ?_
      refine V_get C0 fl_X7_part_51 0 rfl rfl dX7_part_25 rfl ?_
      refine V_get C0 fl_X7_part_180 12 rfl rfl dX7_part_28 rfl ?_
      refine V_icmp_lt (tgt := 36) C0 dX7_part_31 (by decide) rfl (fun c31 => ?_) (fun c31 => ?_)
      · have hf := ite_t c31 hf
        refine V_iload_n C0 dX7_part_36 3 rfl rfl ?_
        by_cases c37_0 : x3 = 0
        · have hf := ite_t c37_0 hf
          refine V_tableIn (tgt := 64) C0 c37_0 dX7_part_37 (by decide) (by decide) rfl (by decide) ?_
          refine V_aload_n C0 dX7_part_64 0 rfl rfl ?_
          refine V_get C0 fl_X7_part_51 0 rfl rfl dX7_part_65 rfl ?_
          refine V_get C0 fl_X7_part_213 12 rfl rfl dX7_part_68 rfl ?_
          refine V_iload_n C0 dX7_part_71 2 rfl rfl ?_
          obtain ⟨hi72, hf⟩ := ck_inv hf
          refine V_iald C0 16 0 rfl rfl hi72 dX7_part_72 rfl ?_
          refine V_iconst (v := (-1)) C0 dX7_part_73 (by decide) rfl ?_
          refine V_icmp_ne (tgt := 82) C0 dX7_part_74 (by decide) rfl (fun c74 => ?_) (fun c74 => ?_)
          · have hf := ite_f c74 hf
            refine V_aload_n C0 dX7_part_82 0 rfl rfl ?_
            refine V_get C0 fl_X7_part_51 0 rfl rfl dX7_part_83 rfl ?_
            refine V_get C0 fl_X7_part_213 12 rfl rfl dX7_part_86 rfl ?_
            refine V_iload_n C0 dX7_part_89 2 rfl rfl ?_
            obtain ⟨hi90, hf⟩ := ck_inv hf
            refine V_iald C0 16 0 rfl rfl hi90 dX7_part_90 rfl ?_
            obtain rfl := some_inv hf
            exact V_iret C0 () rfl rfl dX7_part_91
          · have hf := ite_t c74 hf
            refine V_bipush (v := (-6)) C0 dX7_part_77 (by decide) rfl ?_
            refine V_goto (tgt := 91) C0 dX7_part_79 (by decide) ?_
            obtain rfl := some_inv hf
            exact V_iret C0 () rfl rfl dX7_part_91
        · have hf := ite_f c37_0 hf
          by_cases c37_1 : x3 = 1
          · have hf := ite_t c37_1 hf
            refine V_tableIn (tgt := 92) C0 c37_1 dX7_part_37 (by decide) (by decide) rfl (by decide) ?_
            refine V_aload_n C0 dX7_part_92 0 rfl rfl ?_
            refine V_get C0 fl_X7_part_51 0 rfl rfl dX7_part_93 rfl ?_
            refine V_get C0 fl_X7_part_216 12 rfl rfl dX7_part_96 rfl ?_
            refine V_iload_n C0 dX7_part_99 2 rfl rfl ?_
            obtain ⟨hi100, hf⟩ := ck_inv hf
            refine V_iald C0 17 0 rfl rfl hi100 dX7_part_100 rfl ?_
            obtain rfl := some_inv hf
            exact V_iret C0 () rfl rfl dX7_part_101
          · have hf := ite_f c37_1 hf
            by_cases c37_2 : x3 = 2
            · have hf := ite_t c37_2 hf
              refine V_tableIn (tgt := 102) C0 c37_2 dX7_part_37 (by decide) (by decide) rfl (by decide) ?_
              refine V_aload_n C0 dX7_part_102 0 rfl rfl ?_
              refine V_get C0 fl_X7_part_51 0 rfl rfl dX7_part_103 rfl ?_
              refine V_get C0 fl_X7_part_219 12 rfl rfl dX7_part_106 rfl ?_
              refine V_iload_n C0 dX7_part_109 2 rfl rfl ?_
              obtain ⟨hi110, hf⟩ := ck_inv hf
              refine V_iald C0 18 0 rfl rfl hi110 dX7_part_110 rfl ?_
              obtain rfl := some_inv hf
              exact V_iret C0 () rfl rfl dX7_part_111
            · have hf := ite_f c37_2 hf
              refine V_tableOut (tgt := 112) C0 dX7_part_37 (tb_out (fun k h1 h2 => ?_)) (by decide) ?_
              · rcases (show k = 0 ∨ k = 1 ∨ k = 2 by omega) with rfl | rfl | rfl
                · exact c37_0
                · exact c37_1
                · exact c37_2
              · skip
                refine V_bipush (v := (-2)) C0 dX7_part_112 (by decide) rfl ?_
                obtain rfl := some_inv hf
                exact V_iret C0 () rfl rfl dX7_part_114
      · have hf := ite_f c31 hf
        refine V_iconst (v := (-1)) C0 dX7_part_34 (by decide) rfl ?_
        obtain rfl := some_inv hf
        exact V_iret C0 () rfl rfl dX7_part_35
  · have hf := ite_t c5 hf
    refine V_iconst (v := (-1)) C0 dX7_part_8 (by decide) rfl ?_
    obtain rfl := some_inv hf
    exact V_iret C0 () rfl rfl dX7_part_9
abbrev RM_X7_share : Room := { frames := 5, cells := 0, slots := 0, locals := 116 }
theorem in_X7_share_X7 : ∀ w ∈ u_ws RX7 TX7 12, w ∈ wsX7_share := by decide +kernel
theorem fl_X7_share_10 : FL RX7 wsX7_share 7 10 0 RX7 TX7 12 := ⟨in_X7_share_X7, rfl, by decide, by decide +kernel, rfl⟩
theorem fl_X7_share_44 : FL RX7 wsX7_share 7 44 6 RX7 TX7 12 := ⟨in_X7_share_X7, rfl, by decide, by decide +kernel, rfl⟩
theorem fl_X7_share_58 : FL RX7 wsX7_share 7 58 8 RX7 TX7 12 := ⟨in_X7_share_X7, rfl, by decide, by decide +kernel, rfl⟩
set_option maxRecDepth 100000 in
set_option maxHeartbeats 4000000 in
theorem c_X7_share (l : Launch) (dC : Nat → ClassId) (dI : Nat → Nat → Nat) (cI cJ cZ cO : ClassId) (ab : Nat → Nat) (ac_ : Nat → Nat) (atr : Nat → Nat) (ah : Nat → Nat) (ap : Nat → Nat) (al : Nat → Nat) (abc : Nat → Nat) (aac : Nat → Nat) (anb : Nat → Nat) (N : Nat) (ct : CV) (lt : LV) (ac : AV) (x1 : Int32) (x2 : Int32) (o : Int32 × LV × AV) (hf : f_X7_share N ct lt ac x1 x2 = some o) : MetI l yX7_share wsX7_share RM_X7_share (dC, dI) (TY cI cJ cZ cO) [.ref (ab 0), .int x1, .int x2] (W_BO cI cJ cZ cO ab ac_ atr ah ap al abc aac anb ++ (W_C cI cJ cZ cO ac_ ct.1 ct.2.1 ct.2.2.1 ct.2.2.2.1 ct.2.2.2.2.1 ct.2.2.2.2.2.1 ct.2.2.2.2.2.2.1 ct.2.2.2.2.2.2.2 ++ (W_L cI cJ cZ cO al lt.1 lt.2.1 lt.2.2.1 lt.2.2.2 ++ (W_A cI cJ cZ cO aac ac.1 ac.2.1 ac.2.2)))) (fun r (_ : Unit) => r = o.1) (fun _ => (W_BO cI cJ cZ cO ab ac_ atr ah ap al abc aac anb ++ (W_C cI cJ cZ cO ac_ ct.1 ct.2.1 ct.2.2.1 ct.2.2.2.1 ct.2.2.2.2.1 ct.2.2.2.2.2.1 ct.2.2.2.2.2.2.1 ct.2.2.2.2.2.2.2 ++ (W_L cI cJ cZ cO al o.2.1.1 o.2.1.2.1 o.2.1.2.2.1 o.2.1.2.2.2 ++ (W_A cI cJ cZ cO aac o.2.2.1 o.2.2.2.1 o.2.2.2.2))))) := by
  refine MetI.ofV (cc := cX7_share) (maxL := 3) (ret := (some .int)) (own := RX7) (lv0 := [(0, .ref (ab 0)), (1, .int x1), (2, .int x2)]) (by decide) rfl rfl (Nat.le_of_ble_eq_true rfl) rfl ?_
  intro p e s m below meth c A C0 _
  unfold f_X7_share at hf
  refine V_aload_n C0 dX7_share_0 0 rfl rfl ?_
  refine V_iload_n C0 dX7_share_1 1 rfl rfl ?_
  obtain ⟨r_2, hc_2, hf⟩ := bind_inv hf
  refine V_cVI (ws' := (W_BO cI cJ cZ cO ab ac_ atr ah ap al abc aac anb ++ (W_C cI cJ cZ cO ac_ ct.1 ct.2.1 ct.2.2.1 ct.2.2.2.1 ct.2.2.2.2.1 ct.2.2.2.2.2.1 ct.2.2.2.2.2.2.1 ct.2.2.2.2.2.2.2 ++ (W_L cI cJ cZ cO al lt.1 lt.2.1 lt.2.2.1 lt.2.2.2 ++ (W_A cI cJ cZ cO aac ac.1 ac.2.1 ac.2.2))))) (As := [.int x1]) (b := ab 0) (st := []) C0 (c_X7_isWord l dC dI cI cJ cZ cO ab ac_ atr ah ap al abc aac anb N ct x1 r_2 hc_2) rfl 1 gX7_share_X7_isWord (by decide +kernel) ⟨Nat.le_of_ble_eq_true rfl, Nat.le_of_ble_eq_true rfl⟩ rfl 0 7 rfl rfl  ⟨_, (pt (pte (pr pr1))), fun _ => (pt (pte (pr pr1)))⟩ rfl (Nat.le_of_ble_eq_true rfl) dX7_share_2 rfl ⟨Nat.zero_le _, Nat.zero_le _⟩ ?_
  refine V_if_eq (tgt := 16) C0 dX7_share_5 (by decide) rfl (fun c5 => ?_) (fun c5 => ?_)
  · have hf := ite_t c5 hf
    refine V_iconst (v := (-1)) C0 dX7_share_16 (by decide) rfl ?_
    obtain rfl := some_inv hf
    exact V_iret C0 () rfl rfl dX7_share_17
  · have hf := ite_f c5 hf
    refine V_aload_n C0 dX7_share_8 0 rfl rfl ?_
    refine V_iload_n C0 dX7_share_9 2 rfl rfl ?_
    obtain ⟨r_10, hc_10, hf⟩ := bind_inv hf
    refine V_cVI (ws' := (W_BO cI cJ cZ cO ab ac_ atr ah ap al abc aac anb ++ (W_C cI cJ cZ cO ac_ ct.1 ct.2.1 ct.2.2.1 ct.2.2.2.1 ct.2.2.2.2.1 ct.2.2.2.2.2.1 ct.2.2.2.2.2.2.1 ct.2.2.2.2.2.2.2 ++ (W_L cI cJ cZ cO al lt.1 lt.2.1 lt.2.2.1 lt.2.2.2 ++ (W_A cI cJ cZ cO aac ac.1 ac.2.1 ac.2.2))))) (As := [.int x2]) (b := ab 0) (st := []) C0 (c_X7_isPiece l dC dI cI cJ cZ cO ab ac_ atr ah ap al abc aac anb N ct x2 r_10 hc_10) rfl 1 gX7_share_X7_isPiece (by decide +kernel) ⟨Nat.le_of_ble_eq_true rfl, Nat.le_of_ble_eq_true rfl⟩ rfl 0 7 rfl rfl  ⟨_, (pt (pte (pr pr1))), fun _ => (pt (pte (pr pr1)))⟩ rfl (Nat.le_of_ble_eq_true rfl) dX7_share_10 rfl ⟨Nat.zero_le _, Nat.zero_le _⟩ ?_
    refine V_if_ne (tgt := 18) C0 dX7_share_13 (by decide) rfl (fun c13 => ?_) (fun c13 => ?_)
    · have hf := ite_f c13 hf
      refine V_aload_n C0 dX7_share_18 0 rfl rfl ?_
      refine V_get C0 fl_X7_share_44 0 rfl rfl dX7_share_19 rfl ?_
      refine V_aload_n C0 dX7_share_22 0 rfl rfl ?_
      refine V_get C0 fl_X7_share_10 0 rfl rfl dX7_share_23 rfl ?_
      refine V_iload_n C0 dX7_share_26 1 rfl rfl ?_
      obtain ⟨r_27, hc_27, hf⟩ := bind_inv hf
      refine V_cVV (ws' := (W_BO cI cJ cZ cO ab ac_ atr ah ap al abc aac anb ++ (W_C cI cJ cZ cO ac_ ct.1 ct.2.1 ct.2.2.1 ct.2.2.2.1 ct.2.2.2.2.1 ct.2.2.2.2.2.1 ct.2.2.2.2.2.2.1 ct.2.2.2.2.2.2.2 ++ (W_L cI cJ cZ cO al r_27.1 r_27.2.1 r_27.2.2.1 r_27.2.2.2 ++ (W_A cI cJ cZ cO aac ac.1 ac.2.1 ac.2.2))))) (As := [.ref (ac_ 0), .int x1]) (b := al 0) (st := []) C0 (c_X4_read l dC dI cI cJ cZ cO ac_ al N ct lt x1 r_27 hc_27) rfl 2 gX7_share_X4_read (by decide +kernel) ⟨Nat.le_of_ble_eq_true rfl, Nat.le_of_ble_eq_true rfl⟩ rfl 8 4 rfl rfl  ⟨_, (pr (pt (pte pr1))), fun _ => (pr (pt (pte pr1)))⟩ rfl (Nat.le_of_ble_eq_true rfl) dX7_share_27 rfl ⟨Nat.zero_le _, Nat.zero_le _⟩ ?_
      refine V_aload_n C0 dX7_share_30 0 rfl rfl ?_
      refine V_get C0 fl_X7_share_58 0 rfl rfl dX7_share_31 rfl ?_
      refine V_aload_n C0 dX7_share_34 0 rfl rfl ?_
      refine V_get C0 fl_X7_share_44 0 rfl rfl dX7_share_35 rfl ?_
      obtain ⟨r_38, hc_38, hf⟩ := bind_inv hf
      refine V_cVV (ws' := (W_BO cI cJ cZ cO ab ac_ atr ah ap al abc aac anb ++ (W_C cI cJ cZ cO ac_ ct.1 ct.2.1 ct.2.2.1 ct.2.2.2.1 ct.2.2.2.2.1 ct.2.2.2.2.2.1 ct.2.2.2.2.2.2.1 ct.2.2.2.2.2.2.2 ++ (W_L cI cJ cZ cO al r_27.1 r_27.2.1 r_27.2.2.1 r_27.2.2.2 ++ (W_A cI cJ cZ cO aac r_38.1 r_38.2.1 r_38.2.2))))) (As := [.ref (al 0)]) (b := aac 0) (st := []) C0 (c_X0_find l dC dI cI cJ cZ cO al aac N r_27 ac  r_38 hc_38) rfl 1 gX7_share_X0_find (by decide +kernel) ⟨Nat.le_of_ble_eq_true rfl, Nat.le_of_ble_eq_true rfl⟩ rfl 12 0 rfl rfl  ⟨_, (pr (pr (pt pt1))), fun _ => (pr (pr (pt pt1)))⟩ rfl (Nat.le_of_ble_eq_true rfl) dX7_share_38 rfl ⟨Nat.zero_le _, Nat.zero_le _⟩ ?_
      refine V_aload_n C0 dX7_share_41 0 rfl rfl ?_
      refine V_get C0 fl_X7_share_58 0 rfl rfl dX7_share_42 rfl ?_
      refine V_aload_n C0 dX7_share_45 0 rfl rfl ?_
      refine V_get C0 fl_X7_share_44 0 rfl rfl dX7_share_46 rfl ?_
      refine V_iload_n C0 dX7_share_49 2 rfl rfl ?_
      obtain ⟨r_50, hc_50, hf⟩ := bind_inv hf
      refine V_cVI (ws' := (W_BO cI cJ cZ cO ab ac_ atr ah ap al abc aac anb ++ (W_C cI cJ cZ cO ac_ ct.1 ct.2.1 ct.2.2.1 ct.2.2.2.1 ct.2.2.2.2.1 ct.2.2.2.2.2.1 ct.2.2.2.2.2.2.1 ct.2.2.2.2.2.2.2 ++ (W_L cI cJ cZ cO al r_27.1 r_27.2.1 r_27.2.2.1 r_27.2.2.2 ++ (W_A cI cJ cZ cO aac r_38.1 r_38.2.1 r_38.2.2))))) (As := [.ref (al 0), .int x2]) (b := aac 0) (st := []) C0 (c_X0_shareOf l dC dI cI cJ cZ cO al aac N r_27 r_38 x2 r_50 hc_50) rfl 2 gX7_share_X0_shareOf (by decide +kernel) ⟨Nat.le_of_ble_eq_true rfl, Nat.le_of_ble_eq_true rfl⟩ rfl 12 0 rfl rfl  ⟨_, (pr (pr (pt pt1))), fun _ => (pr (pr (pt pt1)))⟩ rfl (Nat.le_of_ble_eq_true rfl) dX7_share_50 rfl ⟨Nat.zero_le _, Nat.zero_le _⟩ ?_
      obtain rfl := some_inv hf
      exact V_iret C0 () rfl rfl dX7_share_53
    · have hf := ite_t c13 hf
      refine V_iconst (v := (-1)) C0 dX7_share_16 (by decide) rfl ?_
      obtain rfl := some_inv hf
      exact V_iret C0 () rfl rfl dX7_share_17
abbrev RM_X7_lettersOfAll : Room := { frames := 0, cells := 0, slots := 0, locals := 0 }
theorem in_X7_lettersOfAll_X2 : ∀ w ∈ u_ws RX2 TX2 8, w ∈ wsX7_lettersOfAll := by decide +kernel
theorem in_X7_lettersOfAll_X7 : ∀ w ∈ u_ws RX7 TX7 12, w ∈ wsX7_lettersOfAll := by decide +kernel
theorem fl_X7_lettersOfAll_10 : FL RX7 wsX7_lettersOfAll 7 10 0 RX7 TX7 12 := ⟨in_X7_lettersOfAll_X7, rfl, by decide, by decide +kernel, rfl⟩
theorem fl_X7_lettersOfAll_113 : FL RX7 wsX7_lettersOfAll 2 113 4 RX2 TX2 8 := ⟨in_X7_lettersOfAll_X2, rfl, by decide, by decide +kernel, rfl⟩
theorem fl_X7_lettersOfAll_123 : FL RX7 wsX7_lettersOfAll 2 123 6 RX2 TX2 8 := ⟨in_X7_lettersOfAll_X2, rfl, by decide, by decide +kernel, rfl⟩
theorem fl_X7_lettersOfAll_177 : FL RX7 wsX7_lettersOfAll 2 177 5 RX2 TX2 8 := ⟨in_X7_lettersOfAll_X2, rfl, by decide, by decide +kernel, rfl⟩
set_option maxRecDepth 100000 in
set_option maxHeartbeats 4000000 in
theorem c_X7_lettersOfAll (l : Launch) (dC : Nat → ClassId) (dI : Nat → Nat → Nat) (cI cJ cZ cO : ClassId) (ab : Nat → Nat) (ac_ : Nat → Nat) (atr : Nat → Nat) (ah : Nat → Nat) (ap : Nat → Nat) (al : Nat → Nat) (abc : Nat → Nat) (aac : Nat → Nat) (anb : Nat → Nat) (N : Nat) (ct : CV) (o : Int32) (hf : f_X7_lettersOfAll N ct = some o) : MetI l yX7_lettersOfAll wsX7_lettersOfAll RM_X7_lettersOfAll (dC, dI) (TY cI cJ cZ cO) [.ref (ab 0)] (W_BO cI cJ cZ cO ab ac_ atr ah ap al abc aac anb ++ (W_C cI cJ cZ cO ac_ ct.1 ct.2.1 ct.2.2.1 ct.2.2.2.1 ct.2.2.2.2.1 ct.2.2.2.2.2.1 ct.2.2.2.2.2.2.1 ct.2.2.2.2.2.2.2)) (fun r (_ : Unit) => r = o) (fun _ => (W_BO cI cJ cZ cO ab ac_ atr ah ap al abc aac anb ++ (W_C cI cJ cZ cO ac_ ct.1 ct.2.1 ct.2.2.1 ct.2.2.2.1 ct.2.2.2.2.1 ct.2.2.2.2.2.1 ct.2.2.2.2.2.2.1 ct.2.2.2.2.2.2.2))) := by
  refine MetI.ofV (cc := cX7_lettersOfAll) (maxL := 3) (ret := (some .int)) (own := RX7) (lv0 := [(0, .ref (ab 0))]) (by decide) rfl rfl (Nat.le_of_ble_eq_true rfl) rfl ?_
  intro p e s m below meth c A C0 _
  unfold f_X7_lettersOfAll at hf
  refine V_iconst (v := 0) C0 dX7_lettersOfAll_0 (by decide) rfl ?_
  refine V_istore_n (lv' := [(1, .int 0), (0, .ref (ab 0))]) C0 dX7_lettersOfAll_1 rfl (by decide) rfl rfl ?_
  refine V_iconst (v := 0) C0 dX7_lettersOfAll_2 (by decide) rfl ?_
  refine V_istore_n (lv' := [(2, .int 0), (1, .int 0), (0, .ref (ab 0))]) C0 dX7_lettersOfAll_3 rfl (by decide) rfl rfl ?_
  have hL4 : ∀ (K : Int32 → Option (Int32)), (∀ (x1 : Int32), K x1 = some o → V p l e RM_X7_lettersOfAll s m ([.ref (ab 0)] : List Value).toArray below meth c 3 (dC, dI) A (MQ below (va_Qi (fun r (_ : Unit) => r = o) (PostW (dC, dI) (TY cI cJ cZ cO) A (fun _ => (W_BO cI cJ cZ cO ab ac_ atr ah ap al abc aac anb ++ (W_C cI cJ cZ cO ac_ ct.1 ct.2.1 ct.2.2.1 ct.2.2.2.1 ct.2.2.2.2.1 ct.2.2.2.2.2.1 ct.2.2.2.2.2.2.1 ct.2.2.2.2.2.2.2)))) A) ([.ref (ab 0)] : List Value).toArray s 0 0 A) 0 0 (W_BO cI cJ cZ cO ab ac_ atr ah ap al abc aac anb ++ (W_C cI cJ cZ cO ac_ ct.1 ct.2.1 ct.2.2.1 ct.2.2.2.1 ct.2.2.2.2.1 ct.2.2.2.2.2.1 ct.2.2.2.2.2.2.1 ct.2.2.2.2.2.2.2)) 43 [(1, .int x1)] []) → ∀ (n : Nat) (x1 : Int32) (x2 : Int32), f_X7_lettersOfAll_L4 N ct  K n x1 x2 = some o → V p l e RM_X7_lettersOfAll s m ([.ref (ab 0)] : List Value).toArray below meth c 3 (dC, dI) A (MQ below (va_Qi (fun r (_ : Unit) => r = o) (PostW (dC, dI) (TY cI cJ cZ cO) A (fun _ => (W_BO cI cJ cZ cO ab ac_ atr ah ap al abc aac anb ++ (W_C cI cJ cZ cO ac_ ct.1 ct.2.1 ct.2.2.1 ct.2.2.2.1 ct.2.2.2.2.1 ct.2.2.2.2.2.1 ct.2.2.2.2.2.2.1 ct.2.2.2.2.2.2.2)))) A) ([.ref (ab 0)] : List Value).toArray s 0 0 A) 0 0 (W_BO cI cJ cZ cO ab ac_ atr ah ap al abc aac anb ++ (W_C cI cJ cZ cO ac_ ct.1 ct.2.1 ct.2.2.1 ct.2.2.2.1 ct.2.2.2.2.1 ct.2.2.2.2.2.1 ct.2.2.2.2.2.2.1 ct.2.2.2.2.2.2.2)) 4 [(0, .ref (ab 0)), (1, .int x1), (2, .int x2)] [] := by
    intro  K hK n
    induction n with
    | zero => intro x1 x2 hf; cases hf
    | succ n hREC =>
      intro x1 x2 hf
      rw [f_X7_lettersOfAll_L4] at hf
      refine V_iload_n C0 dX7_lettersOfAll_4 2 rfl rfl ?_
      refine V_aload_n C0 dX7_lettersOfAll_5 0 rfl rfl ?_
      refine V_get C0 fl_X7_lettersOfAll_10 0 rfl rfl dX7_lettersOfAll_6 rfl ?_
      refine V_get C0 fl_X7_lettersOfAll_113 1 rfl rfl dX7_lettersOfAll_9 rfl ?_
      refine V_icmp_ge (tgt := 43) C0 dX7_lettersOfAll_12 (by decide) rfl (fun c12 => ?_) (fun c12 => ?_)
      · have hf := ite_t c12 hf
        exact V.sub [1] rfl (hK x1 hf)
      · have hf := ite_f c12 hf
        refine V_iload_n C0 dX7_lettersOfAll_15 1 rfl rfl ?_
        refine V_aload_n C0 dX7_lettersOfAll_16 0 rfl rfl ?_
        refine V_get C0 fl_X7_lettersOfAll_10 0 rfl rfl dX7_lettersOfAll_17 rfl ?_
        refine V_get C0 fl_X7_lettersOfAll_177 1 rfl rfl dX7_lettersOfAll_20 rfl ?_
        refine V_iload_n C0 dX7_lettersOfAll_23 2 rfl rfl ?_
        obtain ⟨hi24, hf⟩ := ck_inv hf
        refine V_iald C0 5 0 rfl rfl hi24 dX7_lettersOfAll_24 rfl ?_
        refine V_aload_n C0 dX7_lettersOfAll_25 0 rfl rfl ?_
        refine V_get C0 fl_X7_lettersOfAll_10 0 rfl rfl dX7_lettersOfAll_26 rfl ?_
        refine V_get C0 fl_X7_lettersOfAll_123 1 rfl rfl dX7_lettersOfAll_29 rfl ?_
        refine V_iload_n C0 dX7_lettersOfAll_32 2 rfl rfl ?_
        obtain ⟨hi33, hf⟩ := ck_inv hf
        refine V_iald C0 6 0 rfl rfl hi33 dX7_lettersOfAll_33 rfl ?_
        refine V_imul C0 dX7_lettersOfAll_34 rfl ?_
        refine V_iadd C0 dX7_lettersOfAll_35 rfl ?_
        refine V_topi (fun x1_1 ex1_1 => ?_)
        have hf := bd_inv ex1_1 hf
        refine V_istore_n (lv' := [(1, .int x1_1), (0, .ref (ab 0)), (2, .int x2)]) C0 dX7_lettersOfAll_36 rfl (by decide) rfl rfl ?_
        refine V_iinc (k := 2) (v := x2 + 1) (lv' := [(2, .int (x2 + 1)), (1, .int x1_1), (0, .ref (ab 0))]) C0 dX7_lettersOfAll_37 rfl rfl (by decide) rfl rfl ?_
        refine V_goto (tgt := 4) C0 dX7_lettersOfAll_40 (by decide) ?_
        exact V.sub [2, 1, 0] rfl (hREC x1_1 (x2 + 1) hf)
  refine V.sub [2, 1, 0] rfl (hL4  _ ?_ N 0 0 hf)
  intro x1_4 hf
  refine V_iload_n C0 dX7_lettersOfAll_43 0 rfl rfl ?_
  obtain rfl := some_inv hf
  exact V_iret C0 () rfl rfl dX7_lettersOfAll_44
abbrev RM_X7_partsOfAll : Room := { frames := 6, cells := 0, slots := 0, locals := 141 }
theorem in_X7_partsOfAll_X1 : ∀ w ∈ u_ws RX1 TX1 8, w ∈ wsX7_partsOfAll := by decide +kernel
theorem in_X7_partsOfAll_X2 : ∀ w ∈ u_ws RX2 TX2 8, w ∈ wsX7_partsOfAll := by decide +kernel
theorem in_X7_partsOfAll_X7 : ∀ w ∈ u_ws RX7 TX7 12, w ∈ wsX7_partsOfAll := by decide +kernel
theorem fl_X7_partsOfAll_10 : FL RX7 wsX7_partsOfAll 7 10 0 RX7 TX7 12 := ⟨in_X7_partsOfAll_X7, rfl, by decide, by decide +kernel, rfl⟩
theorem fl_X7_partsOfAll_51 : FL RX7 wsX7_partsOfAll 7 51 7 RX7 TX7 12 := ⟨in_X7_partsOfAll_X7, rfl, by decide, by decide +kernel, rfl⟩
theorem fl_X7_partsOfAll_113 : FL RX7 wsX7_partsOfAll 2 113 4 RX2 TX2 8 := ⟨in_X7_partsOfAll_X2, rfl, by decide, by decide +kernel, rfl⟩
theorem fl_X7_partsOfAll_123 : FL RX7 wsX7_partsOfAll 2 123 6 RX2 TX2 8 := ⟨in_X7_partsOfAll_X2, rfl, by decide, by decide +kernel, rfl⟩
theorem fl_X7_partsOfAll_180 : FL RX7 wsX7_partsOfAll 1 180 3 RX1 TX1 8 := ⟨in_X7_partsOfAll_X1, rfl, by decide, by decide +kernel, rfl⟩
set_option maxRecDepth 100000 in
set_option maxHeartbeats 4000000 in
theorem c_X7_partsOfAll (l : Launch) (dC : Nat → ClassId) (dI : Nat → Nat → Nat) (cI cJ cZ cO : ClassId) (ab : Nat → Nat) (ac_ : Nat → Nat) (atr : Nat → Nat) (ah : Nat → Nat) (ap : Nat → Nat) (al : Nat → Nat) (abc : Nat → Nat) (aac : Nat → Nat) (anb : Nat → Nat) (N : Nat) (ct : CV) (lt : LV) (bc : BV) (o : Int32 × LV × BV) (hf : f_X7_partsOfAll N ct lt bc = some o) : MetI l yX7_partsOfAll wsX7_partsOfAll RM_X7_partsOfAll (dC, dI) (TY cI cJ cZ cO) [.ref (ab 0)] (W_BO cI cJ cZ cO ab ac_ atr ah ap al abc aac anb ++ (W_C cI cJ cZ cO ac_ ct.1 ct.2.1 ct.2.2.1 ct.2.2.2.1 ct.2.2.2.2.1 ct.2.2.2.2.2.1 ct.2.2.2.2.2.2.1 ct.2.2.2.2.2.2.2 ++ (W_L cI cJ cZ cO al lt.1 lt.2.1 lt.2.2.1 lt.2.2.2 ++ (W_B cI cJ cZ cO abc bc.1 bc.2.1 bc.2.2.1 bc.2.2.2.1 bc.2.2.2.2.1 bc.2.2.2.2.2.1 bc.2.2.2.2.2.2.1 bc.2.2.2.2.2.2.2)))) (fun r (_ : Unit) => r = o.1) (fun _ => (W_BO cI cJ cZ cO ab ac_ atr ah ap al abc aac anb ++ (W_C cI cJ cZ cO ac_ ct.1 ct.2.1 ct.2.2.1 ct.2.2.2.1 ct.2.2.2.2.1 ct.2.2.2.2.2.1 ct.2.2.2.2.2.2.1 ct.2.2.2.2.2.2.2 ++ (W_L cI cJ cZ cO al o.2.1.1 o.2.1.2.1 o.2.1.2.2.1 o.2.1.2.2.2 ++ (W_B cI cJ cZ cO abc o.2.2.1 o.2.2.2.1 o.2.2.2.2.1 o.2.2.2.2.2.1 o.2.2.2.2.2.2.1 o.2.2.2.2.2.2.2.1 o.2.2.2.2.2.2.2.2.1 o.2.2.2.2.2.2.2.2.2))))) := by
  refine MetI.ofV (cc := cX7_partsOfAll) (maxL := 3) (ret := (some .int)) (own := RX7) (lv0 := [(0, .ref (ab 0))]) (by decide) rfl rfl (Nat.le_of_ble_eq_true rfl) rfl ?_
  intro p e s m below meth c A C0 _
  unfold f_X7_partsOfAll at hf
  refine V_iconst (v := 0) C0 dX7_partsOfAll_0 (by decide) rfl ?_
  refine V_istore_n (lv' := [(1, .int 0), (0, .ref (ab 0))]) C0 dX7_partsOfAll_1 rfl (by decide) rfl rfl ?_
  refine V_iconst (v := 0) C0 dX7_partsOfAll_2 (by decide) rfl ?_
  refine V_istore_n (lv' := [(2, .int 0), (1, .int 0), (0, .ref (ab 0))]) C0 dX7_partsOfAll_3 rfl (by decide) rfl rfl ?_
  have hL4 : ∀ (K : Int32 → LV → BV → Option (Int32 × LV × BV)), (∀ (x1 : Int32) (lt : LV) (bc : BV), K x1 lt bc = some o → V p l e RM_X7_partsOfAll s m ([.ref (ab 0)] : List Value).toArray below meth c 3 (dC, dI) A (MQ below (va_Qi (fun r (_ : Unit) => r = o.1) (PostW (dC, dI) (TY cI cJ cZ cO) A (fun _ => (W_BO cI cJ cZ cO ab ac_ atr ah ap al abc aac anb ++ (W_C cI cJ cZ cO ac_ ct.1 ct.2.1 ct.2.2.1 ct.2.2.2.1 ct.2.2.2.2.1 ct.2.2.2.2.2.1 ct.2.2.2.2.2.2.1 ct.2.2.2.2.2.2.2 ++ (W_L cI cJ cZ cO al o.2.1.1 o.2.1.2.1 o.2.1.2.2.1 o.2.1.2.2.2 ++ (W_B cI cJ cZ cO abc o.2.2.1 o.2.2.2.1 o.2.2.2.2.1 o.2.2.2.2.2.1 o.2.2.2.2.2.2.1 o.2.2.2.2.2.2.2.1 o.2.2.2.2.2.2.2.2.1 o.2.2.2.2.2.2.2.2.2)))))) A) ([.ref (ab 0)] : List Value).toArray s 0 0 A) 0 0 (W_BO cI cJ cZ cO ab ac_ atr ah ap al abc aac anb ++ (W_C cI cJ cZ cO ac_ ct.1 ct.2.1 ct.2.2.1 ct.2.2.2.1 ct.2.2.2.2.1 ct.2.2.2.2.2.1 ct.2.2.2.2.2.2.1 ct.2.2.2.2.2.2.2 ++ (W_L cI cJ cZ cO al lt.1 lt.2.1 lt.2.2.1 lt.2.2.2 ++ (W_B cI cJ cZ cO abc bc.1 bc.2.1 bc.2.2.1 bc.2.2.2.1 bc.2.2.2.2.1 bc.2.2.2.2.2.1 bc.2.2.2.2.2.2.1 bc.2.2.2.2.2.2.2)))) 50 [(1, .int x1)] []) → ∀ (n : Nat) (x1 : Int32) (x2 : Int32) (lt : LV) (bc : BV), f_X7_partsOfAll_L4 N ct  K n x1 x2 lt bc = some o → V p l e RM_X7_partsOfAll s m ([.ref (ab 0)] : List Value).toArray below meth c 3 (dC, dI) A (MQ below (va_Qi (fun r (_ : Unit) => r = o.1) (PostW (dC, dI) (TY cI cJ cZ cO) A (fun _ => (W_BO cI cJ cZ cO ab ac_ atr ah ap al abc aac anb ++ (W_C cI cJ cZ cO ac_ ct.1 ct.2.1 ct.2.2.1 ct.2.2.2.1 ct.2.2.2.2.1 ct.2.2.2.2.2.1 ct.2.2.2.2.2.2.1 ct.2.2.2.2.2.2.2 ++ (W_L cI cJ cZ cO al o.2.1.1 o.2.1.2.1 o.2.1.2.2.1 o.2.1.2.2.2 ++ (W_B cI cJ cZ cO abc o.2.2.1 o.2.2.2.1 o.2.2.2.2.1 o.2.2.2.2.2.1 o.2.2.2.2.2.2.1 o.2.2.2.2.2.2.2.1 o.2.2.2.2.2.2.2.2.1 o.2.2.2.2.2.2.2.2.2)))))) A) ([.ref (ab 0)] : List Value).toArray s 0 0 A) 0 0 (W_BO cI cJ cZ cO ab ac_ atr ah ap al abc aac anb ++ (W_C cI cJ cZ cO ac_ ct.1 ct.2.1 ct.2.2.1 ct.2.2.2.1 ct.2.2.2.2.1 ct.2.2.2.2.2.1 ct.2.2.2.2.2.2.1 ct.2.2.2.2.2.2.2 ++ (W_L cI cJ cZ cO al lt.1 lt.2.1 lt.2.2.1 lt.2.2.2 ++ (W_B cI cJ cZ cO abc bc.1 bc.2.1 bc.2.2.1 bc.2.2.2.1 bc.2.2.2.2.1 bc.2.2.2.2.2.1 bc.2.2.2.2.2.2.1 bc.2.2.2.2.2.2.2)))) 4 [(0, .ref (ab 0)), (1, .int x1), (2, .int x2)] [] := by
    intro  K hK n
    induction n with
    | zero => intro x1 x2 lt bc hf; cases hf
    | succ n hREC =>
      intro x1 x2 lt bc hf
      rw [f_X7_partsOfAll_L4] at hf
      refine V_iload_n C0 dX7_partsOfAll_4 2 rfl rfl ?_
      refine V_aload_n C0 dX7_partsOfAll_5 0 rfl rfl ?_
      refine V_get C0 fl_X7_partsOfAll_10 0 rfl rfl dX7_partsOfAll_6 rfl ?_
      refine V_get C0 fl_X7_partsOfAll_113 1 rfl rfl dX7_partsOfAll_9 rfl ?_
      refine V_icmp_ge (tgt := 50) C0 dX7_partsOfAll_12 (by decide) rfl (fun c12 => ?_) (fun c12 => ?_)
      · have hf := ite_t c12 hf
        exact V.sub [1] rfl (hK x1 lt bc hf)
      · have hf := ite_f c12 hf
        refine V_aload_n C0 dX7_partsOfAll_15 0 rfl rfl ?_
        refine V_aload_n C0 dX7_partsOfAll_16 0 rfl rfl ?_
        refine V_get C0 fl_X7_partsOfAll_10 0 rfl rfl dX7_partsOfAll_17 rfl ?_
        refine V_iload_n C0 dX7_partsOfAll_20 2 rfl rfl ?_
        obtain ⟨r_21, hc_21, hf⟩ := bind_inv hf
        refine V_cVV (ws' := (W_BO cI cJ cZ cO ab ac_ atr ah ap al abc aac anb ++ (W_C cI cJ cZ cO ac_ ct.1 ct.2.1 ct.2.2.1 ct.2.2.2.1 ct.2.2.2.2.1 ct.2.2.2.2.2.1 ct.2.2.2.2.2.2.1 ct.2.2.2.2.2.2.2 ++ (W_L cI cJ cZ cO al r_21.1.1 r_21.1.2.1 r_21.1.2.2.1 r_21.1.2.2.2 ++ (W_B cI cJ cZ cO abc r_21.2.1 r_21.2.2.1 r_21.2.2.2.1 r_21.2.2.2.2.1 r_21.2.2.2.2.2.1 r_21.2.2.2.2.2.2.1 r_21.2.2.2.2.2.2.2.1 r_21.2.2.2.2.2.2.2.2))))) (As := [.ref (ac_ 0), .int x2]) (b := ab 0) (st := []) C0 (c_X7_cutBest l dC dI cI cJ cZ cO ab ac_ atr ah ap al abc aac anb ac_ N ct lt bc x2 r_21 hc_21) rfl 2 gX7_partsOfAll_X7_cutBest (by decide +kernel) ⟨Nat.le_of_ble_eq_true rfl, Nat.le_of_ble_eq_true rfl⟩ rfl 0 7 rfl rfl  Cut.all rfl (Nat.le_of_ble_eq_true rfl) dX7_partsOfAll_21 rfl ⟨Nat.zero_le _, Nat.zero_le _⟩ ?_
        refine V_iload_n C0 dX7_partsOfAll_24 1 rfl rfl ?_
        refine V_aload_n C0 dX7_partsOfAll_25 0 rfl rfl ?_
        refine V_get C0 fl_X7_partsOfAll_51 0 rfl rfl dX7_partsOfAll_26 rfl ?_
        refine V_get C0 fl_X7_partsOfAll_180 12 rfl rfl dX7_partsOfAll_29 rfl ?_
        refine V_aload_n C0 dX7_partsOfAll_32 0 rfl rfl ?_
        refine V_get C0 fl_X7_partsOfAll_10 0 rfl rfl dX7_partsOfAll_33 rfl ?_
        refine V_get C0 fl_X7_partsOfAll_123 1 rfl rfl dX7_partsOfAll_36 rfl ?_
        refine V_iload_n C0 dX7_partsOfAll_39 2 rfl rfl ?_
        obtain ⟨hi40, hf⟩ := ck_inv hf
        refine V_iald C0 6 0 rfl rfl hi40 dX7_partsOfAll_40 rfl ?_
        refine V_imul C0 dX7_partsOfAll_41 rfl ?_
        refine V_iadd C0 dX7_partsOfAll_42 rfl ?_
        refine V_topi (fun x1_1 ex1_1 => ?_)
        have hf := bd_inv ex1_1 hf
        refine V_istore_n (lv' := [(1, .int x1_1), (0, .ref (ab 0)), (2, .int x2)]) C0 dX7_partsOfAll_43 rfl (by decide) rfl rfl ?_
        refine V_iinc (k := 2) (v := x2 + 1) (lv' := [(2, .int (x2 + 1)), (1, .int x1_1), (0, .ref (ab 0))]) C0 dX7_partsOfAll_44 rfl rfl (by decide) rfl rfl ?_
        refine V_goto (tgt := 4) C0 dX7_partsOfAll_47 (by decide) ?_
        exact V.sub [2, 1, 0] rfl (hREC x1_1 (x2 + 1) r_21.1 r_21.2 hf)
  refine V.sub [2, 1, 0] rfl (hL4  _ ?_ N 0 0 lt bc hf)
  intro x1_4 lt_4 bc_4 hf
  refine V_iload_n C0 dX7_partsOfAll_50 0 rfl rfl ?_
  obtain rfl := some_inv hf
  exact V_iret C0 () rfl rfl dX7_partsOfAll_51
abbrev RM_X7_count : Room := { frames := 7, cells := 0, slots := 0, locals := 164 }
theorem in_X7_count_X2 : ∀ w ∈ u_ws RX2 TX2 8, w ∈ wsX7_count := by decide +kernel
theorem in_X7_count_X3 : ∀ w ∈ u_ws RX3 TX3 2, w ∈ wsX7_count := by decide +kernel
theorem in_X7_count_X6 : ∀ w ∈ u_ws RX6 TX6 2, w ∈ wsX7_count := by decide +kernel
theorem in_X7_count_X7 : ∀ w ∈ u_ws RX7 TX7 12, w ∈ wsX7_count := by decide +kernel
theorem fl_X7_count_10 : FL RX7 wsX7_count 7 10 0 RX7 TX7 12 := ⟨in_X7_count_X7, rfl, by decide, by decide +kernel, rfl⟩
theorem fl_X7_count_30 : FL RX7 wsX7_count 7 30 4 RX7 TX7 12 := ⟨in_X7_count_X7, rfl, by decide, by decide +kernel, rfl⟩
theorem fl_X7_count_37 : FL RX7 wsX7_count 7 37 5 RX7 TX7 12 := ⟨in_X7_count_X7, rfl, by decide, by decide +kernel, rfl⟩
theorem fl_X7_count_88 : FL RX7 wsX7_count 6 88 0 RX6 TX6 2 := ⟨in_X7_count_X6, rfl, by decide, by decide +kernel, rfl⟩
theorem fl_X7_count_96 : FL RX7 wsX7_count 2 96 0 RX2 TX2 8 := ⟨in_X7_count_X2, rfl, by decide, by decide +kernel, rfl⟩
theorem fl_X7_count_113 : FL RX7 wsX7_count 2 113 4 RX2 TX2 8 := ⟨in_X7_count_X2, rfl, by decide, by decide +kernel, rfl⟩
theorem fl_X7_count_232 : FL RX7 wsX7_count 3 232 0 RX3 TX3 2 := ⟨in_X7_count_X3, rfl, by decide, by decide +kernel, rfl⟩
set_option maxRecDepth 100000 in
set_option maxHeartbeats 4000000 in
theorem c_X7_count (l : Launch) (dC : Nat → ClassId) (dI : Nat → Nat → Nat) (cI cJ cZ cO : ClassId) (ab : Nat → Nat) (ac_ : Nat → Nat) (atr : Nat → Nat) (ah : Nat → Nat) (ap : Nat → Nat) (al : Nat → Nat) (abc : Nat → Nat) (aac : Nat → Nat) (anb : Nat → Nat) (ahs : Nat → Nat → Nat) (N : Nat) (ct : CV) (hi : HV) (pd : PV) (lt : LV) (bc : BV) (x1 : Int32) (o : Int32 × LV × BV) (hf : f_X7_count N ct hi pd lt bc x1 = some o) : MetI l yX7_count wsX7_count RM_X7_count (dC, dI) (TY cI cJ cZ cO) [.ref (ab 0), .int x1] (W_BO cI cJ cZ cO ab ac_ atr ah ap al abc aac anb ++ (W_C cI cJ cZ cO ac_ ct.1 ct.2.1 ct.2.2.1 ct.2.2.2.1 ct.2.2.2.2.1 ct.2.2.2.2.2.1 ct.2.2.2.2.2.2.1 ct.2.2.2.2.2.2.2 ++ (W_H cI cJ cZ cO ah ahs hi.1 hi.2.1 hi.2.2.1 hi.2.2.2.1 hi.2.2.2.2.1 hi.2.2.2.2.2.1 hi.2.2.2.2.2.2 ++ (W_P cI cJ cZ cO ap pd.1 pd.2 ++ (W_L cI cJ cZ cO al lt.1 lt.2.1 lt.2.2.1 lt.2.2.2 ++ (W_B cI cJ cZ cO abc bc.1 bc.2.1 bc.2.2.1 bc.2.2.2.1 bc.2.2.2.2.1 bc.2.2.2.2.2.1 bc.2.2.2.2.2.2.1 bc.2.2.2.2.2.2.2)))))) (fun r (_ : Unit) => r = o.1) (fun _ => (W_BO cI cJ cZ cO ab ac_ atr ah ap al abc aac anb ++ (W_C cI cJ cZ cO ac_ ct.1 ct.2.1 ct.2.2.1 ct.2.2.2.1 ct.2.2.2.2.1 ct.2.2.2.2.2.1 ct.2.2.2.2.2.2.1 ct.2.2.2.2.2.2.2 ++ (W_H cI cJ cZ cO ah ahs hi.1 hi.2.1 hi.2.2.1 hi.2.2.2.1 hi.2.2.2.2.1 hi.2.2.2.2.2.1 hi.2.2.2.2.2.2 ++ (W_P cI cJ cZ cO ap pd.1 pd.2 ++ (W_L cI cJ cZ cO al o.2.1.1 o.2.1.2.1 o.2.1.2.2.1 o.2.1.2.2.2 ++ (W_B cI cJ cZ cO abc o.2.2.1 o.2.2.2.1 o.2.2.2.2.1 o.2.2.2.2.2.1 o.2.2.2.2.2.2.1 o.2.2.2.2.2.2.2.1 o.2.2.2.2.2.2.2.2.1 o.2.2.2.2.2.2.2.2.2))))))) := by
  refine MetI.ofV (cc := cX7_count) (maxL := 2) (ret := (some .int)) (own := RX7) (lv0 := [(0, .ref (ab 0)), (1, .int x1)]) (by decide) rfl rfl (Nat.le_of_ble_eq_true rfl) rfl ?_
  intro p e s m below meth c A C0 _
  unfold f_X7_count at hf
  refine V_iload_n C0 dX7_count_0 1 rfl rfl ?_
  by_cases c1_0 : x1 = 0
  · have hf := ite_t c1_0 hf
    refine V_tableIn (tgt := 48) C0 c1_0 dX7_count_1 (by decide) (by decide) rfl (by decide) ?_
    refine V_aload_n C0 dX7_count_48 0 rfl rfl ?_
    refine V_get C0 fl_X7_count_10 0 rfl rfl dX7_count_49 rfl ?_
    refine V_get C0 fl_X7_count_96 1 rfl rfl dX7_count_52 rfl ?_
    obtain rfl := some_inv hf
    exact V_iret C0 () rfl rfl dX7_count_55
  · have hf := ite_f c1_0 hf
    by_cases c1_1 : x1 = 1
    · have hf := ite_t c1_1 hf
      refine V_tableIn (tgt := 56) C0 c1_1 dX7_count_1 (by decide) (by decide) rfl (by decide) ?_
      refine V_aload_n C0 dX7_count_56 0 rfl rfl ?_
      refine V_get C0 fl_X7_count_10 0 rfl rfl dX7_count_57 rfl ?_
      refine V_get C0 fl_X7_count_113 1 rfl rfl dX7_count_60 rfl ?_
      obtain rfl := some_inv hf
      exact V_iret C0 () rfl rfl dX7_count_63
    · have hf := ite_f c1_1 hf
      by_cases c1_2 : x1 = 2
      · have hf := ite_t c1_2 hf
        refine V_tableIn (tgt := 64) C0 c1_2 dX7_count_1 (by decide) (by decide) rfl (by decide) ?_
        refine V_aload_n C0 dX7_count_64 0 rfl rfl ?_
        refine V_aload_n C0 dX7_count_65 0 rfl rfl ?_
        refine V_get C0 fl_X7_count_10 0 rfl rfl dX7_count_66 rfl ?_
        obtain ⟨r_69, hc_69, hf⟩ := bind_inv hf
        refine V_cVI (ws' := (W_BO cI cJ cZ cO ab ac_ atr ah ap al abc aac anb ++ (W_C cI cJ cZ cO ac_ ct.1 ct.2.1 ct.2.2.1 ct.2.2.2.1 ct.2.2.2.2.1 ct.2.2.2.2.2.1 ct.2.2.2.2.2.2.1 ct.2.2.2.2.2.2.2 ++ (W_H cI cJ cZ cO ah ahs hi.1 hi.2.1 hi.2.2.1 hi.2.2.2.1 hi.2.2.2.2.1 hi.2.2.2.2.2.1 hi.2.2.2.2.2.2 ++ (W_P cI cJ cZ cO ap pd.1 pd.2 ++ (W_L cI cJ cZ cO al r_69.2.1.1 r_69.2.1.2.1 r_69.2.1.2.2.1 r_69.2.1.2.2.2 ++ (W_B cI cJ cZ cO abc r_69.2.2.1 r_69.2.2.2.1 r_69.2.2.2.2.1 r_69.2.2.2.2.2.1 r_69.2.2.2.2.2.2.1 r_69.2.2.2.2.2.2.2.1 r_69.2.2.2.2.2.2.2.2.1 r_69.2.2.2.2.2.2.2.2.2))))))) (As := [.ref (ac_ 0)]) (b := ab 0) (st := []) C0 (c_X7_costOfAll l dC dI cI cJ cZ cO ab ac_ atr ah ap al abc aac anb ac_ N ct lt bc  r_69 hc_69) rfl 1 gX7_count_X7_costOfAll (by decide +kernel) ⟨Nat.le_of_ble_eq_true rfl, Nat.le_of_ble_eq_true rfl⟩ rfl 0 7 rfl rfl  ⟨_, (pt (pt (pr (pr (pt pt1))))), fun _ => (pt (pt (pr (pr (pt pt1)))))⟩ rfl (Nat.le_of_ble_eq_true rfl) dX7_count_69 rfl ⟨Nat.zero_le _, Nat.zero_le _⟩ ?_
        obtain rfl := some_inv hf
        exact V_iret C0 () rfl rfl dX7_count_72
      · have hf := ite_f c1_2 hf
        by_cases c1_3 : x1 = 3
        · have hf := ite_t c1_3 hf
          refine V_tableIn (tgt := 73) C0 c1_3 dX7_count_1 (by decide) (by decide) rfl (by decide) ?_
          refine V_aload_n C0 dX7_count_73 0 rfl rfl ?_
          obtain ⟨r_74, hc_74, hf⟩ := bind_inv hf
          refine V_cVI (ws' := (W_BO cI cJ cZ cO ab ac_ atr ah ap al abc aac anb ++ (W_C cI cJ cZ cO ac_ ct.1 ct.2.1 ct.2.2.1 ct.2.2.2.1 ct.2.2.2.2.1 ct.2.2.2.2.2.1 ct.2.2.2.2.2.2.1 ct.2.2.2.2.2.2.2 ++ (W_H cI cJ cZ cO ah ahs hi.1 hi.2.1 hi.2.2.1 hi.2.2.2.1 hi.2.2.2.2.1 hi.2.2.2.2.2.1 hi.2.2.2.2.2.2 ++ (W_P cI cJ cZ cO ap pd.1 pd.2 ++ (W_L cI cJ cZ cO al lt.1 lt.2.1 lt.2.2.1 lt.2.2.2 ++ (W_B cI cJ cZ cO abc bc.1 bc.2.1 bc.2.2.1 bc.2.2.2.1 bc.2.2.2.2.1 bc.2.2.2.2.2.1 bc.2.2.2.2.2.2.1 bc.2.2.2.2.2.2.2))))))) (As := []) (b := ab 0) (st := []) C0 (c_X7_lettersOfAll l dC dI cI cJ cZ cO ab ac_ atr ah ap al abc aac anb N ct  r_74 hc_74) rfl 0 gX7_count_X7_lettersOfAll (by decide +kernel) ⟨Nat.le_of_ble_eq_true rfl, Nat.le_of_ble_eq_true rfl⟩ rfl 0 7 rfl rfl  ⟨_, (pt (pte (pr (pr (pr pr1))))), fun _ => (pt (pte (pr (pr (pr pr1)))))⟩ rfl (Nat.le_of_ble_eq_true rfl) dX7_count_74 rfl ⟨Nat.zero_le _, Nat.zero_le _⟩ ?_
          obtain rfl := some_inv hf
          exact V_iret C0 () rfl rfl dX7_count_77
        · have hf := ite_f c1_3 hf
          by_cases c1_4 : x1 = 4
          · have hf := ite_t c1_4 hf
            refine V_tableIn (tgt := 78) C0 c1_4 dX7_count_1 (by decide) (by decide) rfl (by decide) ?_
            refine V_aload_n C0 dX7_count_78 0 rfl rfl ?_
            obtain ⟨r_79, hc_79, hf⟩ := bind_inv hf
            refine V_cVI (ws' := (W_BO cI cJ cZ cO ab ac_ atr ah ap al abc aac anb ++ (W_C cI cJ cZ cO ac_ ct.1 ct.2.1 ct.2.2.1 ct.2.2.2.1 ct.2.2.2.2.1 ct.2.2.2.2.2.1 ct.2.2.2.2.2.2.1 ct.2.2.2.2.2.2.2 ++ (W_H cI cJ cZ cO ah ahs hi.1 hi.2.1 hi.2.2.1 hi.2.2.2.1 hi.2.2.2.2.1 hi.2.2.2.2.2.1 hi.2.2.2.2.2.2 ++ (W_P cI cJ cZ cO ap pd.1 pd.2 ++ (W_L cI cJ cZ cO al r_79.2.1.1 r_79.2.1.2.1 r_79.2.1.2.2.1 r_79.2.1.2.2.2 ++ (W_B cI cJ cZ cO abc r_79.2.2.1 r_79.2.2.2.1 r_79.2.2.2.2.1 r_79.2.2.2.2.2.1 r_79.2.2.2.2.2.2.1 r_79.2.2.2.2.2.2.2.1 r_79.2.2.2.2.2.2.2.2.1 r_79.2.2.2.2.2.2.2.2.2))))))) (As := []) (b := ab 0) (st := []) C0 (c_X7_partsOfAll l dC dI cI cJ cZ cO ab ac_ atr ah ap al abc aac anb N ct lt bc  r_79 hc_79) rfl 0 gX7_count_X7_partsOfAll (by decide +kernel) ⟨Nat.le_of_ble_eq_true rfl, Nat.le_of_ble_eq_true rfl⟩ rfl 0 7 rfl rfl  ⟨_, (pt (pt (pr (pr (pt pt1))))), fun _ => (pt (pt (pr (pr (pt pt1)))))⟩ rfl (Nat.le_of_ble_eq_true rfl) dX7_count_79 rfl ⟨Nat.zero_le _, Nat.zero_le _⟩ ?_
            obtain rfl := some_inv hf
            exact V_iret C0 () rfl rfl dX7_count_82
          · have hf := ite_f c1_4 hf
            by_cases c1_5 : x1 = 5
            · have hf := ite_t c1_5 hf
              refine V_tableIn (tgt := 83) C0 c1_5 dX7_count_1 (by decide) (by decide) rfl (by decide) ?_
              refine V_aload_n C0 dX7_count_83 0 rfl rfl ?_
              refine V_aload_n C0 dX7_count_84 0 rfl rfl ?_
              refine V_get C0 fl_X7_count_10 0 rfl rfl dX7_count_85 rfl ?_
              obtain ⟨r_88, hc_88, hf⟩ := bind_inv hf
              refine V_cVI (ws' := (W_BO cI cJ cZ cO ab ac_ atr ah ap al abc aac anb ++ (W_C cI cJ cZ cO ac_ ct.1 ct.2.1 ct.2.2.1 ct.2.2.2.1 ct.2.2.2.2.1 ct.2.2.2.2.2.1 ct.2.2.2.2.2.2.1 ct.2.2.2.2.2.2.2 ++ (W_H cI cJ cZ cO ah ahs hi.1 hi.2.1 hi.2.2.1 hi.2.2.2.1 hi.2.2.2.2.1 hi.2.2.2.2.2.1 hi.2.2.2.2.2.2 ++ (W_P cI cJ cZ cO ap pd.1 pd.2 ++ (W_L cI cJ cZ cO al r_88.2.1.1 r_88.2.1.2.1 r_88.2.1.2.2.1 r_88.2.1.2.2.2 ++ (W_B cI cJ cZ cO abc r_88.2.2.1 r_88.2.2.2.1 r_88.2.2.2.2.1 r_88.2.2.2.2.2.1 r_88.2.2.2.2.2.2.1 r_88.2.2.2.2.2.2.2.1 r_88.2.2.2.2.2.2.2.2.1 r_88.2.2.2.2.2.2.2.2.2))))))) (As := [.ref (ac_ 0)]) (b := ab 0) (st := []) C0 (c_X7_costOfAll l dC dI cI cJ cZ cO ab ac_ atr ah ap al abc aac anb ac_ N ct lt bc  r_88 hc_88) rfl 1 gX7_count_X7_costOfAll (by decide +kernel) ⟨Nat.le_of_ble_eq_true rfl, Nat.le_of_ble_eq_true rfl⟩ rfl 0 7 rfl rfl  ⟨_, (pt (pt (pr (pr (pt pt1))))), fun _ => (pt (pt (pr (pr (pt pt1)))))⟩ rfl (Nat.le_of_ble_eq_true rfl) dX7_count_88 rfl ⟨Nat.zero_le _, Nat.zero_le _⟩ ?_
              refine V_aload_n C0 dX7_count_91 0 rfl rfl ?_
              obtain ⟨r_92, hc_92, hf⟩ := bind_inv hf
              refine V_cVI (ws' := (W_BO cI cJ cZ cO ab ac_ atr ah ap al abc aac anb ++ (W_C cI cJ cZ cO ac_ ct.1 ct.2.1 ct.2.2.1 ct.2.2.2.1 ct.2.2.2.2.1 ct.2.2.2.2.2.1 ct.2.2.2.2.2.2.1 ct.2.2.2.2.2.2.2 ++ (W_H cI cJ cZ cO ah ahs hi.1 hi.2.1 hi.2.2.1 hi.2.2.2.1 hi.2.2.2.2.1 hi.2.2.2.2.2.1 hi.2.2.2.2.2.2 ++ (W_P cI cJ cZ cO ap pd.1 pd.2 ++ (W_L cI cJ cZ cO al r_92.2.1.1 r_92.2.1.2.1 r_92.2.1.2.2.1 r_92.2.1.2.2.2 ++ (W_B cI cJ cZ cO abc r_92.2.2.1 r_92.2.2.2.1 r_92.2.2.2.2.1 r_92.2.2.2.2.2.1 r_92.2.2.2.2.2.2.1 r_92.2.2.2.2.2.2.2.1 r_92.2.2.2.2.2.2.2.2.1 r_92.2.2.2.2.2.2.2.2.2))))))) (As := []) (b := ab 0) (st := [.int r_88.1]) C0 (c_X7_partsOfAll l dC dI cI cJ cZ cO ab ac_ atr ah ap al abc aac anb N ct r_88.2.1 r_88.2.2  r_92 hc_92) rfl 0 gX7_count_X7_partsOfAll (by decide +kernel) ⟨Nat.le_of_ble_eq_true rfl, Nat.le_of_ble_eq_true rfl⟩ rfl 0 7 rfl rfl  ⟨_, (pt (pt (pr (pr (pt pt1))))), fun _ => (pt (pt (pr (pr (pt pt1)))))⟩ rfl (Nat.le_of_ble_eq_true rfl) dX7_count_92 rfl ⟨Nat.zero_le _, Nat.zero_le _⟩ ?_
              refine V_isub C0 dX7_count_95 rfl ?_
              obtain rfl := some_inv hf
              exact V_iret C0 () rfl rfl dX7_count_96
            · have hf := ite_f c1_5 hf
              by_cases c1_6 : x1 = 6
              · have hf := ite_t c1_6 hf
                refine V_tableIn (tgt := 97) C0 c1_6 dX7_count_1 (by decide) (by decide) rfl (by decide) ?_
                refine V_aload_n C0 dX7_count_97 0 rfl rfl ?_
                refine V_get C0 fl_X7_count_37 0 rfl rfl dX7_count_98 rfl ?_
                refine V_get C0 fl_X7_count_88 52 rfl rfl dX7_count_101 rfl ?_
                obtain rfl := some_inv hf
                exact V_iret C0 () rfl rfl dX7_count_104
              · have hf := ite_f c1_6 hf
                by_cases c1_7 : x1 = 7
                · have hf := ite_t c1_7 hf
                  refine V_tableIn (tgt := 105) C0 c1_7 dX7_count_1 (by decide) (by decide) rfl (by decide) ?_
                  refine V_aload_n C0 dX7_count_105 0 rfl rfl ?_
                  refine V_get C0 fl_X7_count_30 0 rfl rfl dX7_count_106 rfl ?_
                  refine V_get C0 fl_X7_count_232 8 rfl rfl dX7_count_109 rfl ?_
                  obtain rfl := some_inv hf
                  exact V_iret C0 () rfl rfl dX7_count_112
                · have hf := ite_f c1_7 hf
                  refine V_tableOut (tgt := 113) C0 dX7_count_1 (tb_out (fun k h1 h2 => ?_)) (by decide) ?_
                  · rcases (show k = 0 ∨ k = 1 ∨ k = 2 ∨ k = 3 ∨ k = 4 ∨ k = 5 ∨ k = 6 ∨ k = 7 by omega) with rfl | rfl | rfl | rfl | rfl | rfl | rfl | rfl
                    · exact c1_0
                    · exact c1_1
                    · exact c1_2
                    · exact c1_3
                    · exact c1_4
                    · exact c1_5
                    · exact c1_6
                    · exact c1_7
                  · skip
                    refine V_bipush (v := (-2)) C0 dX7_count_113 (by decide) rfl ?_
                    obtain rfl := some_inv hf
                    exact V_iret C0 () rfl rfl dX7_count_115
abbrev RM_X7_least : Room := { frames := 7, cells := 0, slots := 0, locals := 163 }
set_option maxRecDepth 100000 in
set_option maxHeartbeats 4000000 in
theorem c_X7_least (l : Launch) (dC : Nat → ClassId) (dI : Nat → Nat → Nat) (cI cJ cZ cO : ClassId) (ab : Nat → Nat) (ac_ : Nat → Nat) (atr : Nat → Nat) (ah : Nat → Nat) (ap : Nat → Nat) (al : Nat → Nat) (abc : Nat → Nat) (aac : Nat → Nat) (anb : Nat → Nat) (N : Nat) (ct : CV) (lt : LV) (bc : BV) (cw : (Nat → Int32)) (o : Int32 × LV × BV × (Nat → Int32)) (hf : f_X7_least N ct lt bc cw = some o) : MetI l yX7_least wsX7_least RM_X7_least (dC, dI) (TY cI cJ cZ cO) [.ref (ab 0)] (W_BO cI cJ cZ cO ab ac_ atr ah ap al abc aac anb ++ (W_C cI cJ cZ cO ac_ ct.1 ct.2.1 ct.2.2.1 ct.2.2.2.1 ct.2.2.2.2.1 ct.2.2.2.2.2.1 ct.2.2.2.2.2.2.1 ct.2.2.2.2.2.2.2 ++ (W_L cI cJ cZ cO al lt.1 lt.2.1 lt.2.2.1 lt.2.2.2 ++ (W_B cI cJ cZ cO abc bc.1 bc.2.1 bc.2.2.1 bc.2.2.2.1 bc.2.2.2.2.1 bc.2.2.2.2.2.1 bc.2.2.2.2.2.2.1 bc.2.2.2.2.2.2.2 ++ (W_CW cI cJ cZ cO ab cw))))) (fun r (_ : Unit) => r = o.1) (fun _ => (W_BO cI cJ cZ cO ab ac_ atr ah ap al abc aac anb ++ (W_C cI cJ cZ cO ac_ ct.1 ct.2.1 ct.2.2.1 ct.2.2.2.1 ct.2.2.2.2.1 ct.2.2.2.2.2.1 ct.2.2.2.2.2.2.1 ct.2.2.2.2.2.2.2 ++ (W_L cI cJ cZ cO al o.2.1.1 o.2.1.2.1 o.2.1.2.2.1 o.2.1.2.2.2 ++ (W_B cI cJ cZ cO abc o.2.2.1.1 o.2.2.1.2.1 o.2.2.1.2.2.1 o.2.2.1.2.2.2.1 o.2.2.1.2.2.2.2.1 o.2.2.1.2.2.2.2.2.1 o.2.2.1.2.2.2.2.2.2.1 o.2.2.1.2.2.2.2.2.2.2 ++ (W_CW cI cJ cZ cO ab o.2.2.2)))))) := by
  refine MetI.ofV (cc := cX7_least) (maxL := 2) (ret := (some .int)) (own := RX7) (lv0 := [(0, .ref (ab 0))]) (by decide) rfl rfl (Nat.le_of_ble_eq_true rfl) rfl ?_
  intro p e s m below meth c A C0 _
  unfold f_X7_least at hf
  refine V_aload_n C0 dX7_least_0 0 rfl rfl ?_
  obtain ⟨r_1, hc_1, hf⟩ := bind_inv hf
  refine V_cVI (ws' := (W_BO cI cJ cZ cO ab ac_ atr ah ap al abc aac anb ++ (W_C cI cJ cZ cO ac_ ct.1 ct.2.1 ct.2.2.1 ct.2.2.2.1 ct.2.2.2.2.1 ct.2.2.2.2.2.1 ct.2.2.2.2.2.2.1 ct.2.2.2.2.2.2.2 ++ (W_L cI cJ cZ cO al r_1.2.1.1 r_1.2.1.2.1 r_1.2.1.2.2.1 r_1.2.1.2.2.2 ++ (W_B cI cJ cZ cO abc r_1.2.2.1.1 r_1.2.2.1.2.1 r_1.2.2.1.2.2.1 r_1.2.2.1.2.2.2.1 r_1.2.2.1.2.2.2.2.1 r_1.2.2.1.2.2.2.2.2.1 r_1.2.2.1.2.2.2.2.2.2.1 r_1.2.2.1.2.2.2.2.2.2.2 ++ (W_CW cI cJ cZ cO ab r_1.2.2.2)))))) (As := []) (b := ab 0) (st := []) C0 (c_X7_findLeast l dC dI cI cJ cZ cO ab ac_ atr ah ap al abc aac anb N ct lt bc cw  r_1 hc_1) rfl 0 gX7_least_X7_findLeast (by decide +kernel) ⟨Nat.le_of_ble_eq_true rfl, Nat.le_of_ble_eq_true rfl⟩ rfl 0 7 rfl rfl  Cut.all rfl (Nat.le_of_ble_eq_true rfl) dX7_least_1 rfl ⟨Nat.zero_le _, Nat.zero_le _⟩ ?_
  refine V_istore_n (lv' := [(1, .int r_1.1), (0, .ref (ab 0))]) C0 dX7_least_4 rfl (by decide) rfl rfl ?_
  refine V_iload_n C0 dX7_least_5 0 rfl rfl ?_
  refine V_iconst (v := (-1)) C0 dX7_least_6 (by decide) rfl ?_
  refine V_icmp_ne (tgt := 15) C0 dX7_least_7 (by decide) rfl (fun c7 => ?_) (fun c7 => ?_)
  · have hf := ite_f c7 hf
    refine V_iload_n C0 dX7_least_15 0 rfl rfl ?_
    obtain rfl := some_inv hf
    exact V_iret C0 () rfl rfl dX7_least_16
  · have hf := ite_t c7 hf
    refine V_bipush (v := (-6)) C0 dX7_least_10 (by decide) rfl ?_
    refine V_goto (tgt := 16) C0 dX7_least_12 (by decide) ?_
    obtain rfl := some_inv hf
    exact V_iret C0 () rfl rfl dX7_least_16
abbrev RM_X7_charactersIn : Room := { frames := 0, cells := 0, slots := 0, locals := 0 }
set_option maxRecDepth 100000 in
set_option maxHeartbeats 4000000 in
theorem c_X7_charactersIn (l : Launch) (dC : Nat → ClassId) (dI : Nat → Nat → Nat) (cI cJ cZ cO : ClassId)  (N : Nat) (x0 : Int64) (o : Int32) (hf : f_X7_charactersIn N x0 = some o) : MetI l yX7_charactersIn wsX7_charactersIn RM_X7_charactersIn (dC, dI) (TY cI cJ cZ cO) [.long x0] ([] : va_W) (fun r (_ : Unit) => r = o) (fun _ => ([] : va_W)) := by
  refine MetI.ofV (cc := cX7_charactersIn) (maxL := 7) (ret := (some .int)) (own := RX7) (lv0 := [(0, .long x0)]) (by decide) rfl rfl (Nat.le_of_ble_eq_true rfl) rfl ?_
  intro p e s m below meth c A C0 _
  unfold f_X7_charactersIn at hf
  refine V_lload_n C0 dX7_charactersIn_0 0 rfl rfl ?_
  refine V_lstore_n (lv' := [(2, .long x0), (0, .long x0)]) C0 dX7_charactersIn_1 rfl (by decide) rfl rfl ?_
  refine V_iconst (v := 0) C0 dX7_charactersIn_2 (by decide) rfl ?_
  refine V_istore (lv' := [(4, .int 0), (2, .long x0), (0, .long x0)]) C0 dX7_charactersIn_3 (by decide) rfl rfl ?_
  refine V_iconst (v := 0) C0 dX7_charactersIn_5 (by decide) rfl ?_
  refine V_istore (lv' := [(5, .int 0), (4, .int 0), (2, .long x0), (0, .long x0)]) C0 dX7_charactersIn_6 (by decide) rfl rfl ?_
  have hL8 : ∀ (K : Int32 → Option (Int32)), (∀ (x4 : Int32), K x4 = some o → V p l e RM_X7_charactersIn s m ([.long x0] : List Value).toArray below meth c 7 (dC, dI) A (MQ below (va_Qi (fun r (_ : Unit) => r = o) (PostW (dC, dI) (TY cI cJ cZ cO) A (fun _ => ([] : va_W))) A) ([.long x0] : List Value).toArray s 0 0 A) 0 0 ([] : va_W) 59 [(4, .int x4)] []) → ∀ (n : Nat) (x2 : Int64) (x4 : Int32) (x5 : Int32), f_X7_charactersIn_L8 N x0  K n x2 x4 x5 = some o → V p l e RM_X7_charactersIn s m ([.long x0] : List Value).toArray below meth c 7 (dC, dI) A (MQ below (va_Qi (fun r (_ : Unit) => r = o) (PostW (dC, dI) (TY cI cJ cZ cO) A (fun _ => ([] : va_W))) A) ([.long x0] : List Value).toArray s 0 0 A) 0 0 ([] : va_W) 8 [(2, .long x2), (4, .int x4), (5, .int x5)] [] := by
    intro  K hK n
    induction n with
    | zero => intro x2 x4 x5 hf; cases hf
    | succ n hREC =>
      intro x2 x4 x5 hf
      rw [f_X7_charactersIn_L8] at hf
      refine V_iload C0 dX7_charactersIn_8 2 rfl rfl ?_
      refine V_bipush (v := 8) C0 dX7_charactersIn_10 (by decide) rfl ?_
      refine V_icmp_ge (tgt := 59) C0 dX7_charactersIn_12 (by decide) rfl (fun c12 => ?_) (fun c12 => ?_)
      · have hf := ite_t c12 hf
        exact V.sub [1] rfl (hK x4 hf)
      · have hf := ite_f c12 hf
        refine V_lload_n C0 dX7_charactersIn_15 0 rfl rfl ?_
        refine V_lconst (v := 0) C0 dX7_charactersIn_16 (by decide) rfl ?_
        refine V_lcmp C0 dX7_charactersIn_17 rfl ?_
        refine V_if_eq (tgt := 59) C0 dX7_charactersIn_18 (by decide) rfl (fun c18 => ?_) (fun c18 => ?_)
        · have hf := ite_t c18 hf
          exact V.sub [1] rfl (hK x4 hf)
        · have hf := ite_f c18 hf
          refine V_lload_n C0 dX7_charactersIn_21 0 rfl rfl ?_
          refine V_ldc2 (v := 255) C0 dX7_charactersIn_22 (by decide +kernel) rfl ?_
          refine V_land C0 dX7_charactersIn_25 rfl ?_
          refine V_l2i C0 dX7_charactersIn_26 rfl ?_
          refine V_topi (fun x6_1 ex6_1 => ?_)
          have hf := bd_inv ex6_1 hf
          refine V_istore (lv' := [(6, .int x6_1), (2, .long x2), (4, .int x4), (5, .int x5)]) C0 dX7_charactersIn_27 (by decide) rfl rfl ?_
          refine V_iload C0 dX7_charactersIn_29 0 rfl rfl ?_
          refine V_bipush (v := 33) C0 dX7_charactersIn_31 (by decide) rfl ?_
          refine V_icmp_lt (tgt := 43) C0 dX7_charactersIn_33 (by decide) rfl (fun c33 => ?_) (fun c33 => ?_)
          · have hf := ite_t c33 hf
            refine V_iconst (v := 0) C0 dX7_charactersIn_43 (by decide) rfl ?_
            obtain rfl := some_inv hf
            exact V_iret C0 () rfl rfl dX7_charactersIn_44
          · have hf := ite_f c33 hf
            refine V_iload C0 dX7_charactersIn_36 0 rfl rfl ?_
            refine V_bipush (v := 126) C0 dX7_charactersIn_38 (by decide) rfl ?_
            refine V_icmp_le (tgt := 45) C0 dX7_charactersIn_40 (by decide) rfl (fun c40 => ?_) (fun c40 => ?_)
            · have hf := ite_t c40 hf
              refine V_iinc (k := 2) (v := x4 + 1) (lv' := [(4, .int (x4 + 1)), (6, .int x6_1), (2, .long x2), (5, .int x5)]) C0 dX7_charactersIn_45 rfl rfl (by decide) rfl rfl ?_
              refine V_lload_n C0 dX7_charactersIn_48 2 rfl rfl ?_
              refine V_bipush (v := 8) C0 dX7_charactersIn_49 (by decide) rfl ?_
              refine V_lushr C0 dX7_charactersIn_51 rfl ?_
              refine V_topl (fun x2_2 ex2_2 => ?_)
              have hf := bd_inv ex2_2 hf
              refine V_lstore_n (lv' := [(2, .long x2_2), (4, .int (x4 + 1)), (6, .int x6_1), (5, .int x5)]) C0 dX7_charactersIn_52 rfl (by decide) rfl rfl ?_
              refine V_iinc (k := 3) (v := x5 + 1) (lv' := [(5, .int (x5 + 1)), (2, .long x2_2), (4, .int (x4 + 1)), (6, .int x6_1)]) C0 dX7_charactersIn_53 rfl rfl (by decide) rfl rfl ?_
              refine V_goto (tgt := 8) C0 dX7_charactersIn_56 (by decide) ?_
              exact V.sub [1, 2, 0] rfl (hREC x2_2 (x4 + 1) (x5 + 1) hf)
            · have hf := ite_f c40 hf
              refine V_iconst (v := 0) C0 dX7_charactersIn_43 (by decide) rfl ?_
              obtain rfl := some_inv hf
              exact V_iret C0 () rfl rfl dX7_charactersIn_44
  refine V.sub [2, 1, 0] rfl (hL8  _ ?_ N x0 0 0 hf)
  intro x4_8 hf
  refine V_iload C0 dX7_charactersIn_59 0 rfl rfl ?_
  obtain rfl := some_inv hf
  exact V_iret C0 () rfl rfl dX7_charactersIn_61
abbrev RM_X7_put : Room := { frames := 1, cells := 0, slots := 0, locals := 26 }
theorem in_X7_put_X6 : ∀ w ∈ u_ws RX6 TX6 2, w ∈ wsX7_put := by decide +kernel
theorem in_X7_put_X7 : ∀ w ∈ u_ws RX7 TX7 12, w ∈ wsX7_put := by decide +kernel
theorem fl_X7_put_37 : FL RX7 wsX7_put 7 37 5 RX7 TX7 12 := ⟨in_X7_put_X7, rfl, by decide, by decide +kernel, rfl⟩
theorem fl_X7_put_88 : FL RX7 wsX7_put 6 88 0 RX6 TX6 2 := ⟨in_X7_put_X6, rfl, by decide, by decide +kernel, rfl⟩
set_option maxRecDepth 100000 in
set_option maxHeartbeats 4000000 in
theorem c_X7_put (l : Launch) (dC : Nat → ClassId) (dI : Nat → Nat → Nat) (cI cJ cZ cO : ClassId) (ab : Nat → Nat) (ac_ : Nat → Nat) (atr : Nat → Nat) (ah : Nat → Nat) (ap : Nat → Nat) (al : Nat → Nat) (abc : Nat → Nat) (aac : Nat → Nat) (anb : Nat → Nat) (N : Nat) (pd : PV) (x1 : Int64) (o : Int32 × PV) (hf : f_X7_put N pd x1 = some o) : MetI l yX7_put wsX7_put RM_X7_put (dC, dI) (TY cI cJ cZ cO) [.ref (ab 0), .long x1] (W_BO cI cJ cZ cO ab ac_ atr ah ap al abc aac anb ++ (W_P cI cJ cZ cO ap pd.1 pd.2)) (fun r (_ : Unit) => r = o.1) (fun _ => (W_BO cI cJ cZ cO ab ac_ atr ah ap al abc aac anb ++ (W_P cI cJ cZ cO ap o.2.1 o.2.2))) := by
  refine MetI.ofV (cc := cX7_put) (maxL := 5) (ret := (some .int)) (own := RX7) (lv0 := [(0, .ref (ab 0)), (1, .long x1)]) (by decide) rfl rfl (Nat.le_of_ble_eq_true rfl) rfl ?_
  intro p e s m below meth c A C0 _
  unfold f_X7_put at hf
  refine V_lload_n C0 dX7_put_0 1 rfl rfl ?_
  obtain ⟨r_1, hc_1, hf⟩ := bind_inv hf
  refine V_cSI (ws' := (W_BO cI cJ cZ cO ab ac_ atr ah ap al abc aac anb ++ (W_P cI cJ cZ cO ap pd.1 pd.2))) (As := [.long x1]) (st := []) C0 (c_X7_charactersIn l dC dI cI cJ cZ cO  N  x1 r_1 hc_1) rfl 1 gX7_put_X7_charactersIn (by decide +kernel) ⟨Nat.le_of_ble_eq_true rfl, Nat.le_of_ble_eq_true rfl⟩ rfl  ⟨_, (pr pr1), fun _ => (pr pr1)⟩ rfl (Nat.le_of_ble_eq_true rfl) dX7_put_1 rfl ⟨Nat.zero_le _, Nat.zero_le _⟩ ?_
  refine V_istore_n (lv' := [(3, .int r_1), (0, .ref (ab 0)), (1, .long x1)]) C0 dX7_put_4 rfl (by decide) rfl rfl ?_
  refine V_iload_n C0 dX7_put_5 0 rfl rfl ?_
  refine V_if_ne (tgt := 12) C0 dX7_put_6 (by decide) rfl (fun c6 => ?_) (fun c6 => ?_)
  · have hf := ite_f c6 hf
    refine V_aload_n C0 dX7_put_12 1 rfl rfl ?_
    refine V_get C0 fl_X7_put_37 0 rfl rfl dX7_put_13 rfl ?_
    refine V_get C0 fl_X7_put_88 1 rfl rfl dX7_put_16 rfl ?_
    refine V_iload_n C0 dX7_put_19 0 rfl rfl ?_
    refine V_iadd C0 dX7_put_20 rfl ?_
    refine V_bipush (v := 16) C0 dX7_put_21 (by decide) rfl ?_
    refine V_icmp_le (tgt := 29) C0 dX7_put_23 (by decide) rfl (fun c23 => ?_) (fun c23 => ?_)
    · have hf := ite_t c23 hf
      refine V_iload_n C0 dX7_put_29 0 rfl rfl ?_
      refine V_iconst (v := 1) C0 dX7_put_30 (by decide) rfl ?_
      refine V_isub C0 dX7_put_31 rfl ?_
      refine V_istore (lv' := [(4, .int (r_1 - 1)), (3, .int r_1), (0, .ref (ab 0)), (1, .long x1)]) C0 dX7_put_32 (by decide) rfl rfl ?_
      have hL34 : ∀ (K : PV → Option (Int32 × PV)), (∀ (pd : PV), K pd = some o → V p l e RM_X7_put s m ([.ref (ab 0), .long x1] : List Value).toArray below meth c 5 (dC, dI) A (MQ below (va_Qi (fun r (_ : Unit) => r = o.1) (PostW (dC, dI) (TY cI cJ cZ cO) A (fun _ => (W_BO cI cJ cZ cO ab ac_ atr ah ap al abc aac anb ++ (W_P cI cJ cZ cO ap o.2.1 o.2.2)))) A) ([.ref (ab 0), .long x1] : List Value).toArray s 0 0 A) 0 0 (W_BO cI cJ cZ cO ab ac_ atr ah ap al abc aac anb ++ (W_P cI cJ cZ cO ap pd.1 pd.2)) 64 [(0, .ref (ab 0))] []) → ∀ (n : Nat) (x4 : Int32) (pd : PV), f_X7_put_L34 N x1  K n x4 pd = some o → V p l e RM_X7_put s m ([.ref (ab 0), .long x1] : List Value).toArray below meth c 5 (dC, dI) A (MQ below (va_Qi (fun r (_ : Unit) => r = o.1) (PostW (dC, dI) (TY cI cJ cZ cO) A (fun _ => (W_BO cI cJ cZ cO ab ac_ atr ah ap al abc aac anb ++ (W_P cI cJ cZ cO ap o.2.1 o.2.2)))) A) ([.ref (ab 0), .long x1] : List Value).toArray s 0 0 A) 0 0 (W_BO cI cJ cZ cO ab ac_ atr ah ap al abc aac anb ++ (W_P cI cJ cZ cO ap pd.1 pd.2)) 34 [(0, .ref (ab 0)), (1, .long x1), (4, .int x4)] [] := by
        intro  K hK n
        induction n with
        | zero => intro x4 pd hf; cases hf
        | succ n hREC =>
          intro x4 pd hf
          rw [f_X7_put_L34] at hf
          refine V_iload C0 dX7_put_34 2 rfl rfl ?_
          refine V_if_lt (tgt := 64) C0 dX7_put_36 (by decide) rfl (fun c36 => ?_) (fun c36 => ?_)
          · have hf := ite_t c36 hf
            exact V.sub [0] rfl (hK pd hf)
          · have hf := ite_f c36 hf
            refine V_aload_n C0 dX7_put_39 0 rfl rfl ?_
            refine V_get C0 fl_X7_put_37 0 rfl rfl dX7_put_40 rfl ?_
            refine V_lload_n C0 dX7_put_43 1 rfl rfl ?_
            refine V_bipush (v := 8) C0 dX7_put_44 (by decide) rfl ?_
            refine V_iload C0 dX7_put_46 2 rfl rfl ?_
            refine V_imul C0 dX7_put_48 rfl ?_
            refine V_lushr C0 dX7_put_49 rfl ?_
            refine V_l2i C0 dX7_put_50 rfl ?_
            refine V_sipush (v := 255) C0 dX7_put_51 (by decide) rfl ?_
            refine V_iand C0 dX7_put_54 rfl ?_
            obtain ⟨r_55, hc_55, hf⟩ := bind_inv hf
            refine V_cVV (ws' := (W_BO cI cJ cZ cO ab ac_ atr ah ap al abc aac anb ++ (W_P cI cJ cZ cO ap r_55.1 r_55.2))) (As := [.int (((ushr x1 (8 * x4)).toInt32) &&& 255)]) (b := ap 0) (st := []) C0 (c_X6_append l dC dI cI cJ cZ cO ap N pd (((ushr x1 (8 * x4)).toInt32) &&& 255) r_55 hc_55) rfl 1 gX7_put_X6_append (by decide +kernel) ⟨Nat.le_of_ble_eq_true rfl, Nat.le_of_ble_eq_true rfl⟩ rfl 1 6 rfl rfl  ⟨_, (pr pt1), fun _ => (pr pt1)⟩ rfl (Nat.le_of_ble_eq_true rfl) dX7_put_55 rfl ⟨Nat.zero_le _, Nat.zero_le _⟩ ?_
            refine V_iinc (k := 2) (v := x4 + (-1)) (lv' := [(4, .int (x4 + (-1))), (0, .ref (ab 0)), (1, .long x1)]) C0 dX7_put_58 rfl rfl (by decide) rfl rfl ?_
            refine V_goto (tgt := 34) C0 dX7_put_61 (by decide) ?_
            exact V.sub [1, 2, 0] rfl (hREC (x4 + (-1)) r_55 hf)
      refine V.sub [2, 3, 0] rfl (hL34  _ ?_ N (r_1 - 1) pd hf)
      intro pd_34 hf
      refine V_aload_n C0 dX7_put_64 0 rfl rfl ?_
      refine V_get C0 fl_X7_put_37 0 rfl rfl dX7_put_65 rfl ?_
      refine V_get C0 fl_X7_put_88 1 rfl rfl dX7_put_68 rfl ?_
      obtain rfl := some_inv hf
      exact V_iret C0 () rfl rfl dX7_put_71
    · have hf := ite_f c23 hf
      refine V_bipush (v := (-4)) C0 dX7_put_26 (by decide) rfl ?_
      obtain rfl := some_inv hf
      exact V_iret C0 () rfl rfl dX7_put_28
  · have hf := ite_t c6 hf
    refine V_bipush (v := (-2)) C0 dX7_put_9 (by decide) rfl ?_
    obtain rfl := some_inv hf
    exact V_iret C0 () rfl rfl dX7_put_11
abbrev RM_X7_wipe : Room := { frames := 0, cells := 0, slots := 0, locals := 0 }
theorem in_X7_wipe_X6 : ∀ w ∈ u_ws RX6 TX6 2, w ∈ wsX7_wipe := by decide +kernel
theorem in_X7_wipe_X7 : ∀ w ∈ u_ws RX7 TX7 12, w ∈ wsX7_wipe := by decide +kernel
theorem fl_X7_wipe_37 : FL RX7 wsX7_wipe 7 37 5 RX7 TX7 12 := ⟨in_X7_wipe_X7, rfl, by decide, by decide +kernel, rfl⟩
theorem fl_X7_wipe_88 : FL RX7 wsX7_wipe 6 88 0 RX6 TX6 2 := ⟨in_X7_wipe_X6, rfl, by decide, by decide +kernel, rfl⟩
set_option maxRecDepth 100000 in
set_option maxHeartbeats 4000000 in
theorem c_X7_wipe (l : Launch) (dC : Nat → ClassId) (dI : Nat → Nat → Nat) (cI cJ cZ cO : ClassId) (ab : Nat → Nat) (ac_ : Nat → Nat) (atr : Nat → Nat) (ah : Nat → Nat) (ap : Nat → Nat) (al : Nat → Nat) (abc : Nat → Nat) (aac : Nat → Nat) (anb : Nat → Nat) (N : Nat) (pd : PV) (o : Int32 × PV) (hf : f_X7_wipe N pd = some o) : MetI l yX7_wipe wsX7_wipe RM_X7_wipe (dC, dI) (TY cI cJ cZ cO) [.ref (ab 0)] (W_BO cI cJ cZ cO ab ac_ atr ah ap al abc aac anb ++ (W_P cI cJ cZ cO ap pd.1 pd.2)) (fun r (_ : Unit) => r = o.1) (fun _ => (W_BO cI cJ cZ cO ab ac_ atr ah ap al abc aac anb ++ (W_P cI cJ cZ cO ap o.2.1 o.2.2))) := by
  refine MetI.ofV (cc := cX7_wipe) (maxL := 2) (ret := (some .int)) (own := RX7) (lv0 := [(0, .ref (ab 0))]) (by decide) rfl rfl (Nat.le_of_ble_eq_true rfl) rfl ?_
  intro p e s m below meth c A C0 _
  unfold f_X7_wipe at hf
  refine V_aload_n C0 dX7_wipe_0 0 rfl rfl ?_
  refine V_get C0 fl_X7_wipe_37 0 rfl rfl dX7_wipe_1 rfl ?_
  refine V_get C0 fl_X7_wipe_88 1 rfl rfl dX7_wipe_4 rfl ?_
  refine V_istore_n (lv' := [(1, .int pd.1), (0, .ref (ab 0))]) C0 dX7_wipe_7 rfl (by decide) rfl rfl ?_
  refine V_aload_n C0 dX7_wipe_8 1 rfl rfl ?_
  refine V_get C0 fl_X7_wipe_37 0 rfl rfl dX7_wipe_9 rfl ?_
  refine V_iconst (v := 0) C0 dX7_wipe_12 (by decide) rfl ?_
  refine V_put (ws' := (W_BO cI cJ cZ cO ab ac_ atr ah ap al abc aac anb ++ (W_P cI cJ cZ cO ap 0 pd.2))) C0 fl_X7_wipe_88 tyX6_ok nmX6 rfl 1 rfl rfl rfl (Nat.le_of_ble_eq_true rfl) dX7_wipe_13 rfl rfl ?_
  refine V_iload_n C0 dX7_wipe_16 0 rfl rfl ?_
  obtain rfl := some_inv hf
  exact V_iret C0 () rfl rfl dX7_wipe_17
abbrev RM_X7_fault : Room := { frames := 2, cells := 0, slots := 0, locals := 42 }
theorem in_X7_fault_X6 : ∀ w ∈ u_ws RX6 TX6 2, w ∈ wsX7_fault := by decide +kernel
theorem in_X7_fault_X7 : ∀ w ∈ u_ws RX7 TX7 12, w ∈ wsX7_fault := by decide +kernel
theorem fl_X7_fault_37 : FL RX7 wsX7_fault 7 37 5 RX7 TX7 12 := ⟨in_X7_fault_X7, rfl, by decide, by decide +kernel, rfl⟩
theorem fl_X7_fault_88 : FL RX7 wsX7_fault 6 88 0 RX6 TX6 2 := ⟨in_X7_fault_X6, rfl, by decide, by decide +kernel, rfl⟩
set_option maxRecDepth 100000 in
set_option maxHeartbeats 4000000 in
theorem c_X7_fault (l : Launch) (dC : Nat → ClassId) (dI : Nat → Nat → Nat) (cI cJ cZ cO : ClassId) (ab : Nat → Nat) (ac_ : Nat → Nat) (atr : Nat → Nat) (ah : Nat → Nat) (ap : Nat → Nat) (al : Nat → Nat) (abc : Nat → Nat) (aac : Nat → Nat) (anb : Nat → Nat) (N : Nat) (pd : PV) (o : Int32) (hf : f_X7_fault N pd = some o) : MetI l yX7_fault wsX7_fault RM_X7_fault (dC, dI) (TY cI cJ cZ cO) [.ref (ab 0)] (W_BO cI cJ cZ cO ab ac_ atr ah ap al abc aac anb ++ (W_P cI cJ cZ cO ap pd.1 pd.2)) (fun r (_ : Unit) => r = o) (fun _ => (W_BO cI cJ cZ cO ab ac_ atr ah ap al abc aac anb ++ (W_P cI cJ cZ cO ap pd.1 pd.2))) := by
  refine MetI.ofV (cc := cX7_fault) (maxL := 2) (ret := (some .int)) (own := RX7) (lv0 := [(0, .ref (ab 0))]) (by decide) rfl rfl (Nat.le_of_ble_eq_true rfl) rfl ?_
  intro p e s m below meth c A C0 _
  unfold f_X7_fault at hf
  refine V_aload_n C0 dX7_fault_0 0 rfl rfl ?_
  refine V_get C0 fl_X7_fault_37 0 rfl rfl dX7_fault_1 rfl ?_
  obtain ⟨r_4, hc_4, hf⟩ := bind_inv hf
  refine V_cVI (ws' := (W_BO cI cJ cZ cO ab ac_ atr ah ap al abc aac anb ++ (W_P cI cJ cZ cO ap pd.1 pd.2))) (As := []) (b := ap 0) (st := []) C0 (c_X6_firstNoLetter l dC dI cI cJ cZ cO ap N pd  r_4 hc_4) rfl 0 gX7_fault_X6_firstNoLetter (by decide +kernel) ⟨Nat.le_of_ble_eq_true rfl, Nat.le_of_ble_eq_true rfl⟩ rfl 1 6 rfl rfl  ⟨_, (pr pt1), fun _ => (pr pt1)⟩ rfl (Nat.le_of_ble_eq_true rfl) dX7_fault_4 rfl ⟨Nat.zero_le _, Nat.zero_le _⟩ ?_
  refine V_istore_n (lv' := [(1, .int r_4), (0, .ref (ab 0))]) C0 dX7_fault_7 rfl (by decide) rfl rfl ?_
  refine V_iload_n C0 dX7_fault_8 0 rfl rfl ?_
  refine V_aload_n C0 dX7_fault_9 1 rfl rfl ?_
  refine V_get C0 fl_X7_fault_37 0 rfl rfl dX7_fault_10 rfl ?_
  refine V_get C0 fl_X7_fault_88 1 rfl rfl dX7_fault_13 rfl ?_
  refine V_icmp_ge (tgt := 23) C0 dX7_fault_16 (by decide) rfl (fun c16 => ?_) (fun c16 => ?_)
  · have hf := ite_t c16 hf
    refine V_bipush (v := (-6)) C0 dX7_fault_23 (by decide) rfl ?_
    obtain rfl := some_inv hf
    exact V_iret C0 () rfl rfl dX7_fault_25
  · have hf := ite_f c16 hf
    refine V_iload_n C0 dX7_fault_19 0 rfl rfl ?_
    refine V_goto (tgt := 25) C0 dX7_fault_20 (by decide) ?_
    obtain rfl := some_inv hf
    exact V_iret C0 () rfl rfl dX7_fault_25
