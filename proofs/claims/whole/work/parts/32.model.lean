def f_X8_findNeighbours_L31 (N : Nat)  (x1 : Int32) (x2 : Int32) (K : MV → Option (MV)) : Nat → Int32 → MV → Option (MV)
  | 0, _, _ => none
  | n+1, x3, mo => ck x3 13 (if x2 ≤ (x3 + (mo.2.2.2.2.2.2.2.2.2.2.1 (x3.toNatClampNeg))) then K mo else ck x3 13 (bd (x3 + (mo.2.2.2.2.2.2.2.2.2.2.1 (x3.toNatClampNeg))) (fun (x4_1 : Int32) => ck x3 13 (ck x4_1 13 (bd ((mo.2.2.2.2.2.2.2.2.2.2.1 (x3.toNatClampNeg)) + (mo.2.2.2.2.2.2.2.2.2.2.1 (x4_1.toNatClampNeg))) (fun (x5_2 : Int32) => jn (fun (s0_87 : Int32) => jn (fun (mo_194 : MV) => ck x3 13 (bd (x3 + (mo_194.2.2.2.2.2.2.2.2.2.2.1 (x3.toNatClampNeg))) (fun (x3_3 : Int32) => f_X8_findNeighbours_L31 N  x1 x2 K n x3_3 mo_194))) (fun (J194 : MV → Option (MV)) => if s0_87 ≤ 0 then J194 mo else (f_X8_pieceOf N mo s0_87).bind (fun (r_97 : Int32) => if r_97 = ((-6)) then ck x3 13 ((f_X8_weightIn N mo x1 x3 (mo.2.2.2.2.2.2.2.2.2.2.1 (x3.toNatClampNeg))).bind (fun (r_114 : Int32) => ck x4_1 13 ((f_X8_weightIn N mo x1 x4_1 (mo.2.2.2.2.2.2.2.2.2.2.1 (x4_1.toNatClampNeg))).bind (fun (r_130 : Int32) => ck mo.2.2.2.2.2.2.2.2.2.2.2.2.2.2.2.2.1 88 ((f_X8_wordPart N ((mo.1, mo.2.1, mo.2.2.1, mo.2.2.2.1, mo.2.2.2.2.1, mo.2.2.2.2.2.1, mo.2.2.2.2.2.2.1, mo.2.2.2.2.2.2.2.1, mo.2.2.2.2.2.2.2.2.1, mo.2.2.2.2.2.2.2.2.2.1, mo.2.2.2.2.2.2.2.2.2.2.1, mo.2.2.2.2.2.2.2.2.2.2.2.1, mo.2.2.2.2.2.2.2.2.2.2.2.2.1, upd mo.2.2.2.2.2.2.2.2.2.2.2.2.2.1 (mo.2.2.2.2.2.2.2.2.2.2.2.2.2.2.2.2.1.toNatClampNeg) s0_87, mo.2.2.2.2.2.2.2.2.2.2.2.2.2.2.1, mo.2.2.2.2.2.2.2.2.2.2.2.2.2.2.2.1, mo.2.2.2.2.2.2.2.2.2.2.2.2.2.2.2.2.1, mo.2.2.2.2.2.2.2.2.2.2.2.2.2.2.2.2.2)) x1 1).bind (fun (r_157 : Int32) => ck mo.2.2.2.2.2.2.2.2.2.2.2.2.2.2.2.2.1 88 (jn (fun (s2_183 : Int32) => ck mo.2.2.2.2.2.2.2.2.2.2.2.2.2.2.2.2.1 88 (J194 ((mo.1, mo.2.1, mo.2.2.1, mo.2.2.2.1, mo.2.2.2.2.1, mo.2.2.2.2.2.1, mo.2.2.2.2.2.2.1, mo.2.2.2.2.2.2.2.1, mo.2.2.2.2.2.2.2.2.1, mo.2.2.2.2.2.2.2.2.2.1, mo.2.2.2.2.2.2.2.2.2.2.1, mo.2.2.2.2.2.2.2.2.2.2.2.1, mo.2.2.2.2.2.2.2.2.2.2.2.2.1, upd mo.2.2.2.2.2.2.2.2.2.2.2.2.2.1 (mo.2.2.2.2.2.2.2.2.2.2.2.2.2.2.2.2.1.toNatClampNeg) s0_87, upd mo.2.2.2.2.2.2.2.2.2.2.2.2.2.2.1 (mo.2.2.2.2.2.2.2.2.2.2.2.2.2.2.2.2.1.toNatClampNeg) r_157, upd mo.2.2.2.2.2.2.2.2.2.2.2.2.2.2.2.1 (mo.2.2.2.2.2.2.2.2.2.2.2.2.2.2.2.2.1.toNatClampNeg) s2_183, mo.2.2.2.2.2.2.2.2.2.2.2.2.2.2.2.2.1 + 1, mo.2.2.2.2.2.2.2.2.2.2.2.2.2.2.2.2.2)))) (fun (J183 : Int32 → Option (MV)) => if r_130 ≤ r_114 then J183 r_130 else J183 r_114)))))))) else J194 mo))) (fun (J87 : Int32 → Option (MV)) => if x5_2 ≤ 4 then (f_X8_textIn N mo x1 x3 x5_2).bind (fun (r_84 : Int32) => J87 r_84) else J87 0)))))))
def f_X8_findNeighbours_L7 (N : Nat)   (K : MV → Option (MV)) : Nat → Int32 → MV → Option (MV)
  | 0, _, _ => none
  | n+1, x1, mo => ck 1 210 (if (mo.1 ((1 : Int32).toNatClampNeg)) ≤ x1 then K mo else (f_X8_findCut N mo x1).bind (fun (r_19 : MV) => (f_X8_wordPart N r_19 x1 0).bind (fun (r_25 : Int32) => f_X8_findNeighbours_L31 N  x1 r_25 (fun (mo_31 : MV) => f_X8_findNeighbours_L7 N   K n (x1 + 1) mo_31) N 0 r_19)))
def f_X8_findNeighbours (N : Nat) (mo : MV) : Option (MV) := f_X8_findNeighbours_L7 N   (fun (mo_7 : MV) => some mo_7) N 0 ((mo.1, mo.2.1, mo.2.2.1, mo.2.2.2.1, mo.2.2.2.2.1, mo.2.2.2.2.2.1, mo.2.2.2.2.2.2.1, mo.2.2.2.2.2.2.2.1, mo.2.2.2.2.2.2.2.2.1, mo.2.2.2.2.2.2.2.2.2.1, mo.2.2.2.2.2.2.2.2.2.2.1, mo.2.2.2.2.2.2.2.2.2.2.2.1, mo.2.2.2.2.2.2.2.2.2.2.2.2.1, mo.2.2.2.2.2.2.2.2.2.2.2.2.2.1, mo.2.2.2.2.2.2.2.2.2.2.2.2.2.2.1, mo.2.2.2.2.2.2.2.2.2.2.2.2.2.2.2.1, 0, mo.2.2.2.2.2.2.2.2.2.2.2.2.2.2.2.2.2))
def f_X8_standsSo_L4 (N : Nat) (mo : MV) (x1 : Int32)  (K : Int32 → Option (Int32)) : Nat → Int32 → Int32 → Option (Int32)
  | 0, _, _ => none
  | n+1, x2, x3 => if mo.2.2.2.2.2.2.2.2.2.2.2.2.2.2.2.2.1 ≤ x3 then K x2 else ck x3 88 (if (mo.2.2.2.2.2.2.2.2.2.2.2.2.2.1 (x3.toNatClampNeg)) = x1 then ck x3 88 (bd (x2 + (mo.2.2.2.2.2.2.2.2.2.2.2.2.2.2.1 (x3.toNatClampNeg))) (fun (x2_1 : Int32) => f_X8_standsSo_L4 N mo x1  K n x2_1 (x3 + 1))) else f_X8_standsSo_L4 N mo x1  K n (x2 + 0) (x3 + 1))
def f_X8_standsSo (N : Nat) (mo : MV) (x1 : Int32) : Option (Int32) := f_X8_standsSo_L4 N mo x1  (fun (x2_4 : Int32) => some x2_4) N 0 0
def f_X8_growsAt_L11 (N : Nat)  (mo : MV) (K : Int32 → Option (Int32 × MV)) : Nat → Int32 → Int32 → Int32 → Option (Int32 × MV)
  | 0, _, _, _ => none
  | n+1, x1, x2, x3 => if mo.2.2.2.2.2.2.2.2.2.2.2.2.2.2.2.2.1 ≤ x3 then K x1 else ck x3 88 ((f_X8_standsSo N mo (mo.2.2.2.2.2.2.2.2.2.2.2.2.2.1 (x3.toNatClampNeg))).bind (fun (r_26 : Int32) => jn (fun (s0_63 : Int32) => jn (fun (s0_75 : Int32) => if s0_63 = 0 then f_X8_growsAt_L11 N  mo K n s0_75 x2 (x3 + 1) else f_X8_growsAt_L11 N  mo K n s0_75 r_26 (x3 + 1)) (fun (J75 : Int32 → Option (Int32 × MV)) => if s0_63 = 0 then J75 x1 else J75 x3)) (fun (J63 : Int32 → Option (Int32 × MV)) => jn (fun (_ : Unit) => J63 1) (fun (J58 : Unit → Option (Int32 × MV)) => if x2 < r_26 then J58 () else if r_26 = x2 then ck x3 88 (ck x1 88 (if (mo.2.2.2.2.2.2.2.2.2.2.2.2.2.1 (x1.toNatClampNeg)) ≤ (mo.2.2.2.2.2.2.2.2.2.2.2.2.2.1 (x3.toNatClampNeg)) then J63 0 else J58 ())) else J63 0))))
def f_X8_growsAt (N : Nat) (mo : MV) : Option (Int32 × MV) := (f_X8_findNeighbours N mo ).bind (fun (r_1 : MV) => f_X8_growsAt_L11 N  r_1 (fun (x1_11 : Int32) => some (x1_11, r_1)) N ((-6)) 0 0)
def f_X8_padText_L15 (N : Nat) (mo : MV) (x1 : Int32)  (K : Int32 → Int32 → Option (Int32)) : Nat → Int32 → Int32 → Int32 → Option (Int32)
  | 0, _, _, _ => none
  | n+1, x2, x3, x4 => if mo.2.2.2.2.2.2.2.1 ≤ x4 then K x2 x3 else jn (fun (s0_50 : Int32) => if 4 ≤ x4 then f_X8_padText_L15 N mo x1  K n x2 s0_50 (x4 + 1) else ck x4 16 (bd ((((7 * x2) + (mo.2.2.2.2.2.2.1 (x4.toNatClampNeg))) - 97) + 1) (fun (x2_1 : Int32) => f_X8_padText_L15 N mo x1  K n x2_1 s0_50 (x4 + 1)))) (fun (J50 : Int32 → Option (Int32)) => jn (fun (_ : Unit) => J50 0) (fun (J49 : Unit → Option (Int32)) => if x3 = 0 then J49 () else ck x4 16 ((f_X8_within N  (mo.2.2.2.2.2.2.1 (x4.toNatClampNeg)) 97 102).bind (fun (r_39 : Int32) => if r_39 = 0 then J49 () else J50 1))))
def f_X8_padText (N : Nat) (mo : MV) (x1 : Int32) : Option (Int32) := (f_X8_within N  mo.2.2.2.2.2.2.2.1 1 x1).bind (fun (r_8 : Int32) => f_X8_padText_L15 N mo x1  (fun (x2_15 : Int32) (x3_15 : Int32) => if x3_15 = 0 then some 0 else some x2_15) N 0 r_8 0)
def f_X8_whyNoPiece (N : Nat) (mo : MV) (x1 : Int32) : Option (Int32) := (f_X8_padText N mo 4).bind (fun (r_2 : Int32) => if r_2 = 0 then some ((-3)) else (f_X8_within N  x1 1 9).bind (fun (r_17 : Int32) => if r_17 = 0 then some ((-2)) else ck 0 210 (if (mo.1 ((0 : Int32).toNatClampNeg)) = 16 then some ((-4)) else (f_X8_pieceOf N mo r_2).bind (fun (r_44 : Int32) => if r_44 = ((-6)) then some 0 else some ((-5))))))
def f_X8_piece (N : Nat) (mo : MV) (x1 : Int32) : Option (Int32 × MV) := (f_X8_whyNoPiece N mo x1).bind (fun (r_2 : Int32) => if 0 ≤ r_2 then (f_X8_record N mo ).bind (fun (r_13 : MV) => (f_X8_padText N r_13 4).bind (fun (r_19 : Int32) => (f_X8_addPiece N r_13 r_19 x1).bind (fun (r_23 : Int32 × MV) => some (r_23.1, (r_23.2.1, r_23.2.2.1, r_23.2.2.2.1, r_23.2.2.2.2.1, r_23.2.2.2.2.2.1, r_23.2.2.2.2.2.2.1, r_23.2.2.2.2.2.2.2.1, 0, r_23.2.2.2.2.2.2.2.2.2.1, r_23.2.2.2.2.2.2.2.2.2.2.1, r_23.2.2.2.2.2.2.2.2.2.2.2.1, r_23.2.2.2.2.2.2.2.2.2.2.2.2.1, r_23.2.2.2.2.2.2.2.2.2.2.2.2.2.1, r_23.2.2.2.2.2.2.2.2.2.2.2.2.2.2.1, r_23.2.2.2.2.2.2.2.2.2.2.2.2.2.2.2.1, r_23.2.2.2.2.2.2.2.2.2.2.2.2.2.2.2.2.1, r_23.2.2.2.2.2.2.2.2.2.2.2.2.2.2.2.2.2.1, r_23.2.2.2.2.2.2.2.2.2.2.2.2.2.2.2.2.2.2))))) else some (r_2, mo))
def f_X8_weigh (N : Nat) (mo : MV) (x1 : Int32) (x2 : Int32) : Option (Int32 × MV) := (f_X8_isPiece N mo x1).bind (fun (r_2 : Int32) => jn (fun (_ : Unit) => (f_X8_isPiece N mo x1).bind (fun (r_20 : Int32) => if r_20 = 0 then some ((-1), mo) else some ((-2), mo))) (fun (J18 : Unit → Option (Int32 × MV)) => if r_2 = 0 then J18 () else (f_X8_within N  x2 1 9).bind (fun (r_12 : Int32) => if r_12 = 0 then J18 () else (f_X8_record N mo ).bind (fun (r_34 : MV) => (f_X8_piecePart N r_34 x1 1).bind (fun (r_40 : Int32) => ck ((2 + (6 * x1)) + 1) 210 (some (r_40, (upd r_34.1 (((2 + (6 * x1)) + 1).toNatClampNeg) x2, r_34.2.1, r_34.2.2.1, r_34.2.2.2.1, r_34.2.2.2.2.1, r_34.2.2.2.2.2.1, r_34.2.2.2.2.2.2.1, r_34.2.2.2.2.2.2.2.1, r_34.2.2.2.2.2.2.2.2.1, r_34.2.2.2.2.2.2.2.2.2.1, r_34.2.2.2.2.2.2.2.2.2.2.1, r_34.2.2.2.2.2.2.2.2.2.2.2.1, r_34.2.2.2.2.2.2.2.2.2.2.2.2.1, r_34.2.2.2.2.2.2.2.2.2.2.2.2.2.1, r_34.2.2.2.2.2.2.2.2.2.2.2.2.2.2.1, r_34.2.2.2.2.2.2.2.2.2.2.2.2.2.2.2.1, r_34.2.2.2.2.2.2.2.2.2.2.2.2.2.2.2.2.1, r_34.2.2.2.2.2.2.2.2.2.2.2.2.2.2.2.2.2))))))))
def f_X8_drop (N : Nat) (mo : MV) (x1 : Int32) : Option (Int32 × MV) := (f_X8_isPiece N mo x1).bind (fun (r_2 : Int32) => if r_2 = 0 then some ((-1), mo) else (f_X8_record N mo ).bind (fun (r_11 : MV) => (f_X8_dropPiece N r_11 x1).bind (fun (r_16 : MV) => ck 0 210 (some (r_16.1 ((0 : Int32).toNatClampNeg), r_16)))))
def f_X8_word_L82 (N : Nat) (x1 : Int32) (x2 : Int32) (x3 : Int32) (K : MV → Option (Int32 × MV)) : Nat → Int32 → MV → Option (Int32 × MV)
  | 0, _, _ => none
  | n+1, x4, mo => if 12 ≤ x4 then K mo else jn (fun (s2_124 : Int32) => ck ((x3 + 2) + x4) 210 (f_X8_word_L82 N x1 x2 x3 K n (x4 + 1) ((upd mo.1 (((x3 + 2) + x4).toNatClampNeg) s2_124, mo.2.1, mo.2.2.1, mo.2.2.2.1, mo.2.2.2.2.1, mo.2.2.2.2.2.1, mo.2.2.2.2.2.2.1, mo.2.2.2.2.2.2.2.1, mo.2.2.2.2.2.2.2.2.1, mo.2.2.2.2.2.2.2.2.2.1, mo.2.2.2.2.2.2.2.2.2.2.1, mo.2.2.2.2.2.2.2.2.2.2.2.1, mo.2.2.2.2.2.2.2.2.2.2.2.2.1, mo.2.2.2.2.2.2.2.2.2.2.2.2.2.1, mo.2.2.2.2.2.2.2.2.2.2.2.2.2.2.1, mo.2.2.2.2.2.2.2.2.2.2.2.2.2.2.2.1, mo.2.2.2.2.2.2.2.2.2.2.2.2.2.2.2.2.1, mo.2.2.2.2.2.2.2.2.2.2.2.2.2.2.2.2.2)))) (fun (J124 : Int32 → Option (Int32 × MV)) => if mo.2.2.2.2.2.2.2.1 ≤ x4 then J124 0 else ck x4 16 (J124 (((mo.2.2.2.2.2.2.1 (x4.toNatClampNeg)) - 97) + 1)))
def f_X8_word (N : Nat) (mo : MV) (x1 : Int32) : Option (Int32 × MV) := (f_X8_padText N mo 12).bind (fun (r_3 : Int32) => if r_3 = 0 then some ((-3), mo) else (f_X8_within N  x1 1 99).bind (fun (r_16 : Int32) => if r_16 = 0 then some ((-2), mo) else ck 1 210 (if (mo.1 ((1 : Int32).toNatClampNeg)) = 8 then some ((-4), mo) else (f_X8_record N mo ).bind (fun (r_40 : MV) => ck 1 210 (bd (r_40.1 ((1 : Int32).toNatClampNeg)) (fun (x2_1 : Int32) => bd (98 + (14 * x2_1)) (fun (x3_2 : Int32) => ck (x3_2 + 0) 210 (ck (x3_2 + 1) 210 (f_X8_word_L82 N x1 x2_1 x3_2 (fun (mo_82 : MV) => ck 1 210 (ck 1 210 (some (x2_1, (upd mo_82.1 ((1 : Int32).toNatClampNeg) ((mo_82.1 ((1 : Int32).toNatClampNeg)) + 1), mo_82.2.1, mo_82.2.2.1, mo_82.2.2.2.1, mo_82.2.2.2.2.1, mo_82.2.2.2.2.2.1, mo_82.2.2.2.2.2.2.1, 0, mo_82.2.2.2.2.2.2.2.2.1, mo_82.2.2.2.2.2.2.2.2.2.1, mo_82.2.2.2.2.2.2.2.2.2.2.1, mo_82.2.2.2.2.2.2.2.2.2.2.2.1, mo_82.2.2.2.2.2.2.2.2.2.2.2.2.1, mo_82.2.2.2.2.2.2.2.2.2.2.2.2.2.1, mo_82.2.2.2.2.2.2.2.2.2.2.2.2.2.2.1, mo_82.2.2.2.2.2.2.2.2.2.2.2.2.2.2.2.1, mo_82.2.2.2.2.2.2.2.2.2.2.2.2.2.2.2.2.1, mo_82.2.2.2.2.2.2.2.2.2.2.2.2.2.2.2.2.2))))) N 0 ((upd (upd r_40.1 ((x3_2 + 0).toNatClampNeg) r_40.2.2.2.2.2.2.2.1) ((x3_2 + 1).toNatClampNeg) x1, r_40.2.1, r_40.2.2.1, r_40.2.2.2.1, r_40.2.2.2.2.1, r_40.2.2.2.2.2.1, r_40.2.2.2.2.2.2.1, r_40.2.2.2.2.2.2.2.1, r_40.2.2.2.2.2.2.2.2.1, r_40.2.2.2.2.2.2.2.2.2.1, r_40.2.2.2.2.2.2.2.2.2.2.1, r_40.2.2.2.2.2.2.2.2.2.2.2.1, r_40.2.2.2.2.2.2.2.2.2.2.2.2.1, r_40.2.2.2.2.2.2.2.2.2.2.2.2.2.1, r_40.2.2.2.2.2.2.2.2.2.2.2.2.2.2.1, r_40.2.2.2.2.2.2.2.2.2.2.2.2.2.2.2.1, r_40.2.2.2.2.2.2.2.2.2.2.2.2.2.2.2.2.1, r_40.2.2.2.2.2.2.2.2.2.2.2.2.2.2.2.2.2)))))))))))
def f_X8_recount (N : Nat) (mo : MV) (x1 : Int32) (x2 : Int32) : Option (Int32 × MV) := (f_X8_isWord N mo x1).bind (fun (r_2 : Int32) => jn (fun (_ : Unit) => (f_X8_isWord N mo x1).bind (fun (r_20 : Int32) => if r_20 = 0 then some ((-1), mo) else some ((-2), mo))) (fun (J18 : Unit → Option (Int32 × MV)) => if r_2 = 0 then J18 () else (f_X8_within N  x2 1 99).bind (fun (r_12 : Int32) => if r_12 = 0 then J18 () else (f_X8_record N mo ).bind (fun (r_34 : MV) => (f_X8_wordPart N r_34 x1 1).bind (fun (r_40 : Int32) => ck ((98 + (14 * x1)) + 1) 210 (some (r_40, (upd r_34.1 (((98 + (14 * x1)) + 1).toNatClampNeg) x2, r_34.2.1, r_34.2.2.1, r_34.2.2.2.1, r_34.2.2.2.2.1, r_34.2.2.2.2.2.1, r_34.2.2.2.2.2.2.1, r_34.2.2.2.2.2.2.2.1, r_34.2.2.2.2.2.2.2.2.1, r_34.2.2.2.2.2.2.2.2.2.1, r_34.2.2.2.2.2.2.2.2.2.2.1, r_34.2.2.2.2.2.2.2.2.2.2.2.1, r_34.2.2.2.2.2.2.2.2.2.2.2.2.1, r_34.2.2.2.2.2.2.2.2.2.2.2.2.2.1, r_34.2.2.2.2.2.2.2.2.2.2.2.2.2.2.1, r_34.2.2.2.2.2.2.2.2.2.2.2.2.2.2.2.1, r_34.2.2.2.2.2.2.2.2.2.2.2.2.2.2.2.2.1, r_34.2.2.2.2.2.2.2.2.2.2.2.2.2.2.2.2.2))))))))
def f_X8_forget_L22 (N : Nat) (x1 : Int32)  (K : MV → Option (Int32 × MV)) : Nat → Int32 → MV → Option (Int32 × MV)
  | 0, _, _ => none
  | n+1, x2, mo => ck 1 210 (if (98 + (14 * ((mo.1 ((1 : Int32).toNatClampNeg)) - 1))) ≤ x2 then K mo else ck (x2 + 14) 210 (ck x2 210 (f_X8_forget_L22 N x1  K n (x2 + 1) ((upd mo.1 (x2.toNatClampNeg) (mo.1 ((x2 + 14).toNatClampNeg)), mo.2.1, mo.2.2.1, mo.2.2.2.1, mo.2.2.2.2.1, mo.2.2.2.2.2.1, mo.2.2.2.2.2.2.1, mo.2.2.2.2.2.2.2.1, mo.2.2.2.2.2.2.2.2.1, mo.2.2.2.2.2.2.2.2.2.1, mo.2.2.2.2.2.2.2.2.2.2.1, mo.2.2.2.2.2.2.2.2.2.2.2.1, mo.2.2.2.2.2.2.2.2.2.2.2.2.1, mo.2.2.2.2.2.2.2.2.2.2.2.2.2.1, mo.2.2.2.2.2.2.2.2.2.2.2.2.2.2.1, mo.2.2.2.2.2.2.2.2.2.2.2.2.2.2.2.1, mo.2.2.2.2.2.2.2.2.2.2.2.2.2.2.2.2.1, mo.2.2.2.2.2.2.2.2.2.2.2.2.2.2.2.2.2)))))
def f_X8_forget (N : Nat) (mo : MV) (x1 : Int32) : Option (Int32 × MV) := (f_X8_isWord N mo x1).bind (fun (r_2 : Int32) => if r_2 = 0 then some ((-1), mo) else (f_X8_record N mo ).bind (fun (r_11 : MV) => bd (98 + (14 * x1)) (fun (x2_1 : Int32) => f_X8_forget_L22 N x1  (fun (mo_22 : MV) => ck 1 210 (ck 1 210 (ck 1 210 (some ((upd mo_22.1 ((1 : Int32).toNatClampNeg) ((mo_22.1 ((1 : Int32).toNatClampNeg)) - 1)) ((1 : Int32).toNatClampNeg), (upd mo_22.1 ((1 : Int32).toNatClampNeg) ((mo_22.1 ((1 : Int32).toNatClampNeg)) - 1), mo_22.2.1, mo_22.2.2.1, mo_22.2.2.2.1, mo_22.2.2.2.2.1, mo_22.2.2.2.2.2.1, mo_22.2.2.2.2.2.2.1, mo_22.2.2.2.2.2.2.2.1, mo_22.2.2.2.2.2.2.2.2.1, mo_22.2.2.2.2.2.2.2.2.2.1, mo_22.2.2.2.2.2.2.2.2.2.2.1, mo_22.2.2.2.2.2.2.2.2.2.2.2.1, mo_22.2.2.2.2.2.2.2.2.2.2.2.2.1, mo_22.2.2.2.2.2.2.2.2.2.2.2.2.2.1, mo_22.2.2.2.2.2.2.2.2.2.2.2.2.2.2.1, mo_22.2.2.2.2.2.2.2.2.2.2.2.2.2.2.2.1, mo_22.2.2.2.2.2.2.2.2.2.2.2.2.2.2.2.2.1, mo_22.2.2.2.2.2.2.2.2.2.2.2.2.2.2.2.2.2)))))) N x2_1 r_11)))
def f_X8_grow (N : Nat) (mo : MV) : Option (Int32 × MV) := ck 0 210 (if (mo.1 ((0 : Int32).toNatClampNeg)) = 16 then some ((-4), mo) else (f_X8_growsAt N mo ).bind (fun (r_15 : Int32 × MV) => if r_15.1 = ((-6)) then some ((-5), r_15.2) else (f_X8_record N r_15.2 ).bind (fun (r_29 : MV) => ck r_15.1 88 (ck r_15.1 88 ((f_X8_addPiece N r_29 (r_29.2.2.2.2.2.2.2.2.2.2.2.2.2.1 (r_15.1.toNatClampNeg)) (r_29.2.2.2.2.2.2.2.2.2.2.2.2.2.2.2.1 (r_15.1.toNatClampNeg))).bind (fun (r_45 : Int32 × MV) => some (r_45.1, r_45.2)))))))
def f_X8_tune_L12 (N : Nat)  (mo : MV) (K : Int32 → Option (Int32 × MV)) : Nat → Int32 → Int32 → Option (Int32 × MV)
  | 0, _, _ => none
  | n+1, x1, x2 => ck 0 210 (if (mo.1 ((0 : Int32).toNatClampNeg)) ≤ x2 then K x1 else ck x2 16 (if (mo.2.2.2.2.2.2.2.2.2.2.2.2.2.2.2.2.2 (x2.toNatClampNeg)) ≤ x1 then f_X8_tune_L12 N  mo K n x1 (x2 + 1) else ck x2 16 (bd (mo.2.2.2.2.2.2.2.2.2.2.2.2.2.2.2.2.2 (x2.toNatClampNeg)) (fun (x1_1 : Int32) => f_X8_tune_L12 N  mo K n x1_1 (x2 + 1)))))
def f_X8_tune_L53 (N : Nat)  (x1 : Int32) (K : Int32 → MV → Option (Int32 × MV)) : Nat → Int32 → Int32 → MV → Option (Int32 × MV)
  | 0, _, _, _ => none
  | n+1, x2, x3, mo => ck 0 210 (if (mo.1 ((0 : Int32).toNatClampNeg)) ≤ x3 then K x2 mo else jn (fun (s0_84 : Int32) => (f_X8_piecePart N mo x3 1).bind (fun (r_92 : Int32) => jn (fun (s1_103 : Int32) => bd (x2 + s1_103) (fun (x2_2 : Int32) => ck ((2 + (6 * x3)) + 1) 210 (f_X8_tune_L53 N  x1 K n x2_2 (x3 + 1) ((upd mo.1 (((2 + (6 * x3)) + 1).toNatClampNeg) s0_84, mo.2.1, mo.2.2.1, mo.2.2.2.1, mo.2.2.2.2.1, mo.2.2.2.2.2.1, mo.2.2.2.2.2.2.1, mo.2.2.2.2.2.2.2.1, mo.2.2.2.2.2.2.2.2.1, mo.2.2.2.2.2.2.2.2.2.1, mo.2.2.2.2.2.2.2.2.2.2.1, mo.2.2.2.2.2.2.2.2.2.2.2.1, mo.2.2.2.2.2.2.2.2.2.2.2.2.1, mo.2.2.2.2.2.2.2.2.2.2.2.2.2.1, mo.2.2.2.2.2.2.2.2.2.2.2.2.2.2.1, mo.2.2.2.2.2.2.2.2.2.2.2.2.2.2.2.1, mo.2.2.2.2.2.2.2.2.2.2.2.2.2.2.2.2.1, mo.2.2.2.2.2.2.2.2.2.2.2.2.2.2.2.2.2))))) (fun (J103 : Int32 → Option (Int32 × MV)) => if s0_84 = r_92 then J103 0 else J103 1))) (fun (J84 : Int32 → Option (Int32 × MV)) => if x1 = 0 then J84 1 else ck x3 16 (nzI x1 (J84 (1 + ((8 * (mo.2.2.2.2.2.2.2.2.2.2.2.2.2.2.2.2.2 (x3.toNatClampNeg))) / x1))))))
def f_X8_tune (N : Nat) (mo : MV) : Option (Int32 × MV) := (f_X8_record N mo ).bind (fun (r_1 : MV) => (f_X8_findBears N r_1 ).bind (fun (r_5 : MV) => f_X8_tune_L12 N  r_5 (fun (x1_12 : Int32) => f_X8_tune_L53 N  x1_12 (fun (x2_53 : Int32) (mo_53 : MV) => some (x2_53, mo_53)) N 0 0 r_5) N 0 0))
def f_X8_shrink_L19 (N : Nat) (x1 : Int32)  (K : Int32 → MV → Option (Int32 × MV)) : Nat → Int32 → MV → Option (Int32 × MV)
  | 0, _, _ => none
  | n+1, x2, mo => ck 0 210 (if (mo.1 ((0 : Int32).toNatClampNeg)) ≤ x1 then K x2 mo else (f_X8_leastOf N mo ).bind (fun (r_31 : Int32 × MV) => (f_X8_dropPiece N r_31.2 r_31.1).bind (fun (r_34 : MV) => f_X8_shrink_L19 N x1  K n (x2 + 1) r_34)))
def f_X8_shrink (N : Nat) (mo : MV) (x1 : Int32) : Option (Int32 × MV) := (f_X8_within N  x1 0 16).bind (fun (r_4 : Int32) => if r_4 = 0 then some ((-2), mo) else (f_X8_record N mo ).bind (fun (r_14 : MV) => f_X8_shrink_L19 N x1  (fun (x2_19 : Int32) (mo_19 : MV) => some (x2_19, mo_19)) N 0 r_14))
def f_X8_partOften_L22 (N : Nat) (x1 : Int32) (x3 : Int32) (mo : MV) (K : Int32 → Option (Int32 × MV)) : Nat → Int32 → Int32 → Option (Int32 × MV)
  | 0, _, _ => none
  | n+1, x2, x4 => (f_X8_wordPart N mo x3 0).bind (fun (r_27 : Int32) => if r_27 ≤ x4 then K x2 else ck x4 13 ((f_X8_textIn N mo x3 x4 (mo.2.2.2.2.2.2.2.2.2.2.1 (x4.toNatClampNeg))).bind (fun (r_45 : Int32) => (f_X8_textOf N mo x1).bind (fun (r_50 : Int32) => jn (fun (s1_66 : Int32) => bd (x2 + s1_66) (fun (x2_1 : Int32) => ck x4 13 (bd (x4 + (mo.2.2.2.2.2.2.2.2.2.2.1 (x4.toNatClampNeg))) (fun (x4_2 : Int32) => f_X8_partOften_L22 N x1 x3 mo K n x2_1 x4_2)))) (fun (J66 : Int32 → Option (Int32 × MV)) => if r_45 = r_50 then (f_X8_wordPart N mo x3 1).bind (fun (r_59 : Int32) => J66 r_59) else J66 0)))))
def f_X8_partOften_L4 (N : Nat) (x1 : Int32)  (K : Int32 → MV → Option (Int32 × MV)) : Nat → Int32 → Int32 → MV → Option (Int32 × MV)
  | 0, _, _, _ => none
  | n+1, x2, x3, mo => ck 1 210 (if (mo.1 ((1 : Int32).toNatClampNeg)) ≤ x3 then K x2 mo else (f_X8_findCut N mo x3).bind (fun (r_16 : MV) => f_X8_partOften_L22 N x1 x3 r_16 (fun (x2_22 : Int32) => f_X8_partOften_L4 N x1  K n x2_22 (x3 + 1) r_16) N x2 0))
def f_X8_partOften (N : Nat) (mo : MV) (x1 : Int32) : Option (Int32 × MV) := f_X8_partOften_L4 N x1  (fun (x2_4 : Int32) (mo_4 : MV) => some (x2_4, mo_4)) N 0 0 mo
def f_X8_ofPiece (N : Nat) (mo : MV) (x1 : Int32) (x2 : Int32) : Option (Int32 × MV) := (f_X8_isPiece N mo x1).bind (fun (r_2 : Int32) => if r_2 = 0 then some ((-1), mo) else if x2 = 0 then (f_X8_piecePart N mo x1 x2).bind (fun (r_63 : Int32) => some (r_63, mo)) else if x2 = 1 then (f_X8_piecePart N mo x1 x2).bind (fun (r_63 : Int32) => some (r_63, mo)) else if x2 = 2 then (f_X8_textOf N mo x1).bind (fun (r_69 : Int32) => (f_X8_letterOf N  r_69 (x2 - 2)).bind (fun (r_75 : Int32) => some (r_75, mo))) else if x2 = 3 then (f_X8_textOf N mo x1).bind (fun (r_69 : Int32) => (f_X8_letterOf N  r_69 (x2 - 2)).bind (fun (r_75 : Int32) => some (r_75, mo))) else if x2 = 4 then (f_X8_textOf N mo x1).bind (fun (r_69 : Int32) => (f_X8_letterOf N  r_69 (x2 - 2)).bind (fun (r_75 : Int32) => some (r_75, mo))) else if x2 = 5 then (f_X8_textOf N mo x1).bind (fun (r_69 : Int32) => (f_X8_letterOf N  r_69 (x2 - 2)).bind (fun (r_75 : Int32) => some (r_75, mo))) else if x2 = 6 then (f_X8_partOften N mo x1).bind (fun (r_81 : Int32 × MV) => some (r_81.1, r_81.2)) else if x2 = 7 then (f_X8_lossOf N mo x1).bind (fun (r_87 : Int32 × MV) => some (r_87.1 + 100000, r_87.2)) else if x2 = 8 then (f_X8_findBears N mo ).bind (fun (r_95 : MV) => ck x1 16 (some (r_95.2.2.2.2.2.2.2.2.2.2.2.2.2.2.2.2.2 (x1.toNatClampNeg), r_95))) else some ((-2), mo))
def f_X8_ofWord (N : Nat) (mo : MV) (x1 : Int32) (x2 : Int32) : Option (Int32 × MV) := (f_X8_isWord N mo x1).bind (fun (r_2 : Int32) => if r_2 = 0 then some ((-1), mo) else (f_X8_findCut N mo x1).bind (fun (r_12 : MV) => if x2 = 0 then (f_X8_wordPart N r_12 x1 x2).bind (fun (r_59 : Int32) => some (r_59, r_12)) else if x2 = 1 then (f_X8_wordPart N r_12 x1 x2).bind (fun (r_59 : Int32) => some (r_59, r_12)) else if x2 = 2 then ck 0 13 (some (r_12.2.2.2.2.2.2.2.2.2.1 ((0 : Int32).toNatClampNeg), r_12)) else if x2 = 3 then (f_X8_unseenIn N r_12 x1).bind (fun (r_72 : Int32) => some (r_72, r_12)) else if x2 = 4 then (f_X8_costOf N r_12 x1).bind (fun (r_78 : Int32 × MV) => some (r_78.1, r_78.2)) else if x2 = 5 then (f_X8_cutsOf N r_12 x1).bind (fun (r_84 : Int32 × MV) => some (r_84.1, r_84.2)) else some ((-2), r_12)))
def f_X8_letter (N : Nat) (mo : MV) (x1 : Int32) (x2 : Int32) : Option (Int32) := (f_X8_isWord N mo x1).bind (fun (r_2 : Int32) => if r_2 = 0 then some ((-1)) else (f_X8_wordPart N mo x1 0).bind (fun (r_13 : Int32) => (f_X8_within N  x2 0 (r_13 - 1)).bind (fun (r_18 : Int32) => if r_18 = 0 then some ((-1)) else (f_X8_wordPart N mo x1 (2 + x2)).bind (fun (r_29 : Int32) => some (r_29 - 1)))))
def f_X8_product (N : Nat) (mo : MV) (x1 : Int32) (x2 : Int32) : Option (Int64 × MV) := (f_X8_isWord N mo x1).bind (fun (r_2 : Int32) => jn (fun (_ : Unit) => (f_X8_isWord N mo x1).bind (fun (r_19 : Int32) => if r_19 = 0 then some ((-1), mo) else some ((-2), mo))) (fun (J17 : Unit → Option (Int64 × MV)) => if r_2 = 0 then J17 () else (f_X8_within N  x2 0 1).bind (fun (r_11 : Int32) => if r_11 = 0 then J17 () else (f_X8_findCut N mo x1).bind (fun (r_37 : MV) => (f_X8_findTotals N r_37 x1).bind (fun (r_42 : MV) => if x2 = 0 then ck 0 13 (some (r_42.2.2.2.2.2.2.2.2.2.2.2.2.1 ((0 : Int32).toNatClampNeg), r_42)) else ck 0 13 (some (r_42.2.2.2.2.2.2.2.2.1 ((0 : Int32).toNatClampNeg), r_42)))))))
def f_X8_part_L39 (N : Nat) (x1 : Int32) (x2 : Int32) (x3 : Int32) (mo : MV) (K : Int32 → Option (Int32 × MV)) : Nat → Int32 → Int32 → Option (Int32 × MV)
  | 0, _, _ => none
  | n+1, x4, x5 => if x2 ≤ x5 then K x4 else ck x4 13 (bd (x4 + (mo.2.2.2.2.2.2.2.2.2.2.1 (x4.toNatClampNeg))) (fun (x4_1 : Int32) => f_X8_part_L39 N x1 x2 x3 mo K n x4_1 (x5 + 1)))
def f_X8_part (N : Nat) (mo : MV) (x1 : Int32) (x2 : Int32) (x3 : Int32) : Option (Int32 × MV) := (f_X8_isWord N mo x1).bind (fun (r_2 : Int32) => if r_2 = 0 then some ((-1), mo) else (f_X8_findCut N mo x1).bind (fun (r_12 : MV) => ck 0 13 ((f_X8_within N  x2 0 ((r_12.2.2.2.2.2.2.2.2.2.1 ((0 : Int32).toNatClampNeg)) - 1)).bind (fun (r_25 : Int32) => if r_25 = 0 then some ((-1), r_12) else f_X8_part_L39 N x1 x2 x3 r_12 (fun (x4_39 : Int32) => if x3 = 0 then ck x4_39 13 ((f_X8_textIn N r_12 x1 x4_39 (r_12.2.2.2.2.2.2.2.2.2.2.1 (x4_39.toNatClampNeg))).bind (fun (r_79 : Int32) => (f_X8_pieceOf N r_12 r_79).bind (fun (r_82 : Int32) => some (r_82, r_12)))) else if x3 = 1 then some (x4_39, r_12) else if x3 = 2 then ck x4_39 13 (some (r_12.2.2.2.2.2.2.2.2.2.2.1 (x4_39.toNatClampNeg), r_12)) else some ((-2), r_12)) N 0 0))))
def f_X8_share (N : Nat) (mo : MV) (x1 : Int32) (x2 : Int32) : Option (Int32 × MV) := (f_X8_isWord N mo x1).bind (fun (r_2 : Int32) => if r_2 = 0 then some ((-1), mo) else (f_X8_isPiece N mo x2).bind (fun (r_10 : Int32) => if r_10 = 0 then some ((-1), mo) else (f_X8_findTotals N mo x1).bind (fun (r_20 : MV) => (f_X8_shareIn N r_20 x1 x2).bind (fun (r_26 : Int32) => some (r_26, r_20)))))
abbrev RM_X8_findNeighbours : Room := { frames := 5, cells := 0, slots := 0, locals := 120 }
theorem in_X8_findNeighbours_X8 : ∀ w ∈ u_ws RX8 TX8 18, w ∈ wsX8_findNeighbours := by decide +kernel
theorem fl_X8_findNeighbours_7 : FL RX8 wsX8_findNeighbours 8 7 0 RX8 TX8 18 := ⟨in_X8_findNeighbours_X8, rfl, by decide, by decide +kernel, rfl⟩
theorem fl_X8_findNeighbours_35 : FL RX8 wsX8_findNeighbours 8 35 10 RX8 TX8 18 := ⟨in_X8_findNeighbours_X8, rfl, by decide, by decide +kernel, rfl⟩
theorem fl_X8_findNeighbours_44 : FL RX8 wsX8_findNeighbours 8 44 13 RX8 TX8 18 := ⟨in_X8_findNeighbours_X8, rfl, by decide, by decide +kernel, rfl⟩
theorem fl_X8_findNeighbours_47 : FL RX8 wsX8_findNeighbours 8 47 14 RX8 TX8 18 := ⟨in_X8_findNeighbours_X8, rfl, by decide, by decide +kernel, rfl⟩
theorem fl_X8_findNeighbours_50 : FL RX8 wsX8_findNeighbours 8 50 15 RX8 TX8 18 := ⟨in_X8_findNeighbours_X8, rfl, by decide, by decide +kernel, rfl⟩
theorem fl_X8_findNeighbours_126 : FL RX8 wsX8_findNeighbours 8 126 16 RX8 TX8 18 := ⟨in_X8_findNeighbours_X8, rfl, by decide, by decide +kernel, rfl⟩
set_option maxRecDepth 100000 in
set_option maxHeartbeats 4000000 in
theorem c_X8_findNeighbours (l : Launch) (dC : Nat → ClassId) (dI : Nat → Nat → Nat) (cI cJ cZ cO : ClassId) (am : Nat → Nat) (N : Nat) (mo : MV) (o : MV) (hf : f_X8_findNeighbours N mo = some o) : MetV l yX8_findNeighbours wsX8_findNeighbours RM_X8_findNeighbours (dC, dI) (TY cI cJ cZ cO) [.ref (am 0)] (W_M cI cJ cZ cO am mo.1 mo.2.1 mo.2.2.1 mo.2.2.2.1 mo.2.2.2.2.1 mo.2.2.2.2.2.1 mo.2.2.2.2.2.2.1 mo.2.2.2.2.2.2.2.1 mo.2.2.2.2.2.2.2.2.1 mo.2.2.2.2.2.2.2.2.2.1 mo.2.2.2.2.2.2.2.2.2.2.1 mo.2.2.2.2.2.2.2.2.2.2.2.1 mo.2.2.2.2.2.2.2.2.2.2.2.2.1 mo.2.2.2.2.2.2.2.2.2.2.2.2.2.1 mo.2.2.2.2.2.2.2.2.2.2.2.2.2.2.1 mo.2.2.2.2.2.2.2.2.2.2.2.2.2.2.2.1 mo.2.2.2.2.2.2.2.2.2.2.2.2.2.2.2.2.1 mo.2.2.2.2.2.2.2.2.2.2.2.2.2.2.2.2.2) (fun _ : Unit => True) (fun _ => (W_M cI cJ cZ cO am o.1 o.2.1 o.2.2.1 o.2.2.2.1 o.2.2.2.2.1 o.2.2.2.2.2.1 o.2.2.2.2.2.2.1 o.2.2.2.2.2.2.2.1 o.2.2.2.2.2.2.2.2.1 o.2.2.2.2.2.2.2.2.2.1 o.2.2.2.2.2.2.2.2.2.2.1 o.2.2.2.2.2.2.2.2.2.2.2.1 o.2.2.2.2.2.2.2.2.2.2.2.2.1 o.2.2.2.2.2.2.2.2.2.2.2.2.2.1 o.2.2.2.2.2.2.2.2.2.2.2.2.2.2.1 o.2.2.2.2.2.2.2.2.2.2.2.2.2.2.2.1 o.2.2.2.2.2.2.2.2.2.2.2.2.2.2.2.2.1 o.2.2.2.2.2.2.2.2.2.2.2.2.2.2.2.2.2)) := by
  refine MetV.ofV (cc := cX8_findNeighbours) (maxL := 9) (ret := none) (own := RX8) (lv0 := [(0, .ref (am 0))]) (by decide) rfl rfl (Nat.le_of_ble_eq_true rfl) rfl ?_
  intro p e s m below meth c A C0 _
  unfold f_X8_findNeighbours at hf
  refine V_aload_n C0 dX8_findNeighbours_0 0 rfl rfl ?_
  refine V_iconst (v := 0) C0 dX8_findNeighbours_1 (by decide) rfl ?_
  refine V_put (ws' := (W_M cI cJ cZ cO am mo.1 mo.2.1 mo.2.2.1 mo.2.2.2.1 mo.2.2.2.2.1 mo.2.2.2.2.2.1 mo.2.2.2.2.2.2.1 mo.2.2.2.2.2.2.2.1 mo.2.2.2.2.2.2.2.2.1 mo.2.2.2.2.2.2.2.2.2.1 mo.2.2.2.2.2.2.2.2.2.2.1 mo.2.2.2.2.2.2.2.2.2.2.2.1 mo.2.2.2.2.2.2.2.2.2.2.2.2.1 mo.2.2.2.2.2.2.2.2.2.2.2.2.2.1 mo.2.2.2.2.2.2.2.2.2.2.2.2.2.2.1 mo.2.2.2.2.2.2.2.2.2.2.2.2.2.2.2.1 0 mo.2.2.2.2.2.2.2.2.2.2.2.2.2.2.2.2.2)) C0 fl_X8_findNeighbours_126 tyX8_ok nmX8 rfl 0 rfl rfl rfl (Nat.le_of_ble_eq_true rfl) dX8_findNeighbours_2 rfl rfl ?_
  refine V_iconst (v := 0) C0 dX8_findNeighbours_5 (by decide) rfl ?_
  refine V_istore_n (lv' := [(1, .int 0), (0, .ref (am 0))]) C0 dX8_findNeighbours_6 rfl (by decide) rfl rfl ?_
  have hL7 : ∀ (K : MV → Option (MV)), (∀ (mo : MV), K mo = some o → V p l e RM_X8_findNeighbours s m ([.ref (am 0)] : List Value).toArray below meth c 9 (dC, dI) A (MQ below (va_Qv (fun _ : Unit => True) (PostW (dC, dI) (TY cI cJ cZ cO) A (fun _ => (W_M cI cJ cZ cO am o.1 o.2.1 o.2.2.1 o.2.2.2.1 o.2.2.2.2.1 o.2.2.2.2.2.1 o.2.2.2.2.2.2.1 o.2.2.2.2.2.2.2.1 o.2.2.2.2.2.2.2.2.1 o.2.2.2.2.2.2.2.2.2.1 o.2.2.2.2.2.2.2.2.2.2.1 o.2.2.2.2.2.2.2.2.2.2.2.1 o.2.2.2.2.2.2.2.2.2.2.2.2.1 o.2.2.2.2.2.2.2.2.2.2.2.2.2.1 o.2.2.2.2.2.2.2.2.2.2.2.2.2.2.1 o.2.2.2.2.2.2.2.2.2.2.2.2.2.2.2.1 o.2.2.2.2.2.2.2.2.2.2.2.2.2.2.2.2.1 o.2.2.2.2.2.2.2.2.2.2.2.2.2.2.2.2.2))) A) ([.ref (am 0)] : List Value).toArray s 0 0 A) 0 0 (W_M cI cJ cZ cO am mo.1 mo.2.1 mo.2.2.1 mo.2.2.2.1 mo.2.2.2.2.1 mo.2.2.2.2.2.1 mo.2.2.2.2.2.2.1 mo.2.2.2.2.2.2.2.1 mo.2.2.2.2.2.2.2.2.1 mo.2.2.2.2.2.2.2.2.2.1 mo.2.2.2.2.2.2.2.2.2.2.1 mo.2.2.2.2.2.2.2.2.2.2.2.1 mo.2.2.2.2.2.2.2.2.2.2.2.2.1 mo.2.2.2.2.2.2.2.2.2.2.2.2.2.1 mo.2.2.2.2.2.2.2.2.2.2.2.2.2.2.1 mo.2.2.2.2.2.2.2.2.2.2.2.2.2.2.2.1 mo.2.2.2.2.2.2.2.2.2.2.2.2.2.2.2.2.1 mo.2.2.2.2.2.2.2.2.2.2.2.2.2.2.2.2.2) 212 [] []) → ∀ (n : Nat) (x1 : Int32) (mo : MV), f_X8_findNeighbours_L7 N   K n x1 mo = some o → V p l e RM_X8_findNeighbours s m ([.ref (am 0)] : List Value).toArray below meth c 9 (dC, dI) A (MQ below (va_Qv (fun _ : Unit => True) (PostW (dC, dI) (TY cI cJ cZ cO) A (fun _ => (W_M cI cJ cZ cO am o.1 o.2.1 o.2.2.1 o.2.2.2.1 o.2.2.2.2.1 o.2.2.2.2.2.1 o.2.2.2.2.2.2.1 o.2.2.2.2.2.2.2.1 o.2.2.2.2.2.2.2.2.1 o.2.2.2.2.2.2.2.2.2.1 o.2.2.2.2.2.2.2.2.2.2.1 o.2.2.2.2.2.2.2.2.2.2.2.1 o.2.2.2.2.2.2.2.2.2.2.2.2.1 o.2.2.2.2.2.2.2.2.2.2.2.2.2.1 o.2.2.2.2.2.2.2.2.2.2.2.2.2.2.1 o.2.2.2.2.2.2.2.2.2.2.2.2.2.2.2.1 o.2.2.2.2.2.2.2.2.2.2.2.2.2.2.2.2.1 o.2.2.2.2.2.2.2.2.2.2.2.2.2.2.2.2.2))) A) ([.ref (am 0)] : List Value).toArray s 0 0 A) 0 0 (W_M cI cJ cZ cO am mo.1 mo.2.1 mo.2.2.1 mo.2.2.2.1 mo.2.2.2.2.1 mo.2.2.2.2.2.1 mo.2.2.2.2.2.2.1 mo.2.2.2.2.2.2.2.1 mo.2.2.2.2.2.2.2.2.1 mo.2.2.2.2.2.2.2.2.2.1 mo.2.2.2.2.2.2.2.2.2.2.1 mo.2.2.2.2.2.2.2.2.2.2.2.1 mo.2.2.2.2.2.2.2.2.2.2.2.2.1 mo.2.2.2.2.2.2.2.2.2.2.2.2.2.1 mo.2.2.2.2.2.2.2.2.2.2.2.2.2.2.1 mo.2.2.2.2.2.2.2.2.2.2.2.2.2.2.2.1 mo.2.2.2.2.2.2.2.2.2.2.2.2.2.2.2.2.1 mo.2.2.2.2.2.2.2.2.2.2.2.2.2.2.2.2.2) 7 [(0, .ref (am 0)), (1, .int x1)] [] := by
    intro  K hK n
    induction n with
    | zero => intro x1 mo hf; cases hf
    | succ n hREC =>
      intro x1 mo hf
      rw [f_X8_findNeighbours_L7] at hf
      refine V_iload_n C0 dX8_findNeighbours_7 1 rfl rfl ?_
      refine V_aload_n C0 dX8_findNeighbours_8 0 rfl rfl ?_
      refine V_get C0 fl_X8_findNeighbours_7 0 rfl rfl dX8_findNeighbours_9 rfl ?_
      refine V_iconst (v := 1) C0 dX8_findNeighbours_12 (by decide) rfl ?_
      obtain ⟨hi13, hf⟩ := ck_inv hf
      refine V_iald C0 1 0 rfl rfl hi13 dX8_findNeighbours_13 rfl ?_
      refine V_icmp_ge (tgt := 212) C0 dX8_findNeighbours_14 (by decide) rfl (fun c14 => ?_) (fun c14 => ?_)
      · have hf := ite_t c14 hf
        exact V.sub [] rfl (hK mo hf)
      · have hf := ite_f c14 hf
        refine V_aload_n C0 dX8_findNeighbours_17 0 rfl rfl ?_
        refine V_iload_n C0 dX8_findNeighbours_18 1 rfl rfl ?_
        obtain ⟨r_19, hc_19, hf⟩ := bind_inv hf
        refine V_cVV (ws' := (W_M cI cJ cZ cO am r_19.1 r_19.2.1 r_19.2.2.1 r_19.2.2.2.1 r_19.2.2.2.2.1 r_19.2.2.2.2.2.1 r_19.2.2.2.2.2.2.1 r_19.2.2.2.2.2.2.2.1 r_19.2.2.2.2.2.2.2.2.1 r_19.2.2.2.2.2.2.2.2.2.1 r_19.2.2.2.2.2.2.2.2.2.2.1 r_19.2.2.2.2.2.2.2.2.2.2.2.1 r_19.2.2.2.2.2.2.2.2.2.2.2.2.1 r_19.2.2.2.2.2.2.2.2.2.2.2.2.2.1 r_19.2.2.2.2.2.2.2.2.2.2.2.2.2.2.1 r_19.2.2.2.2.2.2.2.2.2.2.2.2.2.2.2.1 r_19.2.2.2.2.2.2.2.2.2.2.2.2.2.2.2.2.1 r_19.2.2.2.2.2.2.2.2.2.2.2.2.2.2.2.2.2)) (As := [.int x1]) (b := am 0) (st := []) C0 (c_X8_findCut l dC dI cI cJ cZ cO am N mo x1 r_19 hc_19) rfl 1 gX8_findNeighbours_X8_findCut (by decide +kernel) ⟨Nat.le_of_ble_eq_true rfl, Nat.le_of_ble_eq_true rfl⟩ rfl 0 8 rfl rfl  Cut.all rfl (Nat.le_of_ble_eq_true rfl) dX8_findNeighbours_19 rfl ⟨Nat.zero_le _, Nat.zero_le _⟩ ?_
        refine V_aload_n C0 dX8_findNeighbours_22 0 rfl rfl ?_
        refine V_iload_n C0 dX8_findNeighbours_23 1 rfl rfl ?_
        refine V_iconst (v := 0) C0 dX8_findNeighbours_24 (by decide) rfl ?_
        obtain ⟨r_25, hc_25, hf⟩ := bind_inv hf
        refine V_cVI (ws' := (W_M cI cJ cZ cO am r_19.1 r_19.2.1 r_19.2.2.1 r_19.2.2.2.1 r_19.2.2.2.2.1 r_19.2.2.2.2.2.1 r_19.2.2.2.2.2.2.1 r_19.2.2.2.2.2.2.2.1 r_19.2.2.2.2.2.2.2.2.1 r_19.2.2.2.2.2.2.2.2.2.1 r_19.2.2.2.2.2.2.2.2.2.2.1 r_19.2.2.2.2.2.2.2.2.2.2.2.1 r_19.2.2.2.2.2.2.2.2.2.2.2.2.1 r_19.2.2.2.2.2.2.2.2.2.2.2.2.2.1 r_19.2.2.2.2.2.2.2.2.2.2.2.2.2.2.1 r_19.2.2.2.2.2.2.2.2.2.2.2.2.2.2.2.1 r_19.2.2.2.2.2.2.2.2.2.2.2.2.2.2.2.2.1 r_19.2.2.2.2.2.2.2.2.2.2.2.2.2.2.2.2.2)) (As := [.int x1, .int 0]) (b := am 0) (st := []) C0 (c_X8_wordPart l dC dI cI cJ cZ cO am N r_19 x1 0 r_25 hc_25) rfl 2 gX8_findNeighbours_X8_wordPart (by decide +kernel) ⟨Nat.le_of_ble_eq_true rfl, Nat.le_of_ble_eq_true rfl⟩ rfl 0 8 rfl rfl  Cut.all rfl (Nat.le_of_ble_eq_true rfl) dX8_findNeighbours_25 rfl ⟨Nat.zero_le _, Nat.zero_le _⟩ ?_
        refine V_istore_n (lv' := [(2, .int r_25), (0, .ref (am 0)), (1, .int x1)]) C0 dX8_findNeighbours_28 rfl (by decide) rfl rfl ?_
        refine V_iconst (v := 0) C0 dX8_findNeighbours_29 (by decide) rfl ?_
        refine V_istore_n (lv' := [(3, .int 0), (2, .int r_25), (0, .ref (am 0)), (1, .int x1)]) C0 dX8_findNeighbours_30 rfl (by decide) rfl rfl ?_
        have hL31 : ∀ (x1 : Int32) (x2 : Int32) (K : MV → Option (MV)), (∀ (mo : MV), K mo = some o → V p l e RM_X8_findNeighbours s m ([.ref (am 0)] : List Value).toArray below meth c 9 (dC, dI) A (MQ below (va_Qv (fun _ : Unit => True) (PostW (dC, dI) (TY cI cJ cZ cO) A (fun _ => (W_M cI cJ cZ cO am o.1 o.2.1 o.2.2.1 o.2.2.2.1 o.2.2.2.2.1 o.2.2.2.2.2.1 o.2.2.2.2.2.2.1 o.2.2.2.2.2.2.2.1 o.2.2.2.2.2.2.2.2.1 o.2.2.2.2.2.2.2.2.2.1 o.2.2.2.2.2.2.2.2.2.2.1 o.2.2.2.2.2.2.2.2.2.2.2.1 o.2.2.2.2.2.2.2.2.2.2.2.2.1 o.2.2.2.2.2.2.2.2.2.2.2.2.2.1 o.2.2.2.2.2.2.2.2.2.2.2.2.2.2.1 o.2.2.2.2.2.2.2.2.2.2.2.2.2.2.2.1 o.2.2.2.2.2.2.2.2.2.2.2.2.2.2.2.2.1 o.2.2.2.2.2.2.2.2.2.2.2.2.2.2.2.2.2))) A) ([.ref (am 0)] : List Value).toArray s 0 0 A) 0 0 (W_M cI cJ cZ cO am mo.1 mo.2.1 mo.2.2.1 mo.2.2.2.1 mo.2.2.2.2.1 mo.2.2.2.2.2.1 mo.2.2.2.2.2.2.1 mo.2.2.2.2.2.2.2.1 mo.2.2.2.2.2.2.2.2.1 mo.2.2.2.2.2.2.2.2.2.1 mo.2.2.2.2.2.2.2.2.2.2.1 mo.2.2.2.2.2.2.2.2.2.2.2.1 mo.2.2.2.2.2.2.2.2.2.2.2.2.1 mo.2.2.2.2.2.2.2.2.2.2.2.2.2.1 mo.2.2.2.2.2.2.2.2.2.2.2.2.2.2.1 mo.2.2.2.2.2.2.2.2.2.2.2.2.2.2.2.1 mo.2.2.2.2.2.2.2.2.2.2.2.2.2.2.2.2.1 mo.2.2.2.2.2.2.2.2.2.2.2.2.2.2.2.2.2) 206 [(0, .ref (am 0)), (1, .int x1)] []) → ∀ (n : Nat) (x3 : Int32) (mo : MV), f_X8_findNeighbours_L31 N  x1 x2 K n x3 mo = some o → V p l e RM_X8_findNeighbours s m ([.ref (am 0)] : List Value).toArray below meth c 9 (dC, dI) A (MQ below (va_Qv (fun _ : Unit => True) (PostW (dC, dI) (TY cI cJ cZ cO) A (fun _ => (W_M cI cJ cZ cO am o.1 o.2.1 o.2.2.1 o.2.2.2.1 o.2.2.2.2.1 o.2.2.2.2.2.1 o.2.2.2.2.2.2.1 o.2.2.2.2.2.2.2.1 o.2.2.2.2.2.2.2.2.1 o.2.2.2.2.2.2.2.2.2.1 o.2.2.2.2.2.2.2.2.2.2.1 o.2.2.2.2.2.2.2.2.2.2.2.1 o.2.2.2.2.2.2.2.2.2.2.2.2.1 o.2.2.2.2.2.2.2.2.2.2.2.2.2.1 o.2.2.2.2.2.2.2.2.2.2.2.2.2.2.1 o.2.2.2.2.2.2.2.2.2.2.2.2.2.2.2.1 o.2.2.2.2.2.2.2.2.2.2.2.2.2.2.2.2.1 o.2.2.2.2.2.2.2.2.2.2.2.2.2.2.2.2.2))) A) ([.ref (am 0)] : List Value).toArray s 0 0 A) 0 0 (W_M cI cJ cZ cO am mo.1 mo.2.1 mo.2.2.1 mo.2.2.2.1 mo.2.2.2.2.1 mo.2.2.2.2.2.1 mo.2.2.2.2.2.2.1 mo.2.2.2.2.2.2.2.1 mo.2.2.2.2.2.2.2.2.1 mo.2.2.2.2.2.2.2.2.2.1 mo.2.2.2.2.2.2.2.2.2.2.1 mo.2.2.2.2.2.2.2.2.2.2.2.1 mo.2.2.2.2.2.2.2.2.2.2.2.2.1 mo.2.2.2.2.2.2.2.2.2.2.2.2.2.1 mo.2.2.2.2.2.2.2.2.2.2.2.2.2.2.1 mo.2.2.2.2.2.2.2.2.2.2.2.2.2.2.2.1 mo.2.2.2.2.2.2.2.2.2.2.2.2.2.2.2.2.1 mo.2.2.2.2.2.2.2.2.2.2.2.2.2.2.2.2.2) 31 [(0, .ref (am 0)), (1, .int x1), (2, .int x2), (3, .int x3)] [] := by
          intro x1 x2 K hK n
          induction n with
          | zero => intro x3 mo hf; cases hf
          | succ n hREC =>
            intro x3 mo hf
            rw [f_X8_findNeighbours_L31] at hf
            refine V_iload_n C0 dX8_findNeighbours_31 3 rfl rfl ?_
            refine V_aload_n C0 dX8_findNeighbours_32 0 rfl rfl ?_
            refine V_get C0 fl_X8_findNeighbours_35 0 rfl rfl dX8_findNeighbours_33 rfl ?_
            refine V_iload_n C0 dX8_findNeighbours_36 3 rfl rfl ?_
            obtain ⟨hi37, hf⟩ := ck_inv hf
            refine V_iald C0 9 0 rfl rfl hi37 dX8_findNeighbours_37 rfl ?_
            refine V_iadd C0 dX8_findNeighbours_38 rfl ?_
            refine V_iload_n C0 dX8_findNeighbours_39 2 rfl rfl ?_
            refine V_icmp_ge (tgt := 206) C0 dX8_findNeighbours_40 (by decide) rfl (fun c40 => ?_) (fun c40 => ?_)
            · have hf := ite_t c40 hf
              exact V.sub [0, 1] rfl (hK mo hf)
            · have hf := ite_f c40 hf
              refine V_iload_n C0 dX8_findNeighbours_43 3 rfl rfl ?_
              refine V_aload_n C0 dX8_findNeighbours_44 0 rfl rfl ?_
              refine V_get C0 fl_X8_findNeighbours_35 0 rfl rfl dX8_findNeighbours_45 rfl ?_
              refine V_iload_n C0 dX8_findNeighbours_48 3 rfl rfl ?_
              obtain ⟨hi49, hf⟩ := ck_inv hf
              refine V_iald C0 9 0 rfl rfl hi49 dX8_findNeighbours_49 rfl ?_
              refine V_iadd C0 dX8_findNeighbours_50 rfl ?_
              refine V_topi (fun x4_1 ex4_1 => ?_)
              have hf := bd_inv ex4_1 hf
              refine V_istore (lv' := [(4, .int x4_1), (0, .ref (am 0)), (1, .int x1), (2, .int x2), (3, .int x3)]) C0 dX8_findNeighbours_51 (by decide) rfl rfl ?_
              refine V_aload_n C0 dX8_findNeighbours_53 1 rfl rfl ?_
              refine V_get C0 fl_X8_findNeighbours_35 0 rfl rfl dX8_findNeighbours_54 rfl ?_
              refine V_iload_n C0 dX8_findNeighbours_57 4 rfl rfl ?_
              obtain ⟨hi58, hf⟩ := ck_inv hf
              refine V_iald C0 9 0 rfl rfl hi58 dX8_findNeighbours_58 rfl ?_
              refine V_aload_n C0 dX8_findNeighbours_59 1 rfl rfl ?_
              refine V_get C0 fl_X8_findNeighbours_35 0 rfl rfl dX8_findNeighbours_60 rfl ?_
              refine V_iload C0 dX8_findNeighbours_63 0 rfl rfl ?_
              obtain ⟨hi65, hf⟩ := ck_inv hf
              refine V_iald C0 9 0 rfl rfl hi65 dX8_findNeighbours_65 rfl ?_
              refine V_iadd C0 dX8_findNeighbours_66 rfl ?_
              refine V_topi (fun x5_2 ex5_2 => ?_)
              have hf := bd_inv ex5_2 hf
              refine V_istore (lv' := [(5, .int x5_2), (4, .int x4_1), (0, .ref (am 0)), (1, .int x1), (2, .int x2), (3, .int x3)]) C0 dX8_findNeighbours_67 (by decide) rfl rfl ?_
              refine V_iload C0 dX8_findNeighbours_69 0 rfl rfl ?_
              refine V_iconst (v := 4) C0 dX8_findNeighbours_71 (by decide) rfl ?_
              refine jn_elim hf (fun (J : Int32 → Option (MV)) => ∀ (s0_87 : Int32), J s0_87 = some o → V p l e RM_X8_findNeighbours s m ([.ref (am 0)] : List Value).toArray below meth c 9 (dC, dI) A (MQ below (va_Qv (fun _ : Unit => True) (PostW (dC, dI) (TY cI cJ cZ cO) A (fun _ => (W_M cI cJ cZ cO am o.1 o.2.1 o.2.2.1 o.2.2.2.1 o.2.2.2.2.1 o.2.2.2.2.2.1 o.2.2.2.2.2.2.1 o.2.2.2.2.2.2.2.1 o.2.2.2.2.2.2.2.2.1 o.2.2.2.2.2.2.2.2.2.1 o.2.2.2.2.2.2.2.2.2.2.1 o.2.2.2.2.2.2.2.2.2.2.2.1 o.2.2.2.2.2.2.2.2.2.2.2.2.1 o.2.2.2.2.2.2.2.2.2.2.2.2.2.1 o.2.2.2.2.2.2.2.2.2.2.2.2.2.2.1 o.2.2.2.2.2.2.2.2.2.2.2.2.2.2.2.1 o.2.2.2.2.2.2.2.2.2.2.2.2.2.2.2.2.1 o.2.2.2.2.2.2.2.2.2.2.2.2.2.2.2.2.2))) A) ([.ref (am 0)] : List Value).toArray s 0 0 A) 0 0 (W_M cI cJ cZ cO am mo.1 mo.2.1 mo.2.2.1 mo.2.2.2.1 mo.2.2.2.2.1 mo.2.2.2.2.2.1 mo.2.2.2.2.2.2.1 mo.2.2.2.2.2.2.2.1 mo.2.2.2.2.2.2.2.2.1 mo.2.2.2.2.2.2.2.2.2.1 mo.2.2.2.2.2.2.2.2.2.2.1 mo.2.2.2.2.2.2.2.2.2.2.2.1 mo.2.2.2.2.2.2.2.2.2.2.2.2.1 mo.2.2.2.2.2.2.2.2.2.2.2.2.2.1 mo.2.2.2.2.2.2.2.2.2.2.2.2.2.2.1 mo.2.2.2.2.2.2.2.2.2.2.2.2.2.2.2.1 mo.2.2.2.2.2.2.2.2.2.2.2.2.2.2.2.2.1 mo.2.2.2.2.2.2.2.2.2.2.2.2.2.2.2.2.2) 87 [(0, .ref (am 0)), (1, .int x1), (2, .int x2), (3, .int x3), (4, .int x4_1)] [.int s0_87]) ?_ ?_
              · intro s0_87 hf
                refine V_istore (lv' := [(6, .int s0_87), (0, .ref (am 0)), (1, .int x1), (2, .int x2), (3, .int x3), (4, .int x4_1)]) C0 dX8_findNeighbours_87 (by decide) rfl rfl ?_
                refine V_iload C0 dX8_findNeighbours_89 0 rfl rfl ?_
                refine jn_elim hf (fun (J : MV → Option (MV)) => ∀ (mo_194 : MV), J mo_194 = some o → V p l e RM_X8_findNeighbours s m ([.ref (am 0)] : List Value).toArray below meth c 9 (dC, dI) A (MQ below (va_Qv (fun _ : Unit => True) (PostW (dC, dI) (TY cI cJ cZ cO) A (fun _ => (W_M cI cJ cZ cO am o.1 o.2.1 o.2.2.1 o.2.2.2.1 o.2.2.2.2.1 o.2.2.2.2.2.1 o.2.2.2.2.2.2.1 o.2.2.2.2.2.2.2.1 o.2.2.2.2.2.2.2.2.1 o.2.2.2.2.2.2.2.2.2.1 o.2.2.2.2.2.2.2.2.2.2.1 o.2.2.2.2.2.2.2.2.2.2.2.1 o.2.2.2.2.2.2.2.2.2.2.2.2.1 o.2.2.2.2.2.2.2.2.2.2.2.2.2.1 o.2.2.2.2.2.2.2.2.2.2.2.2.2.2.1 o.2.2.2.2.2.2.2.2.2.2.2.2.2.2.2.1 o.2.2.2.2.2.2.2.2.2.2.2.2.2.2.2.2.1 o.2.2.2.2.2.2.2.2.2.2.2.2.2.2.2.2.2))) A) ([.ref (am 0)] : List Value).toArray s 0 0 A) 0 0 (W_M cI cJ cZ cO am mo_194.1 mo_194.2.1 mo_194.2.2.1 mo_194.2.2.2.1 mo_194.2.2.2.2.1 mo_194.2.2.2.2.2.1 mo_194.2.2.2.2.2.2.1 mo_194.2.2.2.2.2.2.2.1 mo_194.2.2.2.2.2.2.2.2.1 mo_194.2.2.2.2.2.2.2.2.2.1 mo_194.2.2.2.2.2.2.2.2.2.2.1 mo_194.2.2.2.2.2.2.2.2.2.2.2.1 mo_194.2.2.2.2.2.2.2.2.2.2.2.2.1 mo_194.2.2.2.2.2.2.2.2.2.2.2.2.2.1 mo_194.2.2.2.2.2.2.2.2.2.2.2.2.2.2.1 mo_194.2.2.2.2.2.2.2.2.2.2.2.2.2.2.2.1 mo_194.2.2.2.2.2.2.2.2.2.2.2.2.2.2.2.2.1 mo_194.2.2.2.2.2.2.2.2.2.2.2.2.2.2.2.2.2) 194 [(0, .ref (am 0)), (1, .int x1), (2, .int x2), (3, .int x3)] []) ?_ ?_
                · intro mo_194 hf
                  refine V_iload_n C0 dX8_findNeighbours_194 3 rfl rfl ?_
                  refine V_aload_n C0 dX8_findNeighbours_195 0 rfl rfl ?_
                  refine V_get C0 fl_X8_findNeighbours_35 0 rfl rfl dX8_findNeighbours_196 rfl ?_
                  refine V_iload_n C0 dX8_findNeighbours_199 3 rfl rfl ?_
                  obtain ⟨hi200, hf⟩ := ck_inv hf
                  refine V_iald C0 9 0 rfl rfl hi200 dX8_findNeighbours_200 rfl ?_
                  refine V_iadd C0 dX8_findNeighbours_201 rfl ?_
                  refine V_topi (fun x3_3 ex3_3 => ?_)
                  have hf := bd_inv ex3_3 hf
                  refine V_istore_n (lv' := [(3, .int x3_3), (0, .ref (am 0)), (1, .int x1), (2, .int x2)]) C0 dX8_findNeighbours_202 rfl (by decide) rfl rfl ?_
                  refine V_goto (tgt := 31) C0 dX8_findNeighbours_203 (by decide) ?_
                  exact V.sub [1, 2, 3, 0] rfl (hREC x3_3 mo_194 hf)
                · intro J194 hJ194 hf
                  refine V_if_le (tgt := 194) C0 dX8_findNeighbours_91 (by decide) rfl (fun c91 => ?_) (fun c91 => ?_)
                  · have hf := ite_t c91 hf
                    exact V.sub [1, 2, 3, 4] rfl (hJ194 mo hf)
                  · have hf := ite_f c91 hf
                    refine V_aload_n C0 dX8_findNeighbours_94 1 rfl rfl ?_
                    refine V_iload C0 dX8_findNeighbours_95 0 rfl rfl ?_
                    obtain ⟨r_97, hc_97, hf⟩ := bind_inv hf
                    refine V_cVI (ws' := (W_M cI cJ cZ cO am mo.1 mo.2.1 mo.2.2.1 mo.2.2.2.1 mo.2.2.2.2.1 mo.2.2.2.2.2.1 mo.2.2.2.2.2.2.1 mo.2.2.2.2.2.2.2.1 mo.2.2.2.2.2.2.2.2.1 mo.2.2.2.2.2.2.2.2.2.1 mo.2.2.2.2.2.2.2.2.2.2.1 mo.2.2.2.2.2.2.2.2.2.2.2.1 mo.2.2.2.2.2.2.2.2.2.2.2.2.1 mo.2.2.2.2.2.2.2.2.2.2.2.2.2.1 mo.2.2.2.2.2.2.2.2.2.2.2.2.2.2.1 mo.2.2.2.2.2.2.2.2.2.2.2.2.2.2.2.1 mo.2.2.2.2.2.2.2.2.2.2.2.2.2.2.2.2.1 mo.2.2.2.2.2.2.2.2.2.2.2.2.2.2.2.2.2)) (As := [.int s0_87]) (b := am 0) (st := []) C0 (c_X8_pieceOf l dC dI cI cJ cZ cO am N mo s0_87 r_97 hc_97) rfl 1 gX8_findNeighbours_X8_pieceOf (by decide +kernel) ⟨Nat.le_of_ble_eq_true rfl, Nat.le_of_ble_eq_true rfl⟩ rfl 0 8 rfl rfl  Cut.all rfl (Nat.le_of_ble_eq_true rfl) dX8_findNeighbours_97 rfl ⟨Nat.zero_le _, Nat.zero_le _⟩ ?_
                    refine V_bipush (v := (-6)) C0 dX8_findNeighbours_100 (by decide) rfl ?_
                    refine V_icmp_ne (tgt := 194) C0 dX8_findNeighbours_102 (by decide) rfl (fun c102 => ?_) (fun c102 => ?_)
                    · have hf := ite_f c102 hf
                      exact V.sub [1, 2, 3, 4] rfl (hJ194 mo hf)
                    · have hf := ite_t c102 hf
                      refine V_aload_n C0 dX8_findNeighbours_105 1 rfl rfl ?_
                      refine V_iload_n C0 dX8_findNeighbours_106 2 rfl rfl ?_
                      refine V_iload_n C0 dX8_findNeighbours_107 4 rfl rfl ?_
                      refine V_aload_n C0 dX8_findNeighbours_108 1 rfl rfl ?_
                      refine V_get C0 fl_X8_findNeighbours_35 0 rfl rfl dX8_findNeighbours_109 rfl ?_
                      refine V_iload_n C0 dX8_findNeighbours_112 4 rfl rfl ?_
                      obtain ⟨hi113, hf⟩ := ck_inv hf
                      refine V_iald C0 9 0 rfl rfl hi113 dX8_findNeighbours_113 rfl ?_
                      obtain ⟨r_114, hc_114, hf⟩ := bind_inv hf
                      refine V_cVI (ws' := (W_M cI cJ cZ cO am mo.1 mo.2.1 mo.2.2.1 mo.2.2.2.1 mo.2.2.2.2.1 mo.2.2.2.2.2.1 mo.2.2.2.2.2.2.1 mo.2.2.2.2.2.2.2.1 mo.2.2.2.2.2.2.2.2.1 mo.2.2.2.2.2.2.2.2.2.1 mo.2.2.2.2.2.2.2.2.2.2.1 mo.2.2.2.2.2.2.2.2.2.2.2.1 mo.2.2.2.2.2.2.2.2.2.2.2.2.1 mo.2.2.2.2.2.2.2.2.2.2.2.2.2.1 mo.2.2.2.2.2.2.2.2.2.2.2.2.2.2.1 mo.2.2.2.2.2.2.2.2.2.2.2.2.2.2.2.1 mo.2.2.2.2.2.2.2.2.2.2.2.2.2.2.2.2.1 mo.2.2.2.2.2.2.2.2.2.2.2.2.2.2.2.2.2)) (As := [.int x1, .int x3, .int (mo.2.2.2.2.2.2.2.2.2.2.1 (x3.toNatClampNeg))]) (b := am 0) (st := []) C0 (c_X8_weightIn l dC dI cI cJ cZ cO am N mo x1 x3 (mo.2.2.2.2.2.2.2.2.2.2.1 (x3.toNatClampNeg)) r_114 hc_114) rfl 3 gX8_findNeighbours_X8_weightIn (by decide +kernel) ⟨Nat.le_of_ble_eq_true rfl, Nat.le_of_ble_eq_true rfl⟩ rfl 0 8 rfl rfl  Cut.all rfl (Nat.le_of_ble_eq_true rfl) dX8_findNeighbours_114 rfl ⟨Nat.zero_le _, Nat.zero_le _⟩ ?_
                      refine V_istore (lv' := [(7, .int r_114), (6, .int s0_87), (0, .ref (am 0)), (1, .int x1), (2, .int x2), (3, .int x3), (4, .int x4_1)]) C0 dX8_findNeighbours_117 (by decide) rfl rfl ?_
                      refine V_aload_n C0 dX8_findNeighbours_119 2 rfl rfl ?_
                      refine V_iload_n C0 dX8_findNeighbours_120 3 rfl rfl ?_
                      refine V_iload C0 dX8_findNeighbours_121 6 rfl rfl ?_
                      refine V_aload_n C0 dX8_findNeighbours_123 2 rfl rfl ?_
                      refine V_get C0 fl_X8_findNeighbours_35 0 rfl rfl dX8_findNeighbours_124 rfl ?_
                      refine V_iload C0 dX8_findNeighbours_127 6 rfl rfl ?_
                      obtain ⟨hi129, hf⟩ := ck_inv hf
                      refine V_iald C0 9 0 rfl rfl hi129 dX8_findNeighbours_129 rfl ?_
                      obtain ⟨r_130, hc_130, hf⟩ := bind_inv hf
                      refine V_cVI (ws' := (W_M cI cJ cZ cO am mo.1 mo.2.1 mo.2.2.1 mo.2.2.2.1 mo.2.2.2.2.1 mo.2.2.2.2.2.1 mo.2.2.2.2.2.2.1 mo.2.2.2.2.2.2.2.1 mo.2.2.2.2.2.2.2.2.1 mo.2.2.2.2.2.2.2.2.2.1 mo.2.2.2.2.2.2.2.2.2.2.1 mo.2.2.2.2.2.2.2.2.2.2.2.1 mo.2.2.2.2.2.2.2.2.2.2.2.2.1 mo.2.2.2.2.2.2.2.2.2.2.2.2.2.1 mo.2.2.2.2.2.2.2.2.2.2.2.2.2.2.1 mo.2.2.2.2.2.2.2.2.2.2.2.2.2.2.2.1 mo.2.2.2.2.2.2.2.2.2.2.2.2.2.2.2.2.1 mo.2.2.2.2.2.2.2.2.2.2.2.2.2.2.2.2.2)) (As := [.int x1, .int x4_1, .int (mo.2.2.2.2.2.2.2.2.2.2.1 (x4_1.toNatClampNeg))]) (b := am 0) (st := []) C0 (c_X8_weightIn l dC dI cI cJ cZ cO am N mo x1 x4_1 (mo.2.2.2.2.2.2.2.2.2.2.1 (x4_1.toNatClampNeg)) r_130 hc_130) rfl 3 gX8_findNeighbours_X8_weightIn (by decide +kernel) ⟨Nat.le_of_ble_eq_true rfl, Nat.le_of_ble_eq_true rfl⟩ rfl 0 8 rfl rfl  Cut.all rfl (Nat.le_of_ble_eq_true rfl) dX8_findNeighbours_130 rfl ⟨Nat.zero_le _, Nat.zero_le _⟩ ?_
                      refine V_istore (lv' := [(8, .int r_130), (7, .int r_114), (6, .int s0_87), (0, .ref (am 0)), (1, .int x1), (2, .int x2), (3, .int x3), (4, .int x4_1)]) C0 dX8_findNeighbours_133 (by decide) rfl rfl ?_
                      refine V_aload_n C0 dX8_findNeighbours_135 3 rfl rfl ?_
                      refine V_get C0 fl_X8_findNeighbours_44 0 rfl rfl dX8_findNeighbours_136 rfl ?_
                      refine V_aload_n C0 dX8_findNeighbours_139 3 rfl rfl ?_
                      refine V_get C0 fl_X8_findNeighbours_126 0 rfl rfl dX8_findNeighbours_140 rfl ?_
                      refine V_iload C0 dX8_findNeighbours_143 2 rfl rfl ?_
                      obtain ⟨hi145, hf⟩ := ck_inv hf
                      refine V_iast (ws' := (W_M cI cJ cZ cO am mo.1 mo.2.1 mo.2.2.1 mo.2.2.2.1 mo.2.2.2.2.1 mo.2.2.2.2.2.1 mo.2.2.2.2.2.2.1 mo.2.2.2.2.2.2.2.1 mo.2.2.2.2.2.2.2.2.1 mo.2.2.2.2.2.2.2.2.2.1 mo.2.2.2.2.2.2.2.2.2.2.1 mo.2.2.2.2.2.2.2.2.2.2.2.1 mo.2.2.2.2.2.2.2.2.2.2.2.2.1 (upd mo.2.2.2.2.2.2.2.2.2.2.2.2.2.1 (mo.2.2.2.2.2.2.2.2.2.2.2.2.2.2.2.2.1.toNatClampNeg) s0_87) mo.2.2.2.2.2.2.2.2.2.2.2.2.2.2.1 mo.2.2.2.2.2.2.2.2.2.2.2.2.2.2.2.1 mo.2.2.2.2.2.2.2.2.2.2.2.2.2.2.2.2.1 mo.2.2.2.2.2.2.2.2.2.2.2.2.2.2.2.2.2)) C0 12 0 rfl rfl hi145 dX8_findNeighbours_145 rfl rfl ?_
                      refine V_aload_n C0 dX8_findNeighbours_146 3 rfl rfl ?_
                      refine V_get C0 fl_X8_findNeighbours_47 0 rfl rfl dX8_findNeighbours_147 rfl ?_
                      refine V_aload_n C0 dX8_findNeighbours_150 3 rfl rfl ?_
                      refine V_get C0 fl_X8_findNeighbours_126 0 rfl rfl dX8_findNeighbours_151 rfl ?_
                      refine V_aload_n C0 dX8_findNeighbours_154 3 rfl rfl ?_
                      refine V_iload_n C0 dX8_findNeighbours_155 4 rfl rfl ?_
                      refine V_iconst (v := 1) C0 dX8_findNeighbours_156 (by decide) rfl ?_
                      obtain ⟨r_157, hc_157, hf⟩ := bind_inv hf
                      refine V_cVI (ws' := (W_M cI cJ cZ cO am mo.1 mo.2.1 mo.2.2.1 mo.2.2.2.1 mo.2.2.2.2.1 mo.2.2.2.2.2.1 mo.2.2.2.2.2.2.1 mo.2.2.2.2.2.2.2.1 mo.2.2.2.2.2.2.2.2.1 mo.2.2.2.2.2.2.2.2.2.1 mo.2.2.2.2.2.2.2.2.2.2.1 mo.2.2.2.2.2.2.2.2.2.2.2.1 mo.2.2.2.2.2.2.2.2.2.2.2.2.1 (upd mo.2.2.2.2.2.2.2.2.2.2.2.2.2.1 (mo.2.2.2.2.2.2.2.2.2.2.2.2.2.2.2.2.1.toNatClampNeg) s0_87) mo.2.2.2.2.2.2.2.2.2.2.2.2.2.2.1 mo.2.2.2.2.2.2.2.2.2.2.2.2.2.2.2.1 mo.2.2.2.2.2.2.2.2.2.2.2.2.2.2.2.2.1 mo.2.2.2.2.2.2.2.2.2.2.2.2.2.2.2.2.2)) (As := [.int x1, .int 1]) (b := am 0) (st := [.int mo.2.2.2.2.2.2.2.2.2.2.2.2.2.2.2.2.1, .ref (am 13)]) C0 (c_X8_wordPart l dC dI cI cJ cZ cO am N ((mo.1, mo.2.1, mo.2.2.1, mo.2.2.2.1, mo.2.2.2.2.1, mo.2.2.2.2.2.1, mo.2.2.2.2.2.2.1, mo.2.2.2.2.2.2.2.1, mo.2.2.2.2.2.2.2.2.1, mo.2.2.2.2.2.2.2.2.2.1, mo.2.2.2.2.2.2.2.2.2.2.1, mo.2.2.2.2.2.2.2.2.2.2.2.1, mo.2.2.2.2.2.2.2.2.2.2.2.2.1, upd mo.2.2.2.2.2.2.2.2.2.2.2.2.2.1 (mo.2.2.2.2.2.2.2.2.2.2.2.2.2.2.2.2.1.toNatClampNeg) s0_87, mo.2.2.2.2.2.2.2.2.2.2.2.2.2.2.1, mo.2.2.2.2.2.2.2.2.2.2.2.2.2.2.2.1, mo.2.2.2.2.2.2.2.2.2.2.2.2.2.2.2.2.1, mo.2.2.2.2.2.2.2.2.2.2.2.2.2.2.2.2.2)) x1 1 r_157 hc_157) rfl 2 gX8_findNeighbours_X8_wordPart (by decide +kernel) ⟨Nat.le_of_ble_eq_true rfl, Nat.le_of_ble_eq_true rfl⟩ rfl 0 8 rfl rfl  Cut.all rfl (Nat.le_of_ble_eq_true rfl) dX8_findNeighbours_157 rfl ⟨Nat.zero_le _, Nat.zero_le _⟩ ?_
                      obtain ⟨hi160, hf⟩ := ck_inv hf
                      refine V_iast (ws' := (W_M cI cJ cZ cO am mo.1 mo.2.1 mo.2.2.1 mo.2.2.2.1 mo.2.2.2.2.1 mo.2.2.2.2.2.1 mo.2.2.2.2.2.2.1 mo.2.2.2.2.2.2.2.1 mo.2.2.2.2.2.2.2.2.1 mo.2.2.2.2.2.2.2.2.2.1 mo.2.2.2.2.2.2.2.2.2.2.1 mo.2.2.2.2.2.2.2.2.2.2.2.1 mo.2.2.2.2.2.2.2.2.2.2.2.2.1 (upd mo.2.2.2.2.2.2.2.2.2.2.2.2.2.1 (mo.2.2.2.2.2.2.2.2.2.2.2.2.2.2.2.2.1.toNatClampNeg) s0_87) (upd mo.2.2.2.2.2.2.2.2.2.2.2.2.2.2.1 (mo.2.2.2.2.2.2.2.2.2.2.2.2.2.2.2.2.1.toNatClampNeg) r_157) mo.2.2.2.2.2.2.2.2.2.2.2.2.2.2.2.1 mo.2.2.2.2.2.2.2.2.2.2.2.2.2.2.2.2.1 mo.2.2.2.2.2.2.2.2.2.2.2.2.2.2.2.2.2)) C0 13 0 rfl rfl hi160 dX8_findNeighbours_160 rfl rfl ?_
                      refine V_aload_n C0 dX8_findNeighbours_161 3 rfl rfl ?_
                      refine V_get C0 fl_X8_findNeighbours_50 0 rfl rfl dX8_findNeighbours_162 rfl ?_
                      refine V_aload_n C0 dX8_findNeighbours_165 3 rfl rfl ?_
                      refine V_get C0 fl_X8_findNeighbours_126 0 rfl rfl dX8_findNeighbours_166 rfl ?_
                      refine V_iload C0 dX8_findNeighbours_169 1 rfl rfl ?_
                      refine V_iload C0 dX8_findNeighbours_171 0 rfl rfl ?_
                      refine jn_elim hf (fun (J : Int32 → Option (MV)) => ∀ (s2_183 : Int32), J s2_183 = some o → V p l e RM_X8_findNeighbours s m ([.ref (am 0)] : List Value).toArray below meth c 9 (dC, dI) A (MQ below (va_Qv (fun _ : Unit => True) (PostW (dC, dI) (TY cI cJ cZ cO) A (fun _ => (W_M cI cJ cZ cO am o.1 o.2.1 o.2.2.1 o.2.2.2.1 o.2.2.2.2.1 o.2.2.2.2.2.1 o.2.2.2.2.2.2.1 o.2.2.2.2.2.2.2.1 o.2.2.2.2.2.2.2.2.1 o.2.2.2.2.2.2.2.2.2.1 o.2.2.2.2.2.2.2.2.2.2.1 o.2.2.2.2.2.2.2.2.2.2.2.1 o.2.2.2.2.2.2.2.2.2.2.2.2.1 o.2.2.2.2.2.2.2.2.2.2.2.2.2.1 o.2.2.2.2.2.2.2.2.2.2.2.2.2.2.1 o.2.2.2.2.2.2.2.2.2.2.2.2.2.2.2.1 o.2.2.2.2.2.2.2.2.2.2.2.2.2.2.2.2.1 o.2.2.2.2.2.2.2.2.2.2.2.2.2.2.2.2.2))) A) ([.ref (am 0)] : List Value).toArray s 0 0 A) 0 0 (W_M cI cJ cZ cO am mo.1 mo.2.1 mo.2.2.1 mo.2.2.2.1 mo.2.2.2.2.1 mo.2.2.2.2.2.1 mo.2.2.2.2.2.2.1 mo.2.2.2.2.2.2.2.1 mo.2.2.2.2.2.2.2.2.1 mo.2.2.2.2.2.2.2.2.2.1 mo.2.2.2.2.2.2.2.2.2.2.1 mo.2.2.2.2.2.2.2.2.2.2.2.1 mo.2.2.2.2.2.2.2.2.2.2.2.2.1 (upd mo.2.2.2.2.2.2.2.2.2.2.2.2.2.1 (mo.2.2.2.2.2.2.2.2.2.2.2.2.2.2.2.2.1.toNatClampNeg) s0_87) (upd mo.2.2.2.2.2.2.2.2.2.2.2.2.2.2.1 (mo.2.2.2.2.2.2.2.2.2.2.2.2.2.2.2.2.1.toNatClampNeg) r_157) mo.2.2.2.2.2.2.2.2.2.2.2.2.2.2.2.1 mo.2.2.2.2.2.2.2.2.2.2.2.2.2.2.2.2.1 mo.2.2.2.2.2.2.2.2.2.2.2.2.2.2.2.2.2) 183 [(0, .ref (am 0)), (1, .int x1), (2, .int x2), (3, .int x3)] [.int s2_183, .int mo.2.2.2.2.2.2.2.2.2.2.2.2.2.2.2.2.1, .ref (am 14)]) ?_ ?_
                      · intro s2_183 hf
                        obtain ⟨hi183, hf⟩ := ck_inv hf
                        refine V_iast (ws' := (W_M cI cJ cZ cO am mo.1 mo.2.1 mo.2.2.1 mo.2.2.2.1 mo.2.2.2.2.1 mo.2.2.2.2.2.1 mo.2.2.2.2.2.2.1 mo.2.2.2.2.2.2.2.1 mo.2.2.2.2.2.2.2.2.1 mo.2.2.2.2.2.2.2.2.2.1 mo.2.2.2.2.2.2.2.2.2.2.1 mo.2.2.2.2.2.2.2.2.2.2.2.1 mo.2.2.2.2.2.2.2.2.2.2.2.2.1 (upd mo.2.2.2.2.2.2.2.2.2.2.2.2.2.1 (mo.2.2.2.2.2.2.2.2.2.2.2.2.2.2.2.2.1.toNatClampNeg) s0_87) (upd mo.2.2.2.2.2.2.2.2.2.2.2.2.2.2.1 (mo.2.2.2.2.2.2.2.2.2.2.2.2.2.2.2.2.1.toNatClampNeg) r_157) (upd mo.2.2.2.2.2.2.2.2.2.2.2.2.2.2.2.1 (mo.2.2.2.2.2.2.2.2.2.2.2.2.2.2.2.2.1.toNatClampNeg) s2_183) mo.2.2.2.2.2.2.2.2.2.2.2.2.2.2.2.2.1 mo.2.2.2.2.2.2.2.2.2.2.2.2.2.2.2.2.2)) C0 14 0 rfl rfl hi183 dX8_findNeighbours_183 rfl rfl ?_
                        refine V_aload_n C0 dX8_findNeighbours_184 0 rfl rfl ?_
                        refine V_dup C0 dX8_findNeighbours_185 rfl rfl ?_
                        refine V_get C0 fl_X8_findNeighbours_126 0 rfl rfl dX8_findNeighbours_186 rfl ?_
                        refine V_iconst (v := 1) C0 dX8_findNeighbours_189 (by decide) rfl ?_
                        refine V_iadd C0 dX8_findNeighbours_190 rfl ?_
                        refine V_put (ws' := (W_M cI cJ cZ cO am mo.1 mo.2.1 mo.2.2.1 mo.2.2.2.1 mo.2.2.2.2.1 mo.2.2.2.2.2.1 mo.2.2.2.2.2.2.1 mo.2.2.2.2.2.2.2.1 mo.2.2.2.2.2.2.2.2.1 mo.2.2.2.2.2.2.2.2.2.1 mo.2.2.2.2.2.2.2.2.2.2.1 mo.2.2.2.2.2.2.2.2.2.2.2.1 mo.2.2.2.2.2.2.2.2.2.2.2.2.1 (upd mo.2.2.2.2.2.2.2.2.2.2.2.2.2.1 (mo.2.2.2.2.2.2.2.2.2.2.2.2.2.2.2.2.1.toNatClampNeg) s0_87) (upd mo.2.2.2.2.2.2.2.2.2.2.2.2.2.2.1 (mo.2.2.2.2.2.2.2.2.2.2.2.2.2.2.2.2.1.toNatClampNeg) r_157) (upd mo.2.2.2.2.2.2.2.2.2.2.2.2.2.2.2.1 (mo.2.2.2.2.2.2.2.2.2.2.2.2.2.2.2.2.1.toNatClampNeg) s2_183) (mo.2.2.2.2.2.2.2.2.2.2.2.2.2.2.2.2.1 + 1) mo.2.2.2.2.2.2.2.2.2.2.2.2.2.2.2.2.2)) C0 fl_X8_findNeighbours_126 tyX8_ok nmX8 rfl 0 rfl rfl rfl (Nat.le_of_ble_eq_true rfl) dX8_findNeighbours_191 rfl rfl ?_
                        exact V.sub [0, 1, 2, 3] rfl (hJ194 ((mo.1, mo.2.1, mo.2.2.1, mo.2.2.2.1, mo.2.2.2.2.1, mo.2.2.2.2.2.1, mo.2.2.2.2.2.2.1, mo.2.2.2.2.2.2.2.1, mo.2.2.2.2.2.2.2.2.1, mo.2.2.2.2.2.2.2.2.2.1, mo.2.2.2.2.2.2.2.2.2.2.1, mo.2.2.2.2.2.2.2.2.2.2.2.1, mo.2.2.2.2.2.2.2.2.2.2.2.2.1, upd mo.2.2.2.2.2.2.2.2.2.2.2.2.2.1 (mo.2.2.2.2.2.2.2.2.2.2.2.2.2.2.2.2.1.toNatClampNeg) s0_87, upd mo.2.2.2.2.2.2.2.2.2.2.2.2.2.2.1 (mo.2.2.2.2.2.2.2.2.2.2.2.2.2.2.2.2.1.toNatClampNeg) r_157, upd mo.2.2.2.2.2.2.2.2.2.2.2.2.2.2.2.1 (mo.2.2.2.2.2.2.2.2.2.2.2.2.2.2.2.2.1.toNatClampNeg) s2_183, mo.2.2.2.2.2.2.2.2.2.2.2.2.2.2.2.2.1 + 1, mo.2.2.2.2.2.2.2.2.2.2.2.2.2.2.2.2.2)) hf)
                      · intro J183 hJ183 hf
                        refine V_icmp_ge (tgt := 181) C0 dX8_findNeighbours_173 (by decide) rfl (fun c173 => ?_) (fun c173 => ?_)
                        · have hf := ite_t c173 hf
                          refine V_iload C0 dX8_findNeighbours_181 0 rfl rfl ?_
                          exact V.sub [3, 4, 5, 6] rfl (hJ183 r_130 hf)
                        · have hf := ite_f c173 hf
                          refine V_iload C0 dX8_findNeighbours_176 1 rfl rfl ?_
                          refine V_goto (tgt := 183) C0 dX8_findNeighbours_178 (by decide) ?_
                          exact V.sub [3, 4, 5, 6] rfl (hJ183 r_114 hf)
              · intro J87 hJ87 hf
                refine V_icmp_le (tgt := 79) C0 dX8_findNeighbours_72 (by decide) rfl (fun c72 => ?_) (fun c72 => ?_)
                · have hf := ite_t c72 hf
                  refine V_aload_n C0 dX8_findNeighbours_79 2 rfl rfl ?_
                  refine V_iload_n C0 dX8_findNeighbours_80 3 rfl rfl ?_
                  refine V_iload_n C0 dX8_findNeighbours_81 5 rfl rfl ?_
                  refine V_iload C0 dX8_findNeighbours_82 0 rfl rfl ?_
                  obtain ⟨r_84, hc_84, hf⟩ := bind_inv hf
                  refine V_cVI (ws' := (W_M cI cJ cZ cO am mo.1 mo.2.1 mo.2.2.1 mo.2.2.2.1 mo.2.2.2.2.1 mo.2.2.2.2.2.1 mo.2.2.2.2.2.2.1 mo.2.2.2.2.2.2.2.1 mo.2.2.2.2.2.2.2.2.1 mo.2.2.2.2.2.2.2.2.2.1 mo.2.2.2.2.2.2.2.2.2.2.1 mo.2.2.2.2.2.2.2.2.2.2.2.1 mo.2.2.2.2.2.2.2.2.2.2.2.2.1 mo.2.2.2.2.2.2.2.2.2.2.2.2.2.1 mo.2.2.2.2.2.2.2.2.2.2.2.2.2.2.1 mo.2.2.2.2.2.2.2.2.2.2.2.2.2.2.2.1 mo.2.2.2.2.2.2.2.2.2.2.2.2.2.2.2.2.1 mo.2.2.2.2.2.2.2.2.2.2.2.2.2.2.2.2.2)) (As := [.int x1, .int x3, .int x5_2]) (b := am 0) (st := []) C0 (c_X8_textIn l dC dI cI cJ cZ cO am N mo x1 x3 x5_2 r_84 hc_84) rfl 3 gX8_findNeighbours_X8_textIn (by decide +kernel) ⟨Nat.le_of_ble_eq_true rfl, Nat.le_of_ble_eq_true rfl⟩ rfl 0 8 rfl rfl  Cut.all rfl (Nat.le_of_ble_eq_true rfl) dX8_findNeighbours_84 rfl ⟨Nat.zero_le _, Nat.zero_le _⟩ ?_
                  exact V.sub [2, 3, 4, 5, 1] rfl (hJ87 r_84 hf)
                · have hf := ite_f c72 hf
                  refine V_iconst (v := 0) C0 dX8_findNeighbours_75 (by decide) rfl ?_
                  refine V_goto (tgt := 87) C0 dX8_findNeighbours_76 (by decide) ?_
                  exact V.sub [2, 3, 4, 5, 1] rfl (hJ87 0 hf)
        refine V.sub [2, 3, 1, 0] rfl (hL31 x1 r_25 _ ?_ N 0 r_19 hf)
        intro mo_31 hf
        refine V_iinc (k := 1) (v := x1 + 1) (lv' := [(1, .int (x1 + 1)), (0, .ref (am 0))]) C0 dX8_findNeighbours_206 rfl rfl (by decide) rfl rfl ?_
        refine V_goto (tgt := 7) C0 dX8_findNeighbours_209 (by decide) ?_
        exact V.sub [1, 0] rfl (hREC (x1 + 1) mo_31 hf)
  refine V.sub [1, 0] rfl (hL7  _ ?_ N 0 ((mo.1, mo.2.1, mo.2.2.1, mo.2.2.2.1, mo.2.2.2.2.1, mo.2.2.2.2.2.1, mo.2.2.2.2.2.2.1, mo.2.2.2.2.2.2.2.1, mo.2.2.2.2.2.2.2.2.1, mo.2.2.2.2.2.2.2.2.2.1, mo.2.2.2.2.2.2.2.2.2.2.1, mo.2.2.2.2.2.2.2.2.2.2.2.1, mo.2.2.2.2.2.2.2.2.2.2.2.2.1, mo.2.2.2.2.2.2.2.2.2.2.2.2.2.1, mo.2.2.2.2.2.2.2.2.2.2.2.2.2.2.1, mo.2.2.2.2.2.2.2.2.2.2.2.2.2.2.2.1, 0, mo.2.2.2.2.2.2.2.2.2.2.2.2.2.2.2.2.2)) hf)
  intro mo_7 hf
  obtain rfl := some_inv hf
  exact V_vret C0 () trivial rfl dX8_findNeighbours_212
abbrev RM_X8_standsSo : Room := { frames := 0, cells := 0, slots := 0, locals := 0 }
theorem in_X8_standsSo_X8 : ∀ w ∈ u_ws RX8 TX8 18, w ∈ wsX8_standsSo := by decide +kernel
theorem fl_X8_standsSo_44 : FL RX8 wsX8_standsSo 8 44 13 RX8 TX8 18 := ⟨in_X8_standsSo_X8, rfl, by decide, by decide +kernel, rfl⟩
theorem fl_X8_standsSo_47 : FL RX8 wsX8_standsSo 8 47 14 RX8 TX8 18 := ⟨in_X8_standsSo_X8, rfl, by decide, by decide +kernel, rfl⟩
theorem fl_X8_standsSo_126 : FL RX8 wsX8_standsSo 8 126 16 RX8 TX8 18 := ⟨in_X8_standsSo_X8, rfl, by decide, by decide +kernel, rfl⟩
set_option maxRecDepth 100000 in
set_option maxHeartbeats 4000000 in
theorem c_X8_standsSo (l : Launch) (dC : Nat → ClassId) (dI : Nat → Nat → Nat) (cI cJ cZ cO : ClassId) (am : Nat → Nat) (N : Nat) (mo : MV) (x1 : Int32) (o : Int32) (hf : f_X8_standsSo N mo x1 = some o) : MetI l yX8_standsSo wsX8_standsSo RM_X8_standsSo (dC, dI) (TY cI cJ cZ cO) [.ref (am 0), .int x1] (W_M cI cJ cZ cO am mo.1 mo.2.1 mo.2.2.1 mo.2.2.2.1 mo.2.2.2.2.1 mo.2.2.2.2.2.1 mo.2.2.2.2.2.2.1 mo.2.2.2.2.2.2.2.1 mo.2.2.2.2.2.2.2.2.1 mo.2.2.2.2.2.2.2.2.2.1 mo.2.2.2.2.2.2.2.2.2.2.1 mo.2.2.2.2.2.2.2.2.2.2.2.1 mo.2.2.2.2.2.2.2.2.2.2.2.2.1 mo.2.2.2.2.2.2.2.2.2.2.2.2.2.1 mo.2.2.2.2.2.2.2.2.2.2.2.2.2.2.1 mo.2.2.2.2.2.2.2.2.2.2.2.2.2.2.2.1 mo.2.2.2.2.2.2.2.2.2.2.2.2.2.2.2.2.1 mo.2.2.2.2.2.2.2.2.2.2.2.2.2.2.2.2.2) (fun r (_ : Unit) => r = o) (fun _ => (W_M cI cJ cZ cO am mo.1 mo.2.1 mo.2.2.1 mo.2.2.2.1 mo.2.2.2.2.1 mo.2.2.2.2.2.1 mo.2.2.2.2.2.2.1 mo.2.2.2.2.2.2.2.1 mo.2.2.2.2.2.2.2.2.1 mo.2.2.2.2.2.2.2.2.2.1 mo.2.2.2.2.2.2.2.2.2.2.1 mo.2.2.2.2.2.2.2.2.2.2.2.1 mo.2.2.2.2.2.2.2.2.2.2.2.2.1 mo.2.2.2.2.2.2.2.2.2.2.2.2.2.1 mo.2.2.2.2.2.2.2.2.2.2.2.2.2.2.1 mo.2.2.2.2.2.2.2.2.2.2.2.2.2.2.2.1 mo.2.2.2.2.2.2.2.2.2.2.2.2.2.2.2.2.1 mo.2.2.2.2.2.2.2.2.2.2.2.2.2.2.2.2.2)) := by
  refine MetI.ofV (cc := cX8_standsSo) (maxL := 4) (ret := (some .int)) (own := RX8) (lv0 := [(0, .ref (am 0)), (1, .int x1)]) (by decide) rfl rfl (Nat.le_of_ble_eq_true rfl) rfl ?_
  intro p e s m below meth c A C0 _
  unfold f_X8_standsSo at hf
  refine V_iconst (v := 0) C0 dX8_standsSo_0 (by decide) rfl ?_
  refine V_istore_n (lv' := [(2, .int 0), (0, .ref (am 0)), (1, .int x1)]) C0 dX8_standsSo_1 rfl (by decide) rfl rfl ?_
  refine V_iconst (v := 0) C0 dX8_standsSo_2 (by decide) rfl ?_
  refine V_istore_n (lv' := [(3, .int 0), (2, .int 0), (0, .ref (am 0)), (1, .int x1)]) C0 dX8_standsSo_3 rfl (by decide) rfl rfl ?_
  have hL4 : ∀ (K : Int32 → Option (Int32)), (∀ (x2 : Int32), K x2 = some o → V p l e RM_X8_standsSo s m ([.ref (am 0), .int x1] : List Value).toArray below meth c 4 (dC, dI) A (MQ below (va_Qi (fun r (_ : Unit) => r = o) (PostW (dC, dI) (TY cI cJ cZ cO) A (fun _ => (W_M cI cJ cZ cO am mo.1 mo.2.1 mo.2.2.1 mo.2.2.2.1 mo.2.2.2.2.1 mo.2.2.2.2.2.1 mo.2.2.2.2.2.2.1 mo.2.2.2.2.2.2.2.1 mo.2.2.2.2.2.2.2.2.1 mo.2.2.2.2.2.2.2.2.2.1 mo.2.2.2.2.2.2.2.2.2.2.1 mo.2.2.2.2.2.2.2.2.2.2.2.1 mo.2.2.2.2.2.2.2.2.2.2.2.2.1 mo.2.2.2.2.2.2.2.2.2.2.2.2.2.1 mo.2.2.2.2.2.2.2.2.2.2.2.2.2.2.1 mo.2.2.2.2.2.2.2.2.2.2.2.2.2.2.2.1 mo.2.2.2.2.2.2.2.2.2.2.2.2.2.2.2.2.1 mo.2.2.2.2.2.2.2.2.2.2.2.2.2.2.2.2.2))) A) ([.ref (am 0), .int x1] : List Value).toArray s 0 0 A) 0 0 (W_M cI cJ cZ cO am mo.1 mo.2.1 mo.2.2.1 mo.2.2.2.1 mo.2.2.2.2.1 mo.2.2.2.2.2.1 mo.2.2.2.2.2.2.1 mo.2.2.2.2.2.2.2.1 mo.2.2.2.2.2.2.2.2.1 mo.2.2.2.2.2.2.2.2.2.1 mo.2.2.2.2.2.2.2.2.2.2.1 mo.2.2.2.2.2.2.2.2.2.2.2.1 mo.2.2.2.2.2.2.2.2.2.2.2.2.1 mo.2.2.2.2.2.2.2.2.2.2.2.2.2.1 mo.2.2.2.2.2.2.2.2.2.2.2.2.2.2.1 mo.2.2.2.2.2.2.2.2.2.2.2.2.2.2.2.1 mo.2.2.2.2.2.2.2.2.2.2.2.2.2.2.2.2.1 mo.2.2.2.2.2.2.2.2.2.2.2.2.2.2.2.2.2) 41 [(2, .int x2)] []) → ∀ (n : Nat) (x2 : Int32) (x3 : Int32), f_X8_standsSo_L4 N mo x1  K n x2 x3 = some o → V p l e RM_X8_standsSo s m ([.ref (am 0), .int x1] : List Value).toArray below meth c 4 (dC, dI) A (MQ below (va_Qi (fun r (_ : Unit) => r = o) (PostW (dC, dI) (TY cI cJ cZ cO) A (fun _ => (W_M cI cJ cZ cO am mo.1 mo.2.1 mo.2.2.1 mo.2.2.2.1 mo.2.2.2.2.1 mo.2.2.2.2.2.1 mo.2.2.2.2.2.2.1 mo.2.2.2.2.2.2.2.1 mo.2.2.2.2.2.2.2.2.1 mo.2.2.2.2.2.2.2.2.2.1 mo.2.2.2.2.2.2.2.2.2.2.1 mo.2.2.2.2.2.2.2.2.2.2.2.1 mo.2.2.2.2.2.2.2.2.2.2.2.2.1 mo.2.2.2.2.2.2.2.2.2.2.2.2.2.1 mo.2.2.2.2.2.2.2.2.2.2.2.2.2.2.1 mo.2.2.2.2.2.2.2.2.2.2.2.2.2.2.2.1 mo.2.2.2.2.2.2.2.2.2.2.2.2.2.2.2.2.1 mo.2.2.2.2.2.2.2.2.2.2.2.2.2.2.2.2.2))) A) ([.ref (am 0), .int x1] : List Value).toArray s 0 0 A) 0 0 (W_M cI cJ cZ cO am mo.1 mo.2.1 mo.2.2.1 mo.2.2.2.1 mo.2.2.2.2.1 mo.2.2.2.2.2.1 mo.2.2.2.2.2.2.1 mo.2.2.2.2.2.2.2.1 mo.2.2.2.2.2.2.2.2.1 mo.2.2.2.2.2.2.2.2.2.1 mo.2.2.2.2.2.2.2.2.2.2.1 mo.2.2.2.2.2.2.2.2.2.2.2.1 mo.2.2.2.2.2.2.2.2.2.2.2.2.1 mo.2.2.2.2.2.2.2.2.2.2.2.2.2.1 mo.2.2.2.2.2.2.2.2.2.2.2.2.2.2.1 mo.2.2.2.2.2.2.2.2.2.2.2.2.2.2.2.1 mo.2.2.2.2.2.2.2.2.2.2.2.2.2.2.2.2.1 mo.2.2.2.2.2.2.2.2.2.2.2.2.2.2.2.2.2) 4 [(0, .ref (am 0)), (1, .int x1), (2, .int x2), (3, .int x3)] [] := by
    intro  K hK n
    induction n with
    | zero => intro x2 x3 hf; cases hf
    | succ n hREC =>
      intro x2 x3 hf
      rw [f_X8_standsSo_L4] at hf
      refine V_iload_n C0 dX8_standsSo_4 3 rfl rfl ?_
      refine V_aload_n C0 dX8_standsSo_5 0 rfl rfl ?_
      refine V_get C0 fl_X8_standsSo_126 0 rfl rfl dX8_standsSo_6 rfl ?_
      refine V_icmp_ge (tgt := 41) C0 dX8_standsSo_9 (by decide) rfl (fun c9 => ?_) (fun c9 => ?_)
      · have hf := ite_t c9 hf
        exact V.sub [2] rfl (hK x2 hf)
      · have hf := ite_f c9 hf
        refine V_iload_n C0 dX8_standsSo_12 2 rfl rfl ?_
        refine V_aload_n C0 dX8_standsSo_13 0 rfl rfl ?_
        refine V_get C0 fl_X8_standsSo_44 0 rfl rfl dX8_standsSo_14 rfl ?_
        refine V_iload_n C0 dX8_standsSo_17 3 rfl rfl ?_
        obtain ⟨hi18, hf⟩ := ck_inv hf
        refine V_iald C0 12 0 rfl rfl hi18 dX8_standsSo_18 rfl ?_
        refine V_iload_n C0 dX8_standsSo_19 1 rfl rfl ?_
        refine V_icmp_ne (tgt := 32) C0 dX8_standsSo_20 (by decide) rfl (fun c20 => ?_) (fun c20 => ?_)
        · have hf := ite_f c20 hf
          refine V_iconst (v := 0) C0 dX8_standsSo_32 (by decide) rfl ?_
          refine V_iadd C0 dX8_standsSo_33 rfl ?_
          refine V_istore_n (lv' := [(2, .int (x2 + 0)), (0, .ref (am 0)), (1, .int x1), (3, .int x3)]) C0 dX8_standsSo_34 rfl (by decide) rfl rfl ?_
          refine V_iinc (k := 3) (v := x3 + 1) (lv' := [(3, .int (x3 + 1)), (2, .int (x2 + 0)), (0, .ref (am 0)), (1, .int x1)]) C0 dX8_standsSo_35 rfl rfl (by decide) rfl rfl ?_
          refine V_goto (tgt := 4) C0 dX8_standsSo_38 (by decide) ?_
          exact V.sub [2, 3, 1, 0] rfl (hREC (x2 + 0) (x3 + 1) hf)
        · have hf := ite_t c20 hf
          refine V_aload_n C0 dX8_standsSo_23 0 rfl rfl ?_
          refine V_get C0 fl_X8_standsSo_47 0 rfl rfl dX8_standsSo_24 rfl ?_
          refine V_iload_n C0 dX8_standsSo_27 3 rfl rfl ?_
          obtain ⟨hi28, hf⟩ := ck_inv hf
          refine V_iald C0 13 0 rfl rfl hi28 dX8_standsSo_28 rfl ?_
          refine V_goto (tgt := 33) C0 dX8_standsSo_29 (by decide) ?_
          refine V_iadd C0 dX8_standsSo_33 rfl ?_
          refine V_topi (fun x2_1 ex2_1 => ?_)
          have hf := bd_inv ex2_1 hf
          refine V_istore_n (lv' := [(2, .int x2_1), (0, .ref (am 0)), (1, .int x1), (3, .int x3)]) C0 dX8_standsSo_34 rfl (by decide) rfl rfl ?_
          refine V_iinc (k := 3) (v := x3 + 1) (lv' := [(3, .int (x3 + 1)), (2, .int x2_1), (0, .ref (am 0)), (1, .int x1)]) C0 dX8_standsSo_35 rfl rfl (by decide) rfl rfl ?_
          refine V_goto (tgt := 4) C0 dX8_standsSo_38 (by decide) ?_
          exact V.sub [2, 3, 1, 0] rfl (hREC x2_1 (x3 + 1) hf)
  refine V.sub [2, 3, 1, 0] rfl (hL4  _ ?_ N 0 0 hf)
  intro x2_4 hf
  refine V_iload_n C0 dX8_standsSo_41 0 rfl rfl ?_
  obtain rfl := some_inv hf
  exact V_iret C0 () rfl rfl dX8_standsSo_42
abbrev RM_X8_growsAt : Room := { frames := 6, cells := 0, slots := 0, locals := 148 }
theorem in_X8_growsAt_X8 : ∀ w ∈ u_ws RX8 TX8 18, w ∈ wsX8_growsAt := by decide +kernel
theorem fl_X8_growsAt_44 : FL RX8 wsX8_growsAt 8 44 13 RX8 TX8 18 := ⟨in_X8_growsAt_X8, rfl, by decide, by decide +kernel, rfl⟩
theorem fl_X8_growsAt_126 : FL RX8 wsX8_growsAt 8 126 16 RX8 TX8 18 := ⟨in_X8_growsAt_X8, rfl, by decide, by decide +kernel, rfl⟩
set_option maxRecDepth 100000 in
set_option maxHeartbeats 4000000 in
theorem c_X8_growsAt (l : Launch) (dC : Nat → ClassId) (dI : Nat → Nat → Nat) (cI cJ cZ cO : ClassId) (am : Nat → Nat) (N : Nat) (mo : MV) (o : Int32 × MV) (hf : f_X8_growsAt N mo = some o) : MetI l yX8_growsAt wsX8_growsAt RM_X8_growsAt (dC, dI) (TY cI cJ cZ cO) [.ref (am 0)] (W_M cI cJ cZ cO am mo.1 mo.2.1 mo.2.2.1 mo.2.2.2.1 mo.2.2.2.2.1 mo.2.2.2.2.2.1 mo.2.2.2.2.2.2.1 mo.2.2.2.2.2.2.2.1 mo.2.2.2.2.2.2.2.2.1 mo.2.2.2.2.2.2.2.2.2.1 mo.2.2.2.2.2.2.2.2.2.2.1 mo.2.2.2.2.2.2.2.2.2.2.2.1 mo.2.2.2.2.2.2.2.2.2.2.2.2.1 mo.2.2.2.2.2.2.2.2.2.2.2.2.2.1 mo.2.2.2.2.2.2.2.2.2.2.2.2.2.2.1 mo.2.2.2.2.2.2.2.2.2.2.2.2.2.2.2.1 mo.2.2.2.2.2.2.2.2.2.2.2.2.2.2.2.2.1 mo.2.2.2.2.2.2.2.2.2.2.2.2.2.2.2.2.2) (fun r (_ : Unit) => r = o.1) (fun _ => (W_M cI cJ cZ cO am o.2.1 o.2.2.1 o.2.2.2.1 o.2.2.2.2.1 o.2.2.2.2.2.1 o.2.2.2.2.2.2.1 o.2.2.2.2.2.2.2.1 o.2.2.2.2.2.2.2.2.1 o.2.2.2.2.2.2.2.2.2.1 o.2.2.2.2.2.2.2.2.2.2.1 o.2.2.2.2.2.2.2.2.2.2.2.1 o.2.2.2.2.2.2.2.2.2.2.2.2.1 o.2.2.2.2.2.2.2.2.2.2.2.2.2.1 o.2.2.2.2.2.2.2.2.2.2.2.2.2.2.1 o.2.2.2.2.2.2.2.2.2.2.2.2.2.2.2.1 o.2.2.2.2.2.2.2.2.2.2.2.2.2.2.2.2.1 o.2.2.2.2.2.2.2.2.2.2.2.2.2.2.2.2.2.1 o.2.2.2.2.2.2.2.2.2.2.2.2.2.2.2.2.2.2)) := by
  refine MetI.ofV (cc := cX8_growsAt) (maxL := 6) (ret := (some .int)) (own := RX8) (lv0 := [(0, .ref (am 0))]) (by decide) rfl rfl (Nat.le_of_ble_eq_true rfl) rfl ?_
  intro p e s m below meth c A C0 _
  unfold f_X8_growsAt at hf
  refine V_aload_n C0 dX8_growsAt_0 0 rfl rfl ?_
  obtain ⟨r_1, hc_1, hf⟩ := bind_inv hf
  refine V_cVV (ws' := (W_M cI cJ cZ cO am r_1.1 r_1.2.1 r_1.2.2.1 r_1.2.2.2.1 r_1.2.2.2.2.1 r_1.2.2.2.2.2.1 r_1.2.2.2.2.2.2.1 r_1.2.2.2.2.2.2.2.1 r_1.2.2.2.2.2.2.2.2.1 r_1.2.2.2.2.2.2.2.2.2.1 r_1.2.2.2.2.2.2.2.2.2.2.1 r_1.2.2.2.2.2.2.2.2.2.2.2.1 r_1.2.2.2.2.2.2.2.2.2.2.2.2.1 r_1.2.2.2.2.2.2.2.2.2.2.2.2.2.1 r_1.2.2.2.2.2.2.2.2.2.2.2.2.2.2.1 r_1.2.2.2.2.2.2.2.2.2.2.2.2.2.2.2.1 r_1.2.2.2.2.2.2.2.2.2.2.2.2.2.2.2.2.1 r_1.2.2.2.2.2.2.2.2.2.2.2.2.2.2.2.2.2)) (As := []) (b := am 0) (st := []) C0 (c_X8_findNeighbours l dC dI cI cJ cZ cO am N mo  r_1 hc_1) rfl 0 gX8_growsAt_X8_findNeighbours (by decide +kernel) ⟨Nat.le_of_ble_eq_true rfl, Nat.le_of_ble_eq_true rfl⟩ rfl 0 8 rfl rfl  Cut.all rfl (Nat.le_of_ble_eq_true rfl) dX8_growsAt_1 rfl ⟨Nat.zero_le _, Nat.zero_le _⟩ ?_
  refine V_bipush (v := (-6)) C0 dX8_growsAt_4 (by decide) rfl ?_
  refine V_istore_n (lv' := [(1, .int ((-6))), (0, .ref (am 0))]) C0 dX8_growsAt_6 rfl (by decide) rfl rfl ?_
  refine V_iconst (v := 0) C0 dX8_growsAt_7 (by decide) rfl ?_
  refine V_istore_n (lv' := [(2, .int 0), (1, .int ((-6))), (0, .ref (am 0))]) C0 dX8_growsAt_8 rfl (by decide) rfl rfl ?_
  refine V_iconst (v := 0) C0 dX8_growsAt_9 (by decide) rfl ?_
  refine V_istore_n (lv' := [(3, .int 0), (2, .int 0), (1, .int ((-6))), (0, .ref (am 0))]) C0 dX8_growsAt_10 rfl (by decide) rfl rfl ?_
  have hL11 : ∀ (mo : MV) (K : Int32 → Option (Int32 × MV)), (∀ (x1 : Int32), K x1 = some o → V p l e RM_X8_growsAt s m ([.ref (am 0)] : List Value).toArray below meth c 6 (dC, dI) A (MQ below (va_Qi (fun r (_ : Unit) => r = o.1) (PostW (dC, dI) (TY cI cJ cZ cO) A (fun _ => (W_M cI cJ cZ cO am o.2.1 o.2.2.1 o.2.2.2.1 o.2.2.2.2.1 o.2.2.2.2.2.1 o.2.2.2.2.2.2.1 o.2.2.2.2.2.2.2.1 o.2.2.2.2.2.2.2.2.1 o.2.2.2.2.2.2.2.2.2.1 o.2.2.2.2.2.2.2.2.2.2.1 o.2.2.2.2.2.2.2.2.2.2.2.1 o.2.2.2.2.2.2.2.2.2.2.2.2.1 o.2.2.2.2.2.2.2.2.2.2.2.2.2.1 o.2.2.2.2.2.2.2.2.2.2.2.2.2.2.1 o.2.2.2.2.2.2.2.2.2.2.2.2.2.2.2.1 o.2.2.2.2.2.2.2.2.2.2.2.2.2.2.2.2.1 o.2.2.2.2.2.2.2.2.2.2.2.2.2.2.2.2.2.1 o.2.2.2.2.2.2.2.2.2.2.2.2.2.2.2.2.2.2))) A) ([.ref (am 0)] : List Value).toArray s 0 0 A) 0 0 (W_M cI cJ cZ cO am mo.1 mo.2.1 mo.2.2.1 mo.2.2.2.1 mo.2.2.2.2.1 mo.2.2.2.2.2.1 mo.2.2.2.2.2.2.1 mo.2.2.2.2.2.2.2.1 mo.2.2.2.2.2.2.2.2.1 mo.2.2.2.2.2.2.2.2.2.1 mo.2.2.2.2.2.2.2.2.2.2.1 mo.2.2.2.2.2.2.2.2.2.2.2.1 mo.2.2.2.2.2.2.2.2.2.2.2.2.1 mo.2.2.2.2.2.2.2.2.2.2.2.2.2.1 mo.2.2.2.2.2.2.2.2.2.2.2.2.2.2.1 mo.2.2.2.2.2.2.2.2.2.2.2.2.2.2.2.1 mo.2.2.2.2.2.2.2.2.2.2.2.2.2.2.2.2.1 mo.2.2.2.2.2.2.2.2.2.2.2.2.2.2.2.2.2) 94 [(1, .int x1)] []) → ∀ (n : Nat) (x1 : Int32) (x2 : Int32) (x3 : Int32), f_X8_growsAt_L11 N  mo K n x1 x2 x3 = some o → V p l e RM_X8_growsAt s m ([.ref (am 0)] : List Value).toArray below meth c 6 (dC, dI) A (MQ below (va_Qi (fun r (_ : Unit) => r = o.1) (PostW (dC, dI) (TY cI cJ cZ cO) A (fun _ => (W_M cI cJ cZ cO am o.2.1 o.2.2.1 o.2.2.2.1 o.2.2.2.2.1 o.2.2.2.2.2.1 o.2.2.2.2.2.2.1 o.2.2.2.2.2.2.2.1 o.2.2.2.2.2.2.2.2.1 o.2.2.2.2.2.2.2.2.2.1 o.2.2.2.2.2.2.2.2.2.2.1 o.2.2.2.2.2.2.2.2.2.2.2.1 o.2.2.2.2.2.2.2.2.2.2.2.2.1 o.2.2.2.2.2.2.2.2.2.2.2.2.2.1 o.2.2.2.2.2.2.2.2.2.2.2.2.2.2.1 o.2.2.2.2.2.2.2.2.2.2.2.2.2.2.2.1 o.2.2.2.2.2.2.2.2.2.2.2.2.2.2.2.2.1 o.2.2.2.2.2.2.2.2.2.2.2.2.2.2.2.2.2.1 o.2.2.2.2.2.2.2.2.2.2.2.2.2.2.2.2.2.2))) A) ([.ref (am 0)] : List Value).toArray s 0 0 A) 0 0 (W_M cI cJ cZ cO am mo.1 mo.2.1 mo.2.2.1 mo.2.2.2.1 mo.2.2.2.2.1 mo.2.2.2.2.2.1 mo.2.2.2.2.2.2.1 mo.2.2.2.2.2.2.2.1 mo.2.2.2.2.2.2.2.2.1 mo.2.2.2.2.2.2.2.2.2.1 mo.2.2.2.2.2.2.2.2.2.2.1 mo.2.2.2.2.2.2.2.2.2.2.2.1 mo.2.2.2.2.2.2.2.2.2.2.2.2.1 mo.2.2.2.2.2.2.2.2.2.2.2.2.2.1 mo.2.2.2.2.2.2.2.2.2.2.2.2.2.2.1 mo.2.2.2.2.2.2.2.2.2.2.2.2.2.2.2.1 mo.2.2.2.2.2.2.2.2.2.2.2.2.2.2.2.2.1 mo.2.2.2.2.2.2.2.2.2.2.2.2.2.2.2.2.2) 11 [(0, .ref (am 0)), (1, .int x1), (2, .int x2), (3, .int x3)] [] := by
    intro mo K hK n
    induction n with
    | zero => intro x1 x2 x3 hf; cases hf
    | succ n hREC =>
      intro x1 x2 x3 hf
      rw [f_X8_growsAt_L11] at hf
      refine V_iload_n C0 dX8_growsAt_11 3 rfl rfl ?_
      refine V_aload_n C0 dX8_growsAt_12 0 rfl rfl ?_
      refine V_get C0 fl_X8_growsAt_126 0 rfl rfl dX8_growsAt_13 rfl ?_
      refine V_icmp_ge (tgt := 94) C0 dX8_growsAt_16 (by decide) rfl (fun c16 => ?_) (fun c16 => ?_)
      · have hf := ite_t c16 hf
        exact V.sub [1] rfl (hK x1 hf)
      · have hf := ite_f c16 hf
        refine V_aload_n C0 dX8_growsAt_19 0 rfl rfl ?_
        refine V_aload_n C0 dX8_growsAt_20 0 rfl rfl ?_
        refine V_get C0 fl_X8_growsAt_44 0 rfl rfl dX8_growsAt_21 rfl ?_
        refine V_iload_n C0 dX8_growsAt_24 3 rfl rfl ?_
        obtain ⟨hi25, hf⟩ := ck_inv hf
        refine V_iald C0 12 0 rfl rfl hi25 dX8_growsAt_25 rfl ?_
        obtain ⟨r_26, hc_26, hf⟩ := bind_inv hf
        refine V_cVI (ws' := (W_M cI cJ cZ cO am mo.1 mo.2.1 mo.2.2.1 mo.2.2.2.1 mo.2.2.2.2.1 mo.2.2.2.2.2.1 mo.2.2.2.2.2.2.1 mo.2.2.2.2.2.2.2.1 mo.2.2.2.2.2.2.2.2.1 mo.2.2.2.2.2.2.2.2.2.1 mo.2.2.2.2.2.2.2.2.2.2.1 mo.2.2.2.2.2.2.2.2.2.2.2.1 mo.2.2.2.2.2.2.2.2.2.2.2.2.1 mo.2.2.2.2.2.2.2.2.2.2.2.2.2.1 mo.2.2.2.2.2.2.2.2.2.2.2.2.2.2.1 mo.2.2.2.2.2.2.2.2.2.2.2.2.2.2.2.1 mo.2.2.2.2.2.2.2.2.2.2.2.2.2.2.2.2.1 mo.2.2.2.2.2.2.2.2.2.2.2.2.2.2.2.2.2)) (As := [.int (mo.2.2.2.2.2.2.2.2.2.2.2.2.2.1 (x3.toNatClampNeg))]) (b := am 0) (st := []) C0 (c_X8_standsSo l dC dI cI cJ cZ cO am N mo (mo.2.2.2.2.2.2.2.2.2.2.2.2.2.1 (x3.toNatClampNeg)) r_26 hc_26) rfl 1 gX8_growsAt_X8_standsSo (by decide +kernel) ⟨Nat.le_of_ble_eq_true rfl, Nat.le_of_ble_eq_true rfl⟩ rfl 0 8 rfl rfl  Cut.all rfl (Nat.le_of_ble_eq_true rfl) dX8_growsAt_26 rfl ⟨Nat.zero_le _, Nat.zero_le _⟩ ?_
        refine V_istore (lv' := [(4, .int r_26), (0, .ref (am 0)), (1, .int x1), (2, .int x2), (3, .int x3)]) C0 dX8_growsAt_29 (by decide) rfl rfl ?_
        refine V_iload C0 dX8_growsAt_31 0 rfl rfl ?_
        refine V_iload_n C0 dX8_growsAt_33 3 rfl rfl ?_
        refine jn_elim hf (fun (J : Int32 → Option (Int32 × MV)) => ∀ (s0_63 : Int32), J s0_63 = some o → V p l e RM_X8_growsAt s m ([.ref (am 0)] : List Value).toArray below meth c 6 (dC, dI) A (MQ below (va_Qi (fun r (_ : Unit) => r = o.1) (PostW (dC, dI) (TY cI cJ cZ cO) A (fun _ => (W_M cI cJ cZ cO am o.2.1 o.2.2.1 o.2.2.2.1 o.2.2.2.2.1 o.2.2.2.2.2.1 o.2.2.2.2.2.2.1 o.2.2.2.2.2.2.2.1 o.2.2.2.2.2.2.2.2.1 o.2.2.2.2.2.2.2.2.2.1 o.2.2.2.2.2.2.2.2.2.2.1 o.2.2.2.2.2.2.2.2.2.2.2.1 o.2.2.2.2.2.2.2.2.2.2.2.2.1 o.2.2.2.2.2.2.2.2.2.2.2.2.2.1 o.2.2.2.2.2.2.2.2.2.2.2.2.2.2.1 o.2.2.2.2.2.2.2.2.2.2.2.2.2.2.2.1 o.2.2.2.2.2.2.2.2.2.2.2.2.2.2.2.2.1 o.2.2.2.2.2.2.2.2.2.2.2.2.2.2.2.2.2.1 o.2.2.2.2.2.2.2.2.2.2.2.2.2.2.2.2.2.2))) A) ([.ref (am 0)] : List Value).toArray s 0 0 A) 0 0 (W_M cI cJ cZ cO am mo.1 mo.2.1 mo.2.2.1 mo.2.2.2.1 mo.2.2.2.2.1 mo.2.2.2.2.2.1 mo.2.2.2.2.2.2.1 mo.2.2.2.2.2.2.2.1 mo.2.2.2.2.2.2.2.2.1 mo.2.2.2.2.2.2.2.2.2.1 mo.2.2.2.2.2.2.2.2.2.2.1 mo.2.2.2.2.2.2.2.2.2.2.2.1 mo.2.2.2.2.2.2.2.2.2.2.2.2.1 mo.2.2.2.2.2.2.2.2.2.2.2.2.2.1 mo.2.2.2.2.2.2.2.2.2.2.2.2.2.2.1 mo.2.2.2.2.2.2.2.2.2.2.2.2.2.2.2.1 mo.2.2.2.2.2.2.2.2.2.2.2.2.2.2.2.2.1 mo.2.2.2.2.2.2.2.2.2.2.2.2.2.2.2.2.2) 63 [(0, .ref (am 0)), (1, .int x1), (2, .int x2), (3, .int x3), (4, .int r_26)] [.int s0_63]) ?_ ?_
        · intro s0_63 hf
          refine V_istore (lv' := [(5, .int s0_63), (0, .ref (am 0)), (1, .int x1), (2, .int x2), (3, .int x3), (4, .int r_26)]) C0 dX8_growsAt_63 (by decide) rfl rfl ?_
          refine V_iload C0 dX8_growsAt_65 0 rfl rfl ?_
          refine jn_elim hf (fun (J : Int32 → Option (Int32 × MV)) => ∀ (s0_75 : Int32), J s0_75 = some o → V p l e RM_X8_growsAt s m ([.ref (am 0)] : List Value).toArray below meth c 6 (dC, dI) A (MQ below (va_Qi (fun r (_ : Unit) => r = o.1) (PostW (dC, dI) (TY cI cJ cZ cO) A (fun _ => (W_M cI cJ cZ cO am o.2.1 o.2.2.1 o.2.2.2.1 o.2.2.2.2.1 o.2.2.2.2.2.1 o.2.2.2.2.2.2.1 o.2.2.2.2.2.2.2.1 o.2.2.2.2.2.2.2.2.1 o.2.2.2.2.2.2.2.2.2.1 o.2.2.2.2.2.2.2.2.2.2.1 o.2.2.2.2.2.2.2.2.2.2.2.1 o.2.2.2.2.2.2.2.2.2.2.2.2.1 o.2.2.2.2.2.2.2.2.2.2.2.2.2.1 o.2.2.2.2.2.2.2.2.2.2.2.2.2.2.1 o.2.2.2.2.2.2.2.2.2.2.2.2.2.2.2.1 o.2.2.2.2.2.2.2.2.2.2.2.2.2.2.2.2.1 o.2.2.2.2.2.2.2.2.2.2.2.2.2.2.2.2.2.1 o.2.2.2.2.2.2.2.2.2.2.2.2.2.2.2.2.2.2))) A) ([.ref (am 0)] : List Value).toArray s 0 0 A) 0 0 (W_M cI cJ cZ cO am mo.1 mo.2.1 mo.2.2.1 mo.2.2.2.1 mo.2.2.2.2.1 mo.2.2.2.2.2.1 mo.2.2.2.2.2.2.1 mo.2.2.2.2.2.2.2.1 mo.2.2.2.2.2.2.2.2.1 mo.2.2.2.2.2.2.2.2.2.1 mo.2.2.2.2.2.2.2.2.2.2.1 mo.2.2.2.2.2.2.2.2.2.2.2.1 mo.2.2.2.2.2.2.2.2.2.2.2.2.1 mo.2.2.2.2.2.2.2.2.2.2.2.2.2.1 mo.2.2.2.2.2.2.2.2.2.2.2.2.2.2.1 mo.2.2.2.2.2.2.2.2.2.2.2.2.2.2.2.1 mo.2.2.2.2.2.2.2.2.2.2.2.2.2.2.2.2.1 mo.2.2.2.2.2.2.2.2.2.2.2.2.2.2.2.2.2) 75 [(0, .ref (am 0)), (2, .int x2), (3, .int x3), (4, .int r_26), (5, .int s0_63)] [.int s0_75]) ?_ ?_
          · intro s0_75 hf
            refine V_istore_n (lv' := [(1, .int s0_75), (0, .ref (am 0)), (2, .int x2), (3, .int x3), (4, .int r_26), (5, .int s0_63)]) C0 dX8_growsAt_75 rfl (by decide) rfl rfl ?_
            refine V_iload C0 dX8_growsAt_76 5 rfl rfl ?_
            refine V_if_eq (tgt := 86) C0 dX8_growsAt_78 (by decide) rfl (fun c78 => ?_) (fun c78 => ?_)
            · have hf := ite_t c78 hf
              refine V_iload_n C0 dX8_growsAt_86 2 rfl rfl ?_
              refine V_istore_n (lv' := [(2, .int x2), (1, .int s0_75), (0, .ref (am 0)), (3, .int x3), (4, .int r_26), (5, .int s0_63)]) C0 dX8_growsAt_87 rfl (by decide) rfl rfl ?_
              refine V_iinc (k := 3) (v := x3 + 1) (lv' := [(3, .int (x3 + 1)), (2, .int x2), (1, .int s0_75), (0, .ref (am 0)), (4, .int r_26), (5, .int s0_63)]) C0 dX8_growsAt_88 rfl rfl (by decide) rfl rfl ?_
              refine V_goto (tgt := 11) C0 dX8_growsAt_91 (by decide) ?_
              exact V.sub [3, 2, 1, 0] rfl (hREC s0_75 x2 (x3 + 1) hf)
            · have hf := ite_f c78 hf
              refine V_iload C0 dX8_growsAt_81 4 rfl rfl ?_
              refine V_goto (tgt := 87) C0 dX8_growsAt_83 (by decide) ?_
              refine V_istore_n (lv' := [(2, .int r_26), (1, .int s0_75), (0, .ref (am 0)), (3, .int x3), (4, .int r_26), (5, .int s0_63)]) C0 dX8_growsAt_87 rfl (by decide) rfl rfl ?_
              refine V_iinc (k := 3) (v := x3 + 1) (lv' := [(3, .int (x3 + 1)), (2, .int r_26), (1, .int s0_75), (0, .ref (am 0)), (4, .int r_26), (5, .int s0_63)]) C0 dX8_growsAt_88 rfl rfl (by decide) rfl rfl ?_
              refine V_goto (tgt := 11) C0 dX8_growsAt_91 (by decide) ?_
              exact V.sub [3, 2, 1, 0] rfl (hREC s0_75 r_26 (x3 + 1) hf)
          · intro J75 hJ75 hf
            refine V_if_eq (tgt := 74) C0 dX8_growsAt_67 (by decide) rfl (fun c67 => ?_) (fun c67 => ?_)
            · have hf := ite_t c67 hf
              refine V_iload_n C0 dX8_growsAt_74 2 rfl rfl ?_
              exact V.sub [1, 3, 4, 5, 0] rfl (hJ75 x1 hf)
            · have hf := ite_f c67 hf
              refine V_iload_n C0 dX8_growsAt_70 4 rfl rfl ?_
              refine V_goto (tgt := 75) C0 dX8_growsAt_71 (by decide) ?_
              exact V.sub [1, 3, 4, 5, 0] rfl (hJ75 x3 hf)
        · intro J63 hJ63 hf
          refine jn_elim hf (fun (J : Unit → Option (Int32 × MV)) => ∀ (u : Unit), J u = some o → V p l e RM_X8_growsAt s m ([.ref (am 0)] : List Value).toArray below meth c 6 (dC, dI) A (MQ below (va_Qi (fun r (_ : Unit) => r = o.1) (PostW (dC, dI) (TY cI cJ cZ cO) A (fun _ => (W_M cI cJ cZ cO am o.2.1 o.2.2.1 o.2.2.2.1 o.2.2.2.2.1 o.2.2.2.2.2.1 o.2.2.2.2.2.2.1 o.2.2.2.2.2.2.2.1 o.2.2.2.2.2.2.2.2.1 o.2.2.2.2.2.2.2.2.2.1 o.2.2.2.2.2.2.2.2.2.2.1 o.2.2.2.2.2.2.2.2.2.2.2.1 o.2.2.2.2.2.2.2.2.2.2.2.2.1 o.2.2.2.2.2.2.2.2.2.2.2.2.2.1 o.2.2.2.2.2.2.2.2.2.2.2.2.2.2.1 o.2.2.2.2.2.2.2.2.2.2.2.2.2.2.2.1 o.2.2.2.2.2.2.2.2.2.2.2.2.2.2.2.2.1 o.2.2.2.2.2.2.2.2.2.2.2.2.2.2.2.2.2.1 o.2.2.2.2.2.2.2.2.2.2.2.2.2.2.2.2.2.2))) A) ([.ref (am 0)] : List Value).toArray s 0 0 A) 0 0 (W_M cI cJ cZ cO am mo.1 mo.2.1 mo.2.2.1 mo.2.2.2.1 mo.2.2.2.2.1 mo.2.2.2.2.2.1 mo.2.2.2.2.2.2.1 mo.2.2.2.2.2.2.2.1 mo.2.2.2.2.2.2.2.2.1 mo.2.2.2.2.2.2.2.2.2.1 mo.2.2.2.2.2.2.2.2.2.2.1 mo.2.2.2.2.2.2.2.2.2.2.2.1 mo.2.2.2.2.2.2.2.2.2.2.2.2.1 mo.2.2.2.2.2.2.2.2.2.2.2.2.2.1 mo.2.2.2.2.2.2.2.2.2.2.2.2.2.2.1 mo.2.2.2.2.2.2.2.2.2.2.2.2.2.2.2.1 mo.2.2.2.2.2.2.2.2.2.2.2.2.2.2.2.2.1 mo.2.2.2.2.2.2.2.2.2.2.2.2.2.2.2.2.2) 58 [(0, .ref (am 0)), (1, .int x1), (2, .int x2), (3, .int x3), (4, .int r_26)] []) ?_ ?_
          · intro u hf
            refine V_iconst (v := 1) C0 dX8_growsAt_58 (by decide) rfl ?_
            refine V_goto (tgt := 63) C0 dX8_growsAt_59 (by decide) ?_
            exact V.sub [0, 1, 2, 3, 4] rfl (hJ63 1 hf)
          · intro J58 hJ58 hf
            refine V_icmp_gt (tgt := 58) C0 dX8_growsAt_34 (by decide) rfl (fun c34 => ?_) (fun c34 => ?_)
            · have hf := ite_t c34 hf
              exact V.sub [1, 2, 3, 4, 0] rfl (hJ58 () hf)
            · have hf := ite_f c34 hf
              refine V_iload C0 dX8_growsAt_37 0 rfl rfl ?_
              refine V_iload_n C0 dX8_growsAt_39 3 rfl rfl ?_
              refine V_icmp_ne (tgt := 62) C0 dX8_growsAt_40 (by decide) rfl (fun c40 => ?_) (fun c40 => ?_)
              · have hf := ite_f c40 hf
                refine V_iconst (v := 0) C0 dX8_growsAt_62 (by decide) rfl ?_
                exact V.sub [1, 2, 3, 4, 0] rfl (hJ63 0 hf)
              · have hf := ite_t c40 hf
                refine V_aload_n C0 dX8_growsAt_43 1 rfl rfl ?_
                refine V_get C0 fl_X8_growsAt_44 0 rfl rfl dX8_growsAt_44 rfl ?_
                refine V_iload_n C0 dX8_growsAt_47 4 rfl rfl ?_
                obtain ⟨hi48, hf⟩ := ck_inv hf
                refine V_iald C0 12 0 rfl rfl hi48 dX8_growsAt_48 rfl ?_
                refine V_aload_n C0 dX8_growsAt_49 1 rfl rfl ?_
                refine V_get C0 fl_X8_growsAt_44 0 rfl rfl dX8_growsAt_50 rfl ?_
                refine V_iload_n C0 dX8_growsAt_53 2 rfl rfl ?_
                obtain ⟨hi54, hf⟩ := ck_inv hf
                refine V_iald C0 12 0 rfl rfl hi54 dX8_growsAt_54 rfl ?_
                refine V_icmp_ge (tgt := 62) C0 dX8_growsAt_55 (by decide) rfl (fun c55 => ?_) (fun c55 => ?_)
                · have hf := ite_t c55 hf
                  refine V_iconst (v := 0) C0 dX8_growsAt_62 (by decide) rfl ?_
                  exact V.sub [1, 2, 3, 4, 0] rfl (hJ63 0 hf)
                · have hf := ite_f c55 hf
                  exact V.sub [1, 2, 3, 4, 0] rfl (hJ58 () hf)
  refine V.sub [3, 2, 1, 0] rfl (hL11 r_1 _ ?_ N ((-6)) 0 0 hf)
  intro x1_11 hf
  refine V_iload_n C0 dX8_growsAt_94 0 rfl rfl ?_
  obtain rfl := some_inv hf
  exact V_iret C0 () rfl rfl dX8_growsAt_95
abbrev RM_X8_padText : Room := { frames := 1, cells := 0, slots := 0, locals := 22 }
theorem in_X8_padText_X8 : ∀ w ∈ u_ws RX8 TX8 18, w ∈ wsX8_padText := by decide +kernel
theorem fl_X8_padText_25 : FL RX8 wsX8_padText 8 25 6 RX8 TX8 18 := ⟨in_X8_padText_X8, rfl, by decide, by decide +kernel, rfl⟩
theorem fl_X8_padText_135 : FL RX8 wsX8_padText 8 135 7 RX8 TX8 18 := ⟨in_X8_padText_X8, rfl, by decide, by decide +kernel, rfl⟩
set_option maxRecDepth 100000 in
set_option maxHeartbeats 4000000 in
theorem c_X8_padText (l : Launch) (dC : Nat → ClassId) (dI : Nat → Nat → Nat) (cI cJ cZ cO : ClassId) (am : Nat → Nat) (N : Nat) (mo : MV) (x1 : Int32) (o : Int32) (hf : f_X8_padText N mo x1 = some o) : MetI l yX8_padText wsX8_padText RM_X8_padText (dC, dI) (TY cI cJ cZ cO) [.ref (am 0), .int x1] (W_M cI cJ cZ cO am mo.1 mo.2.1 mo.2.2.1 mo.2.2.2.1 mo.2.2.2.2.1 mo.2.2.2.2.2.1 mo.2.2.2.2.2.2.1 mo.2.2.2.2.2.2.2.1 mo.2.2.2.2.2.2.2.2.1 mo.2.2.2.2.2.2.2.2.2.1 mo.2.2.2.2.2.2.2.2.2.2.1 mo.2.2.2.2.2.2.2.2.2.2.2.1 mo.2.2.2.2.2.2.2.2.2.2.2.2.1 mo.2.2.2.2.2.2.2.2.2.2.2.2.2.1 mo.2.2.2.2.2.2.2.2.2.2.2.2.2.2.1 mo.2.2.2.2.2.2.2.2.2.2.2.2.2.2.2.1 mo.2.2.2.2.2.2.2.2.2.2.2.2.2.2.2.2.1 mo.2.2.2.2.2.2.2.2.2.2.2.2.2.2.2.2.2) (fun r (_ : Unit) => r = o) (fun _ => (W_M cI cJ cZ cO am mo.1 mo.2.1 mo.2.2.1 mo.2.2.2.1 mo.2.2.2.2.1 mo.2.2.2.2.2.1 mo.2.2.2.2.2.2.1 mo.2.2.2.2.2.2.2.1 mo.2.2.2.2.2.2.2.2.1 mo.2.2.2.2.2.2.2.2.2.1 mo.2.2.2.2.2.2.2.2.2.2.1 mo.2.2.2.2.2.2.2.2.2.2.2.1 mo.2.2.2.2.2.2.2.2.2.2.2.2.1 mo.2.2.2.2.2.2.2.2.2.2.2.2.2.1 mo.2.2.2.2.2.2.2.2.2.2.2.2.2.2.1 mo.2.2.2.2.2.2.2.2.2.2.2.2.2.2.2.1 mo.2.2.2.2.2.2.2.2.2.2.2.2.2.2.2.2.1 mo.2.2.2.2.2.2.2.2.2.2.2.2.2.2.2.2.2)) := by
  refine MetI.ofV (cc := cX8_padText) (maxL := 5) (ret := (some .int)) (own := RX8) (lv0 := [(0, .ref (am 0)), (1, .int x1)]) (by decide) rfl rfl (Nat.le_of_ble_eq_true rfl) rfl ?_
  intro p e s m below meth c A C0 _
  unfold f_X8_padText at hf
  refine V_iconst (v := 0) C0 dX8_padText_0 (by decide) rfl ?_
  refine V_istore_n (lv' := [(2, .int 0), (0, .ref (am 0)), (1, .int x1)]) C0 dX8_padText_1 rfl (by decide) rfl rfl ?_
  refine V_aload_n C0 dX8_padText_2 1 rfl rfl ?_
  refine V_get C0 fl_X8_padText_135 0 rfl rfl dX8_padText_3 rfl ?_
  refine V_iconst (v := 1) C0 dX8_padText_6 (by decide) rfl ?_
  refine V_iload_n C0 dX8_padText_7 2 rfl rfl ?_
  obtain ⟨r_8, hc_8, hf⟩ := bind_inv hf
  refine V_cSI (ws' := (W_M cI cJ cZ cO am mo.1 mo.2.1 mo.2.2.1 mo.2.2.2.1 mo.2.2.2.2.1 mo.2.2.2.2.2.1 mo.2.2.2.2.2.2.1 mo.2.2.2.2.2.2.2.1 mo.2.2.2.2.2.2.2.2.1 mo.2.2.2.2.2.2.2.2.2.1 mo.2.2.2.2.2.2.2.2.2.2.1 mo.2.2.2.2.2.2.2.2.2.2.2.1 mo.2.2.2.2.2.2.2.2.2.2.2.2.1 mo.2.2.2.2.2.2.2.2.2.2.2.2.2.1 mo.2.2.2.2.2.2.2.2.2.2.2.2.2.2.1 mo.2.2.2.2.2.2.2.2.2.2.2.2.2.2.2.1 mo.2.2.2.2.2.2.2.2.2.2.2.2.2.2.2.2.1 mo.2.2.2.2.2.2.2.2.2.2.2.2.2.2.2.2.2)) (As := [.int mo.2.2.2.2.2.2.2.1, .int 1, .int x1]) (st := []) C0 (c_X8_within l dC dI cI cJ cZ cO  N  mo.2.2.2.2.2.2.2.1 1 x1 r_8 hc_8) rfl 3 gX8_padText_X8_within (by decide +kernel) ⟨Nat.le_of_ble_eq_true rfl, Nat.le_of_ble_eq_true rfl⟩ rfl  ⟨_, pr1, fun _ => pr1⟩ rfl (Nat.le_of_ble_eq_true rfl) dX8_padText_8 rfl ⟨Nat.zero_le _, Nat.zero_le _⟩ ?_
  refine V_istore_n (lv' := [(3, .int r_8), (2, .int 0), (0, .ref (am 0)), (1, .int x1)]) C0 dX8_padText_11 rfl (by decide) rfl rfl ?_
  refine V_iconst (v := 0) C0 dX8_padText_12 (by decide) rfl ?_
  refine V_istore (lv' := [(4, .int 0), (3, .int r_8), (2, .int 0), (0, .ref (am 0)), (1, .int x1)]) C0 dX8_padText_13 (by decide) rfl rfl ?_
  have hL15 : ∀ (K : Int32 → Int32 → Option (Int32)), (∀ (x2 : Int32) (x3 : Int32), K x2 x3 = some o → V p l e RM_X8_padText s m ([.ref (am 0), .int x1] : List Value).toArray below meth c 5 (dC, dI) A (MQ below (va_Qi (fun r (_ : Unit) => r = o) (PostW (dC, dI) (TY cI cJ cZ cO) A (fun _ => (W_M cI cJ cZ cO am mo.1 mo.2.1 mo.2.2.1 mo.2.2.2.1 mo.2.2.2.2.1 mo.2.2.2.2.2.1 mo.2.2.2.2.2.2.1 mo.2.2.2.2.2.2.2.1 mo.2.2.2.2.2.2.2.2.1 mo.2.2.2.2.2.2.2.2.2.1 mo.2.2.2.2.2.2.2.2.2.2.1 mo.2.2.2.2.2.2.2.2.2.2.2.1 mo.2.2.2.2.2.2.2.2.2.2.2.2.1 mo.2.2.2.2.2.2.2.2.2.2.2.2.2.1 mo.2.2.2.2.2.2.2.2.2.2.2.2.2.2.1 mo.2.2.2.2.2.2.2.2.2.2.2.2.2.2.2.1 mo.2.2.2.2.2.2.2.2.2.2.2.2.2.2.2.2.1 mo.2.2.2.2.2.2.2.2.2.2.2.2.2.2.2.2.2))) A) ([.ref (am 0), .int x1] : List Value).toArray s 0 0 A) 0 0 (W_M cI cJ cZ cO am mo.1 mo.2.1 mo.2.2.1 mo.2.2.2.1 mo.2.2.2.2.1 mo.2.2.2.2.2.1 mo.2.2.2.2.2.2.1 mo.2.2.2.2.2.2.2.1 mo.2.2.2.2.2.2.2.2.1 mo.2.2.2.2.2.2.2.2.2.1 mo.2.2.2.2.2.2.2.2.2.2.1 mo.2.2.2.2.2.2.2.2.2.2.2.1 mo.2.2.2.2.2.2.2.2.2.2.2.2.1 mo.2.2.2.2.2.2.2.2.2.2.2.2.2.1 mo.2.2.2.2.2.2.2.2.2.2.2.2.2.2.1 mo.2.2.2.2.2.2.2.2.2.2.2.2.2.2.2.1 mo.2.2.2.2.2.2.2.2.2.2.2.2.2.2.2.2.1 mo.2.2.2.2.2.2.2.2.2.2.2.2.2.2.2.2.2) 85 [(2, .int x2), (3, .int x3)] []) → ∀ (n : Nat) (x2 : Int32) (x3 : Int32) (x4 : Int32), f_X8_padText_L15 N mo x1  K n x2 x3 x4 = some o → V p l e RM_X8_padText s m ([.ref (am 0), .int x1] : List Value).toArray below meth c 5 (dC, dI) A (MQ below (va_Qi (fun r (_ : Unit) => r = o) (PostW (dC, dI) (TY cI cJ cZ cO) A (fun _ => (W_M cI cJ cZ cO am mo.1 mo.2.1 mo.2.2.1 mo.2.2.2.1 mo.2.2.2.2.1 mo.2.2.2.2.2.1 mo.2.2.2.2.2.2.1 mo.2.2.2.2.2.2.2.1 mo.2.2.2.2.2.2.2.2.1 mo.2.2.2.2.2.2.2.2.2.1 mo.2.2.2.2.2.2.2.2.2.2.1 mo.2.2.2.2.2.2.2.2.2.2.2.1 mo.2.2.2.2.2.2.2.2.2.2.2.2.1 mo.2.2.2.2.2.2.2.2.2.2.2.2.2.1 mo.2.2.2.2.2.2.2.2.2.2.2.2.2.2.1 mo.2.2.2.2.2.2.2.2.2.2.2.2.2.2.2.1 mo.2.2.2.2.2.2.2.2.2.2.2.2.2.2.2.2.1 mo.2.2.2.2.2.2.2.2.2.2.2.2.2.2.2.2.2))) A) ([.ref (am 0), .int x1] : List Value).toArray s 0 0 A) 0 0 (W_M cI cJ cZ cO am mo.1 mo.2.1 mo.2.2.1 mo.2.2.2.1 mo.2.2.2.2.1 mo.2.2.2.2.2.1 mo.2.2.2.2.2.2.1 mo.2.2.2.2.2.2.2.1 mo.2.2.2.2.2.2.2.2.1 mo.2.2.2.2.2.2.2.2.2.1 mo.2.2.2.2.2.2.2.2.2.2.1 mo.2.2.2.2.2.2.2.2.2.2.2.1 mo.2.2.2.2.2.2.2.2.2.2.2.2.1 mo.2.2.2.2.2.2.2.2.2.2.2.2.2.1 mo.2.2.2.2.2.2.2.2.2.2.2.2.2.2.1 mo.2.2.2.2.2.2.2.2.2.2.2.2.2.2.2.1 mo.2.2.2.2.2.2.2.2.2.2.2.2.2.2.2.2.1 mo.2.2.2.2.2.2.2.2.2.2.2.2.2.2.2.2.2) 15 [(0, .ref (am 0)), (2, .int x2), (3, .int x3), (4, .int x4)] [] := by
    intro  K hK n
    induction n with
    | zero => intro x2 x3 x4 hf; cases hf
    | succ n hREC =>
      intro x2 x3 x4 hf
      rw [f_X8_padText_L15] at hf
      refine V_iload C0 dX8_padText_15 3 rfl rfl ?_
      refine V_aload_n C0 dX8_padText_17 0 rfl rfl ?_
      refine V_get C0 fl_X8_padText_135 0 rfl rfl dX8_padText_18 rfl ?_
      refine V_icmp_ge (tgt := 85) C0 dX8_padText_21 (by decide) rfl (fun c21 => ?_) (fun c21 => ?_)
      · have hf := ite_t c21 hf
        exact V.sub [1, 2] rfl (hK x2 x3 hf)
      · have hf := ite_f c21 hf
        refine V_iload_n C0 dX8_padText_24 2 rfl rfl ?_
        refine jn_elim hf (fun (J : Int32 → Option (Int32)) => ∀ (s0_50 : Int32), J s0_50 = some o → V p l e RM_X8_padText s m ([.ref (am 0), .int x1] : List Value).toArray below meth c 5 (dC, dI) A (MQ below (va_Qi (fun r (_ : Unit) => r = o) (PostW (dC, dI) (TY cI cJ cZ cO) A (fun _ => (W_M cI cJ cZ cO am mo.1 mo.2.1 mo.2.2.1 mo.2.2.2.1 mo.2.2.2.2.1 mo.2.2.2.2.2.1 mo.2.2.2.2.2.2.1 mo.2.2.2.2.2.2.2.1 mo.2.2.2.2.2.2.2.2.1 mo.2.2.2.2.2.2.2.2.2.1 mo.2.2.2.2.2.2.2.2.2.2.1 mo.2.2.2.2.2.2.2.2.2.2.2.1 mo.2.2.2.2.2.2.2.2.2.2.2.2.1 mo.2.2.2.2.2.2.2.2.2.2.2.2.2.1 mo.2.2.2.2.2.2.2.2.2.2.2.2.2.2.1 mo.2.2.2.2.2.2.2.2.2.2.2.2.2.2.2.1 mo.2.2.2.2.2.2.2.2.2.2.2.2.2.2.2.2.1 mo.2.2.2.2.2.2.2.2.2.2.2.2.2.2.2.2.2))) A) ([.ref (am 0), .int x1] : List Value).toArray s 0 0 A) 0 0 (W_M cI cJ cZ cO am mo.1 mo.2.1 mo.2.2.1 mo.2.2.2.1 mo.2.2.2.2.1 mo.2.2.2.2.2.1 mo.2.2.2.2.2.2.1 mo.2.2.2.2.2.2.2.1 mo.2.2.2.2.2.2.2.2.1 mo.2.2.2.2.2.2.2.2.2.1 mo.2.2.2.2.2.2.2.2.2.2.1 mo.2.2.2.2.2.2.2.2.2.2.2.1 mo.2.2.2.2.2.2.2.2.2.2.2.2.1 mo.2.2.2.2.2.2.2.2.2.2.2.2.2.1 mo.2.2.2.2.2.2.2.2.2.2.2.2.2.2.1 mo.2.2.2.2.2.2.2.2.2.2.2.2.2.2.2.1 mo.2.2.2.2.2.2.2.2.2.2.2.2.2.2.2.2.1 mo.2.2.2.2.2.2.2.2.2.2.2.2.2.2.2.2.2) 50 [(0, .ref (am 0)), (2, .int x2), (4, .int x4)] [.int s0_50]) ?_ ?_
        · intro s0_50 hf
          refine V_istore_n (lv' := [(3, .int s0_50), (0, .ref (am 0)), (2, .int x2), (4, .int x4)]) C0 dX8_padText_50 rfl (by decide) rfl rfl ?_
          refine V_iload C0 dX8_padText_51 3 rfl rfl ?_
          refine V_iconst (v := 4) C0 dX8_padText_53 (by decide) rfl ?_
          refine V_icmp_ge (tgt := 77) C0 dX8_padText_54 (by decide) rfl (fun c54 => ?_) (fun c54 => ?_)
          · have hf := ite_t c54 hf
            refine V_iload_n C0 dX8_padText_77 2 rfl rfl ?_
            refine V_istore_n (lv' := [(2, .int x2), (3, .int s0_50), (0, .ref (am 0)), (4, .int x4)]) C0 dX8_padText_78 rfl (by decide) rfl rfl ?_
            refine V_iinc (k := 3) (v := x4 + 1) (lv' := [(4, .int (x4 + 1)), (2, .int x2), (3, .int s0_50), (0, .ref (am 0))]) C0 dX8_padText_79 rfl rfl (by decide) rfl rfl ?_
            refine V_goto (tgt := 15) C0 dX8_padText_82 (by decide) ?_
            exact V.sub [3, 1, 2, 0] rfl (hREC x2 s0_50 (x4 + 1) hf)
          · have hf := ite_f c54 hf
            refine V_bipush (v := 7) C0 dX8_padText_57 (by decide) rfl ?_
            refine V_iload_n C0 dX8_padText_59 2 rfl rfl ?_
            refine V_imul C0 dX8_padText_60 rfl ?_
            refine V_aload_n C0 dX8_padText_61 1 rfl rfl ?_
            refine V_get C0 fl_X8_padText_25 0 rfl rfl dX8_padText_62 rfl ?_
            refine V_iload C0 dX8_padText_65 3 rfl rfl ?_
            obtain ⟨hi67, hf⟩ := ck_inv hf
            refine V_iald C0 6 0 rfl rfl hi67 dX8_padText_67 rfl ?_
            refine V_iadd C0 dX8_padText_68 rfl ?_
            refine V_bipush (v := 97) C0 dX8_padText_69 (by decide) rfl ?_
            refine V_isub C0 dX8_padText_71 rfl ?_
            refine V_iconst (v := 1) C0 dX8_padText_72 (by decide) rfl ?_
            refine V_iadd C0 dX8_padText_73 rfl ?_
            refine V_goto (tgt := 78) C0 dX8_padText_74 (by decide) ?_
            refine V_topi (fun x2_1 ex2_1 => ?_)
            have hf := bd_inv ex2_1 hf
            refine V_istore_n (lv' := [(2, .int x2_1), (3, .int s0_50), (0, .ref (am 0)), (4, .int x4)]) C0 dX8_padText_78 rfl (by decide) rfl rfl ?_
            refine V_iinc (k := 3) (v := x4 + 1) (lv' := [(4, .int (x4 + 1)), (2, .int x2_1), (3, .int s0_50), (0, .ref (am 0))]) C0 dX8_padText_79 rfl rfl (by decide) rfl rfl ?_
            refine V_goto (tgt := 15) C0 dX8_padText_82 (by decide) ?_
            exact V.sub [3, 1, 2, 0] rfl (hREC x2_1 s0_50 (x4 + 1) hf)
        · intro J50 hJ50 hf
          refine jn_elim hf (fun (J : Unit → Option (Int32)) => ∀ (u : Unit), J u = some o → V p l e RM_X8_padText s m ([.ref (am 0), .int x1] : List Value).toArray below meth c 5 (dC, dI) A (MQ below (va_Qi (fun r (_ : Unit) => r = o) (PostW (dC, dI) (TY cI cJ cZ cO) A (fun _ => (W_M cI cJ cZ cO am mo.1 mo.2.1 mo.2.2.1 mo.2.2.2.1 mo.2.2.2.2.1 mo.2.2.2.2.2.1 mo.2.2.2.2.2.2.1 mo.2.2.2.2.2.2.2.1 mo.2.2.2.2.2.2.2.2.1 mo.2.2.2.2.2.2.2.2.2.1 mo.2.2.2.2.2.2.2.2.2.2.1 mo.2.2.2.2.2.2.2.2.2.2.2.1 mo.2.2.2.2.2.2.2.2.2.2.2.2.1 mo.2.2.2.2.2.2.2.2.2.2.2.2.2.1 mo.2.2.2.2.2.2.2.2.2.2.2.2.2.2.1 mo.2.2.2.2.2.2.2.2.2.2.2.2.2.2.2.1 mo.2.2.2.2.2.2.2.2.2.2.2.2.2.2.2.2.1 mo.2.2.2.2.2.2.2.2.2.2.2.2.2.2.2.2.2))) A) ([.ref (am 0), .int x1] : List Value).toArray s 0 0 A) 0 0 (W_M cI cJ cZ cO am mo.1 mo.2.1 mo.2.2.1 mo.2.2.2.1 mo.2.2.2.2.1 mo.2.2.2.2.2.1 mo.2.2.2.2.2.2.1 mo.2.2.2.2.2.2.2.1 mo.2.2.2.2.2.2.2.2.1 mo.2.2.2.2.2.2.2.2.2.1 mo.2.2.2.2.2.2.2.2.2.2.1 mo.2.2.2.2.2.2.2.2.2.2.2.1 mo.2.2.2.2.2.2.2.2.2.2.2.2.1 mo.2.2.2.2.2.2.2.2.2.2.2.2.2.1 mo.2.2.2.2.2.2.2.2.2.2.2.2.2.2.1 mo.2.2.2.2.2.2.2.2.2.2.2.2.2.2.2.1 mo.2.2.2.2.2.2.2.2.2.2.2.2.2.2.2.2.1 mo.2.2.2.2.2.2.2.2.2.2.2.2.2.2.2.2.2) 49 [(0, .ref (am 0)), (2, .int x2), (4, .int x4)] []) ?_ ?_
          · intro u hf
            refine V_iconst (v := 0) C0 dX8_padText_49 (by decide) rfl ?_
            exact V.sub [0, 1, 2] rfl (hJ50 0 hf)
          · intro J49 hJ49 hf
            refine V_if_eq (tgt := 49) C0 dX8_padText_25 (by decide) rfl (fun c25 => ?_) (fun c25 => ?_)
            · have hf := ite_t c25 hf
              exact V.sub [0, 1, 3] rfl (hJ49 () hf)
            · have hf := ite_f c25 hf
              refine V_aload_n C0 dX8_padText_28 0 rfl rfl ?_
              refine V_get C0 fl_X8_padText_25 0 rfl rfl dX8_padText_29 rfl ?_
              refine V_iload C0 dX8_padText_32 3 rfl rfl ?_
              obtain ⟨hi34, hf⟩ := ck_inv hf
              refine V_iald C0 6 0 rfl rfl hi34 dX8_padText_34 rfl ?_
              refine V_bipush (v := 97) C0 dX8_padText_35 (by decide) rfl ?_
              refine V_bipush (v := 102) C0 dX8_padText_37 (by decide) rfl ?_
              obtain ⟨r_39, hc_39, hf⟩ := bind_inv hf
              refine V_cSI (ws' := (W_M cI cJ cZ cO am mo.1 mo.2.1 mo.2.2.1 mo.2.2.2.1 mo.2.2.2.2.1 mo.2.2.2.2.2.1 mo.2.2.2.2.2.2.1 mo.2.2.2.2.2.2.2.1 mo.2.2.2.2.2.2.2.2.1 mo.2.2.2.2.2.2.2.2.2.1 mo.2.2.2.2.2.2.2.2.2.2.1 mo.2.2.2.2.2.2.2.2.2.2.2.1 mo.2.2.2.2.2.2.2.2.2.2.2.2.1 mo.2.2.2.2.2.2.2.2.2.2.2.2.2.1 mo.2.2.2.2.2.2.2.2.2.2.2.2.2.2.1 mo.2.2.2.2.2.2.2.2.2.2.2.2.2.2.2.1 mo.2.2.2.2.2.2.2.2.2.2.2.2.2.2.2.2.1 mo.2.2.2.2.2.2.2.2.2.2.2.2.2.2.2.2.2)) (As := [.int (mo.2.2.2.2.2.2.1 (x4.toNatClampNeg)), .int 97, .int 102]) (st := []) C0 (c_X8_within l dC dI cI cJ cZ cO  N  (mo.2.2.2.2.2.2.1 (x4.toNatClampNeg)) 97 102 r_39 hc_39) rfl 3 gX8_padText_X8_within (by decide +kernel) ⟨Nat.le_of_ble_eq_true rfl, Nat.le_of_ble_eq_true rfl⟩ rfl  ⟨_, pr1, fun _ => pr1⟩ rfl (Nat.le_of_ble_eq_true rfl) dX8_padText_39 rfl ⟨Nat.zero_le _, Nat.zero_le _⟩ ?_
              refine V_if_eq (tgt := 49) C0 dX8_padText_42 (by decide) rfl (fun c42 => ?_) (fun c42 => ?_)
              · have hf := ite_t c42 hf
                exact V.sub [0, 1, 3] rfl (hJ49 () hf)
              · have hf := ite_f c42 hf
                refine V_iconst (v := 1) C0 dX8_padText_45 (by decide) rfl ?_
                refine V_goto (tgt := 50) C0 dX8_padText_46 (by decide) ?_
                exact V.sub [0, 1, 3] rfl (hJ50 1 hf)
  refine V.sub [3, 2, 1, 0] rfl (hL15  _ ?_ N 0 r_8 0 hf)
  intro x2_15 x3_15 hf
  refine V_iload_n C0 dX8_padText_85 1 rfl rfl ?_
  refine V_if_eq (tgt := 93) C0 dX8_padText_86 (by decide) rfl (fun c86 => ?_) (fun c86 => ?_)
  · have hf := ite_t c86 hf
    refine V_iconst (v := 0) C0 dX8_padText_93 (by decide) rfl ?_
    obtain rfl := some_inv hf
    exact V_iret C0 () rfl rfl dX8_padText_94
  · have hf := ite_f c86 hf
    refine V_iload_n C0 dX8_padText_89 0 rfl rfl ?_
    refine V_goto (tgt := 94) C0 dX8_padText_90 (by decide) ?_
    obtain rfl := some_inv hf
    exact V_iret C0 () rfl rfl dX8_padText_94
abbrev RM_X8_whyNoPiece : Room := { frames := 3, cells := 0, slots := 0, locals := 68 }
theorem in_X8_whyNoPiece_X8 : ∀ w ∈ u_ws RX8 TX8 18, w ∈ wsX8_whyNoPiece := by decide +kernel
theorem fl_X8_whyNoPiece_7 : FL RX8 wsX8_whyNoPiece 8 7 0 RX8 TX8 18 := ⟨in_X8_whyNoPiece_X8, rfl, by decide, by decide +kernel, rfl⟩
set_option maxRecDepth 100000 in
set_option maxHeartbeats 4000000 in
theorem c_X8_whyNoPiece (l : Launch) (dC : Nat → ClassId) (dI : Nat → Nat → Nat) (cI cJ cZ cO : ClassId) (am : Nat → Nat) (N : Nat) (mo : MV) (x1 : Int32) (o : Int32) (hf : f_X8_whyNoPiece N mo x1 = some o) : MetI l yX8_whyNoPiece wsX8_whyNoPiece RM_X8_whyNoPiece (dC, dI) (TY cI cJ cZ cO) [.ref (am 0), .int x1] (W_M cI cJ cZ cO am mo.1 mo.2.1 mo.2.2.1 mo.2.2.2.1 mo.2.2.2.2.1 mo.2.2.2.2.2.1 mo.2.2.2.2.2.2.1 mo.2.2.2.2.2.2.2.1 mo.2.2.2.2.2.2.2.2.1 mo.2.2.2.2.2.2.2.2.2.1 mo.2.2.2.2.2.2.2.2.2.2.1 mo.2.2.2.2.2.2.2.2.2.2.2.1 mo.2.2.2.2.2.2.2.2.2.2.2.2.1 mo.2.2.2.2.2.2.2.2.2.2.2.2.2.1 mo.2.2.2.2.2.2.2.2.2.2.2.2.2.2.1 mo.2.2.2.2.2.2.2.2.2.2.2.2.2.2.2.1 mo.2.2.2.2.2.2.2.2.2.2.2.2.2.2.2.2.1 mo.2.2.2.2.2.2.2.2.2.2.2.2.2.2.2.2.2) (fun r (_ : Unit) => r = o) (fun _ => (W_M cI cJ cZ cO am mo.1 mo.2.1 mo.2.2.1 mo.2.2.2.1 mo.2.2.2.2.1 mo.2.2.2.2.2.1 mo.2.2.2.2.2.2.1 mo.2.2.2.2.2.2.2.1 mo.2.2.2.2.2.2.2.2.1 mo.2.2.2.2.2.2.2.2.2.1 mo.2.2.2.2.2.2.2.2.2.2.1 mo.2.2.2.2.2.2.2.2.2.2.2.1 mo.2.2.2.2.2.2.2.2.2.2.2.2.1 mo.2.2.2.2.2.2.2.2.2.2.2.2.2.1 mo.2.2.2.2.2.2.2.2.2.2.2.2.2.2.1 mo.2.2.2.2.2.2.2.2.2.2.2.2.2.2.2.1 mo.2.2.2.2.2.2.2.2.2.2.2.2.2.2.2.2.1 mo.2.2.2.2.2.2.2.2.2.2.2.2.2.2.2.2.2)) := by
  refine MetI.ofV (cc := cX8_whyNoPiece) (maxL := 3) (ret := (some .int)) (own := RX8) (lv0 := [(0, .ref (am 0)), (1, .int x1)]) (by decide) rfl rfl (Nat.le_of_ble_eq_true rfl) rfl ?_
  intro p e s m below meth c A C0 _
  unfold f_X8_whyNoPiece at hf
  refine V_aload_n C0 dX8_whyNoPiece_0 0 rfl rfl ?_
  refine V_iconst (v := 4) C0 dX8_whyNoPiece_1 (by decide) rfl ?_
  obtain ⟨r_2, hc_2, hf⟩ := bind_inv hf
  refine V_cVI (ws' := (W_M cI cJ cZ cO am mo.1 mo.2.1 mo.2.2.1 mo.2.2.2.1 mo.2.2.2.2.1 mo.2.2.2.2.2.1 mo.2.2.2.2.2.2.1 mo.2.2.2.2.2.2.2.1 mo.2.2.2.2.2.2.2.2.1 mo.2.2.2.2.2.2.2.2.2.1 mo.2.2.2.2.2.2.2.2.2.2.1 mo.2.2.2.2.2.2.2.2.2.2.2.1 mo.2.2.2.2.2.2.2.2.2.2.2.2.1 mo.2.2.2.2.2.2.2.2.2.2.2.2.2.1 mo.2.2.2.2.2.2.2.2.2.2.2.2.2.2.1 mo.2.2.2.2.2.2.2.2.2.2.2.2.2.2.2.1 mo.2.2.2.2.2.2.2.2.2.2.2.2.2.2.2.2.1 mo.2.2.2.2.2.2.2.2.2.2.2.2.2.2.2.2.2)) (As := [.int 4]) (b := am 0) (st := []) C0 (c_X8_padText l dC dI cI cJ cZ cO am N mo 4 r_2 hc_2) rfl 1 gX8_whyNoPiece_X8_padText (by decide +kernel) ⟨Nat.le_of_ble_eq_true rfl, Nat.le_of_ble_eq_true rfl⟩ rfl 0 8 rfl rfl  Cut.all rfl (Nat.le_of_ble_eq_true rfl) dX8_whyNoPiece_2 rfl ⟨Nat.zero_le _, Nat.zero_le _⟩ ?_
  refine V_istore_n (lv' := [(2, .int r_2), (0, .ref (am 0)), (1, .int x1)]) C0 dX8_whyNoPiece_5 rfl (by decide) rfl rfl ?_
  refine V_iload_n C0 dX8_whyNoPiece_6 0 rfl rfl ?_
  refine V_if_ne (tgt := 13) C0 dX8_whyNoPiece_7 (by decide) rfl (fun c7 => ?_) (fun c7 => ?_)
  · have hf := ite_f c7 hf
    refine V_iload_n C0 dX8_whyNoPiece_13 2 rfl rfl ?_
    refine V_iconst (v := 1) C0 dX8_whyNoPiece_14 (by decide) rfl ?_
    refine V_bipush (v := 9) C0 dX8_whyNoPiece_15 (by decide) rfl ?_
    obtain ⟨r_17, hc_17, hf⟩ := bind_inv hf
    refine V_cSI (ws' := (W_M cI cJ cZ cO am mo.1 mo.2.1 mo.2.2.1 mo.2.2.2.1 mo.2.2.2.2.1 mo.2.2.2.2.2.1 mo.2.2.2.2.2.2.1 mo.2.2.2.2.2.2.2.1 mo.2.2.2.2.2.2.2.2.1 mo.2.2.2.2.2.2.2.2.2.1 mo.2.2.2.2.2.2.2.2.2.2.1 mo.2.2.2.2.2.2.2.2.2.2.2.1 mo.2.2.2.2.2.2.2.2.2.2.2.2.1 mo.2.2.2.2.2.2.2.2.2.2.2.2.2.1 mo.2.2.2.2.2.2.2.2.2.2.2.2.2.2.1 mo.2.2.2.2.2.2.2.2.2.2.2.2.2.2.2.1 mo.2.2.2.2.2.2.2.2.2.2.2.2.2.2.2.2.1 mo.2.2.2.2.2.2.2.2.2.2.2.2.2.2.2.2.2)) (As := [.int x1, .int 1, .int 9]) (st := []) C0 (c_X8_within l dC dI cI cJ cZ cO  N  x1 1 9 r_17 hc_17) rfl 3 gX8_whyNoPiece_X8_within (by decide +kernel) ⟨Nat.le_of_ble_eq_true rfl, Nat.le_of_ble_eq_true rfl⟩ rfl  ⟨_, pr1, fun _ => pr1⟩ rfl (Nat.le_of_ble_eq_true rfl) dX8_whyNoPiece_17 rfl ⟨Nat.zero_le _, Nat.zero_le _⟩ ?_
    refine V_if_ne (tgt := 26) C0 dX8_whyNoPiece_20 (by decide) rfl (fun c20 => ?_) (fun c20 => ?_)
    · have hf := ite_f c20 hf
      refine V_aload_n C0 dX8_whyNoPiece_26 1 rfl rfl ?_
      refine V_get C0 fl_X8_whyNoPiece_7 0 rfl rfl dX8_whyNoPiece_27 rfl ?_
      refine V_iconst (v := 0) C0 dX8_whyNoPiece_30 (by decide) rfl ?_
      obtain ⟨hi31, hf⟩ := ck_inv hf
      refine V_iald C0 1 0 rfl rfl hi31 dX8_whyNoPiece_31 rfl ?_
      refine V_bipush (v := 16) C0 dX8_whyNoPiece_32 (by decide) rfl ?_
      refine V_icmp_ne (tgt := 42) C0 dX8_whyNoPiece_34 (by decide) rfl (fun c34 => ?_) (fun c34 => ?_)
      · have hf := ite_f c34 hf
        refine V_aload_n C0 dX8_whyNoPiece_42 1 rfl rfl ?_
        refine V_iload_n C0 dX8_whyNoPiece_43 0 rfl rfl ?_
        obtain ⟨r_44, hc_44, hf⟩ := bind_inv hf
        refine V_cVI (ws' := (W_M cI cJ cZ cO am mo.1 mo.2.1 mo.2.2.1 mo.2.2.2.1 mo.2.2.2.2.1 mo.2.2.2.2.2.1 mo.2.2.2.2.2.2.1 mo.2.2.2.2.2.2.2.1 mo.2.2.2.2.2.2.2.2.1 mo.2.2.2.2.2.2.2.2.2.1 mo.2.2.2.2.2.2.2.2.2.2.1 mo.2.2.2.2.2.2.2.2.2.2.2.1 mo.2.2.2.2.2.2.2.2.2.2.2.2.1 mo.2.2.2.2.2.2.2.2.2.2.2.2.2.1 mo.2.2.2.2.2.2.2.2.2.2.2.2.2.2.1 mo.2.2.2.2.2.2.2.2.2.2.2.2.2.2.2.1 mo.2.2.2.2.2.2.2.2.2.2.2.2.2.2.2.2.1 mo.2.2.2.2.2.2.2.2.2.2.2.2.2.2.2.2.2)) (As := [.int r_2]) (b := am 0) (st := []) C0 (c_X8_pieceOf l dC dI cI cJ cZ cO am N mo r_2 r_44 hc_44) rfl 1 gX8_whyNoPiece_X8_pieceOf (by decide +kernel) ⟨Nat.le_of_ble_eq_true rfl, Nat.le_of_ble_eq_true rfl⟩ rfl 0 8 rfl rfl  Cut.all rfl (Nat.le_of_ble_eq_true rfl) dX8_whyNoPiece_44 rfl ⟨Nat.zero_le _, Nat.zero_le _⟩ ?_
        refine V_bipush (v := (-6)) C0 dX8_whyNoPiece_47 (by decide) rfl ?_
        refine V_icmp_eq (tgt := 57) C0 dX8_whyNoPiece_49 (by decide) rfl (fun c49 => ?_) (fun c49 => ?_)
        · have hf := ite_t c49 hf
          refine V_iconst (v := 0) C0 dX8_whyNoPiece_57 (by decide) rfl ?_
          obtain rfl := some_inv hf
          exact V_iret C0 () rfl rfl dX8_whyNoPiece_58
        · have hf := ite_f c49 hf
          refine V_bipush (v := (-5)) C0 dX8_whyNoPiece_52 (by decide) rfl ?_
          refine V_goto (tgt := 58) C0 dX8_whyNoPiece_54 (by decide) ?_
          obtain rfl := some_inv hf
          exact V_iret C0 () rfl rfl dX8_whyNoPiece_58
      · have hf := ite_t c34 hf
        refine V_bipush (v := (-4)) C0 dX8_whyNoPiece_37 (by decide) rfl ?_
        refine V_goto (tgt := 58) C0 dX8_whyNoPiece_39 (by decide) ?_
        obtain rfl := some_inv hf
        exact V_iret C0 () rfl rfl dX8_whyNoPiece_58
    · have hf := ite_t c20 hf
      refine V_bipush (v := (-2)) C0 dX8_whyNoPiece_23 (by decide) rfl ?_
      obtain rfl := some_inv hf
      exact V_iret C0 () rfl rfl dX8_whyNoPiece_25
  · have hf := ite_t c7 hf
    refine V_bipush (v := (-3)) C0 dX8_whyNoPiece_10 (by decide) rfl ?_
    obtain rfl := some_inv hf
    exact V_iret C0 () rfl rfl dX8_whyNoPiece_12
abbrev RM_X8_piece : Room := { frames := 4, cells := 0, slots := 0, locals := 90 }
theorem in_X8_piece_X8 : ∀ w ∈ u_ws RX8 TX8 18, w ∈ wsX8_piece := by decide +kernel
theorem fl_X8_piece_135 : FL RX8 wsX8_piece 8 135 7 RX8 TX8 18 := ⟨in_X8_piece_X8, rfl, by decide, by decide +kernel, rfl⟩
set_option maxRecDepth 100000 in
set_option maxHeartbeats 4000000 in
theorem c_X8_piece (l : Launch) (dC : Nat → ClassId) (dI : Nat → Nat → Nat) (cI cJ cZ cO : ClassId) (am : Nat → Nat) (N : Nat) (mo : MV) (x1 : Int32) (o : Int32 × MV) (hf : f_X8_piece N mo x1 = some o) : MetI l yX8_piece wsX8_piece RM_X8_piece (dC, dI) (TY cI cJ cZ cO) [.ref (am 0), .int x1] (W_M cI cJ cZ cO am mo.1 mo.2.1 mo.2.2.1 mo.2.2.2.1 mo.2.2.2.2.1 mo.2.2.2.2.2.1 mo.2.2.2.2.2.2.1 mo.2.2.2.2.2.2.2.1 mo.2.2.2.2.2.2.2.2.1 mo.2.2.2.2.2.2.2.2.2.1 mo.2.2.2.2.2.2.2.2.2.2.1 mo.2.2.2.2.2.2.2.2.2.2.2.1 mo.2.2.2.2.2.2.2.2.2.2.2.2.1 mo.2.2.2.2.2.2.2.2.2.2.2.2.2.1 mo.2.2.2.2.2.2.2.2.2.2.2.2.2.2.1 mo.2.2.2.2.2.2.2.2.2.2.2.2.2.2.2.1 mo.2.2.2.2.2.2.2.2.2.2.2.2.2.2.2.2.1 mo.2.2.2.2.2.2.2.2.2.2.2.2.2.2.2.2.2) (fun r (_ : Unit) => r = o.1) (fun _ => (W_M cI cJ cZ cO am o.2.1 o.2.2.1 o.2.2.2.1 o.2.2.2.2.1 o.2.2.2.2.2.1 o.2.2.2.2.2.2.1 o.2.2.2.2.2.2.2.1 o.2.2.2.2.2.2.2.2.1 o.2.2.2.2.2.2.2.2.2.1 o.2.2.2.2.2.2.2.2.2.2.1 o.2.2.2.2.2.2.2.2.2.2.2.1 o.2.2.2.2.2.2.2.2.2.2.2.2.1 o.2.2.2.2.2.2.2.2.2.2.2.2.2.1 o.2.2.2.2.2.2.2.2.2.2.2.2.2.2.1 o.2.2.2.2.2.2.2.2.2.2.2.2.2.2.2.1 o.2.2.2.2.2.2.2.2.2.2.2.2.2.2.2.2.1 o.2.2.2.2.2.2.2.2.2.2.2.2.2.2.2.2.2.1 o.2.2.2.2.2.2.2.2.2.2.2.2.2.2.2.2.2.2)) := by
  refine MetI.ofV (cc := cX8_piece) (maxL := 4) (ret := (some .int)) (own := RX8) (lv0 := [(0, .ref (am 0)), (1, .int x1)]) (by decide) rfl rfl (Nat.le_of_ble_eq_true rfl) rfl ?_
  intro p e s m below meth c A C0 _
  unfold f_X8_piece at hf
  refine V_aload_n C0 dX8_piece_0 0 rfl rfl ?_
  refine V_iload_n C0 dX8_piece_1 1 rfl rfl ?_
  obtain ⟨r_2, hc_2, hf⟩ := bind_inv hf
  refine V_cVI (ws' := (W_M cI cJ cZ cO am mo.1 mo.2.1 mo.2.2.1 mo.2.2.2.1 mo.2.2.2.2.1 mo.2.2.2.2.2.1 mo.2.2.2.2.2.2.1 mo.2.2.2.2.2.2.2.1 mo.2.2.2.2.2.2.2.2.1 mo.2.2.2.2.2.2.2.2.2.1 mo.2.2.2.2.2.2.2.2.2.2.1 mo.2.2.2.2.2.2.2.2.2.2.2.1 mo.2.2.2.2.2.2.2.2.2.2.2.2.1 mo.2.2.2.2.2.2.2.2.2.2.2.2.2.1 mo.2.2.2.2.2.2.2.2.2.2.2.2.2.2.1 mo.2.2.2.2.2.2.2.2.2.2.2.2.2.2.2.1 mo.2.2.2.2.2.2.2.2.2.2.2.2.2.2.2.2.1 mo.2.2.2.2.2.2.2.2.2.2.2.2.2.2.2.2.2)) (As := [.int x1]) (b := am 0) (st := []) C0 (c_X8_whyNoPiece l dC dI cI cJ cZ cO am N mo x1 r_2 hc_2) rfl 1 gX8_piece_X8_whyNoPiece (by decide +kernel) ⟨Nat.le_of_ble_eq_true rfl, Nat.le_of_ble_eq_true rfl⟩ rfl 0 8 rfl rfl  Cut.all rfl (Nat.le_of_ble_eq_true rfl) dX8_piece_2 rfl ⟨Nat.zero_le _, Nat.zero_le _⟩ ?_
  refine V_istore_n (lv' := [(2, .int r_2), (0, .ref (am 0)), (1, .int x1)]) C0 dX8_piece_5 rfl (by decide) rfl rfl ?_
  refine V_iload_n C0 dX8_piece_6 0 rfl rfl ?_
  refine V_if_ge (tgt := 12) C0 dX8_piece_7 (by decide) rfl (fun c7 => ?_) (fun c7 => ?_)
  · have hf := ite_t c7 hf
    refine V_aload_n C0 dX8_piece_12 1 rfl rfl ?_
    obtain ⟨r_13, hc_13, hf⟩ := bind_inv hf
    refine V_cVV (ws' := (W_M cI cJ cZ cO am r_13.1 r_13.2.1 r_13.2.2.1 r_13.2.2.2.1 r_13.2.2.2.2.1 r_13.2.2.2.2.2.1 r_13.2.2.2.2.2.2.1 r_13.2.2.2.2.2.2.2.1 r_13.2.2.2.2.2.2.2.2.1 r_13.2.2.2.2.2.2.2.2.2.1 r_13.2.2.2.2.2.2.2.2.2.2.1 r_13.2.2.2.2.2.2.2.2.2.2.2.1 r_13.2.2.2.2.2.2.2.2.2.2.2.2.1 r_13.2.2.2.2.2.2.2.2.2.2.2.2.2.1 r_13.2.2.2.2.2.2.2.2.2.2.2.2.2.2.1 r_13.2.2.2.2.2.2.2.2.2.2.2.2.2.2.2.1 r_13.2.2.2.2.2.2.2.2.2.2.2.2.2.2.2.2.1 r_13.2.2.2.2.2.2.2.2.2.2.2.2.2.2.2.2.2)) (As := []) (b := am 0) (st := []) C0 (c_X8_record l dC dI cI cJ cZ cO am N mo  r_13 hc_13) rfl 0 gX8_piece_X8_record (by decide +kernel) ⟨Nat.le_of_ble_eq_true rfl, Nat.le_of_ble_eq_true rfl⟩ rfl 0 8 rfl rfl  Cut.all rfl (Nat.le_of_ble_eq_true rfl) dX8_piece_13 rfl ⟨Nat.zero_le _, Nat.zero_le _⟩ ?_
    refine V_aload_n C0 dX8_piece_16 1 rfl rfl ?_
    refine V_aload_n C0 dX8_piece_17 1 rfl rfl ?_
    refine V_iconst (v := 4) C0 dX8_piece_18 (by decide) rfl ?_
    obtain ⟨r_19, hc_19, hf⟩ := bind_inv hf
    refine V_cVI (ws' := (W_M cI cJ cZ cO am r_13.1 r_13.2.1 r_13.2.2.1 r_13.2.2.2.1 r_13.2.2.2.2.1 r_13.2.2.2.2.2.1 r_13.2.2.2.2.2.2.1 r_13.2.2.2.2.2.2.2.1 r_13.2.2.2.2.2.2.2.2.1 r_13.2.2.2.2.2.2.2.2.2.1 r_13.2.2.2.2.2.2.2.2.2.2.1 r_13.2.2.2.2.2.2.2.2.2.2.2.1 r_13.2.2.2.2.2.2.2.2.2.2.2.2.1 r_13.2.2.2.2.2.2.2.2.2.2.2.2.2.1 r_13.2.2.2.2.2.2.2.2.2.2.2.2.2.2.1 r_13.2.2.2.2.2.2.2.2.2.2.2.2.2.2.2.1 r_13.2.2.2.2.2.2.2.2.2.2.2.2.2.2.2.2.1 r_13.2.2.2.2.2.2.2.2.2.2.2.2.2.2.2.2.2)) (As := [.int 4]) (b := am 0) (st := [.ref (am 0)]) C0 (c_X8_padText l dC dI cI cJ cZ cO am N r_13 4 r_19 hc_19) rfl 1 gX8_piece_X8_padText (by decide +kernel) ⟨Nat.le_of_ble_eq_true rfl, Nat.le_of_ble_eq_true rfl⟩ rfl 0 8 rfl rfl  Cut.all rfl (Nat.le_of_ble_eq_true rfl) dX8_piece_19 rfl ⟨Nat.zero_le _, Nat.zero_le _⟩ ?_
    refine V_iload_n C0 dX8_piece_22 2 rfl rfl ?_
    obtain ⟨r_23, hc_23, hf⟩ := bind_inv hf
    refine V_cVI (ws' := (W_M cI cJ cZ cO am r_23.2.1 r_23.2.2.1 r_23.2.2.2.1 r_23.2.2.2.2.1 r_23.2.2.2.2.2.1 r_23.2.2.2.2.2.2.1 r_23.2.2.2.2.2.2.2.1 r_23.2.2.2.2.2.2.2.2.1 r_23.2.2.2.2.2.2.2.2.2.1 r_23.2.2.2.2.2.2.2.2.2.2.1 r_23.2.2.2.2.2.2.2.2.2.2.2.1 r_23.2.2.2.2.2.2.2.2.2.2.2.2.1 r_23.2.2.2.2.2.2.2.2.2.2.2.2.2.1 r_23.2.2.2.2.2.2.2.2.2.2.2.2.2.2.1 r_23.2.2.2.2.2.2.2.2.2.2.2.2.2.2.2.1 r_23.2.2.2.2.2.2.2.2.2.2.2.2.2.2.2.2.1 r_23.2.2.2.2.2.2.2.2.2.2.2.2.2.2.2.2.2.1 r_23.2.2.2.2.2.2.2.2.2.2.2.2.2.2.2.2.2.2)) (As := [.int r_19, .int x1]) (b := am 0) (st := []) C0 (c_X8_addPiece l dC dI cI cJ cZ cO am N r_13 r_19 x1 r_23 hc_23) rfl 2 gX8_piece_X8_addPiece (by decide +kernel) ⟨Nat.le_of_ble_eq_true rfl, Nat.le_of_ble_eq_true rfl⟩ rfl 0 8 rfl rfl  Cut.all rfl (Nat.le_of_ble_eq_true rfl) dX8_piece_23 rfl ⟨Nat.zero_le _, Nat.zero_le _⟩ ?_
    refine V_istore_n (lv' := [(3, .int r_23.1), (2, .int r_2), (0, .ref (am 0)), (1, .int x1)]) C0 dX8_piece_26 rfl (by decide) rfl rfl ?_
    refine V_aload_n C0 dX8_piece_27 2 rfl rfl ?_
    refine V_iconst (v := 0) C0 dX8_piece_28 (by decide) rfl ?_
    refine V_put (ws' := (W_M cI cJ cZ cO am r_23.2.1 r_23.2.2.1 r_23.2.2.2.1 r_23.2.2.2.2.1 r_23.2.2.2.2.2.1 r_23.2.2.2.2.2.2.1 r_23.2.2.2.2.2.2.2.1 0 r_23.2.2.2.2.2.2.2.2.2.1 r_23.2.2.2.2.2.2.2.2.2.2.1 r_23.2.2.2.2.2.2.2.2.2.2.2.1 r_23.2.2.2.2.2.2.2.2.2.2.2.2.1 r_23.2.2.2.2.2.2.2.2.2.2.2.2.2.1 r_23.2.2.2.2.2.2.2.2.2.2.2.2.2.2.1 r_23.2.2.2.2.2.2.2.2.2.2.2.2.2.2.2.1 r_23.2.2.2.2.2.2.2.2.2.2.2.2.2.2.2.2.1 r_23.2.2.2.2.2.2.2.2.2.2.2.2.2.2.2.2.2.1 r_23.2.2.2.2.2.2.2.2.2.2.2.2.2.2.2.2.2.2)) C0 fl_X8_piece_135 tyX8_ok nmX8 rfl 0 rfl rfl rfl (Nat.le_of_ble_eq_true rfl) dX8_piece_29 rfl rfl ?_
    refine V_iload_n C0 dX8_piece_32 0 rfl rfl ?_
    obtain rfl := some_inv hf
    exact V_iret C0 () rfl rfl dX8_piece_33
  · have hf := ite_f c7 hf
    refine V_iload_n C0 dX8_piece_10 0 rfl rfl ?_
    obtain rfl := some_inv hf
    exact V_iret C0 () rfl rfl dX8_piece_11
abbrev RM_X8_weigh : Room := { frames := 2, cells := 0, slots := 0, locals := 45 }
theorem in_X8_weigh_X8 : ∀ w ∈ u_ws RX8 TX8 18, w ∈ wsX8_weigh := by decide +kernel
theorem fl_X8_weigh_7 : FL RX8 wsX8_weigh 8 7 0 RX8 TX8 18 := ⟨in_X8_weigh_X8, rfl, by decide, by decide +kernel, rfl⟩
set_option maxRecDepth 100000 in
set_option maxHeartbeats 4000000 in
theorem c_X8_weigh (l : Launch) (dC : Nat → ClassId) (dI : Nat → Nat → Nat) (cI cJ cZ cO : ClassId) (am : Nat → Nat) (N : Nat) (mo : MV) (x1 : Int32) (x2 : Int32) (o : Int32 × MV) (hf : f_X8_weigh N mo x1 x2 = some o) : MetI l yX8_weigh wsX8_weigh RM_X8_weigh (dC, dI) (TY cI cJ cZ cO) [.ref (am 0), .int x1, .int x2] (W_M cI cJ cZ cO am mo.1 mo.2.1 mo.2.2.1 mo.2.2.2.1 mo.2.2.2.2.1 mo.2.2.2.2.2.1 mo.2.2.2.2.2.2.1 mo.2.2.2.2.2.2.2.1 mo.2.2.2.2.2.2.2.2.1 mo.2.2.2.2.2.2.2.2.2.1 mo.2.2.2.2.2.2.2.2.2.2.1 mo.2.2.2.2.2.2.2.2.2.2.2.1 mo.2.2.2.2.2.2.2.2.2.2.2.2.1 mo.2.2.2.2.2.2.2.2.2.2.2.2.2.1 mo.2.2.2.2.2.2.2.2.2.2.2.2.2.2.1 mo.2.2.2.2.2.2.2.2.2.2.2.2.2.2.2.1 mo.2.2.2.2.2.2.2.2.2.2.2.2.2.2.2.2.1 mo.2.2.2.2.2.2.2.2.2.2.2.2.2.2.2.2.2) (fun r (_ : Unit) => r = o.1) (fun _ => (W_M cI cJ cZ cO am o.2.1 o.2.2.1 o.2.2.2.1 o.2.2.2.2.1 o.2.2.2.2.2.1 o.2.2.2.2.2.2.1 o.2.2.2.2.2.2.2.1 o.2.2.2.2.2.2.2.2.1 o.2.2.2.2.2.2.2.2.2.1 o.2.2.2.2.2.2.2.2.2.2.1 o.2.2.2.2.2.2.2.2.2.2.2.1 o.2.2.2.2.2.2.2.2.2.2.2.2.1 o.2.2.2.2.2.2.2.2.2.2.2.2.2.1 o.2.2.2.2.2.2.2.2.2.2.2.2.2.2.1 o.2.2.2.2.2.2.2.2.2.2.2.2.2.2.2.1 o.2.2.2.2.2.2.2.2.2.2.2.2.2.2.2.2.1 o.2.2.2.2.2.2.2.2.2.2.2.2.2.2.2.2.2.1 o.2.2.2.2.2.2.2.2.2.2.2.2.2.2.2.2.2.2)) := by
  refine MetI.ofV (cc := cX8_weigh) (maxL := 4) (ret := (some .int)) (own := RX8) (lv0 := [(0, .ref (am 0)), (1, .int x1), (2, .int x2)]) (by decide) rfl rfl (Nat.le_of_ble_eq_true rfl) rfl ?_
  intro p e s m below meth c A C0 _
  unfold f_X8_weigh at hf
  refine V_aload_n C0 dX8_weigh_0 0 rfl rfl ?_
  refine V_iload_n C0 dX8_weigh_1 1 rfl rfl ?_
  obtain ⟨r_2, hc_2, hf⟩ := bind_inv hf
  refine V_cVI (ws' := (W_M cI cJ cZ cO am mo.1 mo.2.1 mo.2.2.1 mo.2.2.2.1 mo.2.2.2.2.1 mo.2.2.2.2.2.1 mo.2.2.2.2.2.2.1 mo.2.2.2.2.2.2.2.1 mo.2.2.2.2.2.2.2.2.1 mo.2.2.2.2.2.2.2.2.2.1 mo.2.2.2.2.2.2.2.2.2.2.1 mo.2.2.2.2.2.2.2.2.2.2.2.1 mo.2.2.2.2.2.2.2.2.2.2.2.2.1 mo.2.2.2.2.2.2.2.2.2.2.2.2.2.1 mo.2.2.2.2.2.2.2.2.2.2.2.2.2.2.1 mo.2.2.2.2.2.2.2.2.2.2.2.2.2.2.2.1 mo.2.2.2.2.2.2.2.2.2.2.2.2.2.2.2.2.1 mo.2.2.2.2.2.2.2.2.2.2.2.2.2.2.2.2.2)) (As := [.int x1]) (b := am 0) (st := []) C0 (c_X8_isPiece l dC dI cI cJ cZ cO am N mo x1 r_2 hc_2) rfl 1 gX8_weigh_X8_isPiece (by decide +kernel) ⟨Nat.le_of_ble_eq_true rfl, Nat.le_of_ble_eq_true rfl⟩ rfl 0 8 rfl rfl  Cut.all rfl (Nat.le_of_ble_eq_true rfl) dX8_weigh_2 rfl ⟨Nat.zero_le _, Nat.zero_le _⟩ ?_
  refine jn_elim hf (fun (J : Unit → Option (Int32 × MV)) => ∀ (u : Unit), J u = some o → V p l e RM_X8_weigh s m ([.ref (am 0), .int x1, .int x2] : List Value).toArray below meth c 4 (dC, dI) A (MQ below (va_Qi (fun r (_ : Unit) => r = o.1) (PostW (dC, dI) (TY cI cJ cZ cO) A (fun _ => (W_M cI cJ cZ cO am o.2.1 o.2.2.1 o.2.2.2.1 o.2.2.2.2.1 o.2.2.2.2.2.1 o.2.2.2.2.2.2.1 o.2.2.2.2.2.2.2.1 o.2.2.2.2.2.2.2.2.1 o.2.2.2.2.2.2.2.2.2.1 o.2.2.2.2.2.2.2.2.2.2.1 o.2.2.2.2.2.2.2.2.2.2.2.1 o.2.2.2.2.2.2.2.2.2.2.2.2.1 o.2.2.2.2.2.2.2.2.2.2.2.2.2.1 o.2.2.2.2.2.2.2.2.2.2.2.2.2.2.1 o.2.2.2.2.2.2.2.2.2.2.2.2.2.2.2.1 o.2.2.2.2.2.2.2.2.2.2.2.2.2.2.2.2.1 o.2.2.2.2.2.2.2.2.2.2.2.2.2.2.2.2.2.1 o.2.2.2.2.2.2.2.2.2.2.2.2.2.2.2.2.2.2))) A) ([.ref (am 0), .int x1, .int x2] : List Value).toArray s 0 0 A) 0 0 (W_M cI cJ cZ cO am mo.1 mo.2.1 mo.2.2.1 mo.2.2.2.1 mo.2.2.2.2.1 mo.2.2.2.2.2.1 mo.2.2.2.2.2.2.1 mo.2.2.2.2.2.2.2.1 mo.2.2.2.2.2.2.2.2.1 mo.2.2.2.2.2.2.2.2.2.1 mo.2.2.2.2.2.2.2.2.2.2.1 mo.2.2.2.2.2.2.2.2.2.2.2.1 mo.2.2.2.2.2.2.2.2.2.2.2.2.1 mo.2.2.2.2.2.2.2.2.2.2.2.2.2.1 mo.2.2.2.2.2.2.2.2.2.2.2.2.2.2.1 mo.2.2.2.2.2.2.2.2.2.2.2.2.2.2.2.1 mo.2.2.2.2.2.2.2.2.2.2.2.2.2.2.2.2.1 mo.2.2.2.2.2.2.2.2.2.2.2.2.2.2.2.2.2) 18 [(0, .ref (am 0)), (1, .int x1)] []) ?_ ?_
  · intro u hf
    refine V_aload_n C0 dX8_weigh_18 0 rfl rfl ?_
    refine V_iload_n C0 dX8_weigh_19 1 rfl rfl ?_
    obtain ⟨r_20, hc_20, hf⟩ := bind_inv hf
    refine V_cVI (ws' := (W_M cI cJ cZ cO am mo.1 mo.2.1 mo.2.2.1 mo.2.2.2.1 mo.2.2.2.2.1 mo.2.2.2.2.2.1 mo.2.2.2.2.2.2.1 mo.2.2.2.2.2.2.2.1 mo.2.2.2.2.2.2.2.2.1 mo.2.2.2.2.2.2.2.2.2.1 mo.2.2.2.2.2.2.2.2.2.2.1 mo.2.2.2.2.2.2.2.2.2.2.2.1 mo.2.2.2.2.2.2.2.2.2.2.2.2.1 mo.2.2.2.2.2.2.2.2.2.2.2.2.2.1 mo.2.2.2.2.2.2.2.2.2.2.2.2.2.2.1 mo.2.2.2.2.2.2.2.2.2.2.2.2.2.2.2.1 mo.2.2.2.2.2.2.2.2.2.2.2.2.2.2.2.2.1 mo.2.2.2.2.2.2.2.2.2.2.2.2.2.2.2.2.2)) (As := [.int x1]) (b := am 0) (st := []) C0 (c_X8_isPiece l dC dI cI cJ cZ cO am N mo x1 r_20 hc_20) rfl 1 gX8_weigh_X8_isPiece (by decide +kernel) ⟨Nat.le_of_ble_eq_true rfl, Nat.le_of_ble_eq_true rfl⟩ rfl 0 8 rfl rfl  Cut.all rfl (Nat.le_of_ble_eq_true rfl) dX8_weigh_20 rfl ⟨Nat.zero_le _, Nat.zero_le _⟩ ?_
    refine V_if_eq (tgt := 31) C0 dX8_weigh_23 (by decide) rfl (fun c23 => ?_) (fun c23 => ?_)
    · have hf := ite_t c23 hf
      refine V_iconst (v := (-1)) C0 dX8_weigh_31 (by decide) rfl ?_
      obtain rfl := some_inv hf
      exact V_iret C0 () rfl rfl dX8_weigh_32
    · have hf := ite_f c23 hf
      refine V_bipush (v := (-2)) C0 dX8_weigh_26 (by decide) rfl ?_
      refine V_goto (tgt := 32) C0 dX8_weigh_28 (by decide) ?_
      obtain rfl := some_inv hf
      exact V_iret C0 () rfl rfl dX8_weigh_32
  · intro J18 hJ18 hf
    refine V_if_eq (tgt := 18) C0 dX8_weigh_5 (by decide) rfl (fun c5 => ?_) (fun c5 => ?_)
    · have hf := ite_t c5 hf
      exact V.sub [0, 1] rfl (hJ18 () hf)
    · have hf := ite_f c5 hf
      refine V_iload_n C0 dX8_weigh_8 2 rfl rfl ?_
      refine V_iconst (v := 1) C0 dX8_weigh_9 (by decide) rfl ?_
      refine V_bipush (v := 9) C0 dX8_weigh_10 (by decide) rfl ?_
      obtain ⟨r_12, hc_12, hf⟩ := bind_inv hf
      refine V_cSI (ws' := (W_M cI cJ cZ cO am mo.1 mo.2.1 mo.2.2.1 mo.2.2.2.1 mo.2.2.2.2.1 mo.2.2.2.2.2.1 mo.2.2.2.2.2.2.1 mo.2.2.2.2.2.2.2.1 mo.2.2.2.2.2.2.2.2.1 mo.2.2.2.2.2.2.2.2.2.1 mo.2.2.2.2.2.2.2.2.2.2.1 mo.2.2.2.2.2.2.2.2.2.2.2.1 mo.2.2.2.2.2.2.2.2.2.2.2.2.1 mo.2.2.2.2.2.2.2.2.2.2.2.2.2.1 mo.2.2.2.2.2.2.2.2.2.2.2.2.2.2.1 mo.2.2.2.2.2.2.2.2.2.2.2.2.2.2.2.1 mo.2.2.2.2.2.2.2.2.2.2.2.2.2.2.2.2.1 mo.2.2.2.2.2.2.2.2.2.2.2.2.2.2.2.2.2)) (As := [.int x2, .int 1, .int 9]) (st := []) C0 (c_X8_within l dC dI cI cJ cZ cO  N  x2 1 9 r_12 hc_12) rfl 3 gX8_weigh_X8_within (by decide +kernel) ⟨Nat.le_of_ble_eq_true rfl, Nat.le_of_ble_eq_true rfl⟩ rfl  ⟨_, pr1, fun _ => pr1⟩ rfl (Nat.le_of_ble_eq_true rfl) dX8_weigh_12 rfl ⟨Nat.zero_le _, Nat.zero_le _⟩ ?_
      refine V_if_ne (tgt := 33) C0 dX8_weigh_15 (by decide) rfl (fun c15 => ?_) (fun c15 => ?_)
      · have hf := ite_f c15 hf
        refine V_aload_n C0 dX8_weigh_33 0 rfl rfl ?_
        obtain ⟨r_34, hc_34, hf⟩ := bind_inv hf
        refine V_cVV (ws' := (W_M cI cJ cZ cO am r_34.1 r_34.2.1 r_34.2.2.1 r_34.2.2.2.1 r_34.2.2.2.2.1 r_34.2.2.2.2.2.1 r_34.2.2.2.2.2.2.1 r_34.2.2.2.2.2.2.2.1 r_34.2.2.2.2.2.2.2.2.1 r_34.2.2.2.2.2.2.2.2.2.1 r_34.2.2.2.2.2.2.2.2.2.2.1 r_34.2.2.2.2.2.2.2.2.2.2.2.1 r_34.2.2.2.2.2.2.2.2.2.2.2.2.1 r_34.2.2.2.2.2.2.2.2.2.2.2.2.2.1 r_34.2.2.2.2.2.2.2.2.2.2.2.2.2.2.1 r_34.2.2.2.2.2.2.2.2.2.2.2.2.2.2.2.1 r_34.2.2.2.2.2.2.2.2.2.2.2.2.2.2.2.2.1 r_34.2.2.2.2.2.2.2.2.2.2.2.2.2.2.2.2.2)) (As := []) (b := am 0) (st := []) C0 (c_X8_record l dC dI cI cJ cZ cO am N mo  r_34 hc_34) rfl 0 gX8_weigh_X8_record (by decide +kernel) ⟨Nat.le_of_ble_eq_true rfl, Nat.le_of_ble_eq_true rfl⟩ rfl 0 8 rfl rfl  Cut.all rfl (Nat.le_of_ble_eq_true rfl) dX8_weigh_34 rfl ⟨Nat.zero_le _, Nat.zero_le _⟩ ?_
        refine V_aload_n C0 dX8_weigh_37 0 rfl rfl ?_
        refine V_iload_n C0 dX8_weigh_38 1 rfl rfl ?_
        refine V_iconst (v := 1) C0 dX8_weigh_39 (by decide) rfl ?_
        obtain ⟨r_40, hc_40, hf⟩ := bind_inv hf
        refine V_cVI (ws' := (W_M cI cJ cZ cO am r_34.1 r_34.2.1 r_34.2.2.1 r_34.2.2.2.1 r_34.2.2.2.2.1 r_34.2.2.2.2.2.1 r_34.2.2.2.2.2.2.1 r_34.2.2.2.2.2.2.2.1 r_34.2.2.2.2.2.2.2.2.1 r_34.2.2.2.2.2.2.2.2.2.1 r_34.2.2.2.2.2.2.2.2.2.2.1 r_34.2.2.2.2.2.2.2.2.2.2.2.1 r_34.2.2.2.2.2.2.2.2.2.2.2.2.1 r_34.2.2.2.2.2.2.2.2.2.2.2.2.2.1 r_34.2.2.2.2.2.2.2.2.2.2.2.2.2.2.1 r_34.2.2.2.2.2.2.2.2.2.2.2.2.2.2.2.1 r_34.2.2.2.2.2.2.2.2.2.2.2.2.2.2.2.2.1 r_34.2.2.2.2.2.2.2.2.2.2.2.2.2.2.2.2.2)) (As := [.int x1, .int 1]) (b := am 0) (st := []) C0 (c_X8_piecePart l dC dI cI cJ cZ cO am N r_34 x1 1 r_40 hc_40) rfl 2 gX8_weigh_X8_piecePart (by decide +kernel) ⟨Nat.le_of_ble_eq_true rfl, Nat.le_of_ble_eq_true rfl⟩ rfl 0 8 rfl rfl  Cut.all rfl (Nat.le_of_ble_eq_true rfl) dX8_weigh_40 rfl ⟨Nat.zero_le _, Nat.zero_le _⟩ ?_
        refine V_istore_n (lv' := [(3, .int r_40), (0, .ref (am 0)), (1, .int x1), (2, .int x2)]) C0 dX8_weigh_43 rfl (by decide) rfl rfl ?_
        refine V_aload_n C0 dX8_weigh_44 1 rfl rfl ?_
        refine V_get C0 fl_X8_weigh_7 0 rfl rfl dX8_weigh_45 rfl ?_
        refine V_iconst (v := 2) C0 dX8_weigh_48 (by decide) rfl ?_
        refine V_bipush (v := 6) C0 dX8_weigh_49 (by decide) rfl ?_
        refine V_iload_n C0 dX8_weigh_51 2 rfl rfl ?_
        refine V_imul C0 dX8_weigh_52 rfl ?_
        refine V_iadd C0 dX8_weigh_53 rfl ?_
        refine V_iconst (v := 1) C0 dX8_weigh_54 (by decide) rfl ?_
        refine V_iadd C0 dX8_weigh_55 rfl ?_
        refine V_iload_n C0 dX8_weigh_56 3 rfl rfl ?_
        obtain ⟨hi57, hf⟩ := ck_inv hf
        refine V_iast (ws' := (W_M cI cJ cZ cO am (upd r_34.1 (((2 + (6 * x1)) + 1).toNatClampNeg) x2) r_34.2.1 r_34.2.2.1 r_34.2.2.2.1 r_34.2.2.2.2.1 r_34.2.2.2.2.2.1 r_34.2.2.2.2.2.2.1 r_34.2.2.2.2.2.2.2.1 r_34.2.2.2.2.2.2.2.2.1 r_34.2.2.2.2.2.2.2.2.2.1 r_34.2.2.2.2.2.2.2.2.2.2.1 r_34.2.2.2.2.2.2.2.2.2.2.2.1 r_34.2.2.2.2.2.2.2.2.2.2.2.2.1 r_34.2.2.2.2.2.2.2.2.2.2.2.2.2.1 r_34.2.2.2.2.2.2.2.2.2.2.2.2.2.2.1 r_34.2.2.2.2.2.2.2.2.2.2.2.2.2.2.2.1 r_34.2.2.2.2.2.2.2.2.2.2.2.2.2.2.2.2.1 r_34.2.2.2.2.2.2.2.2.2.2.2.2.2.2.2.2.2)) C0 1 0 rfl rfl hi57 dX8_weigh_57 rfl rfl ?_
        refine V_iload_n C0 dX8_weigh_58 0 rfl rfl ?_
        obtain rfl := some_inv hf
        exact V_iret C0 () rfl rfl dX8_weigh_59
      · have hf := ite_t c15 hf
        exact V.sub [0, 1] rfl (hJ18 () hf)
abbrev RM_X8_drop : Room := { frames := 2, cells := 0, slots := 0, locals := 45 }
theorem in_X8_drop_X8 : ∀ w ∈ u_ws RX8 TX8 18, w ∈ wsX8_drop := by decide +kernel
theorem fl_X8_drop_7 : FL RX8 wsX8_drop 8 7 0 RX8 TX8 18 := ⟨in_X8_drop_X8, rfl, by decide, by decide +kernel, rfl⟩
set_option maxRecDepth 100000 in
set_option maxHeartbeats 4000000 in
theorem c_X8_drop (l : Launch) (dC : Nat → ClassId) (dI : Nat → Nat → Nat) (cI cJ cZ cO : ClassId) (am : Nat → Nat) (N : Nat) (mo : MV) (x1 : Int32) (o : Int32 × MV) (hf : f_X8_drop N mo x1 = some o) : MetI l yX8_drop wsX8_drop RM_X8_drop (dC, dI) (TY cI cJ cZ cO) [.ref (am 0), .int x1] (W_M cI cJ cZ cO am mo.1 mo.2.1 mo.2.2.1 mo.2.2.2.1 mo.2.2.2.2.1 mo.2.2.2.2.2.1 mo.2.2.2.2.2.2.1 mo.2.2.2.2.2.2.2.1 mo.2.2.2.2.2.2.2.2.1 mo.2.2.2.2.2.2.2.2.2.1 mo.2.2.2.2.2.2.2.2.2.2.1 mo.2.2.2.2.2.2.2.2.2.2.2.1 mo.2.2.2.2.2.2.2.2.2.2.2.2.1 mo.2.2.2.2.2.2.2.2.2.2.2.2.2.1 mo.2.2.2.2.2.2.2.2.2.2.2.2.2.2.1 mo.2.2.2.2.2.2.2.2.2.2.2.2.2.2.2.1 mo.2.2.2.2.2.2.2.2.2.2.2.2.2.2.2.2.1 mo.2.2.2.2.2.2.2.2.2.2.2.2.2.2.2.2.2) (fun r (_ : Unit) => r = o.1) (fun _ => (W_M cI cJ cZ cO am o.2.1 o.2.2.1 o.2.2.2.1 o.2.2.2.2.1 o.2.2.2.2.2.1 o.2.2.2.2.2.2.1 o.2.2.2.2.2.2.2.1 o.2.2.2.2.2.2.2.2.1 o.2.2.2.2.2.2.2.2.2.1 o.2.2.2.2.2.2.2.2.2.2.1 o.2.2.2.2.2.2.2.2.2.2.2.1 o.2.2.2.2.2.2.2.2.2.2.2.2.1 o.2.2.2.2.2.2.2.2.2.2.2.2.2.1 o.2.2.2.2.2.2.2.2.2.2.2.2.2.2.1 o.2.2.2.2.2.2.2.2.2.2.2.2.2.2.2.1 o.2.2.2.2.2.2.2.2.2.2.2.2.2.2.2.2.1 o.2.2.2.2.2.2.2.2.2.2.2.2.2.2.2.2.2.1 o.2.2.2.2.2.2.2.2.2.2.2.2.2.2.2.2.2.2)) := by
  refine MetI.ofV (cc := cX8_drop) (maxL := 2) (ret := (some .int)) (own := RX8) (lv0 := [(0, .ref (am 0)), (1, .int x1)]) (by decide) rfl rfl (Nat.le_of_ble_eq_true rfl) rfl ?_
  intro p e s m below meth c A C0 _
  unfold f_X8_drop at hf
  refine V_aload_n C0 dX8_drop_0 0 rfl rfl ?_
  refine V_iload_n C0 dX8_drop_1 1 rfl rfl ?_
  obtain ⟨r_2, hc_2, hf⟩ := bind_inv hf
  refine V_cVI (ws' := (W_M cI cJ cZ cO am mo.1 mo.2.1 mo.2.2.1 mo.2.2.2.1 mo.2.2.2.2.1 mo.2.2.2.2.2.1 mo.2.2.2.2.2.2.1 mo.2.2.2.2.2.2.2.1 mo.2.2.2.2.2.2.2.2.1 mo.2.2.2.2.2.2.2.2.2.1 mo.2.2.2.2.2.2.2.2.2.2.1 mo.2.2.2.2.2.2.2.2.2.2.2.1 mo.2.2.2.2.2.2.2.2.2.2.2.2.1 mo.2.2.2.2.2.2.2.2.2.2.2.2.2.1 mo.2.2.2.2.2.2.2.2.2.2.2.2.2.2.1 mo.2.2.2.2.2.2.2.2.2.2.2.2.2.2.2.1 mo.2.2.2.2.2.2.2.2.2.2.2.2.2.2.2.2.1 mo.2.2.2.2.2.2.2.2.2.2.2.2.2.2.2.2.2)) (As := [.int x1]) (b := am 0) (st := []) C0 (c_X8_isPiece l dC dI cI cJ cZ cO am N mo x1 r_2 hc_2) rfl 1 gX8_drop_X8_isPiece (by decide +kernel) ⟨Nat.le_of_ble_eq_true rfl, Nat.le_of_ble_eq_true rfl⟩ rfl 0 8 rfl rfl  Cut.all rfl (Nat.le_of_ble_eq_true rfl) dX8_drop_2 rfl ⟨Nat.zero_le _, Nat.zero_le _⟩ ?_
  refine V_if_ne (tgt := 10) C0 dX8_drop_5 (by decide) rfl (fun c5 => ?_) (fun c5 => ?_)
  · have hf := ite_f c5 hf
    refine V_aload_n C0 dX8_drop_10 0 rfl rfl ?_
    obtain ⟨r_11, hc_11, hf⟩ := bind_inv hf
    refine V_cVV (ws' := (W_M cI cJ cZ cO am r_11.1 r_11.2.1 r_11.2.2.1 r_11.2.2.2.1 r_11.2.2.2.2.1 r_11.2.2.2.2.2.1 r_11.2.2.2.2.2.2.1 r_11.2.2.2.2.2.2.2.1 r_11.2.2.2.2.2.2.2.2.1 r_11.2.2.2.2.2.2.2.2.2.1 r_11.2.2.2.2.2.2.2.2.2.2.1 r_11.2.2.2.2.2.2.2.2.2.2.2.1 r_11.2.2.2.2.2.2.2.2.2.2.2.2.1 r_11.2.2.2.2.2.2.2.2.2.2.2.2.2.1 r_11.2.2.2.2.2.2.2.2.2.2.2.2.2.2.1 r_11.2.2.2.2.2.2.2.2.2.2.2.2.2.2.2.1 r_11.2.2.2.2.2.2.2.2.2.2.2.2.2.2.2.2.1 r_11.2.2.2.2.2.2.2.2.2.2.2.2.2.2.2.2.2)) (As := []) (b := am 0) (st := []) C0 (c_X8_record l dC dI cI cJ cZ cO am N mo  r_11 hc_11) rfl 0 gX8_drop_X8_record (by decide +kernel) ⟨Nat.le_of_ble_eq_true rfl, Nat.le_of_ble_eq_true rfl⟩ rfl 0 8 rfl rfl  Cut.all rfl (Nat.le_of_ble_eq_true rfl) dX8_drop_11 rfl ⟨Nat.zero_le _, Nat.zero_le _⟩ ?_
    refine V_aload_n C0 dX8_drop_14 0 rfl rfl ?_
    refine V_iload_n C0 dX8_drop_15 1 rfl rfl ?_
    obtain ⟨r_16, hc_16, hf⟩ := bind_inv hf
    refine V_cVV (ws' := (W_M cI cJ cZ cO am r_16.1 r_16.2.1 r_16.2.2.1 r_16.2.2.2.1 r_16.2.2.2.2.1 r_16.2.2.2.2.2.1 r_16.2.2.2.2.2.2.1 r_16.2.2.2.2.2.2.2.1 r_16.2.2.2.2.2.2.2.2.1 r_16.2.2.2.2.2.2.2.2.2.1 r_16.2.2.2.2.2.2.2.2.2.2.1 r_16.2.2.2.2.2.2.2.2.2.2.2.1 r_16.2.2.2.2.2.2.2.2.2.2.2.2.1 r_16.2.2.2.2.2.2.2.2.2.2.2.2.2.1 r_16.2.2.2.2.2.2.2.2.2.2.2.2.2.2.1 r_16.2.2.2.2.2.2.2.2.2.2.2.2.2.2.2.1 r_16.2.2.2.2.2.2.2.2.2.2.2.2.2.2.2.2.1 r_16.2.2.2.2.2.2.2.2.2.2.2.2.2.2.2.2.2)) (As := [.int x1]) (b := am 0) (st := []) C0 (c_X8_dropPiece l dC dI cI cJ cZ cO am N r_11 x1 r_16 hc_16) rfl 1 gX8_drop_X8_dropPiece (by decide +kernel) ⟨Nat.le_of_ble_eq_true rfl, Nat.le_of_ble_eq_true rfl⟩ rfl 0 8 rfl rfl  Cut.all rfl (Nat.le_of_ble_eq_true rfl) dX8_drop_16 rfl ⟨Nat.zero_le _, Nat.zero_le _⟩ ?_
    refine V_aload_n C0 dX8_drop_19 0 rfl rfl ?_
    refine V_get C0 fl_X8_drop_7 0 rfl rfl dX8_drop_20 rfl ?_
    refine V_iconst (v := 0) C0 dX8_drop_23 (by decide) rfl ?_
    obtain ⟨hi24, hf⟩ := ck_inv hf
    refine V_iald C0 1 0 rfl rfl hi24 dX8_drop_24 rfl ?_
    obtain rfl := some_inv hf
    exact V_iret C0 () rfl rfl dX8_drop_25
  · have hf := ite_t c5 hf
    refine V_iconst (v := (-1)) C0 dX8_drop_8 (by decide) rfl ?_
    obtain rfl := some_inv hf
    exact V_iret C0 () rfl rfl dX8_drop_9
abbrev RM_X8_word : Room := { frames := 2, cells := 0, slots := 0, locals := 46 }
theorem in_X8_word_X8 : ∀ w ∈ u_ws RX8 TX8 18, w ∈ wsX8_word := by decide +kernel
theorem fl_X8_word_7 : FL RX8 wsX8_word 8 7 0 RX8 TX8 18 := ⟨in_X8_word_X8, rfl, by decide, by decide +kernel, rfl⟩
theorem fl_X8_word_25 : FL RX8 wsX8_word 8 25 6 RX8 TX8 18 := ⟨in_X8_word_X8, rfl, by decide, by decide +kernel, rfl⟩
theorem fl_X8_word_135 : FL RX8 wsX8_word 8 135 7 RX8 TX8 18 := ⟨in_X8_word_X8, rfl, by decide, by decide +kernel, rfl⟩
set_option maxRecDepth 100000 in
set_option maxHeartbeats 4000000 in
theorem c_X8_word (l : Launch) (dC : Nat → ClassId) (dI : Nat → Nat → Nat) (cI cJ cZ cO : ClassId) (am : Nat → Nat) (N : Nat) (mo : MV) (x1 : Int32) (o : Int32 × MV) (hf : f_X8_word N mo x1 = some o) : MetI l yX8_word wsX8_word RM_X8_word (dC, dI) (TY cI cJ cZ cO) [.ref (am 0), .int x1] (W_M cI cJ cZ cO am mo.1 mo.2.1 mo.2.2.1 mo.2.2.2.1 mo.2.2.2.2.1 mo.2.2.2.2.2.1 mo.2.2.2.2.2.2.1 mo.2.2.2.2.2.2.2.1 mo.2.2.2.2.2.2.2.2.1 mo.2.2.2.2.2.2.2.2.2.1 mo.2.2.2.2.2.2.2.2.2.2.1 mo.2.2.2.2.2.2.2.2.2.2.2.1 mo.2.2.2.2.2.2.2.2.2.2.2.2.1 mo.2.2.2.2.2.2.2.2.2.2.2.2.2.1 mo.2.2.2.2.2.2.2.2.2.2.2.2.2.2.1 mo.2.2.2.2.2.2.2.2.2.2.2.2.2.2.2.1 mo.2.2.2.2.2.2.2.2.2.2.2.2.2.2.2.2.1 mo.2.2.2.2.2.2.2.2.2.2.2.2.2.2.2.2.2) (fun r (_ : Unit) => r = o.1) (fun _ => (W_M cI cJ cZ cO am o.2.1 o.2.2.1 o.2.2.2.1 o.2.2.2.2.1 o.2.2.2.2.2.1 o.2.2.2.2.2.2.1 o.2.2.2.2.2.2.2.1 o.2.2.2.2.2.2.2.2.1 o.2.2.2.2.2.2.2.2.2.1 o.2.2.2.2.2.2.2.2.2.2.1 o.2.2.2.2.2.2.2.2.2.2.2.1 o.2.2.2.2.2.2.2.2.2.2.2.2.1 o.2.2.2.2.2.2.2.2.2.2.2.2.2.1 o.2.2.2.2.2.2.2.2.2.2.2.2.2.2.1 o.2.2.2.2.2.2.2.2.2.2.2.2.2.2.2.1 o.2.2.2.2.2.2.2.2.2.2.2.2.2.2.2.2.1 o.2.2.2.2.2.2.2.2.2.2.2.2.2.2.2.2.2.1 o.2.2.2.2.2.2.2.2.2.2.2.2.2.2.2.2.2.2)) := by
  refine MetI.ofV (cc := cX8_word) (maxL := 5) (ret := (some .int)) (own := RX8) (lv0 := [(0, .ref (am 0)), (1, .int x1)]) (by decide) rfl rfl (Nat.le_of_ble_eq_true rfl) rfl ?_
  intro p e s m below meth c A C0 _
  unfold f_X8_word at hf
  refine V_aload_n C0 dX8_word_0 0 rfl rfl ?_
  refine V_bipush (v := 12) C0 dX8_word_1 (by decide) rfl ?_
  obtain ⟨r_3, hc_3, hf⟩ := bind_inv hf
  refine V_cVI (ws' := (W_M cI cJ cZ cO am mo.1 mo.2.1 mo.2.2.1 mo.2.2.2.1 mo.2.2.2.2.1 mo.2.2.2.2.2.1 mo.2.2.2.2.2.2.1 mo.2.2.2.2.2.2.2.1 mo.2.2.2.2.2.2.2.2.1 mo.2.2.2.2.2.2.2.2.2.1 mo.2.2.2.2.2.2.2.2.2.2.1 mo.2.2.2.2.2.2.2.2.2.2.2.1 mo.2.2.2.2.2.2.2.2.2.2.2.2.1 mo.2.2.2.2.2.2.2.2.2.2.2.2.2.1 mo.2.2.2.2.2.2.2.2.2.2.2.2.2.2.1 mo.2.2.2.2.2.2.2.2.2.2.2.2.2.2.2.1 mo.2.2.2.2.2.2.2.2.2.2.2.2.2.2.2.2.1 mo.2.2.2.2.2.2.2.2.2.2.2.2.2.2.2.2.2)) (As := [.int 12]) (b := am 0) (st := []) C0 (c_X8_padText l dC dI cI cJ cZ cO am N mo 12 r_3 hc_3) rfl 1 gX8_word_X8_padText (by decide +kernel) ⟨Nat.le_of_ble_eq_true rfl, Nat.le_of_ble_eq_true rfl⟩ rfl 0 8 rfl rfl  Cut.all rfl (Nat.le_of_ble_eq_true rfl) dX8_word_3 rfl ⟨Nat.zero_le _, Nat.zero_le _⟩ ?_
  refine V_if_ne (tgt := 12) C0 dX8_word_6 (by decide) rfl (fun c6 => ?_) (fun c6 => ?_)
  · have hf := ite_f c6 hf
    refine V_iload_n C0 dX8_word_12 1 rfl rfl ?_
    refine V_iconst (v := 1) C0 dX8_word_13 (by decide) rfl ?_
    refine V_bipush (v := 99) C0 dX8_word_14 (by decide) rfl ?_
    obtain ⟨r_16, hc_16, hf⟩ := bind_inv hf
    refine V_cSI (ws' := (W_M cI cJ cZ cO am mo.1 mo.2.1 mo.2.2.1 mo.2.2.2.1 mo.2.2.2.2.1 mo.2.2.2.2.2.1 mo.2.2.2.2.2.2.1 mo.2.2.2.2.2.2.2.1 mo.2.2.2.2.2.2.2.2.1 mo.2.2.2.2.2.2.2.2.2.1 mo.2.2.2.2.2.2.2.2.2.2.1 mo.2.2.2.2.2.2.2.2.2.2.2.1 mo.2.2.2.2.2.2.2.2.2.2.2.2.1 mo.2.2.2.2.2.2.2.2.2.2.2.2.2.1 mo.2.2.2.2.2.2.2.2.2.2.2.2.2.2.1 mo.2.2.2.2.2.2.2.2.2.2.2.2.2.2.2.1 mo.2.2.2.2.2.2.2.2.2.2.2.2.2.2.2.2.1 mo.2.2.2.2.2.2.2.2.2.2.2.2.2.2.2.2.2)) (As := [.int x1, .int 1, .int 99]) (st := []) C0 (c_X8_within l dC dI cI cJ cZ cO  N  x1 1 99 r_16 hc_16) rfl 3 gX8_word_X8_within (by decide +kernel) ⟨Nat.le_of_ble_eq_true rfl, Nat.le_of_ble_eq_true rfl⟩ rfl  ⟨_, pr1, fun _ => pr1⟩ rfl (Nat.le_of_ble_eq_true rfl) dX8_word_16 rfl ⟨Nat.zero_le _, Nat.zero_le _⟩ ?_
    refine V_if_ne (tgt := 25) C0 dX8_word_19 (by decide) rfl (fun c19 => ?_) (fun c19 => ?_)
    · have hf := ite_f c19 hf
      refine V_aload_n C0 dX8_word_25 0 rfl rfl ?_
      refine V_get C0 fl_X8_word_7 0 rfl rfl dX8_word_26 rfl ?_
      refine V_iconst (v := 1) C0 dX8_word_29 (by decide) rfl ?_
      obtain ⟨hi30, hf⟩ := ck_inv hf
      refine V_iald C0 1 0 rfl rfl hi30 dX8_word_30 rfl ?_
      refine V_bipush (v := 8) C0 dX8_word_31 (by decide) rfl ?_
      refine V_icmp_ne (tgt := 39) C0 dX8_word_33 (by decide) rfl (fun c33 => ?_) (fun c33 => ?_)
      · have hf := ite_f c33 hf
        refine V_aload_n C0 dX8_word_39 0 rfl rfl ?_
        obtain ⟨r_40, hc_40, hf⟩ := bind_inv hf
        refine V_cVV (ws' := (W_M cI cJ cZ cO am r_40.1 r_40.2.1 r_40.2.2.1 r_40.2.2.2.1 r_40.2.2.2.2.1 r_40.2.2.2.2.2.1 r_40.2.2.2.2.2.2.1 r_40.2.2.2.2.2.2.2.1 r_40.2.2.2.2.2.2.2.2.1 r_40.2.2.2.2.2.2.2.2.2.1 r_40.2.2.2.2.2.2.2.2.2.2.1 r_40.2.2.2.2.2.2.2.2.2.2.2.1 r_40.2.2.2.2.2.2.2.2.2.2.2.2.1 r_40.2.2.2.2.2.2.2.2.2.2.2.2.2.1 r_40.2.2.2.2.2.2.2.2.2.2.2.2.2.2.1 r_40.2.2.2.2.2.2.2.2.2.2.2.2.2.2.2.1 r_40.2.2.2.2.2.2.2.2.2.2.2.2.2.2.2.2.1 r_40.2.2.2.2.2.2.2.2.2.2.2.2.2.2.2.2.2)) (As := []) (b := am 0) (st := []) C0 (c_X8_record l dC dI cI cJ cZ cO am N mo  r_40 hc_40) rfl 0 gX8_word_X8_record (by decide +kernel) ⟨Nat.le_of_ble_eq_true rfl, Nat.le_of_ble_eq_true rfl⟩ rfl 0 8 rfl rfl  Cut.all rfl (Nat.le_of_ble_eq_true rfl) dX8_word_40 rfl ⟨Nat.zero_le _, Nat.zero_le _⟩ ?_
        refine V_aload_n C0 dX8_word_43 0 rfl rfl ?_
        refine V_get C0 fl_X8_word_7 0 rfl rfl dX8_word_44 rfl ?_
        refine V_iconst (v := 1) C0 dX8_word_47 (by decide) rfl ?_
        obtain ⟨hi48, hf⟩ := ck_inv hf
        refine V_iald C0 1 0 rfl rfl hi48 dX8_word_48 rfl ?_
        refine V_topi (fun x2_1 ex2_1 => ?_)
        have hf := bd_inv ex2_1 hf
        refine V_istore_n (lv' := [(2, .int x2_1), (0, .ref (am 0)), (1, .int x1)]) C0 dX8_word_49 rfl (by decide) rfl rfl ?_
        refine V_bipush (v := 98) C0 dX8_word_50 (by decide) rfl ?_
        refine V_bipush (v := 14) C0 dX8_word_52 (by decide) rfl ?_
        refine V_iload_n C0 dX8_word_54 0 rfl rfl ?_
        refine V_imul C0 dX8_word_55 rfl ?_
        refine V_iadd C0 dX8_word_56 rfl ?_
        refine V_topi (fun x3_2 ex3_2 => ?_)
        have hf := bd_inv ex3_2 hf
        refine V_istore_n (lv' := [(3, .int x3_2), (2, .int x2_1), (0, .ref (am 0)), (1, .int x1)]) C0 dX8_word_57 rfl (by decide) rfl rfl ?_
        refine V_aload_n C0 dX8_word_58 2 rfl rfl ?_
        refine V_get C0 fl_X8_word_7 0 rfl rfl dX8_word_59 rfl ?_
        refine V_iload_n C0 dX8_word_62 0 rfl rfl ?_
        refine V_iconst (v := 0) C0 dX8_word_63 (by decide) rfl ?_
        refine V_iadd C0 dX8_word_64 rfl ?_
        refine V_aload_n C0 dX8_word_65 2 rfl rfl ?_
        refine V_get C0 fl_X8_word_135 0 rfl rfl dX8_word_66 rfl ?_
        obtain ⟨hi69, hf⟩ := ck_inv hf
        refine V_iast (ws' := (W_M cI cJ cZ cO am (upd r_40.1 ((x3_2 + 0).toNatClampNeg) r_40.2.2.2.2.2.2.2.1) r_40.2.1 r_40.2.2.1 r_40.2.2.2.1 r_40.2.2.2.2.1 r_40.2.2.2.2.2.1 r_40.2.2.2.2.2.2.1 r_40.2.2.2.2.2.2.2.1 r_40.2.2.2.2.2.2.2.2.1 r_40.2.2.2.2.2.2.2.2.2.1 r_40.2.2.2.2.2.2.2.2.2.2.1 r_40.2.2.2.2.2.2.2.2.2.2.2.1 r_40.2.2.2.2.2.2.2.2.2.2.2.2.1 r_40.2.2.2.2.2.2.2.2.2.2.2.2.2.1 r_40.2.2.2.2.2.2.2.2.2.2.2.2.2.2.1 r_40.2.2.2.2.2.2.2.2.2.2.2.2.2.2.2.1 r_40.2.2.2.2.2.2.2.2.2.2.2.2.2.2.2.2.1 r_40.2.2.2.2.2.2.2.2.2.2.2.2.2.2.2.2.2)) C0 1 0 rfl rfl hi69 dX8_word_69 rfl rfl ?_
        refine V_aload_n C0 dX8_word_70 2 rfl rfl ?_
        refine V_get C0 fl_X8_word_7 0 rfl rfl dX8_word_71 rfl ?_
        refine V_iload_n C0 dX8_word_74 0 rfl rfl ?_
        refine V_iconst (v := 1) C0 dX8_word_75 (by decide) rfl ?_
        refine V_iadd C0 dX8_word_76 rfl ?_
        refine V_iload_n C0 dX8_word_77 3 rfl rfl ?_
        obtain ⟨hi78, hf⟩ := ck_inv hf
        refine V_iast (ws' := (W_M cI cJ cZ cO am (upd (upd r_40.1 ((x3_2 + 0).toNatClampNeg) r_40.2.2.2.2.2.2.2.1) ((x3_2 + 1).toNatClampNeg) x1) r_40.2.1 r_40.2.2.1 r_40.2.2.2.1 r_40.2.2.2.2.1 r_40.2.2.2.2.2.1 r_40.2.2.2.2.2.2.1 r_40.2.2.2.2.2.2.2.1 r_40.2.2.2.2.2.2.2.2.1 r_40.2.2.2.2.2.2.2.2.2.1 r_40.2.2.2.2.2.2.2.2.2.2.1 r_40.2.2.2.2.2.2.2.2.2.2.2.1 r_40.2.2.2.2.2.2.2.2.2.2.2.2.1 r_40.2.2.2.2.2.2.2.2.2.2.2.2.2.1 r_40.2.2.2.2.2.2.2.2.2.2.2.2.2.2.1 r_40.2.2.2.2.2.2.2.2.2.2.2.2.2.2.2.1 r_40.2.2.2.2.2.2.2.2.2.2.2.2.2.2.2.2.1 r_40.2.2.2.2.2.2.2.2.2.2.2.2.2.2.2.2.2)) C0 1 0 rfl rfl hi78 dX8_word_78 rfl rfl ?_
        refine V_iconst (v := 0) C0 dX8_word_79 (by decide) rfl ?_
        refine V_istore (lv' := [(4, .int 0), (3, .int x3_2), (2, .int x2_1), (0, .ref (am 0)), (1, .int x1)]) C0 dX8_word_80 (by decide) rfl rfl ?_
        have hL82 : ∀ (x2 : Int32) (x3 : Int32) (K : MV → Option (Int32 × MV)), (∀ (mo : MV), K mo = some o → V p l e RM_X8_word s m ([.ref (am 0), .int x1] : List Value).toArray below meth c 5 (dC, dI) A (MQ below (va_Qi (fun r (_ : Unit) => r = o.1) (PostW (dC, dI) (TY cI cJ cZ cO) A (fun _ => (W_M cI cJ cZ cO am o.2.1 o.2.2.1 o.2.2.2.1 o.2.2.2.2.1 o.2.2.2.2.2.1 o.2.2.2.2.2.2.1 o.2.2.2.2.2.2.2.1 o.2.2.2.2.2.2.2.2.1 o.2.2.2.2.2.2.2.2.2.1 o.2.2.2.2.2.2.2.2.2.2.1 o.2.2.2.2.2.2.2.2.2.2.2.1 o.2.2.2.2.2.2.2.2.2.2.2.2.1 o.2.2.2.2.2.2.2.2.2.2.2.2.2.1 o.2.2.2.2.2.2.2.2.2.2.2.2.2.2.1 o.2.2.2.2.2.2.2.2.2.2.2.2.2.2.2.1 o.2.2.2.2.2.2.2.2.2.2.2.2.2.2.2.2.1 o.2.2.2.2.2.2.2.2.2.2.2.2.2.2.2.2.2.1 o.2.2.2.2.2.2.2.2.2.2.2.2.2.2.2.2.2.2))) A) ([.ref (am 0), .int x1] : List Value).toArray s 0 0 A) 0 0 (W_M cI cJ cZ cO am mo.1 mo.2.1 mo.2.2.1 mo.2.2.2.1 mo.2.2.2.2.1 mo.2.2.2.2.2.1 mo.2.2.2.2.2.2.1 mo.2.2.2.2.2.2.2.1 mo.2.2.2.2.2.2.2.2.1 mo.2.2.2.2.2.2.2.2.2.1 mo.2.2.2.2.2.2.2.2.2.2.1 mo.2.2.2.2.2.2.2.2.2.2.2.1 mo.2.2.2.2.2.2.2.2.2.2.2.2.1 mo.2.2.2.2.2.2.2.2.2.2.2.2.2.1 mo.2.2.2.2.2.2.2.2.2.2.2.2.2.2.1 mo.2.2.2.2.2.2.2.2.2.2.2.2.2.2.2.1 mo.2.2.2.2.2.2.2.2.2.2.2.2.2.2.2.2.1 mo.2.2.2.2.2.2.2.2.2.2.2.2.2.2.2.2.2) 131 [(0, .ref (am 0)), (2, .int x2)] []) → ∀ (n : Nat) (x4 : Int32) (mo : MV), f_X8_word_L82 N x1 x2 x3 K n x4 mo = some o → V p l e RM_X8_word s m ([.ref (am 0), .int x1] : List Value).toArray below meth c 5 (dC, dI) A (MQ below (va_Qi (fun r (_ : Unit) => r = o.1) (PostW (dC, dI) (TY cI cJ cZ cO) A (fun _ => (W_M cI cJ cZ cO am o.2.1 o.2.2.1 o.2.2.2.1 o.2.2.2.2.1 o.2.2.2.2.2.1 o.2.2.2.2.2.2.1 o.2.2.2.2.2.2.2.1 o.2.2.2.2.2.2.2.2.1 o.2.2.2.2.2.2.2.2.2.1 o.2.2.2.2.2.2.2.2.2.2.1 o.2.2.2.2.2.2.2.2.2.2.2.1 o.2.2.2.2.2.2.2.2.2.2.2.2.1 o.2.2.2.2.2.2.2.2.2.2.2.2.2.1 o.2.2.2.2.2.2.2.2.2.2.2.2.2.2.1 o.2.2.2.2.2.2.2.2.2.2.2.2.2.2.2.1 o.2.2.2.2.2.2.2.2.2.2.2.2.2.2.2.2.1 o.2.2.2.2.2.2.2.2.2.2.2.2.2.2.2.2.2.1 o.2.2.2.2.2.2.2.2.2.2.2.2.2.2.2.2.2.2))) A) ([.ref (am 0), .int x1] : List Value).toArray s 0 0 A) 0 0 (W_M cI cJ cZ cO am mo.1 mo.2.1 mo.2.2.1 mo.2.2.2.1 mo.2.2.2.2.1 mo.2.2.2.2.2.1 mo.2.2.2.2.2.2.1 mo.2.2.2.2.2.2.2.1 mo.2.2.2.2.2.2.2.2.1 mo.2.2.2.2.2.2.2.2.2.1 mo.2.2.2.2.2.2.2.2.2.2.1 mo.2.2.2.2.2.2.2.2.2.2.2.1 mo.2.2.2.2.2.2.2.2.2.2.2.2.1 mo.2.2.2.2.2.2.2.2.2.2.2.2.2.1 mo.2.2.2.2.2.2.2.2.2.2.2.2.2.2.1 mo.2.2.2.2.2.2.2.2.2.2.2.2.2.2.2.1 mo.2.2.2.2.2.2.2.2.2.2.2.2.2.2.2.2.1 mo.2.2.2.2.2.2.2.2.2.2.2.2.2.2.2.2.2) 82 [(0, .ref (am 0)), (2, .int x2), (3, .int x3), (4, .int x4)] [] := by
          intro x2 x3 K hK n
          induction n with
          | zero => intro x4 mo hf; cases hf
          | succ n hREC =>
            intro x4 mo hf
            rw [f_X8_word_L82] at hf
            refine V_iload C0 dX8_word_82 3 rfl rfl ?_
            refine V_bipush (v := 12) C0 dX8_word_84 (by decide) rfl ?_
            refine V_icmp_ge (tgt := 131) C0 dX8_word_86 (by decide) rfl (fun c86 => ?_) (fun c86 => ?_)
            · have hf := ite_t c86 hf
              exact V.sub [0, 1] rfl (hK mo hf)
            · have hf := ite_f c86 hf
              refine V_aload_n C0 dX8_word_89 0 rfl rfl ?_
              refine V_get C0 fl_X8_word_7 0 rfl rfl dX8_word_90 rfl ?_
              refine V_iload_n C0 dX8_word_93 2 rfl rfl ?_
              refine V_iconst (v := 2) C0 dX8_word_94 (by decide) rfl ?_
              refine V_iadd C0 dX8_word_95 rfl ?_
              refine V_iload C0 dX8_word_96 3 rfl rfl ?_
              refine V_iadd C0 dX8_word_98 rfl ?_
              refine V_iload C0 dX8_word_99 3 rfl rfl ?_
              refine V_aload_n C0 dX8_word_101 0 rfl rfl ?_
              refine V_get C0 fl_X8_word_135 0 rfl rfl dX8_word_102 rfl ?_
              refine jn_elim hf (fun (J : Int32 → Option (Int32 × MV)) => ∀ (s2_124 : Int32), J s2_124 = some o → V p l e RM_X8_word s m ([.ref (am 0), .int x1] : List Value).toArray below meth c 5 (dC, dI) A (MQ below (va_Qi (fun r (_ : Unit) => r = o.1) (PostW (dC, dI) (TY cI cJ cZ cO) A (fun _ => (W_M cI cJ cZ cO am o.2.1 o.2.2.1 o.2.2.2.1 o.2.2.2.2.1 o.2.2.2.2.2.1 o.2.2.2.2.2.2.1 o.2.2.2.2.2.2.2.1 o.2.2.2.2.2.2.2.2.1 o.2.2.2.2.2.2.2.2.2.1 o.2.2.2.2.2.2.2.2.2.2.1 o.2.2.2.2.2.2.2.2.2.2.2.1 o.2.2.2.2.2.2.2.2.2.2.2.2.1 o.2.2.2.2.2.2.2.2.2.2.2.2.2.1 o.2.2.2.2.2.2.2.2.2.2.2.2.2.2.1 o.2.2.2.2.2.2.2.2.2.2.2.2.2.2.2.1 o.2.2.2.2.2.2.2.2.2.2.2.2.2.2.2.2.1 o.2.2.2.2.2.2.2.2.2.2.2.2.2.2.2.2.2.1 o.2.2.2.2.2.2.2.2.2.2.2.2.2.2.2.2.2.2))) A) ([.ref (am 0), .int x1] : List Value).toArray s 0 0 A) 0 0 (W_M cI cJ cZ cO am mo.1 mo.2.1 mo.2.2.1 mo.2.2.2.1 mo.2.2.2.2.1 mo.2.2.2.2.2.1 mo.2.2.2.2.2.2.1 mo.2.2.2.2.2.2.2.1 mo.2.2.2.2.2.2.2.2.1 mo.2.2.2.2.2.2.2.2.2.1 mo.2.2.2.2.2.2.2.2.2.2.1 mo.2.2.2.2.2.2.2.2.2.2.2.1 mo.2.2.2.2.2.2.2.2.2.2.2.2.1 mo.2.2.2.2.2.2.2.2.2.2.2.2.2.1 mo.2.2.2.2.2.2.2.2.2.2.2.2.2.2.1 mo.2.2.2.2.2.2.2.2.2.2.2.2.2.2.2.1 mo.2.2.2.2.2.2.2.2.2.2.2.2.2.2.2.2.1 mo.2.2.2.2.2.2.2.2.2.2.2.2.2.2.2.2.2) 124 [(0, .ref (am 0)), (2, .int x2), (3, .int x3), (4, .int x4)] [.int s2_124, .int ((x3 + 2) + x4), .ref (am 1)]) ?_ ?_
              · intro s2_124 hf
                obtain ⟨hi124, hf⟩ := ck_inv hf
                refine V_iast (ws' := (W_M cI cJ cZ cO am (upd mo.1 (((x3 + 2) + x4).toNatClampNeg) s2_124) mo.2.1 mo.2.2.1 mo.2.2.2.1 mo.2.2.2.2.1 mo.2.2.2.2.2.1 mo.2.2.2.2.2.2.1 mo.2.2.2.2.2.2.2.1 mo.2.2.2.2.2.2.2.2.1 mo.2.2.2.2.2.2.2.2.2.1 mo.2.2.2.2.2.2.2.2.2.2.1 mo.2.2.2.2.2.2.2.2.2.2.2.1 mo.2.2.2.2.2.2.2.2.2.2.2.2.1 mo.2.2.2.2.2.2.2.2.2.2.2.2.2.1 mo.2.2.2.2.2.2.2.2.2.2.2.2.2.2.1 mo.2.2.2.2.2.2.2.2.2.2.2.2.2.2.2.1 mo.2.2.2.2.2.2.2.2.2.2.2.2.2.2.2.2.1 mo.2.2.2.2.2.2.2.2.2.2.2.2.2.2.2.2.2)) C0 1 0 rfl rfl hi124 dX8_word_124 rfl rfl ?_
                refine V_iinc (k := 3) (v := x4 + 1) (lv' := [(4, .int (x4 + 1)), (0, .ref (am 0)), (2, .int x2), (3, .int x3)]) C0 dX8_word_125 rfl rfl (by decide) rfl rfl ?_
                refine V_goto (tgt := 82) C0 dX8_word_128 (by decide) ?_
                exact V.sub [1, 2, 3, 0] rfl (hREC (x4 + 1) ((upd mo.1 (((x3 + 2) + x4).toNatClampNeg) s2_124, mo.2.1, mo.2.2.1, mo.2.2.2.1, mo.2.2.2.2.1, mo.2.2.2.2.2.1, mo.2.2.2.2.2.2.1, mo.2.2.2.2.2.2.2.1, mo.2.2.2.2.2.2.2.2.1, mo.2.2.2.2.2.2.2.2.2.1, mo.2.2.2.2.2.2.2.2.2.2.1, mo.2.2.2.2.2.2.2.2.2.2.2.1, mo.2.2.2.2.2.2.2.2.2.2.2.2.1, mo.2.2.2.2.2.2.2.2.2.2.2.2.2.1, mo.2.2.2.2.2.2.2.2.2.2.2.2.2.2.1, mo.2.2.2.2.2.2.2.2.2.2.2.2.2.2.2.1, mo.2.2.2.2.2.2.2.2.2.2.2.2.2.2.2.2.1, mo.2.2.2.2.2.2.2.2.2.2.2.2.2.2.2.2.2)) hf)
              · intro J124 hJ124 hf
                refine V_icmp_ge (tgt := 123) C0 dX8_word_105 (by decide) rfl (fun c105 => ?_) (fun c105 => ?_)
                · have hf := ite_t c105 hf
                  refine V_iconst (v := 0) C0 dX8_word_123 (by decide) rfl ?_
                  exact V.sub [0, 1, 2, 3] rfl (hJ124 0 hf)
                · have hf := ite_f c105 hf
                  refine V_aload_n C0 dX8_word_108 0 rfl rfl ?_
                  refine V_get C0 fl_X8_word_25 0 rfl rfl dX8_word_109 rfl ?_
                  refine V_iload C0 dX8_word_112 3 rfl rfl ?_
                  obtain ⟨hi114, hf⟩ := ck_inv hf
                  refine V_iald C0 6 0 rfl rfl hi114 dX8_word_114 rfl ?_
                  refine V_bipush (v := 97) C0 dX8_word_115 (by decide) rfl ?_
                  refine V_isub C0 dX8_word_117 rfl ?_
                  refine V_iconst (v := 1) C0 dX8_word_118 (by decide) rfl ?_
                  refine V_iadd C0 dX8_word_119 rfl ?_
                  refine V_goto (tgt := 124) C0 dX8_word_120 (by decide) ?_
                  exact V.sub [0, 1, 2, 3] rfl (hJ124 (((mo.2.2.2.2.2.2.1 (x4.toNatClampNeg)) - 97) + 1) hf)
        refine V.sub [3, 2, 1, 0] rfl (hL82 x2_1 x3_2 _ ?_ N 0 ((upd (upd r_40.1 ((x3_2 + 0).toNatClampNeg) r_40.2.2.2.2.2.2.2.1) ((x3_2 + 1).toNatClampNeg) x1, r_40.2.1, r_40.2.2.1, r_40.2.2.2.1, r_40.2.2.2.2.1, r_40.2.2.2.2.2.1, r_40.2.2.2.2.2.2.1, r_40.2.2.2.2.2.2.2.1, r_40.2.2.2.2.2.2.2.2.1, r_40.2.2.2.2.2.2.2.2.2.1, r_40.2.2.2.2.2.2.2.2.2.2.1, r_40.2.2.2.2.2.2.2.2.2.2.2.1, r_40.2.2.2.2.2.2.2.2.2.2.2.2.1, r_40.2.2.2.2.2.2.2.2.2.2.2.2.2.1, r_40.2.2.2.2.2.2.2.2.2.2.2.2.2.2.1, r_40.2.2.2.2.2.2.2.2.2.2.2.2.2.2.2.1, r_40.2.2.2.2.2.2.2.2.2.2.2.2.2.2.2.2.1, r_40.2.2.2.2.2.2.2.2.2.2.2.2.2.2.2.2.2)) hf)
        intro mo_82 hf
        refine V_aload_n C0 dX8_word_131 0 rfl rfl ?_
        refine V_get C0 fl_X8_word_7 0 rfl rfl dX8_word_132 rfl ?_
        refine V_iconst (v := 1) C0 dX8_word_135 (by decide) rfl ?_
        refine V_dup2_11 C0 dX8_word_136 rfl rfl rfl ?_
        obtain ⟨hi137, hf⟩ := ck_inv hf
        refine V_iald C0 1 0 rfl rfl hi137 dX8_word_137 rfl ?_
        refine V_iconst (v := 1) C0 dX8_word_138 (by decide) rfl ?_
        refine V_iadd C0 dX8_word_139 rfl ?_
        obtain ⟨hi140, hf⟩ := ck_inv hf
        refine V_iast (ws' := (W_M cI cJ cZ cO am (upd mo_82.1 ((1 : Int32).toNatClampNeg) ((mo_82.1 ((1 : Int32).toNatClampNeg)) + 1)) mo_82.2.1 mo_82.2.2.1 mo_82.2.2.2.1 mo_82.2.2.2.2.1 mo_82.2.2.2.2.2.1 mo_82.2.2.2.2.2.2.1 mo_82.2.2.2.2.2.2.2.1 mo_82.2.2.2.2.2.2.2.2.1 mo_82.2.2.2.2.2.2.2.2.2.1 mo_82.2.2.2.2.2.2.2.2.2.2.1 mo_82.2.2.2.2.2.2.2.2.2.2.2.1 mo_82.2.2.2.2.2.2.2.2.2.2.2.2.1 mo_82.2.2.2.2.2.2.2.2.2.2.2.2.2.1 mo_82.2.2.2.2.2.2.2.2.2.2.2.2.2.2.1 mo_82.2.2.2.2.2.2.2.2.2.2.2.2.2.2.2.1 mo_82.2.2.2.2.2.2.2.2.2.2.2.2.2.2.2.2.1 mo_82.2.2.2.2.2.2.2.2.2.2.2.2.2.2.2.2.2)) C0 1 0 rfl rfl hi140 dX8_word_140 rfl rfl ?_
        refine V_aload_n C0 dX8_word_141 0 rfl rfl ?_
        refine V_iconst (v := 0) C0 dX8_word_142 (by decide) rfl ?_
        refine V_put (ws' := (W_M cI cJ cZ cO am (upd mo_82.1 ((1 : Int32).toNatClampNeg) ((mo_82.1 ((1 : Int32).toNatClampNeg)) + 1)) mo_82.2.1 mo_82.2.2.1 mo_82.2.2.2.1 mo_82.2.2.2.2.1 mo_82.2.2.2.2.2.1 mo_82.2.2.2.2.2.2.1 0 mo_82.2.2.2.2.2.2.2.2.1 mo_82.2.2.2.2.2.2.2.2.2.1 mo_82.2.2.2.2.2.2.2.2.2.2.1 mo_82.2.2.2.2.2.2.2.2.2.2.2.1 mo_82.2.2.2.2.2.2.2.2.2.2.2.2.1 mo_82.2.2.2.2.2.2.2.2.2.2.2.2.2.1 mo_82.2.2.2.2.2.2.2.2.2.2.2.2.2.2.1 mo_82.2.2.2.2.2.2.2.2.2.2.2.2.2.2.2.1 mo_82.2.2.2.2.2.2.2.2.2.2.2.2.2.2.2.2.1 mo_82.2.2.2.2.2.2.2.2.2.2.2.2.2.2.2.2.2)) C0 fl_X8_word_135 tyX8_ok nmX8 rfl 0 rfl rfl rfl (Nat.le_of_ble_eq_true rfl) dX8_word_143 rfl rfl ?_
        refine V_iload_n C0 dX8_word_146 1 rfl rfl ?_
        obtain rfl := some_inv hf
        exact V_iret C0 () rfl rfl dX8_word_147
      · have hf := ite_t c33 hf
        refine V_bipush (v := (-4)) C0 dX8_word_36 (by decide) rfl ?_
        obtain rfl := some_inv hf
        exact V_iret C0 () rfl rfl dX8_word_38
    · have hf := ite_t c19 hf
      refine V_bipush (v := (-2)) C0 dX8_word_22 (by decide) rfl ?_
      obtain rfl := some_inv hf
      exact V_iret C0 () rfl rfl dX8_word_24
  · have hf := ite_t c6 hf
    refine V_bipush (v := (-3)) C0 dX8_word_9 (by decide) rfl ?_
    obtain rfl := some_inv hf
    exact V_iret C0 () rfl rfl dX8_word_11
abbrev RM_X8_recount : Room := { frames := 2, cells := 0, slots := 0, locals := 45 }
theorem in_X8_recount_X8 : ∀ w ∈ u_ws RX8 TX8 18, w ∈ wsX8_recount := by decide +kernel
theorem fl_X8_recount_7 : FL RX8 wsX8_recount 8 7 0 RX8 TX8 18 := ⟨in_X8_recount_X8, rfl, by decide, by decide +kernel, rfl⟩
set_option maxRecDepth 100000 in
set_option maxHeartbeats 4000000 in
theorem c_X8_recount (l : Launch) (dC : Nat → ClassId) (dI : Nat → Nat → Nat) (cI cJ cZ cO : ClassId) (am : Nat → Nat) (N : Nat) (mo : MV) (x1 : Int32) (x2 : Int32) (o : Int32 × MV) (hf : f_X8_recount N mo x1 x2 = some o) : MetI l yX8_recount wsX8_recount RM_X8_recount (dC, dI) (TY cI cJ cZ cO) [.ref (am 0), .int x1, .int x2] (W_M cI cJ cZ cO am mo.1 mo.2.1 mo.2.2.1 mo.2.2.2.1 mo.2.2.2.2.1 mo.2.2.2.2.2.1 mo.2.2.2.2.2.2.1 mo.2.2.2.2.2.2.2.1 mo.2.2.2.2.2.2.2.2.1 mo.2.2.2.2.2.2.2.2.2.1 mo.2.2.2.2.2.2.2.2.2.2.1 mo.2.2.2.2.2.2.2.2.2.2.2.1 mo.2.2.2.2.2.2.2.2.2.2.2.2.1 mo.2.2.2.2.2.2.2.2.2.2.2.2.2.1 mo.2.2.2.2.2.2.2.2.2.2.2.2.2.2.1 mo.2.2.2.2.2.2.2.2.2.2.2.2.2.2.2.1 mo.2.2.2.2.2.2.2.2.2.2.2.2.2.2.2.2.1 mo.2.2.2.2.2.2.2.2.2.2.2.2.2.2.2.2.2) (fun r (_ : Unit) => r = o.1) (fun _ => (W_M cI cJ cZ cO am o.2.1 o.2.2.1 o.2.2.2.1 o.2.2.2.2.1 o.2.2.2.2.2.1 o.2.2.2.2.2.2.1 o.2.2.2.2.2.2.2.1 o.2.2.2.2.2.2.2.2.1 o.2.2.2.2.2.2.2.2.2.1 o.2.2.2.2.2.2.2.2.2.2.1 o.2.2.2.2.2.2.2.2.2.2.2.1 o.2.2.2.2.2.2.2.2.2.2.2.2.1 o.2.2.2.2.2.2.2.2.2.2.2.2.2.1 o.2.2.2.2.2.2.2.2.2.2.2.2.2.2.1 o.2.2.2.2.2.2.2.2.2.2.2.2.2.2.2.1 o.2.2.2.2.2.2.2.2.2.2.2.2.2.2.2.2.1 o.2.2.2.2.2.2.2.2.2.2.2.2.2.2.2.2.2.1 o.2.2.2.2.2.2.2.2.2.2.2.2.2.2.2.2.2.2)) := by
  refine MetI.ofV (cc := cX8_recount) (maxL := 4) (ret := (some .int)) (own := RX8) (lv0 := [(0, .ref (am 0)), (1, .int x1), (2, .int x2)]) (by decide) rfl rfl (Nat.le_of_ble_eq_true rfl) rfl ?_
  intro p e s m below meth c A C0 _
  unfold f_X8_recount at hf
  refine V_aload_n C0 dX8_recount_0 0 rfl rfl ?_
  refine V_iload_n C0 dX8_recount_1 1 rfl rfl ?_
  obtain ⟨r_2, hc_2, hf⟩ := bind_inv hf
  refine V_cVI (ws' := (W_M cI cJ cZ cO am mo.1 mo.2.1 mo.2.2.1 mo.2.2.2.1 mo.2.2.2.2.1 mo.2.2.2.2.2.1 mo.2.2.2.2.2.2.1 mo.2.2.2.2.2.2.2.1 mo.2.2.2.2.2.2.2.2.1 mo.2.2.2.2.2.2.2.2.2.1 mo.2.2.2.2.2.2.2.2.2.2.1 mo.2.2.2.2.2.2.2.2.2.2.2.1 mo.2.2.2.2.2.2.2.2.2.2.2.2.1 mo.2.2.2.2.2.2.2.2.2.2.2.2.2.1 mo.2.2.2.2.2.2.2.2.2.2.2.2.2.2.1 mo.2.2.2.2.2.2.2.2.2.2.2.2.2.2.2.1 mo.2.2.2.2.2.2.2.2.2.2.2.2.2.2.2.2.1 mo.2.2.2.2.2.2.2.2.2.2.2.2.2.2.2.2.2)) (As := [.int x1]) (b := am 0) (st := []) C0 (c_X8_isWord l dC dI cI cJ cZ cO am N mo x1 r_2 hc_2) rfl 1 gX8_recount_X8_isWord (by decide +kernel) ⟨Nat.le_of_ble_eq_true rfl, Nat.le_of_ble_eq_true rfl⟩ rfl 0 8 rfl rfl  Cut.all rfl (Nat.le_of_ble_eq_true rfl) dX8_recount_2 rfl ⟨Nat.zero_le _, Nat.zero_le _⟩ ?_
  refine jn_elim hf (fun (J : Unit → Option (Int32 × MV)) => ∀ (u : Unit), J u = some o → V p l e RM_X8_recount s m ([.ref (am 0), .int x1, .int x2] : List Value).toArray below meth c 4 (dC, dI) A (MQ below (va_Qi (fun r (_ : Unit) => r = o.1) (PostW (dC, dI) (TY cI cJ cZ cO) A (fun _ => (W_M cI cJ cZ cO am o.2.1 o.2.2.1 o.2.2.2.1 o.2.2.2.2.1 o.2.2.2.2.2.1 o.2.2.2.2.2.2.1 o.2.2.2.2.2.2.2.1 o.2.2.2.2.2.2.2.2.1 o.2.2.2.2.2.2.2.2.2.1 o.2.2.2.2.2.2.2.2.2.2.1 o.2.2.2.2.2.2.2.2.2.2.2.1 o.2.2.2.2.2.2.2.2.2.2.2.2.1 o.2.2.2.2.2.2.2.2.2.2.2.2.2.1 o.2.2.2.2.2.2.2.2.2.2.2.2.2.2.1 o.2.2.2.2.2.2.2.2.2.2.2.2.2.2.2.1 o.2.2.2.2.2.2.2.2.2.2.2.2.2.2.2.2.1 o.2.2.2.2.2.2.2.2.2.2.2.2.2.2.2.2.2.1 o.2.2.2.2.2.2.2.2.2.2.2.2.2.2.2.2.2.2))) A) ([.ref (am 0), .int x1, .int x2] : List Value).toArray s 0 0 A) 0 0 (W_M cI cJ cZ cO am mo.1 mo.2.1 mo.2.2.1 mo.2.2.2.1 mo.2.2.2.2.1 mo.2.2.2.2.2.1 mo.2.2.2.2.2.2.1 mo.2.2.2.2.2.2.2.1 mo.2.2.2.2.2.2.2.2.1 mo.2.2.2.2.2.2.2.2.2.1 mo.2.2.2.2.2.2.2.2.2.2.1 mo.2.2.2.2.2.2.2.2.2.2.2.1 mo.2.2.2.2.2.2.2.2.2.2.2.2.1 mo.2.2.2.2.2.2.2.2.2.2.2.2.2.1 mo.2.2.2.2.2.2.2.2.2.2.2.2.2.2.1 mo.2.2.2.2.2.2.2.2.2.2.2.2.2.2.2.1 mo.2.2.2.2.2.2.2.2.2.2.2.2.2.2.2.2.1 mo.2.2.2.2.2.2.2.2.2.2.2.2.2.2.2.2.2) 18 [(0, .ref (am 0)), (1, .int x1)] []) ?_ ?_
  · intro u hf
    refine V_aload_n C0 dX8_recount_18 0 rfl rfl ?_
    refine V_iload_n C0 dX8_recount_19 1 rfl rfl ?_
    obtain ⟨r_20, hc_20, hf⟩ := bind_inv hf
    refine V_cVI (ws' := (W_M cI cJ cZ cO am mo.1 mo.2.1 mo.2.2.1 mo.2.2.2.1 mo.2.2.2.2.1 mo.2.2.2.2.2.1 mo.2.2.2.2.2.2.1 mo.2.2.2.2.2.2.2.1 mo.2.2.2.2.2.2.2.2.1 mo.2.2.2.2.2.2.2.2.2.1 mo.2.2.2.2.2.2.2.2.2.2.1 mo.2.2.2.2.2.2.2.2.2.2.2.1 mo.2.2.2.2.2.2.2.2.2.2.2.2.1 mo.2.2.2.2.2.2.2.2.2.2.2.2.2.1 mo.2.2.2.2.2.2.2.2.2.2.2.2.2.2.1 mo.2.2.2.2.2.2.2.2.2.2.2.2.2.2.2.1 mo.2.2.2.2.2.2.2.2.2.2.2.2.2.2.2.2.1 mo.2.2.2.2.2.2.2.2.2.2.2.2.2.2.2.2.2)) (As := [.int x1]) (b := am 0) (st := []) C0 (c_X8_isWord l dC dI cI cJ cZ cO am N mo x1 r_20 hc_20) rfl 1 gX8_recount_X8_isWord (by decide +kernel) ⟨Nat.le_of_ble_eq_true rfl, Nat.le_of_ble_eq_true rfl⟩ rfl 0 8 rfl rfl  Cut.all rfl (Nat.le_of_ble_eq_true rfl) dX8_recount_20 rfl ⟨Nat.zero_le _, Nat.zero_le _⟩ ?_
    refine V_if_eq (tgt := 31) C0 dX8_recount_23 (by decide) rfl (fun c23 => ?_) (fun c23 => ?_)
    · have hf := ite_t c23 hf
      refine V_iconst (v := (-1)) C0 dX8_recount_31 (by decide) rfl ?_
      obtain rfl := some_inv hf
      exact V_iret C0 () rfl rfl dX8_recount_32
    · have hf := ite_f c23 hf
      refine V_bipush (v := (-2)) C0 dX8_recount_26 (by decide) rfl ?_
      refine V_goto (tgt := 32) C0 dX8_recount_28 (by decide) ?_
      obtain rfl := some_inv hf
      exact V_iret C0 () rfl rfl dX8_recount_32
  · intro J18 hJ18 hf
    refine V_if_eq (tgt := 18) C0 dX8_recount_5 (by decide) rfl (fun c5 => ?_) (fun c5 => ?_)
    · have hf := ite_t c5 hf
      exact V.sub [0, 1] rfl (hJ18 () hf)
    · have hf := ite_f c5 hf
      refine V_iload_n C0 dX8_recount_8 2 rfl rfl ?_
      refine V_iconst (v := 1) C0 dX8_recount_9 (by decide) rfl ?_
      refine V_bipush (v := 99) C0 dX8_recount_10 (by decide) rfl ?_
      obtain ⟨r_12, hc_12, hf⟩ := bind_inv hf
      refine V_cSI (ws' := (W_M cI cJ cZ cO am mo.1 mo.2.1 mo.2.2.1 mo.2.2.2.1 mo.2.2.2.2.1 mo.2.2.2.2.2.1 mo.2.2.2.2.2.2.1 mo.2.2.2.2.2.2.2.1 mo.2.2.2.2.2.2.2.2.1 mo.2.2.2.2.2.2.2.2.2.1 mo.2.2.2.2.2.2.2.2.2.2.1 mo.2.2.2.2.2.2.2.2.2.2.2.1 mo.2.2.2.2.2.2.2.2.2.2.2.2.1 mo.2.2.2.2.2.2.2.2.2.2.2.2.2.1 mo.2.2.2.2.2.2.2.2.2.2.2.2.2.2.1 mo.2.2.2.2.2.2.2.2.2.2.2.2.2.2.2.1 mo.2.2.2.2.2.2.2.2.2.2.2.2.2.2.2.2.1 mo.2.2.2.2.2.2.2.2.2.2.2.2.2.2.2.2.2)) (As := [.int x2, .int 1, .int 99]) (st := []) C0 (c_X8_within l dC dI cI cJ cZ cO  N  x2 1 99 r_12 hc_12) rfl 3 gX8_recount_X8_within (by decide +kernel) ⟨Nat.le_of_ble_eq_true rfl, Nat.le_of_ble_eq_true rfl⟩ rfl  ⟨_, pr1, fun _ => pr1⟩ rfl (Nat.le_of_ble_eq_true rfl) dX8_recount_12 rfl ⟨Nat.zero_le _, Nat.zero_le _⟩ ?_
      refine V_if_ne (tgt := 33) C0 dX8_recount_15 (by decide) rfl (fun c15 => ?_) (fun c15 => ?_)
      · have hf := ite_f c15 hf
        refine V_aload_n C0 dX8_recount_33 0 rfl rfl ?_
        obtain ⟨r_34, hc_34, hf⟩ := bind_inv hf
        refine V_cVV (ws' := (W_M cI cJ cZ cO am r_34.1 r_34.2.1 r_34.2.2.1 r_34.2.2.2.1 r_34.2.2.2.2.1 r_34.2.2.2.2.2.1 r_34.2.2.2.2.2.2.1 r_34.2.2.2.2.2.2.2.1 r_34.2.2.2.2.2.2.2.2.1 r_34.2.2.2.2.2.2.2.2.2.1 r_34.2.2.2.2.2.2.2.2.2.2.1 r_34.2.2.2.2.2.2.2.2.2.2.2.1 r_34.2.2.2.2.2.2.2.2.2.2.2.2.1 r_34.2.2.2.2.2.2.2.2.2.2.2.2.2.1 r_34.2.2.2.2.2.2.2.2.2.2.2.2.2.2.1 r_34.2.2.2.2.2.2.2.2.2.2.2.2.2.2.2.1 r_34.2.2.2.2.2.2.2.2.2.2.2.2.2.2.2.2.1 r_34.2.2.2.2.2.2.2.2.2.2.2.2.2.2.2.2.2)) (As := []) (b := am 0) (st := []) C0 (c_X8_record l dC dI cI cJ cZ cO am N mo  r_34 hc_34) rfl 0 gX8_recount_X8_record (by decide +kernel) ⟨Nat.le_of_ble_eq_true rfl, Nat.le_of_ble_eq_true rfl⟩ rfl 0 8 rfl rfl  Cut.all rfl (Nat.le_of_ble_eq_true rfl) dX8_recount_34 rfl ⟨Nat.zero_le _, Nat.zero_le _⟩ ?_
        refine V_aload_n C0 dX8_recount_37 0 rfl rfl ?_
        refine V_iload_n C0 dX8_recount_38 1 rfl rfl ?_
        refine V_iconst (v := 1) C0 dX8_recount_39 (by decide) rfl ?_
        obtain ⟨r_40, hc_40, hf⟩ := bind_inv hf
        refine V_cVI (ws' := (W_M cI cJ cZ cO am r_34.1 r_34.2.1 r_34.2.2.1 r_34.2.2.2.1 r_34.2.2.2.2.1 r_34.2.2.2.2.2.1 r_34.2.2.2.2.2.2.1 r_34.2.2.2.2.2.2.2.1 r_34.2.2.2.2.2.2.2.2.1 r_34.2.2.2.2.2.2.2.2.2.1 r_34.2.2.2.2.2.2.2.2.2.2.1 r_34.2.2.2.2.2.2.2.2.2.2.2.1 r_34.2.2.2.2.2.2.2.2.2.2.2.2.1 r_34.2.2.2.2.2.2.2.2.2.2.2.2.2.1 r_34.2.2.2.2.2.2.2.2.2.2.2.2.2.2.1 r_34.2.2.2.2.2.2.2.2.2.2.2.2.2.2.2.1 r_34.2.2.2.2.2.2.2.2.2.2.2.2.2.2.2.2.1 r_34.2.2.2.2.2.2.2.2.2.2.2.2.2.2.2.2.2)) (As := [.int x1, .int 1]) (b := am 0) (st := []) C0 (c_X8_wordPart l dC dI cI cJ cZ cO am N r_34 x1 1 r_40 hc_40) rfl 2 gX8_recount_X8_wordPart (by decide +kernel) ⟨Nat.le_of_ble_eq_true rfl, Nat.le_of_ble_eq_true rfl⟩ rfl 0 8 rfl rfl  Cut.all rfl (Nat.le_of_ble_eq_true rfl) dX8_recount_40 rfl ⟨Nat.zero_le _, Nat.zero_le _⟩ ?_
        refine V_istore_n (lv' := [(3, .int r_40), (0, .ref (am 0)), (1, .int x1), (2, .int x2)]) C0 dX8_recount_43 rfl (by decide) rfl rfl ?_
        refine V_aload_n C0 dX8_recount_44 1 rfl rfl ?_
        refine V_get C0 fl_X8_recount_7 0 rfl rfl dX8_recount_45 rfl ?_
        refine V_bipush (v := 98) C0 dX8_recount_48 (by decide) rfl ?_
        refine V_bipush (v := 14) C0 dX8_recount_50 (by decide) rfl ?_
        refine V_iload_n C0 dX8_recount_52 2 rfl rfl ?_
        refine V_imul C0 dX8_recount_53 rfl ?_
        refine V_iadd C0 dX8_recount_54 rfl ?_
        refine V_iconst (v := 1) C0 dX8_recount_55 (by decide) rfl ?_
        refine V_iadd C0 dX8_recount_56 rfl ?_
        refine V_iload_n C0 dX8_recount_57 3 rfl rfl ?_
        obtain ⟨hi58, hf⟩ := ck_inv hf
        refine V_iast (ws' := (W_M cI cJ cZ cO am (upd r_34.1 (((98 + (14 * x1)) + 1).toNatClampNeg) x2) r_34.2.1 r_34.2.2.1 r_34.2.2.2.1 r_34.2.2.2.2.1 r_34.2.2.2.2.2.1 r_34.2.2.2.2.2.2.1 r_34.2.2.2.2.2.2.2.1 r_34.2.2.2.2.2.2.2.2.1 r_34.2.2.2.2.2.2.2.2.2.1 r_34.2.2.2.2.2.2.2.2.2.2.1 r_34.2.2.2.2.2.2.2.2.2.2.2.1 r_34.2.2.2.2.2.2.2.2.2.2.2.2.1 r_34.2.2.2.2.2.2.2.2.2.2.2.2.2.1 r_34.2.2.2.2.2.2.2.2.2.2.2.2.2.2.1 r_34.2.2.2.2.2.2.2.2.2.2.2.2.2.2.2.1 r_34.2.2.2.2.2.2.2.2.2.2.2.2.2.2.2.2.1 r_34.2.2.2.2.2.2.2.2.2.2.2.2.2.2.2.2.2)) C0 1 0 rfl rfl hi58 dX8_recount_58 rfl rfl ?_
        refine V_iload_n C0 dX8_recount_59 0 rfl rfl ?_
        obtain rfl := some_inv hf
        exact V_iret C0 () rfl rfl dX8_recount_60
      · have hf := ite_t c15 hf
        exact V.sub [0, 1] rfl (hJ18 () hf)
abbrev RM_X8_forget : Room := { frames := 2, cells := 0, slots := 0, locals := 45 }
theorem in_X8_forget_X8 : ∀ w ∈ u_ws RX8 TX8 18, w ∈ wsX8_forget := by decide +kernel
theorem fl_X8_forget_7 : FL RX8 wsX8_forget 8 7 0 RX8 TX8 18 := ⟨in_X8_forget_X8, rfl, by decide, by decide +kernel, rfl⟩
set_option maxRecDepth 100000 in
set_option maxHeartbeats 4000000 in
theorem c_X8_forget (l : Launch) (dC : Nat → ClassId) (dI : Nat → Nat → Nat) (cI cJ cZ cO : ClassId) (am : Nat → Nat) (N : Nat) (mo : MV) (x1 : Int32) (o : Int32 × MV) (hf : f_X8_forget N mo x1 = some o) : MetI l yX8_forget wsX8_forget RM_X8_forget (dC, dI) (TY cI cJ cZ cO) [.ref (am 0), .int x1] (W_M cI cJ cZ cO am mo.1 mo.2.1 mo.2.2.1 mo.2.2.2.1 mo.2.2.2.2.1 mo.2.2.2.2.2.1 mo.2.2.2.2.2.2.1 mo.2.2.2.2.2.2.2.1 mo.2.2.2.2.2.2.2.2.1 mo.2.2.2.2.2.2.2.2.2.1 mo.2.2.2.2.2.2.2.2.2.2.1 mo.2.2.2.2.2.2.2.2.2.2.2.1 mo.2.2.2.2.2.2.2.2.2.2.2.2.1 mo.2.2.2.2.2.2.2.2.2.2.2.2.2.1 mo.2.2.2.2.2.2.2.2.2.2.2.2.2.2.1 mo.2.2.2.2.2.2.2.2.2.2.2.2.2.2.2.1 mo.2.2.2.2.2.2.2.2.2.2.2.2.2.2.2.2.1 mo.2.2.2.2.2.2.2.2.2.2.2.2.2.2.2.2.2) (fun r (_ : Unit) => r = o.1) (fun _ => (W_M cI cJ cZ cO am o.2.1 o.2.2.1 o.2.2.2.1 o.2.2.2.2.1 o.2.2.2.2.2.1 o.2.2.2.2.2.2.1 o.2.2.2.2.2.2.2.1 o.2.2.2.2.2.2.2.2.1 o.2.2.2.2.2.2.2.2.2.1 o.2.2.2.2.2.2.2.2.2.2.1 o.2.2.2.2.2.2.2.2.2.2.2.1 o.2.2.2.2.2.2.2.2.2.2.2.2.1 o.2.2.2.2.2.2.2.2.2.2.2.2.2.1 o.2.2.2.2.2.2.2.2.2.2.2.2.2.2.1 o.2.2.2.2.2.2.2.2.2.2.2.2.2.2.2.1 o.2.2.2.2.2.2.2.2.2.2.2.2.2.2.2.2.1 o.2.2.2.2.2.2.2.2.2.2.2.2.2.2.2.2.2.1 o.2.2.2.2.2.2.2.2.2.2.2.2.2.2.2.2.2.2)) := by
  refine MetI.ofV (cc := cX8_forget) (maxL := 3) (ret := (some .int)) (own := RX8) (lv0 := [(0, .ref (am 0)), (1, .int x1)]) (by decide) rfl rfl (Nat.le_of_ble_eq_true rfl) rfl ?_
  intro p e s m below meth c A C0 _
  unfold f_X8_forget at hf
  refine V_aload_n C0 dX8_forget_0 0 rfl rfl ?_
  refine V_iload_n C0 dX8_forget_1 1 rfl rfl ?_
  obtain ⟨r_2, hc_2, hf⟩ := bind_inv hf
  refine V_cVI (ws' := (W_M cI cJ cZ cO am mo.1 mo.2.1 mo.2.2.1 mo.2.2.2.1 mo.2.2.2.2.1 mo.2.2.2.2.2.1 mo.2.2.2.2.2.2.1 mo.2.2.2.2.2.2.2.1 mo.2.2.2.2.2.2.2.2.1 mo.2.2.2.2.2.2.2.2.2.1 mo.2.2.2.2.2.2.2.2.2.2.1 mo.2.2.2.2.2.2.2.2.2.2.2.1 mo.2.2.2.2.2.2.2.2.2.2.2.2.1 mo.2.2.2.2.2.2.2.2.2.2.2.2.2.1 mo.2.2.2.2.2.2.2.2.2.2.2.2.2.2.1 mo.2.2.2.2.2.2.2.2.2.2.2.2.2.2.2.1 mo.2.2.2.2.2.2.2.2.2.2.2.2.2.2.2.2.1 mo.2.2.2.2.2.2.2.2.2.2.2.2.2.2.2.2.2)) (As := [.int x1]) (b := am 0) (st := []) C0 (c_X8_isWord l dC dI cI cJ cZ cO am N mo x1 r_2 hc_2) rfl 1 gX8_forget_X8_isWord (by decide +kernel) ⟨Nat.le_of_ble_eq_true rfl, Nat.le_of_ble_eq_true rfl⟩ rfl 0 8 rfl rfl  Cut.all rfl (Nat.le_of_ble_eq_true rfl) dX8_forget_2 rfl ⟨Nat.zero_le _, Nat.zero_le _⟩ ?_
  refine V_if_ne (tgt := 10) C0 dX8_forget_5 (by decide) rfl (fun c5 => ?_) (fun c5 => ?_)
  · have hf := ite_f c5 hf
    refine V_aload_n C0 dX8_forget_10 0 rfl rfl ?_
    obtain ⟨r_11, hc_11, hf⟩ := bind_inv hf
    refine V_cVV (ws' := (W_M cI cJ cZ cO am r_11.1 r_11.2.1 r_11.2.2.1 r_11.2.2.2.1 r_11.2.2.2.2.1 r_11.2.2.2.2.2.1 r_11.2.2.2.2.2.2.1 r_11.2.2.2.2.2.2.2.1 r_11.2.2.2.2.2.2.2.2.1 r_11.2.2.2.2.2.2.2.2.2.1 r_11.2.2.2.2.2.2.2.2.2.2.1 r_11.2.2.2.2.2.2.2.2.2.2.2.1 r_11.2.2.2.2.2.2.2.2.2.2.2.2.1 r_11.2.2.2.2.2.2.2.2.2.2.2.2.2.1 r_11.2.2.2.2.2.2.2.2.2.2.2.2.2.2.1 r_11.2.2.2.2.2.2.2.2.2.2.2.2.2.2.2.1 r_11.2.2.2.2.2.2.2.2.2.2.2.2.2.2.2.2.1 r_11.2.2.2.2.2.2.2.2.2.2.2.2.2.2.2.2.2)) (As := []) (b := am 0) (st := []) C0 (c_X8_record l dC dI cI cJ cZ cO am N mo  r_11 hc_11) rfl 0 gX8_forget_X8_record (by decide +kernel) ⟨Nat.le_of_ble_eq_true rfl, Nat.le_of_ble_eq_true rfl⟩ rfl 0 8 rfl rfl  Cut.all rfl (Nat.le_of_ble_eq_true rfl) dX8_forget_11 rfl ⟨Nat.zero_le _, Nat.zero_le _⟩ ?_
    refine V_bipush (v := 98) C0 dX8_forget_14 (by decide) rfl ?_
    refine V_bipush (v := 14) C0 dX8_forget_16 (by decide) rfl ?_
    refine V_iload_n C0 dX8_forget_18 1 rfl rfl ?_
    refine V_imul C0 dX8_forget_19 rfl ?_
    refine V_iadd C0 dX8_forget_20 rfl ?_
    refine V_topi (fun x2_1 ex2_1 => ?_)
    have hf := bd_inv ex2_1 hf
    refine V_istore_n (lv' := [(2, .int x2_1), (0, .ref (am 0)), (1, .int x1)]) C0 dX8_forget_21 rfl (by decide) rfl rfl ?_
    have hL22 : ∀ (K : MV → Option (Int32 × MV)), (∀ (mo : MV), K mo = some o → V p l e RM_X8_forget s m ([.ref (am 0), .int x1] : List Value).toArray below meth c 3 (dC, dI) A (MQ below (va_Qi (fun r (_ : Unit) => r = o.1) (PostW (dC, dI) (TY cI cJ cZ cO) A (fun _ => (W_M cI cJ cZ cO am o.2.1 o.2.2.1 o.2.2.2.1 o.2.2.2.2.1 o.2.2.2.2.2.1 o.2.2.2.2.2.2.1 o.2.2.2.2.2.2.2.1 o.2.2.2.2.2.2.2.2.1 o.2.2.2.2.2.2.2.2.2.1 o.2.2.2.2.2.2.2.2.2.2.1 o.2.2.2.2.2.2.2.2.2.2.2.1 o.2.2.2.2.2.2.2.2.2.2.2.2.1 o.2.2.2.2.2.2.2.2.2.2.2.2.2.1 o.2.2.2.2.2.2.2.2.2.2.2.2.2.2.1 o.2.2.2.2.2.2.2.2.2.2.2.2.2.2.2.1 o.2.2.2.2.2.2.2.2.2.2.2.2.2.2.2.2.1 o.2.2.2.2.2.2.2.2.2.2.2.2.2.2.2.2.2.1 o.2.2.2.2.2.2.2.2.2.2.2.2.2.2.2.2.2.2))) A) ([.ref (am 0), .int x1] : List Value).toArray s 0 0 A) 0 0 (W_M cI cJ cZ cO am mo.1 mo.2.1 mo.2.2.1 mo.2.2.2.1 mo.2.2.2.2.1 mo.2.2.2.2.2.1 mo.2.2.2.2.2.2.1 mo.2.2.2.2.2.2.2.1 mo.2.2.2.2.2.2.2.2.1 mo.2.2.2.2.2.2.2.2.2.1 mo.2.2.2.2.2.2.2.2.2.2.1 mo.2.2.2.2.2.2.2.2.2.2.2.1 mo.2.2.2.2.2.2.2.2.2.2.2.2.1 mo.2.2.2.2.2.2.2.2.2.2.2.2.2.1 mo.2.2.2.2.2.2.2.2.2.2.2.2.2.2.1 mo.2.2.2.2.2.2.2.2.2.2.2.2.2.2.2.1 mo.2.2.2.2.2.2.2.2.2.2.2.2.2.2.2.2.1 mo.2.2.2.2.2.2.2.2.2.2.2.2.2.2.2.2.2) 61 [(0, .ref (am 0))] []) → ∀ (n : Nat) (x2 : Int32) (mo : MV), f_X8_forget_L22 N x1  K n x2 mo = some o → V p l e RM_X8_forget s m ([.ref (am 0), .int x1] : List Value).toArray below meth c 3 (dC, dI) A (MQ below (va_Qi (fun r (_ : Unit) => r = o.1) (PostW (dC, dI) (TY cI cJ cZ cO) A (fun _ => (W_M cI cJ cZ cO am o.2.1 o.2.2.1 o.2.2.2.1 o.2.2.2.2.1 o.2.2.2.2.2.1 o.2.2.2.2.2.2.1 o.2.2.2.2.2.2.2.1 o.2.2.2.2.2.2.2.2.1 o.2.2.2.2.2.2.2.2.2.1 o.2.2.2.2.2.2.2.2.2.2.1 o.2.2.2.2.2.2.2.2.2.2.2.1 o.2.2.2.2.2.2.2.2.2.2.2.2.1 o.2.2.2.2.2.2.2.2.2.2.2.2.2.1 o.2.2.2.2.2.2.2.2.2.2.2.2.2.2.1 o.2.2.2.2.2.2.2.2.2.2.2.2.2.2.2.1 o.2.2.2.2.2.2.2.2.2.2.2.2.2.2.2.2.1 o.2.2.2.2.2.2.2.2.2.2.2.2.2.2.2.2.2.1 o.2.2.2.2.2.2.2.2.2.2.2.2.2.2.2.2.2.2))) A) ([.ref (am 0), .int x1] : List Value).toArray s 0 0 A) 0 0 (W_M cI cJ cZ cO am mo.1 mo.2.1 mo.2.2.1 mo.2.2.2.1 mo.2.2.2.2.1 mo.2.2.2.2.2.1 mo.2.2.2.2.2.2.1 mo.2.2.2.2.2.2.2.1 mo.2.2.2.2.2.2.2.2.1 mo.2.2.2.2.2.2.2.2.2.1 mo.2.2.2.2.2.2.2.2.2.2.1 mo.2.2.2.2.2.2.2.2.2.2.2.1 mo.2.2.2.2.2.2.2.2.2.2.2.2.1 mo.2.2.2.2.2.2.2.2.2.2.2.2.2.1 mo.2.2.2.2.2.2.2.2.2.2.2.2.2.2.1 mo.2.2.2.2.2.2.2.2.2.2.2.2.2.2.2.1 mo.2.2.2.2.2.2.2.2.2.2.2.2.2.2.2.2.1 mo.2.2.2.2.2.2.2.2.2.2.2.2.2.2.2.2.2) 22 [(0, .ref (am 0)), (2, .int x2)] [] := by
      intro  K hK n
      induction n with
      | zero => intro x2 mo hf; cases hf
      | succ n hREC =>
        intro x2 mo hf
        rw [f_X8_forget_L22] at hf
        refine V_iload_n C0 dX8_forget_22 1 rfl rfl ?_
        refine V_bipush (v := 98) C0 dX8_forget_23 (by decide) rfl ?_
        refine V_bipush (v := 14) C0 dX8_forget_25 (by decide) rfl ?_
        refine V_aload_n C0 dX8_forget_27 0 rfl rfl ?_
        refine V_get C0 fl_X8_forget_7 0 rfl rfl dX8_forget_28 rfl ?_
        refine V_iconst (v := 1) C0 dX8_forget_31 (by decide) rfl ?_
        obtain ⟨hi32, hf⟩ := ck_inv hf
        refine V_iald C0 1 0 rfl rfl hi32 dX8_forget_32 rfl ?_
        refine V_iconst (v := 1) C0 dX8_forget_33 (by decide) rfl ?_
        refine V_isub C0 dX8_forget_34 rfl ?_
        refine V_imul C0 dX8_forget_35 rfl ?_
        refine V_iadd C0 dX8_forget_36 rfl ?_
        refine V_icmp_ge (tgt := 61) C0 dX8_forget_37 (by decide) rfl (fun c37 => ?_) (fun c37 => ?_)
        · have hf := ite_t c37 hf
          exact V.sub [0] rfl (hK mo hf)
        · have hf := ite_f c37 hf
          refine V_aload_n C0 dX8_forget_40 0 rfl rfl ?_
          refine V_get C0 fl_X8_forget_7 0 rfl rfl dX8_forget_41 rfl ?_
          refine V_iload_n C0 dX8_forget_44 1 rfl rfl ?_
          refine V_aload_n C0 dX8_forget_45 0 rfl rfl ?_
          refine V_get C0 fl_X8_forget_7 0 rfl rfl dX8_forget_46 rfl ?_
          refine V_iload_n C0 dX8_forget_49 1 rfl rfl ?_
          refine V_bipush (v := 14) C0 dX8_forget_50 (by decide) rfl ?_
          refine V_iadd C0 dX8_forget_52 rfl ?_
          obtain ⟨hi53, hf⟩ := ck_inv hf
          refine V_iald C0 1 0 rfl rfl hi53 dX8_forget_53 rfl ?_
          obtain ⟨hi54, hf⟩ := ck_inv hf
          refine V_iast (ws' := (W_M cI cJ cZ cO am (upd mo.1 (x2.toNatClampNeg) (mo.1 ((x2 + 14).toNatClampNeg))) mo.2.1 mo.2.2.1 mo.2.2.2.1 mo.2.2.2.2.1 mo.2.2.2.2.2.1 mo.2.2.2.2.2.2.1 mo.2.2.2.2.2.2.2.1 mo.2.2.2.2.2.2.2.2.1 mo.2.2.2.2.2.2.2.2.2.1 mo.2.2.2.2.2.2.2.2.2.2.1 mo.2.2.2.2.2.2.2.2.2.2.2.1 mo.2.2.2.2.2.2.2.2.2.2.2.2.1 mo.2.2.2.2.2.2.2.2.2.2.2.2.2.1 mo.2.2.2.2.2.2.2.2.2.2.2.2.2.2.1 mo.2.2.2.2.2.2.2.2.2.2.2.2.2.2.2.1 mo.2.2.2.2.2.2.2.2.2.2.2.2.2.2.2.2.1 mo.2.2.2.2.2.2.2.2.2.2.2.2.2.2.2.2.2)) C0 1 0 rfl rfl hi54 dX8_forget_54 rfl rfl ?_
          refine V_iinc (k := 1) (v := x2 + 1) (lv' := [(2, .int (x2 + 1)), (0, .ref (am 0))]) C0 dX8_forget_55 rfl rfl (by decide) rfl rfl ?_
          refine V_goto (tgt := 22) C0 dX8_forget_58 (by decide) ?_
          exact V.sub [1, 0] rfl (hREC (x2 + 1) ((upd mo.1 (x2.toNatClampNeg) (mo.1 ((x2 + 14).toNatClampNeg)), mo.2.1, mo.2.2.1, mo.2.2.2.1, mo.2.2.2.2.1, mo.2.2.2.2.2.1, mo.2.2.2.2.2.2.1, mo.2.2.2.2.2.2.2.1, mo.2.2.2.2.2.2.2.2.1, mo.2.2.2.2.2.2.2.2.2.1, mo.2.2.2.2.2.2.2.2.2.2.1, mo.2.2.2.2.2.2.2.2.2.2.2.1, mo.2.2.2.2.2.2.2.2.2.2.2.2.1, mo.2.2.2.2.2.2.2.2.2.2.2.2.2.1, mo.2.2.2.2.2.2.2.2.2.2.2.2.2.2.1, mo.2.2.2.2.2.2.2.2.2.2.2.2.2.2.2.1, mo.2.2.2.2.2.2.2.2.2.2.2.2.2.2.2.2.1, mo.2.2.2.2.2.2.2.2.2.2.2.2.2.2.2.2.2)) hf)
    refine V.sub [1, 0] rfl (hL22  _ ?_ N x2_1 r_11 hf)
    intro mo_22 hf
    refine V_aload_n C0 dX8_forget_61 0 rfl rfl ?_
    refine V_get C0 fl_X8_forget_7 0 rfl rfl dX8_forget_62 rfl ?_
    refine V_iconst (v := 1) C0 dX8_forget_65 (by decide) rfl ?_
    refine V_dup2_11 C0 dX8_forget_66 rfl rfl rfl ?_
    obtain ⟨hi67, hf⟩ := ck_inv hf
    refine V_iald C0 1 0 rfl rfl hi67 dX8_forget_67 rfl ?_
    refine V_iconst (v := 1) C0 dX8_forget_68 (by decide) rfl ?_
    refine V_isub C0 dX8_forget_69 rfl ?_
    obtain ⟨hi70, hf⟩ := ck_inv hf
    refine V_iast (ws' := (W_M cI cJ cZ cO am (upd mo_22.1 ((1 : Int32).toNatClampNeg) ((mo_22.1 ((1 : Int32).toNatClampNeg)) - 1)) mo_22.2.1 mo_22.2.2.1 mo_22.2.2.2.1 mo_22.2.2.2.2.1 mo_22.2.2.2.2.2.1 mo_22.2.2.2.2.2.2.1 mo_22.2.2.2.2.2.2.2.1 mo_22.2.2.2.2.2.2.2.2.1 mo_22.2.2.2.2.2.2.2.2.2.1 mo_22.2.2.2.2.2.2.2.2.2.2.1 mo_22.2.2.2.2.2.2.2.2.2.2.2.1 mo_22.2.2.2.2.2.2.2.2.2.2.2.2.1 mo_22.2.2.2.2.2.2.2.2.2.2.2.2.2.1 mo_22.2.2.2.2.2.2.2.2.2.2.2.2.2.2.1 mo_22.2.2.2.2.2.2.2.2.2.2.2.2.2.2.2.1 mo_22.2.2.2.2.2.2.2.2.2.2.2.2.2.2.2.2.1 mo_22.2.2.2.2.2.2.2.2.2.2.2.2.2.2.2.2.2)) C0 1 0 rfl rfl hi70 dX8_forget_70 rfl rfl ?_
    refine V_aload_n C0 dX8_forget_71 0 rfl rfl ?_
    refine V_get C0 fl_X8_forget_7 0 rfl rfl dX8_forget_72 rfl ?_
    refine V_iconst (v := 1) C0 dX8_forget_75 (by decide) rfl ?_
    obtain ⟨hi76, hf⟩ := ck_inv hf
    refine V_iald C0 1 0 rfl rfl hi76 dX8_forget_76 rfl ?_
    obtain rfl := some_inv hf
    exact V_iret C0 () rfl rfl dX8_forget_77
  · have hf := ite_t c5 hf
    refine V_iconst (v := (-1)) C0 dX8_forget_8 (by decide) rfl ?_
    obtain rfl := some_inv hf
    exact V_iret C0 () rfl rfl dX8_forget_9
abbrev RM_X8_grow : Room := { frames := 7, cells := 0, slots := 0, locals := 173 }
theorem in_X8_grow_X8 : ∀ w ∈ u_ws RX8 TX8 18, w ∈ wsX8_grow := by decide +kernel
theorem fl_X8_grow_7 : FL RX8 wsX8_grow 8 7 0 RX8 TX8 18 := ⟨in_X8_grow_X8, rfl, by decide, by decide +kernel, rfl⟩
theorem fl_X8_grow_44 : FL RX8 wsX8_grow 8 44 13 RX8 TX8 18 := ⟨in_X8_grow_X8, rfl, by decide, by decide +kernel, rfl⟩
theorem fl_X8_grow_50 : FL RX8 wsX8_grow 8 50 15 RX8 TX8 18 := ⟨in_X8_grow_X8, rfl, by decide, by decide +kernel, rfl⟩
set_option maxRecDepth 100000 in
set_option maxHeartbeats 4000000 in
theorem c_X8_grow (l : Launch) (dC : Nat → ClassId) (dI : Nat → Nat → Nat) (cI cJ cZ cO : ClassId) (am : Nat → Nat) (N : Nat) (mo : MV) (o : Int32 × MV) (hf : f_X8_grow N mo = some o) : MetI l yX8_grow wsX8_grow RM_X8_grow (dC, dI) (TY cI cJ cZ cO) [.ref (am 0)] (W_M cI cJ cZ cO am mo.1 mo.2.1 mo.2.2.1 mo.2.2.2.1 mo.2.2.2.2.1 mo.2.2.2.2.2.1 mo.2.2.2.2.2.2.1 mo.2.2.2.2.2.2.2.1 mo.2.2.2.2.2.2.2.2.1 mo.2.2.2.2.2.2.2.2.2.1 mo.2.2.2.2.2.2.2.2.2.2.1 mo.2.2.2.2.2.2.2.2.2.2.2.1 mo.2.2.2.2.2.2.2.2.2.2.2.2.1 mo.2.2.2.2.2.2.2.2.2.2.2.2.2.1 mo.2.2.2.2.2.2.2.2.2.2.2.2.2.2.1 mo.2.2.2.2.2.2.2.2.2.2.2.2.2.2.2.1 mo.2.2.2.2.2.2.2.2.2.2.2.2.2.2.2.2.1 mo.2.2.2.2.2.2.2.2.2.2.2.2.2.2.2.2.2) (fun r (_ : Unit) => r = o.1) (fun _ => (W_M cI cJ cZ cO am o.2.1 o.2.2.1 o.2.2.2.1 o.2.2.2.2.1 o.2.2.2.2.2.1 o.2.2.2.2.2.2.1 o.2.2.2.2.2.2.2.1 o.2.2.2.2.2.2.2.2.1 o.2.2.2.2.2.2.2.2.2.1 o.2.2.2.2.2.2.2.2.2.2.1 o.2.2.2.2.2.2.2.2.2.2.2.1 o.2.2.2.2.2.2.2.2.2.2.2.2.1 o.2.2.2.2.2.2.2.2.2.2.2.2.2.1 o.2.2.2.2.2.2.2.2.2.2.2.2.2.2.1 o.2.2.2.2.2.2.2.2.2.2.2.2.2.2.2.1 o.2.2.2.2.2.2.2.2.2.2.2.2.2.2.2.2.1 o.2.2.2.2.2.2.2.2.2.2.2.2.2.2.2.2.2.1 o.2.2.2.2.2.2.2.2.2.2.2.2.2.2.2.2.2.2)) := by
  refine MetI.ofV (cc := cX8_grow) (maxL := 2) (ret := (some .int)) (own := RX8) (lv0 := [(0, .ref (am 0))]) (by decide) rfl rfl (Nat.le_of_ble_eq_true rfl) rfl ?_
  intro p e s m below meth c A C0 _
  unfold f_X8_grow at hf
  refine V_aload_n C0 dX8_grow_0 0 rfl rfl ?_
  refine V_get C0 fl_X8_grow_7 0 rfl rfl dX8_grow_1 rfl ?_
  refine V_iconst (v := 0) C0 dX8_grow_4 (by decide) rfl ?_
  obtain ⟨hi5, hf⟩ := ck_inv hf
  refine V_iald C0 1 0 rfl rfl hi5 dX8_grow_5 rfl ?_
  refine V_bipush (v := 16) C0 dX8_grow_6 (by decide) rfl ?_
  refine V_icmp_ne (tgt := 14) C0 dX8_grow_8 (by decide) rfl (fun c8 => ?_) (fun c8 => ?_)
  · have hf := ite_f c8 hf
    refine V_aload_n C0 dX8_grow_14 0 rfl rfl ?_
    obtain ⟨r_15, hc_15, hf⟩ := bind_inv hf
    refine V_cVI (ws' := (W_M cI cJ cZ cO am r_15.2.1 r_15.2.2.1 r_15.2.2.2.1 r_15.2.2.2.2.1 r_15.2.2.2.2.2.1 r_15.2.2.2.2.2.2.1 r_15.2.2.2.2.2.2.2.1 r_15.2.2.2.2.2.2.2.2.1 r_15.2.2.2.2.2.2.2.2.2.1 r_15.2.2.2.2.2.2.2.2.2.2.1 r_15.2.2.2.2.2.2.2.2.2.2.2.1 r_15.2.2.2.2.2.2.2.2.2.2.2.2.1 r_15.2.2.2.2.2.2.2.2.2.2.2.2.2.1 r_15.2.2.2.2.2.2.2.2.2.2.2.2.2.2.1 r_15.2.2.2.2.2.2.2.2.2.2.2.2.2.2.2.1 r_15.2.2.2.2.2.2.2.2.2.2.2.2.2.2.2.2.1 r_15.2.2.2.2.2.2.2.2.2.2.2.2.2.2.2.2.2.1 r_15.2.2.2.2.2.2.2.2.2.2.2.2.2.2.2.2.2.2)) (As := []) (b := am 0) (st := []) C0 (c_X8_growsAt l dC dI cI cJ cZ cO am N mo  r_15 hc_15) rfl 0 gX8_grow_X8_growsAt (by decide +kernel) ⟨Nat.le_of_ble_eq_true rfl, Nat.le_of_ble_eq_true rfl⟩ rfl 0 8 rfl rfl  Cut.all rfl (Nat.le_of_ble_eq_true rfl) dX8_grow_15 rfl ⟨Nat.zero_le _, Nat.zero_le _⟩ ?_
    refine V_istore_n (lv' := [(1, .int r_15.1), (0, .ref (am 0))]) C0 dX8_grow_18 rfl (by decide) rfl rfl ?_
    refine V_iload_n C0 dX8_grow_19 0 rfl rfl ?_
    refine V_bipush (v := (-6)) C0 dX8_grow_20 (by decide) rfl ?_
    refine V_icmp_ne (tgt := 28) C0 dX8_grow_22 (by decide) rfl (fun c22 => ?_) (fun c22 => ?_)
    · have hf := ite_f c22 hf
      refine V_aload_n C0 dX8_grow_28 1 rfl rfl ?_
      obtain ⟨r_29, hc_29, hf⟩ := bind_inv hf
      refine V_cVV (ws' := (W_M cI cJ cZ cO am r_29.1 r_29.2.1 r_29.2.2.1 r_29.2.2.2.1 r_29.2.2.2.2.1 r_29.2.2.2.2.2.1 r_29.2.2.2.2.2.2.1 r_29.2.2.2.2.2.2.2.1 r_29.2.2.2.2.2.2.2.2.1 r_29.2.2.2.2.2.2.2.2.2.1 r_29.2.2.2.2.2.2.2.2.2.2.1 r_29.2.2.2.2.2.2.2.2.2.2.2.1 r_29.2.2.2.2.2.2.2.2.2.2.2.2.1 r_29.2.2.2.2.2.2.2.2.2.2.2.2.2.1 r_29.2.2.2.2.2.2.2.2.2.2.2.2.2.2.1 r_29.2.2.2.2.2.2.2.2.2.2.2.2.2.2.2.1 r_29.2.2.2.2.2.2.2.2.2.2.2.2.2.2.2.2.1 r_29.2.2.2.2.2.2.2.2.2.2.2.2.2.2.2.2.2)) (As := []) (b := am 0) (st := []) C0 (c_X8_record l dC dI cI cJ cZ cO am N r_15.2  r_29 hc_29) rfl 0 gX8_grow_X8_record (by decide +kernel) ⟨Nat.le_of_ble_eq_true rfl, Nat.le_of_ble_eq_true rfl⟩ rfl 0 8 rfl rfl  Cut.all rfl (Nat.le_of_ble_eq_true rfl) dX8_grow_29 rfl ⟨Nat.zero_le _, Nat.zero_le _⟩ ?_
      refine V_aload_n C0 dX8_grow_32 1 rfl rfl ?_
      refine V_aload_n C0 dX8_grow_33 1 rfl rfl ?_
      refine V_get C0 fl_X8_grow_44 0 rfl rfl dX8_grow_34 rfl ?_
      refine V_iload_n C0 dX8_grow_37 0 rfl rfl ?_
      obtain ⟨hi38, hf⟩ := ck_inv hf
      refine V_iald C0 12 0 rfl rfl hi38 dX8_grow_38 rfl ?_
      refine V_aload_n C0 dX8_grow_39 1 rfl rfl ?_
      refine V_get C0 fl_X8_grow_50 0 rfl rfl dX8_grow_40 rfl ?_
      refine V_iload_n C0 dX8_grow_43 0 rfl rfl ?_
      obtain ⟨hi44, hf⟩ := ck_inv hf
      refine V_iald C0 14 0 rfl rfl hi44 dX8_grow_44 rfl ?_
      obtain ⟨r_45, hc_45, hf⟩ := bind_inv hf
      refine V_cVI (ws' := (W_M cI cJ cZ cO am r_45.2.1 r_45.2.2.1 r_45.2.2.2.1 r_45.2.2.2.2.1 r_45.2.2.2.2.2.1 r_45.2.2.2.2.2.2.1 r_45.2.2.2.2.2.2.2.1 r_45.2.2.2.2.2.2.2.2.1 r_45.2.2.2.2.2.2.2.2.2.1 r_45.2.2.2.2.2.2.2.2.2.2.1 r_45.2.2.2.2.2.2.2.2.2.2.2.1 r_45.2.2.2.2.2.2.2.2.2.2.2.2.1 r_45.2.2.2.2.2.2.2.2.2.2.2.2.2.1 r_45.2.2.2.2.2.2.2.2.2.2.2.2.2.2.1 r_45.2.2.2.2.2.2.2.2.2.2.2.2.2.2.2.1 r_45.2.2.2.2.2.2.2.2.2.2.2.2.2.2.2.2.1 r_45.2.2.2.2.2.2.2.2.2.2.2.2.2.2.2.2.2.1 r_45.2.2.2.2.2.2.2.2.2.2.2.2.2.2.2.2.2.2)) (As := [.int (r_29.2.2.2.2.2.2.2.2.2.2.2.2.2.1 (r_15.1.toNatClampNeg)), .int (r_29.2.2.2.2.2.2.2.2.2.2.2.2.2.2.2.1 (r_15.1.toNatClampNeg))]) (b := am 0) (st := []) C0 (c_X8_addPiece l dC dI cI cJ cZ cO am N r_29 (r_29.2.2.2.2.2.2.2.2.2.2.2.2.2.1 (r_15.1.toNatClampNeg)) (r_29.2.2.2.2.2.2.2.2.2.2.2.2.2.2.2.1 (r_15.1.toNatClampNeg)) r_45 hc_45) rfl 2 gX8_grow_X8_addPiece (by decide +kernel) ⟨Nat.le_of_ble_eq_true rfl, Nat.le_of_ble_eq_true rfl⟩ rfl 0 8 rfl rfl  Cut.all rfl (Nat.le_of_ble_eq_true rfl) dX8_grow_45 rfl ⟨Nat.zero_le _, Nat.zero_le _⟩ ?_
      obtain rfl := some_inv hf
      exact V_iret C0 () rfl rfl dX8_grow_48
    · have hf := ite_t c22 hf
      refine V_bipush (v := (-5)) C0 dX8_grow_25 (by decide) rfl ?_
      obtain rfl := some_inv hf
      exact V_iret C0 () rfl rfl dX8_grow_27
  · have hf := ite_t c8 hf
    refine V_bipush (v := (-4)) C0 dX8_grow_11 (by decide) rfl ?_
    obtain rfl := some_inv hf
    exact V_iret C0 () rfl rfl dX8_grow_13
abbrev RM_X8_tune : Room := { frames := 6, cells := 0, slots := 0, locals := 138 }
theorem in_X8_tune_X8 : ∀ w ∈ u_ws RX8 TX8 18, w ∈ wsX8_tune := by decide +kernel
theorem fl_X8_tune_7 : FL RX8 wsX8_tune 8 7 0 RX8 TX8 18 := ⟨in_X8_tune_X8, rfl, by decide, by decide +kernel, rfl⟩
theorem fl_X8_tune_53 : FL RX8 wsX8_tune 8 53 17 RX8 TX8 18 := ⟨in_X8_tune_X8, rfl, by decide, by decide +kernel, rfl⟩
set_option maxRecDepth 100000 in
set_option maxHeartbeats 4000000 in
theorem c_X8_tune (l : Launch) (dC : Nat → ClassId) (dI : Nat → Nat → Nat) (cI cJ cZ cO : ClassId) (am : Nat → Nat) (N : Nat) (mo : MV) (o : Int32 × MV) (hf : f_X8_tune N mo = some o) : MetI l yX8_tune wsX8_tune RM_X8_tune (dC, dI) (TY cI cJ cZ cO) [.ref (am 0)] (W_M cI cJ cZ cO am mo.1 mo.2.1 mo.2.2.1 mo.2.2.2.1 mo.2.2.2.2.1 mo.2.2.2.2.2.1 mo.2.2.2.2.2.2.1 mo.2.2.2.2.2.2.2.1 mo.2.2.2.2.2.2.2.2.1 mo.2.2.2.2.2.2.2.2.2.1 mo.2.2.2.2.2.2.2.2.2.2.1 mo.2.2.2.2.2.2.2.2.2.2.2.1 mo.2.2.2.2.2.2.2.2.2.2.2.2.1 mo.2.2.2.2.2.2.2.2.2.2.2.2.2.1 mo.2.2.2.2.2.2.2.2.2.2.2.2.2.2.1 mo.2.2.2.2.2.2.2.2.2.2.2.2.2.2.2.1 mo.2.2.2.2.2.2.2.2.2.2.2.2.2.2.2.2.1 mo.2.2.2.2.2.2.2.2.2.2.2.2.2.2.2.2.2) (fun r (_ : Unit) => r = o.1) (fun _ => (W_M cI cJ cZ cO am o.2.1 o.2.2.1 o.2.2.2.1 o.2.2.2.2.1 o.2.2.2.2.2.1 o.2.2.2.2.2.2.1 o.2.2.2.2.2.2.2.1 o.2.2.2.2.2.2.2.2.1 o.2.2.2.2.2.2.2.2.2.1 o.2.2.2.2.2.2.2.2.2.2.1 o.2.2.2.2.2.2.2.2.2.2.2.1 o.2.2.2.2.2.2.2.2.2.2.2.2.1 o.2.2.2.2.2.2.2.2.2.2.2.2.2.1 o.2.2.2.2.2.2.2.2.2.2.2.2.2.2.1 o.2.2.2.2.2.2.2.2.2.2.2.2.2.2.2.1 o.2.2.2.2.2.2.2.2.2.2.2.2.2.2.2.2.1 o.2.2.2.2.2.2.2.2.2.2.2.2.2.2.2.2.2.1 o.2.2.2.2.2.2.2.2.2.2.2.2.2.2.2.2.2.2)) := by
  refine MetI.ofV (cc := cX8_tune) (maxL := 5) (ret := (some .int)) (own := RX8) (lv0 := [(0, .ref (am 0))]) (by decide) rfl rfl (Nat.le_of_ble_eq_true rfl) rfl ?_
  intro p e s m below meth c A C0 _
  unfold f_X8_tune at hf
  refine V_aload_n C0 dX8_tune_0 0 rfl rfl ?_
  obtain ⟨r_1, hc_1, hf⟩ := bind_inv hf
  refine V_cVV (ws' := (W_M cI cJ cZ cO am r_1.1 r_1.2.1 r_1.2.2.1 r_1.2.2.2.1 r_1.2.2.2.2.1 r_1.2.2.2.2.2.1 r_1.2.2.2.2.2.2.1 r_1.2.2.2.2.2.2.2.1 r_1.2.2.2.2.2.2.2.2.1 r_1.2.2.2.2.2.2.2.2.2.1 r_1.2.2.2.2.2.2.2.2.2.2.1 r_1.2.2.2.2.2.2.2.2.2.2.2.1 r_1.2.2.2.2.2.2.2.2.2.2.2.2.1 r_1.2.2.2.2.2.2.2.2.2.2.2.2.2.1 r_1.2.2.2.2.2.2.2.2.2.2.2.2.2.2.1 r_1.2.2.2.2.2.2.2.2.2.2.2.2.2.2.2.1 r_1.2.2.2.2.2.2.2.2.2.2.2.2.2.2.2.2.1 r_1.2.2.2.2.2.2.2.2.2.2.2.2.2.2.2.2.2)) (As := []) (b := am 0) (st := []) C0 (c_X8_record l dC dI cI cJ cZ cO am N mo  r_1 hc_1) rfl 0 gX8_tune_X8_record (by decide +kernel) ⟨Nat.le_of_ble_eq_true rfl, Nat.le_of_ble_eq_true rfl⟩ rfl 0 8 rfl rfl  Cut.all rfl (Nat.le_of_ble_eq_true rfl) dX8_tune_1 rfl ⟨Nat.zero_le _, Nat.zero_le _⟩ ?_
  refine V_aload_n C0 dX8_tune_4 0 rfl rfl ?_
  obtain ⟨r_5, hc_5, hf⟩ := bind_inv hf
  refine V_cVV (ws' := (W_M cI cJ cZ cO am r_5.1 r_5.2.1 r_5.2.2.1 r_5.2.2.2.1 r_5.2.2.2.2.1 r_5.2.2.2.2.2.1 r_5.2.2.2.2.2.2.1 r_5.2.2.2.2.2.2.2.1 r_5.2.2.2.2.2.2.2.2.1 r_5.2.2.2.2.2.2.2.2.2.1 r_5.2.2.2.2.2.2.2.2.2.2.1 r_5.2.2.2.2.2.2.2.2.2.2.2.1 r_5.2.2.2.2.2.2.2.2.2.2.2.2.1 r_5.2.2.2.2.2.2.2.2.2.2.2.2.2.1 r_5.2.2.2.2.2.2.2.2.2.2.2.2.2.2.1 r_5.2.2.2.2.2.2.2.2.2.2.2.2.2.2.2.1 r_5.2.2.2.2.2.2.2.2.2.2.2.2.2.2.2.2.1 r_5.2.2.2.2.2.2.2.2.2.2.2.2.2.2.2.2.2)) (As := []) (b := am 0) (st := []) C0 (c_X8_findBears l dC dI cI cJ cZ cO am N r_1  r_5 hc_5) rfl 0 gX8_tune_X8_findBears (by decide +kernel) ⟨Nat.le_of_ble_eq_true rfl, Nat.le_of_ble_eq_true rfl⟩ rfl 0 8 rfl rfl  Cut.all rfl (Nat.le_of_ble_eq_true rfl) dX8_tune_5 rfl ⟨Nat.zero_le _, Nat.zero_le _⟩ ?_
  refine V_iconst (v := 0) C0 dX8_tune_8 (by decide) rfl ?_
  refine V_istore_n (lv' := [(1, .int 0), (0, .ref (am 0))]) C0 dX8_tune_9 rfl (by decide) rfl rfl ?_
  refine V_iconst (v := 0) C0 dX8_tune_10 (by decide) rfl ?_
  refine V_istore_n (lv' := [(2, .int 0), (1, .int 0), (0, .ref (am 0))]) C0 dX8_tune_11 rfl (by decide) rfl rfl ?_
  have hL12 : ∀ (mo : MV) (K : Int32 → Option (Int32 × MV)), (∀ (x1 : Int32), K x1 = some o → V p l e RM_X8_tune s m ([.ref (am 0)] : List Value).toArray below meth c 5 (dC, dI) A (MQ below (va_Qi (fun r (_ : Unit) => r = o.1) (PostW (dC, dI) (TY cI cJ cZ cO) A (fun _ => (W_M cI cJ cZ cO am o.2.1 o.2.2.1 o.2.2.2.1 o.2.2.2.2.1 o.2.2.2.2.2.1 o.2.2.2.2.2.2.1 o.2.2.2.2.2.2.2.1 o.2.2.2.2.2.2.2.2.1 o.2.2.2.2.2.2.2.2.2.1 o.2.2.2.2.2.2.2.2.2.2.1 o.2.2.2.2.2.2.2.2.2.2.2.1 o.2.2.2.2.2.2.2.2.2.2.2.2.1 o.2.2.2.2.2.2.2.2.2.2.2.2.2.1 o.2.2.2.2.2.2.2.2.2.2.2.2.2.2.1 o.2.2.2.2.2.2.2.2.2.2.2.2.2.2.2.1 o.2.2.2.2.2.2.2.2.2.2.2.2.2.2.2.2.1 o.2.2.2.2.2.2.2.2.2.2.2.2.2.2.2.2.2.1 o.2.2.2.2.2.2.2.2.2.2.2.2.2.2.2.2.2.2))) A) ([.ref (am 0)] : List Value).toArray s 0 0 A) 0 0 (W_M cI cJ cZ cO am mo.1 mo.2.1 mo.2.2.1 mo.2.2.2.1 mo.2.2.2.2.1 mo.2.2.2.2.2.1 mo.2.2.2.2.2.2.1 mo.2.2.2.2.2.2.2.1 mo.2.2.2.2.2.2.2.2.1 mo.2.2.2.2.2.2.2.2.2.1 mo.2.2.2.2.2.2.2.2.2.2.1 mo.2.2.2.2.2.2.2.2.2.2.2.1 mo.2.2.2.2.2.2.2.2.2.2.2.2.1 mo.2.2.2.2.2.2.2.2.2.2.2.2.2.1 mo.2.2.2.2.2.2.2.2.2.2.2.2.2.2.1 mo.2.2.2.2.2.2.2.2.2.2.2.2.2.2.2.1 mo.2.2.2.2.2.2.2.2.2.2.2.2.2.2.2.2.1 mo.2.2.2.2.2.2.2.2.2.2.2.2.2.2.2.2.2) 49 [(0, .ref (am 0)), (1, .int x1)] []) → ∀ (n : Nat) (x1 : Int32) (x2 : Int32), f_X8_tune_L12 N  mo K n x1 x2 = some o → V p l e RM_X8_tune s m ([.ref (am 0)] : List Value).toArray below meth c 5 (dC, dI) A (MQ below (va_Qi (fun r (_ : Unit) => r = o.1) (PostW (dC, dI) (TY cI cJ cZ cO) A (fun _ => (W_M cI cJ cZ cO am o.2.1 o.2.2.1 o.2.2.2.1 o.2.2.2.2.1 o.2.2.2.2.2.1 o.2.2.2.2.2.2.1 o.2.2.2.2.2.2.2.1 o.2.2.2.2.2.2.2.2.1 o.2.2.2.2.2.2.2.2.2.1 o.2.2.2.2.2.2.2.2.2.2.1 o.2.2.2.2.2.2.2.2.2.2.2.1 o.2.2.2.2.2.2.2.2.2.2.2.2.1 o.2.2.2.2.2.2.2.2.2.2.2.2.2.1 o.2.2.2.2.2.2.2.2.2.2.2.2.2.2.1 o.2.2.2.2.2.2.2.2.2.2.2.2.2.2.2.1 o.2.2.2.2.2.2.2.2.2.2.2.2.2.2.2.2.1 o.2.2.2.2.2.2.2.2.2.2.2.2.2.2.2.2.2.1 o.2.2.2.2.2.2.2.2.2.2.2.2.2.2.2.2.2.2))) A) ([.ref (am 0)] : List Value).toArray s 0 0 A) 0 0 (W_M cI cJ cZ cO am mo.1 mo.2.1 mo.2.2.1 mo.2.2.2.1 mo.2.2.2.2.1 mo.2.2.2.2.2.1 mo.2.2.2.2.2.2.1 mo.2.2.2.2.2.2.2.1 mo.2.2.2.2.2.2.2.2.1 mo.2.2.2.2.2.2.2.2.2.1 mo.2.2.2.2.2.2.2.2.2.2.1 mo.2.2.2.2.2.2.2.2.2.2.2.1 mo.2.2.2.2.2.2.2.2.2.2.2.2.1 mo.2.2.2.2.2.2.2.2.2.2.2.2.2.1 mo.2.2.2.2.2.2.2.2.2.2.2.2.2.2.1 mo.2.2.2.2.2.2.2.2.2.2.2.2.2.2.2.1 mo.2.2.2.2.2.2.2.2.2.2.2.2.2.2.2.2.1 mo.2.2.2.2.2.2.2.2.2.2.2.2.2.2.2.2.2) 12 [(0, .ref (am 0)), (1, .int x1), (2, .int x2)] [] := by
    intro mo K hK n
    induction n with
    | zero => intro x1 x2 hf; cases hf
    | succ n hREC =>
      intro x1 x2 hf
      rw [f_X8_tune_L12] at hf
      refine V_iload_n C0 dX8_tune_12 2 rfl rfl ?_
      refine V_aload_n C0 dX8_tune_13 0 rfl rfl ?_
      refine V_get C0 fl_X8_tune_7 0 rfl rfl dX8_tune_14 rfl ?_
      refine V_iconst (v := 0) C0 dX8_tune_17 (by decide) rfl ?_
      obtain ⟨hi18, hf⟩ := ck_inv hf
      refine V_iald C0 1 0 rfl rfl hi18 dX8_tune_18 rfl ?_
      refine V_icmp_ge (tgt := 49) C0 dX8_tune_19 (by decide) rfl (fun c19 => ?_) (fun c19 => ?_)
      · have hf := ite_t c19 hf
        exact V.sub [0, 1] rfl (hK x1 hf)
      · have hf := ite_f c19 hf
        refine V_aload_n C0 dX8_tune_22 0 rfl rfl ?_
        refine V_get C0 fl_X8_tune_53 0 rfl rfl dX8_tune_23 rfl ?_
        refine V_iload_n C0 dX8_tune_26 2 rfl rfl ?_
        obtain ⟨hi27, hf⟩ := ck_inv hf
        refine V_iald C0 15 0 rfl rfl hi27 dX8_tune_27 rfl ?_
        refine V_iload_n C0 dX8_tune_28 1 rfl rfl ?_
        refine V_icmp_le (tgt := 41) C0 dX8_tune_29 (by decide) rfl (fun c29 => ?_) (fun c29 => ?_)
        · have hf := ite_t c29 hf
          refine V_iload_n C0 dX8_tune_41 1 rfl rfl ?_
          refine V_istore_n (lv' := [(1, .int x1), (0, .ref (am 0)), (2, .int x2)]) C0 dX8_tune_42 rfl (by decide) rfl rfl ?_
          refine V_iinc (k := 2) (v := x2 + 1) (lv' := [(2, .int (x2 + 1)), (1, .int x1), (0, .ref (am 0))]) C0 dX8_tune_43 rfl rfl (by decide) rfl rfl ?_
          refine V_goto (tgt := 12) C0 dX8_tune_46 (by decide) ?_
          exact V.sub [2, 1, 0] rfl (hREC x1 (x2 + 1) hf)
        · have hf := ite_f c29 hf
          refine V_aload_n C0 dX8_tune_32 0 rfl rfl ?_
          refine V_get C0 fl_X8_tune_53 0 rfl rfl dX8_tune_33 rfl ?_
          refine V_iload_n C0 dX8_tune_36 2 rfl rfl ?_
          obtain ⟨hi37, hf⟩ := ck_inv hf
          refine V_iald C0 15 0 rfl rfl hi37 dX8_tune_37 rfl ?_
          refine V_goto (tgt := 42) C0 dX8_tune_38 (by decide) ?_
          refine V_topi (fun x1_1 ex1_1 => ?_)
          have hf := bd_inv ex1_1 hf
          refine V_istore_n (lv' := [(1, .int x1_1), (0, .ref (am 0)), (2, .int x2)]) C0 dX8_tune_42 rfl (by decide) rfl rfl ?_
          refine V_iinc (k := 2) (v := x2 + 1) (lv' := [(2, .int (x2 + 1)), (1, .int x1_1), (0, .ref (am 0))]) C0 dX8_tune_43 rfl rfl (by decide) rfl rfl ?_
          refine V_goto (tgt := 12) C0 dX8_tune_46 (by decide) ?_
          exact V.sub [2, 1, 0] rfl (hREC x1_1 (x2 + 1) hf)
  refine V.sub [2, 1, 0] rfl (hL12 r_5 _ ?_ N 0 0 hf)
  intro x1_12 hf
  refine V_iconst (v := 0) C0 dX8_tune_49 (by decide) rfl ?_
  refine V_istore_n (lv' := [(2, .int 0), (0, .ref (am 0)), (1, .int x1_12)]) C0 dX8_tune_50 rfl (by decide) rfl rfl ?_
  refine V_iconst (v := 0) C0 dX8_tune_51 (by decide) rfl ?_
  refine V_istore_n (lv' := [(3, .int 0), (2, .int 0), (0, .ref (am 0)), (1, .int x1_12)]) C0 dX8_tune_52 rfl (by decide) rfl rfl ?_
  have hL53 : ∀ (x1 : Int32) (K : Int32 → MV → Option (Int32 × MV)), (∀ (x2 : Int32) (mo : MV), K x2 mo = some o → V p l e RM_X8_tune s m ([.ref (am 0)] : List Value).toArray below meth c 5 (dC, dI) A (MQ below (va_Qi (fun r (_ : Unit) => r = o.1) (PostW (dC, dI) (TY cI cJ cZ cO) A (fun _ => (W_M cI cJ cZ cO am o.2.1 o.2.2.1 o.2.2.2.1 o.2.2.2.2.1 o.2.2.2.2.2.1 o.2.2.2.2.2.2.1 o.2.2.2.2.2.2.2.1 o.2.2.2.2.2.2.2.2.1 o.2.2.2.2.2.2.2.2.2.1 o.2.2.2.2.2.2.2.2.2.2.1 o.2.2.2.2.2.2.2.2.2.2.2.1 o.2.2.2.2.2.2.2.2.2.2.2.2.1 o.2.2.2.2.2.2.2.2.2.2.2.2.2.1 o.2.2.2.2.2.2.2.2.2.2.2.2.2.2.1 o.2.2.2.2.2.2.2.2.2.2.2.2.2.2.2.1 o.2.2.2.2.2.2.2.2.2.2.2.2.2.2.2.2.1 o.2.2.2.2.2.2.2.2.2.2.2.2.2.2.2.2.2.1 o.2.2.2.2.2.2.2.2.2.2.2.2.2.2.2.2.2.2))) A) ([.ref (am 0)] : List Value).toArray s 0 0 A) 0 0 (W_M cI cJ cZ cO am mo.1 mo.2.1 mo.2.2.1 mo.2.2.2.1 mo.2.2.2.2.1 mo.2.2.2.2.2.1 mo.2.2.2.2.2.2.1 mo.2.2.2.2.2.2.2.1 mo.2.2.2.2.2.2.2.2.1 mo.2.2.2.2.2.2.2.2.2.1 mo.2.2.2.2.2.2.2.2.2.2.1 mo.2.2.2.2.2.2.2.2.2.2.2.1 mo.2.2.2.2.2.2.2.2.2.2.2.2.1 mo.2.2.2.2.2.2.2.2.2.2.2.2.2.1 mo.2.2.2.2.2.2.2.2.2.2.2.2.2.2.1 mo.2.2.2.2.2.2.2.2.2.2.2.2.2.2.2.1 mo.2.2.2.2.2.2.2.2.2.2.2.2.2.2.2.2.1 mo.2.2.2.2.2.2.2.2.2.2.2.2.2.2.2.2.2) 126 [(2, .int x2)] []) → ∀ (n : Nat) (x2 : Int32) (x3 : Int32) (mo : MV), f_X8_tune_L53 N  x1 K n x2 x3 mo = some o → V p l e RM_X8_tune s m ([.ref (am 0)] : List Value).toArray below meth c 5 (dC, dI) A (MQ below (va_Qi (fun r (_ : Unit) => r = o.1) (PostW (dC, dI) (TY cI cJ cZ cO) A (fun _ => (W_M cI cJ cZ cO am o.2.1 o.2.2.1 o.2.2.2.1 o.2.2.2.2.1 o.2.2.2.2.2.1 o.2.2.2.2.2.2.1 o.2.2.2.2.2.2.2.1 o.2.2.2.2.2.2.2.2.1 o.2.2.2.2.2.2.2.2.2.1 o.2.2.2.2.2.2.2.2.2.2.1 o.2.2.2.2.2.2.2.2.2.2.2.1 o.2.2.2.2.2.2.2.2.2.2.2.2.1 o.2.2.2.2.2.2.2.2.2.2.2.2.2.1 o.2.2.2.2.2.2.2.2.2.2.2.2.2.2.1 o.2.2.2.2.2.2.2.2.2.2.2.2.2.2.2.1 o.2.2.2.2.2.2.2.2.2.2.2.2.2.2.2.2.1 o.2.2.2.2.2.2.2.2.2.2.2.2.2.2.2.2.2.1 o.2.2.2.2.2.2.2.2.2.2.2.2.2.2.2.2.2.2))) A) ([.ref (am 0)] : List Value).toArray s 0 0 A) 0 0 (W_M cI cJ cZ cO am mo.1 mo.2.1 mo.2.2.1 mo.2.2.2.1 mo.2.2.2.2.1 mo.2.2.2.2.2.1 mo.2.2.2.2.2.2.1 mo.2.2.2.2.2.2.2.1 mo.2.2.2.2.2.2.2.2.1 mo.2.2.2.2.2.2.2.2.2.1 mo.2.2.2.2.2.2.2.2.2.2.1 mo.2.2.2.2.2.2.2.2.2.2.2.1 mo.2.2.2.2.2.2.2.2.2.2.2.2.1 mo.2.2.2.2.2.2.2.2.2.2.2.2.2.1 mo.2.2.2.2.2.2.2.2.2.2.2.2.2.2.1 mo.2.2.2.2.2.2.2.2.2.2.2.2.2.2.2.1 mo.2.2.2.2.2.2.2.2.2.2.2.2.2.2.2.2.1 mo.2.2.2.2.2.2.2.2.2.2.2.2.2.2.2.2.2) 53 [(0, .ref (am 0)), (1, .int x1), (2, .int x2), (3, .int x3)] [] := by
    intro x1 K hK n
    induction n with
    | zero => intro x2 x3 mo hf; cases hf
    | succ n hREC =>
      intro x2 x3 mo hf
      rw [f_X8_tune_L53] at hf
      refine V_iload_n C0 dX8_tune_53 3 rfl rfl ?_
      refine V_aload_n C0 dX8_tune_54 0 rfl rfl ?_
      refine V_get C0 fl_X8_tune_7 0 rfl rfl dX8_tune_55 rfl ?_
      refine V_iconst (v := 0) C0 dX8_tune_58 (by decide) rfl ?_
      obtain ⟨hi59, hf⟩ := ck_inv hf
      refine V_iald C0 1 0 rfl rfl hi59 dX8_tune_59 rfl ?_
      refine V_icmp_ge (tgt := 126) C0 dX8_tune_60 (by decide) rfl (fun c60 => ?_) (fun c60 => ?_)
      · have hf := ite_t c60 hf
        exact V.sub [2] rfl (hK x2 mo hf)
      · have hf := ite_f c60 hf
        refine V_iload_n C0 dX8_tune_63 1 rfl rfl ?_
        refine jn_elim hf (fun (J : Int32 → Option (Int32 × MV)) => ∀ (s0_84 : Int32), J s0_84 = some o → V p l e RM_X8_tune s m ([.ref (am 0)] : List Value).toArray below meth c 5 (dC, dI) A (MQ below (va_Qi (fun r (_ : Unit) => r = o.1) (PostW (dC, dI) (TY cI cJ cZ cO) A (fun _ => (W_M cI cJ cZ cO am o.2.1 o.2.2.1 o.2.2.2.1 o.2.2.2.2.1 o.2.2.2.2.2.1 o.2.2.2.2.2.2.1 o.2.2.2.2.2.2.2.1 o.2.2.2.2.2.2.2.2.1 o.2.2.2.2.2.2.2.2.2.1 o.2.2.2.2.2.2.2.2.2.2.1 o.2.2.2.2.2.2.2.2.2.2.2.1 o.2.2.2.2.2.2.2.2.2.2.2.2.1 o.2.2.2.2.2.2.2.2.2.2.2.2.2.1 o.2.2.2.2.2.2.2.2.2.2.2.2.2.2.1 o.2.2.2.2.2.2.2.2.2.2.2.2.2.2.2.1 o.2.2.2.2.2.2.2.2.2.2.2.2.2.2.2.2.1 o.2.2.2.2.2.2.2.2.2.2.2.2.2.2.2.2.2.1 o.2.2.2.2.2.2.2.2.2.2.2.2.2.2.2.2.2.2))) A) ([.ref (am 0)] : List Value).toArray s 0 0 A) 0 0 (W_M cI cJ cZ cO am mo.1 mo.2.1 mo.2.2.1 mo.2.2.2.1 mo.2.2.2.2.1 mo.2.2.2.2.2.1 mo.2.2.2.2.2.2.1 mo.2.2.2.2.2.2.2.1 mo.2.2.2.2.2.2.2.2.1 mo.2.2.2.2.2.2.2.2.2.1 mo.2.2.2.2.2.2.2.2.2.2.1 mo.2.2.2.2.2.2.2.2.2.2.2.1 mo.2.2.2.2.2.2.2.2.2.2.2.2.1 mo.2.2.2.2.2.2.2.2.2.2.2.2.2.1 mo.2.2.2.2.2.2.2.2.2.2.2.2.2.2.1 mo.2.2.2.2.2.2.2.2.2.2.2.2.2.2.2.1 mo.2.2.2.2.2.2.2.2.2.2.2.2.2.2.2.2.1 mo.2.2.2.2.2.2.2.2.2.2.2.2.2.2.2.2.2) 84 [(0, .ref (am 0)), (1, .int x1), (2, .int x2), (3, .int x3)] [.int s0_84]) ?_ ?_
        · intro s0_84 hf
          refine V_istore (lv' := [(4, .int s0_84), (0, .ref (am 0)), (1, .int x1), (2, .int x2), (3, .int x3)]) C0 dX8_tune_84 (by decide) rfl rfl ?_
          refine V_iload_n C0 dX8_tune_86 3 rfl rfl ?_
          refine V_iload C0 dX8_tune_87 0 rfl rfl ?_
          refine V_aload_n C0 dX8_tune_89 1 rfl rfl ?_
          refine V_iload_n C0 dX8_tune_90 4 rfl rfl ?_
          refine V_iconst (v := 1) C0 dX8_tune_91 (by decide) rfl ?_
          obtain ⟨r_92, hc_92, hf⟩ := bind_inv hf
          refine V_cVI (ws' := (W_M cI cJ cZ cO am mo.1 mo.2.1 mo.2.2.1 mo.2.2.2.1 mo.2.2.2.2.1 mo.2.2.2.2.2.1 mo.2.2.2.2.2.2.1 mo.2.2.2.2.2.2.2.1 mo.2.2.2.2.2.2.2.2.1 mo.2.2.2.2.2.2.2.2.2.1 mo.2.2.2.2.2.2.2.2.2.2.1 mo.2.2.2.2.2.2.2.2.2.2.2.1 mo.2.2.2.2.2.2.2.2.2.2.2.2.1 mo.2.2.2.2.2.2.2.2.2.2.2.2.2.1 mo.2.2.2.2.2.2.2.2.2.2.2.2.2.2.1 mo.2.2.2.2.2.2.2.2.2.2.2.2.2.2.2.1 mo.2.2.2.2.2.2.2.2.2.2.2.2.2.2.2.2.1 mo.2.2.2.2.2.2.2.2.2.2.2.2.2.2.2.2.2)) (As := [.int x3, .int 1]) (b := am 0) (st := [.int s0_84, .int x2]) C0 (c_X8_piecePart l dC dI cI cJ cZ cO am N mo x3 1 r_92 hc_92) rfl 2 gX8_tune_X8_piecePart (by decide +kernel) ⟨Nat.le_of_ble_eq_true rfl, Nat.le_of_ble_eq_true rfl⟩ rfl 0 8 rfl rfl  Cut.all rfl (Nat.le_of_ble_eq_true rfl) dX8_tune_92 rfl ⟨Nat.zero_le _, Nat.zero_le _⟩ ?_
          refine jn_elim hf (fun (J : Int32 → Option (Int32 × MV)) => ∀ (s1_103 : Int32), J s1_103 = some o → V p l e RM_X8_tune s m ([.ref (am 0)] : List Value).toArray below meth c 5 (dC, dI) A (MQ below (va_Qi (fun r (_ : Unit) => r = o.1) (PostW (dC, dI) (TY cI cJ cZ cO) A (fun _ => (W_M cI cJ cZ cO am o.2.1 o.2.2.1 o.2.2.2.1 o.2.2.2.2.1 o.2.2.2.2.2.1 o.2.2.2.2.2.2.1 o.2.2.2.2.2.2.2.1 o.2.2.2.2.2.2.2.2.1 o.2.2.2.2.2.2.2.2.2.1 o.2.2.2.2.2.2.2.2.2.2.1 o.2.2.2.2.2.2.2.2.2.2.2.1 o.2.2.2.2.2.2.2.2.2.2.2.2.1 o.2.2.2.2.2.2.2.2.2.2.2.2.2.1 o.2.2.2.2.2.2.2.2.2.2.2.2.2.2.1 o.2.2.2.2.2.2.2.2.2.2.2.2.2.2.2.1 o.2.2.2.2.2.2.2.2.2.2.2.2.2.2.2.2.1 o.2.2.2.2.2.2.2.2.2.2.2.2.2.2.2.2.2.1 o.2.2.2.2.2.2.2.2.2.2.2.2.2.2.2.2.2.2))) A) ([.ref (am 0)] : List Value).toArray s 0 0 A) 0 0 (W_M cI cJ cZ cO am mo.1 mo.2.1 mo.2.2.1 mo.2.2.2.1 mo.2.2.2.2.1 mo.2.2.2.2.2.1 mo.2.2.2.2.2.2.1 mo.2.2.2.2.2.2.2.1 mo.2.2.2.2.2.2.2.2.1 mo.2.2.2.2.2.2.2.2.2.1 mo.2.2.2.2.2.2.2.2.2.2.1 mo.2.2.2.2.2.2.2.2.2.2.2.1 mo.2.2.2.2.2.2.2.2.2.2.2.2.1 mo.2.2.2.2.2.2.2.2.2.2.2.2.2.1 mo.2.2.2.2.2.2.2.2.2.2.2.2.2.2.1 mo.2.2.2.2.2.2.2.2.2.2.2.2.2.2.2.1 mo.2.2.2.2.2.2.2.2.2.2.2.2.2.2.2.2.1 mo.2.2.2.2.2.2.2.2.2.2.2.2.2.2.2.2.2) 103 [(0, .ref (am 0)), (1, .int x1), (3, .int x3), (4, .int s0_84)] [.int s1_103, .int x2]) ?_ ?_
          · intro s1_103 hf
            refine V_iadd C0 dX8_tune_103 rfl ?_
            refine V_topi (fun x2_2 ex2_2 => ?_)
            have hf := bd_inv ex2_2 hf
            refine V_istore_n (lv' := [(2, .int x2_2), (0, .ref (am 0)), (1, .int x1), (3, .int x3), (4, .int s0_84)]) C0 dX8_tune_104 rfl (by decide) rfl rfl ?_
            refine V_aload_n C0 dX8_tune_105 1 rfl rfl ?_
            refine V_get C0 fl_X8_tune_7 0 rfl rfl dX8_tune_106 rfl ?_
            refine V_iconst (v := 2) C0 dX8_tune_109 (by decide) rfl ?_
            refine V_bipush (v := 6) C0 dX8_tune_110 (by decide) rfl ?_
            refine V_iload_n C0 dX8_tune_112 3 rfl rfl ?_
            refine V_imul C0 dX8_tune_113 rfl ?_
            refine V_iadd C0 dX8_tune_114 rfl ?_
            refine V_iconst (v := 1) C0 dX8_tune_115 (by decide) rfl ?_
            refine V_iadd C0 dX8_tune_116 rfl ?_
            refine V_iload C0 dX8_tune_117 4 rfl rfl ?_
            obtain ⟨hi119, hf⟩ := ck_inv hf
            refine V_iast (ws' := (W_M cI cJ cZ cO am (upd mo.1 (((2 + (6 * x3)) + 1).toNatClampNeg) s0_84) mo.2.1 mo.2.2.1 mo.2.2.2.1 mo.2.2.2.2.1 mo.2.2.2.2.2.1 mo.2.2.2.2.2.2.1 mo.2.2.2.2.2.2.2.1 mo.2.2.2.2.2.2.2.2.1 mo.2.2.2.2.2.2.2.2.2.1 mo.2.2.2.2.2.2.2.2.2.2.1 mo.2.2.2.2.2.2.2.2.2.2.2.1 mo.2.2.2.2.2.2.2.2.2.2.2.2.1 mo.2.2.2.2.2.2.2.2.2.2.2.2.2.1 mo.2.2.2.2.2.2.2.2.2.2.2.2.2.2.1 mo.2.2.2.2.2.2.2.2.2.2.2.2.2.2.2.1 mo.2.2.2.2.2.2.2.2.2.2.2.2.2.2.2.2.1 mo.2.2.2.2.2.2.2.2.2.2.2.2.2.2.2.2.2)) C0 1 0 rfl rfl hi119 dX8_tune_119 rfl rfl ?_
            refine V_iinc (k := 3) (v := x3 + 1) (lv' := [(3, .int (x3 + 1)), (2, .int x2_2), (0, .ref (am 0)), (1, .int x1), (4, .int s0_84)]) C0 dX8_tune_120 rfl rfl (by decide) rfl rfl ?_
            refine V_goto (tgt := 53) C0 dX8_tune_123 (by decide) ?_
            exact V.sub [2, 3, 1, 0] rfl (hREC x2_2 (x3 + 1) ((upd mo.1 (((2 + (6 * x3)) + 1).toNatClampNeg) s0_84, mo.2.1, mo.2.2.1, mo.2.2.2.1, mo.2.2.2.2.1, mo.2.2.2.2.2.1, mo.2.2.2.2.2.2.1, mo.2.2.2.2.2.2.2.1, mo.2.2.2.2.2.2.2.2.1, mo.2.2.2.2.2.2.2.2.2.1, mo.2.2.2.2.2.2.2.2.2.2.1, mo.2.2.2.2.2.2.2.2.2.2.2.1, mo.2.2.2.2.2.2.2.2.2.2.2.2.1, mo.2.2.2.2.2.2.2.2.2.2.2.2.2.1, mo.2.2.2.2.2.2.2.2.2.2.2.2.2.2.1, mo.2.2.2.2.2.2.2.2.2.2.2.2.2.2.2.1, mo.2.2.2.2.2.2.2.2.2.2.2.2.2.2.2.2.1, mo.2.2.2.2.2.2.2.2.2.2.2.2.2.2.2.2.2)) hf)
          · intro J103 hJ103 hf
            refine V_icmp_ne (tgt := 102) C0 dX8_tune_95 (by decide) rfl (fun c95 => ?_) (fun c95 => ?_)
            · have hf := ite_f c95 hf
              refine V_iconst (v := 1) C0 dX8_tune_102 (by decide) rfl ?_
              exact V.sub [1, 2, 4, 0] rfl (hJ103 1 hf)
            · have hf := ite_t c95 hf
              refine V_iconst (v := 0) C0 dX8_tune_98 (by decide) rfl ?_
              refine V_goto (tgt := 103) C0 dX8_tune_99 (by decide) ?_
              exact V.sub [1, 2, 4, 0] rfl (hJ103 0 hf)
        · intro J84 hJ84 hf
          refine V_if_ne (tgt := 71) C0 dX8_tune_64 (by decide) rfl (fun c64 => ?_) (fun c64 => ?_)
          · have hf := ite_f c64 hf
            refine V_iconst (v := 1) C0 dX8_tune_71 (by decide) rfl ?_
            refine V_bipush (v := 8) C0 dX8_tune_72 (by decide) rfl ?_
            refine V_aload_n C0 dX8_tune_74 0 rfl rfl ?_
            refine V_get C0 fl_X8_tune_53 0 rfl rfl dX8_tune_75 rfl ?_
            refine V_iload_n C0 dX8_tune_78 3 rfl rfl ?_
            obtain ⟨hi79, hf⟩ := ck_inv hf
            refine V_iald C0 15 0 rfl rfl hi79 dX8_tune_79 rfl ?_
            refine V_imul C0 dX8_tune_80 rfl ?_
            refine V_iload_n C0 dX8_tune_81 1 rfl rfl ?_
            obtain ⟨hz82, hf⟩ := nzI_inv hf
            refine V_idiv C0 dX8_tune_82 hz82 rfl ?_
            refine V_iadd C0 dX8_tune_83 rfl ?_
            exact V.sub [0, 1, 2, 3] rfl (hJ84 (1 + ((8 * (mo.2.2.2.2.2.2.2.2.2.2.2.2.2.2.2.2.2 (x3.toNatClampNeg))) / x1)) hf)
          · have hf := ite_t c64 hf
            refine V_iconst (v := 1) C0 dX8_tune_67 (by decide) rfl ?_
            refine V_goto (tgt := 84) C0 dX8_tune_68 (by decide) ?_
            exact V.sub [0, 1, 2, 3] rfl (hJ84 1 hf)
  refine V.sub [2, 3, 1, 0] rfl (hL53 x1_12 _ ?_ N 0 0 r_5 hf)
  intro x2_53 mo_53 hf
  refine V_iload_n C0 dX8_tune_126 0 rfl rfl ?_
  obtain rfl := some_inv hf
  exact V_iret C0 () rfl rfl dX8_tune_127
abbrev RM_X8_shrink : Room := { frames := 9, cells := 0, slots := 0, locals := 211 }
theorem in_X8_shrink_X8 : ∀ w ∈ u_ws RX8 TX8 18, w ∈ wsX8_shrink := by decide +kernel
theorem fl_X8_shrink_7 : FL RX8 wsX8_shrink 8 7 0 RX8 TX8 18 := ⟨in_X8_shrink_X8, rfl, by decide, by decide +kernel, rfl⟩
set_option maxRecDepth 100000 in
set_option maxHeartbeats 4000000 in
theorem c_X8_shrink (l : Launch) (dC : Nat → ClassId) (dI : Nat → Nat → Nat) (cI cJ cZ cO : ClassId) (am : Nat → Nat) (N : Nat) (mo : MV) (x1 : Int32) (o : Int32 × MV) (hf : f_X8_shrink N mo x1 = some o) : MetI l yX8_shrink wsX8_shrink RM_X8_shrink (dC, dI) (TY cI cJ cZ cO) [.ref (am 0), .int x1] (W_M cI cJ cZ cO am mo.1 mo.2.1 mo.2.2.1 mo.2.2.2.1 mo.2.2.2.2.1 mo.2.2.2.2.2.1 mo.2.2.2.2.2.2.1 mo.2.2.2.2.2.2.2.1 mo.2.2.2.2.2.2.2.2.1 mo.2.2.2.2.2.2.2.2.2.1 mo.2.2.2.2.2.2.2.2.2.2.1 mo.2.2.2.2.2.2.2.2.2.2.2.1 mo.2.2.2.2.2.2.2.2.2.2.2.2.1 mo.2.2.2.2.2.2.2.2.2.2.2.2.2.1 mo.2.2.2.2.2.2.2.2.2.2.2.2.2.2.1 mo.2.2.2.2.2.2.2.2.2.2.2.2.2.2.2.1 mo.2.2.2.2.2.2.2.2.2.2.2.2.2.2.2.2.1 mo.2.2.2.2.2.2.2.2.2.2.2.2.2.2.2.2.2) (fun r (_ : Unit) => r = o.1) (fun _ => (W_M cI cJ cZ cO am o.2.1 o.2.2.1 o.2.2.2.1 o.2.2.2.2.1 o.2.2.2.2.2.1 o.2.2.2.2.2.2.1 o.2.2.2.2.2.2.2.1 o.2.2.2.2.2.2.2.2.1 o.2.2.2.2.2.2.2.2.2.1 o.2.2.2.2.2.2.2.2.2.2.1 o.2.2.2.2.2.2.2.2.2.2.2.1 o.2.2.2.2.2.2.2.2.2.2.2.2.1 o.2.2.2.2.2.2.2.2.2.2.2.2.2.1 o.2.2.2.2.2.2.2.2.2.2.2.2.2.2.1 o.2.2.2.2.2.2.2.2.2.2.2.2.2.2.2.1 o.2.2.2.2.2.2.2.2.2.2.2.2.2.2.2.2.1 o.2.2.2.2.2.2.2.2.2.2.2.2.2.2.2.2.2.1 o.2.2.2.2.2.2.2.2.2.2.2.2.2.2.2.2.2.2)) := by
  refine MetI.ofV (cc := cX8_shrink) (maxL := 3) (ret := (some .int)) (own := RX8) (lv0 := [(0, .ref (am 0)), (1, .int x1)]) (by decide) rfl rfl (Nat.le_of_ble_eq_true rfl) rfl ?_
  intro p e s m below meth c A C0 _
  unfold f_X8_shrink at hf
  refine V_iload_n C0 dX8_shrink_0 1 rfl rfl ?_
  refine V_iconst (v := 0) C0 dX8_shrink_1 (by decide) rfl ?_
  refine V_bipush (v := 16) C0 dX8_shrink_2 (by decide) rfl ?_
  obtain ⟨r_4, hc_4, hf⟩ := bind_inv hf
  refine V_cSI (ws' := (W_M cI cJ cZ cO am mo.1 mo.2.1 mo.2.2.1 mo.2.2.2.1 mo.2.2.2.2.1 mo.2.2.2.2.2.1 mo.2.2.2.2.2.2.1 mo.2.2.2.2.2.2.2.1 mo.2.2.2.2.2.2.2.2.1 mo.2.2.2.2.2.2.2.2.2.1 mo.2.2.2.2.2.2.2.2.2.2.1 mo.2.2.2.2.2.2.2.2.2.2.2.1 mo.2.2.2.2.2.2.2.2.2.2.2.2.1 mo.2.2.2.2.2.2.2.2.2.2.2.2.2.1 mo.2.2.2.2.2.2.2.2.2.2.2.2.2.2.1 mo.2.2.2.2.2.2.2.2.2.2.2.2.2.2.2.1 mo.2.2.2.2.2.2.2.2.2.2.2.2.2.2.2.2.1 mo.2.2.2.2.2.2.2.2.2.2.2.2.2.2.2.2.2)) (As := [.int x1, .int 0, .int 16]) (st := []) C0 (c_X8_within l dC dI cI cJ cZ cO  N  x1 0 16 r_4 hc_4) rfl 3 gX8_shrink_X8_within (by decide +kernel) ⟨Nat.le_of_ble_eq_true rfl, Nat.le_of_ble_eq_true rfl⟩ rfl  ⟨_, pr1, fun _ => pr1⟩ rfl (Nat.le_of_ble_eq_true rfl) dX8_shrink_4 rfl ⟨Nat.zero_le _, Nat.zero_le _⟩ ?_
  refine V_if_ne (tgt := 13) C0 dX8_shrink_7 (by decide) rfl (fun c7 => ?_) (fun c7 => ?_)
  · have hf := ite_f c7 hf
    refine V_aload_n C0 dX8_shrink_13 0 rfl rfl ?_
    obtain ⟨r_14, hc_14, hf⟩ := bind_inv hf
    refine V_cVV (ws' := (W_M cI cJ cZ cO am r_14.1 r_14.2.1 r_14.2.2.1 r_14.2.2.2.1 r_14.2.2.2.2.1 r_14.2.2.2.2.2.1 r_14.2.2.2.2.2.2.1 r_14.2.2.2.2.2.2.2.1 r_14.2.2.2.2.2.2.2.2.1 r_14.2.2.2.2.2.2.2.2.2.1 r_14.2.2.2.2.2.2.2.2.2.2.1 r_14.2.2.2.2.2.2.2.2.2.2.2.1 r_14.2.2.2.2.2.2.2.2.2.2.2.2.1 r_14.2.2.2.2.2.2.2.2.2.2.2.2.2.1 r_14.2.2.2.2.2.2.2.2.2.2.2.2.2.2.1 r_14.2.2.2.2.2.2.2.2.2.2.2.2.2.2.2.1 r_14.2.2.2.2.2.2.2.2.2.2.2.2.2.2.2.2.1 r_14.2.2.2.2.2.2.2.2.2.2.2.2.2.2.2.2.2)) (As := []) (b := am 0) (st := []) C0 (c_X8_record l dC dI cI cJ cZ cO am N mo  r_14 hc_14) rfl 0 gX8_shrink_X8_record (by decide +kernel) ⟨Nat.le_of_ble_eq_true rfl, Nat.le_of_ble_eq_true rfl⟩ rfl 0 8 rfl rfl  Cut.all rfl (Nat.le_of_ble_eq_true rfl) dX8_shrink_14 rfl ⟨Nat.zero_le _, Nat.zero_le _⟩ ?_
    refine V_iconst (v := 0) C0 dX8_shrink_17 (by decide) rfl ?_
    refine V_istore_n (lv' := [(2, .int 0), (0, .ref (am 0)), (1, .int x1)]) C0 dX8_shrink_18 rfl (by decide) rfl rfl ?_
    have hL19 : ∀ (K : Int32 → MV → Option (Int32 × MV)), (∀ (x2 : Int32) (mo : MV), K x2 mo = some o → V p l e RM_X8_shrink s m ([.ref (am 0), .int x1] : List Value).toArray below meth c 3 (dC, dI) A (MQ below (va_Qi (fun r (_ : Unit) => r = o.1) (PostW (dC, dI) (TY cI cJ cZ cO) A (fun _ => (W_M cI cJ cZ cO am o.2.1 o.2.2.1 o.2.2.2.1 o.2.2.2.2.1 o.2.2.2.2.2.1 o.2.2.2.2.2.2.1 o.2.2.2.2.2.2.2.1 o.2.2.2.2.2.2.2.2.1 o.2.2.2.2.2.2.2.2.2.1 o.2.2.2.2.2.2.2.2.2.2.1 o.2.2.2.2.2.2.2.2.2.2.2.1 o.2.2.2.2.2.2.2.2.2.2.2.2.1 o.2.2.2.2.2.2.2.2.2.2.2.2.2.1 o.2.2.2.2.2.2.2.2.2.2.2.2.2.2.1 o.2.2.2.2.2.2.2.2.2.2.2.2.2.2.2.1 o.2.2.2.2.2.2.2.2.2.2.2.2.2.2.2.2.1 o.2.2.2.2.2.2.2.2.2.2.2.2.2.2.2.2.2.1 o.2.2.2.2.2.2.2.2.2.2.2.2.2.2.2.2.2.2))) A) ([.ref (am 0), .int x1] : List Value).toArray s 0 0 A) 0 0 (W_M cI cJ cZ cO am mo.1 mo.2.1 mo.2.2.1 mo.2.2.2.1 mo.2.2.2.2.1 mo.2.2.2.2.2.1 mo.2.2.2.2.2.2.1 mo.2.2.2.2.2.2.2.1 mo.2.2.2.2.2.2.2.2.1 mo.2.2.2.2.2.2.2.2.2.1 mo.2.2.2.2.2.2.2.2.2.2.1 mo.2.2.2.2.2.2.2.2.2.2.2.1 mo.2.2.2.2.2.2.2.2.2.2.2.2.1 mo.2.2.2.2.2.2.2.2.2.2.2.2.2.1 mo.2.2.2.2.2.2.2.2.2.2.2.2.2.2.1 mo.2.2.2.2.2.2.2.2.2.2.2.2.2.2.2.1 mo.2.2.2.2.2.2.2.2.2.2.2.2.2.2.2.2.1 mo.2.2.2.2.2.2.2.2.2.2.2.2.2.2.2.2.2) 43 [(2, .int x2)] []) → ∀ (n : Nat) (x2 : Int32) (mo : MV), f_X8_shrink_L19 N x1  K n x2 mo = some o → V p l e RM_X8_shrink s m ([.ref (am 0), .int x1] : List Value).toArray below meth c 3 (dC, dI) A (MQ below (va_Qi (fun r (_ : Unit) => r = o.1) (PostW (dC, dI) (TY cI cJ cZ cO) A (fun _ => (W_M cI cJ cZ cO am o.2.1 o.2.2.1 o.2.2.2.1 o.2.2.2.2.1 o.2.2.2.2.2.1 o.2.2.2.2.2.2.1 o.2.2.2.2.2.2.2.1 o.2.2.2.2.2.2.2.2.1 o.2.2.2.2.2.2.2.2.2.1 o.2.2.2.2.2.2.2.2.2.2.1 o.2.2.2.2.2.2.2.2.2.2.2.1 o.2.2.2.2.2.2.2.2.2.2.2.2.1 o.2.2.2.2.2.2.2.2.2.2.2.2.2.1 o.2.2.2.2.2.2.2.2.2.2.2.2.2.2.1 o.2.2.2.2.2.2.2.2.2.2.2.2.2.2.2.1 o.2.2.2.2.2.2.2.2.2.2.2.2.2.2.2.2.1 o.2.2.2.2.2.2.2.2.2.2.2.2.2.2.2.2.2.1 o.2.2.2.2.2.2.2.2.2.2.2.2.2.2.2.2.2.2))) A) ([.ref (am 0), .int x1] : List Value).toArray s 0 0 A) 0 0 (W_M cI cJ cZ cO am mo.1 mo.2.1 mo.2.2.1 mo.2.2.2.1 mo.2.2.2.2.1 mo.2.2.2.2.2.1 mo.2.2.2.2.2.2.1 mo.2.2.2.2.2.2.2.1 mo.2.2.2.2.2.2.2.2.1 mo.2.2.2.2.2.2.2.2.2.1 mo.2.2.2.2.2.2.2.2.2.2.1 mo.2.2.2.2.2.2.2.2.2.2.2.1 mo.2.2.2.2.2.2.2.2.2.2.2.2.1 mo.2.2.2.2.2.2.2.2.2.2.2.2.2.1 mo.2.2.2.2.2.2.2.2.2.2.2.2.2.2.1 mo.2.2.2.2.2.2.2.2.2.2.2.2.2.2.2.1 mo.2.2.2.2.2.2.2.2.2.2.2.2.2.2.2.2.1 mo.2.2.2.2.2.2.2.2.2.2.2.2.2.2.2.2.2) 19 [(0, .ref (am 0)), (1, .int x1), (2, .int x2)] [] := by
      intro  K hK n
      induction n with
      | zero => intro x2 mo hf; cases hf
      | succ n hREC =>
        intro x2 mo hf
        rw [f_X8_shrink_L19] at hf
        refine V_aload_n C0 dX8_shrink_19 0 rfl rfl ?_
        refine V_get C0 fl_X8_shrink_7 0 rfl rfl dX8_shrink_20 rfl ?_
        refine V_iconst (v := 0) C0 dX8_shrink_23 (by decide) rfl ?_
        obtain ⟨hi24, hf⟩ := ck_inv hf
        refine V_iald C0 1 0 rfl rfl hi24 dX8_shrink_24 rfl ?_
        refine V_iload_n C0 dX8_shrink_25 1 rfl rfl ?_
        refine V_icmp_le (tgt := 43) C0 dX8_shrink_26 (by decide) rfl (fun c26 => ?_) (fun c26 => ?_)
        · have hf := ite_t c26 hf
          exact V.sub [2] rfl (hK x2 mo hf)
        · have hf := ite_f c26 hf
          refine V_aload_n C0 dX8_shrink_29 0 rfl rfl ?_
          refine V_aload_n C0 dX8_shrink_30 0 rfl rfl ?_
          obtain ⟨r_31, hc_31, hf⟩ := bind_inv hf
          refine V_cVI (ws' := (W_M cI cJ cZ cO am r_31.2.1 r_31.2.2.1 r_31.2.2.2.1 r_31.2.2.2.2.1 r_31.2.2.2.2.2.1 r_31.2.2.2.2.2.2.1 r_31.2.2.2.2.2.2.2.1 r_31.2.2.2.2.2.2.2.2.1 r_31.2.2.2.2.2.2.2.2.2.1 r_31.2.2.2.2.2.2.2.2.2.2.1 r_31.2.2.2.2.2.2.2.2.2.2.2.1 r_31.2.2.2.2.2.2.2.2.2.2.2.2.1 r_31.2.2.2.2.2.2.2.2.2.2.2.2.2.1 r_31.2.2.2.2.2.2.2.2.2.2.2.2.2.2.1 r_31.2.2.2.2.2.2.2.2.2.2.2.2.2.2.2.1 r_31.2.2.2.2.2.2.2.2.2.2.2.2.2.2.2.2.1 r_31.2.2.2.2.2.2.2.2.2.2.2.2.2.2.2.2.2.1 r_31.2.2.2.2.2.2.2.2.2.2.2.2.2.2.2.2.2.2)) (As := []) (b := am 0) (st := [.ref (am 0)]) C0 (c_X8_leastOf l dC dI cI cJ cZ cO am N mo  r_31 hc_31) rfl 0 gX8_shrink_X8_leastOf (by decide +kernel) ⟨Nat.le_of_ble_eq_true rfl, Nat.le_of_ble_eq_true rfl⟩ rfl 0 8 rfl rfl  Cut.all rfl (Nat.le_of_ble_eq_true rfl) dX8_shrink_31 rfl ⟨Nat.zero_le _, Nat.zero_le _⟩ ?_
          obtain ⟨r_34, hc_34, hf⟩ := bind_inv hf
          refine V_cVV (ws' := (W_M cI cJ cZ cO am r_34.1 r_34.2.1 r_34.2.2.1 r_34.2.2.2.1 r_34.2.2.2.2.1 r_34.2.2.2.2.2.1 r_34.2.2.2.2.2.2.1 r_34.2.2.2.2.2.2.2.1 r_34.2.2.2.2.2.2.2.2.1 r_34.2.2.2.2.2.2.2.2.2.1 r_34.2.2.2.2.2.2.2.2.2.2.1 r_34.2.2.2.2.2.2.2.2.2.2.2.1 r_34.2.2.2.2.2.2.2.2.2.2.2.2.1 r_34.2.2.2.2.2.2.2.2.2.2.2.2.2.1 r_34.2.2.2.2.2.2.2.2.2.2.2.2.2.2.1 r_34.2.2.2.2.2.2.2.2.2.2.2.2.2.2.2.1 r_34.2.2.2.2.2.2.2.2.2.2.2.2.2.2.2.2.1 r_34.2.2.2.2.2.2.2.2.2.2.2.2.2.2.2.2.2)) (As := [.int r_31.1]) (b := am 0) (st := []) C0 (c_X8_dropPiece l dC dI cI cJ cZ cO am N r_31.2 r_31.1 r_34 hc_34) rfl 1 gX8_shrink_X8_dropPiece (by decide +kernel) ⟨Nat.le_of_ble_eq_true rfl, Nat.le_of_ble_eq_true rfl⟩ rfl 0 8 rfl rfl  Cut.all rfl (Nat.le_of_ble_eq_true rfl) dX8_shrink_34 rfl ⟨Nat.zero_le _, Nat.zero_le _⟩ ?_
          refine V_iinc (k := 2) (v := x2 + 1) (lv' := [(2, .int (x2 + 1)), (0, .ref (am 0)), (1, .int x1)]) C0 dX8_shrink_37 rfl rfl (by decide) rfl rfl ?_
          refine V_goto (tgt := 19) C0 dX8_shrink_40 (by decide) ?_
          exact V.sub [1, 2, 0] rfl (hREC (x2 + 1) r_34 hf)
    refine V.sub [1, 2, 0] rfl (hL19  _ ?_ N 0 r_14 hf)
    intro x2_19 mo_19 hf
    refine V_iload_n C0 dX8_shrink_43 0 rfl rfl ?_
    obtain rfl := some_inv hf
    exact V_iret C0 () rfl rfl dX8_shrink_44
  · have hf := ite_t c7 hf
    refine V_bipush (v := (-2)) C0 dX8_shrink_10 (by decide) rfl ?_
    obtain rfl := some_inv hf
    exact V_iret C0 () rfl rfl dX8_shrink_12
abbrev RM_X8_partOften : Room := { frames := 5, cells := 0, slots := 0, locals := 120 }
theorem in_X8_partOften_X8 : ∀ w ∈ u_ws RX8 TX8 18, w ∈ wsX8_partOften := by decide +kernel
theorem fl_X8_partOften_7 : FL RX8 wsX8_partOften 8 7 0 RX8 TX8 18 := ⟨in_X8_partOften_X8, rfl, by decide, by decide +kernel, rfl⟩
theorem fl_X8_partOften_35 : FL RX8 wsX8_partOften 8 35 10 RX8 TX8 18 := ⟨in_X8_partOften_X8, rfl, by decide, by decide +kernel, rfl⟩
set_option maxRecDepth 100000 in
set_option maxHeartbeats 4000000 in
theorem c_X8_partOften (l : Launch) (dC : Nat → ClassId) (dI : Nat → Nat → Nat) (cI cJ cZ cO : ClassId) (am : Nat → Nat) (N : Nat) (mo : MV) (x1 : Int32) (o : Int32 × MV) (hf : f_X8_partOften N mo x1 = some o) : MetI l yX8_partOften wsX8_partOften RM_X8_partOften (dC, dI) (TY cI cJ cZ cO) [.ref (am 0), .int x1] (W_M cI cJ cZ cO am mo.1 mo.2.1 mo.2.2.1 mo.2.2.2.1 mo.2.2.2.2.1 mo.2.2.2.2.2.1 mo.2.2.2.2.2.2.1 mo.2.2.2.2.2.2.2.1 mo.2.2.2.2.2.2.2.2.1 mo.2.2.2.2.2.2.2.2.2.1 mo.2.2.2.2.2.2.2.2.2.2.1 mo.2.2.2.2.2.2.2.2.2.2.2.1 mo.2.2.2.2.2.2.2.2.2.2.2.2.1 mo.2.2.2.2.2.2.2.2.2.2.2.2.2.1 mo.2.2.2.2.2.2.2.2.2.2.2.2.2.2.1 mo.2.2.2.2.2.2.2.2.2.2.2.2.2.2.2.1 mo.2.2.2.2.2.2.2.2.2.2.2.2.2.2.2.2.1 mo.2.2.2.2.2.2.2.2.2.2.2.2.2.2.2.2.2) (fun r (_ : Unit) => r = o.1) (fun _ => (W_M cI cJ cZ cO am o.2.1 o.2.2.1 o.2.2.2.1 o.2.2.2.2.1 o.2.2.2.2.2.1 o.2.2.2.2.2.2.1 o.2.2.2.2.2.2.2.1 o.2.2.2.2.2.2.2.2.1 o.2.2.2.2.2.2.2.2.2.1 o.2.2.2.2.2.2.2.2.2.2.1 o.2.2.2.2.2.2.2.2.2.2.2.1 o.2.2.2.2.2.2.2.2.2.2.2.2.1 o.2.2.2.2.2.2.2.2.2.2.2.2.2.1 o.2.2.2.2.2.2.2.2.2.2.2.2.2.2.1 o.2.2.2.2.2.2.2.2.2.2.2.2.2.2.2.1 o.2.2.2.2.2.2.2.2.2.2.2.2.2.2.2.2.1 o.2.2.2.2.2.2.2.2.2.2.2.2.2.2.2.2.2.1 o.2.2.2.2.2.2.2.2.2.2.2.2.2.2.2.2.2.2)) := by
  refine MetI.ofV (cc := cX8_partOften) (maxL := 5) (ret := (some .int)) (own := RX8) (lv0 := [(0, .ref (am 0)), (1, .int x1)]) (by decide) rfl rfl (Nat.le_of_ble_eq_true rfl) rfl ?_
  intro p e s m below meth c A C0 _
  unfold f_X8_partOften at hf
  refine V_iconst (v := 0) C0 dX8_partOften_0 (by decide) rfl ?_
  refine V_istore_n (lv' := [(2, .int 0), (0, .ref (am 0)), (1, .int x1)]) C0 dX8_partOften_1 rfl (by decide) rfl rfl ?_
  refine V_iconst (v := 0) C0 dX8_partOften_2 (by decide) rfl ?_
  refine V_istore_n (lv' := [(3, .int 0), (2, .int 0), (0, .ref (am 0)), (1, .int x1)]) C0 dX8_partOften_3 rfl (by decide) rfl rfl ?_
  have hL4 : ∀ (K : Int32 → MV → Option (Int32 × MV)), (∀ (x2 : Int32) (mo : MV), K x2 mo = some o → V p l e RM_X8_partOften s m ([.ref (am 0), .int x1] : List Value).toArray below meth c 5 (dC, dI) A (MQ below (va_Qi (fun r (_ : Unit) => r = o.1) (PostW (dC, dI) (TY cI cJ cZ cO) A (fun _ => (W_M cI cJ cZ cO am o.2.1 o.2.2.1 o.2.2.2.1 o.2.2.2.2.1 o.2.2.2.2.2.1 o.2.2.2.2.2.2.1 o.2.2.2.2.2.2.2.1 o.2.2.2.2.2.2.2.2.1 o.2.2.2.2.2.2.2.2.2.1 o.2.2.2.2.2.2.2.2.2.2.1 o.2.2.2.2.2.2.2.2.2.2.2.1 o.2.2.2.2.2.2.2.2.2.2.2.2.1 o.2.2.2.2.2.2.2.2.2.2.2.2.2.1 o.2.2.2.2.2.2.2.2.2.2.2.2.2.2.1 o.2.2.2.2.2.2.2.2.2.2.2.2.2.2.2.1 o.2.2.2.2.2.2.2.2.2.2.2.2.2.2.2.2.1 o.2.2.2.2.2.2.2.2.2.2.2.2.2.2.2.2.2.1 o.2.2.2.2.2.2.2.2.2.2.2.2.2.2.2.2.2.2))) A) ([.ref (am 0), .int x1] : List Value).toArray s 0 0 A) 0 0 (W_M cI cJ cZ cO am mo.1 mo.2.1 mo.2.2.1 mo.2.2.2.1 mo.2.2.2.2.1 mo.2.2.2.2.2.1 mo.2.2.2.2.2.2.1 mo.2.2.2.2.2.2.2.1 mo.2.2.2.2.2.2.2.2.1 mo.2.2.2.2.2.2.2.2.2.1 mo.2.2.2.2.2.2.2.2.2.2.1 mo.2.2.2.2.2.2.2.2.2.2.2.1 mo.2.2.2.2.2.2.2.2.2.2.2.2.1 mo.2.2.2.2.2.2.2.2.2.2.2.2.2.1 mo.2.2.2.2.2.2.2.2.2.2.2.2.2.2.1 mo.2.2.2.2.2.2.2.2.2.2.2.2.2.2.2.1 mo.2.2.2.2.2.2.2.2.2.2.2.2.2.2.2.2.1 mo.2.2.2.2.2.2.2.2.2.2.2.2.2.2.2.2.2) 89 [(2, .int x2)] []) → ∀ (n : Nat) (x2 : Int32) (x3 : Int32) (mo : MV), f_X8_partOften_L4 N x1  K n x2 x3 mo = some o → V p l e RM_X8_partOften s m ([.ref (am 0), .int x1] : List Value).toArray below meth c 5 (dC, dI) A (MQ below (va_Qi (fun r (_ : Unit) => r = o.1) (PostW (dC, dI) (TY cI cJ cZ cO) A (fun _ => (W_M cI cJ cZ cO am o.2.1 o.2.2.1 o.2.2.2.1 o.2.2.2.2.1 o.2.2.2.2.2.1 o.2.2.2.2.2.2.1 o.2.2.2.2.2.2.2.1 o.2.2.2.2.2.2.2.2.1 o.2.2.2.2.2.2.2.2.2.1 o.2.2.2.2.2.2.2.2.2.2.1 o.2.2.2.2.2.2.2.2.2.2.2.1 o.2.2.2.2.2.2.2.2.2.2.2.2.1 o.2.2.2.2.2.2.2.2.2.2.2.2.2.1 o.2.2.2.2.2.2.2.2.2.2.2.2.2.2.1 o.2.2.2.2.2.2.2.2.2.2.2.2.2.2.2.1 o.2.2.2.2.2.2.2.2.2.2.2.2.2.2.2.2.1 o.2.2.2.2.2.2.2.2.2.2.2.2.2.2.2.2.2.1 o.2.2.2.2.2.2.2.2.2.2.2.2.2.2.2.2.2.2))) A) ([.ref (am 0), .int x1] : List Value).toArray s 0 0 A) 0 0 (W_M cI cJ cZ cO am mo.1 mo.2.1 mo.2.2.1 mo.2.2.2.1 mo.2.2.2.2.1 mo.2.2.2.2.2.1 mo.2.2.2.2.2.2.1 mo.2.2.2.2.2.2.2.1 mo.2.2.2.2.2.2.2.2.1 mo.2.2.2.2.2.2.2.2.2.1 mo.2.2.2.2.2.2.2.2.2.2.1 mo.2.2.2.2.2.2.2.2.2.2.2.1 mo.2.2.2.2.2.2.2.2.2.2.2.2.1 mo.2.2.2.2.2.2.2.2.2.2.2.2.2.1 mo.2.2.2.2.2.2.2.2.2.2.2.2.2.2.1 mo.2.2.2.2.2.2.2.2.2.2.2.2.2.2.2.1 mo.2.2.2.2.2.2.2.2.2.2.2.2.2.2.2.2.1 mo.2.2.2.2.2.2.2.2.2.2.2.2.2.2.2.2.2) 4 [(0, .ref (am 0)), (1, .int x1), (2, .int x2), (3, .int x3)] [] := by
    intro  K hK n
    induction n with
    | zero => intro x2 x3 mo hf; cases hf
    | succ n hREC =>
      intro x2 x3 mo hf
      rw [f_X8_partOften_L4] at hf
      refine V_iload_n C0 dX8_partOften_4 3 rfl rfl ?_
      refine V_aload_n C0 dX8_partOften_5 0 rfl rfl ?_
      refine V_get C0 fl_X8_partOften_7 0 rfl rfl dX8_partOften_6 rfl ?_
      refine V_iconst (v := 1) C0 dX8_partOften_9 (by decide) rfl ?_
      obtain ⟨hi10, hf⟩ := ck_inv hf
      refine V_iald C0 1 0 rfl rfl hi10 dX8_partOften_10 rfl ?_
      refine V_icmp_ge (tgt := 89) C0 dX8_partOften_11 (by decide) rfl (fun c11 => ?_) (fun c11 => ?_)
      · have hf := ite_t c11 hf
        exact V.sub [2] rfl (hK x2 mo hf)
      · have hf := ite_f c11 hf
        refine V_aload_n C0 dX8_partOften_14 0 rfl rfl ?_
        refine V_iload_n C0 dX8_partOften_15 3 rfl rfl ?_
        obtain ⟨r_16, hc_16, hf⟩ := bind_inv hf
        refine V_cVV (ws' := (W_M cI cJ cZ cO am r_16.1 r_16.2.1 r_16.2.2.1 r_16.2.2.2.1 r_16.2.2.2.2.1 r_16.2.2.2.2.2.1 r_16.2.2.2.2.2.2.1 r_16.2.2.2.2.2.2.2.1 r_16.2.2.2.2.2.2.2.2.1 r_16.2.2.2.2.2.2.2.2.2.1 r_16.2.2.2.2.2.2.2.2.2.2.1 r_16.2.2.2.2.2.2.2.2.2.2.2.1 r_16.2.2.2.2.2.2.2.2.2.2.2.2.1 r_16.2.2.2.2.2.2.2.2.2.2.2.2.2.1 r_16.2.2.2.2.2.2.2.2.2.2.2.2.2.2.1 r_16.2.2.2.2.2.2.2.2.2.2.2.2.2.2.2.1 r_16.2.2.2.2.2.2.2.2.2.2.2.2.2.2.2.2.1 r_16.2.2.2.2.2.2.2.2.2.2.2.2.2.2.2.2.2)) (As := [.int x3]) (b := am 0) (st := []) C0 (c_X8_findCut l dC dI cI cJ cZ cO am N mo x3 r_16 hc_16) rfl 1 gX8_partOften_X8_findCut (by decide +kernel) ⟨Nat.le_of_ble_eq_true rfl, Nat.le_of_ble_eq_true rfl⟩ rfl 0 8 rfl rfl  Cut.all rfl (Nat.le_of_ble_eq_true rfl) dX8_partOften_16 rfl ⟨Nat.zero_le _, Nat.zero_le _⟩ ?_
        refine V_iconst (v := 0) C0 dX8_partOften_19 (by decide) rfl ?_
        refine V_istore (lv' := [(4, .int 0), (0, .ref (am 0)), (1, .int x1), (2, .int x2), (3, .int x3)]) C0 dX8_partOften_20 (by decide) rfl rfl ?_
        have hL22 : ∀ (x3 : Int32) (mo : MV) (K : Int32 → Option (Int32 × MV)), (∀ (x2 : Int32), K x2 = some o → V p l e RM_X8_partOften s m ([.ref (am 0), .int x1] : List Value).toArray below meth c 5 (dC, dI) A (MQ below (va_Qi (fun r (_ : Unit) => r = o.1) (PostW (dC, dI) (TY cI cJ cZ cO) A (fun _ => (W_M cI cJ cZ cO am o.2.1 o.2.2.1 o.2.2.2.1 o.2.2.2.2.1 o.2.2.2.2.2.1 o.2.2.2.2.2.2.1 o.2.2.2.2.2.2.2.1 o.2.2.2.2.2.2.2.2.1 o.2.2.2.2.2.2.2.2.2.1 o.2.2.2.2.2.2.2.2.2.2.1 o.2.2.2.2.2.2.2.2.2.2.2.1 o.2.2.2.2.2.2.2.2.2.2.2.2.1 o.2.2.2.2.2.2.2.2.2.2.2.2.2.1 o.2.2.2.2.2.2.2.2.2.2.2.2.2.2.1 o.2.2.2.2.2.2.2.2.2.2.2.2.2.2.2.1 o.2.2.2.2.2.2.2.2.2.2.2.2.2.2.2.2.1 o.2.2.2.2.2.2.2.2.2.2.2.2.2.2.2.2.2.1 o.2.2.2.2.2.2.2.2.2.2.2.2.2.2.2.2.2.2))) A) ([.ref (am 0), .int x1] : List Value).toArray s 0 0 A) 0 0 (W_M cI cJ cZ cO am mo.1 mo.2.1 mo.2.2.1 mo.2.2.2.1 mo.2.2.2.2.1 mo.2.2.2.2.2.1 mo.2.2.2.2.2.2.1 mo.2.2.2.2.2.2.2.1 mo.2.2.2.2.2.2.2.2.1 mo.2.2.2.2.2.2.2.2.2.1 mo.2.2.2.2.2.2.2.2.2.2.1 mo.2.2.2.2.2.2.2.2.2.2.2.1 mo.2.2.2.2.2.2.2.2.2.2.2.2.1 mo.2.2.2.2.2.2.2.2.2.2.2.2.2.1 mo.2.2.2.2.2.2.2.2.2.2.2.2.2.2.1 mo.2.2.2.2.2.2.2.2.2.2.2.2.2.2.2.1 mo.2.2.2.2.2.2.2.2.2.2.2.2.2.2.2.2.1 mo.2.2.2.2.2.2.2.2.2.2.2.2.2.2.2.2.2) 83 [(0, .ref (am 0)), (1, .int x1), (2, .int x2), (3, .int x3)] []) → ∀ (n : Nat) (x2 : Int32) (x4 : Int32), f_X8_partOften_L22 N x1 x3 mo K n x2 x4 = some o → V p l e RM_X8_partOften s m ([.ref (am 0), .int x1] : List Value).toArray below meth c 5 (dC, dI) A (MQ below (va_Qi (fun r (_ : Unit) => r = o.1) (PostW (dC, dI) (TY cI cJ cZ cO) A (fun _ => (W_M cI cJ cZ cO am o.2.1 o.2.2.1 o.2.2.2.1 o.2.2.2.2.1 o.2.2.2.2.2.1 o.2.2.2.2.2.2.1 o.2.2.2.2.2.2.2.1 o.2.2.2.2.2.2.2.2.1 o.2.2.2.2.2.2.2.2.2.1 o.2.2.2.2.2.2.2.2.2.2.1 o.2.2.2.2.2.2.2.2.2.2.2.1 o.2.2.2.2.2.2.2.2.2.2.2.2.1 o.2.2.2.2.2.2.2.2.2.2.2.2.2.1 o.2.2.2.2.2.2.2.2.2.2.2.2.2.2.1 o.2.2.2.2.2.2.2.2.2.2.2.2.2.2.2.1 o.2.2.2.2.2.2.2.2.2.2.2.2.2.2.2.2.1 o.2.2.2.2.2.2.2.2.2.2.2.2.2.2.2.2.2.1 o.2.2.2.2.2.2.2.2.2.2.2.2.2.2.2.2.2.2))) A) ([.ref (am 0), .int x1] : List Value).toArray s 0 0 A) 0 0 (W_M cI cJ cZ cO am mo.1 mo.2.1 mo.2.2.1 mo.2.2.2.1 mo.2.2.2.2.1 mo.2.2.2.2.2.1 mo.2.2.2.2.2.2.1 mo.2.2.2.2.2.2.2.1 mo.2.2.2.2.2.2.2.2.1 mo.2.2.2.2.2.2.2.2.2.1 mo.2.2.2.2.2.2.2.2.2.2.1 mo.2.2.2.2.2.2.2.2.2.2.2.1 mo.2.2.2.2.2.2.2.2.2.2.2.2.1 mo.2.2.2.2.2.2.2.2.2.2.2.2.2.1 mo.2.2.2.2.2.2.2.2.2.2.2.2.2.2.1 mo.2.2.2.2.2.2.2.2.2.2.2.2.2.2.2.1 mo.2.2.2.2.2.2.2.2.2.2.2.2.2.2.2.2.1 mo.2.2.2.2.2.2.2.2.2.2.2.2.2.2.2.2.2) 22 [(0, .ref (am 0)), (1, .int x1), (2, .int x2), (3, .int x3), (4, .int x4)] [] := by
          intro x3 mo K hK n
          induction n with
          | zero => intro x2 x4 hf; cases hf
          | succ n hREC =>
            intro x2 x4 hf
            rw [f_X8_partOften_L22] at hf
            refine V_iload C0 dX8_partOften_22 4 rfl rfl ?_
            refine V_aload_n C0 dX8_partOften_24 0 rfl rfl ?_
            refine V_iload_n C0 dX8_partOften_25 3 rfl rfl ?_
            refine V_iconst (v := 0) C0 dX8_partOften_26 (by decide) rfl ?_
            obtain ⟨r_27, hc_27, hf⟩ := bind_inv hf
            refine V_cVI (ws' := (W_M cI cJ cZ cO am mo.1 mo.2.1 mo.2.2.1 mo.2.2.2.1 mo.2.2.2.2.1 mo.2.2.2.2.2.1 mo.2.2.2.2.2.2.1 mo.2.2.2.2.2.2.2.1 mo.2.2.2.2.2.2.2.2.1 mo.2.2.2.2.2.2.2.2.2.1 mo.2.2.2.2.2.2.2.2.2.2.1 mo.2.2.2.2.2.2.2.2.2.2.2.1 mo.2.2.2.2.2.2.2.2.2.2.2.2.1 mo.2.2.2.2.2.2.2.2.2.2.2.2.2.1 mo.2.2.2.2.2.2.2.2.2.2.2.2.2.2.1 mo.2.2.2.2.2.2.2.2.2.2.2.2.2.2.2.1 mo.2.2.2.2.2.2.2.2.2.2.2.2.2.2.2.2.1 mo.2.2.2.2.2.2.2.2.2.2.2.2.2.2.2.2.2)) (As := [.int x3, .int 0]) (b := am 0) (st := [.int x4]) C0 (c_X8_wordPart l dC dI cI cJ cZ cO am N mo x3 0 r_27 hc_27) rfl 2 gX8_partOften_X8_wordPart (by decide +kernel) ⟨Nat.le_of_ble_eq_true rfl, Nat.le_of_ble_eq_true rfl⟩ rfl 0 8 rfl rfl  Cut.all rfl (Nat.le_of_ble_eq_true rfl) dX8_partOften_27 rfl ⟨Nat.zero_le _, Nat.zero_le _⟩ ?_
            refine V_icmp_ge (tgt := 83) C0 dX8_partOften_30 (by decide) rfl (fun c30 => ?_) (fun c30 => ?_)
            · have hf := ite_t c30 hf
              exact V.sub [0, 1, 2, 3] rfl (hK x2 hf)
            · have hf := ite_f c30 hf
              refine V_iload_n C0 dX8_partOften_33 2 rfl rfl ?_
              refine V_aload_n C0 dX8_partOften_34 0 rfl rfl ?_
              refine V_iload_n C0 dX8_partOften_35 3 rfl rfl ?_
              refine V_iload C0 dX8_partOften_36 4 rfl rfl ?_
              refine V_aload_n C0 dX8_partOften_38 0 rfl rfl ?_
              refine V_get C0 fl_X8_partOften_35 0 rfl rfl dX8_partOften_39 rfl ?_
              refine V_iload C0 dX8_partOften_42 4 rfl rfl ?_
              obtain ⟨hi44, hf⟩ := ck_inv hf
              refine V_iald C0 9 0 rfl rfl hi44 dX8_partOften_44 rfl ?_
              obtain ⟨r_45, hc_45, hf⟩ := bind_inv hf
              refine V_cVI (ws' := (W_M cI cJ cZ cO am mo.1 mo.2.1 mo.2.2.1 mo.2.2.2.1 mo.2.2.2.2.1 mo.2.2.2.2.2.1 mo.2.2.2.2.2.2.1 mo.2.2.2.2.2.2.2.1 mo.2.2.2.2.2.2.2.2.1 mo.2.2.2.2.2.2.2.2.2.1 mo.2.2.2.2.2.2.2.2.2.2.1 mo.2.2.2.2.2.2.2.2.2.2.2.1 mo.2.2.2.2.2.2.2.2.2.2.2.2.1 mo.2.2.2.2.2.2.2.2.2.2.2.2.2.1 mo.2.2.2.2.2.2.2.2.2.2.2.2.2.2.1 mo.2.2.2.2.2.2.2.2.2.2.2.2.2.2.2.1 mo.2.2.2.2.2.2.2.2.2.2.2.2.2.2.2.2.1 mo.2.2.2.2.2.2.2.2.2.2.2.2.2.2.2.2.2)) (As := [.int x3, .int x4, .int (mo.2.2.2.2.2.2.2.2.2.2.1 (x4.toNatClampNeg))]) (b := am 0) (st := [.int x2]) C0 (c_X8_textIn l dC dI cI cJ cZ cO am N mo x3 x4 (mo.2.2.2.2.2.2.2.2.2.2.1 (x4.toNatClampNeg)) r_45 hc_45) rfl 3 gX8_partOften_X8_textIn (by decide +kernel) ⟨Nat.le_of_ble_eq_true rfl, Nat.le_of_ble_eq_true rfl⟩ rfl 0 8 rfl rfl  Cut.all rfl (Nat.le_of_ble_eq_true rfl) dX8_partOften_45 rfl ⟨Nat.zero_le _, Nat.zero_le _⟩ ?_
              refine V_aload_n C0 dX8_partOften_48 0 rfl rfl ?_
              refine V_iload_n C0 dX8_partOften_49 1 rfl rfl ?_
              obtain ⟨r_50, hc_50, hf⟩ := bind_inv hf
              refine V_cVI (ws' := (W_M cI cJ cZ cO am mo.1 mo.2.1 mo.2.2.1 mo.2.2.2.1 mo.2.2.2.2.1 mo.2.2.2.2.2.1 mo.2.2.2.2.2.2.1 mo.2.2.2.2.2.2.2.1 mo.2.2.2.2.2.2.2.2.1 mo.2.2.2.2.2.2.2.2.2.1 mo.2.2.2.2.2.2.2.2.2.2.1 mo.2.2.2.2.2.2.2.2.2.2.2.1 mo.2.2.2.2.2.2.2.2.2.2.2.2.1 mo.2.2.2.2.2.2.2.2.2.2.2.2.2.1 mo.2.2.2.2.2.2.2.2.2.2.2.2.2.2.1 mo.2.2.2.2.2.2.2.2.2.2.2.2.2.2.2.1 mo.2.2.2.2.2.2.2.2.2.2.2.2.2.2.2.2.1 mo.2.2.2.2.2.2.2.2.2.2.2.2.2.2.2.2.2)) (As := [.int x1]) (b := am 0) (st := [.int r_45, .int x2]) C0 (c_X8_textOf l dC dI cI cJ cZ cO am N mo x1 r_50 hc_50) rfl 1 gX8_partOften_X8_textOf (by decide +kernel) ⟨Nat.le_of_ble_eq_true rfl, Nat.le_of_ble_eq_true rfl⟩ rfl 0 8 rfl rfl  Cut.all rfl (Nat.le_of_ble_eq_true rfl) dX8_partOften_50 rfl ⟨Nat.zero_le _, Nat.zero_le _⟩ ?_
              refine jn_elim hf (fun (J : Int32 → Option (Int32 × MV)) => ∀ (s1_66 : Int32), J s1_66 = some o → V p l e RM_X8_partOften s m ([.ref (am 0), .int x1] : List Value).toArray below meth c 5 (dC, dI) A (MQ below (va_Qi (fun r (_ : Unit) => r = o.1) (PostW (dC, dI) (TY cI cJ cZ cO) A (fun _ => (W_M cI cJ cZ cO am o.2.1 o.2.2.1 o.2.2.2.1 o.2.2.2.2.1 o.2.2.2.2.2.1 o.2.2.2.2.2.2.1 o.2.2.2.2.2.2.2.1 o.2.2.2.2.2.2.2.2.1 o.2.2.2.2.2.2.2.2.2.1 o.2.2.2.2.2.2.2.2.2.2.1 o.2.2.2.2.2.2.2.2.2.2.2.1 o.2.2.2.2.2.2.2.2.2.2.2.2.1 o.2.2.2.2.2.2.2.2.2.2.2.2.2.1 o.2.2.2.2.2.2.2.2.2.2.2.2.2.2.1 o.2.2.2.2.2.2.2.2.2.2.2.2.2.2.2.1 o.2.2.2.2.2.2.2.2.2.2.2.2.2.2.2.2.1 o.2.2.2.2.2.2.2.2.2.2.2.2.2.2.2.2.2.1 o.2.2.2.2.2.2.2.2.2.2.2.2.2.2.2.2.2.2))) A) ([.ref (am 0), .int x1] : List Value).toArray s 0 0 A) 0 0 (W_M cI cJ cZ cO am mo.1 mo.2.1 mo.2.2.1 mo.2.2.2.1 mo.2.2.2.2.1 mo.2.2.2.2.2.1 mo.2.2.2.2.2.2.1 mo.2.2.2.2.2.2.2.1 mo.2.2.2.2.2.2.2.2.1 mo.2.2.2.2.2.2.2.2.2.1 mo.2.2.2.2.2.2.2.2.2.2.1 mo.2.2.2.2.2.2.2.2.2.2.2.1 mo.2.2.2.2.2.2.2.2.2.2.2.2.1 mo.2.2.2.2.2.2.2.2.2.2.2.2.2.1 mo.2.2.2.2.2.2.2.2.2.2.2.2.2.2.1 mo.2.2.2.2.2.2.2.2.2.2.2.2.2.2.2.1 mo.2.2.2.2.2.2.2.2.2.2.2.2.2.2.2.2.1 mo.2.2.2.2.2.2.2.2.2.2.2.2.2.2.2.2.2) 66 [(0, .ref (am 0)), (1, .int x1), (3, .int x3), (4, .int x4)] [.int s1_66, .int x2]) ?_ ?_
              · intro s1_66 hf
                refine V_iadd C0 dX8_partOften_66 rfl ?_
                refine V_topi (fun x2_1 ex2_1 => ?_)
                have hf := bd_inv ex2_1 hf
                refine V_istore_n (lv' := [(2, .int x2_1), (0, .ref (am 0)), (1, .int x1), (3, .int x3), (4, .int x4)]) C0 dX8_partOften_67 rfl (by decide) rfl rfl ?_
                refine V_iload C0 dX8_partOften_68 4 rfl rfl ?_
                refine V_aload_n C0 dX8_partOften_70 1 rfl rfl ?_
                refine V_get C0 fl_X8_partOften_35 0 rfl rfl dX8_partOften_71 rfl ?_
                refine V_iload C0 dX8_partOften_74 4 rfl rfl ?_
                obtain ⟨hi76, hf⟩ := ck_inv hf
                refine V_iald C0 9 0 rfl rfl hi76 dX8_partOften_76 rfl ?_
                refine V_iadd C0 dX8_partOften_77 rfl ?_
                refine V_topi (fun x4_2 ex4_2 => ?_)
                have hf := bd_inv ex4_2 hf
                refine V_istore (lv' := [(4, .int x4_2), (2, .int x2_1), (0, .ref (am 0)), (1, .int x1), (3, .int x3)]) C0 dX8_partOften_78 (by decide) rfl rfl ?_
                refine V_goto (tgt := 22) C0 dX8_partOften_80 (by decide) ?_
                exact V.sub [2, 3, 1, 4, 0] rfl (hREC x2_1 x4_2 hf)
              · intro J66 hJ66 hf
                refine V_icmp_ne (tgt := 65) C0 dX8_partOften_53 (by decide) rfl (fun c53 => ?_) (fun c53 => ?_)
                · have hf := ite_f c53 hf
                  refine V_iconst (v := 0) C0 dX8_partOften_65 (by decide) rfl ?_
                  exact V.sub [0, 1, 3, 4] rfl (hJ66 0 hf)
                · have hf := ite_t c53 hf
                  refine V_aload_n C0 dX8_partOften_56 0 rfl rfl ?_
                  refine V_iload_n C0 dX8_partOften_57 3 rfl rfl ?_
                  refine V_iconst (v := 1) C0 dX8_partOften_58 (by decide) rfl ?_
                  obtain ⟨r_59, hc_59, hf⟩ := bind_inv hf
                  refine V_cVI (ws' := (W_M cI cJ cZ cO am mo.1 mo.2.1 mo.2.2.1 mo.2.2.2.1 mo.2.2.2.2.1 mo.2.2.2.2.2.1 mo.2.2.2.2.2.2.1 mo.2.2.2.2.2.2.2.1 mo.2.2.2.2.2.2.2.2.1 mo.2.2.2.2.2.2.2.2.2.1 mo.2.2.2.2.2.2.2.2.2.2.1 mo.2.2.2.2.2.2.2.2.2.2.2.1 mo.2.2.2.2.2.2.2.2.2.2.2.2.1 mo.2.2.2.2.2.2.2.2.2.2.2.2.2.1 mo.2.2.2.2.2.2.2.2.2.2.2.2.2.2.1 mo.2.2.2.2.2.2.2.2.2.2.2.2.2.2.2.1 mo.2.2.2.2.2.2.2.2.2.2.2.2.2.2.2.2.1 mo.2.2.2.2.2.2.2.2.2.2.2.2.2.2.2.2.2)) (As := [.int x3, .int 1]) (b := am 0) (st := [.int x2]) C0 (c_X8_wordPart l dC dI cI cJ cZ cO am N mo x3 1 r_59 hc_59) rfl 2 gX8_partOften_X8_wordPart (by decide +kernel) ⟨Nat.le_of_ble_eq_true rfl, Nat.le_of_ble_eq_true rfl⟩ rfl 0 8 rfl rfl  Cut.all rfl (Nat.le_of_ble_eq_true rfl) dX8_partOften_59 rfl ⟨Nat.zero_le _, Nat.zero_le _⟩ ?_
                  refine V_goto (tgt := 66) C0 dX8_partOften_62 (by decide) ?_
                  exact V.sub [0, 1, 3, 4] rfl (hJ66 r_59 hf)
        refine V.sub [1, 2, 3, 4, 0] rfl (hL22 x3 r_16 _ ?_ N x2 0 hf)
        intro x2_22 hf
        refine V_iinc (k := 3) (v := x3 + 1) (lv' := [(3, .int (x3 + 1)), (0, .ref (am 0)), (1, .int x1), (2, .int x2_22)]) C0 dX8_partOften_83 rfl rfl (by decide) rfl rfl ?_
        refine V_goto (tgt := 4) C0 dX8_partOften_86 (by decide) ?_
        exact V.sub [1, 2, 3, 0] rfl (hREC x2_22 (x3 + 1) r_16 hf)
  refine V.sub [2, 3, 1, 0] rfl (hL4  _ ?_ N 0 0 mo hf)
  intro x2_4 mo_4 hf
  refine V_iload_n C0 dX8_partOften_89 0 rfl rfl ?_
  obtain rfl := some_inv hf
  exact V_iret C0 () rfl rfl dX8_partOften_90
abbrev RM_X8_ofPiece : Room := { frames := 8, cells := 0, slots := 0, locals := 186 }
theorem in_X8_ofPiece_X8 : ∀ w ∈ u_ws RX8 TX8 18, w ∈ wsX8_ofPiece := by decide +kernel
theorem fl_X8_ofPiece_53 : FL RX8 wsX8_ofPiece 8 53 17 RX8 TX8 18 := ⟨in_X8_ofPiece_X8, rfl, by decide, by decide +kernel, rfl⟩
set_option maxRecDepth 100000 in
set_option maxHeartbeats 4000000 in
theorem c_X8_ofPiece (l : Launch) (dC : Nat → ClassId) (dI : Nat → Nat → Nat) (cI cJ cZ cO : ClassId) (am : Nat → Nat) (N : Nat) (mo : MV) (x1 : Int32) (x2 : Int32) (o : Int32 × MV) (hf : f_X8_ofPiece N mo x1 x2 = some o) : MetI l yX8_ofPiece wsX8_ofPiece RM_X8_ofPiece (dC, dI) (TY cI cJ cZ cO) [.ref (am 0), .int x1, .int x2] (W_M cI cJ cZ cO am mo.1 mo.2.1 mo.2.2.1 mo.2.2.2.1 mo.2.2.2.2.1 mo.2.2.2.2.2.1 mo.2.2.2.2.2.2.1 mo.2.2.2.2.2.2.2.1 mo.2.2.2.2.2.2.2.2.1 mo.2.2.2.2.2.2.2.2.2.1 mo.2.2.2.2.2.2.2.2.2.2.1 mo.2.2.2.2.2.2.2.2.2.2.2.1 mo.2.2.2.2.2.2.2.2.2.2.2.2.1 mo.2.2.2.2.2.2.2.2.2.2.2.2.2.1 mo.2.2.2.2.2.2.2.2.2.2.2.2.2.2.1 mo.2.2.2.2.2.2.2.2.2.2.2.2.2.2.2.1 mo.2.2.2.2.2.2.2.2.2.2.2.2.2.2.2.2.1 mo.2.2.2.2.2.2.2.2.2.2.2.2.2.2.2.2.2) (fun r (_ : Unit) => r = o.1) (fun _ => (W_M cI cJ cZ cO am o.2.1 o.2.2.1 o.2.2.2.1 o.2.2.2.2.1 o.2.2.2.2.2.1 o.2.2.2.2.2.2.1 o.2.2.2.2.2.2.2.1 o.2.2.2.2.2.2.2.2.1 o.2.2.2.2.2.2.2.2.2.1 o.2.2.2.2.2.2.2.2.2.2.1 o.2.2.2.2.2.2.2.2.2.2.2.1 o.2.2.2.2.2.2.2.2.2.2.2.2.1 o.2.2.2.2.2.2.2.2.2.2.2.2.2.1 o.2.2.2.2.2.2.2.2.2.2.2.2.2.2.1 o.2.2.2.2.2.2.2.2.2.2.2.2.2.2.2.1 o.2.2.2.2.2.2.2.2.2.2.2.2.2.2.2.2.1 o.2.2.2.2.2.2.2.2.2.2.2.2.2.2.2.2.2.1 o.2.2.2.2.2.2.2.2.2.2.2.2.2.2.2.2.2.2)) := by
  refine MetI.ofV (cc := cX8_ofPiece) (maxL := 3) (ret := (some .int)) (own := RX8) (lv0 := [(0, .ref (am 0)), (1, .int x1), (2, .int x2)]) (by decide) rfl rfl (Nat.le_of_ble_eq_true rfl) rfl ?_
  intro p e s m below meth c A C0 _
  unfold f_X8_ofPiece at hf
  refine V_aload_n C0 dX8_ofPiece_0 0 rfl rfl ?_
  refine V_iload_n C0 dX8_ofPiece_1 1 rfl rfl ?_
  obtain ⟨r_2, hc_2, hf⟩ := bind_inv hf
  refine V_cVI (ws' := (W_M cI cJ cZ cO am mo.1 mo.2.1 mo.2.2.1 mo.2.2.2.1 mo.2.2.2.2.1 mo.2.2.2.2.2.1 mo.2.2.2.2.2.2.1 mo.2.2.2.2.2.2.2.1 mo.2.2.2.2.2.2.2.2.1 mo.2.2.2.2.2.2.2.2.2.1 mo.2.2.2.2.2.2.2.2.2.2.1 mo.2.2.2.2.2.2.2.2.2.2.2.1 mo.2.2.2.2.2.2.2.2.2.2.2.2.1 mo.2.2.2.2.2.2.2.2.2.2.2.2.2.1 mo.2.2.2.2.2.2.2.2.2.2.2.2.2.2.1 mo.2.2.2.2.2.2.2.2.2.2.2.2.2.2.2.1 mo.2.2.2.2.2.2.2.2.2.2.2.2.2.2.2.2.1 mo.2.2.2.2.2.2.2.2.2.2.2.2.2.2.2.2.2)) (As := [.int x1]) (b := am 0) (st := []) C0 (c_X8_isPiece l dC dI cI cJ cZ cO am N mo x1 r_2 hc_2) rfl 1 gX8_ofPiece_X8_isPiece (by decide +kernel) ⟨Nat.le_of_ble_eq_true rfl, Nat.le_of_ble_eq_true rfl⟩ rfl 0 8 rfl rfl  Cut.all rfl (Nat.le_of_ble_eq_true rfl) dX8_ofPiece_2 rfl ⟨Nat.zero_le _, Nat.zero_le _⟩ ?_
  refine V_if_ne (tgt := 10) C0 dX8_ofPiece_5 (by decide) rfl (fun c5 => ?_) (fun c5 => ?_)
  · have hf := ite_f c5 hf
    refine V_iload_n C0 dX8_ofPiece_10 2 rfl rfl ?_
    by_cases c11_0 : x2 = 0
    · have hf := ite_t c11_0 hf
      refine V_tableIn (tgt := 60) C0 c11_0 dX8_ofPiece_11 (by decide) (by decide) rfl (by decide) ?_
      refine V_aload_n C0 dX8_ofPiece_60 0 rfl rfl ?_
      refine V_iload_n C0 dX8_ofPiece_61 1 rfl rfl ?_
      refine V_iload_n C0 dX8_ofPiece_62 2 rfl rfl ?_
      obtain ⟨r_63, hc_63, hf⟩ := bind_inv hf
      refine V_cVI (ws' := (W_M cI cJ cZ cO am mo.1 mo.2.1 mo.2.2.1 mo.2.2.2.1 mo.2.2.2.2.1 mo.2.2.2.2.2.1 mo.2.2.2.2.2.2.1 mo.2.2.2.2.2.2.2.1 mo.2.2.2.2.2.2.2.2.1 mo.2.2.2.2.2.2.2.2.2.1 mo.2.2.2.2.2.2.2.2.2.2.1 mo.2.2.2.2.2.2.2.2.2.2.2.1 mo.2.2.2.2.2.2.2.2.2.2.2.2.1 mo.2.2.2.2.2.2.2.2.2.2.2.2.2.1 mo.2.2.2.2.2.2.2.2.2.2.2.2.2.2.1 mo.2.2.2.2.2.2.2.2.2.2.2.2.2.2.2.1 mo.2.2.2.2.2.2.2.2.2.2.2.2.2.2.2.2.1 mo.2.2.2.2.2.2.2.2.2.2.2.2.2.2.2.2.2)) (As := [.int x1, .int x2]) (b := am 0) (st := []) C0 (c_X8_piecePart l dC dI cI cJ cZ cO am N mo x1 x2 r_63 hc_63) rfl 2 gX8_ofPiece_X8_piecePart (by decide +kernel) ⟨Nat.le_of_ble_eq_true rfl, Nat.le_of_ble_eq_true rfl⟩ rfl 0 8 rfl rfl  Cut.all rfl (Nat.le_of_ble_eq_true rfl) dX8_ofPiece_63 rfl ⟨Nat.zero_le _, Nat.zero_le _⟩ ?_
      obtain rfl := some_inv hf
      exact V_iret C0 () rfl rfl dX8_ofPiece_66
    · have hf := ite_f c11_0 hf
      by_cases c11_1 : x2 = 1
      · have hf := ite_t c11_1 hf
        refine V_tableIn (tgt := 60) C0 c11_1 dX8_ofPiece_11 (by decide) (by decide) rfl (by decide) ?_
        refine V_aload_n C0 dX8_ofPiece_60 0 rfl rfl ?_
        refine V_iload_n C0 dX8_ofPiece_61 1 rfl rfl ?_
        refine V_iload_n C0 dX8_ofPiece_62 2 rfl rfl ?_
        obtain ⟨r_63, hc_63, hf⟩ := bind_inv hf
        refine V_cVI (ws' := (W_M cI cJ cZ cO am mo.1 mo.2.1 mo.2.2.1 mo.2.2.2.1 mo.2.2.2.2.1 mo.2.2.2.2.2.1 mo.2.2.2.2.2.2.1 mo.2.2.2.2.2.2.2.1 mo.2.2.2.2.2.2.2.2.1 mo.2.2.2.2.2.2.2.2.2.1 mo.2.2.2.2.2.2.2.2.2.2.1 mo.2.2.2.2.2.2.2.2.2.2.2.1 mo.2.2.2.2.2.2.2.2.2.2.2.2.1 mo.2.2.2.2.2.2.2.2.2.2.2.2.2.1 mo.2.2.2.2.2.2.2.2.2.2.2.2.2.2.1 mo.2.2.2.2.2.2.2.2.2.2.2.2.2.2.2.1 mo.2.2.2.2.2.2.2.2.2.2.2.2.2.2.2.2.1 mo.2.2.2.2.2.2.2.2.2.2.2.2.2.2.2.2.2)) (As := [.int x1, .int x2]) (b := am 0) (st := []) C0 (c_X8_piecePart l dC dI cI cJ cZ cO am N mo x1 x2 r_63 hc_63) rfl 2 gX8_ofPiece_X8_piecePart (by decide +kernel) ⟨Nat.le_of_ble_eq_true rfl, Nat.le_of_ble_eq_true rfl⟩ rfl 0 8 rfl rfl  Cut.all rfl (Nat.le_of_ble_eq_true rfl) dX8_ofPiece_63 rfl ⟨Nat.zero_le _, Nat.zero_le _⟩ ?_
        obtain rfl := some_inv hf
        exact V_iret C0 () rfl rfl dX8_ofPiece_66
      · have hf := ite_f c11_1 hf
        by_cases c11_2 : x2 = 2
        · have hf := ite_t c11_2 hf
          refine V_tableIn (tgt := 67) C0 c11_2 dX8_ofPiece_11 (by decide) (by decide) rfl (by decide) ?_
          refine V_aload_n C0 dX8_ofPiece_67 0 rfl rfl ?_
          refine V_iload_n C0 dX8_ofPiece_68 1 rfl rfl ?_
          obtain ⟨r_69, hc_69, hf⟩ := bind_inv hf
          refine V_cVI (ws' := (W_M cI cJ cZ cO am mo.1 mo.2.1 mo.2.2.1 mo.2.2.2.1 mo.2.2.2.2.1 mo.2.2.2.2.2.1 mo.2.2.2.2.2.2.1 mo.2.2.2.2.2.2.2.1 mo.2.2.2.2.2.2.2.2.1 mo.2.2.2.2.2.2.2.2.2.1 mo.2.2.2.2.2.2.2.2.2.2.1 mo.2.2.2.2.2.2.2.2.2.2.2.1 mo.2.2.2.2.2.2.2.2.2.2.2.2.1 mo.2.2.2.2.2.2.2.2.2.2.2.2.2.1 mo.2.2.2.2.2.2.2.2.2.2.2.2.2.2.1 mo.2.2.2.2.2.2.2.2.2.2.2.2.2.2.2.1 mo.2.2.2.2.2.2.2.2.2.2.2.2.2.2.2.2.1 mo.2.2.2.2.2.2.2.2.2.2.2.2.2.2.2.2.2)) (As := [.int x1]) (b := am 0) (st := []) C0 (c_X8_textOf l dC dI cI cJ cZ cO am N mo x1 r_69 hc_69) rfl 1 gX8_ofPiece_X8_textOf (by decide +kernel) ⟨Nat.le_of_ble_eq_true rfl, Nat.le_of_ble_eq_true rfl⟩ rfl 0 8 rfl rfl  Cut.all rfl (Nat.le_of_ble_eq_true rfl) dX8_ofPiece_69 rfl ⟨Nat.zero_le _, Nat.zero_le _⟩ ?_
          refine V_iload_n C0 dX8_ofPiece_72 2 rfl rfl ?_
          refine V_iconst (v := 2) C0 dX8_ofPiece_73 (by decide) rfl ?_
          refine V_isub C0 dX8_ofPiece_74 rfl ?_
          obtain ⟨r_75, hc_75, hf⟩ := bind_inv hf
          refine V_cSI (ws' := (W_M cI cJ cZ cO am mo.1 mo.2.1 mo.2.2.1 mo.2.2.2.1 mo.2.2.2.2.1 mo.2.2.2.2.2.1 mo.2.2.2.2.2.2.1 mo.2.2.2.2.2.2.2.1 mo.2.2.2.2.2.2.2.2.1 mo.2.2.2.2.2.2.2.2.2.1 mo.2.2.2.2.2.2.2.2.2.2.1 mo.2.2.2.2.2.2.2.2.2.2.2.1 mo.2.2.2.2.2.2.2.2.2.2.2.2.1 mo.2.2.2.2.2.2.2.2.2.2.2.2.2.1 mo.2.2.2.2.2.2.2.2.2.2.2.2.2.2.1 mo.2.2.2.2.2.2.2.2.2.2.2.2.2.2.2.1 mo.2.2.2.2.2.2.2.2.2.2.2.2.2.2.2.2.1 mo.2.2.2.2.2.2.2.2.2.2.2.2.2.2.2.2.2)) (As := [.int r_69, .int (x2 - 2)]) (st := []) C0 (c_X8_letterOf l dC dI cI cJ cZ cO  N  r_69 (x2 - 2) r_75 hc_75) rfl 2 gX8_ofPiece_X8_letterOf (by decide +kernel) ⟨Nat.le_of_ble_eq_true rfl, Nat.le_of_ble_eq_true rfl⟩ rfl  ⟨_, pr1, fun _ => pr1⟩ rfl (Nat.le_of_ble_eq_true rfl) dX8_ofPiece_75 rfl ⟨Nat.zero_le _, Nat.zero_le _⟩ ?_
          obtain rfl := some_inv hf
          exact V_iret C0 () rfl rfl dX8_ofPiece_78
        · have hf := ite_f c11_2 hf
          by_cases c11_3 : x2 = 3
          · have hf := ite_t c11_3 hf
            refine V_tableIn (tgt := 67) C0 c11_3 dX8_ofPiece_11 (by decide) (by decide) rfl (by decide) ?_
            refine V_aload_n C0 dX8_ofPiece_67 0 rfl rfl ?_
            refine V_iload_n C0 dX8_ofPiece_68 1 rfl rfl ?_
            obtain ⟨r_69, hc_69, hf⟩ := bind_inv hf
            refine V_cVI (ws' := (W_M cI cJ cZ cO am mo.1 mo.2.1 mo.2.2.1 mo.2.2.2.1 mo.2.2.2.2.1 mo.2.2.2.2.2.1 mo.2.2.2.2.2.2.1 mo.2.2.2.2.2.2.2.1 mo.2.2.2.2.2.2.2.2.1 mo.2.2.2.2.2.2.2.2.2.1 mo.2.2.2.2.2.2.2.2.2.2.1 mo.2.2.2.2.2.2.2.2.2.2.2.1 mo.2.2.2.2.2.2.2.2.2.2.2.2.1 mo.2.2.2.2.2.2.2.2.2.2.2.2.2.1 mo.2.2.2.2.2.2.2.2.2.2.2.2.2.2.1 mo.2.2.2.2.2.2.2.2.2.2.2.2.2.2.2.1 mo.2.2.2.2.2.2.2.2.2.2.2.2.2.2.2.2.1 mo.2.2.2.2.2.2.2.2.2.2.2.2.2.2.2.2.2)) (As := [.int x1]) (b := am 0) (st := []) C0 (c_X8_textOf l dC dI cI cJ cZ cO am N mo x1 r_69 hc_69) rfl 1 gX8_ofPiece_X8_textOf (by decide +kernel) ⟨Nat.le_of_ble_eq_true rfl, Nat.le_of_ble_eq_true rfl⟩ rfl 0 8 rfl rfl  Cut.all rfl (Nat.le_of_ble_eq_true rfl) dX8_ofPiece_69 rfl ⟨Nat.zero_le _, Nat.zero_le _⟩ ?_
            refine V_iload_n C0 dX8_ofPiece_72 2 rfl rfl ?_
            refine V_iconst (v := 2) C0 dX8_ofPiece_73 (by decide) rfl ?_
            refine V_isub C0 dX8_ofPiece_74 rfl ?_
            obtain ⟨r_75, hc_75, hf⟩ := bind_inv hf
            refine V_cSI (ws' := (W_M cI cJ cZ cO am mo.1 mo.2.1 mo.2.2.1 mo.2.2.2.1 mo.2.2.2.2.1 mo.2.2.2.2.2.1 mo.2.2.2.2.2.2.1 mo.2.2.2.2.2.2.2.1 mo.2.2.2.2.2.2.2.2.1 mo.2.2.2.2.2.2.2.2.2.1 mo.2.2.2.2.2.2.2.2.2.2.1 mo.2.2.2.2.2.2.2.2.2.2.2.1 mo.2.2.2.2.2.2.2.2.2.2.2.2.1 mo.2.2.2.2.2.2.2.2.2.2.2.2.2.1 mo.2.2.2.2.2.2.2.2.2.2.2.2.2.2.1 mo.2.2.2.2.2.2.2.2.2.2.2.2.2.2.2.1 mo.2.2.2.2.2.2.2.2.2.2.2.2.2.2.2.2.1 mo.2.2.2.2.2.2.2.2.2.2.2.2.2.2.2.2.2)) (As := [.int r_69, .int (x2 - 2)]) (st := []) C0 (c_X8_letterOf l dC dI cI cJ cZ cO  N  r_69 (x2 - 2) r_75 hc_75) rfl 2 gX8_ofPiece_X8_letterOf (by decide +kernel) ⟨Nat.le_of_ble_eq_true rfl, Nat.le_of_ble_eq_true rfl⟩ rfl  ⟨_, pr1, fun _ => pr1⟩ rfl (Nat.le_of_ble_eq_true rfl) dX8_ofPiece_75 rfl ⟨Nat.zero_le _, Nat.zero_le _⟩ ?_
            obtain rfl := some_inv hf
            exact V_iret C0 () rfl rfl dX8_ofPiece_78
          · have hf := ite_f c11_3 hf
            by_cases c11_4 : x2 = 4
            · have hf := ite_t c11_4 hf
              refine V_tableIn (tgt := 67) C0 c11_4 dX8_ofPiece_11 (by decide) (by decide) rfl (by decide) ?_
              refine V_aload_n C0 dX8_ofPiece_67 0 rfl rfl ?_
              refine V_iload_n C0 dX8_ofPiece_68 1 rfl rfl ?_
              obtain ⟨r_69, hc_69, hf⟩ := bind_inv hf
              refine V_cVI (ws' := (W_M cI cJ cZ cO am mo.1 mo.2.1 mo.2.2.1 mo.2.2.2.1 mo.2.2.2.2.1 mo.2.2.2.2.2.1 mo.2.2.2.2.2.2.1 mo.2.2.2.2.2.2.2.1 mo.2.2.2.2.2.2.2.2.1 mo.2.2.2.2.2.2.2.2.2.1 mo.2.2.2.2.2.2.2.2.2.2.1 mo.2.2.2.2.2.2.2.2.2.2.2.1 mo.2.2.2.2.2.2.2.2.2.2.2.2.1 mo.2.2.2.2.2.2.2.2.2.2.2.2.2.1 mo.2.2.2.2.2.2.2.2.2.2.2.2.2.2.1 mo.2.2.2.2.2.2.2.2.2.2.2.2.2.2.2.1 mo.2.2.2.2.2.2.2.2.2.2.2.2.2.2.2.2.1 mo.2.2.2.2.2.2.2.2.2.2.2.2.2.2.2.2.2)) (As := [.int x1]) (b := am 0) (st := []) C0 (c_X8_textOf l dC dI cI cJ cZ cO am N mo x1 r_69 hc_69) rfl 1 gX8_ofPiece_X8_textOf (by decide +kernel) ⟨Nat.le_of_ble_eq_true rfl, Nat.le_of_ble_eq_true rfl⟩ rfl 0 8 rfl rfl  Cut.all rfl (Nat.le_of_ble_eq_true rfl) dX8_ofPiece_69 rfl ⟨Nat.zero_le _, Nat.zero_le _⟩ ?_
              refine V_iload_n C0 dX8_ofPiece_72 2 rfl rfl ?_
              refine V_iconst (v := 2) C0 dX8_ofPiece_73 (by decide) rfl ?_
              refine V_isub C0 dX8_ofPiece_74 rfl ?_
              obtain ⟨r_75, hc_75, hf⟩ := bind_inv hf
              refine V_cSI (ws' := (W_M cI cJ cZ cO am mo.1 mo.2.1 mo.2.2.1 mo.2.2.2.1 mo.2.2.2.2.1 mo.2.2.2.2.2.1 mo.2.2.2.2.2.2.1 mo.2.2.2.2.2.2.2.1 mo.2.2.2.2.2.2.2.2.1 mo.2.2.2.2.2.2.2.2.2.1 mo.2.2.2.2.2.2.2.2.2.2.1 mo.2.2.2.2.2.2.2.2.2.2.2.1 mo.2.2.2.2.2.2.2.2.2.2.2.2.1 mo.2.2.2.2.2.2.2.2.2.2.2.2.2.1 mo.2.2.2.2.2.2.2.2.2.2.2.2.2.2.1 mo.2.2.2.2.2.2.2.2.2.2.2.2.2.2.2.1 mo.2.2.2.2.2.2.2.2.2.2.2.2.2.2.2.2.1 mo.2.2.2.2.2.2.2.2.2.2.2.2.2.2.2.2.2)) (As := [.int r_69, .int (x2 - 2)]) (st := []) C0 (c_X8_letterOf l dC dI cI cJ cZ cO  N  r_69 (x2 - 2) r_75 hc_75) rfl 2 gX8_ofPiece_X8_letterOf (by decide +kernel) ⟨Nat.le_of_ble_eq_true rfl, Nat.le_of_ble_eq_true rfl⟩ rfl  ⟨_, pr1, fun _ => pr1⟩ rfl (Nat.le_of_ble_eq_true rfl) dX8_ofPiece_75 rfl ⟨Nat.zero_le _, Nat.zero_le _⟩ ?_
              obtain rfl := some_inv hf
              exact V_iret C0 () rfl rfl dX8_ofPiece_78
            · have hf := ite_f c11_4 hf
              by_cases c11_5 : x2 = 5
              · have hf := ite_t c11_5 hf
                refine V_tableIn (tgt := 67) C0 c11_5 dX8_ofPiece_11 (by decide) (by decide) rfl (by decide) ?_
                refine V_aload_n C0 dX8_ofPiece_67 0 rfl rfl ?_
                refine V_iload_n C0 dX8_ofPiece_68 1 rfl rfl ?_
                obtain ⟨r_69, hc_69, hf⟩ := bind_inv hf
                refine V_cVI (ws' := (W_M cI cJ cZ cO am mo.1 mo.2.1 mo.2.2.1 mo.2.2.2.1 mo.2.2.2.2.1 mo.2.2.2.2.2.1 mo.2.2.2.2.2.2.1 mo.2.2.2.2.2.2.2.1 mo.2.2.2.2.2.2.2.2.1 mo.2.2.2.2.2.2.2.2.2.1 mo.2.2.2.2.2.2.2.2.2.2.1 mo.2.2.2.2.2.2.2.2.2.2.2.1 mo.2.2.2.2.2.2.2.2.2.2.2.2.1 mo.2.2.2.2.2.2.2.2.2.2.2.2.2.1 mo.2.2.2.2.2.2.2.2.2.2.2.2.2.2.1 mo.2.2.2.2.2.2.2.2.2.2.2.2.2.2.2.1 mo.2.2.2.2.2.2.2.2.2.2.2.2.2.2.2.2.1 mo.2.2.2.2.2.2.2.2.2.2.2.2.2.2.2.2.2)) (As := [.int x1]) (b := am 0) (st := []) C0 (c_X8_textOf l dC dI cI cJ cZ cO am N mo x1 r_69 hc_69) rfl 1 gX8_ofPiece_X8_textOf (by decide +kernel) ⟨Nat.le_of_ble_eq_true rfl, Nat.le_of_ble_eq_true rfl⟩ rfl 0 8 rfl rfl  Cut.all rfl (Nat.le_of_ble_eq_true rfl) dX8_ofPiece_69 rfl ⟨Nat.zero_le _, Nat.zero_le _⟩ ?_
                refine V_iload_n C0 dX8_ofPiece_72 2 rfl rfl ?_
                refine V_iconst (v := 2) C0 dX8_ofPiece_73 (by decide) rfl ?_
                refine V_isub C0 dX8_ofPiece_74 rfl ?_
                obtain ⟨r_75, hc_75, hf⟩ := bind_inv hf
                refine V_cSI (ws' := (W_M cI cJ cZ cO am mo.1 mo.2.1 mo.2.2.1 mo.2.2.2.1 mo.2.2.2.2.1 mo.2.2.2.2.2.1 mo.2.2.2.2.2.2.1 mo.2.2.2.2.2.2.2.1 mo.2.2.2.2.2.2.2.2.1 mo.2.2.2.2.2.2.2.2.2.1 mo.2.2.2.2.2.2.2.2.2.2.1 mo.2.2.2.2.2.2.2.2.2.2.2.1 mo.2.2.2.2.2.2.2.2.2.2.2.2.1 mo.2.2.2.2.2.2.2.2.2.2.2.2.2.1 mo.2.2.2.2.2.2.2.2.2.2.2.2.2.2.1 mo.2.2.2.2.2.2.2.2.2.2.2.2.2.2.2.1 mo.2.2.2.2.2.2.2.2.2.2.2.2.2.2.2.2.1 mo.2.2.2.2.2.2.2.2.2.2.2.2.2.2.2.2.2)) (As := [.int r_69, .int (x2 - 2)]) (st := []) C0 (c_X8_letterOf l dC dI cI cJ cZ cO  N  r_69 (x2 - 2) r_75 hc_75) rfl 2 gX8_ofPiece_X8_letterOf (by decide +kernel) ⟨Nat.le_of_ble_eq_true rfl, Nat.le_of_ble_eq_true rfl⟩ rfl  ⟨_, pr1, fun _ => pr1⟩ rfl (Nat.le_of_ble_eq_true rfl) dX8_ofPiece_75 rfl ⟨Nat.zero_le _, Nat.zero_le _⟩ ?_
                obtain rfl := some_inv hf
                exact V_iret C0 () rfl rfl dX8_ofPiece_78
              · have hf := ite_f c11_5 hf
                by_cases c11_6 : x2 = 6
                · have hf := ite_t c11_6 hf
                  refine V_tableIn (tgt := 79) C0 c11_6 dX8_ofPiece_11 (by decide) (by decide) rfl (by decide) ?_
                  refine V_aload_n C0 dX8_ofPiece_79 0 rfl rfl ?_
                  refine V_iload_n C0 dX8_ofPiece_80 1 rfl rfl ?_
                  obtain ⟨r_81, hc_81, hf⟩ := bind_inv hf
                  refine V_cVI (ws' := (W_M cI cJ cZ cO am r_81.2.1 r_81.2.2.1 r_81.2.2.2.1 r_81.2.2.2.2.1 r_81.2.2.2.2.2.1 r_81.2.2.2.2.2.2.1 r_81.2.2.2.2.2.2.2.1 r_81.2.2.2.2.2.2.2.2.1 r_81.2.2.2.2.2.2.2.2.2.1 r_81.2.2.2.2.2.2.2.2.2.2.1 r_81.2.2.2.2.2.2.2.2.2.2.2.1 r_81.2.2.2.2.2.2.2.2.2.2.2.2.1 r_81.2.2.2.2.2.2.2.2.2.2.2.2.2.1 r_81.2.2.2.2.2.2.2.2.2.2.2.2.2.2.1 r_81.2.2.2.2.2.2.2.2.2.2.2.2.2.2.2.1 r_81.2.2.2.2.2.2.2.2.2.2.2.2.2.2.2.2.1 r_81.2.2.2.2.2.2.2.2.2.2.2.2.2.2.2.2.2.1 r_81.2.2.2.2.2.2.2.2.2.2.2.2.2.2.2.2.2.2)) (As := [.int x1]) (b := am 0) (st := []) C0 (c_X8_partOften l dC dI cI cJ cZ cO am N mo x1 r_81 hc_81) rfl 1 gX8_ofPiece_X8_partOften (by decide +kernel) ⟨Nat.le_of_ble_eq_true rfl, Nat.le_of_ble_eq_true rfl⟩ rfl 0 8 rfl rfl  Cut.all rfl (Nat.le_of_ble_eq_true rfl) dX8_ofPiece_81 rfl ⟨Nat.zero_le _, Nat.zero_le _⟩ ?_
                  obtain rfl := some_inv hf
                  exact V_iret C0 () rfl rfl dX8_ofPiece_84
                · have hf := ite_f c11_6 hf
                  by_cases c11_7 : x2 = 7
                  · have hf := ite_t c11_7 hf
                    refine V_tableIn (tgt := 85) C0 c11_7 dX8_ofPiece_11 (by decide) (by decide) rfl (by decide) ?_
                    refine V_aload_n C0 dX8_ofPiece_85 0 rfl rfl ?_
                    refine V_iload_n C0 dX8_ofPiece_86 1 rfl rfl ?_
                    obtain ⟨r_87, hc_87, hf⟩ := bind_inv hf
                    refine V_cVI (ws' := (W_M cI cJ cZ cO am r_87.2.1 r_87.2.2.1 r_87.2.2.2.1 r_87.2.2.2.2.1 r_87.2.2.2.2.2.1 r_87.2.2.2.2.2.2.1 r_87.2.2.2.2.2.2.2.1 r_87.2.2.2.2.2.2.2.2.1 r_87.2.2.2.2.2.2.2.2.2.1 r_87.2.2.2.2.2.2.2.2.2.2.1 r_87.2.2.2.2.2.2.2.2.2.2.2.1 r_87.2.2.2.2.2.2.2.2.2.2.2.2.1 r_87.2.2.2.2.2.2.2.2.2.2.2.2.2.1 r_87.2.2.2.2.2.2.2.2.2.2.2.2.2.2.1 r_87.2.2.2.2.2.2.2.2.2.2.2.2.2.2.2.1 r_87.2.2.2.2.2.2.2.2.2.2.2.2.2.2.2.2.1 r_87.2.2.2.2.2.2.2.2.2.2.2.2.2.2.2.2.2.1 r_87.2.2.2.2.2.2.2.2.2.2.2.2.2.2.2.2.2.2)) (As := [.int x1]) (b := am 0) (st := []) C0 (c_X8_lossOf l dC dI cI cJ cZ cO am N mo x1 r_87 hc_87) rfl 1 gX8_ofPiece_X8_lossOf (by decide +kernel) ⟨Nat.le_of_ble_eq_true rfl, Nat.le_of_ble_eq_true rfl⟩ rfl 0 8 rfl rfl  Cut.all rfl (Nat.le_of_ble_eq_true rfl) dX8_ofPiece_87 rfl ⟨Nat.zero_le _, Nat.zero_le _⟩ ?_
                    refine V_ldc (v := 100000) C0 dX8_ofPiece_90 (by decide +kernel) rfl ?_
                    refine V_iadd C0 dX8_ofPiece_92 rfl ?_
                    obtain rfl := some_inv hf
                    exact V_iret C0 () rfl rfl dX8_ofPiece_93
                  · have hf := ite_f c11_7 hf
                    by_cases c11_8 : x2 = 8
                    · have hf := ite_t c11_8 hf
                      refine V_tableIn (tgt := 94) C0 c11_8 dX8_ofPiece_11 (by decide) (by decide) rfl (by decide) ?_
                      refine V_aload_n C0 dX8_ofPiece_94 0 rfl rfl ?_
                      obtain ⟨r_95, hc_95, hf⟩ := bind_inv hf
                      refine V_cVV (ws' := (W_M cI cJ cZ cO am r_95.1 r_95.2.1 r_95.2.2.1 r_95.2.2.2.1 r_95.2.2.2.2.1 r_95.2.2.2.2.2.1 r_95.2.2.2.2.2.2.1 r_95.2.2.2.2.2.2.2.1 r_95.2.2.2.2.2.2.2.2.1 r_95.2.2.2.2.2.2.2.2.2.1 r_95.2.2.2.2.2.2.2.2.2.2.1 r_95.2.2.2.2.2.2.2.2.2.2.2.1 r_95.2.2.2.2.2.2.2.2.2.2.2.2.1 r_95.2.2.2.2.2.2.2.2.2.2.2.2.2.1 r_95.2.2.2.2.2.2.2.2.2.2.2.2.2.2.1 r_95.2.2.2.2.2.2.2.2.2.2.2.2.2.2.2.1 r_95.2.2.2.2.2.2.2.2.2.2.2.2.2.2.2.2.1 r_95.2.2.2.2.2.2.2.2.2.2.2.2.2.2.2.2.2)) (As := []) (b := am 0) (st := []) C0 (c_X8_findBears l dC dI cI cJ cZ cO am N mo  r_95 hc_95) rfl 0 gX8_ofPiece_X8_findBears (by decide +kernel) ⟨Nat.le_of_ble_eq_true rfl, Nat.le_of_ble_eq_true rfl⟩ rfl 0 8 rfl rfl  Cut.all rfl (Nat.le_of_ble_eq_true rfl) dX8_ofPiece_95 rfl ⟨Nat.zero_le _, Nat.zero_le _⟩ ?_
                      refine V_aload_n C0 dX8_ofPiece_98 0 rfl rfl ?_
                      refine V_get C0 fl_X8_ofPiece_53 0 rfl rfl dX8_ofPiece_99 rfl ?_
                      refine V_iload_n C0 dX8_ofPiece_102 1 rfl rfl ?_
                      obtain ⟨hi103, hf⟩ := ck_inv hf
                      refine V_iald C0 15 0 rfl rfl hi103 dX8_ofPiece_103 rfl ?_
                      obtain rfl := some_inv hf
                      exact V_iret C0 () rfl rfl dX8_ofPiece_104
                    · have hf := ite_f c11_8 hf
                      refine V_tableOut (tgt := 105) C0 dX8_ofPiece_11 (tb_out (fun k h1 h2 => ?_)) (by decide) ?_
                      · rcases (show k = 0 ∨ k = 1 ∨ k = 2 ∨ k = 3 ∨ k = 4 ∨ k = 5 ∨ k = 6 ∨ k = 7 ∨ k = 8 by omega) with rfl | rfl | rfl | rfl | rfl | rfl | rfl | rfl | rfl
                        · exact c11_0
                        · exact c11_1
                        · exact c11_2
                        · exact c11_3
                        · exact c11_4
                        · exact c11_5
                        · exact c11_6
                        · exact c11_7
                        · exact c11_8
                      · skip
                        refine V_bipush (v := (-2)) C0 dX8_ofPiece_105 (by decide) rfl ?_
                        obtain rfl := some_inv hf
                        exact V_iret C0 () rfl rfl dX8_ofPiece_107
  · have hf := ite_t c5 hf
    refine V_iconst (v := (-1)) C0 dX8_ofPiece_8 (by decide) rfl ?_
    obtain rfl := some_inv hf
    exact V_iret C0 () rfl rfl dX8_ofPiece_9
abbrev RM_X8_ofWord : Room := { frames := 6, cells := 0, slots := 0, locals := 141 }
theorem in_X8_ofWord_X8 : ∀ w ∈ u_ws RX8 TX8 18, w ∈ wsX8_ofWord := by decide +kernel
theorem fl_X8_ofWord_32 : FL RX8 wsX8_ofWord 8 32 9 RX8 TX8 18 := ⟨in_X8_ofWord_X8, rfl, by decide, by decide +kernel, rfl⟩
set_option maxRecDepth 100000 in
set_option maxHeartbeats 4000000 in
theorem c_X8_ofWord (l : Launch) (dC : Nat → ClassId) (dI : Nat → Nat → Nat) (cI cJ cZ cO : ClassId) (am : Nat → Nat) (N : Nat) (mo : MV) (x1 : Int32) (x2 : Int32) (o : Int32 × MV) (hf : f_X8_ofWord N mo x1 x2 = some o) : MetI l yX8_ofWord wsX8_ofWord RM_X8_ofWord (dC, dI) (TY cI cJ cZ cO) [.ref (am 0), .int x1, .int x2] (W_M cI cJ cZ cO am mo.1 mo.2.1 mo.2.2.1 mo.2.2.2.1 mo.2.2.2.2.1 mo.2.2.2.2.2.1 mo.2.2.2.2.2.2.1 mo.2.2.2.2.2.2.2.1 mo.2.2.2.2.2.2.2.2.1 mo.2.2.2.2.2.2.2.2.2.1 mo.2.2.2.2.2.2.2.2.2.2.1 mo.2.2.2.2.2.2.2.2.2.2.2.1 mo.2.2.2.2.2.2.2.2.2.2.2.2.1 mo.2.2.2.2.2.2.2.2.2.2.2.2.2.1 mo.2.2.2.2.2.2.2.2.2.2.2.2.2.2.1 mo.2.2.2.2.2.2.2.2.2.2.2.2.2.2.2.1 mo.2.2.2.2.2.2.2.2.2.2.2.2.2.2.2.2.1 mo.2.2.2.2.2.2.2.2.2.2.2.2.2.2.2.2.2) (fun r (_ : Unit) => r = o.1) (fun _ => (W_M cI cJ cZ cO am o.2.1 o.2.2.1 o.2.2.2.1 o.2.2.2.2.1 o.2.2.2.2.2.1 o.2.2.2.2.2.2.1 o.2.2.2.2.2.2.2.1 o.2.2.2.2.2.2.2.2.1 o.2.2.2.2.2.2.2.2.2.1 o.2.2.2.2.2.2.2.2.2.2.1 o.2.2.2.2.2.2.2.2.2.2.2.1 o.2.2.2.2.2.2.2.2.2.2.2.2.1 o.2.2.2.2.2.2.2.2.2.2.2.2.2.1 o.2.2.2.2.2.2.2.2.2.2.2.2.2.2.1 o.2.2.2.2.2.2.2.2.2.2.2.2.2.2.2.1 o.2.2.2.2.2.2.2.2.2.2.2.2.2.2.2.2.1 o.2.2.2.2.2.2.2.2.2.2.2.2.2.2.2.2.2.1 o.2.2.2.2.2.2.2.2.2.2.2.2.2.2.2.2.2.2)) := by
  refine MetI.ofV (cc := cX8_ofWord) (maxL := 3) (ret := (some .int)) (own := RX8) (lv0 := [(0, .ref (am 0)), (1, .int x1), (2, .int x2)]) (by decide) rfl rfl (Nat.le_of_ble_eq_true rfl) rfl ?_
  intro p e s m below meth c A C0 _
  unfold f_X8_ofWord at hf
  refine V_aload_n C0 dX8_ofWord_0 0 rfl rfl ?_
  refine V_iload_n C0 dX8_ofWord_1 1 rfl rfl ?_
  obtain ⟨r_2, hc_2, hf⟩ := bind_inv hf
  refine V_cVI (ws' := (W_M cI cJ cZ cO am mo.1 mo.2.1 mo.2.2.1 mo.2.2.2.1 mo.2.2.2.2.1 mo.2.2.2.2.2.1 mo.2.2.2.2.2.2.1 mo.2.2.2.2.2.2.2.1 mo.2.2.2.2.2.2.2.2.1 mo.2.2.2.2.2.2.2.2.2.1 mo.2.2.2.2.2.2.2.2.2.2.1 mo.2.2.2.2.2.2.2.2.2.2.2.1 mo.2.2.2.2.2.2.2.2.2.2.2.2.1 mo.2.2.2.2.2.2.2.2.2.2.2.2.2.1 mo.2.2.2.2.2.2.2.2.2.2.2.2.2.2.1 mo.2.2.2.2.2.2.2.2.2.2.2.2.2.2.2.1 mo.2.2.2.2.2.2.2.2.2.2.2.2.2.2.2.2.1 mo.2.2.2.2.2.2.2.2.2.2.2.2.2.2.2.2.2)) (As := [.int x1]) (b := am 0) (st := []) C0 (c_X8_isWord l dC dI cI cJ cZ cO am N mo x1 r_2 hc_2) rfl 1 gX8_ofWord_X8_isWord (by decide +kernel) ⟨Nat.le_of_ble_eq_true rfl, Nat.le_of_ble_eq_true rfl⟩ rfl 0 8 rfl rfl  Cut.all rfl (Nat.le_of_ble_eq_true rfl) dX8_ofWord_2 rfl ⟨Nat.zero_le _, Nat.zero_le _⟩ ?_
  refine V_if_ne (tgt := 10) C0 dX8_ofWord_5 (by decide) rfl (fun c5 => ?_) (fun c5 => ?_)
  · have hf := ite_f c5 hf
    refine V_aload_n C0 dX8_ofWord_10 0 rfl rfl ?_
    refine V_iload_n C0 dX8_ofWord_11 1 rfl rfl ?_
    obtain ⟨r_12, hc_12, hf⟩ := bind_inv hf
    refine V_cVV (ws' := (W_M cI cJ cZ cO am r_12.1 r_12.2.1 r_12.2.2.1 r_12.2.2.2.1 r_12.2.2.2.2.1 r_12.2.2.2.2.2.1 r_12.2.2.2.2.2.2.1 r_12.2.2.2.2.2.2.2.1 r_12.2.2.2.2.2.2.2.2.1 r_12.2.2.2.2.2.2.2.2.2.1 r_12.2.2.2.2.2.2.2.2.2.2.1 r_12.2.2.2.2.2.2.2.2.2.2.2.1 r_12.2.2.2.2.2.2.2.2.2.2.2.2.1 r_12.2.2.2.2.2.2.2.2.2.2.2.2.2.1 r_12.2.2.2.2.2.2.2.2.2.2.2.2.2.2.1 r_12.2.2.2.2.2.2.2.2.2.2.2.2.2.2.2.1 r_12.2.2.2.2.2.2.2.2.2.2.2.2.2.2.2.2.1 r_12.2.2.2.2.2.2.2.2.2.2.2.2.2.2.2.2.2)) (As := [.int x1]) (b := am 0) (st := []) C0 (c_X8_findCut l dC dI cI cJ cZ cO am N mo x1 r_12 hc_12) rfl 1 gX8_ofWord_X8_findCut (by decide +kernel) ⟨Nat.le_of_ble_eq_true rfl, Nat.le_of_ble_eq_true rfl⟩ rfl 0 8 rfl rfl  Cut.all rfl (Nat.le_of_ble_eq_true rfl) dX8_ofWord_12 rfl ⟨Nat.zero_le _, Nat.zero_le _⟩ ?_
    refine V_iload_n C0 dX8_ofWord_15 2 rfl rfl ?_
    by_cases c16_0 : x2 = 0
    · have hf := ite_t c16_0 hf
      refine V_tableIn (tgt := 56) C0 c16_0 dX8_ofWord_16 (by decide) (by decide) rfl (by decide) ?_
      refine V_aload_n C0 dX8_ofWord_56 0 rfl rfl ?_
      refine V_iload_n C0 dX8_ofWord_57 1 rfl rfl ?_
      refine V_iload_n C0 dX8_ofWord_58 2 rfl rfl ?_
      obtain ⟨r_59, hc_59, hf⟩ := bind_inv hf
      refine V_cVI (ws' := (W_M cI cJ cZ cO am r_12.1 r_12.2.1 r_12.2.2.1 r_12.2.2.2.1 r_12.2.2.2.2.1 r_12.2.2.2.2.2.1 r_12.2.2.2.2.2.2.1 r_12.2.2.2.2.2.2.2.1 r_12.2.2.2.2.2.2.2.2.1 r_12.2.2.2.2.2.2.2.2.2.1 r_12.2.2.2.2.2.2.2.2.2.2.1 r_12.2.2.2.2.2.2.2.2.2.2.2.1 r_12.2.2.2.2.2.2.2.2.2.2.2.2.1 r_12.2.2.2.2.2.2.2.2.2.2.2.2.2.1 r_12.2.2.2.2.2.2.2.2.2.2.2.2.2.2.1 r_12.2.2.2.2.2.2.2.2.2.2.2.2.2.2.2.1 r_12.2.2.2.2.2.2.2.2.2.2.2.2.2.2.2.2.1 r_12.2.2.2.2.2.2.2.2.2.2.2.2.2.2.2.2.2)) (As := [.int x1, .int x2]) (b := am 0) (st := []) C0 (c_X8_wordPart l dC dI cI cJ cZ cO am N r_12 x1 x2 r_59 hc_59) rfl 2 gX8_ofWord_X8_wordPart (by decide +kernel) ⟨Nat.le_of_ble_eq_true rfl, Nat.le_of_ble_eq_true rfl⟩ rfl 0 8 rfl rfl  Cut.all rfl (Nat.le_of_ble_eq_true rfl) dX8_ofWord_59 rfl ⟨Nat.zero_le _, Nat.zero_le _⟩ ?_
      obtain rfl := some_inv hf
      exact V_iret C0 () rfl rfl dX8_ofWord_62
    · have hf := ite_f c16_0 hf
      by_cases c16_1 : x2 = 1
      · have hf := ite_t c16_1 hf
        refine V_tableIn (tgt := 56) C0 c16_1 dX8_ofWord_16 (by decide) (by decide) rfl (by decide) ?_
        refine V_aload_n C0 dX8_ofWord_56 0 rfl rfl ?_
        refine V_iload_n C0 dX8_ofWord_57 1 rfl rfl ?_
        refine V_iload_n C0 dX8_ofWord_58 2 rfl rfl ?_
        obtain ⟨r_59, hc_59, hf⟩ := bind_inv hf
        refine V_cVI (ws' := (W_M cI cJ cZ cO am r_12.1 r_12.2.1 r_12.2.2.1 r_12.2.2.2.1 r_12.2.2.2.2.1 r_12.2.2.2.2.2.1 r_12.2.2.2.2.2.2.1 r_12.2.2.2.2.2.2.2.1 r_12.2.2.2.2.2.2.2.2.1 r_12.2.2.2.2.2.2.2.2.2.1 r_12.2.2.2.2.2.2.2.2.2.2.1 r_12.2.2.2.2.2.2.2.2.2.2.2.1 r_12.2.2.2.2.2.2.2.2.2.2.2.2.1 r_12.2.2.2.2.2.2.2.2.2.2.2.2.2.1 r_12.2.2.2.2.2.2.2.2.2.2.2.2.2.2.1 r_12.2.2.2.2.2.2.2.2.2.2.2.2.2.2.2.1 r_12.2.2.2.2.2.2.2.2.2.2.2.2.2.2.2.2.1 r_12.2.2.2.2.2.2.2.2.2.2.2.2.2.2.2.2.2)) (As := [.int x1, .int x2]) (b := am 0) (st := []) C0 (c_X8_wordPart l dC dI cI cJ cZ cO am N r_12 x1 x2 r_59 hc_59) rfl 2 gX8_ofWord_X8_wordPart (by decide +kernel) ⟨Nat.le_of_ble_eq_true rfl, Nat.le_of_ble_eq_true rfl⟩ rfl 0 8 rfl rfl  Cut.all rfl (Nat.le_of_ble_eq_true rfl) dX8_ofWord_59 rfl ⟨Nat.zero_le _, Nat.zero_le _⟩ ?_
        obtain rfl := some_inv hf
        exact V_iret C0 () rfl rfl dX8_ofWord_62
      · have hf := ite_f c16_1 hf
        by_cases c16_2 : x2 = 2
        · have hf := ite_t c16_2 hf
          refine V_tableIn (tgt := 63) C0 c16_2 dX8_ofWord_16 (by decide) (by decide) rfl (by decide) ?_
          refine V_aload_n C0 dX8_ofWord_63 0 rfl rfl ?_
          refine V_get C0 fl_X8_ofWord_32 0 rfl rfl dX8_ofWord_64 rfl ?_
          refine V_iconst (v := 0) C0 dX8_ofWord_67 (by decide) rfl ?_
          obtain ⟨hi68, hf⟩ := ck_inv hf
          refine V_iald C0 8 0 rfl rfl hi68 dX8_ofWord_68 rfl ?_
          obtain rfl := some_inv hf
          exact V_iret C0 () rfl rfl dX8_ofWord_69
        · have hf := ite_f c16_2 hf
          by_cases c16_3 : x2 = 3
          · have hf := ite_t c16_3 hf
            refine V_tableIn (tgt := 70) C0 c16_3 dX8_ofWord_16 (by decide) (by decide) rfl (by decide) ?_
            refine V_aload_n C0 dX8_ofWord_70 0 rfl rfl ?_
            refine V_iload_n C0 dX8_ofWord_71 1 rfl rfl ?_
            obtain ⟨r_72, hc_72, hf⟩ := bind_inv hf
            refine V_cVI (ws' := (W_M cI cJ cZ cO am r_12.1 r_12.2.1 r_12.2.2.1 r_12.2.2.2.1 r_12.2.2.2.2.1 r_12.2.2.2.2.2.1 r_12.2.2.2.2.2.2.1 r_12.2.2.2.2.2.2.2.1 r_12.2.2.2.2.2.2.2.2.1 r_12.2.2.2.2.2.2.2.2.2.1 r_12.2.2.2.2.2.2.2.2.2.2.1 r_12.2.2.2.2.2.2.2.2.2.2.2.1 r_12.2.2.2.2.2.2.2.2.2.2.2.2.1 r_12.2.2.2.2.2.2.2.2.2.2.2.2.2.1 r_12.2.2.2.2.2.2.2.2.2.2.2.2.2.2.1 r_12.2.2.2.2.2.2.2.2.2.2.2.2.2.2.2.1 r_12.2.2.2.2.2.2.2.2.2.2.2.2.2.2.2.2.1 r_12.2.2.2.2.2.2.2.2.2.2.2.2.2.2.2.2.2)) (As := [.int x1]) (b := am 0) (st := []) C0 (c_X8_unseenIn l dC dI cI cJ cZ cO am N r_12 x1 r_72 hc_72) rfl 1 gX8_ofWord_X8_unseenIn (by decide +kernel) ⟨Nat.le_of_ble_eq_true rfl, Nat.le_of_ble_eq_true rfl⟩ rfl 0 8 rfl rfl  Cut.all rfl (Nat.le_of_ble_eq_true rfl) dX8_ofWord_72 rfl ⟨Nat.zero_le _, Nat.zero_le _⟩ ?_
            obtain rfl := some_inv hf
            exact V_iret C0 () rfl rfl dX8_ofWord_75
          · have hf := ite_f c16_3 hf
            by_cases c16_4 : x2 = 4
            · have hf := ite_t c16_4 hf
              refine V_tableIn (tgt := 76) C0 c16_4 dX8_ofWord_16 (by decide) (by decide) rfl (by decide) ?_
              refine V_aload_n C0 dX8_ofWord_76 0 rfl rfl ?_
              refine V_iload_n C0 dX8_ofWord_77 1 rfl rfl ?_
              obtain ⟨r_78, hc_78, hf⟩ := bind_inv hf
              refine V_cVI (ws' := (W_M cI cJ cZ cO am r_78.2.1 r_78.2.2.1 r_78.2.2.2.1 r_78.2.2.2.2.1 r_78.2.2.2.2.2.1 r_78.2.2.2.2.2.2.1 r_78.2.2.2.2.2.2.2.1 r_78.2.2.2.2.2.2.2.2.1 r_78.2.2.2.2.2.2.2.2.2.1 r_78.2.2.2.2.2.2.2.2.2.2.1 r_78.2.2.2.2.2.2.2.2.2.2.2.1 r_78.2.2.2.2.2.2.2.2.2.2.2.2.1 r_78.2.2.2.2.2.2.2.2.2.2.2.2.2.1 r_78.2.2.2.2.2.2.2.2.2.2.2.2.2.2.1 r_78.2.2.2.2.2.2.2.2.2.2.2.2.2.2.2.1 r_78.2.2.2.2.2.2.2.2.2.2.2.2.2.2.2.2.1 r_78.2.2.2.2.2.2.2.2.2.2.2.2.2.2.2.2.2.1 r_78.2.2.2.2.2.2.2.2.2.2.2.2.2.2.2.2.2.2)) (As := [.int x1]) (b := am 0) (st := []) C0 (c_X8_costOf l dC dI cI cJ cZ cO am N r_12 x1 r_78 hc_78) rfl 1 gX8_ofWord_X8_costOf (by decide +kernel) ⟨Nat.le_of_ble_eq_true rfl, Nat.le_of_ble_eq_true rfl⟩ rfl 0 8 rfl rfl  Cut.all rfl (Nat.le_of_ble_eq_true rfl) dX8_ofWord_78 rfl ⟨Nat.zero_le _, Nat.zero_le _⟩ ?_
              obtain rfl := some_inv hf
              exact V_iret C0 () rfl rfl dX8_ofWord_81
            · have hf := ite_f c16_4 hf
              by_cases c16_5 : x2 = 5
              · have hf := ite_t c16_5 hf
                refine V_tableIn (tgt := 82) C0 c16_5 dX8_ofWord_16 (by decide) (by decide) rfl (by decide) ?_
                refine V_aload_n C0 dX8_ofWord_82 0 rfl rfl ?_
                refine V_iload_n C0 dX8_ofWord_83 1 rfl rfl ?_
                obtain ⟨r_84, hc_84, hf⟩ := bind_inv hf
                refine V_cVI (ws' := (W_M cI cJ cZ cO am r_84.2.1 r_84.2.2.1 r_84.2.2.2.1 r_84.2.2.2.2.1 r_84.2.2.2.2.2.1 r_84.2.2.2.2.2.2.1 r_84.2.2.2.2.2.2.2.1 r_84.2.2.2.2.2.2.2.2.1 r_84.2.2.2.2.2.2.2.2.2.1 r_84.2.2.2.2.2.2.2.2.2.2.1 r_84.2.2.2.2.2.2.2.2.2.2.2.1 r_84.2.2.2.2.2.2.2.2.2.2.2.2.1 r_84.2.2.2.2.2.2.2.2.2.2.2.2.2.1 r_84.2.2.2.2.2.2.2.2.2.2.2.2.2.2.1 r_84.2.2.2.2.2.2.2.2.2.2.2.2.2.2.2.1 r_84.2.2.2.2.2.2.2.2.2.2.2.2.2.2.2.2.1 r_84.2.2.2.2.2.2.2.2.2.2.2.2.2.2.2.2.2.1 r_84.2.2.2.2.2.2.2.2.2.2.2.2.2.2.2.2.2.2)) (As := [.int x1]) (b := am 0) (st := []) C0 (c_X8_cutsOf l dC dI cI cJ cZ cO am N r_12 x1 r_84 hc_84) rfl 1 gX8_ofWord_X8_cutsOf (by decide +kernel) ⟨Nat.le_of_ble_eq_true rfl, Nat.le_of_ble_eq_true rfl⟩ rfl 0 8 rfl rfl  Cut.all rfl (Nat.le_of_ble_eq_true rfl) dX8_ofWord_84 rfl ⟨Nat.zero_le _, Nat.zero_le _⟩ ?_
                obtain rfl := some_inv hf
                exact V_iret C0 () rfl rfl dX8_ofWord_87
              · have hf := ite_f c16_5 hf
                refine V_tableOut (tgt := 88) C0 dX8_ofWord_16 (tb_out (fun k h1 h2 => ?_)) (by decide) ?_
                · rcases (show k = 0 ∨ k = 1 ∨ k = 2 ∨ k = 3 ∨ k = 4 ∨ k = 5 by omega) with rfl | rfl | rfl | rfl | rfl | rfl
                  · exact c16_0
                  · exact c16_1
                  · exact c16_2
                  · exact c16_3
                  · exact c16_4
                  · exact c16_5
                · skip
                  refine V_bipush (v := (-2)) C0 dX8_ofWord_88 (by decide) rfl ?_
                  obtain rfl := some_inv hf
                  exact V_iret C0 () rfl rfl dX8_ofWord_90
  · have hf := ite_t c5 hf
    refine V_iconst (v := (-1)) C0 dX8_ofWord_8 (by decide) rfl ?_
    obtain rfl := some_inv hf
    exact V_iret C0 () rfl rfl dX8_ofWord_9
abbrev RM_X8_letter : Room := { frames := 2, cells := 0, slots := 0, locals := 43 }
set_option maxRecDepth 100000 in
set_option maxHeartbeats 4000000 in
theorem c_X8_letter (l : Launch) (dC : Nat → ClassId) (dI : Nat → Nat → Nat) (cI cJ cZ cO : ClassId) (am : Nat → Nat) (N : Nat) (mo : MV) (x1 : Int32) (x2 : Int32) (o : Int32) (hf : f_X8_letter N mo x1 x2 = some o) : MetI l yX8_letter wsX8_letter RM_X8_letter (dC, dI) (TY cI cJ cZ cO) [.ref (am 0), .int x1, .int x2] (W_M cI cJ cZ cO am mo.1 mo.2.1 mo.2.2.1 mo.2.2.2.1 mo.2.2.2.2.1 mo.2.2.2.2.2.1 mo.2.2.2.2.2.2.1 mo.2.2.2.2.2.2.2.1 mo.2.2.2.2.2.2.2.2.1 mo.2.2.2.2.2.2.2.2.2.1 mo.2.2.2.2.2.2.2.2.2.2.1 mo.2.2.2.2.2.2.2.2.2.2.2.1 mo.2.2.2.2.2.2.2.2.2.2.2.2.1 mo.2.2.2.2.2.2.2.2.2.2.2.2.2.1 mo.2.2.2.2.2.2.2.2.2.2.2.2.2.2.1 mo.2.2.2.2.2.2.2.2.2.2.2.2.2.2.2.1 mo.2.2.2.2.2.2.2.2.2.2.2.2.2.2.2.2.1 mo.2.2.2.2.2.2.2.2.2.2.2.2.2.2.2.2.2) (fun r (_ : Unit) => r = o) (fun _ => (W_M cI cJ cZ cO am mo.1 mo.2.1 mo.2.2.1 mo.2.2.2.1 mo.2.2.2.2.1 mo.2.2.2.2.2.1 mo.2.2.2.2.2.2.1 mo.2.2.2.2.2.2.2.1 mo.2.2.2.2.2.2.2.2.1 mo.2.2.2.2.2.2.2.2.2.1 mo.2.2.2.2.2.2.2.2.2.2.1 mo.2.2.2.2.2.2.2.2.2.2.2.1 mo.2.2.2.2.2.2.2.2.2.2.2.2.1 mo.2.2.2.2.2.2.2.2.2.2.2.2.2.1 mo.2.2.2.2.2.2.2.2.2.2.2.2.2.2.1 mo.2.2.2.2.2.2.2.2.2.2.2.2.2.2.2.1 mo.2.2.2.2.2.2.2.2.2.2.2.2.2.2.2.2.1 mo.2.2.2.2.2.2.2.2.2.2.2.2.2.2.2.2.2)) := by
  refine MetI.ofV (cc := cX8_letter) (maxL := 3) (ret := (some .int)) (own := RX8) (lv0 := [(0, .ref (am 0)), (1, .int x1), (2, .int x2)]) (by decide) rfl rfl (Nat.le_of_ble_eq_true rfl) rfl ?_
  intro p e s m below meth c A C0 _
  unfold f_X8_letter at hf
  refine V_aload_n C0 dX8_letter_0 0 rfl rfl ?_
  refine V_iload_n C0 dX8_letter_1 1 rfl rfl ?_
  obtain ⟨r_2, hc_2, hf⟩ := bind_inv hf
  refine V_cVI (ws' := (W_M cI cJ cZ cO am mo.1 mo.2.1 mo.2.2.1 mo.2.2.2.1 mo.2.2.2.2.1 mo.2.2.2.2.2.1 mo.2.2.2.2.2.2.1 mo.2.2.2.2.2.2.2.1 mo.2.2.2.2.2.2.2.2.1 mo.2.2.2.2.2.2.2.2.2.1 mo.2.2.2.2.2.2.2.2.2.2.1 mo.2.2.2.2.2.2.2.2.2.2.2.1 mo.2.2.2.2.2.2.2.2.2.2.2.2.1 mo.2.2.2.2.2.2.2.2.2.2.2.2.2.1 mo.2.2.2.2.2.2.2.2.2.2.2.2.2.2.1 mo.2.2.2.2.2.2.2.2.2.2.2.2.2.2.2.1 mo.2.2.2.2.2.2.2.2.2.2.2.2.2.2.2.2.1 mo.2.2.2.2.2.2.2.2.2.2.2.2.2.2.2.2.2)) (As := [.int x1]) (b := am 0) (st := []) C0 (c_X8_isWord l dC dI cI cJ cZ cO am N mo x1 r_2 hc_2) rfl 1 gX8_letter_X8_isWord (by decide +kernel) ⟨Nat.le_of_ble_eq_true rfl, Nat.le_of_ble_eq_true rfl⟩ rfl 0 8 rfl rfl  Cut.all rfl (Nat.le_of_ble_eq_true rfl) dX8_letter_2 rfl ⟨Nat.zero_le _, Nat.zero_le _⟩ ?_
  refine V_if_eq (tgt := 37) C0 dX8_letter_5 (by decide) rfl (fun c5 => ?_) (fun c5 => ?_)
  · have hf := ite_t c5 hf
    refine V_iconst (v := (-1)) C0 dX8_letter_37 (by decide) rfl ?_
    obtain rfl := some_inv hf
    exact V_iret C0 () rfl rfl dX8_letter_38
  · have hf := ite_f c5 hf
    refine V_iload_n C0 dX8_letter_8 2 rfl rfl ?_
    refine V_iconst (v := 0) C0 dX8_letter_9 (by decide) rfl ?_
    refine V_aload_n C0 dX8_letter_10 0 rfl rfl ?_
    refine V_iload_n C0 dX8_letter_11 1 rfl rfl ?_
    refine V_iconst (v := 0) C0 dX8_letter_12 (by decide) rfl ?_
    obtain ⟨r_13, hc_13, hf⟩ := bind_inv hf
    refine V_cVI (ws' := (W_M cI cJ cZ cO am mo.1 mo.2.1 mo.2.2.1 mo.2.2.2.1 mo.2.2.2.2.1 mo.2.2.2.2.2.1 mo.2.2.2.2.2.2.1 mo.2.2.2.2.2.2.2.1 mo.2.2.2.2.2.2.2.2.1 mo.2.2.2.2.2.2.2.2.2.1 mo.2.2.2.2.2.2.2.2.2.2.1 mo.2.2.2.2.2.2.2.2.2.2.2.1 mo.2.2.2.2.2.2.2.2.2.2.2.2.1 mo.2.2.2.2.2.2.2.2.2.2.2.2.2.1 mo.2.2.2.2.2.2.2.2.2.2.2.2.2.2.1 mo.2.2.2.2.2.2.2.2.2.2.2.2.2.2.2.1 mo.2.2.2.2.2.2.2.2.2.2.2.2.2.2.2.2.1 mo.2.2.2.2.2.2.2.2.2.2.2.2.2.2.2.2.2)) (As := [.int x1, .int 0]) (b := am 0) (st := [.int 0, .int x2]) C0 (c_X8_wordPart l dC dI cI cJ cZ cO am N mo x1 0 r_13 hc_13) rfl 2 gX8_letter_X8_wordPart (by decide +kernel) ⟨Nat.le_of_ble_eq_true rfl, Nat.le_of_ble_eq_true rfl⟩ rfl 0 8 rfl rfl  Cut.all rfl (Nat.le_of_ble_eq_true rfl) dX8_letter_13 rfl ⟨Nat.zero_le _, Nat.zero_le _⟩ ?_
    refine V_iconst (v := 1) C0 dX8_letter_16 (by decide) rfl ?_
    refine V_isub C0 dX8_letter_17 rfl ?_
    obtain ⟨r_18, hc_18, hf⟩ := bind_inv hf
    refine V_cSI (ws' := (W_M cI cJ cZ cO am mo.1 mo.2.1 mo.2.2.1 mo.2.2.2.1 mo.2.2.2.2.1 mo.2.2.2.2.2.1 mo.2.2.2.2.2.2.1 mo.2.2.2.2.2.2.2.1 mo.2.2.2.2.2.2.2.2.1 mo.2.2.2.2.2.2.2.2.2.1 mo.2.2.2.2.2.2.2.2.2.2.1 mo.2.2.2.2.2.2.2.2.2.2.2.1 mo.2.2.2.2.2.2.2.2.2.2.2.2.1 mo.2.2.2.2.2.2.2.2.2.2.2.2.2.1 mo.2.2.2.2.2.2.2.2.2.2.2.2.2.2.1 mo.2.2.2.2.2.2.2.2.2.2.2.2.2.2.2.1 mo.2.2.2.2.2.2.2.2.2.2.2.2.2.2.2.2.1 mo.2.2.2.2.2.2.2.2.2.2.2.2.2.2.2.2.2)) (As := [.int x2, .int 0, .int (r_13 - 1)]) (st := []) C0 (c_X8_within l dC dI cI cJ cZ cO  N  x2 0 (r_13 - 1) r_18 hc_18) rfl 3 gX8_letter_X8_within (by decide +kernel) ⟨Nat.le_of_ble_eq_true rfl, Nat.le_of_ble_eq_true rfl⟩ rfl  ⟨_, pr1, fun _ => pr1⟩ rfl (Nat.le_of_ble_eq_true rfl) dX8_letter_18 rfl ⟨Nat.zero_le _, Nat.zero_le _⟩ ?_
    refine V_if_eq (tgt := 37) C0 dX8_letter_21 (by decide) rfl (fun c21 => ?_) (fun c21 => ?_)
    · have hf := ite_t c21 hf
      refine V_iconst (v := (-1)) C0 dX8_letter_37 (by decide) rfl ?_
      obtain rfl := some_inv hf
      exact V_iret C0 () rfl rfl dX8_letter_38
    · have hf := ite_f c21 hf
      refine V_aload_n C0 dX8_letter_24 0 rfl rfl ?_
      refine V_iload_n C0 dX8_letter_25 1 rfl rfl ?_
      refine V_iconst (v := 2) C0 dX8_letter_26 (by decide) rfl ?_
      refine V_iload_n C0 dX8_letter_27 2 rfl rfl ?_
      refine V_iadd C0 dX8_letter_28 rfl ?_
      obtain ⟨r_29, hc_29, hf⟩ := bind_inv hf
      refine V_cVI (ws' := (W_M cI cJ cZ cO am mo.1 mo.2.1 mo.2.2.1 mo.2.2.2.1 mo.2.2.2.2.1 mo.2.2.2.2.2.1 mo.2.2.2.2.2.2.1 mo.2.2.2.2.2.2.2.1 mo.2.2.2.2.2.2.2.2.1 mo.2.2.2.2.2.2.2.2.2.1 mo.2.2.2.2.2.2.2.2.2.2.1 mo.2.2.2.2.2.2.2.2.2.2.2.1 mo.2.2.2.2.2.2.2.2.2.2.2.2.1 mo.2.2.2.2.2.2.2.2.2.2.2.2.2.1 mo.2.2.2.2.2.2.2.2.2.2.2.2.2.2.1 mo.2.2.2.2.2.2.2.2.2.2.2.2.2.2.2.1 mo.2.2.2.2.2.2.2.2.2.2.2.2.2.2.2.2.1 mo.2.2.2.2.2.2.2.2.2.2.2.2.2.2.2.2.2)) (As := [.int x1, .int (2 + x2)]) (b := am 0) (st := []) C0 (c_X8_wordPart l dC dI cI cJ cZ cO am N mo x1 (2 + x2) r_29 hc_29) rfl 2 gX8_letter_X8_wordPart (by decide +kernel) ⟨Nat.le_of_ble_eq_true rfl, Nat.le_of_ble_eq_true rfl⟩ rfl 0 8 rfl rfl  Cut.all rfl (Nat.le_of_ble_eq_true rfl) dX8_letter_29 rfl ⟨Nat.zero_le _, Nat.zero_le _⟩ ?_
      refine V_iconst (v := 1) C0 dX8_letter_32 (by decide) rfl ?_
      refine V_isub C0 dX8_letter_33 rfl ?_
      refine V_goto (tgt := 38) C0 dX8_letter_34 (by decide) ?_
      obtain rfl := some_inv hf
      exact V_iret C0 () rfl rfl dX8_letter_38
abbrev RM_X8_product : Room := { frames := 5, cells := 0, slots := 0, locals := 120 }
theorem in_X8_product_X8 : ∀ w ∈ u_ws RX8 TX8 18, w ∈ wsX8_product := by decide +kernel
theorem fl_X8_product_28 : FL RX8 wsX8_product 8 28 8 RX8 TX8 18 := ⟨in_X8_product_X8, rfl, by decide, by decide +kernel, rfl⟩
theorem fl_X8_product_41 : FL RX8 wsX8_product 8 41 12 RX8 TX8 18 := ⟨in_X8_product_X8, rfl, by decide, by decide +kernel, rfl⟩
set_option maxRecDepth 100000 in
set_option maxHeartbeats 4000000 in
theorem c_X8_product (l : Launch) (dC : Nat → ClassId) (dI : Nat → Nat → Nat) (cI cJ cZ cO : ClassId) (am : Nat → Nat) (N : Nat) (mo : MV) (x1 : Int32) (x2 : Int32) (o : Int64 × MV) (hf : f_X8_product N mo x1 x2 = some o) : MetL l yX8_product wsX8_product RM_X8_product (dC, dI) (TY cI cJ cZ cO) [.ref (am 0), .int x1, .int x2] (W_M cI cJ cZ cO am mo.1 mo.2.1 mo.2.2.1 mo.2.2.2.1 mo.2.2.2.2.1 mo.2.2.2.2.2.1 mo.2.2.2.2.2.2.1 mo.2.2.2.2.2.2.2.1 mo.2.2.2.2.2.2.2.2.1 mo.2.2.2.2.2.2.2.2.2.1 mo.2.2.2.2.2.2.2.2.2.2.1 mo.2.2.2.2.2.2.2.2.2.2.2.1 mo.2.2.2.2.2.2.2.2.2.2.2.2.1 mo.2.2.2.2.2.2.2.2.2.2.2.2.2.1 mo.2.2.2.2.2.2.2.2.2.2.2.2.2.2.1 mo.2.2.2.2.2.2.2.2.2.2.2.2.2.2.2.1 mo.2.2.2.2.2.2.2.2.2.2.2.2.2.2.2.2.1 mo.2.2.2.2.2.2.2.2.2.2.2.2.2.2.2.2.2) (fun r (_ : Unit) => r = o.1) (fun _ => (W_M cI cJ cZ cO am o.2.1 o.2.2.1 o.2.2.2.1 o.2.2.2.2.1 o.2.2.2.2.2.1 o.2.2.2.2.2.2.1 o.2.2.2.2.2.2.2.1 o.2.2.2.2.2.2.2.2.1 o.2.2.2.2.2.2.2.2.2.1 o.2.2.2.2.2.2.2.2.2.2.1 o.2.2.2.2.2.2.2.2.2.2.2.1 o.2.2.2.2.2.2.2.2.2.2.2.2.1 o.2.2.2.2.2.2.2.2.2.2.2.2.2.1 o.2.2.2.2.2.2.2.2.2.2.2.2.2.2.1 o.2.2.2.2.2.2.2.2.2.2.2.2.2.2.2.1 o.2.2.2.2.2.2.2.2.2.2.2.2.2.2.2.2.1 o.2.2.2.2.2.2.2.2.2.2.2.2.2.2.2.2.2.1 o.2.2.2.2.2.2.2.2.2.2.2.2.2.2.2.2.2.2)) := by
  refine MetL.ofV (cc := cX8_product) (maxL := 3) (ret := (some .long)) (own := RX8) (lv0 := [(0, .ref (am 0)), (1, .int x1), (2, .int x2)]) (by decide) rfl rfl (Nat.le_of_ble_eq_true rfl) rfl ?_
  intro p e s m below meth c A C0 _
  unfold f_X8_product at hf
  refine V_aload_n C0 dX8_product_0 0 rfl rfl ?_
  refine V_iload_n C0 dX8_product_1 1 rfl rfl ?_
  obtain ⟨r_2, hc_2, hf⟩ := bind_inv hf
  refine V_cVI (ws' := (W_M cI cJ cZ cO am mo.1 mo.2.1 mo.2.2.1 mo.2.2.2.1 mo.2.2.2.2.1 mo.2.2.2.2.2.1 mo.2.2.2.2.2.2.1 mo.2.2.2.2.2.2.2.1 mo.2.2.2.2.2.2.2.2.1 mo.2.2.2.2.2.2.2.2.2.1 mo.2.2.2.2.2.2.2.2.2.2.1 mo.2.2.2.2.2.2.2.2.2.2.2.1 mo.2.2.2.2.2.2.2.2.2.2.2.2.1 mo.2.2.2.2.2.2.2.2.2.2.2.2.2.1 mo.2.2.2.2.2.2.2.2.2.2.2.2.2.2.1 mo.2.2.2.2.2.2.2.2.2.2.2.2.2.2.2.1 mo.2.2.2.2.2.2.2.2.2.2.2.2.2.2.2.2.1 mo.2.2.2.2.2.2.2.2.2.2.2.2.2.2.2.2.2)) (As := [.int x1]) (b := am 0) (st := []) C0 (c_X8_isWord l dC dI cI cJ cZ cO am N mo x1 r_2 hc_2) rfl 1 gX8_product_X8_isWord (by decide +kernel) ⟨Nat.le_of_ble_eq_true rfl, Nat.le_of_ble_eq_true rfl⟩ rfl 0 8 rfl rfl  Cut.all rfl (Nat.le_of_ble_eq_true rfl) dX8_product_2 rfl ⟨Nat.zero_le _, Nat.zero_le _⟩ ?_
  refine jn_elim hf (fun (J : Unit → Option (Int64 × MV)) => ∀ (u : Unit), J u = some o → V p l e RM_X8_product s m ([.ref (am 0), .int x1, .int x2] : List Value).toArray below meth c 3 (dC, dI) A (MQ below (va_Ql (fun r (_ : Unit) => r = o.1) (PostW (dC, dI) (TY cI cJ cZ cO) A (fun _ => (W_M cI cJ cZ cO am o.2.1 o.2.2.1 o.2.2.2.1 o.2.2.2.2.1 o.2.2.2.2.2.1 o.2.2.2.2.2.2.1 o.2.2.2.2.2.2.2.1 o.2.2.2.2.2.2.2.2.1 o.2.2.2.2.2.2.2.2.2.1 o.2.2.2.2.2.2.2.2.2.2.1 o.2.2.2.2.2.2.2.2.2.2.2.1 o.2.2.2.2.2.2.2.2.2.2.2.2.1 o.2.2.2.2.2.2.2.2.2.2.2.2.2.1 o.2.2.2.2.2.2.2.2.2.2.2.2.2.2.1 o.2.2.2.2.2.2.2.2.2.2.2.2.2.2.2.1 o.2.2.2.2.2.2.2.2.2.2.2.2.2.2.2.2.1 o.2.2.2.2.2.2.2.2.2.2.2.2.2.2.2.2.2.1 o.2.2.2.2.2.2.2.2.2.2.2.2.2.2.2.2.2.2))) A) ([.ref (am 0), .int x1, .int x2] : List Value).toArray s 0 0 A) 0 0 (W_M cI cJ cZ cO am mo.1 mo.2.1 mo.2.2.1 mo.2.2.2.1 mo.2.2.2.2.1 mo.2.2.2.2.2.1 mo.2.2.2.2.2.2.1 mo.2.2.2.2.2.2.2.1 mo.2.2.2.2.2.2.2.2.1 mo.2.2.2.2.2.2.2.2.2.1 mo.2.2.2.2.2.2.2.2.2.2.1 mo.2.2.2.2.2.2.2.2.2.2.2.1 mo.2.2.2.2.2.2.2.2.2.2.2.2.1 mo.2.2.2.2.2.2.2.2.2.2.2.2.2.1 mo.2.2.2.2.2.2.2.2.2.2.2.2.2.2.1 mo.2.2.2.2.2.2.2.2.2.2.2.2.2.2.2.1 mo.2.2.2.2.2.2.2.2.2.2.2.2.2.2.2.2.1 mo.2.2.2.2.2.2.2.2.2.2.2.2.2.2.2.2.2) 17 [(0, .ref (am 0)), (1, .int x1)] []) ?_ ?_
  · intro u hf
    refine V_aload_n C0 dX8_product_17 0 rfl rfl ?_
    refine V_iload_n C0 dX8_product_18 1 rfl rfl ?_
    obtain ⟨r_19, hc_19, hf⟩ := bind_inv hf
    refine V_cVI (ws' := (W_M cI cJ cZ cO am mo.1 mo.2.1 mo.2.2.1 mo.2.2.2.1 mo.2.2.2.2.1 mo.2.2.2.2.2.1 mo.2.2.2.2.2.2.1 mo.2.2.2.2.2.2.2.1 mo.2.2.2.2.2.2.2.2.1 mo.2.2.2.2.2.2.2.2.2.1 mo.2.2.2.2.2.2.2.2.2.2.1 mo.2.2.2.2.2.2.2.2.2.2.2.1 mo.2.2.2.2.2.2.2.2.2.2.2.2.1 mo.2.2.2.2.2.2.2.2.2.2.2.2.2.1 mo.2.2.2.2.2.2.2.2.2.2.2.2.2.2.1 mo.2.2.2.2.2.2.2.2.2.2.2.2.2.2.2.1 mo.2.2.2.2.2.2.2.2.2.2.2.2.2.2.2.2.1 mo.2.2.2.2.2.2.2.2.2.2.2.2.2.2.2.2.2)) (As := [.int x1]) (b := am 0) (st := []) C0 (c_X8_isWord l dC dI cI cJ cZ cO am N mo x1 r_19 hc_19) rfl 1 gX8_product_X8_isWord (by decide +kernel) ⟨Nat.le_of_ble_eq_true rfl, Nat.le_of_ble_eq_true rfl⟩ rfl 0 8 rfl rfl  Cut.all rfl (Nat.le_of_ble_eq_true rfl) dX8_product_19 rfl ⟨Nat.zero_le _, Nat.zero_le _⟩ ?_
    refine V_if_eq (tgt := 31) C0 dX8_product_22 (by decide) rfl (fun c22 => ?_) (fun c22 => ?_)
    · have hf := ite_t c22 hf
      refine V_ldc2 (v := (-1)) C0 dX8_product_31 (by decide +kernel) rfl ?_
      obtain rfl := some_inv hf
      exact V_lret C0 () rfl rfl dX8_product_34
    · have hf := ite_f c22 hf
      refine V_ldc2 (v := (-2)) C0 dX8_product_25 (by decide +kernel) rfl ?_
      refine V_goto (tgt := 34) C0 dX8_product_28 (by decide) ?_
      obtain rfl := some_inv hf
      exact V_lret C0 () rfl rfl dX8_product_34
  · intro J17 hJ17 hf
    refine V_if_eq (tgt := 17) C0 dX8_product_5 (by decide) rfl (fun c5 => ?_) (fun c5 => ?_)
    · have hf := ite_t c5 hf
      exact V.sub [0, 1] rfl (hJ17 () hf)
    · have hf := ite_f c5 hf
      refine V_iload_n C0 dX8_product_8 2 rfl rfl ?_
      refine V_iconst (v := 0) C0 dX8_product_9 (by decide) rfl ?_
      refine V_iconst (v := 1) C0 dX8_product_10 (by decide) rfl ?_
      obtain ⟨r_11, hc_11, hf⟩ := bind_inv hf
      refine V_cSI (ws' := (W_M cI cJ cZ cO am mo.1 mo.2.1 mo.2.2.1 mo.2.2.2.1 mo.2.2.2.2.1 mo.2.2.2.2.2.1 mo.2.2.2.2.2.2.1 mo.2.2.2.2.2.2.2.1 mo.2.2.2.2.2.2.2.2.1 mo.2.2.2.2.2.2.2.2.2.1 mo.2.2.2.2.2.2.2.2.2.2.1 mo.2.2.2.2.2.2.2.2.2.2.2.1 mo.2.2.2.2.2.2.2.2.2.2.2.2.1 mo.2.2.2.2.2.2.2.2.2.2.2.2.2.1 mo.2.2.2.2.2.2.2.2.2.2.2.2.2.2.1 mo.2.2.2.2.2.2.2.2.2.2.2.2.2.2.2.1 mo.2.2.2.2.2.2.2.2.2.2.2.2.2.2.2.2.1 mo.2.2.2.2.2.2.2.2.2.2.2.2.2.2.2.2.2)) (As := [.int x2, .int 0, .int 1]) (st := []) C0 (c_X8_within l dC dI cI cJ cZ cO  N  x2 0 1 r_11 hc_11) rfl 3 gX8_product_X8_within (by decide +kernel) ⟨Nat.le_of_ble_eq_true rfl, Nat.le_of_ble_eq_true rfl⟩ rfl  ⟨_, pr1, fun _ => pr1⟩ rfl (Nat.le_of_ble_eq_true rfl) dX8_product_11 rfl ⟨Nat.zero_le _, Nat.zero_le _⟩ ?_
      refine V_if_ne (tgt := 35) C0 dX8_product_14 (by decide) rfl (fun c14 => ?_) (fun c14 => ?_)
      · have hf := ite_f c14 hf
        refine V_aload_n C0 dX8_product_35 0 rfl rfl ?_
        refine V_iload_n C0 dX8_product_36 1 rfl rfl ?_
        obtain ⟨r_37, hc_37, hf⟩ := bind_inv hf
        refine V_cVV (ws' := (W_M cI cJ cZ cO am r_37.1 r_37.2.1 r_37.2.2.1 r_37.2.2.2.1 r_37.2.2.2.2.1 r_37.2.2.2.2.2.1 r_37.2.2.2.2.2.2.1 r_37.2.2.2.2.2.2.2.1 r_37.2.2.2.2.2.2.2.2.1 r_37.2.2.2.2.2.2.2.2.2.1 r_37.2.2.2.2.2.2.2.2.2.2.1 r_37.2.2.2.2.2.2.2.2.2.2.2.1 r_37.2.2.2.2.2.2.2.2.2.2.2.2.1 r_37.2.2.2.2.2.2.2.2.2.2.2.2.2.1 r_37.2.2.2.2.2.2.2.2.2.2.2.2.2.2.1 r_37.2.2.2.2.2.2.2.2.2.2.2.2.2.2.2.1 r_37.2.2.2.2.2.2.2.2.2.2.2.2.2.2.2.2.1 r_37.2.2.2.2.2.2.2.2.2.2.2.2.2.2.2.2.2)) (As := [.int x1]) (b := am 0) (st := []) C0 (c_X8_findCut l dC dI cI cJ cZ cO am N mo x1 r_37 hc_37) rfl 1 gX8_product_X8_findCut (by decide +kernel) ⟨Nat.le_of_ble_eq_true rfl, Nat.le_of_ble_eq_true rfl⟩ rfl 0 8 rfl rfl  Cut.all rfl (Nat.le_of_ble_eq_true rfl) dX8_product_37 rfl ⟨Nat.zero_le _, Nat.zero_le _⟩ ?_
        refine V_aload_n C0 dX8_product_40 0 rfl rfl ?_
        refine V_iload_n C0 dX8_product_41 1 rfl rfl ?_
        obtain ⟨r_42, hc_42, hf⟩ := bind_inv hf
        refine V_cVV (ws' := (W_M cI cJ cZ cO am r_42.1 r_42.2.1 r_42.2.2.1 r_42.2.2.2.1 r_42.2.2.2.2.1 r_42.2.2.2.2.2.1 r_42.2.2.2.2.2.2.1 r_42.2.2.2.2.2.2.2.1 r_42.2.2.2.2.2.2.2.2.1 r_42.2.2.2.2.2.2.2.2.2.1 r_42.2.2.2.2.2.2.2.2.2.2.1 r_42.2.2.2.2.2.2.2.2.2.2.2.1 r_42.2.2.2.2.2.2.2.2.2.2.2.2.1 r_42.2.2.2.2.2.2.2.2.2.2.2.2.2.1 r_42.2.2.2.2.2.2.2.2.2.2.2.2.2.2.1 r_42.2.2.2.2.2.2.2.2.2.2.2.2.2.2.2.1 r_42.2.2.2.2.2.2.2.2.2.2.2.2.2.2.2.2.1 r_42.2.2.2.2.2.2.2.2.2.2.2.2.2.2.2.2.2)) (As := [.int x1]) (b := am 0) (st := []) C0 (c_X8_findTotals l dC dI cI cJ cZ cO am N r_37 x1 r_42 hc_42) rfl 1 gX8_product_X8_findTotals (by decide +kernel) ⟨Nat.le_of_ble_eq_true rfl, Nat.le_of_ble_eq_true rfl⟩ rfl 0 8 rfl rfl  Cut.all rfl (Nat.le_of_ble_eq_true rfl) dX8_product_42 rfl ⟨Nat.zero_le _, Nat.zero_le _⟩ ?_
        refine V_iload_n C0 dX8_product_45 2 rfl rfl ?_
        refine V_if_ne (tgt := 58) C0 dX8_product_46 (by decide) rfl (fun c46 => ?_) (fun c46 => ?_)
        · have hf := ite_f c46 hf
          refine V_aload_n C0 dX8_product_58 0 rfl rfl ?_
          refine V_get C0 fl_X8_product_28 0 rfl rfl dX8_product_59 rfl ?_
          refine V_iconst (v := 0) C0 dX8_product_62 (by decide) rfl ?_
          obtain ⟨hi63, hf⟩ := ck_inv hf
          refine V_lald C0 7 1 rfl rfl hi63 dX8_product_63 rfl ?_
          obtain rfl := some_inv hf
          exact V_lret C0 () rfl rfl dX8_product_64
        · have hf := ite_t c46 hf
          refine V_aload_n C0 dX8_product_49 0 rfl rfl ?_
          refine V_get C0 fl_X8_product_41 0 rfl rfl dX8_product_50 rfl ?_
          refine V_iconst (v := 0) C0 dX8_product_53 (by decide) rfl ?_
          obtain ⟨hi54, hf⟩ := ck_inv hf
          refine V_lald C0 11 1 rfl rfl hi54 dX8_product_54 rfl ?_
          refine V_goto (tgt := 64) C0 dX8_product_55 (by decide) ?_
          obtain rfl := some_inv hf
          exact V_lret C0 () rfl rfl dX8_product_64
      · have hf := ite_t c14 hf
        exact V.sub [0, 1] rfl (hJ17 () hf)
abbrev RM_X8_part : Room := { frames := 5, cells := 0, slots := 0, locals := 120 }
theorem in_X8_part_X8 : ∀ w ∈ u_ws RX8 TX8 18, w ∈ wsX8_part := by decide +kernel
theorem fl_X8_part_32 : FL RX8 wsX8_part 8 32 9 RX8 TX8 18 := ⟨in_X8_part_X8, rfl, by decide, by decide +kernel, rfl⟩
theorem fl_X8_part_35 : FL RX8 wsX8_part 8 35 10 RX8 TX8 18 := ⟨in_X8_part_X8, rfl, by decide, by decide +kernel, rfl⟩
set_option maxRecDepth 100000 in
set_option maxHeartbeats 4000000 in
theorem c_X8_part (l : Launch) (dC : Nat → ClassId) (dI : Nat → Nat → Nat) (cI cJ cZ cO : ClassId) (am : Nat → Nat) (N : Nat) (mo : MV) (x1 : Int32) (x2 : Int32) (x3 : Int32) (o : Int32 × MV) (hf : f_X8_part N mo x1 x2 x3 = some o) : MetI l yX8_part wsX8_part RM_X8_part (dC, dI) (TY cI cJ cZ cO) [.ref (am 0), .int x1, .int x2, .int x3] (W_M cI cJ cZ cO am mo.1 mo.2.1 mo.2.2.1 mo.2.2.2.1 mo.2.2.2.2.1 mo.2.2.2.2.2.1 mo.2.2.2.2.2.2.1 mo.2.2.2.2.2.2.2.1 mo.2.2.2.2.2.2.2.2.1 mo.2.2.2.2.2.2.2.2.2.1 mo.2.2.2.2.2.2.2.2.2.2.1 mo.2.2.2.2.2.2.2.2.2.2.2.1 mo.2.2.2.2.2.2.2.2.2.2.2.2.1 mo.2.2.2.2.2.2.2.2.2.2.2.2.2.1 mo.2.2.2.2.2.2.2.2.2.2.2.2.2.2.1 mo.2.2.2.2.2.2.2.2.2.2.2.2.2.2.2.1 mo.2.2.2.2.2.2.2.2.2.2.2.2.2.2.2.2.1 mo.2.2.2.2.2.2.2.2.2.2.2.2.2.2.2.2.2) (fun r (_ : Unit) => r = o.1) (fun _ => (W_M cI cJ cZ cO am o.2.1 o.2.2.1 o.2.2.2.1 o.2.2.2.2.1 o.2.2.2.2.2.1 o.2.2.2.2.2.2.1 o.2.2.2.2.2.2.2.1 o.2.2.2.2.2.2.2.2.1 o.2.2.2.2.2.2.2.2.2.1 o.2.2.2.2.2.2.2.2.2.2.1 o.2.2.2.2.2.2.2.2.2.2.2.1 o.2.2.2.2.2.2.2.2.2.2.2.2.1 o.2.2.2.2.2.2.2.2.2.2.2.2.2.1 o.2.2.2.2.2.2.2.2.2.2.2.2.2.2.1 o.2.2.2.2.2.2.2.2.2.2.2.2.2.2.2.1 o.2.2.2.2.2.2.2.2.2.2.2.2.2.2.2.2.1 o.2.2.2.2.2.2.2.2.2.2.2.2.2.2.2.2.2.1 o.2.2.2.2.2.2.2.2.2.2.2.2.2.2.2.2.2.2)) := by
  refine MetI.ofV (cc := cX8_part) (maxL := 6) (ret := (some .int)) (own := RX8) (lv0 := [(0, .ref (am 0)), (1, .int x1), (2, .int x2), (3, .int x3)]) (by decide) rfl rfl (Nat.le_of_ble_eq_true rfl) rfl ?_
  intro p e s m below meth c A C0 _
  unfold f_X8_part at hf
  refine V_aload_n C0 dX8_part_0 0 rfl rfl ?_
  refine V_iload_n C0 dX8_part_1 1 rfl rfl ?_
  obtain ⟨r_2, hc_2, hf⟩ := bind_inv hf
  refine V_cVI (ws' := (W_M cI cJ cZ cO am mo.1 mo.2.1 mo.2.2.1 mo.2.2.2.1 mo.2.2.2.2.1 mo.2.2.2.2.2.1 mo.2.2.2.2.2.2.1 mo.2.2.2.2.2.2.2.1 mo.2.2.2.2.2.2.2.2.1 mo.2.2.2.2.2.2.2.2.2.1 mo.2.2.2.2.2.2.2.2.2.2.1 mo.2.2.2.2.2.2.2.2.2.2.2.1 mo.2.2.2.2.2.2.2.2.2.2.2.2.1 mo.2.2.2.2.2.2.2.2.2.2.2.2.2.1 mo.2.2.2.2.2.2.2.2.2.2.2.2.2.2.1 mo.2.2.2.2.2.2.2.2.2.2.2.2.2.2.2.1 mo.2.2.2.2.2.2.2.2.2.2.2.2.2.2.2.2.1 mo.2.2.2.2.2.2.2.2.2.2.2.2.2.2.2.2.2)) (As := [.int x1]) (b := am 0) (st := []) C0 (c_X8_isWord l dC dI cI cJ cZ cO am N mo x1 r_2 hc_2) rfl 1 gX8_part_X8_isWord (by decide +kernel) ⟨Nat.le_of_ble_eq_true rfl, Nat.le_of_ble_eq_true rfl⟩ rfl 0 8 rfl rfl  Cut.all rfl (Nat.le_of_ble_eq_true rfl) dX8_part_2 rfl ⟨Nat.zero_le _, Nat.zero_le _⟩ ?_
  refine V_if_ne (tgt := 10) C0 dX8_part_5 (by decide) rfl (fun c5 => ?_) (fun c5 => ?_)
  · have hf := ite_f c5 hf
    refine V_aload_n C0 dX8_part_10 0 rfl rfl ?_
    refine V_iload_n C0 dX8_part_11 1 rfl rfl ?_
    obtain ⟨r_12, hc_12, hf⟩ := bind_inv hf
    refine V_cVV (ws' := (W_M cI cJ cZ cO am r_12.1 r_12.2.1 r_12.2.2.1 r_12.2.2.2.1 r_12.2.2.2.2.1 r_12.2.2.2.2.2.1 r_12.2.2.2.2.2.2.1 r_12.2.2.2.2.2.2.2.1 r_12.2.2.2.2.2.2.2.2.1 r_12.2.2.2.2.2.2.2.2.2.1 r_12.2.2.2.2.2.2.2.2.2.2.1 r_12.2.2.2.2.2.2.2.2.2.2.2.1 r_12.2.2.2.2.2.2.2.2.2.2.2.2.1 r_12.2.2.2.2.2.2.2.2.2.2.2.2.2.1 r_12.2.2.2.2.2.2.2.2.2.2.2.2.2.2.1 r_12.2.2.2.2.2.2.2.2.2.2.2.2.2.2.2.1 r_12.2.2.2.2.2.2.2.2.2.2.2.2.2.2.2.2.1 r_12.2.2.2.2.2.2.2.2.2.2.2.2.2.2.2.2.2)) (As := [.int x1]) (b := am 0) (st := []) C0 (c_X8_findCut l dC dI cI cJ cZ cO am N mo x1 r_12 hc_12) rfl 1 gX8_part_X8_findCut (by decide +kernel) ⟨Nat.le_of_ble_eq_true rfl, Nat.le_of_ble_eq_true rfl⟩ rfl 0 8 rfl rfl  Cut.all rfl (Nat.le_of_ble_eq_true rfl) dX8_part_12 rfl ⟨Nat.zero_le _, Nat.zero_le _⟩ ?_
    refine V_iload_n C0 dX8_part_15 2 rfl rfl ?_
    refine V_iconst (v := 0) C0 dX8_part_16 (by decide) rfl ?_
    refine V_aload_n C0 dX8_part_17 0 rfl rfl ?_
    refine V_get C0 fl_X8_part_32 0 rfl rfl dX8_part_18 rfl ?_
    refine V_iconst (v := 0) C0 dX8_part_21 (by decide) rfl ?_
    obtain ⟨hi22, hf⟩ := ck_inv hf
    refine V_iald C0 8 0 rfl rfl hi22 dX8_part_22 rfl ?_
    refine V_iconst (v := 1) C0 dX8_part_23 (by decide) rfl ?_
    refine V_isub C0 dX8_part_24 rfl ?_
    obtain ⟨r_25, hc_25, hf⟩ := bind_inv hf
    refine V_cSI (ws' := (W_M cI cJ cZ cO am r_12.1 r_12.2.1 r_12.2.2.1 r_12.2.2.2.1 r_12.2.2.2.2.1 r_12.2.2.2.2.2.1 r_12.2.2.2.2.2.2.1 r_12.2.2.2.2.2.2.2.1 r_12.2.2.2.2.2.2.2.2.1 r_12.2.2.2.2.2.2.2.2.2.1 r_12.2.2.2.2.2.2.2.2.2.2.1 r_12.2.2.2.2.2.2.2.2.2.2.2.1 r_12.2.2.2.2.2.2.2.2.2.2.2.2.1 r_12.2.2.2.2.2.2.2.2.2.2.2.2.2.1 r_12.2.2.2.2.2.2.2.2.2.2.2.2.2.2.1 r_12.2.2.2.2.2.2.2.2.2.2.2.2.2.2.2.1 r_12.2.2.2.2.2.2.2.2.2.2.2.2.2.2.2.2.1 r_12.2.2.2.2.2.2.2.2.2.2.2.2.2.2.2.2.2)) (As := [.int x2, .int 0, .int ((r_12.2.2.2.2.2.2.2.2.2.1 ((0 : Int32).toNatClampNeg)) - 1)]) (st := []) C0 (c_X8_within l dC dI cI cJ cZ cO  N  x2 0 ((r_12.2.2.2.2.2.2.2.2.2.1 ((0 : Int32).toNatClampNeg)) - 1) r_25 hc_25) rfl 3 gX8_part_X8_within (by decide +kernel) ⟨Nat.le_of_ble_eq_true rfl, Nat.le_of_ble_eq_true rfl⟩ rfl  ⟨_, pr1, fun _ => pr1⟩ rfl (Nat.le_of_ble_eq_true rfl) dX8_part_25 rfl ⟨Nat.zero_le _, Nat.zero_le _⟩ ?_
    refine V_if_ne (tgt := 33) C0 dX8_part_28 (by decide) rfl (fun c28 => ?_) (fun c28 => ?_)
    · have hf := ite_f c28 hf
      refine V_iconst (v := 0) C0 dX8_part_33 (by decide) rfl ?_
      refine V_istore (lv' := [(4, .int 0), (0, .ref (am 0)), (1, .int x1), (2, .int x2), (3, .int x3)]) C0 dX8_part_34 (by decide) rfl rfl ?_
      refine V_iconst (v := 0) C0 dX8_part_36 (by decide) rfl ?_
      refine V_istore (lv' := [(5, .int 0), (4, .int 0), (0, .ref (am 0)), (1, .int x1), (2, .int x2), (3, .int x3)]) C0 dX8_part_37 (by decide) rfl rfl ?_
      have hL39 : ∀ (mo : MV) (K : Int32 → Option (Int32 × MV)), (∀ (x4 : Int32), K x4 = some o → V p l e RM_X8_part s m ([.ref (am 0), .int x1, .int x2, .int x3] : List Value).toArray below meth c 6 (dC, dI) A (MQ below (va_Qi (fun r (_ : Unit) => r = o.1) (PostW (dC, dI) (TY cI cJ cZ cO) A (fun _ => (W_M cI cJ cZ cO am o.2.1 o.2.2.1 o.2.2.2.1 o.2.2.2.2.1 o.2.2.2.2.2.1 o.2.2.2.2.2.2.1 o.2.2.2.2.2.2.2.1 o.2.2.2.2.2.2.2.2.1 o.2.2.2.2.2.2.2.2.2.1 o.2.2.2.2.2.2.2.2.2.2.1 o.2.2.2.2.2.2.2.2.2.2.2.1 o.2.2.2.2.2.2.2.2.2.2.2.2.1 o.2.2.2.2.2.2.2.2.2.2.2.2.2.1 o.2.2.2.2.2.2.2.2.2.2.2.2.2.2.1 o.2.2.2.2.2.2.2.2.2.2.2.2.2.2.2.1 o.2.2.2.2.2.2.2.2.2.2.2.2.2.2.2.2.1 o.2.2.2.2.2.2.2.2.2.2.2.2.2.2.2.2.2.1 o.2.2.2.2.2.2.2.2.2.2.2.2.2.2.2.2.2.2))) A) ([.ref (am 0), .int x1, .int x2, .int x3] : List Value).toArray s 0 0 A) 0 0 (W_M cI cJ cZ cO am mo.1 mo.2.1 mo.2.2.1 mo.2.2.2.1 mo.2.2.2.2.1 mo.2.2.2.2.2.1 mo.2.2.2.2.2.2.1 mo.2.2.2.2.2.2.2.1 mo.2.2.2.2.2.2.2.2.1 mo.2.2.2.2.2.2.2.2.2.1 mo.2.2.2.2.2.2.2.2.2.2.1 mo.2.2.2.2.2.2.2.2.2.2.2.1 mo.2.2.2.2.2.2.2.2.2.2.2.2.1 mo.2.2.2.2.2.2.2.2.2.2.2.2.2.1 mo.2.2.2.2.2.2.2.2.2.2.2.2.2.2.1 mo.2.2.2.2.2.2.2.2.2.2.2.2.2.2.2.1 mo.2.2.2.2.2.2.2.2.2.2.2.2.2.2.2.2.1 mo.2.2.2.2.2.2.2.2.2.2.2.2.2.2.2.2.2) 63 [(0, .ref (am 0)), (1, .int x1), (3, .int x3), (4, .int x4)] []) → ∀ (n : Nat) (x4 : Int32) (x5 : Int32), f_X8_part_L39 N x1 x2 x3 mo K n x4 x5 = some o → V p l e RM_X8_part s m ([.ref (am 0), .int x1, .int x2, .int x3] : List Value).toArray below meth c 6 (dC, dI) A (MQ below (va_Qi (fun r (_ : Unit) => r = o.1) (PostW (dC, dI) (TY cI cJ cZ cO) A (fun _ => (W_M cI cJ cZ cO am o.2.1 o.2.2.1 o.2.2.2.1 o.2.2.2.2.1 o.2.2.2.2.2.1 o.2.2.2.2.2.2.1 o.2.2.2.2.2.2.2.1 o.2.2.2.2.2.2.2.2.1 o.2.2.2.2.2.2.2.2.2.1 o.2.2.2.2.2.2.2.2.2.2.1 o.2.2.2.2.2.2.2.2.2.2.2.1 o.2.2.2.2.2.2.2.2.2.2.2.2.1 o.2.2.2.2.2.2.2.2.2.2.2.2.2.1 o.2.2.2.2.2.2.2.2.2.2.2.2.2.2.1 o.2.2.2.2.2.2.2.2.2.2.2.2.2.2.2.1 o.2.2.2.2.2.2.2.2.2.2.2.2.2.2.2.2.1 o.2.2.2.2.2.2.2.2.2.2.2.2.2.2.2.2.2.1 o.2.2.2.2.2.2.2.2.2.2.2.2.2.2.2.2.2.2))) A) ([.ref (am 0), .int x1, .int x2, .int x3] : List Value).toArray s 0 0 A) 0 0 (W_M cI cJ cZ cO am mo.1 mo.2.1 mo.2.2.1 mo.2.2.2.1 mo.2.2.2.2.1 mo.2.2.2.2.2.1 mo.2.2.2.2.2.2.1 mo.2.2.2.2.2.2.2.1 mo.2.2.2.2.2.2.2.2.1 mo.2.2.2.2.2.2.2.2.2.1 mo.2.2.2.2.2.2.2.2.2.2.1 mo.2.2.2.2.2.2.2.2.2.2.2.1 mo.2.2.2.2.2.2.2.2.2.2.2.2.1 mo.2.2.2.2.2.2.2.2.2.2.2.2.2.1 mo.2.2.2.2.2.2.2.2.2.2.2.2.2.2.1 mo.2.2.2.2.2.2.2.2.2.2.2.2.2.2.2.1 mo.2.2.2.2.2.2.2.2.2.2.2.2.2.2.2.2.1 mo.2.2.2.2.2.2.2.2.2.2.2.2.2.2.2.2.2) 39 [(0, .ref (am 0)), (1, .int x1), (2, .int x2), (3, .int x3), (4, .int x4), (5, .int x5)] [] := by
        intro mo K hK n
        induction n with
        | zero => intro x4 x5 hf; cases hf
        | succ n hREC =>
          intro x4 x5 hf
          rw [f_X8_part_L39] at hf
          refine V_iload C0 dX8_part_39 5 rfl rfl ?_
          refine V_iload_n C0 dX8_part_41 2 rfl rfl ?_
          refine V_icmp_ge (tgt := 63) C0 dX8_part_42 (by decide) rfl (fun c42 => ?_) (fun c42 => ?_)
          · have hf := ite_t c42 hf
            exact V.sub [0, 1, 3, 4] rfl (hK x4 hf)
          · have hf := ite_f c42 hf
            refine V_iload C0 dX8_part_45 4 rfl rfl ?_
            refine V_aload_n C0 dX8_part_47 0 rfl rfl ?_
            refine V_get C0 fl_X8_part_35 0 rfl rfl dX8_part_48 rfl ?_
            refine V_iload C0 dX8_part_51 4 rfl rfl ?_
            obtain ⟨hi53, hf⟩ := ck_inv hf
            refine V_iald C0 9 0 rfl rfl hi53 dX8_part_53 rfl ?_
            refine V_iadd C0 dX8_part_54 rfl ?_
            refine V_topi (fun x4_1 ex4_1 => ?_)
            have hf := bd_inv ex4_1 hf
            refine V_istore (lv' := [(4, .int x4_1), (0, .ref (am 0)), (1, .int x1), (2, .int x2), (3, .int x3), (5, .int x5)]) C0 dX8_part_55 (by decide) rfl rfl ?_
            refine V_iinc (k := 5) (v := x5 + 1) (lv' := [(5, .int (x5 + 1)), (4, .int x4_1), (0, .ref (am 0)), (1, .int x1), (2, .int x2), (3, .int x3)]) C0 dX8_part_57 rfl rfl (by decide) rfl rfl ?_
            refine V_goto (tgt := 39) C0 dX8_part_60 (by decide) ?_
            exact V.sub [2, 3, 4, 5, 1, 0] rfl (hREC x4_1 (x5 + 1) hf)
      refine V.sub [2, 3, 4, 5, 1, 0] rfl (hL39 r_12 _ ?_ N 0 0 hf)
      intro x4_39 hf
      refine V_iload_n C0 dX8_part_63 2 rfl rfl ?_
      refine V_if_ne (tgt := 88) C0 dX8_part_64 (by decide) rfl (fun c64 => ?_) (fun c64 => ?_)
      · have hf := ite_f c64 hf
        refine V_iload_n C0 dX8_part_88 2 rfl rfl ?_
        refine V_iconst (v := 1) C0 dX8_part_89 (by decide) rfl ?_
        refine V_icmp_ne (tgt := 98) C0 dX8_part_90 (by decide) rfl (fun c90 => ?_) (fun c90 => ?_)
        · have hf := ite_f c90 hf
          refine V_iload_n C0 dX8_part_98 2 rfl rfl ?_
          refine V_iconst (v := 2) C0 dX8_part_99 (by decide) rfl ?_
          refine V_icmp_ne (tgt := 113) C0 dX8_part_100 (by decide) rfl (fun c100 => ?_) (fun c100 => ?_)
          · have hf := ite_f c100 hf
            refine V_bipush (v := (-2)) C0 dX8_part_113 (by decide) rfl ?_
            obtain rfl := some_inv hf
            exact V_iret C0 () rfl rfl dX8_part_115
          · have hf := ite_t c100 hf
            refine V_aload_n C0 dX8_part_103 0 rfl rfl ?_
            refine V_get C0 fl_X8_part_35 0 rfl rfl dX8_part_104 rfl ?_
            refine V_iload C0 dX8_part_107 3 rfl rfl ?_
            obtain ⟨hi109, hf⟩ := ck_inv hf
            refine V_iald C0 9 0 rfl rfl hi109 dX8_part_109 rfl ?_
            refine V_goto (tgt := 115) C0 dX8_part_110 (by decide) ?_
            obtain rfl := some_inv hf
            exact V_iret C0 () rfl rfl dX8_part_115
        · have hf := ite_t c90 hf
          refine V_iload C0 dX8_part_93 3 rfl rfl ?_
          refine V_goto (tgt := 115) C0 dX8_part_95 (by decide) ?_
          obtain rfl := some_inv hf
          exact V_iret C0 () rfl rfl dX8_part_115
      · have hf := ite_t c64 hf
        refine V_aload_n C0 dX8_part_67 0 rfl rfl ?_
        refine V_aload_n C0 dX8_part_68 0 rfl rfl ?_
        refine V_iload_n C0 dX8_part_69 1 rfl rfl ?_
        refine V_iload C0 dX8_part_70 3 rfl rfl ?_
        refine V_aload_n C0 dX8_part_72 0 rfl rfl ?_
        refine V_get C0 fl_X8_part_35 0 rfl rfl dX8_part_73 rfl ?_
        refine V_iload C0 dX8_part_76 3 rfl rfl ?_
        obtain ⟨hi78, hf⟩ := ck_inv hf
        refine V_iald C0 9 0 rfl rfl hi78 dX8_part_78 rfl ?_
        obtain ⟨r_79, hc_79, hf⟩ := bind_inv hf
        refine V_cVI (ws' := (W_M cI cJ cZ cO am r_12.1 r_12.2.1 r_12.2.2.1 r_12.2.2.2.1 r_12.2.2.2.2.1 r_12.2.2.2.2.2.1 r_12.2.2.2.2.2.2.1 r_12.2.2.2.2.2.2.2.1 r_12.2.2.2.2.2.2.2.2.1 r_12.2.2.2.2.2.2.2.2.2.1 r_12.2.2.2.2.2.2.2.2.2.2.1 r_12.2.2.2.2.2.2.2.2.2.2.2.1 r_12.2.2.2.2.2.2.2.2.2.2.2.2.1 r_12.2.2.2.2.2.2.2.2.2.2.2.2.2.1 r_12.2.2.2.2.2.2.2.2.2.2.2.2.2.2.1 r_12.2.2.2.2.2.2.2.2.2.2.2.2.2.2.2.1 r_12.2.2.2.2.2.2.2.2.2.2.2.2.2.2.2.2.1 r_12.2.2.2.2.2.2.2.2.2.2.2.2.2.2.2.2.2)) (As := [.int x1, .int x4_39, .int (r_12.2.2.2.2.2.2.2.2.2.2.1 (x4_39.toNatClampNeg))]) (b := am 0) (st := [.ref (am 0)]) C0 (c_X8_textIn l dC dI cI cJ cZ cO am N r_12 x1 x4_39 (r_12.2.2.2.2.2.2.2.2.2.2.1 (x4_39.toNatClampNeg)) r_79 hc_79) rfl 3 gX8_part_X8_textIn (by decide +kernel) ⟨Nat.le_of_ble_eq_true rfl, Nat.le_of_ble_eq_true rfl⟩ rfl 0 8 rfl rfl  Cut.all rfl (Nat.le_of_ble_eq_true rfl) dX8_part_79 rfl ⟨Nat.zero_le _, Nat.zero_le _⟩ ?_
        obtain ⟨r_82, hc_82, hf⟩ := bind_inv hf
        refine V_cVI (ws' := (W_M cI cJ cZ cO am r_12.1 r_12.2.1 r_12.2.2.1 r_12.2.2.2.1 r_12.2.2.2.2.1 r_12.2.2.2.2.2.1 r_12.2.2.2.2.2.2.1 r_12.2.2.2.2.2.2.2.1 r_12.2.2.2.2.2.2.2.2.1 r_12.2.2.2.2.2.2.2.2.2.1 r_12.2.2.2.2.2.2.2.2.2.2.1 r_12.2.2.2.2.2.2.2.2.2.2.2.1 r_12.2.2.2.2.2.2.2.2.2.2.2.2.1 r_12.2.2.2.2.2.2.2.2.2.2.2.2.2.1 r_12.2.2.2.2.2.2.2.2.2.2.2.2.2.2.1 r_12.2.2.2.2.2.2.2.2.2.2.2.2.2.2.2.1 r_12.2.2.2.2.2.2.2.2.2.2.2.2.2.2.2.2.1 r_12.2.2.2.2.2.2.2.2.2.2.2.2.2.2.2.2.2)) (As := [.int r_79]) (b := am 0) (st := []) C0 (c_X8_pieceOf l dC dI cI cJ cZ cO am N r_12 r_79 r_82 hc_82) rfl 1 gX8_part_X8_pieceOf (by decide +kernel) ⟨Nat.le_of_ble_eq_true rfl, Nat.le_of_ble_eq_true rfl⟩ rfl 0 8 rfl rfl  Cut.all rfl (Nat.le_of_ble_eq_true rfl) dX8_part_82 rfl ⟨Nat.zero_le _, Nat.zero_le _⟩ ?_
        refine V_goto (tgt := 115) C0 dX8_part_85 (by decide) ?_
        obtain rfl := some_inv hf
        exact V_iret C0 () rfl rfl dX8_part_115
    · have hf := ite_t c28 hf
      refine V_iconst (v := (-1)) C0 dX8_part_31 (by decide) rfl ?_
      obtain rfl := some_inv hf
      exact V_iret C0 () rfl rfl dX8_part_32
  · have hf := ite_t c5 hf
    refine V_iconst (v := (-1)) C0 dX8_part_8 (by decide) rfl ?_
    obtain rfl := some_inv hf
    exact V_iret C0 () rfl rfl dX8_part_9
abbrev RM_X8_share : Room := { frames := 5, cells := 0, slots := 0, locals := 116 }
set_option maxRecDepth 100000 in
set_option maxHeartbeats 4000000 in
theorem c_X8_share (l : Launch) (dC : Nat → ClassId) (dI : Nat → Nat → Nat) (cI cJ cZ cO : ClassId) (am : Nat → Nat) (N : Nat) (mo : MV) (x1 : Int32) (x2 : Int32) (o : Int32 × MV) (hf : f_X8_share N mo x1 x2 = some o) : MetI l yX8_share wsX8_share RM_X8_share (dC, dI) (TY cI cJ cZ cO) [.ref (am 0), .int x1, .int x2] (W_M cI cJ cZ cO am mo.1 mo.2.1 mo.2.2.1 mo.2.2.2.1 mo.2.2.2.2.1 mo.2.2.2.2.2.1 mo.2.2.2.2.2.2.1 mo.2.2.2.2.2.2.2.1 mo.2.2.2.2.2.2.2.2.1 mo.2.2.2.2.2.2.2.2.2.1 mo.2.2.2.2.2.2.2.2.2.2.1 mo.2.2.2.2.2.2.2.2.2.2.2.1 mo.2.2.2.2.2.2.2.2.2.2.2.2.1 mo.2.2.2.2.2.2.2.2.2.2.2.2.2.1 mo.2.2.2.2.2.2.2.2.2.2.2.2.2.2.1 mo.2.2.2.2.2.2.2.2.2.2.2.2.2.2.2.1 mo.2.2.2.2.2.2.2.2.2.2.2.2.2.2.2.2.1 mo.2.2.2.2.2.2.2.2.2.2.2.2.2.2.2.2.2) (fun r (_ : Unit) => r = o.1) (fun _ => (W_M cI cJ cZ cO am o.2.1 o.2.2.1 o.2.2.2.1 o.2.2.2.2.1 o.2.2.2.2.2.1 o.2.2.2.2.2.2.1 o.2.2.2.2.2.2.2.1 o.2.2.2.2.2.2.2.2.1 o.2.2.2.2.2.2.2.2.2.1 o.2.2.2.2.2.2.2.2.2.2.1 o.2.2.2.2.2.2.2.2.2.2.2.1 o.2.2.2.2.2.2.2.2.2.2.2.2.1 o.2.2.2.2.2.2.2.2.2.2.2.2.2.1 o.2.2.2.2.2.2.2.2.2.2.2.2.2.2.1 o.2.2.2.2.2.2.2.2.2.2.2.2.2.2.2.1 o.2.2.2.2.2.2.2.2.2.2.2.2.2.2.2.2.1 o.2.2.2.2.2.2.2.2.2.2.2.2.2.2.2.2.2.1 o.2.2.2.2.2.2.2.2.2.2.2.2.2.2.2.2.2.2)) := by
  refine MetI.ofV (cc := cX8_share) (maxL := 3) (ret := (some .int)) (own := RX8) (lv0 := [(0, .ref (am 0)), (1, .int x1), (2, .int x2)]) (by decide) rfl rfl (Nat.le_of_ble_eq_true rfl) rfl ?_
  intro p e s m below meth c A C0 _
  unfold f_X8_share at hf
  refine V_aload_n C0 dX8_share_0 0 rfl rfl ?_
  refine V_iload_n C0 dX8_share_1 1 rfl rfl ?_
  obtain ⟨r_2, hc_2, hf⟩ := bind_inv hf
  refine V_cVI (ws' := (W_M cI cJ cZ cO am mo.1 mo.2.1 mo.2.2.1 mo.2.2.2.1 mo.2.2.2.2.1 mo.2.2.2.2.2.1 mo.2.2.2.2.2.2.1 mo.2.2.2.2.2.2.2.1 mo.2.2.2.2.2.2.2.2.1 mo.2.2.2.2.2.2.2.2.2.1 mo.2.2.2.2.2.2.2.2.2.2.1 mo.2.2.2.2.2.2.2.2.2.2.2.1 mo.2.2.2.2.2.2.2.2.2.2.2.2.1 mo.2.2.2.2.2.2.2.2.2.2.2.2.2.1 mo.2.2.2.2.2.2.2.2.2.2.2.2.2.2.1 mo.2.2.2.2.2.2.2.2.2.2.2.2.2.2.2.1 mo.2.2.2.2.2.2.2.2.2.2.2.2.2.2.2.2.1 mo.2.2.2.2.2.2.2.2.2.2.2.2.2.2.2.2.2)) (As := [.int x1]) (b := am 0) (st := []) C0 (c_X8_isWord l dC dI cI cJ cZ cO am N mo x1 r_2 hc_2) rfl 1 gX8_share_X8_isWord (by decide +kernel) ⟨Nat.le_of_ble_eq_true rfl, Nat.le_of_ble_eq_true rfl⟩ rfl 0 8 rfl rfl  Cut.all rfl (Nat.le_of_ble_eq_true rfl) dX8_share_2 rfl ⟨Nat.zero_le _, Nat.zero_le _⟩ ?_
  refine V_if_eq (tgt := 16) C0 dX8_share_5 (by decide) rfl (fun c5 => ?_) (fun c5 => ?_)
  · have hf := ite_t c5 hf
    refine V_iconst (v := (-1)) C0 dX8_share_16 (by decide) rfl ?_
    obtain rfl := some_inv hf
    exact V_iret C0 () rfl rfl dX8_share_17
  · have hf := ite_f c5 hf
    refine V_aload_n C0 dX8_share_8 0 rfl rfl ?_
    refine V_iload_n C0 dX8_share_9 2 rfl rfl ?_
    obtain ⟨r_10, hc_10, hf⟩ := bind_inv hf
    refine V_cVI (ws' := (W_M cI cJ cZ cO am mo.1 mo.2.1 mo.2.2.1 mo.2.2.2.1 mo.2.2.2.2.1 mo.2.2.2.2.2.1 mo.2.2.2.2.2.2.1 mo.2.2.2.2.2.2.2.1 mo.2.2.2.2.2.2.2.2.1 mo.2.2.2.2.2.2.2.2.2.1 mo.2.2.2.2.2.2.2.2.2.2.1 mo.2.2.2.2.2.2.2.2.2.2.2.1 mo.2.2.2.2.2.2.2.2.2.2.2.2.1 mo.2.2.2.2.2.2.2.2.2.2.2.2.2.1 mo.2.2.2.2.2.2.2.2.2.2.2.2.2.2.1 mo.2.2.2.2.2.2.2.2.2.2.2.2.2.2.2.1 mo.2.2.2.2.2.2.2.2.2.2.2.2.2.2.2.2.1 mo.2.2.2.2.2.2.2.2.2.2.2.2.2.2.2.2.2)) (As := [.int x2]) (b := am 0) (st := []) C0 (c_X8_isPiece l dC dI cI cJ cZ cO am N mo x2 r_10 hc_10) rfl 1 gX8_share_X8_isPiece (by decide +kernel) ⟨Nat.le_of_ble_eq_true rfl, Nat.le_of_ble_eq_true rfl⟩ rfl 0 8 rfl rfl  Cut.all rfl (Nat.le_of_ble_eq_true rfl) dX8_share_10 rfl ⟨Nat.zero_le _, Nat.zero_le _⟩ ?_
    refine V_if_ne (tgt := 18) C0 dX8_share_13 (by decide) rfl (fun c13 => ?_) (fun c13 => ?_)
    · have hf := ite_f c13 hf
      refine V_aload_n C0 dX8_share_18 0 rfl rfl ?_
      refine V_iload_n C0 dX8_share_19 1 rfl rfl ?_
      obtain ⟨r_20, hc_20, hf⟩ := bind_inv hf
      refine V_cVV (ws' := (W_M cI cJ cZ cO am r_20.1 r_20.2.1 r_20.2.2.1 r_20.2.2.2.1 r_20.2.2.2.2.1 r_20.2.2.2.2.2.1 r_20.2.2.2.2.2.2.1 r_20.2.2.2.2.2.2.2.1 r_20.2.2.2.2.2.2.2.2.1 r_20.2.2.2.2.2.2.2.2.2.1 r_20.2.2.2.2.2.2.2.2.2.2.1 r_20.2.2.2.2.2.2.2.2.2.2.2.1 r_20.2.2.2.2.2.2.2.2.2.2.2.2.1 r_20.2.2.2.2.2.2.2.2.2.2.2.2.2.1 r_20.2.2.2.2.2.2.2.2.2.2.2.2.2.2.1 r_20.2.2.2.2.2.2.2.2.2.2.2.2.2.2.2.1 r_20.2.2.2.2.2.2.2.2.2.2.2.2.2.2.2.2.1 r_20.2.2.2.2.2.2.2.2.2.2.2.2.2.2.2.2.2)) (As := [.int x1]) (b := am 0) (st := []) C0 (c_X8_findTotals l dC dI cI cJ cZ cO am N mo x1 r_20 hc_20) rfl 1 gX8_share_X8_findTotals (by decide +kernel) ⟨Nat.le_of_ble_eq_true rfl, Nat.le_of_ble_eq_true rfl⟩ rfl 0 8 rfl rfl  Cut.all rfl (Nat.le_of_ble_eq_true rfl) dX8_share_20 rfl ⟨Nat.zero_le _, Nat.zero_le _⟩ ?_
      refine V_aload_n C0 dX8_share_23 0 rfl rfl ?_
      refine V_iload_n C0 dX8_share_24 1 rfl rfl ?_
      refine V_iload_n C0 dX8_share_25 2 rfl rfl ?_
      obtain ⟨r_26, hc_26, hf⟩ := bind_inv hf
      refine V_cVI (ws' := (W_M cI cJ cZ cO am r_20.1 r_20.2.1 r_20.2.2.1 r_20.2.2.2.1 r_20.2.2.2.2.1 r_20.2.2.2.2.2.1 r_20.2.2.2.2.2.2.1 r_20.2.2.2.2.2.2.2.1 r_20.2.2.2.2.2.2.2.2.1 r_20.2.2.2.2.2.2.2.2.2.1 r_20.2.2.2.2.2.2.2.2.2.2.1 r_20.2.2.2.2.2.2.2.2.2.2.2.1 r_20.2.2.2.2.2.2.2.2.2.2.2.2.1 r_20.2.2.2.2.2.2.2.2.2.2.2.2.2.1 r_20.2.2.2.2.2.2.2.2.2.2.2.2.2.2.1 r_20.2.2.2.2.2.2.2.2.2.2.2.2.2.2.2.1 r_20.2.2.2.2.2.2.2.2.2.2.2.2.2.2.2.2.1 r_20.2.2.2.2.2.2.2.2.2.2.2.2.2.2.2.2.2)) (As := [.int x1, .int x2]) (b := am 0) (st := []) C0 (c_X8_shareIn l dC dI cI cJ cZ cO am N r_20 x1 x2 r_26 hc_26) rfl 2 gX8_share_X8_shareIn (by decide +kernel) ⟨Nat.le_of_ble_eq_true rfl, Nat.le_of_ble_eq_true rfl⟩ rfl 0 8 rfl rfl  Cut.all rfl (Nat.le_of_ble_eq_true rfl) dX8_share_26 rfl ⟨Nat.zero_le _, Nat.zero_le _⟩ ?_
      obtain rfl := some_inv hf
      exact V_iret C0 () rfl rfl dX8_share_29
    · have hf := ite_t c13 hf
      refine V_iconst (v := (-1)) C0 dX8_share_16 (by decide) rfl ?_
      obtain rfl := some_inv hf
      exact V_iret C0 () rfl rfl dX8_share_17
