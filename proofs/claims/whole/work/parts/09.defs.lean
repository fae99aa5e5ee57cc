/-! the state of each object of the classes, as a value; its cells -/
abbrev CV : Type := Int32 × (Nat → Int32) × (Nat → Int32) × (Nat → Int32) × Int32 × (Nat → Int32) × (Nat → Int32) × (Nat → Int32)
-- pieces, pieceText, pieceLetters, pieceWeight, words, wordLetters, wordCount, letters
abbrev W_C (cI cJ cZ cO : ClassId) (a : Nat → Nat) (v : CV) : va_W := [(a 0, .inr (2, [.int v.1, .ref (a 1), .ref (a 2), .ref (a 3), .int v.2.2.2.2.1, .ref (a 4), .ref (a 5), .ref (a 6)])), (a 1, .inl (cI, 16, .inl v.2.1)), (a 2, .inl (cI, 16, .inl v.2.2.1)), (a 3, .inl (cI, 16, .inl v.2.2.2.1)), (a 4, .inl (cI, 8, .inl v.2.2.2.2.2.1)), (a 5, .inl (cI, 8, .inl v.2.2.2.2.2.2.1)), (a 6, .inl (cI, 96, .inl v.2.2.2.2.2.2.2))]
abbrev PV : Type := Int32 × (Nat → Int32)
-- length, codes
abbrev W_P (cI cJ cZ cO : ClassId) (a : Nat → Nat) (v : PV) : va_W := [(a 0, .inr (6, [.int v.1, .ref (a 1)])), (a 1, .inl (cI, 16, .inl v.2))]
abbrev LV : Type := Int32 × (Nat → Int32) × (Nat → Int32) × (Nat → Int32)
-- length, text, piece, weightOf
abbrev W_L (cI cJ cZ cO : ClassId) (a : Nat → Nat) (v : LV) : va_W := [(a 0, .inr (4, [.int v.1, .ref (a 1), .ref (a 2), .ref (a 3)])), (a 1, .inl (cI, 48, .inl v.2.1)), (a 2, .inl (cI, 48, .inl v.2.2.1)), (a 3, .inl (cI, 16, .inl v.2.2.2))]
abbrev BV : Type := (Nat → Int64) × (Nat → Int32) × (Nat → Int32) × Int32 × Int32 × (Nat → Int32) × (Nat → Int32) × (Nat → Int32)
-- restProduct, restParts, restFirst, parts, unseen, partPiece, partPlace, partLetters
abbrev W_B (cI cJ cZ cO : ClassId) (a : Nat → Nat) (v : BV) : va_W := [(a 0, .inr (1, [.ref (a 1), .ref (a 2), .ref (a 3), .int v.2.2.2.1, .int v.2.2.2.2.1, .ref (a 4), .ref (a 5), .ref (a 6)])), (a 1, .inl (cJ, 13, .inr (.inl v.1))), (a 2, .inl (cI, 13, .inl v.2.1)), (a 3, .inl (cI, 13, .inl v.2.2.1)), (a 4, .inl (cI, 12, .inl v.2.2.2.2.2.1)), (a 5, .inl (cI, 12, .inl v.2.2.2.2.2.2.1)), (a 6, .inl (cI, 12, .inl v.2.2.2.2.2.2.2))]
abbrev AV : Type := (Nat → Int64) × (Nat → Int64) × (Nat → Int32)
-- before, behind, cutsBehind
abbrev W_A (cI cJ cZ cO : ClassId) (a : Nat → Nat) (v : AV) : va_W := [(a 0, .inr (0, [.ref (a 1), .ref (a 2), .ref (a 3)])), (a 1, .inl (cJ, 13, .inr (.inl v.1))), (a 2, .inl (cJ, 13, .inr (.inl v.2.1))), (a 3, .inl (cI, 13, .inl v.2.2))]
abbrev NV : Type := Int32 × (Nat → Int32) × (Nat → Int32) × (Nat → Int32) × (Nat → Int32)
-- size, text, letters, weight, times
abbrev W_N (cI cJ cZ cO : ClassId) (a : Nat → Nat) (v : NV) : va_W := [(a 0, .inr (5, [.int v.1, .ref (a 1), .ref (a 2), .ref (a 3), .ref (a 4)])), (a 1, .inl (cI, 88, .inl v.2.1)), (a 2, .inl (cI, 88, .inl v.2.2.1)), (a 3, .inl (cI, 88, .inl v.2.2.2.1)), (a 4, .inl (cI, 88, .inl v.2.2.2.2))]
abbrev MV : Type := (Nat → Int32) × (Nat → Int32) × (Nat → Int32) × Int32 × (Nat → Int32) × (Nat → Int32) × (Nat → Int32) × Int32 × (Nat → Int64) × (Nat → Int32) × (Nat → Int32) × (Nat → Int64) × (Nat → Int64) × (Nat → Int32) × (Nat → Int32) × (Nat → Int32) × Int32 × (Nat → Int32)
-- state, kept, history, recorded, slots, isSaved, pad, padLength, products, parts, lengths, ahead, behind, texts, counts, weights, neighbours, bears
abbrev W_M (cI cJ cZ cO : ClassId) (a : Nat → Nat) (v : MV) : va_W := [(a 0, .inr (8, [.ref (a 1), .ref (a 2), .ref (a 3), .int v.2.2.2.1, .ref (a 4), .ref (a 5), .ref (a 6), .int v.2.2.2.2.2.2.2.1, .ref (a 7), .ref (a 8), .ref (a 9), .ref (a 10), .ref (a 11), .ref (a 12), .ref (a 13), .ref (a 14), .int v.2.2.2.2.2.2.2.2.2.2.2.2.2.2.2.2.1, .ref (a 15)])), (a 1, .inl (cI, 210, .inl v.1)), (a 2, .inl (cI, 210, .inl v.2.1)), (a 3, .inl (cI, 1260, .inl v.2.2.1)), (a 4, .inl (cI, 420, .inl v.2.2.2.2.1)), (a 5, .inl (cI, 2, .inl v.2.2.2.2.2.1)), (a 6, .inl (cI, 16, .inl v.2.2.2.2.2.2.1)), (a 7, .inl (cJ, 13, .inr (.inl v.2.2.2.2.2.2.2.2.1))), (a 8, .inl (cI, 13, .inl v.2.2.2.2.2.2.2.2.2.1)), (a 9, .inl (cI, 13, .inl v.2.2.2.2.2.2.2.2.2.2.1)), (a 10, .inl (cJ, 13, .inr (.inl v.2.2.2.2.2.2.2.2.2.2.2.1))), (a 11, .inl (cJ, 13, .inr (.inl v.2.2.2.2.2.2.2.2.2.2.2.2.1))), (a 12, .inl (cI, 88, .inl v.2.2.2.2.2.2.2.2.2.2.2.2.2.1)), (a 13, .inl (cI, 88, .inl v.2.2.2.2.2.2.2.2.2.2.2.2.2.2.1)), (a 14, .inl (cI, 88, .inl v.2.2.2.2.2.2.2.2.2.2.2.2.2.2.2.1)), (a 15, .inl (cI, 16, .inl v.2.2.2.2.2.2.2.2.2.2.2.2.2.2.2.2.2))]
abbrev W_RI (cI cJ cZ cO : ClassId) (a : Nat → Nat) (n : Nat) (v : Nat → Int32) : va_W := [(a 0, .inl (cI, n, .inl v))]
abbrev W_RJ (cI cJ cZ cO : ClassId) (a : Nat → Nat) (n : Nat) (v : Nat → Int64) : va_W := [(a 0, .inl (cJ, n, .inr (.inl v)))]
abbrev W_BN (cI cJ cZ cO : ClassId) (ab : Nat → Nat) (v : Nat → Int32) : va_W := [(ab 3, .inl (cI, 16, .inl v))]
abbrev W_CW (cI cJ cZ cO : ClassId) (ab : Nat → Nat) (v : Nat → Int32) : va_W := [(ab 4, .inl (cI, 16, .inl v))]
abbrev SV : Type := CV × CV × (Nat → Int32)
abbrev HV : Type := Int32 × CV × CV × CV × CV × CV × CV
abbrev W_BO (cI cJ cZ cO : ClassId) (ab ac_ atr ah ap al abc aac anb : Nat → Nat) : va_W := [(ab 0, .inr (7, [.ref (ac_ 0), .ref (atr 0), .ref (ab 1), .ref (ab 2), .ref (ah 0), .ref (ap 0), .ref (al 0), .ref (abc 0), .ref (aac 0), .ref (anb 0), .ref (ab 3), .ref (ab 4)]))]
abbrev rfs (as : Nat → Nat → Nat) : Nat → Option Nat := fun k => some (as k 0)
abbrev W_S (cI cJ cZ cO : ClassId) (ab : Nat → Nat) (as : Nat → Nat → Nat) (v : SV) : va_W := [(ab 1, .inl (cO, 2, .inr (.inr (.inr (.inr (rfs as)))))), (ab 2, .inl (cZ, 2, .inl v.2.2))] ++ (W_C cI cJ cZ cO (as 0) v.1 ++ W_C cI cJ cZ cO (as 1) v.2.1)
abbrev W_H (cI cJ cZ cO : ClassId) (ah : Nat → Nat) (as : Nat → Nat → Nat) (v : HV) : va_W := [(ah 0, .inr (3, [.int v.1, .ref (ah 1)])), (ah 1, .inl (cO, 6, .inr (.inr (.inr (.inr (rfs as))))))] ++ (W_C cI cJ cZ cO (as 0) v.2.1 ++ (W_C cI cJ cZ cO (as 1) v.2.2.1 ++ (W_C cI cJ cZ cO (as 2) v.2.2.2.1 ++ (W_C cI cJ cZ cO (as 3) v.2.2.2.2.1 ++ (W_C cI cJ cZ cO (as 4) v.2.2.2.2.2.1 ++ W_C cI cJ cZ cO (as 5) v.2.2.2.2.2.2)))))
abbrev TY (cI cJ cZ cO : ClassId) : List (ClassId × FieldType) := [(cI, .int), (cJ, .long), (cZ, .boolean), (cO, .object "SyllableBook$Contents")]
def ushr (x : Int64) (y : Int32) : Int64 := (x.toUInt64 >>> (y.toInt64.toUInt64 &&& Int64.toUInt64 63)).toInt64
