/-! the state of each object of the classes, as a value; its cells -/
abbrev CV : Type := Int32 × (Nat → Int32) × (Nat → Int32) × (Nat → Int32) × Int32 × (Nat → Int32) × (Nat → Int32) × (Nat → Int32)
-- pieces, pieceText, pieceLetters, pieceWeight, words, wordLetters, wordCount, letters
abbrev W_C (cI cJ cZ cO : ClassId) (a : Nat → Nat) (v0 : Int32) (v1 : (Nat → Int32)) (v2 : (Nat → Int32)) (v3 : (Nat → Int32)) (v4 : Int32) (v5 : (Nat → Int32)) (v6 : (Nat → Int32)) (v7 : (Nat → Int32)) : va_W := [(a 0, .inr (2, [.int v0, .ref (a 1), .ref (a 2), .ref (a 3), .int v4, .ref (a 4), .ref (a 5), .ref (a 6)])), (a 1, .inl (cI, 16, .inl v1)), (a 2, .inl (cI, 16, .inl v2)), (a 3, .inl (cI, 16, .inl v3)), (a 4, .inl (cI, 8, .inl v5)), (a 5, .inl (cI, 8, .inl v6)), (a 6, .inl (cI, 96, .inl v7))]
abbrev W_Cv (cI cJ cZ cO : ClassId) (a : Nat → Nat) (v : CV) : va_W := W_C cI cJ cZ cO a v.1 v.2.1 v.2.2.1 v.2.2.2.1 v.2.2.2.2.1 v.2.2.2.2.2.1 v.2.2.2.2.2.2.1 v.2.2.2.2.2.2.2
abbrev PV : Type := Int32 × (Nat → Int32)
-- length, codes
abbrev W_P (cI cJ cZ cO : ClassId) (a : Nat → Nat) (v0 : Int32) (v1 : (Nat → Int32)) : va_W := [(a 0, .inr (6, [.int v0, .ref (a 1)])), (a 1, .inl (cI, 16, .inl v1))]
abbrev LV : Type := Int32 × (Nat → Int32) × (Nat → Int32) × (Nat → Int32)
-- length, text, piece, weightOf
abbrev W_L (cI cJ cZ cO : ClassId) (a : Nat → Nat) (v0 : Int32) (v1 : (Nat → Int32)) (v2 : (Nat → Int32)) (v3 : (Nat → Int32)) : va_W := [(a 0, .inr (4, [.int v0, .ref (a 1), .ref (a 2), .ref (a 3)])), (a 1, .inl (cI, 48, .inl v1)), (a 2, .inl (cI, 48, .inl v2)), (a 3, .inl (cI, 16, .inl v3))]
abbrev BV : Type := (Nat → Int64) × (Nat → Int32) × (Nat → Int32) × Int32 × Int32 × (Nat → Int32) × (Nat → Int32) × (Nat → Int32)
-- restProduct, restParts, restFirst, parts, unseen, partPiece, partPlace, partLetters
abbrev W_B (cI cJ cZ cO : ClassId) (a : Nat → Nat) (v0 : (Nat → Int64)) (v1 : (Nat → Int32)) (v2 : (Nat → Int32)) (v3 : Int32) (v4 : Int32) (v5 : (Nat → Int32)) (v6 : (Nat → Int32)) (v7 : (Nat → Int32)) : va_W := [(a 0, .inr (1, [.ref (a 1), .ref (a 2), .ref (a 3), .int v3, .int v4, .ref (a 4), .ref (a 5), .ref (a 6)])), (a 1, .inl (cJ, 13, .inr (.inl v0))), (a 2, .inl (cI, 13, .inl v1)), (a 3, .inl (cI, 13, .inl v2)), (a 4, .inl (cI, 12, .inl v5)), (a 5, .inl (cI, 12, .inl v6)), (a 6, .inl (cI, 12, .inl v7))]
abbrev AV : Type := (Nat → Int64) × (Nat → Int64) × (Nat → Int32)
-- before, behind, cutsBehind
abbrev W_A (cI cJ cZ cO : ClassId) (a : Nat → Nat) (v0 : (Nat → Int64)) (v1 : (Nat → Int64)) (v2 : (Nat → Int32)) : va_W := [(a 0, .inr (0, [.ref (a 1), .ref (a 2), .ref (a 3)])), (a 1, .inl (cJ, 13, .inr (.inl v0))), (a 2, .inl (cJ, 13, .inr (.inl v1))), (a 3, .inl (cI, 13, .inl v2))]
abbrev NV : Type := Int32 × (Nat → Int32) × (Nat → Int32) × (Nat → Int32) × (Nat → Int32)
-- size, text, letters, weight, times
abbrev W_N (cI cJ cZ cO : ClassId) (a : Nat → Nat) (v0 : Int32) (v1 : (Nat → Int32)) (v2 : (Nat → Int32)) (v3 : (Nat → Int32)) (v4 : (Nat → Int32)) : va_W := [(a 0, .inr (5, [.int v0, .ref (a 1), .ref (a 2), .ref (a 3), .ref (a 4)])), (a 1, .inl (cI, 88, .inl v1)), (a 2, .inl (cI, 88, .inl v2)), (a 3, .inl (cI, 88, .inl v3)), (a 4, .inl (cI, 88, .inl v4))]
abbrev W_RI (cI cJ cZ cO : ClassId) (a : Nat → Nat) (n : Nat) (v : Nat → Int32) : va_W := [(a 0, .inl (cI, n, .inl v))]
abbrev W_RJ (cI cJ cZ cO : ClassId) (a : Nat → Nat) (n : Nat) (v : Nat → Int64) : va_W := [(a 0, .inl (cJ, n, .inr (.inl v)))]
abbrev W_BN (cI cJ cZ cO : ClassId) (ab : Nat → Nat) (v : Nat → Int32) : va_W := [(ab 3, .inl (cI, 16, .inl v))]
abbrev W_CW (cI cJ cZ cO : ClassId) (ab : Nat → Nat) (v : Nat → Int32) : va_W := [(ab 4, .inl (cI, 16, .inl v))]
abbrev SV : Type := CV × CV × (Nat → Int32)
abbrev HV : Type := Int32 × CV × CV × CV × CV × CV × CV
abbrev W_BO (cI cJ cZ cO : ClassId) (ab ac_ atr ah ap al abc aac anb : Nat → Nat) : va_W := [(ab 0, .inr (7, [.ref (ac_ 0), .ref (atr 0), .ref (ab 1), .ref (ab 2), .ref (ah 0), .ref (ap 0), .ref (al 0), .ref (abc 0), .ref (aac 0), .ref (anb 0), .ref (ab 3), .ref (ab 4)]))]
abbrev rfs (as : Nat → Nat → Nat) : Nat → Option Nat := fun k => some (as k 0)
abbrev W_S (cI cJ cZ cO : ClassId) (ab : Nat → Nat) (as : Nat → Nat → Nat) (s0 s1 : CV) (sv : Nat → Int32) : va_W := [(ab 1, .inl (cO, 2, .inr (.inr (.inr (.inr (rfs as)))))), (ab 2, .inl (cZ, 2, .inl sv))] ++ (W_Cv cI cJ cZ cO (as 0) s0 ++ W_Cv cI cJ cZ cO (as 1) s1)
abbrev W_H (cI cJ cZ cO : ClassId) (ah : Nat → Nat) (as : Nat → Nat → Nat) (z : Int32) (h0 h1 h2 h3 h4 h5 : CV) : va_W := [(ah 0, .inr (3, [.int z, .ref (ah 1)])), (ah 1, .inl (cO, 6, .inr (.inr (.inr (.inr (rfs as))))))] ++ (W_Cv cI cJ cZ cO (as 0) h0 ++ (W_Cv cI cJ cZ cO (as 1) h1 ++ (W_Cv cI cJ cZ cO (as 2) h2 ++ (W_Cv cI cJ cZ cO (as 3) h3 ++ (W_Cv cI cJ cZ cO (as 4) h4 ++ W_Cv cI cJ cZ cO (as 5) h5)))))
abbrev TY (cI cJ cZ cO : ClassId) : List (ClassId × FieldType) := [(cI, .int), (cJ, .long), (cZ, .boolean), (cO, .object "SyllableBook$Contents")]
def ushr (x : Int64) (y : Int32) : Int64 := (x.toUInt64 >>> (y.toInt64.toUInt64 &&& Int64.toUInt64 63)).toInt64
section
variable {p : Program} {l : Launch} {e : Env} {R : Room} {s : State} {m : MethodId} {args : Array Value} {below : List Frame} {meth : Method} {c : Code} {nL : Nat} {D : va_G} {A : Nat → Prop} {Q : State → Prop} {cells slots : Nat} {ws : va_W} {pc : Nat} {lv : List (Nat × Value)} {st : List Value} {cc : ByteArray} {own : String} {ret : Option FieldType} {Ts : List Cond} {tys : List (ClassId × FieldType)}
theorem V_ixor (C : Cx p s m args meth c cc nL own ret Ts D tys A) {x y : Int32} {pc' : Nat} (hdg : decode cc pc = .ok (.ixor, 1)) (hp : pc + 1 = pc')
    (kk : V p l e R s m args below meth c nL D A Q cells slots ws pc' lv (.int (x ^^^ y) :: st)) : V p l e R s m args below meth c nL D A Q cells slots ws pc lv (.int y :: .int x :: st) := by
  subst hp
  intro H locs ls hP hD hS hl
  exact lv_ixor C.1 C.2.1 hdg (kk H locs ls hP hD hS hl)
theorem V_ineg (C : Cx p s m args meth c cc nL own ret Ts D tys A) {x : Int32} {pc' : Nat} (hdg : decode cc pc = .ok (.ineg, 1)) (hp : pc + 1 = pc')
    (kk : V p l e R s m args below meth c nL D A Q cells slots ws pc' lv (.int (-x) :: st)) : V p l e R s m args below meth c nL D A Q cells slots ws pc lv (.int x :: st) := by
  subst hp
  intro H locs ls hP hD hS hl
  exact lv_ineg C.1 C.2.1 hdg (kk H locs ls hP hD hS hl)
theorem V_dup_x2 (C : Cx p s m args meth c cc nL own ret Ts D tys A) {va vb vd : Value} {pc' : Nat} (hdg : decode cc pc = .ok (.dup_x2, 1)) (hva : va.category = 1) (hvb : vb.category = 1) (hvd : vd.category = 1) (hp : pc + 1 = pc')
    (kk : V p l e R s m args below meth c nL D A Q cells slots ws pc' lv (va :: vb :: vd :: va :: st)) : V p l e R s m args below meth c nL D A Q cells slots ws pc lv (va :: vb :: vd :: st) := by
  subst hp
  intro H locs ls hP hD hS hl
  exact lv_dup_x2 C.1 C.2.1 hdg hva hvb hvd (kk H locs ls hP hD hS hl)
end
