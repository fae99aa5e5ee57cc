/-! THE CLAIM OUT OF ONE WALK OF THE LAW'S BODY. Your part is whole_start (and what it stands on); all else here is the same for every law, but numbers. -/
def R_law : String := "SyllableBookLaw"
def lw_P (b : Addr) (xs : List Int32) (args : Array Value) (s : State) : Prop := args = #[.ref b] ∧ s.IntsAt b xs ∧ xs.length ≤ 2048 ∧ (Jvm.Cond.and given_1 narrow_1).before args s = true
def lw_Q (_ : Array Value) (s : State) (o : Outcome) (t : State) : Prop := o = .returned (some (.int 1)) ∧ Framed s o t [] 600000 7302250
def lw_Z (below : List Frame) (a : Array Value) (s : State) : State → Prop := fun t => ∃ o, t.status = .running ∧ Ended t below o ∧ lw_Q a s o t
/-- the law's own end, with 1 on the stack, nothing written that was there before, its room as the claim has it -/
theorem lw_ret {p : Program} {l : Launch} {e : Env} {s : State} {m : MethodId} {below : List Frame} {meth : Method} {c : Code} {b : Nat} (hx : p.tables.exec = Jvm.exec) (hb : c.code = code) (hr : meth.sig.returnType = ret) (hlocks : meth.locks = false) {pc : Nat} {H : Heap} {ls : Array Slot} (hdg : decode code pc = .ok (.ireturn, 1)) : W p l e room_1 s m #[Value.ref b] below meth c H [] 600000 7302250 (lw_Z below #[Value.ref b] s) (F0 m pc ls [.int 1]) := by
  intro T hT X
  obtain ⟨fs, hret, hrun, hended, hW, hframe⟩ := X.leave (v := some (.int 1)) (hlocks := hlocks) (fun h => by rw [hr] at h; cases h)
  have hmeth' : T.vm.method? m = some meth := X.method'
  refine ⟨T.setFrames fs, ?_, .returned (some (.int 1)), hrun, hended, rfl, ⟨_, rfl⟩, hW, hframe⟩
  jvm_step X.here [X.here.top, hx, hb, hdg, hmeth', hr, ret, narrow_b1]
  (try refine ⟨rfl, ?_⟩); (try refine ⟨rfl, ?_⟩)
  first | (intro acts; rw [hret _ acts rfl rfl rfl]) | rw [hret _ _ rfl rfl rfl]
  exact Steps.refl _
/-- what holds at the law's entry: the machine, the code, the tables' words (any of lw_tbl by 'hts w (by decide +kernel)'), the script of L ints xs at the cell b, what the Statement gives of the start (any of its parts by flat_of_before) -/
def lw_At (p : Program) (s : State) (m : MethodId) (meth : Method) (c : Code) (b L : Nat) (xs : Nat → Int32) : Prop :=
  p.tables.exec = Jvm.exec ∧ c.code = code ∧ meth.sig.returnType = ret ∧ c.maxLocals = 4 ∧ s.vm.findClass R_law = some m.cls ∧ (∀ w ∈ lw_tbl, w.before #[Value.ref b] s = true) ∧ va_X b L xs s s.heap ∧ b < s.heap.size ∧ meth.locks = false ∧ (Jvm.Cond.and given_1 narrow_1).before #[Value.ref b] s = true
abbrev WLw (cI cJ cZ cO : ClassId) (ab ac_ atr ah ap al abc aac anb : Nat → Nat) (asl ahs : Nat → Nat → Nat) (am : Nat → Nat) (ct : CV) (tr : CV) (hi : HV) (sl : SV) (pd : PV) (lt : LV) (bc : BV) (ac : AV) (nb : NV) (bn : Nat → Int32) (cw : Nat → Int32) (mo : MV) : va_W := W_BO cI cJ cZ cO ab ac_ atr ah ap al abc aac anb ++ (W_C cI cJ cZ cO ac_ ct.1 ct.2.1 ct.2.2.1 ct.2.2.2.1 ct.2.2.2.2.1 ct.2.2.2.2.2.1 ct.2.2.2.2.2.2.1 ct.2.2.2.2.2.2.2 ++ (W_C cI cJ cZ cO atr tr.1 tr.2.1 tr.2.2.1 tr.2.2.2.1 tr.2.2.2.2.1 tr.2.2.2.2.2.1 tr.2.2.2.2.2.2.1 tr.2.2.2.2.2.2.2 ++ (W_H cI cJ cZ cO ah ahs hi.1 hi.2.1 hi.2.2.1 hi.2.2.2.1 hi.2.2.2.2.1 hi.2.2.2.2.2.1 hi.2.2.2.2.2.2 ++ (W_S cI cJ cZ cO ab asl sl.1 sl.2.1 sl.2.2 ++ (W_P cI cJ cZ cO ap pd.1 pd.2 ++ (W_L cI cJ cZ cO al lt.1 lt.2.1 lt.2.2.1 lt.2.2.2 ++ (W_B cI cJ cZ cO abc bc.1 bc.2.1 bc.2.2.1 bc.2.2.2.1 bc.2.2.2.2.1 bc.2.2.2.2.2.1 bc.2.2.2.2.2.2.1 bc.2.2.2.2.2.2.2 ++ (W_A cI cJ cZ cO aac ac.1 ac.2.1 ac.2.2 ++ (W_N cI cJ cZ cO anb nb.1 nb.2.1 nb.2.2.1 nb.2.2.2.1 nb.2.2.2.2 ++ (W_BN cI cJ cZ cO ab bn ++ (W_CW cI cJ cZ cO ab cw ++ (W_M cI cJ cZ cO am mo.1 mo.2.1 mo.2.2.1 mo.2.2.2.1 mo.2.2.2.2.1 mo.2.2.2.2.2.1 mo.2.2.2.2.2.2.1 mo.2.2.2.2.2.2.2.1 mo.2.2.2.2.2.2.2.2.1 mo.2.2.2.2.2.2.2.2.2.1 mo.2.2.2.2.2.2.2.2.2.2.1 mo.2.2.2.2.2.2.2.2.2.2.2.1 mo.2.2.2.2.2.2.2.2.2.2.2.2.1 mo.2.2.2.2.2.2.2.2.2.2.2.2.2.1 mo.2.2.2.2.2.2.2.2.2.2.2.2.2.2.1 mo.2.2.2.2.2.2.2.2.2.2.2.2.2.2.2.1 mo.2.2.2.2.2.2.2.2.2.2.2.2.2.2.2.2.1 mo.2.2.2.2.2.2.2.2.2.2.2.2.2.2.2.2.2))))))))))))
abbrev lvL (b : Nat) (ab am : Nat → Nat) (i : Nat) : List (Nat × Value) := [(3, .int (nI i)), (2, .ref (am 0)), (1, .ref (ab 0)), (0, .ref b)]
abbrev VLw (p : Program) (l : Launch) (e : Env) (s : State) (m : MethodId) (b : Nat) (below : List Frame) (meth : Method) (c : Code) (D : va_G) (A : Nat → Prop) (ws : va_W) (pc : Nat) (lv : List (Nat × Value)) (st : List Value) : Prop := V p l e room_1 s m #[Value.ref b] below meth c 4 D A (lw_Z below #[Value.ref b] s) 115 4833 ws pc lv st
theorem V_slen {p : Program} {l : Launch} {e : Env} {R : Room} {s : State} {m : MethodId} {args : Array Value} {below : List Frame} {meth : Method} {c : Code} {nL : Nat} {D : va_G} {A : Nat → Prop} {Q : State → Prop} {cells slots : Nat} {ws : va_W} {pc : Nat} {lv : List (Nat × Value)} {st : List Value} {cc : ByteArray} {own : String} {ret : Option FieldType} {Ts : List Cond} {tys : List (ClassId × FieldType)} (C : Cx p s m args meth c cc nL own ret Ts D tys A) {b L : Nat} {xs : Nat → Int32} (hX : va_X b L xs s s.heap) (hbl : b < s.heap.size) (hbA : ¬ A b) {pc' : Nat} (hdg : decode cc pc = .ok (.arraylength, 1)) (hp : pc + 1 = pc')
    (kk : V p l e R s m args below meth c nL D A Q cells slots ws pc' lv (.int (nI L) :: st)) : V p l e R s m args below meth c nL D A Q cells slots ws pc lv (.ref b :: st) := by
  subst hp
  intro H locs ls hP hD hS hl
  exact va_slen C.1 C.2.1 hX hbl hbA hS hdg (kk H locs ls hP hD hS hl)
theorem V_sld {p : Program} {l : Launch} {e : Env} {R : Room} {s : State} {m : MethodId} {args : Array Value} {below : List Frame} {meth : Method} {c : Code} {nL : Nat} {D : va_G} {A : Nat → Prop} {Q : State → Prop} {cells slots : Nat} {ws : va_W} {pc : Nat} {lv : List (Nat × Value)} {st : List Value} {cc : ByteArray} {own : String} {ret : Option FieldType} {Ts : List Cond} {tys : List (ClassId × FieldType)} (C : Cx p s m args meth c cc nL own ret Ts D tys A) {b L : Nat} {xs : Nat → Int32} (hX : va_X b L xs s s.heap) (hbl : b < s.heap.size) (hbA : ¬ A b) {i : Nat} (hi : i < L) (hL : L ≤ 2048) {pc' : Nat} (hdg : decode cc pc = .ok (.iaload, 1)) (hp : pc + 1 = pc')
    (kk : V p l e R s m args below meth c nL D A Q cells slots ws pc' lv (.int (xs i) :: st)) : V p l e R s m args below meth c nL D A Q cells slots ws pc lv (.int (nI i) :: .ref b :: st) := by
  subst hp
  intro H locs ls hP hD hS hl
  refine va_sld C.1 C.2.1 hX hbl hbA hS (vp_in_nI hi (by omega)) hdg ?_
  rw [nI_clamp (show i < 2 ^ 31 by omega)]
  exact kk H locs ls hP hD hS hl
theorem V_arg {p : Program} {l : Launch} {e : Env} {R : Room} {s : State} {m : MethodId} {args : Array Value} {below : List Frame} {meth : Method} {c : Code} {D : va_G} {A : Nat → Prop} {Q : State → Prop} {cells slots : Nat} {ws : va_W} {pc : Nat} {st : List Value} {cc : ByteArray} {own : String} {ret : Option FieldType} {Ts : List Cond} {tys : List (ClassId × FieldType)} {b : Nat} {ab am : Nat → Nat} {i : Nat} (C : Cx p s m args meth c cc 4 own ret Ts D tys A) {L : Nat} {xs : Nat → Int32} (hX : va_X b L xs s s.heap) (hbl : b < s.heap.size) (hbA : ¬ A b) (j : Nat) {jn : Int} (hj : Int32.ofInt jn = nI j) (hi : i + j < L) (hL : L ≤ 2048) {p1 p2 p3 p4 p5 : Nat} (d0 : decode cc pc = .ok (.aload_n 0, 1)) (d1 : decode cc p1 = .ok (.iload_n 3, 1)) (d2 : decode cc p2 = .ok (.iconst jn, 1)) (d3 : decode cc p3 = .ok (.iadd, 1)) (d4 : decode cc p4 = .ok (.iaload, 1)) (h1 : pc + 1 = p1) (h2 : p1 + 1 = p2) (h3 : p2 + 1 = p3) (h4 : p3 + 1 = p4) (h5 : p4 + 1 = p5)
    (kk : V p l e R s m args below meth c 4 D A Q cells slots ws p5 (lvL b ab am i) (.int (xs (i + j)) :: st)) : V p l e R s m args below meth c 4 D A Q cells slots ws pc (lvL b ab am i) st := by
  refine V_aload_n C d0 3 rfl h1 ?_
  refine V_iload_n C d1 0 rfl h2 ?_
  refine V_iconst C d2 hj h3 ?_
  refine V_iadd C d3 h4 ?_
  rw [nI_add]
  exact V_sld C hX hbl hbA hi hL d4 h5 kk
theorem lcmp_same {x y : Int64} (h : x = y) : lg_cmp x y = 0 := by
  subst h
  unfold lg_cmp
  rw [if_neg (Int64.lt_irrefl), if_pos rfl]
