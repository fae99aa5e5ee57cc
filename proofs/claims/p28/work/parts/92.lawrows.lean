/-! THE CLAIM OUT OF ONE WALK OF THE LAW'S BODY. Your part is whole_start (and what it stands on); all else here is the same for every law, but numbers. -/
def R_law : String := "SyllableBookLaw"
def lw_P (b : Addr) (xs : List Int32) (args : Array Value) (s : State) : Prop := args = #[.ref b] ∧ s.IntsAt b xs ∧ xs.length ≤ 260 ∧ (Jvm.Cond.and given_1 narrow_1).before args s = true
def lw_Q (_ : Array Value) (s : State) (o : Outcome) (t : State) : Prop := o = .returned (some (.int 1)) ∧ Framed s o t [] 600000 7302250
def lw_Z (below : List Frame) (a : Array Value) (s : State) : State → Prop := fun t => ∃ o, t.status = .running ∧ Ended t below o ∧ lw_Q a s o t
/-- the law's own end, with 1 on the stack, nothing written that was there before, its room as the claim has it -/
theorem lw_ret {p : Program} {l : Launch} {e : Env} {s : State} {m : MethodId} {below : List Frame} {meth : Method} {c : Code} {b : Nat} (hx : p.tables.exec = Jvm.exec) (hb : c.code = code) (hr : meth.sig.returnType = ret) (hlocks : meth.locks = false) {pc : Nat} {H : Heap} {ls : Array Slot} (hdg : decode code pc = .ok (.ireturn, 1)) : W p l e room_1 s m #[Value.ref b] below meth c H [] 600000 7302250 (lw_Z below #[Value.ref b] s) (F0 m pc ls [.int 1]) := by
  intro T hT X
  obtain ⟨fs, hret, hrun, hended, hW, hframe⟩ := X.leave (v := some (.int 1)) (hlocks := hlocks) (fun h => by rw [hr] at h; cases h)
  have hmeth' : T.vm.method? m = some meth := X.method'
  refine ⟨T.setFrames fs, ?_, .returned (some (.int 1)), hrun, hended, rfl, ⟨_, rfl⟩, hW, hframe⟩
  jvm_step X.here [X.here.top, hx, hb, hdg, hmeth', hr, ret, narrow_b1]
  (try refine ⟨rfl, ?_⟩); (try refine ⟨rfl, ?_⟩)
  first | (intro acts; rw [hret _ acts rfl rfl rfl]) | rw [hret _ _ rfl rfl rfl]
  exact Steps.refl _
/-- what holds at the law's entry: the machine, the code, the tables' words (any of lw_tbl by 'hts w (by decide +kernel)'), the script of L ints xs at the cell b, what the Statement gives of the start (any of its parts by flat_of_before) -/
def lw_At (p : Program) (s : State) (m : MethodId) (meth : Method) (c : Code) (b L : Nat) (xs : Nat → Int32) : Prop :=
  p.tables.exec = Jvm.exec ∧ c.code = code ∧ meth.sig.returnType = ret ∧ c.maxLocals = 15 ∧ s.vm.findClass R_law = some m.cls ∧ (∀ w ∈ lw_tbl, w.before #[Value.ref b] s = true) ∧ va_X b L xs s s.heap ∧ b < s.heap.size ∧ meth.locks = false ∧ (Jvm.Cond.and given_1 narrow_1).before #[Value.ref b] s = true
theorem V_slen {p : Program} {l : Launch} {e : Env} {R : Room} {s : State} {m : MethodId} {args : Array Value} {below : List Frame} {meth : Method} {c : Code} {nL : Nat} {D : va_G} {A : Nat → Prop} {Q : State → Prop} {cells slots : Nat} {ws : va_W} {pc : Nat} {lv : List (Nat × Value)} {st : List Value} {cc : ByteArray} {own : String} {ret : Option FieldType} {Ts : List Cond} {tys : List (ClassId × FieldType)} (C : Cx p s m args meth c cc nL own ret Ts D tys A) {b L : Nat} {xs : Nat → Int32} (hX : va_X b L xs s s.heap) (hbl : b < s.heap.size) (hbA : ¬ A b) {pc' : Nat} (hdg : decode cc pc = .ok (.arraylength, 1)) (hp : pc + 1 = pc')
    (kk : V p l e R s m args below meth c nL D A Q cells slots ws pc' lv (.int (nI L) :: st)) : V p l e R s m args below meth c nL D A Q cells slots ws pc lv (.ref b :: st) := by
  subst hp
  intro H locs ls hP hD hS hl
  exact va_slen C.1 C.2.1 hX hbl hbA hS hdg (kk H locs ls hP hD hS hl)
theorem V_sld {p : Program} {l : Launch} {e : Env} {R : Room} {s : State} {m : MethodId} {args : Array Value} {below : List Frame} {meth : Method} {c : Code} {nL : Nat} {D : va_G} {A : Nat → Prop} {Q : State → Prop} {cells slots : Nat} {ws : va_W} {pc : Nat} {lv : List (Nat × Value)} {st : List Value} {cc : ByteArray} {own : String} {ret : Option FieldType} {Ts : List Cond} {tys : List (ClassId × FieldType)} (C : Cx p s m args meth c cc nL own ret Ts D tys A) {b L : Nat} {xs : Nat → Int32} (hX : va_X b L xs s s.heap) (hbl : b < s.heap.size) (hbA : ¬ A b) {i : Nat} (hi : i < L) (hL : L ≤ 2048) {pc' : Nat} (hdg : decode cc pc = .ok (.iaload, 1)) (hp : pc + 1 = pc')
    (kk : V p l e R s m args below meth c nL D A Q cells slots ws pc' lv (.int (xs i) :: st)) : V p l e R s m args below meth c nL D A Q cells slots ws pc lv (.int (nI i) :: .ref b :: st) := by
  subst hp
  intro H locs ls hP hD hS hl
  refine va_sld C.1 C.2.1 hX hbl hbA hS (vp_in_nI hi (by omega)) hdg ?_
  rw [nI_clamp (show i < 2 ^ 31 by omega)]
  exact kk H locs ls hP hD hS hl
theorem sck_inv {α : Type} {k : Int32} {x : Option α} {o : α} (h : sck k x = some o) : ¬ k < 0 ∧ x = some o := by
  unfold sck at h
  by_cases q : k < 0
  · rw [if_pos q] at h; cases h
  · rw [if_neg q] at h; exact ⟨q, h⟩
def PreZ (D : va_G) (tys : List (ClassId × FieldType)) (b L : Nat) (xs : Nat → Int32) (sz : Nat) : State → Prop := fun U => U.heap.size = sz ∧ va_X b L xs U U.heap ∧ b < sz ∧ va_K D vwCl tys U
theorem blindZ {D : va_G} {tys : List (ClassId × FieldType)} {av : List Value} {b L : Nat} {xs : Nat → Int32} {sz : Nat} : FrameBlind (va_Pc av (PreZ D tys b L xs sz)) := fun a U g mk q => by
  obtain ⟨q0, q1, qX, qb, qK⟩ := q
  exact ⟨q0, q1, va_X.moved (u := U) (U := U.calling g mk a) (Vm.Alike.refl U.vm) qX, qb, va_K.moved (u := U) (U := U.calling g mk a) (Vm.Alike.refl U.vm) qK⟩
abbrev RM_L_cell : Room := { frames := 0, cells := 0, slots := 0, locals := 0 }
theorem c_L_cell (l : Launch) (D : va_G) (tys : List (ClassId × FieldType)) {b L : Nat} {xs : Nat → Int32} (hL : L ≤ 260) {k : Int32} (hk : ¬ k < 0) (sz : Nat) : Met l yL_cell wsL_cell RM_L_cell (va_Pc [.ref b, .int k] (PreZ D tys b L xs sz)) (va_Qi (fun r (_ : Unit) => r = cellv L xs k) (PostW D tys (va_A [] sz) (fun _ => [])) (va_A [] sz)) RM_L_cell.cells RM_L_cell.slots (va_A [] sz) := by
  refine Met.ofW (cc := cL_cell) (maxL := 2) (ret := some .int) (by decide) rfl ?_
  intro p e s m args below meth c s₁ B hml hv
  obtain ⟨hv1, hsz, hX, hbl, hK⟩ := hv
  subst hsz
  subst hv1
  have hts := atoms_spec (ws := wsL_cell) B.pre
  have hown : s.vm.findClass RL = some m.cls := findClass_of_methodNamed B.named
  have hl := lv_entry ([.ref b, .int k] : List Value) (n := 2) (Nat.le_of_ble_eq_true rfl)
  rw [lg_entry_eq]
  have C0 : Cx p s m ([.ref b, .int k] : List Value).toArray meth c cL_cell 2 RL (some .int) wsL_cell D tys (va_A [] s.heap.size) := ⟨B.exec, B.bytes, hml, hown, hts, hK, fun q h => Or.inr h, B.returns, B.notSynchronized⟩
  have hbA : ¬ va_A [] s.heap.size b := by
    rintro (⟨q, e, h⟩ | h)
    · simp at h
    · omega
  obtain ⟨j, hj, rfl⟩ := nI_of hk
  have bodyV : V p l e RM_L_cell s m ([.ref b, .int (nI j)] : List Value).toArray below meth c 2 D (va_A [] s.heap.size) (MQ below (va_Qi (fun r (_ : Unit) => r = cellv L xs (nI j)) (PostW D tys (va_A [] s.heap.size) (fun _ => [])) (va_A [] s.heap.size)) ([.ref b, .int (nI j)] : List Value).toArray s 0 0 (va_A [] s.heap.size)) 0 0 [] 0 [(0, .ref b), (1, .int (nI j))] [] := by
    refine V_iload_n C0 dL_cell_0 1 rfl rfl ?_
    refine V_aload_n C0 dL_cell_1 0 rfl rfl ?_
    refine V_slen C0 hX hbl hbA dL_cell_2 rfl ?_
    refine V_icmp_ge (tgt := 12) C0 dL_cell_3 (by decide) rfl (fun h => ?_) (fun h => ?_)
    · refine V_ldc (v := 739982445) C0 dL_cell_12 (by decide +kernel) rfl ?_
      refine V_iload_n C0 dL_cell_14 1 rfl rfl ?_
      refine V_iconst (v := 1) C0 dL_cell_15 (by decide) rfl ?_
      refine V_iadd C0 dL_cell_16 rfl ?_
      refine V_imul C0 dL_cell_17 rfl ?_
      refine V_ldc (v := 695872825) C0 dL_cell_18 (by decide +kernel) rfl ?_
      refine V_iadd C0 dL_cell_20 rfl ?_
      exact V_iret C0 () (if_pos h).symm rfl dL_cell_21
    · have hjL : j < L := by
        rcases Nat.lt_or_ge j L with q | q
        · exact q
        · exact absurd (nI_le q hj) h
      refine V_aload_n C0 dL_cell_6 0 rfl rfl ?_
      refine V_iload_n C0 dL_cell_7 1 rfl rfl ?_
      refine V_sld C0 hX hbl hbA hjL (by omega) dL_cell_8 rfl ?_
      refine V_goto (tgt := 21) C0 dL_cell_9 (by decide) ?_
      refine V_iret C0 () ?_ rfl dL_cell_21
      show xs j = if nI L ≤ nI j then _ else xs (nI j).toNatClampNeg
      rw [if_neg h, nI_clamp hj]
  exact bodyV s.heap [] _ (fun k q h => by simp at h) ⟨fun i j p q h => by simp at h, fun k q h => by simp at h⟩ va_S.rf hl
theorem V_cell {p : Program} {l : Launch} {e : Env} {R : Room} {s : State} {m : MethodId} {args : Array Value} {below : List Frame} {meth : Method} {c : Code} {nL : Nat} {D : va_G} {A : Nat → Prop} {Q : State → Prop} {cells slots : Nat} {ws : va_W} {pc : Nat} {lv : List (Nat × Value)} {st : List Value} {cc : ByteArray} {own : String} {ret : Option FieldType} {Ts : List Cond} {tys : List (ClassId × FieldType)} (C : Cx p s m args meth c cc nL own ret Ts D tys A) {b L : Nat} {xs : Nat → Int32} (hL : L ≤ 260) (hX : va_X b L xs s s.heap) (hbl : b < s.heap.size) (hbA : ¬ A b) {k : Int32} (hk : ¬ k < 0) {idx : Nat} (hG : GoodIn Ts (va_wsS own idx yL_cell wsL_cell)) (hR : RM_L_cell.frames + 1 ≤ R.frames ∧ 8 + (2 + 11) + RM_L_cell.locals ≤ R.locals) (hcat : (st.map fun v => v.category).sum ≤ 8) {pc' : Nat} (hdg : decode cc pc = .ok (.invokestatic idx, 3)) (hp : pc + 3 = pc') (hf : cells + RM_L_cell.cells ≤ R.cells ∧ slots + RM_L_cell.slots ≤ R.slots)
    (kk : V p l e R s m args below meth c nL D A Q (cells + RM_L_cell.cells) (slots + RM_L_cell.slots) ws pc' lv (.int (cellv L xs k) :: st)) : V p l e R s m args below meth c nL D A Q cells slots ws pc lv (.int k :: .ref b :: st) := by
  subst hp
  intro H locs ls hP hD hS hl
  have hFc : ∀ q, va_A [] H.size q → A q := fun q h => by
    rcases h with ⟨k, e, h⟩ | h
    · simp at h
    · exact C.2.2.2.2.2.2.1 q (Nat.le_trans hS.1 h)
  have T : Cut ws [] (fun _ : Unit => []) (fun _ : Unit => ws) := ⟨ws, List.Perm.refl _, fun _ => List.Perm.refl _⟩
  refine va_calli (va_runS (As := [.ref b, .int k]) (rest := st) ⟨C.1, C.2.1, C.2.2.1, C.2.2.2.1, C.2.2.2.2.1⟩ (c_L_cell l D tys (b := b) (L := L) (xs := xs) hL hk H.size) (va_cwS 2 C.2.2.2.2.1 hG rfl rfl rfl (by decide +kernel) hR) ⟨blindZ (D := D) (tys := tys) (b := b) (L := L) (xs := xs) (sz := H.size), fun U hU hW => ⟨rfl, by rw [hU], by rw [hU]; exact va_X.moved hW.alike (hX.kept (hS.2.1 b hbl hbA)), Nat.lt_of_lt_of_le hbl hS.1, va_K.moved hW.alike C.2.2.2.2.2.1⟩⟩ rfl rfl hl.1 rfl (lv_room hcat) hdg hf) hS (fun q _ h => hFc q h) hFc (fun r u t H1 locs1 ht hvm hw hB hz1 hk1 hS1 => ?_)
  subst hw
  obtain ⟨hP, hD⟩ := T.join hP hD hk1 hFc () (fun k q h => by simp at h) ⟨fun i j p q h => by simp at h, fun k q h => by simp at h⟩
  exact kk H1 locs1 ls hP hD hS1 hl
theorem V_lawend {p : Program} {l : Launch} {e : Env} {s : State} {m : MethodId} {below : List Frame} {meth : Method} {c : Code} {D : va_G} {cells slots : Nat} {ws : va_W} {pc : Nat} {lv : List (Nat × Value)} {Ts : List Cond} {tys : List (ClassId × FieldType)} {b : Nat} (C : Cx p s m #[Value.ref b] meth c cL_law 15 RL ret Ts D tys (fun q : Nat => s.heap.size ≤ q)) (h1 : cells ≤ 600000) (h2 : slots ≤ 7302250) (hdg : decode cL_law pc = .ok (.ireturn, 1)) : V p l e room_1 s m #[Value.ref b] below meth c 15 D (fun q : Nat => s.heap.size ≤ q) (lw_Z below #[Value.ref b] s) cells slots ws pc lv [.int 1] := by
  intro H locs ls hP hD hS hl
  refine va_forget (fun q hq => hS.2.2 q hq) ?_
  refine W.widen (k := 600000) (n := 7302250) h1 h2 ?_
  exact lw_ret C.1 C.2.1 C.2.2.2.2.2.2.2.1 C.2.2.2.2.2.2.2.2 hdg
