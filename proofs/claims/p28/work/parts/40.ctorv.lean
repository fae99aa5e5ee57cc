section VC
variable {p : Program} {l : Launch} {e : Env} {R : Room} {s : State} {m : MethodId} {args : Array Value} {below : List Frame} {meth : Method} {c : Code} {nL : Nat} {D : va_G} {A : Nat → Prop} {Q : State → Prop} {cells slots : Nat} {ws : va_W} {pc : Nat} {lv : List (Nat × Value)} {st : List Value}
variable {cc : ByteArray} {own : String} {ret : Option FieldType} {Ts : List Cond} {tys : List (ClassId × FieldType)}
theorem V_objInit (C : Cx p s m args meth c cc nL own ret Ts D tys A) {idx : Nat} (h1 : Cond.methodLink own idx objectInit ∈ Ts) (h2 : Cond.instanceMethod objectInit ∈ Ts) (h3 : Cond.code objectInit ⟨#[0xb1]⟩ 1 none ∈ Ts) {a : Nat} {pc' : Nat} (hdg : decode cc pc = .ok (.invokespecial idx, 3)) (hf : 1 ≤ R.frames) (hl : 12 ≤ R.locals) (hp : pc + 3 = pc')
    (kk : V p l e R s m args below meth c nL D A Q cells slots ws pc' lv []) : V p l e R s m args below meth c nL D A Q cells slots ws pc lv [.ref a] := by
  subst hp
  intro H locs ls hP hD hS hll
  refine W.objInit C.1 C.2.1 C.2.2.2.1 (C.2.2.2.2.1 _ h1) (C.2.2.2.2.1 _ h2) (C.2.2.2.2.1 _ h3) rfl (by rw [C.2.2.1]; exact hll.1) rfl hdg hf hl ?_
  exact kk H locs ls hP hD hS hll
theorem V_newI (C : Cx p s m args meth c cc nL own ret Ts D tys A) (harr : Cond.arrayClass .int ∈ Ts) (t0 : Nat) {cA : ClassId} (ht : tys[t0]? = some (cA, .int)) {n : Int32} {N' : Nat} (hn : ¬ n < 0) (hN : n.toNatClampNeg = N') (hb : N' * componentBytes .int ≤ 536870912) (hcells : cells + 1 ≤ R.cells) (hslots : slots + N' ≤ R.slots) {pc' : Nat} (hdg : decode cc pc = .ok (.newarray .int, 2)) (hp : pc + 2 = pc')
    (kk : ∀ q : Nat, V p l e R s m args below meth c nL D A Q (cells + 1) (slots + N') (ws ++ [(q, .inl (cA, N', .inl (fun _ => 0)))]) pc' lv (.ref q :: st)) : V p l e R s m args below meth c nL D A Q cells slots ws pc lv (.int n :: st) := by
  subst hp
  intro H locs ls hP hD hS hl
  refine va_newa (atype := .int) (ty := .int) (a0 := (N', .inl (fun _ => 0))) C.1 C.2.1 (C.2.2.2.2.1 _ harr) rfl C.2.2.2.2.2.1 hP hD hS C.2.2.2.2.2.2.1 (fun _ => rfl) hn hN hb hcells hslots hdg (fun q c1 H1 hK1 hP1 hD1 hS1 => ?_)
  have e1 : s.vm.findClass ("[" ++ FieldType.int.toString) = some c1 := (hK1.2 tys.length (c1, .int) (by simp)).2
  have e2 : s.vm.findClass ("[" ++ FieldType.int.toString) = some cA := (C.2.2.2.2.2.1.2 t0 _ ht).2
  have e3 : c1 = cA := Option.some.inj (e1.symm.trans e2)
  subst e3
  exact kk q H1 locs ls hP1 hD1 hS1 hl
theorem V_newJ (C : Cx p s m args meth c cc nL own ret Ts D tys A) (harr : Cond.arrayClass .long ∈ Ts) (t0 : Nat) {cA : ClassId} (ht : tys[t0]? = some (cA, .long)) {n : Int32} {N' : Nat} (hn : ¬ n < 0) (hN : n.toNatClampNeg = N') (hb : N' * componentBytes .long ≤ 536870912) (hcells : cells + 1 ≤ R.cells) (hslots : slots + N' ≤ R.slots) {pc' : Nat} (hdg : decode cc pc = .ok (.newarray .long, 2)) (hp : pc + 2 = pc')
    (kk : ∀ q : Nat, V p l e R s m args below meth c nL D A Q (cells + 1) (slots + N') (ws ++ [(q, .inl (cA, N', .inr (.inl (fun _ => 0))))]) pc' lv (.ref q :: st)) : V p l e R s m args below meth c nL D A Q cells slots ws pc lv (.int n :: st) := by
  subst hp
  intro H locs ls hP hD hS hl
  refine va_newa (atype := .long) (ty := .long) (a0 := (N', .inr (.inl (fun _ => 0)))) C.1 C.2.1 (C.2.2.2.2.1 _ harr) rfl C.2.2.2.2.2.1 hP hD hS C.2.2.2.2.2.2.1 (fun _ => rfl) hn hN hb hcells hslots hdg (fun q c1 H1 hK1 hP1 hD1 hS1 => ?_)
  have e1 : s.vm.findClass ("[" ++ FieldType.long.toString) = some c1 := (hK1.2 tys.length (c1, .long) (by simp)).2
  have e2 : s.vm.findClass ("[" ++ FieldType.long.toString) = some cA := (C.2.2.2.2.2.1.2 t0 _ ht).2
  have e3 : c1 = cA := Option.some.inj (e1.symm.trans e2)
  subst e3
  exact kk q H1 locs ls hP1 hD1 hS1 hl
theorem V_newZ (C : Cx p s m args meth c cc nL own ret Ts D tys A) (harr : Cond.arrayClass .boolean ∈ Ts) (t0 : Nat) {cA : ClassId} (ht : tys[t0]? = some (cA, .boolean)) {n : Int32} {N' : Nat} (hn : ¬ n < 0) (hN : n.toNatClampNeg = N') (hb : N' * componentBytes .boolean ≤ 536870912) (hcells : cells + 1 ≤ R.cells) (hslots : slots + N' ≤ R.slots) {pc' : Nat} (hdg : decode cc pc = .ok (.newarray .boolean, 2)) (hp : pc + 2 = pc')
    (kk : ∀ q : Nat, V p l e R s m args below meth c nL D A Q (cells + 1) (slots + N') (ws ++ [(q, .inl (cA, N', .inl (fun _ => 0)))]) pc' lv (.ref q :: st)) : V p l e R s m args below meth c nL D A Q cells slots ws pc lv (.int n :: st) := by
  subst hp
  intro H locs ls hP hD hS hl
  refine va_newa (atype := .boolean) (ty := .boolean) (a0 := (N', .inl (fun _ => 0))) C.1 C.2.1 (C.2.2.2.2.1 _ harr) rfl C.2.2.2.2.2.1 hP hD hS C.2.2.2.2.2.2.1 (fun _ => rfl) hn hN hb hcells hslots hdg (fun q c1 H1 hK1 hP1 hD1 hS1 => ?_)
  have e1 : s.vm.findClass ("[" ++ FieldType.boolean.toString) = some c1 := (hK1.2 tys.length (c1, .boolean) (by simp)).2
  have e2 : s.vm.findClass ("[" ++ FieldType.boolean.toString) = some cA := (C.2.2.2.2.2.1.2 t0 _ ht).2
  have e3 : c1 = cA := Option.some.inj (e1.symm.trans e2)
  subst e3
  exact kk q H1 locs ls hP1 hD1 hS1 hl
theorem V_newQ (C : Cx p s m args meth c cc nL own ret Ts D tys A) {Cn : String} {idx : Nat} (hcl : Cond.classLink own idx Cn ∈ Ts) (hover : va_AO Cn s) (t0 : Nat) {cA : ClassId} (ht : tys[t0]? = some (cA, .object Cn)) {n : Int32} {N' : Nat} (hn : ¬ n < 0) (hN : n.toNatClampNeg = N') (hb : N' * 4 ≤ 536870912) (hcells : cells + 1 ≤ R.cells) (hslots : slots + N' ≤ R.slots) {pc' : Nat} (hdg : decode cc pc = .ok (.anewarray idx, 3)) (hp : pc + 3 = pc')
    (kk : ∀ q : Nat, V p l e R s m args below meth c nL D A Q (cells + 1) (slots + N') (ws ++ [(q, .inl (cA, N', .inr (.inr (.inr (.inr (fun _ => none))))))]) pc' lv (.ref q :: st)) : V p l e R s m args below meth c nL D A Q cells slots ws pc lv (.int n :: st) := by
  subst hp
  intro H locs ls hP hD hS hl
  refine va_newq C.1 C.2.1 C.2.2.2.1 (C.2.2.2.2.1 _ hcl) hover C.2.2.2.2.2.1 hP hD hS C.2.2.2.2.2.2.1 hn hN hb hcells hslots hdg (fun q c1 H1 hK1 hP1 hD1 hS1 => ?_)
  obtain ⟨_, _, _, _, _, e1⟩ := (hK1.2 tys.length (c1, .object Cn) (by simp)).2
  obtain ⟨_, _, _, _, _, e2⟩ := (C.2.2.2.2.2.1.2 t0 _ ht).2
  have e3 : c1 = cA := Option.some.inj (e1.symm.trans e2)
  subst e3
  exact kk q H1 locs ls hP1 hD1 hS1 hl
theorem V_new (C : Cx p s m args meth c cc nL own ret Ts D tys A) {Cn : String} {T : u_T} {N ci idx : Nat} (hin : ∀ w ∈ u_ws Cn T N, w ∈ Ts) {ty : Nat → FieldType} (hty : ∀ k, k < N → parseFieldDescriptor (T k).2.2.1 = some (ty k)) (hcl : Cond.classLink own idx Cn ∈ Ts) (hinst : Cond.instantiable Cn N ∈ Ts) (hini : Cond.initialized Cn ∈ Ts) (hc : vwCl[ci]? = some (Cn, T, N)) {fs : List Value} (hfs : ∀ j, j < N → defaultValue (ty j) = vp_V fs j) (hcells : cells + 1 ≤ R.cells) (hslots : slots + N ≤ R.slots) {pc' : Nat} (hdg : decode cc pc = .ok (.new idx, 3)) (hp : pc + 3 = pc')
    (kk : ∀ q : Nat, V p l e R s m args below meth c nL D A Q (cells + 1) (slots + N) (ws ++ [(q, .inr (ci, fs))]) pc' lv (.ref q :: st)) : V p l e R s m args below meth c nL D A Q cells slots ws pc lv st := by
  subst hp
  intro H locs ls hP hD hS hl
  exact va_new C.1 C.2.1 C.2.2.2.2.1 hin ty hty C.2.2.2.1 (C.2.2.2.2.1 _ hcl) (C.2.2.2.2.1 _ hinst) (C.2.2.2.2.1 _ hini) C.2.2.2.2.2.1 hP hD hS C.2.2.2.2.2.2.1 hc hfs hcells hslots hdg (fun q H1 hP1 hD1 hS1 => kk q H1 locs ls hP1 hD1 hS1 hl)
/-- what the constructors of History and SyllableBook need beyond their words -/
def NX (U : State) : Prop := va_AO "SyllableBook$Contents" U ∧ (va_Nw (.methodLinkNest RX3 17 yX2_init RX7) U ∧ va_Nw (.methodLinkNest RX7 9 yX2_init RX7) U ∧ va_Nw (.methodLinkNest RX7 36 yX6_init RX7) U ∧ va_Nw (.methodLinkNest RX7 43 yX4_init RX7) U ∧ va_Nw (.methodLinkNest RX7 50 yX1_init RX7) U ∧ va_Nw (.methodLinkNest RX7 57 yX0_init RX7) U ∧ va_Nw (.methodLinkNest RX7 64 yX5_init RX7) U)
theorem NX_same {u U : State} (h : u.vm = U.vm) (hN : NX u) : NX U := by
  obtain ⟨h0, h1, h2, h3, h4, h5, h6, h7⟩ := hN
  exact ⟨va_AO.moved (by rw [h]; exact Vm.Alike.refl _) h0, va_Nw.same rfl h h1, va_Nw.same rfl h h2, va_Nw.same rfl h h3, va_Nw.same rfl h h4, va_Nw.same rfl h h5, va_Nw.same rfl h h6, va_Nw.same rfl h h7⟩
theorem NX_warm {u U : State} (h : u.WarmedH U.vm) (hN : NX u) : NX U := by
  obtain ⟨h0, h1, h2, h3, h4, h5, h6, h7⟩ := hN
  exact ⟨va_AO.moved h.alike h0, va_Nw.warmM h h1, va_Nw.warmM h h2, va_Nw.warmM h h3, va_Nw.warmM h h4, va_Nw.warmM h h5, va_Nw.warmM h h6, va_Nw.warmM h h7⟩
def MetN (l : Launch) (y : MethodName) (wsY : List Cond) (rm : Room) (D : va_G) (tys : List (ClassId × FieldType)) (av : List Value) (wc : va_W) {S : Type} (post : S → Prop) (wc' : S → va_W) : Prop :=
  ∀ sz : Nat, Met l y wsY rm (va_Pc av (fun U => PreW D tys wc sz U ∧ NX U)) (va_Qv post (PostW D tys (va_A wc sz) wc') (va_A wc sz)) rm.cells rm.slots (va_A wc sz)
theorem blindN {D : va_G} {tys : List (ClassId × FieldType)} {av : List Value} {wc : va_W} {sz : Nat} : FrameBlind (va_Pc av (fun U => PreW D tys wc sz U ∧ NX U)) := fun a U g mk q => by
  obtain ⟨q0, ⟨q1, qP, qK, qD⟩, qN⟩ := q
  exact ⟨q0, ⟨q1, qP, va_K.moved (u := U) (U := U.calling g mk a) (Vm.Alike.refl U.vm) qK, qD⟩, NX_same (u := U) (U := U.calling g mk a) rfl qN⟩
theorem MetN.ofV {l : Launch} {y : MethodName} {wsY ws' : List Cond} {rm : Room} {cc : ByteArray} {maxL : Nat} {ret : Option FieldType} {own : String} {D : va_G} {tys : List (ClassId × FieldType)} {av : List Value} {wc : va_W} {S : Type} {post : S → Prop} {wc' : S → va_W} {lv0 : List (Nat × Value)}
    (hy : plainName y.cls = true) (hw : wsY = Cond.code y cc maxL ret :: ws') (ho : y.cls = own) (ha : (lg_sl av).length ≤ maxL) (hv0 : lv_args 0 av = lv0)
    (body : ∀ (p : Program) (e : Env) (s : State) (m : MethodId) (below : List Frame) (meth : Method) (c : Code) (A : Nat → Prop), Cx p s m av.toArray meth c cc maxL own ret wsY D tys A → (y.name = "<init>" → meth.name = "<init>") → NX s → V p l e rm s m av.toArray below meth c maxL D A (MQ below (va_Qv post (PostW D tys A wc') A) av.toArray s rm.cells rm.slots A) 0 0 wc 0 lv0 []) :
    MetN l y wsY rm D tys av wc post wc' := by
  intro sz
  refine Met.ofW (cc := cc) (maxL := maxL) (ret := ret) hy hw ?_
  intro p e s m args below meth c s₁ B hml hv
  have hv1 : args = av.toArray := hv.1
  have := startW (Qg := fun A => MQ below (va_Qv post (PostW D tys A wc') A) av.toArray s rm.cells rm.slots A) ho ha hv0 B hml ⟨hv.1, hv.2.1⟩ (fun A C hn => body p e s m below meth c A C hn hv.2.2)
  rw [hv1] at this ⊢
  exact this
theorem V_callNV (C : Cx p s m args meth c cc nL own ret Ts D tys A) {b : Nat} {y : MethodName} {wsY wsY' : List Cond} {rmY : Room} {As : List Value} {wc : va_W} {S : Type} {post : S → Prop} {wc' ws' : S → va_W} (hM : MetV l y wsY rmY D tys (.ref b :: As) wc post wc') {bytes : ByteArray} {maxLY idx : Nat} (hw0 : wsY = Cond.code y bytes maxLY none :: wsY') (n : Nat)
    {host : String} (hG : GoodIn Ts wsY) (hini : Cond.initialized y.cls ∈ Ts) (hlk : va_Nw (.methodLinkNest own idx y host) s) (him : Cond.instanceMethod y ∈ Ts) (hy1 : y.name = "<init>") (hd : y.cls ≠ "java/lang/invoke/MethodHandle" ∧ y.cls ≠ "java/lang/invoke/VarHandle" ∧ (parseMethodDescriptor y.desc).map (fun d => d.parameters.length) = some n) (hR : rmY.frames + 1 ≤ R.frames ∧ 8 + (maxLY + 11) + rmY.locals ≤ R.locals) (hn : As.length = n) (hT : Cut ws wc wc' ws') {stk : List Value} (hstk : stk = As.reverse ++ .ref b :: st) (hcat : (st.map fun v => v.category).sum ≤ 8) {pc' : Nat} (hdg : decode cc pc = .ok (.invokespecial idx, 3)) (hp : pc + 3 = pc') (hf : cells + rmY.cells ≤ R.cells ∧ slots + rmY.slots ≤ R.slots)
    (kk : ∀ u : S, post u → V p l e R s m args below meth c nL D A Q (cells + rmY.cells) (slots + rmY.slots) (ws' u) pc' lv st) : V p l e R s m args below meth c nL D A Q cells slots ws pc lv stk := by
  subst hp
  intro H locs ls hP hD hS hl
  obtain ⟨hPc, hDc⟩ := hT.start hP hD
  have hFc : ∀ q, va_A wc H.size q → A q := fun q h => by
    rcases h with ⟨k, e, h⟩ | h
    · exact hDc.2 k (q, e) h
    · exact C.2.2.2.2.2.2.1 q (Nat.le_trans hS.1 h)
  refine va_callv (va_runIN (As := As) (rest := st) ⟨C.1, C.2.1, C.2.2.1, C.2.2.2.1, C.2.2.2.2.1⟩ (hM H.size) ⟨va_cnB n C.2.2.2.2.1 hG hw0 rfl rfl hlk (C.2.2.2.2.1 _ hini) hd hR, hy1, C.2.2.2.2.1 _ him⟩ ⟨blindW, fun U hU hW => ⟨rfl, by rw [hU], by rw [hU]; exact hPc, va_K.moved hW.alike C.2.2.2.2.2.1, hDc.weaken (fun _ _ _ _ => trivial)⟩⟩ rfl hn hl.1 hstk (lv_room hcat) hdg hf) hS (fun q _ h => hFc q h) hFc (fun u t H1 locs1 ht hvm hw hB hz1 hk1 hS1 => ?_)
  obtain ⟨hP1, hK1, hD1⟩ := hB
  rw [ht] at hP1
  obtain ⟨hP, hD⟩ := hT.join hP hD hk1 hFc u hP1 hD1
  exact kk u hw H1 locs1 ls hP hD hS1 hl
theorem V_callXV (C : Cx p s m args meth c cc nL own ret Ts D tys A) {b : Nat} {y : MethodName} {wsY wsY' : List Cond} {rmY : Room} {As : List Value} {wc : va_W} {S : Type} {post : S → Prop} {wc' ws' : S → va_W} (hM : MetN l y wsY rmY D tys (.ref b :: As) wc post wc') {bytes : ByteArray} {maxLY idx : Nat} (hw0 : wsY = Cond.code y bytes maxLY none :: wsY') (n : Nat)
    (hNX : NX s) (hG : GoodIn Ts wsY) (hini : Cond.initialized y.cls ∈ Ts) (hlk : Cond.methodLink own idx y ∈ Ts) (him : Cond.instanceMethod y ∈ Ts) (hy1 : y.name = "<init>") (hd : y.cls ≠ "java/lang/invoke/MethodHandle" ∧ y.cls ≠ "java/lang/invoke/VarHandle" ∧ (parseMethodDescriptor y.desc).map (fun d => d.parameters.length) = some n) (hR : rmY.frames + 1 ≤ R.frames ∧ 8 + (maxLY + 11) + rmY.locals ≤ R.locals) (hn : As.length = n) (hT : Cut ws wc wc' ws') {stk : List Value} (hstk : stk = As.reverse ++ .ref b :: st) (hcat : (st.map fun v => v.category).sum ≤ 8) {pc' : Nat} (hdg : decode cc pc = .ok (.invokespecial idx, 3)) (hp : pc + 3 = pc') (hf : cells + rmY.cells ≤ R.cells ∧ slots + rmY.slots ≤ R.slots)
    (kk : ∀ u : S, post u → V p l e R s m args below meth c nL D A Q (cells + rmY.cells) (slots + rmY.slots) (ws' u) pc' lv st) : V p l e R s m args below meth c nL D A Q cells slots ws pc lv stk := by
  subst hp
  intro H locs ls hP hD hS hl
  obtain ⟨hPc, hDc⟩ := hT.start hP hD
  have hFc : ∀ q, va_A wc H.size q → A q := fun q h => by
    rcases h with ⟨k, e, h⟩ | h
    · exact hDc.2 k (q, e) h
    · exact C.2.2.2.2.2.2.1 q (Nat.le_trans hS.1 h)
  refine va_callv (va_runI (As := As) (rest := st) ⟨C.1, C.2.1, C.2.2.1, C.2.2.2.1, C.2.2.2.2.1⟩ (hM H.size) (cwI n C.2.2.2.2.1 hG hw0 rfl rfl (C.2.2.2.2.1 _ hini) (C.2.2.2.2.1 _ hlk) (C.2.2.2.2.1 _ him) hy1 hd hR) ⟨blindN, fun U hU hW => ⟨rfl, ⟨by rw [hU], by rw [hU]; exact hPc, va_K.moved hW.alike C.2.2.2.2.2.1, hDc.weaken (fun _ _ _ _ => trivial)⟩, NX_warm hW hNX⟩⟩ rfl hn hl.1 hstk (lv_room hcat) hdg hf) hS (fun q _ h => hFc q h) hFc (fun u t H1 locs1 ht hvm hw hB hz1 hk1 hS1 => ?_)
  obtain ⟨hP1, hK1, hD1⟩ := hB
  rw [ht] at hP1
  obtain ⟨hP, hD⟩ := hT.join hP hD hk1 hFc u hP1 hD1
  exact kk u hw H1 locs1 ls hP hD hS1 hl
end VC
