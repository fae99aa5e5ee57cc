/-! V: the machine at a program point, in terms of the cells (ws), the locals (lv) and the stack alone. Rows on V: one instruction each. -/
section VV
def Cx (p : Program) (s : State) (m : MethodId) (args : Array Value) (meth : Method) (c : Code) (cc : ByteArray) (nL : Nat) (own : String) (ret : Option FieldType) (Ts : List Cond) (D : va_G) (tys : List (ClassId × FieldType)) (A : Nat → Prop) : Prop :=
  p.tables.exec = Jvm.exec ∧ c.code = cc ∧ c.maxLocals = nL ∧ s.vm.findClass own = some m.cls ∧ (∀ w ∈ Ts, w.before args s = true) ∧ va_K D vwCl tys s ∧ (∀ q, s.heap.size ≤ q → A q) ∧ meth.sig.returnType = ret ∧ meth.locks = false
def V (p : Program) (l : Launch) (e : Env) (R : Room) (s : State) (m : MethodId) (args : Array Value) (below : List Frame) (meth : Method) (c : Code) (nL : Nat) (D : va_G) (A : Nat → Prop) (Q : State → Prop) (cells slots : Nat) (ws : va_W) (pc : Nat) (lv : List (Nat × Value)) (st : List Value) : Prop :=
  ∀ (H : Heap) (locs : List Loc) (ls : Array Slot), va_P D vwCl ws H → va_D A ws → va_S A s.heap H locs → lv_has ls nL lv → W p l e R s m args below meth c H locs cells slots Q (F0 m pc ls st)
def ck {α : Type} (i : Int32) (n : Nat) (k : Option α) : Option α := if i < 0 ∨ n ≤ i.toNatClampNeg then none else k
theorem ck_inv {α : Type} {i : Int32} {n : Nat} {k : Option α} {o : α} (h : ck i n k = some o) : vp_in i n ∧ k = some o := by
  unfold ck at h
  by_cases hc : i < 0 ∨ n ≤ i.toNatClampNeg
  · rw [if_pos hc] at h; cases h
  · rw [if_neg hc] at h; exact ⟨hc, h⟩
def nzI {α : Type} (y : Int32) (k : Option α) : Option α := if y = 0 then none else k
theorem nzI_inv {α : Type} {y : Int32} {k : Option α} {o : α} (h : nzI y k = some o) : ¬ y = 0 ∧ k = some o := by
  unfold nzI at h
  by_cases hc : y = 0
  · rw [if_pos hc] at h; cases h
  · rw [if_neg hc] at h; exact ⟨hc, h⟩
def nzL {α : Type} (y : Int64) (k : Option α) : Option α := if y = 0 then none else k
theorem nzL_inv {α : Type} {y : Int64} {k : Option α} {o : α} (h : nzL y k = some o) : ¬ y = 0 ∧ k = some o := by
  unfold nzL at h
  by_cases hc : y = 0
  · rw [if_pos hc] at h; cases h
  · rw [if_neg hc] at h; exact ⟨hc, h⟩
theorem ite_t {α : Type} {b : Prop} [Decidable b] {x y : Option α} {o : α} (hb : b) (h : (if b then x else y) = some o) : x = some o := by rw [if_pos hb] at h; exact h
theorem ite_f {α : Type} {b : Prop} [Decidable b] {x y : Option α} {o : α} (hb : ¬ b) (h : (if b then x else y) = some o) : y = some o := by rw [if_neg hb] at h; exact h
theorem bind_inv {α β : Type} {x : Option α} {f : α → Option β} {o : β} (h : x.bind f = some o) : ∃ r, x = some r ∧ f r = some o := Option.bind_eq_some_iff.mp h
/-- a copy that the machine allows -/
def ckc {α : Type} (sp dp n : Int32) (n0 n1 : Nat) (k : Option α) : Option α := if sp < 0 ∨ dp < 0 ∨ n < 0 ∨ n0 < sp.toNatClampNeg + n.toNatClampNeg ∨ n1 < dp.toNatClampNeg + n.toNatClampNeg then none else k
theorem ckc_inv {α : Type} {sp dp n : Int32} {n0 n1 : Nat} {k : Option α} {o : α} (h : ckc sp dp n n0 n1 k = some o) : (¬ sp < 0 ∧ ¬ dp < 0 ∧ ¬ n < 0 ∧ sp.toNatClampNeg + n.toNatClampNeg ≤ n0 ∧ dp.toNatClampNeg + n.toNatClampNeg ≤ n1) ∧ k = some o := by
  unfold ckc at h
  by_cases hc : sp < 0 ∨ dp < 0 ∨ n < 0 ∨ n0 < sp.toNatClampNeg + n.toNatClampNeg ∨ n1 < dp.toNatClampNeg + n.toNatClampNeg
  · rw [if_pos hc] at h; cases h
  · rw [if_neg hc] at h
    refine ⟨⟨fun q => hc (Or.inl q), fun q => hc (Or.inr (Or.inl q)), fun q => hc (Or.inr (Or.inr (Or.inl q))), ?_, ?_⟩, h⟩
    · exact Nat.not_lt.mp fun q => hc (Or.inr (Or.inr (Or.inr (Or.inl q))))
    · exact Nat.not_lt.mp fun q => hc (Or.inr (Or.inr (Or.inr (Or.inr q))))
variable {p : Program} {l : Launch} {e : Env} {R : Room} {s : State} {m : MethodId} {args : Array Value} {below : List Frame} {meth : Method} {c : Code} {nL : Nat} {D : va_G} {A : Nat → Prop} {Q : State → Prop} {cells slots : Nat} {ws : va_W} {pc : Nat} {lv : List (Nat × Value)} {st : List Value}
variable {cc : ByteArray} {own : String} {ret : Option FieldType} {Ts : List Cond} {tys : List (ClassId × FieldType)}
theorem V.sub (ks : List Nat) {lv' : List (Nat × Value)} (h : lv_pick lv ks = lv') (kk : V p l e R s m args below meth c nL D A Q cells slots ws pc lv' st) : V p l e R s m args below meth c nL D A Q cells slots ws pc lv st := fun H locs ls hP hD hS hl => kk H locs ls hP hD hS (lv_sub hl ks h)
theorem V.world {ws' : va_W} (h : ws = ws') (kk : V p l e R s m args below meth c nL D A Q cells slots ws' pc lv st) : V p l e R s m args below meth c nL D A Q cells slots ws pc lv st := by subst h; exact kk
theorem V.widen {k n : Nat} (h1 : cells ≤ k) (h2 : slots ≤ n) (kk : V p l e R s m args below meth c nL D A Q k n ws pc lv st) : V p l e R s m args below meth c nL D A Q cells slots ws pc lv st := fun H locs ls hP hD hS hl => W.widen h1 h2 (kk H locs ls hP hD hS hl)
theorem V_aload_n (C : Cx p s m args meth c cc nL own ret Ts D tys A) {k : Fin 4} {x : Nat} {pc' : Nat} (hdg : decode cc pc = .ok (.aload_n k, 1)) (j : Nat) (hj : lv[j]? = some ((k : Nat), .ref x)) (hp : pc + 1 = pc')
    (kk : V p l e R s m args below meth c nL D A Q cells slots ws pc' lv (.ref x :: st)) : V p l e R s m args below meth c nL D A Q cells slots ws pc lv (st) := by
  subst hp
  intro H locs ls hP hD hS hl
  exact lv_aload_n C.1 C.2.1 hdg rfl (lv_at hl j hj) (kk H locs ls hP hD hS hl)
theorem V_aload (C : Cx p s m args meth c cc nL own ret Ts D tys A) {k : Nat} {x : Nat} {pc' : Nat} (hdg : decode cc pc = .ok (.aload k, 2)) (j : Nat) (hj : lv[j]? = some (k, .ref x)) (hp : pc + 2 = pc')
    (kk : V p l e R s m args below meth c nL D A Q cells slots ws pc' lv (.ref x :: st)) : V p l e R s m args below meth c nL D A Q cells slots ws pc lv (st) := by
  subst hp
  intro H locs ls hP hD hS hl
  exact lv_aload C.1 C.2.1 hdg (lv_at hl j hj) (kk H locs ls hP hD hS hl)
theorem V_iload_n (C : Cx p s m args meth c cc nL own ret Ts D tys A) {k : Fin 4} {x : Int32} {pc' : Nat} (hdg : decode cc pc = .ok (.iload_n k, 1)) (j : Nat) (hj : lv[j]? = some ((k : Nat), .int x)) (hp : pc + 1 = pc')
    (kk : V p l e R s m args below meth c nL D A Q cells slots ws pc' lv (.int x :: st)) : V p l e R s m args below meth c nL D A Q cells slots ws pc lv (st) := by
  subst hp
  intro H locs ls hP hD hS hl
  exact lv_iload_n C.1 C.2.1 hdg rfl (lv_at hl j hj) (kk H locs ls hP hD hS hl)
theorem V_iload (C : Cx p s m args meth c cc nL own ret Ts D tys A) {k : Nat} {x : Int32} {pc' : Nat} (hdg : decode cc pc = .ok (.iload k, 2)) (j : Nat) (hj : lv[j]? = some (k, .int x)) (hp : pc + 2 = pc')
    (kk : V p l e R s m args below meth c nL D A Q cells slots ws pc' lv (.int x :: st)) : V p l e R s m args below meth c nL D A Q cells slots ws pc lv (st) := by
  subst hp
  intro H locs ls hP hD hS hl
  exact lv_iload C.1 C.2.1 hdg (lv_at hl j hj) (kk H locs ls hP hD hS hl)
theorem V_lload_n (C : Cx p s m args meth c cc nL own ret Ts D tys A) {k : Fin 4} {x : Int64} {pc' : Nat} (hdg : decode cc pc = .ok (.lload_n k, 1)) (j : Nat) (hj : lv[j]? = some ((k : Nat), .long x)) (hp : pc + 1 = pc')
    (kk : V p l e R s m args below meth c nL D A Q cells slots ws pc' lv (.long x :: st)) : V p l e R s m args below meth c nL D A Q cells slots ws pc lv (st) := by
  subst hp
  intro H locs ls hP hD hS hl
  exact lv_lload_n C.1 C.2.1 hdg rfl (lv_at hl j hj) (kk H locs ls hP hD hS hl)
theorem V_lload (C : Cx p s m args meth c cc nL own ret Ts D tys A) {k : Nat} {x : Int64} {pc' : Nat} (hdg : decode cc pc = .ok (.lload k, 2)) (j : Nat) (hj : lv[j]? = some (k, .long x)) (hp : pc + 2 = pc')
    (kk : V p l e R s m args below meth c nL D A Q cells slots ws pc' lv (.long x :: st)) : V p l e R s m args below meth c nL D A Q cells slots ws pc lv (st) := by
  subst hp
  intro H locs ls hP hD hS hl
  exact lv_lload C.1 C.2.1 hdg (lv_at hl j hj) (kk H locs ls hP hD hS hl)
theorem V_iconst (C : Cx p s m args meth c cc nL own ret Ts D tys A) {n : Int} {v : Int32} {pc' : Nat} (hdg : decode cc pc = .ok (.iconst n, 1)) (hv : Int32.ofInt n = v) (hp : pc + 1 = pc')
    (kk : V p l e R s m args below meth c nL D A Q cells slots ws pc' lv (.int v :: st)) : V p l e R s m args below meth c nL D A Q cells slots ws pc lv (st) := by
  subst hp
  intro H locs ls hP hD hS hl
  exact lv_iconst C.1 C.2.1 hdg hv (kk H locs ls hP hD hS hl)
theorem V_bipush (C : Cx p s m args meth c cc nL own ret Ts D tys A) {n : Int} {v : Int32} {pc' : Nat} (hdg : decode cc pc = .ok (.bipush n, 2)) (hv : (Int8.ofInt n).toInt32 = v) (hp : pc + 2 = pc')
    (kk : V p l e R s m args below meth c nL D A Q cells slots ws pc' lv (.int v :: st)) : V p l e R s m args below meth c nL D A Q cells slots ws pc lv (st) := by
  subst hp
  intro H locs ls hP hD hS hl
  exact lv_bipush C.1 C.2.1 hdg hv (kk H locs ls hP hD hS hl)
theorem V_sipush (C : Cx p s m args meth c cc nL own ret Ts D tys A) {n : Int} {v : Int32} {pc' : Nat} (hdg : decode cc pc = .ok (.sipush n, 3)) (hv : (Int16.ofInt n).toInt32 = v) (hp : pc + 3 = pc')
    (kk : V p l e R s m args below meth c nL D A Q cells slots ws pc' lv (.int v :: st)) : V p l e R s m args below meth c nL D A Q cells slots ws pc lv (st) := by
  subst hp
  intro H locs ls hP hD hS hl
  exact lv_sipush C.1 C.2.1 hdg hv (kk H locs ls hP hD hS hl)
theorem V_lconst (C : Cx p s m args meth c cc nL own ret Ts D tys A) {n : Fin 2} {v : Int64} {pc' : Nat} (hdg : decode cc pc = .ok (.lconst n, 1)) (hv : Int64.ofNat (n : Nat) = v) (hp : pc + 1 = pc')
    (kk : V p l e R s m args below meth c nL D A Q cells slots ws pc' lv (.long v :: st)) : V p l e R s m args below meth c nL D A Q cells slots ws pc lv (st) := by
  subst hp
  intro H locs ls hP hD hS hl
  exact lv_lconst C.1 C.2.1 hdg hv (kk H locs ls hP hD hS hl)
theorem V_ldc (C : Cx p s m args meth c cc nL own ret Ts D tys A) {index : Nat} {v : Int32} {pc' : Nat} (hdg : decode cc pc = .ok (.ldc index, 2)) (hw : Jvm.Cond.constant own index v ∈ Ts) (hp : pc + 2 = pc')
    (kk : V p l e R s m args below meth c nL D A Q cells slots ws pc' lv (.int v :: st)) : V p l e R s m args below meth c nL D A Q cells slots ws pc lv (st) := by
  subst hp
  intro H locs ls hP hD hS hl
  exact lv_ldc C.1 C.2.1 C.2.2.2.1 (C.2.2.2.2.1 _ hw) hdg (kk H locs ls hP hD hS hl)
theorem V_ldc2 (C : Cx p s m args meth c cc nL own ret Ts D tys A) {index : Nat} {v : Int64} {pc' : Nat} (hdg : decode cc pc = .ok (.ldc2_w index, 3)) (hw : Jvm.Cond.constantLong own index v ∈ Ts) (hp : pc + 3 = pc')
    (kk : V p l e R s m args below meth c nL D A Q cells slots ws pc' lv (.long v :: st)) : V p l e R s m args below meth c nL D A Q cells slots ws pc lv (st) := by
  subst hp
  intro H locs ls hP hD hS hl
  exact lv_ldc2 C.1 C.2.1 C.2.2.2.1 (C.2.2.2.2.1 _ hw) hdg (kk H locs ls hP hD hS hl)
theorem V_astore_n (C : Cx p s m args meth c cc nL own ret Ts D tys A) {k : Fin 4} {i : Nat} {x : Nat} {lv' : List (Nat × Value)} {pc' : Nat} (hdg : decode cc pc = .ok (.astore_n k, 1)) (hi : (k : Nat) = i) (hn : i < nL) (hq : (i, Value.ref x) :: lv.filter (fun q => !(q.1 == i) && !(q.1 + 1 == i && q.2.category == 2)) = lv') (hp : pc + 1 = pc')
    (kk : V p l e R s m args below meth c nL D A Q cells slots ws pc' lv' (st)) : V p l e R s m args below meth c nL D A Q cells slots ws pc lv (.ref x :: st) := by
  subst hp
  intro H locs ls hP hD hS hl
  exact lv_astore_n C.1 C.2.1 hdg hi hl hn hq (fun ls hl => kk H locs ls hP hD hS hl)
theorem V_istore_n (C : Cx p s m args meth c cc nL own ret Ts D tys A) {k : Fin 4} {i : Nat} {x : Int32} {lv' : List (Nat × Value)} {pc' : Nat} (hdg : decode cc pc = .ok (.istore_n k, 1)) (hi : (k : Nat) = i) (hn : i < nL) (hq : (i, Value.int x) :: lv.filter (fun q => !(q.1 == i) && !(q.1 + 1 == i && q.2.category == 2)) = lv') (hp : pc + 1 = pc')
    (kk : V p l e R s m args below meth c nL D A Q cells slots ws pc' lv' (st)) : V p l e R s m args below meth c nL D A Q cells slots ws pc lv (.int x :: st) := by
  subst hp
  intro H locs ls hP hD hS hl
  exact lv_istore_n C.1 C.2.1 hdg hi hl hn hq (fun ls hl => kk H locs ls hP hD hS hl)
theorem V_istore (C : Cx p s m args meth c cc nL own ret Ts D tys A) {i : Nat} {x : Int32} {lv' : List (Nat × Value)} {pc' : Nat} (hdg : decode cc pc = .ok (.istore i, 2)) (hn : i < nL) (hq : (i, Value.int x) :: lv.filter (fun q => !(q.1 == i) && !(q.1 + 1 == i && q.2.category == 2)) = lv') (hp : pc + 2 = pc')
    (kk : V p l e R s m args below meth c nL D A Q cells slots ws pc' lv' (st)) : V p l e R s m args below meth c nL D A Q cells slots ws pc lv (.int x :: st) := by
  subst hp
  intro H locs ls hP hD hS hl
  exact lv_istore C.1 C.2.1 hdg hl hn hq (fun ls hl => kk H locs ls hP hD hS hl)
theorem V_lstore_n (C : Cx p s m args meth c cc nL own ret Ts D tys A) {k : Fin 4} {i : Nat} {x : Int64} {lv' : List (Nat × Value)} {pc' : Nat} (hdg : decode cc pc = .ok (.lstore_n k, 1)) (hi : (k : Nat) = i) (hn : i + 1 < nL) (hq : (i, Value.long x) :: lv.filter (fun q => !(q.1 == i) && (!(q.1 == i + 1) && !(q.1 + 1 == i && q.2.category == 2))) = lv') (hp : pc + 1 = pc')
    (kk : V p l e R s m args below meth c nL D A Q cells slots ws pc' lv' (st)) : V p l e R s m args below meth c nL D A Q cells slots ws pc lv (.long x :: st) := by
  subst hp
  intro H locs ls hP hD hS hl
  exact lv_lstore_n C.1 C.2.1 hdg hi hl hn hq (fun ls hl => kk H locs ls hP hD hS hl)
theorem V_lstore (C : Cx p s m args meth c cc nL own ret Ts D tys A) {i : Nat} {x : Int64} {lv' : List (Nat × Value)} {pc' : Nat} (hdg : decode cc pc = .ok (.lstore i, 2)) (hn : i + 1 < nL) (hq : (i, Value.long x) :: lv.filter (fun q => !(q.1 == i) && (!(q.1 == i + 1) && !(q.1 + 1 == i && q.2.category == 2))) = lv') (hp : pc + 2 = pc')
    (kk : V p l e R s m args below meth c nL D A Q cells slots ws pc' lv' (st)) : V p l e R s m args below meth c nL D A Q cells slots ws pc lv (.long x :: st) := by
  subst hp
  intro H locs ls hP hD hS hl
  exact lv_lstore C.1 C.2.1 hdg hl hn hq (fun ls hl => kk H locs ls hP hD hS hl)
theorem V_iinc (C : Cx p s m args meth c cc nL own ret Ts D tys A) {i k : Nat} {n : Int} {x v : Int32} {lv' : List (Nat × Value)} {pc' : Nat} (hdg : decode cc pc = .ok (.iinc i n, 3)) (hk : lv[k]? = some (i, .int x)) (hv : x + Int32.ofInt n = v) (hn : i < nL) (hq : (i, Value.int v) :: lv.filter (fun q => !(q.1 == i) && !(q.1 + 1 == i && q.2.category == 2)) = lv') (hp : pc + 3 = pc')
    (kk : V p l e R s m args below meth c nL D A Q cells slots ws pc' lv' (st)) : V p l e R s m args below meth c nL D A Q cells slots ws pc lv (st) := by
  subst hp
  intro H locs ls hP hD hS hl
  exact lv_iinc C.1 C.2.1 hdg hl (k := k) hk hv hn hq (fun ls hl => kk H locs ls hP hD hS hl)
theorem V_iadd (C : Cx p s m args meth c cc nL own ret Ts D tys A) {x y : Int32} {pc' : Nat} (hdg : decode cc pc = .ok (.iadd, 1))  (hp : pc + 1 = pc')
    (kk : V p l e R s m args below meth c nL D A Q cells slots ws pc' lv (.int (x + y) :: st)) : V p l e R s m args below meth c nL D A Q cells slots ws pc lv (.int y :: .int x :: st) := by
  subst hp
  intro H locs ls hP hD hS hl
  exact lv_iadd C.1 C.2.1 hdg (kk H locs ls hP hD hS hl)
theorem V_isub (C : Cx p s m args meth c cc nL own ret Ts D tys A) {x y : Int32} {pc' : Nat} (hdg : decode cc pc = .ok (.isub, 1))  (hp : pc + 1 = pc')
    (kk : V p l e R s m args below meth c nL D A Q cells slots ws pc' lv (.int (x - y) :: st)) : V p l e R s m args below meth c nL D A Q cells slots ws pc lv (.int y :: .int x :: st) := by
  subst hp
  intro H locs ls hP hD hS hl
  exact lv_isub C.1 C.2.1 hdg (kk H locs ls hP hD hS hl)
theorem V_imul (C : Cx p s m args meth c cc nL own ret Ts D tys A) {x y : Int32} {pc' : Nat} (hdg : decode cc pc = .ok (.imul, 1))  (hp : pc + 1 = pc')
    (kk : V p l e R s m args below meth c nL D A Q cells slots ws pc' lv (.int (x * y) :: st)) : V p l e R s m args below meth c nL D A Q cells slots ws pc lv (.int y :: .int x :: st) := by
  subst hp
  intro H locs ls hP hD hS hl
  exact lv_imul C.1 C.2.1 hdg (kk H locs ls hP hD hS hl)
theorem V_iand (C : Cx p s m args meth c cc nL own ret Ts D tys A) {x y : Int32} {pc' : Nat} (hdg : decode cc pc = .ok (.iand, 1))  (hp : pc + 1 = pc')
    (kk : V p l e R s m args below meth c nL D A Q cells slots ws pc' lv (.int (x &&& y) :: st)) : V p l e R s m args below meth c nL D A Q cells slots ws pc lv (.int y :: .int x :: st) := by
  subst hp
  intro H locs ls hP hD hS hl
  exact lv_iand C.1 C.2.1 hdg (kk H locs ls hP hD hS hl)
theorem V_ior (C : Cx p s m args meth c cc nL own ret Ts D tys A) {x y : Int32} {pc' : Nat} (hdg : decode cc pc = .ok (.ior, 1))  (hp : pc + 1 = pc')
    (kk : V p l e R s m args below meth c nL D A Q cells slots ws pc' lv (.int (x ||| y) :: st)) : V p l e R s m args below meth c nL D A Q cells slots ws pc lv (.int y :: .int x :: st) := by
  subst hp
  intro H locs ls hP hD hS hl
  exact lv_ior C.1 C.2.1 hdg (kk H locs ls hP hD hS hl)
theorem V_ishl (C : Cx p s m args meth c cc nL own ret Ts D tys A) {x y : Int32} {pc' : Nat} (hdg : decode cc pc = .ok (.ishl, 1))  (hp : pc + 1 = pc')
    (kk : V p l e R s m args below meth c nL D A Q cells slots ws pc' lv (.int (x <<< (y &&& 31)) :: st)) : V p l e R s m args below meth c nL D A Q cells slots ws pc lv (.int y :: .int x :: st) := by
  subst hp
  intro H locs ls hP hD hS hl
  exact lv_ishl C.1 C.2.1 hdg (kk H locs ls hP hD hS hl)
theorem V_ishr (C : Cx p s m args meth c cc nL own ret Ts D tys A) {x y : Int32} {pc' : Nat} (hdg : decode cc pc = .ok (.ishr, 1))  (hp : pc + 1 = pc')
    (kk : V p l e R s m args below meth c nL D A Q cells slots ws pc' lv (.int (x >>> (y &&& 31)) :: st)) : V p l e R s m args below meth c nL D A Q cells slots ws pc lv (.int y :: .int x :: st) := by
  subst hp
  intro H locs ls hP hD hS hl
  exact lv_ishr C.1 C.2.1 hdg (kk H locs ls hP hD hS hl)
theorem V_ladd (C : Cx p s m args meth c cc nL own ret Ts D tys A) {x y : Int64} {pc' : Nat} (hdg : decode cc pc = .ok (.ladd, 1))  (hp : pc + 1 = pc')
    (kk : V p l e R s m args below meth c nL D A Q cells slots ws pc' lv (.long (x + y) :: st)) : V p l e R s m args below meth c nL D A Q cells slots ws pc lv (.long y :: .long x :: st) := by
  subst hp
  intro H locs ls hP hD hS hl
  exact lv_ladd C.1 C.2.1 hdg (kk H locs ls hP hD hS hl)
theorem V_lmul (C : Cx p s m args meth c cc nL own ret Ts D tys A) {x y : Int64} {pc' : Nat} (hdg : decode cc pc = .ok (.lmul, 1))  (hp : pc + 1 = pc')
    (kk : V p l e R s m args below meth c nL D A Q cells slots ws pc' lv (.long (x * y) :: st)) : V p l e R s m args below meth c nL D A Q cells slots ws pc lv (.long y :: .long x :: st) := by
  subst hp
  intro H locs ls hP hD hS hl
  exact lv_lmul C.1 C.2.1 hdg (kk H locs ls hP hD hS hl)
theorem V_land (C : Cx p s m args meth c cc nL own ret Ts D tys A) {x y : Int64} {pc' : Nat} (hdg : decode cc pc = .ok (.land, 1))  (hp : pc + 1 = pc')
    (kk : V p l e R s m args below meth c nL D A Q cells slots ws pc' lv (.long (x &&& y) :: st)) : V p l e R s m args below meth c nL D A Q cells slots ws pc lv (.long y :: .long x :: st) := by
  subst hp
  intro H locs ls hP hD hS hl
  exact lv_land C.1 C.2.1 hdg (kk H locs ls hP hD hS hl)
theorem V_lor (C : Cx p s m args meth c cc nL own ret Ts D tys A) {x y : Int64} {pc' : Nat} (hdg : decode cc pc = .ok (.lor, 1))  (hp : pc + 1 = pc')
    (kk : V p l e R s m args below meth c nL D A Q cells slots ws pc' lv (.long (x ||| y) :: st)) : V p l e R s m args below meth c nL D A Q cells slots ws pc lv (.long y :: .long x :: st) := by
  subst hp
  intro H locs ls hP hD hS hl
  exact lv_lor C.1 C.2.1 hdg (kk H locs ls hP hD hS hl)
theorem V_idiv (C : Cx p s m args meth c cc nL own ret Ts D tys A) {x y : Int32} {pc' : Nat} (hdg : decode cc pc = .ok (.idiv, 1)) (hne : ¬ y = 0) (hp : pc + 1 = pc')
    (kk : V p l e R s m args below meth c nL D A Q cells slots ws pc' lv (.int (x / y) :: st)) : V p l e R s m args below meth c nL D A Q cells slots ws pc lv (.int y :: .int x :: st) := by
  subst hp
  intro H locs ls hP hD hS hl
  exact lv_idiv C.1 C.2.1 hdg hne (kk H locs ls hP hD hS hl)
theorem V_irem (C : Cx p s m args meth c cc nL own ret Ts D tys A) {x y : Int32} {pc' : Nat} (hdg : decode cc pc = .ok (.irem, 1)) (hne : ¬ y = 0) (hp : pc + 1 = pc')
    (kk : V p l e R s m args below meth c nL D A Q cells slots ws pc' lv (.int (x - x / y * y) :: st)) : V p l e R s m args below meth c nL D A Q cells slots ws pc lv (.int y :: .int x :: st) := by
  subst hp
  intro H locs ls hP hD hS hl
  exact lv_irem C.1 C.2.1 hdg hne (kk H locs ls hP hD hS hl)
theorem V_ldiv (C : Cx p s m args meth c cc nL own ret Ts D tys A) {x y : Int64} {pc' : Nat} (hdg : decode cc pc = .ok (.ldiv, 1)) (hne : ¬ y = 0) (hp : pc + 1 = pc')
    (kk : V p l e R s m args below meth c nL D A Q cells slots ws pc' lv (.long (x / y) :: st)) : V p l e R s m args below meth c nL D A Q cells slots ws pc lv (.long y :: .long x :: st) := by
  subst hp
  intro H locs ls hP hD hS hl
  exact lv_ldiv C.1 C.2.1 hdg hne (kk H locs ls hP hD hS hl)
theorem V_i2l (C : Cx p s m args meth c cc nL own ret Ts D tys A) {x : Int32} {pc' : Nat} (hdg : decode cc pc = .ok (.i2l, 1))  (hp : pc + 1 = pc')
    (kk : V p l e R s m args below meth c nL D A Q cells slots ws pc' lv (.long x.toInt64 :: st)) : V p l e R s m args below meth c nL D A Q cells slots ws pc lv (.int x :: st) := by
  subst hp
  intro H locs ls hP hD hS hl
  exact lv_i2l C.1 C.2.1 hdg rfl (kk H locs ls hP hD hS hl)
theorem V_l2i (C : Cx p s m args meth c cc nL own ret Ts D tys A) {x : Int64} {pc' : Nat} (hdg : decode cc pc = .ok (.l2i, 1))  (hp : pc + 1 = pc')
    (kk : V p l e R s m args below meth c nL D A Q cells slots ws pc' lv (.int x.toInt32 :: st)) : V p l e R s m args below meth c nL D A Q cells slots ws pc lv (.long x :: st) := by
  subst hp
  intro H locs ls hP hD hS hl
  exact lv_l2i C.1 C.2.1 hdg rfl (kk H locs ls hP hD hS hl)
theorem V_lshl (C : Cx p s m args meth c cc nL own ret Ts D tys A) {x : Int64} {y : Int32} {pc' : Nat} (hdg : decode cc pc = .ok (.lshl, 1))  (hp : pc + 1 = pc')
    (kk : V p l e R s m args below meth c nL D A Q cells slots ws pc' lv (.long (x <<< (y.toInt64 &&& 63)) :: st)) : V p l e R s m args below meth c nL D A Q cells slots ws pc lv (.int y :: .long x :: st) := by
  subst hp
  intro H locs ls hP hD hS hl
  exact lv_lshl C.1 C.2.1 hdg rfl (kk H locs ls hP hD hS hl)
theorem V_lushr (C : Cx p s m args meth c cc nL own ret Ts D tys A) {x : Int64} {y : Int32} {pc' : Nat} (hdg : decode cc pc = .ok (.lushr, 1))  (hp : pc + 1 = pc')
    (kk : V p l e R s m args below meth c nL D A Q cells slots ws pc' lv (.long ((x.toUInt64 >>> (y.toInt64.toUInt64 &&& Int64.toUInt64 63)).toInt64) :: st)) : V p l e R s m args below meth c nL D A Q cells slots ws pc lv (.int y :: .long x :: st) := by
  subst hp
  intro H locs ls hP hD hS hl
  exact lv_lushr C.1 C.2.1 hdg rfl (kk H locs ls hP hD hS hl)
theorem V_lcmp (C : Cx p s m args meth c cc nL own ret Ts D tys A) {x y : Int64} {pc' : Nat} (hdg : decode cc pc = .ok (.lcmp, 1))  (hp : pc + 1 = pc')
    (kk : V p l e R s m args below meth c nL D A Q cells slots ws pc' lv (.int (lg_cmp x y) :: st)) : V p l e R s m args below meth c nL D A Q cells slots ws pc lv (.long y :: .long x :: st) := by
  subst hp
  intro H locs ls hP hD hS hl
  exact W.lcmp C.1 C.2.1 hdg (kk H locs ls hP hD hS hl)
theorem V_dup (C : Cx p s m args meth c cc nL own ret Ts D tys A) {va : Value} {pc' : Nat} (hdg : decode cc pc = .ok (.dup, 1)) (hva : va.category = 1) (hp : pc + 1 = pc')
    (kk : V p l e R s m args below meth c nL D A Q cells slots ws pc' lv (va :: va :: st)) : V p l e R s m args below meth c nL D A Q cells slots ws pc lv (va :: st) := by
  subst hp
  intro H locs ls hP hD hS hl
  exact lv_dup C.1 C.2.1 hdg hva (kk H locs ls hP hD hS hl)
theorem V_dup2_11 (C : Cx p s m args meth c cc nL own ret Ts D tys A) {va vb : Value} {pc' : Nat} (hdg : decode cc pc = .ok (.dup2, 1)) (hva : va.category = 1) (hvb : vb.category = 1) (hp : pc + 1 = pc')
    (kk : V p l e R s m args below meth c nL D A Q cells slots ws pc' lv (va :: vb :: va :: vb :: st)) : V p l e R s m args below meth c nL D A Q cells slots ws pc lv (va :: vb :: st) := by
  subst hp
  intro H locs ls hP hD hS hl
  exact lv_dup2_11 C.1 C.2.1 hdg hva hvb (kk H locs ls hP hD hS hl)
theorem V_pop (C : Cx p s m args meth c cc nL own ret Ts D tys A) {va : Value} {pc' : Nat} (hdg : decode cc pc = .ok (.pop, 1)) (hva : va.category = 1) (hp : pc + 1 = pc')
    (kk : V p l e R s m args below meth c nL D A Q cells slots ws pc' lv (st)) : V p l e R s m args below meth c nL D A Q cells slots ws pc lv (va :: st) := by
  subst hp
  intro H locs ls hP hD hS hl
  exact lv_pop C.1 C.2.1 hdg hva (kk H locs ls hP hD hS hl)
theorem V_goto (C : Cx p s m args meth c cc nL own ret Ts D tys A) {off : Int} {tgt : Nat} (hdg : decode cc pc = .ok (.goto off, 3)) (ht : (pc : Int) + off = (tgt : Int)) (kk : V p l e R s m args below meth c nL D A Q cells slots ws tgt lv st) : V p l e R s m args below meth c nL D A Q cells slots ws pc lv st := fun H locs ls hP hD hS hl => lv_goto C.1 C.2.1 hdg ht (kk H locs ls hP hD hS hl)
theorem V_icmp_eq (C : Cx p s m args meth c cc nL own ret Ts D tys A) {x y : Int32} {off : Int} {tgt pc' : Nat} (hdg : decode cc pc = .ok (.if_icmp .eq off, 3)) (ht : (pc : Int) + off = (tgt : Int)) (hp : pc + 3 = pc')
    (kt : x = y → V p l e R s m args below meth c nL D A Q cells slots ws tgt lv st) (kf : ¬ x = y → V p l e R s m args below meth c nL D A Q cells slots ws pc' lv st) : V p l e R s m args below meth c nL D A Q cells slots ws pc lv (.int y :: .int x :: st) := by
  subst hp
  exact fun H locs ls hP hD hS hl => lv_icmp_eq C.1 C.2.1 hdg ht (fun q => kt q H locs ls hP hD hS hl) (fun q => kf q H locs ls hP hD hS hl)
theorem V_icmp_ne (C : Cx p s m args meth c cc nL own ret Ts D tys A) {x y : Int32} {off : Int} {tgt pc' : Nat} (hdg : decode cc pc = .ok (.if_icmp .ne off, 3)) (ht : (pc : Int) + off = (tgt : Int)) (hp : pc + 3 = pc')
    (kt : ¬ x = y → V p l e R s m args below meth c nL D A Q cells slots ws tgt lv st) (kf : x = y → V p l e R s m args below meth c nL D A Q cells slots ws pc' lv st) : V p l e R s m args below meth c nL D A Q cells slots ws pc lv (.int y :: .int x :: st) := by
  subst hp
  exact fun H locs ls hP hD hS hl => lv_icmp_ne C.1 C.2.1 hdg ht (fun q => kt q H locs ls hP hD hS hl) (fun q => kf q H locs ls hP hD hS hl)
theorem V_icmp_lt (C : Cx p s m args meth c cc nL own ret Ts D tys A) {x y : Int32} {off : Int} {tgt pc' : Nat} (hdg : decode cc pc = .ok (.if_icmp .lt off, 3)) (ht : (pc : Int) + off = (tgt : Int)) (hp : pc + 3 = pc')
    (kt : x < y → V p l e R s m args below meth c nL D A Q cells slots ws tgt lv st) (kf : ¬ x < y → V p l e R s m args below meth c nL D A Q cells slots ws pc' lv st) : V p l e R s m args below meth c nL D A Q cells slots ws pc lv (.int y :: .int x :: st) := by
  subst hp
  exact fun H locs ls hP hD hS hl => lv_icmp_lt C.1 C.2.1 hdg ht (fun q => kt q H locs ls hP hD hS hl) (fun q => kf q H locs ls hP hD hS hl)
theorem V_icmp_ge (C : Cx p s m args meth c cc nL own ret Ts D tys A) {x y : Int32} {off : Int} {tgt pc' : Nat} (hdg : decode cc pc = .ok (.if_icmp .ge off, 3)) (ht : (pc : Int) + off = (tgt : Int)) (hp : pc + 3 = pc')
    (kt : y ≤ x → V p l e R s m args below meth c nL D A Q cells slots ws tgt lv st) (kf : ¬ y ≤ x → V p l e R s m args below meth c nL D A Q cells slots ws pc' lv st) : V p l e R s m args below meth c nL D A Q cells slots ws pc lv (.int y :: .int x :: st) := by
  subst hp
  exact fun H locs ls hP hD hS hl => lv_icmp_ge C.1 C.2.1 hdg ht (fun q => kt q H locs ls hP hD hS hl) (fun q => kf q H locs ls hP hD hS hl)
theorem V_icmp_gt (C : Cx p s m args meth c cc nL own ret Ts D tys A) {x y : Int32} {off : Int} {tgt pc' : Nat} (hdg : decode cc pc = .ok (.if_icmp .gt off, 3)) (ht : (pc : Int) + off = (tgt : Int)) (hp : pc + 3 = pc')
    (kt : y < x → V p l e R s m args below meth c nL D A Q cells slots ws tgt lv st) (kf : ¬ y < x → V p l e R s m args below meth c nL D A Q cells slots ws pc' lv st) : V p l e R s m args below meth c nL D A Q cells slots ws pc lv (.int y :: .int x :: st) := by
  subst hp
  exact fun H locs ls hP hD hS hl => lv_icmp_gt C.1 C.2.1 hdg ht (fun q => kt q H locs ls hP hD hS hl) (fun q => kf q H locs ls hP hD hS hl)
theorem V_icmp_le (C : Cx p s m args meth c cc nL own ret Ts D tys A) {x y : Int32} {off : Int} {tgt pc' : Nat} (hdg : decode cc pc = .ok (.if_icmp .le off, 3)) (ht : (pc : Int) + off = (tgt : Int)) (hp : pc + 3 = pc')
    (kt : x ≤ y → V p l e R s m args below meth c nL D A Q cells slots ws tgt lv st) (kf : ¬ x ≤ y → V p l e R s m args below meth c nL D A Q cells slots ws pc' lv st) : V p l e R s m args below meth c nL D A Q cells slots ws pc lv (.int y :: .int x :: st) := by
  subst hp
  exact fun H locs ls hP hD hS hl => lv_icmp_le C.1 C.2.1 hdg ht (fun q => kt q H locs ls hP hD hS hl) (fun q => kf q H locs ls hP hD hS hl)
theorem V_if_eq (C : Cx p s m args meth c cc nL own ret Ts D tys A) {x : Int32} {off : Int} {tgt pc' : Nat} (hdg : decode cc pc = .ok (.ifCond .eq off, 3)) (ht : (pc : Int) + off = (tgt : Int)) (hp : pc + 3 = pc')
    (kt : x = 0 → V p l e R s m args below meth c nL D A Q cells slots ws tgt lv st) (kf : ¬ x = 0 → V p l e R s m args below meth c nL D A Q cells slots ws pc' lv st) : V p l e R s m args below meth c nL D A Q cells slots ws pc lv (.int x :: st) := by
  subst hp
  exact fun H locs ls hP hD hS hl => lv_if_eq C.1 C.2.1 hdg ht (fun q => kt q H locs ls hP hD hS hl) (fun q => kf q H locs ls hP hD hS hl)
theorem V_if_ne (C : Cx p s m args meth c cc nL own ret Ts D tys A) {x : Int32} {off : Int} {tgt pc' : Nat} (hdg : decode cc pc = .ok (.ifCond .ne off, 3)) (ht : (pc : Int) + off = (tgt : Int)) (hp : pc + 3 = pc')
    (kt : ¬ x = 0 → V p l e R s m args below meth c nL D A Q cells slots ws tgt lv st) (kf : x = 0 → V p l e R s m args below meth c nL D A Q cells slots ws pc' lv st) : V p l e R s m args below meth c nL D A Q cells slots ws pc lv (.int x :: st) := by
  subst hp
  exact fun H locs ls hP hD hS hl => lv_if_ne C.1 C.2.1 hdg ht (fun q => kt q H locs ls hP hD hS hl) (fun q => kf q H locs ls hP hD hS hl)
theorem V_if_lt (C : Cx p s m args meth c cc nL own ret Ts D tys A) {x : Int32} {off : Int} {tgt pc' : Nat} (hdg : decode cc pc = .ok (.ifCond .lt off, 3)) (ht : (pc : Int) + off = (tgt : Int)) (hp : pc + 3 = pc')
    (kt : x < 0 → V p l e R s m args below meth c nL D A Q cells slots ws tgt lv st) (kf : ¬ x < 0 → V p l e R s m args below meth c nL D A Q cells slots ws pc' lv st) : V p l e R s m args below meth c nL D A Q cells slots ws pc lv (.int x :: st) := by
  subst hp
  exact fun H locs ls hP hD hS hl => lv_if_lt C.1 C.2.1 hdg ht (fun q => kt q H locs ls hP hD hS hl) (fun q => kf q H locs ls hP hD hS hl)
theorem V_if_ge (C : Cx p s m args meth c cc nL own ret Ts D tys A) {x : Int32} {off : Int} {tgt pc' : Nat} (hdg : decode cc pc = .ok (.ifCond .ge off, 3)) (ht : (pc : Int) + off = (tgt : Int)) (hp : pc + 3 = pc')
    (kt : 0 ≤ x → V p l e R s m args below meth c nL D A Q cells slots ws tgt lv st) (kf : ¬ 0 ≤ x → V p l e R s m args below meth c nL D A Q cells slots ws pc' lv st) : V p l e R s m args below meth c nL D A Q cells slots ws pc lv (.int x :: st) := by
  subst hp
  exact fun H locs ls hP hD hS hl => lv_if_ge C.1 C.2.1 hdg ht (fun q => kt q H locs ls hP hD hS hl) (fun q => kf q H locs ls hP hD hS hl)
theorem V_if_gt (C : Cx p s m args meth c cc nL own ret Ts D tys A) {x : Int32} {off : Int} {tgt pc' : Nat} (hdg : decode cc pc = .ok (.ifCond .gt off, 3)) (ht : (pc : Int) + off = (tgt : Int)) (hp : pc + 3 = pc')
    (kt : 0 < x → V p l e R s m args below meth c nL D A Q cells slots ws tgt lv st) (kf : ¬ 0 < x → V p l e R s m args below meth c nL D A Q cells slots ws pc' lv st) : V p l e R s m args below meth c nL D A Q cells slots ws pc lv (.int x :: st) := by
  subst hp
  exact fun H locs ls hP hD hS hl => lv_if_gt C.1 C.2.1 hdg ht (fun q => kt q H locs ls hP hD hS hl) (fun q => kf q H locs ls hP hD hS hl)
theorem V_if_le (C : Cx p s m args meth c cc nL own ret Ts D tys A) {x : Int32} {off : Int} {tgt pc' : Nat} (hdg : decode cc pc = .ok (.ifCond .le off, 3)) (ht : (pc : Int) + off = (tgt : Int)) (hp : pc + 3 = pc')
    (kt : x ≤ 0 → V p l e R s m args below meth c nL D A Q cells slots ws tgt lv st) (kf : ¬ x ≤ 0 → V p l e R s m args below meth c nL D A Q cells slots ws pc' lv st) : V p l e R s m args below meth c nL D A Q cells slots ws pc lv (.int x :: st) := by
  subst hp
  exact fun H locs ls hP hD hS hl => lv_if_le C.1 C.2.1 hdg ht (fun q => kt q H locs ls hP hD hS hl) (fun q => kf q H locs ls hP hD hS hl)
/-- a field's word and its class's words, among a method's -/
def FL (own : String) (Ts : List Cond) (ci idx k : Nat) (Cn : String) (T : u_T) (N : Nat) : Prop := (∀ w ∈ u_ws Cn T N, w ∈ Ts) ∧ vwCl[ci]? = some (Cn, T, N) ∧ k < N ∧ Cond.fieldLink own idx Cn (T k).2.1 (T k).2.2.1 ∈ Ts ∧ (T k).1 = Cn
theorem V_get (C : Cx p s m args meth c cc nL own ret Ts D tys A) {ci idx k : Nat} {Cn : String} {T : u_T} {N : Nat} (F : FL own Ts ci idx k Cn T N) (q0 : Nat) {a : Nat} {fs : List Value} {v : Value} (he : ws[q0]? = some (a, .inr (ci, fs))) (hv : fs[k]? = some v) {pc' : Nat} (hdg : decode cc pc = .ok (.getfield idx, 3)) (hp : pc + 3 = pc')
    (kk : V p l e R s m args below meth c nL D A Q cells slots ws pc' lv (v :: st)) : V p l e R s m args below meth c nL D A Q cells slots ws pc lv (.ref a :: st) := by
  subst hp
  intro H locs ls hP hD hS hl
  obtain ⟨F1, F2, F3, F4, F5⟩ := F
  exact va_get C.1 C.2.1 C.2.2.2.2.1 F1 C.2.2.2.1 C.2.2.2.2.2.1 hP q0 he F2 k F3 (C.2.2.2.2.1 _ F4) (fun _ h9 => by rw [F5] at h9; exact h9) hv hdg (kk H locs ls hP hD hS hl)
theorem V_put (C : Cx p s m args meth c cc nL own ret Ts D tys A) {ci idx k : Nat} {Cn : String} {T : u_T} {N : Nat} (F : FL own Ts ci idx k Cn T N) {ty0 : Nat → FieldType} (hty : ∀ k, k < N → parseFieldDescriptor (T k).2.2.1 = some (ty0 k)) (hnm : ∀ a, a < N → ∀ b, b < N → a ≠ b → (T a).2.1 ≠ (T b).2.1) (hfin : (T k).2.2.2 = false) (q0 : Nat) {a : Nat} {fs : List Value} {v : Value} (he : ws[q0]? = some (a, .inr (ci, fs))) (hn : narrow (ty0 k) v = v) (hfit : fits (ty0 k) v = true) (hl : k < fs.length) {pc' : Nat} (hdg : decode cc pc = .ok (.putfield idx, 3)) (hp : pc + 3 = pc') {ws' : va_W} (hw : ws.set q0 (a, .inr (ci, fs.set k v)) = ws')
    (kk : V p l e R s m args below meth c nL D A Q cells slots ws' pc' lv st) : V p l e R s m args below meth c nL D A Q cells slots ws pc lv (v :: .ref a :: st) := by
  subst hp; subst hw
  intro H locs ls hP hD hS hl2
  obtain ⟨F1, F2, F3, F4, F5⟩ := F
  exact va_put C.1 C.2.1 C.2.2.2.2.1 F1 ty0 hty hnm C.2.2.2.1 C.2.2.2.2.2.1 hP hD hS q0 he F2 k F3 (C.2.2.2.2.1 _ F4) (fun _ h9 => by rw [F5] at h9; exact h9) hfin (hty k F3) hn hfit hl hdg (fun H1 locs1 hP hD hS => kk H1 locs1 ls hP hD hS hl2)
theorem V_putF (C : Cx p s m args meth c cc nL own ret Ts D tys A) (hin : meth.name = "<init>") {ci idx k : Nat} {T : u_T} {N : Nat} (F : FL own Ts ci idx k own T N) {ty0 : Nat → FieldType} (hty : ∀ k, k < N → parseFieldDescriptor (T k).2.2.1 = some (ty0 k)) (hnm : ∀ a, a < N → ∀ b, b < N → a ≠ b → (T a).2.1 ≠ (T b).2.1) (hfin : (T k).2.2.2 = true) (q0 : Nat) {a : Nat} {fs : List Value} {v : Value} (he : ws[q0]? = some (a, .inr (ci, fs))) (hn : narrow (ty0 k) v = v) (hfit : fits (ty0 k) v = true) (hl : k < fs.length) {pc' : Nat} (hdg : decode cc pc = .ok (.putfield idx, 3)) (hp : pc + 3 = pc') {ws' : va_W} (hw : ws.set q0 (a, .inr (ci, fs.set k v)) = ws')
    (kk : V p l e R s m args below meth c nL D A Q cells slots ws' pc' lv st) : V p l e R s m args below meth c nL D A Q cells slots ws pc lv (v :: .ref a :: st) := by
  subst hp; subst hw
  intro H locs ls hP hD hS hl2
  obtain ⟨F1, F2, F3, F4, F5⟩ := F
  exact va_putF C.1 C.2.1 C.2.2.2.2.1 F1 ty0 hty hnm C.2.2.2.1 C.2.2.2.2.2.1 hP hD hS q0 he F2 k F3 (C.2.2.2.2.1 _ F4) (fun _ h9 => by rw [F5] at h9; exact h9) hfin hin F5 (hty k F3) hn hfit hl hdg (fun H1 locs1 hP hD hS => kk H1 locs1 ls hP hD hS hl2)
theorem V_iald (C : Cx p s m args meth c cc nL own ret Ts D tys A) (q0 t0 : Nat) {a : Nat} {cA : ClassId} {n : Nat} {f : Nat → Int32} (ha : ws[q0]? = some (a, .inl (cA, n, .inl f))) (ht : tys[t0]? = some (cA, .int)) {i : Int32} (hin : vp_in i n) {pc' : Nat} (hdg : decode cc pc = .ok (.iaload, 1)) (hp : pc + 1 = pc')
    (kk : V p l e R s m args below meth c nL D A Q cells slots ws pc' lv (.int (f i.toNatClampNeg) :: st)) : V p l e R s m args below meth c nL D A Q cells slots ws pc lv (.int i :: .ref a :: st) := by
  subst hp
  exact fun H locs ls hP hD hS hl => va_iald C.1 C.2.1 C.2.2.2.2.2.1 hP q0 t0 ha ht hin hdg (kk H locs ls hP hD hS hl)
theorem V_zald (C : Cx p s m args meth c cc nL own ret Ts D tys A) (q0 t0 : Nat) {a : Nat} {cA : ClassId} {n : Nat} {f : Nat → Int32} (ha : ws[q0]? = some (a, .inl (cA, n, .inl f))) (ht : tys[t0]? = some (cA, .boolean)) {i : Int32} (hin : vp_in i n) {pc' : Nat} (hdg : decode cc pc = .ok (.baload, 1)) (hp : pc + 1 = pc')
    (kk : V p l e R s m args below meth c nL D A Q cells slots ws pc' lv (.int (f i.toNatClampNeg) :: st)) : V p l e R s m args below meth c nL D A Q cells slots ws pc lv (.int i :: .ref a :: st) := by
  subst hp
  exact fun H locs ls hP hD hS hl => va_zald C.1 C.2.1 C.2.2.2.2.2.1 hP q0 t0 ha ht hin hdg (kk H locs ls hP hD hS hl)
theorem V_lald (C : Cx p s m args meth c cc nL own ret Ts D tys A) (q0 t0 : Nat) {a : Nat} {cA : ClassId} {n : Nat} {f : Nat → Int64} (ha : ws[q0]? = some (a, .inl (cA, n, .inr (.inl f)))) (ht : tys[t0]? = some (cA, .long)) {i : Int32} (hin : vp_in i n) {pc' : Nat} (hdg : decode cc pc = .ok (.laload, 1)) (hp : pc + 1 = pc')
    (kk : V p l e R s m args below meth c nL D A Q cells slots ws pc' lv (.long (f i.toNatClampNeg) :: st)) : V p l e R s m args below meth c nL D A Q cells slots ws pc lv (.int i :: .ref a :: st) := by
  subst hp
  exact fun H locs ls hP hD hS hl => va_lald C.1 C.2.1 C.2.2.2.2.2.1 hP q0 t0 ha ht hin hdg (kk H locs ls hP hD hS hl)
theorem V_aald (C : Cx p s m args meth c cc nL own ret Ts D tys A) (q0 t0 : Nat) {a : Nat} {cA : ClassId} {n : Nat} {Cn : String} {f : Nat → Option Nat} (ha : ws[q0]? = some (a, .inl (cA, n, .inr (.inr (.inr (.inr f)))))) (ht : tys[t0]? = some (cA, .object Cn)) {i : Int32} (hin : vp_in i n) {b : Nat} (hv : f i.toNatClampNeg = some b) {pc' : Nat} (hdg : decode cc pc = .ok (.aaload, 1)) (hp : pc + 1 = pc')
    (kk : V p l e R s m args below meth c nL D A Q cells slots ws pc' lv (.ref b :: st)) : V p l e R s m args below meth c nL D A Q cells slots ws pc lv (.int i :: .ref a :: st) := by
  subst hp
  refine fun H locs ls hP hD hS hl => va_aldq C.1 C.2.1 C.2.2.2.2.2.1 hP q0 t0 ha ht hin hdg ?_
  rw [hv]
  exact kk H locs ls hP hD hS hl
theorem V_alen (C : Cx p s m args meth c cc nL own ret Ts D tys A) (q0 t0 : Nat) {a : Nat} {cA : ClassId} {x : vp_A} (ha : ws[q0]? = some (a, .inl (cA, x))) {ty : FieldType} (ht : tys[t0]? = some (cA, ty)) {v : Int32} (hv : Int32.ofNat x.1 = v) {pc' : Nat} (hdg : decode cc pc = .ok (.arraylength, 1)) (hp : pc + 1 = pc')
    (kk : V p l e R s m args below meth c nL D A Q cells slots ws pc' lv (.int v :: st)) : V p l e R s m args below meth c nL D A Q cells slots ws pc lv (.ref a :: st) := by
  subst hp
  exact fun H locs ls hP hD hS hl => va_alen C.1 C.2.1 C.2.2.2.2.2.1 hP q0 t0 ha ht hv hdg (kk H locs ls hP hD hS hl)
theorem V_iast (C : Cx p s m args meth c cc nL own ret Ts D tys A) (q0 t0 : Nat) {a : Nat} {cA : ClassId} {n : Nat} {f : Nat → Int32} (ha : ws[q0]? = some (a, .inl (cA, n, .inl f))) (ht : tys[t0]? = some (cA, .int)) {i x : Int32} (hin : vp_in i n) {pc' : Nat} (hdg : decode cc pc = .ok (.iastore, 1)) (hp : pc + 1 = pc') {ws' : va_W} (hw : ws.set q0 (a, .inl (cA, n, .inl (upd f i.toNatClampNeg x))) = ws')
    (kk : V p l e R s m args below meth c nL D A Q cells slots ws' pc' lv st) : V p l e R s m args below meth c nL D A Q cells slots ws pc lv (.int x :: .int i :: .ref a :: st) := by
  subst hp; subst hw
  exact fun H locs ls hP hD hS hl => va_iast C.1 C.2.1 C.2.2.2.2.2.1 hP hD hS q0 t0 ha ht hin hdg (fun H1 locs1 hP hD hS => kk H1 locs1 ls hP hD hS hl)
theorem V_zast (C : Cx p s m args meth c cc nL own ret Ts D tys A) (q0 t0 : Nat) {a : Nat} {cA : ClassId} {n : Nat} {f : Nat → Int32} (ha : ws[q0]? = some (a, .inl (cA, n, .inl f))) (ht : tys[t0]? = some (cA, .boolean)) {i x : Int32} (hx : vp_nar .boolean x = x) (hin : vp_in i n) {pc' : Nat} (hdg : decode cc pc = .ok (.bastore, 1)) (hp : pc + 1 = pc') {ws' : va_W} (hw : ws.set q0 (a, .inl (cA, n, .inl (upd f i.toNatClampNeg x))) = ws')
    (kk : V p l e R s m args below meth c nL D A Q cells slots ws' pc' lv st) : V p l e R s m args below meth c nL D A Q cells slots ws pc lv (.int x :: .int i :: .ref a :: st) := by
  subst hp; subst hw
  intro H locs ls hP hD hS hl
  refine va_zast C.1 C.2.1 C.2.2.2.2.2.1 hP hD hS q0 t0 ha ht hin hdg ?_
  rw [hx]
  exact fun H1 locs1 hP hD hS => kk H1 locs1 ls hP hD hS hl
theorem V_last (C : Cx p s m args meth c cc nL own ret Ts D tys A) (q0 t0 : Nat) {a : Nat} {cA : ClassId} {n : Nat} {f : Nat → Int64} (ha : ws[q0]? = some (a, .inl (cA, n, .inr (.inl f)))) (ht : tys[t0]? = some (cA, .long)) {i : Int32} {x : Int64} (hin : vp_in i n) {pc' : Nat} (hdg : decode cc pc = .ok (.lastore, 1)) (hp : pc + 1 = pc') {ws' : va_W} (hw : ws.set q0 (a, .inl (cA, n, .inr (.inl (vp_updL f i.toNatClampNeg x)))) = ws')
    (kk : V p l e R s m args below meth c nL D A Q cells slots ws' pc' lv st) : V p l e R s m args below meth c nL D A Q cells slots ws pc lv (.long x :: .int i :: .ref a :: st) := by
  subst hp; subst hw
  exact fun H locs ls hP hD hS hl => va_last C.1 C.2.1 C.2.2.2.2.2.1 hP hD hS q0 t0 ha ht hin hdg (fun H1 locs1 hP hD hS => kk H1 locs1 ls hP hD hS hl)
theorem V_aast (C : Cx p s m args meth c cc nL own ret Ts D tys A) (q0 t0 qk ci : Nat) {a : Nat} {cA : ClassId} {r : vw_C} {n v : Nat} {vs : List Value} {f : Nat → Option Nat} (ha : ws[q0]? = some (a, .inl (cA, n, .inr (.inr (.inr (.inr f)))))) (ht : tys[t0]? = some (cA, .object r.1)) (hv : ws[qk]? = some (v, .inr (ci, vs))) (hc : vwCl[ci]? = some r) {i : Int32} (hin : vp_in i n) {pc' : Nat} (hdg : decode cc pc = .ok (.aastore, 1)) (hp : pc + 1 = pc') {ws' : va_W} (hw : ws.set q0 (a, .inl (cA, n, .inr (.inr (.inr (.inr (va_up f i.toNatClampNeg (some v))))))) = ws')
    (kk : V p l e R s m args below meth c nL D A Q cells slots ws' pc' lv st) : V p l e R s m args below meth c nL D A Q cells slots ws pc lv (.ref v :: .int i :: .ref a :: st) := by
  subst hp; subst hw
  exact fun H locs ls hP hD hS hl => va_astq C.1 C.2.1 C.2.2.2.2.2.1 hP hD hS q0 t0 qk ci ha ht hv hc hin hdg (fun H1 locs1 hP hD hS => kk H1 locs1 ls hP hD hS hl)
theorem V_copy (C : Cx p s m args meth c cc nL own ret Ts D tys A) {index : Nat} (hlk : Cond.methodLink own index arraycopyName ∈ Ts) (hnat : Cond.native arraycopyName ∈ Ts) (hstt : Cond.static arraycopyName ∈ Ts) (hini : Cond.initialized "java/lang/System" ∈ Ts) (q0 q1 t0 : Nat) {a0 a : Nat} {c0 : ClassId} {n0 n1 : Nat} {f g : Nat → Int32} (ha0 : ws[q0]? = some (a0, .inl (c0, n0, .inl f))) (ha1 : ws[q1]? = some (a, .inl (c0, n1, .inl g))) (ht0 : tys[t0]? = some (c0, .int))
    {sp dp n : Int32} (hk : ¬ sp < 0 ∧ ¬ dp < 0 ∧ ¬ n < 0 ∧ sp.toNatClampNeg + n.toNatClampNeg ≤ n0 ∧ dp.toNatClampNeg + n.toNatClampNeg ≤ n1)
    (hframes : 1 ≤ R.frames) (hlocals : (st.map fun v => v.category).sum + (nativeFrameWords "java/lang/System" "arraycopy" 5 + 11) ≤ R.locals) {pc' : Nat} (hdg : decode cc pc = .ok (.invokestatic index, 3)) (hp : pc + 3 = pc') {ws' : va_W} (hw : ws.set q1 (a, .inl (c0, n1, .inl (va_cpy f g sp.toNatClampNeg dp.toNatClampNeg n.toNatClampNeg))) = ws')
    (kk : V p l e R s m args below meth c nL D A Q cells slots ws' pc' lv st) : V p l e R s m args below meth c nL D A Q cells slots ws pc lv (.int n :: .int dp :: .ref a :: .int sp :: .ref a0 :: st) := by
  subst hp; subst hw
  exact fun H locs ls hP hD hS hl => va_copyi C.1 C.2.1 (C.2.2.1.trans hl.1.symm) C.2.2.2.1 (C.2.2.2.2.1 _ hlk) (C.2.2.2.2.1 _ hnat) (C.2.2.2.2.1 _ hstt) (C.2.2.2.2.1 _ hini) C.2.2.2.2.2.1 hP hD hS q0 q1 t0 t0 ha0 ha1 ht0 ht0 rfl hk.1 hk.2.1 hk.2.2.1 hk.2.2.2.1 hk.2.2.2.2 (fun i hi => rfl) hframes hlocals hdg (fun H1 locs1 hP hD hS => kk H1 locs1 ls hP hD hS hl)
theorem V_mmax (C : Cx p s m args meth c cc nL own ret Ts D tys A) {index : Nat} (hlk : Cond.methodLink own index Lib.Math.max.name ∈ Ts) (hstt : Cond.static Lib.Math.max.name ∈ Ts) (hini : Cond.initialized "java/lang/Math" ∈ Ts) (hcode : Cond.code Lib.Math.max.name Lib.Math.max.code 2 (some .int) ∈ Ts) (hframes : 1 ≤ R.frames) (hlocals : (st.map fun v => v.category).sum + 13 ≤ R.locals) (hc : cells ≤ R.cells) (hs : slots ≤ R.slots) {x y : Int32} {pc' : Nat} (hdg : decode cc pc = .ok (.invokestatic index, 3)) (hp : pc + 3 = pc')
    (kk : V p l e R s m args below meth c nL D A Q cells slots ws pc' lv (.int (if x < y then y else x) :: st)) : V p l e R s m args below meth c nL D A Q cells slots ws pc lv (.int y :: .int x :: st) := by
  subst hp
  exact fun H locs ls hP hD hS hl => va_mmax C.1 C.2.1 (C.2.2.1.trans hl.1.symm) C.2.2.2.1 (C.2.2.2.2.1 _ hlk) (C.2.2.2.2.1 _ hstt) (C.2.2.2.2.1 _ hini) (C.2.2.2.2.1 _ hcode) hframes hlocals hc hs hdg (kk H locs ls hP hD hS hl)
theorem V_mmin (C : Cx p s m args meth c cc nL own ret Ts D tys A) {index : Nat} (hlk : Cond.methodLink own index Lib.Math.min.name ∈ Ts) (hstt : Cond.static Lib.Math.min.name ∈ Ts) (hini : Cond.initialized "java/lang/Math" ∈ Ts) (hcode : Cond.code Lib.Math.min.name Lib.Math.min.code 2 (some .int) ∈ Ts) (hframes : 1 ≤ R.frames) (hlocals : (st.map fun v => v.category).sum + 13 ≤ R.locals) (hc : cells ≤ R.cells) (hs : slots ≤ R.slots) {x y : Int32} {pc' : Nat} (hdg : decode cc pc = .ok (.invokestatic index, 3)) (hp : pc + 3 = pc')
    (kk : V p l e R s m args below meth c nL D A Q cells slots ws pc' lv (.int (if y < x then y else x) :: st)) : V p l e R s m args below meth c nL D A Q cells slots ws pc lv (.int y :: .int x :: st) := by
  subst hp
  exact fun H locs ls hP hD hS hl => va_mmin C.1 C.2.1 (C.2.2.1.trans hl.1.symm) C.2.2.2.1 (C.2.2.2.2.1 _ hlk) (C.2.2.2.2.1 _ hstt) (C.2.2.2.2.1 _ hini) (C.2.2.2.2.1 _ hcode) hframes hlocals hc hs hdg (kk H locs ls hP hD hS hl)
/-- what a contract asks of the cells, at its start and at its end -/
def PreW (D : va_G) (tys : List (ClassId × FieldType)) (wc : va_W) (sz : Nat) : State → Prop := fun U => U.heap.size = sz ∧ va_P D vwCl wc U.heap ∧ va_K D vwCl tys U ∧ va_D (fun _ => True) wc
def PostW {S : Type} (D : va_G) (tys : List (ClassId × FieldType)) (A : Nat → Prop) (wc' : S → va_W) : S → State → Prop := fun u t => va_P D vwCl (wc' u) t.heap ∧ va_K D vwCl tys t ∧ va_D A (wc' u)
def MetI (l : Launch) (y : MethodName) (wsY : List Cond) (rm : Room) (D : va_G) (tys : List (ClassId × FieldType)) (av : List Value) (wc : va_W) {S : Type} (post : Int32 → S → Prop) (wc' : S → va_W) : Prop :=
  ∀ sz : Nat, Met l y wsY rm (va_Pc av (PreW D tys wc sz)) (va_Qi post (PostW D tys (va_A wc sz) wc') (va_A wc sz)) rm.cells rm.slots (va_A wc sz)
def MetL (l : Launch) (y : MethodName) (wsY : List Cond) (rm : Room) (D : va_G) (tys : List (ClassId × FieldType)) (av : List Value) (wc : va_W) {S : Type} (post : Int64 → S → Prop) (wc' : S → va_W) : Prop :=
  ∀ sz : Nat, Met l y wsY rm (va_Pc av (PreW D tys wc sz)) (va_Ql post (PostW D tys (va_A wc sz) wc') (va_A wc sz)) rm.cells rm.slots (va_A wc sz)
def MetV (l : Launch) (y : MethodName) (wsY : List Cond) (rm : Room) (D : va_G) (tys : List (ClassId × FieldType)) (av : List Value) (wc : va_W) {S : Type} (post : S → Prop) (wc' : S → va_W) : Prop :=
  ∀ sz : Nat, Met l y wsY rm (va_Pc av (PreW D tys wc sz)) (va_Qv post (PostW D tys (va_A wc sz) wc') (va_A wc sz)) rm.cells rm.slots (va_A wc sz)
theorem blindW {D : va_G} {tys : List (ClassId × FieldType)} {av : List Value} {wc : va_W} {sz : Nat} : FrameBlind (va_Pc av (PreW D tys wc sz)) := fun a U g mk q => by
  obtain ⟨q0, q1, qP, qK, qD⟩ := q
  exact ⟨q0, q1, qP, va_K.moved (u := U) (U := U.calling g mk a) (Vm.Alike.refl U.vm) qK, qD⟩
theorem startW {p : Program} {l : Launch} {y : MethodName} {wsY : List Cond} {rm : Room} {cc : ByteArray} {maxL : Nat} {ret : Option FieldType} {own : String} {D : va_G} {tys : List (ClassId × FieldType)} {av : List Value} {wc : va_W} {lv0 : List (Nat × Value)} {sz : Nat} {e : Env} {s : State} {m : MethodId} {args : Array Value} {below : List Frame} {meth : Method} {c : Code} {s₁ : State} {Qg : (Nat → Prop) → State → Prop}
    (ho : y.cls = own) (ha : (lg_sl av).length ≤ maxL) (hv0 : lv_args 0 av = lv0)
    (B : BodyLoose p l y (headSpec wsY rm) cc maxL ret e s m args below meth c s₁) (hml : c.maxLocals = maxL) (hv : va_Pc av (PreW D tys wc sz) args s)
    (body : ∀ A : Nat → Prop, Cx p s m av.toArray meth c cc maxL own ret wsY D tys A → (y.name = "<init>" → meth.name = "<init>") → V p l e rm s m av.toArray below meth c maxL D A (Qg A) 0 0 wc 0 lv0 []) :
    W p l e (headSpec wsY rm).room s m args below meth c s.heap [] 0 0 (Qg (va_A wc sz)) (entryFrame m args maxL) := by
  obtain ⟨rfl, hsz, hP, hK, hD0⟩ := hv
  subst hsz
  have hts := atoms_spec (ws := wsY) B.pre
  have hown : s.vm.findClass own = some m.cls := by rw [← ho]; exact findClass_of_methodNamed B.named
  have hD := hD0.self (sz := s.heap.size)
  have hl := lv_entry av (n := maxL) ha
  rw [lg_entry_eq]
  rw [hv0] at hl
  exact body (va_A wc s.heap.size) ⟨B.exec, B.bytes, hml, hown, hts, hK, fun q h => Or.inr h, B.returns, B.notSynchronized⟩ (fun h => ((name_of_methodNamed B.named B.method).1).trans h) s.heap [] _ hP hD va_S.rf hl
theorem MetI.ofV {l : Launch} {y : MethodName} {wsY ws' : List Cond} {rm : Room} {cc : ByteArray} {maxL : Nat} {ret : Option FieldType} {own : String} {D : va_G} {tys : List (ClassId × FieldType)} {av : List Value} {wc : va_W} {S : Type} {post : Int32 → S → Prop} {wc' : S → va_W} {lv0 : List (Nat × Value)}
    (hy : plainName y.cls = true) (hw : wsY = Cond.code y cc maxL ret :: ws') (ho : y.cls = own) (ha : (lg_sl av).length ≤ maxL) (hv0 : lv_args 0 av = lv0)
    (body : ∀ (p : Program) (e : Env) (s : State) (m : MethodId) (below : List Frame) (meth : Method) (c : Code) (A : Nat → Prop), Cx p s m av.toArray meth c cc maxL own ret wsY D tys A → (y.name = "<init>" → meth.name = "<init>") → V p l e rm s m av.toArray below meth c maxL D A (MQ below (va_Qi post (PostW D tys A wc') A) av.toArray s rm.cells rm.slots A) 0 0 wc 0 lv0 []) :
    MetI l y wsY rm D tys av wc post wc' := by
  intro sz
  refine Met.ofW (cc := cc) (maxL := maxL) (ret := ret) hy hw ?_
  intro p e s m args below meth c s₁ B hml hv
  have hv1 : args = av.toArray := hv.1
  have := startW (Qg := fun A => MQ below (va_Qi post (PostW D tys A wc') A) av.toArray s rm.cells rm.slots A) ho ha hv0 B hml hv (fun A C hn => body p e s m below meth c A C hn)
  rw [hv1] at this ⊢
  exact this
theorem MetL.ofV {l : Launch} {y : MethodName} {wsY ws' : List Cond} {rm : Room} {cc : ByteArray} {maxL : Nat} {ret : Option FieldType} {own : String} {D : va_G} {tys : List (ClassId × FieldType)} {av : List Value} {wc : va_W} {S : Type} {post : Int64 → S → Prop} {wc' : S → va_W} {lv0 : List (Nat × Value)}
    (hy : plainName y.cls = true) (hw : wsY = Cond.code y cc maxL ret :: ws') (ho : y.cls = own) (ha : (lg_sl av).length ≤ maxL) (hv0 : lv_args 0 av = lv0)
    (body : ∀ (p : Program) (e : Env) (s : State) (m : MethodId) (below : List Frame) (meth : Method) (c : Code) (A : Nat → Prop), Cx p s m av.toArray meth c cc maxL own ret wsY D tys A → (y.name = "<init>" → meth.name = "<init>") → V p l e rm s m av.toArray below meth c maxL D A (MQ below (va_Ql post (PostW D tys A wc') A) av.toArray s rm.cells rm.slots A) 0 0 wc 0 lv0 []) :
    MetL l y wsY rm D tys av wc post wc' := by
  intro sz
  refine Met.ofW (cc := cc) (maxL := maxL) (ret := ret) hy hw ?_
  intro p e s m args below meth c s₁ B hml hv
  have hv1 : args = av.toArray := hv.1
  have := startW (Qg := fun A => MQ below (va_Ql post (PostW D tys A wc') A) av.toArray s rm.cells rm.slots A) ho ha hv0 B hml hv (fun A C hn => body p e s m below meth c A C hn)
  rw [hv1] at this ⊢
  exact this
theorem MetV.ofV {l : Launch} {y : MethodName} {wsY ws' : List Cond} {rm : Room} {cc : ByteArray} {maxL : Nat} {ret : Option FieldType} {own : String} {D : va_G} {tys : List (ClassId × FieldType)} {av : List Value} {wc : va_W} {S : Type} {post : S → Prop} {wc' : S → va_W} {lv0 : List (Nat × Value)}
    (hy : plainName y.cls = true) (hw : wsY = Cond.code y cc maxL ret :: ws') (ho : y.cls = own) (ha : (lg_sl av).length ≤ maxL) (hv0 : lv_args 0 av = lv0)
    (body : ∀ (p : Program) (e : Env) (s : State) (m : MethodId) (below : List Frame) (meth : Method) (c : Code) (A : Nat → Prop), Cx p s m av.toArray meth c cc maxL own ret wsY D tys A → (y.name = "<init>" → meth.name = "<init>") → V p l e rm s m av.toArray below meth c maxL D A (MQ below (va_Qv post (PostW D tys A wc') A) av.toArray s rm.cells rm.slots A) 0 0 wc 0 lv0 []) :
    MetV l y wsY rm D tys av wc post wc' := by
  intro sz
  refine Met.ofW (cc := cc) (maxL := maxL) (ret := ret) hy hw ?_
  intro p e s m args below meth c s₁ B hml hv
  have hv1 : args = av.toArray := hv.1
  have := startW (Qg := fun A => MQ below (va_Qv post (PostW D tys A wc') A) av.toArray s rm.cells rm.slots A) ho ha hv0 B hml hv (fun A C hn => body p e s m below meth c A C hn)
  rw [hv1] at this ⊢
  exact this
/-- ends -/
theorem V_iret (C : Cx p s m args meth c cc nL own (some .int) Ts D tys A) {v : Int32} {S : Type} {post : Int32 → S → Prop} {wc' : S → va_W} (u : S) (hp : post v u) (hw : ws = wc' u) (hdg : decode cc pc = .ok (.ireturn, 1)) : V p l e R s m args below meth c nL D A (MQ below (va_Qi post (PostW D tys A wc') A) args s cells slots A) cells slots ws pc lv [.int v] := by
  subst hw
  exact fun H locs ls hP hD hS hl => W.iret C.1 C.2.1 C.2.2.2.2.2.2.2.1 (fun t ht hW => ⟨⟨v, u, rfl, hp, by rw [ht]; exact hP, va_K.moved hW.alike C.2.2.2.2.2.1, hD⟩, hS.F ht⟩) hS.2.2 hdg (hlocks := C.2.2.2.2.2.2.2.2)
theorem V_zret (C : Cx p s m args meth c cc nL own (some .boolean) Ts D tys A) {v : Int32} (hv : narrow .boolean (.int v) = .int v) {S : Type} {post : Int32 → S → Prop} {wc' : S → va_W} (u : S) (hp : post v u) (hw : ws = wc' u) (hdg : decode cc pc = .ok (.ireturn, 1)) : V p l e R s m args below meth c nL D A (MQ below (va_Qi post (PostW D tys A wc') A) args s cells slots A) cells slots ws pc lv [.int v] := by
  subst hw
  exact fun H locs ls hP hD hS hl => W.zret C.1 C.2.1 C.2.2.2.2.2.2.2.1 hv (fun t ht hW => ⟨⟨v, u, rfl, hp, by rw [ht]; exact hP, va_K.moved hW.alike C.2.2.2.2.2.1, hD⟩, hS.F ht⟩) hS.2.2 hdg (hlocks := C.2.2.2.2.2.2.2.2)
theorem V_lret (C : Cx p s m args meth c cc nL own (some .long) Ts D tys A) {v : Int64} {S : Type} {post : Int64 → S → Prop} {wc' : S → va_W} (u : S) (hp : post v u) (hw : ws = wc' u) (hdg : decode cc pc = .ok (.lreturn, 1)) : V p l e R s m args below meth c nL D A (MQ below (va_Ql post (PostW D tys A wc') A) args s cells slots A) cells slots ws pc lv [.long v] := by
  subst hw
  exact fun H locs ls hP hD hS hl => W.lret C.1 C.2.1 C.2.2.2.2.2.2.2.1 (fun t ht hW => ⟨⟨v, u, rfl, hp, by rw [ht]; exact hP, va_K.moved hW.alike C.2.2.2.2.2.1, hD⟩, hS.F ht⟩) hS.2.2 hdg (hlocks := C.2.2.2.2.2.2.2.2)
theorem V_vret (C : Cx p s m args meth c cc nL own none Ts D tys A) {S : Type} {post : S → Prop} {wc' : S → va_W} (u : S) (hp : post u) (hw : ws = wc' u) (hdg : decode cc pc = .ok (.return_, 1)) : V p l e R s m args below meth c nL D A (MQ below (va_Qv post (PostW D tys A wc') A) args s cells slots A) cells slots ws pc lv [] := by
  subst hw
  exact fun H locs ls hP hD hS hl => W.vret C.1 C.2.1 C.2.2.2.2.2.2.2.1 (fun t ht hW => ⟨⟨u, rfl, hp, by rw [ht]; exact hP, va_K.moved hW.alike C.2.2.2.2.2.1, hD⟩, hS.F ht⟩) hS.2.2 hdg (hlocks := C.2.2.2.2.2.2.2.2)
/-- worlds in another order -/
theorem va_P.mem {D : va_G} {ws : va_W} {H : Heap} (h : va_P D vwCl ws H) : ∀ q ∈ ws, va_at D vwCl q H := fun q hq => by
  obtain ⟨k, hk⟩ := List.getElem?_of_mem hq
  exact h k q hk
theorem va_P.ofMem {D : va_G} {ws : va_W} {H : Heap} (h : ∀ q ∈ ws, va_at D vwCl q H) : va_P D vwCl ws H := fun _ q hk => h q (List.mem_of_getElem? hk)
theorem va_P.perm {D : va_G} {ws ws' : va_W} {H : Heap} (h : va_P D vwCl ws H) (hp : ws.Perm ws') : va_P D vwCl ws' H := va_P.ofMem (fun q hq => h.mem q (hp.mem_iff.mpr hq))
theorem va_D.nodup {A : Nat → Prop} {ws : va_W} (h : va_D A ws) : (ws.map Prod.fst).Nodup := by
  unfold List.Nodup
  rw [List.pairwise_iff_getElem]
  intro i j hi hj hij he
  have hi' : i < ws.length := by simpa using hi
  have hj' : j < ws.length := by simpa using hj
  have := h.1 i j ws[i] ws[j] (List.getElem?_eq_getElem hi') (List.getElem?_eq_getElem hj') (by simpa using he)
  omega
theorem va_D.ofNodup {A : Nat → Prop} {ws : va_W} (h : (ws.map Prod.fst).Nodup) (hA : ∀ q ∈ ws, A q.1) : va_D A ws := by
  refine ⟨fun i j p q hi hj he => ?_, fun k q hk => hA q (List.mem_of_getElem? hk)⟩
  unfold List.Nodup at h
  rw [List.pairwise_iff_getElem] at h
  obtain ⟨li, e1⟩ := List.getElem?_eq_some_iff.mp hi
  obtain ⟨lj, e2⟩ := List.getElem?_eq_some_iff.mp hj
  rcases Nat.lt_trichotomy i j with g | g | g
  · exact absurd (by rw [List.getElem_map, List.getElem_map, e1, e2]; exact he) (h i j (by simpa using li) (by simpa using lj) g)
  · exact g
  · exact absurd (by rw [List.getElem_map, List.getElem_map, e1, e2]; exact he.symm) (h j i (by simpa using lj) (by simpa using li) g)
theorem va_D.perm {A : Nat → Prop} {ws ws' : va_W} (h : va_D A ws) (hp : ws.Perm ws') : va_D A ws' := va_D.ofNodup ((hp.map Prod.fst).nodup_iff.mp h.nodup) (fun q hq => by
  obtain ⟨k, hk⟩ := List.getElem?_of_mem (hp.mem_iff.mpr hq)
  exact h.2 k q hk)
theorem V.perm {ws' : va_W} (hp : ws.Perm ws') (kk : V p l e R s m args below meth c nL D A Q cells slots ws' pc lv st) : V p l e R s m args below meth c nL D A Q cells slots ws pc lv st := fun H locs ls hP hD hS hl => kk H locs ls (hP.perm hp) (hD.perm hp) hS hl
/-- a row of references, told by another function that agrees in it -/
theorem V.refs (q0 : Nat) {a : Nat} {cA : ClassId} {n : Nat} {f g : Nat → Option Nat} (ha : ws[q0]? = some (a, .inl (cA, n, .inr (.inr (.inr (.inr f)))))) (hfg : ∀ k, k < n → f k = g k) {ws' : va_W} (hw : ws.set q0 (a, .inl (cA, n, .inr (.inr (.inr (.inr g))))) = ws') (kk : V p l e R s m args below meth c nL D A Q cells slots ws' pc lv st) : V p l e R s m args below meth c nL D A Q cells slots ws pc lv st := by
  subst hw
  intro H locs ls hP hD hS hl
  have he : vp_cell cA (n, .inr (.inr (.inr (.inr f)))) = vp_cell cA (n, .inr (.inr (.inr (.inr g)))) := by
    rw [vp_cell_q, vp_cell_q]
    unfold arrV
    congr 1
    apply Array.ext
    · simp
    · intro i h1 h2
      have : i < n := by simpa using h1
      simp [hfg i this]
  refine kk H locs ls (hP.set hD ha (show H[a]? = some _ from ?_) (fun _ _ => rfl)) (hD.set ha) hS hl
  have := hP q0 _ ha
  exact (show H[a]? = some (vp_cell cA (n, .inr (.inr (.inr (.inr f))))) from this).trans (by rw [he])
/-- a callee's cells in the caller's world, the others, and where all stand behind the call -/
def Cut {S : Type} (ws wc : va_W) (wc' ws' : S → va_W) : Prop := ∃ wr : va_W, ws.Perm (wc ++ wr) ∧ ∀ u, (ws' u).Perm (wc' u ++ wr)
theorem Cut.all {S : Type} {wc : va_W} {wc' : S → va_W} : Cut wc wc wc' wc' := ⟨[], by rw [List.append_nil], fun u => by rw [List.append_nil]⟩
theorem pt {b w1 c1 r : va_W} (h : w1.Perm (c1 ++ r)) : (b ++ w1).Perm ((b ++ c1) ++ r) := by rw [List.append_assoc]; exact h.append_left b
theorem pte {b w1 r : va_W} (h : w1.Perm (([] : va_W) ++ r)) : (b ++ w1).Perm (b ++ r) := h.append_left b
theorem pr {b w1 c1 r : va_W} (h : w1.Perm (c1 ++ r)) : (b ++ w1).Perm (c1 ++ (b ++ r)) := (h.append_left b).trans (List.perm_append_comm_assoc b c1 r)
theorem pt1 {b : va_W} : b.Perm (b ++ ([] : va_W)) := by rw [List.append_nil]
theorem pr1 {b : va_W} : b.Perm (([] : va_W) ++ b) := List.Perm.refl _
theorem pa {x y z w : va_W} (h : (x ++ (y ++ z)).Perm w) : ((x ++ y) ++ z).Perm w := by rw [List.append_assoc]; exact h
theorem pct {x : Nat × va_E} {w1 c1 r : va_W} (h : w1.Perm (c1 ++ r)) : (x :: w1).Perm ((x :: c1) ++ r) := h.cons x
theorem pcr {x : Nat × va_E} {w1 c1 r : va_W} (h : w1.Perm (c1 ++ r)) : (x :: w1).Perm (c1 ++ (x :: r)) := (h.cons x).trans List.perm_middle.symm
theorem pcte {x : Nat × va_E} {w1 r : va_W} (h : w1.Perm (([] : va_W) ++ r)) : (x :: w1).Perm ([x] ++ r) := h.cons x
theorem pn : ([] : va_W).Perm (([] : va_W) ++ ([] : va_W)) := List.Perm.refl _
theorem psw {w a b r : va_W} (h : w.Perm ((a ++ b) ++ r)) : w.Perm ((b ++ a) ++ r) := h.trans (List.perm_append_comm.append_right r)
theorem rot6 {c0 c1 c2 c3 c4 c5 : va_W} : (c0 ++ (c1 ++ (c2 ++ (c3 ++ (c4 ++ c5))))).Perm (c1 ++ (c2 ++ (c3 ++ (c4 ++ (c5 ++ c0))))) := by
  have := List.perm_append_comm (l₁ := c0) (l₂ := c1 ++ (c2 ++ (c3 ++ (c4 ++ c5))))
  simpa only [List.append_assoc] using this
theorem Cut.start {S : Type} {ws wc : va_W} {wc' ws' : S → va_W} {A : Nat → Prop} {D : va_G} {H : Heap} (T : Cut ws wc wc' ws') (hP : va_P D vwCl ws H) (hD : va_D A ws) : va_P D vwCl wc H ∧ va_D A wc := by
  obtain ⟨wr, h1, -⟩ := T
  have hP1 := hP.perm h1
  have hD1 := hD.perm h1
  refine ⟨fun k q hk => hP1 k q ?_, ⟨fun i j x y hi hj hxy => hD1.1 i j x y ?_ ?_ hxy, fun k q hk => hD1.2 k q ?_⟩⟩ <;> (rw [List.getElem?_append_left (List.getElem?_eq_some_iff.mp (by assumption)).1]; assumption)
theorem Cut.join {S : Type} {ws wc : va_W} {wc' ws' : S → va_W} {A0 : Nat → Prop} {D : va_G} {H H1 : Heap} (T : Cut ws wc wc' ws') (hP : va_P D vwCl ws H) (hD : va_D A0 ws) (hk : ∀ q : Nat, q < H.size → ¬ va_A wc H.size q → H1[q]? = H[q]?) (hF : ∀ q, va_A wc H.size q → A0 q) (u : S) (hP1 : va_P D vwCl (wc' u) H1) (hD1 : va_D (va_A wc H.size) (wc' u)) : va_P D vwCl (ws' u) H1 ∧ va_D A0 (ws' u) := by
  obtain ⟨wr, h1, h2⟩ := T
  have hP2 := hP.perm h1
  have hD2 := hD.perm h1
  have at' : ∀ (k : Nat) (q : Nat × va_E), wr[k]? = some q → (wc ++ wr)[wc.length + k]? = some q := fun k q hq => by rw [List.getElem?_append_right (by omega), Nat.add_sub_cancel_left]; exact hq
  have apart : ∀ (k : Nat) (q : Nat × va_E), wr[k]? = some q → q.1 < H.size ∧ ¬ va_A wc H.size q.1 := by
    intro k q hq
    have hl := (hP2 _ q (at' k q hq)).lt
    refine ⟨hl, fun h => ?_⟩
    rcases h with ⟨k2, e, h⟩ | h
    · have h3 := (List.getElem?_eq_some_iff.mp h).1
      have := hD2.1 k2 (wc.length + k) (q.1, e) q (by rw [List.getElem?_append_left h3]; exact h) (at' k q hq) rfl
      omega
    · omega
  have hPr : va_P D vwCl wr H1 := fun k q hq => (hP2 _ q (at' k q hq)).kept (hk q.1 (apart k q hq).1 (apart k q hq).2)
  have hDr : va_D A0 wr := ⟨fun i j x y hi hj hxy => by have := hD2.1 _ _ x y (at' i x hi) (at' j y hj) hxy; omega, fun k q hq => hD2.2 _ q (at' k q hq)⟩
  exact ⟨(hP1.app hPr).perm (h2 u).symm, ((hD1.weaken (fun k q _ h => hF q.1 h)).app hDr (fun i j x y hx hy hxy => (apart j y hy).2 (by rw [← hxy]; exact hD1.2 i x hx))).perm (h2 u).symm⟩
theorem V_callVI (C : Cx p s m args meth c cc nL own ret Ts D tys A) {Cn : String} {b : Nat} {y : MethodName} {wsY wsY' : List Cond} {rmY : Room} {As : List Value} {wc : va_W} {S : Type} {post : Int32 → S → Prop} {wc' ws' : S → va_W} (hM : MetI l y wsY rmY D tys (.ref b :: As) wc post wc') {bytes : ByteArray} {maxLY idx : Nat} {retY : Option FieldType} (hw0 : wsY = Cond.code y bytes maxLY retY :: wsY') (n : Nat)
    (hG : GoodIn Ts (wsV own idx Cn y wsY)) (hd : y.cls = Cn ∧ y.cls ≠ "java/lang/invoke/MethodHandle" ∧ y.cls ≠ "java/lang/invoke/VarHandle" ∧ (parseMethodDescriptor y.desc).map (fun d => d.parameters.length) = some n) (hR : rmY.frames + 1 ≤ R.frames ∧ 8 + (maxLY + 11) + rmY.locals ≤ R.locals) (hn : As.length = n) (qr ci : Nat) {fs : List Value} {T : u_T} {N : Nat} (hrc : ws[qr]? = some (b, .inr (ci, fs))) (hci : vwCl[ci]? = some (Cn, T, N)) (hT : Cut ws wc wc' ws') {stk : List Value} (hstk : stk = As.reverse ++ .ref b :: st) (hcat : (st.map fun v => v.category).sum ≤ 8) {pc' : Nat} (hdg : decode cc pc = .ok (.invokevirtual idx, 3)) (hp : pc + 3 = pc') (hf : cells + rmY.cells ≤ R.cells ∧ slots + rmY.slots ≤ R.slots)
    (kk : ∀ (r : Int32) (u : S), post r u → V p l e R s m args below meth c nL D A Q (cells + rmY.cells) (slots + rmY.slots) (ws' u) pc' lv (.int r :: st)) : V p l e R s m args below meth c nL D A Q cells slots ws pc lv stk := by
  subst hp
  intro H locs ls hP hD hS hl
  obtain ⟨hPc, hDc⟩ := hT.start hP hD
  have hFc : ∀ q, va_A wc H.size q → A q := fun q h => by
    rcases h with ⟨k, e, h⟩ | h
    · exact hDc.2 k (q, e) h
    · exact C.2.2.2.2.2.2.1 q (Nat.le_trans hS.1 h)
  refine va_calli (va_runV (As := As) (rest := st) ⟨C.1, C.2.1, C.2.2.1, C.2.2.2.1, C.2.2.2.2.1⟩ (hM H.size) (cwV n C.2.2.2.2.1 hG hw0 rfl rfl hd hR) ⟨blindW, va_recv C.2.2.2.2.2.1 hP hci hrc, fun U hU hW => ⟨rfl, by rw [hU], by rw [hU]; exact hPc, va_K.moved hW.alike C.2.2.2.2.2.1, hDc.weaken (fun _ _ _ _ => trivial)⟩⟩ rfl hn hl.1 hstk (lv_room hcat) hdg hf) hS (fun q _ h => hFc q h) hFc (fun r u t H1 locs1 ht hvm hw hB hz1 hk1 hS1 => ?_)
  obtain ⟨hP1, hK1, hD1⟩ := hB
  rw [ht] at hP1
  obtain ⟨hP, hD⟩ := hT.join hP hD hk1 hFc u hP1 hD1
  exact kk r u hw H1 locs1 ls hP hD hS1 hl
theorem V_callSI (C : Cx p s m args meth c cc nL own ret Ts D tys A)  {y : MethodName} {wsY wsY' : List Cond} {rmY : Room} {As : List Value} {wc : va_W} {S : Type} {post : Int32 → S → Prop} {wc' ws' : S → va_W} (hM : MetI l y wsY rmY D tys (As) wc post wc') {bytes : ByteArray} {maxLY idx : Nat} {retY : Option FieldType} (hw0 : wsY = Cond.code y bytes maxLY retY :: wsY') (n : Nat)
    (hG : GoodIn Ts (va_wsS own idx y wsY)) (hd : y.cls ≠ "java/lang/invoke/MethodHandle" ∧ y.cls ≠ "java/lang/invoke/VarHandle" ∧ (parseMethodDescriptor y.desc).map (fun d => d.parameters.length) = some n) (hR : rmY.frames + 1 ≤ R.frames ∧ 8 + (maxLY + 11) + rmY.locals ≤ R.locals) (hn : As.length = n)  (hT : Cut ws wc wc' ws') {stk : List Value} (hstk : stk = As.reverse ++ st) (hcat : (st.map fun v => v.category).sum ≤ 8) {pc' : Nat} (hdg : decode cc pc = .ok (.invokestatic idx, 3)) (hp : pc + 3 = pc') (hf : cells + rmY.cells ≤ R.cells ∧ slots + rmY.slots ≤ R.slots)
    (kk : ∀ (r : Int32) (u : S), post r u → V p l e R s m args below meth c nL D A Q (cells + rmY.cells) (slots + rmY.slots) (ws' u) pc' lv (.int r :: st)) : V p l e R s m args below meth c nL D A Q cells slots ws pc lv stk := by
  subst hp
  intro H locs ls hP hD hS hl
  obtain ⟨hPc, hDc⟩ := hT.start hP hD
  have hFc : ∀ q, va_A wc H.size q → A q := fun q h => by
    rcases h with ⟨k, e, h⟩ | h
    · exact hDc.2 k (q, e) h
    · exact C.2.2.2.2.2.2.1 q (Nat.le_trans hS.1 h)
  refine va_calli (va_runS (As := As) (rest := st) ⟨C.1, C.2.1, C.2.2.1, C.2.2.2.1, C.2.2.2.2.1⟩ (hM H.size) (va_cwS n C.2.2.2.2.1 hG hw0 rfl rfl hd hR) ⟨blindW, fun U hU hW => ⟨rfl, by rw [hU], by rw [hU]; exact hPc, va_K.moved hW.alike C.2.2.2.2.2.1, hDc.weaken (fun _ _ _ _ => trivial)⟩⟩ rfl hn hl.1 hstk (lv_room hcat) hdg hf) hS (fun q _ h => hFc q h) hFc (fun r u t H1 locs1 ht hvm hw hB hz1 hk1 hS1 => ?_)
  obtain ⟨hP1, hK1, hD1⟩ := hB
  rw [ht] at hP1
  obtain ⟨hP, hD⟩ := hT.join hP hD hk1 hFc u hP1 hD1
  exact kk r u hw H1 locs1 ls hP hD hS1 hl
theorem V_callVL (C : Cx p s m args meth c cc nL own ret Ts D tys A) {Cn : String} {b : Nat} {y : MethodName} {wsY wsY' : List Cond} {rmY : Room} {As : List Value} {wc : va_W} {S : Type} {post : Int64 → S → Prop} {wc' ws' : S → va_W} (hM : MetL l y wsY rmY D tys (.ref b :: As) wc post wc') {bytes : ByteArray} {maxLY idx : Nat} {retY : Option FieldType} (hw0 : wsY = Cond.code y bytes maxLY retY :: wsY') (n : Nat)
    (hG : GoodIn Ts (wsV own idx Cn y wsY)) (hd : y.cls = Cn ∧ y.cls ≠ "java/lang/invoke/MethodHandle" ∧ y.cls ≠ "java/lang/invoke/VarHandle" ∧ (parseMethodDescriptor y.desc).map (fun d => d.parameters.length) = some n) (hR : rmY.frames + 1 ≤ R.frames ∧ 8 + (maxLY + 11) + rmY.locals ≤ R.locals) (hn : As.length = n) (qr ci : Nat) {fs : List Value} {T : u_T} {N : Nat} (hrc : ws[qr]? = some (b, .inr (ci, fs))) (hci : vwCl[ci]? = some (Cn, T, N)) (hT : Cut ws wc wc' ws') {stk : List Value} (hstk : stk = As.reverse ++ .ref b :: st) (hcat : (st.map fun v => v.category).sum ≤ 8) {pc' : Nat} (hdg : decode cc pc = .ok (.invokevirtual idx, 3)) (hp : pc + 3 = pc') (hf : cells + rmY.cells ≤ R.cells ∧ slots + rmY.slots ≤ R.slots)
    (kk : ∀ (r : Int64) (u : S), post r u → V p l e R s m args below meth c nL D A Q (cells + rmY.cells) (slots + rmY.slots) (ws' u) pc' lv (.long r :: st)) : V p l e R s m args below meth c nL D A Q cells slots ws pc lv stk := by
  subst hp
  intro H locs ls hP hD hS hl
  obtain ⟨hPc, hDc⟩ := hT.start hP hD
  have hFc : ∀ q, va_A wc H.size q → A q := fun q h => by
    rcases h with ⟨k, e, h⟩ | h
    · exact hDc.2 k (q, e) h
    · exact C.2.2.2.2.2.2.1 q (Nat.le_trans hS.1 h)
  refine va_calll (va_runV (As := As) (rest := st) ⟨C.1, C.2.1, C.2.2.1, C.2.2.2.1, C.2.2.2.2.1⟩ (hM H.size) (cwV n C.2.2.2.2.1 hG hw0 rfl rfl hd hR) ⟨blindW, va_recv C.2.2.2.2.2.1 hP hci hrc, fun U hU hW => ⟨rfl, by rw [hU], by rw [hU]; exact hPc, va_K.moved hW.alike C.2.2.2.2.2.1, hDc.weaken (fun _ _ _ _ => trivial)⟩⟩ rfl hn hl.1 hstk (lv_room hcat) hdg hf) hS (fun q _ h => hFc q h) hFc (fun r u t H1 locs1 ht hvm hw hB hz1 hk1 hS1 => ?_)
  obtain ⟨hP1, hK1, hD1⟩ := hB
  rw [ht] at hP1
  obtain ⟨hP, hD⟩ := hT.join hP hD hk1 hFc u hP1 hD1
  exact kk r u hw H1 locs1 ls hP hD hS1 hl
theorem V_callSL (C : Cx p s m args meth c cc nL own ret Ts D tys A)  {y : MethodName} {wsY wsY' : List Cond} {rmY : Room} {As : List Value} {wc : va_W} {S : Type} {post : Int64 → S → Prop} {wc' ws' : S → va_W} (hM : MetL l y wsY rmY D tys (As) wc post wc') {bytes : ByteArray} {maxLY idx : Nat} {retY : Option FieldType} (hw0 : wsY = Cond.code y bytes maxLY retY :: wsY') (n : Nat)
    (hG : GoodIn Ts (va_wsS own idx y wsY)) (hd : y.cls ≠ "java/lang/invoke/MethodHandle" ∧ y.cls ≠ "java/lang/invoke/VarHandle" ∧ (parseMethodDescriptor y.desc).map (fun d => d.parameters.length) = some n) (hR : rmY.frames + 1 ≤ R.frames ∧ 8 + (maxLY + 11) + rmY.locals ≤ R.locals) (hn : As.length = n)  (hT : Cut ws wc wc' ws') {stk : List Value} (hstk : stk = As.reverse ++ st) (hcat : (st.map fun v => v.category).sum ≤ 8) {pc' : Nat} (hdg : decode cc pc = .ok (.invokestatic idx, 3)) (hp : pc + 3 = pc') (hf : cells + rmY.cells ≤ R.cells ∧ slots + rmY.slots ≤ R.slots)
    (kk : ∀ (r : Int64) (u : S), post r u → V p l e R s m args below meth c nL D A Q (cells + rmY.cells) (slots + rmY.slots) (ws' u) pc' lv (.long r :: st)) : V p l e R s m args below meth c nL D A Q cells slots ws pc lv stk := by
  subst hp
  intro H locs ls hP hD hS hl
  obtain ⟨hPc, hDc⟩ := hT.start hP hD
  have hFc : ∀ q, va_A wc H.size q → A q := fun q h => by
    rcases h with ⟨k, e, h⟩ | h
    · exact hDc.2 k (q, e) h
    · exact C.2.2.2.2.2.2.1 q (Nat.le_trans hS.1 h)
  refine va_calll (va_runS (As := As) (rest := st) ⟨C.1, C.2.1, C.2.2.1, C.2.2.2.1, C.2.2.2.2.1⟩ (hM H.size) (va_cwS n C.2.2.2.2.1 hG hw0 rfl rfl hd hR) ⟨blindW, fun U hU hW => ⟨rfl, by rw [hU], by rw [hU]; exact hPc, va_K.moved hW.alike C.2.2.2.2.2.1, hDc.weaken (fun _ _ _ _ => trivial)⟩⟩ rfl hn hl.1 hstk (lv_room hcat) hdg hf) hS (fun q _ h => hFc q h) hFc (fun r u t H1 locs1 ht hvm hw hB hz1 hk1 hS1 => ?_)
  obtain ⟨hP1, hK1, hD1⟩ := hB
  rw [ht] at hP1
  obtain ⟨hP, hD⟩ := hT.join hP hD hk1 hFc u hP1 hD1
  exact kk r u hw H1 locs1 ls hP hD hS1 hl
theorem V_callVV (C : Cx p s m args meth c cc nL own ret Ts D tys A) {Cn : String} {b : Nat} {y : MethodName} {wsY wsY' : List Cond} {rmY : Room} {As : List Value} {wc : va_W} {S : Type} {post : S → Prop} {wc' ws' : S → va_W} (hM : MetV l y wsY rmY D tys (.ref b :: As) wc post wc') {bytes : ByteArray} {maxLY idx : Nat} {retY : Option FieldType} (hw0 : wsY = Cond.code y bytes maxLY retY :: wsY') (n : Nat)
    (hG : GoodIn Ts (wsV own idx Cn y wsY)) (hd : y.cls = Cn ∧ y.cls ≠ "java/lang/invoke/MethodHandle" ∧ y.cls ≠ "java/lang/invoke/VarHandle" ∧ (parseMethodDescriptor y.desc).map (fun d => d.parameters.length) = some n) (hR : rmY.frames + 1 ≤ R.frames ∧ 8 + (maxLY + 11) + rmY.locals ≤ R.locals) (hn : As.length = n) (qr ci : Nat) {fs : List Value} {T : u_T} {N : Nat} (hrc : ws[qr]? = some (b, .inr (ci, fs))) (hci : vwCl[ci]? = some (Cn, T, N)) (hT : Cut ws wc wc' ws') {stk : List Value} (hstk : stk = As.reverse ++ .ref b :: st) (hcat : (st.map fun v => v.category).sum ≤ 8) {pc' : Nat} (hdg : decode cc pc = .ok (.invokevirtual idx, 3)) (hp : pc + 3 = pc') (hf : cells + rmY.cells ≤ R.cells ∧ slots + rmY.slots ≤ R.slots)
    (kk : ∀ u : S, post u → V p l e R s m args below meth c nL D A Q (cells + rmY.cells) (slots + rmY.slots) (ws' u) pc' lv st) : V p l e R s m args below meth c nL D A Q cells slots ws pc lv stk := by
  subst hp
  intro H locs ls hP hD hS hl
  obtain ⟨hPc, hDc⟩ := hT.start hP hD
  have hFc : ∀ q, va_A wc H.size q → A q := fun q h => by
    rcases h with ⟨k, e, h⟩ | h
    · exact hDc.2 k (q, e) h
    · exact C.2.2.2.2.2.2.1 q (Nat.le_trans hS.1 h)
  refine va_callv (va_runV (As := As) (rest := st) ⟨C.1, C.2.1, C.2.2.1, C.2.2.2.1, C.2.2.2.2.1⟩ (hM H.size) (cwV n C.2.2.2.2.1 hG hw0 rfl rfl hd hR) ⟨blindW, va_recv C.2.2.2.2.2.1 hP hci hrc, fun U hU hW => ⟨rfl, by rw [hU], by rw [hU]; exact hPc, va_K.moved hW.alike C.2.2.2.2.2.1, hDc.weaken (fun _ _ _ _ => trivial)⟩⟩ rfl hn hl.1 hstk (lv_room hcat) hdg hf) hS (fun q _ h => hFc q h) hFc (fun u t H1 locs1 ht hvm hw hB hz1 hk1 hS1 => ?_)
  obtain ⟨hP1, hK1, hD1⟩ := hB
  rw [ht] at hP1
  obtain ⟨hP, hD⟩ := hT.join hP hD hk1 hFc u hP1 hD1
  exact kk u hw H1 locs1 ls hP hD hS1 hl
theorem V_callSV (C : Cx p s m args meth c cc nL own ret Ts D tys A)  {y : MethodName} {wsY wsY' : List Cond} {rmY : Room} {As : List Value} {wc : va_W} {S : Type} {post : S → Prop} {wc' ws' : S → va_W} (hM : MetV l y wsY rmY D tys (As) wc post wc') {bytes : ByteArray} {maxLY idx : Nat} {retY : Option FieldType} (hw0 : wsY = Cond.code y bytes maxLY retY :: wsY') (n : Nat)
    (hG : GoodIn Ts (va_wsS own idx y wsY)) (hd : y.cls ≠ "java/lang/invoke/MethodHandle" ∧ y.cls ≠ "java/lang/invoke/VarHandle" ∧ (parseMethodDescriptor y.desc).map (fun d => d.parameters.length) = some n) (hR : rmY.frames + 1 ≤ R.frames ∧ 8 + (maxLY + 11) + rmY.locals ≤ R.locals) (hn : As.length = n)  (hT : Cut ws wc wc' ws') {stk : List Value} (hstk : stk = As.reverse ++ st) (hcat : (st.map fun v => v.category).sum ≤ 8) {pc' : Nat} (hdg : decode cc pc = .ok (.invokestatic idx, 3)) (hp : pc + 3 = pc') (hf : cells + rmY.cells ≤ R.cells ∧ slots + rmY.slots ≤ R.slots)
    (kk : ∀ u : S, post u → V p l e R s m args below meth c nL D A Q (cells + rmY.cells) (slots + rmY.slots) (ws' u) pc' lv st) : V p l e R s m args below meth c nL D A Q cells slots ws pc lv stk := by
  subst hp
  intro H locs ls hP hD hS hl
  obtain ⟨hPc, hDc⟩ := hT.start hP hD
  have hFc : ∀ q, va_A wc H.size q → A q := fun q h => by
    rcases h with ⟨k, e, h⟩ | h
    · exact hDc.2 k (q, e) h
    · exact C.2.2.2.2.2.2.1 q (Nat.le_trans hS.1 h)
  refine va_callv (va_runS (As := As) (rest := st) ⟨C.1, C.2.1, C.2.2.1, C.2.2.2.1, C.2.2.2.2.1⟩ (hM H.size) (va_cwS n C.2.2.2.2.1 hG hw0 rfl rfl hd hR) ⟨blindW, fun U hU hW => ⟨rfl, by rw [hU], by rw [hU]; exact hPc, va_K.moved hW.alike C.2.2.2.2.2.1, hDc.weaken (fun _ _ _ _ => trivial)⟩⟩ rfl hn hl.1 hstk (lv_room hcat) hdg hf) hS (fun q _ h => hFc q h) hFc (fun u t H1 locs1 ht hvm hw hB hz1 hk1 hS1 => ?_)
  obtain ⟨hP1, hK1, hD1⟩ := hB
  rw [ht] at hP1
  obtain ⟨hP, hD⟩ := hT.join hP hD hk1 hFc u hP1 hD1
  exact kk u hw H1 locs1 ls hP hD hS1 hl
theorem V_callCV (C : Cx p s m args meth c cc nL own ret Ts D tys A) {b : Nat} {y : MethodName} {wsY wsY' : List Cond} {rmY : Room} {As : List Value} {wc : va_W} {S : Type} {post : S → Prop} {wc' ws' : S → va_W} (hM : MetV l y wsY rmY D tys (.ref b :: As) wc post wc') {bytes : ByteArray} {maxLY idx : Nat} {retY : Option FieldType} (hw0 : wsY = Cond.code y bytes maxLY none :: wsY') (n : Nat)
    (hG : GoodIn Ts wsY) (hini : Cond.initialized y.cls ∈ Ts) (hlk : Cond.methodLink own idx y ∈ Ts) (him : Cond.instanceMethod y ∈ Ts) (hy1 : y.name = "<init>") (hd : y.cls ≠ "java/lang/invoke/MethodHandle" ∧ y.cls ≠ "java/lang/invoke/VarHandle" ∧ (parseMethodDescriptor y.desc).map (fun d => d.parameters.length) = some n) (hR : rmY.frames + 1 ≤ R.frames ∧ 8 + (maxLY + 11) + rmY.locals ≤ R.locals) (hn : As.length = n)  (hT : Cut ws wc wc' ws') {stk : List Value} (hstk : stk = As.reverse ++ .ref b :: st) (hcat : (st.map fun v => v.category).sum ≤ 8) {pc' : Nat} (hdg : decode cc pc = .ok (.invokespecial idx, 3)) (hp : pc + 3 = pc') (hf : cells + rmY.cells ≤ R.cells ∧ slots + rmY.slots ≤ R.slots)
    (kk : ∀ u : S, post u → V p l e R s m args below meth c nL D A Q (cells + rmY.cells) (slots + rmY.slots) (ws' u) pc' lv st) : V p l e R s m args below meth c nL D A Q cells slots ws pc lv stk := by
  subst hp
  intro H locs ls hP hD hS hl
  obtain ⟨hPc, hDc⟩ := hT.start hP hD
  have hFc : ∀ q, va_A wc H.size q → A q := fun q h => by
    rcases h with ⟨k, e, h⟩ | h
    · exact hDc.2 k (q, e) h
    · exact C.2.2.2.2.2.2.1 q (Nat.le_trans hS.1 h)
  refine va_callv (va_runI (As := As) (rest := st) ⟨C.1, C.2.1, C.2.2.1, C.2.2.2.1, C.2.2.2.2.1⟩ (hM H.size) (cwI n C.2.2.2.2.1 hG hw0 rfl rfl (C.2.2.2.2.1 _ hini) (C.2.2.2.2.1 _ hlk) (C.2.2.2.2.1 _ him) hy1 hd hR) ⟨blindW, fun U hU hW => ⟨rfl, by rw [hU], by rw [hU]; exact hPc, va_K.moved hW.alike C.2.2.2.2.2.1, hDc.weaken (fun _ _ _ _ => trivial)⟩⟩ rfl hn hl.1 hstk (lv_room hcat) hdg hf) hS (fun q _ h => hFc q h) hFc (fun u t H1 locs1 ht hvm hw hB hz1 hk1 hS1 => ?_)
  obtain ⟨hP1, hK1, hD1⟩ := hB
  rw [ht] at hP1
  obtain ⟨hP, hD⟩ := hT.join hP hD hk1 hFc u hP1 hD1
  exact kk u hw H1 locs1 ls hP hD hS1 hl
theorem V_cVI (C : Cx p s m args meth c cc nL own ret Ts D tys A) {Cn : String} {b : Nat} {y : MethodName} {wsY wsY' : List Cond} {rmY : Room} {As : List Value} {wc : va_W} {r0 : Int32} {wc' ws' : va_W} (hM : MetI l y wsY rmY D tys (.ref b :: As) wc (fun r (_ : Unit) => r = r0) (fun _ => wc')) {bytes : ByteArray} {maxLY idx : Nat} {retY : Option FieldType} (hw0 : wsY = Cond.code y bytes maxLY retY :: wsY') (n : Nat)
    (hG : GoodIn Ts (wsV own idx Cn y wsY)) (hd : y.cls = Cn ∧ y.cls ≠ "java/lang/invoke/MethodHandle" ∧ y.cls ≠ "java/lang/invoke/VarHandle" ∧ (parseMethodDescriptor y.desc).map (fun d => d.parameters.length) = some n) (hR : rmY.frames + 1 ≤ R.frames ∧ 8 + (maxLY + 11) + rmY.locals ≤ R.locals) (hn : As.length = n) (qr ci : Nat) {fs : List Value} {T : u_T} {N : Nat} (hrc : ws[qr]? = some (b, .inr (ci, fs))) (hci : vwCl[ci]? = some (Cn, T, N)) (hT : Cut ws wc (fun _ : Unit => wc') (fun _ => ws')) {stk : List Value} (hstk : stk = As.reverse ++ .ref b :: st) (hcat : (st.map fun v => v.category).sum ≤ 8) {pc' : Nat} (hdg : decode cc pc = .ok (.invokevirtual idx, 3)) (hp : pc + 3 = pc') (hf : cells + rmY.cells ≤ R.cells ∧ slots + rmY.slots ≤ R.slots)
    (kk : V p l e R s m args below meth c nL D A Q (cells + rmY.cells) (slots + rmY.slots) ws' pc' lv (.int r0 :: st)) : V p l e R s m args below meth c nL D A Q cells slots ws pc lv stk :=
  V_callVI C hM hw0 n hG hd hR hn qr ci hrc hci hT hstk hcat hdg hp hf (fun r u hr => by subst hr; exact kk)
theorem V_cSI (C : Cx p s m args meth c cc nL own ret Ts D tys A)  {y : MethodName} {wsY wsY' : List Cond} {rmY : Room} {As : List Value} {wc : va_W} {r0 : Int32} {wc' ws' : va_W} (hM : MetI l y wsY rmY D tys (As) wc (fun r (_ : Unit) => r = r0) (fun _ => wc')) {bytes : ByteArray} {maxLY idx : Nat} {retY : Option FieldType} (hw0 : wsY = Cond.code y bytes maxLY retY :: wsY') (n : Nat)
    (hG : GoodIn Ts (va_wsS own idx y wsY)) (hd : y.cls ≠ "java/lang/invoke/MethodHandle" ∧ y.cls ≠ "java/lang/invoke/VarHandle" ∧ (parseMethodDescriptor y.desc).map (fun d => d.parameters.length) = some n) (hR : rmY.frames + 1 ≤ R.frames ∧ 8 + (maxLY + 11) + rmY.locals ≤ R.locals) (hn : As.length = n)  (hT : Cut ws wc (fun _ : Unit => wc') (fun _ => ws')) {stk : List Value} (hstk : stk = As.reverse ++ st) (hcat : (st.map fun v => v.category).sum ≤ 8) {pc' : Nat} (hdg : decode cc pc = .ok (.invokestatic idx, 3)) (hp : pc + 3 = pc') (hf : cells + rmY.cells ≤ R.cells ∧ slots + rmY.slots ≤ R.slots)
    (kk : V p l e R s m args below meth c nL D A Q (cells + rmY.cells) (slots + rmY.slots) ws' pc' lv (.int r0 :: st)) : V p l e R s m args below meth c nL D A Q cells slots ws pc lv stk :=
  V_callSI C hM hw0 n hG hd hR hn hT hstk hcat hdg hp hf (fun r u hr => by subst hr; exact kk)
theorem V_cVL (C : Cx p s m args meth c cc nL own ret Ts D tys A) {Cn : String} {b : Nat} {y : MethodName} {wsY wsY' : List Cond} {rmY : Room} {As : List Value} {wc : va_W} {r0 : Int64} {wc' ws' : va_W} (hM : MetL l y wsY rmY D tys (.ref b :: As) wc (fun r (_ : Unit) => r = r0) (fun _ => wc')) {bytes : ByteArray} {maxLY idx : Nat} {retY : Option FieldType} (hw0 : wsY = Cond.code y bytes maxLY retY :: wsY') (n : Nat)
    (hG : GoodIn Ts (wsV own idx Cn y wsY)) (hd : y.cls = Cn ∧ y.cls ≠ "java/lang/invoke/MethodHandle" ∧ y.cls ≠ "java/lang/invoke/VarHandle" ∧ (parseMethodDescriptor y.desc).map (fun d => d.parameters.length) = some n) (hR : rmY.frames + 1 ≤ R.frames ∧ 8 + (maxLY + 11) + rmY.locals ≤ R.locals) (hn : As.length = n) (qr ci : Nat) {fs : List Value} {T : u_T} {N : Nat} (hrc : ws[qr]? = some (b, .inr (ci, fs))) (hci : vwCl[ci]? = some (Cn, T, N)) (hT : Cut ws wc (fun _ : Unit => wc') (fun _ => ws')) {stk : List Value} (hstk : stk = As.reverse ++ .ref b :: st) (hcat : (st.map fun v => v.category).sum ≤ 8) {pc' : Nat} (hdg : decode cc pc = .ok (.invokevirtual idx, 3)) (hp : pc + 3 = pc') (hf : cells + rmY.cells ≤ R.cells ∧ slots + rmY.slots ≤ R.slots)
    (kk : V p l e R s m args below meth c nL D A Q (cells + rmY.cells) (slots + rmY.slots) ws' pc' lv (.long r0 :: st)) : V p l e R s m args below meth c nL D A Q cells slots ws pc lv stk :=
  V_callVL C hM hw0 n hG hd hR hn qr ci hrc hci hT hstk hcat hdg hp hf (fun r u hr => by subst hr; exact kk)
theorem V_cSL (C : Cx p s m args meth c cc nL own ret Ts D tys A)  {y : MethodName} {wsY wsY' : List Cond} {rmY : Room} {As : List Value} {wc : va_W} {r0 : Int64} {wc' ws' : va_W} (hM : MetL l y wsY rmY D tys (As) wc (fun r (_ : Unit) => r = r0) (fun _ => wc')) {bytes : ByteArray} {maxLY idx : Nat} {retY : Option FieldType} (hw0 : wsY = Cond.code y bytes maxLY retY :: wsY') (n : Nat)
    (hG : GoodIn Ts (va_wsS own idx y wsY)) (hd : y.cls ≠ "java/lang/invoke/MethodHandle" ∧ y.cls ≠ "java/lang/invoke/VarHandle" ∧ (parseMethodDescriptor y.desc).map (fun d => d.parameters.length) = some n) (hR : rmY.frames + 1 ≤ R.frames ∧ 8 + (maxLY + 11) + rmY.locals ≤ R.locals) (hn : As.length = n)  (hT : Cut ws wc (fun _ : Unit => wc') (fun _ => ws')) {stk : List Value} (hstk : stk = As.reverse ++ st) (hcat : (st.map fun v => v.category).sum ≤ 8) {pc' : Nat} (hdg : decode cc pc = .ok (.invokestatic idx, 3)) (hp : pc + 3 = pc') (hf : cells + rmY.cells ≤ R.cells ∧ slots + rmY.slots ≤ R.slots)
    (kk : V p l e R s m args below meth c nL D A Q (cells + rmY.cells) (slots + rmY.slots) ws' pc' lv (.long r0 :: st)) : V p l e R s m args below meth c nL D A Q cells slots ws pc lv stk :=
  V_callSL C hM hw0 n hG hd hR hn hT hstk hcat hdg hp hf (fun r u hr => by subst hr; exact kk)
theorem V_cVV (C : Cx p s m args meth c cc nL own ret Ts D tys A) {Cn : String} {b : Nat} {y : MethodName} {wsY wsY' : List Cond} {rmY : Room} {As : List Value} {wc : va_W} {wc' ws' : va_W} (hM : MetV l y wsY rmY D tys (.ref b :: As) wc (fun _ : Unit => True) (fun _ => wc')) {bytes : ByteArray} {maxLY idx : Nat} {retY : Option FieldType} (hw0 : wsY = Cond.code y bytes maxLY retY :: wsY') (n : Nat)
    (hG : GoodIn Ts (wsV own idx Cn y wsY)) (hd : y.cls = Cn ∧ y.cls ≠ "java/lang/invoke/MethodHandle" ∧ y.cls ≠ "java/lang/invoke/VarHandle" ∧ (parseMethodDescriptor y.desc).map (fun d => d.parameters.length) = some n) (hR : rmY.frames + 1 ≤ R.frames ∧ 8 + (maxLY + 11) + rmY.locals ≤ R.locals) (hn : As.length = n) (qr ci : Nat) {fs : List Value} {T : u_T} {N : Nat} (hrc : ws[qr]? = some (b, .inr (ci, fs))) (hci : vwCl[ci]? = some (Cn, T, N)) (hT : Cut ws wc (fun _ : Unit => wc') (fun _ => ws')) {stk : List Value} (hstk : stk = As.reverse ++ .ref b :: st) (hcat : (st.map fun v => v.category).sum ≤ 8) {pc' : Nat} (hdg : decode cc pc = .ok (.invokevirtual idx, 3)) (hp : pc + 3 = pc') (hf : cells + rmY.cells ≤ R.cells ∧ slots + rmY.slots ≤ R.slots)
    (kk : V p l e R s m args below meth c nL D A Q (cells + rmY.cells) (slots + rmY.slots) ws' pc' lv st) : V p l e R s m args below meth c nL D A Q cells slots ws pc lv stk :=
  V_callVV C hM hw0 n hG hd hR hn qr ci hrc hci hT hstk hcat hdg hp hf (fun u _ => kk)
theorem V_cSV (C : Cx p s m args meth c cc nL own ret Ts D tys A)  {y : MethodName} {wsY wsY' : List Cond} {rmY : Room} {As : List Value} {wc : va_W} {wc' ws' : va_W} (hM : MetV l y wsY rmY D tys (As) wc (fun _ : Unit => True) (fun _ => wc')) {bytes : ByteArray} {maxLY idx : Nat} {retY : Option FieldType} (hw0 : wsY = Cond.code y bytes maxLY retY :: wsY') (n : Nat)
    (hG : GoodIn Ts (va_wsS own idx y wsY)) (hd : y.cls ≠ "java/lang/invoke/MethodHandle" ∧ y.cls ≠ "java/lang/invoke/VarHandle" ∧ (parseMethodDescriptor y.desc).map (fun d => d.parameters.length) = some n) (hR : rmY.frames + 1 ≤ R.frames ∧ 8 + (maxLY + 11) + rmY.locals ≤ R.locals) (hn : As.length = n)  (hT : Cut ws wc (fun _ : Unit => wc') (fun _ => ws')) {stk : List Value} (hstk : stk = As.reverse ++ st) (hcat : (st.map fun v => v.category).sum ≤ 8) {pc' : Nat} (hdg : decode cc pc = .ok (.invokestatic idx, 3)) (hp : pc + 3 = pc') (hf : cells + rmY.cells ≤ R.cells ∧ slots + rmY.slots ≤ R.slots)
    (kk : V p l e R s m args below meth c nL D A Q (cells + rmY.cells) (slots + rmY.slots) ws' pc' lv st) : V p l e R s m args below meth c nL D A Q cells slots ws pc lv stk :=
  V_callSV C hM hw0 n hG hd hR hn hT hstk hcat hdg hp hf (fun u _ => kk)
theorem some_inv {α : Type} {a o : α} (h : some a = some o) : a = o := Option.some.inj h
def jn {T β : Type} (J : T) (body : T → Option β) : Option β := body J
theorem jn_elim {T β : Type} {J : T} {body : T → Option β} {o : β} {G : Prop} (h : jn J body = some o) (P : T → Prop) (hJ : P J) (hk : ∀ J', P J' → body J' = some o → G) : G := hk J hJ h
def bd {α β : Type} (a : α) (k : α → Option β) : Option β := k a
theorem bd_inv {α β : Type} {a y : α} {k : α → Option β} {o : β} (ey : y = a) (h : bd a k = some o) : k y = some o := by subst ey; exact h
theorem V_topi {x : Int32} (k : ∀ y : Int32, y = x → V p l e R s m args below meth c nL D A Q cells slots ws pc lv (.int y :: st)) : V p l e R s m args below meth c nL D A Q cells slots ws pc lv (.int x :: st) := k x rfl
theorem V_topl {x : Int64} (k : ∀ y : Int64, y = x → V p l e R s m args below meth c nL D A Q cells slots ws pc lv (.long y :: st)) : V p l e R s m args below meth c nL D A Q cells slots ws pc lv (.long x :: st) := k x rfl
theorem V_tableIn (C : Cx p s m args meth c cc nL own ret Ts D tys A) {dflt lo hi : Int} {offs : Array Int} {len : Nat} {x v : Int32} {off : Int} {tgt : Nat} (hx : x = v) (hdg : decode cc pc = .ok (.tableswitch dflt lo hi offs, len)) (h1 : ¬ v.toInt < lo) (h2 : ¬ hi < v.toInt) (ho : offs[(v.toInt - lo).toNat]? = some off) (ht : (pc : Int) + off = (tgt : Int))
    (kk : V p l e R s m args below meth c nL D A Q cells slots ws tgt lv st) : V p l e R s m args below meth c nL D A Q cells slots ws pc lv (.int x :: st) := by
  subst hx
  exact fun H locs ls hP hD hS hl => lv_tableIn C.1 C.2.1 hdg h1 h2 ho ht (kk H locs ls hP hD hS hl)
theorem V_tableOut (C : Cx p s m args meth c cc nL own ret Ts D tys A) {dflt lo hi : Int} {offs : Array Int} {len : Nat} {x : Int32} {tgt : Nat} (hdg : decode cc pc = .ok (.tableswitch dflt lo hi offs, len)) (h : x.toInt < lo ∨ hi < x.toInt) (ht : (pc : Int) + dflt = (tgt : Int))
    (kk : V p l e R s m args below meth c nL D A Q cells slots ws tgt lv st) : V p l e R s m args below meth c nL D A Q cells slots ws pc lv (.int x :: st) := fun H locs ls hP hD hS hl => lv_tableOut C.1 C.2.1 hdg h ht (kk H locs ls hP hD hS hl)
theorem tb_out {lo hi : Int} {x : Int32} (h : ∀ k : Int, lo ≤ k → k ≤ hi → ¬ x = Int32.ofInt k) : x.toInt < lo ∨ hi < x.toInt := by
  by_cases h1 : x.toInt < lo
  · exact Or.inl h1
  · by_cases h2 : hi < x.toInt
    · exact Or.inr h2
    · exact absurd (Int32.ofInt_toInt x).symm (h x.toInt (Int.not_lt.mp h1) (Int.not_lt.mp h2))
end VV
