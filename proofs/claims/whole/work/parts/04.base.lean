/-! ===== the judgement J: the machine at a pc, with locals, a stack and a world, in any heap that holds the world ===== -/
abbrev St : Type := (Nat → Nat → Int32) × (Nat → Nat → Int64)
def sI (σ : St) (k j : Nat) (v : Int32) : St := (va_up σ.1 k (upd (σ.1 k) j v), σ.2)
def sL (σ : St) (k j : Nat) (v : Int64) : St := (σ.1, va_up σ.2 k (vp_updL (σ.2 k) j v))
def sR (σ : St) (k : Nat) (f : Nat → Int32) : St := (va_up σ.1 k f, σ.2)
def zok (r : Int32) : Prop := r = 0 ∨ r = 1
def qok (n : Nat) (q : Nat → Nat) : Prop := ∀ i j, i < n → j < n → q i = q j → i = j
def J (p : Program) (l : Launch) (e : Env) (R : Room) (s : State) (m : MethodId) (args : Array Value) (below : List Frame) (meth : Method) (c : Code) (Qm : State → Prop) (D : va_G) (A : Nat → Prop) (nL cells slots : Nat) (ws : va_W) (pc : Nat) (lv : List (Nat × Value)) (st : List Value) : Prop :=
  ∀ (H : Heap) (locs : List Loc) (ls : Array Slot), va_P D vwCl ws H → va_D A ws → va_S A s.heap H locs → lv_has ls nL lv → W p l e R s m args below meth c H locs cells slots Qm (F0 m pc ls st)
def Cx (p : Program) (s : State) (m : MethodId) (args : Array Value) (meth : Method) (c : Code) (cc : ByteArray) (nL : Nat) (own : String) (ret : Option FieldType) (D : va_G) (tys : List (ClassId × FieldType)) (Z : State → Heap → Prop) : Prop :=
  p.tables.exec = Jvm.exec ∧ c.code = cc ∧ c.maxLocals = nL ∧ s.vm.findClass own = some m.cls ∧ (∀ w ∈ wAll, w.before args s = true) ∧ va_K D vwCl tys s ∧ Z s s.heap ∧ meth.sig.returnType = ret ∧ meth.locks = false
def PW (D : va_G) (tys : List (ClassId × FieldType)) (Z : State → Heap → Prop) (ws : va_W) (U : State) : Prop := va_P D vwCl ws U.heap ∧ va_K D vwCl tys U ∧ Z U U.heap
def BW (D : va_G) (wf : St → va_W) (u : St) (t : State) : Prop := va_P D vwCl (wf u) t.heap
/-- what a kind of world must keep: its cells are apart and lie in A; what Z says lasts -/
def Env_ok (Z : State → Heap → Prop) (wf : St → va_W) (A : Nat → Prop) : Prop :=
  (∀ σ, va_D A (wf σ)) ∧ (∀ (u U : State) (H : Heap), u.vm.Alike U.vm → Z u H → Z U H) ∧ ∀ (U : State) (H H1 : Heap), Z U H → (∀ a : Nat, a < H.size → ¬ A a → H1[a]? = H[a]?) → Z U H1
/-- a method's contract over a kind of world: out of σ it comes with an answer and a state for which Q holds -/
def Mi (l : Launch) (y : MethodName) (bytes : ByteArray) (maxL : Nat) (rt : Option FieldType) (rm : Room) (D : va_G) (tys : List (ClassId × FieldType)) (Z : State → Heap → Prop) (wf : St → va_W) (A : Nat → Prop) (As : List Value) (σ : St) (Q : Int32 → St → Prop) : Prop :=
  Met l y (.code y bytes maxL rt :: wAll) rm (va_Pc As (PW D tys Z (wf σ))) (va_Qi Q (BW D wf) A) 0 0 A
def Ml (l : Launch) (y : MethodName) (bytes : ByteArray) (maxL : Nat) (rt : Option FieldType) (rm : Room) (D : va_G) (tys : List (ClassId × FieldType)) (Z : State → Heap → Prop) (wf : St → va_W) (A : Nat → Prop) (As : List Value) (σ : St) (Q : Int64 → St → Prop) : Prop :=
  Met l y (.code y bytes maxL rt :: wAll) rm (va_Pc As (PW D tys Z (wf σ))) (va_Ql Q (BW D wf) A) 0 0 A
def Mv (l : Launch) (y : MethodName) (bytes : ByteArray) (maxL : Nat) (rt : Option FieldType) (rm : Room) (D : va_G) (tys : List (ClassId × FieldType)) (Z : State → Heap → Prop) (wf : St → va_W) (A : Nat → Prop) (As : List Value) (σ : St) (Q : St → Prop) : Prop :=
  Met l y (.code y bytes maxL rt :: wAll) rm (va_Pc As (PW D tys Z (wf σ))) (va_Qv Q (BW D wf) A) 0 0 A
theorem va_Pc_blind {As : List Value} {D : va_G} {tys : List (ClassId × FieldType)} {Z : State → Heap → Prop} {ws : va_W} (hm : ∀ (u U : State) (H : Heap), u.vm.Alike U.vm → Z u H → Z U H) : FrameBlind (va_Pc As (PW D tys Z ws)) := fun a U g mk h => ⟨h.1, h.2.1, va_K.moved (u := U) (U := U.calling g mk a) (Vm.Alike.refl U.vm) h.2.2.1, hm U (U.calling g mk a) U.heap (Vm.Alike.refl U.vm) h.2.2.2⟩
section JR
variable {p : Program} {l : Launch} {e : Env} {R : Room} {s : State} {m : MethodId} {args : Array Value} {below : List Frame} {meth : Method} {c : Code} {Qm : State → Prop} {D : va_G} {A : Nat → Prop} {nL cells slots : Nat} {cc : ByteArray} {own : String} {ret : Option FieldType} {tys : List (ClassId × FieldType)} {Z : State → Heap → Prop} {ws : va_W} {pc pc' : Nat} {lv lv' : List (Nat × Value)} {st : List Value}
theorem j_ofW {y : MethodName} {ws ws' : List Cond} {rm : Room} {Pc : Array Value → State → Prop} {Qc : Array Value → State → Outcome → State → Prop} {mc ms : Nat} {free : Addr → Prop} {maxL : Nat} {rt : Option FieldType}
    (hy : plainFor y = true) (hw : ws = Cond.code y cc maxL rt :: ws')
    (body : ∀ p e s m args below meth c s₁, BodyLoose p l y (headSpec ws rm) cc maxL rt e s m args below meth c s₁ → c.maxLocals = maxL → Pc args s →
      W p l e rm s m args below meth c s.heap [] 0 0 (MQ below Qc args s mc ms free) (entryFrame m args maxL)) : Met l y ws rm Pc Qc mc ms free := by
  refine MetFree.of_bodySF (code := cc) (maxLocals := maxL) (ret := rt) hy ?_ ?_
  · intro args s m h hn
    obtain ⟨meth, c, h1, h2, h3, h4, h5, h6, -, -⟩ := Cond.code_spec hn (atoms_spec (ws := ws) h _ (by rw [hw]; exact List.mem_cons_self))
    exact ⟨meth, c, h1, h2, h3, h4, h5, h6⟩
  · intro p e s m args below meth c s₁ B hml hP _
    have hh0 : s₁.heap = s.heap := by rw [B.state]; rfl
    obtain ⟨t, a1, o, b1, b2, b3⟩ := body p e s m args below meth c s₁ B hml hP s₁ hh0 (Stand.of_body B)
    exact ⟨t, o, a1, b1, b2, ⟨b3.1, b3.2⟩⟩
theorem j_start {y : MethodName} {maxL : Nat} {rt : Option FieldType} {rm : Room} {w : va_W} {Qc : Array Value → State → Outcome → State → Prop} (As : List Value) (hy : plainFor y = true) (ho : y.cls = own) (hD : va_D A w) (hl : (lg_sl As).length ≤ maxL) (hlv : lv_args 0 As = lv)
    (body : ∀ (p : Program) (e : Env) (s : State) (m : MethodId) (args : Array Value) (below : List Frame) (meth : Method) (c : Code), Cx p s m args meth c cc maxL own rt D tys Z → J p l e rm s m args below meth c (MQ below Qc args s 0 0 A) D A maxL 0 0 w 0 lv []) :
    Met l y (.code y cc maxL rt :: wAll) rm (va_Pc As (PW D tys Z w)) Qc 0 0 A := by
  subst ho
  refine j_ofW (cc := cc) (maxL := maxL) (rt := rt) hy rfl ?_
  intro p e s m args below meth c s₁ B hml hv
  obtain ⟨rfl, hP, hK, hZ⟩ := hv
  have hts := atoms_spec (ws := Cond.code y cc maxL rt :: wAll) B.pre
  have hC : Cx p s m As.toArray meth c cc maxL y.cls rt D tys Z := ⟨B.exec, B.bytes, hml, findClass_of_methodNamed B.named, fun w h => hts w (List.mem_cons_of_mem _ h), hK, hZ, B.returns, B.notSynchronized⟩
  have hl2 := lv_entry As (n := maxL) hl
  rw [lg_entry_eq]
  exact body p e s m _ below meth c hC s.heap [] _ hP hD va_S.rf (hlv ▸ hl2)

theorem j_iconst (h : Cx p s m args meth c cc nL own ret D tys Z) {n : Int} {v : Int32} (hd : decode cc pc = .ok (.iconst n, 1)) (hp : pc + 1 = pc') (hv : Int32.ofInt n = v) (k : J p l e R s m args below meth c Qm D A nL cells slots ws pc' lv (.int v :: st)) : J p l e R s m args below meth c Qm D A nL cells slots ws pc lv st := by
  subst hp
  exact fun H locs ls hP hD hS hl => lv_iconst h.1 h.2.1 hd hv (k H locs ls hP hD hS hl)
theorem j_bipush (h : Cx p s m args meth c cc nL own ret D tys Z) {n : Int} {v : Int32} (hd : decode cc pc = .ok (.bipush n, 2)) (hp : pc + 2 = pc') (hv : (Int8.ofInt n).toInt32 = v) (k : J p l e R s m args below meth c Qm D A nL cells slots ws pc' lv (.int v :: st)) : J p l e R s m args below meth c Qm D A nL cells slots ws pc lv st := by
  subst hp
  exact fun H locs ls hP hD hS hl => lv_bipush h.1 h.2.1 hd hv (k H locs ls hP hD hS hl)
theorem j_sipush (h : Cx p s m args meth c cc nL own ret D tys Z) {n : Int} {v : Int32} (hd : decode cc pc = .ok (.sipush n, 3)) (hp : pc + 3 = pc') (hv : (Int16.ofInt n).toInt32 = v) (k : J p l e R s m args below meth c Qm D A nL cells slots ws pc' lv (.int v :: st)) : J p l e R s m args below meth c Qm D A nL cells slots ws pc lv st := by
  subst hp
  exact fun H locs ls hP hD hS hl => lv_sipush h.1 h.2.1 hd hv (k H locs ls hP hD hS hl)
theorem j_lconst (h : Cx p s m args meth c cc nL own ret D tys Z) {n : Fin 2} {v : Int64} (hd : decode cc pc = .ok (.lconst n, 1)) (hp : pc + 1 = pc') (hv : Int64.ofNat (n : Nat) = v) (k : J p l e R s m args below meth c Qm D A nL cells slots ws pc' lv (.long v :: st)) : J p l e R s m args below meth c Qm D A nL cells slots ws pc lv st := by
  subst hp
  exact fun H locs ls hP hD hS hl => lv_lconst h.1 h.2.1 hd hv (k H locs ls hP hD hS hl)
theorem j_ldc (h : Cx p s m args meth c cc nL own ret D tys Z) {index : Nat} {v : Int32} (hd : decode cc pc = .ok (.ldc index, 2)) (hp : pc + 2 = pc') (hw : Cond.constant own index v ∈ wAll) (k : J p l e R s m args below meth c Qm D A nL cells slots ws pc' lv (.int v :: st)) : J p l e R s m args below meth c Qm D A nL cells slots ws pc lv st := by
  subst hp
  exact fun H locs ls hP hD hS hl => lv_ldc h.1 h.2.1 h.2.2.2.1 (h.2.2.2.2.1 _ hw) hd (k H locs ls hP hD hS hl)
theorem j_ldcw (h : Cx p s m args meth c cc nL own ret D tys Z) {index : Nat} {v : Int32} (hd : decode cc pc = .ok (.ldc_w index, 3)) (hp : pc + 3 = pc') (hw : Cond.constant own index v ∈ wAll) (k : J p l e R s m args below meth c Qm D A nL cells slots ws pc' lv (.int v :: st)) : J p l e R s m args below meth c Qm D A nL cells slots ws pc lv st := by
  subst hp
  exact fun H locs ls hP hD hS hl => lv_ldcw h.1 h.2.1 h.2.2.2.1 (h.2.2.2.2.1 _ hw) hd (k H locs ls hP hD hS hl)
theorem j_ldc2 (h : Cx p s m args meth c cc nL own ret D tys Z) {index : Nat} {v : Int64} (hd : decode cc pc = .ok (.ldc2_w index, 3)) (hp : pc + 3 = pc') (hw : Cond.constantLong own index v ∈ wAll) (k : J p l e R s m args below meth c Qm D A nL cells slots ws pc' lv (.long v :: st)) : J p l e R s m args below meth c Qm D A nL cells slots ws pc lv st := by
  subst hp
  exact fun H locs ls hP hD hS hl => lv_ldc2 h.1 h.2.1 h.2.2.2.1 (h.2.2.2.2.1 _ hw) hd (k H locs ls hP hD hS hl)
theorem j_iload_n (h : Cx p s m args meth c cc nL own ret D tys Z) {i : Fin 4} {x : Int32} (q : Nat) (hd : decode cc pc = .ok (.iload_n i, 1)) (hp : pc + 1 = pc') (hq : lv[q]? = some ((i : Nat), .int x)) (k : J p l e R s m args below meth c Qm D A nL cells slots ws pc' lv (.int x :: st)) : J p l e R s m args below meth c Qm D A nL cells slots ws pc lv st := by
  subst hp
  exact fun H locs ls hP hD hS hl => lv_iload_n h.1 h.2.1 hd rfl (lv_at hl q hq) (k H locs ls hP hD hS hl)
theorem j_iload (h : Cx p s m args meth c cc nL own ret D tys Z) {i : Nat} {x : Int32} (q : Nat) (hd : decode cc pc = .ok (.iload i, 2)) (hp : pc + 2 = pc') (hq : lv[q]? = some (i, .int x)) (k : J p l e R s m args below meth c Qm D A nL cells slots ws pc' lv (.int x :: st)) : J p l e R s m args below meth c Qm D A nL cells slots ws pc lv st := by
  subst hp
  exact fun H locs ls hP hD hS hl => lv_iload h.1 h.2.1 hd (lv_at hl q hq) (k H locs ls hP hD hS hl)
theorem j_istore_n (h : Cx p s m args meth c cc nL own ret D tys Z) {n4 : Fin 4} {i : Nat} {x : Int32} (hd : decode cc pc = .ok (.istore_n n4, 1)) (hp : pc + 1 = pc') (hi : (n4 : Nat) = i) (hn : i < nL) (hf : (i, Value.int x) :: lv.filter (fun q => !(q.1 == i) && !(q.1 + 1 == i && q.2.category == 2)) = lv') (k : J p l e R s m args below meth c Qm D A nL cells slots ws pc' lv' st) : J p l e R s m args below meth c Qm D A nL cells slots ws pc lv (.int x :: st) := by
  subst hp
  exact fun H locs ls hP hD hS hl => lv_istore_n h.1 h.2.1 hd hi hl hn hf (fun ls hl => k H locs ls hP hD hS hl)
theorem j_istore (h : Cx p s m args meth c cc nL own ret D tys Z) {i : Nat} {x : Int32} (hd : decode cc pc = .ok (.istore i, 2)) (hp : pc + 2 = pc') (hn : i < nL) (hf : (i, Value.int x) :: lv.filter (fun q => !(q.1 == i) && !(q.1 + 1 == i && q.2.category == 2)) = lv') (k : J p l e R s m args below meth c Qm D A nL cells slots ws pc' lv' st) : J p l e R s m args below meth c Qm D A nL cells slots ws pc lv (.int x :: st) := by
  subst hp
  exact fun H locs ls hP hD hS hl => lv_istore h.1 h.2.1 hd hl hn hf (fun ls hl => k H locs ls hP hD hS hl)
theorem j_lload_n (h : Cx p s m args meth c cc nL own ret D tys Z) {i : Fin 4} {x : Int64} (q : Nat) (hd : decode cc pc = .ok (.lload_n i, 1)) (hp : pc + 1 = pc') (hq : lv[q]? = some ((i : Nat), .long x)) (k : J p l e R s m args below meth c Qm D A nL cells slots ws pc' lv (.long x :: st)) : J p l e R s m args below meth c Qm D A nL cells slots ws pc lv st := by
  subst hp
  exact fun H locs ls hP hD hS hl => lv_lload_n h.1 h.2.1 hd rfl (lv_at hl q hq) (k H locs ls hP hD hS hl)
theorem j_lload (h : Cx p s m args meth c cc nL own ret D tys Z) {i : Nat} {x : Int64} (q : Nat) (hd : decode cc pc = .ok (.lload i, 2)) (hp : pc + 2 = pc') (hq : lv[q]? = some (i, .long x)) (k : J p l e R s m args below meth c Qm D A nL cells slots ws pc' lv (.long x :: st)) : J p l e R s m args below meth c Qm D A nL cells slots ws pc lv st := by
  subst hp
  exact fun H locs ls hP hD hS hl => lv_lload h.1 h.2.1 hd (lv_at hl q hq) (k H locs ls hP hD hS hl)
theorem j_lstore_n (h : Cx p s m args meth c cc nL own ret D tys Z) {n4 : Fin 4} {i : Nat} {x : Int64} (hd : decode cc pc = .ok (.lstore_n n4, 1)) (hp : pc + 1 = pc') (hi : (n4 : Nat) = i) (hn : i + 1 < nL) (hf : (i, Value.long x) :: lv.filter (fun q => !(q.1 == i) && (!(q.1 == i + 1) && !(q.1 + 1 == i && q.2.category == 2))) = lv') (k : J p l e R s m args below meth c Qm D A nL cells slots ws pc' lv' st) : J p l e R s m args below meth c Qm D A nL cells slots ws pc lv (.long x :: st) := by
  subst hp
  exact fun H locs ls hP hD hS hl => lv_lstore_n h.1 h.2.1 hd hi hl hn hf (fun ls hl => k H locs ls hP hD hS hl)
theorem j_lstore (h : Cx p s m args meth c cc nL own ret D tys Z) {i : Nat} {x : Int64} (hd : decode cc pc = .ok (.lstore i, 2)) (hp : pc + 2 = pc') (hn : i + 1 < nL) (hf : (i, Value.long x) :: lv.filter (fun q => !(q.1 == i) && (!(q.1 == i + 1) && !(q.1 + 1 == i && q.2.category == 2))) = lv') (k : J p l e R s m args below meth c Qm D A nL cells slots ws pc' lv' st) : J p l e R s m args below meth c Qm D A nL cells slots ws pc lv (.long x :: st) := by
  subst hp
  exact fun H locs ls hP hD hS hl => lv_lstore h.1 h.2.1 hd hl hn hf (fun ls hl => k H locs ls hP hD hS hl)
theorem j_aload_n (h : Cx p s m args meth c cc nL own ret D tys Z) {i : Fin 4} {x : Nat} (q : Nat) (hd : decode cc pc = .ok (.aload_n i, 1)) (hp : pc + 1 = pc') (hq : lv[q]? = some ((i : Nat), .ref x)) (k : J p l e R s m args below meth c Qm D A nL cells slots ws pc' lv (.ref x :: st)) : J p l e R s m args below meth c Qm D A nL cells slots ws pc lv st := by
  subst hp
  exact fun H locs ls hP hD hS hl => lv_aload_n h.1 h.2.1 hd rfl (lv_at hl q hq) (k H locs ls hP hD hS hl)
theorem j_aload (h : Cx p s m args meth c cc nL own ret D tys Z) {i : Nat} {x : Nat} (q : Nat) (hd : decode cc pc = .ok (.aload i, 2)) (hp : pc + 2 = pc') (hq : lv[q]? = some (i, .ref x)) (k : J p l e R s m args below meth c Qm D A nL cells slots ws pc' lv (.ref x :: st)) : J p l e R s m args below meth c Qm D A nL cells slots ws pc lv st := by
  subst hp
  exact fun H locs ls hP hD hS hl => lv_aload h.1 h.2.1 hd (lv_at hl q hq) (k H locs ls hP hD hS hl)
theorem j_astore_n (h : Cx p s m args meth c cc nL own ret D tys Z) {n4 : Fin 4} {i : Nat} {x : Nat} (hd : decode cc pc = .ok (.astore_n n4, 1)) (hp : pc + 1 = pc') (hi : (n4 : Nat) = i) (hn : i < nL) (hf : (i, Value.ref x) :: lv.filter (fun q => !(q.1 == i) && !(q.1 + 1 == i && q.2.category == 2)) = lv') (k : J p l e R s m args below meth c Qm D A nL cells slots ws pc' lv' st) : J p l e R s m args below meth c Qm D A nL cells slots ws pc lv (.ref x :: st) := by
  subst hp
  exact fun H locs ls hP hD hS hl => lv_astore_n h.1 h.2.1 hd hi hl hn hf (fun ls hl => k H locs ls hP hD hS hl)
theorem j_astore (h : Cx p s m args meth c cc nL own ret D tys Z) {i : Nat} {x : Nat} (hd : decode cc pc = .ok (.astore i, 2)) (hp : pc + 2 = pc') (hn : i < nL) (hf : (i, Value.ref x) :: lv.filter (fun q => !(q.1 == i) && !(q.1 + 1 == i && q.2.category == 2)) = lv') (k : J p l e R s m args below meth c Qm D A nL cells slots ws pc' lv' st) : J p l e R s m args below meth c Qm D A nL cells slots ws pc lv (.ref x :: st) := by
  subst hp
  exact fun H locs ls hP hD hS hl => lv_astore h.1 h.2.1 hd hl hn hf (fun ls hl => k H locs ls hP hD hS hl)
theorem j_iinc (h : Cx p s m args meth c cc nL own ret D tys Z) {i q : Nat} {n : Int} {x v : Int32} (hd : decode cc pc = .ok (.iinc i n, 3)) (hp : pc + 3 = pc') (hq : lv[q]? = some (i, .int x)) (hv : x + Int32.ofInt n = v) (hn : i < nL) (hf : (i, Value.int v) :: lv.filter (fun q => !(q.1 == i) && !(q.1 + 1 == i && q.2.category == 2)) = lv') (k : J p l e R s m args below meth c Qm D A nL cells slots ws pc' lv' st) : J p l e R s m args below meth c Qm D A nL cells slots ws pc lv st := by
  subst hp
  exact fun H locs ls hP hD hS hl => lv_iinc h.1 h.2.1 hd hl hq hv hn hf (fun ls hl => k H locs ls hP hD hS hl)
theorem j_iadd (h : Cx p s m args meth c cc nL own ret D tys Z) {x y : Int32} (hd : decode cc pc = .ok (.iadd, 1)) (hp : pc + 1 = pc')  (k : J p l e R s m args below meth c Qm D A nL cells slots ws pc' lv (.int (x + y) :: st)) : J p l e R s m args below meth c Qm D A nL cells slots ws pc lv (.int y :: .int x :: st) := by
  subst hp
  exact fun H locs ls hP hD hS hl => lv_iadd h.1 h.2.1 hd (k H locs ls hP hD hS hl)
theorem j_isub (h : Cx p s m args meth c cc nL own ret D tys Z) {x y : Int32} (hd : decode cc pc = .ok (.isub, 1)) (hp : pc + 1 = pc')  (k : J p l e R s m args below meth c Qm D A nL cells slots ws pc' lv (.int (x - y) :: st)) : J p l e R s m args below meth c Qm D A nL cells slots ws pc lv (.int y :: .int x :: st) := by
  subst hp
  exact fun H locs ls hP hD hS hl => lv_isub h.1 h.2.1 hd (k H locs ls hP hD hS hl)
theorem j_imul (h : Cx p s m args meth c cc nL own ret D tys Z) {x y : Int32} (hd : decode cc pc = .ok (.imul, 1)) (hp : pc + 1 = pc')  (k : J p l e R s m args below meth c Qm D A nL cells slots ws pc' lv (.int (x * y) :: st)) : J p l e R s m args below meth c Qm D A nL cells slots ws pc lv (.int y :: .int x :: st) := by
  subst hp
  exact fun H locs ls hP hD hS hl => lv_imul h.1 h.2.1 hd (k H locs ls hP hD hS hl)
theorem j_iand (h : Cx p s m args meth c cc nL own ret D tys Z) {x y : Int32} (hd : decode cc pc = .ok (.iand, 1)) (hp : pc + 1 = pc')  (k : J p l e R s m args below meth c Qm D A nL cells slots ws pc' lv (.int (x &&& y) :: st)) : J p l e R s m args below meth c Qm D A nL cells slots ws pc lv (.int y :: .int x :: st) := by
  subst hp
  exact fun H locs ls hP hD hS hl => lv_iand h.1 h.2.1 hd (k H locs ls hP hD hS hl)
theorem j_ixor (h : Cx p s m args meth c cc nL own ret D tys Z) {x y : Int32} (hd : decode cc pc = .ok (.ixor, 1)) (hp : pc + 1 = pc')  (k : J p l e R s m args below meth c Qm D A nL cells slots ws pc' lv (.int (x ^^^ y) :: st)) : J p l e R s m args below meth c Qm D A nL cells slots ws pc lv (.int y :: .int x :: st) := by
  subst hp
  exact fun H locs ls hP hD hS hl => lv_ixor h.1 h.2.1 hd (k H locs ls hP hD hS hl)
theorem j_ladd (h : Cx p s m args meth c cc nL own ret D tys Z) {x y : Int64} (hd : decode cc pc = .ok (.ladd, 1)) (hp : pc + 1 = pc')  (k : J p l e R s m args below meth c Qm D A nL cells slots ws pc' lv (.long (x + y) :: st)) : J p l e R s m args below meth c Qm D A nL cells slots ws pc lv (.long y :: .long x :: st) := by
  subst hp
  exact fun H locs ls hP hD hS hl => lv_ladd h.1 h.2.1 hd (k H locs ls hP hD hS hl)
theorem j_lsub (h : Cx p s m args meth c cc nL own ret D tys Z) {x y : Int64} (hd : decode cc pc = .ok (.lsub, 1)) (hp : pc + 1 = pc')  (k : J p l e R s m args below meth c Qm D A nL cells slots ws pc' lv (.long (x - y) :: st)) : J p l e R s m args below meth c Qm D A nL cells slots ws pc lv (.long y :: .long x :: st) := by
  subst hp
  exact fun H locs ls hP hD hS hl => lv_lsub h.1 h.2.1 hd (k H locs ls hP hD hS hl)
theorem j_lmul (h : Cx p s m args meth c cc nL own ret D tys Z) {x y : Int64} (hd : decode cc pc = .ok (.lmul, 1)) (hp : pc + 1 = pc')  (k : J p l e R s m args below meth c Qm D A nL cells slots ws pc' lv (.long (x * y) :: st)) : J p l e R s m args below meth c Qm D A nL cells slots ws pc lv (.long y :: .long x :: st) := by
  subst hp
  exact fun H locs ls hP hD hS hl => lv_lmul h.1 h.2.1 hd (k H locs ls hP hD hS hl)
theorem j_lxor (h : Cx p s m args meth c cc nL own ret D tys Z) {x y : Int64} (hd : decode cc pc = .ok (.lxor, 1)) (hp : pc + 1 = pc')  (k : J p l e R s m args below meth c Qm D A nL cells slots ws pc' lv (.long (x ^^^ y) :: st)) : J p l e R s m args below meth c Qm D A nL cells slots ws pc lv (.long y :: .long x :: st) := by
  subst hp
  exact fun H locs ls hP hD hS hl => lv_lxor h.1 h.2.1 hd (k H locs ls hP hD hS hl)
theorem j_idiv (h : Cx p s m args meth c cc nL own ret D tys Z) {x y : Int32} (hd : decode cc pc = .ok (.idiv, 1)) (hp : pc + 1 = pc') (hne : ¬ y = 0) (k : J p l e R s m args below meth c Qm D A nL cells slots ws pc' lv (.int (x / y) :: st)) : J p l e R s m args below meth c Qm D A nL cells slots ws pc lv (.int y :: .int x :: st) := by
  subst hp
  exact fun H locs ls hP hD hS hl => lv_idiv h.1 h.2.1 hd hne (k H locs ls hP hD hS hl)
theorem j_ldiv (h : Cx p s m args meth c cc nL own ret D tys Z) {x y : Int64} (hd : decode cc pc = .ok (.ldiv, 1)) (hp : pc + 1 = pc') (hne : ¬ y = 0) (k : J p l e R s m args below meth c Qm D A nL cells slots ws pc' lv (.long (x / y) :: st)) : J p l e R s m args below meth c Qm D A nL cells slots ws pc lv (.long y :: .long x :: st) := by
  subst hp
  exact fun H locs ls hP hD hS hl => lv_ldiv h.1 h.2.1 hd hne (k H locs ls hP hD hS hl)
theorem j_irem (h : Cx p s m args meth c cc nL own ret D tys Z) {x y : Int32} (hd : decode cc pc = .ok (.irem, 1)) (hp : pc + 1 = pc') (hne : ¬ y = 0) (k : J p l e R s m args below meth c Qm D A nL cells slots ws pc' lv (.int (x - x / y * y) :: st)) : J p l e R s m args below meth c Qm D A nL cells slots ws pc lv (.int y :: .int x :: st) := by
  subst hp
  exact fun H locs ls hP hD hS hl => lv_irem h.1 h.2.1 hd hne (k H locs ls hP hD hS hl)
theorem j_lrem (h : Cx p s m args meth c cc nL own ret D tys Z) {x y : Int64} (hd : decode cc pc = .ok (.lrem, 1)) (hp : pc + 1 = pc') (hne : ¬ y = 0) (k : J p l e R s m args below meth c Qm D A nL cells slots ws pc' lv (.long (x - x / y * y) :: st)) : J p l e R s m args below meth c Qm D A nL cells slots ws pc lv (.long y :: .long x :: st) := by
  subst hp
  exact fun H locs ls hP hD hS hl => lv_lrem h.1 h.2.1 hd hne (k H locs ls hP hD hS hl)
theorem j_ineg (h : Cx p s m args meth c cc nL own ret D tys Z) {x : Int32} (hd : decode cc pc = .ok (.ineg, 1)) (hp : pc + 1 = pc')  (k : J p l e R s m args below meth c Qm D A nL cells slots ws pc' lv (.int (-x) :: st)) : J p l e R s m args below meth c Qm D A nL cells slots ws pc lv (.int x :: st) := by
  subst hp
  exact fun H locs ls hP hD hS hl => lv_ineg h.1 h.2.1 hd (k H locs ls hP hD hS hl)
theorem j_ishl (h : Cx p s m args meth c cc nL own ret D tys Z) {x y : Int32} (hd : decode cc pc = .ok (.ishl, 1)) (hp : pc + 1 = pc')  (k : J p l e R s m args below meth c Qm D A nL cells slots ws pc' lv (.int (x <<< (y &&& 31)) :: st)) : J p l e R s m args below meth c Qm D A nL cells slots ws pc lv (.int y :: .int x :: st) := by
  subst hp
  exact fun H locs ls hP hD hS hl => lv_ishl h.1 h.2.1 hd (k H locs ls hP hD hS hl)
theorem j_ishr (h : Cx p s m args meth c cc nL own ret D tys Z) {x y : Int32} (hd : decode cc pc = .ok (.ishr, 1)) (hp : pc + 1 = pc')  (k : J p l e R s m args below meth c Qm D A nL cells slots ws pc' lv (.int (x >>> (y &&& 31)) :: st)) : J p l e R s m args below meth c Qm D A nL cells slots ws pc lv (.int y :: .int x :: st) := by
  subst hp
  exact fun H locs ls hP hD hS hl => lv_ishr h.1 h.2.1 hd (k H locs ls hP hD hS hl)
theorem j_iushr (h : Cx p s m args meth c cc nL own ret D tys Z) {x y : Int32} (hd : decode cc pc = .ok (.iushr, 1)) (hp : pc + 1 = pc')  (k : J p l e R s m args below meth c Qm D A nL cells slots ws pc' lv (.int ((x.toUInt32 >>> (y.toUInt32 &&& Int32.toUInt32 31)).toInt32) :: st)) : J p l e R s m args below meth c Qm D A nL cells slots ws pc lv (.int y :: .int x :: st) := by
  subst hp
  exact fun H locs ls hP hD hS hl => lv_iushr h.1 h.2.1 hd rfl (k H locs ls hP hD hS hl)
theorem j_lshl (h : Cx p s m args meth c cc nL own ret D tys Z) {x : Int64} {y : Int32} (hd : decode cc pc = .ok (.lshl, 1)) (hp : pc + 1 = pc')  (k : J p l e R s m args below meth c Qm D A nL cells slots ws pc' lv (.long (x <<< (y.toInt64 &&& 63)) :: st)) : J p l e R s m args below meth c Qm D A nL cells slots ws pc lv (.int y :: .long x :: st) := by
  subst hp
  exact fun H locs ls hP hD hS hl => lv_lshl h.1 h.2.1 hd rfl (k H locs ls hP hD hS hl)
theorem j_lshr (h : Cx p s m args meth c cc nL own ret D tys Z) {x : Int64} {y : Int32} (hd : decode cc pc = .ok (.lshr, 1)) (hp : pc + 1 = pc')  (k : J p l e R s m args below meth c Qm D A nL cells slots ws pc' lv (.long (x >>> (y.toInt64 &&& 63)) :: st)) : J p l e R s m args below meth c Qm D A nL cells slots ws pc lv (.int y :: .long x :: st) := by
  subst hp
  exact fun H locs ls hP hD hS hl => lv_lshr h.1 h.2.1 hd rfl (k H locs ls hP hD hS hl)
theorem j_i2l (h : Cx p s m args meth c cc nL own ret D tys Z) {x : Int32} (hd : decode cc pc = .ok (.i2l, 1)) (hp : pc + 1 = pc')  (k : J p l e R s m args below meth c Qm D A nL cells slots ws pc' lv (.long x.toInt64 :: st)) : J p l e R s m args below meth c Qm D A nL cells slots ws pc lv (.int x :: st) := by
  subst hp
  exact fun H locs ls hP hD hS hl => lv_i2l h.1 h.2.1 hd rfl (k H locs ls hP hD hS hl)
theorem j_l2i (h : Cx p s m args meth c cc nL own ret D tys Z) {x : Int64} (hd : decode cc pc = .ok (.l2i, 1)) (hp : pc + 1 = pc')  (k : J p l e R s m args below meth c Qm D A nL cells slots ws pc' lv (.int x.toInt32 :: st)) : J p l e R s m args below meth c Qm D A nL cells slots ws pc lv (.long x :: st) := by
  subst hp
  exact fun H locs ls hP hD hS hl => lv_l2i h.1 h.2.1 hd rfl (k H locs ls hP hD hS hl)
theorem j_i2b (h : Cx p s m args meth c cc nL own ret D tys Z) {x : Int32} (hd : decode cc pc = .ok (.i2b, 1)) (hp : pc + 1 = pc')  (k : J p l e R s m args below meth c Qm D A nL cells slots ws pc' lv (.int x.toInt8.toInt32 :: st)) : J p l e R s m args below meth c Qm D A nL cells slots ws pc lv (.int x :: st) := by
  subst hp
  exact fun H locs ls hP hD hS hl => lv_i2b h.1 h.2.1 hd rfl (k H locs ls hP hD hS hl)
theorem j_i2s (h : Cx p s m args meth c cc nL own ret D tys Z) {x : Int32} (hd : decode cc pc = .ok (.i2s, 1)) (hp : pc + 1 = pc')  (k : J p l e R s m args below meth c Qm D A nL cells slots ws pc' lv (.int x.toInt16.toInt32 :: st)) : J p l e R s m args below meth c Qm D A nL cells slots ws pc lv (.int x :: st) := by
  subst hp
  exact fun H locs ls hP hD hS hl => lv_i2s h.1 h.2.1 hd rfl (k H locs ls hP hD hS hl)
theorem j_lcmp (h : Cx p s m args meth c cc nL own ret D tys Z) {x y : Int64} (hd : decode cc pc = .ok (.lcmp, 1)) (hp : pc + 1 = pc')  (k : J p l e R s m args below meth c Qm D A nL cells slots ws pc' lv (.int (lg_cmp x y) :: st)) : J p l e R s m args below meth c Qm D A nL cells slots ws pc lv (.long y :: .long x :: st) := by
  subst hp
  exact fun H locs ls hP hD hS hl => W.lcmp h.1 h.2.1 hd (k H locs ls hP hD hS hl)
theorem j_dup (h : Cx p s m args meth c cc nL own ret D tys Z) {v : Value} (hd : decode cc pc = .ok (.dup, 1)) (hp : pc + 1 = pc') (hv : v.category = 1) (k : J p l e R s m args below meth c Qm D A nL cells slots ws pc' lv (v :: v :: st)) : J p l e R s m args below meth c Qm D A nL cells slots ws pc lv (v :: st) := by
  subst hp
  exact fun H locs ls hP hD hS hl => lv_dup h.1 h.2.1 hd hv (k H locs ls hP hD hS hl)
theorem j_dup2 (h : Cx p s m args meth c cc nL own ret D tys Z) {v w : Value} (hd : decode cc pc = .ok (.dup2, 1)) (hp : pc + 1 = pc') (hv : v.category = 1) (hw : w.category = 1) (k : J p l e R s m args below meth c Qm D A nL cells slots ws pc' lv (v :: w :: v :: w :: st)) : J p l e R s m args below meth c Qm D A nL cells slots ws pc lv (v :: w :: st) := by
  subst hp
  exact fun H locs ls hP hD hS hl => lv_dup2_11 h.1 h.2.1 hd hv hw (k H locs ls hP hD hS hl)
theorem j_if_eq (h : Cx p s m args meth c cc nL own ret D tys Z) {x : Int32} {off : Int} {tgt : Nat} (hd : decode cc pc = .ok (.ifCond .eq off, 3)) (hp : pc + 3 = pc') (ht : (pc : Int) + off = (tgt : Int)) (kt : x = 0 → J p l e R s m args below meth c Qm D A nL cells slots ws tgt lv st) (kf : ¬ x = 0 → J p l e R s m args below meth c Qm D A nL cells slots ws pc' lv st) : J p l e R s m args below meth c Qm D A nL cells slots ws pc lv (.int x :: st) := by
  subst hp
  exact fun H locs ls hP hD hS hl => lv_if_eq h.1 h.2.1 hd ht (fun c => kt c H locs ls hP hD hS hl) (fun c => kf c H locs ls hP hD hS hl)
theorem j_icmp_eq (h : Cx p s m args meth c cc nL own ret D tys Z) {x y : Int32} {off : Int} {tgt : Nat} (hd : decode cc pc = .ok (.if_icmp .eq off, 3)) (hp : pc + 3 = pc') (ht : (pc : Int) + off = (tgt : Int)) (kt : x = y → J p l e R s m args below meth c Qm D A nL cells slots ws tgt lv st) (kf : ¬ x = y → J p l e R s m args below meth c Qm D A nL cells slots ws pc' lv st) : J p l e R s m args below meth c Qm D A nL cells slots ws pc lv (.int y :: .int x :: st) := by
  subst hp
  exact fun H locs ls hP hD hS hl => lv_icmp_eq h.1 h.2.1 hd ht (fun c => kt c H locs ls hP hD hS hl) (fun c => kf c H locs ls hP hD hS hl)
theorem j_if_ne (h : Cx p s m args meth c cc nL own ret D tys Z) {x : Int32} {off : Int} {tgt : Nat} (hd : decode cc pc = .ok (.ifCond .ne off, 3)) (hp : pc + 3 = pc') (ht : (pc : Int) + off = (tgt : Int)) (kt : ¬ x = 0 → J p l e R s m args below meth c Qm D A nL cells slots ws tgt lv st) (kf : x = 0 → J p l e R s m args below meth c Qm D A nL cells slots ws pc' lv st) : J p l e R s m args below meth c Qm D A nL cells slots ws pc lv (.int x :: st) := by
  subst hp
  exact fun H locs ls hP hD hS hl => lv_if_ne h.1 h.2.1 hd ht (fun c => kt c H locs ls hP hD hS hl) (fun c => kf c H locs ls hP hD hS hl)
theorem j_icmp_ne (h : Cx p s m args meth c cc nL own ret D tys Z) {x y : Int32} {off : Int} {tgt : Nat} (hd : decode cc pc = .ok (.if_icmp .ne off, 3)) (hp : pc + 3 = pc') (ht : (pc : Int) + off = (tgt : Int)) (kt : ¬ x = y → J p l e R s m args below meth c Qm D A nL cells slots ws tgt lv st) (kf : x = y → J p l e R s m args below meth c Qm D A nL cells slots ws pc' lv st) : J p l e R s m args below meth c Qm D A nL cells slots ws pc lv (.int y :: .int x :: st) := by
  subst hp
  exact fun H locs ls hP hD hS hl => lv_icmp_ne h.1 h.2.1 hd ht (fun c => kt c H locs ls hP hD hS hl) (fun c => kf c H locs ls hP hD hS hl)
theorem j_if_lt (h : Cx p s m args meth c cc nL own ret D tys Z) {x : Int32} {off : Int} {tgt : Nat} (hd : decode cc pc = .ok (.ifCond .lt off, 3)) (hp : pc + 3 = pc') (ht : (pc : Int) + off = (tgt : Int)) (kt : x < 0 → J p l e R s m args below meth c Qm D A nL cells slots ws tgt lv st) (kf : ¬ x < 0 → J p l e R s m args below meth c Qm D A nL cells slots ws pc' lv st) : J p l e R s m args below meth c Qm D A nL cells slots ws pc lv (.int x :: st) := by
  subst hp
  exact fun H locs ls hP hD hS hl => lv_if_lt h.1 h.2.1 hd ht (fun c => kt c H locs ls hP hD hS hl) (fun c => kf c H locs ls hP hD hS hl)
theorem j_icmp_lt (h : Cx p s m args meth c cc nL own ret D tys Z) {x y : Int32} {off : Int} {tgt : Nat} (hd : decode cc pc = .ok (.if_icmp .lt off, 3)) (hp : pc + 3 = pc') (ht : (pc : Int) + off = (tgt : Int)) (kt : x < y → J p l e R s m args below meth c Qm D A nL cells slots ws tgt lv st) (kf : ¬ x < y → J p l e R s m args below meth c Qm D A nL cells slots ws pc' lv st) : J p l e R s m args below meth c Qm D A nL cells slots ws pc lv (.int y :: .int x :: st) := by
  subst hp
  exact fun H locs ls hP hD hS hl => lv_icmp_lt h.1 h.2.1 hd ht (fun c => kt c H locs ls hP hD hS hl) (fun c => kf c H locs ls hP hD hS hl)
theorem j_if_ge (h : Cx p s m args meth c cc nL own ret D tys Z) {x : Int32} {off : Int} {tgt : Nat} (hd : decode cc pc = .ok (.ifCond .ge off, 3)) (hp : pc + 3 = pc') (ht : (pc : Int) + off = (tgt : Int)) (kt : 0 ≤ x → J p l e R s m args below meth c Qm D A nL cells slots ws tgt lv st) (kf : ¬ 0 ≤ x → J p l e R s m args below meth c Qm D A nL cells slots ws pc' lv st) : J p l e R s m args below meth c Qm D A nL cells slots ws pc lv (.int x :: st) := by
  subst hp
  exact fun H locs ls hP hD hS hl => lv_if_ge h.1 h.2.1 hd ht (fun c => kt c H locs ls hP hD hS hl) (fun c => kf c H locs ls hP hD hS hl)
theorem j_icmp_ge (h : Cx p s m args meth c cc nL own ret D tys Z) {x y : Int32} {off : Int} {tgt : Nat} (hd : decode cc pc = .ok (.if_icmp .ge off, 3)) (hp : pc + 3 = pc') (ht : (pc : Int) + off = (tgt : Int)) (kt : y ≤ x → J p l e R s m args below meth c Qm D A nL cells slots ws tgt lv st) (kf : ¬ y ≤ x → J p l e R s m args below meth c Qm D A nL cells slots ws pc' lv st) : J p l e R s m args below meth c Qm D A nL cells slots ws pc lv (.int y :: .int x :: st) := by
  subst hp
  exact fun H locs ls hP hD hS hl => lv_icmp_ge h.1 h.2.1 hd ht (fun c => kt c H locs ls hP hD hS hl) (fun c => kf c H locs ls hP hD hS hl)
theorem j_if_gt (h : Cx p s m args meth c cc nL own ret D tys Z) {x : Int32} {off : Int} {tgt : Nat} (hd : decode cc pc = .ok (.ifCond .gt off, 3)) (hp : pc + 3 = pc') (ht : (pc : Int) + off = (tgt : Int)) (kt : 0 < x → J p l e R s m args below meth c Qm D A nL cells slots ws tgt lv st) (kf : ¬ 0 < x → J p l e R s m args below meth c Qm D A nL cells slots ws pc' lv st) : J p l e R s m args below meth c Qm D A nL cells slots ws pc lv (.int x :: st) := by
  subst hp
  exact fun H locs ls hP hD hS hl => lv_if_gt h.1 h.2.1 hd ht (fun c => kt c H locs ls hP hD hS hl) (fun c => kf c H locs ls hP hD hS hl)
theorem j_icmp_gt (h : Cx p s m args meth c cc nL own ret D tys Z) {x y : Int32} {off : Int} {tgt : Nat} (hd : decode cc pc = .ok (.if_icmp .gt off, 3)) (hp : pc + 3 = pc') (ht : (pc : Int) + off = (tgt : Int)) (kt : y < x → J p l e R s m args below meth c Qm D A nL cells slots ws tgt lv st) (kf : ¬ y < x → J p l e R s m args below meth c Qm D A nL cells slots ws pc' lv st) : J p l e R s m args below meth c Qm D A nL cells slots ws pc lv (.int y :: .int x :: st) := by
  subst hp
  exact fun H locs ls hP hD hS hl => lv_icmp_gt h.1 h.2.1 hd ht (fun c => kt c H locs ls hP hD hS hl) (fun c => kf c H locs ls hP hD hS hl)
theorem j_if_le (h : Cx p s m args meth c cc nL own ret D tys Z) {x : Int32} {off : Int} {tgt : Nat} (hd : decode cc pc = .ok (.ifCond .le off, 3)) (hp : pc + 3 = pc') (ht : (pc : Int) + off = (tgt : Int)) (kt : x ≤ 0 → J p l e R s m args below meth c Qm D A nL cells slots ws tgt lv st) (kf : ¬ x ≤ 0 → J p l e R s m args below meth c Qm D A nL cells slots ws pc' lv st) : J p l e R s m args below meth c Qm D A nL cells slots ws pc lv (.int x :: st) := by
  subst hp
  exact fun H locs ls hP hD hS hl => lv_if_le h.1 h.2.1 hd ht (fun c => kt c H locs ls hP hD hS hl) (fun c => kf c H locs ls hP hD hS hl)
theorem j_icmp_le (h : Cx p s m args meth c cc nL own ret D tys Z) {x y : Int32} {off : Int} {tgt : Nat} (hd : decode cc pc = .ok (.if_icmp .le off, 3)) (hp : pc + 3 = pc') (ht : (pc : Int) + off = (tgt : Int)) (kt : x ≤ y → J p l e R s m args below meth c Qm D A nL cells slots ws tgt lv st) (kf : ¬ x ≤ y → J p l e R s m args below meth c Qm D A nL cells slots ws pc' lv st) : J p l e R s m args below meth c Qm D A nL cells slots ws pc lv (.int y :: .int x :: st) := by
  subst hp
  exact fun H locs ls hP hD hS hl => lv_icmp_le h.1 h.2.1 hd ht (fun c => kt c H locs ls hP hD hS hl) (fun c => kf c H locs ls hP hD hS hl)
theorem j_goto (h : Cx p s m args meth c cc nL own ret D tys Z) {off : Int} {tgt : Nat} (hd : decode cc pc = .ok (.goto off, 3)) (ht : (pc : Int) + off = (tgt : Int)) (k : J p l e R s m args below meth c Qm D A nL cells slots ws tgt lv st) : J p l e R s m args below meth c Qm D A nL cells slots ws pc lv st := fun H locs ls hP hD hS hl => lv_goto h.1 h.2.1 hd ht (k H locs ls hP hD hS hl)
theorem j_tableOut (h : Cx p s m args meth c cc nL own ret D tys Z) {dflt lo hi : Int} {offs : Array Int} {len : Nat} {x : Int32} {tgt : Nat} (hd : decode cc pc = .ok (.tableswitch dflt lo hi offs, len)) (hx : x.toInt < lo ∨ hi < x.toInt) (ht : (pc : Int) + dflt = (tgt : Int)) (k : J p l e R s m args below meth c Qm D A nL cells slots ws tgt lv st) : J p l e R s m args below meth c Qm D A nL cells slots ws pc lv (.int x :: st) := fun H locs ls hP hD hS hl => lv_tableOut h.1 h.2.1 hd hx ht (k H locs ls hP hD hS hl)
theorem j_tableIn (h : Cx p s m args meth c cc nL own ret D tys Z) {dflt lo hi : Int} {offs : Array Int} {len : Nat} {x : Int32} {off : Int} {tgt : Nat} (hd : decode cc pc = .ok (.tableswitch dflt lo hi offs, len)) (h1 : ¬ x.toInt < lo) (h2 : ¬ hi < x.toInt) (ho : offs[(x.toInt - lo).toNat]? = some off) (ht : (pc : Int) + off = (tgt : Int)) (k : J p l e R s m args below meth c Qm D A nL cells slots ws tgt lv st) : J p l e R s m args below meth c Qm D A nL cells slots ws pc lv (.int x :: st) := fun H locs ls hP hD hS hl => lv_tableIn h.1 h.2.1 hd h1 h2 ho ht (k H locs ls hP hD hS hl)
/-- a table's case by one number -/
theorem j_tableAt (h : Cx p s m args meth c cc nL own ret D tys Z) {dflt lo hi : Int} {offs : Array Int} {len : Nat} {x n : Int32} {off : Int} {tgt : Nat} (hx : x = n) (hd : decode cc pc = .ok (.tableswitch dflt lo hi offs, len)) (h1 : (decide (¬ n.toInt < lo) && decide (¬ hi < n.toInt)) = true) (ho : offs[(n.toInt - lo).toNat]? = some off) (ht : (pc : Int) + off = (tgt : Int)) (k : J p l e R s m args below meth c Qm D A nL cells slots ws tgt lv st) : J p l e R s m args below meth c Qm D A nL cells slots ws pc lv (.int x :: st) := by
  subst hx
  simp only [Bool.and_eq_true, decide_eq_true_eq] at h1
  exact j_tableIn h hd h1.1 h1.2 ho ht k
theorem j_lv (ks : List Nat) (hk : lv_pick lv ks = lv') (k : J p l e R s m args below meth c Qm D A nL cells slots ws pc lv' st) : J p l e R s m args below meth c Qm D A nL cells slots ws pc lv st := fun H locs ls hP hD hS hl => k H locs ls hP hD hS (lv_sub hl ks hk)
theorem j_nmi {x : Int32} (k : ∀ y : Int32, y = x → J p l e R s m args below meth c Qm D A nL cells slots ws pc lv (.int y :: st)) : J p l e R s m args below meth c Qm D A nL cells slots ws pc lv (.int x :: st) := k x rfl
theorem j_nml {x : Int64} (k : ∀ y : Int64, y = x → J p l e R s m args below meth c Qm D A nL cells slots ws pc lv (.long y :: st)) : J p l e R s m args below meth c Qm D A nL cells slots ws pc lv (.long x :: st) := k x rfl
theorem j_nms {wf : St → va_W} {σ : St} (k : ∀ τ : St, τ = σ → J p l e R s m args below meth c Qm D A nL cells slots (wf τ) pc lv st) : J p l e R s m args below meth c Qm D A nL cells slots (wf σ) pc lv st := k σ rfl
theorem j_iret {wf : St → va_W} {σ : St} {Q : Int32 → St → Prop} {v : Int32} (h : Cx p s m args meth c cc nL own (some .int) D tys Z) (hd : decode cc pc = .ok (.ireturn, 1)) (hq : Q v σ) : J p l e R s m args below meth c (MQ below (va_Qi Q (BW D wf) A) args s cells slots A) D A nL cells slots (wf σ) pc lv [.int v] := fun H locs ls hP hD hS hl => W.iret h.1 h.2.1 h.2.2.2.2.2.2.2.1 (fun t ht hW => ⟨⟨v, σ, rfl, hq, by rw [BW, ht]; exact hP⟩, hS.F ht⟩) hS.2.2 hd h.2.2.2.2.2.2.2.2
theorem j_lret {wf : St → va_W} {σ : St} {Q : Int64 → St → Prop} {v : Int64} (h : Cx p s m args meth c cc nL own (some .long) D tys Z) (hd : decode cc pc = .ok (.lreturn, 1)) (hq : Q v σ) : J p l e R s m args below meth c (MQ below (va_Ql Q (BW D wf) A) args s cells slots A) D A nL cells slots (wf σ) pc lv [.long v] := fun H locs ls hP hD hS hl => W.lret h.1 h.2.1 h.2.2.2.2.2.2.2.1 (fun t ht hW => ⟨⟨v, σ, rfl, hq, by rw [BW, ht]; exact hP⟩, hS.F ht⟩) hS.2.2 hd h.2.2.2.2.2.2.2.2
theorem j_zret {wf : St → va_W} {σ : St} {Q : Int32 → St → Prop} {v : Int32} (h : Cx p s m args meth c cc nL own (some .boolean) D tys Z) (hd : decode cc pc = .ok (.ireturn, 1)) (hz : zok v) (hq : Q v σ) : J p l e R s m args below meth c (MQ below (va_Qi Q (BW D wf) A) args s cells slots A) D A nL cells slots (wf σ) pc lv [.int v] := fun H locs ls hP hD hS hl => W.zret h.1 h.2.1 h.2.2.2.2.2.2.2.1 (by rcases hz with rfl | rfl <;> rfl) (fun t ht hW => ⟨⟨v, σ, rfl, hq, by rw [BW, ht]; exact hP⟩, hS.F ht⟩) hS.2.2 hd h.2.2.2.2.2.2.2.2
theorem j_vret {wf : St → va_W} {σ : St} {Q : St → Prop} (h : Cx p s m args meth c cc nL own none D tys Z) (hd : decode cc pc = .ok (.return_, 1)) (hq : Q σ) : J p l e R s m args below meth c (MQ below (va_Qv Q (BW D wf) A) args s cells slots A) D A nL cells slots (wf σ) pc lv [] := fun H locs ls hP hD hS hl => W.vret h.1 h.2.1 h.2.2.2.2.2.2.2.1 (fun t ht hW => ⟨⟨σ, rfl, hq, by rw [BW, ht]; exact hP⟩, hS.F ht⟩) hS.2.2 hd h.2.2.2.2.2.2.2.2
theorem jcV_i (h : Cx p s m args meth c cc nL own ret D tys Z) {wf : St → va_W} {σ : St} (hE : Env_ok Z wf A) {y : MethodName} {index n maxL : Nat} {bytes : ByteArray} {rt : Option FieldType} {rm : Room} {Q : Int32 → St → Prop} {As : List Value} {st0 : List Value} {b q0 ci N : Nat} {T : u_T} {fs : List Value} (hb : (wf σ)[q0]? = some (b, .inr (ci, fs))) (hc : vwCl[ci]? = some (y.cls, T, N)) (hM : Mi l y bytes maxL rt rm D tys Z wf A (.ref b :: As) σ Q) (w1 : Cond.methodLink own index y ∈ wAll) (w2 : Cond.instanceMethod y ∈ wAll) (w3 : Cond.selects y.cls y y ∈ wAll) (w4 : Cond.initialized y.cls ∈ wAll) (w5 : Cond.code y bytes maxL rt ∈ wAll) (hdy : y.cls = y.cls ∧ y.cls ≠ "java/lang/invoke/MethodHandle" ∧ y.cls ≠ "java/lang/invoke/VarHandle" ∧ (parseMethodDescriptor y.desc).map (fun d => d.parameters.length) = some n) (hrm : rm.cells = 0 ∧ rm.slots = 0) (hR : rm.frames + 1 ≤ R.frames ∧ 8 + (maxL + 11) + rm.locals ≤ R.locals) (hcs : cells ≤ R.cells ∧ slots ≤ R.slots) (hn : As.length = n) (hst : As.reverse ++ .ref b :: st = st0) (hroom : (st.map fun v => v.category).sum ≤ 8) (hd : decode cc pc = .ok (.invokevirtual index, 3)) (hp : pc + 3 = pc') (k : ∀ (r : Int32) (u : St), Q r u → J p l e R s m args below meth c Qm D A nL cells slots (wf u) pc' lv (.int r :: st)) : J p l e R s m args below meth c Qm D A nL cells slots (wf σ) pc lv st0 := by
  subst hp
  subst hst
  intro H locs ls hP hD hS hl
  refine va_calli (va_runV (As := As) (rest := st) (C := y.cls) (Ts := wAll) ⟨h.1, h.2.1, h.2.2.1, h.2.2.2.1, h.2.2.2.2.1⟩ hM (⟨callB_of n h.2.2.2.2.1 (fun w hw => (List.mem_cons.mp hw).elim (fun q => q ▸ wAll_good wAll (fun _ z => z) _ w5) (fun q => wAll_good wAll (fun _ z => z) _ q)) rfl hrm.1 hrm.2 (h.2.2.2.2.1 _ w4) (h.2.2.2.2.1 _ w1) hdy.2 hR, h.2.2.2.2.1 _ w2, h.2.2.2.2.1 _ w3⟩) ⟨va_Pc_blind hE.2.1, va_recv h.2.2.2.2.2.1 hP hc hb, fun U hU hW => ⟨rfl, by rw [hU]; exact hP, va_K.moved hW.alike h.2.2.2.2.2.1, by rw [hU]; exact hE.2.2 U s.heap H (hE.2.1 s U s.heap hW.alike h.2.2.2.2.2.2.1) hS.2.1⟩⟩ rfl hn hl.1 rfl (lv_room hroom) hd ⟨hcs.1, hcs.2⟩) hS (fun q _ hq => hq) (fun q hq => hq) (fun r u t H1 locs1 ht hvm hw hB hz1 hk1 hS1 => ?_)
  rw [BW, ht] at hB
  exact k r u hw H1 locs1 ls hB (hE.1 u) hS1 hl
theorem jcV_l (h : Cx p s m args meth c cc nL own ret D tys Z) {wf : St → va_W} {σ : St} (hE : Env_ok Z wf A) {y : MethodName} {index n maxL : Nat} {bytes : ByteArray} {rt : Option FieldType} {rm : Room} {Q : Int64 → St → Prop} {As : List Value} {st0 : List Value} {b q0 ci N : Nat} {T : u_T} {fs : List Value} (hb : (wf σ)[q0]? = some (b, .inr (ci, fs))) (hc : vwCl[ci]? = some (y.cls, T, N)) (hM : Ml l y bytes maxL rt rm D tys Z wf A (.ref b :: As) σ Q) (w1 : Cond.methodLink own index y ∈ wAll) (w2 : Cond.instanceMethod y ∈ wAll) (w3 : Cond.selects y.cls y y ∈ wAll) (w4 : Cond.initialized y.cls ∈ wAll) (w5 : Cond.code y bytes maxL rt ∈ wAll) (hdy : y.cls = y.cls ∧ y.cls ≠ "java/lang/invoke/MethodHandle" ∧ y.cls ≠ "java/lang/invoke/VarHandle" ∧ (parseMethodDescriptor y.desc).map (fun d => d.parameters.length) = some n) (hrm : rm.cells = 0 ∧ rm.slots = 0) (hR : rm.frames + 1 ≤ R.frames ∧ 8 + (maxL + 11) + rm.locals ≤ R.locals) (hcs : cells ≤ R.cells ∧ slots ≤ R.slots) (hn : As.length = n) (hst : As.reverse ++ .ref b :: st = st0) (hroom : (st.map fun v => v.category).sum ≤ 8) (hd : decode cc pc = .ok (.invokevirtual index, 3)) (hp : pc + 3 = pc') (k : ∀ (r : Int64) (u : St), Q r u → J p l e R s m args below meth c Qm D A nL cells slots (wf u) pc' lv (.long r :: st)) : J p l e R s m args below meth c Qm D A nL cells slots (wf σ) pc lv st0 := by
  subst hp
  subst hst
  intro H locs ls hP hD hS hl
  refine va_calll (va_runV (As := As) (rest := st) (C := y.cls) (Ts := wAll) ⟨h.1, h.2.1, h.2.2.1, h.2.2.2.1, h.2.2.2.2.1⟩ hM (⟨callB_of n h.2.2.2.2.1 (fun w hw => (List.mem_cons.mp hw).elim (fun q => q ▸ wAll_good wAll (fun _ z => z) _ w5) (fun q => wAll_good wAll (fun _ z => z) _ q)) rfl hrm.1 hrm.2 (h.2.2.2.2.1 _ w4) (h.2.2.2.2.1 _ w1) hdy.2 hR, h.2.2.2.2.1 _ w2, h.2.2.2.2.1 _ w3⟩) ⟨va_Pc_blind hE.2.1, va_recv h.2.2.2.2.2.1 hP hc hb, fun U hU hW => ⟨rfl, by rw [hU]; exact hP, va_K.moved hW.alike h.2.2.2.2.2.1, by rw [hU]; exact hE.2.2 U s.heap H (hE.2.1 s U s.heap hW.alike h.2.2.2.2.2.2.1) hS.2.1⟩⟩ rfl hn hl.1 rfl (lv_room hroom) hd ⟨hcs.1, hcs.2⟩) hS (fun q _ hq => hq) (fun q hq => hq) (fun r u t H1 locs1 ht hvm hw hB hz1 hk1 hS1 => ?_)
  rw [BW, ht] at hB
  exact k r u hw H1 locs1 ls hB (hE.1 u) hS1 hl
theorem jcV_v (h : Cx p s m args meth c cc nL own ret D tys Z) {wf : St → va_W} {σ : St} (hE : Env_ok Z wf A) {y : MethodName} {index n maxL : Nat} {bytes : ByteArray} {rt : Option FieldType} {rm : Room} {Q : St → Prop} {As : List Value} {st0 : List Value} {b q0 ci N : Nat} {T : u_T} {fs : List Value} (hb : (wf σ)[q0]? = some (b, .inr (ci, fs))) (hc : vwCl[ci]? = some (y.cls, T, N)) (hM : Mv l y bytes maxL rt rm D tys Z wf A (.ref b :: As) σ Q) (w1 : Cond.methodLink own index y ∈ wAll) (w2 : Cond.instanceMethod y ∈ wAll) (w3 : Cond.selects y.cls y y ∈ wAll) (w4 : Cond.initialized y.cls ∈ wAll) (w5 : Cond.code y bytes maxL rt ∈ wAll) (hdy : y.cls = y.cls ∧ y.cls ≠ "java/lang/invoke/MethodHandle" ∧ y.cls ≠ "java/lang/invoke/VarHandle" ∧ (parseMethodDescriptor y.desc).map (fun d => d.parameters.length) = some n) (hrm : rm.cells = 0 ∧ rm.slots = 0) (hR : rm.frames + 1 ≤ R.frames ∧ 8 + (maxL + 11) + rm.locals ≤ R.locals) (hcs : cells ≤ R.cells ∧ slots ≤ R.slots) (hn : As.length = n) (hst : As.reverse ++ .ref b :: st = st0) (hroom : (st.map fun v => v.category).sum ≤ 8) (hd : decode cc pc = .ok (.invokevirtual index, 3)) (hp : pc + 3 = pc') (k : ∀ u : St, Q u → J p l e R s m args below meth c Qm D A nL cells slots (wf u) pc' lv st) : J p l e R s m args below meth c Qm D A nL cells slots (wf σ) pc lv st0 := by
  subst hp
  subst hst
  intro H locs ls hP hD hS hl
  refine va_callv (va_runV (As := As) (rest := st) (C := y.cls) (Ts := wAll) ⟨h.1, h.2.1, h.2.2.1, h.2.2.2.1, h.2.2.2.2.1⟩ hM (⟨callB_of n h.2.2.2.2.1 (fun w hw => (List.mem_cons.mp hw).elim (fun q => q ▸ wAll_good wAll (fun _ z => z) _ w5) (fun q => wAll_good wAll (fun _ z => z) _ q)) rfl hrm.1 hrm.2 (h.2.2.2.2.1 _ w4) (h.2.2.2.2.1 _ w1) hdy.2 hR, h.2.2.2.2.1 _ w2, h.2.2.2.2.1 _ w3⟩) ⟨va_Pc_blind hE.2.1, va_recv h.2.2.2.2.2.1 hP hc hb, fun U hU hW => ⟨rfl, by rw [hU]; exact hP, va_K.moved hW.alike h.2.2.2.2.2.1, by rw [hU]; exact hE.2.2 U s.heap H (hE.2.1 s U s.heap hW.alike h.2.2.2.2.2.2.1) hS.2.1⟩⟩ rfl hn hl.1 rfl (lv_room hroom) hd ⟨hcs.1, hcs.2⟩) hS (fun q _ hq => hq) (fun q hq => hq) (fun u t H1 locs1 ht hvm hw hB hz1 hk1 hS1 => ?_)
  rw [BW, ht] at hB
  exact k u hw H1 locs1 ls hB (hE.1 u) hS1 hl
theorem jcS_i (h : Cx p s m args meth c cc nL own ret D tys Z) {wf : St → va_W} {σ : St} (hE : Env_ok Z wf A) {y : MethodName} {index n maxL : Nat} {bytes : ByteArray} {rt : Option FieldType} {rm : Room} {Q : Int32 → St → Prop} {As : List Value} {st0 : List Value} (hM : Mi l y bytes maxL rt rm D tys Z wf A As σ Q) (w1 : Cond.methodLink own index y ∈ wAll) (w2 : Cond.static y ∈ wAll) (w4 : Cond.initialized y.cls ∈ wAll) (w5 : Cond.code y bytes maxL rt ∈ wAll) (hdy : y.cls ≠ "java/lang/invoke/MethodHandle" ∧ y.cls ≠ "java/lang/invoke/VarHandle" ∧ (parseMethodDescriptor y.desc).map (fun d => d.parameters.length) = some n) (hrm : rm.cells = 0 ∧ rm.slots = 0) (hR : rm.frames + 1 ≤ R.frames ∧ 8 + (maxL + 11) + rm.locals ≤ R.locals) (hcs : cells ≤ R.cells ∧ slots ≤ R.slots) (hn : As.length = n) (hst : As.reverse ++ st = st0) (hroom : (st.map fun v => v.category).sum ≤ 8) (hd : decode cc pc = .ok (.invokestatic index, 3)) (hp : pc + 3 = pc') (k : ∀ (r : Int32) (u : St), Q r u → J p l e R s m args below meth c Qm D A nL cells slots (wf u) pc' lv (.int r :: st)) : J p l e R s m args below meth c Qm D A nL cells slots (wf σ) pc lv st0 := by
  subst hp
  subst hst
  intro H locs ls hP hD hS hl
  refine va_calli (va_runS (As := As) (rest := st) (Ts := wAll) ⟨h.1, h.2.1, h.2.2.1, h.2.2.2.1, h.2.2.2.2.1⟩ hM (⟨callB_of n h.2.2.2.2.1 (fun w hw => (List.mem_cons.mp hw).elim (fun q => q ▸ wAll_good wAll (fun _ z => z) _ w5) (fun q => wAll_good wAll (fun _ z => z) _ q)) rfl hrm.1 hrm.2 (h.2.2.2.2.1 _ w4) (h.2.2.2.2.1 _ w1) hdy hR, h.2.2.2.2.1 _ w2⟩) ⟨va_Pc_blind hE.2.1, fun U hU hW => ⟨rfl, by rw [hU]; exact hP, va_K.moved hW.alike h.2.2.2.2.2.1, by rw [hU]; exact hE.2.2 U s.heap H (hE.2.1 s U s.heap hW.alike h.2.2.2.2.2.2.1) hS.2.1⟩⟩ rfl hn hl.1 rfl (lv_room hroom) hd ⟨hcs.1, hcs.2⟩) hS (fun q _ hq => hq) (fun q hq => hq) (fun r u t H1 locs1 ht hvm hw hB hz1 hk1 hS1 => ?_)
  rw [BW, ht] at hB
  exact k r u hw H1 locs1 ls hB (hE.1 u) hS1 hl
theorem jcS_l (h : Cx p s m args meth c cc nL own ret D tys Z) {wf : St → va_W} {σ : St} (hE : Env_ok Z wf A) {y : MethodName} {index n maxL : Nat} {bytes : ByteArray} {rt : Option FieldType} {rm : Room} {Q : Int64 → St → Prop} {As : List Value} {st0 : List Value} (hM : Ml l y bytes maxL rt rm D tys Z wf A As σ Q) (w1 : Cond.methodLink own index y ∈ wAll) (w2 : Cond.static y ∈ wAll) (w4 : Cond.initialized y.cls ∈ wAll) (w5 : Cond.code y bytes maxL rt ∈ wAll) (hdy : y.cls ≠ "java/lang/invoke/MethodHandle" ∧ y.cls ≠ "java/lang/invoke/VarHandle" ∧ (parseMethodDescriptor y.desc).map (fun d => d.parameters.length) = some n) (hrm : rm.cells = 0 ∧ rm.slots = 0) (hR : rm.frames + 1 ≤ R.frames ∧ 8 + (maxL + 11) + rm.locals ≤ R.locals) (hcs : cells ≤ R.cells ∧ slots ≤ R.slots) (hn : As.length = n) (hst : As.reverse ++ st = st0) (hroom : (st.map fun v => v.category).sum ≤ 8) (hd : decode cc pc = .ok (.invokestatic index, 3)) (hp : pc + 3 = pc') (k : ∀ (r : Int64) (u : St), Q r u → J p l e R s m args below meth c Qm D A nL cells slots (wf u) pc' lv (.long r :: st)) : J p l e R s m args below meth c Qm D A nL cells slots (wf σ) pc lv st0 := by
  subst hp
  subst hst
  intro H locs ls hP hD hS hl
  refine va_calll (va_runS (As := As) (rest := st) (Ts := wAll) ⟨h.1, h.2.1, h.2.2.1, h.2.2.2.1, h.2.2.2.2.1⟩ hM (⟨callB_of n h.2.2.2.2.1 (fun w hw => (List.mem_cons.mp hw).elim (fun q => q ▸ wAll_good wAll (fun _ z => z) _ w5) (fun q => wAll_good wAll (fun _ z => z) _ q)) rfl hrm.1 hrm.2 (h.2.2.2.2.1 _ w4) (h.2.2.2.2.1 _ w1) hdy hR, h.2.2.2.2.1 _ w2⟩) ⟨va_Pc_blind hE.2.1, fun U hU hW => ⟨rfl, by rw [hU]; exact hP, va_K.moved hW.alike h.2.2.2.2.2.1, by rw [hU]; exact hE.2.2 U s.heap H (hE.2.1 s U s.heap hW.alike h.2.2.2.2.2.2.1) hS.2.1⟩⟩ rfl hn hl.1 rfl (lv_room hroom) hd ⟨hcs.1, hcs.2⟩) hS (fun q _ hq => hq) (fun q hq => hq) (fun r u t H1 locs1 ht hvm hw hB hz1 hk1 hS1 => ?_)
  rw [BW, ht] at hB
  exact k r u hw H1 locs1 ls hB (hE.1 u) hS1 hl
theorem jcS_v (h : Cx p s m args meth c cc nL own ret D tys Z) {wf : St → va_W} {σ : St} (hE : Env_ok Z wf A) {y : MethodName} {index n maxL : Nat} {bytes : ByteArray} {rt : Option FieldType} {rm : Room} {Q : St → Prop} {As : List Value} {st0 : List Value} (hM : Mv l y bytes maxL rt rm D tys Z wf A As σ Q) (w1 : Cond.methodLink own index y ∈ wAll) (w2 : Cond.static y ∈ wAll) (w4 : Cond.initialized y.cls ∈ wAll) (w5 : Cond.code y bytes maxL rt ∈ wAll) (hdy : y.cls ≠ "java/lang/invoke/MethodHandle" ∧ y.cls ≠ "java/lang/invoke/VarHandle" ∧ (parseMethodDescriptor y.desc).map (fun d => d.parameters.length) = some n) (hrm : rm.cells = 0 ∧ rm.slots = 0) (hR : rm.frames + 1 ≤ R.frames ∧ 8 + (maxL + 11) + rm.locals ≤ R.locals) (hcs : cells ≤ R.cells ∧ slots ≤ R.slots) (hn : As.length = n) (hst : As.reverse ++ st = st0) (hroom : (st.map fun v => v.category).sum ≤ 8) (hd : decode cc pc = .ok (.invokestatic index, 3)) (hp : pc + 3 = pc') (k : ∀ u : St, Q u → J p l e R s m args below meth c Qm D A nL cells slots (wf u) pc' lv st) : J p l e R s m args below meth c Qm D A nL cells slots (wf σ) pc lv st0 := by
  subst hp
  subst hst
  intro H locs ls hP hD hS hl
  refine va_callv (va_runS (As := As) (rest := st) (Ts := wAll) ⟨h.1, h.2.1, h.2.2.1, h.2.2.2.1, h.2.2.2.2.1⟩ hM (⟨callB_of n h.2.2.2.2.1 (fun w hw => (List.mem_cons.mp hw).elim (fun q => q ▸ wAll_good wAll (fun _ z => z) _ w5) (fun q => wAll_good wAll (fun _ z => z) _ q)) rfl hrm.1 hrm.2 (h.2.2.2.2.1 _ w4) (h.2.2.2.2.1 _ w1) hdy hR, h.2.2.2.2.1 _ w2⟩) ⟨va_Pc_blind hE.2.1, fun U hU hW => ⟨rfl, by rw [hU]; exact hP, va_K.moved hW.alike h.2.2.2.2.2.1, by rw [hU]; exact hE.2.2 U s.heap H (hE.2.1 s U s.heap hW.alike h.2.2.2.2.2.2.1) hS.2.1⟩⟩ rfl hn hl.1 rfl (lv_room hroom) hd ⟨hcs.1, hcs.2⟩) hS (fun q _ hq => hq) (fun q hq => hq) (fun u t H1 locs1 ht hvm hw hB hz1 hk1 hS1 => ?_)
  rw [BW, ht] at hB
  exact k u hw H1 locs1 ls hB (hE.1 u) hS1 hl
end JR
