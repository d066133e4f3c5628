/-! ===== makings: worlds that grow ===== -/
def PC (D : va_G) (ex : State → Prop) (ws : va_W) (sz : Nat) (U : State) : Prop := U.heap.size = sz ∧ va_P D vwCl ws U.heap ∧ va_K D vwCl [] U ∧ va_D (fun _ => True) ws ∧ ex U
def BC {S : Type} (D : va_G) (A : Nat → Prop) (w1 : S → va_W) (t1 : S → List (ClassId × FieldType)) (u : S) (t : State) : Prop := va_P D vwCl (w1 u) t.heap ∧ va_K D vwCl (t1 u) t ∧ va_D A (w1 u)
/-- a constructor's contract: out of the new cell alone it makes the cells w1 u, for some u with 'post u' -/
def Mc {S : Type} (l : Launch) (y : MethodName) (bytes : ByteArray) (maxL : Nat) (rm : Room) (D : va_G) (ex : State → Prop) (b : Nat) (e0 : va_E) (w1 : S → va_W) (t1 : S → List (ClassId × FieldType)) (post : S → Prop) (mc ms : Nat) : Prop :=
  ∀ sz : Nat, Met l y (.code y bytes maxL none :: wAll) rm (va_Pc [.ref b] (PC D ex [(b, e0)] sz)) (va_Qv post (BC D (va_A [(b, e0)] sz) w1 t1) (va_A [(b, e0)] sz)) mc ms (va_A [(b, e0)] sz)
theorem PC_blind {As : List Value} {D : va_G} {ex : State → Prop} {ws : va_W} {sz : Nat} (hm : ∀ (u U : State), u.vm.Alike U.vm → ex u → ex U) : FrameBlind (va_Pc As (PC D ex ws sz)) := fun a U g mk h => ⟨h.1, h.2.1, h.2.2.1, va_K.moved (u := U) (U := U.calling g mk a) (Vm.Alike.refl U.vm) h.2.2.2.1, h.2.2.2.2.1, hm U (U.calling g mk a) (Vm.Alike.refl U.vm) h.2.2.2.2.2⟩
theorem rg_last {α : Type} (l : List α) (x : α) : (List.range l.length).map (fun i => (l ++ [x])[i]?) = l.map some := by
  apply List.ext_getElem?
  intro i
  rw [List.getElem?_map, List.getElem?_map]
  by_cases h : i < l.length
  · rw [List.getElem?_range h]
    simp [List.getElem?_append_left h, h]
  · rw [List.getElem?_eq_none (by simp; omega), List.getElem?_eq_none (by omega)]
    rfl
theorem nd_map (f : Nat → Nat) (hf : ∀ a b, f a = f b → a = b) : ∀ l : List Nat, l.Nodup → (l.map f).Nodup := fun l h => List.Pairwise.map f (fun a b hab q => hab (hf a b q)) h
theorem va_nd_of : ∀ l : List Nat, l.Nodup → va_nd l = true := by
  intro l
  induction l with
  | nil => intro _; rfl
  | cons a l ih =>
    intro h
    rw [List.nodup_cons] at h
    simp [va_nd, h.1, ih h.2]
section JC
variable {p : Program} {l : Launch} {e : Env} {R : Room} {s : State} {m : MethodId} {args : Array Value} {below : List Frame} {meth : Method} {c : Code} {Qm : State → Prop} {D : va_G} {A : Nat → Prop} {nL cells slots : Nat} {cc : ByteArray} {own : String} {ret : Option FieldType} {tys : List (ClassId × FieldType)} {Z : State → Heap → Prop} {ws : va_W} {pc pc' : Nat} {lv lv' : List (Nat × Value)} {st : List Value}
theorem j_startC {S : Type} {y : MethodName} {maxL : Nat} {rm : Room} {ex : State → Prop} {b : Nat} {e0 : va_E} {w1 : S → va_W} {t1 : S → List (ClassId × FieldType)} {post : S → Prop} {mc ms : Nat} (hy : plainFor y = true) (ho : y.cls = own) (hyn : y.name = "<init>") (hl : 1 ≤ maxL)
    (body : ∀ (p : Program) (e : Env) (s : State) (m : MethodId) (args : Array Value) (below : List Frame) (meth : Method) (c : Code) (A : Nat → Prop), Cx p s m args meth c cc maxL own none D [] (fun U _ => ex U) → meth.name = "<init>" → (∀ q, s.heap.size ≤ q → A q) → J p l e rm s m args below meth c (MQ below (va_Qv post (BC D A w1 t1) A) args s mc ms A) D A maxL 0 0 [(b, e0)] 0 [(0, .ref b)] []) :
    Mc l y cc maxL rm D ex b e0 w1 t1 post mc ms := by
  subst ho
  intro sz
  refine j_ofW (cc := cc) (maxL := maxL) (rt := none) hy rfl ?_
  intro p e s m args below meth c s₁ B hml hv
  obtain ⟨rfl, rfl, hP, hK, hD, hex⟩ := hv
  have hts := atoms_spec (ws := Cond.code y cc maxL none :: wAll) B.pre
  have hC : Cx p s m #[Value.ref b] meth c cc maxL y.cls none D [] (fun U _ => ex U) := ⟨B.exec, B.bytes, hml, findClass_of_methodNamed B.named, fun w h => hts w (List.mem_cons_of_mem _ h), hK, hex, B.returns, B.notSynchronized⟩
  have hl2 := lv_entry [.ref b] (n := maxL) hl
  have hin : meth.name = "<init>" := (name_of_methodNamed B.named B.method).1.trans hyn
  show W p l e rm s m _ below meth c s.heap [] 0 0 _ (entryFrame m ([Value.ref b] : List Value).toArray maxL)
  rw [lg_entry_eq]
  exact body p e s m _ below meth c (va_A [(b, e0)] s.heap.size) hC hin (fun q h => Or.inr h) s.heap [] _ hP hD.self va_S.rf hl2
theorem j_objInit (h : Cx p s m args meth c cc nL own ret D tys Z) {idx : Nat} {a : Nat} (hw : Cond.methodLink own idx objectInit ∈ wAll) (hf : 1 ≤ R.frames) (hl0 : (st.map fun v => v.category).sum + 12 ≤ R.locals) (hd : decode cc pc = .ok (.invokespecial idx, 3)) (hp : pc + 3 = pc') (k : J p l e R s m args below meth c Qm D A nL cells slots ws pc' lv st) : J p l e R s m args below meth c Qm D A nL cells slots ws pc lv (.ref a :: st) := by
  subst hp
  intro H locs ls hP hD hS hl
  refine W.objInit h.1 h.2.1 h.2.2.2.1 (h.2.2.2.2.1 _ hw) (h.2.2.2.2.1 _ wm_20) (h.2.2.2.2.1 _ wm_21) rfl (by rw [h.2.2.1]; exact hl.1) rfl hd hf (by show 2 * 0 + _ + 12 ≤ _; omega) ?_
  exact k H locs ls hP hD hS hl
theorem j_newa (h : Cx p s m args meth c cc nL own ret D tys Z) (hA : ∀ q, s.heap.size ≤ q → A q) {atype : ArrayType} {ty : FieldType} {a0 : vp_A} {n : Int32} {N : Nat} (hw : Cond.arrayClass (newarray.typeOf atype) ∈ wAll) (hty : newarray.typeOf atype = ty) (ha : ∀ cA : ClassId, vp_cell cA a0 = arrV cA N (fun _ => defaultValue ty)) (hn : ¬ n < 0) (hN : n.toNatClampNeg = N) (hb : N * componentBytes ty ≤ 536870912) (hc : cells + 1 ≤ R.cells) (hs : slots + N ≤ R.slots) (hd : decode cc pc = .ok (.newarray atype, 2)) (hp : pc + 2 = pc')
    (k : ∀ (q : Nat) (cA : ClassId), Cx p s m args meth c cc nL own ret D (tys ++ [(cA, ty)]) Z → J p l e R s m args below meth c Qm D A nL (cells + 1) (slots + N) (ws ++ [(q, .inl (cA, a0))]) pc' lv (.ref q :: st)) : J p l e R s m args below meth c Qm D A nL cells slots ws pc lv (.int n :: st) := by
  subst hp
  intro H locs ls hP hD hS hl
  refine va_newa h.1 h.2.1 (h.2.2.2.2.1 _ hw) hty h.2.2.2.2.2.1 hP hD hS hA ha hn hN hb hc hs hd (fun q cA H1 hK hP1 hD1 hS1 => ?_)
  exact k q cA ⟨h.1, h.2.1, h.2.2.1, h.2.2.2.1, h.2.2.2.2.1, hK, h.2.2.2.2.2.2⟩ H1 locs ls hP1 hD1 hS1 hl
theorem j_newq (h : Cx p s m args meth c cc nL own ret D tys Z) (hA : ∀ q, s.heap.size ≤ q → A q) {C : String} {index : Nat} {n : Int32} {N : Nat} (hw : Cond.classLink own index C ∈ wAll) (hov : va_AO C s) (hn : ¬ n < 0) (hN : n.toNatClampNeg = N) (hb : N * 4 ≤ 536870912) (hc : cells + 1 ≤ R.cells) (hs : slots + N ≤ R.slots) (hd : decode cc pc = .ok (.anewarray index, 3)) (hp : pc + 3 = pc')
    (k : ∀ (q : Nat) (cA : ClassId), Cx p s m args meth c cc nL own ret D (tys ++ [(cA, .object C)]) Z → J p l e R s m args below meth c Qm D A nL (cells + 1) (slots + N) (ws ++ [(q, .inl (cA, N, .inr (.inr (.inr (.inr (fun _ => none))))))]) pc' lv (.ref q :: st)) : J p l e R s m args below meth c Qm D A nL cells slots ws pc lv (.int n :: st) := by
  subst hp
  intro H locs ls hP hD hS hl
  refine va_newq h.1 h.2.1 h.2.2.2.1 (h.2.2.2.2.1 _ hw) hov h.2.2.2.2.2.1 hP hD hS hA hn hN hb hc hs hd (fun q cA H1 hK hP1 hD1 hS1 => ?_)
  exact k q cA ⟨h.1, h.2.1, h.2.2.1, h.2.2.2.1, h.2.2.2.2.1, hK, h.2.2.2.2.2.2⟩ H1 locs ls hP1 hD1 hS1 hl
theorem j_new (h : Cx p s m args meth c cc nL own ret D tys Z) (hA : ∀ q, s.heap.size ≤ q → A q) {C : String} {T : u_T} {N ci index : Nat} {fs : List Value} (ty : Nat → FieldType) (hin : ∀ w ∈ u_ws C T N, w ∈ wAll) (hty : ∀ k, k < N → parseFieldDescriptor (T k).2.2.1 = some (ty k)) (w1 : Cond.classLink own index C ∈ wAll) (w2 : Cond.instantiable C N ∈ wAll) (w3 : Cond.initialized C ∈ wAll) (hcl : vwCl[ci]? = some (C, T, N)) (hfs : ∀ j, j < N → defaultValue (ty j) = vp_V fs j) (hc : cells + 1 ≤ R.cells) (hs : slots + N ≤ R.slots) (hd : decode cc pc = .ok (.new index, 3)) (hp : pc + 3 = pc')
    (k : ∀ (q : Nat), J p l e R s m args below meth c Qm D A nL (cells + 1) (slots + N) (ws ++ [(q, .inr (ci, fs))]) pc' lv (.ref q :: st)) : J p l e R s m args below meth c Qm D A nL cells slots ws pc lv st := by
  subst hp
  intro H locs ls hP hD hS hl
  refine va_new h.1 h.2.1 h.2.2.2.2.1 hin ty hty h.2.2.2.1 (h.2.2.2.2.1 _ w1) (h.2.2.2.2.1 _ w2) (h.2.2.2.2.1 _ w3) h.2.2.2.2.2.1 hP hD hS hA hcl hfs hc hs hd (fun q H1 hP1 hD1 hS1 => ?_)
  exact k q H1 locs ls hP1 hD1 hS1 hl
theorem j_putF (h : Cx p s m args meth c cc nL own ret D tys Z) (hin2 : meth.name = "<init>") {C : String} {T : u_T} {N ci index a : Nat} {fs : List Value} {v : Value} {ty : FieldType} (ty0 : Nat → FieldType) (hin : ∀ w ∈ u_ws C T N, w ∈ wAll) (hty : ∀ k, k < N → parseFieldDescriptor (T k).2.2.1 = some (ty0 k)) (hnm : ∀ a, a < N → ∀ b, b < N → a ≠ b → (T a).2.1 ≠ (T b).2.1) (q0 : Nat) (he : ws[q0]? = some (a, .inr (ci, fs))) (hc : vwCl[ci]? = some (C, T, N)) (j : Nat) (hj : j < N) (hw : Cond.fieldLink own index (T j).1 (T j).2.1 (T j).2.2.1 ∈ wAll) (hfin : (T j).2.2.2 = true) (hdecl : (T j).1 = own) (hdt : parseFieldDescriptor (T j).2.2.1 = some ty) (hn : narrow ty v = v) (hfit : fits ty v = true) (hl : j < fs.length) (hd : decode cc pc = .ok (.putfield index, 3)) (hp : pc + 3 = pc')
    (k : J p l e R s m args below meth c Qm D A nL cells slots (ws.set q0 (a, .inr (ci, fs.set j v))) pc' lv st) : J p l e R s m args below meth c Qm D A nL cells slots ws pc lv (v :: .ref a :: st) := by
  subst hp
  intro H locs ls hP hD hS hl2
  exact va_putF h.1 h.2.1 h.2.2.2.2.1 hin ty0 hty hnm h.2.2.2.1 h.2.2.2.2.2.1 hP hD hS q0 he hc j hj (h.2.2.2.2.1 _ hw) (fun _ h9 => h9) hfin hin2 hdecl hdt hn hfit hl hd (fun H1 locs1 hP1 hD1 hS1 => k H1 locs1 ls hP1 hD1 hS1 hl2)
theorem j_putG (h : Cx p s m args meth c cc nL own ret D tys Z) {C : String} {T : u_T} {N ci index a : Nat} {fs : List Value} {v : Value} {ty : FieldType} (ty0 : Nat → FieldType) (hin : ∀ w ∈ u_ws C T N, w ∈ wAll) (hty : ∀ k, k < N → parseFieldDescriptor (T k).2.2.1 = some (ty0 k)) (hnm : ∀ a, a < N → ∀ b, b < N → a ≠ b → (T a).2.1 ≠ (T b).2.1) (q0 : Nat) (he : ws[q0]? = some (a, .inr (ci, fs))) (hc : vwCl[ci]? = some (C, T, N)) (j : Nat) (hj : j < N) (hw : Cond.fieldLink own index (T j).1 (T j).2.1 (T j).2.2.1 ∈ wAll) (hfin : (T j).2.2.2 = false) (hdt : parseFieldDescriptor (T j).2.2.1 = some ty) (hn : narrow ty v = v) (hfit : fits ty v = true) (hl : j < fs.length) (hd : decode cc pc = .ok (.putfield index, 3)) (hp : pc + 3 = pc')
    (k : J p l e R s m args below meth c Qm D A nL cells slots (ws.set q0 (a, .inr (ci, fs.set j v))) pc' lv st) : J p l e R s m args below meth c Qm D A nL cells slots ws pc lv (v :: .ref a :: st) := by
  subst hp
  intro H locs ls hP hD hS hl2
  exact va_put h.1 h.2.1 h.2.2.2.2.1 hin ty0 hty hnm h.2.2.2.1 h.2.2.2.2.2.1 hP hD hS q0 he hc j hj (h.2.2.2.2.1 _ hw) (fun _ h9 => h9) hfin hdt hn hfit hl hd (fun H1 locs1 hP1 hD1 hS1 => k H1 locs1 ls hP1 hD1 hS1 hl2)
theorem j_getG (h : Cx p s m args meth c cc nL own ret D tys Z) {C : String} {T : u_T} {N ci index a : Nat} {fs : List Value} {v : Value} (hin : ∀ w ∈ u_ws C T N, w ∈ wAll) (q0 : Nat) (he : ws[q0]? = some (a, .inr (ci, fs))) (hc : vwCl[ci]? = some (C, T, N)) (j : Nat) (hj : j < N) (hw : Cond.fieldLink own index (T j).1 (T j).2.1 (T j).2.2.1 ∈ wAll) (hv : fs[j]? = some v) (hd : decode cc pc = .ok (.getfield index, 3)) (hp : pc + 3 = pc')
    (k : J p l e R s m args below meth c Qm D A nL cells slots ws pc' lv (v :: st)) : J p l e R s m args below meth c Qm D A nL cells slots ws pc lv (.ref a :: st) := by
  subst hp
  intro H locs ls hP hD hS hl2
  exact va_get h.1 h.2.1 h.2.2.2.2.1 hin h.2.2.2.1 h.2.2.2.2.2.1 hP q0 he hc j hj (h.2.2.2.2.1 _ hw) (fun _ h9 => h9) hv hd (k H locs ls hP hD hS hl2)
theorem j_iastG (h : Cx p s m args meth c cc nL own ret D tys Z) {a : Nat} (q0 t0 : Nat) {cA : ClassId} {n j : Nat} {f : Nat → Int32} (ha : ws[q0]? = some (a, .inl (cA, n, .inl f))) (ht : tys[t0]? = some (cA, .int)) {i x : Int32} (hi : vp_in i n) (hj : i.toNatClampNeg = j) (hd : decode cc pc = .ok (.iastore, 1)) (hp : pc + 1 = pc')
    (k : J p l e R s m args below meth c Qm D A nL cells slots (ws.set q0 (a, .inl (cA, n, .inl (upd f j x)))) pc' lv st) : J p l e R s m args below meth c Qm D A nL cells slots ws pc lv (.int x :: .int i :: .ref a :: st) := by
  subst hp hj
  exact fun H locs ls hP hD hS hl => va_iast h.1 h.2.1 h.2.2.2.2.2.1 hP hD hS q0 t0 ha ht hi hd (fun H1 locs1 hP1 hD1 hS1 => k H1 locs1 ls hP1 hD1 hS1 hl)
theorem j_zastG (h : Cx p s m args meth c cc nL own ret D tys Z) {a : Nat} (q0 t0 : Nat) {cA : ClassId} {n j : Nat} {f : Nat → Int32} (ha : ws[q0]? = some (a, .inl (cA, n, .inl f))) (ht : tys[t0]? = some (cA, .boolean)) {i x : Int32} (hi : vp_in i n) (hj : i.toNatClampNeg = j) (hd : decode cc pc = .ok (.bastore, 1)) (hp : pc + 1 = pc')
    (k : J p l e R s m args below meth c Qm D A nL cells slots (ws.set q0 (a, .inl (cA, n, .inl (upd f j (vp_nar .boolean x))))) pc' lv st) : J p l e R s m args below meth c Qm D A nL cells slots ws pc lv (.int x :: .int i :: .ref a :: st) := by
  subst hp hj
  exact fun H locs ls hP hD hS hl => va_zast h.1 h.2.1 h.2.2.2.2.2.1 hP hD hS q0 t0 ha ht hi hd (fun H1 locs1 hP1 hD1 hS1 => k H1 locs1 ls hP1 hD1 hS1 hl)
theorem j_alenG (h : Cx p s m args meth c cc nL own ret D tys Z) {a : Nat} (q0 t0 : Nat) {cA : ClassId} {x : vp_A} {ty : FieldType} (ha : ws[q0]? = some (a, .inl (cA, x))) (ht : tys[t0]? = some (cA, ty)) {v : Int32} (hv : Int32.ofNat x.1 = v) (hd : decode cc pc = .ok (.arraylength, 1)) (hp : pc + 1 = pc')
    (k : J p l e R s m args below meth c Qm D A nL cells slots ws pc' lv (.int v :: st)) : J p l e R s m args below meth c Qm D A nL cells slots ws pc lv (.ref a :: st) := by
  subst hp
  exact fun H locs ls hP hD hS hl => va_alen h.1 h.2.1 h.2.2.2.2.2.1 hP q0 t0 ha ht hv hd (k H locs ls hP hD hS hl)
theorem j_astG (h : Cx p s m args meth c cc nL own ret D tys Z) {a : Nat} (q0 t0 qk ci : Nat) {cA : ClassId} {r : vw_C} {n v j : Nat} {vs : List Value} {f : Nat → Option Nat} (ha : ws[q0]? = some (a, .inl (cA, n, .inr (.inr (.inr (.inr f)))))) (ht : tys[t0]? = some (cA, .object r.1)) (hv : ws[qk]? = some (v, .inr (ci, vs))) (hc : vwCl[ci]? = some r) {i : Int32} (hi : vp_in i n) (hj : i.toNatClampNeg = j) (hd : decode cc pc = .ok (.aastore, 1)) (hp : pc + 1 = pc')
    (k : J p l e R s m args below meth c Qm D A nL cells slots (ws.set q0 (a, .inl (cA, n, .inr (.inr (.inr (.inr (va_up f j (some v)))))))) pc' lv st) : J p l e R s m args below meth c Qm D A nL cells slots ws pc lv (.ref v :: .int i :: .ref a :: st) := by
  subst hp hj
  exact fun H locs ls hP hD hS hl => va_astq h.1 h.2.1 h.2.2.2.2.2.1 hP hD hS q0 t0 qk ci ha ht hv hc hi hd (fun H1 locs1 hP1 hD1 hS1 => k H1 locs1 ls hP1 hD1 hS1 hl)
/-- the same cells in another order -/
theorem j_ws {ws' : va_W} (is : List Nat) (h1 : is.filterMap (fun i => ws[i]?) = ws') (h2 : is.map (fun i => ws[i]?) = ws'.map some) (hn : va_nd is = true) (k : J p l e R s m args below meth c Qm D A nL cells slots ws' pc lv st) : J p l e R s m args below meth c Qm D A nL cells slots ws pc lv st :=
  fun H locs ls hP hD hS hl => k H locs ls (hP.sub is h1) (hD.sub is hn h2) hS hl
theorem j_wide {c1 s1 : Nat} (h1 : cells ≤ c1) (h2 : slots ≤ s1) (k : J p l e R s m args below meth c Qm D A nL c1 s1 ws pc lv st) : J p l e R s m args below meth c Qm D A nL cells slots ws pc lv st :=
  fun H locs ls hP hD hS hl => W.widen h1 h2 (k H locs ls hP hD hS hl)
theorem j_vretC {S : Type} {w1 : S → va_W} {t1 : S → List (ClassId × FieldType)} {post : S → Prop} (h : Cx p s m args meth c cc nL own none D tys Z) (u : S) (hw : w1 u = ws) (is : List Nat) (ht1 : is.filterMap (fun i => tys[i]?) = t1 u) (hq : post u) (hd : decode cc pc = .ok (.return_, 1)) : J p l e R s m args below meth c (MQ below (va_Qv post (BC D A w1 t1) A) args s cells slots A) D A nL cells slots ws pc lv [] := by
  subst hw
  exact fun H locs ls hP hD hS hl => W.vret h.1 h.2.1 h.2.2.2.2.2.2.2.1 (fun t ht hW => ⟨⟨u, rfl, hq, by rw [ht]; exact hP, va_K.moved hW.alike (h.2.2.2.2.2.1.sub is ht1), hD⟩, hS.F ht⟩) hS.2.2 hd h.2.2.2.2.2.2.2.2
/-- a constructor's call: the new cell stands last -/
theorem jcI {S : Type} (h : Cx p s m args meth c cc nL own ret D tys Z) (hA : ∀ q, s.heap.size ≤ q → A q) {y : MethodName} {index maxL : Nat} {bytes : ByteArray} {rm : Room} {ex : State → Prop} {b : Nat} {e0 : va_E} {w1 : S → va_W} {t1 : S → List (ClassId × FieldType)} {post : S → Prop} {mc ms : Nat} {rest : va_W}
    (hM : Mc l y bytes maxL rm D ex b e0 w1 t1 post mc ms) (hex : ex s) (hm : ∀ (u U : State), u.vm.Alike U.vm → ex u → ex U)
    (wl : Cond.methodLink own index y ∈ wAll) (w2 : Cond.instanceMethod y ∈ wAll) (w4 : Cond.initialized y.cls ∈ wAll) (w5 : Cond.code y bytes maxL none ∈ wAll) (hyn : y.name = "<init>")
    (hdy : y.cls ≠ "java/lang/invoke/MethodHandle" ∧ y.cls ≠ "java/lang/invoke/VarHandle" ∧ (parseMethodDescriptor y.desc).map (fun d => d.parameters.length) = some 0) (hrm : rm.cells = mc ∧ rm.slots = ms) (hR : rm.frames + 1 ≤ R.frames ∧ 8 + (maxL + 11) + rm.locals ≤ R.locals) (hcs : cells + mc ≤ R.cells ∧ slots + ms ≤ R.slots) (hroom : (st.map fun v => v.category).sum ≤ 8) (hd : decode cc pc = .ok (.invokespecial index, 3)) (hp : pc + 3 = pc')
    (k : ∀ u : S, post u → Cx p s m args meth c cc nL own ret D (tys ++ t1 u) Z → J p l e R s m args below meth c Qm D A nL (cells + mc) (slots + ms) (rest ++ w1 u) pc' lv st) : J p l e R s m args below meth c Qm D A nL cells slots (rest ++ [(b, e0)]) pc lv (.ref b :: st) := by
  subst hp
  intro H locs ls hP hD hS hl
  have hC1 : [rest.length].map (fun i => (rest ++ [(b, e0)])[i]?) = [(b, e0)].map some := by simp
  have hC2 : [rest.length].filterMap (fun i => (rest ++ [(b, e0)])[i]?) = [(b, e0)] := by simp
  have hPc := hP.sub [rest.length] hC2
  have hDc := hD.sub [rest.length] rfl hC1
  have hFc := va_free hD hS hA [rest.length] hC1
  refine va_callv (va_runI (As := []) (rest := st) (Ts := wAll) ⟨h.1, h.2.1, h.2.2.1, h.2.2.2.1, h.2.2.2.2.1⟩ (hM H.size) (⟨callB_of 0 h.2.2.2.2.1 (fun w hw => (List.mem_cons.mp hw).elim (fun q => q ▸ wAll_good wAll (fun _ z => z) _ w5) (fun q => wAll_good wAll (fun _ z => z) _ q)) rfl hrm.1 hrm.2 (h.2.2.2.2.1 _ w4) (h.2.2.2.2.1 _ wl) hdy hR, hyn, h.2.2.2.2.1 _ w2⟩) ⟨PC_blind hm, fun U hU hW => ⟨rfl, by rw [hU], by rw [hU]; exact hPc, va_K.moved hW.alike (h.2.2.2.2.2.1.sub [] rfl), hDc.weaken (fun _ _ _ _ => trivial), hm s U hW.alike hex⟩⟩ rfl rfl hl.1 rfl (lv_room hroom) hd ⟨hcs.1, hcs.2⟩) hS (fun q _ hq => hFc q hq) hFc (fun u t H1 locs1 ht hvm hw hB hz1 hk1 hS1 => ?_)
  obtain ⟨hP1, hK1, hD1⟩ := hB
  rw [ht] at hP1
  obtain ⟨hP2, hD2⟩ := va_join hP hD [rest.length] (List.range rest.length) hC1 (rg_last rest (b, e0)) (va_nd_of _ List.nodup_range) (fun i hi => by simp at hi ⊢; omega) hk1 hFc hP1 hD1
  exact k u hw ⟨h.1, h.2.1, h.2.2.1, h.2.2.2.1, h.2.2.2.2.1, h.2.2.2.2.2.1.app (va_K.moved hvm.symm hK1), h.2.2.2.2.2.2⟩ H1 locs1 ls hP2 hD2 hS1 hl
end JC
