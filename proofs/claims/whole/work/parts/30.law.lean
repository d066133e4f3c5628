/-! ===== the law: calls of the two sides, each in its own world ===== -/
theorem va_D_fst {A : Nat → Prop} {w w' : va_W} (h : w'.map Prod.fst = w.map Prod.fst) (hD : va_D A w) : va_D A w' := by
  have key : ∀ (k : Nat) (x : Nat × va_E), w'[k]? = some x → ∃ e, w[k]? = some (x.1, e) := by
    intro k x hx
    have h1 : (w'.map Prod.fst)[k]? = some x.1 := by rw [List.getElem?_map, hx]; rfl
    rw [h, List.getElem?_map] at h1
    cases hw : w[k]? with
    | none => rw [hw] at h1; cases h1
    | some y =>
      rw [hw] at h1
      have h2 : y.1 = x.1 := Option.some.inj h1
      exact ⟨y.2, by rw [← h2]⟩
  refine ⟨fun i j a b ha hb hab => ?_, fun k x hx => ?_⟩
  · obtain ⟨e1, h1⟩ := key i a ha
    obtain ⟨e2, h2⟩ := key j b hb
    exact hD.1 i j _ _ h1 h2 hab
  · obtain ⟨e1, h1⟩ := key k x hx
    exact hD.2 k (x.1, e1) h1
/-- a part of the world changed, the rest stayed -/
theorem va_mid {D : va_G} {A Af : Nat → Prop} {l1 w w' l2 : va_W} {H H1 : Heap} (hP : va_P D vwCl (l1 ++ (w ++ l2)) H) (hD : va_D A (l1 ++ (w ++ l2))) (hf : w'.map Prod.fst = w.map Prod.fst) (hA : ∀ a, Af a → ∃ (k : Nat) (e : va_E), w[k]? = some (a, e)) (hk : ∀ q : Nat, q < H.size → ¬ Af q → H1[q]? = H[q]?) (hP1 : va_P D vwCl w' H1) : va_P D vwCl (l1 ++ (w' ++ l2)) H1 ∧ va_D A (l1 ++ (w' ++ l2)) := by
  have hlen : w'.length = w.length := by have := congrArg List.length hf; simpa using this
  have hD' : va_D A (l1 ++ (w' ++ l2)) := va_D_fst (by simp [hf]) hD
  refine ⟨fun k x hx => ?_, hD'⟩
  have out : ∀ (j : Nat), (l1 ++ (w ++ l2))[j]? = some x → (j < l1.length ∨ l1.length + w.length ≤ j) → va_at D vwCl x H1 := by
    intro j hj hpos
    have h0 := hP j x hj
    refine h0.kept (hk x.1 h0.lt (fun hz => ?_))
    obtain ⟨i, e, hi⟩ := hA _ hz
    have hi2 : (l1 ++ (w ++ l2))[l1.length + i]? = some (x.1, e) := by
      have hlt : i < w.length := (List.getElem?_eq_some_iff.mp hi).1
      rw [List.getElem?_append_right (by omega), List.getElem?_append_left (by omega)]
      rw [show l1.length + i - l1.length = i by omega]
      exact hi
    have hlt : i < w.length := (List.getElem?_eq_some_iff.mp hi).1
    have := hD.1 j (l1.length + i) _ _ hj hi2 rfl
    omega
  by_cases h1 : k < l1.length
  · refine out k ?_ (Or.inl h1)
    rw [List.getElem?_append_left h1] at hx ⊢
    exact hx
  · by_cases h2 : k < l1.length + w.length
    · rw [List.getElem?_append_right (by omega), List.getElem?_append_left (by omega)] at hx
      exact hP1 _ x hx
    · refine out k ?_ (Or.inr (by omega))
      rw [List.getElem?_append_right (by omega), List.getElem?_append_right (by omega)] at hx ⊢
      rw [hlen] at hx
      exact hx
theorem va_P_mid {D : va_G} {l1 w l2 : va_W} {H : Heap} (hP : va_P D vwCl (l1 ++ (w ++ l2)) H) : va_P D vwCl w H := fun k x hx => hP (l1.length + k) x (by
  have hlt : k < w.length := (List.getElem?_eq_some_iff.mp hx).1
  rw [List.getElem?_append_right (by omega), List.getElem?_append_left (by omega), show l1.length + k - l1.length = k by omega]
  exact hx)
section JL
variable {p : Program} {l : Launch} {e : Env} {R : Room} {s : State} {m : MethodId} {args : Array Value} {below : List Frame} {meth : Method} {c : Code} {Qm : State → Prop} {D : va_G} {A : Nat → Prop} {nL cells slots : Nat} {cc : ByteArray} {own : String} {ret : Option FieldType} {tys : List (ClassId × FieldType)} {Z : State → Heap → Prop} {ws : va_W} {pc pc' : Nat} {lv lv' : List (Nat × Value)} {st : List Value}
theorem jL_sld (h : Cx p s m args meth c cc nL own ret D tys Z) {b L : Nat} {xs : Nat → Int32} (hX : va_X b L xs s s.heap) (hbl : b < s.heap.size) (hbA : ¬ A b) {i : Int32} {j : Nat} (hi : vp_in i L) (hj : i.toNatClampNeg = j) (hd : decode cc pc = .ok (.iaload, 1)) (hp : pc + 1 = pc') (k : J p l e R s m args below meth c Qm D A nL cells slots ws pc' lv (.int (xs j) :: st)) : J p l e R s m args below meth c Qm D A nL cells slots ws pc lv (.int i :: .ref b :: st) := by
  subst hp hj
  exact fun H locs ls hP hD hS hl => va_sld h.1 h.2.1 hX hbl hbA hS hi hd (k H locs ls hP hD hS hl)
theorem jL_slen (h : Cx p s m args meth c cc nL own ret D tys Z) {b L : Nat} {xs : Nat → Int32} (hX : va_X b L xs s s.heap) (hbl : b < s.heap.size) (hbA : ¬ A b) (hd : decode cc pc = .ok (.arraylength, 1)) (hp : pc + 1 = pc') (k : J p l e R s m args below meth c Qm D A nL cells slots ws pc' lv (.int (nI L) :: st)) : J p l e R s m args below meth c Qm D A nL cells slots ws pc lv (.ref b :: st) := by
  subst hp
  exact fun H locs ls hP hD hS hl => va_slen h.1 h.2.1 hX hbl hbA hS hd (k H locs ls hP hD hS hl)
theorem jF_i (h : Cx p s m args meth c cc nL own ret D tys Z) (l1 l2 : va_W) {wf : St → va_W} {tysf : List (ClassId × FieldType)} {Zf : State → Heap → Prop} {Af : Nat → Prop} {σ : St} (hE : Env_ok Zf wf Af) (hmap : ∀ u, (wf u).map Prod.fst = (wf σ).map Prod.fst) (hAf : ∀ a, Af a → ∃ (k : Nat) (e : va_E), (wf σ)[k]? = some (a, e)) (hKf : va_K D vwCl tysf s) (hZf : ∀ (U : State) (H : Heap), s.vm.Alike U.vm → (∀ a : Nat, a < s.heap.size → ¬ A a → H[a]? = s.heap[a]?) → (∀ a, Af a → A a) → Zf U H)
    {y : MethodName} {index n maxL : Nat} {bytes : ByteArray} {rt : Option FieldType} {rm : Room} {Q : Int32 → St → Prop} {As : List Value} {st0 : List Value} {b q0 ci N : Nat} {T : u_T} {fs : List Value} (hb : (wf σ)[q0]? = some (b, .inr (ci, fs))) (hc : vwCl[ci]? = some (y.cls, T, N)) (hM : Mi l y bytes maxL rt rm D tysf Zf wf Af (.ref b :: As) σ Q) (w1 : Cond.methodLink own index y ∈ wAll) (w2 : Cond.instanceMethod y ∈ wAll) (w3 : Cond.selects y.cls y y ∈ wAll) (w4 : Cond.initialized y.cls ∈ wAll) (w5 : Cond.code y bytes maxL rt ∈ wAll) (hdy : y.cls = y.cls ∧ y.cls ≠ "java/lang/invoke/MethodHandle" ∧ y.cls ≠ "java/lang/invoke/VarHandle" ∧ (parseMethodDescriptor y.desc).map (fun d => d.parameters.length) = some n) (hrm : rm.cells = 0 ∧ rm.slots = 0) (hR : rm.frames + 1 ≤ R.frames ∧ 8 + (maxL + 11) + rm.locals ≤ R.locals) (hcs : cells ≤ R.cells ∧ slots ≤ R.slots) (hn : As.length = n) (hst : As.reverse ++ .ref b :: st = st0) (hroom : (st.map fun v => v.category).sum ≤ 8) (hd : decode cc pc = .ok (.invokevirtual index, 3)) (hp : pc + 3 = pc')
    (k : ∀ (r : Int32) (u : St), Q r u → J p l e R s m args below meth c Qm D A nL cells slots (l1 ++ (wf u ++ l2)) pc' lv (.int r :: st)) : J p l e R s m args below meth c Qm D A nL cells slots (l1 ++ (wf σ ++ l2)) pc lv st0 := by
  subst hp
  subst hst
  intro H locs ls hP hD hS hl
  have hPm := va_P_mid hP
  have hsub : ∀ a, Af a → A a := fun a ha => by
    obtain ⟨i, ee, hi⟩ := hAf a ha
    have hlt : i < (wf σ).length := (List.getElem?_eq_some_iff.mp hi).1
    refine hD.2 (l1.length + i) (a, ee) ?_
    rw [List.getElem?_append_right (by omega), List.getElem?_append_left (by omega), show l1.length + i - l1.length = i by omega]
    exact hi
  refine va_calli (va_runV (As := As) (rest := st) (C := y.cls) (Ts := wAll) ⟨h.1, h.2.1, h.2.2.1, h.2.2.2.1, h.2.2.2.2.1⟩ hM (⟨callB_of n h.2.2.2.2.1 (fun w hw => (List.mem_cons.mp hw).elim (fun q => q ▸ wAll_good wAll (fun _ z => z) _ w5) (fun q => wAll_good wAll (fun _ z => z) _ q)) rfl hrm.1 hrm.2 (h.2.2.2.2.1 _ w4) (h.2.2.2.2.1 _ w1) hdy.2 hR, h.2.2.2.2.1 _ w2, h.2.2.2.2.1 _ w3⟩) ⟨va_Pc_blind hE.2.1, va_recv h.2.2.2.2.2.1 hPm hc hb, fun U hU hW => ⟨rfl, by rw [hU]; exact hPm, va_K.moved hW.alike hKf, by rw [hU]; exact hZf U H hW.alike hS.2.1 hsub⟩⟩ rfl hn hl.1 rfl (lv_room hroom) hd ⟨hcs.1, hcs.2⟩) hS (fun q _ hq => hsub q hq) hsub (fun r u t H1 locs1 ht hvm hw hB hz1 hk1 hS1 => ?_)
  rw [BW, ht] at hB
  obtain ⟨hP1, hD1⟩ := va_mid hP hD (hmap u) hAf hk1 hB
  exact k r u hw H1 locs1 ls hP1 hD1 hS1 hl
theorem jF_l (h : Cx p s m args meth c cc nL own ret D tys Z) (l1 l2 : va_W) {wf : St → va_W} {tysf : List (ClassId × FieldType)} {Zf : State → Heap → Prop} {Af : Nat → Prop} {σ : St} (hE : Env_ok Zf wf Af) (hmap : ∀ u, (wf u).map Prod.fst = (wf σ).map Prod.fst) (hAf : ∀ a, Af a → ∃ (k : Nat) (e : va_E), (wf σ)[k]? = some (a, e)) (hKf : va_K D vwCl tysf s) (hZf : ∀ (U : State) (H : Heap), s.vm.Alike U.vm → (∀ a : Nat, a < s.heap.size → ¬ A a → H[a]? = s.heap[a]?) → (∀ a, Af a → A a) → Zf U H)
    {y : MethodName} {index n maxL : Nat} {bytes : ByteArray} {rt : Option FieldType} {rm : Room} {Q : Int64 → St → Prop} {As : List Value} {st0 : List Value} {b q0 ci N : Nat} {T : u_T} {fs : List Value} (hb : (wf σ)[q0]? = some (b, .inr (ci, fs))) (hc : vwCl[ci]? = some (y.cls, T, N)) (hM : Ml l y bytes maxL rt rm D tysf Zf wf Af (.ref b :: As) σ Q) (w1 : Cond.methodLink own index y ∈ wAll) (w2 : Cond.instanceMethod y ∈ wAll) (w3 : Cond.selects y.cls y y ∈ wAll) (w4 : Cond.initialized y.cls ∈ wAll) (w5 : Cond.code y bytes maxL rt ∈ wAll) (hdy : y.cls = y.cls ∧ y.cls ≠ "java/lang/invoke/MethodHandle" ∧ y.cls ≠ "java/lang/invoke/VarHandle" ∧ (parseMethodDescriptor y.desc).map (fun d => d.parameters.length) = some n) (hrm : rm.cells = 0 ∧ rm.slots = 0) (hR : rm.frames + 1 ≤ R.frames ∧ 8 + (maxL + 11) + rm.locals ≤ R.locals) (hcs : cells ≤ R.cells ∧ slots ≤ R.slots) (hn : As.length = n) (hst : As.reverse ++ .ref b :: st = st0) (hroom : (st.map fun v => v.category).sum ≤ 8) (hd : decode cc pc = .ok (.invokevirtual index, 3)) (hp : pc + 3 = pc')
    (k : ∀ (r : Int64) (u : St), Q r u → J p l e R s m args below meth c Qm D A nL cells slots (l1 ++ (wf u ++ l2)) pc' lv (.long r :: st)) : J p l e R s m args below meth c Qm D A nL cells slots (l1 ++ (wf σ ++ l2)) pc lv st0 := by
  subst hp
  subst hst
  intro H locs ls hP hD hS hl
  have hPm := va_P_mid hP
  have hsub : ∀ a, Af a → A a := fun a ha => by
    obtain ⟨i, ee, hi⟩ := hAf a ha
    have hlt : i < (wf σ).length := (List.getElem?_eq_some_iff.mp hi).1
    refine hD.2 (l1.length + i) (a, ee) ?_
    rw [List.getElem?_append_right (by omega), List.getElem?_append_left (by omega), show l1.length + i - l1.length = i by omega]
    exact hi
  refine va_calll (va_runV (As := As) (rest := st) (C := y.cls) (Ts := wAll) ⟨h.1, h.2.1, h.2.2.1, h.2.2.2.1, h.2.2.2.2.1⟩ hM (⟨callB_of n h.2.2.2.2.1 (fun w hw => (List.mem_cons.mp hw).elim (fun q => q ▸ wAll_good wAll (fun _ z => z) _ w5) (fun q => wAll_good wAll (fun _ z => z) _ q)) rfl hrm.1 hrm.2 (h.2.2.2.2.1 _ w4) (h.2.2.2.2.1 _ w1) hdy.2 hR, h.2.2.2.2.1 _ w2, h.2.2.2.2.1 _ w3⟩) ⟨va_Pc_blind hE.2.1, va_recv h.2.2.2.2.2.1 hPm hc hb, fun U hU hW => ⟨rfl, by rw [hU]; exact hPm, va_K.moved hW.alike hKf, by rw [hU]; exact hZf U H hW.alike hS.2.1 hsub⟩⟩ rfl hn hl.1 rfl (lv_room hroom) hd ⟨hcs.1, hcs.2⟩) hS (fun q _ hq => hsub q hq) hsub (fun r u t H1 locs1 ht hvm hw hB hz1 hk1 hS1 => ?_)
  rw [BW, ht] at hB
  obtain ⟨hP1, hD1⟩ := va_mid hP hD (hmap u) hAf hk1 hB
  exact k r u hw H1 locs1 ls hP1 hD1 hS1 hl
end JL
theorem wX_fst (q : Nat → Nat) (ca : Nat → ClassId) (u σ : St) : (wX q ca u).map Prod.fst = (wX q ca σ).map Prod.fst := rfl
theorem wM_fst (q : Nat → Nat) (ca : Nat → ClassId) (u σ : St) : (wM q ca u).map Prod.fst = (wM q ca σ).map Prod.fst := rfl
theorem AX_in (q : Nat → Nat) (ca : Nat → ClassId) (σ : St) : ∀ a, AX q a → ∃ (k : Nat) (e : va_E), (wX q ca σ)[k]? = some (a, e) := by
  rintro a ⟨k, hk, rfl⟩
  have hm : ((wX q ca σ).map Prod.fst)[k]? = some (q k) := by
    rw [show (wX q ca σ).map Prod.fst = (List.range 28).map q from rfl, List.getElem?_map, List.getElem?_range hk]; rfl
  rw [List.getElem?_map] at hm
  cases hw : (wX q ca σ)[k]? with
  | none => rw [hw] at hm; cases hm
  | some y => rw [hw] at hm; exact ⟨k, y.2, by rw [hw, ← Option.some.inj hm]⟩
theorem AM_in (q : Nat → Nat) (ca : Nat → ClassId) (σ : St) : ∀ a, AM q a → ∃ (k : Nat) (e : va_E), (wM q ca σ)[k]? = some (a, e) := by
  rintro a ⟨k, hk, rfl⟩
  have hm : ((wM q ca σ).map Prod.fst)[k]? = some (q k) := by
    rw [show (wM q ca σ).map Prod.fst = (List.range 19).map q from rfl, List.getElem?_map, List.getElem?_range hk]; rfl
  rw [List.getElem?_map] at hm
  cases hw : (wM q ca σ)[k]? with
  | none => rw [hw] at hm; cases hm
  | some y => rw [hw] at hm; exact ⟨k, y.2, by rw [hw, ← Option.some.inj hm]⟩
theorem ixL {k L d : Nat} {c : Int32} (hc : nI d = c) (hd : d < 6) (hk : k + 6 ≤ L) (hL : L ≤ 3072) : vp_in (nI k + c) L ∧ (nI k + c).toNatClampNeg = k + d := by
  subst hc
  rw [nI_add]
  exact ⟨vp_in_nI (by omega) (by omega), nI_clamp (by omega)⟩
/-- the law's standing: all that a case needs -/
def lw_C (p : Program) (s : State) (m : MethodId) (b : Nat) (meth : Method) (c : Code) (L : Nat) (xs : Nat → Int32) (D : va_G) (q q2 : Nat → Nat) (ca ca2 : Nat → ClassId) (t : Nat) : Prop :=
  Cx p s m #[Value.ref b] meth c code 4 RL ret D (tysX ca ++ tysM ca2) (fun _ _ => True) ∧ va_X b L xs s s.heap ∧ b < s.heap.size ∧ L ≤ 3072 ∧ qok 28 q ∧ qok 19 q2 ∧ (va_Z RX3 "C_OF" "[I" (.ref t) (fun a => s.heap.size ≤ a) s s.heap ∧ va_T .int t 36 (fun j => .int (COF j)) (fun a => s.heap.size ≤ a) s s.heap)
theorem lw_ZX {s : State} {q : Nat → Nat} {t : Nat} (h : va_Z RX3 "C_OF" "[I" (.ref t) (fun a => s.heap.size ≤ a) s s.heap ∧ va_T .int t 36 (fun j => .int (COF j)) (fun a => s.heap.size ≤ a) s s.heap) (U : State) (H : Heap) (ha : s.vm.Alike U.vm) (hk : ∀ a : Nat, a < s.heap.size → ¬ (fun a : Nat => s.heap.size ≤ a) a → H[a]? = s.heap[a]?) (hs : ∀ a, AX q a → (fun a : Nat => s.heap.size ≤ a) a) : ZX q t U H :=
  ⟨((va_Z.moved ha h.1).kept hk).narrow hs, ((va_T.moved ha h.2).kept hk).narrow hs⟩
set_option maxHeartbeats 4000000 in
set_option maxRecDepth 100000 in
theorem law_c0 {p : Program} {l : Launch} {e : Env} {s : State} {m : MethodId} {below : List Frame} {meth : Method} {c : Code} {Qm : State → Prop} {b L t k cells slots : Nat} {xs : Nat → Int32} {D : va_G} {q q2 : Nat → Nat} {ca ca2 : Nat → ClassId} {Rel : St → St → Prop} (hC : lw_C p s m b meth c L xs D q q2 ca ca2 t) (hcs : cells ≤ room_1.cells ∧ slots ≤ room_1.slots) (hk : k + 6 ≤ L) (hO : Ob_turn Rel) (σ τ : St) (hR : Rel σ τ) (hnext : ∀ σ τ : St, Rel σ τ → J p l e room_1 s m #[Value.ref b] below meth c Qm D (fun a => s.heap.size ≤ a) 4 cells slots (wX q ca σ ++ wM q2 ca2 τ) 1153 [(3, .int (nI k)), (2, .ref (q2 0)), (1, .ref (q 0)), (0, .ref b)] []) : J p l e room_1 s m #[Value.ref b] below meth c Qm D (fun a => s.heap.size ≤ a) 4 cells slots (wX q ca σ ++ wM q2 ca2 τ) 176 [(3, .int (nI k)), (2, .ref (q2 0)), (1, .ref (q 0)), (0, .ref b)] [] := by
  refine j_aload_n hC.1 2 dL_law_176 (pc' := 177) rfl rfl ?_
  refine j_aload_n hC.1 3 dL_law_177 (pc' := 178) rfl rfl ?_
  refine j_iload_n hC.1 0 dL_law_178 (pc' := 179) rfl rfl ?_
  refine j_iconst hC.1 (v := 1) dL_law_179 (pc' := 180) rfl (by decide) ?_
  refine j_iadd hC.1 dL_law_180 (pc' := 181) rfl ?_
  refine jL_sld hC.1 hC.2.1 hC.2.2.1 (Nat.not_le.mpr hC.2.2.1) (j := k + 1) (ixL (d := 1) rfl (by decide) hk hC.2.2.2.1).1 (ixL (d := 1) rfl (by decide) hk hC.2.2.2.1).2 dL_law_181 (pc' := 182) rfl ?_
  refine j_aload_n hC.1 3 dL_law_182 (pc' := 183) rfl rfl ?_
  refine j_iload_n hC.1 0 dL_law_183 (pc' := 184) rfl rfl ?_
  refine j_iconst hC.1 (v := 2) dL_law_184 (pc' := 185) rfl (by decide) ?_
  refine j_iadd hC.1 dL_law_185 (pc' := 186) rfl ?_
  refine jL_sld hC.1 hC.2.1 hC.2.2.1 (Nat.not_le.mpr hC.2.2.1) (j := k + 2) (ixL (d := 2) rfl (by decide) hk hC.2.2.2.1).1 (ixL (d := 2) rfl (by decide) hk hC.2.2.2.1).2 dL_law_186 (pc' := 187) rfl ?_
  refine jF_i hC.1 [] (wM q2 ca2 τ) (wf := wX q ca) (σ := σ) (eX hC.2.2.2.2.1 (t := t)) (fun u => wX_fst q ca u σ) (AX_in q ca σ) (hC.1.2.2.2.2.2.1.sub [0, 1, 2, 3, 4, 5, 6, 7, 8, 9, 10, 11, 12, 13, 14, 15, 16, 17] rfl) (fun U H h1 h2 h3 => lw_ZX hC.2.2.2.2.2.2 U H h1 h2 h3) (As := [.int (xs (k + 1)), .int (xs (k + 2))]) obX_X7 rfl (lk_X7_turn hC.2.2.2.2.1 ((xs (k + 1))) ((xs (k + 2))) σ _ (hO σ τ ((xs (k + 1))) ((xs (k + 2))) hR)) wm_171 wm_172 wm_173 wm_1 wm_174 dy_X7_turn ⟨rfl, rfl⟩ ⟨Nat.le_of_ble_eq_true rfl, Nat.le_of_ble_eq_true rfl⟩ hcs rfl rfl (Nat.le_of_ble_eq_true rfl) dL_law_187 (pc' := 190) rfl (fun r u hf => ?_)
  refine j_aload_n hC.1 1 dL_law_190 (pc' := 191) rfl rfl ?_
  refine j_aload_n hC.1 3 dL_law_191 (pc' := 192) rfl rfl ?_
  refine j_iload_n hC.1 0 dL_law_192 (pc' := 193) rfl rfl ?_
  refine j_iconst hC.1 (v := 1) dL_law_193 (pc' := 194) rfl (by decide) ?_
  refine j_iadd hC.1 dL_law_194 (pc' := 195) rfl ?_
  refine jL_sld hC.1 hC.2.1 hC.2.2.1 (Nat.not_le.mpr hC.2.2.1) (j := k + 1) (ixL (d := 1) rfl (by decide) hk hC.2.2.2.1).1 (ixL (d := 1) rfl (by decide) hk hC.2.2.2.1).2 dL_law_195 (pc' := 196) rfl ?_
  refine j_aload_n hC.1 3 dL_law_196 (pc' := 197) rfl rfl ?_
  refine j_iload_n hC.1 0 dL_law_197 (pc' := 198) rfl rfl ?_
  refine j_iconst hC.1 (v := 2) dL_law_198 (pc' := 199) rfl (by decide) ?_
  refine j_iadd hC.1 dL_law_199 (pc' := 200) rfl ?_
  refine jL_sld hC.1 hC.2.1 hC.2.2.1 (Nat.not_le.mpr hC.2.2.1) (j := k + 2) (ixL (d := 2) rfl (by decide) hk hC.2.2.2.1).1 (ixL (d := 2) rfl (by decide) hk hC.2.2.2.1).2 dL_law_200 (pc' := 201) rfl ?_
  refine j_wsE (ws' := wX q ca u ++ (wM q2 ca2 τ ++ [])) (by simp) ?_
  refine jF_i hC.1 (wX q ca u) [] (wf := wM q2 ca2) (σ := τ) (eM hC.2.2.2.2.2.1) (fun z => wM_fst q2 ca2 z τ) (AM_in q2 ca2 τ) (hC.1.2.2.2.2.2.1.sub [18, 19, 20, 21, 22, 23, 24, 25, 26, 27, 28, 29, 30, 31, 32, 33, 34, 35] rfl) (fun _ _ _ _ _ => trivial) (As := [.int (xs (k + 1)), .int (xs (k + 2))]) obM_X8 rfl (lk_X8_turn hC.2.2.2.2.2.1 ((xs (k + 1))) ((xs (k + 2))) τ _ hf) wm_637 wm_638 wm_639 wm_8 wm_640 dy_X8_turn ⟨rfl, rfl⟩ ⟨Nat.le_of_ble_eq_true rfl, Nat.le_of_ble_eq_true rfl⟩ hcs rfl rfl (Nat.le_of_ble_eq_true rfl) dL_law_201 (pc' := 204) rfl (fun r2 v hf => ?_)
  refine j_wsE (ws' := wX q ca u ++ wM q2 ca2 v) (by simp) ?_
  refine j_icmp_eq hC.1 (tgt := 1153) dL_law_204 (pc' := 207) rfl (by decide) (fun c_ => ?_) (fun c_ => absurd hf.1 c_)
  exact hnext u v hf.2
set_option maxHeartbeats 4000000 in
set_option maxRecDepth 100000 in
theorem law_c1 {p : Program} {l : Launch} {e : Env} {s : State} {m : MethodId} {below : List Frame} {meth : Method} {c : Code} {Qm : State → Prop} {b L t k cells slots : Nat} {xs : Nat → Int32} {D : va_G} {q q2 : Nat → Nat} {ca ca2 : Nat → ClassId} {Rel : St → St → Prop} (hC : lw_C p s m b meth c L xs D q q2 ca ca2 t) (hcs : cells ≤ room_1.cells ∧ slots ≤ room_1.slots) (hk : k + 6 ≤ L) (hO : Ob_length Rel) (σ τ : St) (hR : Rel σ τ) (hnext : ∀ σ τ : St, Rel σ τ → J p l e room_1 s m #[Value.ref b] below meth c Qm D (fun a => s.heap.size ≤ a) 4 cells slots (wX q ca σ ++ wM q2 ca2 τ) 1153 [(3, .int (nI k)), (2, .ref (q2 0)), (1, .ref (q 0)), (0, .ref b)] []) : J p l e room_1 s m #[Value.ref b] below meth c Qm D (fun a => s.heap.size ≤ a) 4 cells slots (wX q ca σ ++ wM q2 ca2 τ) 209 [(3, .int (nI k)), (2, .ref (q2 0)), (1, .ref (q 0)), (0, .ref b)] [] := by
  refine j_aload_n hC.1 2 dL_law_209 (pc' := 210) rfl rfl ?_
  refine j_aload_n hC.1 3 dL_law_210 (pc' := 211) rfl rfl ?_
  refine j_iload_n hC.1 0 dL_law_211 (pc' := 212) rfl rfl ?_
  refine j_iconst hC.1 (v := 1) dL_law_212 (pc' := 213) rfl (by decide) ?_
  refine j_iadd hC.1 dL_law_213 (pc' := 214) rfl ?_
  refine jL_sld hC.1 hC.2.1 hC.2.2.1 (Nat.not_le.mpr hC.2.2.1) (j := k + 1) (ixL (d := 1) rfl (by decide) hk hC.2.2.2.1).1 (ixL (d := 1) rfl (by decide) hk hC.2.2.2.1).2 dL_law_214 (pc' := 215) rfl ?_
  refine j_aload_n hC.1 3 dL_law_215 (pc' := 216) rfl rfl ?_
  refine j_iload_n hC.1 0 dL_law_216 (pc' := 217) rfl rfl ?_
  refine j_iconst hC.1 (v := 2) dL_law_217 (pc' := 218) rfl (by decide) ?_
  refine j_iadd hC.1 dL_law_218 (pc' := 219) rfl ?_
  refine jL_sld hC.1 hC.2.1 hC.2.2.1 (Nat.not_le.mpr hC.2.2.1) (j := k + 2) (ixL (d := 2) rfl (by decide) hk hC.2.2.2.1).1 (ixL (d := 2) rfl (by decide) hk hC.2.2.2.1).2 dL_law_219 (pc' := 220) rfl ?_
  refine jF_i hC.1 [] (wM q2 ca2 τ) (wf := wX q ca) (σ := σ) (eX hC.2.2.2.2.1 (t := t)) (fun u => wX_fst q ca u σ) (AX_in q ca σ) (hC.1.2.2.2.2.2.1.sub [0, 1, 2, 3, 4, 5, 6, 7, 8, 9, 10, 11, 12, 13, 14, 15, 16, 17] rfl) (fun U H h1 h2 h3 => lw_ZX hC.2.2.2.2.2.2 U H h1 h2 h3) (As := [.int (xs (k + 1)), .int (xs (k + 2))]) obX_X7 rfl (lk_X7_length hC.2.2.2.2.1 ((xs (k + 1))) ((xs (k + 2))) σ _ (hO σ τ ((xs (k + 1))) ((xs (k + 2))) hR)) wm_188 wm_189 wm_190 wm_1 wm_191 dy_X7_length ⟨rfl, rfl⟩ ⟨Nat.le_of_ble_eq_true rfl, Nat.le_of_ble_eq_true rfl⟩ hcs rfl rfl (Nat.le_of_ble_eq_true rfl) dL_law_220 (pc' := 223) rfl (fun r u hf => ?_)
  refine j_aload_n hC.1 1 dL_law_223 (pc' := 224) rfl rfl ?_
  refine j_aload_n hC.1 3 dL_law_224 (pc' := 225) rfl rfl ?_
  refine j_iload_n hC.1 0 dL_law_225 (pc' := 226) rfl rfl ?_
  refine j_iconst hC.1 (v := 1) dL_law_226 (pc' := 227) rfl (by decide) ?_
  refine j_iadd hC.1 dL_law_227 (pc' := 228) rfl ?_
  refine jL_sld hC.1 hC.2.1 hC.2.2.1 (Nat.not_le.mpr hC.2.2.1) (j := k + 1) (ixL (d := 1) rfl (by decide) hk hC.2.2.2.1).1 (ixL (d := 1) rfl (by decide) hk hC.2.2.2.1).2 dL_law_228 (pc' := 229) rfl ?_
  refine j_aload_n hC.1 3 dL_law_229 (pc' := 230) rfl rfl ?_
  refine j_iload_n hC.1 0 dL_law_230 (pc' := 231) rfl rfl ?_
  refine j_iconst hC.1 (v := 2) dL_law_231 (pc' := 232) rfl (by decide) ?_
  refine j_iadd hC.1 dL_law_232 (pc' := 233) rfl ?_
  refine jL_sld hC.1 hC.2.1 hC.2.2.1 (Nat.not_le.mpr hC.2.2.1) (j := k + 2) (ixL (d := 2) rfl (by decide) hk hC.2.2.2.1).1 (ixL (d := 2) rfl (by decide) hk hC.2.2.2.1).2 dL_law_233 (pc' := 234) rfl ?_
  refine j_wsE (ws' := wX q ca u ++ (wM q2 ca2 τ ++ [])) (by simp) ?_
  refine jF_i hC.1 (wX q ca u) [] (wf := wM q2 ca2) (σ := τ) (eM hC.2.2.2.2.2.1) (fun z => wM_fst q2 ca2 z τ) (AM_in q2 ca2 τ) (hC.1.2.2.2.2.2.1.sub [18, 19, 20, 21, 22, 23, 24, 25, 26, 27, 28, 29, 30, 31, 32, 33, 34, 35] rfl) (fun _ _ _ _ _ => trivial) (As := [.int (xs (k + 1)), .int (xs (k + 2))]) obM_X8 rfl (lk_X8_length hC.2.2.2.2.2.1 ((xs (k + 1))) ((xs (k + 2))) τ _ hf) wm_651 wm_652 wm_653 wm_8 wm_654 dy_X8_length ⟨rfl, rfl⟩ ⟨Nat.le_of_ble_eq_true rfl, Nat.le_of_ble_eq_true rfl⟩ hcs rfl rfl (Nat.le_of_ble_eq_true rfl) dL_law_234 (pc' := 237) rfl (fun r2 v hf => ?_)
  refine j_wsE (ws' := wX q ca u ++ wM q2 ca2 v) (by simp) ?_
  refine j_icmp_eq hC.1 (tgt := 1153) dL_law_237 (pc' := 240) rfl (by decide) (fun c_ => ?_) (fun c_ => absurd hf.1 c_)
  exact hnext u v hf.2
set_option maxHeartbeats 4000000 in
set_option maxRecDepth 100000 in
theorem law_c2 {p : Program} {l : Launch} {e : Env} {s : State} {m : MethodId} {below : List Frame} {meth : Method} {c : Code} {Qm : State → Prop} {b L t k cells slots : Nat} {xs : Nat → Int32} {D : va_G} {q q2 : Nat → Nat} {ca ca2 : Nat → ClassId} {Rel : St → St → Prop} (hC : lw_C p s m b meth c L xs D q q2 ca ca2 t) (hcs : cells ≤ room_1.cells ∧ slots ≤ room_1.slots) (hk : k + 6 ≤ L) (hO : Ob_posture Rel) (σ τ : St) (hR : Rel σ τ) (hnext : ∀ σ τ : St, Rel σ τ → J p l e room_1 s m #[Value.ref b] below meth c Qm D (fun a => s.heap.size ≤ a) 4 cells slots (wX q ca σ ++ wM q2 ca2 τ) 1153 [(3, .int (nI k)), (2, .ref (q2 0)), (1, .ref (q 0)), (0, .ref b)] []) : J p l e room_1 s m #[Value.ref b] below meth c Qm D (fun a => s.heap.size ≤ a) 4 cells slots (wX q ca σ ++ wM q2 ca2 τ) 242 [(3, .int (nI k)), (2, .ref (q2 0)), (1, .ref (q 0)), (0, .ref b)] [] := by
  refine j_aload_n hC.1 2 dL_law_242 (pc' := 243) rfl rfl ?_
  refine j_aload_n hC.1 3 dL_law_243 (pc' := 244) rfl rfl ?_
  refine j_iload_n hC.1 0 dL_law_244 (pc' := 245) rfl rfl ?_
  refine j_iconst hC.1 (v := 1) dL_law_245 (pc' := 246) rfl (by decide) ?_
  refine j_iadd hC.1 dL_law_246 (pc' := 247) rfl ?_
  refine jL_sld hC.1 hC.2.1 hC.2.2.1 (Nat.not_le.mpr hC.2.2.1) (j := k + 1) (ixL (d := 1) rfl (by decide) hk hC.2.2.2.1).1 (ixL (d := 1) rfl (by decide) hk hC.2.2.2.1).2 dL_law_247 (pc' := 248) rfl ?_
  refine j_aload_n hC.1 3 dL_law_248 (pc' := 249) rfl rfl ?_
  refine j_iload_n hC.1 0 dL_law_249 (pc' := 250) rfl rfl ?_
  refine j_iconst hC.1 (v := 2) dL_law_250 (pc' := 251) rfl (by decide) ?_
  refine j_iadd hC.1 dL_law_251 (pc' := 252) rfl ?_
  refine jL_sld hC.1 hC.2.1 hC.2.2.1 (Nat.not_le.mpr hC.2.2.1) (j := k + 2) (ixL (d := 2) rfl (by decide) hk hC.2.2.2.1).1 (ixL (d := 2) rfl (by decide) hk hC.2.2.2.1).2 dL_law_252 (pc' := 253) rfl ?_
  refine j_aload_n hC.1 3 dL_law_253 (pc' := 254) rfl rfl ?_
  refine j_iload_n hC.1 0 dL_law_254 (pc' := 255) rfl rfl ?_
  refine j_iconst hC.1 (v := 3) dL_law_255 (pc' := 256) rfl (by decide) ?_
  refine j_iadd hC.1 dL_law_256 (pc' := 257) rfl ?_
  refine jL_sld hC.1 hC.2.1 hC.2.2.1 (Nat.not_le.mpr hC.2.2.1) (j := k + 3) (ixL (d := 3) rfl (by decide) hk hC.2.2.2.1).1 (ixL (d := 3) rfl (by decide) hk hC.2.2.2.1).2 dL_law_257 (pc' := 258) rfl ?_
  refine jF_i hC.1 [] (wM q2 ca2 τ) (wf := wX q ca) (σ := σ) (eX hC.2.2.2.2.1 (t := t)) (fun u => wX_fst q ca u σ) (AX_in q ca σ) (hC.1.2.2.2.2.2.1.sub [0, 1, 2, 3, 4, 5, 6, 7, 8, 9, 10, 11, 12, 13, 14, 15, 16, 17] rfl) (fun U H h1 h2 h3 => lw_ZX hC.2.2.2.2.2.2 U H h1 h2 h3) (As := [.int (xs (k + 1)), .int (xs (k + 2)), .int (xs (k + 3))]) obX_X7 rfl (lk_X7_posture hC.2.2.2.2.1 ((xs (k + 1))) ((xs (k + 2))) ((xs (k + 3))) σ _ (hO σ τ ((xs (k + 1))) ((xs (k + 2))) ((xs (k + 3))) hR)) wm_192 wm_193 wm_194 wm_1 wm_195 dy_X7_posture ⟨rfl, rfl⟩ ⟨Nat.le_of_ble_eq_true rfl, Nat.le_of_ble_eq_true rfl⟩ hcs rfl rfl (Nat.le_of_ble_eq_true rfl) dL_law_258 (pc' := 261) rfl (fun r u hf => ?_)
  refine j_aload_n hC.1 1 dL_law_261 (pc' := 262) rfl rfl ?_
  refine j_aload_n hC.1 3 dL_law_262 (pc' := 263) rfl rfl ?_
  refine j_iload_n hC.1 0 dL_law_263 (pc' := 264) rfl rfl ?_
  refine j_iconst hC.1 (v := 1) dL_law_264 (pc' := 265) rfl (by decide) ?_
  refine j_iadd hC.1 dL_law_265 (pc' := 266) rfl ?_
  refine jL_sld hC.1 hC.2.1 hC.2.2.1 (Nat.not_le.mpr hC.2.2.1) (j := k + 1) (ixL (d := 1) rfl (by decide) hk hC.2.2.2.1).1 (ixL (d := 1) rfl (by decide) hk hC.2.2.2.1).2 dL_law_266 (pc' := 267) rfl ?_
  refine j_aload_n hC.1 3 dL_law_267 (pc' := 268) rfl rfl ?_
  refine j_iload_n hC.1 0 dL_law_268 (pc' := 269) rfl rfl ?_
  refine j_iconst hC.1 (v := 2) dL_law_269 (pc' := 270) rfl (by decide) ?_
  refine j_iadd hC.1 dL_law_270 (pc' := 271) rfl ?_
  refine jL_sld hC.1 hC.2.1 hC.2.2.1 (Nat.not_le.mpr hC.2.2.1) (j := k + 2) (ixL (d := 2) rfl (by decide) hk hC.2.2.2.1).1 (ixL (d := 2) rfl (by decide) hk hC.2.2.2.1).2 dL_law_271 (pc' := 272) rfl ?_
  refine j_aload_n hC.1 3 dL_law_272 (pc' := 273) rfl rfl ?_
  refine j_iload_n hC.1 0 dL_law_273 (pc' := 274) rfl rfl ?_
  refine j_iconst hC.1 (v := 3) dL_law_274 (pc' := 275) rfl (by decide) ?_
  refine j_iadd hC.1 dL_law_275 (pc' := 276) rfl ?_
  refine jL_sld hC.1 hC.2.1 hC.2.2.1 (Nat.not_le.mpr hC.2.2.1) (j := k + 3) (ixL (d := 3) rfl (by decide) hk hC.2.2.2.1).1 (ixL (d := 3) rfl (by decide) hk hC.2.2.2.1).2 dL_law_276 (pc' := 277) rfl ?_
  refine j_wsE (ws' := wX q ca u ++ (wM q2 ca2 τ ++ [])) (by simp) ?_
  refine jF_i hC.1 (wX q ca u) [] (wf := wM q2 ca2) (σ := τ) (eM hC.2.2.2.2.2.1) (fun z => wM_fst q2 ca2 z τ) (AM_in q2 ca2 τ) (hC.1.2.2.2.2.2.1.sub [18, 19, 20, 21, 22, 23, 24, 25, 26, 27, 28, 29, 30, 31, 32, 33, 34, 35] rfl) (fun _ _ _ _ _ => trivial) (As := [.int (xs (k + 1)), .int (xs (k + 2)), .int (xs (k + 3))]) obM_X8 rfl (lk_X8_posture hC.2.2.2.2.2.1 ((xs (k + 1))) ((xs (k + 2))) ((xs (k + 3))) τ _ hf) wm_657 wm_658 wm_659 wm_8 wm_660 dy_X8_posture ⟨rfl, rfl⟩ ⟨Nat.le_of_ble_eq_true rfl, Nat.le_of_ble_eq_true rfl⟩ hcs rfl rfl (Nat.le_of_ble_eq_true rfl) dL_law_277 (pc' := 280) rfl (fun r2 v hf => ?_)
  refine j_wsE (ws' := wX q ca u ++ wM q2 ca2 v) (by simp) ?_
  refine j_icmp_eq hC.1 (tgt := 1153) dL_law_280 (pc' := 283) rfl (by decide) (fun c_ => ?_) (fun c_ => absurd hf.1 c_)
  exact hnext u v hf.2
set_option maxHeartbeats 4000000 in
set_option maxRecDepth 100000 in
theorem law_c3 {p : Program} {l : Launch} {e : Env} {s : State} {m : MethodId} {below : List Frame} {meth : Method} {c : Code} {Qm : State → Prop} {b L t k cells slots : Nat} {xs : Nat → Int32} {D : va_G} {q q2 : Nat → Nat} {ca ca2 : Nat → ClassId} {Rel : St → St → Prop} (hC : lw_C p s m b meth c L xs D q q2 ca ca2 t) (hcs : cells ≤ room_1.cells ∧ slots ≤ room_1.slots) (hk : k + 6 ≤ L) (hO : Ob_clear Rel) (σ τ : St) (hR : Rel σ τ) (hnext : ∀ σ τ : St, Rel σ τ → J p l e room_1 s m #[Value.ref b] below meth c Qm D (fun a => s.heap.size ≤ a) 4 cells slots (wX q ca σ ++ wM q2 ca2 τ) 1153 [(3, .int (nI k)), (2, .ref (q2 0)), (1, .ref (q 0)), (0, .ref b)] []) : J p l e room_1 s m #[Value.ref b] below meth c Qm D (fun a => s.heap.size ≤ a) 4 cells slots (wX q ca σ ++ wM q2 ca2 τ) 285 [(3, .int (nI k)), (2, .ref (q2 0)), (1, .ref (q 0)), (0, .ref b)] [] := by
  refine j_aload_n hC.1 2 dL_law_285 (pc' := 286) rfl rfl ?_
  refine jF_i hC.1 [] (wM q2 ca2 τ) (wf := wX q ca) (σ := σ) (eX hC.2.2.2.2.1 (t := t)) (fun u => wX_fst q ca u σ) (AX_in q ca σ) (hC.1.2.2.2.2.2.1.sub [0, 1, 2, 3, 4, 5, 6, 7, 8, 9, 10, 11, 12, 13, 14, 15, 16, 17] rfl) (fun U H h1 h2 h3 => lw_ZX hC.2.2.2.2.2.2 U H h1 h2 h3) (As := []) obX_X7 rfl (lk_X7_clear hC.2.2.2.2.1  σ _ (hO σ τ  hR)) wm_208 wm_209 wm_210 wm_1 wm_211 dy_X7_clear ⟨rfl, rfl⟩ ⟨Nat.le_of_ble_eq_true rfl, Nat.le_of_ble_eq_true rfl⟩ hcs rfl rfl (Nat.le_of_ble_eq_true rfl) dL_law_286 (pc' := 289) rfl (fun r u hf => ?_)
  refine j_aload_n hC.1 1 dL_law_289 (pc' := 290) rfl rfl ?_
  refine j_wsE (ws' := wX q ca u ++ (wM q2 ca2 τ ++ [])) (by simp) ?_
  refine jF_i hC.1 (wX q ca u) [] (wf := wM q2 ca2) (σ := τ) (eM hC.2.2.2.2.2.1) (fun z => wM_fst q2 ca2 z τ) (AM_in q2 ca2 τ) (hC.1.2.2.2.2.2.1.sub [18, 19, 20, 21, 22, 23, 24, 25, 26, 27, 28, 29, 30, 31, 32, 33, 34, 35] rfl) (fun _ _ _ _ _ => trivial) (As := []) obM_X8 rfl (lk_X8_clear hC.2.2.2.2.2.1  τ _ hf) wm_661 wm_662 wm_663 wm_8 wm_664 dy_X8_clear ⟨rfl, rfl⟩ ⟨Nat.le_of_ble_eq_true rfl, Nat.le_of_ble_eq_true rfl⟩ hcs rfl rfl (Nat.le_of_ble_eq_true rfl) dL_law_290 (pc' := 293) rfl (fun r2 v hf => ?_)
  refine j_wsE (ws' := wX q ca u ++ wM q2 ca2 v) (by simp) ?_
  refine j_icmp_eq hC.1 (tgt := 1153) dL_law_293 (pc' := 296) rfl (by decide) (fun c_ => ?_) (fun c_ => absurd hf.1 c_)
  exact hnext u v hf.2
set_option maxHeartbeats 4000000 in
set_option maxRecDepth 100000 in
theorem law_c4 {p : Program} {l : Launch} {e : Env} {s : State} {m : MethodId} {below : List Frame} {meth : Method} {c : Code} {Qm : State → Prop} {b L t k cells slots : Nat} {xs : Nat → Int32} {D : va_G} {q q2 : Nat → Nat} {ca ca2 : Nat → ClassId} {Rel : St → St → Prop} (hC : lw_C p s m b meth c L xs D q q2 ca ca2 t) (hcs : cells ≤ room_1.cells ∧ slots ≤ room_1.slots) (hk : k + 6 ≤ L) (hO : Ob_hand Rel) (σ τ : St) (hR : Rel σ τ) (hnext : ∀ σ τ : St, Rel σ τ → J p l e room_1 s m #[Value.ref b] below meth c Qm D (fun a => s.heap.size ≤ a) 4 cells slots (wX q ca σ ++ wM q2 ca2 τ) 1153 [(3, .int (nI k)), (2, .ref (q2 0)), (1, .ref (q 0)), (0, .ref b)] []) : J p l e room_1 s m #[Value.ref b] below meth c Qm D (fun a => s.heap.size ≤ a) 4 cells slots (wX q ca σ ++ wM q2 ca2 τ) 298 [(3, .int (nI k)), (2, .ref (q2 0)), (1, .ref (q 0)), (0, .ref b)] [] := by
  refine j_aload_n hC.1 2 dL_law_298 (pc' := 299) rfl rfl ?_
  refine j_aload_n hC.1 3 dL_law_299 (pc' := 300) rfl rfl ?_
  refine j_iload_n hC.1 0 dL_law_300 (pc' := 301) rfl rfl ?_
  refine j_iconst hC.1 (v := 1) dL_law_301 (pc' := 302) rfl (by decide) ?_
  refine j_iadd hC.1 dL_law_302 (pc' := 303) rfl ?_
  refine jL_sld hC.1 hC.2.1 hC.2.2.1 (Nat.not_le.mpr hC.2.2.1) (j := k + 1) (ixL (d := 1) rfl (by decide) hk hC.2.2.2.1).1 (ixL (d := 1) rfl (by decide) hk hC.2.2.2.1).2 dL_law_303 (pc' := 304) rfl ?_
  refine j_aload_n hC.1 3 dL_law_304 (pc' := 305) rfl rfl ?_
  refine j_iload_n hC.1 0 dL_law_305 (pc' := 306) rfl rfl ?_
  refine j_iconst hC.1 (v := 2) dL_law_306 (pc' := 307) rfl (by decide) ?_
  refine j_iadd hC.1 dL_law_307 (pc' := 308) rfl ?_
  refine jL_sld hC.1 hC.2.1 hC.2.2.1 (Nat.not_le.mpr hC.2.2.1) (j := k + 2) (ixL (d := 2) rfl (by decide) hk hC.2.2.2.1).1 (ixL (d := 2) rfl (by decide) hk hC.2.2.2.1).2 dL_law_308 (pc' := 309) rfl ?_
  refine jF_i hC.1 [] (wM q2 ca2 τ) (wf := wX q ca) (σ := σ) (eX hC.2.2.2.2.1 (t := t)) (fun u => wX_fst q ca u σ) (AX_in q ca σ) (hC.1.2.2.2.2.2.1.sub [0, 1, 2, 3, 4, 5, 6, 7, 8, 9, 10, 11, 12, 13, 14, 15, 16, 17] rfl) (fun U H h1 h2 h3 => lw_ZX hC.2.2.2.2.2.2 U H h1 h2 h3) (As := [.int (xs (k + 1)), .int (xs (k + 2))]) obX_X7 rfl (lk_X7_hand hC.2.2.2.2.1 ((xs (k + 1))) ((xs (k + 2))) σ _ (hO σ τ ((xs (k + 1))) ((xs (k + 2))) hR)) wm_212 wm_213 wm_214 wm_1 wm_215 dy_X7_hand ⟨rfl, rfl⟩ ⟨Nat.le_of_ble_eq_true rfl, Nat.le_of_ble_eq_true rfl⟩ hcs rfl rfl (Nat.le_of_ble_eq_true rfl) dL_law_309 (pc' := 312) rfl (fun r u hf => ?_)
  refine j_aload_n hC.1 1 dL_law_312 (pc' := 313) rfl rfl ?_
  refine j_aload_n hC.1 3 dL_law_313 (pc' := 314) rfl rfl ?_
  refine j_iload_n hC.1 0 dL_law_314 (pc' := 315) rfl rfl ?_
  refine j_iconst hC.1 (v := 1) dL_law_315 (pc' := 316) rfl (by decide) ?_
  refine j_iadd hC.1 dL_law_316 (pc' := 317) rfl ?_
  refine jL_sld hC.1 hC.2.1 hC.2.2.1 (Nat.not_le.mpr hC.2.2.1) (j := k + 1) (ixL (d := 1) rfl (by decide) hk hC.2.2.2.1).1 (ixL (d := 1) rfl (by decide) hk hC.2.2.2.1).2 dL_law_317 (pc' := 318) rfl ?_
  refine j_aload_n hC.1 3 dL_law_318 (pc' := 319) rfl rfl ?_
  refine j_iload_n hC.1 0 dL_law_319 (pc' := 320) rfl rfl ?_
  refine j_iconst hC.1 (v := 2) dL_law_320 (pc' := 321) rfl (by decide) ?_
  refine j_iadd hC.1 dL_law_321 (pc' := 322) rfl ?_
  refine jL_sld hC.1 hC.2.1 hC.2.2.1 (Nat.not_le.mpr hC.2.2.1) (j := k + 2) (ixL (d := 2) rfl (by decide) hk hC.2.2.2.1).1 (ixL (d := 2) rfl (by decide) hk hC.2.2.2.1).2 dL_law_322 (pc' := 323) rfl ?_
  refine j_wsE (ws' := wX q ca u ++ (wM q2 ca2 τ ++ [])) (by simp) ?_
  refine jF_i hC.1 (wX q ca u) [] (wf := wM q2 ca2) (σ := τ) (eM hC.2.2.2.2.2.1) (fun z => wM_fst q2 ca2 z τ) (AM_in q2 ca2 τ) (hC.1.2.2.2.2.2.1.sub [18, 19, 20, 21, 22, 23, 24, 25, 26, 27, 28, 29, 30, 31, 32, 33, 34, 35] rfl) (fun _ _ _ _ _ => trivial) (As := [.int (xs (k + 1)), .int (xs (k + 2))]) obM_X8 rfl (lk_X8_hand hC.2.2.2.2.2.1 ((xs (k + 1))) ((xs (k + 2))) τ _ hf) wm_665 wm_666 wm_667 wm_8 wm_668 dy_X8_hand ⟨rfl, rfl⟩ ⟨Nat.le_of_ble_eq_true rfl, Nat.le_of_ble_eq_true rfl⟩ hcs rfl rfl (Nat.le_of_ble_eq_true rfl) dL_law_323 (pc' := 326) rfl (fun r2 v hf => ?_)
  refine j_wsE (ws' := wX q ca u ++ wM q2 ca2 v) (by simp) ?_
  refine j_icmp_eq hC.1 (tgt := 1153) dL_law_326 (pc' := 329) rfl (by decide) (fun c_ => ?_) (fun c_ => absurd hf.1 c_)
  exact hnext u v hf.2
set_option maxHeartbeats 4000000 in
set_option maxRecDepth 100000 in
theorem law_c5 {p : Program} {l : Launch} {e : Env} {s : State} {m : MethodId} {below : List Frame} {meth : Method} {c : Code} {Qm : State → Prop} {b L t k cells slots : Nat} {xs : Nat → Int32} {D : va_G} {q q2 : Nat → Nat} {ca ca2 : Nat → ClassId} {Rel : St → St → Prop} (hC : lw_C p s m b meth c L xs D q q2 ca ca2 t) (hcs : cells ≤ room_1.cells ∧ slots ≤ room_1.slots) (hk : k + 6 ≤ L) (hO : Ob_mend Rel) (σ τ : St) (hR : Rel σ τ) (hnext : ∀ σ τ : St, Rel σ τ → J p l e room_1 s m #[Value.ref b] below meth c Qm D (fun a => s.heap.size ≤ a) 4 cells slots (wX q ca σ ++ wM q2 ca2 τ) 1153 [(3, .int (nI k)), (2, .ref (q2 0)), (1, .ref (q 0)), (0, .ref b)] []) : J p l e room_1 s m #[Value.ref b] below meth c Qm D (fun a => s.heap.size ≤ a) 4 cells slots (wX q ca σ ++ wM q2 ca2 τ) 331 [(3, .int (nI k)), (2, .ref (q2 0)), (1, .ref (q 0)), (0, .ref b)] [] := by
  refine j_aload_n hC.1 2 dL_law_331 (pc' := 332) rfl rfl ?_
  refine jF_i hC.1 [] (wM q2 ca2 τ) (wf := wX q ca) (σ := σ) (eX hC.2.2.2.2.1 (t := t)) (fun u => wX_fst q ca u σ) (AX_in q ca σ) (hC.1.2.2.2.2.2.1.sub [0, 1, 2, 3, 4, 5, 6, 7, 8, 9, 10, 11, 12, 13, 14, 15, 16, 17] rfl) (fun U H h1 h2 h3 => lw_ZX hC.2.2.2.2.2.2 U H h1 h2 h3) (As := []) obX_X7 rfl (lk_X7_mend hC.2.2.2.2.1  σ _ (hO σ τ  hR)) wm_225 wm_226 wm_227 wm_1 wm_228 dy_X7_mend ⟨rfl, rfl⟩ ⟨Nat.le_of_ble_eq_true rfl, Nat.le_of_ble_eq_true rfl⟩ hcs rfl rfl (Nat.le_of_ble_eq_true rfl) dL_law_332 (pc' := 335) rfl (fun r u hf => ?_)
  refine j_aload_n hC.1 1 dL_law_335 (pc' := 336) rfl rfl ?_
  refine j_wsE (ws' := wX q ca u ++ (wM q2 ca2 τ ++ [])) (by simp) ?_
  refine jF_i hC.1 (wX q ca u) [] (wf := wM q2 ca2) (σ := τ) (eM hC.2.2.2.2.2.1) (fun z => wM_fst q2 ca2 z τ) (AM_in q2 ca2 τ) (hC.1.2.2.2.2.2.1.sub [18, 19, 20, 21, 22, 23, 24, 25, 26, 27, 28, 29, 30, 31, 32, 33, 34, 35] rfl) (fun _ _ _ _ _ => trivial) (As := []) obM_X8 rfl (lk_X8_mend hC.2.2.2.2.2.1  τ _ hf) wm_747 wm_748 wm_749 wm_8 wm_750 dy_X8_mend ⟨rfl, rfl⟩ ⟨Nat.le_of_ble_eq_true rfl, Nat.le_of_ble_eq_true rfl⟩ hcs rfl rfl (Nat.le_of_ble_eq_true rfl) dL_law_336 (pc' := 339) rfl (fun r2 v hf => ?_)
  refine j_wsE (ws' := wX q ca u ++ wM q2 ca2 v) (by simp) ?_
  refine j_icmp_eq hC.1 (tgt := 1153) dL_law_339 (pc' := 342) rfl (by decide) (fun c_ => ?_) (fun c_ => absurd hf.1 c_)
  exact hnext u v hf.2
set_option maxHeartbeats 4000000 in
set_option maxRecDepth 100000 in
theorem law_c6 {p : Program} {l : Launch} {e : Env} {s : State} {m : MethodId} {below : List Frame} {meth : Method} {c : Code} {Qm : State → Prop} {b L t k cells slots : Nat} {xs : Nat → Int32} {D : va_G} {q q2 : Nat → Nat} {ca ca2 : Nat → ClassId} {Rel : St → St → Prop} (hC : lw_C p s m b meth c L xs D q q2 ca ca2 t) (hcs : cells ≤ room_1.cells ∧ slots ≤ room_1.slots) (hk : k + 6 ≤ L) (hO : Ob_measure Rel) (σ τ : St) (hR : Rel σ τ) (hnext : ∀ σ τ : St, Rel σ τ → J p l e room_1 s m #[Value.ref b] below meth c Qm D (fun a => s.heap.size ≤ a) 4 cells slots (wX q ca σ ++ wM q2 ca2 τ) 1153 [(3, .int (nI k)), (2, .ref (q2 0)), (1, .ref (q 0)), (0, .ref b)] []) : J p l e room_1 s m #[Value.ref b] below meth c Qm D (fun a => s.heap.size ≤ a) 4 cells slots (wX q ca σ ++ wM q2 ca2 τ) 344 [(3, .int (nI k)), (2, .ref (q2 0)), (1, .ref (q 0)), (0, .ref b)] [] := by
  refine j_aload_n hC.1 2 dL_law_344 (pc' := 345) rfl rfl ?_
  refine j_aload_n hC.1 3 dL_law_345 (pc' := 346) rfl rfl ?_
  refine j_iload_n hC.1 0 dL_law_346 (pc' := 347) rfl rfl ?_
  refine j_iconst hC.1 (v := 1) dL_law_347 (pc' := 348) rfl (by decide) ?_
  refine j_iadd hC.1 dL_law_348 (pc' := 349) rfl ?_
  refine jL_sld hC.1 hC.2.1 hC.2.2.1 (Nat.not_le.mpr hC.2.2.1) (j := k + 1) (ixL (d := 1) rfl (by decide) hk hC.2.2.2.1).1 (ixL (d := 1) rfl (by decide) hk hC.2.2.2.1).2 dL_law_349 (pc' := 350) rfl ?_
  refine j_aload_n hC.1 3 dL_law_350 (pc' := 351) rfl rfl ?_
  refine j_iload_n hC.1 0 dL_law_351 (pc' := 352) rfl rfl ?_
  refine j_iconst hC.1 (v := 2) dL_law_352 (pc' := 353) rfl (by decide) ?_
  refine j_iadd hC.1 dL_law_353 (pc' := 354) rfl ?_
  refine jL_sld hC.1 hC.2.1 hC.2.2.1 (Nat.not_le.mpr hC.2.2.1) (j := k + 2) (ixL (d := 2) rfl (by decide) hk hC.2.2.2.1).1 (ixL (d := 2) rfl (by decide) hk hC.2.2.2.1).2 dL_law_354 (pc' := 355) rfl ?_
  refine jF_i hC.1 [] (wM q2 ca2 τ) (wf := wX q ca) (σ := σ) (eX hC.2.2.2.2.1 (t := t)) (fun u => wX_fst q ca u σ) (AX_in q ca σ) (hC.1.2.2.2.2.2.1.sub [0, 1, 2, 3, 4, 5, 6, 7, 8, 9, 10, 11, 12, 13, 14, 15, 16, 17] rfl) (fun U H h1 h2 h3 => lw_ZX hC.2.2.2.2.2.2 U H h1 h2 h3) (As := [.int (xs (k + 1)), .int (xs (k + 2))]) obX_X7 rfl (lk_X7_measure hC.2.2.2.2.1 ((xs (k + 1))) ((xs (k + 2))) σ _ (hO σ τ ((xs (k + 1))) ((xs (k + 2))) hR)) wm_304 wm_305 wm_306 wm_1 wm_307 dy_X7_measure ⟨rfl, rfl⟩ ⟨Nat.le_of_ble_eq_true rfl, Nat.le_of_ble_eq_true rfl⟩ hcs rfl rfl (Nat.le_of_ble_eq_true rfl) dL_law_355 (pc' := 358) rfl (fun r u hf => ?_)
  refine j_aload_n hC.1 1 dL_law_358 (pc' := 359) rfl rfl ?_
  refine j_aload_n hC.1 3 dL_law_359 (pc' := 360) rfl rfl ?_
  refine j_iload_n hC.1 0 dL_law_360 (pc' := 361) rfl rfl ?_
  refine j_iconst hC.1 (v := 1) dL_law_361 (pc' := 362) rfl (by decide) ?_
  refine j_iadd hC.1 dL_law_362 (pc' := 363) rfl ?_
  refine jL_sld hC.1 hC.2.1 hC.2.2.1 (Nat.not_le.mpr hC.2.2.1) (j := k + 1) (ixL (d := 1) rfl (by decide) hk hC.2.2.2.1).1 (ixL (d := 1) rfl (by decide) hk hC.2.2.2.1).2 dL_law_363 (pc' := 364) rfl ?_
  refine j_aload_n hC.1 3 dL_law_364 (pc' := 365) rfl rfl ?_
  refine j_iload_n hC.1 0 dL_law_365 (pc' := 366) rfl rfl ?_
  refine j_iconst hC.1 (v := 2) dL_law_366 (pc' := 367) rfl (by decide) ?_
  refine j_iadd hC.1 dL_law_367 (pc' := 368) rfl ?_
  refine jL_sld hC.1 hC.2.1 hC.2.2.1 (Nat.not_le.mpr hC.2.2.1) (j := k + 2) (ixL (d := 2) rfl (by decide) hk hC.2.2.2.1).1 (ixL (d := 2) rfl (by decide) hk hC.2.2.2.1).2 dL_law_368 (pc' := 369) rfl ?_
  refine j_wsE (ws' := wX q ca u ++ (wM q2 ca2 τ ++ [])) (by simp) ?_
  refine jF_i hC.1 (wX q ca u) [] (wf := wM q2 ca2) (σ := τ) (eM hC.2.2.2.2.2.1) (fun z => wM_fst q2 ca2 z τ) (AM_in q2 ca2 τ) (hC.1.2.2.2.2.2.1.sub [18, 19, 20, 21, 22, 23, 24, 25, 26, 27, 28, 29, 30, 31, 32, 33, 34, 35] rfl) (fun _ _ _ _ _ => trivial) (As := [.int (xs (k + 1)), .int (xs (k + 2))]) obM_X8 rfl (lk_X8_measure hC.2.2.2.2.2.1 ((xs (k + 1))) ((xs (k + 2))) τ _ hf) wm_679 wm_680 wm_681 wm_8 wm_682 dy_X8_measure ⟨rfl, rfl⟩ ⟨Nat.le_of_ble_eq_true rfl, Nat.le_of_ble_eq_true rfl⟩ hcs rfl rfl (Nat.le_of_ble_eq_true rfl) dL_law_369 (pc' := 372) rfl (fun r2 v hf => ?_)
  refine j_wsE (ws' := wX q ca u ++ wM q2 ca2 v) (by simp) ?_
  refine j_icmp_eq hC.1 (tgt := 1153) dL_law_372 (pc' := 375) rfl (by decide) (fun c_ => ?_) (fun c_ => absurd hf.1 c_)
  exact hnext u v hf.2
set_option maxHeartbeats 4000000 in
set_option maxRecDepth 100000 in
theorem law_c7 {p : Program} {l : Launch} {e : Env} {s : State} {m : MethodId} {below : List Frame} {meth : Method} {c : Code} {Qm : State → Prop} {b L t k cells slots : Nat} {xs : Nat → Int32} {D : va_G} {q q2 : Nat → Nat} {ca ca2 : Nat → ClassId} {Rel : St → St → Prop} (hC : lw_C p s m b meth c L xs D q q2 ca ca2 t) (hcs : cells ≤ room_1.cells ∧ slots ≤ room_1.slots) (hk : k + 6 ≤ L) (hO : Ob_leave Rel) (σ τ : St) (hR : Rel σ τ) (hnext : ∀ σ τ : St, Rel σ τ → J p l e room_1 s m #[Value.ref b] below meth c Qm D (fun a => s.heap.size ≤ a) 4 cells slots (wX q ca σ ++ wM q2 ca2 τ) 1153 [(3, .int (nI k)), (2, .ref (q2 0)), (1, .ref (q 0)), (0, .ref b)] []) : J p l e room_1 s m #[Value.ref b] below meth c Qm D (fun a => s.heap.size ≤ a) 4 cells slots (wX q ca σ ++ wM q2 ca2 τ) 377 [(3, .int (nI k)), (2, .ref (q2 0)), (1, .ref (q 0)), (0, .ref b)] [] := by
  refine j_aload_n hC.1 2 dL_law_377 (pc' := 378) rfl rfl ?_
  refine j_aload_n hC.1 3 dL_law_378 (pc' := 379) rfl rfl ?_
  refine j_iload_n hC.1 0 dL_law_379 (pc' := 380) rfl rfl ?_
  refine j_iconst hC.1 (v := 1) dL_law_380 (pc' := 381) rfl (by decide) ?_
  refine j_iadd hC.1 dL_law_381 (pc' := 382) rfl ?_
  refine jL_sld hC.1 hC.2.1 hC.2.2.1 (Nat.not_le.mpr hC.2.2.1) (j := k + 1) (ixL (d := 1) rfl (by decide) hk hC.2.2.2.1).1 (ixL (d := 1) rfl (by decide) hk hC.2.2.2.1).2 dL_law_382 (pc' := 383) rfl ?_
  refine j_aload_n hC.1 3 dL_law_383 (pc' := 384) rfl rfl ?_
  refine j_iload_n hC.1 0 dL_law_384 (pc' := 385) rfl rfl ?_
  refine j_iconst hC.1 (v := 2) dL_law_385 (pc' := 386) rfl (by decide) ?_
  refine j_iadd hC.1 dL_law_386 (pc' := 387) rfl ?_
  refine jL_sld hC.1 hC.2.1 hC.2.2.1 (Nat.not_le.mpr hC.2.2.1) (j := k + 2) (ixL (d := 2) rfl (by decide) hk hC.2.2.2.1).1 (ixL (d := 2) rfl (by decide) hk hC.2.2.2.1).2 dL_law_387 (pc' := 388) rfl ?_
  refine j_if_eq hC.1 (tgt := 395) dL_law_388 (pc' := 391) rfl (by decide) (fun c0 => ?_) (fun c0 => ?_)
  · refine j_iconst hC.1 (v := 0) dL_law_395 (pc' := 396) rfl (by decide) ?_
    refine jF_i hC.1 [] (wM q2 ca2 τ) (wf := wX q ca) (σ := σ) (eX hC.2.2.2.2.1 (t := t)) (fun u => wX_fst q ca u σ) (AX_in q ca σ) (hC.1.2.2.2.2.2.1.sub [0, 1, 2, 3, 4, 5, 6, 7, 8, 9, 10, 11, 12, 13, 14, 15, 16, 17] rfl) (fun U H h1 h2 h3 => lw_ZX hC.2.2.2.2.2.2 U H h1 h2 h3) (As := [.int (xs (k + 1)), .int 0]) obX_X7 rfl (lk_X7_leave hC.2.2.2.2.1 ((xs (k + 1))) (0) σ _ (hO σ τ ((xs (k + 1))) (0) hR (Or.inl rfl))) wm_308 wm_309 wm_310 wm_1 wm_311 dy_X7_leave ⟨rfl, rfl⟩ ⟨Nat.le_of_ble_eq_true rfl, Nat.le_of_ble_eq_true rfl⟩ hcs rfl rfl (Nat.le_of_ble_eq_true rfl) dL_law_396 (pc' := 399) rfl (fun r u hf => ?_)
    refine j_aload_n hC.1 1 dL_law_399 (pc' := 400) rfl rfl ?_
    refine j_aload_n hC.1 3 dL_law_400 (pc' := 401) rfl rfl ?_
    refine j_iload_n hC.1 0 dL_law_401 (pc' := 402) rfl rfl ?_
    refine j_iconst hC.1 (v := 1) dL_law_402 (pc' := 403) rfl (by decide) ?_
    refine j_iadd hC.1 dL_law_403 (pc' := 404) rfl ?_
    refine jL_sld hC.1 hC.2.1 hC.2.2.1 (Nat.not_le.mpr hC.2.2.1) (j := k + 1) (ixL (d := 1) rfl (by decide) hk hC.2.2.2.1).1 (ixL (d := 1) rfl (by decide) hk hC.2.2.2.1).2 dL_law_404 (pc' := 405) rfl ?_
    refine j_aload_n hC.1 3 dL_law_405 (pc' := 406) rfl rfl ?_
    refine j_iload_n hC.1 0 dL_law_406 (pc' := 407) rfl rfl ?_
    refine j_iconst hC.1 (v := 2) dL_law_407 (pc' := 408) rfl (by decide) ?_
    refine j_iadd hC.1 dL_law_408 (pc' := 409) rfl ?_
    refine jL_sld hC.1 hC.2.1 hC.2.2.1 (Nat.not_le.mpr hC.2.2.1) (j := k + 2) (ixL (d := 2) rfl (by decide) hk hC.2.2.2.1).1 (ixL (d := 2) rfl (by decide) hk hC.2.2.2.1).2 dL_law_409 (pc' := 410) rfl ?_
    refine j_if_eq hC.1 (tgt := 417) dL_law_410 (pc' := 413) rfl (by decide) (fun c1 => ?_) (fun c1 => ?_)
    · refine j_iconst hC.1 (v := 0) dL_law_417 (pc' := 418) rfl (by decide) ?_
      refine j_wsE (ws' := wX q ca u ++ (wM q2 ca2 τ ++ [])) (by simp) ?_
      refine jF_i hC.1 (wX q ca u) [] (wf := wM q2 ca2) (σ := τ) (eM hC.2.2.2.2.2.1) (fun z => wM_fst q2 ca2 z τ) (AM_in q2 ca2 τ) (hC.1.2.2.2.2.2.1.sub [18, 19, 20, 21, 22, 23, 24, 25, 26, 27, 28, 29, 30, 31, 32, 33, 34, 35] rfl) (fun _ _ _ _ _ => trivial) (As := [.int (xs (k + 1)), .int 0]) obM_X8 rfl (lk_X8_leave hC.2.2.2.2.2.1 ((xs (k + 1))) (0) τ _ hf) wm_691 wm_692 wm_693 wm_8 wm_694 dy_X8_leave ⟨rfl, rfl⟩ ⟨Nat.le_of_ble_eq_true rfl, Nat.le_of_ble_eq_true rfl⟩ hcs rfl rfl (Nat.le_of_ble_eq_true rfl) dL_law_418 (pc' := 421) rfl (fun r2 v hf => ?_)
      refine j_wsE (ws' := wX q ca u ++ wM q2 ca2 v) (by simp) ?_
      refine j_icmp_eq hC.1 (tgt := 1153) dL_law_421 (pc' := 424) rfl (by decide) (fun c_ => ?_) (fun c_ => absurd hf.1 c_)
      exact hnext u v hf.2
    · exact absurd c0 c1
  · refine j_iconst hC.1 (v := 1) dL_law_391 (pc' := 392) rfl (by decide) ?_
    refine j_goto hC.1 (tgt := 396) dL_law_392 (by decide) ?_
    refine jF_i hC.1 [] (wM q2 ca2 τ) (wf := wX q ca) (σ := σ) (eX hC.2.2.2.2.1 (t := t)) (fun u => wX_fst q ca u σ) (AX_in q ca σ) (hC.1.2.2.2.2.2.1.sub [0, 1, 2, 3, 4, 5, 6, 7, 8, 9, 10, 11, 12, 13, 14, 15, 16, 17] rfl) (fun U H h1 h2 h3 => lw_ZX hC.2.2.2.2.2.2 U H h1 h2 h3) (As := [.int (xs (k + 1)), .int 1]) obX_X7 rfl (lk_X7_leave hC.2.2.2.2.1 ((xs (k + 1))) (1) σ _ (hO σ τ ((xs (k + 1))) (1) hR (Or.inr rfl))) wm_308 wm_309 wm_310 wm_1 wm_311 dy_X7_leave ⟨rfl, rfl⟩ ⟨Nat.le_of_ble_eq_true rfl, Nat.le_of_ble_eq_true rfl⟩ hcs rfl rfl (Nat.le_of_ble_eq_true rfl) dL_law_396 (pc' := 399) rfl (fun r u hf => ?_)
    refine j_aload_n hC.1 1 dL_law_399 (pc' := 400) rfl rfl ?_
    refine j_aload_n hC.1 3 dL_law_400 (pc' := 401) rfl rfl ?_
    refine j_iload_n hC.1 0 dL_law_401 (pc' := 402) rfl rfl ?_
    refine j_iconst hC.1 (v := 1) dL_law_402 (pc' := 403) rfl (by decide) ?_
    refine j_iadd hC.1 dL_law_403 (pc' := 404) rfl ?_
    refine jL_sld hC.1 hC.2.1 hC.2.2.1 (Nat.not_le.mpr hC.2.2.1) (j := k + 1) (ixL (d := 1) rfl (by decide) hk hC.2.2.2.1).1 (ixL (d := 1) rfl (by decide) hk hC.2.2.2.1).2 dL_law_404 (pc' := 405) rfl ?_
    refine j_aload_n hC.1 3 dL_law_405 (pc' := 406) rfl rfl ?_
    refine j_iload_n hC.1 0 dL_law_406 (pc' := 407) rfl rfl ?_
    refine j_iconst hC.1 (v := 2) dL_law_407 (pc' := 408) rfl (by decide) ?_
    refine j_iadd hC.1 dL_law_408 (pc' := 409) rfl ?_
    refine jL_sld hC.1 hC.2.1 hC.2.2.1 (Nat.not_le.mpr hC.2.2.1) (j := k + 2) (ixL (d := 2) rfl (by decide) hk hC.2.2.2.1).1 (ixL (d := 2) rfl (by decide) hk hC.2.2.2.1).2 dL_law_409 (pc' := 410) rfl ?_
    refine j_if_eq hC.1 (tgt := 417) dL_law_410 (pc' := 413) rfl (by decide) (fun c1 => ?_) (fun c1 => ?_)
    · exact absurd c1 c0
    · refine j_iconst hC.1 (v := 1) dL_law_413 (pc' := 414) rfl (by decide) ?_
      refine j_goto hC.1 (tgt := 418) dL_law_414 (by decide) ?_
      refine j_wsE (ws' := wX q ca u ++ (wM q2 ca2 τ ++ [])) (by simp) ?_
      refine jF_i hC.1 (wX q ca u) [] (wf := wM q2 ca2) (σ := τ) (eM hC.2.2.2.2.2.1) (fun z => wM_fst q2 ca2 z τ) (AM_in q2 ca2 τ) (hC.1.2.2.2.2.2.1.sub [18, 19, 20, 21, 22, 23, 24, 25, 26, 27, 28, 29, 30, 31, 32, 33, 34, 35] rfl) (fun _ _ _ _ _ => trivial) (As := [.int (xs (k + 1)), .int 1]) obM_X8 rfl (lk_X8_leave hC.2.2.2.2.2.1 ((xs (k + 1))) (1) τ _ hf) wm_691 wm_692 wm_693 wm_8 wm_694 dy_X8_leave ⟨rfl, rfl⟩ ⟨Nat.le_of_ble_eq_true rfl, Nat.le_of_ble_eq_true rfl⟩ hcs rfl rfl (Nat.le_of_ble_eq_true rfl) dL_law_418 (pc' := 421) rfl (fun r2 v hf => ?_)
      refine j_wsE (ws' := wX q ca u ++ wM q2 ca2 v) (by simp) ?_
      refine j_icmp_eq hC.1 (tgt := 1153) dL_law_421 (pc' := 424) rfl (by decide) (fun c_ => ?_) (fun c_ => absurd hf.1 c_)
      exact hnext u v hf.2
set_option maxHeartbeats 4000000 in
set_option maxRecDepth 100000 in
theorem law_c8 {p : Program} {l : Launch} {e : Env} {s : State} {m : MethodId} {below : List Frame} {meth : Method} {c : Code} {Qm : State → Prop} {b L t k cells slots : Nat} {xs : Nat → Int32} {D : va_G} {q q2 : Nat → Nat} {ca ca2 : Nat → ClassId} {Rel : St → St → Prop} (hC : lw_C p s m b meth c L xs D q q2 ca ca2 t) (hcs : cells ≤ room_1.cells ∧ slots ≤ room_1.slots) (hk : k + 6 ≤ L) (hO : Ob_used Rel) (σ τ : St) (hR : Rel σ τ) (hnext : ∀ σ τ : St, Rel σ τ → J p l e room_1 s m #[Value.ref b] below meth c Qm D (fun a => s.heap.size ≤ a) 4 cells slots (wX q ca σ ++ wM q2 ca2 τ) 1153 [(3, .int (nI k)), (2, .ref (q2 0)), (1, .ref (q 0)), (0, .ref b)] []) : J p l e room_1 s m #[Value.ref b] below meth c Qm D (fun a => s.heap.size ≤ a) 4 cells slots (wX q ca σ ++ wM q2 ca2 τ) 426 [(3, .int (nI k)), (2, .ref (q2 0)), (1, .ref (q 0)), (0, .ref b)] [] := by
  refine j_aload_n hC.1 2 dL_law_426 (pc' := 427) rfl rfl ?_
  refine jF_i hC.1 [] (wM q2 ca2 τ) (wf := wX q ca) (σ := σ) (eX hC.2.2.2.2.1 (t := t)) (fun u => wX_fst q ca u σ) (AX_in q ca σ) (hC.1.2.2.2.2.2.1.sub [0, 1, 2, 3, 4, 5, 6, 7, 8, 9, 10, 11, 12, 13, 14, 15, 16, 17] rfl) (fun U H h1 h2 h3 => lw_ZX hC.2.2.2.2.2.2 U H h1 h2 h3) (As := []) obX_X7 rfl (lk_X7_used hC.2.2.2.2.1  σ _ (hO σ τ  hR)) wm_312 wm_313 wm_314 wm_1 wm_315 dy_X7_used ⟨rfl, rfl⟩ ⟨Nat.le_of_ble_eq_true rfl, Nat.le_of_ble_eq_true rfl⟩ hcs rfl rfl (Nat.le_of_ble_eq_true rfl) dL_law_427 (pc' := 430) rfl (fun r u hf => ?_)
  refine j_aload_n hC.1 1 dL_law_430 (pc' := 431) rfl rfl ?_
  refine j_wsE (ws' := wX q ca u ++ (wM q2 ca2 τ ++ [])) (by simp) ?_
  refine jF_i hC.1 (wX q ca u) [] (wf := wM q2 ca2) (σ := τ) (eM hC.2.2.2.2.2.1) (fun z => wM_fst q2 ca2 z τ) (AM_in q2 ca2 τ) (hC.1.2.2.2.2.2.1.sub [18, 19, 20, 21, 22, 23, 24, 25, 26, 27, 28, 29, 30, 31, 32, 33, 34, 35] rfl) (fun _ _ _ _ _ => trivial) (As := []) obM_X8 rfl (lk_X8_used hC.2.2.2.2.2.1  τ _ hf) wm_695 wm_696 wm_697 wm_8 wm_698 dy_X8_used ⟨rfl, rfl⟩ ⟨Nat.le_of_ble_eq_true rfl, Nat.le_of_ble_eq_true rfl⟩ hcs rfl rfl (Nat.le_of_ble_eq_true rfl) dL_law_431 (pc' := 434) rfl (fun r2 v hf => ?_)
  refine j_wsE (ws' := wX q ca u ++ wM q2 ca2 v) (by simp) ?_
  refine j_icmp_eq hC.1 (tgt := 1153) dL_law_434 (pc' := 437) rfl (by decide) (fun c_ => ?_) (fun c_ => absurd hf.1 c_)
  exact hnext u v hf.2
set_option maxHeartbeats 4000000 in
set_option maxRecDepth 100000 in
theorem law_c9 {p : Program} {l : Launch} {e : Env} {s : State} {m : MethodId} {below : List Frame} {meth : Method} {c : Code} {Qm : State → Prop} {b L t k cells slots : Nat} {xs : Nat → Int32} {D : va_G} {q q2 : Nat → Nat} {ca ca2 : Nat → ClassId} {Rel : St → St → Prop} (hC : lw_C p s m b meth c L xs D q q2 ca ca2 t) (hcs : cells ≤ room_1.cells ∧ slots ≤ room_1.slots) (hk : k + 6 ≤ L) (hO : Ob_table Rel) (σ τ : St) (hR : Rel σ τ) (hnext : ∀ σ τ : St, Rel σ τ → J p l e room_1 s m #[Value.ref b] below meth c Qm D (fun a => s.heap.size ≤ a) 4 cells slots (wX q ca σ ++ wM q2 ca2 τ) 1153 [(3, .int (nI k)), (2, .ref (q2 0)), (1, .ref (q 0)), (0, .ref b)] []) : J p l e room_1 s m #[Value.ref b] below meth c Qm D (fun a => s.heap.size ≤ a) 4 cells slots (wX q ca σ ++ wM q2 ca2 τ) 439 [(3, .int (nI k)), (2, .ref (q2 0)), (1, .ref (q 0)), (0, .ref b)] [] := by
  refine j_aload_n hC.1 2 dL_law_439 (pc' := 440) rfl rfl ?_
  refine j_aload_n hC.1 3 dL_law_440 (pc' := 441) rfl rfl ?_
  refine j_iload_n hC.1 0 dL_law_441 (pc' := 442) rfl rfl ?_
  refine j_iconst hC.1 (v := 1) dL_law_442 (pc' := 443) rfl (by decide) ?_
  refine j_iadd hC.1 dL_law_443 (pc' := 444) rfl ?_
  refine jL_sld hC.1 hC.2.1 hC.2.2.1 (Nat.not_le.mpr hC.2.2.1) (j := k + 1) (ixL (d := 1) rfl (by decide) hk hC.2.2.2.1).1 (ixL (d := 1) rfl (by decide) hk hC.2.2.2.1).2 dL_law_444 (pc' := 445) rfl ?_
  refine j_aload_n hC.1 3 dL_law_445 (pc' := 446) rfl rfl ?_
  refine j_iload_n hC.1 0 dL_law_446 (pc' := 447) rfl rfl ?_
  refine j_iconst hC.1 (v := 2) dL_law_447 (pc' := 448) rfl (by decide) ?_
  refine j_iadd hC.1 dL_law_448 (pc' := 449) rfl ?_
  refine jL_sld hC.1 hC.2.1 hC.2.2.1 (Nat.not_le.mpr hC.2.2.1) (j := k + 2) (ixL (d := 2) rfl (by decide) hk hC.2.2.2.1).1 (ixL (d := 2) rfl (by decide) hk hC.2.2.2.1).2 dL_law_449 (pc' := 450) rfl ?_
  refine jF_l hC.1 [] (wM q2 ca2 τ) (wf := wX q ca) (σ := σ) (eX hC.2.2.2.2.1 (t := t)) (fun u => wX_fst q ca u σ) (AX_in q ca σ) (hC.1.2.2.2.2.2.1.sub [0, 1, 2, 3, 4, 5, 6, 7, 8, 9, 10, 11, 12, 13, 14, 15, 16, 17] rfl) (fun U H h1 h2 h3 => lw_ZX hC.2.2.2.2.2.2 U H h1 h2 h3) (As := [.int (xs (k + 1)), .int (xs (k + 2))]) obX_X7 rfl (lk_X7_table hC.2.2.2.2.1 ((xs (k + 1))) ((xs (k + 2))) σ _ (hO σ τ ((xs (k + 1))) ((xs (k + 2))) hR)) wm_316 wm_317 wm_318 wm_1 wm_319 dy_X7_table ⟨rfl, rfl⟩ ⟨Nat.le_of_ble_eq_true rfl, Nat.le_of_ble_eq_true rfl⟩ hcs rfl rfl (Nat.le_of_ble_eq_true rfl) dL_law_450 (pc' := 453) rfl (fun r u hf => ?_)
  refine j_aload_n hC.1 1 dL_law_453 (pc' := 454) rfl rfl ?_
  refine j_aload_n hC.1 3 dL_law_454 (pc' := 455) rfl rfl ?_
  refine j_iload_n hC.1 0 dL_law_455 (pc' := 456) rfl rfl ?_
  refine j_iconst hC.1 (v := 1) dL_law_456 (pc' := 457) rfl (by decide) ?_
  refine j_iadd hC.1 dL_law_457 (pc' := 458) rfl ?_
  refine jL_sld hC.1 hC.2.1 hC.2.2.1 (Nat.not_le.mpr hC.2.2.1) (j := k + 1) (ixL (d := 1) rfl (by decide) hk hC.2.2.2.1).1 (ixL (d := 1) rfl (by decide) hk hC.2.2.2.1).2 dL_law_458 (pc' := 459) rfl ?_
  refine j_aload_n hC.1 3 dL_law_459 (pc' := 460) rfl rfl ?_
  refine j_iload_n hC.1 0 dL_law_460 (pc' := 461) rfl rfl ?_
  refine j_iconst hC.1 (v := 2) dL_law_461 (pc' := 462) rfl (by decide) ?_
  refine j_iadd hC.1 dL_law_462 (pc' := 463) rfl ?_
  refine jL_sld hC.1 hC.2.1 hC.2.2.1 (Nat.not_le.mpr hC.2.2.1) (j := k + 2) (ixL (d := 2) rfl (by decide) hk hC.2.2.2.1).1 (ixL (d := 2) rfl (by decide) hk hC.2.2.2.1).2 dL_law_463 (pc' := 464) rfl ?_
  refine j_wsE (ws' := wX q ca u ++ (wM q2 ca2 τ ++ [])) (by simp) ?_
  refine jF_l hC.1 (wX q ca u) [] (wf := wM q2 ca2) (σ := τ) (eM hC.2.2.2.2.2.1) (fun z => wM_fst q2 ca2 z τ) (AM_in q2 ca2 τ) (hC.1.2.2.2.2.2.1.sub [18, 19, 20, 21, 22, 23, 24, 25, 26, 27, 28, 29, 30, 31, 32, 33, 34, 35] rfl) (fun _ _ _ _ _ => trivial) (As := [.int (xs (k + 1)), .int (xs (k + 2))]) obM_X8 rfl (lk_X8_table hC.2.2.2.2.2.1 ((xs (k + 1))) ((xs (k + 2))) τ _ hf) wm_702 wm_703 wm_704 wm_8 wm_705 dy_X8_table ⟨rfl, rfl⟩ ⟨Nat.le_of_ble_eq_true rfl, Nat.le_of_ble_eq_true rfl⟩ hcs rfl rfl (Nat.le_of_ble_eq_true rfl) dL_law_464 (pc' := 467) rfl (fun r2 v hf => ?_)
  refine j_wsE (ws' := wX q ca u ++ wM q2 ca2 v) (by simp) ?_
  refine j_lcmp hC.1 dL_law_467 (pc' := 468) rfl ?_
  refine j_if_eq hC.1 (tgt := 1153) dL_law_468 (pc' := 471) rfl (by decide) (fun c_ => ?_) (fun c_ => absurd ((lgc_eq _ _).mpr hf.1) c_)
  exact hnext u v hf.2
set_option maxHeartbeats 4000000 in
set_option maxRecDepth 100000 in
theorem law_c10 {p : Program} {l : Launch} {e : Env} {s : State} {m : MethodId} {below : List Frame} {meth : Method} {c : Code} {Qm : State → Prop} {b L t k cells slots : Nat} {xs : Nat → Int32} {D : va_G} {q q2 : Nat → Nat} {ca ca2 : Nat → ClassId} {Rel : St → St → Prop} (hC : lw_C p s m b meth c L xs D q q2 ca ca2 t) (hcs : cells ≤ room_1.cells ∧ slots ≤ room_1.slots) (hk : k + 6 ≤ L) (hO : Ob_rank Rel) (σ τ : St) (hR : Rel σ τ) (hnext : ∀ σ τ : St, Rel σ τ → J p l e room_1 s m #[Value.ref b] below meth c Qm D (fun a => s.heap.size ≤ a) 4 cells slots (wX q ca σ ++ wM q2 ca2 τ) 1153 [(3, .int (nI k)), (2, .ref (q2 0)), (1, .ref (q 0)), (0, .ref b)] []) : J p l e room_1 s m #[Value.ref b] below meth c Qm D (fun a => s.heap.size ≤ a) 4 cells slots (wX q ca σ ++ wM q2 ca2 τ) 473 [(3, .int (nI k)), (2, .ref (q2 0)), (1, .ref (q 0)), (0, .ref b)] [] := by
  refine j_aload_n hC.1 2 dL_law_473 (pc' := 474) rfl rfl ?_
  refine jF_i hC.1 [] (wM q2 ca2 τ) (wf := wX q ca) (σ := σ) (eX hC.2.2.2.2.1 (t := t)) (fun u => wX_fst q ca u σ) (AX_in q ca σ) (hC.1.2.2.2.2.2.1.sub [0, 1, 2, 3, 4, 5, 6, 7, 8, 9, 10, 11, 12, 13, 14, 15, 16, 17] rfl) (fun U H h1 h2 h3 => lw_ZX hC.2.2.2.2.2.2 U H h1 h2 h3) (As := []) obX_X7 rfl (lk_X7_rank hC.2.2.2.2.1  σ _ (hO σ τ  hR)) wm_321 wm_322 wm_323 wm_1 wm_324 dy_X7_rank ⟨rfl, rfl⟩ ⟨Nat.le_of_ble_eq_true rfl, Nat.le_of_ble_eq_true rfl⟩ hcs rfl rfl (Nat.le_of_ble_eq_true rfl) dL_law_474 (pc' := 477) rfl (fun r u hf => ?_)
  refine j_aload_n hC.1 1 dL_law_477 (pc' := 478) rfl rfl ?_
  refine j_wsE (ws' := wX q ca u ++ (wM q2 ca2 τ ++ [])) (by simp) ?_
  refine jF_i hC.1 (wX q ca u) [] (wf := wM q2 ca2) (σ := τ) (eM hC.2.2.2.2.2.1) (fun z => wM_fst q2 ca2 z τ) (AM_in q2 ca2 τ) (hC.1.2.2.2.2.2.1.sub [18, 19, 20, 21, 22, 23, 24, 25, 26, 27, 28, 29, 30, 31, 32, 33, 34, 35] rfl) (fun _ _ _ _ _ => trivial) (As := []) obM_X8 rfl (lk_X8_rank hC.2.2.2.2.2.1  τ _ hf) wm_719 wm_720 wm_721 wm_8 wm_722 dy_X8_rank ⟨rfl, rfl⟩ ⟨Nat.le_of_ble_eq_true rfl, Nat.le_of_ble_eq_true rfl⟩ hcs rfl rfl (Nat.le_of_ble_eq_true rfl) dL_law_478 (pc' := 481) rfl (fun r2 v hf => ?_)
  refine j_wsE (ws' := wX q ca u ++ wM q2 ca2 v) (by simp) ?_
  refine j_icmp_eq hC.1 (tgt := 1153) dL_law_481 (pc' := 484) rfl (by decide) (fun c_ => ?_) (fun c_ => absurd hf.1 c_)
  exact hnext u v hf.2
set_option maxHeartbeats 4000000 in
set_option maxRecDepth 100000 in
theorem law_c11 {p : Program} {l : Launch} {e : Env} {s : State} {m : MethodId} {below : List Frame} {meth : Method} {c : Code} {Qm : State → Prop} {b L t k cells slots : Nat} {xs : Nat → Int32} {D : va_G} {q q2 : Nat → Nat} {ca ca2 : Nat → ClassId} {Rel : St → St → Prop} (hC : lw_C p s m b meth c L xs D q q2 ca ca2 t) (hcs : cells ≤ room_1.cells ∧ slots ≤ room_1.slots) (hk : k + 6 ≤ L) (hO : Ob_told Rel) (σ τ : St) (hR : Rel σ τ) (hnext : ∀ σ τ : St, Rel σ τ → J p l e room_1 s m #[Value.ref b] below meth c Qm D (fun a => s.heap.size ≤ a) 4 cells slots (wX q ca σ ++ wM q2 ca2 τ) 1153 [(3, .int (nI k)), (2, .ref (q2 0)), (1, .ref (q 0)), (0, .ref b)] []) : J p l e room_1 s m #[Value.ref b] below meth c Qm D (fun a => s.heap.size ≤ a) 4 cells slots (wX q ca σ ++ wM q2 ca2 τ) 486 [(3, .int (nI k)), (2, .ref (q2 0)), (1, .ref (q 0)), (0, .ref b)] [] := by
  refine j_aload_n hC.1 2 dL_law_486 (pc' := 487) rfl rfl ?_
  refine j_aload_n hC.1 3 dL_law_487 (pc' := 488) rfl rfl ?_
  refine j_iload_n hC.1 0 dL_law_488 (pc' := 489) rfl rfl ?_
  refine j_iconst hC.1 (v := 1) dL_law_489 (pc' := 490) rfl (by decide) ?_
  refine j_iadd hC.1 dL_law_490 (pc' := 491) rfl ?_
  refine jL_sld hC.1 hC.2.1 hC.2.2.1 (Nat.not_le.mpr hC.2.2.1) (j := k + 1) (ixL (d := 1) rfl (by decide) hk hC.2.2.2.1).1 (ixL (d := 1) rfl (by decide) hk hC.2.2.2.1).2 dL_law_491 (pc' := 492) rfl ?_
  refine jF_i hC.1 [] (wM q2 ca2 τ) (wf := wX q ca) (σ := σ) (eX hC.2.2.2.2.1 (t := t)) (fun u => wX_fst q ca u σ) (AX_in q ca σ) (hC.1.2.2.2.2.2.1.sub [0, 1, 2, 3, 4, 5, 6, 7, 8, 9, 10, 11, 12, 13, 14, 15, 16, 17] rfl) (fun U H h1 h2 h3 => lw_ZX hC.2.2.2.2.2.2 U H h1 h2 h3) (As := [.int (xs (k + 1))]) obX_X7 rfl (lk_X7_told hC.2.2.2.2.1 ((xs (k + 1))) σ _ (hO σ τ ((xs (k + 1))) hR)) wm_325 wm_326 wm_327 wm_1 wm_328 dy_X7_told ⟨rfl, rfl⟩ ⟨Nat.le_of_ble_eq_true rfl, Nat.le_of_ble_eq_true rfl⟩ hcs rfl rfl (Nat.le_of_ble_eq_true rfl) dL_law_492 (pc' := 495) rfl (fun r u hf => ?_)
  refine j_aload_n hC.1 1 dL_law_495 (pc' := 496) rfl rfl ?_
  refine j_aload_n hC.1 3 dL_law_496 (pc' := 497) rfl rfl ?_
  refine j_iload_n hC.1 0 dL_law_497 (pc' := 498) rfl rfl ?_
  refine j_iconst hC.1 (v := 1) dL_law_498 (pc' := 499) rfl (by decide) ?_
  refine j_iadd hC.1 dL_law_499 (pc' := 500) rfl ?_
  refine jL_sld hC.1 hC.2.1 hC.2.2.1 (Nat.not_le.mpr hC.2.2.1) (j := k + 1) (ixL (d := 1) rfl (by decide) hk hC.2.2.2.1).1 (ixL (d := 1) rfl (by decide) hk hC.2.2.2.1).2 dL_law_500 (pc' := 501) rfl ?_
  refine j_wsE (ws' := wX q ca u ++ (wM q2 ca2 τ ++ [])) (by simp) ?_
  refine jF_i hC.1 (wX q ca u) [] (wf := wM q2 ca2) (σ := τ) (eM hC.2.2.2.2.2.1) (fun z => wM_fst q2 ca2 z τ) (AM_in q2 ca2 τ) (hC.1.2.2.2.2.2.1.sub [18, 19, 20, 21, 22, 23, 24, 25, 26, 27, 28, 29, 30, 31, 32, 33, 34, 35] rfl) (fun _ _ _ _ _ => trivial) (As := [.int (xs (k + 1))]) obM_X8 rfl (lk_X8_told hC.2.2.2.2.2.1 ((xs (k + 1))) τ _ hf) wm_735 wm_736 wm_737 wm_8 wm_738 dy_X8_told ⟨rfl, rfl⟩ ⟨Nat.le_of_ble_eq_true rfl, Nat.le_of_ble_eq_true rfl⟩ hcs rfl rfl (Nat.le_of_ble_eq_true rfl) dL_law_501 (pc' := 504) rfl (fun r2 v hf => ?_)
  refine j_wsE (ws' := wX q ca u ++ wM q2 ca2 v) (by simp) ?_
  refine j_icmp_eq hC.1 (tgt := 1153) dL_law_504 (pc' := 507) rfl (by decide) (fun c_ => ?_) (fun c_ => absurd hf.1 c_)
  exact hnext u v hf.2
set_option maxHeartbeats 4000000 in
set_option maxRecDepth 100000 in
theorem law_c12 {p : Program} {l : Launch} {e : Env} {s : State} {m : MethodId} {below : List Frame} {meth : Method} {c : Code} {Qm : State → Prop} {b L t k cells slots : Nat} {xs : Nat → Int32} {D : va_G} {q q2 : Nat → Nat} {ca ca2 : Nat → ClassId} {Rel : St → St → Prop} (hC : lw_C p s m b meth c L xs D q q2 ca ca2 t) (hcs : cells ≤ room_1.cells ∧ slots ≤ room_1.slots) (hk : k + 6 ≤ L) (hO : Ob_fit Rel) (σ τ : St) (hR : Rel σ τ) (hnext : ∀ σ τ : St, Rel σ τ → J p l e room_1 s m #[Value.ref b] below meth c Qm D (fun a => s.heap.size ≤ a) 4 cells slots (wX q ca σ ++ wM q2 ca2 τ) 1153 [(3, .int (nI k)), (2, .ref (q2 0)), (1, .ref (q 0)), (0, .ref b)] []) : J p l e room_1 s m #[Value.ref b] below meth c Qm D (fun a => s.heap.size ≤ a) 4 cells slots (wX q ca σ ++ wM q2 ca2 τ) 509 [(3, .int (nI k)), (2, .ref (q2 0)), (1, .ref (q 0)), (0, .ref b)] [] := by
  refine j_aload_n hC.1 2 dL_law_509 (pc' := 510) rfl rfl ?_
  refine j_aload_n hC.1 3 dL_law_510 (pc' := 511) rfl rfl ?_
  refine j_iload_n hC.1 0 dL_law_511 (pc' := 512) rfl rfl ?_
  refine j_iconst hC.1 (v := 1) dL_law_512 (pc' := 513) rfl (by decide) ?_
  refine j_iadd hC.1 dL_law_513 (pc' := 514) rfl ?_
  refine jL_sld hC.1 hC.2.1 hC.2.2.1 (Nat.not_le.mpr hC.2.2.1) (j := k + 1) (ixL (d := 1) rfl (by decide) hk hC.2.2.2.1).1 (ixL (d := 1) rfl (by decide) hk hC.2.2.2.1).2 dL_law_514 (pc' := 515) rfl ?_
  refine jF_l hC.1 [] (wM q2 ca2 τ) (wf := wX q ca) (σ := σ) (eX hC.2.2.2.2.1 (t := t)) (fun u => wX_fst q ca u σ) (AX_in q ca σ) (hC.1.2.2.2.2.2.1.sub [0, 1, 2, 3, 4, 5, 6, 7, 8, 9, 10, 11, 12, 13, 14, 15, 16, 17] rfl) (fun U H h1 h2 h3 => lw_ZX hC.2.2.2.2.2.2 U H h1 h2 h3) (As := [.int (xs (k + 1))]) obX_X7 rfl (lk_X7_fit hC.2.2.2.2.1 ((xs (k + 1))) σ _ (hO σ τ ((xs (k + 1))) hR)) wm_334 wm_335 wm_336 wm_1 wm_337 dy_X7_fit ⟨rfl, rfl⟩ ⟨Nat.le_of_ble_eq_true rfl, Nat.le_of_ble_eq_true rfl⟩ hcs rfl rfl (Nat.le_of_ble_eq_true rfl) dL_law_515 (pc' := 518) rfl (fun r u hf => ?_)
  refine j_aload_n hC.1 1 dL_law_518 (pc' := 519) rfl rfl ?_
  refine j_aload_n hC.1 3 dL_law_519 (pc' := 520) rfl rfl ?_
  refine j_iload_n hC.1 0 dL_law_520 (pc' := 521) rfl rfl ?_
  refine j_iconst hC.1 (v := 1) dL_law_521 (pc' := 522) rfl (by decide) ?_
  refine j_iadd hC.1 dL_law_522 (pc' := 523) rfl ?_
  refine jL_sld hC.1 hC.2.1 hC.2.2.1 (Nat.not_le.mpr hC.2.2.1) (j := k + 1) (ixL (d := 1) rfl (by decide) hk hC.2.2.2.1).1 (ixL (d := 1) rfl (by decide) hk hC.2.2.2.1).2 dL_law_523 (pc' := 524) rfl ?_
  refine j_wsE (ws' := wX q ca u ++ (wM q2 ca2 τ ++ [])) (by simp) ?_
  refine jF_l hC.1 (wX q ca u) [] (wf := wM q2 ca2) (σ := τ) (eM hC.2.2.2.2.2.1) (fun z => wM_fst q2 ca2 z τ) (AM_in q2 ca2 τ) (hC.1.2.2.2.2.2.1.sub [18, 19, 20, 21, 22, 23, 24, 25, 26, 27, 28, 29, 30, 31, 32, 33, 34, 35] rfl) (fun _ _ _ _ _ => trivial) (As := [.int (xs (k + 1))]) obM_X8 rfl (lk_X8_fit hC.2.2.2.2.2.1 ((xs (k + 1))) τ _ hf) wm_739 wm_740 wm_741 wm_8 wm_742 dy_X8_fit ⟨rfl, rfl⟩ ⟨Nat.le_of_ble_eq_true rfl, Nat.le_of_ble_eq_true rfl⟩ hcs rfl rfl (Nat.le_of_ble_eq_true rfl) dL_law_524 (pc' := 527) rfl (fun r2 v hf => ?_)
  refine j_wsE (ws' := wX q ca u ++ wM q2 ca2 v) (by simp) ?_
  refine j_lcmp hC.1 dL_law_527 (pc' := 528) rfl ?_
  refine j_if_eq hC.1 (tgt := 1153) dL_law_528 (pc' := 531) rfl (by decide) (fun c_ => ?_) (fun c_ => absurd ((lgc_eq _ _).mpr hf.1) c_)
  exact hnext u v hf.2
set_option maxHeartbeats 4000000 in
set_option maxRecDepth 100000 in
theorem law_c13 {p : Program} {l : Launch} {e : Env} {s : State} {m : MethodId} {below : List Frame} {meth : Method} {c : Code} {Qm : State → Prop} {b L t k cells slots : Nat} {xs : Nat → Int32} {D : va_G} {q q2 : Nat → Nat} {ca ca2 : Nat → ClassId} {Rel : St → St → Prop} (hC : lw_C p s m b meth c L xs D q q2 ca ca2 t) (hcs : cells ≤ room_1.cells ∧ slots ≤ room_1.slots) (hk : k + 6 ≤ L) (hO : Ob_miss Rel) (σ τ : St) (hR : Rel σ τ) (hnext : ∀ σ τ : St, Rel σ τ → J p l e room_1 s m #[Value.ref b] below meth c Qm D (fun a => s.heap.size ≤ a) 4 cells slots (wX q ca σ ++ wM q2 ca2 τ) 1153 [(3, .int (nI k)), (2, .ref (q2 0)), (1, .ref (q 0)), (0, .ref b)] []) : J p l e room_1 s m #[Value.ref b] below meth c Qm D (fun a => s.heap.size ≤ a) 4 cells slots (wX q ca σ ++ wM q2 ca2 τ) 533 [(3, .int (nI k)), (2, .ref (q2 0)), (1, .ref (q 0)), (0, .ref b)] [] := by
  refine j_aload_n hC.1 2 dL_law_533 (pc' := 534) rfl rfl ?_
  refine j_aload_n hC.1 3 dL_law_534 (pc' := 535) rfl rfl ?_
  refine j_iload_n hC.1 0 dL_law_535 (pc' := 536) rfl rfl ?_
  refine j_iconst hC.1 (v := 1) dL_law_536 (pc' := 537) rfl (by decide) ?_
  refine j_iadd hC.1 dL_law_537 (pc' := 538) rfl ?_
  refine jL_sld hC.1 hC.2.1 hC.2.2.1 (Nat.not_le.mpr hC.2.2.1) (j := k + 1) (ixL (d := 1) rfl (by decide) hk hC.2.2.2.1).1 (ixL (d := 1) rfl (by decide) hk hC.2.2.2.1).2 dL_law_538 (pc' := 539) rfl ?_
  refine jF_i hC.1 [] (wM q2 ca2 τ) (wf := wX q ca) (σ := σ) (eX hC.2.2.2.2.1 (t := t)) (fun u => wX_fst q ca u σ) (AX_in q ca σ) (hC.1.2.2.2.2.2.1.sub [0, 1, 2, 3, 4, 5, 6, 7, 8, 9, 10, 11, 12, 13, 14, 15, 16, 17] rfl) (fun U H h1 h2 h3 => lw_ZX hC.2.2.2.2.2.2 U H h1 h2 h3) (As := [.int (xs (k + 1))]) obX_X7 rfl (lk_X7_miss hC.2.2.2.2.1 ((xs (k + 1))) σ _ (hO σ τ ((xs (k + 1))) hR)) wm_339 wm_340 wm_341 wm_1 wm_342 dy_X7_miss ⟨rfl, rfl⟩ ⟨Nat.le_of_ble_eq_true rfl, Nat.le_of_ble_eq_true rfl⟩ hcs rfl rfl (Nat.le_of_ble_eq_true rfl) dL_law_539 (pc' := 542) rfl (fun r u hf => ?_)
  refine j_aload_n hC.1 1 dL_law_542 (pc' := 543) rfl rfl ?_
  refine j_aload_n hC.1 3 dL_law_543 (pc' := 544) rfl rfl ?_
  refine j_iload_n hC.1 0 dL_law_544 (pc' := 545) rfl rfl ?_
  refine j_iconst hC.1 (v := 1) dL_law_545 (pc' := 546) rfl (by decide) ?_
  refine j_iadd hC.1 dL_law_546 (pc' := 547) rfl ?_
  refine jL_sld hC.1 hC.2.1 hC.2.2.1 (Nat.not_le.mpr hC.2.2.1) (j := k + 1) (ixL (d := 1) rfl (by decide) hk hC.2.2.2.1).1 (ixL (d := 1) rfl (by decide) hk hC.2.2.2.1).2 dL_law_547 (pc' := 548) rfl ?_
  refine j_wsE (ws' := wX q ca u ++ (wM q2 ca2 τ ++ [])) (by simp) ?_
  refine jF_i hC.1 (wX q ca u) [] (wf := wM q2 ca2) (σ := τ) (eM hC.2.2.2.2.2.1) (fun z => wM_fst q2 ca2 z τ) (AM_in q2 ca2 τ) (hC.1.2.2.2.2.2.1.sub [18, 19, 20, 21, 22, 23, 24, 25, 26, 27, 28, 29, 30, 31, 32, 33, 34, 35] rfl) (fun _ _ _ _ _ => trivial) (As := [.int (xs (k + 1))]) obM_X8 rfl (lk_X8_miss hC.2.2.2.2.2.1 ((xs (k + 1))) τ _ hf) wm_755 wm_756 wm_757 wm_8 wm_758 dy_X8_miss ⟨rfl, rfl⟩ ⟨Nat.le_of_ble_eq_true rfl, Nat.le_of_ble_eq_true rfl⟩ hcs rfl rfl (Nat.le_of_ble_eq_true rfl) dL_law_548 (pc' := 551) rfl (fun r2 v hf => ?_)
  refine j_wsE (ws' := wX q ca u ++ wM q2 ca2 v) (by simp) ?_
  refine j_icmp_eq hC.1 (tgt := 1153) dL_law_551 (pc' := 554) rfl (by decide) (fun c_ => ?_) (fun c_ => absurd hf.1 c_)
  exact hnext u v hf.2
set_option maxHeartbeats 4000000 in
set_option maxRecDepth 100000 in
theorem law_c14 {p : Program} {l : Launch} {e : Env} {s : State} {m : MethodId} {below : List Frame} {meth : Method} {c : Code} {Qm : State → Prop} {b L t k cells slots : Nat} {xs : Nat → Int32} {D : va_G} {q q2 : Nat → Nat} {ca ca2 : Nat → ClassId} {Rel : St → St → Prop} (hC : lw_C p s m b meth c L xs D q q2 ca ca2 t) (hcs : cells ≤ room_1.cells ∧ slots ≤ room_1.slots) (hk : k + 6 ≤ L) (hO : Ob_worst Rel) (σ τ : St) (hR : Rel σ τ) (hnext : ∀ σ τ : St, Rel σ τ → J p l e room_1 s m #[Value.ref b] below meth c Qm D (fun a => s.heap.size ≤ a) 4 cells slots (wX q ca σ ++ wM q2 ca2 τ) 1153 [(3, .int (nI k)), (2, .ref (q2 0)), (1, .ref (q 0)), (0, .ref b)] []) : J p l e room_1 s m #[Value.ref b] below meth c Qm D (fun a => s.heap.size ≤ a) 4 cells slots (wX q ca σ ++ wM q2 ca2 τ) 556 [(3, .int (nI k)), (2, .ref (q2 0)), (1, .ref (q 0)), (0, .ref b)] [] := by
  refine j_aload_n hC.1 2 dL_law_556 (pc' := 557) rfl rfl ?_
  refine jF_i hC.1 [] (wM q2 ca2 τ) (wf := wX q ca) (σ := σ) (eX hC.2.2.2.2.1 (t := t)) (fun u => wX_fst q ca u σ) (AX_in q ca σ) (hC.1.2.2.2.2.2.1.sub [0, 1, 2, 3, 4, 5, 6, 7, 8, 9, 10, 11, 12, 13, 14, 15, 16, 17] rfl) (fun U H h1 h2 h3 => lw_ZX hC.2.2.2.2.2.2 U H h1 h2 h3) (As := []) obX_X7 rfl (lk_X7_worst hC.2.2.2.2.1  σ _ (hO σ τ  hR)) wm_350 wm_351 wm_352 wm_1 wm_353 dy_X7_worst ⟨rfl, rfl⟩ ⟨Nat.le_of_ble_eq_true rfl, Nat.le_of_ble_eq_true rfl⟩ hcs rfl rfl (Nat.le_of_ble_eq_true rfl) dL_law_557 (pc' := 560) rfl (fun r u hf => ?_)
  refine j_aload_n hC.1 1 dL_law_560 (pc' := 561) rfl rfl ?_
  refine j_wsE (ws' := wX q ca u ++ (wM q2 ca2 τ ++ [])) (by simp) ?_
  refine jF_i hC.1 (wX q ca u) [] (wf := wM q2 ca2) (σ := τ) (eM hC.2.2.2.2.2.1) (fun z => wM_fst q2 ca2 z τ) (AM_in q2 ca2 τ) (hC.1.2.2.2.2.2.1.sub [18, 19, 20, 21, 22, 23, 24, 25, 26, 27, 28, 29, 30, 31, 32, 33, 34, 35] rfl) (fun _ _ _ _ _ => trivial) (As := []) obM_X8 rfl (lk_X8_worst hC.2.2.2.2.2.1  τ _ hf) wm_762 wm_763 wm_764 wm_8 wm_765 dy_X8_worst ⟨rfl, rfl⟩ ⟨Nat.le_of_ble_eq_true rfl, Nat.le_of_ble_eq_true rfl⟩ hcs rfl rfl (Nat.le_of_ble_eq_true rfl) dL_law_561 (pc' := 564) rfl (fun r2 v hf => ?_)
  refine j_wsE (ws' := wX q ca u ++ wM q2 ca2 v) (by simp) ?_
  refine j_icmp_eq hC.1 (tgt := 1153) dL_law_564 (pc' := 567) rfl (by decide) (fun c_ => ?_) (fun c_ => absurd hf.1 c_)
  exact hnext u v hf.2
set_option maxHeartbeats 4000000 in
set_option maxRecDepth 100000 in
theorem law_c15 {p : Program} {l : Launch} {e : Env} {s : State} {m : MethodId} {below : List Frame} {meth : Method} {c : Code} {Qm : State → Prop} {b L t k cells slots : Nat} {xs : Nat → Int32} {D : va_G} {q q2 : Nat → Nat} {ca ca2 : Nat → ClassId} {Rel : St → St → Prop} (hC : lw_C p s m b meth c L xs D q q2 ca ca2 t) (hcs : cells ≤ room_1.cells ∧ slots ≤ room_1.slots) (hk : k + 6 ≤ L) (hO : Ob_best Rel) (σ τ : St) (hR : Rel σ τ) (hnext : ∀ σ τ : St, Rel σ τ → J p l e room_1 s m #[Value.ref b] below meth c Qm D (fun a => s.heap.size ≤ a) 4 cells slots (wX q ca σ ++ wM q2 ca2 τ) 1153 [(3, .int (nI k)), (2, .ref (q2 0)), (1, .ref (q 0)), (0, .ref b)] []) : J p l e room_1 s m #[Value.ref b] below meth c Qm D (fun a => s.heap.size ≤ a) 4 cells slots (wX q ca σ ++ wM q2 ca2 τ) 569 [(3, .int (nI k)), (2, .ref (q2 0)), (1, .ref (q 0)), (0, .ref b)] [] := by
  refine j_aload_n hC.1 2 dL_law_569 (pc' := 570) rfl rfl ?_
  refine j_aload_n hC.1 3 dL_law_570 (pc' := 571) rfl rfl ?_
  refine j_iload_n hC.1 0 dL_law_571 (pc' := 572) rfl rfl ?_
  refine j_iconst hC.1 (v := 1) dL_law_572 (pc' := 573) rfl (by decide) ?_
  refine j_iadd hC.1 dL_law_573 (pc' := 574) rfl ?_
  refine jL_sld hC.1 hC.2.1 hC.2.2.1 (Nat.not_le.mpr hC.2.2.1) (j := k + 1) (ixL (d := 1) rfl (by decide) hk hC.2.2.2.1).1 (ixL (d := 1) rfl (by decide) hk hC.2.2.2.1).2 dL_law_574 (pc' := 575) rfl ?_
  refine jF_i hC.1 [] (wM q2 ca2 τ) (wf := wX q ca) (σ := σ) (eX hC.2.2.2.2.1 (t := t)) (fun u => wX_fst q ca u σ) (AX_in q ca σ) (hC.1.2.2.2.2.2.1.sub [0, 1, 2, 3, 4, 5, 6, 7, 8, 9, 10, 11, 12, 13, 14, 15, 16, 17] rfl) (fun U H h1 h2 h3 => lw_ZX hC.2.2.2.2.2.2 U H h1 h2 h3) (As := [.int (xs (k + 1))]) obX_X7 rfl (lk_X7_best hC.2.2.2.2.1 ((xs (k + 1))) σ _ (hO σ τ ((xs (k + 1))) hR)) wm_354 wm_355 wm_356 wm_1 wm_357 dy_X7_best ⟨rfl, rfl⟩ ⟨Nat.le_of_ble_eq_true rfl, Nat.le_of_ble_eq_true rfl⟩ hcs rfl rfl (Nat.le_of_ble_eq_true rfl) dL_law_575 (pc' := 578) rfl (fun r u hf => ?_)
  refine j_aload_n hC.1 1 dL_law_578 (pc' := 579) rfl rfl ?_
  refine j_aload_n hC.1 3 dL_law_579 (pc' := 580) rfl rfl ?_
  refine j_iload_n hC.1 0 dL_law_580 (pc' := 581) rfl rfl ?_
  refine j_iconst hC.1 (v := 1) dL_law_581 (pc' := 582) rfl (by decide) ?_
  refine j_iadd hC.1 dL_law_582 (pc' := 583) rfl ?_
  refine jL_sld hC.1 hC.2.1 hC.2.2.1 (Nat.not_le.mpr hC.2.2.1) (j := k + 1) (ixL (d := 1) rfl (by decide) hk hC.2.2.2.1).1 (ixL (d := 1) rfl (by decide) hk hC.2.2.2.1).2 dL_law_583 (pc' := 584) rfl ?_
  refine j_wsE (ws' := wX q ca u ++ (wM q2 ca2 τ ++ [])) (by simp) ?_
  refine jF_i hC.1 (wX q ca u) [] (wf := wM q2 ca2) (σ := τ) (eM hC.2.2.2.2.2.1) (fun z => wM_fst q2 ca2 z τ) (AM_in q2 ca2 τ) (hC.1.2.2.2.2.2.1.sub [18, 19, 20, 21, 22, 23, 24, 25, 26, 27, 28, 29, 30, 31, 32, 33, 34, 35] rfl) (fun _ _ _ _ _ => trivial) (As := [.int (xs (k + 1))]) obM_X8 rfl (lk_X8_best hC.2.2.2.2.2.1 ((xs (k + 1))) τ _ hf) wm_776 wm_777 wm_778 wm_8 wm_779 dy_X8_best ⟨rfl, rfl⟩ ⟨Nat.le_of_ble_eq_true rfl, Nat.le_of_ble_eq_true rfl⟩ hcs rfl rfl (Nat.le_of_ble_eq_true rfl) dL_law_584 (pc' := 587) rfl (fun r2 v hf => ?_)
  refine j_wsE (ws' := wX q ca u ++ wM q2 ca2 v) (by simp) ?_
  refine j_icmp_eq hC.1 (tgt := 1153) dL_law_587 (pc' := 590) rfl (by decide) (fun c_ => ?_) (fun c_ => absurd hf.1 c_)
  exact hnext u v hf.2
set_option maxHeartbeats 4000000 in
set_option maxRecDepth 100000 in
theorem law_c16 {p : Program} {l : Launch} {e : Env} {s : State} {m : MethodId} {below : List Frame} {meth : Method} {c : Code} {Qm : State → Prop} {b L t k cells slots : Nat} {xs : Nat → Int32} {D : va_G} {q q2 : Nat → Nat} {ca ca2 : Nat → ClassId} {Rel : St → St → Prop} (hC : lw_C p s m b meth c L xs D q q2 ca ca2 t) (hcs : cells ≤ room_1.cells ∧ slots ≤ room_1.slots) (hk : k + 6 ≤ L) (hO : Ob_weight Rel) (σ τ : St) (hR : Rel σ τ) (hnext : ∀ σ τ : St, Rel σ τ → J p l e room_1 s m #[Value.ref b] below meth c Qm D (fun a => s.heap.size ≤ a) 4 cells slots (wX q ca σ ++ wM q2 ca2 τ) 1153 [(3, .int (nI k)), (2, .ref (q2 0)), (1, .ref (q 0)), (0, .ref b)] []) : J p l e room_1 s m #[Value.ref b] below meth c Qm D (fun a => s.heap.size ≤ a) 4 cells slots (wX q ca σ ++ wM q2 ca2 τ) 592 [(3, .int (nI k)), (2, .ref (q2 0)), (1, .ref (q 0)), (0, .ref b)] [] := by
  refine j_aload_n hC.1 2 dL_law_592 (pc' := 593) rfl rfl ?_
  refine j_aload_n hC.1 3 dL_law_593 (pc' := 594) rfl rfl ?_
  refine j_iload_n hC.1 0 dL_law_594 (pc' := 595) rfl rfl ?_
  refine j_iconst hC.1 (v := 1) dL_law_595 (pc' := 596) rfl (by decide) ?_
  refine j_iadd hC.1 dL_law_596 (pc' := 597) rfl ?_
  refine jL_sld hC.1 hC.2.1 hC.2.2.1 (Nat.not_le.mpr hC.2.2.1) (j := k + 1) (ixL (d := 1) rfl (by decide) hk hC.2.2.2.1).1 (ixL (d := 1) rfl (by decide) hk hC.2.2.2.1).2 dL_law_597 (pc' := 598) rfl ?_
  refine jF_l hC.1 [] (wM q2 ca2 τ) (wf := wX q ca) (σ := σ) (eX hC.2.2.2.2.1 (t := t)) (fun u => wX_fst q ca u σ) (AX_in q ca σ) (hC.1.2.2.2.2.2.1.sub [0, 1, 2, 3, 4, 5, 6, 7, 8, 9, 10, 11, 12, 13, 14, 15, 16, 17] rfl) (fun U H h1 h2 h3 => lw_ZX hC.2.2.2.2.2.2 U H h1 h2 h3) (As := [.int (xs (k + 1))]) obX_X7 rfl (lk_X7_weight hC.2.2.2.2.1 ((xs (k + 1))) σ _ (hO σ τ ((xs (k + 1))) hR)) wm_374 wm_375 wm_376 wm_1 wm_377 dy_X7_weight ⟨rfl, rfl⟩ ⟨Nat.le_of_ble_eq_true rfl, Nat.le_of_ble_eq_true rfl⟩ hcs rfl rfl (Nat.le_of_ble_eq_true rfl) dL_law_598 (pc' := 601) rfl (fun r u hf => ?_)
  refine j_aload_n hC.1 1 dL_law_601 (pc' := 602) rfl rfl ?_
  refine j_aload_n hC.1 3 dL_law_602 (pc' := 603) rfl rfl ?_
  refine j_iload_n hC.1 0 dL_law_603 (pc' := 604) rfl rfl ?_
  refine j_iconst hC.1 (v := 1) dL_law_604 (pc' := 605) rfl (by decide) ?_
  refine j_iadd hC.1 dL_law_605 (pc' := 606) rfl ?_
  refine jL_sld hC.1 hC.2.1 hC.2.2.1 (Nat.not_le.mpr hC.2.2.1) (j := k + 1) (ixL (d := 1) rfl (by decide) hk hC.2.2.2.1).1 (ixL (d := 1) rfl (by decide) hk hC.2.2.2.1).2 dL_law_606 (pc' := 607) rfl ?_
  refine j_wsE (ws' := wX q ca u ++ (wM q2 ca2 τ ++ [])) (by simp) ?_
  refine jF_l hC.1 (wX q ca u) [] (wf := wM q2 ca2) (σ := τ) (eM hC.2.2.2.2.2.1) (fun z => wM_fst q2 ca2 z τ) (AM_in q2 ca2 τ) (hC.1.2.2.2.2.2.1.sub [18, 19, 20, 21, 22, 23, 24, 25, 26, 27, 28, 29, 30, 31, 32, 33, 34, 35] rfl) (fun _ _ _ _ _ => trivial) (As := [.int (xs (k + 1))]) obM_X8 rfl (lk_X8_weight hC.2.2.2.2.2.1 ((xs (k + 1))) τ _ hf) wm_766 wm_767 wm_768 wm_8 wm_769 dy_X8_weight ⟨rfl, rfl⟩ ⟨Nat.le_of_ble_eq_true rfl, Nat.le_of_ble_eq_true rfl⟩ hcs rfl rfl (Nat.le_of_ble_eq_true rfl) dL_law_607 (pc' := 610) rfl (fun r2 v hf => ?_)
  refine j_wsE (ws' := wX q ca u ++ wM q2 ca2 v) (by simp) ?_
  refine j_lcmp hC.1 dL_law_610 (pc' := 611) rfl ?_
  refine j_if_eq hC.1 (tgt := 1153) dL_law_611 (pc' := 614) rfl (by decide) (fun c_ => ?_) (fun c_ => absurd ((lgc_eq _ _).mpr hf.1) c_)
  exact hnext u v hf.2
set_option maxHeartbeats 4000000 in
set_option maxRecDepth 100000 in
theorem law_c17 {p : Program} {l : Launch} {e : Env} {s : State} {m : MethodId} {below : List Frame} {meth : Method} {c : Code} {Qm : State → Prop} {b L t k cells slots : Nat} {xs : Nat → Int32} {D : va_G} {q q2 : Nat → Nat} {ca ca2 : Nat → ClassId} {Rel : St → St → Prop} (hC : lw_C p s m b meth c L xs D q q2 ca ca2 t) (hcs : cells ≤ room_1.cells ∧ slots ≤ room_1.slots) (hk : k + 6 ≤ L) (hO : Ob_pair Rel) (σ τ : St) (hR : Rel σ τ) (hnext : ∀ σ τ : St, Rel σ τ → J p l e room_1 s m #[Value.ref b] below meth c Qm D (fun a => s.heap.size ≤ a) 4 cells slots (wX q ca σ ++ wM q2 ca2 τ) 1153 [(3, .int (nI k)), (2, .ref (q2 0)), (1, .ref (q 0)), (0, .ref b)] []) : J p l e room_1 s m #[Value.ref b] below meth c Qm D (fun a => s.heap.size ≤ a) 4 cells slots (wX q ca σ ++ wM q2 ca2 τ) 616 [(3, .int (nI k)), (2, .ref (q2 0)), (1, .ref (q 0)), (0, .ref b)] [] := by
  refine j_aload_n hC.1 2 dL_law_616 (pc' := 617) rfl rfl ?_
  refine j_aload_n hC.1 3 dL_law_617 (pc' := 618) rfl rfl ?_
  refine j_iload_n hC.1 0 dL_law_618 (pc' := 619) rfl rfl ?_
  refine j_iconst hC.1 (v := 1) dL_law_619 (pc' := 620) rfl (by decide) ?_
  refine j_iadd hC.1 dL_law_620 (pc' := 621) rfl ?_
  refine jL_sld hC.1 hC.2.1 hC.2.2.1 (Nat.not_le.mpr hC.2.2.1) (j := k + 1) (ixL (d := 1) rfl (by decide) hk hC.2.2.2.1).1 (ixL (d := 1) rfl (by decide) hk hC.2.2.2.1).2 dL_law_621 (pc' := 622) rfl ?_
  refine j_aload_n hC.1 3 dL_law_622 (pc' := 623) rfl rfl ?_
  refine j_iload_n hC.1 0 dL_law_623 (pc' := 624) rfl rfl ?_
  refine j_iconst hC.1 (v := 2) dL_law_624 (pc' := 625) rfl (by decide) ?_
  refine j_iadd hC.1 dL_law_625 (pc' := 626) rfl ?_
  refine jL_sld hC.1 hC.2.1 hC.2.2.1 (Nat.not_le.mpr hC.2.2.1) (j := k + 2) (ixL (d := 2) rfl (by decide) hk hC.2.2.2.1).1 (ixL (d := 2) rfl (by decide) hk hC.2.2.2.1).2 dL_law_626 (pc' := 627) rfl ?_
  refine j_aload_n hC.1 3 dL_law_627 (pc' := 628) rfl rfl ?_
  refine j_iload_n hC.1 0 dL_law_628 (pc' := 629) rfl rfl ?_
  refine j_iconst hC.1 (v := 3) dL_law_629 (pc' := 630) rfl (by decide) ?_
  refine j_iadd hC.1 dL_law_630 (pc' := 631) rfl ?_
  refine jL_sld hC.1 hC.2.1 hC.2.2.1 (Nat.not_le.mpr hC.2.2.1) (j := k + 3) (ixL (d := 3) rfl (by decide) hk hC.2.2.2.1).1 (ixL (d := 3) rfl (by decide) hk hC.2.2.2.1).2 dL_law_631 (pc' := 632) rfl ?_
  refine j_aload_n hC.1 3 dL_law_632 (pc' := 633) rfl rfl ?_
  refine j_iload_n hC.1 0 dL_law_633 (pc' := 634) rfl rfl ?_
  refine j_iconst hC.1 (v := 4) dL_law_634 (pc' := 635) rfl (by decide) ?_
  refine j_iadd hC.1 dL_law_635 (pc' := 636) rfl ?_
  refine jL_sld hC.1 hC.2.1 hC.2.2.1 (Nat.not_le.mpr hC.2.2.1) (j := k + 4) (ixL (d := 4) rfl (by decide) hk hC.2.2.2.1).1 (ixL (d := 4) rfl (by decide) hk hC.2.2.2.1).2 dL_law_636 (pc' := 637) rfl ?_
  refine jF_i hC.1 [] (wM q2 ca2 τ) (wf := wX q ca) (σ := σ) (eX hC.2.2.2.2.1 (t := t)) (fun u => wX_fst q ca u σ) (AX_in q ca σ) (hC.1.2.2.2.2.2.1.sub [0, 1, 2, 3, 4, 5, 6, 7, 8, 9, 10, 11, 12, 13, 14, 15, 16, 17] rfl) (fun U H h1 h2 h3 => lw_ZX hC.2.2.2.2.2.2 U H h1 h2 h3) (As := [.int (xs (k + 1)), .int (xs (k + 2)), .int (xs (k + 3)), .int (xs (k + 4))]) obX_X7 rfl (lk_X7_pair hC.2.2.2.2.1 ((xs (k + 1))) ((xs (k + 2))) ((xs (k + 3))) ((xs (k + 4))) σ _ (hO σ τ ((xs (k + 1))) ((xs (k + 2))) ((xs (k + 3))) ((xs (k + 4))) hR)) wm_378 wm_379 wm_380 wm_1 wm_381 dy_X7_pair ⟨rfl, rfl⟩ ⟨Nat.le_of_ble_eq_true rfl, Nat.le_of_ble_eq_true rfl⟩ hcs rfl rfl (Nat.le_of_ble_eq_true rfl) dL_law_637 (pc' := 640) rfl (fun r u hf => ?_)
  refine j_aload_n hC.1 1 dL_law_640 (pc' := 641) rfl rfl ?_
  refine j_aload_n hC.1 3 dL_law_641 (pc' := 642) rfl rfl ?_
  refine j_iload_n hC.1 0 dL_law_642 (pc' := 643) rfl rfl ?_
  refine j_iconst hC.1 (v := 1) dL_law_643 (pc' := 644) rfl (by decide) ?_
  refine j_iadd hC.1 dL_law_644 (pc' := 645) rfl ?_
  refine jL_sld hC.1 hC.2.1 hC.2.2.1 (Nat.not_le.mpr hC.2.2.1) (j := k + 1) (ixL (d := 1) rfl (by decide) hk hC.2.2.2.1).1 (ixL (d := 1) rfl (by decide) hk hC.2.2.2.1).2 dL_law_645 (pc' := 646) rfl ?_
  refine j_aload_n hC.1 3 dL_law_646 (pc' := 647) rfl rfl ?_
  refine j_iload_n hC.1 0 dL_law_647 (pc' := 648) rfl rfl ?_
  refine j_iconst hC.1 (v := 2) dL_law_648 (pc' := 649) rfl (by decide) ?_
  refine j_iadd hC.1 dL_law_649 (pc' := 650) rfl ?_
  refine jL_sld hC.1 hC.2.1 hC.2.2.1 (Nat.not_le.mpr hC.2.2.1) (j := k + 2) (ixL (d := 2) rfl (by decide) hk hC.2.2.2.1).1 (ixL (d := 2) rfl (by decide) hk hC.2.2.2.1).2 dL_law_650 (pc' := 651) rfl ?_
  refine j_aload_n hC.1 3 dL_law_651 (pc' := 652) rfl rfl ?_
  refine j_iload_n hC.1 0 dL_law_652 (pc' := 653) rfl rfl ?_
  refine j_iconst hC.1 (v := 3) dL_law_653 (pc' := 654) rfl (by decide) ?_
  refine j_iadd hC.1 dL_law_654 (pc' := 655) rfl ?_
  refine jL_sld hC.1 hC.2.1 hC.2.2.1 (Nat.not_le.mpr hC.2.2.1) (j := k + 3) (ixL (d := 3) rfl (by decide) hk hC.2.2.2.1).1 (ixL (d := 3) rfl (by decide) hk hC.2.2.2.1).2 dL_law_655 (pc' := 656) rfl ?_
  refine j_aload_n hC.1 3 dL_law_656 (pc' := 657) rfl rfl ?_
  refine j_iload_n hC.1 0 dL_law_657 (pc' := 658) rfl rfl ?_
  refine j_iconst hC.1 (v := 4) dL_law_658 (pc' := 659) rfl (by decide) ?_
  refine j_iadd hC.1 dL_law_659 (pc' := 660) rfl ?_
  refine jL_sld hC.1 hC.2.1 hC.2.2.1 (Nat.not_le.mpr hC.2.2.1) (j := k + 4) (ixL (d := 4) rfl (by decide) hk hC.2.2.2.1).1 (ixL (d := 4) rfl (by decide) hk hC.2.2.2.1).2 dL_law_660 (pc' := 661) rfl ?_
  refine j_wsE (ws' := wX q ca u ++ (wM q2 ca2 τ ++ [])) (by simp) ?_
  refine jF_i hC.1 (wX q ca u) [] (wf := wM q2 ca2) (σ := τ) (eM hC.2.2.2.2.2.1) (fun z => wM_fst q2 ca2 z τ) (AM_in q2 ca2 τ) (hC.1.2.2.2.2.2.1.sub [18, 19, 20, 21, 22, 23, 24, 25, 26, 27, 28, 29, 30, 31, 32, 33, 34, 35] rfl) (fun _ _ _ _ _ => trivial) (As := [.int (xs (k + 1)), .int (xs (k + 2)), .int (xs (k + 3)), .int (xs (k + 4))]) obM_X8 rfl (lk_X8_pair hC.2.2.2.2.2.1 ((xs (k + 1))) ((xs (k + 2))) ((xs (k + 3))) ((xs (k + 4))) τ _ hf) wm_781 wm_782 wm_783 wm_8 wm_784 dy_X8_pair ⟨rfl, rfl⟩ ⟨Nat.le_of_ble_eq_true rfl, Nat.le_of_ble_eq_true rfl⟩ hcs rfl rfl (Nat.le_of_ble_eq_true rfl) dL_law_661 (pc' := 664) rfl (fun r2 v hf => ?_)
  refine j_wsE (ws' := wX q ca u ++ wM q2 ca2 v) (by simp) ?_
  refine j_icmp_eq hC.1 (tgt := 1153) dL_law_664 (pc' := 667) rfl (by decide) (fun c_ => ?_) (fun c_ => absurd hf.1 c_)
  exact hnext u v hf.2
set_option maxHeartbeats 4000000 in
set_option maxRecDepth 100000 in
theorem law_c18 {p : Program} {l : Launch} {e : Env} {s : State} {m : MethodId} {below : List Frame} {meth : Method} {c : Code} {Qm : State → Prop} {b L t k cells slots : Nat} {xs : Nat → Int32} {D : va_G} {q q2 : Nat → Nat} {ca ca2 : Nat → ClassId} {Rel : St → St → Prop} (hC : lw_C p s m b meth c L xs D q q2 ca ca2 t) (hcs : cells ≤ room_1.cells ∧ slots ≤ room_1.slots) (hk : k + 6 ≤ L) (hO : Ob_shut Rel) (σ τ : St) (hR : Rel σ τ) (hnext : ∀ σ τ : St, Rel σ τ → J p l e room_1 s m #[Value.ref b] below meth c Qm D (fun a => s.heap.size ≤ a) 4 cells slots (wX q ca σ ++ wM q2 ca2 τ) 1153 [(3, .int (nI k)), (2, .ref (q2 0)), (1, .ref (q 0)), (0, .ref b)] []) : J p l e room_1 s m #[Value.ref b] below meth c Qm D (fun a => s.heap.size ≤ a) 4 cells slots (wX q ca σ ++ wM q2 ca2 τ) 669 [(3, .int (nI k)), (2, .ref (q2 0)), (1, .ref (q 0)), (0, .ref b)] [] := by
  refine j_aload_n hC.1 2 dL_law_669 (pc' := 670) rfl rfl ?_
  refine jF_i hC.1 [] (wM q2 ca2 τ) (wf := wX q ca) (σ := σ) (eX hC.2.2.2.2.1 (t := t)) (fun u => wX_fst q ca u σ) (AX_in q ca σ) (hC.1.2.2.2.2.2.1.sub [0, 1, 2, 3, 4, 5, 6, 7, 8, 9, 10, 11, 12, 13, 14, 15, 16, 17] rfl) (fun U H h1 h2 h3 => lw_ZX hC.2.2.2.2.2.2 U H h1 h2 h3) (As := []) obX_X7 rfl (lk_X7_shut hC.2.2.2.2.1  σ _ (hO σ τ  hR)) wm_389 wm_390 wm_391 wm_1 wm_392 dy_X7_shut ⟨rfl, rfl⟩ ⟨Nat.le_of_ble_eq_true rfl, Nat.le_of_ble_eq_true rfl⟩ hcs rfl rfl (Nat.le_of_ble_eq_true rfl) dL_law_670 (pc' := 673) rfl (fun r u hf => ?_)
  refine j_aload_n hC.1 1 dL_law_673 (pc' := 674) rfl rfl ?_
  refine j_wsE (ws' := wX q ca u ++ (wM q2 ca2 τ ++ [])) (by simp) ?_
  refine jF_i hC.1 (wX q ca u) [] (wf := wM q2 ca2) (σ := τ) (eM hC.2.2.2.2.2.1) (fun z => wM_fst q2 ca2 z τ) (AM_in q2 ca2 τ) (hC.1.2.2.2.2.2.1.sub [18, 19, 20, 21, 22, 23, 24, 25, 26, 27, 28, 29, 30, 31, 32, 33, 34, 35] rfl) (fun _ _ _ _ _ => trivial) (As := []) obM_X8 rfl (lk_X8_shut hC.2.2.2.2.2.1  τ _ hf) wm_790 wm_791 wm_792 wm_8 wm_793 dy_X8_shut ⟨rfl, rfl⟩ ⟨Nat.le_of_ble_eq_true rfl, Nat.le_of_ble_eq_true rfl⟩ hcs rfl rfl (Nat.le_of_ble_eq_true rfl) dL_law_674 (pc' := 677) rfl (fun r2 v hf => ?_)
  refine j_wsE (ws' := wX q ca u ++ wM q2 ca2 v) (by simp) ?_
  refine j_icmp_eq hC.1 (tgt := 1153) dL_law_677 (pc' := 680) rfl (by decide) (fun c_ => ?_) (fun c_ => absurd hf.1 c_)
  exact hnext u v hf.2
set_option maxHeartbeats 4000000 in
set_option maxRecDepth 100000 in
theorem law_c19 {p : Program} {l : Launch} {e : Env} {s : State} {m : MethodId} {below : List Frame} {meth : Method} {c : Code} {Qm : State → Prop} {b L t k cells slots : Nat} {xs : Nat → Int32} {D : va_G} {q q2 : Nat → Nat} {ca ca2 : Nat → ClassId} {Rel : St → St → Prop} (hC : lw_C p s m b meth c L xs D q q2 ca ca2 t) (hcs : cells ≤ room_1.cells ∧ slots ≤ room_1.slots) (hk : k + 6 ≤ L) (hO : Ob_answers Rel) (σ τ : St) (hR : Rel σ τ) (hnext : ∀ σ τ : St, Rel σ τ → J p l e room_1 s m #[Value.ref b] below meth c Qm D (fun a => s.heap.size ≤ a) 4 cells slots (wX q ca σ ++ wM q2 ca2 τ) 1153 [(3, .int (nI k)), (2, .ref (q2 0)), (1, .ref (q 0)), (0, .ref b)] []) : J p l e room_1 s m #[Value.ref b] below meth c Qm D (fun a => s.heap.size ≤ a) 4 cells slots (wX q ca σ ++ wM q2 ca2 τ) 682 [(3, .int (nI k)), (2, .ref (q2 0)), (1, .ref (q 0)), (0, .ref b)] [] := by
  refine j_aload_n hC.1 2 dL_law_682 (pc' := 683) rfl rfl ?_
  refine jF_i hC.1 [] (wM q2 ca2 τ) (wf := wX q ca) (σ := σ) (eX hC.2.2.2.2.1 (t := t)) (fun u => wX_fst q ca u σ) (AX_in q ca σ) (hC.1.2.2.2.2.2.1.sub [0, 1, 2, 3, 4, 5, 6, 7, 8, 9, 10, 11, 12, 13, 14, 15, 16, 17] rfl) (fun U H h1 h2 h3 => lw_ZX hC.2.2.2.2.2.2 U H h1 h2 h3) (As := []) obX_X7 rfl (lk_X7_answers hC.2.2.2.2.1  σ _ (hO σ τ  hR)) wm_393 wm_394 wm_395 wm_1 wm_396 dy_X7_answers ⟨rfl, rfl⟩ ⟨Nat.le_of_ble_eq_true rfl, Nat.le_of_ble_eq_true rfl⟩ hcs rfl rfl (Nat.le_of_ble_eq_true rfl) dL_law_683 (pc' := 686) rfl (fun r u hf => ?_)
  refine j_aload_n hC.1 1 dL_law_686 (pc' := 687) rfl rfl ?_
  refine j_wsE (ws' := wX q ca u ++ (wM q2 ca2 τ ++ [])) (by simp) ?_
  refine jF_i hC.1 (wX q ca u) [] (wf := wM q2 ca2) (σ := τ) (eM hC.2.2.2.2.2.1) (fun z => wM_fst q2 ca2 z τ) (AM_in q2 ca2 τ) (hC.1.2.2.2.2.2.1.sub [18, 19, 20, 21, 22, 23, 24, 25, 26, 27, 28, 29, 30, 31, 32, 33, 34, 35] rfl) (fun _ _ _ _ _ => trivial) (As := []) obM_X8 rfl (lk_X8_answers hC.2.2.2.2.2.1  τ _ hf) wm_794 wm_795 wm_796 wm_8 wm_797 dy_X8_answers ⟨rfl, rfl⟩ ⟨Nat.le_of_ble_eq_true rfl, Nat.le_of_ble_eq_true rfl⟩ hcs rfl rfl (Nat.le_of_ble_eq_true rfl) dL_law_687 (pc' := 690) rfl (fun r2 v hf => ?_)
  refine j_wsE (ws' := wX q ca u ++ wM q2 ca2 v) (by simp) ?_
  refine j_icmp_eq hC.1 (tgt := 1153) dL_law_690 (pc' := 693) rfl (by decide) (fun c_ => ?_) (fun c_ => absurd hf.1 c_)
  exact hnext u v hf.2
set_option maxHeartbeats 4000000 in
set_option maxRecDepth 100000 in
theorem law_c20 {p : Program} {l : Launch} {e : Env} {s : State} {m : MethodId} {below : List Frame} {meth : Method} {c : Code} {Qm : State → Prop} {b L t k cells slots : Nat} {xs : Nat → Int32} {D : va_G} {q q2 : Nat → Nat} {ca ca2 : Nat → ClassId} {Rel : St → St → Prop} (hC : lw_C p s m b meth c L xs D q q2 ca ca2 t) (hcs : cells ≤ room_1.cells ∧ slots ≤ room_1.slots) (hk : k + 6 ≤ L) (hO : Ob_answer Rel) (σ τ : St) (hR : Rel σ τ) (hnext : ∀ σ τ : St, Rel σ τ → J p l e room_1 s m #[Value.ref b] below meth c Qm D (fun a => s.heap.size ≤ a) 4 cells slots (wX q ca σ ++ wM q2 ca2 τ) 1153 [(3, .int (nI k)), (2, .ref (q2 0)), (1, .ref (q 0)), (0, .ref b)] []) : J p l e room_1 s m #[Value.ref b] below meth c Qm D (fun a => s.heap.size ≤ a) 4 cells slots (wX q ca σ ++ wM q2 ca2 τ) 695 [(3, .int (nI k)), (2, .ref (q2 0)), (1, .ref (q 0)), (0, .ref b)] [] := by
  refine j_aload_n hC.1 2 dL_law_695 (pc' := 696) rfl rfl ?_
  refine j_aload_n hC.1 3 dL_law_696 (pc' := 697) rfl rfl ?_
  refine j_iload_n hC.1 0 dL_law_697 (pc' := 698) rfl rfl ?_
  refine j_iconst hC.1 (v := 1) dL_law_698 (pc' := 699) rfl (by decide) ?_
  refine j_iadd hC.1 dL_law_699 (pc' := 700) rfl ?_
  refine jL_sld hC.1 hC.2.1 hC.2.2.1 (Nat.not_le.mpr hC.2.2.1) (j := k + 1) (ixL (d := 1) rfl (by decide) hk hC.2.2.2.1).1 (ixL (d := 1) rfl (by decide) hk hC.2.2.2.1).2 dL_law_700 (pc' := 701) rfl ?_
  refine j_aload_n hC.1 3 dL_law_701 (pc' := 702) rfl rfl ?_
  refine j_iload_n hC.1 0 dL_law_702 (pc' := 703) rfl rfl ?_
  refine j_iconst hC.1 (v := 2) dL_law_703 (pc' := 704) rfl (by decide) ?_
  refine j_iadd hC.1 dL_law_704 (pc' := 705) rfl ?_
  refine jL_sld hC.1 hC.2.1 hC.2.2.1 (Nat.not_le.mpr hC.2.2.1) (j := k + 2) (ixL (d := 2) rfl (by decide) hk hC.2.2.2.1).1 (ixL (d := 2) rfl (by decide) hk hC.2.2.2.1).2 dL_law_705 (pc' := 706) rfl ?_
  refine jF_i hC.1 [] (wM q2 ca2 τ) (wf := wX q ca) (σ := σ) (eX hC.2.2.2.2.1 (t := t)) (fun u => wX_fst q ca u σ) (AX_in q ca σ) (hC.1.2.2.2.2.2.1.sub [0, 1, 2, 3, 4, 5, 6, 7, 8, 9, 10, 11, 12, 13, 14, 15, 16, 17] rfl) (fun U H h1 h2 h3 => lw_ZX hC.2.2.2.2.2.2 U H h1 h2 h3) (As := [.int (xs (k + 1)), .int (xs (k + 2))]) obX_X7 rfl (lk_X7_answer hC.2.2.2.2.1 ((xs (k + 1))) ((xs (k + 2))) σ _ (hO σ τ ((xs (k + 1))) ((xs (k + 2))) hR)) wm_410 wm_411 wm_412 wm_1 wm_413 dy_X7_answer ⟨rfl, rfl⟩ ⟨Nat.le_of_ble_eq_true rfl, Nat.le_of_ble_eq_true rfl⟩ hcs rfl rfl (Nat.le_of_ble_eq_true rfl) dL_law_706 (pc' := 709) rfl (fun r u hf => ?_)
  refine j_aload_n hC.1 1 dL_law_709 (pc' := 710) rfl rfl ?_
  refine j_aload_n hC.1 3 dL_law_710 (pc' := 711) rfl rfl ?_
  refine j_iload_n hC.1 0 dL_law_711 (pc' := 712) rfl rfl ?_
  refine j_iconst hC.1 (v := 1) dL_law_712 (pc' := 713) rfl (by decide) ?_
  refine j_iadd hC.1 dL_law_713 (pc' := 714) rfl ?_
  refine jL_sld hC.1 hC.2.1 hC.2.2.1 (Nat.not_le.mpr hC.2.2.1) (j := k + 1) (ixL (d := 1) rfl (by decide) hk hC.2.2.2.1).1 (ixL (d := 1) rfl (by decide) hk hC.2.2.2.1).2 dL_law_714 (pc' := 715) rfl ?_
  refine j_aload_n hC.1 3 dL_law_715 (pc' := 716) rfl rfl ?_
  refine j_iload_n hC.1 0 dL_law_716 (pc' := 717) rfl rfl ?_
  refine j_iconst hC.1 (v := 2) dL_law_717 (pc' := 718) rfl (by decide) ?_
  refine j_iadd hC.1 dL_law_718 (pc' := 719) rfl ?_
  refine jL_sld hC.1 hC.2.1 hC.2.2.1 (Nat.not_le.mpr hC.2.2.1) (j := k + 2) (ixL (d := 2) rfl (by decide) hk hC.2.2.2.1).1 (ixL (d := 2) rfl (by decide) hk hC.2.2.2.1).2 dL_law_719 (pc' := 720) rfl ?_
  refine j_wsE (ws' := wX q ca u ++ (wM q2 ca2 τ ++ [])) (by simp) ?_
  refine jF_i hC.1 (wX q ca u) [] (wf := wM q2 ca2) (σ := τ) (eM hC.2.2.2.2.2.1) (fun z => wM_fst q2 ca2 z τ) (AM_in q2 ca2 τ) (hC.1.2.2.2.2.2.1.sub [18, 19, 20, 21, 22, 23, 24, 25, 26, 27, 28, 29, 30, 31, 32, 33, 34, 35] rfl) (fun _ _ _ _ _ => trivial) (As := [.int (xs (k + 1)), .int (xs (k + 2))]) obM_X8 rfl (lk_X8_answer hC.2.2.2.2.2.1 ((xs (k + 1))) ((xs (k + 2))) τ _ hf) wm_804 wm_805 wm_806 wm_8 wm_807 dy_X8_answer ⟨rfl, rfl⟩ ⟨Nat.le_of_ble_eq_true rfl, Nat.le_of_ble_eq_true rfl⟩ hcs rfl rfl (Nat.le_of_ble_eq_true rfl) dL_law_720 (pc' := 723) rfl (fun r2 v hf => ?_)
  refine j_wsE (ws' := wX q ca u ++ wM q2 ca2 v) (by simp) ?_
  refine j_icmp_eq hC.1 (tgt := 1153) dL_law_723 (pc' := 726) rfl (by decide) (fun c_ => ?_) (fun c_ => absurd hf.1 c_)
  exact hnext u v hf.2
set_option maxHeartbeats 4000000 in
set_option maxRecDepth 100000 in
theorem law_c21 {p : Program} {l : Launch} {e : Env} {s : State} {m : MethodId} {below : List Frame} {meth : Method} {c : Code} {Qm : State → Prop} {b L t k cells slots : Nat} {xs : Nat → Int32} {D : va_G} {q q2 : Nat → Nat} {ca ca2 : Nat → ClassId} {Rel : St → St → Prop} (hC : lw_C p s m b meth c L xs D q q2 ca ca2 t) (hcs : cells ≤ room_1.cells ∧ slots ≤ room_1.slots) (hk : k + 6 ≤ L) (hO : Ob_limit Rel) (σ τ : St) (hR : Rel σ τ) (hnext : ∀ σ τ : St, Rel σ τ → J p l e room_1 s m #[Value.ref b] below meth c Qm D (fun a => s.heap.size ≤ a) 4 cells slots (wX q ca σ ++ wM q2 ca2 τ) 1153 [(3, .int (nI k)), (2, .ref (q2 0)), (1, .ref (q 0)), (0, .ref b)] []) : J p l e room_1 s m #[Value.ref b] below meth c Qm D (fun a => s.heap.size ≤ a) 4 cells slots (wX q ca σ ++ wM q2 ca2 τ) 728 [(3, .int (nI k)), (2, .ref (q2 0)), (1, .ref (q 0)), (0, .ref b)] [] := by
  refine j_aload_n hC.1 2 dL_law_728 (pc' := 729) rfl rfl ?_
  refine j_aload_n hC.1 3 dL_law_729 (pc' := 730) rfl rfl ?_
  refine j_iload_n hC.1 0 dL_law_730 (pc' := 731) rfl rfl ?_
  refine j_iconst hC.1 (v := 1) dL_law_731 (pc' := 732) rfl (by decide) ?_
  refine j_iadd hC.1 dL_law_732 (pc' := 733) rfl ?_
  refine jL_sld hC.1 hC.2.1 hC.2.2.1 (Nat.not_le.mpr hC.2.2.1) (j := k + 1) (ixL (d := 1) rfl (by decide) hk hC.2.2.2.1).1 (ixL (d := 1) rfl (by decide) hk hC.2.2.2.1).2 dL_law_733 (pc' := 734) rfl ?_
  refine j_aload_n hC.1 3 dL_law_734 (pc' := 735) rfl rfl ?_
  refine j_iload_n hC.1 0 dL_law_735 (pc' := 736) rfl rfl ?_
  refine j_iconst hC.1 (v := 2) dL_law_736 (pc' := 737) rfl (by decide) ?_
  refine j_iadd hC.1 dL_law_737 (pc' := 738) rfl ?_
  refine jL_sld hC.1 hC.2.1 hC.2.2.1 (Nat.not_le.mpr hC.2.2.1) (j := k + 2) (ixL (d := 2) rfl (by decide) hk hC.2.2.2.1).1 (ixL (d := 2) rfl (by decide) hk hC.2.2.2.1).2 dL_law_738 (pc' := 739) rfl ?_
  refine j_aload_n hC.1 3 dL_law_739 (pc' := 740) rfl rfl ?_
  refine j_iload_n hC.1 0 dL_law_740 (pc' := 741) rfl rfl ?_
  refine j_iconst hC.1 (v := 3) dL_law_741 (pc' := 742) rfl (by decide) ?_
  refine j_iadd hC.1 dL_law_742 (pc' := 743) rfl ?_
  refine jL_sld hC.1 hC.2.1 hC.2.2.1 (Nat.not_le.mpr hC.2.2.1) (j := k + 3) (ixL (d := 3) rfl (by decide) hk hC.2.2.2.1).1 (ixL (d := 3) rfl (by decide) hk hC.2.2.2.1).2 dL_law_743 (pc' := 744) rfl ?_
  refine jF_i hC.1 [] (wM q2 ca2 τ) (wf := wX q ca) (σ := σ) (eX hC.2.2.2.2.1 (t := t)) (fun u => wX_fst q ca u σ) (AX_in q ca σ) (hC.1.2.2.2.2.2.1.sub [0, 1, 2, 3, 4, 5, 6, 7, 8, 9, 10, 11, 12, 13, 14, 15, 16, 17] rfl) (fun U H h1 h2 h3 => lw_ZX hC.2.2.2.2.2.2 U H h1 h2 h3) (As := [.int (xs (k + 1)), .int (xs (k + 2)), .int (xs (k + 3))]) obX_X7 rfl (lk_X7_limit hC.2.2.2.2.1 ((xs (k + 1))) ((xs (k + 2))) ((xs (k + 3))) σ _ (hO σ τ ((xs (k + 1))) ((xs (k + 2))) ((xs (k + 3))) hR)) wm_420 wm_421 wm_422 wm_1 wm_423 dy_X7_limit ⟨rfl, rfl⟩ ⟨Nat.le_of_ble_eq_true rfl, Nat.le_of_ble_eq_true rfl⟩ hcs rfl rfl (Nat.le_of_ble_eq_true rfl) dL_law_744 (pc' := 747) rfl (fun r u hf => ?_)
  refine j_aload_n hC.1 1 dL_law_747 (pc' := 748) rfl rfl ?_
  refine j_aload_n hC.1 3 dL_law_748 (pc' := 749) rfl rfl ?_
  refine j_iload_n hC.1 0 dL_law_749 (pc' := 750) rfl rfl ?_
  refine j_iconst hC.1 (v := 1) dL_law_750 (pc' := 751) rfl (by decide) ?_
  refine j_iadd hC.1 dL_law_751 (pc' := 752) rfl ?_
  refine jL_sld hC.1 hC.2.1 hC.2.2.1 (Nat.not_le.mpr hC.2.2.1) (j := k + 1) (ixL (d := 1) rfl (by decide) hk hC.2.2.2.1).1 (ixL (d := 1) rfl (by decide) hk hC.2.2.2.1).2 dL_law_752 (pc' := 753) rfl ?_
  refine j_aload_n hC.1 3 dL_law_753 (pc' := 754) rfl rfl ?_
  refine j_iload_n hC.1 0 dL_law_754 (pc' := 755) rfl rfl ?_
  refine j_iconst hC.1 (v := 2) dL_law_755 (pc' := 756) rfl (by decide) ?_
  refine j_iadd hC.1 dL_law_756 (pc' := 757) rfl ?_
  refine jL_sld hC.1 hC.2.1 hC.2.2.1 (Nat.not_le.mpr hC.2.2.1) (j := k + 2) (ixL (d := 2) rfl (by decide) hk hC.2.2.2.1).1 (ixL (d := 2) rfl (by decide) hk hC.2.2.2.1).2 dL_law_757 (pc' := 758) rfl ?_
  refine j_aload_n hC.1 3 dL_law_758 (pc' := 759) rfl rfl ?_
  refine j_iload_n hC.1 0 dL_law_759 (pc' := 760) rfl rfl ?_
  refine j_iconst hC.1 (v := 3) dL_law_760 (pc' := 761) rfl (by decide) ?_
  refine j_iadd hC.1 dL_law_761 (pc' := 762) rfl ?_
  refine jL_sld hC.1 hC.2.1 hC.2.2.1 (Nat.not_le.mpr hC.2.2.1) (j := k + 3) (ixL (d := 3) rfl (by decide) hk hC.2.2.2.1).1 (ixL (d := 3) rfl (by decide) hk hC.2.2.2.1).2 dL_law_762 (pc' := 763) rfl ?_
  refine j_wsE (ws' := wX q ca u ++ (wM q2 ca2 τ ++ [])) (by simp) ?_
  refine jF_i hC.1 (wX q ca u) [] (wf := wM q2 ca2) (σ := τ) (eM hC.2.2.2.2.2.1) (fun z => wM_fst q2 ca2 z τ) (AM_in q2 ca2 τ) (hC.1.2.2.2.2.2.1.sub [18, 19, 20, 21, 22, 23, 24, 25, 26, 27, 28, 29, 30, 31, 32, 33, 34, 35] rfl) (fun _ _ _ _ _ => trivial) (As := [.int (xs (k + 1)), .int (xs (k + 2)), .int (xs (k + 3))]) obM_X8 rfl (lk_X8_limit hC.2.2.2.2.2.1 ((xs (k + 1))) ((xs (k + 2))) ((xs (k + 3))) τ _ hf) wm_810 wm_811 wm_812 wm_8 wm_813 dy_X8_limit ⟨rfl, rfl⟩ ⟨Nat.le_of_ble_eq_true rfl, Nat.le_of_ble_eq_true rfl⟩ hcs rfl rfl (Nat.le_of_ble_eq_true rfl) dL_law_763 (pc' := 766) rfl (fun r2 v hf => ?_)
  refine j_wsE (ws' := wX q ca u ++ wM q2 ca2 v) (by simp) ?_
  refine j_icmp_eq hC.1 (tgt := 1153) dL_law_766 (pc' := 769) rfl (by decide) (fun c_ => ?_) (fun c_ => absurd hf.1 c_)
  exact hnext u v hf.2
set_option maxHeartbeats 4000000 in
set_option maxRecDepth 100000 in
theorem law_c22 {p : Program} {l : Launch} {e : Env} {s : State} {m : MethodId} {below : List Frame} {meth : Method} {c : Code} {Qm : State → Prop} {b L t k cells slots : Nat} {xs : Nat → Int32} {D : va_G} {q q2 : Nat → Nat} {ca ca2 : Nat → ClassId} {Rel : St → St → Prop} (hC : lw_C p s m b meth c L xs D q q2 ca ca2 t) (hcs : cells ≤ room_1.cells ∧ slots ≤ room_1.slots) (hk : k + 6 ≤ L) (hO : Ob_nearest Rel) (σ τ : St) (hR : Rel σ τ) (hnext : ∀ σ τ : St, Rel σ τ → J p l e room_1 s m #[Value.ref b] below meth c Qm D (fun a => s.heap.size ≤ a) 4 cells slots (wX q ca σ ++ wM q2 ca2 τ) 1153 [(3, .int (nI k)), (2, .ref (q2 0)), (1, .ref (q 0)), (0, .ref b)] []) : J p l e room_1 s m #[Value.ref b] below meth c Qm D (fun a => s.heap.size ≤ a) 4 cells slots (wX q ca σ ++ wM q2 ca2 τ) 771 [(3, .int (nI k)), (2, .ref (q2 0)), (1, .ref (q 0)), (0, .ref b)] [] := by
  refine j_aload_n hC.1 2 dL_law_771 (pc' := 772) rfl rfl ?_
  refine j_aload_n hC.1 3 dL_law_772 (pc' := 773) rfl rfl ?_
  refine j_iload_n hC.1 0 dL_law_773 (pc' := 774) rfl rfl ?_
  refine j_iconst hC.1 (v := 1) dL_law_774 (pc' := 775) rfl (by decide) ?_
  refine j_iadd hC.1 dL_law_775 (pc' := 776) rfl ?_
  refine jL_sld hC.1 hC.2.1 hC.2.2.1 (Nat.not_le.mpr hC.2.2.1) (j := k + 1) (ixL (d := 1) rfl (by decide) hk hC.2.2.2.1).1 (ixL (d := 1) rfl (by decide) hk hC.2.2.2.1).2 dL_law_776 (pc' := 777) rfl ?_
  refine j_aload_n hC.1 3 dL_law_777 (pc' := 778) rfl rfl ?_
  refine j_iload_n hC.1 0 dL_law_778 (pc' := 779) rfl rfl ?_
  refine j_iconst hC.1 (v := 2) dL_law_779 (pc' := 780) rfl (by decide) ?_
  refine j_iadd hC.1 dL_law_780 (pc' := 781) rfl ?_
  refine jL_sld hC.1 hC.2.1 hC.2.2.1 (Nat.not_le.mpr hC.2.2.1) (j := k + 2) (ixL (d := 2) rfl (by decide) hk hC.2.2.2.1).1 (ixL (d := 2) rfl (by decide) hk hC.2.2.2.1).2 dL_law_781 (pc' := 782) rfl ?_
  refine jF_i hC.1 [] (wM q2 ca2 τ) (wf := wX q ca) (σ := σ) (eX hC.2.2.2.2.1 (t := t)) (fun u => wX_fst q ca u σ) (AX_in q ca σ) (hC.1.2.2.2.2.2.1.sub [0, 1, 2, 3, 4, 5, 6, 7, 8, 9, 10, 11, 12, 13, 14, 15, 16, 17] rfl) (fun U H h1 h2 h3 => lw_ZX hC.2.2.2.2.2.2 U H h1 h2 h3) (As := [.int (xs (k + 1)), .int (xs (k + 2))]) obX_X7 rfl (lk_X7_nearest hC.2.2.2.2.1 ((xs (k + 1))) ((xs (k + 2))) σ _ (hO σ τ ((xs (k + 1))) ((xs (k + 2))) hR)) wm_429 wm_430 wm_431 wm_1 wm_432 dy_X7_nearest ⟨rfl, rfl⟩ ⟨Nat.le_of_ble_eq_true rfl, Nat.le_of_ble_eq_true rfl⟩ hcs rfl rfl (Nat.le_of_ble_eq_true rfl) dL_law_782 (pc' := 785) rfl (fun r u hf => ?_)
  refine j_aload_n hC.1 1 dL_law_785 (pc' := 786) rfl rfl ?_
  refine j_aload_n hC.1 3 dL_law_786 (pc' := 787) rfl rfl ?_
  refine j_iload_n hC.1 0 dL_law_787 (pc' := 788) rfl rfl ?_
  refine j_iconst hC.1 (v := 1) dL_law_788 (pc' := 789) rfl (by decide) ?_
  refine j_iadd hC.1 dL_law_789 (pc' := 790) rfl ?_
  refine jL_sld hC.1 hC.2.1 hC.2.2.1 (Nat.not_le.mpr hC.2.2.1) (j := k + 1) (ixL (d := 1) rfl (by decide) hk hC.2.2.2.1).1 (ixL (d := 1) rfl (by decide) hk hC.2.2.2.1).2 dL_law_790 (pc' := 791) rfl ?_
  refine j_aload_n hC.1 3 dL_law_791 (pc' := 792) rfl rfl ?_
  refine j_iload_n hC.1 0 dL_law_792 (pc' := 793) rfl rfl ?_
  refine j_iconst hC.1 (v := 2) dL_law_793 (pc' := 794) rfl (by decide) ?_
  refine j_iadd hC.1 dL_law_794 (pc' := 795) rfl ?_
  refine jL_sld hC.1 hC.2.1 hC.2.2.1 (Nat.not_le.mpr hC.2.2.1) (j := k + 2) (ixL (d := 2) rfl (by decide) hk hC.2.2.2.1).1 (ixL (d := 2) rfl (by decide) hk hC.2.2.2.1).2 dL_law_795 (pc' := 796) rfl ?_
  refine j_wsE (ws' := wX q ca u ++ (wM q2 ca2 τ ++ [])) (by simp) ?_
  refine jF_i hC.1 (wX q ca u) [] (wf := wM q2 ca2) (σ := τ) (eM hC.2.2.2.2.2.1) (fun z => wM_fst q2 ca2 z τ) (AM_in q2 ca2 τ) (hC.1.2.2.2.2.2.1.sub [18, 19, 20, 21, 22, 23, 24, 25, 26, 27, 28, 29, 30, 31, 32, 33, 34, 35] rfl) (fun _ _ _ _ _ => trivial) (As := [.int (xs (k + 1)), .int (xs (k + 2))]) obM_X8 rfl (lk_X8_nearest hC.2.2.2.2.2.1 ((xs (k + 1))) ((xs (k + 2))) τ _ hf) wm_814 wm_815 wm_816 wm_8 wm_817 dy_X8_nearest ⟨rfl, rfl⟩ ⟨Nat.le_of_ble_eq_true rfl, Nat.le_of_ble_eq_true rfl⟩ hcs rfl rfl (Nat.le_of_ble_eq_true rfl) dL_law_796 (pc' := 799) rfl (fun r2 v hf => ?_)
  refine j_wsE (ws' := wX q ca u ++ wM q2 ca2 v) (by simp) ?_
  refine j_icmp_eq hC.1 (tgt := 1153) dL_law_799 (pc' := 802) rfl (by decide) (fun c_ => ?_) (fun c_ => absurd hf.1 c_)
  exact hnext u v hf.2
set_option maxHeartbeats 4000000 in
set_option maxRecDepth 100000 in
theorem law_c23 {p : Program} {l : Launch} {e : Env} {s : State} {m : MethodId} {below : List Frame} {meth : Method} {c : Code} {Qm : State → Prop} {b L t k cells slots : Nat} {xs : Nat → Int32} {D : va_G} {q q2 : Nat → Nat} {ca ca2 : Nat → ClassId} {Rel : St → St → Prop} (hC : lw_C p s m b meth c L xs D q q2 ca ca2 t) (hcs : cells ≤ room_1.cells ∧ slots ≤ room_1.slots) (hk : k + 6 ≤ L) (hO : Ob_near Rel) (σ τ : St) (hR : Rel σ τ) (hnext : ∀ σ τ : St, Rel σ τ → J p l e room_1 s m #[Value.ref b] below meth c Qm D (fun a => s.heap.size ≤ a) 4 cells slots (wX q ca σ ++ wM q2 ca2 τ) 1153 [(3, .int (nI k)), (2, .ref (q2 0)), (1, .ref (q 0)), (0, .ref b)] []) : J p l e room_1 s m #[Value.ref b] below meth c Qm D (fun a => s.heap.size ≤ a) 4 cells slots (wX q ca σ ++ wM q2 ca2 τ) 804 [(3, .int (nI k)), (2, .ref (q2 0)), (1, .ref (q 0)), (0, .ref b)] [] := by
  refine j_aload_n hC.1 2 dL_law_804 (pc' := 805) rfl rfl ?_
  refine j_aload_n hC.1 3 dL_law_805 (pc' := 806) rfl rfl ?_
  refine j_iload_n hC.1 0 dL_law_806 (pc' := 807) rfl rfl ?_
  refine j_iconst hC.1 (v := 1) dL_law_807 (pc' := 808) rfl (by decide) ?_
  refine j_iadd hC.1 dL_law_808 (pc' := 809) rfl ?_
  refine jL_sld hC.1 hC.2.1 hC.2.2.1 (Nat.not_le.mpr hC.2.2.1) (j := k + 1) (ixL (d := 1) rfl (by decide) hk hC.2.2.2.1).1 (ixL (d := 1) rfl (by decide) hk hC.2.2.2.1).2 dL_law_809 (pc' := 810) rfl ?_
  refine j_aload_n hC.1 3 dL_law_810 (pc' := 811) rfl rfl ?_
  refine j_iload_n hC.1 0 dL_law_811 (pc' := 812) rfl rfl ?_
  refine j_iconst hC.1 (v := 2) dL_law_812 (pc' := 813) rfl (by decide) ?_
  refine j_iadd hC.1 dL_law_813 (pc' := 814) rfl ?_
  refine jL_sld hC.1 hC.2.1 hC.2.2.1 (Nat.not_le.mpr hC.2.2.1) (j := k + 2) (ixL (d := 2) rfl (by decide) hk hC.2.2.2.1).1 (ixL (d := 2) rfl (by decide) hk hC.2.2.2.1).2 dL_law_814 (pc' := 815) rfl ?_
  refine jF_l hC.1 [] (wM q2 ca2 τ) (wf := wX q ca) (σ := σ) (eX hC.2.2.2.2.1 (t := t)) (fun u => wX_fst q ca u σ) (AX_in q ca σ) (hC.1.2.2.2.2.2.1.sub [0, 1, 2, 3, 4, 5, 6, 7, 8, 9, 10, 11, 12, 13, 14, 15, 16, 17] rfl) (fun U H h1 h2 h3 => lw_ZX hC.2.2.2.2.2.2 U H h1 h2 h3) (As := [.int (xs (k + 1)), .int (xs (k + 2))]) obX_X7 rfl (lk_X7_near hC.2.2.2.2.1 ((xs (k + 1))) ((xs (k + 2))) σ _ (hO σ τ ((xs (k + 1))) ((xs (k + 2))) hR)) wm_457 wm_458 wm_459 wm_1 wm_460 dy_X7_near ⟨rfl, rfl⟩ ⟨Nat.le_of_ble_eq_true rfl, Nat.le_of_ble_eq_true rfl⟩ hcs rfl rfl (Nat.le_of_ble_eq_true rfl) dL_law_815 (pc' := 818) rfl (fun r u hf => ?_)
  refine j_aload_n hC.1 1 dL_law_818 (pc' := 819) rfl rfl ?_
  refine j_aload_n hC.1 3 dL_law_819 (pc' := 820) rfl rfl ?_
  refine j_iload_n hC.1 0 dL_law_820 (pc' := 821) rfl rfl ?_
  refine j_iconst hC.1 (v := 1) dL_law_821 (pc' := 822) rfl (by decide) ?_
  refine j_iadd hC.1 dL_law_822 (pc' := 823) rfl ?_
  refine jL_sld hC.1 hC.2.1 hC.2.2.1 (Nat.not_le.mpr hC.2.2.1) (j := k + 1) (ixL (d := 1) rfl (by decide) hk hC.2.2.2.1).1 (ixL (d := 1) rfl (by decide) hk hC.2.2.2.1).2 dL_law_823 (pc' := 824) rfl ?_
  refine j_aload_n hC.1 3 dL_law_824 (pc' := 825) rfl rfl ?_
  refine j_iload_n hC.1 0 dL_law_825 (pc' := 826) rfl rfl ?_
  refine j_iconst hC.1 (v := 2) dL_law_826 (pc' := 827) rfl (by decide) ?_
  refine j_iadd hC.1 dL_law_827 (pc' := 828) rfl ?_
  refine jL_sld hC.1 hC.2.1 hC.2.2.1 (Nat.not_le.mpr hC.2.2.1) (j := k + 2) (ixL (d := 2) rfl (by decide) hk hC.2.2.2.1).1 (ixL (d := 2) rfl (by decide) hk hC.2.2.2.1).2 dL_law_828 (pc' := 829) rfl ?_
  refine j_wsE (ws' := wX q ca u ++ (wM q2 ca2 τ ++ [])) (by simp) ?_
  refine jF_l hC.1 (wX q ca u) [] (wf := wM q2 ca2) (σ := τ) (eM hC.2.2.2.2.2.1) (fun z => wM_fst q2 ca2 z τ) (AM_in q2 ca2 τ) (hC.1.2.2.2.2.2.1.sub [18, 19, 20, 21, 22, 23, 24, 25, 26, 27, 28, 29, 30, 31, 32, 33, 34, 35] rfl) (fun _ _ _ _ _ => trivial) (As := [.int (xs (k + 1)), .int (xs (k + 2))]) obM_X8 rfl (lk_X8_near hC.2.2.2.2.2.1 ((xs (k + 1))) ((xs (k + 2))) τ _ hf) wm_830 wm_831 wm_832 wm_8 wm_833 dy_X8_near ⟨rfl, rfl⟩ ⟨Nat.le_of_ble_eq_true rfl, Nat.le_of_ble_eq_true rfl⟩ hcs rfl rfl (Nat.le_of_ble_eq_true rfl) dL_law_829 (pc' := 832) rfl (fun r2 v hf => ?_)
  refine j_wsE (ws' := wX q ca u ++ wM q2 ca2 v) (by simp) ?_
  refine j_lcmp hC.1 dL_law_832 (pc' := 833) rfl ?_
  refine j_if_eq hC.1 (tgt := 1153) dL_law_833 (pc' := 836) rfl (by decide) (fun c_ => ?_) (fun c_ => absurd ((lgc_eq _ _).mpr hf.1) c_)
  exact hnext u v hf.2
set_option maxHeartbeats 4000000 in
set_option maxRecDepth 100000 in
theorem law_c24 {p : Program} {l : Launch} {e : Env} {s : State} {m : MethodId} {below : List Frame} {meth : Method} {c : Code} {Qm : State → Prop} {b L t k cells slots : Nat} {xs : Nat → Int32} {D : va_G} {q q2 : Nat → Nat} {ca ca2 : Nat → ClassId} {Rel : St → St → Prop} (hC : lw_C p s m b meth c L xs D q q2 ca ca2 t) (hcs : cells ≤ room_1.cells ∧ slots ≤ room_1.slots) (hk : k + 6 ≤ L) (hO : Ob_drift Rel) (σ τ : St) (hR : Rel σ τ) (hnext : ∀ σ τ : St, Rel σ τ → J p l e room_1 s m #[Value.ref b] below meth c Qm D (fun a => s.heap.size ≤ a) 4 cells slots (wX q ca σ ++ wM q2 ca2 τ) 1153 [(3, .int (nI k)), (2, .ref (q2 0)), (1, .ref (q 0)), (0, .ref b)] []) : J p l e room_1 s m #[Value.ref b] below meth c Qm D (fun a => s.heap.size ≤ a) 4 cells slots (wX q ca σ ++ wM q2 ca2 τ) 838 [(3, .int (nI k)), (2, .ref (q2 0)), (1, .ref (q 0)), (0, .ref b)] [] := by
  refine j_aload_n hC.1 2 dL_law_838 (pc' := 839) rfl rfl ?_
  refine j_aload_n hC.1 3 dL_law_839 (pc' := 840) rfl rfl ?_
  refine j_iload_n hC.1 0 dL_law_840 (pc' := 841) rfl rfl ?_
  refine j_iconst hC.1 (v := 1) dL_law_841 (pc' := 842) rfl (by decide) ?_
  refine j_iadd hC.1 dL_law_842 (pc' := 843) rfl ?_
  refine jL_sld hC.1 hC.2.1 hC.2.2.1 (Nat.not_le.mpr hC.2.2.1) (j := k + 1) (ixL (d := 1) rfl (by decide) hk hC.2.2.2.1).1 (ixL (d := 1) rfl (by decide) hk hC.2.2.2.1).2 dL_law_843 (pc' := 844) rfl ?_
  refine j_aload_n hC.1 3 dL_law_844 (pc' := 845) rfl rfl ?_
  refine j_iload_n hC.1 0 dL_law_845 (pc' := 846) rfl rfl ?_
  refine j_iconst hC.1 (v := 2) dL_law_846 (pc' := 847) rfl (by decide) ?_
  refine j_iadd hC.1 dL_law_847 (pc' := 848) rfl ?_
  refine jL_sld hC.1 hC.2.1 hC.2.2.1 (Nat.not_le.mpr hC.2.2.1) (j := k + 2) (ixL (d := 2) rfl (by decide) hk hC.2.2.2.1).1 (ixL (d := 2) rfl (by decide) hk hC.2.2.2.1).2 dL_law_848 (pc' := 849) rfl ?_
  refine j_aload_n hC.1 3 dL_law_849 (pc' := 850) rfl rfl ?_
  refine j_iload_n hC.1 0 dL_law_850 (pc' := 851) rfl rfl ?_
  refine j_iconst hC.1 (v := 3) dL_law_851 (pc' := 852) rfl (by decide) ?_
  refine j_iadd hC.1 dL_law_852 (pc' := 853) rfl ?_
  refine jL_sld hC.1 hC.2.1 hC.2.2.1 (Nat.not_le.mpr hC.2.2.1) (j := k + 3) (ixL (d := 3) rfl (by decide) hk hC.2.2.2.1).1 (ixL (d := 3) rfl (by decide) hk hC.2.2.2.1).2 dL_law_853 (pc' := 854) rfl ?_
  refine j_aload_n hC.1 3 dL_law_854 (pc' := 855) rfl rfl ?_
  refine j_iload_n hC.1 0 dL_law_855 (pc' := 856) rfl rfl ?_
  refine j_iconst hC.1 (v := 4) dL_law_856 (pc' := 857) rfl (by decide) ?_
  refine j_iadd hC.1 dL_law_857 (pc' := 858) rfl ?_
  refine jL_sld hC.1 hC.2.1 hC.2.2.1 (Nat.not_le.mpr hC.2.2.1) (j := k + 4) (ixL (d := 4) rfl (by decide) hk hC.2.2.2.1).1 (ixL (d := 4) rfl (by decide) hk hC.2.2.2.1).2 dL_law_858 (pc' := 859) rfl ?_
  refine jF_i hC.1 [] (wM q2 ca2 τ) (wf := wX q ca) (σ := σ) (eX hC.2.2.2.2.1 (t := t)) (fun u => wX_fst q ca u σ) (AX_in q ca σ) (hC.1.2.2.2.2.2.1.sub [0, 1, 2, 3, 4, 5, 6, 7, 8, 9, 10, 11, 12, 13, 14, 15, 16, 17] rfl) (fun U H h1 h2 h3 => lw_ZX hC.2.2.2.2.2.2 U H h1 h2 h3) (As := [.int (xs (k + 1)), .int (xs (k + 2)), .int (xs (k + 3)), .int (xs (k + 4))]) obX_X7 rfl (lk_X7_drift hC.2.2.2.2.1 ((xs (k + 1))) ((xs (k + 2))) ((xs (k + 3))) ((xs (k + 4))) σ _ (hO σ τ ((xs (k + 1))) ((xs (k + 2))) ((xs (k + 3))) ((xs (k + 4))) hR)) wm_461 wm_462 wm_463 wm_1 wm_464 dy_X7_drift ⟨rfl, rfl⟩ ⟨Nat.le_of_ble_eq_true rfl, Nat.le_of_ble_eq_true rfl⟩ hcs rfl rfl (Nat.le_of_ble_eq_true rfl) dL_law_859 (pc' := 862) rfl (fun r u hf => ?_)
  refine j_aload_n hC.1 1 dL_law_862 (pc' := 863) rfl rfl ?_
  refine j_aload_n hC.1 3 dL_law_863 (pc' := 864) rfl rfl ?_
  refine j_iload_n hC.1 0 dL_law_864 (pc' := 865) rfl rfl ?_
  refine j_iconst hC.1 (v := 1) dL_law_865 (pc' := 866) rfl (by decide) ?_
  refine j_iadd hC.1 dL_law_866 (pc' := 867) rfl ?_
  refine jL_sld hC.1 hC.2.1 hC.2.2.1 (Nat.not_le.mpr hC.2.2.1) (j := k + 1) (ixL (d := 1) rfl (by decide) hk hC.2.2.2.1).1 (ixL (d := 1) rfl (by decide) hk hC.2.2.2.1).2 dL_law_867 (pc' := 868) rfl ?_
  refine j_aload_n hC.1 3 dL_law_868 (pc' := 869) rfl rfl ?_
  refine j_iload_n hC.1 0 dL_law_869 (pc' := 870) rfl rfl ?_
  refine j_iconst hC.1 (v := 2) dL_law_870 (pc' := 871) rfl (by decide) ?_
  refine j_iadd hC.1 dL_law_871 (pc' := 872) rfl ?_
  refine jL_sld hC.1 hC.2.1 hC.2.2.1 (Nat.not_le.mpr hC.2.2.1) (j := k + 2) (ixL (d := 2) rfl (by decide) hk hC.2.2.2.1).1 (ixL (d := 2) rfl (by decide) hk hC.2.2.2.1).2 dL_law_872 (pc' := 873) rfl ?_
  refine j_aload_n hC.1 3 dL_law_873 (pc' := 874) rfl rfl ?_
  refine j_iload_n hC.1 0 dL_law_874 (pc' := 875) rfl rfl ?_
  refine j_iconst hC.1 (v := 3) dL_law_875 (pc' := 876) rfl (by decide) ?_
  refine j_iadd hC.1 dL_law_876 (pc' := 877) rfl ?_
  refine jL_sld hC.1 hC.2.1 hC.2.2.1 (Nat.not_le.mpr hC.2.2.1) (j := k + 3) (ixL (d := 3) rfl (by decide) hk hC.2.2.2.1).1 (ixL (d := 3) rfl (by decide) hk hC.2.2.2.1).2 dL_law_877 (pc' := 878) rfl ?_
  refine j_aload_n hC.1 3 dL_law_878 (pc' := 879) rfl rfl ?_
  refine j_iload_n hC.1 0 dL_law_879 (pc' := 880) rfl rfl ?_
  refine j_iconst hC.1 (v := 4) dL_law_880 (pc' := 881) rfl (by decide) ?_
  refine j_iadd hC.1 dL_law_881 (pc' := 882) rfl ?_
  refine jL_sld hC.1 hC.2.1 hC.2.2.1 (Nat.not_le.mpr hC.2.2.1) (j := k + 4) (ixL (d := 4) rfl (by decide) hk hC.2.2.2.1).1 (ixL (d := 4) rfl (by decide) hk hC.2.2.2.1).2 dL_law_882 (pc' := 883) rfl ?_
  refine j_wsE (ws' := wX q ca u ++ (wM q2 ca2 τ ++ [])) (by simp) ?_
  refine jF_i hC.1 (wX q ca u) [] (wf := wM q2 ca2) (σ := τ) (eM hC.2.2.2.2.2.1) (fun z => wM_fst q2 ca2 z τ) (AM_in q2 ca2 τ) (hC.1.2.2.2.2.2.1.sub [18, 19, 20, 21, 22, 23, 24, 25, 26, 27, 28, 29, 30, 31, 32, 33, 34, 35] rfl) (fun _ _ _ _ _ => trivial) (As := [.int (xs (k + 1)), .int (xs (k + 2)), .int (xs (k + 3)), .int (xs (k + 4))]) obM_X8 rfl (lk_X8_drift hC.2.2.2.2.2.1 ((xs (k + 1))) ((xs (k + 2))) ((xs (k + 3))) ((xs (k + 4))) τ _ hf) wm_834 wm_835 wm_836 wm_8 wm_837 dy_X8_drift ⟨rfl, rfl⟩ ⟨Nat.le_of_ble_eq_true rfl, Nat.le_of_ble_eq_true rfl⟩ hcs rfl rfl (Nat.le_of_ble_eq_true rfl) dL_law_883 (pc' := 886) rfl (fun r2 v hf => ?_)
  refine j_wsE (ws' := wX q ca u ++ wM q2 ca2 v) (by simp) ?_
  refine j_icmp_eq hC.1 (tgt := 1153) dL_law_886 (pc' := 889) rfl (by decide) (fun c_ => ?_) (fun c_ => absurd hf.1 c_)
  exact hnext u v hf.2
set_option maxHeartbeats 4000000 in
set_option maxRecDepth 100000 in
theorem law_c25 {p : Program} {l : Launch} {e : Env} {s : State} {m : MethodId} {below : List Frame} {meth : Method} {c : Code} {Qm : State → Prop} {b L t k cells slots : Nat} {xs : Nat → Int32} {D : va_G} {q q2 : Nat → Nat} {ca ca2 : Nat → ClassId} {Rel : St → St → Prop} (hC : lw_C p s m b meth c L xs D q q2 ca ca2 t) (hcs : cells ≤ room_1.cells ∧ slots ≤ room_1.slots) (hk : k + 6 ≤ L) (hO : Ob_sheet Rel) (σ τ : St) (hR : Rel σ τ) (hnext : ∀ σ τ : St, Rel σ τ → J p l e room_1 s m #[Value.ref b] below meth c Qm D (fun a => s.heap.size ≤ a) 4 cells slots (wX q ca σ ++ wM q2 ca2 τ) 1153 [(3, .int (nI k)), (2, .ref (q2 0)), (1, .ref (q 0)), (0, .ref b)] []) : J p l e room_1 s m #[Value.ref b] below meth c Qm D (fun a => s.heap.size ≤ a) 4 cells slots (wX q ca σ ++ wM q2 ca2 τ) 891 [(3, .int (nI k)), (2, .ref (q2 0)), (1, .ref (q 0)), (0, .ref b)] [] := by
  refine j_aload_n hC.1 2 dL_law_891 (pc' := 892) rfl rfl ?_
  refine j_aload_n hC.1 3 dL_law_892 (pc' := 893) rfl rfl ?_
  refine j_iload_n hC.1 0 dL_law_893 (pc' := 894) rfl rfl ?_
  refine j_iconst hC.1 (v := 1) dL_law_894 (pc' := 895) rfl (by decide) ?_
  refine j_iadd hC.1 dL_law_895 (pc' := 896) rfl ?_
  refine jL_sld hC.1 hC.2.1 hC.2.2.1 (Nat.not_le.mpr hC.2.2.1) (j := k + 1) (ixL (d := 1) rfl (by decide) hk hC.2.2.2.1).1 (ixL (d := 1) rfl (by decide) hk hC.2.2.2.1).2 dL_law_896 (pc' := 897) rfl ?_
  refine j_aload_n hC.1 3 dL_law_897 (pc' := 898) rfl rfl ?_
  refine j_iload_n hC.1 0 dL_law_898 (pc' := 899) rfl rfl ?_
  refine j_iconst hC.1 (v := 2) dL_law_899 (pc' := 900) rfl (by decide) ?_
  refine j_iadd hC.1 dL_law_900 (pc' := 901) rfl ?_
  refine jL_sld hC.1 hC.2.1 hC.2.2.1 (Nat.not_le.mpr hC.2.2.1) (j := k + 2) (ixL (d := 2) rfl (by decide) hk hC.2.2.2.1).1 (ixL (d := 2) rfl (by decide) hk hC.2.2.2.1).2 dL_law_901 (pc' := 902) rfl ?_
  refine j_aload_n hC.1 3 dL_law_902 (pc' := 903) rfl rfl ?_
  refine j_iload_n hC.1 0 dL_law_903 (pc' := 904) rfl rfl ?_
  refine j_iconst hC.1 (v := 3) dL_law_904 (pc' := 905) rfl (by decide) ?_
  refine j_iadd hC.1 dL_law_905 (pc' := 906) rfl ?_
  refine jL_sld hC.1 hC.2.1 hC.2.2.1 (Nat.not_le.mpr hC.2.2.1) (j := k + 3) (ixL (d := 3) rfl (by decide) hk hC.2.2.2.1).1 (ixL (d := 3) rfl (by decide) hk hC.2.2.2.1).2 dL_law_906 (pc' := 907) rfl ?_
  refine jF_i hC.1 [] (wM q2 ca2 τ) (wf := wX q ca) (σ := σ) (eX hC.2.2.2.2.1 (t := t)) (fun u => wX_fst q ca u σ) (AX_in q ca σ) (hC.1.2.2.2.2.2.1.sub [0, 1, 2, 3, 4, 5, 6, 7, 8, 9, 10, 11, 12, 13, 14, 15, 16, 17] rfl) (fun U H h1 h2 h3 => lw_ZX hC.2.2.2.2.2.2 U H h1 h2 h3) (As := [.int (xs (k + 1)), .int (xs (k + 2)), .int (xs (k + 3))]) obX_X7 rfl (lk_X7_sheet hC.2.2.2.2.1 ((xs (k + 1))) ((xs (k + 2))) ((xs (k + 3))) σ _ (hO σ τ ((xs (k + 1))) ((xs (k + 2))) ((xs (k + 3))) hR)) wm_494 wm_495 wm_496 wm_1 wm_497 dy_X7_sheet ⟨rfl, rfl⟩ ⟨Nat.le_of_ble_eq_true rfl, Nat.le_of_ble_eq_true rfl⟩ hcs rfl rfl (Nat.le_of_ble_eq_true rfl) dL_law_907 (pc' := 910) rfl (fun r u hf => ?_)
  refine j_aload_n hC.1 1 dL_law_910 (pc' := 911) rfl rfl ?_
  refine j_aload_n hC.1 3 dL_law_911 (pc' := 912) rfl rfl ?_
  refine j_iload_n hC.1 0 dL_law_912 (pc' := 913) rfl rfl ?_
  refine j_iconst hC.1 (v := 1) dL_law_913 (pc' := 914) rfl (by decide) ?_
  refine j_iadd hC.1 dL_law_914 (pc' := 915) rfl ?_
  refine jL_sld hC.1 hC.2.1 hC.2.2.1 (Nat.not_le.mpr hC.2.2.1) (j := k + 1) (ixL (d := 1) rfl (by decide) hk hC.2.2.2.1).1 (ixL (d := 1) rfl (by decide) hk hC.2.2.2.1).2 dL_law_915 (pc' := 916) rfl ?_
  refine j_aload_n hC.1 3 dL_law_916 (pc' := 917) rfl rfl ?_
  refine j_iload_n hC.1 0 dL_law_917 (pc' := 918) rfl rfl ?_
  refine j_iconst hC.1 (v := 2) dL_law_918 (pc' := 919) rfl (by decide) ?_
  refine j_iadd hC.1 dL_law_919 (pc' := 920) rfl ?_
  refine jL_sld hC.1 hC.2.1 hC.2.2.1 (Nat.not_le.mpr hC.2.2.1) (j := k + 2) (ixL (d := 2) rfl (by decide) hk hC.2.2.2.1).1 (ixL (d := 2) rfl (by decide) hk hC.2.2.2.1).2 dL_law_920 (pc' := 921) rfl ?_
  refine j_aload_n hC.1 3 dL_law_921 (pc' := 922) rfl rfl ?_
  refine j_iload_n hC.1 0 dL_law_922 (pc' := 923) rfl rfl ?_
  refine j_iconst hC.1 (v := 3) dL_law_923 (pc' := 924) rfl (by decide) ?_
  refine j_iadd hC.1 dL_law_924 (pc' := 925) rfl ?_
  refine jL_sld hC.1 hC.2.1 hC.2.2.1 (Nat.not_le.mpr hC.2.2.1) (j := k + 3) (ixL (d := 3) rfl (by decide) hk hC.2.2.2.1).1 (ixL (d := 3) rfl (by decide) hk hC.2.2.2.1).2 dL_law_925 (pc' := 926) rfl ?_
  refine j_wsE (ws' := wX q ca u ++ (wM q2 ca2 τ ++ [])) (by simp) ?_
  refine jF_i hC.1 (wX q ca u) [] (wf := wM q2 ca2) (σ := τ) (eM hC.2.2.2.2.2.1) (fun z => wM_fst q2 ca2 z τ) (AM_in q2 ca2 τ) (hC.1.2.2.2.2.2.1.sub [18, 19, 20, 21, 22, 23, 24, 25, 26, 27, 28, 29, 30, 31, 32, 33, 34, 35] rfl) (fun _ _ _ _ _ => trivial) (As := [.int (xs (k + 1)), .int (xs (k + 2)), .int (xs (k + 3))]) obM_X8 rfl (lk_X8_sheet hC.2.2.2.2.2.1 ((xs (k + 1))) ((xs (k + 2))) ((xs (k + 3))) τ _ hf) wm_849 wm_850 wm_851 wm_8 wm_852 dy_X8_sheet ⟨rfl, rfl⟩ ⟨Nat.le_of_ble_eq_true rfl, Nat.le_of_ble_eq_true rfl⟩ hcs rfl rfl (Nat.le_of_ble_eq_true rfl) dL_law_926 (pc' := 929) rfl (fun r2 v hf => ?_)
  refine j_wsE (ws' := wX q ca u ++ wM q2 ca2 v) (by simp) ?_
  refine j_icmp_eq hC.1 (tgt := 1153) dL_law_929 (pc' := 932) rfl (by decide) (fun c_ => ?_) (fun c_ => absurd hf.1 c_)
  exact hnext u v hf.2
set_option maxHeartbeats 4000000 in
set_option maxRecDepth 100000 in
theorem law_c26 {p : Program} {l : Launch} {e : Env} {s : State} {m : MethodId} {below : List Frame} {meth : Method} {c : Code} {Qm : State → Prop} {b L t k cells slots : Nat} {xs : Nat → Int32} {D : va_G} {q q2 : Nat → Nat} {ca ca2 : Nat → ClassId} {Rel : St → St → Prop} (hC : lw_C p s m b meth c L xs D q q2 ca ca2 t) (hcs : cells ≤ room_1.cells ∧ slots ≤ room_1.slots) (hk : k + 6 ≤ L) (hO : Ob_lose Rel) (σ τ : St) (hR : Rel σ τ) (hnext : ∀ σ τ : St, Rel σ τ → J p l e room_1 s m #[Value.ref b] below meth c Qm D (fun a => s.heap.size ≤ a) 4 cells slots (wX q ca σ ++ wM q2 ca2 τ) 1153 [(3, .int (nI k)), (2, .ref (q2 0)), (1, .ref (q 0)), (0, .ref b)] []) : J p l e room_1 s m #[Value.ref b] below meth c Qm D (fun a => s.heap.size ≤ a) 4 cells slots (wX q ca σ ++ wM q2 ca2 τ) 934 [(3, .int (nI k)), (2, .ref (q2 0)), (1, .ref (q 0)), (0, .ref b)] [] := by
  refine j_aload_n hC.1 2 dL_law_934 (pc' := 935) rfl rfl ?_
  refine j_aload_n hC.1 3 dL_law_935 (pc' := 936) rfl rfl ?_
  refine j_iload_n hC.1 0 dL_law_936 (pc' := 937) rfl rfl ?_
  refine j_iconst hC.1 (v := 1) dL_law_937 (pc' := 938) rfl (by decide) ?_
  refine j_iadd hC.1 dL_law_938 (pc' := 939) rfl ?_
  refine jL_sld hC.1 hC.2.1 hC.2.2.1 (Nat.not_le.mpr hC.2.2.1) (j := k + 1) (ixL (d := 1) rfl (by decide) hk hC.2.2.2.1).1 (ixL (d := 1) rfl (by decide) hk hC.2.2.2.1).2 dL_law_939 (pc' := 940) rfl ?_
  refine jF_i hC.1 [] (wM q2 ca2 τ) (wf := wX q ca) (σ := σ) (eX hC.2.2.2.2.1 (t := t)) (fun u => wX_fst q ca u σ) (AX_in q ca σ) (hC.1.2.2.2.2.2.1.sub [0, 1, 2, 3, 4, 5, 6, 7, 8, 9, 10, 11, 12, 13, 14, 15, 16, 17] rfl) (fun U H h1 h2 h3 => lw_ZX hC.2.2.2.2.2.2 U H h1 h2 h3) (As := [.int (xs (k + 1))]) obX_X7 rfl (lk_X7_lose hC.2.2.2.2.1 ((xs (k + 1))) σ _ (hO σ τ ((xs (k + 1))) hR)) wm_508 wm_509 wm_510 wm_1 wm_511 dy_X7_lose ⟨rfl, rfl⟩ ⟨Nat.le_of_ble_eq_true rfl, Nat.le_of_ble_eq_true rfl⟩ hcs rfl rfl (Nat.le_of_ble_eq_true rfl) dL_law_940 (pc' := 943) rfl (fun r u hf => ?_)
  refine j_aload_n hC.1 1 dL_law_943 (pc' := 944) rfl rfl ?_
  refine j_aload_n hC.1 3 dL_law_944 (pc' := 945) rfl rfl ?_
  refine j_iload_n hC.1 0 dL_law_945 (pc' := 946) rfl rfl ?_
  refine j_iconst hC.1 (v := 1) dL_law_946 (pc' := 947) rfl (by decide) ?_
  refine j_iadd hC.1 dL_law_947 (pc' := 948) rfl ?_
  refine jL_sld hC.1 hC.2.1 hC.2.2.1 (Nat.not_le.mpr hC.2.2.1) (j := k + 1) (ixL (d := 1) rfl (by decide) hk hC.2.2.2.1).1 (ixL (d := 1) rfl (by decide) hk hC.2.2.2.1).2 dL_law_948 (pc' := 949) rfl ?_
  refine j_wsE (ws' := wX q ca u ++ (wM q2 ca2 τ ++ [])) (by simp) ?_
  refine jF_i hC.1 (wX q ca u) [] (wf := wM q2 ca2) (σ := τ) (eM hC.2.2.2.2.2.1) (fun z => wM_fst q2 ca2 z τ) (AM_in q2 ca2 τ) (hC.1.2.2.2.2.2.1.sub [18, 19, 20, 21, 22, 23, 24, 25, 26, 27, 28, 29, 30, 31, 32, 33, 34, 35] rfl) (fun _ _ _ _ _ => trivial) (As := [.int (xs (k + 1))]) obM_X8 rfl (lk_X8_lose hC.2.2.2.2.2.1 ((xs (k + 1))) τ _ hf) wm_853 wm_854 wm_855 wm_8 wm_856 dy_X8_lose ⟨rfl, rfl⟩ ⟨Nat.le_of_ble_eq_true rfl, Nat.le_of_ble_eq_true rfl⟩ hcs rfl rfl (Nat.le_of_ble_eq_true rfl) dL_law_949 (pc' := 952) rfl (fun r2 v hf => ?_)
  refine j_wsE (ws' := wX q ca u ++ wM q2 ca2 v) (by simp) ?_
  refine j_icmp_eq hC.1 (tgt := 1153) dL_law_952 (pc' := 955) rfl (by decide) (fun c_ => ?_) (fun c_ => absurd hf.1 c_)
  exact hnext u v hf.2
set_option maxHeartbeats 4000000 in
set_option maxRecDepth 100000 in
theorem law_c27 {p : Program} {l : Launch} {e : Env} {s : State} {m : MethodId} {below : List Frame} {meth : Method} {c : Code} {Qm : State → Prop} {b L t k cells slots : Nat} {xs : Nat → Int32} {D : va_G} {q q2 : Nat → Nat} {ca ca2 : Nat → ClassId} {Rel : St → St → Prop} (hC : lw_C p s m b meth c L xs D q q2 ca ca2 t) (hcs : cells ≤ room_1.cells ∧ slots ≤ room_1.slots) (hk : k + 6 ≤ L) (hO : Ob_put Rel) (σ τ : St) (hR : Rel σ τ) (hnext : ∀ σ τ : St, Rel σ τ → J p l e room_1 s m #[Value.ref b] below meth c Qm D (fun a => s.heap.size ≤ a) 4 cells slots (wX q ca σ ++ wM q2 ca2 τ) 1153 [(3, .int (nI k)), (2, .ref (q2 0)), (1, .ref (q 0)), (0, .ref b)] []) : J p l e room_1 s m #[Value.ref b] below meth c Qm D (fun a => s.heap.size ≤ a) 4 cells slots (wX q ca σ ++ wM q2 ca2 τ) 957 [(3, .int (nI k)), (2, .ref (q2 0)), (1, .ref (q 0)), (0, .ref b)] [] := by
  refine j_aload_n hC.1 2 dL_law_957 (pc' := 958) rfl rfl ?_
  refine j_aload_n hC.1 3 dL_law_958 (pc' := 959) rfl rfl ?_
  refine j_iload_n hC.1 0 dL_law_959 (pc' := 960) rfl rfl ?_
  refine j_iconst hC.1 (v := 1) dL_law_960 (pc' := 961) rfl (by decide) ?_
  refine j_iadd hC.1 dL_law_961 (pc' := 962) rfl ?_
  refine jL_sld hC.1 hC.2.1 hC.2.2.1 (Nat.not_le.mpr hC.2.2.1) (j := k + 1) (ixL (d := 1) rfl (by decide) hk hC.2.2.2.1).1 (ixL (d := 1) rfl (by decide) hk hC.2.2.2.1).2 dL_law_962 (pc' := 963) rfl ?_
  refine j_aload_n hC.1 3 dL_law_963 (pc' := 964) rfl rfl ?_
  refine j_iload_n hC.1 0 dL_law_964 (pc' := 965) rfl rfl ?_
  refine j_iconst hC.1 (v := 2) dL_law_965 (pc' := 966) rfl (by decide) ?_
  refine j_iadd hC.1 dL_law_966 (pc' := 967) rfl ?_
  refine jL_sld hC.1 hC.2.1 hC.2.2.1 (Nat.not_le.mpr hC.2.2.1) (j := k + 2) (ixL (d := 2) rfl (by decide) hk hC.2.2.2.1).1 (ixL (d := 2) rfl (by decide) hk hC.2.2.2.1).2 dL_law_967 (pc' := 968) rfl ?_
  refine j_aload_n hC.1 3 dL_law_968 (pc' := 969) rfl rfl ?_
  refine j_iload_n hC.1 0 dL_law_969 (pc' := 970) rfl rfl ?_
  refine j_iconst hC.1 (v := 3) dL_law_970 (pc' := 971) rfl (by decide) ?_
  refine j_iadd hC.1 dL_law_971 (pc' := 972) rfl ?_
  refine jL_sld hC.1 hC.2.1 hC.2.2.1 (Nat.not_le.mpr hC.2.2.1) (j := k + 3) (ixL (d := 3) rfl (by decide) hk hC.2.2.2.1).1 (ixL (d := 3) rfl (by decide) hk hC.2.2.2.1).2 dL_law_972 (pc' := 973) rfl ?_
  refine j_aload_n hC.1 3 dL_law_973 (pc' := 974) rfl rfl ?_
  refine j_iload_n hC.1 0 dL_law_974 (pc' := 975) rfl rfl ?_
  refine j_iconst hC.1 (v := 4) dL_law_975 (pc' := 976) rfl (by decide) ?_
  refine j_iadd hC.1 dL_law_976 (pc' := 977) rfl ?_
  refine jL_sld hC.1 hC.2.1 hC.2.2.1 (Nat.not_le.mpr hC.2.2.1) (j := k + 4) (ixL (d := 4) rfl (by decide) hk hC.2.2.2.1).1 (ixL (d := 4) rfl (by decide) hk hC.2.2.2.1).2 dL_law_977 (pc' := 978) rfl ?_
  refine jF_i hC.1 [] (wM q2 ca2 τ) (wf := wX q ca) (σ := σ) (eX hC.2.2.2.2.1 (t := t)) (fun u => wX_fst q ca u σ) (AX_in q ca σ) (hC.1.2.2.2.2.2.1.sub [0, 1, 2, 3, 4, 5, 6, 7, 8, 9, 10, 11, 12, 13, 14, 15, 16, 17] rfl) (fun U H h1 h2 h3 => lw_ZX hC.2.2.2.2.2.2 U H h1 h2 h3) (As := [.int (xs (k + 1)), .int (xs (k + 2)), .int (xs (k + 3)), .int (xs (k + 4))]) obX_X7 rfl (lk_X7_put hC.2.2.2.2.1 ((xs (k + 1))) ((xs (k + 2))) ((xs (k + 3))) ((xs (k + 4))) σ _ (hO σ τ ((xs (k + 1))) ((xs (k + 2))) ((xs (k + 3))) ((xs (k + 4))) hR)) wm_516 wm_517 wm_518 wm_1 wm_519 dy_X7_put ⟨rfl, rfl⟩ ⟨Nat.le_of_ble_eq_true rfl, Nat.le_of_ble_eq_true rfl⟩ hcs rfl rfl (Nat.le_of_ble_eq_true rfl) dL_law_978 (pc' := 981) rfl (fun r u hf => ?_)
  refine j_aload_n hC.1 1 dL_law_981 (pc' := 982) rfl rfl ?_
  refine j_aload_n hC.1 3 dL_law_982 (pc' := 983) rfl rfl ?_
  refine j_iload_n hC.1 0 dL_law_983 (pc' := 984) rfl rfl ?_
  refine j_iconst hC.1 (v := 1) dL_law_984 (pc' := 985) rfl (by decide) ?_
  refine j_iadd hC.1 dL_law_985 (pc' := 986) rfl ?_
  refine jL_sld hC.1 hC.2.1 hC.2.2.1 (Nat.not_le.mpr hC.2.2.1) (j := k + 1) (ixL (d := 1) rfl (by decide) hk hC.2.2.2.1).1 (ixL (d := 1) rfl (by decide) hk hC.2.2.2.1).2 dL_law_986 (pc' := 987) rfl ?_
  refine j_aload_n hC.1 3 dL_law_987 (pc' := 988) rfl rfl ?_
  refine j_iload_n hC.1 0 dL_law_988 (pc' := 989) rfl rfl ?_
  refine j_iconst hC.1 (v := 2) dL_law_989 (pc' := 990) rfl (by decide) ?_
  refine j_iadd hC.1 dL_law_990 (pc' := 991) rfl ?_
  refine jL_sld hC.1 hC.2.1 hC.2.2.1 (Nat.not_le.mpr hC.2.2.1) (j := k + 2) (ixL (d := 2) rfl (by decide) hk hC.2.2.2.1).1 (ixL (d := 2) rfl (by decide) hk hC.2.2.2.1).2 dL_law_991 (pc' := 992) rfl ?_
  refine j_aload_n hC.1 3 dL_law_992 (pc' := 993) rfl rfl ?_
  refine j_iload_n hC.1 0 dL_law_993 (pc' := 994) rfl rfl ?_
  refine j_iconst hC.1 (v := 3) dL_law_994 (pc' := 995) rfl (by decide) ?_
  refine j_iadd hC.1 dL_law_995 (pc' := 996) rfl ?_
  refine jL_sld hC.1 hC.2.1 hC.2.2.1 (Nat.not_le.mpr hC.2.2.1) (j := k + 3) (ixL (d := 3) rfl (by decide) hk hC.2.2.2.1).1 (ixL (d := 3) rfl (by decide) hk hC.2.2.2.1).2 dL_law_996 (pc' := 997) rfl ?_
  refine j_aload_n hC.1 3 dL_law_997 (pc' := 998) rfl rfl ?_
  refine j_iload_n hC.1 0 dL_law_998 (pc' := 999) rfl rfl ?_
  refine j_iconst hC.1 (v := 4) dL_law_999 (pc' := 1000) rfl (by decide) ?_
  refine j_iadd hC.1 dL_law_1000 (pc' := 1001) rfl ?_
  refine jL_sld hC.1 hC.2.1 hC.2.2.1 (Nat.not_le.mpr hC.2.2.1) (j := k + 4) (ixL (d := 4) rfl (by decide) hk hC.2.2.2.1).1 (ixL (d := 4) rfl (by decide) hk hC.2.2.2.1).2 dL_law_1001 (pc' := 1002) rfl ?_
  refine j_wsE (ws' := wX q ca u ++ (wM q2 ca2 τ ++ [])) (by simp) ?_
  refine jF_i hC.1 (wX q ca u) [] (wf := wM q2 ca2) (σ := τ) (eM hC.2.2.2.2.2.1) (fun z => wM_fst q2 ca2 z τ) (AM_in q2 ca2 τ) (hC.1.2.2.2.2.2.1.sub [18, 19, 20, 21, 22, 23, 24, 25, 26, 27, 28, 29, 30, 31, 32, 33, 34, 35] rfl) (fun _ _ _ _ _ => trivial) (As := [.int (xs (k + 1)), .int (xs (k + 2)), .int (xs (k + 3)), .int (xs (k + 4))]) obM_X8 rfl (lk_X8_put hC.2.2.2.2.2.1 ((xs (k + 1))) ((xs (k + 2))) ((xs (k + 3))) ((xs (k + 4))) τ _ hf) wm_857 wm_858 wm_859 wm_8 wm_860 dy_X8_put ⟨rfl, rfl⟩ ⟨Nat.le_of_ble_eq_true rfl, Nat.le_of_ble_eq_true rfl⟩ hcs rfl rfl (Nat.le_of_ble_eq_true rfl) dL_law_1002 (pc' := 1005) rfl (fun r2 v hf => ?_)
  refine j_wsE (ws' := wX q ca u ++ wM q2 ca2 v) (by simp) ?_
  refine j_icmp_eq hC.1 (tgt := 1153) dL_law_1005 (pc' := 1008) rfl (by decide) (fun c_ => ?_) (fun c_ => absurd hf.1 c_)
  exact hnext u v hf.2
set_option maxHeartbeats 4000000 in
set_option maxRecDepth 100000 in
theorem law_c28 {p : Program} {l : Launch} {e : Env} {s : State} {m : MethodId} {below : List Frame} {meth : Method} {c : Code} {Qm : State → Prop} {b L t k cells slots : Nat} {xs : Nat → Int32} {D : va_G} {q q2 : Nat → Nat} {ca ca2 : Nat → ClassId} {Rel : St → St → Prop} (hC : lw_C p s m b meth c L xs D q q2 ca ca2 t) (hcs : cells ≤ room_1.cells ∧ slots ≤ room_1.slots) (hk : k + 6 ≤ L) (hO : Ob_get Rel) (σ τ : St) (hR : Rel σ τ) (hnext : ∀ σ τ : St, Rel σ τ → J p l e room_1 s m #[Value.ref b] below meth c Qm D (fun a => s.heap.size ≤ a) 4 cells slots (wX q ca σ ++ wM q2 ca2 τ) 1153 [(3, .int (nI k)), (2, .ref (q2 0)), (1, .ref (q 0)), (0, .ref b)] []) : J p l e room_1 s m #[Value.ref b] below meth c Qm D (fun a => s.heap.size ≤ a) 4 cells slots (wX q ca σ ++ wM q2 ca2 τ) 1010 [(3, .int (nI k)), (2, .ref (q2 0)), (1, .ref (q 0)), (0, .ref b)] [] := by
  refine j_aload_n hC.1 2 dL_law_1010 (pc' := 1011) rfl rfl ?_
  refine j_aload_n hC.1 3 dL_law_1011 (pc' := 1012) rfl rfl ?_
  refine j_iload_n hC.1 0 dL_law_1012 (pc' := 1013) rfl rfl ?_
  refine j_iconst hC.1 (v := 1) dL_law_1013 (pc' := 1014) rfl (by decide) ?_
  refine j_iadd hC.1 dL_law_1014 (pc' := 1015) rfl ?_
  refine jL_sld hC.1 hC.2.1 hC.2.2.1 (Nat.not_le.mpr hC.2.2.1) (j := k + 1) (ixL (d := 1) rfl (by decide) hk hC.2.2.2.1).1 (ixL (d := 1) rfl (by decide) hk hC.2.2.2.1).2 dL_law_1015 (pc' := 1016) rfl ?_
  refine j_aload_n hC.1 3 dL_law_1016 (pc' := 1017) rfl rfl ?_
  refine j_iload_n hC.1 0 dL_law_1017 (pc' := 1018) rfl rfl ?_
  refine j_iconst hC.1 (v := 2) dL_law_1018 (pc' := 1019) rfl (by decide) ?_
  refine j_iadd hC.1 dL_law_1019 (pc' := 1020) rfl ?_
  refine jL_sld hC.1 hC.2.1 hC.2.2.1 (Nat.not_le.mpr hC.2.2.1) (j := k + 2) (ixL (d := 2) rfl (by decide) hk hC.2.2.2.1).1 (ixL (d := 2) rfl (by decide) hk hC.2.2.2.1).2 dL_law_1020 (pc' := 1021) rfl ?_
  refine j_aload_n hC.1 3 dL_law_1021 (pc' := 1022) rfl rfl ?_
  refine j_iload_n hC.1 0 dL_law_1022 (pc' := 1023) rfl rfl ?_
  refine j_iconst hC.1 (v := 3) dL_law_1023 (pc' := 1024) rfl (by decide) ?_
  refine j_iadd hC.1 dL_law_1024 (pc' := 1025) rfl ?_
  refine jL_sld hC.1 hC.2.1 hC.2.2.1 (Nat.not_le.mpr hC.2.2.1) (j := k + 3) (ixL (d := 3) rfl (by decide) hk hC.2.2.2.1).1 (ixL (d := 3) rfl (by decide) hk hC.2.2.2.1).2 dL_law_1025 (pc' := 1026) rfl ?_
  refine jF_i hC.1 [] (wM q2 ca2 τ) (wf := wX q ca) (σ := σ) (eX hC.2.2.2.2.1 (t := t)) (fun u => wX_fst q ca u σ) (AX_in q ca σ) (hC.1.2.2.2.2.2.1.sub [0, 1, 2, 3, 4, 5, 6, 7, 8, 9, 10, 11, 12, 13, 14, 15, 16, 17] rfl) (fun U H h1 h2 h3 => lw_ZX hC.2.2.2.2.2.2 U H h1 h2 h3) (As := [.int (xs (k + 1)), .int (xs (k + 2)), .int (xs (k + 3))]) obX_X7 rfl (lk_X7_get hC.2.2.2.2.1 ((xs (k + 1))) ((xs (k + 2))) ((xs (k + 3))) σ _ (hO σ τ ((xs (k + 1))) ((xs (k + 2))) ((xs (k + 3))) hR)) wm_526 wm_527 wm_528 wm_1 wm_529 dy_X7_get ⟨rfl, rfl⟩ ⟨Nat.le_of_ble_eq_true rfl, Nat.le_of_ble_eq_true rfl⟩ hcs rfl rfl (Nat.le_of_ble_eq_true rfl) dL_law_1026 (pc' := 1029) rfl (fun r u hf => ?_)
  refine j_aload_n hC.1 1 dL_law_1029 (pc' := 1030) rfl rfl ?_
  refine j_aload_n hC.1 3 dL_law_1030 (pc' := 1031) rfl rfl ?_
  refine j_iload_n hC.1 0 dL_law_1031 (pc' := 1032) rfl rfl ?_
  refine j_iconst hC.1 (v := 1) dL_law_1032 (pc' := 1033) rfl (by decide) ?_
  refine j_iadd hC.1 dL_law_1033 (pc' := 1034) rfl ?_
  refine jL_sld hC.1 hC.2.1 hC.2.2.1 (Nat.not_le.mpr hC.2.2.1) (j := k + 1) (ixL (d := 1) rfl (by decide) hk hC.2.2.2.1).1 (ixL (d := 1) rfl (by decide) hk hC.2.2.2.1).2 dL_law_1034 (pc' := 1035) rfl ?_
  refine j_aload_n hC.1 3 dL_law_1035 (pc' := 1036) rfl rfl ?_
  refine j_iload_n hC.1 0 dL_law_1036 (pc' := 1037) rfl rfl ?_
  refine j_iconst hC.1 (v := 2) dL_law_1037 (pc' := 1038) rfl (by decide) ?_
  refine j_iadd hC.1 dL_law_1038 (pc' := 1039) rfl ?_
  refine jL_sld hC.1 hC.2.1 hC.2.2.1 (Nat.not_le.mpr hC.2.2.1) (j := k + 2) (ixL (d := 2) rfl (by decide) hk hC.2.2.2.1).1 (ixL (d := 2) rfl (by decide) hk hC.2.2.2.1).2 dL_law_1039 (pc' := 1040) rfl ?_
  refine j_aload_n hC.1 3 dL_law_1040 (pc' := 1041) rfl rfl ?_
  refine j_iload_n hC.1 0 dL_law_1041 (pc' := 1042) rfl rfl ?_
  refine j_iconst hC.1 (v := 3) dL_law_1042 (pc' := 1043) rfl (by decide) ?_
  refine j_iadd hC.1 dL_law_1043 (pc' := 1044) rfl ?_
  refine jL_sld hC.1 hC.2.1 hC.2.2.1 (Nat.not_le.mpr hC.2.2.1) (j := k + 3) (ixL (d := 3) rfl (by decide) hk hC.2.2.2.1).1 (ixL (d := 3) rfl (by decide) hk hC.2.2.2.1).2 dL_law_1044 (pc' := 1045) rfl ?_
  refine j_wsE (ws' := wX q ca u ++ (wM q2 ca2 τ ++ [])) (by simp) ?_
  refine jF_i hC.1 (wX q ca u) [] (wf := wM q2 ca2) (σ := τ) (eM hC.2.2.2.2.2.1) (fun z => wM_fst q2 ca2 z τ) (AM_in q2 ca2 τ) (hC.1.2.2.2.2.2.1.sub [18, 19, 20, 21, 22, 23, 24, 25, 26, 27, 28, 29, 30, 31, 32, 33, 34, 35] rfl) (fun _ _ _ _ _ => trivial) (As := [.int (xs (k + 1)), .int (xs (k + 2)), .int (xs (k + 3))]) obM_X8 rfl (lk_X8_get hC.2.2.2.2.2.1 ((xs (k + 1))) ((xs (k + 2))) ((xs (k + 3))) τ _ hf) wm_864 wm_865 wm_866 wm_8 wm_867 dy_X8_get ⟨rfl, rfl⟩ ⟨Nat.le_of_ble_eq_true rfl, Nat.le_of_ble_eq_true rfl⟩ hcs rfl rfl (Nat.le_of_ble_eq_true rfl) dL_law_1045 (pc' := 1048) rfl (fun r2 v hf => ?_)
  refine j_wsE (ws' := wX q ca u ++ wM q2 ca2 v) (by simp) ?_
  refine j_icmp_eq hC.1 (tgt := 1153) dL_law_1048 (pc' := 1051) rfl (by decide) (fun c_ => ?_) (fun c_ => absurd hf.1 c_)
  exact hnext u v hf.2
set_option maxHeartbeats 4000000 in
set_option maxRecDepth 100000 in
theorem law_c29 {p : Program} {l : Launch} {e : Env} {s : State} {m : MethodId} {below : List Frame} {meth : Method} {c : Code} {Qm : State → Prop} {b L t k cells slots : Nat} {xs : Nat → Int32} {D : va_G} {q q2 : Nat → Nat} {ca ca2 : Nat → ClassId} {Rel : St → St → Prop} (hC : lw_C p s m b meth c L xs D q q2 ca ca2 t) (hcs : cells ≤ room_1.cells ∧ slots ≤ room_1.slots) (hk : k + 6 ≤ L) (hO : Ob_copy Rel) (σ τ : St) (hR : Rel σ τ) (hnext : ∀ σ τ : St, Rel σ τ → J p l e room_1 s m #[Value.ref b] below meth c Qm D (fun a => s.heap.size ≤ a) 4 cells slots (wX q ca σ ++ wM q2 ca2 τ) 1153 [(3, .int (nI k)), (2, .ref (q2 0)), (1, .ref (q 0)), (0, .ref b)] []) : J p l e room_1 s m #[Value.ref b] below meth c Qm D (fun a => s.heap.size ≤ a) 4 cells slots (wX q ca σ ++ wM q2 ca2 τ) 1053 [(3, .int (nI k)), (2, .ref (q2 0)), (1, .ref (q 0)), (0, .ref b)] [] := by
  refine j_aload_n hC.1 2 dL_law_1053 (pc' := 1054) rfl rfl ?_
  refine j_aload_n hC.1 3 dL_law_1054 (pc' := 1055) rfl rfl ?_
  refine j_iload_n hC.1 0 dL_law_1055 (pc' := 1056) rfl rfl ?_
  refine j_iconst hC.1 (v := 1) dL_law_1056 (pc' := 1057) rfl (by decide) ?_
  refine j_iadd hC.1 dL_law_1057 (pc' := 1058) rfl ?_
  refine jL_sld hC.1 hC.2.1 hC.2.2.1 (Nat.not_le.mpr hC.2.2.1) (j := k + 1) (ixL (d := 1) rfl (by decide) hk hC.2.2.2.1).1 (ixL (d := 1) rfl (by decide) hk hC.2.2.2.1).2 dL_law_1058 (pc' := 1059) rfl ?_
  refine j_aload_n hC.1 3 dL_law_1059 (pc' := 1060) rfl rfl ?_
  refine j_iload_n hC.1 0 dL_law_1060 (pc' := 1061) rfl rfl ?_
  refine j_iconst hC.1 (v := 2) dL_law_1061 (pc' := 1062) rfl (by decide) ?_
  refine j_iadd hC.1 dL_law_1062 (pc' := 1063) rfl ?_
  refine jL_sld hC.1 hC.2.1 hC.2.2.1 (Nat.not_le.mpr hC.2.2.1) (j := k + 2) (ixL (d := 2) rfl (by decide) hk hC.2.2.2.1).1 (ixL (d := 2) rfl (by decide) hk hC.2.2.2.1).2 dL_law_1063 (pc' := 1064) rfl ?_
  refine j_aload_n hC.1 3 dL_law_1064 (pc' := 1065) rfl rfl ?_
  refine j_iload_n hC.1 0 dL_law_1065 (pc' := 1066) rfl rfl ?_
  refine j_iconst hC.1 (v := 3) dL_law_1066 (pc' := 1067) rfl (by decide) ?_
  refine j_iadd hC.1 dL_law_1067 (pc' := 1068) rfl ?_
  refine jL_sld hC.1 hC.2.1 hC.2.2.1 (Nat.not_le.mpr hC.2.2.1) (j := k + 3) (ixL (d := 3) rfl (by decide) hk hC.2.2.2.1).1 (ixL (d := 3) rfl (by decide) hk hC.2.2.2.1).2 dL_law_1068 (pc' := 1069) rfl ?_
  refine j_aload_n hC.1 3 dL_law_1069 (pc' := 1070) rfl rfl ?_
  refine j_iload_n hC.1 0 dL_law_1070 (pc' := 1071) rfl rfl ?_
  refine j_iconst hC.1 (v := 4) dL_law_1071 (pc' := 1072) rfl (by decide) ?_
  refine j_iadd hC.1 dL_law_1072 (pc' := 1073) rfl ?_
  refine jL_sld hC.1 hC.2.1 hC.2.2.1 (Nat.not_le.mpr hC.2.2.1) (j := k + 4) (ixL (d := 4) rfl (by decide) hk hC.2.2.2.1).1 (ixL (d := 4) rfl (by decide) hk hC.2.2.2.1).2 dL_law_1073 (pc' := 1074) rfl ?_
  refine j_aload_n hC.1 3 dL_law_1074 (pc' := 1075) rfl rfl ?_
  refine j_iload_n hC.1 0 dL_law_1075 (pc' := 1076) rfl rfl ?_
  refine j_iconst hC.1 (v := 5) dL_law_1076 (pc' := 1077) rfl (by decide) ?_
  refine j_iadd hC.1 dL_law_1077 (pc' := 1078) rfl ?_
  refine jL_sld hC.1 hC.2.1 hC.2.2.1 (Nat.not_le.mpr hC.2.2.1) (j := k + 5) (ixL (d := 5) rfl (by decide) hk hC.2.2.2.1).1 (ixL (d := 5) rfl (by decide) hk hC.2.2.2.1).2 dL_law_1078 (pc' := 1079) rfl ?_
  refine jF_i hC.1 [] (wM q2 ca2 τ) (wf := wX q ca) (σ := σ) (eX hC.2.2.2.2.1 (t := t)) (fun u => wX_fst q ca u σ) (AX_in q ca σ) (hC.1.2.2.2.2.2.1.sub [0, 1, 2, 3, 4, 5, 6, 7, 8, 9, 10, 11, 12, 13, 14, 15, 16, 17] rfl) (fun U H h1 h2 h3 => lw_ZX hC.2.2.2.2.2.2 U H h1 h2 h3) (As := [.int (xs (k + 1)), .int (xs (k + 2)), .int (xs (k + 3)), .int (xs (k + 4)), .int (xs (k + 5))]) obX_X7 rfl (lk_X7_copy hC.2.2.2.2.1 ((xs (k + 1))) ((xs (k + 2))) ((xs (k + 3))) ((xs (k + 4))) ((xs (k + 5))) σ _ (hO σ τ ((xs (k + 1))) ((xs (k + 2))) ((xs (k + 3))) ((xs (k + 4))) ((xs (k + 5))) hR)) wm_530 wm_531 wm_532 wm_1 wm_533 dy_X7_copy ⟨rfl, rfl⟩ ⟨Nat.le_of_ble_eq_true rfl, Nat.le_of_ble_eq_true rfl⟩ hcs rfl rfl (Nat.le_of_ble_eq_true rfl) dL_law_1079 (pc' := 1082) rfl (fun r u hf => ?_)
  refine j_aload_n hC.1 1 dL_law_1082 (pc' := 1083) rfl rfl ?_
  refine j_aload_n hC.1 3 dL_law_1083 (pc' := 1084) rfl rfl ?_
  refine j_iload_n hC.1 0 dL_law_1084 (pc' := 1085) rfl rfl ?_
  refine j_iconst hC.1 (v := 1) dL_law_1085 (pc' := 1086) rfl (by decide) ?_
  refine j_iadd hC.1 dL_law_1086 (pc' := 1087) rfl ?_
  refine jL_sld hC.1 hC.2.1 hC.2.2.1 (Nat.not_le.mpr hC.2.2.1) (j := k + 1) (ixL (d := 1) rfl (by decide) hk hC.2.2.2.1).1 (ixL (d := 1) rfl (by decide) hk hC.2.2.2.1).2 dL_law_1087 (pc' := 1088) rfl ?_
  refine j_aload_n hC.1 3 dL_law_1088 (pc' := 1089) rfl rfl ?_
  refine j_iload_n hC.1 0 dL_law_1089 (pc' := 1090) rfl rfl ?_
  refine j_iconst hC.1 (v := 2) dL_law_1090 (pc' := 1091) rfl (by decide) ?_
  refine j_iadd hC.1 dL_law_1091 (pc' := 1092) rfl ?_
  refine jL_sld hC.1 hC.2.1 hC.2.2.1 (Nat.not_le.mpr hC.2.2.1) (j := k + 2) (ixL (d := 2) rfl (by decide) hk hC.2.2.2.1).1 (ixL (d := 2) rfl (by decide) hk hC.2.2.2.1).2 dL_law_1092 (pc' := 1093) rfl ?_
  refine j_aload_n hC.1 3 dL_law_1093 (pc' := 1094) rfl rfl ?_
  refine j_iload_n hC.1 0 dL_law_1094 (pc' := 1095) rfl rfl ?_
  refine j_iconst hC.1 (v := 3) dL_law_1095 (pc' := 1096) rfl (by decide) ?_
  refine j_iadd hC.1 dL_law_1096 (pc' := 1097) rfl ?_
  refine jL_sld hC.1 hC.2.1 hC.2.2.1 (Nat.not_le.mpr hC.2.2.1) (j := k + 3) (ixL (d := 3) rfl (by decide) hk hC.2.2.2.1).1 (ixL (d := 3) rfl (by decide) hk hC.2.2.2.1).2 dL_law_1097 (pc' := 1098) rfl ?_
  refine j_aload_n hC.1 3 dL_law_1098 (pc' := 1099) rfl rfl ?_
  refine j_iload_n hC.1 0 dL_law_1099 (pc' := 1100) rfl rfl ?_
  refine j_iconst hC.1 (v := 4) dL_law_1100 (pc' := 1101) rfl (by decide) ?_
  refine j_iadd hC.1 dL_law_1101 (pc' := 1102) rfl ?_
  refine jL_sld hC.1 hC.2.1 hC.2.2.1 (Nat.not_le.mpr hC.2.2.1) (j := k + 4) (ixL (d := 4) rfl (by decide) hk hC.2.2.2.1).1 (ixL (d := 4) rfl (by decide) hk hC.2.2.2.1).2 dL_law_1102 (pc' := 1103) rfl ?_
  refine j_aload_n hC.1 3 dL_law_1103 (pc' := 1104) rfl rfl ?_
  refine j_iload_n hC.1 0 dL_law_1104 (pc' := 1105) rfl rfl ?_
  refine j_iconst hC.1 (v := 5) dL_law_1105 (pc' := 1106) rfl (by decide) ?_
  refine j_iadd hC.1 dL_law_1106 (pc' := 1107) rfl ?_
  refine jL_sld hC.1 hC.2.1 hC.2.2.1 (Nat.not_le.mpr hC.2.2.1) (j := k + 5) (ixL (d := 5) rfl (by decide) hk hC.2.2.2.1).1 (ixL (d := 5) rfl (by decide) hk hC.2.2.2.1).2 dL_law_1107 (pc' := 1108) rfl ?_
  refine j_wsE (ws' := wX q ca u ++ (wM q2 ca2 τ ++ [])) (by simp) ?_
  refine jF_i hC.1 (wX q ca u) [] (wf := wM q2 ca2) (σ := τ) (eM hC.2.2.2.2.2.1) (fun z => wM_fst q2 ca2 z τ) (AM_in q2 ca2 τ) (hC.1.2.2.2.2.2.1.sub [18, 19, 20, 21, 22, 23, 24, 25, 26, 27, 28, 29, 30, 31, 32, 33, 34, 35] rfl) (fun _ _ _ _ _ => trivial) (As := [.int (xs (k + 1)), .int (xs (k + 2)), .int (xs (k + 3)), .int (xs (k + 4)), .int (xs (k + 5))]) obM_X8 rfl (lk_X8_copy hC.2.2.2.2.2.1 ((xs (k + 1))) ((xs (k + 2))) ((xs (k + 3))) ((xs (k + 4))) ((xs (k + 5))) τ _ hf) wm_868 wm_869 wm_870 wm_8 wm_871 dy_X8_copy ⟨rfl, rfl⟩ ⟨Nat.le_of_ble_eq_true rfl, Nat.le_of_ble_eq_true rfl⟩ hcs rfl rfl (Nat.le_of_ble_eq_true rfl) dL_law_1108 (pc' := 1111) rfl (fun r2 v hf => ?_)
  refine j_wsE (ws' := wX q ca u ++ wM q2 ca2 v) (by simp) ?_
  refine j_icmp_eq hC.1 (tgt := 1153) dL_law_1111 (pc' := 1114) rfl (by decide) (fun c_ => ?_) (fun c_ => absurd hf.1 c_)
  exact hnext u v hf.2
set_option maxHeartbeats 4000000 in
set_option maxRecDepth 100000 in
theorem law_c30 {p : Program} {l : Launch} {e : Env} {s : State} {m : MethodId} {below : List Frame} {meth : Method} {c : Code} {Qm : State → Prop} {b L t k cells slots : Nat} {xs : Nat → Int32} {D : va_G} {q q2 : Nat → Nat} {ca ca2 : Nat → ClassId} {Rel : St → St → Prop} (hC : lw_C p s m b meth c L xs D q q2 ca ca2 t) (hcs : cells ≤ room_1.cells ∧ slots ≤ room_1.slots) (hk : k + 6 ≤ L) (hO : Ob_count Rel) (σ τ : St) (hR : Rel σ τ) (hnext : ∀ σ τ : St, Rel σ τ → J p l e room_1 s m #[Value.ref b] below meth c Qm D (fun a => s.heap.size ≤ a) 4 cells slots (wX q ca σ ++ wM q2 ca2 τ) 1153 [(3, .int (nI k)), (2, .ref (q2 0)), (1, .ref (q 0)), (0, .ref b)] []) : J p l e room_1 s m #[Value.ref b] below meth c Qm D (fun a => s.heap.size ≤ a) 4 cells slots (wX q ca σ ++ wM q2 ca2 τ) 1116 [(3, .int (nI k)), (2, .ref (q2 0)), (1, .ref (q 0)), (0, .ref b)] [] := by
  refine j_aload_n hC.1 2 dL_law_1116 (pc' := 1117) rfl rfl ?_
  refine j_aload_n hC.1 3 dL_law_1117 (pc' := 1118) rfl rfl ?_
  refine j_iload_n hC.1 0 dL_law_1118 (pc' := 1119) rfl rfl ?_
  refine j_iconst hC.1 (v := 1) dL_law_1119 (pc' := 1120) rfl (by decide) ?_
  refine j_iadd hC.1 dL_law_1120 (pc' := 1121) rfl ?_
  refine jL_sld hC.1 hC.2.1 hC.2.2.1 (Nat.not_le.mpr hC.2.2.1) (j := k + 1) (ixL (d := 1) rfl (by decide) hk hC.2.2.2.1).1 (ixL (d := 1) rfl (by decide) hk hC.2.2.2.1).2 dL_law_1121 (pc' := 1122) rfl ?_
  refine jF_i hC.1 [] (wM q2 ca2 τ) (wf := wX q ca) (σ := σ) (eX hC.2.2.2.2.1 (t := t)) (fun u => wX_fst q ca u σ) (AX_in q ca σ) (hC.1.2.2.2.2.2.1.sub [0, 1, 2, 3, 4, 5, 6, 7, 8, 9, 10, 11, 12, 13, 14, 15, 16, 17] rfl) (fun U H h1 h2 h3 => lw_ZX hC.2.2.2.2.2.2 U H h1 h2 h3) (As := [.int (xs (k + 1))]) obX_X7 rfl (lk_X7_count hC.2.2.2.2.1 ((xs (k + 1))) σ _ (hO σ τ ((xs (k + 1))) hR)) wm_541 wm_542 wm_543 wm_1 wm_544 dy_X7_count ⟨rfl, rfl⟩ ⟨Nat.le_of_ble_eq_true rfl, Nat.le_of_ble_eq_true rfl⟩ hcs rfl rfl (Nat.le_of_ble_eq_true rfl) dL_law_1122 (pc' := 1125) rfl (fun r u hf => ?_)
  refine j_aload_n hC.1 1 dL_law_1125 (pc' := 1126) rfl rfl ?_
  refine j_aload_n hC.1 3 dL_law_1126 (pc' := 1127) rfl rfl ?_
  refine j_iload_n hC.1 0 dL_law_1127 (pc' := 1128) rfl rfl ?_
  refine j_iconst hC.1 (v := 1) dL_law_1128 (pc' := 1129) rfl (by decide) ?_
  refine j_iadd hC.1 dL_law_1129 (pc' := 1130) rfl ?_
  refine jL_sld hC.1 hC.2.1 hC.2.2.1 (Nat.not_le.mpr hC.2.2.1) (j := k + 1) (ixL (d := 1) rfl (by decide) hk hC.2.2.2.1).1 (ixL (d := 1) rfl (by decide) hk hC.2.2.2.1).2 dL_law_1130 (pc' := 1131) rfl ?_
  refine j_wsE (ws' := wX q ca u ++ (wM q2 ca2 τ ++ [])) (by simp) ?_
  refine jF_i hC.1 (wX q ca u) [] (wf := wM q2 ca2) (σ := τ) (eM hC.2.2.2.2.2.1) (fun z => wM_fst q2 ca2 z τ) (AM_in q2 ca2 τ) (hC.1.2.2.2.2.2.1.sub [18, 19, 20, 21, 22, 23, 24, 25, 26, 27, 28, 29, 30, 31, 32, 33, 34, 35] rfl) (fun _ _ _ _ _ => trivial) (As := [.int (xs (k + 1))]) obM_X8 rfl (lk_X8_count hC.2.2.2.2.2.1 ((xs (k + 1))) τ _ hf) wm_872 wm_873 wm_874 wm_8 wm_875 dy_X8_count ⟨rfl, rfl⟩ ⟨Nat.le_of_ble_eq_true rfl, Nat.le_of_ble_eq_true rfl⟩ hcs rfl rfl (Nat.le_of_ble_eq_true rfl) dL_law_1131 (pc' := 1134) rfl (fun r2 v hf => ?_)
  refine j_wsE (ws' := wX q ca u ++ wM q2 ca2 v) (by simp) ?_
  refine j_icmp_eq hC.1 (tgt := 1153) dL_law_1134 (pc' := 1137) rfl (by decide) (fun c_ => ?_) (fun c_ => absurd hf.1 c_)
  exact hnext u v hf.2
set_option maxHeartbeats 4000000 in
set_option maxRecDepth 100000 in
theorem law_c31 {p : Program} {l : Launch} {e : Env} {s : State} {m : MethodId} {below : List Frame} {meth : Method} {c : Code} {Qm : State → Prop} {b L t k cells slots : Nat} {xs : Nat → Int32} {D : va_G} {q q2 : Nat → Nat} {ca ca2 : Nat → ClassId} {Rel : St → St → Prop} (hC : lw_C p s m b meth c L xs D q q2 ca ca2 t) (hcs : cells ≤ room_1.cells ∧ slots ≤ room_1.slots) (hk : k + 6 ≤ L) (hO : Ob_digest Rel) (σ τ : St) (hR : Rel σ τ) (hnext : ∀ σ τ : St, Rel σ τ → J p l e room_1 s m #[Value.ref b] below meth c Qm D (fun a => s.heap.size ≤ a) 4 cells slots (wX q ca σ ++ wM q2 ca2 τ) 1153 [(3, .int (nI k)), (2, .ref (q2 0)), (1, .ref (q 0)), (0, .ref b)] []) : J p l e room_1 s m #[Value.ref b] below meth c Qm D (fun a => s.heap.size ≤ a) 4 cells slots (wX q ca σ ++ wM q2 ca2 τ) 1139 [(3, .int (nI k)), (2, .ref (q2 0)), (1, .ref (q 0)), (0, .ref b)] [] := by
  refine j_aload_n hC.1 2 dL_law_1139 (pc' := 1140) rfl rfl ?_
  refine jF_l hC.1 [] (wM q2 ca2 τ) (wf := wX q ca) (σ := σ) (eX hC.2.2.2.2.1 (t := t)) (fun u => wX_fst q ca u σ) (AX_in q ca σ) (hC.1.2.2.2.2.2.1.sub [0, 1, 2, 3, 4, 5, 6, 7, 8, 9, 10, 11, 12, 13, 14, 15, 16, 17] rfl) (fun U H h1 h2 h3 => lw_ZX hC.2.2.2.2.2.2 U H h1 h2 h3) (As := []) obX_X7 rfl (lk_X7_digest hC.2.2.2.2.1  σ _ (hO σ τ  hR)) wm_551 wm_552 wm_553 wm_1 wm_554 dy_X7_digest ⟨rfl, rfl⟩ ⟨Nat.le_of_ble_eq_true rfl, Nat.le_of_ble_eq_true rfl⟩ hcs rfl rfl (Nat.le_of_ble_eq_true rfl) dL_law_1140 (pc' := 1143) rfl (fun r u hf => ?_)
  refine j_aload_n hC.1 1 dL_law_1143 (pc' := 1144) rfl rfl ?_
  refine j_wsE (ws' := wX q ca u ++ (wM q2 ca2 τ ++ [])) (by simp) ?_
  refine jF_l hC.1 (wX q ca u) [] (wf := wM q2 ca2) (σ := τ) (eM hC.2.2.2.2.2.1) (fun z => wM_fst q2 ca2 z τ) (AM_in q2 ca2 τ) (hC.1.2.2.2.2.2.1.sub [18, 19, 20, 21, 22, 23, 24, 25, 26, 27, 28, 29, 30, 31, 32, 33, 34, 35] rfl) (fun _ _ _ _ _ => trivial) (As := []) obM_X8 rfl (lk_X8_digest hC.2.2.2.2.2.1  τ _ hf) wm_876 wm_877 wm_878 wm_8 wm_879 dy_X8_digest ⟨rfl, rfl⟩ ⟨Nat.le_of_ble_eq_true rfl, Nat.le_of_ble_eq_true rfl⟩ hcs rfl rfl (Nat.le_of_ble_eq_true rfl) dL_law_1144 (pc' := 1147) rfl (fun r2 v hf => ?_)
  refine j_wsE (ws' := wX q ca u ++ wM q2 ca2 v) (by simp) ?_
  refine j_lcmp hC.1 dL_law_1147 (pc' := 1148) rfl ?_
  refine j_if_eq hC.1 (tgt := 1153) dL_law_1148 (pc' := 1151) rfl (by decide) (fun c_ => ?_) (fun c_ => absurd ((lgc_eq _ _).mpr hf.1) c_)
  exact hnext u v hf.2
