def f_X8_init_b348 (Q : St → Prop) : Nat → Int32 → St → Prop
  | 0, _, _ => False
  | n + 1, a1, σ => ((4 : Int32) ≤ a1 → Q σ) ∧ ((¬ (4 : Int32) ≤ a1) → vp_in a1 4 ∧ ∀ σ12 : St, σ12 = sI σ 22 (Int32.toNatClampNeg a1) (-1 : Int32) → ∀ x13 : Int32, x13 = a1 + (1 : Int32) → f_X8_init_b348 Q  n x13 σ12)
def f_X8_init_b319 (Q : St → Prop) : Nat → Int32 → St → Prop
  | 0, _, _ => False
  | n + 1, a1, σ => ((3 : Int32) ≤ a1 → ∃ n14 : Nat, f_X8_init_b348 Q n14 (0 : Int32) σ) ∧ ((¬ (3 : Int32) ≤ a1) → vp_in a1 3 ∧ ∀ σ16 : St, σ16 = sI σ 0 (Int32.toNatClampNeg a1) (100 : Int32) → vp_in a1 3 ∧ ∀ σ18 : St, σ18 = sI σ16 20 (Int32.toNatClampNeg a1) (35 : Int32) → ∀ x19 : Int32, x19 = a1 + (1 : Int32) → f_X8_init_b319 Q  n x19 σ18)
def f_X8_init_b290 (Q : St → Prop) : Nat → Int32 → St → Prop
  | 0, _, _ => False
  | n + 1, a1, σ => ((36 : Int32) ≤ a1 → ∃ n20 : Nat, f_X8_init_b319 Q n20 (0 : Int32) σ) ∧ ((¬ (36 : Int32) ≤ a1) → vp_in ((36 : Int32) - a1) 36 ∧ vp_in a1 36 ∧ ∀ σ23 : St, σ23 = sI σ 18 (Int32.toNatClampNeg a1) (σ.1 18 (Int32.toNatClampNeg ((36 : Int32) - a1))) → ∀ x24 : Int32, x24 = a1 + (1 : Int32) → f_X8_init_b290 Q  n x24 σ23)
def f_X8_init_b259 (Q : St → Prop) : Nat → Int32 → St → Prop
  | 0, _, _ => False
  | n + 1, a1, σ => ((28 : Int32) ≤ a1 → ∃ n25 : Nat, f_X8_init_b290 Q n25 (28 : Int32) σ) ∧ ((¬ (28 : Int32) ≤ a1) → vp_in (a1 - (18 : Int32)) 36 ∧ vp_in a1 36 ∧ ∀ σ28 : St, σ28 = sI σ 18 (Int32.toNatClampNeg a1) (-(σ.1 18 (Int32.toNatClampNeg (a1 - (18 : Int32))))) → ∀ x29 : Int32, x29 = a1 + (1 : Int32) → f_X8_init_b259 Q  n x29 σ28)
def f_X8_init_b228 (Q : St → Prop) : Nat → Int32 → St → Prop
  | 0, _, _ => False
  | n + 1, a1, σ => ((19 : Int32) ≤ a1 → ∃ n30 : Nat, f_X8_init_b259 Q n30 (19 : Int32) σ) ∧ ((¬ (19 : Int32) ≤ a1) → vp_in ((18 : Int32) - a1) 36 ∧ vp_in a1 36 ∧ ∀ σ33 : St, σ33 = sI σ 18 (Int32.toNatClampNeg a1) (-(σ.1 18 (Int32.toNatClampNeg ((18 : Int32) - a1)))) → ∀ x34 : Int32, x34 = a1 + (1 : Int32) → f_X8_init_b228 Q  n x34 σ33)
def f_X8_init (σ : St) (Q : St → Prop) : Prop := ∀ σ1 : St, σ1 = sI σ 18 0 (65 : Int32) → ∀ σ2 : St, σ2 = sI σ1 18 1 (63 : Int32) → ∀ σ3 : St, σ3 = sI σ2 18 2 (60 : Int32) → ∀ σ4 : St, σ4 = sI σ3 18 3 (56 : Int32) → ∀ σ5 : St, σ5 = sI σ4 18 4 (52 : Int32) → ∀ σ6 : St, σ6 = sI σ5 18 5 (39 : Int32) → ∀ σ7 : St, σ7 = sI σ6 18 6 (33 : Int32) → ∀ σ8 : St, σ8 = sI σ7 18 7 (25 : Int32) → ∀ σ9 : St, σ9 = sI σ8 18 8 (16 : Int32) → ∀ σ10 : St, σ10 = sI σ9 18 9 (0 : Int32) → ∃ n35 : Nat, f_X8_init_b228 Q n35 (10 : Int32) σ10
set_option maxHeartbeats 4000000 in
set_option maxRecDepth 100000 in
theorem lb_X8_init_b348 {l : Launch} {D : va_G} {q : Nat → Nat} {ca : Nat → ClassId} {p : Program} {e : Env} {R : Room} {s : State} {m : MethodId} {args : Array Value} {below : List Frame} {meth : Method} {c : Code} {Qm : State → Prop} {A : Nat → Prop} {cells slots : Nat} {Z : State → Heap → Prop} {Q : St → Prop} (hC : Cx p s m args meth c cX8_init 2 RX8 none D (tysM ca) Z) (hret : ∀ σ : St, Q σ → J p l e R s m args below meth c Qm D A 2 cells slots (wM q ca σ) 366 [] []) (Q0 : St → Prop := Q) : ∀ (n : Nat) (a1 : Int32) (σ : St), f_X8_init_b348 Q n a1 σ → J p l e R s m args below meth c Qm D A 2 cells slots (wM q ca σ) 348 [(0, .ref (q 0)), (1, .int a1)] [] := by
  intro n
  induction n with
  | zero => intro a1 σ hf; exact hf.elim
  | succ n ih =>
    intro a1 σ hf
    unfold f_X8_init_b348 at hf
    refine j_iload_n hC 1 dX8_init_348 (pc' := 349) rfl rfl ?_
    refine j_iconst hC (v := 4) dX8_init_349 (pc' := 350) rfl (by decide) ?_
    refine j_icmp_ge hC (tgt := 366) dX8_init_350 (pc' := 353) rfl (by decide) (fun c_ => ?_) (fun c_ => ?_)
    · replace hf := hf.1 c_
      refine j_lv [] rfl ?_
      exact hret σ hf
    · replace hf := hf.2 c_
      refine j_aload_n hC 0 dX8_init_353 (pc' := 354) rfl rfl ?_
      refine gM_forms hC wm_583 dX8_init_354 (pc' := 357) rfl ?_
      refine j_iload_n hC 1 dX8_init_357 (pc' := 358) rfl rfl ?_
      refine j_iconst hC (v := -1) dX8_init_358 (pc' := 359) rfl (by decide) ?_
      obtain ⟨h11, hf⟩ := hf
      refine sM_forms hC (j := (Int32.toNatClampNeg a1)) h11 rfl dX8_init_359 (pc' := 360) rfl ?_
      refine j_nms (wf := wM q ca) (fun σ12 eσ12 => ?_)
      replace hf := hf σ12 eσ12
      obtain ⟨x13, ex13⟩ : ∃ y : Int32, y = a1 + (1 : Int32) := ⟨_, rfl⟩
      replace hf := hf x13 ex13
      refine j_iinc hC (v := x13) (q := 1) (lv' := [(1, .int x13), (0, .ref (q 0))]) dX8_init_360 (pc' := 363) rfl rfl (by rw [ex13]; rfl) (by decide) rfl ?_
      refine j_goto hC (tgt := 348) dX8_init_363 (by decide) ?_
      refine j_lv [1, 0] rfl ?_
      exact ih x13 σ12 hf
set_option maxHeartbeats 4000000 in
set_option maxRecDepth 100000 in
theorem lb_X8_init_b319 {l : Launch} {D : va_G} {q : Nat → Nat} {ca : Nat → ClassId} {p : Program} {e : Env} {R : Room} {s : State} {m : MethodId} {args : Array Value} {below : List Frame} {meth : Method} {c : Code} {Qm : State → Prop} {A : Nat → Prop} {cells slots : Nat} {Z : State → Heap → Prop} {Q : St → Prop} (hC : Cx p s m args meth c cX8_init 2 RX8 none D (tysM ca) Z) (hret : ∀ σ : St, Q σ → J p l e R s m args below meth c Qm D A 2 cells slots (wM q ca σ) 366 [] []) (Q0 : St → Prop := Q) : ∀ (n : Nat) (a1 : Int32) (σ : St), f_X8_init_b319 Q n a1 σ → J p l e R s m args below meth c Qm D A 2 cells slots (wM q ca σ) 319 [(0, .ref (q 0)), (1, .int a1)] [] := by
  intro n
  induction n with
  | zero => intro a1 σ hf; exact hf.elim
  | succ n ih =>
    intro a1 σ hf
    unfold f_X8_init_b319 at hf
    refine j_iload_n hC 1 dX8_init_319 (pc' := 320) rfl rfl ?_
    refine j_iconst hC (v := 3) dX8_init_320 (pc' := 321) rfl (by decide) ?_
    refine j_icmp_ge hC (tgt := 346) dX8_init_321 (pc' := 324) rfl (by decide) (fun c_ => ?_) (fun c_ => ?_)
    · replace hf := hf.1 c_
      refine j_iconst hC (v := 0) dX8_init_346 (pc' := 347) rfl (by decide) ?_
      refine j_istore_n hC (lv' := [(1, .int (0 : Int32)), (0, .ref (q 0))]) dX8_init_347 (pc' := 348) rfl rfl (by decide) rfl ?_
      obtain ⟨n14, hf⟩ := hf
      refine j_lv [1, 0] rfl ?_
      exact lb_X8_init_b348 hC hret Q n14 (0 : Int32) σ hf
    · replace hf := hf.2 c_
      refine j_aload_n hC 0 dX8_init_324 (pc' := 325) rfl rfl ?_
      refine gM_lengths hC wm_565 dX8_init_325 (pc' := 328) rfl ?_
      refine j_iload_n hC 1 dX8_init_328 (pc' := 329) rfl rfl ?_
      refine j_bipush hC (v := 100) dX8_init_329 (pc' := 331) rfl (by decide) ?_
      obtain ⟨h15, hf⟩ := hf
      refine sM_lengths hC (j := (Int32.toNatClampNeg a1)) h15 rfl dX8_init_331 (pc' := 332) rfl ?_
      refine j_nms (wf := wM q ca) (fun σ16 eσ16 => ?_)
      replace hf := hf σ16 eσ16
      refine j_aload_n hC 0 dX8_init_332 (pc' := 333) rfl rfl ?_
      refine gM_spans hC wm_580 dX8_init_333 (pc' := 336) rfl ?_
      refine j_iload_n hC 1 dX8_init_336 (pc' := 337) rfl rfl ?_
      refine j_bipush hC (v := 35) dX8_init_337 (pc' := 339) rfl (by decide) ?_
      obtain ⟨h17, hf⟩ := hf
      refine sM_spans hC (j := (Int32.toNatClampNeg a1)) h17 rfl dX8_init_339 (pc' := 340) rfl ?_
      refine j_nms (wf := wM q ca) (fun σ18 eσ18 => ?_)
      replace hf := hf σ18 eσ18
      obtain ⟨x19, ex19⟩ : ∃ y : Int32, y = a1 + (1 : Int32) := ⟨_, rfl⟩
      replace hf := hf x19 ex19
      refine j_iinc hC (v := x19) (q := 1) (lv' := [(1, .int x19), (0, .ref (q 0))]) dX8_init_340 (pc' := 343) rfl rfl (by rw [ex19]; rfl) (by decide) rfl ?_
      refine j_goto hC (tgt := 319) dX8_init_343 (by decide) ?_
      refine j_lv [1, 0] rfl ?_
      exact ih x19 σ18 hf
set_option maxHeartbeats 4000000 in
set_option maxRecDepth 100000 in
theorem lb_X8_init_b290 {l : Launch} {D : va_G} {q : Nat → Nat} {ca : Nat → ClassId} {p : Program} {e : Env} {R : Room} {s : State} {m : MethodId} {args : Array Value} {below : List Frame} {meth : Method} {c : Code} {Qm : State → Prop} {A : Nat → Prop} {cells slots : Nat} {Z : State → Heap → Prop} {Q : St → Prop} (hC : Cx p s m args meth c cX8_init 2 RX8 none D (tysM ca) Z) (hret : ∀ σ : St, Q σ → J p l e R s m args below meth c Qm D A 2 cells slots (wM q ca σ) 366 [] []) (Q0 : St → Prop := Q) : ∀ (n : Nat) (a1 : Int32) (σ : St), f_X8_init_b290 Q n a1 σ → J p l e R s m args below meth c Qm D A 2 cells slots (wM q ca σ) 290 [(0, .ref (q 0)), (1, .int a1)] [] := by
  intro n
  induction n with
  | zero => intro a1 σ hf; exact hf.elim
  | succ n ih =>
    intro a1 σ hf
    unfold f_X8_init_b290 at hf
    refine j_iload_n hC 1 dX8_init_290 (pc' := 291) rfl rfl ?_
    refine j_bipush hC (v := 36) dX8_init_291 (pc' := 293) rfl (by decide) ?_
    refine j_icmp_ge hC (tgt := 317) dX8_init_293 (pc' := 296) rfl (by decide) (fun c_ => ?_) (fun c_ => ?_)
    · replace hf := hf.1 c_
      refine j_iconst hC (v := 0) dX8_init_317 (pc' := 318) rfl (by decide) ?_
      refine j_istore_n hC (lv' := [(1, .int (0 : Int32)), (0, .ref (q 0))]) dX8_init_318 (pc' := 319) rfl rfl (by decide) rfl ?_
      obtain ⟨n20, hf⟩ := hf
      refine j_lv [1, 0] rfl ?_
      exact lb_X8_init_b319 hC hret Q n20 (0 : Int32) σ hf
    · replace hf := hf.2 c_
      refine j_aload_n hC 0 dX8_init_296 (pc' := 297) rfl rfl ?_
      refine gM_cs hC wm_564 dX8_init_297 (pc' := 300) rfl ?_
      refine j_iload_n hC 1 dX8_init_300 (pc' := 301) rfl rfl ?_
      refine j_aload_n hC 0 dX8_init_301 (pc' := 302) rfl rfl ?_
      refine gM_cs hC wm_564 dX8_init_302 (pc' := 305) rfl ?_
      refine j_bipush hC (v := 36) dX8_init_305 (pc' := 307) rfl (by decide) ?_
      refine j_iload_n hC 1 dX8_init_307 (pc' := 308) rfl rfl ?_
      refine j_isub hC dX8_init_308 (pc' := 309) rfl ?_
      obtain ⟨h21, hf⟩ := hf
      refine lM_cs hC (j := (Int32.toNatClampNeg ((36 : Int32) - a1))) h21 rfl dX8_init_309 (pc' := 310) rfl ?_
      obtain ⟨h22, hf⟩ := hf
      refine sM_cs hC (j := (Int32.toNatClampNeg a1)) h22 rfl dX8_init_310 (pc' := 311) rfl ?_
      refine j_nms (wf := wM q ca) (fun σ23 eσ23 => ?_)
      replace hf := hf σ23 eσ23
      obtain ⟨x24, ex24⟩ : ∃ y : Int32, y = a1 + (1 : Int32) := ⟨_, rfl⟩
      replace hf := hf x24 ex24
      refine j_iinc hC (v := x24) (q := 1) (lv' := [(1, .int x24), (0, .ref (q 0))]) dX8_init_311 (pc' := 314) rfl rfl (by rw [ex24]; rfl) (by decide) rfl ?_
      refine j_goto hC (tgt := 290) dX8_init_314 (by decide) ?_
      refine j_lv [1, 0] rfl ?_
      exact ih x24 σ23 hf
set_option maxHeartbeats 4000000 in
set_option maxRecDepth 100000 in
theorem lb_X8_init_b259 {l : Launch} {D : va_G} {q : Nat → Nat} {ca : Nat → ClassId} {p : Program} {e : Env} {R : Room} {s : State} {m : MethodId} {args : Array Value} {below : List Frame} {meth : Method} {c : Code} {Qm : State → Prop} {A : Nat → Prop} {cells slots : Nat} {Z : State → Heap → Prop} {Q : St → Prop} (hC : Cx p s m args meth c cX8_init 2 RX8 none D (tysM ca) Z) (hret : ∀ σ : St, Q σ → J p l e R s m args below meth c Qm D A 2 cells slots (wM q ca σ) 366 [] []) (Q0 : St → Prop := Q) : ∀ (n : Nat) (a1 : Int32) (σ : St), f_X8_init_b259 Q n a1 σ → J p l e R s m args below meth c Qm D A 2 cells slots (wM q ca σ) 259 [(0, .ref (q 0)), (1, .int a1)] [] := by
  intro n
  induction n with
  | zero => intro a1 σ hf; exact hf.elim
  | succ n ih =>
    intro a1 σ hf
    unfold f_X8_init_b259 at hf
    refine j_iload_n hC 1 dX8_init_259 (pc' := 260) rfl rfl ?_
    refine j_bipush hC (v := 28) dX8_init_260 (pc' := 262) rfl (by decide) ?_
    refine j_icmp_ge hC (tgt := 287) dX8_init_262 (pc' := 265) rfl (by decide) (fun c_ => ?_) (fun c_ => ?_)
    · replace hf := hf.1 c_
      refine j_bipush hC (v := 28) dX8_init_287 (pc' := 289) rfl (by decide) ?_
      refine j_istore_n hC (lv' := [(1, .int (28 : Int32)), (0, .ref (q 0))]) dX8_init_289 (pc' := 290) rfl rfl (by decide) rfl ?_
      obtain ⟨n25, hf⟩ := hf
      refine j_lv [1, 0] rfl ?_
      exact lb_X8_init_b290 hC hret Q n25 (28 : Int32) σ hf
    · replace hf := hf.2 c_
      refine j_aload_n hC 0 dX8_init_265 (pc' := 266) rfl rfl ?_
      refine gM_cs hC wm_564 dX8_init_266 (pc' := 269) rfl ?_
      refine j_iload_n hC 1 dX8_init_269 (pc' := 270) rfl rfl ?_
      refine j_aload_n hC 0 dX8_init_270 (pc' := 271) rfl rfl ?_
      refine gM_cs hC wm_564 dX8_init_271 (pc' := 274) rfl ?_
      refine j_iload_n hC 1 dX8_init_274 (pc' := 275) rfl rfl ?_
      refine j_bipush hC (v := 18) dX8_init_275 (pc' := 277) rfl (by decide) ?_
      refine j_isub hC dX8_init_277 (pc' := 278) rfl ?_
      obtain ⟨h26, hf⟩ := hf
      refine lM_cs hC (j := (Int32.toNatClampNeg (a1 - (18 : Int32)))) h26 rfl dX8_init_278 (pc' := 279) rfl ?_
      refine j_ineg hC dX8_init_279 (pc' := 280) rfl ?_
      obtain ⟨h27, hf⟩ := hf
      refine sM_cs hC (j := (Int32.toNatClampNeg a1)) h27 rfl dX8_init_280 (pc' := 281) rfl ?_
      refine j_nms (wf := wM q ca) (fun σ28 eσ28 => ?_)
      replace hf := hf σ28 eσ28
      obtain ⟨x29, ex29⟩ : ∃ y : Int32, y = a1 + (1 : Int32) := ⟨_, rfl⟩
      replace hf := hf x29 ex29
      refine j_iinc hC (v := x29) (q := 1) (lv' := [(1, .int x29), (0, .ref (q 0))]) dX8_init_281 (pc' := 284) rfl rfl (by rw [ex29]; rfl) (by decide) rfl ?_
      refine j_goto hC (tgt := 259) dX8_init_284 (by decide) ?_
      refine j_lv [1, 0] rfl ?_
      exact ih x29 σ28 hf
set_option maxHeartbeats 4000000 in
set_option maxRecDepth 100000 in
theorem lb_X8_init_b228 {l : Launch} {D : va_G} {q : Nat → Nat} {ca : Nat → ClassId} {p : Program} {e : Env} {R : Room} {s : State} {m : MethodId} {args : Array Value} {below : List Frame} {meth : Method} {c : Code} {Qm : State → Prop} {A : Nat → Prop} {cells slots : Nat} {Z : State → Heap → Prop} {Q : St → Prop} (hC : Cx p s m args meth c cX8_init 2 RX8 none D (tysM ca) Z) (hret : ∀ σ : St, Q σ → J p l e R s m args below meth c Qm D A 2 cells slots (wM q ca σ) 366 [] []) (Q0 : St → Prop := Q) : ∀ (n : Nat) (a1 : Int32) (σ : St), f_X8_init_b228 Q n a1 σ → J p l e R s m args below meth c Qm D A 2 cells slots (wM q ca σ) 228 [(0, .ref (q 0)), (1, .int a1)] [] := by
  intro n
  induction n with
  | zero => intro a1 σ hf; exact hf.elim
  | succ n ih =>
    intro a1 σ hf
    unfold f_X8_init_b228 at hf
    refine j_iload_n hC 1 dX8_init_228 (pc' := 229) rfl rfl ?_
    refine j_bipush hC (v := 19) dX8_init_229 (pc' := 231) rfl (by decide) ?_
    refine j_icmp_ge hC (tgt := 256) dX8_init_231 (pc' := 234) rfl (by decide) (fun c_ => ?_) (fun c_ => ?_)
    · replace hf := hf.1 c_
      refine j_bipush hC (v := 19) dX8_init_256 (pc' := 258) rfl (by decide) ?_
      refine j_istore_n hC (lv' := [(1, .int (19 : Int32)), (0, .ref (q 0))]) dX8_init_258 (pc' := 259) rfl rfl (by decide) rfl ?_
      obtain ⟨n30, hf⟩ := hf
      refine j_lv [1, 0] rfl ?_
      exact lb_X8_init_b259 hC hret Q n30 (19 : Int32) σ hf
    · replace hf := hf.2 c_
      refine j_aload_n hC 0 dX8_init_234 (pc' := 235) rfl rfl ?_
      refine gM_cs hC wm_564 dX8_init_235 (pc' := 238) rfl ?_
      refine j_iload_n hC 1 dX8_init_238 (pc' := 239) rfl rfl ?_
      refine j_aload_n hC 0 dX8_init_239 (pc' := 240) rfl rfl ?_
      refine gM_cs hC wm_564 dX8_init_240 (pc' := 243) rfl ?_
      refine j_bipush hC (v := 18) dX8_init_243 (pc' := 245) rfl (by decide) ?_
      refine j_iload_n hC 1 dX8_init_245 (pc' := 246) rfl rfl ?_
      refine j_isub hC dX8_init_246 (pc' := 247) rfl ?_
      obtain ⟨h31, hf⟩ := hf
      refine lM_cs hC (j := (Int32.toNatClampNeg ((18 : Int32) - a1))) h31 rfl dX8_init_247 (pc' := 248) rfl ?_
      refine j_ineg hC dX8_init_248 (pc' := 249) rfl ?_
      obtain ⟨h32, hf⟩ := hf
      refine sM_cs hC (j := (Int32.toNatClampNeg a1)) h32 rfl dX8_init_249 (pc' := 250) rfl ?_
      refine j_nms (wf := wM q ca) (fun σ33 eσ33 => ?_)
      replace hf := hf σ33 eσ33
      obtain ⟨x34, ex34⟩ : ∃ y : Int32, y = a1 + (1 : Int32) := ⟨_, rfl⟩
      replace hf := hf x34 ex34
      refine j_iinc hC (v := x34) (q := 1) (lv' := [(1, .int x34), (0, .ref (q 0))]) dX8_init_250 (pc' := 253) rfl rfl (by rw [ex34]; rfl) (by decide) rfl ?_
      refine j_goto hC (tgt := 228) dX8_init_253 (by decide) ?_
      refine j_lv [1, 0] rfl ?_
      exact ih x34 σ33 hf
set_option maxHeartbeats 4000000 in
set_option maxRecDepth 100000 in
theorem lt_X8_init {l : Launch} {D : va_G} {q : Nat → Nat} {ca : Nat → ClassId} {p : Program} {e : Env} {R : Room} {s : State} {m : MethodId} {args : Array Value} {below : List Frame} {meth : Method} {c : Code} {Qm : State → Prop} {A : Nat → Prop} {cells slots : Nat} {Z : State → Heap → Prop} {Q : St → Prop} (hC : Cx p s m args meth c cX8_init 2 RX8 none D (tysM ca) Z) (hret : ∀ σ : St, Q σ → J p l e R s m args below meth c Qm D A 2 cells slots (wM q ca σ) 366 [] []) (σ : St) (hf : f_X8_init σ Q) : J p l e R s m args below meth c Qm D A 2 cells slots (wM q ca σ) 142 [(0, .ref (q 0))] [] := by
  unfold f_X8_init at hf
  refine j_aload_n hC 0 dX8_init_142 (pc' := 143) rfl rfl ?_
  refine gM_cs hC wm_564 dX8_init_143 (pc' := 146) rfl ?_
  refine j_iconst hC (v := 0) dX8_init_146 (pc' := 147) rfl (by decide) ?_
  refine j_bipush hC (v := 65) dX8_init_147 (pc' := 149) rfl (by decide) ?_
  refine sM_cs hC (j := 0) (show ¬ ((0 : Int32) < 0 ∨ 36 ≤ (0 : Int32).toNatClampNeg) from by decide) (by decide) dX8_init_149 (pc' := 150) rfl ?_
  refine j_nms (wf := wM q ca) (fun σ1 eσ1 => ?_)
  replace hf := hf σ1 eσ1
  refine j_aload_n hC 0 dX8_init_150 (pc' := 151) rfl rfl ?_
  refine gM_cs hC wm_564 dX8_init_151 (pc' := 154) rfl ?_
  refine j_iconst hC (v := 1) dX8_init_154 (pc' := 155) rfl (by decide) ?_
  refine j_bipush hC (v := 63) dX8_init_155 (pc' := 157) rfl (by decide) ?_
  refine sM_cs hC (j := 1) (show ¬ ((1 : Int32) < 0 ∨ 36 ≤ (1 : Int32).toNatClampNeg) from by decide) (by decide) dX8_init_157 (pc' := 158) rfl ?_
  refine j_nms (wf := wM q ca) (fun σ2 eσ2 => ?_)
  replace hf := hf σ2 eσ2
  refine j_aload_n hC 0 dX8_init_158 (pc' := 159) rfl rfl ?_
  refine gM_cs hC wm_564 dX8_init_159 (pc' := 162) rfl ?_
  refine j_iconst hC (v := 2) dX8_init_162 (pc' := 163) rfl (by decide) ?_
  refine j_bipush hC (v := 60) dX8_init_163 (pc' := 165) rfl (by decide) ?_
  refine sM_cs hC (j := 2) (show ¬ ((2 : Int32) < 0 ∨ 36 ≤ (2 : Int32).toNatClampNeg) from by decide) (by decide) dX8_init_165 (pc' := 166) rfl ?_
  refine j_nms (wf := wM q ca) (fun σ3 eσ3 => ?_)
  replace hf := hf σ3 eσ3
  refine j_aload_n hC 0 dX8_init_166 (pc' := 167) rfl rfl ?_
  refine gM_cs hC wm_564 dX8_init_167 (pc' := 170) rfl ?_
  refine j_iconst hC (v := 3) dX8_init_170 (pc' := 171) rfl (by decide) ?_
  refine j_bipush hC (v := 56) dX8_init_171 (pc' := 173) rfl (by decide) ?_
  refine sM_cs hC (j := 3) (show ¬ ((3 : Int32) < 0 ∨ 36 ≤ (3 : Int32).toNatClampNeg) from by decide) (by decide) dX8_init_173 (pc' := 174) rfl ?_
  refine j_nms (wf := wM q ca) (fun σ4 eσ4 => ?_)
  replace hf := hf σ4 eσ4
  refine j_aload_n hC 0 dX8_init_174 (pc' := 175) rfl rfl ?_
  refine gM_cs hC wm_564 dX8_init_175 (pc' := 178) rfl ?_
  refine j_iconst hC (v := 4) dX8_init_178 (pc' := 179) rfl (by decide) ?_
  refine j_bipush hC (v := 52) dX8_init_179 (pc' := 181) rfl (by decide) ?_
  refine sM_cs hC (j := 4) (show ¬ ((4 : Int32) < 0 ∨ 36 ≤ (4 : Int32).toNatClampNeg) from by decide) (by decide) dX8_init_181 (pc' := 182) rfl ?_
  refine j_nms (wf := wM q ca) (fun σ5 eσ5 => ?_)
  replace hf := hf σ5 eσ5
  refine j_aload_n hC 0 dX8_init_182 (pc' := 183) rfl rfl ?_
  refine gM_cs hC wm_564 dX8_init_183 (pc' := 186) rfl ?_
  refine j_iconst hC (v := 5) dX8_init_186 (pc' := 187) rfl (by decide) ?_
  refine j_bipush hC (v := 39) dX8_init_187 (pc' := 189) rfl (by decide) ?_
  refine sM_cs hC (j := 5) (show ¬ ((5 : Int32) < 0 ∨ 36 ≤ (5 : Int32).toNatClampNeg) from by decide) (by decide) dX8_init_189 (pc' := 190) rfl ?_
  refine j_nms (wf := wM q ca) (fun σ6 eσ6 => ?_)
  replace hf := hf σ6 eσ6
  refine j_aload_n hC 0 dX8_init_190 (pc' := 191) rfl rfl ?_
  refine gM_cs hC wm_564 dX8_init_191 (pc' := 194) rfl ?_
  refine j_bipush hC (v := 6) dX8_init_194 (pc' := 196) rfl (by decide) ?_
  refine j_bipush hC (v := 33) dX8_init_196 (pc' := 198) rfl (by decide) ?_
  refine sM_cs hC (j := 6) (show ¬ ((6 : Int32) < 0 ∨ 36 ≤ (6 : Int32).toNatClampNeg) from by decide) (by decide) dX8_init_198 (pc' := 199) rfl ?_
  refine j_nms (wf := wM q ca) (fun σ7 eσ7 => ?_)
  replace hf := hf σ7 eσ7
  refine j_aload_n hC 0 dX8_init_199 (pc' := 200) rfl rfl ?_
  refine gM_cs hC wm_564 dX8_init_200 (pc' := 203) rfl ?_
  refine j_bipush hC (v := 7) dX8_init_203 (pc' := 205) rfl (by decide) ?_
  refine j_bipush hC (v := 25) dX8_init_205 (pc' := 207) rfl (by decide) ?_
  refine sM_cs hC (j := 7) (show ¬ ((7 : Int32) < 0 ∨ 36 ≤ (7 : Int32).toNatClampNeg) from by decide) (by decide) dX8_init_207 (pc' := 208) rfl ?_
  refine j_nms (wf := wM q ca) (fun σ8 eσ8 => ?_)
  replace hf := hf σ8 eσ8
  refine j_aload_n hC 0 dX8_init_208 (pc' := 209) rfl rfl ?_
  refine gM_cs hC wm_564 dX8_init_209 (pc' := 212) rfl ?_
  refine j_bipush hC (v := 8) dX8_init_212 (pc' := 214) rfl (by decide) ?_
  refine j_bipush hC (v := 16) dX8_init_214 (pc' := 216) rfl (by decide) ?_
  refine sM_cs hC (j := 8) (show ¬ ((8 : Int32) < 0 ∨ 36 ≤ (8 : Int32).toNatClampNeg) from by decide) (by decide) dX8_init_216 (pc' := 217) rfl ?_
  refine j_nms (wf := wM q ca) (fun σ9 eσ9 => ?_)
  replace hf := hf σ9 eσ9
  refine j_aload_n hC 0 dX8_init_217 (pc' := 218) rfl rfl ?_
  refine gM_cs hC wm_564 dX8_init_218 (pc' := 221) rfl ?_
  refine j_bipush hC (v := 9) dX8_init_221 (pc' := 223) rfl (by decide) ?_
  refine j_iconst hC (v := 0) dX8_init_223 (pc' := 224) rfl (by decide) ?_
  refine sM_cs hC (j := 9) (show ¬ ((9 : Int32) < 0 ∨ 36 ≤ (9 : Int32).toNatClampNeg) from by decide) (by decide) dX8_init_224 (pc' := 225) rfl ?_
  refine j_nms (wf := wM q ca) (fun σ10 eσ10 => ?_)
  replace hf := hf σ10 eσ10
  refine j_bipush hC (v := 10) dX8_init_225 (pc' := 227) rfl (by decide) ?_
  refine j_istore_n hC (lv' := [(1, .int (10 : Int32)), (0, .ref (q 0))]) dX8_init_227 (pc' := 228) rfl rfl (by decide) rfl ?_
  obtain ⟨n35, hf⟩ := hf
  refine j_lv [1, 0] rfl ?_
  exact lb_X8_init_b228 hC hret Q n35 (10 : Int32) σ10 hf
def zSt : St := (fun _ _ => 0, fun _ _ => 0)
def wc_X8 (u : (Nat → Nat) × (Nat → ClassId) × St) : va_W := wM u.1 u.2.1 u.2.2
def tc_X8 (u : (Nat → Nat) × (Nat → ClassId) × St) : List (ClassId × FieldType) := tysM u.2.1
set_option maxHeartbeats 4000000 in
set_option maxRecDepth 100000 in
theorem mk_X8 {l : Launch} {D : va_G} {ex : State → Prop} (b : Nat) (Q : St → Prop) (hf : f_X8_init zSt Q) : Mc l yX8_init cX8_init 2 { frames := 1, cells := 18, slots := 740, locals := 20 } D ex b (.inr (7, [.null, .null, .int 0, .null, .null, .null, .int 0, .null, .null, .null, .int 0, .null, .null, .null, .null, .null, .null, .long 0, .int 0, .null, .null, .null, .null, .int 0])) wc_X8 tc_X8 (fun u => u.1 0 = b ∧ Q u.2.2) 18 740 := by
  refine j_startC (own := RX8) (by decide +kernel) rfl rfl (by decide) (fun p e s m args below meth c A hC hin hA => ?_)
  refine j_aload_n hC 0 dX8_init_0 (pc' := 1) rfl rfl ?_
  refine j_objInit hC wm_563 (Nat.le_of_ble_eq_true rfl) (Nat.le_of_ble_eq_true rfl) dX8_init_1 (pc' := 4) rfl ?_
  refine j_aload_n hC 0 dX8_init_4 (pc' := 5) rfl rfl ?_
  refine j_bipush hC (v := 36) dX8_init_5 (pc' := 7) rfl (by decide) ?_
  refine j_newa hC hA (atype := .int) (ty := .int) (a0 := (36, .inl (fun _ => 0))) (N := 36) wm_45 rfl (fun _ => rfl) (by decide) (by decide) (Nat.le_of_ble_eq_true rfl) (Nat.le_of_ble_eq_true rfl) (Nat.le_of_ble_eq_true rfl) dX8_init_7 (pc' := 9) rfl (fun q1 cq1 hC => ?_)
  refine j_wsE (ws' := [(b, .inr (7, [.null, .null, .int 0, .null, .null, .null, .int 0, .null, .null, .null, .int 0, .null, .null, .null, .null, .null, .null, .long 0, .int 0, .null, .null, .null, .null, .int 0])), (q1, .inl (cq1, 36, .inl (fun _ => 0)))]) rfl ?_
  refine j_putF hC hin (ci := 7) (v := .ref q1) (ty := .array .int) tyX8 inA_X8 tyX8_ok nmX8 0 rfl rfl 0 (by decide) wm_564 rfl rfl (by decide +kernel) rfl rfl (Nat.le_of_ble_eq_true rfl) dX8_init_9 (pc' := 12) rfl ?_
  refine j_wsE (ws' := [(b, .inr (7, [.ref q1, .null, .int 0, .null, .null, .null, .int 0, .null, .null, .null, .int 0, .null, .null, .null, .null, .null, .null, .long 0, .int 0, .null, .null, .null, .null, .int 0])), (q1, .inl (cq1, 36, .inl (fun _ => 0)))]) rfl ?_
  refine j_aload_n hC 0 dX8_init_12 (pc' := 13) rfl rfl ?_
  refine j_iconst hC (v := 3) dX8_init_13 (pc' := 14) rfl (by decide) ?_
  refine j_newa hC hA (atype := .int) (ty := .int) (a0 := (3, .inl (fun _ => 0))) (N := 3) wm_45 rfl (fun _ => rfl) (by decide) (by decide) (Nat.le_of_ble_eq_true rfl) (Nat.le_of_ble_eq_true rfl) (Nat.le_of_ble_eq_true rfl) dX8_init_14 (pc' := 16) rfl (fun q2 cq2 hC => ?_)
  refine j_wsE (ws' := [(b, .inr (7, [.ref q1, .null, .int 0, .null, .null, .null, .int 0, .null, .null, .null, .int 0, .null, .null, .null, .null, .null, .null, .long 0, .int 0, .null, .null, .null, .null, .int 0])), (q1, .inl (cq1, 36, .inl (fun _ => 0))), (q2, .inl (cq2, 3, .inl (fun _ => 0)))]) rfl ?_
  refine j_putF hC hin (ci := 7) (v := .ref q2) (ty := .array .int) tyX8 inA_X8 tyX8_ok nmX8 0 rfl rfl 1 (by decide) wm_565 rfl rfl (by decide +kernel) rfl rfl (Nat.le_of_ble_eq_true rfl) dX8_init_16 (pc' := 19) rfl ?_
  refine j_wsE (ws' := [(b, .inr (7, [.ref q1, .ref q2, .int 0, .null, .null, .null, .int 0, .null, .null, .null, .int 0, .null, .null, .null, .null, .null, .null, .long 0, .int 0, .null, .null, .null, .null, .int 0])), (q1, .inl (cq1, 36, .inl (fun _ => 0))), (q2, .inl (cq2, 3, .inl (fun _ => 0)))]) rfl ?_
  refine j_aload_n hC 0 dX8_init_19 (pc' := 20) rfl rfl ?_
  refine j_bipush hC (v := 60) dX8_init_20 (pc' := 22) rfl (by decide) ?_
  refine j_newa hC hA (atype := .int) (ty := .int) (a0 := (60, .inl (fun _ => 0))) (N := 60) wm_45 rfl (fun _ => rfl) (by decide) (by decide) (Nat.le_of_ble_eq_true rfl) (Nat.le_of_ble_eq_true rfl) (Nat.le_of_ble_eq_true rfl) dX8_init_22 (pc' := 24) rfl (fun q3 cq3 hC => ?_)
  refine j_wsE (ws' := [(b, .inr (7, [.ref q1, .ref q2, .int 0, .null, .null, .null, .int 0, .null, .null, .null, .int 0, .null, .null, .null, .null, .null, .null, .long 0, .int 0, .null, .null, .null, .null, .int 0])), (q1, .inl (cq1, 36, .inl (fun _ => 0))), (q2, .inl (cq2, 3, .inl (fun _ => 0))), (q3, .inl (cq3, 60, .inl (fun _ => 0)))]) rfl ?_
  refine j_putF hC hin (ci := 7) (v := .ref q3) (ty := .array .int) tyX8 inA_X8 tyX8_ok nmX8 0 rfl rfl 3 (by decide) wm_567 rfl rfl (by decide +kernel) rfl rfl (Nat.le_of_ble_eq_true rfl) dX8_init_24 (pc' := 27) rfl ?_
  refine j_wsE (ws' := [(b, .inr (7, [.ref q1, .ref q2, .int 0, .ref q3, .null, .null, .int 0, .null, .null, .null, .int 0, .null, .null, .null, .null, .null, .null, .long 0, .int 0, .null, .null, .null, .null, .int 0])), (q1, .inl (cq1, 36, .inl (fun _ => 0))), (q2, .inl (cq2, 3, .inl (fun _ => 0))), (q3, .inl (cq3, 60, .inl (fun _ => 0)))]) rfl ?_
  refine j_aload_n hC 0 dX8_init_27 (pc' := 28) rfl rfl ?_
  refine j_bipush hC (v := 20) dX8_init_28 (pc' := 30) rfl (by decide) ?_
  refine j_newa hC hA (atype := .boolean) (ty := .boolean) (a0 := (20, .inl (fun _ => 0))) (N := 20) wm_63 rfl (fun _ => rfl) (by decide) (by decide) (Nat.le_of_ble_eq_true rfl) (Nat.le_of_ble_eq_true rfl) (Nat.le_of_ble_eq_true rfl) dX8_init_30 (pc' := 32) rfl (fun q4 cq4 hC => ?_)
  refine j_wsE (ws' := [(b, .inr (7, [.ref q1, .ref q2, .int 0, .ref q3, .null, .null, .int 0, .null, .null, .null, .int 0, .null, .null, .null, .null, .null, .null, .long 0, .int 0, .null, .null, .null, .null, .int 0])), (q1, .inl (cq1, 36, .inl (fun _ => 0))), (q2, .inl (cq2, 3, .inl (fun _ => 0))), (q3, .inl (cq3, 60, .inl (fun _ => 0))), (q4, .inl (cq4, 20, .inl (fun _ => 0)))]) rfl ?_
  refine j_putF hC hin (ci := 7) (v := .ref q4) (ty := .array .boolean) tyX8 inA_X8 tyX8_ok nmX8 0 rfl rfl 4 (by decide) wm_568 rfl rfl (by decide +kernel) rfl rfl (Nat.le_of_ble_eq_true rfl) dX8_init_32 (pc' := 35) rfl ?_
  refine j_wsE (ws' := [(b, .inr (7, [.ref q1, .ref q2, .int 0, .ref q3, .ref q4, .null, .int 0, .null, .null, .null, .int 0, .null, .null, .null, .null, .null, .null, .long 0, .int 0, .null, .null, .null, .null, .int 0])), (q1, .inl (cq1, 36, .inl (fun _ => 0))), (q2, .inl (cq2, 3, .inl (fun _ => 0))), (q3, .inl (cq3, 60, .inl (fun _ => 0))), (q4, .inl (cq4, 20, .inl (fun _ => 0)))]) rfl ?_
  refine j_aload_n hC 0 dX8_init_35 (pc' := 36) rfl rfl ?_
  refine j_bipush hC (v := 12) dX8_init_36 (pc' := 38) rfl (by decide) ?_
  refine j_newa hC hA (atype := .int) (ty := .int) (a0 := (12, .inl (fun _ => 0))) (N := 12) wm_45 rfl (fun _ => rfl) (by decide) (by decide) (Nat.le_of_ble_eq_true rfl) (Nat.le_of_ble_eq_true rfl) (Nat.le_of_ble_eq_true rfl) dX8_init_38 (pc' := 40) rfl (fun q5 cq5 hC => ?_)
  refine j_wsE (ws' := [(b, .inr (7, [.ref q1, .ref q2, .int 0, .ref q3, .ref q4, .null, .int 0, .null, .null, .null, .int 0, .null, .null, .null, .null, .null, .null, .long 0, .int 0, .null, .null, .null, .null, .int 0])), (q1, .inl (cq1, 36, .inl (fun _ => 0))), (q2, .inl (cq2, 3, .inl (fun _ => 0))), (q3, .inl (cq3, 60, .inl (fun _ => 0))), (q4, .inl (cq4, 20, .inl (fun _ => 0))), (q5, .inl (cq5, 12, .inl (fun _ => 0)))]) rfl ?_
  refine j_putF hC hin (ci := 7) (v := .ref q5) (ty := .array .int) tyX8 inA_X8 tyX8_ok nmX8 0 rfl rfl 5 (by decide) wm_569 rfl rfl (by decide +kernel) rfl rfl (Nat.le_of_ble_eq_true rfl) dX8_init_40 (pc' := 43) rfl ?_
  refine j_wsE (ws' := [(b, .inr (7, [.ref q1, .ref q2, .int 0, .ref q3, .ref q4, .ref q5, .int 0, .null, .null, .null, .int 0, .null, .null, .null, .null, .null, .null, .long 0, .int 0, .null, .null, .null, .null, .int 0])), (q1, .inl (cq1, 36, .inl (fun _ => 0))), (q2, .inl (cq2, 3, .inl (fun _ => 0))), (q3, .inl (cq3, 60, .inl (fun _ => 0))), (q4, .inl (cq4, 20, .inl (fun _ => 0))), (q5, .inl (cq5, 12, .inl (fun _ => 0)))]) rfl ?_
  refine j_aload_n hC 0 dX8_init_43 (pc' := 44) rfl rfl ?_
  refine j_bipush hC (v := 9) dX8_init_44 (pc' := 46) rfl (by decide) ?_
  refine j_newa hC hA (atype := .long) (ty := .long) (a0 := (9, .inr (.inl (fun _ => 0)))) (N := 9) wm_64 rfl (fun _ => rfl) (by decide) (by decide) (Nat.le_of_ble_eq_true rfl) (Nat.le_of_ble_eq_true rfl) (Nat.le_of_ble_eq_true rfl) dX8_init_46 (pc' := 48) rfl (fun q6 cq6 hC => ?_)
  refine j_wsE (ws' := [(b, .inr (7, [.ref q1, .ref q2, .int 0, .ref q3, .ref q4, .ref q5, .int 0, .null, .null, .null, .int 0, .null, .null, .null, .null, .null, .null, .long 0, .int 0, .null, .null, .null, .null, .int 0])), (q1, .inl (cq1, 36, .inl (fun _ => 0))), (q2, .inl (cq2, 3, .inl (fun _ => 0))), (q3, .inl (cq3, 60, .inl (fun _ => 0))), (q4, .inl (cq4, 20, .inl (fun _ => 0))), (q5, .inl (cq5, 12, .inl (fun _ => 0))), (q6, .inl (cq6, 9, .inr (.inl (fun _ => 0))))]) rfl ?_
  refine j_putF hC hin (ci := 7) (v := .ref q6) (ty := .array .long) tyX8 inA_X8 tyX8_ok nmX8 0 rfl rfl 7 (by decide) wm_571 rfl rfl (by decide +kernel) rfl rfl (Nat.le_of_ble_eq_true rfl) dX8_init_48 (pc' := 51) rfl ?_
  refine j_wsE (ws' := [(b, .inr (7, [.ref q1, .ref q2, .int 0, .ref q3, .ref q4, .ref q5, .int 0, .ref q6, .null, .null, .int 0, .null, .null, .null, .null, .null, .null, .long 0, .int 0, .null, .null, .null, .null, .int 0])), (q1, .inl (cq1, 36, .inl (fun _ => 0))), (q2, .inl (cq2, 3, .inl (fun _ => 0))), (q3, .inl (cq3, 60, .inl (fun _ => 0))), (q4, .inl (cq4, 20, .inl (fun _ => 0))), (q5, .inl (cq5, 12, .inl (fun _ => 0))), (q6, .inl (cq6, 9, .inr (.inl (fun _ => 0))))]) rfl ?_
  refine j_aload_n hC 0 dX8_init_51 (pc' := 52) rfl rfl ?_
  refine j_iconst hC (v := 3) dX8_init_52 (pc' := 53) rfl (by decide) ?_
  refine j_newa hC hA (atype := .long) (ty := .long) (a0 := (3, .inr (.inl (fun _ => 0)))) (N := 3) wm_64 rfl (fun _ => rfl) (by decide) (by decide) (Nat.le_of_ble_eq_true rfl) (Nat.le_of_ble_eq_true rfl) (Nat.le_of_ble_eq_true rfl) dX8_init_53 (pc' := 55) rfl (fun q7 cq7 hC => ?_)
  refine j_wsE (ws' := [(b, .inr (7, [.ref q1, .ref q2, .int 0, .ref q3, .ref q4, .ref q5, .int 0, .ref q6, .null, .null, .int 0, .null, .null, .null, .null, .null, .null, .long 0, .int 0, .null, .null, .null, .null, .int 0])), (q1, .inl (cq1, 36, .inl (fun _ => 0))), (q2, .inl (cq2, 3, .inl (fun _ => 0))), (q3, .inl (cq3, 60, .inl (fun _ => 0))), (q4, .inl (cq4, 20, .inl (fun _ => 0))), (q5, .inl (cq5, 12, .inl (fun _ => 0))), (q6, .inl (cq6, 9, .inr (.inl (fun _ => 0)))), (q7, .inl (cq7, 3, .inr (.inl (fun _ => 0))))]) rfl ?_
  refine j_putF hC hin (ci := 7) (v := .ref q7) (ty := .array .long) tyX8 inA_X8 tyX8_ok nmX8 0 rfl rfl 8 (by decide) wm_572 rfl rfl (by decide +kernel) rfl rfl (Nat.le_of_ble_eq_true rfl) dX8_init_55 (pc' := 58) rfl ?_
  refine j_wsE (ws' := [(b, .inr (7, [.ref q1, .ref q2, .int 0, .ref q3, .ref q4, .ref q5, .int 0, .ref q6, .ref q7, .null, .int 0, .null, .null, .null, .null, .null, .null, .long 0, .int 0, .null, .null, .null, .null, .int 0])), (q1, .inl (cq1, 36, .inl (fun _ => 0))), (q2, .inl (cq2, 3, .inl (fun _ => 0))), (q3, .inl (cq3, 60, .inl (fun _ => 0))), (q4, .inl (cq4, 20, .inl (fun _ => 0))), (q5, .inl (cq5, 12, .inl (fun _ => 0))), (q6, .inl (cq6, 9, .inr (.inl (fun _ => 0)))), (q7, .inl (cq7, 3, .inr (.inl (fun _ => 0))))]) rfl ?_
  refine j_aload_n hC 0 dX8_init_58 (pc' := 59) rfl rfl ?_
  refine j_iconst hC (v := 3) dX8_init_59 (pc' := 60) rfl (by decide) ?_
  refine j_newa hC hA (atype := .long) (ty := .long) (a0 := (3, .inr (.inl (fun _ => 0)))) (N := 3) wm_64 rfl (fun _ => rfl) (by decide) (by decide) (Nat.le_of_ble_eq_true rfl) (Nat.le_of_ble_eq_true rfl) (Nat.le_of_ble_eq_true rfl) dX8_init_60 (pc' := 62) rfl (fun q8 cq8 hC => ?_)
  refine j_wsE (ws' := [(b, .inr (7, [.ref q1, .ref q2, .int 0, .ref q3, .ref q4, .ref q5, .int 0, .ref q6, .ref q7, .null, .int 0, .null, .null, .null, .null, .null, .null, .long 0, .int 0, .null, .null, .null, .null, .int 0])), (q1, .inl (cq1, 36, .inl (fun _ => 0))), (q2, .inl (cq2, 3, .inl (fun _ => 0))), (q3, .inl (cq3, 60, .inl (fun _ => 0))), (q4, .inl (cq4, 20, .inl (fun _ => 0))), (q5, .inl (cq5, 12, .inl (fun _ => 0))), (q6, .inl (cq6, 9, .inr (.inl (fun _ => 0)))), (q7, .inl (cq7, 3, .inr (.inl (fun _ => 0)))), (q8, .inl (cq8, 3, .inr (.inl (fun _ => 0))))]) rfl ?_
  refine j_putF hC hin (ci := 7) (v := .ref q8) (ty := .array .long) tyX8 inA_X8 tyX8_ok nmX8 0 rfl rfl 9 (by decide) wm_573 rfl rfl (by decide +kernel) rfl rfl (Nat.le_of_ble_eq_true rfl) dX8_init_62 (pc' := 65) rfl ?_
  refine j_wsE (ws' := [(b, .inr (7, [.ref q1, .ref q2, .int 0, .ref q3, .ref q4, .ref q5, .int 0, .ref q6, .ref q7, .ref q8, .int 0, .null, .null, .null, .null, .null, .null, .long 0, .int 0, .null, .null, .null, .null, .int 0])), (q1, .inl (cq1, 36, .inl (fun _ => 0))), (q2, .inl (cq2, 3, .inl (fun _ => 0))), (q3, .inl (cq3, 60, .inl (fun _ => 0))), (q4, .inl (cq4, 20, .inl (fun _ => 0))), (q5, .inl (cq5, 12, .inl (fun _ => 0))), (q6, .inl (cq6, 9, .inr (.inl (fun _ => 0)))), (q7, .inl (cq7, 3, .inr (.inl (fun _ => 0)))), (q8, .inl (cq8, 3, .inr (.inl (fun _ => 0))))]) rfl ?_
  refine j_aload_n hC 0 dX8_init_65 (pc' := 66) rfl rfl ?_
  refine j_bipush hC (v := 20) dX8_init_66 (pc' := 68) rfl (by decide) ?_
  refine j_newa hC hA (atype := .int) (ty := .int) (a0 := (20, .inl (fun _ => 0))) (N := 20) wm_45 rfl (fun _ => rfl) (by decide) (by decide) (Nat.le_of_ble_eq_true rfl) (Nat.le_of_ble_eq_true rfl) (Nat.le_of_ble_eq_true rfl) dX8_init_68 (pc' := 70) rfl (fun q9 cq9 hC => ?_)
  refine j_wsE (ws' := [(b, .inr (7, [.ref q1, .ref q2, .int 0, .ref q3, .ref q4, .ref q5, .int 0, .ref q6, .ref q7, .ref q8, .int 0, .null, .null, .null, .null, .null, .null, .long 0, .int 0, .null, .null, .null, .null, .int 0])), (q1, .inl (cq1, 36, .inl (fun _ => 0))), (q2, .inl (cq2, 3, .inl (fun _ => 0))), (q3, .inl (cq3, 60, .inl (fun _ => 0))), (q4, .inl (cq4, 20, .inl (fun _ => 0))), (q5, .inl (cq5, 12, .inl (fun _ => 0))), (q6, .inl (cq6, 9, .inr (.inl (fun _ => 0)))), (q7, .inl (cq7, 3, .inr (.inl (fun _ => 0)))), (q8, .inl (cq8, 3, .inr (.inl (fun _ => 0)))), (q9, .inl (cq9, 20, .inl (fun _ => 0)))]) rfl ?_
  refine j_putF hC hin (ci := 7) (v := .ref q9) (ty := .array .int) tyX8 inA_X8 tyX8_ok nmX8 0 rfl rfl 11 (by decide) wm_575 rfl rfl (by decide +kernel) rfl rfl (Nat.le_of_ble_eq_true rfl) dX8_init_70 (pc' := 73) rfl ?_
  refine j_wsE (ws' := [(b, .inr (7, [.ref q1, .ref q2, .int 0, .ref q3, .ref q4, .ref q5, .int 0, .ref q6, .ref q7, .ref q8, .int 0, .ref q9, .null, .null, .null, .null, .null, .long 0, .int 0, .null, .null, .null, .null, .int 0])), (q1, .inl (cq1, 36, .inl (fun _ => 0))), (q2, .inl (cq2, 3, .inl (fun _ => 0))), (q3, .inl (cq3, 60, .inl (fun _ => 0))), (q4, .inl (cq4, 20, .inl (fun _ => 0))), (q5, .inl (cq5, 12, .inl (fun _ => 0))), (q6, .inl (cq6, 9, .inr (.inl (fun _ => 0)))), (q7, .inl (cq7, 3, .inr (.inl (fun _ => 0)))), (q8, .inl (cq8, 3, .inr (.inl (fun _ => 0)))), (q9, .inl (cq9, 20, .inl (fun _ => 0)))]) rfl ?_
  refine j_aload_n hC 0 dX8_init_73 (pc' := 74) rfl rfl ?_
  refine j_bipush hC (v := 20) dX8_init_74 (pc' := 76) rfl (by decide) ?_
  refine j_newa hC hA (atype := .int) (ty := .int) (a0 := (20, .inl (fun _ => 0))) (N := 20) wm_45 rfl (fun _ => rfl) (by decide) (by decide) (Nat.le_of_ble_eq_true rfl) (Nat.le_of_ble_eq_true rfl) (Nat.le_of_ble_eq_true rfl) dX8_init_76 (pc' := 78) rfl (fun q10 cq10 hC => ?_)
  refine j_wsE (ws' := [(b, .inr (7, [.ref q1, .ref q2, .int 0, .ref q3, .ref q4, .ref q5, .int 0, .ref q6, .ref q7, .ref q8, .int 0, .ref q9, .null, .null, .null, .null, .null, .long 0, .int 0, .null, .null, .null, .null, .int 0])), (q1, .inl (cq1, 36, .inl (fun _ => 0))), (q2, .inl (cq2, 3, .inl (fun _ => 0))), (q3, .inl (cq3, 60, .inl (fun _ => 0))), (q4, .inl (cq4, 20, .inl (fun _ => 0))), (q5, .inl (cq5, 12, .inl (fun _ => 0))), (q6, .inl (cq6, 9, .inr (.inl (fun _ => 0)))), (q7, .inl (cq7, 3, .inr (.inl (fun _ => 0)))), (q8, .inl (cq8, 3, .inr (.inl (fun _ => 0)))), (q9, .inl (cq9, 20, .inl (fun _ => 0))), (q10, .inl (cq10, 20, .inl (fun _ => 0)))]) rfl ?_
  refine j_putF hC hin (ci := 7) (v := .ref q10) (ty := .array .int) tyX8 inA_X8 tyX8_ok nmX8 0 rfl rfl 12 (by decide) wm_576 rfl rfl (by decide +kernel) rfl rfl (Nat.le_of_ble_eq_true rfl) dX8_init_78 (pc' := 81) rfl ?_
  refine j_wsE (ws' := [(b, .inr (7, [.ref q1, .ref q2, .int 0, .ref q3, .ref q4, .ref q5, .int 0, .ref q6, .ref q7, .ref q8, .int 0, .ref q9, .ref q10, .null, .null, .null, .null, .long 0, .int 0, .null, .null, .null, .null, .int 0])), (q1, .inl (cq1, 36, .inl (fun _ => 0))), (q2, .inl (cq2, 3, .inl (fun _ => 0))), (q3, .inl (cq3, 60, .inl (fun _ => 0))), (q4, .inl (cq4, 20, .inl (fun _ => 0))), (q5, .inl (cq5, 12, .inl (fun _ => 0))), (q6, .inl (cq6, 9, .inr (.inl (fun _ => 0)))), (q7, .inl (cq7, 3, .inr (.inl (fun _ => 0)))), (q8, .inl (cq8, 3, .inr (.inl (fun _ => 0)))), (q9, .inl (cq9, 20, .inl (fun _ => 0))), (q10, .inl (cq10, 20, .inl (fun _ => 0)))]) rfl ?_
  refine j_aload_n hC 0 dX8_init_81 (pc' := 82) rfl rfl ?_
  refine j_bipush hC (v := 20) dX8_init_82 (pc' := 84) rfl (by decide) ?_
  refine j_newa hC hA (atype := .int) (ty := .int) (a0 := (20, .inl (fun _ => 0))) (N := 20) wm_45 rfl (fun _ => rfl) (by decide) (by decide) (Nat.le_of_ble_eq_true rfl) (Nat.le_of_ble_eq_true rfl) (Nat.le_of_ble_eq_true rfl) dX8_init_84 (pc' := 86) rfl (fun q11 cq11 hC => ?_)
  refine j_wsE (ws' := [(b, .inr (7, [.ref q1, .ref q2, .int 0, .ref q3, .ref q4, .ref q5, .int 0, .ref q6, .ref q7, .ref q8, .int 0, .ref q9, .ref q10, .null, .null, .null, .null, .long 0, .int 0, .null, .null, .null, .null, .int 0])), (q1, .inl (cq1, 36, .inl (fun _ => 0))), (q2, .inl (cq2, 3, .inl (fun _ => 0))), (q3, .inl (cq3, 60, .inl (fun _ => 0))), (q4, .inl (cq4, 20, .inl (fun _ => 0))), (q5, .inl (cq5, 12, .inl (fun _ => 0))), (q6, .inl (cq6, 9, .inr (.inl (fun _ => 0)))), (q7, .inl (cq7, 3, .inr (.inl (fun _ => 0)))), (q8, .inl (cq8, 3, .inr (.inl (fun _ => 0)))), (q9, .inl (cq9, 20, .inl (fun _ => 0))), (q10, .inl (cq10, 20, .inl (fun _ => 0))), (q11, .inl (cq11, 20, .inl (fun _ => 0)))]) rfl ?_
  refine j_putF hC hin (ci := 7) (v := .ref q11) (ty := .array .int) tyX8 inA_X8 tyX8_ok nmX8 0 rfl rfl 13 (by decide) wm_577 rfl rfl (by decide +kernel) rfl rfl (Nat.le_of_ble_eq_true rfl) dX8_init_86 (pc' := 89) rfl ?_
  refine j_wsE (ws' := [(b, .inr (7, [.ref q1, .ref q2, .int 0, .ref q3, .ref q4, .ref q5, .int 0, .ref q6, .ref q7, .ref q8, .int 0, .ref q9, .ref q10, .ref q11, .null, .null, .null, .long 0, .int 0, .null, .null, .null, .null, .int 0])), (q1, .inl (cq1, 36, .inl (fun _ => 0))), (q2, .inl (cq2, 3, .inl (fun _ => 0))), (q3, .inl (cq3, 60, .inl (fun _ => 0))), (q4, .inl (cq4, 20, .inl (fun _ => 0))), (q5, .inl (cq5, 12, .inl (fun _ => 0))), (q6, .inl (cq6, 9, .inr (.inl (fun _ => 0)))), (q7, .inl (cq7, 3, .inr (.inl (fun _ => 0)))), (q8, .inl (cq8, 3, .inr (.inl (fun _ => 0)))), (q9, .inl (cq9, 20, .inl (fun _ => 0))), (q10, .inl (cq10, 20, .inl (fun _ => 0))), (q11, .inl (cq11, 20, .inl (fun _ => 0)))]) rfl ?_
  refine j_aload_n hC 0 dX8_init_89 (pc' := 90) rfl rfl ?_
  refine j_bipush hC (v := 20) dX8_init_90 (pc' := 92) rfl (by decide) ?_
  refine j_newa hC hA (atype := .int) (ty := .int) (a0 := (20, .inl (fun _ => 0))) (N := 20) wm_45 rfl (fun _ => rfl) (by decide) (by decide) (Nat.le_of_ble_eq_true rfl) (Nat.le_of_ble_eq_true rfl) (Nat.le_of_ble_eq_true rfl) dX8_init_92 (pc' := 94) rfl (fun q12 cq12 hC => ?_)
  refine j_wsE (ws' := [(b, .inr (7, [.ref q1, .ref q2, .int 0, .ref q3, .ref q4, .ref q5, .int 0, .ref q6, .ref q7, .ref q8, .int 0, .ref q9, .ref q10, .ref q11, .null, .null, .null, .long 0, .int 0, .null, .null, .null, .null, .int 0])), (q1, .inl (cq1, 36, .inl (fun _ => 0))), (q2, .inl (cq2, 3, .inl (fun _ => 0))), (q3, .inl (cq3, 60, .inl (fun _ => 0))), (q4, .inl (cq4, 20, .inl (fun _ => 0))), (q5, .inl (cq5, 12, .inl (fun _ => 0))), (q6, .inl (cq6, 9, .inr (.inl (fun _ => 0)))), (q7, .inl (cq7, 3, .inr (.inl (fun _ => 0)))), (q8, .inl (cq8, 3, .inr (.inl (fun _ => 0)))), (q9, .inl (cq9, 20, .inl (fun _ => 0))), (q10, .inl (cq10, 20, .inl (fun _ => 0))), (q11, .inl (cq11, 20, .inl (fun _ => 0))), (q12, .inl (cq12, 20, .inl (fun _ => 0)))]) rfl ?_
  refine j_putF hC hin (ci := 7) (v := .ref q12) (ty := .array .int) tyX8 inA_X8 tyX8_ok nmX8 0 rfl rfl 14 (by decide) wm_578 rfl rfl (by decide +kernel) rfl rfl (Nat.le_of_ble_eq_true rfl) dX8_init_94 (pc' := 97) rfl ?_
  refine j_wsE (ws' := [(b, .inr (7, [.ref q1, .ref q2, .int 0, .ref q3, .ref q4, .ref q5, .int 0, .ref q6, .ref q7, .ref q8, .int 0, .ref q9, .ref q10, .ref q11, .ref q12, .null, .null, .long 0, .int 0, .null, .null, .null, .null, .int 0])), (q1, .inl (cq1, 36, .inl (fun _ => 0))), (q2, .inl (cq2, 3, .inl (fun _ => 0))), (q3, .inl (cq3, 60, .inl (fun _ => 0))), (q4, .inl (cq4, 20, .inl (fun _ => 0))), (q5, .inl (cq5, 12, .inl (fun _ => 0))), (q6, .inl (cq6, 9, .inr (.inl (fun _ => 0)))), (q7, .inl (cq7, 3, .inr (.inl (fun _ => 0)))), (q8, .inl (cq8, 3, .inr (.inl (fun _ => 0)))), (q9, .inl (cq9, 20, .inl (fun _ => 0))), (q10, .inl (cq10, 20, .inl (fun _ => 0))), (q11, .inl (cq11, 20, .inl (fun _ => 0))), (q12, .inl (cq12, 20, .inl (fun _ => 0)))]) rfl ?_
  refine j_aload_n hC 0 dX8_init_97 (pc' := 98) rfl rfl ?_
  refine j_iconst hC (v := 3) dX8_init_98 (pc' := 99) rfl (by decide) ?_
  refine j_newa hC hA (atype := .int) (ty := .int) (a0 := (3, .inl (fun _ => 0))) (N := 3) wm_45 rfl (fun _ => rfl) (by decide) (by decide) (Nat.le_of_ble_eq_true rfl) (Nat.le_of_ble_eq_true rfl) (Nat.le_of_ble_eq_true rfl) dX8_init_99 (pc' := 101) rfl (fun q13 cq13 hC => ?_)
  refine j_wsE (ws' := [(b, .inr (7, [.ref q1, .ref q2, .int 0, .ref q3, .ref q4, .ref q5, .int 0, .ref q6, .ref q7, .ref q8, .int 0, .ref q9, .ref q10, .ref q11, .ref q12, .null, .null, .long 0, .int 0, .null, .null, .null, .null, .int 0])), (q1, .inl (cq1, 36, .inl (fun _ => 0))), (q2, .inl (cq2, 3, .inl (fun _ => 0))), (q3, .inl (cq3, 60, .inl (fun _ => 0))), (q4, .inl (cq4, 20, .inl (fun _ => 0))), (q5, .inl (cq5, 12, .inl (fun _ => 0))), (q6, .inl (cq6, 9, .inr (.inl (fun _ => 0)))), (q7, .inl (cq7, 3, .inr (.inl (fun _ => 0)))), (q8, .inl (cq8, 3, .inr (.inl (fun _ => 0)))), (q9, .inl (cq9, 20, .inl (fun _ => 0))), (q10, .inl (cq10, 20, .inl (fun _ => 0))), (q11, .inl (cq11, 20, .inl (fun _ => 0))), (q12, .inl (cq12, 20, .inl (fun _ => 0))), (q13, .inl (cq13, 3, .inl (fun _ => 0)))]) rfl ?_
  refine j_putF hC hin (ci := 7) (v := .ref q13) (ty := .array .int) tyX8 inA_X8 tyX8_ok nmX8 0 rfl rfl 15 (by decide) wm_579 rfl rfl (by decide +kernel) rfl rfl (Nat.le_of_ble_eq_true rfl) dX8_init_101 (pc' := 104) rfl ?_
  refine j_wsE (ws' := [(b, .inr (7, [.ref q1, .ref q2, .int 0, .ref q3, .ref q4, .ref q5, .int 0, .ref q6, .ref q7, .ref q8, .int 0, .ref q9, .ref q10, .ref q11, .ref q12, .ref q13, .null, .long 0, .int 0, .null, .null, .null, .null, .int 0])), (q1, .inl (cq1, 36, .inl (fun _ => 0))), (q2, .inl (cq2, 3, .inl (fun _ => 0))), (q3, .inl (cq3, 60, .inl (fun _ => 0))), (q4, .inl (cq4, 20, .inl (fun _ => 0))), (q5, .inl (cq5, 12, .inl (fun _ => 0))), (q6, .inl (cq6, 9, .inr (.inl (fun _ => 0)))), (q7, .inl (cq7, 3, .inr (.inl (fun _ => 0)))), (q8, .inl (cq8, 3, .inr (.inl (fun _ => 0)))), (q9, .inl (cq9, 20, .inl (fun _ => 0))), (q10, .inl (cq10, 20, .inl (fun _ => 0))), (q11, .inl (cq11, 20, .inl (fun _ => 0))), (q12, .inl (cq12, 20, .inl (fun _ => 0))), (q13, .inl (cq13, 3, .inl (fun _ => 0)))]) rfl ?_
  refine j_aload_n hC 0 dX8_init_104 (pc' := 105) rfl rfl ?_
  refine j_iconst hC (v := 3) dX8_init_105 (pc' := 106) rfl (by decide) ?_
  refine j_newa hC hA (atype := .int) (ty := .int) (a0 := (3, .inl (fun _ => 0))) (N := 3) wm_45 rfl (fun _ => rfl) (by decide) (by decide) (Nat.le_of_ble_eq_true rfl) (Nat.le_of_ble_eq_true rfl) (Nat.le_of_ble_eq_true rfl) dX8_init_106 (pc' := 108) rfl (fun q14 cq14 hC => ?_)
  refine j_wsE (ws' := [(b, .inr (7, [.ref q1, .ref q2, .int 0, .ref q3, .ref q4, .ref q5, .int 0, .ref q6, .ref q7, .ref q8, .int 0, .ref q9, .ref q10, .ref q11, .ref q12, .ref q13, .null, .long 0, .int 0, .null, .null, .null, .null, .int 0])), (q1, .inl (cq1, 36, .inl (fun _ => 0))), (q2, .inl (cq2, 3, .inl (fun _ => 0))), (q3, .inl (cq3, 60, .inl (fun _ => 0))), (q4, .inl (cq4, 20, .inl (fun _ => 0))), (q5, .inl (cq5, 12, .inl (fun _ => 0))), (q6, .inl (cq6, 9, .inr (.inl (fun _ => 0)))), (q7, .inl (cq7, 3, .inr (.inl (fun _ => 0)))), (q8, .inl (cq8, 3, .inr (.inl (fun _ => 0)))), (q9, .inl (cq9, 20, .inl (fun _ => 0))), (q10, .inl (cq10, 20, .inl (fun _ => 0))), (q11, .inl (cq11, 20, .inl (fun _ => 0))), (q12, .inl (cq12, 20, .inl (fun _ => 0))), (q13, .inl (cq13, 3, .inl (fun _ => 0))), (q14, .inl (cq14, 3, .inl (fun _ => 0)))]) rfl ?_
  refine j_putF hC hin (ci := 7) (v := .ref q14) (ty := .array .int) tyX8 inA_X8 tyX8_ok nmX8 0 rfl rfl 16 (by decide) wm_580 rfl rfl (by decide +kernel) rfl rfl (Nat.le_of_ble_eq_true rfl) dX8_init_108 (pc' := 111) rfl ?_
  refine j_wsE (ws' := [(b, .inr (7, [.ref q1, .ref q2, .int 0, .ref q3, .ref q4, .ref q5, .int 0, .ref q6, .ref q7, .ref q8, .int 0, .ref q9, .ref q10, .ref q11, .ref q12, .ref q13, .ref q14, .long 0, .int 0, .null, .null, .null, .null, .int 0])), (q1, .inl (cq1, 36, .inl (fun _ => 0))), (q2, .inl (cq2, 3, .inl (fun _ => 0))), (q3, .inl (cq3, 60, .inl (fun _ => 0))), (q4, .inl (cq4, 20, .inl (fun _ => 0))), (q5, .inl (cq5, 12, .inl (fun _ => 0))), (q6, .inl (cq6, 9, .inr (.inl (fun _ => 0)))), (q7, .inl (cq7, 3, .inr (.inl (fun _ => 0)))), (q8, .inl (cq8, 3, .inr (.inl (fun _ => 0)))), (q9, .inl (cq9, 20, .inl (fun _ => 0))), (q10, .inl (cq10, 20, .inl (fun _ => 0))), (q11, .inl (cq11, 20, .inl (fun _ => 0))), (q12, .inl (cq12, 20, .inl (fun _ => 0))), (q13, .inl (cq13, 3, .inl (fun _ => 0))), (q14, .inl (cq14, 3, .inl (fun _ => 0)))]) rfl ?_
  refine j_aload_n hC 0 dX8_init_111 (pc' := 112) rfl rfl ?_
  refine j_iconst hC (v := 4) dX8_init_112 (pc' := 113) rfl (by decide) ?_
  refine j_newa hC hA (atype := .int) (ty := .int) (a0 := (4, .inl (fun _ => 0))) (N := 4) wm_45 rfl (fun _ => rfl) (by decide) (by decide) (Nat.le_of_ble_eq_true rfl) (Nat.le_of_ble_eq_true rfl) (Nat.le_of_ble_eq_true rfl) dX8_init_113 (pc' := 115) rfl (fun q15 cq15 hC => ?_)
  refine j_wsE (ws' := [(b, .inr (7, [.ref q1, .ref q2, .int 0, .ref q3, .ref q4, .ref q5, .int 0, .ref q6, .ref q7, .ref q8, .int 0, .ref q9, .ref q10, .ref q11, .ref q12, .ref q13, .ref q14, .long 0, .int 0, .null, .null, .null, .null, .int 0])), (q1, .inl (cq1, 36, .inl (fun _ => 0))), (q2, .inl (cq2, 3, .inl (fun _ => 0))), (q3, .inl (cq3, 60, .inl (fun _ => 0))), (q4, .inl (cq4, 20, .inl (fun _ => 0))), (q5, .inl (cq5, 12, .inl (fun _ => 0))), (q6, .inl (cq6, 9, .inr (.inl (fun _ => 0)))), (q7, .inl (cq7, 3, .inr (.inl (fun _ => 0)))), (q8, .inl (cq8, 3, .inr (.inl (fun _ => 0)))), (q9, .inl (cq9, 20, .inl (fun _ => 0))), (q10, .inl (cq10, 20, .inl (fun _ => 0))), (q11, .inl (cq11, 20, .inl (fun _ => 0))), (q12, .inl (cq12, 20, .inl (fun _ => 0))), (q13, .inl (cq13, 3, .inl (fun _ => 0))), (q14, .inl (cq14, 3, .inl (fun _ => 0))), (q15, .inl (cq15, 4, .inl (fun _ => 0)))]) rfl ?_
  refine j_putF hC hin (ci := 7) (v := .ref q15) (ty := .array .int) tyX8 inA_X8 tyX8_ok nmX8 0 rfl rfl 19 (by decide) wm_583 rfl rfl (by decide +kernel) rfl rfl (Nat.le_of_ble_eq_true rfl) dX8_init_115 (pc' := 118) rfl ?_
  refine j_wsE (ws' := [(b, .inr (7, [.ref q1, .ref q2, .int 0, .ref q3, .ref q4, .ref q5, .int 0, .ref q6, .ref q7, .ref q8, .int 0, .ref q9, .ref q10, .ref q11, .ref q12, .ref q13, .ref q14, .long 0, .int 0, .ref q15, .null, .null, .null, .int 0])), (q1, .inl (cq1, 36, .inl (fun _ => 0))), (q2, .inl (cq2, 3, .inl (fun _ => 0))), (q3, .inl (cq3, 60, .inl (fun _ => 0))), (q4, .inl (cq4, 20, .inl (fun _ => 0))), (q5, .inl (cq5, 12, .inl (fun _ => 0))), (q6, .inl (cq6, 9, .inr (.inl (fun _ => 0)))), (q7, .inl (cq7, 3, .inr (.inl (fun _ => 0)))), (q8, .inl (cq8, 3, .inr (.inl (fun _ => 0)))), (q9, .inl (cq9, 20, .inl (fun _ => 0))), (q10, .inl (cq10, 20, .inl (fun _ => 0))), (q11, .inl (cq11, 20, .inl (fun _ => 0))), (q12, .inl (cq12, 20, .inl (fun _ => 0))), (q13, .inl (cq13, 3, .inl (fun _ => 0))), (q14, .inl (cq14, 3, .inl (fun _ => 0))), (q15, .inl (cq15, 4, .inl (fun _ => 0)))]) rfl ?_
  refine j_aload_n hC 0 dX8_init_118 (pc' := 119) rfl rfl ?_
  refine j_iconst hC (v := 4) dX8_init_119 (pc' := 120) rfl (by decide) ?_
  refine j_newa hC hA (atype := .int) (ty := .int) (a0 := (4, .inl (fun _ => 0))) (N := 4) wm_45 rfl (fun _ => rfl) (by decide) (by decide) (Nat.le_of_ble_eq_true rfl) (Nat.le_of_ble_eq_true rfl) (Nat.le_of_ble_eq_true rfl) dX8_init_120 (pc' := 122) rfl (fun q16 cq16 hC => ?_)
  refine j_wsE (ws' := [(b, .inr (7, [.ref q1, .ref q2, .int 0, .ref q3, .ref q4, .ref q5, .int 0, .ref q6, .ref q7, .ref q8, .int 0, .ref q9, .ref q10, .ref q11, .ref q12, .ref q13, .ref q14, .long 0, .int 0, .ref q15, .null, .null, .null, .int 0])), (q1, .inl (cq1, 36, .inl (fun _ => 0))), (q2, .inl (cq2, 3, .inl (fun _ => 0))), (q3, .inl (cq3, 60, .inl (fun _ => 0))), (q4, .inl (cq4, 20, .inl (fun _ => 0))), (q5, .inl (cq5, 12, .inl (fun _ => 0))), (q6, .inl (cq6, 9, .inr (.inl (fun _ => 0)))), (q7, .inl (cq7, 3, .inr (.inl (fun _ => 0)))), (q8, .inl (cq8, 3, .inr (.inl (fun _ => 0)))), (q9, .inl (cq9, 20, .inl (fun _ => 0))), (q10, .inl (cq10, 20, .inl (fun _ => 0))), (q11, .inl (cq11, 20, .inl (fun _ => 0))), (q12, .inl (cq12, 20, .inl (fun _ => 0))), (q13, .inl (cq13, 3, .inl (fun _ => 0))), (q14, .inl (cq14, 3, .inl (fun _ => 0))), (q15, .inl (cq15, 4, .inl (fun _ => 0))), (q16, .inl (cq16, 4, .inl (fun _ => 0)))]) rfl ?_
  refine j_putF hC hin (ci := 7) (v := .ref q16) (ty := .array .int) tyX8 inA_X8 tyX8_ok nmX8 0 rfl rfl 20 (by decide) wm_584 rfl rfl (by decide +kernel) rfl rfl (Nat.le_of_ble_eq_true rfl) dX8_init_122 (pc' := 125) rfl ?_
  refine j_wsE (ws' := [(b, .inr (7, [.ref q1, .ref q2, .int 0, .ref q3, .ref q4, .ref q5, .int 0, .ref q6, .ref q7, .ref q8, .int 0, .ref q9, .ref q10, .ref q11, .ref q12, .ref q13, .ref q14, .long 0, .int 0, .ref q15, .ref q16, .null, .null, .int 0])), (q1, .inl (cq1, 36, .inl (fun _ => 0))), (q2, .inl (cq2, 3, .inl (fun _ => 0))), (q3, .inl (cq3, 60, .inl (fun _ => 0))), (q4, .inl (cq4, 20, .inl (fun _ => 0))), (q5, .inl (cq5, 12, .inl (fun _ => 0))), (q6, .inl (cq6, 9, .inr (.inl (fun _ => 0)))), (q7, .inl (cq7, 3, .inr (.inl (fun _ => 0)))), (q8, .inl (cq8, 3, .inr (.inl (fun _ => 0)))), (q9, .inl (cq9, 20, .inl (fun _ => 0))), (q10, .inl (cq10, 20, .inl (fun _ => 0))), (q11, .inl (cq11, 20, .inl (fun _ => 0))), (q12, .inl (cq12, 20, .inl (fun _ => 0))), (q13, .inl (cq13, 3, .inl (fun _ => 0))), (q14, .inl (cq14, 3, .inl (fun _ => 0))), (q15, .inl (cq15, 4, .inl (fun _ => 0))), (q16, .inl (cq16, 4, .inl (fun _ => 0)))]) rfl ?_
  refine j_aload_n hC 0 dX8_init_125 (pc' := 126) rfl rfl ?_
  refine j_sipush hC (v := 400) dX8_init_126 (pc' := 129) rfl (by decide) ?_
  refine j_newa hC hA (atype := .int) (ty := .int) (a0 := (400, .inl (fun _ => 0))) (N := 400) wm_45 rfl (fun _ => rfl) (by decide) (by decide) (Nat.le_of_ble_eq_true rfl) (Nat.le_of_ble_eq_true rfl) (Nat.le_of_ble_eq_true rfl) dX8_init_129 (pc' := 131) rfl (fun q17 cq17 hC => ?_)
  refine j_wsE (ws' := [(b, .inr (7, [.ref q1, .ref q2, .int 0, .ref q3, .ref q4, .ref q5, .int 0, .ref q6, .ref q7, .ref q8, .int 0, .ref q9, .ref q10, .ref q11, .ref q12, .ref q13, .ref q14, .long 0, .int 0, .ref q15, .ref q16, .null, .null, .int 0])), (q1, .inl (cq1, 36, .inl (fun _ => 0))), (q2, .inl (cq2, 3, .inl (fun _ => 0))), (q3, .inl (cq3, 60, .inl (fun _ => 0))), (q4, .inl (cq4, 20, .inl (fun _ => 0))), (q5, .inl (cq5, 12, .inl (fun _ => 0))), (q6, .inl (cq6, 9, .inr (.inl (fun _ => 0)))), (q7, .inl (cq7, 3, .inr (.inl (fun _ => 0)))), (q8, .inl (cq8, 3, .inr (.inl (fun _ => 0)))), (q9, .inl (cq9, 20, .inl (fun _ => 0))), (q10, .inl (cq10, 20, .inl (fun _ => 0))), (q11, .inl (cq11, 20, .inl (fun _ => 0))), (q12, .inl (cq12, 20, .inl (fun _ => 0))), (q13, .inl (cq13, 3, .inl (fun _ => 0))), (q14, .inl (cq14, 3, .inl (fun _ => 0))), (q15, .inl (cq15, 4, .inl (fun _ => 0))), (q16, .inl (cq16, 4, .inl (fun _ => 0))), (q17, .inl (cq17, 400, .inl (fun _ => 0)))]) rfl ?_
  refine j_putF hC hin (ci := 7) (v := .ref q17) (ty := .array .int) tyX8 inA_X8 tyX8_ok nmX8 0 rfl rfl 21 (by decide) wm_585 rfl rfl (by decide +kernel) rfl rfl (Nat.le_of_ble_eq_true rfl) dX8_init_131 (pc' := 134) rfl ?_
  refine j_wsE (ws' := [(b, .inr (7, [.ref q1, .ref q2, .int 0, .ref q3, .ref q4, .ref q5, .int 0, .ref q6, .ref q7, .ref q8, .int 0, .ref q9, .ref q10, .ref q11, .ref q12, .ref q13, .ref q14, .long 0, .int 0, .ref q15, .ref q16, .ref q17, .null, .int 0])), (q1, .inl (cq1, 36, .inl (fun _ => 0))), (q2, .inl (cq2, 3, .inl (fun _ => 0))), (q3, .inl (cq3, 60, .inl (fun _ => 0))), (q4, .inl (cq4, 20, .inl (fun _ => 0))), (q5, .inl (cq5, 12, .inl (fun _ => 0))), (q6, .inl (cq6, 9, .inr (.inl (fun _ => 0)))), (q7, .inl (cq7, 3, .inr (.inl (fun _ => 0)))), (q8, .inl (cq8, 3, .inr (.inl (fun _ => 0)))), (q9, .inl (cq9, 20, .inl (fun _ => 0))), (q10, .inl (cq10, 20, .inl (fun _ => 0))), (q11, .inl (cq11, 20, .inl (fun _ => 0))), (q12, .inl (cq12, 20, .inl (fun _ => 0))), (q13, .inl (cq13, 3, .inl (fun _ => 0))), (q14, .inl (cq14, 3, .inl (fun _ => 0))), (q15, .inl (cq15, 4, .inl (fun _ => 0))), (q16, .inl (cq16, 4, .inl (fun _ => 0))), (q17, .inl (cq17, 400, .inl (fun _ => 0)))]) rfl ?_
  refine j_aload_n hC 0 dX8_init_134 (pc' := 135) rfl rfl ?_
  refine j_bipush hC (v := 100) dX8_init_135 (pc' := 137) rfl (by decide) ?_
  refine j_newa hC hA (atype := .int) (ty := .int) (a0 := (100, .inl (fun _ => 0))) (N := 100) wm_45 rfl (fun _ => rfl) (by decide) (by decide) (Nat.le_of_ble_eq_true rfl) (Nat.le_of_ble_eq_true rfl) (Nat.le_of_ble_eq_true rfl) dX8_init_137 (pc' := 139) rfl (fun q18 cq18 hC => ?_)
  refine j_wsE (ws' := [(b, .inr (7, [.ref q1, .ref q2, .int 0, .ref q3, .ref q4, .ref q5, .int 0, .ref q6, .ref q7, .ref q8, .int 0, .ref q9, .ref q10, .ref q11, .ref q12, .ref q13, .ref q14, .long 0, .int 0, .ref q15, .ref q16, .ref q17, .null, .int 0])), (q1, .inl (cq1, 36, .inl (fun _ => 0))), (q2, .inl (cq2, 3, .inl (fun _ => 0))), (q3, .inl (cq3, 60, .inl (fun _ => 0))), (q4, .inl (cq4, 20, .inl (fun _ => 0))), (q5, .inl (cq5, 12, .inl (fun _ => 0))), (q6, .inl (cq6, 9, .inr (.inl (fun _ => 0)))), (q7, .inl (cq7, 3, .inr (.inl (fun _ => 0)))), (q8, .inl (cq8, 3, .inr (.inl (fun _ => 0)))), (q9, .inl (cq9, 20, .inl (fun _ => 0))), (q10, .inl (cq10, 20, .inl (fun _ => 0))), (q11, .inl (cq11, 20, .inl (fun _ => 0))), (q12, .inl (cq12, 20, .inl (fun _ => 0))), (q13, .inl (cq13, 3, .inl (fun _ => 0))), (q14, .inl (cq14, 3, .inl (fun _ => 0))), (q15, .inl (cq15, 4, .inl (fun _ => 0))), (q16, .inl (cq16, 4, .inl (fun _ => 0))), (q17, .inl (cq17, 400, .inl (fun _ => 0))), (q18, .inl (cq18, 100, .inl (fun _ => 0)))]) rfl ?_
  refine j_putF hC hin (ci := 7) (v := .ref q18) (ty := .array .int) tyX8 inA_X8 tyX8_ok nmX8 0 rfl rfl 22 (by decide) wm_586 rfl rfl (by decide +kernel) rfl rfl (Nat.le_of_ble_eq_true rfl) dX8_init_139 (pc' := 142) rfl ?_
  refine j_wsE (ws' := [(b, .inr (7, [.ref q1, .ref q2, .int 0, .ref q3, .ref q4, .ref q5, .int 0, .ref q6, .ref q7, .ref q8, .int 0, .ref q9, .ref q10, .ref q11, .ref q12, .ref q13, .ref q14, .long 0, .int 0, .ref q15, .ref q16, .ref q17, .ref q18, .int 0])), (q1, .inl (cq1, 36, .inl (fun _ => 0))), (q2, .inl (cq2, 3, .inl (fun _ => 0))), (q3, .inl (cq3, 60, .inl (fun _ => 0))), (q4, .inl (cq4, 20, .inl (fun _ => 0))), (q5, .inl (cq5, 12, .inl (fun _ => 0))), (q6, .inl (cq6, 9, .inr (.inl (fun _ => 0)))), (q7, .inl (cq7, 3, .inr (.inl (fun _ => 0)))), (q8, .inl (cq8, 3, .inr (.inl (fun _ => 0)))), (q9, .inl (cq9, 20, .inl (fun _ => 0))), (q10, .inl (cq10, 20, .inl (fun _ => 0))), (q11, .inl (cq11, 20, .inl (fun _ => 0))), (q12, .inl (cq12, 20, .inl (fun _ => 0))), (q13, .inl (cq13, 3, .inl (fun _ => 0))), (q14, .inl (cq14, 3, .inl (fun _ => 0))), (q15, .inl (cq15, 4, .inl (fun _ => 0))), (q16, .inl (cq16, 4, .inl (fun _ => 0))), (q17, .inl (cq17, 400, .inl (fun _ => 0))), (q18, .inl (cq18, 100, .inl (fun _ => 0)))]) rfl ?_
  obtain ⟨q, ca, hb, hw, hty⟩ : ∃ (q : Nat → Nat) (ca : Nat → ClassId), q 0 = b ∧ ([(b, .inr (7, [.ref q1, .ref q2, .int 0, .ref q3, .ref q4, .ref q5, .int 0, .ref q6, .ref q7, .ref q8, .int 0, .ref q9, .ref q10, .ref q11, .ref q12, .ref q13, .ref q14, .long 0, .int 0, .ref q15, .ref q16, .ref q17, .ref q18, .int 0])), (q1, .inl (cq1, 36, .inl (fun _ => 0))), (q2, .inl (cq2, 3, .inl (fun _ => 0))), (q3, .inl (cq3, 60, .inl (fun _ => 0))), (q4, .inl (cq4, 20, .inl (fun _ => 0))), (q5, .inl (cq5, 12, .inl (fun _ => 0))), (q6, .inl (cq6, 9, .inr (.inl (fun _ => 0)))), (q7, .inl (cq7, 3, .inr (.inl (fun _ => 0)))), (q8, .inl (cq8, 3, .inr (.inl (fun _ => 0)))), (q9, .inl (cq9, 20, .inl (fun _ => 0))), (q10, .inl (cq10, 20, .inl (fun _ => 0))), (q11, .inl (cq11, 20, .inl (fun _ => 0))), (q12, .inl (cq12, 20, .inl (fun _ => 0))), (q13, .inl (cq13, 3, .inl (fun _ => 0))), (q14, .inl (cq14, 3, .inl (fun _ => 0))), (q15, .inl (cq15, 4, .inl (fun _ => 0))), (q16, .inl (cq16, 4, .inl (fun _ => 0))), (q17, .inl (cq17, 400, .inl (fun _ => 0))), (q18, .inl (cq18, 100, .inl (fun _ => 0)))] : va_W) = wM q ca zSt ∧ ([(cq1, .int), (cq2, .int), (cq3, .int), (cq4, .boolean), (cq5, .int), (cq6, .long), (cq7, .long), (cq8, .long), (cq9, .int), (cq10, .int), (cq11, .int), (cq12, .int), (cq13, .int), (cq14, .int), (cq15, .int), (cq16, .int), (cq17, .int), (cq18, .int)] : List (ClassId × FieldType)) = tysM ca := ⟨(fun k => ([b, q1, q2, q3, q4, q5, q6, q7, q8, q9, q10, q11, q12, q13, q14, q15, q16, q17, q18] : List Nat).getD k 0), (fun k => ([cq1, cq1, cq2, cq3, cq4, cq5, cq6, cq7, cq8, cq9, cq10, cq11, cq12, cq13, cq14, cq15, cq16, cq17, cq18] : List ClassId).getD k (D.1 0)), rfl, rfl, rfl⟩
  refine j_wsE hw ?_
  have hC : Cx p s m args meth c cX8_init 2 RX8 none D ([(cq1, .int), (cq2, .int), (cq3, .int), (cq4, .boolean), (cq5, .int), (cq6, .long), (cq7, .long), (cq8, .long), (cq9, .int), (cq10, .int), (cq11, .int), (cq12, .int), (cq13, .int), (cq14, .int), (cq15, .int), (cq16, .int), (cq17, .int), (cq18, .int)]) (fun U _ => ex U) := hC
  rw [hty] at hC
  clear hw hty
  subst hb
  refine lt_X8_init (Q := Q) (ca := ca) hC (fun τ hτ => ?_) zSt hf
  exact j_vretC hC (q, ca, τ) rfl [0, 1, 2, 3, 4, 5, 6, 7, 8, 9, 10, 11, 12, 13, 14, 15, 16, 17] rfl ⟨rfl, hτ⟩ dX8_init_366
