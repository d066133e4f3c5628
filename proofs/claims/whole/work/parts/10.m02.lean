def f_J7_fill_53178_b5 (k : Nat) (Q : St → Prop) : Nat → Int32 → Int32 → Int32 → St → Prop
  | 0, _, _, _, _ => False
  | n + 1, a1, a2, a3, σ => (a3 ≤ a2 → Q σ) ∧ ((¬ a3 ≤ a2) → vp_in a2 100 ∧ ∀ σ2 : St, σ2 = sI σ (20 + k) (Int32.toNatClampNeg a2) a1 → ∀ x3 : Int32, x3 = a2 + (1 : Int32) → f_J7_fill_53178_b5 k Q  n a1 x3 a3 σ2)
def f_J7_fill_53178 (k : Nat) (a1 : Int32) (σ : St) (Q : St → Prop) : Prop := ∃ n4 : Nat, f_J7_fill_53178_b5 k Q n4 a1 (0 : Int32) (100 : Int32) σ
theorem dy_J7_fill_53178 : yJ7_fill_53178.cls ≠ "java/lang/invoke/MethodHandle" ∧ yJ7_fill_53178.cls ≠ "java/lang/invoke/VarHandle" ∧ (parseMethodDescriptor yJ7_fill_53178.desc).map (fun d => d.parameters.length) = some 2 := by decide +kernel
set_option maxHeartbeats 4000000 in
set_option maxRecDepth 100000 in
theorem lb_J7_fill_53178_b5 {l : Launch} {D : va_G} {q : Nat → Nat} {ca : Nat → ClassId} {t : Nat} {p : Program} {e : Env} {s : State} {m : MethodId} {args : Array Value} {below : List Frame} {meth : Method} {c : Code} (hE : qok 28 q) (hC : Cx p s m args meth c cJ7_fill_53178 4 RJ7 none D (tysX ca) (ZX q t)) (k : Nat) (hk4 : k < 4) (Q : St → Prop) : ∀ (n : Nat) (a1 : Int32) (a2 : Int32) (a3 : Int32) (σ : St), f_J7_fill_53178_b5 k Q n a1 a2 a3 σ → J p l e { frames := 0, cells := 0, slots := 0, locals := 0 } s m args below meth c (MQ below (va_Qv Q (BW D (wX q ca)) (AX q)) args s 0 0 (AX q)) D (AX q) 4 0 0 (wX q ca σ) 5 [(0, .ref (q (24 + k))), (1, .int a1), (2, .int a2), (3, .int a3)] [] := by
  intro n
  induction n with
  | zero => intro a1 a2 a3 σ hf; exact hf.elim
  | succ n ih =>
    intro a1 a2 a3 σ hf
    unfold f_J7_fill_53178_b5 at hf
    refine j_iload_n hC 2 dJ7_fill_53178_5 (pc' := 6) rfl rfl ?_
    refine j_iload_n hC 3 dJ7_fill_53178_6 (pc' := 7) rfl rfl ?_
    refine j_icmp_ge hC (tgt := 20) dJ7_fill_53178_7 (pc' := 10) rfl (by decide) (fun c_ => ?_) (fun c_ => ?_)
    · replace hf := hf.1 c_
      exact j_vret hC dJ7_fill_53178_20 hf
    · replace hf := hf.2 c_
      refine j_aload_n hC 0 dJ7_fill_53178_10 (pc' := 11) rfl rfl ?_
      refine j_iload_n hC 2 dJ7_fill_53178_11 (pc' := 12) rfl rfl ?_
      refine j_iload_n hC 1 dJ7_fill_53178_12 (pc' := 13) rfl rfl ?_
      obtain ⟨h1, hf⟩ := hf
      refine sX_itemsA hC hk4 (j := (Int32.toNatClampNeg a2)) h1 rfl dJ7_fill_53178_13 (pc' := 14) rfl ?_
      refine j_nms (wf := wX q ca) (fun σ2 eσ2 => ?_)
      replace hf := hf σ2 eσ2
      obtain ⟨x3, ex3⟩ : ∃ y : Int32, y = a2 + (1 : Int32) := ⟨_, rfl⟩
      replace hf := hf x3 ex3
      refine j_iinc hC (v := x3) (q := 2) (lv' := [(2, .int x3), (0, .ref (q (24 + k))), (1, .int a1), (3, .int a3)]) dJ7_fill_53178_14 (pc' := 17) rfl rfl (by rw [ex3]; rfl) (by decide) rfl ?_
      refine j_goto hC (tgt := 5) dJ7_fill_53178_17 (by decide) ?_
      refine j_lv [1, 2, 0, 3] rfl ?_
      exact ih a1 x3 a3 σ2 hf
set_option maxHeartbeats 4000000 in
set_option maxRecDepth 100000 in
theorem lk_J7_fill_53178 {l : Launch} {D : va_G} {q : Nat → Nat} {ca : Nat → ClassId} {t : Nat} (hE : qok 28 q) (k : Nat) (hk4 : k < 4) (a1 : Int32) (σ : St) (Q : St → Prop) (hf : f_J7_fill_53178 k a1 σ Q) : Mv l yJ7_fill_53178 cJ7_fill_53178 4 none { frames := 0, cells := 0, slots := 0, locals := 0 } D (tysX ca) (ZX q t) (wX q ca) (AX q) [.ref (q (24 + k)), .int a1] σ Q := by
  refine j_start (own := RJ7) (lv := [(0, .ref (q (24 + k))), (1, .int a1)]) [.ref (q (24 + k)), .int a1] (by decide +kernel) rfl (wX_D hE σ) (Nat.le_of_ble_eq_true rfl) rfl (fun p e s m args below meth c hC => ?_)
  unfold f_J7_fill_53178 at hf
  refine j_iconst hC (v := 0) dJ7_fill_53178_0 (pc' := 1) rfl (by decide) ?_
  refine j_istore_n hC (lv' := [(2, .int (0 : Int32)), (0, .ref (q (24 + k))), (1, .int a1)]) dJ7_fill_53178_1 (pc' := 2) rfl rfl (by decide) rfl ?_
  refine j_aload_n hC 1 dJ7_fill_53178_2 (pc' := 3) rfl rfl ?_
  refine nX_itemsA hC hk4 dJ7_fill_53178_3 (pc' := 4) rfl ?_
  refine j_istore_n hC (lv' := [(3, .int (100 : Int32)), (2, .int (0 : Int32)), (0, .ref (q (24 + k))), (1, .int a1)]) dJ7_fill_53178_4 (pc' := 5) rfl rfl (by decide) rfl ?_
  obtain ⟨n4, hf⟩ := hf
  refine j_lv [2, 3, 1, 0] rfl ?_
  exact lb_J7_fill_53178_b5 hE hC k hk4 Q n4 a1 (0 : Int32) (100 : Int32) σ hf
def f_X4_begin (k : Nat) (a1 : Int32) (a2 : Int32) (σ : St) (Q : St → Prop) : Prop := ∀ σ1 : St, σ1 = sI σ (24 + k) 0 a1 → ∀ σ2 : St, σ2 = sI σ1 (28 + k) 0 a2 → f_J7_fill_53178 k (0 : Int32) σ2 (fun σ4 => Q σ4)
theorem dy_X4_begin : yX4_begin.cls = yX4_begin.cls ∧ yX4_begin.cls ≠ "java/lang/invoke/MethodHandle" ∧ yX4_begin.cls ≠ "java/lang/invoke/VarHandle" ∧ (parseMethodDescriptor yX4_begin.desc).map (fun d => d.parameters.length) = some 2 := by decide +kernel
set_option maxHeartbeats 4000000 in
set_option maxRecDepth 100000 in
theorem lk_X4_begin {l : Launch} {D : va_G} {q : Nat → Nat} {ca : Nat → ClassId} {t : Nat} (hE : qok 28 q) (k : Nat) (hk4 : k < 4) (a1 : Int32) (a2 : Int32) (σ : St) (Q : St → Prop) (hf : f_X4_begin k a1 a2 σ Q) : Mv l yX4_begin cX4_begin 3 none { frames := 1, cells := 0, slots := 0, locals := 23 } D (tysX ca) (ZX q t) (wX q ca) (AX q) [.ref (q (20 + k)), .int a1, .int a2] σ Q := by
  refine j_start (own := RX4) (lv := [(0, .ref (q (20 + k))), (1, .int a1), (2, .int a2)]) [.ref (q (20 + k)), .int a1, .int a2] (by decide +kernel) rfl (wX_D hE σ) (Nat.le_of_ble_eq_true rfl) rfl (fun p e s m args below meth c hC => ?_)
  unfold f_X4_begin at hf
  refine j_aload_n hC 0 dX4_begin_0 (pc' := 1) rfl rfl ?_
  refine j_iload_n hC 1 dX4_begin_1 (pc' := 2) rfl rfl ?_
  refine pX_form hC hk4 wm_133 dX4_begin_2 (pc' := 5) rfl ?_
  refine j_nms (wf := wX q ca) (fun σ1 eσ1 => ?_)
  replace hf := hf σ1 eσ1
  refine j_aload_n hC 0 dX4_begin_5 (pc' := 6) rfl rfl ?_
  refine j_iload_n hC 2 dX4_begin_6 (pc' := 7) rfl rfl ?_
  refine pX_size hC hk4 wm_135 dX4_begin_7 (pc' := 10) rfl ?_
  refine j_nms (wf := wX q ca) (fun σ2 eσ2 => ?_)
  replace hf := hf σ2 eσ2
  refine j_aload_n hC 0 dX4_begin_10 (pc' := 11) rfl rfl ?_
  refine gX_items hC hk4 wm_130 dX4_begin_11 (pc' := 14) rfl ?_
  refine j_iconst hC (v := 0) dX4_begin_14 (pc' := 15) rfl (by decide) ?_
  refine jcS_v hC (eX hE) (As := [.ref (q (24 + k)), .int (0 : Int32)]) (lk_J7_fill_53178 hE k hk4 (0 : Int32) σ2 _ hf) wm_505 wm_506 wm_10 wm_507 dy_J7_fill_53178 ⟨rfl, rfl⟩ ⟨Nat.le_of_ble_eq_true rfl, Nat.le_of_ble_eq_true rfl⟩ ⟨Nat.le_refl _, Nat.le_refl _⟩ rfl rfl (Nat.le_of_ble_eq_true rfl) dX4_begin_15 (pc' := 18) rfl (fun σ4 hf => ?_)
  exact j_vret hC dX4_begin_18 hf
def f_X4_end (k : Nat) (σ : St) (Q : Int32 → St → Prop) : Prop := ∀ x1 : Int32, x1 = σ.1 (28 + k) 0 → ∀ σ2 : St, σ2 = sI σ (24 + k) 0 (-1 : Int32) → ∀ σ3 : St, σ3 = sI σ2 (28 + k) 0 (0 : Int32) → Q x1 σ3
theorem dy_X4_end : yX4_end.cls = yX4_end.cls ∧ yX4_end.cls ≠ "java/lang/invoke/MethodHandle" ∧ yX4_end.cls ≠ "java/lang/invoke/VarHandle" ∧ (parseMethodDescriptor yX4_end.desc).map (fun d => d.parameters.length) = some 0 := by decide +kernel
set_option maxHeartbeats 4000000 in
set_option maxRecDepth 100000 in
theorem lk_X4_end {l : Launch} {D : va_G} {q : Nat → Nat} {ca : Nat → ClassId} {t : Nat} (hE : qok 28 q) (k : Nat) (hk4 : k < 4) (σ : St) (Q : Int32 → St → Prop) (hf : f_X4_end k σ Q) : Mi l yX4_end cX4_end 2 (some .int) { frames := 0, cells := 0, slots := 0, locals := 0 } D (tysX ca) (ZX q t) (wX q ca) (AX q) [.ref (q (20 + k))] σ Q := by
  refine j_start (own := RX4) (lv := [(0, .ref (q (20 + k)))]) [.ref (q (20 + k))] (by decide +kernel) rfl (wX_D hE σ) (Nat.le_of_ble_eq_true rfl) rfl (fun p e s m args below meth c hC => ?_)
  unfold f_X4_end at hf
  refine j_aload_n hC 0 dX4_end_0 (pc' := 1) rfl rfl ?_
  refine gX_size hC hk4 wm_135 dX4_end_1 (pc' := 4) rfl ?_
  refine j_nmi (fun x1 ex1 => ?_)
  replace hf := hf x1 ex1
  refine j_istore_n hC (lv' := [(1, .int x1), (0, .ref (q (20 + k)))]) dX4_end_4 (pc' := 5) rfl rfl (by decide) rfl ?_
  refine j_aload_n hC 1 dX4_end_5 (pc' := 6) rfl rfl ?_
  refine j_iconst hC (v := -1) dX4_end_6 (pc' := 7) rfl (by decide) ?_
  refine pX_form hC hk4 wm_133 dX4_end_7 (pc' := 10) rfl ?_
  refine j_nms (wf := wX q ca) (fun σ2 eσ2 => ?_)
  replace hf := hf σ2 eσ2
  refine j_aload_n hC 1 dX4_end_10 (pc' := 11) rfl rfl ?_
  refine j_iconst hC (v := 0) dX4_end_11 (pc' := 12) rfl (by decide) ?_
  refine pX_size hC hk4 wm_135 dX4_end_12 (pc' := 15) rfl ?_
  refine j_nms (wf := wX q ca) (fun σ3 eσ3 => ?_)
  replace hf := hf σ3 eσ3
  refine j_iload_n hC 0 dX4_end_15 (pc' := 16) rfl rfl ?_
  exact j_iret hC dX4_end_16 hf
def f_X4_has (k : Nat) (a1 : Int32) (σ : St) (Q : Int32 → St → Prop) : Prop := (a1 < 0 → Q (0 : Int32) σ) ∧ ((¬ a1 < 0) → ((σ.1 (28 + k) 0) ≤ a1 → Q (0 : Int32) σ) ∧ ((¬ (σ.1 (28 + k) 0) ≤ a1) → Q (1 : Int32) σ))
theorem dy_X4_has : yX4_has.cls = yX4_has.cls ∧ yX4_has.cls ≠ "java/lang/invoke/MethodHandle" ∧ yX4_has.cls ≠ "java/lang/invoke/VarHandle" ∧ (parseMethodDescriptor yX4_has.desc).map (fun d => d.parameters.length) = some 1 := by decide +kernel
set_option maxHeartbeats 4000000 in
set_option maxRecDepth 100000 in
theorem lk_X4_has {l : Launch} {D : va_G} {q : Nat → Nat} {ca : Nat → ClassId} {t : Nat} (hE : qok 28 q) (k : Nat) (hk4 : k < 4) (a1 : Int32) (σ : St) (Q : Int32 → St → Prop) (hf : f_X4_has k a1 σ Q) : Mi l yX4_has cX4_has 2 (some .boolean) { frames := 0, cells := 0, slots := 0, locals := 0 } D (tysX ca) (ZX q t) (wX q ca) (AX q) [.ref (q (20 + k)), .int a1] σ Q := by
  refine j_start (own := RX4) (lv := [(0, .ref (q (20 + k))), (1, .int a1)]) [.ref (q (20 + k)), .int a1] (by decide +kernel) rfl (wX_D hE σ) (Nat.le_of_ble_eq_true rfl) rfl (fun p e s m args below meth c hC => ?_)
  unfold f_X4_has at hf
  refine j_iload_n hC 1 dX4_has_0 (pc' := 1) rfl rfl ?_
  refine j_if_lt hC (tgt := 16) dX4_has_1 (pc' := 4) rfl (by decide) (fun c_ => ?_) (fun c_ => ?_)
  · replace hf := hf.1 c_
    refine j_iconst hC (v := 0) dX4_has_16 (pc' := 17) rfl (by decide) ?_
    exact j_zret hC dX4_has_17 (Or.inl rfl) hf
  · replace hf := hf.2 c_
    refine j_iload_n hC 1 dX4_has_4 (pc' := 5) rfl rfl ?_
    refine j_aload_n hC 0 dX4_has_5 (pc' := 6) rfl rfl ?_
    refine gX_size hC hk4 wm_135 dX4_has_6 (pc' := 9) rfl ?_
    refine j_icmp_ge hC (tgt := 16) dX4_has_9 (pc' := 12) rfl (by decide) (fun c_ => ?_) (fun c_ => ?_)
    · replace hf := hf.1 c_
      refine j_iconst hC (v := 0) dX4_has_16 (pc' := 17) rfl (by decide) ?_
      exact j_zret hC dX4_has_17 (Or.inl rfl) hf
    · replace hf := hf.2 c_
      refine j_iconst hC (v := 1) dX4_has_12 (pc' := 13) rfl (by decide) ?_
      refine j_goto hC (tgt := 17) dX4_has_13 (by decide) ?_
      exact j_zret hC dX4_has_17 (Or.inr rfl) hf
def f_X4_hasRun (k : Nat) (a1 : Int32) (a2 : Int32) (σ : St) (Q : Int32 → St → Prop) : Prop := (a1 < 0 → Q (0 : Int32) σ) ∧ ((¬ a1 < 0) → (a2 < 0 → Q (0 : Int32) σ) ∧ ((¬ a2 < 0) → (((σ.1 (28 + k) 0) - a1) < a2 → Q (0 : Int32) σ) ∧ ((¬ ((σ.1 (28 + k) 0) - a1) < a2) → Q (1 : Int32) σ)))
theorem dy_X4_hasRun : yX4_hasRun.cls = yX4_hasRun.cls ∧ yX4_hasRun.cls ≠ "java/lang/invoke/MethodHandle" ∧ yX4_hasRun.cls ≠ "java/lang/invoke/VarHandle" ∧ (parseMethodDescriptor yX4_hasRun.desc).map (fun d => d.parameters.length) = some 2 := by decide +kernel
set_option maxHeartbeats 4000000 in
set_option maxRecDepth 100000 in
theorem lk_X4_hasRun {l : Launch} {D : va_G} {q : Nat → Nat} {ca : Nat → ClassId} {t : Nat} (hE : qok 28 q) (k : Nat) (hk4 : k < 4) (a1 : Int32) (a2 : Int32) (σ : St) (Q : Int32 → St → Prop) (hf : f_X4_hasRun k a1 a2 σ Q) : Mi l yX4_hasRun cX4_hasRun 3 (some .boolean) { frames := 0, cells := 0, slots := 0, locals := 0 } D (tysX ca) (ZX q t) (wX q ca) (AX q) [.ref (q (20 + k)), .int a1, .int a2] σ Q := by
  refine j_start (own := RX4) (lv := [(0, .ref (q (20 + k))), (1, .int a1), (2, .int a2)]) [.ref (q (20 + k)), .int a1, .int a2] (by decide +kernel) rfl (wX_D hE σ) (Nat.le_of_ble_eq_true rfl) rfl (fun p e s m args below meth c hC => ?_)
  unfold f_X4_hasRun at hf
  refine j_iload_n hC 1 dX4_hasRun_0 (pc' := 1) rfl rfl ?_
  refine j_if_lt hC (tgt := 22) dX4_hasRun_1 (pc' := 4) rfl (by decide) (fun c_ => ?_) (fun c_ => ?_)
  · replace hf := hf.1 c_
    refine j_iconst hC (v := 0) dX4_hasRun_22 (pc' := 23) rfl (by decide) ?_
    exact j_zret hC dX4_hasRun_23 (Or.inl rfl) hf
  · replace hf := hf.2 c_
    refine j_iload_n hC 2 dX4_hasRun_4 (pc' := 5) rfl rfl ?_
    refine j_if_lt hC (tgt := 22) dX4_hasRun_5 (pc' := 8) rfl (by decide) (fun c_ => ?_) (fun c_ => ?_)
    · replace hf := hf.1 c_
      refine j_iconst hC (v := 0) dX4_hasRun_22 (pc' := 23) rfl (by decide) ?_
      exact j_zret hC dX4_hasRun_23 (Or.inl rfl) hf
    · replace hf := hf.2 c_
      refine j_iload_n hC 2 dX4_hasRun_8 (pc' := 9) rfl rfl ?_
      refine j_aload_n hC 0 dX4_hasRun_9 (pc' := 10) rfl rfl ?_
      refine gX_size hC hk4 wm_135 dX4_hasRun_10 (pc' := 13) rfl ?_
      refine j_iload_n hC 1 dX4_hasRun_13 (pc' := 14) rfl rfl ?_
      refine j_isub hC dX4_hasRun_14 (pc' := 15) rfl ?_
      refine j_icmp_gt hC (tgt := 22) dX4_hasRun_15 (pc' := 18) rfl (by decide) (fun c_ => ?_) (fun c_ => ?_)
      · replace hf := hf.1 c_
        refine j_iconst hC (v := 0) dX4_hasRun_22 (pc' := 23) rfl (by decide) ?_
        exact j_zret hC dX4_hasRun_23 (Or.inl rfl) hf
      · replace hf := hf.2 c_
        refine j_iconst hC (v := 1) dX4_hasRun_18 (pc' := 19) rfl (by decide) ?_
        refine j_goto hC (tgt := 23) dX4_hasRun_19 (by decide) ?_
        exact j_zret hC dX4_hasRun_23 (Or.inr rfl) hf
def f_X4_hasMeasureAt (k : Nat) (a1 : Int32) (σ : St) (Q : Int32 → St → Prop) : Prop := f_X4_has k a1 σ (fun r1 σ2 => (r1 = 0 → Q (0 : Int32) σ2) ∧ ((¬ r1 = 0) → vp_in a1 100 ∧ ((σ2.1 (20 + k) (Int32.toNatClampNeg a1)) < (-9999 : Int32) → Q (0 : Int32) σ2) ∧ ((¬ (σ2.1 (20 + k) (Int32.toNatClampNeg a1)) < (-9999 : Int32)) → vp_in a1 100 ∧ ((9999 : Int32) < (σ2.1 (20 + k) (Int32.toNatClampNeg a1)) → Q (0 : Int32) σ2) ∧ ((¬ (9999 : Int32) < (σ2.1 (20 + k) (Int32.toNatClampNeg a1))) → Q (1 : Int32) σ2))))
theorem dy_X4_hasMeasureAt : yX4_hasMeasureAt.cls = yX4_hasMeasureAt.cls ∧ yX4_hasMeasureAt.cls ≠ "java/lang/invoke/MethodHandle" ∧ yX4_hasMeasureAt.cls ≠ "java/lang/invoke/VarHandle" ∧ (parseMethodDescriptor yX4_hasMeasureAt.desc).map (fun d => d.parameters.length) = some 1 := by decide +kernel
set_option maxHeartbeats 4000000 in
set_option maxRecDepth 100000 in
theorem lk_X4_hasMeasureAt {l : Launch} {D : va_G} {q : Nat → Nat} {ca : Nat → ClassId} {t : Nat} (hE : qok 28 q) (k : Nat) (hk4 : k < 4) (a1 : Int32) (σ : St) (Q : Int32 → St → Prop) (hf : f_X4_hasMeasureAt k a1 σ Q) : Mi l yX4_hasMeasureAt cX4_hasMeasureAt 2 (some .boolean) { frames := 1, cells := 0, slots := 0, locals := 21 } D (tysX ca) (ZX q t) (wX q ca) (AX q) [.ref (q (20 + k)), .int a1] σ Q := by
  refine j_start (own := RX4) (lv := [(0, .ref (q (20 + k))), (1, .int a1)]) [.ref (q (20 + k)), .int a1] (by decide +kernel) rfl (wX_D hE σ) (Nat.le_of_ble_eq_true rfl) rfl (fun p e s m args below meth c hC => ?_)
  unfold f_X4_hasMeasureAt at hf
  refine j_aload_n hC 0 dX4_hasMeasureAt_0 (pc' := 1) rfl rfl ?_
  refine j_iload_n hC 1 dX4_hasMeasureAt_1 (pc' := 2) rfl rfl ?_
  refine jcV_i hC (eX hE) (As := [.int a1]) (obX_X4 hk4) (rfl) (lk_X4_has hE k hk4 a1 σ _ hf) wm_242 wm_243 wm_244 wm_7 wm_245 dy_X4_has ⟨rfl, rfl⟩ ⟨Nat.le_of_ble_eq_true rfl, Nat.le_of_ble_eq_true rfl⟩ ⟨Nat.le_refl _, Nat.le_refl _⟩ rfl rfl (Nat.le_of_ble_eq_true rfl) dX4_hasMeasureAt_2 (pc' := 5) rfl (fun r1 σ2 hf => ?_)
  refine j_if_eq hC (tgt := 36) dX4_hasMeasureAt_5 (pc' := 8) rfl (by decide) (fun c_ => ?_) (fun c_ => ?_)
  · replace hf := hf.1 c_
    refine j_iconst hC (v := 0) dX4_hasMeasureAt_36 (pc' := 37) rfl (by decide) ?_
    exact j_zret hC dX4_hasMeasureAt_37 (Or.inl rfl) hf
  · replace hf := hf.2 c_
    refine j_aload_n hC 0 dX4_hasMeasureAt_8 (pc' := 9) rfl rfl ?_
    refine gX_items hC hk4 wm_130 dX4_hasMeasureAt_9 (pc' := 12) rfl ?_
    refine j_iload_n hC 1 dX4_hasMeasureAt_12 (pc' := 13) rfl rfl ?_
    obtain ⟨h3, hf⟩ := hf
    refine lX_itemsA hC hk4 (j := (Int32.toNatClampNeg a1)) h3 rfl dX4_hasMeasureAt_13 (pc' := 14) rfl ?_
    refine j_sipush hC (v := -9999) dX4_hasMeasureAt_14 (pc' := 17) rfl (by decide) ?_
    refine j_icmp_lt hC (tgt := 36) dX4_hasMeasureAt_17 (pc' := 20) rfl (by decide) (fun c_ => ?_) (fun c_ => ?_)
    · replace hf := hf.1 c_
      refine j_iconst hC (v := 0) dX4_hasMeasureAt_36 (pc' := 37) rfl (by decide) ?_
      exact j_zret hC dX4_hasMeasureAt_37 (Or.inl rfl) hf
    · replace hf := hf.2 c_
      refine j_aload_n hC 0 dX4_hasMeasureAt_20 (pc' := 21) rfl rfl ?_
      refine gX_items hC hk4 wm_130 dX4_hasMeasureAt_21 (pc' := 24) rfl ?_
      refine j_iload_n hC 1 dX4_hasMeasureAt_24 (pc' := 25) rfl rfl ?_
      obtain ⟨h4, hf⟩ := hf
      refine lX_itemsA hC hk4 (j := (Int32.toNatClampNeg a1)) h4 rfl dX4_hasMeasureAt_25 (pc' := 26) rfl ?_
      refine j_sipush hC (v := 9999) dX4_hasMeasureAt_26 (pc' := 29) rfl (by decide) ?_
      refine j_icmp_gt hC (tgt := 36) dX4_hasMeasureAt_29 (pc' := 32) rfl (by decide) (fun c_ => ?_) (fun c_ => ?_)
      · replace hf := hf.1 c_
        refine j_iconst hC (v := 0) dX4_hasMeasureAt_36 (pc' := 37) rfl (by decide) ?_
        exact j_zret hC dX4_hasMeasureAt_37 (Or.inl rfl) hf
      · replace hf := hf.2 c_
        refine j_iconst hC (v := 1) dX4_hasMeasureAt_32 (pc' := 33) rfl (by decide) ?_
        refine j_goto hC (tgt := 37) dX4_hasMeasureAt_33 (by decide) ?_
        exact j_zret hC dX4_hasMeasureAt_37 (Or.inr rfl) hf
def f_X5_read_b48 (k : Nat) (Q : St → Prop) (K13 : Int32 → Int32 → St → Prop) (a3 : Int32) (a4 : Int32) (σ : St) : Prop := vp_in a4 100 ∧ ((σ.1 (20 + k) (Int32.toNatClampNeg a4)) ≤ 0 → ∀ x5 : Int32, x5 = a4 + (1 : Int32) → K13 a3 x5 σ) ∧ ((¬ (σ.1 (20 + k) (Int32.toNatClampNeg a4)) ≤ 0) → ∀ σ6 : St, σ6 = sI σ 15 0 ((σ.1 15 0) + (1 : Int32)) → ∀ x7 : Int32, x7 = a4 + (1 : Int32) → K13 a3 x7 σ6)
def f_X5_read_b13 (k : Nat) (Q : St → Prop) : Nat → Int32 → Int32 → St → Prop
  | 0, _, _, _ => False
  | n + 1, a3, a4, σ => (a3 < a4 → Q σ) ∧ ((¬ a3 < a4) → ((50 : Int32) ≤ (σ.1 14 0) → Q σ) ∧ ((¬ (50 : Int32) ≤ (σ.1 14 0)) → vp_in a4 100 ∧ ((σ.1 (20 + k) (Int32.toNatClampNeg a4)) = 0 → f_X5_read_b48 k Q (fun a3 a4 σ => f_X5_read_b13 k Q n a3 a4 σ) a3 a4 σ) ∧ ((¬ (σ.1 (20 + k) (Int32.toNatClampNeg a4)) = 0) → ∀ σ8 : St, σ8 = sI σ 14 0 ((σ.1 14 0) + (1 : Int32)) → f_X5_read_b48 k Q (fun a3 a4 σ => f_X5_read_b13 k Q n a3 a4 σ) a3 a4 σ8)))
def f_X5_read (k : Nat) (a2 : Int32) (a3 : Int32) (σ : St) (Q : St → Prop) : Prop := ∀ σ1 : St, σ1 = sI σ 14 0 (0 : Int32) → ∀ σ2 : St, σ2 = sI σ1 15 0 (0 : Int32) → ∃ n9 : Nat, f_X5_read_b13 k Q n9 a3 a2 σ2
theorem dy_X5_read : yX5_read.cls = yX5_read.cls ∧ yX5_read.cls ≠ "java/lang/invoke/MethodHandle" ∧ yX5_read.cls ≠ "java/lang/invoke/VarHandle" ∧ (parseMethodDescriptor yX5_read.desc).map (fun d => d.parameters.length) = some 3 := by decide +kernel
set_option maxHeartbeats 4000000 in
set_option maxRecDepth 100000 in
theorem lb_X5_read_b48 {l : Launch} {D : va_G} {q : Nat → Nat} {ca : Nat → ClassId} {t : Nat} {p : Program} {e : Env} {s : State} {m : MethodId} {args : Array Value} {below : List Frame} {meth : Method} {c : Code} (hE : qok 28 q) (hC : Cx p s m args meth c cX5_read 5 RX5 none D (tysX ca) (ZX q t)) (k : Nat) (hk4 : k < 4) (Q : St → Prop) (K13 : Int32 → Int32 → St → Prop) (hK13 : ∀ (a3 : Int32) (a4 : Int32) (σ : St), K13 a3 a4 σ → J p l e { frames := 0, cells := 0, slots := 0, locals := 0 } s m args below meth c (MQ below (va_Qv Q (BW D (wX q ca)) (AX q)) args s 0 0 (AX q)) D (AX q) 5 0 0 (wX q ca σ) 13 [(0, .ref (q 7)), (1, .ref (q (20 + k))), (3, .int a3), (4, .int a4)] []) (a3 : Int32) (a4 : Int32) (σ : St) (hf : f_X5_read_b48 k Q K13 a3 a4 σ) : J p l e { frames := 0, cells := 0, slots := 0, locals := 0 } s m args below meth c (MQ below (va_Qv Q (BW D (wX q ca)) (AX q)) args s 0 0 (AX q)) D (AX q) 5 0 0 (wX q ca σ) 48 [(0, .ref (q 7)), (1, .ref (q (20 + k))), (3, .int a3), (4, .int a4)] [] := by
  unfold f_X5_read_b48 at hf
  refine j_aload_n hC 1 dX5_read_48 (pc' := 49) rfl rfl ?_
  refine gX_items hC hk4 wm_131 dX5_read_49 (pc' := 52) rfl ?_
  refine j_iload hC 3 dX5_read_52 (pc' := 54) rfl rfl ?_
  obtain ⟨h4, hf⟩ := hf
  refine lX_itemsA hC hk4 (j := (Int32.toNatClampNeg a4)) h4 rfl dX5_read_54 (pc' := 55) rfl ?_
  refine j_if_le hC (tgt := 68) dX5_read_55 (pc' := 58) rfl (by decide) (fun c_ => ?_) (fun c_ => ?_)
  · replace hf := hf.1 c_
    obtain ⟨x5, ex5⟩ : ∃ y : Int32, y = a4 + (1 : Int32) := ⟨_, rfl⟩
    replace hf := hf x5 ex5
    refine j_iinc hC (v := x5) (q := 3) (lv' := [(4, .int x5), (0, .ref (q 7)), (1, .ref (q (20 + k))), (3, .int a3)]) dX5_read_68 (pc' := 71) rfl rfl (by rw [ex5]; rfl) (by decide) rfl ?_
    refine j_goto hC (tgt := 13) dX5_read_71 (by decide) ?_
    refine j_lv [1, 2, 3, 0] rfl ?_
    exact hK13 a3 x5 σ hf
  · replace hf := hf.2 c_
    refine j_aload_n hC 0 dX5_read_58 (pc' := 59) rfl rfl ?_
    refine j_dup hC dX5_read_59 (pc' := 60) rfl rfl ?_
    refine gX_above hC wm_117 dX5_read_60 (pc' := 63) rfl ?_
    refine j_iconst hC (v := 1) dX5_read_63 (pc' := 64) rfl (by decide) ?_
    refine j_iadd hC dX5_read_64 (pc' := 65) rfl ?_
    refine pX_above hC wm_117 dX5_read_65 (pc' := 68) rfl ?_
    refine j_nms (wf := wX q ca) (fun σ6 eσ6 => ?_)
    replace hf := hf σ6 eσ6
    obtain ⟨x7, ex7⟩ : ∃ y : Int32, y = a4 + (1 : Int32) := ⟨_, rfl⟩
    replace hf := hf x7 ex7
    refine j_iinc hC (v := x7) (q := 3) (lv' := [(4, .int x7), (0, .ref (q 7)), (1, .ref (q (20 + k))), (3, .int a3)]) dX5_read_68 (pc' := 71) rfl rfl (by rw [ex7]; rfl) (by decide) rfl ?_
    refine j_goto hC (tgt := 13) dX5_read_71 (by decide) ?_
    refine j_lv [1, 2, 3, 0] rfl ?_
    exact hK13 a3 x7 σ6 hf
set_option maxHeartbeats 4000000 in
set_option maxRecDepth 100000 in
theorem lb_X5_read_b13 {l : Launch} {D : va_G} {q : Nat → Nat} {ca : Nat → ClassId} {t : Nat} {p : Program} {e : Env} {s : State} {m : MethodId} {args : Array Value} {below : List Frame} {meth : Method} {c : Code} (hE : qok 28 q) (hC : Cx p s m args meth c cX5_read 5 RX5 none D (tysX ca) (ZX q t)) (k : Nat) (hk4 : k < 4) (Q : St → Prop) : ∀ (n : Nat) (a3 : Int32) (a4 : Int32) (σ : St), f_X5_read_b13 k Q n a3 a4 σ → J p l e { frames := 0, cells := 0, slots := 0, locals := 0 } s m args below meth c (MQ below (va_Qv Q (BW D (wX q ca)) (AX q)) args s 0 0 (AX q)) D (AX q) 5 0 0 (wX q ca σ) 13 [(0, .ref (q 7)), (1, .ref (q (20 + k))), (3, .int a3), (4, .int a4)] [] := by
  intro n
  induction n with
  | zero => intro a3 a4 σ hf; exact hf.elim
  | succ n ih =>
    intro a3 a4 σ hf
    unfold f_X5_read_b13 at hf
    refine j_iload hC 3 dX5_read_13 (pc' := 15) rfl rfl ?_
    refine j_iload_n hC 2 dX5_read_15 (pc' := 16) rfl rfl ?_
    refine j_icmp_gt hC (tgt := 74) dX5_read_16 (pc' := 19) rfl (by decide) (fun c_ => ?_) (fun c_ => ?_)
    · replace hf := hf.1 c_
      exact j_vret hC dX5_read_74 hf
    · replace hf := hf.2 c_
      refine j_aload_n hC 0 dX5_read_19 (pc' := 20) rfl rfl ?_
      refine gX_counted hC wm_115 dX5_read_20 (pc' := 23) rfl ?_
      refine j_bipush hC (v := 50) dX5_read_23 (pc' := 25) rfl (by decide) ?_
      refine j_icmp_ge hC (tgt := 74) dX5_read_25 (pc' := 28) rfl (by decide) (fun c_ => ?_) (fun c_ => ?_)
      · replace hf := hf.1 c_
        exact j_vret hC dX5_read_74 hf
      · replace hf := hf.2 c_
        refine j_aload_n hC 1 dX5_read_28 (pc' := 29) rfl rfl ?_
        refine gX_items hC hk4 wm_131 dX5_read_29 (pc' := 32) rfl ?_
        refine j_iload hC 3 dX5_read_32 (pc' := 34) rfl rfl ?_
        obtain ⟨h3, hf⟩ := hf
        refine lX_itemsA hC hk4 (j := (Int32.toNatClampNeg a4)) h3 rfl dX5_read_34 (pc' := 35) rfl ?_
        refine j_if_eq hC (tgt := 48) dX5_read_35 (pc' := 38) rfl (by decide) (fun c_ => ?_) (fun c_ => ?_)
        · replace hf := hf.1 c_
          refine j_lv [0, 1, 2, 3] rfl ?_
          exact lb_X5_read_b48 hE hC k hk4 Q _ ih a3 a4 σ hf
        · replace hf := hf.2 c_
          refine j_aload_n hC 0 dX5_read_38 (pc' := 39) rfl rfl ?_
          refine j_dup hC dX5_read_39 (pc' := 40) rfl rfl ?_
          refine gX_counted hC wm_115 dX5_read_40 (pc' := 43) rfl ?_
          refine j_iconst hC (v := 1) dX5_read_43 (pc' := 44) rfl (by decide) ?_
          refine j_iadd hC dX5_read_44 (pc' := 45) rfl ?_
          refine pX_counted hC wm_115 dX5_read_45 (pc' := 48) rfl ?_
          refine j_nms (wf := wX q ca) (fun σ8 eσ8 => ?_)
          replace hf := hf σ8 eσ8
          refine j_lv [0, 1, 2, 3] rfl ?_
          exact lb_X5_read_b48 hE hC k hk4 Q _ ih a3 a4 σ8 hf
set_option maxHeartbeats 4000000 in
set_option maxRecDepth 100000 in
theorem lk_X5_read {l : Launch} {D : va_G} {q : Nat → Nat} {ca : Nat → ClassId} {t : Nat} (hE : qok 28 q) (k : Nat) (hk4 : k < 4) (a2 : Int32) (a3 : Int32) (σ : St) (Q : St → Prop) (hf : f_X5_read k a2 a3 σ Q) : Mv l yX5_read cX5_read 5 none { frames := 0, cells := 0, slots := 0, locals := 0 } D (tysX ca) (ZX q t) (wX q ca) (AX q) [.ref (q 7), .ref (q (20 + k)), .int a2, .int a3] σ Q := by
  refine j_start (own := RX5) (lv := [(0, .ref (q 7)), (1, .ref (q (20 + k))), (2, .int a2), (3, .int a3)]) [.ref (q 7), .ref (q (20 + k)), .int a2, .int a3] (by decide +kernel) rfl (wX_D hE σ) (Nat.le_of_ble_eq_true rfl) rfl (fun p e s m args below meth c hC => ?_)
  unfold f_X5_read at hf
  refine j_aload_n hC 0 dX5_read_0 (pc' := 1) rfl rfl ?_
  refine j_iconst hC (v := 0) dX5_read_1 (pc' := 2) rfl (by decide) ?_
  refine pX_counted hC wm_115 dX5_read_2 (pc' := 5) rfl ?_
  refine j_nms (wf := wX q ca) (fun σ1 eσ1 => ?_)
  replace hf := hf σ1 eσ1
  refine j_aload_n hC 0 dX5_read_5 (pc' := 6) rfl rfl ?_
  refine j_iconst hC (v := 0) dX5_read_6 (pc' := 7) rfl (by decide) ?_
  refine pX_above hC wm_117 dX5_read_7 (pc' := 10) rfl ?_
  refine j_nms (wf := wX q ca) (fun σ2 eσ2 => ?_)
  replace hf := hf σ2 eσ2
  refine j_iload_n hC 2 dX5_read_10 (pc' := 11) rfl rfl ?_
  refine j_istore hC (lv' := [(4, .int a2), (0, .ref (q 7)), (1, .ref (q (20 + k))), (2, .int a2), (3, .int a3)]) dX5_read_11 (pc' := 13) rfl (by decide) rfl ?_
  obtain ⟨n9, hf⟩ := hf
  refine j_lv [1, 2, 4, 0] rfl ?_
  exact lb_X5_read_b13 hE hC k hk4 Q n9 a3 a2 σ2 hf
def f_X5_rowsUpTo_b8 (Q : Int64 → St → Prop) : Nat → Int32 → Int64 → Int64 → Int32 → St → Prop
  | 0, _, _, _, _, _ => False
  | n + 1, a1, a2, a4, a6, σ => (a1 < a6 → Q a4 σ) ∧ ((¬ a1 < a6) → (¬ (Int32.toInt64 a6) = 0) ∧ ∀ x2 : Int64, x2 = (a2 * (Int32.toInt64 (((σ.1 14 0) - a6) + (1 : Int32)))) / (Int32.toInt64 a6) → ∀ x3 : Int64, x3 = a4 + x2 → ∀ x4 : Int32, x4 = a6 + (1 : Int32) → f_X5_rowsUpTo_b8 Q  n a1 x2 x3 x4 σ)
def f_X5_rowsUpTo (a1 : Int32) (σ : St) (Q : Int64 → St → Prop) : Prop := ∃ n5 : Nat, f_X5_rowsUpTo_b8 Q n5 a1 (1 : Int64) (1 : Int64) (1 : Int32) σ
theorem dy_X5_rowsUpTo : yX5_rowsUpTo.cls = yX5_rowsUpTo.cls ∧ yX5_rowsUpTo.cls ≠ "java/lang/invoke/MethodHandle" ∧ yX5_rowsUpTo.cls ≠ "java/lang/invoke/VarHandle" ∧ (parseMethodDescriptor yX5_rowsUpTo.desc).map (fun d => d.parameters.length) = some 1 := by decide +kernel
set_option maxHeartbeats 4000000 in
set_option maxRecDepth 100000 in
theorem lb_X5_rowsUpTo_b8 {l : Launch} {D : va_G} {q : Nat → Nat} {ca : Nat → ClassId} {t : Nat} {p : Program} {e : Env} {s : State} {m : MethodId} {args : Array Value} {below : List Frame} {meth : Method} {c : Code} (hE : qok 28 q) (hC : Cx p s m args meth c cX5_rowsUpTo 7 RX5 (some .long) D (tysX ca) (ZX q t)) (Q : Int64 → St → Prop) : ∀ (n : Nat) (a1 : Int32) (a2 : Int64) (a4 : Int64) (a6 : Int32) (σ : St), f_X5_rowsUpTo_b8 Q n a1 a2 a4 a6 σ → J p l e { frames := 0, cells := 0, slots := 0, locals := 0 } s m args below meth c (MQ below (va_Ql Q (BW D (wX q ca)) (AX q)) args s 0 0 (AX q)) D (AX q) 7 0 0 (wX q ca σ) 8 [(0, .ref (q 7)), (1, .int a1), (2, .long a2), (4, .long a4), (6, .int a6)] [] := by
  intro n
  induction n with
  | zero => intro a1 a2 a4 a6 σ hf; exact hf.elim
  | succ n ih =>
    intro a1 a2 a4 a6 σ hf
    unfold f_X5_rowsUpTo_b8 at hf
    refine j_iload hC 4 dX5_rowsUpTo_8 (pc' := 10) rfl rfl ?_
    refine j_iload_n hC 1 dX5_rowsUpTo_10 (pc' := 11) rfl rfl ?_
    refine j_icmp_gt hC (tgt := 43) dX5_rowsUpTo_11 (pc' := 14) rfl (by decide) (fun c_ => ?_) (fun c_ => ?_)
    · replace hf := hf.1 c_
      refine j_lload hC 3 dX5_rowsUpTo_43 (pc' := 45) rfl rfl ?_
      exact j_lret hC dX5_rowsUpTo_45 hf
    · replace hf := hf.2 c_
      refine j_lload_n hC 2 dX5_rowsUpTo_14 (pc' := 15) rfl rfl ?_
      refine j_aload_n hC 0 dX5_rowsUpTo_15 (pc' := 16) rfl rfl ?_
      refine gX_counted hC wm_115 dX5_rowsUpTo_16 (pc' := 19) rfl ?_
      refine j_iload hC 4 dX5_rowsUpTo_19 (pc' := 21) rfl rfl ?_
      refine j_isub hC dX5_rowsUpTo_21 (pc' := 22) rfl ?_
      refine j_iconst hC (v := 1) dX5_rowsUpTo_22 (pc' := 23) rfl (by decide) ?_
      refine j_iadd hC dX5_rowsUpTo_23 (pc' := 24) rfl ?_
      refine j_i2l hC dX5_rowsUpTo_24 (pc' := 25) rfl ?_
      refine j_lmul hC dX5_rowsUpTo_25 (pc' := 26) rfl ?_
      refine j_iload hC 4 dX5_rowsUpTo_26 (pc' := 28) rfl rfl ?_
      refine j_i2l hC dX5_rowsUpTo_28 (pc' := 29) rfl ?_
      obtain ⟨h1, hf⟩ := hf
      refine j_ldiv hC dX5_rowsUpTo_29 (pc' := 30) rfl h1 ?_
      refine j_nml (fun x2 ex2 => ?_)
      replace hf := hf x2 ex2
      refine j_lstore_n hC (lv' := [(2, .long x2), (0, .ref (q 7)), (1, .int a1), (4, .long a4), (6, .int a6)]) dX5_rowsUpTo_30 (pc' := 31) rfl rfl (by decide) rfl ?_
      refine j_lload hC 3 dX5_rowsUpTo_31 (pc' := 33) rfl rfl ?_
      refine j_lload_n hC 0 dX5_rowsUpTo_33 (pc' := 34) rfl rfl ?_
      refine j_ladd hC dX5_rowsUpTo_34 (pc' := 35) rfl ?_
      refine j_nml (fun x3 ex3 => ?_)
      replace hf := hf x3 ex3
      refine j_lstore hC (lv' := [(4, .long x3), (2, .long x2), (0, .ref (q 7)), (1, .int a1), (6, .int a6)]) dX5_rowsUpTo_35 (pc' := 37) rfl (by decide) rfl ?_
      obtain ⟨x4, ex4⟩ : ∃ y : Int32, y = a6 + (1 : Int32) := ⟨_, rfl⟩
      replace hf := hf x4 ex4
      refine j_iinc hC (v := x4) (q := 4) (lv' := [(6, .int x4), (4, .long x3), (2, .long x2), (0, .ref (q 7)), (1, .int a1)]) dX5_rowsUpTo_37 (pc' := 40) rfl rfl (by rw [ex4]; rfl) (by decide) rfl ?_
      refine j_goto hC (tgt := 8) dX5_rowsUpTo_40 (by decide) ?_
      refine j_lv [3, 4, 2, 1, 0] rfl ?_
      exact ih a1 x2 x3 x4 σ hf
set_option maxHeartbeats 4000000 in
set_option maxRecDepth 100000 in
theorem lk_X5_rowsUpTo {l : Launch} {D : va_G} {q : Nat → Nat} {ca : Nat → ClassId} {t : Nat} (hE : qok 28 q) (a1 : Int32) (σ : St) (Q : Int64 → St → Prop) (hf : f_X5_rowsUpTo a1 σ Q) : Ml l yX5_rowsUpTo cX5_rowsUpTo 7 (some .long) { frames := 0, cells := 0, slots := 0, locals := 0 } D (tysX ca) (ZX q t) (wX q ca) (AX q) [.ref (q 7), .int a1] σ Q := by
  refine j_start (own := RX5) (lv := [(0, .ref (q 7)), (1, .int a1)]) [.ref (q 7), .int a1] (by decide +kernel) rfl (wX_D hE σ) (Nat.le_of_ble_eq_true rfl) rfl (fun p e s m args below meth c hC => ?_)
  unfold f_X5_rowsUpTo at hf
  refine j_lconst hC (v := 1) dX5_rowsUpTo_0 (pc' := 1) rfl (by decide) ?_
  refine j_lstore_n hC (lv' := [(2, .long (1 : Int64)), (0, .ref (q 7)), (1, .int a1)]) dX5_rowsUpTo_1 (pc' := 2) rfl rfl (by decide) rfl ?_
  refine j_lconst hC (v := 1) dX5_rowsUpTo_2 (pc' := 3) rfl (by decide) ?_
  refine j_lstore hC (lv' := [(4, .long (1 : Int64)), (2, .long (1 : Int64)), (0, .ref (q 7)), (1, .int a1)]) dX5_rowsUpTo_3 (pc' := 5) rfl (by decide) rfl ?_
  refine j_iconst hC (v := 1) dX5_rowsUpTo_5 (pc' := 6) rfl (by decide) ?_
  refine j_istore hC (lv' := [(6, .int (1 : Int32)), (4, .long (1 : Int64)), (2, .long (1 : Int64)), (0, .ref (q 7)), (1, .int a1)]) dX5_rowsUpTo_6 (pc' := 8) rfl (by decide) rfl ?_
  obtain ⟨n5, hf⟩ := hf
  refine j_lv [3, 4, 2, 1, 0] rfl ?_
  exact lb_X5_rowsUpTo_b8 hE hC Q n5 a1 (1 : Int64) (1 : Int64) (1 : Int32) σ hf
def f_J9_min_f86c9 (a0 : Int64) (a2 : Int64) (σ : St) (Q : Int64 → St → Prop) : Prop := (a2 < a0 → Q a2 σ) ∧ ((¬ a2 < a0) → Q a0 σ)
theorem dy_J9_min_f86c9 : yJ9_min_f86c9.cls ≠ "java/lang/invoke/MethodHandle" ∧ yJ9_min_f86c9.cls ≠ "java/lang/invoke/VarHandle" ∧ (parseMethodDescriptor yJ9_min_f86c9.desc).map (fun d => d.parameters.length) = some 2 := by decide +kernel
set_option maxHeartbeats 4000000 in
set_option maxRecDepth 100000 in
theorem lk_J9_min_f86c9 {l : Launch} {D : va_G} {q : Nat → Nat} {ca : Nat → ClassId} {t : Nat} (hE : qok 28 q) (a0 : Int64) (a2 : Int64) (σ : St) (Q : Int64 → St → Prop) (hf : f_J9_min_f86c9 a0 a2 σ Q) : Ml l yJ9_min_f86c9 cJ9_min_f86c9 4 (some .long) { frames := 0, cells := 0, slots := 0, locals := 0 } D (tysX ca) (ZX q t) (wX q ca) (AX q) [.long a0, .long a2] σ Q := by
  refine j_start (own := RJ9) (lv := [(0, .long a0), (2, .long a2)]) [.long a0, .long a2] (by decide +kernel) rfl (wX_D hE σ) (Nat.le_of_ble_eq_true rfl) rfl (fun p e s m args below meth c hC => ?_)
  unfold f_J9_min_f86c9 at hf
  refine j_lload_n hC 0 dJ9_min_f86c9_0 (pc' := 1) rfl rfl ?_
  refine j_lload_n hC 1 dJ9_min_f86c9_1 (pc' := 2) rfl rfl ?_
  refine j_lcmp hC dJ9_min_f86c9_2 (pc' := 3) rfl ?_
  refine j_if_gt hC (tgt := 10) dJ9_min_f86c9_3 (pc' := 6) rfl (by decide) (fun c_ => ?_) (fun c_ => ?_)
  · replace hf := hf.1 ((lgc_gt _ _).mp c_)
    refine j_lload_n hC 1 dJ9_min_f86c9_10 (pc' := 11) rfl rfl ?_
    exact j_lret hC dJ9_min_f86c9_11 hf
  · replace hf := hf.2 (fun z => c_ ((lgc_gt _ _).mpr z))
    refine j_lload_n hC 0 dJ9_min_f86c9_6 (pc' := 7) rfl rfl ?_
    refine j_goto hC (tgt := 11) dJ9_min_f86c9_7 (by decide) ?_
    exact j_lret hC dJ9_min_f86c9_11 hf
def f_X5_millionths (a0 : Int64) (a2 : Int32) (σ : St) (Q : Int32 → St → Prop) : Prop := ∀ x1 : Int64, x1 = (a0 * (1000 : Int64)) >>> (Int32.toInt64 a2 &&& 63) → ∀ x2 : Int64, x2 = (a0 * (1000 : Int64)) - (x1 <<< (Int32.toInt64 a2 &&& 63)) → Q (Int64.toInt32 (((1000 : Int64) * x1) + ((x2 * (1000 : Int64)) >>> (Int32.toInt64 a2 &&& 63)))) σ
theorem dy_X5_millionths : yX5_millionths.cls ≠ "java/lang/invoke/MethodHandle" ∧ yX5_millionths.cls ≠ "java/lang/invoke/VarHandle" ∧ (parseMethodDescriptor yX5_millionths.desc).map (fun d => d.parameters.length) = some 2 := by decide +kernel
set_option maxHeartbeats 4000000 in
set_option maxRecDepth 100000 in
theorem lk_X5_millionths {l : Launch} {D : va_G} {q : Nat → Nat} {ca : Nat → ClassId} {t : Nat} (hE : qok 28 q) (a0 : Int64) (a2 : Int32) (σ : St) (Q : Int32 → St → Prop) (hf : f_X5_millionths a0 a2 σ Q) : Mi l yX5_millionths cX5_millionths 7 (some .int) { frames := 0, cells := 0, slots := 0, locals := 0 } D (tysX ca) (ZX q t) (wX q ca) (AX q) [.long a0, .int a2] σ Q := by
  refine j_start (own := RX5) (lv := [(0, .long a0), (2, .int a2)]) [.long a0, .int a2] (by decide +kernel) rfl (wX_D hE σ) (Nat.le_of_ble_eq_true rfl) rfl (fun p e s m args below meth c hC => ?_)
  unfold f_X5_millionths at hf
  refine j_lload_n hC 0 dX5_millionths_0 (pc' := 1) rfl rfl ?_
  refine j_ldc2 hC (v := 1000) dX5_millionths_1 (pc' := 4) rfl wm_493 ?_
  refine j_lmul hC dX5_millionths_4 (pc' := 5) rfl ?_
  refine j_iload_n hC 1 dX5_millionths_5 (pc' := 6) rfl rfl ?_
  refine j_lshr hC dX5_millionths_6 (pc' := 7) rfl ?_
  refine j_nml (fun x1 ex1 => ?_)
  replace hf := hf x1 ex1
  refine j_lstore_n hC (lv' := [(3, .long x1), (0, .long a0), (2, .int a2)]) dX5_millionths_7 (pc' := 8) rfl rfl (by decide) rfl ?_
  refine j_lload_n hC 1 dX5_millionths_8 (pc' := 9) rfl rfl ?_
  refine j_ldc2 hC (v := 1000) dX5_millionths_9 (pc' := 12) rfl wm_493 ?_
  refine j_lmul hC dX5_millionths_12 (pc' := 13) rfl ?_
  refine j_lload_n hC 0 dX5_millionths_13 (pc' := 14) rfl rfl ?_
  refine j_iload_n hC 2 dX5_millionths_14 (pc' := 15) rfl rfl ?_
  refine j_lshl hC dX5_millionths_15 (pc' := 16) rfl ?_
  refine j_lsub hC dX5_millionths_16 (pc' := 17) rfl ?_
  refine j_nml (fun x2 ex2 => ?_)
  replace hf := hf x2 ex2
  refine j_lstore hC (lv' := [(5, .long x2), (3, .long x1), (0, .long a0), (2, .int a2)]) dX5_millionths_17 (pc' := 19) rfl (by decide) rfl ?_
  refine j_ldc2 hC (v := 1000) dX5_millionths_19 (pc' := 22) rfl wm_493 ?_
  refine j_lload_n hC 1 dX5_millionths_22 (pc' := 23) rfl rfl ?_
  refine j_lmul hC dX5_millionths_23 (pc' := 24) rfl ?_
  refine j_lload hC 0 dX5_millionths_24 (pc' := 26) rfl rfl ?_
  refine j_ldc2 hC (v := 1000) dX5_millionths_26 (pc' := 29) rfl wm_493 ?_
  refine j_lmul hC dX5_millionths_29 (pc' := 30) rfl ?_
  refine j_iload_n hC 3 dX5_millionths_30 (pc' := 31) rfl rfl ?_
  refine j_lshr hC dX5_millionths_31 (pc' := 32) rfl ?_
  refine j_ladd hC dX5_millionths_32 (pc' := 33) rfl ?_
  refine j_l2i hC dX5_millionths_33 (pc' := 34) rfl ?_
  exact j_iret hC dX5_millionths_34 hf
def f_X5_falseShare (σ : St) (Q : Int32 → St → Prop) : Prop := ∀ x1 : Int64, x1 = (1 : Int64) <<< (Int32.toInt64 (σ.1 14 0) &&& 63) → f_J9_min_7cf53 (σ.1 15 0) ((σ.1 14 0) - (σ.1 15 0)) σ (fun r2 σ3 => f_X5_rowsUpTo r2 σ3 (fun r4 σ5 => f_J9_min_f86c9 x1 ((2 : Int64) * r4) σ5 (fun r6 σ7 => f_X5_millionths r6 (σ7.1 14 0) σ7 (fun r8 σ9 => Q r8 σ9))))
theorem dy_X5_falseShare : yX5_falseShare.cls = yX5_falseShare.cls ∧ yX5_falseShare.cls ≠ "java/lang/invoke/MethodHandle" ∧ yX5_falseShare.cls ≠ "java/lang/invoke/VarHandle" ∧ (parseMethodDescriptor yX5_falseShare.desc).map (fun d => d.parameters.length) = some 0 := by decide +kernel
set_option maxHeartbeats 4000000 in
set_option maxRecDepth 100000 in
theorem lk_X5_falseShare {l : Launch} {D : va_G} {q : Nat → Nat} {ca : Nat → ClassId} {t : Nat} (hE : qok 28 q) (σ : St) (Q : Int32 → St → Prop) (hf : f_X5_falseShare σ Q) : Mi l yX5_falseShare cX5_falseShare 3 (some .int) { frames := 1, cells := 0, slots := 0, locals := 26 } D (tysX ca) (ZX q t) (wX q ca) (AX q) [.ref (q 7)] σ Q := by
  refine j_start (own := RX5) (lv := [(0, .ref (q 7))]) [.ref (q 7)] (by decide +kernel) rfl (wX_D hE σ) (Nat.le_of_ble_eq_true rfl) rfl (fun p e s m args below meth c hC => ?_)
  unfold f_X5_falseShare at hf
  refine j_lconst hC (v := 1) dX5_falseShare_0 (pc' := 1) rfl (by decide) ?_
  refine j_aload_n hC 0 dX5_falseShare_1 (pc' := 2) rfl rfl ?_
  refine gX_counted hC wm_115 dX5_falseShare_2 (pc' := 5) rfl ?_
  refine j_lshl hC dX5_falseShare_5 (pc' := 6) rfl ?_
  refine j_nml (fun x1 ex1 => ?_)
  replace hf := hf x1 ex1
  refine j_lstore_n hC (lv' := [(1, .long x1), (0, .ref (q 7))]) dX5_falseShare_6 (pc' := 7) rfl rfl (by decide) rfl ?_
  refine j_lload_n hC 0 dX5_falseShare_7 (pc' := 8) rfl rfl ?_
  refine j_ldc2 hC (v := 2) dX5_falseShare_8 (pc' := 11) rfl wm_484 ?_
  refine j_aload_n hC 1 dX5_falseShare_11 (pc' := 12) rfl rfl ?_
  refine j_aload_n hC 1 dX5_falseShare_12 (pc' := 13) rfl rfl ?_
  refine gX_above hC wm_117 dX5_falseShare_13 (pc' := 16) rfl ?_
  refine j_aload_n hC 1 dX5_falseShare_16 (pc' := 17) rfl rfl ?_
  refine gX_counted hC wm_115 dX5_falseShare_17 (pc' := 20) rfl ?_
  refine j_aload_n hC 1 dX5_falseShare_20 (pc' := 21) rfl rfl ?_
  refine gX_above hC wm_117 dX5_falseShare_21 (pc' := 24) rfl ?_
  refine j_isub hC dX5_falseShare_24 (pc' := 25) rfl ?_
  refine jcS_i hC (eX hE) (As := [.int (σ.1 15 0), .int ((σ.1 14 0) - (σ.1 15 0))]) (lk_J9_min_7cf53 hE (σ.1 15 0) ((σ.1 14 0) - (σ.1 15 0)) σ _ hf) wm_485 wm_362 wm_11 wm_363 dy_J9_min_7cf53 ⟨rfl, rfl⟩ ⟨Nat.le_of_ble_eq_true rfl, Nat.le_of_ble_eq_true rfl⟩ ⟨Nat.le_refl _, Nat.le_refl _⟩ rfl rfl (Nat.le_of_ble_eq_true rfl) dX5_falseShare_25 (pc' := 28) rfl (fun r2 σ3 hf => ?_)
  refine jcV_l hC (eX hE) (As := [.int r2]) (obX_X5) (rfl) (lk_X5_rowsUpTo hE r2 σ3 _ hf) wm_486 wm_487 wm_898 wm_6 wm_488 dy_X5_rowsUpTo ⟨rfl, rfl⟩ ⟨Nat.le_of_ble_eq_true rfl, Nat.le_of_ble_eq_true rfl⟩ ⟨Nat.le_refl _, Nat.le_refl _⟩ rfl rfl (Nat.le_of_ble_eq_true rfl) dX5_falseShare_28 (pc' := 31) rfl (fun r4 σ5 hf => ?_)
  refine j_lmul hC dX5_falseShare_31 (pc' := 32) rfl ?_
  refine jcS_l hC (eX hE) (As := [.long x1, .long ((2 : Int64) * r4)]) (lk_J9_min_f86c9 hE x1 ((2 : Int64) * r4) σ5 _ hf) wm_489 wm_299 wm_11 wm_300 dy_J9_min_f86c9 ⟨rfl, rfl⟩ ⟨Nat.le_of_ble_eq_true rfl, Nat.le_of_ble_eq_true rfl⟩ ⟨Nat.le_refl _, Nat.le_refl _⟩ rfl rfl (Nat.le_of_ble_eq_true rfl) dX5_falseShare_32 (pc' := 35) rfl (fun r6 σ7 hf => ?_)
  refine j_aload_n hC 1 dX5_falseShare_35 (pc' := 36) rfl rfl ?_
  refine gX_counted hC wm_115 dX5_falseShare_36 (pc' := 39) rfl ?_
  refine jcS_i hC (eX hE) (As := [.long r6, .int (σ7.1 14 0)]) (lk_X5_millionths hE r6 (σ7.1 14 0) σ7 _ hf) wm_490 wm_491 wm_6 wm_492 dy_X5_millionths ⟨rfl, rfl⟩ ⟨Nat.le_of_ble_eq_true rfl, Nat.le_of_ble_eq_true rfl⟩ ⟨Nat.le_refl _, Nat.le_refl _⟩ rfl rfl (Nat.le_of_ble_eq_true rfl) dX5_falseShare_39 (pc' := 42) rfl (fun r8 σ9 hf => ?_)
  exact j_iret hC dX5_falseShare_42 hf
def f_J7_fill_d0a16_c_b6 (Q : St → Prop) : Nat → Int64 → Int32 → Int32 → St → Prop
  | 0, _, _, _, _ => False
  | n + 1, a1, a3, a4, σ => (a4 ≤ a3 → Q σ) ∧ ((¬ a4 ≤ a3) → vp_in a3 9 ∧ ∀ σ2 : St, σ2 = sL σ 0 (Int32.toNatClampNeg a3) a1 → ∀ x3 : Int32, x3 = a3 + (1 : Int32) → f_J7_fill_d0a16_c_b6 Q  n a1 x3 a4 σ2)
def f_J7_fill_d0a16_c (a1 : Int64) (σ : St) (Q : St → Prop) : Prop := ∃ n4 : Nat, f_J7_fill_d0a16_c_b6 Q n4 a1 (0 : Int32) (9 : Int32) σ
theorem dy_J7_fill_d0a16 : yJ7_fill_d0a16.cls ≠ "java/lang/invoke/MethodHandle" ∧ yJ7_fill_d0a16.cls ≠ "java/lang/invoke/VarHandle" ∧ (parseMethodDescriptor yJ7_fill_d0a16.desc).map (fun d => d.parameters.length) = some 2 := by decide +kernel
set_option maxHeartbeats 4000000 in
set_option maxRecDepth 100000 in
theorem lb_J7_fill_d0a16_c_b6 {l : Launch} {D : va_G} {q : Nat → Nat} {ca : Nat → ClassId} {t : Nat} {p : Program} {e : Env} {s : State} {m : MethodId} {args : Array Value} {below : List Frame} {meth : Method} {c : Code} (hE : qok 28 q) (hC : Cx p s m args meth c cJ7_fill_d0a16 5 RJ7 none D (tysX ca) (ZX q t)) (Q : St → Prop) : ∀ (n : Nat) (a1 : Int64) (a3 : Int32) (a4 : Int32) (σ : St), f_J7_fill_d0a16_c_b6 Q n a1 a3 a4 σ → J p l e { frames := 0, cells := 0, slots := 0, locals := 0 } s m args below meth c (MQ below (va_Qv Q (BW D (wX q ca)) (AX q)) args s 0 0 (AX q)) D (AX q) 5 0 0 (wX q ca σ) 6 [(0, .ref (q 12)), (1, .long a1), (3, .int a3), (4, .int a4)] [] := by
  intro n
  induction n with
  | zero => intro a1 a3 a4 σ hf; exact hf.elim
  | succ n ih =>
    intro a1 a3 a4 σ hf
    unfold f_J7_fill_d0a16_c_b6 at hf
    refine j_iload_n hC 2 dJ7_fill_d0a16_6 (pc' := 7) rfl rfl ?_
    refine j_iload hC 3 dJ7_fill_d0a16_7 (pc' := 9) rfl rfl ?_
    refine j_icmp_ge hC (tgt := 22) dJ7_fill_d0a16_9 (pc' := 12) rfl (by decide) (fun c_ => ?_) (fun c_ => ?_)
    · replace hf := hf.1 c_
      exact j_vret hC dJ7_fill_d0a16_22 hf
    · replace hf := hf.2 c_
      refine j_aload_n hC 0 dJ7_fill_d0a16_12 (pc' := 13) rfl rfl ?_
      refine j_iload_n hC 2 dJ7_fill_d0a16_13 (pc' := 14) rfl rfl ?_
      refine j_lload_n hC 1 dJ7_fill_d0a16_14 (pc' := 15) rfl rfl ?_
      obtain ⟨h1, hf⟩ := hf
      refine sX_cells hC (j := (Int32.toNatClampNeg a3)) h1 rfl dJ7_fill_d0a16_15 (pc' := 16) rfl ?_
      refine j_nms (wf := wX q ca) (fun σ2 eσ2 => ?_)
      replace hf := hf σ2 eσ2
      obtain ⟨x3, ex3⟩ : ∃ y : Int32, y = a3 + (1 : Int32) := ⟨_, rfl⟩
      replace hf := hf x3 ex3
      refine j_iinc hC (v := x3) (q := 2) (lv' := [(3, .int x3), (0, .ref (q 12)), (1, .long a1), (4, .int a4)]) dJ7_fill_d0a16_16 (pc' := 19) rfl rfl (by rw [ex3]; rfl) (by decide) rfl ?_
      refine j_goto hC (tgt := 6) dJ7_fill_d0a16_19 (by decide) ?_
      refine j_lv [1, 2, 0, 3] rfl ?_
      exact ih a1 x3 a4 σ2 hf
set_option maxHeartbeats 4000000 in
set_option maxRecDepth 100000 in
theorem lk_J7_fill_d0a16_c {l : Launch} {D : va_G} {q : Nat → Nat} {ca : Nat → ClassId} {t : Nat} (hE : qok 28 q) (a1 : Int64) (σ : St) (Q : St → Prop) (hf : f_J7_fill_d0a16_c a1 σ Q) : Mv l yJ7_fill_d0a16 cJ7_fill_d0a16 5 none { frames := 0, cells := 0, slots := 0, locals := 0 } D (tysX ca) (ZX q t) (wX q ca) (AX q) [.ref (q 12), .long a1] σ Q := by
  refine j_start (own := RJ7) (lv := [(0, .ref (q 12)), (1, .long a1)]) [.ref (q 12), .long a1] (by decide +kernel) rfl (wX_D hE σ) (Nat.le_of_ble_eq_true rfl) rfl (fun p e s m args below meth c hC => ?_)
  unfold f_J7_fill_d0a16_c at hf
  refine j_iconst hC (v := 0) dJ7_fill_d0a16_0 (pc' := 1) rfl (by decide) ?_
  refine j_istore_n hC (lv' := [(3, .int (0 : Int32)), (0, .ref (q 12)), (1, .long a1)]) dJ7_fill_d0a16_1 (pc' := 2) rfl rfl (by decide) rfl ?_
  refine j_aload_n hC 1 dJ7_fill_d0a16_2 (pc' := 3) rfl rfl ?_
  refine nX_cells hC dJ7_fill_d0a16_3 (pc' := 4) rfl ?_
  refine j_istore hC (lv' := [(4, .int (9 : Int32)), (3, .int (0 : Int32)), (0, .ref (q 12)), (1, .long a1)]) dJ7_fill_d0a16_4 (pc' := 6) rfl (by decide) rfl ?_
  obtain ⟨n4, hf⟩ := hf
  refine j_lv [2, 3, 1, 0] rfl ?_
  exact lb_J7_fill_d0a16_c_b6 hE hC Q n4 a1 (0 : Int32) (9 : Int32) σ hf
def f_J7_fill_d0a16_r_b6 (Q : St → Prop) : Nat → Int64 → Int32 → Int32 → St → Prop
  | 0, _, _, _, _ => False
  | n + 1, a1, a3, a4, σ => (a4 ≤ a3 → Q σ) ∧ ((¬ a4 ≤ a3) → vp_in a3 3 ∧ ∀ σ2 : St, σ2 = sL σ 1 (Int32.toNatClampNeg a3) a1 → ∀ x3 : Int32, x3 = a3 + (1 : Int32) → f_J7_fill_d0a16_r_b6 Q  n a1 x3 a4 σ2)
def f_J7_fill_d0a16_r (a1 : Int64) (σ : St) (Q : St → Prop) : Prop := ∃ n4 : Nat, f_J7_fill_d0a16_r_b6 Q n4 a1 (0 : Int32) (3 : Int32) σ
set_option maxHeartbeats 4000000 in
set_option maxRecDepth 100000 in
theorem lb_J7_fill_d0a16_r_b6 {l : Launch} {D : va_G} {q : Nat → Nat} {ca : Nat → ClassId} {t : Nat} {p : Program} {e : Env} {s : State} {m : MethodId} {args : Array Value} {below : List Frame} {meth : Method} {c : Code} (hE : qok 28 q) (hC : Cx p s m args meth c cJ7_fill_d0a16 5 RJ7 none D (tysX ca) (ZX q t)) (Q : St → Prop) : ∀ (n : Nat) (a1 : Int64) (a3 : Int32) (a4 : Int32) (σ : St), f_J7_fill_d0a16_r_b6 Q n a1 a3 a4 σ → J p l e { frames := 0, cells := 0, slots := 0, locals := 0 } s m args below meth c (MQ below (va_Qv Q (BW D (wX q ca)) (AX q)) args s 0 0 (AX q)) D (AX q) 5 0 0 (wX q ca σ) 6 [(0, .ref (q 13)), (1, .long a1), (3, .int a3), (4, .int a4)] [] := by
  intro n
  induction n with
  | zero => intro a1 a3 a4 σ hf; exact hf.elim
  | succ n ih =>
    intro a1 a3 a4 σ hf
    unfold f_J7_fill_d0a16_r_b6 at hf
    refine j_iload_n hC 2 dJ7_fill_d0a16_6 (pc' := 7) rfl rfl ?_
    refine j_iload hC 3 dJ7_fill_d0a16_7 (pc' := 9) rfl rfl ?_
    refine j_icmp_ge hC (tgt := 22) dJ7_fill_d0a16_9 (pc' := 12) rfl (by decide) (fun c_ => ?_) (fun c_ => ?_)
    · replace hf := hf.1 c_
      exact j_vret hC dJ7_fill_d0a16_22 hf
    · replace hf := hf.2 c_
      refine j_aload_n hC 0 dJ7_fill_d0a16_12 (pc' := 13) rfl rfl ?_
      refine j_iload_n hC 2 dJ7_fill_d0a16_13 (pc' := 14) rfl rfl ?_
      refine j_lload_n hC 1 dJ7_fill_d0a16_14 (pc' := 15) rfl rfl ?_
      obtain ⟨h1, hf⟩ := hf
      refine sX_right hC (j := (Int32.toNatClampNeg a3)) h1 rfl dJ7_fill_d0a16_15 (pc' := 16) rfl ?_
      refine j_nms (wf := wX q ca) (fun σ2 eσ2 => ?_)
      replace hf := hf σ2 eσ2
      obtain ⟨x3, ex3⟩ : ∃ y : Int32, y = a3 + (1 : Int32) := ⟨_, rfl⟩
      replace hf := hf x3 ex3
      refine j_iinc hC (v := x3) (q := 2) (lv' := [(3, .int x3), (0, .ref (q 13)), (1, .long a1), (4, .int a4)]) dJ7_fill_d0a16_16 (pc' := 19) rfl rfl (by rw [ex3]; rfl) (by decide) rfl ?_
      refine j_goto hC (tgt := 6) dJ7_fill_d0a16_19 (by decide) ?_
      refine j_lv [1, 2, 0, 3] rfl ?_
      exact ih a1 x3 a4 σ2 hf
set_option maxHeartbeats 4000000 in
set_option maxRecDepth 100000 in
theorem lk_J7_fill_d0a16_r {l : Launch} {D : va_G} {q : Nat → Nat} {ca : Nat → ClassId} {t : Nat} (hE : qok 28 q) (a1 : Int64) (σ : St) (Q : St → Prop) (hf : f_J7_fill_d0a16_r a1 σ Q) : Mv l yJ7_fill_d0a16 cJ7_fill_d0a16 5 none { frames := 0, cells := 0, slots := 0, locals := 0 } D (tysX ca) (ZX q t) (wX q ca) (AX q) [.ref (q 13), .long a1] σ Q := by
  refine j_start (own := RJ7) (lv := [(0, .ref (q 13)), (1, .long a1)]) [.ref (q 13), .long a1] (by decide +kernel) rfl (wX_D hE σ) (Nat.le_of_ble_eq_true rfl) rfl (fun p e s m args below meth c hC => ?_)
  unfold f_J7_fill_d0a16_r at hf
  refine j_iconst hC (v := 0) dJ7_fill_d0a16_0 (pc' := 1) rfl (by decide) ?_
  refine j_istore_n hC (lv' := [(3, .int (0 : Int32)), (0, .ref (q 13)), (1, .long a1)]) dJ7_fill_d0a16_1 (pc' := 2) rfl rfl (by decide) rfl ?_
  refine j_aload_n hC 1 dJ7_fill_d0a16_2 (pc' := 3) rfl rfl ?_
  refine nX_right hC dJ7_fill_d0a16_3 (pc' := 4) rfl ?_
  refine j_istore hC (lv' := [(4, .int (3 : Int32)), (3, .int (0 : Int32)), (0, .ref (q 13)), (1, .long a1)]) dJ7_fill_d0a16_4 (pc' := 6) rfl (by decide) rfl ?_
  obtain ⟨n4, hf⟩ := hf
  refine j_lv [2, 3, 1, 0] rfl ?_
  exact lb_J7_fill_d0a16_r_b6 hE hC Q n4 a1 (0 : Int32) (3 : Int32) σ hf
def f_X6_forget (σ : St) (Q : St → Prop) : Prop := f_J7_fill_d0a16_c (0 : Int64) σ (fun σ2 => f_J7_fill_d0a16_r (0 : Int64) σ2 (fun σ4 => Q σ4))
theorem dy_X6_forget : yX6_forget.cls = yX6_forget.cls ∧ yX6_forget.cls ≠ "java/lang/invoke/MethodHandle" ∧ yX6_forget.cls ≠ "java/lang/invoke/VarHandle" ∧ (parseMethodDescriptor yX6_forget.desc).map (fun d => d.parameters.length) = some 0 := by decide +kernel
set_option maxHeartbeats 4000000 in
set_option maxRecDepth 100000 in
theorem lk_X6_forget {l : Launch} {D : va_G} {q : Nat → Nat} {ca : Nat → ClassId} {t : Nat} (hE : qok 28 q) (σ : St) (Q : St → Prop) (hf : f_X6_forget σ Q) : Mv l yX6_forget cX6_forget 1 none { frames := 1, cells := 0, slots := 0, locals := 24 } D (tysX ca) (ZX q t) (wX q ca) (AX q) [.ref (q 4)] σ Q := by
  refine j_start (own := RX6) (lv := [(0, .ref (q 4))]) [.ref (q 4)] (by decide +kernel) rfl (wX_D hE σ) (Nat.le_of_ble_eq_true rfl) rfl (fun p e s m args below meth c hC => ?_)
  unfold f_X6_forget at hf
  refine j_aload_n hC 0 dX6_forget_0 (pc' := 1) rfl rfl ?_
  refine gX_cells hC wm_52 dX6_forget_1 (pc' := 4) rfl ?_
  refine j_lconst hC (v := 0) dX6_forget_4 (pc' := 5) rfl (by decide) ?_
  refine jcS_v hC (eX hE) (As := [.ref (q 12), .long (0 : Int64)]) (lk_J7_fill_d0a16_c hE (0 : Int64) σ _ hf) wm_250 wm_251 wm_10 wm_252 dy_J7_fill_d0a16 ⟨rfl, rfl⟩ ⟨Nat.le_of_ble_eq_true rfl, Nat.le_of_ble_eq_true rfl⟩ ⟨Nat.le_refl _, Nat.le_refl _⟩ rfl rfl (Nat.le_of_ble_eq_true rfl) dX6_forget_5 (pc' := 8) rfl (fun σ2 hf => ?_)
  refine j_aload_n hC 0 dX6_forget_8 (pc' := 9) rfl rfl ?_
  refine gX_right hC wm_54 dX6_forget_9 (pc' := 12) rfl ?_
  refine j_lconst hC (v := 0) dX6_forget_12 (pc' := 13) rfl (by decide) ?_
  refine jcS_v hC (eX hE) (As := [.ref (q 13), .long (0 : Int64)]) (lk_J7_fill_d0a16_r hE (0 : Int64) σ2 _ hf) wm_250 wm_251 wm_10 wm_252 dy_J7_fill_d0a16 ⟨rfl, rfl⟩ ⟨Nat.le_of_ble_eq_true rfl, Nat.le_of_ble_eq_true rfl⟩ ⟨Nat.le_refl _, Nat.le_refl _⟩ rfl rfl (Nat.le_of_ble_eq_true rfl) dX6_forget_13 (pc' := 16) rfl (fun σ4 hf => ?_)
  exact j_vret hC dX6_forget_16 hf
def f_X6_addLeft_b2 (Q : St → Prop) : Nat → Int32 → Int32 → St → Prop
  | 0, _, _, _ => False
  | n + 1, a2, a3, σ => ((9 : Int32) ≤ a3 → Q σ) ∧ ((¬ (9 : Int32) ≤ a3) → vp_in a3 9 ∧ vp_in (((9 : Int32) * a2) + a3) 180 ∧ vp_in a3 9 ∧ ∀ σ4 : St, σ4 = sL σ 0 (Int32.toNatClampNeg a3) ((σ.2 0 (Int32.toNatClampNeg a3)) + (Int32.toInt64 (σ.1 2 (Int32.toNatClampNeg (((9 : Int32) * a2) + a3))))) → ∀ x5 : Int32, x5 = a3 + (1 : Int32) → f_X6_addLeft_b2 Q  n a2 x5 σ4)
def f_X6_addLeft (a2 : Int32) (σ : St) (Q : St → Prop) : Prop := ∃ n6 : Nat, f_X6_addLeft_b2 Q n6 a2 (0 : Int32) σ
theorem dy_X6_addLeft : yX6_addLeft.cls = yX6_addLeft.cls ∧ yX6_addLeft.cls ≠ "java/lang/invoke/MethodHandle" ∧ yX6_addLeft.cls ≠ "java/lang/invoke/VarHandle" ∧ (parseMethodDescriptor yX6_addLeft.desc).map (fun d => d.parameters.length) = some 2 := by decide +kernel
set_option maxHeartbeats 4000000 in
set_option maxRecDepth 100000 in
theorem lb_X6_addLeft_b2 {l : Launch} {D : va_G} {q : Nat → Nat} {ca : Nat → ClassId} {t : Nat} {p : Program} {e : Env} {s : State} {m : MethodId} {args : Array Value} {below : List Frame} {meth : Method} {c : Code} (hE : qok 28 q) (hC : Cx p s m args meth c cX6_addLeft 4 RX6 none D (tysX ca) (ZX q t)) (Q : St → Prop) : ∀ (n : Nat) (a2 : Int32) (a3 : Int32) (σ : St), f_X6_addLeft_b2 Q n a2 a3 σ → J p l e { frames := 0, cells := 0, slots := 0, locals := 0 } s m args below meth c (MQ below (va_Qv Q (BW D (wX q ca)) (AX q)) args s 0 0 (AX q)) D (AX q) 4 0 0 (wX q ca σ) 2 [(0, .ref (q 4)), (1, .ref (q 1)), (2, .int a2), (3, .int a3)] [] := by
  intro n
  induction n with
  | zero => intro a2 a3 σ hf; exact hf.elim
  | succ n ih =>
    intro a2 a3 σ hf
    unfold f_X6_addLeft_b2 at hf
    refine j_iload_n hC 3 dX6_addLeft_2 (pc' := 3) rfl rfl ?_
    refine j_bipush hC (v := 9) dX6_addLeft_3 (pc' := 5) rfl (by decide) ?_
    refine j_icmp_ge hC (tgt := 35) dX6_addLeft_5 (pc' := 8) rfl (by decide) (fun c_ => ?_) (fun c_ => ?_)
    · replace hf := hf.1 c_
      exact j_vret hC dX6_addLeft_35 hf
    · replace hf := hf.2 c_
      refine j_aload_n hC 0 dX6_addLeft_8 (pc' := 9) rfl rfl ?_
      refine gX_cells hC wm_52 dX6_addLeft_9 (pc' := 12) rfl ?_
      refine j_iload_n hC 3 dX6_addLeft_12 (pc' := 13) rfl rfl ?_
      refine j_dup2 hC dX6_addLeft_13 (pc' := 14) rfl rfl rfl ?_
      obtain ⟨h1, hf⟩ := hf
      refine lX_cells hC (j := (Int32.toNatClampNeg a3)) h1 rfl dX6_addLeft_14 (pc' := 15) rfl ?_
      refine j_aload_n hC 1 dX6_addLeft_15 (pc' := 16) rfl rfl ?_
      refine gX_products hC wm_33 dX6_addLeft_16 (pc' := 19) rfl ?_
      refine j_bipush hC (v := 9) dX6_addLeft_19 (pc' := 21) rfl (by decide) ?_
      refine j_iload_n hC 2 dX6_addLeft_21 (pc' := 22) rfl rfl ?_
      refine j_imul hC dX6_addLeft_22 (pc' := 23) rfl ?_
      refine j_iload_n hC 3 dX6_addLeft_23 (pc' := 24) rfl rfl ?_
      refine j_iadd hC dX6_addLeft_24 (pc' := 25) rfl ?_
      obtain ⟨h2, hf⟩ := hf
      refine lX_products hC (j := (Int32.toNatClampNeg (((9 : Int32) * a2) + a3))) h2 rfl dX6_addLeft_25 (pc' := 26) rfl ?_
      refine j_i2l hC dX6_addLeft_26 (pc' := 27) rfl ?_
      refine j_ladd hC dX6_addLeft_27 (pc' := 28) rfl ?_
      obtain ⟨h3, hf⟩ := hf
      refine sX_cells hC (j := (Int32.toNatClampNeg a3)) h3 rfl dX6_addLeft_28 (pc' := 29) rfl ?_
      refine j_nms (wf := wX q ca) (fun σ4 eσ4 => ?_)
      replace hf := hf σ4 eσ4
      obtain ⟨x5, ex5⟩ : ∃ y : Int32, y = a3 + (1 : Int32) := ⟨_, rfl⟩
      replace hf := hf x5 ex5
      refine j_iinc hC (v := x5) (q := 3) (lv' := [(3, .int x5), (0, .ref (q 4)), (1, .ref (q 1)), (2, .int a2)]) dX6_addLeft_29 (pc' := 32) rfl rfl (by rw [ex5]; rfl) (by decide) rfl ?_
      refine j_goto hC (tgt := 2) dX6_addLeft_32 (by decide) ?_
      refine j_lv [1, 2, 3, 0] rfl ?_
      exact ih a2 x5 σ4 hf
set_option maxHeartbeats 4000000 in
set_option maxRecDepth 100000 in
theorem lk_X6_addLeft {l : Launch} {D : va_G} {q : Nat → Nat} {ca : Nat → ClassId} {t : Nat} (hE : qok 28 q) (a2 : Int32) (σ : St) (Q : St → Prop) (hf : f_X6_addLeft a2 σ Q) : Mv l yX6_addLeft cX6_addLeft 4 none { frames := 0, cells := 0, slots := 0, locals := 0 } D (tysX ca) (ZX q t) (wX q ca) (AX q) [.ref (q 4), .ref (q 1), .int a2] σ Q := by
  refine j_start (own := RX6) (lv := [(0, .ref (q 4)), (1, .ref (q 1)), (2, .int a2)]) [.ref (q 4), .ref (q 1), .int a2] (by decide +kernel) rfl (wX_D hE σ) (Nat.le_of_ble_eq_true rfl) rfl (fun p e s m args below meth c hC => ?_)
  unfold f_X6_addLeft at hf
  refine j_iconst hC (v := 0) dX6_addLeft_0 (pc' := 1) rfl (by decide) ?_
  refine j_istore_n hC (lv' := [(3, .int (0 : Int32)), (0, .ref (q 4)), (1, .ref (q 1)), (2, .int a2)]) dX6_addLeft_1 (pc' := 2) rfl rfl (by decide) rfl ?_
  obtain ⟨n6, hf⟩ := hf
  refine j_lv [1, 2, 3, 0] rfl ?_
  exact lb_X6_addLeft_b2 hE hC Q n6 a2 (0 : Int32) σ hf
