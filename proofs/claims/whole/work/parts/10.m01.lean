def f_X2_isPlace (a0 : Int32) (a1 : Int32) (σ : St) (Q : Int32 → St → Prop) : Prop := (a0 < (-3000 : Int32) → Q (0 : Int32) σ) ∧ ((¬ a0 < (-3000 : Int32)) → ((3000 : Int32) < a0 → Q (0 : Int32) σ) ∧ ((¬ (3000 : Int32) < a0) → (a1 < (-3000 : Int32) → Q (0 : Int32) σ) ∧ ((¬ a1 < (-3000 : Int32)) → ((3000 : Int32) < a1 → Q (0 : Int32) σ) ∧ ((¬ (3000 : Int32) < a1) → Q (1 : Int32) σ))))
theorem dy_X2_isPlace : yX2_isPlace.cls ≠ "java/lang/invoke/MethodHandle" ∧ yX2_isPlace.cls ≠ "java/lang/invoke/VarHandle" ∧ (parseMethodDescriptor yX2_isPlace.desc).map (fun d => d.parameters.length) = some 2 := by decide +kernel
set_option maxHeartbeats 4000000 in
set_option maxRecDepth 100000 in
theorem lk_X2_isPlace {l : Launch} {D : va_G} {q : Nat → Nat} {ca : Nat → ClassId} {t : Nat} (hE : qok 28 q) (a0 : Int32) (a1 : Int32) (σ : St) (Q : Int32 → St → Prop) (hf : f_X2_isPlace a0 a1 σ Q) : Mi l yX2_isPlace cX2_isPlace 2 (some .boolean) { frames := 0, cells := 0, slots := 0, locals := 0 } D (tysX ca) (ZX q t) (wX q ca) (AX q) [.int a0, .int a1] σ Q := by
  refine j_start (own := RX2) (lv := [(0, .int a0), (1, .int a1)]) [.int a0, .int a1] (by decide +kernel) rfl (wX_D hE σ) (Nat.le_of_ble_eq_true rfl) rfl (fun p e s m args below meth c hC => ?_)
  unfold f_X2_isPlace at hf
  refine j_iload_n hC 0 dX2_isPlace_0 (pc' := 1) rfl rfl ?_
  refine j_sipush hC (v := -3000) dX2_isPlace_1 (pc' := 4) rfl (by decide) ?_
  refine j_icmp_lt hC (tgt := 32) dX2_isPlace_4 (pc' := 7) rfl (by decide) (fun c_ => ?_) (fun c_ => ?_)
  · replace hf := hf.1 c_
    refine j_iconst hC (v := 0) dX2_isPlace_32 (pc' := 33) rfl (by decide) ?_
    exact j_zret hC dX2_isPlace_33 (Or.inl rfl) hf
  · replace hf := hf.2 c_
    refine j_iload_n hC 0 dX2_isPlace_7 (pc' := 8) rfl rfl ?_
    refine j_sipush hC (v := 3000) dX2_isPlace_8 (pc' := 11) rfl (by decide) ?_
    refine j_icmp_gt hC (tgt := 32) dX2_isPlace_11 (pc' := 14) rfl (by decide) (fun c_ => ?_) (fun c_ => ?_)
    · replace hf := hf.1 c_
      refine j_iconst hC (v := 0) dX2_isPlace_32 (pc' := 33) rfl (by decide) ?_
      exact j_zret hC dX2_isPlace_33 (Or.inl rfl) hf
    · replace hf := hf.2 c_
      refine j_iload_n hC 1 dX2_isPlace_14 (pc' := 15) rfl rfl ?_
      refine j_sipush hC (v := -3000) dX2_isPlace_15 (pc' := 18) rfl (by decide) ?_
      refine j_icmp_lt hC (tgt := 32) dX2_isPlace_18 (pc' := 21) rfl (by decide) (fun c_ => ?_) (fun c_ => ?_)
      · replace hf := hf.1 c_
        refine j_iconst hC (v := 0) dX2_isPlace_32 (pc' := 33) rfl (by decide) ?_
        exact j_zret hC dX2_isPlace_33 (Or.inl rfl) hf
      · replace hf := hf.2 c_
        refine j_iload_n hC 1 dX2_isPlace_21 (pc' := 22) rfl rfl ?_
        refine j_sipush hC (v := 3000) dX2_isPlace_22 (pc' := 25) rfl (by decide) ?_
        refine j_icmp_gt hC (tgt := 32) dX2_isPlace_25 (pc' := 28) rfl (by decide) (fun c_ => ?_) (fun c_ => ?_)
        · replace hf := hf.1 c_
          refine j_iconst hC (v := 0) dX2_isPlace_32 (pc' := 33) rfl (by decide) ?_
          exact j_zret hC dX2_isPlace_33 (Or.inl rfl) hf
        · replace hf := hf.2 c_
          refine j_iconst hC (v := 1) dX2_isPlace_28 (pc' := 29) rfl (by decide) ?_
          refine j_goto hC (tgt := 33) dX2_isPlace_29 (by decide) ?_
          exact j_zret hC dX2_isPlace_33 (Or.inr rfl) hf
def f_X2_keepWithin_b3 (Q : St → Prop) : Nat → Int32 → Int32 → Int32 → Int32 → St → Prop
  | 0, _, _, _, _, _ => False
  | n + 1, a1, a2, a3, a4, σ => ((36 : Int32) ≤ a4 → Q σ) ∧ ((¬ (36 : Int32) ≤ a4) → f_X3_round ((a4 + (36 : Int32)) - a2) σ (fun r1 σ2 => (a3 < r1 → vp_in (((36 : Int32) * a1) + a4) 108 ∧ ∀ σ4 : St, σ4 = sI σ2 11 (Int32.toNatClampNeg (((36 : Int32) * a1) + a4)) (vp_nar .boolean (0 : Int32)) → ∀ x5 : Int32, x5 = a4 + (1 : Int32) → f_X2_keepWithin_b3 Q  n a1 a2 a3 x5 σ4) ∧ ((¬ a3 < r1) → vp_in (((36 : Int32) * a1) + a4) 108 ∧ ∀ σ7 : St, σ7 = sI σ2 11 (Int32.toNatClampNeg (((36 : Int32) * a1) + a4)) (vp_nar .boolean (1 : Int32)) → ∀ x8 : Int32, x8 = a4 + (1 : Int32) → f_X2_keepWithin_b3 Q  n a1 a2 a3 x8 σ7)))
def f_X2_keepWithin (a1 : Int32) (a2 : Int32) (a3 : Int32) (σ : St) (Q : St → Prop) : Prop := ∃ n9 : Nat, f_X2_keepWithin_b3 Q n9 a1 a2 a3 (0 : Int32) σ
theorem dy_X2_keepWithin : yX2_keepWithin.cls = yX2_keepWithin.cls ∧ yX2_keepWithin.cls ≠ "java/lang/invoke/MethodHandle" ∧ yX2_keepWithin.cls ≠ "java/lang/invoke/VarHandle" ∧ (parseMethodDescriptor yX2_keepWithin.desc).map (fun d => d.parameters.length) = some 3 := by decide +kernel
set_option maxHeartbeats 4000000 in
set_option maxRecDepth 100000 in
theorem lb_X2_keepWithin_b3 {l : Launch} {D : va_G} {q : Nat → Nat} {ca : Nat → ClassId} {t : Nat} {p : Program} {e : Env} {s : State} {m : MethodId} {args : Array Value} {below : List Frame} {meth : Method} {c : Code} (hE : qok 28 q) (hC : Cx p s m args meth c cX2_keepWithin 5 RX2 none D (tysX ca) (ZX q t)) (Q : St → Prop) : ∀ (n : Nat) (a1 : Int32) (a2 : Int32) (a3 : Int32) (a4 : Int32) (σ : St), f_X2_keepWithin_b3 Q n a1 a2 a3 a4 σ → J p l e { frames := 1, cells := 0, slots := 0, locals := 20 } s m args below meth c (MQ below (va_Qv Q (BW D (wX q ca)) (AX q)) args s 0 0 (AX q)) D (AX q) 5 0 0 (wX q ca σ) 3 [(0, .ref (q 6)), (1, .int a1), (2, .int a2), (3, .int a3), (4, .int a4)] [] := by
  intro n
  induction n with
  | zero => intro a1 a2 a3 a4 σ hf; exact hf.elim
  | succ n ih =>
    intro a1 a2 a3 a4 σ hf
    unfold f_X2_keepWithin_b3 at hf
    refine j_iload hC 4 dX2_keepWithin_3 (pc' := 5) rfl rfl ?_
    refine j_bipush hC (v := 36) dX2_keepWithin_5 (pc' := 7) rfl (by decide) ?_
    refine j_icmp_ge hC (tgt := 47) dX2_keepWithin_7 (pc' := 10) rfl (by decide) (fun c_ => ?_) (fun c_ => ?_)
    · replace hf := hf.1 c_
      exact j_vret hC dX2_keepWithin_47 hf
    · replace hf := hf.2 c_
      refine j_aload_n hC 0 dX2_keepWithin_10 (pc' := 11) rfl rfl ?_
      refine gX_may hC wm_94 dX2_keepWithin_11 (pc' := 14) rfl ?_
      refine j_bipush hC (v := 36) dX2_keepWithin_14 (pc' := 16) rfl (by decide) ?_
      refine j_iload_n hC 1 dX2_keepWithin_16 (pc' := 17) rfl rfl ?_
      refine j_imul hC dX2_keepWithin_17 (pc' := 18) rfl ?_
      refine j_iload hC 4 dX2_keepWithin_18 (pc' := 20) rfl rfl ?_
      refine j_iadd hC dX2_keepWithin_20 (pc' := 21) rfl ?_
      refine j_iload hC 4 dX2_keepWithin_21 (pc' := 23) rfl rfl ?_
      refine j_bipush hC (v := 36) dX2_keepWithin_23 (pc' := 25) rfl (by decide) ?_
      refine j_iadd hC dX2_keepWithin_25 (pc' := 26) rfl ?_
      refine j_iload_n hC 2 dX2_keepWithin_26 (pc' := 27) rfl rfl ?_
      refine j_isub hC dX2_keepWithin_27 (pc' := 28) rfl ?_
      refine jcS_i hC (eX hE) (As := [.int ((a4 + (36 : Int32)) - a2)]) (lk_X3_round hE ((a4 + (36 : Int32)) - a2) σ _ hf) wm_428 wm_201 wm_9 wm_202 dy_X3_round ⟨rfl, rfl⟩ ⟨Nat.le_of_ble_eq_true rfl, Nat.le_of_ble_eq_true rfl⟩ ⟨Nat.le_refl _, Nat.le_refl _⟩ rfl rfl (Nat.le_of_ble_eq_true rfl) dX2_keepWithin_28 (pc' := 31) rfl (fun r1 σ2 hf => ?_)
      refine j_iload_n hC 3 dX2_keepWithin_31 (pc' := 32) rfl rfl ?_
      refine j_icmp_gt hC (tgt := 39) dX2_keepWithin_32 (pc' := 35) rfl (by decide) (fun c_ => ?_) (fun c_ => ?_)
      · replace hf := hf.1 c_
        refine j_iconst hC (v := 0) dX2_keepWithin_39 (pc' := 40) rfl (by decide) ?_
        obtain ⟨h3, hf⟩ := hf
        refine sX_may hC (j := (Int32.toNatClampNeg (((36 : Int32) * a1) + a4))) h3 rfl dX2_keepWithin_40 (pc' := 41) rfl ?_
        refine j_nms (wf := wX q ca) (fun σ4 eσ4 => ?_)
        replace hf := hf σ4 eσ4
        obtain ⟨x5, ex5⟩ : ∃ y : Int32, y = a4 + (1 : Int32) := ⟨_, rfl⟩
        replace hf := hf x5 ex5
        refine j_iinc hC (v := x5) (q := 4) (lv' := [(4, .int x5), (0, .ref (q 6)), (1, .int a1), (2, .int a2), (3, .int a3)]) dX2_keepWithin_41 (pc' := 44) rfl rfl (by rw [ex5]; rfl) (by decide) rfl ?_
        refine j_goto hC (tgt := 3) dX2_keepWithin_44 (by decide) ?_
        refine j_lv [1, 2, 3, 4, 0] rfl ?_
        exact ih a1 a2 a3 x5 σ4 hf
      · replace hf := hf.2 c_
        refine j_iconst hC (v := 1) dX2_keepWithin_35 (pc' := 36) rfl (by decide) ?_
        refine j_goto hC (tgt := 40) dX2_keepWithin_36 (by decide) ?_
        obtain ⟨h6, hf⟩ := hf
        refine sX_may hC (j := (Int32.toNatClampNeg (((36 : Int32) * a1) + a4))) h6 rfl dX2_keepWithin_40 (pc' := 41) rfl ?_
        refine j_nms (wf := wX q ca) (fun σ7 eσ7 => ?_)
        replace hf := hf σ7 eσ7
        obtain ⟨x8, ex8⟩ : ∃ y : Int32, y = a4 + (1 : Int32) := ⟨_, rfl⟩
        replace hf := hf x8 ex8
        refine j_iinc hC (v := x8) (q := 4) (lv' := [(4, .int x8), (0, .ref (q 6)), (1, .int a1), (2, .int a2), (3, .int a3)]) dX2_keepWithin_41 (pc' := 44) rfl rfl (by rw [ex8]; rfl) (by decide) rfl ?_
        refine j_goto hC (tgt := 3) dX2_keepWithin_44 (by decide) ?_
        refine j_lv [1, 2, 3, 4, 0] rfl ?_
        exact ih a1 a2 a3 x8 σ7 hf
set_option maxHeartbeats 4000000 in
set_option maxRecDepth 100000 in
theorem lk_X2_keepWithin {l : Launch} {D : va_G} {q : Nat → Nat} {ca : Nat → ClassId} {t : Nat} (hE : qok 28 q) (a1 : Int32) (a2 : Int32) (a3 : Int32) (σ : St) (Q : St → Prop) (hf : f_X2_keepWithin a1 a2 a3 σ Q) : Mv l yX2_keepWithin cX2_keepWithin 5 none { frames := 1, cells := 0, slots := 0, locals := 20 } D (tysX ca) (ZX q t) (wX q ca) (AX q) [.ref (q 6), .int a1, .int a2, .int a3] σ Q := by
  refine j_start (own := RX2) (lv := [(0, .ref (q 6)), (1, .int a1), (2, .int a2), (3, .int a3)]) [.ref (q 6), .int a1, .int a2, .int a3] (by decide +kernel) rfl (wX_D hE σ) (Nat.le_of_ble_eq_true rfl) rfl (fun p e s m args below meth c hC => ?_)
  unfold f_X2_keepWithin at hf
  refine j_iconst hC (v := 0) dX2_keepWithin_0 (pc' := 1) rfl (by decide) ?_
  refine j_istore hC (lv' := [(4, .int (0 : Int32)), (0, .ref (q 6)), (1, .int a1), (2, .int a2), (3, .int a3)]) dX2_keepWithin_1 (pc' := 3) rfl (by decide) rfl ?_
  obtain ⟨n9, hf⟩ := hf
  refine j_lv [1, 2, 3, 4, 0] rfl ?_
  exact lb_X2_keepWithin_b3 hE hC Q n9 a1 a2 a3 (0 : Int32) σ hf
def f_J9_abs_0f7a4 (a0 : Int32) (σ : St) (Q : Int32 → St → Prop) : Prop := (0 ≤ a0 → Q a0 σ) ∧ ((¬ 0 ≤ a0) → Q (-a0) σ)
theorem dy_J9_abs_0f7a4 : yJ9_abs_0f7a4.cls ≠ "java/lang/invoke/MethodHandle" ∧ yJ9_abs_0f7a4.cls ≠ "java/lang/invoke/VarHandle" ∧ (parseMethodDescriptor yJ9_abs_0f7a4.desc).map (fun d => d.parameters.length) = some 1 := by decide +kernel
set_option maxHeartbeats 4000000 in
set_option maxRecDepth 100000 in
theorem lk_J9_abs_0f7a4 {l : Launch} {D : va_G} {q : Nat → Nat} {ca : Nat → ClassId} {t : Nat} (hE : qok 28 q) (a0 : Int32) (σ : St) (Q : Int32 → St → Prop) (hf : f_J9_abs_0f7a4 a0 σ Q) : Mi l yJ9_abs_0f7a4 cJ9_abs_0f7a4 1 (some .int) { frames := 0, cells := 0, slots := 0, locals := 0 } D (tysX ca) (ZX q t) (wX q ca) (AX q) [.int a0] σ Q := by
  refine j_start (own := RJ9) (lv := [(0, .int a0)]) [.int a0] (by decide +kernel) rfl (wX_D hE σ) (Nat.le_of_ble_eq_true rfl) rfl (fun p e s m args below meth c hC => ?_)
  unfold f_J9_abs_0f7a4 at hf
  refine j_iload_n hC 0 dJ9_abs_0f7a4_0 (pc' := 1) rfl rfl ?_
  refine j_if_ge hC (tgt := 9) dJ9_abs_0f7a4_1 (pc' := 4) rfl (by decide) (fun c_ => ?_) (fun c_ => ?_)
  · replace hf := hf.1 c_
    refine j_iload_n hC 0 dJ9_abs_0f7a4_9 (pc' := 10) rfl rfl ?_
    exact j_iret hC dJ9_abs_0f7a4_10 hf
  · replace hf := hf.2 c_
    refine j_iload_n hC 0 dJ9_abs_0f7a4_4 (pc' := 5) rfl rfl ?_
    refine j_ineg hC dJ9_abs_0f7a4_5 (pc' := 6) rfl ?_
    refine j_goto hC (tgt := 10) dJ9_abs_0f7a4_6 (by decide) ?_
    exact j_iret hC dJ9_abs_0f7a4_10 hf
def f_J9_max_7cf53 (a0 : Int32) (a1 : Int32) (σ : St) (Q : Int32 → St → Prop) : Prop := (a0 < a1 → Q a1 σ) ∧ ((¬ a0 < a1) → Q a0 σ)
theorem dy_J9_max_7cf53 : yJ9_max_7cf53.cls ≠ "java/lang/invoke/MethodHandle" ∧ yJ9_max_7cf53.cls ≠ "java/lang/invoke/VarHandle" ∧ (parseMethodDescriptor yJ9_max_7cf53.desc).map (fun d => d.parameters.length) = some 2 := by decide +kernel
set_option maxHeartbeats 4000000 in
set_option maxRecDepth 100000 in
theorem lk_J9_max_7cf53 {l : Launch} {D : va_G} {q : Nat → Nat} {ca : Nat → ClassId} {t : Nat} (hE : qok 28 q) (a0 : Int32) (a1 : Int32) (σ : St) (Q : Int32 → St → Prop) (hf : f_J9_max_7cf53 a0 a1 σ Q) : Mi l yJ9_max_7cf53 cJ9_max_7cf53 2 (some .int) { frames := 0, cells := 0, slots := 0, locals := 0 } D (tysX ca) (ZX q t) (wX q ca) (AX q) [.int a0, .int a1] σ Q := by
  refine j_start (own := RJ9) (lv := [(0, .int a0), (1, .int a1)]) [.int a0, .int a1] (by decide +kernel) rfl (wX_D hE σ) (Nat.le_of_ble_eq_true rfl) rfl (fun p e s m args below meth c hC => ?_)
  unfold f_J9_max_7cf53 at hf
  refine j_iload_n hC 0 dJ9_max_7cf53_0 (pc' := 1) rfl rfl ?_
  refine j_iload_n hC 1 dJ9_max_7cf53_1 (pc' := 2) rfl rfl ?_
  refine j_icmp_lt hC (tgt := 9) dJ9_max_7cf53_2 (pc' := 5) rfl (by decide) (fun c_ => ?_) (fun c_ => ?_)
  · replace hf := hf.1 c_
    refine j_iload_n hC 1 dJ9_max_7cf53_9 (pc' := 10) rfl rfl ?_
    exact j_iret hC dJ9_max_7cf53_10 hf
  · replace hf := hf.2 c_
    refine j_iload_n hC 0 dJ9_max_7cf53_5 (pc' := 6) rfl rfl ?_
    refine j_goto hC (tgt := 10) dJ9_max_7cf53_6 (by decide) ?_
    exact j_iret hC dJ9_max_7cf53_10 hf
def f_J9_min_7cf53 (a0 : Int32) (a1 : Int32) (σ : St) (Q : Int32 → St → Prop) : Prop := (a1 < a0 → Q a1 σ) ∧ ((¬ a1 < a0) → Q a0 σ)
theorem dy_J9_min_7cf53 : yJ9_min_7cf53.cls ≠ "java/lang/invoke/MethodHandle" ∧ yJ9_min_7cf53.cls ≠ "java/lang/invoke/VarHandle" ∧ (parseMethodDescriptor yJ9_min_7cf53.desc).map (fun d => d.parameters.length) = some 2 := by decide +kernel
set_option maxHeartbeats 4000000 in
set_option maxRecDepth 100000 in
theorem lk_J9_min_7cf53 {l : Launch} {D : va_G} {q : Nat → Nat} {ca : Nat → ClassId} {t : Nat} (hE : qok 28 q) (a0 : Int32) (a1 : Int32) (σ : St) (Q : Int32 → St → Prop) (hf : f_J9_min_7cf53 a0 a1 σ Q) : Mi l yJ9_min_7cf53 cJ9_min_7cf53 2 (some .int) { frames := 0, cells := 0, slots := 0, locals := 0 } D (tysX ca) (ZX q t) (wX q ca) (AX q) [.int a0, .int a1] σ Q := by
  refine j_start (own := RJ9) (lv := [(0, .int a0), (1, .int a1)]) [.int a0, .int a1] (by decide +kernel) rfl (wX_D hE σ) (Nat.le_of_ble_eq_true rfl) rfl (fun p e s m args below meth c hC => ?_)
  unfold f_J9_min_7cf53 at hf
  refine j_iload_n hC 0 dJ9_min_7cf53_0 (pc' := 1) rfl rfl ?_
  refine j_iload_n hC 1 dJ9_min_7cf53_1 (pc' := 2) rfl rfl ?_
  refine j_icmp_gt hC (tgt := 9) dJ9_min_7cf53_2 (pc' := 5) rfl (by decide) (fun c_ => ?_) (fun c_ => ?_)
  · replace hf := hf.1 c_
    refine j_iload_n hC 1 dJ9_min_7cf53_9 (pc' := 10) rfl rfl ?_
    exact j_iret hC dJ9_min_7cf53_10 hf
  · replace hf := hf.2 c_
    refine j_iload_n hC 0 dJ9_min_7cf53_5 (pc' := 6) rfl rfl ?_
    refine j_goto hC (tgt := 10) dJ9_min_7cf53_6 (by decide) ?_
    exact j_iret hC dJ9_min_7cf53_10 hf
def f_X2_atLeastLeft (a1 : Int32) (a2 : Int32) (σ : St) (Q : Int64 → St → Prop) : Prop := f_J9_abs_0f7a4 a1 σ (fun r1 σ2 => f_J9_abs_0f7a4 a2 σ2 (fun r3 σ4 => f_J9_max_7cf53 r1 r3 σ4 (fun r5 σ6 => ∀ x7 : Int64, x7 = Int32.toInt64 r5 → f_J9_abs_0f7a4 a1 σ6 (fun r8 σ9 => f_J9_abs_0f7a4 a2 σ9 (fun r10 σ11 => f_J9_min_7cf53 r8 r10 σ11 (fun r12 σ13 => ∀ x14 : Int64, x14 = Int32.toInt64 r12 → ∀ x15 : Int64, x15 = (65 : Int64) * (Int32.toInt64 (σ13.1 12 0)) → Q ((((x7 * x7) + (x14 * x14)) + (x15 * x15)) - (x15 * (((2 : Int64) * x7) + x14))) σ13))))))
theorem dy_X2_atLeastLeft : yX2_atLeastLeft.cls = yX2_atLeastLeft.cls ∧ yX2_atLeastLeft.cls ≠ "java/lang/invoke/MethodHandle" ∧ yX2_atLeastLeft.cls ≠ "java/lang/invoke/VarHandle" ∧ (parseMethodDescriptor yX2_atLeastLeft.desc).map (fun d => d.parameters.length) = some 2 := by decide +kernel
set_option maxHeartbeats 4000000 in
set_option maxRecDepth 100000 in
theorem lk_X2_atLeastLeft {l : Launch} {D : va_G} {q : Nat → Nat} {ca : Nat → ClassId} {t : Nat} (hE : qok 28 q) (a1 : Int32) (a2 : Int32) (σ : St) (Q : Int64 → St → Prop) (hf : f_X2_atLeastLeft a1 a2 σ Q) : Ml l yX2_atLeastLeft cX2_atLeastLeft 9 (some .long) { frames := 1, cells := 0, slots := 0, locals := 21 } D (tysX ca) (ZX q t) (wX q ca) (AX q) [.ref (q 6), .int a1, .int a2] σ Q := by
  refine j_start (own := RX2) (lv := [(0, .ref (q 6)), (1, .int a1), (2, .int a2)]) [.ref (q 6), .int a1, .int a2] (by decide +kernel) rfl (wX_D hE σ) (Nat.le_of_ble_eq_true rfl) rfl (fun p e s m args below meth c hC => ?_)
  unfold f_X2_atLeastLeft at hf
  refine j_iload_n hC 1 dX2_atLeastLeft_0 (pc' := 1) rfl rfl ?_
  refine jcS_i hC (eX hE) (As := [.int a1]) (lk_J9_abs_0f7a4 hE a1 σ _ hf) wm_449 wm_347 wm_11 wm_348 dy_J9_abs_0f7a4 ⟨rfl, rfl⟩ ⟨Nat.le_of_ble_eq_true rfl, Nat.le_of_ble_eq_true rfl⟩ ⟨Nat.le_refl _, Nat.le_refl _⟩ rfl rfl (Nat.le_of_ble_eq_true rfl) dX2_atLeastLeft_1 (pc' := 4) rfl (fun r1 σ2 hf => ?_)
  refine j_iload_n hC 2 dX2_atLeastLeft_4 (pc' := 5) rfl rfl ?_
  refine jcS_i hC (eX hE) (As := [.int a2]) (lk_J9_abs_0f7a4 hE a2 σ2 _ hf) wm_449 wm_347 wm_11 wm_348 dy_J9_abs_0f7a4 ⟨rfl, rfl⟩ ⟨Nat.le_of_ble_eq_true rfl, Nat.le_of_ble_eq_true rfl⟩ ⟨Nat.le_refl _, Nat.le_refl _⟩ rfl rfl (Nat.le_of_ble_eq_true rfl) dX2_atLeastLeft_5 (pc' := 8) rfl (fun r3 σ4 hf => ?_)
  refine jcS_i hC (eX hE) (As := [.int r1, .int r3]) (lk_J9_max_7cf53 hE r1 r3 σ4 _ hf) wm_450 wm_281 wm_11 wm_282 dy_J9_max_7cf53 ⟨rfl, rfl⟩ ⟨Nat.le_of_ble_eq_true rfl, Nat.le_of_ble_eq_true rfl⟩ ⟨Nat.le_refl _, Nat.le_refl _⟩ rfl rfl (Nat.le_of_ble_eq_true rfl) dX2_atLeastLeft_8 (pc' := 11) rfl (fun r5 σ6 hf => ?_)
  refine j_i2l hC dX2_atLeastLeft_11 (pc' := 12) rfl ?_
  refine j_nml (fun x7 ex7 => ?_)
  replace hf := hf x7 ex7
  refine j_lstore_n hC (lv' := [(3, .long x7), (0, .ref (q 6)), (1, .int a1), (2, .int a2)]) dX2_atLeastLeft_12 (pc' := 13) rfl rfl (by decide) rfl ?_
  refine j_iload_n hC 2 dX2_atLeastLeft_13 (pc' := 14) rfl rfl ?_
  refine jcS_i hC (eX hE) (As := [.int a1]) (lk_J9_abs_0f7a4 hE a1 σ6 _ hf) wm_449 wm_347 wm_11 wm_348 dy_J9_abs_0f7a4 ⟨rfl, rfl⟩ ⟨Nat.le_of_ble_eq_true rfl, Nat.le_of_ble_eq_true rfl⟩ ⟨Nat.le_refl _, Nat.le_refl _⟩ rfl rfl (Nat.le_of_ble_eq_true rfl) dX2_atLeastLeft_14 (pc' := 17) rfl (fun r8 σ9 hf => ?_)
  refine j_iload_n hC 3 dX2_atLeastLeft_17 (pc' := 18) rfl rfl ?_
  refine jcS_i hC (eX hE) (As := [.int a2]) (lk_J9_abs_0f7a4 hE a2 σ9 _ hf) wm_449 wm_347 wm_11 wm_348 dy_J9_abs_0f7a4 ⟨rfl, rfl⟩ ⟨Nat.le_of_ble_eq_true rfl, Nat.le_of_ble_eq_true rfl⟩ ⟨Nat.le_refl _, Nat.le_refl _⟩ rfl rfl (Nat.le_of_ble_eq_true rfl) dX2_atLeastLeft_18 (pc' := 21) rfl (fun r10 σ11 hf => ?_)
  refine jcS_i hC (eX hE) (As := [.int r8, .int r10]) (lk_J9_min_7cf53 hE r8 r10 σ11 _ hf) wm_451 wm_362 wm_11 wm_363 dy_J9_min_7cf53 ⟨rfl, rfl⟩ ⟨Nat.le_of_ble_eq_true rfl, Nat.le_of_ble_eq_true rfl⟩ ⟨Nat.le_refl _, Nat.le_refl _⟩ rfl rfl (Nat.le_of_ble_eq_true rfl) dX2_atLeastLeft_21 (pc' := 24) rfl (fun r12 σ13 hf => ?_)
  refine j_i2l hC dX2_atLeastLeft_24 (pc' := 25) rfl ?_
  refine j_nml (fun x14 ex14 => ?_)
  replace hf := hf x14 ex14
  refine j_lstore hC (lv' := [(5, .long x14), (3, .long x7), (0, .ref (q 6)), (1, .int a1), (2, .int a2)]) dX2_atLeastLeft_25 (pc' := 27) rfl (by decide) rfl ?_
  refine j_ldc2 hC (v := 65) dX2_atLeastLeft_27 (pc' := 30) rfl wm_452 ?_
  refine j_aload_n hC 2 dX2_atLeastLeft_30 (pc' := 31) rfl rfl ?_
  refine gX_lastLength hC wm_95 dX2_atLeastLeft_31 (pc' := 34) rfl ?_
  refine j_i2l hC dX2_atLeastLeft_34 (pc' := 35) rfl ?_
  refine j_lmul hC dX2_atLeastLeft_35 (pc' := 36) rfl ?_
  refine j_nml (fun x15 ex15 => ?_)
  replace hf := hf x15 ex15
  refine j_lstore hC (lv' := [(7, .long x15), (5, .long x14), (3, .long x7), (0, .ref (q 6)), (1, .int a1), (2, .int a2)]) dX2_atLeastLeft_36 (pc' := 38) rfl (by decide) rfl ?_
  refine j_lload_n hC 2 dX2_atLeastLeft_38 (pc' := 39) rfl rfl ?_
  refine j_lload_n hC 2 dX2_atLeastLeft_39 (pc' := 40) rfl rfl ?_
  refine j_lmul hC dX2_atLeastLeft_40 (pc' := 41) rfl ?_
  refine j_lload hC 1 dX2_atLeastLeft_41 (pc' := 43) rfl rfl ?_
  refine j_lload hC 1 dX2_atLeastLeft_43 (pc' := 45) rfl rfl ?_
  refine j_lmul hC dX2_atLeastLeft_45 (pc' := 46) rfl ?_
  refine j_ladd hC dX2_atLeastLeft_46 (pc' := 47) rfl ?_
  refine j_lload hC 0 dX2_atLeastLeft_47 (pc' := 49) rfl rfl ?_
  refine j_lload hC 0 dX2_atLeastLeft_49 (pc' := 51) rfl rfl ?_
  refine j_lmul hC dX2_atLeastLeft_51 (pc' := 52) rfl ?_
  refine j_ladd hC dX2_atLeastLeft_52 (pc' := 53) rfl ?_
  refine j_lload hC 0 dX2_atLeastLeft_53 (pc' := 55) rfl rfl ?_
  refine j_ldc2 hC (v := 2) dX2_atLeastLeft_55 (pc' := 58) rfl wm_453 ?_
  refine j_lload_n hC 2 dX2_atLeastLeft_58 (pc' := 59) rfl rfl ?_
  refine j_lmul hC dX2_atLeastLeft_59 (pc' := 60) rfl ?_
  refine j_lload hC 1 dX2_atLeastLeft_60 (pc' := 62) rfl rfl ?_
  refine j_ladd hC dX2_atLeastLeft_62 (pc' := 63) rfl ?_
  refine j_lmul hC dX2_atLeastLeft_63 (pc' := 64) rfl ?_
  refine j_lsub hC dX2_atLeastLeft_64 (pc' := 65) rfl ?_
  exact j_lret hC dX2_atLeastLeft_65 hf
def f_X2_seekThird_b3 (Q : St → Prop) : Nat → Int32 → Int32 → Int32 → Int32 → Int32 → St → Prop
  | 0, _, _, _, _, _, _ => False
  | n + 1, a1, a2, a3, a4, a5, σ => ((36 : Int32) ≤ a5 → Q σ) ∧ ((¬ (36 : Int32) ≤ a5) → vp_in ((72 : Int32) + a5) 108 ∧ ((σ.1 11 (Int32.toNatClampNeg ((72 : Int32) + a5))) = 0 → ∀ x2 : Int32, x2 = a5 + (1 : Int32) → f_X2_seekThird_b3 Q  n a1 a2 a3 a4 x2 σ) ∧ ((¬ (σ.1 11 (Int32.toNatClampNeg ((72 : Int32) + a5))) = 0) → f_X3_round (a2 + a5) σ (fun r3 σ4 => f_X3_cOf r3 σ4 (fun r5 σ6 => ∀ x7 : Int64, x7 = Int32.toInt64 (a3 - ((σ4.1 12 0) * r5)) → f_X3_sOf r3 σ6 (fun r8 σ9 => ∀ x10 : Int64, x10 = Int32.toInt64 (a4 - ((σ6.1 12 0) * r8)) → ∀ x11 : Int64, x11 = (x7 * x7) + (x10 * x10) → ((σ9.2 3 0) ≤ x11 → ∀ x12 : Int32, x12 = a5 + (1 : Int32) → f_X2_seekThird_b3 Q  n a1 a2 a3 a4 x12 σ9) ∧ ((¬ (σ9.2 3 0) ≤ x11) → ∀ σ13 : St, σ13 = sL σ9 3 0 x11 → ∀ σ14 : St, σ14 = sI σ13 13 0 (a1 + a5) → ∀ x15 : Int32, x15 = a5 + (1 : Int32) → f_X2_seekThird_b3 Q  n a1 a2 a3 a4 x15 σ14))))))
def f_X2_seekThird (a1 : Int32) (a2 : Int32) (a3 : Int32) (a4 : Int32) (σ : St) (Q : St → Prop) : Prop := ∃ n16 : Nat, f_X2_seekThird_b3 Q n16 a1 a2 a3 a4 (0 : Int32) σ
theorem dy_X2_seekThird : yX2_seekThird.cls = yX2_seekThird.cls ∧ yX2_seekThird.cls ≠ "java/lang/invoke/MethodHandle" ∧ yX2_seekThird.cls ≠ "java/lang/invoke/VarHandle" ∧ (parseMethodDescriptor yX2_seekThird.desc).map (fun d => d.parameters.length) = some 4 := by decide +kernel
set_option maxHeartbeats 4000000 in
set_option maxRecDepth 100000 in
theorem lb_X2_seekThird_b3 {l : Launch} {D : va_G} {q : Nat → Nat} {ca : Nat → ClassId} {t : Nat} {p : Program} {e : Env} {s : State} {m : MethodId} {args : Array Value} {below : List Frame} {meth : Method} {c : Code} (hE : qok 28 q) (hC : Cx p s m args meth c cX2_seekThird 13 RX2 none D (tysX ca) (ZX q t)) (Q : St → Prop) : ∀ (n : Nat) (a1 : Int32) (a2 : Int32) (a3 : Int32) (a4 : Int32) (a5 : Int32) (σ : St), f_X2_seekThird_b3 Q n a1 a2 a3 a4 a5 σ → J p l e { frames := 1, cells := 0, slots := 0, locals := 20 } s m args below meth c (MQ below (va_Qv Q (BW D (wX q ca)) (AX q)) args s 0 0 (AX q)) D (AX q) 13 0 0 (wX q ca σ) 3 [(0, .ref (q 6)), (1, .int a1), (2, .int a2), (3, .int a3), (4, .int a4), (5, .int a5)] [] := by
  intro n
  induction n with
  | zero => intro a1 a2 a3 a4 a5 σ hf; exact hf.elim
  | succ n ih =>
    intro a1 a2 a3 a4 a5 σ hf
    unfold f_X2_seekThird_b3 at hf
    refine j_iload hC 5 dX2_seekThird_3 (pc' := 5) rfl rfl ?_
    refine j_bipush hC (v := 36) dX2_seekThird_5 (pc' := 7) rfl (by decide) ?_
    refine j_icmp_ge hC (tgt := 106) dX2_seekThird_7 (pc' := 10) rfl (by decide) (fun c_ => ?_) (fun c_ => ?_)
    · replace hf := hf.1 c_
      exact j_vret hC dX2_seekThird_106 hf
    · replace hf := hf.2 c_
      refine j_aload_n hC 0 dX2_seekThird_10 (pc' := 11) rfl rfl ?_
      refine gX_may hC wm_94 dX2_seekThird_11 (pc' := 14) rfl ?_
      refine j_bipush hC (v := 72) dX2_seekThird_14 (pc' := 16) rfl (by decide) ?_
      refine j_iload hC 5 dX2_seekThird_16 (pc' := 18) rfl rfl ?_
      refine j_iadd hC dX2_seekThird_18 (pc' := 19) rfl ?_
      obtain ⟨h1, hf⟩ := hf
      refine lX_may hC (j := (Int32.toNatClampNeg ((72 : Int32) + a5))) h1 rfl dX2_seekThird_19 (pc' := 20) rfl ?_
      refine j_if_eq hC (tgt := 100) dX2_seekThird_20 (pc' := 23) rfl (by decide) (fun c_ => ?_) (fun c_ => ?_)
      · replace hf := hf.1 c_
        obtain ⟨x2, ex2⟩ : ∃ y : Int32, y = a5 + (1 : Int32) := ⟨_, rfl⟩
        replace hf := hf x2 ex2
        refine j_iinc hC (v := x2) (q := 5) (lv' := [(5, .int x2), (0, .ref (q 6)), (1, .int a1), (2, .int a2), (3, .int a3), (4, .int a4)]) dX2_seekThird_100 (pc' := 103) rfl rfl (by rw [ex2]; rfl) (by decide) rfl ?_
        refine j_goto hC (tgt := 3) dX2_seekThird_103 (by decide) ?_
        refine j_lv [1, 2, 3, 4, 5, 0] rfl ?_
        exact ih a1 a2 a3 a4 x2 σ hf
      · replace hf := hf.2 c_
        refine j_iload_n hC 2 dX2_seekThird_23 (pc' := 24) rfl rfl ?_
        refine j_iload hC 5 dX2_seekThird_24 (pc' := 26) rfl rfl ?_
        refine j_iadd hC dX2_seekThird_26 (pc' := 27) rfl ?_
        refine jcS_i hC (eX hE) (As := [.int (a2 + a5)]) (lk_X3_round hE (a2 + a5) σ _ hf) wm_428 wm_201 wm_9 wm_202 dy_X3_round ⟨rfl, rfl⟩ ⟨Nat.le_of_ble_eq_true rfl, Nat.le_of_ble_eq_true rfl⟩ ⟨Nat.le_refl _, Nat.le_refl _⟩ rfl rfl (Nat.le_of_ble_eq_true rfl) dX2_seekThird_27 (pc' := 30) rfl (fun r3 σ4 hf => ?_)
        refine j_istore hC (lv' := [(6, .int r3), (0, .ref (q 6)), (1, .int a1), (2, .int a2), (3, .int a3), (4, .int a4), (5, .int a5)]) dX2_seekThird_30 (pc' := 32) rfl (by decide) rfl ?_
        refine j_iload_n hC 4 dX2_seekThird_32 (pc' := 33) rfl rfl ?_
        refine j_aload_n hC 1 dX2_seekThird_33 (pc' := 34) rfl rfl ?_
        refine gX_lastLength hC wm_95 dX2_seekThird_34 (pc' := 37) rfl ?_
        refine j_iload hC 0 dX2_seekThird_37 (pc' := 39) rfl rfl ?_
        refine jcS_i hC (eX hE) (As := [.int r3]) (lk_X3_cOf hE r3 σ4 _ hf) wm_441 wm_182 wm_9 wm_183 dy_X3_cOf ⟨rfl, rfl⟩ ⟨Nat.le_of_ble_eq_true rfl, Nat.le_of_ble_eq_true rfl⟩ ⟨Nat.le_refl _, Nat.le_refl _⟩ rfl rfl (Nat.le_of_ble_eq_true rfl) dX2_seekThird_39 (pc' := 42) rfl (fun r5 σ6 hf => ?_)
        refine j_imul hC dX2_seekThird_42 (pc' := 43) rfl ?_
        refine j_isub hC dX2_seekThird_43 (pc' := 44) rfl ?_
        refine j_i2l hC dX2_seekThird_44 (pc' := 45) rfl ?_
        refine j_nml (fun x7 ex7 => ?_)
        replace hf := hf x7 ex7
        refine j_lstore hC (lv' := [(7, .long x7), (6, .int r3), (0, .ref (q 6)), (1, .int a1), (2, .int a2), (3, .int a3), (4, .int a4), (5, .int a5)]) dX2_seekThird_45 (pc' := 47) rfl (by decide) rfl ?_
        refine j_iload hC 6 dX2_seekThird_47 (pc' := 49) rfl rfl ?_
        refine j_aload_n hC 2 dX2_seekThird_49 (pc' := 50) rfl rfl ?_
        refine gX_lastLength hC wm_95 dX2_seekThird_50 (pc' := 53) rfl ?_
        refine j_iload hC 1 dX2_seekThird_53 (pc' := 55) rfl rfl ?_
        refine jcS_i hC (eX hE) (As := [.int r3]) (lk_X3_sOf hE r3 σ6 _ hf) wm_442 wm_186 wm_9 wm_187 dy_X3_sOf ⟨rfl, rfl⟩ ⟨Nat.le_of_ble_eq_true rfl, Nat.le_of_ble_eq_true rfl⟩ ⟨Nat.le_refl _, Nat.le_refl _⟩ rfl rfl (Nat.le_of_ble_eq_true rfl) dX2_seekThird_55 (pc' := 58) rfl (fun r8 σ9 hf => ?_)
        refine j_imul hC dX2_seekThird_58 (pc' := 59) rfl ?_
        refine j_isub hC dX2_seekThird_59 (pc' := 60) rfl ?_
        refine j_i2l hC dX2_seekThird_60 (pc' := 61) rfl ?_
        refine j_nml (fun x10 ex10 => ?_)
        replace hf := hf x10 ex10
        refine j_lstore hC (lv' := [(9, .long x10), (7, .long x7), (6, .int r3), (0, .ref (q 6)), (1, .int a1), (2, .int a2), (3, .int a3), (4, .int a4), (5, .int a5)]) dX2_seekThird_61 (pc' := 63) rfl (by decide) rfl ?_
        refine j_lload hC 1 dX2_seekThird_63 (pc' := 65) rfl rfl ?_
        refine j_lload hC 1 dX2_seekThird_65 (pc' := 67) rfl rfl ?_
        refine j_lmul hC dX2_seekThird_67 (pc' := 68) rfl ?_
        refine j_lload hC 0 dX2_seekThird_68 (pc' := 70) rfl rfl ?_
        refine j_lload hC 0 dX2_seekThird_70 (pc' := 72) rfl rfl ?_
        refine j_lmul hC dX2_seekThird_72 (pc' := 73) rfl ?_
        refine j_ladd hC dX2_seekThird_73 (pc' := 74) rfl ?_
        refine j_nml (fun x11 ex11 => ?_)
        replace hf := hf x11 ex11
        refine j_lstore hC (lv' := [(11, .long x11), (9, .long x10), (7, .long x7), (6, .int r3), (0, .ref (q 6)), (1, .int a1), (2, .int a2), (3, .int a3), (4, .int a4), (5, .int a5)]) dX2_seekThird_74 (pc' := 76) rfl (by decide) rfl ?_
        refine j_lload hC 0 dX2_seekThird_76 (pc' := 78) rfl rfl ?_
        refine j_aload_n hC 4 dX2_seekThird_78 (pc' := 79) rfl rfl ?_
        refine gX_least hC wm_98 dX2_seekThird_79 (pc' := 82) rfl ?_
        refine j_lcmp hC dX2_seekThird_82 (pc' := 83) rfl ?_
        refine j_if_ge hC (tgt := 100) dX2_seekThird_83 (pc' := 86) rfl (by decide) (fun c_ => ?_) (fun c_ => ?_)
        · replace hf := hf.1 ((lgc_ge _ _).mp c_)
          obtain ⟨x12, ex12⟩ : ∃ y : Int32, y = a5 + (1 : Int32) := ⟨_, rfl⟩
          replace hf := hf x12 ex12
          refine j_iinc hC (v := x12) (q := 9) (lv' := [(5, .int x12), (11, .long x11), (9, .long x10), (7, .long x7), (6, .int r3), (0, .ref (q 6)), (1, .int a1), (2, .int a2), (3, .int a3), (4, .int a4)]) dX2_seekThird_100 (pc' := 103) rfl rfl (by rw [ex12]; rfl) (by decide) rfl ?_
          refine j_goto hC (tgt := 3) dX2_seekThird_103 (by decide) ?_
          refine j_lv [5, 6, 7, 8, 9, 0] rfl ?_
          exact ih a1 a2 a3 a4 x12 σ9 hf
        · replace hf := hf.2 (fun z => c_ ((lgc_ge _ _).mpr z))
          refine j_aload_n hC 4 dX2_seekThird_86 (pc' := 87) rfl rfl ?_
          refine j_lload hC 0 dX2_seekThird_87 (pc' := 89) rfl rfl ?_
          refine pX_least hC wm_98 dX2_seekThird_89 (pc' := 92) rfl ?_
          refine j_nms (wf := wX q ca) (fun σ13 eσ13 => ?_)
          replace hf := hf σ13 eσ13
          refine j_aload_n hC 4 dX2_seekThird_92 (pc' := 93) rfl rfl ?_
          refine j_iload_n hC 5 dX2_seekThird_93 (pc' := 94) rfl rfl ?_
          refine j_iload hC 9 dX2_seekThird_94 (pc' := 96) rfl rfl ?_
          refine j_iadd hC dX2_seekThird_96 (pc' := 97) rfl ?_
          refine pX_foundTurns hC wm_96 dX2_seekThird_97 (pc' := 100) rfl ?_
          refine j_nms (wf := wX q ca) (fun σ14 eσ14 => ?_)
          replace hf := hf σ14 eσ14
          obtain ⟨x15, ex15⟩ : ∃ y : Int32, y = a5 + (1 : Int32) := ⟨_, rfl⟩
          replace hf := hf x15 ex15
          refine j_iinc hC (v := x15) (q := 9) (lv' := [(5, .int x15), (11, .long x11), (9, .long x10), (7, .long x7), (6, .int r3), (0, .ref (q 6)), (1, .int a1), (2, .int a2), (3, .int a3), (4, .int a4)]) dX2_seekThird_100 (pc' := 103) rfl rfl (by rw [ex15]; rfl) (by decide) rfl ?_
          refine j_goto hC (tgt := 3) dX2_seekThird_103 (by decide) ?_
          refine j_lv [5, 6, 7, 8, 9, 0] rfl ?_
          exact ih a1 a2 a3 a4 x15 σ14 hf
set_option maxHeartbeats 4000000 in
set_option maxRecDepth 100000 in
theorem lk_X2_seekThird {l : Launch} {D : va_G} {q : Nat → Nat} {ca : Nat → ClassId} {t : Nat} (hE : qok 28 q) (a1 : Int32) (a2 : Int32) (a3 : Int32) (a4 : Int32) (σ : St) (Q : St → Prop) (hf : f_X2_seekThird a1 a2 a3 a4 σ Q) : Mv l yX2_seekThird cX2_seekThird 13 none { frames := 1, cells := 0, slots := 0, locals := 20 } D (tysX ca) (ZX q t) (wX q ca) (AX q) [.ref (q 6), .int a1, .int a2, .int a3, .int a4] σ Q := by
  refine j_start (own := RX2) (lv := [(0, .ref (q 6)), (1, .int a1), (2, .int a2), (3, .int a3), (4, .int a4)]) [.ref (q 6), .int a1, .int a2, .int a3, .int a4] (by decide +kernel) rfl (wX_D hE σ) (Nat.le_of_ble_eq_true rfl) rfl (fun p e s m args below meth c hC => ?_)
  unfold f_X2_seekThird at hf
  refine j_iconst hC (v := 0) dX2_seekThird_0 (pc' := 1) rfl (by decide) ?_
  refine j_istore hC (lv' := [(5, .int (0 : Int32)), (0, .ref (q 6)), (1, .int a1), (2, .int a2), (3, .int a3), (4, .int a4)]) dX2_seekThird_1 (pc' := 3) rfl (by decide) rfl ?_
  obtain ⟨n16, hf⟩ := hf
  refine j_lv [1, 2, 3, 4, 5, 0] rfl ?_
  exact lb_X2_seekThird_b3 hE hC Q n16 a1 a2 a3 a4 (0 : Int32) σ hf
def f_X2_seekSecond_b3 (Q : St → Prop) : Nat → Int32 → Int32 → Int32 → Int32 → Int32 → St → Prop
  | 0, _, _, _, _, _, _ => False
  | n + 1, a1, a2, a3, a4, a5, σ => ((36 : Int32) ≤ a5 → Q σ) ∧ ((¬ (36 : Int32) ≤ a5) → vp_in ((36 : Int32) + a5) 108 ∧ ((σ.1 11 (Int32.toNatClampNeg ((36 : Int32) + a5))) = 0 → ∀ x2 : Int32, x2 = a5 + (1 : Int32) → f_X2_seekSecond_b3 Q  n a1 a2 a3 a4 x2 σ) ∧ ((¬ (σ.1 11 (Int32.toNatClampNeg ((36 : Int32) + a5))) = 0) → f_X3_round (a1 + a5) σ (fun r3 σ4 => f_X3_cOf r3 σ4 (fun r5 σ6 => ∀ x7 : Int32, x7 = a3 - (a2 * r5) → f_X3_sOf r3 σ6 (fun r8 σ9 => ∀ x10 : Int32, x10 = a4 - (a2 * r8) → f_X2_atLeastLeft x7 x10 σ9 (fun r11 σ12 => ((σ12.2 3 0) ≤ r11 → ∀ x13 : Int32, x13 = a5 + (1 : Int32) → f_X2_seekSecond_b3 Q  n a1 a2 a3 a4 x13 σ12) ∧ ((¬ (σ12.2 3 0) ≤ r11) → f_X2_seekThird ((100 : Int32) * (((100 : Int32) * a1) + a5)) r3 x7 x10 σ12 (fun σ15 => ∀ x16 : Int32, x16 = a5 + (1 : Int32) → f_X2_seekSecond_b3 Q  n a1 a2 a3 a4 x16 σ15))))))))
def f_X2_seekSecond (a1 : Int32) (a2 : Int32) (a3 : Int32) (a4 : Int32) (σ : St) (Q : St → Prop) : Prop := ∃ n17 : Nat, f_X2_seekSecond_b3 Q n17 a1 a2 a3 a4 (0 : Int32) σ
theorem dy_X2_seekSecond : yX2_seekSecond.cls = yX2_seekSecond.cls ∧ yX2_seekSecond.cls ≠ "java/lang/invoke/MethodHandle" ∧ yX2_seekSecond.cls ≠ "java/lang/invoke/VarHandle" ∧ (parseMethodDescriptor yX2_seekSecond.desc).map (fun d => d.parameters.length) = some 4 := by decide +kernel
set_option maxHeartbeats 4000000 in
set_option maxRecDepth 100000 in
theorem lb_X2_seekSecond_b3 {l : Launch} {D : va_G} {q : Nat → Nat} {ca : Nat → ClassId} {t : Nat} {p : Program} {e : Env} {s : State} {m : MethodId} {args : Array Value} {below : List Frame} {meth : Method} {c : Code} (hE : qok 28 q) (hC : Cx p s m args meth c cX2_seekSecond 9 RX2 none D (tysX ca) (ZX q t)) (Q : St → Prop) : ∀ (n : Nat) (a1 : Int32) (a2 : Int32) (a3 : Int32) (a4 : Int32) (a5 : Int32) (σ : St), f_X2_seekSecond_b3 Q n a1 a2 a3 a4 a5 σ → J p l e { frames := 2, cells := 0, slots := 0, locals := 52 } s m args below meth c (MQ below (va_Qv Q (BW D (wX q ca)) (AX q)) args s 0 0 (AX q)) D (AX q) 9 0 0 (wX q ca σ) 3 [(0, .ref (q 6)), (1, .int a1), (2, .int a2), (3, .int a3), (4, .int a4), (5, .int a5)] [] := by
  intro n
  induction n with
  | zero => intro a1 a2 a3 a4 a5 σ hf; exact hf.elim
  | succ n ih =>
    intro a1 a2 a3 a4 a5 σ hf
    unfold f_X2_seekSecond_b3 at hf
    refine j_iload hC 5 dX2_seekSecond_3 (pc' := 5) rfl rfl ?_
    refine j_bipush hC (v := 36) dX2_seekSecond_5 (pc' := 7) rfl (by decide) ?_
    refine j_icmp_ge hC (tgt := 97) dX2_seekSecond_7 (pc' := 10) rfl (by decide) (fun c_ => ?_) (fun c_ => ?_)
    · replace hf := hf.1 c_
      exact j_vret hC dX2_seekSecond_97 hf
    · replace hf := hf.2 c_
      refine j_aload_n hC 0 dX2_seekSecond_10 (pc' := 11) rfl rfl ?_
      refine gX_may hC wm_94 dX2_seekSecond_11 (pc' := 14) rfl ?_
      refine j_bipush hC (v := 36) dX2_seekSecond_14 (pc' := 16) rfl (by decide) ?_
      refine j_iload hC 5 dX2_seekSecond_16 (pc' := 18) rfl rfl ?_
      refine j_iadd hC dX2_seekSecond_18 (pc' := 19) rfl ?_
      obtain ⟨h1, hf⟩ := hf
      refine lX_may hC (j := (Int32.toNatClampNeg ((36 : Int32) + a5))) h1 rfl dX2_seekSecond_19 (pc' := 20) rfl ?_
      refine j_if_eq hC (tgt := 91) dX2_seekSecond_20 (pc' := 23) rfl (by decide) (fun c_ => ?_) (fun c_ => ?_)
      · replace hf := hf.1 c_
        obtain ⟨x2, ex2⟩ : ∃ y : Int32, y = a5 + (1 : Int32) := ⟨_, rfl⟩
        replace hf := hf x2 ex2
        refine j_iinc hC (v := x2) (q := 5) (lv' := [(5, .int x2), (0, .ref (q 6)), (1, .int a1), (2, .int a2), (3, .int a3), (4, .int a4)]) dX2_seekSecond_91 (pc' := 94) rfl rfl (by rw [ex2]; rfl) (by decide) rfl ?_
        refine j_goto hC (tgt := 3) dX2_seekSecond_94 (by decide) ?_
        refine j_lv [1, 2, 3, 4, 5, 0] rfl ?_
        exact ih a1 a2 a3 a4 x2 σ hf
      · replace hf := hf.2 c_
        refine j_iload_n hC 1 dX2_seekSecond_23 (pc' := 24) rfl rfl ?_
        refine j_iload hC 5 dX2_seekSecond_24 (pc' := 26) rfl rfl ?_
        refine j_iadd hC dX2_seekSecond_26 (pc' := 27) rfl ?_
        refine jcS_i hC (eX hE) (As := [.int (a1 + a5)]) (lk_X3_round hE (a1 + a5) σ _ hf) wm_428 wm_201 wm_9 wm_202 dy_X3_round ⟨rfl, rfl⟩ ⟨Nat.le_of_ble_eq_true rfl, Nat.le_of_ble_eq_true rfl⟩ ⟨Nat.le_refl _, Nat.le_refl _⟩ rfl rfl (Nat.le_of_ble_eq_true rfl) dX2_seekSecond_27 (pc' := 30) rfl (fun r3 σ4 hf => ?_)
        refine j_istore hC (lv' := [(6, .int r3), (0, .ref (q 6)), (1, .int a1), (2, .int a2), (3, .int a3), (4, .int a4), (5, .int a5)]) dX2_seekSecond_30 (pc' := 32) rfl (by decide) rfl ?_
        refine j_iload_n hC 4 dX2_seekSecond_32 (pc' := 33) rfl rfl ?_
        refine j_iload_n hC 3 dX2_seekSecond_33 (pc' := 34) rfl rfl ?_
        refine j_iload hC 0 dX2_seekSecond_34 (pc' := 36) rfl rfl ?_
        refine jcS_i hC (eX hE) (As := [.int r3]) (lk_X3_cOf hE r3 σ4 _ hf) wm_441 wm_182 wm_9 wm_183 dy_X3_cOf ⟨rfl, rfl⟩ ⟨Nat.le_of_ble_eq_true rfl, Nat.le_of_ble_eq_true rfl⟩ ⟨Nat.le_refl _, Nat.le_refl _⟩ rfl rfl (Nat.le_of_ble_eq_true rfl) dX2_seekSecond_36 (pc' := 39) rfl (fun r5 σ6 hf => ?_)
        refine j_imul hC dX2_seekSecond_39 (pc' := 40) rfl ?_
        refine j_isub hC dX2_seekSecond_40 (pc' := 41) rfl ?_
        refine j_nmi (fun x7 ex7 => ?_)
        replace hf := hf x7 ex7
        refine j_istore hC (lv' := [(7, .int x7), (6, .int r3), (0, .ref (q 6)), (1, .int a1), (2, .int a2), (3, .int a3), (4, .int a4), (5, .int a5)]) dX2_seekSecond_41 (pc' := 43) rfl (by decide) rfl ?_
        refine j_iload hC 6 dX2_seekSecond_43 (pc' := 45) rfl rfl ?_
        refine j_iload_n hC 4 dX2_seekSecond_45 (pc' := 46) rfl rfl ?_
        refine j_iload hC 1 dX2_seekSecond_46 (pc' := 48) rfl rfl ?_
        refine jcS_i hC (eX hE) (As := [.int r3]) (lk_X3_sOf hE r3 σ6 _ hf) wm_442 wm_186 wm_9 wm_187 dy_X3_sOf ⟨rfl, rfl⟩ ⟨Nat.le_of_ble_eq_true rfl, Nat.le_of_ble_eq_true rfl⟩ ⟨Nat.le_refl _, Nat.le_refl _⟩ rfl rfl (Nat.le_of_ble_eq_true rfl) dX2_seekSecond_48 (pc' := 51) rfl (fun r8 σ9 hf => ?_)
        refine j_imul hC dX2_seekSecond_51 (pc' := 52) rfl ?_
        refine j_isub hC dX2_seekSecond_52 (pc' := 53) rfl ?_
        refine j_nmi (fun x10 ex10 => ?_)
        replace hf := hf x10 ex10
        refine j_istore hC (lv' := [(8, .int x10), (7, .int x7), (6, .int r3), (0, .ref (q 6)), (1, .int a1), (2, .int a2), (3, .int a3), (4, .int a4), (5, .int a5)]) dX2_seekSecond_53 (pc' := 55) rfl (by decide) rfl ?_
        refine j_aload_n hC 3 dX2_seekSecond_55 (pc' := 56) rfl rfl ?_
        refine j_iload hC 1 dX2_seekSecond_56 (pc' := 58) rfl rfl ?_
        refine j_iload hC 0 dX2_seekSecond_58 (pc' := 60) rfl rfl ?_
        refine jcV_l hC (eX hE) (As := [.int x7, .int x10]) (obX_X2) (rfl) (lk_X2_atLeastLeft hE x7 x10 σ9 _ hf) wm_446 wm_447 wm_895 wm_5 wm_448 dy_X2_atLeastLeft ⟨rfl, rfl⟩ ⟨Nat.le_of_ble_eq_true rfl, Nat.le_of_ble_eq_true rfl⟩ ⟨Nat.le_refl _, Nat.le_refl _⟩ rfl rfl (Nat.le_of_ble_eq_true rfl) dX2_seekSecond_60 (pc' := 63) rfl (fun r11 σ12 hf => ?_)
        refine j_aload_n hC 3 dX2_seekSecond_63 (pc' := 64) rfl rfl ?_
        refine gX_least hC wm_98 dX2_seekSecond_64 (pc' := 67) rfl ?_
        refine j_lcmp hC dX2_seekSecond_67 (pc' := 68) rfl ?_
        refine j_if_ge hC (tgt := 91) dX2_seekSecond_68 (pc' := 71) rfl (by decide) (fun c_ => ?_) (fun c_ => ?_)
        · replace hf := hf.1 ((lgc_ge _ _).mp c_)
          obtain ⟨x13, ex13⟩ : ∃ y : Int32, y = a5 + (1 : Int32) := ⟨_, rfl⟩
          replace hf := hf x13 ex13
          refine j_iinc hC (v := x13) (q := 8) (lv' := [(5, .int x13), (8, .int x10), (7, .int x7), (6, .int r3), (0, .ref (q 6)), (1, .int a1), (2, .int a2), (3, .int a3), (4, .int a4)]) dX2_seekSecond_91 (pc' := 94) rfl rfl (by rw [ex13]; rfl) (by decide) rfl ?_
          refine j_goto hC (tgt := 3) dX2_seekSecond_94 (by decide) ?_
          refine j_lv [4, 5, 6, 7, 8, 0] rfl ?_
          exact ih a1 a2 a3 a4 x13 σ12 hf
        · replace hf := hf.2 (fun z => c_ ((lgc_ge _ _).mpr z))
          refine j_aload_n hC 3 dX2_seekSecond_71 (pc' := 72) rfl rfl ?_
          refine j_bipush hC (v := 100) dX2_seekSecond_72 (pc' := 74) rfl (by decide) ?_
          refine j_bipush hC (v := 100) dX2_seekSecond_74 (pc' := 76) rfl (by decide) ?_
          refine j_iload_n hC 4 dX2_seekSecond_76 (pc' := 77) rfl rfl ?_
          refine j_imul hC dX2_seekSecond_77 (pc' := 78) rfl ?_
          refine j_iload hC 8 dX2_seekSecond_78 (pc' := 80) rfl rfl ?_
          refine j_iadd hC dX2_seekSecond_80 (pc' := 81) rfl ?_
          refine j_imul hC dX2_seekSecond_81 (pc' := 82) rfl ?_
          refine j_iload hC 2 dX2_seekSecond_82 (pc' := 84) rfl rfl ?_
          refine j_iload hC 1 dX2_seekSecond_84 (pc' := 86) rfl rfl ?_
          refine j_iload hC 0 dX2_seekSecond_86 (pc' := 88) rfl rfl ?_
          refine jcV_v hC (eX hE) (As := [.int ((100 : Int32) * (((100 : Int32) * a1) + a5)), .int r3, .int x7, .int x10]) (obX_X2) (rfl) (lk_X2_seekThird hE ((100 : Int32) * (((100 : Int32) * a1) + a5)) r3 x7 x10 σ12 _ hf) wm_454 wm_455 wm_896 wm_5 wm_456 dy_X2_seekThird ⟨rfl, rfl⟩ ⟨Nat.le_of_ble_eq_true rfl, Nat.le_of_ble_eq_true rfl⟩ ⟨Nat.le_refl _, Nat.le_refl _⟩ rfl rfl (Nat.le_of_ble_eq_true rfl) dX2_seekSecond_88 (pc' := 91) rfl (fun σ15 hf => ?_)
          obtain ⟨x16, ex16⟩ : ∃ y : Int32, y = a5 + (1 : Int32) := ⟨_, rfl⟩
          replace hf := hf x16 ex16
          refine j_iinc hC (v := x16) (q := 8) (lv' := [(5, .int x16), (8, .int x10), (7, .int x7), (6, .int r3), (0, .ref (q 6)), (1, .int a1), (2, .int a2), (3, .int a3), (4, .int a4)]) dX2_seekSecond_91 (pc' := 94) rfl rfl (by rw [ex16]; rfl) (by decide) rfl ?_
          refine j_goto hC (tgt := 3) dX2_seekSecond_94 (by decide) ?_
          refine j_lv [4, 5, 6, 7, 8, 0] rfl ?_
          exact ih a1 a2 a3 a4 x16 σ15 hf
set_option maxHeartbeats 4000000 in
set_option maxRecDepth 100000 in
theorem lk_X2_seekSecond {l : Launch} {D : va_G} {q : Nat → Nat} {ca : Nat → ClassId} {t : Nat} (hE : qok 28 q) (a1 : Int32) (a2 : Int32) (a3 : Int32) (a4 : Int32) (σ : St) (Q : St → Prop) (hf : f_X2_seekSecond a1 a2 a3 a4 σ Q) : Mv l yX2_seekSecond cX2_seekSecond 9 none { frames := 2, cells := 0, slots := 0, locals := 52 } D (tysX ca) (ZX q t) (wX q ca) (AX q) [.ref (q 6), .int a1, .int a2, .int a3, .int a4] σ Q := by
  refine j_start (own := RX2) (lv := [(0, .ref (q 6)), (1, .int a1), (2, .int a2), (3, .int a3), (4, .int a4)]) [.ref (q 6), .int a1, .int a2, .int a3, .int a4] (by decide +kernel) rfl (wX_D hE σ) (Nat.le_of_ble_eq_true rfl) rfl (fun p e s m args below meth c hC => ?_)
  unfold f_X2_seekSecond at hf
  refine j_iconst hC (v := 0) dX2_seekSecond_0 (pc' := 1) rfl (by decide) ?_
  refine j_istore hC (lv' := [(5, .int (0 : Int32)), (0, .ref (q 6)), (1, .int a1), (2, .int a2), (3, .int a3), (4, .int a4)]) dX2_seekSecond_1 (pc' := 3) rfl (by decide) rfl ?_
  obtain ⟨n17, hf⟩ := hf
  refine j_lv [1, 2, 3, 4, 5, 0] rfl ?_
  exact lb_X2_seekSecond_b3 hE hC Q n17 a1 a2 a3 a4 (0 : Int32) σ hf
def f_X2_seek_b17 (Q : St → Prop) : Nat → Int32 → Int32 → Int32 → St → Prop
  | 0, _, _, _, _ => False
  | n + 1, a2, a3, a4, σ => ((36 : Int32) ≤ a4 → Q σ) ∧ ((¬ (36 : Int32) ≤ a4) → vp_in a4 108 ∧ ((σ.1 11 (Int32.toNatClampNeg a4)) = 0 → ∀ x4 : Int32, x4 = a4 + (1 : Int32) → f_X2_seek_b17 Q  n a2 a3 x4 σ) ∧ ((¬ (σ.1 11 (Int32.toNatClampNeg a4)) = 0) → f_X3_cOf a4 σ (fun r5 σ6 => ∀ x7 : Int32, x7 = ((65 : Int32) * a2) - ((σ.1 0 0) * r5) → f_X3_sOf a4 σ6 (fun r8 σ9 => ∀ x10 : Int32, x10 = ((65 : Int32) * a3) - ((σ6.1 0 0) * r8) → f_X2_seekSecond a4 (σ9.1 0 1) x7 x10 σ9 (fun σ12 => ∀ x13 : Int32, x13 = a4 + (1 : Int32) → f_X2_seek_b17 Q  n a2 a3 x13 σ12)))))
def f_X2_seek (a2 : Int32) (a3 : Int32) (σ : St) (Q : St → Prop) : Prop := ∀ σ1 : St, σ1 = sL σ 3 0 (1152921504606846976 : Int64) → ∀ σ2 : St, σ2 = sI σ1 12 0 (σ1.1 0 2) → ∃ n14 : Nat, f_X2_seek_b17 Q n14 a2 a3 (0 : Int32) σ2
theorem dy_X2_seek : yX2_seek.cls = yX2_seek.cls ∧ yX2_seek.cls ≠ "java/lang/invoke/MethodHandle" ∧ yX2_seek.cls ≠ "java/lang/invoke/VarHandle" ∧ (parseMethodDescriptor yX2_seek.desc).map (fun d => d.parameters.length) = some 3 := by decide +kernel
set_option maxHeartbeats 4000000 in
set_option maxRecDepth 100000 in
theorem lb_X2_seek_b17 {l : Launch} {D : va_G} {q : Nat → Nat} {ca : Nat → ClassId} {t : Nat} {p : Program} {e : Env} {s : State} {m : MethodId} {args : Array Value} {below : List Frame} {meth : Method} {c : Code} (hE : qok 28 q) (hC : Cx p s m args meth c cX2_seek 7 RX2 none D (tysX ca) (ZX q t)) (Q : St → Prop) : ∀ (n : Nat) (a2 : Int32) (a3 : Int32) (a4 : Int32) (σ : St), f_X2_seek_b17 Q n a2 a3 a4 σ → J p l e { frames := 3, cells := 0, slots := 0, locals := 80 } s m args below meth c (MQ below (va_Qv Q (BW D (wX q ca)) (AX q)) args s 0 0 (AX q)) D (AX q) 7 0 0 (wX q ca σ) 17 [(0, .ref (q 6)), (1, .ref (q 9)), (2, .int a2), (3, .int a3), (4, .int a4)] [] := by
  intro n
  induction n with
  | zero => intro a2 a3 a4 σ hf; exact hf.elim
  | succ n ih =>
    intro a2 a3 a4 σ hf
    unfold f_X2_seek_b17 at hf
    refine j_iload hC 4 dX2_seek_17 (pc' := 19) rfl rfl ?_
    refine j_bipush hC (v := 36) dX2_seek_19 (pc' := 21) rfl (by decide) ?_
    refine j_icmp_ge hC (tgt := 85) dX2_seek_21 (pc' := 24) rfl (by decide) (fun c_ => ?_) (fun c_ => ?_)
    · replace hf := hf.1 c_
      exact j_vret hC dX2_seek_85 hf
    · replace hf := hf.2 c_
      refine j_aload_n hC 0 dX2_seek_24 (pc' := 25) rfl rfl ?_
      refine gX_may hC wm_94 dX2_seek_25 (pc' := 28) rfl ?_
      refine j_iload hC 4 dX2_seek_28 (pc' := 30) rfl rfl ?_
      obtain ⟨h3, hf⟩ := hf
      refine lX_may hC (j := (Int32.toNatClampNeg a4)) h3 rfl dX2_seek_30 (pc' := 31) rfl ?_
      refine j_if_eq hC (tgt := 79) dX2_seek_31 (pc' := 34) rfl (by decide) (fun c_ => ?_) (fun c_ => ?_)
      · replace hf := hf.1 c_
        obtain ⟨x4, ex4⟩ : ∃ y : Int32, y = a4 + (1 : Int32) := ⟨_, rfl⟩
        replace hf := hf x4 ex4
        refine j_iinc hC (v := x4) (q := 4) (lv' := [(4, .int x4), (0, .ref (q 6)), (1, .ref (q 9)), (2, .int a2), (3, .int a3)]) dX2_seek_79 (pc' := 82) rfl rfl (by rw [ex4]; rfl) (by decide) rfl ?_
        refine j_goto hC (tgt := 17) dX2_seek_82 (by decide) ?_
        refine j_lv [1, 2, 3, 4, 0] rfl ?_
        exact ih a2 a3 x4 σ hf
      · replace hf := hf.2 c_
        refine j_bipush hC (v := 65) dX2_seek_34 (pc' := 36) rfl (by decide) ?_
        refine j_iload_n hC 2 dX2_seek_36 (pc' := 37) rfl rfl ?_
        refine j_imul hC dX2_seek_37 (pc' := 38) rfl ?_
        refine j_aload_n hC 1 dX2_seek_38 (pc' := 39) rfl rfl ?_
        refine j_iconst hC (v := 0) dX2_seek_39 (pc' := 40) rfl (by decide) ?_
        refine lX_lengths hC (j := 0) (show ¬ ((0 : Int32) < 0 ∨ 3 ≤ (0 : Int32).toNatClampNeg) from by decide) (by decide) dX2_seek_40 (pc' := 41) rfl ?_
        refine j_iload hC 4 dX2_seek_41 (pc' := 43) rfl rfl ?_
        refine jcS_i hC (eX hE) (As := [.int a4]) (lk_X3_cOf hE a4 σ _ hf) wm_441 wm_182 wm_9 wm_183 dy_X3_cOf ⟨rfl, rfl⟩ ⟨Nat.le_of_ble_eq_true rfl, Nat.le_of_ble_eq_true rfl⟩ ⟨Nat.le_refl _, Nat.le_refl _⟩ rfl rfl (Nat.le_of_ble_eq_true rfl) dX2_seek_43 (pc' := 46) rfl (fun r5 σ6 hf => ?_)
        refine j_imul hC dX2_seek_46 (pc' := 47) rfl ?_
        refine j_isub hC dX2_seek_47 (pc' := 48) rfl ?_
        refine j_nmi (fun x7 ex7 => ?_)
        replace hf := hf x7 ex7
        refine j_istore hC (lv' := [(5, .int x7), (0, .ref (q 6)), (1, .ref (q 9)), (2, .int a2), (3, .int a3), (4, .int a4)]) dX2_seek_48 (pc' := 50) rfl (by decide) rfl ?_
        refine j_bipush hC (v := 65) dX2_seek_50 (pc' := 52) rfl (by decide) ?_
        refine j_iload_n hC 4 dX2_seek_52 (pc' := 53) rfl rfl ?_
        refine j_imul hC dX2_seek_53 (pc' := 54) rfl ?_
        refine j_aload_n hC 2 dX2_seek_54 (pc' := 55) rfl rfl ?_
        refine j_iconst hC (v := 0) dX2_seek_55 (pc' := 56) rfl (by decide) ?_
        refine lX_lengths hC (j := 0) (show ¬ ((0 : Int32) < 0 ∨ 3 ≤ (0 : Int32).toNatClampNeg) from by decide) (by decide) dX2_seek_56 (pc' := 57) rfl ?_
        refine j_iload hC 5 dX2_seek_57 (pc' := 59) rfl rfl ?_
        refine jcS_i hC (eX hE) (As := [.int a4]) (lk_X3_sOf hE a4 σ6 _ hf) wm_442 wm_186 wm_9 wm_187 dy_X3_sOf ⟨rfl, rfl⟩ ⟨Nat.le_of_ble_eq_true rfl, Nat.le_of_ble_eq_true rfl⟩ ⟨Nat.le_refl _, Nat.le_refl _⟩ rfl rfl (Nat.le_of_ble_eq_true rfl) dX2_seek_59 (pc' := 62) rfl (fun r8 σ9 hf => ?_)
        refine j_imul hC dX2_seek_62 (pc' := 63) rfl ?_
        refine j_isub hC dX2_seek_63 (pc' := 64) rfl ?_
        refine j_nmi (fun x10 ex10 => ?_)
        replace hf := hf x10 ex10
        refine j_istore hC (lv' := [(6, .int x10), (5, .int x7), (0, .ref (q 6)), (1, .ref (q 9)), (2, .int a2), (3, .int a3), (4, .int a4)]) dX2_seek_64 (pc' := 66) rfl (by decide) rfl ?_
        refine j_aload_n hC 2 dX2_seek_66 (pc' := 67) rfl rfl ?_
        refine j_iload hC 6 dX2_seek_67 (pc' := 69) rfl rfl ?_
        refine j_aload_n hC 3 dX2_seek_69 (pc' := 70) rfl rfl ?_
        refine j_iconst hC (v := 1) dX2_seek_70 (pc' := 71) rfl (by decide) ?_
        refine lX_lengths hC (j := 1) (show ¬ ((1 : Int32) < 0 ∨ 3 ≤ (1 : Int32).toNatClampNeg) from by decide) (by decide) dX2_seek_71 (pc' := 72) rfl ?_
        refine j_iload hC 1 dX2_seek_72 (pc' := 74) rfl rfl ?_
        refine j_iload hC 0 dX2_seek_74 (pc' := 76) rfl rfl ?_
        refine jcV_v hC (eX hE) (As := [.int a4, .int (σ9.1 0 1), .int x7, .int x10]) (obX_X2) (rfl) (lk_X2_seekSecond hE a4 (σ9.1 0 1) x7 x10 σ9 _ hf) wm_443 wm_444 wm_894 wm_5 wm_445 dy_X2_seekSecond ⟨rfl, rfl⟩ ⟨Nat.le_of_ble_eq_true rfl, Nat.le_of_ble_eq_true rfl⟩ ⟨Nat.le_refl _, Nat.le_refl _⟩ rfl rfl (Nat.le_of_ble_eq_true rfl) dX2_seek_76 (pc' := 79) rfl (fun σ12 hf => ?_)
        obtain ⟨x13, ex13⟩ : ∃ y : Int32, y = a4 + (1 : Int32) := ⟨_, rfl⟩
        replace hf := hf x13 ex13
        refine j_iinc hC (v := x13) (q := 6) (lv' := [(4, .int x13), (6, .int x10), (5, .int x7), (0, .ref (q 6)), (1, .ref (q 9)), (2, .int a2), (3, .int a3)]) dX2_seek_79 (pc' := 82) rfl rfl (by rw [ex13]; rfl) (by decide) rfl ?_
        refine j_goto hC (tgt := 17) dX2_seek_82 (by decide) ?_
        refine j_lv [3, 4, 5, 6, 0] rfl ?_
        exact ih a2 a3 x13 σ12 hf
set_option maxHeartbeats 4000000 in
set_option maxRecDepth 100000 in
theorem lk_X2_seek {l : Launch} {D : va_G} {q : Nat → Nat} {ca : Nat → ClassId} {t : Nat} (hE : qok 28 q) (a2 : Int32) (a3 : Int32) (σ : St) (Q : St → Prop) (hf : f_X2_seek a2 a3 σ Q) : Mv l yX2_seek cX2_seek 7 none { frames := 3, cells := 0, slots := 0, locals := 80 } D (tysX ca) (ZX q t) (wX q ca) (AX q) [.ref (q 6), .ref (q 9), .int a2, .int a3] σ Q := by
  refine j_start (own := RX2) (lv := [(0, .ref (q 6)), (1, .ref (q 9)), (2, .int a2), (3, .int a3)]) [.ref (q 6), .ref (q 9), .int a2, .int a3] (by decide +kernel) rfl (wX_D hE σ) (Nat.le_of_ble_eq_true rfl) rfl (fun p e s m args below meth c hC => ?_)
  unfold f_X2_seek at hf
  refine j_aload_n hC 0 dX2_seek_0 (pc' := 1) rfl rfl ?_
  refine j_ldc2 hC (v := 1152921504606846976) dX2_seek_1 (pc' := 4) rfl wm_440 ?_
  refine pX_least hC wm_98 dX2_seek_4 (pc' := 7) rfl ?_
  refine j_nms (wf := wX q ca) (fun σ1 eσ1 => ?_)
  replace hf := hf σ1 eσ1
  refine j_aload_n hC 0 dX2_seek_7 (pc' := 8) rfl rfl ?_
  refine j_aload_n hC 1 dX2_seek_8 (pc' := 9) rfl rfl ?_
  refine j_iconst hC (v := 2) dX2_seek_9 (pc' := 10) rfl (by decide) ?_
  refine lX_lengths hC (j := 2) (show ¬ ((2 : Int32) < 0 ∨ 3 ≤ (2 : Int32).toNatClampNeg) from by decide) (by decide) dX2_seek_10 (pc' := 11) rfl ?_
  refine pX_lastLength hC wm_95 dX2_seek_11 (pc' := 14) rfl ?_
  refine j_nms (wf := wX q ca) (fun σ2 eσ2 => ?_)
  replace hf := hf σ2 eσ2
  refine j_iconst hC (v := 0) dX2_seek_14 (pc' := 15) rfl (by decide) ?_
  refine j_istore hC (lv' := [(4, .int (0 : Int32)), (0, .ref (q 6)), (1, .ref (q 9)), (2, .int a2), (3, .int a3)]) dX2_seek_15 (pc' := 17) rfl (by decide) rfl ?_
  obtain ⟨n14, hf⟩ := hf
  refine j_lv [1, 2, 3, 4, 0] rfl ?_
  exact lb_X2_seek_b17 hE hC Q n14 a2 a3 (0 : Int32) σ2 hf
def f_X4_isForm (a0 : Int32) (σ : St) (Q : Int32 → St → Prop) : Prop := (a0 < 0 → Q (0 : Int32) σ) ∧ ((¬ a0 < 0) → ((2 : Int32) < a0 → Q (0 : Int32) σ) ∧ ((¬ (2 : Int32) < a0) → Q (1 : Int32) σ))
theorem dy_X4_isForm : yX4_isForm.cls ≠ "java/lang/invoke/MethodHandle" ∧ yX4_isForm.cls ≠ "java/lang/invoke/VarHandle" ∧ (parseMethodDescriptor yX4_isForm.desc).map (fun d => d.parameters.length) = some 1 := by decide +kernel
set_option maxHeartbeats 4000000 in
set_option maxRecDepth 100000 in
theorem lk_X4_isForm {l : Launch} {D : va_G} {q : Nat → Nat} {ca : Nat → ClassId} {t : Nat} (hE : qok 28 q) (a0 : Int32) (σ : St) (Q : Int32 → St → Prop) (hf : f_X4_isForm a0 σ Q) : Mi l yX4_isForm cX4_isForm 1 (some .boolean) { frames := 0, cells := 0, slots := 0, locals := 0 } D (tysX ca) (ZX q t) (wX q ca) (AX q) [.int a0] σ Q := by
  refine j_start (own := RX4) (lv := [(0, .int a0)]) [.int a0] (by decide +kernel) rfl (wX_D hE σ) (Nat.le_of_ble_eq_true rfl) rfl (fun p e s m args below meth c hC => ?_)
  unfold f_X4_isForm at hf
  refine j_iload_n hC 0 dX4_isForm_0 (pc' := 1) rfl rfl ?_
  refine j_if_lt hC (tgt := 13) dX4_isForm_1 (pc' := 4) rfl (by decide) (fun c_ => ?_) (fun c_ => ?_)
  · replace hf := hf.1 c_
    refine j_iconst hC (v := 0) dX4_isForm_13 (pc' := 14) rfl (by decide) ?_
    exact j_zret hC dX4_isForm_14 (Or.inl rfl) hf
  · replace hf := hf.2 c_
    refine j_iload_n hC 0 dX4_isForm_4 (pc' := 5) rfl rfl ?_
    refine j_iconst hC (v := 2) dX4_isForm_5 (pc' := 6) rfl (by decide) ?_
    refine j_icmp_gt hC (tgt := 13) dX4_isForm_6 (pc' := 9) rfl (by decide) (fun c_ => ?_) (fun c_ => ?_)
    · replace hf := hf.1 c_
      refine j_iconst hC (v := 0) dX4_isForm_13 (pc' := 14) rfl (by decide) ?_
      exact j_zret hC dX4_isForm_14 (Or.inl rfl) hf
    · replace hf := hf.2 c_
      refine j_iconst hC (v := 1) dX4_isForm_9 (pc' := 10) rfl (by decide) ?_
      refine j_goto hC (tgt := 14) dX4_isForm_10 (by decide) ?_
      exact j_zret hC dX4_isForm_14 (Or.inr rfl) hf
def f_X4_lowestBits (a0 : Int32) (a1 : Int32) (σ : St) (Q : Int32 → St → Prop) : Prop := ((¬ a0 = 0) → ((¬ a0 = (1 : Int32)) → Q a1 σ) ∧ (a0 = (1 : Int32) → Q ((Int32.toInt16 a1).toInt32) σ)) ∧ (a0 = 0 → Q ((Int32.toInt8 a1).toInt32) σ)
theorem dy_X4_lowestBits : yX4_lowestBits.cls ≠ "java/lang/invoke/MethodHandle" ∧ yX4_lowestBits.cls ≠ "java/lang/invoke/VarHandle" ∧ (parseMethodDescriptor yX4_lowestBits.desc).map (fun d => d.parameters.length) = some 2 := by decide +kernel
set_option maxHeartbeats 4000000 in
set_option maxRecDepth 100000 in
theorem lk_X4_lowestBits {l : Launch} {D : va_G} {q : Nat → Nat} {ca : Nat → ClassId} {t : Nat} (hE : qok 28 q) (a0 : Int32) (a1 : Int32) (σ : St) (Q : Int32 → St → Prop) (hf : f_X4_lowestBits a0 a1 σ Q) : Mi l yX4_lowestBits cX4_lowestBits 2 (some .int) { frames := 0, cells := 0, slots := 0, locals := 0 } D (tysX ca) (ZX q t) (wX q ca) (AX q) [.int a0, .int a1] σ Q := by
  refine j_start (own := RX4) (lv := [(0, .int a0), (1, .int a1)]) [.int a0, .int a1] (by decide +kernel) rfl (wX_D hE σ) (Nat.le_of_ble_eq_true rfl) rfl (fun p e s m args below meth c hC => ?_)
  unfold f_X4_lowestBits at hf
  refine j_iload_n hC 0 dX4_lowestBits_0 (pc' := 1) rfl rfl ?_
  refine j_if_ne hC (tgt := 7) dX4_lowestBits_1 (pc' := 4) rfl (by decide) (fun c_ => ?_) (fun c_ => ?_)
  · replace hf := hf.1 c_
    refine j_iload_n hC 0 dX4_lowestBits_7 (pc' := 8) rfl rfl ?_
    refine j_iconst hC (v := 1) dX4_lowestBits_8 (pc' := 9) rfl (by decide) ?_
    refine j_icmp_ne hC (tgt := 17) dX4_lowestBits_9 (pc' := 12) rfl (by decide) (fun c_ => ?_) (fun c_ => ?_)
    · replace hf := hf.1 c_
      refine j_iload_n hC 1 dX4_lowestBits_17 (pc' := 18) rfl rfl ?_
      exact j_iret hC dX4_lowestBits_18 hf
    · replace hf := hf.2 c_
      refine j_iload_n hC 1 dX4_lowestBits_12 (pc' := 13) rfl rfl ?_
      refine j_i2s hC dX4_lowestBits_13 (pc' := 14) rfl ?_
      refine j_goto hC (tgt := 18) dX4_lowestBits_14 (by decide) ?_
      exact j_iret hC dX4_lowestBits_18 hf
  · replace hf := hf.2 c_
    refine j_iload_n hC 1 dX4_lowestBits_4 (pc' := 5) rfl rfl ?_
    refine j_i2b hC dX4_lowestBits_5 (pc' := 6) rfl ?_
    exact j_iret hC dX4_lowestBits_6 hf
def f_X4_isLost (k : Nat) (σ : St) (Q : Int32 → St → Prop) : Prop := ((¬ (σ.1 (24 + k) 0) = (-1 : Int32)) → Q (0 : Int32) σ) ∧ ((σ.1 (24 + k) 0) = (-1 : Int32) → Q (1 : Int32) σ)
theorem dy_X4_isLost : yX4_isLost.cls = yX4_isLost.cls ∧ yX4_isLost.cls ≠ "java/lang/invoke/MethodHandle" ∧ yX4_isLost.cls ≠ "java/lang/invoke/VarHandle" ∧ (parseMethodDescriptor yX4_isLost.desc).map (fun d => d.parameters.length) = some 0 := by decide +kernel
set_option maxHeartbeats 4000000 in
set_option maxRecDepth 100000 in
theorem lk_X4_isLost {l : Launch} {D : va_G} {q : Nat → Nat} {ca : Nat → ClassId} {t : Nat} (hE : qok 28 q) (k : Nat) (hk4 : k < 4) (σ : St) (Q : Int32 → St → Prop) (hf : f_X4_isLost k σ Q) : Mi l yX4_isLost cX4_isLost 1 (some .boolean) { frames := 0, cells := 0, slots := 0, locals := 0 } D (tysX ca) (ZX q t) (wX q ca) (AX q) [.ref (q (20 + k))] σ Q := by
  refine j_start (own := RX4) (lv := [(0, .ref (q (20 + k)))]) [.ref (q (20 + k))] (by decide +kernel) rfl (wX_D hE σ) (Nat.le_of_ble_eq_true rfl) rfl (fun p e s m args below meth c hC => ?_)
  unfold f_X4_isLost at hf
  refine j_aload_n hC 0 dX4_isLost_0 (pc' := 1) rfl rfl ?_
  refine gX_form hC hk4 wm_133 dX4_isLost_1 (pc' := 4) rfl ?_
  refine j_iconst hC (v := -1) dX4_isLost_4 (pc' := 5) rfl (by decide) ?_
  refine j_icmp_ne hC (tgt := 12) dX4_isLost_5 (pc' := 8) rfl (by decide) (fun c_ => ?_) (fun c_ => ?_)
  · replace hf := hf.1 c_
    refine j_iconst hC (v := 0) dX4_isLost_12 (pc' := 13) rfl (by decide) ?_
    exact j_zret hC dX4_isLost_13 (Or.inl rfl) hf
  · replace hf := hf.2 c_
    refine j_iconst hC (v := 1) dX4_isLost_8 (pc' := 9) rfl (by decide) ?_
    refine j_goto hC (tgt := 13) dX4_isLost_9 (by decide) ?_
    exact j_zret hC dX4_isLost_13 (Or.inr rfl) hf
