def f_X7_length (a1 : Int32) (a2 : Int32) (σ : St) (Q : Int32 → St → Prop) : Prop := f_X7_within a1 (0 : Int32) (2 : Int32) σ (fun r1 σ2 => (r1 = 0 → Q (-2 : Int32) σ2) ∧ ((¬ r1 = 0) → f_X7_within a2 (1 : Int32) (999 : Int32) σ2 (fun r3 σ4 => ((¬ r3 = 0) → vp_in a1 3 ∧ ∀ x6 : Int32, x6 = σ4.1 0 (Int32.toNatClampNeg a1) → vp_in a1 3 ∧ ∀ σ8 : St, σ8 = sI σ4 0 (Int32.toNatClampNeg a1) a2 → Q x6 σ8) ∧ (r3 = 0 → Q (-2 : Int32) σ4))))
theorem dy_X7_length : yX7_length.cls = yX7_length.cls ∧ yX7_length.cls ≠ "java/lang/invoke/MethodHandle" ∧ yX7_length.cls ≠ "java/lang/invoke/VarHandle" ∧ (parseMethodDescriptor yX7_length.desc).map (fun d => d.parameters.length) = some 2 := by decide +kernel
set_option maxHeartbeats 4000000 in
set_option maxRecDepth 100000 in
theorem lk_X7_length {l : Launch} {D : va_G} {q : Nat → Nat} {ca : Nat → ClassId} {t : Nat} (hE : qok 28 q) (a1 : Int32) (a2 : Int32) (σ : St) (Q : Int32 → St → Prop) (hf : f_X7_length a1 a2 σ Q) : Mi l yX7_length cX7_length 4 (some .int) { frames := 1, cells := 0, slots := 0, locals := 22 } D (tysX ca) (ZX q t) (wX q ca) (AX q) [.ref (q 0), .int a1, .int a2] σ Q := by
  refine j_start (own := RX7) (lv := [(0, .ref (q 0)), (1, .int a1), (2, .int a2)]) [.ref (q 0), .int a1, .int a2] (by decide +kernel) rfl (wX_D hE σ) (Nat.le_of_ble_eq_true rfl) rfl (fun p e s m args below meth c hC => ?_)
  unfold f_X7_length at hf
  refine j_iload_n hC 1 dX7_length_0 (pc' := 1) rfl rfl ?_
  refine j_iconst hC (v := 0) dX7_length_1 (pc' := 2) rfl (by decide) ?_
  refine j_iconst hC (v := 2) dX7_length_2 (pc' := 3) rfl (by decide) ?_
  refine jcS_i hC (eX hE) (As := [.int a1, .int (0 : Int32), .int (2 : Int32)]) (lk_X7_within hE a1 (0 : Int32) (2 : Int32) σ _ hf) wm_175 wm_176 wm_1 wm_177 dy_X7_within ⟨rfl, rfl⟩ ⟨Nat.le_of_ble_eq_true rfl, Nat.le_of_ble_eq_true rfl⟩ ⟨Nat.le_refl _, Nat.le_refl _⟩ rfl rfl (Nat.le_of_ble_eq_true rfl) dX7_length_3 (pc' := 6) rfl (fun r1 σ2 hf => ?_)
  refine j_if_eq hC (tgt := 20) dX7_length_6 (pc' := 9) rfl (by decide) (fun c_ => ?_) (fun c_ => ?_)
  · replace hf := hf.1 c_
    refine j_bipush hC (v := -2) dX7_length_20 (pc' := 22) rfl (by decide) ?_
    exact j_iret hC dX7_length_22 hf
  · replace hf := hf.2 c_
    refine j_iload_n hC 2 dX7_length_9 (pc' := 10) rfl rfl ?_
    refine j_iconst hC (v := 1) dX7_length_10 (pc' := 11) rfl (by decide) ?_
    refine j_sipush hC (v := 999) dX7_length_11 (pc' := 14) rfl (by decide) ?_
    refine jcS_i hC (eX hE) (As := [.int a2, .int (1 : Int32), .int (999 : Int32)]) (lk_X7_within hE a2 (1 : Int32) (999 : Int32) σ2 _ hf) wm_175 wm_176 wm_1 wm_177 dy_X7_within ⟨rfl, rfl⟩ ⟨Nat.le_of_ble_eq_true rfl, Nat.le_of_ble_eq_true rfl⟩ ⟨Nat.le_refl _, Nat.le_refl _⟩ rfl rfl (Nat.le_of_ble_eq_true rfl) dX7_length_14 (pc' := 17) rfl (fun r3 σ4 hf => ?_)
    refine j_if_ne hC (tgt := 23) dX7_length_17 (pc' := 20) rfl (by decide) (fun c_ => ?_) (fun c_ => ?_)
    · replace hf := hf.1 c_
      refine j_aload_n hC 0 dX7_length_23 (pc' := 24) rfl rfl ?_
      refine gX_arm hC wm_143 dX7_length_24 (pc' := 27) rfl ?_
      refine gX_lengths hC wm_29 dX7_length_27 (pc' := 30) rfl ?_
      refine j_iload_n hC 1 dX7_length_30 (pc' := 31) rfl rfl ?_
      obtain ⟨h5, hf⟩ := hf
      refine lX_lengths hC (j := (Int32.toNatClampNeg a1)) h5 rfl dX7_length_31 (pc' := 32) rfl ?_
      refine j_nmi (fun x6 ex6 => ?_)
      replace hf := hf x6 ex6
      refine j_istore_n hC (lv' := [(3, .int x6), (0, .ref (q 0)), (1, .int a1), (2, .int a2)]) dX7_length_32 (pc' := 33) rfl rfl (by decide) rfl ?_
      refine j_aload_n hC 1 dX7_length_33 (pc' := 34) rfl rfl ?_
      refine gX_arm hC wm_143 dX7_length_34 (pc' := 37) rfl ?_
      refine gX_lengths hC wm_29 dX7_length_37 (pc' := 40) rfl ?_
      refine j_iload_n hC 2 dX7_length_40 (pc' := 41) rfl rfl ?_
      refine j_iload_n hC 3 dX7_length_41 (pc' := 42) rfl rfl ?_
      obtain ⟨h7, hf⟩ := hf
      refine sX_lengths hC (j := (Int32.toNatClampNeg a1)) h7 rfl dX7_length_42 (pc' := 43) rfl ?_
      refine j_nms (wf := wX q ca) (fun σ8 eσ8 => ?_)
      replace hf := hf σ8 eσ8
      refine j_iload_n hC 0 dX7_length_43 (pc' := 44) rfl rfl ?_
      exact j_iret hC dX7_length_44 hf
    · replace hf := hf.2 c_
      refine j_bipush hC (v := -2) dX7_length_20 (pc' := 22) rfl (by decide) ?_
      exact j_iret hC dX7_length_22 hf
def f_X7_posture (a1 : Int32) (a2 : Int32) (a3 : Int32) (σ : St) (Q : Int32 → St → Prop) : Prop := f_X7_within a1 (0 : Int32) (35 : Int32) σ (fun r1 σ2 => (r1 = 0 → Q (-2 : Int32) σ2) ∧ ((¬ r1 = 0) → f_X7_within a2 (0 : Int32) (35 : Int32) σ2 (fun r3 σ4 => (r3 = 0 → Q (-2 : Int32) σ4) ∧ ((¬ r3 = 0) → f_X7_within a3 (0 : Int32) (35 : Int32) σ4 (fun r5 σ6 => ((¬ r5 = 0) → ((σ6.1 3 0) < (20 : Int32) → f_X0_stand a1 a2 a3 σ6 (fun r7 σ8 => Q r7 σ8)) ∧ ((¬ (σ6.1 3 0) < (20 : Int32)) → Q (-4 : Int32) σ6)) ∧ (r5 = 0 → Q (-2 : Int32) σ6))))))
theorem dy_X7_posture : yX7_posture.cls = yX7_posture.cls ∧ yX7_posture.cls ≠ "java/lang/invoke/MethodHandle" ∧ yX7_posture.cls ≠ "java/lang/invoke/VarHandle" ∧ (parseMethodDescriptor yX7_posture.desc).map (fun d => d.parameters.length) = some 3 := by decide +kernel
set_option maxHeartbeats 4000000 in
set_option maxRecDepth 100000 in
theorem lk_X7_posture {l : Launch} {D : va_G} {q : Nat → Nat} {ca : Nat → ClassId} {t : Nat} (hE : qok 28 q) (a1 : Int32) (a2 : Int32) (a3 : Int32) (σ : St) (Q : Int32 → St → Prop) (hf : f_X7_posture a1 a2 a3 σ Q) : Mi l yX7_posture cX7_posture 4 (some .int) { frames := 3, cells := 0, slots := 0, locals := 67 } D (tysX ca) (ZX q t) (wX q ca) (AX q) [.ref (q 0), .int a1, .int a2, .int a3] σ Q := by
  refine j_start (own := RX7) (lv := [(0, .ref (q 0)), (1, .int a1), (2, .int a2), (3, .int a3)]) [.ref (q 0), .int a1, .int a2, .int a3] (by decide +kernel) rfl (wX_D hE σ) (Nat.le_of_ble_eq_true rfl) rfl (fun p e s m args below meth c hC => ?_)
  unfold f_X7_posture at hf
  refine j_iload_n hC 1 dX7_posture_0 (pc' := 1) rfl rfl ?_
  refine j_iconst hC (v := 0) dX7_posture_1 (pc' := 2) rfl (by decide) ?_
  refine j_bipush hC (v := 35) dX7_posture_2 (pc' := 4) rfl (by decide) ?_
  refine jcS_i hC (eX hE) (As := [.int a1, .int (0 : Int32), .int (35 : Int32)]) (lk_X7_within hE a1 (0 : Int32) (35 : Int32) σ _ hf) wm_175 wm_176 wm_1 wm_177 dy_X7_within ⟨rfl, rfl⟩ ⟨Nat.le_of_ble_eq_true rfl, Nat.le_of_ble_eq_true rfl⟩ ⟨Nat.le_refl _, Nat.le_refl _⟩ rfl rfl (Nat.le_of_ble_eq_true rfl) dX7_posture_4 (pc' := 7) rfl (fun r1 σ2 hf => ?_)
  refine j_if_eq hC (tgt := 30) dX7_posture_7 (pc' := 10) rfl (by decide) (fun c_ => ?_) (fun c_ => ?_)
  · replace hf := hf.1 c_
    refine j_bipush hC (v := -2) dX7_posture_30 (pc' := 32) rfl (by decide) ?_
    exact j_iret hC dX7_posture_32 hf
  · replace hf := hf.2 c_
    refine j_iload_n hC 2 dX7_posture_10 (pc' := 11) rfl rfl ?_
    refine j_iconst hC (v := 0) dX7_posture_11 (pc' := 12) rfl (by decide) ?_
    refine j_bipush hC (v := 35) dX7_posture_12 (pc' := 14) rfl (by decide) ?_
    refine jcS_i hC (eX hE) (As := [.int a2, .int (0 : Int32), .int (35 : Int32)]) (lk_X7_within hE a2 (0 : Int32) (35 : Int32) σ2 _ hf) wm_175 wm_176 wm_1 wm_177 dy_X7_within ⟨rfl, rfl⟩ ⟨Nat.le_of_ble_eq_true rfl, Nat.le_of_ble_eq_true rfl⟩ ⟨Nat.le_refl _, Nat.le_refl _⟩ rfl rfl (Nat.le_of_ble_eq_true rfl) dX7_posture_14 (pc' := 17) rfl (fun r3 σ4 hf => ?_)
    refine j_if_eq hC (tgt := 30) dX7_posture_17 (pc' := 20) rfl (by decide) (fun c_ => ?_) (fun c_ => ?_)
    · replace hf := hf.1 c_
      refine j_bipush hC (v := -2) dX7_posture_30 (pc' := 32) rfl (by decide) ?_
      exact j_iret hC dX7_posture_32 hf
    · replace hf := hf.2 c_
      refine j_iload_n hC 3 dX7_posture_20 (pc' := 21) rfl rfl ?_
      refine j_iconst hC (v := 0) dX7_posture_21 (pc' := 22) rfl (by decide) ?_
      refine j_bipush hC (v := 35) dX7_posture_22 (pc' := 24) rfl (by decide) ?_
      refine jcS_i hC (eX hE) (As := [.int a3, .int (0 : Int32), .int (35 : Int32)]) (lk_X7_within hE a3 (0 : Int32) (35 : Int32) σ4 _ hf) wm_175 wm_176 wm_1 wm_177 dy_X7_within ⟨rfl, rfl⟩ ⟨Nat.le_of_ble_eq_true rfl, Nat.le_of_ble_eq_true rfl⟩ ⟨Nat.le_refl _, Nat.le_refl _⟩ rfl rfl (Nat.le_of_ble_eq_true rfl) dX7_posture_24 (pc' := 27) rfl (fun r5 σ6 hf => ?_)
      refine j_if_ne hC (tgt := 33) dX7_posture_27 (pc' := 30) rfl (by decide) (fun c_ => ?_) (fun c_ => ?_)
      · replace hf := hf.1 c_
        refine j_aload_n hC 0 dX7_posture_33 (pc' := 34) rfl rfl ?_
        refine gX_arm hC wm_143 dX7_posture_34 (pc' := 37) rfl ?_
        refine gX_postures hC wm_35 dX7_posture_37 (pc' := 40) rfl ?_
        refine j_bipush hC (v := 20) dX7_posture_40 (pc' := 42) rfl (by decide) ?_
        refine j_icmp_lt hC (tgt := 48) dX7_posture_42 (pc' := 45) rfl (by decide) (fun c_ => ?_) (fun c_ => ?_)
        · replace hf := hf.1 c_
          refine j_aload_n hC 0 dX7_posture_48 (pc' := 49) rfl rfl ?_
          refine gX_arm hC wm_143 dX7_posture_49 (pc' := 52) rfl ?_
          refine j_iload_n hC 1 dX7_posture_52 (pc' := 53) rfl rfl ?_
          refine j_iload_n hC 2 dX7_posture_53 (pc' := 54) rfl rfl ?_
          refine j_iload_n hC 3 dX7_posture_54 (pc' := 55) rfl rfl ?_
          refine jcV_i hC (eX hE) (As := [.int a1, .int a2, .int a3]) (obX_X0) (rfl) (lk_X0_stand hE a1 a2 a3 σ6 _ hf) wm_196 wm_197 wm_198 wm_2 wm_199 dy_X0_stand ⟨rfl, rfl⟩ ⟨Nat.le_of_ble_eq_true rfl, Nat.le_of_ble_eq_true rfl⟩ ⟨Nat.le_refl _, Nat.le_refl _⟩ rfl rfl (Nat.le_of_ble_eq_true rfl) dX7_posture_55 (pc' := 58) rfl (fun r7 σ8 hf => ?_)
          exact j_iret hC dX7_posture_58 hf
        · replace hf := hf.2 c_
          refine j_bipush hC (v := -4) dX7_posture_45 (pc' := 47) rfl (by decide) ?_
          exact j_iret hC dX7_posture_47 hf
      · replace hf := hf.2 c_
        refine j_bipush hC (v := -2) dX7_posture_30 (pc' := 32) rfl (by decide) ?_
        exact j_iret hC dX7_posture_32 hf
def f_X7_clear_b18 (Q : Int32 → St → Prop) : Nat → Int32 → Int32 → St → Prop
  | 0, _, _, _ => False
  | n + 1, a1, a2, σ => ((20 : Int32) ≤ a2 → Q a1 σ) ∧ ((¬ (20 : Int32) ≤ a2) → vp_in a2 20 ∧ ∀ σ4 : St, σ4 = sI σ 4 (Int32.toNatClampNeg a2) (vp_nar .boolean (0 : Int32)) → ∀ x5 : Int32, x5 = a2 + (1 : Int32) → f_X7_clear_b18 Q  n a1 x5 σ4)
def f_X7_clear (σ : St) (Q : Int32 → St → Prop) : Prop := ∀ x1 : Int32, x1 = σ.1 3 0 → ∀ σ2 : St, σ2 = sI σ 3 0 (0 : Int32) → ∃ n6 : Nat, f_X7_clear_b18 Q n6 x1 (0 : Int32) σ2
theorem dy_X7_clear : yX7_clear.cls = yX7_clear.cls ∧ yX7_clear.cls ≠ "java/lang/invoke/MethodHandle" ∧ yX7_clear.cls ≠ "java/lang/invoke/VarHandle" ∧ (parseMethodDescriptor yX7_clear.desc).map (fun d => d.parameters.length) = some 0 := by decide +kernel
set_option maxHeartbeats 4000000 in
set_option maxRecDepth 100000 in
theorem lb_X7_clear_b18 {l : Launch} {D : va_G} {q : Nat → Nat} {ca : Nat → ClassId} {t : Nat} {p : Program} {e : Env} {s : State} {m : MethodId} {args : Array Value} {below : List Frame} {meth : Method} {c : Code} (hE : qok 28 q) (hC : Cx p s m args meth c cX7_clear 3 RX7 (some .int) D (tysX ca) (ZX q t)) (Q : Int32 → St → Prop) : ∀ (n : Nat) (a1 : Int32) (a2 : Int32) (σ : St), f_X7_clear_b18 Q n a1 a2 σ → J p l e { frames := 0, cells := 0, slots := 0, locals := 0 } s m args below meth c (MQ below (va_Qi Q (BW D (wX q ca)) (AX q)) args s 0 0 (AX q)) D (AX q) 3 0 0 (wX q ca σ) 18 [(0, .ref (q 0)), (1, .int a1), (2, .int a2)] [] := by
  intro n
  induction n with
  | zero => intro a1 a2 σ hf; exact hf.elim
  | succ n ih =>
    intro a1 a2 σ hf
    unfold f_X7_clear_b18 at hf
    refine j_iload_n hC 2 dX7_clear_18 (pc' := 19) rfl rfl ?_
    refine j_bipush hC (v := 20) dX7_clear_19 (pc' := 21) rfl (by decide) ?_
    refine j_icmp_ge hC (tgt := 37) dX7_clear_21 (pc' := 24) rfl (by decide) (fun c_ => ?_) (fun c_ => ?_)
    · replace hf := hf.1 c_
      refine j_iload_n hC 1 dX7_clear_37 (pc' := 38) rfl rfl ?_
      exact j_iret hC dX7_clear_38 hf
    · replace hf := hf.2 c_
      refine j_aload_n hC 0 dX7_clear_24 (pc' := 25) rfl rfl ?_
      refine gX_leftOut hC wm_144 dX7_clear_25 (pc' := 28) rfl ?_
      refine j_iload_n hC 2 dX7_clear_28 (pc' := 29) rfl rfl ?_
      refine j_iconst hC (v := 0) dX7_clear_29 (pc' := 30) rfl (by decide) ?_
      obtain ⟨h3, hf⟩ := hf
      refine sX_leftOut hC (j := (Int32.toNatClampNeg a2)) h3 rfl dX7_clear_30 (pc' := 31) rfl ?_
      refine j_nms (wf := wX q ca) (fun σ4 eσ4 => ?_)
      replace hf := hf σ4 eσ4
      obtain ⟨x5, ex5⟩ : ∃ y : Int32, y = a2 + (1 : Int32) := ⟨_, rfl⟩
      replace hf := hf x5 ex5
      refine j_iinc hC (v := x5) (q := 2) (lv' := [(2, .int x5), (0, .ref (q 0)), (1, .int a1)]) dX7_clear_31 (pc' := 34) rfl rfl (by rw [ex5]; rfl) (by decide) rfl ?_
      refine j_goto hC (tgt := 18) dX7_clear_34 (by decide) ?_
      refine j_lv [1, 2, 0] rfl ?_
      exact ih a1 x5 σ4 hf
set_option maxHeartbeats 4000000 in
set_option maxRecDepth 100000 in
theorem lk_X7_clear {l : Launch} {D : va_G} {q : Nat → Nat} {ca : Nat → ClassId} {t : Nat} (hE : qok 28 q) (σ : St) (Q : Int32 → St → Prop) (hf : f_X7_clear σ Q) : Mi l yX7_clear cX7_clear 3 (some .int) { frames := 0, cells := 0, slots := 0, locals := 0 } D (tysX ca) (ZX q t) (wX q ca) (AX q) [.ref (q 0)] σ Q := by
  refine j_start (own := RX7) (lv := [(0, .ref (q 0))]) [.ref (q 0)] (by decide +kernel) rfl (wX_D hE σ) (Nat.le_of_ble_eq_true rfl) rfl (fun p e s m args below meth c hC => ?_)
  unfold f_X7_clear at hf
  refine j_aload_n hC 0 dX7_clear_0 (pc' := 1) rfl rfl ?_
  refine gX_arm hC wm_143 dX7_clear_1 (pc' := 4) rfl ?_
  refine gX_postures hC wm_35 dX7_clear_4 (pc' := 7) rfl ?_
  refine j_nmi (fun x1 ex1 => ?_)
  replace hf := hf x1 ex1
  refine j_istore_n hC (lv' := [(1, .int x1), (0, .ref (q 0))]) dX7_clear_7 (pc' := 8) rfl rfl (by decide) rfl ?_
  refine j_aload_n hC 1 dX7_clear_8 (pc' := 9) rfl rfl ?_
  refine gX_arm hC wm_143 dX7_clear_9 (pc' := 12) rfl ?_
  refine j_iconst hC (v := 0) dX7_clear_12 (pc' := 13) rfl (by decide) ?_
  refine pX_postures hC wm_35 dX7_clear_13 (pc' := 16) rfl ?_
  refine j_nms (wf := wX q ca) (fun σ2 eσ2 => ?_)
  replace hf := hf σ2 eσ2
  refine j_iconst hC (v := 0) dX7_clear_16 (pc' := 17) rfl (by decide) ?_
  refine j_istore_n hC (lv' := [(2, .int (0 : Int32)), (1, .int x1), (0, .ref (q 0))]) dX7_clear_17 (pc' := 18) rfl rfl (by decide) rfl ?_
  obtain ⟨n6, hf⟩ := hf
  refine j_lv [2, 1, 0] rfl ?_
  exact lb_X7_clear_b18 hE hC Q n6 x1 (0 : Int32) σ2 hf
def f_X7_isPosture (a1 : Int32) (σ : St) (Q : Int32 → St → Prop) : Prop := (a1 < 0 → Q (0 : Int32) σ) ∧ ((¬ a1 < 0) → ((σ.1 3 0) ≤ a1 → Q (0 : Int32) σ) ∧ ((¬ (σ.1 3 0) ≤ a1) → Q (1 : Int32) σ))
theorem dy_X7_isPosture : yX7_isPosture.cls = yX7_isPosture.cls ∧ yX7_isPosture.cls ≠ "java/lang/invoke/MethodHandle" ∧ yX7_isPosture.cls ≠ "java/lang/invoke/VarHandle" ∧ (parseMethodDescriptor yX7_isPosture.desc).map (fun d => d.parameters.length) = some 1 := by decide +kernel
set_option maxHeartbeats 4000000 in
set_option maxRecDepth 100000 in
theorem lk_X7_isPosture {l : Launch} {D : va_G} {q : Nat → Nat} {ca : Nat → ClassId} {t : Nat} (hE : qok 28 q) (a1 : Int32) (σ : St) (Q : Int32 → St → Prop) (hf : f_X7_isPosture a1 σ Q) : Mi l yX7_isPosture cX7_isPosture 2 (some .boolean) { frames := 0, cells := 0, slots := 0, locals := 0 } D (tysX ca) (ZX q t) (wX q ca) (AX q) [.ref (q 0), .int a1] σ Q := by
  refine j_start (own := RX7) (lv := [(0, .ref (q 0)), (1, .int a1)]) [.ref (q 0), .int a1] (by decide +kernel) rfl (wX_D hE σ) (Nat.le_of_ble_eq_true rfl) rfl (fun p e s m args below meth c hC => ?_)
  unfold f_X7_isPosture at hf
  refine j_iload_n hC 1 dX7_isPosture_0 (pc' := 1) rfl rfl ?_
  refine j_if_lt hC (tgt := 19) dX7_isPosture_1 (pc' := 4) rfl (by decide) (fun c_ => ?_) (fun c_ => ?_)
  · replace hf := hf.1 c_
    refine j_iconst hC (v := 0) dX7_isPosture_19 (pc' := 20) rfl (by decide) ?_
    exact j_zret hC dX7_isPosture_20 (Or.inl rfl) hf
  · replace hf := hf.2 c_
    refine j_iload_n hC 1 dX7_isPosture_4 (pc' := 5) rfl rfl ?_
    refine j_aload_n hC 0 dX7_isPosture_5 (pc' := 6) rfl rfl ?_
    refine gX_arm hC wm_143 dX7_isPosture_6 (pc' := 9) rfl ?_
    refine gX_postures hC wm_35 dX7_isPosture_9 (pc' := 12) rfl ?_
    refine j_icmp_ge hC (tgt := 19) dX7_isPosture_12 (pc' := 15) rfl (by decide) (fun c_ => ?_) (fun c_ => ?_)
    · replace hf := hf.1 c_
      refine j_iconst hC (v := 0) dX7_isPosture_19 (pc' := 20) rfl (by decide) ?_
      exact j_zret hC dX7_isPosture_20 (Or.inl rfl) hf
    · replace hf := hf.2 c_
      refine j_iconst hC (v := 1) dX7_isPosture_15 (pc' := 16) rfl (by decide) ?_
      refine j_goto hC (tgt := 20) dX7_isPosture_16 (by decide) ?_
      exact j_zret hC dX7_isPosture_20 (Or.inr rfl) hf
def f_X7_hand (a1 : Int32) (a2 : Int32) (σ : St) (Q : Int32 → St → Prop) : Prop := f_X7_isPosture a1 σ (fun r1 σ2 => (r1 = 0 → Q (-2147483648 : Int32) σ2) ∧ ((¬ r1 = 0) → f_X7_within a2 (0 : Int32) (1 : Int32) σ2 (fun r3 σ4 => ((¬ r3 = 0) → f_X0_reached a1 a2 σ4 (fun r5 σ6 => Q r5 σ6)) ∧ (r3 = 0 → Q (-2147483648 : Int32) σ4))))
theorem dy_X7_hand : yX7_hand.cls = yX7_hand.cls ∧ yX7_hand.cls ≠ "java/lang/invoke/MethodHandle" ∧ yX7_hand.cls ≠ "java/lang/invoke/VarHandle" ∧ (parseMethodDescriptor yX7_hand.desc).map (fun d => d.parameters.length) = some 2 := by decide +kernel
set_option maxHeartbeats 4000000 in
set_option maxRecDepth 100000 in
theorem lk_X7_hand {l : Launch} {D : va_G} {q : Nat → Nat} {ca : Nat → ClassId} {t : Nat} (hE : qok 28 q) (a1 : Int32) (a2 : Int32) (σ : St) (Q : Int32 → St → Prop) (hf : f_X7_hand a1 a2 σ Q) : Mi l yX7_hand cX7_hand 3 (some .int) { frames := 3, cells := 0, slots := 0, locals := 65 } D (tysX ca) (ZX q t) (wX q ca) (AX q) [.ref (q 0), .int a1, .int a2] σ Q := by
  refine j_start (own := RX7) (lv := [(0, .ref (q 0)), (1, .int a1), (2, .int a2)]) [.ref (q 0), .int a1, .int a2] (by decide +kernel) rfl (wX_D hE σ) (Nat.le_of_ble_eq_true rfl) rfl (fun p e s m args below meth c hC => ?_)
  unfold f_X7_hand at hf
  refine j_aload_n hC 0 dX7_hand_0 (pc' := 1) rfl rfl ?_
  refine j_iload_n hC 1 dX7_hand_1 (pc' := 2) rfl rfl ?_
  refine jcV_i hC (eX hE) (As := [.int a1]) (obX_X7) (rfl) (lk_X7_isPosture hE a1 σ _ hf) wm_216 wm_217 wm_883 wm_1 wm_218 dy_X7_isPosture ⟨rfl, rfl⟩ ⟨Nat.le_of_ble_eq_true rfl, Nat.le_of_ble_eq_true rfl⟩ ⟨Nat.le_refl _, Nat.le_refl _⟩ rfl rfl (Nat.le_of_ble_eq_true rfl) dX7_hand_2 (pc' := 5) rfl (fun r1 σ2 hf => ?_)
  refine j_if_eq hC (tgt := 17) dX7_hand_5 (pc' := 8) rfl (by decide) (fun c_ => ?_) (fun c_ => ?_)
  · replace hf := hf.1 c_
    refine j_ldc hC (v := -2147483648) dX7_hand_17 (pc' := 19) rfl wm_219 ?_
    exact j_iret hC dX7_hand_19 hf
  · replace hf := hf.2 c_
    refine j_iload_n hC 2 dX7_hand_8 (pc' := 9) rfl rfl ?_
    refine j_iconst hC (v := 0) dX7_hand_9 (pc' := 10) rfl (by decide) ?_
    refine j_iconst hC (v := 1) dX7_hand_10 (pc' := 11) rfl (by decide) ?_
    refine jcS_i hC (eX hE) (As := [.int a2, .int (0 : Int32), .int (1 : Int32)]) (lk_X7_within hE a2 (0 : Int32) (1 : Int32) σ2 _ hf) wm_175 wm_176 wm_1 wm_177 dy_X7_within ⟨rfl, rfl⟩ ⟨Nat.le_of_ble_eq_true rfl, Nat.le_of_ble_eq_true rfl⟩ ⟨Nat.le_refl _, Nat.le_refl _⟩ rfl rfl (Nat.le_of_ble_eq_true rfl) dX7_hand_11 (pc' := 14) rfl (fun r3 σ4 hf => ?_)
    refine j_if_ne hC (tgt := 20) dX7_hand_14 (pc' := 17) rfl (by decide) (fun c_ => ?_) (fun c_ => ?_)
    · replace hf := hf.1 c_
      refine j_aload_n hC 0 dX7_hand_20 (pc' := 21) rfl rfl ?_
      refine gX_arm hC wm_143 dX7_hand_21 (pc' := 24) rfl ?_
      refine j_iload_n hC 1 dX7_hand_24 (pc' := 25) rfl rfl ?_
      refine j_iload_n hC 2 dX7_hand_25 (pc' := 26) rfl rfl ?_
      refine jcV_i hC (eX hE) (As := [.int a1, .int a2]) (obX_X0) (rfl) (lk_X0_reached hE a1 a2 σ4 _ hf) wm_220 wm_221 wm_222 wm_2 wm_223 dy_X0_reached ⟨rfl, rfl⟩ ⟨Nat.le_of_ble_eq_true rfl, Nat.le_of_ble_eq_true rfl⟩ ⟨Nat.le_refl _, Nat.le_refl _⟩ rfl rfl (Nat.le_of_ble_eq_true rfl) dX7_hand_26 (pc' := 29) rfl (fun r5 σ6 hf => ?_)
      exact j_iret hC dX7_hand_29 hf
    · replace hf := hf.2 c_
      refine j_ldc hC (v := -2147483648) dX7_hand_17 (pc' := 19) rfl wm_219 ?_
      exact j_iret hC dX7_hand_19 hf
def f_X7_isMeasured (a1 : Int32) (σ : St) (Q : Int32 → St → Prop) : Prop := f_X4_hasMeasureAt 0 ((2 : Int32) * a1) σ (fun r1 σ2 => (r1 = 0 → Q (0 : Int32) σ2) ∧ ((¬ r1 = 0) → f_X4_hasMeasureAt 0 (((2 : Int32) * a1) + (1 : Int32)) σ2 (fun r3 σ4 => (r3 = 0 → Q (0 : Int32) σ4) ∧ ((¬ r3 = 0) → Q (1 : Int32) σ4))))
theorem dy_X7_isMeasured : yX7_isMeasured.cls = yX7_isMeasured.cls ∧ yX7_isMeasured.cls ≠ "java/lang/invoke/MethodHandle" ∧ yX7_isMeasured.cls ≠ "java/lang/invoke/VarHandle" ∧ (parseMethodDescriptor yX7_isMeasured.desc).map (fun d => d.parameters.length) = some 1 := by decide +kernel
set_option maxHeartbeats 4000000 in
set_option maxRecDepth 100000 in
theorem lk_X7_isMeasured {l : Launch} {D : va_G} {q : Nat → Nat} {ca : Nat → ClassId} {t : Nat} (hE : qok 28 q) (a1 : Int32) (σ : St) (Q : Int32 → St → Prop) (hf : f_X7_isMeasured a1 σ Q) : Mi l yX7_isMeasured cX7_isMeasured 2 (some .boolean) { frames := 2, cells := 0, slots := 0, locals := 42 } D (tysX ca) (ZX q t) (wX q ca) (AX q) [.ref (q 0), .int a1] σ Q := by
  refine j_start (own := RX7) (lv := [(0, .ref (q 0)), (1, .int a1)]) [.ref (q 0), .int a1] (by decide +kernel) rfl (wX_D hE σ) (Nat.le_of_ble_eq_true rfl) rfl (fun p e s m args below meth c hC => ?_)
  unfold f_X7_isMeasured at hf
  refine j_aload_n hC 0 dX7_isMeasured_0 (pc' := 1) rfl rfl ?_
  refine gX_sheets hC wm_150 dX7_isMeasured_1 (pc' := 4) rfl ?_
  refine j_iconst hC (v := 0) dX7_isMeasured_4 (pc' := 5) rfl (by decide) ?_
  refine lX_sheets hC (j := 0) (show ¬ ((0 : Int32) < 0 ∨ 4 ≤ (0 : Int32).toNatClampNeg) from by decide) (by decide) dX7_isMeasured_5 (pc' := 6) rfl ?_
  refine j_iconst hC (v := 2) dX7_isMeasured_6 (pc' := 7) rfl (by decide) ?_
  refine j_iload_n hC 1 dX7_isMeasured_7 (pc' := 8) rfl rfl ?_
  refine j_imul hC dX7_isMeasured_8 (pc' := 9) rfl ?_
  refine jcV_i hC (eX hE) (As := [.int ((2 : Int32) * a1)]) (obX_X4 (show 0 < 4 from by decide)) (rfl) (lk_X4_hasMeasureAt hE 0 (show 0 < 4 from by decide) ((2 : Int32) * a1) σ _ hf) wm_238 wm_239 wm_240 wm_7 wm_241 dy_X4_hasMeasureAt ⟨rfl, rfl⟩ ⟨Nat.le_of_ble_eq_true rfl, Nat.le_of_ble_eq_true rfl⟩ ⟨Nat.le_refl _, Nat.le_refl _⟩ rfl rfl (Nat.le_of_ble_eq_true rfl) dX7_isMeasured_9 (pc' := 12) rfl (fun r1 σ2 hf => ?_)
  refine j_if_eq hC (tgt := 36) dX7_isMeasured_12 (pc' := 15) rfl (by decide) (fun c_ => ?_) (fun c_ => ?_)
  · replace hf := hf.1 c_
    refine j_iconst hC (v := 0) dX7_isMeasured_36 (pc' := 37) rfl (by decide) ?_
    exact j_zret hC dX7_isMeasured_37 (Or.inl rfl) hf
  · replace hf := hf.2 c_
    refine j_aload_n hC 0 dX7_isMeasured_15 (pc' := 16) rfl rfl ?_
    refine gX_sheets hC wm_150 dX7_isMeasured_16 (pc' := 19) rfl ?_
    refine j_iconst hC (v := 0) dX7_isMeasured_19 (pc' := 20) rfl (by decide) ?_
    refine lX_sheets hC (j := 0) (show ¬ ((0 : Int32) < 0 ∨ 4 ≤ (0 : Int32).toNatClampNeg) from by decide) (by decide) dX7_isMeasured_20 (pc' := 21) rfl ?_
    refine j_iconst hC (v := 2) dX7_isMeasured_21 (pc' := 22) rfl (by decide) ?_
    refine j_iload_n hC 1 dX7_isMeasured_22 (pc' := 23) rfl rfl ?_
    refine j_imul hC dX7_isMeasured_23 (pc' := 24) rfl ?_
    refine j_iconst hC (v := 1) dX7_isMeasured_24 (pc' := 25) rfl (by decide) ?_
    refine j_iadd hC dX7_isMeasured_25 (pc' := 26) rfl ?_
    refine jcV_i hC (eX hE) (As := [.int (((2 : Int32) * a1) + (1 : Int32))]) (obX_X4 (show 0 < 4 from by decide)) (rfl) (lk_X4_hasMeasureAt hE 0 (show 0 < 4 from by decide) (((2 : Int32) * a1) + (1 : Int32)) σ2 _ hf) wm_238 wm_239 wm_240 wm_7 wm_241 dy_X4_hasMeasureAt ⟨rfl, rfl⟩ ⟨Nat.le_of_ble_eq_true rfl, Nat.le_of_ble_eq_true rfl⟩ ⟨Nat.le_refl _, Nat.le_refl _⟩ rfl rfl (Nat.le_of_ble_eq_true rfl) dX7_isMeasured_26 (pc' := 29) rfl (fun r3 σ4 hf => ?_)
    refine j_if_eq hC (tgt := 36) dX7_isMeasured_29 (pc' := 32) rfl (by decide) (fun c_ => ?_) (fun c_ => ?_)
    · replace hf := hf.1 c_
      refine j_iconst hC (v := 0) dX7_isMeasured_36 (pc' := 37) rfl (by decide) ?_
      exact j_zret hC dX7_isMeasured_37 (Or.inl rfl) hf
    · replace hf := hf.2 c_
      refine j_iconst hC (v := 1) dX7_isMeasured_32 (pc' := 33) rfl (by decide) ?_
      refine j_goto hC (tgt := 37) dX7_isMeasured_33 (by decide) ?_
      exact j_zret hC dX7_isMeasured_37 (Or.inr rfl) hf
def f_X7_listUsed_b4 (Q : Int32 → St → Prop) : Nat → Int32 → Int32 → St → Prop
  | 0, _, _, _ => False
  | n + 1, a1, a2, σ => ((σ.1 3 0) ≤ a2 → Q a1 σ) ∧ ((¬ (σ.1 3 0) ≤ a2) → ((12 : Int32) ≤ a1 → Q a1 σ) ∧ ((¬ (12 : Int32) ≤ a1) → vp_in a2 20 ∧ ((¬ (σ.1 4 (Int32.toNatClampNeg a2)) = 0) → ∀ x2 : Int32, x2 = a2 + (1 : Int32) → f_X7_listUsed_b4 Q  n a1 x2 σ) ∧ ((σ.1 4 (Int32.toNatClampNeg a2)) = 0 → f_X7_isMeasured a2 σ (fun r3 σ4 => (r3 = 0 → ∀ x5 : Int32, x5 = a2 + (1 : Int32) → f_X7_listUsed_b4 Q  n a1 x5 σ4) ∧ ((¬ r3 = 0) → vp_in a1 12 ∧ ∀ σ7 : St, σ7 = sI σ4 5 (Int32.toNatClampNeg a1) a2 → ∀ x8 : Int32, x8 = a1 + (1 : Int32) → ∀ x9 : Int32, x9 = a2 + (1 : Int32) → f_X7_listUsed_b4 Q  n x8 x9 σ7)))))
def f_X7_listUsed (σ : St) (Q : Int32 → St → Prop) : Prop := ∃ n10 : Nat, f_X7_listUsed_b4 Q n10 (0 : Int32) (0 : Int32) σ
theorem dy_X7_listUsed : yX7_listUsed.cls = yX7_listUsed.cls ∧ yX7_listUsed.cls ≠ "java/lang/invoke/MethodHandle" ∧ yX7_listUsed.cls ≠ "java/lang/invoke/VarHandle" ∧ (parseMethodDescriptor yX7_listUsed.desc).map (fun d => d.parameters.length) = some 0 := by decide +kernel
set_option maxHeartbeats 4000000 in
set_option maxRecDepth 100000 in
theorem lb_X7_listUsed_b4 {l : Launch} {D : va_G} {q : Nat → Nat} {ca : Nat → ClassId} {t : Nat} {p : Program} {e : Env} {s : State} {m : MethodId} {args : Array Value} {below : List Frame} {meth : Method} {c : Code} (hE : qok 28 q) (hC : Cx p s m args meth c cX7_listUsed 3 RX7 (some .int) D (tysX ca) (ZX q t)) (Q : Int32 → St → Prop) : ∀ (n : Nat) (a1 : Int32) (a2 : Int32) (σ : St), f_X7_listUsed_b4 Q n a1 a2 σ → J p l e { frames := 3, cells := 0, slots := 0, locals := 63 } s m args below meth c (MQ below (va_Qi Q (BW D (wX q ca)) (AX q)) args s 0 0 (AX q)) D (AX q) 3 0 0 (wX q ca σ) 4 [(0, .ref (q 0)), (1, .int a1), (2, .int a2)] [] := by
  intro n
  induction n with
  | zero => intro a1 a2 σ hf; exact hf.elim
  | succ n ih =>
    intro a1 a2 σ hf
    unfold f_X7_listUsed_b4 at hf
    refine j_iload_n hC 2 dX7_listUsed_4 (pc' := 5) rfl rfl ?_
    refine j_aload_n hC 0 dX7_listUsed_5 (pc' := 6) rfl rfl ?_
    refine gX_arm hC wm_143 dX7_listUsed_6 (pc' := 9) rfl ?_
    refine gX_postures hC wm_35 dX7_listUsed_9 (pc' := 12) rfl ?_
    refine j_icmp_ge hC (tgt := 54) dX7_listUsed_12 (pc' := 15) rfl (by decide) (fun c_ => ?_) (fun c_ => ?_)
    · replace hf := hf.1 c_
      refine j_iload_n hC 1 dX7_listUsed_54 (pc' := 55) rfl rfl ?_
      exact j_iret hC dX7_listUsed_55 hf
    · replace hf := hf.2 c_
      refine j_iload_n hC 1 dX7_listUsed_15 (pc' := 16) rfl rfl ?_
      refine j_bipush hC (v := 12) dX7_listUsed_16 (pc' := 18) rfl (by decide) ?_
      refine j_icmp_ge hC (tgt := 54) dX7_listUsed_18 (pc' := 21) rfl (by decide) (fun c_ => ?_) (fun c_ => ?_)
      · replace hf := hf.1 c_
        refine j_iload_n hC 1 dX7_listUsed_54 (pc' := 55) rfl rfl ?_
        exact j_iret hC dX7_listUsed_55 hf
      · replace hf := hf.2 c_
        refine j_aload_n hC 0 dX7_listUsed_21 (pc' := 22) rfl rfl ?_
        refine gX_leftOut hC wm_144 dX7_listUsed_22 (pc' := 25) rfl ?_
        refine j_iload_n hC 2 dX7_listUsed_25 (pc' := 26) rfl rfl ?_
        obtain ⟨h1, hf⟩ := hf
        refine lX_leftOut hC (j := (Int32.toNatClampNeg a2)) h1 rfl dX7_listUsed_26 (pc' := 27) rfl ?_
        refine j_if_ne hC (tgt := 48) dX7_listUsed_27 (pc' := 30) rfl (by decide) (fun c_ => ?_) (fun c_ => ?_)
        · replace hf := hf.1 c_
          obtain ⟨x2, ex2⟩ : ∃ y : Int32, y = a2 + (1 : Int32) := ⟨_, rfl⟩
          replace hf := hf x2 ex2
          refine j_iinc hC (v := x2) (q := 2) (lv' := [(2, .int x2), (0, .ref (q 0)), (1, .int a1)]) dX7_listUsed_48 (pc' := 51) rfl rfl (by rw [ex2]; rfl) (by decide) rfl ?_
          refine j_goto hC (tgt := 4) dX7_listUsed_51 (by decide) ?_
          refine j_lv [1, 2, 0] rfl ?_
          exact ih a1 x2 σ hf
        · replace hf := hf.2 c_
          refine j_aload_n hC 0 dX7_listUsed_30 (pc' := 31) rfl rfl ?_
          refine j_iload_n hC 2 dX7_listUsed_31 (pc' := 32) rfl rfl ?_
          refine jcV_i hC (eX hE) (As := [.int a2]) (obX_X7) (rfl) (lk_X7_isMeasured hE a2 σ _ hf) wm_235 wm_236 wm_886 wm_1 wm_237 dy_X7_isMeasured ⟨rfl, rfl⟩ ⟨Nat.le_of_ble_eq_true rfl, Nat.le_of_ble_eq_true rfl⟩ ⟨Nat.le_refl _, Nat.le_refl _⟩ rfl rfl (Nat.le_of_ble_eq_true rfl) dX7_listUsed_32 (pc' := 35) rfl (fun r3 σ4 hf => ?_)
          refine j_if_eq hC (tgt := 48) dX7_listUsed_35 (pc' := 38) rfl (by decide) (fun c_ => ?_) (fun c_ => ?_)
          · replace hf := hf.1 c_
            obtain ⟨x5, ex5⟩ : ∃ y : Int32, y = a2 + (1 : Int32) := ⟨_, rfl⟩
            replace hf := hf x5 ex5
            refine j_iinc hC (v := x5) (q := 2) (lv' := [(2, .int x5), (0, .ref (q 0)), (1, .int a1)]) dX7_listUsed_48 (pc' := 51) rfl rfl (by rw [ex5]; rfl) (by decide) rfl ?_
            refine j_goto hC (tgt := 4) dX7_listUsed_51 (by decide) ?_
            refine j_lv [1, 2, 0] rfl ?_
            exact ih a1 x5 σ4 hf
          · replace hf := hf.2 c_
            refine j_aload_n hC 0 dX7_listUsed_38 (pc' := 39) rfl rfl ?_
            refine gX_usedOnes hC wm_145 dX7_listUsed_39 (pc' := 42) rfl ?_
            refine j_iload_n hC 1 dX7_listUsed_42 (pc' := 43) rfl rfl ?_
            refine j_iload_n hC 2 dX7_listUsed_43 (pc' := 44) rfl rfl ?_
            obtain ⟨h6, hf⟩ := hf
            refine sX_usedOnes hC (j := (Int32.toNatClampNeg a1)) h6 rfl dX7_listUsed_44 (pc' := 45) rfl ?_
            refine j_nms (wf := wX q ca) (fun σ7 eσ7 => ?_)
            replace hf := hf σ7 eσ7
            obtain ⟨x8, ex8⟩ : ∃ y : Int32, y = a1 + (1 : Int32) := ⟨_, rfl⟩
            replace hf := hf x8 ex8
            refine j_iinc hC (v := x8) (q := 1) (lv' := [(1, .int x8), (0, .ref (q 0)), (2, .int a2)]) dX7_listUsed_45 (pc' := 48) rfl rfl (by rw [ex8]; rfl) (by decide) rfl ?_
            obtain ⟨x9, ex9⟩ : ∃ y : Int32, y = a2 + (1 : Int32) := ⟨_, rfl⟩
            replace hf := hf x9 ex9
            refine j_iinc hC (v := x9) (q := 2) (lv' := [(2, .int x9), (1, .int x8), (0, .ref (q 0))]) dX7_listUsed_48 (pc' := 51) rfl rfl (by rw [ex9]; rfl) (by decide) rfl ?_
            refine j_goto hC (tgt := 4) dX7_listUsed_51 (by decide) ?_
            refine j_lv [2, 1, 0] rfl ?_
            exact ih x8 x9 σ7 hf
set_option maxHeartbeats 4000000 in
set_option maxRecDepth 100000 in
theorem lk_X7_listUsed {l : Launch} {D : va_G} {q : Nat → Nat} {ca : Nat → ClassId} {t : Nat} (hE : qok 28 q) (σ : St) (Q : Int32 → St → Prop) (hf : f_X7_listUsed σ Q) : Mi l yX7_listUsed cX7_listUsed 3 (some .int) { frames := 3, cells := 0, slots := 0, locals := 63 } D (tysX ca) (ZX q t) (wX q ca) (AX q) [.ref (q 0)] σ Q := by
  refine j_start (own := RX7) (lv := [(0, .ref (q 0))]) [.ref (q 0)] (by decide +kernel) rfl (wX_D hE σ) (Nat.le_of_ble_eq_true rfl) rfl (fun p e s m args below meth c hC => ?_)
  unfold f_X7_listUsed at hf
  refine j_iconst hC (v := 0) dX7_listUsed_0 (pc' := 1) rfl (by decide) ?_
  refine j_istore_n hC (lv' := [(1, .int (0 : Int32)), (0, .ref (q 0))]) dX7_listUsed_1 (pc' := 2) rfl rfl (by decide) rfl ?_
  refine j_iconst hC (v := 0) dX7_listUsed_2 (pc' := 3) rfl (by decide) ?_
  refine j_istore_n hC (lv' := [(2, .int (0 : Int32)), (1, .int (0 : Int32)), (0, .ref (q 0))]) dX7_listUsed_3 (pc' := 4) rfl rfl (by decide) rfl ?_
  obtain ⟨n10, hf⟩ := hf
  refine j_lv [2, 1, 0] rfl ?_
  exact lb_X7_listUsed_b4 hE hC Q n10 (0 : Int32) (0 : Int32) σ hf
def f_X7_measured (a1 : Int32) (a2 : Int32) (σ : St) (Q : Int32 → St → Prop) : Prop := vp_in (((2 : Int32) * a1) + a2) 100 ∧ Q (σ.1 (20 + 0) (Int32.toNatClampNeg (((2 : Int32) * a1) + a2))) σ
theorem dy_X7_measured : yX7_measured.cls = yX7_measured.cls ∧ yX7_measured.cls ≠ "java/lang/invoke/MethodHandle" ∧ yX7_measured.cls ≠ "java/lang/invoke/VarHandle" ∧ (parseMethodDescriptor yX7_measured.desc).map (fun d => d.parameters.length) = some 2 := by decide +kernel
set_option maxHeartbeats 4000000 in
set_option maxRecDepth 100000 in
theorem lk_X7_measured {l : Launch} {D : va_G} {q : Nat → Nat} {ca : Nat → ClassId} {t : Nat} (hE : qok 28 q) (a1 : Int32) (a2 : Int32) (σ : St) (Q : Int32 → St → Prop) (hf : f_X7_measured a1 a2 σ Q) : Mi l yX7_measured cX7_measured 3 (some .int) { frames := 0, cells := 0, slots := 0, locals := 0 } D (tysX ca) (ZX q t) (wX q ca) (AX q) [.ref (q 0), .int a1, .int a2] σ Q := by
  refine j_start (own := RX7) (lv := [(0, .ref (q 0)), (1, .int a1), (2, .int a2)]) [.ref (q 0), .int a1, .int a2] (by decide +kernel) rfl (wX_D hE σ) (Nat.le_of_ble_eq_true rfl) rfl (fun p e s m args below meth c hC => ?_)
  unfold f_X7_measured at hf
  refine j_aload_n hC 0 dX7_measured_0 (pc' := 1) rfl rfl ?_
  refine gX_sheets hC wm_150 dX7_measured_1 (pc' := 4) rfl ?_
  refine j_iconst hC (v := 0) dX7_measured_4 (pc' := 5) rfl (by decide) ?_
  refine lX_sheets hC (j := 0) (show ¬ ((0 : Int32) < 0 ∨ 4 ≤ (0 : Int32).toNatClampNeg) from by decide) (by decide) dX7_measured_5 (pc' := 6) rfl ?_
  refine gX_items hC (show 0 < 4 from by decide) wm_132 dX7_measured_6 (pc' := 9) rfl ?_
  refine j_iconst hC (v := 2) dX7_measured_9 (pc' := 10) rfl (by decide) ?_
  refine j_iload_n hC 1 dX7_measured_10 (pc' := 11) rfl rfl ?_
  refine j_imul hC dX7_measured_11 (pc' := 12) rfl ?_
  refine j_iload_n hC 2 dX7_measured_12 (pc' := 13) rfl rfl ?_
  refine j_iadd hC dX7_measured_13 (pc' := 14) rfl ?_
  obtain ⟨h1, hf⟩ := hf
  refine lX_itemsA hC (show 0 < 4 from by decide) (j := (Int32.toNatClampNeg (((2 : Int32) * a1) + a2))) h1 rfl dX7_measured_14 (pc' := 15) rfl ?_
  exact j_iret hC dX7_measured_15 hf
def f_X7_sumUsed_b14 (Q : St → Prop) : Nat → Int32 → Int32 → St → Prop
  | 0, _, _, _ => False
  | n + 1, a1, a2, σ => (a1 ≤ a2 → Q σ) ∧ ((¬ a1 ≤ a2) → vp_in a2 12 ∧ ∀ x6 : Int32, x6 = σ.1 5 (Int32.toNatClampNeg a2) → f_X6_addLeft x6 σ (fun σ8 => f_X7_measured x6 (0 : Int32) σ8 (fun r9 σ10 => f_X7_measured x6 (1 : Int32) σ10 (fun r11 σ12 => f_X6_addRight x6 r9 r11 σ12 (fun σ14 => ∀ x15 : Int32, x15 = a2 + (1 : Int32) → f_X7_sumUsed_b14 Q  n a1 x15 σ14)))))
def f_X7_sumUsed (σ : St) (Q : St → Prop) : Prop := f_X7_listUsed σ (fun r1 σ2 => f_X6_forget σ2 (fun σ4 => ∃ n16 : Nat, f_X7_sumUsed_b14 Q n16 r1 (0 : Int32) σ4))
theorem dy_X7_sumUsed : yX7_sumUsed.cls = yX7_sumUsed.cls ∧ yX7_sumUsed.cls ≠ "java/lang/invoke/MethodHandle" ∧ yX7_sumUsed.cls ≠ "java/lang/invoke/VarHandle" ∧ (parseMethodDescriptor yX7_sumUsed.desc).map (fun d => d.parameters.length) = some 0 := by decide +kernel
set_option maxHeartbeats 4000000 in
set_option maxRecDepth 100000 in
theorem lb_X7_sumUsed_b14 {l : Launch} {D : va_G} {q : Nat → Nat} {ca : Nat → ClassId} {t : Nat} {p : Program} {e : Env} {s : State} {m : MethodId} {args : Array Value} {below : List Frame} {meth : Method} {c : Code} (hE : qok 28 q) (hC : Cx p s m args meth c cX7_sumUsed 4 RX7 none D (tysX ca) (ZX q t)) (Q : St → Prop) : ∀ (n : Nat) (a1 : Int32) (a2 : Int32) (σ : St), f_X7_sumUsed_b14 Q n a1 a2 σ → J p l e { frames := 4, cells := 0, slots := 0, locals := 85 } s m args below meth c (MQ below (va_Qv Q (BW D (wX q ca)) (AX q)) args s 0 0 (AX q)) D (AX q) 4 0 0 (wX q ca σ) 14 [(0, .ref (q 0)), (1, .int a1), (2, .int a2)] [] := by
  intro n
  induction n with
  | zero => intro a1 a2 σ hf; exact hf.elim
  | succ n ih =>
    intro a1 a2 σ hf
    unfold f_X7_sumUsed_b14 at hf
    refine j_iload_n hC 2 dX7_sumUsed_14 (pc' := 15) rfl rfl ?_
    refine j_iload_n hC 1 dX7_sumUsed_15 (pc' := 16) rfl rfl ?_
    refine j_icmp_ge hC (tgt := 68) dX7_sumUsed_16 (pc' := 19) rfl (by decide) (fun c_ => ?_) (fun c_ => ?_)
    · replace hf := hf.1 c_
      exact j_vret hC dX7_sumUsed_68 hf
    · replace hf := hf.2 c_
      refine j_aload_n hC 0 dX7_sumUsed_19 (pc' := 20) rfl rfl ?_
      refine gX_usedOnes hC wm_145 dX7_sumUsed_20 (pc' := 23) rfl ?_
      refine j_iload_n hC 2 dX7_sumUsed_23 (pc' := 24) rfl rfl ?_
      obtain ⟨h5, hf⟩ := hf
      refine lX_usedOnes hC (j := (Int32.toNatClampNeg a2)) h5 rfl dX7_sumUsed_24 (pc' := 25) rfl ?_
      refine j_nmi (fun x6 ex6 => ?_)
      replace hf := hf x6 ex6
      refine j_istore_n hC (lv' := [(3, .int x6), (0, .ref (q 0)), (1, .int a1), (2, .int a2)]) dX7_sumUsed_25 (pc' := 26) rfl rfl (by decide) rfl ?_
      refine j_aload_n hC 1 dX7_sumUsed_26 (pc' := 27) rfl rfl ?_
      refine gX_sums hC wm_146 dX7_sumUsed_27 (pc' := 30) rfl ?_
      refine j_aload_n hC 1 dX7_sumUsed_30 (pc' := 31) rfl rfl ?_
      refine gX_arm hC wm_143 dX7_sumUsed_31 (pc' := 34) rfl ?_
      refine j_iload_n hC 0 dX7_sumUsed_34 (pc' := 35) rfl rfl ?_
      refine jcV_v hC (eX hE) (As := [.ref (q 1), .int x6]) (obX_X6) (rfl) (lk_X6_addLeft hE x6 σ _ hf) wm_253 wm_254 wm_255 wm_3 wm_256 dy_X6_addLeft ⟨rfl, rfl⟩ ⟨Nat.le_of_ble_eq_true rfl, Nat.le_of_ble_eq_true rfl⟩ ⟨Nat.le_refl _, Nat.le_refl _⟩ rfl rfl (Nat.le_of_ble_eq_true rfl) dX7_sumUsed_35 (pc' := 38) rfl (fun σ8 hf => ?_)
      refine j_aload_n hC 1 dX7_sumUsed_38 (pc' := 39) rfl rfl ?_
      refine gX_sums hC wm_146 dX7_sumUsed_39 (pc' := 42) rfl ?_
      refine j_aload_n hC 1 dX7_sumUsed_42 (pc' := 43) rfl rfl ?_
      refine gX_arm hC wm_143 dX7_sumUsed_43 (pc' := 46) rfl ?_
      refine j_iload_n hC 0 dX7_sumUsed_46 (pc' := 47) rfl rfl ?_
      refine j_aload_n hC 1 dX7_sumUsed_47 (pc' := 48) rfl rfl ?_
      refine j_iload_n hC 0 dX7_sumUsed_48 (pc' := 49) rfl rfl ?_
      refine j_iconst hC (v := 0) dX7_sumUsed_49 (pc' := 50) rfl (by decide) ?_
      refine jcV_i hC (eX hE) (As := [.int x6, .int (0 : Int32)]) (obX_X7) (rfl) (lk_X7_measured hE x6 (0 : Int32) σ8 _ hf) wm_257 wm_258 wm_887 wm_1 wm_259 dy_X7_measured ⟨rfl, rfl⟩ ⟨Nat.le_of_ble_eq_true rfl, Nat.le_of_ble_eq_true rfl⟩ ⟨Nat.le_refl _, Nat.le_refl _⟩ rfl rfl (Nat.le_of_ble_eq_true rfl) dX7_sumUsed_50 (pc' := 53) rfl (fun r9 σ10 hf => ?_)
      refine j_aload_n hC 1 dX7_sumUsed_53 (pc' := 54) rfl rfl ?_
      refine j_iload_n hC 0 dX7_sumUsed_54 (pc' := 55) rfl rfl ?_
      refine j_iconst hC (v := 1) dX7_sumUsed_55 (pc' := 56) rfl (by decide) ?_
      refine jcV_i hC (eX hE) (As := [.int x6, .int (1 : Int32)]) (obX_X7) (rfl) (lk_X7_measured hE x6 (1 : Int32) σ10 _ hf) wm_257 wm_258 wm_887 wm_1 wm_259 dy_X7_measured ⟨rfl, rfl⟩ ⟨Nat.le_of_ble_eq_true rfl, Nat.le_of_ble_eq_true rfl⟩ ⟨Nat.le_refl _, Nat.le_refl _⟩ rfl rfl (Nat.le_of_ble_eq_true rfl) dX7_sumUsed_56 (pc' := 59) rfl (fun r11 σ12 hf => ?_)
      refine jcV_v hC (eX hE) (As := [.ref (q 1), .int x6, .int r9, .int r11]) (obX_X6) (rfl) (lk_X6_addRight hE x6 r9 r11 σ12 _ hf) wm_260 wm_261 wm_262 wm_3 wm_263 dy_X6_addRight ⟨rfl, rfl⟩ ⟨Nat.le_of_ble_eq_true rfl, Nat.le_of_ble_eq_true rfl⟩ ⟨Nat.le_refl _, Nat.le_refl _⟩ rfl rfl (Nat.le_of_ble_eq_true rfl) dX7_sumUsed_59 (pc' := 62) rfl (fun σ14 hf => ?_)
      obtain ⟨x15, ex15⟩ : ∃ y : Int32, y = a2 + (1 : Int32) := ⟨_, rfl⟩
      replace hf := hf x15 ex15
      refine j_iinc hC (v := x15) (q := 3) (lv' := [(2, .int x15), (3, .int x6), (0, .ref (q 0)), (1, .int a1)]) dX7_sumUsed_62 (pc' := 65) rfl rfl (by rw [ex15]; rfl) (by decide) rfl ?_
      refine j_goto hC (tgt := 14) dX7_sumUsed_65 (by decide) ?_
      refine j_lv [2, 3, 0] rfl ?_
      exact ih a1 x15 σ14 hf
set_option maxHeartbeats 4000000 in
set_option maxRecDepth 100000 in
theorem lk_X7_sumUsed {l : Launch} {D : va_G} {q : Nat → Nat} {ca : Nat → ClassId} {t : Nat} (hE : qok 28 q) (σ : St) (Q : St → Prop) (hf : f_X7_sumUsed σ Q) : Mv l yX7_sumUsed cX7_sumUsed 4 none { frames := 4, cells := 0, slots := 0, locals := 85 } D (tysX ca) (ZX q t) (wX q ca) (AX q) [.ref (q 0)] σ Q := by
  refine j_start (own := RX7) (lv := [(0, .ref (q 0))]) [.ref (q 0)] (by decide +kernel) rfl (wX_D hE σ) (Nat.le_of_ble_eq_true rfl) rfl (fun p e s m args below meth c hC => ?_)
  unfold f_X7_sumUsed at hf
  refine j_aload_n hC 0 dX7_sumUsed_0 (pc' := 1) rfl rfl ?_
  refine jcV_i hC (eX hE) (As := []) (obX_X7) (rfl) (lk_X7_listUsed hE  σ _ hf) wm_232 wm_233 wm_885 wm_1 wm_234 dy_X7_listUsed ⟨rfl, rfl⟩ ⟨Nat.le_of_ble_eq_true rfl, Nat.le_of_ble_eq_true rfl⟩ ⟨Nat.le_refl _, Nat.le_refl _⟩ rfl rfl (Nat.le_of_ble_eq_true rfl) dX7_sumUsed_1 (pc' := 4) rfl (fun r1 σ2 hf => ?_)
  refine j_istore_n hC (lv' := [(1, .int r1), (0, .ref (q 0))]) dX7_sumUsed_4 (pc' := 5) rfl rfl (by decide) rfl ?_
  refine j_aload_n hC 1 dX7_sumUsed_5 (pc' := 6) rfl rfl ?_
  refine gX_sums hC wm_146 dX7_sumUsed_6 (pc' := 9) rfl ?_
  refine jcV_v hC (eX hE) (As := []) (obX_X6) (rfl) (lk_X6_forget hE  σ2 _ hf) wm_246 wm_247 wm_248 wm_3 wm_249 dy_X6_forget ⟨rfl, rfl⟩ ⟨Nat.le_of_ble_eq_true rfl, Nat.le_of_ble_eq_true rfl⟩ ⟨Nat.le_refl _, Nat.le_refl _⟩ rfl rfl (Nat.le_of_ble_eq_true rfl) dX7_sumUsed_9 (pc' := 12) rfl (fun σ4 hf => ?_)
  refine j_iconst hC (v := 0) dX7_sumUsed_12 (pc' := 13) rfl (by decide) ?_
  refine j_istore_n hC (lv' := [(2, .int (0 : Int32)), (1, .int r1), (0, .ref (q 0))]) dX7_sumUsed_13 (pc' := 14) rfl rfl (by decide) rfl ?_
  obtain ⟨n16, hf⟩ := hf
  refine j_lv [2, 1, 0] rfl ?_
  exact lb_X7_sumUsed_b14 hE hC Q n16 r1 (0 : Int32) σ4 hf
def f_J9_max_f86c9 (a0 : Int64) (a2 : Int64) (σ : St) (Q : Int64 → St → Prop) : Prop := (a0 < a2 → Q a2 σ) ∧ ((¬ a0 < a2) → Q a0 σ)
theorem dy_J9_max_f86c9 : yJ9_max_f86c9.cls ≠ "java/lang/invoke/MethodHandle" ∧ yJ9_max_f86c9.cls ≠ "java/lang/invoke/VarHandle" ∧ (parseMethodDescriptor yJ9_max_f86c9.desc).map (fun d => d.parameters.length) = some 2 := by decide +kernel
set_option maxHeartbeats 4000000 in
set_option maxRecDepth 100000 in
theorem lk_J9_max_f86c9 {l : Launch} {D : va_G} {q : Nat → Nat} {ca : Nat → ClassId} {t : Nat} (hE : qok 28 q) (a0 : Int64) (a2 : Int64) (σ : St) (Q : Int64 → St → Prop) (hf : f_J9_max_f86c9 a0 a2 σ Q) : Ml l yJ9_max_f86c9 cJ9_max_f86c9 4 (some .long) { frames := 0, cells := 0, slots := 0, locals := 0 } D (tysX ca) (ZX q t) (wX q ca) (AX q) [.long a0, .long a2] σ Q := by
  refine j_start (own := RJ9) (lv := [(0, .long a0), (2, .long a2)]) [.long a0, .long a2] (by decide +kernel) rfl (wX_D hE σ) (Nat.le_of_ble_eq_true rfl) rfl (fun p e s m args below meth c hC => ?_)
  unfold f_J9_max_f86c9 at hf
  refine j_lload_n hC 0 dJ9_max_f86c9_0 (pc' := 1) rfl rfl ?_
  refine j_lload_n hC 1 dJ9_max_f86c9_1 (pc' := 2) rfl rfl ?_
  refine j_lcmp hC dJ9_max_f86c9_2 (pc' := 3) rfl ?_
  refine j_if_lt hC (tgt := 10) dJ9_max_f86c9_3 (pc' := 6) rfl (by decide) (fun c_ => ?_) (fun c_ => ?_)
  · replace hf := hf.1 ((lgc_lt _ _).mp c_)
    refine j_lload_n hC 1 dJ9_max_f86c9_10 (pc' := 11) rfl rfl ?_
    exact j_lret hC dJ9_max_f86c9_11 hf
  · replace hf := hf.2 (fun z => c_ ((lgc_lt _ _).mpr z))
    refine j_lload_n hC 0 dJ9_max_f86c9_6 (pc' := 7) rfl rfl ?_
    refine j_goto hC (tgt := 11) dJ9_max_f86c9_7 (by decide) ?_
    exact j_lret hC dJ9_max_f86c9_11 hf
def f_X7_mend_b20 (Q : Int32 → St → Prop) : Nat → Int32 → St → Prop
  | 0, _, _ => False
  | n + 1, a1, σ => ((3 : Int32) ≤ a1 → Q (1 : Int32) σ) ∧ ((¬ (3 : Int32) ≤ a1) → f_X6_fitted a1 σ (fun r5 σ6 => f_J9_floorDiv_f86c9 (r5 + (50 : Int64)) (100 : Int64) σ6 (fun r7 σ8 => f_J9_min_f86c9 (999 : Int64) r7 σ8 (fun r9 σ10 => f_J9_max_f86c9 (1 : Int64) r9 σ10 (fun r11 σ12 => vp_in a1 3 ∧ ∀ σ14 : St, σ14 = sI σ12 0 (Int32.toNatClampNeg a1) (Int64.toInt32 r11) → ∀ x15 : Int32, x15 = a1 + (1 : Int32) → f_X7_mend_b20 Q  n x15 σ14)))))
def f_X7_mend (σ : St) (Q : Int32 → St → Prop) : Prop := f_X7_sumUsed σ (fun σ2 => f_X6_rankOfAll σ2 (fun r3 σ4 => ((3 : Int32) ≤ r3 → ∃ n16 : Nat, f_X7_mend_b20 Q n16 (0 : Int32) σ4) ∧ ((¬ (3 : Int32) ≤ r3) → Q (-3 : Int32) σ4)))
theorem dy_X7_mend : yX7_mend.cls = yX7_mend.cls ∧ yX7_mend.cls ≠ "java/lang/invoke/MethodHandle" ∧ yX7_mend.cls ≠ "java/lang/invoke/VarHandle" ∧ (parseMethodDescriptor yX7_mend.desc).map (fun d => d.parameters.length) = some 0 := by decide +kernel
set_option maxHeartbeats 4000000 in
set_option maxRecDepth 100000 in
theorem lb_X7_mend_b20 {l : Launch} {D : va_G} {q : Nat → Nat} {ca : Nat → ClassId} {t : Nat} {p : Program} {e : Env} {s : State} {m : MethodId} {args : Array Value} {below : List Frame} {meth : Method} {c : Code} (hE : qok 28 q) (hC : Cx p s m args meth c cX7_mend 4 RX7 (some .int) D (tysX ca) (ZX q t)) (Q : Int32 → St → Prop) : ∀ (n : Nat) (a1 : Int32) (σ : St), f_X7_mend_b20 Q n a1 σ → J p l e { frames := 5, cells := 0, slots := 0, locals := 108 } s m args below meth c (MQ below (va_Qi Q (BW D (wX q ca)) (AX q)) args s 0 0 (AX q)) D (AX q) 4 0 0 (wX q ca σ) 20 [(0, .ref (q 0)), (1, .int a1)] [] := by
  intro n
  induction n with
  | zero => intro a1 σ hf; exact hf.elim
  | succ n ih =>
    intro a1 σ hf
    unfold f_X7_mend_b20 at hf
    refine j_iload_n hC 1 dX7_mend_20 (pc' := 21) rfl rfl ?_
    refine j_iconst hC (v := 3) dX7_mend_21 (pc' := 22) rfl (by decide) ?_
    refine j_icmp_ge hC (tgt := 71) dX7_mend_22 (pc' := 25) rfl (by decide) (fun c_ => ?_) (fun c_ => ?_)
    · replace hf := hf.1 c_
      refine j_iconst hC (v := 1) dX7_mend_71 (pc' := 72) rfl (by decide) ?_
      exact j_iret hC dX7_mend_72 hf
    · replace hf := hf.2 c_
      refine j_aload_n hC 0 dX7_mend_25 (pc' := 26) rfl rfl ?_
      refine gX_sums hC wm_146 dX7_mend_26 (pc' := 29) rfl ?_
      refine j_iload_n hC 1 dX7_mend_29 (pc' := 30) rfl rfl ?_
      refine jcV_l hC (eX hE) (As := [.int a1]) (obX_X6) (rfl) (lk_X6_fitted hE a1 σ _ hf) wm_283 wm_284 wm_285 wm_3 wm_286 dy_X6_fitted ⟨rfl, rfl⟩ ⟨Nat.le_of_ble_eq_true rfl, Nat.le_of_ble_eq_true rfl⟩ ⟨Nat.le_refl _, Nat.le_refl _⟩ rfl rfl (Nat.le_of_ble_eq_true rfl) dX7_mend_30 (pc' := 33) rfl (fun r5 σ6 hf => ?_)
      refine j_ldc2 hC (v := 50) dX7_mend_33 (pc' := 36) rfl wm_294 ?_
      refine j_ladd hC dX7_mend_36 (pc' := 37) rfl ?_
      refine j_ldc2 hC (v := 100) dX7_mend_37 (pc' := 40) rfl wm_295 ?_
      refine jcS_l hC (eX hE) (As := [.long (r5 + (50 : Int64)), .long (100 : Int64)]) (lk_J9_floorDiv_f86c9 hE (r5 + (50 : Int64)) (100 : Int64) σ6 _ hf) wm_296 wm_291 wm_11 wm_292 dy_J9_floorDiv_f86c9 ⟨rfl, rfl⟩ ⟨Nat.le_of_ble_eq_true rfl, Nat.le_of_ble_eq_true rfl⟩ ⟨Nat.le_refl _, Nat.le_refl _⟩ rfl rfl (Nat.le_of_ble_eq_true rfl) dX7_mend_40 (pc' := 43) rfl (fun r7 σ8 hf => ?_)
      refine j_lstore_n hC (lv' := [(2, .long r7), (0, .ref (q 0)), (1, .int a1)]) dX7_mend_43 (pc' := 44) rfl rfl (by decide) rfl ?_
      refine j_aload_n hC 1 dX7_mend_44 (pc' := 45) rfl rfl ?_
      refine gX_arm hC wm_143 dX7_mend_45 (pc' := 48) rfl ?_
      refine gX_lengths hC wm_29 dX7_mend_48 (pc' := 51) rfl ?_
      refine j_iload_n hC 2 dX7_mend_51 (pc' := 52) rfl rfl ?_
      refine j_lconst hC (v := 1) dX7_mend_52 (pc' := 53) rfl (by decide) ?_
      refine j_ldc2 hC (v := 999) dX7_mend_53 (pc' := 56) rfl wm_297 ?_
      refine j_lload_n hC 0 dX7_mend_56 (pc' := 57) rfl rfl ?_
      refine jcS_l hC (eX hE) (As := [.long (999 : Int64), .long r7]) (lk_J9_min_f86c9 hE (999 : Int64) r7 σ8 _ hf) wm_298 wm_299 wm_11 wm_300 dy_J9_min_f86c9 ⟨rfl, rfl⟩ ⟨Nat.le_of_ble_eq_true rfl, Nat.le_of_ble_eq_true rfl⟩ ⟨Nat.le_refl _, Nat.le_refl _⟩ rfl rfl (Nat.le_of_ble_eq_true rfl) dX7_mend_57 (pc' := 60) rfl (fun r9 σ10 hf => ?_)
      refine jcS_l hC (eX hE) (As := [.long (1 : Int64), .long r9]) (lk_J9_max_f86c9 hE (1 : Int64) r9 σ10 _ hf) wm_301 wm_302 wm_11 wm_303 dy_J9_max_f86c9 ⟨rfl, rfl⟩ ⟨Nat.le_of_ble_eq_true rfl, Nat.le_of_ble_eq_true rfl⟩ ⟨Nat.le_refl _, Nat.le_refl _⟩ rfl rfl (Nat.le_of_ble_eq_true rfl) dX7_mend_60 (pc' := 63) rfl (fun r11 σ12 hf => ?_)
      refine j_l2i hC dX7_mend_63 (pc' := 64) rfl ?_
      obtain ⟨h13, hf⟩ := hf
      refine sX_lengths hC (j := (Int32.toNatClampNeg a1)) h13 rfl dX7_mend_64 (pc' := 65) rfl ?_
      refine j_nms (wf := wX q ca) (fun σ14 eσ14 => ?_)
      replace hf := hf σ14 eσ14
      obtain ⟨x15, ex15⟩ : ∃ y : Int32, y = a1 + (1 : Int32) := ⟨_, rfl⟩
      replace hf := hf x15 ex15
      refine j_iinc hC (v := x15) (q := 2) (lv' := [(1, .int x15), (2, .long r7), (0, .ref (q 0))]) dX7_mend_65 (pc' := 68) rfl rfl (by rw [ex15]; rfl) (by decide) rfl ?_
      refine j_goto hC (tgt := 20) dX7_mend_68 (by decide) ?_
      refine j_lv [2, 0] rfl ?_
      exact ih x15 σ14 hf
set_option maxHeartbeats 4000000 in
set_option maxRecDepth 100000 in
theorem lk_X7_mend {l : Launch} {D : va_G} {q : Nat → Nat} {ca : Nat → ClassId} {t : Nat} (hE : qok 28 q) (σ : St) (Q : Int32 → St → Prop) (hf : f_X7_mend σ Q) : Mi l yX7_mend cX7_mend 4 (some .int) { frames := 5, cells := 0, slots := 0, locals := 108 } D (tysX ca) (ZX q t) (wX q ca) (AX q) [.ref (q 0)] σ Q := by
  refine j_start (own := RX7) (lv := [(0, .ref (q 0))]) [.ref (q 0)] (by decide +kernel) rfl (wX_D hE σ) (Nat.le_of_ble_eq_true rfl) rfl (fun p e s m args below meth c hC => ?_)
  unfold f_X7_mend at hf
  refine j_aload_n hC 0 dX7_mend_0 (pc' := 1) rfl rfl ?_
  refine jcV_v hC (eX hE) (As := []) (obX_X7) (rfl) (lk_X7_sumUsed hE  σ _ hf) wm_229 wm_230 wm_884 wm_1 wm_231 dy_X7_sumUsed ⟨rfl, rfl⟩ ⟨Nat.le_of_ble_eq_true rfl, Nat.le_of_ble_eq_true rfl⟩ ⟨Nat.le_refl _, Nat.le_refl _⟩ rfl rfl (Nat.le_of_ble_eq_true rfl) dX7_mend_1 (pc' := 4) rfl (fun σ2 hf => ?_)
  refine j_aload_n hC 0 dX7_mend_4 (pc' := 5) rfl rfl ?_
  refine gX_sums hC wm_146 dX7_mend_5 (pc' := 8) rfl ?_
  refine jcV_i hC (eX hE) (As := []) (obX_X6) (rfl) (lk_X6_rankOfAll hE  σ2 _ hf) wm_266 wm_267 wm_268 wm_3 wm_269 dy_X6_rankOfAll ⟨rfl, rfl⟩ ⟨Nat.le_of_ble_eq_true rfl, Nat.le_of_ble_eq_true rfl⟩ ⟨Nat.le_refl _, Nat.le_refl _⟩ rfl rfl (Nat.le_of_ble_eq_true rfl) dX7_mend_8 (pc' := 11) rfl (fun r3 σ4 hf => ?_)
  refine j_iconst hC (v := 3) dX7_mend_11 (pc' := 12) rfl (by decide) ?_
  refine j_icmp_ge hC (tgt := 18) dX7_mend_12 (pc' := 15) rfl (by decide) (fun c_ => ?_) (fun c_ => ?_)
  · replace hf := hf.1 c_
    refine j_iconst hC (v := 0) dX7_mend_18 (pc' := 19) rfl (by decide) ?_
    refine j_istore_n hC (lv' := [(1, .int (0 : Int32)), (0, .ref (q 0))]) dX7_mend_19 (pc' := 20) rfl rfl (by decide) rfl ?_
    obtain ⟨n16, hf⟩ := hf
    refine j_lv [1, 0] rfl ?_
    exact lb_X7_mend_b20 hE hC Q n16 (0 : Int32) σ4 hf
  · replace hf := hf.2 c_
    refine j_bipush hC (v := -3) dX7_mend_15 (pc' := 17) rfl (by decide) ?_
    exact j_iret hC dX7_mend_17 hf
def f_X7_measure (a1 : Int32) (a2 : Int32) (σ : St) (Q : Int32 → St → Prop) : Prop := f_X7_isPosture a1 σ (fun r1 σ2 => (r1 = 0 → Q (-10000 : Int32) σ2) ∧ ((¬ r1 = 0) → f_X7_within a2 (0 : Int32) (1 : Int32) σ2 (fun r3 σ4 => ((¬ r3 = 0) → f_X7_isMeasured a1 σ4 (fun r5 σ6 => (r5 = 0 → Q (-10001 : Int32) σ6) ∧ ((¬ r5 = 0) → f_X7_measured a1 a2 σ6 (fun r7 σ8 => Q r7 σ8)))) ∧ (r3 = 0 → Q (-10000 : Int32) σ4))))
theorem dy_X7_measure : yX7_measure.cls = yX7_measure.cls ∧ yX7_measure.cls ≠ "java/lang/invoke/MethodHandle" ∧ yX7_measure.cls ≠ "java/lang/invoke/VarHandle" ∧ (parseMethodDescriptor yX7_measure.desc).map (fun d => d.parameters.length) = some 2 := by decide +kernel
set_option maxHeartbeats 4000000 in
set_option maxRecDepth 100000 in
theorem lk_X7_measure {l : Launch} {D : va_G} {q : Nat → Nat} {ca : Nat → ClassId} {t : Nat} (hE : qok 28 q) (a1 : Int32) (a2 : Int32) (σ : St) (Q : Int32 → St → Prop) (hf : f_X7_measure a1 a2 σ Q) : Mi l yX7_measure cX7_measure 3 (some .int) { frames := 3, cells := 0, slots := 0, locals := 63 } D (tysX ca) (ZX q t) (wX q ca) (AX q) [.ref (q 0), .int a1, .int a2] σ Q := by
  refine j_start (own := RX7) (lv := [(0, .ref (q 0)), (1, .int a1), (2, .int a2)]) [.ref (q 0), .int a1, .int a2] (by decide +kernel) rfl (wX_D hE σ) (Nat.le_of_ble_eq_true rfl) rfl (fun p e s m args below meth c hC => ?_)
  unfold f_X7_measure at hf
  refine j_aload_n hC 0 dX7_measure_0 (pc' := 1) rfl rfl ?_
  refine j_iload_n hC 1 dX7_measure_1 (pc' := 2) rfl rfl ?_
  refine jcV_i hC (eX hE) (As := [.int a1]) (obX_X7) (rfl) (lk_X7_isPosture hE a1 σ _ hf) wm_216 wm_217 wm_883 wm_1 wm_218 dy_X7_isPosture ⟨rfl, rfl⟩ ⟨Nat.le_of_ble_eq_true rfl, Nat.le_of_ble_eq_true rfl⟩ ⟨Nat.le_refl _, Nat.le_refl _⟩ rfl rfl (Nat.le_of_ble_eq_true rfl) dX7_measure_2 (pc' := 5) rfl (fun r1 σ2 hf => ?_)
  refine j_if_eq hC (tgt := 17) dX7_measure_5 (pc' := 8) rfl (by decide) (fun c_ => ?_) (fun c_ => ?_)
  · replace hf := hf.1 c_
    refine j_sipush hC (v := -10000) dX7_measure_17 (pc' := 20) rfl (by decide) ?_
    exact j_iret hC dX7_measure_20 hf
  · replace hf := hf.2 c_
    refine j_iload_n hC 2 dX7_measure_8 (pc' := 9) rfl rfl ?_
    refine j_iconst hC (v := 0) dX7_measure_9 (pc' := 10) rfl (by decide) ?_
    refine j_iconst hC (v := 1) dX7_measure_10 (pc' := 11) rfl (by decide) ?_
    refine jcS_i hC (eX hE) (As := [.int a2, .int (0 : Int32), .int (1 : Int32)]) (lk_X7_within hE a2 (0 : Int32) (1 : Int32) σ2 _ hf) wm_175 wm_176 wm_1 wm_177 dy_X7_within ⟨rfl, rfl⟩ ⟨Nat.le_of_ble_eq_true rfl, Nat.le_of_ble_eq_true rfl⟩ ⟨Nat.le_refl _, Nat.le_refl _⟩ rfl rfl (Nat.le_of_ble_eq_true rfl) dX7_measure_11 (pc' := 14) rfl (fun r3 σ4 hf => ?_)
    refine j_if_ne hC (tgt := 21) dX7_measure_14 (pc' := 17) rfl (by decide) (fun c_ => ?_) (fun c_ => ?_)
    · replace hf := hf.1 c_
      refine j_aload_n hC 0 dX7_measure_21 (pc' := 22) rfl rfl ?_
      refine j_iload_n hC 1 dX7_measure_22 (pc' := 23) rfl rfl ?_
      refine jcV_i hC (eX hE) (As := [.int a1]) (obX_X7) (rfl) (lk_X7_isMeasured hE a1 σ4 _ hf) wm_235 wm_236 wm_886 wm_1 wm_237 dy_X7_isMeasured ⟨rfl, rfl⟩ ⟨Nat.le_of_ble_eq_true rfl, Nat.le_of_ble_eq_true rfl⟩ ⟨Nat.le_refl _, Nat.le_refl _⟩ rfl rfl (Nat.le_of_ble_eq_true rfl) dX7_measure_23 (pc' := 26) rfl (fun r5 σ6 hf => ?_)
      refine j_if_eq hC (tgt := 38) dX7_measure_26 (pc' := 29) rfl (by decide) (fun c_ => ?_) (fun c_ => ?_)
      · replace hf := hf.1 c_
        refine j_sipush hC (v := -10001) dX7_measure_38 (pc' := 41) rfl (by decide) ?_
        exact j_iret hC dX7_measure_41 hf
      · replace hf := hf.2 c_
        refine j_aload_n hC 0 dX7_measure_29 (pc' := 30) rfl rfl ?_
        refine j_iload_n hC 1 dX7_measure_30 (pc' := 31) rfl rfl ?_
        refine j_iload_n hC 2 dX7_measure_31 (pc' := 32) rfl rfl ?_
        refine jcV_i hC (eX hE) (As := [.int a1, .int a2]) (obX_X7) (rfl) (lk_X7_measured hE a1 a2 σ6 _ hf) wm_257 wm_258 wm_887 wm_1 wm_259 dy_X7_measured ⟨rfl, rfl⟩ ⟨Nat.le_of_ble_eq_true rfl, Nat.le_of_ble_eq_true rfl⟩ ⟨Nat.le_refl _, Nat.le_refl _⟩ rfl rfl (Nat.le_of_ble_eq_true rfl) dX7_measure_32 (pc' := 35) rfl (fun r7 σ8 hf => ?_)
        refine j_goto hC (tgt := 41) dX7_measure_35 (by decide) ?_
        exact j_iret hC dX7_measure_41 hf
    · replace hf := hf.2 c_
      refine j_sipush hC (v := -10000) dX7_measure_17 (pc' := 20) rfl (by decide) ?_
      exact j_iret hC dX7_measure_20 hf
def f_X7_leave (a1 : Int32) (a2 : Int32) (σ : St) (Q : Int32 → St → Prop) : Prop := f_X7_isPosture a1 σ (fun r1 σ2 => ((¬ r1 = 0) → vp_in a1 20 ∧ ∀ σ4 : St, σ4 = sI σ2 4 (Int32.toNatClampNeg a1) (vp_nar .boolean a2) → Q (1 : Int32) σ4) ∧ (r1 = 0 → Q (-2 : Int32) σ2))
theorem dy_X7_leave : yX7_leave.cls = yX7_leave.cls ∧ yX7_leave.cls ≠ "java/lang/invoke/MethodHandle" ∧ yX7_leave.cls ≠ "java/lang/invoke/VarHandle" ∧ (parseMethodDescriptor yX7_leave.desc).map (fun d => d.parameters.length) = some 2 := by decide +kernel
set_option maxHeartbeats 4000000 in
set_option maxRecDepth 100000 in
theorem lk_X7_leave {l : Launch} {D : va_G} {q : Nat → Nat} {ca : Nat → ClassId} {t : Nat} (hE : qok 28 q) (a1 : Int32) (a2 : Int32) (σ : St) (Q : Int32 → St → Prop) (hf : f_X7_leave a1 a2 σ Q) : Mi l yX7_leave cX7_leave 3 (some .int) { frames := 1, cells := 0, slots := 0, locals := 21 } D (tysX ca) (ZX q t) (wX q ca) (AX q) [.ref (q 0), .int a1, .int a2] σ Q := by
  refine j_start (own := RX7) (lv := [(0, .ref (q 0)), (1, .int a1), (2, .int a2)]) [.ref (q 0), .int a1, .int a2] (by decide +kernel) rfl (wX_D hE σ) (Nat.le_of_ble_eq_true rfl) rfl (fun p e s m args below meth c hC => ?_)
  unfold f_X7_leave at hf
  refine j_aload_n hC 0 dX7_leave_0 (pc' := 1) rfl rfl ?_
  refine j_iload_n hC 1 dX7_leave_1 (pc' := 2) rfl rfl ?_
  refine jcV_i hC (eX hE) (As := [.int a1]) (obX_X7) (rfl) (lk_X7_isPosture hE a1 σ _ hf) wm_216 wm_217 wm_883 wm_1 wm_218 dy_X7_isPosture ⟨rfl, rfl⟩ ⟨Nat.le_of_ble_eq_true rfl, Nat.le_of_ble_eq_true rfl⟩ ⟨Nat.le_refl _, Nat.le_refl _⟩ rfl rfl (Nat.le_of_ble_eq_true rfl) dX7_leave_2 (pc' := 5) rfl (fun r1 σ2 hf => ?_)
  refine j_if_ne hC (tgt := 11) dX7_leave_5 (pc' := 8) rfl (by decide) (fun c_ => ?_) (fun c_ => ?_)
  · replace hf := hf.1 c_
    refine j_aload_n hC 0 dX7_leave_11 (pc' := 12) rfl rfl ?_
    refine gX_leftOut hC wm_144 dX7_leave_12 (pc' := 15) rfl ?_
    refine j_iload_n hC 1 dX7_leave_15 (pc' := 16) rfl rfl ?_
    refine j_iload_n hC 2 dX7_leave_16 (pc' := 17) rfl rfl ?_
    obtain ⟨h3, hf⟩ := hf
    refine sX_leftOut hC (j := (Int32.toNatClampNeg a1)) h3 rfl dX7_leave_17 (pc' := 18) rfl ?_
    refine j_nms (wf := wX q ca) (fun σ4 eσ4 => ?_)
    replace hf := hf σ4 eσ4
    refine j_iconst hC (v := 1) dX7_leave_18 (pc' := 19) rfl (by decide) ?_
    exact j_iret hC dX7_leave_19 hf
  · replace hf := hf.2 c_
    refine j_bipush hC (v := -2) dX7_leave_8 (pc' := 10) rfl (by decide) ?_
    exact j_iret hC dX7_leave_10 hf
def f_X7_used (σ : St) (Q : Int32 → St → Prop) : Prop := f_X7_listUsed σ (fun r1 σ2 => Q r1 σ2)
theorem dy_X7_used : yX7_used.cls = yX7_used.cls ∧ yX7_used.cls ≠ "java/lang/invoke/MethodHandle" ∧ yX7_used.cls ≠ "java/lang/invoke/VarHandle" ∧ (parseMethodDescriptor yX7_used.desc).map (fun d => d.parameters.length) = some 0 := by decide +kernel
set_option maxHeartbeats 4000000 in
set_option maxRecDepth 100000 in
theorem lk_X7_used {l : Launch} {D : va_G} {q : Nat → Nat} {ca : Nat → ClassId} {t : Nat} (hE : qok 28 q) (σ : St) (Q : Int32 → St → Prop) (hf : f_X7_used σ Q) : Mi l yX7_used cX7_used 1 (some .int) { frames := 4, cells := 0, slots := 0, locals := 85 } D (tysX ca) (ZX q t) (wX q ca) (AX q) [.ref (q 0)] σ Q := by
  refine j_start (own := RX7) (lv := [(0, .ref (q 0))]) [.ref (q 0)] (by decide +kernel) rfl (wX_D hE σ) (Nat.le_of_ble_eq_true rfl) rfl (fun p e s m args below meth c hC => ?_)
  unfold f_X7_used at hf
  refine j_aload_n hC 0 dX7_used_0 (pc' := 1) rfl rfl ?_
  refine jcV_i hC (eX hE) (As := []) (obX_X7) (rfl) (lk_X7_listUsed hE  σ _ hf) wm_232 wm_233 wm_885 wm_1 wm_234 dy_X7_listUsed ⟨rfl, rfl⟩ ⟨Nat.le_of_ble_eq_true rfl, Nat.le_of_ble_eq_true rfl⟩ ⟨Nat.le_refl _, Nat.le_refl _⟩ rfl rfl (Nat.le_of_ble_eq_true rfl) dX7_used_1 (pc' := 4) rfl (fun r1 σ2 hf => ?_)
  exact j_iret hC dX7_used_4 hf
