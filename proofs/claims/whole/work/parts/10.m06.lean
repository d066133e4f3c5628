def f_X7_shut (σ : St) (Q : Int32 → St → Prop) : Prop := ∀ x1 : Int32, x1 = σ.1 10 0 → ∀ σ2 : St, σ2 = sI σ 10 0 (0 : Int32) → Q x1 σ2
theorem dy_X7_shut : yX7_shut.cls = yX7_shut.cls ∧ yX7_shut.cls ≠ "java/lang/invoke/MethodHandle" ∧ yX7_shut.cls ≠ "java/lang/invoke/VarHandle" ∧ (parseMethodDescriptor yX7_shut.desc).map (fun d => d.parameters.length) = some 0 := by decide +kernel
set_option maxHeartbeats 4000000 in
set_option maxRecDepth 100000 in
theorem lk_X7_shut {l : Launch} {D : va_G} {q : Nat → Nat} {ca : Nat → ClassId} {t : Nat} (hE : qok 28 q) (σ : St) (Q : Int32 → St → Prop) (hf : f_X7_shut σ Q) : Mi l yX7_shut cX7_shut 2 (some .int) { frames := 0, cells := 0, slots := 0, locals := 0 } D (tysX ca) (ZX q t) (wX q ca) (AX q) [.ref (q 0)] σ Q := by
  refine j_start (own := RX7) (lv := [(0, .ref (q 0))]) [.ref (q 0)] (by decide +kernel) rfl (wX_D hE σ) (Nat.le_of_ble_eq_true rfl) rfl (fun p e s m args below meth c hC => ?_)
  unfold f_X7_shut at hf
  refine j_aload_n hC 0 dX7_shut_0 (pc' := 1) rfl rfl ?_
  refine gX_camera hC wm_147 dX7_shut_1 (pc' := 4) rfl ?_
  refine gX_pairs hC wm_76 dX7_shut_4 (pc' := 7) rfl ?_
  refine j_nmi (fun x1 ex1 => ?_)
  replace hf := hf x1 ex1
  refine j_istore_n hC (lv' := [(1, .int x1), (0, .ref (q 0))]) dX7_shut_7 (pc' := 8) rfl rfl (by decide) rfl ?_
  refine j_aload_n hC 1 dX7_shut_8 (pc' := 9) rfl rfl ?_
  refine gX_camera hC wm_147 dX7_shut_9 (pc' := 12) rfl ?_
  refine j_iconst hC (v := 0) dX7_shut_12 (pc' := 13) rfl (by decide) ?_
  refine pX_pairs hC wm_76 dX7_shut_13 (pc' := 16) rfl ?_
  refine j_nms (wf := wX q ca) (fun σ2 eσ2 => ?_)
  replace hf := hf σ2 eσ2
  refine j_iload_n hC 0 dX7_shut_16 (pc' := 17) rfl rfl ?_
  exact j_iret hC dX7_shut_17 hf
def f_X7_answers (σ : St) (Q : Int32 → St → Prop) : Prop := f_X1_headingsThatAnswer σ (fun r1 σ2 => Q r1 σ2)
theorem dy_X7_answers : yX7_answers.cls = yX7_answers.cls ∧ yX7_answers.cls ≠ "java/lang/invoke/MethodHandle" ∧ yX7_answers.cls ≠ "java/lang/invoke/VarHandle" ∧ (parseMethodDescriptor yX7_answers.desc).map (fun d => d.parameters.length) = some 0 := by decide +kernel
set_option maxHeartbeats 4000000 in
set_option maxRecDepth 100000 in
theorem lk_X7_answers {l : Launch} {D : va_G} {q : Nat → Nat} {ca : Nat → ClassId} {t : Nat} (hE : qok 28 q) (σ : St) (Q : Int32 → St → Prop) (hf : f_X7_answers σ Q) : Mi l yX7_answers cX7_answers 1 (some .int) { frames := 4, cells := 0, slots := 0, locals := 89 } D (tysX ca) (ZX q t) (wX q ca) (AX q) [.ref (q 0)] σ Q := by
  refine j_start (own := RX7) (lv := [(0, .ref (q 0))]) [.ref (q 0)] (by decide +kernel) rfl (wX_D hE σ) (Nat.le_of_ble_eq_true rfl) rfl (fun p e s m args below meth c hC => ?_)
  unfold f_X7_answers at hf
  refine j_aload_n hC 0 dX7_answers_0 (pc' := 1) rfl rfl ?_
  refine gX_camera hC wm_147 dX7_answers_1 (pc' := 4) rfl ?_
  refine jcV_i hC (eX hE) (As := []) (obX_X1) (rfl) (lk_X1_headingsThatAnswer hE  σ _ hf) wm_397 wm_398 wm_399 wm_4 wm_400 dy_X1_headingsThatAnswer ⟨rfl, rfl⟩ ⟨Nat.le_of_ble_eq_true rfl, Nat.le_of_ble_eq_true rfl⟩ ⟨Nat.le_refl _, Nat.le_refl _⟩ rfl rfl (Nat.le_of_ble_eq_true rfl) dX7_answers_4 (pc' := 7) rfl (fun r1 σ2 hf => ?_)
  exact j_iret hC dX7_answers_7 hf
def f_X7_answer (a1 : Int32) (a2 : Int32) (σ : St) (Q : Int32 → St → Prop) : Prop := (a1 < 0 → Q (-2147483648 : Int32) σ) ∧ ((¬ a1 < 0) → f_X7_within a2 (0 : Int32) (2 : Int32) σ (fun r1 σ2 => ((¬ r1 = 0) → f_X1_headingOfAnswer a1 σ2 (fun r3 σ4 => ((¬ r3 = (-1 : Int32)) → ((¬ a2 = 0) → ((¬ (σ4.1 10 0) = 0) → f_X1_shift r3 (0 : Int32) (a2 - (1 : Int32)) σ4 (fun r5 σ6 => Q r5 σ6)) ∧ ((σ4.1 10 0) = 0 → Q (-2147483647 : Int32) σ4)) ∧ (a2 = 0 → Q r3 σ4)) ∧ (r3 = (-1 : Int32) → Q (-2147483648 : Int32) σ4))) ∧ (r1 = 0 → Q (-2147483648 : Int32) σ2)))
theorem dy_X7_answer : yX7_answer.cls = yX7_answer.cls ∧ yX7_answer.cls ≠ "java/lang/invoke/MethodHandle" ∧ yX7_answer.cls ≠ "java/lang/invoke/VarHandle" ∧ (parseMethodDescriptor yX7_answer.desc).map (fun d => d.parameters.length) = some 2 := by decide +kernel
set_option maxHeartbeats 4000000 in
set_option maxRecDepth 100000 in
theorem lk_X7_answer {l : Launch} {D : va_G} {q : Nat → Nat} {ca : Nat → ClassId} {t : Nat} (hE : qok 28 q) (a1 : Int32) (a2 : Int32) (σ : St) (Q : Int32 → St → Prop) (hf : f_X7_answer a1 a2 σ Q) : Mi l yX7_answer cX7_answer 4 (some .int) { frames := 4, cells := 0, slots := 0, locals := 90 } D (tysX ca) (ZX q t) (wX q ca) (AX q) [.ref (q 0), .int a1, .int a2] σ Q := by
  refine j_start (own := RX7) (lv := [(0, .ref (q 0)), (1, .int a1), (2, .int a2)]) [.ref (q 0), .int a1, .int a2] (by decide +kernel) rfl (wX_D hE σ) (Nat.le_of_ble_eq_true rfl) rfl (fun p e s m args below meth c hC => ?_)
  unfold f_X7_answer at hf
  refine j_iload_n hC 1 dX7_answer_0 (pc' := 1) rfl rfl ?_
  refine j_if_lt hC (tgt := 13) dX7_answer_1 (pc' := 4) rfl (by decide) (fun c_ => ?_) (fun c_ => ?_)
  · replace hf := hf.1 c_
    refine j_ldc hC (v := -2147483648) dX7_answer_13 (pc' := 15) rfl wm_219 ?_
    exact j_iret hC dX7_answer_15 hf
  · replace hf := hf.2 c_
    refine j_iload_n hC 2 dX7_answer_4 (pc' := 5) rfl rfl ?_
    refine j_iconst hC (v := 0) dX7_answer_5 (pc' := 6) rfl (by decide) ?_
    refine j_iconst hC (v := 2) dX7_answer_6 (pc' := 7) rfl (by decide) ?_
    refine jcS_i hC (eX hE) (As := [.int a2, .int (0 : Int32), .int (2 : Int32)]) (lk_X7_within hE a2 (0 : Int32) (2 : Int32) σ _ hf) wm_175 wm_176 wm_1 wm_177 dy_X7_within ⟨rfl, rfl⟩ ⟨Nat.le_of_ble_eq_true rfl, Nat.le_of_ble_eq_true rfl⟩ ⟨Nat.le_refl _, Nat.le_refl _⟩ rfl rfl (Nat.le_of_ble_eq_true rfl) dX7_answer_7 (pc' := 10) rfl (fun r1 σ2 hf => ?_)
    refine j_if_ne hC (tgt := 16) dX7_answer_10 (pc' := 13) rfl (by decide) (fun c_ => ?_) (fun c_ => ?_)
    · replace hf := hf.1 c_
      refine j_aload_n hC 0 dX7_answer_16 (pc' := 17) rfl rfl ?_
      refine gX_camera hC wm_147 dX7_answer_17 (pc' := 20) rfl ?_
      refine j_iload_n hC 1 dX7_answer_20 (pc' := 21) rfl rfl ?_
      refine jcV_i hC (eX hE) (As := [.int a1]) (obX_X1) (rfl) (lk_X1_headingOfAnswer hE a1 σ2 _ hf) wm_414 wm_415 wm_416 wm_4 wm_417 dy_X1_headingOfAnswer ⟨rfl, rfl⟩ ⟨Nat.le_of_ble_eq_true rfl, Nat.le_of_ble_eq_true rfl⟩ ⟨Nat.le_refl _, Nat.le_refl _⟩ rfl rfl (Nat.le_of_ble_eq_true rfl) dX7_answer_21 (pc' := 24) rfl (fun r3 σ4 hf => ?_)
      refine j_istore_n hC (lv' := [(3, .int r3), (0, .ref (q 0)), (1, .int a1), (2, .int a2)]) dX7_answer_24 (pc' := 25) rfl rfl (by decide) rfl ?_
      refine j_iload_n hC 0 dX7_answer_25 (pc' := 26) rfl rfl ?_
      refine j_iconst hC (v := -1) dX7_answer_26 (pc' := 27) rfl (by decide) ?_
      refine j_icmp_ne hC (tgt := 33) dX7_answer_27 (pc' := 30) rfl (by decide) (fun c_ => ?_) (fun c_ => ?_)
      · replace hf := hf.1 c_
        refine j_iload_n hC 3 dX7_answer_33 (pc' := 34) rfl rfl ?_
        refine j_if_ne hC (tgt := 39) dX7_answer_34 (pc' := 37) rfl (by decide) (fun c_ => ?_) (fun c_ => ?_)
        · replace hf := hf.1 c_
          refine j_aload_n hC 1 dX7_answer_39 (pc' := 40) rfl rfl ?_
          refine gX_camera hC wm_147 dX7_answer_40 (pc' := 43) rfl ?_
          refine gX_pairs hC wm_76 dX7_answer_43 (pc' := 46) rfl ?_
          refine j_if_ne hC (tgt := 54) dX7_answer_46 (pc' := 49) rfl (by decide) (fun c_ => ?_) (fun c_ => ?_)
          · replace hf := hf.1 c_
            refine j_aload_n hC 1 dX7_answer_54 (pc' := 55) rfl rfl ?_
            refine gX_camera hC wm_147 dX7_answer_55 (pc' := 58) rfl ?_
            refine j_iload_n hC 0 dX7_answer_58 (pc' := 59) rfl rfl ?_
            refine j_iconst hC (v := 0) dX7_answer_59 (pc' := 60) rfl (by decide) ?_
            refine j_iload_n hC 3 dX7_answer_60 (pc' := 61) rfl rfl ?_
            refine j_iconst hC (v := 1) dX7_answer_61 (pc' := 62) rfl (by decide) ?_
            refine j_isub hC dX7_answer_62 (pc' := 63) rfl ?_
            refine jcV_i hC (eX hE) (As := [.int r3, .int (0 : Int32), .int (a2 - (1 : Int32))]) (obX_X1) (rfl) (lk_X1_shift hE r3 (0 : Int32) (a2 - (1 : Int32)) σ4 _ hf) wm_419 wm_405 wm_406 wm_4 wm_407 dy_X1_shift ⟨rfl, rfl⟩ ⟨Nat.le_of_ble_eq_true rfl, Nat.le_of_ble_eq_true rfl⟩ ⟨Nat.le_refl _, Nat.le_refl _⟩ rfl rfl (Nat.le_of_ble_eq_true rfl) dX7_answer_63 (pc' := 66) rfl (fun r5 σ6 hf => ?_)
            exact j_iret hC dX7_answer_66 hf
          · replace hf := hf.2 c_
            refine j_ldc hC (v := -2147483647) dX7_answer_49 (pc' := 51) rfl wm_418 ?_
            refine j_goto hC (tgt := 66) dX7_answer_51 (by decide) ?_
            exact j_iret hC dX7_answer_66 hf
        · replace hf := hf.2 c_
          refine j_iload_n hC 0 dX7_answer_37 (pc' := 38) rfl rfl ?_
          exact j_iret hC dX7_answer_38 hf
      · replace hf := hf.2 c_
        refine j_ldc hC (v := -2147483648) dX7_answer_30 (pc' := 32) rfl wm_219 ?_
        exact j_iret hC dX7_answer_32 hf
    · replace hf := hf.2 c_
      refine j_ldc hC (v := -2147483648) dX7_answer_13 (pc' := 15) rfl wm_219 ?_
      exact j_iret hC dX7_answer_15 hf
def f_X7_limit (a1 : Int32) (a2 : Int32) (a3 : Int32) (σ : St) (Q : Int32 → St → Prop) : Prop := f_X7_within a1 (0 : Int32) (2 : Int32) σ (fun r1 σ2 => (r1 = 0 → Q (-2 : Int32) σ2) ∧ ((¬ r1 = 0) → f_X7_within a2 (0 : Int32) (35 : Int32) σ2 (fun r3 σ4 => (r3 = 0 → Q (-2 : Int32) σ4) ∧ ((¬ r3 = 0) → f_X7_within a3 (0 : Int32) (35 : Int32) σ4 (fun r5 σ6 => ((¬ r5 = 0) → f_X2_keepWithin a1 a2 a3 σ6 (fun σ8 => Q (1 : Int32) σ8)) ∧ (r5 = 0 → Q (-2 : Int32) σ6))))))
theorem dy_X7_limit : yX7_limit.cls = yX7_limit.cls ∧ yX7_limit.cls ≠ "java/lang/invoke/MethodHandle" ∧ yX7_limit.cls ≠ "java/lang/invoke/VarHandle" ∧ (parseMethodDescriptor yX7_limit.desc).map (fun d => d.parameters.length) = some 3 := by decide +kernel
set_option maxHeartbeats 4000000 in
set_option maxRecDepth 100000 in
theorem lk_X7_limit {l : Launch} {D : va_G} {q : Nat → Nat} {ca : Nat → ClassId} {t : Nat} (hE : qok 28 q) (a1 : Int32) (a2 : Int32) (a3 : Int32) (σ : St) (Q : Int32 → St → Prop) (hf : f_X7_limit a1 a2 a3 σ Q) : Mi l yX7_limit cX7_limit 4 (some .int) { frames := 2, cells := 0, slots := 0, locals := 44 } D (tysX ca) (ZX q t) (wX q ca) (AX q) [.ref (q 0), .int a1, .int a2, .int a3] σ Q := by
  refine j_start (own := RX7) (lv := [(0, .ref (q 0)), (1, .int a1), (2, .int a2), (3, .int a3)]) [.ref (q 0), .int a1, .int a2, .int a3] (by decide +kernel) rfl (wX_D hE σ) (Nat.le_of_ble_eq_true rfl) rfl (fun p e s m args below meth c hC => ?_)
  unfold f_X7_limit at hf
  refine j_iload_n hC 1 dX7_limit_0 (pc' := 1) rfl rfl ?_
  refine j_iconst hC (v := 0) dX7_limit_1 (pc' := 2) rfl (by decide) ?_
  refine j_iconst hC (v := 2) dX7_limit_2 (pc' := 3) rfl (by decide) ?_
  refine jcS_i hC (eX hE) (As := [.int a1, .int (0 : Int32), .int (2 : Int32)]) (lk_X7_within hE a1 (0 : Int32) (2 : Int32) σ _ hf) wm_175 wm_176 wm_1 wm_177 dy_X7_within ⟨rfl, rfl⟩ ⟨Nat.le_of_ble_eq_true rfl, Nat.le_of_ble_eq_true rfl⟩ ⟨Nat.le_refl _, Nat.le_refl _⟩ rfl rfl (Nat.le_of_ble_eq_true rfl) dX7_limit_3 (pc' := 6) rfl (fun r1 σ2 hf => ?_)
  refine j_if_eq hC (tgt := 29) dX7_limit_6 (pc' := 9) rfl (by decide) (fun c_ => ?_) (fun c_ => ?_)
  · replace hf := hf.1 c_
    refine j_bipush hC (v := -2) dX7_limit_29 (pc' := 31) rfl (by decide) ?_
    exact j_iret hC dX7_limit_31 hf
  · replace hf := hf.2 c_
    refine j_iload_n hC 2 dX7_limit_9 (pc' := 10) rfl rfl ?_
    refine j_iconst hC (v := 0) dX7_limit_10 (pc' := 11) rfl (by decide) ?_
    refine j_bipush hC (v := 35) dX7_limit_11 (pc' := 13) rfl (by decide) ?_
    refine jcS_i hC (eX hE) (As := [.int a2, .int (0 : Int32), .int (35 : Int32)]) (lk_X7_within hE a2 (0 : Int32) (35 : Int32) σ2 _ hf) wm_175 wm_176 wm_1 wm_177 dy_X7_within ⟨rfl, rfl⟩ ⟨Nat.le_of_ble_eq_true rfl, Nat.le_of_ble_eq_true rfl⟩ ⟨Nat.le_refl _, Nat.le_refl _⟩ rfl rfl (Nat.le_of_ble_eq_true rfl) dX7_limit_13 (pc' := 16) rfl (fun r3 σ4 hf => ?_)
    refine j_if_eq hC (tgt := 29) dX7_limit_16 (pc' := 19) rfl (by decide) (fun c_ => ?_) (fun c_ => ?_)
    · replace hf := hf.1 c_
      refine j_bipush hC (v := -2) dX7_limit_29 (pc' := 31) rfl (by decide) ?_
      exact j_iret hC dX7_limit_31 hf
    · replace hf := hf.2 c_
      refine j_iload_n hC 3 dX7_limit_19 (pc' := 20) rfl rfl ?_
      refine j_iconst hC (v := 0) dX7_limit_20 (pc' := 21) rfl (by decide) ?_
      refine j_bipush hC (v := 35) dX7_limit_21 (pc' := 23) rfl (by decide) ?_
      refine jcS_i hC (eX hE) (As := [.int a3, .int (0 : Int32), .int (35 : Int32)]) (lk_X7_within hE a3 (0 : Int32) (35 : Int32) σ4 _ hf) wm_175 wm_176 wm_1 wm_177 dy_X7_within ⟨rfl, rfl⟩ ⟨Nat.le_of_ble_eq_true rfl, Nat.le_of_ble_eq_true rfl⟩ ⟨Nat.le_refl _, Nat.le_refl _⟩ rfl rfl (Nat.le_of_ble_eq_true rfl) dX7_limit_23 (pc' := 26) rfl (fun r5 σ6 hf => ?_)
      refine j_if_ne hC (tgt := 32) dX7_limit_26 (pc' := 29) rfl (by decide) (fun c_ => ?_) (fun c_ => ?_)
      · replace hf := hf.1 c_
        refine j_aload_n hC 0 dX7_limit_32 (pc' := 33) rfl rfl ?_
        refine gX_going hC wm_148 dX7_limit_33 (pc' := 36) rfl ?_
        refine j_iload_n hC 1 dX7_limit_36 (pc' := 37) rfl rfl ?_
        refine j_iload_n hC 2 dX7_limit_37 (pc' := 38) rfl rfl ?_
        refine j_iload_n hC 3 dX7_limit_38 (pc' := 39) rfl rfl ?_
        refine jcV_v hC (eX hE) (As := [.int a1, .int a2, .int a3]) (obX_X2) (rfl) (lk_X2_keepWithin hE a1 a2 a3 σ6 _ hf) wm_424 wm_425 wm_426 wm_5 wm_427 dy_X2_keepWithin ⟨rfl, rfl⟩ ⟨Nat.le_of_ble_eq_true rfl, Nat.le_of_ble_eq_true rfl⟩ ⟨Nat.le_refl _, Nat.le_refl _⟩ rfl rfl (Nat.le_of_ble_eq_true rfl) dX7_limit_39 (pc' := 42) rfl (fun σ8 hf => ?_)
        refine j_iconst hC (v := 1) dX7_limit_42 (pc' := 43) rfl (by decide) ?_
        exact j_iret hC dX7_limit_43 hf
      · replace hf := hf.2 c_
        refine j_bipush hC (v := -2) dX7_limit_29 (pc' := 31) rfl (by decide) ?_
        exact j_iret hC dX7_limit_31 hf
def f_X7_nearest (a1 : Int32) (a2 : Int32) (σ : St) (Q : Int32 → St → Prop) : Prop := f_X2_isPlace a1 a2 σ (fun r1 σ2 => ((¬ r1 = 0) → f_X2_seek a1 a2 σ2 (fun σ4 => Q (σ4.1 13 0) σ4)) ∧ (r1 = 0 → Q (-2 : Int32) σ2))
theorem dy_X7_nearest : yX7_nearest.cls = yX7_nearest.cls ∧ yX7_nearest.cls ≠ "java/lang/invoke/MethodHandle" ∧ yX7_nearest.cls ≠ "java/lang/invoke/VarHandle" ∧ (parseMethodDescriptor yX7_nearest.desc).map (fun d => d.parameters.length) = some 2 := by decide +kernel
set_option maxHeartbeats 4000000 in
set_option maxRecDepth 100000 in
theorem lk_X7_nearest {l : Launch} {D : va_G} {q : Nat → Nat} {ca : Nat → ClassId} {t : Nat} (hE : qok 28 q) (a1 : Int32) (a2 : Int32) (σ : St) (Q : Int32 → St → Prop) (hf : f_X7_nearest a1 a2 σ Q) : Mi l yX7_nearest cX7_nearest 3 (some .int) { frames := 4, cells := 0, slots := 0, locals := 106 } D (tysX ca) (ZX q t) (wX q ca) (AX q) [.ref (q 0), .int a1, .int a2] σ Q := by
  refine j_start (own := RX7) (lv := [(0, .ref (q 0)), (1, .int a1), (2, .int a2)]) [.ref (q 0), .int a1, .int a2] (by decide +kernel) rfl (wX_D hE σ) (Nat.le_of_ble_eq_true rfl) rfl (fun p e s m args below meth c hC => ?_)
  unfold f_X7_nearest at hf
  refine j_iload_n hC 1 dX7_nearest_0 (pc' := 1) rfl rfl ?_
  refine j_iload_n hC 2 dX7_nearest_1 (pc' := 2) rfl rfl ?_
  refine jcS_i hC (eX hE) (As := [.int a1, .int a2]) (lk_X2_isPlace hE a1 a2 σ _ hf) wm_433 wm_434 wm_5 wm_435 dy_X2_isPlace ⟨rfl, rfl⟩ ⟨Nat.le_of_ble_eq_true rfl, Nat.le_of_ble_eq_true rfl⟩ ⟨Nat.le_refl _, Nat.le_refl _⟩ rfl rfl (Nat.le_of_ble_eq_true rfl) dX7_nearest_2 (pc' := 5) rfl (fun r1 σ2 hf => ?_)
  refine j_if_ne hC (tgt := 11) dX7_nearest_5 (pc' := 8) rfl (by decide) (fun c_ => ?_) (fun c_ => ?_)
  · replace hf := hf.1 c_
    refine j_aload_n hC 0 dX7_nearest_11 (pc' := 12) rfl rfl ?_
    refine gX_going hC wm_148 dX7_nearest_12 (pc' := 15) rfl ?_
    refine j_aload_n hC 0 dX7_nearest_15 (pc' := 16) rfl rfl ?_
    refine gX_arm hC wm_143 dX7_nearest_16 (pc' := 19) rfl ?_
    refine gX_lengths hC wm_29 dX7_nearest_19 (pc' := 22) rfl ?_
    refine j_iload_n hC 1 dX7_nearest_22 (pc' := 23) rfl rfl ?_
    refine j_iload_n hC 2 dX7_nearest_23 (pc' := 24) rfl rfl ?_
    refine jcV_v hC (eX hE) (As := [.ref (q 9), .int a1, .int a2]) (obX_X2) (rfl) (lk_X2_seek hE a1 a2 σ2 _ hf) wm_436 wm_437 wm_438 wm_5 wm_439 dy_X2_seek ⟨rfl, rfl⟩ ⟨Nat.le_of_ble_eq_true rfl, Nat.le_of_ble_eq_true rfl⟩ ⟨Nat.le_refl _, Nat.le_refl _⟩ rfl rfl (Nat.le_of_ble_eq_true rfl) dX7_nearest_24 (pc' := 27) rfl (fun σ4 hf => ?_)
    refine j_aload_n hC 0 dX7_nearest_27 (pc' := 28) rfl rfl ?_
    refine gX_going hC wm_148 dX7_nearest_28 (pc' := 31) rfl ?_
    refine gX_foundTurns hC wm_97 dX7_nearest_31 (pc' := 34) rfl ?_
    exact j_iret hC dX7_nearest_34 hf
  · replace hf := hf.2 c_
    refine j_bipush hC (v := -2) dX7_nearest_8 (pc' := 10) rfl (by decide) ?_
    exact j_iret hC dX7_nearest_10 hf
def f_X7_near (a1 : Int32) (a2 : Int32) (σ : St) (Q : Int64 → St → Prop) : Prop := f_X2_isPlace a1 a2 σ (fun r1 σ2 => ((¬ r1 = 0) → f_X2_seek a1 a2 σ2 (fun σ4 => Q (σ4.2 3 0) σ4)) ∧ (r1 = 0 → Q (-9223372036854775806 : Int64) σ2))
theorem dy_X7_near : yX7_near.cls = yX7_near.cls ∧ yX7_near.cls ≠ "java/lang/invoke/MethodHandle" ∧ yX7_near.cls ≠ "java/lang/invoke/VarHandle" ∧ (parseMethodDescriptor yX7_near.desc).map (fun d => d.parameters.length) = some 2 := by decide +kernel
set_option maxHeartbeats 4000000 in
set_option maxRecDepth 100000 in
theorem lk_X7_near {l : Launch} {D : va_G} {q : Nat → Nat} {ca : Nat → ClassId} {t : Nat} (hE : qok 28 q) (a1 : Int32) (a2 : Int32) (σ : St) (Q : Int64 → St → Prop) (hf : f_X7_near a1 a2 σ Q) : Ml l yX7_near cX7_near 3 (some .long) { frames := 4, cells := 0, slots := 0, locals := 106 } D (tysX ca) (ZX q t) (wX q ca) (AX q) [.ref (q 0), .int a1, .int a2] σ Q := by
  refine j_start (own := RX7) (lv := [(0, .ref (q 0)), (1, .int a1), (2, .int a2)]) [.ref (q 0), .int a1, .int a2] (by decide +kernel) rfl (wX_D hE σ) (Nat.le_of_ble_eq_true rfl) rfl (fun p e s m args below meth c hC => ?_)
  unfold f_X7_near at hf
  refine j_iload_n hC 1 dX7_near_0 (pc' := 1) rfl rfl ?_
  refine j_iload_n hC 2 dX7_near_1 (pc' := 2) rfl rfl ?_
  refine jcS_i hC (eX hE) (As := [.int a1, .int a2]) (lk_X2_isPlace hE a1 a2 σ _ hf) wm_433 wm_434 wm_5 wm_435 dy_X2_isPlace ⟨rfl, rfl⟩ ⟨Nat.le_of_ble_eq_true rfl, Nat.le_of_ble_eq_true rfl⟩ ⟨Nat.le_refl _, Nat.le_refl _⟩ rfl rfl (Nat.le_of_ble_eq_true rfl) dX7_near_2 (pc' := 5) rfl (fun r1 σ2 hf => ?_)
  refine j_if_ne hC (tgt := 12) dX7_near_5 (pc' := 8) rfl (by decide) (fun c_ => ?_) (fun c_ => ?_)
  · replace hf := hf.1 c_
    refine j_aload_n hC 0 dX7_near_12 (pc' := 13) rfl rfl ?_
    refine gX_going hC wm_148 dX7_near_13 (pc' := 16) rfl ?_
    refine j_aload_n hC 0 dX7_near_16 (pc' := 17) rfl rfl ?_
    refine gX_arm hC wm_143 dX7_near_17 (pc' := 20) rfl ?_
    refine gX_lengths hC wm_29 dX7_near_20 (pc' := 23) rfl ?_
    refine j_iload_n hC 1 dX7_near_23 (pc' := 24) rfl rfl ?_
    refine j_iload_n hC 2 dX7_near_24 (pc' := 25) rfl rfl ?_
    refine jcV_v hC (eX hE) (As := [.ref (q 9), .int a1, .int a2]) (obX_X2) (rfl) (lk_X2_seek hE a1 a2 σ2 _ hf) wm_436 wm_437 wm_438 wm_5 wm_439 dy_X2_seek ⟨rfl, rfl⟩ ⟨Nat.le_of_ble_eq_true rfl, Nat.le_of_ble_eq_true rfl⟩ ⟨Nat.le_refl _, Nat.le_refl _⟩ rfl rfl (Nat.le_of_ble_eq_true rfl) dX7_near_25 (pc' := 28) rfl (fun σ4 hf => ?_)
    refine j_aload_n hC 0 dX7_near_28 (pc' := 29) rfl rfl ?_
    refine gX_going hC wm_148 dX7_near_29 (pc' := 32) rfl ?_
    refine gX_least hC wm_99 dX7_near_32 (pc' := 35) rfl ?_
    exact j_lret hC dX7_near_35 hf
  · replace hf := hf.2 c_
    refine j_ldc2 hC (v := -9223372036854775806) dX7_near_8 (pc' := 11) rfl wm_320 ?_
    exact j_lret hC dX7_near_11 hf
def f_X7_isSheet (a0 : Int32) (σ : St) (Q : Int32 → St → Prop) : Prop := (a0 < 0 → Q (0 : Int32) σ) ∧ ((¬ a0 < 0) → ((4 : Int32) ≤ a0 → Q (0 : Int32) σ) ∧ ((¬ (4 : Int32) ≤ a0) → Q (1 : Int32) σ))
theorem dy_X7_isSheet : yX7_isSheet.cls ≠ "java/lang/invoke/MethodHandle" ∧ yX7_isSheet.cls ≠ "java/lang/invoke/VarHandle" ∧ (parseMethodDescriptor yX7_isSheet.desc).map (fun d => d.parameters.length) = some 1 := by decide +kernel
set_option maxHeartbeats 4000000 in
set_option maxRecDepth 100000 in
theorem lk_X7_isSheet {l : Launch} {D : va_G} {q : Nat → Nat} {ca : Nat → ClassId} {t : Nat} (hE : qok 28 q) (a0 : Int32) (σ : St) (Q : Int32 → St → Prop) (hf : f_X7_isSheet a0 σ Q) : Mi l yX7_isSheet cX7_isSheet 1 (some .boolean) { frames := 0, cells := 0, slots := 0, locals := 0 } D (tysX ca) (ZX q t) (wX q ca) (AX q) [.int a0] σ Q := by
  refine j_start (own := RX7) (lv := [(0, .int a0)]) [.int a0] (by decide +kernel) rfl (wX_D hE σ) (Nat.le_of_ble_eq_true rfl) rfl (fun p e s m args below meth c hC => ?_)
  unfold f_X7_isSheet at hf
  refine j_iload_n hC 0 dX7_isSheet_0 (pc' := 1) rfl rfl ?_
  refine j_if_lt hC (tgt := 13) dX7_isSheet_1 (pc' := 4) rfl (by decide) (fun c_ => ?_) (fun c_ => ?_)
  · replace hf := hf.1 c_
    refine j_iconst hC (v := 0) dX7_isSheet_13 (pc' := 14) rfl (by decide) ?_
    exact j_zret hC dX7_isSheet_14 (Or.inl rfl) hf
  · replace hf := hf.2 c_
    refine j_iload_n hC 0 dX7_isSheet_4 (pc' := 5) rfl rfl ?_
    refine j_iconst hC (v := 4) dX7_isSheet_5 (pc' := 6) rfl (by decide) ?_
    refine j_icmp_ge hC (tgt := 13) dX7_isSheet_6 (pc' := 9) rfl (by decide) (fun c_ => ?_) (fun c_ => ?_)
    · replace hf := hf.1 c_
      refine j_iconst hC (v := 0) dX7_isSheet_13 (pc' := 14) rfl (by decide) ?_
      exact j_zret hC dX7_isSheet_14 (Or.inl rfl) hf
    · replace hf := hf.2 c_
      refine j_iconst hC (v := 1) dX7_isSheet_9 (pc' := 10) rfl (by decide) ?_
      refine j_goto hC (tgt := 14) dX7_isSheet_10 (by decide) ?_
      exact j_zret hC dX7_isSheet_14 (Or.inr rfl) hf
def f_X7_finding (a1 : Int32) (σ : St) (Q : Int32 → St → Prop) : Prop := ∀ σ1 : St, σ1 = sI σ 16 0 a1 → Q ((-10 : Int32) - a1) σ1
theorem dy_X7_finding : yX7_finding.cls = yX7_finding.cls ∧ yX7_finding.cls ≠ "java/lang/invoke/MethodHandle" ∧ yX7_finding.cls ≠ "java/lang/invoke/VarHandle" ∧ (parseMethodDescriptor yX7_finding.desc).map (fun d => d.parameters.length) = some 1 := by decide +kernel
set_option maxHeartbeats 4000000 in
set_option maxRecDepth 100000 in
theorem lk_X7_finding {l : Launch} {D : va_G} {q : Nat → Nat} {ca : Nat → ClassId} {t : Nat} (hE : qok 28 q) (a1 : Int32) (σ : St) (Q : Int32 → St → Prop) (hf : f_X7_finding a1 σ Q) : Mi l yX7_finding cX7_finding 2 (some .int) { frames := 0, cells := 0, slots := 0, locals := 0 } D (tysX ca) (ZX q t) (wX q ca) (AX q) [.ref (q 0), .int a1] σ Q := by
  refine j_start (own := RX7) (lv := [(0, .ref (q 0)), (1, .int a1)]) [.ref (q 0), .int a1] (by decide +kernel) rfl (wX_D hE σ) (Nat.le_of_ble_eq_true rfl) rfl (fun p e s m args below meth c hC => ?_)
  unfold f_X7_finding at hf
  refine j_aload_n hC 0 dX7_finding_0 (pc' := 1) rfl rfl ?_
  refine j_iload_n hC 1 dX7_finding_1 (pc' := 2) rfl rfl ?_
  refine pX_latestFinding hC wm_151 dX7_finding_2 (pc' := 5) rfl ?_
  refine j_nms (wf := wX q ca) (fun σ1 eσ1 => ?_)
  replace hf := hf σ1 eσ1
  refine j_bipush hC (v := -10) dX7_finding_5 (pc' := 7) rfl (by decide) ?_
  refine j_iload_n hC 1 dX7_finding_7 (pc' := 8) rfl rfl ?_
  refine j_isub hC dX7_finding_8 (pc' := 9) rfl ?_
  exact j_iret hC dX7_finding_9 hf
def f_X7_drift (a1 : Int32) (a2 : Int32) (a3 : Int32) (a4 : Int32) (σ : St) (Q : Int32 → St → Prop) : Prop := f_X7_isSheet a1 σ (fun r1 σ2 => (r1 = 0 → Q (-2 : Int32) σ2) ∧ ((¬ r1 = 0) → (a2 < 0 → Q (-2 : Int32) σ2) ∧ ((¬ a2 < 0) → (a3 < a2 → Q (-2 : Int32) σ2) ∧ ((¬ a3 < a2) → f_X7_within a4 (0 : Int32) (2 : Int32) σ2 (fun r3 σ4 => ((¬ r3 = 0) → vp_in a1 4 ∧ ∀ k6 : Nat, k6 = (Int32.toNatClampNeg a1) → f_X4_isLost k6 σ4 (fun r7 σ8 => (r7 = 0 → f_X4_has k6 a3 σ8 (fun r9 σ10 => ((¬ r9 = 0) → f_X5_read k6 a2 a3 σ10 (fun σ12 => ((¬ a4 = 0) → ((¬ a4 = (1 : Int32)) → f_X5_falseShare σ12 (fun r13 σ14 => Q r13 σ14)) ∧ (a4 = (1 : Int32) → Q (σ12.1 15 0) σ12)) ∧ (a4 = 0 → Q (σ12.1 14 0) σ12))) ∧ (r9 = 0 → f_X7_finding (2 : Int32) σ10 (fun r15 σ16 => Q r15 σ16)))) ∧ ((¬ r7 = 0) → f_X7_finding (1 : Int32) σ8 (fun r17 σ18 => Q r17 σ18)))) ∧ (r3 = 0 → Q (-2 : Int32) σ4))))))
theorem dy_X7_drift : yX7_drift.cls = yX7_drift.cls ∧ yX7_drift.cls ≠ "java/lang/invoke/MethodHandle" ∧ yX7_drift.cls ≠ "java/lang/invoke/VarHandle" ∧ (parseMethodDescriptor yX7_drift.desc).map (fun d => d.parameters.length) = some 4 := by decide +kernel
set_option maxHeartbeats 4000000 in
set_option maxRecDepth 100000 in
theorem lk_X7_drift {l : Launch} {D : va_G} {q : Nat → Nat} {ca : Nat → ClassId} {t : Nat} (hE : qok 28 q) (a1 : Int32) (a2 : Int32) (a3 : Int32) (a4 : Int32) (σ : St) (Q : Int32 → St → Prop) (hf : f_X7_drift a1 a2 a3 a4 σ Q) : Mi l yX7_drift cX7_drift 6 (some .int) { frames := 2, cells := 0, slots := 0, locals := 48 } D (tysX ca) (ZX q t) (wX q ca) (AX q) [.ref (q 0), .int a1, .int a2, .int a3, .int a4] σ Q := by
  refine j_start (own := RX7) (lv := [(0, .ref (q 0)), (1, .int a1), (2, .int a2), (3, .int a3), (4, .int a4)]) [.ref (q 0), .int a1, .int a2, .int a3, .int a4] (by decide +kernel) rfl (wX_D hE σ) (Nat.le_of_ble_eq_true rfl) rfl (fun p e s m args below meth c hC => ?_)
  unfold f_X7_drift at hf
  refine j_iload_n hC 1 dX7_drift_0 (pc' := 1) rfl rfl ?_
  refine jcS_i hC (eX hE) (As := [.int a1]) (lk_X7_isSheet hE a1 σ _ hf) wm_465 wm_466 wm_1 wm_467 dy_X7_isSheet ⟨rfl, rfl⟩ ⟨Nat.le_of_ble_eq_true rfl, Nat.le_of_ble_eq_true rfl⟩ ⟨Nat.le_refl _, Nat.le_refl _⟩ rfl rfl (Nat.le_of_ble_eq_true rfl) dX7_drift_1 (pc' := 4) rfl (fun r1 σ2 hf => ?_)
  refine j_if_eq hC (tgt := 26) dX7_drift_4 (pc' := 7) rfl (by decide) (fun c_ => ?_) (fun c_ => ?_)
  · replace hf := hf.1 c_
    refine j_bipush hC (v := -2) dX7_drift_26 (pc' := 28) rfl (by decide) ?_
    exact j_iret hC dX7_drift_28 hf
  · replace hf := hf.2 c_
    refine j_iload_n hC 2 dX7_drift_7 (pc' := 8) rfl rfl ?_
    refine j_if_lt hC (tgt := 26) dX7_drift_8 (pc' := 11) rfl (by decide) (fun c_ => ?_) (fun c_ => ?_)
    · replace hf := hf.1 c_
      refine j_bipush hC (v := -2) dX7_drift_26 (pc' := 28) rfl (by decide) ?_
      exact j_iret hC dX7_drift_28 hf
    · replace hf := hf.2 c_
      refine j_iload_n hC 2 dX7_drift_11 (pc' := 12) rfl rfl ?_
      refine j_iload_n hC 3 dX7_drift_12 (pc' := 13) rfl rfl ?_
      refine j_icmp_gt hC (tgt := 26) dX7_drift_13 (pc' := 16) rfl (by decide) (fun c_ => ?_) (fun c_ => ?_)
      · replace hf := hf.1 c_
        refine j_bipush hC (v := -2) dX7_drift_26 (pc' := 28) rfl (by decide) ?_
        exact j_iret hC dX7_drift_28 hf
      · replace hf := hf.2 c_
        refine j_iload hC 4 dX7_drift_16 (pc' := 18) rfl rfl ?_
        refine j_iconst hC (v := 0) dX7_drift_18 (pc' := 19) rfl (by decide) ?_
        refine j_iconst hC (v := 2) dX7_drift_19 (pc' := 20) rfl (by decide) ?_
        refine jcS_i hC (eX hE) (As := [.int a4, .int (0 : Int32), .int (2 : Int32)]) (lk_X7_within hE a4 (0 : Int32) (2 : Int32) σ2 _ hf) wm_175 wm_176 wm_1 wm_177 dy_X7_within ⟨rfl, rfl⟩ ⟨Nat.le_of_ble_eq_true rfl, Nat.le_of_ble_eq_true rfl⟩ ⟨Nat.le_refl _, Nat.le_refl _⟩ rfl rfl (Nat.le_of_ble_eq_true rfl) dX7_drift_20 (pc' := 23) rfl (fun r3 σ4 hf => ?_)
        refine j_if_ne hC (tgt := 29) dX7_drift_23 (pc' := 26) rfl (by decide) (fun c_ => ?_) (fun c_ => ?_)
        · replace hf := hf.1 c_
          refine j_aload_n hC 0 dX7_drift_29 (pc' := 30) rfl rfl ?_
          refine gX_sheets hC wm_150 dX7_drift_30 (pc' := 33) rfl ?_
          refine j_iload_n hC 1 dX7_drift_33 (pc' := 34) rfl rfl ?_
          obtain ⟨h5, hf⟩ := hf
          refine lX_sheets hC (j := (Int32.toNatClampNeg a1)) h5 rfl dX7_drift_34 (pc' := 35) rfl ?_
          obtain ⟨k6, ek6⟩ : ∃ z : Nat, z = (Int32.toNatClampNeg a1) := ⟨_, rfl⟩
          replace hf := hf k6 ek6
          rw [← ek6]
          have hk6 : k6 < 4 := by rw [ek6]; exact Nat.not_le.mp (fun z => h5 (Or.inr z))
          refine j_astore hC (lv' := [(5, .ref (q (20 + k6))), (0, .ref (q 0)), (1, .int a1), (2, .int a2), (3, .int a3), (4, .int a4)]) dX7_drift_35 (pc' := 37) rfl (by decide) rfl ?_
          refine j_aload hC 0 dX7_drift_37 (pc' := 39) rfl rfl ?_
          refine jcV_i hC (eX hE) (As := []) (obX_X4 hk6) (rfl) (lk_X4_isLost hE k6 hk6  σ4 _ hf) wm_468 wm_469 wm_470 wm_7 wm_471 dy_X4_isLost ⟨rfl, rfl⟩ ⟨Nat.le_of_ble_eq_true rfl, Nat.le_of_ble_eq_true rfl⟩ ⟨Nat.le_refl _, Nat.le_refl _⟩ rfl rfl (Nat.le_of_ble_eq_true rfl) dX7_drift_39 (pc' := 42) rfl (fun r7 σ8 hf => ?_)
          refine j_if_eq hC (tgt := 51) dX7_drift_42 (pc' := 45) rfl (by decide) (fun c_ => ?_) (fun c_ => ?_)
          · replace hf := hf.1 c_
            refine j_aload hC 0 dX7_drift_51 (pc' := 53) rfl rfl ?_
            refine j_iload_n hC 4 dX7_drift_53 (pc' := 54) rfl rfl ?_
            refine jcV_i hC (eX hE) (As := [.int a3]) (obX_X4 hk6) (rfl) (lk_X4_has hE k6 hk6 a3 σ8 _ hf) wm_475 wm_243 wm_244 wm_7 wm_245 dy_X4_has ⟨rfl, rfl⟩ ⟨Nat.le_of_ble_eq_true rfl, Nat.le_of_ble_eq_true rfl⟩ ⟨Nat.le_refl _, Nat.le_refl _⟩ rfl rfl (Nat.le_of_ble_eq_true rfl) dX7_drift_54 (pc' := 57) rfl (fun r9 σ10 hf => ?_)
            refine j_if_ne hC (tgt := 66) dX7_drift_57 (pc' := 60) rfl (by decide) (fun c_ => ?_) (fun c_ => ?_)
            · replace hf := hf.1 c_
              refine j_aload_n hC 1 dX7_drift_66 (pc' := 67) rfl rfl ?_
              refine gX_signs hC wm_149 dX7_drift_67 (pc' := 70) rfl ?_
              refine j_aload hC 0 dX7_drift_70 (pc' := 72) rfl rfl ?_
              refine j_iload_n hC 3 dX7_drift_72 (pc' := 73) rfl rfl ?_
              refine j_iload_n hC 4 dX7_drift_73 (pc' := 74) rfl rfl ?_
              refine jcV_v hC (eX hE) (As := [.ref (q (20 + k6)), .int a2, .int a3]) (obX_X5) (rfl) (lk_X5_read hE k6 hk6 a2 a3 σ10 _ hf) wm_476 wm_477 wm_478 wm_6 wm_479 dy_X5_read ⟨rfl, rfl⟩ ⟨Nat.le_of_ble_eq_true rfl, Nat.le_of_ble_eq_true rfl⟩ ⟨Nat.le_refl _, Nat.le_refl _⟩ rfl rfl (Nat.le_of_ble_eq_true rfl) dX7_drift_74 (pc' := 77) rfl (fun σ12 hf => ?_)
              refine j_iload hC 5 dX7_drift_77 (pc' := 79) rfl rfl ?_
              refine j_if_ne hC (tgt := 90) dX7_drift_79 (pc' := 82) rfl (by decide) (fun c_ => ?_) (fun c_ => ?_)
              · replace hf := hf.1 c_
                refine j_iload hC 5 dX7_drift_90 (pc' := 92) rfl rfl ?_
                refine j_iconst hC (v := 1) dX7_drift_92 (pc' := 93) rfl (by decide) ?_
                refine j_icmp_ne hC (tgt := 106) dX7_drift_93 (pc' := 96) rfl (by decide) (fun c_ => ?_) (fun c_ => ?_)
                · replace hf := hf.1 c_
                  refine j_aload_n hC 1 dX7_drift_106 (pc' := 107) rfl rfl ?_
                  refine gX_signs hC wm_149 dX7_drift_107 (pc' := 110) rfl ?_
                  refine jcV_i hC (eX hE) (As := []) (obX_X5) (rfl) (lk_X5_falseShare hE  σ12 _ hf) wm_480 wm_481 wm_482 wm_6 wm_483 dy_X5_falseShare ⟨rfl, rfl⟩ ⟨Nat.le_of_ble_eq_true rfl, Nat.le_of_ble_eq_true rfl⟩ ⟨Nat.le_refl _, Nat.le_refl _⟩ rfl rfl (Nat.le_of_ble_eq_true rfl) dX7_drift_110 (pc' := 113) rfl (fun r13 σ14 hf => ?_)
                  exact j_iret hC dX7_drift_113 hf
                · replace hf := hf.2 c_
                  refine j_aload_n hC 1 dX7_drift_96 (pc' := 97) rfl rfl ?_
                  refine gX_signs hC wm_149 dX7_drift_97 (pc' := 100) rfl ?_
                  refine gX_above hC wm_118 dX7_drift_100 (pc' := 103) rfl ?_
                  refine j_goto hC (tgt := 113) dX7_drift_103 (by decide) ?_
                  exact j_iret hC dX7_drift_113 hf
              · replace hf := hf.2 c_
                refine j_aload_n hC 1 dX7_drift_82 (pc' := 83) rfl rfl ?_
                refine gX_signs hC wm_149 dX7_drift_83 (pc' := 86) rfl ?_
                refine gX_counted hC wm_116 dX7_drift_86 (pc' := 89) rfl ?_
                exact j_iret hC dX7_drift_89 hf
            · replace hf := hf.2 c_
              refine j_aload_n hC 1 dX7_drift_60 (pc' := 61) rfl rfl ?_
              refine j_iconst hC (v := 2) dX7_drift_61 (pc' := 62) rfl (by decide) ?_
              refine jcV_i hC (eX hE) (As := [.int (2 : Int32)]) (obX_X7) (rfl) (lk_X7_finding hE (2 : Int32) σ10 _ hf) wm_472 wm_473 wm_897 wm_1 wm_474 dy_X7_finding ⟨rfl, rfl⟩ ⟨Nat.le_of_ble_eq_true rfl, Nat.le_of_ble_eq_true rfl⟩ ⟨Nat.le_refl _, Nat.le_refl _⟩ rfl rfl (Nat.le_of_ble_eq_true rfl) dX7_drift_62 (pc' := 65) rfl (fun r15 σ16 hf => ?_)
              exact j_iret hC dX7_drift_65 hf
          · replace hf := hf.2 c_
            refine j_aload_n hC 1 dX7_drift_45 (pc' := 46) rfl rfl ?_
            refine j_iconst hC (v := 1) dX7_drift_46 (pc' := 47) rfl (by decide) ?_
            refine jcV_i hC (eX hE) (As := [.int (1 : Int32)]) (obX_X7) (rfl) (lk_X7_finding hE (1 : Int32) σ8 _ hf) wm_472 wm_473 wm_897 wm_1 wm_474 dy_X7_finding ⟨rfl, rfl⟩ ⟨Nat.le_of_ble_eq_true rfl, Nat.le_of_ble_eq_true rfl⟩ ⟨Nat.le_refl _, Nat.le_refl _⟩ rfl rfl (Nat.le_of_ble_eq_true rfl) dX7_drift_47 (pc' := 50) rfl (fun r17 σ18 hf => ?_)
            exact j_iret hC dX7_drift_50 hf
        · replace hf := hf.2 c_
          refine j_bipush hC (v := -2) dX7_drift_26 (pc' := 28) rfl (by decide) ?_
          exact j_iret hC dX7_drift_28 hf
def f_X7_sheet (a1 : Int32) (a2 : Int32) (a3 : Int32) (σ : St) (Q : Int32 → St → Prop) : Prop := f_X7_isSheet a1 σ (fun r1 σ2 => (r1 = 0 → Q (-2 : Int32) σ2) ∧ ((¬ r1 = 0) → f_X4_isForm a2 σ2 (fun r3 σ4 => (r3 = 0 → Q (-2 : Int32) σ4) ∧ ((¬ r3 = 0) → (a3 ≤ (100 : Int32) → (0 ≤ a3 → vp_in a1 4 ∧ ∀ k6 : Nat, k6 = (Int32.toNatClampNeg a1) → f_X4_begin k6 a2 a3 σ4 (fun σ8 => Q a3 σ8)) ∧ ((¬ 0 ≤ a3) → f_X7_finding (5 : Int32) σ4 (fun r9 σ10 => Q r9 σ10))) ∧ ((¬ a3 ≤ (100 : Int32)) → Q (-2 : Int32) σ4)))))
theorem dy_X7_sheet : yX7_sheet.cls = yX7_sheet.cls ∧ yX7_sheet.cls ≠ "java/lang/invoke/MethodHandle" ∧ yX7_sheet.cls ≠ "java/lang/invoke/VarHandle" ∧ (parseMethodDescriptor yX7_sheet.desc).map (fun d => d.parameters.length) = some 3 := by decide +kernel
set_option maxHeartbeats 4000000 in
set_option maxRecDepth 100000 in
theorem lk_X7_sheet {l : Launch} {D : va_G} {q : Nat → Nat} {ca : Nat → ClassId} {t : Nat} (hE : qok 28 q) (a1 : Int32) (a2 : Int32) (a3 : Int32) (σ : St) (Q : Int32 → St → Prop) (hf : f_X7_sheet a1 a2 a3 σ Q) : Mi l yX7_sheet cX7_sheet 4 (some .int) { frames := 2, cells := 0, slots := 0, locals := 45 } D (tysX ca) (ZX q t) (wX q ca) (AX q) [.ref (q 0), .int a1, .int a2, .int a3] σ Q := by
  refine j_start (own := RX7) (lv := [(0, .ref (q 0)), (1, .int a1), (2, .int a2), (3, .int a3)]) [.ref (q 0), .int a1, .int a2, .int a3] (by decide +kernel) rfl (wX_D hE σ) (Nat.le_of_ble_eq_true rfl) rfl (fun p e s m args below meth c hC => ?_)
  unfold f_X7_sheet at hf
  refine j_iload_n hC 1 dX7_sheet_0 (pc' := 1) rfl rfl ?_
  refine jcS_i hC (eX hE) (As := [.int a1]) (lk_X7_isSheet hE a1 σ _ hf) wm_465 wm_466 wm_1 wm_467 dy_X7_isSheet ⟨rfl, rfl⟩ ⟨Nat.le_of_ble_eq_true rfl, Nat.le_of_ble_eq_true rfl⟩ ⟨Nat.le_refl _, Nat.le_refl _⟩ rfl rfl (Nat.le_of_ble_eq_true rfl) dX7_sheet_1 (pc' := 4) rfl (fun r1 σ2 hf => ?_)
  refine j_if_eq hC (tgt := 20) dX7_sheet_4 (pc' := 7) rfl (by decide) (fun c_ => ?_) (fun c_ => ?_)
  · replace hf := hf.1 c_
    refine j_bipush hC (v := -2) dX7_sheet_20 (pc' := 22) rfl (by decide) ?_
    exact j_iret hC dX7_sheet_22 hf
  · replace hf := hf.2 c_
    refine j_iload_n hC 2 dX7_sheet_7 (pc' := 8) rfl rfl ?_
    refine jcS_i hC (eX hE) (As := [.int a2]) (lk_X4_isForm hE a2 σ2 _ hf) wm_498 wm_499 wm_7 wm_500 dy_X4_isForm ⟨rfl, rfl⟩ ⟨Nat.le_of_ble_eq_true rfl, Nat.le_of_ble_eq_true rfl⟩ ⟨Nat.le_refl _, Nat.le_refl _⟩ rfl rfl (Nat.le_of_ble_eq_true rfl) dX7_sheet_8 (pc' := 11) rfl (fun r3 σ4 hf => ?_)
    refine j_if_eq hC (tgt := 20) dX7_sheet_11 (pc' := 14) rfl (by decide) (fun c_ => ?_) (fun c_ => ?_)
    · replace hf := hf.1 c_
      refine j_bipush hC (v := -2) dX7_sheet_20 (pc' := 22) rfl (by decide) ?_
      exact j_iret hC dX7_sheet_22 hf
    · replace hf := hf.2 c_
      refine j_iload_n hC 3 dX7_sheet_14 (pc' := 15) rfl rfl ?_
      refine j_bipush hC (v := 100) dX7_sheet_15 (pc' := 17) rfl (by decide) ?_
      refine j_icmp_le hC (tgt := 23) dX7_sheet_17 (pc' := 20) rfl (by decide) (fun c_ => ?_) (fun c_ => ?_)
      · replace hf := hf.1 c_
        refine j_iload_n hC 3 dX7_sheet_23 (pc' := 24) rfl rfl ?_
        refine j_if_ge hC (tgt := 33) dX7_sheet_24 (pc' := 27) rfl (by decide) (fun c_ => ?_) (fun c_ => ?_)
        · replace hf := hf.1 c_
          refine j_aload_n hC 0 dX7_sheet_33 (pc' := 34) rfl rfl ?_
          refine gX_sheets hC wm_150 dX7_sheet_34 (pc' := 37) rfl ?_
          refine j_iload_n hC 1 dX7_sheet_37 (pc' := 38) rfl rfl ?_
          obtain ⟨h5, hf⟩ := hf
          refine lX_sheets hC (j := (Int32.toNatClampNeg a1)) h5 rfl dX7_sheet_38 (pc' := 39) rfl ?_
          obtain ⟨k6, ek6⟩ : ∃ z : Nat, z = (Int32.toNatClampNeg a1) := ⟨_, rfl⟩
          replace hf := hf k6 ek6
          rw [← ek6]
          have hk6 : k6 < 4 := by rw [ek6]; exact Nat.not_le.mp (fun z => h5 (Or.inr z))
          refine j_iload_n hC 2 dX7_sheet_39 (pc' := 40) rfl rfl ?_
          refine j_iload_n hC 3 dX7_sheet_40 (pc' := 41) rfl rfl ?_
          refine jcV_v hC (eX hE) (As := [.int a2, .int a3]) (obX_X4 hk6) (rfl) (lk_X4_begin hE k6 hk6 a2 a3 σ4 _ hf) wm_501 wm_502 wm_503 wm_7 wm_504 dy_X4_begin ⟨rfl, rfl⟩ ⟨Nat.le_of_ble_eq_true rfl, Nat.le_of_ble_eq_true rfl⟩ ⟨Nat.le_refl _, Nat.le_refl _⟩ rfl rfl (Nat.le_of_ble_eq_true rfl) dX7_sheet_41 (pc' := 44) rfl (fun σ8 hf => ?_)
          refine j_iload_n hC 3 dX7_sheet_44 (pc' := 45) rfl rfl ?_
          exact j_iret hC dX7_sheet_45 hf
        · replace hf := hf.2 c_
          refine j_aload_n hC 0 dX7_sheet_27 (pc' := 28) rfl rfl ?_
          refine j_iconst hC (v := 5) dX7_sheet_28 (pc' := 29) rfl (by decide) ?_
          refine jcV_i hC (eX hE) (As := [.int (5 : Int32)]) (obX_X7) (rfl) (lk_X7_finding hE (5 : Int32) σ4 _ hf) wm_472 wm_473 wm_897 wm_1 wm_474 dy_X7_finding ⟨rfl, rfl⟩ ⟨Nat.le_of_ble_eq_true rfl, Nat.le_of_ble_eq_true rfl⟩ ⟨Nat.le_refl _, Nat.le_refl _⟩ rfl rfl (Nat.le_of_ble_eq_true rfl) dX7_sheet_29 (pc' := 32) rfl (fun r9 σ10 hf => ?_)
          exact j_iret hC dX7_sheet_32 hf
      · replace hf := hf.2 c_
        refine j_bipush hC (v := -2) dX7_sheet_20 (pc' := 22) rfl (by decide) ?_
        exact j_iret hC dX7_sheet_22 hf
def f_X7_lose (a1 : Int32) (σ : St) (Q : Int32 → St → Prop) : Prop := f_X7_isSheet a1 σ (fun r1 σ2 => ((¬ r1 = 0) → vp_in a1 4 ∧ ∀ k4 : Nat, k4 = (Int32.toNatClampNeg a1) → f_X4_isLost k4 σ2 (fun r5 σ6 => (r5 = 0 → vp_in a1 4 ∧ ∀ k8 : Nat, k8 = (Int32.toNatClampNeg a1) → f_X4_end k8 σ6 (fun r9 σ10 => Q r9 σ10)) ∧ ((¬ r5 = 0) → f_X7_finding (1 : Int32) σ6 (fun r11 σ12 => Q r11 σ12)))) ∧ (r1 = 0 → Q (-2 : Int32) σ2))
theorem dy_X7_lose : yX7_lose.cls = yX7_lose.cls ∧ yX7_lose.cls ≠ "java/lang/invoke/MethodHandle" ∧ yX7_lose.cls ≠ "java/lang/invoke/VarHandle" ∧ (parseMethodDescriptor yX7_lose.desc).map (fun d => d.parameters.length) = some 1 := by decide +kernel
set_option maxHeartbeats 4000000 in
set_option maxRecDepth 100000 in
theorem lk_X7_lose {l : Launch} {D : va_G} {q : Nat → Nat} {ca : Nat → ClassId} {t : Nat} (hE : qok 28 q) (a1 : Int32) (σ : St) (Q : Int32 → St → Prop) (hf : f_X7_lose a1 σ Q) : Mi l yX7_lose cX7_lose 2 (some .int) { frames := 1, cells := 0, slots := 0, locals := 21 } D (tysX ca) (ZX q t) (wX q ca) (AX q) [.ref (q 0), .int a1] σ Q := by
  refine j_start (own := RX7) (lv := [(0, .ref (q 0)), (1, .int a1)]) [.ref (q 0), .int a1] (by decide +kernel) rfl (wX_D hE σ) (Nat.le_of_ble_eq_true rfl) rfl (fun p e s m args below meth c hC => ?_)
  unfold f_X7_lose at hf
  refine j_iload_n hC 1 dX7_lose_0 (pc' := 1) rfl rfl ?_
  refine jcS_i hC (eX hE) (As := [.int a1]) (lk_X7_isSheet hE a1 σ _ hf) wm_465 wm_466 wm_1 wm_467 dy_X7_isSheet ⟨rfl, rfl⟩ ⟨Nat.le_of_ble_eq_true rfl, Nat.le_of_ble_eq_true rfl⟩ ⟨Nat.le_refl _, Nat.le_refl _⟩ rfl rfl (Nat.le_of_ble_eq_true rfl) dX7_lose_1 (pc' := 4) rfl (fun r1 σ2 hf => ?_)
  refine j_if_ne hC (tgt := 10) dX7_lose_4 (pc' := 7) rfl (by decide) (fun c_ => ?_) (fun c_ => ?_)
  · replace hf := hf.1 c_
    refine j_aload_n hC 0 dX7_lose_10 (pc' := 11) rfl rfl ?_
    refine gX_sheets hC wm_150 dX7_lose_11 (pc' := 14) rfl ?_
    refine j_iload_n hC 1 dX7_lose_14 (pc' := 15) rfl rfl ?_
    obtain ⟨h3, hf⟩ := hf
    refine lX_sheets hC (j := (Int32.toNatClampNeg a1)) h3 rfl dX7_lose_15 (pc' := 16) rfl ?_
    obtain ⟨k4, ek4⟩ : ∃ z : Nat, z = (Int32.toNatClampNeg a1) := ⟨_, rfl⟩
    replace hf := hf k4 ek4
    rw [← ek4]
    have hk4 : k4 < 4 := by rw [ek4]; exact Nat.not_le.mp (fun z => h3 (Or.inr z))
    refine jcV_i hC (eX hE) (As := []) (obX_X4 hk4) (rfl) (lk_X4_isLost hE k4 hk4  σ2 _ hf) wm_468 wm_469 wm_470 wm_7 wm_471 dy_X4_isLost ⟨rfl, rfl⟩ ⟨Nat.le_of_ble_eq_true rfl, Nat.le_of_ble_eq_true rfl⟩ ⟨Nat.le_refl _, Nat.le_refl _⟩ rfl rfl (Nat.le_of_ble_eq_true rfl) dX7_lose_16 (pc' := 19) rfl (fun r5 σ6 hf => ?_)
    refine j_if_eq hC (tgt := 28) dX7_lose_19 (pc' := 22) rfl (by decide) (fun c_ => ?_) (fun c_ => ?_)
    · replace hf := hf.1 c_
      refine j_aload_n hC 0 dX7_lose_28 (pc' := 29) rfl rfl ?_
      refine gX_sheets hC wm_150 dX7_lose_29 (pc' := 32) rfl ?_
      refine j_iload_n hC 1 dX7_lose_32 (pc' := 33) rfl rfl ?_
      obtain ⟨h7, hf⟩ := hf
      refine lX_sheets hC (j := (Int32.toNatClampNeg a1)) h7 rfl dX7_lose_33 (pc' := 34) rfl ?_
      obtain ⟨k8, ek8⟩ : ∃ z : Nat, z = (Int32.toNatClampNeg a1) := ⟨_, rfl⟩
      replace hf := hf k8 ek8
      rw [← ek8]
      have hk8 : k8 < 4 := by rw [ek8]; exact Nat.not_le.mp (fun z => h7 (Or.inr z))
      refine jcV_i hC (eX hE) (As := []) (obX_X4 hk8) (rfl) (lk_X4_end hE k8 hk8  σ6 _ hf) wm_512 wm_513 wm_514 wm_7 wm_515 dy_X4_end ⟨rfl, rfl⟩ ⟨Nat.le_of_ble_eq_true rfl, Nat.le_of_ble_eq_true rfl⟩ ⟨Nat.le_refl _, Nat.le_refl _⟩ rfl rfl (Nat.le_of_ble_eq_true rfl) dX7_lose_34 (pc' := 37) rfl (fun r9 σ10 hf => ?_)
      exact j_iret hC dX7_lose_37 hf
    · replace hf := hf.2 c_
      refine j_aload_n hC 0 dX7_lose_22 (pc' := 23) rfl rfl ?_
      refine j_iconst hC (v := 1) dX7_lose_23 (pc' := 24) rfl (by decide) ?_
      refine jcV_i hC (eX hE) (As := [.int (1 : Int32)]) (obX_X7) (rfl) (lk_X7_finding hE (1 : Int32) σ6 _ hf) wm_472 wm_473 wm_897 wm_1 wm_474 dy_X7_finding ⟨rfl, rfl⟩ ⟨Nat.le_of_ble_eq_true rfl, Nat.le_of_ble_eq_true rfl⟩ ⟨Nat.le_refl _, Nat.le_refl _⟩ rfl rfl (Nat.le_of_ble_eq_true rfl) dX7_lose_24 (pc' := 27) rfl (fun r11 σ12 hf => ?_)
      exact j_iret hC dX7_lose_27 hf
  · replace hf := hf.2 c_
    refine j_bipush hC (v := -2) dX7_lose_7 (pc' := 9) rfl (by decide) ?_
    exact j_iret hC dX7_lose_9 hf
def f_X7_troubleWith (k : Nat) (a1 : Int32) (a2 : Int32) (σ : St) (Q : Int32 → St → Prop) : Prop := f_X4_isLost k σ (fun r1 σ2 => (r1 = 0 → ((σ2.1 (24 + k) 0) = a1 → f_X4_has k a2 σ2 (fun r3 σ4 => (r3 = 0 → Q (2 : Int32) σ4) ∧ ((¬ r3 = 0) → Q (0 : Int32) σ4))) ∧ ((¬ (σ2.1 (24 + k) 0) = a1) → Q (3 : Int32) σ2)) ∧ ((¬ r1 = 0) → Q (1 : Int32) σ2))
theorem dy_X7_troubleWith : yX7_troubleWith.cls ≠ "java/lang/invoke/MethodHandle" ∧ yX7_troubleWith.cls ≠ "java/lang/invoke/VarHandle" ∧ (parseMethodDescriptor yX7_troubleWith.desc).map (fun d => d.parameters.length) = some 3 := by decide +kernel
set_option maxHeartbeats 4000000 in
set_option maxRecDepth 100000 in
theorem lk_X7_troubleWith {l : Launch} {D : va_G} {q : Nat → Nat} {ca : Nat → ClassId} {t : Nat} (hE : qok 28 q) (k : Nat) (hk4 : k < 4) (a1 : Int32) (a2 : Int32) (σ : St) (Q : Int32 → St → Prop) (hf : f_X7_troubleWith k a1 a2 σ Q) : Mi l yX7_troubleWith cX7_troubleWith 3 (some .int) { frames := 1, cells := 0, slots := 0, locals := 21 } D (tysX ca) (ZX q t) (wX q ca) (AX q) [.ref (q (20 + k)), .int a1, .int a2] σ Q := by
  refine j_start (own := RX7) (lv := [(0, .ref (q (20 + k))), (1, .int a1), (2, .int a2)]) [.ref (q (20 + k)), .int a1, .int a2] (by decide +kernel) rfl (wX_D hE σ) (Nat.le_of_ble_eq_true rfl) rfl (fun p e s m args below meth c hC => ?_)
  unfold f_X7_troubleWith at hf
  refine j_aload_n hC 0 dX7_troubleWith_0 (pc' := 1) rfl rfl ?_
  refine jcV_i hC (eX hE) (As := []) (obX_X4 hk4) (rfl) (lk_X4_isLost hE k hk4  σ _ hf) wm_468 wm_469 wm_470 wm_7 wm_471 dy_X4_isLost ⟨rfl, rfl⟩ ⟨Nat.le_of_ble_eq_true rfl, Nat.le_of_ble_eq_true rfl⟩ ⟨Nat.le_refl _, Nat.le_refl _⟩ rfl rfl (Nat.le_of_ble_eq_true rfl) dX7_troubleWith_1 (pc' := 4) rfl (fun r1 σ2 hf => ?_)
  refine j_if_eq hC (tgt := 9) dX7_troubleWith_4 (pc' := 7) rfl (by decide) (fun c_ => ?_) (fun c_ => ?_)
  · replace hf := hf.1 c_
    refine j_aload_n hC 0 dX7_troubleWith_9 (pc' := 10) rfl rfl ?_
    refine gX_form hC hk4 wm_134 dX7_troubleWith_10 (pc' := 13) rfl ?_
    refine j_iload_n hC 1 dX7_troubleWith_13 (pc' := 14) rfl rfl ?_
    refine j_icmp_eq hC (tgt := 19) dX7_troubleWith_14 (pc' := 17) rfl (by decide) (fun c_ => ?_) (fun c_ => ?_)
    · replace hf := hf.1 c_
      refine j_aload_n hC 0 dX7_troubleWith_19 (pc' := 20) rfl rfl ?_
      refine j_iload_n hC 2 dX7_troubleWith_20 (pc' := 21) rfl rfl ?_
      refine jcV_i hC (eX hE) (As := [.int a2]) (obX_X4 hk4) (rfl) (lk_X4_has hE k hk4 a2 σ2 _ hf) wm_475 wm_243 wm_244 wm_7 wm_245 dy_X4_has ⟨rfl, rfl⟩ ⟨Nat.le_of_ble_eq_true rfl, Nat.le_of_ble_eq_true rfl⟩ ⟨Nat.le_refl _, Nat.le_refl _⟩ rfl rfl (Nat.le_of_ble_eq_true rfl) dX7_troubleWith_21 (pc' := 24) rfl (fun r3 σ4 hf => ?_)
      refine j_if_eq hC (tgt := 31) dX7_troubleWith_24 (pc' := 27) rfl (by decide) (fun c_ => ?_) (fun c_ => ?_)
      · replace hf := hf.1 c_
        refine j_iconst hC (v := 2) dX7_troubleWith_31 (pc' := 32) rfl (by decide) ?_
        exact j_iret hC dX7_troubleWith_32 hf
      · replace hf := hf.2 c_
        refine j_iconst hC (v := 0) dX7_troubleWith_27 (pc' := 28) rfl (by decide) ?_
        refine j_goto hC (tgt := 32) dX7_troubleWith_28 (by decide) ?_
        exact j_iret hC dX7_troubleWith_32 hf
    · replace hf := hf.2 c_
      refine j_iconst hC (v := 3) dX7_troubleWith_17 (pc' := 18) rfl (by decide) ?_
      exact j_iret hC dX7_troubleWith_18 hf
  · replace hf := hf.2 c_
    refine j_iconst hC (v := 1) dX7_troubleWith_7 (pc' := 8) rfl (by decide) ?_
    exact j_iret hC dX7_troubleWith_8 hf
def f_X7_put (a1 : Int32) (a2 : Int32) (a3 : Int32) (a4 : Int32) (σ : St) (Q : Int32 → St → Prop) : Prop := f_X7_isSheet a1 σ (fun r1 σ2 => (r1 = 0 → Q (-2 : Int32) σ2) ∧ ((¬ r1 = 0) → f_X4_isForm a2 σ2 (fun r3 σ4 => ((¬ r3 = 0) → vp_in a1 4 ∧ ∀ k6 : Nat, k6 = (Int32.toNatClampNeg a1) → f_X7_troubleWith k6 a2 a3 σ4 (fun r7 σ8 => (r7 = 0 → vp_in a1 4 ∧ ∀ k10 : Nat, k10 = (Int32.toNatClampNeg a1) → f_X4_lowestBits a2 a4 σ8 (fun r11 σ12 => vp_in a3 100 ∧ ∀ σ14 : St, σ14 = sI σ12 (20 + k10) (Int32.toNatClampNeg a3) r11 → Q (1 : Int32) σ14)) ∧ ((¬ r7 = 0) → f_X7_finding r7 σ8 (fun r15 σ16 => Q r15 σ16)))) ∧ (r3 = 0 → Q (-2 : Int32) σ4))))
theorem dy_X7_put : yX7_put.cls = yX7_put.cls ∧ yX7_put.cls ≠ "java/lang/invoke/MethodHandle" ∧ yX7_put.cls ≠ "java/lang/invoke/VarHandle" ∧ (parseMethodDescriptor yX7_put.desc).map (fun d => d.parameters.length) = some 4 := by decide +kernel
set_option maxHeartbeats 4000000 in
set_option maxRecDepth 100000 in
theorem lk_X7_put {l : Launch} {D : va_G} {q : Nat → Nat} {ca : Nat → ClassId} {t : Nat} (hE : qok 28 q) (a1 : Int32) (a2 : Int32) (a3 : Int32) (a4 : Int32) (σ : St) (Q : Int32 → St → Prop) (hf : f_X7_put a1 a2 a3 a4 σ Q) : Mi l yX7_put cX7_put 6 (some .int) { frames := 2, cells := 0, slots := 0, locals := 43 } D (tysX ca) (ZX q t) (wX q ca) (AX q) [.ref (q 0), .int a1, .int a2, .int a3, .int a4] σ Q := by
  refine j_start (own := RX7) (lv := [(0, .ref (q 0)), (1, .int a1), (2, .int a2), (3, .int a3), (4, .int a4)]) [.ref (q 0), .int a1, .int a2, .int a3, .int a4] (by decide +kernel) rfl (wX_D hE σ) (Nat.le_of_ble_eq_true rfl) rfl (fun p e s m args below meth c hC => ?_)
  unfold f_X7_put at hf
  refine j_iload_n hC 1 dX7_put_0 (pc' := 1) rfl rfl ?_
  refine jcS_i hC (eX hE) (As := [.int a1]) (lk_X7_isSheet hE a1 σ _ hf) wm_465 wm_466 wm_1 wm_467 dy_X7_isSheet ⟨rfl, rfl⟩ ⟨Nat.le_of_ble_eq_true rfl, Nat.le_of_ble_eq_true rfl⟩ ⟨Nat.le_refl _, Nat.le_refl _⟩ rfl rfl (Nat.le_of_ble_eq_true rfl) dX7_put_1 (pc' := 4) rfl (fun r1 σ2 hf => ?_)
  refine j_if_eq hC (tgt := 14) dX7_put_4 (pc' := 7) rfl (by decide) (fun c_ => ?_) (fun c_ => ?_)
  · replace hf := hf.1 c_
    refine j_bipush hC (v := -2) dX7_put_14 (pc' := 16) rfl (by decide) ?_
    exact j_iret hC dX7_put_16 hf
  · replace hf := hf.2 c_
    refine j_iload_n hC 2 dX7_put_7 (pc' := 8) rfl rfl ?_
    refine jcS_i hC (eX hE) (As := [.int a2]) (lk_X4_isForm hE a2 σ2 _ hf) wm_498 wm_499 wm_7 wm_500 dy_X4_isForm ⟨rfl, rfl⟩ ⟨Nat.le_of_ble_eq_true rfl, Nat.le_of_ble_eq_true rfl⟩ ⟨Nat.le_refl _, Nat.le_refl _⟩ rfl rfl (Nat.le_of_ble_eq_true rfl) dX7_put_8 (pc' := 11) rfl (fun r3 σ4 hf => ?_)
    refine j_if_ne hC (tgt := 17) dX7_put_11 (pc' := 14) rfl (by decide) (fun c_ => ?_) (fun c_ => ?_)
    · replace hf := hf.1 c_
      refine j_aload_n hC 0 dX7_put_17 (pc' := 18) rfl rfl ?_
      refine gX_sheets hC wm_150 dX7_put_18 (pc' := 21) rfl ?_
      refine j_iload_n hC 1 dX7_put_21 (pc' := 22) rfl rfl ?_
      obtain ⟨h5, hf⟩ := hf
      refine lX_sheets hC (j := (Int32.toNatClampNeg a1)) h5 rfl dX7_put_22 (pc' := 23) rfl ?_
      obtain ⟨k6, ek6⟩ : ∃ z : Nat, z = (Int32.toNatClampNeg a1) := ⟨_, rfl⟩
      replace hf := hf k6 ek6
      rw [← ek6]
      have hk6 : k6 < 4 := by rw [ek6]; exact Nat.not_le.mp (fun z => h5 (Or.inr z))
      refine j_iload_n hC 2 dX7_put_23 (pc' := 24) rfl rfl ?_
      refine j_iload_n hC 3 dX7_put_24 (pc' := 25) rfl rfl ?_
      refine jcS_i hC (eX hE) (As := [.ref (q (20 + k6)), .int a2, .int a3]) (lk_X7_troubleWith hE k6 hk6 a2 a3 σ4 _ hf) wm_520 wm_521 wm_1 wm_522 dy_X7_troubleWith ⟨rfl, rfl⟩ ⟨Nat.le_of_ble_eq_true rfl, Nat.le_of_ble_eq_true rfl⟩ ⟨Nat.le_refl _, Nat.le_refl _⟩ rfl rfl (Nat.le_of_ble_eq_true rfl) dX7_put_25 (pc' := 28) rfl (fun r7 σ8 hf => ?_)
      refine j_istore hC (lv' := [(5, .int r7), (0, .ref (q 0)), (1, .int a1), (2, .int a2), (3, .int a3), (4, .int a4)]) dX7_put_28 (pc' := 30) rfl (by decide) rfl ?_
      refine j_iload hC 0 dX7_put_30 (pc' := 32) rfl rfl ?_
      refine j_if_eq hC (tgt := 42) dX7_put_32 (pc' := 35) rfl (by decide) (fun c_ => ?_) (fun c_ => ?_)
      · replace hf := hf.1 c_
        refine j_aload_n hC 1 dX7_put_42 (pc' := 43) rfl rfl ?_
        refine gX_sheets hC wm_150 dX7_put_43 (pc' := 46) rfl ?_
        refine j_iload_n hC 2 dX7_put_46 (pc' := 47) rfl rfl ?_
        obtain ⟨h9, hf⟩ := hf
        refine lX_sheets hC (j := (Int32.toNatClampNeg a1)) h9 rfl dX7_put_47 (pc' := 48) rfl ?_
        obtain ⟨k10, ek10⟩ : ∃ z : Nat, z = (Int32.toNatClampNeg a1) := ⟨_, rfl⟩
        replace hf := hf k10 ek10
        rw [← ek10]
        have hk10 : k10 < 4 := by rw [ek10]; exact Nat.not_le.mp (fun z => h9 (Or.inr z))
        refine gX_items hC hk10 wm_132 dX7_put_48 (pc' := 51) rfl ?_
        refine j_iload_n hC 4 dX7_put_51 (pc' := 52) rfl rfl ?_
        refine j_iload_n hC 3 dX7_put_52 (pc' := 53) rfl rfl ?_
        refine j_iload hC 5 dX7_put_53 (pc' := 55) rfl rfl ?_
        refine jcS_i hC (eX hE) (As := [.int a2, .int a4]) (lk_X4_lowestBits hE a2 a4 σ8 _ hf) wm_523 wm_524 wm_7 wm_525 dy_X4_lowestBits ⟨rfl, rfl⟩ ⟨Nat.le_of_ble_eq_true rfl, Nat.le_of_ble_eq_true rfl⟩ ⟨Nat.le_refl _, Nat.le_refl _⟩ rfl rfl (Nat.le_of_ble_eq_true rfl) dX7_put_55 (pc' := 58) rfl (fun r11 σ12 hf => ?_)
        obtain ⟨h13, hf⟩ := hf
        refine sX_itemsA hC hk10 (j := (Int32.toNatClampNeg a3)) h13 rfl dX7_put_58 (pc' := 59) rfl ?_
        refine j_nms (wf := wX q ca) (fun σ14 eσ14 => ?_)
        replace hf := hf σ14 eσ14
        refine j_iconst hC (v := 1) dX7_put_59 (pc' := 60) rfl (by decide) ?_
        exact j_iret hC dX7_put_60 hf
      · replace hf := hf.2 c_
        refine j_aload_n hC 1 dX7_put_35 (pc' := 36) rfl rfl ?_
        refine j_iload hC 0 dX7_put_36 (pc' := 38) rfl rfl ?_
        refine jcV_i hC (eX hE) (As := [.int r7]) (obX_X7) (rfl) (lk_X7_finding hE r7 σ8 _ hf) wm_472 wm_473 wm_897 wm_1 wm_474 dy_X7_finding ⟨rfl, rfl⟩ ⟨Nat.le_of_ble_eq_true rfl, Nat.le_of_ble_eq_true rfl⟩ ⟨Nat.le_refl _, Nat.le_refl _⟩ rfl rfl (Nat.le_of_ble_eq_true rfl) dX7_put_38 (pc' := 41) rfl (fun r15 σ16 hf => ?_)
        exact j_iret hC dX7_put_41 hf
    · replace hf := hf.2 c_
      refine j_bipush hC (v := -2) dX7_put_14 (pc' := 16) rfl (by decide) ?_
      exact j_iret hC dX7_put_16 hf
def f_X7_get (a1 : Int32) (a2 : Int32) (a3 : Int32) (σ : St) (Q : Int32 → St → Prop) : Prop := f_X7_isSheet a1 σ (fun r1 σ2 => (r1 = 0 → Q (-2147483648 : Int32) σ2) ∧ ((¬ r1 = 0) → f_X4_isForm a2 σ2 (fun r3 σ4 => ((¬ r3 = 0) → vp_in a1 4 ∧ ∀ k6 : Nat, k6 = (Int32.toNatClampNeg a1) → f_X7_troubleWith k6 a2 a3 σ4 (fun r7 σ8 => (r7 = 0 → vp_in a1 4 ∧ ∀ k10 : Nat, k10 = (Int32.toNatClampNeg a1) → vp_in a3 100 ∧ Q (σ8.1 (20 + k10) (Int32.toNatClampNeg a3)) σ8) ∧ ((¬ r7 = 0) → ∀ σ12 : St, σ12 = sI σ8 16 0 r7 → Q (-2147483648 : Int32) σ12))) ∧ (r3 = 0 → Q (-2147483648 : Int32) σ4))))
theorem dy_X7_get : yX7_get.cls = yX7_get.cls ∧ yX7_get.cls ≠ "java/lang/invoke/MethodHandle" ∧ yX7_get.cls ≠ "java/lang/invoke/VarHandle" ∧ (parseMethodDescriptor yX7_get.desc).map (fun d => d.parameters.length) = some 3 := by decide +kernel
set_option maxHeartbeats 4000000 in
set_option maxRecDepth 100000 in
theorem lk_X7_get {l : Launch} {D : va_G} {q : Nat → Nat} {ca : Nat → ClassId} {t : Nat} (hE : qok 28 q) (a1 : Int32) (a2 : Int32) (a3 : Int32) (σ : St) (Q : Int32 → St → Prop) (hf : f_X7_get a1 a2 a3 σ Q) : Mi l yX7_get cX7_get 5 (some .int) { frames := 2, cells := 0, slots := 0, locals := 43 } D (tysX ca) (ZX q t) (wX q ca) (AX q) [.ref (q 0), .int a1, .int a2, .int a3] σ Q := by
  refine j_start (own := RX7) (lv := [(0, .ref (q 0)), (1, .int a1), (2, .int a2), (3, .int a3)]) [.ref (q 0), .int a1, .int a2, .int a3] (by decide +kernel) rfl (wX_D hE σ) (Nat.le_of_ble_eq_true rfl) rfl (fun p e s m args below meth c hC => ?_)
  unfold f_X7_get at hf
  refine j_iload_n hC 1 dX7_get_0 (pc' := 1) rfl rfl ?_
  refine jcS_i hC (eX hE) (As := [.int a1]) (lk_X7_isSheet hE a1 σ _ hf) wm_465 wm_466 wm_1 wm_467 dy_X7_isSheet ⟨rfl, rfl⟩ ⟨Nat.le_of_ble_eq_true rfl, Nat.le_of_ble_eq_true rfl⟩ ⟨Nat.le_refl _, Nat.le_refl _⟩ rfl rfl (Nat.le_of_ble_eq_true rfl) dX7_get_1 (pc' := 4) rfl (fun r1 σ2 hf => ?_)
  refine j_if_eq hC (tgt := 14) dX7_get_4 (pc' := 7) rfl (by decide) (fun c_ => ?_) (fun c_ => ?_)
  · replace hf := hf.1 c_
    refine j_ldc hC (v := -2147483648) dX7_get_14 (pc' := 16) rfl wm_219 ?_
    exact j_iret hC dX7_get_16 hf
  · replace hf := hf.2 c_
    refine j_iload_n hC 2 dX7_get_7 (pc' := 8) rfl rfl ?_
    refine jcS_i hC (eX hE) (As := [.int a2]) (lk_X4_isForm hE a2 σ2 _ hf) wm_498 wm_499 wm_7 wm_500 dy_X4_isForm ⟨rfl, rfl⟩ ⟨Nat.le_of_ble_eq_true rfl, Nat.le_of_ble_eq_true rfl⟩ ⟨Nat.le_refl _, Nat.le_refl _⟩ rfl rfl (Nat.le_of_ble_eq_true rfl) dX7_get_8 (pc' := 11) rfl (fun r3 σ4 hf => ?_)
    refine j_if_ne hC (tgt := 17) dX7_get_11 (pc' := 14) rfl (by decide) (fun c_ => ?_) (fun c_ => ?_)
    · replace hf := hf.1 c_
      refine j_aload_n hC 0 dX7_get_17 (pc' := 18) rfl rfl ?_
      refine gX_sheets hC wm_150 dX7_get_18 (pc' := 21) rfl ?_
      refine j_iload_n hC 1 dX7_get_21 (pc' := 22) rfl rfl ?_
      obtain ⟨h5, hf⟩ := hf
      refine lX_sheets hC (j := (Int32.toNatClampNeg a1)) h5 rfl dX7_get_22 (pc' := 23) rfl ?_
      obtain ⟨k6, ek6⟩ : ∃ z : Nat, z = (Int32.toNatClampNeg a1) := ⟨_, rfl⟩
      replace hf := hf k6 ek6
      rw [← ek6]
      have hk6 : k6 < 4 := by rw [ek6]; exact Nat.not_le.mp (fun z => h5 (Or.inr z))
      refine j_iload_n hC 2 dX7_get_23 (pc' := 24) rfl rfl ?_
      refine j_iload_n hC 3 dX7_get_24 (pc' := 25) rfl rfl ?_
      refine jcS_i hC (eX hE) (As := [.ref (q (20 + k6)), .int a2, .int a3]) (lk_X7_troubleWith hE k6 hk6 a2 a3 σ4 _ hf) wm_520 wm_521 wm_1 wm_522 dy_X7_troubleWith ⟨rfl, rfl⟩ ⟨Nat.le_of_ble_eq_true rfl, Nat.le_of_ble_eq_true rfl⟩ ⟨Nat.le_refl _, Nat.le_refl _⟩ rfl rfl (Nat.le_of_ble_eq_true rfl) dX7_get_25 (pc' := 28) rfl (fun r7 σ8 hf => ?_)
      refine j_istore hC (lv' := [(4, .int r7), (0, .ref (q 0)), (1, .int a1), (2, .int a2), (3, .int a3)]) dX7_get_28 (pc' := 30) rfl (by decide) rfl ?_
      refine j_iload hC 0 dX7_get_30 (pc' := 32) rfl rfl ?_
      refine j_if_eq hC (tgt := 44) dX7_get_32 (pc' := 35) rfl (by decide) (fun c_ => ?_) (fun c_ => ?_)
      · replace hf := hf.1 c_
        refine j_aload_n hC 1 dX7_get_44 (pc' := 45) rfl rfl ?_
        refine gX_sheets hC wm_150 dX7_get_45 (pc' := 48) rfl ?_
        refine j_iload_n hC 2 dX7_get_48 (pc' := 49) rfl rfl ?_
        obtain ⟨h9, hf⟩ := hf
        refine lX_sheets hC (j := (Int32.toNatClampNeg a1)) h9 rfl dX7_get_49 (pc' := 50) rfl ?_
        obtain ⟨k10, ek10⟩ : ∃ z : Nat, z = (Int32.toNatClampNeg a1) := ⟨_, rfl⟩
        replace hf := hf k10 ek10
        rw [← ek10]
        have hk10 : k10 < 4 := by rw [ek10]; exact Nat.not_le.mp (fun z => h9 (Or.inr z))
        refine gX_items hC hk10 wm_132 dX7_get_50 (pc' := 53) rfl ?_
        refine j_iload_n hC 4 dX7_get_53 (pc' := 54) rfl rfl ?_
        obtain ⟨h11, hf⟩ := hf
        refine lX_itemsA hC hk10 (j := (Int32.toNatClampNeg a3)) h11 rfl dX7_get_54 (pc' := 55) rfl ?_
        exact j_iret hC dX7_get_55 hf
      · replace hf := hf.2 c_
        refine j_aload_n hC 1 dX7_get_35 (pc' := 36) rfl rfl ?_
        refine j_iload hC 0 dX7_get_36 (pc' := 38) rfl rfl ?_
        refine pX_latestFinding hC wm_151 dX7_get_38 (pc' := 41) rfl ?_
        refine j_nms (wf := wX q ca) (fun σ12 eσ12 => ?_)
        replace hf := hf σ12 eσ12
        refine j_ldc hC (v := -2147483648) dX7_get_41 (pc' := 43) rfl wm_219 ?_
        exact j_iret hC dX7_get_43 hf
    · replace hf := hf.2 c_
      refine j_ldc hC (v := -2147483648) dX7_get_14 (pc' := 16) rfl wm_219 ?_
      exact j_iret hC dX7_get_16 hf
