def f_X7_table (a1 : Int32) (a2 : Int32) (σ : St) (Q : Int64 → St → Prop) : Prop := f_X7_within a1 (0 : Int32) (2 : Int32) σ (fun r1 σ2 => (r1 = 0 → Q (-9223372036854775806 : Int64) σ2) ∧ ((¬ r1 = 0) → f_X7_within a2 (0 : Int32) (2 : Int32) σ2 (fun r3 σ4 => ((¬ r3 = 0) → f_X7_sumUsed σ4 (fun σ6 => vp_in (((3 : Int32) * a1) + a2) 9 ∧ Q (σ6.2 0 (Int32.toNatClampNeg (((3 : Int32) * a1) + a2))) σ6)) ∧ (r3 = 0 → Q (-9223372036854775806 : Int64) σ4))))
theorem dy_X7_table : yX7_table.cls = yX7_table.cls ∧ yX7_table.cls ≠ "java/lang/invoke/MethodHandle" ∧ yX7_table.cls ≠ "java/lang/invoke/VarHandle" ∧ (parseMethodDescriptor yX7_table.desc).map (fun d => d.parameters.length) = some 2 := by decide +kernel
set_option maxHeartbeats 4000000 in
set_option maxRecDepth 100000 in
theorem lk_X7_table {l : Launch} {D : va_G} {q : Nat → Nat} {ca : Nat → ClassId} {t : Nat} (hE : qok 28 q) (a1 : Int32) (a2 : Int32) (σ : St) (Q : Int64 → St → Prop) (hf : f_X7_table a1 a2 σ Q) : Ml l yX7_table cX7_table 3 (some .long) { frames := 5, cells := 0, slots := 0, locals := 108 } D (tysX ca) (ZX q t) (wX q ca) (AX q) [.ref (q 0), .int a1, .int a2] σ Q := by
  refine j_start (own := RX7) (lv := [(0, .ref (q 0)), (1, .int a1), (2, .int a2)]) [.ref (q 0), .int a1, .int a2] (by decide +kernel) rfl (wX_D hE σ) (Nat.le_of_ble_eq_true rfl) rfl (fun p e s m args below meth c hC => ?_)
  unfold f_X7_table at hf
  refine j_iload_n hC 1 dX7_table_0 (pc' := 1) rfl rfl ?_
  refine j_iconst hC (v := 0) dX7_table_1 (pc' := 2) rfl (by decide) ?_
  refine j_iconst hC (v := 2) dX7_table_2 (pc' := 3) rfl (by decide) ?_
  refine jcS_i hC (eX hE) (As := [.int a1, .int (0 : Int32), .int (2 : Int32)]) (lk_X7_within hE a1 (0 : Int32) (2 : Int32) σ _ hf) wm_175 wm_176 wm_1 wm_177 dy_X7_within ⟨rfl, rfl⟩ ⟨Nat.le_of_ble_eq_true rfl, Nat.le_of_ble_eq_true rfl⟩ ⟨Nat.le_refl _, Nat.le_refl _⟩ rfl rfl (Nat.le_of_ble_eq_true rfl) dX7_table_3 (pc' := 6) rfl (fun r1 σ2 hf => ?_)
  refine j_if_eq hC (tgt := 18) dX7_table_6 (pc' := 9) rfl (by decide) (fun c_ => ?_) (fun c_ => ?_)
  · replace hf := hf.1 c_
    refine j_ldc2 hC (v := -9223372036854775806) dX7_table_18 (pc' := 21) rfl wm_320 ?_
    exact j_lret hC dX7_table_21 hf
  · replace hf := hf.2 c_
    refine j_iload_n hC 2 dX7_table_9 (pc' := 10) rfl rfl ?_
    refine j_iconst hC (v := 0) dX7_table_10 (pc' := 11) rfl (by decide) ?_
    refine j_iconst hC (v := 2) dX7_table_11 (pc' := 12) rfl (by decide) ?_
    refine jcS_i hC (eX hE) (As := [.int a2, .int (0 : Int32), .int (2 : Int32)]) (lk_X7_within hE a2 (0 : Int32) (2 : Int32) σ2 _ hf) wm_175 wm_176 wm_1 wm_177 dy_X7_within ⟨rfl, rfl⟩ ⟨Nat.le_of_ble_eq_true rfl, Nat.le_of_ble_eq_true rfl⟩ ⟨Nat.le_refl _, Nat.le_refl _⟩ rfl rfl (Nat.le_of_ble_eq_true rfl) dX7_table_12 (pc' := 15) rfl (fun r3 σ4 hf => ?_)
    refine j_if_ne hC (tgt := 22) dX7_table_15 (pc' := 18) rfl (by decide) (fun c_ => ?_) (fun c_ => ?_)
    · replace hf := hf.1 c_
      refine j_aload_n hC 0 dX7_table_22 (pc' := 23) rfl rfl ?_
      refine jcV_v hC (eX hE) (As := []) (obX_X7) (rfl) (lk_X7_sumUsed hE  σ4 _ hf) wm_229 wm_230 wm_884 wm_1 wm_231 dy_X7_sumUsed ⟨rfl, rfl⟩ ⟨Nat.le_of_ble_eq_true rfl, Nat.le_of_ble_eq_true rfl⟩ ⟨Nat.le_refl _, Nat.le_refl _⟩ rfl rfl (Nat.le_of_ble_eq_true rfl) dX7_table_23 (pc' := 26) rfl (fun σ6 hf => ?_)
      refine j_aload_n hC 0 dX7_table_26 (pc' := 27) rfl rfl ?_
      refine gX_sums hC wm_146 dX7_table_27 (pc' := 30) rfl ?_
      refine gX_cells hC wm_53 dX7_table_30 (pc' := 33) rfl ?_
      refine j_iconst hC (v := 3) dX7_table_33 (pc' := 34) rfl (by decide) ?_
      refine j_iload_n hC 1 dX7_table_34 (pc' := 35) rfl rfl ?_
      refine j_imul hC dX7_table_35 (pc' := 36) rfl ?_
      refine j_iload_n hC 2 dX7_table_36 (pc' := 37) rfl rfl ?_
      refine j_iadd hC dX7_table_37 (pc' := 38) rfl ?_
      obtain ⟨h7, hf⟩ := hf
      refine lX_cells hC (j := (Int32.toNatClampNeg (((3 : Int32) * a1) + a2))) h7 rfl dX7_table_38 (pc' := 39) rfl ?_
      exact j_lret hC dX7_table_39 hf
    · replace hf := hf.2 c_
      refine j_ldc2 hC (v := -9223372036854775806) dX7_table_18 (pc' := 21) rfl wm_320 ?_
      exact j_lret hC dX7_table_21 hf
def f_X7_rank (σ : St) (Q : Int32 → St → Prop) : Prop := f_X7_sumUsed σ (fun σ2 => f_X6_rankOfAll σ2 (fun r3 σ4 => Q r3 σ4))
theorem dy_X7_rank : yX7_rank.cls = yX7_rank.cls ∧ yX7_rank.cls ≠ "java/lang/invoke/MethodHandle" ∧ yX7_rank.cls ≠ "java/lang/invoke/VarHandle" ∧ (parseMethodDescriptor yX7_rank.desc).map (fun d => d.parameters.length) = some 0 := by decide +kernel
set_option maxHeartbeats 4000000 in
set_option maxRecDepth 100000 in
theorem lk_X7_rank {l : Launch} {D : va_G} {q : Nat → Nat} {ca : Nat → ClassId} {t : Nat} (hE : qok 28 q) (σ : St) (Q : Int32 → St → Prop) (hf : f_X7_rank σ Q) : Mi l yX7_rank cX7_rank 1 (some .int) { frames := 5, cells := 0, slots := 0, locals := 108 } D (tysX ca) (ZX q t) (wX q ca) (AX q) [.ref (q 0)] σ Q := by
  refine j_start (own := RX7) (lv := [(0, .ref (q 0))]) [.ref (q 0)] (by decide +kernel) rfl (wX_D hE σ) (Nat.le_of_ble_eq_true rfl) rfl (fun p e s m args below meth c hC => ?_)
  unfold f_X7_rank at hf
  refine j_aload_n hC 0 dX7_rank_0 (pc' := 1) rfl rfl ?_
  refine jcV_v hC (eX hE) (As := []) (obX_X7) (rfl) (lk_X7_sumUsed hE  σ _ hf) wm_229 wm_230 wm_884 wm_1 wm_231 dy_X7_sumUsed ⟨rfl, rfl⟩ ⟨Nat.le_of_ble_eq_true rfl, Nat.le_of_ble_eq_true rfl⟩ ⟨Nat.le_refl _, Nat.le_refl _⟩ rfl rfl (Nat.le_of_ble_eq_true rfl) dX7_rank_1 (pc' := 4) rfl (fun σ2 hf => ?_)
  refine j_aload_n hC 0 dX7_rank_4 (pc' := 5) rfl rfl ?_
  refine gX_sums hC wm_146 dX7_rank_5 (pc' := 8) rfl ?_
  refine jcV_i hC (eX hE) (As := []) (obX_X6) (rfl) (lk_X6_rankOfAll hE  σ2 _ hf) wm_266 wm_267 wm_268 wm_3 wm_269 dy_X6_rankOfAll ⟨rfl, rfl⟩ ⟨Nat.le_of_ble_eq_true rfl, Nat.le_of_ble_eq_true rfl⟩ ⟨Nat.le_refl _, Nat.le_refl _⟩ rfl rfl (Nat.le_of_ble_eq_true rfl) dX7_rank_8 (pc' := 11) rfl (fun r3 σ4 hf => ?_)
  exact j_iret hC dX7_rank_11 hf
def f_X7_told (a1 : Int32) (σ : St) (Q : Int32 → St → Prop) : Prop := f_X7_within a1 (0 : Int32) (2 : Int32) σ (fun r1 σ2 => ((¬ r1 = 0) → f_X7_sumUsed σ2 (fun σ4 => f_X6_tells a1 σ4 (fun r5 σ6 => (r5 = 0 → Q (0 : Int32) σ6) ∧ ((¬ r5 = 0) → Q (1 : Int32) σ6)))) ∧ (r1 = 0 → Q (-2 : Int32) σ2))
theorem dy_X7_told : yX7_told.cls = yX7_told.cls ∧ yX7_told.cls ≠ "java/lang/invoke/MethodHandle" ∧ yX7_told.cls ≠ "java/lang/invoke/VarHandle" ∧ (parseMethodDescriptor yX7_told.desc).map (fun d => d.parameters.length) = some 1 := by decide +kernel
set_option maxHeartbeats 4000000 in
set_option maxRecDepth 100000 in
theorem lk_X7_told {l : Launch} {D : va_G} {q : Nat → Nat} {ca : Nat → ClassId} {t : Nat} (hE : qok 28 q) (a1 : Int32) (σ : St) (Q : Int32 → St → Prop) (hf : f_X7_told a1 σ Q) : Mi l yX7_told cX7_told 2 (some .int) { frames := 5, cells := 0, slots := 0, locals := 108 } D (tysX ca) (ZX q t) (wX q ca) (AX q) [.ref (q 0), .int a1] σ Q := by
  refine j_start (own := RX7) (lv := [(0, .ref (q 0)), (1, .int a1)]) [.ref (q 0), .int a1] (by decide +kernel) rfl (wX_D hE σ) (Nat.le_of_ble_eq_true rfl) rfl (fun p e s m args below meth c hC => ?_)
  unfold f_X7_told at hf
  refine j_iload_n hC 1 dX7_told_0 (pc' := 1) rfl rfl ?_
  refine j_iconst hC (v := 0) dX7_told_1 (pc' := 2) rfl (by decide) ?_
  refine j_iconst hC (v := 2) dX7_told_2 (pc' := 3) rfl (by decide) ?_
  refine jcS_i hC (eX hE) (As := [.int a1, .int (0 : Int32), .int (2 : Int32)]) (lk_X7_within hE a1 (0 : Int32) (2 : Int32) σ _ hf) wm_175 wm_176 wm_1 wm_177 dy_X7_within ⟨rfl, rfl⟩ ⟨Nat.le_of_ble_eq_true rfl, Nat.le_of_ble_eq_true rfl⟩ ⟨Nat.le_refl _, Nat.le_refl _⟩ rfl rfl (Nat.le_of_ble_eq_true rfl) dX7_told_3 (pc' := 6) rfl (fun r1 σ2 hf => ?_)
  refine j_if_ne hC (tgt := 12) dX7_told_6 (pc' := 9) rfl (by decide) (fun c_ => ?_) (fun c_ => ?_)
  · replace hf := hf.1 c_
    refine j_aload_n hC 0 dX7_told_12 (pc' := 13) rfl rfl ?_
    refine jcV_v hC (eX hE) (As := []) (obX_X7) (rfl) (lk_X7_sumUsed hE  σ2 _ hf) wm_229 wm_230 wm_884 wm_1 wm_231 dy_X7_sumUsed ⟨rfl, rfl⟩ ⟨Nat.le_of_ble_eq_true rfl, Nat.le_of_ble_eq_true rfl⟩ ⟨Nat.le_refl _, Nat.le_refl _⟩ rfl rfl (Nat.le_of_ble_eq_true rfl) dX7_told_13 (pc' := 16) rfl (fun σ4 hf => ?_)
    refine j_aload_n hC 0 dX7_told_16 (pc' := 17) rfl rfl ?_
    refine gX_sums hC wm_146 dX7_told_17 (pc' := 20) rfl ?_
    refine j_iload_n hC 1 dX7_told_20 (pc' := 21) rfl rfl ?_
    refine jcV_i hC (eX hE) (As := [.int a1]) (obX_X6) (rfl) (lk_X6_tells hE a1 σ4 _ hf) wm_329 wm_330 wm_331 wm_3 wm_332 dy_X6_tells ⟨rfl, rfl⟩ ⟨Nat.le_of_ble_eq_true rfl, Nat.le_of_ble_eq_true rfl⟩ ⟨Nat.le_refl _, Nat.le_refl _⟩ rfl rfl (Nat.le_of_ble_eq_true rfl) dX7_told_21 (pc' := 24) rfl (fun r5 σ6 hf => ?_)
    refine j_if_eq hC (tgt := 31) dX7_told_24 (pc' := 27) rfl (by decide) (fun c_ => ?_) (fun c_ => ?_)
    · replace hf := hf.1 c_
      refine j_iconst hC (v := 0) dX7_told_31 (pc' := 32) rfl (by decide) ?_
      exact j_iret hC dX7_told_32 hf
    · replace hf := hf.2 c_
      refine j_iconst hC (v := 1) dX7_told_27 (pc' := 28) rfl (by decide) ?_
      refine j_goto hC (tgt := 32) dX7_told_28 (by decide) ?_
      exact j_iret hC dX7_told_32 hf
  · replace hf := hf.2 c_
    refine j_bipush hC (v := -2) dX7_told_9 (pc' := 11) rfl (by decide) ?_
    exact j_iret hC dX7_told_11 hf
def f_X7_fit (a1 : Int32) (σ : St) (Q : Int64 → St → Prop) : Prop := f_X7_within a1 (0 : Int32) (2 : Int32) σ (fun r1 σ2 => ((¬ r1 = 0) → f_X7_sumUsed σ2 (fun σ4 => f_X6_rankOfAll σ4 (fun r5 σ6 => ((3 : Int32) ≤ r5 → f_X6_fitted a1 σ6 (fun r7 σ8 => Q r7 σ8)) ∧ ((¬ (3 : Int32) ≤ r5) → Q (-9223372036854775805 : Int64) σ6)))) ∧ (r1 = 0 → Q (-9223372036854775806 : Int64) σ2))
theorem dy_X7_fit : yX7_fit.cls = yX7_fit.cls ∧ yX7_fit.cls ≠ "java/lang/invoke/MethodHandle" ∧ yX7_fit.cls ≠ "java/lang/invoke/VarHandle" ∧ (parseMethodDescriptor yX7_fit.desc).map (fun d => d.parameters.length) = some 1 := by decide +kernel
set_option maxHeartbeats 4000000 in
set_option maxRecDepth 100000 in
theorem lk_X7_fit {l : Launch} {D : va_G} {q : Nat → Nat} {ca : Nat → ClassId} {t : Nat} (hE : qok 28 q) (a1 : Int32) (σ : St) (Q : Int64 → St → Prop) (hf : f_X7_fit a1 σ Q) : Ml l yX7_fit cX7_fit 2 (some .long) { frames := 5, cells := 0, slots := 0, locals := 108 } D (tysX ca) (ZX q t) (wX q ca) (AX q) [.ref (q 0), .int a1] σ Q := by
  refine j_start (own := RX7) (lv := [(0, .ref (q 0)), (1, .int a1)]) [.ref (q 0), .int a1] (by decide +kernel) rfl (wX_D hE σ) (Nat.le_of_ble_eq_true rfl) rfl (fun p e s m args below meth c hC => ?_)
  unfold f_X7_fit at hf
  refine j_iload_n hC 1 dX7_fit_0 (pc' := 1) rfl rfl ?_
  refine j_iconst hC (v := 0) dX7_fit_1 (pc' := 2) rfl (by decide) ?_
  refine j_iconst hC (v := 2) dX7_fit_2 (pc' := 3) rfl (by decide) ?_
  refine jcS_i hC (eX hE) (As := [.int a1, .int (0 : Int32), .int (2 : Int32)]) (lk_X7_within hE a1 (0 : Int32) (2 : Int32) σ _ hf) wm_175 wm_176 wm_1 wm_177 dy_X7_within ⟨rfl, rfl⟩ ⟨Nat.le_of_ble_eq_true rfl, Nat.le_of_ble_eq_true rfl⟩ ⟨Nat.le_refl _, Nat.le_refl _⟩ rfl rfl (Nat.le_of_ble_eq_true rfl) dX7_fit_3 (pc' := 6) rfl (fun r1 σ2 hf => ?_)
  refine j_if_ne hC (tgt := 13) dX7_fit_6 (pc' := 9) rfl (by decide) (fun c_ => ?_) (fun c_ => ?_)
  · replace hf := hf.1 c_
    refine j_aload_n hC 0 dX7_fit_13 (pc' := 14) rfl rfl ?_
    refine jcV_v hC (eX hE) (As := []) (obX_X7) (rfl) (lk_X7_sumUsed hE  σ2 _ hf) wm_229 wm_230 wm_884 wm_1 wm_231 dy_X7_sumUsed ⟨rfl, rfl⟩ ⟨Nat.le_of_ble_eq_true rfl, Nat.le_of_ble_eq_true rfl⟩ ⟨Nat.le_refl _, Nat.le_refl _⟩ rfl rfl (Nat.le_of_ble_eq_true rfl) dX7_fit_14 (pc' := 17) rfl (fun σ4 hf => ?_)
    refine j_aload_n hC 0 dX7_fit_17 (pc' := 18) rfl rfl ?_
    refine gX_sums hC wm_146 dX7_fit_18 (pc' := 21) rfl ?_
    refine jcV_i hC (eX hE) (As := []) (obX_X6) (rfl) (lk_X6_rankOfAll hE  σ4 _ hf) wm_266 wm_267 wm_268 wm_3 wm_269 dy_X6_rankOfAll ⟨rfl, rfl⟩ ⟨Nat.le_of_ble_eq_true rfl, Nat.le_of_ble_eq_true rfl⟩ ⟨Nat.le_refl _, Nat.le_refl _⟩ rfl rfl (Nat.le_of_ble_eq_true rfl) dX7_fit_21 (pc' := 24) rfl (fun r5 σ6 hf => ?_)
    refine j_iconst hC (v := 3) dX7_fit_24 (pc' := 25) rfl (by decide) ?_
    refine j_icmp_ge hC (tgt := 32) dX7_fit_25 (pc' := 28) rfl (by decide) (fun c_ => ?_) (fun c_ => ?_)
    · replace hf := hf.1 c_
      refine j_aload_n hC 0 dX7_fit_32 (pc' := 33) rfl rfl ?_
      refine gX_sums hC wm_146 dX7_fit_33 (pc' := 36) rfl ?_
      refine j_iload_n hC 1 dX7_fit_36 (pc' := 37) rfl rfl ?_
      refine jcV_l hC (eX hE) (As := [.int a1]) (obX_X6) (rfl) (lk_X6_fitted hE a1 σ6 _ hf) wm_283 wm_284 wm_285 wm_3 wm_286 dy_X6_fitted ⟨rfl, rfl⟩ ⟨Nat.le_of_ble_eq_true rfl, Nat.le_of_ble_eq_true rfl⟩ ⟨Nat.le_refl _, Nat.le_refl _⟩ rfl rfl (Nat.le_of_ble_eq_true rfl) dX7_fit_37 (pc' := 40) rfl (fun r7 σ8 hf => ?_)
      exact j_lret hC dX7_fit_40 hf
    · replace hf := hf.2 c_
      refine j_ldc2 hC (v := -9223372036854775805) dX7_fit_28 (pc' := 31) rfl wm_338 ?_
      exact j_lret hC dX7_fit_31 hf
  · replace hf := hf.2 c_
    refine j_ldc2 hC (v := -9223372036854775806) dX7_fit_9 (pc' := 12) rfl wm_320 ?_
    exact j_lret hC dX7_fit_12 hf
def f_X7_missOf (a1 : Int32) (σ : St) (Q : Int32 → St → Prop) : Prop := f_X0_reached a1 (0 : Int32) σ (fun r1 σ2 => f_X7_measured a1 (0 : Int32) σ2 (fun r3 σ4 => f_J9_abs_0f7a4 (r1 - ((65 : Int32) * r3)) σ4 (fun r5 σ6 => f_X0_reached a1 (1 : Int32) σ6 (fun r7 σ8 => f_X7_measured a1 (1 : Int32) σ8 (fun r9 σ10 => f_J9_abs_0f7a4 (r7 - ((65 : Int32) * r9)) σ10 (fun r11 σ12 => f_J9_max_7cf53 r5 r11 σ12 (fun r13 σ14 => Q r13 σ14)))))))
theorem dy_X7_missOf : yX7_missOf.cls = yX7_missOf.cls ∧ yX7_missOf.cls ≠ "java/lang/invoke/MethodHandle" ∧ yX7_missOf.cls ≠ "java/lang/invoke/VarHandle" ∧ (parseMethodDescriptor yX7_missOf.desc).map (fun d => d.parameters.length) = some 1 := by decide +kernel
set_option maxHeartbeats 4000000 in
set_option maxRecDepth 100000 in
theorem lk_X7_missOf {l : Launch} {D : va_G} {q : Nat → Nat} {ca : Nat → ClassId} {t : Nat} (hE : qok 28 q) (a1 : Int32) (σ : St) (Q : Int32 → St → Prop) (hf : f_X7_missOf a1 σ Q) : Mi l yX7_missOf cX7_missOf 4 (some .int) { frames := 3, cells := 0, slots := 0, locals := 65 } D (tysX ca) (ZX q t) (wX q ca) (AX q) [.ref (q 0), .int a1] σ Q := by
  refine j_start (own := RX7) (lv := [(0, .ref (q 0)), (1, .int a1)]) [.ref (q 0), .int a1] (by decide +kernel) rfl (wX_D hE σ) (Nat.le_of_ble_eq_true rfl) rfl (fun p e s m args below meth c hC => ?_)
  unfold f_X7_missOf at hf
  refine j_aload_n hC 0 dX7_missOf_0 (pc' := 1) rfl rfl ?_
  refine gX_arm hC wm_143 dX7_missOf_1 (pc' := 4) rfl ?_
  refine j_iload_n hC 1 dX7_missOf_4 (pc' := 5) rfl rfl ?_
  refine j_iconst hC (v := 0) dX7_missOf_5 (pc' := 6) rfl (by decide) ?_
  refine jcV_i hC (eX hE) (As := [.int a1, .int (0 : Int32)]) (obX_X0) (rfl) (lk_X0_reached hE a1 (0 : Int32) σ _ hf) wm_220 wm_221 wm_222 wm_2 wm_223 dy_X0_reached ⟨rfl, rfl⟩ ⟨Nat.le_of_ble_eq_true rfl, Nat.le_of_ble_eq_true rfl⟩ ⟨Nat.le_refl _, Nat.le_refl _⟩ rfl rfl (Nat.le_of_ble_eq_true rfl) dX7_missOf_6 (pc' := 9) rfl (fun r1 σ2 hf => ?_)
  refine j_bipush hC (v := 65) dX7_missOf_9 (pc' := 11) rfl (by decide) ?_
  refine j_aload_n hC 0 dX7_missOf_11 (pc' := 12) rfl rfl ?_
  refine j_iload_n hC 1 dX7_missOf_12 (pc' := 13) rfl rfl ?_
  refine j_iconst hC (v := 0) dX7_missOf_13 (pc' := 14) rfl (by decide) ?_
  refine jcV_i hC (eX hE) (As := [.int a1, .int (0 : Int32)]) (obX_X7) (rfl) (lk_X7_measured hE a1 (0 : Int32) σ2 _ hf) wm_257 wm_258 wm_887 wm_1 wm_259 dy_X7_measured ⟨rfl, rfl⟩ ⟨Nat.le_of_ble_eq_true rfl, Nat.le_of_ble_eq_true rfl⟩ ⟨Nat.le_refl _, Nat.le_refl _⟩ rfl rfl (Nat.le_of_ble_eq_true rfl) dX7_missOf_14 (pc' := 17) rfl (fun r3 σ4 hf => ?_)
  refine j_imul hC dX7_missOf_17 (pc' := 18) rfl ?_
  refine j_isub hC dX7_missOf_18 (pc' := 19) rfl ?_
  refine jcS_i hC (eX hE) (As := [.int (r1 - ((65 : Int32) * r3))]) (lk_J9_abs_0f7a4 hE (r1 - ((65 : Int32) * r3)) σ4 _ hf) wm_346 wm_347 wm_11 wm_348 dy_J9_abs_0f7a4 ⟨rfl, rfl⟩ ⟨Nat.le_of_ble_eq_true rfl, Nat.le_of_ble_eq_true rfl⟩ ⟨Nat.le_refl _, Nat.le_refl _⟩ rfl rfl (Nat.le_of_ble_eq_true rfl) dX7_missOf_19 (pc' := 22) rfl (fun r5 σ6 hf => ?_)
  refine j_istore_n hC (lv' := [(2, .int r5), (0, .ref (q 0)), (1, .int a1)]) dX7_missOf_22 (pc' := 23) rfl rfl (by decide) rfl ?_
  refine j_aload_n hC 1 dX7_missOf_23 (pc' := 24) rfl rfl ?_
  refine gX_arm hC wm_143 dX7_missOf_24 (pc' := 27) rfl ?_
  refine j_iload_n hC 2 dX7_missOf_27 (pc' := 28) rfl rfl ?_
  refine j_iconst hC (v := 1) dX7_missOf_28 (pc' := 29) rfl (by decide) ?_
  refine jcV_i hC (eX hE) (As := [.int a1, .int (1 : Int32)]) (obX_X0) (rfl) (lk_X0_reached hE a1 (1 : Int32) σ6 _ hf) wm_220 wm_221 wm_222 wm_2 wm_223 dy_X0_reached ⟨rfl, rfl⟩ ⟨Nat.le_of_ble_eq_true rfl, Nat.le_of_ble_eq_true rfl⟩ ⟨Nat.le_refl _, Nat.le_refl _⟩ rfl rfl (Nat.le_of_ble_eq_true rfl) dX7_missOf_29 (pc' := 32) rfl (fun r7 σ8 hf => ?_)
  refine j_bipush hC (v := 65) dX7_missOf_32 (pc' := 34) rfl (by decide) ?_
  refine j_aload_n hC 1 dX7_missOf_34 (pc' := 35) rfl rfl ?_
  refine j_iload_n hC 2 dX7_missOf_35 (pc' := 36) rfl rfl ?_
  refine j_iconst hC (v := 1) dX7_missOf_36 (pc' := 37) rfl (by decide) ?_
  refine jcV_i hC (eX hE) (As := [.int a1, .int (1 : Int32)]) (obX_X7) (rfl) (lk_X7_measured hE a1 (1 : Int32) σ8 _ hf) wm_257 wm_258 wm_887 wm_1 wm_259 dy_X7_measured ⟨rfl, rfl⟩ ⟨Nat.le_of_ble_eq_true rfl, Nat.le_of_ble_eq_true rfl⟩ ⟨Nat.le_refl _, Nat.le_refl _⟩ rfl rfl (Nat.le_of_ble_eq_true rfl) dX7_missOf_37 (pc' := 40) rfl (fun r9 σ10 hf => ?_)
  refine j_imul hC dX7_missOf_40 (pc' := 41) rfl ?_
  refine j_isub hC dX7_missOf_41 (pc' := 42) rfl ?_
  refine jcS_i hC (eX hE) (As := [.int (r7 - ((65 : Int32) * r9))]) (lk_J9_abs_0f7a4 hE (r7 - ((65 : Int32) * r9)) σ10 _ hf) wm_346 wm_347 wm_11 wm_348 dy_J9_abs_0f7a4 ⟨rfl, rfl⟩ ⟨Nat.le_of_ble_eq_true rfl, Nat.le_of_ble_eq_true rfl⟩ ⟨Nat.le_refl _, Nat.le_refl _⟩ rfl rfl (Nat.le_of_ble_eq_true rfl) dX7_missOf_42 (pc' := 45) rfl (fun r11 σ12 hf => ?_)
  refine j_istore_n hC (lv' := [(3, .int r11), (2, .int r5), (0, .ref (q 0)), (1, .int a1)]) dX7_missOf_45 (pc' := 46) rfl rfl (by decide) rfl ?_
  refine j_iload_n hC 1 dX7_missOf_46 (pc' := 47) rfl rfl ?_
  refine j_iload_n hC 0 dX7_missOf_47 (pc' := 48) rfl rfl ?_
  refine jcS_i hC (eX hE) (As := [.int r5, .int r11]) (lk_J9_max_7cf53 hE r5 r11 σ12 _ hf) wm_349 wm_281 wm_11 wm_282 dy_J9_max_7cf53 ⟨rfl, rfl⟩ ⟨Nat.le_of_ble_eq_true rfl, Nat.le_of_ble_eq_true rfl⟩ ⟨Nat.le_refl _, Nat.le_refl _⟩ rfl rfl (Nat.le_of_ble_eq_true rfl) dX7_missOf_48 (pc' := 51) rfl (fun r13 σ14 hf => ?_)
  exact j_iret hC dX7_missOf_51 hf
def f_X7_miss (a1 : Int32) (σ : St) (Q : Int32 → St → Prop) : Prop := f_X7_isPosture a1 σ (fun r1 σ2 => ((¬ r1 = 0) → f_X7_isMeasured a1 σ2 (fun r3 σ4 => (r3 = 0 → Q (-3 : Int32) σ4) ∧ ((¬ r3 = 0) → f_X7_missOf a1 σ4 (fun r5 σ6 => Q r5 σ6)))) ∧ (r1 = 0 → Q (-2 : Int32) σ2))
theorem dy_X7_miss : yX7_miss.cls = yX7_miss.cls ∧ yX7_miss.cls ≠ "java/lang/invoke/MethodHandle" ∧ yX7_miss.cls ≠ "java/lang/invoke/VarHandle" ∧ (parseMethodDescriptor yX7_miss.desc).map (fun d => d.parameters.length) = some 1 := by decide +kernel
set_option maxHeartbeats 4000000 in
set_option maxRecDepth 100000 in
theorem lk_X7_miss {l : Launch} {D : va_G} {q : Nat → Nat} {ca : Nat → ClassId} {t : Nat} (hE : qok 28 q) (a1 : Int32) (σ : St) (Q : Int32 → St → Prop) (hf : f_X7_miss a1 σ Q) : Mi l yX7_miss cX7_miss 2 (some .int) { frames := 4, cells := 0, slots := 0, locals := 88 } D (tysX ca) (ZX q t) (wX q ca) (AX q) [.ref (q 0), .int a1] σ Q := by
  refine j_start (own := RX7) (lv := [(0, .ref (q 0)), (1, .int a1)]) [.ref (q 0), .int a1] (by decide +kernel) rfl (wX_D hE σ) (Nat.le_of_ble_eq_true rfl) rfl (fun p e s m args below meth c hC => ?_)
  unfold f_X7_miss at hf
  refine j_aload_n hC 0 dX7_miss_0 (pc' := 1) rfl rfl ?_
  refine j_iload_n hC 1 dX7_miss_1 (pc' := 2) rfl rfl ?_
  refine jcV_i hC (eX hE) (As := [.int a1]) (obX_X7) (rfl) (lk_X7_isPosture hE a1 σ _ hf) wm_216 wm_217 wm_883 wm_1 wm_218 dy_X7_isPosture ⟨rfl, rfl⟩ ⟨Nat.le_of_ble_eq_true rfl, Nat.le_of_ble_eq_true rfl⟩ ⟨Nat.le_refl _, Nat.le_refl _⟩ rfl rfl (Nat.le_of_ble_eq_true rfl) dX7_miss_2 (pc' := 5) rfl (fun r1 σ2 hf => ?_)
  refine j_if_ne hC (tgt := 11) dX7_miss_5 (pc' := 8) rfl (by decide) (fun c_ => ?_) (fun c_ => ?_)
  · replace hf := hf.1 c_
    refine j_aload_n hC 0 dX7_miss_11 (pc' := 12) rfl rfl ?_
    refine j_iload_n hC 1 dX7_miss_12 (pc' := 13) rfl rfl ?_
    refine jcV_i hC (eX hE) (As := [.int a1]) (obX_X7) (rfl) (lk_X7_isMeasured hE a1 σ2 _ hf) wm_235 wm_236 wm_886 wm_1 wm_237 dy_X7_isMeasured ⟨rfl, rfl⟩ ⟨Nat.le_of_ble_eq_true rfl, Nat.le_of_ble_eq_true rfl⟩ ⟨Nat.le_refl _, Nat.le_refl _⟩ rfl rfl (Nat.le_of_ble_eq_true rfl) dX7_miss_13 (pc' := 16) rfl (fun r3 σ4 hf => ?_)
    refine j_if_eq hC (tgt := 27) dX7_miss_16 (pc' := 19) rfl (by decide) (fun c_ => ?_) (fun c_ => ?_)
    · replace hf := hf.1 c_
      refine j_bipush hC (v := -3) dX7_miss_27 (pc' := 29) rfl (by decide) ?_
      exact j_iret hC dX7_miss_29 hf
    · replace hf := hf.2 c_
      refine j_aload_n hC 0 dX7_miss_19 (pc' := 20) rfl rfl ?_
      refine j_iload_n hC 1 dX7_miss_20 (pc' := 21) rfl rfl ?_
      refine jcV_i hC (eX hE) (As := [.int a1]) (obX_X7) (rfl) (lk_X7_missOf hE a1 σ4 _ hf) wm_343 wm_344 wm_890 wm_1 wm_345 dy_X7_missOf ⟨rfl, rfl⟩ ⟨Nat.le_of_ble_eq_true rfl, Nat.le_of_ble_eq_true rfl⟩ ⟨Nat.le_refl _, Nat.le_refl _⟩ rfl rfl (Nat.le_of_ble_eq_true rfl) dX7_miss_21 (pc' := 24) rfl (fun r5 σ6 hf => ?_)
      refine j_goto hC (tgt := 29) dX7_miss_24 (by decide) ?_
      exact j_iret hC dX7_miss_29 hf
  · replace hf := hf.2 c_
    refine j_bipush hC (v := -2) dX7_miss_8 (pc' := 10) rfl (by decide) ?_
    exact j_iret hC dX7_miss_10 hf
def f_X7_worst_b12 (Q : Int32 → St → Prop) : Nat → Int32 → Int32 → Int32 → Int32 → St → Prop
  | 0, _, _, _, _, _ => False
  | n + 1, a1, a2, a3, a4, σ => (a1 ≤ a4 → Q a2 σ) ∧ ((¬ a1 ≤ a4) → vp_in a4 12 ∧ f_X7_missOf (σ.1 5 (Int32.toNatClampNeg a4)) σ (fun r4 σ5 => (r4 ≤ a3 → ∀ x6 : Int32, x6 = a4 + (1 : Int32) → f_X7_worst_b12 Q  n a1 a2 a3 x6 σ5) ∧ ((¬ r4 ≤ a3) → vp_in a4 12 ∧ ∀ x8 : Int32, x8 = σ5.1 5 (Int32.toNatClampNeg a4) → ∀ x9 : Int32, x9 = a4 + (1 : Int32) → f_X7_worst_b12 Q  n a1 x8 r4 x9 σ5)))
def f_X7_worst (σ : St) (Q : Int32 → St → Prop) : Prop := f_X7_listUsed σ (fun r1 σ2 => ∃ n10 : Nat, f_X7_worst_b12 Q n10 r1 (-1 : Int32) (-1 : Int32) (0 : Int32) σ2)
theorem dy_X7_worst : yX7_worst.cls = yX7_worst.cls ∧ yX7_worst.cls ≠ "java/lang/invoke/MethodHandle" ∧ yX7_worst.cls ≠ "java/lang/invoke/VarHandle" ∧ (parseMethodDescriptor yX7_worst.desc).map (fun d => d.parameters.length) = some 0 := by decide +kernel
set_option maxHeartbeats 4000000 in
set_option maxRecDepth 100000 in
theorem lb_X7_worst_b12 {l : Launch} {D : va_G} {q : Nat → Nat} {ca : Nat → ClassId} {t : Nat} {p : Program} {e : Env} {s : State} {m : MethodId} {args : Array Value} {below : List Frame} {meth : Method} {c : Code} (hE : qok 28 q) (hC : Cx p s m args meth c cX7_worst 6 RX7 (some .int) D (tysX ca) (ZX q t)) (Q : Int32 → St → Prop) : ∀ (n : Nat) (a1 : Int32) (a2 : Int32) (a3 : Int32) (a4 : Int32) (σ : St), f_X7_worst_b12 Q n a1 a2 a3 a4 σ → J p l e { frames := 4, cells := 0, slots := 0, locals := 88 } s m args below meth c (MQ below (va_Qi Q (BW D (wX q ca)) (AX q)) args s 0 0 (AX q)) D (AX q) 6 0 0 (wX q ca σ) 12 [(0, .ref (q 0)), (1, .int a1), (2, .int a2), (3, .int a3), (4, .int a4)] [] := by
  intro n
  induction n with
  | zero => intro a1 a2 a3 a4 σ hf; exact hf.elim
  | succ n ih =>
    intro a1 a2 a3 a4 σ hf
    unfold f_X7_worst_b12 at hf
    refine j_iload hC 4 dX7_worst_12 (pc' := 14) rfl rfl ?_
    refine j_iload_n hC 1 dX7_worst_14 (pc' := 15) rfl rfl ?_
    refine j_icmp_ge hC (tgt := 54) dX7_worst_15 (pc' := 18) rfl (by decide) (fun c_ => ?_) (fun c_ => ?_)
    · replace hf := hf.1 c_
      refine j_iload_n hC 2 dX7_worst_54 (pc' := 55) rfl rfl ?_
      exact j_iret hC dX7_worst_55 hf
    · replace hf := hf.2 c_
      refine j_aload_n hC 0 dX7_worst_18 (pc' := 19) rfl rfl ?_
      refine j_aload_n hC 0 dX7_worst_19 (pc' := 20) rfl rfl ?_
      refine gX_usedOnes hC wm_145 dX7_worst_20 (pc' := 23) rfl ?_
      refine j_iload hC 4 dX7_worst_23 (pc' := 25) rfl rfl ?_
      obtain ⟨h3, hf⟩ := hf
      refine lX_usedOnes hC (j := (Int32.toNatClampNeg a4)) h3 rfl dX7_worst_25 (pc' := 26) rfl ?_
      refine jcV_i hC (eX hE) (As := [.int (σ.1 5 (Int32.toNatClampNeg a4))]) (obX_X7) (rfl) (lk_X7_missOf hE (σ.1 5 (Int32.toNatClampNeg a4)) σ _ hf) wm_343 wm_344 wm_890 wm_1 wm_345 dy_X7_missOf ⟨rfl, rfl⟩ ⟨Nat.le_of_ble_eq_true rfl, Nat.le_of_ble_eq_true rfl⟩ ⟨Nat.le_refl _, Nat.le_refl _⟩ rfl rfl (Nat.le_of_ble_eq_true rfl) dX7_worst_26 (pc' := 29) rfl (fun r4 σ5 hf => ?_)
      refine j_istore hC (lv' := [(5, .int r4), (0, .ref (q 0)), (1, .int a1), (2, .int a2), (3, .int a3), (4, .int a4)]) dX7_worst_29 (pc' := 31) rfl (by decide) rfl ?_
      refine j_iload hC 0 dX7_worst_31 (pc' := 33) rfl rfl ?_
      refine j_iload_n hC 4 dX7_worst_33 (pc' := 34) rfl rfl ?_
      refine j_icmp_le hC (tgt := 48) dX7_worst_34 (pc' := 37) rfl (by decide) (fun c_ => ?_) (fun c_ => ?_)
      · replace hf := hf.1 c_
        obtain ⟨x6, ex6⟩ : ∃ y : Int32, y = a4 + (1 : Int32) := ⟨_, rfl⟩
        replace hf := hf x6 ex6
        refine j_iinc hC (v := x6) (q := 5) (lv' := [(4, .int x6), (5, .int r4), (0, .ref (q 0)), (1, .int a1), (2, .int a2), (3, .int a3)]) dX7_worst_48 (pc' := 51) rfl rfl (by rw [ex6]; rfl) (by decide) rfl ?_
        refine j_goto hC (tgt := 12) dX7_worst_51 (by decide) ?_
        refine j_lv [2, 3, 4, 5, 0] rfl ?_
        exact ih a1 a2 a3 x6 σ5 hf
      · replace hf := hf.2 c_
        refine j_iload hC 0 dX7_worst_37 (pc' := 39) rfl rfl ?_
        refine j_istore_n hC (lv' := [(3, .int r4), (5, .int r4), (0, .ref (q 0)), (1, .int a1), (2, .int a2), (4, .int a4)]) dX7_worst_39 (pc' := 40) rfl rfl (by decide) rfl ?_
        refine j_aload_n hC 2 dX7_worst_40 (pc' := 41) rfl rfl ?_
        refine gX_usedOnes hC wm_145 dX7_worst_41 (pc' := 44) rfl ?_
        refine j_iload hC 5 dX7_worst_44 (pc' := 46) rfl rfl ?_
        obtain ⟨h7, hf⟩ := hf
        refine lX_usedOnes hC (j := (Int32.toNatClampNeg a4)) h7 rfl dX7_worst_46 (pc' := 47) rfl ?_
        refine j_nmi (fun x8 ex8 => ?_)
        replace hf := hf x8 ex8
        refine j_istore_n hC (lv' := [(2, .int x8), (3, .int r4), (5, .int r4), (0, .ref (q 0)), (1, .int a1), (4, .int a4)]) dX7_worst_47 (pc' := 48) rfl rfl (by decide) rfl ?_
        obtain ⟨x9, ex9⟩ : ∃ y : Int32, y = a4 + (1 : Int32) := ⟨_, rfl⟩
        replace hf := hf x9 ex9
        refine j_iinc hC (v := x9) (q := 5) (lv' := [(4, .int x9), (2, .int x8), (3, .int r4), (5, .int r4), (0, .ref (q 0)), (1, .int a1)]) dX7_worst_48 (pc' := 51) rfl rfl (by rw [ex9]; rfl) (by decide) rfl ?_
        refine j_goto hC (tgt := 12) dX7_worst_51 (by decide) ?_
        refine j_lv [4, 5, 1, 2, 0] rfl ?_
        exact ih a1 x8 r4 x9 σ5 hf
set_option maxHeartbeats 4000000 in
set_option maxRecDepth 100000 in
theorem lk_X7_worst {l : Launch} {D : va_G} {q : Nat → Nat} {ca : Nat → ClassId} {t : Nat} (hE : qok 28 q) (σ : St) (Q : Int32 → St → Prop) (hf : f_X7_worst σ Q) : Mi l yX7_worst cX7_worst 6 (some .int) { frames := 4, cells := 0, slots := 0, locals := 88 } D (tysX ca) (ZX q t) (wX q ca) (AX q) [.ref (q 0)] σ Q := by
  refine j_start (own := RX7) (lv := [(0, .ref (q 0))]) [.ref (q 0)] (by decide +kernel) rfl (wX_D hE σ) (Nat.le_of_ble_eq_true rfl) rfl (fun p e s m args below meth c hC => ?_)
  unfold f_X7_worst at hf
  refine j_aload_n hC 0 dX7_worst_0 (pc' := 1) rfl rfl ?_
  refine jcV_i hC (eX hE) (As := []) (obX_X7) (rfl) (lk_X7_listUsed hE  σ _ hf) wm_232 wm_233 wm_885 wm_1 wm_234 dy_X7_listUsed ⟨rfl, rfl⟩ ⟨Nat.le_of_ble_eq_true rfl, Nat.le_of_ble_eq_true rfl⟩ ⟨Nat.le_refl _, Nat.le_refl _⟩ rfl rfl (Nat.le_of_ble_eq_true rfl) dX7_worst_1 (pc' := 4) rfl (fun r1 σ2 hf => ?_)
  refine j_istore_n hC (lv' := [(1, .int r1), (0, .ref (q 0))]) dX7_worst_4 (pc' := 5) rfl rfl (by decide) rfl ?_
  refine j_iconst hC (v := -1) dX7_worst_5 (pc' := 6) rfl (by decide) ?_
  refine j_istore_n hC (lv' := [(2, .int (-1 : Int32)), (1, .int r1), (0, .ref (q 0))]) dX7_worst_6 (pc' := 7) rfl rfl (by decide) rfl ?_
  refine j_iconst hC (v := -1) dX7_worst_7 (pc' := 8) rfl (by decide) ?_
  refine j_istore_n hC (lv' := [(3, .int (-1 : Int32)), (2, .int (-1 : Int32)), (1, .int r1), (0, .ref (q 0))]) dX7_worst_8 (pc' := 9) rfl rfl (by decide) rfl ?_
  refine j_iconst hC (v := 0) dX7_worst_9 (pc' := 10) rfl (by decide) ?_
  refine j_istore hC (lv' := [(4, .int (0 : Int32)), (3, .int (-1 : Int32)), (2, .int (-1 : Int32)), (1, .int r1), (0, .ref (q 0))]) dX7_worst_10 (pc' := 12) rfl (by decide) rfl ?_
  obtain ⟨n10, hf⟩ := hf
  refine j_lv [4, 3, 2, 1, 0] rfl ?_
  exact lb_X7_worst_b12 hE hC Q n10 r1 (-1 : Int32) (-1 : Int32) (0 : Int32) σ2 hf
def f_X7_choosableSets (σ : St) (Q : Int32 → St → Prop) : Prop := f_J9_min_7cf53 (σ.1 3 0) (10 : Int32) σ (fun r1 σ2 => Q ((1 : Int32) <<< (r1 &&& 31)) σ2)
theorem dy_X7_choosableSets : yX7_choosableSets.cls = yX7_choosableSets.cls ∧ yX7_choosableSets.cls ≠ "java/lang/invoke/MethodHandle" ∧ yX7_choosableSets.cls ≠ "java/lang/invoke/VarHandle" ∧ (parseMethodDescriptor yX7_choosableSets.desc).map (fun d => d.parameters.length) = some 0 := by decide +kernel
set_option maxHeartbeats 4000000 in
set_option maxRecDepth 100000 in
theorem lk_X7_choosableSets {l : Launch} {D : va_G} {q : Nat → Nat} {ca : Nat → ClassId} {t : Nat} (hE : qok 28 q) (σ : St) (Q : Int32 → St → Prop) (hf : f_X7_choosableSets σ Q) : Mi l yX7_choosableSets cX7_choosableSets 1 (some .int) { frames := 1, cells := 0, slots := 0, locals := 21 } D (tysX ca) (ZX q t) (wX q ca) (AX q) [.ref (q 0)] σ Q := by
  refine j_start (own := RX7) (lv := [(0, .ref (q 0))]) [.ref (q 0)] (by decide +kernel) rfl (wX_D hE σ) (Nat.le_of_ble_eq_true rfl) rfl (fun p e s m args below meth c hC => ?_)
  unfold f_X7_choosableSets at hf
  refine j_iconst hC (v := 1) dX7_choosableSets_0 (pc' := 1) rfl (by decide) ?_
  refine j_aload_n hC 0 dX7_choosableSets_1 (pc' := 2) rfl rfl ?_
  refine gX_arm hC wm_143 dX7_choosableSets_2 (pc' := 5) rfl ?_
  refine gX_postures hC wm_35 dX7_choosableSets_5 (pc' := 8) rfl ?_
  refine j_bipush hC (v := 10) dX7_choosableSets_8 (pc' := 10) rfl (by decide) ?_
  refine jcS_i hC (eX hE) (As := [.int (σ.1 3 0), .int (10 : Int32)]) (lk_J9_min_7cf53 hE (σ.1 3 0) (10 : Int32) σ _ hf) wm_361 wm_362 wm_11 wm_363 dy_J9_min_7cf53 ⟨rfl, rfl⟩ ⟨Nat.le_of_ble_eq_true rfl, Nat.le_of_ble_eq_true rfl⟩ ⟨Nat.le_refl _, Nat.le_refl _⟩ rfl rfl (Nat.le_of_ble_eq_true rfl) dX7_choosableSets_10 (pc' := 13) rfl (fun r1 σ2 hf => ?_)
  refine j_ishl hC dX7_choosableSets_13 (pc' := 14) rfl ?_
  exact j_iret hC dX7_choosableSets_14 hf
def f_J6_bitCount_0f7a4 (a0 : Int32) (σ : St) (Q : Int32 → St → Prop) : Prop := ∀ x1 : Int32, x1 = a0 - (((Int32.toUInt32 a0 >>> (Int32.toUInt32 (1 : Int32) &&& Int32.toUInt32 31)).toInt32) &&& (1431655765 : Int32)) → ∀ x2 : Int32, x2 = (x1 &&& (858993459 : Int32)) + (((Int32.toUInt32 x1 >>> (Int32.toUInt32 (2 : Int32) &&& Int32.toUInt32 31)).toInt32) &&& (858993459 : Int32)) → ∀ x3 : Int32, x3 = (x2 + ((Int32.toUInt32 x2 >>> (Int32.toUInt32 (4 : Int32) &&& Int32.toUInt32 31)).toInt32)) &&& (252645135 : Int32) → ∀ x4 : Int32, x4 = x3 + ((Int32.toUInt32 x3 >>> (Int32.toUInt32 (8 : Int32) &&& Int32.toUInt32 31)).toInt32) → ∀ x5 : Int32, x5 = x4 + ((Int32.toUInt32 x4 >>> (Int32.toUInt32 (16 : Int32) &&& Int32.toUInt32 31)).toInt32) → Q (x5 &&& (63 : Int32)) σ
theorem dy_J6_bitCount_0f7a4 : yJ6_bitCount_0f7a4.cls ≠ "java/lang/invoke/MethodHandle" ∧ yJ6_bitCount_0f7a4.cls ≠ "java/lang/invoke/VarHandle" ∧ (parseMethodDescriptor yJ6_bitCount_0f7a4.desc).map (fun d => d.parameters.length) = some 1 := by decide +kernel
set_option maxHeartbeats 4000000 in
set_option maxRecDepth 100000 in
theorem lk_J6_bitCount_0f7a4 {l : Launch} {D : va_G} {q : Nat → Nat} {ca : Nat → ClassId} {t : Nat} (hE : qok 28 q) (a0 : Int32) (σ : St) (Q : Int32 → St → Prop) (hf : f_J6_bitCount_0f7a4 a0 σ Q) : Mi l yJ6_bitCount_0f7a4 cJ6_bitCount_0f7a4 1 (some .int) { frames := 0, cells := 0, slots := 0, locals := 0 } D (tysX ca) (ZX q t) (wX q ca) (AX q) [.int a0] σ Q := by
  refine j_start (own := RJ6) (lv := [(0, .int a0)]) [.int a0] (by decide +kernel) rfl (wX_D hE σ) (Nat.le_of_ble_eq_true rfl) rfl (fun p e s m args below meth c hC => ?_)
  unfold f_J6_bitCount_0f7a4 at hf
  refine j_iload_n hC 0 dJ6_bitCount_0f7a4_0 (pc' := 1) rfl rfl ?_
  refine j_iload_n hC 0 dJ6_bitCount_0f7a4_1 (pc' := 2) rfl rfl ?_
  refine j_iconst hC (v := 1) dJ6_bitCount_0f7a4_2 (pc' := 3) rfl (by decide) ?_
  refine j_iushr hC dJ6_bitCount_0f7a4_3 (pc' := 4) rfl ?_
  refine j_ldcw hC (v := 1431655765) dJ6_bitCount_0f7a4_4 (pc' := 7) rfl wm_367 ?_
  refine j_iand hC dJ6_bitCount_0f7a4_7 (pc' := 8) rfl ?_
  refine j_isub hC dJ6_bitCount_0f7a4_8 (pc' := 9) rfl ?_
  refine j_nmi (fun x1 ex1 => ?_)
  replace hf := hf x1 ex1
  refine j_istore_n hC (lv' := [(0, .int x1)]) dJ6_bitCount_0f7a4_9 (pc' := 10) rfl rfl (by decide) rfl ?_
  refine j_iload_n hC 0 dJ6_bitCount_0f7a4_10 (pc' := 11) rfl rfl ?_
  refine j_ldcw hC (v := 858993459) dJ6_bitCount_0f7a4_11 (pc' := 14) rfl wm_368 ?_
  refine j_iand hC dJ6_bitCount_0f7a4_14 (pc' := 15) rfl ?_
  refine j_iload_n hC 0 dJ6_bitCount_0f7a4_15 (pc' := 16) rfl rfl ?_
  refine j_iconst hC (v := 2) dJ6_bitCount_0f7a4_16 (pc' := 17) rfl (by decide) ?_
  refine j_iushr hC dJ6_bitCount_0f7a4_17 (pc' := 18) rfl ?_
  refine j_ldcw hC (v := 858993459) dJ6_bitCount_0f7a4_18 (pc' := 21) rfl wm_368 ?_
  refine j_iand hC dJ6_bitCount_0f7a4_21 (pc' := 22) rfl ?_
  refine j_iadd hC dJ6_bitCount_0f7a4_22 (pc' := 23) rfl ?_
  refine j_nmi (fun x2 ex2 => ?_)
  replace hf := hf x2 ex2
  refine j_istore_n hC (lv' := [(0, .int x2)]) dJ6_bitCount_0f7a4_23 (pc' := 24) rfl rfl (by decide) rfl ?_
  refine j_iload_n hC 0 dJ6_bitCount_0f7a4_24 (pc' := 25) rfl rfl ?_
  refine j_iload_n hC 0 dJ6_bitCount_0f7a4_25 (pc' := 26) rfl rfl ?_
  refine j_iconst hC (v := 4) dJ6_bitCount_0f7a4_26 (pc' := 27) rfl (by decide) ?_
  refine j_iushr hC dJ6_bitCount_0f7a4_27 (pc' := 28) rfl ?_
  refine j_iadd hC dJ6_bitCount_0f7a4_28 (pc' := 29) rfl ?_
  refine j_ldcw hC (v := 252645135) dJ6_bitCount_0f7a4_29 (pc' := 32) rfl wm_369 ?_
  refine j_iand hC dJ6_bitCount_0f7a4_32 (pc' := 33) rfl ?_
  refine j_nmi (fun x3 ex3 => ?_)
  replace hf := hf x3 ex3
  refine j_istore_n hC (lv' := [(0, .int x3)]) dJ6_bitCount_0f7a4_33 (pc' := 34) rfl rfl (by decide) rfl ?_
  refine j_iload_n hC 0 dJ6_bitCount_0f7a4_34 (pc' := 35) rfl rfl ?_
  refine j_iload_n hC 0 dJ6_bitCount_0f7a4_35 (pc' := 36) rfl rfl ?_
  refine j_bipush hC (v := 8) dJ6_bitCount_0f7a4_36 (pc' := 38) rfl (by decide) ?_
  refine j_iushr hC dJ6_bitCount_0f7a4_38 (pc' := 39) rfl ?_
  refine j_iadd hC dJ6_bitCount_0f7a4_39 (pc' := 40) rfl ?_
  refine j_nmi (fun x4 ex4 => ?_)
  replace hf := hf x4 ex4
  refine j_istore_n hC (lv' := [(0, .int x4)]) dJ6_bitCount_0f7a4_40 (pc' := 41) rfl rfl (by decide) rfl ?_
  refine j_iload_n hC 0 dJ6_bitCount_0f7a4_41 (pc' := 42) rfl rfl ?_
  refine j_iload_n hC 0 dJ6_bitCount_0f7a4_42 (pc' := 43) rfl rfl ?_
  refine j_bipush hC (v := 16) dJ6_bitCount_0f7a4_43 (pc' := 45) rfl (by decide) ?_
  refine j_iushr hC dJ6_bitCount_0f7a4_45 (pc' := 46) rfl ?_
  refine j_iadd hC dJ6_bitCount_0f7a4_46 (pc' := 47) rfl ?_
  refine j_nmi (fun x5 ex5 => ?_)
  replace hf := hf x5 ex5
  refine j_istore_n hC (lv' := [(0, .int x5)]) dJ6_bitCount_0f7a4_47 (pc' := 48) rfl rfl (by decide) rfl ?_
  refine j_iload_n hC 0 dJ6_bitCount_0f7a4_48 (pc' := 49) rfl rfl ?_
  refine j_bipush hC (v := 63) dJ6_bitCount_0f7a4_49 (pc' := 51) rfl (by decide) ?_
  refine j_iand hC dJ6_bitCount_0f7a4_51 (pc' := 52) rfl ?_
  exact j_iret hC dJ6_bitCount_0f7a4_52 hf
def f_X7_weightOf_b9 (Q : Int64 → St → Prop) : Nat → Int32 → Int32 → St → Prop
  | 0, _, _, _ => False
  | n + 1, a1, a2, σ => ((10 : Int32) ≤ a2 → f_X6_determinant σ (fun r3 σ4 => Q r3 σ4)) ∧ ((¬ (10 : Int32) ≤ a2) → ((¬ ((a1 >>> (a2 &&& 31)) &&& (1 : Int32)) = (1 : Int32)) → ∀ x5 : Int32, x5 = a2 + (1 : Int32) → f_X7_weightOf_b9 Q  n a1 x5 σ) ∧ (((a1 >>> (a2 &&& 31)) &&& (1 : Int32)) = (1 : Int32) → f_X6_addLeft a2 σ (fun σ7 => ∀ x8 : Int32, x8 = a2 + (1 : Int32) → f_X7_weightOf_b9 Q  n a1 x8 σ7)))
def f_X7_weightOf (a1 : Int32) (σ : St) (Q : Int64 → St → Prop) : Prop := f_X6_forget σ (fun σ2 => ∃ n9 : Nat, f_X7_weightOf_b9 Q n9 a1 (0 : Int32) σ2)
theorem dy_X7_weightOf : yX7_weightOf.cls = yX7_weightOf.cls ∧ yX7_weightOf.cls ≠ "java/lang/invoke/MethodHandle" ∧ yX7_weightOf.cls ≠ "java/lang/invoke/VarHandle" ∧ (parseMethodDescriptor yX7_weightOf.desc).map (fun d => d.parameters.length) = some 1 := by decide +kernel
set_option maxHeartbeats 4000000 in
set_option maxRecDepth 100000 in
theorem lb_X7_weightOf_b9 {l : Launch} {D : va_G} {q : Nat → Nat} {ca : Nat → ClassId} {t : Nat} {p : Program} {e : Env} {s : State} {m : MethodId} {args : Array Value} {below : List Frame} {meth : Method} {c : Code} (hE : qok 28 q) (hC : Cx p s m args meth c cX7_weightOf 3 RX7 (some .long) D (tysX ca) (ZX q t)) (Q : Int64 → St → Prop) : ∀ (n : Nat) (a1 : Int32) (a2 : Int32) (σ : St), f_X7_weightOf_b9 Q n a1 a2 σ → J p l e { frames := 2, cells := 0, slots := 0, locals := 44 } s m args below meth c (MQ below (va_Ql Q (BW D (wX q ca)) (AX q)) args s 0 0 (AX q)) D (AX q) 3 0 0 (wX q ca σ) 9 [(0, .ref (q 0)), (1, .int a1), (2, .int a2)] [] := by
  intro n
  induction n with
  | zero => intro a1 a2 σ hf; exact hf.elim
  | succ n ih =>
    intro a1 a2 σ hf
    unfold f_X7_weightOf_b9 at hf
    refine j_iload_n hC 2 dX7_weightOf_9 (pc' := 10) rfl rfl ?_
    refine j_bipush hC (v := 10) dX7_weightOf_10 (pc' := 12) rfl (by decide) ?_
    refine j_icmp_ge hC (tgt := 42) dX7_weightOf_12 (pc' := 15) rfl (by decide) (fun c_ => ?_) (fun c_ => ?_)
    · replace hf := hf.1 c_
      refine j_aload_n hC 0 dX7_weightOf_42 (pc' := 43) rfl rfl ?_
      refine gX_sums hC wm_146 dX7_weightOf_43 (pc' := 46) rfl ?_
      refine jcV_l hC (eX hE) (As := []) (obX_X6) (rfl) (lk_X6_determinant hE  σ _ hf) wm_373 wm_271 wm_272 wm_3 wm_273 dy_X6_determinant ⟨rfl, rfl⟩ ⟨Nat.le_of_ble_eq_true rfl, Nat.le_of_ble_eq_true rfl⟩ ⟨Nat.le_refl _, Nat.le_refl _⟩ rfl rfl (Nat.le_of_ble_eq_true rfl) dX7_weightOf_46 (pc' := 49) rfl (fun r3 σ4 hf => ?_)
      exact j_lret hC dX7_weightOf_49 hf
    · replace hf := hf.2 c_
      refine j_iload_n hC 1 dX7_weightOf_15 (pc' := 16) rfl rfl ?_
      refine j_iload_n hC 2 dX7_weightOf_16 (pc' := 17) rfl rfl ?_
      refine j_ishr hC dX7_weightOf_17 (pc' := 18) rfl ?_
      refine j_iconst hC (v := 1) dX7_weightOf_18 (pc' := 19) rfl (by decide) ?_
      refine j_iand hC dX7_weightOf_19 (pc' := 20) rfl ?_
      refine j_iconst hC (v := 1) dX7_weightOf_20 (pc' := 21) rfl (by decide) ?_
      refine j_icmp_ne hC (tgt := 36) dX7_weightOf_21 (pc' := 24) rfl (by decide) (fun c_ => ?_) (fun c_ => ?_)
      · replace hf := hf.1 c_
        obtain ⟨x5, ex5⟩ : ∃ y : Int32, y = a2 + (1 : Int32) := ⟨_, rfl⟩
        replace hf := hf x5 ex5
        refine j_iinc hC (v := x5) (q := 2) (lv' := [(2, .int x5), (0, .ref (q 0)), (1, .int a1)]) dX7_weightOf_36 (pc' := 39) rfl rfl (by rw [ex5]; rfl) (by decide) rfl ?_
        refine j_goto hC (tgt := 9) dX7_weightOf_39 (by decide) ?_
        refine j_lv [1, 2, 0] rfl ?_
        exact ih a1 x5 σ hf
      · replace hf := hf.2 c_
        refine j_aload_n hC 0 dX7_weightOf_24 (pc' := 25) rfl rfl ?_
        refine gX_sums hC wm_146 dX7_weightOf_25 (pc' := 28) rfl ?_
        refine j_aload_n hC 0 dX7_weightOf_28 (pc' := 29) rfl rfl ?_
        refine gX_arm hC wm_143 dX7_weightOf_29 (pc' := 32) rfl ?_
        refine j_iload_n hC 2 dX7_weightOf_32 (pc' := 33) rfl rfl ?_
        refine jcV_v hC (eX hE) (As := [.ref (q 1), .int a2]) (obX_X6) (rfl) (lk_X6_addLeft hE a2 σ _ hf) wm_253 wm_254 wm_255 wm_3 wm_256 dy_X6_addLeft ⟨rfl, rfl⟩ ⟨Nat.le_of_ble_eq_true rfl, Nat.le_of_ble_eq_true rfl⟩ ⟨Nat.le_refl _, Nat.le_refl _⟩ rfl rfl (Nat.le_of_ble_eq_true rfl) dX7_weightOf_33 (pc' := 36) rfl (fun σ7 hf => ?_)
        obtain ⟨x8, ex8⟩ : ∃ y : Int32, y = a2 + (1 : Int32) := ⟨_, rfl⟩
        replace hf := hf x8 ex8
        refine j_iinc hC (v := x8) (q := 2) (lv' := [(2, .int x8), (0, .ref (q 0)), (1, .int a1)]) dX7_weightOf_36 (pc' := 39) rfl rfl (by rw [ex8]; rfl) (by decide) rfl ?_
        refine j_goto hC (tgt := 9) dX7_weightOf_39 (by decide) ?_
        refine j_lv [1, 2, 0] rfl ?_
        exact ih a1 x8 σ7 hf
set_option maxHeartbeats 4000000 in
set_option maxRecDepth 100000 in
theorem lk_X7_weightOf {l : Launch} {D : va_G} {q : Nat → Nat} {ca : Nat → ClassId} {t : Nat} (hE : qok 28 q) (a1 : Int32) (σ : St) (Q : Int64 → St → Prop) (hf : f_X7_weightOf a1 σ Q) : Ml l yX7_weightOf cX7_weightOf 3 (some .long) { frames := 2, cells := 0, slots := 0, locals := 44 } D (tysX ca) (ZX q t) (wX q ca) (AX q) [.ref (q 0), .int a1] σ Q := by
  refine j_start (own := RX7) (lv := [(0, .ref (q 0)), (1, .int a1)]) [.ref (q 0), .int a1] (by decide +kernel) rfl (wX_D hE σ) (Nat.le_of_ble_eq_true rfl) rfl (fun p e s m args below meth c hC => ?_)
  unfold f_X7_weightOf at hf
  refine j_aload_n hC 0 dX7_weightOf_0 (pc' := 1) rfl rfl ?_
  refine gX_sums hC wm_146 dX7_weightOf_1 (pc' := 4) rfl ?_
  refine jcV_v hC (eX hE) (As := []) (obX_X6) (rfl) (lk_X6_forget hE  σ _ hf) wm_246 wm_247 wm_248 wm_3 wm_249 dy_X6_forget ⟨rfl, rfl⟩ ⟨Nat.le_of_ble_eq_true rfl, Nat.le_of_ble_eq_true rfl⟩ ⟨Nat.le_refl _, Nat.le_refl _⟩ rfl rfl (Nat.le_of_ble_eq_true rfl) dX7_weightOf_4 (pc' := 7) rfl (fun σ2 hf => ?_)
  refine j_iconst hC (v := 0) dX7_weightOf_7 (pc' := 8) rfl (by decide) ?_
  refine j_istore_n hC (lv' := [(2, .int (0 : Int32)), (0, .ref (q 0)), (1, .int a1)]) dX7_weightOf_8 (pc' := 9) rfl rfl (by decide) rfl ?_
  obtain ⟨n9, hf⟩ := hf
  refine j_lv [1, 2, 0] rfl ?_
  exact lb_X7_weightOf_b9 hE hC Q n9 a1 (0 : Int32) σ2 hf
def f_X7_best_b39 (Q : Int32 → St → Prop) : Nat → Int32 → Int32 → Int64 → Int32 → Int32 → St → Prop
  | 0, _, _, _, _, _, _ => False
  | n + 1, a1, a2, a3, a5, a6, σ => (a5 ≤ a6 → Q a2 σ) ∧ ((¬ a5 ≤ a6) → f_J6_bitCount_0f7a4 a6 σ (fun r5 σ6 => ((¬ r5 = a1) → ∀ x7 : Int32, x7 = a6 + (1 : Int32) → f_X7_best_b39 Q  n a1 a2 a3 a5 x7 σ6) ∧ (r5 = a1 → f_X7_weightOf a6 σ6 (fun r8 σ9 => (r8 ≤ a3 → ∀ x10 : Int32, x10 = a6 + (1 : Int32) → f_X7_best_b39 Q  n a1 a2 a3 a5 x10 σ9) ∧ ((¬ r8 ≤ a3) → ∀ x11 : Int32, x11 = a6 + (1 : Int32) → f_X7_best_b39 Q  n a1 a6 r8 a5 x11 σ9)))))
def f_X7_best (a1 : Int32) (σ : St) (Q : Int32 → St → Prop) : Prop := f_X7_within a1 (1 : Int32) (4 : Int32) σ (fun r1 σ2 => ((¬ r1 = 0) → (a1 ≤ (σ2.1 3 0) → f_X7_choosableSets σ2 (fun r3 σ4 => ∃ n12 : Nat, f_X7_best_b39 Q n12 a1 (-1 : Int32) (0 : Int64) r3 (1 : Int32) σ4)) ∧ ((¬ a1 ≤ (σ2.1 3 0)) → Q (-3 : Int32) σ2)) ∧ (r1 = 0 → Q (-2 : Int32) σ2))
theorem dy_X7_best : yX7_best.cls = yX7_best.cls ∧ yX7_best.cls ≠ "java/lang/invoke/MethodHandle" ∧ yX7_best.cls ≠ "java/lang/invoke/VarHandle" ∧ (parseMethodDescriptor yX7_best.desc).map (fun d => d.parameters.length) = some 1 := by decide +kernel
set_option maxHeartbeats 4000000 in
set_option maxRecDepth 100000 in
theorem lb_X7_best_b39 {l : Launch} {D : va_G} {q : Nat → Nat} {ca : Nat → ClassId} {t : Nat} {p : Program} {e : Env} {s : State} {m : MethodId} {args : Array Value} {below : List Frame} {meth : Method} {c : Code} (hE : qok 28 q) (hC : Cx p s m args meth c cX7_best 9 RX7 (some .int) D (tysX ca) (ZX q t)) (Q : Int32 → St → Prop) : ∀ (n : Nat) (a1 : Int32) (a2 : Int32) (a3 : Int64) (a5 : Int32) (a6 : Int32) (σ : St), f_X7_best_b39 Q n a1 a2 a3 a5 a6 σ → J p l e { frames := 3, cells := 0, slots := 0, locals := 66 } s m args below meth c (MQ below (va_Qi Q (BW D (wX q ca)) (AX q)) args s 0 0 (AX q)) D (AX q) 9 0 0 (wX q ca σ) 39 [(0, .ref (q 0)), (1, .int a1), (2, .int a2), (3, .long a3), (5, .int a5), (6, .int a6)] [] := by
  intro n
  induction n with
  | zero => intro a1 a2 a3 a5 a6 σ hf; exact hf.elim
  | succ n ih =>
    intro a1 a2 a3 a5 a6 σ hf
    unfold f_X7_best_b39 at hf
    refine j_iload hC 5 dX7_best_39 (pc' := 41) rfl rfl ?_
    refine j_iload hC 4 dX7_best_41 (pc' := 43) rfl rfl ?_
    refine j_icmp_ge hC (tgt := 82) dX7_best_43 (pc' := 46) rfl (by decide) (fun c_ => ?_) (fun c_ => ?_)
    · replace hf := hf.1 c_
      refine j_iload_n hC 2 dX7_best_82 (pc' := 83) rfl rfl ?_
      exact j_iret hC dX7_best_83 hf
    · replace hf := hf.2 c_
      refine j_iload hC 5 dX7_best_46 (pc' := 48) rfl rfl ?_
      refine jcS_i hC (eX hE) (As := [.int a6]) (lk_J6_bitCount_0f7a4 hE a6 σ _ hf) wm_364 wm_365 wm_12 wm_366 dy_J6_bitCount_0f7a4 ⟨rfl, rfl⟩ ⟨Nat.le_of_ble_eq_true rfl, Nat.le_of_ble_eq_true rfl⟩ ⟨Nat.le_refl _, Nat.le_refl _⟩ rfl rfl (Nat.le_of_ble_eq_true rfl) dX7_best_48 (pc' := 51) rfl (fun r5 σ6 hf => ?_)
      refine j_iload_n hC 1 dX7_best_51 (pc' := 52) rfl rfl ?_
      refine j_icmp_ne hC (tgt := 76) dX7_best_52 (pc' := 55) rfl (by decide) (fun c_ => ?_) (fun c_ => ?_)
      · replace hf := hf.1 c_
        obtain ⟨x7, ex7⟩ : ∃ y : Int32, y = a6 + (1 : Int32) := ⟨_, rfl⟩
        replace hf := hf x7 ex7
        refine j_iinc hC (v := x7) (q := 5) (lv' := [(6, .int x7), (0, .ref (q 0)), (1, .int a1), (2, .int a2), (3, .long a3), (5, .int a5)]) dX7_best_76 (pc' := 79) rfl rfl (by rw [ex7]; rfl) (by decide) rfl ?_
        refine j_goto hC (tgt := 39) dX7_best_79 (by decide) ?_
        refine j_lv [1, 2, 3, 4, 5, 0] rfl ?_
        exact ih a1 a2 a3 a5 x7 σ6 hf
      · replace hf := hf.2 c_
        refine j_aload_n hC 0 dX7_best_55 (pc' := 56) rfl rfl ?_
        refine j_iload hC 5 dX7_best_56 (pc' := 58) rfl rfl ?_
        refine jcV_l hC (eX hE) (As := [.int a6]) (obX_X7) (rfl) (lk_X7_weightOf hE a6 σ6 _ hf) wm_370 wm_371 wm_892 wm_1 wm_372 dy_X7_weightOf ⟨rfl, rfl⟩ ⟨Nat.le_of_ble_eq_true rfl, Nat.le_of_ble_eq_true rfl⟩ ⟨Nat.le_refl _, Nat.le_refl _⟩ rfl rfl (Nat.le_of_ble_eq_true rfl) dX7_best_58 (pc' := 61) rfl (fun r8 σ9 hf => ?_)
        refine j_lstore hC (lv' := [(7, .long r8), (0, .ref (q 0)), (1, .int a1), (2, .int a2), (3, .long a3), (5, .int a5), (6, .int a6)]) dX7_best_61 (pc' := 63) rfl (by decide) rfl ?_
        refine j_lload hC 0 dX7_best_63 (pc' := 65) rfl rfl ?_
        refine j_lload_n hC 4 dX7_best_65 (pc' := 66) rfl rfl ?_
        refine j_lcmp hC dX7_best_66 (pc' := 67) rfl ?_
        refine j_if_le hC (tgt := 76) dX7_best_67 (pc' := 70) rfl (by decide) (fun c_ => ?_) (fun c_ => ?_)
        · replace hf := hf.1 ((lgc_le _ _).mp c_)
          obtain ⟨x10, ex10⟩ : ∃ y : Int32, y = a6 + (1 : Int32) := ⟨_, rfl⟩
          replace hf := hf x10 ex10
          refine j_iinc hC (v := x10) (q := 6) (lv' := [(6, .int x10), (7, .long r8), (0, .ref (q 0)), (1, .int a1), (2, .int a2), (3, .long a3), (5, .int a5)]) dX7_best_76 (pc' := 79) rfl rfl (by rw [ex10]; rfl) (by decide) rfl ?_
          refine j_goto hC (tgt := 39) dX7_best_79 (by decide) ?_
          refine j_lv [2, 3, 4, 5, 6, 0] rfl ?_
          exact ih a1 a2 a3 a5 x10 σ9 hf
        · replace hf := hf.2 (fun z => c_ ((lgc_le _ _).mpr z))
          refine j_lload hC 0 dX7_best_70 (pc' := 72) rfl rfl ?_
          refine j_lstore_n hC (lv' := [(3, .long r8), (7, .long r8), (0, .ref (q 0)), (1, .int a1), (2, .int a2), (5, .int a5), (6, .int a6)]) dX7_best_72 (pc' := 73) rfl rfl (by decide) rfl ?_
          refine j_iload hC 6 dX7_best_73 (pc' := 75) rfl rfl ?_
          refine j_istore_n hC (lv' := [(2, .int a6), (3, .long r8), (7, .long r8), (0, .ref (q 0)), (1, .int a1), (5, .int a5), (6, .int a6)]) dX7_best_75 (pc' := 76) rfl rfl (by decide) rfl ?_
          obtain ⟨x11, ex11⟩ : ∃ y : Int32, y = a6 + (1 : Int32) := ⟨_, rfl⟩
          replace hf := hf x11 ex11
          refine j_iinc hC (v := x11) (q := 6) (lv' := [(6, .int x11), (2, .int a6), (3, .long r8), (7, .long r8), (0, .ref (q 0)), (1, .int a1), (5, .int a5)]) dX7_best_76 (pc' := 79) rfl rfl (by rw [ex11]; rfl) (by decide) rfl ?_
          refine j_goto hC (tgt := 39) dX7_best_79 (by decide) ?_
          refine j_lv [4, 5, 1, 2, 6, 0] rfl ?_
          exact ih a1 a6 r8 a5 x11 σ9 hf
set_option maxHeartbeats 4000000 in
set_option maxRecDepth 100000 in
theorem lk_X7_best {l : Launch} {D : va_G} {q : Nat → Nat} {ca : Nat → ClassId} {t : Nat} (hE : qok 28 q) (a1 : Int32) (σ : St) (Q : Int32 → St → Prop) (hf : f_X7_best a1 σ Q) : Mi l yX7_best cX7_best 9 (some .int) { frames := 3, cells := 0, slots := 0, locals := 66 } D (tysX ca) (ZX q t) (wX q ca) (AX q) [.ref (q 0), .int a1] σ Q := by
  refine j_start (own := RX7) (lv := [(0, .ref (q 0)), (1, .int a1)]) [.ref (q 0), .int a1] (by decide +kernel) rfl (wX_D hE σ) (Nat.le_of_ble_eq_true rfl) rfl (fun p e s m args below meth c hC => ?_)
  unfold f_X7_best at hf
  refine j_iload_n hC 1 dX7_best_0 (pc' := 1) rfl rfl ?_
  refine j_iconst hC (v := 1) dX7_best_1 (pc' := 2) rfl (by decide) ?_
  refine j_iconst hC (v := 4) dX7_best_2 (pc' := 3) rfl (by decide) ?_
  refine jcS_i hC (eX hE) (As := [.int a1, .int (1 : Int32), .int (4 : Int32)]) (lk_X7_within hE a1 (1 : Int32) (4 : Int32) σ _ hf) wm_175 wm_176 wm_1 wm_177 dy_X7_within ⟨rfl, rfl⟩ ⟨Nat.le_of_ble_eq_true rfl, Nat.le_of_ble_eq_true rfl⟩ ⟨Nat.le_refl _, Nat.le_refl _⟩ rfl rfl (Nat.le_of_ble_eq_true rfl) dX7_best_3 (pc' := 6) rfl (fun r1 σ2 hf => ?_)
  refine j_if_ne hC (tgt := 12) dX7_best_6 (pc' := 9) rfl (by decide) (fun c_ => ?_) (fun c_ => ?_)
  · replace hf := hf.1 c_
    refine j_aload_n hC 0 dX7_best_12 (pc' := 13) rfl rfl ?_
    refine gX_arm hC wm_143 dX7_best_13 (pc' := 16) rfl ?_
    refine gX_postures hC wm_35 dX7_best_16 (pc' := 19) rfl ?_
    refine j_iload_n hC 1 dX7_best_19 (pc' := 20) rfl rfl ?_
    refine j_icmp_ge hC (tgt := 26) dX7_best_20 (pc' := 23) rfl (by decide) (fun c_ => ?_) (fun c_ => ?_)
    · replace hf := hf.1 c_
      refine j_iconst hC (v := -1) dX7_best_26 (pc' := 27) rfl (by decide) ?_
      refine j_istore_n hC (lv' := [(2, .int (-1 : Int32)), (0, .ref (q 0)), (1, .int a1)]) dX7_best_27 (pc' := 28) rfl rfl (by decide) rfl ?_
      refine j_lconst hC (v := 0) dX7_best_28 (pc' := 29) rfl (by decide) ?_
      refine j_lstore_n hC (lv' := [(3, .long (0 : Int64)), (2, .int (-1 : Int32)), (0, .ref (q 0)), (1, .int a1)]) dX7_best_29 (pc' := 30) rfl rfl (by decide) rfl ?_
      refine j_aload_n hC 2 dX7_best_30 (pc' := 31) rfl rfl ?_
      refine jcV_i hC (eX hE) (As := []) (obX_X7) (rfl) (lk_X7_choosableSets hE  σ2 _ hf) wm_358 wm_359 wm_891 wm_1 wm_360 dy_X7_choosableSets ⟨rfl, rfl⟩ ⟨Nat.le_of_ble_eq_true rfl, Nat.le_of_ble_eq_true rfl⟩ ⟨Nat.le_refl _, Nat.le_refl _⟩ rfl rfl (Nat.le_of_ble_eq_true rfl) dX7_best_31 (pc' := 34) rfl (fun r3 σ4 hf => ?_)
      refine j_istore hC (lv' := [(5, .int r3), (3, .long (0 : Int64)), (2, .int (-1 : Int32)), (0, .ref (q 0)), (1, .int a1)]) dX7_best_34 (pc' := 36) rfl (by decide) rfl ?_
      refine j_iconst hC (v := 1) dX7_best_36 (pc' := 37) rfl (by decide) ?_
      refine j_istore hC (lv' := [(6, .int (1 : Int32)), (5, .int r3), (3, .long (0 : Int64)), (2, .int (-1 : Int32)), (0, .ref (q 0)), (1, .int a1)]) dX7_best_37 (pc' := 39) rfl (by decide) rfl ?_
      obtain ⟨n12, hf⟩ := hf
      refine j_lv [4, 5, 3, 2, 1, 0] rfl ?_
      exact lb_X7_best_b39 hE hC Q n12 a1 (-1 : Int32) (0 : Int64) r3 (1 : Int32) σ4 hf
    · replace hf := hf.2 c_
      refine j_bipush hC (v := -3) dX7_best_23 (pc' := 25) rfl (by decide) ?_
      exact j_iret hC dX7_best_25 hf
  · replace hf := hf.2 c_
    refine j_bipush hC (v := -2) dX7_best_9 (pc' := 11) rfl (by decide) ?_
    exact j_iret hC dX7_best_11 hf
def f_X7_weight (a1 : Int32) (σ : St) (Q : Int64 → St → Prop) : Prop := f_X7_choosableSets σ (fun r1 σ2 => f_X7_within a1 (0 : Int32) (r1 - (1 : Int32)) σ2 (fun r3 σ4 => ((¬ r3 = 0) → f_X7_weightOf a1 σ4 (fun r5 σ6 => Q r5 σ6)) ∧ (r3 = 0 → Q (-9223372036854775806 : Int64) σ4)))
theorem dy_X7_weight : yX7_weight.cls = yX7_weight.cls ∧ yX7_weight.cls ≠ "java/lang/invoke/MethodHandle" ∧ yX7_weight.cls ≠ "java/lang/invoke/VarHandle" ∧ (parseMethodDescriptor yX7_weight.desc).map (fun d => d.parameters.length) = some 1 := by decide +kernel
set_option maxHeartbeats 4000000 in
set_option maxRecDepth 100000 in
theorem lk_X7_weight {l : Launch} {D : va_G} {q : Nat → Nat} {ca : Nat → ClassId} {t : Nat} (hE : qok 28 q) (a1 : Int32) (σ : St) (Q : Int64 → St → Prop) (hf : f_X7_weight a1 σ Q) : Ml l yX7_weight cX7_weight 2 (some .long) { frames := 3, cells := 0, slots := 0, locals := 66 } D (tysX ca) (ZX q t) (wX q ca) (AX q) [.ref (q 0), .int a1] σ Q := by
  refine j_start (own := RX7) (lv := [(0, .ref (q 0)), (1, .int a1)]) [.ref (q 0), .int a1] (by decide +kernel) rfl (wX_D hE σ) (Nat.le_of_ble_eq_true rfl) rfl (fun p e s m args below meth c hC => ?_)
  unfold f_X7_weight at hf
  refine j_iload_n hC 1 dX7_weight_0 (pc' := 1) rfl rfl ?_
  refine j_iconst hC (v := 0) dX7_weight_1 (pc' := 2) rfl (by decide) ?_
  refine j_aload_n hC 0 dX7_weight_2 (pc' := 3) rfl rfl ?_
  refine jcV_i hC (eX hE) (As := []) (obX_X7) (rfl) (lk_X7_choosableSets hE  σ _ hf) wm_358 wm_359 wm_891 wm_1 wm_360 dy_X7_choosableSets ⟨rfl, rfl⟩ ⟨Nat.le_of_ble_eq_true rfl, Nat.le_of_ble_eq_true rfl⟩ ⟨Nat.le_refl _, Nat.le_refl _⟩ rfl rfl (Nat.le_of_ble_eq_true rfl) dX7_weight_3 (pc' := 6) rfl (fun r1 σ2 hf => ?_)
  refine j_iconst hC (v := 1) dX7_weight_6 (pc' := 7) rfl (by decide) ?_
  refine j_isub hC dX7_weight_7 (pc' := 8) rfl ?_
  refine jcS_i hC (eX hE) (As := [.int a1, .int (0 : Int32), .int (r1 - (1 : Int32))]) (lk_X7_within hE a1 (0 : Int32) (r1 - (1 : Int32)) σ2 _ hf) wm_175 wm_176 wm_1 wm_177 dy_X7_within ⟨rfl, rfl⟩ ⟨Nat.le_of_ble_eq_true rfl, Nat.le_of_ble_eq_true rfl⟩ ⟨Nat.le_refl _, Nat.le_refl _⟩ rfl rfl (Nat.le_of_ble_eq_true rfl) dX7_weight_8 (pc' := 11) rfl (fun r3 σ4 hf => ?_)
  refine j_if_ne hC (tgt := 18) dX7_weight_11 (pc' := 14) rfl (by decide) (fun c_ => ?_) (fun c_ => ?_)
  · replace hf := hf.1 c_
    refine j_aload_n hC 0 dX7_weight_18 (pc' := 19) rfl rfl ?_
    refine j_iload_n hC 1 dX7_weight_19 (pc' := 20) rfl rfl ?_
    refine jcV_l hC (eX hE) (As := [.int a1]) (obX_X7) (rfl) (lk_X7_weightOf hE a1 σ4 _ hf) wm_370 wm_371 wm_892 wm_1 wm_372 dy_X7_weightOf ⟨rfl, rfl⟩ ⟨Nat.le_of_ble_eq_true rfl, Nat.le_of_ble_eq_true rfl⟩ ⟨Nat.le_refl _, Nat.le_refl _⟩ rfl rfl (Nat.le_of_ble_eq_true rfl) dX7_weight_20 (pc' := 23) rfl (fun r5 σ6 hf => ?_)
    exact j_lret hC dX7_weight_23 hf
  · replace hf := hf.2 c_
    refine j_ldc2 hC (v := -9223372036854775806) dX7_weight_14 (pc' := 17) rfl wm_320 ?_
    exact j_lret hC dX7_weight_17 hf
def f_X7_pair (a1 : Int32) (a2 : Int32) (a3 : Int32) (a4 : Int32) (σ : St) (Q : Int32 → St → Prop) : Prop := f_X1_mayBe a1 σ (fun r1 σ2 => (r1 = 0 → Q (-2 : Int32) σ2) ∧ ((¬ r1 = 0) → f_X1_mayBe a2 σ2 (fun r3 σ4 => (r3 = 0 → Q (-2 : Int32) σ4) ∧ ((¬ r3 = 0) → f_X1_mayBe a3 σ4 (fun r5 σ6 => (r5 = 0 → Q (-2 : Int32) σ6) ∧ ((¬ r5 = 0) → f_X1_mayBe a4 σ6 (fun r7 σ8 => ((¬ r7 = 0) → ((σ8.1 10 0) < (20 : Int32) → f_X1_see a1 a2 a3 a4 σ8 (fun r9 σ10 => Q r9 σ10)) ∧ ((¬ (σ8.1 10 0) < (20 : Int32)) → Q (-4 : Int32) σ8)) ∧ (r7 = 0 → Q (-2 : Int32) σ8))))))))
theorem dy_X7_pair : yX7_pair.cls = yX7_pair.cls ∧ yX7_pair.cls ≠ "java/lang/invoke/MethodHandle" ∧ yX7_pair.cls ≠ "java/lang/invoke/VarHandle" ∧ (parseMethodDescriptor yX7_pair.desc).map (fun d => d.parameters.length) = some 4 := by decide +kernel
set_option maxHeartbeats 4000000 in
set_option maxRecDepth 100000 in
theorem lk_X7_pair {l : Launch} {D : va_G} {q : Nat → Nat} {ca : Nat → ClassId} {t : Nat} (hE : qok 28 q) (a1 : Int32) (a2 : Int32) (a3 : Int32) (a4 : Int32) (σ : St) (Q : Int32 → St → Prop) (hf : f_X7_pair a1 a2 a3 a4 σ Q) : Mi l yX7_pair cX7_pair 5 (some .int) { frames := 1, cells := 0, slots := 0, locals := 24 } D (tysX ca) (ZX q t) (wX q ca) (AX q) [.ref (q 0), .int a1, .int a2, .int a3, .int a4] σ Q := by
  refine j_start (own := RX7) (lv := [(0, .ref (q 0)), (1, .int a1), (2, .int a2), (3, .int a3), (4, .int a4)]) [.ref (q 0), .int a1, .int a2, .int a3, .int a4] (by decide +kernel) rfl (wX_D hE σ) (Nat.le_of_ble_eq_true rfl) rfl (fun p e s m args below meth c hC => ?_)
  unfold f_X7_pair at hf
  refine j_iload_n hC 1 dX7_pair_0 (pc' := 1) rfl rfl ?_
  refine jcS_i hC (eX hE) (As := [.int a1]) (lk_X1_mayBe hE a1 σ _ hf) wm_382 wm_383 wm_4 wm_384 dy_X1_mayBe ⟨rfl, rfl⟩ ⟨Nat.le_of_ble_eq_true rfl, Nat.le_of_ble_eq_true rfl⟩ ⟨Nat.le_refl _, Nat.le_refl _⟩ rfl rfl (Nat.le_of_ble_eq_true rfl) dX7_pair_1 (pc' := 4) rfl (fun r1 σ2 hf => ?_)
  refine j_if_eq hC (tgt := 29) dX7_pair_4 (pc' := 7) rfl (by decide) (fun c_ => ?_) (fun c_ => ?_)
  · replace hf := hf.1 c_
    refine j_bipush hC (v := -2) dX7_pair_29 (pc' := 31) rfl (by decide) ?_
    exact j_iret hC dX7_pair_31 hf
  · replace hf := hf.2 c_
    refine j_iload_n hC 2 dX7_pair_7 (pc' := 8) rfl rfl ?_
    refine jcS_i hC (eX hE) (As := [.int a2]) (lk_X1_mayBe hE a2 σ2 _ hf) wm_382 wm_383 wm_4 wm_384 dy_X1_mayBe ⟨rfl, rfl⟩ ⟨Nat.le_of_ble_eq_true rfl, Nat.le_of_ble_eq_true rfl⟩ ⟨Nat.le_refl _, Nat.le_refl _⟩ rfl rfl (Nat.le_of_ble_eq_true rfl) dX7_pair_8 (pc' := 11) rfl (fun r3 σ4 hf => ?_)
    refine j_if_eq hC (tgt := 29) dX7_pair_11 (pc' := 14) rfl (by decide) (fun c_ => ?_) (fun c_ => ?_)
    · replace hf := hf.1 c_
      refine j_bipush hC (v := -2) dX7_pair_29 (pc' := 31) rfl (by decide) ?_
      exact j_iret hC dX7_pair_31 hf
    · replace hf := hf.2 c_
      refine j_iload_n hC 3 dX7_pair_14 (pc' := 15) rfl rfl ?_
      refine jcS_i hC (eX hE) (As := [.int a3]) (lk_X1_mayBe hE a3 σ4 _ hf) wm_382 wm_383 wm_4 wm_384 dy_X1_mayBe ⟨rfl, rfl⟩ ⟨Nat.le_of_ble_eq_true rfl, Nat.le_of_ble_eq_true rfl⟩ ⟨Nat.le_refl _, Nat.le_refl _⟩ rfl rfl (Nat.le_of_ble_eq_true rfl) dX7_pair_15 (pc' := 18) rfl (fun r5 σ6 hf => ?_)
      refine j_if_eq hC (tgt := 29) dX7_pair_18 (pc' := 21) rfl (by decide) (fun c_ => ?_) (fun c_ => ?_)
      · replace hf := hf.1 c_
        refine j_bipush hC (v := -2) dX7_pair_29 (pc' := 31) rfl (by decide) ?_
        exact j_iret hC dX7_pair_31 hf
      · replace hf := hf.2 c_
        refine j_iload hC 4 dX7_pair_21 (pc' := 23) rfl rfl ?_
        refine jcS_i hC (eX hE) (As := [.int a4]) (lk_X1_mayBe hE a4 σ6 _ hf) wm_382 wm_383 wm_4 wm_384 dy_X1_mayBe ⟨rfl, rfl⟩ ⟨Nat.le_of_ble_eq_true rfl, Nat.le_of_ble_eq_true rfl⟩ ⟨Nat.le_refl _, Nat.le_refl _⟩ rfl rfl (Nat.le_of_ble_eq_true rfl) dX7_pair_23 (pc' := 26) rfl (fun r7 σ8 hf => ?_)
        refine j_if_ne hC (tgt := 32) dX7_pair_26 (pc' := 29) rfl (by decide) (fun c_ => ?_) (fun c_ => ?_)
        · replace hf := hf.1 c_
          refine j_aload_n hC 0 dX7_pair_32 (pc' := 33) rfl rfl ?_
          refine gX_camera hC wm_147 dX7_pair_33 (pc' := 36) rfl ?_
          refine gX_pairs hC wm_76 dX7_pair_36 (pc' := 39) rfl ?_
          refine j_bipush hC (v := 20) dX7_pair_39 (pc' := 41) rfl (by decide) ?_
          refine j_icmp_lt hC (tgt := 47) dX7_pair_41 (pc' := 44) rfl (by decide) (fun c_ => ?_) (fun c_ => ?_)
          · replace hf := hf.1 c_
            refine j_aload_n hC 0 dX7_pair_47 (pc' := 48) rfl rfl ?_
            refine gX_camera hC wm_147 dX7_pair_48 (pc' := 51) rfl ?_
            refine j_iload_n hC 1 dX7_pair_51 (pc' := 52) rfl rfl ?_
            refine j_iload_n hC 2 dX7_pair_52 (pc' := 53) rfl rfl ?_
            refine j_iload_n hC 3 dX7_pair_53 (pc' := 54) rfl rfl ?_
            refine j_iload hC 4 dX7_pair_54 (pc' := 56) rfl rfl ?_
            refine jcV_i hC (eX hE) (As := [.int a1, .int a2, .int a3, .int a4]) (obX_X1) (rfl) (lk_X1_see hE a1 a2 a3 a4 σ8 _ hf) wm_385 wm_386 wm_387 wm_4 wm_388 dy_X1_see ⟨rfl, rfl⟩ ⟨Nat.le_of_ble_eq_true rfl, Nat.le_of_ble_eq_true rfl⟩ ⟨Nat.le_refl _, Nat.le_refl _⟩ rfl rfl (Nat.le_of_ble_eq_true rfl) dX7_pair_56 (pc' := 59) rfl (fun r9 σ10 hf => ?_)
            exact j_iret hC dX7_pair_59 hf
          · replace hf := hf.2 c_
            refine j_bipush hC (v := -4) dX7_pair_44 (pc' := 46) rfl (by decide) ?_
            exact j_iret hC dX7_pair_46 hf
        · replace hf := hf.2 c_
          refine j_bipush hC (v := -2) dX7_pair_29 (pc' := 31) rfl (by decide) ?_
          exact j_iret hC dX7_pair_31 hf
