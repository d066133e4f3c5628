def f_X8_length (a1 : Int32) (a2 : Int32) (σ : St) (Q : Int32 → St → Prop) : Prop := f_X8_in (Int32.toInt64 a1) (0 : Int64) (2 : Int64) σ (fun r1 σ2 => (r1 = 0 → Q (-2 : Int32) σ2) ∧ ((¬ r1 = 0) → f_X8_in (Int32.toInt64 a2) (1 : Int64) (999 : Int64) σ2 (fun r3 σ4 => ((¬ r3 = 0) → vp_in a1 3 ∧ ∀ x6 : Int32, x6 = σ4.1 0 (Int32.toNatClampNeg a1) → vp_in a1 3 ∧ ∀ σ8 : St, σ8 = sI σ4 0 (Int32.toNatClampNeg a1) a2 → Q x6 σ8) ∧ (r3 = 0 → Q (-2 : Int32) σ4))))
theorem dy_X8_length : yX8_length.cls = yX8_length.cls ∧ yX8_length.cls ≠ "java/lang/invoke/MethodHandle" ∧ yX8_length.cls ≠ "java/lang/invoke/VarHandle" ∧ (parseMethodDescriptor yX8_length.desc).map (fun d => d.parameters.length) = some 2 := by decide +kernel
set_option maxHeartbeats 4000000 in
set_option maxRecDepth 100000 in
theorem lk_X8_length {l : Launch} {D : va_G} {q : Nat → Nat} {ca : Nat → ClassId} (hE : qok 19 q) (a1 : Int32) (a2 : Int32) (σ : St) (Q : Int32 → St → Prop) (hf : f_X8_length a1 a2 σ Q) : Mi l yX8_length cX8_length 4 (some .int) { frames := 1, cells := 0, slots := 0, locals := 25 } D (tysM ca) ZM (wM q ca) (AM q) [.ref (q 0), .int a1, .int a2] σ Q := by
  refine j_start (own := RX8) (lv := [(0, .ref (q 0)), (1, .int a1), (2, .int a2)]) [.ref (q 0), .int a1, .int a2] (by decide +kernel) rfl (wM_D hE σ) (Nat.le_of_ble_eq_true rfl) rfl (fun p e s m args below meth c hC => ?_)
  unfold f_X8_length at hf
  refine j_iload_n hC 1 dX8_length_0 (pc' := 1) rfl rfl ?_
  refine j_i2l hC dX8_length_1 (pc' := 2) rfl ?_
  refine j_lconst hC (v := 0) dX8_length_2 (pc' := 3) rfl (by decide) ?_
  refine j_ldc2 hC (v := 2) dX8_length_3 (pc' := 6) rfl wm_655 ?_
  refine jcS_i hC (eM hE) (As := [.long (Int32.toInt64 a1), .long (0 : Int64), .long (2 : Int64)]) (lk_X8_in hE (Int32.toInt64 a1) (0 : Int64) (2 : Int64) σ _ hf) wm_642 wm_643 wm_8 wm_644 dy_X8_in ⟨rfl, rfl⟩ ⟨Nat.le_of_ble_eq_true rfl, Nat.le_of_ble_eq_true rfl⟩ ⟨Nat.le_refl _, Nat.le_refl _⟩ rfl rfl (Nat.le_of_ble_eq_true rfl) dX8_length_6 (pc' := 9) rfl (fun r1 σ2 hf => ?_)
  refine j_if_eq hC (tgt := 24) dX8_length_9 (pc' := 12) rfl (by decide) (fun c_ => ?_) (fun c_ => ?_)
  · replace hf := hf.1 c_
    refine j_bipush hC (v := -2) dX8_length_24 (pc' := 26) rfl (by decide) ?_
    exact j_iret hC dX8_length_26 hf
  · replace hf := hf.2 c_
    refine j_iload_n hC 2 dX8_length_12 (pc' := 13) rfl rfl ?_
    refine j_i2l hC dX8_length_13 (pc' := 14) rfl ?_
    refine j_lconst hC (v := 1) dX8_length_14 (pc' := 15) rfl (by decide) ?_
    refine j_ldc2 hC (v := 999) dX8_length_15 (pc' := 18) rfl wm_656 ?_
    refine jcS_i hC (eM hE) (As := [.long (Int32.toInt64 a2), .long (1 : Int64), .long (999 : Int64)]) (lk_X8_in hE (Int32.toInt64 a2) (1 : Int64) (999 : Int64) σ2 _ hf) wm_642 wm_643 wm_8 wm_644 dy_X8_in ⟨rfl, rfl⟩ ⟨Nat.le_of_ble_eq_true rfl, Nat.le_of_ble_eq_true rfl⟩ ⟨Nat.le_refl _, Nat.le_refl _⟩ rfl rfl (Nat.le_of_ble_eq_true rfl) dX8_length_18 (pc' := 21) rfl (fun r3 σ4 hf => ?_)
    refine j_if_ne hC (tgt := 27) dX8_length_21 (pc' := 24) rfl (by decide) (fun c_ => ?_) (fun c_ => ?_)
    · replace hf := hf.1 c_
      refine j_aload_n hC 0 dX8_length_27 (pc' := 28) rfl rfl ?_
      refine gM_lengths hC wm_565 dX8_length_28 (pc' := 31) rfl ?_
      refine j_iload_n hC 1 dX8_length_31 (pc' := 32) rfl rfl ?_
      obtain ⟨h5, hf⟩ := hf
      refine lM_lengths hC (j := (Int32.toNatClampNeg a1)) h5 rfl dX8_length_32 (pc' := 33) rfl ?_
      refine j_nmi (fun x6 ex6 => ?_)
      replace hf := hf x6 ex6
      refine j_istore_n hC (lv' := [(3, .int x6), (0, .ref (q 0)), (1, .int a1), (2, .int a2)]) dX8_length_33 (pc' := 34) rfl rfl (by decide) rfl ?_
      refine j_aload_n hC 1 dX8_length_34 (pc' := 35) rfl rfl ?_
      refine gM_lengths hC wm_565 dX8_length_35 (pc' := 38) rfl ?_
      refine j_iload_n hC 2 dX8_length_38 (pc' := 39) rfl rfl ?_
      refine j_iload_n hC 3 dX8_length_39 (pc' := 40) rfl rfl ?_
      obtain ⟨h7, hf⟩ := hf
      refine sM_lengths hC (j := (Int32.toNatClampNeg a1)) h7 rfl dX8_length_40 (pc' := 41) rfl ?_
      refine j_nms (wf := wM q ca) (fun σ8 eσ8 => ?_)
      replace hf := hf σ8 eσ8
      refine j_iload_n hC 0 dX8_length_41 (pc' := 42) rfl rfl ?_
      exact j_iret hC dX8_length_42 hf
    · replace hf := hf.2 c_
      refine j_bipush hC (v := -2) dX8_length_24 (pc' := 26) rfl (by decide) ?_
      exact j_iret hC dX8_length_26 hf
def f_X8_posture (a1 : Int32) (a2 : Int32) (a3 : Int32) (σ : St) (Q : Int32 → St → Prop) : Prop := f_X8_in (Int32.toInt64 a1) (0 : Int64) (35 : Int64) σ (fun r1 σ2 => (r1 = 0 → Q (-2 : Int32) σ2) ∧ ((¬ r1 = 0) → f_X8_in (Int32.toInt64 a2) (0 : Int64) (35 : Int64) σ2 (fun r3 σ4 => (r3 = 0 → Q (-2 : Int32) σ4) ∧ ((¬ r3 = 0) → f_X8_in (Int32.toInt64 a3) (0 : Int64) (35 : Int64) σ4 (fun r5 σ6 => ((¬ r5 = 0) → ((¬ (σ6.1 3 0) = (20 : Int32)) → vp_in ((3 : Int32) * (σ6.1 3 0)) 60 ∧ ∀ σ8 : St, σ8 = sI σ6 1 (Int32.toNatClampNeg ((3 : Int32) * (σ6.1 3 0))) a1 → vp_in (((3 : Int32) * (σ8.1 3 0)) + (1 : Int32)) 60 ∧ ∀ σ10 : St, σ10 = sI σ8 1 (Int32.toNatClampNeg (((3 : Int32) * (σ8.1 3 0)) + (1 : Int32))) ((a1 + a2) - (a1 + a2) / (36 : Int32) * (36 : Int32)) → vp_in (((3 : Int32) * (σ10.1 3 0)) + (2 : Int32)) 60 ∧ ∀ σ12 : St, σ12 = sI σ10 1 (Int32.toNatClampNeg (((3 : Int32) * (σ10.1 3 0)) + (2 : Int32))) (((a1 + a2) + a3) - ((a1 + a2) + a3) / (36 : Int32) * (36 : Int32)) → vp_in (σ12.1 3 0) 20 ∧ ∀ σ14 : St, σ14 = sI σ12 4 (Int32.toNatClampNeg (σ12.1 3 0)) (vp_nar .boolean (0 : Int32)) → ∀ σ15 : St, σ15 = sI σ14 3 0 ((σ14.1 3 0) + (1 : Int32)) → Q ((σ15.1 3 0) - (1 : Int32)) σ15) ∧ ((σ6.1 3 0) = (20 : Int32) → Q (-4 : Int32) σ6)) ∧ (r5 = 0 → Q (-2 : Int32) σ6))))))
theorem dy_X8_posture : yX8_posture.cls = yX8_posture.cls ∧ yX8_posture.cls ≠ "java/lang/invoke/MethodHandle" ∧ yX8_posture.cls ≠ "java/lang/invoke/VarHandle" ∧ (parseMethodDescriptor yX8_posture.desc).map (fun d => d.parameters.length) = some 3 := by decide +kernel
set_option maxHeartbeats 4000000 in
set_option maxRecDepth 100000 in
theorem lk_X8_posture {l : Launch} {D : va_G} {q : Nat → Nat} {ca : Nat → ClassId} (hE : qok 19 q) (a1 : Int32) (a2 : Int32) (a3 : Int32) (σ : St) (Q : Int32 → St → Prop) (hf : f_X8_posture a1 a2 a3 σ Q) : Mi l yX8_posture cX8_posture 4 (some .int) { frames := 1, cells := 0, slots := 0, locals := 25 } D (tysM ca) ZM (wM q ca) (AM q) [.ref (q 0), .int a1, .int a2, .int a3] σ Q := by
  refine j_start (own := RX8) (lv := [(0, .ref (q 0)), (1, .int a1), (2, .int a2), (3, .int a3)]) [.ref (q 0), .int a1, .int a2, .int a3] (by decide +kernel) rfl (wM_D hE σ) (Nat.le_of_ble_eq_true rfl) rfl (fun p e s m args below meth c hC => ?_)
  unfold f_X8_posture at hf
  refine j_iload_n hC 1 dX8_posture_0 (pc' := 1) rfl rfl ?_
  refine j_i2l hC dX8_posture_1 (pc' := 2) rfl ?_
  refine j_lconst hC (v := 0) dX8_posture_2 (pc' := 3) rfl (by decide) ?_
  refine j_ldc2 hC (v := 35) dX8_posture_3 (pc' := 6) rfl wm_641 ?_
  refine jcS_i hC (eM hE) (As := [.long (Int32.toInt64 a1), .long (0 : Int64), .long (35 : Int64)]) (lk_X8_in hE (Int32.toInt64 a1) (0 : Int64) (35 : Int64) σ _ hf) wm_642 wm_643 wm_8 wm_644 dy_X8_in ⟨rfl, rfl⟩ ⟨Nat.le_of_ble_eq_true rfl, Nat.le_of_ble_eq_true rfl⟩ ⟨Nat.le_refl _, Nat.le_refl _⟩ rfl rfl (Nat.le_of_ble_eq_true rfl) dX8_posture_6 (pc' := 9) rfl (fun r1 σ2 hf => ?_)
  refine j_if_eq hC (tgt := 36) dX8_posture_9 (pc' := 12) rfl (by decide) (fun c_ => ?_) (fun c_ => ?_)
  · replace hf := hf.1 c_
    refine j_bipush hC (v := -2) dX8_posture_36 (pc' := 38) rfl (by decide) ?_
    exact j_iret hC dX8_posture_38 hf
  · replace hf := hf.2 c_
    refine j_iload_n hC 2 dX8_posture_12 (pc' := 13) rfl rfl ?_
    refine j_i2l hC dX8_posture_13 (pc' := 14) rfl ?_
    refine j_lconst hC (v := 0) dX8_posture_14 (pc' := 15) rfl (by decide) ?_
    refine j_ldc2 hC (v := 35) dX8_posture_15 (pc' := 18) rfl wm_641 ?_
    refine jcS_i hC (eM hE) (As := [.long (Int32.toInt64 a2), .long (0 : Int64), .long (35 : Int64)]) (lk_X8_in hE (Int32.toInt64 a2) (0 : Int64) (35 : Int64) σ2 _ hf) wm_642 wm_643 wm_8 wm_644 dy_X8_in ⟨rfl, rfl⟩ ⟨Nat.le_of_ble_eq_true rfl, Nat.le_of_ble_eq_true rfl⟩ ⟨Nat.le_refl _, Nat.le_refl _⟩ rfl rfl (Nat.le_of_ble_eq_true rfl) dX8_posture_18 (pc' := 21) rfl (fun r3 σ4 hf => ?_)
    refine j_if_eq hC (tgt := 36) dX8_posture_21 (pc' := 24) rfl (by decide) (fun c_ => ?_) (fun c_ => ?_)
    · replace hf := hf.1 c_
      refine j_bipush hC (v := -2) dX8_posture_36 (pc' := 38) rfl (by decide) ?_
      exact j_iret hC dX8_posture_38 hf
    · replace hf := hf.2 c_
      refine j_iload_n hC 3 dX8_posture_24 (pc' := 25) rfl rfl ?_
      refine j_i2l hC dX8_posture_25 (pc' := 26) rfl ?_
      refine j_lconst hC (v := 0) dX8_posture_26 (pc' := 27) rfl (by decide) ?_
      refine j_ldc2 hC (v := 35) dX8_posture_27 (pc' := 30) rfl wm_641 ?_
      refine jcS_i hC (eM hE) (As := [.long (Int32.toInt64 a3), .long (0 : Int64), .long (35 : Int64)]) (lk_X8_in hE (Int32.toInt64 a3) (0 : Int64) (35 : Int64) σ4 _ hf) wm_642 wm_643 wm_8 wm_644 dy_X8_in ⟨rfl, rfl⟩ ⟨Nat.le_of_ble_eq_true rfl, Nat.le_of_ble_eq_true rfl⟩ ⟨Nat.le_refl _, Nat.le_refl _⟩ rfl rfl (Nat.le_of_ble_eq_true rfl) dX8_posture_30 (pc' := 33) rfl (fun r5 σ6 hf => ?_)
      refine j_if_ne hC (tgt := 39) dX8_posture_33 (pc' := 36) rfl (by decide) (fun c_ => ?_) (fun c_ => ?_)
      · replace hf := hf.1 c_
        refine j_aload_n hC 0 dX8_posture_39 (pc' := 40) rfl rfl ?_
        refine gM_postures hC wm_566 dX8_posture_40 (pc' := 43) rfl ?_
        refine j_bipush hC (v := 20) dX8_posture_43 (pc' := 45) rfl (by decide) ?_
        refine j_icmp_ne hC (tgt := 51) dX8_posture_45 (pc' := 48) rfl (by decide) (fun c_ => ?_) (fun c_ => ?_)
        · replace hf := hf.1 c_
          refine j_aload_n hC 0 dX8_posture_51 (pc' := 52) rfl rfl ?_
          refine gM_headings hC wm_567 dX8_posture_52 (pc' := 55) rfl ?_
          refine j_iconst hC (v := 3) dX8_posture_55 (pc' := 56) rfl (by decide) ?_
          refine j_aload_n hC 0 dX8_posture_56 (pc' := 57) rfl rfl ?_
          refine gM_postures hC wm_566 dX8_posture_57 (pc' := 60) rfl ?_
          refine j_imul hC dX8_posture_60 (pc' := 61) rfl ?_
          refine j_iload_n hC 1 dX8_posture_61 (pc' := 62) rfl rfl ?_
          obtain ⟨h7, hf⟩ := hf
          refine sM_headings hC (j := (Int32.toNatClampNeg ((3 : Int32) * (σ6.1 3 0)))) h7 rfl dX8_posture_62 (pc' := 63) rfl ?_
          refine j_nms (wf := wM q ca) (fun σ8 eσ8 => ?_)
          replace hf := hf σ8 eσ8
          refine j_aload_n hC 0 dX8_posture_63 (pc' := 64) rfl rfl ?_
          refine gM_headings hC wm_567 dX8_posture_64 (pc' := 67) rfl ?_
          refine j_iconst hC (v := 3) dX8_posture_67 (pc' := 68) rfl (by decide) ?_
          refine j_aload_n hC 0 dX8_posture_68 (pc' := 69) rfl rfl ?_
          refine gM_postures hC wm_566 dX8_posture_69 (pc' := 72) rfl ?_
          refine j_imul hC dX8_posture_72 (pc' := 73) rfl ?_
          refine j_iconst hC (v := 1) dX8_posture_73 (pc' := 74) rfl (by decide) ?_
          refine j_iadd hC dX8_posture_74 (pc' := 75) rfl ?_
          refine j_iload_n hC 1 dX8_posture_75 (pc' := 76) rfl rfl ?_
          refine j_iload_n hC 2 dX8_posture_76 (pc' := 77) rfl rfl ?_
          refine j_iadd hC dX8_posture_77 (pc' := 78) rfl ?_
          refine j_bipush hC (v := 36) dX8_posture_78 (pc' := 80) rfl (by decide) ?_
          refine j_irem hC dX8_posture_80 (pc' := 81) rfl (by decide) ?_
          obtain ⟨h9, hf⟩ := hf
          refine sM_headings hC (j := (Int32.toNatClampNeg (((3 : Int32) * (σ8.1 3 0)) + (1 : Int32)))) h9 rfl dX8_posture_81 (pc' := 82) rfl ?_
          refine j_nms (wf := wM q ca) (fun σ10 eσ10 => ?_)
          replace hf := hf σ10 eσ10
          refine j_aload_n hC 0 dX8_posture_82 (pc' := 83) rfl rfl ?_
          refine gM_headings hC wm_567 dX8_posture_83 (pc' := 86) rfl ?_
          refine j_iconst hC (v := 3) dX8_posture_86 (pc' := 87) rfl (by decide) ?_
          refine j_aload_n hC 0 dX8_posture_87 (pc' := 88) rfl rfl ?_
          refine gM_postures hC wm_566 dX8_posture_88 (pc' := 91) rfl ?_
          refine j_imul hC dX8_posture_91 (pc' := 92) rfl ?_
          refine j_iconst hC (v := 2) dX8_posture_92 (pc' := 93) rfl (by decide) ?_
          refine j_iadd hC dX8_posture_93 (pc' := 94) rfl ?_
          refine j_iload_n hC 1 dX8_posture_94 (pc' := 95) rfl rfl ?_
          refine j_iload_n hC 2 dX8_posture_95 (pc' := 96) rfl rfl ?_
          refine j_iadd hC dX8_posture_96 (pc' := 97) rfl ?_
          refine j_iload_n hC 3 dX8_posture_97 (pc' := 98) rfl rfl ?_
          refine j_iadd hC dX8_posture_98 (pc' := 99) rfl ?_
          refine j_bipush hC (v := 36) dX8_posture_99 (pc' := 101) rfl (by decide) ?_
          refine j_irem hC dX8_posture_101 (pc' := 102) rfl (by decide) ?_
          obtain ⟨h11, hf⟩ := hf
          refine sM_headings hC (j := (Int32.toNatClampNeg (((3 : Int32) * (σ10.1 3 0)) + (2 : Int32)))) h11 rfl dX8_posture_102 (pc' := 103) rfl ?_
          refine j_nms (wf := wM q ca) (fun σ12 eσ12 => ?_)
          replace hf := hf σ12 eσ12
          refine j_aload_n hC 0 dX8_posture_103 (pc' := 104) rfl rfl ?_
          refine gM_isOut hC wm_568 dX8_posture_104 (pc' := 107) rfl ?_
          refine j_aload_n hC 0 dX8_posture_107 (pc' := 108) rfl rfl ?_
          refine gM_postures hC wm_566 dX8_posture_108 (pc' := 111) rfl ?_
          refine j_iconst hC (v := 0) dX8_posture_111 (pc' := 112) rfl (by decide) ?_
          obtain ⟨h13, hf⟩ := hf
          refine sM_isOut hC (j := (Int32.toNatClampNeg (σ12.1 3 0))) h13 rfl dX8_posture_112 (pc' := 113) rfl ?_
          refine j_nms (wf := wM q ca) (fun σ14 eσ14 => ?_)
          replace hf := hf σ14 eσ14
          refine j_aload_n hC 0 dX8_posture_113 (pc' := 114) rfl rfl ?_
          refine j_dup hC dX8_posture_114 (pc' := 115) rfl rfl ?_
          refine gM_postures hC wm_566 dX8_posture_115 (pc' := 118) rfl ?_
          refine j_iconst hC (v := 1) dX8_posture_118 (pc' := 119) rfl (by decide) ?_
          refine j_iadd hC dX8_posture_119 (pc' := 120) rfl ?_
          refine pM_postures hC wm_566 dX8_posture_120 (pc' := 123) rfl ?_
          refine j_nms (wf := wM q ca) (fun σ15 eσ15 => ?_)
          replace hf := hf σ15 eσ15
          refine j_aload_n hC 0 dX8_posture_123 (pc' := 124) rfl rfl ?_
          refine gM_postures hC wm_566 dX8_posture_124 (pc' := 127) rfl ?_
          refine j_iconst hC (v := 1) dX8_posture_127 (pc' := 128) rfl (by decide) ?_
          refine j_isub hC dX8_posture_128 (pc' := 129) rfl ?_
          exact j_iret hC dX8_posture_129 hf
        · replace hf := hf.2 c_
          refine j_bipush hC (v := -4) dX8_posture_48 (pc' := 50) rfl (by decide) ?_
          exact j_iret hC dX8_posture_50 hf
      · replace hf := hf.2 c_
        refine j_bipush hC (v := -2) dX8_posture_36 (pc' := 38) rfl (by decide) ?_
        exact j_iret hC dX8_posture_38 hf
def f_X8_clear (σ : St) (Q : Int32 → St → Prop) : Prop := ∀ x1 : Int32, x1 = σ.1 3 0 → ∀ σ2 : St, σ2 = sI σ 3 0 (0 : Int32) → Q x1 σ2
theorem dy_X8_clear : yX8_clear.cls = yX8_clear.cls ∧ yX8_clear.cls ≠ "java/lang/invoke/MethodHandle" ∧ yX8_clear.cls ≠ "java/lang/invoke/VarHandle" ∧ (parseMethodDescriptor yX8_clear.desc).map (fun d => d.parameters.length) = some 0 := by decide +kernel
set_option maxHeartbeats 4000000 in
set_option maxRecDepth 100000 in
theorem lk_X8_clear {l : Launch} {D : va_G} {q : Nat → Nat} {ca : Nat → ClassId} (hE : qok 19 q) (σ : St) (Q : Int32 → St → Prop) (hf : f_X8_clear σ Q) : Mi l yX8_clear cX8_clear 2 (some .int) { frames := 0, cells := 0, slots := 0, locals := 0 } D (tysM ca) ZM (wM q ca) (AM q) [.ref (q 0)] σ Q := by
  refine j_start (own := RX8) (lv := [(0, .ref (q 0))]) [.ref (q 0)] (by decide +kernel) rfl (wM_D hE σ) (Nat.le_of_ble_eq_true rfl) rfl (fun p e s m args below meth c hC => ?_)
  unfold f_X8_clear at hf
  refine j_aload_n hC 0 dX8_clear_0 (pc' := 1) rfl rfl ?_
  refine gM_postures hC wm_566 dX8_clear_1 (pc' := 4) rfl ?_
  refine j_nmi (fun x1 ex1 => ?_)
  replace hf := hf x1 ex1
  refine j_istore_n hC (lv' := [(1, .int x1), (0, .ref (q 0))]) dX8_clear_4 (pc' := 5) rfl rfl (by decide) rfl ?_
  refine j_aload_n hC 1 dX8_clear_5 (pc' := 6) rfl rfl ?_
  refine j_iconst hC (v := 0) dX8_clear_6 (pc' := 7) rfl (by decide) ?_
  refine pM_postures hC wm_566 dX8_clear_7 (pc' := 10) rfl ?_
  refine j_nms (wf := wM q ca) (fun σ2 eσ2 => ?_)
  replace hf := hf σ2 eσ2
  refine j_iload_n hC 0 dX8_clear_10 (pc' := 11) rfl rfl ?_
  exact j_iret hC dX8_clear_11 hf
def f_X8_isPosture (a1 : Int32) (σ : St) (Q : Int32 → St → Prop) : Prop := f_X8_in (Int32.toInt64 a1) (0 : Int64) (Int32.toInt64 ((σ.1 3 0) - (1 : Int32))) σ (fun r1 σ2 => zok r1 ∧ Q r1 σ2)
theorem dy_X8_isPosture : yX8_isPosture.cls = yX8_isPosture.cls ∧ yX8_isPosture.cls ≠ "java/lang/invoke/MethodHandle" ∧ yX8_isPosture.cls ≠ "java/lang/invoke/VarHandle" ∧ (parseMethodDescriptor yX8_isPosture.desc).map (fun d => d.parameters.length) = some 1 := by decide +kernel
set_option maxHeartbeats 4000000 in
set_option maxRecDepth 100000 in
theorem lk_X8_isPosture {l : Launch} {D : va_G} {q : Nat → Nat} {ca : Nat → ClassId} (hE : qok 19 q) (a1 : Int32) (σ : St) (Q : Int32 → St → Prop) (hf : f_X8_isPosture a1 σ Q) : Mi l yX8_isPosture cX8_isPosture 2 (some .boolean) { frames := 1, cells := 0, slots := 0, locals := 25 } D (tysM ca) ZM (wM q ca) (AM q) [.ref (q 0), .int a1] σ Q := by
  refine j_start (own := RX8) (lv := [(0, .ref (q 0)), (1, .int a1)]) [.ref (q 0), .int a1] (by decide +kernel) rfl (wM_D hE σ) (Nat.le_of_ble_eq_true rfl) rfl (fun p e s m args below meth c hC => ?_)
  unfold f_X8_isPosture at hf
  refine j_iload_n hC 1 dX8_isPosture_0 (pc' := 1) rfl rfl ?_
  refine j_i2l hC dX8_isPosture_1 (pc' := 2) rfl ?_
  refine j_lconst hC (v := 0) dX8_isPosture_2 (pc' := 3) rfl (by decide) ?_
  refine j_aload_n hC 0 dX8_isPosture_3 (pc' := 4) rfl rfl ?_
  refine gM_postures hC wm_566 dX8_isPosture_4 (pc' := 7) rfl ?_
  refine j_iconst hC (v := 1) dX8_isPosture_7 (pc' := 8) rfl (by decide) ?_
  refine j_isub hC dX8_isPosture_8 (pc' := 9) rfl ?_
  refine j_i2l hC dX8_isPosture_9 (pc' := 10) rfl ?_
  refine jcS_i hC (eM hE) (As := [.long (Int32.toInt64 a1), .long (0 : Int64), .long (Int32.toInt64 ((σ.1 3 0) - (1 : Int32)))]) (lk_X8_in hE (Int32.toInt64 a1) (0 : Int64) (Int32.toInt64 ((σ.1 3 0) - (1 : Int32))) σ _ hf) wm_642 wm_643 wm_8 wm_644 dy_X8_in ⟨rfl, rfl⟩ ⟨Nat.le_of_ble_eq_true rfl, Nat.le_of_ble_eq_true rfl⟩ ⟨Nat.le_refl _, Nat.le_refl _⟩ rfl rfl (Nat.le_of_ble_eq_true rfl) dX8_isPosture_10 (pc' := 13) rfl (fun r1 σ2 hf => ?_)
  exact j_zret hC dX8_isPosture_13 hf.1 hf.2
def f_X8_part (a1 : Int32) (a2 : Int32) (a3 : Int32) (σ : St) (Q : Int32 → St → Prop) : Prop := vp_in (((3 : Int32) * a1) + a2) 60 ∧ ∀ x2 : Int32, x2 = σ.1 1 (Int32.toNatClampNeg (((3 : Int32) * a1) + a2)) → ((¬ a3 = 0) → f_X8_s x2 σ (fun r3 σ4 => Q r3 σ4)) ∧ (a3 = 0 → f_X8_c x2 σ (fun r5 σ6 => Q r5 σ6))
theorem dy_X8_part : yX8_part.cls = yX8_part.cls ∧ yX8_part.cls ≠ "java/lang/invoke/MethodHandle" ∧ yX8_part.cls ≠ "java/lang/invoke/VarHandle" ∧ (parseMethodDescriptor yX8_part.desc).map (fun d => d.parameters.length) = some 3 := by decide +kernel
set_option maxHeartbeats 4000000 in
set_option maxRecDepth 100000 in
theorem lk_X8_part {l : Launch} {D : va_G} {q : Nat → Nat} {ca : Nat → ClassId} (hE : qok 19 q) (a1 : Int32) (a2 : Int32) (a3 : Int32) (σ : St) (Q : Int32 → St → Prop) (hf : f_X8_part a1 a2 a3 σ Q) : Mi l yX8_part cX8_part 5 (some .int) { frames := 1, cells := 0, slots := 0, locals := 21 } D (tysM ca) ZM (wM q ca) (AM q) [.ref (q 0), .int a1, .int a2, .int a3] σ Q := by
  refine j_start (own := RX8) (lv := [(0, .ref (q 0)), (1, .int a1), (2, .int a2), (3, .int a3)]) [.ref (q 0), .int a1, .int a2, .int a3] (by decide +kernel) rfl (wM_D hE σ) (Nat.le_of_ble_eq_true rfl) rfl (fun p e s m args below meth c hC => ?_)
  unfold f_X8_part at hf
  refine j_aload_n hC 0 dX8_part_0 (pc' := 1) rfl rfl ?_
  refine gM_headings hC wm_567 dX8_part_1 (pc' := 4) rfl ?_
  refine j_iconst hC (v := 3) dX8_part_4 (pc' := 5) rfl (by decide) ?_
  refine j_iload_n hC 1 dX8_part_5 (pc' := 6) rfl rfl ?_
  refine j_imul hC dX8_part_6 (pc' := 7) rfl ?_
  refine j_iload_n hC 2 dX8_part_7 (pc' := 8) rfl rfl ?_
  refine j_iadd hC dX8_part_8 (pc' := 9) rfl ?_
  obtain ⟨h1, hf⟩ := hf
  refine lM_headings hC (j := (Int32.toNatClampNeg (((3 : Int32) * a1) + a2))) h1 rfl dX8_part_9 (pc' := 10) rfl ?_
  refine j_nmi (fun x2 ex2 => ?_)
  replace hf := hf x2 ex2
  refine j_istore hC (lv' := [(4, .int x2), (0, .ref (q 0)), (1, .int a1), (2, .int a2), (3, .int a3)]) dX8_part_10 (pc' := 12) rfl (by decide) rfl ?_
  refine j_iload_n hC 4 dX8_part_12 (pc' := 13) rfl rfl ?_
  refine j_if_ne hC (tgt := 25) dX8_part_13 (pc' := 16) rfl (by decide) (fun c_ => ?_) (fun c_ => ?_)
  · replace hf := hf.1 c_
    refine j_aload_n hC 1 dX8_part_25 (pc' := 26) rfl rfl ?_
    refine j_iload hC 0 dX8_part_26 (pc' := 28) rfl rfl ?_
    refine jcV_i hC (eM hE) (As := [.int x2]) (obM_X8) (rfl) (lk_X8_s hE x2 σ _ hf) wm_648 wm_649 wm_902 wm_8 wm_650 dy_X8_s ⟨rfl, rfl⟩ ⟨Nat.le_of_ble_eq_true rfl, Nat.le_of_ble_eq_true rfl⟩ ⟨Nat.le_refl _, Nat.le_refl _⟩ rfl rfl (Nat.le_of_ble_eq_true rfl) dX8_part_28 (pc' := 31) rfl (fun r3 σ4 hf => ?_)
    exact j_iret hC dX8_part_31 hf
  · replace hf := hf.2 c_
    refine j_aload_n hC 1 dX8_part_16 (pc' := 17) rfl rfl ?_
    refine j_iload hC 0 dX8_part_17 (pc' := 19) rfl rfl ?_
    refine jcV_i hC (eM hE) (As := [.int x2]) (obM_X8) (rfl) (lk_X8_c hE x2 σ _ hf) wm_645 wm_646 wm_901 wm_8 wm_647 dy_X8_c ⟨rfl, rfl⟩ ⟨Nat.le_of_ble_eq_true rfl, Nat.le_of_ble_eq_true rfl⟩ ⟨Nat.le_refl _, Nat.le_refl _⟩ rfl rfl (Nat.le_of_ble_eq_true rfl) dX8_part_19 (pc' := 22) rfl (fun r5 σ6 hf => ?_)
    refine j_goto hC (tgt := 31) dX8_part_22 (by decide) ?_
    exact j_iret hC dX8_part_31 hf
def f_X8_handOf (a1 : Int32) (a2 : Int32) (σ : St) (Q : Int32 → St → Prop) : Prop := f_X8_part a1 (0 : Int32) a2 σ (fun r1 σ2 => f_X8_part a1 (1 : Int32) a2 σ2 (fun r3 σ4 => f_X8_part a1 (2 : Int32) a2 σ4 (fun r5 σ6 => Q ((((σ.1 0 0) * r1) + ((σ2.1 0 1) * r3)) + ((σ4.1 0 2) * r5)) σ6)))
theorem dy_X8_handOf : yX8_handOf.cls = yX8_handOf.cls ∧ yX8_handOf.cls ≠ "java/lang/invoke/MethodHandle" ∧ yX8_handOf.cls ≠ "java/lang/invoke/VarHandle" ∧ (parseMethodDescriptor yX8_handOf.desc).map (fun d => d.parameters.length) = some 2 := by decide +kernel
set_option maxHeartbeats 4000000 in
set_option maxRecDepth 100000 in
theorem lk_X8_handOf {l : Launch} {D : va_G} {q : Nat → Nat} {ca : Nat → ClassId} (hE : qok 19 q) (a1 : Int32) (a2 : Int32) (σ : St) (Q : Int32 → St → Prop) (hf : f_X8_handOf a1 a2 σ Q) : Mi l yX8_handOf cX8_handOf 3 (some .int) { frames := 2, cells := 0, slots := 0, locals := 45 } D (tysM ca) ZM (wM q ca) (AM q) [.ref (q 0), .int a1, .int a2] σ Q := by
  refine j_start (own := RX8) (lv := [(0, .ref (q 0)), (1, .int a1), (2, .int a2)]) [.ref (q 0), .int a1, .int a2] (by decide +kernel) rfl (wM_D hE σ) (Nat.le_of_ble_eq_true rfl) rfl (fun p e s m args below meth c hC => ?_)
  unfold f_X8_handOf at hf
  refine j_aload_n hC 0 dX8_handOf_0 (pc' := 1) rfl rfl ?_
  refine gM_lengths hC wm_565 dX8_handOf_1 (pc' := 4) rfl ?_
  refine j_iconst hC (v := 0) dX8_handOf_4 (pc' := 5) rfl (by decide) ?_
  refine lM_lengths hC (j := 0) (show ¬ ((0 : Int32) < 0 ∨ 3 ≤ (0 : Int32).toNatClampNeg) from by decide) (by decide) dX8_handOf_5 (pc' := 6) rfl ?_
  refine j_aload_n hC 0 dX8_handOf_6 (pc' := 7) rfl rfl ?_
  refine j_iload_n hC 1 dX8_handOf_7 (pc' := 8) rfl rfl ?_
  refine j_iconst hC (v := 0) dX8_handOf_8 (pc' := 9) rfl (by decide) ?_
  refine j_iload_n hC 2 dX8_handOf_9 (pc' := 10) rfl rfl ?_
  refine jcV_i hC (eM hE) (As := [.int a1, .int (0 : Int32), .int a2]) (obM_X8) (rfl) (lk_X8_part hE a1 (0 : Int32) a2 σ _ hf) wm_675 wm_676 wm_905 wm_8 wm_677 dy_X8_part ⟨rfl, rfl⟩ ⟨Nat.le_of_ble_eq_true rfl, Nat.le_of_ble_eq_true rfl⟩ ⟨Nat.le_refl _, Nat.le_refl _⟩ rfl rfl (Nat.le_of_ble_eq_true rfl) dX8_handOf_10 (pc' := 13) rfl (fun r1 σ2 hf => ?_)
  refine j_imul hC dX8_handOf_13 (pc' := 14) rfl ?_
  refine j_aload_n hC 0 dX8_handOf_14 (pc' := 15) rfl rfl ?_
  refine gM_lengths hC wm_565 dX8_handOf_15 (pc' := 18) rfl ?_
  refine j_iconst hC (v := 1) dX8_handOf_18 (pc' := 19) rfl (by decide) ?_
  refine lM_lengths hC (j := 1) (show ¬ ((1 : Int32) < 0 ∨ 3 ≤ (1 : Int32).toNatClampNeg) from by decide) (by decide) dX8_handOf_19 (pc' := 20) rfl ?_
  refine j_aload_n hC 0 dX8_handOf_20 (pc' := 21) rfl rfl ?_
  refine j_iload_n hC 1 dX8_handOf_21 (pc' := 22) rfl rfl ?_
  refine j_iconst hC (v := 1) dX8_handOf_22 (pc' := 23) rfl (by decide) ?_
  refine j_iload_n hC 2 dX8_handOf_23 (pc' := 24) rfl rfl ?_
  refine jcV_i hC (eM hE) (As := [.int a1, .int (1 : Int32), .int a2]) (obM_X8) (rfl) (lk_X8_part hE a1 (1 : Int32) a2 σ2 _ hf) wm_675 wm_676 wm_905 wm_8 wm_677 dy_X8_part ⟨rfl, rfl⟩ ⟨Nat.le_of_ble_eq_true rfl, Nat.le_of_ble_eq_true rfl⟩ ⟨Nat.le_refl _, Nat.le_refl _⟩ rfl rfl (Nat.le_of_ble_eq_true rfl) dX8_handOf_24 (pc' := 27) rfl (fun r3 σ4 hf => ?_)
  refine j_imul hC dX8_handOf_27 (pc' := 28) rfl ?_
  refine j_iadd hC dX8_handOf_28 (pc' := 29) rfl ?_
  refine j_aload_n hC 0 dX8_handOf_29 (pc' := 30) rfl rfl ?_
  refine gM_lengths hC wm_565 dX8_handOf_30 (pc' := 33) rfl ?_
  refine j_iconst hC (v := 2) dX8_handOf_33 (pc' := 34) rfl (by decide) ?_
  refine lM_lengths hC (j := 2) (show ¬ ((2 : Int32) < 0 ∨ 3 ≤ (2 : Int32).toNatClampNeg) from by decide) (by decide) dX8_handOf_34 (pc' := 35) rfl ?_
  refine j_aload_n hC 0 dX8_handOf_35 (pc' := 36) rfl rfl ?_
  refine j_iload_n hC 1 dX8_handOf_36 (pc' := 37) rfl rfl ?_
  refine j_iconst hC (v := 2) dX8_handOf_37 (pc' := 38) rfl (by decide) ?_
  refine j_iload_n hC 2 dX8_handOf_38 (pc' := 39) rfl rfl ?_
  refine jcV_i hC (eM hE) (As := [.int a1, .int (2 : Int32), .int a2]) (obM_X8) (rfl) (lk_X8_part hE a1 (2 : Int32) a2 σ4 _ hf) wm_675 wm_676 wm_905 wm_8 wm_677 dy_X8_part ⟨rfl, rfl⟩ ⟨Nat.le_of_ble_eq_true rfl, Nat.le_of_ble_eq_true rfl⟩ ⟨Nat.le_refl _, Nat.le_refl _⟩ rfl rfl (Nat.le_of_ble_eq_true rfl) dX8_handOf_39 (pc' := 42) rfl (fun r5 σ6 hf => ?_)
  refine j_imul hC dX8_handOf_42 (pc' := 43) rfl ?_
  refine j_iadd hC dX8_handOf_43 (pc' := 44) rfl ?_
  exact j_iret hC dX8_handOf_44 hf
def f_X8_hand (a1 : Int32) (a2 : Int32) (σ : St) (Q : Int32 → St → Prop) : Prop := f_X8_isPosture a1 σ (fun r1 σ2 => (r1 = 0 → Q (-2147483648 : Int32) σ2) ∧ ((¬ r1 = 0) → f_X8_in (Int32.toInt64 a2) (0 : Int64) (1 : Int64) σ2 (fun r3 σ4 => (r3 = 0 → Q (-2147483648 : Int32) σ4) ∧ ((¬ r3 = 0) → f_X8_handOf a1 a2 σ4 (fun r5 σ6 => Q r5 σ6)))))
theorem dy_X8_hand : yX8_hand.cls = yX8_hand.cls ∧ yX8_hand.cls ≠ "java/lang/invoke/MethodHandle" ∧ yX8_hand.cls ≠ "java/lang/invoke/VarHandle" ∧ (parseMethodDescriptor yX8_hand.desc).map (fun d => d.parameters.length) = some 2 := by decide +kernel
set_option maxHeartbeats 4000000 in
set_option maxRecDepth 100000 in
theorem lk_X8_hand {l : Launch} {D : va_G} {q : Nat → Nat} {ca : Nat → ClassId} (hE : qok 19 q) (a1 : Int32) (a2 : Int32) (σ : St) (Q : Int32 → St → Prop) (hf : f_X8_hand a1 a2 σ Q) : Mi l yX8_hand cX8_hand 3 (some .int) { frames := 3, cells := 0, slots := 0, locals := 67 } D (tysM ca) ZM (wM q ca) (AM q) [.ref (q 0), .int a1, .int a2] σ Q := by
  refine j_start (own := RX8) (lv := [(0, .ref (q 0)), (1, .int a1), (2, .int a2)]) [.ref (q 0), .int a1, .int a2] (by decide +kernel) rfl (wM_D hE σ) (Nat.le_of_ble_eq_true rfl) rfl (fun p e s m args below meth c hC => ?_)
  unfold f_X8_hand at hf
  refine j_aload_n hC 0 dX8_hand_0 (pc' := 1) rfl rfl ?_
  refine j_iload_n hC 1 dX8_hand_1 (pc' := 2) rfl rfl ?_
  refine jcV_i hC (eM hE) (As := [.int a1]) (obM_X8) (rfl) (lk_X8_isPosture hE a1 σ _ hf) wm_669 wm_670 wm_903 wm_8 wm_671 dy_X8_isPosture ⟨rfl, rfl⟩ ⟨Nat.le_of_ble_eq_true rfl, Nat.le_of_ble_eq_true rfl⟩ ⟨Nat.le_refl _, Nat.le_refl _⟩ rfl rfl (Nat.le_of_ble_eq_true rfl) dX8_hand_2 (pc' := 5) rfl (fun r1 σ2 hf => ?_)
  refine j_if_eq hC (tgt := 27) dX8_hand_5 (pc' := 8) rfl (by decide) (fun c_ => ?_) (fun c_ => ?_)
  · replace hf := hf.1 c_
    refine j_ldc hC (v := -2147483648) dX8_hand_27 (pc' := 29) rfl wm_678 ?_
    exact j_iret hC dX8_hand_29 hf
  · replace hf := hf.2 c_
    refine j_iload_n hC 2 dX8_hand_8 (pc' := 9) rfl rfl ?_
    refine j_i2l hC dX8_hand_9 (pc' := 10) rfl ?_
    refine j_lconst hC (v := 0) dX8_hand_10 (pc' := 11) rfl (by decide) ?_
    refine j_lconst hC (v := 1) dX8_hand_11 (pc' := 12) rfl (by decide) ?_
    refine jcS_i hC (eM hE) (As := [.long (Int32.toInt64 a2), .long (0 : Int64), .long (1 : Int64)]) (lk_X8_in hE (Int32.toInt64 a2) (0 : Int64) (1 : Int64) σ2 _ hf) wm_642 wm_643 wm_8 wm_644 dy_X8_in ⟨rfl, rfl⟩ ⟨Nat.le_of_ble_eq_true rfl, Nat.le_of_ble_eq_true rfl⟩ ⟨Nat.le_refl _, Nat.le_refl _⟩ rfl rfl (Nat.le_of_ble_eq_true rfl) dX8_hand_12 (pc' := 15) rfl (fun r3 σ4 hf => ?_)
    refine j_if_eq hC (tgt := 27) dX8_hand_15 (pc' := 18) rfl (by decide) (fun c_ => ?_) (fun c_ => ?_)
    · replace hf := hf.1 c_
      refine j_ldc hC (v := -2147483648) dX8_hand_27 (pc' := 29) rfl wm_678 ?_
      exact j_iret hC dX8_hand_29 hf
    · replace hf := hf.2 c_
      refine j_aload_n hC 0 dX8_hand_18 (pc' := 19) rfl rfl ?_
      refine j_iload_n hC 1 dX8_hand_19 (pc' := 20) rfl rfl ?_
      refine j_iload_n hC 2 dX8_hand_20 (pc' := 21) rfl rfl ?_
      refine jcV_i hC (eM hE) (As := [.int a1, .int a2]) (obM_X8) (rfl) (lk_X8_handOf hE a1 a2 σ4 _ hf) wm_672 wm_673 wm_904 wm_8 wm_674 dy_X8_handOf ⟨rfl, rfl⟩ ⟨Nat.le_of_ble_eq_true rfl, Nat.le_of_ble_eq_true rfl⟩ ⟨Nat.le_refl _, Nat.le_refl _⟩ rfl rfl (Nat.le_of_ble_eq_true rfl) dX8_hand_21 (pc' := 24) rfl (fun r5 σ6 hf => ?_)
      refine j_goto hC (tgt := 29) dX8_hand_24 (by decide) ?_
      exact j_iret hC dX8_hand_29 hf
def f_X8_item (a1 : Int32) (σ : St) (Q : Int32 → St → Prop) : Prop := ((σ.1 22 0) < 0 → Q (-10000 : Int32) σ) ∧ ((¬ (σ.1 22 0) < 0) → (a1 < (σ.1 23 0) → vp_in a1 400 ∧ Q (σ.1 24 (Int32.toNatClampNeg a1)) σ) ∧ ((¬ a1 < (σ.1 23 0)) → Q (-10000 : Int32) σ))
theorem dy_X8_item : yX8_item.cls = yX8_item.cls ∧ yX8_item.cls ≠ "java/lang/invoke/MethodHandle" ∧ yX8_item.cls ≠ "java/lang/invoke/VarHandle" ∧ (parseMethodDescriptor yX8_item.desc).map (fun d => d.parameters.length) = some 1 := by decide +kernel
set_option maxHeartbeats 4000000 in
set_option maxRecDepth 100000 in
theorem lk_X8_item {l : Launch} {D : va_G} {q : Nat → Nat} {ca : Nat → ClassId} (hE : qok 19 q) (a1 : Int32) (σ : St) (Q : Int32 → St → Prop) (hf : f_X8_item a1 σ Q) : Mi l yX8_item cX8_item 2 (some .int) { frames := 0, cells := 0, slots := 0, locals := 0 } D (tysM ca) ZM (wM q ca) (AM q) [.ref (q 0), .int a1] σ Q := by
  refine j_start (own := RX8) (lv := [(0, .ref (q 0)), (1, .int a1)]) [.ref (q 0), .int a1] (by decide +kernel) rfl (wM_D hE σ) (Nat.le_of_ble_eq_true rfl) rfl (fun p e s m args below meth c hC => ?_)
  unfold f_X8_item at hf
  refine j_aload_n hC 0 dX8_item_0 (pc' := 1) rfl rfl ?_
  refine gM_forms hC wm_583 dX8_item_1 (pc' := 4) rfl ?_
  refine j_iconst hC (v := 0) dX8_item_4 (pc' := 5) rfl (by decide) ?_
  refine lM_forms hC (j := 0) (show ¬ ((0 : Int32) < 0 ∨ 4 ≤ (0 : Int32).toNatClampNeg) from by decide) (by decide) dX8_item_5 (pc' := 6) rfl ?_
  refine j_if_lt hC (tgt := 19) dX8_item_6 (pc' := 9) rfl (by decide) (fun c_ => ?_) (fun c_ => ?_)
  · replace hf := hf.1 c_
    refine j_sipush hC (v := -10000) dX8_item_19 (pc' := 22) rfl (by decide) ?_
    refine j_goto hC (tgt := 31) dX8_item_22 (by decide) ?_
    exact j_iret hC dX8_item_31 hf
  · replace hf := hf.2 c_
    refine j_iload_n hC 1 dX8_item_9 (pc' := 10) rfl rfl ?_
    refine j_aload_n hC 0 dX8_item_10 (pc' := 11) rfl rfl ?_
    refine gM_sizes hC wm_584 dX8_item_11 (pc' := 14) rfl ?_
    refine j_iconst hC (v := 0) dX8_item_14 (pc' := 15) rfl (by decide) ?_
    refine lM_sizes hC (j := 0) (show ¬ ((0 : Int32) < 0 ∨ 4 ≤ (0 : Int32).toNatClampNeg) from by decide) (by decide) dX8_item_15 (pc' := 16) rfl ?_
    refine j_icmp_lt hC (tgt := 25) dX8_item_16 (pc' := 19) rfl (by decide) (fun c_ => ?_) (fun c_ => ?_)
    · replace hf := hf.1 c_
      refine j_aload_n hC 0 dX8_item_25 (pc' := 26) rfl rfl ?_
      refine gM_items hC wm_585 dX8_item_26 (pc' := 29) rfl ?_
      refine j_iload_n hC 1 dX8_item_29 (pc' := 30) rfl rfl ?_
      obtain ⟨h1, hf⟩ := hf
      refine lM_items hC (j := (Int32.toNatClampNeg a1)) h1 rfl dX8_item_30 (pc' := 31) rfl ?_
      exact j_iret hC dX8_item_31 hf
    · replace hf := hf.2 c_
      refine j_sipush hC (v := -10000) dX8_item_19 (pc' := 22) rfl (by decide) ?_
      refine j_goto hC (tgt := 31) dX8_item_22 (by decide) ?_
      exact j_iret hC dX8_item_31 hf
def f_X8_hasMeasure (a1 : Int32) (σ : St) (Q : Int32 → St → Prop) : Prop := f_X8_item ((2 : Int32) * a1) σ (fun r1 σ2 => f_X8_in (Int32.toInt64 r1) (-9999 : Int64) (9999 : Int64) σ2 (fun r3 σ4 => (r3 = 0 → Q (0 : Int32) σ4) ∧ ((¬ r3 = 0) → f_X8_item (((2 : Int32) * a1) + (1 : Int32)) σ4 (fun r5 σ6 => f_X8_in (Int32.toInt64 r5) (-9999 : Int64) (9999 : Int64) σ6 (fun r7 σ8 => (r7 = 0 → Q (0 : Int32) σ8) ∧ ((¬ r7 = 0) → Q (1 : Int32) σ8))))))
theorem dy_X8_hasMeasure : yX8_hasMeasure.cls = yX8_hasMeasure.cls ∧ yX8_hasMeasure.cls ≠ "java/lang/invoke/MethodHandle" ∧ yX8_hasMeasure.cls ≠ "java/lang/invoke/VarHandle" ∧ (parseMethodDescriptor yX8_hasMeasure.desc).map (fun d => d.parameters.length) = some 1 := by decide +kernel
set_option maxHeartbeats 4000000 in
set_option maxRecDepth 100000 in
theorem lk_X8_hasMeasure {l : Launch} {D : va_G} {q : Nat → Nat} {ca : Nat → ClassId} (hE : qok 19 q) (a1 : Int32) (σ : St) (Q : Int32 → St → Prop) (hf : f_X8_hasMeasure a1 σ Q) : Mi l yX8_hasMeasure cX8_hasMeasure 2 (some .boolean) { frames := 1, cells := 0, slots := 0, locals := 25 } D (tysM ca) ZM (wM q ca) (AM q) [.ref (q 0), .int a1] σ Q := by
  refine j_start (own := RX8) (lv := [(0, .ref (q 0)), (1, .int a1)]) [.ref (q 0), .int a1] (by decide +kernel) rfl (wM_D hE σ) (Nat.le_of_ble_eq_true rfl) rfl (fun p e s m args below meth c hC => ?_)
  unfold f_X8_hasMeasure at hf
  refine j_aload_n hC 0 dX8_hasMeasure_0 (pc' := 1) rfl rfl ?_
  refine j_iconst hC (v := 2) dX8_hasMeasure_1 (pc' := 2) rfl (by decide) ?_
  refine j_iload_n hC 1 dX8_hasMeasure_2 (pc' := 3) rfl rfl ?_
  refine j_imul hC dX8_hasMeasure_3 (pc' := 4) rfl ?_
  refine jcV_i hC (eM hE) (As := [.int ((2 : Int32) * a1)]) (obM_X8) (rfl) (lk_X8_item hE ((2 : Int32) * a1) σ _ hf) wm_686 wm_687 wm_907 wm_8 wm_688 dy_X8_item ⟨rfl, rfl⟩ ⟨Nat.le_of_ble_eq_true rfl, Nat.le_of_ble_eq_true rfl⟩ ⟨Nat.le_refl _, Nat.le_refl _⟩ rfl rfl (Nat.le_of_ble_eq_true rfl) dX8_hasMeasure_4 (pc' := 7) rfl (fun r1 σ2 hf => ?_)
  refine j_i2l hC dX8_hasMeasure_7 (pc' := 8) rfl ?_
  refine j_ldc2 hC (v := -9999) dX8_hasMeasure_8 (pc' := 11) rfl wm_689 ?_
  refine j_ldc2 hC (v := 9999) dX8_hasMeasure_11 (pc' := 14) rfl wm_690 ?_
  refine jcS_i hC (eM hE) (As := [.long (Int32.toInt64 r1), .long (-9999 : Int64), .long (9999 : Int64)]) (lk_X8_in hE (Int32.toInt64 r1) (-9999 : Int64) (9999 : Int64) σ2 _ hf) wm_642 wm_643 wm_8 wm_644 dy_X8_in ⟨rfl, rfl⟩ ⟨Nat.le_of_ble_eq_true rfl, Nat.le_of_ble_eq_true rfl⟩ ⟨Nat.le_refl _, Nat.le_refl _⟩ rfl rfl (Nat.le_of_ble_eq_true rfl) dX8_hasMeasure_14 (pc' := 17) rfl (fun r3 σ4 hf => ?_)
  refine j_if_eq hC (tgt := 46) dX8_hasMeasure_17 (pc' := 20) rfl (by decide) (fun c_ => ?_) (fun c_ => ?_)
  · replace hf := hf.1 c_
    refine j_iconst hC (v := 0) dX8_hasMeasure_46 (pc' := 47) rfl (by decide) ?_
    exact j_zret hC dX8_hasMeasure_47 (Or.inl rfl) hf
  · replace hf := hf.2 c_
    refine j_aload_n hC 0 dX8_hasMeasure_20 (pc' := 21) rfl rfl ?_
    refine j_iconst hC (v := 2) dX8_hasMeasure_21 (pc' := 22) rfl (by decide) ?_
    refine j_iload_n hC 1 dX8_hasMeasure_22 (pc' := 23) rfl rfl ?_
    refine j_imul hC dX8_hasMeasure_23 (pc' := 24) rfl ?_
    refine j_iconst hC (v := 1) dX8_hasMeasure_24 (pc' := 25) rfl (by decide) ?_
    refine j_iadd hC dX8_hasMeasure_25 (pc' := 26) rfl ?_
    refine jcV_i hC (eM hE) (As := [.int (((2 : Int32) * a1) + (1 : Int32))]) (obM_X8) (rfl) (lk_X8_item hE (((2 : Int32) * a1) + (1 : Int32)) σ4 _ hf) wm_686 wm_687 wm_907 wm_8 wm_688 dy_X8_item ⟨rfl, rfl⟩ ⟨Nat.le_of_ble_eq_true rfl, Nat.le_of_ble_eq_true rfl⟩ ⟨Nat.le_refl _, Nat.le_refl _⟩ rfl rfl (Nat.le_of_ble_eq_true rfl) dX8_hasMeasure_26 (pc' := 29) rfl (fun r5 σ6 hf => ?_)
    refine j_i2l hC dX8_hasMeasure_29 (pc' := 30) rfl ?_
    refine j_ldc2 hC (v := -9999) dX8_hasMeasure_30 (pc' := 33) rfl wm_689 ?_
    refine j_ldc2 hC (v := 9999) dX8_hasMeasure_33 (pc' := 36) rfl wm_690 ?_
    refine jcS_i hC (eM hE) (As := [.long (Int32.toInt64 r5), .long (-9999 : Int64), .long (9999 : Int64)]) (lk_X8_in hE (Int32.toInt64 r5) (-9999 : Int64) (9999 : Int64) σ6 _ hf) wm_642 wm_643 wm_8 wm_644 dy_X8_in ⟨rfl, rfl⟩ ⟨Nat.le_of_ble_eq_true rfl, Nat.le_of_ble_eq_true rfl⟩ ⟨Nat.le_refl _, Nat.le_refl _⟩ rfl rfl (Nat.le_of_ble_eq_true rfl) dX8_hasMeasure_36 (pc' := 39) rfl (fun r7 σ8 hf => ?_)
    refine j_if_eq hC (tgt := 46) dX8_hasMeasure_39 (pc' := 42) rfl (by decide) (fun c_ => ?_) (fun c_ => ?_)
    · replace hf := hf.1 c_
      refine j_iconst hC (v := 0) dX8_hasMeasure_46 (pc' := 47) rfl (by decide) ?_
      exact j_zret hC dX8_hasMeasure_47 (Or.inl rfl) hf
    · replace hf := hf.2 c_
      refine j_iconst hC (v := 1) dX8_hasMeasure_42 (pc' := 43) rfl (by decide) ?_
      refine j_goto hC (tgt := 47) dX8_hasMeasure_43 (by decide) ?_
      exact j_zret hC dX8_hasMeasure_47 (Or.inr rfl) hf
def f_X8_measure (a1 : Int32) (a2 : Int32) (σ : St) (Q : Int32 → St → Prop) : Prop := f_X8_isPosture a1 σ (fun r1 σ2 => (r1 = 0 → Q (-10000 : Int32) σ2) ∧ ((¬ r1 = 0) → f_X8_in (Int32.toInt64 a2) (0 : Int64) (1 : Int64) σ2 (fun r3 σ4 => ((¬ r3 = 0) → f_X8_hasMeasure a1 σ4 (fun r5 σ6 => (r5 = 0 → Q (-10001 : Int32) σ6) ∧ ((¬ r5 = 0) → f_X8_item (((2 : Int32) * a1) + a2) σ6 (fun r7 σ8 => Q r7 σ8)))) ∧ (r3 = 0 → Q (-10000 : Int32) σ4))))
theorem dy_X8_measure : yX8_measure.cls = yX8_measure.cls ∧ yX8_measure.cls ≠ "java/lang/invoke/MethodHandle" ∧ yX8_measure.cls ≠ "java/lang/invoke/VarHandle" ∧ (parseMethodDescriptor yX8_measure.desc).map (fun d => d.parameters.length) = some 2 := by decide +kernel
set_option maxHeartbeats 4000000 in
set_option maxRecDepth 100000 in
theorem lk_X8_measure {l : Launch} {D : va_G} {q : Nat → Nat} {ca : Nat → ClassId} (hE : qok 19 q) (a1 : Int32) (a2 : Int32) (σ : St) (Q : Int32 → St → Prop) (hf : f_X8_measure a1 a2 σ Q) : Mi l yX8_measure cX8_measure 3 (some .int) { frames := 2, cells := 0, slots := 0, locals := 46 } D (tysM ca) ZM (wM q ca) (AM q) [.ref (q 0), .int a1, .int a2] σ Q := by
  refine j_start (own := RX8) (lv := [(0, .ref (q 0)), (1, .int a1), (2, .int a2)]) [.ref (q 0), .int a1, .int a2] (by decide +kernel) rfl (wM_D hE σ) (Nat.le_of_ble_eq_true rfl) rfl (fun p e s m args below meth c hC => ?_)
  unfold f_X8_measure at hf
  refine j_aload_n hC 0 dX8_measure_0 (pc' := 1) rfl rfl ?_
  refine j_iload_n hC 1 dX8_measure_1 (pc' := 2) rfl rfl ?_
  refine jcV_i hC (eM hE) (As := [.int a1]) (obM_X8) (rfl) (lk_X8_isPosture hE a1 σ _ hf) wm_669 wm_670 wm_903 wm_8 wm_671 dy_X8_isPosture ⟨rfl, rfl⟩ ⟨Nat.le_of_ble_eq_true rfl, Nat.le_of_ble_eq_true rfl⟩ ⟨Nat.le_refl _, Nat.le_refl _⟩ rfl rfl (Nat.le_of_ble_eq_true rfl) dX8_measure_2 (pc' := 5) rfl (fun r1 σ2 hf => ?_)
  refine j_if_eq hC (tgt := 18) dX8_measure_5 (pc' := 8) rfl (by decide) (fun c_ => ?_) (fun c_ => ?_)
  · replace hf := hf.1 c_
    refine j_sipush hC (v := -10000) dX8_measure_18 (pc' := 21) rfl (by decide) ?_
    exact j_iret hC dX8_measure_21 hf
  · replace hf := hf.2 c_
    refine j_iload_n hC 2 dX8_measure_8 (pc' := 9) rfl rfl ?_
    refine j_i2l hC dX8_measure_9 (pc' := 10) rfl ?_
    refine j_lconst hC (v := 0) dX8_measure_10 (pc' := 11) rfl (by decide) ?_
    refine j_lconst hC (v := 1) dX8_measure_11 (pc' := 12) rfl (by decide) ?_
    refine jcS_i hC (eM hE) (As := [.long (Int32.toInt64 a2), .long (0 : Int64), .long (1 : Int64)]) (lk_X8_in hE (Int32.toInt64 a2) (0 : Int64) (1 : Int64) σ2 _ hf) wm_642 wm_643 wm_8 wm_644 dy_X8_in ⟨rfl, rfl⟩ ⟨Nat.le_of_ble_eq_true rfl, Nat.le_of_ble_eq_true rfl⟩ ⟨Nat.le_refl _, Nat.le_refl _⟩ rfl rfl (Nat.le_of_ble_eq_true rfl) dX8_measure_12 (pc' := 15) rfl (fun r3 σ4 hf => ?_)
    refine j_if_ne hC (tgt := 22) dX8_measure_15 (pc' := 18) rfl (by decide) (fun c_ => ?_) (fun c_ => ?_)
    · replace hf := hf.1 c_
      refine j_aload_n hC 0 dX8_measure_22 (pc' := 23) rfl rfl ?_
      refine j_iload_n hC 1 dX8_measure_23 (pc' := 24) rfl rfl ?_
      refine jcV_i hC (eM hE) (As := [.int a1]) (obM_X8) (rfl) (lk_X8_hasMeasure hE a1 σ4 _ hf) wm_683 wm_684 wm_906 wm_8 wm_685 dy_X8_hasMeasure ⟨rfl, rfl⟩ ⟨Nat.le_of_ble_eq_true rfl, Nat.le_of_ble_eq_true rfl⟩ ⟨Nat.le_refl _, Nat.le_refl _⟩ rfl rfl (Nat.le_of_ble_eq_true rfl) dX8_measure_24 (pc' := 27) rfl (fun r5 σ6 hf => ?_)
      refine j_if_eq hC (tgt := 42) dX8_measure_27 (pc' := 30) rfl (by decide) (fun c_ => ?_) (fun c_ => ?_)
      · replace hf := hf.1 c_
        refine j_sipush hC (v := -10001) dX8_measure_42 (pc' := 45) rfl (by decide) ?_
        exact j_iret hC dX8_measure_45 hf
      · replace hf := hf.2 c_
        refine j_aload_n hC 0 dX8_measure_30 (pc' := 31) rfl rfl ?_
        refine j_iconst hC (v := 2) dX8_measure_31 (pc' := 32) rfl (by decide) ?_
        refine j_iload_n hC 1 dX8_measure_32 (pc' := 33) rfl rfl ?_
        refine j_imul hC dX8_measure_33 (pc' := 34) rfl ?_
        refine j_iload_n hC 2 dX8_measure_34 (pc' := 35) rfl rfl ?_
        refine j_iadd hC dX8_measure_35 (pc' := 36) rfl ?_
        refine jcV_i hC (eM hE) (As := [.int (((2 : Int32) * a1) + a2)]) (obM_X8) (rfl) (lk_X8_item hE (((2 : Int32) * a1) + a2) σ6 _ hf) wm_686 wm_687 wm_907 wm_8 wm_688 dy_X8_item ⟨rfl, rfl⟩ ⟨Nat.le_of_ble_eq_true rfl, Nat.le_of_ble_eq_true rfl⟩ ⟨Nat.le_refl _, Nat.le_refl _⟩ rfl rfl (Nat.le_of_ble_eq_true rfl) dX8_measure_36 (pc' := 39) rfl (fun r7 σ8 hf => ?_)
        refine j_goto hC (tgt := 45) dX8_measure_39 (by decide) ?_
        exact j_iret hC dX8_measure_45 hf
    · replace hf := hf.2 c_
      refine j_sipush hC (v := -10000) dX8_measure_18 (pc' := 21) rfl (by decide) ?_
      exact j_iret hC dX8_measure_21 hf
def f_X8_leave (a1 : Int32) (a2 : Int32) (σ : St) (Q : Int32 → St → Prop) : Prop := f_X8_isPosture a1 σ (fun r1 σ2 => ((¬ r1 = 0) → vp_in a1 20 ∧ ∀ σ4 : St, σ4 = sI σ2 4 (Int32.toNatClampNeg a1) (vp_nar .boolean a2) → Q (1 : Int32) σ4) ∧ (r1 = 0 → Q (-2 : Int32) σ2))
theorem dy_X8_leave : yX8_leave.cls = yX8_leave.cls ∧ yX8_leave.cls ≠ "java/lang/invoke/MethodHandle" ∧ yX8_leave.cls ≠ "java/lang/invoke/VarHandle" ∧ (parseMethodDescriptor yX8_leave.desc).map (fun d => d.parameters.length) = some 2 := by decide +kernel
set_option maxHeartbeats 4000000 in
set_option maxRecDepth 100000 in
theorem lk_X8_leave {l : Launch} {D : va_G} {q : Nat → Nat} {ca : Nat → ClassId} (hE : qok 19 q) (a1 : Int32) (a2 : Int32) (σ : St) (Q : Int32 → St → Prop) (hf : f_X8_leave a1 a2 σ Q) : Mi l yX8_leave cX8_leave 3 (some .int) { frames := 2, cells := 0, slots := 0, locals := 46 } D (tysM ca) ZM (wM q ca) (AM q) [.ref (q 0), .int a1, .int a2] σ Q := by
  refine j_start (own := RX8) (lv := [(0, .ref (q 0)), (1, .int a1), (2, .int a2)]) [.ref (q 0), .int a1, .int a2] (by decide +kernel) rfl (wM_D hE σ) (Nat.le_of_ble_eq_true rfl) rfl (fun p e s m args below meth c hC => ?_)
  unfold f_X8_leave at hf
  refine j_aload_n hC 0 dX8_leave_0 (pc' := 1) rfl rfl ?_
  refine j_iload_n hC 1 dX8_leave_1 (pc' := 2) rfl rfl ?_
  refine jcV_i hC (eM hE) (As := [.int a1]) (obM_X8) (rfl) (lk_X8_isPosture hE a1 σ _ hf) wm_669 wm_670 wm_903 wm_8 wm_671 dy_X8_isPosture ⟨rfl, rfl⟩ ⟨Nat.le_of_ble_eq_true rfl, Nat.le_of_ble_eq_true rfl⟩ ⟨Nat.le_refl _, Nat.le_refl _⟩ rfl rfl (Nat.le_of_ble_eq_true rfl) dX8_leave_2 (pc' := 5) rfl (fun r1 σ2 hf => ?_)
  refine j_if_ne hC (tgt := 11) dX8_leave_5 (pc' := 8) rfl (by decide) (fun c_ => ?_) (fun c_ => ?_)
  · replace hf := hf.1 c_
    refine j_aload_n hC 0 dX8_leave_11 (pc' := 12) rfl rfl ?_
    refine gM_isOut hC wm_568 dX8_leave_12 (pc' := 15) rfl ?_
    refine j_iload_n hC 1 dX8_leave_15 (pc' := 16) rfl rfl ?_
    refine j_iload_n hC 2 dX8_leave_16 (pc' := 17) rfl rfl ?_
    obtain ⟨h3, hf⟩ := hf
    refine sM_isOut hC (j := (Int32.toNatClampNeg a1)) h3 rfl dX8_leave_17 (pc' := 18) rfl ?_
    refine j_nms (wf := wM q ca) (fun σ4 eσ4 => ?_)
    replace hf := hf σ4 eσ4
    refine j_iconst hC (v := 1) dX8_leave_18 (pc' := 19) rfl (by decide) ?_
    exact j_iret hC dX8_leave_19 hf
  · replace hf := hf.2 c_
    refine j_bipush hC (v := -2) dX8_leave_8 (pc' := 10) rfl (by decide) ?_
    exact j_iret hC dX8_leave_10 hf
def f_X8_findUsed_b7 (Q : St → Prop) : Nat → Int32 → St → Prop
  | 0, _, _ => False
  | n + 1, a1, σ => ((σ.1 3 0) ≤ a1 → Q σ) ∧ ((¬ (σ.1 3 0) ≤ a1) → ((12 : Int32) ≤ (σ.1 17 0) → Q σ) ∧ ((¬ (12 : Int32) ≤ (σ.1 17 0)) → f_X8_hasMeasure a1 σ (fun r2 σ3 => (r2 = 0 → ∀ x4 : Int32, x4 = a1 + (1 : Int32) → f_X8_findUsed_b7 Q  n x4 σ3) ∧ ((¬ r2 = 0) → vp_in a1 20 ∧ ((¬ (σ3.1 4 (Int32.toNatClampNeg a1)) = 0) → ∀ x6 : Int32, x6 = a1 + (1 : Int32) → f_X8_findUsed_b7 Q  n x6 σ3) ∧ ((σ3.1 4 (Int32.toNatClampNeg a1)) = 0 → vp_in (σ3.1 17 0) 12 ∧ ∀ σ8 : St, σ8 = sI σ3 5 (Int32.toNatClampNeg (σ3.1 17 0)) a1 → ∀ σ9 : St, σ9 = sI σ8 17 0 ((σ8.1 17 0) + (1 : Int32)) → ∀ x10 : Int32, x10 = a1 + (1 : Int32) → f_X8_findUsed_b7 Q  n x10 σ9)))))
def f_X8_findUsed (σ : St) (Q : St → Prop) : Prop := ∀ σ1 : St, σ1 = sI σ 17 0 (0 : Int32) → ∃ n11 : Nat, f_X8_findUsed_b7 Q n11 (0 : Int32) σ1
theorem dy_X8_findUsed : yX8_findUsed.cls = yX8_findUsed.cls ∧ yX8_findUsed.cls ≠ "java/lang/invoke/MethodHandle" ∧ yX8_findUsed.cls ≠ "java/lang/invoke/VarHandle" ∧ (parseMethodDescriptor yX8_findUsed.desc).map (fun d => d.parameters.length) = some 0 := by decide +kernel
set_option maxHeartbeats 4000000 in
set_option maxRecDepth 100000 in
theorem lb_X8_findUsed_b7 {l : Launch} {D : va_G} {q : Nat → Nat} {ca : Nat → ClassId} {p : Program} {e : Env} {s : State} {m : MethodId} {args : Array Value} {below : List Frame} {meth : Method} {c : Code} (hE : qok 19 q) (hC : Cx p s m args meth c cX8_findUsed 2 RX8 none D (tysM ca) ZM) (Q : St → Prop) : ∀ (n : Nat) (a1 : Int32) (σ : St), f_X8_findUsed_b7 Q n a1 σ → J p l e { frames := 2, cells := 0, slots := 0, locals := 46 } s m args below meth c (MQ below (va_Qv Q (BW D (wM q ca)) (AM q)) args s 0 0 (AM q)) D (AM q) 2 0 0 (wM q ca σ) 7 [(0, .ref (q 0)), (1, .int a1)] [] := by
  intro n
  induction n with
  | zero => intro a1 σ hf; exact hf.elim
  | succ n ih =>
    intro a1 σ hf
    unfold f_X8_findUsed_b7 at hf
    refine j_iload_n hC 1 dX8_findUsed_7 (pc' := 8) rfl rfl ?_
    refine j_aload_n hC 0 dX8_findUsed_8 (pc' := 9) rfl rfl ?_
    refine gM_postures hC wm_566 dX8_findUsed_9 (pc' := 12) rfl ?_
    refine j_icmp_ge hC (tgt := 67) dX8_findUsed_12 (pc' := 15) rfl (by decide) (fun c_ => ?_) (fun c_ => ?_)
    · replace hf := hf.1 c_
      exact j_vret hC dX8_findUsed_67 hf
    · replace hf := hf.2 c_
      refine j_aload_n hC 0 dX8_findUsed_15 (pc' := 16) rfl rfl ?_
      refine gM_usedMany hC wm_570 dX8_findUsed_16 (pc' := 19) rfl ?_
      refine j_bipush hC (v := 12) dX8_findUsed_19 (pc' := 21) rfl (by decide) ?_
      refine j_icmp_ge hC (tgt := 67) dX8_findUsed_21 (pc' := 24) rfl (by decide) (fun c_ => ?_) (fun c_ => ?_)
      · replace hf := hf.1 c_
        exact j_vret hC dX8_findUsed_67 hf
      · replace hf := hf.2 c_
        refine j_aload_n hC 0 dX8_findUsed_24 (pc' := 25) rfl rfl ?_
        refine j_iload_n hC 1 dX8_findUsed_25 (pc' := 26) rfl rfl ?_
        refine jcV_i hC (eM hE) (As := [.int a1]) (obM_X8) (rfl) (lk_X8_hasMeasure hE a1 σ _ hf) wm_683 wm_684 wm_906 wm_8 wm_685 dy_X8_hasMeasure ⟨rfl, rfl⟩ ⟨Nat.le_of_ble_eq_true rfl, Nat.le_of_ble_eq_true rfl⟩ ⟨Nat.le_refl _, Nat.le_refl _⟩ rfl rfl (Nat.le_of_ble_eq_true rfl) dX8_findUsed_26 (pc' := 29) rfl (fun r2 σ3 hf => ?_)
        refine j_if_eq hC (tgt := 61) dX8_findUsed_29 (pc' := 32) rfl (by decide) (fun c_ => ?_) (fun c_ => ?_)
        · replace hf := hf.1 c_
          obtain ⟨x4, ex4⟩ : ∃ y : Int32, y = a1 + (1 : Int32) := ⟨_, rfl⟩
          replace hf := hf x4 ex4
          refine j_iinc hC (v := x4) (q := 1) (lv' := [(1, .int x4), (0, .ref (q 0))]) dX8_findUsed_61 (pc' := 64) rfl rfl (by rw [ex4]; rfl) (by decide) rfl ?_
          refine j_goto hC (tgt := 7) dX8_findUsed_64 (by decide) ?_
          refine j_lv [1, 0] rfl ?_
          exact ih x4 σ3 hf
        · replace hf := hf.2 c_
          refine j_aload_n hC 0 dX8_findUsed_32 (pc' := 33) rfl rfl ?_
          refine gM_isOut hC wm_568 dX8_findUsed_33 (pc' := 36) rfl ?_
          refine j_iload_n hC 1 dX8_findUsed_36 (pc' := 37) rfl rfl ?_
          obtain ⟨h5, hf⟩ := hf
          refine lM_isOut hC (j := (Int32.toNatClampNeg a1)) h5 rfl dX8_findUsed_37 (pc' := 38) rfl ?_
          refine j_if_ne hC (tgt := 61) dX8_findUsed_38 (pc' := 41) rfl (by decide) (fun c_ => ?_) (fun c_ => ?_)
          · replace hf := hf.1 c_
            obtain ⟨x6, ex6⟩ : ∃ y : Int32, y = a1 + (1 : Int32) := ⟨_, rfl⟩
            replace hf := hf x6 ex6
            refine j_iinc hC (v := x6) (q := 1) (lv' := [(1, .int x6), (0, .ref (q 0))]) dX8_findUsed_61 (pc' := 64) rfl rfl (by rw [ex6]; rfl) (by decide) rfl ?_
            refine j_goto hC (tgt := 7) dX8_findUsed_64 (by decide) ?_
            refine j_lv [1, 0] rfl ?_
            exact ih x6 σ3 hf
          · replace hf := hf.2 c_
            refine j_aload_n hC 0 dX8_findUsed_41 (pc' := 42) rfl rfl ?_
            refine gM_used hC wm_569 dX8_findUsed_42 (pc' := 45) rfl ?_
            refine j_aload_n hC 0 dX8_findUsed_45 (pc' := 46) rfl rfl ?_
            refine gM_usedMany hC wm_570 dX8_findUsed_46 (pc' := 49) rfl ?_
            refine j_iload_n hC 1 dX8_findUsed_49 (pc' := 50) rfl rfl ?_
            obtain ⟨h7, hf⟩ := hf
            refine sM_used hC (j := (Int32.toNatClampNeg (σ3.1 17 0))) h7 rfl dX8_findUsed_50 (pc' := 51) rfl ?_
            refine j_nms (wf := wM q ca) (fun σ8 eσ8 => ?_)
            replace hf := hf σ8 eσ8
            refine j_aload_n hC 0 dX8_findUsed_51 (pc' := 52) rfl rfl ?_
            refine j_dup hC dX8_findUsed_52 (pc' := 53) rfl rfl ?_
            refine gM_usedMany hC wm_570 dX8_findUsed_53 (pc' := 56) rfl ?_
            refine j_iconst hC (v := 1) dX8_findUsed_56 (pc' := 57) rfl (by decide) ?_
            refine j_iadd hC dX8_findUsed_57 (pc' := 58) rfl ?_
            refine pM_usedMany hC wm_570 dX8_findUsed_58 (pc' := 61) rfl ?_
            refine j_nms (wf := wM q ca) (fun σ9 eσ9 => ?_)
            replace hf := hf σ9 eσ9
            obtain ⟨x10, ex10⟩ : ∃ y : Int32, y = a1 + (1 : Int32) := ⟨_, rfl⟩
            replace hf := hf x10 ex10
            refine j_iinc hC (v := x10) (q := 1) (lv' := [(1, .int x10), (0, .ref (q 0))]) dX8_findUsed_61 (pc' := 64) rfl rfl (by rw [ex10]; rfl) (by decide) rfl ?_
            refine j_goto hC (tgt := 7) dX8_findUsed_64 (by decide) ?_
            refine j_lv [1, 0] rfl ?_
            exact ih x10 σ9 hf
set_option maxHeartbeats 4000000 in
set_option maxRecDepth 100000 in
theorem lk_X8_findUsed {l : Launch} {D : va_G} {q : Nat → Nat} {ca : Nat → ClassId} (hE : qok 19 q) (σ : St) (Q : St → Prop) (hf : f_X8_findUsed σ Q) : Mv l yX8_findUsed cX8_findUsed 2 none { frames := 2, cells := 0, slots := 0, locals := 46 } D (tysM ca) ZM (wM q ca) (AM q) [.ref (q 0)] σ Q := by
  refine j_start (own := RX8) (lv := [(0, .ref (q 0))]) [.ref (q 0)] (by decide +kernel) rfl (wM_D hE σ) (Nat.le_of_ble_eq_true rfl) rfl (fun p e s m args below meth c hC => ?_)
  unfold f_X8_findUsed at hf
  refine j_aload_n hC 0 dX8_findUsed_0 (pc' := 1) rfl rfl ?_
  refine j_iconst hC (v := 0) dX8_findUsed_1 (pc' := 2) rfl (by decide) ?_
  refine pM_usedMany hC wm_570 dX8_findUsed_2 (pc' := 5) rfl ?_
  refine j_nms (wf := wM q ca) (fun σ1 eσ1 => ?_)
  replace hf := hf σ1 eσ1
  refine j_iconst hC (v := 0) dX8_findUsed_5 (pc' := 6) rfl (by decide) ?_
  refine j_istore_n hC (lv' := [(1, .int (0 : Int32)), (0, .ref (q 0))]) dX8_findUsed_6 (pc' := 7) rfl rfl (by decide) rfl ?_
  obtain ⟨n11, hf⟩ := hf
  refine j_lv [1, 0] rfl ?_
  exact lb_X8_findUsed_b7 hE hC Q n11 (0 : Int32) σ1 hf
def f_X8_used (σ : St) (Q : Int32 → St → Prop) : Prop := f_X8_findUsed σ (fun σ2 => Q (σ2.1 17 0) σ2)
theorem dy_X8_used : yX8_used.cls = yX8_used.cls ∧ yX8_used.cls ≠ "java/lang/invoke/MethodHandle" ∧ yX8_used.cls ≠ "java/lang/invoke/VarHandle" ∧ (parseMethodDescriptor yX8_used.desc).map (fun d => d.parameters.length) = some 0 := by decide +kernel
set_option maxHeartbeats 4000000 in
set_option maxRecDepth 100000 in
theorem lk_X8_used {l : Launch} {D : va_G} {q : Nat → Nat} {ca : Nat → ClassId} (hE : qok 19 q) (σ : St) (Q : Int32 → St → Prop) (hf : f_X8_used σ Q) : Mi l yX8_used cX8_used 1 (some .int) { frames := 3, cells := 0, slots := 0, locals := 67 } D (tysM ca) ZM (wM q ca) (AM q) [.ref (q 0)] σ Q := by
  refine j_start (own := RX8) (lv := [(0, .ref (q 0))]) [.ref (q 0)] (by decide +kernel) rfl (wM_D hE σ) (Nat.le_of_ble_eq_true rfl) rfl (fun p e s m args below meth c hC => ?_)
  unfold f_X8_used at hf
  refine j_aload_n hC 0 dX8_used_0 (pc' := 1) rfl rfl ?_
  refine jcV_v hC (eM hE) (As := []) (obM_X8) (rfl) (lk_X8_findUsed hE  σ _ hf) wm_699 wm_700 wm_908 wm_8 wm_701 dy_X8_findUsed ⟨rfl, rfl⟩ ⟨Nat.le_of_ble_eq_true rfl, Nat.le_of_ble_eq_true rfl⟩ ⟨Nat.le_refl _, Nat.le_refl _⟩ rfl rfl (Nat.le_of_ble_eq_true rfl) dX8_used_1 (pc' := 4) rfl (fun σ2 hf => ?_)
  refine j_aload_n hC 0 dX8_used_4 (pc' := 5) rfl rfl ?_
  refine gM_usedMany hC wm_570 dX8_used_5 (pc' := 8) rfl ?_
  exact j_iret hC dX8_used_8 hf
def f_X8_nothing_b23 (Q : St → Prop) : Nat → Int32 → St → Prop
  | 0, _, _ => False
  | n + 1, a1, σ => ((3 : Int32) ≤ a1 → Q σ) ∧ ((¬ (3 : Int32) ≤ a1) → vp_in a1 3 ∧ ∀ σ2 : St, σ2 = sL σ 1 (Int32.toNatClampNeg a1) (0 : Int64) → ∀ x3 : Int32, x3 = a1 + (1 : Int32) → f_X8_nothing_b23 Q  n x3 σ2)
def f_X8_nothing_b2 (Q : St → Prop) : Nat → Int32 → St → Prop
  | 0, _, _ => False
  | n + 1, a1, σ => ((9 : Int32) ≤ a1 → ∃ n4 : Nat, f_X8_nothing_b23 Q n4 (0 : Int32) σ) ∧ ((¬ (9 : Int32) ≤ a1) → vp_in a1 9 ∧ ∀ σ6 : St, σ6 = sL σ 0 (Int32.toNatClampNeg a1) (0 : Int64) → ∀ x7 : Int32, x7 = a1 + (1 : Int32) → f_X8_nothing_b2 Q  n x7 σ6)
def f_X8_nothing (σ : St) (Q : St → Prop) : Prop := ∃ n8 : Nat, f_X8_nothing_b2 Q n8 (0 : Int32) σ
theorem dy_X8_nothing : yX8_nothing.cls = yX8_nothing.cls ∧ yX8_nothing.cls ≠ "java/lang/invoke/MethodHandle" ∧ yX8_nothing.cls ≠ "java/lang/invoke/VarHandle" ∧ (parseMethodDescriptor yX8_nothing.desc).map (fun d => d.parameters.length) = some 0 := by decide +kernel
set_option maxHeartbeats 4000000 in
set_option maxRecDepth 100000 in
theorem lb_X8_nothing_b23 {l : Launch} {D : va_G} {q : Nat → Nat} {ca : Nat → ClassId} {p : Program} {e : Env} {s : State} {m : MethodId} {args : Array Value} {below : List Frame} {meth : Method} {c : Code} (hE : qok 19 q) (hC : Cx p s m args meth c cX8_nothing 2 RX8 none D (tysM ca) ZM) (Q : St → Prop) : ∀ (n : Nat) (a1 : Int32) (σ : St), f_X8_nothing_b23 Q n a1 σ → J p l e { frames := 0, cells := 0, slots := 0, locals := 0 } s m args below meth c (MQ below (va_Qv Q (BW D (wM q ca)) (AM q)) args s 0 0 (AM q)) D (AM q) 2 0 0 (wM q ca σ) 23 [(0, .ref (q 0)), (1, .int a1)] [] := by
  intro n
  induction n with
  | zero => intro a1 σ hf; exact hf.elim
  | succ n ih =>
    intro a1 σ hf
    unfold f_X8_nothing_b23 at hf
    refine j_iload_n hC 1 dX8_nothing_23 (pc' := 24) rfl rfl ?_
    refine j_iconst hC (v := 3) dX8_nothing_24 (pc' := 25) rfl (by decide) ?_
    refine j_icmp_ge hC (tgt := 41) dX8_nothing_25 (pc' := 28) rfl (by decide) (fun c_ => ?_) (fun c_ => ?_)
    · replace hf := hf.1 c_
      exact j_vret hC dX8_nothing_41 hf
    · replace hf := hf.2 c_
      refine j_aload_n hC 0 dX8_nothing_28 (pc' := 29) rfl rfl ?_
      refine gM_right hC wm_572 dX8_nothing_29 (pc' := 32) rfl ?_
      refine j_iload_n hC 1 dX8_nothing_32 (pc' := 33) rfl rfl ?_
      refine j_lconst hC (v := 0) dX8_nothing_33 (pc' := 34) rfl (by decide) ?_
      obtain ⟨h1, hf⟩ := hf
      refine sM_right hC (j := (Int32.toNatClampNeg a1)) h1 rfl dX8_nothing_34 (pc' := 35) rfl ?_
      refine j_nms (wf := wM q ca) (fun σ2 eσ2 => ?_)
      replace hf := hf σ2 eσ2
      obtain ⟨x3, ex3⟩ : ∃ y : Int32, y = a1 + (1 : Int32) := ⟨_, rfl⟩
      replace hf := hf x3 ex3
      refine j_iinc hC (v := x3) (q := 1) (lv' := [(1, .int x3), (0, .ref (q 0))]) dX8_nothing_35 (pc' := 38) rfl rfl (by rw [ex3]; rfl) (by decide) rfl ?_
      refine j_goto hC (tgt := 23) dX8_nothing_38 (by decide) ?_
      refine j_lv [1, 0] rfl ?_
      exact ih x3 σ2 hf
set_option maxHeartbeats 4000000 in
set_option maxRecDepth 100000 in
theorem lb_X8_nothing_b2 {l : Launch} {D : va_G} {q : Nat → Nat} {ca : Nat → ClassId} {p : Program} {e : Env} {s : State} {m : MethodId} {args : Array Value} {below : List Frame} {meth : Method} {c : Code} (hE : qok 19 q) (hC : Cx p s m args meth c cX8_nothing 2 RX8 none D (tysM ca) ZM) (Q : St → Prop) : ∀ (n : Nat) (a1 : Int32) (σ : St), f_X8_nothing_b2 Q n a1 σ → J p l e { frames := 0, cells := 0, slots := 0, locals := 0 } s m args below meth c (MQ below (va_Qv Q (BW D (wM q ca)) (AM q)) args s 0 0 (AM q)) D (AM q) 2 0 0 (wM q ca σ) 2 [(0, .ref (q 0)), (1, .int a1)] [] := by
  intro n
  induction n with
  | zero => intro a1 σ hf; exact hf.elim
  | succ n ih =>
    intro a1 σ hf
    unfold f_X8_nothing_b2 at hf
    refine j_iload_n hC 1 dX8_nothing_2 (pc' := 3) rfl rfl ?_
    refine j_bipush hC (v := 9) dX8_nothing_3 (pc' := 5) rfl (by decide) ?_
    refine j_icmp_ge hC (tgt := 21) dX8_nothing_5 (pc' := 8) rfl (by decide) (fun c_ => ?_) (fun c_ => ?_)
    · replace hf := hf.1 c_
      refine j_iconst hC (v := 0) dX8_nothing_21 (pc' := 22) rfl (by decide) ?_
      refine j_istore_n hC (lv' := [(1, .int (0 : Int32)), (0, .ref (q 0))]) dX8_nothing_22 (pc' := 23) rfl rfl (by decide) rfl ?_
      obtain ⟨n4, hf⟩ := hf
      refine j_lv [1, 0] rfl ?_
      exact lb_X8_nothing_b23 hE hC Q n4 (0 : Int32) σ hf
    · replace hf := hf.2 c_
      refine j_aload_n hC 0 dX8_nothing_8 (pc' := 9) rfl rfl ?_
      refine gM_g hC wm_571 dX8_nothing_9 (pc' := 12) rfl ?_
      refine j_iload_n hC 1 dX8_nothing_12 (pc' := 13) rfl rfl ?_
      refine j_lconst hC (v := 0) dX8_nothing_13 (pc' := 14) rfl (by decide) ?_
      obtain ⟨h5, hf⟩ := hf
      refine sM_g hC (j := (Int32.toNatClampNeg a1)) h5 rfl dX8_nothing_14 (pc' := 15) rfl ?_
      refine j_nms (wf := wM q ca) (fun σ6 eσ6 => ?_)
      replace hf := hf σ6 eσ6
      obtain ⟨x7, ex7⟩ : ∃ y : Int32, y = a1 + (1 : Int32) := ⟨_, rfl⟩
      replace hf := hf x7 ex7
      refine j_iinc hC (v := x7) (q := 1) (lv' := [(1, .int x7), (0, .ref (q 0))]) dX8_nothing_15 (pc' := 18) rfl rfl (by rw [ex7]; rfl) (by decide) rfl ?_
      refine j_goto hC (tgt := 2) dX8_nothing_18 (by decide) ?_
      refine j_lv [1, 0] rfl ?_
      exact ih x7 σ6 hf
set_option maxHeartbeats 4000000 in
set_option maxRecDepth 100000 in
theorem lk_X8_nothing {l : Launch} {D : va_G} {q : Nat → Nat} {ca : Nat → ClassId} (hE : qok 19 q) (σ : St) (Q : St → Prop) (hf : f_X8_nothing σ Q) : Mv l yX8_nothing cX8_nothing 2 none { frames := 0, cells := 0, slots := 0, locals := 0 } D (tysM ca) ZM (wM q ca) (AM q) [.ref (q 0)] σ Q := by
  refine j_start (own := RX8) (lv := [(0, .ref (q 0))]) [.ref (q 0)] (by decide +kernel) rfl (wM_D hE σ) (Nat.le_of_ble_eq_true rfl) rfl (fun p e s m args below meth c hC => ?_)
  unfold f_X8_nothing at hf
  refine j_iconst hC (v := 0) dX8_nothing_0 (pc' := 1) rfl (by decide) ?_
  refine j_istore_n hC (lv' := [(1, .int (0 : Int32)), (0, .ref (q 0))]) dX8_nothing_1 (pc' := 2) rfl rfl (by decide) rfl ?_
  obtain ⟨n8, hf⟩ := hf
  refine j_lv [1, 0] rfl ?_
  exact lb_X8_nothing_b2 hE hC Q n8 (0 : Int32) σ hf
