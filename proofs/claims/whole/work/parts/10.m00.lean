def f_X3_round (a0 : Int32) (σ : St) (Q : Int32 → St → Prop) : Prop := Q (a0 - a0 / (36 : Int32) * (36 : Int32)) σ
theorem dy_X3_round : yX3_round.cls ≠ "java/lang/invoke/MethodHandle" ∧ yX3_round.cls ≠ "java/lang/invoke/VarHandle" ∧ (parseMethodDescriptor yX3_round.desc).map (fun d => d.parameters.length) = some 1 := by decide +kernel
set_option maxHeartbeats 4000000 in
set_option maxRecDepth 100000 in
theorem lk_X3_round {l : Launch} {D : va_G} {q : Nat → Nat} {ca : Nat → ClassId} {t : Nat} (hE : qok 28 q) (a0 : Int32) (σ : St) (Q : Int32 → St → Prop) (hf : f_X3_round a0 σ Q) : Mi l yX3_round cX3_round 1 (some .int) { frames := 0, cells := 0, slots := 0, locals := 0 } D (tysX ca) (ZX q t) (wX q ca) (AX q) [.int a0] σ Q := by
  refine j_start (own := RX3) (lv := [(0, .int a0)]) [.int a0] (by decide +kernel) rfl (wX_D hE σ) (Nat.le_of_ble_eq_true rfl) rfl (fun p e s m args below meth c hC => ?_)
  unfold f_X3_round at hf
  refine j_iload_n hC 0 dX3_round_0 (pc' := 1) rfl rfl ?_
  refine j_bipush hC (v := 36) dX3_round_1 (pc' := 3) rfl (by decide) ?_
  refine j_irem hC dX3_round_3 (pc' := 4) rfl (by decide) ?_
  exact j_iret hC dX3_round_4 hf
def f_X3_cOf (a0 : Int32) (σ : St) (Q : Int32 → St → Prop) : Prop := vp_in a0 36 ∧ Q (COF (Int32.toNatClampNeg a0)) σ
theorem dy_X3_cOf : yX3_cOf.cls ≠ "java/lang/invoke/MethodHandle" ∧ yX3_cOf.cls ≠ "java/lang/invoke/VarHandle" ∧ (parseMethodDescriptor yX3_cOf.desc).map (fun d => d.parameters.length) = some 1 := by decide +kernel
set_option maxHeartbeats 4000000 in
set_option maxRecDepth 100000 in
theorem lk_X3_cOf {l : Launch} {D : va_G} {q : Nat → Nat} {ca : Nat → ClassId} {t : Nat} (hE : qok 28 q) (a0 : Int32) (σ : St) (Q : Int32 → St → Prop) (hf : f_X3_cOf a0 σ Q) : Mi l yX3_cOf cX3_cOf 1 (some .int) { frames := 0, cells := 0, slots := 0, locals := 0 } D (tysX ca) (ZX q t) (wX q ca) (AX q) [.int a0] σ Q := by
  refine j_start (own := RX3) (lv := [(0, .int a0)]) [.int a0] (by decide +kernel) rfl (wX_D hE σ) (Nat.le_of_ble_eq_true rfl) rfl (fun p e s m args below meth c hC => ?_)
  unfold f_X3_cOf at hf
  refine gX_COF hC wm_184 dX3_cOf_0 (pc' := 3) rfl ?_
  refine j_iload_n hC 0 dX3_cOf_3 (pc' := 4) rfl rfl ?_
  obtain ⟨h1, hf⟩ := hf
  refine lX_COF hC (j := (Int32.toNatClampNeg a0)) h1 rfl dX3_cOf_4 (pc' := 5) rfl ?_
  exact j_iret hC dX3_cOf_5 hf
def f_X3_sOf (a0 : Int32) (σ : St) (Q : Int32 → St → Prop) : Prop := ((9 : Int32) ≤ a0 → vp_in (a0 - (9 : Int32)) 36 ∧ Q (COF (Int32.toNatClampNeg (a0 - (9 : Int32)))) σ) ∧ ((¬ (9 : Int32) ≤ a0) → vp_in (a0 + (27 : Int32)) 36 ∧ Q (COF (Int32.toNatClampNeg (a0 + (27 : Int32)))) σ)
theorem dy_X3_sOf : yX3_sOf.cls ≠ "java/lang/invoke/MethodHandle" ∧ yX3_sOf.cls ≠ "java/lang/invoke/VarHandle" ∧ (parseMethodDescriptor yX3_sOf.desc).map (fun d => d.parameters.length) = some 1 := by decide +kernel
set_option maxHeartbeats 4000000 in
set_option maxRecDepth 100000 in
theorem lk_X3_sOf {l : Launch} {D : va_G} {q : Nat → Nat} {ca : Nat → ClassId} {t : Nat} (hE : qok 28 q) (a0 : Int32) (σ : St) (Q : Int32 → St → Prop) (hf : f_X3_sOf a0 σ Q) : Mi l yX3_sOf cX3_sOf 1 (some .int) { frames := 0, cells := 0, slots := 0, locals := 0 } D (tysX ca) (ZX q t) (wX q ca) (AX q) [.int a0] σ Q := by
  refine j_start (own := RX3) (lv := [(0, .int a0)]) [.int a0] (by decide +kernel) rfl (wX_D hE σ) (Nat.le_of_ble_eq_true rfl) rfl (fun p e s m args below meth c hC => ?_)
  unfold f_X3_sOf at hf
  refine gX_COF hC wm_184 dX3_sOf_0 (pc' := 3) rfl ?_
  refine j_iload_n hC 0 dX3_sOf_3 (pc' := 4) rfl rfl ?_
  refine j_bipush hC (v := 9) dX3_sOf_4 (pc' := 6) rfl (by decide) ?_
  refine j_icmp_ge hC (tgt := 16) dX3_sOf_6 (pc' := 9) rfl (by decide) (fun c_ => ?_) (fun c_ => ?_)
  · replace hf := hf.1 c_
    refine j_iload_n hC 0 dX3_sOf_16 (pc' := 17) rfl rfl ?_
    refine j_bipush hC (v := 9) dX3_sOf_17 (pc' := 19) rfl (by decide) ?_
    refine j_isub hC dX3_sOf_19 (pc' := 20) rfl ?_
    obtain ⟨h1, hf⟩ := hf
    refine lX_COF hC (j := (Int32.toNatClampNeg (a0 - (9 : Int32)))) h1 rfl dX3_sOf_20 (pc' := 21) rfl ?_
    exact j_iret hC dX3_sOf_21 hf
  · replace hf := hf.2 c_
    refine j_iload_n hC 0 dX3_sOf_9 (pc' := 10) rfl rfl ?_
    refine j_bipush hC (v := 27) dX3_sOf_10 (pc' := 12) rfl (by decide) ?_
    refine j_iadd hC dX3_sOf_12 (pc' := 13) rfl ?_
    refine j_goto hC (tgt := 20) dX3_sOf_13 (by decide) ?_
    obtain ⟨h2, hf⟩ := hf
    refine lX_COF hC (j := (Int32.toNatClampNeg (a0 + (27 : Int32)))) h2 rfl dX3_sOf_20 (pc' := 21) rfl ?_
    exact j_iret hC dX3_sOf_21 hf
def f_X0_productOf (a0 : Int32) (a1 : Int32) (σ : St) (Q : Int32 → St → Prop) : Prop := f_X3_cOf a0 σ (fun r1 σ2 => f_X3_cOf a1 σ2 (fun r3 σ4 => f_X3_sOf a0 σ4 (fun r5 σ6 => f_X3_sOf a1 σ6 (fun r7 σ8 => Q ((r1 * r3) + (r5 * r7)) σ8))))
theorem dy_X0_productOf : yX0_productOf.cls ≠ "java/lang/invoke/MethodHandle" ∧ yX0_productOf.cls ≠ "java/lang/invoke/VarHandle" ∧ (parseMethodDescriptor yX0_productOf.desc).map (fun d => d.parameters.length) = some 2 := by decide +kernel
set_option maxHeartbeats 4000000 in
set_option maxRecDepth 100000 in
theorem lk_X0_productOf {l : Launch} {D : va_G} {q : Nat → Nat} {ca : Nat → ClassId} {t : Nat} (hE : qok 28 q) (a0 : Int32) (a1 : Int32) (σ : St) (Q : Int32 → St → Prop) (hf : f_X0_productOf a0 a1 σ Q) : Mi l yX0_productOf cX0_productOf 2 (some .int) { frames := 1, cells := 0, slots := 0, locals := 20 } D (tysX ca) (ZX q t) (wX q ca) (AX q) [.int a0, .int a1] σ Q := by
  refine j_start (own := RX0) (lv := [(0, .int a0), (1, .int a1)]) [.int a0, .int a1] (by decide +kernel) rfl (wX_D hE σ) (Nat.le_of_ble_eq_true rfl) rfl (fun p e s m args below meth c hC => ?_)
  unfold f_X0_productOf at hf
  refine j_iload_n hC 0 dX0_productOf_0 (pc' := 1) rfl rfl ?_
  refine jcS_i hC (eX hE) (As := [.int a0]) (lk_X3_cOf hE a0 σ _ hf) wm_206 wm_182 wm_9 wm_183 dy_X3_cOf ⟨rfl, rfl⟩ ⟨Nat.le_of_ble_eq_true rfl, Nat.le_of_ble_eq_true rfl⟩ ⟨Nat.le_refl _, Nat.le_refl _⟩ rfl rfl (Nat.le_of_ble_eq_true rfl) dX0_productOf_1 (pc' := 4) rfl (fun r1 σ2 hf => ?_)
  refine j_iload_n hC 1 dX0_productOf_4 (pc' := 5) rfl rfl ?_
  refine jcS_i hC (eX hE) (As := [.int a1]) (lk_X3_cOf hE a1 σ2 _ hf) wm_206 wm_182 wm_9 wm_183 dy_X3_cOf ⟨rfl, rfl⟩ ⟨Nat.le_of_ble_eq_true rfl, Nat.le_of_ble_eq_true rfl⟩ ⟨Nat.le_refl _, Nat.le_refl _⟩ rfl rfl (Nat.le_of_ble_eq_true rfl) dX0_productOf_5 (pc' := 8) rfl (fun r3 σ4 hf => ?_)
  refine j_imul hC dX0_productOf_8 (pc' := 9) rfl ?_
  refine j_iload_n hC 0 dX0_productOf_9 (pc' := 10) rfl rfl ?_
  refine jcS_i hC (eX hE) (As := [.int a0]) (lk_X3_sOf hE a0 σ4 _ hf) wm_207 wm_186 wm_9 wm_187 dy_X3_sOf ⟨rfl, rfl⟩ ⟨Nat.le_of_ble_eq_true rfl, Nat.le_of_ble_eq_true rfl⟩ ⟨Nat.le_refl _, Nat.le_refl _⟩ rfl rfl (Nat.le_of_ble_eq_true rfl) dX0_productOf_10 (pc' := 13) rfl (fun r5 σ6 hf => ?_)
  refine j_iload_n hC 1 dX0_productOf_13 (pc' := 14) rfl rfl ?_
  refine jcS_i hC (eX hE) (As := [.int a1]) (lk_X3_sOf hE a1 σ6 _ hf) wm_207 wm_186 wm_9 wm_187 dy_X3_sOf ⟨rfl, rfl⟩ ⟨Nat.le_of_ble_eq_true rfl, Nat.le_of_ble_eq_true rfl⟩ ⟨Nat.le_refl _, Nat.le_refl _⟩ rfl rfl (Nat.le_of_ble_eq_true rfl) dX0_productOf_14 (pc' := 17) rfl (fun r7 σ8 hf => ?_)
  refine j_imul hC dX0_productOf_17 (pc' := 18) rfl ?_
  refine j_iadd hC dX0_productOf_18 (pc' := 19) rfl ?_
  exact j_iret hC dX0_productOf_19 hf
def f_X0_stand_b64 (Q : Int32 → St → Prop) (K55 : Int32 → Int32 → St → Prop) : Nat → Int32 → Int32 → Int32 → St → Prop
  | 0, _, _, _, _ => False
  | n + 1, a4, a5, a6, σ => ((3 : Int32) ≤ a6 → ∀ x13 : Int32, x13 = a5 + (1 : Int32) → K55 a4 x13 σ) ∧ ((¬ (3 : Int32) ≤ a6) → vp_in (((3 : Int32) * a4) + a5) 60 ∧ vp_in (((3 : Int32) * a4) + a6) 60 ∧ f_X0_productOf (σ.1 1 (Int32.toNatClampNeg (((3 : Int32) * a4) + a5))) (σ.1 1 (Int32.toNatClampNeg (((3 : Int32) * a4) + a6))) σ (fun r16 σ17 => vp_in ((((9 : Int32) * a4) + ((3 : Int32) * a5)) + a6) 180 ∧ ∀ σ19 : St, σ19 = sI σ17 2 (Int32.toNatClampNeg ((((9 : Int32) * a4) + ((3 : Int32) * a5)) + a6)) r16 → ∀ x20 : Int32, x20 = a6 + (1 : Int32) → f_X0_stand_b64 Q K55  n a4 a5 x20 σ19))
def f_X0_stand_b55 (Q : Int32 → St → Prop) : Nat → Int32 → Int32 → St → Prop
  | 0, _, _, _ => False
  | n + 1, a4, a5, σ => ((3 : Int32) ≤ a5 → ∀ σ12 : St, σ12 = sI σ 3 0 ((σ.1 3 0) + (1 : Int32)) → Q a4 σ12) ∧ ((¬ (3 : Int32) ≤ a5) → ∃ n21 : Nat, f_X0_stand_b64 Q (fun a4 a5 σ => f_X0_stand_b55 Q n a4 a5 σ) n21 a4 a5 (0 : Int32) σ)
def f_X0_stand (a1 : Int32) (a2 : Int32) (a3 : Int32) (σ : St) (Q : Int32 → St → Prop) : Prop := ∀ x1 : Int32, x1 = σ.1 3 0 → vp_in ((3 : Int32) * x1) 60 ∧ ∀ σ3 : St, σ3 = sI σ 1 (Int32.toNatClampNeg ((3 : Int32) * x1)) a1 → f_X3_round (a1 + a2) σ3 (fun r4 σ5 => vp_in (((3 : Int32) * x1) + (1 : Int32)) 60 ∧ ∀ σ7 : St, σ7 = sI σ5 1 (Int32.toNatClampNeg (((3 : Int32) * x1) + (1 : Int32))) r4 → f_X3_round ((a1 + a2) + a3) σ7 (fun r8 σ9 => vp_in (((3 : Int32) * x1) + (2 : Int32)) 60 ∧ ∀ σ11 : St, σ11 = sI σ9 1 (Int32.toNatClampNeg (((3 : Int32) * x1) + (2 : Int32))) r8 → ∃ n22 : Nat, f_X0_stand_b55 Q n22 x1 (0 : Int32) σ11))
theorem dy_X0_stand : yX0_stand.cls = yX0_stand.cls ∧ yX0_stand.cls ≠ "java/lang/invoke/MethodHandle" ∧ yX0_stand.cls ≠ "java/lang/invoke/VarHandle" ∧ (parseMethodDescriptor yX0_stand.desc).map (fun d => d.parameters.length) = some 3 := by decide +kernel
set_option maxHeartbeats 4000000 in
set_option maxRecDepth 100000 in
theorem lb_X0_stand_b64 {l : Launch} {D : va_G} {q : Nat → Nat} {ca : Nat → ClassId} {t : Nat} {p : Program} {e : Env} {s : State} {m : MethodId} {args : Array Value} {below : List Frame} {meth : Method} {c : Code} (hE : qok 28 q) (hC : Cx p s m args meth c cX0_stand 7 RX0 (some .int) D (tysX ca) (ZX q t)) (Q : Int32 → St → Prop) (K55 : Int32 → Int32 → St → Prop) (hK55 : ∀ (a4 : Int32) (a5 : Int32) (σ : St), K55 a4 a5 σ → J p l e { frames := 2, cells := 0, slots := 0, locals := 41 } s m args below meth c (MQ below (va_Qi Q (BW D (wX q ca)) (AX q)) args s 0 0 (AX q)) D (AX q) 7 0 0 (wX q ca σ) 55 [(0, .ref (q 1)), (4, .int a4), (5, .int a5)] []) : ∀ (n : Nat) (a4 : Int32) (a5 : Int32) (a6 : Int32) (σ : St), f_X0_stand_b64 Q K55 n a4 a5 a6 σ → J p l e { frames := 2, cells := 0, slots := 0, locals := 41 } s m args below meth c (MQ below (va_Qi Q (BW D (wX q ca)) (AX q)) args s 0 0 (AX q)) D (AX q) 7 0 0 (wX q ca σ) 64 [(0, .ref (q 1)), (4, .int a4), (5, .int a5), (6, .int a6)] [] := by
  intro n
  induction n with
  | zero => intro a4 a5 a6 σ hf; exact hf.elim
  | succ n ih =>
    intro a4 a5 a6 σ hf
    unfold f_X0_stand_b64 at hf
    refine j_iload hC 3 dX0_stand_64 (pc' := 66) rfl rfl ?_
    refine j_iconst hC (v := 3) dX0_stand_66 (pc' := 67) rfl (by decide) ?_
    refine j_icmp_ge hC (tgt := 121) dX0_stand_67 (pc' := 70) rfl (by decide) (fun c_ => ?_) (fun c_ => ?_)
    · replace hf := hf.1 c_
      obtain ⟨x13, ex13⟩ : ∃ y : Int32, y = a5 + (1 : Int32) := ⟨_, rfl⟩
      replace hf := hf x13 ex13
      refine j_iinc hC (v := x13) (q := 2) (lv' := [(5, .int x13), (0, .ref (q 1)), (4, .int a4), (6, .int a6)]) dX0_stand_121 (pc' := 124) rfl rfl (by rw [ex13]; rfl) (by decide) rfl ?_
      refine j_goto hC (tgt := 55) dX0_stand_124 (by decide) ?_
      refine j_lv [1, 2, 0] rfl ?_
      exact hK55 a4 x13 σ hf
    · replace hf := hf.2 c_
      refine j_aload_n hC 0 dX0_stand_70 (pc' := 71) rfl rfl ?_
      refine gX_products hC wm_32 dX0_stand_71 (pc' := 74) rfl ?_
      refine j_bipush hC (v := 9) dX0_stand_74 (pc' := 76) rfl (by decide) ?_
      refine j_iload hC 1 dX0_stand_76 (pc' := 78) rfl rfl ?_
      refine j_imul hC dX0_stand_78 (pc' := 79) rfl ?_
      refine j_iconst hC (v := 3) dX0_stand_79 (pc' := 80) rfl (by decide) ?_
      refine j_iload hC 2 dX0_stand_80 (pc' := 82) rfl rfl ?_
      refine j_imul hC dX0_stand_82 (pc' := 83) rfl ?_
      refine j_iadd hC dX0_stand_83 (pc' := 84) rfl ?_
      refine j_iload hC 3 dX0_stand_84 (pc' := 86) rfl rfl ?_
      refine j_iadd hC dX0_stand_86 (pc' := 87) rfl ?_
      refine j_aload_n hC 0 dX0_stand_87 (pc' := 88) rfl rfl ?_
      refine gX_headings hC wm_30 dX0_stand_88 (pc' := 91) rfl ?_
      refine j_iconst hC (v := 3) dX0_stand_91 (pc' := 92) rfl (by decide) ?_
      refine j_iload hC 1 dX0_stand_92 (pc' := 94) rfl rfl ?_
      refine j_imul hC dX0_stand_94 (pc' := 95) rfl ?_
      refine j_iload hC 2 dX0_stand_95 (pc' := 97) rfl rfl ?_
      refine j_iadd hC dX0_stand_97 (pc' := 98) rfl ?_
      obtain ⟨h14, hf⟩ := hf
      refine lX_headings hC (j := (Int32.toNatClampNeg (((3 : Int32) * a4) + a5))) h14 rfl dX0_stand_98 (pc' := 99) rfl ?_
      refine j_aload_n hC 0 dX0_stand_99 (pc' := 100) rfl rfl ?_
      refine gX_headings hC wm_30 dX0_stand_100 (pc' := 103) rfl ?_
      refine j_iconst hC (v := 3) dX0_stand_103 (pc' := 104) rfl (by decide) ?_
      refine j_iload hC 1 dX0_stand_104 (pc' := 106) rfl rfl ?_
      refine j_imul hC dX0_stand_106 (pc' := 107) rfl ?_
      refine j_iload hC 3 dX0_stand_107 (pc' := 109) rfl rfl ?_
      refine j_iadd hC dX0_stand_109 (pc' := 110) rfl ?_
      obtain ⟨h15, hf⟩ := hf
      refine lX_headings hC (j := (Int32.toNatClampNeg (((3 : Int32) * a4) + a6))) h15 rfl dX0_stand_110 (pc' := 111) rfl ?_
      refine jcS_i hC (eX hE) (As := [.int (σ.1 1 (Int32.toNatClampNeg (((3 : Int32) * a4) + a5))), .int (σ.1 1 (Int32.toNatClampNeg (((3 : Int32) * a4) + a6)))]) (lk_X0_productOf hE (σ.1 1 (Int32.toNatClampNeg (((3 : Int32) * a4) + a5))) (σ.1 1 (Int32.toNatClampNeg (((3 : Int32) * a4) + a6))) σ _ hf) wm_203 wm_204 wm_2 wm_205 dy_X0_productOf ⟨rfl, rfl⟩ ⟨Nat.le_of_ble_eq_true rfl, Nat.le_of_ble_eq_true rfl⟩ ⟨Nat.le_refl _, Nat.le_refl _⟩ rfl rfl (Nat.le_of_ble_eq_true rfl) dX0_stand_111 (pc' := 114) rfl (fun r16 σ17 hf => ?_)
      obtain ⟨h18, hf⟩ := hf
      refine sX_products hC (j := (Int32.toNatClampNeg ((((9 : Int32) * a4) + ((3 : Int32) * a5)) + a6))) h18 rfl dX0_stand_114 (pc' := 115) rfl ?_
      refine j_nms (wf := wX q ca) (fun σ19 eσ19 => ?_)
      replace hf := hf σ19 eσ19
      obtain ⟨x20, ex20⟩ : ∃ y : Int32, y = a6 + (1 : Int32) := ⟨_, rfl⟩
      replace hf := hf x20 ex20
      refine j_iinc hC (v := x20) (q := 3) (lv' := [(6, .int x20), (0, .ref (q 1)), (4, .int a4), (5, .int a5)]) dX0_stand_115 (pc' := 118) rfl rfl (by rw [ex20]; rfl) (by decide) rfl ?_
      refine j_goto hC (tgt := 64) dX0_stand_118 (by decide) ?_
      refine j_lv [1, 2, 3, 0] rfl ?_
      exact ih a4 a5 x20 σ19 hf
set_option maxHeartbeats 4000000 in
set_option maxRecDepth 100000 in
theorem lb_X0_stand_b55 {l : Launch} {D : va_G} {q : Nat → Nat} {ca : Nat → ClassId} {t : Nat} {p : Program} {e : Env} {s : State} {m : MethodId} {args : Array Value} {below : List Frame} {meth : Method} {c : Code} (hE : qok 28 q) (hC : Cx p s m args meth c cX0_stand 7 RX0 (some .int) D (tysX ca) (ZX q t)) (Q : Int32 → St → Prop) : ∀ (n : Nat) (a4 : Int32) (a5 : Int32) (σ : St), f_X0_stand_b55 Q n a4 a5 σ → J p l e { frames := 2, cells := 0, slots := 0, locals := 41 } s m args below meth c (MQ below (va_Qi Q (BW D (wX q ca)) (AX q)) args s 0 0 (AX q)) D (AX q) 7 0 0 (wX q ca σ) 55 [(0, .ref (q 1)), (4, .int a4), (5, .int a5)] [] := by
  intro n
  induction n with
  | zero => intro a4 a5 σ hf; exact hf.elim
  | succ n ih =>
    intro a4 a5 σ hf
    unfold f_X0_stand_b55 at hf
    refine j_iload hC 2 dX0_stand_55 (pc' := 57) rfl rfl ?_
    refine j_iconst hC (v := 3) dX0_stand_57 (pc' := 58) rfl (by decide) ?_
    refine j_icmp_ge hC (tgt := 127) dX0_stand_58 (pc' := 61) rfl (by decide) (fun c_ => ?_) (fun c_ => ?_)
    · replace hf := hf.1 c_
      refine j_aload_n hC 0 dX0_stand_127 (pc' := 128) rfl rfl ?_
      refine j_dup hC dX0_stand_128 (pc' := 129) rfl rfl ?_
      refine gX_postures hC wm_34 dX0_stand_129 (pc' := 132) rfl ?_
      refine j_iconst hC (v := 1) dX0_stand_132 (pc' := 133) rfl (by decide) ?_
      refine j_iadd hC dX0_stand_133 (pc' := 134) rfl ?_
      refine pX_postures hC wm_34 dX0_stand_134 (pc' := 137) rfl ?_
      refine j_nms (wf := wX q ca) (fun σ12 eσ12 => ?_)
      replace hf := hf σ12 eσ12
      refine j_iload hC 1 dX0_stand_137 (pc' := 139) rfl rfl ?_
      exact j_iret hC dX0_stand_139 hf
    · replace hf := hf.2 c_
      refine j_iconst hC (v := 0) dX0_stand_61 (pc' := 62) rfl (by decide) ?_
      refine j_istore hC (lv' := [(6, .int (0 : Int32)), (0, .ref (q 1)), (4, .int a4), (5, .int a5)]) dX0_stand_62 (pc' := 64) rfl (by decide) rfl ?_
      obtain ⟨n21, hf⟩ := hf
      refine j_lv [1, 2, 3, 0] rfl ?_
      exact lb_X0_stand_b64 hE hC Q _ ih n21 a4 a5 (0 : Int32) σ hf
set_option maxHeartbeats 4000000 in
set_option maxRecDepth 100000 in
theorem lk_X0_stand {l : Launch} {D : va_G} {q : Nat → Nat} {ca : Nat → ClassId} {t : Nat} (hE : qok 28 q) (a1 : Int32) (a2 : Int32) (a3 : Int32) (σ : St) (Q : Int32 → St → Prop) (hf : f_X0_stand a1 a2 a3 σ Q) : Mi l yX0_stand cX0_stand 7 (some .int) { frames := 2, cells := 0, slots := 0, locals := 41 } D (tysX ca) (ZX q t) (wX q ca) (AX q) [.ref (q 1), .int a1, .int a2, .int a3] σ Q := by
  refine j_start (own := RX0) (lv := [(0, .ref (q 1)), (1, .int a1), (2, .int a2), (3, .int a3)]) [.ref (q 1), .int a1, .int a2, .int a3] (by decide +kernel) rfl (wX_D hE σ) (Nat.le_of_ble_eq_true rfl) rfl (fun p e s m args below meth c hC => ?_)
  unfold f_X0_stand at hf
  refine j_aload_n hC 0 dX0_stand_0 (pc' := 1) rfl rfl ?_
  refine gX_postures hC wm_34 dX0_stand_1 (pc' := 4) rfl ?_
  refine j_nmi (fun x1 ex1 => ?_)
  replace hf := hf x1 ex1
  refine j_istore hC (lv' := [(4, .int x1), (0, .ref (q 1)), (1, .int a1), (2, .int a2), (3, .int a3)]) dX0_stand_4 (pc' := 6) rfl (by decide) rfl ?_
  refine j_aload_n hC 1 dX0_stand_6 (pc' := 7) rfl rfl ?_
  refine gX_headings hC wm_30 dX0_stand_7 (pc' := 10) rfl ?_
  refine j_iconst hC (v := 3) dX0_stand_10 (pc' := 11) rfl (by decide) ?_
  refine j_iload hC 0 dX0_stand_11 (pc' := 13) rfl rfl ?_
  refine j_imul hC dX0_stand_13 (pc' := 14) rfl ?_
  refine j_iload_n hC 2 dX0_stand_14 (pc' := 15) rfl rfl ?_
  obtain ⟨h2, hf⟩ := hf
  refine sX_headings hC (j := (Int32.toNatClampNeg ((3 : Int32) * x1))) h2 rfl dX0_stand_15 (pc' := 16) rfl ?_
  refine j_nms (wf := wX q ca) (fun σ3 eσ3 => ?_)
  replace hf := hf σ3 eσ3
  refine j_aload_n hC 1 dX0_stand_16 (pc' := 17) rfl rfl ?_
  refine gX_headings hC wm_30 dX0_stand_17 (pc' := 20) rfl ?_
  refine j_iconst hC (v := 3) dX0_stand_20 (pc' := 21) rfl (by decide) ?_
  refine j_iload hC 0 dX0_stand_21 (pc' := 23) rfl rfl ?_
  refine j_imul hC dX0_stand_23 (pc' := 24) rfl ?_
  refine j_iconst hC (v := 1) dX0_stand_24 (pc' := 25) rfl (by decide) ?_
  refine j_iadd hC dX0_stand_25 (pc' := 26) rfl ?_
  refine j_iload_n hC 2 dX0_stand_26 (pc' := 27) rfl rfl ?_
  refine j_iload_n hC 3 dX0_stand_27 (pc' := 28) rfl rfl ?_
  refine j_iadd hC dX0_stand_28 (pc' := 29) rfl ?_
  refine jcS_i hC (eX hE) (As := [.int (a1 + a2)]) (lk_X3_round hE (a1 + a2) σ3 _ hf) wm_200 wm_201 wm_9 wm_202 dy_X3_round ⟨rfl, rfl⟩ ⟨Nat.le_of_ble_eq_true rfl, Nat.le_of_ble_eq_true rfl⟩ ⟨Nat.le_refl _, Nat.le_refl _⟩ rfl rfl (Nat.le_of_ble_eq_true rfl) dX0_stand_29 (pc' := 32) rfl (fun r4 σ5 hf => ?_)
  obtain ⟨h6, hf⟩ := hf
  refine sX_headings hC (j := (Int32.toNatClampNeg (((3 : Int32) * x1) + (1 : Int32)))) h6 rfl dX0_stand_32 (pc' := 33) rfl ?_
  refine j_nms (wf := wX q ca) (fun σ7 eσ7 => ?_)
  replace hf := hf σ7 eσ7
  refine j_aload_n hC 1 dX0_stand_33 (pc' := 34) rfl rfl ?_
  refine gX_headings hC wm_30 dX0_stand_34 (pc' := 37) rfl ?_
  refine j_iconst hC (v := 3) dX0_stand_37 (pc' := 38) rfl (by decide) ?_
  refine j_iload hC 0 dX0_stand_38 (pc' := 40) rfl rfl ?_
  refine j_imul hC dX0_stand_40 (pc' := 41) rfl ?_
  refine j_iconst hC (v := 2) dX0_stand_41 (pc' := 42) rfl (by decide) ?_
  refine j_iadd hC dX0_stand_42 (pc' := 43) rfl ?_
  refine j_iload_n hC 2 dX0_stand_43 (pc' := 44) rfl rfl ?_
  refine j_iload_n hC 3 dX0_stand_44 (pc' := 45) rfl rfl ?_
  refine j_iadd hC dX0_stand_45 (pc' := 46) rfl ?_
  refine j_iload_n hC 4 dX0_stand_46 (pc' := 47) rfl rfl ?_
  refine j_iadd hC dX0_stand_47 (pc' := 48) rfl ?_
  refine jcS_i hC (eX hE) (As := [.int ((a1 + a2) + a3)]) (lk_X3_round hE ((a1 + a2) + a3) σ7 _ hf) wm_200 wm_201 wm_9 wm_202 dy_X3_round ⟨rfl, rfl⟩ ⟨Nat.le_of_ble_eq_true rfl, Nat.le_of_ble_eq_true rfl⟩ ⟨Nat.le_refl _, Nat.le_refl _⟩ rfl rfl (Nat.le_of_ble_eq_true rfl) dX0_stand_48 (pc' := 51) rfl (fun r8 σ9 hf => ?_)
  obtain ⟨h10, hf⟩ := hf
  refine sX_headings hC (j := (Int32.toNatClampNeg (((3 : Int32) * x1) + (2 : Int32)))) h10 rfl dX0_stand_51 (pc' := 52) rfl ?_
  refine j_nms (wf := wX q ca) (fun σ11 eσ11 => ?_)
  replace hf := hf σ11 eσ11
  refine j_iconst hC (v := 0) dX0_stand_52 (pc' := 53) rfl (by decide) ?_
  refine j_istore hC (lv' := [(5, .int (0 : Int32)), (4, .int x1), (0, .ref (q 1)), (1, .int a1), (2, .int a2), (3, .int a3)]) dX0_stand_53 (pc' := 55) rfl (by decide) rfl ?_
  obtain ⟨n22, hf⟩ := hf
  refine j_lv [2, 1, 0] rfl ?_
  exact lb_X0_stand_b55 hE hC Q n22 x1 (0 : Int32) σ11 hf
def f_X3_part (a0 : Int32) (a1 : Int32) (σ : St) (Q : Int32 → St → Prop) : Prop := ((¬ a1 = 0) → f_X3_sOf a0 σ (fun r1 σ2 => Q r1 σ2)) ∧ (a1 = 0 → f_X3_cOf a0 σ (fun r3 σ4 => Q r3 σ4))
theorem dy_X3_part : yX3_part.cls ≠ "java/lang/invoke/MethodHandle" ∧ yX3_part.cls ≠ "java/lang/invoke/VarHandle" ∧ (parseMethodDescriptor yX3_part.desc).map (fun d => d.parameters.length) = some 2 := by decide +kernel
set_option maxHeartbeats 4000000 in
set_option maxRecDepth 100000 in
theorem lk_X3_part {l : Launch} {D : va_G} {q : Nat → Nat} {ca : Nat → ClassId} {t : Nat} (hE : qok 28 q) (a0 : Int32) (a1 : Int32) (σ : St) (Q : Int32 → St → Prop) (hf : f_X3_part a0 a1 σ Q) : Mi l yX3_part cX3_part 2 (some .int) { frames := 1, cells := 0, slots := 0, locals := 20 } D (tysX ca) (ZX q t) (wX q ca) (AX q) [.int a0, .int a1] σ Q := by
  refine j_start (own := RX3) (lv := [(0, .int a0), (1, .int a1)]) [.int a0, .int a1] (by decide +kernel) rfl (wX_D hE σ) (Nat.le_of_ble_eq_true rfl) rfl (fun p e s m args below meth c hC => ?_)
  unfold f_X3_part at hf
  refine j_iload_n hC 1 dX3_part_0 (pc' := 1) rfl rfl ?_
  refine j_if_ne hC (tgt := 11) dX3_part_1 (pc' := 4) rfl (by decide) (fun c_ => ?_) (fun c_ => ?_)
  · replace hf := hf.1 c_
    refine j_iload_n hC 0 dX3_part_11 (pc' := 12) rfl rfl ?_
    refine jcS_i hC (eX hE) (As := [.int a0]) (lk_X3_sOf hE a0 σ _ hf) wm_185 wm_186 wm_9 wm_187 dy_X3_sOf ⟨rfl, rfl⟩ ⟨Nat.le_of_ble_eq_true rfl, Nat.le_of_ble_eq_true rfl⟩ ⟨Nat.le_refl _, Nat.le_refl _⟩ rfl rfl (Nat.le_of_ble_eq_true rfl) dX3_part_12 (pc' := 15) rfl (fun r1 σ2 hf => ?_)
    exact j_iret hC dX3_part_15 hf
  · replace hf := hf.2 c_
    refine j_iload_n hC 0 dX3_part_4 (pc' := 5) rfl rfl ?_
    refine jcS_i hC (eX hE) (As := [.int a0]) (lk_X3_cOf hE a0 σ _ hf) wm_181 wm_182 wm_9 wm_183 dy_X3_cOf ⟨rfl, rfl⟩ ⟨Nat.le_of_ble_eq_true rfl, Nat.le_of_ble_eq_true rfl⟩ ⟨Nat.le_refl _, Nat.le_refl _⟩ rfl rfl (Nat.le_of_ble_eq_true rfl) dX3_part_5 (pc' := 8) rfl (fun r3 σ4 hf => ?_)
    refine j_goto hC (tgt := 15) dX3_part_8 (by decide) ?_
    exact j_iret hC dX3_part_15 hf
def f_X0_reached_b5 (Q : Int32 → St → Prop) : Nat → Int32 → Int32 → Int32 → Int32 → St → Prop
  | 0, _, _, _, _, _ => False
  | n + 1, a1, a2, a3, a4, σ => ((3 : Int32) ≤ a4 → Q a3 σ) ∧ ((¬ (3 : Int32) ≤ a4) → vp_in a4 3 ∧ vp_in (((3 : Int32) * a1) + a4) 60 ∧ f_X3_part (σ.1 1 (Int32.toNatClampNeg (((3 : Int32) * a1) + a4))) a2 σ (fun r3 σ4 => ∀ x5 : Int32, x5 = a3 + ((σ.1 0 (Int32.toNatClampNeg a4)) * r3) → ∀ x6 : Int32, x6 = a4 + (1 : Int32) → f_X0_reached_b5 Q  n a1 a2 x5 x6 σ4))
def f_X0_reached (a1 : Int32) (a2 : Int32) (σ : St) (Q : Int32 → St → Prop) : Prop := ∃ n7 : Nat, f_X0_reached_b5 Q n7 a1 a2 (0 : Int32) (0 : Int32) σ
theorem dy_X0_reached : yX0_reached.cls = yX0_reached.cls ∧ yX0_reached.cls ≠ "java/lang/invoke/MethodHandle" ∧ yX0_reached.cls ≠ "java/lang/invoke/VarHandle" ∧ (parseMethodDescriptor yX0_reached.desc).map (fun d => d.parameters.length) = some 2 := by decide +kernel
set_option maxHeartbeats 4000000 in
set_option maxRecDepth 100000 in
theorem lb_X0_reached_b5 {l : Launch} {D : va_G} {q : Nat → Nat} {ca : Nat → ClassId} {t : Nat} {p : Program} {e : Env} {s : State} {m : MethodId} {args : Array Value} {below : List Frame} {meth : Method} {c : Code} (hE : qok 28 q) (hC : Cx p s m args meth c cX0_reached 5 RX0 (some .int) D (tysX ca) (ZX q t)) (Q : Int32 → St → Prop) : ∀ (n : Nat) (a1 : Int32) (a2 : Int32) (a3 : Int32) (a4 : Int32) (σ : St), f_X0_reached_b5 Q n a1 a2 a3 a4 σ → J p l e { frames := 2, cells := 0, slots := 0, locals := 41 } s m args below meth c (MQ below (va_Qi Q (BW D (wX q ca)) (AX q)) args s 0 0 (AX q)) D (AX q) 5 0 0 (wX q ca σ) 5 [(0, .ref (q 1)), (1, .int a1), (2, .int a2), (3, .int a3), (4, .int a4)] [] := by
  intro n
  induction n with
  | zero => intro a1 a2 a3 a4 σ hf; exact hf.elim
  | succ n ih =>
    intro a1 a2 a3 a4 σ hf
    unfold f_X0_reached_b5 at hf
    refine j_iload hC 4 dX0_reached_5 (pc' := 7) rfl rfl ?_
    refine j_iconst hC (v := 3) dX0_reached_7 (pc' := 8) rfl (by decide) ?_
    refine j_icmp_ge hC (tgt := 43) dX0_reached_8 (pc' := 11) rfl (by decide) (fun c_ => ?_) (fun c_ => ?_)
    · replace hf := hf.1 c_
      refine j_iload_n hC 3 dX0_reached_43 (pc' := 44) rfl rfl ?_
      exact j_iret hC dX0_reached_44 hf
    · replace hf := hf.2 c_
      refine j_iload_n hC 3 dX0_reached_11 (pc' := 12) rfl rfl ?_
      refine j_aload_n hC 0 dX0_reached_12 (pc' := 13) rfl rfl ?_
      refine gX_lengths hC wm_28 dX0_reached_13 (pc' := 16) rfl ?_
      refine j_iload hC 4 dX0_reached_16 (pc' := 18) rfl rfl ?_
      obtain ⟨h1, hf⟩ := hf
      refine lX_lengths hC (j := (Int32.toNatClampNeg a4)) h1 rfl dX0_reached_18 (pc' := 19) rfl ?_
      refine j_aload_n hC 0 dX0_reached_19 (pc' := 20) rfl rfl ?_
      refine gX_headings hC wm_30 dX0_reached_20 (pc' := 23) rfl ?_
      refine j_iconst hC (v := 3) dX0_reached_23 (pc' := 24) rfl (by decide) ?_
      refine j_iload_n hC 1 dX0_reached_24 (pc' := 25) rfl rfl ?_
      refine j_imul hC dX0_reached_25 (pc' := 26) rfl ?_
      refine j_iload hC 4 dX0_reached_26 (pc' := 28) rfl rfl ?_
      refine j_iadd hC dX0_reached_28 (pc' := 29) rfl ?_
      obtain ⟨h2, hf⟩ := hf
      refine lX_headings hC (j := (Int32.toNatClampNeg (((3 : Int32) * a1) + a4))) h2 rfl dX0_reached_29 (pc' := 30) rfl ?_
      refine j_iload_n hC 2 dX0_reached_30 (pc' := 31) rfl rfl ?_
      refine jcS_i hC (eX hE) (As := [.int (σ.1 1 (Int32.toNatClampNeg (((3 : Int32) * a1) + a4))), .int a2]) (lk_X3_part hE (σ.1 1 (Int32.toNatClampNeg (((3 : Int32) * a1) + a4))) a2 σ _ hf) wm_224 wm_179 wm_9 wm_180 dy_X3_part ⟨rfl, rfl⟩ ⟨Nat.le_of_ble_eq_true rfl, Nat.le_of_ble_eq_true rfl⟩ ⟨Nat.le_refl _, Nat.le_refl _⟩ rfl rfl (Nat.le_of_ble_eq_true rfl) dX0_reached_31 (pc' := 34) rfl (fun r3 σ4 hf => ?_)
      refine j_imul hC dX0_reached_34 (pc' := 35) rfl ?_
      refine j_iadd hC dX0_reached_35 (pc' := 36) rfl ?_
      refine j_nmi (fun x5 ex5 => ?_)
      replace hf := hf x5 ex5
      refine j_istore_n hC (lv' := [(3, .int x5), (0, .ref (q 1)), (1, .int a1), (2, .int a2), (4, .int a4)]) dX0_reached_36 (pc' := 37) rfl rfl (by decide) rfl ?_
      obtain ⟨x6, ex6⟩ : ∃ y : Int32, y = a4 + (1 : Int32) := ⟨_, rfl⟩
      replace hf := hf x6 ex6
      refine j_iinc hC (v := x6) (q := 4) (lv' := [(4, .int x6), (3, .int x5), (0, .ref (q 1)), (1, .int a1), (2, .int a2)]) dX0_reached_37 (pc' := 40) rfl rfl (by rw [ex6]; rfl) (by decide) rfl ?_
      refine j_goto hC (tgt := 5) dX0_reached_40 (by decide) ?_
      refine j_lv [2, 3, 4, 1, 0] rfl ?_
      exact ih a1 a2 x5 x6 σ4 hf
set_option maxHeartbeats 4000000 in
set_option maxRecDepth 100000 in
theorem lk_X0_reached {l : Launch} {D : va_G} {q : Nat → Nat} {ca : Nat → ClassId} {t : Nat} (hE : qok 28 q) (a1 : Int32) (a2 : Int32) (σ : St) (Q : Int32 → St → Prop) (hf : f_X0_reached a1 a2 σ Q) : Mi l yX0_reached cX0_reached 5 (some .int) { frames := 2, cells := 0, slots := 0, locals := 41 } D (tysX ca) (ZX q t) (wX q ca) (AX q) [.ref (q 1), .int a1, .int a2] σ Q := by
  refine j_start (own := RX0) (lv := [(0, .ref (q 1)), (1, .int a1), (2, .int a2)]) [.ref (q 1), .int a1, .int a2] (by decide +kernel) rfl (wX_D hE σ) (Nat.le_of_ble_eq_true rfl) rfl (fun p e s m args below meth c hC => ?_)
  unfold f_X0_reached at hf
  refine j_iconst hC (v := 0) dX0_reached_0 (pc' := 1) rfl (by decide) ?_
  refine j_istore_n hC (lv' := [(3, .int (0 : Int32)), (0, .ref (q 1)), (1, .int a1), (2, .int a2)]) dX0_reached_1 (pc' := 2) rfl rfl (by decide) rfl ?_
  refine j_iconst hC (v := 0) dX0_reached_2 (pc' := 3) rfl (by decide) ?_
  refine j_istore hC (lv' := [(4, .int (0 : Int32)), (3, .int (0 : Int32)), (0, .ref (q 1)), (1, .int a1), (2, .int a2)]) dX0_reached_3 (pc' := 5) rfl (by decide) rfl ?_
  obtain ⟨n7, hf⟩ := hf
  refine j_lv [2, 3, 4, 1, 0] rfl ?_
  exact lb_X0_reached_b5 hE hC Q n7 a1 a2 (0 : Int32) (0 : Int32) σ hf
def f_X1_mayBe (a0 : Int32) (σ : St) (Q : Int32 → St → Prop) : Prop := (a0 < (-1000 : Int32) → Q (0 : Int32) σ) ∧ ((¬ a0 < (-1000 : Int32)) → ((1000 : Int32) < a0 → Q (0 : Int32) σ) ∧ ((¬ (1000 : Int32) < a0) → Q (1 : Int32) σ))
theorem dy_X1_mayBe : yX1_mayBe.cls ≠ "java/lang/invoke/MethodHandle" ∧ yX1_mayBe.cls ≠ "java/lang/invoke/VarHandle" ∧ (parseMethodDescriptor yX1_mayBe.desc).map (fun d => d.parameters.length) = some 1 := by decide +kernel
set_option maxHeartbeats 4000000 in
set_option maxRecDepth 100000 in
theorem lk_X1_mayBe {l : Launch} {D : va_G} {q : Nat → Nat} {ca : Nat → ClassId} {t : Nat} (hE : qok 28 q) (a0 : Int32) (σ : St) (Q : Int32 → St → Prop) (hf : f_X1_mayBe a0 σ Q) : Mi l yX1_mayBe cX1_mayBe 1 (some .boolean) { frames := 0, cells := 0, slots := 0, locals := 0 } D (tysX ca) (ZX q t) (wX q ca) (AX q) [.int a0] σ Q := by
  refine j_start (own := RX1) (lv := [(0, .int a0)]) [.int a0] (by decide +kernel) rfl (wX_D hE σ) (Nat.le_of_ble_eq_true rfl) rfl (fun p e s m args below meth c hC => ?_)
  unfold f_X1_mayBe at hf
  refine j_iload_n hC 0 dX1_mayBe_0 (pc' := 1) rfl rfl ?_
  refine j_sipush hC (v := -1000) dX1_mayBe_1 (pc' := 4) rfl (by decide) ?_
  refine j_icmp_lt hC (tgt := 18) dX1_mayBe_4 (pc' := 7) rfl (by decide) (fun c_ => ?_) (fun c_ => ?_)
  · replace hf := hf.1 c_
    refine j_iconst hC (v := 0) dX1_mayBe_18 (pc' := 19) rfl (by decide) ?_
    exact j_zret hC dX1_mayBe_19 (Or.inl rfl) hf
  · replace hf := hf.2 c_
    refine j_iload_n hC 0 dX1_mayBe_7 (pc' := 8) rfl rfl ?_
    refine j_sipush hC (v := 1000) dX1_mayBe_8 (pc' := 11) rfl (by decide) ?_
    refine j_icmp_gt hC (tgt := 18) dX1_mayBe_11 (pc' := 14) rfl (by decide) (fun c_ => ?_) (fun c_ => ?_)
    · replace hf := hf.1 c_
      refine j_iconst hC (v := 0) dX1_mayBe_18 (pc' := 19) rfl (by decide) ?_
      exact j_zret hC dX1_mayBe_19 (Or.inl rfl) hf
    · replace hf := hf.2 c_
      refine j_iconst hC (v := 1) dX1_mayBe_14 (pc' := 15) rfl (by decide) ?_
      refine j_goto hC (tgt := 19) dX1_mayBe_15 (by decide) ?_
      exact j_zret hC dX1_mayBe_19 (Or.inr rfl) hf
def f_X1_see (a1 : Int32) (a2 : Int32) (a3 : Int32) (a4 : Int32) (σ : St) (Q : Int32 → St → Prop) : Prop := vp_in (σ.1 10 0) 20 ∧ ∀ σ2 : St, σ2 = sI σ 6 (Int32.toNatClampNeg (σ.1 10 0)) a1 → vp_in (σ2.1 10 0) 20 ∧ ∀ σ4 : St, σ4 = sI σ2 7 (Int32.toNatClampNeg (σ2.1 10 0)) a2 → vp_in (σ4.1 10 0) 20 ∧ ∀ σ6 : St, σ6 = sI σ4 8 (Int32.toNatClampNeg (σ4.1 10 0)) a3 → vp_in (σ6.1 10 0) 20 ∧ ∀ σ8 : St, σ8 = sI σ6 9 (Int32.toNatClampNeg (σ6.1 10 0)) a4 → ∀ σ9 : St, σ9 = sI σ8 10 0 ((σ8.1 10 0) + (1 : Int32)) → Q (σ9.1 10 0) σ9
theorem dy_X1_see : yX1_see.cls = yX1_see.cls ∧ yX1_see.cls ≠ "java/lang/invoke/MethodHandle" ∧ yX1_see.cls ≠ "java/lang/invoke/VarHandle" ∧ (parseMethodDescriptor yX1_see.desc).map (fun d => d.parameters.length) = some 4 := by decide +kernel
set_option maxHeartbeats 4000000 in
set_option maxRecDepth 100000 in
theorem lk_X1_see {l : Launch} {D : va_G} {q : Nat → Nat} {ca : Nat → ClassId} {t : Nat} (hE : qok 28 q) (a1 : Int32) (a2 : Int32) (a3 : Int32) (a4 : Int32) (σ : St) (Q : Int32 → St → Prop) (hf : f_X1_see a1 a2 a3 a4 σ Q) : Mi l yX1_see cX1_see 5 (some .int) { frames := 0, cells := 0, slots := 0, locals := 0 } D (tysX ca) (ZX q t) (wX q ca) (AX q) [.ref (q 5), .int a1, .int a2, .int a3, .int a4] σ Q := by
  refine j_start (own := RX1) (lv := [(0, .ref (q 5)), (1, .int a1), (2, .int a2), (3, .int a3), (4, .int a4)]) [.ref (q 5), .int a1, .int a2, .int a3, .int a4] (by decide +kernel) rfl (wX_D hE σ) (Nat.le_of_ble_eq_true rfl) rfl (fun p e s m args below meth c hC => ?_)
  unfold f_X1_see at hf
  refine j_aload_n hC 0 dX1_see_0 (pc' := 1) rfl rfl ?_
  refine gX_ownP hC wm_71 dX1_see_1 (pc' := 4) rfl ?_
  refine j_aload_n hC 0 dX1_see_4 (pc' := 5) rfl rfl ?_
  refine gX_pairs hC wm_75 dX1_see_5 (pc' := 8) rfl ?_
  refine j_iload_n hC 1 dX1_see_8 (pc' := 9) rfl rfl ?_
  obtain ⟨h1, hf⟩ := hf
  refine sX_ownP hC (j := (Int32.toNatClampNeg (σ.1 10 0))) h1 rfl dX1_see_9 (pc' := 10) rfl ?_
  refine j_nms (wf := wX q ca) (fun σ2 eσ2 => ?_)
  replace hf := hf σ2 eσ2
  refine j_aload_n hC 0 dX1_see_10 (pc' := 11) rfl rfl ?_
  refine gX_ownQ hC wm_72 dX1_see_11 (pc' := 14) rfl ?_
  refine j_aload_n hC 0 dX1_see_14 (pc' := 15) rfl rfl ?_
  refine gX_pairs hC wm_75 dX1_see_15 (pc' := 18) rfl ?_
  refine j_iload_n hC 2 dX1_see_18 (pc' := 19) rfl rfl ?_
  obtain ⟨h3, hf⟩ := hf
  refine sX_ownQ hC (j := (Int32.toNatClampNeg (σ2.1 10 0))) h3 rfl dX1_see_19 (pc' := 20) rfl ?_
  refine j_nms (wf := wX q ca) (fun σ4 eσ4 => ?_)
  replace hf := hf σ4 eσ4
  refine j_aload_n hC 0 dX1_see_20 (pc' := 21) rfl rfl ?_
  refine gX_armX hC wm_73 dX1_see_21 (pc' := 24) rfl ?_
  refine j_aload_n hC 0 dX1_see_24 (pc' := 25) rfl rfl ?_
  refine gX_pairs hC wm_75 dX1_see_25 (pc' := 28) rfl ?_
  refine j_iload_n hC 3 dX1_see_28 (pc' := 29) rfl rfl ?_
  obtain ⟨h5, hf⟩ := hf
  refine sX_armX hC (j := (Int32.toNatClampNeg (σ4.1 10 0))) h5 rfl dX1_see_29 (pc' := 30) rfl ?_
  refine j_nms (wf := wX q ca) (fun σ6 eσ6 => ?_)
  replace hf := hf σ6 eσ6
  refine j_aload_n hC 0 dX1_see_30 (pc' := 31) rfl rfl ?_
  refine gX_armY hC wm_74 dX1_see_31 (pc' := 34) rfl ?_
  refine j_aload_n hC 0 dX1_see_34 (pc' := 35) rfl rfl ?_
  refine gX_pairs hC wm_75 dX1_see_35 (pc' := 38) rfl ?_
  refine j_iload hC 4 dX1_see_38 (pc' := 40) rfl rfl ?_
  obtain ⟨h7, hf⟩ := hf
  refine sX_armY hC (j := (Int32.toNatClampNeg (σ6.1 10 0))) h7 rfl dX1_see_40 (pc' := 41) rfl ?_
  refine j_nms (wf := wX q ca) (fun σ8 eσ8 => ?_)
  replace hf := hf σ8 eσ8
  refine j_aload_n hC 0 dX1_see_41 (pc' := 42) rfl rfl ?_
  refine j_dup hC dX1_see_42 (pc' := 43) rfl rfl ?_
  refine gX_pairs hC wm_75 dX1_see_43 (pc' := 46) rfl ?_
  refine j_iconst hC (v := 1) dX1_see_46 (pc' := 47) rfl (by decide) ?_
  refine j_iadd hC dX1_see_47 (pc' := 48) rfl ?_
  refine pX_pairs hC wm_75 dX1_see_48 (pc' := 51) rfl ?_
  refine j_nms (wf := wX q ca) (fun σ9 eσ9 => ?_)
  replace hf := hf σ9 eσ9
  refine j_aload_n hC 0 dX1_see_51 (pc' := 52) rfl rfl ?_
  refine gX_pairs hC wm_75 dX1_see_52 (pc' := 55) rfl ?_
  exact j_iret hC dX1_see_55 hf
def f_X1_shift (a1 : Int32) (a2 : Int32) (a3 : Int32) (σ : St) (Q : Int32 → St → Prop) : Prop := f_X3_cOf a1 σ (fun r1 σ2 => f_X3_sOf a1 σ2 (fun r3 σ4 => ((¬ a3 = 0) → vp_in a2 20 ∧ vp_in a2 20 ∧ vp_in a2 20 ∧ Q ((((65 : Int32) * (σ4.1 9 (Int32.toNatClampNeg a2))) - (r3 * (σ4.1 6 (Int32.toNatClampNeg a2)))) - (r1 * (σ4.1 7 (Int32.toNatClampNeg a2)))) σ4) ∧ (a3 = 0 → vp_in a2 20 ∧ vp_in a2 20 ∧ vp_in a2 20 ∧ Q ((((65 : Int32) * (σ4.1 8 (Int32.toNatClampNeg a2))) - (r1 * (σ4.1 6 (Int32.toNatClampNeg a2)))) + (r3 * (σ4.1 7 (Int32.toNatClampNeg a2)))) σ4)))
theorem dy_X1_shift : yX1_shift.cls = yX1_shift.cls ∧ yX1_shift.cls ≠ "java/lang/invoke/MethodHandle" ∧ yX1_shift.cls ≠ "java/lang/invoke/VarHandle" ∧ (parseMethodDescriptor yX1_shift.desc).map (fun d => d.parameters.length) = some 3 := by decide +kernel
set_option maxHeartbeats 4000000 in
set_option maxRecDepth 100000 in
theorem lk_X1_shift {l : Launch} {D : va_G} {q : Nat → Nat} {ca : Nat → ClassId} {t : Nat} (hE : qok 28 q) (a1 : Int32) (a2 : Int32) (a3 : Int32) (σ : St) (Q : Int32 → St → Prop) (hf : f_X1_shift a1 a2 a3 σ Q) : Mi l yX1_shift cX1_shift 6 (some .int) { frames := 1, cells := 0, slots := 0, locals := 20 } D (tysX ca) (ZX q t) (wX q ca) (AX q) [.ref (q 5), .int a1, .int a2, .int a3] σ Q := by
  refine j_start (own := RX1) (lv := [(0, .ref (q 5)), (1, .int a1), (2, .int a2), (3, .int a3)]) [.ref (q 5), .int a1, .int a2, .int a3] (by decide +kernel) rfl (wX_D hE σ) (Nat.le_of_ble_eq_true rfl) rfl (fun p e s m args below meth c hC => ?_)
  unfold f_X1_shift at hf
  refine j_iload_n hC 1 dX1_shift_0 (pc' := 1) rfl rfl ?_
  refine jcS_i hC (eX hE) (As := [.int a1]) (lk_X3_cOf hE a1 σ _ hf) wm_408 wm_182 wm_9 wm_183 dy_X3_cOf ⟨rfl, rfl⟩ ⟨Nat.le_of_ble_eq_true rfl, Nat.le_of_ble_eq_true rfl⟩ ⟨Nat.le_refl _, Nat.le_refl _⟩ rfl rfl (Nat.le_of_ble_eq_true rfl) dX1_shift_1 (pc' := 4) rfl (fun r1 σ2 hf => ?_)
  refine j_istore hC (lv' := [(4, .int r1), (0, .ref (q 5)), (1, .int a1), (2, .int a2), (3, .int a3)]) dX1_shift_4 (pc' := 6) rfl (by decide) rfl ?_
  refine j_iload_n hC 2 dX1_shift_6 (pc' := 7) rfl rfl ?_
  refine jcS_i hC (eX hE) (As := [.int a1]) (lk_X3_sOf hE a1 σ2 _ hf) wm_409 wm_186 wm_9 wm_187 dy_X3_sOf ⟨rfl, rfl⟩ ⟨Nat.le_of_ble_eq_true rfl, Nat.le_of_ble_eq_true rfl⟩ ⟨Nat.le_refl _, Nat.le_refl _⟩ rfl rfl (Nat.le_of_ble_eq_true rfl) dX1_shift_7 (pc' := 10) rfl (fun r3 σ4 hf => ?_)
  refine j_istore hC (lv' := [(5, .int r3), (4, .int r1), (0, .ref (q 5)), (1, .int a1), (2, .int a2), (3, .int a3)]) dX1_shift_10 (pc' := 12) rfl (by decide) rfl ?_
  refine j_iload_n hC 5 dX1_shift_12 (pc' := 13) rfl rfl ?_
  refine j_if_ne hC (tgt := 46) dX1_shift_13 (pc' := 16) rfl (by decide) (fun c_ => ?_) (fun c_ => ?_)
  · replace hf := hf.1 c_
    refine j_bipush hC (v := 65) dX1_shift_46 (pc' := 48) rfl (by decide) ?_
    refine j_aload_n hC 2 dX1_shift_48 (pc' := 49) rfl rfl ?_
    refine gX_armY hC wm_74 dX1_shift_49 (pc' := 52) rfl ?_
    refine j_iload_n hC 4 dX1_shift_52 (pc' := 53) rfl rfl ?_
    obtain ⟨h5, hf⟩ := hf
    refine lX_armY hC (j := (Int32.toNatClampNeg a2)) h5 rfl dX1_shift_53 (pc' := 54) rfl ?_
    refine j_imul hC dX1_shift_54 (pc' := 55) rfl ?_
    refine j_iload hC 0 dX1_shift_55 (pc' := 57) rfl rfl ?_
    refine j_aload_n hC 2 dX1_shift_57 (pc' := 58) rfl rfl ?_
    refine gX_ownP hC wm_71 dX1_shift_58 (pc' := 61) rfl ?_
    refine j_iload_n hC 4 dX1_shift_61 (pc' := 62) rfl rfl ?_
    obtain ⟨h6, hf⟩ := hf
    refine lX_ownP hC (j := (Int32.toNatClampNeg a2)) h6 rfl dX1_shift_62 (pc' := 63) rfl ?_
    refine j_imul hC dX1_shift_63 (pc' := 64) rfl ?_
    refine j_isub hC dX1_shift_64 (pc' := 65) rfl ?_
    refine j_iload hC 1 dX1_shift_65 (pc' := 67) rfl rfl ?_
    refine j_aload_n hC 2 dX1_shift_67 (pc' := 68) rfl rfl ?_
    refine gX_ownQ hC wm_72 dX1_shift_68 (pc' := 71) rfl ?_
    refine j_iload_n hC 4 dX1_shift_71 (pc' := 72) rfl rfl ?_
    obtain ⟨h7, hf⟩ := hf
    refine lX_ownQ hC (j := (Int32.toNatClampNeg a2)) h7 rfl dX1_shift_72 (pc' := 73) rfl ?_
    refine j_imul hC dX1_shift_73 (pc' := 74) rfl ?_
    refine j_isub hC dX1_shift_74 (pc' := 75) rfl ?_
    exact j_iret hC dX1_shift_75 hf
  · replace hf := hf.2 c_
    refine j_bipush hC (v := 65) dX1_shift_16 (pc' := 18) rfl (by decide) ?_
    refine j_aload_n hC 2 dX1_shift_18 (pc' := 19) rfl rfl ?_
    refine gX_armX hC wm_73 dX1_shift_19 (pc' := 22) rfl ?_
    refine j_iload_n hC 4 dX1_shift_22 (pc' := 23) rfl rfl ?_
    obtain ⟨h8, hf⟩ := hf
    refine lX_armX hC (j := (Int32.toNatClampNeg a2)) h8 rfl dX1_shift_23 (pc' := 24) rfl ?_
    refine j_imul hC dX1_shift_24 (pc' := 25) rfl ?_
    refine j_iload hC 1 dX1_shift_25 (pc' := 27) rfl rfl ?_
    refine j_aload_n hC 2 dX1_shift_27 (pc' := 28) rfl rfl ?_
    refine gX_ownP hC wm_71 dX1_shift_28 (pc' := 31) rfl ?_
    refine j_iload_n hC 4 dX1_shift_31 (pc' := 32) rfl rfl ?_
    obtain ⟨h9, hf⟩ := hf
    refine lX_ownP hC (j := (Int32.toNatClampNeg a2)) h9 rfl dX1_shift_32 (pc' := 33) rfl ?_
    refine j_imul hC dX1_shift_33 (pc' := 34) rfl ?_
    refine j_isub hC dX1_shift_34 (pc' := 35) rfl ?_
    refine j_iload hC 0 dX1_shift_35 (pc' := 37) rfl rfl ?_
    refine j_aload_n hC 2 dX1_shift_37 (pc' := 38) rfl rfl ?_
    refine gX_ownQ hC wm_72 dX1_shift_38 (pc' := 41) rfl ?_
    refine j_iload_n hC 4 dX1_shift_41 (pc' := 42) rfl rfl ?_
    obtain ⟨h10, hf⟩ := hf
    refine lX_ownQ hC (j := (Int32.toNatClampNeg a2)) h10 rfl dX1_shift_42 (pc' := 43) rfl ?_
    refine j_imul hC dX1_shift_43 (pc' := 44) rfl ?_
    refine j_iadd hC dX1_shift_44 (pc' := 45) rfl ?_
    exact j_iret hC dX1_shift_45 hf
def f_X1_isAnswer_b2 (Q : Int32 → St → Prop) : Nat → Int32 → Int32 → St → Prop
  | 0, _, _, _ => False
  | n + 1, a1, a2, σ => ((σ.1 10 0) ≤ a2 → Q (1 : Int32) σ) ∧ ((¬ (σ.1 10 0) ≤ a2) → f_X1_shift a1 a2 (0 : Int32) σ (fun r1 σ2 => f_X1_shift a1 (0 : Int32) (0 : Int32) σ2 (fun r3 σ4 => ((¬ r1 = r3) → Q (0 : Int32) σ4) ∧ (r1 = r3 → f_X1_shift a1 a2 (1 : Int32) σ4 (fun r5 σ6 => f_X1_shift a1 (0 : Int32) (1 : Int32) σ6 (fun r7 σ8 => (r5 = r7 → ∀ x9 : Int32, x9 = a2 + (1 : Int32) → f_X1_isAnswer_b2 Q  n a1 x9 σ8) ∧ ((¬ r5 = r7) → Q (0 : Int32) σ8)))))))
def f_X1_isAnswer (a1 : Int32) (σ : St) (Q : Int32 → St → Prop) : Prop := ∃ n10 : Nat, f_X1_isAnswer_b2 Q n10 a1 (1 : Int32) σ
theorem dy_X1_isAnswer : yX1_isAnswer.cls = yX1_isAnswer.cls ∧ yX1_isAnswer.cls ≠ "java/lang/invoke/MethodHandle" ∧ yX1_isAnswer.cls ≠ "java/lang/invoke/VarHandle" ∧ (parseMethodDescriptor yX1_isAnswer.desc).map (fun d => d.parameters.length) = some 1 := by decide +kernel
set_option maxHeartbeats 4000000 in
set_option maxRecDepth 100000 in
theorem lb_X1_isAnswer_b2 {l : Launch} {D : va_G} {q : Nat → Nat} {ca : Nat → ClassId} {t : Nat} {p : Program} {e : Env} {s : State} {m : MethodId} {args : Array Value} {below : List Frame} {meth : Method} {c : Code} (hE : qok 28 q) (hC : Cx p s m args meth c cX1_isAnswer 3 RX1 (some .boolean) D (tysX ca) (ZX q t)) (Q : Int32 → St → Prop) : ∀ (n : Nat) (a1 : Int32) (a2 : Int32) (σ : St), f_X1_isAnswer_b2 Q n a1 a2 σ → J p l e { frames := 2, cells := 0, slots := 0, locals := 45 } s m args below meth c (MQ below (va_Qi Q (BW D (wX q ca)) (AX q)) args s 0 0 (AX q)) D (AX q) 3 0 0 (wX q ca σ) 2 [(0, .ref (q 5)), (1, .int a1), (2, .int a2)] [] := by
  intro n
  induction n with
  | zero => intro a1 a2 σ hf; exact hf.elim
  | succ n ih =>
    intro a1 a2 σ hf
    unfold f_X1_isAnswer_b2 at hf
    refine j_iload_n hC 2 dX1_isAnswer_2 (pc' := 3) rfl rfl ?_
    refine j_aload_n hC 0 dX1_isAnswer_3 (pc' := 4) rfl rfl ?_
    refine gX_pairs hC wm_75 dX1_isAnswer_4 (pc' := 7) rfl ?_
    refine j_icmp_ge hC (tgt := 52) dX1_isAnswer_7 (pc' := 10) rfl (by decide) (fun c_ => ?_) (fun c_ => ?_)
    · replace hf := hf.1 c_
      refine j_iconst hC (v := 1) dX1_isAnswer_52 (pc' := 53) rfl (by decide) ?_
      exact j_zret hC dX1_isAnswer_53 (Or.inr rfl) hf
    · replace hf := hf.2 c_
      refine j_aload_n hC 0 dX1_isAnswer_10 (pc' := 11) rfl rfl ?_
      refine j_iload_n hC 1 dX1_isAnswer_11 (pc' := 12) rfl rfl ?_
      refine j_iload_n hC 2 dX1_isAnswer_12 (pc' := 13) rfl rfl ?_
      refine j_iconst hC (v := 0) dX1_isAnswer_13 (pc' := 14) rfl (by decide) ?_
      refine jcV_i hC (eX hE) (As := [.int a1, .int a2, .int (0 : Int32)]) (obX_X1) (rfl) (lk_X1_shift hE a1 a2 (0 : Int32) σ _ hf) wm_404 wm_405 wm_406 wm_4 wm_407 dy_X1_shift ⟨rfl, rfl⟩ ⟨Nat.le_of_ble_eq_true rfl, Nat.le_of_ble_eq_true rfl⟩ ⟨Nat.le_refl _, Nat.le_refl _⟩ rfl rfl (Nat.le_of_ble_eq_true rfl) dX1_isAnswer_14 (pc' := 17) rfl (fun r1 σ2 hf => ?_)
      refine j_aload_n hC 0 dX1_isAnswer_17 (pc' := 18) rfl rfl ?_
      refine j_iload_n hC 1 dX1_isAnswer_18 (pc' := 19) rfl rfl ?_
      refine j_iconst hC (v := 0) dX1_isAnswer_19 (pc' := 20) rfl (by decide) ?_
      refine j_iconst hC (v := 0) dX1_isAnswer_20 (pc' := 21) rfl (by decide) ?_
      refine jcV_i hC (eX hE) (As := [.int a1, .int (0 : Int32), .int (0 : Int32)]) (obX_X1) (rfl) (lk_X1_shift hE a1 (0 : Int32) (0 : Int32) σ2 _ hf) wm_404 wm_405 wm_406 wm_4 wm_407 dy_X1_shift ⟨rfl, rfl⟩ ⟨Nat.le_of_ble_eq_true rfl, Nat.le_of_ble_eq_true rfl⟩ ⟨Nat.le_refl _, Nat.le_refl _⟩ rfl rfl (Nat.le_of_ble_eq_true rfl) dX1_isAnswer_21 (pc' := 24) rfl (fun r3 σ4 hf => ?_)
      refine j_icmp_ne hC (tgt := 44) dX1_isAnswer_24 (pc' := 27) rfl (by decide) (fun c_ => ?_) (fun c_ => ?_)
      · replace hf := hf.1 c_
        refine j_iconst hC (v := 0) dX1_isAnswer_44 (pc' := 45) rfl (by decide) ?_
        exact j_zret hC dX1_isAnswer_45 (Or.inl rfl) hf
      · replace hf := hf.2 c_
        refine j_aload_n hC 0 dX1_isAnswer_27 (pc' := 28) rfl rfl ?_
        refine j_iload_n hC 1 dX1_isAnswer_28 (pc' := 29) rfl rfl ?_
        refine j_iload_n hC 2 dX1_isAnswer_29 (pc' := 30) rfl rfl ?_
        refine j_iconst hC (v := 1) dX1_isAnswer_30 (pc' := 31) rfl (by decide) ?_
        refine jcV_i hC (eX hE) (As := [.int a1, .int a2, .int (1 : Int32)]) (obX_X1) (rfl) (lk_X1_shift hE a1 a2 (1 : Int32) σ4 _ hf) wm_404 wm_405 wm_406 wm_4 wm_407 dy_X1_shift ⟨rfl, rfl⟩ ⟨Nat.le_of_ble_eq_true rfl, Nat.le_of_ble_eq_true rfl⟩ ⟨Nat.le_refl _, Nat.le_refl _⟩ rfl rfl (Nat.le_of_ble_eq_true rfl) dX1_isAnswer_31 (pc' := 34) rfl (fun r5 σ6 hf => ?_)
        refine j_aload_n hC 0 dX1_isAnswer_34 (pc' := 35) rfl rfl ?_
        refine j_iload_n hC 1 dX1_isAnswer_35 (pc' := 36) rfl rfl ?_
        refine j_iconst hC (v := 0) dX1_isAnswer_36 (pc' := 37) rfl (by decide) ?_
        refine j_iconst hC (v := 1) dX1_isAnswer_37 (pc' := 38) rfl (by decide) ?_
        refine jcV_i hC (eX hE) (As := [.int a1, .int (0 : Int32), .int (1 : Int32)]) (obX_X1) (rfl) (lk_X1_shift hE a1 (0 : Int32) (1 : Int32) σ6 _ hf) wm_404 wm_405 wm_406 wm_4 wm_407 dy_X1_shift ⟨rfl, rfl⟩ ⟨Nat.le_of_ble_eq_true rfl, Nat.le_of_ble_eq_true rfl⟩ ⟨Nat.le_refl _, Nat.le_refl _⟩ rfl rfl (Nat.le_of_ble_eq_true rfl) dX1_isAnswer_38 (pc' := 41) rfl (fun r7 σ8 hf => ?_)
        refine j_icmp_eq hC (tgt := 46) dX1_isAnswer_41 (pc' := 44) rfl (by decide) (fun c_ => ?_) (fun c_ => ?_)
        · replace hf := hf.1 c_
          obtain ⟨x9, ex9⟩ : ∃ y : Int32, y = a2 + (1 : Int32) := ⟨_, rfl⟩
          replace hf := hf x9 ex9
          refine j_iinc hC (v := x9) (q := 2) (lv' := [(2, .int x9), (0, .ref (q 5)), (1, .int a1)]) dX1_isAnswer_46 (pc' := 49) rfl rfl (by rw [ex9]; rfl) (by decide) rfl ?_
          refine j_goto hC (tgt := 2) dX1_isAnswer_49 (by decide) ?_
          refine j_lv [1, 2, 0] rfl ?_
          exact ih a1 x9 σ8 hf
        · replace hf := hf.2 c_
          refine j_iconst hC (v := 0) dX1_isAnswer_44 (pc' := 45) rfl (by decide) ?_
          exact j_zret hC dX1_isAnswer_45 (Or.inl rfl) hf
set_option maxHeartbeats 4000000 in
set_option maxRecDepth 100000 in
theorem lk_X1_isAnswer {l : Launch} {D : va_G} {q : Nat → Nat} {ca : Nat → ClassId} {t : Nat} (hE : qok 28 q) (a1 : Int32) (σ : St) (Q : Int32 → St → Prop) (hf : f_X1_isAnswer a1 σ Q) : Mi l yX1_isAnswer cX1_isAnswer 3 (some .boolean) { frames := 2, cells := 0, slots := 0, locals := 45 } D (tysX ca) (ZX q t) (wX q ca) (AX q) [.ref (q 5), .int a1] σ Q := by
  refine j_start (own := RX1) (lv := [(0, .ref (q 5)), (1, .int a1)]) [.ref (q 5), .int a1] (by decide +kernel) rfl (wX_D hE σ) (Nat.le_of_ble_eq_true rfl) rfl (fun p e s m args below meth c hC => ?_)
  unfold f_X1_isAnswer at hf
  refine j_iconst hC (v := 1) dX1_isAnswer_0 (pc' := 1) rfl (by decide) ?_
  refine j_istore_n hC (lv' := [(2, .int (1 : Int32)), (0, .ref (q 5)), (1, .int a1)]) dX1_isAnswer_1 (pc' := 2) rfl rfl (by decide) rfl ?_
  obtain ⟨n10, hf⟩ := hf
  refine j_lv [1, 2, 0] rfl ?_
  exact lb_X1_isAnswer_b2 hE hC Q n10 a1 (1 : Int32) σ hf
def f_X1_headingsThatAnswer_b4 (Q : Int32 → St → Prop) : Nat → Int32 → Int32 → St → Prop
  | 0, _, _, _ => False
  | n + 1, a1, a2, σ => ((36 : Int32) ≤ a2 → Q a1 σ) ∧ ((¬ (36 : Int32) ≤ a2) → f_X1_isAnswer a2 σ (fun r1 σ2 => (r1 = 0 → ∀ x3 : Int32, x3 = a2 + (1 : Int32) → f_X1_headingsThatAnswer_b4 Q  n a1 x3 σ2) ∧ ((¬ r1 = 0) → ∀ x4 : Int32, x4 = a1 + (1 : Int32) → ∀ x5 : Int32, x5 = a2 + (1 : Int32) → f_X1_headingsThatAnswer_b4 Q  n x4 x5 σ2)))
def f_X1_headingsThatAnswer (σ : St) (Q : Int32 → St → Prop) : Prop := ∃ n6 : Nat, f_X1_headingsThatAnswer_b4 Q n6 (0 : Int32) (0 : Int32) σ
theorem dy_X1_headingsThatAnswer : yX1_headingsThatAnswer.cls = yX1_headingsThatAnswer.cls ∧ yX1_headingsThatAnswer.cls ≠ "java/lang/invoke/MethodHandle" ∧ yX1_headingsThatAnswer.cls ≠ "java/lang/invoke/VarHandle" ∧ (parseMethodDescriptor yX1_headingsThatAnswer.desc).map (fun d => d.parameters.length) = some 0 := by decide +kernel
set_option maxHeartbeats 4000000 in
set_option maxRecDepth 100000 in
theorem lb_X1_headingsThatAnswer_b4 {l : Launch} {D : va_G} {q : Nat → Nat} {ca : Nat → ClassId} {t : Nat} {p : Program} {e : Env} {s : State} {m : MethodId} {args : Array Value} {below : List Frame} {meth : Method} {c : Code} (hE : qok 28 q) (hC : Cx p s m args meth c cX1_headingsThatAnswer 3 RX1 (some .int) D (tysX ca) (ZX q t)) (Q : Int32 → St → Prop) : ∀ (n : Nat) (a1 : Int32) (a2 : Int32) (σ : St), f_X1_headingsThatAnswer_b4 Q n a1 a2 σ → J p l e { frames := 3, cells := 0, slots := 0, locals := 67 } s m args below meth c (MQ below (va_Qi Q (BW D (wX q ca)) (AX q)) args s 0 0 (AX q)) D (AX q) 3 0 0 (wX q ca σ) 4 [(0, .ref (q 5)), (1, .int a1), (2, .int a2)] [] := by
  intro n
  induction n with
  | zero => intro a1 a2 σ hf; exact hf.elim
  | succ n ih =>
    intro a1 a2 σ hf
    unfold f_X1_headingsThatAnswer_b4 at hf
    refine j_iload_n hC 2 dX1_headingsThatAnswer_4 (pc' := 5) rfl rfl ?_
    refine j_bipush hC (v := 36) dX1_headingsThatAnswer_5 (pc' := 7) rfl (by decide) ?_
    refine j_icmp_ge hC (tgt := 27) dX1_headingsThatAnswer_7 (pc' := 10) rfl (by decide) (fun c_ => ?_) (fun c_ => ?_)
    · replace hf := hf.1 c_
      refine j_iload_n hC 1 dX1_headingsThatAnswer_27 (pc' := 28) rfl rfl ?_
      exact j_iret hC dX1_headingsThatAnswer_28 hf
    · replace hf := hf.2 c_
      refine j_aload_n hC 0 dX1_headingsThatAnswer_10 (pc' := 11) rfl rfl ?_
      refine j_iload_n hC 2 dX1_headingsThatAnswer_11 (pc' := 12) rfl rfl ?_
      refine jcV_i hC (eX hE) (As := [.int a2]) (obX_X1) (rfl) (lk_X1_isAnswer hE a2 σ _ hf) wm_401 wm_402 wm_893 wm_4 wm_403 dy_X1_isAnswer ⟨rfl, rfl⟩ ⟨Nat.le_of_ble_eq_true rfl, Nat.le_of_ble_eq_true rfl⟩ ⟨Nat.le_refl _, Nat.le_refl _⟩ rfl rfl (Nat.le_of_ble_eq_true rfl) dX1_headingsThatAnswer_12 (pc' := 15) rfl (fun r1 σ2 hf => ?_)
      refine j_if_eq hC (tgt := 21) dX1_headingsThatAnswer_15 (pc' := 18) rfl (by decide) (fun c_ => ?_) (fun c_ => ?_)
      · replace hf := hf.1 c_
        obtain ⟨x3, ex3⟩ : ∃ y : Int32, y = a2 + (1 : Int32) := ⟨_, rfl⟩
        replace hf := hf x3 ex3
        refine j_iinc hC (v := x3) (q := 2) (lv' := [(2, .int x3), (0, .ref (q 5)), (1, .int a1)]) dX1_headingsThatAnswer_21 (pc' := 24) rfl rfl (by rw [ex3]; rfl) (by decide) rfl ?_
        refine j_goto hC (tgt := 4) dX1_headingsThatAnswer_24 (by decide) ?_
        refine j_lv [1, 2, 0] rfl ?_
        exact ih a1 x3 σ2 hf
      · replace hf := hf.2 c_
        obtain ⟨x4, ex4⟩ : ∃ y : Int32, y = a1 + (1 : Int32) := ⟨_, rfl⟩
        replace hf := hf x4 ex4
        refine j_iinc hC (v := x4) (q := 1) (lv' := [(1, .int x4), (0, .ref (q 5)), (2, .int a2)]) dX1_headingsThatAnswer_18 (pc' := 21) rfl rfl (by rw [ex4]; rfl) (by decide) rfl ?_
        obtain ⟨x5, ex5⟩ : ∃ y : Int32, y = a2 + (1 : Int32) := ⟨_, rfl⟩
        replace hf := hf x5 ex5
        refine j_iinc hC (v := x5) (q := 2) (lv' := [(2, .int x5), (1, .int x4), (0, .ref (q 5))]) dX1_headingsThatAnswer_21 (pc' := 24) rfl rfl (by rw [ex5]; rfl) (by decide) rfl ?_
        refine j_goto hC (tgt := 4) dX1_headingsThatAnswer_24 (by decide) ?_
        refine j_lv [2, 1, 0] rfl ?_
        exact ih x4 x5 σ2 hf
set_option maxHeartbeats 4000000 in
set_option maxRecDepth 100000 in
theorem lk_X1_headingsThatAnswer {l : Launch} {D : va_G} {q : Nat → Nat} {ca : Nat → ClassId} {t : Nat} (hE : qok 28 q) (σ : St) (Q : Int32 → St → Prop) (hf : f_X1_headingsThatAnswer σ Q) : Mi l yX1_headingsThatAnswer cX1_headingsThatAnswer 3 (some .int) { frames := 3, cells := 0, slots := 0, locals := 67 } D (tysX ca) (ZX q t) (wX q ca) (AX q) [.ref (q 5)] σ Q := by
  refine j_start (own := RX1) (lv := [(0, .ref (q 5))]) [.ref (q 5)] (by decide +kernel) rfl (wX_D hE σ) (Nat.le_of_ble_eq_true rfl) rfl (fun p e s m args below meth c hC => ?_)
  unfold f_X1_headingsThatAnswer at hf
  refine j_iconst hC (v := 0) dX1_headingsThatAnswer_0 (pc' := 1) rfl (by decide) ?_
  refine j_istore_n hC (lv' := [(1, .int (0 : Int32)), (0, .ref (q 5))]) dX1_headingsThatAnswer_1 (pc' := 2) rfl rfl (by decide) rfl ?_
  refine j_iconst hC (v := 0) dX1_headingsThatAnswer_2 (pc' := 3) rfl (by decide) ?_
  refine j_istore_n hC (lv' := [(2, .int (0 : Int32)), (1, .int (0 : Int32)), (0, .ref (q 5))]) dX1_headingsThatAnswer_3 (pc' := 4) rfl rfl (by decide) rfl ?_
  obtain ⟨n6, hf⟩ := hf
  refine j_lv [2, 1, 0] rfl ?_
  exact lb_X1_headingsThatAnswer_b4 hE hC Q n6 (0 : Int32) (0 : Int32) σ hf
def f_X1_headingOfAnswer_b4 (Q : Int32 → St → Prop) : Nat → Int32 → Int32 → Int32 → St → Prop
  | 0, _, _, _, _ => False
  | n + 1, a1, a2, a3, σ => ((36 : Int32) ≤ a3 → Q (-1 : Int32) σ) ∧ ((¬ (36 : Int32) ≤ a3) → f_X1_isAnswer a3 σ (fun r1 σ2 => (r1 = 0 → ∀ x3 : Int32, x3 = a3 + (1 : Int32) → f_X1_headingOfAnswer_b4 Q  n a1 a2 x3 σ2) ∧ ((¬ r1 = 0) → ((¬ a2 = a1) → ∀ x4 : Int32, x4 = a2 + (1 : Int32) → ∀ x5 : Int32, x5 = a3 + (1 : Int32) → f_X1_headingOfAnswer_b4 Q  n a1 x4 x5 σ2) ∧ (a2 = a1 → Q a3 σ2))))
def f_X1_headingOfAnswer (a1 : Int32) (σ : St) (Q : Int32 → St → Prop) : Prop := ∃ n6 : Nat, f_X1_headingOfAnswer_b4 Q n6 a1 (0 : Int32) (0 : Int32) σ
theorem dy_X1_headingOfAnswer : yX1_headingOfAnswer.cls = yX1_headingOfAnswer.cls ∧ yX1_headingOfAnswer.cls ≠ "java/lang/invoke/MethodHandle" ∧ yX1_headingOfAnswer.cls ≠ "java/lang/invoke/VarHandle" ∧ (parseMethodDescriptor yX1_headingOfAnswer.desc).map (fun d => d.parameters.length) = some 1 := by decide +kernel
set_option maxHeartbeats 4000000 in
set_option maxRecDepth 100000 in
theorem lb_X1_headingOfAnswer_b4 {l : Launch} {D : va_G} {q : Nat → Nat} {ca : Nat → ClassId} {t : Nat} {p : Program} {e : Env} {s : State} {m : MethodId} {args : Array Value} {below : List Frame} {meth : Method} {c : Code} (hE : qok 28 q) (hC : Cx p s m args meth c cX1_headingOfAnswer 4 RX1 (some .int) D (tysX ca) (ZX q t)) (Q : Int32 → St → Prop) : ∀ (n : Nat) (a1 : Int32) (a2 : Int32) (a3 : Int32) (σ : St), f_X1_headingOfAnswer_b4 Q n a1 a2 a3 σ → J p l e { frames := 3, cells := 0, slots := 0, locals := 67 } s m args below meth c (MQ below (va_Qi Q (BW D (wX q ca)) (AX q)) args s 0 0 (AX q)) D (AX q) 4 0 0 (wX q ca σ) 4 [(0, .ref (q 5)), (1, .int a1), (2, .int a2), (3, .int a3)] [] := by
  intro n
  induction n with
  | zero => intro a1 a2 a3 σ hf; exact hf.elim
  | succ n ih =>
    intro a1 a2 a3 σ hf
    unfold f_X1_headingOfAnswer_b4 at hf
    refine j_iload_n hC 3 dX1_headingOfAnswer_4 (pc' := 5) rfl rfl ?_
    refine j_bipush hC (v := 36) dX1_headingOfAnswer_5 (pc' := 7) rfl (by decide) ?_
    refine j_icmp_ge hC (tgt := 34) dX1_headingOfAnswer_7 (pc' := 10) rfl (by decide) (fun c_ => ?_) (fun c_ => ?_)
    · replace hf := hf.1 c_
      refine j_iconst hC (v := -1) dX1_headingOfAnswer_34 (pc' := 35) rfl (by decide) ?_
      exact j_iret hC dX1_headingOfAnswer_35 hf
    · replace hf := hf.2 c_
      refine j_aload_n hC 0 dX1_headingOfAnswer_10 (pc' := 11) rfl rfl ?_
      refine j_iload_n hC 3 dX1_headingOfAnswer_11 (pc' := 12) rfl rfl ?_
      refine jcV_i hC (eX hE) (As := [.int a3]) (obX_X1) (rfl) (lk_X1_isAnswer hE a3 σ _ hf) wm_401 wm_402 wm_893 wm_4 wm_403 dy_X1_isAnswer ⟨rfl, rfl⟩ ⟨Nat.le_of_ble_eq_true rfl, Nat.le_of_ble_eq_true rfl⟩ ⟨Nat.le_refl _, Nat.le_refl _⟩ rfl rfl (Nat.le_of_ble_eq_true rfl) dX1_headingOfAnswer_12 (pc' := 15) rfl (fun r1 σ2 hf => ?_)
      refine j_if_eq hC (tgt := 28) dX1_headingOfAnswer_15 (pc' := 18) rfl (by decide) (fun c_ => ?_) (fun c_ => ?_)
      · replace hf := hf.1 c_
        obtain ⟨x3, ex3⟩ : ∃ y : Int32, y = a3 + (1 : Int32) := ⟨_, rfl⟩
        replace hf := hf x3 ex3
        refine j_iinc hC (v := x3) (q := 3) (lv' := [(3, .int x3), (0, .ref (q 5)), (1, .int a1), (2, .int a2)]) dX1_headingOfAnswer_28 (pc' := 31) rfl rfl (by rw [ex3]; rfl) (by decide) rfl ?_
        refine j_goto hC (tgt := 4) dX1_headingOfAnswer_31 (by decide) ?_
        refine j_lv [1, 2, 3, 0] rfl ?_
        exact ih a1 a2 x3 σ2 hf
      · replace hf := hf.2 c_
        refine j_iload_n hC 2 dX1_headingOfAnswer_18 (pc' := 19) rfl rfl ?_
        refine j_iload_n hC 1 dX1_headingOfAnswer_19 (pc' := 20) rfl rfl ?_
        refine j_icmp_ne hC (tgt := 25) dX1_headingOfAnswer_20 (pc' := 23) rfl (by decide) (fun c_ => ?_) (fun c_ => ?_)
        · replace hf := hf.1 c_
          obtain ⟨x4, ex4⟩ : ∃ y : Int32, y = a2 + (1 : Int32) := ⟨_, rfl⟩
          replace hf := hf x4 ex4
          refine j_iinc hC (v := x4) (q := 2) (lv' := [(2, .int x4), (0, .ref (q 5)), (1, .int a1), (3, .int a3)]) dX1_headingOfAnswer_25 (pc' := 28) rfl rfl (by rw [ex4]; rfl) (by decide) rfl ?_
          obtain ⟨x5, ex5⟩ : ∃ y : Int32, y = a3 + (1 : Int32) := ⟨_, rfl⟩
          replace hf := hf x5 ex5
          refine j_iinc hC (v := x5) (q := 3) (lv' := [(3, .int x5), (2, .int x4), (0, .ref (q 5)), (1, .int a1)]) dX1_headingOfAnswer_28 (pc' := 31) rfl rfl (by rw [ex5]; rfl) (by decide) rfl ?_
          refine j_goto hC (tgt := 4) dX1_headingOfAnswer_31 (by decide) ?_
          refine j_lv [2, 3, 1, 0] rfl ?_
          exact ih a1 x4 x5 σ2 hf
        · replace hf := hf.2 c_
          refine j_iload_n hC 3 dX1_headingOfAnswer_23 (pc' := 24) rfl rfl ?_
          exact j_iret hC dX1_headingOfAnswer_24 hf
set_option maxHeartbeats 4000000 in
set_option maxRecDepth 100000 in
theorem lk_X1_headingOfAnswer {l : Launch} {D : va_G} {q : Nat → Nat} {ca : Nat → ClassId} {t : Nat} (hE : qok 28 q) (a1 : Int32) (σ : St) (Q : Int32 → St → Prop) (hf : f_X1_headingOfAnswer a1 σ Q) : Mi l yX1_headingOfAnswer cX1_headingOfAnswer 4 (some .int) { frames := 3, cells := 0, slots := 0, locals := 67 } D (tysX ca) (ZX q t) (wX q ca) (AX q) [.ref (q 5), .int a1] σ Q := by
  refine j_start (own := RX1) (lv := [(0, .ref (q 5)), (1, .int a1)]) [.ref (q 5), .int a1] (by decide +kernel) rfl (wX_D hE σ) (Nat.le_of_ble_eq_true rfl) rfl (fun p e s m args below meth c hC => ?_)
  unfold f_X1_headingOfAnswer at hf
  refine j_iconst hC (v := 0) dX1_headingOfAnswer_0 (pc' := 1) rfl (by decide) ?_
  refine j_istore_n hC (lv' := [(2, .int (0 : Int32)), (0, .ref (q 5)), (1, .int a1)]) dX1_headingOfAnswer_1 (pc' := 2) rfl rfl (by decide) rfl ?_
  refine j_iconst hC (v := 0) dX1_headingOfAnswer_2 (pc' := 3) rfl (by decide) ?_
  refine j_istore_n hC (lv' := [(3, .int (0 : Int32)), (2, .int (0 : Int32)), (0, .ref (q 5)), (1, .int a1)]) dX1_headingOfAnswer_3 (pc' := 4) rfl rfl (by decide) rfl ?_
  obtain ⟨n6, hf⟩ := hf
  refine j_lv [2, 3, 1, 0] rfl ?_
  exact lb_X1_headingOfAnswer_b4 hE hC Q n6 a1 (0 : Int32) (0 : Int32) σ hf
