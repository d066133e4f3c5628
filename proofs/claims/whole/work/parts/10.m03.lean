def f_X6_addRight_b3 (Q : St → Prop) : Nat → Int32 → Int32 → Int32 → Int32 → St → Prop
  | 0, _, _, _, _, _ => False
  | n + 1, a2, a3, a4, a5, σ => ((3 : Int32) ≤ a5 → Q σ) ∧ ((¬ (3 : Int32) ≤ a5) → vp_in (((3 : Int32) * a2) + a5) 60 ∧ ∀ x2 : Int32, x2 = σ.1 1 (Int32.toNatClampNeg (((3 : Int32) * a2) + a5)) → vp_in a5 3 ∧ f_X3_cOf x2 σ (fun r4 σ5 => f_X3_sOf x2 σ5 (fun r6 σ7 => vp_in a5 3 ∧ ∀ σ9 : St, σ9 = sL σ7 1 (Int32.toNatClampNeg a5) ((σ.2 1 (Int32.toNatClampNeg a5)) + (Int32.toInt64 ((r4 * a3) + (r6 * a4)))) → ∀ x10 : Int32, x10 = a5 + (1 : Int32) → f_X6_addRight_b3 Q  n a2 a3 a4 x10 σ9)))
def f_X6_addRight (a2 : Int32) (a3 : Int32) (a4 : Int32) (σ : St) (Q : St → Prop) : Prop := ∃ n11 : Nat, f_X6_addRight_b3 Q n11 a2 a3 a4 (0 : Int32) σ
theorem dy_X6_addRight : yX6_addRight.cls = yX6_addRight.cls ∧ yX6_addRight.cls ≠ "java/lang/invoke/MethodHandle" ∧ yX6_addRight.cls ≠ "java/lang/invoke/VarHandle" ∧ (parseMethodDescriptor yX6_addRight.desc).map (fun d => d.parameters.length) = some 4 := by decide +kernel
set_option maxHeartbeats 4000000 in
set_option maxRecDepth 100000 in
theorem lb_X6_addRight_b3 {l : Launch} {D : va_G} {q : Nat → Nat} {ca : Nat → ClassId} {t : Nat} {p : Program} {e : Env} {s : State} {m : MethodId} {args : Array Value} {below : List Frame} {meth : Method} {c : Code} (hE : qok 28 q) (hC : Cx p s m args meth c cX6_addRight 7 RX6 none D (tysX ca) (ZX q t)) (Q : St → Prop) : ∀ (n : Nat) (a2 : Int32) (a3 : Int32) (a4 : Int32) (a5 : Int32) (σ : St), f_X6_addRight_b3 Q n a2 a3 a4 a5 σ → J p l e { frames := 1, cells := 0, slots := 0, locals := 20 } s m args below meth c (MQ below (va_Qv Q (BW D (wX q ca)) (AX q)) args s 0 0 (AX q)) D (AX q) 7 0 0 (wX q ca σ) 3 [(0, .ref (q 4)), (1, .ref (q 1)), (2, .int a2), (3, .int a3), (4, .int a4), (5, .int a5)] [] := by
  intro n
  induction n with
  | zero => intro a2 a3 a4 a5 σ hf; exact hf.elim
  | succ n ih =>
    intro a2 a3 a4 a5 σ hf
    unfold f_X6_addRight_b3 at hf
    refine j_iload hC 5 dX6_addRight_3 (pc' := 5) rfl rfl ?_
    refine j_iconst hC (v := 3) dX6_addRight_5 (pc' := 6) rfl (by decide) ?_
    refine j_icmp_ge hC (tgt := 55) dX6_addRight_6 (pc' := 9) rfl (by decide) (fun c_ => ?_) (fun c_ => ?_)
    · replace hf := hf.1 c_
      exact j_vret hC dX6_addRight_55 hf
    · replace hf := hf.2 c_
      refine j_aload_n hC 1 dX6_addRight_9 (pc' := 10) rfl rfl ?_
      refine gX_headings hC wm_31 dX6_addRight_10 (pc' := 13) rfl ?_
      refine j_iconst hC (v := 3) dX6_addRight_13 (pc' := 14) rfl (by decide) ?_
      refine j_iload_n hC 2 dX6_addRight_14 (pc' := 15) rfl rfl ?_
      refine j_imul hC dX6_addRight_15 (pc' := 16) rfl ?_
      refine j_iload hC 5 dX6_addRight_16 (pc' := 18) rfl rfl ?_
      refine j_iadd hC dX6_addRight_18 (pc' := 19) rfl ?_
      obtain ⟨h1, hf⟩ := hf
      refine lX_headings hC (j := (Int32.toNatClampNeg (((3 : Int32) * a2) + a5))) h1 rfl dX6_addRight_19 (pc' := 20) rfl ?_
      refine j_nmi (fun x2 ex2 => ?_)
      replace hf := hf x2 ex2
      refine j_istore hC (lv' := [(6, .int x2), (0, .ref (q 4)), (1, .ref (q 1)), (2, .int a2), (3, .int a3), (4, .int a4), (5, .int a5)]) dX6_addRight_20 (pc' := 22) rfl (by decide) rfl ?_
      refine j_aload_n hC 1 dX6_addRight_22 (pc' := 23) rfl rfl ?_
      refine gX_right hC wm_54 dX6_addRight_23 (pc' := 26) rfl ?_
      refine j_iload hC 6 dX6_addRight_26 (pc' := 28) rfl rfl ?_
      refine j_dup2 hC dX6_addRight_28 (pc' := 29) rfl rfl rfl ?_
      obtain ⟨h3, hf⟩ := hf
      refine lX_right hC (j := (Int32.toNatClampNeg a5)) h3 rfl dX6_addRight_29 (pc' := 30) rfl ?_
      refine j_iload hC 0 dX6_addRight_30 (pc' := 32) rfl rfl ?_
      refine jcS_i hC (eX hE) (As := [.int x2]) (lk_X3_cOf hE x2 σ _ hf) wm_264 wm_182 wm_9 wm_183 dy_X3_cOf ⟨rfl, rfl⟩ ⟨Nat.le_of_ble_eq_true rfl, Nat.le_of_ble_eq_true rfl⟩ ⟨Nat.le_refl _, Nat.le_refl _⟩ rfl rfl (Nat.le_of_ble_eq_true rfl) dX6_addRight_32 (pc' := 35) rfl (fun r4 σ5 hf => ?_)
      refine j_iload_n hC 4 dX6_addRight_35 (pc' := 36) rfl rfl ?_
      refine j_imul hC dX6_addRight_36 (pc' := 37) rfl ?_
      refine j_iload hC 0 dX6_addRight_37 (pc' := 39) rfl rfl ?_
      refine jcS_i hC (eX hE) (As := [.int x2]) (lk_X3_sOf hE x2 σ5 _ hf) wm_265 wm_186 wm_9 wm_187 dy_X3_sOf ⟨rfl, rfl⟩ ⟨Nat.le_of_ble_eq_true rfl, Nat.le_of_ble_eq_true rfl⟩ ⟨Nat.le_refl _, Nat.le_refl _⟩ rfl rfl (Nat.le_of_ble_eq_true rfl) dX6_addRight_39 (pc' := 42) rfl (fun r6 σ7 hf => ?_)
      refine j_iload hC 5 dX6_addRight_42 (pc' := 44) rfl rfl ?_
      refine j_imul hC dX6_addRight_44 (pc' := 45) rfl ?_
      refine j_iadd hC dX6_addRight_45 (pc' := 46) rfl ?_
      refine j_i2l hC dX6_addRight_46 (pc' := 47) rfl ?_
      refine j_ladd hC dX6_addRight_47 (pc' := 48) rfl ?_
      obtain ⟨h8, hf⟩ := hf
      refine sX_right hC (j := (Int32.toNatClampNeg a5)) h8 rfl dX6_addRight_48 (pc' := 49) rfl ?_
      refine j_nms (wf := wX q ca) (fun σ9 eσ9 => ?_)
      replace hf := hf σ9 eσ9
      obtain ⟨x10, ex10⟩ : ∃ y : Int32, y = a5 + (1 : Int32) := ⟨_, rfl⟩
      replace hf := hf x10 ex10
      refine j_iinc hC (v := x10) (q := 6) (lv' := [(5, .int x10), (6, .int x2), (0, .ref (q 4)), (1, .ref (q 1)), (2, .int a2), (3, .int a3), (4, .int a4)]) dX6_addRight_49 (pc' := 52) rfl rfl (by rw [ex10]; rfl) (by decide) rfl ?_
      refine j_goto hC (tgt := 3) dX6_addRight_52 (by decide) ?_
      refine j_lv [2, 3, 4, 5, 6, 0] rfl ?_
      exact ih a2 a3 a4 x10 σ9 hf
set_option maxHeartbeats 4000000 in
set_option maxRecDepth 100000 in
theorem lk_X6_addRight {l : Launch} {D : va_G} {q : Nat → Nat} {ca : Nat → ClassId} {t : Nat} (hE : qok 28 q) (a2 : Int32) (a3 : Int32) (a4 : Int32) (σ : St) (Q : St → Prop) (hf : f_X6_addRight a2 a3 a4 σ Q) : Mv l yX6_addRight cX6_addRight 7 none { frames := 1, cells := 0, slots := 0, locals := 20 } D (tysX ca) (ZX q t) (wX q ca) (AX q) [.ref (q 4), .ref (q 1), .int a2, .int a3, .int a4] σ Q := by
  refine j_start (own := RX6) (lv := [(0, .ref (q 4)), (1, .ref (q 1)), (2, .int a2), (3, .int a3), (4, .int a4)]) [.ref (q 4), .ref (q 1), .int a2, .int a3, .int a4] (by decide +kernel) rfl (wX_D hE σ) (Nat.le_of_ble_eq_true rfl) rfl (fun p e s m args below meth c hC => ?_)
  unfold f_X6_addRight at hf
  refine j_iconst hC (v := 0) dX6_addRight_0 (pc' := 1) rfl (by decide) ?_
  refine j_istore hC (lv' := [(5, .int (0 : Int32)), (0, .ref (q 4)), (1, .ref (q 1)), (2, .int a2), (3, .int a3), (4, .int a4)]) dX6_addRight_1 (pc' := 3) rfl (by decide) rfl ?_
  obtain ⟨n11, hf⟩ := hf
  refine j_lv [1, 2, 3, 4, 5, 0] rfl ?_
  exact lb_X6_addRight_b3 hE hC Q n11 a2 a3 a4 (0 : Int32) σ hf
def f_X6_determinantOf_c (σ : St) (Q : Int64 → St → Prop) : Prop := Q ((((σ.2 0 0) * (((σ.2 0 4) * (σ.2 0 8)) - ((σ.2 0 5) * (σ.2 0 7)))) - ((σ.2 0 1) * (((σ.2 0 3) * (σ.2 0 8)) - ((σ.2 0 5) * (σ.2 0 6))))) + ((σ.2 0 2) * (((σ.2 0 3) * (σ.2 0 7)) - ((σ.2 0 4) * (σ.2 0 6))))) σ
theorem dy_X6_determinantOf : yX6_determinantOf.cls ≠ "java/lang/invoke/MethodHandle" ∧ yX6_determinantOf.cls ≠ "java/lang/invoke/VarHandle" ∧ (parseMethodDescriptor yX6_determinantOf.desc).map (fun d => d.parameters.length) = some 1 := by decide +kernel
set_option maxHeartbeats 4000000 in
set_option maxRecDepth 100000 in
theorem lk_X6_determinantOf_c {l : Launch} {D : va_G} {q : Nat → Nat} {ca : Nat → ClassId} {t : Nat} (hE : qok 28 q) (σ : St) (Q : Int64 → St → Prop) (hf : f_X6_determinantOf_c σ Q) : Ml l yX6_determinantOf cX6_determinantOf 1 (some .long) { frames := 0, cells := 0, slots := 0, locals := 0 } D (tysX ca) (ZX q t) (wX q ca) (AX q) [.ref (q 12)] σ Q := by
  refine j_start (own := RX6) (lv := [(0, .ref (q 12))]) [.ref (q 12)] (by decide +kernel) rfl (wX_D hE σ) (Nat.le_of_ble_eq_true rfl) rfl (fun p e s m args below meth c hC => ?_)
  unfold f_X6_determinantOf_c at hf
  refine j_aload_n hC 0 dX6_determinantOf_0 (pc' := 1) rfl rfl ?_
  refine j_iconst hC (v := 0) dX6_determinantOf_1 (pc' := 2) rfl (by decide) ?_
  refine lX_cells hC (j := 0) (show ¬ ((0 : Int32) < 0 ∨ 9 ≤ (0 : Int32).toNatClampNeg) from by decide) (by decide) dX6_determinantOf_2 (pc' := 3) rfl ?_
  refine j_aload_n hC 0 dX6_determinantOf_3 (pc' := 4) rfl rfl ?_
  refine j_iconst hC (v := 4) dX6_determinantOf_4 (pc' := 5) rfl (by decide) ?_
  refine lX_cells hC (j := 4) (show ¬ ((4 : Int32) < 0 ∨ 9 ≤ (4 : Int32).toNatClampNeg) from by decide) (by decide) dX6_determinantOf_5 (pc' := 6) rfl ?_
  refine j_aload_n hC 0 dX6_determinantOf_6 (pc' := 7) rfl rfl ?_
  refine j_bipush hC (v := 8) dX6_determinantOf_7 (pc' := 9) rfl (by decide) ?_
  refine lX_cells hC (j := 8) (show ¬ ((8 : Int32) < 0 ∨ 9 ≤ (8 : Int32).toNatClampNeg) from by decide) (by decide) dX6_determinantOf_9 (pc' := 10) rfl ?_
  refine j_lmul hC dX6_determinantOf_10 (pc' := 11) rfl ?_
  refine j_aload_n hC 0 dX6_determinantOf_11 (pc' := 12) rfl rfl ?_
  refine j_iconst hC (v := 5) dX6_determinantOf_12 (pc' := 13) rfl (by decide) ?_
  refine lX_cells hC (j := 5) (show ¬ ((5 : Int32) < 0 ∨ 9 ≤ (5 : Int32).toNatClampNeg) from by decide) (by decide) dX6_determinantOf_13 (pc' := 14) rfl ?_
  refine j_aload_n hC 0 dX6_determinantOf_14 (pc' := 15) rfl rfl ?_
  refine j_bipush hC (v := 7) dX6_determinantOf_15 (pc' := 17) rfl (by decide) ?_
  refine lX_cells hC (j := 7) (show ¬ ((7 : Int32) < 0 ∨ 9 ≤ (7 : Int32).toNatClampNeg) from by decide) (by decide) dX6_determinantOf_17 (pc' := 18) rfl ?_
  refine j_lmul hC dX6_determinantOf_18 (pc' := 19) rfl ?_
  refine j_lsub hC dX6_determinantOf_19 (pc' := 20) rfl ?_
  refine j_lmul hC dX6_determinantOf_20 (pc' := 21) rfl ?_
  refine j_aload_n hC 0 dX6_determinantOf_21 (pc' := 22) rfl rfl ?_
  refine j_iconst hC (v := 1) dX6_determinantOf_22 (pc' := 23) rfl (by decide) ?_
  refine lX_cells hC (j := 1) (show ¬ ((1 : Int32) < 0 ∨ 9 ≤ (1 : Int32).toNatClampNeg) from by decide) (by decide) dX6_determinantOf_23 (pc' := 24) rfl ?_
  refine j_aload_n hC 0 dX6_determinantOf_24 (pc' := 25) rfl rfl ?_
  refine j_iconst hC (v := 3) dX6_determinantOf_25 (pc' := 26) rfl (by decide) ?_
  refine lX_cells hC (j := 3) (show ¬ ((3 : Int32) < 0 ∨ 9 ≤ (3 : Int32).toNatClampNeg) from by decide) (by decide) dX6_determinantOf_26 (pc' := 27) rfl ?_
  refine j_aload_n hC 0 dX6_determinantOf_27 (pc' := 28) rfl rfl ?_
  refine j_bipush hC (v := 8) dX6_determinantOf_28 (pc' := 30) rfl (by decide) ?_
  refine lX_cells hC (j := 8) (show ¬ ((8 : Int32) < 0 ∨ 9 ≤ (8 : Int32).toNatClampNeg) from by decide) (by decide) dX6_determinantOf_30 (pc' := 31) rfl ?_
  refine j_lmul hC dX6_determinantOf_31 (pc' := 32) rfl ?_
  refine j_aload_n hC 0 dX6_determinantOf_32 (pc' := 33) rfl rfl ?_
  refine j_iconst hC (v := 5) dX6_determinantOf_33 (pc' := 34) rfl (by decide) ?_
  refine lX_cells hC (j := 5) (show ¬ ((5 : Int32) < 0 ∨ 9 ≤ (5 : Int32).toNatClampNeg) from by decide) (by decide) dX6_determinantOf_34 (pc' := 35) rfl ?_
  refine j_aload_n hC 0 dX6_determinantOf_35 (pc' := 36) rfl rfl ?_
  refine j_bipush hC (v := 6) dX6_determinantOf_36 (pc' := 38) rfl (by decide) ?_
  refine lX_cells hC (j := 6) (show ¬ ((6 : Int32) < 0 ∨ 9 ≤ (6 : Int32).toNatClampNeg) from by decide) (by decide) dX6_determinantOf_38 (pc' := 39) rfl ?_
  refine j_lmul hC dX6_determinantOf_39 (pc' := 40) rfl ?_
  refine j_lsub hC dX6_determinantOf_40 (pc' := 41) rfl ?_
  refine j_lmul hC dX6_determinantOf_41 (pc' := 42) rfl ?_
  refine j_lsub hC dX6_determinantOf_42 (pc' := 43) rfl ?_
  refine j_aload_n hC 0 dX6_determinantOf_43 (pc' := 44) rfl rfl ?_
  refine j_iconst hC (v := 2) dX6_determinantOf_44 (pc' := 45) rfl (by decide) ?_
  refine lX_cells hC (j := 2) (show ¬ ((2 : Int32) < 0 ∨ 9 ≤ (2 : Int32).toNatClampNeg) from by decide) (by decide) dX6_determinantOf_45 (pc' := 46) rfl ?_
  refine j_aload_n hC 0 dX6_determinantOf_46 (pc' := 47) rfl rfl ?_
  refine j_iconst hC (v := 3) dX6_determinantOf_47 (pc' := 48) rfl (by decide) ?_
  refine lX_cells hC (j := 3) (show ¬ ((3 : Int32) < 0 ∨ 9 ≤ (3 : Int32).toNatClampNeg) from by decide) (by decide) dX6_determinantOf_48 (pc' := 49) rfl ?_
  refine j_aload_n hC 0 dX6_determinantOf_49 (pc' := 50) rfl rfl ?_
  refine j_bipush hC (v := 7) dX6_determinantOf_50 (pc' := 52) rfl (by decide) ?_
  refine lX_cells hC (j := 7) (show ¬ ((7 : Int32) < 0 ∨ 9 ≤ (7 : Int32).toNatClampNeg) from by decide) (by decide) dX6_determinantOf_52 (pc' := 53) rfl ?_
  refine j_lmul hC dX6_determinantOf_53 (pc' := 54) rfl ?_
  refine j_aload_n hC 0 dX6_determinantOf_54 (pc' := 55) rfl rfl ?_
  refine j_iconst hC (v := 4) dX6_determinantOf_55 (pc' := 56) rfl (by decide) ?_
  refine lX_cells hC (j := 4) (show ¬ ((4 : Int32) < 0 ∨ 9 ≤ (4 : Int32).toNatClampNeg) from by decide) (by decide) dX6_determinantOf_56 (pc' := 57) rfl ?_
  refine j_aload_n hC 0 dX6_determinantOf_57 (pc' := 58) rfl rfl ?_
  refine j_bipush hC (v := 6) dX6_determinantOf_58 (pc' := 60) rfl (by decide) ?_
  refine lX_cells hC (j := 6) (show ¬ ((6 : Int32) < 0 ∨ 9 ≤ (6 : Int32).toNatClampNeg) from by decide) (by decide) dX6_determinantOf_60 (pc' := 61) rfl ?_
  refine j_lmul hC dX6_determinantOf_61 (pc' := 62) rfl ?_
  refine j_lsub hC dX6_determinantOf_62 (pc' := 63) rfl ?_
  refine j_lmul hC dX6_determinantOf_63 (pc' := 64) rfl ?_
  refine j_ladd hC dX6_determinantOf_64 (pc' := 65) rfl ?_
  exact j_lret hC dX6_determinantOf_65 hf
def f_X6_determinantOf_h (σ : St) (Q : Int64 → St → Prop) : Prop := Q ((((σ.2 2 0) * (((σ.2 2 4) * (σ.2 2 8)) - ((σ.2 2 5) * (σ.2 2 7)))) - ((σ.2 2 1) * (((σ.2 2 3) * (σ.2 2 8)) - ((σ.2 2 5) * (σ.2 2 6))))) + ((σ.2 2 2) * (((σ.2 2 3) * (σ.2 2 7)) - ((σ.2 2 4) * (σ.2 2 6))))) σ
set_option maxHeartbeats 4000000 in
set_option maxRecDepth 100000 in
theorem lk_X6_determinantOf_h {l : Launch} {D : va_G} {q : Nat → Nat} {ca : Nat → ClassId} {t : Nat} (hE : qok 28 q) (σ : St) (Q : Int64 → St → Prop) (hf : f_X6_determinantOf_h σ Q) : Ml l yX6_determinantOf cX6_determinantOf 1 (some .long) { frames := 0, cells := 0, slots := 0, locals := 0 } D (tysX ca) (ZX q t) (wX q ca) (AX q) [.ref (q 14)] σ Q := by
  refine j_start (own := RX6) (lv := [(0, .ref (q 14))]) [.ref (q 14)] (by decide +kernel) rfl (wX_D hE σ) (Nat.le_of_ble_eq_true rfl) rfl (fun p e s m args below meth c hC => ?_)
  unfold f_X6_determinantOf_h at hf
  refine j_aload_n hC 0 dX6_determinantOf_0 (pc' := 1) rfl rfl ?_
  refine j_iconst hC (v := 0) dX6_determinantOf_1 (pc' := 2) rfl (by decide) ?_
  refine lX_changed hC (j := 0) (show ¬ ((0 : Int32) < 0 ∨ 9 ≤ (0 : Int32).toNatClampNeg) from by decide) (by decide) dX6_determinantOf_2 (pc' := 3) rfl ?_
  refine j_aload_n hC 0 dX6_determinantOf_3 (pc' := 4) rfl rfl ?_
  refine j_iconst hC (v := 4) dX6_determinantOf_4 (pc' := 5) rfl (by decide) ?_
  refine lX_changed hC (j := 4) (show ¬ ((4 : Int32) < 0 ∨ 9 ≤ (4 : Int32).toNatClampNeg) from by decide) (by decide) dX6_determinantOf_5 (pc' := 6) rfl ?_
  refine j_aload_n hC 0 dX6_determinantOf_6 (pc' := 7) rfl rfl ?_
  refine j_bipush hC (v := 8) dX6_determinantOf_7 (pc' := 9) rfl (by decide) ?_
  refine lX_changed hC (j := 8) (show ¬ ((8 : Int32) < 0 ∨ 9 ≤ (8 : Int32).toNatClampNeg) from by decide) (by decide) dX6_determinantOf_9 (pc' := 10) rfl ?_
  refine j_lmul hC dX6_determinantOf_10 (pc' := 11) rfl ?_
  refine j_aload_n hC 0 dX6_determinantOf_11 (pc' := 12) rfl rfl ?_
  refine j_iconst hC (v := 5) dX6_determinantOf_12 (pc' := 13) rfl (by decide) ?_
  refine lX_changed hC (j := 5) (show ¬ ((5 : Int32) < 0 ∨ 9 ≤ (5 : Int32).toNatClampNeg) from by decide) (by decide) dX6_determinantOf_13 (pc' := 14) rfl ?_
  refine j_aload_n hC 0 dX6_determinantOf_14 (pc' := 15) rfl rfl ?_
  refine j_bipush hC (v := 7) dX6_determinantOf_15 (pc' := 17) rfl (by decide) ?_
  refine lX_changed hC (j := 7) (show ¬ ((7 : Int32) < 0 ∨ 9 ≤ (7 : Int32).toNatClampNeg) from by decide) (by decide) dX6_determinantOf_17 (pc' := 18) rfl ?_
  refine j_lmul hC dX6_determinantOf_18 (pc' := 19) rfl ?_
  refine j_lsub hC dX6_determinantOf_19 (pc' := 20) rfl ?_
  refine j_lmul hC dX6_determinantOf_20 (pc' := 21) rfl ?_
  refine j_aload_n hC 0 dX6_determinantOf_21 (pc' := 22) rfl rfl ?_
  refine j_iconst hC (v := 1) dX6_determinantOf_22 (pc' := 23) rfl (by decide) ?_
  refine lX_changed hC (j := 1) (show ¬ ((1 : Int32) < 0 ∨ 9 ≤ (1 : Int32).toNatClampNeg) from by decide) (by decide) dX6_determinantOf_23 (pc' := 24) rfl ?_
  refine j_aload_n hC 0 dX6_determinantOf_24 (pc' := 25) rfl rfl ?_
  refine j_iconst hC (v := 3) dX6_determinantOf_25 (pc' := 26) rfl (by decide) ?_
  refine lX_changed hC (j := 3) (show ¬ ((3 : Int32) < 0 ∨ 9 ≤ (3 : Int32).toNatClampNeg) from by decide) (by decide) dX6_determinantOf_26 (pc' := 27) rfl ?_
  refine j_aload_n hC 0 dX6_determinantOf_27 (pc' := 28) rfl rfl ?_
  refine j_bipush hC (v := 8) dX6_determinantOf_28 (pc' := 30) rfl (by decide) ?_
  refine lX_changed hC (j := 8) (show ¬ ((8 : Int32) < 0 ∨ 9 ≤ (8 : Int32).toNatClampNeg) from by decide) (by decide) dX6_determinantOf_30 (pc' := 31) rfl ?_
  refine j_lmul hC dX6_determinantOf_31 (pc' := 32) rfl ?_
  refine j_aload_n hC 0 dX6_determinantOf_32 (pc' := 33) rfl rfl ?_
  refine j_iconst hC (v := 5) dX6_determinantOf_33 (pc' := 34) rfl (by decide) ?_
  refine lX_changed hC (j := 5) (show ¬ ((5 : Int32) < 0 ∨ 9 ≤ (5 : Int32).toNatClampNeg) from by decide) (by decide) dX6_determinantOf_34 (pc' := 35) rfl ?_
  refine j_aload_n hC 0 dX6_determinantOf_35 (pc' := 36) rfl rfl ?_
  refine j_bipush hC (v := 6) dX6_determinantOf_36 (pc' := 38) rfl (by decide) ?_
  refine lX_changed hC (j := 6) (show ¬ ((6 : Int32) < 0 ∨ 9 ≤ (6 : Int32).toNatClampNeg) from by decide) (by decide) dX6_determinantOf_38 (pc' := 39) rfl ?_
  refine j_lmul hC dX6_determinantOf_39 (pc' := 40) rfl ?_
  refine j_lsub hC dX6_determinantOf_40 (pc' := 41) rfl ?_
  refine j_lmul hC dX6_determinantOf_41 (pc' := 42) rfl ?_
  refine j_lsub hC dX6_determinantOf_42 (pc' := 43) rfl ?_
  refine j_aload_n hC 0 dX6_determinantOf_43 (pc' := 44) rfl rfl ?_
  refine j_iconst hC (v := 2) dX6_determinantOf_44 (pc' := 45) rfl (by decide) ?_
  refine lX_changed hC (j := 2) (show ¬ ((2 : Int32) < 0 ∨ 9 ≤ (2 : Int32).toNatClampNeg) from by decide) (by decide) dX6_determinantOf_45 (pc' := 46) rfl ?_
  refine j_aload_n hC 0 dX6_determinantOf_46 (pc' := 47) rfl rfl ?_
  refine j_iconst hC (v := 3) dX6_determinantOf_47 (pc' := 48) rfl (by decide) ?_
  refine lX_changed hC (j := 3) (show ¬ ((3 : Int32) < 0 ∨ 9 ≤ (3 : Int32).toNatClampNeg) from by decide) (by decide) dX6_determinantOf_48 (pc' := 49) rfl ?_
  refine j_aload_n hC 0 dX6_determinantOf_49 (pc' := 50) rfl rfl ?_
  refine j_bipush hC (v := 7) dX6_determinantOf_50 (pc' := 52) rfl (by decide) ?_
  refine lX_changed hC (j := 7) (show ¬ ((7 : Int32) < 0 ∨ 9 ≤ (7 : Int32).toNatClampNeg) from by decide) (by decide) dX6_determinantOf_52 (pc' := 53) rfl ?_
  refine j_lmul hC dX6_determinantOf_53 (pc' := 54) rfl ?_
  refine j_aload_n hC 0 dX6_determinantOf_54 (pc' := 55) rfl rfl ?_
  refine j_iconst hC (v := 4) dX6_determinantOf_55 (pc' := 56) rfl (by decide) ?_
  refine lX_changed hC (j := 4) (show ¬ ((4 : Int32) < 0 ∨ 9 ≤ (4 : Int32).toNatClampNeg) from by decide) (by decide) dX6_determinantOf_56 (pc' := 57) rfl ?_
  refine j_aload_n hC 0 dX6_determinantOf_57 (pc' := 58) rfl rfl ?_
  refine j_bipush hC (v := 6) dX6_determinantOf_58 (pc' := 60) rfl (by decide) ?_
  refine lX_changed hC (j := 6) (show ¬ ((6 : Int32) < 0 ∨ 9 ≤ (6 : Int32).toNatClampNeg) from by decide) (by decide) dX6_determinantOf_60 (pc' := 61) rfl ?_
  refine j_lmul hC dX6_determinantOf_61 (pc' := 62) rfl ?_
  refine j_lsub hC dX6_determinantOf_62 (pc' := 63) rfl ?_
  refine j_lmul hC dX6_determinantOf_63 (pc' := 64) rfl ?_
  refine j_ladd hC dX6_determinantOf_64 (pc' := 65) rfl ?_
  exact j_lret hC dX6_determinantOf_65 hf
def f_X6_determinant (σ : St) (Q : Int64 → St → Prop) : Prop := f_X6_determinantOf_c σ (fun r1 σ2 => Q r1 σ2)
theorem dy_X6_determinant : yX6_determinant.cls = yX6_determinant.cls ∧ yX6_determinant.cls ≠ "java/lang/invoke/MethodHandle" ∧ yX6_determinant.cls ≠ "java/lang/invoke/VarHandle" ∧ (parseMethodDescriptor yX6_determinant.desc).map (fun d => d.parameters.length) = some 0 := by decide +kernel
set_option maxHeartbeats 4000000 in
set_option maxRecDepth 100000 in
theorem lk_X6_determinant {l : Launch} {D : va_G} {q : Nat → Nat} {ca : Nat → ClassId} {t : Nat} (hE : qok 28 q) (σ : St) (Q : Int64 → St → Prop) (hf : f_X6_determinant σ Q) : Ml l yX6_determinant cX6_determinant 1 (some .long) { frames := 1, cells := 0, slots := 0, locals := 20 } D (tysX ca) (ZX q t) (wX q ca) (AX q) [.ref (q 4)] σ Q := by
  refine j_start (own := RX6) (lv := [(0, .ref (q 4))]) [.ref (q 4)] (by decide +kernel) rfl (wX_D hE σ) (Nat.le_of_ble_eq_true rfl) rfl (fun p e s m args below meth c hC => ?_)
  unfold f_X6_determinant at hf
  refine j_aload_n hC 0 dX6_determinant_0 (pc' := 1) rfl rfl ?_
  refine gX_cells hC wm_52 dX6_determinant_1 (pc' := 4) rfl ?_
  refine jcS_l hC (eX hE) (As := [.ref (q 12)]) (lk_X6_determinantOf_c hE  σ _ hf) wm_274 wm_275 wm_3 wm_276 dy_X6_determinantOf ⟨rfl, rfl⟩ ⟨Nat.le_of_ble_eq_true rfl, Nat.le_of_ble_eq_true rfl⟩ ⟨Nat.le_refl _, Nat.le_refl _⟩ rfl rfl (Nat.le_of_ble_eq_true rfl) dX6_determinant_4 (pc' := 7) rfl (fun r1 σ2 hf => ?_)
  exact j_lret hC dX6_determinant_7 hf
def f_X6_determinantWithRight_b2 (Q : Int64 → St → Prop) : Nat → Int32 → Int32 → St → Prop
  | 0, _, _, _ => False
  | n + 1, a1, a2, σ => ((9 : Int32) ≤ a2 → f_X6_determinantOf_h σ (fun r1 σ2 => Q r1 σ2)) ∧ ((¬ (9 : Int32) ≤ a2) → ((¬ (a2 - a2 / (3 : Int32) * (3 : Int32)) = a1) → vp_in a2 9 ∧ vp_in a2 9 ∧ ∀ σ5 : St, σ5 = sL σ 2 (Int32.toNatClampNeg a2) (σ.2 0 (Int32.toNatClampNeg a2)) → ∀ x6 : Int32, x6 = a2 + (1 : Int32) → f_X6_determinantWithRight_b2 Q  n a1 x6 σ5) ∧ ((a2 - a2 / (3 : Int32) * (3 : Int32)) = a1 → vp_in (a2 / (3 : Int32)) 3 ∧ vp_in a2 9 ∧ ∀ σ9 : St, σ9 = sL σ 2 (Int32.toNatClampNeg a2) (σ.2 1 (Int32.toNatClampNeg (a2 / (3 : Int32)))) → ∀ x10 : Int32, x10 = a2 + (1 : Int32) → f_X6_determinantWithRight_b2 Q  n a1 x10 σ9))
def f_X6_determinantWithRight (a1 : Int32) (σ : St) (Q : Int64 → St → Prop) : Prop := ∃ n11 : Nat, f_X6_determinantWithRight_b2 Q n11 a1 (0 : Int32) σ
theorem dy_X6_determinantWithRight : yX6_determinantWithRight.cls = yX6_determinantWithRight.cls ∧ yX6_determinantWithRight.cls ≠ "java/lang/invoke/MethodHandle" ∧ yX6_determinantWithRight.cls ≠ "java/lang/invoke/VarHandle" ∧ (parseMethodDescriptor yX6_determinantWithRight.desc).map (fun d => d.parameters.length) = some 1 := by decide +kernel
set_option maxHeartbeats 4000000 in
set_option maxRecDepth 100000 in
theorem lb_X6_determinantWithRight_b2 {l : Launch} {D : va_G} {q : Nat → Nat} {ca : Nat → ClassId} {t : Nat} {p : Program} {e : Env} {s : State} {m : MethodId} {args : Array Value} {below : List Frame} {meth : Method} {c : Code} (hE : qok 28 q) (hC : Cx p s m args meth c cX6_determinantWithRight 3 RX6 (some .long) D (tysX ca) (ZX q t)) (Q : Int64 → St → Prop) : ∀ (n : Nat) (a1 : Int32) (a2 : Int32) (σ : St), f_X6_determinantWithRight_b2 Q n a1 a2 σ → J p l e { frames := 1, cells := 0, slots := 0, locals := 20 } s m args below meth c (MQ below (va_Ql Q (BW D (wX q ca)) (AX q)) args s 0 0 (AX q)) D (AX q) 3 0 0 (wX q ca σ) 2 [(0, .ref (q 4)), (1, .int a1), (2, .int a2)] [] := by
  intro n
  induction n with
  | zero => intro a1 a2 σ hf; exact hf.elim
  | succ n ih =>
    intro a1 a2 σ hf
    unfold f_X6_determinantWithRight_b2 at hf
    refine j_iload_n hC 2 dX6_determinantWithRight_2 (pc' := 3) rfl rfl ?_
    refine j_bipush hC (v := 9) dX6_determinantWithRight_3 (pc' := 5) rfl (by decide) ?_
    refine j_icmp_ge hC (tgt := 44) dX6_determinantWithRight_5 (pc' := 8) rfl (by decide) (fun c_ => ?_) (fun c_ => ?_)
    · replace hf := hf.1 c_
      refine j_aload_n hC 0 dX6_determinantWithRight_44 (pc' := 45) rfl rfl ?_
      refine gX_changed hC wm_55 dX6_determinantWithRight_45 (pc' := 48) rfl ?_
      refine jcS_l hC (eX hE) (As := [.ref (q 14)]) (lk_X6_determinantOf_h hE  σ _ hf) wm_274 wm_275 wm_3 wm_276 dy_X6_determinantOf ⟨rfl, rfl⟩ ⟨Nat.le_of_ble_eq_true rfl, Nat.le_of_ble_eq_true rfl⟩ ⟨Nat.le_refl _, Nat.le_refl _⟩ rfl rfl (Nat.le_of_ble_eq_true rfl) dX6_determinantWithRight_48 (pc' := 51) rfl (fun r1 σ2 hf => ?_)
      exact j_lret hC dX6_determinantWithRight_51 hf
    · replace hf := hf.2 c_
      refine j_aload_n hC 0 dX6_determinantWithRight_8 (pc' := 9) rfl rfl ?_
      refine gX_changed hC wm_55 dX6_determinantWithRight_9 (pc' := 12) rfl ?_
      refine j_iload_n hC 2 dX6_determinantWithRight_12 (pc' := 13) rfl rfl ?_
      refine j_iload_n hC 2 dX6_determinantWithRight_13 (pc' := 14) rfl rfl ?_
      refine j_iconst hC (v := 3) dX6_determinantWithRight_14 (pc' := 15) rfl (by decide) ?_
      refine j_irem hC dX6_determinantWithRight_15 (pc' := 16) rfl (by decide) ?_
      refine j_iload_n hC 1 dX6_determinantWithRight_16 (pc' := 17) rfl rfl ?_
      refine j_icmp_ne hC (tgt := 31) dX6_determinantWithRight_17 (pc' := 20) rfl (by decide) (fun c_ => ?_) (fun c_ => ?_)
      · replace hf := hf.1 c_
        refine j_aload_n hC 0 dX6_determinantWithRight_31 (pc' := 32) rfl rfl ?_
        refine gX_cells hC wm_52 dX6_determinantWithRight_32 (pc' := 35) rfl ?_
        refine j_iload_n hC 2 dX6_determinantWithRight_35 (pc' := 36) rfl rfl ?_
        obtain ⟨h3, hf⟩ := hf
        refine lX_cells hC (j := (Int32.toNatClampNeg a2)) h3 rfl dX6_determinantWithRight_36 (pc' := 37) rfl ?_
        obtain ⟨h4, hf⟩ := hf
        refine sX_changed hC (j := (Int32.toNatClampNeg a2)) h4 rfl dX6_determinantWithRight_37 (pc' := 38) rfl ?_
        refine j_nms (wf := wX q ca) (fun σ5 eσ5 => ?_)
        replace hf := hf σ5 eσ5
        obtain ⟨x6, ex6⟩ : ∃ y : Int32, y = a2 + (1 : Int32) := ⟨_, rfl⟩
        replace hf := hf x6 ex6
        refine j_iinc hC (v := x6) (q := 2) (lv' := [(2, .int x6), (0, .ref (q 4)), (1, .int a1)]) dX6_determinantWithRight_38 (pc' := 41) rfl rfl (by rw [ex6]; rfl) (by decide) rfl ?_
        refine j_goto hC (tgt := 2) dX6_determinantWithRight_41 (by decide) ?_
        refine j_lv [1, 2, 0] rfl ?_
        exact ih a1 x6 σ5 hf
      · replace hf := hf.2 c_
        refine j_aload_n hC 0 dX6_determinantWithRight_20 (pc' := 21) rfl rfl ?_
        refine gX_right hC wm_54 dX6_determinantWithRight_21 (pc' := 24) rfl ?_
        refine j_iload_n hC 2 dX6_determinantWithRight_24 (pc' := 25) rfl rfl ?_
        refine j_iconst hC (v := 3) dX6_determinantWithRight_25 (pc' := 26) rfl (by decide) ?_
        refine j_idiv hC dX6_determinantWithRight_26 (pc' := 27) rfl (by decide) ?_
        obtain ⟨h7, hf⟩ := hf
        refine lX_right hC (j := (Int32.toNatClampNeg (a2 / (3 : Int32)))) h7 rfl dX6_determinantWithRight_27 (pc' := 28) rfl ?_
        refine j_goto hC (tgt := 37) dX6_determinantWithRight_28 (by decide) ?_
        obtain ⟨h8, hf⟩ := hf
        refine sX_changed hC (j := (Int32.toNatClampNeg a2)) h8 rfl dX6_determinantWithRight_37 (pc' := 38) rfl ?_
        refine j_nms (wf := wX q ca) (fun σ9 eσ9 => ?_)
        replace hf := hf σ9 eσ9
        obtain ⟨x10, ex10⟩ : ∃ y : Int32, y = a2 + (1 : Int32) := ⟨_, rfl⟩
        replace hf := hf x10 ex10
        refine j_iinc hC (v := x10) (q := 2) (lv' := [(2, .int x10), (0, .ref (q 4)), (1, .int a1)]) dX6_determinantWithRight_38 (pc' := 41) rfl rfl (by rw [ex10]; rfl) (by decide) rfl ?_
        refine j_goto hC (tgt := 2) dX6_determinantWithRight_41 (by decide) ?_
        refine j_lv [1, 2, 0] rfl ?_
        exact ih a1 x10 σ9 hf
set_option maxHeartbeats 4000000 in
set_option maxRecDepth 100000 in
theorem lk_X6_determinantWithRight {l : Launch} {D : va_G} {q : Nat → Nat} {ca : Nat → ClassId} {t : Nat} (hE : qok 28 q) (a1 : Int32) (σ : St) (Q : Int64 → St → Prop) (hf : f_X6_determinantWithRight a1 σ Q) : Ml l yX6_determinantWithRight cX6_determinantWithRight 3 (some .long) { frames := 1, cells := 0, slots := 0, locals := 20 } D (tysX ca) (ZX q t) (wX q ca) (AX q) [.ref (q 4), .int a1] σ Q := by
  refine j_start (own := RX6) (lv := [(0, .ref (q 4)), (1, .int a1)]) [.ref (q 4), .int a1] (by decide +kernel) rfl (wX_D hE σ) (Nat.le_of_ble_eq_true rfl) rfl (fun p e s m args below meth c hC => ?_)
  unfold f_X6_determinantWithRight at hf
  refine j_iconst hC (v := 0) dX6_determinantWithRight_0 (pc' := 1) rfl (by decide) ?_
  refine j_istore_n hC (lv' := [(2, .int (0 : Int32)), (0, .ref (q 4)), (1, .int a1)]) dX6_determinantWithRight_1 (pc' := 2) rfl rfl (by decide) rfl ?_
  obtain ⟨n11, hf⟩ := hf
  refine j_lv [1, 2, 0] rfl ?_
  exact lb_X6_determinantWithRight_b2 hE hC Q n11 a1 (0 : Int32) σ hf
def f_X6_rankWithout_b20 (Q : Int32 → St → Prop) (a2 : Int32) (z0 : Int32) (σ : St) : Prop := vp_in ((4 : Int32) * a2) 9 ∧ ∀ x2 : Int64, x2 = σ.2 0 (Int32.toNatClampNeg ((4 : Int32) * a2)) → vp_in ((4 : Int32) * z0) 9 ∧ ∀ x4 : Int64, x4 = σ.2 0 (Int32.toNatClampNeg ((4 : Int32) * z0)) → vp_in (((3 : Int32) * a2) + z0) 9 ∧ ∀ x6 : Int64, x6 = σ.2 0 (Int32.toNatClampNeg (((3 : Int32) * a2) + z0)) → ((x2 * x4) = (x6 * x6) → ((¬ x2 = (0 : Int64)) → Q (1 : Int32) σ) ∧ (x2 = (0 : Int64) → (x4 = (0 : Int64) → Q (0 : Int32) σ) ∧ ((¬ x4 = (0 : Int64)) → Q (1 : Int32) σ))) ∧ ((¬ (x2 * x4) = (x6 * x6)) → Q (2 : Int32) σ)
def f_X6_rankWithout (a1 : Int32) (σ : St) (Q : Int32 → St → Prop) : Prop := ((¬ a1 = 0) → ((¬ a1 = (2 : Int32)) → f_X6_rankWithout_b20 Q (0 : Int32) (2 : Int32) σ) ∧ (a1 = (2 : Int32) → f_X6_rankWithout_b20 Q (0 : Int32) (1 : Int32) σ)) ∧ (a1 = 0 → ((¬ a1 = (2 : Int32)) → f_X6_rankWithout_b20 Q (1 : Int32) (2 : Int32) σ) ∧ (a1 = (2 : Int32) → f_X6_rankWithout_b20 Q (1 : Int32) (1 : Int32) σ))
theorem dy_X6_rankWithout : yX6_rankWithout.cls = yX6_rankWithout.cls ∧ yX6_rankWithout.cls ≠ "java/lang/invoke/MethodHandle" ∧ yX6_rankWithout.cls ≠ "java/lang/invoke/VarHandle" ∧ (parseMethodDescriptor yX6_rankWithout.desc).map (fun d => d.parameters.length) = some 1 := by decide +kernel
set_option maxHeartbeats 4000000 in
set_option maxRecDepth 100000 in
theorem lb_X6_rankWithout_b20 {l : Launch} {D : va_G} {q : Nat → Nat} {ca : Nat → ClassId} {t : Nat} {p : Program} {e : Env} {s : State} {m : MethodId} {args : Array Value} {below : List Frame} {meth : Method} {c : Code} (hE : qok 28 q) (hC : Cx p s m args meth c cX6_rankWithout 10 RX6 (some .int) D (tysX ca) (ZX q t)) (Q : Int32 → St → Prop) (a2 : Int32) (z0 : Int32) (σ : St) (hf : f_X6_rankWithout_b20 Q a2 z0 σ) : J p l e { frames := 0, cells := 0, slots := 0, locals := 0 } s m args below meth c (MQ below (va_Qi Q (BW D (wX q ca)) (AX q)) args s 0 0 (AX q)) D (AX q) 10 0 0 (wX q ca σ) 20 [(0, .ref (q 4)), (2, .int a2)] [.int z0] := by
  unfold f_X6_rankWithout_b20 at hf
  refine j_istore_n hC (lv' := [(3, .int z0), (0, .ref (q 4)), (2, .int a2)]) dX6_rankWithout_20 (pc' := 21) rfl rfl (by decide) rfl ?_
  refine j_aload_n hC 1 dX6_rankWithout_21 (pc' := 22) rfl rfl ?_
  refine gX_cells hC wm_52 dX6_rankWithout_22 (pc' := 25) rfl ?_
  refine j_iconst hC (v := 4) dX6_rankWithout_25 (pc' := 26) rfl (by decide) ?_
  refine j_iload_n hC 2 dX6_rankWithout_26 (pc' := 27) rfl rfl ?_
  refine j_imul hC dX6_rankWithout_27 (pc' := 28) rfl ?_
  obtain ⟨h1, hf⟩ := hf
  refine lX_cells hC (j := (Int32.toNatClampNeg ((4 : Int32) * a2))) h1 rfl dX6_rankWithout_28 (pc' := 29) rfl ?_
  refine j_nml (fun x2 ex2 => ?_)
  replace hf := hf x2 ex2
  refine j_lstore hC (lv' := [(4, .long x2), (3, .int z0), (0, .ref (q 4)), (2, .int a2)]) dX6_rankWithout_29 (pc' := 31) rfl (by decide) rfl ?_
  refine j_aload_n hC 2 dX6_rankWithout_31 (pc' := 32) rfl rfl ?_
  refine gX_cells hC wm_52 dX6_rankWithout_32 (pc' := 35) rfl ?_
  refine j_iconst hC (v := 4) dX6_rankWithout_35 (pc' := 36) rfl (by decide) ?_
  refine j_iload_n hC 1 dX6_rankWithout_36 (pc' := 37) rfl rfl ?_
  refine j_imul hC dX6_rankWithout_37 (pc' := 38) rfl ?_
  obtain ⟨h3, hf⟩ := hf
  refine lX_cells hC (j := (Int32.toNatClampNeg ((4 : Int32) * z0))) h3 rfl dX6_rankWithout_38 (pc' := 39) rfl ?_
  refine j_nml (fun x4 ex4 => ?_)
  replace hf := hf x4 ex4
  refine j_lstore hC (lv' := [(6, .long x4), (4, .long x2), (3, .int z0), (0, .ref (q 4)), (2, .int a2)]) dX6_rankWithout_39 (pc' := 41) rfl (by decide) rfl ?_
  refine j_aload_n hC 3 dX6_rankWithout_41 (pc' := 42) rfl rfl ?_
  refine gX_cells hC wm_52 dX6_rankWithout_42 (pc' := 45) rfl ?_
  refine j_iconst hC (v := 3) dX6_rankWithout_45 (pc' := 46) rfl (by decide) ?_
  refine j_iload_n hC 4 dX6_rankWithout_46 (pc' := 47) rfl rfl ?_
  refine j_imul hC dX6_rankWithout_47 (pc' := 48) rfl ?_
  refine j_iload_n hC 2 dX6_rankWithout_48 (pc' := 49) rfl rfl ?_
  refine j_iadd hC dX6_rankWithout_49 (pc' := 50) rfl ?_
  obtain ⟨h5, hf⟩ := hf
  refine lX_cells hC (j := (Int32.toNatClampNeg (((3 : Int32) * a2) + z0))) h5 rfl dX6_rankWithout_50 (pc' := 51) rfl ?_
  refine j_nml (fun x6 ex6 => ?_)
  replace hf := hf x6 ex6
  refine j_lstore hC (lv' := [(8, .long x6), (6, .long x4), (4, .long x2), (3, .int z0), (0, .ref (q 4)), (2, .int a2)]) dX6_rankWithout_51 (pc' := 53) rfl (by decide) rfl ?_
  refine j_lload hC 2 dX6_rankWithout_53 (pc' := 55) rfl rfl ?_
  refine j_lload hC 1 dX6_rankWithout_55 (pc' := 57) rfl rfl ?_
  refine j_lmul hC dX6_rankWithout_57 (pc' := 58) rfl ?_
  refine j_lload hC 0 dX6_rankWithout_58 (pc' := 60) rfl rfl ?_
  refine j_lload hC 0 dX6_rankWithout_60 (pc' := 62) rfl rfl ?_
  refine j_lmul hC dX6_rankWithout_62 (pc' := 63) rfl ?_
  refine j_lcmp hC dX6_rankWithout_63 (pc' := 64) rfl ?_
  refine j_if_eq hC (tgt := 69) dX6_rankWithout_64 (pc' := 67) rfl (by decide) (fun c_ => ?_) (fun c_ => ?_)
  · replace hf := hf.1 ((lgc_eq _ _).mp c_)
    refine j_lload hC 2 dX6_rankWithout_69 (pc' := 71) rfl rfl ?_
    refine j_lconst hC (v := 0) dX6_rankWithout_71 (pc' := 72) rfl (by decide) ?_
    refine j_lcmp hC dX6_rankWithout_72 (pc' := 73) rfl ?_
    refine j_if_ne hC (tgt := 83) dX6_rankWithout_73 (pc' := 76) rfl (by decide) (fun c_ => ?_) (fun c_ => ?_)
    · replace hf := hf.1 (fun z => c_ ((lgc_eq _ _).mpr z))
      refine j_iconst hC (v := 1) dX6_rankWithout_83 (pc' := 84) rfl (by decide) ?_
      refine j_goto hC (tgt := 88) dX6_rankWithout_84 (by decide) ?_
      exact j_iret hC dX6_rankWithout_88 hf
    · replace hf := hf.2 ((lgc_eq _ _).mp c_)
      refine j_lload hC 1 dX6_rankWithout_76 (pc' := 78) rfl rfl ?_
      refine j_lconst hC (v := 0) dX6_rankWithout_78 (pc' := 79) rfl (by decide) ?_
      refine j_lcmp hC dX6_rankWithout_79 (pc' := 80) rfl ?_
      refine j_if_eq hC (tgt := 87) dX6_rankWithout_80 (pc' := 83) rfl (by decide) (fun c_ => ?_) (fun c_ => ?_)
      · replace hf := hf.1 ((lgc_eq _ _).mp c_)
        refine j_iconst hC (v := 0) dX6_rankWithout_87 (pc' := 88) rfl (by decide) ?_
        exact j_iret hC dX6_rankWithout_88 hf
      · replace hf := hf.2 (fun z => c_ ((lgc_eq _ _).mpr z))
        refine j_iconst hC (v := 1) dX6_rankWithout_83 (pc' := 84) rfl (by decide) ?_
        refine j_goto hC (tgt := 88) dX6_rankWithout_84 (by decide) ?_
        exact j_iret hC dX6_rankWithout_88 hf
  · replace hf := hf.2 (fun z => c_ ((lgc_eq _ _).mpr z))
    refine j_iconst hC (v := 2) dX6_rankWithout_67 (pc' := 68) rfl (by decide) ?_
    exact j_iret hC dX6_rankWithout_68 hf
set_option maxHeartbeats 4000000 in
set_option maxRecDepth 100000 in
theorem lk_X6_rankWithout {l : Launch} {D : va_G} {q : Nat → Nat} {ca : Nat → ClassId} {t : Nat} (hE : qok 28 q) (a1 : Int32) (σ : St) (Q : Int32 → St → Prop) (hf : f_X6_rankWithout a1 σ Q) : Mi l yX6_rankWithout cX6_rankWithout 10 (some .int) { frames := 0, cells := 0, slots := 0, locals := 0 } D (tysX ca) (ZX q t) (wX q ca) (AX q) [.ref (q 4), .int a1] σ Q := by
  refine j_start (own := RX6) (lv := [(0, .ref (q 4)), (1, .int a1)]) [.ref (q 4), .int a1] (by decide +kernel) rfl (wX_D hE σ) (Nat.le_of_ble_eq_true rfl) rfl (fun p e s m args below meth c hC => ?_)
  unfold f_X6_rankWithout at hf
  refine j_iload_n hC 1 dX6_rankWithout_0 (pc' := 1) rfl rfl ?_
  refine j_if_ne hC (tgt := 8) dX6_rankWithout_1 (pc' := 4) rfl (by decide) (fun c_ => ?_) (fun c_ => ?_)
  · replace hf := hf.1 c_
    refine j_iconst hC (v := 0) dX6_rankWithout_8 (pc' := 9) rfl (by decide) ?_
    refine j_istore_n hC (lv' := [(2, .int (0 : Int32)), (0, .ref (q 4)), (1, .int a1)]) dX6_rankWithout_9 (pc' := 10) rfl rfl (by decide) rfl ?_
    refine j_iload_n hC 2 dX6_rankWithout_10 (pc' := 11) rfl rfl ?_
    refine j_iconst hC (v := 2) dX6_rankWithout_11 (pc' := 12) rfl (by decide) ?_
    refine j_icmp_ne hC (tgt := 19) dX6_rankWithout_12 (pc' := 15) rfl (by decide) (fun c_ => ?_) (fun c_ => ?_)
    · replace hf := hf.1 c_
      refine j_iconst hC (v := 2) dX6_rankWithout_19 (pc' := 20) rfl (by decide) ?_
      refine j_lv [1, 0] rfl ?_
      exact lb_X6_rankWithout_b20 hE hC Q (0 : Int32) (2 : Int32) σ hf
    · replace hf := hf.2 c_
      refine j_iconst hC (v := 1) dX6_rankWithout_15 (pc' := 16) rfl (by decide) ?_
      refine j_goto hC (tgt := 20) dX6_rankWithout_16 (by decide) ?_
      refine j_lv [1, 0] rfl ?_
      exact lb_X6_rankWithout_b20 hE hC Q (0 : Int32) (1 : Int32) σ hf
  · replace hf := hf.2 c_
    refine j_iconst hC (v := 1) dX6_rankWithout_4 (pc' := 5) rfl (by decide) ?_
    refine j_goto hC (tgt := 9) dX6_rankWithout_5 (by decide) ?_
    refine j_istore_n hC (lv' := [(2, .int (1 : Int32)), (0, .ref (q 4)), (1, .int a1)]) dX6_rankWithout_9 (pc' := 10) rfl rfl (by decide) rfl ?_
    refine j_iload_n hC 2 dX6_rankWithout_10 (pc' := 11) rfl rfl ?_
    refine j_iconst hC (v := 2) dX6_rankWithout_11 (pc' := 12) rfl (by decide) ?_
    refine j_icmp_ne hC (tgt := 19) dX6_rankWithout_12 (pc' := 15) rfl (by decide) (fun c_ => ?_) (fun c_ => ?_)
    · replace hf := hf.1 c_
      refine j_iconst hC (v := 2) dX6_rankWithout_19 (pc' := 20) rfl (by decide) ?_
      refine j_lv [1, 0] rfl ?_
      exact lb_X6_rankWithout_b20 hE hC Q (1 : Int32) (2 : Int32) σ hf
    · replace hf := hf.2 c_
      refine j_iconst hC (v := 1) dX6_rankWithout_15 (pc' := 16) rfl (by decide) ?_
      refine j_goto hC (tgt := 20) dX6_rankWithout_16 (by decide) ?_
      refine j_lv [1, 0] rfl ?_
      exact lb_X6_rankWithout_b20 hE hC Q (1 : Int32) (1 : Int32) σ hf
def f_X6_rankOfAll (σ : St) (Q : Int32 → St → Prop) : Prop := f_X6_determinant σ (fun r1 σ2 => (r1 = (0 : Int64) → f_X6_rankWithout (0 : Int32) σ2 (fun r3 σ4 => f_X6_rankWithout (1 : Int32) σ4 (fun r5 σ6 => f_X6_rankWithout (2 : Int32) σ6 (fun r7 σ8 => f_J9_max_7cf53 r5 r7 σ8 (fun r9 σ10 => f_J9_max_7cf53 r3 r9 σ10 (fun r11 σ12 => Q r11 σ12)))))) ∧ ((¬ r1 = (0 : Int64)) → Q (3 : Int32) σ2))
theorem dy_X6_rankOfAll : yX6_rankOfAll.cls = yX6_rankOfAll.cls ∧ yX6_rankOfAll.cls ≠ "java/lang/invoke/MethodHandle" ∧ yX6_rankOfAll.cls ≠ "java/lang/invoke/VarHandle" ∧ (parseMethodDescriptor yX6_rankOfAll.desc).map (fun d => d.parameters.length) = some 0 := by decide +kernel
set_option maxHeartbeats 4000000 in
set_option maxRecDepth 100000 in
theorem lk_X6_rankOfAll {l : Launch} {D : va_G} {q : Nat → Nat} {ca : Nat → ClassId} {t : Nat} (hE : qok 28 q) (σ : St) (Q : Int32 → St → Prop) (hf : f_X6_rankOfAll σ Q) : Mi l yX6_rankOfAll cX6_rankOfAll 1 (some .int) { frames := 2, cells := 0, slots := 0, locals := 40 } D (tysX ca) (ZX q t) (wX q ca) (AX q) [.ref (q 4)] σ Q := by
  refine j_start (own := RX6) (lv := [(0, .ref (q 4))]) [.ref (q 4)] (by decide +kernel) rfl (wX_D hE σ) (Nat.le_of_ble_eq_true rfl) rfl (fun p e s m args below meth c hC => ?_)
  unfold f_X6_rankOfAll at hf
  refine j_aload_n hC 0 dX6_rankOfAll_0 (pc' := 1) rfl rfl ?_
  refine jcV_l hC (eX hE) (As := []) (obX_X6) (rfl) (lk_X6_determinant hE  σ _ hf) wm_270 wm_271 wm_272 wm_3 wm_273 dy_X6_determinant ⟨rfl, rfl⟩ ⟨Nat.le_of_ble_eq_true rfl, Nat.le_of_ble_eq_true rfl⟩ ⟨Nat.le_refl _, Nat.le_refl _⟩ rfl rfl (Nat.le_of_ble_eq_true rfl) dX6_rankOfAll_1 (pc' := 4) rfl (fun r1 σ2 hf => ?_)
  refine j_lconst hC (v := 0) dX6_rankOfAll_4 (pc' := 5) rfl (by decide) ?_
  refine j_lcmp hC dX6_rankOfAll_5 (pc' := 6) rfl ?_
  refine j_if_eq hC (tgt := 11) dX6_rankOfAll_6 (pc' := 9) rfl (by decide) (fun c_ => ?_) (fun c_ => ?_)
  · replace hf := hf.1 ((lgc_eq _ _).mp c_)
    refine j_aload_n hC 0 dX6_rankOfAll_11 (pc' := 12) rfl rfl ?_
    refine j_iconst hC (v := 0) dX6_rankOfAll_12 (pc' := 13) rfl (by decide) ?_
    refine jcV_i hC (eX hE) (As := [.int (0 : Int32)]) (obX_X6) (rfl) (lk_X6_rankWithout hE (0 : Int32) σ2 _ hf) wm_277 wm_278 wm_888 wm_3 wm_279 dy_X6_rankWithout ⟨rfl, rfl⟩ ⟨Nat.le_of_ble_eq_true rfl, Nat.le_of_ble_eq_true rfl⟩ ⟨Nat.le_refl _, Nat.le_refl _⟩ rfl rfl (Nat.le_of_ble_eq_true rfl) dX6_rankOfAll_13 (pc' := 16) rfl (fun r3 σ4 hf => ?_)
    refine j_aload_n hC 0 dX6_rankOfAll_16 (pc' := 17) rfl rfl ?_
    refine j_iconst hC (v := 1) dX6_rankOfAll_17 (pc' := 18) rfl (by decide) ?_
    refine jcV_i hC (eX hE) (As := [.int (1 : Int32)]) (obX_X6) (rfl) (lk_X6_rankWithout hE (1 : Int32) σ4 _ hf) wm_277 wm_278 wm_888 wm_3 wm_279 dy_X6_rankWithout ⟨rfl, rfl⟩ ⟨Nat.le_of_ble_eq_true rfl, Nat.le_of_ble_eq_true rfl⟩ ⟨Nat.le_refl _, Nat.le_refl _⟩ rfl rfl (Nat.le_of_ble_eq_true rfl) dX6_rankOfAll_18 (pc' := 21) rfl (fun r5 σ6 hf => ?_)
    refine j_aload_n hC 0 dX6_rankOfAll_21 (pc' := 22) rfl rfl ?_
    refine j_iconst hC (v := 2) dX6_rankOfAll_22 (pc' := 23) rfl (by decide) ?_
    refine jcV_i hC (eX hE) (As := [.int (2 : Int32)]) (obX_X6) (rfl) (lk_X6_rankWithout hE (2 : Int32) σ6 _ hf) wm_277 wm_278 wm_888 wm_3 wm_279 dy_X6_rankWithout ⟨rfl, rfl⟩ ⟨Nat.le_of_ble_eq_true rfl, Nat.le_of_ble_eq_true rfl⟩ ⟨Nat.le_refl _, Nat.le_refl _⟩ rfl rfl (Nat.le_of_ble_eq_true rfl) dX6_rankOfAll_23 (pc' := 26) rfl (fun r7 σ8 hf => ?_)
    refine jcS_i hC (eX hE) (As := [.int r5, .int r7]) (lk_J9_max_7cf53 hE r5 r7 σ8 _ hf) wm_280 wm_281 wm_11 wm_282 dy_J9_max_7cf53 ⟨rfl, rfl⟩ ⟨Nat.le_of_ble_eq_true rfl, Nat.le_of_ble_eq_true rfl⟩ ⟨Nat.le_refl _, Nat.le_refl _⟩ rfl rfl (Nat.le_of_ble_eq_true rfl) dX6_rankOfAll_26 (pc' := 29) rfl (fun r9 σ10 hf => ?_)
    refine jcS_i hC (eX hE) (As := [.int r3, .int r9]) (lk_J9_max_7cf53 hE r3 r9 σ10 _ hf) wm_280 wm_281 wm_11 wm_282 dy_J9_max_7cf53 ⟨rfl, rfl⟩ ⟨Nat.le_of_ble_eq_true rfl, Nat.le_of_ble_eq_true rfl⟩ ⟨Nat.le_refl _, Nat.le_refl _⟩ rfl rfl (Nat.le_of_ble_eq_true rfl) dX6_rankOfAll_29 (pc' := 32) rfl (fun r11 σ12 hf => ?_)
    exact j_iret hC dX6_rankOfAll_32 hf
  · replace hf := hf.2 (fun z => c_ ((lgc_eq _ _).mpr z))
    refine j_iconst hC (v := 3) dX6_rankOfAll_9 (pc' := 10) rfl (by decide) ?_
    exact j_iret hC dX6_rankOfAll_10 hf
def f_X6_tells (a1 : Int32) (σ : St) (Q : Int32 → St → Prop) : Prop := f_X6_rankWithout a1 σ (fun r1 σ2 => f_X6_rankOfAll σ2 (fun r3 σ4 => (r3 ≤ r1 → Q (0 : Int32) σ4) ∧ ((¬ r3 ≤ r1) → Q (1 : Int32) σ4)))
theorem dy_X6_tells : yX6_tells.cls = yX6_tells.cls ∧ yX6_tells.cls ≠ "java/lang/invoke/MethodHandle" ∧ yX6_tells.cls ≠ "java/lang/invoke/VarHandle" ∧ (parseMethodDescriptor yX6_tells.desc).map (fun d => d.parameters.length) = some 1 := by decide +kernel
set_option maxHeartbeats 4000000 in
set_option maxRecDepth 100000 in
theorem lk_X6_tells {l : Launch} {D : va_G} {q : Nat → Nat} {ca : Nat → ClassId} {t : Nat} (hE : qok 28 q) (a1 : Int32) (σ : St) (Q : Int32 → St → Prop) (hf : f_X6_tells a1 σ Q) : Mi l yX6_tells cX6_tells 2 (some .boolean) { frames := 3, cells := 0, slots := 0, locals := 60 } D (tysX ca) (ZX q t) (wX q ca) (AX q) [.ref (q 4), .int a1] σ Q := by
  refine j_start (own := RX6) (lv := [(0, .ref (q 4)), (1, .int a1)]) [.ref (q 4), .int a1] (by decide +kernel) rfl (wX_D hE σ) (Nat.le_of_ble_eq_true rfl) rfl (fun p e s m args below meth c hC => ?_)
  unfold f_X6_tells at hf
  refine j_aload_n hC 0 dX6_tells_0 (pc' := 1) rfl rfl ?_
  refine j_iload_n hC 1 dX6_tells_1 (pc' := 2) rfl rfl ?_
  refine jcV_i hC (eX hE) (As := [.int a1]) (obX_X6) (rfl) (lk_X6_rankWithout hE a1 σ _ hf) wm_277 wm_278 wm_888 wm_3 wm_279 dy_X6_rankWithout ⟨rfl, rfl⟩ ⟨Nat.le_of_ble_eq_true rfl, Nat.le_of_ble_eq_true rfl⟩ ⟨Nat.le_refl _, Nat.le_refl _⟩ rfl rfl (Nat.le_of_ble_eq_true rfl) dX6_tells_2 (pc' := 5) rfl (fun r1 σ2 hf => ?_)
  refine j_aload_n hC 0 dX6_tells_5 (pc' := 6) rfl rfl ?_
  refine jcV_i hC (eX hE) (As := []) (obX_X6) (rfl) (lk_X6_rankOfAll hE  σ2 _ hf) wm_333 wm_267 wm_268 wm_3 wm_269 dy_X6_rankOfAll ⟨rfl, rfl⟩ ⟨Nat.le_of_ble_eq_true rfl, Nat.le_of_ble_eq_true rfl⟩ ⟨Nat.le_refl _, Nat.le_refl _⟩ rfl rfl (Nat.le_of_ble_eq_true rfl) dX6_tells_6 (pc' := 9) rfl (fun r3 σ4 hf => ?_)
  refine j_icmp_ge hC (tgt := 16) dX6_tells_9 (pc' := 12) rfl (by decide) (fun c_ => ?_) (fun c_ => ?_)
  · replace hf := hf.1 c_
    refine j_iconst hC (v := 0) dX6_tells_16 (pc' := 17) rfl (by decide) ?_
    exact j_zret hC dX6_tells_17 (Or.inl rfl) hf
  · replace hf := hf.2 c_
    refine j_iconst hC (v := 1) dX6_tells_12 (pc' := 13) rfl (by decide) ?_
    refine j_goto hC (tgt := 17) dX6_tells_13 (by decide) ?_
    exact j_zret hC dX6_tells_17 (Or.inr rfl) hf
def f_J9_floorDiv_f86c9 (a0 : Int64) (a2 : Int64) (σ : St) (Q : Int64 → St → Prop) : Prop := (¬ a2 = 0) ∧ ∀ x2 : Int64, x2 = a0 / a2 → ((0 : Int64) ≤ (a0 ^^^ a2) → Q x2 σ) ∧ ((¬ (0 : Int64) ≤ (a0 ^^^ a2)) → ((x2 * a2) = a0 → Q x2 σ) ∧ ((¬ (x2 * a2) = a0) → Q (x2 - (1 : Int64)) σ))
theorem dy_J9_floorDiv_f86c9 : yJ9_floorDiv_f86c9.cls ≠ "java/lang/invoke/MethodHandle" ∧ yJ9_floorDiv_f86c9.cls ≠ "java/lang/invoke/VarHandle" ∧ (parseMethodDescriptor yJ9_floorDiv_f86c9.desc).map (fun d => d.parameters.length) = some 2 := by decide +kernel
set_option maxHeartbeats 4000000 in
set_option maxRecDepth 100000 in
theorem lk_J9_floorDiv_f86c9 {l : Launch} {D : va_G} {q : Nat → Nat} {ca : Nat → ClassId} {t : Nat} (hE : qok 28 q) (a0 : Int64) (a2 : Int64) (σ : St) (Q : Int64 → St → Prop) (hf : f_J9_floorDiv_f86c9 a0 a2 σ Q) : Ml l yJ9_floorDiv_f86c9 cJ9_floorDiv_f86c9 6 (some .long) { frames := 0, cells := 0, slots := 0, locals := 0 } D (tysX ca) (ZX q t) (wX q ca) (AX q) [.long a0, .long a2] σ Q := by
  refine j_start (own := RJ9) (lv := [(0, .long a0), (2, .long a2)]) [.long a0, .long a2] (by decide +kernel) rfl (wX_D hE σ) (Nat.le_of_ble_eq_true rfl) rfl (fun p e s m args below meth c hC => ?_)
  unfold f_J9_floorDiv_f86c9 at hf
  refine j_lload_n hC 0 dJ9_floorDiv_f86c9_0 (pc' := 1) rfl rfl ?_
  refine j_lload_n hC 1 dJ9_floorDiv_f86c9_1 (pc' := 2) rfl rfl ?_
  obtain ⟨h1, hf⟩ := hf
  refine j_ldiv hC dJ9_floorDiv_f86c9_2 (pc' := 3) rfl h1 ?_
  refine j_nml (fun x2 ex2 => ?_)
  replace hf := hf x2 ex2
  refine j_lstore hC (lv' := [(4, .long x2), (0, .long a0), (2, .long a2)]) dJ9_floorDiv_f86c9_3 (pc' := 5) rfl (by decide) rfl ?_
  refine j_lload_n hC 1 dJ9_floorDiv_f86c9_5 (pc' := 6) rfl rfl ?_
  refine j_lload_n hC 2 dJ9_floorDiv_f86c9_6 (pc' := 7) rfl rfl ?_
  refine j_lxor hC dJ9_floorDiv_f86c9_7 (pc' := 8) rfl ?_
  refine j_lconst hC (v := 0) dJ9_floorDiv_f86c9_8 (pc' := 9) rfl (by decide) ?_
  refine j_lcmp hC dJ9_floorDiv_f86c9_9 (pc' := 10) rfl ?_
  refine j_if_ge hC (tgt := 27) dJ9_floorDiv_f86c9_10 (pc' := 13) rfl (by decide) (fun c_ => ?_) (fun c_ => ?_)
  · replace hf := hf.1 ((lgc_ge _ _).mp c_)
    refine j_lload hC 0 dJ9_floorDiv_f86c9_27 (pc' := 29) rfl rfl ?_
    exact j_lret hC dJ9_floorDiv_f86c9_29 hf
  · replace hf := hf.2 (fun z => c_ ((lgc_ge _ _).mpr z))
    refine j_lload hC 0 dJ9_floorDiv_f86c9_13 (pc' := 15) rfl rfl ?_
    refine j_lload_n hC 2 dJ9_floorDiv_f86c9_15 (pc' := 16) rfl rfl ?_
    refine j_lmul hC dJ9_floorDiv_f86c9_16 (pc' := 17) rfl ?_
    refine j_lload_n hC 1 dJ9_floorDiv_f86c9_17 (pc' := 18) rfl rfl ?_
    refine j_lcmp hC dJ9_floorDiv_f86c9_18 (pc' := 19) rfl ?_
    refine j_if_eq hC (tgt := 27) dJ9_floorDiv_f86c9_19 (pc' := 22) rfl (by decide) (fun c_ => ?_) (fun c_ => ?_)
    · replace hf := hf.1 ((lgc_eq _ _).mp c_)
      refine j_lload hC 0 dJ9_floorDiv_f86c9_27 (pc' := 29) rfl rfl ?_
      exact j_lret hC dJ9_floorDiv_f86c9_29 hf
    · replace hf := hf.2 (fun z => c_ ((lgc_eq _ _).mpr z))
      refine j_lload hC 0 dJ9_floorDiv_f86c9_22 (pc' := 24) rfl rfl ?_
      refine j_lconst hC (v := 1) dJ9_floorDiv_f86c9_24 (pc' := 25) rfl (by decide) ?_
      refine j_lsub hC dJ9_floorDiv_f86c9_25 (pc' := 26) rfl ?_
      exact j_lret hC dJ9_floorDiv_f86c9_26 hf
def f_X6_fitted (a1 : Int32) (σ : St) (Q : Int64 → St → Prop) : Prop := f_X6_determinant σ (fun r1 σ2 => ((¬ r1 = (0 : Int64)) → f_X6_determinantWithRight a1 σ2 (fun r3 σ4 => f_J9_floorDiv_f86c9 r3 r1 σ4 (fun r5 σ6 => ∀ x7 : Int64, x7 = r3 - (r5 * r1) → f_J9_floorDiv_f86c9 ((6500 : Int64) * x7) r1 σ6 (fun r8 σ9 => Q (((6500 : Int64) * r5) + r8) σ9)))) ∧ (r1 = (0 : Int64) → Q (0 : Int64) σ2))
theorem dy_X6_fitted : yX6_fitted.cls = yX6_fitted.cls ∧ yX6_fitted.cls ≠ "java/lang/invoke/MethodHandle" ∧ yX6_fitted.cls ≠ "java/lang/invoke/VarHandle" ∧ (parseMethodDescriptor yX6_fitted.desc).map (fun d => d.parameters.length) = some 1 := by decide +kernel
set_option maxHeartbeats 4000000 in
set_option maxRecDepth 100000 in
theorem lk_X6_fitted {l : Launch} {D : va_G} {q : Nat → Nat} {ca : Nat → ClassId} {t : Nat} (hE : qok 28 q) (a1 : Int32) (σ : St) (Q : Int64 → St → Prop) (hf : f_X6_fitted a1 σ Q) : Ml l yX6_fitted cX6_fitted 10 (some .long) { frames := 2, cells := 0, slots := 0, locals := 42 } D (tysX ca) (ZX q t) (wX q ca) (AX q) [.ref (q 4), .int a1] σ Q := by
  refine j_start (own := RX6) (lv := [(0, .ref (q 4)), (1, .int a1)]) [.ref (q 4), .int a1] (by decide +kernel) rfl (wX_D hE σ) (Nat.le_of_ble_eq_true rfl) rfl (fun p e s m args below meth c hC => ?_)
  unfold f_X6_fitted at hf
  refine j_aload_n hC 0 dX6_fitted_0 (pc' := 1) rfl rfl ?_
  refine jcV_l hC (eX hE) (As := []) (obX_X6) (rfl) (lk_X6_determinant hE  σ _ hf) wm_270 wm_271 wm_272 wm_3 wm_273 dy_X6_determinant ⟨rfl, rfl⟩ ⟨Nat.le_of_ble_eq_true rfl, Nat.le_of_ble_eq_true rfl⟩ ⟨Nat.le_refl _, Nat.le_refl _⟩ rfl rfl (Nat.le_of_ble_eq_true rfl) dX6_fitted_1 (pc' := 4) rfl (fun r1 σ2 hf => ?_)
  refine j_lstore_n hC (lv' := [(2, .long r1), (0, .ref (q 4)), (1, .int a1)]) dX6_fitted_4 (pc' := 5) rfl rfl (by decide) rfl ?_
  refine j_lload_n hC 0 dX6_fitted_5 (pc' := 6) rfl rfl ?_
  refine j_lconst hC (v := 0) dX6_fitted_6 (pc' := 7) rfl (by decide) ?_
  refine j_lcmp hC dX6_fitted_7 (pc' := 8) rfl ?_
  refine j_if_ne hC (tgt := 13) dX6_fitted_8 (pc' := 11) rfl (by decide) (fun c_ => ?_) (fun c_ => ?_)
  · replace hf := hf.1 (fun z => c_ ((lgc_eq _ _).mpr z))
    refine j_aload_n hC 1 dX6_fitted_13 (pc' := 14) rfl rfl ?_
    refine j_iload_n hC 2 dX6_fitted_14 (pc' := 15) rfl rfl ?_
    refine jcV_l hC (eX hE) (As := [.int a1]) (obX_X6) (rfl) (lk_X6_determinantWithRight hE a1 σ2 _ hf) wm_287 wm_288 wm_889 wm_3 wm_289 dy_X6_determinantWithRight ⟨rfl, rfl⟩ ⟨Nat.le_of_ble_eq_true rfl, Nat.le_of_ble_eq_true rfl⟩ ⟨Nat.le_refl _, Nat.le_refl _⟩ rfl rfl (Nat.le_of_ble_eq_true rfl) dX6_fitted_15 (pc' := 18) rfl (fun r3 σ4 hf => ?_)
    refine j_lstore hC (lv' := [(4, .long r3), (2, .long r1), (0, .ref (q 4)), (1, .int a1)]) dX6_fitted_18 (pc' := 20) rfl (by decide) rfl ?_
    refine j_lload hC 0 dX6_fitted_20 (pc' := 22) rfl rfl ?_
    refine j_lload_n hC 1 dX6_fitted_22 (pc' := 23) rfl rfl ?_
    refine jcS_l hC (eX hE) (As := [.long r3, .long r1]) (lk_J9_floorDiv_f86c9 hE r3 r1 σ4 _ hf) wm_290 wm_291 wm_11 wm_292 dy_J9_floorDiv_f86c9 ⟨rfl, rfl⟩ ⟨Nat.le_of_ble_eq_true rfl, Nat.le_of_ble_eq_true rfl⟩ ⟨Nat.le_refl _, Nat.le_refl _⟩ rfl rfl (Nat.le_of_ble_eq_true rfl) dX6_fitted_23 (pc' := 26) rfl (fun r5 σ6 hf => ?_)
    refine j_lstore hC (lv' := [(6, .long r5), (4, .long r3), (2, .long r1), (0, .ref (q 4)), (1, .int a1)]) dX6_fitted_26 (pc' := 28) rfl (by decide) rfl ?_
    refine j_lload hC 1 dX6_fitted_28 (pc' := 30) rfl rfl ?_
    refine j_lload hC 0 dX6_fitted_30 (pc' := 32) rfl rfl ?_
    refine j_lload_n hC 2 dX6_fitted_32 (pc' := 33) rfl rfl ?_
    refine j_lmul hC dX6_fitted_33 (pc' := 34) rfl ?_
    refine j_lsub hC dX6_fitted_34 (pc' := 35) rfl ?_
    refine j_nml (fun x7 ex7 => ?_)
    replace hf := hf x7 ex7
    refine j_lstore hC (lv' := [(8, .long x7), (6, .long r5), (4, .long r3), (2, .long r1), (0, .ref (q 4)), (1, .int a1)]) dX6_fitted_35 (pc' := 37) rfl (by decide) rfl ?_
    refine j_ldc2 hC (v := 6500) dX6_fitted_37 (pc' := 40) rfl wm_293 ?_
    refine j_lload hC 1 dX6_fitted_40 (pc' := 42) rfl rfl ?_
    refine j_lmul hC dX6_fitted_42 (pc' := 43) rfl ?_
    refine j_ldc2 hC (v := 6500) dX6_fitted_43 (pc' := 46) rfl wm_293 ?_
    refine j_lload hC 0 dX6_fitted_46 (pc' := 48) rfl rfl ?_
    refine j_lmul hC dX6_fitted_48 (pc' := 49) rfl ?_
    refine j_lload_n hC 3 dX6_fitted_49 (pc' := 50) rfl rfl ?_
    refine jcS_l hC (eX hE) (As := [.long ((6500 : Int64) * x7), .long r1]) (lk_J9_floorDiv_f86c9 hE ((6500 : Int64) * x7) r1 σ6 _ hf) wm_290 wm_291 wm_11 wm_292 dy_J9_floorDiv_f86c9 ⟨rfl, rfl⟩ ⟨Nat.le_of_ble_eq_true rfl, Nat.le_of_ble_eq_true rfl⟩ ⟨Nat.le_refl _, Nat.le_refl _⟩ rfl rfl (Nat.le_of_ble_eq_true rfl) dX6_fitted_50 (pc' := 53) rfl (fun r8 σ9 hf => ?_)
    refine j_ladd hC dX6_fitted_53 (pc' := 54) rfl ?_
    exact j_lret hC dX6_fitted_54 hf
  · replace hf := hf.2 ((lgc_eq _ _).mp c_)
    refine j_lconst hC (v := 0) dX6_fitted_11 (pc' := 12) rfl (by decide) ?_
    exact j_lret hC dX6_fitted_12 hf
def f_X7_within (a0 : Int32) (a1 : Int32) (a2 : Int32) (σ : St) (Q : Int32 → St → Prop) : Prop := (a0 < a1 → Q (0 : Int32) σ) ∧ ((¬ a0 < a1) → (a2 < a0 → Q (0 : Int32) σ) ∧ ((¬ a2 < a0) → Q (1 : Int32) σ))
theorem dy_X7_within : yX7_within.cls ≠ "java/lang/invoke/MethodHandle" ∧ yX7_within.cls ≠ "java/lang/invoke/VarHandle" ∧ (parseMethodDescriptor yX7_within.desc).map (fun d => d.parameters.length) = some 3 := by decide +kernel
set_option maxHeartbeats 4000000 in
set_option maxRecDepth 100000 in
theorem lk_X7_within {l : Launch} {D : va_G} {q : Nat → Nat} {ca : Nat → ClassId} {t : Nat} (hE : qok 28 q) (a0 : Int32) (a1 : Int32) (a2 : Int32) (σ : St) (Q : Int32 → St → Prop) (hf : f_X7_within a0 a1 a2 σ Q) : Mi l yX7_within cX7_within 3 (some .boolean) { frames := 0, cells := 0, slots := 0, locals := 0 } D (tysX ca) (ZX q t) (wX q ca) (AX q) [.int a0, .int a1, .int a2] σ Q := by
  refine j_start (own := RX7) (lv := [(0, .int a0), (1, .int a1), (2, .int a2)]) [.int a0, .int a1, .int a2] (by decide +kernel) rfl (wX_D hE σ) (Nat.le_of_ble_eq_true rfl) rfl (fun p e s m args below meth c hC => ?_)
  unfold f_X7_within at hf
  refine j_iload_n hC 0 dX7_within_0 (pc' := 1) rfl rfl ?_
  refine j_iload_n hC 1 dX7_within_1 (pc' := 2) rfl rfl ?_
  refine j_icmp_lt hC (tgt := 14) dX7_within_2 (pc' := 5) rfl (by decide) (fun c_ => ?_) (fun c_ => ?_)
  · replace hf := hf.1 c_
    refine j_iconst hC (v := 0) dX7_within_14 (pc' := 15) rfl (by decide) ?_
    exact j_zret hC dX7_within_15 (Or.inl rfl) hf
  · replace hf := hf.2 c_
    refine j_iload_n hC 0 dX7_within_5 (pc' := 6) rfl rfl ?_
    refine j_iload_n hC 2 dX7_within_6 (pc' := 7) rfl rfl ?_
    refine j_icmp_gt hC (tgt := 14) dX7_within_7 (pc' := 10) rfl (by decide) (fun c_ => ?_) (fun c_ => ?_)
    · replace hf := hf.1 c_
      refine j_iconst hC (v := 0) dX7_within_14 (pc' := 15) rfl (by decide) ?_
      exact j_zret hC dX7_within_15 (Or.inl rfl) hf
    · replace hf := hf.2 c_
      refine j_iconst hC (v := 1) dX7_within_10 (pc' := 11) rfl (by decide) ?_
      refine j_goto hC (tgt := 15) dX7_within_11 (by decide) ?_
      exact j_zret hC dX7_within_15 (Or.inr rfl) hf
def f_X7_turn (a1 : Int32) (a2 : Int32) (σ : St) (Q : Int32 → St → Prop) : Prop := f_X7_within a1 (0 : Int32) (35 : Int32) σ (fun r1 σ2 => (r1 = 0 → Q (-1000 : Int32) σ2) ∧ ((¬ r1 = 0) → f_X7_within a2 (0 : Int32) (1 : Int32) σ2 (fun r3 σ4 => ((¬ r3 = 0) → f_X3_part a1 a2 σ4 (fun r5 σ6 => Q r5 σ6)) ∧ (r3 = 0 → Q (-1000 : Int32) σ4))))
theorem dy_X7_turn : yX7_turn.cls = yX7_turn.cls ∧ yX7_turn.cls ≠ "java/lang/invoke/MethodHandle" ∧ yX7_turn.cls ≠ "java/lang/invoke/VarHandle" ∧ (parseMethodDescriptor yX7_turn.desc).map (fun d => d.parameters.length) = some 2 := by decide +kernel
set_option maxHeartbeats 4000000 in
set_option maxRecDepth 100000 in
theorem lk_X7_turn {l : Launch} {D : va_G} {q : Nat → Nat} {ca : Nat → ClassId} {t : Nat} (hE : qok 28 q) (a1 : Int32) (a2 : Int32) (σ : St) (Q : Int32 → St → Prop) (hf : f_X7_turn a1 a2 σ Q) : Mi l yX7_turn cX7_turn 3 (some .int) { frames := 2, cells := 0, slots := 0, locals := 41 } D (tysX ca) (ZX q t) (wX q ca) (AX q) [.ref (q 0), .int a1, .int a2] σ Q := by
  refine j_start (own := RX7) (lv := [(0, .ref (q 0)), (1, .int a1), (2, .int a2)]) [.ref (q 0), .int a1, .int a2] (by decide +kernel) rfl (wX_D hE σ) (Nat.le_of_ble_eq_true rfl) rfl (fun p e s m args below meth c hC => ?_)
  unfold f_X7_turn at hf
  refine j_iload_n hC 1 dX7_turn_0 (pc' := 1) rfl rfl ?_
  refine j_iconst hC (v := 0) dX7_turn_1 (pc' := 2) rfl (by decide) ?_
  refine j_bipush hC (v := 35) dX7_turn_2 (pc' := 4) rfl (by decide) ?_
  refine jcS_i hC (eX hE) (As := [.int a1, .int (0 : Int32), .int (35 : Int32)]) (lk_X7_within hE a1 (0 : Int32) (35 : Int32) σ _ hf) wm_175 wm_176 wm_1 wm_177 dy_X7_within ⟨rfl, rfl⟩ ⟨Nat.le_of_ble_eq_true rfl, Nat.le_of_ble_eq_true rfl⟩ ⟨Nat.le_refl _, Nat.le_refl _⟩ rfl rfl (Nat.le_of_ble_eq_true rfl) dX7_turn_4 (pc' := 7) rfl (fun r1 σ2 hf => ?_)
  refine j_if_eq hC (tgt := 19) dX7_turn_7 (pc' := 10) rfl (by decide) (fun c_ => ?_) (fun c_ => ?_)
  · replace hf := hf.1 c_
    refine j_sipush hC (v := -1000) dX7_turn_19 (pc' := 22) rfl (by decide) ?_
    exact j_iret hC dX7_turn_22 hf
  · replace hf := hf.2 c_
    refine j_iload_n hC 2 dX7_turn_10 (pc' := 11) rfl rfl ?_
    refine j_iconst hC (v := 0) dX7_turn_11 (pc' := 12) rfl (by decide) ?_
    refine j_iconst hC (v := 1) dX7_turn_12 (pc' := 13) rfl (by decide) ?_
    refine jcS_i hC (eX hE) (As := [.int a2, .int (0 : Int32), .int (1 : Int32)]) (lk_X7_within hE a2 (0 : Int32) (1 : Int32) σ2 _ hf) wm_175 wm_176 wm_1 wm_177 dy_X7_within ⟨rfl, rfl⟩ ⟨Nat.le_of_ble_eq_true rfl, Nat.le_of_ble_eq_true rfl⟩ ⟨Nat.le_refl _, Nat.le_refl _⟩ rfl rfl (Nat.le_of_ble_eq_true rfl) dX7_turn_13 (pc' := 16) rfl (fun r3 σ4 hf => ?_)
    refine j_if_ne hC (tgt := 23) dX7_turn_16 (pc' := 19) rfl (by decide) (fun c_ => ?_) (fun c_ => ?_)
    · replace hf := hf.1 c_
      refine j_iload_n hC 1 dX7_turn_23 (pc' := 24) rfl rfl ?_
      refine j_iload_n hC 2 dX7_turn_24 (pc' := 25) rfl rfl ?_
      refine jcS_i hC (eX hE) (As := [.int a1, .int a2]) (lk_X3_part hE a1 a2 σ4 _ hf) wm_178 wm_179 wm_9 wm_180 dy_X3_part ⟨rfl, rfl⟩ ⟨Nat.le_of_ble_eq_true rfl, Nat.le_of_ble_eq_true rfl⟩ ⟨Nat.le_refl _, Nat.le_refl _⟩ rfl rfl (Nat.le_of_ble_eq_true rfl) dX7_turn_25 (pc' := 28) rfl (fun r5 σ6 hf => ?_)
      exact j_iret hC dX7_turn_28 hf
    · replace hf := hf.2 c_
      refine j_sipush hC (v := -1000) dX7_turn_19 (pc' := 22) rfl (by decide) ?_
      exact j_iret hC dX7_turn_22 hf
