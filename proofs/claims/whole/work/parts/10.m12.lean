def f_X8_shift (a1 : Int32) (a2 : Int32) (a3 : Int32) (σ : St) (Q : Int32 → St → Prop) : Prop := ((¬ a3 = (1 : Int32)) → vp_in a2 20 ∧ f_X8_s a1 σ (fun r2 σ3 => vp_in a2 20 ∧ f_X8_c a1 σ3 (fun r5 σ6 => vp_in a2 20 ∧ Q (((65 : Int32) * (σ.1 9 (Int32.toNatClampNeg a2))) - ((r2 * (σ3.1 6 (Int32.toNatClampNeg a2))) + (r5 * (σ6.1 7 (Int32.toNatClampNeg a2))))) σ6))) ∧ (a3 = (1 : Int32) → vp_in a2 20 ∧ f_X8_c a1 σ (fun r9 σ10 => vp_in a2 20 ∧ f_X8_s a1 σ10 (fun r12 σ13 => vp_in a2 20 ∧ Q (((65 : Int32) * (σ.1 8 (Int32.toNatClampNeg a2))) - ((r9 * (σ10.1 6 (Int32.toNatClampNeg a2))) - (r12 * (σ13.1 7 (Int32.toNatClampNeg a2))))) σ13)))
theorem dy_X8_shift : yX8_shift.cls = yX8_shift.cls ∧ yX8_shift.cls ≠ "java/lang/invoke/MethodHandle" ∧ yX8_shift.cls ≠ "java/lang/invoke/VarHandle" ∧ (parseMethodDescriptor yX8_shift.desc).map (fun d => d.parameters.length) = some 3 := by decide +kernel
set_option maxHeartbeats 4000000 in
set_option maxRecDepth 100000 in
theorem lk_X8_shift {l : Launch} {D : va_G} {q : Nat → Nat} {ca : Nat → ClassId} (hE : qok 19 q) (a1 : Int32) (a2 : Int32) (a3 : Int32) (σ : St) (Q : Int32 → St → Prop) (hf : f_X8_shift a1 a2 a3 σ Q) : Mi l yX8_shift cX8_shift 4 (some .int) { frames := 1, cells := 0, slots := 0, locals := 21 } D (tysM ca) ZM (wM q ca) (AM q) [.ref (q 0), .int a1, .int a2, .int a3] σ Q := by
  refine j_start (own := RX8) (lv := [(0, .ref (q 0)), (1, .int a1), (2, .int a2), (3, .int a3)]) [.ref (q 0), .int a1, .int a2, .int a3] (by decide +kernel) rfl (wM_D hE σ) (Nat.le_of_ble_eq_true rfl) rfl (fun p e s m args below meth c hC => ?_)
  unfold f_X8_shift at hf
  refine j_iload_n hC 3 dX8_shift_0 (pc' := 1) rfl rfl ?_
  refine j_iconst hC (v := 1) dX8_shift_1 (pc' := 2) rfl (by decide) ?_
  refine j_icmp_ne hC (tgt := 43) dX8_shift_2 (pc' := 5) rfl (by decide) (fun c_ => ?_) (fun c_ => ?_)
  · replace hf := hf.1 c_
    refine j_bipush hC (v := 65) dX8_shift_43 (pc' := 45) rfl (by decide) ?_
    refine j_aload_n hC 0 dX8_shift_45 (pc' := 46) rfl rfl ?_
    refine gM_yy hC wm_578 dX8_shift_46 (pc' := 49) rfl ?_
    refine j_iload_n hC 2 dX8_shift_49 (pc' := 50) rfl rfl ?_
    obtain ⟨h1, hf⟩ := hf
    refine lM_yy hC (j := (Int32.toNatClampNeg a2)) h1 rfl dX8_shift_50 (pc' := 51) rfl ?_
    refine j_imul hC dX8_shift_51 (pc' := 52) rfl ?_
    refine j_aload_n hC 0 dX8_shift_52 (pc' := 53) rfl rfl ?_
    refine j_iload_n hC 1 dX8_shift_53 (pc' := 54) rfl rfl ?_
    refine jcV_i hC (eM hE) (As := [.int a1]) (obM_X8) (rfl) (lk_X8_s hE a1 σ _ hf) wm_648 wm_649 wm_902 wm_8 wm_650 dy_X8_s ⟨rfl, rfl⟩ ⟨Nat.le_of_ble_eq_true rfl, Nat.le_of_ble_eq_true rfl⟩ ⟨Nat.le_refl _, Nat.le_refl _⟩ rfl rfl (Nat.le_of_ble_eq_true rfl) dX8_shift_54 (pc' := 57) rfl (fun r2 σ3 hf => ?_)
    refine j_aload_n hC 0 dX8_shift_57 (pc' := 58) rfl rfl ?_
    refine gM_pp hC wm_575 dX8_shift_58 (pc' := 61) rfl ?_
    refine j_iload_n hC 2 dX8_shift_61 (pc' := 62) rfl rfl ?_
    obtain ⟨h4, hf⟩ := hf
    refine lM_pp hC (j := (Int32.toNatClampNeg a2)) h4 rfl dX8_shift_62 (pc' := 63) rfl ?_
    refine j_imul hC dX8_shift_63 (pc' := 64) rfl ?_
    refine j_aload_n hC 0 dX8_shift_64 (pc' := 65) rfl rfl ?_
    refine j_iload_n hC 1 dX8_shift_65 (pc' := 66) rfl rfl ?_
    refine jcV_i hC (eM hE) (As := [.int a1]) (obM_X8) (rfl) (lk_X8_c hE a1 σ3 _ hf) wm_645 wm_646 wm_901 wm_8 wm_647 dy_X8_c ⟨rfl, rfl⟩ ⟨Nat.le_of_ble_eq_true rfl, Nat.le_of_ble_eq_true rfl⟩ ⟨Nat.le_refl _, Nat.le_refl _⟩ rfl rfl (Nat.le_of_ble_eq_true rfl) dX8_shift_66 (pc' := 69) rfl (fun r5 σ6 hf => ?_)
    refine j_aload_n hC 0 dX8_shift_69 (pc' := 70) rfl rfl ?_
    refine gM_qq hC wm_576 dX8_shift_70 (pc' := 73) rfl ?_
    refine j_iload_n hC 2 dX8_shift_73 (pc' := 74) rfl rfl ?_
    obtain ⟨h7, hf⟩ := hf
    refine lM_qq hC (j := (Int32.toNatClampNeg a2)) h7 rfl dX8_shift_74 (pc' := 75) rfl ?_
    refine j_imul hC dX8_shift_75 (pc' := 76) rfl ?_
    refine j_iadd hC dX8_shift_76 (pc' := 77) rfl ?_
    refine j_isub hC dX8_shift_77 (pc' := 78) rfl ?_
    exact j_iret hC dX8_shift_78 hf
  · replace hf := hf.2 c_
    refine j_bipush hC (v := 65) dX8_shift_5 (pc' := 7) rfl (by decide) ?_
    refine j_aload_n hC 0 dX8_shift_7 (pc' := 8) rfl rfl ?_
    refine gM_xx hC wm_577 dX8_shift_8 (pc' := 11) rfl ?_
    refine j_iload_n hC 2 dX8_shift_11 (pc' := 12) rfl rfl ?_
    obtain ⟨h8, hf⟩ := hf
    refine lM_xx hC (j := (Int32.toNatClampNeg a2)) h8 rfl dX8_shift_12 (pc' := 13) rfl ?_
    refine j_imul hC dX8_shift_13 (pc' := 14) rfl ?_
    refine j_aload_n hC 0 dX8_shift_14 (pc' := 15) rfl rfl ?_
    refine j_iload_n hC 1 dX8_shift_15 (pc' := 16) rfl rfl ?_
    refine jcV_i hC (eM hE) (As := [.int a1]) (obM_X8) (rfl) (lk_X8_c hE a1 σ _ hf) wm_645 wm_646 wm_901 wm_8 wm_647 dy_X8_c ⟨rfl, rfl⟩ ⟨Nat.le_of_ble_eq_true rfl, Nat.le_of_ble_eq_true rfl⟩ ⟨Nat.le_refl _, Nat.le_refl _⟩ rfl rfl (Nat.le_of_ble_eq_true rfl) dX8_shift_16 (pc' := 19) rfl (fun r9 σ10 hf => ?_)
    refine j_aload_n hC 0 dX8_shift_19 (pc' := 20) rfl rfl ?_
    refine gM_pp hC wm_575 dX8_shift_20 (pc' := 23) rfl ?_
    refine j_iload_n hC 2 dX8_shift_23 (pc' := 24) rfl rfl ?_
    obtain ⟨h11, hf⟩ := hf
    refine lM_pp hC (j := (Int32.toNatClampNeg a2)) h11 rfl dX8_shift_24 (pc' := 25) rfl ?_
    refine j_imul hC dX8_shift_25 (pc' := 26) rfl ?_
    refine j_aload_n hC 0 dX8_shift_26 (pc' := 27) rfl rfl ?_
    refine j_iload_n hC 1 dX8_shift_27 (pc' := 28) rfl rfl ?_
    refine jcV_i hC (eM hE) (As := [.int a1]) (obM_X8) (rfl) (lk_X8_s hE a1 σ10 _ hf) wm_648 wm_649 wm_902 wm_8 wm_650 dy_X8_s ⟨rfl, rfl⟩ ⟨Nat.le_of_ble_eq_true rfl, Nat.le_of_ble_eq_true rfl⟩ ⟨Nat.le_refl _, Nat.le_refl _⟩ rfl rfl (Nat.le_of_ble_eq_true rfl) dX8_shift_28 (pc' := 31) rfl (fun r12 σ13 hf => ?_)
    refine j_aload_n hC 0 dX8_shift_31 (pc' := 32) rfl rfl ?_
    refine gM_qq hC wm_576 dX8_shift_32 (pc' := 35) rfl ?_
    refine j_iload_n hC 2 dX8_shift_35 (pc' := 36) rfl rfl ?_
    obtain ⟨h14, hf⟩ := hf
    refine lM_qq hC (j := (Int32.toNatClampNeg a2)) h14 rfl dX8_shift_36 (pc' := 37) rfl ?_
    refine j_imul hC dX8_shift_37 (pc' := 38) rfl ?_
    refine j_isub hC dX8_shift_38 (pc' := 39) rfl ?_
    refine j_isub hC dX8_shift_39 (pc' := 40) rfl ?_
    refine j_goto hC (tgt := 78) dX8_shift_40 (by decide) ?_
    exact j_iret hC dX8_shift_78 hf
def f_X8_isAnswer_b4 (Q : Int32 → St → Prop) : Nat → Int32 → Int32 → Int32 → St → Prop
  | 0, _, _, _, _ => False
  | n + 1, a1, a2, a3, σ => ((σ.1 10 0) ≤ a3 → zok a2 ∧ Q a2 σ) ∧ ((¬ (σ.1 10 0) ≤ a3) → (a2 = 0 → ∀ x1 : Int32, x1 = a3 + (1 : Int32) → f_X8_isAnswer_b4 Q  n a1 (0 : Int32) x1 σ) ∧ ((¬ a2 = 0) → f_X8_shift a1 a3 (1 : Int32) σ (fun r2 σ3 => f_X8_shift a1 (0 : Int32) (1 : Int32) σ3 (fun r4 σ5 => ((¬ r2 = r4) → ∀ x6 : Int32, x6 = a3 + (1 : Int32) → f_X8_isAnswer_b4 Q  n a1 (0 : Int32) x6 σ5) ∧ (r2 = r4 → f_X8_shift a1 a3 (2 : Int32) σ5 (fun r7 σ8 => f_X8_shift a1 (0 : Int32) (2 : Int32) σ8 (fun r9 σ10 => ((¬ r7 = r9) → ∀ x11 : Int32, x11 = a3 + (1 : Int32) → f_X8_isAnswer_b4 Q  n a1 (0 : Int32) x11 σ10) ∧ (r7 = r9 → ∀ x12 : Int32, x12 = a3 + (1 : Int32) → f_X8_isAnswer_b4 Q  n a1 (1 : Int32) x12 σ10))))))))
def f_X8_isAnswer (a1 : Int32) (σ : St) (Q : Int32 → St → Prop) : Prop := ∃ n13 : Nat, f_X8_isAnswer_b4 Q n13 a1 (1 : Int32) (1 : Int32) σ
theorem dy_X8_isAnswer : yX8_isAnswer.cls = yX8_isAnswer.cls ∧ yX8_isAnswer.cls ≠ "java/lang/invoke/MethodHandle" ∧ yX8_isAnswer.cls ≠ "java/lang/invoke/VarHandle" ∧ (parseMethodDescriptor yX8_isAnswer.desc).map (fun d => d.parameters.length) = some 1 := by decide +kernel
set_option maxHeartbeats 4000000 in
set_option maxRecDepth 100000 in
theorem lb_X8_isAnswer_b4 {l : Launch} {D : va_G} {q : Nat → Nat} {ca : Nat → ClassId} {p : Program} {e : Env} {s : State} {m : MethodId} {args : Array Value} {below : List Frame} {meth : Method} {c : Code} (hE : qok 19 q) (hC : Cx p s m args meth c cX8_isAnswer 4 RX8 (some .boolean) D (tysM ca) ZM) (Q : Int32 → St → Prop) : ∀ (n : Nat) (a1 : Int32) (a2 : Int32) (a3 : Int32) (σ : St), f_X8_isAnswer_b4 Q n a1 a2 a3 σ → J p l e { frames := 2, cells := 0, slots := 0, locals := 44 } s m args below meth c (MQ below (va_Qi Q (BW D (wM q ca)) (AM q)) args s 0 0 (AM q)) D (AM q) 4 0 0 (wM q ca σ) 4 [(0, .ref (q 0)), (1, .int a1), (2, .int a2), (3, .int a3)] [] := by
  intro n
  induction n with
  | zero => intro a1 a2 a3 σ hf; exact hf.elim
  | succ n ih =>
    intro a1 a2 a3 σ hf
    unfold f_X8_isAnswer_b4 at hf
    refine j_iload_n hC 3 dX8_isAnswer_4 (pc' := 5) rfl rfl ?_
    refine j_aload_n hC 0 dX8_isAnswer_5 (pc' := 6) rfl rfl ?_
    refine gM_pairs hC wm_574 dX8_isAnswer_6 (pc' := 9) rfl ?_
    refine j_icmp_ge hC (tgt := 62) dX8_isAnswer_9 (pc' := 12) rfl (by decide) (fun c_ => ?_) (fun c_ => ?_)
    · replace hf := hf.1 c_
      refine j_iload_n hC 2 dX8_isAnswer_62 (pc' := 63) rfl rfl ?_
      exact j_zret hC dX8_isAnswer_63 hf.1 hf.2
    · replace hf := hf.2 c_
      refine j_iload_n hC 2 dX8_isAnswer_12 (pc' := 13) rfl rfl ?_
      refine j_if_eq hC (tgt := 54) dX8_isAnswer_13 (pc' := 16) rfl (by decide) (fun c_ => ?_) (fun c_ => ?_)
      · replace hf := hf.1 c_
        refine j_iconst hC (v := 0) dX8_isAnswer_54 (pc' := 55) rfl (by decide) ?_
        refine j_istore_n hC (lv' := [(2, .int (0 : Int32)), (0, .ref (q 0)), (1, .int a1), (3, .int a3)]) dX8_isAnswer_55 (pc' := 56) rfl rfl (by decide) rfl ?_
        obtain ⟨x1, ex1⟩ : ∃ y : Int32, y = a3 + (1 : Int32) := ⟨_, rfl⟩
        replace hf := hf x1 ex1
        refine j_iinc hC (v := x1) (q := 3) (lv' := [(3, .int x1), (2, .int (0 : Int32)), (0, .ref (q 0)), (1, .int a1)]) dX8_isAnswer_56 (pc' := 59) rfl rfl (by rw [ex1]; rfl) (by decide) rfl ?_
        refine j_goto hC (tgt := 4) dX8_isAnswer_59 (by decide) ?_
        refine j_lv [2, 3, 1, 0] rfl ?_
        exact ih a1 (0 : Int32) x1 σ hf
      · replace hf := hf.2 c_
        refine j_aload_n hC 0 dX8_isAnswer_16 (pc' := 17) rfl rfl ?_
        refine j_iload_n hC 1 dX8_isAnswer_17 (pc' := 18) rfl rfl ?_
        refine j_iload_n hC 3 dX8_isAnswer_18 (pc' := 19) rfl rfl ?_
        refine j_iconst hC (v := 1) dX8_isAnswer_19 (pc' := 20) rfl (by decide) ?_
        refine jcV_i hC (eM hE) (As := [.int a1, .int a3, .int (1 : Int32)]) (obM_X8) (rfl) (lk_X8_shift hE a1 a3 (1 : Int32) σ _ hf) wm_801 wm_802 wm_920 wm_8 wm_803 dy_X8_shift ⟨rfl, rfl⟩ ⟨Nat.le_of_ble_eq_true rfl, Nat.le_of_ble_eq_true rfl⟩ ⟨Nat.le_refl _, Nat.le_refl _⟩ rfl rfl (Nat.le_of_ble_eq_true rfl) dX8_isAnswer_20 (pc' := 23) rfl (fun r2 σ3 hf => ?_)
        refine j_aload_n hC 0 dX8_isAnswer_23 (pc' := 24) rfl rfl ?_
        refine j_iload_n hC 1 dX8_isAnswer_24 (pc' := 25) rfl rfl ?_
        refine j_iconst hC (v := 0) dX8_isAnswer_25 (pc' := 26) rfl (by decide) ?_
        refine j_iconst hC (v := 1) dX8_isAnswer_26 (pc' := 27) rfl (by decide) ?_
        refine jcV_i hC (eM hE) (As := [.int a1, .int (0 : Int32), .int (1 : Int32)]) (obM_X8) (rfl) (lk_X8_shift hE a1 (0 : Int32) (1 : Int32) σ3 _ hf) wm_801 wm_802 wm_920 wm_8 wm_803 dy_X8_shift ⟨rfl, rfl⟩ ⟨Nat.le_of_ble_eq_true rfl, Nat.le_of_ble_eq_true rfl⟩ ⟨Nat.le_refl _, Nat.le_refl _⟩ rfl rfl (Nat.le_of_ble_eq_true rfl) dX8_isAnswer_27 (pc' := 30) rfl (fun r4 σ5 hf => ?_)
        refine j_icmp_ne hC (tgt := 54) dX8_isAnswer_30 (pc' := 33) rfl (by decide) (fun c_ => ?_) (fun c_ => ?_)
        · replace hf := hf.1 c_
          refine j_iconst hC (v := 0) dX8_isAnswer_54 (pc' := 55) rfl (by decide) ?_
          refine j_istore_n hC (lv' := [(2, .int (0 : Int32)), (0, .ref (q 0)), (1, .int a1), (3, .int a3)]) dX8_isAnswer_55 (pc' := 56) rfl rfl (by decide) rfl ?_
          obtain ⟨x6, ex6⟩ : ∃ y : Int32, y = a3 + (1 : Int32) := ⟨_, rfl⟩
          replace hf := hf x6 ex6
          refine j_iinc hC (v := x6) (q := 3) (lv' := [(3, .int x6), (2, .int (0 : Int32)), (0, .ref (q 0)), (1, .int a1)]) dX8_isAnswer_56 (pc' := 59) rfl rfl (by rw [ex6]; rfl) (by decide) rfl ?_
          refine j_goto hC (tgt := 4) dX8_isAnswer_59 (by decide) ?_
          refine j_lv [2, 3, 1, 0] rfl ?_
          exact ih a1 (0 : Int32) x6 σ5 hf
        · replace hf := hf.2 c_
          refine j_aload_n hC 0 dX8_isAnswer_33 (pc' := 34) rfl rfl ?_
          refine j_iload_n hC 1 dX8_isAnswer_34 (pc' := 35) rfl rfl ?_
          refine j_iload_n hC 3 dX8_isAnswer_35 (pc' := 36) rfl rfl ?_
          refine j_iconst hC (v := 2) dX8_isAnswer_36 (pc' := 37) rfl (by decide) ?_
          refine jcV_i hC (eM hE) (As := [.int a1, .int a3, .int (2 : Int32)]) (obM_X8) (rfl) (lk_X8_shift hE a1 a3 (2 : Int32) σ5 _ hf) wm_801 wm_802 wm_920 wm_8 wm_803 dy_X8_shift ⟨rfl, rfl⟩ ⟨Nat.le_of_ble_eq_true rfl, Nat.le_of_ble_eq_true rfl⟩ ⟨Nat.le_refl _, Nat.le_refl _⟩ rfl rfl (Nat.le_of_ble_eq_true rfl) dX8_isAnswer_37 (pc' := 40) rfl (fun r7 σ8 hf => ?_)
          refine j_aload_n hC 0 dX8_isAnswer_40 (pc' := 41) rfl rfl ?_
          refine j_iload_n hC 1 dX8_isAnswer_41 (pc' := 42) rfl rfl ?_
          refine j_iconst hC (v := 0) dX8_isAnswer_42 (pc' := 43) rfl (by decide) ?_
          refine j_iconst hC (v := 2) dX8_isAnswer_43 (pc' := 44) rfl (by decide) ?_
          refine jcV_i hC (eM hE) (As := [.int a1, .int (0 : Int32), .int (2 : Int32)]) (obM_X8) (rfl) (lk_X8_shift hE a1 (0 : Int32) (2 : Int32) σ8 _ hf) wm_801 wm_802 wm_920 wm_8 wm_803 dy_X8_shift ⟨rfl, rfl⟩ ⟨Nat.le_of_ble_eq_true rfl, Nat.le_of_ble_eq_true rfl⟩ ⟨Nat.le_refl _, Nat.le_refl _⟩ rfl rfl (Nat.le_of_ble_eq_true rfl) dX8_isAnswer_44 (pc' := 47) rfl (fun r9 σ10 hf => ?_)
          refine j_icmp_ne hC (tgt := 54) dX8_isAnswer_47 (pc' := 50) rfl (by decide) (fun c_ => ?_) (fun c_ => ?_)
          · replace hf := hf.1 c_
            refine j_iconst hC (v := 0) dX8_isAnswer_54 (pc' := 55) rfl (by decide) ?_
            refine j_istore_n hC (lv' := [(2, .int (0 : Int32)), (0, .ref (q 0)), (1, .int a1), (3, .int a3)]) dX8_isAnswer_55 (pc' := 56) rfl rfl (by decide) rfl ?_
            obtain ⟨x11, ex11⟩ : ∃ y : Int32, y = a3 + (1 : Int32) := ⟨_, rfl⟩
            replace hf := hf x11 ex11
            refine j_iinc hC (v := x11) (q := 3) (lv' := [(3, .int x11), (2, .int (0 : Int32)), (0, .ref (q 0)), (1, .int a1)]) dX8_isAnswer_56 (pc' := 59) rfl rfl (by rw [ex11]; rfl) (by decide) rfl ?_
            refine j_goto hC (tgt := 4) dX8_isAnswer_59 (by decide) ?_
            refine j_lv [2, 3, 1, 0] rfl ?_
            exact ih a1 (0 : Int32) x11 σ10 hf
          · replace hf := hf.2 c_
            refine j_iconst hC (v := 1) dX8_isAnswer_50 (pc' := 51) rfl (by decide) ?_
            refine j_goto hC (tgt := 55) dX8_isAnswer_51 (by decide) ?_
            refine j_istore_n hC (lv' := [(2, .int (1 : Int32)), (0, .ref (q 0)), (1, .int a1), (3, .int a3)]) dX8_isAnswer_55 (pc' := 56) rfl rfl (by decide) rfl ?_
            obtain ⟨x12, ex12⟩ : ∃ y : Int32, y = a3 + (1 : Int32) := ⟨_, rfl⟩
            replace hf := hf x12 ex12
            refine j_iinc hC (v := x12) (q := 3) (lv' := [(3, .int x12), (2, .int (1 : Int32)), (0, .ref (q 0)), (1, .int a1)]) dX8_isAnswer_56 (pc' := 59) rfl rfl (by rw [ex12]; rfl) (by decide) rfl ?_
            refine j_goto hC (tgt := 4) dX8_isAnswer_59 (by decide) ?_
            refine j_lv [2, 3, 1, 0] rfl ?_
            exact ih a1 (1 : Int32) x12 σ10 hf
set_option maxHeartbeats 4000000 in
set_option maxRecDepth 100000 in
theorem lk_X8_isAnswer {l : Launch} {D : va_G} {q : Nat → Nat} {ca : Nat → ClassId} (hE : qok 19 q) (a1 : Int32) (σ : St) (Q : Int32 → St → Prop) (hf : f_X8_isAnswer a1 σ Q) : Mi l yX8_isAnswer cX8_isAnswer 4 (some .boolean) { frames := 2, cells := 0, slots := 0, locals := 44 } D (tysM ca) ZM (wM q ca) (AM q) [.ref (q 0), .int a1] σ Q := by
  refine j_start (own := RX8) (lv := [(0, .ref (q 0)), (1, .int a1)]) [.ref (q 0), .int a1] (by decide +kernel) rfl (wM_D hE σ) (Nat.le_of_ble_eq_true rfl) rfl (fun p e s m args below meth c hC => ?_)
  unfold f_X8_isAnswer at hf
  refine j_iconst hC (v := 1) dX8_isAnswer_0 (pc' := 1) rfl (by decide) ?_
  refine j_istore_n hC (lv' := [(2, .int (1 : Int32)), (0, .ref (q 0)), (1, .int a1)]) dX8_isAnswer_1 (pc' := 2) rfl rfl (by decide) rfl ?_
  refine j_iconst hC (v := 1) dX8_isAnswer_2 (pc' := 3) rfl (by decide) ?_
  refine j_istore_n hC (lv' := [(3, .int (1 : Int32)), (2, .int (1 : Int32)), (0, .ref (q 0)), (1, .int a1)]) dX8_isAnswer_3 (pc' := 4) rfl rfl (by decide) rfl ?_
  obtain ⟨n13, hf⟩ := hf
  refine j_lv [2, 3, 1, 0] rfl ?_
  exact lb_X8_isAnswer_b4 hE hC Q n13 a1 (1 : Int32) (1 : Int32) σ hf
def f_X8_answers_b4 (Q : Int32 → St → Prop) : Nat → Int32 → Int32 → St → Prop
  | 0, _, _, _ => False
  | n + 1, a1, a2, σ => ((36 : Int32) ≤ a2 → Q a1 σ) ∧ ((¬ (36 : Int32) ≤ a2) → f_X8_isAnswer a2 σ (fun r1 σ2 => (r1 = 0 → ∀ x3 : Int32, x3 = a1 + (0 : Int32) → ∀ x4 : Int32, x4 = a2 + (1 : Int32) → f_X8_answers_b4 Q  n x3 x4 σ2) ∧ ((¬ r1 = 0) → ∀ x5 : Int32, x5 = a1 + (1 : Int32) → ∀ x6 : Int32, x6 = a2 + (1 : Int32) → f_X8_answers_b4 Q  n x5 x6 σ2)))
def f_X8_answers (σ : St) (Q : Int32 → St → Prop) : Prop := ∃ n7 : Nat, f_X8_answers_b4 Q n7 (0 : Int32) (0 : Int32) σ
theorem dy_X8_answers : yX8_answers.cls = yX8_answers.cls ∧ yX8_answers.cls ≠ "java/lang/invoke/MethodHandle" ∧ yX8_answers.cls ≠ "java/lang/invoke/VarHandle" ∧ (parseMethodDescriptor yX8_answers.desc).map (fun d => d.parameters.length) = some 0 := by decide +kernel
set_option maxHeartbeats 4000000 in
set_option maxRecDepth 100000 in
theorem lb_X8_answers_b4 {l : Launch} {D : va_G} {q : Nat → Nat} {ca : Nat → ClassId} {p : Program} {e : Env} {s : State} {m : MethodId} {args : Array Value} {below : List Frame} {meth : Method} {c : Code} (hE : qok 19 q) (hC : Cx p s m args meth c cX8_answers 3 RX8 (some .int) D (tysM ca) ZM) (Q : Int32 → St → Prop) : ∀ (n : Nat) (a1 : Int32) (a2 : Int32) (σ : St), f_X8_answers_b4 Q n a1 a2 σ → J p l e { frames := 3, cells := 0, slots := 0, locals := 67 } s m args below meth c (MQ below (va_Qi Q (BW D (wM q ca)) (AM q)) args s 0 0 (AM q)) D (AM q) 3 0 0 (wM q ca σ) 4 [(0, .ref (q 0)), (1, .int a1), (2, .int a2)] [] := by
  intro n
  induction n with
  | zero => intro a1 a2 σ hf; exact hf.elim
  | succ n ih =>
    intro a1 a2 σ hf
    unfold f_X8_answers_b4 at hf
    refine j_iload_n hC 2 dX8_answers_4 (pc' := 5) rfl rfl ?_
    refine j_bipush hC (v := 36) dX8_answers_5 (pc' := 7) rfl (by decide) ?_
    refine j_icmp_ge hC (tgt := 32) dX8_answers_7 (pc' := 10) rfl (by decide) (fun c_ => ?_) (fun c_ => ?_)
    · replace hf := hf.1 c_
      refine j_iload_n hC 1 dX8_answers_32 (pc' := 33) rfl rfl ?_
      exact j_iret hC dX8_answers_33 hf
    · replace hf := hf.2 c_
      refine j_iload_n hC 1 dX8_answers_10 (pc' := 11) rfl rfl ?_
      refine j_aload_n hC 0 dX8_answers_11 (pc' := 12) rfl rfl ?_
      refine j_iload_n hC 2 dX8_answers_12 (pc' := 13) rfl rfl ?_
      refine jcV_i hC (eM hE) (As := [.int a2]) (obM_X8) (rfl) (lk_X8_isAnswer hE a2 σ _ hf) wm_798 wm_799 wm_919 wm_8 wm_800 dy_X8_isAnswer ⟨rfl, rfl⟩ ⟨Nat.le_of_ble_eq_true rfl, Nat.le_of_ble_eq_true rfl⟩ ⟨Nat.le_refl _, Nat.le_refl _⟩ rfl rfl (Nat.le_of_ble_eq_true rfl) dX8_answers_13 (pc' := 16) rfl (fun r1 σ2 hf => ?_)
      refine j_if_eq hC (tgt := 23) dX8_answers_16 (pc' := 19) rfl (by decide) (fun c_ => ?_) (fun c_ => ?_)
      · replace hf := hf.1 c_
        refine j_iconst hC (v := 0) dX8_answers_23 (pc' := 24) rfl (by decide) ?_
        refine j_iadd hC dX8_answers_24 (pc' := 25) rfl ?_
        refine j_nmi (fun x3 ex3 => ?_)
        replace hf := hf x3 ex3
        refine j_istore_n hC (lv' := [(1, .int x3), (0, .ref (q 0)), (2, .int a2)]) dX8_answers_25 (pc' := 26) rfl rfl (by decide) rfl ?_
        obtain ⟨x4, ex4⟩ : ∃ y : Int32, y = a2 + (1 : Int32) := ⟨_, rfl⟩
        replace hf := hf x4 ex4
        refine j_iinc hC (v := x4) (q := 2) (lv' := [(2, .int x4), (1, .int x3), (0, .ref (q 0))]) dX8_answers_26 (pc' := 29) rfl rfl (by rw [ex4]; rfl) (by decide) rfl ?_
        refine j_goto hC (tgt := 4) dX8_answers_29 (by decide) ?_
        refine j_lv [2, 1, 0] rfl ?_
        exact ih x3 x4 σ2 hf
      · replace hf := hf.2 c_
        refine j_iconst hC (v := 1) dX8_answers_19 (pc' := 20) rfl (by decide) ?_
        refine j_goto hC (tgt := 24) dX8_answers_20 (by decide) ?_
        refine j_iadd hC dX8_answers_24 (pc' := 25) rfl ?_
        refine j_nmi (fun x5 ex5 => ?_)
        replace hf := hf x5 ex5
        refine j_istore_n hC (lv' := [(1, .int x5), (0, .ref (q 0)), (2, .int a2)]) dX8_answers_25 (pc' := 26) rfl rfl (by decide) rfl ?_
        obtain ⟨x6, ex6⟩ : ∃ y : Int32, y = a2 + (1 : Int32) := ⟨_, rfl⟩
        replace hf := hf x6 ex6
        refine j_iinc hC (v := x6) (q := 2) (lv' := [(2, .int x6), (1, .int x5), (0, .ref (q 0))]) dX8_answers_26 (pc' := 29) rfl rfl (by rw [ex6]; rfl) (by decide) rfl ?_
        refine j_goto hC (tgt := 4) dX8_answers_29 (by decide) ?_
        refine j_lv [2, 1, 0] rfl ?_
        exact ih x5 x6 σ2 hf
set_option maxHeartbeats 4000000 in
set_option maxRecDepth 100000 in
theorem lk_X8_answers {l : Launch} {D : va_G} {q : Nat → Nat} {ca : Nat → ClassId} (hE : qok 19 q) (σ : St) (Q : Int32 → St → Prop) (hf : f_X8_answers σ Q) : Mi l yX8_answers cX8_answers 3 (some .int) { frames := 3, cells := 0, slots := 0, locals := 67 } D (tysM ca) ZM (wM q ca) (AM q) [.ref (q 0)] σ Q := by
  refine j_start (own := RX8) (lv := [(0, .ref (q 0))]) [.ref (q 0)] (by decide +kernel) rfl (wM_D hE σ) (Nat.le_of_ble_eq_true rfl) rfl (fun p e s m args below meth c hC => ?_)
  unfold f_X8_answers at hf
  refine j_iconst hC (v := 0) dX8_answers_0 (pc' := 1) rfl (by decide) ?_
  refine j_istore_n hC (lv' := [(1, .int (0 : Int32)), (0, .ref (q 0))]) dX8_answers_1 (pc' := 2) rfl rfl (by decide) rfl ?_
  refine j_iconst hC (v := 0) dX8_answers_2 (pc' := 3) rfl (by decide) ?_
  refine j_istore_n hC (lv' := [(2, .int (0 : Int32)), (1, .int (0 : Int32)), (0, .ref (q 0))]) dX8_answers_3 (pc' := 4) rfl rfl (by decide) rfl ?_
  obtain ⟨n7, hf⟩ := hf
  refine j_lv [2, 1, 0] rfl ?_
  exact lb_X8_answers_b4 hE hC Q n7 (0 : Int32) (0 : Int32) σ hf
def f_X8_answer_b58 (Q : Int32 → St → Prop) (K50 : Int32 → Int32 → Int32 → St → Prop) : Nat → Int32 → Int32 → Int32 → St → Prop
  | 0, _, _, _, _ => False
  | n + 1, a2, a3, a4, σ => f_X8_isAnswer a3 σ (fun r10 σ11 => ((¬ r10 = 0) → ∀ x12 : Int32, x12 = a4 + (-1 : Int32) → K50 a2 a3 x12 σ11) ∧ (r10 = 0 → ∀ x13 : Int32, x13 = a3 + (1 : Int32) → f_X8_answer_b58 Q K50  n a2 x13 a4 σ11))
def f_X8_answer_b50 (Q : Int32 → St → Prop) : Nat → Int32 → Int32 → Int32 → St → Prop
  | 0, _, _, _, _ => False
  | n + 1, a2, a3, a4, σ => (a4 < 0 → ((¬ a2 = 0) → f_X8_shift a3 (0 : Int32) a2 σ (fun r7 σ8 => Q r7 σ8)) ∧ (a2 = 0 → Q a3 σ)) ∧ ((¬ a4 < 0) → ∀ x9 : Int32, x9 = a3 + (1 : Int32) → ∃ n14 : Nat, f_X8_answer_b58 Q (fun a2 a3 a4 σ => f_X8_answer_b50 Q n a2 a3 a4 σ) n14 a2 x9 a4 σ)
def f_X8_answer (a1 : Int32) (a2 : Int32) (σ : St) (Q : Int32 → St → Prop) : Prop := f_X8_answers σ (fun r1 σ2 => f_X8_in (Int32.toInt64 a1) (0 : Int64) (Int32.toInt64 (r1 - (1 : Int32))) σ2 (fun r3 σ4 => (r3 = 0 → Q (-2147483648 : Int32) σ4) ∧ ((¬ r3 = 0) → f_X8_in (Int32.toInt64 a2) (0 : Int64) (2 : Int64) σ4 (fun r5 σ6 => ((¬ r5 = 0) → (a2 ≤ 0 → ∃ n15 : Nat, f_X8_answer_b50 Q n15 a2 (-1 : Int32) a1 σ6) ∧ ((¬ a2 ≤ 0) → ((¬ (σ6.1 10 0) = 0) → ∃ n16 : Nat, f_X8_answer_b50 Q n16 a2 (-1 : Int32) a1 σ6) ∧ ((σ6.1 10 0) = 0 → Q (-2147483647 : Int32) σ6))) ∧ (r5 = 0 → Q (-2147483648 : Int32) σ6)))))
theorem dy_X8_answer : yX8_answer.cls = yX8_answer.cls ∧ yX8_answer.cls ≠ "java/lang/invoke/MethodHandle" ∧ yX8_answer.cls ≠ "java/lang/invoke/VarHandle" ∧ (parseMethodDescriptor yX8_answer.desc).map (fun d => d.parameters.length) = some 2 := by decide +kernel
set_option maxHeartbeats 4000000 in
set_option maxRecDepth 100000 in
theorem lb_X8_answer_b58 {l : Launch} {D : va_G} {q : Nat → Nat} {ca : Nat → ClassId} {p : Program} {e : Env} {s : State} {m : MethodId} {args : Array Value} {below : List Frame} {meth : Method} {c : Code} (hE : qok 19 q) (hC : Cx p s m args meth c cX8_answer 5 RX8 (some .int) D (tysM ca) ZM) (Q : Int32 → St → Prop) (K50 : Int32 → Int32 → Int32 → St → Prop) (hK50 : ∀ (a2 : Int32) (a3 : Int32) (a4 : Int32) (σ : St), K50 a2 a3 a4 σ → J p l e { frames := 4, cells := 0, slots := 0, locals := 89 } s m args below meth c (MQ below (va_Qi Q (BW D (wM q ca)) (AM q)) args s 0 0 (AM q)) D (AM q) 5 0 0 (wM q ca σ) 50 [(0, .ref (q 0)), (2, .int a2), (3, .int a3), (4, .int a4)] []) : ∀ (n : Nat) (a2 : Int32) (a3 : Int32) (a4 : Int32) (σ : St), f_X8_answer_b58 Q K50 n a2 a3 a4 σ → J p l e { frames := 4, cells := 0, slots := 0, locals := 89 } s m args below meth c (MQ below (va_Qi Q (BW D (wM q ca)) (AM q)) args s 0 0 (AM q)) D (AM q) 5 0 0 (wM q ca σ) 58 [(0, .ref (q 0)), (2, .int a2), (3, .int a3), (4, .int a4)] [] := by
  intro n
  induction n with
  | zero => intro a2 a3 a4 σ hf; exact hf.elim
  | succ n ih =>
    intro a2 a3 a4 σ hf
    unfold f_X8_answer_b58 at hf
    refine j_aload_n hC 0 dX8_answer_58 (pc' := 59) rfl rfl ?_
    refine j_iload_n hC 2 dX8_answer_59 (pc' := 60) rfl rfl ?_
    refine jcV_i hC (eM hE) (As := [.int a3]) (obM_X8) (rfl) (lk_X8_isAnswer hE a3 σ _ hf) wm_798 wm_799 wm_919 wm_8 wm_800 dy_X8_isAnswer ⟨rfl, rfl⟩ ⟨Nat.le_of_ble_eq_true rfl, Nat.le_of_ble_eq_true rfl⟩ ⟨Nat.le_refl _, Nat.le_refl _⟩ rfl rfl (Nat.le_of_ble_eq_true rfl) dX8_answer_60 (pc' := 63) rfl (fun r10 σ11 hf => ?_)
    refine j_if_ne hC (tgt := 72) dX8_answer_63 (pc' := 66) rfl (by decide) (fun c_ => ?_) (fun c_ => ?_)
    · replace hf := hf.1 c_
      obtain ⟨x12, ex12⟩ : ∃ y : Int32, y = a4 + (-1 : Int32) := ⟨_, rfl⟩
      replace hf := hf x12 ex12
      refine j_iinc hC (v := x12) (q := 3) (lv' := [(4, .int x12), (0, .ref (q 0)), (2, .int a2), (3, .int a3)]) dX8_answer_72 (pc' := 75) rfl rfl (by rw [ex12]; rfl) (by decide) rfl ?_
      refine j_goto hC (tgt := 50) dX8_answer_75 (by decide) ?_
      refine j_lv [1, 2, 3, 0] rfl ?_
      exact hK50 a2 a3 x12 σ11 hf
    · replace hf := hf.2 c_
      obtain ⟨x13, ex13⟩ : ∃ y : Int32, y = a3 + (1 : Int32) := ⟨_, rfl⟩
      replace hf := hf x13 ex13
      refine j_iinc hC (v := x13) (q := 2) (lv' := [(3, .int x13), (0, .ref (q 0)), (2, .int a2), (4, .int a4)]) dX8_answer_66 (pc' := 69) rfl rfl (by rw [ex13]; rfl) (by decide) rfl ?_
      refine j_goto hC (tgt := 58) dX8_answer_69 (by decide) ?_
      refine j_lv [1, 2, 0, 3] rfl ?_
      exact ih a2 x13 a4 σ11 hf
set_option maxHeartbeats 4000000 in
set_option maxRecDepth 100000 in
theorem lb_X8_answer_b50 {l : Launch} {D : va_G} {q : Nat → Nat} {ca : Nat → ClassId} {p : Program} {e : Env} {s : State} {m : MethodId} {args : Array Value} {below : List Frame} {meth : Method} {c : Code} (hE : qok 19 q) (hC : Cx p s m args meth c cX8_answer 5 RX8 (some .int) D (tysM ca) ZM) (Q : Int32 → St → Prop) : ∀ (n : Nat) (a2 : Int32) (a3 : Int32) (a4 : Int32) (σ : St), f_X8_answer_b50 Q n a2 a3 a4 σ → J p l e { frames := 4, cells := 0, slots := 0, locals := 89 } s m args below meth c (MQ below (va_Qi Q (BW D (wM q ca)) (AM q)) args s 0 0 (AM q)) D (AM q) 5 0 0 (wM q ca σ) 50 [(0, .ref (q 0)), (2, .int a2), (3, .int a3), (4, .int a4)] [] := by
  intro n
  induction n with
  | zero => intro a2 a3 a4 σ hf; exact hf.elim
  | succ n ih =>
    intro a2 a3 a4 σ hf
    unfold f_X8_answer_b50 at hf
    refine j_iload hC 3 dX8_answer_50 (pc' := 52) rfl rfl ?_
    refine j_if_lt hC (tgt := 78) dX8_answer_52 (pc' := 55) rfl (by decide) (fun c_ => ?_) (fun c_ => ?_)
    · replace hf := hf.1 c_
      refine j_iload_n hC 1 dX8_answer_78 (pc' := 79) rfl rfl ?_
      refine j_if_ne hC (tgt := 86) dX8_answer_79 (pc' := 82) rfl (by decide) (fun c_ => ?_) (fun c_ => ?_)
      · replace hf := hf.1 c_
        refine j_aload_n hC 0 dX8_answer_86 (pc' := 87) rfl rfl ?_
        refine j_iload_n hC 2 dX8_answer_87 (pc' := 88) rfl rfl ?_
        refine j_iconst hC (v := 0) dX8_answer_88 (pc' := 89) rfl (by decide) ?_
        refine j_iload_n hC 1 dX8_answer_89 (pc' := 90) rfl rfl ?_
        refine jcV_i hC (eM hE) (As := [.int a3, .int (0 : Int32), .int a2]) (obM_X8) (rfl) (lk_X8_shift hE a3 (0 : Int32) a2 σ _ hf) wm_801 wm_802 wm_920 wm_8 wm_803 dy_X8_shift ⟨rfl, rfl⟩ ⟨Nat.le_of_ble_eq_true rfl, Nat.le_of_ble_eq_true rfl⟩ ⟨Nat.le_refl _, Nat.le_refl _⟩ rfl rfl (Nat.le_of_ble_eq_true rfl) dX8_answer_90 (pc' := 93) rfl (fun r7 σ8 hf => ?_)
        exact j_iret hC dX8_answer_93 hf
      · replace hf := hf.2 c_
        refine j_iload_n hC 2 dX8_answer_82 (pc' := 83) rfl rfl ?_
        refine j_goto hC (tgt := 93) dX8_answer_83 (by decide) ?_
        exact j_iret hC dX8_answer_93 hf
    · replace hf := hf.2 c_
      obtain ⟨x9, ex9⟩ : ∃ y : Int32, y = a3 + (1 : Int32) := ⟨_, rfl⟩
      replace hf := hf x9 ex9
      refine j_iinc hC (v := x9) (q := 2) (lv' := [(3, .int x9), (0, .ref (q 0)), (2, .int a2), (4, .int a4)]) dX8_answer_55 (pc' := 58) rfl rfl (by rw [ex9]; rfl) (by decide) rfl ?_
      obtain ⟨n14, hf⟩ := hf
      refine j_lv [1, 2, 0, 3] rfl ?_
      exact lb_X8_answer_b58 hE hC Q _ ih n14 a2 x9 a4 σ hf
set_option maxHeartbeats 4000000 in
set_option maxRecDepth 100000 in
theorem lk_X8_answer {l : Launch} {D : va_G} {q : Nat → Nat} {ca : Nat → ClassId} (hE : qok 19 q) (a1 : Int32) (a2 : Int32) (σ : St) (Q : Int32 → St → Prop) (hf : f_X8_answer a1 a2 σ Q) : Mi l yX8_answer cX8_answer 5 (some .int) { frames := 4, cells := 0, slots := 0, locals := 89 } D (tysM ca) ZM (wM q ca) (AM q) [.ref (q 0), .int a1, .int a2] σ Q := by
  refine j_start (own := RX8) (lv := [(0, .ref (q 0)), (1, .int a1), (2, .int a2)]) [.ref (q 0), .int a1, .int a2] (by decide +kernel) rfl (wM_D hE σ) (Nat.le_of_ble_eq_true rfl) rfl (fun p e s m args below meth c hC => ?_)
  unfold f_X8_answer at hf
  refine j_iload_n hC 1 dX8_answer_0 (pc' := 1) rfl rfl ?_
  refine j_i2l hC dX8_answer_1 (pc' := 2) rfl ?_
  refine j_lconst hC (v := 0) dX8_answer_2 (pc' := 3) rfl (by decide) ?_
  refine j_aload_n hC 0 dX8_answer_3 (pc' := 4) rfl rfl ?_
  refine jcV_i hC (eM hE) (As := []) (obM_X8) (rfl) (lk_X8_answers hE  σ _ hf) wm_808 wm_795 wm_796 wm_8 wm_797 dy_X8_answers ⟨rfl, rfl⟩ ⟨Nat.le_of_ble_eq_true rfl, Nat.le_of_ble_eq_true rfl⟩ ⟨Nat.le_refl _, Nat.le_refl _⟩ rfl rfl (Nat.le_of_ble_eq_true rfl) dX8_answer_4 (pc' := 7) rfl (fun r1 σ2 hf => ?_)
  refine j_iconst hC (v := 1) dX8_answer_7 (pc' := 8) rfl (by decide) ?_
  refine j_isub hC dX8_answer_8 (pc' := 9) rfl ?_
  refine j_i2l hC dX8_answer_9 (pc' := 10) rfl ?_
  refine jcS_i hC (eM hE) (As := [.long (Int32.toInt64 a1), .long (0 : Int64), .long (Int32.toInt64 (r1 - (1 : Int32)))]) (lk_X8_in hE (Int32.toInt64 a1) (0 : Int64) (Int32.toInt64 (r1 - (1 : Int32))) σ2 _ hf) wm_642 wm_643 wm_8 wm_644 dy_X8_in ⟨rfl, rfl⟩ ⟨Nat.le_of_ble_eq_true rfl, Nat.le_of_ble_eq_true rfl⟩ ⟨Nat.le_refl _, Nat.le_refl _⟩ rfl rfl (Nat.le_of_ble_eq_true rfl) dX8_answer_10 (pc' := 13) rfl (fun r3 σ4 hf => ?_)
  refine j_if_eq hC (tgt := 28) dX8_answer_13 (pc' := 16) rfl (by decide) (fun c_ => ?_) (fun c_ => ?_)
  · replace hf := hf.1 c_
    refine j_ldc hC (v := -2147483648) dX8_answer_28 (pc' := 30) rfl wm_678 ?_
    exact j_iret hC dX8_answer_30 hf
  · replace hf := hf.2 c_
    refine j_iload_n hC 2 dX8_answer_16 (pc' := 17) rfl rfl ?_
    refine j_i2l hC dX8_answer_17 (pc' := 18) rfl ?_
    refine j_lconst hC (v := 0) dX8_answer_18 (pc' := 19) rfl (by decide) ?_
    refine j_ldc2 hC (v := 2) dX8_answer_19 (pc' := 22) rfl wm_655 ?_
    refine jcS_i hC (eM hE) (As := [.long (Int32.toInt64 a2), .long (0 : Int64), .long (2 : Int64)]) (lk_X8_in hE (Int32.toInt64 a2) (0 : Int64) (2 : Int64) σ4 _ hf) wm_642 wm_643 wm_8 wm_644 dy_X8_in ⟨rfl, rfl⟩ ⟨Nat.le_of_ble_eq_true rfl, Nat.le_of_ble_eq_true rfl⟩ ⟨Nat.le_refl _, Nat.le_refl _⟩ rfl rfl (Nat.le_of_ble_eq_true rfl) dX8_answer_22 (pc' := 25) rfl (fun r5 σ6 hf => ?_)
    refine j_if_ne hC (tgt := 31) dX8_answer_25 (pc' := 28) rfl (by decide) (fun c_ => ?_) (fun c_ => ?_)
    · replace hf := hf.1 c_
      refine j_iload_n hC 2 dX8_answer_31 (pc' := 32) rfl rfl ?_
      refine j_if_le hC (tgt := 45) dX8_answer_32 (pc' := 35) rfl (by decide) (fun c_ => ?_) (fun c_ => ?_)
      · replace hf := hf.1 c_
        refine j_iconst hC (v := -1) dX8_answer_45 (pc' := 46) rfl (by decide) ?_
        refine j_istore_n hC (lv' := [(3, .int (-1 : Int32)), (0, .ref (q 0)), (1, .int a1), (2, .int a2)]) dX8_answer_46 (pc' := 47) rfl rfl (by decide) rfl ?_
        refine j_iload_n hC 2 dX8_answer_47 (pc' := 48) rfl rfl ?_
        refine j_istore hC (lv' := [(4, .int a1), (3, .int (-1 : Int32)), (0, .ref (q 0)), (1, .int a1), (2, .int a2)]) dX8_answer_48 (pc' := 50) rfl (by decide) rfl ?_
        obtain ⟨n15, hf⟩ := hf
        refine j_lv [2, 4, 1, 0] rfl ?_
        exact lb_X8_answer_b50 hE hC Q n15 a2 (-1 : Int32) a1 σ6 hf
      · replace hf := hf.2 c_
        refine j_aload_n hC 0 dX8_answer_35 (pc' := 36) rfl rfl ?_
        refine gM_pairs hC wm_574 dX8_answer_36 (pc' := 39) rfl ?_
        refine j_if_ne hC (tgt := 45) dX8_answer_39 (pc' := 42) rfl (by decide) (fun c_ => ?_) (fun c_ => ?_)
        · replace hf := hf.1 c_
          refine j_iconst hC (v := -1) dX8_answer_45 (pc' := 46) rfl (by decide) ?_
          refine j_istore_n hC (lv' := [(3, .int (-1 : Int32)), (0, .ref (q 0)), (1, .int a1), (2, .int a2)]) dX8_answer_46 (pc' := 47) rfl rfl (by decide) rfl ?_
          refine j_iload_n hC 2 dX8_answer_47 (pc' := 48) rfl rfl ?_
          refine j_istore hC (lv' := [(4, .int a1), (3, .int (-1 : Int32)), (0, .ref (q 0)), (1, .int a1), (2, .int a2)]) dX8_answer_48 (pc' := 50) rfl (by decide) rfl ?_
          obtain ⟨n16, hf⟩ := hf
          refine j_lv [2, 4, 1, 0] rfl ?_
          exact lb_X8_answer_b50 hE hC Q n16 a2 (-1 : Int32) a1 σ6 hf
        · replace hf := hf.2 c_
          refine j_ldc hC (v := -2147483647) dX8_answer_42 (pc' := 44) rfl wm_809 ?_
          exact j_iret hC dX8_answer_44 hf
    · replace hf := hf.2 c_
      refine j_ldc hC (v := -2147483648) dX8_answer_28 (pc' := 30) rfl wm_678 ?_
      exact j_iret hC dX8_answer_30 hf
def f_X8_limit (a1 : Int32) (a2 : Int32) (a3 : Int32) (σ : St) (Q : Int32 → St → Prop) : Prop := f_X8_in (Int32.toInt64 a1) (0 : Int64) (2 : Int64) σ (fun r1 σ2 => (r1 = 0 → Q (-2 : Int32) σ2) ∧ ((¬ r1 = 0) → f_X8_in (Int32.toInt64 a2) (0 : Int64) (35 : Int64) σ2 (fun r3 σ4 => (r3 = 0 → Q (-2 : Int32) σ4) ∧ ((¬ r3 = 0) → f_X8_in (Int32.toInt64 a3) (0 : Int64) (35 : Int64) σ4 (fun r5 σ6 => ((¬ r5 = 0) → vp_in a1 3 ∧ ∀ σ8 : St, σ8 = sI σ6 19 (Int32.toNatClampNeg a1) a2 → vp_in a1 3 ∧ ∀ σ10 : St, σ10 = sI σ8 20 (Int32.toNatClampNeg a1) a3 → Q (1 : Int32) σ10) ∧ (r5 = 0 → Q (-2 : Int32) σ6))))))
theorem dy_X8_limit : yX8_limit.cls = yX8_limit.cls ∧ yX8_limit.cls ≠ "java/lang/invoke/MethodHandle" ∧ yX8_limit.cls ≠ "java/lang/invoke/VarHandle" ∧ (parseMethodDescriptor yX8_limit.desc).map (fun d => d.parameters.length) = some 3 := by decide +kernel
set_option maxHeartbeats 4000000 in
set_option maxRecDepth 100000 in
theorem lk_X8_limit {l : Launch} {D : va_G} {q : Nat → Nat} {ca : Nat → ClassId} (hE : qok 19 q) (a1 : Int32) (a2 : Int32) (a3 : Int32) (σ : St) (Q : Int32 → St → Prop) (hf : f_X8_limit a1 a2 a3 σ Q) : Mi l yX8_limit cX8_limit 4 (some .int) { frames := 1, cells := 0, slots := 0, locals := 25 } D (tysM ca) ZM (wM q ca) (AM q) [.ref (q 0), .int a1, .int a2, .int a3] σ Q := by
  refine j_start (own := RX8) (lv := [(0, .ref (q 0)), (1, .int a1), (2, .int a2), (3, .int a3)]) [.ref (q 0), .int a1, .int a2, .int a3] (by decide +kernel) rfl (wM_D hE σ) (Nat.le_of_ble_eq_true rfl) rfl (fun p e s m args below meth c hC => ?_)
  unfold f_X8_limit at hf
  refine j_iload_n hC 1 dX8_limit_0 (pc' := 1) rfl rfl ?_
  refine j_i2l hC dX8_limit_1 (pc' := 2) rfl ?_
  refine j_lconst hC (v := 0) dX8_limit_2 (pc' := 3) rfl (by decide) ?_
  refine j_ldc2 hC (v := 2) dX8_limit_3 (pc' := 6) rfl wm_655 ?_
  refine jcS_i hC (eM hE) (As := [.long (Int32.toInt64 a1), .long (0 : Int64), .long (2 : Int64)]) (lk_X8_in hE (Int32.toInt64 a1) (0 : Int64) (2 : Int64) σ _ hf) wm_642 wm_643 wm_8 wm_644 dy_X8_in ⟨rfl, rfl⟩ ⟨Nat.le_of_ble_eq_true rfl, Nat.le_of_ble_eq_true rfl⟩ ⟨Nat.le_refl _, Nat.le_refl _⟩ rfl rfl (Nat.le_of_ble_eq_true rfl) dX8_limit_6 (pc' := 9) rfl (fun r1 σ2 hf => ?_)
  refine j_if_eq hC (tgt := 36) dX8_limit_9 (pc' := 12) rfl (by decide) (fun c_ => ?_) (fun c_ => ?_)
  · replace hf := hf.1 c_
    refine j_bipush hC (v := -2) dX8_limit_36 (pc' := 38) rfl (by decide) ?_
    exact j_iret hC dX8_limit_38 hf
  · replace hf := hf.2 c_
    refine j_iload_n hC 2 dX8_limit_12 (pc' := 13) rfl rfl ?_
    refine j_i2l hC dX8_limit_13 (pc' := 14) rfl ?_
    refine j_lconst hC (v := 0) dX8_limit_14 (pc' := 15) rfl (by decide) ?_
    refine j_ldc2 hC (v := 35) dX8_limit_15 (pc' := 18) rfl wm_641 ?_
    refine jcS_i hC (eM hE) (As := [.long (Int32.toInt64 a2), .long (0 : Int64), .long (35 : Int64)]) (lk_X8_in hE (Int32.toInt64 a2) (0 : Int64) (35 : Int64) σ2 _ hf) wm_642 wm_643 wm_8 wm_644 dy_X8_in ⟨rfl, rfl⟩ ⟨Nat.le_of_ble_eq_true rfl, Nat.le_of_ble_eq_true rfl⟩ ⟨Nat.le_refl _, Nat.le_refl _⟩ rfl rfl (Nat.le_of_ble_eq_true rfl) dX8_limit_18 (pc' := 21) rfl (fun r3 σ4 hf => ?_)
    refine j_if_eq hC (tgt := 36) dX8_limit_21 (pc' := 24) rfl (by decide) (fun c_ => ?_) (fun c_ => ?_)
    · replace hf := hf.1 c_
      refine j_bipush hC (v := -2) dX8_limit_36 (pc' := 38) rfl (by decide) ?_
      exact j_iret hC dX8_limit_38 hf
    · replace hf := hf.2 c_
      refine j_iload_n hC 3 dX8_limit_24 (pc' := 25) rfl rfl ?_
      refine j_i2l hC dX8_limit_25 (pc' := 26) rfl ?_
      refine j_lconst hC (v := 0) dX8_limit_26 (pc' := 27) rfl (by decide) ?_
      refine j_ldc2 hC (v := 35) dX8_limit_27 (pc' := 30) rfl wm_641 ?_
      refine jcS_i hC (eM hE) (As := [.long (Int32.toInt64 a3), .long (0 : Int64), .long (35 : Int64)]) (lk_X8_in hE (Int32.toInt64 a3) (0 : Int64) (35 : Int64) σ4 _ hf) wm_642 wm_643 wm_8 wm_644 dy_X8_in ⟨rfl, rfl⟩ ⟨Nat.le_of_ble_eq_true rfl, Nat.le_of_ble_eq_true rfl⟩ ⟨Nat.le_refl _, Nat.le_refl _⟩ rfl rfl (Nat.le_of_ble_eq_true rfl) dX8_limit_30 (pc' := 33) rfl (fun r5 σ6 hf => ?_)
      refine j_if_ne hC (tgt := 39) dX8_limit_33 (pc' := 36) rfl (by decide) (fun c_ => ?_) (fun c_ => ?_)
      · replace hf := hf.1 c_
        refine j_aload_n hC 0 dX8_limit_39 (pc' := 40) rfl rfl ?_
        refine gM_lows hC wm_579 dX8_limit_40 (pc' := 43) rfl ?_
        refine j_iload_n hC 1 dX8_limit_43 (pc' := 44) rfl rfl ?_
        refine j_iload_n hC 2 dX8_limit_44 (pc' := 45) rfl rfl ?_
        obtain ⟨h7, hf⟩ := hf
        refine sM_lows hC (j := (Int32.toNatClampNeg a1)) h7 rfl dX8_limit_45 (pc' := 46) rfl ?_
        refine j_nms (wf := wM q ca) (fun σ8 eσ8 => ?_)
        replace hf := hf σ8 eσ8
        refine j_aload_n hC 0 dX8_limit_46 (pc' := 47) rfl rfl ?_
        refine gM_spans hC wm_580 dX8_limit_47 (pc' := 50) rfl ?_
        refine j_iload_n hC 1 dX8_limit_50 (pc' := 51) rfl rfl ?_
        refine j_iload_n hC 3 dX8_limit_51 (pc' := 52) rfl rfl ?_
        obtain ⟨h9, hf⟩ := hf
        refine sM_spans hC (j := (Int32.toNatClampNeg a1)) h9 rfl dX8_limit_52 (pc' := 53) rfl ?_
        refine j_nms (wf := wM q ca) (fun σ10 eσ10 => ?_)
        replace hf := hf σ10 eσ10
        refine j_iconst hC (v := 1) dX8_limit_53 (pc' := 54) rfl (by decide) ?_
        exact j_iret hC dX8_limit_54 hf
      · replace hf := hf.2 c_
        refine j_bipush hC (v := -2) dX8_limit_36 (pc' := 38) rfl (by decide) ?_
        exact j_iret hC dX8_limit_38 hf
def f_X8_may (a1 : Int32) (a2 : Int32) (σ : St) (Q : Int32 → St → Prop) : Prop := vp_in a1 3 ∧ vp_in a1 3 ∧ ((σ.1 20 (Int32.toNatClampNeg a1)) < (((a2 - (σ.1 19 (Int32.toNatClampNeg a1))) + (36 : Int32)) - ((a2 - (σ.1 19 (Int32.toNatClampNeg a1))) + (36 : Int32)) / (36 : Int32) * (36 : Int32)) → Q (0 : Int32) σ) ∧ ((¬ (σ.1 20 (Int32.toNatClampNeg a1)) < (((a2 - (σ.1 19 (Int32.toNatClampNeg a1))) + (36 : Int32)) - ((a2 - (σ.1 19 (Int32.toNatClampNeg a1))) + (36 : Int32)) / (36 : Int32) * (36 : Int32))) → Q (1 : Int32) σ)
theorem dy_X8_may : yX8_may.cls = yX8_may.cls ∧ yX8_may.cls ≠ "java/lang/invoke/MethodHandle" ∧ yX8_may.cls ≠ "java/lang/invoke/VarHandle" ∧ (parseMethodDescriptor yX8_may.desc).map (fun d => d.parameters.length) = some 2 := by decide +kernel
set_option maxHeartbeats 4000000 in
set_option maxRecDepth 100000 in
theorem lk_X8_may {l : Launch} {D : va_G} {q : Nat → Nat} {ca : Nat → ClassId} (hE : qok 19 q) (a1 : Int32) (a2 : Int32) (σ : St) (Q : Int32 → St → Prop) (hf : f_X8_may a1 a2 σ Q) : Mi l yX8_may cX8_may 3 (some .boolean) { frames := 0, cells := 0, slots := 0, locals := 0 } D (tysM ca) ZM (wM q ca) (AM q) [.ref (q 0), .int a1, .int a2] σ Q := by
  refine j_start (own := RX8) (lv := [(0, .ref (q 0)), (1, .int a1), (2, .int a2)]) [.ref (q 0), .int a1, .int a2] (by decide +kernel) rfl (wM_D hE σ) (Nat.le_of_ble_eq_true rfl) rfl (fun p e s m args below meth c hC => ?_)
  unfold f_X8_may at hf
  refine j_iload_n hC 2 dX8_may_0 (pc' := 1) rfl rfl ?_
  refine j_aload_n hC 0 dX8_may_1 (pc' := 2) rfl rfl ?_
  refine gM_lows hC wm_579 dX8_may_2 (pc' := 5) rfl ?_
  refine j_iload_n hC 1 dX8_may_5 (pc' := 6) rfl rfl ?_
  obtain ⟨h1, hf⟩ := hf
  refine lM_lows hC (j := (Int32.toNatClampNeg a1)) h1 rfl dX8_may_6 (pc' := 7) rfl ?_
  refine j_isub hC dX8_may_7 (pc' := 8) rfl ?_
  refine j_bipush hC (v := 36) dX8_may_8 (pc' := 10) rfl (by decide) ?_
  refine j_iadd hC dX8_may_10 (pc' := 11) rfl ?_
  refine j_bipush hC (v := 36) dX8_may_11 (pc' := 13) rfl (by decide) ?_
  refine j_irem hC dX8_may_13 (pc' := 14) rfl (by decide) ?_
  refine j_aload_n hC 0 dX8_may_14 (pc' := 15) rfl rfl ?_
  refine gM_spans hC wm_580 dX8_may_15 (pc' := 18) rfl ?_
  refine j_iload_n hC 1 dX8_may_18 (pc' := 19) rfl rfl ?_
  obtain ⟨h2, hf⟩ := hf
  refine lM_spans hC (j := (Int32.toNatClampNeg a1)) h2 rfl dX8_may_19 (pc' := 20) rfl ?_
  refine j_icmp_gt hC (tgt := 27) dX8_may_20 (pc' := 23) rfl (by decide) (fun c_ => ?_) (fun c_ => ?_)
  · replace hf := hf.1 c_
    refine j_iconst hC (v := 0) dX8_may_27 (pc' := 28) rfl (by decide) ?_
    exact j_zret hC dX8_may_28 (Or.inl rfl) hf
  · replace hf := hf.2 c_
    refine j_iconst hC (v := 1) dX8_may_23 (pc' := 24) rfl (by decide) ?_
    refine j_goto hC (tgt := 28) dX8_may_24 (by decide) ?_
    exact j_zret hC dX8_may_28 (Or.inr rfl) hf
