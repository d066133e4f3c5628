def f_X8_missOf_b48 (Q : Int32 → St → Prop) (a3 : Int32) (z0 : Int32) (σ : St) : Prop := (0 ≤ a3 → (z0 ≤ a3 → Q a3 σ) ∧ ((¬ z0 ≤ a3) → Q z0 σ)) ∧ ((¬ 0 ≤ a3) → ∀ x11 : Int32, x11 = -a3 → (z0 ≤ x11 → Q x11 σ) ∧ ((¬ z0 ≤ x11) → Q z0 σ))
def f_X8_missOf (a1 : Int32) (σ : St) (Q : Int32 → St → Prop) : Prop := f_X8_handOf a1 (0 : Int32) σ (fun r1 σ2 => f_X8_item ((2 : Int32) * a1) σ2 (fun r3 σ4 => ∀ x5 : Int32, x5 = r1 - ((65 : Int32) * r3) → f_X8_handOf a1 (1 : Int32) σ4 (fun r6 σ7 => f_X8_item (((2 : Int32) * a1) + (1 : Int32)) σ7 (fun r8 σ9 => ∀ x10 : Int32, x10 = r6 - ((65 : Int32) * r8) → (0 ≤ x5 → f_X8_missOf_b48 Q x10 x5 σ9) ∧ ((¬ 0 ≤ x5) → f_X8_missOf_b48 Q x10 (-x5) σ9)))))
theorem dy_X8_missOf : yX8_missOf.cls = yX8_missOf.cls ∧ yX8_missOf.cls ≠ "java/lang/invoke/MethodHandle" ∧ yX8_missOf.cls ≠ "java/lang/invoke/VarHandle" ∧ (parseMethodDescriptor yX8_missOf.desc).map (fun d => d.parameters.length) = some 1 := by decide +kernel
set_option maxHeartbeats 4000000 in
set_option maxRecDepth 100000 in
theorem lb_X8_missOf_b48 {l : Launch} {D : va_G} {q : Nat → Nat} {ca : Nat → ClassId} {p : Program} {e : Env} {s : State} {m : MethodId} {args : Array Value} {below : List Frame} {meth : Method} {c : Code} (hE : qok 19 q) (hC : Cx p s m args meth c cX8_missOf 4 RX8 (some .int) D (tysM ca) ZM) (Q : Int32 → St → Prop) (a3 : Int32) (z0 : Int32) (σ : St) (hf : f_X8_missOf_b48 Q a3 z0 σ) : J p l e { frames := 3, cells := 0, slots := 0, locals := 67 } s m args below meth c (MQ below (va_Qi Q (BW D (wM q ca)) (AM q)) args s 0 0 (AM q)) D (AM q) 4 0 0 (wM q ca σ) 48 [(3, .int a3)] [.int z0] := by
  unfold f_X8_missOf_b48 at hf
  refine j_istore_n hC (lv' := [(2, .int z0), (3, .int a3)]) dX8_missOf_48 (pc' := 49) rfl rfl (by decide) rfl ?_
  refine j_iload_n hC 1 dX8_missOf_49 (pc' := 50) rfl rfl ?_
  refine j_if_ge hC (tgt := 58) dX8_missOf_50 (pc' := 53) rfl (by decide) (fun c_ => ?_) (fun c_ => ?_)
  · replace hf := hf.1 c_
    refine j_iload_n hC 1 dX8_missOf_58 (pc' := 59) rfl rfl ?_
    refine j_istore_n hC (lv' := [(3, .int a3), (2, .int z0)]) dX8_missOf_59 (pc' := 60) rfl rfl (by decide) rfl ?_
    refine j_iload_n hC 1 dX8_missOf_60 (pc' := 61) rfl rfl ?_
    refine j_iload_n hC 0 dX8_missOf_61 (pc' := 62) rfl rfl ?_
    refine j_icmp_le hC (tgt := 69) dX8_missOf_62 (pc' := 65) rfl (by decide) (fun c_ => ?_) (fun c_ => ?_)
    · replace hf := hf.1 c_
      refine j_iload_n hC 0 dX8_missOf_69 (pc' := 70) rfl rfl ?_
      exact j_iret hC dX8_missOf_70 hf
    · replace hf := hf.2 c_
      refine j_iload_n hC 1 dX8_missOf_65 (pc' := 66) rfl rfl ?_
      refine j_goto hC (tgt := 70) dX8_missOf_66 (by decide) ?_
      exact j_iret hC dX8_missOf_70 hf
  · replace hf := hf.2 c_
    refine j_iload_n hC 1 dX8_missOf_53 (pc' := 54) rfl rfl ?_
    refine j_ineg hC dX8_missOf_54 (pc' := 55) rfl ?_
    refine j_goto hC (tgt := 59) dX8_missOf_55 (by decide) ?_
    refine j_nmi (fun x11 ex11 => ?_)
    replace hf := hf x11 ex11
    refine j_istore_n hC (lv' := [(3, .int x11), (2, .int z0)]) dX8_missOf_59 (pc' := 60) rfl rfl (by decide) rfl ?_
    refine j_iload_n hC 1 dX8_missOf_60 (pc' := 61) rfl rfl ?_
    refine j_iload_n hC 0 dX8_missOf_61 (pc' := 62) rfl rfl ?_
    refine j_icmp_le hC (tgt := 69) dX8_missOf_62 (pc' := 65) rfl (by decide) (fun c_ => ?_) (fun c_ => ?_)
    · replace hf := hf.1 c_
      refine j_iload_n hC 0 dX8_missOf_69 (pc' := 70) rfl rfl ?_
      exact j_iret hC dX8_missOf_70 hf
    · replace hf := hf.2 c_
      refine j_iload_n hC 1 dX8_missOf_65 (pc' := 66) rfl rfl ?_
      refine j_goto hC (tgt := 70) dX8_missOf_66 (by decide) ?_
      exact j_iret hC dX8_missOf_70 hf
set_option maxHeartbeats 4000000 in
set_option maxRecDepth 100000 in
theorem lk_X8_missOf {l : Launch} {D : va_G} {q : Nat → Nat} {ca : Nat → ClassId} (hE : qok 19 q) (a1 : Int32) (σ : St) (Q : Int32 → St → Prop) (hf : f_X8_missOf a1 σ Q) : Mi l yX8_missOf cX8_missOf 4 (some .int) { frames := 3, cells := 0, slots := 0, locals := 67 } D (tysM ca) ZM (wM q ca) (AM q) [.ref (q 0), .int a1] σ Q := by
  refine j_start (own := RX8) (lv := [(0, .ref (q 0)), (1, .int a1)]) [.ref (q 0), .int a1] (by decide +kernel) rfl (wM_D hE σ) (Nat.le_of_ble_eq_true rfl) rfl (fun p e s m args below meth c hC => ?_)
  unfold f_X8_missOf at hf
  refine j_aload_n hC 0 dX8_missOf_0 (pc' := 1) rfl rfl ?_
  refine j_iload_n hC 1 dX8_missOf_1 (pc' := 2) rfl rfl ?_
  refine j_iconst hC (v := 0) dX8_missOf_2 (pc' := 3) rfl (by decide) ?_
  refine jcV_i hC (eM hE) (As := [.int a1, .int (0 : Int32)]) (obM_X8) (rfl) (lk_X8_handOf hE a1 (0 : Int32) σ _ hf) wm_672 wm_673 wm_904 wm_8 wm_674 dy_X8_handOf ⟨rfl, rfl⟩ ⟨Nat.le_of_ble_eq_true rfl, Nat.le_of_ble_eq_true rfl⟩ ⟨Nat.le_refl _, Nat.le_refl _⟩ rfl rfl (Nat.le_of_ble_eq_true rfl) dX8_missOf_3 (pc' := 6) rfl (fun r1 σ2 hf => ?_)
  refine j_bipush hC (v := 65) dX8_missOf_6 (pc' := 8) rfl (by decide) ?_
  refine j_aload_n hC 0 dX8_missOf_8 (pc' := 9) rfl rfl ?_
  refine j_iconst hC (v := 2) dX8_missOf_9 (pc' := 10) rfl (by decide) ?_
  refine j_iload_n hC 1 dX8_missOf_10 (pc' := 11) rfl rfl ?_
  refine j_imul hC dX8_missOf_11 (pc' := 12) rfl ?_
  refine jcV_i hC (eM hE) (As := [.int ((2 : Int32) * a1)]) (obM_X8) (rfl) (lk_X8_item hE ((2 : Int32) * a1) σ2 _ hf) wm_686 wm_687 wm_907 wm_8 wm_688 dy_X8_item ⟨rfl, rfl⟩ ⟨Nat.le_of_ble_eq_true rfl, Nat.le_of_ble_eq_true rfl⟩ ⟨Nat.le_refl _, Nat.le_refl _⟩ rfl rfl (Nat.le_of_ble_eq_true rfl) dX8_missOf_12 (pc' := 15) rfl (fun r3 σ4 hf => ?_)
  refine j_imul hC dX8_missOf_15 (pc' := 16) rfl ?_
  refine j_isub hC dX8_missOf_16 (pc' := 17) rfl ?_
  refine j_nmi (fun x5 ex5 => ?_)
  replace hf := hf x5 ex5
  refine j_istore_n hC (lv' := [(2, .int x5), (0, .ref (q 0)), (1, .int a1)]) dX8_missOf_17 (pc' := 18) rfl rfl (by decide) rfl ?_
  refine j_aload_n hC 1 dX8_missOf_18 (pc' := 19) rfl rfl ?_
  refine j_iload_n hC 2 dX8_missOf_19 (pc' := 20) rfl rfl ?_
  refine j_iconst hC (v := 1) dX8_missOf_20 (pc' := 21) rfl (by decide) ?_
  refine jcV_i hC (eM hE) (As := [.int a1, .int (1 : Int32)]) (obM_X8) (rfl) (lk_X8_handOf hE a1 (1 : Int32) σ4 _ hf) wm_672 wm_673 wm_904 wm_8 wm_674 dy_X8_handOf ⟨rfl, rfl⟩ ⟨Nat.le_of_ble_eq_true rfl, Nat.le_of_ble_eq_true rfl⟩ ⟨Nat.le_refl _, Nat.le_refl _⟩ rfl rfl (Nat.le_of_ble_eq_true rfl) dX8_missOf_21 (pc' := 24) rfl (fun r6 σ7 hf => ?_)
  refine j_bipush hC (v := 65) dX8_missOf_24 (pc' := 26) rfl (by decide) ?_
  refine j_aload_n hC 1 dX8_missOf_26 (pc' := 27) rfl rfl ?_
  refine j_iconst hC (v := 2) dX8_missOf_27 (pc' := 28) rfl (by decide) ?_
  refine j_iload_n hC 2 dX8_missOf_28 (pc' := 29) rfl rfl ?_
  refine j_imul hC dX8_missOf_29 (pc' := 30) rfl ?_
  refine j_iconst hC (v := 1) dX8_missOf_30 (pc' := 31) rfl (by decide) ?_
  refine j_iadd hC dX8_missOf_31 (pc' := 32) rfl ?_
  refine jcV_i hC (eM hE) (As := [.int (((2 : Int32) * a1) + (1 : Int32))]) (obM_X8) (rfl) (lk_X8_item hE (((2 : Int32) * a1) + (1 : Int32)) σ7 _ hf) wm_686 wm_687 wm_907 wm_8 wm_688 dy_X8_item ⟨rfl, rfl⟩ ⟨Nat.le_of_ble_eq_true rfl, Nat.le_of_ble_eq_true rfl⟩ ⟨Nat.le_refl _, Nat.le_refl _⟩ rfl rfl (Nat.le_of_ble_eq_true rfl) dX8_missOf_32 (pc' := 35) rfl (fun r8 σ9 hf => ?_)
  refine j_imul hC dX8_missOf_35 (pc' := 36) rfl ?_
  refine j_isub hC dX8_missOf_36 (pc' := 37) rfl ?_
  refine j_nmi (fun x10 ex10 => ?_)
  replace hf := hf x10 ex10
  refine j_istore_n hC (lv' := [(3, .int x10), (2, .int x5), (0, .ref (q 0)), (1, .int a1)]) dX8_missOf_37 (pc' := 38) rfl rfl (by decide) rfl ?_
  refine j_iload_n hC 1 dX8_missOf_38 (pc' := 39) rfl rfl ?_
  refine j_if_ge hC (tgt := 47) dX8_missOf_39 (pc' := 42) rfl (by decide) (fun c_ => ?_) (fun c_ => ?_)
  · replace hf := hf.1 c_
    refine j_iload_n hC 1 dX8_missOf_47 (pc' := 48) rfl rfl ?_
    refine j_lv [0] rfl ?_
    exact lb_X8_missOf_b48 hE hC Q x10 x5 σ9 hf
  · replace hf := hf.2 c_
    refine j_iload_n hC 1 dX8_missOf_42 (pc' := 43) rfl rfl ?_
    refine j_ineg hC dX8_missOf_43 (pc' := 44) rfl ?_
    refine j_goto hC (tgt := 48) dX8_missOf_44 (by decide) ?_
    refine j_lv [0] rfl ?_
    exact lb_X8_missOf_b48 hE hC Q x10 (-x5) σ9 hf
def f_X8_miss (a1 : Int32) (σ : St) (Q : Int32 → St → Prop) : Prop := f_X8_isPosture a1 σ (fun r1 σ2 => ((¬ r1 = 0) → f_X8_hasMeasure a1 σ2 (fun r3 σ4 => (r3 = 0 → Q (-3 : Int32) σ4) ∧ ((¬ r3 = 0) → f_X8_missOf a1 σ4 (fun r5 σ6 => Q r5 σ6)))) ∧ (r1 = 0 → Q (-2 : Int32) σ2))
theorem dy_X8_miss : yX8_miss.cls = yX8_miss.cls ∧ yX8_miss.cls ≠ "java/lang/invoke/MethodHandle" ∧ yX8_miss.cls ≠ "java/lang/invoke/VarHandle" ∧ (parseMethodDescriptor yX8_miss.desc).map (fun d => d.parameters.length) = some 1 := by decide +kernel
set_option maxHeartbeats 4000000 in
set_option maxRecDepth 100000 in
theorem lk_X8_miss {l : Launch} {D : va_G} {q : Nat → Nat} {ca : Nat → ClassId} (hE : qok 19 q) (a1 : Int32) (σ : St) (Q : Int32 → St → Prop) (hf : f_X8_miss a1 σ Q) : Mi l yX8_miss cX8_miss 2 (some .int) { frames := 4, cells := 0, slots := 0, locals := 90 } D (tysM ca) ZM (wM q ca) (AM q) [.ref (q 0), .int a1] σ Q := by
  refine j_start (own := RX8) (lv := [(0, .ref (q 0)), (1, .int a1)]) [.ref (q 0), .int a1] (by decide +kernel) rfl (wM_D hE σ) (Nat.le_of_ble_eq_true rfl) rfl (fun p e s m args below meth c hC => ?_)
  unfold f_X8_miss at hf
  refine j_aload_n hC 0 dX8_miss_0 (pc' := 1) rfl rfl ?_
  refine j_iload_n hC 1 dX8_miss_1 (pc' := 2) rfl rfl ?_
  refine jcV_i hC (eM hE) (As := [.int a1]) (obM_X8) (rfl) (lk_X8_isPosture hE a1 σ _ hf) wm_669 wm_670 wm_903 wm_8 wm_671 dy_X8_isPosture ⟨rfl, rfl⟩ ⟨Nat.le_of_ble_eq_true rfl, Nat.le_of_ble_eq_true rfl⟩ ⟨Nat.le_refl _, Nat.le_refl _⟩ rfl rfl (Nat.le_of_ble_eq_true rfl) dX8_miss_2 (pc' := 5) rfl (fun r1 σ2 hf => ?_)
  refine j_if_ne hC (tgt := 11) dX8_miss_5 (pc' := 8) rfl (by decide) (fun c_ => ?_) (fun c_ => ?_)
  · replace hf := hf.1 c_
    refine j_aload_n hC 0 dX8_miss_11 (pc' := 12) rfl rfl ?_
    refine j_iload_n hC 1 dX8_miss_12 (pc' := 13) rfl rfl ?_
    refine jcV_i hC (eM hE) (As := [.int a1]) (obM_X8) (rfl) (lk_X8_hasMeasure hE a1 σ2 _ hf) wm_683 wm_684 wm_906 wm_8 wm_685 dy_X8_hasMeasure ⟨rfl, rfl⟩ ⟨Nat.le_of_ble_eq_true rfl, Nat.le_of_ble_eq_true rfl⟩ ⟨Nat.le_refl _, Nat.le_refl _⟩ rfl rfl (Nat.le_of_ble_eq_true rfl) dX8_miss_13 (pc' := 16) rfl (fun r3 σ4 hf => ?_)
    refine j_if_eq hC (tgt := 27) dX8_miss_16 (pc' := 19) rfl (by decide) (fun c_ => ?_) (fun c_ => ?_)
    · replace hf := hf.1 c_
      refine j_bipush hC (v := -3) dX8_miss_27 (pc' := 29) rfl (by decide) ?_
      exact j_iret hC dX8_miss_29 hf
    · replace hf := hf.2 c_
      refine j_aload_n hC 0 dX8_miss_19 (pc' := 20) rfl rfl ?_
      refine j_iload_n hC 1 dX8_miss_20 (pc' := 21) rfl rfl ?_
      refine jcV_i hC (eM hE) (As := [.int a1]) (obM_X8) (rfl) (lk_X8_missOf hE a1 σ4 _ hf) wm_759 wm_760 wm_916 wm_8 wm_761 dy_X8_missOf ⟨rfl, rfl⟩ ⟨Nat.le_of_ble_eq_true rfl, Nat.le_of_ble_eq_true rfl⟩ ⟨Nat.le_refl _, Nat.le_refl _⟩ rfl rfl (Nat.le_of_ble_eq_true rfl) dX8_miss_21 (pc' := 24) rfl (fun r5 σ6 hf => ?_)
      refine j_goto hC (tgt := 29) dX8_miss_24 (by decide) ?_
      exact j_iret hC dX8_miss_29 hf
  · replace hf := hf.2 c_
    refine j_bipush hC (v := -2) dX8_miss_8 (pc' := 10) rfl (by decide) ?_
    exact j_iret hC dX8_miss_10 hf
def f_X8_worst_b8 (Q : Int32 → St → Prop) : Nat → Int32 → Int32 → St → Prop
  | 0, _, _, _ => False
  | n + 1, a1, a2, σ => ((σ.1 17 0) ≤ a2 → Q a1 σ) ∧ ((¬ (σ.1 17 0) ≤ a2) → (a1 = (-1 : Int32) → vp_in a2 12 ∧ ∀ x4 : Int32, x4 = σ.1 5 (Int32.toNatClampNeg a2) → ∀ x5 : Int32, x5 = a2 + (1 : Int32) → f_X8_worst_b8 Q  n x4 x5 σ) ∧ ((¬ a1 = (-1 : Int32)) → vp_in a2 12 ∧ f_X8_missOf (σ.1 5 (Int32.toNatClampNeg a2)) σ (fun r7 σ8 => f_X8_missOf a1 σ8 (fun r9 σ10 => (r7 ≤ r9 → ∀ x11 : Int32, x11 = a2 + (1 : Int32) → f_X8_worst_b8 Q  n a1 x11 σ10) ∧ ((¬ r7 ≤ r9) → vp_in a2 12 ∧ ∀ x13 : Int32, x13 = σ10.1 5 (Int32.toNatClampNeg a2) → ∀ x14 : Int32, x14 = a2 + (1 : Int32) → f_X8_worst_b8 Q  n x13 x14 σ10)))))
def f_X8_worst (σ : St) (Q : Int32 → St → Prop) : Prop := f_X8_findUsed σ (fun σ2 => ∃ n15 : Nat, f_X8_worst_b8 Q n15 (-1 : Int32) (0 : Int32) σ2)
theorem dy_X8_worst : yX8_worst.cls = yX8_worst.cls ∧ yX8_worst.cls ≠ "java/lang/invoke/MethodHandle" ∧ yX8_worst.cls ≠ "java/lang/invoke/VarHandle" ∧ (parseMethodDescriptor yX8_worst.desc).map (fun d => d.parameters.length) = some 0 := by decide +kernel
set_option maxHeartbeats 4000000 in
set_option maxRecDepth 100000 in
theorem lb_X8_worst_b8 {l : Launch} {D : va_G} {q : Nat → Nat} {ca : Nat → ClassId} {p : Program} {e : Env} {s : State} {m : MethodId} {args : Array Value} {below : List Frame} {meth : Method} {c : Code} (hE : qok 19 q) (hC : Cx p s m args meth c cX8_worst 3 RX8 (some .int) D (tysM ca) ZM) (Q : Int32 → St → Prop) : ∀ (n : Nat) (a1 : Int32) (a2 : Int32) (σ : St), f_X8_worst_b8 Q n a1 a2 σ → J p l e { frames := 4, cells := 0, slots := 0, locals := 90 } s m args below meth c (MQ below (va_Qi Q (BW D (wM q ca)) (AM q)) args s 0 0 (AM q)) D (AM q) 3 0 0 (wM q ca σ) 8 [(0, .ref (q 0)), (1, .int a1), (2, .int a2)] [] := by
  intro n
  induction n with
  | zero => intro a1 a2 σ hf; exact hf.elim
  | succ n ih =>
    intro a1 a2 σ hf
    unfold f_X8_worst_b8 at hf
    refine j_iload_n hC 2 dX8_worst_8 (pc' := 9) rfl rfl ?_
    refine j_aload_n hC 0 dX8_worst_9 (pc' := 10) rfl rfl ?_
    refine gM_usedMany hC wm_570 dX8_worst_10 (pc' := 13) rfl ?_
    refine j_icmp_ge hC (tgt := 52) dX8_worst_13 (pc' := 16) rfl (by decide) (fun c_ => ?_) (fun c_ => ?_)
    · replace hf := hf.1 c_
      refine j_iload_n hC 1 dX8_worst_52 (pc' := 53) rfl rfl ?_
      exact j_iret hC dX8_worst_53 hf
    · replace hf := hf.2 c_
      refine j_iload_n hC 1 dX8_worst_16 (pc' := 17) rfl rfl ?_
      refine j_iconst hC (v := -1) dX8_worst_17 (pc' := 18) rfl (by decide) ?_
      refine j_icmp_eq hC (tgt := 39) dX8_worst_18 (pc' := 21) rfl (by decide) (fun c_ => ?_) (fun c_ => ?_)
      · replace hf := hf.1 c_
        refine j_aload_n hC 0 dX8_worst_39 (pc' := 40) rfl rfl ?_
        refine gM_used hC wm_569 dX8_worst_40 (pc' := 43) rfl ?_
        refine j_iload_n hC 2 dX8_worst_43 (pc' := 44) rfl rfl ?_
        obtain ⟨h3, hf⟩ := hf
        refine lM_used hC (j := (Int32.toNatClampNeg a2)) h3 rfl dX8_worst_44 (pc' := 45) rfl ?_
        refine j_nmi (fun x4 ex4 => ?_)
        replace hf := hf x4 ex4
        refine j_istore_n hC (lv' := [(1, .int x4), (0, .ref (q 0)), (2, .int a2)]) dX8_worst_45 (pc' := 46) rfl rfl (by decide) rfl ?_
        obtain ⟨x5, ex5⟩ : ∃ y : Int32, y = a2 + (1 : Int32) := ⟨_, rfl⟩
        replace hf := hf x5 ex5
        refine j_iinc hC (v := x5) (q := 2) (lv' := [(2, .int x5), (1, .int x4), (0, .ref (q 0))]) dX8_worst_46 (pc' := 49) rfl rfl (by rw [ex5]; rfl) (by decide) rfl ?_
        refine j_goto hC (tgt := 8) dX8_worst_49 (by decide) ?_
        refine j_lv [2, 1, 0] rfl ?_
        exact ih x4 x5 σ hf
      · replace hf := hf.2 c_
        refine j_aload_n hC 0 dX8_worst_21 (pc' := 22) rfl rfl ?_
        refine j_aload_n hC 0 dX8_worst_22 (pc' := 23) rfl rfl ?_
        refine gM_used hC wm_569 dX8_worst_23 (pc' := 26) rfl ?_
        refine j_iload_n hC 2 dX8_worst_26 (pc' := 27) rfl rfl ?_
        obtain ⟨h6, hf⟩ := hf
        refine lM_used hC (j := (Int32.toNatClampNeg a2)) h6 rfl dX8_worst_27 (pc' := 28) rfl ?_
        refine jcV_i hC (eM hE) (As := [.int (σ.1 5 (Int32.toNatClampNeg a2))]) (obM_X8) (rfl) (lk_X8_missOf hE (σ.1 5 (Int32.toNatClampNeg a2)) σ _ hf) wm_759 wm_760 wm_916 wm_8 wm_761 dy_X8_missOf ⟨rfl, rfl⟩ ⟨Nat.le_of_ble_eq_true rfl, Nat.le_of_ble_eq_true rfl⟩ ⟨Nat.le_refl _, Nat.le_refl _⟩ rfl rfl (Nat.le_of_ble_eq_true rfl) dX8_worst_28 (pc' := 31) rfl (fun r7 σ8 hf => ?_)
        refine j_aload_n hC 0 dX8_worst_31 (pc' := 32) rfl rfl ?_
        refine j_iload_n hC 1 dX8_worst_32 (pc' := 33) rfl rfl ?_
        refine jcV_i hC (eM hE) (As := [.int a1]) (obM_X8) (rfl) (lk_X8_missOf hE a1 σ8 _ hf) wm_759 wm_760 wm_916 wm_8 wm_761 dy_X8_missOf ⟨rfl, rfl⟩ ⟨Nat.le_of_ble_eq_true rfl, Nat.le_of_ble_eq_true rfl⟩ ⟨Nat.le_refl _, Nat.le_refl _⟩ rfl rfl (Nat.le_of_ble_eq_true rfl) dX8_worst_33 (pc' := 36) rfl (fun r9 σ10 hf => ?_)
        refine j_icmp_le hC (tgt := 46) dX8_worst_36 (pc' := 39) rfl (by decide) (fun c_ => ?_) (fun c_ => ?_)
        · replace hf := hf.1 c_
          obtain ⟨x11, ex11⟩ : ∃ y : Int32, y = a2 + (1 : Int32) := ⟨_, rfl⟩
          replace hf := hf x11 ex11
          refine j_iinc hC (v := x11) (q := 2) (lv' := [(2, .int x11), (0, .ref (q 0)), (1, .int a1)]) dX8_worst_46 (pc' := 49) rfl rfl (by rw [ex11]; rfl) (by decide) rfl ?_
          refine j_goto hC (tgt := 8) dX8_worst_49 (by decide) ?_
          refine j_lv [1, 2, 0] rfl ?_
          exact ih a1 x11 σ10 hf
        · replace hf := hf.2 c_
          refine j_aload_n hC 0 dX8_worst_39 (pc' := 40) rfl rfl ?_
          refine gM_used hC wm_569 dX8_worst_40 (pc' := 43) rfl ?_
          refine j_iload_n hC 2 dX8_worst_43 (pc' := 44) rfl rfl ?_
          obtain ⟨h12, hf⟩ := hf
          refine lM_used hC (j := (Int32.toNatClampNeg a2)) h12 rfl dX8_worst_44 (pc' := 45) rfl ?_
          refine j_nmi (fun x13 ex13 => ?_)
          replace hf := hf x13 ex13
          refine j_istore_n hC (lv' := [(1, .int x13), (0, .ref (q 0)), (2, .int a2)]) dX8_worst_45 (pc' := 46) rfl rfl (by decide) rfl ?_
          obtain ⟨x14, ex14⟩ : ∃ y : Int32, y = a2 + (1 : Int32) := ⟨_, rfl⟩
          replace hf := hf x14 ex14
          refine j_iinc hC (v := x14) (q := 2) (lv' := [(2, .int x14), (1, .int x13), (0, .ref (q 0))]) dX8_worst_46 (pc' := 49) rfl rfl (by rw [ex14]; rfl) (by decide) rfl ?_
          refine j_goto hC (tgt := 8) dX8_worst_49 (by decide) ?_
          refine j_lv [2, 1, 0] rfl ?_
          exact ih x13 x14 σ10 hf
set_option maxHeartbeats 4000000 in
set_option maxRecDepth 100000 in
theorem lk_X8_worst {l : Launch} {D : va_G} {q : Nat → Nat} {ca : Nat → ClassId} (hE : qok 19 q) (σ : St) (Q : Int32 → St → Prop) (hf : f_X8_worst σ Q) : Mi l yX8_worst cX8_worst 3 (some .int) { frames := 4, cells := 0, slots := 0, locals := 90 } D (tysM ca) ZM (wM q ca) (AM q) [.ref (q 0)] σ Q := by
  refine j_start (own := RX8) (lv := [(0, .ref (q 0))]) [.ref (q 0)] (by decide +kernel) rfl (wM_D hE σ) (Nat.le_of_ble_eq_true rfl) rfl (fun p e s m args below meth c hC => ?_)
  unfold f_X8_worst at hf
  refine j_aload_n hC 0 dX8_worst_0 (pc' := 1) rfl rfl ?_
  refine jcV_v hC (eM hE) (As := []) (obM_X8) (rfl) (lk_X8_findUsed hE  σ _ hf) wm_699 wm_700 wm_908 wm_8 wm_701 dy_X8_findUsed ⟨rfl, rfl⟩ ⟨Nat.le_of_ble_eq_true rfl, Nat.le_of_ble_eq_true rfl⟩ ⟨Nat.le_refl _, Nat.le_refl _⟩ rfl rfl (Nat.le_of_ble_eq_true rfl) dX8_worst_1 (pc' := 4) rfl (fun σ2 hf => ?_)
  refine j_iconst hC (v := -1) dX8_worst_4 (pc' := 5) rfl (by decide) ?_
  refine j_istore_n hC (lv' := [(1, .int (-1 : Int32)), (0, .ref (q 0))]) dX8_worst_5 (pc' := 6) rfl rfl (by decide) rfl ?_
  refine j_iconst hC (v := 0) dX8_worst_6 (pc' := 7) rfl (by decide) ?_
  refine j_istore_n hC (lv' := [(2, .int (0 : Int32)), (1, .int (-1 : Int32)), (0, .ref (q 0))]) dX8_worst_7 (pc' := 8) rfl rfl (by decide) rfl ?_
  obtain ⟨n15, hf⟩ := hf
  refine j_lv [2, 1, 0] rfl ?_
  exact lb_X8_worst_b8 hE hC Q n15 (-1 : Int32) (0 : Int32) σ2 hf
def f_X8_first10 (σ : St) (Q : Int32 → St → Prop) : Prop := ((σ.1 3 0) ≤ (10 : Int32) → Q (σ.1 3 0) σ) ∧ ((¬ (σ.1 3 0) ≤ (10 : Int32)) → Q (10 : Int32) σ)
theorem dy_X8_first10 : yX8_first10.cls = yX8_first10.cls ∧ yX8_first10.cls ≠ "java/lang/invoke/MethodHandle" ∧ yX8_first10.cls ≠ "java/lang/invoke/VarHandle" ∧ (parseMethodDescriptor yX8_first10.desc).map (fun d => d.parameters.length) = some 0 := by decide +kernel
set_option maxHeartbeats 4000000 in
set_option maxRecDepth 100000 in
theorem lk_X8_first10 {l : Launch} {D : va_G} {q : Nat → Nat} {ca : Nat → ClassId} (hE : qok 19 q) (σ : St) (Q : Int32 → St → Prop) (hf : f_X8_first10 σ Q) : Mi l yX8_first10 cX8_first10 1 (some .int) { frames := 0, cells := 0, slots := 0, locals := 0 } D (tysM ca) ZM (wM q ca) (AM q) [.ref (q 0)] σ Q := by
  refine j_start (own := RX8) (lv := [(0, .ref (q 0))]) [.ref (q 0)] (by decide +kernel) rfl (wM_D hE σ) (Nat.le_of_ble_eq_true rfl) rfl (fun p e s m args below meth c hC => ?_)
  unfold f_X8_first10 at hf
  refine j_aload_n hC 0 dX8_first10_0 (pc' := 1) rfl rfl ?_
  refine gM_postures hC wm_566 dX8_first10_1 (pc' := 4) rfl ?_
  refine j_bipush hC (v := 10) dX8_first10_4 (pc' := 6) rfl (by decide) ?_
  refine j_icmp_le hC (tgt := 14) dX8_first10_6 (pc' := 9) rfl (by decide) (fun c_ => ?_) (fun c_ => ?_)
  · replace hf := hf.1 c_
    refine j_aload_n hC 0 dX8_first10_14 (pc' := 15) rfl rfl ?_
    refine gM_postures hC wm_566 dX8_first10_15 (pc' := 18) rfl ?_
    exact j_iret hC dX8_first10_18 hf
  · replace hf := hf.2 c_
    refine j_bipush hC (v := 10) dX8_first10_9 (pc' := 11) rfl (by decide) ?_
    refine j_goto hC (tgt := 18) dX8_first10_11 (by decide) ?_
    exact j_iret hC dX8_first10_18 hf
def f_X8_weightOf_b6 (Q : Int64 → St → Prop) : Nat → Int32 → Int32 → St → Prop
  | 0, _, _, _ => False
  | n + 1, a1, a2, σ => f_X8_first10 σ (fun r3 σ4 => (r3 ≤ a2 → f_X8_weightNow σ4 (fun r5 σ6 => Q r5 σ6)) ∧ ((¬ r3 ≤ a2) → ((¬ ((a1 >>> (a2 &&& 31)) &&& (1 : Int32)) = (1 : Int32)) → ∀ x7 : Int32, x7 = a2 + (1 : Int32) → f_X8_weightOf_b6 Q  n a1 x7 σ4) ∧ (((a1 >>> (a2 &&& 31)) &&& (1 : Int32)) = (1 : Int32) → f_X8_adds a2 σ4 (fun σ9 => ∀ x10 : Int32, x10 = a2 + (1 : Int32) → f_X8_weightOf_b6 Q  n a1 x10 σ9))))
def f_X8_weightOf (a1 : Int32) (σ : St) (Q : Int64 → St → Prop) : Prop := f_X8_nothing σ (fun σ2 => ∃ n11 : Nat, f_X8_weightOf_b6 Q n11 a1 (0 : Int32) σ2)
theorem dy_X8_weightOf : yX8_weightOf.cls = yX8_weightOf.cls ∧ yX8_weightOf.cls ≠ "java/lang/invoke/MethodHandle" ∧ yX8_weightOf.cls ≠ "java/lang/invoke/VarHandle" ∧ (parseMethodDescriptor yX8_weightOf.desc).map (fun d => d.parameters.length) = some 1 := by decide +kernel
set_option maxHeartbeats 4000000 in
set_option maxRecDepth 100000 in
theorem lb_X8_weightOf_b6 {l : Launch} {D : va_G} {q : Nat → Nat} {ca : Nat → ClassId} {p : Program} {e : Env} {s : State} {m : MethodId} {args : Array Value} {below : List Frame} {meth : Method} {c : Code} (hE : qok 19 q) (hC : Cx p s m args meth c cX8_weightOf 3 RX8 (some .long) D (tysM ca) ZM) (Q : Int64 → St → Prop) : ∀ (n : Nat) (a1 : Int32) (a2 : Int32) (σ : St), f_X8_weightOf_b6 Q n a1 a2 σ → J p l e { frames := 3, cells := 0, slots := 0, locals := 69 } s m args below meth c (MQ below (va_Ql Q (BW D (wM q ca)) (AM q)) args s 0 0 (AM q)) D (AM q) 3 0 0 (wM q ca σ) 6 [(0, .ref (q 0)), (1, .int a1), (2, .int a2)] [] := by
  intro n
  induction n with
  | zero => intro a1 a2 σ hf; exact hf.elim
  | succ n ih =>
    intro a1 a2 σ hf
    unfold f_X8_weightOf_b6 at hf
    refine j_iload_n hC 2 dX8_weightOf_6 (pc' := 7) rfl rfl ?_
    refine j_aload_n hC 0 dX8_weightOf_7 (pc' := 8) rfl rfl ?_
    refine jcV_i hC (eM hE) (As := []) (obM_X8) (rfl) (lk_X8_first10 hE  σ _ hf) wm_770 wm_771 wm_917 wm_8 wm_772 dy_X8_first10 ⟨rfl, rfl⟩ ⟨Nat.le_of_ble_eq_true rfl, Nat.le_of_ble_eq_true rfl⟩ ⟨Nat.le_refl _, Nat.le_refl _⟩ rfl rfl (Nat.le_of_ble_eq_true rfl) dX8_weightOf_8 (pc' := 11) rfl (fun r3 σ4 hf => ?_)
    refine j_icmp_ge hC (tgt := 34) dX8_weightOf_11 (pc' := 14) rfl (by decide) (fun c_ => ?_) (fun c_ => ?_)
    · replace hf := hf.1 c_
      refine j_aload_n hC 0 dX8_weightOf_34 (pc' := 35) rfl rfl ?_
      refine jcV_l hC (eM hE) (As := []) (obM_X8) (rfl) (lk_X8_weightNow hE  σ4 _ hf) wm_726 wm_727 wm_913 wm_8 wm_728 dy_X8_weightNow ⟨rfl, rfl⟩ ⟨Nat.le_of_ble_eq_true rfl, Nat.le_of_ble_eq_true rfl⟩ ⟨Nat.le_refl _, Nat.le_refl _⟩ rfl rfl (Nat.le_of_ble_eq_true rfl) dX8_weightOf_35 (pc' := 38) rfl (fun r5 σ6 hf => ?_)
      exact j_lret hC dX8_weightOf_38 hf
    · replace hf := hf.2 c_
      refine j_iload_n hC 1 dX8_weightOf_14 (pc' := 15) rfl rfl ?_
      refine j_iload_n hC 2 dX8_weightOf_15 (pc' := 16) rfl rfl ?_
      refine j_ishr hC dX8_weightOf_16 (pc' := 17) rfl ?_
      refine j_iconst hC (v := 1) dX8_weightOf_17 (pc' := 18) rfl (by decide) ?_
      refine j_iand hC dX8_weightOf_18 (pc' := 19) rfl ?_
      refine j_iconst hC (v := 1) dX8_weightOf_19 (pc' := 20) rfl (by decide) ?_
      refine j_icmp_ne hC (tgt := 28) dX8_weightOf_20 (pc' := 23) rfl (by decide) (fun c_ => ?_) (fun c_ => ?_)
      · replace hf := hf.1 c_
        obtain ⟨x7, ex7⟩ : ∃ y : Int32, y = a2 + (1 : Int32) := ⟨_, rfl⟩
        replace hf := hf x7 ex7
        refine j_iinc hC (v := x7) (q := 2) (lv' := [(2, .int x7), (0, .ref (q 0)), (1, .int a1)]) dX8_weightOf_28 (pc' := 31) rfl rfl (by rw [ex7]; rfl) (by decide) rfl ?_
        refine j_goto hC (tgt := 6) dX8_weightOf_31 (by decide) ?_
        refine j_lv [1, 2, 0] rfl ?_
        exact ih a1 x7 σ4 hf
      · replace hf := hf.2 c_
        refine j_aload_n hC 0 dX8_weightOf_23 (pc' := 24) rfl rfl ?_
        refine j_iload_n hC 2 dX8_weightOf_24 (pc' := 25) rfl rfl ?_
        refine jcV_v hC (eM hE) (As := [.int a2]) (obM_X8) (rfl) (lk_X8_adds hE a2 σ4 _ hf) wm_716 wm_717 wm_911 wm_8 wm_718 dy_X8_adds ⟨rfl, rfl⟩ ⟨Nat.le_of_ble_eq_true rfl, Nat.le_of_ble_eq_true rfl⟩ ⟨Nat.le_refl _, Nat.le_refl _⟩ rfl rfl (Nat.le_of_ble_eq_true rfl) dX8_weightOf_25 (pc' := 28) rfl (fun σ9 hf => ?_)
        obtain ⟨x10, ex10⟩ : ∃ y : Int32, y = a2 + (1 : Int32) := ⟨_, rfl⟩
        replace hf := hf x10 ex10
        refine j_iinc hC (v := x10) (q := 2) (lv' := [(2, .int x10), (0, .ref (q 0)), (1, .int a1)]) dX8_weightOf_28 (pc' := 31) rfl rfl (by rw [ex10]; rfl) (by decide) rfl ?_
        refine j_goto hC (tgt := 6) dX8_weightOf_31 (by decide) ?_
        refine j_lv [1, 2, 0] rfl ?_
        exact ih a1 x10 σ9 hf
set_option maxHeartbeats 4000000 in
set_option maxRecDepth 100000 in
theorem lk_X8_weightOf {l : Launch} {D : va_G} {q : Nat → Nat} {ca : Nat → ClassId} (hE : qok 19 q) (a1 : Int32) (σ : St) (Q : Int64 → St → Prop) (hf : f_X8_weightOf a1 σ Q) : Ml l yX8_weightOf cX8_weightOf 3 (some .long) { frames := 3, cells := 0, slots := 0, locals := 69 } D (tysM ca) ZM (wM q ca) (AM q) [.ref (q 0), .int a1] σ Q := by
  refine j_start (own := RX8) (lv := [(0, .ref (q 0)), (1, .int a1)]) [.ref (q 0), .int a1] (by decide +kernel) rfl (wM_D hE σ) (Nat.le_of_ble_eq_true rfl) rfl (fun p e s m args below meth c hC => ?_)
  unfold f_X8_weightOf at hf
  refine j_aload_n hC 0 dX8_weightOf_0 (pc' := 1) rfl rfl ?_
  refine jcV_v hC (eM hE) (As := []) (obM_X8) (rfl) (lk_X8_nothing hE  σ _ hf) wm_713 wm_714 wm_910 wm_8 wm_715 dy_X8_nothing ⟨rfl, rfl⟩ ⟨Nat.le_of_ble_eq_true rfl, Nat.le_of_ble_eq_true rfl⟩ ⟨Nat.le_refl _, Nat.le_refl _⟩ rfl rfl (Nat.le_of_ble_eq_true rfl) dX8_weightOf_1 (pc' := 4) rfl (fun σ2 hf => ?_)
  refine j_iconst hC (v := 0) dX8_weightOf_4 (pc' := 5) rfl (by decide) ?_
  refine j_istore_n hC (lv' := [(2, .int (0 : Int32)), (0, .ref (q 0)), (1, .int a1)]) dX8_weightOf_5 (pc' := 6) rfl rfl (by decide) rfl ?_
  obtain ⟨n11, hf⟩ := hf
  refine j_lv [1, 2, 0] rfl ?_
  exact lb_X8_weightOf_b6 hE hC Q n11 a1 (0 : Int32) σ2 hf
def f_X8_weight (a1 : Int32) (σ : St) (Q : Int64 → St → Prop) : Prop := f_X8_first10 σ (fun r1 σ2 => f_X8_in (Int32.toInt64 a1) (0 : Int64) (Int32.toInt64 (((1 : Int32) <<< (r1 &&& 31)) - (1 : Int32))) σ2 (fun r3 σ4 => (r3 = 0 → f_X8_no (-2 : Int32) σ4 (fun r5 σ6 => Q r5 σ6)) ∧ ((¬ r3 = 0) → f_X8_weightOf a1 σ4 (fun r7 σ8 => Q r7 σ8))))
theorem dy_X8_weight : yX8_weight.cls = yX8_weight.cls ∧ yX8_weight.cls ≠ "java/lang/invoke/MethodHandle" ∧ yX8_weight.cls ≠ "java/lang/invoke/VarHandle" ∧ (parseMethodDescriptor yX8_weight.desc).map (fun d => d.parameters.length) = some 1 := by decide +kernel
set_option maxHeartbeats 4000000 in
set_option maxRecDepth 100000 in
theorem lk_X8_weight {l : Launch} {D : va_G} {q : Nat → Nat} {ca : Nat → ClassId} (hE : qok 19 q) (a1 : Int32) (σ : St) (Q : Int64 → St → Prop) (hf : f_X8_weight a1 σ Q) : Ml l yX8_weight cX8_weight 2 (some .long) { frames := 4, cells := 0, slots := 0, locals := 91 } D (tysM ca) ZM (wM q ca) (AM q) [.ref (q 0), .int a1] σ Q := by
  refine j_start (own := RX8) (lv := [(0, .ref (q 0)), (1, .int a1)]) [.ref (q 0), .int a1] (by decide +kernel) rfl (wM_D hE σ) (Nat.le_of_ble_eq_true rfl) rfl (fun p e s m args below meth c hC => ?_)
  unfold f_X8_weight at hf
  refine j_iload_n hC 1 dX8_weight_0 (pc' := 1) rfl rfl ?_
  refine j_i2l hC dX8_weight_1 (pc' := 2) rfl ?_
  refine j_lconst hC (v := 0) dX8_weight_2 (pc' := 3) rfl (by decide) ?_
  refine j_iconst hC (v := 1) dX8_weight_3 (pc' := 4) rfl (by decide) ?_
  refine j_aload_n hC 0 dX8_weight_4 (pc' := 5) rfl rfl ?_
  refine jcV_i hC (eM hE) (As := []) (obM_X8) (rfl) (lk_X8_first10 hE  σ _ hf) wm_770 wm_771 wm_917 wm_8 wm_772 dy_X8_first10 ⟨rfl, rfl⟩ ⟨Nat.le_of_ble_eq_true rfl, Nat.le_of_ble_eq_true rfl⟩ ⟨Nat.le_refl _, Nat.le_refl _⟩ rfl rfl (Nat.le_of_ble_eq_true rfl) dX8_weight_5 (pc' := 8) rfl (fun r1 σ2 hf => ?_)
  refine j_ishl hC dX8_weight_8 (pc' := 9) rfl ?_
  refine j_iconst hC (v := 1) dX8_weight_9 (pc' := 10) rfl (by decide) ?_
  refine j_isub hC dX8_weight_10 (pc' := 11) rfl ?_
  refine j_i2l hC dX8_weight_11 (pc' := 12) rfl ?_
  refine jcS_i hC (eM hE) (As := [.long (Int32.toInt64 a1), .long (0 : Int64), .long (Int32.toInt64 (((1 : Int32) <<< (r1 &&& 31)) - (1 : Int32)))]) (lk_X8_in hE (Int32.toInt64 a1) (0 : Int64) (Int32.toInt64 (((1 : Int32) <<< (r1 &&& 31)) - (1 : Int32))) σ2 _ hf) wm_642 wm_643 wm_8 wm_644 dy_X8_in ⟨rfl, rfl⟩ ⟨Nat.le_of_ble_eq_true rfl, Nat.le_of_ble_eq_true rfl⟩ ⟨Nat.le_refl _, Nat.le_refl _⟩ rfl rfl (Nat.le_of_ble_eq_true rfl) dX8_weight_12 (pc' := 15) rfl (fun r3 σ4 hf => ?_)
  refine j_if_eq hC (tgt := 26) dX8_weight_15 (pc' := 18) rfl (by decide) (fun c_ => ?_) (fun c_ => ?_)
  · replace hf := hf.1 c_
    refine j_bipush hC (v := -2) dX8_weight_26 (pc' := 28) rfl (by decide) ?_
    refine jcS_l hC (eM hE) (As := [.int (-2 : Int32)]) (lk_X8_no hE (-2 : Int32) σ4 _ hf) wm_706 wm_707 wm_8 wm_708 dy_X8_no ⟨rfl, rfl⟩ ⟨Nat.le_of_ble_eq_true rfl, Nat.le_of_ble_eq_true rfl⟩ ⟨Nat.le_refl _, Nat.le_refl _⟩ rfl rfl (Nat.le_of_ble_eq_true rfl) dX8_weight_28 (pc' := 31) rfl (fun r5 σ6 hf => ?_)
    exact j_lret hC dX8_weight_31 hf
  · replace hf := hf.2 c_
    refine j_aload_n hC 0 dX8_weight_18 (pc' := 19) rfl rfl ?_
    refine j_iload_n hC 1 dX8_weight_19 (pc' := 20) rfl rfl ?_
    refine jcV_l hC (eM hE) (As := [.int a1]) (obM_X8) (rfl) (lk_X8_weightOf hE a1 σ4 _ hf) wm_773 wm_774 wm_918 wm_8 wm_775 dy_X8_weightOf ⟨rfl, rfl⟩ ⟨Nat.le_of_ble_eq_true rfl, Nat.le_of_ble_eq_true rfl⟩ ⟨Nat.le_refl _, Nat.le_refl _⟩ rfl rfl (Nat.le_of_ble_eq_true rfl) dX8_weight_20 (pc' := 23) rfl (fun r7 σ8 hf => ?_)
    refine j_goto hC (tgt := 31) dX8_weight_23 (by decide) ?_
    exact j_lret hC dX8_weight_31 hf
def f_X8_best_b50 (Q : Int32 → St → Prop) (K33 : Int32 → Int32 → Int64 → Int32 → St → Prop) : Nat → Int32 → Int32 → Int64 → Int32 → Int32 → Int32 → St → Prop
  | 0, _, _, _, _, _, _, _ => False
  | n + 1, a1, a2, a3, a5, a6, a7, σ => ((10 : Int32) ≤ a7 → ((¬ a6 = a1) → ∀ x5 : Int32, x5 = a5 + (1 : Int32) → K33 a1 a2 a3 x5 σ) ∧ (a6 = a1 → f_X8_weightOf a5 σ (fun r6 σ7 => (r6 ≤ a3 → ∀ x8 : Int32, x8 = a5 + (1 : Int32) → K33 a1 a2 a3 x8 σ7) ∧ ((¬ r6 ≤ a3) → f_X8_weightOf a5 σ7 (fun r9 σ10 => ∀ x11 : Int32, x11 = a5 + (1 : Int32) → K33 a1 a5 r9 x11 σ10))))) ∧ ((¬ (10 : Int32) ≤ a7) → ∀ x12 : Int32, x12 = a6 + ((a5 >>> (a7 &&& 31)) &&& (1 : Int32)) → ∀ x13 : Int32, x13 = a7 + (1 : Int32) → f_X8_best_b50 Q K33  n a1 a2 a3 a5 x12 x13 σ)
def f_X8_best_b33 (Q : Int32 → St → Prop) : Nat → Int32 → Int32 → Int64 → Int32 → St → Prop
  | 0, _, _, _, _, _ => False
  | n + 1, a1, a2, a3, a5, σ => f_X8_first10 σ (fun r3 σ4 => (((1 : Int32) <<< (r3 &&& 31)) ≤ a5 → Q a2 σ4) ∧ ((¬ ((1 : Int32) <<< (r3 &&& 31)) ≤ a5) → ∃ n14 : Nat, f_X8_best_b50 Q (fun a1 a2 a3 a5 σ => f_X8_best_b33 Q n a1 a2 a3 a5 σ) n14 a1 a2 a3 a5 (0 : Int32) (0 : Int32) σ4))
def f_X8_best (a1 : Int32) (σ : St) (Q : Int32 → St → Prop) : Prop := f_X8_in (Int32.toInt64 a1) (1 : Int64) (4 : Int64) σ (fun r1 σ2 => ((¬ r1 = 0) → (a1 ≤ (σ2.1 3 0) → ∃ n15 : Nat, f_X8_best_b33 Q n15 a1 (-1 : Int32) (0 : Int64) (0 : Int32) σ2) ∧ ((¬ a1 ≤ (σ2.1 3 0)) → Q (-3 : Int32) σ2)) ∧ (r1 = 0 → Q (-2 : Int32) σ2))
theorem dy_X8_best : yX8_best.cls = yX8_best.cls ∧ yX8_best.cls ≠ "java/lang/invoke/MethodHandle" ∧ yX8_best.cls ≠ "java/lang/invoke/VarHandle" ∧ (parseMethodDescriptor yX8_best.desc).map (fun d => d.parameters.length) = some 1 := by decide +kernel
set_option maxHeartbeats 4000000 in
set_option maxRecDepth 100000 in
theorem lb_X8_best_b50 {l : Launch} {D : va_G} {q : Nat → Nat} {ca : Nat → ClassId} {p : Program} {e : Env} {s : State} {m : MethodId} {args : Array Value} {below : List Frame} {meth : Method} {c : Code} (hE : qok 19 q) (hC : Cx p s m args meth c cX8_best 8 RX8 (some .int) D (tysM ca) ZM) (Q : Int32 → St → Prop) (K33 : Int32 → Int32 → Int64 → Int32 → St → Prop) (hK33 : ∀ (a1 : Int32) (a2 : Int32) (a3 : Int64) (a5 : Int32) (σ : St), K33 a1 a2 a3 a5 σ → J p l e { frames := 4, cells := 0, slots := 0, locals := 91 } s m args below meth c (MQ below (va_Qi Q (BW D (wM q ca)) (AM q)) args s 0 0 (AM q)) D (AM q) 8 0 0 (wM q ca σ) 33 [(0, .ref (q 0)), (1, .int a1), (2, .int a2), (3, .long a3), (5, .int a5)] []) : ∀ (n : Nat) (a1 : Int32) (a2 : Int32) (a3 : Int64) (a5 : Int32) (a6 : Int32) (a7 : Int32) (σ : St), f_X8_best_b50 Q K33 n a1 a2 a3 a5 a6 a7 σ → J p l e { frames := 4, cells := 0, slots := 0, locals := 91 } s m args below meth c (MQ below (va_Qi Q (BW D (wM q ca)) (AM q)) args s 0 0 (AM q)) D (AM q) 8 0 0 (wM q ca σ) 50 [(0, .ref (q 0)), (1, .int a1), (2, .int a2), (3, .long a3), (5, .int a5), (6, .int a6), (7, .int a7)] [] := by
  intro n
  induction n with
  | zero => intro a1 a2 a3 a5 a6 a7 σ hf; exact hf.elim
  | succ n ih =>
    intro a1 a2 a3 a5 a6 a7 σ hf
    unfold f_X8_best_b50 at hf
    refine j_iload hC 6 dX8_best_50 (pc' := 52) rfl rfl ?_
    refine j_bipush hC (v := 10) dX8_best_52 (pc' := 54) rfl (by decide) ?_
    refine j_icmp_ge hC (tgt := 75) dX8_best_54 (pc' := 57) rfl (by decide) (fun c_ => ?_) (fun c_ => ?_)
    · replace hf := hf.1 c_
      refine j_iload hC 5 dX8_best_75 (pc' := 77) rfl rfl ?_
      refine j_iload_n hC 1 dX8_best_77 (pc' := 78) rfl rfl ?_
      refine j_icmp_ne hC (tgt := 102) dX8_best_78 (pc' := 81) rfl (by decide) (fun c_ => ?_) (fun c_ => ?_)
      · replace hf := hf.1 c_
        obtain ⟨x5, ex5⟩ : ∃ y : Int32, y = a5 + (1 : Int32) := ⟨_, rfl⟩
        replace hf := hf x5 ex5
        refine j_iinc hC (v := x5) (q := 4) (lv' := [(5, .int x5), (0, .ref (q 0)), (1, .int a1), (2, .int a2), (3, .long a3), (6, .int a6), (7, .int a7)]) dX8_best_102 (pc' := 105) rfl rfl (by rw [ex5]; rfl) (by decide) rfl ?_
        refine j_goto hC (tgt := 33) dX8_best_105 (by decide) ?_
        refine j_lv [1, 2, 3, 4, 0] rfl ?_
        exact hK33 a1 a2 a3 x5 σ hf
      · replace hf := hf.2 c_
        refine j_aload_n hC 0 dX8_best_81 (pc' := 82) rfl rfl ?_
        refine j_iload hC 4 dX8_best_82 (pc' := 84) rfl rfl ?_
        refine jcV_l hC (eM hE) (As := [.int a5]) (obM_X8) (rfl) (lk_X8_weightOf hE a5 σ _ hf) wm_773 wm_774 wm_918 wm_8 wm_775 dy_X8_weightOf ⟨rfl, rfl⟩ ⟨Nat.le_of_ble_eq_true rfl, Nat.le_of_ble_eq_true rfl⟩ ⟨Nat.le_refl _, Nat.le_refl _⟩ rfl rfl (Nat.le_of_ble_eq_true rfl) dX8_best_84 (pc' := 87) rfl (fun r6 σ7 hf => ?_)
        refine j_lload_n hC 3 dX8_best_87 (pc' := 88) rfl rfl ?_
        refine j_lcmp hC dX8_best_88 (pc' := 89) rfl ?_
        refine j_if_le hC (tgt := 102) dX8_best_89 (pc' := 92) rfl (by decide) (fun c_ => ?_) (fun c_ => ?_)
        · replace hf := hf.1 ((lgc_le _ _).mp c_)
          obtain ⟨x8, ex8⟩ : ∃ y : Int32, y = a5 + (1 : Int32) := ⟨_, rfl⟩
          replace hf := hf x8 ex8
          refine j_iinc hC (v := x8) (q := 4) (lv' := [(5, .int x8), (0, .ref (q 0)), (1, .int a1), (2, .int a2), (3, .long a3), (6, .int a6), (7, .int a7)]) dX8_best_102 (pc' := 105) rfl rfl (by rw [ex8]; rfl) (by decide) rfl ?_
          refine j_goto hC (tgt := 33) dX8_best_105 (by decide) ?_
          refine j_lv [1, 2, 3, 4, 0] rfl ?_
          exact hK33 a1 a2 a3 x8 σ7 hf
        · replace hf := hf.2 (fun z => c_ ((lgc_le _ _).mpr z))
          refine j_aload_n hC 0 dX8_best_92 (pc' := 93) rfl rfl ?_
          refine j_iload hC 4 dX8_best_93 (pc' := 95) rfl rfl ?_
          refine jcV_l hC (eM hE) (As := [.int a5]) (obM_X8) (rfl) (lk_X8_weightOf hE a5 σ7 _ hf) wm_773 wm_774 wm_918 wm_8 wm_775 dy_X8_weightOf ⟨rfl, rfl⟩ ⟨Nat.le_of_ble_eq_true rfl, Nat.le_of_ble_eq_true rfl⟩ ⟨Nat.le_refl _, Nat.le_refl _⟩ rfl rfl (Nat.le_of_ble_eq_true rfl) dX8_best_95 (pc' := 98) rfl (fun r9 σ10 hf => ?_)
          refine j_lstore_n hC (lv' := [(3, .long r9), (0, .ref (q 0)), (1, .int a1), (2, .int a2), (5, .int a5), (6, .int a6), (7, .int a7)]) dX8_best_98 (pc' := 99) rfl rfl (by decide) rfl ?_
          refine j_iload hC 4 dX8_best_99 (pc' := 101) rfl rfl ?_
          refine j_istore_n hC (lv' := [(2, .int a5), (3, .long r9), (0, .ref (q 0)), (1, .int a1), (5, .int a5), (6, .int a6), (7, .int a7)]) dX8_best_101 (pc' := 102) rfl rfl (by decide) rfl ?_
          obtain ⟨x11, ex11⟩ : ∃ y : Int32, y = a5 + (1 : Int32) := ⟨_, rfl⟩
          replace hf := hf x11 ex11
          refine j_iinc hC (v := x11) (q := 4) (lv' := [(5, .int x11), (2, .int a5), (3, .long r9), (0, .ref (q 0)), (1, .int a1), (6, .int a6), (7, .int a7)]) dX8_best_102 (pc' := 105) rfl rfl (by rw [ex11]; rfl) (by decide) rfl ?_
          refine j_goto hC (tgt := 33) dX8_best_105 (by decide) ?_
          refine j_lv [3, 4, 1, 2, 0] rfl ?_
          exact hK33 a1 a5 r9 x11 σ10 hf
    · replace hf := hf.2 c_
      refine j_iload hC 5 dX8_best_57 (pc' := 59) rfl rfl ?_
      refine j_iload hC 4 dX8_best_59 (pc' := 61) rfl rfl ?_
      refine j_iload hC 6 dX8_best_61 (pc' := 63) rfl rfl ?_
      refine j_ishr hC dX8_best_63 (pc' := 64) rfl ?_
      refine j_iconst hC (v := 1) dX8_best_64 (pc' := 65) rfl (by decide) ?_
      refine j_iand hC dX8_best_65 (pc' := 66) rfl ?_
      refine j_iadd hC dX8_best_66 (pc' := 67) rfl ?_
      refine j_nmi (fun x12 ex12 => ?_)
      replace hf := hf x12 ex12
      refine j_istore hC (lv' := [(6, .int x12), (0, .ref (q 0)), (1, .int a1), (2, .int a2), (3, .long a3), (5, .int a5), (7, .int a7)]) dX8_best_67 (pc' := 69) rfl (by decide) rfl ?_
      obtain ⟨x13, ex13⟩ : ∃ y : Int32, y = a7 + (1 : Int32) := ⟨_, rfl⟩
      replace hf := hf x13 ex13
      refine j_iinc hC (v := x13) (q := 6) (lv' := [(7, .int x13), (6, .int x12), (0, .ref (q 0)), (1, .int a1), (2, .int a2), (3, .long a3), (5, .int a5)]) dX8_best_69 (pc' := 72) rfl rfl (by rw [ex13]; rfl) (by decide) rfl ?_
      refine j_goto hC (tgt := 50) dX8_best_72 (by decide) ?_
      refine j_lv [2, 3, 4, 5, 6, 1, 0] rfl ?_
      exact ih a1 a2 a3 a5 x12 x13 σ hf
set_option maxHeartbeats 4000000 in
set_option maxRecDepth 100000 in
theorem lb_X8_best_b33 {l : Launch} {D : va_G} {q : Nat → Nat} {ca : Nat → ClassId} {p : Program} {e : Env} {s : State} {m : MethodId} {args : Array Value} {below : List Frame} {meth : Method} {c : Code} (hE : qok 19 q) (hC : Cx p s m args meth c cX8_best 8 RX8 (some .int) D (tysM ca) ZM) (Q : Int32 → St → Prop) : ∀ (n : Nat) (a1 : Int32) (a2 : Int32) (a3 : Int64) (a5 : Int32) (σ : St), f_X8_best_b33 Q n a1 a2 a3 a5 σ → J p l e { frames := 4, cells := 0, slots := 0, locals := 91 } s m args below meth c (MQ below (va_Qi Q (BW D (wM q ca)) (AM q)) args s 0 0 (AM q)) D (AM q) 8 0 0 (wM q ca σ) 33 [(0, .ref (q 0)), (1, .int a1), (2, .int a2), (3, .long a3), (5, .int a5)] [] := by
  intro n
  induction n with
  | zero => intro a1 a2 a3 a5 σ hf; exact hf.elim
  | succ n ih =>
    intro a1 a2 a3 a5 σ hf
    unfold f_X8_best_b33 at hf
    refine j_iload hC 4 dX8_best_33 (pc' := 35) rfl rfl ?_
    refine j_iconst hC (v := 1) dX8_best_35 (pc' := 36) rfl (by decide) ?_
    refine j_aload_n hC 0 dX8_best_36 (pc' := 37) rfl rfl ?_
    refine jcV_i hC (eM hE) (As := []) (obM_X8) (rfl) (lk_X8_first10 hE  σ _ hf) wm_770 wm_771 wm_917 wm_8 wm_772 dy_X8_first10 ⟨rfl, rfl⟩ ⟨Nat.le_of_ble_eq_true rfl, Nat.le_of_ble_eq_true rfl⟩ ⟨Nat.le_refl _, Nat.le_refl _⟩ rfl rfl (Nat.le_of_ble_eq_true rfl) dX8_best_37 (pc' := 40) rfl (fun r3 σ4 hf => ?_)
    refine j_ishl hC dX8_best_40 (pc' := 41) rfl ?_
    refine j_icmp_ge hC (tgt := 108) dX8_best_41 (pc' := 44) rfl (by decide) (fun c_ => ?_) (fun c_ => ?_)
    · replace hf := hf.1 c_
      refine j_iload_n hC 2 dX8_best_108 (pc' := 109) rfl rfl ?_
      exact j_iret hC dX8_best_109 hf
    · replace hf := hf.2 c_
      refine j_iconst hC (v := 0) dX8_best_44 (pc' := 45) rfl (by decide) ?_
      refine j_istore hC (lv' := [(6, .int (0 : Int32)), (0, .ref (q 0)), (1, .int a1), (2, .int a2), (3, .long a3), (5, .int a5)]) dX8_best_45 (pc' := 47) rfl (by decide) rfl ?_
      refine j_iconst hC (v := 0) dX8_best_47 (pc' := 48) rfl (by decide) ?_
      refine j_istore hC (lv' := [(7, .int (0 : Int32)), (6, .int (0 : Int32)), (0, .ref (q 0)), (1, .int a1), (2, .int a2), (3, .long a3), (5, .int a5)]) dX8_best_48 (pc' := 50) rfl (by decide) rfl ?_
      obtain ⟨n14, hf⟩ := hf
      refine j_lv [2, 3, 4, 5, 6, 1, 0] rfl ?_
      exact lb_X8_best_b50 hE hC Q _ ih n14 a1 a2 a3 a5 (0 : Int32) (0 : Int32) σ4 hf
set_option maxHeartbeats 4000000 in
set_option maxRecDepth 100000 in
theorem lk_X8_best {l : Launch} {D : va_G} {q : Nat → Nat} {ca : Nat → ClassId} (hE : qok 19 q) (a1 : Int32) (σ : St) (Q : Int32 → St → Prop) (hf : f_X8_best a1 σ Q) : Mi l yX8_best cX8_best 8 (some .int) { frames := 4, cells := 0, slots := 0, locals := 91 } D (tysM ca) ZM (wM q ca) (AM q) [.ref (q 0), .int a1] σ Q := by
  refine j_start (own := RX8) (lv := [(0, .ref (q 0)), (1, .int a1)]) [.ref (q 0), .int a1] (by decide +kernel) rfl (wM_D hE σ) (Nat.le_of_ble_eq_true rfl) rfl (fun p e s m args below meth c hC => ?_)
  unfold f_X8_best at hf
  refine j_iload_n hC 1 dX8_best_0 (pc' := 1) rfl rfl ?_
  refine j_i2l hC dX8_best_1 (pc' := 2) rfl ?_
  refine j_lconst hC (v := 1) dX8_best_2 (pc' := 3) rfl (by decide) ?_
  refine j_ldc2 hC (v := 4) dX8_best_3 (pc' := 6) rfl wm_780 ?_
  refine jcS_i hC (eM hE) (As := [.long (Int32.toInt64 a1), .long (1 : Int64), .long (4 : Int64)]) (lk_X8_in hE (Int32.toInt64 a1) (1 : Int64) (4 : Int64) σ _ hf) wm_642 wm_643 wm_8 wm_644 dy_X8_in ⟨rfl, rfl⟩ ⟨Nat.le_of_ble_eq_true rfl, Nat.le_of_ble_eq_true rfl⟩ ⟨Nat.le_refl _, Nat.le_refl _⟩ rfl rfl (Nat.le_of_ble_eq_true rfl) dX8_best_6 (pc' := 9) rfl (fun r1 σ2 hf => ?_)
  refine j_if_ne hC (tgt := 15) dX8_best_9 (pc' := 12) rfl (by decide) (fun c_ => ?_) (fun c_ => ?_)
  · replace hf := hf.1 c_
    refine j_aload_n hC 0 dX8_best_15 (pc' := 16) rfl rfl ?_
    refine gM_postures hC wm_566 dX8_best_16 (pc' := 19) rfl ?_
    refine j_iload_n hC 1 dX8_best_19 (pc' := 20) rfl rfl ?_
    refine j_icmp_ge hC (tgt := 26) dX8_best_20 (pc' := 23) rfl (by decide) (fun c_ => ?_) (fun c_ => ?_)
    · replace hf := hf.1 c_
      refine j_iconst hC (v := -1) dX8_best_26 (pc' := 27) rfl (by decide) ?_
      refine j_istore_n hC (lv' := [(2, .int (-1 : Int32)), (0, .ref (q 0)), (1, .int a1)]) dX8_best_27 (pc' := 28) rfl rfl (by decide) rfl ?_
      refine j_lconst hC (v := 0) dX8_best_28 (pc' := 29) rfl (by decide) ?_
      refine j_lstore_n hC (lv' := [(3, .long (0 : Int64)), (2, .int (-1 : Int32)), (0, .ref (q 0)), (1, .int a1)]) dX8_best_29 (pc' := 30) rfl rfl (by decide) rfl ?_
      refine j_iconst hC (v := 0) dX8_best_30 (pc' := 31) rfl (by decide) ?_
      refine j_istore hC (lv' := [(5, .int (0 : Int32)), (3, .long (0 : Int64)), (2, .int (-1 : Int32)), (0, .ref (q 0)), (1, .int a1)]) dX8_best_31 (pc' := 33) rfl (by decide) rfl ?_
      obtain ⟨n15, hf⟩ := hf
      refine j_lv [3, 4, 2, 1, 0] rfl ?_
      exact lb_X8_best_b33 hE hC Q n15 a1 (-1 : Int32) (0 : Int64) (0 : Int32) σ2 hf
    · replace hf := hf.2 c_
      refine j_bipush hC (v := -3) dX8_best_23 (pc' := 25) rfl (by decide) ?_
      exact j_iret hC dX8_best_25 hf
  · replace hf := hf.2 c_
    refine j_bipush hC (v := -2) dX8_best_12 (pc' := 14) rfl (by decide) ?_
    exact j_iret hC dX8_best_14 hf
def f_X8_isPart (a0 : Int32) (σ : St) (Q : Int32 → St → Prop) : Prop := f_X8_in (Int32.toInt64 a0) (-1000 : Int64) (1000 : Int64) σ (fun r1 σ2 => zok r1 ∧ Q r1 σ2)
theorem dy_X8_isPart : yX8_isPart.cls ≠ "java/lang/invoke/MethodHandle" ∧ yX8_isPart.cls ≠ "java/lang/invoke/VarHandle" ∧ (parseMethodDescriptor yX8_isPart.desc).map (fun d => d.parameters.length) = some 1 := by decide +kernel
set_option maxHeartbeats 4000000 in
set_option maxRecDepth 100000 in
theorem lk_X8_isPart {l : Launch} {D : va_G} {q : Nat → Nat} {ca : Nat → ClassId} (hE : qok 19 q) (a0 : Int32) (σ : St) (Q : Int32 → St → Prop) (hf : f_X8_isPart a0 σ Q) : Mi l yX8_isPart cX8_isPart 1 (some .boolean) { frames := 1, cells := 0, slots := 0, locals := 25 } D (tysM ca) ZM (wM q ca) (AM q) [.int a0] σ Q := by
  refine j_start (own := RX8) (lv := [(0, .int a0)]) [.int a0] (by decide +kernel) rfl (wM_D hE σ) (Nat.le_of_ble_eq_true rfl) rfl (fun p e s m args below meth c hC => ?_)
  unfold f_X8_isPart at hf
  refine j_iload_n hC 0 dX8_isPart_0 (pc' := 1) rfl rfl ?_
  refine j_i2l hC dX8_isPart_1 (pc' := 2) rfl ?_
  refine j_ldc2 hC (v := -1000) dX8_isPart_2 (pc' := 5) rfl wm_788 ?_
  refine j_ldc2 hC (v := 1000) dX8_isPart_5 (pc' := 8) rfl wm_789 ?_
  refine jcS_i hC (eM hE) (As := [.long (Int32.toInt64 a0), .long (-1000 : Int64), .long (1000 : Int64)]) (lk_X8_in hE (Int32.toInt64 a0) (-1000 : Int64) (1000 : Int64) σ _ hf) wm_642 wm_643 wm_8 wm_644 dy_X8_in ⟨rfl, rfl⟩ ⟨Nat.le_of_ble_eq_true rfl, Nat.le_of_ble_eq_true rfl⟩ ⟨Nat.le_refl _, Nat.le_refl _⟩ rfl rfl (Nat.le_of_ble_eq_true rfl) dX8_isPart_8 (pc' := 11) rfl (fun r1 σ2 hf => ?_)
  exact j_zret hC dX8_isPart_11 hf.1 hf.2
def f_X8_pair (a1 : Int32) (a2 : Int32) (a3 : Int32) (a4 : Int32) (σ : St) (Q : Int32 → St → Prop) : Prop := f_X8_isPart a1 σ (fun r1 σ2 => (r1 = 0 → Q (-2 : Int32) σ2) ∧ ((¬ r1 = 0) → f_X8_isPart a2 σ2 (fun r3 σ4 => (r3 = 0 → Q (-2 : Int32) σ4) ∧ ((¬ r3 = 0) → f_X8_isPart a3 σ4 (fun r5 σ6 => (r5 = 0 → Q (-2 : Int32) σ6) ∧ ((¬ r5 = 0) → f_X8_isPart a4 σ6 (fun r7 σ8 => ((¬ r7 = 0) → ((¬ (σ8.1 10 0) = (20 : Int32)) → vp_in (σ8.1 10 0) 20 ∧ ∀ σ10 : St, σ10 = sI σ8 6 (Int32.toNatClampNeg (σ8.1 10 0)) a1 → vp_in (σ10.1 10 0) 20 ∧ ∀ σ12 : St, σ12 = sI σ10 7 (Int32.toNatClampNeg (σ10.1 10 0)) a2 → vp_in (σ12.1 10 0) 20 ∧ ∀ σ14 : St, σ14 = sI σ12 8 (Int32.toNatClampNeg (σ12.1 10 0)) a3 → vp_in (σ14.1 10 0) 20 ∧ ∀ σ16 : St, σ16 = sI σ14 9 (Int32.toNatClampNeg (σ14.1 10 0)) a4 → ∀ σ17 : St, σ17 = sI σ16 10 0 ((σ16.1 10 0) + (1 : Int32)) → Q (σ17.1 10 0) σ17) ∧ ((σ8.1 10 0) = (20 : Int32) → Q (-4 : Int32) σ8)) ∧ (r7 = 0 → Q (-2 : Int32) σ8))))))))
theorem dy_X8_pair : yX8_pair.cls = yX8_pair.cls ∧ yX8_pair.cls ≠ "java/lang/invoke/MethodHandle" ∧ yX8_pair.cls ≠ "java/lang/invoke/VarHandle" ∧ (parseMethodDescriptor yX8_pair.desc).map (fun d => d.parameters.length) = some 4 := by decide +kernel
set_option maxHeartbeats 4000000 in
set_option maxRecDepth 100000 in
theorem lk_X8_pair {l : Launch} {D : va_G} {q : Nat → Nat} {ca : Nat → ClassId} (hE : qok 19 q) (a1 : Int32) (a2 : Int32) (a3 : Int32) (a4 : Int32) (σ : St) (Q : Int32 → St → Prop) (hf : f_X8_pair a1 a2 a3 a4 σ Q) : Mi l yX8_pair cX8_pair 5 (some .int) { frames := 2, cells := 0, slots := 0, locals := 45 } D (tysM ca) ZM (wM q ca) (AM q) [.ref (q 0), .int a1, .int a2, .int a3, .int a4] σ Q := by
  refine j_start (own := RX8) (lv := [(0, .ref (q 0)), (1, .int a1), (2, .int a2), (3, .int a3), (4, .int a4)]) [.ref (q 0), .int a1, .int a2, .int a3, .int a4] (by decide +kernel) rfl (wM_D hE σ) (Nat.le_of_ble_eq_true rfl) rfl (fun p e s m args below meth c hC => ?_)
  unfold f_X8_pair at hf
  refine j_iload_n hC 1 dX8_pair_0 (pc' := 1) rfl rfl ?_
  refine jcS_i hC (eM hE) (As := [.int a1]) (lk_X8_isPart hE a1 σ _ hf) wm_785 wm_786 wm_8 wm_787 dy_X8_isPart ⟨rfl, rfl⟩ ⟨Nat.le_of_ble_eq_true rfl, Nat.le_of_ble_eq_true rfl⟩ ⟨Nat.le_refl _, Nat.le_refl _⟩ rfl rfl (Nat.le_of_ble_eq_true rfl) dX8_pair_1 (pc' := 4) rfl (fun r1 σ2 hf => ?_)
  refine j_if_eq hC (tgt := 29) dX8_pair_4 (pc' := 7) rfl (by decide) (fun c_ => ?_) (fun c_ => ?_)
  · replace hf := hf.1 c_
    refine j_bipush hC (v := -2) dX8_pair_29 (pc' := 31) rfl (by decide) ?_
    exact j_iret hC dX8_pair_31 hf
  · replace hf := hf.2 c_
    refine j_iload_n hC 2 dX8_pair_7 (pc' := 8) rfl rfl ?_
    refine jcS_i hC (eM hE) (As := [.int a2]) (lk_X8_isPart hE a2 σ2 _ hf) wm_785 wm_786 wm_8 wm_787 dy_X8_isPart ⟨rfl, rfl⟩ ⟨Nat.le_of_ble_eq_true rfl, Nat.le_of_ble_eq_true rfl⟩ ⟨Nat.le_refl _, Nat.le_refl _⟩ rfl rfl (Nat.le_of_ble_eq_true rfl) dX8_pair_8 (pc' := 11) rfl (fun r3 σ4 hf => ?_)
    refine j_if_eq hC (tgt := 29) dX8_pair_11 (pc' := 14) rfl (by decide) (fun c_ => ?_) (fun c_ => ?_)
    · replace hf := hf.1 c_
      refine j_bipush hC (v := -2) dX8_pair_29 (pc' := 31) rfl (by decide) ?_
      exact j_iret hC dX8_pair_31 hf
    · replace hf := hf.2 c_
      refine j_iload_n hC 3 dX8_pair_14 (pc' := 15) rfl rfl ?_
      refine jcS_i hC (eM hE) (As := [.int a3]) (lk_X8_isPart hE a3 σ4 _ hf) wm_785 wm_786 wm_8 wm_787 dy_X8_isPart ⟨rfl, rfl⟩ ⟨Nat.le_of_ble_eq_true rfl, Nat.le_of_ble_eq_true rfl⟩ ⟨Nat.le_refl _, Nat.le_refl _⟩ rfl rfl (Nat.le_of_ble_eq_true rfl) dX8_pair_15 (pc' := 18) rfl (fun r5 σ6 hf => ?_)
      refine j_if_eq hC (tgt := 29) dX8_pair_18 (pc' := 21) rfl (by decide) (fun c_ => ?_) (fun c_ => ?_)
      · replace hf := hf.1 c_
        refine j_bipush hC (v := -2) dX8_pair_29 (pc' := 31) rfl (by decide) ?_
        exact j_iret hC dX8_pair_31 hf
      · replace hf := hf.2 c_
        refine j_iload hC 4 dX8_pair_21 (pc' := 23) rfl rfl ?_
        refine jcS_i hC (eM hE) (As := [.int a4]) (lk_X8_isPart hE a4 σ6 _ hf) wm_785 wm_786 wm_8 wm_787 dy_X8_isPart ⟨rfl, rfl⟩ ⟨Nat.le_of_ble_eq_true rfl, Nat.le_of_ble_eq_true rfl⟩ ⟨Nat.le_refl _, Nat.le_refl _⟩ rfl rfl (Nat.le_of_ble_eq_true rfl) dX8_pair_23 (pc' := 26) rfl (fun r7 σ8 hf => ?_)
        refine j_if_ne hC (tgt := 32) dX8_pair_26 (pc' := 29) rfl (by decide) (fun c_ => ?_) (fun c_ => ?_)
        · replace hf := hf.1 c_
          refine j_aload_n hC 0 dX8_pair_32 (pc' := 33) rfl rfl ?_
          refine gM_pairs hC wm_574 dX8_pair_33 (pc' := 36) rfl ?_
          refine j_bipush hC (v := 20) dX8_pair_36 (pc' := 38) rfl (by decide) ?_
          refine j_icmp_ne hC (tgt := 44) dX8_pair_38 (pc' := 41) rfl (by decide) (fun c_ => ?_) (fun c_ => ?_)
          · replace hf := hf.1 c_
            refine j_aload_n hC 0 dX8_pair_44 (pc' := 45) rfl rfl ?_
            refine gM_pp hC wm_575 dX8_pair_45 (pc' := 48) rfl ?_
            refine j_aload_n hC 0 dX8_pair_48 (pc' := 49) rfl rfl ?_
            refine gM_pairs hC wm_574 dX8_pair_49 (pc' := 52) rfl ?_
            refine j_iload_n hC 1 dX8_pair_52 (pc' := 53) rfl rfl ?_
            obtain ⟨h9, hf⟩ := hf
            refine sM_pp hC (j := (Int32.toNatClampNeg (σ8.1 10 0))) h9 rfl dX8_pair_53 (pc' := 54) rfl ?_
            refine j_nms (wf := wM q ca) (fun σ10 eσ10 => ?_)
            replace hf := hf σ10 eσ10
            refine j_aload_n hC 0 dX8_pair_54 (pc' := 55) rfl rfl ?_
            refine gM_qq hC wm_576 dX8_pair_55 (pc' := 58) rfl ?_
            refine j_aload_n hC 0 dX8_pair_58 (pc' := 59) rfl rfl ?_
            refine gM_pairs hC wm_574 dX8_pair_59 (pc' := 62) rfl ?_
            refine j_iload_n hC 2 dX8_pair_62 (pc' := 63) rfl rfl ?_
            obtain ⟨h11, hf⟩ := hf
            refine sM_qq hC (j := (Int32.toNatClampNeg (σ10.1 10 0))) h11 rfl dX8_pair_63 (pc' := 64) rfl ?_
            refine j_nms (wf := wM q ca) (fun σ12 eσ12 => ?_)
            replace hf := hf σ12 eσ12
            refine j_aload_n hC 0 dX8_pair_64 (pc' := 65) rfl rfl ?_
            refine gM_xx hC wm_577 dX8_pair_65 (pc' := 68) rfl ?_
            refine j_aload_n hC 0 dX8_pair_68 (pc' := 69) rfl rfl ?_
            refine gM_pairs hC wm_574 dX8_pair_69 (pc' := 72) rfl ?_
            refine j_iload_n hC 3 dX8_pair_72 (pc' := 73) rfl rfl ?_
            obtain ⟨h13, hf⟩ := hf
            refine sM_xx hC (j := (Int32.toNatClampNeg (σ12.1 10 0))) h13 rfl dX8_pair_73 (pc' := 74) rfl ?_
            refine j_nms (wf := wM q ca) (fun σ14 eσ14 => ?_)
            replace hf := hf σ14 eσ14
            refine j_aload_n hC 0 dX8_pair_74 (pc' := 75) rfl rfl ?_
            refine gM_yy hC wm_578 dX8_pair_75 (pc' := 78) rfl ?_
            refine j_aload_n hC 0 dX8_pair_78 (pc' := 79) rfl rfl ?_
            refine gM_pairs hC wm_574 dX8_pair_79 (pc' := 82) rfl ?_
            refine j_iload hC 4 dX8_pair_82 (pc' := 84) rfl rfl ?_
            obtain ⟨h15, hf⟩ := hf
            refine sM_yy hC (j := (Int32.toNatClampNeg (σ14.1 10 0))) h15 rfl dX8_pair_84 (pc' := 85) rfl ?_
            refine j_nms (wf := wM q ca) (fun σ16 eσ16 => ?_)
            replace hf := hf σ16 eσ16
            refine j_aload_n hC 0 dX8_pair_85 (pc' := 86) rfl rfl ?_
            refine j_dup hC dX8_pair_86 (pc' := 87) rfl rfl ?_
            refine gM_pairs hC wm_574 dX8_pair_87 (pc' := 90) rfl ?_
            refine j_iconst hC (v := 1) dX8_pair_90 (pc' := 91) rfl (by decide) ?_
            refine j_iadd hC dX8_pair_91 (pc' := 92) rfl ?_
            refine pM_pairs hC wm_574 dX8_pair_92 (pc' := 95) rfl ?_
            refine j_nms (wf := wM q ca) (fun σ17 eσ17 => ?_)
            replace hf := hf σ17 eσ17
            refine j_aload_n hC 0 dX8_pair_95 (pc' := 96) rfl rfl ?_
            refine gM_pairs hC wm_574 dX8_pair_96 (pc' := 99) rfl ?_
            exact j_iret hC dX8_pair_99 hf
          · replace hf := hf.2 c_
            refine j_bipush hC (v := -4) dX8_pair_41 (pc' := 43) rfl (by decide) ?_
            exact j_iret hC dX8_pair_43 hf
        · replace hf := hf.2 c_
          refine j_bipush hC (v := -2) dX8_pair_29 (pc' := 31) rfl (by decide) ?_
          exact j_iret hC dX8_pair_31 hf
def f_X8_shut (σ : St) (Q : Int32 → St → Prop) : Prop := ∀ x1 : Int32, x1 = σ.1 10 0 → ∀ σ2 : St, σ2 = sI σ 10 0 (0 : Int32) → Q x1 σ2
theorem dy_X8_shut : yX8_shut.cls = yX8_shut.cls ∧ yX8_shut.cls ≠ "java/lang/invoke/MethodHandle" ∧ yX8_shut.cls ≠ "java/lang/invoke/VarHandle" ∧ (parseMethodDescriptor yX8_shut.desc).map (fun d => d.parameters.length) = some 0 := by decide +kernel
set_option maxHeartbeats 4000000 in
set_option maxRecDepth 100000 in
theorem lk_X8_shut {l : Launch} {D : va_G} {q : Nat → Nat} {ca : Nat → ClassId} (hE : qok 19 q) (σ : St) (Q : Int32 → St → Prop) (hf : f_X8_shut σ Q) : Mi l yX8_shut cX8_shut 2 (some .int) { frames := 0, cells := 0, slots := 0, locals := 0 } D (tysM ca) ZM (wM q ca) (AM q) [.ref (q 0)] σ Q := by
  refine j_start (own := RX8) (lv := [(0, .ref (q 0))]) [.ref (q 0)] (by decide +kernel) rfl (wM_D hE σ) (Nat.le_of_ble_eq_true rfl) rfl (fun p e s m args below meth c hC => ?_)
  unfold f_X8_shut at hf
  refine j_aload_n hC 0 dX8_shut_0 (pc' := 1) rfl rfl ?_
  refine gM_pairs hC wm_574 dX8_shut_1 (pc' := 4) rfl ?_
  refine j_nmi (fun x1 ex1 => ?_)
  replace hf := hf x1 ex1
  refine j_istore_n hC (lv' := [(1, .int x1), (0, .ref (q 0))]) dX8_shut_4 (pc' := 5) rfl rfl (by decide) rfl ?_
  refine j_aload_n hC 1 dX8_shut_5 (pc' := 6) rfl rfl ?_
  refine j_iconst hC (v := 0) dX8_shut_6 (pc' := 7) rfl (by decide) ?_
  refine pM_pairs hC wm_574 dX8_shut_7 (pc' := 10) rfl ?_
  refine j_nms (wf := wM q ca) (fun σ2 eσ2 => ?_)
  replace hf := hf σ2 eσ2
  refine j_iload_n hC 0 dX8_shut_10 (pc' := 11) rfl rfl ?_
  exact j_iret hC dX8_shut_11 hf
