def f_X7_copy (a1 : Int32) (a2 : Int32) (a3 : Int32) (a4 : Int32) (a5 : Int32) (σ : St) (Q : Int32 → St → Prop) : Prop := f_X7_isSheet a1 σ (fun r1 σ2 => (r1 = 0 → Q (-2 : Int32) σ2) ∧ ((¬ r1 = 0) → f_X7_isSheet a3 σ2 (fun r3 σ4 => ((¬ r3 = 0) → vp_in a1 4 ∧ ∀ k6 : Nat, k6 = (Int32.toNatClampNeg a1) → vp_in a3 4 ∧ ∀ k8 : Nat, k8 = (Int32.toNatClampNeg a3) → f_X4_isLost k6 σ4 (fun r9 σ10 => ((¬ r9 = 0) → f_X7_finding (1 : Int32) σ10 (fun r11 σ12 => Q r11 σ12)) ∧ (r9 = 0 → f_X4_isLost k8 σ10 (fun r13 σ14 => (r13 = 0 → ((σ14.1 (24 + k6) 0) = (σ14.1 (24 + k8) 0) → f_X4_hasRun k6 a2 a5 σ14 (fun r15 σ16 => (r15 = 0 → f_X7_finding (2 : Int32) σ16 (fun r17 σ18 => Q r17 σ18)) ∧ ((¬ r15 = 0) → f_X4_hasRun k8 a4 a5 σ16 (fun r19 σ20 => ((¬ r19 = 0) → ((¬ a2 < 0) ∧ (¬ a4 < 0) ∧ (¬ a5 < 0) ∧ (Int32.toNatClampNeg a2 + Int32.toNatClampNeg a5 ≤ 100) ∧ (Int32.toNatClampNeg a4 + Int32.toNatClampNeg a5 ≤ 100)) ∧ ∀ σ26 : St, σ26 = sR σ20 (20 + k8) (va_cpy (σ20.1 (20 + k6)) (σ20.1 (20 + k8)) (Int32.toNatClampNeg a2) (Int32.toNatClampNeg a4) (Int32.toNatClampNeg a5)) → Q (1 : Int32) σ26) ∧ (r19 = 0 → f_X7_finding (2 : Int32) σ20 (fun r27 σ28 => Q r27 σ28)))))) ∧ ((¬ (σ14.1 (24 + k6) 0) = (σ14.1 (24 + k8) 0)) → f_X7_finding (4 : Int32) σ14 (fun r29 σ30 => Q r29 σ30))) ∧ ((¬ r13 = 0) → f_X7_finding (1 : Int32) σ14 (fun r31 σ32 => Q r31 σ32)))))) ∧ (r3 = 0 → Q (-2 : Int32) σ4))))
theorem dy_X7_copy : yX7_copy.cls = yX7_copy.cls ∧ yX7_copy.cls ≠ "java/lang/invoke/MethodHandle" ∧ yX7_copy.cls ≠ "java/lang/invoke/VarHandle" ∧ (parseMethodDescriptor yX7_copy.desc).map (fun d => d.parameters.length) = some 5 := by decide +kernel
set_option maxHeartbeats 4000000 in
set_option maxRecDepth 100000 in
theorem lk_X7_copy {l : Launch} {D : va_G} {q : Nat → Nat} {ca : Nat → ClassId} {t : Nat} (hE : qok 28 q) (a1 : Int32) (a2 : Int32) (a3 : Int32) (a4 : Int32) (a5 : Int32) (σ : St) (Q : Int32 → St → Prop) (hf : f_X7_copy a1 a2 a3 a4 a5 σ Q) : Mi l yX7_copy cX7_copy 8 (some .int) { frames := 1, cells := 0, slots := 0, locals := 26 } D (tysX ca) (ZX q t) (wX q ca) (AX q) [.ref (q 0), .int a1, .int a2, .int a3, .int a4, .int a5] σ Q := by
  refine j_start (own := RX7) (lv := [(0, .ref (q 0)), (1, .int a1), (2, .int a2), (3, .int a3), (4, .int a4), (5, .int a5)]) [.ref (q 0), .int a1, .int a2, .int a3, .int a4, .int a5] (by decide +kernel) rfl (wX_D hE σ) (Nat.le_of_ble_eq_true rfl) rfl (fun p e s m args below meth c hC => ?_)
  unfold f_X7_copy at hf
  refine j_iload_n hC 1 dX7_copy_0 (pc' := 1) rfl rfl ?_
  refine jcS_i hC (eX hE) (As := [.int a1]) (lk_X7_isSheet hE a1 σ _ hf) wm_465 wm_466 wm_1 wm_467 dy_X7_isSheet ⟨rfl, rfl⟩ ⟨Nat.le_of_ble_eq_true rfl, Nat.le_of_ble_eq_true rfl⟩ ⟨Nat.le_refl _, Nat.le_refl _⟩ rfl rfl (Nat.le_of_ble_eq_true rfl) dX7_copy_1 (pc' := 4) rfl (fun r1 σ2 hf => ?_)
  refine j_if_eq hC (tgt := 14) dX7_copy_4 (pc' := 7) rfl (by decide) (fun c_ => ?_) (fun c_ => ?_)
  · replace hf := hf.1 c_
    refine j_bipush hC (v := -2) dX7_copy_14 (pc' := 16) rfl (by decide) ?_
    exact j_iret hC dX7_copy_16 hf
  · replace hf := hf.2 c_
    refine j_iload_n hC 3 dX7_copy_7 (pc' := 8) rfl rfl ?_
    refine jcS_i hC (eX hE) (As := [.int a3]) (lk_X7_isSheet hE a3 σ2 _ hf) wm_465 wm_466 wm_1 wm_467 dy_X7_isSheet ⟨rfl, rfl⟩ ⟨Nat.le_of_ble_eq_true rfl, Nat.le_of_ble_eq_true rfl⟩ ⟨Nat.le_refl _, Nat.le_refl _⟩ rfl rfl (Nat.le_of_ble_eq_true rfl) dX7_copy_8 (pc' := 11) rfl (fun r3 σ4 hf => ?_)
    refine j_if_ne hC (tgt := 17) dX7_copy_11 (pc' := 14) rfl (by decide) (fun c_ => ?_) (fun c_ => ?_)
    · replace hf := hf.1 c_
      refine j_aload_n hC 0 dX7_copy_17 (pc' := 18) rfl rfl ?_
      refine gX_sheets hC wm_150 dX7_copy_18 (pc' := 21) rfl ?_
      refine j_iload_n hC 1 dX7_copy_21 (pc' := 22) rfl rfl ?_
      obtain ⟨h5, hf⟩ := hf
      refine lX_sheets hC (j := (Int32.toNatClampNeg a1)) h5 rfl dX7_copy_22 (pc' := 23) rfl ?_
      obtain ⟨k6, ek6⟩ : ∃ z : Nat, z = (Int32.toNatClampNeg a1) := ⟨_, rfl⟩
      replace hf := hf k6 ek6
      rw [← ek6]
      have hk6 : k6 < 4 := by rw [ek6]; exact Nat.not_le.mp (fun z => h5 (Or.inr z))
      refine j_astore hC (lv' := [(6, .ref (q (20 + k6))), (0, .ref (q 0)), (1, .int a1), (2, .int a2), (3, .int a3), (4, .int a4), (5, .int a5)]) dX7_copy_23 (pc' := 25) rfl (by decide) rfl ?_
      refine j_aload_n hC 1 dX7_copy_25 (pc' := 26) rfl rfl ?_
      refine gX_sheets hC wm_150 dX7_copy_26 (pc' := 29) rfl ?_
      refine j_iload_n hC 4 dX7_copy_29 (pc' := 30) rfl rfl ?_
      obtain ⟨h7, hf⟩ := hf
      refine lX_sheets hC (j := (Int32.toNatClampNeg a3)) h7 rfl dX7_copy_30 (pc' := 31) rfl ?_
      obtain ⟨k8, ek8⟩ : ∃ z : Nat, z = (Int32.toNatClampNeg a3) := ⟨_, rfl⟩
      replace hf := hf k8 ek8
      rw [← ek8]
      have hk8 : k8 < 4 := by rw [ek8]; exact Nat.not_le.mp (fun z => h7 (Or.inr z))
      refine j_astore hC (lv' := [(7, .ref (q (20 + k8))), (6, .ref (q (20 + k6))), (0, .ref (q 0)), (1, .int a1), (2, .int a2), (3, .int a3), (4, .int a4), (5, .int a5)]) dX7_copy_31 (pc' := 33) rfl (by decide) rfl ?_
      refine j_aload hC 1 dX7_copy_33 (pc' := 35) rfl rfl ?_
      refine jcV_i hC (eX hE) (As := []) (obX_X4 hk6) (rfl) (lk_X4_isLost hE k6 hk6  σ4 _ hf) wm_468 wm_469 wm_470 wm_7 wm_471 dy_X4_isLost ⟨rfl, rfl⟩ ⟨Nat.le_of_ble_eq_true rfl, Nat.le_of_ble_eq_true rfl⟩ ⟨Nat.le_refl _, Nat.le_refl _⟩ rfl rfl (Nat.le_of_ble_eq_true rfl) dX7_copy_35 (pc' := 38) rfl (fun r9 σ10 hf => ?_)
      refine j_if_ne hC (tgt := 49) dX7_copy_38 (pc' := 41) rfl (by decide) (fun c_ => ?_) (fun c_ => ?_)
      · replace hf := hf.1 c_
        refine j_aload_n hC 2 dX7_copy_49 (pc' := 50) rfl rfl ?_
        refine j_iconst hC (v := 1) dX7_copy_50 (pc' := 51) rfl (by decide) ?_
        refine jcV_i hC (eX hE) (As := [.int (1 : Int32)]) (obX_X7) (rfl) (lk_X7_finding hE (1 : Int32) σ10 _ hf) wm_472 wm_473 wm_897 wm_1 wm_474 dy_X7_finding ⟨rfl, rfl⟩ ⟨Nat.le_of_ble_eq_true rfl, Nat.le_of_ble_eq_true rfl⟩ ⟨Nat.le_refl _, Nat.le_refl _⟩ rfl rfl (Nat.le_of_ble_eq_true rfl) dX7_copy_51 (pc' := 54) rfl (fun r11 σ12 hf => ?_)
        exact j_iret hC dX7_copy_54 hf
      · replace hf := hf.2 c_
        refine j_aload hC 0 dX7_copy_41 (pc' := 43) rfl rfl ?_
        refine jcV_i hC (eX hE) (As := []) (obX_X4 hk8) (rfl) (lk_X4_isLost hE k8 hk8  σ10 _ hf) wm_468 wm_469 wm_470 wm_7 wm_471 dy_X4_isLost ⟨rfl, rfl⟩ ⟨Nat.le_of_ble_eq_true rfl, Nat.le_of_ble_eq_true rfl⟩ ⟨Nat.le_refl _, Nat.le_refl _⟩ rfl rfl (Nat.le_of_ble_eq_true rfl) dX7_copy_43 (pc' := 46) rfl (fun r13 σ14 hf => ?_)
        refine j_if_eq hC (tgt := 55) dX7_copy_46 (pc' := 49) rfl (by decide) (fun c_ => ?_) (fun c_ => ?_)
        · replace hf := hf.1 c_
          refine j_aload hC 1 dX7_copy_55 (pc' := 57) rfl rfl ?_
          refine gX_form hC hk6 wm_134 dX7_copy_57 (pc' := 60) rfl ?_
          refine j_aload hC 0 dX7_copy_60 (pc' := 62) rfl rfl ?_
          refine gX_form hC hk8 wm_134 dX7_copy_62 (pc' := 65) rfl ?_
          refine j_icmp_eq hC (tgt := 74) dX7_copy_65 (pc' := 68) rfl (by decide) (fun c_ => ?_) (fun c_ => ?_)
          · replace hf := hf.1 c_
            refine j_aload hC 1 dX7_copy_74 (pc' := 76) rfl rfl ?_
            refine j_iload_n hC 4 dX7_copy_76 (pc' := 77) rfl rfl ?_
            refine j_iload hC 7 dX7_copy_77 (pc' := 79) rfl rfl ?_
            refine jcV_i hC (eX hE) (As := [.int a2, .int a5]) (obX_X4 hk6) (rfl) (lk_X4_hasRun hE k6 hk6 a2 a5 σ14 _ hf) wm_534 wm_535 wm_536 wm_7 wm_537 dy_X4_hasRun ⟨rfl, rfl⟩ ⟨Nat.le_of_ble_eq_true rfl, Nat.le_of_ble_eq_true rfl⟩ ⟨Nat.le_refl _, Nat.le_refl _⟩ rfl rfl (Nat.le_of_ble_eq_true rfl) dX7_copy_79 (pc' := 82) rfl (fun r15 σ16 hf => ?_)
            refine j_if_eq hC (tgt := 97) dX7_copy_82 (pc' := 85) rfl (by decide) (fun c_ => ?_) (fun c_ => ?_)
            · replace hf := hf.1 c_
              refine j_aload_n hC 2 dX7_copy_97 (pc' := 98) rfl rfl ?_
              refine j_iconst hC (v := 2) dX7_copy_98 (pc' := 99) rfl (by decide) ?_
              refine jcV_i hC (eX hE) (As := [.int (2 : Int32)]) (obX_X7) (rfl) (lk_X7_finding hE (2 : Int32) σ16 _ hf) wm_472 wm_473 wm_897 wm_1 wm_474 dy_X7_finding ⟨rfl, rfl⟩ ⟨Nat.le_of_ble_eq_true rfl, Nat.le_of_ble_eq_true rfl⟩ ⟨Nat.le_refl _, Nat.le_refl _⟩ rfl rfl (Nat.le_of_ble_eq_true rfl) dX7_copy_99 (pc' := 102) rfl (fun r17 σ18 hf => ?_)
              exact j_iret hC dX7_copy_102 hf
            · replace hf := hf.2 c_
              refine j_aload hC 0 dX7_copy_85 (pc' := 87) rfl rfl ?_
              refine j_iload hC 6 dX7_copy_87 (pc' := 89) rfl rfl ?_
              refine j_iload hC 7 dX7_copy_89 (pc' := 91) rfl rfl ?_
              refine jcV_i hC (eX hE) (As := [.int a4, .int a5]) (obX_X4 hk8) (rfl) (lk_X4_hasRun hE k8 hk8 a4 a5 σ16 _ hf) wm_534 wm_535 wm_536 wm_7 wm_537 dy_X4_hasRun ⟨rfl, rfl⟩ ⟨Nat.le_of_ble_eq_true rfl, Nat.le_of_ble_eq_true rfl⟩ ⟨Nat.le_refl _, Nat.le_refl _⟩ rfl rfl (Nat.le_of_ble_eq_true rfl) dX7_copy_91 (pc' := 94) rfl (fun r19 σ20 hf => ?_)
              refine j_if_ne hC (tgt := 103) dX7_copy_94 (pc' := 97) rfl (by decide) (fun c_ => ?_) (fun c_ => ?_)
              · replace hf := hf.1 c_
                refine j_aload hC 1 dX7_copy_103 (pc' := 105) rfl rfl ?_
                refine gX_items hC hk6 wm_132 dX7_copy_105 (pc' := 108) rfl ?_
                refine j_iload_n hC 4 dX7_copy_108 (pc' := 109) rfl rfl ?_
                refine j_aload hC 0 dX7_copy_109 (pc' := 111) rfl rfl ?_
                refine gX_items hC hk8 wm_132 dX7_copy_111 (pc' := 114) rfl ?_
                refine j_iload hC 6 dX7_copy_114 (pc' := 116) rfl rfl ?_
                refine j_iload hC 7 dX7_copy_116 (pc' := 118) rfl rfl ?_
                obtain ⟨⟨h21, h22, h23, h24, h25⟩, hf⟩ := hf
                refine cX_copy hC hk6 hk8 wm_538 h21 h22 h23 h24 h25 (Nat.le_of_ble_eq_true rfl) (Nat.le_of_ble_eq_true rfl) dX7_copy_118 (pc' := 121) rfl ?_
                refine j_nms (wf := wX q ca) (fun σ26 eσ26 => ?_)
                replace hf := hf σ26 eσ26
                refine j_iconst hC (v := 1) dX7_copy_121 (pc' := 122) rfl (by decide) ?_
                exact j_iret hC dX7_copy_122 hf
              · replace hf := hf.2 c_
                refine j_aload_n hC 2 dX7_copy_97 (pc' := 98) rfl rfl ?_
                refine j_iconst hC (v := 2) dX7_copy_98 (pc' := 99) rfl (by decide) ?_
                refine jcV_i hC (eX hE) (As := [.int (2 : Int32)]) (obX_X7) (rfl) (lk_X7_finding hE (2 : Int32) σ20 _ hf) wm_472 wm_473 wm_897 wm_1 wm_474 dy_X7_finding ⟨rfl, rfl⟩ ⟨Nat.le_of_ble_eq_true rfl, Nat.le_of_ble_eq_true rfl⟩ ⟨Nat.le_refl _, Nat.le_refl _⟩ rfl rfl (Nat.le_of_ble_eq_true rfl) dX7_copy_99 (pc' := 102) rfl (fun r27 σ28 hf => ?_)
                exact j_iret hC dX7_copy_102 hf
          · replace hf := hf.2 c_
            refine j_aload_n hC 2 dX7_copy_68 (pc' := 69) rfl rfl ?_
            refine j_iconst hC (v := 4) dX7_copy_69 (pc' := 70) rfl (by decide) ?_
            refine jcV_i hC (eX hE) (As := [.int (4 : Int32)]) (obX_X7) (rfl) (lk_X7_finding hE (4 : Int32) σ14 _ hf) wm_472 wm_473 wm_897 wm_1 wm_474 dy_X7_finding ⟨rfl, rfl⟩ ⟨Nat.le_of_ble_eq_true rfl, Nat.le_of_ble_eq_true rfl⟩ ⟨Nat.le_refl _, Nat.le_refl _⟩ rfl rfl (Nat.le_of_ble_eq_true rfl) dX7_copy_70 (pc' := 73) rfl (fun r29 σ30 hf => ?_)
            exact j_iret hC dX7_copy_73 hf
        · replace hf := hf.2 c_
          refine j_aload_n hC 2 dX7_copy_49 (pc' := 50) rfl rfl ?_
          refine j_iconst hC (v := 1) dX7_copy_50 (pc' := 51) rfl (by decide) ?_
          refine jcV_i hC (eX hE) (As := [.int (1 : Int32)]) (obX_X7) (rfl) (lk_X7_finding hE (1 : Int32) σ14 _ hf) wm_472 wm_473 wm_897 wm_1 wm_474 dy_X7_finding ⟨rfl, rfl⟩ ⟨Nat.le_of_ble_eq_true rfl, Nat.le_of_ble_eq_true rfl⟩ ⟨Nat.le_refl _, Nat.le_refl _⟩ rfl rfl (Nat.le_of_ble_eq_true rfl) dX7_copy_51 (pc' := 54) rfl (fun r31 σ32 hf => ?_)
          exact j_iret hC dX7_copy_54 hf
    · replace hf := hf.2 c_
      refine j_bipush hC (v := -2) dX7_copy_14 (pc' := 16) rfl (by decide) ?_
      exact j_iret hC dX7_copy_16 hf
def f_X7_countLeftOut_b4 (Q : Int32 → St → Prop) : Nat → Int32 → Int32 → St → Prop
  | 0, _, _, _ => False
  | n + 1, a1, a2, σ => ((σ.1 3 0) ≤ a2 → Q a1 σ) ∧ ((¬ (σ.1 3 0) ≤ a2) → vp_in a2 20 ∧ ((σ.1 4 (Int32.toNatClampNeg a2)) = 0 → ∀ x2 : Int32, x2 = a2 + (1 : Int32) → f_X7_countLeftOut_b4 Q  n a1 x2 σ) ∧ ((¬ (σ.1 4 (Int32.toNatClampNeg a2)) = 0) → ∀ x3 : Int32, x3 = a1 + (1 : Int32) → ∀ x4 : Int32, x4 = a2 + (1 : Int32) → f_X7_countLeftOut_b4 Q  n x3 x4 σ))
def f_X7_countLeftOut (σ : St) (Q : Int32 → St → Prop) : Prop := ∃ n5 : Nat, f_X7_countLeftOut_b4 Q n5 (0 : Int32) (0 : Int32) σ
theorem dy_X7_countLeftOut : yX7_countLeftOut.cls = yX7_countLeftOut.cls ∧ yX7_countLeftOut.cls ≠ "java/lang/invoke/MethodHandle" ∧ yX7_countLeftOut.cls ≠ "java/lang/invoke/VarHandle" ∧ (parseMethodDescriptor yX7_countLeftOut.desc).map (fun d => d.parameters.length) = some 0 := by decide +kernel
set_option maxHeartbeats 4000000 in
set_option maxRecDepth 100000 in
theorem lb_X7_countLeftOut_b4 {l : Launch} {D : va_G} {q : Nat → Nat} {ca : Nat → ClassId} {t : Nat} {p : Program} {e : Env} {s : State} {m : MethodId} {args : Array Value} {below : List Frame} {meth : Method} {c : Code} (hE : qok 28 q) (hC : Cx p s m args meth c cX7_countLeftOut 3 RX7 (some .int) D (tysX ca) (ZX q t)) (Q : Int32 → St → Prop) : ∀ (n : Nat) (a1 : Int32) (a2 : Int32) (σ : St), f_X7_countLeftOut_b4 Q n a1 a2 σ → J p l e { frames := 0, cells := 0, slots := 0, locals := 0 } s m args below meth c (MQ below (va_Qi Q (BW D (wX q ca)) (AX q)) args s 0 0 (AX q)) D (AX q) 3 0 0 (wX q ca σ) 4 [(0, .ref (q 0)), (1, .int a1), (2, .int a2)] [] := by
  intro n
  induction n with
  | zero => intro a1 a2 σ hf; exact hf.elim
  | succ n ih =>
    intro a1 a2 σ hf
    unfold f_X7_countLeftOut_b4 at hf
    refine j_iload_n hC 2 dX7_countLeftOut_4 (pc' := 5) rfl rfl ?_
    refine j_aload_n hC 0 dX7_countLeftOut_5 (pc' := 6) rfl rfl ?_
    refine gX_arm hC wm_143 dX7_countLeftOut_6 (pc' := 9) rfl ?_
    refine gX_postures hC wm_35 dX7_countLeftOut_9 (pc' := 12) rfl ?_
    refine j_icmp_ge hC (tgt := 33) dX7_countLeftOut_12 (pc' := 15) rfl (by decide) (fun c_ => ?_) (fun c_ => ?_)
    · replace hf := hf.1 c_
      refine j_iload_n hC 1 dX7_countLeftOut_33 (pc' := 34) rfl rfl ?_
      exact j_iret hC dX7_countLeftOut_34 hf
    · replace hf := hf.2 c_
      refine j_aload_n hC 0 dX7_countLeftOut_15 (pc' := 16) rfl rfl ?_
      refine gX_leftOut hC wm_144 dX7_countLeftOut_16 (pc' := 19) rfl ?_
      refine j_iload_n hC 2 dX7_countLeftOut_19 (pc' := 20) rfl rfl ?_
      obtain ⟨h1, hf⟩ := hf
      refine lX_leftOut hC (j := (Int32.toNatClampNeg a2)) h1 rfl dX7_countLeftOut_20 (pc' := 21) rfl ?_
      refine j_if_eq hC (tgt := 27) dX7_countLeftOut_21 (pc' := 24) rfl (by decide) (fun c_ => ?_) (fun c_ => ?_)
      · replace hf := hf.1 c_
        obtain ⟨x2, ex2⟩ : ∃ y : Int32, y = a2 + (1 : Int32) := ⟨_, rfl⟩
        replace hf := hf x2 ex2
        refine j_iinc hC (v := x2) (q := 2) (lv' := [(2, .int x2), (0, .ref (q 0)), (1, .int a1)]) dX7_countLeftOut_27 (pc' := 30) rfl rfl (by rw [ex2]; rfl) (by decide) rfl ?_
        refine j_goto hC (tgt := 4) dX7_countLeftOut_30 (by decide) ?_
        refine j_lv [1, 2, 0] rfl ?_
        exact ih a1 x2 σ hf
      · replace hf := hf.2 c_
        obtain ⟨x3, ex3⟩ : ∃ y : Int32, y = a1 + (1 : Int32) := ⟨_, rfl⟩
        replace hf := hf x3 ex3
        refine j_iinc hC (v := x3) (q := 1) (lv' := [(1, .int x3), (0, .ref (q 0)), (2, .int a2)]) dX7_countLeftOut_24 (pc' := 27) rfl rfl (by rw [ex3]; rfl) (by decide) rfl ?_
        obtain ⟨x4, ex4⟩ : ∃ y : Int32, y = a2 + (1 : Int32) := ⟨_, rfl⟩
        replace hf := hf x4 ex4
        refine j_iinc hC (v := x4) (q := 2) (lv' := [(2, .int x4), (1, .int x3), (0, .ref (q 0))]) dX7_countLeftOut_27 (pc' := 30) rfl rfl (by rw [ex4]; rfl) (by decide) rfl ?_
        refine j_goto hC (tgt := 4) dX7_countLeftOut_30 (by decide) ?_
        refine j_lv [2, 1, 0] rfl ?_
        exact ih x3 x4 σ hf
set_option maxHeartbeats 4000000 in
set_option maxRecDepth 100000 in
theorem lk_X7_countLeftOut {l : Launch} {D : va_G} {q : Nat → Nat} {ca : Nat → ClassId} {t : Nat} (hE : qok 28 q) (σ : St) (Q : Int32 → St → Prop) (hf : f_X7_countLeftOut σ Q) : Mi l yX7_countLeftOut cX7_countLeftOut 3 (some .int) { frames := 0, cells := 0, slots := 0, locals := 0 } D (tysX ca) (ZX q t) (wX q ca) (AX q) [.ref (q 0)] σ Q := by
  refine j_start (own := RX7) (lv := [(0, .ref (q 0))]) [.ref (q 0)] (by decide +kernel) rfl (wX_D hE σ) (Nat.le_of_ble_eq_true rfl) rfl (fun p e s m args below meth c hC => ?_)
  unfold f_X7_countLeftOut at hf
  refine j_iconst hC (v := 0) dX7_countLeftOut_0 (pc' := 1) rfl (by decide) ?_
  refine j_istore_n hC (lv' := [(1, .int (0 : Int32)), (0, .ref (q 0))]) dX7_countLeftOut_1 (pc' := 2) rfl rfl (by decide) rfl ?_
  refine j_iconst hC (v := 0) dX7_countLeftOut_2 (pc' := 3) rfl (by decide) ?_
  refine j_istore_n hC (lv' := [(2, .int (0 : Int32)), (1, .int (0 : Int32)), (0, .ref (q 0))]) dX7_countLeftOut_3 (pc' := 4) rfl rfl (by decide) rfl ?_
  obtain ⟨n5, hf⟩ := hf
  refine j_lv [2, 1, 0] rfl ?_
  exact lb_X7_countLeftOut_b4 hE hC Q n5 (0 : Int32) (0 : Int32) σ hf
def f_X7_countLost_b4 (Q : Int32 → St → Prop) : Nat → Int32 → Int32 → St → Prop
  | 0, _, _, _ => False
  | n + 1, a1, a2, σ => ((4 : Int32) ≤ a2 → Q a1 σ) ∧ ((¬ (4 : Int32) ≤ a2) → vp_in a2 4 ∧ ∀ k2 : Nat, k2 = (Int32.toNatClampNeg a2) → f_X4_isLost k2 σ (fun r3 σ4 => (r3 = 0 → ∀ x5 : Int32, x5 = a2 + (1 : Int32) → f_X7_countLost_b4 Q  n a1 x5 σ4) ∧ ((¬ r3 = 0) → ∀ x6 : Int32, x6 = a1 + (1 : Int32) → ∀ x7 : Int32, x7 = a2 + (1 : Int32) → f_X7_countLost_b4 Q  n x6 x7 σ4)))
def f_X7_countLost (σ : St) (Q : Int32 → St → Prop) : Prop := ∃ n8 : Nat, f_X7_countLost_b4 Q n8 (0 : Int32) (0 : Int32) σ
theorem dy_X7_countLost : yX7_countLost.cls = yX7_countLost.cls ∧ yX7_countLost.cls ≠ "java/lang/invoke/MethodHandle" ∧ yX7_countLost.cls ≠ "java/lang/invoke/VarHandle" ∧ (parseMethodDescriptor yX7_countLost.desc).map (fun d => d.parameters.length) = some 0 := by decide +kernel
set_option maxHeartbeats 4000000 in
set_option maxRecDepth 100000 in
theorem lb_X7_countLost_b4 {l : Launch} {D : va_G} {q : Nat → Nat} {ca : Nat → ClassId} {t : Nat} {p : Program} {e : Env} {s : State} {m : MethodId} {args : Array Value} {below : List Frame} {meth : Method} {c : Code} (hE : qok 28 q) (hC : Cx p s m args meth c cX7_countLost 3 RX7 (some .int) D (tysX ca) (ZX q t)) (Q : Int32 → St → Prop) : ∀ (n : Nat) (a1 : Int32) (a2 : Int32) (σ : St), f_X7_countLost_b4 Q n a1 a2 σ → J p l e { frames := 1, cells := 0, slots := 0, locals := 20 } s m args below meth c (MQ below (va_Qi Q (BW D (wX q ca)) (AX q)) args s 0 0 (AX q)) D (AX q) 3 0 0 (wX q ca σ) 4 [(0, .ref (q 0)), (1, .int a1), (2, .int a2)] [] := by
  intro n
  induction n with
  | zero => intro a1 a2 σ hf; exact hf.elim
  | succ n ih =>
    intro a1 a2 σ hf
    unfold f_X7_countLost_b4 at hf
    refine j_iload_n hC 2 dX7_countLost_4 (pc' := 5) rfl rfl ?_
    refine j_iconst hC (v := 4) dX7_countLost_5 (pc' := 6) rfl (by decide) ?_
    refine j_icmp_ge hC (tgt := 30) dX7_countLost_6 (pc' := 9) rfl (by decide) (fun c_ => ?_) (fun c_ => ?_)
    · replace hf := hf.1 c_
      refine j_iload_n hC 1 dX7_countLost_30 (pc' := 31) rfl rfl ?_
      exact j_iret hC dX7_countLost_31 hf
    · replace hf := hf.2 c_
      refine j_aload_n hC 0 dX7_countLost_9 (pc' := 10) rfl rfl ?_
      refine gX_sheets hC wm_150 dX7_countLost_10 (pc' := 13) rfl ?_
      refine j_iload_n hC 2 dX7_countLost_13 (pc' := 14) rfl rfl ?_
      obtain ⟨h1, hf⟩ := hf
      refine lX_sheets hC (j := (Int32.toNatClampNeg a2)) h1 rfl dX7_countLost_14 (pc' := 15) rfl ?_
      obtain ⟨k2, ek2⟩ : ∃ z : Nat, z = (Int32.toNatClampNeg a2) := ⟨_, rfl⟩
      replace hf := hf k2 ek2
      rw [← ek2]
      have hk2 : k2 < 4 := by rw [ek2]; exact Nat.not_le.mp (fun z => h1 (Or.inr z))
      refine jcV_i hC (eX hE) (As := []) (obX_X4 hk2) (rfl) (lk_X4_isLost hE k2 hk2  σ _ hf) wm_468 wm_469 wm_470 wm_7 wm_471 dy_X4_isLost ⟨rfl, rfl⟩ ⟨Nat.le_of_ble_eq_true rfl, Nat.le_of_ble_eq_true rfl⟩ ⟨Nat.le_refl _, Nat.le_refl _⟩ rfl rfl (Nat.le_of_ble_eq_true rfl) dX7_countLost_15 (pc' := 18) rfl (fun r3 σ4 hf => ?_)
      refine j_if_eq hC (tgt := 24) dX7_countLost_18 (pc' := 21) rfl (by decide) (fun c_ => ?_) (fun c_ => ?_)
      · replace hf := hf.1 c_
        obtain ⟨x5, ex5⟩ : ∃ y : Int32, y = a2 + (1 : Int32) := ⟨_, rfl⟩
        replace hf := hf x5 ex5
        refine j_iinc hC (v := x5) (q := 2) (lv' := [(2, .int x5), (0, .ref (q 0)), (1, .int a1)]) dX7_countLost_24 (pc' := 27) rfl rfl (by rw [ex5]; rfl) (by decide) rfl ?_
        refine j_goto hC (tgt := 4) dX7_countLost_27 (by decide) ?_
        refine j_lv [1, 2, 0] rfl ?_
        exact ih a1 x5 σ4 hf
      · replace hf := hf.2 c_
        obtain ⟨x6, ex6⟩ : ∃ y : Int32, y = a1 + (1 : Int32) := ⟨_, rfl⟩
        replace hf := hf x6 ex6
        refine j_iinc hC (v := x6) (q := 1) (lv' := [(1, .int x6), (0, .ref (q 0)), (2, .int a2)]) dX7_countLost_21 (pc' := 24) rfl rfl (by rw [ex6]; rfl) (by decide) rfl ?_
        obtain ⟨x7, ex7⟩ : ∃ y : Int32, y = a2 + (1 : Int32) := ⟨_, rfl⟩
        replace hf := hf x7 ex7
        refine j_iinc hC (v := x7) (q := 2) (lv' := [(2, .int x7), (1, .int x6), (0, .ref (q 0))]) dX7_countLost_24 (pc' := 27) rfl rfl (by rw [ex7]; rfl) (by decide) rfl ?_
        refine j_goto hC (tgt := 4) dX7_countLost_27 (by decide) ?_
        refine j_lv [2, 1, 0] rfl ?_
        exact ih x6 x7 σ4 hf
set_option maxHeartbeats 4000000 in
set_option maxRecDepth 100000 in
theorem lk_X7_countLost {l : Launch} {D : va_G} {q : Nat → Nat} {ca : Nat → ClassId} {t : Nat} (hE : qok 28 q) (σ : St) (Q : Int32 → St → Prop) (hf : f_X7_countLost σ Q) : Mi l yX7_countLost cX7_countLost 3 (some .int) { frames := 1, cells := 0, slots := 0, locals := 20 } D (tysX ca) (ZX q t) (wX q ca) (AX q) [.ref (q 0)] σ Q := by
  refine j_start (own := RX7) (lv := [(0, .ref (q 0))]) [.ref (q 0)] (by decide +kernel) rfl (wX_D hE σ) (Nat.le_of_ble_eq_true rfl) rfl (fun p e s m args below meth c hC => ?_)
  unfold f_X7_countLost at hf
  refine j_iconst hC (v := 0) dX7_countLost_0 (pc' := 1) rfl (by decide) ?_
  refine j_istore_n hC (lv' := [(1, .int (0 : Int32)), (0, .ref (q 0))]) dX7_countLost_1 (pc' := 2) rfl rfl (by decide) rfl ?_
  refine j_iconst hC (v := 0) dX7_countLost_2 (pc' := 3) rfl (by decide) ?_
  refine j_istore_n hC (lv' := [(2, .int (0 : Int32)), (1, .int (0 : Int32)), (0, .ref (q 0))]) dX7_countLost_3 (pc' := 4) rfl rfl (by decide) rfl ?_
  obtain ⟨n8, hf⟩ := hf
  refine j_lv [2, 1, 0] rfl ?_
  exact lb_X7_countLost_b4 hE hC Q n8 (0 : Int32) (0 : Int32) σ hf
def f_X7_count (a1 : Int32) (σ : St) (Q : Int32 → St → Prop) : Prop := (a1 = 0 → Q (σ.1 3 0) σ) ∧ (a1 = 1 → f_X7_countLeftOut σ (fun r1 σ2 => Q r1 σ2)) ∧ (a1 = 2 → Q (σ.1 10 0) σ) ∧ (a1 = 3 → f_X7_countLost σ (fun r3 σ4 => Q ((4 : Int32) - r3) σ4)) ∧ (a1 = 4 → f_X7_countLost σ (fun r5 σ6 => Q r5 σ6)) ∧ (a1 = 5 → Q (σ.1 16 0) σ) ∧ ((¬ (a1 = 0 ∨ a1 = 1 ∨ a1 = 2 ∨ a1 = 3 ∨ a1 = 4 ∨ a1 = 5)) → Q (-2 : Int32) σ)
theorem dy_X7_count : yX7_count.cls = yX7_count.cls ∧ yX7_count.cls ≠ "java/lang/invoke/MethodHandle" ∧ yX7_count.cls ≠ "java/lang/invoke/VarHandle" ∧ (parseMethodDescriptor yX7_count.desc).map (fun d => d.parameters.length) = some 1 := by decide +kernel
set_option maxHeartbeats 4000000 in
set_option maxRecDepth 100000 in
theorem lk_X7_count {l : Launch} {D : va_G} {q : Nat → Nat} {ca : Nat → ClassId} {t : Nat} (hE : qok 28 q) (a1 : Int32) (σ : St) (Q : Int32 → St → Prop) (hf : f_X7_count a1 σ Q) : Mi l yX7_count cX7_count 2 (some .int) { frames := 2, cells := 0, slots := 0, locals := 42 } D (tysX ca) (ZX q t) (wX q ca) (AX q) [.ref (q 0), .int a1] σ Q := by
  refine j_start (own := RX7) (lv := [(0, .ref (q 0)), (1, .int a1)]) [.ref (q 0), .int a1] (by decide +kernel) rfl (wX_D hE σ) (Nat.le_of_ble_eq_true rfl) rfl (fun p e s m args below meth c hC => ?_)
  unfold f_X7_count at hf
  refine j_iload_n hC 1 dX7_count_0 (pc' := 1) rfl rfl ?_
  by_cases c_0 : a1 = 0
  · refine j_tableAt hC (tgt := 40) c_0 dX7_count_1 (by decide) rfl (by decide) ?_
    replace hf := hf.1 c_0
    refine j_aload_n hC 0 dX7_count_40 (pc' := 41) rfl rfl ?_
    refine gX_arm hC wm_143 dX7_count_41 (pc' := 44) rfl ?_
    refine gX_postures hC wm_35 dX7_count_44 (pc' := 47) rfl ?_
    exact j_iret hC dX7_count_47 hf
  by_cases c_1 : a1 = 1
  · refine j_tableAt hC (tgt := 48) c_1 dX7_count_1 (by decide) rfl (by decide) ?_
    replace hf := hf.2.1 c_1
    refine j_aload_n hC 0 dX7_count_48 (pc' := 49) rfl rfl ?_
    refine jcV_i hC (eX hE) (As := []) (obX_X7) (rfl) (lk_X7_countLeftOut hE  σ _ hf) wm_545 wm_546 wm_899 wm_1 wm_547 dy_X7_countLeftOut ⟨rfl, rfl⟩ ⟨Nat.le_of_ble_eq_true rfl, Nat.le_of_ble_eq_true rfl⟩ ⟨Nat.le_refl _, Nat.le_refl _⟩ rfl rfl (Nat.le_of_ble_eq_true rfl) dX7_count_49 (pc' := 52) rfl (fun r1 σ2 hf => ?_)
    exact j_iret hC dX7_count_52 hf
  by_cases c_2 : a1 = 2
  · refine j_tableAt hC (tgt := 53) c_2 dX7_count_1 (by decide) rfl (by decide) ?_
    replace hf := hf.2.2.1 c_2
    refine j_aload_n hC 0 dX7_count_53 (pc' := 54) rfl rfl ?_
    refine gX_camera hC wm_147 dX7_count_54 (pc' := 57) rfl ?_
    refine gX_pairs hC wm_76 dX7_count_57 (pc' := 60) rfl ?_
    exact j_iret hC dX7_count_60 hf
  by_cases c_3 : a1 = 3
  · refine j_tableAt hC (tgt := 61) c_3 dX7_count_1 (by decide) rfl (by decide) ?_
    replace hf := hf.2.2.2.1 c_3
    refine j_iconst hC (v := 4) dX7_count_61 (pc' := 62) rfl (by decide) ?_
    refine j_aload_n hC 0 dX7_count_62 (pc' := 63) rfl rfl ?_
    refine jcV_i hC (eX hE) (As := []) (obX_X7) (rfl) (lk_X7_countLost hE  σ _ hf) wm_548 wm_549 wm_900 wm_1 wm_550 dy_X7_countLost ⟨rfl, rfl⟩ ⟨Nat.le_of_ble_eq_true rfl, Nat.le_of_ble_eq_true rfl⟩ ⟨Nat.le_refl _, Nat.le_refl _⟩ rfl rfl (Nat.le_of_ble_eq_true rfl) dX7_count_63 (pc' := 66) rfl (fun r3 σ4 hf => ?_)
    refine j_isub hC dX7_count_66 (pc' := 67) rfl ?_
    exact j_iret hC dX7_count_67 hf
  by_cases c_4 : a1 = 4
  · refine j_tableAt hC (tgt := 68) c_4 dX7_count_1 (by decide) rfl (by decide) ?_
    replace hf := hf.2.2.2.2.1 c_4
    refine j_aload_n hC 0 dX7_count_68 (pc' := 69) rfl rfl ?_
    refine jcV_i hC (eX hE) (As := []) (obX_X7) (rfl) (lk_X7_countLost hE  σ _ hf) wm_548 wm_549 wm_900 wm_1 wm_550 dy_X7_countLost ⟨rfl, rfl⟩ ⟨Nat.le_of_ble_eq_true rfl, Nat.le_of_ble_eq_true rfl⟩ ⟨Nat.le_refl _, Nat.le_refl _⟩ rfl rfl (Nat.le_of_ble_eq_true rfl) dX7_count_69 (pc' := 72) rfl (fun r5 σ6 hf => ?_)
    exact j_iret hC dX7_count_72 hf
  by_cases c_5 : a1 = 5
  · refine j_tableAt hC (tgt := 73) c_5 dX7_count_1 (by decide) rfl (by decide) ?_
    replace hf := hf.2.2.2.2.2.1 c_5
    refine j_aload_n hC 0 dX7_count_73 (pc' := 74) rfl rfl ?_
    refine gX_latestFinding hC wm_151 dX7_count_74 (pc' := 77) rfl ?_
    exact j_iret hC dX7_count_77 hf
  refine j_tableOut hC (tgt := 78) dX7_count_1 (tb_out5 c_0 c_1 c_2 c_3 c_4 c_5) (by decide) ?_
  replace hf := hf.2.2.2.2.2.2 (by rintro (z | z | z | z | z | z) <;> contradiction)
  refine j_bipush hC (v := -2) dX7_count_78 (pc' := 80) rfl (by decide) ?_
  exact j_iret hC dX7_count_80 hf
def f_X7_digest_b119 (Q : Int64 → St → Prop) : Nat → Int64 → Int32 → St → Prop
  | 0, _, _, _ => False
  | n + 1, a1, a3, σ => ((9 : Int32) ≤ a3 → f_X6_rankOfAll σ (fun r3 σ4 => ∀ x5 : Int64, x5 = ((31 : Int64) * a1) + (Int32.toInt64 r3) → f_X1_headingsThatAnswer σ4 (fun r6 σ7 => Q (((31 : Int64) * x5) + (Int32.toInt64 r6)) σ7))) ∧ ((¬ (9 : Int32) ≤ a3) → vp_in a3 9 ∧ ∀ x9 : Int64, x9 = ((31 : Int64) * a1) + (σ.2 0 (Int32.toNatClampNeg a3)) → ∀ x10 : Int32, x10 = a3 + (1 : Int32) → f_X7_digest_b119 Q  n x9 x10 σ)
def f_X7_digest_b62 (Q : Int64 → St → Prop) : Nat → Int64 → Int32 → St → Prop
  | 0, _, _, _ => False
  | n + 1, a1, a3, σ => ((σ.1 3 0) ≤ a3 → f_X7_sumUsed σ (fun σ2 => ∃ n11 : Nat, f_X7_digest_b119 Q n11 a1 (0 : Int32) σ2)) ∧ ((¬ (σ.1 3 0) ≤ a3) → f_X0_reached a3 (0 : Int32) σ (fun r12 σ13 => ∀ x14 : Int64, x14 = ((31 : Int64) * a1) + (Int32.toInt64 r12) → f_X0_reached a3 (1 : Int32) σ13 (fun r15 σ16 => ∀ x17 : Int64, x17 = ((31 : Int64) * x14) + (Int32.toInt64 r15) → ∀ x18 : Int32, x18 = a3 + (1 : Int32) → f_X7_digest_b62 Q  n x17 x18 σ16)))
def f_X7_digest_b32 (Q : Int64 → St → Prop) : Nat → Int64 → Int32 → St → Prop
  | 0, _, _, _ => False
  | n + 1, a1, a3, σ => ((3 : Int32) ≤ a3 → ∃ n19 : Nat, f_X7_digest_b62 Q n19 a1 (0 : Int32) σ) ∧ ((¬ (3 : Int32) ≤ a3) → vp_in a3 3 ∧ ∀ x21 : Int64, x21 = ((31 : Int64) * a1) + (Int32.toInt64 (σ.1 0 (Int32.toNatClampNeg a3))) → ∀ x22 : Int32, x22 = a3 + (1 : Int32) → f_X7_digest_b32 Q  n x21 x22 σ)
def f_X7_digest_b6 (Q : Int64 → St → Prop) : Nat → Int64 → Int32 → St → Prop
  | 0, _, _, _ => False
  | n + 1, a1, a3, σ => ((4 : Int32) < a3 → ∃ n23 : Nat, f_X7_digest_b32 Q n23 a1 (0 : Int32) σ) ∧ ((¬ (4 : Int32) < a3) → f_X7_count a3 σ (fun r24 σ25 => ∀ x26 : Int64, x26 = ((31 : Int64) * a1) + (Int32.toInt64 r24) → ∀ x27 : Int32, x27 = a3 + (1 : Int32) → f_X7_digest_b6 Q  n x26 x27 σ25))
def f_X7_digest (σ : St) (Q : Int64 → St → Prop) : Prop := ∃ n28 : Nat, f_X7_digest_b6 Q n28 (17 : Int64) (0 : Int32) σ
theorem dy_X7_digest : yX7_digest.cls = yX7_digest.cls ∧ yX7_digest.cls ≠ "java/lang/invoke/MethodHandle" ∧ yX7_digest.cls ≠ "java/lang/invoke/VarHandle" ∧ (parseMethodDescriptor yX7_digest.desc).map (fun d => d.parameters.length) = some 0 := by decide +kernel
set_option maxHeartbeats 4000000 in
set_option maxRecDepth 100000 in
theorem lb_X7_digest_b119 {l : Launch} {D : va_G} {q : Nat → Nat} {ca : Nat → ClassId} {t : Nat} {p : Program} {e : Env} {s : State} {m : MethodId} {args : Array Value} {below : List Frame} {meth : Method} {c : Code} (hE : qok 28 q) (hC : Cx p s m args meth c cX7_digest 4 RX7 (some .long) D (tysX ca) (ZX q t)) (Q : Int64 → St → Prop) : ∀ (n : Nat) (a1 : Int64) (a3 : Int32) (σ : St), f_X7_digest_b119 Q n a1 a3 σ → J p l e { frames := 5, cells := 0, slots := 0, locals := 108 } s m args below meth c (MQ below (va_Ql Q (BW D (wX q ca)) (AX q)) args s 0 0 (AX q)) D (AX q) 4 0 0 (wX q ca σ) 119 [(0, .ref (q 0)), (1, .long a1), (3, .int a3)] [] := by
  intro n
  induction n with
  | zero => intro a1 a3 σ hf; exact hf.elim
  | succ n ih =>
    intro a1 a3 σ hf
    unfold f_X7_digest_b119 at hf
    refine j_iload_n hC 2 dX7_digest_119 (pc' := 120) rfl rfl ?_
    refine j_bipush hC (v := 9) dX7_digest_120 (pc' := 122) rfl (by decide) ?_
    refine j_icmp_ge hC (tgt := 147) dX7_digest_122 (pc' := 125) rfl (by decide) (fun c_ => ?_) (fun c_ => ?_)
    · replace hf := hf.1 c_
      refine j_ldc2 hC (v := 31) dX7_digest_147 (pc' := 150) rfl wm_556 ?_
      refine j_lload_n hC 1 dX7_digest_150 (pc' := 151) rfl rfl ?_
      refine j_lmul hC dX7_digest_151 (pc' := 152) rfl ?_
      refine j_aload_n hC 0 dX7_digest_152 (pc' := 153) rfl rfl ?_
      refine gX_sums hC wm_146 dX7_digest_153 (pc' := 156) rfl ?_
      refine jcV_i hC (eX hE) (As := []) (obX_X6) (rfl) (lk_X6_rankOfAll hE  σ _ hf) wm_266 wm_267 wm_268 wm_3 wm_269 dy_X6_rankOfAll ⟨rfl, rfl⟩ ⟨Nat.le_of_ble_eq_true rfl, Nat.le_of_ble_eq_true rfl⟩ ⟨Nat.le_refl _, Nat.le_refl _⟩ rfl rfl (Nat.le_of_ble_eq_true rfl) dX7_digest_156 (pc' := 159) rfl (fun r3 σ4 hf => ?_)
      refine j_i2l hC dX7_digest_159 (pc' := 160) rfl ?_
      refine j_ladd hC dX7_digest_160 (pc' := 161) rfl ?_
      refine j_nml (fun x5 ex5 => ?_)
      replace hf := hf x5 ex5
      refine j_lstore_n hC (lv' := [(1, .long x5), (0, .ref (q 0)), (3, .int a3)]) dX7_digest_161 (pc' := 162) rfl rfl (by decide) rfl ?_
      refine j_ldc2 hC (v := 31) dX7_digest_162 (pc' := 165) rfl wm_556 ?_
      refine j_lload_n hC 0 dX7_digest_165 (pc' := 166) rfl rfl ?_
      refine j_lmul hC dX7_digest_166 (pc' := 167) rfl ?_
      refine j_aload_n hC 1 dX7_digest_167 (pc' := 168) rfl rfl ?_
      refine gX_camera hC wm_147 dX7_digest_168 (pc' := 171) rfl ?_
      refine jcV_i hC (eX hE) (As := []) (obX_X1) (rfl) (lk_X1_headingsThatAnswer hE  σ4 _ hf) wm_397 wm_398 wm_399 wm_4 wm_400 dy_X1_headingsThatAnswer ⟨rfl, rfl⟩ ⟨Nat.le_of_ble_eq_true rfl, Nat.le_of_ble_eq_true rfl⟩ ⟨Nat.le_refl _, Nat.le_refl _⟩ rfl rfl (Nat.le_of_ble_eq_true rfl) dX7_digest_171 (pc' := 174) rfl (fun r6 σ7 hf => ?_)
      refine j_i2l hC dX7_digest_174 (pc' := 175) rfl ?_
      refine j_ladd hC dX7_digest_175 (pc' := 176) rfl ?_
      exact j_lret hC dX7_digest_176 hf
    · replace hf := hf.2 c_
      refine j_ldc2 hC (v := 31) dX7_digest_125 (pc' := 128) rfl wm_556 ?_
      refine j_lload_n hC 1 dX7_digest_128 (pc' := 129) rfl rfl ?_
      refine j_lmul hC dX7_digest_129 (pc' := 130) rfl ?_
      refine j_aload_n hC 0 dX7_digest_130 (pc' := 131) rfl rfl ?_
      refine gX_sums hC wm_146 dX7_digest_131 (pc' := 134) rfl ?_
      refine gX_cells hC wm_53 dX7_digest_134 (pc' := 137) rfl ?_
      refine j_iload_n hC 2 dX7_digest_137 (pc' := 138) rfl rfl ?_
      obtain ⟨h8, hf⟩ := hf
      refine lX_cells hC (j := (Int32.toNatClampNeg a3)) h8 rfl dX7_digest_138 (pc' := 139) rfl ?_
      refine j_ladd hC dX7_digest_139 (pc' := 140) rfl ?_
      refine j_nml (fun x9 ex9 => ?_)
      replace hf := hf x9 ex9
      refine j_lstore_n hC (lv' := [(1, .long x9), (0, .ref (q 0)), (3, .int a3)]) dX7_digest_140 (pc' := 141) rfl rfl (by decide) rfl ?_
      obtain ⟨x10, ex10⟩ : ∃ y : Int32, y = a3 + (1 : Int32) := ⟨_, rfl⟩
      replace hf := hf x10 ex10
      refine j_iinc hC (v := x10) (q := 2) (lv' := [(3, .int x10), (1, .long x9), (0, .ref (q 0))]) dX7_digest_141 (pc' := 144) rfl rfl (by rw [ex10]; rfl) (by decide) rfl ?_
      refine j_goto hC (tgt := 119) dX7_digest_144 (by decide) ?_
      refine j_lv [2, 1, 0] rfl ?_
      exact ih x9 x10 σ hf
set_option maxHeartbeats 4000000 in
set_option maxRecDepth 100000 in
theorem lb_X7_digest_b62 {l : Launch} {D : va_G} {q : Nat → Nat} {ca : Nat → ClassId} {t : Nat} {p : Program} {e : Env} {s : State} {m : MethodId} {args : Array Value} {below : List Frame} {meth : Method} {c : Code} (hE : qok 28 q) (hC : Cx p s m args meth c cX7_digest 4 RX7 (some .long) D (tysX ca) (ZX q t)) (Q : Int64 → St → Prop) : ∀ (n : Nat) (a1 : Int64) (a3 : Int32) (σ : St), f_X7_digest_b62 Q n a1 a3 σ → J p l e { frames := 5, cells := 0, slots := 0, locals := 108 } s m args below meth c (MQ below (va_Ql Q (BW D (wX q ca)) (AX q)) args s 0 0 (AX q)) D (AX q) 4 0 0 (wX q ca σ) 62 [(0, .ref (q 0)), (1, .long a1), (3, .int a3)] [] := by
  intro n
  induction n with
  | zero => intro a1 a3 σ hf; exact hf.elim
  | succ n ih =>
    intro a1 a3 σ hf
    unfold f_X7_digest_b62 at hf
    refine j_iload_n hC 2 dX7_digest_62 (pc' := 63) rfl rfl ?_
    refine j_aload_n hC 0 dX7_digest_63 (pc' := 64) rfl rfl ?_
    refine gX_arm hC wm_143 dX7_digest_64 (pc' := 67) rfl ?_
    refine gX_postures hC wm_35 dX7_digest_67 (pc' := 70) rfl ?_
    refine j_icmp_ge hC (tgt := 113) dX7_digest_70 (pc' := 73) rfl (by decide) (fun c_ => ?_) (fun c_ => ?_)
    · replace hf := hf.1 c_
      refine j_aload_n hC 0 dX7_digest_113 (pc' := 114) rfl rfl ?_
      refine jcV_v hC (eX hE) (As := []) (obX_X7) (rfl) (lk_X7_sumUsed hE  σ _ hf) wm_229 wm_230 wm_884 wm_1 wm_231 dy_X7_sumUsed ⟨rfl, rfl⟩ ⟨Nat.le_of_ble_eq_true rfl, Nat.le_of_ble_eq_true rfl⟩ ⟨Nat.le_refl _, Nat.le_refl _⟩ rfl rfl (Nat.le_of_ble_eq_true rfl) dX7_digest_114 (pc' := 117) rfl (fun σ2 hf => ?_)
      refine j_iconst hC (v := 0) dX7_digest_117 (pc' := 118) rfl (by decide) ?_
      refine j_istore_n hC (lv' := [(3, .int (0 : Int32)), (0, .ref (q 0)), (1, .long a1)]) dX7_digest_118 (pc' := 119) rfl rfl (by decide) rfl ?_
      obtain ⟨n11, hf⟩ := hf
      refine j_lv [1, 2, 0] rfl ?_
      exact lb_X7_digest_b119 hE hC Q n11 a1 (0 : Int32) σ2 hf
    · replace hf := hf.2 c_
      refine j_ldc2 hC (v := 31) dX7_digest_73 (pc' := 76) rfl wm_556 ?_
      refine j_lload_n hC 1 dX7_digest_76 (pc' := 77) rfl rfl ?_
      refine j_lmul hC dX7_digest_77 (pc' := 78) rfl ?_
      refine j_aload_n hC 0 dX7_digest_78 (pc' := 79) rfl rfl ?_
      refine gX_arm hC wm_143 dX7_digest_79 (pc' := 82) rfl ?_
      refine j_iload_n hC 2 dX7_digest_82 (pc' := 83) rfl rfl ?_
      refine j_iconst hC (v := 0) dX7_digest_83 (pc' := 84) rfl (by decide) ?_
      refine jcV_i hC (eX hE) (As := [.int a3, .int (0 : Int32)]) (obX_X0) (rfl) (lk_X0_reached hE a3 (0 : Int32) σ _ hf) wm_220 wm_221 wm_222 wm_2 wm_223 dy_X0_reached ⟨rfl, rfl⟩ ⟨Nat.le_of_ble_eq_true rfl, Nat.le_of_ble_eq_true rfl⟩ ⟨Nat.le_refl _, Nat.le_refl _⟩ rfl rfl (Nat.le_of_ble_eq_true rfl) dX7_digest_84 (pc' := 87) rfl (fun r12 σ13 hf => ?_)
      refine j_i2l hC dX7_digest_87 (pc' := 88) rfl ?_
      refine j_ladd hC dX7_digest_88 (pc' := 89) rfl ?_
      refine j_nml (fun x14 ex14 => ?_)
      replace hf := hf x14 ex14
      refine j_lstore_n hC (lv' := [(1, .long x14), (0, .ref (q 0)), (3, .int a3)]) dX7_digest_89 (pc' := 90) rfl rfl (by decide) rfl ?_
      refine j_ldc2 hC (v := 31) dX7_digest_90 (pc' := 93) rfl wm_556 ?_
      refine j_lload_n hC 0 dX7_digest_93 (pc' := 94) rfl rfl ?_
      refine j_lmul hC dX7_digest_94 (pc' := 95) rfl ?_
      refine j_aload_n hC 1 dX7_digest_95 (pc' := 96) rfl rfl ?_
      refine gX_arm hC wm_143 dX7_digest_96 (pc' := 99) rfl ?_
      refine j_iload_n hC 2 dX7_digest_99 (pc' := 100) rfl rfl ?_
      refine j_iconst hC (v := 1) dX7_digest_100 (pc' := 101) rfl (by decide) ?_
      refine jcV_i hC (eX hE) (As := [.int a3, .int (1 : Int32)]) (obX_X0) (rfl) (lk_X0_reached hE a3 (1 : Int32) σ13 _ hf) wm_220 wm_221 wm_222 wm_2 wm_223 dy_X0_reached ⟨rfl, rfl⟩ ⟨Nat.le_of_ble_eq_true rfl, Nat.le_of_ble_eq_true rfl⟩ ⟨Nat.le_refl _, Nat.le_refl _⟩ rfl rfl (Nat.le_of_ble_eq_true rfl) dX7_digest_101 (pc' := 104) rfl (fun r15 σ16 hf => ?_)
      refine j_i2l hC dX7_digest_104 (pc' := 105) rfl ?_
      refine j_ladd hC dX7_digest_105 (pc' := 106) rfl ?_
      refine j_nml (fun x17 ex17 => ?_)
      replace hf := hf x17 ex17
      refine j_lstore_n hC (lv' := [(1, .long x17), (0, .ref (q 0)), (3, .int a3)]) dX7_digest_106 (pc' := 107) rfl rfl (by decide) rfl ?_
      obtain ⟨x18, ex18⟩ : ∃ y : Int32, y = a3 + (1 : Int32) := ⟨_, rfl⟩
      replace hf := hf x18 ex18
      refine j_iinc hC (v := x18) (q := 2) (lv' := [(3, .int x18), (1, .long x17), (0, .ref (q 0))]) dX7_digest_107 (pc' := 110) rfl rfl (by rw [ex18]; rfl) (by decide) rfl ?_
      refine j_goto hC (tgt := 62) dX7_digest_110 (by decide) ?_
      refine j_lv [2, 1, 0] rfl ?_
      exact ih x17 x18 σ16 hf
set_option maxHeartbeats 4000000 in
set_option maxRecDepth 100000 in
theorem lb_X7_digest_b32 {l : Launch} {D : va_G} {q : Nat → Nat} {ca : Nat → ClassId} {t : Nat} {p : Program} {e : Env} {s : State} {m : MethodId} {args : Array Value} {below : List Frame} {meth : Method} {c : Code} (hE : qok 28 q) (hC : Cx p s m args meth c cX7_digest 4 RX7 (some .long) D (tysX ca) (ZX q t)) (Q : Int64 → St → Prop) : ∀ (n : Nat) (a1 : Int64) (a3 : Int32) (σ : St), f_X7_digest_b32 Q n a1 a3 σ → J p l e { frames := 5, cells := 0, slots := 0, locals := 108 } s m args below meth c (MQ below (va_Ql Q (BW D (wX q ca)) (AX q)) args s 0 0 (AX q)) D (AX q) 4 0 0 (wX q ca σ) 32 [(0, .ref (q 0)), (1, .long a1), (3, .int a3)] [] := by
  intro n
  induction n with
  | zero => intro a1 a3 σ hf; exact hf.elim
  | succ n ih =>
    intro a1 a3 σ hf
    unfold f_X7_digest_b32 at hf
    refine j_iload_n hC 2 dX7_digest_32 (pc' := 33) rfl rfl ?_
    refine j_iconst hC (v := 3) dX7_digest_33 (pc' := 34) rfl (by decide) ?_
    refine j_icmp_ge hC (tgt := 60) dX7_digest_34 (pc' := 37) rfl (by decide) (fun c_ => ?_) (fun c_ => ?_)
    · replace hf := hf.1 c_
      refine j_iconst hC (v := 0) dX7_digest_60 (pc' := 61) rfl (by decide) ?_
      refine j_istore_n hC (lv' := [(3, .int (0 : Int32)), (0, .ref (q 0)), (1, .long a1)]) dX7_digest_61 (pc' := 62) rfl rfl (by decide) rfl ?_
      obtain ⟨n19, hf⟩ := hf
      refine j_lv [1, 2, 0] rfl ?_
      exact lb_X7_digest_b62 hE hC Q n19 a1 (0 : Int32) σ hf
    · replace hf := hf.2 c_
      refine j_ldc2 hC (v := 31) dX7_digest_37 (pc' := 40) rfl wm_556 ?_
      refine j_lload_n hC 1 dX7_digest_40 (pc' := 41) rfl rfl ?_
      refine j_lmul hC dX7_digest_41 (pc' := 42) rfl ?_
      refine j_aload_n hC 0 dX7_digest_42 (pc' := 43) rfl rfl ?_
      refine gX_arm hC wm_143 dX7_digest_43 (pc' := 46) rfl ?_
      refine gX_lengths hC wm_29 dX7_digest_46 (pc' := 49) rfl ?_
      refine j_iload_n hC 2 dX7_digest_49 (pc' := 50) rfl rfl ?_
      obtain ⟨h20, hf⟩ := hf
      refine lX_lengths hC (j := (Int32.toNatClampNeg a3)) h20 rfl dX7_digest_50 (pc' := 51) rfl ?_
      refine j_i2l hC dX7_digest_51 (pc' := 52) rfl ?_
      refine j_ladd hC dX7_digest_52 (pc' := 53) rfl ?_
      refine j_nml (fun x21 ex21 => ?_)
      replace hf := hf x21 ex21
      refine j_lstore_n hC (lv' := [(1, .long x21), (0, .ref (q 0)), (3, .int a3)]) dX7_digest_53 (pc' := 54) rfl rfl (by decide) rfl ?_
      obtain ⟨x22, ex22⟩ : ∃ y : Int32, y = a3 + (1 : Int32) := ⟨_, rfl⟩
      replace hf := hf x22 ex22
      refine j_iinc hC (v := x22) (q := 2) (lv' := [(3, .int x22), (1, .long x21), (0, .ref (q 0))]) dX7_digest_54 (pc' := 57) rfl rfl (by rw [ex22]; rfl) (by decide) rfl ?_
      refine j_goto hC (tgt := 32) dX7_digest_57 (by decide) ?_
      refine j_lv [2, 1, 0] rfl ?_
      exact ih x21 x22 σ hf
set_option maxHeartbeats 4000000 in
set_option maxRecDepth 100000 in
theorem lb_X7_digest_b6 {l : Launch} {D : va_G} {q : Nat → Nat} {ca : Nat → ClassId} {t : Nat} {p : Program} {e : Env} {s : State} {m : MethodId} {args : Array Value} {below : List Frame} {meth : Method} {c : Code} (hE : qok 28 q) (hC : Cx p s m args meth c cX7_digest 4 RX7 (some .long) D (tysX ca) (ZX q t)) (Q : Int64 → St → Prop) : ∀ (n : Nat) (a1 : Int64) (a3 : Int32) (σ : St), f_X7_digest_b6 Q n a1 a3 σ → J p l e { frames := 5, cells := 0, slots := 0, locals := 108 } s m args below meth c (MQ below (va_Ql Q (BW D (wX q ca)) (AX q)) args s 0 0 (AX q)) D (AX q) 4 0 0 (wX q ca σ) 6 [(0, .ref (q 0)), (1, .long a1), (3, .int a3)] [] := by
  intro n
  induction n with
  | zero => intro a1 a3 σ hf; exact hf.elim
  | succ n ih =>
    intro a1 a3 σ hf
    unfold f_X7_digest_b6 at hf
    refine j_iload_n hC 2 dX7_digest_6 (pc' := 7) rfl rfl ?_
    refine j_iconst hC (v := 4) dX7_digest_7 (pc' := 8) rfl (by decide) ?_
    refine j_icmp_gt hC (tgt := 30) dX7_digest_8 (pc' := 11) rfl (by decide) (fun c_ => ?_) (fun c_ => ?_)
    · replace hf := hf.1 c_
      refine j_iconst hC (v := 0) dX7_digest_30 (pc' := 31) rfl (by decide) ?_
      refine j_istore_n hC (lv' := [(3, .int (0 : Int32)), (0, .ref (q 0)), (1, .long a1)]) dX7_digest_31 (pc' := 32) rfl rfl (by decide) rfl ?_
      obtain ⟨n23, hf⟩ := hf
      refine j_lv [1, 2, 0] rfl ?_
      exact lb_X7_digest_b32 hE hC Q n23 a1 (0 : Int32) σ hf
    · replace hf := hf.2 c_
      refine j_ldc2 hC (v := 31) dX7_digest_11 (pc' := 14) rfl wm_556 ?_
      refine j_lload_n hC 1 dX7_digest_14 (pc' := 15) rfl rfl ?_
      refine j_lmul hC dX7_digest_15 (pc' := 16) rfl ?_
      refine j_aload_n hC 0 dX7_digest_16 (pc' := 17) rfl rfl ?_
      refine j_iload_n hC 2 dX7_digest_17 (pc' := 18) rfl rfl ?_
      refine jcV_i hC (eX hE) (As := [.int a3]) (obX_X7) (rfl) (lk_X7_count hE a3 σ _ hf) wm_557 wm_542 wm_543 wm_1 wm_544 dy_X7_count ⟨rfl, rfl⟩ ⟨Nat.le_of_ble_eq_true rfl, Nat.le_of_ble_eq_true rfl⟩ ⟨Nat.le_refl _, Nat.le_refl _⟩ rfl rfl (Nat.le_of_ble_eq_true rfl) dX7_digest_18 (pc' := 21) rfl (fun r24 σ25 hf => ?_)
      refine j_i2l hC dX7_digest_21 (pc' := 22) rfl ?_
      refine j_ladd hC dX7_digest_22 (pc' := 23) rfl ?_
      refine j_nml (fun x26 ex26 => ?_)
      replace hf := hf x26 ex26
      refine j_lstore_n hC (lv' := [(1, .long x26), (0, .ref (q 0)), (3, .int a3)]) dX7_digest_23 (pc' := 24) rfl rfl (by decide) rfl ?_
      obtain ⟨x27, ex27⟩ : ∃ y : Int32, y = a3 + (1 : Int32) := ⟨_, rfl⟩
      replace hf := hf x27 ex27
      refine j_iinc hC (v := x27) (q := 2) (lv' := [(3, .int x27), (1, .long x26), (0, .ref (q 0))]) dX7_digest_24 (pc' := 27) rfl rfl (by rw [ex27]; rfl) (by decide) rfl ?_
      refine j_goto hC (tgt := 6) dX7_digest_27 (by decide) ?_
      refine j_lv [2, 1, 0] rfl ?_
      exact ih x26 x27 σ25 hf
set_option maxHeartbeats 4000000 in
set_option maxRecDepth 100000 in
theorem lk_X7_digest {l : Launch} {D : va_G} {q : Nat → Nat} {ca : Nat → ClassId} {t : Nat} (hE : qok 28 q) (σ : St) (Q : Int64 → St → Prop) (hf : f_X7_digest σ Q) : Ml l yX7_digest cX7_digest 4 (some .long) { frames := 5, cells := 0, slots := 0, locals := 108 } D (tysX ca) (ZX q t) (wX q ca) (AX q) [.ref (q 0)] σ Q := by
  refine j_start (own := RX7) (lv := [(0, .ref (q 0))]) [.ref (q 0)] (by decide +kernel) rfl (wX_D hE σ) (Nat.le_of_ble_eq_true rfl) rfl (fun p e s m args below meth c hC => ?_)
  unfold f_X7_digest at hf
  refine j_ldc2 hC (v := 17) dX7_digest_0 (pc' := 3) rfl wm_555 ?_
  refine j_lstore_n hC (lv' := [(1, .long (17 : Int64)), (0, .ref (q 0))]) dX7_digest_3 (pc' := 4) rfl rfl (by decide) rfl ?_
  refine j_iconst hC (v := 0) dX7_digest_4 (pc' := 5) rfl (by decide) ?_
  refine j_istore_n hC (lv' := [(3, .int (0 : Int32)), (1, .long (17 : Int64)), (0, .ref (q 0))]) dX7_digest_5 (pc' := 6) rfl rfl (by decide) rfl ?_
  obtain ⟨n28, hf⟩ := hf
  refine j_lv [2, 1, 0] rfl ?_
  exact lb_X7_digest_b6 hE hC Q n28 (17 : Int64) (0 : Int32) σ hf
def f_X8_in (a0 : Int64) (a2 : Int64) (a4 : Int64) (σ : St) (Q : Int32 → St → Prop) : Prop := (a0 < a2 → Q (0 : Int32) σ) ∧ ((¬ a0 < a2) → (a4 < a0 → Q (0 : Int32) σ) ∧ ((¬ a4 < a0) → Q (1 : Int32) σ))
theorem dy_X8_in : yX8_in.cls ≠ "java/lang/invoke/MethodHandle" ∧ yX8_in.cls ≠ "java/lang/invoke/VarHandle" ∧ (parseMethodDescriptor yX8_in.desc).map (fun d => d.parameters.length) = some 3 := by decide +kernel
set_option maxHeartbeats 4000000 in
set_option maxRecDepth 100000 in
theorem lk_X8_in {l : Launch} {D : va_G} {q : Nat → Nat} {ca : Nat → ClassId} (hE : qok 19 q) (a0 : Int64) (a2 : Int64) (a4 : Int64) (σ : St) (Q : Int32 → St → Prop) (hf : f_X8_in a0 a2 a4 σ Q) : Mi l yX8_in cX8_in 6 (some .boolean) { frames := 0, cells := 0, slots := 0, locals := 0 } D (tysM ca) ZM (wM q ca) (AM q) [.long a0, .long a2, .long a4] σ Q := by
  refine j_start (own := RX8) (lv := [(0, .long a0), (2, .long a2), (4, .long a4)]) [.long a0, .long a2, .long a4] (by decide +kernel) rfl (wM_D hE σ) (Nat.le_of_ble_eq_true rfl) rfl (fun p e s m args below meth c hC => ?_)
  unfold f_X8_in at hf
  refine j_lload_n hC 0 dX8_in_0 (pc' := 1) rfl rfl ?_
  refine j_lload_n hC 1 dX8_in_1 (pc' := 2) rfl rfl ?_
  refine j_lcmp hC dX8_in_2 (pc' := 3) rfl ?_
  refine j_if_lt hC (tgt := 17) dX8_in_3 (pc' := 6) rfl (by decide) (fun c_ => ?_) (fun c_ => ?_)
  · replace hf := hf.1 ((lgc_lt _ _).mp c_)
    refine j_iconst hC (v := 0) dX8_in_17 (pc' := 18) rfl (by decide) ?_
    exact j_zret hC dX8_in_18 (Or.inl rfl) hf
  · replace hf := hf.2 (fun z => c_ ((lgc_lt _ _).mpr z))
    refine j_lload_n hC 0 dX8_in_6 (pc' := 7) rfl rfl ?_
    refine j_lload hC 2 dX8_in_7 (pc' := 9) rfl rfl ?_
    refine j_lcmp hC dX8_in_9 (pc' := 10) rfl ?_
    refine j_if_gt hC (tgt := 17) dX8_in_10 (pc' := 13) rfl (by decide) (fun c_ => ?_) (fun c_ => ?_)
    · replace hf := hf.1 ((lgc_gt _ _).mp c_)
      refine j_iconst hC (v := 0) dX8_in_17 (pc' := 18) rfl (by decide) ?_
      exact j_zret hC dX8_in_18 (Or.inl rfl) hf
    · replace hf := hf.2 (fun z => c_ ((lgc_gt _ _).mpr z))
      refine j_iconst hC (v := 1) dX8_in_13 (pc' := 14) rfl (by decide) ?_
      refine j_goto hC (tgt := 18) dX8_in_14 (by decide) ?_
      exact j_zret hC dX8_in_18 (Or.inr rfl) hf
def f_X8_no (a0 : Int32) (σ : St) (Q : Int64 → St → Prop) : Prop := Q ((-9223372036854775808 : Int64) - (Int32.toInt64 a0)) σ
theorem dy_X8_no : yX8_no.cls ≠ "java/lang/invoke/MethodHandle" ∧ yX8_no.cls ≠ "java/lang/invoke/VarHandle" ∧ (parseMethodDescriptor yX8_no.desc).map (fun d => d.parameters.length) = some 1 := by decide +kernel
set_option maxHeartbeats 4000000 in
set_option maxRecDepth 100000 in
theorem lk_X8_no {l : Launch} {D : va_G} {q : Nat → Nat} {ca : Nat → ClassId} (hE : qok 19 q) (a0 : Int32) (σ : St) (Q : Int64 → St → Prop) (hf : f_X8_no a0 σ Q) : Ml l yX8_no cX8_no 1 (some .long) { frames := 0, cells := 0, slots := 0, locals := 0 } D (tysM ca) ZM (wM q ca) (AM q) [.int a0] σ Q := by
  refine j_start (own := RX8) (lv := [(0, .int a0)]) [.int a0] (by decide +kernel) rfl (wM_D hE σ) (Nat.le_of_ble_eq_true rfl) rfl (fun p e s m args below meth c hC => ?_)
  unfold f_X8_no at hf
  refine j_ldc2 hC (v := -9223372036854775808) dX8_no_0 (pc' := 3) rfl wm_709 ?_
  refine j_iload_n hC 0 dX8_no_3 (pc' := 4) rfl rfl ?_
  refine j_i2l hC dX8_no_4 (pc' := 5) rfl ?_
  refine j_lsub hC dX8_no_5 (pc' := 6) rfl ?_
  exact j_lret hC dX8_no_6 hf
def f_X8_c (a1 : Int32) (σ : St) (Q : Int32 → St → Prop) : Prop := vp_in (a1 - a1 / (36 : Int32) * (36 : Int32)) 36 ∧ Q (σ.1 18 (Int32.toNatClampNeg (a1 - a1 / (36 : Int32) * (36 : Int32)))) σ
theorem dy_X8_c : yX8_c.cls = yX8_c.cls ∧ yX8_c.cls ≠ "java/lang/invoke/MethodHandle" ∧ yX8_c.cls ≠ "java/lang/invoke/VarHandle" ∧ (parseMethodDescriptor yX8_c.desc).map (fun d => d.parameters.length) = some 1 := by decide +kernel
set_option maxHeartbeats 4000000 in
set_option maxRecDepth 100000 in
theorem lk_X8_c {l : Launch} {D : va_G} {q : Nat → Nat} {ca : Nat → ClassId} (hE : qok 19 q) (a1 : Int32) (σ : St) (Q : Int32 → St → Prop) (hf : f_X8_c a1 σ Q) : Mi l yX8_c cX8_c 2 (some .int) { frames := 0, cells := 0, slots := 0, locals := 0 } D (tysM ca) ZM (wM q ca) (AM q) [.ref (q 0), .int a1] σ Q := by
  refine j_start (own := RX8) (lv := [(0, .ref (q 0)), (1, .int a1)]) [.ref (q 0), .int a1] (by decide +kernel) rfl (wM_D hE σ) (Nat.le_of_ble_eq_true rfl) rfl (fun p e s m args below meth c hC => ?_)
  unfold f_X8_c at hf
  refine j_aload_n hC 0 dX8_c_0 (pc' := 1) rfl rfl ?_
  refine gM_cs hC wm_564 dX8_c_1 (pc' := 4) rfl ?_
  refine j_iload_n hC 1 dX8_c_4 (pc' := 5) rfl rfl ?_
  refine j_bipush hC (v := 36) dX8_c_5 (pc' := 7) rfl (by decide) ?_
  refine j_irem hC dX8_c_7 (pc' := 8) rfl (by decide) ?_
  obtain ⟨h1, hf⟩ := hf
  refine lM_cs hC (j := (Int32.toNatClampNeg (a1 - a1 / (36 : Int32) * (36 : Int32)))) h1 rfl dX8_c_8 (pc' := 9) rfl ?_
  exact j_iret hC dX8_c_9 hf
def f_X8_s (a1 : Int32) (σ : St) (Q : Int32 → St → Prop) : Prop := vp_in ((a1 + (27 : Int32)) - (a1 + (27 : Int32)) / (36 : Int32) * (36 : Int32)) 36 ∧ Q (σ.1 18 (Int32.toNatClampNeg ((a1 + (27 : Int32)) - (a1 + (27 : Int32)) / (36 : Int32) * (36 : Int32)))) σ
theorem dy_X8_s : yX8_s.cls = yX8_s.cls ∧ yX8_s.cls ≠ "java/lang/invoke/MethodHandle" ∧ yX8_s.cls ≠ "java/lang/invoke/VarHandle" ∧ (parseMethodDescriptor yX8_s.desc).map (fun d => d.parameters.length) = some 1 := by decide +kernel
set_option maxHeartbeats 4000000 in
set_option maxRecDepth 100000 in
theorem lk_X8_s {l : Launch} {D : va_G} {q : Nat → Nat} {ca : Nat → ClassId} (hE : qok 19 q) (a1 : Int32) (σ : St) (Q : Int32 → St → Prop) (hf : f_X8_s a1 σ Q) : Mi l yX8_s cX8_s 2 (some .int) { frames := 0, cells := 0, slots := 0, locals := 0 } D (tysM ca) ZM (wM q ca) (AM q) [.ref (q 0), .int a1] σ Q := by
  refine j_start (own := RX8) (lv := [(0, .ref (q 0)), (1, .int a1)]) [.ref (q 0), .int a1] (by decide +kernel) rfl (wM_D hE σ) (Nat.le_of_ble_eq_true rfl) rfl (fun p e s m args below meth c hC => ?_)
  unfold f_X8_s at hf
  refine j_aload_n hC 0 dX8_s_0 (pc' := 1) rfl rfl ?_
  refine gM_cs hC wm_564 dX8_s_1 (pc' := 4) rfl ?_
  refine j_iload_n hC 1 dX8_s_4 (pc' := 5) rfl rfl ?_
  refine j_bipush hC (v := 27) dX8_s_5 (pc' := 7) rfl (by decide) ?_
  refine j_iadd hC dX8_s_7 (pc' := 8) rfl ?_
  refine j_bipush hC (v := 36) dX8_s_8 (pc' := 10) rfl (by decide) ?_
  refine j_irem hC dX8_s_10 (pc' := 11) rfl (by decide) ?_
  obtain ⟨h1, hf⟩ := hf
  refine lM_cs hC (j := (Int32.toNatClampNeg ((a1 + (27 : Int32)) - (a1 + (27 : Int32)) / (36 : Int32) * (36 : Int32)))) h1 rfl dX8_s_11 (pc' := 12) rfl ?_
  exact j_iret hC dX8_s_12 hf
def f_X8_turn (a1 : Int32) (a2 : Int32) (σ : St) (Q : Int32 → St → Prop) : Prop := f_X8_in (Int32.toInt64 a1) (0 : Int64) (35 : Int64) σ (fun r1 σ2 => (r1 = 0 → Q (-1000 : Int32) σ2) ∧ ((¬ r1 = 0) → f_X8_in (Int32.toInt64 a2) (0 : Int64) (1 : Int64) σ2 (fun r3 σ4 => ((¬ r3 = 0) → ((¬ a2 = 0) → f_X8_s a1 σ4 (fun r5 σ6 => Q r5 σ6)) ∧ (a2 = 0 → f_X8_c a1 σ4 (fun r7 σ8 => Q r7 σ8))) ∧ (r3 = 0 → Q (-1000 : Int32) σ4))))
theorem dy_X8_turn : yX8_turn.cls = yX8_turn.cls ∧ yX8_turn.cls ≠ "java/lang/invoke/MethodHandle" ∧ yX8_turn.cls ≠ "java/lang/invoke/VarHandle" ∧ (parseMethodDescriptor yX8_turn.desc).map (fun d => d.parameters.length) = some 2 := by decide +kernel
set_option maxHeartbeats 4000000 in
set_option maxRecDepth 100000 in
theorem lk_X8_turn {l : Launch} {D : va_G} {q : Nat → Nat} {ca : Nat → ClassId} (hE : qok 19 q) (a1 : Int32) (a2 : Int32) (σ : St) (Q : Int32 → St → Prop) (hf : f_X8_turn a1 a2 σ Q) : Mi l yX8_turn cX8_turn 3 (some .int) { frames := 1, cells := 0, slots := 0, locals := 25 } D (tysM ca) ZM (wM q ca) (AM q) [.ref (q 0), .int a1, .int a2] σ Q := by
  refine j_start (own := RX8) (lv := [(0, .ref (q 0)), (1, .int a1), (2, .int a2)]) [.ref (q 0), .int a1, .int a2] (by decide +kernel) rfl (wM_D hE σ) (Nat.le_of_ble_eq_true rfl) rfl (fun p e s m args below meth c hC => ?_)
  unfold f_X8_turn at hf
  refine j_iload_n hC 1 dX8_turn_0 (pc' := 1) rfl rfl ?_
  refine j_i2l hC dX8_turn_1 (pc' := 2) rfl ?_
  refine j_lconst hC (v := 0) dX8_turn_2 (pc' := 3) rfl (by decide) ?_
  refine j_ldc2 hC (v := 35) dX8_turn_3 (pc' := 6) rfl wm_641 ?_
  refine jcS_i hC (eM hE) (As := [.long (Int32.toInt64 a1), .long (0 : Int64), .long (35 : Int64)]) (lk_X8_in hE (Int32.toInt64 a1) (0 : Int64) (35 : Int64) σ _ hf) wm_642 wm_643 wm_8 wm_644 dy_X8_in ⟨rfl, rfl⟩ ⟨Nat.le_of_ble_eq_true rfl, Nat.le_of_ble_eq_true rfl⟩ ⟨Nat.le_refl _, Nat.le_refl _⟩ rfl rfl (Nat.le_of_ble_eq_true rfl) dX8_turn_6 (pc' := 9) rfl (fun r1 σ2 hf => ?_)
  refine j_if_eq hC (tgt := 22) dX8_turn_9 (pc' := 12) rfl (by decide) (fun c_ => ?_) (fun c_ => ?_)
  · replace hf := hf.1 c_
    refine j_sipush hC (v := -1000) dX8_turn_22 (pc' := 25) rfl (by decide) ?_
    exact j_iret hC dX8_turn_25 hf
  · replace hf := hf.2 c_
    refine j_iload_n hC 2 dX8_turn_12 (pc' := 13) rfl rfl ?_
    refine j_i2l hC dX8_turn_13 (pc' := 14) rfl ?_
    refine j_lconst hC (v := 0) dX8_turn_14 (pc' := 15) rfl (by decide) ?_
    refine j_lconst hC (v := 1) dX8_turn_15 (pc' := 16) rfl (by decide) ?_
    refine jcS_i hC (eM hE) (As := [.long (Int32.toInt64 a2), .long (0 : Int64), .long (1 : Int64)]) (lk_X8_in hE (Int32.toInt64 a2) (0 : Int64) (1 : Int64) σ2 _ hf) wm_642 wm_643 wm_8 wm_644 dy_X8_in ⟨rfl, rfl⟩ ⟨Nat.le_of_ble_eq_true rfl, Nat.le_of_ble_eq_true rfl⟩ ⟨Nat.le_refl _, Nat.le_refl _⟩ rfl rfl (Nat.le_of_ble_eq_true rfl) dX8_turn_16 (pc' := 19) rfl (fun r3 σ4 hf => ?_)
    refine j_if_ne hC (tgt := 26) dX8_turn_19 (pc' := 22) rfl (by decide) (fun c_ => ?_) (fun c_ => ?_)
    · replace hf := hf.1 c_
      refine j_iload_n hC 2 dX8_turn_26 (pc' := 27) rfl rfl ?_
      refine j_if_ne hC (tgt := 38) dX8_turn_27 (pc' := 30) rfl (by decide) (fun c_ => ?_) (fun c_ => ?_)
      · replace hf := hf.1 c_
        refine j_aload_n hC 0 dX8_turn_38 (pc' := 39) rfl rfl ?_
        refine j_iload_n hC 1 dX8_turn_39 (pc' := 40) rfl rfl ?_
        refine jcV_i hC (eM hE) (As := [.int a1]) (obM_X8) (rfl) (lk_X8_s hE a1 σ4 _ hf) wm_648 wm_649 wm_902 wm_8 wm_650 dy_X8_s ⟨rfl, rfl⟩ ⟨Nat.le_of_ble_eq_true rfl, Nat.le_of_ble_eq_true rfl⟩ ⟨Nat.le_refl _, Nat.le_refl _⟩ rfl rfl (Nat.le_of_ble_eq_true rfl) dX8_turn_40 (pc' := 43) rfl (fun r5 σ6 hf => ?_)
        exact j_iret hC dX8_turn_43 hf
      · replace hf := hf.2 c_
        refine j_aload_n hC 0 dX8_turn_30 (pc' := 31) rfl rfl ?_
        refine j_iload_n hC 1 dX8_turn_31 (pc' := 32) rfl rfl ?_
        refine jcV_i hC (eM hE) (As := [.int a1]) (obM_X8) (rfl) (lk_X8_c hE a1 σ4 _ hf) wm_645 wm_646 wm_901 wm_8 wm_647 dy_X8_c ⟨rfl, rfl⟩ ⟨Nat.le_of_ble_eq_true rfl, Nat.le_of_ble_eq_true rfl⟩ ⟨Nat.le_refl _, Nat.le_refl _⟩ rfl rfl (Nat.le_of_ble_eq_true rfl) dX8_turn_32 (pc' := 35) rfl (fun r7 σ8 hf => ?_)
        refine j_goto hC (tgt := 43) dX8_turn_35 (by decide) ?_
        exact j_iret hC dX8_turn_43 hf
    · replace hf := hf.2 c_
      refine j_sipush hC (v := -1000) dX8_turn_22 (pc' := 25) rfl (by decide) ?_
      exact j_iret hC dX8_turn_25 hf
