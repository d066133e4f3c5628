def f_X8_copy_b157 (Q : Int32 → St → Prop) : Nat → Int32 → Int32 → Int32 → Int32 → St → Prop
  | 0, _, _, _, _, _ => False
  | n + 1, a3, a4, a5, a6, σ => (a5 ≤ a6 → Q (1 : Int32) σ) ∧ ((¬ a5 ≤ a6) → vp_in a6 100 ∧ vp_in ((((100 : Int32) * a3) + a4) + a6) 400 ∧ ∀ σ23 : St, σ23 = sI σ 24 (Int32.toNatClampNeg ((((100 : Int32) * a3) + a4) + a6)) (σ.1 25 (Int32.toNatClampNeg a6)) → ∀ x24 : Int32, x24 = a6 + (1 : Int32) → f_X8_copy_b157 Q  n a3 a4 a5 x24 σ23)
def f_X8_copy_b120 (Q : Int32 → St → Prop) : Nat → Int32 → Int32 → Int32 → Int32 → Int32 → Int32 → St → Prop
  | 0, _, _, _, _, _, _, _ => False
  | n + 1, a1, a2, a3, a4, a5, a6, σ => (a5 ≤ a6 → ∃ n25 : Nat, f_X8_copy_b157 Q n25 a3 a4 a5 (0 : Int32) σ) ∧ ((¬ a5 ≤ a6) → vp_in ((((100 : Int32) * a1) + a2) + a6) 400 ∧ vp_in a6 100 ∧ ∀ σ28 : St, σ28 = sI σ 25 (Int32.toNatClampNeg a6) (σ.1 24 (Int32.toNatClampNeg ((((100 : Int32) * a1) + a2) + a6))) → ∀ x29 : Int32, x29 = a6 + (1 : Int32) → f_X8_copy_b120 Q  n a1 a2 a3 a4 a5 x29 σ28)
def f_X8_copy (a1 : Int32) (a2 : Int32) (a3 : Int32) (a4 : Int32) (a5 : Int32) (σ : St) (Q : Int32 → St → Prop) : Prop := f_X8_isSheet a1 σ (fun r1 σ2 => (r1 = 0 → Q (-2 : Int32) σ2) ∧ ((¬ r1 = 0) → f_X8_isSheet a3 σ2 (fun r3 σ4 => ((¬ r3 = 0) → vp_in a1 4 ∧ ((σ4.1 22 (Int32.toNatClampNeg a1)) < 0 → f_X8_met (1 : Int32) σ4 (fun r6 σ7 => Q r6 σ7)) ∧ ((¬ (σ4.1 22 (Int32.toNatClampNeg a1)) < 0) → vp_in a3 4 ∧ (0 ≤ (σ4.1 22 (Int32.toNatClampNeg a3)) → vp_in a1 4 ∧ vp_in a3 4 ∧ ((σ4.1 22 (Int32.toNatClampNeg a1)) = (σ4.1 22 (Int32.toNatClampNeg a3)) → (a2 < 0 → f_X8_met (2 : Int32) σ4 (fun r11 σ12 => Q r11 σ12)) ∧ ((¬ a2 < 0) → (a4 < 0 → f_X8_met (2 : Int32) σ4 (fun r13 σ14 => Q r13 σ14)) ∧ ((¬ a4 < 0) → (a5 < 0 → f_X8_met (2 : Int32) σ4 (fun r15 σ16 => Q r15 σ16)) ∧ ((¬ a5 < 0) → vp_in a1 4 ∧ ((Int32.toInt64 (σ4.1 23 (Int32.toNatClampNeg a1))) < ((Int32.toInt64 a2) + (Int32.toInt64 a5)) → f_X8_met (2 : Int32) σ4 (fun r18 σ19 => Q r18 σ19)) ∧ ((¬ (Int32.toInt64 (σ4.1 23 (Int32.toNatClampNeg a1))) < ((Int32.toInt64 a2) + (Int32.toInt64 a5))) → vp_in a3 4 ∧ (((Int32.toInt64 a4) + (Int32.toInt64 a5)) ≤ (Int32.toInt64 (σ4.1 23 (Int32.toNatClampNeg a3))) → ∃ n30 : Nat, f_X8_copy_b120 Q n30 a1 a2 a3 a4 a5 (0 : Int32) σ4) ∧ ((¬ ((Int32.toInt64 a4) + (Int32.toInt64 a5)) ≤ (Int32.toInt64 (σ4.1 23 (Int32.toNatClampNeg a3)))) → f_X8_met (2 : Int32) σ4 (fun r31 σ32 => Q r31 σ32))))))) ∧ ((¬ (σ4.1 22 (Int32.toNatClampNeg a1)) = (σ4.1 22 (Int32.toNatClampNeg a3))) → f_X8_met (4 : Int32) σ4 (fun r33 σ34 => Q r33 σ34))) ∧ ((¬ 0 ≤ (σ4.1 22 (Int32.toNatClampNeg a3))) → f_X8_met (1 : Int32) σ4 (fun r35 σ36 => Q r35 σ36)))) ∧ (r3 = 0 → Q (-2 : Int32) σ4))))
theorem dy_X8_copy : yX8_copy.cls = yX8_copy.cls ∧ yX8_copy.cls ≠ "java/lang/invoke/MethodHandle" ∧ yX8_copy.cls ≠ "java/lang/invoke/VarHandle" ∧ (parseMethodDescriptor yX8_copy.desc).map (fun d => d.parameters.length) = some 5 := by decide +kernel
set_option maxHeartbeats 4000000 in
set_option maxRecDepth 100000 in
theorem lb_X8_copy_b157 {l : Launch} {D : va_G} {q : Nat → Nat} {ca : Nat → ClassId} {p : Program} {e : Env} {s : State} {m : MethodId} {args : Array Value} {below : List Frame} {meth : Method} {c : Code} (hE : qok 19 q) (hC : Cx p s m args meth c cX8_copy 7 RX8 (some .int) D (tysM ca) ZM) (Q : Int32 → St → Prop) : ∀ (n : Nat) (a3 : Int32) (a4 : Int32) (a5 : Int32) (a6 : Int32) (σ : St), f_X8_copy_b157 Q n a3 a4 a5 a6 σ → J p l e { frames := 2, cells := 0, slots := 0, locals := 45 } s m args below meth c (MQ below (va_Qi Q (BW D (wM q ca)) (AM q)) args s 0 0 (AM q)) D (AM q) 7 0 0 (wM q ca σ) 157 [(0, .ref (q 0)), (3, .int a3), (4, .int a4), (5, .int a5), (6, .int a6)] [] := by
  intro n
  induction n with
  | zero => intro a3 a4 a5 a6 σ hf; exact hf.elim
  | succ n ih =>
    intro a3 a4 a5 a6 σ hf
    unfold f_X8_copy_b157 at hf
    refine j_iload hC 4 dX8_copy_157 (pc' := 159) rfl rfl ?_
    refine j_iload hC 3 dX8_copy_159 (pc' := 161) rfl rfl ?_
    refine j_icmp_ge hC (tgt := 192) dX8_copy_161 (pc' := 164) rfl (by decide) (fun c_ => ?_) (fun c_ => ?_)
    · replace hf := hf.1 c_
      refine j_iconst hC (v := 1) dX8_copy_192 (pc' := 193) rfl (by decide) ?_
      exact j_iret hC dX8_copy_193 hf
    · replace hf := hf.2 c_
      refine j_aload_n hC 0 dX8_copy_164 (pc' := 165) rfl rfl ?_
      refine gM_items hC wm_585 dX8_copy_165 (pc' := 168) rfl ?_
      refine j_bipush hC (v := 100) dX8_copy_168 (pc' := 170) rfl (by decide) ?_
      refine j_iload_n hC 1 dX8_copy_170 (pc' := 171) rfl rfl ?_
      refine j_imul hC dX8_copy_171 (pc' := 172) rfl ?_
      refine j_iload hC 2 dX8_copy_172 (pc' := 174) rfl rfl ?_
      refine j_iadd hC dX8_copy_174 (pc' := 175) rfl ?_
      refine j_iload hC 4 dX8_copy_175 (pc' := 177) rfl rfl ?_
      refine j_iadd hC dX8_copy_177 (pc' := 178) rfl ?_
      refine j_aload_n hC 0 dX8_copy_178 (pc' := 179) rfl rfl ?_
      refine gM_moved hC wm_586 dX8_copy_179 (pc' := 182) rfl ?_
      refine j_iload hC 4 dX8_copy_182 (pc' := 184) rfl rfl ?_
      obtain ⟨h21, hf⟩ := hf
      refine lM_moved hC (j := (Int32.toNatClampNeg a6)) h21 rfl dX8_copy_184 (pc' := 185) rfl ?_
      obtain ⟨h22, hf⟩ := hf
      refine sM_items hC (j := (Int32.toNatClampNeg ((((100 : Int32) * a3) + a4) + a6))) h22 rfl dX8_copy_185 (pc' := 186) rfl ?_
      refine j_nms (wf := wM q ca) (fun σ23 eσ23 => ?_)
      replace hf := hf σ23 eσ23
      obtain ⟨x24, ex24⟩ : ∃ y : Int32, y = a6 + (1 : Int32) := ⟨_, rfl⟩
      replace hf := hf x24 ex24
      refine j_iinc hC (v := x24) (q := 4) (lv' := [(6, .int x24), (0, .ref (q 0)), (3, .int a3), (4, .int a4), (5, .int a5)]) dX8_copy_186 (pc' := 189) rfl rfl (by rw [ex24]; rfl) (by decide) rfl ?_
      refine j_goto hC (tgt := 157) dX8_copy_189 (by decide) ?_
      refine j_lv [1, 2, 3, 4, 0] rfl ?_
      exact ih a3 a4 a5 x24 σ23 hf
set_option maxHeartbeats 4000000 in
set_option maxRecDepth 100000 in
theorem lb_X8_copy_b120 {l : Launch} {D : va_G} {q : Nat → Nat} {ca : Nat → ClassId} {p : Program} {e : Env} {s : State} {m : MethodId} {args : Array Value} {below : List Frame} {meth : Method} {c : Code} (hE : qok 19 q) (hC : Cx p s m args meth c cX8_copy 7 RX8 (some .int) D (tysM ca) ZM) (Q : Int32 → St → Prop) : ∀ (n : Nat) (a1 : Int32) (a2 : Int32) (a3 : Int32) (a4 : Int32) (a5 : Int32) (a6 : Int32) (σ : St), f_X8_copy_b120 Q n a1 a2 a3 a4 a5 a6 σ → J p l e { frames := 2, cells := 0, slots := 0, locals := 45 } s m args below meth c (MQ below (va_Qi Q (BW D (wM q ca)) (AM q)) args s 0 0 (AM q)) D (AM q) 7 0 0 (wM q ca σ) 120 [(0, .ref (q 0)), (1, .int a1), (2, .int a2), (3, .int a3), (4, .int a4), (5, .int a5), (6, .int a6)] [] := by
  intro n
  induction n with
  | zero => intro a1 a2 a3 a4 a5 a6 σ hf; exact hf.elim
  | succ n ih =>
    intro a1 a2 a3 a4 a5 a6 σ hf
    unfold f_X8_copy_b120 at hf
    refine j_iload hC 6 dX8_copy_120 (pc' := 122) rfl rfl ?_
    refine j_iload hC 5 dX8_copy_122 (pc' := 124) rfl rfl ?_
    refine j_icmp_ge hC (tgt := 154) dX8_copy_124 (pc' := 127) rfl (by decide) (fun c_ => ?_) (fun c_ => ?_)
    · replace hf := hf.1 c_
      refine j_iconst hC (v := 0) dX8_copy_154 (pc' := 155) rfl (by decide) ?_
      refine j_istore hC (lv' := [(6, .int (0 : Int32)), (0, .ref (q 0)), (1, .int a1), (2, .int a2), (3, .int a3), (4, .int a4), (5, .int a5)]) dX8_copy_155 (pc' := 157) rfl (by decide) rfl ?_
      obtain ⟨n25, hf⟩ := hf
      refine j_lv [1, 4, 5, 6, 0] rfl ?_
      exact lb_X8_copy_b157 hE hC Q n25 a3 a4 a5 (0 : Int32) σ hf
    · replace hf := hf.2 c_
      refine j_aload_n hC 0 dX8_copy_127 (pc' := 128) rfl rfl ?_
      refine gM_moved hC wm_586 dX8_copy_128 (pc' := 131) rfl ?_
      refine j_iload hC 6 dX8_copy_131 (pc' := 133) rfl rfl ?_
      refine j_aload_n hC 0 dX8_copy_133 (pc' := 134) rfl rfl ?_
      refine gM_items hC wm_585 dX8_copy_134 (pc' := 137) rfl ?_
      refine j_bipush hC (v := 100) dX8_copy_137 (pc' := 139) rfl (by decide) ?_
      refine j_iload_n hC 1 dX8_copy_139 (pc' := 140) rfl rfl ?_
      refine j_imul hC dX8_copy_140 (pc' := 141) rfl ?_
      refine j_iload_n hC 2 dX8_copy_141 (pc' := 142) rfl rfl ?_
      refine j_iadd hC dX8_copy_142 (pc' := 143) rfl ?_
      refine j_iload hC 6 dX8_copy_143 (pc' := 145) rfl rfl ?_
      refine j_iadd hC dX8_copy_145 (pc' := 146) rfl ?_
      obtain ⟨h26, hf⟩ := hf
      refine lM_items hC (j := (Int32.toNatClampNeg ((((100 : Int32) * a1) + a2) + a6))) h26 rfl dX8_copy_146 (pc' := 147) rfl ?_
      obtain ⟨h27, hf⟩ := hf
      refine sM_moved hC (j := (Int32.toNatClampNeg a6)) h27 rfl dX8_copy_147 (pc' := 148) rfl ?_
      refine j_nms (wf := wM q ca) (fun σ28 eσ28 => ?_)
      replace hf := hf σ28 eσ28
      obtain ⟨x29, ex29⟩ : ∃ y : Int32, y = a6 + (1 : Int32) := ⟨_, rfl⟩
      replace hf := hf x29 ex29
      refine j_iinc hC (v := x29) (q := 6) (lv' := [(6, .int x29), (0, .ref (q 0)), (1, .int a1), (2, .int a2), (3, .int a3), (4, .int a4), (5, .int a5)]) dX8_copy_148 (pc' := 151) rfl rfl (by rw [ex29]; rfl) (by decide) rfl ?_
      refine j_goto hC (tgt := 120) dX8_copy_151 (by decide) ?_
      refine j_lv [1, 2, 3, 4, 5, 6, 0] rfl ?_
      exact ih a1 a2 a3 a4 a5 x29 σ28 hf
set_option maxHeartbeats 4000000 in
set_option maxRecDepth 100000 in
theorem lk_X8_copy {l : Launch} {D : va_G} {q : Nat → Nat} {ca : Nat → ClassId} (hE : qok 19 q) (a1 : Int32) (a2 : Int32) (a3 : Int32) (a4 : Int32) (a5 : Int32) (σ : St) (Q : Int32 → St → Prop) (hf : f_X8_copy a1 a2 a3 a4 a5 σ Q) : Mi l yX8_copy cX8_copy 7 (some .int) { frames := 2, cells := 0, slots := 0, locals := 45 } D (tysM ca) ZM (wM q ca) (AM q) [.ref (q 0), .int a1, .int a2, .int a3, .int a4, .int a5] σ Q := by
  refine j_start (own := RX8) (lv := [(0, .ref (q 0)), (1, .int a1), (2, .int a2), (3, .int a3), (4, .int a4), (5, .int a5)]) [.ref (q 0), .int a1, .int a2, .int a3, .int a4, .int a5] (by decide +kernel) rfl (wM_D hE σ) (Nat.le_of_ble_eq_true rfl) rfl (fun p e s m args below meth c hC => ?_)
  unfold f_X8_copy at hf
  refine j_iload_n hC 1 dX8_copy_0 (pc' := 1) rfl rfl ?_
  refine jcS_i hC (eM hE) (As := [.int a1]) (lk_X8_isSheet hE a1 σ _ hf) wm_838 wm_839 wm_8 wm_840 dy_X8_isSheet ⟨rfl, rfl⟩ ⟨Nat.le_of_ble_eq_true rfl, Nat.le_of_ble_eq_true rfl⟩ ⟨Nat.le_refl _, Nat.le_refl _⟩ rfl rfl (Nat.le_of_ble_eq_true rfl) dX8_copy_1 (pc' := 4) rfl (fun r1 σ2 hf => ?_)
  refine j_if_eq hC (tgt := 14) dX8_copy_4 (pc' := 7) rfl (by decide) (fun c_ => ?_) (fun c_ => ?_)
  · replace hf := hf.1 c_
    refine j_bipush hC (v := -2) dX8_copy_14 (pc' := 16) rfl (by decide) ?_
    exact j_iret hC dX8_copy_16 hf
  · replace hf := hf.2 c_
    refine j_iload_n hC 3 dX8_copy_7 (pc' := 8) rfl rfl ?_
    refine jcS_i hC (eM hE) (As := [.int a3]) (lk_X8_isSheet hE a3 σ2 _ hf) wm_838 wm_839 wm_8 wm_840 dy_X8_isSheet ⟨rfl, rfl⟩ ⟨Nat.le_of_ble_eq_true rfl, Nat.le_of_ble_eq_true rfl⟩ ⟨Nat.le_refl _, Nat.le_refl _⟩ rfl rfl (Nat.le_of_ble_eq_true rfl) dX8_copy_8 (pc' := 11) rfl (fun r3 σ4 hf => ?_)
    refine j_if_ne hC (tgt := 17) dX8_copy_11 (pc' := 14) rfl (by decide) (fun c_ => ?_) (fun c_ => ?_)
    · replace hf := hf.1 c_
      refine j_aload_n hC 0 dX8_copy_17 (pc' := 18) rfl rfl ?_
      refine gM_forms hC wm_583 dX8_copy_18 (pc' := 21) rfl ?_
      refine j_iload_n hC 1 dX8_copy_21 (pc' := 22) rfl rfl ?_
      obtain ⟨h5, hf⟩ := hf
      refine lM_forms hC (j := (Int32.toNatClampNeg a1)) h5 rfl dX8_copy_22 (pc' := 23) rfl ?_
      refine j_if_lt hC (tgt := 35) dX8_copy_23 (pc' := 26) rfl (by decide) (fun c_ => ?_) (fun c_ => ?_)
      · replace hf := hf.1 c_
        refine j_aload_n hC 0 dX8_copy_35 (pc' := 36) rfl rfl ?_
        refine j_iconst hC (v := 1) dX8_copy_36 (pc' := 37) rfl (by decide) ?_
        refine jcV_i hC (eM hE) (As := [.int (1 : Int32)]) (obM_X8) (rfl) (lk_X8_met hE (1 : Int32) σ4 _ hf) wm_842 wm_843 wm_923 wm_8 wm_844 dy_X8_met ⟨rfl, rfl⟩ ⟨Nat.le_of_ble_eq_true rfl, Nat.le_of_ble_eq_true rfl⟩ ⟨Nat.le_refl _, Nat.le_refl _⟩ rfl rfl (Nat.le_of_ble_eq_true rfl) dX8_copy_37 (pc' := 40) rfl (fun r6 σ7 hf => ?_)
        exact j_iret hC dX8_copy_40 hf
      · replace hf := hf.2 c_
        refine j_aload_n hC 0 dX8_copy_26 (pc' := 27) rfl rfl ?_
        refine gM_forms hC wm_583 dX8_copy_27 (pc' := 30) rfl ?_
        refine j_iload_n hC 3 dX8_copy_30 (pc' := 31) rfl rfl ?_
        obtain ⟨h8, hf⟩ := hf
        refine lM_forms hC (j := (Int32.toNatClampNeg a3)) h8 rfl dX8_copy_31 (pc' := 32) rfl ?_
        refine j_if_ge hC (tgt := 41) dX8_copy_32 (pc' := 35) rfl (by decide) (fun c_ => ?_) (fun c_ => ?_)
        · replace hf := hf.1 c_
          refine j_aload_n hC 0 dX8_copy_41 (pc' := 42) rfl rfl ?_
          refine gM_forms hC wm_583 dX8_copy_42 (pc' := 45) rfl ?_
          refine j_iload_n hC 1 dX8_copy_45 (pc' := 46) rfl rfl ?_
          obtain ⟨h9, hf⟩ := hf
          refine lM_forms hC (j := (Int32.toNatClampNeg a1)) h9 rfl dX8_copy_46 (pc' := 47) rfl ?_
          refine j_aload_n hC 0 dX8_copy_47 (pc' := 48) rfl rfl ?_
          refine gM_forms hC wm_583 dX8_copy_48 (pc' := 51) rfl ?_
          refine j_iload_n hC 3 dX8_copy_51 (pc' := 52) rfl rfl ?_
          obtain ⟨h10, hf⟩ := hf
          refine lM_forms hC (j := (Int32.toNatClampNeg a3)) h10 rfl dX8_copy_52 (pc' := 53) rfl ?_
          refine j_icmp_eq hC (tgt := 62) dX8_copy_53 (pc' := 56) rfl (by decide) (fun c_ => ?_) (fun c_ => ?_)
          · replace hf := hf.1 c_
            refine j_iload_n hC 2 dX8_copy_62 (pc' := 63) rfl rfl ?_
            refine j_if_lt hC (tgt := 111) dX8_copy_63 (pc' := 66) rfl (by decide) (fun c_ => ?_) (fun c_ => ?_)
            · replace hf := hf.1 c_
              refine j_aload_n hC 0 dX8_copy_111 (pc' := 112) rfl rfl ?_
              refine j_iconst hC (v := 2) dX8_copy_112 (pc' := 113) rfl (by decide) ?_
              refine jcV_i hC (eM hE) (As := [.int (2 : Int32)]) (obM_X8) (rfl) (lk_X8_met hE (2 : Int32) σ4 _ hf) wm_842 wm_843 wm_923 wm_8 wm_844 dy_X8_met ⟨rfl, rfl⟩ ⟨Nat.le_of_ble_eq_true rfl, Nat.le_of_ble_eq_true rfl⟩ ⟨Nat.le_refl _, Nat.le_refl _⟩ rfl rfl (Nat.le_of_ble_eq_true rfl) dX8_copy_113 (pc' := 116) rfl (fun r11 σ12 hf => ?_)
              exact j_iret hC dX8_copy_116 hf
            · replace hf := hf.2 c_
              refine j_iload hC 4 dX8_copy_66 (pc' := 68) rfl rfl ?_
              refine j_if_lt hC (tgt := 111) dX8_copy_68 (pc' := 71) rfl (by decide) (fun c_ => ?_) (fun c_ => ?_)
              · replace hf := hf.1 c_
                refine j_aload_n hC 0 dX8_copy_111 (pc' := 112) rfl rfl ?_
                refine j_iconst hC (v := 2) dX8_copy_112 (pc' := 113) rfl (by decide) ?_
                refine jcV_i hC (eM hE) (As := [.int (2 : Int32)]) (obM_X8) (rfl) (lk_X8_met hE (2 : Int32) σ4 _ hf) wm_842 wm_843 wm_923 wm_8 wm_844 dy_X8_met ⟨rfl, rfl⟩ ⟨Nat.le_of_ble_eq_true rfl, Nat.le_of_ble_eq_true rfl⟩ ⟨Nat.le_refl _, Nat.le_refl _⟩ rfl rfl (Nat.le_of_ble_eq_true rfl) dX8_copy_113 (pc' := 116) rfl (fun r13 σ14 hf => ?_)
                exact j_iret hC dX8_copy_116 hf
              · replace hf := hf.2 c_
                refine j_iload hC 5 dX8_copy_71 (pc' := 73) rfl rfl ?_
                refine j_if_lt hC (tgt := 111) dX8_copy_73 (pc' := 76) rfl (by decide) (fun c_ => ?_) (fun c_ => ?_)
                · replace hf := hf.1 c_
                  refine j_aload_n hC 0 dX8_copy_111 (pc' := 112) rfl rfl ?_
                  refine j_iconst hC (v := 2) dX8_copy_112 (pc' := 113) rfl (by decide) ?_
                  refine jcV_i hC (eM hE) (As := [.int (2 : Int32)]) (obM_X8) (rfl) (lk_X8_met hE (2 : Int32) σ4 _ hf) wm_842 wm_843 wm_923 wm_8 wm_844 dy_X8_met ⟨rfl, rfl⟩ ⟨Nat.le_of_ble_eq_true rfl, Nat.le_of_ble_eq_true rfl⟩ ⟨Nat.le_refl _, Nat.le_refl _⟩ rfl rfl (Nat.le_of_ble_eq_true rfl) dX8_copy_113 (pc' := 116) rfl (fun r15 σ16 hf => ?_)
                  exact j_iret hC dX8_copy_116 hf
                · replace hf := hf.2 c_
                  refine j_iload_n hC 2 dX8_copy_76 (pc' := 77) rfl rfl ?_
                  refine j_i2l hC dX8_copy_77 (pc' := 78) rfl ?_
                  refine j_iload hC 5 dX8_copy_78 (pc' := 80) rfl rfl ?_
                  refine j_i2l hC dX8_copy_80 (pc' := 81) rfl ?_
                  refine j_ladd hC dX8_copy_81 (pc' := 82) rfl ?_
                  refine j_aload_n hC 0 dX8_copy_82 (pc' := 83) rfl rfl ?_
                  refine gM_sizes hC wm_584 dX8_copy_83 (pc' := 86) rfl ?_
                  refine j_iload_n hC 1 dX8_copy_86 (pc' := 87) rfl rfl ?_
                  obtain ⟨h17, hf⟩ := hf
                  refine lM_sizes hC (j := (Int32.toNatClampNeg a1)) h17 rfl dX8_copy_87 (pc' := 88) rfl ?_
                  refine j_i2l hC dX8_copy_88 (pc' := 89) rfl ?_
                  refine j_lcmp hC dX8_copy_89 (pc' := 90) rfl ?_
                  refine j_if_gt hC (tgt := 111) dX8_copy_90 (pc' := 93) rfl (by decide) (fun c_ => ?_) (fun c_ => ?_)
                  · replace hf := hf.1 ((lgc_gt _ _).mp c_)
                    refine j_aload_n hC 0 dX8_copy_111 (pc' := 112) rfl rfl ?_
                    refine j_iconst hC (v := 2) dX8_copy_112 (pc' := 113) rfl (by decide) ?_
                    refine jcV_i hC (eM hE) (As := [.int (2 : Int32)]) (obM_X8) (rfl) (lk_X8_met hE (2 : Int32) σ4 _ hf) wm_842 wm_843 wm_923 wm_8 wm_844 dy_X8_met ⟨rfl, rfl⟩ ⟨Nat.le_of_ble_eq_true rfl, Nat.le_of_ble_eq_true rfl⟩ ⟨Nat.le_refl _, Nat.le_refl _⟩ rfl rfl (Nat.le_of_ble_eq_true rfl) dX8_copy_113 (pc' := 116) rfl (fun r18 σ19 hf => ?_)
                    exact j_iret hC dX8_copy_116 hf
                  · replace hf := hf.2 (fun z => c_ ((lgc_gt _ _).mpr z))
                    refine j_iload hC 4 dX8_copy_93 (pc' := 95) rfl rfl ?_
                    refine j_i2l hC dX8_copy_95 (pc' := 96) rfl ?_
                    refine j_iload hC 5 dX8_copy_96 (pc' := 98) rfl rfl ?_
                    refine j_i2l hC dX8_copy_98 (pc' := 99) rfl ?_
                    refine j_ladd hC dX8_copy_99 (pc' := 100) rfl ?_
                    refine j_aload_n hC 0 dX8_copy_100 (pc' := 101) rfl rfl ?_
                    refine gM_sizes hC wm_584 dX8_copy_101 (pc' := 104) rfl ?_
                    refine j_iload_n hC 3 dX8_copy_104 (pc' := 105) rfl rfl ?_
                    obtain ⟨h20, hf⟩ := hf
                    refine lM_sizes hC (j := (Int32.toNatClampNeg a3)) h20 rfl dX8_copy_105 (pc' := 106) rfl ?_
                    refine j_i2l hC dX8_copy_106 (pc' := 107) rfl ?_
                    refine j_lcmp hC dX8_copy_107 (pc' := 108) rfl ?_
                    refine j_if_le hC (tgt := 117) dX8_copy_108 (pc' := 111) rfl (by decide) (fun c_ => ?_) (fun c_ => ?_)
                    · replace hf := hf.1 ((lgc_le _ _).mp c_)
                      refine j_iconst hC (v := 0) dX8_copy_117 (pc' := 118) rfl (by decide) ?_
                      refine j_istore hC (lv' := [(6, .int (0 : Int32)), (0, .ref (q 0)), (1, .int a1), (2, .int a2), (3, .int a3), (4, .int a4), (5, .int a5)]) dX8_copy_118 (pc' := 120) rfl (by decide) rfl ?_
                      obtain ⟨n30, hf⟩ := hf
                      refine j_lv [1, 2, 3, 4, 5, 6, 0] rfl ?_
                      exact lb_X8_copy_b120 hE hC Q n30 a1 a2 a3 a4 a5 (0 : Int32) σ4 hf
                    · replace hf := hf.2 (fun z => c_ ((lgc_le _ _).mpr z))
                      refine j_aload_n hC 0 dX8_copy_111 (pc' := 112) rfl rfl ?_
                      refine j_iconst hC (v := 2) dX8_copy_112 (pc' := 113) rfl (by decide) ?_
                      refine jcV_i hC (eM hE) (As := [.int (2 : Int32)]) (obM_X8) (rfl) (lk_X8_met hE (2 : Int32) σ4 _ hf) wm_842 wm_843 wm_923 wm_8 wm_844 dy_X8_met ⟨rfl, rfl⟩ ⟨Nat.le_of_ble_eq_true rfl, Nat.le_of_ble_eq_true rfl⟩ ⟨Nat.le_refl _, Nat.le_refl _⟩ rfl rfl (Nat.le_of_ble_eq_true rfl) dX8_copy_113 (pc' := 116) rfl (fun r31 σ32 hf => ?_)
                      exact j_iret hC dX8_copy_116 hf
          · replace hf := hf.2 c_
            refine j_aload_n hC 0 dX8_copy_56 (pc' := 57) rfl rfl ?_
            refine j_iconst hC (v := 4) dX8_copy_57 (pc' := 58) rfl (by decide) ?_
            refine jcV_i hC (eM hE) (As := [.int (4 : Int32)]) (obM_X8) (rfl) (lk_X8_met hE (4 : Int32) σ4 _ hf) wm_842 wm_843 wm_923 wm_8 wm_844 dy_X8_met ⟨rfl, rfl⟩ ⟨Nat.le_of_ble_eq_true rfl, Nat.le_of_ble_eq_true rfl⟩ ⟨Nat.le_refl _, Nat.le_refl _⟩ rfl rfl (Nat.le_of_ble_eq_true rfl) dX8_copy_58 (pc' := 61) rfl (fun r33 σ34 hf => ?_)
            exact j_iret hC dX8_copy_61 hf
        · replace hf := hf.2 c_
          refine j_aload_n hC 0 dX8_copy_35 (pc' := 36) rfl rfl ?_
          refine j_iconst hC (v := 1) dX8_copy_36 (pc' := 37) rfl (by decide) ?_
          refine jcV_i hC (eM hE) (As := [.int (1 : Int32)]) (obM_X8) (rfl) (lk_X8_met hE (1 : Int32) σ4 _ hf) wm_842 wm_843 wm_923 wm_8 wm_844 dy_X8_met ⟨rfl, rfl⟩ ⟨Nat.le_of_ble_eq_true rfl, Nat.le_of_ble_eq_true rfl⟩ ⟨Nat.le_refl _, Nat.le_refl _⟩ rfl rfl (Nat.le_of_ble_eq_true rfl) dX8_copy_37 (pc' := 40) rfl (fun r35 σ36 hf => ?_)
          exact j_iret hC dX8_copy_40 hf
    · replace hf := hf.2 c_
      refine j_bipush hC (v := -2) dX8_copy_14 (pc' := 16) rfl (by decide) ?_
      exact j_iret hC dX8_copy_16 hf
def f_X8_count_b47 (Q : Int32 → St → Prop) : Nat → Int32 → Int32 → St → Prop
  | 0, _, _, _ => False
  | n + 1, a2, a3, σ => ((σ.1 3 0) ≤ a3 → Q a2 σ) ∧ ((¬ (σ.1 3 0) ≤ a3) → vp_in a3 20 ∧ ((σ.1 4 (Int32.toNatClampNeg a3)) = 0 → ∀ x2 : Int32, x2 = a2 + (0 : Int32) → ∀ x3 : Int32, x3 = a3 + (1 : Int32) → f_X8_count_b47 Q  n x2 x3 σ) ∧ ((¬ (σ.1 4 (Int32.toNatClampNeg a3)) = 0) → ∀ x4 : Int32, x4 = a2 + (1 : Int32) → ∀ x5 : Int32, x5 = a3 + (1 : Int32) → f_X8_count_b47 Q  n x4 x5 σ))
def f_X8_count_b107 (Q : Int32 → St → Prop) (K87 : Int32 → Int32 → Int32 → St → Prop) (a1 : Int32) (a3 : Int32) (z0 : Int32) (z1 : Int32) (σ : St) : Prop := ((¬ a1 = (4 : Int32)) → ((¬ z0 = (0 : Int32)) → ∀ x8 : Int32, x8 = z1 + (0 : Int32) → ∀ x9 : Int32, x9 = a3 + (1 : Int32) → K87 a1 x8 x9 σ) ∧ (z0 = (0 : Int32) → ∀ x10 : Int32, x10 = z1 + (1 : Int32) → ∀ x11 : Int32, x11 = a3 + (1 : Int32) → K87 a1 x10 x11 σ)) ∧ (a1 = (4 : Int32) → ((¬ z0 = (1 : Int32)) → ∀ x12 : Int32, x12 = z1 + (0 : Int32) → ∀ x13 : Int32, x13 = a3 + (1 : Int32) → K87 a1 x12 x13 σ) ∧ (z0 = (1 : Int32) → ∀ x14 : Int32, x14 = z1 + (1 : Int32) → ∀ x15 : Int32, x15 = a3 + (1 : Int32) → K87 a1 x14 x15 σ))
def f_X8_count_b87 (Q : Int32 → St → Prop) : Nat → Int32 → Int32 → Int32 → St → Prop
  | 0, _, _, _, _ => False
  | n + 1, a1, a2, a3, σ => ((4 : Int32) ≤ a3 → Q a2 σ) ∧ ((¬ (4 : Int32) ≤ a3) → vp_in a3 4 ∧ (0 ≤ (σ.1 22 (Int32.toNatClampNeg a3)) → f_X8_count_b107 Q (fun a1 a2 a3 σ => f_X8_count_b87 Q n a1 a2 a3 σ) a1 a3 (0 : Int32) a2 σ) ∧ ((¬ 0 ≤ (σ.1 22 (Int32.toNatClampNeg a3))) → f_X8_count_b107 Q (fun a1 a2 a3 σ => f_X8_count_b87 Q n a1 a2 a3 σ) a1 a3 (1 : Int32) a2 σ))
def f_X8_count (a1 : Int32) (σ : St) (Q : Int32 → St → Prop) : Prop := (a1 = 0 → Q (σ.1 3 0) σ) ∧ (a1 = 1 → ∃ n6 : Nat, f_X8_count_b47 Q n6 (0 : Int32) (0 : Int32) σ) ∧ (a1 = 2 → Q (σ.1 10 0) σ) ∧ (a1 = 3 → ∃ n16 : Nat, f_X8_count_b87 Q n16 a1 (0 : Int32) (0 : Int32) σ) ∧ (a1 = 4 → ∃ n17 : Nat, f_X8_count_b87 Q n17 a1 (0 : Int32) (0 : Int32) σ) ∧ (a1 = 5 → Q (σ.1 16 0) σ) ∧ ((¬ (a1 = 0 ∨ a1 = 1 ∨ a1 = 2 ∨ a1 = 3 ∨ a1 = 4 ∨ a1 = 5)) → Q (-2 : Int32) σ)
theorem dy_X8_count : yX8_count.cls = yX8_count.cls ∧ yX8_count.cls ≠ "java/lang/invoke/MethodHandle" ∧ yX8_count.cls ≠ "java/lang/invoke/VarHandle" ∧ (parseMethodDescriptor yX8_count.desc).map (fun d => d.parameters.length) = some 1 := by decide +kernel
set_option maxHeartbeats 4000000 in
set_option maxRecDepth 100000 in
theorem lb_X8_count_b47 {l : Launch} {D : va_G} {q : Nat → Nat} {ca : Nat → ClassId} {p : Program} {e : Env} {s : State} {m : MethodId} {args : Array Value} {below : List Frame} {meth : Method} {c : Code} (hE : qok 19 q) (hC : Cx p s m args meth c cX8_count 4 RX8 (some .int) D (tysM ca) ZM) (Q : Int32 → St → Prop) : ∀ (n : Nat) (a2 : Int32) (a3 : Int32) (σ : St), f_X8_count_b47 Q n a2 a3 σ → J p l e { frames := 0, cells := 0, slots := 0, locals := 0 } s m args below meth c (MQ below (va_Qi Q (BW D (wM q ca)) (AM q)) args s 0 0 (AM q)) D (AM q) 4 0 0 (wM q ca σ) 47 [(0, .ref (q 0)), (2, .int a2), (3, .int a3)] [] := by
  intro n
  induction n with
  | zero => intro a2 a3 σ hf; exact hf.elim
  | succ n ih =>
    intro a2 a3 σ hf
    unfold f_X8_count_b47 at hf
    refine j_iload_n hC 2 dX8_count_47 (pc' := 48) rfl rfl ?_
    refine j_aload_n hC 0 dX8_count_48 (pc' := 49) rfl rfl ?_
    refine gM_postures hC wm_566 dX8_count_49 (pc' := 52) rfl ?_
    refine j_icmp_ge hC (tgt := 78) dX8_count_52 (pc' := 55) rfl (by decide) (fun c_ => ?_) (fun c_ => ?_)
    · replace hf := hf.1 c_
      refine j_iload_n hC 1 dX8_count_78 (pc' := 79) rfl rfl ?_
      exact j_iret hC dX8_count_79 hf
    · replace hf := hf.2 c_
      refine j_iload_n hC 1 dX8_count_55 (pc' := 56) rfl rfl ?_
      refine j_aload_n hC 0 dX8_count_56 (pc' := 57) rfl rfl ?_
      refine gM_isOut hC wm_568 dX8_count_57 (pc' := 60) rfl ?_
      refine j_iload_n hC 2 dX8_count_60 (pc' := 61) rfl rfl ?_
      obtain ⟨h1, hf⟩ := hf
      refine lM_isOut hC (j := (Int32.toNatClampNeg a3)) h1 rfl dX8_count_61 (pc' := 62) rfl ?_
      refine j_if_eq hC (tgt := 69) dX8_count_62 (pc' := 65) rfl (by decide) (fun c_ => ?_) (fun c_ => ?_)
      · replace hf := hf.1 c_
        refine j_iconst hC (v := 0) dX8_count_69 (pc' := 70) rfl (by decide) ?_
        refine j_iadd hC dX8_count_70 (pc' := 71) rfl ?_
        refine j_nmi (fun x2 ex2 => ?_)
        replace hf := hf x2 ex2
        refine j_istore_n hC (lv' := [(2, .int x2), (0, .ref (q 0)), (3, .int a3)]) dX8_count_71 (pc' := 72) rfl rfl (by decide) rfl ?_
        obtain ⟨x3, ex3⟩ : ∃ y : Int32, y = a3 + (1 : Int32) := ⟨_, rfl⟩
        replace hf := hf x3 ex3
        refine j_iinc hC (v := x3) (q := 2) (lv' := [(3, .int x3), (2, .int x2), (0, .ref (q 0))]) dX8_count_72 (pc' := 75) rfl rfl (by rw [ex3]; rfl) (by decide) rfl ?_
        refine j_goto hC (tgt := 47) dX8_count_75 (by decide) ?_
        refine j_lv [2, 1, 0] rfl ?_
        exact ih x2 x3 σ hf
      · replace hf := hf.2 c_
        refine j_iconst hC (v := 1) dX8_count_65 (pc' := 66) rfl (by decide) ?_
        refine j_goto hC (tgt := 70) dX8_count_66 (by decide) ?_
        refine j_iadd hC dX8_count_70 (pc' := 71) rfl ?_
        refine j_nmi (fun x4 ex4 => ?_)
        replace hf := hf x4 ex4
        refine j_istore_n hC (lv' := [(2, .int x4), (0, .ref (q 0)), (3, .int a3)]) dX8_count_71 (pc' := 72) rfl rfl (by decide) rfl ?_
        obtain ⟨x5, ex5⟩ : ∃ y : Int32, y = a3 + (1 : Int32) := ⟨_, rfl⟩
        replace hf := hf x5 ex5
        refine j_iinc hC (v := x5) (q := 2) (lv' := [(3, .int x5), (2, .int x4), (0, .ref (q 0))]) dX8_count_72 (pc' := 75) rfl rfl (by rw [ex5]; rfl) (by decide) rfl ?_
        refine j_goto hC (tgt := 47) dX8_count_75 (by decide) ?_
        refine j_lv [2, 1, 0] rfl ?_
        exact ih x4 x5 σ hf
set_option maxHeartbeats 4000000 in
set_option maxRecDepth 100000 in
theorem lb_X8_count_b107 {l : Launch} {D : va_G} {q : Nat → Nat} {ca : Nat → ClassId} {p : Program} {e : Env} {s : State} {m : MethodId} {args : Array Value} {below : List Frame} {meth : Method} {c : Code} (hE : qok 19 q) (hC : Cx p s m args meth c cX8_count 4 RX8 (some .int) D (tysM ca) ZM) (Q : Int32 → St → Prop) (K87 : Int32 → Int32 → Int32 → St → Prop) (hK87 : ∀ (a1 : Int32) (a2 : Int32) (a3 : Int32) (σ : St), K87 a1 a2 a3 σ → J p l e { frames := 0, cells := 0, slots := 0, locals := 0 } s m args below meth c (MQ below (va_Qi Q (BW D (wM q ca)) (AM q)) args s 0 0 (AM q)) D (AM q) 4 0 0 (wM q ca σ) 87 [(0, .ref (q 0)), (1, .int a1), (2, .int a2), (3, .int a3)] []) (a1 : Int32) (a3 : Int32) (z0 : Int32) (z1 : Int32) (σ : St) (hf : f_X8_count_b107 Q K87 a1 a3 z0 z1 σ) : J p l e { frames := 0, cells := 0, slots := 0, locals := 0 } s m args below meth c (MQ below (va_Qi Q (BW D (wM q ca)) (AM q)) args s 0 0 (AM q)) D (AM q) 4 0 0 (wM q ca σ) 107 [(0, .ref (q 0)), (1, .int a1), (3, .int a3)] [.int z0, .int z1] := by
  unfold f_X8_count_b107 at hf
  refine j_iload_n hC 1 dX8_count_107 (pc' := 108) rfl rfl ?_
  refine j_iconst hC (v := 4) dX8_count_108 (pc' := 109) rfl (by decide) ?_
  refine j_icmp_ne hC (tgt := 116) dX8_count_109 (pc' := 112) rfl (by decide) (fun c_ => ?_) (fun c_ => ?_)
  · replace hf := hf.1 c_
    refine j_iconst hC (v := 0) dX8_count_116 (pc' := 117) rfl (by decide) ?_
    refine j_icmp_ne hC (tgt := 124) dX8_count_117 (pc' := 120) rfl (by decide) (fun c_ => ?_) (fun c_ => ?_)
    · replace hf := hf.1 c_
      refine j_iconst hC (v := 0) dX8_count_124 (pc' := 125) rfl (by decide) ?_
      refine j_iadd hC dX8_count_125 (pc' := 126) rfl ?_
      refine j_nmi (fun x8 ex8 => ?_)
      replace hf := hf x8 ex8
      refine j_istore_n hC (lv' := [(2, .int x8), (0, .ref (q 0)), (1, .int a1), (3, .int a3)]) dX8_count_126 (pc' := 127) rfl rfl (by decide) rfl ?_
      obtain ⟨x9, ex9⟩ : ∃ y : Int32, y = a3 + (1 : Int32) := ⟨_, rfl⟩
      replace hf := hf x9 ex9
      refine j_iinc hC (v := x9) (q := 3) (lv' := [(3, .int x9), (2, .int x8), (0, .ref (q 0)), (1, .int a1)]) dX8_count_127 (pc' := 130) rfl rfl (by rw [ex9]; rfl) (by decide) rfl ?_
      refine j_goto hC (tgt := 87) dX8_count_130 (by decide) ?_
      refine j_lv [2, 3, 1, 0] rfl ?_
      exact hK87 a1 x8 x9 σ hf
    · replace hf := hf.2 c_
      refine j_iconst hC (v := 1) dX8_count_120 (pc' := 121) rfl (by decide) ?_
      refine j_goto hC (tgt := 125) dX8_count_121 (by decide) ?_
      refine j_iadd hC dX8_count_125 (pc' := 126) rfl ?_
      refine j_nmi (fun x10 ex10 => ?_)
      replace hf := hf x10 ex10
      refine j_istore_n hC (lv' := [(2, .int x10), (0, .ref (q 0)), (1, .int a1), (3, .int a3)]) dX8_count_126 (pc' := 127) rfl rfl (by decide) rfl ?_
      obtain ⟨x11, ex11⟩ : ∃ y : Int32, y = a3 + (1 : Int32) := ⟨_, rfl⟩
      replace hf := hf x11 ex11
      refine j_iinc hC (v := x11) (q := 3) (lv' := [(3, .int x11), (2, .int x10), (0, .ref (q 0)), (1, .int a1)]) dX8_count_127 (pc' := 130) rfl rfl (by rw [ex11]; rfl) (by decide) rfl ?_
      refine j_goto hC (tgt := 87) dX8_count_130 (by decide) ?_
      refine j_lv [2, 3, 1, 0] rfl ?_
      exact hK87 a1 x10 x11 σ hf
  · replace hf := hf.2 c_
    refine j_iconst hC (v := 1) dX8_count_112 (pc' := 113) rfl (by decide) ?_
    refine j_goto hC (tgt := 117) dX8_count_113 (by decide) ?_
    refine j_icmp_ne hC (tgt := 124) dX8_count_117 (pc' := 120) rfl (by decide) (fun c_ => ?_) (fun c_ => ?_)
    · replace hf := hf.1 c_
      refine j_iconst hC (v := 0) dX8_count_124 (pc' := 125) rfl (by decide) ?_
      refine j_iadd hC dX8_count_125 (pc' := 126) rfl ?_
      refine j_nmi (fun x12 ex12 => ?_)
      replace hf := hf x12 ex12
      refine j_istore_n hC (lv' := [(2, .int x12), (0, .ref (q 0)), (1, .int a1), (3, .int a3)]) dX8_count_126 (pc' := 127) rfl rfl (by decide) rfl ?_
      obtain ⟨x13, ex13⟩ : ∃ y : Int32, y = a3 + (1 : Int32) := ⟨_, rfl⟩
      replace hf := hf x13 ex13
      refine j_iinc hC (v := x13) (q := 3) (lv' := [(3, .int x13), (2, .int x12), (0, .ref (q 0)), (1, .int a1)]) dX8_count_127 (pc' := 130) rfl rfl (by rw [ex13]; rfl) (by decide) rfl ?_
      refine j_goto hC (tgt := 87) dX8_count_130 (by decide) ?_
      refine j_lv [2, 3, 1, 0] rfl ?_
      exact hK87 a1 x12 x13 σ hf
    · replace hf := hf.2 c_
      refine j_iconst hC (v := 1) dX8_count_120 (pc' := 121) rfl (by decide) ?_
      refine j_goto hC (tgt := 125) dX8_count_121 (by decide) ?_
      refine j_iadd hC dX8_count_125 (pc' := 126) rfl ?_
      refine j_nmi (fun x14 ex14 => ?_)
      replace hf := hf x14 ex14
      refine j_istore_n hC (lv' := [(2, .int x14), (0, .ref (q 0)), (1, .int a1), (3, .int a3)]) dX8_count_126 (pc' := 127) rfl rfl (by decide) rfl ?_
      obtain ⟨x15, ex15⟩ : ∃ y : Int32, y = a3 + (1 : Int32) := ⟨_, rfl⟩
      replace hf := hf x15 ex15
      refine j_iinc hC (v := x15) (q := 3) (lv' := [(3, .int x15), (2, .int x14), (0, .ref (q 0)), (1, .int a1)]) dX8_count_127 (pc' := 130) rfl rfl (by rw [ex15]; rfl) (by decide) rfl ?_
      refine j_goto hC (tgt := 87) dX8_count_130 (by decide) ?_
      refine j_lv [2, 3, 1, 0] rfl ?_
      exact hK87 a1 x14 x15 σ hf
set_option maxHeartbeats 4000000 in
set_option maxRecDepth 100000 in
theorem lb_X8_count_b87 {l : Launch} {D : va_G} {q : Nat → Nat} {ca : Nat → ClassId} {p : Program} {e : Env} {s : State} {m : MethodId} {args : Array Value} {below : List Frame} {meth : Method} {c : Code} (hE : qok 19 q) (hC : Cx p s m args meth c cX8_count 4 RX8 (some .int) D (tysM ca) ZM) (Q : Int32 → St → Prop) : ∀ (n : Nat) (a1 : Int32) (a2 : Int32) (a3 : Int32) (σ : St), f_X8_count_b87 Q n a1 a2 a3 σ → J p l e { frames := 0, cells := 0, slots := 0, locals := 0 } s m args below meth c (MQ below (va_Qi Q (BW D (wM q ca)) (AM q)) args s 0 0 (AM q)) D (AM q) 4 0 0 (wM q ca σ) 87 [(0, .ref (q 0)), (1, .int a1), (2, .int a2), (3, .int a3)] [] := by
  intro n
  induction n with
  | zero => intro a1 a2 a3 σ hf; exact hf.elim
  | succ n ih =>
    intro a1 a2 a3 σ hf
    unfold f_X8_count_b87 at hf
    refine j_iload_n hC 3 dX8_count_87 (pc' := 88) rfl rfl ?_
    refine j_iconst hC (v := 4) dX8_count_88 (pc' := 89) rfl (by decide) ?_
    refine j_icmp_ge hC (tgt := 133) dX8_count_89 (pc' := 92) rfl (by decide) (fun c_ => ?_) (fun c_ => ?_)
    · replace hf := hf.1 c_
      refine j_iload_n hC 2 dX8_count_133 (pc' := 134) rfl rfl ?_
      exact j_iret hC dX8_count_134 hf
    · replace hf := hf.2 c_
      refine j_iload_n hC 2 dX8_count_92 (pc' := 93) rfl rfl ?_
      refine j_aload_n hC 0 dX8_count_93 (pc' := 94) rfl rfl ?_
      refine gM_forms hC wm_583 dX8_count_94 (pc' := 97) rfl ?_
      refine j_iload_n hC 3 dX8_count_97 (pc' := 98) rfl rfl ?_
      obtain ⟨h7, hf⟩ := hf
      refine lM_forms hC (j := (Int32.toNatClampNeg a3)) h7 rfl dX8_count_98 (pc' := 99) rfl ?_
      refine j_if_ge hC (tgt := 106) dX8_count_99 (pc' := 102) rfl (by decide) (fun c_ => ?_) (fun c_ => ?_)
      · replace hf := hf.1 c_
        refine j_iconst hC (v := 0) dX8_count_106 (pc' := 107) rfl (by decide) ?_
        refine j_lv [0, 1, 3] rfl ?_
        exact lb_X8_count_b107 hE hC Q _ ih a1 a3 (0 : Int32) a2 σ hf
      · replace hf := hf.2 c_
        refine j_iconst hC (v := 1) dX8_count_102 (pc' := 103) rfl (by decide) ?_
        refine j_goto hC (tgt := 107) dX8_count_103 (by decide) ?_
        refine j_lv [0, 1, 3] rfl ?_
        exact lb_X8_count_b107 hE hC Q _ ih a1 a3 (1 : Int32) a2 σ hf
set_option maxHeartbeats 4000000 in
set_option maxRecDepth 100000 in
theorem lk_X8_count {l : Launch} {D : va_G} {q : Nat → Nat} {ca : Nat → ClassId} (hE : qok 19 q) (a1 : Int32) (σ : St) (Q : Int32 → St → Prop) (hf : f_X8_count a1 σ Q) : Mi l yX8_count cX8_count 4 (some .int) { frames := 0, cells := 0, slots := 0, locals := 0 } D (tysM ca) ZM (wM q ca) (AM q) [.ref (q 0), .int a1] σ Q := by
  refine j_start (own := RX8) (lv := [(0, .ref (q 0)), (1, .int a1)]) [.ref (q 0), .int a1] (by decide +kernel) rfl (wM_D hE σ) (Nat.le_of_ble_eq_true rfl) rfl (fun p e s m args below meth c hC => ?_)
  unfold f_X8_count at hf
  refine j_iconst hC (v := 0) dX8_count_0 (pc' := 1) rfl (by decide) ?_
  refine j_istore_n hC (lv' := [(2, .int (0 : Int32)), (0, .ref (q 0)), (1, .int a1)]) dX8_count_1 (pc' := 2) rfl rfl (by decide) rfl ?_
  refine j_iload_n hC 2 dX8_count_2 (pc' := 3) rfl rfl ?_
  by_cases c_0 : a1 = 0
  · refine j_tableAt hC (tgt := 40) c_0 dX8_count_3 (by decide) rfl (by decide) ?_
    replace hf := hf.1 c_0
    refine j_aload_n hC 1 dX8_count_40 (pc' := 41) rfl rfl ?_
    refine gM_postures hC wm_566 dX8_count_41 (pc' := 44) rfl ?_
    exact j_iret hC dX8_count_44 hf
  by_cases c_1 : a1 = 1
  · refine j_tableAt hC (tgt := 45) c_1 dX8_count_3 (by decide) rfl (by decide) ?_
    replace hf := hf.2.1 c_1
    refine j_iconst hC (v := 0) dX8_count_45 (pc' := 46) rfl (by decide) ?_
    refine j_istore_n hC (lv' := [(3, .int (0 : Int32)), (2, .int (0 : Int32)), (0, .ref (q 0)), (1, .int a1)]) dX8_count_46 (pc' := 47) rfl rfl (by decide) rfl ?_
    obtain ⟨n6, hf⟩ := hf
    refine j_lv [2, 1, 0] rfl ?_
    exact lb_X8_count_b47 hE hC Q n6 (0 : Int32) (0 : Int32) σ hf
  by_cases c_2 : a1 = 2
  · refine j_tableAt hC (tgt := 80) c_2 dX8_count_3 (by decide) rfl (by decide) ?_
    replace hf := hf.2.2.1 c_2
    refine j_aload_n hC 1 dX8_count_80 (pc' := 81) rfl rfl ?_
    refine gM_pairs hC wm_574 dX8_count_81 (pc' := 84) rfl ?_
    exact j_iret hC dX8_count_84 hf
  by_cases c_3 : a1 = 3
  · refine j_tableAt hC (tgt := 85) c_3 dX8_count_3 (by decide) rfl (by decide) ?_
    replace hf := hf.2.2.2.1 c_3
    refine j_iconst hC (v := 0) dX8_count_85 (pc' := 86) rfl (by decide) ?_
    refine j_istore_n hC (lv' := [(3, .int (0 : Int32)), (2, .int (0 : Int32)), (0, .ref (q 0)), (1, .int a1)]) dX8_count_86 (pc' := 87) rfl rfl (by decide) rfl ?_
    obtain ⟨n16, hf⟩ := hf
    refine j_lv [2, 3, 1, 0] rfl ?_
    exact lb_X8_count_b87 hE hC Q n16 a1 (0 : Int32) (0 : Int32) σ hf
  by_cases c_4 : a1 = 4
  · refine j_tableAt hC (tgt := 85) c_4 dX8_count_3 (by decide) rfl (by decide) ?_
    replace hf := hf.2.2.2.2.1 c_4
    refine j_iconst hC (v := 0) dX8_count_85 (pc' := 86) rfl (by decide) ?_
    refine j_istore_n hC (lv' := [(3, .int (0 : Int32)), (2, .int (0 : Int32)), (0, .ref (q 0)), (1, .int a1)]) dX8_count_86 (pc' := 87) rfl rfl (by decide) rfl ?_
    obtain ⟨n17, hf⟩ := hf
    refine j_lv [2, 3, 1, 0] rfl ?_
    exact lb_X8_count_b87 hE hC Q n17 a1 (0 : Int32) (0 : Int32) σ hf
  by_cases c_5 : a1 = 5
  · refine j_tableAt hC (tgt := 135) c_5 dX8_count_3 (by decide) rfl (by decide) ?_
    replace hf := hf.2.2.2.2.2.1 c_5
    refine j_aload_n hC 1 dX8_count_135 (pc' := 136) rfl rfl ?_
    refine gM_latest hC wm_587 dX8_count_136 (pc' := 139) rfl ?_
    exact j_iret hC dX8_count_139 hf
  refine j_tableOut hC (tgt := 140) dX8_count_3 (tb_out5 c_0 c_1 c_2 c_3 c_4 c_5) (by decide) ?_
  replace hf := hf.2.2.2.2.2.2 (by rintro (z | z | z | z | z | z) <;> contradiction)
  refine j_bipush hC (v := -2) dX8_count_140 (pc' := 142) rfl (by decide) ?_
  exact j_iret hC dX8_count_142 hf
def f_X8_digest_b107 (Q : Int64 → St → Prop) : Nat → Int64 → Int32 → St → Prop
  | 0, _, _, _ => False
  | n + 1, a1, a3, σ => ((9 : Int32) ≤ a3 → f_X8_rankNow σ (fun r3 σ4 => ∀ x5 : Int64, x5 = ((31 : Int64) * a1) + (Int32.toInt64 r3) → f_X8_answers σ4 (fun r6 σ7 => Q (((31 : Int64) * x5) + (Int32.toInt64 r6)) σ7))) ∧ ((¬ (9 : Int32) ≤ a3) → vp_in a3 9 ∧ ∀ x9 : Int64, x9 = ((31 : Int64) * a1) + (σ.2 0 (Int32.toNatClampNeg a3)) → ∀ x10 : Int32, x10 = a3 + (1 : Int32) → f_X8_digest_b107 Q  n x9 x10 σ)
def f_X8_digest_b59 (Q : Int64 → St → Prop) : Nat → Int64 → Int32 → St → Prop
  | 0, _, _, _ => False
  | n + 1, a1, a3, σ => ((σ.1 3 0) ≤ a3 → f_X8_findTable σ (fun σ2 => ∃ n11 : Nat, f_X8_digest_b107 Q n11 a1 (0 : Int32) σ2)) ∧ ((¬ (σ.1 3 0) ≤ a3) → f_X8_handOf a3 (0 : Int32) σ (fun r12 σ13 => ∀ x14 : Int64, x14 = ((31 : Int64) * a1) + (Int32.toInt64 r12) → f_X8_handOf a3 (1 : Int32) σ13 (fun r15 σ16 => ∀ x17 : Int64, x17 = ((31 : Int64) * x14) + (Int32.toInt64 r15) → ∀ x18 : Int32, x18 = a3 + (1 : Int32) → f_X8_digest_b59 Q  n x17 x18 σ16)))
def f_X8_digest_b32 (Q : Int64 → St → Prop) : Nat → Int64 → Int32 → St → Prop
  | 0, _, _, _ => False
  | n + 1, a1, a3, σ => ((3 : Int32) ≤ a3 → ∃ n19 : Nat, f_X8_digest_b59 Q n19 a1 (0 : Int32) σ) ∧ ((¬ (3 : Int32) ≤ a3) → vp_in a3 3 ∧ ∀ x21 : Int64, x21 = ((31 : Int64) * a1) + (Int32.toInt64 (σ.1 0 (Int32.toNatClampNeg a3))) → ∀ x22 : Int32, x22 = a3 + (1 : Int32) → f_X8_digest_b32 Q  n x21 x22 σ)
def f_X8_digest_b6 (Q : Int64 → St → Prop) : Nat → Int64 → Int32 → St → Prop
  | 0, _, _, _ => False
  | n + 1, a1, a3, σ => ((5 : Int32) ≤ a3 → ∃ n23 : Nat, f_X8_digest_b32 Q n23 a1 (0 : Int32) σ) ∧ ((¬ (5 : Int32) ≤ a3) → f_X8_count a3 σ (fun r24 σ25 => ∀ x26 : Int64, x26 = ((31 : Int64) * a1) + (Int32.toInt64 r24) → ∀ x27 : Int32, x27 = a3 + (1 : Int32) → f_X8_digest_b6 Q  n x26 x27 σ25))
def f_X8_digest (σ : St) (Q : Int64 → St → Prop) : Prop := ∃ n28 : Nat, f_X8_digest_b6 Q n28 (17 : Int64) (0 : Int32) σ
theorem dy_X8_digest : yX8_digest.cls = yX8_digest.cls ∧ yX8_digest.cls ≠ "java/lang/invoke/MethodHandle" ∧ yX8_digest.cls ≠ "java/lang/invoke/VarHandle" ∧ (parseMethodDescriptor yX8_digest.desc).map (fun d => d.parameters.length) = some 0 := by decide +kernel
set_option maxHeartbeats 4000000 in
set_option maxRecDepth 100000 in
theorem lb_X8_digest_b107 {l : Launch} {D : va_G} {q : Nat → Nat} {ca : Nat → ClassId} {p : Program} {e : Env} {s : State} {m : MethodId} {args : Array Value} {below : List Frame} {meth : Method} {c : Code} (hE : qok 19 q) (hC : Cx p s m args meth c cX8_digest 4 RX8 (some .long) D (tysM ca) ZM) (Q : Int64 → St → Prop) : ∀ (n : Nat) (a1 : Int64) (a3 : Int32) (σ : St), f_X8_digest_b107 Q n a1 a3 σ → J p l e { frames := 4, cells := 0, slots := 0, locals := 93 } s m args below meth c (MQ below (va_Ql Q (BW D (wM q ca)) (AM q)) args s 0 0 (AM q)) D (AM q) 4 0 0 (wM q ca σ) 107 [(0, .ref (q 0)), (1, .long a1), (3, .int a3)] [] := by
  intro n
  induction n with
  | zero => intro a1 a3 σ hf; exact hf.elim
  | succ n ih =>
    intro a1 a3 σ hf
    unfold f_X8_digest_b107 at hf
    refine j_iload_n hC 2 dX8_digest_107 (pc' := 108) rfl rfl ?_
    refine j_bipush hC (v := 9) dX8_digest_108 (pc' := 110) rfl (by decide) ?_
    refine j_icmp_ge hC (tgt := 132) dX8_digest_110 (pc' := 113) rfl (by decide) (fun c_ => ?_) (fun c_ => ?_)
    · replace hf := hf.1 c_
      refine j_ldc2 hC (v := 31) dX8_digest_132 (pc' := 135) rfl wm_881 ?_
      refine j_lload_n hC 1 dX8_digest_135 (pc' := 136) rfl rfl ?_
      refine j_lmul hC dX8_digest_136 (pc' := 137) rfl ?_
      refine j_aload_n hC 0 dX8_digest_137 (pc' := 138) rfl rfl ?_
      refine jcV_i hC (eM hE) (As := []) (obM_X8) (rfl) (lk_X8_rankNow hE  σ _ hf) wm_723 wm_724 wm_912 wm_8 wm_725 dy_X8_rankNow ⟨rfl, rfl⟩ ⟨Nat.le_of_ble_eq_true rfl, Nat.le_of_ble_eq_true rfl⟩ ⟨Nat.le_refl _, Nat.le_refl _⟩ rfl rfl (Nat.le_of_ble_eq_true rfl) dX8_digest_138 (pc' := 141) rfl (fun r3 σ4 hf => ?_)
      refine j_i2l hC dX8_digest_141 (pc' := 142) rfl ?_
      refine j_ladd hC dX8_digest_142 (pc' := 143) rfl ?_
      refine j_nml (fun x5 ex5 => ?_)
      replace hf := hf x5 ex5
      refine j_lstore_n hC (lv' := [(1, .long x5), (0, .ref (q 0)), (3, .int a3)]) dX8_digest_143 (pc' := 144) rfl rfl (by decide) rfl ?_
      refine j_ldc2 hC (v := 31) dX8_digest_144 (pc' := 147) rfl wm_881 ?_
      refine j_lload_n hC 0 dX8_digest_147 (pc' := 148) rfl rfl ?_
      refine j_lmul hC dX8_digest_148 (pc' := 149) rfl ?_
      refine j_aload_n hC 1 dX8_digest_149 (pc' := 150) rfl rfl ?_
      refine jcV_i hC (eM hE) (As := []) (obM_X8) (rfl) (lk_X8_answers hE  σ4 _ hf) wm_808 wm_795 wm_796 wm_8 wm_797 dy_X8_answers ⟨rfl, rfl⟩ ⟨Nat.le_of_ble_eq_true rfl, Nat.le_of_ble_eq_true rfl⟩ ⟨Nat.le_refl _, Nat.le_refl _⟩ rfl rfl (Nat.le_of_ble_eq_true rfl) dX8_digest_150 (pc' := 153) rfl (fun r6 σ7 hf => ?_)
      refine j_i2l hC dX8_digest_153 (pc' := 154) rfl ?_
      refine j_ladd hC dX8_digest_154 (pc' := 155) rfl ?_
      exact j_lret hC dX8_digest_155 hf
    · replace hf := hf.2 c_
      refine j_ldc2 hC (v := 31) dX8_digest_113 (pc' := 116) rfl wm_881 ?_
      refine j_lload_n hC 1 dX8_digest_116 (pc' := 117) rfl rfl ?_
      refine j_lmul hC dX8_digest_117 (pc' := 118) rfl ?_
      refine j_aload_n hC 0 dX8_digest_118 (pc' := 119) rfl rfl ?_
      refine gM_g hC wm_571 dX8_digest_119 (pc' := 122) rfl ?_
      refine j_iload_n hC 2 dX8_digest_122 (pc' := 123) rfl rfl ?_
      obtain ⟨h8, hf⟩ := hf
      refine lM_g hC (j := (Int32.toNatClampNeg a3)) h8 rfl dX8_digest_123 (pc' := 124) rfl ?_
      refine j_ladd hC dX8_digest_124 (pc' := 125) rfl ?_
      refine j_nml (fun x9 ex9 => ?_)
      replace hf := hf x9 ex9
      refine j_lstore_n hC (lv' := [(1, .long x9), (0, .ref (q 0)), (3, .int a3)]) dX8_digest_125 (pc' := 126) rfl rfl (by decide) rfl ?_
      obtain ⟨x10, ex10⟩ : ∃ y : Int32, y = a3 + (1 : Int32) := ⟨_, rfl⟩
      replace hf := hf x10 ex10
      refine j_iinc hC (v := x10) (q := 2) (lv' := [(3, .int x10), (1, .long x9), (0, .ref (q 0))]) dX8_digest_126 (pc' := 129) rfl rfl (by rw [ex10]; rfl) (by decide) rfl ?_
      refine j_goto hC (tgt := 107) dX8_digest_129 (by decide) ?_
      refine j_lv [2, 1, 0] rfl ?_
      exact ih x9 x10 σ hf
set_option maxHeartbeats 4000000 in
set_option maxRecDepth 100000 in
theorem lb_X8_digest_b59 {l : Launch} {D : va_G} {q : Nat → Nat} {ca : Nat → ClassId} {p : Program} {e : Env} {s : State} {m : MethodId} {args : Array Value} {below : List Frame} {meth : Method} {c : Code} (hE : qok 19 q) (hC : Cx p s m args meth c cX8_digest 4 RX8 (some .long) D (tysM ca) ZM) (Q : Int64 → St → Prop) : ∀ (n : Nat) (a1 : Int64) (a3 : Int32) (σ : St), f_X8_digest_b59 Q n a1 a3 σ → J p l e { frames := 4, cells := 0, slots := 0, locals := 93 } s m args below meth c (MQ below (va_Ql Q (BW D (wM q ca)) (AM q)) args s 0 0 (AM q)) D (AM q) 4 0 0 (wM q ca σ) 59 [(0, .ref (q 0)), (1, .long a1), (3, .int a3)] [] := by
  intro n
  induction n with
  | zero => intro a1 a3 σ hf; exact hf.elim
  | succ n ih =>
    intro a1 a3 σ hf
    unfold f_X8_digest_b59 at hf
    refine j_iload_n hC 2 dX8_digest_59 (pc' := 60) rfl rfl ?_
    refine j_aload_n hC 0 dX8_digest_60 (pc' := 61) rfl rfl ?_
    refine gM_postures hC wm_566 dX8_digest_61 (pc' := 64) rfl ?_
    refine j_icmp_ge hC (tgt := 101) dX8_digest_64 (pc' := 67) rfl (by decide) (fun c_ => ?_) (fun c_ => ?_)
    · replace hf := hf.1 c_
      refine j_aload_n hC 0 dX8_digest_101 (pc' := 102) rfl rfl ?_
      refine jcV_v hC (eM hE) (As := []) (obM_X8) (rfl) (lk_X8_findTable hE  σ _ hf) wm_710 wm_711 wm_909 wm_8 wm_712 dy_X8_findTable ⟨rfl, rfl⟩ ⟨Nat.le_of_ble_eq_true rfl, Nat.le_of_ble_eq_true rfl⟩ ⟨Nat.le_refl _, Nat.le_refl _⟩ rfl rfl (Nat.le_of_ble_eq_true rfl) dX8_digest_102 (pc' := 105) rfl (fun σ2 hf => ?_)
      refine j_iconst hC (v := 0) dX8_digest_105 (pc' := 106) rfl (by decide) ?_
      refine j_istore_n hC (lv' := [(3, .int (0 : Int32)), (0, .ref (q 0)), (1, .long a1)]) dX8_digest_106 (pc' := 107) rfl rfl (by decide) rfl ?_
      obtain ⟨n11, hf⟩ := hf
      refine j_lv [1, 2, 0] rfl ?_
      exact lb_X8_digest_b107 hE hC Q n11 a1 (0 : Int32) σ2 hf
    · replace hf := hf.2 c_
      refine j_ldc2 hC (v := 31) dX8_digest_67 (pc' := 70) rfl wm_881 ?_
      refine j_lload_n hC 1 dX8_digest_70 (pc' := 71) rfl rfl ?_
      refine j_lmul hC dX8_digest_71 (pc' := 72) rfl ?_
      refine j_aload_n hC 0 dX8_digest_72 (pc' := 73) rfl rfl ?_
      refine j_iload_n hC 2 dX8_digest_73 (pc' := 74) rfl rfl ?_
      refine j_iconst hC (v := 0) dX8_digest_74 (pc' := 75) rfl (by decide) ?_
      refine jcV_i hC (eM hE) (As := [.int a3, .int (0 : Int32)]) (obM_X8) (rfl) (lk_X8_handOf hE a3 (0 : Int32) σ _ hf) wm_672 wm_673 wm_904 wm_8 wm_674 dy_X8_handOf ⟨rfl, rfl⟩ ⟨Nat.le_of_ble_eq_true rfl, Nat.le_of_ble_eq_true rfl⟩ ⟨Nat.le_refl _, Nat.le_refl _⟩ rfl rfl (Nat.le_of_ble_eq_true rfl) dX8_digest_75 (pc' := 78) rfl (fun r12 σ13 hf => ?_)
      refine j_i2l hC dX8_digest_78 (pc' := 79) rfl ?_
      refine j_ladd hC dX8_digest_79 (pc' := 80) rfl ?_
      refine j_nml (fun x14 ex14 => ?_)
      replace hf := hf x14 ex14
      refine j_lstore_n hC (lv' := [(1, .long x14), (0, .ref (q 0)), (3, .int a3)]) dX8_digest_80 (pc' := 81) rfl rfl (by decide) rfl ?_
      refine j_ldc2 hC (v := 31) dX8_digest_81 (pc' := 84) rfl wm_881 ?_
      refine j_lload_n hC 0 dX8_digest_84 (pc' := 85) rfl rfl ?_
      refine j_lmul hC dX8_digest_85 (pc' := 86) rfl ?_
      refine j_aload_n hC 1 dX8_digest_86 (pc' := 87) rfl rfl ?_
      refine j_iload_n hC 2 dX8_digest_87 (pc' := 88) rfl rfl ?_
      refine j_iconst hC (v := 1) dX8_digest_88 (pc' := 89) rfl (by decide) ?_
      refine jcV_i hC (eM hE) (As := [.int a3, .int (1 : Int32)]) (obM_X8) (rfl) (lk_X8_handOf hE a3 (1 : Int32) σ13 _ hf) wm_672 wm_673 wm_904 wm_8 wm_674 dy_X8_handOf ⟨rfl, rfl⟩ ⟨Nat.le_of_ble_eq_true rfl, Nat.le_of_ble_eq_true rfl⟩ ⟨Nat.le_refl _, Nat.le_refl _⟩ rfl rfl (Nat.le_of_ble_eq_true rfl) dX8_digest_89 (pc' := 92) rfl (fun r15 σ16 hf => ?_)
      refine j_i2l hC dX8_digest_92 (pc' := 93) rfl ?_
      refine j_ladd hC dX8_digest_93 (pc' := 94) rfl ?_
      refine j_nml (fun x17 ex17 => ?_)
      replace hf := hf x17 ex17
      refine j_lstore_n hC (lv' := [(1, .long x17), (0, .ref (q 0)), (3, .int a3)]) dX8_digest_94 (pc' := 95) rfl rfl (by decide) rfl ?_
      obtain ⟨x18, ex18⟩ : ∃ y : Int32, y = a3 + (1 : Int32) := ⟨_, rfl⟩
      replace hf := hf x18 ex18
      refine j_iinc hC (v := x18) (q := 2) (lv' := [(3, .int x18), (1, .long x17), (0, .ref (q 0))]) dX8_digest_95 (pc' := 98) rfl rfl (by rw [ex18]; rfl) (by decide) rfl ?_
      refine j_goto hC (tgt := 59) dX8_digest_98 (by decide) ?_
      refine j_lv [2, 1, 0] rfl ?_
      exact ih x17 x18 σ16 hf
set_option maxHeartbeats 4000000 in
set_option maxRecDepth 100000 in
theorem lb_X8_digest_b32 {l : Launch} {D : va_G} {q : Nat → Nat} {ca : Nat → ClassId} {p : Program} {e : Env} {s : State} {m : MethodId} {args : Array Value} {below : List Frame} {meth : Method} {c : Code} (hE : qok 19 q) (hC : Cx p s m args meth c cX8_digest 4 RX8 (some .long) D (tysM ca) ZM) (Q : Int64 → St → Prop) : ∀ (n : Nat) (a1 : Int64) (a3 : Int32) (σ : St), f_X8_digest_b32 Q n a1 a3 σ → J p l e { frames := 4, cells := 0, slots := 0, locals := 93 } s m args below meth c (MQ below (va_Ql Q (BW D (wM q ca)) (AM q)) args s 0 0 (AM q)) D (AM q) 4 0 0 (wM q ca σ) 32 [(0, .ref (q 0)), (1, .long a1), (3, .int a3)] [] := by
  intro n
  induction n with
  | zero => intro a1 a3 σ hf; exact hf.elim
  | succ n ih =>
    intro a1 a3 σ hf
    unfold f_X8_digest_b32 at hf
    refine j_iload_n hC 2 dX8_digest_32 (pc' := 33) rfl rfl ?_
    refine j_iconst hC (v := 3) dX8_digest_33 (pc' := 34) rfl (by decide) ?_
    refine j_icmp_ge hC (tgt := 57) dX8_digest_34 (pc' := 37) rfl (by decide) (fun c_ => ?_) (fun c_ => ?_)
    · replace hf := hf.1 c_
      refine j_iconst hC (v := 0) dX8_digest_57 (pc' := 58) rfl (by decide) ?_
      refine j_istore_n hC (lv' := [(3, .int (0 : Int32)), (0, .ref (q 0)), (1, .long a1)]) dX8_digest_58 (pc' := 59) rfl rfl (by decide) rfl ?_
      obtain ⟨n19, hf⟩ := hf
      refine j_lv [1, 2, 0] rfl ?_
      exact lb_X8_digest_b59 hE hC Q n19 a1 (0 : Int32) σ hf
    · replace hf := hf.2 c_
      refine j_ldc2 hC (v := 31) dX8_digest_37 (pc' := 40) rfl wm_881 ?_
      refine j_lload_n hC 1 dX8_digest_40 (pc' := 41) rfl rfl ?_
      refine j_lmul hC dX8_digest_41 (pc' := 42) rfl ?_
      refine j_aload_n hC 0 dX8_digest_42 (pc' := 43) rfl rfl ?_
      refine gM_lengths hC wm_565 dX8_digest_43 (pc' := 46) rfl ?_
      refine j_iload_n hC 2 dX8_digest_46 (pc' := 47) rfl rfl ?_
      obtain ⟨h20, hf⟩ := hf
      refine lM_lengths hC (j := (Int32.toNatClampNeg a3)) h20 rfl dX8_digest_47 (pc' := 48) rfl ?_
      refine j_i2l hC dX8_digest_48 (pc' := 49) rfl ?_
      refine j_ladd hC dX8_digest_49 (pc' := 50) rfl ?_
      refine j_nml (fun x21 ex21 => ?_)
      replace hf := hf x21 ex21
      refine j_lstore_n hC (lv' := [(1, .long x21), (0, .ref (q 0)), (3, .int a3)]) dX8_digest_50 (pc' := 51) rfl rfl (by decide) rfl ?_
      obtain ⟨x22, ex22⟩ : ∃ y : Int32, y = a3 + (1 : Int32) := ⟨_, rfl⟩
      replace hf := hf x22 ex22
      refine j_iinc hC (v := x22) (q := 2) (lv' := [(3, .int x22), (1, .long x21), (0, .ref (q 0))]) dX8_digest_51 (pc' := 54) rfl rfl (by rw [ex22]; rfl) (by decide) rfl ?_
      refine j_goto hC (tgt := 32) dX8_digest_54 (by decide) ?_
      refine j_lv [2, 1, 0] rfl ?_
      exact ih x21 x22 σ hf
set_option maxHeartbeats 4000000 in
set_option maxRecDepth 100000 in
theorem lb_X8_digest_b6 {l : Launch} {D : va_G} {q : Nat → Nat} {ca : Nat → ClassId} {p : Program} {e : Env} {s : State} {m : MethodId} {args : Array Value} {below : List Frame} {meth : Method} {c : Code} (hE : qok 19 q) (hC : Cx p s m args meth c cX8_digest 4 RX8 (some .long) D (tysM ca) ZM) (Q : Int64 → St → Prop) : ∀ (n : Nat) (a1 : Int64) (a3 : Int32) (σ : St), f_X8_digest_b6 Q n a1 a3 σ → J p l e { frames := 4, cells := 0, slots := 0, locals := 93 } s m args below meth c (MQ below (va_Ql Q (BW D (wM q ca)) (AM q)) args s 0 0 (AM q)) D (AM q) 4 0 0 (wM q ca σ) 6 [(0, .ref (q 0)), (1, .long a1), (3, .int a3)] [] := by
  intro n
  induction n with
  | zero => intro a1 a3 σ hf; exact hf.elim
  | succ n ih =>
    intro a1 a3 σ hf
    unfold f_X8_digest_b6 at hf
    refine j_iload_n hC 2 dX8_digest_6 (pc' := 7) rfl rfl ?_
    refine j_iconst hC (v := 5) dX8_digest_7 (pc' := 8) rfl (by decide) ?_
    refine j_icmp_ge hC (tgt := 30) dX8_digest_8 (pc' := 11) rfl (by decide) (fun c_ => ?_) (fun c_ => ?_)
    · replace hf := hf.1 c_
      refine j_iconst hC (v := 0) dX8_digest_30 (pc' := 31) rfl (by decide) ?_
      refine j_istore_n hC (lv' := [(3, .int (0 : Int32)), (0, .ref (q 0)), (1, .long a1)]) dX8_digest_31 (pc' := 32) rfl rfl (by decide) rfl ?_
      obtain ⟨n23, hf⟩ := hf
      refine j_lv [1, 2, 0] rfl ?_
      exact lb_X8_digest_b32 hE hC Q n23 a1 (0 : Int32) σ hf
    · replace hf := hf.2 c_
      refine j_ldc2 hC (v := 31) dX8_digest_11 (pc' := 14) rfl wm_881 ?_
      refine j_lload_n hC 1 dX8_digest_14 (pc' := 15) rfl rfl ?_
      refine j_lmul hC dX8_digest_15 (pc' := 16) rfl ?_
      refine j_aload_n hC 0 dX8_digest_16 (pc' := 17) rfl rfl ?_
      refine j_iload_n hC 2 dX8_digest_17 (pc' := 18) rfl rfl ?_
      refine jcV_i hC (eM hE) (As := [.int a3]) (obM_X8) (rfl) (lk_X8_count hE a3 σ _ hf) wm_882 wm_873 wm_874 wm_8 wm_875 dy_X8_count ⟨rfl, rfl⟩ ⟨Nat.le_of_ble_eq_true rfl, Nat.le_of_ble_eq_true rfl⟩ ⟨Nat.le_refl _, Nat.le_refl _⟩ rfl rfl (Nat.le_of_ble_eq_true rfl) dX8_digest_18 (pc' := 21) rfl (fun r24 σ25 hf => ?_)
      refine j_i2l hC dX8_digest_21 (pc' := 22) rfl ?_
      refine j_ladd hC dX8_digest_22 (pc' := 23) rfl ?_
      refine j_nml (fun x26 ex26 => ?_)
      replace hf := hf x26 ex26
      refine j_lstore_n hC (lv' := [(1, .long x26), (0, .ref (q 0)), (3, .int a3)]) dX8_digest_23 (pc' := 24) rfl rfl (by decide) rfl ?_
      obtain ⟨x27, ex27⟩ : ∃ y : Int32, y = a3 + (1 : Int32) := ⟨_, rfl⟩
      replace hf := hf x27 ex27
      refine j_iinc hC (v := x27) (q := 2) (lv' := [(3, .int x27), (1, .long x26), (0, .ref (q 0))]) dX8_digest_24 (pc' := 27) rfl rfl (by rw [ex27]; rfl) (by decide) rfl ?_
      refine j_goto hC (tgt := 6) dX8_digest_27 (by decide) ?_
      refine j_lv [2, 1, 0] rfl ?_
      exact ih x26 x27 σ25 hf
set_option maxHeartbeats 4000000 in
set_option maxRecDepth 100000 in
theorem lk_X8_digest {l : Launch} {D : va_G} {q : Nat → Nat} {ca : Nat → ClassId} (hE : qok 19 q) (σ : St) (Q : Int64 → St → Prop) (hf : f_X8_digest σ Q) : Ml l yX8_digest cX8_digest 4 (some .long) { frames := 4, cells := 0, slots := 0, locals := 93 } D (tysM ca) ZM (wM q ca) (AM q) [.ref (q 0)] σ Q := by
  refine j_start (own := RX8) (lv := [(0, .ref (q 0))]) [.ref (q 0)] (by decide +kernel) rfl (wM_D hE σ) (Nat.le_of_ble_eq_true rfl) rfl (fun p e s m args below meth c hC => ?_)
  unfold f_X8_digest at hf
  refine j_ldc2 hC (v := 17) dX8_digest_0 (pc' := 3) rfl wm_880 ?_
  refine j_lstore_n hC (lv' := [(1, .long (17 : Int64)), (0, .ref (q 0))]) dX8_digest_3 (pc' := 4) rfl rfl (by decide) rfl ?_
  refine j_iconst hC (v := 0) dX8_digest_4 (pc' := 5) rfl (by decide) ?_
  refine j_istore_n hC (lv' := [(3, .int (0 : Int32)), (1, .long (17 : Int64)), (0, .ref (q 0))]) dX8_digest_5 (pc' := 6) rfl rfl (by decide) rfl ?_
  obtain ⟨n28, hf⟩ := hf
  refine j_lv [2, 1, 0] rfl ?_
  exact lb_X8_digest_b6 hE hC Q n28 (17 : Int64) (0 : Int32) σ hf
