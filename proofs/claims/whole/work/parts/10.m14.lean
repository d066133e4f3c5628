def f_X8_drift_b141 (Q : Int32 → St → Prop) (a4 : Int32) (a5 : Int32) (a6 : Int32) (σ : St) : Prop := ((¬ a4 = 0) → ((¬ a4 = (1 : Int32)) → ((a5 - a6) ≤ a6 → f_X8_falseShare a5 (a5 - a6) σ (fun r7 σ8 => Q r7 σ8)) ∧ ((¬ (a5 - a6) ≤ a6) → f_X8_falseShare a5 a6 σ (fun r9 σ10 => Q r9 σ10))) ∧ (a4 = (1 : Int32) → Q a6 σ)) ∧ (a4 = 0 → Q a5 σ)
def f_X8_drift_b107 (Q : Int32 → St → Prop) (K72 : Int32 → Int32 → Int32 → Int32 → Int32 → Int32 → St → Prop) (a1 : Int32) (a3 : Int32) (a4 : Int32) (a6 : Int32) (a7 : Int32) (z0 : Int32) (z1 : Int32) (σ : St) : Prop := ∀ x12 : Int32, x12 = z1 + z0 → vp_in (((100 : Int32) * a1) + a7) 400 ∧ ((σ.1 24 (Int32.toNatClampNeg (((100 : Int32) * a1) + a7))) ≤ 0 → ∀ x14 : Int32, x14 = a6 + (0 : Int32) → ∀ x15 : Int32, x15 = a7 + (1 : Int32) → K72 a1 a3 a4 x12 x14 x15 σ) ∧ ((¬ (σ.1 24 (Int32.toNatClampNeg (((100 : Int32) * a1) + a7))) ≤ 0) → ∀ x16 : Int32, x16 = a6 + (1 : Int32) → ∀ x17 : Int32, x17 = a7 + (1 : Int32) → K72 a1 a3 a4 x12 x16 x17 σ)
def f_X8_drift_b72 (Q : Int32 → St → Prop) : Nat → Int32 → Int32 → Int32 → Int32 → Int32 → Int32 → St → Prop
  | 0, _, _, _, _, _, _, _ => False
  | n + 1, a1, a3, a4, a5, a6, a7, σ => (a3 < a7 → f_X8_drift_b141 Q a4 a5 a6 σ) ∧ ((¬ a3 < a7) → ((50 : Int32) ≤ a5 → f_X8_drift_b141 Q a4 a5 a6 σ) ∧ ((¬ (50 : Int32) ≤ a5) → vp_in (((100 : Int32) * a1) + a7) 400 ∧ ((σ.1 24 (Int32.toNatClampNeg (((100 : Int32) * a1) + a7))) = 0 → f_X8_drift_b107 Q (fun a1 a3 a4 a5 a6 a7 σ => f_X8_drift_b72 Q n a1 a3 a4 a5 a6 a7 σ) a1 a3 a4 a6 a7 (0 : Int32) a5 σ) ∧ ((¬ (σ.1 24 (Int32.toNatClampNeg (((100 : Int32) * a1) + a7))) = 0) → f_X8_drift_b107 Q (fun a1 a3 a4 a5 a6 a7 σ => f_X8_drift_b72 Q n a1 a3 a4 a5 a6 a7 σ) a1 a3 a4 a6 a7 (1 : Int32) a5 σ)))
def f_X8_drift (a1 : Int32) (a2 : Int32) (a3 : Int32) (a4 : Int32) (σ : St) (Q : Int32 → St → Prop) : Prop := f_X8_isSheet a1 σ (fun r1 σ2 => (r1 = 0 → Q (-2 : Int32) σ2) ∧ ((¬ r1 = 0) → (a2 < 0 → Q (-2 : Int32) σ2) ∧ ((¬ a2 < 0) → (a3 < a2 → Q (-2 : Int32) σ2) ∧ ((¬ a3 < a2) → f_X8_in (Int32.toInt64 a4) (0 : Int64) (2 : Int64) σ2 (fun r3 σ4 => ((¬ r3 = 0) → vp_in a1 4 ∧ (0 ≤ (σ4.1 22 (Int32.toNatClampNeg a1)) → vp_in a1 4 ∧ (a3 < (σ4.1 23 (Int32.toNatClampNeg a1)) → ∃ n18 : Nat, f_X8_drift_b72 Q n18 a1 a3 a4 (0 : Int32) (0 : Int32) a2 σ4) ∧ ((¬ a3 < (σ4.1 23 (Int32.toNatClampNeg a1))) → f_X8_met (2 : Int32) σ4 (fun r19 σ20 => Q r19 σ20))) ∧ ((¬ 0 ≤ (σ4.1 22 (Int32.toNatClampNeg a1))) → f_X8_met (1 : Int32) σ4 (fun r21 σ22 => Q r21 σ22))) ∧ (r3 = 0 → Q (-2 : Int32) σ4))))))
theorem dy_X8_drift : yX8_drift.cls = yX8_drift.cls ∧ yX8_drift.cls ≠ "java/lang/invoke/MethodHandle" ∧ yX8_drift.cls ≠ "java/lang/invoke/VarHandle" ∧ (parseMethodDescriptor yX8_drift.desc).map (fun d => d.parameters.length) = some 4 := by decide +kernel
set_option maxHeartbeats 4000000 in
set_option maxRecDepth 100000 in
theorem lb_X8_drift_b141 {l : Launch} {D : va_G} {q : Nat → Nat} {ca : Nat → ClassId} {p : Program} {e : Env} {s : State} {m : MethodId} {args : Array Value} {below : List Frame} {meth : Method} {c : Code} (hE : qok 19 q) (hC : Cx p s m args meth c cX8_drift 8 RX8 (some .int) D (tysM ca) ZM) (Q : Int32 → St → Prop) (a4 : Int32) (a5 : Int32) (a6 : Int32) (σ : St) (hf : f_X8_drift_b141 Q a4 a5 a6 σ) : J p l e { frames := 2, cells := 0, slots := 0, locals := 45 } s m args below meth c (MQ below (va_Qi Q (BW D (wM q ca)) (AM q)) args s 0 0 (AM q)) D (AM q) 8 0 0 (wM q ca σ) 141 [(4, .int a4), (5, .int a5), (6, .int a6)] [] := by
  unfold f_X8_drift_b141 at hf
  refine j_iload hC 0 dX8_drift_141 (pc' := 143) rfl rfl ?_
  refine j_if_ne hC (tgt := 151) dX8_drift_143 (pc' := 146) rfl (by decide) (fun c_ => ?_) (fun c_ => ?_)
  · replace hf := hf.1 c_
    refine j_iload hC 0 dX8_drift_151 (pc' := 153) rfl rfl ?_
    refine j_iconst hC (v := 1) dX8_drift_153 (pc' := 154) rfl (by decide) ?_
    refine j_icmp_ne hC (tgt := 162) dX8_drift_154 (pc' := 157) rfl (by decide) (fun c_ => ?_) (fun c_ => ?_)
    · replace hf := hf.1 c_
      refine j_iload hC 1 dX8_drift_162 (pc' := 164) rfl rfl ?_
      refine j_iload hC 2 dX8_drift_164 (pc' := 166) rfl rfl ?_
      refine j_iload hC 1 dX8_drift_166 (pc' := 168) rfl rfl ?_
      refine j_iload hC 2 dX8_drift_168 (pc' := 170) rfl rfl ?_
      refine j_isub hC dX8_drift_170 (pc' := 171) rfl ?_
      refine j_icmp_ge hC (tgt := 179) dX8_drift_171 (pc' := 174) rfl (by decide) (fun c_ => ?_) (fun c_ => ?_)
      · replace hf := hf.1 c_
        refine j_iload hC 1 dX8_drift_179 (pc' := 181) rfl rfl ?_
        refine j_iload hC 2 dX8_drift_181 (pc' := 183) rfl rfl ?_
        refine j_isub hC dX8_drift_183 (pc' := 184) rfl ?_
        refine jcS_i hC (eM hE) (As := [.int a5, .int (a5 - a6)]) (lk_X8_falseShare hE a5 (a5 - a6) σ _ hf) wm_845 wm_846 wm_8 wm_847 dy_X8_falseShare ⟨rfl, rfl⟩ ⟨Nat.le_of_ble_eq_true rfl, Nat.le_of_ble_eq_true rfl⟩ ⟨Nat.le_refl _, Nat.le_refl _⟩ rfl rfl (Nat.le_of_ble_eq_true rfl) dX8_drift_184 (pc' := 187) rfl (fun r7 σ8 hf => ?_)
        exact j_iret hC dX8_drift_187 hf
      · replace hf := hf.2 c_
        refine j_iload hC 2 dX8_drift_174 (pc' := 176) rfl rfl ?_
        refine j_goto hC (tgt := 184) dX8_drift_176 (by decide) ?_
        refine jcS_i hC (eM hE) (As := [.int a5, .int a6]) (lk_X8_falseShare hE a5 a6 σ _ hf) wm_845 wm_846 wm_8 wm_847 dy_X8_falseShare ⟨rfl, rfl⟩ ⟨Nat.le_of_ble_eq_true rfl, Nat.le_of_ble_eq_true rfl⟩ ⟨Nat.le_refl _, Nat.le_refl _⟩ rfl rfl (Nat.le_of_ble_eq_true rfl) dX8_drift_184 (pc' := 187) rfl (fun r9 σ10 hf => ?_)
        exact j_iret hC dX8_drift_187 hf
    · replace hf := hf.2 c_
      refine j_iload hC 2 dX8_drift_157 (pc' := 159) rfl rfl ?_
      refine j_goto hC (tgt := 187) dX8_drift_159 (by decide) ?_
      exact j_iret hC dX8_drift_187 hf
  · replace hf := hf.2 c_
    refine j_iload hC 1 dX8_drift_146 (pc' := 148) rfl rfl ?_
    refine j_goto hC (tgt := 187) dX8_drift_148 (by decide) ?_
    exact j_iret hC dX8_drift_187 hf
set_option maxHeartbeats 4000000 in
set_option maxRecDepth 100000 in
theorem lb_X8_drift_b107 {l : Launch} {D : va_G} {q : Nat → Nat} {ca : Nat → ClassId} {p : Program} {e : Env} {s : State} {m : MethodId} {args : Array Value} {below : List Frame} {meth : Method} {c : Code} (hE : qok 19 q) (hC : Cx p s m args meth c cX8_drift 8 RX8 (some .int) D (tysM ca) ZM) (Q : Int32 → St → Prop) (K72 : Int32 → Int32 → Int32 → Int32 → Int32 → Int32 → St → Prop) (hK72 : ∀ (a1 : Int32) (a3 : Int32) (a4 : Int32) (a5 : Int32) (a6 : Int32) (a7 : Int32) (σ : St), K72 a1 a3 a4 a5 a6 a7 σ → J p l e { frames := 2, cells := 0, slots := 0, locals := 45 } s m args below meth c (MQ below (va_Qi Q (BW D (wM q ca)) (AM q)) args s 0 0 (AM q)) D (AM q) 8 0 0 (wM q ca σ) 72 [(0, .ref (q 0)), (1, .int a1), (3, .int a3), (4, .int a4), (5, .int a5), (6, .int a6), (7, .int a7)] []) (a1 : Int32) (a3 : Int32) (a4 : Int32) (a6 : Int32) (a7 : Int32) (z0 : Int32) (z1 : Int32) (σ : St) (hf : f_X8_drift_b107 Q K72 a1 a3 a4 a6 a7 z0 z1 σ) : J p l e { frames := 2, cells := 0, slots := 0, locals := 45 } s m args below meth c (MQ below (va_Qi Q (BW D (wM q ca)) (AM q)) args s 0 0 (AM q)) D (AM q) 8 0 0 (wM q ca σ) 107 [(0, .ref (q 0)), (1, .int a1), (3, .int a3), (4, .int a4), (6, .int a6), (7, .int a7)] [.int z0, .int z1] := by
  unfold f_X8_drift_b107 at hf
  refine j_iadd hC dX8_drift_107 (pc' := 108) rfl ?_
  refine j_nmi (fun x12 ex12 => ?_)
  replace hf := hf x12 ex12
  refine j_istore hC (lv' := [(5, .int x12), (0, .ref (q 0)), (1, .int a1), (3, .int a3), (4, .int a4), (6, .int a6), (7, .int a7)]) dX8_drift_108 (pc' := 110) rfl (by decide) rfl ?_
  refine j_iload hC 5 dX8_drift_110 (pc' := 112) rfl rfl ?_
  refine j_aload_n hC 1 dX8_drift_112 (pc' := 113) rfl rfl ?_
  refine gM_items hC wm_585 dX8_drift_113 (pc' := 116) rfl ?_
  refine j_bipush hC (v := 100) dX8_drift_116 (pc' := 118) rfl (by decide) ?_
  refine j_iload_n hC 2 dX8_drift_118 (pc' := 119) rfl rfl ?_
  refine j_imul hC dX8_drift_119 (pc' := 120) rfl ?_
  refine j_iload hC 6 dX8_drift_120 (pc' := 122) rfl rfl ?_
  refine j_iadd hC dX8_drift_122 (pc' := 123) rfl ?_
  obtain ⟨h13, hf⟩ := hf
  refine lM_items hC (j := (Int32.toNatClampNeg (((100 : Int32) * a1) + a7))) h13 rfl dX8_drift_123 (pc' := 124) rfl ?_
  refine j_if_le hC (tgt := 131) dX8_drift_124 (pc' := 127) rfl (by decide) (fun c_ => ?_) (fun c_ => ?_)
  · replace hf := hf.1 c_
    refine j_iconst hC (v := 0) dX8_drift_131 (pc' := 132) rfl (by decide) ?_
    refine j_iadd hC dX8_drift_132 (pc' := 133) rfl ?_
    refine j_nmi (fun x14 ex14 => ?_)
    replace hf := hf x14 ex14
    refine j_istore hC (lv' := [(6, .int x14), (5, .int x12), (0, .ref (q 0)), (1, .int a1), (3, .int a3), (4, .int a4), (7, .int a7)]) dX8_drift_133 (pc' := 135) rfl (by decide) rfl ?_
    obtain ⟨x15, ex15⟩ : ∃ y : Int32, y = a7 + (1 : Int32) := ⟨_, rfl⟩
    replace hf := hf x15 ex15
    refine j_iinc hC (v := x15) (q := 6) (lv' := [(7, .int x15), (6, .int x14), (5, .int x12), (0, .ref (q 0)), (1, .int a1), (3, .int a3), (4, .int a4)]) dX8_drift_135 (pc' := 138) rfl rfl (by rw [ex15]; rfl) (by decide) rfl ?_
    refine j_goto hC (tgt := 72) dX8_drift_138 (by decide) ?_
    refine j_lv [3, 4, 5, 6, 2, 1, 0] rfl ?_
    exact hK72 a1 a3 a4 x12 x14 x15 σ hf
  · replace hf := hf.2 c_
    refine j_iconst hC (v := 1) dX8_drift_127 (pc' := 128) rfl (by decide) ?_
    refine j_goto hC (tgt := 132) dX8_drift_128 (by decide) ?_
    refine j_iadd hC dX8_drift_132 (pc' := 133) rfl ?_
    refine j_nmi (fun x16 ex16 => ?_)
    replace hf := hf x16 ex16
    refine j_istore hC (lv' := [(6, .int x16), (5, .int x12), (0, .ref (q 0)), (1, .int a1), (3, .int a3), (4, .int a4), (7, .int a7)]) dX8_drift_133 (pc' := 135) rfl (by decide) rfl ?_
    obtain ⟨x17, ex17⟩ : ∃ y : Int32, y = a7 + (1 : Int32) := ⟨_, rfl⟩
    replace hf := hf x17 ex17
    refine j_iinc hC (v := x17) (q := 6) (lv' := [(7, .int x17), (6, .int x16), (5, .int x12), (0, .ref (q 0)), (1, .int a1), (3, .int a3), (4, .int a4)]) dX8_drift_135 (pc' := 138) rfl rfl (by rw [ex17]; rfl) (by decide) rfl ?_
    refine j_goto hC (tgt := 72) dX8_drift_138 (by decide) ?_
    refine j_lv [3, 4, 5, 6, 2, 1, 0] rfl ?_
    exact hK72 a1 a3 a4 x12 x16 x17 σ hf
set_option maxHeartbeats 4000000 in
set_option maxRecDepth 100000 in
theorem lb_X8_drift_b72 {l : Launch} {D : va_G} {q : Nat → Nat} {ca : Nat → ClassId} {p : Program} {e : Env} {s : State} {m : MethodId} {args : Array Value} {below : List Frame} {meth : Method} {c : Code} (hE : qok 19 q) (hC : Cx p s m args meth c cX8_drift 8 RX8 (some .int) D (tysM ca) ZM) (Q : Int32 → St → Prop) : ∀ (n : Nat) (a1 : Int32) (a3 : Int32) (a4 : Int32) (a5 : Int32) (a6 : Int32) (a7 : Int32) (σ : St), f_X8_drift_b72 Q n a1 a3 a4 a5 a6 a7 σ → J p l e { frames := 2, cells := 0, slots := 0, locals := 45 } s m args below meth c (MQ below (va_Qi Q (BW D (wM q ca)) (AM q)) args s 0 0 (AM q)) D (AM q) 8 0 0 (wM q ca σ) 72 [(0, .ref (q 0)), (1, .int a1), (3, .int a3), (4, .int a4), (5, .int a5), (6, .int a6), (7, .int a7)] [] := by
  intro n
  induction n with
  | zero => intro a1 a3 a4 a5 a6 a7 σ hf; exact hf.elim
  | succ n ih =>
    intro a1 a3 a4 a5 a6 a7 σ hf
    unfold f_X8_drift_b72 at hf
    refine j_iload hC 6 dX8_drift_72 (pc' := 74) rfl rfl ?_
    refine j_iload_n hC 2 dX8_drift_74 (pc' := 75) rfl rfl ?_
    refine j_icmp_gt hC (tgt := 141) dX8_drift_75 (pc' := 78) rfl (by decide) (fun c_ => ?_) (fun c_ => ?_)
    · replace hf := hf.1 c_
      refine j_lv [3, 4, 5] rfl ?_
      exact lb_X8_drift_b141 hE hC Q a4 a5 a6 σ hf
    · replace hf := hf.2 c_
      refine j_iload hC 4 dX8_drift_78 (pc' := 80) rfl rfl ?_
      refine j_bipush hC (v := 50) dX8_drift_80 (pc' := 82) rfl (by decide) ?_
      refine j_icmp_ge hC (tgt := 141) dX8_drift_82 (pc' := 85) rfl (by decide) (fun c_ => ?_) (fun c_ => ?_)
      · replace hf := hf.1 c_
        refine j_lv [3, 4, 5] rfl ?_
        exact lb_X8_drift_b141 hE hC Q a4 a5 a6 σ hf
      · replace hf := hf.2 c_
        refine j_iload hC 4 dX8_drift_85 (pc' := 87) rfl rfl ?_
        refine j_aload_n hC 0 dX8_drift_87 (pc' := 88) rfl rfl ?_
        refine gM_items hC wm_585 dX8_drift_88 (pc' := 91) rfl ?_
        refine j_bipush hC (v := 100) dX8_drift_91 (pc' := 93) rfl (by decide) ?_
        refine j_iload_n hC 1 dX8_drift_93 (pc' := 94) rfl rfl ?_
        refine j_imul hC dX8_drift_94 (pc' := 95) rfl ?_
        refine j_iload hC 6 dX8_drift_95 (pc' := 97) rfl rfl ?_
        refine j_iadd hC dX8_drift_97 (pc' := 98) rfl ?_
        obtain ⟨h11, hf⟩ := hf
        refine lM_items hC (j := (Int32.toNatClampNeg (((100 : Int32) * a1) + a7))) h11 rfl dX8_drift_98 (pc' := 99) rfl ?_
        refine j_if_eq hC (tgt := 106) dX8_drift_99 (pc' := 102) rfl (by decide) (fun c_ => ?_) (fun c_ => ?_)
        · replace hf := hf.1 c_
          refine j_iconst hC (v := 0) dX8_drift_106 (pc' := 107) rfl (by decide) ?_
          refine j_lv [0, 1, 2, 3, 5, 6] rfl ?_
          exact lb_X8_drift_b107 hE hC Q _ ih a1 a3 a4 a6 a7 (0 : Int32) a5 σ hf
        · replace hf := hf.2 c_
          refine j_iconst hC (v := 1) dX8_drift_102 (pc' := 103) rfl (by decide) ?_
          refine j_goto hC (tgt := 107) dX8_drift_103 (by decide) ?_
          refine j_lv [0, 1, 2, 3, 5, 6] rfl ?_
          exact lb_X8_drift_b107 hE hC Q _ ih a1 a3 a4 a6 a7 (1 : Int32) a5 σ hf
set_option maxHeartbeats 4000000 in
set_option maxRecDepth 100000 in
theorem lk_X8_drift {l : Launch} {D : va_G} {q : Nat → Nat} {ca : Nat → ClassId} (hE : qok 19 q) (a1 : Int32) (a2 : Int32) (a3 : Int32) (a4 : Int32) (σ : St) (Q : Int32 → St → Prop) (hf : f_X8_drift a1 a2 a3 a4 σ Q) : Mi l yX8_drift cX8_drift 8 (some .int) { frames := 2, cells := 0, slots := 0, locals := 45 } D (tysM ca) ZM (wM q ca) (AM q) [.ref (q 0), .int a1, .int a2, .int a3, .int a4] σ Q := by
  refine j_start (own := RX8) (lv := [(0, .ref (q 0)), (1, .int a1), (2, .int a2), (3, .int a3), (4, .int a4)]) [.ref (q 0), .int a1, .int a2, .int a3, .int a4] (by decide +kernel) rfl (wM_D hE σ) (Nat.le_of_ble_eq_true rfl) rfl (fun p e s m args below meth c hC => ?_)
  unfold f_X8_drift at hf
  refine j_iload_n hC 1 dX8_drift_0 (pc' := 1) rfl rfl ?_
  refine jcS_i hC (eM hE) (As := [.int a1]) (lk_X8_isSheet hE a1 σ _ hf) wm_838 wm_839 wm_8 wm_840 dy_X8_isSheet ⟨rfl, rfl⟩ ⟨Nat.le_of_ble_eq_true rfl, Nat.le_of_ble_eq_true rfl⟩ ⟨Nat.le_refl _, Nat.le_refl _⟩ rfl rfl (Nat.le_of_ble_eq_true rfl) dX8_drift_1 (pc' := 4) rfl (fun r1 σ2 hf => ?_)
  refine j_if_eq hC (tgt := 29) dX8_drift_4 (pc' := 7) rfl (by decide) (fun c_ => ?_) (fun c_ => ?_)
  · replace hf := hf.1 c_
    refine j_bipush hC (v := -2) dX8_drift_29 (pc' := 31) rfl (by decide) ?_
    exact j_iret hC dX8_drift_31 hf
  · replace hf := hf.2 c_
    refine j_iload_n hC 2 dX8_drift_7 (pc' := 8) rfl rfl ?_
    refine j_if_lt hC (tgt := 29) dX8_drift_8 (pc' := 11) rfl (by decide) (fun c_ => ?_) (fun c_ => ?_)
    · replace hf := hf.1 c_
      refine j_bipush hC (v := -2) dX8_drift_29 (pc' := 31) rfl (by decide) ?_
      exact j_iret hC dX8_drift_31 hf
    · replace hf := hf.2 c_
      refine j_iload_n hC 2 dX8_drift_11 (pc' := 12) rfl rfl ?_
      refine j_iload_n hC 3 dX8_drift_12 (pc' := 13) rfl rfl ?_
      refine j_icmp_gt hC (tgt := 29) dX8_drift_13 (pc' := 16) rfl (by decide) (fun c_ => ?_) (fun c_ => ?_)
      · replace hf := hf.1 c_
        refine j_bipush hC (v := -2) dX8_drift_29 (pc' := 31) rfl (by decide) ?_
        exact j_iret hC dX8_drift_31 hf
      · replace hf := hf.2 c_
        refine j_iload hC 4 dX8_drift_16 (pc' := 18) rfl rfl ?_
        refine j_i2l hC dX8_drift_18 (pc' := 19) rfl ?_
        refine j_lconst hC (v := 0) dX8_drift_19 (pc' := 20) rfl (by decide) ?_
        refine j_ldc2 hC (v := 2) dX8_drift_20 (pc' := 23) rfl wm_655 ?_
        refine jcS_i hC (eM hE) (As := [.long (Int32.toInt64 a4), .long (0 : Int64), .long (2 : Int64)]) (lk_X8_in hE (Int32.toInt64 a4) (0 : Int64) (2 : Int64) σ2 _ hf) wm_642 wm_643 wm_8 wm_644 dy_X8_in ⟨rfl, rfl⟩ ⟨Nat.le_of_ble_eq_true rfl, Nat.le_of_ble_eq_true rfl⟩ ⟨Nat.le_refl _, Nat.le_refl _⟩ rfl rfl (Nat.le_of_ble_eq_true rfl) dX8_drift_23 (pc' := 26) rfl (fun r3 σ4 hf => ?_)
        refine j_if_ne hC (tgt := 32) dX8_drift_26 (pc' := 29) rfl (by decide) (fun c_ => ?_) (fun c_ => ?_)
        · replace hf := hf.1 c_
          refine j_aload_n hC 0 dX8_drift_32 (pc' := 33) rfl rfl ?_
          refine gM_forms hC wm_583 dX8_drift_33 (pc' := 36) rfl ?_
          refine j_iload_n hC 1 dX8_drift_36 (pc' := 37) rfl rfl ?_
          obtain ⟨h5, hf⟩ := hf
          refine lM_forms hC (j := (Int32.toNatClampNeg a1)) h5 rfl dX8_drift_37 (pc' := 38) rfl ?_
          refine j_if_ge hC (tgt := 47) dX8_drift_38 (pc' := 41) rfl (by decide) (fun c_ => ?_) (fun c_ => ?_)
          · replace hf := hf.1 c_
            refine j_iload_n hC 3 dX8_drift_47 (pc' := 48) rfl rfl ?_
            refine j_aload_n hC 0 dX8_drift_48 (pc' := 49) rfl rfl ?_
            refine gM_sizes hC wm_584 dX8_drift_49 (pc' := 52) rfl ?_
            refine j_iload_n hC 1 dX8_drift_52 (pc' := 53) rfl rfl ?_
            obtain ⟨h6, hf⟩ := hf
            refine lM_sizes hC (j := (Int32.toNatClampNeg a1)) h6 rfl dX8_drift_53 (pc' := 54) rfl ?_
            refine j_icmp_lt hC (tgt := 63) dX8_drift_54 (pc' := 57) rfl (by decide) (fun c_ => ?_) (fun c_ => ?_)
            · replace hf := hf.1 c_
              refine j_iconst hC (v := 0) dX8_drift_63 (pc' := 64) rfl (by decide) ?_
              refine j_istore hC (lv' := [(5, .int (0 : Int32)), (0, .ref (q 0)), (1, .int a1), (2, .int a2), (3, .int a3), (4, .int a4)]) dX8_drift_64 (pc' := 66) rfl (by decide) rfl ?_
              refine j_iconst hC (v := 0) dX8_drift_66 (pc' := 67) rfl (by decide) ?_
              refine j_istore hC (lv' := [(6, .int (0 : Int32)), (5, .int (0 : Int32)), (0, .ref (q 0)), (1, .int a1), (2, .int a2), (3, .int a3), (4, .int a4)]) dX8_drift_67 (pc' := 69) rfl (by decide) rfl ?_
              refine j_iload_n hC 4 dX8_drift_69 (pc' := 70) rfl rfl ?_
              refine j_istore hC (lv' := [(7, .int a2), (6, .int (0 : Int32)), (5, .int (0 : Int32)), (0, .ref (q 0)), (1, .int a1), (2, .int a2), (3, .int a3), (4, .int a4)]) dX8_drift_70 (pc' := 72) rfl (by decide) rfl ?_
              obtain ⟨n18, hf⟩ := hf
              refine j_lv [3, 4, 6, 7, 2, 1, 0] rfl ?_
              exact lb_X8_drift_b72 hE hC Q n18 a1 a3 a4 (0 : Int32) (0 : Int32) a2 σ4 hf
            · replace hf := hf.2 c_
              refine j_aload_n hC 0 dX8_drift_57 (pc' := 58) rfl rfl ?_
              refine j_iconst hC (v := 2) dX8_drift_58 (pc' := 59) rfl (by decide) ?_
              refine jcV_i hC (eM hE) (As := [.int (2 : Int32)]) (obM_X8) (rfl) (lk_X8_met hE (2 : Int32) σ4 _ hf) wm_842 wm_843 wm_923 wm_8 wm_844 dy_X8_met ⟨rfl, rfl⟩ ⟨Nat.le_of_ble_eq_true rfl, Nat.le_of_ble_eq_true rfl⟩ ⟨Nat.le_refl _, Nat.le_refl _⟩ rfl rfl (Nat.le_of_ble_eq_true rfl) dX8_drift_59 (pc' := 62) rfl (fun r19 σ20 hf => ?_)
              exact j_iret hC dX8_drift_62 hf
          · replace hf := hf.2 c_
            refine j_aload_n hC 0 dX8_drift_41 (pc' := 42) rfl rfl ?_
            refine j_iconst hC (v := 1) dX8_drift_42 (pc' := 43) rfl (by decide) ?_
            refine jcV_i hC (eM hE) (As := [.int (1 : Int32)]) (obM_X8) (rfl) (lk_X8_met hE (1 : Int32) σ4 _ hf) wm_842 wm_843 wm_923 wm_8 wm_844 dy_X8_met ⟨rfl, rfl⟩ ⟨Nat.le_of_ble_eq_true rfl, Nat.le_of_ble_eq_true rfl⟩ ⟨Nat.le_refl _, Nat.le_refl _⟩ rfl rfl (Nat.le_of_ble_eq_true rfl) dX8_drift_43 (pc' := 46) rfl (fun r21 σ22 hf => ?_)
            exact j_iret hC dX8_drift_46 hf
        · replace hf := hf.2 c_
          refine j_bipush hC (v := -2) dX8_drift_29 (pc' := 31) rfl (by decide) ?_
          exact j_iret hC dX8_drift_31 hf
def f_X8_sheet_b55 (Q : Int32 → St → Prop) : Nat → Int32 → Int32 → Int32 → St → Prop
  | 0, _, _, _, _ => False
  | n + 1, a1, a3, a4, σ => (a3 ≤ a4 → Q a3 σ) ∧ ((¬ a3 ≤ a4) → vp_in (((100 : Int32) * a1) + a4) 400 ∧ ∀ σ10 : St, σ10 = sI σ 24 (Int32.toNatClampNeg (((100 : Int32) * a1) + a4)) (0 : Int32) → ∀ x11 : Int32, x11 = a4 + (1 : Int32) → f_X8_sheet_b55 Q  n a1 a3 x11 σ10)
def f_X8_sheet (a1 : Int32) (a2 : Int32) (a3 : Int32) (σ : St) (Q : Int32 → St → Prop) : Prop := f_X8_isSheet a1 σ (fun r1 σ2 => (r1 = 0 → Q (-2 : Int32) σ2) ∧ ((¬ r1 = 0) → f_X8_in (Int32.toInt64 a2) (0 : Int64) (2 : Int64) σ2 (fun r3 σ4 => (r3 = 0 → Q (-2 : Int32) σ4) ∧ ((¬ r3 = 0) → (a3 ≤ (100 : Int32) → (0 ≤ a3 → vp_in a1 4 ∧ ∀ σ6 : St, σ6 = sI σ4 22 (Int32.toNatClampNeg a1) a2 → vp_in a1 4 ∧ ∀ σ8 : St, σ8 = sI σ6 23 (Int32.toNatClampNeg a1) a3 → ∃ n12 : Nat, f_X8_sheet_b55 Q n12 a1 a3 (0 : Int32) σ8) ∧ ((¬ 0 ≤ a3) → f_X8_met (5 : Int32) σ4 (fun r13 σ14 => Q r13 σ14))) ∧ ((¬ a3 ≤ (100 : Int32)) → Q (-2 : Int32) σ4)))))
theorem dy_X8_sheet : yX8_sheet.cls = yX8_sheet.cls ∧ yX8_sheet.cls ≠ "java/lang/invoke/MethodHandle" ∧ yX8_sheet.cls ≠ "java/lang/invoke/VarHandle" ∧ (parseMethodDescriptor yX8_sheet.desc).map (fun d => d.parameters.length) = some 3 := by decide +kernel
set_option maxHeartbeats 4000000 in
set_option maxRecDepth 100000 in
theorem lb_X8_sheet_b55 {l : Launch} {D : va_G} {q : Nat → Nat} {ca : Nat → ClassId} {p : Program} {e : Env} {s : State} {m : MethodId} {args : Array Value} {below : List Frame} {meth : Method} {c : Code} (hE : qok 19 q) (hC : Cx p s m args meth c cX8_sheet 5 RX8 (some .int) D (tysM ca) ZM) (Q : Int32 → St → Prop) : ∀ (n : Nat) (a1 : Int32) (a3 : Int32) (a4 : Int32) (σ : St), f_X8_sheet_b55 Q n a1 a3 a4 σ → J p l e { frames := 2, cells := 0, slots := 0, locals := 45 } s m args below meth c (MQ below (va_Qi Q (BW D (wM q ca)) (AM q)) args s 0 0 (AM q)) D (AM q) 5 0 0 (wM q ca σ) 55 [(0, .ref (q 0)), (1, .int a1), (3, .int a3), (4, .int a4)] [] := by
  intro n
  induction n with
  | zero => intro a1 a3 a4 σ hf; exact hf.elim
  | succ n ih =>
    intro a1 a3 a4 σ hf
    unfold f_X8_sheet_b55 at hf
    refine j_iload hC 3 dX8_sheet_55 (pc' := 57) rfl rfl ?_
    refine j_iload_n hC 2 dX8_sheet_57 (pc' := 58) rfl rfl ?_
    refine j_icmp_ge hC (tgt := 80) dX8_sheet_58 (pc' := 61) rfl (by decide) (fun c_ => ?_) (fun c_ => ?_)
    · replace hf := hf.1 c_
      refine j_iload_n hC 2 dX8_sheet_80 (pc' := 81) rfl rfl ?_
      exact j_iret hC dX8_sheet_81 hf
    · replace hf := hf.2 c_
      refine j_aload_n hC 0 dX8_sheet_61 (pc' := 62) rfl rfl ?_
      refine gM_items hC wm_585 dX8_sheet_62 (pc' := 65) rfl ?_
      refine j_bipush hC (v := 100) dX8_sheet_65 (pc' := 67) rfl (by decide) ?_
      refine j_iload_n hC 1 dX8_sheet_67 (pc' := 68) rfl rfl ?_
      refine j_imul hC dX8_sheet_68 (pc' := 69) rfl ?_
      refine j_iload hC 3 dX8_sheet_69 (pc' := 71) rfl rfl ?_
      refine j_iadd hC dX8_sheet_71 (pc' := 72) rfl ?_
      refine j_iconst hC (v := 0) dX8_sheet_72 (pc' := 73) rfl (by decide) ?_
      obtain ⟨h9, hf⟩ := hf
      refine sM_items hC (j := (Int32.toNatClampNeg (((100 : Int32) * a1) + a4))) h9 rfl dX8_sheet_73 (pc' := 74) rfl ?_
      refine j_nms (wf := wM q ca) (fun σ10 eσ10 => ?_)
      replace hf := hf σ10 eσ10
      obtain ⟨x11, ex11⟩ : ∃ y : Int32, y = a4 + (1 : Int32) := ⟨_, rfl⟩
      replace hf := hf x11 ex11
      refine j_iinc hC (v := x11) (q := 3) (lv' := [(4, .int x11), (0, .ref (q 0)), (1, .int a1), (3, .int a3)]) dX8_sheet_74 (pc' := 77) rfl rfl (by rw [ex11]; rfl) (by decide) rfl ?_
      refine j_goto hC (tgt := 55) dX8_sheet_77 (by decide) ?_
      refine j_lv [1, 2, 3, 0] rfl ?_
      exact ih a1 a3 x11 σ10 hf
set_option maxHeartbeats 4000000 in
set_option maxRecDepth 100000 in
theorem lk_X8_sheet {l : Launch} {D : va_G} {q : Nat → Nat} {ca : Nat → ClassId} (hE : qok 19 q) (a1 : Int32) (a2 : Int32) (a3 : Int32) (σ : St) (Q : Int32 → St → Prop) (hf : f_X8_sheet a1 a2 a3 σ Q) : Mi l yX8_sheet cX8_sheet 5 (some .int) { frames := 2, cells := 0, slots := 0, locals := 45 } D (tysM ca) ZM (wM q ca) (AM q) [.ref (q 0), .int a1, .int a2, .int a3] σ Q := by
  refine j_start (own := RX8) (lv := [(0, .ref (q 0)), (1, .int a1), (2, .int a2), (3, .int a3)]) [.ref (q 0), .int a1, .int a2, .int a3] (by decide +kernel) rfl (wM_D hE σ) (Nat.le_of_ble_eq_true rfl) rfl (fun p e s m args below meth c hC => ?_)
  unfold f_X8_sheet at hf
  refine j_iload_n hC 1 dX8_sheet_0 (pc' := 1) rfl rfl ?_
  refine jcS_i hC (eM hE) (As := [.int a1]) (lk_X8_isSheet hE a1 σ _ hf) wm_838 wm_839 wm_8 wm_840 dy_X8_isSheet ⟨rfl, rfl⟩ ⟨Nat.le_of_ble_eq_true rfl, Nat.le_of_ble_eq_true rfl⟩ ⟨Nat.le_refl _, Nat.le_refl _⟩ rfl rfl (Nat.le_of_ble_eq_true rfl) dX8_sheet_1 (pc' := 4) rfl (fun r1 σ2 hf => ?_)
  refine j_if_eq hC (tgt := 25) dX8_sheet_4 (pc' := 7) rfl (by decide) (fun c_ => ?_) (fun c_ => ?_)
  · replace hf := hf.1 c_
    refine j_bipush hC (v := -2) dX8_sheet_25 (pc' := 27) rfl (by decide) ?_
    exact j_iret hC dX8_sheet_27 hf
  · replace hf := hf.2 c_
    refine j_iload_n hC 2 dX8_sheet_7 (pc' := 8) rfl rfl ?_
    refine j_i2l hC dX8_sheet_8 (pc' := 9) rfl ?_
    refine j_lconst hC (v := 0) dX8_sheet_9 (pc' := 10) rfl (by decide) ?_
    refine j_ldc2 hC (v := 2) dX8_sheet_10 (pc' := 13) rfl wm_655 ?_
    refine jcS_i hC (eM hE) (As := [.long (Int32.toInt64 a2), .long (0 : Int64), .long (2 : Int64)]) (lk_X8_in hE (Int32.toInt64 a2) (0 : Int64) (2 : Int64) σ2 _ hf) wm_642 wm_643 wm_8 wm_644 dy_X8_in ⟨rfl, rfl⟩ ⟨Nat.le_of_ble_eq_true rfl, Nat.le_of_ble_eq_true rfl⟩ ⟨Nat.le_refl _, Nat.le_refl _⟩ rfl rfl (Nat.le_of_ble_eq_true rfl) dX8_sheet_13 (pc' := 16) rfl (fun r3 σ4 hf => ?_)
    refine j_if_eq hC (tgt := 25) dX8_sheet_16 (pc' := 19) rfl (by decide) (fun c_ => ?_) (fun c_ => ?_)
    · replace hf := hf.1 c_
      refine j_bipush hC (v := -2) dX8_sheet_25 (pc' := 27) rfl (by decide) ?_
      exact j_iret hC dX8_sheet_27 hf
    · replace hf := hf.2 c_
      refine j_iload_n hC 3 dX8_sheet_19 (pc' := 20) rfl rfl ?_
      refine j_bipush hC (v := 100) dX8_sheet_20 (pc' := 22) rfl (by decide) ?_
      refine j_icmp_le hC (tgt := 28) dX8_sheet_22 (pc' := 25) rfl (by decide) (fun c_ => ?_) (fun c_ => ?_)
      · replace hf := hf.1 c_
        refine j_iload_n hC 3 dX8_sheet_28 (pc' := 29) rfl rfl ?_
        refine j_if_ge hC (tgt := 38) dX8_sheet_29 (pc' := 32) rfl (by decide) (fun c_ => ?_) (fun c_ => ?_)
        · replace hf := hf.1 c_
          refine j_aload_n hC 0 dX8_sheet_38 (pc' := 39) rfl rfl ?_
          refine gM_forms hC wm_583 dX8_sheet_39 (pc' := 42) rfl ?_
          refine j_iload_n hC 1 dX8_sheet_42 (pc' := 43) rfl rfl ?_
          refine j_iload_n hC 2 dX8_sheet_43 (pc' := 44) rfl rfl ?_
          obtain ⟨h5, hf⟩ := hf
          refine sM_forms hC (j := (Int32.toNatClampNeg a1)) h5 rfl dX8_sheet_44 (pc' := 45) rfl ?_
          refine j_nms (wf := wM q ca) (fun σ6 eσ6 => ?_)
          replace hf := hf σ6 eσ6
          refine j_aload_n hC 0 dX8_sheet_45 (pc' := 46) rfl rfl ?_
          refine gM_sizes hC wm_584 dX8_sheet_46 (pc' := 49) rfl ?_
          refine j_iload_n hC 1 dX8_sheet_49 (pc' := 50) rfl rfl ?_
          refine j_iload_n hC 3 dX8_sheet_50 (pc' := 51) rfl rfl ?_
          obtain ⟨h7, hf⟩ := hf
          refine sM_sizes hC (j := (Int32.toNatClampNeg a1)) h7 rfl dX8_sheet_51 (pc' := 52) rfl ?_
          refine j_nms (wf := wM q ca) (fun σ8 eσ8 => ?_)
          replace hf := hf σ8 eσ8
          refine j_iconst hC (v := 0) dX8_sheet_52 (pc' := 53) rfl (by decide) ?_
          refine j_istore hC (lv' := [(4, .int (0 : Int32)), (0, .ref (q 0)), (1, .int a1), (2, .int a2), (3, .int a3)]) dX8_sheet_53 (pc' := 55) rfl (by decide) rfl ?_
          obtain ⟨n12, hf⟩ := hf
          refine j_lv [1, 2, 4, 0] rfl ?_
          exact lb_X8_sheet_b55 hE hC Q n12 a1 a3 (0 : Int32) σ8 hf
        · replace hf := hf.2 c_
          refine j_aload_n hC 0 dX8_sheet_32 (pc' := 33) rfl rfl ?_
          refine j_iconst hC (v := 5) dX8_sheet_33 (pc' := 34) rfl (by decide) ?_
          refine jcV_i hC (eM hE) (As := [.int (5 : Int32)]) (obM_X8) (rfl) (lk_X8_met hE (5 : Int32) σ4 _ hf) wm_842 wm_843 wm_923 wm_8 wm_844 dy_X8_met ⟨rfl, rfl⟩ ⟨Nat.le_of_ble_eq_true rfl, Nat.le_of_ble_eq_true rfl⟩ ⟨Nat.le_refl _, Nat.le_refl _⟩ rfl rfl (Nat.le_of_ble_eq_true rfl) dX8_sheet_34 (pc' := 37) rfl (fun r13 σ14 hf => ?_)
          exact j_iret hC dX8_sheet_37 hf
      · replace hf := hf.2 c_
        refine j_bipush hC (v := -2) dX8_sheet_25 (pc' := 27) rfl (by decide) ?_
        exact j_iret hC dX8_sheet_27 hf
def f_X8_lose (a1 : Int32) (σ : St) (Q : Int32 → St → Prop) : Prop := f_X8_isSheet a1 σ (fun r1 σ2 => ((¬ r1 = 0) → vp_in a1 4 ∧ (0 ≤ (σ2.1 22 (Int32.toNatClampNeg a1)) → vp_in a1 4 ∧ ∀ σ5 : St, σ5 = sI σ2 22 (Int32.toNatClampNeg a1) (-1 : Int32) → vp_in a1 4 ∧ Q (σ5.1 23 (Int32.toNatClampNeg a1)) σ5) ∧ ((¬ 0 ≤ (σ2.1 22 (Int32.toNatClampNeg a1))) → f_X8_met (1 : Int32) σ2 (fun r7 σ8 => Q r7 σ8))) ∧ (r1 = 0 → Q (-2 : Int32) σ2))
theorem dy_X8_lose : yX8_lose.cls = yX8_lose.cls ∧ yX8_lose.cls ≠ "java/lang/invoke/MethodHandle" ∧ yX8_lose.cls ≠ "java/lang/invoke/VarHandle" ∧ (parseMethodDescriptor yX8_lose.desc).map (fun d => d.parameters.length) = some 1 := by decide +kernel
set_option maxHeartbeats 4000000 in
set_option maxRecDepth 100000 in
theorem lk_X8_lose {l : Launch} {D : va_G} {q : Nat → Nat} {ca : Nat → ClassId} (hE : qok 19 q) (a1 : Int32) (σ : St) (Q : Int32 → St → Prop) (hf : f_X8_lose a1 σ Q) : Mi l yX8_lose cX8_lose 2 (some .int) { frames := 2, cells := 0, slots := 0, locals := 45 } D (tysM ca) ZM (wM q ca) (AM q) [.ref (q 0), .int a1] σ Q := by
  refine j_start (own := RX8) (lv := [(0, .ref (q 0)), (1, .int a1)]) [.ref (q 0), .int a1] (by decide +kernel) rfl (wM_D hE σ) (Nat.le_of_ble_eq_true rfl) rfl (fun p e s m args below meth c hC => ?_)
  unfold f_X8_lose at hf
  refine j_iload_n hC 1 dX8_lose_0 (pc' := 1) rfl rfl ?_
  refine jcS_i hC (eM hE) (As := [.int a1]) (lk_X8_isSheet hE a1 σ _ hf) wm_838 wm_839 wm_8 wm_840 dy_X8_isSheet ⟨rfl, rfl⟩ ⟨Nat.le_of_ble_eq_true rfl, Nat.le_of_ble_eq_true rfl⟩ ⟨Nat.le_refl _, Nat.le_refl _⟩ rfl rfl (Nat.le_of_ble_eq_true rfl) dX8_lose_1 (pc' := 4) rfl (fun r1 σ2 hf => ?_)
  refine j_if_ne hC (tgt := 10) dX8_lose_4 (pc' := 7) rfl (by decide) (fun c_ => ?_) (fun c_ => ?_)
  · replace hf := hf.1 c_
    refine j_aload_n hC 0 dX8_lose_10 (pc' := 11) rfl rfl ?_
    refine gM_forms hC wm_583 dX8_lose_11 (pc' := 14) rfl ?_
    refine j_iload_n hC 1 dX8_lose_14 (pc' := 15) rfl rfl ?_
    obtain ⟨h3, hf⟩ := hf
    refine lM_forms hC (j := (Int32.toNatClampNeg a1)) h3 rfl dX8_lose_15 (pc' := 16) rfl ?_
    refine j_if_ge hC (tgt := 25) dX8_lose_16 (pc' := 19) rfl (by decide) (fun c_ => ?_) (fun c_ => ?_)
    · replace hf := hf.1 c_
      refine j_aload_n hC 0 dX8_lose_25 (pc' := 26) rfl rfl ?_
      refine gM_forms hC wm_583 dX8_lose_26 (pc' := 29) rfl ?_
      refine j_iload_n hC 1 dX8_lose_29 (pc' := 30) rfl rfl ?_
      refine j_iconst hC (v := -1) dX8_lose_30 (pc' := 31) rfl (by decide) ?_
      obtain ⟨h4, hf⟩ := hf
      refine sM_forms hC (j := (Int32.toNatClampNeg a1)) h4 rfl dX8_lose_31 (pc' := 32) rfl ?_
      refine j_nms (wf := wM q ca) (fun σ5 eσ5 => ?_)
      replace hf := hf σ5 eσ5
      refine j_aload_n hC 0 dX8_lose_32 (pc' := 33) rfl rfl ?_
      refine gM_sizes hC wm_584 dX8_lose_33 (pc' := 36) rfl ?_
      refine j_iload_n hC 1 dX8_lose_36 (pc' := 37) rfl rfl ?_
      obtain ⟨h6, hf⟩ := hf
      refine lM_sizes hC (j := (Int32.toNatClampNeg a1)) h6 rfl dX8_lose_37 (pc' := 38) rfl ?_
      exact j_iret hC dX8_lose_38 hf
    · replace hf := hf.2 c_
      refine j_aload_n hC 0 dX8_lose_19 (pc' := 20) rfl rfl ?_
      refine j_iconst hC (v := 1) dX8_lose_20 (pc' := 21) rfl (by decide) ?_
      refine jcV_i hC (eM hE) (As := [.int (1 : Int32)]) (obM_X8) (rfl) (lk_X8_met hE (1 : Int32) σ2 _ hf) wm_842 wm_843 wm_923 wm_8 wm_844 dy_X8_met ⟨rfl, rfl⟩ ⟨Nat.le_of_ble_eq_true rfl, Nat.le_of_ble_eq_true rfl⟩ ⟨Nat.le_refl _, Nat.le_refl _⟩ rfl rfl (Nat.le_of_ble_eq_true rfl) dX8_lose_21 (pc' := 24) rfl (fun r7 σ8 hf => ?_)
      exact j_iret hC dX8_lose_24 hf
  · replace hf := hf.2 c_
    refine j_bipush hC (v := -2) dX8_lose_7 (pc' := 9) rfl (by decide) ?_
    exact j_iret hC dX8_lose_9 hf
def f_X8_lacks (a1 : Int32) (a2 : Int32) (a3 : Int32) (σ : St) (Q : Int32 → St → Prop) : Prop := vp_in a1 4 ∧ (0 ≤ (σ.1 22 (Int32.toNatClampNeg a1)) → vp_in a1 4 ∧ ((σ.1 22 (Int32.toNatClampNeg a1)) = a2 → vp_in a1 4 ∧ f_X8_in (Int32.toInt64 a3) (0 : Int64) (Int32.toInt64 ((σ.1 23 (Int32.toNatClampNeg a1)) - (1 : Int32))) σ (fun r4 σ5 => (r4 = 0 → f_X8_met (2 : Int32) σ5 (fun r6 σ7 => Q r6 σ7)) ∧ ((¬ r4 = 0) → Q (0 : Int32) σ5))) ∧ ((¬ (σ.1 22 (Int32.toNatClampNeg a1)) = a2) → f_X8_met (3 : Int32) σ (fun r8 σ9 => Q r8 σ9))) ∧ ((¬ 0 ≤ (σ.1 22 (Int32.toNatClampNeg a1))) → f_X8_met (1 : Int32) σ (fun r10 σ11 => Q r10 σ11))
theorem dy_X8_lacks : yX8_lacks.cls = yX8_lacks.cls ∧ yX8_lacks.cls ≠ "java/lang/invoke/MethodHandle" ∧ yX8_lacks.cls ≠ "java/lang/invoke/VarHandle" ∧ (parseMethodDescriptor yX8_lacks.desc).map (fun d => d.parameters.length) = some 3 := by decide +kernel
set_option maxHeartbeats 4000000 in
set_option maxRecDepth 100000 in
theorem lk_X8_lacks {l : Launch} {D : va_G} {q : Nat → Nat} {ca : Nat → ClassId} (hE : qok 19 q) (a1 : Int32) (a2 : Int32) (a3 : Int32) (σ : St) (Q : Int32 → St → Prop) (hf : f_X8_lacks a1 a2 a3 σ Q) : Mi l yX8_lacks cX8_lacks 4 (some .int) { frames := 1, cells := 0, slots := 0, locals := 25 } D (tysM ca) ZM (wM q ca) (AM q) [.ref (q 0), .int a1, .int a2, .int a3] σ Q := by
  refine j_start (own := RX8) (lv := [(0, .ref (q 0)), (1, .int a1), (2, .int a2), (3, .int a3)]) [.ref (q 0), .int a1, .int a2, .int a3] (by decide +kernel) rfl (wM_D hE σ) (Nat.le_of_ble_eq_true rfl) rfl (fun p e s m args below meth c hC => ?_)
  unfold f_X8_lacks at hf
  refine j_aload_n hC 0 dX8_lacks_0 (pc' := 1) rfl rfl ?_
  refine gM_forms hC wm_583 dX8_lacks_1 (pc' := 4) rfl ?_
  refine j_iload_n hC 1 dX8_lacks_4 (pc' := 5) rfl rfl ?_
  obtain ⟨h1, hf⟩ := hf
  refine lM_forms hC (j := (Int32.toNatClampNeg a1)) h1 rfl dX8_lacks_5 (pc' := 6) rfl ?_
  refine j_if_ge hC (tgt := 15) dX8_lacks_6 (pc' := 9) rfl (by decide) (fun c_ => ?_) (fun c_ => ?_)
  · replace hf := hf.1 c_
    refine j_aload_n hC 0 dX8_lacks_15 (pc' := 16) rfl rfl ?_
    refine gM_forms hC wm_583 dX8_lacks_16 (pc' := 19) rfl ?_
    refine j_iload_n hC 1 dX8_lacks_19 (pc' := 20) rfl rfl ?_
    obtain ⟨h2, hf⟩ := hf
    refine lM_forms hC (j := (Int32.toNatClampNeg a1)) h2 rfl dX8_lacks_20 (pc' := 21) rfl ?_
    refine j_iload_n hC 2 dX8_lacks_21 (pc' := 22) rfl rfl ?_
    refine j_icmp_eq hC (tgt := 31) dX8_lacks_22 (pc' := 25) rfl (by decide) (fun c_ => ?_) (fun c_ => ?_)
    · replace hf := hf.1 c_
      refine j_iload_n hC 3 dX8_lacks_31 (pc' := 32) rfl rfl ?_
      refine j_i2l hC dX8_lacks_32 (pc' := 33) rfl ?_
      refine j_lconst hC (v := 0) dX8_lacks_33 (pc' := 34) rfl (by decide) ?_
      refine j_aload_n hC 0 dX8_lacks_34 (pc' := 35) rfl rfl ?_
      refine gM_sizes hC wm_584 dX8_lacks_35 (pc' := 38) rfl ?_
      refine j_iload_n hC 1 dX8_lacks_38 (pc' := 39) rfl rfl ?_
      obtain ⟨h3, hf⟩ := hf
      refine lM_sizes hC (j := (Int32.toNatClampNeg a1)) h3 rfl dX8_lacks_39 (pc' := 40) rfl ?_
      refine j_iconst hC (v := 1) dX8_lacks_40 (pc' := 41) rfl (by decide) ?_
      refine j_isub hC dX8_lacks_41 (pc' := 42) rfl ?_
      refine j_i2l hC dX8_lacks_42 (pc' := 43) rfl ?_
      refine jcS_i hC (eM hE) (As := [.long (Int32.toInt64 a3), .long (0 : Int64), .long (Int32.toInt64 ((σ.1 23 (Int32.toNatClampNeg a1)) - (1 : Int32)))]) (lk_X8_in hE (Int32.toInt64 a3) (0 : Int64) (Int32.toInt64 ((σ.1 23 (Int32.toNatClampNeg a1)) - (1 : Int32))) σ _ hf) wm_642 wm_643 wm_8 wm_644 dy_X8_in ⟨rfl, rfl⟩ ⟨Nat.le_of_ble_eq_true rfl, Nat.le_of_ble_eq_true rfl⟩ ⟨Nat.le_refl _, Nat.le_refl _⟩ rfl rfl (Nat.le_of_ble_eq_true rfl) dX8_lacks_43 (pc' := 46) rfl (fun r4 σ5 hf => ?_)
      refine j_if_eq hC (tgt := 53) dX8_lacks_46 (pc' := 49) rfl (by decide) (fun c_ => ?_) (fun c_ => ?_)
      · replace hf := hf.1 c_
        refine j_aload_n hC 0 dX8_lacks_53 (pc' := 54) rfl rfl ?_
        refine j_iconst hC (v := 2) dX8_lacks_54 (pc' := 55) rfl (by decide) ?_
        refine jcV_i hC (eM hE) (As := [.int (2 : Int32)]) (obM_X8) (rfl) (lk_X8_met hE (2 : Int32) σ5 _ hf) wm_842 wm_843 wm_923 wm_8 wm_844 dy_X8_met ⟨rfl, rfl⟩ ⟨Nat.le_of_ble_eq_true rfl, Nat.le_of_ble_eq_true rfl⟩ ⟨Nat.le_refl _, Nat.le_refl _⟩ rfl rfl (Nat.le_of_ble_eq_true rfl) dX8_lacks_55 (pc' := 58) rfl (fun r6 σ7 hf => ?_)
        exact j_iret hC dX8_lacks_58 hf
      · replace hf := hf.2 c_
        refine j_iconst hC (v := 0) dX8_lacks_49 (pc' := 50) rfl (by decide) ?_
        refine j_goto hC (tgt := 58) dX8_lacks_50 (by decide) ?_
        exact j_iret hC dX8_lacks_58 hf
    · replace hf := hf.2 c_
      refine j_aload_n hC 0 dX8_lacks_25 (pc' := 26) rfl rfl ?_
      refine j_iconst hC (v := 3) dX8_lacks_26 (pc' := 27) rfl (by decide) ?_
      refine jcV_i hC (eM hE) (As := [.int (3 : Int32)]) (obM_X8) (rfl) (lk_X8_met hE (3 : Int32) σ _ hf) wm_842 wm_843 wm_923 wm_8 wm_844 dy_X8_met ⟨rfl, rfl⟩ ⟨Nat.le_of_ble_eq_true rfl, Nat.le_of_ble_eq_true rfl⟩ ⟨Nat.le_refl _, Nat.le_refl _⟩ rfl rfl (Nat.le_of_ble_eq_true rfl) dX8_lacks_27 (pc' := 30) rfl (fun r8 σ9 hf => ?_)
      exact j_iret hC dX8_lacks_30 hf
  · replace hf := hf.2 c_
    refine j_aload_n hC 0 dX8_lacks_9 (pc' := 10) rfl rfl ?_
    refine j_iconst hC (v := 1) dX8_lacks_10 (pc' := 11) rfl (by decide) ?_
    refine jcV_i hC (eM hE) (As := [.int (1 : Int32)]) (obM_X8) (rfl) (lk_X8_met hE (1 : Int32) σ _ hf) wm_842 wm_843 wm_923 wm_8 wm_844 dy_X8_met ⟨rfl, rfl⟩ ⟨Nat.le_of_ble_eq_true rfl, Nat.le_of_ble_eq_true rfl⟩ ⟨Nat.le_refl _, Nat.le_refl _⟩ rfl rfl (Nat.le_of_ble_eq_true rfl) dX8_lacks_11 (pc' := 14) rfl (fun r10 σ11 hf => ?_)
    exact j_iret hC dX8_lacks_14 hf
def f_X8_put (a1 : Int32) (a2 : Int32) (a3 : Int32) (a4 : Int32) (σ : St) (Q : Int32 → St → Prop) : Prop := f_X8_isSheet a1 σ (fun r1 σ2 => (r1 = 0 → Q (-2 : Int32) σ2) ∧ ((¬ r1 = 0) → f_X8_in (Int32.toInt64 a2) (0 : Int64) (2 : Int64) σ2 (fun r3 σ4 => ((¬ r3 = 0) → f_X8_lacks a1 a2 a3 σ4 (fun r5 σ6 => (r5 = 0 → ((¬ a2 = 0) → ((¬ a2 = (1 : Int32)) → vp_in (((100 : Int32) * a1) + a3) 400 ∧ ∀ σ8 : St, σ8 = sI σ6 24 (Int32.toNatClampNeg (((100 : Int32) * a1) + a3)) a4 → Q (1 : Int32) σ8) ∧ (a2 = (1 : Int32) → vp_in (((100 : Int32) * a1) + a3) 400 ∧ ∀ σ10 : St, σ10 = sI σ6 24 (Int32.toNatClampNeg (((100 : Int32) * a1) + a3)) ((Int32.toInt16 a4).toInt32) → Q (1 : Int32) σ10)) ∧ (a2 = 0 → vp_in (((100 : Int32) * a1) + a3) 400 ∧ ∀ σ12 : St, σ12 = sI σ6 24 (Int32.toNatClampNeg (((100 : Int32) * a1) + a3)) ((Int32.toInt8 a4).toInt32) → Q (1 : Int32) σ12)) ∧ ((¬ r5 = 0) → Q r5 σ6))) ∧ (r3 = 0 → Q (-2 : Int32) σ4))))
theorem dy_X8_put : yX8_put.cls = yX8_put.cls ∧ yX8_put.cls ≠ "java/lang/invoke/MethodHandle" ∧ yX8_put.cls ≠ "java/lang/invoke/VarHandle" ∧ (parseMethodDescriptor yX8_put.desc).map (fun d => d.parameters.length) = some 4 := by decide +kernel
set_option maxHeartbeats 4000000 in
set_option maxRecDepth 100000 in
theorem lk_X8_put {l : Launch} {D : va_G} {q : Nat → Nat} {ca : Nat → ClassId} (hE : qok 19 q) (a1 : Int32) (a2 : Int32) (a3 : Int32) (a4 : Int32) (σ : St) (Q : Int32 → St → Prop) (hf : f_X8_put a1 a2 a3 a4 σ Q) : Mi l yX8_put cX8_put 6 (some .int) { frames := 2, cells := 0, slots := 0, locals := 48 } D (tysM ca) ZM (wM q ca) (AM q) [.ref (q 0), .int a1, .int a2, .int a3, .int a4] σ Q := by
  refine j_start (own := RX8) (lv := [(0, .ref (q 0)), (1, .int a1), (2, .int a2), (3, .int a3), (4, .int a4)]) [.ref (q 0), .int a1, .int a2, .int a3, .int a4] (by decide +kernel) rfl (wM_D hE σ) (Nat.le_of_ble_eq_true rfl) rfl (fun p e s m args below meth c hC => ?_)
  unfold f_X8_put at hf
  refine j_iload_n hC 1 dX8_put_0 (pc' := 1) rfl rfl ?_
  refine jcS_i hC (eM hE) (As := [.int a1]) (lk_X8_isSheet hE a1 σ _ hf) wm_838 wm_839 wm_8 wm_840 dy_X8_isSheet ⟨rfl, rfl⟩ ⟨Nat.le_of_ble_eq_true rfl, Nat.le_of_ble_eq_true rfl⟩ ⟨Nat.le_refl _, Nat.le_refl _⟩ rfl rfl (Nat.le_of_ble_eq_true rfl) dX8_put_1 (pc' := 4) rfl (fun r1 σ2 hf => ?_)
  refine j_if_eq hC (tgt := 19) dX8_put_4 (pc' := 7) rfl (by decide) (fun c_ => ?_) (fun c_ => ?_)
  · replace hf := hf.1 c_
    refine j_bipush hC (v := -2) dX8_put_19 (pc' := 21) rfl (by decide) ?_
    exact j_iret hC dX8_put_21 hf
  · replace hf := hf.2 c_
    refine j_iload_n hC 2 dX8_put_7 (pc' := 8) rfl rfl ?_
    refine j_i2l hC dX8_put_8 (pc' := 9) rfl ?_
    refine j_lconst hC (v := 0) dX8_put_9 (pc' := 10) rfl (by decide) ?_
    refine j_ldc2 hC (v := 2) dX8_put_10 (pc' := 13) rfl wm_655 ?_
    refine jcS_i hC (eM hE) (As := [.long (Int32.toInt64 a2), .long (0 : Int64), .long (2 : Int64)]) (lk_X8_in hE (Int32.toInt64 a2) (0 : Int64) (2 : Int64) σ2 _ hf) wm_642 wm_643 wm_8 wm_644 dy_X8_in ⟨rfl, rfl⟩ ⟨Nat.le_of_ble_eq_true rfl, Nat.le_of_ble_eq_true rfl⟩ ⟨Nat.le_refl _, Nat.le_refl _⟩ rfl rfl (Nat.le_of_ble_eq_true rfl) dX8_put_13 (pc' := 16) rfl (fun r3 σ4 hf => ?_)
    refine j_if_ne hC (tgt := 22) dX8_put_16 (pc' := 19) rfl (by decide) (fun c_ => ?_) (fun c_ => ?_)
    · replace hf := hf.1 c_
      refine j_aload_n hC 0 dX8_put_22 (pc' := 23) rfl rfl ?_
      refine j_iload_n hC 1 dX8_put_23 (pc' := 24) rfl rfl ?_
      refine j_iload_n hC 2 dX8_put_24 (pc' := 25) rfl rfl ?_
      refine j_iload_n hC 3 dX8_put_25 (pc' := 26) rfl rfl ?_
      refine jcV_i hC (eM hE) (As := [.int a1, .int a2, .int a3]) (obM_X8) (rfl) (lk_X8_lacks hE a1 a2 a3 σ4 _ hf) wm_861 wm_862 wm_924 wm_8 wm_863 dy_X8_lacks ⟨rfl, rfl⟩ ⟨Nat.le_of_ble_eq_true rfl, Nat.le_of_ble_eq_true rfl⟩ ⟨Nat.le_refl _, Nat.le_refl _⟩ rfl rfl (Nat.le_of_ble_eq_true rfl) dX8_put_26 (pc' := 29) rfl (fun r5 σ6 hf => ?_)
      refine j_istore hC (lv' := [(5, .int r5), (0, .ref (q 0)), (1, .int a1), (2, .int a2), (3, .int a3), (4, .int a4)]) dX8_put_29 (pc' := 31) rfl (by decide) rfl ?_
      refine j_iload hC 0 dX8_put_31 (pc' := 33) rfl rfl ?_
      refine j_if_eq hC (tgt := 39) dX8_put_33 (pc' := 36) rfl (by decide) (fun c_ => ?_) (fun c_ => ?_)
      · replace hf := hf.1 c_
        refine j_aload_n hC 1 dX8_put_39 (pc' := 40) rfl rfl ?_
        refine gM_items hC wm_585 dX8_put_40 (pc' := 43) rfl ?_
        refine j_bipush hC (v := 100) dX8_put_43 (pc' := 45) rfl (by decide) ?_
        refine j_iload_n hC 2 dX8_put_45 (pc' := 46) rfl rfl ?_
        refine j_imul hC dX8_put_46 (pc' := 47) rfl ?_
        refine j_iload_n hC 4 dX8_put_47 (pc' := 48) rfl rfl ?_
        refine j_iadd hC dX8_put_48 (pc' := 49) rfl ?_
        refine j_iload_n hC 3 dX8_put_49 (pc' := 50) rfl rfl ?_
        refine j_if_ne hC (tgt := 59) dX8_put_50 (pc' := 53) rfl (by decide) (fun c_ => ?_) (fun c_ => ?_)
        · replace hf := hf.1 c_
          refine j_iload_n hC 3 dX8_put_59 (pc' := 60) rfl rfl ?_
          refine j_iconst hC (v := 1) dX8_put_60 (pc' := 61) rfl (by decide) ?_
          refine j_icmp_ne hC (tgt := 70) dX8_put_61 (pc' := 64) rfl (by decide) (fun c_ => ?_) (fun c_ => ?_)
          · replace hf := hf.1 c_
            refine j_iload hC 5 dX8_put_70 (pc' := 72) rfl rfl ?_
            obtain ⟨h7, hf⟩ := hf
            refine sM_items hC (j := (Int32.toNatClampNeg (((100 : Int32) * a1) + a3))) h7 rfl dX8_put_72 (pc' := 73) rfl ?_
            refine j_nms (wf := wM q ca) (fun σ8 eσ8 => ?_)
            replace hf := hf σ8 eσ8
            refine j_iconst hC (v := 1) dX8_put_73 (pc' := 74) rfl (by decide) ?_
            exact j_iret hC dX8_put_74 hf
          · replace hf := hf.2 c_
            refine j_iload hC 5 dX8_put_64 (pc' := 66) rfl rfl ?_
            refine j_i2s hC dX8_put_66 (pc' := 67) rfl ?_
            refine j_goto hC (tgt := 72) dX8_put_67 (by decide) ?_
            obtain ⟨h9, hf⟩ := hf
            refine sM_items hC (j := (Int32.toNatClampNeg (((100 : Int32) * a1) + a3))) h9 rfl dX8_put_72 (pc' := 73) rfl ?_
            refine j_nms (wf := wM q ca) (fun σ10 eσ10 => ?_)
            replace hf := hf σ10 eσ10
            refine j_iconst hC (v := 1) dX8_put_73 (pc' := 74) rfl (by decide) ?_
            exact j_iret hC dX8_put_74 hf
        · replace hf := hf.2 c_
          refine j_iload hC 5 dX8_put_53 (pc' := 55) rfl rfl ?_
          refine j_i2b hC dX8_put_55 (pc' := 56) rfl ?_
          refine j_goto hC (tgt := 72) dX8_put_56 (by decide) ?_
          obtain ⟨h11, hf⟩ := hf
          refine sM_items hC (j := (Int32.toNatClampNeg (((100 : Int32) * a1) + a3))) h11 rfl dX8_put_72 (pc' := 73) rfl ?_
          refine j_nms (wf := wM q ca) (fun σ12 eσ12 => ?_)
          replace hf := hf σ12 eσ12
          refine j_iconst hC (v := 1) dX8_put_73 (pc' := 74) rfl (by decide) ?_
          exact j_iret hC dX8_put_74 hf
      · replace hf := hf.2 c_
        refine j_iload hC 0 dX8_put_36 (pc' := 38) rfl rfl ?_
        exact j_iret hC dX8_put_38 hf
    · replace hf := hf.2 c_
      refine j_bipush hC (v := -2) dX8_put_19 (pc' := 21) rfl (by decide) ?_
      exact j_iret hC dX8_put_21 hf
def f_X8_get (a1 : Int32) (a2 : Int32) (a3 : Int32) (σ : St) (Q : Int32 → St → Prop) : Prop := f_X8_isSheet a1 σ (fun r1 σ2 => (r1 = 0 → Q (-2147483648 : Int32) σ2) ∧ ((¬ r1 = 0) → f_X8_in (Int32.toInt64 a2) (0 : Int64) (2 : Int64) σ2 (fun r3 σ4 => (r3 = 0 → Q (-2147483648 : Int32) σ4) ∧ ((¬ r3 = 0) → f_X8_lacks a1 a2 a3 σ4 (fun r5 σ6 => (r5 = 0 → vp_in (((100 : Int32) * a1) + a3) 400 ∧ Q (σ6.1 24 (Int32.toNatClampNeg (((100 : Int32) * a1) + a3))) σ6) ∧ ((¬ r5 = 0) → Q (-2147483648 : Int32) σ6))))))
theorem dy_X8_get : yX8_get.cls = yX8_get.cls ∧ yX8_get.cls ≠ "java/lang/invoke/MethodHandle" ∧ yX8_get.cls ≠ "java/lang/invoke/VarHandle" ∧ (parseMethodDescriptor yX8_get.desc).map (fun d => d.parameters.length) = some 3 := by decide +kernel
set_option maxHeartbeats 4000000 in
set_option maxRecDepth 100000 in
theorem lk_X8_get {l : Launch} {D : va_G} {q : Nat → Nat} {ca : Nat → ClassId} (hE : qok 19 q) (a1 : Int32) (a2 : Int32) (a3 : Int32) (σ : St) (Q : Int32 → St → Prop) (hf : f_X8_get a1 a2 a3 σ Q) : Mi l yX8_get cX8_get 4 (some .int) { frames := 2, cells := 0, slots := 0, locals := 48 } D (tysM ca) ZM (wM q ca) (AM q) [.ref (q 0), .int a1, .int a2, .int a3] σ Q := by
  refine j_start (own := RX8) (lv := [(0, .ref (q 0)), (1, .int a1), (2, .int a2), (3, .int a3)]) [.ref (q 0), .int a1, .int a2, .int a3] (by decide +kernel) rfl (wM_D hE σ) (Nat.le_of_ble_eq_true rfl) rfl (fun p e s m args below meth c hC => ?_)
  unfold f_X8_get at hf
  refine j_iload_n hC 1 dX8_get_0 (pc' := 1) rfl rfl ?_
  refine jcS_i hC (eM hE) (As := [.int a1]) (lk_X8_isSheet hE a1 σ _ hf) wm_838 wm_839 wm_8 wm_840 dy_X8_isSheet ⟨rfl, rfl⟩ ⟨Nat.le_of_ble_eq_true rfl, Nat.le_of_ble_eq_true rfl⟩ ⟨Nat.le_refl _, Nat.le_refl _⟩ rfl rfl (Nat.le_of_ble_eq_true rfl) dX8_get_1 (pc' := 4) rfl (fun r1 σ2 hf => ?_)
  refine j_if_eq hC (tgt := 29) dX8_get_4 (pc' := 7) rfl (by decide) (fun c_ => ?_) (fun c_ => ?_)
  · replace hf := hf.1 c_
    refine j_ldc hC (v := -2147483648) dX8_get_29 (pc' := 31) rfl wm_678 ?_
    exact j_iret hC dX8_get_31 hf
  · replace hf := hf.2 c_
    refine j_iload_n hC 2 dX8_get_7 (pc' := 8) rfl rfl ?_
    refine j_i2l hC dX8_get_8 (pc' := 9) rfl ?_
    refine j_lconst hC (v := 0) dX8_get_9 (pc' := 10) rfl (by decide) ?_
    refine j_ldc2 hC (v := 2) dX8_get_10 (pc' := 13) rfl wm_655 ?_
    refine jcS_i hC (eM hE) (As := [.long (Int32.toInt64 a2), .long (0 : Int64), .long (2 : Int64)]) (lk_X8_in hE (Int32.toInt64 a2) (0 : Int64) (2 : Int64) σ2 _ hf) wm_642 wm_643 wm_8 wm_644 dy_X8_in ⟨rfl, rfl⟩ ⟨Nat.le_of_ble_eq_true rfl, Nat.le_of_ble_eq_true rfl⟩ ⟨Nat.le_refl _, Nat.le_refl _⟩ rfl rfl (Nat.le_of_ble_eq_true rfl) dX8_get_13 (pc' := 16) rfl (fun r3 σ4 hf => ?_)
    refine j_if_eq hC (tgt := 29) dX8_get_16 (pc' := 19) rfl (by decide) (fun c_ => ?_) (fun c_ => ?_)
    · replace hf := hf.1 c_
      refine j_ldc hC (v := -2147483648) dX8_get_29 (pc' := 31) rfl wm_678 ?_
      exact j_iret hC dX8_get_31 hf
    · replace hf := hf.2 c_
      refine j_aload_n hC 0 dX8_get_19 (pc' := 20) rfl rfl ?_
      refine j_iload_n hC 1 dX8_get_20 (pc' := 21) rfl rfl ?_
      refine j_iload_n hC 2 dX8_get_21 (pc' := 22) rfl rfl ?_
      refine j_iload_n hC 3 dX8_get_22 (pc' := 23) rfl rfl ?_
      refine jcV_i hC (eM hE) (As := [.int a1, .int a2, .int a3]) (obM_X8) (rfl) (lk_X8_lacks hE a1 a2 a3 σ4 _ hf) wm_861 wm_862 wm_924 wm_8 wm_863 dy_X8_lacks ⟨rfl, rfl⟩ ⟨Nat.le_of_ble_eq_true rfl, Nat.le_of_ble_eq_true rfl⟩ ⟨Nat.le_refl _, Nat.le_refl _⟩ rfl rfl (Nat.le_of_ble_eq_true rfl) dX8_get_23 (pc' := 26) rfl (fun r5 σ6 hf => ?_)
      refine j_if_eq hC (tgt := 32) dX8_get_26 (pc' := 29) rfl (by decide) (fun c_ => ?_) (fun c_ => ?_)
      · replace hf := hf.1 c_
        refine j_aload_n hC 0 dX8_get_32 (pc' := 33) rfl rfl ?_
        refine gM_items hC wm_585 dX8_get_33 (pc' := 36) rfl ?_
        refine j_bipush hC (v := 100) dX8_get_36 (pc' := 38) rfl (by decide) ?_
        refine j_iload_n hC 1 dX8_get_38 (pc' := 39) rfl rfl ?_
        refine j_imul hC dX8_get_39 (pc' := 40) rfl ?_
        refine j_iload_n hC 3 dX8_get_40 (pc' := 41) rfl rfl ?_
        refine j_iadd hC dX8_get_41 (pc' := 42) rfl ?_
        obtain ⟨h7, hf⟩ := hf
        refine lM_items hC (j := (Int32.toNatClampNeg (((100 : Int32) * a1) + a3))) h7 rfl dX8_get_42 (pc' := 43) rfl ?_
        exact j_iret hC dX8_get_43 hf
      · replace hf := hf.2 c_
        refine j_ldc hC (v := -2147483648) dX8_get_29 (pc' := 31) rfl wm_678 ?_
        exact j_iret hC dX8_get_31 hf
