def f_X8_findNearest_b206 (Q : St → Prop) (K9 : Int32 → Int32 → Int32 → St → Prop) (K18 : Int32 → Int32 → Int32 → Int32 → St → Prop) (K37 : Int32 → Int32 → Int32 → Int32 → Int32 → St → Prop) (a1 : Int32) (a2 : Int32) (a3 : Int32) (a4 : Int32) (a5 : Int32) (a10 : Int64) (σ : St) : Prop := ∀ σ28 : St, σ28 = sL σ 3 0 a10 → ∀ σ29 : St, σ29 = sI σ28 21 0 ((((10000 : Int32) * a3) + ((100 : Int32) * a4)) + a5) → ∀ x30 : Int32, x30 = a5 + (1 : Int32) → K37 a1 a2 a3 a4 x30 σ29
def f_X8_findNearest_b37 (Q : St → Prop) (K9 : Int32 → Int32 → Int32 → St → Prop) (K18 : Int32 → Int32 → Int32 → Int32 → St → Prop) : Nat → Int32 → Int32 → Int32 → Int32 → Int32 → St → Prop
  | 0, _, _, _, _, _, _ => False
  | n + 1, a1, a2, a3, a4, a5, σ => ((36 : Int32) ≤ a5 → ∀ x6 : Int32, x6 = a4 + (1 : Int32) → K18 a1 a2 a3 x6 σ) ∧ ((¬ (36 : Int32) ≤ a5) → f_X8_may (1 : Int32) a4 σ (fun r7 σ8 => (r7 = 0 → ∀ x9 : Int32, x9 = a4 + (1 : Int32) → K18 a1 a2 a3 x9 σ8) ∧ ((¬ r7 = 0) → f_X8_may (2 : Int32) a5 σ8 (fun r10 σ11 => (r10 = 0 → ∀ x12 : Int32, x12 = a5 + (1 : Int32) → f_X8_findNearest_b37 Q K9 K18  n a1 a2 a3 a4 x12 σ11) ∧ ((¬ r10 = 0) → f_X8_c a3 σ11 (fun r13 σ14 => f_X8_c (a3 + a4) σ14 (fun r15 σ16 => f_X8_c ((a3 + a4) + a5) σ16 (fun r17 σ18 => ∀ x19 : Int64, x19 = Int32.toInt64 (((((σ11.1 0 0) * r13) + ((σ14.1 0 1) * r15)) + ((σ16.1 0 2) * r17)) - ((65 : Int32) * a1)) → f_X8_s a3 σ18 (fun r20 σ21 => f_X8_s (a3 + a4) σ21 (fun r22 σ23 => f_X8_s ((a3 + a4) + a5) σ23 (fun r24 σ25 => ∀ x26 : Int64, x26 = Int32.toInt64 (((((σ18.1 0 0) * r20) + ((σ21.1 0 1) * r22)) + ((σ23.1 0 2) * r24)) - ((65 : Int32) * a2)) → ∀ x27 : Int64, x27 = (x19 * x19) + (x26 * x26) → ((σ25.2 3 0) < (0 : Int64) → f_X8_findNearest_b206 Q K9 K18 (fun a1 a2 a3 a4 a5 σ => f_X8_findNearest_b37 Q K9 K18 n a1 a2 a3 a4 a5 σ) a1 a2 a3 a4 a5 x27 σ25) ∧ ((¬ (σ25.2 3 0) < (0 : Int64)) → ((σ25.2 3 0) ≤ x27 → ∀ x31 : Int32, x31 = a5 + (1 : Int32) → f_X8_findNearest_b37 Q K9 K18  n a1 a2 a3 a4 x31 σ25) ∧ ((¬ (σ25.2 3 0) ≤ x27) → f_X8_findNearest_b206 Q K9 K18 (fun a1 a2 a3 a4 a5 σ => f_X8_findNearest_b37 Q K9 K18 n a1 a2 a3 a4 a5 σ) a1 a2 a3 a4 a5 x27 σ25)))))))))))))
def f_X8_findNearest_b18 (Q : St → Prop) (K9 : Int32 → Int32 → Int32 → St → Prop) : Nat → Int32 → Int32 → Int32 → Int32 → St → Prop
  | 0, _, _, _, _, _ => False
  | n + 1, a1, a2, a3, a4, σ => ((36 : Int32) ≤ a4 → ∀ x2 : Int32, x2 = a3 + (1 : Int32) → K9 a1 a2 x2 σ) ∧ ((¬ (36 : Int32) ≤ a4) → f_X8_may (0 : Int32) a3 σ (fun r3 σ4 => (r3 = 0 → ∀ x5 : Int32, x5 = a3 + (1 : Int32) → K9 a1 a2 x5 σ4) ∧ ((¬ r3 = 0) → ∃ n32 : Nat, f_X8_findNearest_b37 Q K9 (fun a1 a2 a3 a4 σ => f_X8_findNearest_b18 Q K9 n a1 a2 a3 a4 σ) n32 a1 a2 a3 a4 (0 : Int32) σ4)))
def f_X8_findNearest_b9 (Q : St → Prop) : Nat → Int32 → Int32 → Int32 → St → Prop
  | 0, _, _, _, _ => False
  | n + 1, a1, a2, a3, σ => ((36 : Int32) ≤ a3 → Q σ) ∧ ((¬ (36 : Int32) ≤ a3) → ∃ n33 : Nat, f_X8_findNearest_b18 Q (fun a1 a2 a3 σ => f_X8_findNearest_b9 Q n a1 a2 a3 σ) n33 a1 a2 a3 (0 : Int32) σ)
def f_X8_findNearest (a1 : Int32) (a2 : Int32) (σ : St) (Q : St → Prop) : Prop := ∀ σ1 : St, σ1 = sL σ 3 0 (-1 : Int64) → ∃ n34 : Nat, f_X8_findNearest_b9 Q n34 a1 a2 (0 : Int32) σ1
theorem dy_X8_findNearest : yX8_findNearest.cls = yX8_findNearest.cls ∧ yX8_findNearest.cls ≠ "java/lang/invoke/MethodHandle" ∧ yX8_findNearest.cls ≠ "java/lang/invoke/VarHandle" ∧ (parseMethodDescriptor yX8_findNearest.desc).map (fun d => d.parameters.length) = some 2 := by decide +kernel
set_option maxHeartbeats 4000000 in
set_option maxRecDepth 100000 in
theorem lb_X8_findNearest_b206 {l : Launch} {D : va_G} {q : Nat → Nat} {ca : Nat → ClassId} {p : Program} {e : Env} {s : State} {m : MethodId} {args : Array Value} {below : List Frame} {meth : Method} {c : Code} (hE : qok 19 q) (hC : Cx p s m args meth c cX8_findNearest 12 RX8 none D (tysM ca) ZM) (Q : St → Prop) (K9 : Int32 → Int32 → Int32 → St → Prop) (hK9 : ∀ (a1 : Int32) (a2 : Int32) (a3 : Int32) (σ : St), K9 a1 a2 a3 σ → J p l e { frames := 1, cells := 0, slots := 0, locals := 22 } s m args below meth c (MQ below (va_Qv Q (BW D (wM q ca)) (AM q)) args s 0 0 (AM q)) D (AM q) 12 0 0 (wM q ca σ) 9 [(0, .ref (q 0)), (1, .int a1), (2, .int a2), (3, .int a3)] []) (K18 : Int32 → Int32 → Int32 → Int32 → St → Prop) (hK18 : ∀ (a1 : Int32) (a2 : Int32) (a3 : Int32) (a4 : Int32) (σ : St), K18 a1 a2 a3 a4 σ → J p l e { frames := 1, cells := 0, slots := 0, locals := 22 } s m args below meth c (MQ below (va_Qv Q (BW D (wM q ca)) (AM q)) args s 0 0 (AM q)) D (AM q) 12 0 0 (wM q ca σ) 18 [(0, .ref (q 0)), (1, .int a1), (2, .int a2), (3, .int a3), (4, .int a4)] []) (K37 : Int32 → Int32 → Int32 → Int32 → Int32 → St → Prop) (hK37 : ∀ (a1 : Int32) (a2 : Int32) (a3 : Int32) (a4 : Int32) (a5 : Int32) (σ : St), K37 a1 a2 a3 a4 a5 σ → J p l e { frames := 1, cells := 0, slots := 0, locals := 22 } s m args below meth c (MQ below (va_Qv Q (BW D (wM q ca)) (AM q)) args s 0 0 (AM q)) D (AM q) 12 0 0 (wM q ca σ) 37 [(0, .ref (q 0)), (1, .int a1), (2, .int a2), (3, .int a3), (4, .int a4), (5, .int a5)] []) (a1 : Int32) (a2 : Int32) (a3 : Int32) (a4 : Int32) (a5 : Int32) (a10 : Int64) (σ : St) (hf : f_X8_findNearest_b206 Q K9 K18 K37 a1 a2 a3 a4 a5 a10 σ) : J p l e { frames := 1, cells := 0, slots := 0, locals := 22 } s m args below meth c (MQ below (va_Qv Q (BW D (wM q ca)) (AM q)) args s 0 0 (AM q)) D (AM q) 12 0 0 (wM q ca σ) 206 [(0, .ref (q 0)), (1, .int a1), (2, .int a2), (3, .int a3), (4, .int a4), (5, .int a5), (10, .long a10)] [] := by
  unfold f_X8_findNearest_b206 at hf
  refine j_aload_n hC 0 dX8_findNearest_206 (pc' := 207) rfl rfl ?_
  refine j_lload hC 6 dX8_findNearest_207 (pc' := 209) rfl rfl ?_
  refine pM_nearSquare hC wm_581 dX8_findNearest_209 (pc' := 212) rfl ?_
  refine j_nms (wf := wM q ca) (fun σ28 eσ28 => ?_)
  replace hf := hf σ28 eσ28
  refine j_aload_n hC 0 dX8_findNearest_212 (pc' := 213) rfl rfl ?_
  refine j_sipush hC (v := 10000) dX8_findNearest_213 (pc' := 216) rfl (by decide) ?_
  refine j_iload_n hC 3 dX8_findNearest_216 (pc' := 217) rfl rfl ?_
  refine j_imul hC dX8_findNearest_217 (pc' := 218) rfl ?_
  refine j_bipush hC (v := 100) dX8_findNearest_218 (pc' := 220) rfl (by decide) ?_
  refine j_iload hC 4 dX8_findNearest_220 (pc' := 222) rfl rfl ?_
  refine j_imul hC dX8_findNearest_222 (pc' := 223) rfl ?_
  refine j_iadd hC dX8_findNearest_223 (pc' := 224) rfl ?_
  refine j_iload hC 5 dX8_findNearest_224 (pc' := 226) rfl rfl ?_
  refine j_iadd hC dX8_findNearest_226 (pc' := 227) rfl ?_
  refine pM_nearPosture hC wm_582 dX8_findNearest_227 (pc' := 230) rfl ?_
  refine j_nms (wf := wM q ca) (fun σ29 eσ29 => ?_)
  replace hf := hf σ29 eσ29
  obtain ⟨x30, ex30⟩ : ∃ y : Int32, y = a5 + (1 : Int32) := ⟨_, rfl⟩
  replace hf := hf x30 ex30
  refine j_iinc hC (v := x30) (q := 5) (lv' := [(5, .int x30), (0, .ref (q 0)), (1, .int a1), (2, .int a2), (3, .int a3), (4, .int a4), (10, .long a10)]) dX8_findNearest_230 (pc' := 233) rfl rfl (by rw [ex30]; rfl) (by decide) rfl ?_
  refine j_goto hC (tgt := 37) dX8_findNearest_233 (by decide) ?_
  refine j_lv [1, 2, 3, 4, 5, 0] rfl ?_
  exact hK37 a1 a2 a3 a4 x30 σ29 hf
set_option maxHeartbeats 4000000 in
set_option maxRecDepth 100000 in
theorem lb_X8_findNearest_b37 {l : Launch} {D : va_G} {q : Nat → Nat} {ca : Nat → ClassId} {p : Program} {e : Env} {s : State} {m : MethodId} {args : Array Value} {below : List Frame} {meth : Method} {c : Code} (hE : qok 19 q) (hC : Cx p s m args meth c cX8_findNearest 12 RX8 none D (tysM ca) ZM) (Q : St → Prop) (K9 : Int32 → Int32 → Int32 → St → Prop) (hK9 : ∀ (a1 : Int32) (a2 : Int32) (a3 : Int32) (σ : St), K9 a1 a2 a3 σ → J p l e { frames := 1, cells := 0, slots := 0, locals := 22 } s m args below meth c (MQ below (va_Qv Q (BW D (wM q ca)) (AM q)) args s 0 0 (AM q)) D (AM q) 12 0 0 (wM q ca σ) 9 [(0, .ref (q 0)), (1, .int a1), (2, .int a2), (3, .int a3)] []) (K18 : Int32 → Int32 → Int32 → Int32 → St → Prop) (hK18 : ∀ (a1 : Int32) (a2 : Int32) (a3 : Int32) (a4 : Int32) (σ : St), K18 a1 a2 a3 a4 σ → J p l e { frames := 1, cells := 0, slots := 0, locals := 22 } s m args below meth c (MQ below (va_Qv Q (BW D (wM q ca)) (AM q)) args s 0 0 (AM q)) D (AM q) 12 0 0 (wM q ca σ) 18 [(0, .ref (q 0)), (1, .int a1), (2, .int a2), (3, .int a3), (4, .int a4)] []) : ∀ (n : Nat) (a1 : Int32) (a2 : Int32) (a3 : Int32) (a4 : Int32) (a5 : Int32) (σ : St), f_X8_findNearest_b37 Q K9 K18 n a1 a2 a3 a4 a5 σ → J p l e { frames := 1, cells := 0, slots := 0, locals := 22 } s m args below meth c (MQ below (va_Qv Q (BW D (wM q ca)) (AM q)) args s 0 0 (AM q)) D (AM q) 12 0 0 (wM q ca σ) 37 [(0, .ref (q 0)), (1, .int a1), (2, .int a2), (3, .int a3), (4, .int a4), (5, .int a5)] [] := by
  intro n
  induction n with
  | zero => intro a1 a2 a3 a4 a5 σ hf; exact hf.elim
  | succ n ih =>
    intro a1 a2 a3 a4 a5 σ hf
    unfold f_X8_findNearest_b37 at hf
    refine j_iload hC 5 dX8_findNearest_37 (pc' := 39) rfl rfl ?_
    refine j_bipush hC (v := 36) dX8_findNearest_39 (pc' := 41) rfl (by decide) ?_
    refine j_icmp_ge hC (tgt := 236) dX8_findNearest_41 (pc' := 44) rfl (by decide) (fun c_ => ?_) (fun c_ => ?_)
    · replace hf := hf.1 c_
      obtain ⟨x6, ex6⟩ : ∃ y : Int32, y = a4 + (1 : Int32) := ⟨_, rfl⟩
      replace hf := hf x6 ex6
      refine j_iinc hC (v := x6) (q := 4) (lv' := [(4, .int x6), (0, .ref (q 0)), (1, .int a1), (2, .int a2), (3, .int a3), (5, .int a5)]) dX8_findNearest_236 (pc' := 239) rfl rfl (by rw [ex6]; rfl) (by decide) rfl ?_
      refine j_goto hC (tgt := 18) dX8_findNearest_239 (by decide) ?_
      refine j_lv [1, 2, 3, 4, 0] rfl ?_
      exact hK18 a1 a2 a3 x6 σ hf
    · replace hf := hf.2 c_
      refine j_aload_n hC 0 dX8_findNearest_44 (pc' := 45) rfl rfl ?_
      refine j_iconst hC (v := 1) dX8_findNearest_45 (pc' := 46) rfl (by decide) ?_
      refine j_iload hC 4 dX8_findNearest_46 (pc' := 48) rfl rfl ?_
      refine jcV_i hC (eM hE) (As := [.int (1 : Int32), .int a4]) (obM_X8) (rfl) (lk_X8_may hE (1 : Int32) a4 σ _ hf) wm_827 wm_828 wm_922 wm_8 wm_829 dy_X8_may ⟨rfl, rfl⟩ ⟨Nat.le_of_ble_eq_true rfl, Nat.le_of_ble_eq_true rfl⟩ ⟨Nat.le_refl _, Nat.le_refl _⟩ rfl rfl (Nat.le_of_ble_eq_true rfl) dX8_findNearest_48 (pc' := 51) rfl (fun r7 σ8 hf => ?_)
      refine j_if_eq hC (tgt := 236) dX8_findNearest_51 (pc' := 54) rfl (by decide) (fun c_ => ?_) (fun c_ => ?_)
      · replace hf := hf.1 c_
        obtain ⟨x9, ex9⟩ : ∃ y : Int32, y = a4 + (1 : Int32) := ⟨_, rfl⟩
        replace hf := hf x9 ex9
        refine j_iinc hC (v := x9) (q := 4) (lv' := [(4, .int x9), (0, .ref (q 0)), (1, .int a1), (2, .int a2), (3, .int a3), (5, .int a5)]) dX8_findNearest_236 (pc' := 239) rfl rfl (by rw [ex9]; rfl) (by decide) rfl ?_
        refine j_goto hC (tgt := 18) dX8_findNearest_239 (by decide) ?_
        refine j_lv [1, 2, 3, 4, 0] rfl ?_
        exact hK18 a1 a2 a3 x9 σ8 hf
      · replace hf := hf.2 c_
        refine j_aload_n hC 0 dX8_findNearest_54 (pc' := 55) rfl rfl ?_
        refine j_iconst hC (v := 2) dX8_findNearest_55 (pc' := 56) rfl (by decide) ?_
        refine j_iload hC 5 dX8_findNearest_56 (pc' := 58) rfl rfl ?_
        refine jcV_i hC (eM hE) (As := [.int (2 : Int32), .int a5]) (obM_X8) (rfl) (lk_X8_may hE (2 : Int32) a5 σ8 _ hf) wm_827 wm_828 wm_922 wm_8 wm_829 dy_X8_may ⟨rfl, rfl⟩ ⟨Nat.le_of_ble_eq_true rfl, Nat.le_of_ble_eq_true rfl⟩ ⟨Nat.le_refl _, Nat.le_refl _⟩ rfl rfl (Nat.le_of_ble_eq_true rfl) dX8_findNearest_58 (pc' := 61) rfl (fun r10 σ11 hf => ?_)
        refine j_if_eq hC (tgt := 230) dX8_findNearest_61 (pc' := 64) rfl (by decide) (fun c_ => ?_) (fun c_ => ?_)
        · replace hf := hf.1 c_
          obtain ⟨x12, ex12⟩ : ∃ y : Int32, y = a5 + (1 : Int32) := ⟨_, rfl⟩
          replace hf := hf x12 ex12
          refine j_iinc hC (v := x12) (q := 5) (lv' := [(5, .int x12), (0, .ref (q 0)), (1, .int a1), (2, .int a2), (3, .int a3), (4, .int a4)]) dX8_findNearest_230 (pc' := 233) rfl rfl (by rw [ex12]; rfl) (by decide) rfl ?_
          refine j_goto hC (tgt := 37) dX8_findNearest_233 (by decide) ?_
          refine j_lv [1, 2, 3, 4, 5, 0] rfl ?_
          exact ih a1 a2 a3 a4 x12 σ11 hf
        · replace hf := hf.2 c_
          refine j_aload_n hC 0 dX8_findNearest_64 (pc' := 65) rfl rfl ?_
          refine gM_lengths hC wm_565 dX8_findNearest_65 (pc' := 68) rfl ?_
          refine j_iconst hC (v := 0) dX8_findNearest_68 (pc' := 69) rfl (by decide) ?_
          refine lM_lengths hC (j := 0) (show ¬ ((0 : Int32) < 0 ∨ 3 ≤ (0 : Int32).toNatClampNeg) from by decide) (by decide) dX8_findNearest_69 (pc' := 70) rfl ?_
          refine j_aload_n hC 0 dX8_findNearest_70 (pc' := 71) rfl rfl ?_
          refine j_iload_n hC 3 dX8_findNearest_71 (pc' := 72) rfl rfl ?_
          refine jcV_i hC (eM hE) (As := [.int a3]) (obM_X8) (rfl) (lk_X8_c hE a3 σ11 _ hf) wm_645 wm_646 wm_901 wm_8 wm_647 dy_X8_c ⟨rfl, rfl⟩ ⟨Nat.le_of_ble_eq_true rfl, Nat.le_of_ble_eq_true rfl⟩ ⟨Nat.le_refl _, Nat.le_refl _⟩ rfl rfl (Nat.le_of_ble_eq_true rfl) dX8_findNearest_72 (pc' := 75) rfl (fun r13 σ14 hf => ?_)
          refine j_imul hC dX8_findNearest_75 (pc' := 76) rfl ?_
          refine j_aload_n hC 0 dX8_findNearest_76 (pc' := 77) rfl rfl ?_
          refine gM_lengths hC wm_565 dX8_findNearest_77 (pc' := 80) rfl ?_
          refine j_iconst hC (v := 1) dX8_findNearest_80 (pc' := 81) rfl (by decide) ?_
          refine lM_lengths hC (j := 1) (show ¬ ((1 : Int32) < 0 ∨ 3 ≤ (1 : Int32).toNatClampNeg) from by decide) (by decide) dX8_findNearest_81 (pc' := 82) rfl ?_
          refine j_aload_n hC 0 dX8_findNearest_82 (pc' := 83) rfl rfl ?_
          refine j_iload_n hC 3 dX8_findNearest_83 (pc' := 84) rfl rfl ?_
          refine j_iload hC 4 dX8_findNearest_84 (pc' := 86) rfl rfl ?_
          refine j_iadd hC dX8_findNearest_86 (pc' := 87) rfl ?_
          refine jcV_i hC (eM hE) (As := [.int (a3 + a4)]) (obM_X8) (rfl) (lk_X8_c hE (a3 + a4) σ14 _ hf) wm_645 wm_646 wm_901 wm_8 wm_647 dy_X8_c ⟨rfl, rfl⟩ ⟨Nat.le_of_ble_eq_true rfl, Nat.le_of_ble_eq_true rfl⟩ ⟨Nat.le_refl _, Nat.le_refl _⟩ rfl rfl (Nat.le_of_ble_eq_true rfl) dX8_findNearest_87 (pc' := 90) rfl (fun r15 σ16 hf => ?_)
          refine j_imul hC dX8_findNearest_90 (pc' := 91) rfl ?_
          refine j_iadd hC dX8_findNearest_91 (pc' := 92) rfl ?_
          refine j_aload_n hC 0 dX8_findNearest_92 (pc' := 93) rfl rfl ?_
          refine gM_lengths hC wm_565 dX8_findNearest_93 (pc' := 96) rfl ?_
          refine j_iconst hC (v := 2) dX8_findNearest_96 (pc' := 97) rfl (by decide) ?_
          refine lM_lengths hC (j := 2) (show ¬ ((2 : Int32) < 0 ∨ 3 ≤ (2 : Int32).toNatClampNeg) from by decide) (by decide) dX8_findNearest_97 (pc' := 98) rfl ?_
          refine j_aload_n hC 0 dX8_findNearest_98 (pc' := 99) rfl rfl ?_
          refine j_iload_n hC 3 dX8_findNearest_99 (pc' := 100) rfl rfl ?_
          refine j_iload hC 4 dX8_findNearest_100 (pc' := 102) rfl rfl ?_
          refine j_iadd hC dX8_findNearest_102 (pc' := 103) rfl ?_
          refine j_iload hC 5 dX8_findNearest_103 (pc' := 105) rfl rfl ?_
          refine j_iadd hC dX8_findNearest_105 (pc' := 106) rfl ?_
          refine jcV_i hC (eM hE) (As := [.int ((a3 + a4) + a5)]) (obM_X8) (rfl) (lk_X8_c hE ((a3 + a4) + a5) σ16 _ hf) wm_645 wm_646 wm_901 wm_8 wm_647 dy_X8_c ⟨rfl, rfl⟩ ⟨Nat.le_of_ble_eq_true rfl, Nat.le_of_ble_eq_true rfl⟩ ⟨Nat.le_refl _, Nat.le_refl _⟩ rfl rfl (Nat.le_of_ble_eq_true rfl) dX8_findNearest_106 (pc' := 109) rfl (fun r17 σ18 hf => ?_)
          refine j_imul hC dX8_findNearest_109 (pc' := 110) rfl ?_
          refine j_iadd hC dX8_findNearest_110 (pc' := 111) rfl ?_
          refine j_bipush hC (v := 65) dX8_findNearest_111 (pc' := 113) rfl (by decide) ?_
          refine j_iload_n hC 1 dX8_findNearest_113 (pc' := 114) rfl rfl ?_
          refine j_imul hC dX8_findNearest_114 (pc' := 115) rfl ?_
          refine j_isub hC dX8_findNearest_115 (pc' := 116) rfl ?_
          refine j_i2l hC dX8_findNearest_116 (pc' := 117) rfl ?_
          refine j_nml (fun x19 ex19 => ?_)
          replace hf := hf x19 ex19
          refine j_lstore hC (lv' := [(6, .long x19), (0, .ref (q 0)), (1, .int a1), (2, .int a2), (3, .int a3), (4, .int a4), (5, .int a5)]) dX8_findNearest_117 (pc' := 119) rfl (by decide) rfl ?_
          refine j_aload_n hC 1 dX8_findNearest_119 (pc' := 120) rfl rfl ?_
          refine gM_lengths hC wm_565 dX8_findNearest_120 (pc' := 123) rfl ?_
          refine j_iconst hC (v := 0) dX8_findNearest_123 (pc' := 124) rfl (by decide) ?_
          refine lM_lengths hC (j := 0) (show ¬ ((0 : Int32) < 0 ∨ 3 ≤ (0 : Int32).toNatClampNeg) from by decide) (by decide) dX8_findNearest_124 (pc' := 125) rfl ?_
          refine j_aload_n hC 1 dX8_findNearest_125 (pc' := 126) rfl rfl ?_
          refine j_iload_n hC 4 dX8_findNearest_126 (pc' := 127) rfl rfl ?_
          refine jcV_i hC (eM hE) (As := [.int a3]) (obM_X8) (rfl) (lk_X8_s hE a3 σ18 _ hf) wm_648 wm_649 wm_902 wm_8 wm_650 dy_X8_s ⟨rfl, rfl⟩ ⟨Nat.le_of_ble_eq_true rfl, Nat.le_of_ble_eq_true rfl⟩ ⟨Nat.le_refl _, Nat.le_refl _⟩ rfl rfl (Nat.le_of_ble_eq_true rfl) dX8_findNearest_127 (pc' := 130) rfl (fun r20 σ21 hf => ?_)
          refine j_imul hC dX8_findNearest_130 (pc' := 131) rfl ?_
          refine j_aload_n hC 1 dX8_findNearest_131 (pc' := 132) rfl rfl ?_
          refine gM_lengths hC wm_565 dX8_findNearest_132 (pc' := 135) rfl ?_
          refine j_iconst hC (v := 1) dX8_findNearest_135 (pc' := 136) rfl (by decide) ?_
          refine lM_lengths hC (j := 1) (show ¬ ((1 : Int32) < 0 ∨ 3 ≤ (1 : Int32).toNatClampNeg) from by decide) (by decide) dX8_findNearest_136 (pc' := 137) rfl ?_
          refine j_aload_n hC 1 dX8_findNearest_137 (pc' := 138) rfl rfl ?_
          refine j_iload_n hC 4 dX8_findNearest_138 (pc' := 139) rfl rfl ?_
          refine j_iload hC 5 dX8_findNearest_139 (pc' := 141) rfl rfl ?_
          refine j_iadd hC dX8_findNearest_141 (pc' := 142) rfl ?_
          refine jcV_i hC (eM hE) (As := [.int (a3 + a4)]) (obM_X8) (rfl) (lk_X8_s hE (a3 + a4) σ21 _ hf) wm_648 wm_649 wm_902 wm_8 wm_650 dy_X8_s ⟨rfl, rfl⟩ ⟨Nat.le_of_ble_eq_true rfl, Nat.le_of_ble_eq_true rfl⟩ ⟨Nat.le_refl _, Nat.le_refl _⟩ rfl rfl (Nat.le_of_ble_eq_true rfl) dX8_findNearest_142 (pc' := 145) rfl (fun r22 σ23 hf => ?_)
          refine j_imul hC dX8_findNearest_145 (pc' := 146) rfl ?_
          refine j_iadd hC dX8_findNearest_146 (pc' := 147) rfl ?_
          refine j_aload_n hC 1 dX8_findNearest_147 (pc' := 148) rfl rfl ?_
          refine gM_lengths hC wm_565 dX8_findNearest_148 (pc' := 151) rfl ?_
          refine j_iconst hC (v := 2) dX8_findNearest_151 (pc' := 152) rfl (by decide) ?_
          refine lM_lengths hC (j := 2) (show ¬ ((2 : Int32) < 0 ∨ 3 ≤ (2 : Int32).toNatClampNeg) from by decide) (by decide) dX8_findNearest_152 (pc' := 153) rfl ?_
          refine j_aload_n hC 1 dX8_findNearest_153 (pc' := 154) rfl rfl ?_
          refine j_iload_n hC 4 dX8_findNearest_154 (pc' := 155) rfl rfl ?_
          refine j_iload hC 5 dX8_findNearest_155 (pc' := 157) rfl rfl ?_
          refine j_iadd hC dX8_findNearest_157 (pc' := 158) rfl ?_
          refine j_iload hC 6 dX8_findNearest_158 (pc' := 160) rfl rfl ?_
          refine j_iadd hC dX8_findNearest_160 (pc' := 161) rfl ?_
          refine jcV_i hC (eM hE) (As := [.int ((a3 + a4) + a5)]) (obM_X8) (rfl) (lk_X8_s hE ((a3 + a4) + a5) σ23 _ hf) wm_648 wm_649 wm_902 wm_8 wm_650 dy_X8_s ⟨rfl, rfl⟩ ⟨Nat.le_of_ble_eq_true rfl, Nat.le_of_ble_eq_true rfl⟩ ⟨Nat.le_refl _, Nat.le_refl _⟩ rfl rfl (Nat.le_of_ble_eq_true rfl) dX8_findNearest_161 (pc' := 164) rfl (fun r24 σ25 hf => ?_)
          refine j_imul hC dX8_findNearest_164 (pc' := 165) rfl ?_
          refine j_iadd hC dX8_findNearest_165 (pc' := 166) rfl ?_
          refine j_bipush hC (v := 65) dX8_findNearest_166 (pc' := 168) rfl (by decide) ?_
          refine j_iload_n hC 3 dX8_findNearest_168 (pc' := 169) rfl rfl ?_
          refine j_imul hC dX8_findNearest_169 (pc' := 170) rfl ?_
          refine j_isub hC dX8_findNearest_170 (pc' := 171) rfl ?_
          refine j_i2l hC dX8_findNearest_171 (pc' := 172) rfl ?_
          refine j_nml (fun x26 ex26 => ?_)
          replace hf := hf x26 ex26
          refine j_lstore hC (lv' := [(8, .long x26), (6, .long x19), (0, .ref (q 0)), (1, .int a1), (2, .int a2), (3, .int a3), (4, .int a4), (5, .int a5)]) dX8_findNearest_172 (pc' := 174) rfl (by decide) rfl ?_
          refine j_lload hC 1 dX8_findNearest_174 (pc' := 176) rfl rfl ?_
          refine j_lload hC 1 dX8_findNearest_176 (pc' := 178) rfl rfl ?_
          refine j_lmul hC dX8_findNearest_178 (pc' := 179) rfl ?_
          refine j_lload hC 0 dX8_findNearest_179 (pc' := 181) rfl rfl ?_
          refine j_lload hC 0 dX8_findNearest_181 (pc' := 183) rfl rfl ?_
          refine j_lmul hC dX8_findNearest_183 (pc' := 184) rfl ?_
          refine j_ladd hC dX8_findNearest_184 (pc' := 185) rfl ?_
          refine j_nml (fun x27 ex27 => ?_)
          replace hf := hf x27 ex27
          refine j_lstore hC (lv' := [(10, .long x27), (8, .long x26), (6, .long x19), (0, .ref (q 0)), (1, .int a1), (2, .int a2), (3, .int a3), (4, .int a4), (5, .int a5)]) dX8_findNearest_185 (pc' := 187) rfl (by decide) rfl ?_
          refine j_aload_n hC 3 dX8_findNearest_187 (pc' := 188) rfl rfl ?_
          refine gM_nearSquare hC wm_581 dX8_findNearest_188 (pc' := 191) rfl ?_
          refine j_lconst hC (v := 0) dX8_findNearest_191 (pc' := 192) rfl (by decide) ?_
          refine j_lcmp hC dX8_findNearest_192 (pc' := 193) rfl ?_
          refine j_if_lt hC (tgt := 206) dX8_findNearest_193 (pc' := 196) rfl (by decide) (fun c_ => ?_) (fun c_ => ?_)
          · replace hf := hf.1 ((lgc_lt _ _).mp c_)
            refine j_lv [3, 4, 5, 6, 7, 8, 0] rfl ?_
            exact lb_X8_findNearest_b206 hE hC Q _ hK9 _ hK18 _ ih a1 a2 a3 a4 a5 x27 σ25 hf
          · replace hf := hf.2 (fun z => c_ ((lgc_lt _ _).mpr z))
            refine j_lload hC 0 dX8_findNearest_196 (pc' := 198) rfl rfl ?_
            refine j_aload_n hC 3 dX8_findNearest_198 (pc' := 199) rfl rfl ?_
            refine gM_nearSquare hC wm_581 dX8_findNearest_199 (pc' := 202) rfl ?_
            refine j_lcmp hC dX8_findNearest_202 (pc' := 203) rfl ?_
            refine j_if_ge hC (tgt := 230) dX8_findNearest_203 (pc' := 206) rfl (by decide) (fun c_ => ?_) (fun c_ => ?_)
            · replace hf := hf.1 ((lgc_ge _ _).mp c_)
              obtain ⟨x31, ex31⟩ : ∃ y : Int32, y = a5 + (1 : Int32) := ⟨_, rfl⟩
              replace hf := hf x31 ex31
              refine j_iinc hC (v := x31) (q := 8) (lv' := [(5, .int x31), (10, .long x27), (8, .long x26), (6, .long x19), (0, .ref (q 0)), (1, .int a1), (2, .int a2), (3, .int a3), (4, .int a4)]) dX8_findNearest_230 (pc' := 233) rfl rfl (by rw [ex31]; rfl) (by decide) rfl ?_
              refine j_goto hC (tgt := 37) dX8_findNearest_233 (by decide) ?_
              refine j_lv [4, 5, 6, 7, 8, 0] rfl ?_
              exact ih a1 a2 a3 a4 x31 σ25 hf
            · replace hf := hf.2 (fun z => c_ ((lgc_ge _ _).mpr z))
              refine j_lv [3, 4, 5, 6, 7, 8, 0] rfl ?_
              exact lb_X8_findNearest_b206 hE hC Q _ hK9 _ hK18 _ ih a1 a2 a3 a4 a5 x27 σ25 hf
set_option maxHeartbeats 4000000 in
set_option maxRecDepth 100000 in
theorem lb_X8_findNearest_b18 {l : Launch} {D : va_G} {q : Nat → Nat} {ca : Nat → ClassId} {p : Program} {e : Env} {s : State} {m : MethodId} {args : Array Value} {below : List Frame} {meth : Method} {c : Code} (hE : qok 19 q) (hC : Cx p s m args meth c cX8_findNearest 12 RX8 none D (tysM ca) ZM) (Q : St → Prop) (K9 : Int32 → Int32 → Int32 → St → Prop) (hK9 : ∀ (a1 : Int32) (a2 : Int32) (a3 : Int32) (σ : St), K9 a1 a2 a3 σ → J p l e { frames := 1, cells := 0, slots := 0, locals := 22 } s m args below meth c (MQ below (va_Qv Q (BW D (wM q ca)) (AM q)) args s 0 0 (AM q)) D (AM q) 12 0 0 (wM q ca σ) 9 [(0, .ref (q 0)), (1, .int a1), (2, .int a2), (3, .int a3)] []) : ∀ (n : Nat) (a1 : Int32) (a2 : Int32) (a3 : Int32) (a4 : Int32) (σ : St), f_X8_findNearest_b18 Q K9 n a1 a2 a3 a4 σ → J p l e { frames := 1, cells := 0, slots := 0, locals := 22 } s m args below meth c (MQ below (va_Qv Q (BW D (wM q ca)) (AM q)) args s 0 0 (AM q)) D (AM q) 12 0 0 (wM q ca σ) 18 [(0, .ref (q 0)), (1, .int a1), (2, .int a2), (3, .int a3), (4, .int a4)] [] := by
  intro n
  induction n with
  | zero => intro a1 a2 a3 a4 σ hf; exact hf.elim
  | succ n ih =>
    intro a1 a2 a3 a4 σ hf
    unfold f_X8_findNearest_b18 at hf
    refine j_iload hC 4 dX8_findNearest_18 (pc' := 20) rfl rfl ?_
    refine j_bipush hC (v := 36) dX8_findNearest_20 (pc' := 22) rfl (by decide) ?_
    refine j_icmp_ge hC (tgt := 242) dX8_findNearest_22 (pc' := 25) rfl (by decide) (fun c_ => ?_) (fun c_ => ?_)
    · replace hf := hf.1 c_
      obtain ⟨x2, ex2⟩ : ∃ y : Int32, y = a3 + (1 : Int32) := ⟨_, rfl⟩
      replace hf := hf x2 ex2
      refine j_iinc hC (v := x2) (q := 3) (lv' := [(3, .int x2), (0, .ref (q 0)), (1, .int a1), (2, .int a2), (4, .int a4)]) dX8_findNearest_242 (pc' := 245) rfl rfl (by rw [ex2]; rfl) (by decide) rfl ?_
      refine j_goto hC (tgt := 9) dX8_findNearest_245 (by decide) ?_
      refine j_lv [1, 2, 3, 0] rfl ?_
      exact hK9 a1 a2 x2 σ hf
    · replace hf := hf.2 c_
      refine j_aload_n hC 0 dX8_findNearest_25 (pc' := 26) rfl rfl ?_
      refine j_iconst hC (v := 0) dX8_findNearest_26 (pc' := 27) rfl (by decide) ?_
      refine j_iload_n hC 3 dX8_findNearest_27 (pc' := 28) rfl rfl ?_
      refine jcV_i hC (eM hE) (As := [.int (0 : Int32), .int a3]) (obM_X8) (rfl) (lk_X8_may hE (0 : Int32) a3 σ _ hf) wm_827 wm_828 wm_922 wm_8 wm_829 dy_X8_may ⟨rfl, rfl⟩ ⟨Nat.le_of_ble_eq_true rfl, Nat.le_of_ble_eq_true rfl⟩ ⟨Nat.le_refl _, Nat.le_refl _⟩ rfl rfl (Nat.le_of_ble_eq_true rfl) dX8_findNearest_28 (pc' := 31) rfl (fun r3 σ4 hf => ?_)
      refine j_if_eq hC (tgt := 242) dX8_findNearest_31 (pc' := 34) rfl (by decide) (fun c_ => ?_) (fun c_ => ?_)
      · replace hf := hf.1 c_
        obtain ⟨x5, ex5⟩ : ∃ y : Int32, y = a3 + (1 : Int32) := ⟨_, rfl⟩
        replace hf := hf x5 ex5
        refine j_iinc hC (v := x5) (q := 3) (lv' := [(3, .int x5), (0, .ref (q 0)), (1, .int a1), (2, .int a2), (4, .int a4)]) dX8_findNearest_242 (pc' := 245) rfl rfl (by rw [ex5]; rfl) (by decide) rfl ?_
        refine j_goto hC (tgt := 9) dX8_findNearest_245 (by decide) ?_
        refine j_lv [1, 2, 3, 0] rfl ?_
        exact hK9 a1 a2 x5 σ4 hf
      · replace hf := hf.2 c_
        refine j_iconst hC (v := 0) dX8_findNearest_34 (pc' := 35) rfl (by decide) ?_
        refine j_istore hC (lv' := [(5, .int (0 : Int32)), (0, .ref (q 0)), (1, .int a1), (2, .int a2), (3, .int a3), (4, .int a4)]) dX8_findNearest_35 (pc' := 37) rfl (by decide) rfl ?_
        obtain ⟨n32, hf⟩ := hf
        refine j_lv [1, 2, 3, 4, 5, 0] rfl ?_
        exact lb_X8_findNearest_b37 hE hC Q _ hK9 _ ih n32 a1 a2 a3 a4 (0 : Int32) σ4 hf
set_option maxHeartbeats 4000000 in
set_option maxRecDepth 100000 in
theorem lb_X8_findNearest_b9 {l : Launch} {D : va_G} {q : Nat → Nat} {ca : Nat → ClassId} {p : Program} {e : Env} {s : State} {m : MethodId} {args : Array Value} {below : List Frame} {meth : Method} {c : Code} (hE : qok 19 q) (hC : Cx p s m args meth c cX8_findNearest 12 RX8 none D (tysM ca) ZM) (Q : St → Prop) : ∀ (n : Nat) (a1 : Int32) (a2 : Int32) (a3 : Int32) (σ : St), f_X8_findNearest_b9 Q n a1 a2 a3 σ → J p l e { frames := 1, cells := 0, slots := 0, locals := 22 } s m args below meth c (MQ below (va_Qv Q (BW D (wM q ca)) (AM q)) args s 0 0 (AM q)) D (AM q) 12 0 0 (wM q ca σ) 9 [(0, .ref (q 0)), (1, .int a1), (2, .int a2), (3, .int a3)] [] := by
  intro n
  induction n with
  | zero => intro a1 a2 a3 σ hf; exact hf.elim
  | succ n ih =>
    intro a1 a2 a3 σ hf
    unfold f_X8_findNearest_b9 at hf
    refine j_iload_n hC 3 dX8_findNearest_9 (pc' := 10) rfl rfl ?_
    refine j_bipush hC (v := 36) dX8_findNearest_10 (pc' := 12) rfl (by decide) ?_
    refine j_icmp_ge hC (tgt := 248) dX8_findNearest_12 (pc' := 15) rfl (by decide) (fun c_ => ?_) (fun c_ => ?_)
    · replace hf := hf.1 c_
      exact j_vret hC dX8_findNearest_248 hf
    · replace hf := hf.2 c_
      refine j_iconst hC (v := 0) dX8_findNearest_15 (pc' := 16) rfl (by decide) ?_
      refine j_istore hC (lv' := [(4, .int (0 : Int32)), (0, .ref (q 0)), (1, .int a1), (2, .int a2), (3, .int a3)]) dX8_findNearest_16 (pc' := 18) rfl (by decide) rfl ?_
      obtain ⟨n33, hf⟩ := hf
      refine j_lv [1, 2, 3, 4, 0] rfl ?_
      exact lb_X8_findNearest_b18 hE hC Q _ ih n33 a1 a2 a3 (0 : Int32) σ hf
set_option maxHeartbeats 4000000 in
set_option maxRecDepth 100000 in
theorem lk_X8_findNearest {l : Launch} {D : va_G} {q : Nat → Nat} {ca : Nat → ClassId} (hE : qok 19 q) (a1 : Int32) (a2 : Int32) (σ : St) (Q : St → Prop) (hf : f_X8_findNearest a1 a2 σ Q) : Mv l yX8_findNearest cX8_findNearest 12 none { frames := 1, cells := 0, slots := 0, locals := 22 } D (tysM ca) ZM (wM q ca) (AM q) [.ref (q 0), .int a1, .int a2] σ Q := by
  refine j_start (own := RX8) (lv := [(0, .ref (q 0)), (1, .int a1), (2, .int a2)]) [.ref (q 0), .int a1, .int a2] (by decide +kernel) rfl (wM_D hE σ) (Nat.le_of_ble_eq_true rfl) rfl (fun p e s m args below meth c hC => ?_)
  unfold f_X8_findNearest at hf
  refine j_aload_n hC 0 dX8_findNearest_0 (pc' := 1) rfl rfl ?_
  refine j_ldc2 hC (v := -1) dX8_findNearest_1 (pc' := 4) rfl wm_826 ?_
  refine pM_nearSquare hC wm_581 dX8_findNearest_4 (pc' := 7) rfl ?_
  refine j_nms (wf := wM q ca) (fun σ1 eσ1 => ?_)
  replace hf := hf σ1 eσ1
  refine j_iconst hC (v := 0) dX8_findNearest_7 (pc' := 8) rfl (by decide) ?_
  refine j_istore_n hC (lv' := [(3, .int (0 : Int32)), (0, .ref (q 0)), (1, .int a1), (2, .int a2)]) dX8_findNearest_8 (pc' := 9) rfl rfl (by decide) rfl ?_
  obtain ⟨n34, hf⟩ := hf
  refine j_lv [1, 2, 3, 0] rfl ?_
  exact lb_X8_findNearest_b9 hE hC Q n34 a1 a2 (0 : Int32) σ1 hf
def f_X8_isPlace (a0 : Int32) (a1 : Int32) (σ : St) (Q : Int32 → St → Prop) : Prop := f_X8_in (Int32.toInt64 a0) (-3000 : Int64) (3000 : Int64) σ (fun r1 σ2 => (r1 = 0 → Q (0 : Int32) σ2) ∧ ((¬ r1 = 0) → f_X8_in (Int32.toInt64 a1) (-3000 : Int64) (3000 : Int64) σ2 (fun r3 σ4 => (r3 = 0 → Q (0 : Int32) σ4) ∧ ((¬ r3 = 0) → Q (1 : Int32) σ4))))
theorem dy_X8_isPlace : yX8_isPlace.cls ≠ "java/lang/invoke/MethodHandle" ∧ yX8_isPlace.cls ≠ "java/lang/invoke/VarHandle" ∧ (parseMethodDescriptor yX8_isPlace.desc).map (fun d => d.parameters.length) = some 2 := by decide +kernel
set_option maxHeartbeats 4000000 in
set_option maxRecDepth 100000 in
theorem lk_X8_isPlace {l : Launch} {D : va_G} {q : Nat → Nat} {ca : Nat → ClassId} (hE : qok 19 q) (a0 : Int32) (a1 : Int32) (σ : St) (Q : Int32 → St → Prop) (hf : f_X8_isPlace a0 a1 σ Q) : Mi l yX8_isPlace cX8_isPlace 2 (some .boolean) { frames := 1, cells := 0, slots := 0, locals := 25 } D (tysM ca) ZM (wM q ca) (AM q) [.int a0, .int a1] σ Q := by
  refine j_start (own := RX8) (lv := [(0, .int a0), (1, .int a1)]) [.int a0, .int a1] (by decide +kernel) rfl (wM_D hE σ) (Nat.le_of_ble_eq_true rfl) rfl (fun p e s m args below meth c hC => ?_)
  unfold f_X8_isPlace at hf
  refine j_iload_n hC 0 dX8_isPlace_0 (pc' := 1) rfl rfl ?_
  refine j_i2l hC dX8_isPlace_1 (pc' := 2) rfl ?_
  refine j_ldc2 hC (v := -3000) dX8_isPlace_2 (pc' := 5) rfl wm_821 ?_
  refine j_ldc2 hC (v := 3000) dX8_isPlace_5 (pc' := 8) rfl wm_822 ?_
  refine jcS_i hC (eM hE) (As := [.long (Int32.toInt64 a0), .long (-3000 : Int64), .long (3000 : Int64)]) (lk_X8_in hE (Int32.toInt64 a0) (-3000 : Int64) (3000 : Int64) σ _ hf) wm_642 wm_643 wm_8 wm_644 dy_X8_in ⟨rfl, rfl⟩ ⟨Nat.le_of_ble_eq_true rfl, Nat.le_of_ble_eq_true rfl⟩ ⟨Nat.le_refl _, Nat.le_refl _⟩ rfl rfl (Nat.le_of_ble_eq_true rfl) dX8_isPlace_8 (pc' := 11) rfl (fun r1 σ2 hf => ?_)
  refine j_if_eq hC (tgt := 32) dX8_isPlace_11 (pc' := 14) rfl (by decide) (fun c_ => ?_) (fun c_ => ?_)
  · replace hf := hf.1 c_
    refine j_iconst hC (v := 0) dX8_isPlace_32 (pc' := 33) rfl (by decide) ?_
    exact j_zret hC dX8_isPlace_33 (Or.inl rfl) hf
  · replace hf := hf.2 c_
    refine j_iload_n hC 1 dX8_isPlace_14 (pc' := 15) rfl rfl ?_
    refine j_i2l hC dX8_isPlace_15 (pc' := 16) rfl ?_
    refine j_ldc2 hC (v := -3000) dX8_isPlace_16 (pc' := 19) rfl wm_821 ?_
    refine j_ldc2 hC (v := 3000) dX8_isPlace_19 (pc' := 22) rfl wm_822 ?_
    refine jcS_i hC (eM hE) (As := [.long (Int32.toInt64 a1), .long (-3000 : Int64), .long (3000 : Int64)]) (lk_X8_in hE (Int32.toInt64 a1) (-3000 : Int64) (3000 : Int64) σ2 _ hf) wm_642 wm_643 wm_8 wm_644 dy_X8_in ⟨rfl, rfl⟩ ⟨Nat.le_of_ble_eq_true rfl, Nat.le_of_ble_eq_true rfl⟩ ⟨Nat.le_refl _, Nat.le_refl _⟩ rfl rfl (Nat.le_of_ble_eq_true rfl) dX8_isPlace_22 (pc' := 25) rfl (fun r3 σ4 hf => ?_)
    refine j_if_eq hC (tgt := 32) dX8_isPlace_25 (pc' := 28) rfl (by decide) (fun c_ => ?_) (fun c_ => ?_)
    · replace hf := hf.1 c_
      refine j_iconst hC (v := 0) dX8_isPlace_32 (pc' := 33) rfl (by decide) ?_
      exact j_zret hC dX8_isPlace_33 (Or.inl rfl) hf
    · replace hf := hf.2 c_
      refine j_iconst hC (v := 1) dX8_isPlace_28 (pc' := 29) rfl (by decide) ?_
      refine j_goto hC (tgt := 33) dX8_isPlace_29 (by decide) ?_
      exact j_zret hC dX8_isPlace_33 (Or.inr rfl) hf
def f_X8_nearest (a1 : Int32) (a2 : Int32) (σ : St) (Q : Int32 → St → Prop) : Prop := f_X8_isPlace a1 a2 σ (fun r1 σ2 => ((¬ r1 = 0) → f_X8_findNearest a1 a2 σ2 (fun σ4 => Q (σ4.1 21 0) σ4)) ∧ (r1 = 0 → Q (-2 : Int32) σ2))
theorem dy_X8_nearest : yX8_nearest.cls = yX8_nearest.cls ∧ yX8_nearest.cls ≠ "java/lang/invoke/MethodHandle" ∧ yX8_nearest.cls ≠ "java/lang/invoke/VarHandle" ∧ (parseMethodDescriptor yX8_nearest.desc).map (fun d => d.parameters.length) = some 2 := by decide +kernel
set_option maxHeartbeats 4000000 in
set_option maxRecDepth 100000 in
theorem lk_X8_nearest {l : Launch} {D : va_G} {q : Nat → Nat} {ca : Nat → ClassId} (hE : qok 19 q) (a1 : Int32) (a2 : Int32) (σ : St) (Q : Int32 → St → Prop) (hf : f_X8_nearest a1 a2 σ Q) : Mi l yX8_nearest cX8_nearest 3 (some .int) { frames := 2, cells := 0, slots := 0, locals := 53 } D (tysM ca) ZM (wM q ca) (AM q) [.ref (q 0), .int a1, .int a2] σ Q := by
  refine j_start (own := RX8) (lv := [(0, .ref (q 0)), (1, .int a1), (2, .int a2)]) [.ref (q 0), .int a1, .int a2] (by decide +kernel) rfl (wM_D hE σ) (Nat.le_of_ble_eq_true rfl) rfl (fun p e s m args below meth c hC => ?_)
  unfold f_X8_nearest at hf
  refine j_iload_n hC 1 dX8_nearest_0 (pc' := 1) rfl rfl ?_
  refine j_iload_n hC 2 dX8_nearest_1 (pc' := 2) rfl rfl ?_
  refine jcS_i hC (eM hE) (As := [.int a1, .int a2]) (lk_X8_isPlace hE a1 a2 σ _ hf) wm_818 wm_819 wm_8 wm_820 dy_X8_isPlace ⟨rfl, rfl⟩ ⟨Nat.le_of_ble_eq_true rfl, Nat.le_of_ble_eq_true rfl⟩ ⟨Nat.le_refl _, Nat.le_refl _⟩ rfl rfl (Nat.le_of_ble_eq_true rfl) dX8_nearest_2 (pc' := 5) rfl (fun r1 σ2 hf => ?_)
  refine j_if_ne hC (tgt := 11) dX8_nearest_5 (pc' := 8) rfl (by decide) (fun c_ => ?_) (fun c_ => ?_)
  · replace hf := hf.1 c_
    refine j_aload_n hC 0 dX8_nearest_11 (pc' := 12) rfl rfl ?_
    refine j_iload_n hC 1 dX8_nearest_12 (pc' := 13) rfl rfl ?_
    refine j_iload_n hC 2 dX8_nearest_13 (pc' := 14) rfl rfl ?_
    refine jcV_v hC (eM hE) (As := [.int a1, .int a2]) (obM_X8) (rfl) (lk_X8_findNearest hE a1 a2 σ2 _ hf) wm_823 wm_824 wm_921 wm_8 wm_825 dy_X8_findNearest ⟨rfl, rfl⟩ ⟨Nat.le_of_ble_eq_true rfl, Nat.le_of_ble_eq_true rfl⟩ ⟨Nat.le_refl _, Nat.le_refl _⟩ rfl rfl (Nat.le_of_ble_eq_true rfl) dX8_nearest_14 (pc' := 17) rfl (fun σ4 hf => ?_)
    refine j_aload_n hC 0 dX8_nearest_17 (pc' := 18) rfl rfl ?_
    refine gM_nearPosture hC wm_582 dX8_nearest_18 (pc' := 21) rfl ?_
    exact j_iret hC dX8_nearest_21 hf
  · replace hf := hf.2 c_
    refine j_bipush hC (v := -2) dX8_nearest_8 (pc' := 10) rfl (by decide) ?_
    exact j_iret hC dX8_nearest_10 hf
def f_X8_near (a1 : Int32) (a2 : Int32) (σ : St) (Q : Int64 → St → Prop) : Prop := f_X8_isPlace a1 a2 σ (fun r1 σ2 => ((¬ r1 = 0) → f_X8_findNearest a1 a2 σ2 (fun σ4 => Q (σ4.2 3 0) σ4)) ∧ (r1 = 0 → f_X8_no (-2 : Int32) σ2 (fun r5 σ6 => Q r5 σ6)))
theorem dy_X8_near : yX8_near.cls = yX8_near.cls ∧ yX8_near.cls ≠ "java/lang/invoke/MethodHandle" ∧ yX8_near.cls ≠ "java/lang/invoke/VarHandle" ∧ (parseMethodDescriptor yX8_near.desc).map (fun d => d.parameters.length) = some 2 := by decide +kernel
set_option maxHeartbeats 4000000 in
set_option maxRecDepth 100000 in
theorem lk_X8_near {l : Launch} {D : va_G} {q : Nat → Nat} {ca : Nat → ClassId} (hE : qok 19 q) (a1 : Int32) (a2 : Int32) (σ : St) (Q : Int64 → St → Prop) (hf : f_X8_near a1 a2 σ Q) : Ml l yX8_near cX8_near 3 (some .long) { frames := 2, cells := 0, slots := 0, locals := 53 } D (tysM ca) ZM (wM q ca) (AM q) [.ref (q 0), .int a1, .int a2] σ Q := by
  refine j_start (own := RX8) (lv := [(0, .ref (q 0)), (1, .int a1), (2, .int a2)]) [.ref (q 0), .int a1, .int a2] (by decide +kernel) rfl (wM_D hE σ) (Nat.le_of_ble_eq_true rfl) rfl (fun p e s m args below meth c hC => ?_)
  unfold f_X8_near at hf
  refine j_iload_n hC 1 dX8_near_0 (pc' := 1) rfl rfl ?_
  refine j_iload_n hC 2 dX8_near_1 (pc' := 2) rfl rfl ?_
  refine jcS_i hC (eM hE) (As := [.int a1, .int a2]) (lk_X8_isPlace hE a1 a2 σ _ hf) wm_818 wm_819 wm_8 wm_820 dy_X8_isPlace ⟨rfl, rfl⟩ ⟨Nat.le_of_ble_eq_true rfl, Nat.le_of_ble_eq_true rfl⟩ ⟨Nat.le_refl _, Nat.le_refl _⟩ rfl rfl (Nat.le_of_ble_eq_true rfl) dX8_near_2 (pc' := 5) rfl (fun r1 σ2 hf => ?_)
  refine j_if_ne hC (tgt := 14) dX8_near_5 (pc' := 8) rfl (by decide) (fun c_ => ?_) (fun c_ => ?_)
  · replace hf := hf.1 c_
    refine j_aload_n hC 0 dX8_near_14 (pc' := 15) rfl rfl ?_
    refine j_iload_n hC 1 dX8_near_15 (pc' := 16) rfl rfl ?_
    refine j_iload_n hC 2 dX8_near_16 (pc' := 17) rfl rfl ?_
    refine jcV_v hC (eM hE) (As := [.int a1, .int a2]) (obM_X8) (rfl) (lk_X8_findNearest hE a1 a2 σ2 _ hf) wm_823 wm_824 wm_921 wm_8 wm_825 dy_X8_findNearest ⟨rfl, rfl⟩ ⟨Nat.le_of_ble_eq_true rfl, Nat.le_of_ble_eq_true rfl⟩ ⟨Nat.le_refl _, Nat.le_refl _⟩ rfl rfl (Nat.le_of_ble_eq_true rfl) dX8_near_17 (pc' := 20) rfl (fun σ4 hf => ?_)
    refine j_aload_n hC 0 dX8_near_20 (pc' := 21) rfl rfl ?_
    refine gM_nearSquare hC wm_581 dX8_near_21 (pc' := 24) rfl ?_
    exact j_lret hC dX8_near_24 hf
  · replace hf := hf.2 c_
    refine j_bipush hC (v := -2) dX8_near_8 (pc' := 10) rfl (by decide) ?_
    refine jcS_l hC (eM hE) (As := [.int (-2 : Int32)]) (lk_X8_no hE (-2 : Int32) σ2 _ hf) wm_706 wm_707 wm_8 wm_708 dy_X8_no ⟨rfl, rfl⟩ ⟨Nat.le_of_ble_eq_true rfl, Nat.le_of_ble_eq_true rfl⟩ ⟨Nat.le_refl _, Nat.le_refl _⟩ rfl rfl (Nat.le_of_ble_eq_true rfl) dX8_near_10 (pc' := 13) rfl (fun r5 σ6 hf => ?_)
    exact j_lret hC dX8_near_13 hf
def f_X8_falseShare_b82 (Q : Int32 → St → Prop) : Nat → Int64 → Int64 → Int64 → Int32 → St → Prop
  | 0, _, _, _, _, _ => False
  | n + 1, a2, a8, a10, a12, σ => ((6 : Int32) ≤ a12 → Q (Int64.toInt32 a8) σ) ∧ ((¬ (6 : Int32) ≤ a12) → ∀ x6 : Int64, x6 = (10 : Int64) * a10 → (¬ a2 = 0) ∧ ∀ x8 : Int64, x8 = ((10 : Int64) * a8) + (x6 / a2) → (¬ a2 = 0) ∧ ∀ x10 : Int64, x10 = x6 - x6 / a2 * a2 → ∀ x11 : Int32, x11 = a12 + (1 : Int32) → f_X8_falseShare_b82 Q  n a2 x8 x10 x11 σ)
def f_X8_falseShare_b13 (Q : Int32 → St → Prop) : Nat → Int32 → Int32 → Int64 → Int64 → Int64 → Int32 → St → Prop
  | 0, _, _, _, _, _, _, _ => False
  | n + 1, a0, a1, a2, a4, a6, a8, σ => (a1 < a8 → (a4 ≤ a2 → (¬ a2 = 0) ∧ ∀ x3 : Int64, x3 = a4 / a2 → (¬ a2 = 0) ∧ ∀ x5 : Int64, x5 = a4 - a4 / a2 * a2 → ∃ n12 : Nat, f_X8_falseShare_b82 Q n12 a2 x3 x5 (0 : Int32) σ) ∧ ((¬ a4 ≤ a2) → (¬ a2 = 0) ∧ ∀ x14 : Int64, x14 = a2 / a2 → (¬ a2 = 0) ∧ ∀ x16 : Int64, x16 = a2 - a2 / a2 * a2 → ∃ n17 : Nat, f_X8_falseShare_b82 Q n17 a2 x14 x16 (0 : Int32) σ)) ∧ ((¬ a1 < a8) → ∀ x18 : Int64, x18 = a4 + ((2 : Int64) * a6) → (¬ (Int32.toInt64 (a8 + (1 : Int32))) = 0) ∧ ∀ x20 : Int64, x20 = (a6 * (Int32.toInt64 (a0 - a8))) / (Int32.toInt64 (a8 + (1 : Int32))) → ∀ x21 : Int32, x21 = a8 + (1 : Int32) → f_X8_falseShare_b13 Q  n a0 a1 a2 x18 x20 x21 σ)
def f_X8_falseShare (a0 : Int32) (a1 : Int32) (σ : St) (Q : Int32 → St → Prop) : Prop := ∀ x1 : Int64, x1 = (1 : Int64) <<< (Int32.toInt64 a0 &&& 63) → ∃ n22 : Nat, f_X8_falseShare_b13 Q n22 a0 a1 x1 (0 : Int64) (1 : Int64) (0 : Int32) σ
theorem dy_X8_falseShare : yX8_falseShare.cls ≠ "java/lang/invoke/MethodHandle" ∧ yX8_falseShare.cls ≠ "java/lang/invoke/VarHandle" ∧ (parseMethodDescriptor yX8_falseShare.desc).map (fun d => d.parameters.length) = some 2 := by decide +kernel
set_option maxHeartbeats 4000000 in
set_option maxRecDepth 100000 in
theorem lb_X8_falseShare_b82 {l : Launch} {D : va_G} {q : Nat → Nat} {ca : Nat → ClassId} {p : Program} {e : Env} {s : State} {m : MethodId} {args : Array Value} {below : List Frame} {meth : Method} {c : Code} (hE : qok 19 q) (hC : Cx p s m args meth c cX8_falseShare 13 RX8 (some .int) D (tysM ca) ZM) (Q : Int32 → St → Prop) : ∀ (n : Nat) (a2 : Int64) (a8 : Int64) (a10 : Int64) (a12 : Int32) (σ : St), f_X8_falseShare_b82 Q n a2 a8 a10 a12 σ → J p l e { frames := 0, cells := 0, slots := 0, locals := 0 } s m args below meth c (MQ below (va_Qi Q (BW D (wM q ca)) (AM q)) args s 0 0 (AM q)) D (AM q) 13 0 0 (wM q ca σ) 82 [(2, .long a2), (8, .long a8), (10, .long a10), (12, .int a12)] [] := by
  intro n
  induction n with
  | zero => intro a2 a8 a10 a12 σ hf; exact hf.elim
  | succ n ih =>
    intro a2 a8 a10 a12 σ hf
    unfold f_X8_falseShare_b82 at hf
    refine j_iload hC 3 dX8_falseShare_82 (pc' := 84) rfl rfl ?_
    refine j_bipush hC (v := 6) dX8_falseShare_84 (pc' := 86) rfl (by decide) ?_
    refine j_icmp_ge hC (tgt := 122) dX8_falseShare_86 (pc' := 89) rfl (by decide) (fun c_ => ?_) (fun c_ => ?_)
    · replace hf := hf.1 c_
      refine j_lload hC 1 dX8_falseShare_122 (pc' := 124) rfl rfl ?_
      refine j_l2i hC dX8_falseShare_124 (pc' := 125) rfl ?_
      exact j_iret hC dX8_falseShare_125 hf
    · replace hf := hf.2 c_
      refine j_ldc2 hC (v := 10) dX8_falseShare_89 (pc' := 92) rfl wm_848 ?_
      refine j_lload hC 2 dX8_falseShare_92 (pc' := 94) rfl rfl ?_
      refine j_lmul hC dX8_falseShare_94 (pc' := 95) rfl ?_
      refine j_nml (fun x6 ex6 => ?_)
      replace hf := hf x6 ex6
      refine j_lstore hC (lv' := [(10, .long x6), (2, .long a2), (8, .long a8), (12, .int a12)]) dX8_falseShare_95 (pc' := 97) rfl (by decide) rfl ?_
      refine j_ldc2 hC (v := 10) dX8_falseShare_97 (pc' := 100) rfl wm_848 ?_
      refine j_lload hC 2 dX8_falseShare_100 (pc' := 102) rfl rfl ?_
      refine j_lmul hC dX8_falseShare_102 (pc' := 103) rfl ?_
      refine j_lload hC 0 dX8_falseShare_103 (pc' := 105) rfl rfl ?_
      refine j_lload_n hC 1 dX8_falseShare_105 (pc' := 106) rfl rfl ?_
      obtain ⟨h7, hf⟩ := hf
      refine j_ldiv hC dX8_falseShare_106 (pc' := 107) rfl h7 ?_
      refine j_ladd hC dX8_falseShare_107 (pc' := 108) rfl ?_
      refine j_nml (fun x8 ex8 => ?_)
      replace hf := hf x8 ex8
      refine j_lstore hC (lv' := [(8, .long x8), (10, .long x6), (2, .long a2), (12, .int a12)]) dX8_falseShare_108 (pc' := 110) rfl (by decide) rfl ?_
      refine j_lload hC 1 dX8_falseShare_110 (pc' := 112) rfl rfl ?_
      refine j_lload_n hC 2 dX8_falseShare_112 (pc' := 113) rfl rfl ?_
      obtain ⟨h9, hf⟩ := hf
      refine j_lrem hC dX8_falseShare_113 (pc' := 114) rfl h9 ?_
      refine j_nml (fun x10 ex10 => ?_)
      replace hf := hf x10 ex10
      refine j_lstore hC (lv' := [(10, .long x10), (8, .long x8), (2, .long a2), (12, .int a12)]) dX8_falseShare_114 (pc' := 116) rfl (by decide) rfl ?_
      obtain ⟨x11, ex11⟩ : ∃ y : Int32, y = a12 + (1 : Int32) := ⟨_, rfl⟩
      replace hf := hf x11 ex11
      refine j_iinc hC (v := x11) (q := 3) (lv' := [(12, .int x11), (10, .long x10), (8, .long x8), (2, .long a2)]) dX8_falseShare_116 (pc' := 119) rfl rfl (by rw [ex11]; rfl) (by decide) rfl ?_
      refine j_goto hC (tgt := 82) dX8_falseShare_119 (by decide) ?_
      refine j_lv [3, 2, 1, 0] rfl ?_
      exact ih a2 x8 x10 x11 σ hf
set_option maxHeartbeats 4000000 in
set_option maxRecDepth 100000 in
theorem lb_X8_falseShare_b13 {l : Launch} {D : va_G} {q : Nat → Nat} {ca : Nat → ClassId} {p : Program} {e : Env} {s : State} {m : MethodId} {args : Array Value} {below : List Frame} {meth : Method} {c : Code} (hE : qok 19 q) (hC : Cx p s m args meth c cX8_falseShare 13 RX8 (some .int) D (tysM ca) ZM) (Q : Int32 → St → Prop) : ∀ (n : Nat) (a0 : Int32) (a1 : Int32) (a2 : Int64) (a4 : Int64) (a6 : Int64) (a8 : Int32) (σ : St), f_X8_falseShare_b13 Q n a0 a1 a2 a4 a6 a8 σ → J p l e { frames := 0, cells := 0, slots := 0, locals := 0 } s m args below meth c (MQ below (va_Qi Q (BW D (wM q ca)) (AM q)) args s 0 0 (AM q)) D (AM q) 13 0 0 (wM q ca σ) 13 [(0, .int a0), (1, .int a1), (2, .long a2), (4, .long a4), (6, .long a6), (8, .int a8)] [] := by
  intro n
  induction n with
  | zero => intro a0 a1 a2 a4 a6 a8 σ hf; exact hf.elim
  | succ n ih =>
    intro a0 a1 a2 a4 a6 a8 σ hf
    unfold f_X8_falseShare_b13 at hf
    refine j_iload hC 5 dX8_falseShare_13 (pc' := 15) rfl rfl ?_
    refine j_iload_n hC 1 dX8_falseShare_15 (pc' := 16) rfl rfl ?_
    refine j_icmp_gt hC (tgt := 52) dX8_falseShare_16 (pc' := 19) rfl (by decide) (fun c_ => ?_) (fun c_ => ?_)
    · replace hf := hf.1 c_
      refine j_lload hC 3 dX8_falseShare_52 (pc' := 54) rfl rfl ?_
      refine j_lload_n hC 2 dX8_falseShare_54 (pc' := 55) rfl rfl ?_
      refine j_lcmp hC dX8_falseShare_55 (pc' := 56) rfl ?_
      refine j_if_le hC (tgt := 63) dX8_falseShare_56 (pc' := 59) rfl (by decide) (fun c_ => ?_) (fun c_ => ?_)
      · replace hf := hf.1 ((lgc_le _ _).mp c_)
        refine j_lload hC 3 dX8_falseShare_63 (pc' := 65) rfl rfl ?_
        refine j_lstore hC (lv' := [(4, .long a4), (0, .int a0), (1, .int a1), (2, .long a2), (6, .long a6), (8, .int a8)]) dX8_falseShare_65 (pc' := 67) rfl (by decide) rfl ?_
        refine j_lload hC 0 dX8_falseShare_67 (pc' := 69) rfl rfl ?_
        refine j_lload_n hC 3 dX8_falseShare_69 (pc' := 70) rfl rfl ?_
        obtain ⟨h2, hf⟩ := hf
        refine j_ldiv hC dX8_falseShare_70 (pc' := 71) rfl h2 ?_
        refine j_nml (fun x3 ex3 => ?_)
        replace hf := hf x3 ex3
        refine j_lstore hC (lv' := [(8, .long x3), (4, .long a4), (0, .int a0), (1, .int a1), (2, .long a2), (6, .long a6)]) dX8_falseShare_71 (pc' := 73) rfl (by decide) rfl ?_
        refine j_lload hC 1 dX8_falseShare_73 (pc' := 75) rfl rfl ?_
        refine j_lload_n hC 4 dX8_falseShare_75 (pc' := 76) rfl rfl ?_
        obtain ⟨h4, hf⟩ := hf
        refine j_lrem hC dX8_falseShare_76 (pc' := 77) rfl h4 ?_
        refine j_nml (fun x5 ex5 => ?_)
        replace hf := hf x5 ex5
        refine j_lstore hC (lv' := [(10, .long x5), (8, .long x3), (4, .long a4), (0, .int a0), (1, .int a1), (2, .long a2), (6, .long a6)]) dX8_falseShare_77 (pc' := 79) rfl (by decide) rfl ?_
        refine j_iconst hC (v := 0) dX8_falseShare_79 (pc' := 80) rfl (by decide) ?_
        refine j_istore hC (lv' := [(12, .int (0 : Int32)), (10, .long x5), (8, .long x3), (4, .long a4), (0, .int a0), (1, .int a1), (2, .long a2), (6, .long a6)]) dX8_falseShare_80 (pc' := 82) rfl (by decide) rfl ?_
        obtain ⟨n12, hf⟩ := hf
        refine j_lv [6, 2, 1, 0] rfl ?_
        exact lb_X8_falseShare_b82 hE hC Q n12 a2 x3 x5 (0 : Int32) σ hf
      · replace hf := hf.2 (fun z => c_ ((lgc_le _ _).mpr z))
        refine j_lload_n hC 2 dX8_falseShare_59 (pc' := 60) rfl rfl ?_
        refine j_goto hC (tgt := 65) dX8_falseShare_60 (by decide) ?_
        refine j_lstore hC (lv' := [(4, .long a2), (0, .int a0), (1, .int a1), (2, .long a2), (6, .long a6), (8, .int a8)]) dX8_falseShare_65 (pc' := 67) rfl (by decide) rfl ?_
        refine j_lload hC 0 dX8_falseShare_67 (pc' := 69) rfl rfl ?_
        refine j_lload_n hC 3 dX8_falseShare_69 (pc' := 70) rfl rfl ?_
        obtain ⟨h13, hf⟩ := hf
        refine j_ldiv hC dX8_falseShare_70 (pc' := 71) rfl h13 ?_
        refine j_nml (fun x14 ex14 => ?_)
        replace hf := hf x14 ex14
        refine j_lstore hC (lv' := [(8, .long x14), (4, .long a2), (0, .int a0), (1, .int a1), (2, .long a2), (6, .long a6)]) dX8_falseShare_71 (pc' := 73) rfl (by decide) rfl ?_
        refine j_lload hC 1 dX8_falseShare_73 (pc' := 75) rfl rfl ?_
        refine j_lload_n hC 4 dX8_falseShare_75 (pc' := 76) rfl rfl ?_
        obtain ⟨h15, hf⟩ := hf
        refine j_lrem hC dX8_falseShare_76 (pc' := 77) rfl h15 ?_
        refine j_nml (fun x16 ex16 => ?_)
        replace hf := hf x16 ex16
        refine j_lstore hC (lv' := [(10, .long x16), (8, .long x14), (4, .long a2), (0, .int a0), (1, .int a1), (2, .long a2), (6, .long a6)]) dX8_falseShare_77 (pc' := 79) rfl (by decide) rfl ?_
        refine j_iconst hC (v := 0) dX8_falseShare_79 (pc' := 80) rfl (by decide) ?_
        refine j_istore hC (lv' := [(12, .int (0 : Int32)), (10, .long x16), (8, .long x14), (4, .long a2), (0, .int a0), (1, .int a1), (2, .long a2), (6, .long a6)]) dX8_falseShare_80 (pc' := 82) rfl (by decide) rfl ?_
        obtain ⟨n17, hf⟩ := hf
        refine j_lv [6, 2, 1, 0] rfl ?_
        exact lb_X8_falseShare_b82 hE hC Q n17 a2 x14 x16 (0 : Int32) σ hf
    · replace hf := hf.2 c_
      refine j_lload hC 3 dX8_falseShare_19 (pc' := 21) rfl rfl ?_
      refine j_ldc2 hC (v := 2) dX8_falseShare_21 (pc' := 24) rfl wm_655 ?_
      refine j_lload hC 4 dX8_falseShare_24 (pc' := 26) rfl rfl ?_
      refine j_lmul hC dX8_falseShare_26 (pc' := 27) rfl ?_
      refine j_ladd hC dX8_falseShare_27 (pc' := 28) rfl ?_
      refine j_nml (fun x18 ex18 => ?_)
      replace hf := hf x18 ex18
      refine j_lstore hC (lv' := [(4, .long x18), (0, .int a0), (1, .int a1), (2, .long a2), (6, .long a6), (8, .int a8)]) dX8_falseShare_28 (pc' := 30) rfl (by decide) rfl ?_
      refine j_lload hC 4 dX8_falseShare_30 (pc' := 32) rfl rfl ?_
      refine j_iload_n hC 1 dX8_falseShare_32 (pc' := 33) rfl rfl ?_
      refine j_iload hC 5 dX8_falseShare_33 (pc' := 35) rfl rfl ?_
      refine j_isub hC dX8_falseShare_35 (pc' := 36) rfl ?_
      refine j_i2l hC dX8_falseShare_36 (pc' := 37) rfl ?_
      refine j_lmul hC dX8_falseShare_37 (pc' := 38) rfl ?_
      refine j_iload hC 5 dX8_falseShare_38 (pc' := 40) rfl rfl ?_
      refine j_iconst hC (v := 1) dX8_falseShare_40 (pc' := 41) rfl (by decide) ?_
      refine j_iadd hC dX8_falseShare_41 (pc' := 42) rfl ?_
      refine j_i2l hC dX8_falseShare_42 (pc' := 43) rfl ?_
      obtain ⟨h19, hf⟩ := hf
      refine j_ldiv hC dX8_falseShare_43 (pc' := 44) rfl h19 ?_
      refine j_nml (fun x20 ex20 => ?_)
      replace hf := hf x20 ex20
      refine j_lstore hC (lv' := [(6, .long x20), (4, .long x18), (0, .int a0), (1, .int a1), (2, .long a2), (8, .int a8)]) dX8_falseShare_44 (pc' := 46) rfl (by decide) rfl ?_
      obtain ⟨x21, ex21⟩ : ∃ y : Int32, y = a8 + (1 : Int32) := ⟨_, rfl⟩
      replace hf := hf x21 ex21
      refine j_iinc hC (v := x21) (q := 5) (lv' := [(8, .int x21), (6, .long x20), (4, .long x18), (0, .int a0), (1, .int a1), (2, .long a2)]) dX8_falseShare_46 (pc' := 49) rfl rfl (by rw [ex21]; rfl) (by decide) rfl ?_
      refine j_goto hC (tgt := 13) dX8_falseShare_49 (by decide) ?_
      refine j_lv [3, 4, 5, 2, 1, 0] rfl ?_
      exact ih a0 a1 a2 x18 x20 x21 σ hf
set_option maxHeartbeats 4000000 in
set_option maxRecDepth 100000 in
theorem lk_X8_falseShare {l : Launch} {D : va_G} {q : Nat → Nat} {ca : Nat → ClassId} (hE : qok 19 q) (a0 : Int32) (a1 : Int32) (σ : St) (Q : Int32 → St → Prop) (hf : f_X8_falseShare a0 a1 σ Q) : Mi l yX8_falseShare cX8_falseShare 13 (some .int) { frames := 0, cells := 0, slots := 0, locals := 0 } D (tysM ca) ZM (wM q ca) (AM q) [.int a0, .int a1] σ Q := by
  refine j_start (own := RX8) (lv := [(0, .int a0), (1, .int a1)]) [.int a0, .int a1] (by decide +kernel) rfl (wM_D hE σ) (Nat.le_of_ble_eq_true rfl) rfl (fun p e s m args below meth c hC => ?_)
  unfold f_X8_falseShare at hf
  refine j_lconst hC (v := 1) dX8_falseShare_0 (pc' := 1) rfl (by decide) ?_
  refine j_iload_n hC 0 dX8_falseShare_1 (pc' := 2) rfl rfl ?_
  refine j_lshl hC dX8_falseShare_2 (pc' := 3) rfl ?_
  refine j_nml (fun x1 ex1 => ?_)
  replace hf := hf x1 ex1
  refine j_lstore_n hC (lv' := [(2, .long x1), (0, .int a0), (1, .int a1)]) dX8_falseShare_3 (pc' := 4) rfl rfl (by decide) rfl ?_
  refine j_lconst hC (v := 0) dX8_falseShare_4 (pc' := 5) rfl (by decide) ?_
  refine j_lstore hC (lv' := [(4, .long (0 : Int64)), (2, .long x1), (0, .int a0), (1, .int a1)]) dX8_falseShare_5 (pc' := 7) rfl (by decide) rfl ?_
  refine j_lconst hC (v := 1) dX8_falseShare_7 (pc' := 8) rfl (by decide) ?_
  refine j_lstore hC (lv' := [(6, .long (1 : Int64)), (4, .long (0 : Int64)), (2, .long x1), (0, .int a0), (1, .int a1)]) dX8_falseShare_8 (pc' := 10) rfl (by decide) rfl ?_
  refine j_iconst hC (v := 0) dX8_falseShare_10 (pc' := 11) rfl (by decide) ?_
  refine j_istore hC (lv' := [(8, .int (0 : Int32)), (6, .long (1 : Int64)), (4, .long (0 : Int64)), (2, .long x1), (0, .int a0), (1, .int a1)]) dX8_falseShare_11 (pc' := 13) rfl (by decide) rfl ?_
  obtain ⟨n22, hf⟩ := hf
  refine j_lv [4, 5, 3, 2, 1, 0] rfl ?_
  exact lb_X8_falseShare_b13 hE hC Q n22 a0 a1 x1 (0 : Int64) (1 : Int64) (0 : Int32) σ hf
def f_X8_isSheet (a0 : Int32) (σ : St) (Q : Int32 → St → Prop) : Prop := f_X8_in (Int32.toInt64 a0) (0 : Int64) (3 : Int64) σ (fun r1 σ2 => zok r1 ∧ Q r1 σ2)
theorem dy_X8_isSheet : yX8_isSheet.cls ≠ "java/lang/invoke/MethodHandle" ∧ yX8_isSheet.cls ≠ "java/lang/invoke/VarHandle" ∧ (parseMethodDescriptor yX8_isSheet.desc).map (fun d => d.parameters.length) = some 1 := by decide +kernel
set_option maxHeartbeats 4000000 in
set_option maxRecDepth 100000 in
theorem lk_X8_isSheet {l : Launch} {D : va_G} {q : Nat → Nat} {ca : Nat → ClassId} (hE : qok 19 q) (a0 : Int32) (σ : St) (Q : Int32 → St → Prop) (hf : f_X8_isSheet a0 σ Q) : Mi l yX8_isSheet cX8_isSheet 1 (some .boolean) { frames := 1, cells := 0, slots := 0, locals := 25 } D (tysM ca) ZM (wM q ca) (AM q) [.int a0] σ Q := by
  refine j_start (own := RX8) (lv := [(0, .int a0)]) [.int a0] (by decide +kernel) rfl (wM_D hE σ) (Nat.le_of_ble_eq_true rfl) rfl (fun p e s m args below meth c hC => ?_)
  unfold f_X8_isSheet at hf
  refine j_iload_n hC 0 dX8_isSheet_0 (pc' := 1) rfl rfl ?_
  refine j_i2l hC dX8_isSheet_1 (pc' := 2) rfl ?_
  refine j_lconst hC (v := 0) dX8_isSheet_2 (pc' := 3) rfl (by decide) ?_
  refine j_ldc2 hC (v := 3) dX8_isSheet_3 (pc' := 6) rfl wm_841 ?_
  refine jcS_i hC (eM hE) (As := [.long (Int32.toInt64 a0), .long (0 : Int64), .long (3 : Int64)]) (lk_X8_in hE (Int32.toInt64 a0) (0 : Int64) (3 : Int64) σ _ hf) wm_642 wm_643 wm_8 wm_644 dy_X8_in ⟨rfl, rfl⟩ ⟨Nat.le_of_ble_eq_true rfl, Nat.le_of_ble_eq_true rfl⟩ ⟨Nat.le_refl _, Nat.le_refl _⟩ rfl rfl (Nat.le_of_ble_eq_true rfl) dX8_isSheet_6 (pc' := 9) rfl (fun r1 σ2 hf => ?_)
  exact j_zret hC dX8_isSheet_9 hf.1 hf.2
def f_X8_met (a1 : Int32) (σ : St) (Q : Int32 → St → Prop) : Prop := ∀ σ1 : St, σ1 = sI σ 16 0 a1 → Q ((-10 : Int32) - a1) σ1
theorem dy_X8_met : yX8_met.cls = yX8_met.cls ∧ yX8_met.cls ≠ "java/lang/invoke/MethodHandle" ∧ yX8_met.cls ≠ "java/lang/invoke/VarHandle" ∧ (parseMethodDescriptor yX8_met.desc).map (fun d => d.parameters.length) = some 1 := by decide +kernel
set_option maxHeartbeats 4000000 in
set_option maxRecDepth 100000 in
theorem lk_X8_met {l : Launch} {D : va_G} {q : Nat → Nat} {ca : Nat → ClassId} (hE : qok 19 q) (a1 : Int32) (σ : St) (Q : Int32 → St → Prop) (hf : f_X8_met a1 σ Q) : Mi l yX8_met cX8_met 2 (some .int) { frames := 0, cells := 0, slots := 0, locals := 0 } D (tysM ca) ZM (wM q ca) (AM q) [.ref (q 0), .int a1] σ Q := by
  refine j_start (own := RX8) (lv := [(0, .ref (q 0)), (1, .int a1)]) [.ref (q 0), .int a1] (by decide +kernel) rfl (wM_D hE σ) (Nat.le_of_ble_eq_true rfl) rfl (fun p e s m args below meth c hC => ?_)
  unfold f_X8_met at hf
  refine j_aload_n hC 0 dX8_met_0 (pc' := 1) rfl rfl ?_
  refine j_iload_n hC 1 dX8_met_1 (pc' := 2) rfl rfl ?_
  refine pM_latest hC wm_587 dX8_met_2 (pc' := 5) rfl ?_
  refine j_nms (wf := wM q ca) (fun σ1 eσ1 => ?_)
  replace hf := hf σ1 eσ1
  refine j_bipush hC (v := -10) dX8_met_5 (pc' := 7) rfl (by decide) ?_
  refine j_iload_n hC 1 dX8_met_7 (pc' := 8) rfl rfl ?_
  refine j_isub hC dX8_met_8 (pc' := 9) rfl ?_
  exact j_iret hC dX8_met_9 hf
