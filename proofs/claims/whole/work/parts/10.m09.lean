def f_X8_adds_b17 (Q : St → Prop) (K2 : Int32 → Int32 → St → Prop) (K9 : Int32 → Int32 → Int32 → St → Prop) : Nat → Int32 → Int32 → Int32 → Int32 → St → Prop
  | 0, _, _, _, _, _ => False
  | n + 1, a1, a2, a3, a4, σ => ((3 : Int32) ≤ a4 → ∀ x2 : Int32, x2 = a3 + (1 : Int32) → K9 a1 a2 x2 σ) ∧ ((¬ (3 : Int32) ≤ a4) → vp_in (((3 : Int32) * a3) + a4) 9 ∧ f_X8_part a1 a3 a2 σ (fun r4 σ5 => f_X8_part a1 a4 a2 σ5 (fun r6 σ7 => vp_in (((3 : Int32) * a3) + a4) 9 ∧ ∀ σ9 : St, σ9 = sL σ7 0 (Int32.toNatClampNeg (((3 : Int32) * a3) + a4)) ((σ.2 0 (Int32.toNatClampNeg (((3 : Int32) * a3) + a4))) + ((Int32.toInt64 r4) * (Int32.toInt64 r6))) → ∀ x10 : Int32, x10 = a4 + (1 : Int32) → f_X8_adds_b17 Q K2 K9  n a1 a2 a3 x10 σ9)))
def f_X8_adds_b9 (Q : St → Prop) (K2 : Int32 → Int32 → St → Prop) : Nat → Int32 → Int32 → Int32 → St → Prop
  | 0, _, _, _, _ => False
  | n + 1, a1, a2, a3, σ => ((3 : Int32) ≤ a3 → ∀ x1 : Int32, x1 = a2 + (1 : Int32) → K2 a1 x1 σ) ∧ ((¬ (3 : Int32) ≤ a3) → ∃ n11 : Nat, f_X8_adds_b17 Q K2 (fun a1 a2 a3 σ => f_X8_adds_b9 Q K2 n a1 a2 a3 σ) n11 a1 a2 a3 (0 : Int32) σ)
def f_X8_adds_b2 (Q : St → Prop) : Nat → Int32 → Int32 → St → Prop
  | 0, _, _, _ => False
  | n + 1, a1, a2, σ => ((2 : Int32) ≤ a2 → Q σ) ∧ ((¬ (2 : Int32) ≤ a2) → ∃ n12 : Nat, f_X8_adds_b9 Q (fun a1 a2 σ => f_X8_adds_b2 Q n a1 a2 σ) n12 a1 a2 (0 : Int32) σ)
def f_X8_adds (a1 : Int32) (σ : St) (Q : St → Prop) : Prop := ∃ n13 : Nat, f_X8_adds_b2 Q n13 a1 (0 : Int32) σ
theorem dy_X8_adds : yX8_adds.cls = yX8_adds.cls ∧ yX8_adds.cls ≠ "java/lang/invoke/MethodHandle" ∧ yX8_adds.cls ≠ "java/lang/invoke/VarHandle" ∧ (parseMethodDescriptor yX8_adds.desc).map (fun d => d.parameters.length) = some 1 := by decide +kernel
set_option maxHeartbeats 4000000 in
set_option maxRecDepth 100000 in
theorem lb_X8_adds_b17 {l : Launch} {D : va_G} {q : Nat → Nat} {ca : Nat → ClassId} {p : Program} {e : Env} {s : State} {m : MethodId} {args : Array Value} {below : List Frame} {meth : Method} {c : Code} (hE : qok 19 q) (hC : Cx p s m args meth c cX8_adds 5 RX8 none D (tysM ca) ZM) (Q : St → Prop) (K2 : Int32 → Int32 → St → Prop) (hK2 : ∀ (a1 : Int32) (a2 : Int32) (σ : St), K2 a1 a2 σ → J p l e { frames := 2, cells := 0, slots := 0, locals := 45 } s m args below meth c (MQ below (va_Qv Q (BW D (wM q ca)) (AM q)) args s 0 0 (AM q)) D (AM q) 5 0 0 (wM q ca σ) 2 [(0, .ref (q 0)), (1, .int a1), (2, .int a2)] []) (K9 : Int32 → Int32 → Int32 → St → Prop) (hK9 : ∀ (a1 : Int32) (a2 : Int32) (a3 : Int32) (σ : St), K9 a1 a2 a3 σ → J p l e { frames := 2, cells := 0, slots := 0, locals := 45 } s m args below meth c (MQ below (va_Qv Q (BW D (wM q ca)) (AM q)) args s 0 0 (AM q)) D (AM q) 5 0 0 (wM q ca σ) 9 [(0, .ref (q 0)), (1, .int a1), (2, .int a2), (3, .int a3)] []) : ∀ (n : Nat) (a1 : Int32) (a2 : Int32) (a3 : Int32) (a4 : Int32) (σ : St), f_X8_adds_b17 Q K2 K9 n a1 a2 a3 a4 σ → J p l e { frames := 2, cells := 0, slots := 0, locals := 45 } s m args below meth c (MQ below (va_Qv Q (BW D (wM q ca)) (AM q)) args s 0 0 (AM q)) D (AM q) 5 0 0 (wM q ca σ) 17 [(0, .ref (q 0)), (1, .int a1), (2, .int a2), (3, .int a3), (4, .int a4)] [] := by
  intro n
  induction n with
  | zero => intro a1 a2 a3 a4 σ hf; exact hf.elim
  | succ n ih =>
    intro a1 a2 a3 a4 σ hf
    unfold f_X8_adds_b17 at hf
    refine j_iload hC 4 dX8_adds_17 (pc' := 19) rfl rfl ?_
    refine j_iconst hC (v := 3) dX8_adds_19 (pc' := 20) rfl (by decide) ?_
    refine j_icmp_ge hC (tgt := 61) dX8_adds_20 (pc' := 23) rfl (by decide) (fun c_ => ?_) (fun c_ => ?_)
    · replace hf := hf.1 c_
      obtain ⟨x2, ex2⟩ : ∃ y : Int32, y = a3 + (1 : Int32) := ⟨_, rfl⟩
      replace hf := hf x2 ex2
      refine j_iinc hC (v := x2) (q := 3) (lv' := [(3, .int x2), (0, .ref (q 0)), (1, .int a1), (2, .int a2), (4, .int a4)]) dX8_adds_61 (pc' := 64) rfl rfl (by rw [ex2]; rfl) (by decide) rfl ?_
      refine j_goto hC (tgt := 9) dX8_adds_64 (by decide) ?_
      refine j_lv [1, 2, 3, 0] rfl ?_
      exact hK9 a1 a2 x2 σ hf
    · replace hf := hf.2 c_
      refine j_aload_n hC 0 dX8_adds_23 (pc' := 24) rfl rfl ?_
      refine gM_g hC wm_571 dX8_adds_24 (pc' := 27) rfl ?_
      refine j_iconst hC (v := 3) dX8_adds_27 (pc' := 28) rfl (by decide) ?_
      refine j_iload_n hC 3 dX8_adds_28 (pc' := 29) rfl rfl ?_
      refine j_imul hC dX8_adds_29 (pc' := 30) rfl ?_
      refine j_iload hC 4 dX8_adds_30 (pc' := 32) rfl rfl ?_
      refine j_iadd hC dX8_adds_32 (pc' := 33) rfl ?_
      refine j_dup2 hC dX8_adds_33 (pc' := 34) rfl rfl rfl ?_
      obtain ⟨h3, hf⟩ := hf
      refine lM_g hC (j := (Int32.toNatClampNeg (((3 : Int32) * a3) + a4))) h3 rfl dX8_adds_34 (pc' := 35) rfl ?_
      refine j_aload_n hC 0 dX8_adds_35 (pc' := 36) rfl rfl ?_
      refine j_iload_n hC 1 dX8_adds_36 (pc' := 37) rfl rfl ?_
      refine j_iload_n hC 3 dX8_adds_37 (pc' := 38) rfl rfl ?_
      refine j_iload_n hC 2 dX8_adds_38 (pc' := 39) rfl rfl ?_
      refine jcV_i hC (eM hE) (As := [.int a1, .int a3, .int a2]) (obM_X8) (rfl) (lk_X8_part hE a1 a3 a2 σ _ hf) wm_675 wm_676 wm_905 wm_8 wm_677 dy_X8_part ⟨rfl, rfl⟩ ⟨Nat.le_of_ble_eq_true rfl, Nat.le_of_ble_eq_true rfl⟩ ⟨Nat.le_refl _, Nat.le_refl _⟩ rfl rfl (Nat.le_of_ble_eq_true rfl) dX8_adds_39 (pc' := 42) rfl (fun r4 σ5 hf => ?_)
      refine j_i2l hC dX8_adds_42 (pc' := 43) rfl ?_
      refine j_aload_n hC 0 dX8_adds_43 (pc' := 44) rfl rfl ?_
      refine j_iload_n hC 1 dX8_adds_44 (pc' := 45) rfl rfl ?_
      refine j_iload hC 4 dX8_adds_45 (pc' := 47) rfl rfl ?_
      refine j_iload_n hC 2 dX8_adds_47 (pc' := 48) rfl rfl ?_
      refine jcV_i hC (eM hE) (As := [.int a1, .int a4, .int a2]) (obM_X8) (rfl) (lk_X8_part hE a1 a4 a2 σ5 _ hf) wm_675 wm_676 wm_905 wm_8 wm_677 dy_X8_part ⟨rfl, rfl⟩ ⟨Nat.le_of_ble_eq_true rfl, Nat.le_of_ble_eq_true rfl⟩ ⟨Nat.le_refl _, Nat.le_refl _⟩ rfl rfl (Nat.le_of_ble_eq_true rfl) dX8_adds_48 (pc' := 51) rfl (fun r6 σ7 hf => ?_)
      refine j_i2l hC dX8_adds_51 (pc' := 52) rfl ?_
      refine j_lmul hC dX8_adds_52 (pc' := 53) rfl ?_
      refine j_ladd hC dX8_adds_53 (pc' := 54) rfl ?_
      obtain ⟨h8, hf⟩ := hf
      refine sM_g hC (j := (Int32.toNatClampNeg (((3 : Int32) * a3) + a4))) h8 rfl dX8_adds_54 (pc' := 55) rfl ?_
      refine j_nms (wf := wM q ca) (fun σ9 eσ9 => ?_)
      replace hf := hf σ9 eσ9
      obtain ⟨x10, ex10⟩ : ∃ y : Int32, y = a4 + (1 : Int32) := ⟨_, rfl⟩
      replace hf := hf x10 ex10
      refine j_iinc hC (v := x10) (q := 4) (lv' := [(4, .int x10), (0, .ref (q 0)), (1, .int a1), (2, .int a2), (3, .int a3)]) dX8_adds_55 (pc' := 58) rfl rfl (by rw [ex10]; rfl) (by decide) rfl ?_
      refine j_goto hC (tgt := 17) dX8_adds_58 (by decide) ?_
      refine j_lv [1, 2, 3, 4, 0] rfl ?_
      exact ih a1 a2 a3 x10 σ9 hf
set_option maxHeartbeats 4000000 in
set_option maxRecDepth 100000 in
theorem lb_X8_adds_b9 {l : Launch} {D : va_G} {q : Nat → Nat} {ca : Nat → ClassId} {p : Program} {e : Env} {s : State} {m : MethodId} {args : Array Value} {below : List Frame} {meth : Method} {c : Code} (hE : qok 19 q) (hC : Cx p s m args meth c cX8_adds 5 RX8 none D (tysM ca) ZM) (Q : St → Prop) (K2 : Int32 → Int32 → St → Prop) (hK2 : ∀ (a1 : Int32) (a2 : Int32) (σ : St), K2 a1 a2 σ → J p l e { frames := 2, cells := 0, slots := 0, locals := 45 } s m args below meth c (MQ below (va_Qv Q (BW D (wM q ca)) (AM q)) args s 0 0 (AM q)) D (AM q) 5 0 0 (wM q ca σ) 2 [(0, .ref (q 0)), (1, .int a1), (2, .int a2)] []) : ∀ (n : Nat) (a1 : Int32) (a2 : Int32) (a3 : Int32) (σ : St), f_X8_adds_b9 Q K2 n a1 a2 a3 σ → J p l e { frames := 2, cells := 0, slots := 0, locals := 45 } s m args below meth c (MQ below (va_Qv Q (BW D (wM q ca)) (AM q)) args s 0 0 (AM q)) D (AM q) 5 0 0 (wM q ca σ) 9 [(0, .ref (q 0)), (1, .int a1), (2, .int a2), (3, .int a3)] [] := by
  intro n
  induction n with
  | zero => intro a1 a2 a3 σ hf; exact hf.elim
  | succ n ih =>
    intro a1 a2 a3 σ hf
    unfold f_X8_adds_b9 at hf
    refine j_iload_n hC 3 dX8_adds_9 (pc' := 10) rfl rfl ?_
    refine j_iconst hC (v := 3) dX8_adds_10 (pc' := 11) rfl (by decide) ?_
    refine j_icmp_ge hC (tgt := 67) dX8_adds_11 (pc' := 14) rfl (by decide) (fun c_ => ?_) (fun c_ => ?_)
    · replace hf := hf.1 c_
      obtain ⟨x1, ex1⟩ : ∃ y : Int32, y = a2 + (1 : Int32) := ⟨_, rfl⟩
      replace hf := hf x1 ex1
      refine j_iinc hC (v := x1) (q := 2) (lv' := [(2, .int x1), (0, .ref (q 0)), (1, .int a1), (3, .int a3)]) dX8_adds_67 (pc' := 70) rfl rfl (by rw [ex1]; rfl) (by decide) rfl ?_
      refine j_goto hC (tgt := 2) dX8_adds_70 (by decide) ?_
      refine j_lv [1, 2, 0] rfl ?_
      exact hK2 a1 x1 σ hf
    · replace hf := hf.2 c_
      refine j_iconst hC (v := 0) dX8_adds_14 (pc' := 15) rfl (by decide) ?_
      refine j_istore hC (lv' := [(4, .int (0 : Int32)), (0, .ref (q 0)), (1, .int a1), (2, .int a2), (3, .int a3)]) dX8_adds_15 (pc' := 17) rfl (by decide) rfl ?_
      obtain ⟨n11, hf⟩ := hf
      refine j_lv [1, 2, 3, 4, 0] rfl ?_
      exact lb_X8_adds_b17 hE hC Q _ hK2 _ ih n11 a1 a2 a3 (0 : Int32) σ hf
set_option maxHeartbeats 4000000 in
set_option maxRecDepth 100000 in
theorem lb_X8_adds_b2 {l : Launch} {D : va_G} {q : Nat → Nat} {ca : Nat → ClassId} {p : Program} {e : Env} {s : State} {m : MethodId} {args : Array Value} {below : List Frame} {meth : Method} {c : Code} (hE : qok 19 q) (hC : Cx p s m args meth c cX8_adds 5 RX8 none D (tysM ca) ZM) (Q : St → Prop) : ∀ (n : Nat) (a1 : Int32) (a2 : Int32) (σ : St), f_X8_adds_b2 Q n a1 a2 σ → J p l e { frames := 2, cells := 0, slots := 0, locals := 45 } s m args below meth c (MQ below (va_Qv Q (BW D (wM q ca)) (AM q)) args s 0 0 (AM q)) D (AM q) 5 0 0 (wM q ca σ) 2 [(0, .ref (q 0)), (1, .int a1), (2, .int a2)] [] := by
  intro n
  induction n with
  | zero => intro a1 a2 σ hf; exact hf.elim
  | succ n ih =>
    intro a1 a2 σ hf
    unfold f_X8_adds_b2 at hf
    refine j_iload_n hC 2 dX8_adds_2 (pc' := 3) rfl rfl ?_
    refine j_iconst hC (v := 2) dX8_adds_3 (pc' := 4) rfl (by decide) ?_
    refine j_icmp_ge hC (tgt := 73) dX8_adds_4 (pc' := 7) rfl (by decide) (fun c_ => ?_) (fun c_ => ?_)
    · replace hf := hf.1 c_
      exact j_vret hC dX8_adds_73 hf
    · replace hf := hf.2 c_
      refine j_iconst hC (v := 0) dX8_adds_7 (pc' := 8) rfl (by decide) ?_
      refine j_istore_n hC (lv' := [(3, .int (0 : Int32)), (0, .ref (q 0)), (1, .int a1), (2, .int a2)]) dX8_adds_8 (pc' := 9) rfl rfl (by decide) rfl ?_
      obtain ⟨n12, hf⟩ := hf
      refine j_lv [1, 2, 3, 0] rfl ?_
      exact lb_X8_adds_b9 hE hC Q _ ih n12 a1 a2 (0 : Int32) σ hf
set_option maxHeartbeats 4000000 in
set_option maxRecDepth 100000 in
theorem lk_X8_adds {l : Launch} {D : va_G} {q : Nat → Nat} {ca : Nat → ClassId} (hE : qok 19 q) (a1 : Int32) (σ : St) (Q : St → Prop) (hf : f_X8_adds a1 σ Q) : Mv l yX8_adds cX8_adds 5 none { frames := 2, cells := 0, slots := 0, locals := 45 } D (tysM ca) ZM (wM q ca) (AM q) [.ref (q 0), .int a1] σ Q := by
  refine j_start (own := RX8) (lv := [(0, .ref (q 0)), (1, .int a1)]) [.ref (q 0), .int a1] (by decide +kernel) rfl (wM_D hE σ) (Nat.le_of_ble_eq_true rfl) rfl (fun p e s m args below meth c hC => ?_)
  unfold f_X8_adds at hf
  refine j_iconst hC (v := 0) dX8_adds_0 (pc' := 1) rfl (by decide) ?_
  refine j_istore_n hC (lv' := [(2, .int (0 : Int32)), (0, .ref (q 0)), (1, .int a1)]) dX8_adds_1 (pc' := 2) rfl rfl (by decide) rfl ?_
  obtain ⟨n13, hf⟩ := hf
  refine j_lv [1, 2, 0] rfl ?_
  exact lb_X8_adds_b2 hE hC Q n13 a1 (0 : Int32) σ hf
def f_X8_findTable_b40 (Q : St → Prop) (K10 : Int32 → St → Prop) (K32 : Int32 → Int32 → Int32 → St → Prop) : Nat → Int32 → Int32 → Int32 → Int32 → St → Prop
  | 0, _, _, _, _, _ => False
  | n + 1, a1, a2, a3, a4, σ => ((3 : Int32) ≤ a4 → ∀ x10 : Int32, x10 = a3 + (1 : Int32) → K32 a1 a2 x10 σ) ∧ ((¬ (3 : Int32) ≤ a4) → vp_in a4 3 ∧ f_X8_part a2 a4 a3 σ (fun r12 σ13 => f_X8_item (((2 : Int32) * a2) + a3) σ13 (fun r14 σ15 => vp_in a4 3 ∧ ∀ σ17 : St, σ17 = sL σ15 1 (Int32.toNatClampNeg a4) ((σ.2 1 (Int32.toNatClampNeg a4)) + ((Int32.toInt64 r12) * (Int32.toInt64 r14))) → ∀ x18 : Int32, x18 = a4 + (1 : Int32) → f_X8_findTable_b40 Q K10 K32  n a1 a2 a3 x18 σ17)))
def f_X8_findTable_b32 (Q : St → Prop) (K10 : Int32 → St → Prop) : Nat → Int32 → Int32 → Int32 → St → Prop
  | 0, _, _, _, _ => False
  | n + 1, a1, a2, a3, σ => ((2 : Int32) ≤ a3 → ∀ x9 : Int32, x9 = a1 + (1 : Int32) → K10 x9 σ) ∧ ((¬ (2 : Int32) ≤ a3) → ∃ n19 : Nat, f_X8_findTable_b40 Q K10 (fun a1 a2 a3 σ => f_X8_findTable_b32 Q K10 n a1 a2 a3 σ) n19 a1 a2 a3 (0 : Int32) σ)
def f_X8_findTable_b10 (Q : St → Prop) : Nat → Int32 → St → Prop
  | 0, _, _ => False
  | n + 1, a1, σ => ((σ.1 17 0) ≤ a1 → Q σ) ∧ ((¬ (σ.1 17 0) ≤ a1) → vp_in a1 12 ∧ ∀ x6 : Int32, x6 = σ.1 5 (Int32.toNatClampNeg a1) → f_X8_adds x6 σ (fun σ8 => ∃ n20 : Nat, f_X8_findTable_b32 Q (fun a1 σ => f_X8_findTable_b10 Q n a1 σ) n20 a1 x6 (0 : Int32) σ8))
def f_X8_findTable (σ : St) (Q : St → Prop) : Prop := f_X8_findUsed σ (fun σ2 => f_X8_nothing σ2 (fun σ4 => ∃ n21 : Nat, f_X8_findTable_b10 Q n21 (0 : Int32) σ4))
theorem dy_X8_findTable : yX8_findTable.cls = yX8_findTable.cls ∧ yX8_findTable.cls ≠ "java/lang/invoke/MethodHandle" ∧ yX8_findTable.cls ≠ "java/lang/invoke/VarHandle" ∧ (parseMethodDescriptor yX8_findTable.desc).map (fun d => d.parameters.length) = some 0 := by decide +kernel
set_option maxHeartbeats 4000000 in
set_option maxRecDepth 100000 in
theorem lb_X8_findTable_b40 {l : Launch} {D : va_G} {q : Nat → Nat} {ca : Nat → ClassId} {p : Program} {e : Env} {s : State} {m : MethodId} {args : Array Value} {below : List Frame} {meth : Method} {c : Code} (hE : qok 19 q) (hC : Cx p s m args meth c cX8_findTable 5 RX8 none D (tysM ca) ZM) (Q : St → Prop) (K10 : Int32 → St → Prop) (hK10 : ∀ (a1 : Int32) (σ : St), K10 a1 σ → J p l e { frames := 3, cells := 0, slots := 0, locals := 69 } s m args below meth c (MQ below (va_Qv Q (BW D (wM q ca)) (AM q)) args s 0 0 (AM q)) D (AM q) 5 0 0 (wM q ca σ) 10 [(0, .ref (q 0)), (1, .int a1)] []) (K32 : Int32 → Int32 → Int32 → St → Prop) (hK32 : ∀ (a1 : Int32) (a2 : Int32) (a3 : Int32) (σ : St), K32 a1 a2 a3 σ → J p l e { frames := 3, cells := 0, slots := 0, locals := 69 } s m args below meth c (MQ below (va_Qv Q (BW D (wM q ca)) (AM q)) args s 0 0 (AM q)) D (AM q) 5 0 0 (wM q ca σ) 32 [(0, .ref (q 0)), (1, .int a1), (2, .int a2), (3, .int a3)] []) : ∀ (n : Nat) (a1 : Int32) (a2 : Int32) (a3 : Int32) (a4 : Int32) (σ : St), f_X8_findTable_b40 Q K10 K32 n a1 a2 a3 a4 σ → J p l e { frames := 3, cells := 0, slots := 0, locals := 69 } s m args below meth c (MQ below (va_Qv Q (BW D (wM q ca)) (AM q)) args s 0 0 (AM q)) D (AM q) 5 0 0 (wM q ca σ) 40 [(0, .ref (q 0)), (1, .int a1), (2, .int a2), (3, .int a3), (4, .int a4)] [] := by
  intro n
  induction n with
  | zero => intro a1 a2 a3 a4 σ hf; exact hf.elim
  | succ n ih =>
    intro a1 a2 a3 a4 σ hf
    unfold f_X8_findTable_b40 at hf
    refine j_iload hC 4 dX8_findTable_40 (pc' := 42) rfl rfl ?_
    refine j_iconst hC (v := 3) dX8_findTable_42 (pc' := 43) rfl (by decide) ?_
    refine j_icmp_ge hC (tgt := 82) dX8_findTable_43 (pc' := 46) rfl (by decide) (fun c_ => ?_) (fun c_ => ?_)
    · replace hf := hf.1 c_
      obtain ⟨x10, ex10⟩ : ∃ y : Int32, y = a3 + (1 : Int32) := ⟨_, rfl⟩
      replace hf := hf x10 ex10
      refine j_iinc hC (v := x10) (q := 3) (lv' := [(3, .int x10), (0, .ref (q 0)), (1, .int a1), (2, .int a2), (4, .int a4)]) dX8_findTable_82 (pc' := 85) rfl rfl (by rw [ex10]; rfl) (by decide) rfl ?_
      refine j_goto hC (tgt := 32) dX8_findTable_85 (by decide) ?_
      refine j_lv [1, 2, 3, 0] rfl ?_
      exact hK32 a1 a2 x10 σ hf
    · replace hf := hf.2 c_
      refine j_aload_n hC 0 dX8_findTable_46 (pc' := 47) rfl rfl ?_
      refine gM_right hC wm_572 dX8_findTable_47 (pc' := 50) rfl ?_
      refine j_iload hC 4 dX8_findTable_50 (pc' := 52) rfl rfl ?_
      refine j_dup2 hC dX8_findTable_52 (pc' := 53) rfl rfl rfl ?_
      obtain ⟨h11, hf⟩ := hf
      refine lM_right hC (j := (Int32.toNatClampNeg a4)) h11 rfl dX8_findTable_53 (pc' := 54) rfl ?_
      refine j_aload_n hC 0 dX8_findTable_54 (pc' := 55) rfl rfl ?_
      refine j_iload_n hC 2 dX8_findTable_55 (pc' := 56) rfl rfl ?_
      refine j_iload hC 4 dX8_findTable_56 (pc' := 58) rfl rfl ?_
      refine j_iload_n hC 3 dX8_findTable_58 (pc' := 59) rfl rfl ?_
      refine jcV_i hC (eM hE) (As := [.int a2, .int a4, .int a3]) (obM_X8) (rfl) (lk_X8_part hE a2 a4 a3 σ _ hf) wm_675 wm_676 wm_905 wm_8 wm_677 dy_X8_part ⟨rfl, rfl⟩ ⟨Nat.le_of_ble_eq_true rfl, Nat.le_of_ble_eq_true rfl⟩ ⟨Nat.le_refl _, Nat.le_refl _⟩ rfl rfl (Nat.le_of_ble_eq_true rfl) dX8_findTable_59 (pc' := 62) rfl (fun r12 σ13 hf => ?_)
      refine j_i2l hC dX8_findTable_62 (pc' := 63) rfl ?_
      refine j_aload_n hC 0 dX8_findTable_63 (pc' := 64) rfl rfl ?_
      refine j_iconst hC (v := 2) dX8_findTable_64 (pc' := 65) rfl (by decide) ?_
      refine j_iload_n hC 2 dX8_findTable_65 (pc' := 66) rfl rfl ?_
      refine j_imul hC dX8_findTable_66 (pc' := 67) rfl ?_
      refine j_iload_n hC 3 dX8_findTable_67 (pc' := 68) rfl rfl ?_
      refine j_iadd hC dX8_findTable_68 (pc' := 69) rfl ?_
      refine jcV_i hC (eM hE) (As := [.int (((2 : Int32) * a2) + a3)]) (obM_X8) (rfl) (lk_X8_item hE (((2 : Int32) * a2) + a3) σ13 _ hf) wm_686 wm_687 wm_907 wm_8 wm_688 dy_X8_item ⟨rfl, rfl⟩ ⟨Nat.le_of_ble_eq_true rfl, Nat.le_of_ble_eq_true rfl⟩ ⟨Nat.le_refl _, Nat.le_refl _⟩ rfl rfl (Nat.le_of_ble_eq_true rfl) dX8_findTable_69 (pc' := 72) rfl (fun r14 σ15 hf => ?_)
      refine j_i2l hC dX8_findTable_72 (pc' := 73) rfl ?_
      refine j_lmul hC dX8_findTable_73 (pc' := 74) rfl ?_
      refine j_ladd hC dX8_findTable_74 (pc' := 75) rfl ?_
      obtain ⟨h16, hf⟩ := hf
      refine sM_right hC (j := (Int32.toNatClampNeg a4)) h16 rfl dX8_findTable_75 (pc' := 76) rfl ?_
      refine j_nms (wf := wM q ca) (fun σ17 eσ17 => ?_)
      replace hf := hf σ17 eσ17
      obtain ⟨x18, ex18⟩ : ∃ y : Int32, y = a4 + (1 : Int32) := ⟨_, rfl⟩
      replace hf := hf x18 ex18
      refine j_iinc hC (v := x18) (q := 4) (lv' := [(4, .int x18), (0, .ref (q 0)), (1, .int a1), (2, .int a2), (3, .int a3)]) dX8_findTable_76 (pc' := 79) rfl rfl (by rw [ex18]; rfl) (by decide) rfl ?_
      refine j_goto hC (tgt := 40) dX8_findTable_79 (by decide) ?_
      refine j_lv [1, 2, 3, 4, 0] rfl ?_
      exact ih a1 a2 a3 x18 σ17 hf
set_option maxHeartbeats 4000000 in
set_option maxRecDepth 100000 in
theorem lb_X8_findTable_b32 {l : Launch} {D : va_G} {q : Nat → Nat} {ca : Nat → ClassId} {p : Program} {e : Env} {s : State} {m : MethodId} {args : Array Value} {below : List Frame} {meth : Method} {c : Code} (hE : qok 19 q) (hC : Cx p s m args meth c cX8_findTable 5 RX8 none D (tysM ca) ZM) (Q : St → Prop) (K10 : Int32 → St → Prop) (hK10 : ∀ (a1 : Int32) (σ : St), K10 a1 σ → J p l e { frames := 3, cells := 0, slots := 0, locals := 69 } s m args below meth c (MQ below (va_Qv Q (BW D (wM q ca)) (AM q)) args s 0 0 (AM q)) D (AM q) 5 0 0 (wM q ca σ) 10 [(0, .ref (q 0)), (1, .int a1)] []) : ∀ (n : Nat) (a1 : Int32) (a2 : Int32) (a3 : Int32) (σ : St), f_X8_findTable_b32 Q K10 n a1 a2 a3 σ → J p l e { frames := 3, cells := 0, slots := 0, locals := 69 } s m args below meth c (MQ below (va_Qv Q (BW D (wM q ca)) (AM q)) args s 0 0 (AM q)) D (AM q) 5 0 0 (wM q ca σ) 32 [(0, .ref (q 0)), (1, .int a1), (2, .int a2), (3, .int a3)] [] := by
  intro n
  induction n with
  | zero => intro a1 a2 a3 σ hf; exact hf.elim
  | succ n ih =>
    intro a1 a2 a3 σ hf
    unfold f_X8_findTable_b32 at hf
    refine j_iload_n hC 3 dX8_findTable_32 (pc' := 33) rfl rfl ?_
    refine j_iconst hC (v := 2) dX8_findTable_33 (pc' := 34) rfl (by decide) ?_
    refine j_icmp_ge hC (tgt := 88) dX8_findTable_34 (pc' := 37) rfl (by decide) (fun c_ => ?_) (fun c_ => ?_)
    · replace hf := hf.1 c_
      obtain ⟨x9, ex9⟩ : ∃ y : Int32, y = a1 + (1 : Int32) := ⟨_, rfl⟩
      replace hf := hf x9 ex9
      refine j_iinc hC (v := x9) (q := 1) (lv' := [(1, .int x9), (0, .ref (q 0)), (2, .int a2), (3, .int a3)]) dX8_findTable_88 (pc' := 91) rfl rfl (by rw [ex9]; rfl) (by decide) rfl ?_
      refine j_goto hC (tgt := 10) dX8_findTable_91 (by decide) ?_
      refine j_lv [1, 0] rfl ?_
      exact hK10 x9 σ hf
    · replace hf := hf.2 c_
      refine j_iconst hC (v := 0) dX8_findTable_37 (pc' := 38) rfl (by decide) ?_
      refine j_istore hC (lv' := [(4, .int (0 : Int32)), (0, .ref (q 0)), (1, .int a1), (2, .int a2), (3, .int a3)]) dX8_findTable_38 (pc' := 40) rfl (by decide) rfl ?_
      obtain ⟨n19, hf⟩ := hf
      refine j_lv [1, 2, 3, 4, 0] rfl ?_
      exact lb_X8_findTable_b40 hE hC Q _ hK10 _ ih n19 a1 a2 a3 (0 : Int32) σ hf
set_option maxHeartbeats 4000000 in
set_option maxRecDepth 100000 in
theorem lb_X8_findTable_b10 {l : Launch} {D : va_G} {q : Nat → Nat} {ca : Nat → ClassId} {p : Program} {e : Env} {s : State} {m : MethodId} {args : Array Value} {below : List Frame} {meth : Method} {c : Code} (hE : qok 19 q) (hC : Cx p s m args meth c cX8_findTable 5 RX8 none D (tysM ca) ZM) (Q : St → Prop) : ∀ (n : Nat) (a1 : Int32) (σ : St), f_X8_findTable_b10 Q n a1 σ → J p l e { frames := 3, cells := 0, slots := 0, locals := 69 } s m args below meth c (MQ below (va_Qv Q (BW D (wM q ca)) (AM q)) args s 0 0 (AM q)) D (AM q) 5 0 0 (wM q ca σ) 10 [(0, .ref (q 0)), (1, .int a1)] [] := by
  intro n
  induction n with
  | zero => intro a1 σ hf; exact hf.elim
  | succ n ih =>
    intro a1 σ hf
    unfold f_X8_findTable_b10 at hf
    refine j_iload_n hC 1 dX8_findTable_10 (pc' := 11) rfl rfl ?_
    refine j_aload_n hC 0 dX8_findTable_11 (pc' := 12) rfl rfl ?_
    refine gM_usedMany hC wm_570 dX8_findTable_12 (pc' := 15) rfl ?_
    refine j_icmp_ge hC (tgt := 94) dX8_findTable_15 (pc' := 18) rfl (by decide) (fun c_ => ?_) (fun c_ => ?_)
    · replace hf := hf.1 c_
      exact j_vret hC dX8_findTable_94 hf
    · replace hf := hf.2 c_
      refine j_aload_n hC 0 dX8_findTable_18 (pc' := 19) rfl rfl ?_
      refine gM_used hC wm_569 dX8_findTable_19 (pc' := 22) rfl ?_
      refine j_iload_n hC 1 dX8_findTable_22 (pc' := 23) rfl rfl ?_
      obtain ⟨h5, hf⟩ := hf
      refine lM_used hC (j := (Int32.toNatClampNeg a1)) h5 rfl dX8_findTable_23 (pc' := 24) rfl ?_
      refine j_nmi (fun x6 ex6 => ?_)
      replace hf := hf x6 ex6
      refine j_istore_n hC (lv' := [(2, .int x6), (0, .ref (q 0)), (1, .int a1)]) dX8_findTable_24 (pc' := 25) rfl rfl (by decide) rfl ?_
      refine j_aload_n hC 1 dX8_findTable_25 (pc' := 26) rfl rfl ?_
      refine j_iload_n hC 0 dX8_findTable_26 (pc' := 27) rfl rfl ?_
      refine jcV_v hC (eM hE) (As := [.int x6]) (obM_X8) (rfl) (lk_X8_adds hE x6 σ _ hf) wm_716 wm_717 wm_911 wm_8 wm_718 dy_X8_adds ⟨rfl, rfl⟩ ⟨Nat.le_of_ble_eq_true rfl, Nat.le_of_ble_eq_true rfl⟩ ⟨Nat.le_refl _, Nat.le_refl _⟩ rfl rfl (Nat.le_of_ble_eq_true rfl) dX8_findTable_27 (pc' := 30) rfl (fun σ8 hf => ?_)
      refine j_iconst hC (v := 0) dX8_findTable_30 (pc' := 31) rfl (by decide) ?_
      refine j_istore_n hC (lv' := [(3, .int (0 : Int32)), (2, .int x6), (0, .ref (q 0)), (1, .int a1)]) dX8_findTable_31 (pc' := 32) rfl rfl (by decide) rfl ?_
      obtain ⟨n20, hf⟩ := hf
      refine j_lv [2, 3, 1, 0] rfl ?_
      exact lb_X8_findTable_b32 hE hC Q _ ih n20 a1 x6 (0 : Int32) σ8 hf
set_option maxHeartbeats 4000000 in
set_option maxRecDepth 100000 in
theorem lk_X8_findTable {l : Launch} {D : va_G} {q : Nat → Nat} {ca : Nat → ClassId} (hE : qok 19 q) (σ : St) (Q : St → Prop) (hf : f_X8_findTable σ Q) : Mv l yX8_findTable cX8_findTable 5 none { frames := 3, cells := 0, slots := 0, locals := 69 } D (tysM ca) ZM (wM q ca) (AM q) [.ref (q 0)] σ Q := by
  refine j_start (own := RX8) (lv := [(0, .ref (q 0))]) [.ref (q 0)] (by decide +kernel) rfl (wM_D hE σ) (Nat.le_of_ble_eq_true rfl) rfl (fun p e s m args below meth c hC => ?_)
  unfold f_X8_findTable at hf
  refine j_aload_n hC 0 dX8_findTable_0 (pc' := 1) rfl rfl ?_
  refine jcV_v hC (eM hE) (As := []) (obM_X8) (rfl) (lk_X8_findUsed hE  σ _ hf) wm_699 wm_700 wm_908 wm_8 wm_701 dy_X8_findUsed ⟨rfl, rfl⟩ ⟨Nat.le_of_ble_eq_true rfl, Nat.le_of_ble_eq_true rfl⟩ ⟨Nat.le_refl _, Nat.le_refl _⟩ rfl rfl (Nat.le_of_ble_eq_true rfl) dX8_findTable_1 (pc' := 4) rfl (fun σ2 hf => ?_)
  refine j_aload_n hC 0 dX8_findTable_4 (pc' := 5) rfl rfl ?_
  refine jcV_v hC (eM hE) (As := []) (obM_X8) (rfl) (lk_X8_nothing hE  σ2 _ hf) wm_713 wm_714 wm_910 wm_8 wm_715 dy_X8_nothing ⟨rfl, rfl⟩ ⟨Nat.le_of_ble_eq_true rfl, Nat.le_of_ble_eq_true rfl⟩ ⟨Nat.le_refl _, Nat.le_refl _⟩ rfl rfl (Nat.le_of_ble_eq_true rfl) dX8_findTable_5 (pc' := 8) rfl (fun σ4 hf => ?_)
  refine j_iconst hC (v := 0) dX8_findTable_8 (pc' := 9) rfl (by decide) ?_
  refine j_istore_n hC (lv' := [(1, .int (0 : Int32)), (0, .ref (q 0))]) dX8_findTable_9 (pc' := 10) rfl rfl (by decide) rfl ?_
  obtain ⟨n21, hf⟩ := hf
  refine j_lv [1, 0] rfl ?_
  exact lb_X8_findTable_b10 hE hC Q n21 (0 : Int32) σ4 hf
def f_X8_table (a1 : Int32) (a2 : Int32) (σ : St) (Q : Int64 → St → Prop) : Prop := f_X8_in (Int32.toInt64 a1) (0 : Int64) (2 : Int64) σ (fun r1 σ2 => (r1 = 0 → f_X8_no (-2 : Int32) σ2 (fun r3 σ4 => Q r3 σ4)) ∧ ((¬ r1 = 0) → f_X8_in (Int32.toInt64 a2) (0 : Int64) (2 : Int64) σ2 (fun r5 σ6 => ((¬ r5 = 0) → f_X8_findTable σ6 (fun σ8 => vp_in (((3 : Int32) * a1) + a2) 9 ∧ Q (σ8.2 0 (Int32.toNatClampNeg (((3 : Int32) * a1) + a2))) σ8)) ∧ (r5 = 0 → f_X8_no (-2 : Int32) σ6 (fun r10 σ11 => Q r10 σ11)))))
theorem dy_X8_table : yX8_table.cls = yX8_table.cls ∧ yX8_table.cls ≠ "java/lang/invoke/MethodHandle" ∧ yX8_table.cls ≠ "java/lang/invoke/VarHandle" ∧ (parseMethodDescriptor yX8_table.desc).map (fun d => d.parameters.length) = some 2 := by decide +kernel
set_option maxHeartbeats 4000000 in
set_option maxRecDepth 100000 in
theorem lk_X8_table {l : Launch} {D : va_G} {q : Nat → Nat} {ca : Nat → ClassId} (hE : qok 19 q) (a1 : Int32) (a2 : Int32) (σ : St) (Q : Int64 → St → Prop) (hf : f_X8_table a1 a2 σ Q) : Ml l yX8_table cX8_table 3 (some .long) { frames := 4, cells := 0, slots := 0, locals := 93 } D (tysM ca) ZM (wM q ca) (AM q) [.ref (q 0), .int a1, .int a2] σ Q := by
  refine j_start (own := RX8) (lv := [(0, .ref (q 0)), (1, .int a1), (2, .int a2)]) [.ref (q 0), .int a1, .int a2] (by decide +kernel) rfl (wM_D hE σ) (Nat.le_of_ble_eq_true rfl) rfl (fun p e s m args below meth c hC => ?_)
  unfold f_X8_table at hf
  refine j_iload_n hC 1 dX8_table_0 (pc' := 1) rfl rfl ?_
  refine j_i2l hC dX8_table_1 (pc' := 2) rfl ?_
  refine j_lconst hC (v := 0) dX8_table_2 (pc' := 3) rfl (by decide) ?_
  refine j_ldc2 hC (v := 2) dX8_table_3 (pc' := 6) rfl wm_655 ?_
  refine jcS_i hC (eM hE) (As := [.long (Int32.toInt64 a1), .long (0 : Int64), .long (2 : Int64)]) (lk_X8_in hE (Int32.toInt64 a1) (0 : Int64) (2 : Int64) σ _ hf) wm_642 wm_643 wm_8 wm_644 dy_X8_in ⟨rfl, rfl⟩ ⟨Nat.le_of_ble_eq_true rfl, Nat.le_of_ble_eq_true rfl⟩ ⟨Nat.le_refl _, Nat.le_refl _⟩ rfl rfl (Nat.le_of_ble_eq_true rfl) dX8_table_6 (pc' := 9) rfl (fun r1 σ2 hf => ?_)
  refine j_if_eq hC (tgt := 24) dX8_table_9 (pc' := 12) rfl (by decide) (fun c_ => ?_) (fun c_ => ?_)
  · replace hf := hf.1 c_
    refine j_bipush hC (v := -2) dX8_table_24 (pc' := 26) rfl (by decide) ?_
    refine jcS_l hC (eM hE) (As := [.int (-2 : Int32)]) (lk_X8_no hE (-2 : Int32) σ2 _ hf) wm_706 wm_707 wm_8 wm_708 dy_X8_no ⟨rfl, rfl⟩ ⟨Nat.le_of_ble_eq_true rfl, Nat.le_of_ble_eq_true rfl⟩ ⟨Nat.le_refl _, Nat.le_refl _⟩ rfl rfl (Nat.le_of_ble_eq_true rfl) dX8_table_26 (pc' := 29) rfl (fun r3 σ4 hf => ?_)
    exact j_lret hC dX8_table_29 hf
  · replace hf := hf.2 c_
    refine j_iload_n hC 2 dX8_table_12 (pc' := 13) rfl rfl ?_
    refine j_i2l hC dX8_table_13 (pc' := 14) rfl ?_
    refine j_lconst hC (v := 0) dX8_table_14 (pc' := 15) rfl (by decide) ?_
    refine j_ldc2 hC (v := 2) dX8_table_15 (pc' := 18) rfl wm_655 ?_
    refine jcS_i hC (eM hE) (As := [.long (Int32.toInt64 a2), .long (0 : Int64), .long (2 : Int64)]) (lk_X8_in hE (Int32.toInt64 a2) (0 : Int64) (2 : Int64) σ2 _ hf) wm_642 wm_643 wm_8 wm_644 dy_X8_in ⟨rfl, rfl⟩ ⟨Nat.le_of_ble_eq_true rfl, Nat.le_of_ble_eq_true rfl⟩ ⟨Nat.le_refl _, Nat.le_refl _⟩ rfl rfl (Nat.le_of_ble_eq_true rfl) dX8_table_18 (pc' := 21) rfl (fun r5 σ6 hf => ?_)
    refine j_if_ne hC (tgt := 30) dX8_table_21 (pc' := 24) rfl (by decide) (fun c_ => ?_) (fun c_ => ?_)
    · replace hf := hf.1 c_
      refine j_aload_n hC 0 dX8_table_30 (pc' := 31) rfl rfl ?_
      refine jcV_v hC (eM hE) (As := []) (obM_X8) (rfl) (lk_X8_findTable hE  σ6 _ hf) wm_710 wm_711 wm_909 wm_8 wm_712 dy_X8_findTable ⟨rfl, rfl⟩ ⟨Nat.le_of_ble_eq_true rfl, Nat.le_of_ble_eq_true rfl⟩ ⟨Nat.le_refl _, Nat.le_refl _⟩ rfl rfl (Nat.le_of_ble_eq_true rfl) dX8_table_31 (pc' := 34) rfl (fun σ8 hf => ?_)
      refine j_aload_n hC 0 dX8_table_34 (pc' := 35) rfl rfl ?_
      refine gM_g hC wm_571 dX8_table_35 (pc' := 38) rfl ?_
      refine j_iconst hC (v := 3) dX8_table_38 (pc' := 39) rfl (by decide) ?_
      refine j_iload_n hC 1 dX8_table_39 (pc' := 40) rfl rfl ?_
      refine j_imul hC dX8_table_40 (pc' := 41) rfl ?_
      refine j_iload_n hC 2 dX8_table_41 (pc' := 42) rfl rfl ?_
      refine j_iadd hC dX8_table_42 (pc' := 43) rfl ?_
      obtain ⟨h9, hf⟩ := hf
      refine lM_g hC (j := (Int32.toNatClampNeg (((3 : Int32) * a1) + a2))) h9 rfl dX8_table_43 (pc' := 44) rfl ?_
      exact j_lret hC dX8_table_44 hf
    · replace hf := hf.2 c_
      refine j_bipush hC (v := -2) dX8_table_24 (pc' := 26) rfl (by decide) ?_
      refine jcS_l hC (eM hE) (As := [.int (-2 : Int32)]) (lk_X8_no hE (-2 : Int32) σ6 _ hf) wm_706 wm_707 wm_8 wm_708 dy_X8_no ⟨rfl, rfl⟩ ⟨Nat.le_of_ble_eq_true rfl, Nat.le_of_ble_eq_true rfl⟩ ⟨Nat.le_refl _, Nat.le_refl _⟩ rfl rfl (Nat.le_of_ble_eq_true rfl) dX8_table_26 (pc' := 29) rfl (fun r10 σ11 hf => ?_)
      exact j_lret hC dX8_table_29 hf
def f_X8_det (a0 : Int64) (a2 : Int64) (a4 : Int64) (a6 : Int64) (a8 : Int64) (a10 : Int64) (a12 : Int64) (a14 : Int64) (a16 : Int64) (σ : St) (Q : Int64 → St → Prop) : Prop := Q (((a0 * ((a8 * a16) - (a10 * a14))) - (a2 * ((a6 * a16) - (a10 * a12)))) + (a4 * ((a6 * a14) - (a8 * a12)))) σ
theorem dy_X8_det : yX8_det.cls ≠ "java/lang/invoke/MethodHandle" ∧ yX8_det.cls ≠ "java/lang/invoke/VarHandle" ∧ (parseMethodDescriptor yX8_det.desc).map (fun d => d.parameters.length) = some 9 := by decide +kernel
set_option maxHeartbeats 4000000 in
set_option maxRecDepth 100000 in
theorem lk_X8_det {l : Launch} {D : va_G} {q : Nat → Nat} {ca : Nat → ClassId} (hE : qok 19 q) (a0 : Int64) (a2 : Int64) (a4 : Int64) (a6 : Int64) (a8 : Int64) (a10 : Int64) (a12 : Int64) (a14 : Int64) (a16 : Int64) (σ : St) (Q : Int64 → St → Prop) (hf : f_X8_det a0 a2 a4 a6 a8 a10 a12 a14 a16 σ Q) : Ml l yX8_det cX8_det 18 (some .long) { frames := 0, cells := 0, slots := 0, locals := 0 } D (tysM ca) ZM (wM q ca) (AM q) [.long a0, .long a2, .long a4, .long a6, .long a8, .long a10, .long a12, .long a14, .long a16] σ Q := by
  refine j_start (own := RX8) (lv := [(0, .long a0), (2, .long a2), (4, .long a4), (6, .long a6), (8, .long a8), (10, .long a10), (12, .long a12), (14, .long a14), (16, .long a16)]) [.long a0, .long a2, .long a4, .long a6, .long a8, .long a10, .long a12, .long a14, .long a16] (by decide +kernel) rfl (wM_D hE σ) (Nat.le_of_ble_eq_true rfl) rfl (fun p e s m args below meth c hC => ?_)
  unfold f_X8_det at hf
  refine j_lload_n hC 0 dX8_det_0 (pc' := 1) rfl rfl ?_
  refine j_lload hC 4 dX8_det_1 (pc' := 3) rfl rfl ?_
  refine j_lload hC 8 dX8_det_3 (pc' := 5) rfl rfl ?_
  refine j_lmul hC dX8_det_5 (pc' := 6) rfl ?_
  refine j_lload hC 5 dX8_det_6 (pc' := 8) rfl rfl ?_
  refine j_lload hC 7 dX8_det_8 (pc' := 10) rfl rfl ?_
  refine j_lmul hC dX8_det_10 (pc' := 11) rfl ?_
  refine j_lsub hC dX8_det_11 (pc' := 12) rfl ?_
  refine j_lmul hC dX8_det_12 (pc' := 13) rfl ?_
  refine j_lload_n hC 1 dX8_det_13 (pc' := 14) rfl rfl ?_
  refine j_lload hC 3 dX8_det_14 (pc' := 16) rfl rfl ?_
  refine j_lload hC 8 dX8_det_16 (pc' := 18) rfl rfl ?_
  refine j_lmul hC dX8_det_18 (pc' := 19) rfl ?_
  refine j_lload hC 5 dX8_det_19 (pc' := 21) rfl rfl ?_
  refine j_lload hC 6 dX8_det_21 (pc' := 23) rfl rfl ?_
  refine j_lmul hC dX8_det_23 (pc' := 24) rfl ?_
  refine j_lsub hC dX8_det_24 (pc' := 25) rfl ?_
  refine j_lmul hC dX8_det_25 (pc' := 26) rfl ?_
  refine j_lsub hC dX8_det_26 (pc' := 27) rfl ?_
  refine j_lload hC 2 dX8_det_27 (pc' := 29) rfl rfl ?_
  refine j_lload hC 3 dX8_det_29 (pc' := 31) rfl rfl ?_
  refine j_lload hC 7 dX8_det_31 (pc' := 33) rfl rfl ?_
  refine j_lmul hC dX8_det_33 (pc' := 34) rfl ?_
  refine j_lload hC 4 dX8_det_34 (pc' := 36) rfl rfl ?_
  refine j_lload hC 6 dX8_det_36 (pc' := 38) rfl rfl ?_
  refine j_lmul hC dX8_det_38 (pc' := 39) rfl ?_
  refine j_lsub hC dX8_det_39 (pc' := 40) rfl ?_
  refine j_lmul hC dX8_det_40 (pc' := 41) rfl ?_
  refine j_ladd hC dX8_det_41 (pc' := 42) rfl ?_
  exact j_lret hC dX8_det_42 hf
def f_X8_weightNow (σ : St) (Q : Int64 → St → Prop) : Prop := f_X8_det (σ.2 0 0) (σ.2 0 1) (σ.2 0 2) (σ.2 0 3) (σ.2 0 4) (σ.2 0 5) (σ.2 0 6) (σ.2 0 7) (σ.2 0 8) σ (fun r1 σ2 => Q r1 σ2)
theorem dy_X8_weightNow : yX8_weightNow.cls = yX8_weightNow.cls ∧ yX8_weightNow.cls ≠ "java/lang/invoke/MethodHandle" ∧ yX8_weightNow.cls ≠ "java/lang/invoke/VarHandle" ∧ (parseMethodDescriptor yX8_weightNow.desc).map (fun d => d.parameters.length) = some 0 := by decide +kernel
set_option maxHeartbeats 4000000 in
set_option maxRecDepth 100000 in
theorem lk_X8_weightNow {l : Launch} {D : va_G} {q : Nat → Nat} {ca : Nat → ClassId} (hE : qok 19 q) (σ : St) (Q : Int64 → St → Prop) (hf : f_X8_weightNow σ Q) : Ml l yX8_weightNow cX8_weightNow 1 (some .long) { frames := 1, cells := 0, slots := 0, locals := 37 } D (tysM ca) ZM (wM q ca) (AM q) [.ref (q 0)] σ Q := by
  refine j_start (own := RX8) (lv := [(0, .ref (q 0))]) [.ref (q 0)] (by decide +kernel) rfl (wM_D hE σ) (Nat.le_of_ble_eq_true rfl) rfl (fun p e s m args below meth c hC => ?_)
  unfold f_X8_weightNow at hf
  refine j_aload_n hC 0 dX8_weightNow_0 (pc' := 1) rfl rfl ?_
  refine gM_g hC wm_571 dX8_weightNow_1 (pc' := 4) rfl ?_
  refine j_iconst hC (v := 0) dX8_weightNow_4 (pc' := 5) rfl (by decide) ?_
  refine lM_g hC (j := 0) (show ¬ ((0 : Int32) < 0 ∨ 9 ≤ (0 : Int32).toNatClampNeg) from by decide) (by decide) dX8_weightNow_5 (pc' := 6) rfl ?_
  refine j_aload_n hC 0 dX8_weightNow_6 (pc' := 7) rfl rfl ?_
  refine gM_g hC wm_571 dX8_weightNow_7 (pc' := 10) rfl ?_
  refine j_iconst hC (v := 1) dX8_weightNow_10 (pc' := 11) rfl (by decide) ?_
  refine lM_g hC (j := 1) (show ¬ ((1 : Int32) < 0 ∨ 9 ≤ (1 : Int32).toNatClampNeg) from by decide) (by decide) dX8_weightNow_11 (pc' := 12) rfl ?_
  refine j_aload_n hC 0 dX8_weightNow_12 (pc' := 13) rfl rfl ?_
  refine gM_g hC wm_571 dX8_weightNow_13 (pc' := 16) rfl ?_
  refine j_iconst hC (v := 2) dX8_weightNow_16 (pc' := 17) rfl (by decide) ?_
  refine lM_g hC (j := 2) (show ¬ ((2 : Int32) < 0 ∨ 9 ≤ (2 : Int32).toNatClampNeg) from by decide) (by decide) dX8_weightNow_17 (pc' := 18) rfl ?_
  refine j_aload_n hC 0 dX8_weightNow_18 (pc' := 19) rfl rfl ?_
  refine gM_g hC wm_571 dX8_weightNow_19 (pc' := 22) rfl ?_
  refine j_iconst hC (v := 3) dX8_weightNow_22 (pc' := 23) rfl (by decide) ?_
  refine lM_g hC (j := 3) (show ¬ ((3 : Int32) < 0 ∨ 9 ≤ (3 : Int32).toNatClampNeg) from by decide) (by decide) dX8_weightNow_23 (pc' := 24) rfl ?_
  refine j_aload_n hC 0 dX8_weightNow_24 (pc' := 25) rfl rfl ?_
  refine gM_g hC wm_571 dX8_weightNow_25 (pc' := 28) rfl ?_
  refine j_iconst hC (v := 4) dX8_weightNow_28 (pc' := 29) rfl (by decide) ?_
  refine lM_g hC (j := 4) (show ¬ ((4 : Int32) < 0 ∨ 9 ≤ (4 : Int32).toNatClampNeg) from by decide) (by decide) dX8_weightNow_29 (pc' := 30) rfl ?_
  refine j_aload_n hC 0 dX8_weightNow_30 (pc' := 31) rfl rfl ?_
  refine gM_g hC wm_571 dX8_weightNow_31 (pc' := 34) rfl ?_
  refine j_iconst hC (v := 5) dX8_weightNow_34 (pc' := 35) rfl (by decide) ?_
  refine lM_g hC (j := 5) (show ¬ ((5 : Int32) < 0 ∨ 9 ≤ (5 : Int32).toNatClampNeg) from by decide) (by decide) dX8_weightNow_35 (pc' := 36) rfl ?_
  refine j_aload_n hC 0 dX8_weightNow_36 (pc' := 37) rfl rfl ?_
  refine gM_g hC wm_571 dX8_weightNow_37 (pc' := 40) rfl ?_
  refine j_bipush hC (v := 6) dX8_weightNow_40 (pc' := 42) rfl (by decide) ?_
  refine lM_g hC (j := 6) (show ¬ ((6 : Int32) < 0 ∨ 9 ≤ (6 : Int32).toNatClampNeg) from by decide) (by decide) dX8_weightNow_42 (pc' := 43) rfl ?_
  refine j_aload_n hC 0 dX8_weightNow_43 (pc' := 44) rfl rfl ?_
  refine gM_g hC wm_571 dX8_weightNow_44 (pc' := 47) rfl ?_
  refine j_bipush hC (v := 7) dX8_weightNow_47 (pc' := 49) rfl (by decide) ?_
  refine lM_g hC (j := 7) (show ¬ ((7 : Int32) < 0 ∨ 9 ≤ (7 : Int32).toNatClampNeg) from by decide) (by decide) dX8_weightNow_49 (pc' := 50) rfl ?_
  refine j_aload_n hC 0 dX8_weightNow_50 (pc' := 51) rfl rfl ?_
  refine gM_g hC wm_571 dX8_weightNow_51 (pc' := 54) rfl ?_
  refine j_bipush hC (v := 8) dX8_weightNow_54 (pc' := 56) rfl (by decide) ?_
  refine lM_g hC (j := 8) (show ¬ ((8 : Int32) < 0 ∨ 9 ≤ (8 : Int32).toNatClampNeg) from by decide) (by decide) dX8_weightNow_56 (pc' := 57) rfl ?_
  refine jcS_l hC (eM hE) (As := [.long (σ.2 0 0), .long (σ.2 0 1), .long (σ.2 0 2), .long (σ.2 0 3), .long (σ.2 0 4), .long (σ.2 0 5), .long (σ.2 0 6), .long (σ.2 0 7), .long (σ.2 0 8)]) (lk_X8_det hE (σ.2 0 0) (σ.2 0 1) (σ.2 0 2) (σ.2 0 3) (σ.2 0 4) (σ.2 0 5) (σ.2 0 6) (σ.2 0 7) (σ.2 0 8) σ _ hf) wm_729 wm_730 wm_8 wm_731 dy_X8_det ⟨rfl, rfl⟩ ⟨Nat.le_of_ble_eq_true rfl, Nat.le_of_ble_eq_true rfl⟩ ⟨Nat.le_refl _, Nat.le_refl _⟩ rfl rfl (Nat.le_of_ble_eq_true rfl) dX8_weightNow_57 (pc' := 60) rfl (fun r1 σ2 hf => ?_)
  exact j_lret hC dX8_weightNow_60 hf
def f_X8_stands (a1 : Int32) (a2 : Int32) (σ : St) (Q : Int32 → St → Prop) : Prop := vp_in ((3 : Int32) * a1) 9 ∧ ∀ x2 : Int64, x2 = σ.2 0 (Int32.toNatClampNeg ((3 : Int32) * a1)) → vp_in (((3 : Int32) * a1) + (1 : Int32)) 9 ∧ ∀ x4 : Int64, x4 = σ.2 0 (Int32.toNatClampNeg (((3 : Int32) * a1) + (1 : Int32))) → vp_in (((3 : Int32) * a1) + (2 : Int32)) 9 ∧ ∀ x6 : Int64, x6 = σ.2 0 (Int32.toNatClampNeg (((3 : Int32) * a1) + (2 : Int32))) → vp_in ((3 : Int32) * a2) 9 ∧ ∀ x8 : Int64, x8 = σ.2 0 (Int32.toNatClampNeg ((3 : Int32) * a2)) → vp_in (((3 : Int32) * a2) + (1 : Int32)) 9 ∧ ∀ x10 : Int64, x10 = σ.2 0 (Int32.toNatClampNeg (((3 : Int32) * a2) + (1 : Int32))) → vp_in (((3 : Int32) * a2) + (2 : Int32)) 9 ∧ ∀ x12 : Int64, x12 = σ.2 0 (Int32.toNatClampNeg (((3 : Int32) * a2) + (2 : Int32))) → ∀ σ13 : St, σ13 = sL σ 2 0 ((x4 * x12) - (x6 * x10)) → ∀ σ14 : St, σ14 = sL σ13 2 1 ((x6 * x8) - (x2 * x12)) → ∀ σ15 : St, σ15 = sL σ14 2 2 ((x2 * x10) - (x4 * x8)) → ((¬ (σ15.2 2 0) = (0 : Int64)) → Q (1 : Int32) σ15) ∧ ((σ15.2 2 0) = (0 : Int64) → ((¬ (σ15.2 2 1) = (0 : Int64)) → Q (1 : Int32) σ15) ∧ ((σ15.2 2 1) = (0 : Int64) → ((σ15.2 2 2) = (0 : Int64) → Q (0 : Int32) σ15) ∧ ((¬ (σ15.2 2 2) = (0 : Int64)) → Q (1 : Int32) σ15)))
theorem dy_X8_stands : yX8_stands.cls = yX8_stands.cls ∧ yX8_stands.cls ≠ "java/lang/invoke/MethodHandle" ∧ yX8_stands.cls ≠ "java/lang/invoke/VarHandle" ∧ (parseMethodDescriptor yX8_stands.desc).map (fun d => d.parameters.length) = some 2 := by decide +kernel
set_option maxHeartbeats 4000000 in
set_option maxRecDepth 100000 in
theorem lk_X8_stands {l : Launch} {D : va_G} {q : Nat → Nat} {ca : Nat → ClassId} (hE : qok 19 q) (a1 : Int32) (a2 : Int32) (σ : St) (Q : Int32 → St → Prop) (hf : f_X8_stands a1 a2 σ Q) : Mi l yX8_stands cX8_stands 15 (some .boolean) { frames := 0, cells := 0, slots := 0, locals := 0 } D (tysM ca) ZM (wM q ca) (AM q) [.ref (q 0), .int a1, .int a2] σ Q := by
  refine j_start (own := RX8) (lv := [(0, .ref (q 0)), (1, .int a1), (2, .int a2)]) [.ref (q 0), .int a1, .int a2] (by decide +kernel) rfl (wM_D hE σ) (Nat.le_of_ble_eq_true rfl) rfl (fun p e s m args below meth c hC => ?_)
  unfold f_X8_stands at hf
  refine j_aload_n hC 0 dX8_stands_0 (pc' := 1) rfl rfl ?_
  refine gM_g hC wm_571 dX8_stands_1 (pc' := 4) rfl ?_
  refine j_iconst hC (v := 3) dX8_stands_4 (pc' := 5) rfl (by decide) ?_
  refine j_iload_n hC 1 dX8_stands_5 (pc' := 6) rfl rfl ?_
  refine j_imul hC dX8_stands_6 (pc' := 7) rfl ?_
  obtain ⟨h1, hf⟩ := hf
  refine lM_g hC (j := (Int32.toNatClampNeg ((3 : Int32) * a1))) h1 rfl dX8_stands_7 (pc' := 8) rfl ?_
  refine j_nml (fun x2 ex2 => ?_)
  replace hf := hf x2 ex2
  refine j_lstore_n hC (lv' := [(3, .long x2), (0, .ref (q 0)), (1, .int a1), (2, .int a2)]) dX8_stands_8 (pc' := 9) rfl rfl (by decide) rfl ?_
  refine j_aload_n hC 1 dX8_stands_9 (pc' := 10) rfl rfl ?_
  refine gM_g hC wm_571 dX8_stands_10 (pc' := 13) rfl ?_
  refine j_iconst hC (v := 3) dX8_stands_13 (pc' := 14) rfl (by decide) ?_
  refine j_iload_n hC 2 dX8_stands_14 (pc' := 15) rfl rfl ?_
  refine j_imul hC dX8_stands_15 (pc' := 16) rfl ?_
  refine j_iconst hC (v := 1) dX8_stands_16 (pc' := 17) rfl (by decide) ?_
  refine j_iadd hC dX8_stands_17 (pc' := 18) rfl ?_
  obtain ⟨h3, hf⟩ := hf
  refine lM_g hC (j := (Int32.toNatClampNeg (((3 : Int32) * a1) + (1 : Int32)))) h3 rfl dX8_stands_18 (pc' := 19) rfl ?_
  refine j_nml (fun x4 ex4 => ?_)
  replace hf := hf x4 ex4
  refine j_lstore hC (lv' := [(5, .long x4), (3, .long x2), (0, .ref (q 0)), (1, .int a1), (2, .int a2)]) dX8_stands_19 (pc' := 21) rfl (by decide) rfl ?_
  refine j_aload_n hC 2 dX8_stands_21 (pc' := 22) rfl rfl ?_
  refine gM_g hC wm_571 dX8_stands_22 (pc' := 25) rfl ?_
  refine j_iconst hC (v := 3) dX8_stands_25 (pc' := 26) rfl (by decide) ?_
  refine j_iload_n hC 3 dX8_stands_26 (pc' := 27) rfl rfl ?_
  refine j_imul hC dX8_stands_27 (pc' := 28) rfl ?_
  refine j_iconst hC (v := 2) dX8_stands_28 (pc' := 29) rfl (by decide) ?_
  refine j_iadd hC dX8_stands_29 (pc' := 30) rfl ?_
  obtain ⟨h5, hf⟩ := hf
  refine lM_g hC (j := (Int32.toNatClampNeg (((3 : Int32) * a1) + (2 : Int32)))) h5 rfl dX8_stands_30 (pc' := 31) rfl ?_
  refine j_nml (fun x6 ex6 => ?_)
  replace hf := hf x6 ex6
  refine j_lstore hC (lv' := [(7, .long x6), (5, .long x4), (3, .long x2), (0, .ref (q 0)), (1, .int a1), (2, .int a2)]) dX8_stands_31 (pc' := 33) rfl (by decide) rfl ?_
  refine j_aload_n hC 3 dX8_stands_33 (pc' := 34) rfl rfl ?_
  refine gM_g hC wm_571 dX8_stands_34 (pc' := 37) rfl ?_
  refine j_iconst hC (v := 3) dX8_stands_37 (pc' := 38) rfl (by decide) ?_
  refine j_iload_n hC 5 dX8_stands_38 (pc' := 39) rfl rfl ?_
  refine j_imul hC dX8_stands_39 (pc' := 40) rfl ?_
  obtain ⟨h7, hf⟩ := hf
  refine lM_g hC (j := (Int32.toNatClampNeg ((3 : Int32) * a2))) h7 rfl dX8_stands_40 (pc' := 41) rfl ?_
  refine j_nml (fun x8 ex8 => ?_)
  replace hf := hf x8 ex8
  refine j_lstore hC (lv' := [(9, .long x8), (7, .long x6), (5, .long x4), (3, .long x2), (0, .ref (q 0)), (1, .int a1), (2, .int a2)]) dX8_stands_41 (pc' := 43) rfl (by decide) rfl ?_
  refine j_aload_n hC 4 dX8_stands_43 (pc' := 44) rfl rfl ?_
  refine gM_g hC wm_571 dX8_stands_44 (pc' := 47) rfl ?_
  refine j_iconst hC (v := 3) dX8_stands_47 (pc' := 48) rfl (by decide) ?_
  refine j_iload_n hC 6 dX8_stands_48 (pc' := 49) rfl rfl ?_
  refine j_imul hC dX8_stands_49 (pc' := 50) rfl ?_
  refine j_iconst hC (v := 1) dX8_stands_50 (pc' := 51) rfl (by decide) ?_
  refine j_iadd hC dX8_stands_51 (pc' := 52) rfl ?_
  obtain ⟨h9, hf⟩ := hf
  refine lM_g hC (j := (Int32.toNatClampNeg (((3 : Int32) * a2) + (1 : Int32)))) h9 rfl dX8_stands_52 (pc' := 53) rfl ?_
  refine j_nml (fun x10 ex10 => ?_)
  replace hf := hf x10 ex10
  refine j_lstore hC (lv' := [(11, .long x10), (9, .long x8), (7, .long x6), (5, .long x4), (3, .long x2), (0, .ref (q 0)), (1, .int a1), (2, .int a2)]) dX8_stands_53 (pc' := 55) rfl (by decide) rfl ?_
  refine j_aload_n hC 5 dX8_stands_55 (pc' := 56) rfl rfl ?_
  refine gM_g hC wm_571 dX8_stands_56 (pc' := 59) rfl ?_
  refine j_iconst hC (v := 3) dX8_stands_59 (pc' := 60) rfl (by decide) ?_
  refine j_iload_n hC 7 dX8_stands_60 (pc' := 61) rfl rfl ?_
  refine j_imul hC dX8_stands_61 (pc' := 62) rfl ?_
  refine j_iconst hC (v := 2) dX8_stands_62 (pc' := 63) rfl (by decide) ?_
  refine j_iadd hC dX8_stands_63 (pc' := 64) rfl ?_
  obtain ⟨h11, hf⟩ := hf
  refine lM_g hC (j := (Int32.toNatClampNeg (((3 : Int32) * a2) + (2 : Int32)))) h11 rfl dX8_stands_64 (pc' := 65) rfl ?_
  refine j_nml (fun x12 ex12 => ?_)
  replace hf := hf x12 ex12
  refine j_lstore hC (lv' := [(13, .long x12), (11, .long x10), (9, .long x8), (7, .long x6), (5, .long x4), (3, .long x2), (0, .ref (q 0)), (1, .int a1), (2, .int a2)]) dX8_stands_65 (pc' := 67) rfl (by decide) rfl ?_
  refine j_aload_n hC 6 dX8_stands_67 (pc' := 68) rfl rfl ?_
  refine gM_upright hC wm_573 dX8_stands_68 (pc' := 71) rfl ?_
  refine j_iconst hC (v := 0) dX8_stands_71 (pc' := 72) rfl (by decide) ?_
  refine j_lload hC 4 dX8_stands_72 (pc' := 74) rfl rfl ?_
  refine j_lload hC 0 dX8_stands_74 (pc' := 76) rfl rfl ?_
  refine j_lmul hC dX8_stands_76 (pc' := 77) rfl ?_
  refine j_lload hC 3 dX8_stands_77 (pc' := 79) rfl rfl ?_
  refine j_lload hC 1 dX8_stands_79 (pc' := 81) rfl rfl ?_
  refine j_lmul hC dX8_stands_81 (pc' := 82) rfl ?_
  refine j_lsub hC dX8_stands_82 (pc' := 83) rfl ?_
  refine sM_upright hC (j := 0) (show ¬ ((0 : Int32) < 0 ∨ 3 ≤ (0 : Int32).toNatClampNeg) from by decide) (by decide) dX8_stands_83 (pc' := 84) rfl ?_
  refine j_nms (wf := wM q ca) (fun σ13 eσ13 => ?_)
  replace hf := hf σ13 eσ13
  refine j_aload_n hC 6 dX8_stands_84 (pc' := 85) rfl rfl ?_
  refine gM_upright hC wm_573 dX8_stands_85 (pc' := 88) rfl ?_
  refine j_iconst hC (v := 1) dX8_stands_88 (pc' := 89) rfl (by decide) ?_
  refine j_lload hC 3 dX8_stands_89 (pc' := 91) rfl rfl ?_
  refine j_lload hC 2 dX8_stands_91 (pc' := 93) rfl rfl ?_
  refine j_lmul hC dX8_stands_93 (pc' := 94) rfl ?_
  refine j_lload_n hC 5 dX8_stands_94 (pc' := 95) rfl rfl ?_
  refine j_lload hC 0 dX8_stands_95 (pc' := 97) rfl rfl ?_
  refine j_lmul hC dX8_stands_97 (pc' := 98) rfl ?_
  refine j_lsub hC dX8_stands_98 (pc' := 99) rfl ?_
  refine sM_upright hC (j := 1) (show ¬ ((1 : Int32) < 0 ∨ 3 ≤ (1 : Int32).toNatClampNeg) from by decide) (by decide) dX8_stands_99 (pc' := 100) rfl ?_
  refine j_nms (wf := wM q ca) (fun σ14 eσ14 => ?_)
  replace hf := hf σ14 eσ14
  refine j_aload_n hC 6 dX8_stands_100 (pc' := 101) rfl rfl ?_
  refine gM_upright hC wm_573 dX8_stands_101 (pc' := 104) rfl ?_
  refine j_iconst hC (v := 2) dX8_stands_104 (pc' := 105) rfl (by decide) ?_
  refine j_lload_n hC 5 dX8_stands_105 (pc' := 106) rfl rfl ?_
  refine j_lload hC 1 dX8_stands_106 (pc' := 108) rfl rfl ?_
  refine j_lmul hC dX8_stands_108 (pc' := 109) rfl ?_
  refine j_lload hC 4 dX8_stands_109 (pc' := 111) rfl rfl ?_
  refine j_lload hC 2 dX8_stands_111 (pc' := 113) rfl rfl ?_
  refine j_lmul hC dX8_stands_113 (pc' := 114) rfl ?_
  refine j_lsub hC dX8_stands_114 (pc' := 115) rfl ?_
  refine sM_upright hC (j := 2) (show ¬ ((2 : Int32) < 0 ∨ 3 ≤ (2 : Int32).toNatClampNeg) from by decide) (by decide) dX8_stands_115 (pc' := 116) rfl ?_
  refine j_nms (wf := wM q ca) (fun σ15 eσ15 => ?_)
  replace hf := hf σ15 eσ15
  refine j_aload_n hC 6 dX8_stands_116 (pc' := 117) rfl rfl ?_
  refine gM_upright hC wm_573 dX8_stands_117 (pc' := 120) rfl ?_
  refine j_iconst hC (v := 0) dX8_stands_120 (pc' := 121) rfl (by decide) ?_
  refine lM_upright hC (j := 0) (show ¬ ((0 : Int32) < 0 ∨ 3 ≤ (0 : Int32).toNatClampNeg) from by decide) (by decide) dX8_stands_121 (pc' := 122) rfl ?_
  refine j_lconst hC (v := 0) dX8_stands_122 (pc' := 123) rfl (by decide) ?_
  refine j_lcmp hC dX8_stands_123 (pc' := 124) rfl ?_
  refine j_if_ne hC (tgt := 149) dX8_stands_124 (pc' := 127) rfl (by decide) (fun c_ => ?_) (fun c_ => ?_)
  · replace hf := hf.1 (fun z => c_ ((lgc_eq _ _).mpr z))
    refine j_iconst hC (v := 1) dX8_stands_149 (pc' := 150) rfl (by decide) ?_
    refine j_goto hC (tgt := 154) dX8_stands_150 (by decide) ?_
    exact j_zret hC dX8_stands_154 (Or.inr rfl) hf
  · replace hf := hf.2 ((lgc_eq _ _).mp c_)
    refine j_aload_n hC 6 dX8_stands_127 (pc' := 128) rfl rfl ?_
    refine gM_upright hC wm_573 dX8_stands_128 (pc' := 131) rfl ?_
    refine j_iconst hC (v := 1) dX8_stands_131 (pc' := 132) rfl (by decide) ?_
    refine lM_upright hC (j := 1) (show ¬ ((1 : Int32) < 0 ∨ 3 ≤ (1 : Int32).toNatClampNeg) from by decide) (by decide) dX8_stands_132 (pc' := 133) rfl ?_
    refine j_lconst hC (v := 0) dX8_stands_133 (pc' := 134) rfl (by decide) ?_
    refine j_lcmp hC dX8_stands_134 (pc' := 135) rfl ?_
    refine j_if_ne hC (tgt := 149) dX8_stands_135 (pc' := 138) rfl (by decide) (fun c_ => ?_) (fun c_ => ?_)
    · replace hf := hf.1 (fun z => c_ ((lgc_eq _ _).mpr z))
      refine j_iconst hC (v := 1) dX8_stands_149 (pc' := 150) rfl (by decide) ?_
      refine j_goto hC (tgt := 154) dX8_stands_150 (by decide) ?_
      exact j_zret hC dX8_stands_154 (Or.inr rfl) hf
    · replace hf := hf.2 ((lgc_eq _ _).mp c_)
      refine j_aload_n hC 6 dX8_stands_138 (pc' := 139) rfl rfl ?_
      refine gM_upright hC wm_573 dX8_stands_139 (pc' := 142) rfl ?_
      refine j_iconst hC (v := 2) dX8_stands_142 (pc' := 143) rfl (by decide) ?_
      refine lM_upright hC (j := 2) (show ¬ ((2 : Int32) < 0 ∨ 3 ≤ (2 : Int32).toNatClampNeg) from by decide) (by decide) dX8_stands_143 (pc' := 144) rfl ?_
      refine j_lconst hC (v := 0) dX8_stands_144 (pc' := 145) rfl (by decide) ?_
      refine j_lcmp hC dX8_stands_145 (pc' := 146) rfl ?_
      refine j_if_eq hC (tgt := 153) dX8_stands_146 (pc' := 149) rfl (by decide) (fun c_ => ?_) (fun c_ => ?_)
      · replace hf := hf.1 ((lgc_eq _ _).mp c_)
        refine j_iconst hC (v := 0) dX8_stands_153 (pc' := 154) rfl (by decide) ?_
        exact j_zret hC dX8_stands_154 (Or.inl rfl) hf
      · replace hf := hf.2 (fun z => c_ ((lgc_eq _ _).mpr z))
        refine j_iconst hC (v := 1) dX8_stands_149 (pc' := 150) rfl (by decide) ?_
        refine j_goto hC (tgt := 154) dX8_stands_150 (by decide) ?_
        exact j_zret hC dX8_stands_154 (Or.inr rfl) hf
def f_X8_rankNow_b42 (Q : Int32 → St → Prop) : Nat → Int32 → St → Prop
  | 0, _, _ => False
  | n + 1, a1, σ => ((9 : Int32) ≤ a1 → Q (0 : Int32) σ) ∧ ((¬ (9 : Int32) ≤ a1) → vp_in a1 9 ∧ ((σ.2 0 (Int32.toNatClampNeg a1)) = (0 : Int64) → ∀ x10 : Int32, x10 = a1 + (1 : Int32) → f_X8_rankNow_b42 Q  n x10 σ) ∧ ((¬ (σ.2 0 (Int32.toNatClampNeg a1)) = (0 : Int64)) → Q (1 : Int32) σ))
def f_X8_rankNow (σ : St) (Q : Int32 → St → Prop) : Prop := f_X8_weightNow σ (fun r1 σ2 => (r1 = (0 : Int64) → f_X8_stands (0 : Int32) (1 : Int32) σ2 (fun r3 σ4 => ((¬ r3 = 0) → Q (2 : Int32) σ4) ∧ (r3 = 0 → f_X8_stands (0 : Int32) (2 : Int32) σ4 (fun r5 σ6 => ((¬ r5 = 0) → Q (2 : Int32) σ6) ∧ (r5 = 0 → f_X8_stands (1 : Int32) (2 : Int32) σ6 (fun r7 σ8 => (r7 = 0 → ∃ n11 : Nat, f_X8_rankNow_b42 Q n11 (0 : Int32) σ8) ∧ ((¬ r7 = 0) → Q (2 : Int32) σ8))))))) ∧ ((¬ r1 = (0 : Int64)) → Q (3 : Int32) σ2))
theorem dy_X8_rankNow : yX8_rankNow.cls = yX8_rankNow.cls ∧ yX8_rankNow.cls ≠ "java/lang/invoke/MethodHandle" ∧ yX8_rankNow.cls ≠ "java/lang/invoke/VarHandle" ∧ (parseMethodDescriptor yX8_rankNow.desc).map (fun d => d.parameters.length) = some 0 := by decide +kernel
set_option maxHeartbeats 4000000 in
set_option maxRecDepth 100000 in
theorem lb_X8_rankNow_b42 {l : Launch} {D : va_G} {q : Nat → Nat} {ca : Nat → ClassId} {p : Program} {e : Env} {s : State} {m : MethodId} {args : Array Value} {below : List Frame} {meth : Method} {c : Code} (hE : qok 19 q) (hC : Cx p s m args meth c cX8_rankNow 2 RX8 (some .int) D (tysM ca) ZM) (Q : Int32 → St → Prop) : ∀ (n : Nat) (a1 : Int32) (σ : St), f_X8_rankNow_b42 Q n a1 σ → J p l e { frames := 2, cells := 0, slots := 0, locals := 57 } s m args below meth c (MQ below (va_Qi Q (BW D (wM q ca)) (AM q)) args s 0 0 (AM q)) D (AM q) 2 0 0 (wM q ca σ) 42 [(0, .ref (q 0)), (1, .int a1)] [] := by
  intro n
  induction n with
  | zero => intro a1 σ hf; exact hf.elim
  | succ n ih =>
    intro a1 σ hf
    unfold f_X8_rankNow_b42 at hf
    refine j_iload_n hC 1 dX8_rankNow_42 (pc' := 43) rfl rfl ?_
    refine j_bipush hC (v := 9) dX8_rankNow_43 (pc' := 45) rfl (by decide) ?_
    refine j_icmp_ge hC (tgt := 67) dX8_rankNow_45 (pc' := 48) rfl (by decide) (fun c_ => ?_) (fun c_ => ?_)
    · replace hf := hf.1 c_
      refine j_iconst hC (v := 0) dX8_rankNow_67 (pc' := 68) rfl (by decide) ?_
      exact j_iret hC dX8_rankNow_68 hf
    · replace hf := hf.2 c_
      refine j_aload_n hC 0 dX8_rankNow_48 (pc' := 49) rfl rfl ?_
      refine gM_g hC wm_571 dX8_rankNow_49 (pc' := 52) rfl ?_
      refine j_iload_n hC 1 dX8_rankNow_52 (pc' := 53) rfl rfl ?_
      obtain ⟨h9, hf⟩ := hf
      refine lM_g hC (j := (Int32.toNatClampNeg a1)) h9 rfl dX8_rankNow_53 (pc' := 54) rfl ?_
      refine j_lconst hC (v := 0) dX8_rankNow_54 (pc' := 55) rfl (by decide) ?_
      refine j_lcmp hC dX8_rankNow_55 (pc' := 56) rfl ?_
      refine j_if_eq hC (tgt := 61) dX8_rankNow_56 (pc' := 59) rfl (by decide) (fun c_ => ?_) (fun c_ => ?_)
      · replace hf := hf.1 ((lgc_eq _ _).mp c_)
        obtain ⟨x10, ex10⟩ : ∃ y : Int32, y = a1 + (1 : Int32) := ⟨_, rfl⟩
        replace hf := hf x10 ex10
        refine j_iinc hC (v := x10) (q := 1) (lv' := [(1, .int x10), (0, .ref (q 0))]) dX8_rankNow_61 (pc' := 64) rfl rfl (by rw [ex10]; rfl) (by decide) rfl ?_
        refine j_goto hC (tgt := 42) dX8_rankNow_64 (by decide) ?_
        refine j_lv [1, 0] rfl ?_
        exact ih x10 σ hf
      · replace hf := hf.2 (fun z => c_ ((lgc_eq _ _).mpr z))
        refine j_iconst hC (v := 1) dX8_rankNow_59 (pc' := 60) rfl (by decide) ?_
        exact j_iret hC dX8_rankNow_60 hf
set_option maxHeartbeats 4000000 in
set_option maxRecDepth 100000 in
theorem lk_X8_rankNow {l : Launch} {D : va_G} {q : Nat → Nat} {ca : Nat → ClassId} (hE : qok 19 q) (σ : St) (Q : Int32 → St → Prop) (hf : f_X8_rankNow σ Q) : Mi l yX8_rankNow cX8_rankNow 2 (some .int) { frames := 2, cells := 0, slots := 0, locals := 57 } D (tysM ca) ZM (wM q ca) (AM q) [.ref (q 0)] σ Q := by
  refine j_start (own := RX8) (lv := [(0, .ref (q 0))]) [.ref (q 0)] (by decide +kernel) rfl (wM_D hE σ) (Nat.le_of_ble_eq_true rfl) rfl (fun p e s m args below meth c hC => ?_)
  unfold f_X8_rankNow at hf
  refine j_aload_n hC 0 dX8_rankNow_0 (pc' := 1) rfl rfl ?_
  refine jcV_l hC (eM hE) (As := []) (obM_X8) (rfl) (lk_X8_weightNow hE  σ _ hf) wm_726 wm_727 wm_913 wm_8 wm_728 dy_X8_weightNow ⟨rfl, rfl⟩ ⟨Nat.le_of_ble_eq_true rfl, Nat.le_of_ble_eq_true rfl⟩ ⟨Nat.le_refl _, Nat.le_refl _⟩ rfl rfl (Nat.le_of_ble_eq_true rfl) dX8_rankNow_1 (pc' := 4) rfl (fun r1 σ2 hf => ?_)
  refine j_lconst hC (v := 0) dX8_rankNow_4 (pc' := 5) rfl (by decide) ?_
  refine j_lcmp hC dX8_rankNow_5 (pc' := 6) rfl ?_
  refine j_if_eq hC (tgt := 11) dX8_rankNow_6 (pc' := 9) rfl (by decide) (fun c_ => ?_) (fun c_ => ?_)
  · replace hf := hf.1 ((lgc_eq _ _).mp c_)
    refine j_aload_n hC 0 dX8_rankNow_11 (pc' := 12) rfl rfl ?_
    refine j_iconst hC (v := 0) dX8_rankNow_12 (pc' := 13) rfl (by decide) ?_
    refine j_iconst hC (v := 1) dX8_rankNow_13 (pc' := 14) rfl (by decide) ?_
    refine jcV_i hC (eM hE) (As := [.int (0 : Int32), .int (1 : Int32)]) (obM_X8) (rfl) (lk_X8_stands hE (0 : Int32) (1 : Int32) σ2 _ hf) wm_732 wm_733 wm_914 wm_8 wm_734 dy_X8_stands ⟨rfl, rfl⟩ ⟨Nat.le_of_ble_eq_true rfl, Nat.le_of_ble_eq_true rfl⟩ ⟨Nat.le_refl _, Nat.le_refl _⟩ rfl rfl (Nat.le_of_ble_eq_true rfl) dX8_rankNow_14 (pc' := 17) rfl (fun r3 σ4 hf => ?_)
    refine j_if_ne hC (tgt := 38) dX8_rankNow_17 (pc' := 20) rfl (by decide) (fun c_ => ?_) (fun c_ => ?_)
    · replace hf := hf.1 c_
      refine j_iconst hC (v := 2) dX8_rankNow_38 (pc' := 39) rfl (by decide) ?_
      exact j_iret hC dX8_rankNow_39 hf
    · replace hf := hf.2 c_
      refine j_aload_n hC 0 dX8_rankNow_20 (pc' := 21) rfl rfl ?_
      refine j_iconst hC (v := 0) dX8_rankNow_21 (pc' := 22) rfl (by decide) ?_
      refine j_iconst hC (v := 2) dX8_rankNow_22 (pc' := 23) rfl (by decide) ?_
      refine jcV_i hC (eM hE) (As := [.int (0 : Int32), .int (2 : Int32)]) (obM_X8) (rfl) (lk_X8_stands hE (0 : Int32) (2 : Int32) σ4 _ hf) wm_732 wm_733 wm_914 wm_8 wm_734 dy_X8_stands ⟨rfl, rfl⟩ ⟨Nat.le_of_ble_eq_true rfl, Nat.le_of_ble_eq_true rfl⟩ ⟨Nat.le_refl _, Nat.le_refl _⟩ rfl rfl (Nat.le_of_ble_eq_true rfl) dX8_rankNow_23 (pc' := 26) rfl (fun r5 σ6 hf => ?_)
      refine j_if_ne hC (tgt := 38) dX8_rankNow_26 (pc' := 29) rfl (by decide) (fun c_ => ?_) (fun c_ => ?_)
      · replace hf := hf.1 c_
        refine j_iconst hC (v := 2) dX8_rankNow_38 (pc' := 39) rfl (by decide) ?_
        exact j_iret hC dX8_rankNow_39 hf
      · replace hf := hf.2 c_
        refine j_aload_n hC 0 dX8_rankNow_29 (pc' := 30) rfl rfl ?_
        refine j_iconst hC (v := 1) dX8_rankNow_30 (pc' := 31) rfl (by decide) ?_
        refine j_iconst hC (v := 2) dX8_rankNow_31 (pc' := 32) rfl (by decide) ?_
        refine jcV_i hC (eM hE) (As := [.int (1 : Int32), .int (2 : Int32)]) (obM_X8) (rfl) (lk_X8_stands hE (1 : Int32) (2 : Int32) σ6 _ hf) wm_732 wm_733 wm_914 wm_8 wm_734 dy_X8_stands ⟨rfl, rfl⟩ ⟨Nat.le_of_ble_eq_true rfl, Nat.le_of_ble_eq_true rfl⟩ ⟨Nat.le_refl _, Nat.le_refl _⟩ rfl rfl (Nat.le_of_ble_eq_true rfl) dX8_rankNow_32 (pc' := 35) rfl (fun r7 σ8 hf => ?_)
        refine j_if_eq hC (tgt := 40) dX8_rankNow_35 (pc' := 38) rfl (by decide) (fun c_ => ?_) (fun c_ => ?_)
        · replace hf := hf.1 c_
          refine j_iconst hC (v := 0) dX8_rankNow_40 (pc' := 41) rfl (by decide) ?_
          refine j_istore_n hC (lv' := [(1, .int (0 : Int32)), (0, .ref (q 0))]) dX8_rankNow_41 (pc' := 42) rfl rfl (by decide) rfl ?_
          obtain ⟨n11, hf⟩ := hf
          refine j_lv [1, 0] rfl ?_
          exact lb_X8_rankNow_b42 hE hC Q n11 (0 : Int32) σ8 hf
        · replace hf := hf.2 c_
          refine j_iconst hC (v := 2) dX8_rankNow_38 (pc' := 39) rfl (by decide) ?_
          exact j_iret hC dX8_rankNow_39 hf
  · replace hf := hf.2 (fun z => c_ ((lgc_eq _ _).mpr z))
    refine j_iconst hC (v := 3) dX8_rankNow_9 (pc' := 10) rfl (by decide) ?_
    exact j_iret hC dX8_rankNow_10 hf
def f_X8_rank (σ : St) (Q : Int32 → St → Prop) : Prop := f_X8_findTable σ (fun σ2 => f_X8_rankNow σ2 (fun r3 σ4 => Q r3 σ4))
theorem dy_X8_rank : yX8_rank.cls = yX8_rank.cls ∧ yX8_rank.cls ≠ "java/lang/invoke/MethodHandle" ∧ yX8_rank.cls ≠ "java/lang/invoke/VarHandle" ∧ (parseMethodDescriptor yX8_rank.desc).map (fun d => d.parameters.length) = some 0 := by decide +kernel
set_option maxHeartbeats 4000000 in
set_option maxRecDepth 100000 in
theorem lk_X8_rank {l : Launch} {D : va_G} {q : Nat → Nat} {ca : Nat → ClassId} (hE : qok 19 q) (σ : St) (Q : Int32 → St → Prop) (hf : f_X8_rank σ Q) : Mi l yX8_rank cX8_rank 1 (some .int) { frames := 4, cells := 0, slots := 0, locals := 93 } D (tysM ca) ZM (wM q ca) (AM q) [.ref (q 0)] σ Q := by
  refine j_start (own := RX8) (lv := [(0, .ref (q 0))]) [.ref (q 0)] (by decide +kernel) rfl (wM_D hE σ) (Nat.le_of_ble_eq_true rfl) rfl (fun p e s m args below meth c hC => ?_)
  unfold f_X8_rank at hf
  refine j_aload_n hC 0 dX8_rank_0 (pc' := 1) rfl rfl ?_
  refine jcV_v hC (eM hE) (As := []) (obM_X8) (rfl) (lk_X8_findTable hE  σ _ hf) wm_710 wm_711 wm_909 wm_8 wm_712 dy_X8_findTable ⟨rfl, rfl⟩ ⟨Nat.le_of_ble_eq_true rfl, Nat.le_of_ble_eq_true rfl⟩ ⟨Nat.le_refl _, Nat.le_refl _⟩ rfl rfl (Nat.le_of_ble_eq_true rfl) dX8_rank_1 (pc' := 4) rfl (fun σ2 hf => ?_)
  refine j_aload_n hC 0 dX8_rank_4 (pc' := 5) rfl rfl ?_
  refine jcV_i hC (eM hE) (As := []) (obM_X8) (rfl) (lk_X8_rankNow hE  σ2 _ hf) wm_723 wm_724 wm_912 wm_8 wm_725 dy_X8_rankNow ⟨rfl, rfl⟩ ⟨Nat.le_of_ble_eq_true rfl, Nat.le_of_ble_eq_true rfl⟩ ⟨Nat.le_refl _, Nat.le_refl _⟩ rfl rfl (Nat.le_of_ble_eq_true rfl) dX8_rank_5 (pc' := 8) rfl (fun r3 σ4 hf => ?_)
  exact j_iret hC dX8_rank_8 hf
