def f_X8_told_b118 (Q : Int32 → St → Prop) (K88 : Int32 → Int32 → St → Prop) : Nat → Int32 → Int32 → Int32 → Int32 → St → Prop
  | 0, _, _, _, _, _ => False
  | n + 1, a1, a3, a4, a5, σ => ((3 : Int32) ≤ a5 → (a4 = 0 → ∀ x8 : Int32, x8 = a3 + (1 : Int32) → K88 a1 x8 σ) ∧ ((¬ a4 = 0) → Q (1 : Int32) σ)) ∧ ((¬ (3 : Int32) ≤ a5) → (a4 = 0 → ∀ x9 : Int32, x9 = a5 + (1 : Int32) → f_X8_told_b118 Q K88  n a1 a3 (0 : Int32) x9 σ) ∧ ((¬ a4 = 0) → (a5 = a1 → ∀ x10 : Int32, x10 = a5 + (1 : Int32) → f_X8_told_b118 Q K88  n a1 a3 (1 : Int32) x10 σ) ∧ ((¬ a5 = a1) → vp_in (((3 : Int32) * a3) + a5) 9 ∧ ((¬ (σ.2 0 (Int32.toNatClampNeg (((3 : Int32) * a3) + a5))) = (0 : Int64)) → ∀ x12 : Int32, x12 = a5 + (1 : Int32) → f_X8_told_b118 Q K88  n a1 a3 (0 : Int32) x12 σ) ∧ ((σ.2 0 (Int32.toNatClampNeg (((3 : Int32) * a3) + a5))) = (0 : Int64) → ∀ x13 : Int32, x13 = a5 + (1 : Int32) → f_X8_told_b118 Q K88  n a1 a3 (1 : Int32) x13 σ))))
def f_X8_told_b88 (Q : Int32 → St → Prop) : Nat → Int32 → Int32 → St → Prop
  | 0, _, _, _ => False
  | n + 1, a1, a3, σ => ((3 : Int32) ≤ a3 → Q (0 : Int32) σ) ∧ ((¬ (3 : Int32) ≤ a3) → vp_in (((3 : Int32) * a3) + a1) 9 ∧ ((σ.2 0 (Int32.toNatClampNeg (((3 : Int32) * a3) + a1))) = (0 : Int64) → ∃ n14 : Nat, f_X8_told_b118 Q (fun a1 a3 σ => f_X8_told_b88 Q n a1 a3 σ) n14 a1 a3 (0 : Int32) (0 : Int32) σ) ∧ ((¬ (σ.2 0 (Int32.toNatClampNeg (((3 : Int32) * a3) + a1))) = (0 : Int64)) → ∃ n15 : Nat, f_X8_told_b118 Q (fun a1 a3 σ => f_X8_told_b88 Q n a1 a3 σ) n15 a1 a3 (1 : Int32) (0 : Int32) σ))
def f_X8_told_b63 (Q : Int32 → St → Prop) (a1 : Int32) (σ : St) : Prop := vp_in a1 3 ∧ ((¬ (σ.2 2 (Int32.toNatClampNeg a1)) = (0 : Int64)) → Q (0 : Int32) σ) ∧ ((σ.2 2 (Int32.toNatClampNeg a1)) = (0 : Int64) → Q (1 : Int32) σ)
def f_X8_told (a1 : Int32) (σ : St) (Q : Int32 → St → Prop) : Prop := f_X8_in (Int32.toInt64 a1) (0 : Int64) (2 : Int64) σ (fun r1 σ2 => ((¬ r1 = 0) → f_X8_findTable σ2 (fun σ4 => f_X8_rankNow σ4 (fun r5 σ6 => ((¬ r5 = (3 : Int32)) → ((¬ r5 = (2 : Int32)) → ∃ n16 : Nat, f_X8_told_b88 Q n16 a1 (0 : Int32) σ6) ∧ (r5 = (2 : Int32) → f_X8_stands (0 : Int32) (1 : Int32) σ6 (fun r17 σ18 => ((¬ r17 = 0) → f_X8_told_b63 Q a1 σ18) ∧ (r17 = 0 → f_X8_stands (0 : Int32) (2 : Int32) σ18 (fun r20 σ21 => ((¬ r20 = 0) → f_X8_told_b63 Q a1 σ21) ∧ (r20 = 0 → f_X8_stands (1 : Int32) (2 : Int32) σ21 (fun r22 σ23 => (r22 = 0 → vp_in a1 3 ∧ ((¬ (σ23.2 2 (Int32.toNatClampNeg a1)) = (0 : Int64)) → Q (0 : Int32) σ23) ∧ ((σ23.2 2 (Int32.toNatClampNeg a1)) = (0 : Int64) → Q (1 : Int32) σ23)) ∧ ((¬ r22 = 0) → f_X8_told_b63 Q a1 σ23)))))))) ∧ (r5 = (3 : Int32) → Q (1 : Int32) σ6)))) ∧ (r1 = 0 → Q (-2 : Int32) σ2))
theorem dy_X8_told : yX8_told.cls = yX8_told.cls ∧ yX8_told.cls ≠ "java/lang/invoke/MethodHandle" ∧ yX8_told.cls ≠ "java/lang/invoke/VarHandle" ∧ (parseMethodDescriptor yX8_told.desc).map (fun d => d.parameters.length) = some 1 := by decide +kernel
set_option maxHeartbeats 4000000 in
set_option maxRecDepth 100000 in
theorem lb_X8_told_b118 {l : Launch} {D : va_G} {q : Nat → Nat} {ca : Nat → ClassId} {p : Program} {e : Env} {s : State} {m : MethodId} {args : Array Value} {below : List Frame} {meth : Method} {c : Code} (hE : qok 19 q) (hC : Cx p s m args meth c cX8_told 6 RX8 (some .int) D (tysM ca) ZM) (Q : Int32 → St → Prop) (K88 : Int32 → Int32 → St → Prop) (hK88 : ∀ (a1 : Int32) (a3 : Int32) (σ : St), K88 a1 a3 σ → J p l e { frames := 4, cells := 0, slots := 0, locals := 93 } s m args below meth c (MQ below (va_Qi Q (BW D (wM q ca)) (AM q)) args s 0 0 (AM q)) D (AM q) 6 0 0 (wM q ca σ) 88 [(0, .ref (q 0)), (1, .int a1), (3, .int a3)] []) : ∀ (n : Nat) (a1 : Int32) (a3 : Int32) (a4 : Int32) (a5 : Int32) (σ : St), f_X8_told_b118 Q K88 n a1 a3 a4 a5 σ → J p l e { frames := 4, cells := 0, slots := 0, locals := 93 } s m args below meth c (MQ below (va_Qi Q (BW D (wM q ca)) (AM q)) args s 0 0 (AM q)) D (AM q) 6 0 0 (wM q ca σ) 118 [(0, .ref (q 0)), (1, .int a1), (3, .int a3), (4, .int a4), (5, .int a5)] [] := by
  intro n
  induction n with
  | zero => intro a1 a3 a4 a5 σ hf; exact hf.elim
  | succ n ih =>
    intro a1 a3 a4 a5 σ hf
    unfold f_X8_told_b118 at hf
    refine j_iload hC 4 dX8_told_118 (pc' := 120) rfl rfl ?_
    refine j_iconst hC (v := 3) dX8_told_120 (pc' := 121) rfl (by decide) ?_
    refine j_icmp_ge hC (tgt := 164) dX8_told_121 (pc' := 124) rfl (by decide) (fun c_ => ?_) (fun c_ => ?_)
    · replace hf := hf.1 c_
      refine j_iload hC 3 dX8_told_164 (pc' := 166) rfl rfl ?_
      refine j_if_eq hC (tgt := 171) dX8_told_166 (pc' := 169) rfl (by decide) (fun c_ => ?_) (fun c_ => ?_)
      · replace hf := hf.1 c_
        obtain ⟨x8, ex8⟩ : ∃ y : Int32, y = a3 + (1 : Int32) := ⟨_, rfl⟩
        replace hf := hf x8 ex8
        refine j_iinc hC (v := x8) (q := 2) (lv' := [(3, .int x8), (0, .ref (q 0)), (1, .int a1), (4, .int a4), (5, .int a5)]) dX8_told_171 (pc' := 174) rfl rfl (by rw [ex8]; rfl) (by decide) rfl ?_
        refine j_goto hC (tgt := 88) dX8_told_174 (by decide) ?_
        refine j_lv [1, 2, 0] rfl ?_
        exact hK88 a1 x8 σ hf
      · replace hf := hf.2 c_
        refine j_iconst hC (v := 1) dX8_told_169 (pc' := 170) rfl (by decide) ?_
        exact j_iret hC dX8_told_170 hf
    · replace hf := hf.2 c_
      refine j_iload hC 3 dX8_told_124 (pc' := 126) rfl rfl ?_
      refine j_if_eq hC (tgt := 155) dX8_told_126 (pc' := 129) rfl (by decide) (fun c_ => ?_) (fun c_ => ?_)
      · replace hf := hf.1 c_
        refine j_iconst hC (v := 0) dX8_told_155 (pc' := 156) rfl (by decide) ?_
        refine j_istore hC (lv' := [(4, .int (0 : Int32)), (0, .ref (q 0)), (1, .int a1), (3, .int a3), (5, .int a5)]) dX8_told_156 (pc' := 158) rfl (by decide) rfl ?_
        obtain ⟨x9, ex9⟩ : ∃ y : Int32, y = a5 + (1 : Int32) := ⟨_, rfl⟩
        replace hf := hf x9 ex9
        refine j_iinc hC (v := x9) (q := 4) (lv' := [(5, .int x9), (4, .int (0 : Int32)), (0, .ref (q 0)), (1, .int a1), (3, .int a3)]) dX8_told_158 (pc' := 161) rfl rfl (by rw [ex9]; rfl) (by decide) rfl ?_
        refine j_goto hC (tgt := 118) dX8_told_161 (by decide) ?_
        refine j_lv [2, 3, 4, 1, 0] rfl ?_
        exact ih a1 a3 (0 : Int32) x9 σ hf
      · replace hf := hf.2 c_
        refine j_iload hC 4 dX8_told_129 (pc' := 131) rfl rfl ?_
        refine j_iload_n hC 1 dX8_told_131 (pc' := 132) rfl rfl ?_
        refine j_icmp_eq hC (tgt := 151) dX8_told_132 (pc' := 135) rfl (by decide) (fun c_ => ?_) (fun c_ => ?_)
        · replace hf := hf.1 c_
          refine j_iconst hC (v := 1) dX8_told_151 (pc' := 152) rfl (by decide) ?_
          refine j_goto hC (tgt := 156) dX8_told_152 (by decide) ?_
          refine j_istore hC (lv' := [(4, .int (1 : Int32)), (0, .ref (q 0)), (1, .int a1), (3, .int a3), (5, .int a5)]) dX8_told_156 (pc' := 158) rfl (by decide) rfl ?_
          obtain ⟨x10, ex10⟩ : ∃ y : Int32, y = a5 + (1 : Int32) := ⟨_, rfl⟩
          replace hf := hf x10 ex10
          refine j_iinc hC (v := x10) (q := 4) (lv' := [(5, .int x10), (4, .int (1 : Int32)), (0, .ref (q 0)), (1, .int a1), (3, .int a3)]) dX8_told_158 (pc' := 161) rfl rfl (by rw [ex10]; rfl) (by decide) rfl ?_
          refine j_goto hC (tgt := 118) dX8_told_161 (by decide) ?_
          refine j_lv [2, 3, 4, 1, 0] rfl ?_
          exact ih a1 a3 (1 : Int32) x10 σ hf
        · replace hf := hf.2 c_
          refine j_aload_n hC 0 dX8_told_135 (pc' := 136) rfl rfl ?_
          refine gM_g hC wm_571 dX8_told_136 (pc' := 139) rfl ?_
          refine j_iconst hC (v := 3) dX8_told_139 (pc' := 140) rfl (by decide) ?_
          refine j_iload_n hC 2 dX8_told_140 (pc' := 141) rfl rfl ?_
          refine j_imul hC dX8_told_141 (pc' := 142) rfl ?_
          refine j_iload hC 4 dX8_told_142 (pc' := 144) rfl rfl ?_
          refine j_iadd hC dX8_told_144 (pc' := 145) rfl ?_
          obtain ⟨h11, hf⟩ := hf
          refine lM_g hC (j := (Int32.toNatClampNeg (((3 : Int32) * a3) + a5))) h11 rfl dX8_told_145 (pc' := 146) rfl ?_
          refine j_lconst hC (v := 0) dX8_told_146 (pc' := 147) rfl (by decide) ?_
          refine j_lcmp hC dX8_told_147 (pc' := 148) rfl ?_
          refine j_if_ne hC (tgt := 155) dX8_told_148 (pc' := 151) rfl (by decide) (fun c_ => ?_) (fun c_ => ?_)
          · replace hf := hf.1 (fun z => c_ ((lgc_eq _ _).mpr z))
            refine j_iconst hC (v := 0) dX8_told_155 (pc' := 156) rfl (by decide) ?_
            refine j_istore hC (lv' := [(4, .int (0 : Int32)), (0, .ref (q 0)), (1, .int a1), (3, .int a3), (5, .int a5)]) dX8_told_156 (pc' := 158) rfl (by decide) rfl ?_
            obtain ⟨x12, ex12⟩ : ∃ y : Int32, y = a5 + (1 : Int32) := ⟨_, rfl⟩
            replace hf := hf x12 ex12
            refine j_iinc hC (v := x12) (q := 4) (lv' := [(5, .int x12), (4, .int (0 : Int32)), (0, .ref (q 0)), (1, .int a1), (3, .int a3)]) dX8_told_158 (pc' := 161) rfl rfl (by rw [ex12]; rfl) (by decide) rfl ?_
            refine j_goto hC (tgt := 118) dX8_told_161 (by decide) ?_
            refine j_lv [2, 3, 4, 1, 0] rfl ?_
            exact ih a1 a3 (0 : Int32) x12 σ hf
          · replace hf := hf.2 ((lgc_eq _ _).mp c_)
            refine j_iconst hC (v := 1) dX8_told_151 (pc' := 152) rfl (by decide) ?_
            refine j_goto hC (tgt := 156) dX8_told_152 (by decide) ?_
            refine j_istore hC (lv' := [(4, .int (1 : Int32)), (0, .ref (q 0)), (1, .int a1), (3, .int a3), (5, .int a5)]) dX8_told_156 (pc' := 158) rfl (by decide) rfl ?_
            obtain ⟨x13, ex13⟩ : ∃ y : Int32, y = a5 + (1 : Int32) := ⟨_, rfl⟩
            replace hf := hf x13 ex13
            refine j_iinc hC (v := x13) (q := 4) (lv' := [(5, .int x13), (4, .int (1 : Int32)), (0, .ref (q 0)), (1, .int a1), (3, .int a3)]) dX8_told_158 (pc' := 161) rfl rfl (by rw [ex13]; rfl) (by decide) rfl ?_
            refine j_goto hC (tgt := 118) dX8_told_161 (by decide) ?_
            refine j_lv [2, 3, 4, 1, 0] rfl ?_
            exact ih a1 a3 (1 : Int32) x13 σ hf
set_option maxHeartbeats 4000000 in
set_option maxRecDepth 100000 in
theorem lb_X8_told_b88 {l : Launch} {D : va_G} {q : Nat → Nat} {ca : Nat → ClassId} {p : Program} {e : Env} {s : State} {m : MethodId} {args : Array Value} {below : List Frame} {meth : Method} {c : Code} (hE : qok 19 q) (hC : Cx p s m args meth c cX8_told 6 RX8 (some .int) D (tysM ca) ZM) (Q : Int32 → St → Prop) : ∀ (n : Nat) (a1 : Int32) (a3 : Int32) (σ : St), f_X8_told_b88 Q n a1 a3 σ → J p l e { frames := 4, cells := 0, slots := 0, locals := 93 } s m args below meth c (MQ below (va_Qi Q (BW D (wM q ca)) (AM q)) args s 0 0 (AM q)) D (AM q) 6 0 0 (wM q ca σ) 88 [(0, .ref (q 0)), (1, .int a1), (3, .int a3)] [] := by
  intro n
  induction n with
  | zero => intro a1 a3 σ hf; exact hf.elim
  | succ n ih =>
    intro a1 a3 σ hf
    unfold f_X8_told_b88 at hf
    refine j_iload_n hC 2 dX8_told_88 (pc' := 89) rfl rfl ?_
    refine j_iconst hC (v := 3) dX8_told_89 (pc' := 90) rfl (by decide) ?_
    refine j_icmp_ge hC (tgt := 177) dX8_told_90 (pc' := 93) rfl (by decide) (fun c_ => ?_) (fun c_ => ?_)
    · replace hf := hf.1 c_
      refine j_iconst hC (v := 0) dX8_told_177 (pc' := 178) rfl (by decide) ?_
      exact j_iret hC dX8_told_178 hf
    · replace hf := hf.2 c_
      refine j_aload_n hC 0 dX8_told_93 (pc' := 94) rfl rfl ?_
      refine gM_g hC wm_571 dX8_told_94 (pc' := 97) rfl ?_
      refine j_iconst hC (v := 3) dX8_told_97 (pc' := 98) rfl (by decide) ?_
      refine j_iload_n hC 2 dX8_told_98 (pc' := 99) rfl rfl ?_
      refine j_imul hC dX8_told_99 (pc' := 100) rfl ?_
      refine j_iload_n hC 1 dX8_told_100 (pc' := 101) rfl rfl ?_
      refine j_iadd hC dX8_told_101 (pc' := 102) rfl ?_
      obtain ⟨h7, hf⟩ := hf
      refine lM_g hC (j := (Int32.toNatClampNeg (((3 : Int32) * a3) + a1))) h7 rfl dX8_told_102 (pc' := 103) rfl ?_
      refine j_lconst hC (v := 0) dX8_told_103 (pc' := 104) rfl (by decide) ?_
      refine j_lcmp hC dX8_told_104 (pc' := 105) rfl ?_
      refine j_if_eq hC (tgt := 112) dX8_told_105 (pc' := 108) rfl (by decide) (fun c_ => ?_) (fun c_ => ?_)
      · replace hf := hf.1 ((lgc_eq _ _).mp c_)
        refine j_iconst hC (v := 0) dX8_told_112 (pc' := 113) rfl (by decide) ?_
        refine j_istore hC (lv' := [(4, .int (0 : Int32)), (0, .ref (q 0)), (1, .int a1), (3, .int a3)]) dX8_told_113 (pc' := 115) rfl (by decide) rfl ?_
        refine j_iconst hC (v := 0) dX8_told_115 (pc' := 116) rfl (by decide) ?_
        refine j_istore hC (lv' := [(5, .int (0 : Int32)), (4, .int (0 : Int32)), (0, .ref (q 0)), (1, .int a1), (3, .int a3)]) dX8_told_116 (pc' := 118) rfl (by decide) rfl ?_
        obtain ⟨n14, hf⟩ := hf
        refine j_lv [2, 3, 4, 1, 0] rfl ?_
        exact lb_X8_told_b118 hE hC Q _ ih n14 a1 a3 (0 : Int32) (0 : Int32) σ hf
      · replace hf := hf.2 (fun z => c_ ((lgc_eq _ _).mpr z))
        refine j_iconst hC (v := 1) dX8_told_108 (pc' := 109) rfl (by decide) ?_
        refine j_goto hC (tgt := 113) dX8_told_109 (by decide) ?_
        refine j_istore hC (lv' := [(4, .int (1 : Int32)), (0, .ref (q 0)), (1, .int a1), (3, .int a3)]) dX8_told_113 (pc' := 115) rfl (by decide) rfl ?_
        refine j_iconst hC (v := 0) dX8_told_115 (pc' := 116) rfl (by decide) ?_
        refine j_istore hC (lv' := [(5, .int (0 : Int32)), (4, .int (1 : Int32)), (0, .ref (q 0)), (1, .int a1), (3, .int a3)]) dX8_told_116 (pc' := 118) rfl (by decide) rfl ?_
        obtain ⟨n15, hf⟩ := hf
        refine j_lv [2, 3, 4, 1, 0] rfl ?_
        exact lb_X8_told_b118 hE hC Q _ ih n15 a1 a3 (1 : Int32) (0 : Int32) σ hf
set_option maxHeartbeats 4000000 in
set_option maxRecDepth 100000 in
theorem lb_X8_told_b63 {l : Launch} {D : va_G} {q : Nat → Nat} {ca : Nat → ClassId} {p : Program} {e : Env} {s : State} {m : MethodId} {args : Array Value} {below : List Frame} {meth : Method} {c : Code} (hE : qok 19 q) (hC : Cx p s m args meth c cX8_told 6 RX8 (some .int) D (tysM ca) ZM) (Q : Int32 → St → Prop) (a1 : Int32) (σ : St) (hf : f_X8_told_b63 Q a1 σ) : J p l e { frames := 4, cells := 0, slots := 0, locals := 93 } s m args below meth c (MQ below (va_Qi Q (BW D (wM q ca)) (AM q)) args s 0 0 (AM q)) D (AM q) 6 0 0 (wM q ca σ) 63 [(0, .ref (q 0)), (1, .int a1)] [] := by
  unfold f_X8_told_b63 at hf
  refine j_iconst hC (v := 1) dX8_told_63 (pc' := 64) rfl (by decide) ?_
  refine j_goto hC (tgt := 68) dX8_told_64 (by decide) ?_
  refine j_istore_n hC (lv' := [(3, .int (1 : Int32)), (0, .ref (q 0)), (1, .int a1)]) dX8_told_68 (pc' := 69) rfl rfl (by decide) rfl ?_
  refine j_aload_n hC 1 dX8_told_69 (pc' := 70) rfl rfl ?_
  refine gM_upright hC wm_573 dX8_told_70 (pc' := 73) rfl ?_
  refine j_iload_n hC 2 dX8_told_73 (pc' := 74) rfl rfl ?_
  obtain ⟨h19, hf⟩ := hf
  refine lM_upright hC (j := (Int32.toNatClampNeg a1)) h19 rfl dX8_told_74 (pc' := 75) rfl ?_
  refine j_lconst hC (v := 0) dX8_told_75 (pc' := 76) rfl (by decide) ?_
  refine j_lcmp hC dX8_told_76 (pc' := 77) rfl ?_
  refine j_if_ne hC (tgt := 84) dX8_told_77 (pc' := 80) rfl (by decide) (fun c_ => ?_) (fun c_ => ?_)
  · replace hf := hf.1 (fun z => c_ ((lgc_eq _ _).mpr z))
    refine j_iconst hC (v := 0) dX8_told_84 (pc' := 85) rfl (by decide) ?_
    exact j_iret hC dX8_told_85 hf
  · replace hf := hf.2 ((lgc_eq _ _).mp c_)
    refine j_iconst hC (v := 1) dX8_told_80 (pc' := 81) rfl (by decide) ?_
    refine j_goto hC (tgt := 85) dX8_told_81 (by decide) ?_
    exact j_iret hC dX8_told_85 hf
set_option maxHeartbeats 4000000 in
set_option maxRecDepth 100000 in
theorem lk_X8_told {l : Launch} {D : va_G} {q : Nat → Nat} {ca : Nat → ClassId} (hE : qok 19 q) (a1 : Int32) (σ : St) (Q : Int32 → St → Prop) (hf : f_X8_told a1 σ Q) : Mi l yX8_told cX8_told 6 (some .int) { frames := 4, cells := 0, slots := 0, locals := 93 } D (tysM ca) ZM (wM q ca) (AM q) [.ref (q 0), .int a1] σ Q := by
  refine j_start (own := RX8) (lv := [(0, .ref (q 0)), (1, .int a1)]) [.ref (q 0), .int a1] (by decide +kernel) rfl (wM_D hE σ) (Nat.le_of_ble_eq_true rfl) rfl (fun p e s m args below meth c hC => ?_)
  unfold f_X8_told at hf
  refine j_iload_n hC 1 dX8_told_0 (pc' := 1) rfl rfl ?_
  refine j_i2l hC dX8_told_1 (pc' := 2) rfl ?_
  refine j_lconst hC (v := 0) dX8_told_2 (pc' := 3) rfl (by decide) ?_
  refine j_ldc2 hC (v := 2) dX8_told_3 (pc' := 6) rfl wm_655 ?_
  refine jcS_i hC (eM hE) (As := [.long (Int32.toInt64 a1), .long (0 : Int64), .long (2 : Int64)]) (lk_X8_in hE (Int32.toInt64 a1) (0 : Int64) (2 : Int64) σ _ hf) wm_642 wm_643 wm_8 wm_644 dy_X8_in ⟨rfl, rfl⟩ ⟨Nat.le_of_ble_eq_true rfl, Nat.le_of_ble_eq_true rfl⟩ ⟨Nat.le_refl _, Nat.le_refl _⟩ rfl rfl (Nat.le_of_ble_eq_true rfl) dX8_told_6 (pc' := 9) rfl (fun r1 σ2 hf => ?_)
  refine j_if_ne hC (tgt := 15) dX8_told_9 (pc' := 12) rfl (by decide) (fun c_ => ?_) (fun c_ => ?_)
  · replace hf := hf.1 c_
    refine j_aload_n hC 0 dX8_told_15 (pc' := 16) rfl rfl ?_
    refine jcV_v hC (eM hE) (As := []) (obM_X8) (rfl) (lk_X8_findTable hE  σ2 _ hf) wm_710 wm_711 wm_909 wm_8 wm_712 dy_X8_findTable ⟨rfl, rfl⟩ ⟨Nat.le_of_ble_eq_true rfl, Nat.le_of_ble_eq_true rfl⟩ ⟨Nat.le_refl _, Nat.le_refl _⟩ rfl rfl (Nat.le_of_ble_eq_true rfl) dX8_told_16 (pc' := 19) rfl (fun σ4 hf => ?_)
    refine j_aload_n hC 0 dX8_told_19 (pc' := 20) rfl rfl ?_
    refine jcV_i hC (eM hE) (As := []) (obM_X8) (rfl) (lk_X8_rankNow hE  σ4 _ hf) wm_723 wm_724 wm_912 wm_8 wm_725 dy_X8_rankNow ⟨rfl, rfl⟩ ⟨Nat.le_of_ble_eq_true rfl, Nat.le_of_ble_eq_true rfl⟩ ⟨Nat.le_refl _, Nat.le_refl _⟩ rfl rfl (Nat.le_of_ble_eq_true rfl) dX8_told_20 (pc' := 23) rfl (fun r5 σ6 hf => ?_)
    refine j_istore_n hC (lv' := [(2, .int r5), (0, .ref (q 0)), (1, .int a1)]) dX8_told_23 (pc' := 24) rfl rfl (by decide) rfl ?_
    refine j_iload_n hC 0 dX8_told_24 (pc' := 25) rfl rfl ?_
    refine j_iconst hC (v := 3) dX8_told_25 (pc' := 26) rfl (by decide) ?_
    refine j_icmp_ne hC (tgt := 31) dX8_told_26 (pc' := 29) rfl (by decide) (fun c_ => ?_) (fun c_ => ?_)
    · replace hf := hf.1 c_
      refine j_iload_n hC 0 dX8_told_31 (pc' := 32) rfl rfl ?_
      refine j_iconst hC (v := 2) dX8_told_32 (pc' := 33) rfl (by decide) ?_
      refine j_icmp_ne hC (tgt := 86) dX8_told_33 (pc' := 36) rfl (by decide) (fun c_ => ?_) (fun c_ => ?_)
      · replace hf := hf.1 c_
        refine j_iconst hC (v := 0) dX8_told_86 (pc' := 87) rfl (by decide) ?_
        refine j_istore_n hC (lv' := [(3, .int (0 : Int32)), (2, .int r5), (0, .ref (q 0)), (1, .int a1)]) dX8_told_87 (pc' := 88) rfl rfl (by decide) rfl ?_
        obtain ⟨n16, hf⟩ := hf
        refine j_lv [2, 3, 0] rfl ?_
        exact lb_X8_told_b88 hE hC Q n16 a1 (0 : Int32) σ6 hf
      · replace hf := hf.2 c_
        refine j_aload_n hC 1 dX8_told_36 (pc' := 37) rfl rfl ?_
        refine j_iconst hC (v := 0) dX8_told_37 (pc' := 38) rfl (by decide) ?_
        refine j_iconst hC (v := 1) dX8_told_38 (pc' := 39) rfl (by decide) ?_
        refine jcV_i hC (eM hE) (As := [.int (0 : Int32), .int (1 : Int32)]) (obM_X8) (rfl) (lk_X8_stands hE (0 : Int32) (1 : Int32) σ6 _ hf) wm_732 wm_733 wm_914 wm_8 wm_734 dy_X8_stands ⟨rfl, rfl⟩ ⟨Nat.le_of_ble_eq_true rfl, Nat.le_of_ble_eq_true rfl⟩ ⟨Nat.le_refl _, Nat.le_refl _⟩ rfl rfl (Nat.le_of_ble_eq_true rfl) dX8_told_39 (pc' := 42) rfl (fun r17 σ18 hf => ?_)
        refine j_if_ne hC (tgt := 63) dX8_told_42 (pc' := 45) rfl (by decide) (fun c_ => ?_) (fun c_ => ?_)
        · replace hf := hf.1 c_
          refine j_lv [1, 2] rfl ?_
          exact lb_X8_told_b63 hE hC Q a1 σ18 hf
        · replace hf := hf.2 c_
          refine j_aload_n hC 1 dX8_told_45 (pc' := 46) rfl rfl ?_
          refine j_iconst hC (v := 0) dX8_told_46 (pc' := 47) rfl (by decide) ?_
          refine j_iconst hC (v := 2) dX8_told_47 (pc' := 48) rfl (by decide) ?_
          refine jcV_i hC (eM hE) (As := [.int (0 : Int32), .int (2 : Int32)]) (obM_X8) (rfl) (lk_X8_stands hE (0 : Int32) (2 : Int32) σ18 _ hf) wm_732 wm_733 wm_914 wm_8 wm_734 dy_X8_stands ⟨rfl, rfl⟩ ⟨Nat.le_of_ble_eq_true rfl, Nat.le_of_ble_eq_true rfl⟩ ⟨Nat.le_refl _, Nat.le_refl _⟩ rfl rfl (Nat.le_of_ble_eq_true rfl) dX8_told_48 (pc' := 51) rfl (fun r20 σ21 hf => ?_)
          refine j_if_ne hC (tgt := 63) dX8_told_51 (pc' := 54) rfl (by decide) (fun c_ => ?_) (fun c_ => ?_)
          · replace hf := hf.1 c_
            refine j_lv [1, 2] rfl ?_
            exact lb_X8_told_b63 hE hC Q a1 σ21 hf
          · replace hf := hf.2 c_
            refine j_aload_n hC 1 dX8_told_54 (pc' := 55) rfl rfl ?_
            refine j_iconst hC (v := 1) dX8_told_55 (pc' := 56) rfl (by decide) ?_
            refine j_iconst hC (v := 2) dX8_told_56 (pc' := 57) rfl (by decide) ?_
            refine jcV_i hC (eM hE) (As := [.int (1 : Int32), .int (2 : Int32)]) (obM_X8) (rfl) (lk_X8_stands hE (1 : Int32) (2 : Int32) σ21 _ hf) wm_732 wm_733 wm_914 wm_8 wm_734 dy_X8_stands ⟨rfl, rfl⟩ ⟨Nat.le_of_ble_eq_true rfl, Nat.le_of_ble_eq_true rfl⟩ ⟨Nat.le_refl _, Nat.le_refl _⟩ rfl rfl (Nat.le_of_ble_eq_true rfl) dX8_told_57 (pc' := 60) rfl (fun r22 σ23 hf => ?_)
            refine j_if_eq hC (tgt := 67) dX8_told_60 (pc' := 63) rfl (by decide) (fun c_ => ?_) (fun c_ => ?_)
            · replace hf := hf.1 c_
              refine j_iconst hC (v := 0) dX8_told_67 (pc' := 68) rfl (by decide) ?_
              refine j_istore_n hC (lv' := [(3, .int (0 : Int32)), (2, .int r5), (0, .ref (q 0)), (1, .int a1)]) dX8_told_68 (pc' := 69) rfl rfl (by decide) rfl ?_
              refine j_aload_n hC 2 dX8_told_69 (pc' := 70) rfl rfl ?_
              refine gM_upright hC wm_573 dX8_told_70 (pc' := 73) rfl ?_
              refine j_iload_n hC 3 dX8_told_73 (pc' := 74) rfl rfl ?_
              obtain ⟨h24, hf⟩ := hf
              refine lM_upright hC (j := (Int32.toNatClampNeg a1)) h24 rfl dX8_told_74 (pc' := 75) rfl ?_
              refine j_lconst hC (v := 0) dX8_told_75 (pc' := 76) rfl (by decide) ?_
              refine j_lcmp hC dX8_told_76 (pc' := 77) rfl ?_
              refine j_if_ne hC (tgt := 84) dX8_told_77 (pc' := 80) rfl (by decide) (fun c_ => ?_) (fun c_ => ?_)
              · replace hf := hf.1 (fun z => c_ ((lgc_eq _ _).mpr z))
                refine j_iconst hC (v := 0) dX8_told_84 (pc' := 85) rfl (by decide) ?_
                exact j_iret hC dX8_told_85 hf
              · replace hf := hf.2 ((lgc_eq _ _).mp c_)
                refine j_iconst hC (v := 1) dX8_told_80 (pc' := 81) rfl (by decide) ?_
                refine j_goto hC (tgt := 85) dX8_told_81 (by decide) ?_
                exact j_iret hC dX8_told_85 hf
            · replace hf := hf.2 c_
              refine j_lv [1, 2] rfl ?_
              exact lb_X8_told_b63 hE hC Q a1 σ23 hf
    · replace hf := hf.2 c_
      refine j_iconst hC (v := 1) dX8_told_29 (pc' := 30) rfl (by decide) ?_
      exact j_iret hC dX8_told_30 hf
  · replace hf := hf.2 c_
    refine j_bipush hC (v := -2) dX8_told_12 (pc' := 14) rfl (by decide) ?_
    exact j_iret hC dX8_told_14 hf
def f_X8_fitOf_b197 (Q : Int64 → St → Prop) (a2 : Int64) (z0 : Int64) (σ : St) : Prop := (¬ a2 = 0) ∧ ∀ x6 : Int64, x6 = z0 / a2 → ((x6 * a2) ≤ z0 → (¬ a2 = 0) ∧ Q (((6500 : Int64) * x6) + (((6500 : Int64) * (z0 - (x6 * a2))) / a2)) σ) ∧ ((¬ (x6 * a2) ≤ z0) → ∀ x8 : Int64, x8 = x6 - (1 : Int64) → (¬ a2 = 0) ∧ Q (((6500 : Int64) * x8) + (((6500 : Int64) * (z0 - (x8 * a2))) / a2)) σ)
def f_X8_fitOf (a1 : Int32) (σ : St) (Q : Int64 → St → Prop) : Prop := f_X8_weightNow σ (fun r1 σ2 => ((¬ a1 = 0) → ((¬ a1 = (1 : Int32)) → f_X8_det (σ2.2 0 0) (σ2.2 0 1) (σ2.2 1 0) (σ2.2 0 3) (σ2.2 0 4) (σ2.2 1 1) (σ2.2 0 6) (σ2.2 0 7) (σ2.2 1 2) σ2 (fun r3 σ4 => f_X8_fitOf_b197 Q r1 r3 σ4)) ∧ (a1 = (1 : Int32) → f_X8_det (σ2.2 0 0) (σ2.2 1 0) (σ2.2 0 2) (σ2.2 0 3) (σ2.2 1 1) (σ2.2 0 5) (σ2.2 0 6) (σ2.2 1 2) (σ2.2 0 8) σ2 (fun r10 σ11 => f_X8_fitOf_b197 Q r1 r10 σ11))) ∧ (a1 = 0 → f_X8_det (σ2.2 1 0) (σ2.2 0 1) (σ2.2 0 2) (σ2.2 1 1) (σ2.2 0 4) (σ2.2 0 5) (σ2.2 1 2) (σ2.2 0 7) (σ2.2 0 8) σ2 (fun r12 σ13 => f_X8_fitOf_b197 Q r1 r12 σ13)))
theorem dy_X8_fitOf : yX8_fitOf.cls = yX8_fitOf.cls ∧ yX8_fitOf.cls ≠ "java/lang/invoke/MethodHandle" ∧ yX8_fitOf.cls ≠ "java/lang/invoke/VarHandle" ∧ (parseMethodDescriptor yX8_fitOf.desc).map (fun d => d.parameters.length) = some 1 := by decide +kernel
set_option maxHeartbeats 4000000 in
set_option maxRecDepth 100000 in
theorem lb_X8_fitOf_b197 {l : Launch} {D : va_G} {q : Nat → Nat} {ca : Nat → ClassId} {p : Program} {e : Env} {s : State} {m : MethodId} {args : Array Value} {below : List Frame} {meth : Method} {c : Code} (hE : qok 19 q) (hC : Cx p s m args meth c cX8_fitOf 8 RX8 (some .long) D (tysM ca) ZM) (Q : Int64 → St → Prop) (a2 : Int64) (z0 : Int64) (σ : St) (hf : f_X8_fitOf_b197 Q a2 z0 σ) : J p l e { frames := 2, cells := 0, slots := 0, locals := 57 } s m args below meth c (MQ below (va_Ql Q (BW D (wM q ca)) (AM q)) args s 0 0 (AM q)) D (AM q) 8 0 0 (wM q ca σ) 197 [(2, .long a2)] [.long z0] := by
  unfold f_X8_fitOf_b197 at hf
  refine j_lstore hC (lv' := [(4, .long z0), (2, .long a2)]) dX8_fitOf_197 (pc' := 199) rfl (by decide) rfl ?_
  refine j_lload hC 0 dX8_fitOf_199 (pc' := 201) rfl rfl ?_
  refine j_lload_n hC 1 dX8_fitOf_201 (pc' := 202) rfl rfl ?_
  obtain ⟨h5, hf⟩ := hf
  refine j_ldiv hC dX8_fitOf_202 (pc' := 203) rfl h5 ?_
  refine j_nml (fun x6 ex6 => ?_)
  replace hf := hf x6 ex6
  refine j_lstore hC (lv' := [(6, .long x6), (4, .long z0), (2, .long a2)]) dX8_fitOf_203 (pc' := 205) rfl (by decide) rfl ?_
  refine j_lload hC 0 dX8_fitOf_205 (pc' := 207) rfl rfl ?_
  refine j_lload_n hC 2 dX8_fitOf_207 (pc' := 208) rfl rfl ?_
  refine j_lmul hC dX8_fitOf_208 (pc' := 209) rfl ?_
  refine j_lload hC 1 dX8_fitOf_209 (pc' := 211) rfl rfl ?_
  refine j_lcmp hC dX8_fitOf_211 (pc' := 212) rfl ?_
  refine j_if_le hC (tgt := 221) dX8_fitOf_212 (pc' := 215) rfl (by decide) (fun c_ => ?_) (fun c_ => ?_)
  · replace hf := hf.1 ((lgc_le _ _).mp c_)
    refine j_ldc2 hC (v := 6500) dX8_fitOf_221 (pc' := 224) rfl wm_746 ?_
    refine j_lload hC 0 dX8_fitOf_224 (pc' := 226) rfl rfl ?_
    refine j_lmul hC dX8_fitOf_226 (pc' := 227) rfl ?_
    refine j_ldc2 hC (v := 6500) dX8_fitOf_227 (pc' := 230) rfl wm_746 ?_
    refine j_lload hC 1 dX8_fitOf_230 (pc' := 232) rfl rfl ?_
    refine j_lload hC 0 dX8_fitOf_232 (pc' := 234) rfl rfl ?_
    refine j_lload_n hC 2 dX8_fitOf_234 (pc' := 235) rfl rfl ?_
    refine j_lmul hC dX8_fitOf_235 (pc' := 236) rfl ?_
    refine j_lsub hC dX8_fitOf_236 (pc' := 237) rfl ?_
    refine j_lmul hC dX8_fitOf_237 (pc' := 238) rfl ?_
    refine j_lload_n hC 2 dX8_fitOf_238 (pc' := 239) rfl rfl ?_
    obtain ⟨h7, hf⟩ := hf
    refine j_ldiv hC dX8_fitOf_239 (pc' := 240) rfl h7 ?_
    refine j_ladd hC dX8_fitOf_240 (pc' := 241) rfl ?_
    exact j_lret hC dX8_fitOf_241 hf
  · replace hf := hf.2 (fun z => c_ ((lgc_le _ _).mpr z))
    refine j_lload hC 0 dX8_fitOf_215 (pc' := 217) rfl rfl ?_
    refine j_lconst hC (v := 1) dX8_fitOf_217 (pc' := 218) rfl (by decide) ?_
    refine j_lsub hC dX8_fitOf_218 (pc' := 219) rfl ?_
    refine j_nml (fun x8 ex8 => ?_)
    replace hf := hf x8 ex8
    refine j_lstore hC (lv' := [(6, .long x8), (4, .long z0), (2, .long a2)]) dX8_fitOf_219 (pc' := 221) rfl (by decide) rfl ?_
    refine j_ldc2 hC (v := 6500) dX8_fitOf_221 (pc' := 224) rfl wm_746 ?_
    refine j_lload hC 0 dX8_fitOf_224 (pc' := 226) rfl rfl ?_
    refine j_lmul hC dX8_fitOf_226 (pc' := 227) rfl ?_
    refine j_ldc2 hC (v := 6500) dX8_fitOf_227 (pc' := 230) rfl wm_746 ?_
    refine j_lload hC 1 dX8_fitOf_230 (pc' := 232) rfl rfl ?_
    refine j_lload hC 0 dX8_fitOf_232 (pc' := 234) rfl rfl ?_
    refine j_lload_n hC 2 dX8_fitOf_234 (pc' := 235) rfl rfl ?_
    refine j_lmul hC dX8_fitOf_235 (pc' := 236) rfl ?_
    refine j_lsub hC dX8_fitOf_236 (pc' := 237) rfl ?_
    refine j_lmul hC dX8_fitOf_237 (pc' := 238) rfl ?_
    refine j_lload_n hC 2 dX8_fitOf_238 (pc' := 239) rfl rfl ?_
    obtain ⟨h9, hf⟩ := hf
    refine j_ldiv hC dX8_fitOf_239 (pc' := 240) rfl h9 ?_
    refine j_ladd hC dX8_fitOf_240 (pc' := 241) rfl ?_
    exact j_lret hC dX8_fitOf_241 hf
set_option maxHeartbeats 4000000 in
set_option maxRecDepth 100000 in
theorem lk_X8_fitOf {l : Launch} {D : va_G} {q : Nat → Nat} {ca : Nat → ClassId} (hE : qok 19 q) (a1 : Int32) (σ : St) (Q : Int64 → St → Prop) (hf : f_X8_fitOf a1 σ Q) : Ml l yX8_fitOf cX8_fitOf 8 (some .long) { frames := 2, cells := 0, slots := 0, locals := 57 } D (tysM ca) ZM (wM q ca) (AM q) [.ref (q 0), .int a1] σ Q := by
  refine j_start (own := RX8) (lv := [(0, .ref (q 0)), (1, .int a1)]) [.ref (q 0), .int a1] (by decide +kernel) rfl (wM_D hE σ) (Nat.le_of_ble_eq_true rfl) rfl (fun p e s m args below meth c hC => ?_)
  unfold f_X8_fitOf at hf
  refine j_aload_n hC 0 dX8_fitOf_0 (pc' := 1) rfl rfl ?_
  refine jcV_l hC (eM hE) (As := []) (obM_X8) (rfl) (lk_X8_weightNow hE  σ _ hf) wm_726 wm_727 wm_913 wm_8 wm_728 dy_X8_weightNow ⟨rfl, rfl⟩ ⟨Nat.le_of_ble_eq_true rfl, Nat.le_of_ble_eq_true rfl⟩ ⟨Nat.le_refl _, Nat.le_refl _⟩ rfl rfl (Nat.le_of_ble_eq_true rfl) dX8_fitOf_1 (pc' := 4) rfl (fun r1 σ2 hf => ?_)
  refine j_lstore_n hC (lv' := [(2, .long r1), (0, .ref (q 0)), (1, .int a1)]) dX8_fitOf_4 (pc' := 5) rfl rfl (by decide) rfl ?_
  refine j_iload_n hC 2 dX8_fitOf_5 (pc' := 6) rfl rfl ?_
  refine j_if_ne hC (tgt := 71) dX8_fitOf_6 (pc' := 9) rfl (by decide) (fun c_ => ?_) (fun c_ => ?_)
  · replace hf := hf.1 c_
    refine j_iload_n hC 2 dX8_fitOf_71 (pc' := 72) rfl rfl ?_
    refine j_iconst hC (v := 1) dX8_fitOf_72 (pc' := 73) rfl (by decide) ?_
    refine j_icmp_ne hC (tgt := 138) dX8_fitOf_73 (pc' := 76) rfl (by decide) (fun c_ => ?_) (fun c_ => ?_)
    · replace hf := hf.1 c_
      refine j_aload_n hC 1 dX8_fitOf_138 (pc' := 139) rfl rfl ?_
      refine gM_g hC wm_571 dX8_fitOf_139 (pc' := 142) rfl ?_
      refine j_iconst hC (v := 0) dX8_fitOf_142 (pc' := 143) rfl (by decide) ?_
      refine lM_g hC (j := 0) (show ¬ ((0 : Int32) < 0 ∨ 9 ≤ (0 : Int32).toNatClampNeg) from by decide) (by decide) dX8_fitOf_143 (pc' := 144) rfl ?_
      refine j_aload_n hC 1 dX8_fitOf_144 (pc' := 145) rfl rfl ?_
      refine gM_g hC wm_571 dX8_fitOf_145 (pc' := 148) rfl ?_
      refine j_iconst hC (v := 1) dX8_fitOf_148 (pc' := 149) rfl (by decide) ?_
      refine lM_g hC (j := 1) (show ¬ ((1 : Int32) < 0 ∨ 9 ≤ (1 : Int32).toNatClampNeg) from by decide) (by decide) dX8_fitOf_149 (pc' := 150) rfl ?_
      refine j_aload_n hC 1 dX8_fitOf_150 (pc' := 151) rfl rfl ?_
      refine gM_right hC wm_572 dX8_fitOf_151 (pc' := 154) rfl ?_
      refine j_iconst hC (v := 0) dX8_fitOf_154 (pc' := 155) rfl (by decide) ?_
      refine lM_right hC (j := 0) (show ¬ ((0 : Int32) < 0 ∨ 3 ≤ (0 : Int32).toNatClampNeg) from by decide) (by decide) dX8_fitOf_155 (pc' := 156) rfl ?_
      refine j_aload_n hC 1 dX8_fitOf_156 (pc' := 157) rfl rfl ?_
      refine gM_g hC wm_571 dX8_fitOf_157 (pc' := 160) rfl ?_
      refine j_iconst hC (v := 3) dX8_fitOf_160 (pc' := 161) rfl (by decide) ?_
      refine lM_g hC (j := 3) (show ¬ ((3 : Int32) < 0 ∨ 9 ≤ (3 : Int32).toNatClampNeg) from by decide) (by decide) dX8_fitOf_161 (pc' := 162) rfl ?_
      refine j_aload_n hC 1 dX8_fitOf_162 (pc' := 163) rfl rfl ?_
      refine gM_g hC wm_571 dX8_fitOf_163 (pc' := 166) rfl ?_
      refine j_iconst hC (v := 4) dX8_fitOf_166 (pc' := 167) rfl (by decide) ?_
      refine lM_g hC (j := 4) (show ¬ ((4 : Int32) < 0 ∨ 9 ≤ (4 : Int32).toNatClampNeg) from by decide) (by decide) dX8_fitOf_167 (pc' := 168) rfl ?_
      refine j_aload_n hC 1 dX8_fitOf_168 (pc' := 169) rfl rfl ?_
      refine gM_right hC wm_572 dX8_fitOf_169 (pc' := 172) rfl ?_
      refine j_iconst hC (v := 1) dX8_fitOf_172 (pc' := 173) rfl (by decide) ?_
      refine lM_right hC (j := 1) (show ¬ ((1 : Int32) < 0 ∨ 3 ≤ (1 : Int32).toNatClampNeg) from by decide) (by decide) dX8_fitOf_173 (pc' := 174) rfl ?_
      refine j_aload_n hC 1 dX8_fitOf_174 (pc' := 175) rfl rfl ?_
      refine gM_g hC wm_571 dX8_fitOf_175 (pc' := 178) rfl ?_
      refine j_bipush hC (v := 6) dX8_fitOf_178 (pc' := 180) rfl (by decide) ?_
      refine lM_g hC (j := 6) (show ¬ ((6 : Int32) < 0 ∨ 9 ≤ (6 : Int32).toNatClampNeg) from by decide) (by decide) dX8_fitOf_180 (pc' := 181) rfl ?_
      refine j_aload_n hC 1 dX8_fitOf_181 (pc' := 182) rfl rfl ?_
      refine gM_g hC wm_571 dX8_fitOf_182 (pc' := 185) rfl ?_
      refine j_bipush hC (v := 7) dX8_fitOf_185 (pc' := 187) rfl (by decide) ?_
      refine lM_g hC (j := 7) (show ¬ ((7 : Int32) < 0 ∨ 9 ≤ (7 : Int32).toNatClampNeg) from by decide) (by decide) dX8_fitOf_187 (pc' := 188) rfl ?_
      refine j_aload_n hC 1 dX8_fitOf_188 (pc' := 189) rfl rfl ?_
      refine gM_right hC wm_572 dX8_fitOf_189 (pc' := 192) rfl ?_
      refine j_iconst hC (v := 2) dX8_fitOf_192 (pc' := 193) rfl (by decide) ?_
      refine lM_right hC (j := 2) (show ¬ ((2 : Int32) < 0 ∨ 3 ≤ (2 : Int32).toNatClampNeg) from by decide) (by decide) dX8_fitOf_193 (pc' := 194) rfl ?_
      refine jcS_l hC (eM hE) (As := [.long (σ2.2 0 0), .long (σ2.2 0 1), .long (σ2.2 1 0), .long (σ2.2 0 3), .long (σ2.2 0 4), .long (σ2.2 1 1), .long (σ2.2 0 6), .long (σ2.2 0 7), .long (σ2.2 1 2)]) (lk_X8_det hE (σ2.2 0 0) (σ2.2 0 1) (σ2.2 1 0) (σ2.2 0 3) (σ2.2 0 4) (σ2.2 1 1) (σ2.2 0 6) (σ2.2 0 7) (σ2.2 1 2) σ2 _ hf) wm_729 wm_730 wm_8 wm_731 dy_X8_det ⟨rfl, rfl⟩ ⟨Nat.le_of_ble_eq_true rfl, Nat.le_of_ble_eq_true rfl⟩ ⟨Nat.le_refl _, Nat.le_refl _⟩ rfl rfl (Nat.le_of_ble_eq_true rfl) dX8_fitOf_194 (pc' := 197) rfl (fun r3 σ4 hf => ?_)
      refine j_lv [0] rfl ?_
      exact lb_X8_fitOf_b197 hE hC Q r1 r3 σ4 hf
    · replace hf := hf.2 c_
      refine j_aload_n hC 1 dX8_fitOf_76 (pc' := 77) rfl rfl ?_
      refine gM_g hC wm_571 dX8_fitOf_77 (pc' := 80) rfl ?_
      refine j_iconst hC (v := 0) dX8_fitOf_80 (pc' := 81) rfl (by decide) ?_
      refine lM_g hC (j := 0) (show ¬ ((0 : Int32) < 0 ∨ 9 ≤ (0 : Int32).toNatClampNeg) from by decide) (by decide) dX8_fitOf_81 (pc' := 82) rfl ?_
      refine j_aload_n hC 1 dX8_fitOf_82 (pc' := 83) rfl rfl ?_
      refine gM_right hC wm_572 dX8_fitOf_83 (pc' := 86) rfl ?_
      refine j_iconst hC (v := 0) dX8_fitOf_86 (pc' := 87) rfl (by decide) ?_
      refine lM_right hC (j := 0) (show ¬ ((0 : Int32) < 0 ∨ 3 ≤ (0 : Int32).toNatClampNeg) from by decide) (by decide) dX8_fitOf_87 (pc' := 88) rfl ?_
      refine j_aload_n hC 1 dX8_fitOf_88 (pc' := 89) rfl rfl ?_
      refine gM_g hC wm_571 dX8_fitOf_89 (pc' := 92) rfl ?_
      refine j_iconst hC (v := 2) dX8_fitOf_92 (pc' := 93) rfl (by decide) ?_
      refine lM_g hC (j := 2) (show ¬ ((2 : Int32) < 0 ∨ 9 ≤ (2 : Int32).toNatClampNeg) from by decide) (by decide) dX8_fitOf_93 (pc' := 94) rfl ?_
      refine j_aload_n hC 1 dX8_fitOf_94 (pc' := 95) rfl rfl ?_
      refine gM_g hC wm_571 dX8_fitOf_95 (pc' := 98) rfl ?_
      refine j_iconst hC (v := 3) dX8_fitOf_98 (pc' := 99) rfl (by decide) ?_
      refine lM_g hC (j := 3) (show ¬ ((3 : Int32) < 0 ∨ 9 ≤ (3 : Int32).toNatClampNeg) from by decide) (by decide) dX8_fitOf_99 (pc' := 100) rfl ?_
      refine j_aload_n hC 1 dX8_fitOf_100 (pc' := 101) rfl rfl ?_
      refine gM_right hC wm_572 dX8_fitOf_101 (pc' := 104) rfl ?_
      refine j_iconst hC (v := 1) dX8_fitOf_104 (pc' := 105) rfl (by decide) ?_
      refine lM_right hC (j := 1) (show ¬ ((1 : Int32) < 0 ∨ 3 ≤ (1 : Int32).toNatClampNeg) from by decide) (by decide) dX8_fitOf_105 (pc' := 106) rfl ?_
      refine j_aload_n hC 1 dX8_fitOf_106 (pc' := 107) rfl rfl ?_
      refine gM_g hC wm_571 dX8_fitOf_107 (pc' := 110) rfl ?_
      refine j_iconst hC (v := 5) dX8_fitOf_110 (pc' := 111) rfl (by decide) ?_
      refine lM_g hC (j := 5) (show ¬ ((5 : Int32) < 0 ∨ 9 ≤ (5 : Int32).toNatClampNeg) from by decide) (by decide) dX8_fitOf_111 (pc' := 112) rfl ?_
      refine j_aload_n hC 1 dX8_fitOf_112 (pc' := 113) rfl rfl ?_
      refine gM_g hC wm_571 dX8_fitOf_113 (pc' := 116) rfl ?_
      refine j_bipush hC (v := 6) dX8_fitOf_116 (pc' := 118) rfl (by decide) ?_
      refine lM_g hC (j := 6) (show ¬ ((6 : Int32) < 0 ∨ 9 ≤ (6 : Int32).toNatClampNeg) from by decide) (by decide) dX8_fitOf_118 (pc' := 119) rfl ?_
      refine j_aload_n hC 1 dX8_fitOf_119 (pc' := 120) rfl rfl ?_
      refine gM_right hC wm_572 dX8_fitOf_120 (pc' := 123) rfl ?_
      refine j_iconst hC (v := 2) dX8_fitOf_123 (pc' := 124) rfl (by decide) ?_
      refine lM_right hC (j := 2) (show ¬ ((2 : Int32) < 0 ∨ 3 ≤ (2 : Int32).toNatClampNeg) from by decide) (by decide) dX8_fitOf_124 (pc' := 125) rfl ?_
      refine j_aload_n hC 1 dX8_fitOf_125 (pc' := 126) rfl rfl ?_
      refine gM_g hC wm_571 dX8_fitOf_126 (pc' := 129) rfl ?_
      refine j_bipush hC (v := 8) dX8_fitOf_129 (pc' := 131) rfl (by decide) ?_
      refine lM_g hC (j := 8) (show ¬ ((8 : Int32) < 0 ∨ 9 ≤ (8 : Int32).toNatClampNeg) from by decide) (by decide) dX8_fitOf_131 (pc' := 132) rfl ?_
      refine jcS_l hC (eM hE) (As := [.long (σ2.2 0 0), .long (σ2.2 1 0), .long (σ2.2 0 2), .long (σ2.2 0 3), .long (σ2.2 1 1), .long (σ2.2 0 5), .long (σ2.2 0 6), .long (σ2.2 1 2), .long (σ2.2 0 8)]) (lk_X8_det hE (σ2.2 0 0) (σ2.2 1 0) (σ2.2 0 2) (σ2.2 0 3) (σ2.2 1 1) (σ2.2 0 5) (σ2.2 0 6) (σ2.2 1 2) (σ2.2 0 8) σ2 _ hf) wm_729 wm_730 wm_8 wm_731 dy_X8_det ⟨rfl, rfl⟩ ⟨Nat.le_of_ble_eq_true rfl, Nat.le_of_ble_eq_true rfl⟩ ⟨Nat.le_refl _, Nat.le_refl _⟩ rfl rfl (Nat.le_of_ble_eq_true rfl) dX8_fitOf_132 (pc' := 135) rfl (fun r10 σ11 hf => ?_)
      refine j_goto hC (tgt := 197) dX8_fitOf_135 (by decide) ?_
      refine j_lv [0] rfl ?_
      exact lb_X8_fitOf_b197 hE hC Q r1 r10 σ11 hf
  · replace hf := hf.2 c_
    refine j_aload_n hC 1 dX8_fitOf_9 (pc' := 10) rfl rfl ?_
    refine gM_right hC wm_572 dX8_fitOf_10 (pc' := 13) rfl ?_
    refine j_iconst hC (v := 0) dX8_fitOf_13 (pc' := 14) rfl (by decide) ?_
    refine lM_right hC (j := 0) (show ¬ ((0 : Int32) < 0 ∨ 3 ≤ (0 : Int32).toNatClampNeg) from by decide) (by decide) dX8_fitOf_14 (pc' := 15) rfl ?_
    refine j_aload_n hC 1 dX8_fitOf_15 (pc' := 16) rfl rfl ?_
    refine gM_g hC wm_571 dX8_fitOf_16 (pc' := 19) rfl ?_
    refine j_iconst hC (v := 1) dX8_fitOf_19 (pc' := 20) rfl (by decide) ?_
    refine lM_g hC (j := 1) (show ¬ ((1 : Int32) < 0 ∨ 9 ≤ (1 : Int32).toNatClampNeg) from by decide) (by decide) dX8_fitOf_20 (pc' := 21) rfl ?_
    refine j_aload_n hC 1 dX8_fitOf_21 (pc' := 22) rfl rfl ?_
    refine gM_g hC wm_571 dX8_fitOf_22 (pc' := 25) rfl ?_
    refine j_iconst hC (v := 2) dX8_fitOf_25 (pc' := 26) rfl (by decide) ?_
    refine lM_g hC (j := 2) (show ¬ ((2 : Int32) < 0 ∨ 9 ≤ (2 : Int32).toNatClampNeg) from by decide) (by decide) dX8_fitOf_26 (pc' := 27) rfl ?_
    refine j_aload_n hC 1 dX8_fitOf_27 (pc' := 28) rfl rfl ?_
    refine gM_right hC wm_572 dX8_fitOf_28 (pc' := 31) rfl ?_
    refine j_iconst hC (v := 1) dX8_fitOf_31 (pc' := 32) rfl (by decide) ?_
    refine lM_right hC (j := 1) (show ¬ ((1 : Int32) < 0 ∨ 3 ≤ (1 : Int32).toNatClampNeg) from by decide) (by decide) dX8_fitOf_32 (pc' := 33) rfl ?_
    refine j_aload_n hC 1 dX8_fitOf_33 (pc' := 34) rfl rfl ?_
    refine gM_g hC wm_571 dX8_fitOf_34 (pc' := 37) rfl ?_
    refine j_iconst hC (v := 4) dX8_fitOf_37 (pc' := 38) rfl (by decide) ?_
    refine lM_g hC (j := 4) (show ¬ ((4 : Int32) < 0 ∨ 9 ≤ (4 : Int32).toNatClampNeg) from by decide) (by decide) dX8_fitOf_38 (pc' := 39) rfl ?_
    refine j_aload_n hC 1 dX8_fitOf_39 (pc' := 40) rfl rfl ?_
    refine gM_g hC wm_571 dX8_fitOf_40 (pc' := 43) rfl ?_
    refine j_iconst hC (v := 5) dX8_fitOf_43 (pc' := 44) rfl (by decide) ?_
    refine lM_g hC (j := 5) (show ¬ ((5 : Int32) < 0 ∨ 9 ≤ (5 : Int32).toNatClampNeg) from by decide) (by decide) dX8_fitOf_44 (pc' := 45) rfl ?_
    refine j_aload_n hC 1 dX8_fitOf_45 (pc' := 46) rfl rfl ?_
    refine gM_right hC wm_572 dX8_fitOf_46 (pc' := 49) rfl ?_
    refine j_iconst hC (v := 2) dX8_fitOf_49 (pc' := 50) rfl (by decide) ?_
    refine lM_right hC (j := 2) (show ¬ ((2 : Int32) < 0 ∨ 3 ≤ (2 : Int32).toNatClampNeg) from by decide) (by decide) dX8_fitOf_50 (pc' := 51) rfl ?_
    refine j_aload_n hC 1 dX8_fitOf_51 (pc' := 52) rfl rfl ?_
    refine gM_g hC wm_571 dX8_fitOf_52 (pc' := 55) rfl ?_
    refine j_bipush hC (v := 7) dX8_fitOf_55 (pc' := 57) rfl (by decide) ?_
    refine lM_g hC (j := 7) (show ¬ ((7 : Int32) < 0 ∨ 9 ≤ (7 : Int32).toNatClampNeg) from by decide) (by decide) dX8_fitOf_57 (pc' := 58) rfl ?_
    refine j_aload_n hC 1 dX8_fitOf_58 (pc' := 59) rfl rfl ?_
    refine gM_g hC wm_571 dX8_fitOf_59 (pc' := 62) rfl ?_
    refine j_bipush hC (v := 8) dX8_fitOf_62 (pc' := 64) rfl (by decide) ?_
    refine lM_g hC (j := 8) (show ¬ ((8 : Int32) < 0 ∨ 9 ≤ (8 : Int32).toNatClampNeg) from by decide) (by decide) dX8_fitOf_64 (pc' := 65) rfl ?_
    refine jcS_l hC (eM hE) (As := [.long (σ2.2 1 0), .long (σ2.2 0 1), .long (σ2.2 0 2), .long (σ2.2 1 1), .long (σ2.2 0 4), .long (σ2.2 0 5), .long (σ2.2 1 2), .long (σ2.2 0 7), .long (σ2.2 0 8)]) (lk_X8_det hE (σ2.2 1 0) (σ2.2 0 1) (σ2.2 0 2) (σ2.2 1 1) (σ2.2 0 4) (σ2.2 0 5) (σ2.2 1 2) (σ2.2 0 7) (σ2.2 0 8) σ2 _ hf) wm_729 wm_730 wm_8 wm_731 dy_X8_det ⟨rfl, rfl⟩ ⟨Nat.le_of_ble_eq_true rfl, Nat.le_of_ble_eq_true rfl⟩ ⟨Nat.le_refl _, Nat.le_refl _⟩ rfl rfl (Nat.le_of_ble_eq_true rfl) dX8_fitOf_65 (pc' := 68) rfl (fun r12 σ13 hf => ?_)
    refine j_goto hC (tgt := 197) dX8_fitOf_68 (by decide) ?_
    refine j_lv [0] rfl ?_
    exact lb_X8_fitOf_b197 hE hC Q r1 r12 σ13 hf
def f_X8_fit (a1 : Int32) (σ : St) (Q : Int64 → St → Prop) : Prop := f_X8_in (Int32.toInt64 a1) (0 : Int64) (2 : Int64) σ (fun r1 σ2 => ((¬ r1 = 0) → f_X8_findTable σ2 (fun σ4 => f_X8_rankNow σ4 (fun r5 σ6 => ((3 : Int32) ≤ r5 → f_X8_fitOf a1 σ6 (fun r7 σ8 => Q r7 σ8)) ∧ ((¬ (3 : Int32) ≤ r5) → f_X8_no (-3 : Int32) σ6 (fun r9 σ10 => Q r9 σ10))))) ∧ (r1 = 0 → f_X8_no (-2 : Int32) σ2 (fun r11 σ12 => Q r11 σ12)))
theorem dy_X8_fit : yX8_fit.cls = yX8_fit.cls ∧ yX8_fit.cls ≠ "java/lang/invoke/MethodHandle" ∧ yX8_fit.cls ≠ "java/lang/invoke/VarHandle" ∧ (parseMethodDescriptor yX8_fit.desc).map (fun d => d.parameters.length) = some 1 := by decide +kernel
set_option maxHeartbeats 4000000 in
set_option maxRecDepth 100000 in
theorem lk_X8_fit {l : Launch} {D : va_G} {q : Nat → Nat} {ca : Nat → ClassId} (hE : qok 19 q) (a1 : Int32) (σ : St) (Q : Int64 → St → Prop) (hf : f_X8_fit a1 σ Q) : Ml l yX8_fit cX8_fit 2 (some .long) { frames := 4, cells := 0, slots := 0, locals := 93 } D (tysM ca) ZM (wM q ca) (AM q) [.ref (q 0), .int a1] σ Q := by
  refine j_start (own := RX8) (lv := [(0, .ref (q 0)), (1, .int a1)]) [.ref (q 0), .int a1] (by decide +kernel) rfl (wM_D hE σ) (Nat.le_of_ble_eq_true rfl) rfl (fun p e s m args below meth c hC => ?_)
  unfold f_X8_fit at hf
  refine j_iload_n hC 1 dX8_fit_0 (pc' := 1) rfl rfl ?_
  refine j_i2l hC dX8_fit_1 (pc' := 2) rfl ?_
  refine j_lconst hC (v := 0) dX8_fit_2 (pc' := 3) rfl (by decide) ?_
  refine j_ldc2 hC (v := 2) dX8_fit_3 (pc' := 6) rfl wm_655 ?_
  refine jcS_i hC (eM hE) (As := [.long (Int32.toInt64 a1), .long (0 : Int64), .long (2 : Int64)]) (lk_X8_in hE (Int32.toInt64 a1) (0 : Int64) (2 : Int64) σ _ hf) wm_642 wm_643 wm_8 wm_644 dy_X8_in ⟨rfl, rfl⟩ ⟨Nat.le_of_ble_eq_true rfl, Nat.le_of_ble_eq_true rfl⟩ ⟨Nat.le_refl _, Nat.le_refl _⟩ rfl rfl (Nat.le_of_ble_eq_true rfl) dX8_fit_6 (pc' := 9) rfl (fun r1 σ2 hf => ?_)
  refine j_if_ne hC (tgt := 18) dX8_fit_9 (pc' := 12) rfl (by decide) (fun c_ => ?_) (fun c_ => ?_)
  · replace hf := hf.1 c_
    refine j_aload_n hC 0 dX8_fit_18 (pc' := 19) rfl rfl ?_
    refine jcV_v hC (eM hE) (As := []) (obM_X8) (rfl) (lk_X8_findTable hE  σ2 _ hf) wm_710 wm_711 wm_909 wm_8 wm_712 dy_X8_findTable ⟨rfl, rfl⟩ ⟨Nat.le_of_ble_eq_true rfl, Nat.le_of_ble_eq_true rfl⟩ ⟨Nat.le_refl _, Nat.le_refl _⟩ rfl rfl (Nat.le_of_ble_eq_true rfl) dX8_fit_19 (pc' := 22) rfl (fun σ4 hf => ?_)
    refine j_aload_n hC 0 dX8_fit_22 (pc' := 23) rfl rfl ?_
    refine jcV_i hC (eM hE) (As := []) (obM_X8) (rfl) (lk_X8_rankNow hE  σ4 _ hf) wm_723 wm_724 wm_912 wm_8 wm_725 dy_X8_rankNow ⟨rfl, rfl⟩ ⟨Nat.le_of_ble_eq_true rfl, Nat.le_of_ble_eq_true rfl⟩ ⟨Nat.le_refl _, Nat.le_refl _⟩ rfl rfl (Nat.le_of_ble_eq_true rfl) dX8_fit_23 (pc' := 26) rfl (fun r5 σ6 hf => ?_)
    refine j_iconst hC (v := 3) dX8_fit_26 (pc' := 27) rfl (by decide) ?_
    refine j_icmp_ge hC (tgt := 38) dX8_fit_27 (pc' := 30) rfl (by decide) (fun c_ => ?_) (fun c_ => ?_)
    · replace hf := hf.1 c_
      refine j_aload_n hC 0 dX8_fit_38 (pc' := 39) rfl rfl ?_
      refine j_iload_n hC 1 dX8_fit_39 (pc' := 40) rfl rfl ?_
      refine jcV_l hC (eM hE) (As := [.int a1]) (obM_X8) (rfl) (lk_X8_fitOf hE a1 σ6 _ hf) wm_743 wm_744 wm_915 wm_8 wm_745 dy_X8_fitOf ⟨rfl, rfl⟩ ⟨Nat.le_of_ble_eq_true rfl, Nat.le_of_ble_eq_true rfl⟩ ⟨Nat.le_refl _, Nat.le_refl _⟩ rfl rfl (Nat.le_of_ble_eq_true rfl) dX8_fit_40 (pc' := 43) rfl (fun r7 σ8 hf => ?_)
      exact j_lret hC dX8_fit_43 hf
    · replace hf := hf.2 c_
      refine j_bipush hC (v := -3) dX8_fit_30 (pc' := 32) rfl (by decide) ?_
      refine jcS_l hC (eM hE) (As := [.int (-3 : Int32)]) (lk_X8_no hE (-3 : Int32) σ6 _ hf) wm_706 wm_707 wm_8 wm_708 dy_X8_no ⟨rfl, rfl⟩ ⟨Nat.le_of_ble_eq_true rfl, Nat.le_of_ble_eq_true rfl⟩ ⟨Nat.le_refl _, Nat.le_refl _⟩ rfl rfl (Nat.le_of_ble_eq_true rfl) dX8_fit_32 (pc' := 35) rfl (fun r9 σ10 hf => ?_)
      refine j_goto hC (tgt := 43) dX8_fit_35 (by decide) ?_
      exact j_lret hC dX8_fit_43 hf
  · replace hf := hf.2 c_
    refine j_bipush hC (v := -2) dX8_fit_12 (pc' := 14) rfl (by decide) ?_
    refine jcS_l hC (eM hE) (As := [.int (-2 : Int32)]) (lk_X8_no hE (-2 : Int32) σ2 _ hf) wm_706 wm_707 wm_8 wm_708 dy_X8_no ⟨rfl, rfl⟩ ⟨Nat.le_of_ble_eq_true rfl, Nat.le_of_ble_eq_true rfl⟩ ⟨Nat.le_refl _, Nat.le_refl _⟩ rfl rfl (Nat.le_of_ble_eq_true rfl) dX8_fit_14 (pc' := 17) rfl (fun r11 σ12 hf => ?_)
    exact j_lret hC dX8_fit_17 hf
def f_X8_mend_b17 (Q : Int32 → St → Prop) : Nat → Int32 → St → Prop
  | 0, _, _ => False
  | n + 1, a1, σ => ((3 : Int32) ≤ a1 → Q (1 : Int32) σ) ∧ ((¬ (3 : Int32) ≤ a1) → f_X8_fitOf a1 σ (fun r5 σ6 => ∀ x7 : Int64, x7 = r5 + (50 : Int64) → ((200 : Int64) ≤ x7 → (x7 < (99900 : Int64) → vp_in a1 3 ∧ ∀ σ9 : St, σ9 = sI σ6 0 (Int32.toNatClampNeg a1) (Int64.toInt32 (x7 / (100 : Int64))) → ∀ x10 : Int32, x10 = a1 + (1 : Int32) → f_X8_mend_b17 Q  n x10 σ9) ∧ ((¬ x7 < (99900 : Int64)) → vp_in a1 3 ∧ ∀ σ12 : St, σ12 = sI σ6 0 (Int32.toNatClampNeg a1) (999 : Int32) → ∀ x13 : Int32, x13 = a1 + (1 : Int32) → f_X8_mend_b17 Q  n x13 σ12)) ∧ ((¬ (200 : Int64) ≤ x7) → vp_in a1 3 ∧ ∀ σ15 : St, σ15 = sI σ6 0 (Int32.toNatClampNeg a1) (1 : Int32) → ∀ x16 : Int32, x16 = a1 + (1 : Int32) → f_X8_mend_b17 Q  n x16 σ15)))
def f_X8_mend (σ : St) (Q : Int32 → St → Prop) : Prop := f_X8_findTable σ (fun σ2 => f_X8_rankNow σ2 (fun r3 σ4 => ((3 : Int32) ≤ r3 → ∃ n17 : Nat, f_X8_mend_b17 Q n17 (0 : Int32) σ4) ∧ ((¬ (3 : Int32) ≤ r3) → Q (-3 : Int32) σ4)))
theorem dy_X8_mend : yX8_mend.cls = yX8_mend.cls ∧ yX8_mend.cls ≠ "java/lang/invoke/MethodHandle" ∧ yX8_mend.cls ≠ "java/lang/invoke/VarHandle" ∧ (parseMethodDescriptor yX8_mend.desc).map (fun d => d.parameters.length) = some 0 := by decide +kernel
set_option maxHeartbeats 4000000 in
set_option maxRecDepth 100000 in
theorem lb_X8_mend_b17 {l : Launch} {D : va_G} {q : Nat → Nat} {ca : Nat → ClassId} {p : Program} {e : Env} {s : State} {m : MethodId} {args : Array Value} {below : List Frame} {meth : Method} {c : Code} (hE : qok 19 q) (hC : Cx p s m args meth c cX8_mend 4 RX8 (some .int) D (tysM ca) ZM) (Q : Int32 → St → Prop) : ∀ (n : Nat) (a1 : Int32) (σ : St), f_X8_mend_b17 Q n a1 σ → J p l e { frames := 4, cells := 0, slots := 0, locals := 93 } s m args below meth c (MQ below (va_Qi Q (BW D (wM q ca)) (AM q)) args s 0 0 (AM q)) D (AM q) 4 0 0 (wM q ca σ) 17 [(0, .ref (q 0)), (1, .int a1)] [] := by
  intro n
  induction n with
  | zero => intro a1 σ hf; exact hf.elim
  | succ n ih =>
    intro a1 σ hf
    unfold f_X8_mend_b17 at hf
    refine j_iload_n hC 1 dX8_mend_17 (pc' := 18) rfl rfl ?_
    refine j_iconst hC (v := 3) dX8_mend_18 (pc' := 19) rfl (by decide) ?_
    refine j_icmp_ge hC (tgt := 76) dX8_mend_19 (pc' := 22) rfl (by decide) (fun c_ => ?_) (fun c_ => ?_)
    · replace hf := hf.1 c_
      refine j_iconst hC (v := 1) dX8_mend_76 (pc' := 77) rfl (by decide) ?_
      exact j_iret hC dX8_mend_77 hf
    · replace hf := hf.2 c_
      refine j_aload_n hC 0 dX8_mend_22 (pc' := 23) rfl rfl ?_
      refine j_iload_n hC 1 dX8_mend_23 (pc' := 24) rfl rfl ?_
      refine jcV_l hC (eM hE) (As := [.int a1]) (obM_X8) (rfl) (lk_X8_fitOf hE a1 σ _ hf) wm_743 wm_744 wm_915 wm_8 wm_745 dy_X8_fitOf ⟨rfl, rfl⟩ ⟨Nat.le_of_ble_eq_true rfl, Nat.le_of_ble_eq_true rfl⟩ ⟨Nat.le_refl _, Nat.le_refl _⟩ rfl rfl (Nat.le_of_ble_eq_true rfl) dX8_mend_24 (pc' := 27) rfl (fun r5 σ6 hf => ?_)
      refine j_ldc2 hC (v := 50) dX8_mend_27 (pc' := 30) rfl wm_751 ?_
      refine j_ladd hC dX8_mend_30 (pc' := 31) rfl ?_
      refine j_nml (fun x7 ex7 => ?_)
      replace hf := hf x7 ex7
      refine j_lstore_n hC (lv' := [(2, .long x7), (0, .ref (q 0)), (1, .int a1)]) dX8_mend_31 (pc' := 32) rfl rfl (by decide) rfl ?_
      refine j_aload_n hC 1 dX8_mend_32 (pc' := 33) rfl rfl ?_
      refine gM_lengths hC wm_565 dX8_mend_33 (pc' := 36) rfl ?_
      refine j_iload_n hC 2 dX8_mend_36 (pc' := 37) rfl rfl ?_
      refine j_lload_n hC 0 dX8_mend_37 (pc' := 38) rfl rfl ?_
      refine j_ldc2 hC (v := 200) dX8_mend_38 (pc' := 41) rfl wm_752 ?_
      refine j_lcmp hC dX8_mend_41 (pc' := 42) rfl ?_
      refine j_if_ge hC (tgt := 49) dX8_mend_42 (pc' := 45) rfl (by decide) (fun c_ => ?_) (fun c_ => ?_)
      · replace hf := hf.1 ((lgc_ge _ _).mp c_)
        refine j_lload_n hC 0 dX8_mend_49 (pc' := 50) rfl rfl ?_
        refine j_ldc2 hC (v := 99900) dX8_mend_50 (pc' := 53) rfl wm_753 ?_
        refine j_lcmp hC dX8_mend_53 (pc' := 54) rfl ?_
        refine j_if_lt hC (tgt := 63) dX8_mend_54 (pc' := 57) rfl (by decide) (fun c_ => ?_) (fun c_ => ?_)
        · replace hf := hf.1 ((lgc_lt _ _).mp c_)
          refine j_lload_n hC 0 dX8_mend_63 (pc' := 64) rfl rfl ?_
          refine j_ldc2 hC (v := 100) dX8_mend_64 (pc' := 67) rfl wm_754 ?_
          refine j_ldiv hC dX8_mend_67 (pc' := 68) rfl (by decide) ?_
          refine j_l2i hC dX8_mend_68 (pc' := 69) rfl ?_
          obtain ⟨h8, hf⟩ := hf
          refine sM_lengths hC (j := (Int32.toNatClampNeg a1)) h8 rfl dX8_mend_69 (pc' := 70) rfl ?_
          refine j_nms (wf := wM q ca) (fun σ9 eσ9 => ?_)
          replace hf := hf σ9 eσ9
          obtain ⟨x10, ex10⟩ : ∃ y : Int32, y = a1 + (1 : Int32) := ⟨_, rfl⟩
          replace hf := hf x10 ex10
          refine j_iinc hC (v := x10) (q := 2) (lv' := [(1, .int x10), (2, .long x7), (0, .ref (q 0))]) dX8_mend_70 (pc' := 73) rfl rfl (by rw [ex10]; rfl) (by decide) rfl ?_
          refine j_goto hC (tgt := 17) dX8_mend_73 (by decide) ?_
          refine j_lv [2, 0] rfl ?_
          exact ih x10 σ9 hf
        · replace hf := hf.2 (fun z => c_ ((lgc_lt _ _).mpr z))
          refine j_sipush hC (v := 999) dX8_mend_57 (pc' := 60) rfl (by decide) ?_
          refine j_goto hC (tgt := 69) dX8_mend_60 (by decide) ?_
          obtain ⟨h11, hf⟩ := hf
          refine sM_lengths hC (j := (Int32.toNatClampNeg a1)) h11 rfl dX8_mend_69 (pc' := 70) rfl ?_
          refine j_nms (wf := wM q ca) (fun σ12 eσ12 => ?_)
          replace hf := hf σ12 eσ12
          obtain ⟨x13, ex13⟩ : ∃ y : Int32, y = a1 + (1 : Int32) := ⟨_, rfl⟩
          replace hf := hf x13 ex13
          refine j_iinc hC (v := x13) (q := 2) (lv' := [(1, .int x13), (2, .long x7), (0, .ref (q 0))]) dX8_mend_70 (pc' := 73) rfl rfl (by rw [ex13]; rfl) (by decide) rfl ?_
          refine j_goto hC (tgt := 17) dX8_mend_73 (by decide) ?_
          refine j_lv [2, 0] rfl ?_
          exact ih x13 σ12 hf
      · replace hf := hf.2 (fun z => c_ ((lgc_ge _ _).mpr z))
        refine j_iconst hC (v := 1) dX8_mend_45 (pc' := 46) rfl (by decide) ?_
        refine j_goto hC (tgt := 69) dX8_mend_46 (by decide) ?_
        obtain ⟨h14, hf⟩ := hf
        refine sM_lengths hC (j := (Int32.toNatClampNeg a1)) h14 rfl dX8_mend_69 (pc' := 70) rfl ?_
        refine j_nms (wf := wM q ca) (fun σ15 eσ15 => ?_)
        replace hf := hf σ15 eσ15
        obtain ⟨x16, ex16⟩ : ∃ y : Int32, y = a1 + (1 : Int32) := ⟨_, rfl⟩
        replace hf := hf x16 ex16
        refine j_iinc hC (v := x16) (q := 2) (lv' := [(1, .int x16), (2, .long x7), (0, .ref (q 0))]) dX8_mend_70 (pc' := 73) rfl rfl (by rw [ex16]; rfl) (by decide) rfl ?_
        refine j_goto hC (tgt := 17) dX8_mend_73 (by decide) ?_
        refine j_lv [2, 0] rfl ?_
        exact ih x16 σ15 hf
set_option maxHeartbeats 4000000 in
set_option maxRecDepth 100000 in
theorem lk_X8_mend {l : Launch} {D : va_G} {q : Nat → Nat} {ca : Nat → ClassId} (hE : qok 19 q) (σ : St) (Q : Int32 → St → Prop) (hf : f_X8_mend σ Q) : Mi l yX8_mend cX8_mend 4 (some .int) { frames := 4, cells := 0, slots := 0, locals := 93 } D (tysM ca) ZM (wM q ca) (AM q) [.ref (q 0)] σ Q := by
  refine j_start (own := RX8) (lv := [(0, .ref (q 0))]) [.ref (q 0)] (by decide +kernel) rfl (wM_D hE σ) (Nat.le_of_ble_eq_true rfl) rfl (fun p e s m args below meth c hC => ?_)
  unfold f_X8_mend at hf
  refine j_aload_n hC 0 dX8_mend_0 (pc' := 1) rfl rfl ?_
  refine jcV_v hC (eM hE) (As := []) (obM_X8) (rfl) (lk_X8_findTable hE  σ _ hf) wm_710 wm_711 wm_909 wm_8 wm_712 dy_X8_findTable ⟨rfl, rfl⟩ ⟨Nat.le_of_ble_eq_true rfl, Nat.le_of_ble_eq_true rfl⟩ ⟨Nat.le_refl _, Nat.le_refl _⟩ rfl rfl (Nat.le_of_ble_eq_true rfl) dX8_mend_1 (pc' := 4) rfl (fun σ2 hf => ?_)
  refine j_aload_n hC 0 dX8_mend_4 (pc' := 5) rfl rfl ?_
  refine jcV_i hC (eM hE) (As := []) (obM_X8) (rfl) (lk_X8_rankNow hE  σ2 _ hf) wm_723 wm_724 wm_912 wm_8 wm_725 dy_X8_rankNow ⟨rfl, rfl⟩ ⟨Nat.le_of_ble_eq_true rfl, Nat.le_of_ble_eq_true rfl⟩ ⟨Nat.le_refl _, Nat.le_refl _⟩ rfl rfl (Nat.le_of_ble_eq_true rfl) dX8_mend_5 (pc' := 8) rfl (fun r3 σ4 hf => ?_)
  refine j_iconst hC (v := 3) dX8_mend_8 (pc' := 9) rfl (by decide) ?_
  refine j_icmp_ge hC (tgt := 15) dX8_mend_9 (pc' := 12) rfl (by decide) (fun c_ => ?_) (fun c_ => ?_)
  · replace hf := hf.1 c_
    refine j_iconst hC (v := 0) dX8_mend_15 (pc' := 16) rfl (by decide) ?_
    refine j_istore_n hC (lv' := [(1, .int (0 : Int32)), (0, .ref (q 0))]) dX8_mend_16 (pc' := 17) rfl rfl (by decide) rfl ?_
    obtain ⟨n17, hf⟩ := hf
    refine j_lv [1, 0] rfl ?_
    exact lb_X8_mend_b17 hE hC Q n17 (0 : Int32) σ4 hf
  · replace hf := hf.2 c_
    refine j_bipush hC (v := -3) dX8_mend_12 (pc' := 14) rfl (by decide) ?_
    exact j_iret hC dX8_mend_14 hf
