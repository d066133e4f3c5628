theorem j_wsE {p : Program} {l : Launch} {e : Env} {R : Room} {s : State} {m : MethodId} {args : Array Value} {below : List Frame} {meth : Method} {c : Code} {Qm : State → Prop} {D : va_G} {A : Nat → Prop} {nL cells slots : Nat} {ws ws' : va_W} {pc : Nat} {lv : List (Nat × Value)} {st : List Value} (h : ws = ws') (k : J p l e R s m args below meth c Qm D A nL cells slots ws' pc lv st) : J p l e R s m args below meth c Qm D A nL cells slots ws pc lv st := h ▸ k
def wc_X0 (b : Nat) (u : ((Nat → Nat) × (Nat → ClassId))) : va_W := [(b, .inr (0, [.ref (u.1 9), .ref (u.1 10), .ref (u.1 11), .int 0])), ((u.1 9), .inl ((u.2 9), 3, .inl (upd (upd (upd (fun _ => 0) 0 100) 1 100) 2 100))), ((u.1 10), .inl ((u.2 10), 60, .inl (fun _ => 0))), ((u.1 11), .inl ((u.2 11), 180, .inl (fun _ => 0)))]
def tc_X0 (u : ((Nat → Nat) × (Nat → ClassId))) : List (ClassId × FieldType) := [((u.2 9), .int), ((u.2 10), .int), ((u.2 11), .int)]
set_option maxHeartbeats 4000000 in
set_option maxRecDepth 100000 in
theorem mk_X0 {l : Launch} {D : va_G} {ex : State → Prop} (b : Nat) : Mc l yX0_init cX0_init 1 { frames := 1, cells := 3, slots := 243, locals := 20 } D ex b (.inr (0, [.null, .null, .null, .int 0])) (wc_X0 b) tc_X0 (fun _ => True) 3 243 := by
  refine j_startC (own := RX0) (by decide +kernel) rfl rfl (by decide) (fun p e s m args below meth c A hC hin hA => ?_)
  refine j_aload_n hC 0 dX0_init_0 (pc' := 1) rfl rfl ?_
  refine j_objInit hC wm_27 (Nat.le_of_ble_eq_true rfl) (Nat.le_of_ble_eq_true rfl) dX0_init_1 (pc' := 4) rfl ?_
  refine j_aload_n hC 0 dX0_init_4 (pc' := 5) rfl rfl ?_
  refine j_iconst hC (v := 3) dX0_init_5 (pc' := 6) rfl (by decide) ?_
  refine j_newa hC hA (atype := .int) (ty := .int) (a0 := (3, .inl (fun _ => 0))) (N := 3) wm_45 rfl (fun _ => rfl) (by decide) (by decide) (Nat.le_of_ble_eq_true rfl) (Nat.le_of_ble_eq_true rfl) (Nat.le_of_ble_eq_true rfl) dX0_init_6 (pc' := 8) rfl (fun q1 cq1 hC => ?_)
  refine j_wsE (ws' := [(b, .inr (0, [.null, .null, .null, .int 0])), (q1, .inl (cq1, 3, .inl (fun _ => 0)))]) rfl ?_
  refine j_dup hC dX0_init_8 (pc' := 9) rfl rfl ?_
  refine j_iconst hC (v := 0) dX0_init_9 (pc' := 10) rfl (by decide) ?_
  refine j_bipush hC (v := 100) dX0_init_10 (pc' := 12) rfl (by decide) ?_
  refine j_iastG hC 1 0 (j := 0) rfl rfl (show ¬ ((0 : Int32) < 0 ∨ 3 ≤ (0 : Int32).toNatClampNeg) from by decide) (by decide) dX0_init_12 (pc' := 13) rfl ?_
  refine j_wsE (ws' := [(b, .inr (0, [.null, .null, .null, .int 0])), (q1, .inl (cq1, 3, .inl (upd (fun _ => 0) 0 100)))]) rfl ?_
  refine j_dup hC dX0_init_13 (pc' := 14) rfl rfl ?_
  refine j_iconst hC (v := 1) dX0_init_14 (pc' := 15) rfl (by decide) ?_
  refine j_bipush hC (v := 100) dX0_init_15 (pc' := 17) rfl (by decide) ?_
  refine j_iastG hC 1 0 (j := 1) rfl rfl (show ¬ ((1 : Int32) < 0 ∨ 3 ≤ (1 : Int32).toNatClampNeg) from by decide) (by decide) dX0_init_17 (pc' := 18) rfl ?_
  refine j_wsE (ws' := [(b, .inr (0, [.null, .null, .null, .int 0])), (q1, .inl (cq1, 3, .inl (upd (upd (fun _ => 0) 0 100) 1 100)))]) rfl ?_
  refine j_dup hC dX0_init_18 (pc' := 19) rfl rfl ?_
  refine j_iconst hC (v := 2) dX0_init_19 (pc' := 20) rfl (by decide) ?_
  refine j_bipush hC (v := 100) dX0_init_20 (pc' := 22) rfl (by decide) ?_
  refine j_iastG hC 1 0 (j := 2) rfl rfl (show ¬ ((2 : Int32) < 0 ∨ 3 ≤ (2 : Int32).toNatClampNeg) from by decide) (by decide) dX0_init_22 (pc' := 23) rfl ?_
  refine j_wsE (ws' := [(b, .inr (0, [.null, .null, .null, .int 0])), (q1, .inl (cq1, 3, .inl (upd (upd (upd (fun _ => 0) 0 100) 1 100) 2 100)))]) rfl ?_
  refine j_putF hC hin (ci := 0) (v := .ref q1) (ty := .array .int) tyX0 inA_X0 tyX0_ok nmX0 0 rfl rfl 0 (by decide) wm_28 rfl rfl (by decide +kernel) rfl rfl (Nat.le_of_ble_eq_true rfl) dX0_init_23 (pc' := 26) rfl ?_
  refine j_wsE (ws' := [(b, .inr (0, [.ref q1, .null, .null, .int 0])), (q1, .inl (cq1, 3, .inl (upd (upd (upd (fun _ => 0) 0 100) 1 100) 2 100)))]) rfl ?_
  refine j_aload_n hC 0 dX0_init_26 (pc' := 27) rfl rfl ?_
  refine j_bipush hC (v := 60) dX0_init_27 (pc' := 29) rfl (by decide) ?_
  refine j_newa hC hA (atype := .int) (ty := .int) (a0 := (60, .inl (fun _ => 0))) (N := 60) wm_45 rfl (fun _ => rfl) (by decide) (by decide) (Nat.le_of_ble_eq_true rfl) (Nat.le_of_ble_eq_true rfl) (Nat.le_of_ble_eq_true rfl) dX0_init_29 (pc' := 31) rfl (fun q2 cq2 hC => ?_)
  refine j_wsE (ws' := [(b, .inr (0, [.ref q1, .null, .null, .int 0])), (q1, .inl (cq1, 3, .inl (upd (upd (upd (fun _ => 0) 0 100) 1 100) 2 100))), (q2, .inl (cq2, 60, .inl (fun _ => 0)))]) rfl ?_
  refine j_putF hC hin (ci := 0) (v := .ref q2) (ty := .array .int) tyX0 inA_X0 tyX0_ok nmX0 0 rfl rfl 1 (by decide) wm_30 rfl rfl (by decide +kernel) rfl rfl (Nat.le_of_ble_eq_true rfl) dX0_init_31 (pc' := 34) rfl ?_
  refine j_wsE (ws' := [(b, .inr (0, [.ref q1, .ref q2, .null, .int 0])), (q1, .inl (cq1, 3, .inl (upd (upd (upd (fun _ => 0) 0 100) 1 100) 2 100))), (q2, .inl (cq2, 60, .inl (fun _ => 0)))]) rfl ?_
  refine j_aload_n hC 0 dX0_init_34 (pc' := 35) rfl rfl ?_
  refine j_sipush hC (v := 180) dX0_init_35 (pc' := 38) rfl (by decide) ?_
  refine j_newa hC hA (atype := .int) (ty := .int) (a0 := (180, .inl (fun _ => 0))) (N := 180) wm_45 rfl (fun _ => rfl) (by decide) (by decide) (Nat.le_of_ble_eq_true rfl) (Nat.le_of_ble_eq_true rfl) (Nat.le_of_ble_eq_true rfl) dX0_init_38 (pc' := 40) rfl (fun q3 cq3 hC => ?_)
  refine j_wsE (ws' := [(b, .inr (0, [.ref q1, .ref q2, .null, .int 0])), (q1, .inl (cq1, 3, .inl (upd (upd (upd (fun _ => 0) 0 100) 1 100) 2 100))), (q2, .inl (cq2, 60, .inl (fun _ => 0))), (q3, .inl (cq3, 180, .inl (fun _ => 0)))]) rfl ?_
  refine j_putF hC hin (ci := 0) (v := .ref q3) (ty := .array .int) tyX0 inA_X0 tyX0_ok nmX0 0 rfl rfl 2 (by decide) wm_32 rfl rfl (by decide +kernel) rfl rfl (Nat.le_of_ble_eq_true rfl) dX0_init_40 (pc' := 43) rfl ?_
  refine j_wsE (ws' := [(b, .inr (0, [.ref q1, .ref q2, .ref q3, .int 0])), (q1, .inl (cq1, 3, .inl (upd (upd (upd (fun _ => 0) 0 100) 1 100) 2 100))), (q2, .inl (cq2, 60, .inl (fun _ => 0))), (q3, .inl (cq3, 180, .inl (fun _ => 0)))]) rfl ?_
  refine j_aload_n hC 0 dX0_init_43 (pc' := 44) rfl rfl ?_
  refine j_iconst hC (v := 0) dX0_init_44 (pc' := 45) rfl (by decide) ?_
  refine j_putG hC (ci := 0) (v := .int 0) (ty := .int) tyX0 inA_X0 tyX0_ok nmX0 0 rfl rfl 3 (by decide) wm_34 rfl (by decide +kernel) rfl rfl (Nat.le_of_ble_eq_true rfl) dX0_init_45 (pc' := 48) rfl ?_
  refine j_wsE (ws' := [(b, .inr (0, [.ref q1, .ref q2, .ref q3, .int 0])), (q1, .inl (cq1, 3, .inl (upd (upd (upd (fun _ => 0) 0 100) 1 100) 2 100))), (q2, .inl (cq2, 60, .inl (fun _ => 0))), (q3, .inl (cq3, 180, .inl (fun _ => 0)))]) rfl ?_
  exact j_vretC hC ((fun k => if k = 9 then q1 else if k = 10 then q2 else q3), (fun k => if k = 9 then cq1 else if k = 10 then cq2 else cq3)) rfl [0, 1, 2] rfl trivial dX0_init_48
def wc_X1 (b : Nat) (u : ((Nat → Nat) × (Nat → ClassId))) : va_W := [(b, .inr (1, [.ref (u.1 15), .ref (u.1 16), .ref (u.1 17), .ref (u.1 18), .int 0])), ((u.1 15), .inl ((u.2 15), 20, .inl (fun _ => 0))), ((u.1 16), .inl ((u.2 16), 20, .inl (fun _ => 0))), ((u.1 17), .inl ((u.2 17), 20, .inl (fun _ => 0))), ((u.1 18), .inl ((u.2 18), 20, .inl (fun _ => 0)))]
def tc_X1 (u : ((Nat → Nat) × (Nat → ClassId))) : List (ClassId × FieldType) := [((u.2 15), .int), ((u.2 16), .int), ((u.2 17), .int), ((u.2 18), .int)]
set_option maxHeartbeats 4000000 in
set_option maxRecDepth 100000 in
theorem mk_X1 {l : Launch} {D : va_G} {ex : State → Prop} (b : Nat) : Mc l yX1_init cX1_init 1 { frames := 1, cells := 4, slots := 80, locals := 20 } D ex b (.inr (1, [.null, .null, .null, .null, .int 0])) (wc_X1 b) tc_X1 (fun _ => True) 4 80 := by
  refine j_startC (own := RX1) (by decide +kernel) rfl rfl (by decide) (fun p e s m args below meth c A hC hin hA => ?_)
  refine j_aload_n hC 0 dX1_init_0 (pc' := 1) rfl rfl ?_
  refine j_objInit hC wm_70 (Nat.le_of_ble_eq_true rfl) (Nat.le_of_ble_eq_true rfl) dX1_init_1 (pc' := 4) rfl ?_
  refine j_aload_n hC 0 dX1_init_4 (pc' := 5) rfl rfl ?_
  refine j_bipush hC (v := 20) dX1_init_5 (pc' := 7) rfl (by decide) ?_
  refine j_newa hC hA (atype := .int) (ty := .int) (a0 := (20, .inl (fun _ => 0))) (N := 20) wm_45 rfl (fun _ => rfl) (by decide) (by decide) (Nat.le_of_ble_eq_true rfl) (Nat.le_of_ble_eq_true rfl) (Nat.le_of_ble_eq_true rfl) dX1_init_7 (pc' := 9) rfl (fun q1 cq1 hC => ?_)
  refine j_wsE (ws' := [(b, .inr (1, [.null, .null, .null, .null, .int 0])), (q1, .inl (cq1, 20, .inl (fun _ => 0)))]) rfl ?_
  refine j_putF hC hin (ci := 1) (v := .ref q1) (ty := .array .int) tyX1 inA_X1 tyX1_ok nmX1 0 rfl rfl 0 (by decide) wm_71 rfl rfl (by decide +kernel) rfl rfl (Nat.le_of_ble_eq_true rfl) dX1_init_9 (pc' := 12) rfl ?_
  refine j_wsE (ws' := [(b, .inr (1, [.ref q1, .null, .null, .null, .int 0])), (q1, .inl (cq1, 20, .inl (fun _ => 0)))]) rfl ?_
  refine j_aload_n hC 0 dX1_init_12 (pc' := 13) rfl rfl ?_
  refine j_bipush hC (v := 20) dX1_init_13 (pc' := 15) rfl (by decide) ?_
  refine j_newa hC hA (atype := .int) (ty := .int) (a0 := (20, .inl (fun _ => 0))) (N := 20) wm_45 rfl (fun _ => rfl) (by decide) (by decide) (Nat.le_of_ble_eq_true rfl) (Nat.le_of_ble_eq_true rfl) (Nat.le_of_ble_eq_true rfl) dX1_init_15 (pc' := 17) rfl (fun q2 cq2 hC => ?_)
  refine j_wsE (ws' := [(b, .inr (1, [.ref q1, .null, .null, .null, .int 0])), (q1, .inl (cq1, 20, .inl (fun _ => 0))), (q2, .inl (cq2, 20, .inl (fun _ => 0)))]) rfl ?_
  refine j_putF hC hin (ci := 1) (v := .ref q2) (ty := .array .int) tyX1 inA_X1 tyX1_ok nmX1 0 rfl rfl 1 (by decide) wm_72 rfl rfl (by decide +kernel) rfl rfl (Nat.le_of_ble_eq_true rfl) dX1_init_17 (pc' := 20) rfl ?_
  refine j_wsE (ws' := [(b, .inr (1, [.ref q1, .ref q2, .null, .null, .int 0])), (q1, .inl (cq1, 20, .inl (fun _ => 0))), (q2, .inl (cq2, 20, .inl (fun _ => 0)))]) rfl ?_
  refine j_aload_n hC 0 dX1_init_20 (pc' := 21) rfl rfl ?_
  refine j_bipush hC (v := 20) dX1_init_21 (pc' := 23) rfl (by decide) ?_
  refine j_newa hC hA (atype := .int) (ty := .int) (a0 := (20, .inl (fun _ => 0))) (N := 20) wm_45 rfl (fun _ => rfl) (by decide) (by decide) (Nat.le_of_ble_eq_true rfl) (Nat.le_of_ble_eq_true rfl) (Nat.le_of_ble_eq_true rfl) dX1_init_23 (pc' := 25) rfl (fun q3 cq3 hC => ?_)
  refine j_wsE (ws' := [(b, .inr (1, [.ref q1, .ref q2, .null, .null, .int 0])), (q1, .inl (cq1, 20, .inl (fun _ => 0))), (q2, .inl (cq2, 20, .inl (fun _ => 0))), (q3, .inl (cq3, 20, .inl (fun _ => 0)))]) rfl ?_
  refine j_putF hC hin (ci := 1) (v := .ref q3) (ty := .array .int) tyX1 inA_X1 tyX1_ok nmX1 0 rfl rfl 2 (by decide) wm_73 rfl rfl (by decide +kernel) rfl rfl (Nat.le_of_ble_eq_true rfl) dX1_init_25 (pc' := 28) rfl ?_
  refine j_wsE (ws' := [(b, .inr (1, [.ref q1, .ref q2, .ref q3, .null, .int 0])), (q1, .inl (cq1, 20, .inl (fun _ => 0))), (q2, .inl (cq2, 20, .inl (fun _ => 0))), (q3, .inl (cq3, 20, .inl (fun _ => 0)))]) rfl ?_
  refine j_aload_n hC 0 dX1_init_28 (pc' := 29) rfl rfl ?_
  refine j_bipush hC (v := 20) dX1_init_29 (pc' := 31) rfl (by decide) ?_
  refine j_newa hC hA (atype := .int) (ty := .int) (a0 := (20, .inl (fun _ => 0))) (N := 20) wm_45 rfl (fun _ => rfl) (by decide) (by decide) (Nat.le_of_ble_eq_true rfl) (Nat.le_of_ble_eq_true rfl) (Nat.le_of_ble_eq_true rfl) dX1_init_31 (pc' := 33) rfl (fun q4 cq4 hC => ?_)
  refine j_wsE (ws' := [(b, .inr (1, [.ref q1, .ref q2, .ref q3, .null, .int 0])), (q1, .inl (cq1, 20, .inl (fun _ => 0))), (q2, .inl (cq2, 20, .inl (fun _ => 0))), (q3, .inl (cq3, 20, .inl (fun _ => 0))), (q4, .inl (cq4, 20, .inl (fun _ => 0)))]) rfl ?_
  refine j_putF hC hin (ci := 1) (v := .ref q4) (ty := .array .int) tyX1 inA_X1 tyX1_ok nmX1 0 rfl rfl 3 (by decide) wm_74 rfl rfl (by decide +kernel) rfl rfl (Nat.le_of_ble_eq_true rfl) dX1_init_33 (pc' := 36) rfl ?_
  refine j_wsE (ws' := [(b, .inr (1, [.ref q1, .ref q2, .ref q3, .ref q4, .int 0])), (q1, .inl (cq1, 20, .inl (fun _ => 0))), (q2, .inl (cq2, 20, .inl (fun _ => 0))), (q3, .inl (cq3, 20, .inl (fun _ => 0))), (q4, .inl (cq4, 20, .inl (fun _ => 0)))]) rfl ?_
  refine j_aload_n hC 0 dX1_init_36 (pc' := 37) rfl rfl ?_
  refine j_iconst hC (v := 0) dX1_init_37 (pc' := 38) rfl (by decide) ?_
  refine j_putG hC (ci := 1) (v := .int 0) (ty := .int) tyX1 inA_X1 tyX1_ok nmX1 0 rfl rfl 4 (by decide) wm_75 rfl (by decide +kernel) rfl rfl (Nat.le_of_ble_eq_true rfl) dX1_init_38 (pc' := 41) rfl ?_
  refine j_wsE (ws' := [(b, .inr (1, [.ref q1, .ref q2, .ref q3, .ref q4, .int 0])), (q1, .inl (cq1, 20, .inl (fun _ => 0))), (q2, .inl (cq2, 20, .inl (fun _ => 0))), (q3, .inl (cq3, 20, .inl (fun _ => 0))), (q4, .inl (cq4, 20, .inl (fun _ => 0)))]) rfl ?_
  exact j_vretC hC ((fun k => if k = 15 then q1 else if k = 16 then q2 else if k = 17 then q3 else q4), (fun k => if k = 15 then cq1 else if k = 16 then cq2 else if k = 17 then cq3 else cq4)) rfl [0, 1, 2, 3] rfl trivial dX1_init_41
def wc_X4 (b : Nat) (u : ((Nat → Nat) × (Nat → ClassId))) : va_W := [(b, .inr (3, [.ref (u.1 0), .int (-1), .int 0])), ((u.1 0), .inl ((u.2 0), 100, .inl (fun _ => 0)))]
def tc_X4 (u : ((Nat → Nat) × (Nat → ClassId))) : List (ClassId × FieldType) := [((u.2 0), .int)]
set_option maxHeartbeats 4000000 in
set_option maxRecDepth 100000 in
theorem mk_X4 {l : Launch} {D : va_G} {ex : State → Prop} (b : Nat) : Mc l yX4_init cX4_init 1 { frames := 1, cells := 1, slots := 100, locals := 20 } D ex b (.inr (3, [.null, .int 0, .int 0])) (wc_X4 b) tc_X4 (fun _ => True) 1 100 := by
  refine j_startC (own := RX4) (by decide +kernel) rfl rfl (by decide) (fun p e s m args below meth c A hC hin hA => ?_)
  refine j_aload_n hC 0 dX4_init_0 (pc' := 1) rfl rfl ?_
  refine j_objInit hC wm_129 (Nat.le_of_ble_eq_true rfl) (Nat.le_of_ble_eq_true rfl) dX4_init_1 (pc' := 4) rfl ?_
  refine j_aload_n hC 0 dX4_init_4 (pc' := 5) rfl rfl ?_
  refine j_bipush hC (v := 100) dX4_init_5 (pc' := 7) rfl (by decide) ?_
  refine j_newa hC hA (atype := .int) (ty := .int) (a0 := (100, .inl (fun _ => 0))) (N := 100) wm_45 rfl (fun _ => rfl) (by decide) (by decide) (Nat.le_of_ble_eq_true rfl) (Nat.le_of_ble_eq_true rfl) (Nat.le_of_ble_eq_true rfl) dX4_init_7 (pc' := 9) rfl (fun q1 cq1 hC => ?_)
  refine j_wsE (ws' := [(b, .inr (3, [.null, .int 0, .int 0])), (q1, .inl (cq1, 100, .inl (fun _ => 0)))]) rfl ?_
  refine j_putF hC hin (ci := 3) (v := .ref q1) (ty := .array .int) tyX4 inA_X4 tyX4_ok nmX4 0 rfl rfl 0 (by decide) wm_130 rfl rfl (by decide +kernel) rfl rfl (Nat.le_of_ble_eq_true rfl) dX4_init_9 (pc' := 12) rfl ?_
  refine j_wsE (ws' := [(b, .inr (3, [.ref q1, .int 0, .int 0])), (q1, .inl (cq1, 100, .inl (fun _ => 0)))]) rfl ?_
  refine j_aload_n hC 0 dX4_init_12 (pc' := 13) rfl rfl ?_
  refine j_iconst hC (v := -1) dX4_init_13 (pc' := 14) rfl (by decide) ?_
  refine j_putG hC (ci := 3) (v := .int (-1)) (ty := .int) tyX4 inA_X4 tyX4_ok nmX4 0 rfl rfl 1 (by decide) wm_133 rfl (by decide +kernel) rfl rfl (Nat.le_of_ble_eq_true rfl) dX4_init_14 (pc' := 17) rfl ?_
  refine j_wsE (ws' := [(b, .inr (3, [.ref q1, .int (-1), .int 0])), (q1, .inl (cq1, 100, .inl (fun _ => 0)))]) rfl ?_
  refine j_aload_n hC 0 dX4_init_17 (pc' := 18) rfl rfl ?_
  refine j_iconst hC (v := 0) dX4_init_18 (pc' := 19) rfl (by decide) ?_
  refine j_putG hC (ci := 3) (v := .int 0) (ty := .int) tyX4 inA_X4 tyX4_ok nmX4 0 rfl rfl 2 (by decide) wm_135 rfl (by decide +kernel) rfl rfl (Nat.le_of_ble_eq_true rfl) dX4_init_19 (pc' := 22) rfl ?_
  refine j_wsE (ws' := [(b, .inr (3, [.ref q1, .int (-1), .int 0])), (q1, .inl (cq1, 100, .inl (fun _ => 0)))]) rfl ?_
  exact j_vretC hC ((fun k => q1), (fun k => cq1)) rfl [0] rfl trivial dX4_init_22
def wc_X5 (b : Nat) (u : ((Nat → Nat) × (Nat → ClassId))) : va_W := [(b, .inr (4, [.int 0, .int 0]))]
def tc_X5 (u : ((Nat → Nat) × (Nat → ClassId))) : List (ClassId × FieldType) := []
set_option maxHeartbeats 4000000 in
set_option maxRecDepth 100000 in
theorem mk_X5 {l : Launch} {D : va_G} {ex : State → Prop} (b : Nat) : Mc l yX5_init cX5_init 1 { frames := 1, cells := 0, slots := 0, locals := 20 } D ex b (.inr (4, [.int 0, .int 0])) (wc_X5 b) tc_X5 (fun _ => True) 0 0 := by
  refine j_startC (own := RX5) (by decide +kernel) rfl rfl (by decide) (fun p e s m args below meth c A hC hin hA => ?_)
  refine j_aload_n hC 0 dX5_init_0 (pc' := 1) rfl rfl ?_
  refine j_objInit hC wm_114 (Nat.le_of_ble_eq_true rfl) (Nat.le_of_ble_eq_true rfl) dX5_init_1 (pc' := 4) rfl ?_
  refine j_aload_n hC 0 dX5_init_4 (pc' := 5) rfl rfl ?_
  refine j_iconst hC (v := 0) dX5_init_5 (pc' := 6) rfl (by decide) ?_
  refine j_putG hC (ci := 4) (v := .int 0) (ty := .int) tyX5 inA_X5 tyX5_ok nmX5 0 rfl rfl 0 (by decide) wm_115 rfl (by decide +kernel) rfl rfl (Nat.le_of_ble_eq_true rfl) dX5_init_6 (pc' := 9) rfl ?_
  refine j_wsE (ws' := [(b, .inr (4, [.int 0, .int 0]))]) rfl ?_
  refine j_aload_n hC 0 dX5_init_9 (pc' := 10) rfl rfl ?_
  refine j_iconst hC (v := 0) dX5_init_10 (pc' := 11) rfl (by decide) ?_
  refine j_putG hC (ci := 4) (v := .int 0) (ty := .int) tyX5 inA_X5 tyX5_ok nmX5 0 rfl rfl 1 (by decide) wm_117 rfl (by decide +kernel) rfl rfl (Nat.le_of_ble_eq_true rfl) dX5_init_11 (pc' := 14) rfl ?_
  refine j_wsE (ws' := [(b, .inr (4, [.int 0, .int 0]))]) rfl ?_
  exact j_vretC hC ((fun _ => 0), (fun _ => D.1 0)) rfl [] rfl trivial dX5_init_14
def wc_X6 (b : Nat) (u : ((Nat → Nat) × (Nat → ClassId))) : va_W := [(b, .inr (5, [.ref (u.1 12), .ref (u.1 13), .ref (u.1 14)])), ((u.1 12), .inl ((u.2 12), 9, .inr (.inl (fun _ => 0)))), ((u.1 13), .inl ((u.2 13), 3, .inr (.inl (fun _ => 0)))), ((u.1 14), .inl ((u.2 14), 9, .inr (.inl (fun _ => 0))))]
def tc_X6 (u : ((Nat → Nat) × (Nat → ClassId))) : List (ClassId × FieldType) := [((u.2 12), .long), ((u.2 13), .long), ((u.2 14), .long)]
set_option maxHeartbeats 4000000 in
set_option maxRecDepth 100000 in
theorem mk_X6 {l : Launch} {D : va_G} {ex : State → Prop} (b : Nat) : Mc l yX6_init cX6_init 1 { frames := 1, cells := 3, slots := 21, locals := 20 } D ex b (.inr (5, [.null, .null, .null])) (wc_X6 b) tc_X6 (fun _ => True) 3 21 := by
  refine j_startC (own := RX6) (by decide +kernel) rfl rfl (by decide) (fun p e s m args below meth c A hC hin hA => ?_)
  refine j_aload_n hC 0 dX6_init_0 (pc' := 1) rfl rfl ?_
  refine j_objInit hC wm_51 (Nat.le_of_ble_eq_true rfl) (Nat.le_of_ble_eq_true rfl) dX6_init_1 (pc' := 4) rfl ?_
  refine j_aload_n hC 0 dX6_init_4 (pc' := 5) rfl rfl ?_
  refine j_bipush hC (v := 9) dX6_init_5 (pc' := 7) rfl (by decide) ?_
  refine j_newa hC hA (atype := .long) (ty := .long) (a0 := (9, .inr (.inl (fun _ => 0)))) (N := 9) wm_64 rfl (fun _ => rfl) (by decide) (by decide) (Nat.le_of_ble_eq_true rfl) (Nat.le_of_ble_eq_true rfl) (Nat.le_of_ble_eq_true rfl) dX6_init_7 (pc' := 9) rfl (fun q1 cq1 hC => ?_)
  refine j_wsE (ws' := [(b, .inr (5, [.null, .null, .null])), (q1, .inl (cq1, 9, .inr (.inl (fun _ => 0))))]) rfl ?_
  refine j_putF hC hin (ci := 5) (v := .ref q1) (ty := .array .long) tyX6 inA_X6 tyX6_ok nmX6 0 rfl rfl 0 (by decide) wm_52 rfl rfl (by decide +kernel) rfl rfl (Nat.le_of_ble_eq_true rfl) dX6_init_9 (pc' := 12) rfl ?_
  refine j_wsE (ws' := [(b, .inr (5, [.ref q1, .null, .null])), (q1, .inl (cq1, 9, .inr (.inl (fun _ => 0))))]) rfl ?_
  refine j_aload_n hC 0 dX6_init_12 (pc' := 13) rfl rfl ?_
  refine j_iconst hC (v := 3) dX6_init_13 (pc' := 14) rfl (by decide) ?_
  refine j_newa hC hA (atype := .long) (ty := .long) (a0 := (3, .inr (.inl (fun _ => 0)))) (N := 3) wm_64 rfl (fun _ => rfl) (by decide) (by decide) (Nat.le_of_ble_eq_true rfl) (Nat.le_of_ble_eq_true rfl) (Nat.le_of_ble_eq_true rfl) dX6_init_14 (pc' := 16) rfl (fun q2 cq2 hC => ?_)
  refine j_wsE (ws' := [(b, .inr (5, [.ref q1, .null, .null])), (q1, .inl (cq1, 9, .inr (.inl (fun _ => 0)))), (q2, .inl (cq2, 3, .inr (.inl (fun _ => 0))))]) rfl ?_
  refine j_putF hC hin (ci := 5) (v := .ref q2) (ty := .array .long) tyX6 inA_X6 tyX6_ok nmX6 0 rfl rfl 1 (by decide) wm_54 rfl rfl (by decide +kernel) rfl rfl (Nat.le_of_ble_eq_true rfl) dX6_init_16 (pc' := 19) rfl ?_
  refine j_wsE (ws' := [(b, .inr (5, [.ref q1, .ref q2, .null])), (q1, .inl (cq1, 9, .inr (.inl (fun _ => 0)))), (q2, .inl (cq2, 3, .inr (.inl (fun _ => 0))))]) rfl ?_
  refine j_aload_n hC 0 dX6_init_19 (pc' := 20) rfl rfl ?_
  refine j_bipush hC (v := 9) dX6_init_20 (pc' := 22) rfl (by decide) ?_
  refine j_newa hC hA (atype := .long) (ty := .long) (a0 := (9, .inr (.inl (fun _ => 0)))) (N := 9) wm_64 rfl (fun _ => rfl) (by decide) (by decide) (Nat.le_of_ble_eq_true rfl) (Nat.le_of_ble_eq_true rfl) (Nat.le_of_ble_eq_true rfl) dX6_init_22 (pc' := 24) rfl (fun q3 cq3 hC => ?_)
  refine j_wsE (ws' := [(b, .inr (5, [.ref q1, .ref q2, .null])), (q1, .inl (cq1, 9, .inr (.inl (fun _ => 0)))), (q2, .inl (cq2, 3, .inr (.inl (fun _ => 0)))), (q3, .inl (cq3, 9, .inr (.inl (fun _ => 0))))]) rfl ?_
  refine j_putF hC hin (ci := 5) (v := .ref q3) (ty := .array .long) tyX6 inA_X6 tyX6_ok nmX6 0 rfl rfl 2 (by decide) wm_55 rfl rfl (by decide +kernel) rfl rfl (Nat.le_of_ble_eq_true rfl) dX6_init_24 (pc' := 27) rfl ?_
  refine j_wsE (ws' := [(b, .inr (5, [.ref q1, .ref q2, .ref q3])), (q1, .inl (cq1, 9, .inr (.inl (fun _ => 0)))), (q2, .inl (cq2, 3, .inr (.inl (fun _ => 0)))), (q3, .inl (cq3, 9, .inr (.inl (fun _ => 0))))]) rfl ?_
  exact j_vretC hC ((fun k => if k = 12 then q1 else if k = 13 then q2 else q3), (fun k => if k = 12 then cq1 else if k = 13 then cq2 else cq3)) rfl [0, 1, 2] rfl trivial dX6_init_27
def wc_X2 (b : Nat) (u : ((Nat × ClassId) × (Nat → Int32))) : va_W := [(b, .inr (2, [.ref u.1.1, .int 0, .int 0, .long 0])), (u.1.1, .inl (u.1.2, 108, .inl u.2))]
def tc_X2 (u : ((Nat × ClassId) × (Nat → Int32))) : List (ClassId × FieldType) := [(u.1.2, .boolean)]
set_option maxHeartbeats 4000000 in
set_option maxRecDepth 100000 in
theorem mk_X2_loop {l : Launch} {D : va_G} {p : Program} {e : Env} {R : Room} {s : State} {m : MethodId} {args : Array Value} {below : List Frame} {meth : Method} {c : Code} {Qm : State → Prop} {A : Nat → Prop} {cells slots : Nat} {Z : State → Heap → Prop} {b q1 : Nat} {c1 : ClassId} (hC : Cx p s m args meth c cX2_init 2 RX2 none D [(c1, .boolean)] Z)
    (hret : ∀ f : Nat → Int32, (∀ j, j < 108 → f j = 1) → J p l e R s m args below meth c Qm D A 2 cells slots [(b, .inr (2, [.ref q1, .int 0, .int 0, .long 0])), (q1, .inl (c1, 108, .inl f))] 51 [] []) : ∀ (n i : Nat) (f : Nat → Int32), i + n = 108 → (∀ j, j < i → f j = 1) → J p l e R s m args below meth c Qm D A 2 cells slots [(b, .inr (2, [.ref q1, .int 0, .int 0, .long 0])), (q1, .inl (c1, 108, .inl f))] 29 [(1, .int (nI i)), (0, .ref b)] [] := by
  intro n
  induction n with
  | zero =>
    intro i f hi hf
    have hi : i = 108 := by omega
    subst hi
    refine j_iload_n hC 0 dX2_init_29 (pc' := 30) rfl rfl ?_
    refine j_aload_n hC 1 dX2_init_30 (pc' := 31) rfl rfl ?_
    refine j_getG hC (ci := 2) (v := .ref q1) inA_X2 0 rfl rfl 0 (by decide) wm_94 rfl dX2_init_31 (pc' := 34) rfl ?_
    refine j_alenG hC (v := 108) 1 0 rfl rfl (show Int32.ofNat 108 = 108 from by decide +kernel) dX2_init_34 (pc' := 35) rfl ?_
    refine j_icmp_ge hC (tgt := 51) dX2_init_35 (pc' := 38) rfl (by decide) (fun _ => ?_) (fun c_ => absurd (by decide +kernel) c_)
    refine j_lv [] rfl ?_
    exact hret f hf
  | succ n ih =>
    intro i f hi hf
    have hlt : i < 108 := by omega
    refine j_iload_n hC 0 dX2_init_29 (pc' := 30) rfl rfl ?_
    refine j_aload_n hC 1 dX2_init_30 (pc' := 31) rfl rfl ?_
    refine j_getG hC (ci := 2) (v := .ref q1) inA_X2 0 rfl rfl 0 (by decide) wm_94 rfl dX2_init_31 (pc' := 34) rfl ?_
    refine j_alenG hC (v := 108) 1 0 rfl rfl (show Int32.ofNat 108 = 108 from by decide +kernel) dX2_init_34 (pc' := 35) rfl ?_
    refine j_icmp_ge hC (tgt := 51) dX2_init_35 (pc' := 38) rfl (by decide) (fun c_ => absurd c_ (nI_ge (a := i) (b := 108) hlt (by decide))) (fun _ => ?_)
    refine j_aload_n hC 1 dX2_init_38 (pc' := 39) rfl rfl ?_
    refine j_getG hC (ci := 2) (v := .ref q1) inA_X2 0 rfl rfl 0 (by decide) wm_94 rfl dX2_init_39 (pc' := 42) rfl ?_
    refine j_iload_n hC 0 dX2_init_42 (pc' := 43) rfl rfl ?_
    refine j_iconst hC (v := 1) dX2_init_43 (pc' := 44) rfl (by decide) ?_
    refine j_zastG hC 1 0 (j := i) rfl rfl (vp_in_nI hlt (by decide)) (nI_clamp (by omega)) dX2_init_44 (pc' := 45) rfl ?_
    refine j_wsE (ws' := [(b, .inr (2, [.ref q1, .int 0, .int 0, .long 0])), (q1, .inl (c1, 108, .inl (upd f i (vp_nar .boolean 1))))]) rfl ?_
    refine j_iinc hC (v := nI (i + 1)) (q := 0) (lv' := [(1, .int (nI (i + 1))), (0, .ref b)]) dX2_init_45 (pc' := 48) rfl rfl (nI_1 i) (by decide) rfl ?_
    refine j_goto hC (tgt := 29) dX2_init_48 (by decide) ?_
    refine ih (i + 1) _ (by omega) (fun j hj => ?_)
    by_cases e1 : j = i
    · subst e1
      rw [pk_us]
      decide
    · rw [pk_un e1]
      exact hf j (by omega)
set_option maxHeartbeats 4000000 in
set_option maxRecDepth 100000 in
theorem mk_X2 {l : Launch} {D : va_G} {ex : State → Prop} (b : Nat) : Mc l yX2_init cX2_init 2 { frames := 1, cells := 1, slots := 108, locals := 20 } D ex b (.inr (2, [.null, .int 0, .int 0, .long 0])) (wc_X2 b) tc_X2 (fun u => ∀ j, j < 108 → u.2 j = 1) 1 108 := by
  refine j_startC (own := RX2) (by decide +kernel) rfl rfl (by decide) (fun p e s m args below meth c A hC hin hA => ?_)
  refine j_aload_n hC 0 dX2_init_0 (pc' := 1) rfl rfl ?_
  refine j_objInit hC wm_93 (Nat.le_of_ble_eq_true rfl) (Nat.le_of_ble_eq_true rfl) dX2_init_1 (pc' := 4) rfl ?_
  refine j_aload_n hC 0 dX2_init_4 (pc' := 5) rfl rfl ?_
  refine j_bipush hC (v := 108) dX2_init_5 (pc' := 7) rfl (by decide) ?_
  refine j_newa hC hA (atype := .boolean) (ty := .boolean) (a0 := (108, .inl (fun _ => 0))) (N := 108) wm_63 rfl (fun _ => rfl) (by decide) (by decide) (Nat.le_of_ble_eq_true rfl) (Nat.le_of_ble_eq_true rfl) (Nat.le_of_ble_eq_true rfl) dX2_init_7 (pc' := 9) rfl (fun q1 cq1 hC => ?_)
  refine j_wsE (ws' := [(b, .inr (2, [.null, .int 0, .int 0, .long 0])), (q1, .inl (cq1, 108, .inl (fun _ => 0)))]) rfl ?_
  refine j_putF hC hin (ci := 2) (v := .ref q1) (ty := .array .boolean) tyX2 inA_X2 tyX2_ok nmX2 0 rfl rfl 0 (by decide) wm_94 rfl rfl (by decide +kernel) rfl rfl (Nat.le_of_ble_eq_true rfl) dX2_init_9 (pc' := 12) rfl ?_
  refine j_wsE (ws' := [(b, .inr (2, [.ref q1, .int 0, .int 0, .long 0])), (q1, .inl (cq1, 108, .inl (fun _ => 0)))]) rfl ?_
  refine j_aload_n hC 0 dX2_init_12 (pc' := 13) rfl rfl ?_
  refine j_iconst hC (v := 0) dX2_init_13 (pc' := 14) rfl (by decide) ?_
  refine j_putG hC (ci := 2) (v := .int 0) (ty := .int) tyX2 inA_X2 tyX2_ok nmX2 0 rfl rfl 1 (by decide) wm_95 rfl (by decide +kernel) rfl rfl (Nat.le_of_ble_eq_true rfl) dX2_init_14 (pc' := 17) rfl ?_
  refine j_wsE (ws' := [(b, .inr (2, [.ref q1, .int 0, .int 0, .long 0])), (q1, .inl (cq1, 108, .inl (fun _ => 0)))]) rfl ?_
  refine j_aload_n hC 0 dX2_init_17 (pc' := 18) rfl rfl ?_
  refine j_iconst hC (v := 0) dX2_init_18 (pc' := 19) rfl (by decide) ?_
  refine j_putG hC (ci := 2) (v := .int 0) (ty := .int) tyX2 inA_X2 tyX2_ok nmX2 0 rfl rfl 2 (by decide) wm_96 rfl (by decide +kernel) rfl rfl (Nat.le_of_ble_eq_true rfl) dX2_init_19 (pc' := 22) rfl ?_
  refine j_wsE (ws' := [(b, .inr (2, [.ref q1, .int 0, .int 0, .long 0])), (q1, .inl (cq1, 108, .inl (fun _ => 0)))]) rfl ?_
  refine j_aload_n hC 0 dX2_init_22 (pc' := 23) rfl rfl ?_
  refine j_lconst hC (v := 0) dX2_init_23 (pc' := 24) rfl (by decide) ?_
  refine j_putG hC (ci := 2) (v := .long 0) (ty := .long) tyX2 inA_X2 tyX2_ok nmX2 0 rfl rfl 3 (by decide) wm_98 rfl (by decide +kernel) rfl rfl (Nat.le_of_ble_eq_true rfl) dX2_init_24 (pc' := 27) rfl ?_
  refine j_wsE (ws' := [(b, .inr (2, [.ref q1, .int 0, .int 0, .long 0])), (q1, .inl (cq1, 108, .inl (fun _ => 0)))]) rfl ?_
  refine j_iconst hC (v := 0) dX2_init_27 (pc' := 28) rfl (by decide) ?_
  refine j_istore_n hC (lv' := [(1, .int 0), (0, .ref b)]) dX2_init_28 (pc' := 29) rfl rfl (by decide) rfl ?_
  refine mk_X2_loop hC (fun f hf => ?_) 108 0 _ rfl (fun j hj => absurd hj (Nat.not_lt_zero j))
  exact j_vretC hC ((q1, cq1), f) rfl [0] rfl hf dX2_init_51
