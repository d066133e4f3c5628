set_option maxHeartbeats 4000000 in
set_option maxRecDepth 100000 in
theorem law_loop {p : Program} {l : Launch} {e : Env} {s : State} {m : MethodId} {below : List Frame} {meth : Method} {c : Code} {b L t cells slots : Nat} {xs : Nat → Int32} {D : va_G} {q q2 : Nat → Nat} {ca ca2 : Nat → ClassId} {Rel : St → St → Prop} {Qm : State → Prop} (hC : lw_C p s m b meth c L xs D q q2 ca ca2 t) (hcs : cells ≤ room_1.cells ∧ slots ≤ room_1.slots) (hO : ObAll Rel)
    (hend : ∀ σ τ : St, J p l e room_1 s m #[Value.ref b] below meth c Qm D (fun a => s.heap.size ≤ a) 4 cells slots (wX q ca σ ++ wM q2 ca2 τ) 1159 [] []) : ∀ (n k : Nat) (σ τ : St), k ≤ L + 6 → L + 7 - k ≤ n → Rel σ τ → J p l e room_1 s m #[Value.ref b] below meth c Qm D (fun a => s.heap.size ≤ a) 4 cells slots (wX q ca σ ++ wM q2 ca2 τ) 18 [(3, .int (nI k)), (2, .ref (q2 0)), (1, .ref (q 0)), (0, .ref b)] [] := by
  intro n
  induction n with
  | zero => intro k σ τ h1 h2; omega
  | succ n ih =>
    intro k σ τ h1 h2 hR
    have hL := hC.2.2.2.1
    refine j_iload_n hC.1 0 dL_law_18 (pc' := 19) rfl rfl ?_
    refine j_aload_n hC.1 3 dL_law_19 (pc' := 20) rfl rfl ?_
    refine jL_slen hC.1 hC.2.1 hC.2.2.1 (Nat.not_le.mpr hC.2.2.1) dL_law_20 (pc' := 21) rfl ?_
    refine j_bipush hC.1 (v := 6) dL_law_21 (pc' := 23) rfl (by decide) ?_
    refine j_isub hC.1 dL_law_23 (pc' := 24) rfl ?_
    have h6 : (nI L - 6).toInt = (L : Int) - 6 := pk_sub_toInt (a := L) (b := 6) (by omega) (by decide)
    refine j_icmp_gt hC.1 (tgt := 1159) dL_law_24 (pc' := 27) rfl (by decide) (fun _ => ?_) (fun c_ => ?_)
    · refine j_lv [] rfl ?_
      exact hend σ τ
    · have hk6 : k + 6 ≤ L := by
        rcases Nat.lt_or_ge L (k + 6) with h | h
        · refine absurd ?_ c_
          rw [Int32.lt_iff_toInt_lt, h6, nI_toInt (by omega)]
          omega
        · exact h
      refine j_aload_n hC.1 3 dL_law_27 (pc' := 28) rfl rfl ?_
      refine j_iload_n hC.1 0 dL_law_28 (pc' := 29) rfl rfl ?_
      refine jL_sld hC.1 hC.2.1 hC.2.2.1 (Nat.not_le.mpr hC.2.2.1) (j := k) (vp_in_nI (by omega) (by omega)) (nI_clamp (by omega)) dL_law_29 (pc' := 30) rfl ?_
      refine j_bipush hC.1 (v := 31) dL_law_30 (pc' := 32) rfl (by decide) ?_
      refine j_iand hC.1 dL_law_32 (pc' := 33) rfl ?_
      obtain ⟨j, hj, hx⟩ := pk_andE (xs k) (m := 31) 5 (by decide)
      have hnext : ∀ σ τ : St, Rel σ τ → J p l e room_1 s m #[Value.ref b] below meth c Qm D (fun a => s.heap.size ≤ a) 4 cells slots (wX q ca σ ++ wM q2 ca2 τ) 1153 [(3, .int (nI k)), (2, .ref (q2 0)), (1, .ref (q 0)), (0, .ref b)] [] := fun σ τ hR => by
        refine j_iinc hC.1 (v := nI (k + 6)) (q := 0) (lv' := [(3, .int (nI (k + 6))), (2, .ref (q2 0)), (1, .ref (q 0)), (0, .ref b)]) dL_law_1153 (pc' := 1156) rfl rfl (nI_add k 6) (by decide) rfl ?_
        refine j_goto hC.1 (tgt := 18) dL_law_1156 (by decide) ?_
        exact ih (k + 6) σ τ (by omega) (by omega) hR
      match j, hj, hx with
      | 0, _, hx => exact j_tableAt hC.1 (tgt := 176) (n := 0) hx dL_law_33 (by decide) rfl (by decide) (law_c0 hC hcs hk6 (hO.1) σ τ hR hnext)
      | 1, _, hx => exact j_tableAt hC.1 (tgt := 209) (n := 1) hx dL_law_33 (by decide) rfl (by decide) (law_c1 hC hcs hk6 (hO.2.1) σ τ hR hnext)
      | 2, _, hx => exact j_tableAt hC.1 (tgt := 242) (n := 2) hx dL_law_33 (by decide) rfl (by decide) (law_c2 hC hcs hk6 (hO.2.2.1) σ τ hR hnext)
      | 3, _, hx => exact j_tableAt hC.1 (tgt := 285) (n := 3) hx dL_law_33 (by decide) rfl (by decide) (law_c3 hC hcs hk6 (hO.2.2.2.1) σ τ hR hnext)
      | 4, _, hx => exact j_tableAt hC.1 (tgt := 298) (n := 4) hx dL_law_33 (by decide) rfl (by decide) (law_c4 hC hcs hk6 (hO.2.2.2.2.1) σ τ hR hnext)
      | 5, _, hx => exact j_tableAt hC.1 (tgt := 331) (n := 5) hx dL_law_33 (by decide) rfl (by decide) (law_c5 hC hcs hk6 (hO.2.2.2.2.2.1) σ τ hR hnext)
      | 6, _, hx => exact j_tableAt hC.1 (tgt := 344) (n := 6) hx dL_law_33 (by decide) rfl (by decide) (law_c6 hC hcs hk6 (hO.2.2.2.2.2.2.1) σ τ hR hnext)
      | 7, _, hx => exact j_tableAt hC.1 (tgt := 377) (n := 7) hx dL_law_33 (by decide) rfl (by decide) (law_c7 hC hcs hk6 (hO.2.2.2.2.2.2.2.1) σ τ hR hnext)
      | 8, _, hx => exact j_tableAt hC.1 (tgt := 426) (n := 8) hx dL_law_33 (by decide) rfl (by decide) (law_c8 hC hcs hk6 (hO.2.2.2.2.2.2.2.2.1) σ τ hR hnext)
      | 9, _, hx => exact j_tableAt hC.1 (tgt := 439) (n := 9) hx dL_law_33 (by decide) rfl (by decide) (law_c9 hC hcs hk6 (hO.2.2.2.2.2.2.2.2.2.1) σ τ hR hnext)
      | 10, _, hx => exact j_tableAt hC.1 (tgt := 473) (n := 10) hx dL_law_33 (by decide) rfl (by decide) (law_c10 hC hcs hk6 (hO.2.2.2.2.2.2.2.2.2.2.1) σ τ hR hnext)
      | 11, _, hx => exact j_tableAt hC.1 (tgt := 486) (n := 11) hx dL_law_33 (by decide) rfl (by decide) (law_c11 hC hcs hk6 (hO.2.2.2.2.2.2.2.2.2.2.2.1) σ τ hR hnext)
      | 12, _, hx => exact j_tableAt hC.1 (tgt := 509) (n := 12) hx dL_law_33 (by decide) rfl (by decide) (law_c12 hC hcs hk6 (hO.2.2.2.2.2.2.2.2.2.2.2.2.1) σ τ hR hnext)
      | 13, _, hx => exact j_tableAt hC.1 (tgt := 533) (n := 13) hx dL_law_33 (by decide) rfl (by decide) (law_c13 hC hcs hk6 (hO.2.2.2.2.2.2.2.2.2.2.2.2.2.1) σ τ hR hnext)
      | 14, _, hx => exact j_tableAt hC.1 (tgt := 556) (n := 14) hx dL_law_33 (by decide) rfl (by decide) (law_c14 hC hcs hk6 (hO.2.2.2.2.2.2.2.2.2.2.2.2.2.2.1) σ τ hR hnext)
      | 15, _, hx => exact j_tableAt hC.1 (tgt := 569) (n := 15) hx dL_law_33 (by decide) rfl (by decide) (law_c15 hC hcs hk6 (hO.2.2.2.2.2.2.2.2.2.2.2.2.2.2.2.1) σ τ hR hnext)
      | 16, _, hx => exact j_tableAt hC.1 (tgt := 592) (n := 16) hx dL_law_33 (by decide) rfl (by decide) (law_c16 hC hcs hk6 (hO.2.2.2.2.2.2.2.2.2.2.2.2.2.2.2.2.1) σ τ hR hnext)
      | 17, _, hx => exact j_tableAt hC.1 (tgt := 616) (n := 17) hx dL_law_33 (by decide) rfl (by decide) (law_c17 hC hcs hk6 (hO.2.2.2.2.2.2.2.2.2.2.2.2.2.2.2.2.2.1) σ τ hR hnext)
      | 18, _, hx => exact j_tableAt hC.1 (tgt := 669) (n := 18) hx dL_law_33 (by decide) rfl (by decide) (law_c18 hC hcs hk6 (hO.2.2.2.2.2.2.2.2.2.2.2.2.2.2.2.2.2.2.1) σ τ hR hnext)
      | 19, _, hx => exact j_tableAt hC.1 (tgt := 682) (n := 19) hx dL_law_33 (by decide) rfl (by decide) (law_c19 hC hcs hk6 (hO.2.2.2.2.2.2.2.2.2.2.2.2.2.2.2.2.2.2.2.1) σ τ hR hnext)
      | 20, _, hx => exact j_tableAt hC.1 (tgt := 695) (n := 20) hx dL_law_33 (by decide) rfl (by decide) (law_c20 hC hcs hk6 (hO.2.2.2.2.2.2.2.2.2.2.2.2.2.2.2.2.2.2.2.2.1) σ τ hR hnext)
      | 21, _, hx => exact j_tableAt hC.1 (tgt := 728) (n := 21) hx dL_law_33 (by decide) rfl (by decide) (law_c21 hC hcs hk6 (hO.2.2.2.2.2.2.2.2.2.2.2.2.2.2.2.2.2.2.2.2.2.1) σ τ hR hnext)
      | 22, _, hx => exact j_tableAt hC.1 (tgt := 771) (n := 22) hx dL_law_33 (by decide) rfl (by decide) (law_c22 hC hcs hk6 (hO.2.2.2.2.2.2.2.2.2.2.2.2.2.2.2.2.2.2.2.2.2.2.1) σ τ hR hnext)
      | 23, _, hx => exact j_tableAt hC.1 (tgt := 804) (n := 23) hx dL_law_33 (by decide) rfl (by decide) (law_c23 hC hcs hk6 (hO.2.2.2.2.2.2.2.2.2.2.2.2.2.2.2.2.2.2.2.2.2.2.2.1) σ τ hR hnext)
      | 24, _, hx => exact j_tableAt hC.1 (tgt := 838) (n := 24) hx dL_law_33 (by decide) rfl (by decide) (law_c24 hC hcs hk6 (hO.2.2.2.2.2.2.2.2.2.2.2.2.2.2.2.2.2.2.2.2.2.2.2.2.1) σ τ hR hnext)
      | 25, _, hx => exact j_tableAt hC.1 (tgt := 891) (n := 25) hx dL_law_33 (by decide) rfl (by decide) (law_c25 hC hcs hk6 (hO.2.2.2.2.2.2.2.2.2.2.2.2.2.2.2.2.2.2.2.2.2.2.2.2.2.1) σ τ hR hnext)
      | 26, _, hx => exact j_tableAt hC.1 (tgt := 934) (n := 26) hx dL_law_33 (by decide) rfl (by decide) (law_c26 hC hcs hk6 (hO.2.2.2.2.2.2.2.2.2.2.2.2.2.2.2.2.2.2.2.2.2.2.2.2.2.2.1) σ τ hR hnext)
      | 27, _, hx => exact j_tableAt hC.1 (tgt := 957) (n := 27) hx dL_law_33 (by decide) rfl (by decide) (law_c27 hC hcs hk6 (hO.2.2.2.2.2.2.2.2.2.2.2.2.2.2.2.2.2.2.2.2.2.2.2.2.2.2.2.1) σ τ hR hnext)
      | 28, _, hx => exact j_tableAt hC.1 (tgt := 1010) (n := 28) hx dL_law_33 (by decide) rfl (by decide) (law_c28 hC hcs hk6 (hO.2.2.2.2.2.2.2.2.2.2.2.2.2.2.2.2.2.2.2.2.2.2.2.2.2.2.2.2.1) σ τ hR hnext)
      | 29, _, hx => exact j_tableAt hC.1 (tgt := 1053) (n := 29) hx dL_law_33 (by decide) rfl (by decide) (law_c29 hC hcs hk6 (hO.2.2.2.2.2.2.2.2.2.2.2.2.2.2.2.2.2.2.2.2.2.2.2.2.2.2.2.2.2.1) σ τ hR hnext)
      | 30, _, hx => exact j_tableAt hC.1 (tgt := 1116) (n := 30) hx dL_law_33 (by decide) rfl (by decide) (law_c30 hC hcs hk6 (hO.2.2.2.2.2.2.2.2.2.2.2.2.2.2.2.2.2.2.2.2.2.2.2.2.2.2.2.2.2.2.1) σ τ hR hnext)
      | 31, _, hx => exact j_tableAt hC.1 (tgt := 1139) (n := 31) hx dL_law_33 (by decide) rfl (by decide) (law_c31 hC hcs hk6 (hO.2.2.2.2.2.2.2.2.2.2.2.2.2.2.2.2.2.2.2.2.2.2.2.2.2.2.2.2.2.2.2) σ τ hR hnext)
      | j + 32, h, _ => exact absurd h (by omega)
