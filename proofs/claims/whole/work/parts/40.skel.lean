/-! THE CLAIM OUT OF ONE WALK OF THE LAW'S BODY. Your part is whole_start (and what it stands on); all else here is the same for every law, but numbers. -/
def R_law : String := "TrueArmsLaw"
def lw_P (b : Addr) (xs : List Int32) (args : Array Value) (s : State) : Prop := args = #[.ref b] ∧ s.IntsAt b xs ∧ xs.length ≤ 3072 ∧ (Jvm.Cond.and given_1 narrow_1).before args s = true
def lw_Q (_ : Array Value) (s : State) (o : Outcome) (t : State) : Prop := o = .returned (some (.int 1)) ∧ Framed s o t [] 600000 7302250
def lw_Z (below : List Frame) (a : Array Value) (s : State) : State → Prop := fun t => ∃ o, t.status = .running ∧ Ended t below o ∧ lw_Q a s o t
/-- the law's own end, with 1 on the stack, nothing written that was there before, its room as the claim has it -/
theorem lw_ret {p : Program} {l : Launch} {e : Env} {s : State} {m : MethodId} {below : List Frame} {meth : Method} {c : Code} {b : Nat} (hx : p.tables.exec = Jvm.exec) (hb : c.code = code) (hr : meth.sig.returnType = ret) (hlocks : meth.locks = false) {pc : Nat} {H : Heap} {ls : Array Slot} (hdg : decode code pc = .ok (.ireturn, 1)) : W p l e room_1 s m #[Value.ref b] below meth c H [] 600000 7302250 (lw_Z below #[Value.ref b] s) (F0 m pc ls [.int 1]) := by
  intro T hT X
  obtain ⟨fs, hret, hrun, hended, hW, hframe⟩ := X.leave (v := some (.int 1)) (hlocks := hlocks) (fun h => by rw [hr] at h; cases h)
  have hmeth' : T.vm.method? m = some meth := X.method'
  refine ⟨T.setFrames fs, ?_, .returned (some (.int 1)), hrun, hended, rfl, ⟨_, rfl⟩, hW, hframe⟩
  jvm_step X.here [X.here.top, hx, hb, hdg, hmeth', hr, ret, narrow_b1]
  (try refine ⟨rfl, ?_⟩); (try refine ⟨rfl, ?_⟩)
  first | (intro acts; rw [hret _ acts rfl rfl rfl]) | rw [hret _ _ rfl rfl rfl]
  exact Steps.refl _
/-- what holds at the law's entry: the machine, the code, the tables' words (any of lw_tbl by 'hts w (by decide +kernel)'), the script of L ints xs at the cell b, what the Statement gives of the start (any of its parts by flat_of_before) -/
def lw_At (p : Program) (s : State) (m : MethodId) (meth : Method) (c : Code) (b L : Nat) (xs : Nat → Int32) : Prop :=
  p.tables.exec = Jvm.exec ∧ c.code = code ∧ meth.sig.returnType = ret ∧ c.maxLocals = 4 ∧ s.vm.findClass R_law = some m.cls ∧ (∀ w ∈ lw_tbl, w.before #[Value.ref b] s = true) ∧ va_X b L xs s s.heap ∧ b < s.heap.size ∧ meth.locks = false ∧ (Jvm.Cond.and given_1 narrow_1).before #[Value.ref b] s = true
set_option maxHeartbeats 4000000 in
set_option maxRecDepth 100000 in
theorem lw_stat {s : State} {b : Nat} (hts : ∀ w ∈ lw_tbl, w.before #[Value.ref b] s = true) (hgv : (Jvm.Cond.and given_1 narrow_1).before #[Value.ref b] s = true) : ∃ t : Nat, va_Z RX3 "C_OF" "[I" (.ref t) (fun a => s.heap.size ≤ a) s s.heap ∧ va_T .int t 36 (fun j => .int (COF j)) (fun a => s.heap.size ≤ a) s s.heap := by
  have hs := flat_of_before _ hgv
  have harr : (Cond.arrayOf (.static "TrueArms$Headings" "C_OF" "[I") .int).before #[Value.ref b] s = true := hs _ (by decide +kernel)
  have hlen : (Term.length (.static "TrueArms$Headings" "C_OF" "[I")).eval #[Value.ref b] s none [] s = some (.int (Int32.ofNat 36)) := va_eqt (hs (Cond.eq (.length (.static "TrueArms$Headings" "C_OF" "[I")) (.int 36)) (by decide +kernel))
  have hA : ∀ a : Nat, a < s.heap.size → ¬ (fun a : Nat => s.heap.size ≤ a) a := fun a h => Nat.not_le.mpr h
  obtain ⟨t, h1, h2⟩ := va_Tof (N := 36) (f := fun j => .int (COF j)) (A := fun a => s.heap.size ≤ a) (by decide) harr hlen (fun j hj => by
      match j, hj with
      | 0, _ => exact va_eqt (hs (Cond.eq (.elem (.static "TrueArms$Headings" "C_OF" "[I") (.int 0)) (.int (65))) (by decide +kernel))
      | 1, _ => exact va_eqt (hs (Cond.eq (.elem (.static "TrueArms$Headings" "C_OF" "[I") (.int 1)) (.int (63))) (by decide +kernel))
      | 2, _ => exact va_eqt (hs (Cond.eq (.elem (.static "TrueArms$Headings" "C_OF" "[I") (.int 2)) (.int (60))) (by decide +kernel))
      | 3, _ => exact va_eqt (hs (Cond.eq (.elem (.static "TrueArms$Headings" "C_OF" "[I") (.int 3)) (.int (56))) (by decide +kernel))
      | 4, _ => exact va_eqt (hs (Cond.eq (.elem (.static "TrueArms$Headings" "C_OF" "[I") (.int 4)) (.int (52))) (by decide +kernel))
      | 5, _ => exact va_eqt (hs (Cond.eq (.elem (.static "TrueArms$Headings" "C_OF" "[I") (.int 5)) (.int (39))) (by decide +kernel))
      | 6, _ => exact va_eqt (hs (Cond.eq (.elem (.static "TrueArms$Headings" "C_OF" "[I") (.int 6)) (.int (33))) (by decide +kernel))
      | 7, _ => exact va_eqt (hs (Cond.eq (.elem (.static "TrueArms$Headings" "C_OF" "[I") (.int 7)) (.int (25))) (by decide +kernel))
      | 8, _ => exact va_eqt (hs (Cond.eq (.elem (.static "TrueArms$Headings" "C_OF" "[I") (.int 8)) (.int (16))) (by decide +kernel))
      | 9, _ => exact va_eqt (hs (Cond.eq (.elem (.static "TrueArms$Headings" "C_OF" "[I") (.int 9)) (.int (0))) (by decide +kernel))
      | 10, _ => exact va_eqt (hs (Cond.eq (.elem (.static "TrueArms$Headings" "C_OF" "[I") (.int 10)) (.int (-16))) (by decide +kernel))
      | 11, _ => exact va_eqt (hs (Cond.eq (.elem (.static "TrueArms$Headings" "C_OF" "[I") (.int 11)) (.int (-25))) (by decide +kernel))
      | 12, _ => exact va_eqt (hs (Cond.eq (.elem (.static "TrueArms$Headings" "C_OF" "[I") (.int 12)) (.int (-33))) (by decide +kernel))
      | 13, _ => exact va_eqt (hs (Cond.eq (.elem (.static "TrueArms$Headings" "C_OF" "[I") (.int 13)) (.int (-39))) (by decide +kernel))
      | 14, _ => exact va_eqt (hs (Cond.eq (.elem (.static "TrueArms$Headings" "C_OF" "[I") (.int 14)) (.int (-52))) (by decide +kernel))
      | 15, _ => exact va_eqt (hs (Cond.eq (.elem (.static "TrueArms$Headings" "C_OF" "[I") (.int 15)) (.int (-56))) (by decide +kernel))
      | 16, _ => exact va_eqt (hs (Cond.eq (.elem (.static "TrueArms$Headings" "C_OF" "[I") (.int 16)) (.int (-60))) (by decide +kernel))
      | 17, _ => exact va_eqt (hs (Cond.eq (.elem (.static "TrueArms$Headings" "C_OF" "[I") (.int 17)) (.int (-63))) (by decide +kernel))
      | 18, _ => exact va_eqt (hs (Cond.eq (.elem (.static "TrueArms$Headings" "C_OF" "[I") (.int 18)) (.int (-65))) (by decide +kernel))
      | 19, _ => exact va_eqt (hs (Cond.eq (.elem (.static "TrueArms$Headings" "C_OF" "[I") (.int 19)) (.int (-63))) (by decide +kernel))
      | 20, _ => exact va_eqt (hs (Cond.eq (.elem (.static "TrueArms$Headings" "C_OF" "[I") (.int 20)) (.int (-60))) (by decide +kernel))
      | 21, _ => exact va_eqt (hs (Cond.eq (.elem (.static "TrueArms$Headings" "C_OF" "[I") (.int 21)) (.int (-56))) (by decide +kernel))
      | 22, _ => exact va_eqt (hs (Cond.eq (.elem (.static "TrueArms$Headings" "C_OF" "[I") (.int 22)) (.int (-52))) (by decide +kernel))
      | 23, _ => exact va_eqt (hs (Cond.eq (.elem (.static "TrueArms$Headings" "C_OF" "[I") (.int 23)) (.int (-39))) (by decide +kernel))
      | 24, _ => exact va_eqt (hs (Cond.eq (.elem (.static "TrueArms$Headings" "C_OF" "[I") (.int 24)) (.int (-33))) (by decide +kernel))
      | 25, _ => exact va_eqt (hs (Cond.eq (.elem (.static "TrueArms$Headings" "C_OF" "[I") (.int 25)) (.int (-25))) (by decide +kernel))
      | 26, _ => exact va_eqt (hs (Cond.eq (.elem (.static "TrueArms$Headings" "C_OF" "[I") (.int 26)) (.int (-16))) (by decide +kernel))
      | 27, _ => exact va_eqt (hs (Cond.eq (.elem (.static "TrueArms$Headings" "C_OF" "[I") (.int 27)) (.int (0))) (by decide +kernel))
      | 28, _ => exact va_eqt (hs (Cond.eq (.elem (.static "TrueArms$Headings" "C_OF" "[I") (.int 28)) (.int (16))) (by decide +kernel))
      | 29, _ => exact va_eqt (hs (Cond.eq (.elem (.static "TrueArms$Headings" "C_OF" "[I") (.int 29)) (.int (25))) (by decide +kernel))
      | 30, _ => exact va_eqt (hs (Cond.eq (.elem (.static "TrueArms$Headings" "C_OF" "[I") (.int 30)) (.int (33))) (by decide +kernel))
      | 31, _ => exact va_eqt (hs (Cond.eq (.elem (.static "TrueArms$Headings" "C_OF" "[I") (.int 31)) (.int (39))) (by decide +kernel))
      | 32, _ => exact va_eqt (hs (Cond.eq (.elem (.static "TrueArms$Headings" "C_OF" "[I") (.int 32)) (.int (52))) (by decide +kernel))
      | 33, _ => exact va_eqt (hs (Cond.eq (.elem (.static "TrueArms$Headings" "C_OF" "[I") (.int 33)) (.int (56))) (by decide +kernel))
      | 34, _ => exact va_eqt (hs (Cond.eq (.elem (.static "TrueArms$Headings" "C_OF" "[I") (.int 34)) (.int (60))) (by decide +kernel))
      | 35, _ => exact va_eqt (hs (Cond.eq (.elem (.static "TrueArms$Headings" "C_OF" "[I") (.int 35)) (.int (63))) (by decide +kernel))
      | j + 36, h => exact absurd h (by omega)) hA
  exact ⟨t, va_Zof (hts (Cond.laysStatic "TrueArms$Headings" "C_OF" "[I") (List.mem_append_right _ (List.mem_append_left _ (List.mem_of_getElem? (i := 186) rfl)))) (hts (Cond.initialized "TrueArms$Headings") (List.mem_filter.mp wm_9).1) h1 hA, h2⟩
set_option maxHeartbeats 4000000 in
set_option maxRecDepth 100000 in
/-- THE LAW, from its entry -/
theorem whole_start {p : Program} {e : Env} {s : State} {m : MethodId} {below : List Frame} {meth : Method} {c : Code} (l : Launch) {b L : Nat} {xs : Nat → Int32} (hL : L ≤ 3072) (C0 : lw_At p s m meth c b L xs) : W p l e room_1 s m #[Value.ref b] below meth c s.heap [] 0 0 (lw_Z below #[Value.ref b] s) (entryFrame m ([Value.ref b] : List Value).toArray 4) := by
  obtain ⟨hx, hb, hr, hml, hown, hts, hX, hbl, hlocks, hgv⟩ := C0
  obtain ⟨t, hZ⟩ := lw_stat hts hgv
  have htA : ∀ w ∈ wAll, w.before #[Value.ref b] s = true := fun w h => hts w (List.mem_filter.mp h).1
  have hA : ∀ q : Nat, s.heap.size ≤ q → (fun q : Nat => s.heap.size ≤ q) q := fun _ h => h
  obtain ⟨c0, iS0, hKn0⟩ := u_known (C := RX0) (T := TX0) (N := 4) (n := 4) htA inA_X0 (htA (.instantiable RX0 4) wm_23)
  obtain ⟨c1, iS1, hKn1⟩ := u_known (C := RX1) (T := TX1) (N := 5) (n := 5) htA inA_X1 (htA (.instantiable RX1 5) wm_66)
  obtain ⟨c2, iS2, hKn2⟩ := u_known (C := RX2) (T := TX2) (N := 4) (n := 4) htA inA_X2 (htA (.instantiable RX2 4) wm_89)
  obtain ⟨c3, iS3, hKn3⟩ := u_known (C := RX4) (T := TX4) (N := 3) (n := 3) htA inA_X4 (htA (.instantiable RX4 3) wm_125)
  obtain ⟨c4, iS4, hKn4⟩ := u_known (C := RX5) (T := TX5) (N := 2) (n := 2) htA inA_X5 (htA (.instantiable RX5 2) wm_110)
  obtain ⟨c5, iS5, hKn5⟩ := u_known (C := RX6) (T := TX6) (N := 3) (n := 3) htA inA_X6 (htA (.instantiable RX6 3) wm_47)
  obtain ⟨c6, iS6, hKn6⟩ := u_known (C := RX7) (T := TX7) (N := 9) (n := 9) htA inA_X7 (htA (.instantiable RX7 9) wm_15)
  obtain ⟨c7, iS7, hKn7⟩ := u_known (C := RX8) (T := TX8) (N := 24) (n := 24) htA inA_X8 (htA (.instantiable RX8 24) wm_559)
  obtain ⟨D, hKc⟩ : ∃ (D : va_G), ∀ (k : Nat) (q : vw_C), vwCl[k]? = some q → u_Kn s q.1 q.2.1 q.2.2 (D.1 k) (D.2 k) := by
    refine ⟨(fun k => if k = 0 then c0 else if k = 1 then c1 else if k = 2 then c2 else if k = 3 then c3 else if k = 4 then c4 else if k = 5 then c5 else if k = 6 then c6 else c7, fun k => if k = 0 then iS0 else if k = 1 then iS1 else if k = 2 then iS2 else if k = 3 then iS3 else if k = 4 then iS4 else if k = 5 then iS5 else if k = 6 then iS6 else iS7), ?_⟩
    intro k q hq
    match k, hq with
    | 0, hq => cases hq; exact hKn0
    | 1, hq => cases hq; exact hKn1
    | 2, hq => cases hq; exact hKn2
    | 3, hq => cases hq; exact hKn3
    | 4, hq => cases hq; exact hKn4
    | 5, hq => cases hq; exact hKn5
    | 6, hq => cases hq; exact hKn6
    | 7, hq => cases hq; exact hKn7
    | k + 8, hq => simp [vwCl] at hq
  have hK : va_K D vwCl [] s := ⟨hKc, fun k q h => by simp at h⟩
  have hC : Cx p s m #[Value.ref b] meth c code 4 RL ret D [] (fun _ _ => True) := ⟨hx, hb, hml, hown, htA, hK, trivial, hr, hlocks⟩
  have hP : va_P D vwCl [] s.heap := fun k q h => by simp at h
  have hD : va_D (fun q : Nat => s.heap.size ≤ q) [] := ⟨fun i j p q h => by simp at h, fun k q h => by simp at h⟩
  have hl := lv_entry ([.ref b]) (n := 4) (Nat.le_of_ble_eq_true rfl)
  rw [lg_entry_eq]
  have hov : va_AO RX4 s := va_AO.of (hts (Cond.arrayOver (.object "TrueArms$Sheet")) (List.mem_append_right _ (List.mem_append_left _ (List.mem_of_getElem? (i := 125) rfl))))
  suffices hJ : J p l e room_1 s m #[Value.ref b] below meth c (lw_Z below #[Value.ref b] s) D (fun q : Nat => s.heap.size ≤ q) 4 0 0 [] 0 [(0, .ref b)] [] from hJ s.heap [] _ hP hD va_S.rf hl
  refine j_new hC hA (ci := 6) (fs := [.null, .null, .null, .null, .null, .null, .null, .null, .int 0]) tyX7 inA_X7 tyX7_ok wm_14 wm_15 wm_1 rfl (fun j hj => by rcases (show j = 0 ∨ j = 1 ∨ j = 2 ∨ j = 3 ∨ j = 4 ∨ j = 5 ∨ j = 6 ∨ j = 7 ∨ j = 8 by omega) with rfl | rfl | rfl | rfl | rfl | rfl | rfl | rfl | rfl <;> rfl) (Nat.le_of_ble_eq_true rfl) (Nat.le_of_ble_eq_true rfl) dL_law_0 (pc' := 3) rfl (fun x0 => ?_)
  refine j_dup hC dL_law_3 (pc' := 4) rfl rfl ?_
  refine jcI hC hA (ex := va_AO RX4) (rest := []) (mk_X7 x0) hov (fun _ _ a h => va_AO.moved a h) wm_16 wm_17 wm_1 wm_18 rfl (by decide +kernel) ⟨rfl, rfl⟩ ⟨Nat.le_of_ble_eq_true rfl, Nat.le_of_ble_eq_true rfl⟩ ⟨Nat.le_of_ble_eq_true rfl, Nat.le_of_ble_eq_true rfl⟩ (Nat.le_of_ble_eq_true rfl) dL_law_4 (pc' := 7) rfl (fun u pu hC => ?_)
  obtain ⟨q, ca, f⟩ := u
  obtain ⟨hq0, hf⟩ := pu
  refine j_wsE (ws' := wX q ca (iniX f)) rfl ?_
  have hC : Cx p s m #[Value.ref b] meth c code 4 RL ret D (tysX ca) (fun _ _ => True) := hC
  refine j_astore_n hC (lv' := [(1, .ref x0), (0, .ref b)]) dL_law_7 (pc' := 8) rfl rfl (by decide) rfl ?_
  refine j_new hC hA (ci := 7) (fs := [.null, .null, .int 0, .null, .null, .null, .int 0, .null, .null, .null, .int 0, .null, .null, .null, .null, .null, .null, .long 0, .int 0, .null, .null, .null, .null, .int 0]) tyX8 inA_X8 tyX8_ok wm_558 wm_559 wm_8 rfl (fun j hj => by rcases (show j = 0 ∨ j = 1 ∨ j = 2 ∨ j = 3 ∨ j = 4 ∨ j = 5 ∨ j = 6 ∨ j = 7 ∨ j = 8 ∨ j = 9 ∨ j = 10 ∨ j = 11 ∨ j = 12 ∨ j = 13 ∨ j = 14 ∨ j = 15 ∨ j = 16 ∨ j = 17 ∨ j = 18 ∨ j = 19 ∨ j = 20 ∨ j = 21 ∨ j = 22 ∨ j = 23 by omega) with rfl | rfl | rfl | rfl | rfl | rfl | rfl | rfl | rfl | rfl | rfl | rfl | rfl | rfl | rfl | rfl | rfl | rfl | rfl | rfl | rfl | rfl | rfl | rfl <;> rfl) (Nat.le_of_ble_eq_true rfl) (Nat.le_of_ble_eq_true rfl) dL_law_8 (pc' := 11) rfl (fun m0 => ?_)
  refine j_dup hC dL_law_11 (pc' := 12) rfl rfl ?_
  refine jcI hC hA (ex := fun _ => True) (mk_X8 m0 (fun τ => RelX (iniX f) τ) (rel_init f hf)) trivial (fun _ _ _ z => z) wm_560 wm_561 wm_8 wm_562 rfl (by decide +kernel) ⟨rfl, rfl⟩ ⟨Nat.le_of_ble_eq_true rfl, Nat.le_of_ble_eq_true rfl⟩ ⟨Nat.le_of_ble_eq_true rfl, Nat.le_of_ble_eq_true rfl⟩ (Nat.le_of_ble_eq_true rfl) dL_law_12 (pc' := 15) rfl (fun u pu hC => ?_)
  obtain ⟨q2, ca2, τ⟩ := u
  obtain ⟨hm0, hR⟩ := pu
  refine j_wsE (ws' := wX q ca (iniX f) ++ wM q2 ca2 τ) rfl ?_
  have hC : Cx p s m #[Value.ref b] meth c code 4 RL ret D (tysX ca ++ tysM ca2) (fun _ _ => True) := hC
  have hq0 : q 0 = x0 := hq0
  have hm0 : q2 0 = m0 := hm0
  have hR : RelX (iniX f) τ := hR
  subst hq0
  subst hm0
  refine j_astore_n hC (lv' := [(2, .ref (q2 0)), (1, .ref (q 0)), (0, .ref b)]) dL_law_15 (pc' := 16) rfl rfl (by decide) rfl ?_
  refine j_iconst hC (v := 0) dL_law_16 (pc' := 17) rfl (by decide) ?_
  refine j_istore_n hC (lv' := [(3, .int (nI 0)), (2, .ref (q2 0)), (1, .ref (q 0)), (0, .ref b)]) dL_law_17 (pc' := 18) rfl rfl (by decide) rfl ?_
  intro H locs ls hP hD hS hl
  have hdis : qok 28 q ∧ qok 19 q2 := by
    have key : ∀ (i : Nat), i < 28 → ∃ e, (wX q ca (iniX f) ++ wM q2 ca2 τ)[i]? = some (q i, e) := by
      intro i hi
      obtain ⟨k, e, hk⟩ := AX_in q ca (iniX f) (q i) ⟨i, hi, rfl⟩
      have hm : ((wX q ca (iniX f)).map Prod.fst)[i]? = some (q i) := by
        rw [show (wX q ca (iniX f)).map Prod.fst = (List.range 28).map q from rfl, List.getElem?_map, List.getElem?_range hi]; rfl
      rw [List.getElem?_map] at hm
      cases hw : (wX q ca (iniX f))[i]? with
      | none => rw [hw] at hm; cases hm
      | some y => rw [hw] at hm; exact ⟨y.2, by rw [List.getElem?_append_left hi, hw, ← Option.some.inj hm]⟩
    have key2 : ∀ (i : Nat), i < 19 → ∃ e, (wX q ca (iniX f) ++ wM q2 ca2 τ)[28 + i]? = some (q2 i, e) := by
      intro i hi
      have hm : ((wM q2 ca2 τ).map Prod.fst)[i]? = some (q2 i) := by
        rw [show (wM q2 ca2 τ).map Prod.fst = (List.range 19).map q2 from rfl, List.getElem?_map, List.getElem?_range hi]; rfl
      rw [List.getElem?_map] at hm
      cases hw : (wM q2 ca2 τ)[i]? with
      | none => rw [hw] at hm; cases hm
      | some y =>
        rw [hw] at hm
        refine ⟨y.2, ?_⟩
        rw [List.getElem?_append_right (by show 28 ≤ 28 + i; omega), show 28 + i - (wX q ca (iniX f)).length = i from by show 28 + i - 28 = i; omega, hw, ← Option.some.inj hm]
    refine ⟨fun i j h1 h2 h3 => ?_, fun i j h1 h2 h3 => ?_⟩
    · obtain ⟨e1, k1⟩ := key i h1
      obtain ⟨e2, k2⟩ := key j h2
      exact hD.1 i j _ _ k1 k2 h3
    · obtain ⟨e1, k1⟩ := key2 i h1
      obtain ⟨e2, k2⟩ := key2 j h2
      have := hD.1 _ _ _ _ k1 k2 h3
      omega
  have hCC : lw_C p s m b meth c L xs D q q2 ca ca2 t := ⟨hC, hX, hbl, hL, hdis.1, hdis.2, hZ⟩
  refine law_loop hCC ⟨Nat.le_of_ble_eq_true rfl, Nat.le_of_ble_eq_true rfl⟩ obAll (fun σ τ => ?_) (L + 7) 0 (iniX f) τ (Nat.zero_le _) (by omega) hR H locs ls hP hD hS hl
  intro H locs ls hP hD hS hl
  refine lv_iconst (v := 1) hx hb dL_law_1159 (by decide) ?_
  refine va_forget hS.2.2 ?_
  refine W.widen (k := 600000) (n := 7302250) (Nat.le_of_ble_eq_true rfl) (Nat.le_of_ble_eq_true rfl) ?_
  exact lw_ret hx hb hr hlocks dL_law_1160
set_option maxHeartbeats 4000000 in
theorem lw_walk (l : Launch) (b : Addr) (xs : List Int32) : MetFree l x (headSpec (Jvm.Cond.code x code maxLocals ret :: tables_1) room_1) (lw_P b xs) (fun _ _ _ _ _ => True) lw_Q := by
  refine MetFree.of_bodyS (code := code) (maxLocals := maxLocals) (ret := ret) (by decide) ?_ ?_
  · intro args s m h hn
    obtain ⟨meth, c, h1, h2, h3, h4, h5, h6, -, -⟩ := Cond.code_spec hn (atoms_spec (ws := Jvm.Cond.code x code maxLocals ret :: tables_1) h _ List.mem_cons_self)
    exact ⟨meth, c, h1, h2, h3, h4, h5, h6⟩
  · intro p e s m args below meth c s₁ B hml0 hP _
    obtain ⟨rfl, hx, hbd, hgv⟩ := hP
    obtain ⟨scr, harrAt, hlist, hof, hsmall⟩ := hx
    obtain ⟨hcb, hkn, -, -⟩ := State.arrayAt?_spec harrAt
    have hown : s.vm.findClass R_law = some m.cls := findClass_of_methodNamed B.named
    have hts0 : ∀ c ∈ (Jvm.Cond.code x code maxLocals ret :: tables_1), c.before #[Value.ref b] s = true := atoms_spec (ws := Jvm.Cond.code x code maxLocals ret :: tables_1) B.pre
    have hts : ∀ w ∈ lw_tbl, w.before #[Value.ref b] s = true := k2_hts_sels lw_privs (fun w hw => hts0 w (List.mem_cons_of_mem _ hw)) lw_privs_ok
    have hml : c.maxLocals = 4 := B.maxLocals_eq (hts0 _ List.mem_cons_self)
    have X₀ : Stand p l e room_1 s m #[Value.ref b] below meth c s₁ [] 0 0 := Stand.of_body B
    have hh0 : s₁.heap = s.heap := by rw [B.state]; rfl
    have hsz : scr.slots.size = xs.length := by rw [← Array.length_toList, hlist, List.length_map]
    have hval : ∀ j : Nat, j < xs.length → scr.slots[j]? = some (.int (xs.getD j 0)) := fun j hj => by
      rw [← Array.getElem?_toList, hlist]
      simp [hj]
    have hbl : b < s.heap.size := (Array.getElem?_eq_some_iff.mp hcb).1
    have hX : va_X b xs.length (fun j => xs.getD j 0) s s.heap := ⟨scr, hcb, hof, hkn, hsz, hval⟩
    have K : W p l e room_1 s m #[Value.ref b] below meth c s₁.heap [] 0 0 (lw_Z below #[Value.ref b] s) (entryFrame m ([Value.ref b] : List Value).toArray 4) := by
      rw [hh0]
      exact whole_start l hbd ⟨B.exec, B.bytes, B.returns, hml, hown, hts, hX, hbl, B.notSynchronized, hgv⟩
    obtain ⟨t, a1, o, b1, b2, b3⟩ := K s₁ rfl X₀
    exact ⟨t, o, a1, b1, b2, b3⟩
theorem lw_pre_spec {args : Array Value} {s : State} (h : (Jvm.Cond.and given_1 narrow_1).before args s = true) (hr : rest_1_c.before args s = true) : ∃ (b : Addr) (xs : List Int32), lw_P b xs args s := by
  have hs := flat_of_before _ h
  have hq := flat_of_before _ hr
  have hc : (Cond.count 1).before args s = true := hs _ (by decide +kernel)
  have harr : (Cond.arrayOf (.arg 0) .int).before args s = true := hs _ (by decide +kernel)
  have hle : (Cond.le (.length (.arg 0)) (.int 3072)).before args s = true := hs _ (by decide +kernel)
  have hlen : (Cond.isInt (.length (.arg 0))).before args s = true := hq _ (by decide +kernel)
  have hall : (Cond.all (.arg 0) (.isInt (.elem (.arg 0) (.index 0)))).before args s = true := hq _ (by decide +kernel)
  obtain ⟨b, xs, hb, hx⟩ := State.ints_of_pre rfl harr hlen hall
  have hsm : xs.length < 2 ^ 31 := hx.choose_spec.2.2.2
  have hev : (Term.length (.arg 0)).eval args s none [] s = some (.int xs.length.toInt32) := hx.length_eval hb
  have hv := Cond.le_ints hev (show (Term.int 3072).eval args s none [] s = some (.int 3072) from rfl)
  have hd : xs.length.toInt32 ≤ 3072 := by
    simpa [Cond.before, Cond.holds, hv] using hle
  have hN : xs.length ≤ 3072 := (Int32.ofNat_le_ofNat hsm (by decide)).mp (show Int32.ofNat xs.length ≤ Int32.ofNat 3072 from hd)
  exact ⟨b, xs, Cond.one_arg hc (show args[0]? = some (.ref b) from hb), hx, hN, h⟩
theorem lw_comes (l : Launch) : Comes l x (Jvm.Cond.code x code maxLocals ret :: tables_1) room_1 (fun tb e args s => Calls_1 tb e args s ∧ rest_1 tb e args s ∧ Pre_1 tb e args s)
    (fun _ _ args s o t => lw_Q args s o t) := by
  intro p e ha hc hk s m args below hf hfit hheap happ hpre
  obtain ⟨b, xs, hP⟩ := lw_pre_spec hpre.2.2 hpre.2.1
  obtain ⟨k, o, h1, h2, h3, hQ⟩ := lw_walk l b xs p e ha hc hk s m args below hf ((Spec.applies_iff_loose hf).mp happ).1 hP trivial
  exact ⟨k, o, h1, h2, h3, hQ⟩
theorem lw_frame {s t : State} {o : Outcome} {args : Array Value} (h : Framed s o t [] 600000 7302250) :
    Framed s o t (fieldLocs frame_1_writes args s ++ arrayLocs frame_1_arrays args s ++ staticLocs frame_1_statics s) 600000 7302250 := h
theorem lw_limb (L : Cond) (hL : ∀ (args : Array Value) (s t : State), L.after args s (.returned (some (.int 1))) t = true) :
    ArmFor flags0 classFile x code maxLocals ret World_1 tables_1 room_1 Calls_1 rest_1 Pre_1
      (fun tb e a s o t => postC L tb e a s o t ∧ Framed s o t (fieldLocs frame_1_writes a s ++ arrayLocs frame_1_arrays a s ++ staticLocs frame_1_statics s) 600000 7302250) := by
  intro l _ _ _ p e ha hc hk s m args below hf hfit hheap happ hpre
  obtain ⟨k, o, h1, h2, h3, rfl, hF⟩ := lw_comes l p e ha hc hk s m args below hf hfit hheap happ hpre
  exact ⟨k, _, h1, h2, h3, hL args s _, lw_frame hF⟩
theorem i_vc : Claimed_1_1 ∧ Claimed_1_2 := ⟨lw_limb limb_1_1 (fun args s t => by simp [limb_1_1, Cond.after, Cond.holds, Cond.value]), lw_limb limb_1_2 (fun args s t => Cond.after_iff.mpr (by
  first | (rw [show limb_1_2 = Cond.eq .result (.int 1) from rfl, Cond.eq_ints (x := 1) (y := 1) rfl rfl]; simp; done) | (simp [limb_1_2, Cond.value, Term.eval]; done)))⟩

