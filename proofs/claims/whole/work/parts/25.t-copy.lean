/-! ===== copy ===== -/
theorem sub_small {n : Nat} {a : Int32} (hn : n ≤ 100) (ha : 0 ≤ a.toInt) : (nI n - a).toInt = (n : Int) - a.toInt := by
  have h1 := Int32.toInt_lt a
  have h2 : (nI n).toInt = n := nI_toInt (by omega)
  rw [Int32.toInt_sub, h2, Int.bmod_eq_of_le (by omega) (by omega)]
theorem hasRun1 {σ : St} {k n : Nat} {a c : Int32} {Q : Int32 → St → Prop} (hz : σ.1 (28 + k) 0 = nI n) (hn : n ≤ 100) (h : 0 ≤ a.toInt ∧ 0 ≤ c.toInt ∧ a.toInt + c.toInt ≤ n) (q : Q 1 σ) : f_X4_hasRun k a c σ Q := by
  obtain ⟨h1, h2, h3⟩ := h
  unfold f_X4_hasRun
  refine bf (by rw [i32_lt, Int32.toInt_zero]; omega) (bf (by rw [i32_lt, Int32.toInt_zero]; omega) (bf ?_ q))
  rw [hz, i32_lt, sub_small hn h1]; omega
theorem hasRun0 {σ : St} {k n : Nat} {a c : Int32} {Q : Int32 → St → Prop} (hz : σ.1 (28 + k) 0 = nI n) (hn : n ≤ 100) (h : ¬ (0 ≤ a.toInt ∧ 0 ≤ c.toInt ∧ a.toInt + c.toInt ≤ n)) (q : Q 0 σ) : f_X4_hasRun k a c σ Q := by
  unfold f_X4_hasRun
  refine ⟨fun _ => q, fun c1 => ⟨fun _ => q, fun c2 => ⟨fun _ => q, fun c3 => absurd ?_ h⟩⟩⟩
  rw [i32_lt, Int32.toInt_zero] at c1 c2
  rw [hz, i32_lt, sub_small hn (by omega)] at c3
  exact ⟨by omega, by omega, by omega⟩
theorem move1_loop {Q : Int32 → St → Prop} {s i t j n : Nat} (hs : s < 4) (hi : i + n ≤ 100) : ∀ (m a : Nat) (σ : St), a + m = n → (∀ σ' : St, (∀ x, x ≠ 25 → σ'.1 x = σ.1 x) → (∀ b, b < a → σ'.1 25 b = σ.1 25 b) → (∀ b, a ≤ b → b < n → σ'.1 25 b = σ.1 24 (100 * s + i + b)) → ∃ n25 : Nat, f_X8_copy_b157 Q n25 (nI t) (nI j) (nI n) (0 : Int32) σ') → f_X8_copy_b120 Q (m + 1) (nI s) (nI i) (nI t) (nI j) (nI n) (nI a) σ := by
  intro m
  induction m with
  | zero =>
    intro a σ ha hQ
    have : a = n := by omega
    subst this
    unfold f_X8_copy_b120
    exact bt (Int32.le_refl _) (hQ σ (fun _ _ => rfl) (fun _ _ => rfl) (fun b h1 h2 => by omega))
  | succ m ih =>
    intro a σ ha hQ
    unfold f_X8_copy_b120
    rw [ix100, nI_add, nI_clamp (by omega), nI_clamp (by omega), nI_1]
    refine bf (nI_ge (a := a) (b := n) (by omega) (by omega)) ⟨vp_in_nI (by omega) (by decide), vp_in_nI (by omega) (by decide), nmx (nmx ?_)⟩
    refine ih (a + 1) _ (by omega) (fun σ' h1 h2 h3 => ?_)
    refine hQ σ' (fun x hx => (h1 x hx).trans (sI_at hx)) (fun b hb => ?_) (fun b h4 h5 => ?_)
    · rw [h2 b (by omega), sI_on, pk_un (by omega)]
    · by_cases e : b = a
      · subst e; rw [h2 b (by omega), sI_on, pk_us]
      · rw [h3 b (by omega) h5, sI_at (by decide)]
theorem move2_loop {Q : Int32 → St → Prop} {t j n : Nat} (ht : t < 4) (hj : j + n ≤ 100) : ∀ (m a : Nat) (σ : St), a + m = n → (∀ σ' : St, (∀ x, x ≠ 24 → σ'.1 x = σ.1 x) → (∀ x, (x < 100 * t + j + a ∨ 100 * t + j + n ≤ x) → σ'.1 24 x = σ.1 24 x) → (∀ b, a ≤ b → b < n → σ'.1 24 (100 * t + j + b) = σ.1 25 b) → Q 1 σ') → f_X8_copy_b157 Q (m + 1) (nI t) (nI j) (nI n) (nI a) σ := by
  intro m
  induction m with
  | zero =>
    intro a σ ha hQ
    have : a = n := by omega
    subst this
    unfold f_X8_copy_b157
    exact bt (Int32.le_refl _) (hQ σ (fun _ _ => rfl) (fun _ _ => rfl) (fun b h1 h2 => by omega))
  | succ m ih =>
    intro a σ ha hQ
    unfold f_X8_copy_b157
    rw [ix100, nI_add, nI_clamp (by omega), nI_clamp (by omega), nI_1]
    refine bf (nI_ge (a := a) (b := n) (by omega) (by omega)) ⟨vp_in_nI (by omega) (by decide), vp_in_nI (by omega) (by decide), nmx (nmx ?_)⟩
    refine ih (a + 1) _ (by omega) (fun σ' h1 h2 h3 => ?_)
    refine hQ σ' (fun x hx => (h1 x hx).trans (sI_at hx)) (fun x hx => ?_) (fun b h4 h5 => ?_)
    · rw [h2 x (by omega), sI_on, pk_un (by omega)]
    · by_cases e : b = a
      · subst e; rw [h2 _ (by omega), sI_on, pk_us]
      · rw [h3 b (by omega) h5, sI_at (by decide)]
theorem wide_add (a c : Int32) : (Int32.toInt64 a + Int32.toInt64 c).toInt = a.toInt + c.toInt := by
  have h1 := Int32.toInt_lt a
  have h2 := Int32.le_toInt a
  have h3 := Int32.toInt_lt c
  have h4 := Int32.le_toInt c
  rw [Int64.toInt_add, wide_toInt, wide_toInt, Int.bmod_eq_of_le (by omega) (by omega)]
theorem f2ne {f : Nat} (hf : f ≤ 2) : ¬ nI f = -1 := by
  rcases (show f = 0 ∨ f = 1 ∨ f = 2 by omega) with rfl | rfl | rfl <;> decide
theorem ob_copy : Ob_copy RelX := by
  intro σ τ a1 a2 a3 a4 a5 hR
  unfold f_X7_copy
  by_cases h1 : inr a1 0 3
  · refine sheX1 h1 (bf one_ne ?_)
    by_cases h2 : inr a3 0 3
    · refine sheX1 h2 (nt one_ne ?_)
      obtain ⟨s, hs, rfl⟩ := inr_nI (n := 3) h1 (by decide)
      obtain ⟨t, ht, rfl⟩ := inr_nI (n := 3) h2 (by decide)
      have his : vp_in (nI s) 4 := vp_in_nI (by omega) (by decide)
      have hit : vp_in (nI t) 4 := vp_in_nI (by omega) (by decide)
      have cs : (nI s).toNatClampNeg = s := nI_clamp (by omega)
      have ct : (nI t).toNatClampNeg = t := nI_clamp (by omega)
      refine ⟨his, nmx ⟨hit, nmx ?_⟩⟩
      rw [cs, ct]
      have hShe := hR.2.2.2.2.1
      unfold f_X4_isLost
      unfold f_X8_copy
      rw [cs, ct]
      rcases hShe s (by omega) with ⟨s1, s2, s3⟩ | ⟨f, n, hf, hn, s1, s2, s3, s4, s5⟩
      · refine nf s1 (nt one_ne ?_)
        unfold f_X7_finding
        refine nmx (sheM1 h1 (bf one_ne (sheM1 h2 (nt one_ne ⟨his, bt (by rw [s2]; decide) ?_⟩))))
        unfold f_X8_met
        exact nmx ⟨rfl, hR.lat 1⟩
      · refine nt (by rw [s1]; exact f2ne hf) (nf rfl ?_)
        have sge : ¬ τ.1 22 s < 0 := by rw [s2]; exact nI_pos (by omega)
        rcases hShe t (by omega) with ⟨t1, t2, t3⟩ | ⟨g, p, hg, hp, t1, t2, t3, t4, t5⟩
        · refine nf t1 (bf one_ne ?_)
          unfold f_X7_finding
          refine nmx (sheM1 h1 (bf one_ne (sheM1 h2 (nt one_ne ⟨his, bf sge ⟨hit, bf (by rw [t2]; decide) ?_⟩⟩))))
          unfold f_X8_met
          exact nmx ⟨rfl, hR.lat 1⟩
        · refine nt (by rw [t1]; exact f2ne hg) (bt rfl ?_)
          have tge : 0 ≤ τ.1 22 t := by rw [t2]; exact nI_pos' (by omega)
          by_cases e : nI f = nI g
          · refine bt (by rw [s1, t1]; exact e) ?_
            have eM : τ.1 22 s = τ.1 22 t := by rw [s2, t2]; exact e
            have fin : ¬ (0 ≤ a2.toInt ∧ 0 ≤ a5.toInt ∧ a2.toInt + a5.toInt ≤ n) ∨ ¬ (0 ≤ a4.toInt ∧ 0 ≤ a5.toInt ∧ a4.toInt + a5.toInt ≤ p) → f_X8_isSheet (nI s) τ (fun r1 σ2 => (r1 = 0 → (fun r2 v => (-10 - 2 : Int32) = r2 ∧ RelX (sI σ 16 0 2) v) (-2 : Int32) σ2) ∧ ((¬ r1 = 0) → f_X8_isSheet (nI t) σ2 (fun r3 σ4 => ((¬ r3 = 0) → vp_in (nI s) 4 ∧ ((σ4.1 22 s) < 0 → f_X8_met (1 : Int32) σ4 (fun r6 σ7 => (fun r2 v => (-10 - 2 : Int32) = r2 ∧ RelX (sI σ 16 0 2) v) r6 σ7)) ∧ ((¬ (σ4.1 22 s) < 0) → vp_in (nI t) 4 ∧ (0 ≤ (σ4.1 22 t) → vp_in (nI s) 4 ∧ vp_in (nI t) 4 ∧ ((σ4.1 22 s) = (σ4.1 22 t) → (a2 < 0 → f_X8_met (2 : Int32) σ4 (fun r11 σ12 => (fun r2 v => (-10 - 2 : Int32) = r2 ∧ RelX (sI σ 16 0 2) v) r11 σ12)) ∧ ((¬ a2 < 0) → (a4 < 0 → f_X8_met (2 : Int32) σ4 (fun r13 σ14 => (fun r2 v => (-10 - 2 : Int32) = r2 ∧ RelX (sI σ 16 0 2) v) r13 σ14)) ∧ ((¬ a4 < 0) → (a5 < 0 → f_X8_met (2 : Int32) σ4 (fun r15 σ16 => (fun r2 v => (-10 - 2 : Int32) = r2 ∧ RelX (sI σ 16 0 2) v) r15 σ16)) ∧ ((¬ a5 < 0) → vp_in (nI s) 4 ∧ ((Int32.toInt64 (σ4.1 23 s)) < ((Int32.toInt64 a2) + (Int32.toInt64 a5)) → f_X8_met (2 : Int32) σ4 (fun r18 σ19 => (fun r2 v => (-10 - 2 : Int32) = r2 ∧ RelX (sI σ 16 0 2) v) r18 σ19)) ∧ ((¬ (Int32.toInt64 (σ4.1 23 s)) < ((Int32.toInt64 a2) + (Int32.toInt64 a5))) → vp_in (nI t) 4 ∧ (((Int32.toInt64 a4) + (Int32.toInt64 a5)) ≤ (Int32.toInt64 (σ4.1 23 t)) → ∃ n30 : Nat, f_X8_copy_b120 (fun r2 v => (-10 - 2 : Int32) = r2 ∧ RelX (sI σ 16 0 2) v) n30 (nI s) a2 (nI t) a4 a5 (0 : Int32) σ4) ∧ ((¬ ((Int32.toInt64 a4) + (Int32.toInt64 a5)) ≤ (Int32.toInt64 (σ4.1 23 t))) → f_X8_met (2 : Int32) σ4 (fun r31 σ32 => (fun r2 v => (-10 - 2 : Int32) = r2 ∧ RelX (sI σ 16 0 2) v) r31 σ32))))))) ∧ ((¬ (σ4.1 22 s) = (σ4.1 22 t)) → f_X8_met (4 : Int32) σ4 (fun r33 σ34 => (fun r2 v => (-10 - 2 : Int32) = r2 ∧ RelX (sI σ 16 0 2) v) r33 σ34))) ∧ ((¬ 0 ≤ (σ4.1 22 t)) → f_X8_met (1 : Int32) σ4 (fun r35 σ36 => (fun r2 v => (-10 - 2 : Int32) = r2 ∧ RelX (sI σ 16 0 2) v) r35 σ36)))) ∧ (r3 = 0 → (fun r2 v => (-10 - 2 : Int32) = r2 ∧ RelX (sI σ 16 0 2) v) (-2 : Int32) σ4)))) := by
              intro hbad
              have bad : f_X8_met (2 : Int32) τ (fun r2 v => (-10 - 2 : Int32) = r2 ∧ RelX (sI σ 16 0 2) v) := by
                unfold f_X8_met; exact nmx ⟨rfl, hR.lat 2⟩
              refine sheM1 h1 (bf one_ne (sheM1 h2 (nt one_ne ⟨his, bf sge ⟨hit, bt tge ⟨his, hit, bt eM ?_⟩⟩⟩)))
              refine ⟨fun _ => bad, fun c2 => ⟨fun _ => bad, fun c4 => ⟨fun _ => bad, fun c5 => ⟨his, fun _ => bad, fun c6 => ⟨hit, fun c7 => ?_, fun _ => bad⟩⟩⟩⟩⟩
              rw [i32_lt, Int32.toInt_zero] at c2 c4 c5
              rw [i64_lt, wide_add, wide_toInt, s4, nI_toInt (by omega)] at c6
              rw [i64_le, wide_add, wide_toInt, t4, nI_toInt (by omega)] at c7
              rcases hbad with hb | hb
              · exact absurd ⟨by omega, by omega, by omega⟩ hb
              · exact absurd ⟨by omega, by omega, by omega⟩ hb
            by_cases r1 : 0 ≤ a2.toInt ∧ 0 ≤ a5.toInt ∧ a2.toInt + a5.toInt ≤ n
            · refine hasRun1 s3 hn r1 (bf one_ne ?_)
              by_cases r2 : 0 ≤ a4.toInt ∧ 0 ≤ a5.toInt ∧ a4.toInt + a5.toInt ≤ p
              · refine hasRun1 t3 hp r2 (nt one_ne ?_)
                obtain ⟨i, hi, rfl⟩ := inr_nI (v := a2) (n := 100) ⟨r1.1, by omega⟩ (by decide)
                obtain ⟨j, hj, rfl⟩ := inr_nI (v := a4) (n := 100) ⟨r2.1, by omega⟩ (by decide)
                obtain ⟨c, hc, rfl⟩ := inr_nI (v := a5) (n := 100) ⟨r2.2.1, by omega⟩ (by decide)
                rw [nI_toInt (by omega), nI_toInt (by omega)] at r1 r2
                rw [nI_clamp (by omega), nI_clamp (by omega), nI_clamp (by omega)]
                refine ⟨⟨nI_pos (by omega), nI_pos (by omega), nI_pos (by omega), by omega, by omega⟩, nmx ?_⟩
                refine sheM1 h1 (bf one_ne (sheM1 h2 (nt one_ne ⟨his, bf sge ⟨hit, bt tge ⟨his, hit, bt eM ?_⟩⟩⟩)))
                refine bf (nI_pos (by omega)) (bf (nI_pos (by omega)) (bf (nI_pos (by omega)) ⟨his, bf ?_ ⟨hit, bt ?_ ⟨c + 1, ?_⟩⟩⟩))
                · rw [i64_lt, wide_add, wide_toInt, s4, nI_toInt (by omega), nI_toInt (by omega), nI_toInt (by omega)]; omega
                · rw [i64_le, wide_add, wide_toInt, t4, nI_toInt (by omega), nI_toInt (by omega), nI_toInt (by omega)]; omega
                rw [n0]
                refine move1_loop (by omega) (by omega) c 0 τ (by omega) (fun τ1 k1 _ k3 => ⟨c + 1, ?_⟩)
                rw [n0]
                refine move2_loop (by omega) (by omega) c 0 τ1 (by omega) (fun τ2 l1 l2 l3 => ⟨rfl, ?_⟩)
                refine hR.she (fun x hx => sR_at (by omega)) (fun x x22 x23 x24 x25 => ?_) (hShe.one t ?_ (fun k' h5 h6 => ?_) (fun k' h5 h6 => ?_))
                · rw [l1 x x24, k1 x x25]
                · refine Or.inr ⟨g, p, hg, hp, ?_, ?_, ?_, ?_, fun x hx => ?_⟩
                  · rw [sR_at (by omega)]; exact t1
                  · rw [l1 22 (by decide), k1 22 (by decide)]; exact t2
                  · rw [sR_at (by omega)]; exact t3
                  · rw [l1 23 (by decide), k1 23 (by decide)]; exact t4
                  · rw [sR_on]
                    by_cases hin : j ≤ x ∧ x < j + c
                    · have hl := l3 (x - j) (Nat.zero_le _) (by omega)
                      rw [show 100 * t + j + (x - j) = 100 * t + x by omega] at hl
                      rw [pk_cpy_in hin.1 hin.2, hl, k3 (x - j) (Nat.zero_le _) (by omega), s5 (i + (x - j)) (by omega), Nat.add_assoc]
                    · rw [pk_cpy_out (by omega), l2 _ (by omega), k1 24 (by decide)]
                      exact t5 x hx
                · exact ⟨by rw [sR_at (by omega)], by rw [sR_at (by omega)], fun x hx => by rw [sR_at (by omega)]⟩
                · exact ⟨by rw [l1 22 (by decide), k1 22 (by decide)], by rw [l1 23 (by decide), k1 23 (by decide)], fun x hx => by rw [l2 _ (by omega), k1 24 (by decide)]⟩
              · refine hasRun0 t3 hp r2 (nf rfl ?_)
                unfold f_X7_finding
                exact nmx (fin (Or.inr r2))
            · refine hasRun0 s3 hn r1 (bt rfl ?_)
              unfold f_X7_finding
              exact nmx (fin (Or.inl r1))
          · refine bf (by rw [s1, t1]; exact e) ?_
            unfold f_X7_finding
            refine nmx (sheM1 h1 (bf one_ne (sheM1 h2 (nt one_ne ⟨his, bf sge ⟨hit, bt tge ⟨his, hit, bf (by rw [s2, t2]; exact e) ?_⟩⟩⟩))))
            unfold f_X8_met
            exact nmx ⟨rfl, hR.lat 4⟩
    · refine sheX0 h2 (nf rfl ?_)
      unfold f_X8_copy
      exact sheM1 h1 (bf one_ne (sheM0 h2 (nf rfl ⟨rfl, hR⟩)))
  · refine sheX0 h1 (bt rfl ?_)
    unfold f_X8_copy
    exact sheM0 h1 (bt rfl ⟨rfl, hR⟩)
