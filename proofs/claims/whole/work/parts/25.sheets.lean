/-! ===== sheets ===== -/
theorem sheX1 {v : Int32} {σ : St} {Q : Int32 → St → Prop} (h : inr v 0 3) (q : Q 1 σ) : f_X7_isSheet v σ Q := by
  unfold f_X7_isSheet
  have h1 := h.1
  have h2 := h.2
  have e2 : (4 : Int32).toInt = 4 := by decide
  exact bf (by rw [i32_lt, Int32.toInt_zero]; omega) (bf (by rw [i32_le, e2]; omega) q)
theorem sheX0 {v : Int32} {σ : St} {Q : Int32 → St → Prop} (h : ¬ inr v 0 3) (q : Q 0 σ) : f_X7_isSheet v σ Q := by
  unfold f_X7_isSheet
  have e2 : (4 : Int32).toInt = 4 := by decide
  refine ⟨fun _ => q, fun c1 => ⟨fun _ => q, fun c2 => absurd ⟨?_, ?_⟩ h⟩⟩
  · rw [i32_lt, Int32.toInt_zero] at c1; omega
  · rw [i32_le, e2] at c2; omega
theorem sheM1 {v : Int32} {σ : St} {Q : Int32 → St → Prop} (h : inr v 0 3) (q : Q 1 σ) : f_X8_isSheet v σ Q := by
  unfold f_X8_isSheet; exact wM1 (a := 0) (b := 3) (by decide) (by decide) h ⟨Or.inr rfl, q⟩
theorem sheM0 {v : Int32} {σ : St} {Q : Int32 → St → Prop} (h : ¬ inr v 0 3) (q : Q 0 σ) : f_X8_isSheet v σ Q := by
  unfold f_X8_isSheet; exact wM0 (a := 0) (b := 3) (by decide) (by decide) h ⟨Or.inl rfl, q⟩
theorem formX1 {v : Int32} {σ : St} {Q : Int32 → St → Prop} (h : inr v 0 2) (q : Q 1 σ) : f_X4_isForm v σ Q := by
  unfold f_X4_isForm
  have h1 := h.1
  have h2 := h.2
  have e2 : (2 : Int32).toInt = 2 := by decide
  exact bf (by rw [i32_lt, Int32.toInt_zero]; omega) (bf (by rw [i32_lt, e2]; omega) q)
theorem formX0 {v : Int32} {σ : St} {Q : Int32 → St → Prop} (h : ¬ inr v 0 2) (q : Q 0 σ) : f_X4_isForm v σ Q := by
  unfold f_X4_isForm
  have e2 : (2 : Int32).toInt = 2 := by decide
  refine ⟨fun _ => q, fun c1 => ⟨fun _ => q, fun c2 => absurd ⟨?_, ?_⟩ h⟩⟩
  · rw [i32_lt, Int32.toInt_zero] at c1; omega
  · rw [i32_lt, e2] at c2; omega
theorem RelX.lat {X M : St} (h : RelX X M) (c : Int32) : RelX (sI X 16 0 c) (sI M 16 0 c) := by
  obtain ⟨hLen, ⟨P, hP⟩, hCam, hLim, hShe, hLat, hCs⟩ := h
  refine ⟨?_, ⟨P, ?_⟩, ?_, ?_, ?_, ?_, ?_⟩
  · exact hLen.cg (sI_at (by decide)) (sI_at (by decide))
  · exact hP.cg (sI_at (by decide)) (sI_at (by decide)) (sI_at (by decide)) (sI_at (by decide)) (sI_at (by decide)) (sI_at (by decide)) (sI_at (by decide))
  · exact hCam.cg (sI_at (by decide)) (sI_at (by decide)) (sI_at (by decide)) (sI_at (by decide)) (sI_at (by decide)) (sI_at (by decide)) (sI_at (by decide)) (sI_at (by decide)) (sI_at (by decide)) (sI_at (by decide))
  · exact hLim.cg (sI_at (by decide)) (sI_at (by decide)) (sI_at (by decide))
  · exact hShe.cg (fun k hk => sI_at (by omega)) (sI_at (by decide)) (sI_at (by decide)) (sI_at (by decide))
  · rw [sI_on, sI_on, pk_us, pk_us]
  · exact hCs.cg (sI_at (by decide))
/-- a sheet changed: the rest of RelX stands -/
theorem RelX.she {X M X' M' : St} (h : RelX X M) (x : ∀ k, k < 20 → X'.1 k = X.1 k) (m : ∀ k, k ≠ 22 → k ≠ 23 → k ≠ 24 → k ≠ 25 → M'.1 k = M.1 k) (g : rShe X' M') : RelX X' M' := by
  obtain ⟨hLen, ⟨P, hP⟩, hCam, hLim, hShe, hLat, hCs⟩ := h
  have m' : ∀ k, k < 22 → M'.1 k = M.1 k := fun k hk => m k (by omega) (by omega) (by omega) (by omega)
  refine ⟨?_, ⟨P, ?_⟩, ?_, ?_, g, ?_, ?_⟩
  · exact hLen.cg (x 0 (by decide)) (m' 0 (by decide))
  · exact hP.cg (x 1 (by decide)) (x 2 (by decide)) (x 3 (by decide)) (x 4 (by decide)) (m' 1 (by decide)) (m' 3 (by decide)) (m' 4 (by decide))
  · exact hCam.cg (x 6 (by decide)) (x 7 (by decide)) (x 8 (by decide)) (x 9 (by decide)) (x 10 (by decide)) (m' 6 (by decide)) (m' 7 (by decide)) (m' 8 (by decide)) (m' 9 (by decide)) (m' 10 (by decide))
  · exact hLim.cg (x 11 (by decide)) (m' 19 (by decide)) (m' 20 (by decide))
  · rw [x 16 (by decide), m' 16 (by decide)]; exact hLat
  · exact hCs.cg (m' 18 (by decide))
def sheAt (k : Nat) (X M : St) : Prop := (X.1 (24 + k) 0 = -1 ∧ M.1 22 k = -1 ∧ X.1 (28 + k) 0 = 0) ∨ ∃ f n : Nat, f ≤ 2 ∧ n ≤ 100 ∧ X.1 (24 + k) 0 = nI f ∧ M.1 22 k = nI f ∧ X.1 (28 + k) 0 = nI n ∧ M.1 23 k = nI n ∧ ∀ j, j < n → X.1 (20 + k) j = M.1 24 (100 * k + j)
theorem rShe.one {X M X' M' : St} (h : rShe X M) (k : Nat) (g : sheAt k X' M') (x : ∀ k', k' < 4 → k' ≠ k → X'.1 (24 + k') 0 = X.1 (24 + k') 0 ∧ X'.1 (28 + k') 0 = X.1 (28 + k') 0 ∧ ∀ j, j < 100 → X'.1 (20 + k') j = X.1 (20 + k') j) (m : ∀ k', k' < 4 → k' ≠ k → M'.1 22 k' = M.1 22 k' ∧ M'.1 23 k' = M.1 23 k' ∧ ∀ j, j < 100 → M'.1 24 (100 * k' + j) = M.1 24 (100 * k' + j)) : rShe X' M' := by
  intro k' hk'
  by_cases e : k' = k
  · subst e; exact g
  · obtain ⟨x1, x2, x3⟩ := x k' hk' e
    obtain ⟨m1, m2, m3⟩ := m k' hk' e
    rcases h k' hk' with ⟨h1, h2, h3⟩ | ⟨f, n, hf, hn, h1, h2, h3, h4, h5⟩
    · exact Or.inl ⟨by rw [x1]; exact h1, by rw [m1]; exact h2, by rw [x2]; exact h3⟩
    · exact Or.inr ⟨f, n, hf, hn, by rw [x1]; exact h1, by rw [m1]; exact h2, by rw [x2]; exact h3, by rw [m2]; exact h4, fun j hj => by rw [x3 j (by omega), m3 j (by omega)]; exact h5 j hj⟩
theorem fill_loop {Q : St → Prop} {k : Nat} {v : Int32} : ∀ (m i : Nat) (σ : St), i + m = 100 → (∀ σ' : St, (∀ x, x ≠ 20 + k → σ'.1 x = σ.1 x) → (∀ j, j < i → σ'.1 (20 + k) j = σ.1 (20 + k) j) → (∀ j, i ≤ j → j < 100 → σ'.1 (20 + k) j = v) → Q σ') → f_J7_fill_53178_b5 k Q (m + 1) v (nI i) 100 σ := by
  intro m
  induction m with
  | zero =>
    intro i σ hi hQ
    unfold f_J7_fill_53178_b5
    exact bt (by rw [show i = 100 by omega]; decide) (hQ σ (fun _ _ => rfl) (fun _ _ => rfl) (fun j h1 h2 => by omega))
  | succ m ih =>
    intro i σ hi hQ
    unfold f_J7_fill_53178_b5
    refine bf (nI_ge (a := i) (b := 100) (by omega) (by decide)) ⟨vp_in_nI (by omega) (by decide), nmx (nmx ?_)⟩
    rw [nI_1, nI_clamp (by omega)]
    refine ih (i + 1) _ (by omega) (fun σ' h1 h2 h3 => ?_)
    refine hQ σ' (fun x hx => (h1 x hx).trans (sI_at hx)) (fun j hj => ?_) (fun j h4 h5 => ?_)
    · rw [h2 j (by omega), sI_on, pk_un (by omega)]
    · by_cases e : j = i
      · subst e; rw [h2 j (by omega), sI_on, pk_us]
      · exact h3 j (by omega) h5
theorem ix100 (k j : Nat) : (100 : Int32) * nI k + nI j = nI (100 * k + j) := by rw [show (100 : Int32) = nI 100 from rfl, pk_mul, nI_add]
theorem zeroM_loop {Q : Int32 → St → Prop} {k n : Nat} (hk : k < 4) (hn : n ≤ 100) : ∀ (m i : Nat) (σ : St), i + m = n → (∀ σ' : St, (∀ x, x ≠ 24 → σ'.1 x = σ.1 x) → (∀ j, (j < 100 * k + i ∨ 100 * k + n ≤ j) → σ'.1 24 j = σ.1 24 j) → (∀ j, i ≤ j → j < n → σ'.1 24 (100 * k + j) = 0) → Q (nI n) σ') → f_X8_sheet_b55 Q (m + 1) (nI k) (nI n) (nI i) σ := by
  intro m
  induction m with
  | zero =>
    intro i σ hi hQ
    have : i = n := by omega
    subst this
    unfold f_X8_sheet_b55
    exact bt (Int32.le_refl _) (hQ σ (fun _ _ => rfl) (fun _ _ => rfl) (fun j h1 h2 => by omega))
  | succ m ih =>
    intro i σ hi hQ
    unfold f_X8_sheet_b55
    rw [ix100, nI_clamp (by omega)]
    refine bf (nI_ge (a := i) (b := n) (by omega) (by omega)) ⟨vp_in_nI (by omega) (by decide), nmx (nmx ?_)⟩
    rw [nI_1]
    refine ih (i + 1) _ (by omega) (fun σ' h1 h2 h3 => ?_)
    refine hQ σ' (fun x hx => (h1 x hx).trans (sI_at hx)) (fun j hj => ?_) (fun j h4 h5 => ?_)
    · rw [h2 j (by omega), sI_on, pk_un (by omega)]
    · by_cases e : j = i
      · subst e; rw [h2 _ (by omega), sI_on, pk_us]
      · exact h3 j (by omega) h5
theorem ob_sheet : Ob_sheet RelX := by
  intro σ τ a1 a2 a3 hR
  unfold f_X7_sheet
  by_cases h1 : inr a1 0 3
  · refine sheX1 h1 (bf one_ne ?_)
    by_cases h2 : inr a2 0 2
    · refine formX1 h2 (bf one_ne ?_)
      by_cases h3 : a3 ≤ 100
      · refine bt h3 ?_
        by_cases h4 : 0 ≤ a3
        · refine bt h4 ?_
          obtain ⟨k, hk, rfl⟩ := inr_nI (n := 3) h1 (by decide)
          obtain ⟨f, hf, rfl⟩ := inr_nI (n := 2) h2 (by decide)
          have h34 : inr a3 0 100 := by
            rw [i32_le, Int32.toInt_zero] at h4
            rw [i32_le] at h3
            have : (100 : Int32).toInt = 100 := by decide
            exact ⟨h4, by omega⟩
          obtain ⟨n, hn, rfl⟩ := inr_nI (v := a3) (n := 100) h34 (by decide)
          have hin : vp_in (nI k) 4 := vp_in_nI (by omega) (by decide)
          refine ⟨hin, nmx ?_⟩
          rw [nI_clamp (by omega)]
          unfold f_X4_begin f_J7_fill_53178
          refine nmx (nmx ⟨101, fill_loop 100 0 _ rfl (fun σ' g1 _ g3 => ?_)⟩)
          unfold f_X8_sheet
          refine sheM1 h1 (bf one_ne ?_)
          refine wM1 (a := 0) (b := 2) (by decide) (by decide) h2 (bf one_ne ?_)
          refine bt h3 (bt h4 ⟨hin, nmx ⟨hin, nmx ⟨n + 1, ?_⟩⟩⟩)
          rw [nI_clamp (by omega), n0]
          refine zeroM_loop (by omega) hn n 0 _ (by omega) (fun τ' k1 k2 k3 => ⟨rfl, ?_⟩)
          refine hR.she (fun x hx => ?_) (fun x x22 x23 x24 _ => ?_) (hR.2.2.2.2.1.one k ?_ (fun k' h5 h6 => ?_) (fun k' h5 h6 => ?_))
          · rw [g1 x (by omega), sI_at (by omega), sI_at (by omega)]
          · rw [k1 x x24, sI_at x23, sI_at x22]
          · refine Or.inr ⟨f, n, hf, hn, ?_, ?_, ?_, ?_, fun j hj => ?_⟩
            · rw [g1 _ (by omega), sI_at (by omega), sI_on]; exact pk_us
            · rw [k1 22 (by decide), sI_at (by decide), sI_on]; exact pk_us
            · rw [g1 _ (by omega), sI_on]; exact pk_us
            · rw [k1 23 (by decide), sI_on]; exact pk_us
            · rw [g3 j (Nat.zero_le j) (by omega), k3 j (Nat.zero_le j) hj]
          · refine ⟨?_, ?_, fun j hj => ?_⟩
            · rw [g1 _ (by omega), sI_at (by omega), sI_at (by omega)]
            · rw [g1 _ (by omega), sI_at (by omega), sI_at (by omega)]
            · rw [g1 _ (by omega), sI_at (by omega), sI_at (by omega)]
          · refine ⟨?_, ?_, fun j hj => ?_⟩
            · rw [k1 22 (by decide), sI_at (by decide), sI_on, pk_un h6]
            · rw [k1 23 (by decide), sI_on, pk_un h6, sI_at (by decide)]
            · rw [k2 _ (by omega), sI_at (by decide), sI_at (by decide)]
        · refine bf h4 ?_
          unfold f_X7_finding
          refine nmx ?_
          unfold f_X8_sheet
          refine sheM1 h1 (bf one_ne ?_)
          refine wM1 (a := 0) (b := 2) (by decide) (by decide) h2 (bf one_ne ?_)
          refine bt h3 (bf h4 ?_)
          unfold f_X8_met
          exact nmx ⟨rfl, hR.lat 5⟩
      · refine bf h3 ?_
        unfold f_X8_sheet
        refine sheM1 h1 (bf one_ne ?_)
        refine wM1 (a := 0) (b := 2) (by decide) (by decide) h2 (bf one_ne ?_)
        exact bf h3 ⟨rfl, hR⟩
    · refine formX0 h2 (bt rfl ?_)
      unfold f_X8_sheet
      refine sheM1 h1 (bf one_ne ?_)
      exact wM0 (a := 0) (b := 2) (by decide) (by decide) h2 (bt rfl ⟨rfl, hR⟩)
  · refine sheX0 h1 (bt rfl ?_)
    unfold f_X8_sheet
    exact sheM0 h1 (bt rfl ⟨rfl, hR⟩)
theorem ob_lose : Ob_lose RelX := by
  intro σ τ a1 hR
  unfold f_X7_lose
  by_cases h1 : inr a1 0 3
  · refine sheX1 h1 (nt one_ne ?_)
    obtain ⟨k, hk, rfl⟩ := inr_nI (n := 3) h1 (by decide)
    have hin : vp_in (nI k) 4 := vp_in_nI (by omega) (by decide)
    refine ⟨hin, nmx ?_⟩
    rw [nI_clamp (by omega)]
    have hShe := hR.2.2.2.2.1
    unfold f_X4_isLost
    rcases hShe k (by omega) with ⟨h2, h3, h4⟩ | ⟨f, n, hf, hn, h2, h3, h4, h5, h6⟩
    · refine nf h2 (bf one_ne ?_)
      unfold f_X7_finding
      refine nmx ?_
      unfold f_X8_lose
      refine sheM1 h1 (nt one_ne ⟨hin, ?_⟩)
      rw [nI_clamp (by omega)]
      refine bf (by rw [h3]; decide) ?_
      unfold f_X8_met
      exact nmx ⟨rfl, hR.lat 1⟩
    · have hne : ¬ σ.1 (24 + k) 0 = -1 := by
        rw [h2]; rcases (show f = 0 ∨ f = 1 ∨ f = 2 by omega) with rfl | rfl | rfl <;> decide
      refine nt hne (bt rfl ⟨hin, nmx ?_⟩)
      unfold f_X4_end
      refine nmx (nmx (nmx ?_))
      unfold f_X8_lose
      refine sheM1 h1 (nt one_ne ⟨hin, ?_⟩)
      rw [nI_clamp (by omega)]
      refine bt (by rw [h3]; exact nI_pos' (by omega)) ⟨hin, nmx ⟨hin, ?_, ?_⟩⟩
      · rw [sI_at (by decide), h4, h5]
      · refine hR.she (fun x hx => ?_) (fun x x22 x23 x24 _ => sI_at x22) (hShe.one k ?_ (fun k' h5 h6 => ?_) (fun k' h5 h6 => ?_))
        · rw [sI_at (by omega), sI_at (by omega)]
        · refine Or.inl ⟨?_, ?_, ?_⟩
          · rw [sI_at (by omega), sI_on]; exact pk_us
          · rw [sI_on]; exact pk_us
          · rw [sI_on]; exact pk_us
        · refine ⟨?_, ?_, fun j hj => ?_⟩
          · rw [sI_at (by omega), sI_at (by omega)]
          · rw [sI_at (by omega), sI_at (by omega)]
          · rw [sI_at (by omega), sI_at (by omega)]
        · refine ⟨?_, ?_, fun j hj => ?_⟩
          · rw [sI_on, pk_un h6]
          · rw [sI_at (by decide)]
          · rw [sI_at (by decide)]
  · refine sheX0 h1 (nf rfl ?_)
    unfold f_X8_lose
    exact sheM0 h1 (nf rfl ⟨rfl, hR⟩)
/-- what an item's asking meets with -/
theorem trouble {X M : St} (hR : RelX X M) {k : Nat} (hk : k < 4) (a2 a3 : Int32) : ∃ t : Nat, t ≤ 3 ∧ (∀ Q : Int32 → St → Prop, Q (nI t) X → f_X7_troubleWith k a2 a3 X Q) ∧ (t ≠ 0 → ∀ Q : Int32 → St → Prop, Q (-10 - nI t) (sI M 16 0 (nI t)) → f_X8_lacks (nI k) a2 a3 M Q) ∧ (t = 0 → (∀ Q : Int32 → St → Prop, Q 0 M → f_X8_lacks (nI k) a2 a3 M Q) ∧ ∃ f n i : Nat, f ≤ 2 ∧ n ≤ 100 ∧ i < n ∧ a3 = nI i ∧ X.1 (24 + k) 0 = nI f ∧ M.1 22 k = nI f ∧ X.1 (28 + k) 0 = nI n ∧ M.1 23 k = nI n ∧ ∀ j, j < n → X.1 (20 + k) j = M.1 24 (100 * k + j)) := by
  have hin : vp_in (nI k) 4 := vp_in_nI (by omega) (by decide)
  have ec : (nI k).toNatClampNeg = k := nI_clamp (by omega)
  unfold f_X7_troubleWith f_X8_lacks f_X4_isLost f_X4_has
  rw [ec]
  rcases hR.2.2.2.2.1 k hk with ⟨h2, h3, h4⟩ | ⟨f, n, hf, hn, h2, h3, h4, h5, h6⟩
  · refine ⟨1, by decide, fun Q q => nf h2 (bf one_ne q), fun _ Q q => ⟨hin, bf (by rw [h3]; decide) ?_⟩, fun h => by omega⟩
    unfold f_X8_met
    exact nmx q
  · have hne : ¬ X.1 (24 + k) 0 = -1 := by
      rw [h2]; rcases (show f = 0 ∨ f = 1 ∨ f = 2 by omega) with rfl | rfl | rfl <;> decide
    have hge : 0 ≤ M.1 22 k := by rw [h3]; exact nI_pos' (by omega)
    by_cases e : nI f = a2
    · have eX : X.1 (24 + k) 0 = a2 := by rw [h2]; exact e
      have eM : M.1 22 k = a2 := by rw [h3]; exact e
      have hb : (Int32.toInt64 (M.1 23 k - 1)).toInt = (n : Int) - 1 := by
        rw [wide_toInt, h5]; exact pk_sub_toInt (a := n) (b := 1) (by omega) (by decide)
      by_cases hi : inr a3 0 ((n : Int) - 1)
      · have i1 := hi.1
        have i2 := hi.2
        obtain ⟨i, hi3, hi4⟩ := inr_nI (v := a3) (n := n - 1) ⟨i1, by omega⟩ (by omega)
        refine ⟨0, by decide, fun Q q => nt hne (bt rfl (bt eX (bf ?_ (bf ?_ (bf one_ne q))))), fun h => absurd rfl h, fun _ => ⟨fun Q q => ⟨hin, bt hge ⟨hin, bt eM ⟨hin, wM1 (a := 0) (b := (n : Int) - 1) (by decide) hb hi (bf one_ne q)⟩⟩⟩, f, n, i, hf, hn, by omega, hi4, h2, h3, h4, h5, h6⟩⟩
        · rw [i32_lt, Int32.toInt_zero]; omega
        · rw [h4, i32_le, nI_toInt (by omega)]; omega
      · refine ⟨2, by decide, fun Q q => nt hne (bt rfl (bt eX ⟨fun _ => bt rfl q, fun c1 => ⟨fun _ => bt rfl q, fun c2 => absurd ⟨?_, ?_⟩ hi⟩⟩)), fun _ Q q => ⟨hin, bt hge ⟨hin, bt eM ⟨hin, wM0 (a := 0) (b := (n : Int) - 1) (by decide) hb hi (bt rfl ?_)⟩⟩⟩, fun h => by omega⟩
        · rw [i32_lt, Int32.toInt_zero] at c1; omega
        · rw [h4, i32_le, nI_toInt (by omega)] at c2; omega
        · unfold f_X8_met; exact nmx q
    · have eX : ¬ X.1 (24 + k) 0 = a2 := by rw [h2]; exact e
      have eM : ¬ M.1 22 k = a2 := by rw [h3]; exact e
      refine ⟨3, by decide, fun Q q => nt hne (bt rfl (bf eX q)), fun _ Q q => ⟨hin, bt hge ⟨hin, bf eM ?_⟩⟩, fun h => by omega⟩
      unfold f_X8_met; exact nmx q
theorem nI_nz {t : Nat} (h : t ≠ 0) (h3 : t ≤ 3) : ¬ nI t = 0 := nI_ne0 (by omega) (by omega)
theorem ten_nz {t : Nat} (h3 : t ≤ 3) : ¬ (-10 - nI t : Int32) = 0 := by
  rcases (show t = 0 ∨ t = 1 ∨ t = 2 ∨ t = 3 by omega) with rfl | rfl | rfl | rfl <;> decide
theorem ob_put : Ob_put RelX := by
  intro σ τ a1 a2 a3 a4 hR
  unfold f_X7_put
  by_cases h1 : inr a1 0 3
  · refine sheX1 h1 (bf one_ne ?_)
    by_cases h2 : inr a2 0 2
    · refine formX1 h2 (nt one_ne ?_)
      obtain ⟨k, hk, rfl⟩ := inr_nI (n := 3) h1 (by decide)
      have hin : vp_in (nI k) 4 := vp_in_nI (by omega) (by decide)
      refine ⟨hin, nmx ?_⟩
      rw [nI_clamp (by omega)]
      obtain ⟨t, ht, t1, t2, t3⟩ := trouble hR (show k < 4 by omega) a2 a3
      refine t1 _ ?_
      by_cases e : t = 0
      · subst e
        obtain ⟨t4, f, n, i, hf, hn, hi, rfl, e1, e2, e3, e4, e5⟩ := t3 rfl
        refine bt rfl ⟨hin, nmx ?_⟩
        have key : ∀ v : Int32, RelX (sI σ (20 + k) i v) (sI τ 24 (100 * k + i) v) := by
          intro v
          refine hR.she (fun x hx => sI_at (by omega)) (fun x _ _ x24 _ => sI_at x24) (hR.2.2.2.2.1.one k ?_ (fun k' h5 h6 => ?_) (fun k' h5 h6 => ?_))
          · refine Or.inr ⟨f, n, hf, hn, ?_, ?_, ?_, ?_, fun j hj => ?_⟩
            · rw [sI_at (by omega)]; exact e1
            · rw [sI_at (by decide)]; exact e2
            · rw [sI_at (by omega)]; exact e3
            · rw [sI_at (by decide)]; exact e4
            · rw [sI_on, sI_on]
              by_cases ej : j = i
              · subst ej; rw [pk_us, pk_us]
              · rw [pk_un ej, pk_un (by omega)]; exact e5 j hj
          · exact ⟨by rw [sI_at (by omega)], by rw [sI_at (by omega)], fun j hj => by rw [sI_at (by omega)]⟩
          · exact ⟨by rw [sI_at (by decide)], by rw [sI_at (by decide)], fun j hj => by rw [sI_on, pk_un (by omega)]⟩
        have hi4 : vp_in (nI (100 * k + i)) 400 := vp_in_nI (by omega) (by decide)
        have hi1 : vp_in (nI i) 100 := vp_in_nI (by omega) (by decide)
        have ci : (nI i).toNatClampNeg = i := nI_clamp (by omega)
        have ck : (nI (100 * k + i)).toNatClampNeg = 100 * k + i := nI_clamp (by omega)
        unfold f_X4_lowestBits f_X8_put
        rw [ix100, ci, ck]
        by_cases z0 : a2 = 0
        · refine nf z0 ⟨hi1, nmx ?_⟩
          refine sheM1 h1 (bf one_ne (wM1 (a := 0) (b := 2) (by decide) (by decide) h2 (nt one_ne (t4 _ (bt rfl (nf z0 ⟨hi4, nmx ⟨rfl, key _⟩⟩))))))
        · by_cases z1 : a2 = 1
          · refine nt z0 (nf z1 ⟨hi1, nmx ?_⟩)
            refine sheM1 h1 (bf one_ne (wM1 (a := 0) (b := 2) (by decide) (by decide) h2 (nt one_ne (t4 _ (bt rfl (nt z0 (nf z1 ⟨hi4, nmx ⟨rfl, key _⟩⟩)))))))
          · refine nt z0 (nt z1 ⟨hi1, nmx ?_⟩)
            refine sheM1 h1 (bf one_ne (wM1 (a := 0) (b := 2) (by decide) (by decide) h2 (nt one_ne (t4 _ (bt rfl (nt z0 (nt z1 ⟨hi4, nmx ⟨rfl, key _⟩⟩)))))))
      · refine bf (nI_nz e ht) ?_
        unfold f_X7_finding
        refine nmx ?_
        unfold f_X8_put
        refine sheM1 h1 (bf one_ne (wM1 (a := 0) (b := 2) (by decide) (by decide) h2 (nt one_ne (t2 e _ (bf (ten_nz ht) ⟨rfl, hR.lat _⟩)))))
    · refine formX0 h2 (nf rfl ?_)
      unfold f_X8_put
      exact sheM1 h1 (bf one_ne (wM0 (a := 0) (b := 2) (by decide) (by decide) h2 (nf rfl ⟨rfl, hR⟩)))
  · refine sheX0 h1 (bt rfl ?_)
    unfold f_X8_put
    exact sheM0 h1 (bt rfl ⟨rfl, hR⟩)
theorem ob_get : Ob_get RelX := by
  intro σ τ a1 a2 a3 hR
  unfold f_X7_get
  by_cases h1 : inr a1 0 3
  · refine sheX1 h1 (bf one_ne ?_)
    by_cases h2 : inr a2 0 2
    · refine formX1 h2 (nt one_ne ?_)
      obtain ⟨k, hk, rfl⟩ := inr_nI (n := 3) h1 (by decide)
      have hin : vp_in (nI k) 4 := vp_in_nI (by omega) (by decide)
      refine ⟨hin, nmx ?_⟩
      rw [nI_clamp (by omega)]
      obtain ⟨t, ht, t1, t2, t3⟩ := trouble hR (show k < 4 by omega) a2 a3
      refine t1 _ ?_
      by_cases e : t = 0
      · subst e
        obtain ⟨t4, f, n, i, hf, hn, hi, rfl, e1, e2, e3, e4, e5⟩ := t3 rfl
        refine bt rfl ⟨hin, nmx ⟨vp_in_nI (by omega) (by decide), ?_⟩⟩
        rw [nI_clamp (by omega)]
        unfold f_X8_get
        rw [ix100, nI_clamp (by omega)]
        exact sheM1 h1 (bf one_ne (wM1 (a := 0) (b := 2) (by decide) (by decide) h2 (bf one_ne (t4 _ (bt rfl ⟨vp_in_nI (by omega) (by decide), e5 i hi, hR⟩)))))
      · refine bf (nI_nz e ht) (nmx ?_)
        unfold f_X8_get
        exact sheM1 h1 (bf one_ne (wM1 (a := 0) (b := 2) (by decide) (by decide) h2 (bf one_ne (t2 e _ (bf (ten_nz ht) ⟨rfl, hR.lat _⟩)))))
    · refine formX0 h2 (nf rfl ?_)
      unfold f_X8_get
      exact sheM1 h1 (bf one_ne (wM0 (a := 0) (b := 2) (by decide) (by decide) h2 (bt rfl ⟨rfl, hR⟩)))
  · refine sheX0 h1 (bt rfl ?_)
    unfold f_X8_get
    exact sheM0 h1 (bt rfl ⟨rfl, hR⟩)
