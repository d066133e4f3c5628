/-! ===== the two sides at their start ===== -/
def bOk (τ : St) (c : Nat) : Prop := (∀ j, j < c → τ.1 18 j = COF j) ∧ ∀ k, k ≠ 0 → k ≠ 18 → k ≠ 20 → k ≠ 22 → τ.1 k = fun _ => 0
def endI (τ : St) : Prop := bOk τ 36 ∧ (∀ j, j < 3 → τ.1 0 j = 100 ∧ τ.1 20 j = 35) ∧ ∀ j, j < 4 → τ.1 22 j = -1
theorem bOk.s {τ : St} {c : Nat} {v : Int32} (h : bOk τ c) (hv : v = COF c) : bOk (sI τ 18 c v) (c + 1) := by
  refine ⟨fun j hj => ?_, fun k a b c d => by rw [sI_at b]; exact h.2 k a b c d⟩
  rw [sI_on]
  by_cases e : j = c
  · subst e; rw [pk_us]; exact hv
  · rw [pk_un e]; exact h.1 j (by omega)
theorem in348 {Q : St → Prop} (hQ : ∀ τ, endI τ → Q τ) : ∀ (m i : Nat) (τ : St), i + m = 4 → bOk τ 36 → (∀ j, j < 3 → τ.1 0 j = 100 ∧ τ.1 20 j = 35) → (∀ j, j < i → τ.1 22 j = -1) → f_X8_init_b348 Q (m + 1) (nI i) τ := by
  intro m
  induction m with
  | zero =>
    intro i τ hi h1 h2 h3
    unfold f_X8_init_b348
    exact bt (by rw [show i = 4 by omega]; decide) (hQ τ ⟨h1, h2, fun j hj => h3 j (by omega)⟩)
  | succ m ih =>
    intro i τ hi h1 h2 h3
    unfold f_X8_init_b348
    rw [nI_1, nI_clamp (by omega)]
    refine bf (nI_ge (a := i) (b := 4) (by omega) (by decide)) ⟨vp_in_nI (by omega) (by decide), nmx (nmx (ih (i + 1) _ (by omega) ⟨fun j hj => ?_, fun k a b c d => ?_⟩ (fun j hj => ?_) (fun j hj => ?_)))⟩
    · rw [sI_at (by decide)]; exact h1.1 j hj
    · rw [sI_at d]; exact h1.2 k a b c d
    · rw [sI_at (by decide), sI_at (by decide)]; exact h2 j hj
    · rw [sI_on]
      by_cases e : j = i
      · subst e; rw [pk_us]
      · rw [pk_un e]; exact h3 j (by omega)
theorem in319 {Q : St → Prop} (hQ : ∀ τ, endI τ → Q τ) : ∀ (m i : Nat) (τ : St), i + m = 3 → bOk τ 36 → (∀ j, j < i → τ.1 0 j = 100 ∧ τ.1 20 j = 35) → f_X8_init_b319 Q (m + 1) (nI i) τ := by
  intro m
  induction m with
  | zero =>
    intro i τ hi h1 h2
    unfold f_X8_init_b319
    exact bt (by rw [show i = 3 by omega]; decide) ⟨5, in348 hQ 4 0 τ rfl h1 (fun j hj => h2 j (by omega)) (fun j hj => absurd hj (Nat.not_lt_zero j))⟩
  | succ m ih =>
    intro i τ hi h1 h2
    unfold f_X8_init_b319
    rw [nI_1, nI_clamp (by omega)]
    have hin : vp_in (nI i) 3 := vp_in_nI (by omega) (by decide)
    refine bf (nI_ge (a := i) (b := 3) (by omega) (by decide)) ⟨hin, nmx ⟨hin, nmx (nmx (ih (i + 1) _ (by omega) ⟨fun j hj => ?_, fun k a b c d => ?_⟩ (fun j hj => ?_)))⟩⟩
    · rw [sI_at (by decide), sI_at (by decide)]; exact h1.1 j hj
    · rw [sI_at c, sI_at a]; exact h1.2 k a b c d
    · rw [sI_at (show (0 : Nat) ≠ 20 by decide), sI_on, sI_on, sI_at (show (20 : Nat) ≠ 0 by decide)]
      by_cases e : j = i
      · subst e; rw [pk_us, pk_us]; exact ⟨rfl, rfl⟩
      · rw [pk_un e, pk_un e]; exact h2 j (by omega)
theorem c290 : ∀ i, i < 36 → 28 ≤ i → COF (36 - i) = COF i := by decide +kernel
theorem c259 : ∀ i, i < 28 → 19 ≤ i → -(COF (i - 18)) = COF i := by decide +kernel
theorem c228 : ∀ i, i < 19 → 10 ≤ i → -(COF (18 - i)) = COF i := by decide +kernel
theorem in290 {Q : St → Prop} (hQ : ∀ τ, endI τ → Q τ) : ∀ (m i : Nat) (τ : St), i + m = 36 → 28 ≤ i → bOk τ i → f_X8_init_b290 Q (m + 1) (nI i) τ := by
  intro m
  induction m with
  | zero =>
    intro i τ hi h28 h1
    have : i = 36 := by omega
    subst this
    unfold f_X8_init_b290
    exact bt (by decide) ⟨4, in319 hQ 3 0 τ rfl h1 (fun j hj => absurd hj (Nat.not_lt_zero j))⟩
  | succ m ih =>
    intro i τ hi h28 h1
    unfold f_X8_init_b290
    rw [nI_1, show (36 : Int32) - nI i = nI (36 - i) from pk_sub (a := 36) (b := i) (by omega), nI_clamp (by omega), nI_clamp (by omega)]
    refine bf (nI_ge (a := i) (b := 36) (by omega) (by decide)) ⟨vp_in_nI (by omega) (by decide), vp_in_nI (by omega) (by decide), nmx (nmx (ih (i + 1) _ (by omega) (by omega) (h1.s ?_)))⟩
    rw [h1.1 _ (by omega)]; exact c290 i (by omega) h28
theorem in259 {Q : St → Prop} (hQ : ∀ τ, endI τ → Q τ) : ∀ (m i : Nat) (τ : St), i + m = 28 → 19 ≤ i → bOk τ i → f_X8_init_b259 Q (m + 1) (nI i) τ := by
  intro m
  induction m with
  | zero =>
    intro i τ hi h19 h1
    have : i = 28 := by omega
    subst this
    unfold f_X8_init_b259
    exact bt (by decide) ⟨9, in290 hQ 8 28 τ rfl (by decide) h1⟩
  | succ m ih =>
    intro i τ hi h19 h1
    unfold f_X8_init_b259
    rw [nI_1, show nI i - (18 : Int32) = nI (i - 18) from pk_sub (a := i) (b := 18) (by omega), nI_clamp (by omega), nI_clamp (by omega)]
    refine bf (nI_ge (a := i) (b := 28) (by omega) (by decide)) ⟨vp_in_nI (by omega) (by decide), vp_in_nI (by omega) (by decide), nmx (nmx (ih (i + 1) _ (by omega) (by omega) (h1.s ?_)))⟩
    rw [h1.1 _ (by omega)]; exact c259 i (by omega) h19
theorem in228 {Q : St → Prop} (hQ : ∀ τ, endI τ → Q τ) : ∀ (m i : Nat) (τ : St), i + m = 19 → 10 ≤ i → bOk τ i → f_X8_init_b228 Q (m + 1) (nI i) τ := by
  intro m
  induction m with
  | zero =>
    intro i τ hi h10 h1
    have : i = 19 := by omega
    subst this
    unfold f_X8_init_b228
    exact bt (by decide) ⟨10, in259 hQ 9 19 τ rfl (by decide) h1⟩
  | succ m ih =>
    intro i τ hi h10 h1
    unfold f_X8_init_b228
    rw [nI_1, show (18 : Int32) - nI i = nI (18 - i) from pk_sub (a := 18) (b := i) (by omega), nI_clamp (by omega), nI_clamp (by omega)]
    refine bf (nI_ge (a := i) (b := 19) (by omega) (by decide)) ⟨vp_in_nI (by omega) (by decide), vp_in_nI (by omega) (by decide), nmx (nmx (ih (i + 1) _ (by omega) (by omega) (h1.s ?_)))⟩
    rw [h1.1 _ (by omega)]; exact c228 i (by omega) h10
theorem start_rel {f : Nat → Int32} (hf : ∀ j, j < 108 → f j = 1) {τ : St} (h : endI τ) : RelX (iniX f) τ := by
  obtain ⟨⟨h18, hz⟩, h0, h22⟩ := h
  have z : ∀ k, k ≠ 0 → k ≠ 18 → k ≠ 20 → k ≠ 22 → ∀ j, τ.1 k j = 0 := fun k a b c d j => by rw [hz k a b c d]
  refine ⟨fun i hi => ?_, ⟨0, by decide, rfl, z 3 (by decide) (by decide) (by decide) (by decide) 0, fun j hj => absurd hj (by omega), fun i r c hi => absurd hi (by omega), fun i hi => absurd hi (by omega), fun i _ _ => rfl⟩, ⟨0, by decide, rfl, z 10 (by decide) (by decide) (by decide) (by decide) 0, fun j hj => absurd hj (by omega)⟩, fun k hk => ?_, fun k hk => ?_, ?_, h18⟩
  · rw [(h0 i hi).1]
    rcases (show i = 0 ∨ i = 1 ∨ i = 2 by omega) with rfl | rfl | rfl <;> exact ⟨rfl, 100, by decide, by decide, rfl⟩
  · refine ⟨0, 35, by decide, by decide, z 19 (by decide) (by decide) (by decide) (by decide) k, (h0 k hk).2, fun t ht => ?_⟩
    rw [if_pos (by omega)]
    exact hf _ (by omega)
  · left
    rw [h22 k hk]
    rcases (show k = 0 ∨ k = 1 ∨ k = 2 ∨ k = 3 by omega) with rfl | rfl | rfl | rfl <;> exact ⟨rfl, rfl, rfl⟩
  · rw [z 16 (by decide) (by decide) (by decide) (by decide) 0]; rfl
theorem rel_init (f : Nat → Int32) (hf : ∀ j, j < 108 → f j = 1) : f_X8_init zSt (fun τ => RelX (iniX f) τ) := by
  have b0 : bOk zSt 0 := ⟨fun j hj => absurd hj (Nat.not_lt_zero j), fun _ _ _ _ _ => rfl⟩
  unfold f_X8_init
  refine nmx (nmx (nmx (nmx (nmx (nmx (nmx (nmx (nmx (nmx ⟨10, ?_⟩)))))))))
  refine in228 (fun τ h => start_rel hf h) 9 10 _ rfl (by decide) ?_
  exact bOk.s (bOk.s (bOk.s (bOk.s (bOk.s (bOk.s (bOk.s (bOk.s (bOk.s (bOk.s b0 (by decide)) (by decide)) (by decide)) (by decide)) (by decide)) (by decide)) (by decide)) (by decide)) (by decide)) (by decide)
theorem obAll : ObAll RelX := ⟨ob_turn, ob_length, ob_posture, ob_clear, ob_hand, ob_mend, ob_measure, ob_leave, ob_used, ob_table, ob_rank, ob_told, ob_fit, ob_miss, ob_worst, ob_best, ob_weight, ob_pair, ob_shut, ob_answers, ob_answer, ob_limit, ob_nearest, ob_near, ob_drift, ob_sheet, ob_lose, ob_put, ob_get, ob_copy, ob_count, ob_digest⟩
