/-! ===== the camera: answers, answer ===== -/
def shf (X : St) (h i w : Nat) : Int32 := if w = 0 then 65 * X.1 8 i - COF h * X.1 6 i + SOF h * X.1 7 i else 65 * X.1 9 i - SOF h * X.1 6 i - COF h * X.1 7 i
theorem sp_shiftX {X : St} {h i w : Nat} {Q : Int32 → St → Prop} (hh : h < 36) (hi : i < 20) (hw : w < 2) (q : Q (shf X h i w) X) : f_X1_shift (nI h) (nI i) (nI w) X Q := by
  have hin : vp_in (nI i) 20 := vp_in_nI hi (by decide)
  unfold f_X1_shift
  refine sp_cOf hh (sp_sOf hh ?_)
  rw [nI_clamp (by omega)]
  rcases (show w = 0 ∨ w = 1 by omega) with rfl | rfl
  · exact nf rfl ⟨hin, hin, hin, q⟩
  · exact nt (by decide) ⟨hin, hin, hin, q⟩
def cams (X M : St) (n : Nat) : Prop := n ≤ 20 ∧ X.1 10 0 = nI n ∧ M.1 10 0 = nI n ∧ ∀ j, j < n → X.1 6 j = M.1 6 j ∧ X.1 7 j = M.1 7 j ∧ X.1 8 j = M.1 8 j ∧ X.1 9 j = M.1 9 j
theorem sp_shiftM {X M : St} {n h i w : Nat} {Q : Int32 → St → Prop} (hc : rCs M) (hm : cams X M n) (hh : h < 36) (hi : i < n) (hw : w < 2) (q : Q (shf X h i w) M) : f_X8_shift (nI h) (nI i) (nI (w + 1)) M Q := by
  obtain ⟨hn, h10, m10, hj⟩ := hm
  obtain ⟨e6, e7, e8, e9⟩ := hj i hi
  have hin : vp_in (nI i) 20 := vp_in_nI (by omega) (by decide)
  unfold f_X8_shift
  rw [nI_clamp (by omega)]
  unfold shf at q
  rcases (show w = 0 ∨ w = 1 by omega) with rfl | rfl
  · refine nf rfl ⟨hin, sp_c hc (by omega) ⟨hin, sp_s hc (by omega) ⟨hin, ?_⟩⟩⟩
    rw [if_pos rfl] at q
    rw [Nat.mod_eq_of_lt hh, ← e6, ← e7, ← e8]
    rw [show 65 * X.1 8 i - (COF h * X.1 6 i - SOF h * X.1 7 i) = 65 * X.1 8 i - COF h * X.1 6 i + SOF h * X.1 7 i by grind]
    exact q
  · refine nt (by decide) ⟨hin, sp_s hc (by omega) ⟨hin, sp_c hc (by omega) ⟨hin, ?_⟩⟩⟩
    rw [if_neg (by decide)] at q
    rw [Nat.mod_eq_of_lt hh, ← e6, ← e7, ← e9]
    rw [show 65 * X.1 9 i - (SOF h * X.1 6 i + COF h * X.1 7 i) = 65 * X.1 9 i - SOF h * X.1 6 i - COF h * X.1 7 i by grind]
    exact q
def okA (X : St) (h i : Nat) : Bool := decide (shf X h i 0 = shf X h 0 0) && decide (shf X h i 1 = shf X h 0 1)
def AB (X : St) (h : Nat) : Nat → Bool
  | 0 => true
  | i + 1 => AB X h i && okA X h i
theorem AB_false (X : St) (h : Nat) {i : Nat} (hf : AB X h i = false) : ∀ m, AB X h (i + m) = false := by
  intro m
  induction m with
  | zero => exact hf
  | succ m ih => show (AB X h (i + m) && okA X h (i + m)) = false; rw [ih]; rfl
theorem AB_1 (X : St) (h : Nat) : AB X h 1 = true := by simp [AB, okA]
theorem isA_loopX {X : St} {n h : Nat} {Q : Int32 → St → Prop} (hn : n ≤ 20) (h10 : X.1 10 0 = nI n) (hh : h < 36) (q1 : AB X h n = true → Q 1 X) (q0 : AB X h n = false → Q 0 X) : ∀ (m i : Nat), 1 ≤ i → i ≤ 20 → n ≤ i + m → AB X h (if i ≤ n then i else n) = true → f_X1_isAnswer_b2 Q (m + 1) (nI h) (nI i) X := by
  intro m
  induction m with
  | zero =>
    intro i h1 h20 h2 hA
    unfold f_X1_isAnswer_b2
    refine bt (by rw [h10]; exact nI_le (by omega) (by omega)) (q1 ?_)
    split at hA
    · rwa [show i = n by omega] at hA
    · exact hA
  | succ m ih =>
    intro i h1 h20 h2 hA
    unfold f_X1_isAnswer_b2
    by_cases hle : n ≤ i
    · refine bt (by rw [h10]; exact nI_le hle (by omega)) (q1 ?_)
      split at hA
      · rwa [show i = n by omega] at hA
      · exact hA
    · refine bf (by rw [h10]; exact nI_ge (by omega) (by omega)) ?_
      rw [if_pos (by omega)] at hA
      have fal : okA X h i = false → AB X h n = false := fun hk => by
        have := AB_false X h (i := i + 1) (by show (AB X h i && okA X h i) = false; rw [hk, Bool.and_false]) (n - (i + 1))
        rwa [show i + 1 + (n - (i + 1)) = n by omega] at this
      refine sp_shiftX (w := 0) hh (by omega) (by decide) (sp_shiftX (i := 0) (w := 0) hh (by decide) (by decide) ?_)
      refine ⟨fun c => q0 (fal (by unfold okA; simp [c])), fun c => ?_⟩
      refine sp_shiftX (w := 1) hh (by omega) (by decide) (sp_shiftX (i := 0) (w := 1) hh (by decide) (by decide) ?_)
      refine ⟨fun d => nmx ?_, fun d => q0 (fal (by unfold okA; simp [d]))⟩
      rw [nI_1]
      refine ih (i + 1) (by omega) (by omega) (by omega) ?_
      rw [if_pos (by omega)]
      show (AB X h i && okA X h i) = true
      rw [hA]; unfold okA; simp [c, d]
theorem sp_isAX {X : St} {n h : Nat} {Q : Int32 → St → Prop} (hn : n ≤ 20) (h10 : X.1 10 0 = nI n) (hh : h < 36) (q1 : AB X h n = true → Q 1 X) (q0 : AB X h n = false → Q 0 X) : f_X1_isAnswer (nI h) X Q := by
  unfold f_X1_isAnswer
  refine ⟨n + 1, isA_loopX hn h10 hh q1 q0 n 1 (by decide) (by decide) (by omega) ?_⟩
  split
  · exact AB_1 X h
  · rw [show n = 0 by omega]; rfl
theorem isA_loopM {X M : St} {n h : Nat} {Q : Int32 → St → Prop} (hc : rCs M) (hm : cams X M n) (hh : h < 36) (q1 : AB X h n = true → Q 1 M) (q0 : AB X h n = false → Q 0 M) : ∀ (m i : Nat) (fl : Int32), 1 ≤ i → i ≤ 20 → n ≤ i + m → ((fl = 1 ∧ AB X h (if i ≤ n then i else n) = true) ∨ (fl = 0 ∧ AB X h n = false)) → f_X8_isAnswer_b4 Q (m + 1) (nI h) fl (nI i) M := by
  obtain ⟨hn, h10, m10, hj⟩ := id hm
  have done : ∀ (i : Nat) (fl : Int32), n ≤ i → ((fl = 1 ∧ AB X h (if i ≤ n then i else n) = true) ∨ (fl = 0 ∧ AB X h n = false)) → zok fl ∧ Q fl M := by
    intro i fl hle hA
    rcases hA with ⟨rfl, hA⟩ | ⟨rfl, hA⟩
    · refine ⟨Or.inr rfl, q1 ?_⟩
      split at hA
      · rwa [show i = n by omega] at hA
      · exact hA
    · exact ⟨Or.inl rfl, q0 hA⟩
  intro m
  induction m with
  | zero =>
    intro i fl h1 h20 h2 hA
    unfold f_X8_isAnswer_b4
    exact bt (by rw [m10]; exact nI_le (by omega) (by omega)) (done i fl (by omega) hA)
  | succ m ih =>
    intro i fl h1 h20 h2 hA
    unfold f_X8_isAnswer_b4
    by_cases hle : n ≤ i
    · exact bt (by rw [m10]; exact nI_le hle (by omega)) (done i fl hle hA)
    · refine bf (by rw [m10]; exact nI_ge (by omega) (by omega)) ?_
      rw [nI_1]
      have go0 : AB X h n = false → f_X8_isAnswer_b4 Q (m + 1) (nI h) 0 (nI (i + 1)) M := fun hf => ih (i + 1) 0 (by omega) (by omega) (by omega) (Or.inr ⟨rfl, hf⟩)
      rcases hA with ⟨rfl, hA⟩ | ⟨rfl, hA⟩
      · refine bf one_ne ?_
        rw [if_pos (by omega)] at hA
        have fal : okA X h i = false → AB X h n = false := fun hk => by
          have := AB_false X h (i := i + 1) (by show (AB X h i && okA X h i) = false; rw [hk, Bool.and_false]) (n - (i + 1))
          rwa [show i + 1 + (n - (i + 1)) = n by omega] at this
        refine sp_shiftM (w := 0) hc hm hh (by omega) (by decide) (sp_shiftM (i := 0) (w := 0) hc hm hh (by omega) (by decide) ?_)
        refine ⟨fun c => nmx (go0 (fal (by unfold okA; simp [c]))), fun c => ?_⟩
        refine sp_shiftM (w := 1) hc hm hh (by omega) (by decide) (sp_shiftM (i := 0) (w := 1) hc hm hh (by omega) (by decide) ?_)
        refine ⟨fun d => nmx (go0 (fal (by unfold okA; simp [d]))), fun d => nmx ?_⟩
        refine ih (i + 1) 1 (by omega) (by omega) (by omega) (Or.inl ⟨rfl, ?_⟩)
        rw [if_pos (by omega)]
        show (AB X h i && okA X h i) = true
        rw [hA]; unfold okA; simp [c, d]
      · exact bt rfl (nmx (go0 hA))
theorem sp_isAM {X M : St} {n h : Nat} {Q : Int32 → St → Prop} (hc : rCs M) (hm : cams X M n) (hh : h < 36) (q1 : AB X h n = true → Q 1 M) (q0 : AB X h n = false → Q 0 M) : f_X8_isAnswer (nI h) M Q := by
  have hn := hm.1
  unfold f_X8_isAnswer
  refine ⟨n + 1, isA_loopM hc hm hh q1 q0 n 1 1 (by decide) (by decide) (by omega) (Or.inl ⟨rfl, ?_⟩)⟩
  split
  · exact AB_1 X h
  · rw [show n = 0 by omega]; rfl
def nA (X : St) (n : Nat) : Nat → Nat
  | 0 => 0
  | h + 1 => nA X n h + (if AB X h n = true then 1 else 0)
theorem nA_le (X : St) (n : Nat) : ∀ h, nA X n h ≤ h := by
  intro h
  induction h with
  | zero => exact Nat.le_refl 0
  | succ h ih => unfold nA; split <;> omega
theorem nA_mono (X : St) (n h : Nat) : ∀ m, nA X n h ≤ nA X n (h + m) := by
  intro m
  induction m with
  | zero => exact Nat.le_refl _
  | succ m ih => show nA X n h ≤ nA X n (h + m) + _; omega
theorem nA_uni {X : St} {n g g2 : Nat} (h1 : AB X g n = true) (h2 : AB X g2 n = true) (e : nA X n g = nA X n g2) : g = g2 := by
  have key : ∀ a b, a < b → AB X a n = true → nA X n a < nA X n b := by
    intro a b hab ha
    have := nA_mono X n (a + 1) (b - (a + 1))
    rw [show a + 1 + (b - (a + 1)) = b by omega] at this
    have e1 : nA X n (a + 1) = nA X n a + 1 := by show nA X n a + _ = _; rw [if_pos ha]
    omega
  rcases Nat.lt_trichotomy g g2 with h | h | h
  · have := key g g2 h h1; omega
  · exact h
  · have := key g2 g h h2; omega
theorem ansX_loop {X : St} {n : Nat} {Q : Int32 → St → Prop} (hn : n ≤ 20) (h10 : X.1 10 0 = nI n) (q : Q (nI (nA X n 36)) X) : ∀ (m h : Nat), h + m = 36 → f_X1_headingsThatAnswer_b4 Q (m + 1) (nI (nA X n h)) (nI h) X := by
  intro m
  induction m with
  | zero =>
    intro h hh
    have : h = 36 := by omega
    subst this
    unfold f_X1_headingsThatAnswer_b4
    exact bt (by decide) q
  | succ m ih =>
    intro h hh
    unfold f_X1_headingsThatAnswer_b4
    refine bf (nI_ge (a := h) (b := 36) (by omega) (by decide)) ?_
    rw [nI_1, nI_1]
    have st : f_X1_headingsThatAnswer_b4 Q (m + 1) (nI (nA X n h + (if AB X h n = true then 1 else 0))) (nI (h + 1)) X := ih (h + 1) (by omega)
    refine sp_isAX hn h10 (by omega) (fun c => bf one_ne (nmx (nmx ?_))) (fun c => bt rfl (nmx ?_))
    · rw [if_pos c] at st; exact st
    · rw [c] at st; exact st
theorem ansM_loop {X M : St} {n : Nat} {Q : Int32 → St → Prop} (hc : rCs M) (hm : cams X M n) (q : Q (nI (nA X n 36)) M) : ∀ (m h : Nat), h + m = 36 → f_X8_answers_b4 Q (m + 1) (nI (nA X n h)) (nI h) M := by
  intro m
  induction m with
  | zero =>
    intro h hh
    have : h = 36 := by omega
    subst this
    unfold f_X8_answers_b4
    exact bt (by decide) q
  | succ m ih =>
    intro h hh
    unfold f_X8_answers_b4
    refine bf (nI_ge (a := h) (b := 36) (by omega) (by decide)) ?_
    rw [nI_1, nI_1, Int32.add_zero]
    have st : f_X8_answers_b4 Q (m + 1) (nI (nA X n h + (if AB X h n = true then 1 else 0))) (nI (h + 1)) M := ih (h + 1) (by omega)
    refine sp_isAM hc hm (by omega) (fun c => bf one_ne (nmx (nmx ?_))) (fun c => bt rfl (nmx (nmx ?_)))
    · rw [if_pos c] at st; exact st
    · rw [c] at st; exact st
theorem sp_ansX {X : St} {n : Nat} {Q : Int32 → St → Prop} (hn : n ≤ 20) (h10 : X.1 10 0 = nI n) (q : Q (nI (nA X n 36)) X) : f_X1_headingsThatAnswer X Q := by
  unfold f_X1_headingsThatAnswer
  exact ⟨37, ansX_loop hn h10 q 36 0 rfl⟩
theorem sp_ansM {X M : St} {n : Nat} {Q : Int32 → St → Prop} (hc : rCs M) (hm : cams X M n) (q : Q (nI (nA X n 36)) M) : f_X8_answers M Q := by
  unfold f_X8_answers
  exact ⟨37, ansM_loop hc hm q 36 0 rfl⟩
theorem ob_answers : Ob_answers RelX := by
  intro σ τ hR
  obtain ⟨hLen, hP, ⟨n, hn, hx, hm, hc⟩, hLim, hShe, hLat, hCs⟩ := id hR
  unfold f_X7_answers
  exact sp_ansX hn hx (sp_ansM hCs ⟨hn, hx, hm, hc⟩ ⟨rfl, hR⟩)
theorem hofX_loop {X : St} {n i : Nat} {Q : Int32 → St → Prop} (hn : n ≤ 20) (h10 : X.1 10 0 = nI n) (hi : i < 2 ^ 31) (q1 : ∀ g, g < 36 → AB X g n = true → nA X n g = i → Q (nI g) X) (q0 : nA X n 36 ≤ i → Q (-1) X) : ∀ (m h : Nat), h + m = 36 → nA X n h ≤ i → f_X1_headingOfAnswer_b4 Q (m + 1) (nI i) (nI (nA X n h)) (nI h) X := by
  intro m
  induction m with
  | zero =>
    intro h hh hle
    have : h = 36 := by omega
    subst this
    unfold f_X1_headingOfAnswer_b4
    exact bt (by decide) (q0 hle)
  | succ m ih =>
    intro h hh hle
    have hA := nA_le X n h
    unfold f_X1_headingOfAnswer_b4
    refine bf (nI_ge (a := h) (b := 36) (by omega) (by decide)) ?_
    rw [nI_1, nI_1]
    refine sp_isAX hn h10 (by omega) (fun c => bf one_ne ⟨fun d => nmx (nmx ?_), fun d => ?_⟩) (fun c => bt rfl (nmx ?_))
    · have hne : nA X n h ≠ i := fun e => d (by rw [e])
      have e1 : nA X n (h + 1) = nA X n h + 1 := by show nA X n h + _ = _; rw [if_pos c]
      rw [← e1]
      exact ih (h + 1) (by omega) (by omega)
    · exact q1 h (by omega) c ((nI_eq (by omega) hi).mp d)
    · have e1 : nA X n (h + 1) = nA X n h := by show nA X n h + _ = _; rw [c]; rfl
      rw [← e1]
      exact ih (h + 1) (by omega) (by omega)
theorem nxt_loop {X M : St} {n c : Nat} {Q : Int32 → St → Prop} {K : Int32 → Int32 → Int32 → St → Prop} {a2 a4 : Int32} (hc : rCs M) (hm : cams X M n) (hlt : c < nA X n 36) (hK : ∀ g, g < 36 → AB X g n = true → nA X n g = c → K a2 (nI g) (a4 + -1) M) : ∀ (m h : Nat), h + m = 36 → nA X n h = c → f_X8_answer_b58 Q K (m + 1) a2 (nI h) a4 M := by
  intro m
  induction m with
  | zero =>
    intro h hh hA
    have : h = 36 := by omega
    subst this
    omega
  | succ m ih =>
    intro h hh hA
    unfold f_X8_answer_b58
    rw [nI_1]
    refine sp_isAM hc hm (by omega) (fun d => nt one_ne (nmx (hK h (by omega) d hA))) (fun d => nf rfl (nmx ?_))
    refine ih (h + 1) (by omega) ?_
    show nA X n h + _ = c
    rw [d]; exact hA
theorem pick_loop {X M : St} {n i : Nat} {Q : Int32 → St → Prop} {a2 : Int32} (hc : rCs M) (hm : cams X M n) (hlt : i < nA X n 36) (q : ∀ g, g < 36 → AB X g n = true → nA X n g = i → ((¬ a2 = 0) → f_X8_shift (nI g) (0 : Int32) a2 M (fun r7 σ8 => Q r7 σ8)) ∧ (a2 = 0 → Q (nI g) M)) : ∀ (L s : Nat) (a3 : Int32), a3 + 1 = nI s → s ≤ 36 → nA X n s + L = i → f_X8_answer_b50 Q (L + 2) a2 a3 (nI L) M := by
  have h36 := nA_le X n 36
  intro L
  induction L with
  | zero =>
    intro s a3 h3 hs hA
    unfold f_X8_answer_b50
    refine bf (by decide) (nmx ⟨36 - s + 1, ?_⟩)
    rw [h3]
    refine nxt_loop (c := i) hc hm hlt (fun g hg d e => ?_) (36 - s) s (by omega) (by omega)
    unfold f_X8_answer_b50
    exact bt (by decide) (q g hg d e)
  | succ L ih =>
    intro s a3 h3 hs hA
    unfold f_X8_answer_b50
    refine bf (nI_pos (by omega)) (nmx ⟨36 - s + 1, ?_⟩)
    rw [h3]
    refine nxt_loop (c := nA X n s) hc hm (by omega) (fun g hg d e => ?_) (36 - s) s (by omega) rfl
    rw [pk_m1]
    refine ih (g + 1) (nI g) (nI_1 g) (by omega) ?_
    show nA X n g + _ + L = i
    rw [if_pos d]; omega
theorem ob_answer : Ob_answer RelX := by
  intro σ τ a1 a2 hR
  obtain ⟨hLen, hP, ⟨n, hn, hx, hm, hc⟩, hLim, hShe, hLat, hCs⟩ := id hR
  have hcm : cams σ τ n := ⟨hn, hx, hm, hc⟩
  have h36 := nA_le σ n 36
  have hb : (Int32.toInt64 (nI (nA σ n 36) - 1)).toInt = (nA σ n 36 : Int) - 1 := by
    rw [wide_toInt]; exact pk_sub_toInt (a := nA σ n 36) (b := 1) (by omega) (by decide)
  have bad : ¬ inr a1 0 ((nA σ n 36 : Int) - 1) → f_X8_answer a1 a2 τ (fun r2 v => (-2147483648 : Int32) = r2 ∧ RelX σ v) := by
    intro h
    unfold f_X8_answer
    exact sp_ansM hCs hcm (wM0 (a := 0) (b := (nA σ n 36 : Int) - 1) (by decide) hb h (bt rfl ⟨rfl, hR⟩))
  have bad2 : ¬ inr a2 0 2 → f_X8_answer a1 a2 τ (fun r2 v => (-2147483648 : Int32) = r2 ∧ RelX σ v) := by
    intro h
    by_cases h1 : inr a1 0 ((nA σ n 36 : Int) - 1)
    · unfold f_X8_answer
      exact sp_ansM hCs hcm (wM1 (a := 0) (b := (nA σ n 36 : Int) - 1) (by decide) hb h1 (bf one_ne (wM0 (a := 0) (b := 2) (by decide) (by decide) h (nf rfl ⟨rfl, hR⟩))))
    · exact bad h1
  unfold f_X7_answer
  by_cases h0 : a1 < 0
  · refine bt h0 (bad (fun h => ?_))
    rw [i32_lt, Int32.toInt_zero] at h0
    have := h.1; omega
  · refine bf h0 ?_
    by_cases h2 : inr a2 0 2
    · refine wX1 (a := 0) (b := 2) (by decide) (by decide) h2 (nt one_ne ?_)
      obtain ⟨i, hi, rfl⟩ := nI_of h0
      unfold f_X1_headingOfAnswer
      refine ⟨37, hofX_loop hn hx hi (fun g hg hA e => ?_) (fun hle => ?_) 36 0 rfl (Nat.zero_le _)⟩
      · have hgne : ¬ nI g = -1 := fun h => by
          have h2 : (nI g).toInt = (-1 : Int32).toInt := by rw [h]
          rw [nI_toInt (by omega)] at h2
          have : (-1 : Int32).toInt = -1 := by decide
          omega
        have hlt : i < nA σ n 36 := by
          have := nA_mono σ n (g + 1) (36 - (g + 1))
          rw [show g + 1 + (36 - (g + 1)) = 36 by omega] at this
          have e1 : nA σ n (g + 1) = nA σ n g + 1 := by show nA σ n g + _ = _; rw [if_pos hA]
          omega
        have h1 : inr (nI i) 0 ((nA σ n 36 : Int) - 1) := nI_inr hi (by omega) (by omega)
        have pick : ∀ (Q : Int32 → St → Prop) (w : Int32), (((¬ w = 0) → f_X8_shift (nI g) (0 : Int32) w τ (fun r7 σ8 => Q r7 σ8)) ∧ (w = 0 → Q (nI g) τ)) → f_X8_answer_b50 Q (i + 2) w (-1 : Int32) (nI i) τ := by
          intro Q w q
          refine pick_loop hCs hcm hlt (fun g2 hg2 hA2 e2 => ?_) i 0 (-1) (by decide) (by omega) (by show 0 + i = i; omega)
          rw [nA_uni hA2 hA (by omega)]; exact q
        refine nt hgne ?_
        obtain ⟨w, hw, rfl⟩ := inr_nI (n := 2) h2 (by decide)
        have M1 : ∀ (Q : Int32 → St → Prop), ((nI w ≤ 0 → ∃ n15 : Nat, f_X8_answer_b50 Q n15 (nI w) (-1 : Int32) (nI i) τ) ∧ ((¬ nI w ≤ 0) → ((¬ (τ.1 10 0) = 0) → ∃ n16 : Nat, f_X8_answer_b50 Q n16 (nI w) (-1 : Int32) (nI i) τ) ∧ ((τ.1 10 0) = 0 → Q (-2147483647 : Int32) τ))) → f_X8_answer (nI i) (nI w) τ Q := by
          intro Q q
          unfold f_X8_answer
          exact sp_ansM hCs hcm (wM1 (a := 0) (b := (nA σ n 36 : Int) - 1) (by decide) hb h1 (bf one_ne (wM1 (a := 0) (b := 2) (by decide) (by decide) h2 (nt one_ne q))))
        by_cases w0 : w = 0
        · subst w0
          refine nf rfl (M1 (fun r2 v => nI g = r2 ∧ RelX σ v) (bt (by decide) ⟨i + 2, pick _ _ (nf rfl ⟨rfl, hR⟩)⟩))
        · have hw0 : ¬ nI w = 0 := nI_ne0 (by omega) (by omega)
          have hwle : ¬ nI w ≤ 0 := nI_nle (by omega) (by omega)
          refine nt hw0 ?_
          rw [hx]
          by_cases n0' : n = 0
          · subst n0'
            refine nf rfl (M1 (fun r2 v => (-2147483647 : Int32) = r2 ∧ RelX σ v) (bf hwle (nf (by rw [hm]; rfl) ⟨rfl, hR⟩)))
          · have hnz : ¬ nI n = 0 := nI_ne0 (by omega) (by omega)
            refine nt hnz ?_
            rw [show nI w - 1 = nI (w - 1) from pk_sub (a := w) (b := 1) (by omega)]
            refine sp_shiftX (i := 0) hg (by decide) (by omega) ?_
            refine M1 (fun r2 v => shf σ g 0 (w - 1) = r2 ∧ RelX σ v) (bf hwle (nt (by rw [hm]; exact hnz) ⟨i + 2, pick _ _ (nt hw0 ?_)⟩))
            have := sp_shiftM (Q := fun r2 v => shf σ g 0 (w - 1) = r2 ∧ RelX σ v) (i := 0) (w := w - 1) hCs hcm hg (by omega) (by omega) ⟨rfl, hR⟩
            rw [show w - 1 + 1 = w by omega] at this
            exact this
      · refine nf rfl (bad (fun h => ?_))
        have h1 := h.2
        rw [nI_toInt hi] at h1
        omega
    · exact wX0 (a := 0) (b := 2) (by decide) (by decide) h2 (nf rfl (bad2 h2))
