/-! ===== measures: measure, used, miss, worst ===== -/
def msz (X : St) : Nat := (X.1 28 0).toNatClampNeg
def mAt (X : St) (j : Nat) : Bool := decide (j < msz X) && (decide (-9999 ≤ (X.1 20 j).toInt) && decide ((X.1 20 j).toInt ≤ 9999))
def meas (X : St) (i : Nat) : Bool := mAt X (2 * i) && mAt X (2 * i + 1)
def size0 (X : St) : Prop := ∃ n : Nat, n ≤ 100 ∧ X.1 28 0 = nI n
theorem rShe.size0 {X M : St} (h : rShe X M) : size0 X := by
  rcases h 0 (by decide) with ⟨-, -, h3⟩ | ⟨f, n, hf, hn, -, -, h3, -⟩
  · exact ⟨0, by decide, h3⟩
  · exact ⟨n, hn, h3⟩
theorem msz_of {X : St} {n : Nat} (hn : n ≤ 100) (h : X.1 28 0 = nI n) : msz X = n := by unfold msz; rw [h, nI_clamp (by omega)]
theorem mAt_iff {X : St} {j : Nat} : mAt X j = true ↔ j < msz X ∧ inr (X.1 20 j) (-9999) 9999 := by
  unfold mAt inr; simp only [Bool.and_eq_true, decide_eq_true_eq]
theorem sp_hasMA {X : St} {j : Nat} {Q : Int32 → St → Prop} (hs : size0 X) (hj : j < 1000) (q1 : mAt X j = true → Q 1 X) (q0 : ¬ mAt X j = true → Q 0 X) : f_X4_hasMeasureAt 0 (nI j) X Q := by
  obtain ⟨n, hn, hz⟩ := hs
  have hm := msz_of hn hz
  have e1 : (-9999 : Int32).toInt = -9999 := by decide
  have e2 : (9999 : Int32).toInt = 9999 := by decide
  unfold f_X4_hasMeasureAt f_X4_has
  refine bf (nI_pos (by omega)) ?_
  have hz' : X.1 (28 + 0) 0 = nI n := hz
  rw [hz', nI_clamp (by omega)]
  by_cases hlt : j < n
  · refine bf (nI_ge hlt (by omega)) (bf one_ne ⟨vp_in_nI (by omega) (by decide), ?_⟩)
    show (X.1 20 j < -9999 → Q 0 X) ∧ (¬ X.1 20 j < -9999 → vp_in (nI j) 100 ∧ ((9999 : Int32) < X.1 20 j → Q 0 X) ∧ (¬ (9999 : Int32) < X.1 20 j → Q 1 X))
    refine ⟨fun c => q0 ?_, fun c => ⟨vp_in_nI (by omega) (by decide), fun d => q0 ?_, fun d => q1 ?_⟩⟩
    · rw [i32_lt, e1] at c; rw [mAt_iff]; intro h; have := h.2.1; omega
    · rw [i32_lt, e2] at d; rw [mAt_iff]; intro h; have := h.2.2; omega
    · rw [i32_lt, e1] at c; rw [i32_lt, e2] at d; rw [mAt_iff]; exact ⟨by omega, by omega, by omega⟩
  · refine bt (nI_le (by omega) (by omega)) (bt rfl (q0 ?_))
    rw [mAt_iff]; intro h; have := h.1; omega
theorem ix2 (i : Nat) : (2 : Int32) * nI i = nI (2 * i) := by rw [show (2 : Int32) = nI 2 from rfl, pk_mul]
theorem sp_isMeas {X : St} {i : Nat} {Q : Int32 → St → Prop} (hs : size0 X) (hi : i < 20) (q1 : meas X i = true → Q 1 X) (q0 : ¬ meas X i = true → Q 0 X) : f_X7_isMeasured (nI i) X Q := by
  unfold f_X7_isMeasured
  rw [ix2, nI_1]
  have hm : meas X i = true ↔ mAt X (2 * i) = true ∧ mAt X (2 * i + 1) = true := by unfold meas; exact Bool.and_eq_true _ _ ▸ Iff.rfl
  refine sp_hasMA hs (by omega) (fun h1 => bf one_ne ?_) (fun h1 => bt rfl (q0 (fun h => h1 (hm.mp h).1)))
  exact sp_hasMA hs (by omega) (fun h2 => bf one_ne (q1 (hm.mpr ⟨h1, h2⟩))) (fun h2 => bt rfl (q0 (fun h => h2 (hm.mp h).2)))
theorem meas_at {X : St} {i w : Nat} (h : meas X i = true) (hw : w < 2) : 2 * i + w < msz X ∧ inr (X.1 20 (2 * i + w)) (-9999) 9999 := by
  unfold meas at h
  rw [Bool.and_eq_true] at h
  rcases (show w = 0 ∨ w = 1 by omega) with rfl | rfl
  · exact mAt_iff.mp h.1
  · exact mAt_iff.mp h.2
theorem size0.le {X : St} (h : size0 X) : msz X ≤ 100 := by obtain ⟨n, hn, e⟩ := h; rw [msz_of hn e]; exact hn
theorem sp_measured {X : St} {i w : Nat} {Q : Int32 → St → Prop} (hi : i < 20) (hw : w < 2) (q : Q (X.1 20 (2 * i + w)) X) : f_X7_measured (nI i) (nI w) X Q := by
  unfold f_X7_measured
  rw [ix2, nI_add, nI_clamp (by omega)]
  exact ⟨vp_in_nI (by omega) (by decide), q⟩
/-- the reference's item of the first sheet -/
def itM (X : St) (j : Nat) : Int32 := if j < msz X then X.1 20 j else -10000
theorem sp_item {X M : St} {j : Nat} {Q : Int32 → St → Prop} (hR : RelX X M) (hj : j < 100) (q : Q (itM X j) M) : f_X8_item (nI j) M Q := by
  unfold f_X8_item
  unfold itM at q
  rcases hR.2.2.2.2.1 0 (by decide) with ⟨h1, h2, h3⟩ | ⟨f, n, hf, hn, h1, h2, h3, h4, h5⟩
  · have hm : msz X = 0 := msz_of (n := 0) (by decide) h3
    rw [hm, if_neg (by omega)] at q
    exact bt (by rw [h2]; decide) q
  · have hm : msz X = n := msz_of hn h3
    rw [hm] at q
    refine bf (by rw [h2]; exact nI_pos (by omega)) ?_
    rw [h4]
    by_cases hlt : j < n
    · rw [if_pos hlt] at q
      refine bt (nI_lt hlt (by omega)) ⟨vp_in_nI (by omega) (by decide), ?_⟩
      have := h5 j hlt
      rw [show 100 * 0 + j = j by omega] at this
      rw [nI_clamp (by omega), ← this]; exact q
    · rw [if_neg hlt] at q
      exact bf (nI_nlt (by omega) (by omega)) q
theorem it_inr {X : St} {j : Nat} : inr (itM X j) (-9999) 9999 ↔ mAt X j = true := by
  unfold itM
  rw [mAt_iff]
  by_cases h : j < msz X
  · rw [if_pos h]; exact ⟨fun q => ⟨h, q⟩, fun q => q.2⟩
  · rw [if_neg h]
    refine ⟨fun q => absurd q.1 ?_, fun q => absurd q.1 h⟩
    have : (-10000 : Int32).toInt = -10000 := by decide
    omega
theorem sp_hasMeas {X M : St} {i : Nat} {Q : Int32 → St → Prop} (hR : RelX X M) (hi : i < 20) (q1 : meas X i = true → Q 1 M) (q0 : ¬ meas X i = true → Q 0 M) : f_X8_hasMeasure (nI i) M Q := by
  have hm : meas X i = true ↔ mAt X (2 * i) = true ∧ mAt X (2 * i + 1) = true := by unfold meas; exact Bool.and_eq_true _ _ ▸ Iff.rfl
  unfold f_X8_hasMeasure
  rw [ix2, nI_1]
  refine sp_item hR (by omega) ?_
  by_cases h1 : inr (itM X (2 * i)) (-9999) 9999
  · refine wM1 (a := -9999) (b := 9999) (by decide) (by decide) h1 (bf one_ne (sp_item hR (by omega) ?_))
    by_cases h2 : inr (itM X (2 * i + 1)) (-9999) 9999
    · exact wM1 (a := -9999) (b := 9999) (by decide) (by decide) h2 (bf one_ne (q1 (hm.mpr ⟨it_inr.mp h1, it_inr.mp h2⟩)))
    · exact wM0 (a := -9999) (b := 9999) (by decide) (by decide) h2 (bt rfl (q0 (fun h => h2 (it_inr.mpr (hm.mp h).2))))
  · exact wM0 (a := -9999) (b := 9999) (by decide) (by decide) h1 (bt rfl (q0 (fun h => h1 (it_inr.mpr (hm.mp h).1))))
theorem ob_measure : Ob_measure RelX := by
  intro σ τ a1 a2 hR
  obtain ⟨hLen, ⟨P, hP⟩, hCam, hLim, hShe, hLat, hCs⟩ := id hR
  obtain ⟨h20, hx3, hm3, hhd, hprod, hout, hout0⟩ := id hP
  unfold f_X7_measure
  by_cases h1 : inr a1 0 ((P : Int) - 1)
  · refine posX1 hx3 h20 h1 (bf one_ne ?_)
    by_cases h2 : inr a2 0 1
    · refine wX1 (a := 0) (b := 1) (by decide) (by decide) h2 (nt one_ne ?_)
      obtain ⟨i, hi, rfl⟩ := pos_nI h20 h1
      obtain ⟨w, hw, rfl⟩ := inr_nI (n := 1) h2 (by decide)
      refine sp_isMeas hShe.size0 (by omega) (fun h => bf one_ne ?_) (fun h => bt rfl ?_)
      · refine sp_measured (by omega) (by omega) ?_
        unfold f_X8_measure
        refine posM1 hm3 h20 h1 (bf one_ne (wM1 (a := 0) (b := 1) (by decide) (by decide) h2 (nt one_ne ?_)))
        refine sp_hasMeas hR (by omega) (fun _ => bf one_ne ?_) (fun h' => absurd h h')
        rw [ix2, nI_add]
        refine sp_item hR (by omega) ⟨?_, hR⟩
        unfold itM
        rw [if_pos (meas_at h (by omega)).1]
      · unfold f_X8_measure
        refine posM1 hm3 h20 h1 (bf one_ne (wM1 (a := 0) (b := 1) (by decide) (by decide) h2 (nt one_ne ?_)))
        exact sp_hasMeas hR (by omega) (fun h' => absurd h' h) (fun _ => bt rfl ⟨rfl, hR⟩)
    · refine wX0 (a := 0) (b := 1) (by decide) (by decide) h2 (nf rfl ?_)
      unfold f_X8_measure
      exact posM1 hm3 h20 h1 (bf one_ne (wM0 (a := 0) (b := 1) (by decide) (by decide) h2 (nf rfl ⟨rfl, hR⟩)))
  · refine posX0 hx3 h20 h1 (bt rfl ?_)
    unfold f_X8_measure
    exact posM0 hm3 h20 h1 (bt rfl ⟨rfl, hR⟩)
/-- which are USED -/
def uB (X : St) (i : Nat) : Bool := decide (X.1 4 i = 0) && meas X i
def ul (U : Nat → Bool) : Nat → List Nat
  | 0 => []
  | i + 1 => if (ul U i).length < 12 ∧ U i = true then ul U i ++ [i] else ul U i
theorem ul_len (U : Nat → Bool) : ∀ i, (ul U i).length ≤ 12 := by
  intro i
  induction i with
  | zero => exact Nat.zero_le _
  | succ i ih =>
    unfold ul
    split
    · rename_i h; rw [List.length_append]; simp; omega
    · exact ih
theorem ul_full (U : Nat → Bool) {i : Nat} (h : 12 ≤ (ul U i).length) : ∀ m, ul U (i + m) = ul U i := by
  intro m
  induction m with
  | zero => rfl
  | succ m ih =>
    show (if (ul U (i + m)).length < 12 ∧ U (i + m) = true then ul U (i + m) ++ [i + m] else ul U (i + m)) = ul U i
    rw [ih, if_neg (fun h2 => by omega)]
theorem ul_mem (U : Nat → Bool) : ∀ i x, x ∈ ul U i → x < i ∧ U x = true := by
  intro i
  induction i with
  | zero => intro x h; cases h
  | succ i ih =>
    intro x h
    unfold ul at h
    split at h
    · rename_i h2
      rcases List.mem_append.mp h with h | h
      · have := ih x h; exact ⟨by omega, this.2⟩
      · have : x = i := by simpa using h
        subst this; exact ⟨by omega, h2.2⟩
    · have := ih x h; exact ⟨by omega, this.2⟩
def rowIs (r : Nat → Int32) (l : List Nat) : Prop := ∀ u x, l[u]? = some x → r u = nI x
theorem rowIs_push {r : Nat → Int32} {l : List Nat} {x : Nat} (h : rowIs r l) : rowIs (upd r l.length (nI x)) (l ++ [x]) := by
  intro u y hu
  by_cases e : u < l.length
  · rw [List.getElem?_append_left e] at hu
    rw [pk_un (by omega)]; exact h u y hu
  · have hlt := (List.getElem?_eq_some_iff.mp hu).1
    rw [List.length_append] at hlt
    simp at hlt
    have : u = l.length := by omega
    subst this
    simp at hu
    rw [pk_us, hu]
theorem meas_eq {X X' : St} (h : eqX X X') (i : Nat) : meas X' i = meas X i := by
  have h20 : X'.1 20 = X.1 20 := h 20 (by decide) (by decide) (by decide) (by decide) (by decide)
  have h28 : X'.1 28 = X.1 28 := h 28 (by decide) (by decide) (by decide) (by decide) (by decide)
  unfold meas mAt msz
  rw [h20, h28]
theorem size0.eq {X X' : St} (h : eqX X X') (hs : size0 X) : size0 X' := by
  obtain ⟨n, hn, e⟩ := hs
  exact ⟨n, hn, by rw [h 28 (by decide) (by decide) (by decide) (by decide) (by decide)]; exact e⟩
theorem list_loop {Q : Int32 → St → Prop} {X : St} {P : Nat} (hs : size0 X) (hP : X.1 3 0 = nI P) (h20 : P ≤ 20) (hQ : ∀ σ', eqX X σ' → σ'.2 = X.2 → rowIs (σ'.1 5) (ul (uB X) P) → Q (nI (ul (uB X) P).length) σ') : ∀ (m i : Nat) (σ : St), i + m = P → eqX X σ → σ.2 = X.2 → rowIs (σ.1 5) (ul (uB X) i) → f_X7_listUsed_b4 Q (m + 1) (nI (ul (uB X) i).length) (nI i) σ := by
  intro m
  induction m with
  | zero =>
    intro i σ hi hX h2 hrow
    have : i = P := by omega
    subst this
    unfold f_X7_listUsed_b4
    refine bt ?_ (hQ σ hX h2 hrow)
    rw [hX 3 (by decide) (by decide) (by decide) (by decide) (by decide), hP]; exact Int32.le_refl _
  | succ m ih =>
    intro i σ hi hX h2 hrow
    have hlen := ul_len (uB X) i
    unfold f_X7_listUsed_b4
    refine bf ?_ ?_
    · rw [hX 3 (by decide) (by decide) (by decide) (by decide) (by decide), hP]; exact nI_ge (by omega) (by omega)
    · refine ⟨fun c => ?_, fun c => ?_⟩
      · have h12 : 12 ≤ (ul (uB X) i).length := (nI_leI (a := 12) (by decide) (by omega)).mp c
        have e := ul_full (uB X) h12 (m + 1)
        rw [hi] at e
        rw [← e]
        exact hQ σ hX h2 (by rw [e]; exact hrow)
      · have h12 : (ul (uB X) i).length < 12 := by
          rcases Nat.lt_or_ge (ul (uB X) i).length 12 with h | h
          · exact h
          · exact absurd ((nI_leI (a := 12) (by decide) (by omega)).mpr h) c
        refine ⟨vp_in_nI (by omega) (by decide), ?_⟩
        rw [nI_clamp (by omega), nI_1, nI_1, nI_clamp (by omega)]
        have h4 : σ.1 4 = X.1 4 := hX 4 (by decide) (by decide) (by decide) (by decide) (by decide)
        have step : ∀ σ', eqX X σ' → σ'.2 = X.2 → rowIs (σ'.1 5) (ul (uB X) (i + 1)) → f_X7_listUsed_b4 Q (m + 1) (nI (ul (uB X) (i + 1)).length) (nI (i + 1)) σ' := fun σ' a b c => ih (i + 1) σ' (by omega) a b c
        refine ⟨fun c4 => nmx ?_, fun c4 => ?_⟩
        · have hu : uB X i = false := by unfold uB; rw [← h4]; simp [c4]
          have e : ul (uB X) (i + 1) = ul (uB X) i := by
            show (if _ then _ else _) = _
            rw [if_neg (fun h => by rw [hu] at h; exact absurd h.2 (by decide))]
          have := step σ hX h2 (by rw [e]; exact hrow)
          rw [e] at this; exact this
        · refine sp_isMeas (hs.eq hX) (by omega) (fun h => bf one_ne ?_) (fun h => bt rfl (nmx ?_))
          · have hu : uB X i = true := by
              unfold uB; rw [← h4, ← meas_eq hX]; simp [c4, h]
            have e : ul (uB X) (i + 1) = ul (uB X) i ++ [i] := by
              show (if _ then _ else _) = _
              rw [if_pos ⟨h12, hu⟩]
            refine ⟨vp_in_nI h12 (by decide), nmx (nmx (nmx ?_))⟩
            have := step (sI σ 5 (ul (uB X) i).length (nI i)) (hX.tr (eqX.i (by decide))) h2 (by rw [e, sI_on]; exact rowIs_push hrow)
            rw [e, List.length_append] at this
            exact this
          · have hu : uB X i = false := by
              unfold uB; rw [← meas_eq hX]; simp [h]
            have e : ul (uB X) (i + 1) = ul (uB X) i := by
              show (if _ then _ else _) = _
              rw [if_neg (fun h => by rw [hu] at h; exact absurd h.2 (by decide))]
            have := step σ hX h2 (by rw [e]; exact hrow)
            rw [e] at this; exact this
theorem sp_listUsed {Q : Int32 → St → Prop} {X : St} {P : Nat} (hs : size0 X) (hP : X.1 3 0 = nI P) (h20 : P ≤ 20) (hQ : ∀ σ', eqX X σ' → σ'.2 = X.2 → rowIs (σ'.1 5) (ul (uB X) P) → Q (nI (ul (uB X) P).length) σ') : f_X7_listUsed X Q := by
  unfold f_X7_listUsed
  exact ⟨P + 1, list_loop hs hP h20 hQ P 0 X (by omega) eqX.rf rfl (fun u x h => by cases h)⟩
theorem find_loop {Q : St → Prop} {X M : St} {P : Nat} (hR : RelX X M) (hP : rPos P X M) (hQ : ∀ τ', eqM M τ' → τ'.2 = M.2 → τ'.1 17 0 = nI (ul (uB X) P).length → rowIs (τ'.1 5) (ul (uB X) P) → Q τ') : ∀ (m i : Nat) (τ : St), i + m = P → eqM M τ → τ.2 = M.2 → τ.1 17 0 = nI (ul (uB X) i).length → rowIs (τ.1 5) (ul (uB X) i) → f_X8_findUsed_b7 Q (m + 1) (nI i) τ := by
  obtain ⟨h20, hx3, hm3, hhd, hprod, hout, hout0⟩ := id hP
  intro m
  induction m with
  | zero =>
    intro i τ hi hM h2 h17 hrow
    have : i = P := by omega
    subst this
    unfold f_X8_findUsed_b7
    refine bt ?_ (hQ τ hM h2 h17 hrow)
    rw [hM 3 (by decide) (by decide) (by decide) (by decide), hm3]; exact Int32.le_refl _
  | succ m ih =>
    intro i τ hi hM h2 h17 hrow
    have hlen := ul_len (uB X) i
    have hRτ : RelX X τ := hR.keep eqX.rf hM
    unfold f_X8_findUsed_b7
    refine bf ?_ ?_
    · rw [hM 3 (by decide) (by decide) (by decide) (by decide), hm3]; exact nI_ge (by omega) (by omega)
    · rw [h17]
      refine ⟨fun c => ?_, fun c => ?_⟩
      · have h12 : 12 ≤ (ul (uB X) i).length := (nI_leI (a := 12) (by decide) (by omega)).mp c
        have e := ul_full (uB X) h12 (m + 1)
        rw [hi] at e
        exact hQ τ hM h2 (by rw [e]; exact h17) (by rw [e]; exact hrow)
      · have h12 : (ul (uB X) i).length < 12 := by
          rcases Nat.lt_or_ge (ul (uB X) i).length 12 with h | h
          · exact h
          · exact absurd ((nI_leI (a := 12) (by decide) (by omega)).mpr h) c
        have h4 : τ.1 4 i = X.1 4 i := by rw [hM 4 (by decide) (by decide) (by decide) (by decide)]; exact (hout i (by omega)).1.symm
        have step : ∀ τ', eqM M τ' → τ'.2 = M.2 → τ'.1 17 0 = nI (ul (uB X) (i + 1)).length → rowIs (τ'.1 5) (ul (uB X) (i + 1)) → f_X8_findUsed_b7 Q (m + 1) (nI (i + 1)) τ' := fun τ' a b c d => ih (i + 1) τ' (by omega) a b c d
        have no : uB X i = false → f_X8_findUsed_b7 Q (m + 1) (nI (i + 1)) τ := fun hu => by
          have e : ul (uB X) (i + 1) = ul (uB X) i := by
            show (if _ then _ else _) = _
            rw [if_neg (fun h => by rw [hu] at h; exact absurd h.2 (by decide))]
          exact step τ hM h2 (by rw [e]; exact h17) (by rw [e]; exact hrow)
        refine sp_hasMeas hRτ (by omega) (fun h => bf one_ne ⟨vp_in_nI (by omega) (by decide), ?_⟩) (fun h => bt rfl (nmx ?_))
        · rw [nI_clamp (by omega), h4, nI_1]
          refine ⟨fun c4 => nmx (no (by unfold uB; simp [c4])), fun c4 => ?_⟩
          have hu : uB X i = true := by unfold uB; simp [c4, h]
          have e : ul (uB X) (i + 1) = ul (uB X) i ++ [i] := by
            show (if _ then _ else _) = _
            rw [if_pos ⟨h12, hu⟩]
          rw [h17, nI_clamp (by omega)]
          refine ⟨vp_in_nI h12 (by decide), nmx (nmx (nmx ?_))⟩
          refine step _ (hM.tr ((eqM.i (by decide)).tr (eqM.i (by decide)))) h2 ?_ ?_
          · rw [sI_on, pk_us, sI_at (by decide), h17, e, List.length_append, nI_1]; rfl
          · rw [sI_at (by decide), sI_on, e]; exact rowIs_push hrow
        · rw [nI_1]
          exact no (by unfold uB; simp [h])
theorem sp_findUsed {Q : St → Prop} {X M : St} {P : Nat} (hR : RelX X M) (hP : rPos P X M) (hQ : ∀ τ', eqM M τ' → τ'.2 = M.2 → τ'.1 17 0 = nI (ul (uB X) P).length → rowIs (τ'.1 5) (ul (uB X) P) → Q τ') : f_X8_findUsed M Q := by
  unfold f_X8_findUsed
  refine nmx ⟨P + 1, find_loop hR hP hQ P 0 _ (by omega) (eqM.i (by decide)) rfl ?_ (fun u x h => by cases h)⟩
  rw [sI_on, pk_us]; rfl
theorem ob_used : Ob_used RelX := by
  intro σ τ hR
  obtain ⟨hLen, ⟨P, hP⟩, hCam, hLim, hShe, hLat, hCs⟩ := id hR
  unfold f_X7_used
  refine sp_listUsed hShe.size0 hP.2.1 hP.1 (fun σ' hx _ _ => ?_)
  unfold f_X8_used
  exact sp_findUsed hR hP (fun τ' hm _ h17 _ => ⟨h17.symm, hR.keep hx hm⟩)
