/-! ===== pair, shut, limit, count ===== -/
theorem mayB1 {v : Int32} {σ : St} {Q : Int32 → St → Prop} (h : inr v (-1000) 1000) (q : Q 1 σ) : f_X1_mayBe v σ Q := by
  unfold f_X1_mayBe
  have h1 := h.1
  have h2 := h.2
  have e1 : (-1000 : Int32).toInt = -1000 := by decide
  have e2 : (1000 : Int32).toInt = 1000 := by decide
  exact bf (by rw [i32_lt, e1]; omega) (bf (by rw [i32_lt, e2]; omega) q)
theorem mayB0 {v : Int32} {σ : St} {Q : Int32 → St → Prop} (h : ¬ inr v (-1000) 1000) (q : Q 0 σ) : f_X1_mayBe v σ Q := by
  unfold f_X1_mayBe
  have e1 : (-1000 : Int32).toInt = -1000 := by decide
  have e2 : (1000 : Int32).toInt = 1000 := by decide
  refine ⟨fun _ => q, fun c1 => ⟨fun _ => q, fun c2 => absurd ⟨?_, ?_⟩ h⟩⟩
  · rw [i32_lt, e1] at c1; omega
  · rw [i32_lt, e2] at c2; omega
theorem part1 {v : Int32} {σ : St} {Q : Int32 → St → Prop} (h : inr v (-1000) 1000) (q : Q 1 σ) : f_X8_isPart v σ Q := by
  unfold f_X8_isPart; exact wM1 (a := -1000) (b := 1000) (by decide) (by decide) h ⟨Or.inr rfl, q⟩
theorem part0 {v : Int32} {σ : St} {Q : Int32 → St → Prop} (h : ¬ inr v (-1000) 1000) (q : Q 0 σ) : f_X8_isPart v σ Q := by
  unfold f_X8_isPart; exact wM0 (a := -1000) (b := 1000) (by decide) (by decide) h ⟨Or.inl rfl, q⟩
theorem ob_pair : Ob_pair RelX := by
  intro σ τ a1 a2 a3 a4 hR
  unfold f_X7_pair
  by_cases h1 : inr a1 (-1000) 1000
  · refine mayB1 h1 (bf one_ne ?_)
    by_cases h2 : inr a2 (-1000) 1000
    · refine mayB1 h2 (bf one_ne ?_)
      by_cases h3 : inr a3 (-1000) 1000
      · refine mayB1 h3 (bf one_ne ?_)
        by_cases h4 : inr a4 (-1000) 1000
        · refine mayB1 h4 (nt one_ne ?_)
          obtain ⟨hLen, ⟨P, hP⟩, ⟨n, hn, hx, hm, hc⟩, hLim, hShe, hLat, hCs⟩ := id hR
          by_cases hf : n = 20
          · refine bf (by rw [hx, hf]; decide) ?_
            unfold f_X8_pair
            refine part1 h1 (bf one_ne (part1 h2 (bf one_ne (part1 h3 (bf one_ne (part1 h4 (nt one_ne ?_)))))))
            exact nf (by rw [hm, hf]; rfl) ⟨rfl, hR⟩
          · have hlt : n < 20 := by omega
            have hin : vp_in (nI n) 20 := vp_in_nI hlt (by decide)
            refine bt (by rw [hx]; exact nI_lt (a := n) (b := 20) hlt (by decide)) ?_
            unfold f_X1_see
            rw [hx, nI_clamp (by omega)]
            refine ⟨hin, nmx ?_⟩
            rw [sI_at (by decide), hx, nI_clamp (by omega)]
            refine ⟨hin, nmx ?_⟩
            rw [sI_at (by decide), sI_at (by decide), hx, nI_clamp (by omega)]
            refine ⟨hin, nmx ?_⟩
            rw [sI_at (by decide), sI_at (by decide), sI_at (by decide), hx, nI_clamp (by omega)]
            refine ⟨hin, nmx (nmx ?_)⟩
            rw [sI_on, pk_us, sI_at (by decide), sI_at (by decide), sI_at (by decide), sI_at (by decide), hx, nI_1]
            unfold f_X8_pair
            refine part1 h1 (bf one_ne (part1 h2 (bf one_ne (part1 h3 (bf one_ne (part1 h4 (nt one_ne ?_)))))))
            refine nt (by rw [hm]; exact fun h => hf ((nI_eq (by omega) (by decide)).mp h)) ?_
            rw [hm, nI_clamp (by omega)]
            refine ⟨hin, nmx ?_⟩
            rw [sI_at (by decide), hm, nI_clamp (by omega)]
            refine ⟨hin, nmx ?_⟩
            rw [sI_at (by decide), sI_at (by decide), hm, nI_clamp (by omega)]
            refine ⟨hin, nmx ?_⟩
            rw [sI_at (by decide), sI_at (by decide), sI_at (by decide), hm, nI_clamp (by omega)]
            refine ⟨hin, nmx (nmx ?_)⟩
            rw [sI_on, pk_us, sI_at (by decide), sI_at (by decide), sI_at (by decide), sI_at (by decide), hm, nI_1]
            have xx : ∀ (Y : St) (k : Nat), k ≠ 6 → k ≠ 7 → k ≠ 8 → k ≠ 9 → k ≠ 10 → (sI (sI (sI (sI (sI Y 6 n a1) 7 n a2) 8 n a3) 9 n a4) 10 0 (nI (n + 1))).1 k = Y.1 k := fun Y k b6 b7 b8 b9 b10 => by rw [sI_at b10, sI_at b9, sI_at b8, sI_at b7, sI_at b6]
            have y6 : ∀ (Y : St), (sI (sI (sI (sI (sI Y 6 n a1) 7 n a2) 8 n a3) 9 n a4) 10 0 (nI (n + 1))).1 6 = upd (Y.1 6) n a1 := fun Y => by rw [sI_at (by decide), sI_at (by decide), sI_at (by decide), sI_at (by decide), sI_on]
            have y7 : ∀ (Y : St), (sI (sI (sI (sI (sI Y 6 n a1) 7 n a2) 8 n a3) 9 n a4) 10 0 (nI (n + 1))).1 7 = upd (Y.1 7) n a2 := fun Y => by rw [sI_at (by decide), sI_at (by decide), sI_at (by decide), sI_on, sI_at (by decide)]
            have y8 : ∀ (Y : St), (sI (sI (sI (sI (sI Y 6 n a1) 7 n a2) 8 n a3) 9 n a4) 10 0 (nI (n + 1))).1 8 = upd (Y.1 8) n a3 := fun Y => by rw [sI_at (by decide), sI_at (by decide), sI_on, sI_at (by decide), sI_at (by decide)]
            have y9 : ∀ (Y : St), (sI (sI (sI (sI (sI Y 6 n a1) 7 n a2) 8 n a3) 9 n a4) 10 0 (nI (n + 1))).1 9 = upd (Y.1 9) n a4 := fun Y => by rw [sI_at (by decide), sI_on, sI_at (by decide), sI_at (by decide), sI_at (by decide)]
            refine ⟨rfl, ?_, ⟨P, ?_⟩, ⟨n + 1, by omega, ?_, ?_, ?_⟩, ?_, ?_, ?_, ?_⟩
            · exact hLen.cg (xx σ 0 (by decide) (by decide) (by decide) (by decide) (by decide)) (xx τ 0 (by decide) (by decide) (by decide) (by decide) (by decide))
            · exact hP.cg (xx σ 1 (by decide) (by decide) (by decide) (by decide) (by decide)) (xx σ 2 (by decide) (by decide) (by decide) (by decide) (by decide)) (xx σ 3 (by decide) (by decide) (by decide) (by decide) (by decide)) (xx σ 4 (by decide) (by decide) (by decide) (by decide) (by decide)) (xx τ 1 (by decide) (by decide) (by decide) (by decide) (by decide)) (xx τ 3 (by decide) (by decide) (by decide) (by decide) (by decide)) (xx τ 4 (by decide) (by decide) (by decide) (by decide) (by decide))
            · rw [sI_on]; exact pk_us
            · rw [sI_on]; exact pk_us
            · intro j hj
              rw [y6, y7, y8, y9, y6, y7, y8, y9]
              by_cases e : j = n
              · subst e; rw [pk_us, pk_us, pk_us, pk_us, pk_us, pk_us, pk_us, pk_us]; exact ⟨rfl, rfl, rfl, rfl⟩
              · rw [pk_un e, pk_un e, pk_un e, pk_un e, pk_un e, pk_un e, pk_un e, pk_un e]; exact hc j (by omega)
            · exact hLim.cg (xx σ 11 (by decide) (by decide) (by decide) (by decide) (by decide)) (xx τ 19 (by decide) (by decide) (by decide) (by decide) (by decide)) (xx τ 20 (by decide) (by decide) (by decide) (by decide) (by decide))
            · exact hShe.cg (fun k hk => xx σ k (by omega) (by omega) (by omega) (by omega) (by omega)) (xx τ 22 (by decide) (by decide) (by decide) (by decide) (by decide)) (xx τ 23 (by decide) (by decide) (by decide) (by decide) (by decide)) (xx τ 24 (by decide) (by decide) (by decide) (by decide) (by decide))
            · rw [xx σ 16 (by decide) (by decide) (by decide) (by decide) (by decide), xx τ 16 (by decide) (by decide) (by decide) (by decide) (by decide)]; exact hLat
            · exact hCs.cg (xx τ 18 (by decide) (by decide) (by decide) (by decide) (by decide))
        · refine mayB0 h4 (nf rfl ?_)
          unfold f_X8_pair
          exact part1 h1 (bf one_ne (part1 h2 (bf one_ne (part1 h3 (bf one_ne (part0 h4 (nf rfl ⟨rfl, hR⟩)))))))
      · refine mayB0 h3 (bt rfl ?_)
        unfold f_X8_pair
        exact part1 h1 (bf one_ne (part1 h2 (bf one_ne (part0 h3 (bt rfl ⟨rfl, hR⟩)))))
    · refine mayB0 h2 (bt rfl ?_)
      unfold f_X8_pair
      exact part1 h1 (bf one_ne (part0 h2 (bt rfl ⟨rfl, hR⟩)))
  · refine mayB0 h1 (bt rfl ?_)
    unfold f_X8_pair
    exact part0 h1 (bt rfl ⟨rfl, hR⟩)
theorem ob_shut : Ob_shut RelX := by
  intro σ τ hR
  unfold f_X7_shut f_X8_shut
  refine nmx (nmx (nmx (nmx ?_)))
  obtain ⟨hLen, ⟨P, hP⟩, ⟨n, hn, hx, hm, hc⟩, hLim, hShe, hLat, hCs⟩ := hR
  refine ⟨by rw [hx, hm], ?_, ⟨P, ?_⟩, ⟨0, by omega, ?_, ?_, fun j hj => by omega⟩, ?_, ?_, ?_, ?_⟩
  · exact hLen.cg (sI_at (by decide)) (sI_at (by decide))
  · exact hP.cg (sI_at (by decide)) (sI_at (by decide)) (sI_at (by decide)) (sI_at (by decide)) (sI_at (by decide)) (sI_at (by decide)) (sI_at (by decide))
  · rw [sI_on]; exact pk_us
  · rw [sI_on]; exact pk_us
  · exact hLim.cg (sI_at (by decide)) (sI_at (by decide)) (sI_at (by decide))
  · exact hShe.cg (fun k hk => sI_at (by omega)) (sI_at (by decide)) (sI_at (by decide)) (sI_at (by decide))
  · rw [sI_at (by decide), sI_at (by decide)]; exact hLat
  · exact hCs.cg (sI_at (by decide))
def mayV (lo sp t : Nat) : Int32 := if (t + 36 - lo) % 36 ≤ sp then 1 else 0
theorem keep_loop {Q : St → Prop} {k lo sp : Nat} (hk : k < 3) (hlo : lo < 36) (hsp : sp < 36) : ∀ (m t : Nat) (σ : St), t + m = 36 → (∀ σ' : St, (∀ x, x ≠ 11 → σ'.1 x = σ.1 x) → (∀ x, (x < 36 * k + t ∨ 36 * k + 36 ≤ x) → σ'.1 11 x = σ.1 11 x) → (∀ u, t ≤ u → u < 36 → σ'.1 11 (36 * k + u) = mayV lo sp u) → Q σ') → f_X2_keepWithin_b3 Q (m + 1) (nI k) (nI lo) (nI sp) (nI t) σ := by
  intro m
  induction m with
  | zero =>
    intro t σ ht hQ
    unfold f_X2_keepWithin_b3
    exact bt (by rw [show t = 36 by omega]; decide) (hQ σ (fun _ _ => rfl) (fun _ _ => rfl) (fun u h1 h2 => by omega))
  | succ m ih =>
    intro t σ ht hQ
    unfold f_X2_keepWithin_b3
    refine bf (nI_ge (a := t) (b := 36) (by omega) (by decide)) ?_
    rw [show nI t + 36 = nI (t + 36) from nI_add t 36, pk_sub (by omega)]
    refine sp_round (by omega) ?_
    rw [show (36 : Int32) * nI k + nI t = nI (36 * k + t) by rw [show (36 : Int32) = nI 36 from rfl, pk_mul, nI_add], nI_clamp (by omega), nI_1]
    have go : ∀ v : Int32, v = mayV lo sp t → f_X2_keepWithin_b3 Q (m + 1) (nI k) (nI lo) (nI sp) (nI (t + 1)) (sI σ 11 (36 * k + t) v) := by
      intro v hv
      refine ih (t + 1) _ (by omega) (fun σ' h1 h2 h3 => ?_)
      refine hQ σ' (fun x hx => (h1 x hx).trans (sI_at hx)) (fun x hx => ?_) (fun u h4 h5 => ?_)
      · rw [h2 x (by omega), sI_on, pk_un (by omega)]
      · by_cases e : u = t
        · subst e
          rw [h2 _ (by omega), sI_on, pk_us, hv]
        · exact h3 u (by omega) h5
    refine ⟨fun c => ⟨vp_in_nI (by omega) (by decide), nmx (nmx (go _ ?_))⟩, fun c => ⟨vp_in_nI (by omega) (by decide), nmx (nmx (go _ ?_))⟩⟩
    · have hc := (nI_ltI (by omega) (by omega)).mp c
      unfold mayV
      rw [if_neg (by omega)]; decide
    · have hc : ¬ sp < (t + 36 - lo) % 36 := fun h => c ((nI_ltI (by omega) (by omega)).mpr h)
      unfold mayV
      rw [if_pos (by omega)]; decide
theorem ob_limit : Ob_limit RelX := by
  intro σ τ a1 a2 a3 hR
  unfold f_X7_limit
  by_cases h1 : inr a1 0 2
  · refine wX1 (a := 0) (b := 2) (by decide) (by decide) h1 (bf one_ne ?_)
    by_cases h2 : inr a2 0 35
    · refine wX1 (a := 0) (b := 35) (by decide) (by decide) h2 (bf one_ne ?_)
      by_cases h3 : inr a3 0 35
      · refine wX1 (a := 0) (b := 35) (by decide) (by decide) h3 (nt one_ne ?_)
        obtain ⟨hLen, ⟨P, hP⟩, hCam, hLim, hShe, hLat, hCs⟩ := id hR
        obtain ⟨k, hk, rfl⟩ := inr_nI (n := 2) h1 (by decide)
        obtain ⟨lo, hlo, rfl⟩ := inr_nI (n := 35) h2 (by decide)
        obtain ⟨sp, hsp, rfl⟩ := inr_nI (n := 35) h3 (by decide)
        unfold f_X2_keepWithin
        refine ⟨37, ?_⟩
        rw [n0]
        refine keep_loop (by omega) (by omega) (by omega) 36 0 σ rfl (fun σ' g1 g2 g3 => ?_)
        unfold f_X8_limit
        refine wM1 (a := 0) (b := 2) (by decide) (by decide) h1 (bf one_ne ?_)
        refine wM1 (a := 0) (b := 35) (by decide) (by decide) h2 (bf one_ne ?_)
        refine wM1 (a := 0) (b := 35) (by decide) (by decide) h3 (nt one_ne ?_)
        have hin : vp_in (nI k) 3 := vp_in_nI (by omega) (by decide)
        refine ⟨hin, nmx ⟨hin, nmx ?_⟩⟩
        rw [nI_clamp (by omega)]
        have mm : ∀ x, x ≠ 19 → x ≠ 20 → (sI (sI τ 19 k (nI lo)) 20 k (nI sp)).1 x = τ.1 x := fun x b c => by rw [sI_at c, sI_at b]
        refine ⟨rfl, ?_, ⟨P, ?_⟩, ?_, ?_, ?_, ?_, ?_⟩
        · exact hLen.cg (g1 0 (by decide)) (mm 0 (by decide) (by decide))
        · exact hP.cg (g1 1 (by decide)) (g1 2 (by decide)) (g1 3 (by decide)) (g1 4 (by decide)) (mm 1 (by decide) (by decide)) (mm 3 (by decide) (by decide)) (mm 4 (by decide) (by decide))
        · exact hCam.cg (g1 6 (by decide)) (g1 7 (by decide)) (g1 8 (by decide)) (g1 9 (by decide)) (g1 10 (by decide)) (mm 6 (by decide) (by decide)) (mm 7 (by decide) (by decide)) (mm 8 (by decide) (by decide)) (mm 9 (by decide) (by decide)) (mm 10 (by decide) (by decide))
        · intro i hi
          rw [sI_at (show (19 : Nat) ≠ 20 by decide), sI_on, sI_on, sI_at (show (20 : Nat) ≠ 19 by decide)]
          by_cases e : i = k
          · subst e
            rw [pk_us, pk_us]
            exact ⟨lo, sp, by omega, by omega, rfl, rfl, fun t ht => g3 t (Nat.zero_le t) ht⟩
          · rw [pk_un e, pk_un e]
            obtain ⟨lo', sp', b1, b2, b3, b4, b5⟩ := hLim i hi
            refine ⟨lo', sp', b1, b2, b3, b4, fun t ht => ?_⟩
            rw [g2 _ (by omega)]
            exact b5 t ht
        · exact hShe.cg (fun x hx => g1 x (by omega)) (mm 22 (by decide) (by decide)) (mm 23 (by decide) (by decide)) (mm 24 (by decide) (by decide))
        · rw [g1 16 (by decide), mm 16 (by decide) (by decide)]; exact hLat
        · exact hCs.cg (mm 18 (by decide) (by decide))
      · refine wX0 (a := 0) (b := 35) (by decide) (by decide) h3 (nf rfl ?_)
        unfold f_X8_limit
        refine wM1 (a := 0) (b := 2) (by decide) (by decide) h1 (bf one_ne ?_)
        refine wM1 (a := 0) (b := 35) (by decide) (by decide) h2 (bf one_ne ?_)
        exact wM0 (a := 0) (b := 35) (by decide) (by decide) h3 (nf rfl ⟨rfl, hR⟩)
    · refine wX0 (a := 0) (b := 35) (by decide) (by decide) h2 (bt rfl ?_)
      unfold f_X8_limit
      refine wM1 (a := 0) (b := 2) (by decide) (by decide) h1 (bf one_ne ?_)
      exact wM0 (a := 0) (b := 35) (by decide) (by decide) h2 (bt rfl ⟨rfl, hR⟩)
  · refine wX0 (a := 0) (b := 2) (by decide) (by decide) h1 (bt rfl ?_)
    unfold f_X8_limit
    exact wM0 (a := 0) (b := 2) (by decide) (by decide) h1 (bt rfl ⟨rfl, hR⟩)
/-- count -/
def cO (f : Nat → Int32) : Nat → Nat
  | 0 => 0
  | n + 1 => cO f n + (if f n = 0 then 0 else 1)
theorem cO_le (f : Nat → Int32) : ∀ n, cO f n ≤ n := by
  intro n
  induction n with
  | zero => exact Nat.le_refl 0
  | succ n ih => unfold cO; split <;> omega
theorem cO_eq {f g : Nat → Int32} : ∀ n, (∀ i, i < n → f i = g i) → cO f n = cO g n := by
  intro n
  induction n with
  | zero => intro _; rfl
  | succ n ih => intro h; unfold cO; rw [ih (fun i hi => h i (by omega)), h n (by omega)]
theorem outX_loop {Q : Int32 → St → Prop} {σ : St} {P : Nat} (hP : σ.1 3 0 = nI P) (h20 : P ≤ 20) (q : Q (nI (cO (σ.1 4) P)) σ) : ∀ (m i : Nat), i + m = P → f_X7_countLeftOut_b4 Q (m + 1) (nI (cO (σ.1 4) i)) (nI i) σ := by
  intro m
  induction m with
  | zero =>
    intro i hi
    have : i = P := by omega
    subst this
    unfold f_X7_countLeftOut_b4
    exact bt (by rw [hP]; exact Int32.le_refl _) q
  | succ m ih =>
    intro i hi
    unfold f_X7_countLeftOut_b4
    refine bf (by rw [hP]; exact nI_ge (a := i) (b := P) (by omega) (by omega)) ⟨vp_in_nI (by omega) (by decide), ?_⟩
    rw [nI_clamp (by omega), nI_1, nI_1]
    have := ih (i + 1) (by omega)
    refine ⟨fun c => nmx ?_, fun c => nmx (nmx ?_)⟩
    · unfold cO at this; rw [if_pos c] at this; exact this
    · unfold cO at this; rw [if_neg c] at this; exact this
theorem outM_loop {Q : Int32 → St → Prop} {σ : St} {P : Nat} (hP : σ.1 3 0 = nI P) (h20 : P ≤ 20) (q : Q (nI (cO (σ.1 4) P)) σ) : ∀ (m i : Nat), i + m = P → f_X8_count_b47 Q (m + 1) (nI (cO (σ.1 4) i)) (nI i) σ := by
  intro m
  induction m with
  | zero =>
    intro i hi
    have : i = P := by omega
    subst this
    unfold f_X8_count_b47
    exact bt (by rw [hP]; exact Int32.le_refl _) q
  | succ m ih =>
    intro i hi
    unfold f_X8_count_b47
    refine bf (by rw [hP]; exact nI_ge (a := i) (b := P) (by omega) (by omega)) ⟨vp_in_nI (by omega) (by decide), ?_⟩
    rw [nI_clamp (by omega), nI_1, nI_1, Int32.add_zero]
    have := ih (i + 1) (by omega)
    refine ⟨fun c => nmx (nmx ?_), fun c => nmx (nmx ?_)⟩
    · unfold cO at this; rw [if_pos c] at this; exact this
    · unfold cO at this; rw [if_neg c] at this; exact this
def cL (σ : St) : Nat → Nat
  | 0 => 0
  | n + 1 => cL σ n + (if σ.1 (24 + n) 0 = -1 then 1 else 0)
theorem cL_le (σ : St) : ∀ n, cL σ n ≤ n := by
  intro n
  induction n with
  | zero => exact Nat.le_refl 0
  | succ n ih => unfold cL; split <;> omega
theorem lostX_loop {Q : Int32 → St → Prop} {σ : St} (q : Q (nI (cL σ 4)) σ) : ∀ (m i : Nat), i + m = 4 → f_X7_countLost_b4 Q (m + 1) (nI (cL σ i)) (nI i) σ := by
  intro m
  induction m with
  | zero =>
    intro i hi
    have : i = 4 := by omega
    subst this
    unfold f_X7_countLost_b4
    exact bt (by decide) q
  | succ m ih =>
    intro i hi
    unfold f_X7_countLost_b4
    refine bf (nI_ge (a := i) (b := 4) (by omega) (by decide)) ⟨vp_in_nI (by omega) (by decide), nmx ?_⟩
    rw [nI_clamp (by omega), nI_1, nI_1]
    have := ih (i + 1) (by omega)
    unfold f_X4_isLost
    refine ⟨fun c => bt rfl (nmx ?_), fun c => bf one_ne (nmx (nmx ?_))⟩
    · unfold cL at this; rw [if_neg c] at this; exact this
    · unfold cL at this; rw [if_pos c] at this; exact this
theorem she_lost {X M : St} (h : rShe X M) {k : Nat} (hk : k < 4) : (X.1 (24 + k) 0 = -1 ∧ ¬ 0 ≤ M.1 22 k) ∨ (¬ X.1 (24 + k) 0 = -1 ∧ 0 ≤ M.1 22 k) := by
  rcases h k hk with ⟨h1, h2, -⟩ | ⟨f, n, hf, -, h1, h2, -⟩
  · exact Or.inl ⟨h1, by rw [h2]; decide⟩
  · refine Or.inr ⟨?_, by rw [h2]; exact nI_pos' (by omega)⟩
    rw [h1]
    rcases (show f = 0 ∨ f = 1 ∨ f = 2 by omega) with rfl | rfl | rfl <;> decide
theorem lostM_loop {Q : Int32 → St → Prop} {X M : St} (h : rShe X M) (q : Q (nI (cL X 4)) M) : ∀ (m i : Nat), i + m = 4 → f_X8_count_b87 Q (m + 1) 4 (nI (cL X i)) (nI i) M := by
  intro m
  induction m with
  | zero =>
    intro i hi
    have : i = 4 := by omega
    subst this
    unfold f_X8_count_b87
    exact bt (by decide) q
  | succ m ih =>
    intro i hi
    unfold f_X8_count_b87
    refine bf (nI_ge (a := i) (b := 4) (by omega) (by decide)) ⟨vp_in_nI (by omega) (by decide), ?_⟩
    rw [nI_clamp (by omega)]
    have := ih (i + 1) (by omega)
    unfold cL at this
    unfold f_X8_count_b107
    rw [nI_1, nI_1, Int32.add_zero]
    rcases she_lost h (show i < 4 by omega) with ⟨c1, c2⟩ | ⟨c1, c2⟩
    · rw [if_pos c1] at this
      exact bf c2 (nf rfl (nf rfl (nmx (nmx this))))
    · rw [if_neg c1] at this
      exact bt c2 (nf rfl (nt (by decide) (nmx (nmx this))))
theorem hereM_loop {Q : Int32 → St → Prop} {X M : St} (h : rShe X M) (q : Q (nI (4 - cL X 4)) M) : ∀ (m i : Nat), i + m = 4 → f_X8_count_b87 Q (m + 1) 3 (nI (i - cL X i)) (nI i) M := by
  intro m
  induction m with
  | zero =>
    intro i hi
    have : i = 4 := by omega
    subst this
    unfold f_X8_count_b87
    exact bt (by decide) q
  | succ m ih =>
    intro i hi
    unfold f_X8_count_b87
    refine bf (nI_ge (a := i) (b := 4) (by omega) (by decide)) ⟨vp_in_nI (by omega) (by decide), ?_⟩
    rw [nI_clamp (by omega)]
    have := ih (i + 1) (by omega)
    unfold cL at this
    unfold f_X8_count_b107
    rw [nI_1, nI_1, Int32.add_zero]
    have hle := cL_le X i
    rcases she_lost h (show i < 4 by omega) with ⟨c1, c2⟩ | ⟨c1, c2⟩
    · rw [if_pos c1, show i + 1 - (cL X i + 1) = i - cL X i by omega] at this
      exact bf c2 (nt (by decide) (nt (by decide) (nmx (nmx this))))
    · rw [if_neg c1, show i + 1 - (cL X i + 0) = i - cL X i + 1 by omega] at this
      exact bt c2 (nt (by decide) (nf rfl (nmx (nmx this))))
def cnt (X : St) (w : Nat) : Int32 := if w = 0 then X.1 3 0 else if w = 1 then nI (cO (X.1 4) (X.1 3 0).toNatClampNeg) else if w = 2 then X.1 10 0 else if w = 3 then nI (4 - cL X 4) else if w = 4 then nI (cL X 4) else X.1 16 0
theorem sp_countX {Q : Int32 → St → Prop} {X M : St} (hR : RelX X M) {w : Nat} (hw : w ≤ 5) (q : Q (cnt X w) X) : f_X7_count (nI w) X Q := by
  obtain ⟨hLen, ⟨P, h20, hx3, hm3, hhd, hprod, hout, hout0⟩, hCam, hLim, hShe, hLat, hCs⟩ := id hR
  have hle := cL_le X 4
  unfold f_X7_count
  rcases (show w = 0 ∨ w = 1 ∨ w = 2 ∨ w = 3 ∨ w = 4 ∨ w = 5 by omega) with rfl | rfl | rfl | rfl | rfl | rfl
  · exact ⟨fun _ => q, fun h => absurd h (by decide), fun h => absurd h (by decide), fun h => absurd h (by decide), fun h => absurd h (by decide), fun h => absurd h (by decide), fun h => absurd (Or.inl rfl) h⟩
  · refine ⟨fun h => absurd h (by decide), fun _ => ?_, fun h => absurd h (by decide), fun h => absurd h (by decide), fun h => absurd h (by decide), fun h => absurd h (by decide), fun h => absurd (Or.inr (Or.inl rfl)) h⟩
    unfold f_X7_countLeftOut
    refine ⟨P + 1, outX_loop hx3 h20 ?_ P 0 (by omega)⟩
    have q : Q (nI (cO (X.1 4) (X.1 3 0).toNatClampNeg)) X := q
    rw [hx3, nI_clamp (by omega)] at q; exact q
  · exact ⟨fun h => absurd h (by decide), fun h => absurd h (by decide), fun _ => q, fun h => absurd h (by decide), fun h => absurd h (by decide), fun h => absurd h (by decide), fun h => absurd (Or.inr (Or.inr (Or.inl rfl))) h⟩
  · refine ⟨fun h => absurd h (by decide), fun h => absurd h (by decide), fun h => absurd h (by decide), fun _ => ?_, fun h => absurd h (by decide), fun h => absurd h (by decide), fun h => absurd (Or.inr (Or.inr (Or.inr (Or.inl rfl)))) h⟩
    unfold f_X7_countLost
    refine ⟨5, lostX_loop ?_ 4 0 rfl⟩
    rw [show (4 : Int32) - nI (cL X 4) = nI (4 - cL X 4) from pk_sub (a := 4) hle]; exact q
  · refine ⟨fun h => absurd h (by decide), fun h => absurd h (by decide), fun h => absurd h (by decide), fun h => absurd h (by decide), fun _ => ?_, fun h => absurd h (by decide), fun h => absurd (Or.inr (Or.inr (Or.inr (Or.inr (Or.inl rfl))))) h⟩
    unfold f_X7_countLost
    exact ⟨5, lostX_loop q 4 0 rfl⟩
  · exact ⟨fun h => absurd h (by decide), fun h => absurd h (by decide), fun h => absurd h (by decide), fun h => absurd h (by decide), fun h => absurd h (by decide), fun _ => q, fun h => absurd (Or.inr (Or.inr (Or.inr (Or.inr (Or.inr rfl))))) h⟩
theorem sp_countM {Q : Int32 → St → Prop} {X M : St} (hR : RelX X M) {w : Nat} (hw : w ≤ 5) (q : Q (cnt X w) M) : f_X8_count (nI w) M Q := by
  obtain ⟨hLen, ⟨P, h20, hx3, hm3, hhd, hprod, hout, hout0⟩, ⟨n, hn, hx, hm, hc⟩, hLim, hShe, hLat, hCs⟩ := id hR
  unfold f_X8_count
  rcases (show w = 0 ∨ w = 1 ∨ w = 2 ∨ w = 3 ∨ w = 4 ∨ w = 5 by omega) with rfl | rfl | rfl | rfl | rfl | rfl
  · have q : Q (X.1 3 0) M := q
    rw [hx3, ← hm3] at q
    exact ⟨fun _ => q, fun h => absurd h (by decide), fun h => absurd h (by decide), fun h => absurd h (by decide), fun h => absurd h (by decide), fun h => absurd h (by decide), fun h => absurd (Or.inl rfl) h⟩
  · refine ⟨fun h => absurd h (by decide), fun _ => ?_, fun h => absurd h (by decide), fun h => absurd h (by decide), fun h => absurd h (by decide), fun h => absurd h (by decide), fun h => absurd (Or.inr (Or.inl rfl)) h⟩
    refine ⟨P + 1, outM_loop hm3 h20 ?_ P 0 (by omega)⟩
    have q : Q (nI (cO (X.1 4) (X.1 3 0).toNatClampNeg)) M := q
    rw [hx3, nI_clamp (by omega), cO_eq P (fun i hi => (hout i hi).1)] at q; exact q
  · have q : Q (X.1 10 0) M := q
    rw [hx, ← hm] at q
    exact ⟨fun h => absurd h (by decide), fun h => absurd h (by decide), fun _ => q, fun h => absurd h (by decide), fun h => absurd h (by decide), fun h => absurd h (by decide), fun h => absurd (Or.inr (Or.inr (Or.inl rfl))) h⟩
  · exact ⟨fun h => absurd h (by decide), fun h => absurd h (by decide), fun h => absurd h (by decide), fun _ => ⟨5, hereM_loop hShe q 4 0 rfl⟩, fun h => absurd h (by decide), fun h => absurd h (by decide), fun h => absurd (Or.inr (Or.inr (Or.inr (Or.inl rfl)))) h⟩
  · exact ⟨fun h => absurd h (by decide), fun h => absurd h (by decide), fun h => absurd h (by decide), fun h => absurd h (by decide), fun _ => ⟨5, lostM_loop hShe q 4 0 rfl⟩, fun h => absurd h (by decide), fun h => absurd (Or.inr (Or.inr (Or.inr (Or.inr (Or.inl rfl))))) h⟩
  · have q : Q (X.1 16 0) M := q
    rw [hLat] at q
    exact ⟨fun h => absurd h (by decide), fun h => absurd h (by decide), fun h => absurd h (by decide), fun h => absurd h (by decide), fun h => absurd h (by decide), fun _ => q, fun h => absurd (Or.inr (Or.inr (Or.inr (Or.inr (Or.inr rfl))))) h⟩
theorem ob_count : Ob_count RelX := by
  intro σ τ a1 hR
  by_cases h : inr a1 0 5
  · obtain ⟨w, hw, rfl⟩ := inr_nI (n := 5) h (by decide)
    exact sp_countX hR hw (sp_countM hR hw ⟨rfl, hR⟩)
  · have ne : ∀ n : Nat, n ≤ 5 → ¬ a1 = nI n := fun n hn e => h (by rw [e]; exact nI_inr (by omega) (by omega) (by omega))
    unfold f_X7_count
    refine ⟨fun e => absurd e (ne 0 (by decide)), fun e => absurd e (ne 1 (by decide)), fun e => absurd e (ne 2 (by decide)), fun e => absurd e (ne 3 (by decide)), fun e => absurd e (ne 4 (by decide)), fun e => absurd e (ne 5 (by decide)), fun no => ?_⟩
    unfold f_X8_count
    exact ⟨fun e => absurd e (ne 0 (by decide)), fun e => absurd e (ne 1 (by decide)), fun e => absurd e (ne 2 (by decide)), fun e => absurd e (ne 3 (by decide)), fun e => absurd e (ne 4 (by decide)), fun e => absurd e (ne 5 (by decide)), fun _ => ⟨rfl, hR⟩⟩
