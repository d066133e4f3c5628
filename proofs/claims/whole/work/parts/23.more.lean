/-! ===== posture, pair, shut, limit, count ===== -/
theorem sp_prod {h g : Nat} {σ : St} {Q : Int32 → St → Prop} (hh : h < 36) (hg : g < 36) (q : Q (prd (nI h) (nI g)) σ) : f_X0_productOf (nI h) (nI g) σ Q := by
  unfold f_X0_productOf
  unfold prd at q
  rw [nI_clamp (by omega), nI_clamp (by omega)] at q
  exact sp_cOf hh (sp_cOf hg (sp_sOf hh (sp_sOf hg q)))
theorem ix9 (i r c : Nat) : (9 : Int32) * nI i + (3 : Int32) * nI r + nI c = nI (9 * i + 3 * r + c) := by
  rw [show (9 : Int32) = nI 9 from rfl, show (3 : Int32) = nI 3 from rfl, pk_mul, pk_mul, nI_add, nI_add]
theorem stand_in {Q : Int32 → St → Prop} {K : Int32 → Int32 → St → Prop} {P r : Nat} (hP : P < 20) (hr : r < 3) : ∀ (m c : Nat) (σ : St), c + m = 3 → hds σ P →
    (∀ σ' : St, (∀ k, k ≠ 2 → σ'.1 k = σ.1 k) → (∀ x, (x < 9 * P + 3 * r + c ∨ 9 * P + 3 * r + 3 ≤ x) → σ'.1 2 x = σ.1 2 x) → (∀ j, c ≤ j → j < 3 → σ'.1 2 (9 * P + 3 * r + j) = prd (σ.1 1 (3 * P + r)) (σ.1 1 (3 * P + j))) → K (nI P) (nI (r + 1)) σ') → f_X0_stand_b64 Q K (m + 1) (nI P) (nI r) (nI c) σ := by
  intro m
  induction m with
  | zero =>
    intro c σ hc hh hK
    unfold f_X0_stand_b64
    refine bt (by rw [show c = 3 by omega]; decide) (nmx ?_)
    rw [nI_1]
    exact hK σ (fun _ _ => rfl) (fun _ _ => rfl) (fun j h1 h2 => by omega)
  | succ m ih =>
    intro c σ hc hh hK
    unfold f_X0_stand_b64
    refine bf (nI_ge (a := c) (b := 3) (by omega) (by decide)) ?_
    rw [ix3, ix3, ix9, nI_clamp (by omega), nI_clamp (by omega), nI_clamp (by omega), nI_1]
    refine ⟨vp_in_nI (by omega) (by decide), vp_in_nI (by omega) (by decide), ?_⟩
    obtain ⟨a1, a2⟩ := hdX_lt hh hr
    obtain ⟨b1, b2⟩ := hdX_lt hh (show c < 3 by omega)
    rw [a2, b2]
    refine sp_prod a1 b1 ⟨vp_in_nI (by omega) (by decide), nmx (nmx ?_)⟩
    rw [← a2, ← b2]
    refine ih (c + 1) _ (by omega) (fun j hj => by rw [sI_at (by decide)]; exact hh j hj) (fun σ' h1 h2 h3 => ?_)
    refine hK σ' (fun k hk => (h1 k hk).trans (sI_at hk)) (fun x hx => ?_) (fun j h4 h5 => ?_)
    · rw [h2 x (by omega), sI_on, pk_un (by omega)]
    · by_cases e : j = c
      · subst e
        rw [h2 _ (by omega), sI_on, pk_us]
      · rw [h3 j (by omega) h5, sI_at (by decide)]
theorem stand_out {Q : Int32 → St → Prop} {P : Nat} (hP : P < 20) : ∀ (m r : Nat) (σ : St), r + m = 3 → hds σ P →
    (∀ σ' : St, (∀ k, k ≠ 2 → σ'.1 k = σ.1 k) → (∀ x, x < 9 * P + 3 * r → σ'.1 2 x = σ.1 2 x) → (∀ r' c, r ≤ r' → r' < 3 → c < 3 → σ'.1 2 (9 * P + 3 * r' + c) = prd (σ.1 1 (3 * P + r')) (σ.1 1 (3 * P + c))) → Q (nI P) (sI σ' 3 0 (σ'.1 3 0 + 1))) → f_X0_stand_b55 Q (m + 1) (nI P) (nI r) σ := by
  intro m
  induction m with
  | zero =>
    intro r σ hr hh hQ
    unfold f_X0_stand_b55
    exact bt (by rw [show r = 3 by omega]; decide) (nmx (hQ σ (fun _ _ => rfl) (fun _ _ => rfl) (fun r' c h1 h2 => by omega)))
  | succ m ih =>
    intro r σ hr hh hQ
    unfold f_X0_stand_b55
    refine bf (nI_ge (a := r) (b := 3) (by omega) (by decide)) ⟨4, ?_⟩
    rw [n0]
    refine stand_in hP (by omega) 3 0 σ rfl hh (fun σ1 h1 h2 h3 => ?_)
    refine ih (r + 1) σ1 (by omega) (fun j hj => by rw [h1 1 (by decide)]; exact hh j hj) (fun σ' g1 g2 g3 => ?_)
    refine hQ σ' (fun k hk => (g1 k hk).trans (h1 k hk)) (fun x hx => (g2 x (by omega)).trans (h2 x (by omega))) (fun r' c h4 h5 h6 => ?_)
    by_cases e : r' = r
    · subst e
      rw [g2 _ (by omega), h3 c (by omega) h6]
    · rw [g3 r' c (by omega) h5 h6, h1 1 (by decide)]
theorem ob_posture : Ob_posture RelX := by
  intro σ τ a1 a2 a3 hR
  unfold f_X7_posture
  by_cases h1 : inr a1 0 35
  · refine wX1 (a := 0) (b := 35) (by decide) (by decide) h1 (bf one_ne ?_)
    by_cases h2 : inr a2 0 35
    · refine wX1 (a := 0) (b := 35) (by decide) (by decide) h2 (bf one_ne ?_)
      by_cases h3 : inr a3 0 35
      · refine wX1 (a := 0) (b := 35) (by decide) (by decide) h3 (nt one_ne ?_)
        obtain ⟨hLen, ⟨P, hP⟩, hCam, hLim, hShe, hLat, hCs⟩ := id hR
        obtain ⟨h20, hx3, hm3, hhd, hprod, hout, hout0⟩ := id hP
        by_cases hf : P = 20
        · rw [hx3]
          refine bf (by rw [hf]; decide) ?_
          unfold f_X8_posture
          refine wM1 (a := 0) (b := 35) (by decide) (by decide) h1 (bf one_ne ?_)
          refine wM1 (a := 0) (b := 35) (by decide) (by decide) h2 (bf one_ne ?_)
          refine wM1 (a := 0) (b := 35) (by decide) (by decide) h3 (nt one_ne ?_)
          rw [hm3]
          exact nf (by rw [hf]; rfl) ⟨rfl, hR⟩
        · have hlt : P < 20 := by omega
          obtain ⟨a, ha, rfl⟩ := inr_nI (n := 35) h1 (by decide)
          obtain ⟨b, hb, rfl⟩ := inr_nI (n := 35) h2 (by decide)
          obtain ⟨d, hd, rfl⟩ := inr_nI (n := 35) h3 (by decide)
          refine bt (by rw [hx3]; exact nI_lt (a := P) (b := 20) hlt (by decide)) ?_
          unfold f_X0_stand
          refine nmx ?_
          rw [hx3]
          have e3 : (3 : Int32) * nI P = nI (3 * P) := by rw [show (3 : Int32) = nI 3 from rfl, pk_mul]
          have e31 : nI (3 * P) + 1 = nI (3 * P + 1) := nI_1 _
          have e32 : nI (3 * P) + 2 = nI (3 * P + 2) := nI_add (3 * P) 2
          rw [e3, e31, e32, nI_clamp (by omega), nI_clamp (by omega), nI_clamp (by omega)]
          refine ⟨vp_in_nI (by omega) (by decide), nmx ?_⟩
          rw [nI_add, nI_add]
          refine sp_round (by omega) ⟨vp_in_nI (by omega) (by decide), nmx ?_⟩
          refine sp_round (by omega) ⟨vp_in_nI (by omega) (by decide), nmx ⟨4, ?_⟩⟩
          rw [n0]
          have r1 : ∀ X : St, ∀ x y z : Int32, (sI (sI (sI X 1 (3 * P) x) 1 (3 * P + 1) y) 1 (3 * P + 2) z).1 1 = upd (upd (upd (X.1 1) (3 * P) x) (3 * P + 1) y) (3 * P + 2) z := by
            intro X x y z; rw [sI_on, sI_on, sI_on]
          refine stand_out hlt 3 0 _ rfl ?_ (fun σ' g1 g2 g3 => ?_)
          · intro j hj
            rw [r1]
            rcases (show j = 0 ∨ j = 1 ∨ j = 2 by omega) with rfl | rfl | rfl
            · exact ⟨a, by omega, by rw [pk_un (by omega), pk_un (by omega)]; exact pk_us⟩
            · exact ⟨(a + b) % 36, by omega, by rw [pk_un (by omega)]; exact pk_us⟩
            · exact ⟨(a + b + d) % 36, by omega, pk_us⟩
          · unfold f_X8_posture
            refine wM1 (a := 0) (b := 35) (by decide) (by decide) h1 (bf one_ne ?_)
            refine wM1 (a := 0) (b := 35) (by decide) (by decide) h2 (bf one_ne ?_)
            refine wM1 (a := 0) (b := 35) (by decide) (by decide) h3 (nt one_ne ?_)
            refine nt (by rw [hm3]; exact fun h => hf ((nI_eq (by omega) (by decide)).mp h)) ?_
            rw [hm3, e3, nI_clamp (by omega)]
            refine ⟨vp_in_nI (by omega) (by decide), nmx ?_⟩
            rw [sI_at (by decide), hm3, e3, e31, nI_clamp (by omega)]
            refine ⟨vp_in_nI (by omega) (by decide), nmx ?_⟩
            rw [sI_at (by decide), sI_at (by decide), hm3, e3, e32, nI_clamp (by omega)]
            refine ⟨vp_in_nI (by omega) (by decide), nmx ?_⟩
            rw [sI_at (by decide), sI_at (by decide), sI_at (by decide), hm3, nI_clamp (by omega)]
            refine ⟨vp_in_nI (by omega) (by decide), nmx (nmx ?_)⟩
            rw [nI_add, nI_add, show nI (a + b) - nI (a + b) / 36 * 36 = nI ((a + b) % 36) from pk_rem (a := a + b) (d := 36) (by omega) (by decide) (by decide), show nI (a + b + d) - nI (a + b + d) / 36 * 36 = nI ((a + b + d) % 36) from pk_rem (a := a + b + d) (d := 36) (by omega) (by decide) (by decide)]
            rw [show vp_nar .boolean 0 = 0 from by decide]
            have m3 : ∀ v w : Int32, (sI (sI (sI (sI (sI τ 1 (3 * P) (nI a)) 1 (3 * P + 1) (nI ((a + b) % 36))) 1 (3 * P + 2) (nI ((a + b + d) % 36))) 4 P v) 3 0 w).1 3 0 = w := by
              intro v w; rw [sI_on]; exact pk_us
            have m3' : (sI (sI (sI (sI τ 1 (3 * P) (nI a)) 1 (3 * P + 1) (nI ((a + b) % 36))) 1 (3 * P + 2) (nI ((a + b + d) % 36))) 4 P 0).1 3 0 = nI P := by
              rw [sI_at (by decide), sI_at (by decide), sI_at (by decide), sI_at (by decide)]; exact hm3
            have g3' : σ'.1 3 0 = nI P := by
              rw [g1 3 (by decide), sI_at (by decide), sI_at (by decide), sI_at (by decide)]; exact hx3
            rw [m3, m3', g3']
            refine ⟨by rw [nI_1]; exact (nI_pred P).symm, ?_, ⟨P + 1, by omega, ?_, ?_, ?_, ?_, ?_, ?_⟩, ?_, ?_, ?_, ?_, ?_⟩
            · refine hLen.cg ?_ ?_
              · rw [sI_at (by decide), g1 0 (by decide), sI_at (by decide), sI_at (by decide), sI_at (by decide)]
              · rw [sI_at (by decide), sI_at (by decide), sI_at (by decide), sI_at (by decide), sI_at (by decide)]
            · rw [sI_on, pk_us, nI_1]
            · rw [sI_on, pk_us, nI_1]
            · intro j hj
              rw [sI_at (by decide), g1 1 (by decide), r1, sI_at (by decide), sI_at (by decide), r1]
              by_cases e2 : j = 3 * P + 2
              · subst e2; rw [pk_us, pk_us]; exact ⟨rfl, _, by omega, rfl⟩
              · rw [pk_un e2, pk_un e2]
                by_cases e1 : j = 3 * P + 1
                · subst e1; rw [pk_us, pk_us]; exact ⟨rfl, _, by omega, rfl⟩
                · rw [pk_un e1, pk_un e1]
                  by_cases e0 : j = 3 * P
                  · subst e0; rw [pk_us, pk_us]; exact ⟨rfl, _, by omega, rfl⟩
                  · rw [pk_un e0, pk_un e0]; exact hhd j (by omega)
            · intro i r c hi hr hc
              rw [sI_at (by decide), sI_at (by decide), g1 1 (by decide)]
              by_cases e : i = P
              · subst e
                exact g3 r c (Nat.zero_le r) hr hc
              · rw [g2 _ (by omega), sI_at (by decide), sI_at (by decide), sI_at (by decide), hprod i r c (by omega) hr hc, r1]
                rw [pk_un (by omega), pk_un (by omega), pk_un (by omega), pk_un (by omega), pk_un (by omega), pk_un (by omega)]
            · intro i hi
              rw [sI_at (by decide), g1 4 (by decide), sI_at (by decide), sI_at (by decide), sI_at (by decide), sI_at (by decide), sI_on, sI_at (by decide), sI_at (by decide), sI_at (by decide)]
              by_cases e : i = P
              · subst e; rw [pk_us, hout0 i (Nat.le_refl _) hlt]; exact ⟨rfl, Or.inl rfl⟩
              · rw [pk_un e]; exact hout i (by omega)
            · intro i hi hi2
              rw [sI_at (by decide), g1 4 (by decide), sI_at (by decide), sI_at (by decide), sI_at (by decide)]
              exact hout0 i (by omega) hi2
            · have xx : ∀ k, k ≠ 1 → k ≠ 2 → k ≠ 3 → (sI σ' 3 0 (nI P + 1)).1 k = σ.1 k := fun k k1 k2 k3 => by rw [sI_at k3, g1 k k2, sI_at k1, sI_at k1, sI_at k1]
              have mm : ∀ k, k ≠ 1 → k ≠ 3 → k ≠ 4 → (sI (sI (sI (sI (sI τ 1 (3 * P) (nI a)) 1 (3 * P + 1) (nI ((a + b) % 36))) 1 (3 * P + 2) (nI ((a + b + d) % 36))) 4 P 0) 3 0 (nI P + 1)).1 k = τ.1 k := fun k k1 k3 k4 => by rw [sI_at k3, sI_at k4, sI_at k1, sI_at k1, sI_at k1]
              exact hCam.cg (xx 6 (by decide) (by decide) (by decide)) (xx 7 (by decide) (by decide) (by decide)) (xx 8 (by decide) (by decide) (by decide)) (xx 9 (by decide) (by decide) (by decide)) (xx 10 (by decide) (by decide) (by decide)) (mm 6 (by decide) (by decide) (by decide)) (mm 7 (by decide) (by decide) (by decide)) (mm 8 (by decide) (by decide) (by decide)) (mm 9 (by decide) (by decide) (by decide)) (mm 10 (by decide) (by decide) (by decide))
            · refine hLim.cg ?_ ?_ ?_
              · rw [sI_at (by decide), g1 11 (by decide), sI_at (by decide), sI_at (by decide), sI_at (by decide)]
              · rw [sI_at (by decide), sI_at (by decide), sI_at (by decide), sI_at (by decide), sI_at (by decide)]
              · rw [sI_at (by decide), sI_at (by decide), sI_at (by decide), sI_at (by decide), sI_at (by decide)]
            · refine hShe.cg (fun k hk => ?_) ?_ ?_ ?_
              · rw [sI_at (by omega), g1 k (by omega), sI_at (by omega), sI_at (by omega), sI_at (by omega)]
              · rw [sI_at (by decide), sI_at (by decide), sI_at (by decide), sI_at (by decide), sI_at (by decide)]
              · rw [sI_at (by decide), sI_at (by decide), sI_at (by decide), sI_at (by decide), sI_at (by decide)]
              · rw [sI_at (by decide), sI_at (by decide), sI_at (by decide), sI_at (by decide), sI_at (by decide)]
            · rw [sI_at (by decide), g1 16 (by decide), sI_at (by decide), sI_at (by decide), sI_at (by decide), sI_at (by decide), sI_at (by decide), sI_at (by decide), sI_at (by decide), sI_at (by decide)]; exact hLat
            · refine hCs.cg ?_
              rw [sI_at (by decide), sI_at (by decide), sI_at (by decide), sI_at (by decide), sI_at (by decide)]
      · refine wX0 (a := 0) (b := 35) (by decide) (by decide) h3 (nf rfl ?_)
        unfold f_X8_posture
        refine wM1 (a := 0) (b := 35) (by decide) (by decide) h1 (bf one_ne ?_)
        refine wM1 (a := 0) (b := 35) (by decide) (by decide) h2 (bf one_ne ?_)
        exact wM0 (a := 0) (b := 35) (by decide) (by decide) h3 (nf rfl ⟨rfl, hR⟩)
    · refine wX0 (a := 0) (b := 35) (by decide) (by decide) h2 (bt rfl ?_)
      unfold f_X8_posture
      refine wM1 (a := 0) (b := 35) (by decide) (by decide) h1 (bf one_ne ?_)
      exact wM0 (a := 0) (b := 35) (by decide) (by decide) h2 (bt rfl ⟨rfl, hR⟩)
  · refine wX0 (a := 0) (b := 35) (by decide) (by decide) h1 (bt rfl ?_)
    unfold f_X8_posture
    exact wM0 (a := 0) (b := 35) (by decide) (by decide) h1 (bt rfl ⟨rfl, hR⟩)
