/-! ===== the arm: turn, length, clear, hand, leave ===== -/
theorem vin {i : Int32} {n : Nat} (h : ¬ (i < 0 ∨ n ≤ i.toNatClampNeg)) : vp_in i n := h
theorem ix3 (i j : Nat) : (3 : Int32) * nI i + nI j = nI (3 * i + j) := by rw [show (3 : Int32) = nI 3 from rfl, pk_mul, nI_add]
theorem n0 : (0 : Int32) = nI 0 := rfl
theorem nI_le_lit {k n : Nat} {c : Int32} (hc : c = nI n) (hk : k < 2 ^ 31) (hn : n < 2 ^ 31) : c ≤ nI k ↔ n ≤ k := by rw [hc]; exact nI_leI hn hk
theorem ob_turn : Ob_turn RelX := by
  intro σ τ a1 a2 hR
  have hcs := hR.2.2.2.2.2.2
  unfold f_X7_turn
  by_cases h1 : inr a1 0 35
  · refine wX1 (a := 0) (b := 35) (by decide) (by decide) h1 (bf one_ne ?_)
    by_cases h2 : inr a2 0 1
    · refine wX1 (a := 0) (b := 1) (by decide) (by decide) h2 (nt one_ne ?_)
      obtain ⟨k, hk, rfl⟩ := inr_nI (n := 35) h1 (by decide)
      obtain ⟨w, hw, rfl⟩ := inr_nI (n := 1) h2 (by decide)
      refine sp_part (by omega) (by omega) ?_
      unfold f_X8_turn
      refine wM1 (a := 0) (b := 35) (by decide) (by decide) h1 (bf one_ne ?_)
      refine wM1 (a := 0) (b := 1) (by decide) (by decide) h2 (nt one_ne ?_)
      rcases (show w = 0 ∨ w = 1 by omega) with rfl | rfl
      · refine nf rfl (sp_c hcs (by omega) ⟨?_, hR⟩)
        rw [Nat.mod_eq_of_lt (by omega)]; rfl
      · refine nt (by decide) (sp_s hcs (by omega) ⟨?_, hR⟩)
        rw [Nat.mod_eq_of_lt (by omega)]; rfl
    · refine wX0 (a := 0) (b := 1) (by decide) (by decide) h2 (nf rfl ?_)
      unfold f_X8_turn
      refine wM1 (a := 0) (b := 35) (by decide) (by decide) h1 (bf one_ne ?_)
      exact wM0 (a := 0) (b := 1) (by decide) (by decide) h2 (nf rfl ⟨rfl, hR⟩)
  · refine wX0 (a := 0) (b := 35) (by decide) (by decide) h1 (bt rfl ?_)
    unfold f_X8_turn
    exact wM0 (a := 0) (b := 35) (by decide) (by decide) h1 (bt rfl ⟨rfl, hR⟩)
theorem rPos.lens {P : Nat} {X M : St} {j j2 : Nat} {v v2 : Int32} (h : rPos P X M) : rPos P (sI X 0 j v) (sI M 0 j2 v2) := by
  unfold rPos at h ⊢; simp only [sI_at (show (3 : Nat) ≠ 0 by decide), sI_at (show (1 : Nat) ≠ 0 by decide), sI_at (show (2 : Nat) ≠ 0 by decide), sI_at (show (4 : Nat) ≠ 0 by decide)]; exact h
theorem rLen.cg {X M X' M' : St} (h : rLen X M) (x0 : X'.1 0 = X.1 0) (m0 : M'.1 0 = M.1 0) : rLen X' M' := by unfold rLen at h ⊢; rw [x0, m0]; exact h
theorem rPos.cg {P : Nat} {X M X' M' : St} (h : rPos P X M) (x1 : X'.1 1 = X.1 1) (x2 : X'.1 2 = X.1 2) (x3 : X'.1 3 = X.1 3) (x4 : X'.1 4 = X.1 4) (m1 : M'.1 1 = M.1 1) (m3 : M'.1 3 = M.1 3) (m4 : M'.1 4 = M.1 4) : rPos P X' M' := by unfold rPos at h ⊢; rw [x1, x2, x3, x4, m1, m3, m4]; exact h
theorem rCam.cg {X M X' M' : St} (h : rCam X M) (x6 : X'.1 6 = X.1 6) (x7 : X'.1 7 = X.1 7) (x8 : X'.1 8 = X.1 8) (x9 : X'.1 9 = X.1 9) (x10 : X'.1 10 = X.1 10) (m6 : M'.1 6 = M.1 6) (m7 : M'.1 7 = M.1 7) (m8 : M'.1 8 = M.1 8) (m9 : M'.1 9 = M.1 9) (m10 : M'.1 10 = M.1 10) : rCam X' M' := by unfold rCam at h ⊢; rw [x6, x7, x8, x9, x10, m6, m7, m8, m9, m10]; exact h
theorem rLim.cg {X M X' M' : St} (h : rLim X M) (x11 : X'.1 11 = X.1 11) (m19 : M'.1 19 = M.1 19) (m20 : M'.1 20 = M.1 20) : rLim X' M' := by unfold rLim at h ⊢; rw [x11, m19, m20]; exact h
theorem rShe.cg {X M X' M' : St} (h : rShe X M) (x : ∀ k, 20 ≤ k → X'.1 k = X.1 k) (m22 : M'.1 22 = M.1 22) (m23 : M'.1 23 = M.1 23) (m24 : M'.1 24 = M.1 24) : rShe X' M' := by
  unfold rShe at h ⊢
  intro k hk
  rw [x (24 + k) (by omega), x (28 + k) (by omega), x (20 + k) (by omega), m22, m23, m24]
  exact h k hk
theorem rCs.cg {M M' : St} (h : rCs M) (m18 : M'.1 18 = M.1 18) : rCs M' := by unfold rCs at h ⊢; rw [m18]; exact h
theorem ob_length : Ob_length RelX := by
  intro σ τ a1 a2 hR
  unfold f_X7_length
  by_cases h1 : inr a1 0 2
  · refine wX1 (a := 0) (b := 2) (by decide) (by decide) h1 (bf one_ne ?_)
    by_cases h2 : inr a2 1 999
    · refine wX1 (a := 1) (b := 999) (by decide) (by decide) h2 (nt one_ne ?_)
      obtain ⟨k, hk, rfl⟩ := inr_nI (n := 2) h1 (by decide)
      have hin : vp_in (nI k) 3 := vp_in_nI (by omega) (by decide)
      refine ⟨hin, nmx ⟨hin, nmx ?_⟩⟩
      unfold f_X8_length
      refine wM1 (a := 0) (b := 2) (by decide) (by decide) h1 (bf one_ne ?_)
      refine wM1 (a := 1) (b := 999) (by decide) (by decide) h2 (nt one_ne ?_)
      refine ⟨hin, nmx ⟨hin, nmx ?_⟩⟩
      rw [nI_clamp (by omega)]
      obtain ⟨hLen, ⟨P, hP⟩, hCam, hLim, hShe, hLat, hCs⟩ := hR
      refine ⟨(hLen k (by omega)).1, ?_, ⟨P, hP.lens⟩, ?_, ?_, ?_, ?_, ?_⟩
      · intro i hi
        rw [sI_on, sI_on]
        by_cases e : i = k
        · subst e
          rw [pk_us, pk_us]
          refine ⟨rfl, a2.toInt.toNat, ?_, ?_, Int32.toInt_inj.mp ?_⟩
          · have := h2.1; omega
          · have := h2.2; omega
          · have := h2.1; have := h2.2; rw [nI_toInt (by omega)]; omega
        · rw [pk_un e, pk_un e]; exact hLen i hi
      · exact hCam.cg (sI_at (by decide)) (sI_at (by decide)) (sI_at (by decide)) (sI_at (by decide)) (sI_at (by decide)) (sI_at (by decide)) (sI_at (by decide)) (sI_at (by decide)) (sI_at (by decide)) (sI_at (by decide))
      · exact hLim.cg (sI_at (by decide)) (sI_at (by decide)) (sI_at (by decide))
      · exact hShe.cg (fun k hk => sI_at (by omega)) (sI_at (by decide)) (sI_at (by decide)) (sI_at (by decide))
      · rw [sI_at (by decide), sI_at (by decide)]; exact hLat
      · exact hCs.cg (sI_at (by decide))
    · refine wX0 (a := 1) (b := 999) (by decide) (by decide) h2 (nf rfl ?_)
      unfold f_X8_length
      refine wM1 (a := 0) (b := 2) (by decide) (by decide) h1 (bf one_ne ?_)
      exact wM0 (a := 1) (b := 999) (by decide) (by decide) h2 (nf rfl ⟨rfl, hR⟩)
  · refine wX0 (a := 0) (b := 2) (by decide) (by decide) h1 (bt rfl ?_)
    unfold f_X8_length
    exact wM0 (a := 0) (b := 2) (by decide) (by decide) h1 (bt rfl ⟨rfl, hR⟩)
/-- clear -/
theorem clear_loop {Q : Int32 → St → Prop} {r : Int32} : ∀ (n i : Nat) (σ : St), i + n = 20 → (∀ σ' : St, (∀ k, k ≠ 4 → σ'.1 k = σ.1 k) → (∀ j, j < i → σ'.1 4 j = σ.1 4 j) → (∀ j, i ≤ j → j < 20 → σ'.1 4 j = 0) → Q r σ') → f_X7_clear_b18 Q (n + 1) r (nI i) σ := by
  intro n
  induction n with
  | zero =>
    intro i σ hi hQ
    unfold f_X7_clear_b18
    exact bt (by rw [show i = 20 by omega]; decide) (hQ σ (fun _ _ => rfl) (fun _ _ => rfl) (fun j h1 h2 => by omega))
  | succ n ih =>
    intro i σ hi hQ
    unfold f_X7_clear_b18
    refine bf (nI_ge (a := i) (b := 20) (by omega) (by decide)) ⟨vp_in_nI (by omega) (by decide), nmx (nmx ?_)⟩
    rw [nI_1, nI_clamp (by omega)]
    refine ih (i + 1) _ (by omega) (fun σ' h1 h2 h3 => ?_)
    refine hQ σ' (fun k hk => (h1 k hk).trans (sI_at hk)) (fun j hj => ?_) (fun j h4 h5 => ?_)
    · rw [h2 j (by omega), sI_on, pk_un (by omega)]
    · by_cases e : j = i
      · subst e
        rw [h2 j (by omega), sI_on, pk_us]; decide
      · exact h3 j (by omega) h5
theorem ob_clear : Ob_clear RelX := by
  intro σ τ hR
  unfold f_X7_clear
  refine nmx (nmx ⟨21, ?_⟩)
  refine clear_loop 20 0 _ rfl (fun σ' h1 _ h3 => ?_)
  unfold f_X8_clear
  refine nmx (nmx ?_)
  obtain ⟨hLen, ⟨P, h20, hx3, hm3, hhd, hprod, hout, hout0⟩, hCam, hLim, hShe, hLat, hCs⟩ := hR
  have x : ∀ k, k ≠ 4 → k ≠ 3 → σ'.1 k = σ.1 k := fun k a b => (h1 k a).trans (sI_at b)
  refine ⟨by rw [hx3, hm3], ?_, ⟨0, ?_⟩, ?_, ?_, ?_, ?_, ?_⟩
  · exact hLen.cg (x 0 (by decide) (by decide)) (sI_at (by decide))
  · refine ⟨by omega, ?_, ?_, fun j hj => by omega, fun i r c h => by omega, fun i h => by omega, fun i _ h => h3 i (Nat.zero_le i) h⟩
    · rw [h1 3 (by decide), sI_on, pk_us]; rfl
    · rw [sI_on, pk_us]; rfl
  · exact hCam.cg (x 6 (by decide) (by decide)) (x 7 (by decide) (by decide)) (x 8 (by decide) (by decide)) (x 9 (by decide) (by decide)) (x 10 (by decide) (by decide)) (sI_at (by decide)) (sI_at (by decide)) (sI_at (by decide)) (sI_at (by decide)) (sI_at (by decide))
  · exact hLim.cg (x 11 (by decide) (by decide)) (sI_at (by decide)) (sI_at (by decide))
  · exact hShe.cg (fun k hk => x k (by omega) (by omega)) (sI_at (by decide)) (sI_at (by decide)) (sI_at (by decide))
  · rw [x 16 (by decide) (by decide), sI_at (by decide)]; exact hLat
  · exact hCs.cg (sI_at (by decide))
/-- which postures there are -/
theorem posX1 {P : Nat} {a : Int32} {σ : St} {Q : Int32 → St → Prop} (hP : σ.1 3 0 = nI P) (h20 : P ≤ 20) (h : inr a 0 ((P : Int) - 1)) (q : Q 1 σ) : f_X7_isPosture a σ Q := by
  unfold f_X7_isPosture
  have h1 := h.1
  have h2 := h.2
  refine bf ?_ (bf ?_ q)
  · rw [i32_lt, Int32.toInt_zero]; omega
  · rw [hP, i32_le, nI_toInt (by omega)]; omega
theorem posX0 {P : Nat} {a : Int32} {σ : St} {Q : Int32 → St → Prop} (hP : σ.1 3 0 = nI P) (h20 : P ≤ 20) (h : ¬ inr a 0 ((P : Int) - 1)) (q : Q 0 σ) : f_X7_isPosture a σ Q := by
  unfold f_X7_isPosture
  refine ⟨fun _ => q, fun c1 => ⟨fun _ => q, fun c2 => absurd ⟨?_, ?_⟩ h⟩⟩
  · rw [i32_lt, Int32.toInt_zero] at c1; omega
  · rw [hP, i32_le, nI_toInt (by omega)] at c2; omega
theorem pm1 {P : Nat} (h20 : P ≤ 20) : (Int32.toInt64 (nI P - 1)).toInt = (P : Int) - 1 := by
  rw [wide_toInt]; exact pk_sub_toInt (a := P) (b := 1) (by omega) (by decide)
theorem posM1 {P : Nat} {a : Int32} {τ : St} {Q : Int32 → St → Prop} (hP : τ.1 3 0 = nI P) (h20 : P ≤ 20) (h : inr a 0 ((P : Int) - 1)) (q : Q 1 τ) : f_X8_isPosture a τ Q := by
  unfold f_X8_isPosture
  rw [hP]
  exact wM1 (a := 0) (b := (P : Int) - 1) (by decide) (pm1 h20) h ⟨Or.inr rfl, q⟩
theorem posM0 {P : Nat} {a : Int32} {τ : St} {Q : Int32 → St → Prop} (hP : τ.1 3 0 = nI P) (h20 : P ≤ 20) (h : ¬ inr a 0 ((P : Int) - 1)) (q : Q 0 τ) : f_X8_isPosture a τ Q := by
  unfold f_X8_isPosture
  rw [hP]
  exact wM0 (a := 0) (b := (P : Int) - 1) (by decide) (pm1 h20) h ⟨Or.inl rfl, q⟩
theorem pos_nI {P : Nat} {a : Int32} (h20 : P ≤ 20) (h : inr a 0 ((P : Int) - 1)) : ∃ k : Nat, k < P ∧ a = nI k := by
  have h1 := h.1
  have h2 := h.2
  obtain ⟨k, hk, e⟩ := inr_nI (v := a) (n := P - 1) ⟨h1, by omega⟩ (by omega)
  exact ⟨k, by omega, e⟩
/-- a posture's headings are such -/
def hds (σ : St) (i : Nat) : Prop := ∀ j, j < 3 → ∃ h : Nat, h < 36 ∧ σ.1 1 (3 * i + j) = nI h
theorem rPos.hX {P : Nat} {X M : St} (h : rPos P X M) {i : Nat} (hi : i < P) : hds X i := fun j hj => (h.2.2.2.1 (3 * i + j) (by omega)).2
def hdX (σ : St) (i j : Nat) : Nat := (σ.1 1 (3 * i + j)).toNatClampNeg
theorem hdX_lt {σ : St} {i j : Nat} (h : hds σ i) (hj : j < 3) : hdX σ i j < 36 ∧ σ.1 1 (3 * i + j) = nI (hdX σ i j) := by
  obtain ⟨x, h1, h2⟩ := h j hj
  unfold hdX
  rw [h2, nI_clamp (by omega)]
  exact ⟨h1, rfl⟩
def hndX (σ : St) (i w : Nat) : Int32 := 0 + σ.1 0 0 * CS w (hdX σ i 0) + σ.1 0 1 * CS w (hdX σ i 1) + σ.1 0 2 * CS w (hdX σ i 2)
theorem reached_step {Q : Int32 → St → Prop} {σ : St} {i w j n : Nat} {acc : Int32} (hi : i < 20) (hw : w < 2) (hj : j < 3) (hh : hds σ i) (q : f_X0_reached_b5 Q n (nI i) (nI w) (acc + σ.1 0 j * CS w (hdX σ i j)) (nI (j + 1)) σ) : f_X0_reached_b5 Q (n + 1) (nI i) (nI w) acc (nI j) σ := by
  unfold f_X0_reached_b5
  refine bf (nI_ge (a := j) (b := 3) hj (by decide)) ?_
  rw [ix3, nI_clamp (by omega), nI_clamp (by omega), nI_1]
  refine ⟨vp_in_nI hj (by decide), vp_in_nI (by omega) (by decide), ?_⟩
  rw [(hdX_lt hh hj).2]
  exact sp_part (hdX_lt hh hj).1 hw (nmx (nmx q))
theorem sp_reached {Q : Int32 → St → Prop} {σ : St} {i w : Nat} (hi : i < 20) (hw : w < 2) (hh : hds σ i) (q : Q (hndX σ i w) σ) : f_X0_reached (nI i) (nI w) σ Q := by
  unfold f_X0_reached
  refine ⟨4, ?_⟩
  rw [n0]
  refine reached_step hi hw (by decide) hh (reached_step hi hw (by decide) hh (reached_step hi hw (by decide) hh ?_))
  unfold f_X0_reached_b5
  exact bt (by decide) q
theorem sp_partM {Q : Int32 → St → Prop} {τ : St} {i j w : Nat} (hc : rCs τ) (hi : i < 20) (hj : j < 3) (hw : w < 2) (hh : hds τ i) (q : Q (CS w (hdX τ i j)) τ) : f_X8_part (nI i) (nI j) (nI w) τ Q := by
  unfold f_X8_part
  rw [ix3, nI_clamp (by omega)]
  refine ⟨vp_in_nI (by omega) (by decide), nmx ?_⟩
  obtain ⟨h1, h2⟩ := hdX_lt hh hj
  rw [h2]
  rcases (show w = 0 ∨ w = 1 by omega) with rfl | rfl
  · refine nf rfl (sp_c hc (by omega) ?_)
    rw [Nat.mod_eq_of_lt h1]; exact q
  · refine nt (by decide) (sp_s hc (by omega) ?_)
    rw [Nat.mod_eq_of_lt h1]; exact q
def hndM (τ : St) (i w : Nat) : Int32 := τ.1 0 0 * CS w (hdX τ i 0) + τ.1 0 1 * CS w (hdX τ i 1) + τ.1 0 2 * CS w (hdX τ i 2)
theorem sp_handOf {Q : Int32 → St → Prop} {τ : St} {i w : Nat} (hc : rCs τ) (hi : i < 20) (hw : w < 2) (hh : hds τ i) (q : Q (hndM τ i w) τ) : f_X8_handOf (nI i) (nI w) τ Q := by
  unfold f_X8_handOf
  exact sp_partM (j := 0) hc hi (by decide) hw hh (sp_partM (j := 1) hc hi (by decide) hw hh (sp_partM (j := 2) hc hi (by decide) hw hh q))
theorem hdX_eq {P : Nat} {X M : St} (h : rPos P X M) {i j : Nat} (hi : i < P) (hj : j < 3) : hdX M i j = hdX X i j := by
  unfold hdX; rw [(h.2.2.2.1 (3 * i + j) (by omega)).1]
theorem rPos.hM {P : Nat} {X M : St} (h : rPos P X M) {i : Nat} (hi : i < P) : hds M i := fun j hj => by
  have := h.2.2.2.1 (3 * i + j) (by omega)
  rw [← this.1]; exact this.2
theorem hnd_eq {P : Nat} {X M : St} (hL : rLen X M) (h : rPos P X M) {i w : Nat} (hi : i < P) : hndX X i w = hndM M i w := by
  unfold hndX hndM
  rw [hdX_eq h hi (by decide), hdX_eq h hi (by decide), hdX_eq h hi (by decide), ← (hL 0 (by decide)).1, ← (hL 1 (by decide)).1, ← (hL 2 (by decide)).1, Int32.zero_add]
theorem ob_hand : Ob_hand RelX := by
  intro σ τ a1 a2 hR
  obtain ⟨hLen, ⟨P, hP⟩, hCam, hLim, hShe, hLat, hCs⟩ := id hR
  obtain ⟨h20, hx3, hm3, hhd, hprod, hout, hout0⟩ := id hP
  unfold f_X7_hand
  by_cases h1 : inr a1 0 ((P : Int) - 1)
  · refine posX1 hx3 h20 h1 (bf one_ne ?_)
    by_cases h2 : inr a2 0 1
    · refine wX1 (a := 0) (b := 1) (by decide) (by decide) h2 (nt one_ne ?_)
      obtain ⟨i, hi, rfl⟩ := pos_nI h20 h1
      obtain ⟨w, hw, rfl⟩ := inr_nI (n := 1) h2 (by decide)
      refine sp_reached (by omega) (by omega) (hP.hX hi) ?_
      unfold f_X8_hand
      refine posM1 hm3 h20 h1 (bf one_ne ?_)
      refine wM1 (a := 0) (b := 1) (by decide) (by decide) h2 (bf one_ne ?_)
      exact sp_handOf hCs (by omega) (by omega) (hP.hM hi) ⟨hnd_eq hLen hP hi, hR⟩
    · refine wX0 (a := 0) (b := 1) (by decide) (by decide) h2 (nf rfl ?_)
      unfold f_X8_hand
      refine posM1 hm3 h20 h1 (bf one_ne ?_)
      exact wM0 (a := 0) (b := 1) (by decide) (by decide) h2 (bt rfl ⟨rfl, hR⟩)
  · refine posX0 hx3 h20 h1 (bt rfl ?_)
    unfold f_X8_hand
    exact posM0 hm3 h20 h1 (bt rfl ⟨rfl, hR⟩)
theorem ob_leave : Ob_leave RelX := by
  intro σ τ a1 a2 hR hz
  obtain ⟨hLen, ⟨P, hP⟩, hCam, hLim, hShe, hLat, hCs⟩ := id hR
  obtain ⟨h20, hx3, hm3, hhd, hprod, hout, hout0⟩ := id hP
  have hnar : vp_nar .boolean a2 = a2 := by rcases hz with rfl | rfl <;> decide
  unfold f_X7_leave
  by_cases h1 : inr a1 0 ((P : Int) - 1)
  · refine posX1 hx3 h20 h1 (nt one_ne ?_)
    obtain ⟨i, hi, rfl⟩ := pos_nI h20 h1
    have hin : vp_in (nI i) 20 := vp_in_nI (by omega) (by decide)
    refine ⟨hin, nmx ?_⟩
    unfold f_X8_leave
    refine posM1 hm3 h20 h1 (nt one_ne ⟨hin, nmx ?_⟩)
    rw [nI_clamp (by omega), hnar]
    refine ⟨rfl, ?_, ⟨P, h20, ?_, ?_, ?_, ?_, ?_, ?_⟩, ?_, ?_, ?_, ?_, ?_⟩
    · exact hLen.cg (sI_at (by decide)) (sI_at (by decide))
    · rw [sI_at (by decide)]; exact hx3
    · rw [sI_at (by decide)]; exact hm3
    · rw [sI_at (by decide), sI_at (by decide)]; exact hhd
    · rw [sI_at (by decide), sI_at (by decide)]; exact hprod
    · intro j hj
      rw [sI_on, sI_on]
      by_cases e : j = i
      · subst e; rw [pk_us, pk_us]; exact ⟨rfl, hz⟩
      · rw [pk_un e, pk_un e]; exact hout j hj
    · intro j hj hj2
      rw [sI_on, pk_un (by omega)]; exact hout0 j hj hj2
    · exact hCam.cg (sI_at (by decide)) (sI_at (by decide)) (sI_at (by decide)) (sI_at (by decide)) (sI_at (by decide)) (sI_at (by decide)) (sI_at (by decide)) (sI_at (by decide)) (sI_at (by decide)) (sI_at (by decide))
    · exact hLim.cg (sI_at (by decide)) (sI_at (by decide)) (sI_at (by decide))
    · exact hShe.cg (fun k hk => sI_at (by omega)) (sI_at (by decide)) (sI_at (by decide)) (sI_at (by decide))
    · rw [sI_at (by decide), sI_at (by decide)]; exact hLat
    · exact hCs.cg (sI_at (by decide))
  · refine posX0 hx3 h20 h1 (nf rfl ?_)
    unfold f_X8_leave
    exact posM0 hm3 h20 h1 (nf rfl ⟨rfl, hR⟩)
