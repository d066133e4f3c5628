/-! ===== rank and told ===== -/
def crs (g : Nat → Int) (i j k : Nat) : Int := if k = 0 then g (3 * i + 1) * g (3 * j + 2) - g (3 * i + 2) * g (3 * j + 1) else if k = 1 then g (3 * i + 2) * g (3 * j) - g (3 * i) * g (3 * j + 2) else g (3 * i) * g (3 * j + 1) - g (3 * i + 1) * g (3 * j)
def nz (g : Nat → Int) (i j : Nat) : Prop := crs g i j 0 ≠ 0 ∨ crs g i j 1 ≠ 0 ∨ crs g i j 2 ≠ 0
theorem crs_b {g : Nat → Int} {i j k : Nat} (hs : small g 50700) (hi : i < 3) (hj : j < 3) : -(2 ^ 63) ≤ crs g i j k ∧ crs g i j k < 2 ^ 63 := by
  unfold crs
  have a := hs (3 * i) (by omega)
  have b := hs (3 * i + 1) (by omega)
  have c := hs (3 * i + 2) (by omega)
  have d := hs (3 * j) (by omega)
  have e := hs (3 * j + 1) (by omega)
  have f := hs (3 * j + 2) (by omega)
  by_cases h0 : k = 0
  · rw [if_pos h0]
    have := min_b b f c e (by decide) (by decide)
    omega
  · rw [if_neg h0]
    by_cases h1 : k = 1
    · rw [if_pos h1]
      have := min_b c d a f (by decide) (by decide)
      omega
    · rw [if_neg h1]
      have := min_b a e b d (by decide) (by decide)
      omega
theorem sp_stands {Q : Int32 → St → Prop} {A : Nat → Nat → Int32} {ls : Nat → Nat → Int64} {g : Nat → Int} {i j : Nat} (hr : rowL (ls 0) 9 g) (hs : small g 50700) (hi : i < 3) (hj : j < 3) (q1 : nz g i j → ∀ ls', (∀ z, z ≠ 2 → ls' z = ls z) → rowL (ls' 2) 3 (crs g i j) → Q 1 (A, ls')) (q0 : ¬ nz g i j → ∀ ls', (∀ z, z ≠ 2 → ls' z = ls z) → rowL (ls' 2) 3 (crs g i j) → Q 0 (A, ls')) : f_X8_stands (nI i) (nI j) (A, ls) Q := by
  unfold f_X8_stands
  rw [show (3 : Int32) * nI i = nI (3 * i) from pk_mul 3 i, show (3 : Int32) * nI j = nI (3 * j) from pk_mul 3 j, nI_1, nI_1, show nI (3 * i) + (2 : Int32) = nI (3 * i + 2) from nI_add _ 2, show nI (3 * j) + (2 : Int32) = nI (3 * j + 2) from nI_add _ 2]
  rw [nI_clamp (by omega), nI_clamp (by omega), nI_clamp (by omega), nI_clamp (by omega), nI_clamp (by omega), nI_clamp (by omega)]
  refine ⟨vp_in_nI (by omega) (by decide), nmx ⟨vp_in_nI (by omega) (by decide), nmx ⟨vp_in_nI (by omega) (by decide), nmx ⟨vp_in_nI (by omega) (by decide), nmx ⟨vp_in_nI (by omega) (by decide), nmx ⟨vp_in_nI (by omega) (by decide), nmx (nmx (nmx (nmx ?_)))⟩⟩⟩⟩⟩⟩
  rw [sL_pair, sL_pair, sL_pair]
  show ((¬ _ = (0 : Int64)) → _) ∧ _
  have e0 : ((A, ls) : St).2 0 = ls 0 := rfl
  rw [e0, hr (3 * i) (by omega), hr (3 * i + 1) (by omega), hr (3 * i + 2) (by omega), hr (3 * j) (by omega), hr (3 * j + 1) (by omega), hr (3 * j + 2) (by omega)]
  simp only [LZ_mul, LZ_sub]
  generalize hL : lu (lu (lu ls 2 0 (LZ (g (3 * i + 1) * g (3 * j + 2) - g (3 * i + 2) * g (3 * j + 1)))) 2 1 (LZ (g (3 * i + 2) * g (3 * j) - g (3 * i) * g (3 * j + 2)))) 2 2 (LZ (g (3 * i) * g (3 * j + 1) - g (3 * i + 1) * g (3 * j))) = L
  have k2 : ∀ z, z ≠ 2 → L z = ls z := fun z hz => by rw [← hL, lu_at hz, lu_at hz, lu_at hz]
  have r2 : rowL (L 2) 3 (crs g i j) := by
    intro x hx
    rw [← hL, lu_on, lu_on, lu_on]
    rcases (show x = 0 ∨ x = 1 ∨ x = 2 by omega) with rfl | rfl | rfl
    · rw [pk_uLn (by decide), pk_uLn (by decide), pk_uLs]; rfl
    · rw [pk_uLn (by decide), pk_uLs]; rfl
    · rw [pk_uLs]; rfl
  show ((¬ L 2 0 = (0 : Int64)) → Q 1 (A, L)) ∧ (L 2 0 = (0 : Int64) → ((¬ L 2 1 = (0 : Int64)) → Q 1 (A, L)) ∧ (L 2 1 = (0 : Int64) → (L 2 2 = (0 : Int64) → Q 0 (A, L)) ∧ ((¬ L 2 2 = (0 : Int64)) → Q 1 (A, L))))
  rw [r2 0 (by decide), r2 1 (by decide), r2 2 (by decide), LZ_0 (crs_b hs hi hj), LZ_0 (crs_b hs hi hj), LZ_0 (crs_b hs hi hj)]
  by_cases c0 : crs g i j 0 = 0
  · refine nf c0 ?_
    by_cases c1 : crs g i j 1 = 0
    · refine nf c1 ?_
      by_cases c2 : crs g i j 2 = 0
      · exact bt c2 (q0 (fun h => by rcases h with h | h | h; exact h c0; exact h c1; exact h c2) L k2 r2)
      · exact bf c2 (q1 (Or.inr (Or.inr c2)) L k2 r2)
    · exact nt c1 (q1 (Or.inr (Or.inl c1)) L k2 r2)
  · exact nt c0 (q1 (Or.inl c0) L k2 r2)
/-- squares of the minors, where the whole is zero -/
theorem jac2 {g : Nat → Int} (hs : symm3 g) (hd : detI g = 0) {i : Nat} (hi : i < 3) : crs g 0 1 i * crs g 0 1 i = nI0 g i * nI0 g 2 := by
  obtain ⟨h3, h6, h7⟩ := hs
  unfold detI at hd
  rcases (show i = 0 ∨ i = 1 ∨ i = 2 by omega) with rfl | rfl | rfl <;> simp [crs, nI0] <;> grind
theorem jac1 {g : Nat → Int} (hs : symm3 g) (hd : detI g = 0) {i : Nat} (hi : i < 3) : crs g 0 2 i * crs g 0 2 i = nI0 g i * nI0 g 1 := by
  obtain ⟨h3, h6, h7⟩ := hs
  unfold detI at hd
  rcases (show i = 0 ∨ i = 1 ∨ i = 2 by omega) with rfl | rfl | rfl <;> simp [crs, nI0] <;> grind
theorem jac0 {g : Nat → Int} (hs : symm3 g) (hd : detI g = 0) {i : Nat} (hi : i < 3) : crs g 1 2 i * crs g 1 2 i = nI0 g i * nI0 g 0 := by
  obtain ⟨h3, h6, h7⟩ := hs
  unfold detI at hd
  rcases (show i = 0 ∨ i = 1 ∨ i = 2 by omega) with rfl | rfl | rfl <;> simp [crs, nI0] <;> grind
theorem sq0 {a : Int} (h : a * a = 0) : a = 0 := by rcases Int.mul_eq_zero.mp h with h | h <;> exact h
theorem nz_iff {g : Nat → Int} {p q k : Nat} (h : ∀ i, i < 3 → crs g p q i * crs g p q i = nI0 g i * nI0 g k) (hk : k < 3) : (nz g p q ↔ nI0 g k ≠ 0) ∧ (nI0 g k ≠ 0 → ∀ i, i < 3 → (crs g p q i = 0 ↔ nI0 g i = 0)) := by
  have key : nI0 g k ≠ 0 → ∀ i, i < 3 → (crs g p q i = 0 ↔ nI0 g i = 0) := by
    intro hk0 i hi
    have := h i hi
    constructor
    · intro e
      rw [e, Int.zero_mul] at this
      rcases Int.mul_eq_zero.mp this.symm with e | e
      · exact e
      · exact absurd e hk0
    · intro e
      rw [e, Int.zero_mul] at this
      exact sq0 this
  refine ⟨⟨fun hn e => ?_, fun hk0 => ?_⟩, key⟩
  · have z : ∀ i, i < 3 → crs g p q i = 0 := fun i hi => by
      have := h i hi
      rw [e, Int.mul_zero] at this
      exact sq0 this
    rcases hn with hn | hn | hn
    · exact hn (z 0 (by decide))
    · exact hn (z 1 (by decide))
    · exact hn (z 2 (by decide))
  · have : crs g p q k ≠ 0 := fun e => hk0 ((key hk0 k hk).mp e)
    rcases (show k = 0 ∨ k = 1 ∨ k = 2 by omega) with rfl | rfl | rfl
    · exact Or.inl this
    · exact Or.inr (Or.inl this)
    · exact Or.inr (Or.inr this)
theorem rk_2 {g : Nat → Int} (hd : detI g = 0) (h : nI0 g 0 ≠ 0 ∨ nI0 g 1 ≠ 0 ∨ nI0 g 2 ≠ 0) : rk0 g = 2 := by
  have l0 := rw0_le g 0
  have l1 := rw0_le g 1
  have l2 := rw0_le g 2
  unfold rk0
  rw [if_neg (fun h => h hd)]
  have e : ∀ i, nI0 g i ≠ 0 → rw0 g i = 2 := fun i hi => by unfold rw0; rw [if_pos hi]
  rcases h with h | h | h
  · rw [e 0 h]; omega
  · rw [e 1 h]; omega
  · rw [e 2 h]; omega
theorem rw_diag {g : Nat → Int} {i : Nat} (h : nI0 g i = 0) : rw0 g i = if (if i = 0 then g 4 else g 0) ≠ 0 ∨ (if i = 2 then g 4 else g 8) ≠ 0 then 1 else 0 := by
  unfold rw0; rw [if_neg (fun c => c h)]
theorem rw_diag_le {g : Nat → Int} {i : Nat} (h : nI0 g i = 0) : rw0 g i ≤ 1 := by
  rw [rw_diag h]
  by_cases h2 : (if i = 0 then g 4 else g 0) ≠ 0 ∨ (if i = 2 then g 4 else g 8) ≠ 0
  · rw [if_pos h2]; exact Nat.le_refl 1
  · rw [if_neg h2]; exact Nat.zero_le 1
theorem rk_1 {g : Nat → Int} (hd : detI g = 0) (h0 : nI0 g 0 = 0) (h1 : nI0 g 1 = 0) (h2 : nI0 g 2 = 0) : rk0 g = if g 0 ≠ 0 ∨ g 4 ≠ 0 ∨ g 8 ≠ 0 then 1 else 0 := by
  unfold rk0
  rw [if_neg (fun h => h hd), rw_diag h0, rw_diag h1, rw_diag h2]
  simp only [if_pos, if_neg, show ¬ (0 : Nat) = 2 by decide, show ¬ (1 : Nat) = 0 by decide, show ¬ (1 : Nat) = 2 by decide, show ¬ (2 : Nat) = 0 by decide, if_false, if_true]
  by_cases a : g 0 = 0 <;> by_cases b : g 4 = 0 <;> by_cases c : g 8 = 0 <;> simp [a, b, c]
theorem off_0 {g : Nat → Int} (hs : symm3 g) (h0 : nI0 g 0 = 0) (h1 : nI0 g 1 = 0) (h2 : nI0 g 2 = 0) : g 1 * g 1 = g 0 * g 4 ∧ g 2 * g 2 = g 0 * g 8 ∧ g 5 * g 5 = g 4 * g 8 := by
  simp [nI0] at h0 h1 h2
  exact ⟨by omega, by omega, by omega⟩
theorem any9 {Q : Int32 → St → Prop} {A : Nat → Nat → Int32} {ls : Nat → Nat → Int64} {g : Nat → Int} (hr : rowL (ls 0) 9 g) (hs : small g 50700) (q1 : (∃ k, k < 9 ∧ g k ≠ 0) → Q 1 (A, ls)) (q0 : (∀ k, k < 9 → g k = 0) → Q 0 (A, ls)) : ∀ m k : Nat, k + m = 9 → (∀ y, y < k → g y = 0) → f_X8_rankNow_b42 Q (m + 1) (nI k) (A, ls) := by
  intro m
  induction m with
  | zero =>
    intro k hk hz
    unfold f_X8_rankNow_b42
    exact bt (by rw [show k = 9 by omega]; decide) (q0 (fun y hy => hz y (by omega)))
  | succ m ih =>
    intro k hk hz
    unfold f_X8_rankNow_b42
    rw [nI_1, nI_clamp (by omega)]
    refine bf (nI_ge (a := k) (b := 9) (by omega) (by decide)) ⟨vp_in_nI (by omega) (by decide), ?_⟩
    have b := hs k (by omega)
    rw [show ((A, ls) : St).2 0 k = LZ (g k) from hr k (by omega), LZ_0 (by omega)]
    by_cases e : g k = 0
    · refine bt e (nmx (ih (k + 1) (by omega) (fun y hy => ?_)))
      by_cases c : y = k
      · rw [c]; exact e
      · exact hz y (by omega)
    · exact bf e (q1 ⟨k, by omega, e⟩)
theorem sp_rkM {Q : Int32 → St → Prop} {A : Nat → Nat → Int32} {ls : Nat → Nat → Int64} {g : Nat → Int} (hr : rowL (ls 0) 9 g) (hs : small g 50700) (hy : symm3 g) (q : ∀ ls', (∀ z, z ≠ 2 → ls' z = ls z) → Q (nI (rk0 g)) (A, ls')) : f_X8_rankNow (A, ls) Q := by
  unfold f_X8_rankNow f_X8_weightNow f_X8_det
  show (_ = (0 : Int64) → _) ∧ _
  have e0 : ((A, ls) : St).2 0 = ls 0 := rfl
  rw [e0, detX_LZ hr, LZ_0 (det_i64 hs)]
  by_cases hd : detI g = 0
  · refine bt hd ?_
    have j2 := nz_iff (g := g) (p := 0) (q := 1) (k := 2) (fun i hi => jac2 hy hd hi) (by decide)
    have j1 := nz_iff (g := g) (p := 0) (q := 2) (k := 1) (fun i hi => jac1 hy hd hi) (by decide)
    have j0 := nz_iff (g := g) (p := 1) (q := 2) (k := 0) (fun i hi => jac0 hy hd hi) (by decide)
    refine sp_stands (i := 0) (j := 1) hr hs (by decide) (by decide) (fun hn ls1 a1 a2 => nt one_ne ?_) (fun hn2 ls1 a1 a2 => nf rfl ?_)
    · have := q ls1 a1
      rw [rk_2 hd (Or.inr (Or.inr (j2.1.mp hn)))] at this; exact this
    have hr1 : rowL (ls1 0) 9 g := by rw [a1 0 (by decide)]; exact hr
    refine sp_stands (i := 0) (j := 2) hr1 hs (by decide) (by decide) (fun hn ls2 b1 b2 => nt one_ne ?_) (fun hn1 ls2 b1 b2 => nf rfl ?_)
    · have := q ls2 (fun z hz => (b1 z hz).trans (a1 z hz))
      rw [rk_2 hd (Or.inr (Or.inl (j1.1.mp hn)))] at this; exact this
    have hr2 : rowL (ls2 0) 9 g := by rw [b1 0 (by decide)]; exact hr1
    refine sp_stands (i := 1) (j := 2) hr2 hs (by decide) (by decide) (fun hn ls3 c1 c2 => bf one_ne ?_) (fun hn0 ls3 c1 c2 => bt rfl ?_)
    · have := q ls3 (fun z hz => (c1 z hz).trans ((b1 z hz).trans (a1 z hz)))
      rw [rk_2 hd (Or.inl (j0.1.mp hn))] at this; exact this
    have hr3 : rowL (ls3 0) 9 g := by rw [c1 0 (by decide)]; exact hr2
    have z2 : nI0 g 2 = 0 := Classical.byContradiction (fun h => hn2 (j2.1.mpr h))
    have z1 : nI0 g 1 = 0 := Classical.byContradiction (fun h => hn1 (j1.1.mpr h))
    have z0 : nI0 g 0 = 0 := Classical.byContradiction (fun h => hn0 (j0.1.mpr h))
    have qq := q ls3 (fun z hz => (c1 z hz).trans ((b1 z hz).trans (a1 z hz)))
    rw [rk_1 hd z0 z1 z2] at qq
    obtain ⟨o1, o2, o5⟩ := off_0 hy z0 z1 z2
    refine ⟨10, any9 (g := g) hr3 hs (fun h => ?_) (fun h => ?_) 9 0 rfl (fun y hy => absurd hy (Nat.not_lt_zero y))⟩
    · rw [if_pos] at qq
      · exact qq
      · refine Classical.byContradiction (fun hc => ?_)
        have d0 : g 0 = 0 := Classical.byContradiction (fun h => hc (Or.inl h))
        have d4 : g 4 = 0 := Classical.byContradiction (fun h => hc (Or.inr (Or.inl h)))
        have d8 : g 8 = 0 := Classical.byContradiction (fun h => hc (Or.inr (Or.inr h)))
        have d1 : g 1 = 0 := sq0 (by rw [o1, d0, Int.zero_mul])
        have d2 : g 2 = 0 := sq0 (by rw [o2, d0, Int.zero_mul])
        have d5 : g 5 = 0 := sq0 (by rw [o5, d4, Int.zero_mul])
        obtain ⟨k, hk, hne⟩ := h
        have y3 := hy.1
        have y6 := hy.2.1
        have y7 := hy.2.2
        apply hne
        rcases (show k = 0 ∨ k = 1 ∨ k = 2 ∨ k = 3 ∨ k = 4 ∨ k = 5 ∨ k = 6 ∨ k = 7 ∨ k = 8 by omega) with rfl | rfl | rfl | rfl | rfl | rfl | rfl | rfl | rfl <;> omega
    · rw [if_neg] at qq
      · exact qq
      · intro hc
        rcases hc with hc | hc | hc
        · exact hc (h 0 (by decide))
        · exact hc (h 4 (by decide))
        · exact hc (h 8 (by decide))
  · refine bf hd ?_
    have := q ls (fun _ _ => rfl)
    unfold rk0 at this
    rw [if_pos hd] at this; exact this
theorem ob_rank : Ob_rank RelX := by
  intro σ τ hR
  obtain ⟨hLen, ⟨P, hP⟩, hCam, hLim, hShe, hLat, hCs⟩ := id hR
  obtain ⟨hy, hs⟩ := gT_ok hP
  unfold f_X7_rank
  refine sp_sumUsed hR hP (fun σ' hx r0 _ => sp_rkX r0 hs ?_)
  unfold f_X8_rank
  refine sp_findTable hR hP (fun τ' hm m0 _ => ?_)
  exact sp_rkM (A := τ'.1) (ls := τ'.2) m0 hs hy (fun ls' _ => ⟨rfl, hR.keep (M' := (τ'.1, ls')) hx hm⟩)
/-- told -/
def toldB (g : Nat → Int) (i : Nat) : Int32 := if rw0 g i < rk0 g then 1 else 0
theorem sp_tellsX {Q : Int32 → St → Prop} {σ : St} {g : Nat → Int} {i : Nat} (hr : rowL (σ.2 0) 9 g) (hs : small g 50700) (hi : i < 3) (q : Q (toldB g i) σ) : f_X6_tells (nI i) σ Q := by
  unfold f_X6_tells
  have l0 := rw0_le g i
  have l1 : rk0 g ≤ 3 := by
    have a0 := rw0_le g 0
    have a1 := rw0_le g 1
    have a2 := rw0_le g 2
    unfold rk0
    split <;> omega
  refine sp_rw hr hs hi (sp_rkX hr hs ?_)
  unfold toldB at q
  rw [nI_leI (by omega) (by omega)]
  by_cases h : rw0 g i < rk0 g
  · rw [if_pos h] at q; exact bf (by omega) q
  · rw [if_neg h] at q; exact bt (by omega) q
theorem told63 {Q : Int32 → St → Prop} {A : Nat → Nat → Int32} {ls : Nat → Nat → Int64} {g : Nat → Int} {i p q k : Nat} (hr : rowL (ls 2) 3 (crs g p q)) (hs : small g 50700) (hp : p < 3) (hq : q < 3) (hi : i < 3) (hk : nI0 g k ≠ 0) (hk3 : k < 3) (hd : detI g = 0) (hj : ∀ i, i < 3 → (crs g p q i = 0 ↔ nI0 g i = 0)) (hQ : Q (toldB g i) (A, ls)) : f_X8_told_b63 Q (nI i) (A, ls) := by
  unfold f_X8_told_b63
  rw [nI_clamp (by omega), show ((A, ls) : St).2 2 i = LZ (crs g p q i) from hr i hi, LZ_0 (crs_b hs hp hq), hj i hi]
  refine ⟨vp_in_nI hi (by decide), ?_⟩
  have r2 : rk0 g = 2 := rk_2 hd (by
    rcases (show k = 0 ∨ k = 1 ∨ k = 2 by omega) with rfl | rfl | rfl
    · exact Or.inl hk
    · exact Or.inr (Or.inl hk)
    · exact Or.inr (Or.inr hk))
  unfold toldB at hQ
  rw [r2] at hQ
  by_cases e : nI0 g i = 0
  · refine nf e ?_
    rw [if_pos] at hQ
    · exact hQ
    · have := rw_diag_le e; omega
  · refine nt e ?_
    rw [if_neg] at hQ
    · exact hQ
    · unfold rw0; rw [if_pos e]; omega
def b01 (b : Bool) : Int32 := if b = true then 1 else 0
def aloneTo (g : Nat → Int) (i r : Nat) : Nat → Bool
  | 0 => decide (g (3 * r + i) ≠ 0)
  | k + 1 => aloneTo g i r k && (decide (k = i) || decide (g (3 * r + k) = 0))
theorem alone_loop {Q : Int32 → St → Prop} {K : Int32 → Int32 → St → Prop} {A : Nat → Nat → Int32} {ls : Nat → Nat → Int64} {g : Nat → Int} {i r : Nat} (hr : rowL (ls 0) 9 g) (hs : small g 50700) (hi : i < 3) (hr3 : r < 3) (q1 : aloneTo g i r 3 = true → Q 1 (A, ls)) (q0 : aloneTo g i r 3 = false → K (nI i) (nI (r + 1)) (A, ls)) : ∀ m k : Nat, k + m = 3 → f_X8_told_b118 Q K (m + 1) (nI i) (nI r) (b01 (aloneTo g i r k)) (nI k) (A, ls) := by
  intro m
  induction m with
  | zero =>
    intro k hk
    have : k = 3 := by omega
    subst this
    unfold f_X8_told_b118
    refine bt (by decide) ?_
    cases e : aloneTo g i r 3 with
    | false => exact bt rfl (nmx (by rw [nI_1]; exact q0 e))
    | true => exact bf (by decide) (q1 e)
  | succ m ih =>
    intro k hk
    unfold f_X8_told_b118
    rw [ix3, nI_1, nI_1, nI_clamp (by omega), nI_eq (by omega) (by omega)]
    have b := hs (3 * r + k) (by omega)
    rw [show ((A, ls) : St).2 0 (3 * r + k) = LZ (g (3 * r + k)) from hr _ (by omega), LZ_0 (by omega)]
    refine bf (nI_ge (a := k) (b := 3) (by omega) (by decide)) ?_
    have ih' := ih (k + 1) (by omega)
    unfold aloneTo at ih'
    cases e : aloneTo g i r k with
    | false => 
      rw [e] at ih'
      exact bt rfl (nmx ih')
    | true =>
      rw [e] at ih'
      refine bf (by decide) ?_
      by_cases c : k = i
      · simp only [c, decide_true, Bool.true_or, Bool.and_true] at ih'
        exact bt c (nmx (by rw [c]; exact ih'))
      · simp only [c, decide_false, Bool.false_or, Bool.true_and] at ih'
        refine bf c ⟨vp_in_nI (by omega) (by decide), ?_⟩
        by_cases z : g (3 * r + k) = 0
        · simp only [z, decide_true] at ih'
          exact nf z (nmx ih')
        · simp only [z, decide_false] at ih'
          exact nt z (nmx ih')
theorem row_loop {Q : Int32 → St → Prop} {A : Nat → Nat → Int32} {ls : Nat → Nat → Int64} {g : Nat → Int} {i : Nat} (hr : rowL (ls 0) 9 g) (hs : small g 50700) (hi : i < 3) (q1 : (∃ r, r < 3 ∧ aloneTo g i r 3 = true) → Q 1 (A, ls)) (q0 : (∀ r, r < 3 → aloneTo g i r 3 = false) → Q 0 (A, ls)) : ∀ m r : Nat, r + m = 3 → (∀ y, y < r → aloneTo g i y 3 = false) → f_X8_told_b88 Q (m + 1) (nI i) (nI r) (A, ls) := by
  intro m
  induction m with
  | zero =>
    intro r hm hz
    unfold f_X8_told_b88
    exact bt (by rw [show r = 3 by omega]; decide) (q0 (fun y hy => hz y (by omega)))
  | succ m ih =>
    intro r hm hz
    unfold f_X8_told_b88
    rw [ix3, nI_clamp (by omega)]
    refine bf (nI_ge (a := r) (b := 3) (by omega) (by decide)) ⟨vp_in_nI (by omega) (by decide), ?_⟩
    have b := hs (3 * r + i) (by omega)
    rw [show ((A, ls) : St).2 0 (3 * r + i) = LZ (g (3 * r + i)) from hr _ (by omega), LZ_0 (by omega)]
    have al := alone_loop (Q := Q) (K := fun a1 a3 σ => f_X8_told_b88 Q (m + 1) a1 a3 σ) hr hs hi (show r < 3 by omega) (fun h => q1 ⟨r, by omega, h⟩) (fun h => ih (r + 1) (by omega) (fun y hy => by
      by_cases c : y = r
      · rw [c]; exact h
      · exact hz y (by omega))) 3 0 rfl
    unfold aloneTo at al
    by_cases z : g (3 * r + i) = 0
    · simp only [z, ne_eq, not_true, decide_false] at al
      exact bt z ⟨4, al⟩
    · simp only [z, ne_eq, not_false_eq_true, decide_true] at al
      exact bf z ⟨4, al⟩
theorem alone_3 {g : Nat → Int} {i r : Nat} : aloneTo g i r 3 = true ↔ g (3 * r + i) ≠ 0 ∧ ∀ k, k < 3 → k ≠ i → g (3 * r + k) = 0 := by
  unfold aloneTo aloneTo aloneTo aloneTo
  simp only [Bool.and_eq_true, Bool.or_eq_true, decide_eq_true_eq]
  constructor
  · rintro ⟨⟨⟨h, h0⟩, h1⟩, h2⟩
    refine ⟨h, fun k hk hne => ?_⟩
    rcases (show k = 0 ∨ k = 1 ∨ k = 2 by omega) with rfl | rfl | rfl
    · exact h0.resolve_left hne
    · exact h1.resolve_left hne
    · exact h2.resolve_left hne
  · rintro ⟨h, hk⟩
    refine ⟨⟨⟨h, ?_⟩, ?_⟩, ?_⟩
    · by_cases c : 0 = i
      · exact Or.inl c
      · exact Or.inr (hk 0 (by decide) c)
    · by_cases c : 1 = i
      · exact Or.inl c
      · exact Or.inr (hk 1 (by decide) c)
    · by_cases c : 2 = i
      · exact Or.inl c
      · exact Or.inr (hk 2 (by decide) c)
/-- at rank 1 a length is told only where it stands alone -/
theorem alone_told {g : Nat → Int} {i : Nat} (hs : symm3 g) (hd : detI g = 0) (h0 : nI0 g 0 = 0) (h1 : nI0 g 1 = 0) (h2 : nI0 g 2 = 0) (hi : i < 3) : (∃ r, r < 3 ∧ aloneTo g i r 3 = true) ↔ rw0 g i < rk0 g := by
  obtain ⟨o1, o2, o5⟩ := off_0 hs h0 h1 h2
  obtain ⟨y3, y6, y7⟩ := hs
  rw [rk_1 hd h0 h1 h2]
  have hz : nI0 g i = 0 := by
    rcases (show i = 0 ∨ i = 1 ∨ i = 2 by omega) with rfl | rfl | rfl
    · exact h0
    · exact h1
    · exact h2
  rw [rw_diag hz]
  by_cases a : g 0 = 0
  all_goals by_cases b : g 4 = 0
  all_goals by_cases c : g 8 = 0
  all_goals
    have d1 : g 1 = 0 ↔ g 0 = 0 ∨ g 4 = 0 := by
      rw [← Int.mul_eq_zero, ← o1]; exact ⟨fun h => by rw [h]; rfl, sq0⟩
    have d2 : g 2 = 0 ↔ g 0 = 0 ∨ g 8 = 0 := by
      rw [← Int.mul_eq_zero, ← o2]; exact ⟨fun h => by rw [h]; rfl, sq0⟩
    have d5 : g 5 = 0 ↔ g 4 = 0 ∨ g 8 = 0 := by
      rw [← Int.mul_eq_zero, ← o5]; exact ⟨fun h => by rw [h]; rfl, sq0⟩
    have e3 : ∀ p : Nat → Prop, (∃ r, r < 3 ∧ p r) ↔ p 0 ∨ p 1 ∨ p 2 := fun p => ⟨fun ⟨r, hr, h⟩ => by
      rcases (show r = 0 ∨ r = 1 ∨ r = 2 by omega) with rfl | rfl | rfl
      · exact Or.inl h
      · exact Or.inr (Or.inl h)
      · exact Or.inr (Or.inr h), fun h => by
      rcases h with h | h | h
      · exact ⟨0, by decide, h⟩
      · exact ⟨1, by decide, h⟩
      · exact ⟨2, by decide, h⟩⟩
    have e4 : ∀ p : Nat → Prop, (∀ r, r < 3 → p r) ↔ p 0 ∧ p 1 ∧ p 2 := fun p => ⟨fun h => ⟨h 0 (by decide), h 1 (by decide), h 2 (by decide)⟩, fun ⟨x, y, z⟩ r hr => by
      rcases (show r = 0 ∨ r = 1 ∨ r = 2 by omega) with rfl | rfl | rfl
      · exact x
      · exact y
      · exact z⟩
    rw [e3]
    simp only [alone_3, e4]
    rcases (show i = 0 ∨ i = 1 ∨ i = 2 by omega) with rfl | rfl | rfl <;> simp [y3, y6, y7, d1, d2, d5, a, b, c]
theorem sp_toldM {Q : Int32 → St → Prop} {A : Nat → Nat → Int32} {ls : Nat → Nat → Int64} {g : Nat → Int} {i : Nat} (hr : rowL (ls 0) 9 g) (hs : small g 50700) (hy : symm3 g) (hi : i < 3) (q : ∀ ls', Q (toldB g i) (A, ls')) : f_X8_rankNow (A, ls) (fun r5 σ6 => ((¬ r5 = (3 : Int32)) → ((¬ r5 = (2 : Int32)) → ∃ n16 : Nat, f_X8_told_b88 Q n16 (nI i) (0 : Int32) σ6) ∧ (r5 = (2 : Int32) → f_X8_stands (0 : Int32) (1 : Int32) σ6 (fun r17 σ18 => ((¬ r17 = 0) → f_X8_told_b63 Q (nI i) σ18) ∧ (r17 = 0 → f_X8_stands (0 : Int32) (2 : Int32) σ18 (fun r20 σ21 => ((¬ r20 = 0) → f_X8_told_b63 Q (nI i) σ21) ∧ (r20 = 0 → f_X8_stands (1 : Int32) (2 : Int32) σ21 (fun r22 σ23 => (r22 = 0 → vp_in (nI i) 3 ∧ ((¬ (σ23.2 2 (Int32.toNatClampNeg (nI i))) = (0 : Int64)) → Q (0 : Int32) σ23) ∧ ((σ23.2 2 (Int32.toNatClampNeg (nI i))) = (0 : Int64) → Q (1 : Int32) σ23)) ∧ ((¬ r22 = 0) → f_X8_told_b63 Q (nI i) σ23)))))))) ∧ (r5 = (3 : Int32) → Q (1 : Int32) σ6)) := by
  refine sp_rkM hr hs hy (fun ls0 k0 => ?_)
  have hr0 : rowL (ls0 0) 9 g := by rw [k0 0 (by decide)]; exact hr
  by_cases hd : detI g = 0
  · have j2 := nz_iff (g := g) (p := 0) (q := 1) (k := 2) (fun i hi => jac2 hy hd hi) (by decide)
    have j1 := nz_iff (g := g) (p := 0) (q := 2) (k := 1) (fun i hi => jac1 hy hd hi) (by decide)
    have j0 := nz_iff (g := g) (p := 1) (q := 2) (k := 0) (fun i hi => jac0 hy hd hi) (by decide)
    by_cases any : nI0 g 0 ≠ 0 ∨ nI0 g 1 ≠ 0 ∨ nI0 g 2 ≠ 0
    · rw [rk_2 hd any]
      refine nt (by decide) (nf rfl ?_)
      refine sp_stands (i := 0) (j := 1) hr0 hs (by decide) (by decide) (fun hn ls1 a1 a2 => nt one_ne ?_) (fun hn2 ls1 a1 a2 => nf rfl ?_)
      · exact told63 (p := 0) (q := 1) (k := 2) a2 hs (by decide) (by decide) hi (j2.1.mp hn) (by decide) hd (j2.2 (j2.1.mp hn)) (q _)
      have hr1 : rowL (ls1 0) 9 g := by rw [a1 0 (by decide)]; exact hr0
      refine sp_stands (i := 0) (j := 2) hr1 hs (by decide) (by decide) (fun hn ls2 b1 b2 => nt one_ne ?_) (fun hn1 ls2 b1 b2 => nf rfl ?_)
      · exact told63 (p := 0) (q := 2) (k := 1) b2 hs (by decide) (by decide) hi (j1.1.mp hn) (by decide) hd (j1.2 (j1.1.mp hn)) (q _)
      have hr2 : rowL (ls2 0) 9 g := by rw [b1 0 (by decide)]; exact hr1
      refine sp_stands (i := 1) (j := 2) hr2 hs (by decide) (by decide) (fun hn ls3 c1 c2 => bf one_ne ?_) (fun hn0 ls3 c1 c2 => ?_)
      · exact told63 (p := 1) (q := 2) (k := 0) c2 hs (by decide) (by decide) hi (j0.1.mp hn) (by decide) hd (j0.2 (j0.1.mp hn)) (q _)
      · exfalso
        rcases any with h | h | h
        · exact hn0 (j0.1.mpr h)
        · exact hn1 (j1.1.mpr h)
        · exact hn2 (j2.1.mpr h)
    · have z0 : nI0 g 0 = 0 := Classical.byContradiction (fun h => any (Or.inl h))
      have z1 : nI0 g 1 = 0 := Classical.byContradiction (fun h => any (Or.inr (Or.inl h)))
      have z2 : nI0 g 2 = 0 := Classical.byContradiction (fun h => any (Or.inr (Or.inr h)))
      have rk1 := rk_1 hd z0 z1 z2
      have le1 : rk0 g ≤ 1 := by rw [rk1]; split <;> omega
      have at' := alone_told hy hd z0 z1 z2 hi
      have n3 : ¬ nI (rk0 g) = (3 : Int32) := by
        rw [show (3 : Int32) = nI 3 from rfl, nI_eq (by omega) (by decide)]; omega
      have n2 : ¬ nI (rk0 g) = (2 : Int32) := by
        rw [show (2 : Int32) = nI 2 from rfl, nI_eq (by omega) (by decide)]; omega
      refine nt n3 (nt n2 ⟨4, ?_⟩)
      have qq := q ls0
      unfold toldB at qq
      refine row_loop hr0 hs hi (fun h => ?_) (fun h => ?_) 3 0 rfl (fun y hy => absurd hy (Nat.not_lt_zero y))
      · rw [if_pos (at'.mp h)] at qq; exact qq
      · rw [if_neg (fun c => ?_)] at qq
        · exact qq
        · obtain ⟨r, hr3, hr4⟩ := at'.mpr c
          rw [h r hr3] at hr4; cases hr4
  · have e3 : rk0 g = 3 := by unfold rk0; rw [if_pos hd]
    rw [e3]
    refine nf rfl ?_
    have qq := q ls0
    unfold toldB at qq
    rw [if_pos (by rw [e3]; have := rw0_le g i; omega)] at qq
    exact qq
theorem ob_told : Ob_told RelX := by
  intro σ τ a1 hR
  obtain ⟨hLen, ⟨P, hP⟩, hCam, hLim, hShe, hLat, hCs⟩ := id hR
  obtain ⟨hy, hs⟩ := gT_ok hP
  unfold f_X7_told
  by_cases h1 : inr a1 0 2
  · refine wX1 (a := 0) (b := 2) (by decide) (by decide) h1 (nt one_ne ?_)
    refine sp_sumUsed hR hP (fun σ' hx r0 _ => ?_)
    obtain ⟨i, hi, rfl⟩ := inr_nI (n := 2) h1 (by decide)
    refine sp_tellsX r0 hs (by omega) ?_
    have key : f_X8_told (nI i) τ (fun r2 v => toldB (gT σ P) i = r2 ∧ RelX σ' v) := by
      unfold f_X8_told
      refine wM1 (a := 0) (b := 2) (by decide) (by decide) h1 (nt one_ne ?_)
      refine sp_findTable hR hP (fun τ' hm m0 _ => ?_)
      exact sp_toldM (A := τ'.1) (ls := τ'.2) m0 hs hy (by omega) (fun ls' => ⟨rfl, hR.keep (M' := (τ'.1, ls')) hx hm⟩)
    revert key
    unfold toldB
    by_cases c : rw0 (gT σ P) i < rk0 (gT σ P)
    · rw [if_pos c]; intro key; exact bf (by decide) key
    · rw [if_neg c]; intro key; exact bt rfl key
  · refine wX0 (a := 0) (b := 2) (by decide) (by decide) h1 (nf rfl ?_)
    unfold f_X8_told
    exact wM0 (a := 0) (b := 2) (by decide) (by decide) h1 (nf rfl ⟨rfl, hR⟩)
