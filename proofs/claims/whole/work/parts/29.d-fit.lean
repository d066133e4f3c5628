/-! ===== the lengths that miss least; mend ===== -/
def qf (g : Nat → Int) (x y z : Int) : Int := g 0 * x * x + g 4 * y * y + g 8 * z * z + 2 * (g 1 * x * y + g 2 * x * z + g 5 * y * z)
theorem isq (a : Int) : 0 ≤ a * a := by
  rcases Int.le_total 0 a with h | h
  · exact Int.mul_nonneg h h
  · have := Int.mul_nonneg (show 0 ≤ -a by omega) (show 0 ≤ -a by omega)
    rwa [Int.neg_mul_neg] at this
theorem pI_qf (X : St) (i : Nat) (x y z : Int) : 0 ≤ qf (pI X i) x y z := by
  have e : qf (pI X i) x y z = (ccI 0 (hdX X i 0) * x + ccI 0 (hdX X i 1) * y + ccI 0 (hdX X i 2) * z) * (ccI 0 (hdX X i 0) * x + ccI 0 (hdX X i 1) * y + ccI 0 (hdX X i 2) * z) + (ccI 1 (hdX X i 0) * x + ccI 1 (hdX X i 1) * y + ccI 1 (hdX X i 2) * z) * (ccI 1 (hdX X i 0) * x + ccI 1 (hdX X i 1) * y + ccI 1 (hdX X i 2) * z) := by
    unfold qf pI pW
    simp only [Nat.reduceDiv, Nat.reduceMod]
    generalize ccI 0 (hdX X i 0) = a
    generalize ccI 0 (hdX X i 1) = b
    generalize ccI 0 (hdX X i 2) = c
    generalize ccI 1 (hdX X i 0) = d
    generalize ccI 1 (hdX X i 1) = e
    generalize ccI 1 (hdX X i 2) = f
    grind
  rw [e]
  exact Int.add_nonneg (isq _) (isq _)
theorem gU_qf (X : St) (l : List Nat) (x y z : Int) : ∀ u, 0 ≤ qf (gU X l u) x y z := by
  intro u
  induction u with
  | zero => unfold qf gU; simp
  | succ u ih =>
    have e : qf (gU X l (u + 1)) x y z = qf (gU X l u) x y z + qf (pI X (l.getD u 0)) x y z := by
      unfold qf
      simp only [gU]
      generalize gU X l u = p
      generalize pI X (l.getD u 0) = q
      grind
    rw [e]
    exact Int.add_nonneg ih (pI_qf X _ x y z)
theorem lin0 {m f : Int} (h : ∀ t : Int, 0 ≤ 2 * (t * m) + f) : m = 0 := by
  refine Classical.byContradiction (fun hm => ?_)
  have hf : 0 ≤ f := by have := h 0; omega
  have h1 := h (-((f + 1) * m))
  have h2 : 1 ≤ m * m := by
    have := isq m
    have h3 : m * m ≠ 0 := fun e => hm (sq0 e)
    omega
  have h3 : (f + 1) * 1 ≤ (f + 1) * (m * m) := Int.mul_le_mul_of_nonneg_left h2 (by omega)
  have h4 : -((f + 1) * m) * m = -((f + 1) * (m * m)) := by grind
  rw [h4] at h1
  omega
theorem det_nn {g : Nat → Int} (hs : symm3 g) (hq : ∀ x y z, 0 ≤ qf g x y z) : 0 ≤ detI g := by
  obtain ⟨h3, h6, h7⟩ := hs
  have ha : 0 ≤ g 0 := by have := hq 1 0 0; unfold qf at this; simp at this; exact this
  by_cases a0 : g 0 = 0
  · have b0 : g 1 = 0 := lin0 (f := g 4) (fun t => by have := hq t 1 0; unfold qf at this; rw [a0] at this; simp at this; have e : g 1 * t = t * g 1 := Int.mul_comm _ _; omega)
    have c0 : g 2 = 0 := lin0 (f := g 8) (fun t => by have := hq t 0 1; unfold qf at this; rw [a0] at this; simp at this; have e : g 2 * t = t * g 2 := Int.mul_comm _ _; omega)
    unfold detI
    rw [a0, b0, c0]; simp
  · have n22 : 0 ≤ g 0 * (g 0 * g 4 - g 1 * g 1) := by
      have := hq (-(g 1)) (g 0) 0
      have e : qf g (-(g 1)) (g 0) 0 = g 0 * (g 0 * g 4 - g 1 * g 1) := by unfold qf; grind
      rw [e] at this; exact this
    have n22' : 0 ≤ g 0 * g 4 - g 1 * g 1 := by
      refine Classical.byContradiction (fun hc => ?_)
      have := Int.mul_neg_of_pos_of_neg (show 0 < g 0 by omega) (show g 0 * g 4 - g 1 * g 1 < 0 by omega)
      omega
    by_cases z : g 0 * g 4 - g 1 * g 1 = 0
    · have m0 : g 0 * g 5 - g 1 * g 2 = 0 := lin0 (f := g 8) (fun t => by
        have := hq (t * -(g 1)) (t * g 0) 1
        have e : qf g (t * -(g 1)) (t * g 0) 1 = t * t * g 0 * (g 0 * g 4 - g 1 * g 1) + (2 * (t * (g 0 * g 5 - g 1 * g 2)) + g 8) := by unfold qf; grind
        rw [e, z, Int.mul_zero, Int.zero_add] at this; exact this)
      have j : detI g * g 0 = (g 0 * g 8 - g 2 * g 2) * (g 0 * g 4 - g 1 * g 1) - (g 0 * g 5 - g 1 * g 2) * (g 0 * g 5 - g 1 * g 2) := by unfold detI; rw [h3, h6, h7]; grind
      rw [z, m0] at j
      simp at j
      rcases Int.mul_eq_zero.mp j with j | j
      · omega
      · exact absurd j a0
    · have := hq (g 1 * g 5 - g 2 * g 4) (g 1 * g 2 - g 0 * g 5) (g 0 * g 4 - g 1 * g 1)
      have e : qf g (g 1 * g 5 - g 2 * g 4) (g 1 * g 2 - g 0 * g 5) (g 0 * g 4 - g 1 * g 1) = (g 0 * g 4 - g 1 * g 1) * detI g := by unfold qf detI; rw [h3, h6, h7]; grind
      rw [e] at this
      refine Classical.byContradiction (fun hc => ?_)
      have := Int.mul_neg_of_pos_of_neg (show 0 < g 0 * g 4 - g 1 * g 1 by omega) (show detI g < 0 by omega)
      omega
/-- division -/
theorem LZ_of (a : Int64) : a = LZ a.toInt := (Int64.ofInt_toInt a).symm
theorem tdv {z D : Int} (hD : 0 < D) : (z.tdiv D = z / D ∧ (0 ≤ z ∨ z / D * D = z)) ∨ (z.tdiv D = z / D + 1 ∧ ¬ 0 ≤ z ∧ ¬ z / D * D = z) := by
  rw [Int.tdiv_eq_ediv, Int.sign_eq_one_of_pos hD]
  have em := Int.mul_ediv_add_emod z D
  have cm : D * (z / D) = z / D * D := Int.mul_comm _ _
  by_cases h : 0 ≤ z
  · left; rw [if_pos (Or.inl h)]; exact ⟨by omega, Or.inl h⟩
  · by_cases h2 : D ∣ z
    · left; rw [if_pos (Or.inr h2)]
      exact ⟨by omega, Or.inr (Int.ediv_mul_cancel h2)⟩
    · right; rw [if_neg (by rintro (c | c); exact h c; exact h2 c)]
      refine ⟨rfl, h, fun c => h2 ⟨z / D, by omega⟩⟩
theorem div_L {a : Int64} {D : Int} (hD : 0 < D) (hD2 : D < 2 ^ 63) : a / LZ D = LZ (a.toInt.tdiv D) := by
  have hb : (LZ D).toInt = D := LZ_toInt (by omega)
  have ne : LZ D ≠ -1 := fun e => by
    have := congrArg Int64.toInt e
    rw [hb] at this
    have : (-1 : Int64).toInt = -1 := by decide
    omega
  have := Int64.toInt_div_of_ne_right a (LZ D) ne
  rw [hb] at this
  rw [LZ_of (a / LZ D), this]
theorem qb {z D : Int} (hD : 0 < D) (hz : -(2 ^ 63) ≤ z ∧ z < 2 ^ 63) : -(2 ^ 63) ≤ z / D ∧ z / D < 2 ^ 63 ∧ z / D * D ≤ z ∧ z < (z / D + 1) * D ∧ z % D = z - z / D * D ∧ 0 ≤ z % D ∧ z % D < D := by
  have em := Int.mul_ediv_add_emod z D
  have cm : D * (z / D) = z / D * D := Int.mul_comm _ _
  have e1 := Int.emod_nonneg z (show D ≠ 0 by omega)
  have e2 := Int.emod_lt_of_pos z hD
  have e3 : (z / D + 1) * D = z / D * D + D := by grind
  refine ⟨?_, ?_, by omega, by omega, by omega, e1, e2⟩
  · refine Classical.byContradiction (fun hc => ?_)
    have h1 : (z / D + 1) * D ≤ (z / D + 1) * 1 := Int.mul_le_mul_of_nonpos_left (show z / D + 1 ≤ 0 by omega) (show (1 : Int) ≤ D by omega)
    omega
  · refine Classical.byContradiction (fun hc => ?_)
    have h1 : z / D * 1 ≤ z / D * D := Int.mul_le_mul_of_nonneg_left (show (1 : Int) ≤ D by omega) (by omega)
    omega
theorem xor_s (a b : Int64) (hb : 0 ≤ b.toInt) : (0 : Int64) ≤ (a ^^^ b) ↔ 0 ≤ a.toInt := by
  rw [i64_le, show (0 : Int64).toInt = 0 from rfl, ← Int64.toInt_toBitVec, ← Int64.toInt_toBitVec a]
  have h := BitVec.msb_xor (x := a.toBitVec) (y := b.toBitVec)
  rw [BitVec.msb_eq_toInt, BitVec.msb_eq_toInt, BitVec.msb_eq_toInt] at h
  rw [Int64.toBitVec_xor]
  have hb' : decide (b.toBitVec.toInt < 0) = false := by rw [Int64.toInt_toBitVec]; exact decide_eq_false (by omega)
  rw [hb', Bool.xor_false] at h
  have := decide_eq_decide.mp h
  omega
theorem sp_floor {Q : Int64 → St → Prop} {a : Int64} {D : Int} {σ : St} (hD : 0 < D) (hD2 : D < 2 ^ 63) (q : Q (LZ (a.toInt / D)) σ) : f_J9_floorDiv_f86c9 a (LZ D) σ Q := by
  unfold f_J9_floorDiv_f86c9
  have hz : -(2 ^ 63) ≤ a.toInt ∧ a.toInt < 2 ^ 63 := ⟨Int64.le_toInt a, Int64.toInt_lt a⟩
  obtain ⟨b1, b2, b3, b4, b5, b6, b7⟩ := qb hD hz
  have hb : (LZ D).toInt = D := LZ_toInt (by omega)
  refine ⟨fun e => ?_, nmx ?_⟩
  · rw [LZ_0 (by omega)] at e; omega
  rw [xor_s _ _ (by omega), div_L hD hD2]
  have e3 : (a.toInt / D + 1) * D = a.toInt / D * D + D := by grind
  rcases tdv (z := a.toInt) hD with ⟨t1, t2⟩ | ⟨t1, t2, t3⟩
  · rw [t1]
    by_cases c : 0 ≤ a.toInt
    · exact bt c q
    · refine bf c (bt ?_ q)
      rcases t2 with t2 | t2
      · exact absurd t2 c
      · rw [LZ_mul, t2]; exact (LZ_of a).symm
  · rw [t1]
    refine bf t2 (bf (fun e => ?_) ?_)
    · rw [LZ_mul, LZ_of a, LZ_eq, LZ_toInt hz] at e
      · omega
      · rw [LZ_toInt hz]; omega
      · exact hz
    · rw [show (1 : Int64) = LZ 1 from rfl, LZ_sub, show a.toInt / D + 1 - 1 = a.toInt / D by omega]; exact q
def fitV (z D : Int) : Int64 := (6500 : Int64) * LZ (z / D) + LZ (6500 * (z % D) / D)
theorem rest_i {a : Int64} {D : Int} (hD : 0 < D) (hD2 : 6500 * D < 2 ^ 63) : (6500 : Int64) * (a - LZ (a.toInt / D) * LZ D) = LZ (6500 * (a.toInt % D)) ∧ (LZ (6500 * (a.toInt % D))).toInt = 6500 * (a.toInt % D) ∧ 0 ≤ a.toInt % D := by
  have hz : -(2 ^ 63) ≤ a.toInt ∧ a.toInt < 2 ^ 63 := ⟨Int64.le_toInt a, Int64.toInt_lt a⟩
  obtain ⟨b1, b2, b3, b4, b5, b6, b7⟩ := qb hD hz
  refine ⟨?_, LZ_toInt (by omega), b6⟩
  rw [show (6500 : Int64) = LZ 6500 from rfl, LZ_mul]
  have : a - LZ (a.toInt / D * D) = LZ (a.toInt - a.toInt / D * D) := by rw [← LZ_sub]; congr 1; exact LZ_of a
  rw [this, LZ_mul, b5]
theorem sp_fitM {Q : Int64 → St → Prop} {a : Int64} {D : Int} {σ : St} (hD : 0 < D) (hD2 : 6500 * D < 2 ^ 63) (q : Q (fitV a.toInt D) σ) : f_X8_fitOf_b197 Q (LZ D) a σ := by
  unfold f_X8_fitOf_b197
  have hz : -(2 ^ 63) ≤ a.toInt ∧ a.toInt < 2 ^ 63 := ⟨Int64.le_toInt a, Int64.toInt_lt a⟩
  obtain ⟨b1, b2, b3, b4, b5, b6, b7⟩ := qb hD hz
  have hb : (LZ D).toInt = D := LZ_toInt (by omega)
  have ne : ¬ LZ D = 0 := fun e => by rw [LZ_0 (by omega)] at e; omega
  have e3 : (a.toInt / D + 1) * D = a.toInt / D * D + D := by grind
  obtain ⟨r1, r2, r3⟩ := rest_i (a := a) hD hD2
  have fin : (6500 : Int64) * LZ (a.toInt / D) + (6500 : Int64) * (a - LZ (a.toInt / D) * LZ D) / LZ D = fitV a.toInt D := by
    unfold fitV
    rw [r1, div_L hD (by omega), r2, Int.tdiv_eq_ediv_of_nonneg (by omega)]
  refine ⟨ne, nmx ?_⟩
  rw [div_L hD (by omega)]
  rcases tdv (z := a.toInt) hD with ⟨t1, t2⟩ | ⟨t1, t2, t3⟩
  · rw [t1]
    refine bt ?_ ⟨ne, ?_⟩
    · rw [LZ_mul, i64_le, LZ_toInt]
      · exact b3
      · omega
    · rw [fin]; exact q
  · rw [t1]
    refine bf ?_ (nmx ⟨ne, ?_⟩)
    · rw [LZ_mul, i64_le, LZ_toInt]
      · omega
      · omega
    · rw [show (1 : Int64) = LZ 1 from rfl, LZ_sub, show a.toInt / D + 1 - 1 = a.toInt / D by omega, fin]; exact q
/-- a column put out by the right sides -/
def gC (g r : Nat → Int) (i x : Nat) : Int := if x % 3 = i then r (x / 3) else g x
theorem dwr_loop {Q : Int64 → St → Prop} {A : Nat → Nat → Int32} {g r : Nat → Int} {i : Nat} (hi : i < 3) : ∀ (m x : Nat) (ls : Nat → Nat → Int64), x + m = 9 → rowL (ls 0) 9 g → rowL (ls 1) 3 r → rowL (ls 2) x (gC g r i) → (∀ ls', (∀ z, z ≠ 2 → ls' z = ls z) → Q (LZ (detI (gC g r i))) (A, ls')) → f_X6_determinantWithRight_b2 Q (m + 1) (nI i) (nI x) (A, ls) := by
  intro m
  induction m with
  | zero =>
    intro x ls hx h0 h1 h2 hQ
    have : x = 9 := by omega
    subst this
    unfold f_X6_determinantWithRight_b2
    refine bt (by decide) ?_
    unfold f_X6_determinantOf_h
    have e2 : ((A, ls) : St).2 2 = ls 2 := rfl
    rw [e2, detX_LZ h2]
    exact hQ ls (fun _ _ => rfl)
  | succ m ih =>
    intro x ls hx h0 h1 h2 hQ
    have step : ∀ v : Int64, v = LZ (gC g r i x) → f_X6_determinantWithRight_b2 Q (m + 1) (nI i) (nI (x + 1)) (A, lu ls 2 x v) := by
      intro v hv
      refine ih (x + 1) _ (by omega) ?_ ?_ (fun y hy => ?_) (fun ls' k => hQ ls' (fun z hz => (k z hz).trans (lu_at hz)))
      · rw [lu_at (by decide)]; exact h0
      · rw [lu_at (by decide)]; exact h1
      · rw [lu_on]
        by_cases e : y = x
        · subst e; rw [pk_uLs]; exact hv
        · rw [pk_uLn e]; exact h2 y (by omega)
    unfold f_X6_determinantWithRight_b2
    rw [show nI x - nI x / 3 * 3 = nI (x % 3) from pk_rem (a := x) (d := 3) (by omega) (by decide) (by decide), show nI x / 3 = nI (x / 3) from pk_div (a := x) (d := 3) (by omega) (by decide) (by decide), nI_eq (by omega) (by omega), nI_clamp (by omega), nI_clamp (by omega), nI_1]
    refine bf (nI_ge (a := x) (b := 9) (by omega) (by decide)) ?_
    have hin : vp_in (nI x) 9 := vp_in_nI (by omega) (by decide)
    by_cases c : x % 3 = i
    · refine nf c ⟨vp_in_nI (by omega) (by decide), hin, nmx (nmx ?_)⟩
      rw [sL_pair]
      refine step _ ?_
      unfold gC; rw [if_pos c]; exact h1 _ (by omega)
    · refine nt c ⟨hin, hin, nmx (nmx ?_)⟩
      rw [sL_pair]
      refine step _ ?_
      unfold gC; rw [if_neg c]; exact h0 _ (by omega)
def okD (g : Nat → Int) : Prop := 0 < detI g ∧ 6500 * detI g < 2 ^ 63
def fitG (g r : Nat → Int) (i : Nat) : Int64 := fitV (LZ (detI (gC g r i))).toInt (detI g)
theorem sp_fitX {Q : Int64 → St → Prop} {A : Nat → Nat → Int32} {ls : Nat → Nat → Int64} {g r : Nat → Int} {i : Nat} (hi : i < 3) (h0 : rowL (ls 0) 9 g) (h1 : rowL (ls 1) 3 r) (hd : okD g) (q : ∀ ls', (∀ z, z ≠ 2 → ls' z = ls z) → Q (fitG g r i) (A, ls')) : f_X6_fitted (nI i) (A, ls) Q := by
  obtain ⟨d1, d2⟩ := hd
  unfold f_X6_fitted
  refine sp_detX (σ := (A, ls)) h0 (nt (fun e => ?_) ?_)
  · rw [LZ_0 (by omega)] at e; omega
  unfold f_X6_determinantWithRight
  refine ⟨10, dwr_loop hi 9 0 ls rfl h0 h1 (fun y hy => absurd hy (Nat.not_lt_zero y)) (fun ls' k => ?_)⟩
  obtain ⟨r1, r2, r3⟩ := rest_i (a := LZ (detI (gC g r i))) d1 d2
  refine sp_floor d1 (by omega) (nmx ?_)
  rw [r1]
  refine sp_floor d1 (by omega) ?_
  rw [r2]
  exact q ls' k
theorem sp_fitMM {Q : Int64 → St → Prop} {A : Nat → Nat → Int32} {ls : Nat → Nat → Int64} {g r : Nat → Int} {i : Nat} (hi : i < 3) (h0 : rowL (ls 0) 9 g) (h1 : rowL (ls 1) 3 r) (hd : okD g) (q : Q (fitG g r i) (A, ls)) : f_X8_fitOf (nI i) (A, ls) Q := by
  obtain ⟨d1, d2⟩ := hd
  unfold f_X8_fitOf f_X8_weightNow f_X8_det
  have e0 : ((A, ls) : St).2 0 = ls 0 := rfl
  have e1 : ((A, ls) : St).2 1 = ls 1 := rfl
  have z : ∀ {v : Int64}, v = LZ (detI (gC g r i)) → f_X8_fitOf_b197 Q (LZ (detI g)) v (A, ls) := fun hv => by
    rw [hv]; exact sp_fitM d1 d2 q
  show ((¬ nI i = 0) → _) ∧ _
  rw [e0, e1, detX_LZ h0]
  rcases (show i = 0 ∨ i = 1 ∨ i = 2 by omega) with rfl | rfl | rfl
  · refine nf rfl (z ?_)
    rw [h1 0 (by decide), h1 1 (by decide), h1 2 (by decide), h0 1 (by decide), h0 2 (by decide), h0 4 (by decide), h0 5 (by decide), h0 7 (by decide), h0 8 (by decide)]
    simp only [LZ_mul, LZ_sub, LZ_add]; rfl
  · refine nt (by decide) (nf rfl (z ?_))
    rw [h1 0 (by decide), h1 1 (by decide), h1 2 (by decide), h0 0 (by decide), h0 2 (by decide), h0 3 (by decide), h0 5 (by decide), h0 6 (by decide), h0 8 (by decide)]
    simp only [LZ_mul, LZ_sub, LZ_add]; rfl
  · refine nt (by decide) (nt (by decide) (z ?_))
    rw [h1 0 (by decide), h1 1 (by decide), h1 2 (by decide), h0 0 (by decide), h0 1 (by decide), h0 3 (by decide), h0 4 (by decide), h0 6 (by decide), h0 7 (by decide)]
    simp only [LZ_mul, LZ_sub, LZ_add]; rfl
theorem rk_le (g : Nat → Int) : rk0 g ≤ 3 := by
  have a0 := rw0_le g 0
  have a1 := rw0_le g 1
  have a2 := rw0_le g 2
  unfold rk0
  split <;> omega
theorem rk_3 (g : Nat → Int) : (3 : Int32) ≤ nI (rk0 g) ↔ detI g ≠ 0 := by
  have := rk_le g
  rw [nI_le_lit (n := 3) (c := 3) rfl (by omega) (by decide)]
  have a0 := rw0_le g 0
  have a1 := rw0_le g 1
  have a2 := rw0_le g 2
  unfold rk0
  by_cases h : detI g ≠ 0
  · rw [if_pos h]; exact ⟨fun _ => h, fun _ => Nat.le_refl 3⟩
  · rw [if_neg h]; exact ⟨fun c => by omega, fun c => absurd c h⟩
theorem gT_okD {X M : St} {P : Nat} (hP : rPos P X M) (h : detI (gT X P) ≠ 0) : okD (gT X P) := by
  obtain ⟨hy, hs⟩ := gT_ok hP
  have b := det_b hs (by decide)
  have n := det_nn hy (fun x y z => gU_qf X _ x y z _)
  exact ⟨by omega, by omega⟩
theorem ob_fit : Ob_fit RelX := by
  intro σ τ a1 hR
  obtain ⟨hLen, ⟨P, hP⟩, hCam, hLim, hShe, hLat, hCs⟩ := id hR
  obtain ⟨hy, hs⟩ := gT_ok hP
  unfold f_X7_fit
  by_cases h1 : inr a1 0 2
  · refine wX1 (a := 0) (b := 2) (by decide) (by decide) h1 (nt one_ne ?_)
    obtain ⟨i, hi, rfl⟩ := inr_nI (n := 2) h1 (by decide)
    refine sp_sumUsed hR hP (fun σ' hx r0 r1 => sp_rkX r0 hs ?_)
    rw [rk_3]
    have mm : ∀ (ls : Nat → Nat → Int64) (Q : Int64 → St → Prop), (∀ τ', eqM τ τ' → rowL (τ'.2 0) 9 (gT σ P) → rowL (τ'.2 1) 3 (gR σ P) → ((3 : Int32) ≤ nI (rk0 (gT σ P)) → f_X8_fitOf (nI i) τ' (fun r7 σ8 => Q r7 σ8)) ∧ ((¬ (3 : Int32) ≤ nI (rk0 (gT σ P))) → f_X8_no (-3 : Int32) τ' (fun r9 σ10 => Q r9 σ10))) → f_X8_fit (nI i) τ Q := by
      intro ls Q h
      unfold f_X8_fit
      refine wM1 (a := 0) (b := 2) (by decide) (by decide) h1 (nt one_ne ?_)
      refine sp_findTable hR hP (fun τ' hm m0 m1 => ?_)
      refine sp_rkM (A := τ'.1) (ls := τ'.2) m0 hs hy (fun ls' k => h (τ'.1, ls') hm ?_ ?_)
      · show rowL (ls' 0) 9 _; rw [k 0 (by decide)]; exact m0
      · show rowL (ls' 1) 3 _; rw [k 1 (by decide)]; exact m1
    by_cases d : detI (gT σ P) ≠ 0
    · refine bt d (sp_fitX (A := σ'.1) (ls := σ'.2) (by omega) r0 r1 (gT_okD hP d) (fun ls1 _ => mm ls1 _ (fun τ' hm m0 m1 => ?_)))
      rw [rk_3]
      exact bt d (sp_fitMM (A := τ'.1) (ls := τ'.2) (by omega) m0 m1 (gT_okD hP d) ⟨rfl, hR.keep (X' := (σ'.1, ls1)) hx hm⟩)
    · refine bf d (mm σ'.2 _ (fun τ' hm m0 m1 => ?_))
      rw [rk_3]
      refine bf d ?_
      unfold f_X8_no
      exact ⟨by decide, hR.keep hx hm⟩
  · refine wX0 (a := 0) (b := 2) (by decide) (by decide) h1 (nf rfl ?_)
    unfold f_X8_fit f_X8_no
    exact wM0 (a := 0) (b := 2) (by decide) (by decide) h1 (nf rfl ⟨by decide, hR⟩)
/-- mend -/
def mv (v : Int64) : Int32 := if v.toInt < 200 then 1 else if v.toInt < 99900 then nI (v.toInt / 100).toNat else 999
theorem mv_in (v : Int64) : ∃ n : Nat, 1 ≤ n ∧ n ≤ 999 ∧ mv v = nI n := by
  unfold mv
  by_cases a : v.toInt < 200
  · rw [if_pos a]; exact ⟨1, by decide, by decide, rfl⟩
  · rw [if_neg a]
    by_cases b : v.toInt < 99900
    · rw [if_pos b]; exact ⟨(v.toInt / 100).toNat, by omega, by omega, rfl⟩
    · rw [if_neg b]; exact ⟨999, by decide, by decide, rfl⟩
theorem LZ_32 {q : Int} (h : 0 ≤ q) : Int64.toInt32 (LZ q) = nI q.toNat := by
  rw [Int64.toInt32_ofInt]
  have : q = ((q.toNat : Nat) : Int) := by omega
  rw [this, Int32.ofInt_eq_ofNat]; rfl
theorem sp_mv {K : Int64 → St → Prop} {v : Int64} {σ : St} (q : ∀ r, Int64.toInt32 r = mv v → K r σ) : f_J9_floorDiv_f86c9 v (100 : Int64) σ (fun r7 σ8 => f_J9_min_f86c9 (999 : Int64) r7 σ8 (fun r9 σ10 => f_J9_max_f86c9 (1 : Int64) r9 σ10 K)) := by
  refine sp_floor (D := 100) (by decide) (by decide) ?_
  have hz : -(2 ^ 63) ≤ v.toInt ∧ v.toInt < 2 ^ 63 := ⟨Int64.le_toInt v, Int64.toInt_lt v⟩
  unfold f_J9_min_f86c9 f_J9_max_f86c9
  dsimp only
  rw [i64_lt, LZ_toInt (by omega), show (999 : Int64).toInt = 999 from rfl]
  unfold mv at q
  by_cases a : v.toInt < 200
  · rw [if_pos a] at q
    refine bt (by omega) ?_
    rw [i64_lt, LZ_toInt (by omega), show (1 : Int64).toInt = 1 from rfl]
    exact bf (by omega) (q _ rfl)
  · rw [if_neg a] at q
    by_cases b : v.toInt < 99900
    · rw [if_pos b] at q
      refine bt (by omega) ?_
      rw [i64_lt, LZ_toInt (by omega), show (1 : Int64).toInt = 1 from rfl]
      exact bt (by omega) (q _ (LZ_32 (by omega)))
    · rw [if_neg b] at q
      exact bf (by omega) (bt (by decide) (q _ rfl))
theorem mendX_loop {Q : Int32 → St → Prop} {A : Nat → Nat → Int32} {g r : Nat → Int} (hd : okD g) (hQ : ∀ A' ls', (∀ k, k ≠ 0 → A' k = A k) → (∀ j, j < 3 → A' 0 j = mv (fitG g r j + 50)) → Q 1 (A', ls')) : ∀ (m i : Nat) (A1 : Nat → Nat → Int32) (ls : Nat → Nat → Int64), i + m = 3 → rowL (ls 0) 9 g → rowL (ls 1) 3 r → (∀ k, k ≠ 0 → A1 k = A k) → (∀ j, j < i → A1 0 j = mv (fitG g r j + 50)) → f_X7_mend_b20 Q (m + 1) (nI i) (A1, ls) := by
  intro m
  induction m with
  | zero =>
    intro i A1 ls hi h0 h1 k1 k2
    unfold f_X7_mend_b20
    exact bt (by rw [show i = 3 by omega]; decide) (hQ A1 ls k1 (fun j hj => k2 j (by omega)))
  | succ m ih =>
    intro i A1 ls hi h0 h1 k1 k2
    unfold f_X7_mend_b20
    rw [nI_1]
    refine bf (nI_ge (a := i) (b := 3) (by omega) (by decide)) (sp_fitX (by omega) h0 h1 hd (fun ls' k => sp_mv (fun r' hr' => ⟨vp_in_nI (by omega) (by decide), nmx (nmx ?_)⟩)))
    rw [hr', nI_clamp (by omega)]
    refine ih (i + 1) (va_up A1 0 (upd (A1 0) i (mv (fitG g r i + 50)))) ls' (by omega) (by rw [k 0 (by decide)]; exact h0) (by rw [k 1 (by decide)]; exact h1) (fun z hz => ?_) (fun j hj => ?_)
    · have : (sI (A1, ls') 0 i (mv (fitG g r i + 50))).1 z = A1 z := sI_at hz
      exact this.trans (k1 z hz)
    · have : (sI (A1, ls') 0 i (mv (fitG g r i + 50))).1 0 = upd (A1 0) i (mv (fitG g r i + 50)) := sI_on
      show (sI (A1, ls') 0 i (mv (fitG g r i + 50))).1 0 j = _
      rw [this]
      by_cases e : j = i
      · subst e; rw [pk_us]
      · rw [pk_un e]; exact k2 j (by omega)
theorem mendM_loop {Q : Int32 → St → Prop} {A : Nat → Nat → Int32} {ls : Nat → Nat → Int64} {g r : Nat → Int} (hd : okD g) (h0 : rowL (ls 0) 9 g) (h1 : rowL (ls 1) 3 r) (hQ : ∀ A', (∀ k, k ≠ 0 → A' k = A k) → (∀ j, j < 3 → A' 0 j = mv (fitG g r j + 50)) → Q 1 (A', ls)) : ∀ (m i : Nat) (A1 : Nat → Nat → Int32), i + m = 3 → (∀ k, k ≠ 0 → A1 k = A k) → (∀ j, j < i → A1 0 j = mv (fitG g r j + 50)) → f_X8_mend_b17 Q (m + 1) (nI i) (A1, ls) := by
  intro m
  induction m with
  | zero =>
    intro i A1 hi k1 k2
    unfold f_X8_mend_b17
    exact bt (by rw [show i = 3 by omega]; decide) (hQ A1 k1 (fun j hj => k2 j (by omega)))
  | succ m ih =>
    intro i A1 hi k1 k2
    have step : f_X8_mend_b17 Q (m + 1) (nI (i + 1)) (sI (A1, ls) 0 i (mv (fitG g r i + 50))) := by
      refine ih (i + 1) (va_up A1 0 (upd (A1 0) i (mv (fitG g r i + 50)))) (by omega) (fun z hz => ?_) (fun j hj => ?_)
      · have : (sI (A1, ls) 0 i (mv (fitG g r i + 50))).1 z = A1 z := sI_at hz
        exact this.trans (k1 z hz)
      · have : (sI (A1, ls) 0 i (mv (fitG g r i + 50))).1 0 = upd (A1 0) i (mv (fitG g r i + 50)) := sI_on
        show (sI (A1, ls) 0 i (mv (fitG g r i + 50))).1 0 j = _
        rw [this]
        by_cases e : j = i
        · subst e; rw [pk_us]
        · rw [pk_un e]; exact k2 j (by omega)
    unfold f_X8_mend_b17
    rw [nI_1]
    refine bf (nI_ge (a := i) (b := 3) (by omega) (by decide)) (sp_fitMM (by omega) h0 h1 hd (nmx ?_))
    have hin : vp_in (nI i) 3 := vp_in_nI (by omega) (by decide)
    rw [nI_clamp (by omega)]
    revert step
    generalize fitG g r i + 50 = v
    intro step
    rw [i64_le, i64_lt, show (200 : Int64).toInt = 200 from rfl, show (99900 : Int64).toInt = 99900 from rfl]
    have hz : -(2 ^ 63) ≤ v.toInt ∧ v.toInt < 2 ^ 63 := ⟨Int64.le_toInt v, Int64.toInt_lt v⟩
    unfold mv at step
    by_cases a : v.toInt < 200
    · rw [if_pos a] at step
      exact bf (by omega) ⟨hin, nmx (nmx step)⟩
    · rw [if_neg a] at step
      refine bt (by omega) ?_
      by_cases b : v.toInt < 99900
      · rw [if_pos b] at step
        refine bt b ⟨hin, nmx (nmx ?_)⟩
        rw [show (100 : Int64) = LZ 100 from rfl, div_L (by decide) (by decide), Int.tdiv_eq_ediv_of_nonneg (by omega), LZ_32 (by omega)]
        exact step
      · rw [if_neg b] at step
        exact bf b ⟨hin, nmx (nmx step)⟩
theorem ob_mend : Ob_mend RelX := by
  intro σ τ hR
  obtain ⟨hLen, ⟨P, hP⟩, hCam, hLim, hShe, hLat, hCs⟩ := id hR
  obtain ⟨hy, hs⟩ := gT_ok hP
  unfold f_X7_mend
  refine sp_sumUsed hR hP (fun σ' hx r0 r1 => sp_rkX r0 hs ?_)
  rw [rk_3]
  have mm : ∀ (Q : Int32 → St → Prop), (∀ τ', eqM τ τ' → rowL (τ'.2 0) 9 (gT σ P) → rowL (τ'.2 1) 3 (gR σ P) → ((3 : Int32) ≤ nI (rk0 (gT σ P)) → ∃ n17 : Nat, f_X8_mend_b17 Q n17 (0 : Int32) τ') ∧ ((¬ (3 : Int32) ≤ nI (rk0 (gT σ P))) → Q (-3 : Int32) τ')) → f_X8_mend τ Q := by
    intro Q h
    unfold f_X8_mend
    refine sp_findTable hR hP (fun τ' hm m0 m1 => ?_)
    refine sp_rkM (A := τ'.1) (ls := τ'.2) m0 hs hy (fun ls' k => h (τ'.1, ls') hm ?_ ?_)
    · show rowL (ls' 0) 9 _; rw [k 0 (by decide)]; exact m0
    · show rowL (ls' 1) 3 _; rw [k 1 (by decide)]; exact m1
  by_cases d : detI (gT σ P) ≠ 0
  · have ok := gT_okD hP d
    refine bt d ⟨4, mendX_loop (A := σ'.1) ok (fun A' ls' a1 a2 => mm _ (fun τ' hm m0 m1 => ?_)) 3 0 σ'.1 σ'.2 rfl r0 r1 (fun _ _ => rfl) (fun j hj => absurd hj (Nat.not_lt_zero j))⟩
    rw [rk_3]
    refine bt d ⟨4, mendM_loop (A := τ'.1) (ls := τ'.2) ok m0 m1 (fun B b1 b2 => ⟨rfl, ?_⟩) 3 0 τ'.1 rfl (fun _ _ => rfl) (fun j hj => absurd hj (Nat.not_lt_zero j))⟩
    have hR2 : RelX σ' τ' := hR.keep hx hm
    obtain ⟨hLen, ⟨P, hP⟩, hCam, hLim, hShe, hLat, hCs⟩ := hR2
    refine ⟨fun i hi => ?_, ⟨P, hP.cg (a1 1 (by decide)) (a1 2 (by decide)) (a1 3 (by decide)) (a1 4 (by decide)) (b1 1 (by decide)) (b1 3 (by decide)) (b1 4 (by decide))⟩, ?_, ?_, ?_, ?_, ?_⟩
    · show A' 0 i = B 0 i ∧ ∃ v : Nat, 1 ≤ v ∧ v ≤ 999 ∧ A' 0 i = nI v
      rw [a2 i hi, b2 i hi]
      exact ⟨rfl, mv_in _⟩
    · exact hCam.cg (a1 6 (by decide)) (a1 7 (by decide)) (a1 8 (by decide)) (a1 9 (by decide)) (a1 10 (by decide)) (b1 6 (by decide)) (b1 7 (by decide)) (b1 8 (by decide)) (b1 9 (by decide)) (b1 10 (by decide))
    · exact hLim.cg (a1 11 (by decide)) (b1 19 (by decide)) (b1 20 (by decide))
    · exact hShe.cg (fun k hk => a1 k (by omega)) (b1 22 (by decide)) (b1 23 (by decide)) (b1 24 (by decide))
    · show A' 16 0 = B 16 0
      rw [a1 16 (by decide), b1 16 (by decide)]; exact hLat
    · exact hCs.cg (b1 18 (by decide))
  · refine bf d (mm _ (fun τ' hm m0 m1 => ?_))
    rw [rk_3]
    exact bf d ⟨rfl, hR.keep hx hm⟩
