/-! ===== the table, by exact sums ===== -/
def lu (ls : Nat → Nat → Int64) (k j : Nat) (v : Int64) : Nat → Nat → Int64 := va_up ls k (vp_updL (ls k) j v)
theorem sL_pair (A : Nat → Nat → Int32) (ls : Nat → Nat → Int64) (k j : Nat) (v : Int64) : sL (A, ls) k j v = (A, lu ls k j v) := rfl
theorem lu_on {ls : Nat → Nat → Int64} {k j : Nat} {v : Int64} : (lu ls k j v) k = vp_updL (ls k) j v := by simp [lu, va_up]
theorem lu_at {ls : Nat → Nat → Int64} {k k2 j : Nat} {v : Int64} (h : k2 ≠ k) : (lu ls k j v) k2 = ls k2 := by simp [lu, va_up, h]
abbrev LZ (z : Int) : Int64 := Int64.ofInt z
theorem LZ_add (a b : Int) : LZ a + LZ b = LZ (a + b) := (Int64.ofInt_add a b).symm
theorem LZ_sub (a b : Int) : LZ a - LZ b = LZ (a - b) := (Int64.ofInt_sub a b).symm
theorem LZ_mul (a b : Int) : LZ a * LZ b = LZ (a * b) := (Int64.ofInt_mul a b).symm
theorem wide_LZ (a : Int32) : Int32.toInt64 a = LZ a.toInt := (Int64.ofInt_int32ToInt a).symm
theorem LZ_toInt {z : Int} (h : -(2 ^ 63) ≤ z ∧ z < 2 ^ 63) : (LZ z).toInt = z := Int64.toInt_ofInt_of_le h.1 h.2
theorem LZ_eq {a b : Int} (ha : -(2 ^ 63) ≤ a ∧ a < 2 ^ 63) (hb : -(2 ^ 63) ≤ b ∧ b < 2 ^ 63) : LZ a = LZ b ↔ a = b := by
  refine ⟨fun h => ?_, fun h => by rw [h]⟩
  have := congrArg Int64.toInt h
  rwa [LZ_toInt ha, LZ_toInt hb] at this
theorem LZ_0 {a : Int} (ha : -(2 ^ 63) ≤ a ∧ a < 2 ^ 63) : LZ a = 0 ↔ a = 0 := LZ_eq (b := 0) ha (by decide)
def ccI (w h : Nat) : Int := (CS w h).toInt
def pW (X : St) (i w x : Nat) : Int := ccI w (hdX X i (x / 3)) * ccI w (hdX X i (x % 3))
def pI (X : St) (i x : Nat) : Int := pW X i 0 x + pW X i 1 x
def qW (X : St) (i w j : Nat) : Int := ccI w (hdX X i j) * (X.1 20 (2 * i + w)).toInt
def qI (X : St) (i j : Nat) : Int := qW X i 0 j + qW X i 1 j
theorem prd_toInt {h g : Nat} (hh : h < 36) (hg : g < 36) : (prd (nI h) (nI g)).toInt = ccI 0 h * ccI 0 g + ccI 1 h * ccI 1 g := by
  have a := mul_in (a := CS 0 h) (b := CS 0 g) (A := 65) (B := 65) (CS_b hh) (CS_b hg) (by decide) (by decide)
  have b := mul_in (a := CS 1 h) (b := CS 1 g) (A := 65) (B := 65) (CS_b hh) (CS_b hg) (by decide) (by decide)
  unfold prd
  rw [nI_clamp (by omega), nI_clamp (by omega)]
  show (CS 0 h * CS 0 g + CS 1 h * CS 1 g).toInt = _
  rw [add_in (by rw [a.1, b.1]; omega), a.1, b.1]; rfl
def prods (X : St) (i : Nat) : Prop := ∀ x, x < 9 → X.1 2 (9 * i + x) = prd (X.1 1 (3 * i + x / 3)) (X.1 1 (3 * i + x % 3))
theorem rPos.prods {P : Nat} {X M : St} (h : rPos P X M) {i : Nat} (hi : i < P) : prods X i := fun x hx => by
  have := h.2.2.2.2.1 i (x / 3) (x % 3) hi (by omega) (by omega)
  rw [← this, show 9 * i + 3 * (x / 3) + x % 3 = 9 * i + x by omega]
theorem prd_at {X : St} {i x : Nat} (hp : prods X i) (hh : hds X i) (hx : x < 9) : Int32.toInt64 (X.1 2 (9 * i + x)) = LZ (pI X i x) := by
  obtain ⟨a1, a2⟩ := hdX_lt hh (show x / 3 < 3 by omega)
  obtain ⟨b1, b2⟩ := hdX_lt hh (show x % 3 < 3 by omega)
  rw [hp x hx, wide_LZ, a2, b2, prd_toInt a1 b1]; rfl
def rowL (r : Nat → Int64) (n : Nat) (t : Nat → Int) : Prop := ∀ x, x < n → r x = LZ (t x)
theorem left_loop {Q : St → Prop} {X : St} {i : Nat} {t : Nat → Int} (hi : i < 20) (hp : prods X i) (hh : hds X i) : ∀ (m x : Nat) (ls : Nat → Nat → Int64), x + m = 9 → rowL (ls 0) 9 (fun y => t y + if y < x then pI X i y else 0) →
    (∀ ls', (∀ z, z ≠ 0 → ls' z = ls z) → rowL (ls' 0) 9 (fun y => t y + pI X i y) → Q (X.1, ls')) → f_X6_addLeft_b2 Q (m + 1) (nI i) (nI x) (X.1, ls) := by
  intro m
  induction m with
  | zero =>
    intro x ls hx hr hQ
    unfold f_X6_addLeft_b2
    refine bt (by rw [show x = 9 by omega]; decide) (hQ ls (fun _ _ => rfl) (fun y hy => ?_))
    have := hr y hy
    simp only [if_pos (show y < x by omega)] at this
    exact this
  | succ m ih =>
    intro x ls hx hr hQ
    unfold f_X6_addLeft_b2
    rw [show (9 : Int32) * nI i + nI x = nI (9 * i + x) by rw [show (9 : Int32) = nI 9 from rfl, pk_mul, nI_add], nI_clamp (by omega), nI_clamp (by omega), nI_1]
    refine bf (nI_ge (a := x) (b := 9) (by omega) (by decide)) ⟨vp_in_nI (by omega) (by decide), vp_in_nI (by omega) (by decide), vp_in_nI (by omega) (by decide), nmx (nmx ?_)⟩
    rw [sL_pair]
    refine ih (x + 1) _ (by omega) (fun y hy => ?_) (fun ls' h1 h2 => hQ ls' (fun z hz => (h1 z hz).trans (lu_at hz)) h2)
    rw [lu_on]
    by_cases e : y = x
    · subst e
      rw [pk_uLs]
      have := hr y hy
      simp only [if_neg (show ¬ y < y by omega), Int.add_zero] at this
      simp only [if_pos (show y < y + 1 by omega)]
      show ls 0 y + Int32.toInt64 (X.1 2 (9 * i + y)) = _
      rw [this, prd_at hp hh hy, LZ_add]
    · rw [pk_uLn e]
      have := hr y hy
      rw [this]
      by_cases c : y < x
      · simp only [if_pos c, if_pos (show y < x + 1 by omega)]
      · simp only [if_neg c, if_neg (show ¬ y < x + 1 by omega)]
theorem sp_left {Q : St → Prop} {X : St} {ls : Nat → Nat → Int64} {i : Nat} {t : Nat → Int} (hi : i < 20) (hp : prods X i) (hh : hds X i) (hr : rowL (ls 0) 9 t) (hQ : ∀ ls', (∀ z, z ≠ 0 → ls' z = ls z) → rowL (ls' 0) 9 (fun y => t y + pI X i y) → Q (X.1, ls')) : f_X6_addLeft (nI i) (X.1, ls) Q := by
  unfold f_X6_addLeft
  refine ⟨10, left_loop (t := t) hi hp hh 9 0 ls rfl (fun y hy => ?_) hQ⟩
  rw [hr y hy]; simp
theorem add1_loop {Q : St → Prop} {K2 : Int32 → Int32 → St → Prop} {K9 : Int32 → Int32 → Int32 → St → Prop} {X : St} {i w j : Nat} {t : Nat → Int} (hc : rCs X) (hi : i < 20) (hw : w < 2) (hj : j < 3) (hh : hds X i) : ∀ (m k : Nat) (ls : Nat → Nat → Int64), k + m = 3 → rowL (ls 0) 9 (fun y => t y + if y < 3 * j + k then pW X i w y else 0) →
    (∀ ls', (∀ z, z ≠ 0 → ls' z = ls z) → rowL (ls' 0) 9 (fun y => t y + if y < 3 * j + 3 then pW X i w y else 0) → K9 (nI i) (nI w) (nI (j + 1)) (X.1, ls')) → f_X8_adds_b17 Q K2 K9 (m + 1) (nI i) (nI w) (nI j) (nI k) (X.1, ls) := by
  intro m
  induction m with
  | zero =>
    intro k ls hk hr hQ
    have : k = 3 := by omega
    subst this
    unfold f_X8_adds_b17
    refine bt (by decide) (nmx ?_)
    rw [nI_1]
    exact hQ ls (fun _ _ => rfl) hr
  | succ m ih =>
    intro k ls hk hr hQ
    unfold f_X8_adds_b17
    rw [ix3, nI_clamp (by omega), nI_1, nI_1]
    refine bf (nI_ge (a := k) (b := 3) (by omega) (by decide)) ⟨vp_in_nI (by omega) (by decide), ?_⟩
    refine sp_partM (τ := (X.1, ls)) (j := j) hc hi hj hw hh (sp_partM (τ := (X.1, ls)) (j := k) hc hi (by omega) hw hh ⟨vp_in_nI (by omega) (by decide), nmx (nmx ?_)⟩)
    rw [sL_pair]
    refine ih (k + 1) _ (by omega) (fun y hy => ?_) (fun ls' h1 h2 => hQ ls' (fun z hz => (h1 z hz).trans (lu_at hz)) h2)
    rw [lu_on]
    by_cases e : y = 3 * j + k
    · subst e
      rw [pk_uLs]
      have := hr (3 * j + k) hy
      simp only [if_neg (show ¬ 3 * j + k < 3 * j + k by omega), Int.add_zero] at this
      simp only [if_pos (show 3 * j + k < 3 * j + (k + 1) by omega)]
      show ls 0 (3 * j + k) + Int32.toInt64 (CS w (hdX X i j)) * Int32.toInt64 (CS w (hdX X i k)) = _
      rw [this, wide_LZ, wide_LZ, LZ_mul, LZ_add]
      unfold pW ccI
      rw [show (3 * j + k) / 3 = j by omega, show (3 * j + k) % 3 = k by omega]
    · rw [pk_uLn e]
      have := hr y hy
      rw [this]
      by_cases c : y < 3 * j + k
      · simp only [if_pos c, if_pos (show y < 3 * j + (k + 1) by omega)]
      · simp only [if_neg c, if_neg (show ¬ y < 3 * j + (k + 1) by omega)]
theorem add2_loop {Q : St → Prop} {K2 : Int32 → Int32 → St → Prop} {X : St} {i w : Nat} {t : Nat → Int} (hc : rCs X) (hi : i < 20) (hw : w < 2) (hh : hds X i) : ∀ (m j : Nat) (ls : Nat → Nat → Int64), j + m = 3 → rowL (ls 0) 9 (fun y => t y + if y < 3 * j then pW X i w y else 0) →
    (∀ ls', (∀ z, z ≠ 0 → ls' z = ls z) → rowL (ls' 0) 9 (fun y => t y + pW X i w y) → K2 (nI i) (nI (w + 1)) (X.1, ls')) → f_X8_adds_b9 Q K2 (m + 1) (nI i) (nI w) (nI j) (X.1, ls) := by
  intro m
  induction m with
  | zero =>
    intro j ls hj hr hQ
    have : j = 3 := by omega
    subst this
    unfold f_X8_adds_b9
    refine bt (by decide) (nmx ?_)
    rw [nI_1]
    refine hQ ls (fun _ _ => rfl) (fun y hy => ?_)
    have := hr y hy
    simp only [if_pos (show y < 3 * 3 by omega)] at this
    exact this
  | succ m ih =>
    intro j ls hj hr hQ
    unfold f_X8_adds_b9
    refine bf (nI_ge (a := j) (b := 3) (by omega) (by decide)) ⟨4, ?_⟩
    rw [n0]
    refine add1_loop (t := t) hc hi hw (by omega) hh 3 0 ls rfl hr (fun ls' h1 h2 => ?_)
    refine ih (j + 1) ls' (by omega) (fun y hy => ?_) (fun ls2 g1 g2 => hQ ls2 (fun z hz => (g1 z hz).trans (h1 z hz)) g2)
    rw [h2 y hy, show 3 * (j + 1) = 3 * j + 3 by omega]
theorem sp_adds {Q : St → Prop} {X : St} {ls : Nat → Nat → Int64} {i : Nat} {t : Nat → Int} (hc : rCs X) (hi : i < 20) (hh : hds X i) (hr : rowL (ls 0) 9 t) (hQ : ∀ ls', (∀ z, z ≠ 0 → ls' z = ls z) → rowL (ls' 0) 9 (fun y => t y + pI X i y) → Q (X.1, ls')) : f_X8_adds (nI i) (X.1, ls) Q := by
  unfold f_X8_adds
  refine ⟨3, ?_⟩
  unfold f_X8_adds_b2
  refine bf (by decide) ⟨4, ?_⟩
  rw [n0]
  refine add2_loop (t := t) (w := 0) hc hi (by decide) hh 3 0 ls rfl (fun y hy => by rw [hr y hy]; simp) (fun ls1 h1 h2 => ?_)
  unfold f_X8_adds_b2
  refine bf (by decide) ⟨4, ?_⟩
  rw [n0]
  refine add2_loop (t := fun y => t y + pW X i 0 y) (w := 1) hc hi (by decide) hh 3 0 ls1 rfl (fun y hy => by rw [h2 y hy]; simp) (fun ls2 g1 g2 => ?_)
  unfold f_X8_adds_b2
  refine bt (by decide) (hQ ls2 (fun z hz => (g1 z hz).trans (h1 z hz)) (fun y hy => ?_))
  rw [g2 y hy]
  show LZ (t y + pW X i 0 y + pW X i 1 y) = LZ (t y + (pW X i 0 y + pW X i 1 y))
  rw [Int.add_assoc]
/-- emptied -/
theorem fillc_loop {Q : St → Prop} {A : Nat → Nat → Int32} : ∀ (m x : Nat) (ls : Nat → Nat → Int64), x + m = 9 → (∀ y, y < x → ls 0 y = 0) → (∀ ls', (∀ z, z ≠ 0 → ls' z = ls z) → (∀ y, y < 9 → ls' 0 y = 0) → Q (A, ls')) → f_J7_fill_d0a16_c_b6 Q (m + 1) 0 (nI x) 9 (A, ls) := by
  intro m
  induction m with
  | zero =>
    intro x ls hx hr hQ
    unfold f_J7_fill_d0a16_c_b6
    exact bt (by rw [show x = 9 by omega]; decide) (hQ ls (fun _ _ => rfl) (fun y hy => hr y (by omega)))
  | succ m ih =>
    intro x ls hx hr hQ
    unfold f_J7_fill_d0a16_c_b6
    refine bf (nI_ge (a := x) (b := 9) (by omega) (by decide)) ⟨vp_in_nI (by omega) (by decide), nmx (nmx ?_)⟩
    rw [nI_1, nI_clamp (by omega), sL_pair]
    refine ih (x + 1) _ (by omega) (fun y hy => ?_) (fun ls' h1 h2 => hQ ls' (fun z hz => (h1 z hz).trans (lu_at hz)) h2)
    rw [lu_on]
    by_cases e : y = x
    · subst e; rw [pk_uLs]
    · rw [pk_uLn e]; exact hr y (by omega)
theorem fillr_loop {Q : St → Prop} {A : Nat → Nat → Int32} : ∀ (m x : Nat) (ls : Nat → Nat → Int64), x + m = 3 → (∀ y, y < x → ls 1 y = 0) → (∀ ls', (∀ z, z ≠ 1 → ls' z = ls z) → (∀ y, y < 3 → ls' 1 y = 0) → Q (A, ls')) → f_J7_fill_d0a16_r_b6 Q (m + 1) 0 (nI x) 3 (A, ls) := by
  intro m
  induction m with
  | zero =>
    intro x ls hx hr hQ
    unfold f_J7_fill_d0a16_r_b6
    exact bt (by rw [show x = 3 by omega]; decide) (hQ ls (fun _ _ => rfl) (fun y hy => hr y (by omega)))
  | succ m ih =>
    intro x ls hx hr hQ
    unfold f_J7_fill_d0a16_r_b6
    refine bf (nI_ge (a := x) (b := 3) (by omega) (by decide)) ⟨vp_in_nI (by omega) (by decide), nmx (nmx ?_)⟩
    rw [nI_1, nI_clamp (by omega), sL_pair]
    refine ih (x + 1) _ (by omega) (fun y hy => ?_) (fun ls' h1 h2 => hQ ls' (fun z hz => (h1 z hz).trans (lu_at hz)) h2)
    rw [lu_on]
    by_cases e : y = x
    · subst e; rw [pk_uLs]
    · rw [pk_uLn e]; exact hr y (by omega)
theorem sp_forget {Q : St → Prop} {A : Nat → Nat → Int32} {ls : Nat → Nat → Int64} (hQ : ∀ ls', (∀ z, z ≠ 0 → z ≠ 1 → ls' z = ls z) → rowL (ls' 0) 9 (fun _ => 0) → rowL (ls' 1) 3 (fun _ => 0) → Q (A, ls')) : f_X6_forget (A, ls) Q := by
  unfold f_X6_forget f_J7_fill_d0a16_c f_J7_fill_d0a16_r
  refine ⟨10, fillc_loop 9 0 ls rfl (fun y hy => absurd hy (Nat.not_lt_zero y)) (fun ls1 h1 h2 => ⟨4, fillr_loop 3 0 ls1 rfl (fun y hy => absurd hy (Nat.not_lt_zero y)) (fun ls2 g1 g2 => ?_)⟩)⟩
  exact hQ ls2 (fun z a b => (g1 z b).trans (h1 z a)) (fun y hy => by rw [g1 0 (by decide), h2 y hy]; rfl) (fun y hy => by rw [g2 y hy]; rfl)
theorem noth1_loop {Q : St → Prop} {A : Nat → Nat → Int32} : ∀ (m x : Nat) (ls : Nat → Nat → Int64), x + m = 3 → (∀ y, y < x → ls 1 y = 0) → (∀ ls', (∀ z, z ≠ 1 → ls' z = ls z) → (∀ y, y < 3 → ls' 1 y = 0) → Q (A, ls')) → f_X8_nothing_b23 Q (m + 1) (nI x) (A, ls) := by
  intro m
  induction m with
  | zero =>
    intro x ls hx hr hQ
    unfold f_X8_nothing_b23
    exact bt (by rw [show x = 3 by omega]; decide) (hQ ls (fun _ _ => rfl) (fun y hy => hr y (by omega)))
  | succ m ih =>
    intro x ls hx hr hQ
    unfold f_X8_nothing_b23
    refine bf (nI_ge (a := x) (b := 3) (by omega) (by decide)) ⟨vp_in_nI (by omega) (by decide), nmx (nmx ?_)⟩
    rw [nI_1, nI_clamp (by omega), sL_pair]
    refine ih (x + 1) _ (by omega) (fun y hy => ?_) (fun ls' h1 h2 => hQ ls' (fun z hz => (h1 z hz).trans (lu_at hz)) h2)
    rw [lu_on]
    by_cases e : y = x
    · subst e; rw [pk_uLs]
    · rw [pk_uLn e]; exact hr y (by omega)
theorem noth0_loop {Q : St → Prop} {A : Nat → Nat → Int32} : ∀ (m x : Nat) (ls : Nat → Nat → Int64), x + m = 9 → (∀ y, y < x → ls 0 y = 0) → (∀ ls', (∀ z, z ≠ 0 → ls' z = ls z) → (∀ y, y < 9 → ls' 0 y = 0) → ∃ n4 : Nat, f_X8_nothing_b23 Q n4 (0 : Int32) (A, ls')) → f_X8_nothing_b2 Q (m + 1) (nI x) (A, ls) := by
  intro m
  induction m with
  | zero =>
    intro x ls hx hr hQ
    unfold f_X8_nothing_b2
    exact bt (by rw [show x = 9 by omega]; decide) (hQ ls (fun _ _ => rfl) (fun y hy => hr y (by omega)))
  | succ m ih =>
    intro x ls hx hr hQ
    unfold f_X8_nothing_b2
    refine bf (nI_ge (a := x) (b := 9) (by omega) (by decide)) ⟨vp_in_nI (by omega) (by decide), nmx (nmx ?_)⟩
    rw [nI_1, nI_clamp (by omega), sL_pair]
    refine ih (x + 1) _ (by omega) (fun y hy => ?_) (fun ls' h1 h2 => hQ ls' (fun z hz => (h1 z hz).trans (lu_at hz)) h2)
    rw [lu_on]
    by_cases e : y = x
    · subst e; rw [pk_uLs]
    · rw [pk_uLn e]; exact hr y (by omega)
theorem sp_nothing {Q : St → Prop} {A : Nat → Nat → Int32} {ls : Nat → Nat → Int64} (hQ : ∀ ls', (∀ z, z ≠ 0 → z ≠ 1 → ls' z = ls z) → rowL (ls' 0) 9 (fun _ => 0) → rowL (ls' 1) 3 (fun _ => 0) → Q (A, ls')) : f_X8_nothing (A, ls) Q := by
  unfold f_X8_nothing
  refine ⟨10, noth0_loop 9 0 ls rfl (fun y hy => absurd hy (Nat.not_lt_zero y)) (fun ls1 h1 h2 => ⟨4, noth1_loop 3 0 ls1 rfl (fun y hy => absurd hy (Nat.not_lt_zero y)) (fun ls2 g1 g2 => ?_)⟩)⟩
  exact hQ ls2 (fun z a b => (g1 z b).trans (h1 z a)) (fun y hy => by rw [g1 0 (by decide), h2 y hy]; rfl) (fun y hy => by rw [g2 y hy]; rfl)
/-- the right sides -/
theorem right_loop {Q : St → Prop} {X : St} {i : Nat} {t : Nat → Int} (hi : i < 20) (hh : hds X i) (hm : meas X i = true) : ∀ (m j : Nat) (ls : Nat → Nat → Int64), j + m = 3 → rowL (ls 1) 3 (fun y => t y + if y < j then qI X i y else 0) →
    (∀ ls', (∀ z, z ≠ 1 → ls' z = ls z) → rowL (ls' 1) 3 (fun y => t y + qI X i y) → Q (X.1, ls')) → f_X6_addRight_b3 Q (m + 1) (nI i) (X.1 20 (2 * i + 0)) (X.1 20 (2 * i + 1)) (nI j) (X.1, ls) := by
  intro m
  induction m with
  | zero =>
    intro j ls hj hr hQ
    unfold f_X6_addRight_b3
    refine bt (by rw [show j = 3 by omega]; decide) (hQ ls (fun _ _ => rfl) (fun y hy => ?_))
    have := hr y hy
    simp only [if_pos (show y < j by omega)] at this
    exact this
  | succ m ih =>
    intro j ls hj hr hQ
    unfold f_X6_addRight_b3
    rw [ix3, nI_clamp (by omega), nI_clamp (by omega), nI_1]
    refine bf (nI_ge (a := j) (b := 3) (by omega) (by decide)) ⟨vp_in_nI (by omega) (by decide), nmx ⟨vp_in_nI (by omega) (by decide), ?_⟩⟩
    obtain ⟨h1, h2⟩ := hdX_lt hh (show j < 3 by omega)
    rw [show ((X.1, ls) : St).1 1 (3 * i + j) = nI (hdX X i j) from h2]
    refine sp_cOf h1 (sp_sOf h1 ⟨vp_in_nI (by omega) (by decide), nmx (nmx ?_)⟩)
    rw [sL_pair]
    refine ih (j + 1) _ (by omega) (fun y hy => ?_) (fun ls' h1 h2 => hQ ls' (fun z hz => (h1 z hz).trans (lu_at hz)) h2)
    rw [lu_on]
    by_cases e : y = j
    · subst e
      rw [pk_uLs]
      have := hr y hy
      simp only [if_neg (show ¬ y < y by omega), Int.add_zero] at this
      simp only [if_pos (show y < y + 1 by omega)]
      have b0 := (meas_at (w := 0) hm (by decide)).2
      have b1 := (meas_at (w := 1) hm (by decide)).2
      have a := mul_in (a := CS 0 (hdX X i y)) (b := X.1 20 (2 * i + 0)) (A := 65) (B := 9999) (CS_b h1) ⟨by have := b0.1; omega, b0.2⟩ (by decide) (by decide)
      have b := mul_in (a := CS 1 (hdX X i y)) (b := X.1 20 (2 * i + 1)) (A := 65) (B := 9999) (CS_b h1) ⟨by have := b1.1; omega, b1.2⟩ (by decide) (by decide)
      show ls 1 y + Int32.toInt64 (CS 0 (hdX X i y) * X.1 20 (2 * i + 0) + CS 1 (hdX X i y) * X.1 20 (2 * i + 1)) = _
      rw [this, wide_LZ, add_in (by rw [a.1, b.1]; omega), a.1, b.1, LZ_add]; rfl
    · rw [pk_uLn e]
      have := hr y hy
      rw [this]
      by_cases c : y < j
      · simp only [if_pos c, if_pos (show y < j + 1 by omega)]
      · simp only [if_neg c, if_neg (show ¬ y < j + 1 by omega)]
def gU (X : St) (l : List Nat) : Nat → Nat → Int
  | 0, _ => 0
  | u + 1, x => gU X l u x + pI X (l.getD u 0) x
def rU (X : St) (l : List Nat) : Nat → Nat → Int
  | 0, _ => 0
  | u + 1, j => rU X l u j + qI X (l.getD u 0) j
theorem sumX_loop {Q : St → Prop} {X : St} {l : List Nat} (hl : l.length ≤ 12) (hrow : rowIs (X.1 5) l) (hmem : ∀ x ∈ l, x < 20 ∧ meas X x = true ∧ hds X x ∧ prods X x) (hQ : ∀ ls, rowL (ls 0) 9 (gU X l l.length) → rowL (ls 1) 3 (rU X l l.length) → Q (X.1, ls)) : ∀ (m u : Nat) (ls : Nat → Nat → Int64), u + m = l.length → rowL (ls 0) 9 (gU X l u) → rowL (ls 1) 3 (rU X l u) → f_X7_sumUsed_b14 Q (m + 1) (nI l.length) (nI u) (X.1, ls) := by
  intro m
  induction m with
  | zero =>
    intro u ls hu h0 h1
    have : u = l.length := by omega
    subst this
    unfold f_X7_sumUsed_b14
    exact bt (Int32.le_refl _) (hQ ls h0 h1)
  | succ m ih =>
    intro u ls hu h0 h1
    have hult : u < l.length := by omega
    have hget : l[u]? = some (l.getD u 0) := by rw [List.getD_eq_getElem?_getD, List.getElem?_eq_getElem hult]; rfl
    have hr := hrow u _ hget
    obtain ⟨m1, m2, m3, m4⟩ := hmem _ (List.mem_of_getElem? hget)
    unfold f_X7_sumUsed_b14
    refine bf (nI_ge hult (by omega)) ⟨vp_in_nI (by omega) (by decide), nmx ?_⟩
    rw [nI_clamp (by omega), show ((X.1, ls) : St).1 5 u = nI (l.getD u 0) from hr, nI_1]
    refine sp_left m1 m4 m3 h0 (fun ls1 a1 a2 => ?_)
    refine sp_measured (X := (X.1, ls1)) (w := 0) m1 (by decide) (sp_measured (X := (X.1, ls1)) (w := 1) m1 (by decide) ?_)
    unfold f_X6_addRight
    refine ⟨4, right_loop (t := rU X l u) m1 m3 m2 3 0 ls1 rfl (fun y hy => ?_) (fun ls2 b1 b2 => nmx ?_)⟩
    · rw [a1 1 (by decide), h1 y hy]; simp
    · exact ih (u + 1) ls2 (by omega) (fun y hy => by rw [b1 0 (by decide), a2 y hy]; rfl) (fun y hy => by rw [b2 y hy]; rfl)
theorem gU_eq {X X' : St} (h1 : X'.1 1 = X.1 1) (l : List Nat) : ∀ u x, gU X' l u x = gU X l u x := by
  intro u
  induction u with
  | zero => intro x; rfl
  | succ u ih => intro x; show gU X' l u x + _ = gU X l u x + _; rw [ih]; unfold pI pW hdX; rw [h1]
theorem rU_eq {X X' : St} (h1 : X'.1 1 = X.1 1) (h20 : X'.1 20 = X.1 20) (l : List Nat) : ∀ u x, rU X' l u x = rU X l u x := by
  intro u
  induction u with
  | zero => intro x; rfl
  | succ u ih => intro x; show rU X' l u x + _ = rU X l u x + _; rw [ih]; unfold qI qW hdX; rw [h1, h20]
def gT (X : St) (P : Nat) : Nat → Int := gU X (ul (uB X) P) (ul (uB X) P).length
def gR (X : St) (P : Nat) : Nat → Int := rU X (ul (uB X) P) (ul (uB X) P).length
theorem sp_sumUsed {Q : St → Prop} {X M : St} {P : Nat} (hR : RelX X M) (hP : rPos P X M) (hQ : ∀ σ', eqX X σ' → rowL (σ'.2 0) 9 (gT X P) → rowL (σ'.2 1) 3 (gR X P) → Q σ') : f_X7_sumUsed X Q := by
  have h20 := hP.1
  unfold f_X7_sumUsed
  refine sp_listUsed hR.2.2.2.2.1.size0 hP.2.1 h20 (fun σ1 hx h2 hrow => ?_)
  obtain ⟨A, ls⟩ := σ1
  refine sp_forget (fun ls1 _ a0 a1 => ⟨(ul (uB X) P).length + 1, ?_⟩)
  have e1 : A 1 = X.1 1 := hx 1 (by decide) (by decide) (by decide) (by decide) (by decide)
  have e2 : A 2 = X.1 2 := hx 2 (by decide) (by decide) (by decide) (by decide) (by decide)
  have e20 : A 20 = X.1 20 := hx 20 (by decide) (by decide) (by decide) (by decide) (by decide)
  refine sumX_loop (X := (A, ls1)) (ul_len (uB X) P) hrow (fun x hxm => ?_) (fun ls2 b0 b1 => ?_) (ul (uB X) P).length 0 ls1 (by omega) a0 a1
  · obtain ⟨c1, c2⟩ := ul_mem (uB X) P x hxm
    unfold uB at c2
    rw [Bool.and_eq_true] at c2
    refine ⟨by omega, ?_, ?_, ?_⟩
    · rw [show meas (A, ls1) x = meas (A, ls) x from rfl, meas_eq hx]; exact c2.2
    · have := hds_eq hx (hP.hX c1); exact this
    · have := hP.prods c1
      unfold prods at this ⊢
      show ∀ y, y < 9 → A 2 (9 * x + y) = prd (A 1 (3 * x + y / 3)) (A 1 (3 * x + y % 3))
      rw [e1, e2]; exact this
  · exact hQ (A, ls2) hx (fun y hy => (b0 y hy).trans (by rw [gU_eq (X' := (A, ls1)) (X := X) e1]; rfl)) (fun y hy => (b1 y hy).trans (by rw [rU_eq (X' := (A, ls1)) (X := X) e1 e20]; rfl))
