/-! ===== pure rows: numbers in range, states, the smallest methods ===== -/
theorem i32_le (a b : Int32) : a ≤ b ↔ a.toInt ≤ b.toInt := Int32.le_iff_toInt_le
theorem i32_lt (a b : Int32) : a < b ↔ a.toInt < b.toInt := Int32.lt_iff_toInt_lt
theorem i64_le (a b : Int64) : a ≤ b ↔ a.toInt ≤ b.toInt := Int64.le_iff_toInt_le
theorem i64_lt (a b : Int64) : a < b ↔ a.toInt < b.toInt := Int64.lt_iff_toInt_lt
theorem wide_toInt (a : Int32) : (Int32.toInt64 a).toInt = a.toInt := Int32.toInt_toInt64 a
def inr (v : Int32) (a b : Int) : Prop := a ≤ v.toInt ∧ v.toInt ≤ b
theorem wX1 {v lo hi : Int32} {a b : Int} {σ : St} {Q : Int32 → St → Prop} (ha : lo.toInt = a) (hb : hi.toInt = b) (h : inr v a b) (q : Q 1 σ) : f_X7_within v lo hi σ Q := by
  unfold f_X7_within
  refine ⟨fun c => absurd c ?_, fun _ => ⟨fun c => absurd c ?_, fun _ => q⟩⟩ <;> rw [i32_lt] <;> have := h.1 <;> have := h.2 <;> omega
theorem wX0 {v lo hi : Int32} {a b : Int} {σ : St} {Q : Int32 → St → Prop} (ha : lo.toInt = a) (hb : hi.toInt = b) (h : ¬ inr v a b) (q : Q 0 σ) : f_X7_within v lo hi σ Q := by
  unfold f_X7_within
  refine ⟨fun _ => q, fun c1 => ⟨fun _ => q, fun c2 => absurd ⟨?_, ?_⟩ h⟩⟩
  · rw [i32_lt] at c1; omega
  · rw [i32_lt] at c2; omega
theorem wM1 {v : Int32} {lo hi : Int64} {a b : Int} {σ : St} {Q : Int32 → St → Prop} (ha : lo.toInt = a) (hb : hi.toInt = b) (h : inr v a b) (q : Q 1 σ) : f_X8_in (Int32.toInt64 v) lo hi σ Q := by
  unfold f_X8_in
  refine ⟨fun c => absurd c ?_, fun _ => ⟨fun c => absurd c ?_, fun _ => q⟩⟩ <;> rw [i64_lt, wide_toInt] <;> have := h.1 <;> have := h.2 <;> omega
theorem wM0 {v : Int32} {lo hi : Int64} {a b : Int} {σ : St} {Q : Int32 → St → Prop} (ha : lo.toInt = a) (hb : hi.toInt = b) (h : ¬ inr v a b) (q : Q 0 σ) : f_X8_in (Int32.toInt64 v) lo hi σ Q := by
  unfold f_X8_in
  refine ⟨fun _ => q, fun c1 => ⟨fun _ => q, fun c2 => absurd ⟨?_, ?_⟩ h⟩⟩
  · rw [i64_lt, wide_toInt] at c1; omega
  · rw [i64_lt, wide_toInt] at c2; omega
theorem inr_nI {v : Int32} {n : Nat} (h : inr v 0 n) (hn : n < 2 ^ 31) : ∃ k : Nat, k ≤ n ∧ v = nI k := by
  obtain ⟨h1, h2⟩ := h
  refine ⟨v.toInt.toNat, by omega, Int32.toInt_inj.mp ?_⟩
  rw [nI_toInt (by omega)]; omega
theorem nI_inr {k : Nat} {a b : Int} (hk : k < 2 ^ 31) (h1 : a ≤ k) (h2 : (k : Int) ≤ b) : inr (nI k) a b := by
  unfold inr; rw [nI_toInt hk]; exact ⟨h1, h2⟩
/-- branches by what is known -/
theorem bt {c A B : Prop} (h : c) (a : A) : (c → A) ∧ ((¬ c) → B) := ⟨fun _ => a, fun n => absurd h n⟩
theorem bf {c A B : Prop} (h : ¬ c) (b : B) : (c → A) ∧ ((¬ c) → B) := ⟨fun n => absurd n h, fun _ => b⟩
theorem nt {c A B : Prop} (h : ¬ c) (a : A) : ((¬ c) → A) ∧ (c → B) := ⟨fun _ => a, fun n => absurd n h⟩
theorem nf {c A B : Prop} (h : c) (b : B) : ((¬ c) → A) ∧ (c → B) := ⟨fun n => absurd h n, fun _ => b⟩
theorem nmx {α : Sort _} {e : α} {P : α → Prop} (h : P e) : ∀ x, x = e → P x := fun _ hx => hx ▸ h
theorem one_ne : ¬ (1 : Int32) = 0 := by decide
/-- rows of states -/
theorem sI_at {σ : St} {k j k2 : Nat} {v : Int32} (h : k2 ≠ k) : (sI σ k j v).1 k2 = σ.1 k2 := by simp [sI, va_up, h]
theorem sI_on {σ : St} {k j : Nat} {v : Int32} : (sI σ k j v).1 k = upd (σ.1 k) j v := by simp [sI, va_up]
theorem sI_2 {σ : St} {k j : Nat} {v : Int32} : (sI σ k j v).2 = σ.2 := rfl
theorem sL_1 {σ : St} {k j : Nat} {v : Int64} : (sL σ k j v).1 = σ.1 := rfl
theorem sL_at {σ : St} {k j k2 : Nat} {v : Int64} (h : k2 ≠ k) : (sL σ k j v).2 k2 = σ.2 k2 := by simp [sL, va_up, h]
theorem sL_on {σ : St} {k j : Nat} {v : Int64} : (sL σ k j v).2 k = vp_updL (σ.2 k) j v := by simp [sL, va_up]
theorem sR_at {σ : St} {k k2 : Nat} {f : Nat → Int32} (h : k2 ≠ k) : (sR σ k f).1 k2 = σ.1 k2 := by simp [sR, va_up, h]
theorem sR_on {σ : St} {k : Nat} {f : Nat → Int32} : (sR σ k f).1 k = f := by simp [sR, va_up]
/-- the rows that no call asks of later -/
def eqX (σ σ' : St) : Prop := ∀ k, k ≠ 5 → k ≠ 12 → k ≠ 13 → k ≠ 14 → k ≠ 15 → σ'.1 k = σ.1 k
def eqM (τ τ' : St) : Prop := ∀ k, k ≠ 5 → k ≠ 17 → k ≠ 21 → k ≠ 25 → τ'.1 k = τ.1 k
theorem eqX.rf {σ : St} : eqX σ σ := fun _ _ _ _ _ _ => rfl
theorem eqM.rf {σ : St} : eqM σ σ := fun _ _ _ _ _ => rfl
theorem eqX.tr {a b c : St} (h : eqX a b) (h2 : eqX b c) : eqX a c := fun k h5 h12 h13 h14 h15 => (h2 k h5 h12 h13 h14 h15).trans (h k h5 h12 h13 h14 h15)
theorem eqM.tr {a b c : St} (h : eqM a b) (h2 : eqM b c) : eqM a c := fun k h5 h17 h21 h25 => (h2 k h5 h17 h21 h25).trans (h k h5 h17 h21 h25)
theorem eqX.i {σ : St} {k j : Nat} {v : Int32} (h : k = 5 ∨ k = 12 ∨ k = 13 ∨ k = 14 ∨ k = 15) : eqX σ (sI σ k j v) := fun k2 a b c d e => sI_at (by omega)
theorem eqM.i {σ : St} {k j : Nat} {v : Int32} (h : k = 5 ∨ k = 17 ∨ k = 21 ∨ k = 25) : eqM σ (sI σ k j v) := fun k2 a b c d => sI_at (by omega)
theorem eqX.l {σ : St} {k j : Nat} {v : Int64} : eqX σ (sL σ k j v) := fun _ _ _ _ _ _ => rfl
theorem eqM.l {σ : St} {k j : Nat} {v : Int64} : eqM σ (sL σ k j v) := fun _ _ _ _ _ => rfl
theorem RelX.keep {X M X' M' : St} (hx : eqX X X') (hm : eqM M M') (h : RelX X M) : RelX X' M' := by
  obtain ⟨h1, ⟨P, h2⟩, h3, h4, h5, h6, h7⟩ := h
  have x : ∀ k, k ≠ 5 → k ≠ 12 → k ≠ 13 → k ≠ 14 → k ≠ 15 → X'.1 k = X.1 k := hx
  have m : ∀ k, k ≠ 5 → k ≠ 17 → k ≠ 21 → k ≠ 25 → M'.1 k = M.1 k := hm
  have x0 := x 0 (by decide) (by decide) (by decide) (by decide) (by decide)
  have x1 := x 1 (by decide) (by decide) (by decide) (by decide) (by decide)
  have x2 := x 2 (by decide) (by decide) (by decide) (by decide) (by decide)
  have x3 := x 3 (by decide) (by decide) (by decide) (by decide) (by decide)
  have x4 := x 4 (by decide) (by decide) (by decide) (by decide) (by decide)
  have x6 := x 6 (by decide) (by decide) (by decide) (by decide) (by decide)
  have x7 := x 7 (by decide) (by decide) (by decide) (by decide) (by decide)
  have x8 := x 8 (by decide) (by decide) (by decide) (by decide) (by decide)
  have x9 := x 9 (by decide) (by decide) (by decide) (by decide) (by decide)
  have x10 := x 10 (by decide) (by decide) (by decide) (by decide) (by decide)
  have x11 := x 11 (by decide) (by decide) (by decide) (by decide) (by decide)
  have x16 := x 16 (by decide) (by decide) (by decide) (by decide) (by decide)
  have m0 := m 0 (by decide) (by decide) (by decide) (by decide)
  have m1 := m 1 (by decide) (by decide) (by decide) (by decide)
  have m3 := m 3 (by decide) (by decide) (by decide) (by decide)
  have m4 := m 4 (by decide) (by decide) (by decide) (by decide)
  have m6 := m 6 (by decide) (by decide) (by decide) (by decide)
  have m7 := m 7 (by decide) (by decide) (by decide) (by decide)
  have m8 := m 8 (by decide) (by decide) (by decide) (by decide)
  have m9 := m 9 (by decide) (by decide) (by decide) (by decide)
  have m10 := m 10 (by decide) (by decide) (by decide) (by decide)
  have m16 := m 16 (by decide) (by decide) (by decide) (by decide)
  have m18 := m 18 (by decide) (by decide) (by decide) (by decide)
  have m19 := m 19 (by decide) (by decide) (by decide) (by decide)
  have m20 := m 20 (by decide) (by decide) (by decide) (by decide)
  have m22 := m 22 (by decide) (by decide) (by decide) (by decide)
  have m23 := m 23 (by decide) (by decide) (by decide) (by decide)
  have m24 := m 24 (by decide) (by decide) (by decide) (by decide)
  refine ⟨?_, ⟨P, ?_⟩, ?_, ?_, ?_, ?_, ?_⟩
  · unfold rLen at h1 ⊢; rw [x0, m0]; exact h1
  · unfold rPos at h2 ⊢; rw [x3, m3, x1, m1, x2, x4, m4]; exact h2
  · unfold rCam at h3 ⊢; rw [x10, m10, x6, x7, x8, x9, m6, m7, m8, m9]; exact h3
  · unfold rLim at h4 ⊢; rw [m19, m20, x11]; exact h4
  · unfold rShe at h5 ⊢
    intro k hk
    rw [x (24 + k) (by omega) (by omega) (by omega) (by omega) (by omega), x (28 + k) (by omega) (by omega) (by omega) (by omega) (by omega), x (20 + k) (by omega) (by omega) (by omega) (by omega) (by omega), m22, m23, m24]
    exact h5 k hk
  · rw [x16, m16]; exact h6
  · unfold rCs at h7 ⊢; rw [m18]; exact h7
/-- headings -/
theorem sp_cOf {k : Nat} {σ : St} {Q : Int32 → St → Prop} (hk : k < 36) (q : Q (COF k) σ) : f_X3_cOf (nI k) σ Q := by
  unfold f_X3_cOf
  refine ⟨vp_in_nI hk (by decide), ?_⟩
  rw [nI_clamp (by omega)]; exact q
theorem sp_sOf {k : Nat} {σ : St} {Q : Int32 → St → Prop} (hk : k < 36) (q : Q (SOF k) σ) : f_X3_sOf (nI k) σ Q := by
  unfold f_X3_sOf
  refine ⟨fun c => ?_, fun c => ?_⟩
  · have h9 : 9 ≤ k := by
      rw [i32_le, nI_toInt (by omega)] at c
      have : (9 : Int32).toInt = 9 := by decide
      omega
    rw [show nI k - 9 = nI (k - 9) from pk_sub (a := k) (b := 9) h9, nI_clamp (by omega)]
    refine ⟨vp_in_nI (by omega) (by decide), ?_⟩
    have e : SOF k = COF (k - 9) := by unfold SOF; congr 1; omega
    rw [← e]; exact q
  · have h9 : k < 9 := by
      rw [i32_le, nI_toInt (by omega)] at c
      have : (9 : Int32).toInt = 9 := by decide
      omega
    rw [show nI k + 27 = nI (k + 27) from nI_add k 27, nI_clamp (by omega)]
    refine ⟨vp_in_nI (by omega) (by decide), ?_⟩
    have e : SOF k = COF (k + 27) := by unfold SOF; congr 1; omega
    rw [← e]; exact q
def CS (what : Nat) (k : Nat) : Int32 := if what = 0 then COF k else SOF k
theorem sp_part {k w : Nat} {σ : St} {Q : Int32 → St → Prop} (hk : k < 36) (hw : w < 2) (q : Q (CS w k) σ) : f_X3_part (nI k) (nI w) σ Q := by
  unfold f_X3_part
  rcases (show w = 0 ∨ w = 1 by omega) with rfl | rfl
  · exact nf rfl (sp_cOf hk q)
  · exact nt (by decide) (sp_sOf hk q)
theorem sp_round {n : Nat} {σ : St} {Q : Int32 → St → Prop} (hn : n < 2 ^ 31) (q : Q (nI (n % 36)) σ) : f_X3_round (nI n) σ Q := by
  unfold f_X3_round
  rw [show nI n - nI n / 36 * 36 = nI (n % 36) from pk_rem (a := n) (d := 36) hn (by decide) (by decide)]; exact q
theorem sp_c {n : Nat} {τ : St} {Q : Int32 → St → Prop} (h : rCs τ) (hn : n < 2 ^ 31) (q : Q (COF (n % 36)) τ) : f_X8_c (nI n) τ Q := by
  unfold f_X8_c
  rw [show nI n - nI n / 36 * 36 = nI (n % 36) from pk_rem (a := n) (d := 36) hn (by decide) (by decide), nI_clamp (by omega), h _ (by omega)]
  exact ⟨vp_in_nI (by omega) (by decide), q⟩
theorem sp_s {n : Nat} {τ : St} {Q : Int32 → St → Prop} (h : rCs τ) (hn : n + 27 < 2 ^ 31) (q : Q (SOF (n % 36)) τ) : f_X8_s (nI n) τ Q := by
  unfold f_X8_s
  rw [show nI n + 27 = nI (n + 27) from nI_add n 27, show nI (n + 27) - nI (n + 27) / 36 * 36 = nI ((n + 27) % 36) from pk_rem (a := n + 27) (d := 36) hn (by decide) (by decide), nI_clamp (by omega), h _ (by omega)]
  refine ⟨vp_in_nI (by omega) (by decide), ?_⟩
  have e : SOF (n % 36) = COF ((n + 27) % 36) := by unfold SOF; congr 1; omega
  rw [← e]; exact q
