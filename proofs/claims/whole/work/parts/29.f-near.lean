/-! ===== the nearest posture: sums, squares, and what no third link leaves less than ===== -/
abbrev IZ (z : Int) : Int32 := Int32.ofInt z
theorem IZ_add (a b : Int) : IZ a + IZ b = IZ (a + b) := (Int32.ofInt_add a b).symm
theorem IZ_sub (a b : Int) : IZ a - IZ b = IZ (a - b) := (Int32.ofInt_sub a b).symm
theorem IZ_mul (a b : Int) : IZ a * IZ b = IZ (a * b) := (Int32.ofInt_mul a b).symm
theorem IZ_neg (a : Int) : -IZ a = IZ (-a) := (Int32.ofInt_neg a).symm
theorem IZ_of (a : Int32) : a = IZ a.toInt := (Int32.ofInt_toInt a).symm
theorem IZ_toInt {z : Int} (h : -(2 ^ 31) ≤ z ∧ z < 2 ^ 31) : (IZ z).toInt = z := Int32.toInt_ofInt_of_le h.1 h.2
theorem IZ_wide {z : Int} (h : -(2 ^ 31) ≤ z ∧ z < 2 ^ 31) : Int32.toInt64 (IZ z) = LZ z := by rw [wide_LZ, IZ_toInt h]
theorem LZ_le {a b : Int} (ha : -(2 ^ 63) ≤ a ∧ a < 2 ^ 63) (hb : -(2 ^ 63) ≤ b ∧ b < 2 ^ 63) : LZ a ≤ LZ b ↔ a ≤ b := by rw [i64_le, LZ_toInt ha, LZ_toInt hb]
theorem cof_IZ (k : Nat) : COF k = IZ (ccI 0 k) := IZ_of (CS 0 k)
theorem sof_IZ (k : Nat) : SOF k = IZ (ccI 1 k) := IZ_of (CS 1 k)
def ai (x : Int) : Int := if 0 ≤ x then x else -x
theorem ai_b (x : Int) : 0 ≤ ai x ∧ -(ai x) ≤ x ∧ x ≤ ai x := by unfold ai; split <;> omega
theorem ai_sq (x : Int) : ai x * ai x = x * x := by
  unfold ai; split
  · rfl
  · exact Int.neg_mul_neg x x
theorem circ : ∀ h, h < 36 → ccI 0 h * ccI 0 h + ccI 1 h * ccI 1 h = 4225 ∧ ai (ccI 0 h) + ai (ccI 1 h) ≤ 91 ∧ ai (ccI 0 h) ≤ 65 ∧ ai (ccI 1 h) ≤ 65 := by decide +kernel
def gre (u v : Int) : Int := if ai u < ai v then ai v else ai u
def les (u v : Int) : Int := if ai v < ai u then ai v else ai u
theorem dot1 {p q u v : Int} (hpq : p + q ≤ 91) (hp : p ≤ 65) (hv : 0 ≤ v) (huv : v ≤ u) : 2 * (p * u + q * v) ≤ 130 * u + 65 * v := by
  have h1 : p * u ≤ 65 * u := Int.mul_le_mul_of_nonneg_right hp (by omega)
  by_cases c : 2 * q ≤ 65
  · have h2 : 2 * q * v ≤ 65 * v := Int.mul_le_mul_of_nonneg_right c hv
    have e : 2 * q * v = 2 * (q * v) := Int.mul_assoc _ _ _
    omega
  · have h2 : (2 * q - 65) * v ≤ (2 * q - 65) * u := Int.mul_le_mul_of_nonneg_left huv (by omega)
    have h3 : (2 * p + 2 * q - 65) * u ≤ 117 * u := Int.mul_le_mul_of_nonneg_right (by omega) (by omega)
    have e1 : (2 * q - 65) * v = 2 * (q * v) - 65 * v := by grind
    have e2 : (2 * p + 2 * q - 65) * u = 2 * (p * u) + (2 * q - 65) * u := by grind
    omega
theorem dot2 {c s u v : Int} (h1 : ai c + ai s ≤ 91) (h2 : ai c ≤ 65) (h3 : ai s ≤ 65) : 2 * (c * u + s * v) ≤ 65 * (2 * gre u v + les u v) := by
  have au := ai_b u
  have av := ai_b v
  have ac := ai_b c
  have as := ai_b s
  have m1 := bnd_mul (a := c) (b := u) (A := ai c) (B := ai u) ac.2 au.2 ac.1 au.1
  have m2 := bnd_mul (a := s) (b := v) (A := ai s) (B := ai v) as.2 av.2 as.1 av.1
  unfold gre les
  by_cases k : ai u < ai v
  · have := dot1 (p := ai s) (q := ai c) (u := ai v) (v := ai u) (by omega) h3 au.1 (by omega)
    rw [if_pos k, if_neg (by omega)]; omega
  · have := dot1 (p := ai c) (q := ai s) (u := ai u) (v := ai v) (by omega) h2 av.1 (by omega)
    rw [if_neg k]
    by_cases k2 : ai v < ai u
    · rw [if_pos k2]; omega
    · rw [if_neg k2]; omega
def alr (u v l : Int) : Int := ((gre u v * gre u v + les u v * les u v) + 65 * l * (65 * l)) - 65 * l * (2 * gre u v + les u v)
theorem sq_gl (u v : Int) : gre u v * gre u v + les u v * les u v = u * u + v * v := by
  unfold gre les
  rw [← ai_sq u, ← ai_sq v]
  by_cases k : ai u < ai v
  · rw [if_pos k, if_neg (by omega)]; omega
  · rw [if_neg k]
    by_cases k2 : ai v < ai u
    · rw [if_pos k2]
    · rw [if_neg k2, show ai v = ai u by omega]
theorem alr_le {u v l : Int} {h : Nat} (hh : h < 36) (hl : 0 ≤ l) : alr u v l ≤ (u - l * ccI 0 h) * (u - l * ccI 0 h) + (v - l * ccI 1 h) * (v - l * ccI 1 h) := by
  obtain ⟨c1, c2, c3, c4⟩ := circ h hh
  have d := dot2 (u := u) (v := v) c2 c3 c4
  unfold alr
  rw [sq_gl]
  generalize ccI 0 h = c at *
  generalize ccI 1 h = s at *
  have e : (u - l * c) * (u - l * c) + (v - l * s) * (v - l * s) = (u * u + v * v) + l * l * (c * c + s * s) - l * (2 * (c * u + s * v)) := by grind
  rw [e, c1]
  have m : l * (2 * (c * u + s * v)) ≤ l * (65 * (2 * gre u v + les u v)) := Int.mul_le_mul_of_nonneg_left d hl
  have e2 : 65 * l * (65 * l) = l * l * 4225 := by grind
  have e3 : l * (65 * (2 * gre u v + les u v)) = 65 * l * (2 * gre u v + les u v) := by grind
  omega
theorem gl_b {u v B : Int} (hu : -B ≤ u ∧ u ≤ B) (hv : -B ≤ v ∧ v ≤ B) : 0 ≤ gre u v ∧ gre u v ≤ B ∧ 0 ≤ les u v ∧ les u v ≤ B := by
  unfold gre les ai
  split <;> split <;> split <;> omega
theorem alr_b {u v l : Int} (hu : -1000000 ≤ u ∧ u ≤ 1000000) (hv : -1000000 ≤ v ∧ v ≤ 1000000) (hl : 0 ≤ l ∧ l ≤ 999) : -(2 ^ 60) < alr u v l ∧ alr u v l < 2 ^ 60 := by
  obtain ⟨g1, g2, l1, l2⟩ := gl_b hu hv
  unfold alr
  rw [sq_gl]
  have a := bnd_mul hu hu (by decide) (by decide)
  have b := bnd_mul hv hv (by decide) (by decide)
  have c := bnd_mul (a := 65 * l) (b := 65 * l) (A := 64935) (B := 64935) (by omega) (by omega) (by decide) (by decide)
  have d := bnd_mul (a := 65 * l) (b := 2 * gre u v + les u v) (A := 64935) (B := 3000000) (by omega) (by omega) (by decide) (by decide)
  omega
theorem IZ_lt {a b : Int} (ha : -(2 ^ 31) ≤ a ∧ a < 2 ^ 31) (hb : -(2 ^ 31) ≤ b ∧ b < 2 ^ 31) : IZ a < IZ b ↔ a < b := by rw [i32_lt, IZ_toInt ha, IZ_toInt hb]
theorem sp_ai {Q : Int32 → St → Prop} {u : Int} {σ : St} (hu : -1000000 ≤ u ∧ u ≤ 1000000) (q : Q (IZ (ai u)) σ) : f_J9_abs_0f7a4 (IZ u) σ Q := by
  unfold f_J9_abs_0f7a4
  rw [i32_le, IZ_toInt (by omega), show (0 : Int32).toInt = 0 from rfl]
  unfold ai at q
  by_cases c : 0 ≤ u
  · rw [if_pos c] at q; exact bt c q
  · rw [if_neg c, ← IZ_neg] at q; exact bf c q
theorem sp_alr {Q : Int64 → St → Prop} {u v l : Int} {σ : St} (hu : -1000000 ≤ u ∧ u ≤ 1000000) (hv : -1000000 ≤ v ∧ v ≤ 1000000) (h12 : σ.1 12 0 = IZ l) (hl : 0 ≤ l ∧ l ≤ 999) (q : Q (LZ (alr u v l)) σ) : f_X2_atLeastLeft (IZ u) (IZ v) σ Q := by
  obtain ⟨g1, g2, l1, l2⟩ := gl_b hu hv
  have au : 0 ≤ ai u ∧ ai u ≤ 1000000 := by unfold ai; split <;> omega
  have av : 0 ≤ ai v ∧ ai v ≤ 1000000 := by unfold ai; split <;> omega
  unfold f_X2_atLeastLeft
  have fin : ∀ r : Int32, r = IZ (gre u v) → ∀ x7 : Int64, x7 = Int32.toInt64 r → f_J9_abs_0f7a4 (IZ u) σ (fun r8 σ9 => f_J9_abs_0f7a4 (IZ v) σ9 (fun r10 σ11 => f_J9_min_7cf53 r8 r10 σ11 (fun r12 σ13 => ∀ x14 : Int64, x14 = Int32.toInt64 r12 → ∀ x15 : Int64, x15 = (65 : Int64) * (Int32.toInt64 (σ13.1 12 0)) → Q ((((x7 * x7) + (x14 * x14)) + (x15 * x15)) - (x15 * (((2 : Int64) * x7) + x14))) σ13))) := by
    intro r hr x7 h7
    rw [hr, IZ_wide (by omega)] at h7
    have fin2 : ∀ r : Int32, r = IZ (les u v) → ∀ x14 : Int64, x14 = Int32.toInt64 r → ∀ x15 : Int64, x15 = (65 : Int64) * (Int32.toInt64 (σ.1 12 0)) → Q ((((x7 * x7) + (x14 * x14)) + (x15 * x15)) - (x15 * (((2 : Int64) * x7) + x14))) σ := by
      intro r hr x14 h14 x15 h15
      rw [hr, IZ_wide (by omega)] at h14
      rw [h12, IZ_wide (by omega), show (65 : Int64) = LZ 65 from rfl, LZ_mul] at h15
      rw [h7, h14, h15, show (2 : Int64) = LZ 2 from rfl]
      simp only [LZ_mul, LZ_add, LZ_sub]
      exact q
    refine sp_ai hu (sp_ai hv ?_)
    unfold f_J9_min_7cf53
    rw [IZ_lt (by omega) (by omega)]
    by_cases c : ai v < ai u
    · exact bt c (fin2 _ (by unfold les; rw [if_pos c]))
    · exact bf c (fin2 _ (by unfold les; rw [if_neg c]))
  refine sp_ai hu (sp_ai hv ?_)
  unfold f_J9_max_7cf53
  rw [IZ_lt (by omega) (by omega)]
  by_cases c : ai u < ai v
  · exact bt c (fin _ (by unfold gre; rw [if_pos c]))
  · exact bf c (fin _ (by unfold gre; rw [if_neg c]))
/-- what is left, link by link -/
def W1 (L z : Nat → Int) (w a : Nat) : Int := 65 * z w - L 0 * ccI w a
def W2 (L z : Nat → Int) (w a b : Nat) : Int := W1 L z w a - L 1 * ccI w ((a + b) % 36)
def W3 (L z : Nat → Int) (w a b c : Nat) : Int := W2 L z w a b - L 2 * ccI w ((a + b + c) % 36)
def sqs (L z : Nat → Int) (a b c : Nat) : Int := W3 L z 0 a b c * W3 L z 0 a b c + W3 L z 1 a b c * W3 L z 1 a b c
def envL (L z : Nat → Int) : Prop := (∀ i, i < 3 → 1 ≤ L i ∧ L i ≤ 999) ∧ ∀ w, w < 2 → -3000 ≤ z w ∧ z w ≤ 3000
theorem lc_b {L z : Nat → Int} (h : envL L z) {i w k : Nat} (hi : i < 3) (hk : k < 36) : -64935 ≤ L i * ccI w k ∧ L i * ccI w k ≤ 64935 := by
  have a := h.1 i hi
  have b := CS_b (w := w) hk
  have := bnd_mul (a := L i) (b := ccI w k) (A := 999) (B := 65) (by omega) b (by decide) (by decide)
  omega
theorem W1_b {L z : Nat → Int} (h : envL L z) {w a : Nat} (hw : w < 2) (ha : a < 36) : -259935 ≤ W1 L z w a ∧ W1 L z w a ≤ 259935 := by
  have a := lc_b h (w := w) (show 0 < 3 by decide) ha
  have b := h.2 w hw
  unfold W1; omega
theorem W2_b {L z : Nat → Int} (h : envL L z) {w a b : Nat} (hw : w < 2) (ha : a < 36) : -324870 ≤ W2 L z w a b ∧ W2 L z w a b ≤ 324870 := by
  have x := W1_b h hw ha
  have y := lc_b h (w := w) (show 1 < 3 by decide) (show (a + b) % 36 < 36 by omega)
  unfold W2; omega
theorem W3_b {L z : Nat → Int} (h : envL L z) {w a b c : Nat} (hw : w < 2) (ha : a < 36) : -389805 ≤ W3 L z w a b c ∧ W3 L z w a b c ≤ 389805 := by
  have x := W2_b h (b := b) hw ha
  have y := lc_b h (w := w) (show 2 < 3 by decide) (show (a + b + c) % 36 < 36 by omega)
  unfold W3; omega
theorem sqs_b {L z : Nat → Int} (h : envL L z) {a b c : Nat} (ha : a < 36) : 0 ≤ sqs L z a b c ∧ sqs L z a b c < 2 ^ 60 := by
  have x := bnd_mul (W3_b h (b := b) (c := c) (show 0 < 2 by decide) ha) (W3_b h (b := b) (c := c) (show 0 < 2 by decide) ha) (by decide) (by decide)
  have y := bnd_mul (W3_b h (b := b) (c := c) (show 1 < 2 by decide) ha) (W3_b h (b := b) (c := c) (show 1 < 2 by decide) ha) (by decide) (by decide)
  have p := isq (W3 L z 0 a b c)
  have q := isq (W3 L z 1 a b c)
  unfold sqs; omega
def lv (p : Option (Nat × Int)) : Int := match p with
  | none => 2 ^ 60
  | some q => q.2
def ud (p : Option (Nat × Int)) (t : Nat) (s : Int) : Option (Nat × Int) := if lv p ≤ s then p else some (t, s)
def thr (r : Nat → Int32) (L z : Nat → Int) (a b : Nat) (p : Option (Nat × Int)) : Nat → Option (Nat × Int)
  | 0 => p
  | c + 1 => if r (72 + c) = 0 then thr r L z a b p c else ud (thr r L z a b p c) (10000 * a + 100 * b + c) (sqs L z a b c)
def sec (r : Nat → Int32) (L z : Nat → Int) (a : Nat) (p : Option (Nat × Int)) : Nat → Option (Nat × Int)
  | 0 => p
  | b + 1 => if r (36 + b) = 0 then sec r L z a p b else thr r L z a b (sec r L z a p b) 36
def fsts (r : Nat → Int32) (L z : Nat → Int) : Nat → Option (Nat × Int)
  | 0 => none
  | a + 1 => if r a = 0 then fsts r L z a else sec r L z a (fsts r L z a) 36
theorem thr_keep {r : Nat → Int32} {L z : Nat → Int} {a b : Nat} {p : Option (Nat × Int)} (hL : envL L z) (h : lv p ≤ alr (W2 L z 0 a b) (W2 L z 1 a b) (L 2)) : ∀ c, thr r L z a b p c = p := by
  intro c
  induction c with
  | zero => rfl
  | succ c ih =>
    unfold thr
    rw [ih]
    by_cases e : r (72 + c) = 0
    · rw [if_pos e]
    · rw [if_neg e]
      have l2 := hL.1 2 (by decide)
      have := alr_le (u := W2 L z 0 a b) (v := W2 L z 1 a b) (l := L 2) (h := (a + b + c) % 36) (by omega) (by omega)
      unfold ud
      rw [if_pos]
      unfold sqs W3
      omega
/-- what the loops keep -/
def okp (p : Option (Nat × Int)) : Prop := 0 ≤ lv p ∧ lv p ≤ 2 ^ 60
theorem ud_ok {p : Option (Nat × Int)} {t : Nat} {s : Int} (h : okp p) (hs : 0 ≤ s ∧ s < 2 ^ 60) : okp (ud p t s) := by
  unfold ud
  by_cases c : lv p ≤ s
  · rw [if_pos c]; exact h
  · rw [if_neg c]; exact ⟨hs.1, Int.le_of_lt hs.2⟩
def nX (A0 : Nat → Nat → Int32) (p : Option (Nat × Int)) (A : Nat → Nat → Int32) (ls : Nat → Nat → Int64) : Prop := (∀ k, k ≠ 13 → A k = A0 k) ∧ ls 3 0 = LZ (lv p) ∧ (∀ q, p = some q → A 13 0 = nI q.1) ∧ okp p
theorem lv_i64 {p : Option (Nat × Int)} (h : okp p) : -(2 ^ 63) ≤ lv p ∧ lv p < 2 ^ 63 := by have := h.1; have := h.2; omega
theorem thX_loop {Q : St → Prop} {A0 : Nat → Nat → Int32} {L z : Nat → Int} {a b : Nat} {p : Option (Nat × Int)} (hL : envL L z) (h12 : A0 12 0 = IZ (L 2)) (ha : a < 36) (hb : b < 36) (hQ : ∀ A ls, nX A0 (thr (A0 11) L z a b p 36) A ls → Q (A, ls)) : ∀ (m c : Nat) (A : Nat → Nat → Int32) (ls : Nat → Nat → Int64), c + m = 36 → nX A0 (thr (A0 11) L z a b p c) A ls → f_X2_seekThird_b3 Q (m + 1) (nI (100 * (100 * a + b))) (nI ((a + b) % 36)) (IZ (W2 L z 0 a b)) (IZ (W2 L z 1 a b)) (nI c) (A, ls) := by
  intro m
  induction m with
  | zero =>
    intro c A ls hc hn
    have : c = 36 := by omega
    subst this
    unfold f_X2_seekThird_b3
    exact bt (by decide) (hQ A ls hn)
  | succ m ih =>
    intro c A ls hc hn
    have ih' := fun A ls => ih (c + 1) A ls (by omega)
    unfold thr at ih'
    obtain ⟨n1, n2, n3, n4⟩ := id hn
    unfold f_X2_seekThird_b3
    rw [nI_1, show (72 : Int32) + nI c = nI (72 + c) from nI_add 72 c, nI_add, nI_add, nI_clamp (by omega)]
    refine bf (nI_ge (a := c) (b := 36) (by omega) (by decide)) ⟨vp_in_nI (by omega) (by decide), ?_⟩
    have e11 : ((A, ls) : St).1 11 = A0 11 := n1 11 (by decide)
    rw [e11]
    by_cases e : A0 11 (72 + c) = 0
    · rw [if_pos e] at ih'
      exact bt e (nmx (ih' A ls hn))
    · rw [if_neg e] at ih'
      refine bf e (sp_round (by omega) ?_)
      have eh : ((a + b) % 36 + c) % 36 = (a + b + c) % 36 := by omega
      rw [eh]
      have e12 : ((A, ls) : St).1 12 0 = IZ (L 2) := by show A 12 0 = _; rw [n1 12 (by decide)]; exact h12
      have w0 := W3_b hL (b := b) (c := c) (show 0 < 2 by decide) ha
      have w1 := W3_b hL (b := b) (c := c) (show 1 < 2 by decide) ha
      have sb := sqs_b hL (b := b) (c := c) ha
      refine sp_cOf (by omega) (nmx (sp_sOf (by omega) (nmx (nmx ?_))))
      rw [e12, cof_IZ, sof_IZ, IZ_mul, IZ_mul, IZ_sub, IZ_sub]
      rw [show W2 L z 0 a b - L 2 * ccI 0 ((a + b + c) % 36) = W3 L z 0 a b c from rfl, show W2 L z 1 a b - L 2 * ccI 1 ((a + b + c) % 36) = W3 L z 1 a b c from rfl]
      rw [IZ_wide (by omega), IZ_wide (by omega), LZ_mul, LZ_mul, LZ_add]
      rw [show W3 L z 0 a b c * W3 L z 0 a b c + W3 L z 1 a b c * W3 L z 1 a b c = sqs L z a b c from rfl]
      rw [show ((A, ls) : St).2 3 0 = LZ (lv (thr (A0 11) L z a b p c)) from n2, LZ_le (lv_i64 n4) (by omega)]
      have ok' := ud_ok (t := 10000 * a + 100 * b + c) n4 sb
      by_cases k : lv (thr (A0 11) L z a b p c) ≤ sqs L z a b c
      · refine bt k (nmx (ih' A ls ?_))
        unfold ud; rw [if_pos k]; exact hn
      · refine bf k (nmx (nmx (nmx ?_)))
        rw [sL_pair]
        have et : 100 * (100 * a + b) + c = 10000 * a + 100 * b + c := by omega
        rw [et]
        refine ih' (va_up A 13 (upd (A 13) 0 (nI (10000 * a + 100 * b + c)))) (lu ls 3 0 (LZ (sqs L z a b c))) ⟨fun x hx => ?_, ?_, fun q hq => ?_, ok'⟩
        · have : (sI (A, lu ls 3 0 (LZ (sqs L z a b c))) 13 0 (nI (10000 * a + 100 * b + c))).1 x = A x := sI_at hx
          exact this.trans (n1 x hx)
        · rw [lu_on, pk_uLs]; unfold ud; rw [if_neg k]; rfl
        · have e13 : (sI (A, lu ls 3 0 (LZ (sqs L z a b c))) 13 0 (nI (10000 * a + 100 * b + c))).1 13 = upd (A 13) 0 (nI (10000 * a + 100 * b + c)) := sI_on
          show (sI (A, lu ls 3 0 (LZ (sqs L z a b c))) 13 0 (nI (10000 * a + 100 * b + c))).1 13 0 = _
          rw [e13, pk_us]
          unfold ud at hq
          rw [if_neg k] at hq
          cases hq; rfl
