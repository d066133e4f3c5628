/-! ===== weight and best ===== -/
theorem sh_F : ∀ F, F < 11 → (1 : Int32) <<< (nI F &&& 31) = nI (2 ^ F) := by decide +kernel
theorem sh_k : ∀ i, i < 10 → ((nI i &&& 31).toBitVec.smod 32).toNat = i := by decide +kernel
theorem bit_i {b i : Nat} (hb : b < 1024) (hi : i < 10) : (nI b >>> (nI i &&& 31)) &&& (1 : Int32) = nI (b / 2 ^ i % 2) := by
  have h1 : b / 2 ^ i ≤ b := Nat.div_le_self _ _
  rw [pk_shrN (by omega) _ i (sh_k i hi), pk_andN (by omega) 1 (by decide)]
theorem pow_F {F : Nat} (h : F ≤ 10) : 2 ^ F ≤ 1024 := Nat.pow_le_pow_right (n := 2) (by decide) h
theorem sp_choos {Q : Int32 → St → Prop} {σ : St} {P : Nat} (h : σ.1 3 0 = nI P) (hP : P ≤ 20) (q : Q (nI (2 ^ min P 10)) σ) : f_X7_choosableSets σ Q := by
  unfold f_X7_choosableSets f_J9_min_7cf53
  rw [h, ← sh_F (min P 10) (by omega)] at *
  by_cases c : 10 < P
  · rw [Nat.min_eq_right (by omega)] at q
    exact bt (nI_lt (a := 10) c (by omega)) q
  · rw [Nat.min_eq_left (by omega)] at q
    exact bf (nI_nlt (a := 10) (b := P) (by omega) (by decide)) q
theorem sp_first {Q : Int32 → St → Prop} {σ : St} {P : Nat} (h : σ.1 3 0 = nI P) (hP : P ≤ 20) (q : Q (nI (min P 10)) σ) : f_X8_first10 σ Q := by
  unfold f_X8_first10
  rw [h]
  by_cases c : P ≤ 10
  · rw [Nat.min_eq_left (by omega)] at q
    exact bt (nI_le (b := 10) c (by decide)) q
  · rw [Nat.min_eq_right (by omega)] at q
    exact bf (nI_ge (a := 10) (b := P) (by omega) (by omega)) q
def gB (X : St) (b : Nat) : Nat → Nat → Int
  | 0, _ => 0
  | i + 1, x => gB X b i x + if b / 2 ^ i % 2 = 1 then pI X i x else 0
theorem bit_0 {b F i : Nat} (hb : b < 2 ^ F) (hi : F ≤ i) : b / 2 ^ i % 2 = 0 := by
  have : 2 ^ F ≤ 2 ^ i := Nat.pow_le_pow_right (by decide) hi
  rw [Nat.div_eq_of_lt (by omega)]
theorem gB_F {X : St} {b F : Nat} (hb : b < 2 ^ F) : ∀ i, F ≤ i → gB X b i = gB X b F := by
  intro i
  induction i with
  | zero => intro h; rw [show F = 0 by omega]
  | succ i ih =>
    intro h
    by_cases e : F = i + 1
    · rw [e]
    · rw [← ih (by omega)]
      funext x
      show gB X b i x + (if b / 2 ^ i % 2 = 1 then pI X i x else 0) = _
      rw [bit_0 hb (show F ≤ i by omega), if_neg (by decide), Int.add_zero]
def wgt (X : St) (b : Nat) : Int64 := LZ (detI (gB X b 10))
theorem one_1 {t : Nat} : nI (t % 2) = (1 : Int32) ↔ t % 2 = 1 := by
  rw [show (1 : Int32) = nI 1 from rfl, nI_eq (by omega) (by decide)]
theorem wX_loop {Q : Int64 → St → Prop} {X : St} {b F : Nat} (hF : F ≤ 10) (hb : b < 2 ^ F) (hm : ∀ x, x < F → hds X x ∧ prods X x) (hQ : ∀ ls, Q (wgt X b) (X.1, ls)) : ∀ (m i : Nat) (ls : Nat → Nat → Int64), i + m = 10 → rowL (ls 0) 9 (gB X b i) → f_X7_weightOf_b9 Q (m + 1) (nI b) (nI i) (X.1, ls) := by
  have hp := pow_F hF
  intro m
  induction m with
  | zero =>
    intro i ls hi h0
    have : i = 10 := by omega
    subst this
    unfold f_X7_weightOf_b9
    exact bt (by decide) (sp_detX (σ := (X.1, ls)) h0 (hQ ls))
  | succ m ih =>
    intro i ls hi h0
    unfold f_X7_weightOf_b9
    rw [bit_i (by omega) (by omega), nI_1, one_1]
    refine bf (nI_ge (a := i) (b := 10) (by omega) (by decide)) ?_
    by_cases c : b / 2 ^ i % 2 = 1
    · have hiF : i < F := Classical.byContradiction (fun hc => by have := bit_0 hb (show F ≤ i by omega); omega)
      refine nf c (sp_left (by omega) (hm i hiF).2 (hm i hiF).1 h0 (fun ls' k r => nmx (ih (i + 1) ls' (by omega) (fun y hy => ?_))))
      rw [r y hy]
      show LZ (gB X b i y + pI X i y) = LZ (gB X b i y + if b / 2 ^ i % 2 = 1 then pI X i y else 0)
      rw [if_pos c]
    · refine nt c (nmx (ih (i + 1) ls (by omega) (fun y hy => ?_)))
      rw [h0 y hy]
      show LZ (gB X b i y) = LZ (gB X b i y + if b / 2 ^ i % 2 = 1 then pI X i y else 0)
      rw [if_neg c, Int.add_zero]
theorem sp_weightX {Q : Int64 → St → Prop} {X M : St} {P b : Nat} {ls : Nat → Nat → Int64} (hP : rPos P X M) (hb : b < 2 ^ min P 10) (hQ : ∀ ls', Q (wgt X b) (X.1, ls')) : f_X7_weightOf (nI b) (X.1, ls) Q := by
  unfold f_X7_weightOf
  refine sp_forget (fun ls1 _ a0 _ => ⟨11, wX_loop (F := min P 10) (by omega) hb (fun x hx => ⟨hP.hX (by omega), hP.prods (by omega)⟩) hQ 10 0 ls1 rfl a0⟩)
theorem wM_loop {Q : Int64 → St → Prop} {X M : St} {P b : Nat} (hc : rCs M) (hP : rPos P X M) (hb : b < 2 ^ min P 10) (hQ : ∀ ls, Q (wgt X b) (M.1, ls)) : ∀ (m i : Nat) (ls : Nat → Nat → Int64), i + m = min P 10 → rowL (ls 0) 9 (gB X b i) → f_X8_weightOf_b6 Q (m + 1) (nI b) (nI i) (M.1, ls) := by
  have hp := pow_F (F := min P 10) (by omega)
  have h20 := hP.1
  intro m
  induction m with
  | zero =>
    intro i ls hi h0
    unfold f_X8_weightOf_b6
    refine sp_first (σ := (M.1, ls)) hP.2.2.1 h20 (bt (by rw [show i = min P 10 by omega]; exact Int32.le_refl _) ?_)
    unfold f_X8_weightNow f_X8_det
    have e0 : ((M.1, ls) : St).2 0 = ls 0 := rfl
    have ei : i = min P 10 := by omega
    rw [e0, detX_LZ h0, ei, ← gB_F hb 10 (by omega)]
    exact hQ ls
  | succ m ih =>
    intro i ls hi h0
    unfold f_X8_weightOf_b6
    rw [bit_i (by omega) (by omega), nI_1, one_1]
    refine sp_first (σ := (M.1, ls)) hP.2.2.1 h20 (bf (nI_ge (a := i) (b := min P 10) (by omega) (by omega)) ?_)
    by_cases c : b / 2 ^ i % 2 = 1
    · refine nf c (sp_adds hc (by omega) (hP.hM (by omega)) h0 (fun ls' k r => nmx (ih (i + 1) ls' (by omega) (fun y hy => ?_))))
      rw [r y hy]
      show LZ (gB X b i y + pI M i y) = LZ (gB X b i y + if b / 2 ^ i % 2 = 1 then pI X i y else 0)
      rw [if_pos c, pI_eq hP (by omega) hy]
    · refine nt c (nmx (ih (i + 1) ls (by omega) (fun y hy => ?_)))
      rw [h0 y hy]
      show LZ (gB X b i y) = LZ (gB X b i y + if b / 2 ^ i % 2 = 1 then pI X i y else 0)
      rw [if_neg c, Int.add_zero]
theorem sp_weightM {Q : Int64 → St → Prop} {X M : St} {P b : Nat} {ls : Nat → Nat → Int64} (hc : rCs M) (hP : rPos P X M) (hb : b < 2 ^ min P 10) (hQ : ∀ ls', Q (wgt X b) (M.1, ls')) : f_X8_weightOf (nI b) (M.1, ls) Q := by
  unfold f_X8_weightOf
  exact sp_nothing (fun ls1 _ a0 _ => ⟨min P 10 + 1, wM_loop hc hP hb hQ (min P 10) 0 ls1 (by omega) a0⟩)
theorem ob_weight : Ob_weight RelX := by
  intro σ τ a1 hR
  obtain ⟨hLen, ⟨P, hP⟩, hCam, hLim, hShe, hLat, hCs⟩ := id hR
  have h20 := hP.1
  have hp := pow_F (F := min P 10) (by omega)
  have h1 : 1 ≤ 2 ^ min P 10 := Nat.one_le_two_pow
  have hs : nI (2 ^ min P 10) - 1 = nI (2 ^ min P 10 - 1) := pk_sub (a := 2 ^ min P 10) (b := 1) h1
  have ht : (nI (2 ^ min P 10 - 1)).toInt = ((2 ^ min P 10 - 1 : Nat) : Int) := nI_toInt (by omega)
  unfold f_X7_weight
  refine sp_choos hP.2.1 h20 ?_
  rw [hs]
  have mm : ∀ Q : Int64 → St → Prop, f_X8_in (Int32.toInt64 a1) (0 : Int64) (Int32.toInt64 (nI (2 ^ min P 10 - 1))) τ (fun r3 σ4 => (r3 = 0 → f_X8_no (-2 : Int32) σ4 (fun r5 σ6 => Q r5 σ6)) ∧ ((¬ r3 = 0) → f_X8_weightOf a1 σ4 (fun r7 σ8 => Q r7 σ8))) → f_X8_weight a1 τ Q := by
    intro Q h
    unfold f_X8_weight
    refine sp_first hP.2.2.1 h20 ?_
    rw [sh_F _ (by omega), hs]; exact h
  by_cases hin : inr a1 0 (2 ^ min P 10 - 1 : Nat)
  · refine wX1 (a := 0) (b := (2 ^ min P 10 - 1 : Nat)) (by decide) ht hin (nt one_ne ?_)
    obtain ⟨b, hb, rfl⟩ := inr_nI (n := 2 ^ min P 10 - 1) hin (by omega)
    refine sp_weightX (X := σ) (ls := σ.2) hP (by omega) (fun ls1 => mm _ ?_)
    refine wM1 (a := 0) (b := (2 ^ min P 10 - 1 : Nat)) (by decide) (by rw [wide_toInt]; exact ht) hin (bf one_ne ?_)
    exact sp_weightM (M := τ) (ls := τ.2) hCs hP (by omega) (fun ls2 => ⟨rfl, hR.keep (X' := (σ.1, ls1)) (M' := (τ.1, ls2)) eqX.rf eqM.rf⟩)
  · refine wX0 (a := 0) (b := (2 ^ min P 10 - 1 : Nat)) (by decide) ht hin (nf rfl (mm _ ?_))
    refine wM0 (a := 0) (b := (2 ^ min P 10 - 1 : Nat)) (by decide) (by rw [wide_toInt]; exact ht) hin (bt rfl ?_)
    unfold f_X8_no
    exact ⟨by decide, hR⟩
/-- best -/
def pc (b : Nat) : Nat → Nat
  | 0 => 0
  | i + 1 => pc b i + b / 2 ^ i % 2
theorem pc_le (b : Nat) : ∀ i, pc b i ≤ i := by
  intro i
  induction i with
  | zero => exact Nat.le_refl 0
  | succ i ih => show pc b i + b / 2 ^ i % 2 ≤ i + 1; omega
def bc1 (a : Int32) : Int32 := a - (((Int32.toUInt32 a >>> (Int32.toUInt32 (1 : Int32) &&& Int32.toUInt32 31)).toInt32) &&& (1431655765 : Int32))
def bc2 (a : Int32) : Int32 := (a &&& (858993459 : Int32)) + (((Int32.toUInt32 a >>> (Int32.toUInt32 (2 : Int32) &&& Int32.toUInt32 31)).toInt32) &&& (858993459 : Int32))
def bc3 (a : Int32) : Int32 := (a + ((Int32.toUInt32 a >>> (Int32.toUInt32 (4 : Int32) &&& Int32.toUInt32 31)).toInt32)) &&& (252645135 : Int32)
def bc4 (a : Int32) : Int32 := a + ((Int32.toUInt32 a >>> (Int32.toUInt32 (8 : Int32) &&& Int32.toUInt32 31)).toInt32)
def bc5 (a : Int32) : Int32 := a + ((Int32.toUInt32 a >>> (Int32.toUInt32 (16 : Int32) &&& Int32.toUInt32 31)).toInt32)
theorem bc_all : ∀ b, b < 1024 → bc5 (bc4 (bc3 (bc2 (bc1 (nI b))))) &&& (63 : Int32) = nI (pc b 10) := by decide +kernel
theorem sp_bc {Q : Int32 → St → Prop} {σ : St} {b : Nat} (hb : b < 1024) (q : Q (nI (pc b 10)) σ) : f_J6_bitCount_0f7a4 (nI b) σ Q := by
  unfold f_J6_bitCount_0f7a4
  refine nmx (nmx (nmx (nmx (nmx ?_))))
  have := bc_all b hb
  unfold bc5 bc4 bc3 bc2 bc1 at this
  rw [this]; exact q
def bst (W : Nat → Int64) (k : Nat) : Nat → Int32 × Int64
  | 0 => (-1, 0)
  | b + 1 => if pc b 10 = k ∧ ¬ W b ≤ (bst W k b).2 then (nI b, W b) else bst W k b
theorem bestX_loop {Q : Int32 → St → Prop} {X M : St} {P k : Nat} (hP : rPos P X M) (hk : k ≤ 4) (hQ : ∀ ls, Q (bst (wgt X) k (2 ^ min P 10)).1 (X.1, ls)) : ∀ (m b : Nat) (ls : Nat → Nat → Int64), b + m = 2 ^ min P 10 → f_X7_best_b39 Q (m + 1) (nI k) (bst (wgt X) k b).1 (bst (wgt X) k b).2 (nI (2 ^ min P 10)) (nI b) (X.1, ls) := by
  have hp := pow_F (F := min P 10) (by omega)
  intro m
  induction m with
  | zero =>
    intro b ls hb
    have : b = 2 ^ min P 10 := by omega
    subst this
    unfold f_X7_best_b39
    exact bt (Int32.le_refl _) (hQ ls)
  | succ m ih =>
    intro b ls hb
    unfold f_X7_best_b39
    have hpc := pc_le b 10
    rw [nI_1]
    refine bf (nI_ge (by omega) (by omega)) (sp_bc (by omega) ?_)
    rw [nI_eq (by omega) (by omega)]
    have ih' := fun ls => ih (b + 1) ls (by omega)
    unfold bst at ih'
    by_cases c : pc b 10 = k
    · refine nf c (sp_weightX hP (by omega) (fun ls' => ?_))
      by_cases d : wgt X b ≤ (bst (wgt X) k b).2
      · rw [if_neg (fun h => h.2 d)] at ih'
        exact bt d (nmx (ih' ls'))
      · rw [if_pos ⟨c, d⟩] at ih'
        exact bf d (nmx (ih' ls'))
    · rw [if_neg (fun h => c h.1)] at ih'
      exact nt c (nmx (ih' ls))
theorem bestM50 {Q : Int32 → St → Prop} {K : Int32 → Int32 → Int64 → Int32 → St → Prop} {X M : St} {P k b : Nat} {f : Int32} {w : Int64} (hc : rCs M) (hP : rPos P X M) (hk : k ≤ 4) (hb : b < 2 ^ min P 10) (q0 : pc b 10 ≠ k → ∀ ls, K (nI k) f w (nI (b + 1)) (M.1, ls)) (q1 : pc b 10 = k → wgt X b ≤ w → ∀ ls, K (nI k) f w (nI (b + 1)) (M.1, ls)) (q2 : pc b 10 = k → ¬ wgt X b ≤ w → ∀ ls, K (nI k) (nI b) (wgt X b) (nI (b + 1)) (M.1, ls)) : ∀ (m i : Nat) (ls : Nat → Nat → Int64), i + m = 10 → f_X8_best_b50 Q K (m + 1) (nI k) f w (nI b) (nI (pc b i)) (nI i) (M.1, ls) := by
  have hp := pow_F (F := min P 10) (by omega)
  intro m
  induction m with
  | zero =>
    intro i ls hi
    have : i = 10 := by omega
    subst this
    have hpc := pc_le b 10
    unfold f_X8_best_b50
    rw [nI_1, nI_eq (by omega) (by omega)]
    refine bt (by decide) ?_
    by_cases c : pc b 10 = k
    · refine nf c (sp_weightM hc hP hb (fun ls' => ?_))
      by_cases d : wgt X b ≤ w
      · exact bt d (nmx (q1 c d ls'))
      · exact bf d (sp_weightM hc hP hb (fun ls2 => nmx (q2 c d ls2)))
    · exact nt c (nmx (q0 c ls))
  | succ m ih =>
    intro i ls hi
    unfold f_X8_best_b50
    rw [bit_i (by omega) (by omega), nI_add, nI_1, nI_1]
    exact bf (nI_ge (a := i) (b := 10) (by omega) (by decide)) (nmx (nmx (ih (i + 1) ls (by omega))))
theorem bestM_loop {Q : Int32 → St → Prop} {X M : St} {P k : Nat} (hc : rCs M) (hP : rPos P X M) (hk : k ≤ 4) (hQ : ∀ ls, Q (bst (wgt X) k (2 ^ min P 10)).1 (M.1, ls)) : ∀ (m b : Nat) (ls : Nat → Nat → Int64), b + m = 2 ^ min P 10 → f_X8_best_b33 Q (m + 1) (nI k) (bst (wgt X) k b).1 (bst (wgt X) k b).2 (nI b) (M.1, ls) := by
  have hp := pow_F (F := min P 10) (by omega)
  have h20 := hP.1
  intro m
  induction m with
  | zero =>
    intro b ls hb
    have : b = 2 ^ min P 10 := by omega
    subst this
    unfold f_X8_best_b33
    refine sp_first (σ := (M.1, ls)) hP.2.2.1 h20 ?_
    rw [sh_F _ (by omega)]
    exact bt (Int32.le_refl _) (hQ ls)
  | succ m ih =>
    intro b ls hb
    unfold f_X8_best_b33
    refine sp_first (σ := (M.1, ls)) hP.2.2.1 h20 ?_
    rw [sh_F _ (by omega)]
    have ih' := fun ls => ih (b + 1) ls (by omega)
    unfold bst at ih'
    refine bf (nI_ge (by omega) (by omega)) ⟨11, ?_⟩
    refine bestM50 hc hP hk (by omega) (fun c ls => ?_) (fun c d ls => ?_) (fun c d ls => ?_) 10 0 ls rfl
    · have := ih' ls; rw [if_neg (fun h => c h.1)] at this; exact this
    · have := ih' ls; rw [if_neg (fun h => h.2 d)] at this; exact this
    · have := ih' ls; rw [if_pos ⟨c, d⟩] at this; exact this
theorem ob_best : Ob_best RelX := by
  intro σ τ a1 hR
  obtain ⟨hLen, ⟨P, hP⟩, hCam, hLim, hShe, hLat, hCs⟩ := id hR
  have h20 := hP.1
  have hp := pow_F (F := min P 10) (by omega)
  have h1p : 1 ≤ 2 ^ min P 10 := Nat.one_le_two_pow
  unfold f_X7_best
  by_cases h1 : inr a1 1 4
  · refine wX1 (a := 1) (b := 4) (by decide) (by decide) h1 (nt one_ne ?_)
    obtain ⟨k, hk, rfl⟩ := inr_nI (n := 4) ⟨by have := h1.1; omega, h1.2⟩ (by decide)
    have hk1 : 1 ≤ k := by have := h1.1; rw [nI_toInt (by omega)] at this; omega
    rw [hP.2.1, nI_leI (by omega) (by omega)]
    by_cases c : k ≤ P
    · refine bt c (sp_choos hP.2.1 h20 ⟨2 ^ min P 10, ?_⟩)
      have b1 : bst (wgt σ) k 1 = (-1, 0) := by
        unfold bst; rw [if_neg]
        · rfl
        · rintro ⟨h, _⟩
          exact absurd (h.symm.trans (show pc 0 10 = 0 by decide)) (by omega)
      have L := bestX_loop (Q := fun r u => f_X8_best (nI k) τ (fun r2 v => r = r2 ∧ RelX u v)) (X := σ) (M := τ) (P := P) (k := k) hP (by omega) (fun ls1 => ?_) (2 ^ min P 10 - 1) 1 σ.2 (by omega)
      · rw [b1, show 2 ^ min P 10 - 1 + 1 = 2 ^ min P 10 by omega] at L; exact L
      · unfold f_X8_best
        refine wM1 (a := 1) (b := 4) (by decide) (by decide) h1 (nt one_ne ?_)
        rw [hP.2.2.1, nI_leI (by omega) (by omega)]
        exact bt c ⟨2 ^ min P 10 + 1, bestM_loop (M := τ) hCs hP (by omega) (fun ls2 => ⟨rfl, hR.keep (X' := (σ.1, ls1)) (M' := (τ.1, ls2)) eqX.rf eqM.rf⟩) (2 ^ min P 10) 0 τ.2 (by omega)⟩
    · refine bf c ?_
      unfold f_X8_best
      refine wM1 (a := 1) (b := 4) (by decide) (by decide) h1 (nt one_ne ?_)
      rw [hP.2.2.1, nI_leI (by omega) (by omega)]
      exact bf c ⟨rfl, hR⟩
  · refine wX0 (a := 1) (b := 4) (by decide) (by decide) h1 (nf rfl ?_)
    unfold f_X8_best
    exact wM0 (a := 1) (b := 4) (by decide) (by decide) h1 (nf rfl ⟨rfl, hR⟩)
