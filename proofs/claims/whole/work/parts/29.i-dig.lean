/-! ===== digest ===== -/
def dF (v : Nat → Int64) (h : Int64) : Nat → Int64
  | 0 => h
  | n + 1 => (31 : Int64) * dF v h n + v n
def dH (X : St) (h : Int64) : Nat → Int64
  | 0 => h
  | i + 1 => (31 : Int64) * ((31 : Int64) * dH X h i + Int32.toInt64 (hndX X i 0)) + Int32.toInt64 (hndX X i 1)
def dg1 (X : St) : Int64 := dF (fun w => Int32.toInt64 (cnt X w)) 17 5
def dg2 (X : St) : Int64 := dF (fun i => Int32.toInt64 (X.1 0 i)) (dg1 X) 3
def dg3 (X : St) (P : Nat) : Int64 := dH X (dg2 X) P
def dg4 (X : St) (P : Nat) : Int64 := dF (fun k => LZ (gT X P k)) (dg3 X P) 9
def dg5 (X : St) (P : Nat) : Int64 := (31 : Int64) * dg4 X P + Int32.toInt64 (nI (rk0 (gT X P)))
def dg6 (X : St) (P n : Nat) (X2 : St) : Int64 := (31 : Int64) * dg5 X P + Int32.toInt64 (nI (nA X2 n 36))
theorem dX4 {Q : Int64 → St → Prop} {σ : St} {g : Nat → Int} {h : Int64} {n : Nat} (hr : rowL (σ.2 0) 9 g) (hs : small g 50700) (hn : n ≤ 20) (h10 : σ.1 10 0 = nI n) (q : Q ((31 : Int64) * ((31 : Int64) * dF (fun k => LZ (g k)) h 9 + Int32.toInt64 (nI (rk0 g))) + Int32.toInt64 (nI (nA σ n 36))) σ) : ∀ (m k : Nat), k + m = 9 → f_X7_digest_b119 Q (m + 1) (dF (fun k => LZ (g k)) h k) (nI k) σ := by
  intro m
  induction m with
  | zero =>
    intro k hk
    have : k = 9 := by omega
    subst this
    unfold f_X7_digest_b119
    exact bt (by decide) (sp_rkX hr hs (nmx (sp_ansX hn h10 q)))
  | succ m ih =>
    intro k hk
    unfold f_X7_digest_b119
    rw [nI_1, nI_clamp (by omega), hr k (by omega)]
    exact bf (nI_ge (a := k) (b := 9) (by omega) (by decide)) ⟨vp_in_nI (by omega) (by decide), nmx (nmx (ih (k + 1) (by omega)))⟩
theorem dX3 {Q : Int64 → St → Prop} {X M : St} {P : Nat} {h : Int64} (hR : RelX X M) (hP : rPos P X M) (q : ∀ σ', eqX X σ' → Q (dg6 X P (X.1 10 0).toNatClampNeg σ') σ') (hh : h = dg2 X) : ∀ (m i : Nat), i + m = P → f_X7_digest_b62 Q (m + 1) (dH X h i) (nI i) X := by
  obtain ⟨hLen, _, ⟨n, hn, hx10, hm10, hcam⟩, hLim, hShe, hLat, hCs⟩ := id hR
  obtain ⟨hy, hs⟩ := gT_ok hP
  have h20 := hP.1
  intro m
  induction m with
  | zero =>
    intro i hi
    have : i = P := by omega
    subst this
    unfold f_X7_digest_b62
    rw [hP.2.1]
    refine bt (Int32.le_refl _) (sp_sumUsed hR hP (fun σ' hx r0 _ => ⟨10, ?_⟩))
    have q' := q σ' hx
    rw [hx10, nI_clamp (by omega)] at q'
    rw [hh]
    exact dX4 r0 hs hn (by rw [hx 10 (by decide) (by decide) (by decide) (by decide) (by decide)]; exact hx10) q' 9 0 rfl
  | succ m ih =>
    intro i hi
    unfold f_X7_digest_b62
    rw [hP.2.1, nI_1]
    exact bf (nI_ge (by omega) (by omega)) (sp_reached (w := 0) (by omega) (by decide) (hP.hX (by omega)) (nmx (sp_reached (w := 1) (by omega) (by decide) (hP.hX (by omega)) (nmx (nmx (ih (i + 1) (by omega)))))))
theorem dX2 {Q : Int64 → St → Prop} {X : St} (q : ∃ n : Nat, f_X7_digest_b62 Q n (dg2 X) (0 : Int32) X) : ∀ (m i : Nat), i + m = 3 → f_X7_digest_b32 Q (m + 1) (dF (fun i => Int32.toInt64 (X.1 0 i)) (dg1 X) i) (nI i) X := by
  intro m
  induction m with
  | zero =>
    intro i hi
    have : i = 3 := by omega
    subst this
    unfold f_X7_digest_b32
    exact bt (by decide) q
  | succ m ih =>
    intro i hi
    unfold f_X7_digest_b32
    rw [nI_1, nI_clamp (by omega)]
    exact bf (nI_ge (a := i) (b := 3) (by omega) (by decide)) ⟨vp_in_nI (by omega) (by decide), nmx (nmx (ih (i + 1) (by omega)))⟩
theorem dX1 {Q : Int64 → St → Prop} {X M : St} (hR : RelX X M) (q : ∃ n : Nat, f_X7_digest_b32 Q n (dg1 X) (0 : Int32) X) : ∀ (m w : Nat), w + m = 5 → f_X7_digest_b6 Q (m + 1) (dF (fun w => Int32.toInt64 (cnt X w)) 17 w) (nI w) X := by
  intro m
  induction m with
  | zero =>
    intro w hw
    have : w = 5 := by omega
    subst this
    unfold f_X7_digest_b6
    exact bt (by decide) q
  | succ m ih =>
    intro w hw
    unfold f_X7_digest_b6
    rw [nI_1]
    exact bf (nI_nlt (a := 4) (b := w) (by omega) (by decide)) (sp_countX hR (by omega) (nmx (nmx (ih (w + 1) (by omega)))))
theorem dM4 {Q : Int64 → St → Prop} {A : Nat → Nat → Int32} {ls : Nat → Nat → Int64} {X : St} {g : Nat → Int} {h : Int64} {n : Nat} (hr : rowL (ls 0) 9 g) (hs : small g 50700) (hy : symm3 g) (hc : ∀ ls, rCs (A, ls)) (hm : ∀ ls, cams X (A, ls) n) (q : ∀ ls', Q ((31 : Int64) * ((31 : Int64) * dF (fun k => LZ (g k)) h 9 + Int32.toInt64 (nI (rk0 g))) + Int32.toInt64 (nI (nA X n 36))) (A, ls')) : ∀ (m k : Nat), k + m = 9 → f_X8_digest_b107 Q (m + 1) (dF (fun k => LZ (g k)) h k) (nI k) (A, ls) := by
  intro m
  induction m with
  | zero =>
    intro k hk
    have : k = 9 := by omega
    subst this
    unfold f_X8_digest_b107
    exact bt (by decide) (sp_rkM hr hs hy (fun ls' _ => nmx (sp_ansM (hc ls') (hm ls') (q ls'))))
  | succ m ih =>
    intro k hk
    unfold f_X8_digest_b107
    rw [nI_1, nI_clamp (by omega), show ((A, ls) : St).2 0 k = LZ (g k) from hr k (by omega)]
    exact bf (nI_ge (a := k) (b := 9) (by omega) (by decide)) ⟨vp_in_nI (by omega) (by decide), nmx (nmx (ih (k + 1) (by omega)))⟩
theorem dM3 {Q : Int64 → St → Prop} {X X2 M : St} {P : Nat} {h : Int64} (hR : RelX X M) (hP : rPos P X M) (hx2 : eqX X X2) (q : ∀ τ', eqM M τ' → Q (dg6 X P (X.1 10 0).toNatClampNeg X2) τ') (hh : h = dg2 X) : ∀ (m i : Nat), i + m = P → f_X8_digest_b59 Q (m + 1) (dH X h i) (nI i) M := by
  obtain ⟨hLen, _, ⟨n, hn, hx10, hm10, hcam⟩, hLim, hShe, hLat, hCs⟩ := id hR
  obtain ⟨hy, hs⟩ := gT_ok hP
  have h20 := hP.1
  intro m
  induction m with
  | zero =>
    intro i hi
    have : i = P := by omega
    subst this
    unfold f_X8_digest_b59
    rw [hP.2.2.1]
    refine bt (Int32.le_refl _) (sp_findTable hR hP (fun τ' hm m0 _ => ⟨10, ?_⟩))
    have hR2 : RelX X2 τ' := hR.keep hx2 hm
    rw [hh]
    refine dM4 (A := τ'.1) (ls := τ'.2) (X := X2) (n := n) m0 hs hy (fun ls => hR2.2.2.2.2.2.2) (fun ls => ?_) (fun ls' => ?_) 9 0 rfl
    · have ex : ∀ k, k = 6 ∨ k = 7 ∨ k = 8 ∨ k = 9 ∨ k = 10 → X2.1 k = X.1 k := fun k hk => hx2 k (by omega) (by omega) (by omega) (by omega) (by omega)
      have em : ∀ k, k = 6 ∨ k = 7 ∨ k = 8 ∨ k = 9 ∨ k = 10 → ((τ'.1, ls) : St).1 k = M.1 k := fun k hk => hm k (by omega) (by omega) (by omega) (by omega)
      unfold cams
      rw [ex 6 (by omega), ex 7 (by omega), ex 8 (by omega), ex 9 (by omega), ex 10 (by omega), em 6 (by omega), em 7 (by omega), em 8 (by omega), em 9 (by omega), em 10 (by omega)]
      exact ⟨hn, hx10, hm10, hcam⟩
    · have q' := q (τ'.1, ls') hm
      rw [hx10, nI_clamp (by omega)] at q'
      exact q'
  | succ m ih =>
    intro i hi
    unfold f_X8_digest_b59
    rw [hP.2.2.1, nI_1]
    refine bf (nI_ge (by omega) (by omega)) (sp_handOf (w := 0) hCs (by omega) (by decide) (hP.hM (by omega)) (nmx (sp_handOf (w := 1) hCs (by omega) (by decide) (hP.hM (by omega)) (nmx (nmx ?_)))))
    rw [← hnd_eq hLen hP (by omega), ← hnd_eq hLen hP (by omega)]
    exact ih (i + 1) (by omega)
theorem dM2 {Q : Int64 → St → Prop} {X M : St} (hL : rLen X M) (q : ∃ n : Nat, f_X8_digest_b59 Q n (dg2 X) (0 : Int32) M) : ∀ (m i : Nat), i + m = 3 → f_X8_digest_b32 Q (m + 1) (dF (fun i => Int32.toInt64 (X.1 0 i)) (dg1 X) i) (nI i) M := by
  intro m
  induction m with
  | zero =>
    intro i hi
    have : i = 3 := by omega
    subst this
    unfold f_X8_digest_b32
    exact bt (by decide) q
  | succ m ih =>
    intro i hi
    unfold f_X8_digest_b32
    rw [nI_1, nI_clamp (by omega), ← (hL i (by omega)).1]
    exact bf (nI_ge (a := i) (b := 3) (by omega) (by decide)) ⟨vp_in_nI (by omega) (by decide), nmx (nmx (ih (i + 1) (by omega)))⟩
theorem dM1 {Q : Int64 → St → Prop} {X M : St} (hR : RelX X M) (q : ∃ n : Nat, f_X8_digest_b32 Q n (dg1 X) (0 : Int32) M) : ∀ (m w : Nat), w + m = 5 → f_X8_digest_b6 Q (m + 1) (dF (fun w => Int32.toInt64 (cnt X w)) 17 w) (nI w) M := by
  intro m
  induction m with
  | zero =>
    intro w hw
    have : w = 5 := by omega
    subst this
    unfold f_X8_digest_b6
    exact bt (by decide) q
  | succ m ih =>
    intro w hw
    unfold f_X8_digest_b6
    rw [nI_1]
    exact bf (nI_ge (a := w) (b := 5) (by omega) (by decide)) (sp_countM hR (by omega) (nmx (nmx (ih (w + 1) (by omega)))))
theorem ob_digest : Ob_digest RelX := by
  intro σ τ hR
  obtain ⟨hLen, ⟨P, hP⟩, hCam, hLim, hShe, hLat, hCs⟩ := id hR
  unfold f_X7_digest
  refine ⟨6, dX1 hR ⟨4, dX2 ⟨P + 1, dX3 (M := τ) hR hP (fun σ' hx => ?_) rfl P 0 (by omega)⟩ 3 0 rfl⟩ 5 0 rfl⟩
  unfold f_X8_digest
  exact ⟨6, dM1 hR ⟨4, dM2 hLen ⟨P + 1, dM3 (X2 := σ') hR hP hx (fun τ' hm => ⟨rfl, hR.keep hx hm⟩) rfl P 0 (by omega)⟩ 3 0 rfl⟩ 5 0 rfl⟩
