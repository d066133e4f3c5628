/-! ===== the reference's table; table, rank, told ===== -/
theorem rgtM_loop {Q : St → Prop} {K10 : Int32 → St → Prop} {K32 : Int32 → Int32 → Int32 → St → Prop} {X M : St} {u i w : Nat} {t : Nat → Int} (hR : RelX X M) (hi : i < 20) (hw : w < 2) (hh : hds M i) : ∀ (m j : Nat) (ls : Nat → Nat → Int64), j + m = 3 → rowL (ls 1) 3 (fun y => t y + if y < j then ccI w (hdX M i y) * (itM X (2 * i + w)).toInt else 0) →
    (∀ ls', (∀ z, z ≠ 1 → ls' z = ls z) → rowL (ls' 1) 3 (fun y => t y + ccI w (hdX M i y) * (itM X (2 * i + w)).toInt) → K32 (nI u) (nI i) (nI (w + 1)) (M.1, ls')) → f_X8_findTable_b40 Q K10 K32 (m + 1) (nI u) (nI i) (nI w) (nI j) (M.1, ls) := by
  intro m
  induction m with
  | zero =>
    intro j ls hj hr hQ
    unfold f_X8_findTable_b40
    refine bt (by rw [show j = 3 by omega]; decide) (nmx ?_)
    rw [nI_1]
    refine hQ ls (fun _ _ => rfl) (fun y hy => ?_)
    have := hr y hy
    simp only [if_pos (show y < j by omega)] at this
    exact this
  | succ m ih =>
    intro j ls hj hr hQ
    unfold f_X8_findTable_b40
    rw [ix2, nI_add, nI_1, nI_1, nI_clamp (by omega)]
    refine bf (nI_ge (a := j) (b := 3) (by omega) (by decide)) ⟨vp_in_nI (by omega) (by decide), ?_⟩
    refine sp_partM (τ := (M.1, ls)) (j := j) hR.2.2.2.2.2.2 hi (by omega) hw hh ?_
    refine sp_item (X := X) (M := (M.1, ls)) hR (by omega) ⟨vp_in_nI (by omega) (by decide), nmx (nmx ?_)⟩
    rw [sL_pair]
    refine ih (j + 1) _ (by omega) (fun y hy => ?_) (fun ls' h1 h2 => hQ ls' (fun z hz => (h1 z hz).trans (lu_at hz)) h2)
    rw [lu_on]
    by_cases e : y = j
    · subst e
      rw [pk_uLs]
      have := hr y hy
      simp only [if_neg (show ¬ y < y by omega), Int.add_zero] at this
      simp only [if_pos (show y < y + 1 by omega)]
      show ls 1 y + Int32.toInt64 (CS w (hdX M i y)) * Int32.toInt64 (itM X (2 * i + w)) = _
      rw [this, wide_LZ, wide_LZ, LZ_mul, LZ_add]; rfl
    · rw [pk_uLn e]
      have := hr y hy
      rw [this]
      by_cases c : y < j
      · simp only [if_pos c, if_pos (show y < j + 1 by omega)]
      · simp only [if_neg c, if_neg (show ¬ y < j + 1 by omega)]
theorem pI_eq {P : Nat} {X M : St} (hP : rPos P X M) {i x : Nat} (hi : i < P) (hx : x < 9) : pI M i x = pI X i x := by
  unfold pI pW
  rw [hdX_eq hP hi (show x / 3 < 3 by omega), hdX_eq hP hi (show x % 3 < 3 by omega)]
theorem sumM_loop2 {Q : St → Prop} {X M : St} {P : Nat} {l : List Nat} (hR : RelX X M) (hP : rPos P X M) (hl : l.length ≤ 12) (h17 : M.1 17 0 = nI l.length) (hrow : rowIs (M.1 5) l) (hmem : ∀ x ∈ l, x < P ∧ meas X x = true) (hQ : ∀ ls, rowL (ls 0) 9 (gU X l l.length) → rowL (ls 1) 3 (rU X l l.length) → Q (M.1, ls)) : ∀ (m u : Nat) (ls : Nat → Nat → Int64), u + m = l.length → rowL (ls 0) 9 (gU X l u) → rowL (ls 1) 3 (rU X l u) → f_X8_findTable_b10 Q (m + 1) (nI u) (M.1, ls) := by
  have h20 := hP.1
  intro m
  induction m with
  | zero =>
    intro u ls hu h0 h1
    have : u = l.length := by omega
    subst this
    unfold f_X8_findTable_b10
    exact bt (by rw [show ((M.1, ls) : St).1 17 0 = nI l.length from h17]; exact Int32.le_refl _) (hQ ls h0 h1)
  | succ m ih =>
    intro u ls hu h0 h1
    have hult : u < l.length := by omega
    have hget : l[u]? = some (l.getD u 0) := by rw [List.getD_eq_getElem?_getD, List.getElem?_eq_getElem hult]; rfl
    have hr := hrow u _ hget
    obtain ⟨m1, m2⟩ := hmem _ (List.mem_of_getElem? hget)
    unfold f_X8_findTable_b10
    refine bf (by rw [show ((M.1, ls) : St).1 17 0 = nI l.length from h17]; exact nI_ge hult (by omega)) ⟨vp_in_nI (by omega) (by decide), nmx ?_⟩
    rw [nI_clamp (by omega), show ((M.1, ls) : St).1 5 u = nI (l.getD u 0) from hr]
    refine sp_adds hR.2.2.2.2.2.2 (by omega) (hP.hM m1) h0 (fun ls1 a1 a2 => ⟨3, ?_⟩)
    unfold f_X8_findTable_b32
    refine bf (by decide) ⟨4, ?_⟩
    rw [n0]
    refine rgtM_loop (t := rU X l u) (w := 0) hR (by omega) (by decide) (hP.hM m1) 3 0 ls1 rfl (fun y hy => ?_) (fun ls2 b1 b2 => ?_)
    · rw [a1 1 (by decide), h1 y hy]; simp
    · unfold f_X8_findTable_b32
      refine bf (by decide) ⟨4, ?_⟩
      rw [n0]
      refine rgtM_loop (t := fun y => rU X l u y + ccI 0 (hdX M (l.getD u 0) y) * (itM X (2 * l.getD u 0 + 0)).toInt) (w := 1) hR (by omega) (by decide) (hP.hM m1) 3 0 ls2 rfl (fun y hy => ?_) (fun ls3 c1 c2 => ?_)
      · rw [b2 y hy]; simp
      · unfold f_X8_findTable_b32
        refine bt (by decide) (nmx ?_)
        rw [nI_1]
        refine ih (u + 1) ls3 (by omega) (fun y hy => ?_) (fun y hy => ?_)
        · rw [c1 0 (by decide), b1 0 (by decide), a2 y hy]
          show LZ (gU X l u y + pI M (l.getD u 0) y) = LZ (gU X l u y + pI X (l.getD u 0) y)
          rw [pI_eq hP m1 hy]
        · rw [c2 y hy]
          have e0 : itM X (2 * l.getD u 0 + 0) = X.1 20 (2 * l.getD u 0 + 0) := by unfold itM; rw [if_pos (meas_at (w := 0) m2 (by decide)).1]
          have e1 : itM X (2 * l.getD u 0 + 1) = X.1 20 (2 * l.getD u 0 + 1) := by unfold itM; rw [if_pos (meas_at (w := 1) m2 (by decide)).1]
          show LZ (rU X l u y + ccI 0 (hdX M (l.getD u 0) y) * (itM X (2 * l.getD u 0 + 0)).toInt + ccI 1 (hdX M (l.getD u 0) y) * (itM X (2 * l.getD u 0 + 1)).toInt) = LZ (rU X l u y + (ccI 0 (hdX X (l.getD u 0) y) * (X.1 20 (2 * l.getD u 0 + 0)).toInt + ccI 1 (hdX X (l.getD u 0) y) * (X.1 20 (2 * l.getD u 0 + 1)).toInt))
          rw [e0, e1, hdX_eq hP m1 hy, Int.add_assoc]
theorem sp_findTable {Q : St → Prop} {X M : St} {P : Nat} (hR : RelX X M) (hP : rPos P X M) (hQ : ∀ τ', eqM M τ' → rowL (τ'.2 0) 9 (gT X P) → rowL (τ'.2 1) 3 (gR X P) → Q τ') : f_X8_findTable M Q := by
  unfold f_X8_findTable
  refine sp_findUsed hR hP (fun τ1 hm _ h17 hrow => ?_)
  obtain ⟨A, ls⟩ := τ1
  refine sp_nothing (fun ls1 _ a0 a1 => ⟨(ul (uB X) P).length + 1, ?_⟩)
  have hR' : RelX X (A, ls1) := hR.keep (M' := (A, ls)) eqX.rf hm
  have hP' : rPos P X (A, ls1) := hP.cg (M' := (A, ls)) rfl rfl rfl rfl (hm 1 (by decide) (by decide) (by decide) (by decide)) (hm 3 (by decide) (by decide) (by decide) (by decide)) (hm 4 (by decide) (by decide) (by decide) (by decide))
  refine sumM_loop2 (M := (A, ls1)) hR' hP' (ul_len (uB X) P) h17 hrow (fun x hxm => ?_) (fun ls2 b0 b1 => hQ (A, ls2) hm b0 b1) (ul (uB X) P).length 0 ls1 (by omega) a0 a1
  obtain ⟨c1, c2⟩ := ul_mem (uB X) P x hxm
  unfold uB at c2
  rw [Bool.and_eq_true] at c2
  exact ⟨c1, c2.2⟩
theorem ob_table : Ob_table RelX := by
  intro σ τ a1 a2 hR
  obtain ⟨hLen, ⟨P, hP⟩, hCam, hLim, hShe, hLat, hCs⟩ := id hR
  unfold f_X7_table
  by_cases h1 : inr a1 0 2
  · refine wX1 (a := 0) (b := 2) (by decide) (by decide) h1 (bf one_ne ?_)
    by_cases h2 : inr a2 0 2
    · refine wX1 (a := 0) (b := 2) (by decide) (by decide) h2 (nt one_ne ?_)
      refine sp_sumUsed hR hP (fun σ' hx r0 _ => ?_)
      obtain ⟨i, hi, rfl⟩ := inr_nI (n := 2) h1 (by decide)
      obtain ⟨j, hj, rfl⟩ := inr_nI (n := 2) h2 (by decide)
      rw [ix3, nI_clamp (by omega)]
      have hin : vp_in (nI (3 * i + j)) 9 := vp_in_nI (by omega) (by decide)
      refine ⟨hin, ?_⟩
      unfold f_X8_table
      refine wM1 (a := 0) (b := 2) (by decide) (by decide) h1 (bf one_ne (wM1 (a := 0) (b := 2) (by decide) (by decide) h2 (nt one_ne ?_)))
      rw [ix3, nI_clamp (by omega)]
      exact sp_findTable hR hP (fun τ' hm m0 _ => ⟨hin, by rw [r0 _ (by omega), m0 _ (by omega)], hR.keep hx hm⟩)
    · refine wX0 (a := 0) (b := 2) (by decide) (by decide) h2 (nf rfl ?_)
      unfold f_X8_table f_X8_no
      exact wM1 (a := 0) (b := 2) (by decide) (by decide) h1 (bf one_ne (wM0 (a := 0) (b := 2) (by decide) (by decide) h2 (nf rfl ⟨by decide, hR⟩)))
  · refine wX0 (a := 0) (b := 2) (by decide) (by decide) h1 (bt rfl ?_)
    unfold f_X8_table f_X8_no
    exact wM0 (a := 0) (b := 2) (by decide) (by decide) h1 (bt rfl ⟨by decide, hR⟩)
/-- the table is even about its diagonal, and small -/
def symm3 (g : Nat → Int) : Prop := g 3 = g 1 ∧ g 6 = g 2 ∧ g 7 = g 5
def small (g : Nat → Int) (B : Int) : Prop := ∀ x, x < 9 → -B ≤ g x ∧ g x ≤ B
theorem pI_symm (X : St) (i : Nat) : symm3 (pI X i) := by
  unfold symm3 pI pW
  refine ⟨?_, ?_, ?_⟩ <;> simp only [Nat.reduceDiv, Nat.reduceMod] <;> rw [Int.mul_comm (ccI 0 _) (ccI 0 _), Int.mul_comm (ccI 1 _) (ccI 1 _)]
theorem pp_b : ∀ h, h < 36 → ∀ g, g < 36 → -4225 ≤ ccI 0 h * ccI 0 g + ccI 1 h * ccI 1 g ∧ ccI 0 h * ccI 0 g + ccI 1 h * ccI 1 g ≤ 4225 := by decide +kernel
theorem pI_small {X : St} {i : Nat} (hh : hds X i) : small (pI X i) 4225 := fun x hx => pp_b _ (hdX_lt hh (show x / 3 < 3 by omega)).1 _ (hdX_lt hh (show x % 3 < 3 by omega)).1
theorem gU_symm (X : St) (l : List Nat) : ∀ u, symm3 (gU X l u) := by
  intro u
  induction u with
  | zero => exact ⟨rfl, rfl, rfl⟩
  | succ u ih =>
    have := pI_symm X (l.getD u 0)
    exact ⟨by show gU X l u 3 + _ = gU X l u 1 + _; rw [ih.1, this.1], by show gU X l u 6 + _ = gU X l u 2 + _; rw [ih.2.1, this.2.1], by show gU X l u 7 + _ = gU X l u 5 + _; rw [ih.2.2, this.2.2]⟩
theorem gU_small {X : St} {l : List Nat} (hm : ∀ x ∈ l, hds X x) : ∀ u, u ≤ l.length → small (gU X l u) (4225 * u) := by
  intro u
  induction u with
  | zero => intro _ x hx; exact ⟨Int.le_refl _, Int.le_refl _⟩
  | succ u ih =>
    intro hu x hx
    have hget : l[u]? = some (l.getD u 0) := by rw [List.getD_eq_getElem?_getD, List.getElem?_eq_getElem (by omega)]; rfl
    have a := ih (by omega) x hx
    have b := pI_small (hm _ (List.mem_of_getElem? hget)) x hx
    show -(4225 * ((u : Int) + 1)) ≤ gU X l u x + pI X (l.getD u 0) x ∧ gU X l u x + pI X (l.getD u 0) x ≤ 4225 * ((u : Int) + 1)
    omega
theorem gT_ok {X M : St} {P : Nat} (hP : rPos P X M) : symm3 (gT X P) ∧ small (gT X P) 50700 := by
  refine ⟨gU_symm _ _ _, fun x hx => ?_⟩
  have hl := ul_len (uB X) P
  have := gU_small (X := X) (l := ul (uB X) P) (fun y hy => hP.hX (ul_mem (uB X) P y hy).1) _ (Nat.le_refl _) x hx
  have h2 : (4225 : Int) * ((ul (uB X) P).length : Int) ≤ 50700 := by omega
  unfold gT
  omega
def detI (g : Nat → Int) : Int := g 0 * (g 4 * g 8 - g 5 * g 7) - g 1 * (g 3 * g 8 - g 5 * g 6) + g 2 * (g 3 * g 7 - g 4 * g 6)
theorem bnd_mul {a b A B : Int} (ha : -A ≤ a ∧ a ≤ A) (hb : -B ≤ b ∧ b ≤ B) (hA : 0 ≤ A) (hB : 0 ≤ B) : -(A * B) ≤ a * b ∧ a * b ≤ A * B := by
  have e1 : 0 ≤ (A - a) * (B + b) := Int.mul_nonneg (by omega) (by omega)
  have e2 : 0 ≤ (A + a) * (B - b) := Int.mul_nonneg (by omega) (by omega)
  have e3 : (A - a) * (B + b) + (A + a) * (B - b) = 2 * (A * B) - 2 * (a * b) := by grind
  have f1 : 0 ≤ (A - a) * (B - b) := Int.mul_nonneg (by omega) (by omega)
  have f2 : 0 ≤ (A + a) * (B + b) := Int.mul_nonneg (by omega) (by omega)
  have f3 : (A - a) * (B - b) + (A + a) * (B + b) = 2 * (A * B) + 2 * (a * b) := by grind
  omega
theorem min_b {a b c d : Int} {A B : Int} (ha : -A ≤ a ∧ a ≤ A) (hb : -B ≤ b ∧ b ≤ B) (hc : -A ≤ c ∧ c ≤ A) (hd : -B ≤ d ∧ d ≤ B) (hA : 0 ≤ A) (hB : 0 ≤ B) : -(2 * (A * B)) ≤ a * b - c * d ∧ a * b - c * d ≤ 2 * (A * B) := by
  have h1 := bnd_mul ha hb hA hB
  have h2 := bnd_mul hc hd hA hB
  omega
theorem det_b {g : Nat → Int} {B : Int} (h : small g B) (hB : 0 ≤ B) : -(6 * (B * (B * B))) ≤ detI g ∧ detI g ≤ 6 * (B * (B * B)) := by
  have hBB : 0 ≤ B * B := Int.mul_nonneg hB hB
  have m0 := min_b (h 4 (by decide)) (h 8 (by decide)) (h 5 (by decide)) (h 7 (by decide)) hB hB
  have m1 := min_b (h 3 (by decide)) (h 8 (by decide)) (h 5 (by decide)) (h 6 (by decide)) hB hB
  have m2 := min_b (h 3 (by decide)) (h 7 (by decide)) (h 4 (by decide)) (h 6 (by decide)) hB hB
  have p0 := bnd_mul (h 0 (by decide)) m0 hB (by omega)
  have p1 := bnd_mul (h 1 (by decide)) m1 hB (by omega)
  have p2 := bnd_mul (h 2 (by decide)) m2 hB (by omega)
  have e : B * (2 * (B * B)) = 2 * (B * (B * B)) := by grind
  unfold detI
  omega
theorem detX_LZ {r : Nat → Int64} {g : Nat → Int} (h : rowL r 9 g) : ((r 0 * ((r 4 * r 8) - (r 5 * r 7))) - (r 1 * ((r 3 * r 8) - (r 5 * r 6)))) + (r 2 * ((r 3 * r 7) - (r 4 * r 6))) = LZ (detI g) := by
  rw [h 0 (by decide), h 1 (by decide), h 2 (by decide), h 3 (by decide), h 4 (by decide), h 5 (by decide), h 6 (by decide), h 7 (by decide), h 8 (by decide)]
  simp only [LZ_mul, LZ_sub, LZ_add]
  rfl
theorem det_i64 {g : Nat → Int} (h : small g 50700) : -(2 ^ 63) ≤ detI g ∧ detI g < 2 ^ 63 := by
  have := det_b h (by decide)
  omega
/-- minors about the diagonal -/
def nI0 (g : Nat → Int) (i : Nat) : Int := if i = 0 then g 4 * g 8 - g 5 * g 5 else if i = 1 then g 0 * g 8 - g 2 * g 2 else g 0 * g 4 - g 1 * g 1
def rw0 (g : Nat → Int) (i : Nat) : Nat := if nI0 g i ≠ 0 then 2 else if (if i = 0 then g 4 else g 0) ≠ 0 ∨ (if i = 2 then g 4 else g 8) ≠ 0 then 1 else 0
def rk0 (g : Nat → Int) : Nat := if detI g ≠ 0 then 3 else max (rw0 g 0) (max (rw0 g 1) (rw0 g 2))
theorem rw0_le (g : Nat → Int) (i : Nat) : rw0 g i ≤ 2 := by
  unfold rw0
  by_cases h : nI0 g i ≠ 0
  · rw [if_pos h]; exact Nat.le_refl 2
  · rw [if_neg h]
    by_cases h2 : (if i = 0 then g 4 else g 0) ≠ 0 ∨ (if i = 2 then g 4 else g 8) ≠ 0
    · rw [if_pos h2]; exact Nat.le_succ 1
    · rw [if_neg h2]; exact Nat.zero_le 2
theorem rwb {Q : Int32 → St → Prop} {σ : St} {x y z : Nat} {A Bv Cv : Int} {j k : Int32} {v : Nat} (hj : ((4 : Int32) * j) = nI x) (hk : ((4 : Int32) * k) = nI y) (hjk : ((3 : Int32) * j) + k = nI z) (hx : x < 9) (hy : y < 9) (hz : z < 9) (ex : σ.2 0 x = LZ A) (ey : σ.2 0 y = LZ Bv) (ez : σ.2 0 z = LZ Cv) (bA : -50700 ≤ A ∧ A ≤ 50700) (bB : -50700 ≤ Bv ∧ Bv ≤ 50700) (bC : -50700 ≤ Cv ∧ Cv ≤ 50700) (hv : v = if A * Bv - Cv * Cv ≠ 0 then 2 else if A ≠ 0 ∨ Bv ≠ 0 then 1 else 0) (q : Q (nI v) σ) : f_X6_rankWithout_b20 Q j k σ := by
  have h1 := bnd_mul bA bB (by decide) (by decide)
  have h2 := bnd_mul bC bC (by decide) (by decide)
  unfold f_X6_rankWithout_b20
  rw [hj, hk, hjk, nI_clamp (by omega), nI_clamp (by omega), nI_clamp (by omega)]
  refine ⟨vp_in_nI hx (by decide), nmx ⟨vp_in_nI hy (by decide), nmx ⟨vp_in_nI hz (by decide), nmx ?_⟩⟩⟩
  rw [ex, ey, ez, LZ_mul, LZ_mul, LZ_eq (by omega) (by omega), LZ_0 (by omega), LZ_0 (by omega)]
  by_cases e : A * Bv = Cv * Cv
  · refine bt e ?_
    rw [if_neg (by omega)] at hv
    by_cases e1 : A = 0
    · refine nf e1 ?_
      by_cases e2 : Bv = 0
      · refine bt e2 ?_
        rw [if_neg (by intro h; rcases h with h | h; exact h e1; exact h e2)] at hv
        rw [hv] at q; exact q
      · refine bf e2 ?_
        rw [if_pos (Or.inr e2)] at hv
        rw [hv] at q; exact q
    · refine nt e1 ?_
      rw [if_pos (Or.inl e1)] at hv
      rw [hv] at q; exact q
  · refine bf e ?_
    rw [if_pos (by omega)] at hv
    rw [hv] at q; exact q
theorem sp_rw {Q : Int32 → St → Prop} {σ : St} {g : Nat → Int} {i : Nat} (hr : rowL (σ.2 0) 9 g) (hs : small g 50700) (hi : i < 3) (q : Q (nI (rw0 g i)) σ) : f_X6_rankWithout (nI i) σ Q := by
  unfold f_X6_rankWithout
  rcases (show i = 0 ∨ i = 1 ∨ i = 2 by omega) with rfl | rfl | rfl
  · refine nf rfl (nt (by decide) ?_)
    exact rwb (x := 4) (y := 8) (z := 5) (by decide) (by decide) (by decide) (by decide) (by decide) (by decide) (hr 4 (by decide)) (hr 8 (by decide)) (hr 5 (by decide)) (hs 4 (by decide)) (hs 8 (by decide)) (hs 5 (by decide)) rfl q
  · refine nt (by decide) (nt (by decide) ?_)
    exact rwb (x := 0) (y := 8) (z := 2) (by decide) (by decide) (by decide) (by decide) (by decide) (by decide) (hr 0 (by decide)) (hr 8 (by decide)) (hr 2 (by decide)) (hs 0 (by decide)) (hs 8 (by decide)) (hs 2 (by decide)) rfl q
  · refine nt (by decide) (nf rfl ?_)
    exact rwb (x := 0) (y := 4) (z := 1) (by decide) (by decide) (by decide) (by decide) (by decide) (by decide) (hr 0 (by decide)) (hr 4 (by decide)) (hr 1 (by decide)) (hs 0 (by decide)) (hs 4 (by decide)) (hs 1 (by decide)) rfl q
theorem mx_nI {a b : Nat} (ha : a < 100) (hb : b < 100) : mx (nI a) (nI b) = nI (max a b) := by
  unfold mx
  by_cases h : a < b
  · rw [if_pos (nI_lt h (by omega)), Nat.max_eq_right (by omega)]
  · rw [if_neg (nI_nlt (by omega) (by omega)), Nat.max_eq_left (by omega)]
theorem sp_detX {Q : Int64 → St → Prop} {σ : St} {g : Nat → Int} (hr : rowL (σ.2 0) 9 g) (q : Q (LZ (detI g)) σ) : f_X6_determinant σ Q := by
  unfold f_X6_determinant f_X6_determinantOf_c
  rw [detX_LZ hr]; exact q
theorem sp_rkX {Q : Int32 → St → Prop} {σ : St} {g : Nat → Int} (hr : rowL (σ.2 0) 9 g) (hs : small g 50700) (q : Q (nI (rk0 g)) σ) : f_X6_rankOfAll σ Q := by
  unfold f_X6_rankOfAll
  refine sp_detX hr ?_
  rw [LZ_0 (det_i64 hs)]
  unfold rk0 at q
  have l0 := rw0_le g 0
  have l1 := rw0_le g 1
  have l2 := rw0_le g 2
  by_cases e : detI g = 0
  · refine bt e ?_
    rw [if_neg (fun h => h e)] at q
    refine sp_rw (i := 0) hr hs (by decide) (sp_rw (i := 1) hr hs (by decide) (sp_rw (i := 2) hr hs (by decide) (sp_max (sp_max ?_))))
    rw [mx_nI (by omega) (by omega), mx_nI (by omega) (by omega)]; exact q
  · refine bf e ?_
    rw [if_pos e] at q; exact q
