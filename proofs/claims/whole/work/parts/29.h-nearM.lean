/-! ===== the nearest posture: the reference's loops ===== -/
def mvv (p : Option (Nat × Int)) : Int := match p with
  | none => -1
  | some q => q.2
def nM (A0 : Nat → Nat → Int32) (p : Option (Nat × Int)) (A : Nat → Nat → Int32) (ls : Nat → Nat → Int64) : Prop := (∀ k, k ≠ 21 → A k = A0 k) ∧ ls 3 0 = LZ (mvv p) ∧ (∀ q, p = some q → A 21 0 = nI q.1) ∧ okp p
def limAt (A : Nat → Nat → Int32) (r : Nat → Int32) (k : Nat) : Prop := ∃ lo sp : Nat, lo < 36 ∧ sp < 36 ∧ A 19 k = nI lo ∧ A 20 k = nI sp ∧ ∀ t, t < 36 → r (36 * k + t) = if (t + 36 - lo) % 36 ≤ sp then 1 else 0
theorem sp_mayM {Q : Int32 → St → Prop} {σ : St} {r : Nat → Int32} {k t : Nat} (h : limAt σ.1 r k) (hk : k < 3) (ht : t < 36) (q1 : ¬ r (36 * k + t) = 0 → Q 1 σ) (q0 : r (36 * k + t) = 0 → Q 0 σ) : f_X8_may (nI k) (nI t) σ Q := by
  obtain ⟨lo, sp, h1, h2, h3, h4, h5⟩ := h
  unfold f_X8_may
  rw [nI_clamp (by omega), h3, h4]
  have hin : vp_in (nI k) 3 := vp_in_nI (by omega) (by decide)
  have e : nI t - nI lo + (36 : Int32) = nI (t + 36 - lo) := by
    rw [← pk_sub (a := t + 36) (b := lo) (by omega), ← nI_add, show (36 : Int32) = nI 36 from rfl]
    grind
  rw [e, show nI (t + 36 - lo) - nI (t + 36 - lo) / 36 * 36 = nI ((t + 36 - lo) % 36) from pk_rem (a := t + 36 - lo) (d := 36) (by omega) (by decide) (by decide), nI_ltI (by omega) (by omega)]
  refine ⟨hin, hin, ?_⟩
  rw [h5 t ht] at q1 q0
  by_cases c : (t + 36 - lo) % 36 ≤ sp
  · rw [if_pos c] at q1
    exact bf (by omega) (q1 (by decide))
  · rw [if_neg c] at q0
    exact bt (by omega) (q0 rfl)
theorem ud_none {t : Nat} {s : Int} (hs : s < 2 ^ 60) : ud none t s = some (t, s) := by
  unfold ud lv; rw [if_neg]; show ¬ (2 ^ 60 : Int) ≤ s; omega
theorem ud_some {q : Nat × Int} {t : Nat} {s : Int} : ud (some q) t s = if q.2 ≤ s then some q else some (t, s) := rfl
theorem thM_loop {Q : St → Prop} {K9 : Int32 → Int32 → Int32 → St → Prop} {K18 : Int32 → Int32 → Int32 → Int32 → St → Prop} {A0 : Nat → Nat → Int32} {r : Nat → Int32} {L z : Nat → Int} {a b : Nat} {p : Option (Nat × Int)} (hL : envL L z) (hl : ∀ k, k < 3 → limAt A0 r k) (hA : ∀ i, i < 3 → A0 0 i = IZ (L i)) (hc : ∀ j, j < 36 → A0 18 j = COF j) (ha : a < 36) (hb : b < 36) (hm : ¬ r (36 + b) = 0) (hQ : ∀ A ls, nM A0 (thr r L z a b p 36) A ls → K18 (IZ (z 0)) (IZ (z 1)) (nI a) (nI (b + 1)) (A, ls)) : ∀ (m c : Nat) (A : Nat → Nat → Int32) (ls : Nat → Nat → Int64), c + m = 36 → nM A0 (thr r L z a b p c) A ls → f_X8_findNearest_b37 Q K9 K18 (m + 1) (IZ (z 0)) (IZ (z 1)) (nI a) (nI b) (nI c) (A, ls) := by
  intro m
  induction m with
  | zero =>
    intro c A ls hcm hn
    have : c = 36 := by omega
    subst this
    unfold f_X8_findNearest_b37
    refine bt (by decide) (fun x hx => ?_)
    rw [hx, nI_1]; exact hQ A ls hn
  | succ m ih =>
    intro c A ls hcm hn
    have ih' := fun A ls => ih (c + 1) A ls (by omega)
    unfold thr at ih'
    obtain ⟨n1, n2, n3, n4⟩ := id hn
    have hl' : ∀ k, k < 3 → limAt ((A, ls) : St).1 r k := fun k hk => by
      have := hl k hk
      unfold limAt at this ⊢
      rw [show ((A, ls) : St).1 19 = A0 19 from n1 19 (by decide), show ((A, ls) : St).1 20 = A0 20 from n1 20 (by decide)]; exact this
    have hcs : rCs (A, ls) := fun j hj => by rw [show ((A, ls) : St).1 18 = A0 18 from n1 18 (by decide)]; exact hc j hj
    unfold f_X8_findNearest_b37
    refine bf (nI_ge (a := c) (b := 36) (by omega) (by decide)) (sp_mayM (k := 1) (hl' 1 (by decide)) (by decide) hb (fun _ => bf one_ne ?_) (fun h => absurd h hm))
    refine sp_mayM (k := 2) (hl' 2 (by decide)) (by decide) (show c < 36 by omega) (fun h2 => bf one_ne ?_) (fun h2 => bt rfl ?_)
    · rw [if_neg h2] at ih'
      rw [nI_add, nI_add]
      have w0 := W3_b hL (b := b) (c := c) (show 0 < 2 by decide) ha
      have w1 := W3_b hL (b := b) (c := c) (show 1 < 2 by decide) ha
      have sb := sqs_b hL (b := b) (c := c) ha
      refine sp_c hcs (by omega) (sp_c hcs (by omega) (sp_c hcs (by omega) (nmx (sp_s hcs (by omega) (sp_s hcs (by omega) (sp_s hcs (by omega) (nmx (nmx ?_))))))))
      have e0 : ((A, ls) : St).1 0 = A0 0 := n1 0 (by decide)
      rw [e0, hA 0 (by decide), hA 1 (by decide), hA 2 (by decide), Nat.mod_eq_of_lt ha, cof_IZ, cof_IZ, cof_IZ, sof_IZ, sof_IZ, sof_IZ, show (65 : Int32) = IZ 65 from rfl]
      simp only [IZ_mul, IZ_add, IZ_sub]
      rw [show L 0 * ccI 0 a + L 1 * ccI 0 ((a + b) % 36) + L 2 * ccI 0 ((a + b + c) % 36) - 65 * z 0 = -(W3 L z 0 a b c) by unfold W3 W2 W1; omega]
      rw [show L 0 * ccI 1 a + L 1 * ccI 1 ((a + b) % 36) + L 2 * ccI 1 ((a + b + c) % 36) - 65 * z 1 = -(W3 L z 1 a b c) by unfold W3 W2 W1; omega]
      rw [IZ_wide (by omega), IZ_wide (by omega), LZ_mul, LZ_mul, LZ_add, Int.neg_mul_neg, Int.neg_mul_neg]
      rw [show W3 L z 0 a b c * W3 L z 0 a b c + W3 L z 1 a b c * W3 L z 1 a b c = sqs L z a b c from rfl]
      have ok' := ud_ok (t := 10000 * a + 100 * b + c) n4 sb
      have take : ud (thr r L z a b p c) (10000 * a + 100 * b + c) (sqs L z a b c) = some (10000 * a + 100 * b + c, sqs L z a b c) → f_X8_findNearest_b206 Q K9 K18 (fun a1 a2 a3 a4 a5 σ => f_X8_findNearest_b37 Q K9 K18 (m + 1) a1 a2 a3 a4 a5 σ) (IZ (z 0)) (IZ (z 1)) (nI a) (nI b) (nI c) (LZ (sqs L z a b c)) (A, ls) := by
        intro hu
        unfold f_X8_findNearest_b206
        refine nmx (nmx (nmx ?_))
        rw [sL_pair, nI_1, show (10000 : Int32) = nI 10000 from rfl, show (100 : Int32) = nI 100 from rfl, pk_mul, pk_mul, nI_add, nI_add]
        refine ih' (va_up A 21 (upd (A 21) 0 (nI (10000 * a + 100 * b + c)))) (lu ls 3 0 (LZ (sqs L z a b c))) ⟨fun x hx => ?_, ?_, fun q hq => ?_, ok'⟩
        · have : (sI (A, lu ls 3 0 (LZ (sqs L z a b c))) 21 0 (nI (10000 * a + 100 * b + c))).1 x = A x := sI_at hx
          exact this.trans (n1 x hx)
        · rw [lu_on, pk_uLs, hu]; rfl
        · have e21 : (sI (A, lu ls 3 0 (LZ (sqs L z a b c))) 21 0 (nI (10000 * a + 100 * b + c))).1 21 = upd (A 21) 0 (nI (10000 * a + 100 * b + c)) := sI_on
          show (sI (A, lu ls 3 0 (LZ (sqs L z a b c))) 21 0 (nI (10000 * a + 100 * b + c))).1 21 0 = _
          rw [e21, pk_us]
          rw [hu] at hq
          cases hq; rfl
      rw [n2]
      cases ep : thr r L z a b p c with
      | none =>
        rw [ep] at take
        exact bt (show LZ (-1) < 0 by decide) (take (ud_none sb.2))
      | some q =>
        rw [ep] at take n4 hn ih'
        have q0 : 0 ≤ q.2 := n4.1
        have q2 : q.2 ≤ 2 ^ 60 := n4.2
        rw [show mvv (some q) = q.2 from rfl, i64_lt, LZ_toInt (by omega), show (0 : Int64).toInt = 0 from rfl, LZ_le (by omega) (by omega)]
        refine bf (by omega) ?_
        by_cases k : q.2 ≤ sqs L z a b c
        · refine bt k (fun x hx => ?_)
          rw [hx, nI_1]
          refine ih' A ls ?_
          rw [ud_some, if_pos k]; exact hn
        · refine bf k (take ?_)
          rw [ud_some, if_neg k]
    · rw [if_pos h2] at ih'
      intro x hx
      rw [hx, nI_1]
      exact ih' A ls hn
theorem seM_loop {Q : St → Prop} {K9 : Int32 → Int32 → Int32 → St → Prop} {A0 : Nat → Nat → Int32} {r : Nat → Int32} {L z : Nat → Int} {a : Nat} {p : Option (Nat × Int)} (hL : envL L z) (hl : ∀ k, k < 3 → limAt A0 r k) (hA : ∀ i, i < 3 → A0 0 i = IZ (L i)) (hc : ∀ j, j < 36 → A0 18 j = COF j) (ha : a < 36) (hm : ¬ r a = 0) (hQ : ∀ A ls, nM A0 (sec r L z a p 36) A ls → K9 (IZ (z 0)) (IZ (z 1)) (nI (a + 1)) (A, ls)) : ∀ (m b : Nat) (A : Nat → Nat → Int32) (ls : Nat → Nat → Int64), b + m = 36 → nM A0 (sec r L z a p b) A ls → f_X8_findNearest_b18 Q K9 (m + 1) (IZ (z 0)) (IZ (z 1)) (nI a) (nI b) (A, ls) := by
  intro m
  induction m with
  | zero =>
    intro b A ls hbm hn
    have : b = 36 := by omega
    subst this
    unfold f_X8_findNearest_b18
    refine bt (by decide) (fun x hx => ?_)
    rw [hx, nI_1]; exact hQ A ls hn
  | succ m ih =>
    intro b A ls hbm hn
    have ih' := fun A ls => ih (b + 1) A ls (by omega)
    unfold sec at ih'
    obtain ⟨n1, n2, n3, n4⟩ := id hn
    have hl' : ∀ k, k < 3 → limAt ((A, ls) : St).1 r k := fun k hk => by
      have := hl k hk
      unfold limAt at this ⊢
      rw [show ((A, ls) : St).1 19 = A0 19 from n1 19 (by decide), show ((A, ls) : St).1 20 = A0 20 from n1 20 (by decide)]; exact this
    unfold f_X8_findNearest_b18
    refine bf (nI_ge (a := b) (b := 36) (by omega) (by decide)) (sp_mayM (k := 0) (r := r) (hl' 0 (by decide)) (by decide) ha (fun _ => bf one_ne ⟨37, ?_⟩) (fun h => absurd (by simpa using h) hm))
    by_cases e : r (36 + b) = 0
    · rw [if_pos e] at ih'
      unfold f_X8_findNearest_b37
      refine bf (by decide) (sp_mayM (k := 1) (r := r) (hl' 1 (by decide)) (by decide) (show b < 36 by omega) (fun h => absurd e h) (fun _ => bt rfl (fun x hx => ?_)))
      rw [hx, nI_1]
      exact ih' A ls hn
    · rw [if_neg e] at ih'
      exact thM_loop (p := sec r L z a p b) hL hl hA hc ha (by omega) e (fun A' ls' hn' => ih' A' ls' hn') 36 0 A ls rfl hn
theorem fsM_loop {Q : St → Prop} {A0 : Nat → Nat → Int32} {r : Nat → Int32} {L z : Nat → Int} (hL : envL L z) (hl : ∀ k, k < 3 → limAt A0 r k) (hA : ∀ i, i < 3 → A0 0 i = IZ (L i)) (hc : ∀ j, j < 36 → A0 18 j = COF j) (hQ : ∀ A ls, nM A0 (fsts r L z 36) A ls → Q (A, ls)) : ∀ (m a : Nat) (A : Nat → Nat → Int32) (ls : Nat → Nat → Int64), a + m = 36 → nM A0 (fsts r L z a) A ls → f_X8_findNearest_b9 Q (m + 1) (IZ (z 0)) (IZ (z 1)) (nI a) (A, ls) := by
  intro m
  induction m with
  | zero =>
    intro a A ls ham hn
    have : a = 36 := by omega
    subst this
    unfold f_X8_findNearest_b9
    exact bt (by decide) (hQ A ls hn)
  | succ m ih =>
    intro a A ls ham hn
    have ih' := fun A ls => ih (a + 1) A ls (by omega)
    unfold fsts at ih'
    obtain ⟨n1, n2, n3, n4⟩ := id hn
    have hl' : ∀ k, k < 3 → limAt ((A, ls) : St).1 r k := fun k hk => by
      have := hl k hk
      unfold limAt at this ⊢
      rw [show ((A, ls) : St).1 19 = A0 19 from n1 19 (by decide), show ((A, ls) : St).1 20 = A0 20 from n1 20 (by decide)]; exact this
    unfold f_X8_findNearest_b9
    refine bf (nI_ge (a := a) (b := 36) (by omega) (by decide)) ⟨37, ?_⟩
    by_cases e : r a = 0
    · rw [if_pos e] at ih'
      unfold f_X8_findNearest_b18
      refine bf (by decide) (sp_mayM (k := 0) (r := r) (hl' 0 (by decide)) (by decide) (show a < 36 by omega) (fun h => absurd e (by simpa using h)) (fun _ => bt rfl (fun x hx => ?_)))
      rw [hx, nI_1]
      exact ih' A ls hn
    · rw [if_neg e] at ih'
      exact seM_loop (p := fsts r L z a) hL hl hA hc (by omega) e (fun A' ls' hn' => ih' A' ls' hn') 36 0 A ls rfl hn
theorem sp_findNearest {Q : St → Prop} {X M : St} {x y : Int32} (hR : RelX X M) (hx : inr x (-3000) 3000) (hy : inr y (-3000) 3000) (hQ : ∀ τ', eqM M τ' → τ'.2 3 0 = LZ (mvv (nst X x y)) → (∀ q, nst X x y = some q → τ'.1 21 0 = nI q.1) → Q τ') : f_X8_findNearest x y M Q := by
  obtain ⟨hLen, ⟨P, hP⟩, hCam, hLim, hShe, hLat, hCs⟩ := id hR
  unfold f_X8_findNearest
  refine nmx ⟨37, ?_⟩
  have key := fsM_loop (Q := Q) (A0 := M.1) (r := X.1 11) (L := lenI X) (z := plc x y) (env_of hLen.lens hx hy) hLim (fun i hi => by rw [← (hLen i hi).1]; exact IZ_of _) hCs (fun A ls hn => ?_) 36 0 M.1 (lu M.2 3 0 (-1)) rfl ⟨fun _ _ => rfl, ?_, fun q hq => (by cases hq), (show okp none from ⟨by decide, by decide⟩)⟩
  · have e1 : IZ (plc x y 0) = x := (IZ_of x).symm
    have e2 : IZ (plc x y 1) = y := (IZ_of y).symm
    rw [e1, e2] at key
    exact key
  · obtain ⟨n1, n2, n3, n4⟩ := hn
    exact hQ (A, ls) (fun k a b c d => n1 k c) n2 n3
  · rw [lu_on, pk_uLs]; rfl
/-- something is found -/
theorem ud_nn {p : Option (Nat × Int)} {t : Nat} {s : Int} (hs : s < 2 ^ 60) : ud p t s ≠ none := by
  cases p with
  | none => rw [ud_none hs]; exact fun h => by cases h
  | some q => rw [ud_some]; split <;> exact fun h => by cases h
theorem thr_nn {r : Nat → Int32} {L z : Nat → Int} {a b : Nat} {p : Option (Nat × Int)} (hL : envL L z) (ha : a < 36) (h : p ≠ none) : ∀ c, thr r L z a b p c ≠ none := by
  intro c
  induction c with
  | zero => exact h
  | succ c ih =>
    unfold thr
    by_cases e : r (72 + c) = 0
    · rw [if_pos e]; exact ih
    · rw [if_neg e]; exact ud_nn (sqs_b hL ha).2
theorem thr_nn2 {r : Nat → Int32} {L z : Nat → Int} {a b : Nat} {p : Option (Nat × Int)} (hL : envL L z) (ha : a < 36) {c0 : Nat} (h : ¬ r (72 + c0) = 0) : ∀ c, c0 < c → thr r L z a b p c ≠ none := by
  intro c
  induction c with
  | zero => intro h0; omega
  | succ c ih =>
    intro h0
    unfold thr
    by_cases e : r (72 + c) = 0
    · rw [if_pos e]
      refine ih (Classical.byContradiction (fun hc => h ?_))
      rw [show c0 = c by omega]; exact e
    · rw [if_neg e]; exact ud_nn (sqs_b hL ha).2
theorem sec_nn {r : Nat → Int32} {L z : Nat → Int} {a : Nat} {p : Option (Nat × Int)} (hL : envL L z) (ha : a < 36) (h : p ≠ none) : ∀ b, sec r L z a p b ≠ none := by
  intro b
  induction b with
  | zero => exact h
  | succ b ih =>
    unfold sec
    by_cases e : r (36 + b) = 0
    · rw [if_pos e]; exact ih
    · rw [if_neg e]; exact thr_nn hL ha ih 36
theorem sec_nn2 {r : Nat → Int32} {L z : Nat → Int} {a : Nat} {p : Option (Nat × Int)} (hL : envL L z) (ha : a < 36) {b0 c0 : Nat} (hb : ¬ r (36 + b0) = 0) (hc : ¬ r (72 + c0) = 0) (hc0 : c0 < 36) : ∀ b, b0 < b → sec r L z a p b ≠ none := by
  intro b
  induction b with
  | zero => intro h0; omega
  | succ b ih =>
    intro h0
    unfold sec
    by_cases e : r (36 + b) = 0
    · rw [if_pos e]
      refine ih (Classical.byContradiction (fun hcc => hb ?_))
      rw [show b0 = b by omega]; exact e
    · rw [if_neg e]; exact thr_nn2 hL ha hc 36 hc0
theorem fst_nn {r : Nat → Int32} {L z : Nat → Int} (hL : envL L z) {a0 b0 c0 : Nat} (ha : ¬ r a0 = 0) (hb : ¬ r (36 + b0) = 0) (hc : ¬ r (72 + c0) = 0) (hb0 : b0 < 36) (hc0 : c0 < 36) : ∀ a, a0 < a → a ≤ 36 → fsts r L z a ≠ none := by
  intro a
  induction a with
  | zero => intro h0; omega
  | succ a ih =>
    intro h0 h36
    unfold fsts
    by_cases e : r a = 0
    · rw [if_pos e]
      refine ih (Classical.byContradiction (fun hcc => ha ?_)) (by omega)
      rw [show a0 = a by omega]; exact e
    · rw [if_neg e]; exact sec_nn2 hL (by omega) hb hc hc0 36 hb0
theorem lim_1 {X M : St} (h : rLim X M) {k : Nat} (hk : k < 3) : ∃ t, t < 36 ∧ ¬ X.1 11 (36 * k + t) = 0 := by
  obtain ⟨lo, sp, h1, h2, h3, h4, h5⟩ := h k hk
  refine ⟨lo, h1, ?_⟩
  rw [h5 lo h1, if_pos (by omega)]; decide
theorem nst_some {X M : St} {x y : Int32} (hR : RelX X M) (hx : inr x (-3000) 3000) (hy : inr y (-3000) 3000) : ∃ q, nst X x y = some q := by
  obtain ⟨hLen, ⟨P, hP⟩, hCam, hLim, hShe, hLat, hCs⟩ := id hR
  obtain ⟨a0, ha0, ha⟩ := lim_1 hLim (show 0 < 3 by decide)
  obtain ⟨b0, hb0, hb⟩ := lim_1 hLim (show 1 < 3 by decide)
  obtain ⟨c0, hc0, hc⟩ := lim_1 hLim (show 2 < 3 by decide)
  have := fst_nn (r := X.1 11) (env_of (X := X) (x := x) (y := y) hLen.lens hx hy) (a0 := a0) (b0 := b0) (c0 := c0) (by simpa using ha) hb hc hb0 hc0 36 ha0 (Nat.le_refl 36)
  show ∃ q, fsts (X.1 11) (lenI X) (plc x y) 36 = some q
  cases e : fsts (X.1 11) (lenI X) (plc x y) 36 with
  | none => exact absurd e this
  | some q => exact ⟨q, rfl⟩
theorem sp_plX1 {Q : Int32 → St → Prop} {x y : Int32} {σ : St} (hx : inr x (-3000) 3000) (hy : inr y (-3000) 3000) (q : Q 1 σ) : f_X2_isPlace x y σ Q := by
  unfold f_X2_isPlace
  rw [i32_lt, i32_lt, i32_lt, i32_lt, show (-3000 : Int32).toInt = -3000 by decide, show (3000 : Int32).toInt = 3000 by decide]
  have a := hx.1
  have b := hx.2
  have c := hy.1
  have d := hy.2
  exact bf (by omega) (bf (by omega) (bf (by omega) (bf (by omega) q)))
theorem sp_plX0 {Q : Int32 → St → Prop} {x y : Int32} {σ : St} (h : ¬ (inr x (-3000) 3000 ∧ inr y (-3000) 3000)) (q : Q 0 σ) : f_X2_isPlace x y σ Q := by
  unfold f_X2_isPlace
  rw [i32_lt, i32_lt, i32_lt, i32_lt, show (-3000 : Int32).toInt = -3000 by decide, show (3000 : Int32).toInt = 3000 by decide]
  refine ⟨fun _ => q, fun a => ⟨fun _ => q, fun b => ⟨fun _ => q, fun c => ⟨fun _ => q, fun d => absurd ⟨⟨?_, ?_⟩, ?_, ?_⟩ h⟩⟩⟩⟩ <;> omega
theorem sp_plM1 {Q : Int32 → St → Prop} {x y : Int32} {σ : St} (hx : inr x (-3000) 3000) (hy : inr y (-3000) 3000) (q : Q 1 σ) : f_X8_isPlace x y σ Q := by
  unfold f_X8_isPlace
  exact wM1 (a := -3000) (b := 3000) (by decide) (by decide) hx (bf one_ne (wM1 (a := -3000) (b := 3000) (by decide) (by decide) hy (bf one_ne q)))
theorem sp_plM0 {Q : Int32 → St → Prop} {x y : Int32} {σ : St} (h : ¬ (inr x (-3000) 3000 ∧ inr y (-3000) 3000)) (q : Q 0 σ) : f_X8_isPlace x y σ Q := by
  unfold f_X8_isPlace
  by_cases hx : inr x (-3000) 3000
  · exact wM1 (a := -3000) (b := 3000) (by decide) (by decide) hx (bf one_ne (wM0 (a := -3000) (b := 3000) (by decide) (by decide) (fun hy => h ⟨hx, hy⟩) (bt rfl q)))
  · exact wM0 (a := -3000) (b := 3000) (by decide) (by decide) hx (bt rfl q)
theorem ob_nearest : Ob_nearest RelX := by
  intro σ τ a1 a2 hR
  unfold f_X7_nearest
  by_cases h : inr a1 (-3000) 3000 ∧ inr a2 (-3000) 3000
  · obtain ⟨q, hq⟩ := nst_some hR h.1 h.2
    refine sp_plX1 h.1 h.2 (nt one_ne (sp_seek hR.1.lens h.1 h.2 (fun σ' hx _ e2 => ?_)))
    unfold f_X8_nearest
    refine sp_plM1 h.1 h.2 (nt one_ne (sp_findNearest hR h.1 h.2 (fun τ' hm _ e4 => ⟨?_, hR.keep hx hm⟩)))
    rw [e2 q hq, e4 q hq]
  · refine sp_plX0 h (nf rfl ?_)
    unfold f_X8_nearest
    exact sp_plM0 h (nf rfl ⟨rfl, hR⟩)
theorem ob_near : Ob_near RelX := by
  intro σ τ a1 a2 hR
  unfold f_X7_near
  by_cases h : inr a1 (-3000) 3000 ∧ inr a2 (-3000) 3000
  · obtain ⟨q, hq⟩ := nst_some hR h.1 h.2
    refine sp_plX1 h.1 h.2 (nt one_ne (sp_seek hR.1.lens h.1 h.2 (fun σ' hx e1 _ => ?_)))
    unfold f_X8_near
    refine sp_plM1 h.1 h.2 (nt one_ne (sp_findNearest hR h.1 h.2 (fun τ' hm e3 _ => ⟨?_, hR.keep hx hm⟩)))
    rw [e1, e3, hq]; rfl
  · refine sp_plX0 h (nf rfl ?_)
    unfold f_X8_near f_X8_no
    exact sp_plM0 h (nf rfl ⟨by decide, hR⟩)
