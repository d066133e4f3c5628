/-! ===== the nearest posture: the class's loops ===== -/
theorem thr_ok {r : Nat → Int32} {L z : Nat → Int} {a b : Nat} {p : Option (Nat × Int)} (hL : envL L z) (ha : a < 36) (h : okp p) : ∀ c, okp (thr r L z a b p c) := by
  intro c
  induction c with
  | zero => exact h
  | succ c ih =>
    unfold thr
    by_cases e : r (72 + c) = 0
    · rw [if_pos e]; exact ih
    · rw [if_neg e]; exact ud_ok ih (sqs_b hL ha)
theorem seX_loop {Q : St → Prop} {A0 : Nat → Nat → Int32} {L z : Nat → Int} {a : Nat} {p : Option (Nat × Int)} (hL : envL L z) (h12 : A0 12 0 = IZ (L 2)) (ha : a < 36) (hQ : ∀ A ls, nX A0 (sec (A0 11) L z a p 36) A ls → Q (A, ls)) : ∀ (m b : Nat) (A : Nat → Nat → Int32) (ls : Nat → Nat → Int64), b + m = 36 → nX A0 (sec (A0 11) L z a p b) A ls → f_X2_seekSecond_b3 Q (m + 1) (nI a) (IZ (L 1)) (IZ (W1 L z 0 a)) (IZ (W1 L z 1 a)) (nI b) (A, ls) := by
  intro m
  induction m with
  | zero =>
    intro b A ls hb hn
    have : b = 36 := by omega
    subst this
    unfold f_X2_seekSecond_b3
    exact bt (by decide) (hQ A ls hn)
  | succ m ih =>
    intro b A ls hb hn
    have ih' := fun A ls => ih (b + 1) A ls (by omega)
    unfold sec at ih'
    obtain ⟨n1, n2, n3, n4⟩ := id hn
    unfold f_X2_seekSecond_b3
    rw [nI_1, show (36 : Int32) + nI b = nI (36 + b) from nI_add 36 b, nI_add, nI_clamp (by omega)]
    refine bf (nI_ge (a := b) (b := 36) (by omega) (by decide)) ⟨vp_in_nI (by omega) (by decide), ?_⟩
    have e11 : ((A, ls) : St).1 11 = A0 11 := n1 11 (by decide)
    rw [e11]
    by_cases e : A0 11 (36 + b) = 0
    · rw [if_pos e] at ih'
      exact bt e (nmx (ih' A ls hn))
    · rw [if_neg e] at ih'
      have w0 := W2_b hL (b := b) (show 0 < 2 by decide) ha
      have w1 := W2_b hL (b := b) (show 1 < 2 by decide) ha
      have l2 := hL.1 2 (by decide)
      refine bf e (sp_round (by omega) (sp_cOf (by omega) (nmx (sp_sOf (by omega) (nmx ?_)))))
      rw [cof_IZ, sof_IZ, IZ_mul, IZ_mul, IZ_sub, IZ_sub]
      rw [show W1 L z 0 a - L 1 * ccI 0 ((a + b) % 36) = W2 L z 0 a b from rfl, show W1 L z 1 a - L 1 * ccI 1 ((a + b) % 36) = W2 L z 1 a b from rfl]
      have e12 : ((A, ls) : St).1 12 0 = IZ (L 2) := by show A 12 0 = _; rw [n1 12 (by decide)]; exact h12
      have ab := alr_b (u := W2 L z 0 a b) (v := W2 L z 1 a b) (l := L 2) (by omega) (by omega) (by omega)
      refine sp_alr (by omega) (by omega) e12 (by omega) ?_
      rw [show ((A, ls) : St).2 3 0 = LZ (lv (sec (A0 11) L z a p b)) from n2, LZ_le (lv_i64 n4) (by omega)]
      by_cases k : lv (sec (A0 11) L z a p b) ≤ alr (W2 L z 0 a b) (W2 L z 1 a b) (L 2)
      · refine bt k (nmx (ih' A ls ?_))
        rw [thr_keep hL k]; exact hn
      · refine bf k ?_
        unfold f_X2_seekThird
        rw [show (100 : Int32) = nI 100 from rfl, pk_mul, nI_add, pk_mul]
        exact ⟨37, thX_loop (p := sec (A0 11) L z a p b) hL h12 ha (by omega) (fun A' ls' hn' => by intro x hx; rw [hx]; exact ih' A' ls' hn') 36 0 A ls rfl hn⟩
theorem fsX_loop {Q : St → Prop} {A0 : Nat → Nat → Int32} {L z : Nat → Int} (hL : envL L z) (h12 : A0 12 0 = IZ (L 2)) (h00 : A0 0 0 = IZ (L 0)) (h01 : A0 0 1 = IZ (L 1)) (hQ : ∀ A ls, nX A0 (fsts (A0 11) L z 36) A ls → Q (A, ls)) : ∀ (m a : Nat) (A : Nat → Nat → Int32) (ls : Nat → Nat → Int64), a + m = 36 → nX A0 (fsts (A0 11) L z a) A ls → f_X2_seek_b17 Q (m + 1) (IZ (z 0)) (IZ (z 1)) (nI a) (A, ls) := by
  intro m
  induction m with
  | zero =>
    intro a A ls hb hn
    have : a = 36 := by omega
    subst this
    unfold f_X2_seek_b17
    exact bt (by decide) (hQ A ls hn)
  | succ m ih =>
    intro a A ls hb hn
    have ih' := fun A ls => ih (a + 1) A ls (by omega)
    unfold fsts at ih'
    obtain ⟨n1, n2, n3, n4⟩ := id hn
    unfold f_X2_seek_b17
    rw [nI_1, nI_clamp (by omega)]
    refine bf (nI_ge (a := a) (b := 36) (by omega) (by decide)) ⟨vp_in_nI (by omega) (by decide), ?_⟩
    have e11 : ((A, ls) : St).1 11 = A0 11 := n1 11 (by decide)
    have e0 : ((A, ls) : St).1 0 = A0 0 := n1 0 (by decide)
    rw [e11]
    by_cases e : A0 11 a = 0
    · rw [if_pos e] at ih'
      exact bt e (nmx (ih' A ls hn))
    · rw [if_neg e] at ih'
      refine bf e (sp_cOf (by omega) (nmx (sp_sOf (by omega) (nmx ?_))))
      rw [e0, h00, h01, cof_IZ, sof_IZ, show (65 : Int32) = IZ 65 from rfl, IZ_mul, IZ_mul, IZ_mul, IZ_mul, IZ_sub, IZ_sub]
      rw [show 65 * z 0 - L 0 * ccI 0 a = W1 L z 0 a from rfl, show 65 * z 1 - L 0 * ccI 1 a = W1 L z 1 a from rfl]
      unfold f_X2_seekSecond
      exact ⟨37, seX_loop (p := fsts (A0 11) L z a) hL h12 (by omega) (fun A' ls' hn' => by intro x hx; rw [hx]; exact ih' A' ls' hn') 36 0 A ls rfl hn⟩
def lenI (X : St) (i : Nat) : Int := (X.1 0 i).toInt
def plc (x y : Int32) (w : Nat) : Int := if w = 0 then x.toInt else y.toInt
def nst (X : St) (x y : Int32) : Option (Nat × Int) := fsts (X.1 11) (lenI X) (plc x y) 36
theorem env_of {X : St} {x y : Int32} (hl : lens X) (hx : inr x (-3000) 3000) (hy : inr y (-3000) 3000) : envL (lenI X) (plc x y) := by
  refine ⟨fun i hi => len_in hl hi, fun w hw => ?_⟩
  unfold plc
  split
  · exact hx
  · exact hy
theorem sp_seek {Q : St → Prop} {X : St} {x y : Int32} (hl : lens X) (hx : inr x (-3000) 3000) (hy : inr y (-3000) 3000) (hQ : ∀ σ', eqX X σ' → σ'.2 3 0 = LZ (lv (nst X x y)) → (∀ q, nst X x y = some q → σ'.1 13 0 = nI q.1) → Q σ') : f_X2_seek x y X Q := by
  unfold f_X2_seek
  refine nmx (nmx ⟨37, ?_⟩)
  have key := fsX_loop (Q := Q) (A0 := (sI (sL X 3 0 (1152921504606846976 : Int64)) 12 0 ((sL X 3 0 (1152921504606846976 : Int64)).1 0 2)).1) (L := lenI X) (z := plc x y) (env_of hl hx hy) (by rw [sI_on, pk_us]; exact IZ_of _) (by rw [sI_at (by decide)]; exact IZ_of _) (by rw [sI_at (by decide)]; exact IZ_of _) (fun A ls hn => ?_) 36 0 (sI (sL X 3 0 (1152921504606846976 : Int64)) 12 0 ((sL X 3 0 (1152921504606846976 : Int64)).1 0 2)).1 (sI (sL X 3 0 (1152921504606846976 : Int64)) 12 0 ((sL X 3 0 (1152921504606846976 : Int64)).1 0 2)).2 rfl ⟨fun _ _ => rfl, ?_, fun q hq => (by cases hq), (show okp none from ⟨by decide, by decide⟩)⟩
  · have e1 : IZ (plc x y 0) = x := (IZ_of x).symm
    have e2 : IZ (plc x y 1) = y := (IZ_of y).symm
    rw [e1, e2] at key
    exact key
  · obtain ⟨n1, n2, n3, n4⟩ := hn
    refine hQ (A, ls) (fun k a b c d e => (n1 k c).trans ?_) n2 n3
    rw [sI_at b]; rfl
  · rw [sI_2, sL_on, pk_uLs]; rfl
